def am_tag (a : ArrayType) : Nat := match a with
  | .int => 1
  | .long => 2
  | .char => 3
  | .boolean => 4
  | _ => 9
/-! ===== the code rows and the tables' words are what the machine has ===== -/
def am_len (i : Instr) : Nat := match i with
  | .iload _ => 2
  | .lload _ => 2
  | .aload _ => 2
  | .istore _ => 2
  | .lstore _ => 2
  | .astore _ => 2
  | .bipush _ => 2
  | .sipush _ => 3
  | .ldc _ => 2
  | .ldc_w _ => 3
  | .ldc2_w _ => 3
  | .iinc _ _ => 3
  | .goto _ => 3
  | .ifCond _ _ => 3
  | .if_icmp _ _ => 3
  | .getfield _ => 3
  | .putfield _ => 3
  | .invokevirtual _ => 3
  | .invokestatic _ => 3
  | .invokespecial _ => 3
  | .new _ => 3
  | .newarray _ => 2
  | _ => 1
def am_has4 (L : List (Nat × Nat × Nat × Nat)) (k x y : Nat) : Bool := L.any (fun q => Nat.beq q.1 k && (Nat.beq q.2.1 x && Nat.beq q.2.2.1 y))
def am_has3 (L : List (Nat × Nat × Nat)) (k x : Nat) : Bool := L.any (fun q => Nat.beq q.1 k && Nat.beq q.2.1 x)
def am_fw (pc : Nat) (o : Int) : Bool := decide (0 ≤ (pc : Int) + o)
def am_i32 (v : Int) : Bool := decide (-2147483648 ≤ v) && decide (v < 2147483648)
def am_opk (mc pc : Nat) (i : Instr) (n x y : Nat) : Bool := match i with
  | .bipush v => decide (-128 ≤ v) && decide (v < 128)
  | .sipush v => decide (-32768 ≤ v) && decide (v < 32768)
  | .goto o => am_fw pc o
  | .ifCond _ o => am_fw pc o
  | .if_icmp _ o => am_fw pc o
  | .tableswitch d lo hi os => am_fw pc d && (am_i32 lo && (am_i32 hi && (decide (hi = lo + os.size - 1) && os.toList.all (fun o => am_fw pc o))))
  | .lookupswitch d os => am_fw pc d && ((os.toList.zip (os.toList.drop 1)).all (fun (a, next) => a.1 < next.1) && os.toList.all (fun o => am_i32 o.1 && am_fw pc o.2))
  | .getfield j => am_has4 am_FL (mc * 100000 + j) x y
  | .putfield j => am_has4 am_FL (mc * 100000 + j) x y
  | .invokevirtual j => am_has4 am_ML (mc * 100000 + j) x y
  | .invokestatic j => am_has4 am_ML (mc * 100000 + j) x y
  | .invokespecial j => am_has4 am_ML (mc * 100000 + j) x y
  | .new j => am_has3 am_CL (mc * 100000 + j) x
  | .ldc j => bif Nat.beq y 0 then am_has3 am_KL (mc * 100000 + j) x else (Nat.beq mc 9 && Nat.beq j 22)
  | .ldc_w j => am_has3 am_KL (mc * 100000 + j) x
  | .ldc2_w j => am_has3 am_JL (mc * 100000 + j) x
  | .newarray t => Nat.ble (am_tag t) 4
  | _ => true
def am_sw (i : Instr) : Bool := match i with
  | .tableswitch _ _ _ _ => true
  | .lookupswitch _ _ => true
  | _ => false
def am_chk1 (mr : am_Mr) (r : Nat × am_In) : Bool := decide (decode mr.2.1 r.1 = .ok (r.2.1, r.2.2.1)) && ((am_sw r.2.1 || Nat.beq r.2.2.1 (am_len r.2.1)) && am_opk mr.2.2.2.2.2.2.1 r.1 r.2.1 r.2.2.1 r.2.2.2.1 r.2.2.2.2)
def am_chk (q : am_Mr × List (Nat × am_In)) : Bool := q.2.all (am_chk1 q.1)

/-! ===== am_: an abstract machine over a memory of numbers; the class's and the law's own code runs in it ===== -/
abbrev am_Mem : Type := (Nat → Nat → Int32) × (Nat → Nat → Int64) × (Nat → Nat → Nat) × Nat
abbrev am_Ls : Type := List (Nat × Value)
abbrev am_S : Type := (Nat × am_Ls × List Value × am_Mem) ⊕ ((Nat × List Value × Nat × am_Ls × List Value × am_Mem) ⊕ Option Value)
abbrev am_R : Type := Option (Option Value × am_Mem)
def am_i (v : Int) : Int32 := Int32.ofInt v
def am_l (v : Int) : Int64 := Int64.ofInt v
def am_find {α : Type} : List (Nat × α) → Nat → Option α
  | [], _ => none
  | q :: r, k => bif Nat.beq q.1 k then some q.2 else am_find r k
def am_st1 (ls : am_Ls) (i : Nat) (v : Value) : am_Ls := (i, v) :: ls.filter (fun q => !(q.1 == i) && !(q.1 + 1 == i && q.2.category == 2))
def am_st2 (ls : am_Ls) (i : Nat) (v : Value) : am_Ls := (i, v) :: ls.filter (fun q => !(q.1 == i) && (!(q.1 == i + 1) && !(q.1 + 1 == i && q.2.category == 2)))
/-- of which kind a cell is: (0, class), (1, n) int[n], (2, n) long[n], (3, n) char[n], (4, n) boolean[n], (5, 0) the script -/
def am_kd (c : Nat) : Nat × Nat := (am_nth am_lay c).getD (9, 0)
def am_cf (n a ci : Nat) : Bool := Nat.blt a n && (Nat.beq (am_kd a).1 0 && Nat.beq (am_kd a).2 ci)
def am_ln (R : Nat → Nat → Nat) (a : Nat) : Nat := bif Nat.beq (am_kd a).1 5 then R 0 0 else (am_kd a).2
def am_ok (i : Int32) (n : Nat) : Bool := decide (0 ≤ i) && decide (i.toNatClampNeg < n)
def am_ia (a : Nat) : Bool := Nat.beq (am_kd a).1 1 || Nat.beq (am_kd a).1 5
def am_ca (n a t : Nat) (i : Int32) : Bool := Nat.blt a n && (Nat.beq (am_kd a).1 t && am_ok i (am_kd a).2)
def am_cs (R : Nat → Nat → Nat) (n a : Nat) (i : Int32) : Bool := Nat.blt a n && (am_ia a && am_ok i (am_ln R a))
def am_zb (v : Int32) : Bool := v == 0 || v == 1
def am_up {α : Type} (f : Nat → Nat → α) (a k : Nat) (v : α) : Nat → Nat → α := fun c j => if c = a then (if j = k then v else f c j) else f c j
def am_cl {α : Type} (f : Nat → Nat → α) (a : Nat) (v : α) : Nat → Nat → α := fun c j => if c = a then v else f c j
def am_cp (f : Nat → Nat → Int32) (a0 sp a dp n : Nat) : Nat → Nat → Int32 := fun c j => if c = a then va_cpy (f a0) (f a) sp dp n j else f c j
def am_cy (n a0 : Nat) (sp : Int32) (a : Nat) (dp k : Int32) : Bool := Nat.blt a n && Nat.blt a0 n && Nat.beq (am_kd a).1 1 && Nat.beq (am_kd a0).1 1 && decide (0 ≤ sp) && decide (0 ≤ dp) && decide (0 ≤ k) && decide (sp.toNatClampNeg + k.toNatClampNeg ≤ (am_kd a0).2) && decide (dp.toNatClampNeg + k.toNatClampNeg ≤ (am_kd a).2)
def am_sum (st : List Value) : Nat := (st.map fun v => v.category).sum
/-- the first true place of a switch -/
def am_pick (x : Int32) : List (Int × Nat) → Nat → Nat
  | [], d => d
  | q :: r, d => if x = am_i q.1 then q.2 else am_pick x r d
def am_tb (pc : Nat) (lo : Int) : List Int → List (Int × Nat)
  | [] => []
  | o :: r => (lo, ((pc : Int) + o).toNat) :: am_tb pc (lo + 1) r
def am_lb (pc : Nat) : List (Int × Int) → List (Int × Nat)
  | [] => []
  | o :: r => (o.1, ((pc : Int) + o.2).toNat) :: am_lb pc r
def am_go (pc : Nat) (ls : am_Ls) (st : List Value) (M : am_Mem) : Option am_S := some (.inl (pc, ls, st, M))
def am_if (b : Bool) (x : Option am_S) : Option am_S := bif b then x else none
def am_jmp (pc : Nat) (o : Int) : Nat := ((pc : Int) + o).toNat
def am_cc (k : ClassFile.Cond) (x y : Int32) : Bool := match k with
  | .eq => decide (x = y)
  | .ne => decide (x ≠ y)
  | .lt => decide (x < y)
  | .ge => decide (y ≤ x)
  | .gt => decide (y < x)
  | .le => decide (x ≤ y)
/-- the first k of a stack, in the order of the arguments, and the rest -/
def am_pop : Nat → List Value → List Value → Option (List Value × List Value)
  | 0, st, acc => some (acc, st)
  | _ + 1, [], _ => none
  | k + 1, v :: st, acc => am_pop k st (v :: acc)
def am_call (mj np n pc : Nat) (ls : am_Ls) (st : List Value) (M : am_Mem) (rcv : Bool) (ci : Nat) : Option am_S :=
  match am_pop np st [] with
  | none => none
  | some (as, st1) =>
    bif rcv then
      match st1 with
      | .ref a :: rest => am_if (Nat.ble (am_sum rest) 8 && am_cf M.2.2.2 a ci) (some (.inr (.inl (mj, .ref a :: as, pc + n, ls, rest, M))))
      | _ => none
    else am_if (Nat.ble (am_sum st1) 8) (some (.inr (.inl (mj, as, pc + n, ls, st1, M))))

def am_mr (mi : Nat) : am_Mr := ((am_nth am_PM mi).getD (am_m0, [])).1
def am_cd (mi : Nat) : List (Nat × am_In) := ((am_nth am_PM mi).getD (am_m0, [])).2
def am_ins (mi pc : Nat) : Option am_In := am_find (am_cd mi) pc
def am_rt (mi : Nat) : Option FieldType := (am_mr mi).2.2.2.1
def am_ml (mi : Nat) : Nat := (am_mr mi).2.2.1
def am_np (mi : Nat) : Nat := (am_mr mi).2.2.2.2.1
def am_mk (mi : Nat) : Nat := (am_mr mi).2.2.2.2.2.1
def am_mc (mi : Nat) : Nat := (am_mr mi).2.2.2.2.2.2.1
def am_fty (ci k : Nat) : Nat × Bool := ((am_nth am_ft ci).bind (fun l => am_nth l k)).getD (9, true)
def am_w (as : List Value) : Nat := (lg_sl as).length
def am_put (mi n pc ci k : Nat) (ls : am_Ls) (st : List Value) (M : am_Mem) : Option am_S :=
  match (am_fty ci k).1, st with
  | 0, .int v :: .ref a :: st => am_if (am_cf M.2.2.2 a ci) (am_go (pc + n) ls st (am_up M.1 a k v, M.2.1, M.2.2.1, M.2.2.2))
  | 1, .int v :: .ref a :: st => am_if (am_cf M.2.2.2 a ci && am_zb v) (am_go (pc + n) ls st (am_up M.1 a k v, M.2.1, M.2.2.1, M.2.2.2))
  | 2, .long v :: .ref a :: st => am_if (am_cf M.2.2.2 a ci) (am_go (pc + n) ls st (M.1, am_up M.2.1 a k v, M.2.2.1, M.2.2.2))
  | 3, .ref v :: .ref a :: st => am_if (am_cf M.2.2.2 a ci) (am_go (pc + n) ls st (M.1, M.2.1, am_up M.2.2.1 a k v, M.2.2.2))
  | _, _ => none
def am_get (n pc ci k : Nat) (ls : am_Ls) (st : List Value) (M : am_Mem) : Option am_S :=
  match (am_fty ci k).1, st with
  | 0, .ref a :: st => am_if (am_cf M.2.2.2 a ci) (am_go (pc + n) ls (.int (M.1 a k) :: st) M)
  | 1, .ref a :: st => am_if (am_cf M.2.2.2 a ci) (am_go (pc + n) ls (.int (M.1 a k) :: st) M)
  | 2, .ref a :: st => am_if (am_cf M.2.2.2 a ci) (am_go (pc + n) ls (.long (M.2.1 a k) :: st) M)
  | 3, .ref a :: st => am_if (am_cf M.2.2.2 a ci) (am_go (pc + n) ls (.ref (M.2.2.1 a k) :: st) M)
  | _, _ => none
def am_str : List Int := [115, 111, 117, 110, 100, 32, 98, 111, 97, 116, 32, 97, 116, 32, 116, 105, 103, 104, 116, 32, 114, 111, 115, 105, 110, 32, 115, 99, 111, 114, 101, 32, 119, 111, 108, 102, 32, 114, 105, 100, 101, 114, 32, 107, 101, 121, 32, 99, 97, 114, 114, 121, 32, 115, 108, 105, 112, 115, 32, 115, 119, 97, 109, 112, 32, 119, 105, 110, 100, 32, 115, 113, 117, 97, 108, 108, 32, 110, 111, 116, 101, 32, 109, 105, 108, 101, 32, 119, 101, 110, 116, 32, 110, 117, 109, 98, 101, 114, 32, 115, 117, 110, 107, 32, 104, 111, 117, 114, 32, 111, 114, 32, 97, 110, 100, 32, 110, 111, 116, 32, 97, 108, 108, 32, 109, 105, 110, 32, 109, 97, 120, 32, 102, 105, 114, 115, 116, 32, 108, 97, 115, 116, 32, 111, 102, 116, 101, 110, 32, 116, 111, 116, 97, 108, 32, 109, 111, 115, 116, 32, 108, 101, 97, 115, 116, 32]
/-- the JDK's own, done at once -/
def am_jdk (y n pc : Nat) (ls : am_Ls) (st : List Value) (M : am_Mem) : Option am_S :=
  match y, st with
  | 10, .int y :: .int x :: st => am_if (Nat.ble (am_sum st) 8) (am_go (pc + n) ls (.int (if x < y then y else x) :: st) M)
  | 11, .int y :: .int x :: st => am_if (Nat.ble (am_sum st) 8) (am_go (pc + n) ls (.int (if y < x then y else x) :: st) M)
  | 12, .int x :: st => am_if (Nat.ble (am_sum st) 8) (am_go (pc + n) ls (.int (if 0 ≤ x then x else 0 - x) :: st) M)
  | 13, .int k :: .int dp :: .ref a :: .int sp :: .ref a0 :: st => am_if (Nat.ble (am_sum st) 8 && am_cy M.2.2.2 a0 sp a dp k)
      (am_go (pc + n) ls st (am_cp M.1 a0 sp.toNatClampNeg a dp.toNatClampNeg k.toNatClampNeg, M.2.1, M.2.2.1, M.2.2.2))
  | 14, .long y :: .long x :: st => am_if (Nat.ble (am_sum st) 8) (am_go (pc + n) ls (.long (if y < x then x else y) :: st) M)
  | 15, .long y :: .long x :: st => am_if (Nat.ble (am_sum st) 8) (am_go (pc + n) ls (.long (if y < x then y else x) :: st) M)
  | 16, .ref a :: st => am_if (Nat.ble (am_sum st) 8 && Nat.beq (am_kd a).1 0) (am_go (pc + n) ls st M)
  | 17, .ref 2 :: st => am_if (Nat.ble (am_sum st) 4) (am_go (pc + n) ls (.int (am_i am_str.length) :: st) M)
  | 18, .int i :: .ref 2 :: st => am_if (Nat.ble (am_sum st) 4 && am_ok i am_str.length) (am_go (pc + n) ls (.int (am_i ((am_nth am_str i.toNatClampNeg).getD 0)) :: st) M)
  | _, _ => none
def am_inv (rcv : Bool) (k0 k1 lo hi : Nat) (n x y pc : Nat) (ls : am_Ls) (st : List Value) (M : am_Mem) : Option am_S :=
  bif Nat.ble lo y && Nat.ble y hi then am_jdk y n pc ls st M
  else bif (Nat.beq y k0 || Nat.beq y k1) then am_call x (am_np x) n pc ls st M rcv (am_mc x) else none
def am_i2 (n pc : Nat) (ls : am_Ls) (st : List Value) (M : am_Mem) (f : Int32 → Int32 → Int32) : Option am_S := match st with
  | .int y :: .int x :: st => am_go (pc + n) ls (.int (f x y) :: st) M
  | _ => none
def am_l2 (n pc : Nat) (ls : am_Ls) (st : List Value) (M : am_Mem) (f : Int64 → Int64 → Int64) : Option am_S := match st with
  | .long y :: .long x :: st => am_go (pc + n) ls (.long (f x y) :: st) M
  | _ => none
def am_ld (k n pc : Nat) (ls : am_Ls) (st : List Value) (M : am_Mem) (t : Nat) : Option am_S := match am_find ls k with
  | some (.int v) => bif Nat.beq t 0 then am_go (pc + n) ls (.int v :: st) M else none
  | some (.long v) => bif Nat.beq t 1 then am_go (pc + n) ls (.long v :: st) M else none
  | some (.ref a) => bif Nat.beq t 2 then am_go (pc + n) ls (.ref a :: st) M else none
  | _ => none
def am_sv (mi k n pc : Nat) (ls : am_Ls) (st : List Value) (M : am_Mem) (t : Nat) : Option am_S := match st with
  | .int v :: st => bif Nat.beq t 0 && Nat.blt k (am_ml mi) then am_go (pc + n) (am_st1 ls k (.int v)) st M else none
  | .long v :: st => bif Nat.beq t 1 && Nat.blt (k + 1) (am_ml mi) then am_go (pc + n) (am_st2 ls k (.long v)) st M else none
  | .ref a :: st => bif Nat.beq t 2 && Nat.blt k (am_ml mi) then am_go (pc + n) (am_st1 ls k (.ref a)) st M else none
  | _ => none
def am_do (i : Instr) (n x y mi pc : Nat) (ls : am_Ls) (st : List Value) (M : am_Mem) : Option am_S := match i with
  | .iconst v => am_go (pc + n) ls (.int (am_i v) :: st) M
  | .bipush v => am_go (pc + n) ls (.int (am_i v) :: st) M
  | .sipush v => am_go (pc + n) ls (.int (am_i v) :: st) M
  | .lconst v => am_go (pc + n) ls (.long (am_l (v : Nat)) :: st) M
  | .ldc _ => bif Nat.beq y 0 then am_go (pc + n) ls (.int (am_i ((am_nth am_kc x).getD 0)) :: st) M else am_go (pc + n) ls (.ref 2 :: st) M
  | .ldc_w _ => bif Nat.beq y 0 then am_go (pc + n) ls (.int (am_i ((am_nth am_kc x).getD 0)) :: st) M else none
  | .ldc2_w _ => am_go (pc + n) ls (.long (am_l ((am_nth am_kl x).getD 0)) :: st) M
  | .iload k => am_ld k n pc ls st M 0
  | .iload_n k => am_ld k n pc ls st M 0
  | .lload k => am_ld k n pc ls st M 1
  | .lload_n k => am_ld k n pc ls st M 1
  | .aload k => am_ld k n pc ls st M 2
  | .aload_n k => am_ld k n pc ls st M 2
  | .istore k => am_sv mi k n pc ls st M 0
  | .istore_n k => am_sv mi k n pc ls st M 0
  | .lstore k => am_sv mi k n pc ls st M 1
  | .lstore_n k => am_sv mi k n pc ls st M 1
  | .astore k => am_sv mi k n pc ls st M 2
  | .astore_n k => am_sv mi k n pc ls st M 2
  | .iinc k v => match am_find ls k with
    | some (.int u) => bif Nat.blt k (am_ml mi) then am_go (pc + n) (am_st1 ls k (.int (u + am_i v))) st M else none
    | _ => none
  | .iadd => am_i2 n pc ls st M (fun x y => x + y)
  | .isub => am_i2 n pc ls st M (fun x y => x - y)
  | .imul => am_i2 n pc ls st M (fun x y => x * y)
  | .iand => am_i2 n pc ls st M (fun x y => x &&& y)
  | .ior => am_i2 n pc ls st M (fun x y => x ||| y)
  | .ixor => am_i2 n pc ls st M (fun x y => x ^^^ y)
  | .ishl => am_i2 n pc ls st M (fun x y => x <<< (y &&& 31))
  | .ishr => am_i2 n pc ls st M (fun x y => x >>> (y &&& 31))
  | .idiv => match st with
    | .int y :: .int x :: st => am_if (!(y == 0)) (am_go (pc + n) ls (.int (x / y) :: st) M)
    | _ => none
  | .irem => match st with
    | .int y :: .int x :: st => am_if (!(y == 0)) (am_go (pc + n) ls (.int (x - x / y * y) :: st) M)
    | _ => none
  | .ladd => am_l2 n pc ls st M (fun x y => x + y)
  | .lsub => am_l2 n pc ls st M (fun x y => x - y)
  | .lmul => am_l2 n pc ls st M (fun x y => x * y)
  | .land => am_l2 n pc ls st M (fun x y => x &&& y)
  | .lor => am_l2 n pc ls st M (fun x y => x ||| y)
  | .ldiv => match st with
    | .long y :: .long x :: st => am_if (!(y == 0)) (am_go (pc + n) ls (.long (x / y) :: st) M)
    | _ => none
  | .lrem => match st with
    | .long y :: .long x :: st => am_if (!(y == 0)) (am_go (pc + n) ls (.long (x - x / y * y) :: st) M)
    | _ => none
  | .lshl => match st with
    | .int y :: .long x :: st => am_go (pc + n) ls (.long (x <<< (y.toInt64 &&& 63)) :: st) M
    | _ => none
  | .lcmp => match st with
    | .long y :: .long x :: st => am_go (pc + n) ls (.int (lg_cmp x y) :: st) M
    | _ => none
  | .i2l => match st with
    | .int x :: st => am_go (pc + n) ls (.long x.toInt64 :: st) M
    | _ => none
  | .l2i => match st with
    | .long x :: st => am_go (pc + n) ls (.int x.toInt32 :: st) M
    | _ => none
  | .dup => match st with
    | .int x :: st => am_go (pc + n) ls (.int x :: .int x :: st) M
    | .ref x :: st => am_go (pc + n) ls (.ref x :: .ref x :: st) M
    | _ => none
  | .dup2 => match st with
    | .int x :: .ref y :: st => am_go (pc + n) ls (.int x :: .ref y :: .int x :: .ref y :: st) M
    | _ => none
  | .pop => match st with
    | .int _ :: st => am_go (pc + n) ls st M
    | _ => none
  | .goto o => am_go (am_jmp pc o) ls st M
  | .ifCond k o => match st with
    | .int x :: st => am_go (bif am_cc k x 0 then am_jmp pc o else pc + n) ls st M
    | _ => none
  | .if_icmp k o => match st with
    | .int y :: .int x :: st => am_go (bif am_cc k x y then am_jmp pc o else pc + n) ls st M
    | _ => none
  | .tableswitch d lo _ os => match st with
    | .int x :: st => am_go (am_pick x (am_tb pc lo os.toList) (am_jmp pc d)) ls st M
    | _ => none
  | .lookupswitch d os => match st with
    | .int x :: st => am_go (am_pick x (am_lb pc os.toList) (am_jmp pc d)) ls st M
    | _ => none
  | .getfield _ => am_get n pc x y ls st M
  | .putfield _ => bif (am_fty x y).2 && !(Nat.beq (am_mk mi) 2 && Nat.beq (am_mc mi) x) then none else am_put mi n pc x y ls st M
  | .new _ => am_if (am_cf (M.2.2.2 + 1) M.2.2.2 x) (am_go (pc + n) ls (.ref M.2.2.2 :: st) (am_cl M.1 M.2.2.2 0, am_cl M.2.1 M.2.2.2 0, am_cl M.2.2.1 M.2.2.2 0, M.2.2.2 + 1))
  | .newarray t => match st with
    | .int k :: st => am_if (decide (0 ≤ k) && Nat.beq (am_kd M.2.2.2).1 (am_tag t) && Nat.beq (am_kd M.2.2.2).2 k.toNatClampNeg && Nat.ble k.toNatClampNeg 100000) (am_go (pc + n) ls (.ref M.2.2.2 :: st) (am_cl M.1 M.2.2.2 0, am_cl M.2.1 M.2.2.2 0, am_cl M.2.2.1 M.2.2.2 0, M.2.2.2 + 1))
    | _ => none
  | .arraylength => match st with
    | .ref a :: st => am_if (Nat.blt a M.2.2.2 && Nat.ble 1 (am_kd a).1 && Nat.ble (am_kd a).1 5) (am_go (pc + n) ls (.int (am_i (am_ln M.2.2.1 a)) :: st) M)
    | _ => none
  | .iaload => match st with
    | .int i :: .ref a :: st => am_if (am_cs M.2.2.1 M.2.2.2 a i) (am_go (pc + n) ls (.int (M.1 a i.toNatClampNeg) :: st) M)
    | _ => none
  | .caload => match st with
    | .int i :: .ref a :: st => am_if (am_ca M.2.2.2 a 3 i) (am_go (pc + n) ls (.int (M.1 a i.toNatClampNeg) :: st) M)
    | _ => none
  | .baload => match st with
    | .int i :: .ref a :: st => am_if (am_ca M.2.2.2 a 4 i) (am_go (pc + n) ls (.int (M.1 a i.toNatClampNeg) :: st) M)
    | _ => none
  | .laload => match st with
    | .int i :: .ref a :: st => am_if (am_ca M.2.2.2 a 2 i) (am_go (pc + n) ls (.long (M.2.1 a i.toNatClampNeg) :: st) M)
    | _ => none
  | .iastore => match st with
    | .int v :: .int i :: .ref a :: st => am_if (am_ca M.2.2.2 a 1 i) (am_go (pc + n) ls st (am_up M.1 a i.toNatClampNeg v, M.2.1, M.2.2.1, M.2.2.2))
    | _ => none
  | .castore => match st with
    | .int v :: .int i :: .ref a :: st => am_if (am_ca M.2.2.2 a 3 i && (vp_nar .char v == v)) (am_go (pc + n) ls st (am_up M.1 a i.toNatClampNeg v, M.2.1, M.2.2.1, M.2.2.2))
    | _ => none
  | .bastore => match st with
    | .int v :: .int i :: .ref a :: st => am_if (am_ca M.2.2.2 a 4 i && am_zb v) (am_go (pc + n) ls st (am_up M.1 a i.toNatClampNeg v, M.2.1, M.2.2.1, M.2.2.2))
    | _ => none
  | .lastore => match st with
    | .long v :: .int i :: .ref a :: st => am_if (am_ca M.2.2.2 a 2 i) (am_go (pc + n) ls st (M.1, am_up M.2.1 a i.toNatClampNeg v, M.2.2.1, M.2.2.2))
    | _ => none
  | .invokevirtual _ => am_inv true 0 0 17 99 n x y pc ls st M
  | .invokestatic _ => am_inv false 1 1 10 15 n x y pc ls st M
  | .invokespecial _ => am_inv true 2 4 16 16 n x y pc ls st M
  | .ireturn => match am_rt mi, st with
    | some .int, [.int v] => some (.inr (.inr (some (.int v))))
    | some .boolean, [.int v] => am_if (am_zb v) (some (.inr (.inr (some (.int v)))))
    | _, _ => none
  | .lreturn => match am_rt mi, st with
    | some .long, [.long v] => some (.inr (.inr (some (.long v))))
    | _, _ => none
  | .return_ => match am_rt mi, st with
    | none, [] => some (.inr (.inr none))
    | _, _ => none
  | _ => none
def am_stp (mi pc : Nat) (ls : am_Ls) (st : List Value) (M : am_Mem) : Option am_S := match am_ins mi pc with
  | none => none
  | some (i, n, x, y) => am_do i n x y mi pc ls st M
/-- what an answer leaves on the caller's stack -/
def am_res (t : Option FieldType) (r : Option Value) (rest : List Value) : Option (List Value) := match t, r with
  | some .int, some (.int v) => some (.int v :: rest)
  | some .boolean, some (.int v) => some (.int v :: rest)
  | some .long, some (.long v) => some (.long v :: rest)
  | none, none => some rest
  | _, _ => none
def am_pk (ls : am_Ls) : List Nat → am_Ls
  | [] => []
  | k :: r => match am_find ls k with
    | some v => (k, v) :: am_pk ls r
    | none => am_pk ls r
/-- where ways meet, the locals that are still read, in order -/
def am_nm (mi pc : Nat) (ls : am_Ls) : am_Ls := match am_find ((am_nth am_lv mi).getD []) pc with
  | none => ls
  | some ks => am_pk ls ks
def am_Fo (rec : Nat → Nat → am_Ls → List Value → am_Mem → am_R) (call : Nat → List Value → am_Mem → am_R) (mi : Nat) (M : am_Mem) (o : Option am_S) : am_R := match o with
  | none => none
  | some (.inl (pc, ls, st, M)) => rec mi pc (am_nm mi pc ls) st M
  | some (.inr (.inl (mj, as, pc, ls, rest, M))) => (call mj as M).bind fun q => (am_res (am_rt mj) q.1 rest).bind fun st => rec mi pc (am_nm mi pc ls) st q.2
  | some (.inr (.inr v)) => some (v, M)
def am_F (rec : Nat → Nat → am_Ls → List Value → am_Mem → am_R) (call : Nat → List Value → am_Mem → am_R) (mi pc : Nat) (ls : am_Ls) (st : List Value) (M : am_Mem) : am_R := am_Fo rec call mi M (am_stp mi pc ls st M)
def am_ent (mj : Nat) (as : List Value) (M : am_Mem) (rec : Nat → Nat → am_Ls → List Value → am_Mem → am_R) : am_R := bif Nat.ble (am_w as) (am_ml mj) then rec mj 0 (lv_args 0 as) [] M else none
/-- n steps at the most, d calls within each other at the most -/
def am_ev : Nat → Nat → Nat → Nat → am_Ls → List Value → am_Mem → am_R
  | 0, _ => fun _ _ _ _ _ => none
  | n + 1, 0 => am_F (am_ev n 0) (fun _ _ _ => none)
  | n + 1, d + 1 => am_F (am_ev n (d + 1)) (fun mj as M => am_ent mj as M (am_ev n d))
def am_K (n d : Nat) (mj : Nat) (as : List Value) (M : am_Mem) : am_R := match d with
  | 0 => none
  | d + 1 => am_ent mj as M (am_ev n d)
theorem am_ev_S (n d mi pc : Nat) (ls : am_Ls) (st : List Value) (M : am_Mem) : am_ev (n + 1) d mi pc ls st M = am_F (am_ev n d) (am_K n d) mi pc ls st M := by
  cases d <;> rfl

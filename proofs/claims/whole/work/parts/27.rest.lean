/-! ===== what holds between two calls: the rest ===== -/
/-- a name's letters, 1 to 26, packed five bits a letter (the first highest of six), and by 27 -/
def pk5 (l : List Nat) : Nat := l.foldl (fun a x => 32 * a + x) 0 * 32 ^ (6 - l.length)
def pk27 (l : List Nat) : Nat := l.foldl (fun a x => 27 * a + x) 0
def nameR (p : Int32) (q : Int64) : Prop := ∃ l : List Nat, 1 ≤ l.length ∧ l.length ≤ 6 ∧ (∀ x ∈ l, 1 ≤ x ∧ x ≤ 26) ∧ p = am_i (pk5 l : Nat) ∧ q = am_l (pk27 l : Nat)
/-- tokens of a formula in reverse Polish order: (0, v) a number, (1, w) a word that tells a number, (2, 0) not, (3, s) two values' sign or word, (4, 0) all, (5, w) carry or score of a value; the class's code and the reference's -/
abbrev tok : Type := Nat × Nat
def encX (t : tok) : Int := match t.1 with
  | 0 => t.2
  | 1 => 10000 + t.2
  | 2 => 20022
  | 3 => 30000 + t.2
  | 4 => 1
  | _ => 20000 + t.2
/-- the class's numbers of words that tell a number: note 14, tight 3, rosin 4, mile 15, wind 12, went 16, number 17, sunk 18, hour 19: the reference's 0 to 8 -/
def wnoM (w : Nat) : Int := match w with
  | 14 => 0
  | 3 => 1
  | 4 => 2
  | 15 => 3
  | 12 => 4
  | 16 => 5
  | 17 => 6
  | 18 => 7
  | _ => 8
/-- signs and words between two values: + - * / min max < > = and or -/
def sgnM (s : Nat) : Int := match s with
  | 43 => 1
  | 45 => 2
  | 42 => 3
  | 47 => 4
  | 24 => 5
  | 25 => 6
  | 60 => 7
  | 62 => 8
  | 61 => 9
  | 21 => 10
  | _ => 11
def encM (t : tok) : Int := match t.1 with
  | 0 => 1000 + t.2
  | 1 => 40 + wnoM t.2
  | 2 => 12
  | 3 => sgnM t.2
  | 4 => 13
  | _ => 60 + (if t.2 = 9 then 0 else 1)
/-- of which kinds the pile of values is behind a token (true: a test, 0 or 1); none: it doesn't fit -/
def tokD : List Bool → tok → Option (List Bool)
  | st, (0, _) => some (false :: st)
  | st, (1, _) => some (false :: st)
  | true :: r, (2, _) => some (true :: r)
  | b :: a :: r, (3, s) =>
    bif s == 21 || s == 20 then (bif a && b then some (true :: r) else none)
    else bif a || b then none
    else some ((s == 60 || s == 61 || s == 62) :: r)
  | st, (4, _) => some (true :: st)
  | false :: r, (5, _) => some (false :: r)
  | _, _ => none
/-- never above 63, and all fits -/
def tokOK : List Bool → List tok → Option (List Bool)
  | st, [] => some st
  | st, t :: r => match tokD st t with
    | some st' => if st'.length ≤ 63 then tokOK st' r else none
    | none => none
/-- words and signs that may stand in a formula -/
def tokW (q : Bool) (sw : Bool) (t : tok) : Prop := match t.1 with
  | 0 => t.2 ≤ 9999
  | 1 => t.2 = 14 ∨ t.2 = 3 ∨ t.2 = 4 ∨ t.2 = 15 ∨ t.2 = 12 ∨ (sw = true ∧ t.2 = 16) ∨ (q = true ∧ (t.2 = 17 ∨ t.2 = 18 ∨ t.2 = 19))
  | 2 => t.2 = 0
  | 3 => t.2 ∈ [43, 45, 42, 47, 24, 25, 60, 62, 61, 21, 20]
  | 4 => t.2 = 0
  | 5 => q = true ∧ (t.2 = 9 ∨ t.2 = 5)
  | _ => False
/-- the formula f (0 carry, 1 slips, 2 swamp) as both have it: told, or as it is without being told -/
def frD (f : Nat) : List tok := [match f with | 0 => (0, 1) | 1 => (1, 3) | _ => (0, 0)]
def frX (I : tI) (c f : Nat) (p : List tok) : Prop := ∃ a : Nat, a + p.length ≤ 1600 ∧ I (c + 8) f = am_i a ∧ I (c + 9) f = am_i (a + p.length : Nat) ∧ ∀ k t, p[k]? = some t → I (c + 7) (a + k) = am_i (encX t)
def frM (I : tI) (f : Nat) (p : List tok) : Prop := (I 100 (3 + f) = am_i (-1) ∧ p = frD f) ∨ ∃ a : Nat, a + p.length ≤ 1600 ∧ I 100 (3 + f) = am_i a ∧ I 101 (3 + f) = am_i (a + p.length : Nat) ∧ ∀ k t, p[k]? = some t → I 102 (1600 + a + k) = am_i (encM t)
def frT (q sw : Bool) (p : List tok) : Prop := (∃ b, tokOK [] p = some [b]) ∧ ∀ t ∈ p, tokW q sw t
/-- a boat -/
abbrev bt : Type := Nat × Nat × Nat × Nat × Nat × (Nat → Nat)
def bt.mi (s : bt) : Nat := s.1
def bt.ti (s : bt) : Nat := s.2.1
def bt.ro (s : bt) : Nat := s.2.2.1
def bt.su (s : bt) : Nat := s.2.2.2.1
def bt.pl (s : bt) : Nat := s.2.2.2.2.1
def bt.sc (s : bt) : Nat → Nat := s.2.2.2.2.2
def bX (f : Nat → Int32) (o n : Nat) (s : bt) : Prop := f o = am_i s.mi ∧ f (o + 1) = am_i s.ti ∧ f (o + 2) = am_i s.ro ∧ f (o + 3) = am_i s.su ∧ f (o + 4) = am_i s.pl ∧ ∀ k, k < n → f (o + 5 + k) = am_i (s.sc k)
def bOK (last n : Nat) (s : bt) : Prop := s.mi ≤ last ∧ s.ti ≤ 99 ∧ s.ro ≤ 99 ∧ s.su ≤ 1 ∧ (s.pl < n ∨ s.pl = 0) ∧ (s.su = 1 → s.mi ≠ last) ∧ ∀ k, k < n → s.sc k < 8
/-- a row of boats and hours: the class's (68 numbers), the reference's -/
def rowE (f g : Nat → Int32) (last nb : Nat) (nt : Nat → Nat) (h : Nat) (s : Nat → bt) : Prop := h ≤ 999 ∧ f 66 = am_i h ∧ g 0 = am_i h ∧ ∀ b, b < nb → bOK last (nt b) (s b) ∧ bX f (11 * b) (nt b) (s b) ∧ bX g (1 + 11 * b) (nt b) (s b)
/-- what is kept: K told so far, the last 40 of them -/
def keptR (f ring g : Nat → Int32) (K : Nat) : Prop := f 67 = am_i K ∧ g 67 = am_i (min 40 K : Nat) ∧ ∀ k, k < min 40 K → ∃ h b w : Nat, h ≤ 999 ∧ b < 6 ∧ w ≤ 1 ∧ ring ((K - min 40 K + k) % 256) = am_i (16 * h + 2 * b + w : Nat) ∧ g (68 + 3 * k) = am_i h ∧ g (69 + 3 * k) = am_i b ∧ g (70 + 3 * k) = am_i w
def stR (f ring g : Nat → Int32) (last nb : Nat) (nt : Nat → Nat) (K : Nat) : Prop := ∃ h s, rowE f g last nb nt h s ∧ keptR f ring g K ∧ K ≤ 6 * h
/-- the acts that can be undone -/
def actsR (I : tI) (last nb : Nat) (nt : Nat → Nat) (K : Nat) : Prop := ∃ (n x : Nat) (Kf : Nat → Nat), n ≤ 20 ∧ x < 20 ∧ I 33 2 = am_i n ∧ I 64 68 = am_i n ∧ I 33 1 = am_i x ∧ I 64 69 = am_i x ∧ Kf 0 = K ∧
  ∀ j, j < n → Kf (j + 1) ≤ Kf j ∧ Kf j ≤ Kf (j + 1) + 6 ∧ stR (fun i => I 34 (68 * ((x + 19 - j) % 20) + i)) (I 32) (fun i => I 110 (188 * ((x + 20 - j) % 20) + i)) last nb nt (Kf (j + 1))
def restB (I : tI) (c last nb nr nw wd sq : Nat) (nt wf : Nat → Nat) : Prop := (last = 0 ∨ 5 ≤ last) ∧ last ≤ 60 ∧ nb ≤ 6 ∧ nr ≤ 6 ∧ nw ≤ 488 ∧ wd ≤ 9 ∧ sq ≤ 100 ∧ (last = 0 → nb = 0 ∧ nr = 0 ∧ nw = 0) ∧
  I c 0 = am_i last ∧ I 93 3 = am_i last ∧ I c 1 = am_i nb ∧ I 94 3 = am_i nb ∧ I c 2 = am_i nr ∧ I 94 4 = am_i nr ∧ I c 3 = am_i nw ∧ I 94 5 = am_i nw ∧ I c 4 = am_i wd ∧ I 93 4 = am_i wd ∧ I c 5 = am_i sq ∧ I 93 5 = am_i sq ∧ I 64 50 = am_i (if last = 0 then 0 else 1) ∧ I 64 58 = am_i 0 ∧
  (∀ b, b < nb → nt b ≤ 6 ∧ I (c + 4) b = am_i (nt b) ∧ I 96 (27 + 4 * b) = am_i (nt b)) ∧ (∀ r, r < nr → ∃ k : Nat, k < 8 ∧ I (c + 3) r = am_i k ∧ I 98 (6 + r) = am_i k) ∧
  (∀ m, m ≤ 60 → wf m < 256 ∧ I (c + 6) m = am_i (wf m) ∧ ∀ v, v < 8 → I 99 (488 + 8 * m + v) = am_i (wf m / 2 ^ v % 2 : Nat))
/-- cells that no call writes: the words -/
def fixd (c : Nat) : Bool := c == 6 || (Nat.ble 67 c && Nat.ble c 92) || (Nat.ble 111 c && Nat.ble c 133)
def am_K0 : tI := am_I1 (fun _ => 0)
def restW (I : tI) (J : tJ) (R : tR) : Prop := ∃ (c last nb nr nw wd sq K : Nat) (nt wf : Nat → Nat) (fm : Nat → List tok), R 3 4 = c ∧ (c = 10 ∨ c = 20) ∧ restB I c last nb nr nw wd sq nt wf ∧
  ((∀ b, b < nb → nameR (I (c + 1) b) (J 95 (16 + b))) ∧ ∀ r, r < nr → nameR (I (c + 2) r) (J 95 (24 + r))) ∧ (last ≠ 0 → ∀ f, f < 3 → frX I c f (fm f) ∧ frM I f (fm f) ∧ frT false (f == 2) (fm f)) ∧
  stR (I 31) (I 32) (I 103) last nb nt K ∧ actsR I last nb nt K ∧ ∀ q, fixd q = true → I q = am_K0 q

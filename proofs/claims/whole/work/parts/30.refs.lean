/-! ===== the references as rules ===== -/
theorem rX {R : tR} (h : st_Rx R) : R 3 0 = 4 ∧ R 3 2 = 5 ∧ R 3 3 = 8 ∧ R 3 6 = 30 ∧ R 3 7 = 31 ∧ R 3 8 = 32 ∧ R 3 9 = 33 ∧ R 3 10 = 35 ∧ R 3 11 = 42 ∧ R 3 12 = 49 ∧ R 3 13 = 52 ∧ R 3 14 = 57 ∧ R 3 15 = 61 ∧ R 3 16 = 63 ∧ R 5 0 = 6 ∧ R 8 0 = 5 ∧ R 8 1 = 9 ∧ R 10 6 = 11 ∧ R 10 7 = 12 ∧ R 10 8 = 13 ∧ R 10 9 = 14 ∧ R 10 10 = 15 ∧ R 10 11 = 16 ∧ R 10 12 = 17 ∧ R 10 13 = 18 ∧ R 10 14 = 19 ∧ R 20 6 = 21 ∧ R 20 7 = 22 ∧ R 20 8 = 23 ∧ R 20 9 = 24 ∧ R 20 10 = 25 ∧ R 20 11 = 26 ∧ R 20 12 = 27 ∧ R 20 13 = 28 ∧ R 20 14 = 29 ∧ R 30 0 = 5 ∧ R 30 1 = 8 ∧ R 33 0 = 34 ∧ R 35 0 = 36 ∧ R 35 8 = 41 ∧ R 36 0 = 37 ∧ R 36 1 = 38 ∧ R 36 2 = 39 ∧ R 36 4 = 40 ∧ R 42 0 = 43 ∧ R 42 8 = 48 ∧ R 43 0 = 44 ∧ R 43 1 = 45 ∧ R 43 2 = 46 ∧ R 43 4 = 47 ∧ R 49 0 = 50 ∧ R 49 2 = 51 ∧ R 52 0 = 53 ∧ R 52 1 = 54 ∧ R 52 2 = 55 ∧ R 52 4 = 56 ∧ R 57 0 = 58 ∧ R 57 2 = 59 ∧ R 57 4 = 60 ∧ R 61 0 = 62 := h
theorem rM {R : tR} (h : st_Rm R) : R 64 0 = 65 ∧ R 64 9 = 66 ∧ R 64 11 = 67 ∧ R 64 12 = 68 ∧ R 64 13 = 69 ∧ R 64 14 = 70 ∧ R 64 15 = 71 ∧ R 64 16 = 72 ∧ R 64 17 = 73 ∧ R 64 18 = 74 ∧ R 64 19 = 75 ∧ R 64 20 = 76 ∧ R 64 21 = 77 ∧ R 64 22 = 78 ∧ R 64 23 = 79 ∧ R 64 24 = 80 ∧ R 64 25 = 81 ∧ R 64 26 = 82 ∧ R 64 27 = 83 ∧ R 64 28 = 84 ∧ R 64 29 = 85 ∧ R 64 30 = 86 ∧ R 64 31 = 87 ∧ R 64 32 = 88 ∧ R 64 33 = 89 ∧ R 64 34 = 90 ∧ R 64 35 = 91 ∧ R 64 36 = 92 ∧ R 64 38 = 93 ∧ R 64 39 = 94 ∧ R 64 40 = 95 ∧ R 64 41 = 96 ∧ R 64 42 = 97 ∧ R 64 43 = 98 ∧ R 64 44 = 99 ∧ R 64 45 = 100 ∧ R 64 46 = 101 ∧ R 64 47 = 102 ∧ R 64 52 = 103 ∧ R 64 53 = 104 ∧ R 64 57 = 105 ∧ R 64 61 = 106 ∧ R 64 62 = 107 ∧ R 64 64 = 108 ∧ R 64 65 = 109 ∧ R 64 67 = 110 ∧ R 64 71 = 111 ∧ R 64 72 = 112 ∧ R 64 73 = 113 ∧ R 64 74 = 114 ∧ R 64 75 = 115 ∧ R 64 76 = 116 ∧ R 64 77 = 117 ∧ R 64 78 = 118 ∧ R 64 79 = 119 ∧ R 64 80 = 120 ∧ R 64 81 = 121 ∧ R 64 82 = 122 ∧ R 64 83 = 123 ∧ R 64 84 = 124 ∧ R 64 85 = 125 ∧ R 64 86 = 126 ∧ R 64 87 = 127 ∧ R 64 88 = 128 ∧ R 64 89 = 129 ∧ R 64 90 = 130 ∧ R 64 91 = 131 ∧ R 64 92 = 132 ∧ R 64 93 = 133 ∧ R 64 94 = 134 ∧ R 64 96 = 135 ∧ R 64 100 = 136 ∧ R 64 104 = 137 := h
theorem rC {R : tR} {c : Nat} (h : st_Rx R) (hc : c = 10 ∨ c = 20) : am_cf 138 c 1 = true ∧ R c 6 = c + 1 ∧ R c 7 = c + 2 ∧ R c 8 = c + 3 ∧ R c 9 = c + 4 ∧ R c 10 = c + 5 ∧ R c 11 = c + 6 ∧ R c 12 = c + 7 ∧ R c 13 = c + 8 ∧ R c 14 = c + 9 ∧
  (∀ i, am_cs R 138 (c + 1) i = am_ok i 6) ∧ (∀ i, am_cs R 138 (c + 2) i = am_ok i 6) ∧ (∀ i, am_cs R 138 (c + 3) i = am_ok i 6) ∧ (∀ i, am_cs R 138 (c + 4) i = am_ok i 6) ∧ (∀ i, am_cs R 138 (c + 5) i = am_ok i 66) ∧ (∀ i, am_cs R 138 (c + 6) i = am_ok i 61) ∧ (∀ i, am_cs R 138 (c + 7) i = am_ok i 1600) ∧ (∀ i, am_cs R 138 (c + 8) i = am_ok i 3) ∧ (∀ i, am_cs R 138 (c + 9) i = am_ok i 3) := ch_of h hc
/-- what is done behind a call, hidden while the call itself is worked out -/
abbrev DI (_k : Int32 → am_Mem → am_R) : Type := am_R
abbrev DL (_k : Int64 → am_Mem → am_R) : Type := am_R
abbrev DV (_k : am_Mem → am_R) : Type := am_R
def bIJ (k : Int32 → am_Mem → am_R) (r : DI k) : am_R := am_bI r k
def bLJ (k : Int64 → am_Mem → am_R) (r : DL k) : am_R := am_bL r k
def bVJ (k : am_Mem → am_R) (r : DV k) : am_R := am_bV r k
theorem bI_p (r : am_R) (k : Int32 → am_Mem → am_R) : am_bI r k = bIJ k r := rfl
theorem bL_p (r : am_R) (k : Int64 → am_Mem → am_R) : am_bL r k = bLJ k r := rfl
theorem bV_p (r : am_R) (k : am_Mem → am_R) : am_bV r k = bVJ k r := rfl
theorem bIJ_s (v : Int32) (M : am_Mem) (k : Int32 → am_Mem → am_R) : bIJ k (some (some (.int v), M)) = k v M := rfl
theorem bLJ_s (v : Int64) (M : am_Mem) (k : Int64 → am_Mem → am_R) : bLJ k (some (some (.long v), M)) = k v M := rfl
theorem bVJ_s (M : am_Mem) (k : am_Mem → am_R) : bVJ k (some (none, M)) = k M := rfl
theorem eq_T {a b : Int} (h : a = b) : (a = b) = True := eq_true h
theorem eq_F {a b : Int} (h : ¬ a = b) : (a = b) = False := eq_false h
theorem lt_T {a b : Int} (h : a < b) : (a < b) = True := eq_true h
theorem lt_F {a b : Int} (h : ¬ a < b) : (a < b) = False := eq_false h
theorem le_T {a b : Int} (h : a ≤ b) : (a ≤ b) = True := eq_true h
theorem le_F {a b : Int} (h : ¬ a ≤ b) : (a ≤ b) = False := eq_false h
theorem qn_T {a b : Nat} (h : a = b) : (a = b) = True := eq_true h
theorem qn_F {a b : Nat} (h : ¬ a = b) : (a = b) = False := eq_false h
theorem and_F {p q : Prop} (h : ¬ (p ∧ q)) : (p ∧ q) = False := eq_false h
theorem b01_T [i : Decidable True] : b01 True = am_i 1 := b01_t trivial
theorem b01_F [i : Decidable False] : b01 False = am_i 0 := b01_f not_false

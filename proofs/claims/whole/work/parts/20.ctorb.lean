/-! ===== the constructors ===== -/
def ii_ct_X11_3_0 (I : Nat → Nat → Int32) : Nat → Nat → Int32 := (am_cl (am_cl I 4 0) 5 0)
def jj_ct_X11_3_0 (J : Nat → Nat → Int64) : Nat → Nat → Int64 := (am_cl (am_cl J 4 0) 5 0)
def rr_ct_X11_3_0 (R : Nat → Nat → Nat) : Nat → Nat → Nat := (am_cl (am_up (am_cl R 4 0) 3 0 4) 5 0)
set_option maxRecDepth 50000 in
theorem ct_X11_3_0 (d : Nat) (I : Nat → Nat → Int32) (J : Nat → Nat → Int64) (R : Nat → Nat → Nat) : am_E d 99 0 [(0, .ref 3)] [] (I, J, R, 4) = am_E d 99 18 [(0, .ref 3)] [.ref 5, .ref 5, .ref 3] ((ii_ct_X11_3_0 I), (jj_ct_X11_3_0 J), (rr_ct_X11_3_0 R), 6) :=
  am_E_gos 9 rfl
def ii_ct_X11_3_1 (I : Nat → Nat → Int32) : Nat → Nat → Int32 := (am_cl I 8 0)
def jj_ct_X11_3_1 (J : Nat → Nat → Int64) : Nat → Nat → Int64 := (am_cl J 8 0)
def rr_ct_X11_3_1 (R : Nat → Nat → Nat) : Nat → Nat → Nat := (am_cl (am_up R 3 2 5) 8 0)
set_option maxRecDepth 50000 in
theorem ct_X11_3_1 (d : Nat) (I : Nat → Nat → Int32) (J : Nat → Nat → Int64) (R : Nat → Nat → Nat) : am_E d 99 21 [(0, .ref 3)] [.ref 5, .ref 3] (I, J, R, 8) = am_E d 99 30 [(0, .ref 3)] [.ref 3, .ref 8, .ref 8, .ref 3] ((ii_ct_X11_3_1 I), (jj_ct_X11_3_1 J), (rr_ct_X11_3_1 R), 9) :=
  am_E_gos 5 rfl
def ii_ct_X3_8_0 (I : Nat → Nat → Int32) : Nat → Nat → Int32 := (am_cl I 9 0)
def jj_ct_X3_8_0 (J : Nat → Nat → Int64) : Nat → Nat → Int64 := (am_cl J 9 0)
def rr_ct_X3_8_0 (R : Nat → Nat → Nat) : Nat → Nat → Nat := (am_up (am_up (am_cl R 9 0) 8 1 9) 8 0 5)
set_option maxRecDepth 50000 in
theorem ct_X3_8_0 (d : Nat) (I : Nat → Nat → Int32) (J : Nat → Nat → Int64) (R : Nat → Nat → Nat) : am_E d 13 0 [(0, .ref 8), (1, .ref 5)] [] (I, J, R, 9) = am_E d 13 18 [(0, .ref 8), (1, .ref 5)] [] ((ii_ct_X3_8_0 I), (jj_ct_X3_8_0 J), (rr_ct_X3_8_0 R), 10) :=
  am_E_gos 9 rfl
def ii_ct_X3_8 (I : Nat → Nat → Int32) : Nat → Nat → Int32 := (ii_ct_X3_8_0 I)
def jj_ct_X3_8 (J : Nat → Nat → Int64) : Nat → Nat → Int64 := (jj_ct_X3_8_0 J)
def rr_ct_X3_8 (R : Nat → Nat → Nat) : Nat → Nat → Nat := (rr_ct_X3_8_0 R)
set_option maxRecDepth 100000 in
theorem ct_X3_8 (d : Nat) (I : Nat → Nat → Int32) (J : Nat → Nat → Int64) (R : Nat → Nat → Nat) : am_E (d + 1) 13 0 [(0, .ref 8), (1, .ref 5)] [] (I, J, R, 9) = some (none, (ii_ct_X3_8 I, jj_ct_X3_8 J, rr_ct_X3_8 R, 10)) := by
  rw [ct_X3_8_0]
  exact am_E_ret rfl

def ii_ct_X11_3_2 (I : Nat → Nat → Int32) : Nat → Nat → Int32 := (am_cl I 10 0)
def jj_ct_X11_3_2 (J : Nat → Nat → Int64) : Nat → Nat → Int64 := (am_cl J 10 0)
def rr_ct_X11_3_2 (R : Nat → Nat → Nat) : Nat → Nat → Nat := (am_cl (am_up R 3 3 8) 10 0)
set_option maxRecDepth 50000 in
theorem ct_X11_3_2 (d : Nat) (I : Nat → Nat → Int32) (J : Nat → Nat → Int64) (R : Nat → Nat → Nat) : am_E d 99 36 [(0, .ref 3)] [.ref 8, .ref 3] (I, J, R, 10) = am_E d 99 44 [(0, .ref 3)] [.ref 10, .ref 10, .ref 3] ((ii_ct_X11_3_2 I), (jj_ct_X11_3_2 J), (rr_ct_X11_3_2 R), 11) :=
  am_E_gos 4 rfl
def ii_ct_X1_10_0 (I : Nat → Nat → Int32) : Nat → Nat → Int32 := (am_cl (am_cl (am_cl (am_cl (am_cl (am_cl I 11 0) 12 0) 13 0) 14 0) 15 0) 16 0)
def jj_ct_X1_10_0 (J : Nat → Nat → Int64) : Nat → Nat → Int64 := (am_cl (am_cl (am_cl (am_cl (am_cl (am_cl J 11 0) 12 0) 13 0) 14 0) 15 0) 16 0)
def rr_ct_X1_10_0 (R : Nat → Nat → Nat) : Nat → Nat → Nat := (am_up (am_cl (am_up (am_cl (am_up (am_cl (am_up (am_cl (am_up (am_cl (am_up (am_cl R 11 0) 10 6 11) 12 0) 10 7 12) 13 0) 10 8 13) 14 0) 10 9 14) 15 0) 10 10 15) 16 0) 10 11 16)
set_option maxRecDepth 50000 in
theorem ct_X1_10_0 (d : Nat) (I : Nat → Nat → Int32) (J : Nat → Nat → Int64) (R : Nat → Nat → Nat) : am_E d 3 0 [(0, .ref 10)] [] (I, J, R, 11) = am_E d 3 52 [(0, .ref 10)] [] ((ii_ct_X1_10_0 I), (jj_ct_X1_10_0 J), (rr_ct_X1_10_0 R), 17) :=
  am_E_gos 26 rfl
def ii_ct_X1_10_1 (I : Nat → Nat → Int32) : Nat → Nat → Int32 := (am_cl (am_cl (am_cl I 17 0) 18 0) 19 0)
def jj_ct_X1_10_1 (J : Nat → Nat → Int64) : Nat → Nat → Int64 := (am_cl (am_cl (am_cl J 17 0) 18 0) 19 0)
def rr_ct_X1_10_1 (R : Nat → Nat → Nat) : Nat → Nat → Nat := (am_up (am_cl (am_up (am_cl (am_up (am_cl R 17 0) 10 12 17) 18 0) 10 13 18) 19 0) 10 14 19)
set_option maxRecDepth 50000 in
theorem ct_X1_10_1 (d : Nat) (I : Nat → Nat → Int32) (J : Nat → Nat → Int64) (R : Nat → Nat → Nat) : am_E d 3 52 [(0, .ref 10)] [] (I, J, R, 17) = am_E d 3 75 [(0, .ref 10)] [] ((ii_ct_X1_10_1 I), (jj_ct_X1_10_1 J), (rr_ct_X1_10_1 R), 20) :=
  am_E_gos 12 rfl
def ii_ct_X1_10 (I : Nat → Nat → Int32) : Nat → Nat → Int32 := (ii_ct_X1_10_1 (ii_ct_X1_10_0 I))
def jj_ct_X1_10 (J : Nat → Nat → Int64) : Nat → Nat → Int64 := (jj_ct_X1_10_1 (jj_ct_X1_10_0 J))
def rr_ct_X1_10 (R : Nat → Nat → Nat) : Nat → Nat → Nat := (rr_ct_X1_10_1 (rr_ct_X1_10_0 R))
set_option maxRecDepth 100000 in
theorem ct_X1_10 (d : Nat) (I : Nat → Nat → Int32) (J : Nat → Nat → Int64) (R : Nat → Nat → Nat) : am_E (d + 1) 3 0 [(0, .ref 10)] [] (I, J, R, 11) = some (none, (ii_ct_X1_10 I, jj_ct_X1_10 J, rr_ct_X1_10 R, 20)) := by
  rw [ct_X1_10_0]
  rw [ct_X1_10_1]
  exact am_E_ret rfl

def ii_ct_X11_3_3 (I : Nat → Nat → Int32) : Nat → Nat → Int32 := (am_cl I 20 0)
def jj_ct_X11_3_3 (J : Nat → Nat → Int64) : Nat → Nat → Int64 := (am_cl J 20 0)
def rr_ct_X11_3_3 (R : Nat → Nat → Nat) : Nat → Nat → Nat := (am_cl (am_up R 3 4 10) 20 0)
set_option maxRecDepth 50000 in
theorem ct_X11_3_3 (d : Nat) (I : Nat → Nat → Int32) (J : Nat → Nat → Int64) (R : Nat → Nat → Nat) : am_E d 99 47 [(0, .ref 3)] [.ref 10, .ref 3] (I, J, R, 20) = am_E d 99 55 [(0, .ref 3)] [.ref 20, .ref 20, .ref 3] ((ii_ct_X11_3_3 I), (jj_ct_X11_3_3 J), (rr_ct_X11_3_3 R), 21) :=
  am_E_gos 4 rfl
def ii_ct_X1_20_0 (I : Nat → Nat → Int32) : Nat → Nat → Int32 := (am_cl (am_cl (am_cl (am_cl (am_cl (am_cl I 21 0) 22 0) 23 0) 24 0) 25 0) 26 0)
def jj_ct_X1_20_0 (J : Nat → Nat → Int64) : Nat → Nat → Int64 := (am_cl (am_cl (am_cl (am_cl (am_cl (am_cl J 21 0) 22 0) 23 0) 24 0) 25 0) 26 0)
def rr_ct_X1_20_0 (R : Nat → Nat → Nat) : Nat → Nat → Nat := (am_up (am_cl (am_up (am_cl (am_up (am_cl (am_up (am_cl (am_up (am_cl (am_up (am_cl R 21 0) 20 6 21) 22 0) 20 7 22) 23 0) 20 8 23) 24 0) 20 9 24) 25 0) 20 10 25) 26 0) 20 11 26)
set_option maxRecDepth 50000 in
theorem ct_X1_20_0 (d : Nat) (I : Nat → Nat → Int32) (J : Nat → Nat → Int64) (R : Nat → Nat → Nat) : am_E d 3 0 [(0, .ref 20)] [] (I, J, R, 21) = am_E d 3 52 [(0, .ref 20)] [] ((ii_ct_X1_20_0 I), (jj_ct_X1_20_0 J), (rr_ct_X1_20_0 R), 27) :=
  am_E_gos 26 rfl
def ii_ct_X1_20_1 (I : Nat → Nat → Int32) : Nat → Nat → Int32 := (am_cl (am_cl (am_cl I 27 0) 28 0) 29 0)
def jj_ct_X1_20_1 (J : Nat → Nat → Int64) : Nat → Nat → Int64 := (am_cl (am_cl (am_cl J 27 0) 28 0) 29 0)
def rr_ct_X1_20_1 (R : Nat → Nat → Nat) : Nat → Nat → Nat := (am_up (am_cl (am_up (am_cl (am_up (am_cl R 27 0) 20 12 27) 28 0) 20 13 28) 29 0) 20 14 29)
set_option maxRecDepth 50000 in
theorem ct_X1_20_1 (d : Nat) (I : Nat → Nat → Int32) (J : Nat → Nat → Int64) (R : Nat → Nat → Nat) : am_E d 3 52 [(0, .ref 20)] [] (I, J, R, 27) = am_E d 3 75 [(0, .ref 20)] [] ((ii_ct_X1_20_1 I), (jj_ct_X1_20_1 J), (rr_ct_X1_20_1 R), 30) :=
  am_E_gos 12 rfl
def ii_ct_X1_20 (I : Nat → Nat → Int32) : Nat → Nat → Int32 := (ii_ct_X1_20_1 (ii_ct_X1_20_0 I))
def jj_ct_X1_20 (J : Nat → Nat → Int64) : Nat → Nat → Int64 := (jj_ct_X1_20_1 (jj_ct_X1_20_0 J))
def rr_ct_X1_20 (R : Nat → Nat → Nat) : Nat → Nat → Nat := (rr_ct_X1_20_1 (rr_ct_X1_20_0 R))
set_option maxRecDepth 100000 in
theorem ct_X1_20 (d : Nat) (I : Nat → Nat → Int32) (J : Nat → Nat → Int64) (R : Nat → Nat → Nat) : am_E (d + 1) 3 0 [(0, .ref 20)] [] (I, J, R, 21) = some (none, (ii_ct_X1_20 I, jj_ct_X1_20 J, rr_ct_X1_20 R, 30)) := by
  rw [ct_X1_20_0]
  rw [ct_X1_20_1]
  exact am_E_ret rfl

def ii_ct_X11_3_4 (I : Nat → Nat → Int32) : Nat → Nat → Int32 := (am_cl I 30 0)
def jj_ct_X11_3_4 (J : Nat → Nat → Int64) : Nat → Nat → Int64 := (am_cl J 30 0)
def rr_ct_X11_3_4 (R : Nat → Nat → Nat) : Nat → Nat → Nat := (am_cl (am_up R 3 5 20) 30 0)
set_option maxRecDepth 50000 in
theorem ct_X11_3_4 (d : Nat) (I : Nat → Nat → Int32) (J : Nat → Nat → Int64) (R : Nat → Nat → Nat) : am_E d 99 58 [(0, .ref 3)] [.ref 20, .ref 3] (I, J, R, 30) = am_E d 99 67 [(0, .ref 3)] [.ref 3, .ref 30, .ref 30, .ref 3] ((ii_ct_X11_3_4 I), (jj_ct_X11_3_4 J), (rr_ct_X11_3_4 R), 31) :=
  am_E_gos 5 rfl
def ii_ct_X11_3_5 (I : Nat → Nat → Int32) : Nat → Nat → Int32 := I
def jj_ct_X11_3_5 (J : Nat → Nat → Int64) : Nat → Nat → Int64 := J
def rr_ct_X11_3_5 (R : Nat → Nat → Nat) : Nat → Nat → Nat := R
set_option maxRecDepth 50000 in
theorem ct_X11_3_5 (d : Nat) (I : Nat → Nat → Int32) (J : Nat → Nat → Int64) (R : Nat → Nat → Nat) : am_E d 99 70 [(0, .ref 3)] [.ref 5, .ref 30, .ref 30, .ref 3] (I, J, R, 31) = am_E d 99 71 [(0, .ref 3)] [.ref 3, .ref 5, .ref 30, .ref 30, .ref 3] ((ii_ct_X11_3_5 I), (jj_ct_X11_3_5 J), (rr_ct_X11_3_5 R), 31) :=
  am_E_gos 1 rfl
def ii_ct_X11_3_6 (I : Nat → Nat → Int32) : Nat → Nat → Int32 := I
def jj_ct_X11_3_6 (J : Nat → Nat → Int64) : Nat → Nat → Int64 := J
def rr_ct_X11_3_6 (R : Nat → Nat → Nat) : Nat → Nat → Nat := R
set_option maxRecDepth 50000 in
theorem ct_X11_3_6 (d : Nat) (I : Nat → Nat → Int32) (J : Nat → Nat → Int64) (R : Nat → Nat → Nat) : am_E d 99 74 [(0, .ref 3)] [.ref 8, .ref 5, .ref 30, .ref 30, .ref 3] (I, J, R, 31) = am_E d 99 75 [(0, .ref 3)] [.ref 3, .ref 8, .ref 5, .ref 30, .ref 30, .ref 3] ((ii_ct_X11_3_6 I), (jj_ct_X11_3_6 J), (rr_ct_X11_3_6 R), 31) :=
  am_E_gos 1 rfl
def ii_ct_X10_30_0 (I : Nat → Nat → Int32) : Nat → Nat → Int32 := I
def jj_ct_X10_30_0 (J : Nat → Nat → Int64) : Nat → Nat → Int64 := J
def rr_ct_X10_30_0 (R : Nat → Nat → Nat) : Nat → Nat → Nat := (am_up (am_up (am_up R 30 0 5) 30 1 8) 30 2 20)
set_option maxRecDepth 50000 in
theorem ct_X10_30_0 (d : Nat) (I : Nat → Nat → Int32) (J : Nat → Nat → Int64) (R : Nat → Nat → Nat) : am_E d 89 0 [(0, .ref 30), (1, .ref 5), (2, .ref 8), (3, .ref 20)] [] (I, J, R, 31) = am_E d 89 19 [(0, .ref 30), (1, .ref 5), (2, .ref 8), (3, .ref 20)] [] ((ii_ct_X10_30_0 I), (jj_ct_X10_30_0 J), (rr_ct_X10_30_0 R), 31) :=
  am_E_gos 11 rfl
def ii_ct_X10_30 (I : Nat → Nat → Int32) : Nat → Nat → Int32 := (ii_ct_X10_30_0 I)
def jj_ct_X10_30 (J : Nat → Nat → Int64) : Nat → Nat → Int64 := (jj_ct_X10_30_0 J)
def rr_ct_X10_30 (R : Nat → Nat → Nat) : Nat → Nat → Nat := (rr_ct_X10_30_0 R)
set_option maxRecDepth 100000 in
theorem ct_X10_30 (d : Nat) (I : Nat → Nat → Int32) (J : Nat → Nat → Int64) (R : Nat → Nat → Nat) : am_E (d + 1) 89 0 [(0, .ref 30), (1, .ref 5), (2, .ref 8), (3, .ref 20)] [] (I, J, R, 31) = some (none, (ii_ct_X10_30 I, jj_ct_X10_30 J, rr_ct_X10_30 R, 31)) := by
  rw [ct_X10_30_0]
  exact am_E_ret rfl

def ii_ct_X11_3_7 (I : Nat → Nat → Int32) : Nat → Nat → Int32 := (am_cl (am_cl (am_cl I 31 0) 32 0) 33 0)
def jj_ct_X11_3_7 (J : Nat → Nat → Int64) : Nat → Nat → Int64 := (am_cl (am_cl (am_cl J 31 0) 32 0) 33 0)
def rr_ct_X11_3_7 (R : Nat → Nat → Nat) : Nat → Nat → Nat := (am_cl (am_up (am_cl (am_up (am_cl (am_up R 3 6 30) 31 0) 3 7 31) 32 0) 3 8 32) 33 0)
set_option maxRecDepth 50000 in
theorem ct_X11_3_7 (d : Nat) (I : Nat → Nat → Int32) (J : Nat → Nat → Int64) (R : Nat → Nat → Nat) : am_E d 99 81 [(0, .ref 3)] [.ref 30, .ref 3] (I, J, R, 31) = am_E d 99 106 [(0, .ref 3)] [.ref 33, .ref 33, .ref 3] ((ii_ct_X11_3_7 I), (jj_ct_X11_3_7 J), (rr_ct_X11_3_7 R), 34) :=
  am_E_gos 12 rfl
def ii_ct_X0_33_0 (I : Nat → Nat → Int32) : Nat → Nat → Int32 := (am_cl I 34 0)
def jj_ct_X0_33_0 (J : Nat → Nat → Int64) : Nat → Nat → Int64 := (am_cl J 34 0)
def rr_ct_X0_33_0 (R : Nat → Nat → Nat) : Nat → Nat → Nat := (am_up (am_cl R 34 0) 33 0 34)
set_option maxRecDepth 50000 in
theorem ct_X0_33_0 (d : Nat) (I : Nat → Nat → Int32) (J : Nat → Nat → Int64) (R : Nat → Nat → Nat) : am_E d 0 0 [(0, .ref 33)] [] (I, J, R, 34) = am_E d 0 13 [(0, .ref 33)] [] ((ii_ct_X0_33_0 I), (jj_ct_X0_33_0 J), (rr_ct_X0_33_0 R), 35) :=
  am_E_gos 6 rfl
def ii_ct_X0_33 (I : Nat → Nat → Int32) : Nat → Nat → Int32 := (ii_ct_X0_33_0 I)
def jj_ct_X0_33 (J : Nat → Nat → Int64) : Nat → Nat → Int64 := (jj_ct_X0_33_0 J)
def rr_ct_X0_33 (R : Nat → Nat → Nat) : Nat → Nat → Nat := (rr_ct_X0_33_0 R)
set_option maxRecDepth 100000 in
theorem ct_X0_33 (d : Nat) (I : Nat → Nat → Int32) (J : Nat → Nat → Int64) (R : Nat → Nat → Nat) : am_E (d + 1) 0 0 [(0, .ref 33)] [] (I, J, R, 34) = some (none, (ii_ct_X0_33 I, jj_ct_X0_33 J, rr_ct_X0_33 R, 35)) := by
  rw [ct_X0_33_0]
  exact am_E_ret rfl

def ii_ct_X11_3_8 (I : Nat → Nat → Int32) : Nat → Nat → Int32 := (am_cl I 35 0)
def jj_ct_X11_3_8 (J : Nat → Nat → Int64) : Nat → Nat → Int64 := (am_cl J 35 0)
def rr_ct_X11_3_8 (R : Nat → Nat → Nat) : Nat → Nat → Nat := (am_cl (am_up R 3 9 33) 35 0)
set_option maxRecDepth 50000 in
theorem ct_X11_3_8 (d : Nat) (I : Nat → Nat → Int32) (J : Nat → Nat → Int64) (R : Nat → Nat → Nat) : am_E d 99 109 [(0, .ref 3)] [.ref 33, .ref 3] (I, J, R, 35) = am_E d 99 118 [(0, .ref 3)] [.ref 3, .ref 35, .ref 35, .ref 3] ((ii_ct_X11_3_8 I), (jj_ct_X11_3_8 J), (rr_ct_X11_3_8 R), 36) :=
  am_E_gos 5 rfl
def ii_ct_X5_35_0 (I : Nat → Nat → Int32) : Nat → Nat → Int32 := (am_cl I 36 0)
def jj_ct_X5_35_0 (J : Nat → Nat → Int64) : Nat → Nat → Int64 := (am_cl J 36 0)
def rr_ct_X5_35_0 (R : Nat → Nat → Nat) : Nat → Nat → Nat := (am_cl R 36 0)
set_option maxRecDepth 50000 in
theorem ct_X5_35_0 (d : Nat) (I : Nat → Nat → Int32) (J : Nat → Nat → Int64) (R : Nat → Nat → Nat) : am_E d 36 0 [(0, .ref 35), (1, .ref 10)] [] (I, J, R, 36) = am_E d 36 9 [(0, .ref 35), (1, .ref 10)] [.ref 36, .ref 36, .ref 35] ((ii_ct_X5_35_0 I), (jj_ct_X5_35_0 J), (rr_ct_X5_35_0 R), 37) :=
  am_E_gos 5 rfl
def ii_ct_X6_36_0 (I : Nat → Nat → Int32) : Nat → Nat → Int32 := (am_cl (am_cl (am_cl (am_cl I 37 0) 38 0) 39 0) 40 0)
def jj_ct_X6_36_0 (J : Nat → Nat → Int64) : Nat → Nat → Int64 := (am_cl (am_cl (am_cl (am_cl J 37 0) 38 0) 39 0) 40 0)
def rr_ct_X6_36_0 (R : Nat → Nat → Nat) : Nat → Nat → Nat := (am_up (am_cl (am_up (am_cl (am_up (am_cl (am_up (am_cl R 37 0) 36 0 37) 38 0) 36 1 38) 39 0) 36 2 39) 40 0) 36 4 40)
set_option maxRecDepth 50000 in
theorem ct_X6_36_0 (d : Nat) (I : Nat → Nat → Int32) (J : Nat → Nat → Int64) (R : Nat → Nat → Nat) : am_E d 48 0 [(0, .ref 36)] [] (I, J, R, 37) = am_E d 48 36 [(0, .ref 36)] [] ((ii_ct_X6_36_0 I), (jj_ct_X6_36_0 J), (rr_ct_X6_36_0 R), 41) :=
  am_E_gos 18 rfl
def ii_ct_X6_36 (I : Nat → Nat → Int32) : Nat → Nat → Int32 := (ii_ct_X6_36_0 I)
def jj_ct_X6_36 (J : Nat → Nat → Int64) : Nat → Nat → Int64 := (jj_ct_X6_36_0 J)
def rr_ct_X6_36 (R : Nat → Nat → Nat) : Nat → Nat → Nat := (rr_ct_X6_36_0 R)
set_option maxRecDepth 100000 in
theorem ct_X6_36 (d : Nat) (I : Nat → Nat → Int32) (J : Nat → Nat → Int64) (R : Nat → Nat → Nat) : am_E (d + 1) 48 0 [(0, .ref 36)] [] (I, J, R, 37) = some (none, (ii_ct_X6_36 I, jj_ct_X6_36 J, rr_ct_X6_36 R, 41)) := by
  rw [ct_X6_36_0]
  exact am_E_ret rfl

def ii_ct_X5_35_1 (I : Nat → Nat → Int32) : Nat → Nat → Int32 := (am_cl I 41 0)
def jj_ct_X5_35_1 (J : Nat → Nat → Int64) : Nat → Nat → Int64 := (am_cl J 41 0)
def rr_ct_X5_35_1 (R : Nat → Nat → Nat) : Nat → Nat → Nat := (am_up (am_up (am_cl (am_up R 35 0 36) 41 0) 35 8 41) 35 1 10)
set_option maxRecDepth 50000 in
theorem ct_X5_35_1 (d : Nat) (I : Nat → Nat → Int32) (J : Nat → Nat → Int64) (R : Nat → Nat → Nat) : am_E d 36 12 [(0, .ref 35), (1, .ref 10)] [.ref 36, .ref 35] (I, J, R, 41) = am_E d 36 28 [(0, .ref 35), (1, .ref 10)] [] ((ii_ct_X5_35_1 I), (jj_ct_X5_35_1 J), (rr_ct_X5_35_1 R), 42) :=
  am_E_gos 8 rfl
def ii_ct_X5_35 (I : Nat → Nat → Int32) : Nat → Nat → Int32 := (ii_ct_X5_35_1 (ii_ct_X6_36 (ii_ct_X5_35_0 I)))
def jj_ct_X5_35 (J : Nat → Nat → Int64) : Nat → Nat → Int64 := (jj_ct_X5_35_1 (jj_ct_X6_36 (jj_ct_X5_35_0 J)))
def rr_ct_X5_35 (R : Nat → Nat → Nat) : Nat → Nat → Nat := (rr_ct_X5_35_1 (rr_ct_X6_36 (rr_ct_X5_35_0 R)))
set_option maxRecDepth 100000 in
theorem ct_X5_35 (d : Nat) (I : Nat → Nat → Int32) (J : Nat → Nat → Int64) (R : Nat → Nat → Nat) : am_E (d + 2) 36 0 [(0, .ref 35), (1, .ref 10)] [] (I, J, R, 36) = some (none, (ii_ct_X5_35 I, jj_ct_X5_35 J, rr_ct_X5_35 R, 42)) := by
  rw [ct_X5_35_0]
  rw [am_S_kV (d := d + 1) (b := true) (mj := 48) (as := [.ref 36]) (pc' := 12) (ls' := [(0, .ref 35), (1, .ref 10)]) (rest := [.ref 36, .ref 35]) (la := [(0, .ref 36)]) (l1 := [(0, .ref 35), (1, .ref 10)]) rfl rfl rfl rfl rfl rfl (fun M1 => rfl)]
  rw [ct_X6_36]
  show am_E _ 36 12 [(0, .ref 35), (1, .ref 10)] [.ref 36, .ref 35] _ = _
  rw [ct_X5_35_1]
  exact am_E_ret rfl

def ii_ct_X11_3_9 (I : Nat → Nat → Int32) : Nat → Nat → Int32 := (am_cl I 42 0)
def jj_ct_X11_3_9 (J : Nat → Nat → Int64) : Nat → Nat → Int64 := (am_cl J 42 0)
def rr_ct_X11_3_9 (R : Nat → Nat → Nat) : Nat → Nat → Nat := (am_cl (am_up R 3 10 35) 42 0)
set_option maxRecDepth 50000 in
theorem ct_X11_3_9 (d : Nat) (I : Nat → Nat → Int32) (J : Nat → Nat → Int64) (R : Nat → Nat → Nat) : am_E d 99 124 [(0, .ref 3)] [.ref 35, .ref 3] (I, J, R, 42) = am_E d 99 133 [(0, .ref 3)] [.ref 3, .ref 42, .ref 42, .ref 3] ((ii_ct_X11_3_9 I), (jj_ct_X11_3_9 J), (rr_ct_X11_3_9 R), 43) :=
  am_E_gos 5 rfl
def ii_ct_X5_42_0 (I : Nat → Nat → Int32) : Nat → Nat → Int32 := (am_cl I 43 0)
def jj_ct_X5_42_0 (J : Nat → Nat → Int64) : Nat → Nat → Int64 := (am_cl J 43 0)
def rr_ct_X5_42_0 (R : Nat → Nat → Nat) : Nat → Nat → Nat := (am_cl R 43 0)
set_option maxRecDepth 50000 in
theorem ct_X5_42_0 (d : Nat) (I : Nat → Nat → Int32) (J : Nat → Nat → Int64) (R : Nat → Nat → Nat) : am_E d 36 0 [(0, .ref 42), (1, .ref 10)] [] (I, J, R, 43) = am_E d 36 9 [(0, .ref 42), (1, .ref 10)] [.ref 43, .ref 43, .ref 42] ((ii_ct_X5_42_0 I), (jj_ct_X5_42_0 J), (rr_ct_X5_42_0 R), 44) :=
  am_E_gos 5 rfl
def ii_ct_X6_43_0 (I : Nat → Nat → Int32) : Nat → Nat → Int32 := (am_cl (am_cl (am_cl (am_cl I 44 0) 45 0) 46 0) 47 0)
def jj_ct_X6_43_0 (J : Nat → Nat → Int64) : Nat → Nat → Int64 := (am_cl (am_cl (am_cl (am_cl J 44 0) 45 0) 46 0) 47 0)
def rr_ct_X6_43_0 (R : Nat → Nat → Nat) : Nat → Nat → Nat := (am_up (am_cl (am_up (am_cl (am_up (am_cl (am_up (am_cl R 44 0) 43 0 44) 45 0) 43 1 45) 46 0) 43 2 46) 47 0) 43 4 47)
set_option maxRecDepth 50000 in
theorem ct_X6_43_0 (d : Nat) (I : Nat → Nat → Int32) (J : Nat → Nat → Int64) (R : Nat → Nat → Nat) : am_E d 48 0 [(0, .ref 43)] [] (I, J, R, 44) = am_E d 48 36 [(0, .ref 43)] [] ((ii_ct_X6_43_0 I), (jj_ct_X6_43_0 J), (rr_ct_X6_43_0 R), 48) :=
  am_E_gos 18 rfl
def ii_ct_X6_43 (I : Nat → Nat → Int32) : Nat → Nat → Int32 := (ii_ct_X6_43_0 I)
def jj_ct_X6_43 (J : Nat → Nat → Int64) : Nat → Nat → Int64 := (jj_ct_X6_43_0 J)
def rr_ct_X6_43 (R : Nat → Nat → Nat) : Nat → Nat → Nat := (rr_ct_X6_43_0 R)
set_option maxRecDepth 100000 in
theorem ct_X6_43 (d : Nat) (I : Nat → Nat → Int32) (J : Nat → Nat → Int64) (R : Nat → Nat → Nat) : am_E (d + 1) 48 0 [(0, .ref 43)] [] (I, J, R, 44) = some (none, (ii_ct_X6_43 I, jj_ct_X6_43 J, rr_ct_X6_43 R, 48)) := by
  rw [ct_X6_43_0]
  exact am_E_ret rfl

def ii_ct_X5_42_1 (I : Nat → Nat → Int32) : Nat → Nat → Int32 := (am_cl I 48 0)
def jj_ct_X5_42_1 (J : Nat → Nat → Int64) : Nat → Nat → Int64 := (am_cl J 48 0)
def rr_ct_X5_42_1 (R : Nat → Nat → Nat) : Nat → Nat → Nat := (am_up (am_up (am_cl (am_up R 42 0 43) 48 0) 42 8 48) 42 1 10)
set_option maxRecDepth 50000 in
theorem ct_X5_42_1 (d : Nat) (I : Nat → Nat → Int32) (J : Nat → Nat → Int64) (R : Nat → Nat → Nat) : am_E d 36 12 [(0, .ref 42), (1, .ref 10)] [.ref 43, .ref 42] (I, J, R, 48) = am_E d 36 28 [(0, .ref 42), (1, .ref 10)] [] ((ii_ct_X5_42_1 I), (jj_ct_X5_42_1 J), (rr_ct_X5_42_1 R), 49) :=
  am_E_gos 8 rfl
def ii_ct_X5_42 (I : Nat → Nat → Int32) : Nat → Nat → Int32 := (ii_ct_X5_42_1 (ii_ct_X6_43 (ii_ct_X5_42_0 I)))
def jj_ct_X5_42 (J : Nat → Nat → Int64) : Nat → Nat → Int64 := (jj_ct_X5_42_1 (jj_ct_X6_43 (jj_ct_X5_42_0 J)))
def rr_ct_X5_42 (R : Nat → Nat → Nat) : Nat → Nat → Nat := (rr_ct_X5_42_1 (rr_ct_X6_43 (rr_ct_X5_42_0 R)))
set_option maxRecDepth 100000 in
theorem ct_X5_42 (d : Nat) (I : Nat → Nat → Int32) (J : Nat → Nat → Int64) (R : Nat → Nat → Nat) : am_E (d + 2) 36 0 [(0, .ref 42), (1, .ref 10)] [] (I, J, R, 43) = some (none, (ii_ct_X5_42 I, jj_ct_X5_42 J, rr_ct_X5_42 R, 49)) := by
  rw [ct_X5_42_0]
  rw [am_S_kV (d := d + 1) (b := true) (mj := 48) (as := [.ref 43]) (pc' := 12) (ls' := [(0, .ref 42), (1, .ref 10)]) (rest := [.ref 43, .ref 42]) (la := [(0, .ref 43)]) (l1 := [(0, .ref 42), (1, .ref 10)]) rfl rfl rfl rfl rfl rfl (fun M1 => rfl)]
  rw [ct_X6_43]
  show am_E _ 36 12 [(0, .ref 42), (1, .ref 10)] [.ref 43, .ref 42] _ = _
  rw [ct_X5_42_1]
  exact am_E_ret rfl

def ii_ct_X11_3_10 (I : Nat → Nat → Int32) : Nat → Nat → Int32 := (am_cl I 49 0)
def jj_ct_X11_3_10 (J : Nat → Nat → Int64) : Nat → Nat → Int64 := (am_cl J 49 0)
def rr_ct_X11_3_10 (R : Nat → Nat → Nat) : Nat → Nat → Nat := (am_cl (am_up R 3 11 42) 49 0)
set_option maxRecDepth 50000 in
theorem ct_X11_3_10 (d : Nat) (I : Nat → Nat → Int32) (J : Nat → Nat → Int64) (R : Nat → Nat → Nat) : am_E d 99 139 [(0, .ref 3)] [.ref 42, .ref 3] (I, J, R, 49) = am_E d 99 147 [(0, .ref 3)] [.ref 49, .ref 49, .ref 3] ((ii_ct_X11_3_10 I), (jj_ct_X11_3_10 J), (rr_ct_X11_3_10 R), 50) :=
  am_E_gos 4 rfl
def ii_ct_X8_49_0 (I : Nat → Nat → Int32) : Nat → Nat → Int32 := (am_cl (am_cl I 50 0) 51 0)
def jj_ct_X8_49_0 (J : Nat → Nat → Int64) : Nat → Nat → Int64 := (am_cl (am_cl J 50 0) 51 0)
def rr_ct_X8_49_0 (R : Nat → Nat → Nat) : Nat → Nat → Nat := (am_up (am_cl (am_up (am_cl R 50 0) 49 0 50) 51 0) 49 2 51)
set_option maxRecDepth 50000 in
theorem ct_X8_49_0 (d : Nat) (I : Nat → Nat → Int32) (J : Nat → Nat → Int64) (R : Nat → Nat → Nat) : am_E d 63 0 [(0, .ref 49)] [] (I, J, R, 50) = am_E d 63 21 [(0, .ref 49)] [] ((ii_ct_X8_49_0 I), (jj_ct_X8_49_0 J), (rr_ct_X8_49_0 R), 52) :=
  am_E_gos 10 rfl
def ii_ct_X8_49 (I : Nat → Nat → Int32) : Nat → Nat → Int32 := (ii_ct_X8_49_0 I)
def jj_ct_X8_49 (J : Nat → Nat → Int64) : Nat → Nat → Int64 := (jj_ct_X8_49_0 J)
def rr_ct_X8_49 (R : Nat → Nat → Nat) : Nat → Nat → Nat := (rr_ct_X8_49_0 R)
set_option maxRecDepth 100000 in
theorem ct_X8_49 (d : Nat) (I : Nat → Nat → Int32) (J : Nat → Nat → Int64) (R : Nat → Nat → Nat) : am_E (d + 1) 63 0 [(0, .ref 49)] [] (I, J, R, 50) = some (none, (ii_ct_X8_49 I, jj_ct_X8_49 J, rr_ct_X8_49 R, 52)) := by
  rw [ct_X8_49_0]
  exact am_E_ret rfl

def ii_ct_X11_3_11 (I : Nat → Nat → Int32) : Nat → Nat → Int32 := (am_cl I 52 0)
def jj_ct_X11_3_11 (J : Nat → Nat → Int64) : Nat → Nat → Int64 := (am_cl J 52 0)
def rr_ct_X11_3_11 (R : Nat → Nat → Nat) : Nat → Nat → Nat := (am_cl (am_up R 3 12 49) 52 0)
set_option maxRecDepth 50000 in
theorem ct_X11_3_11 (d : Nat) (I : Nat → Nat → Int32) (J : Nat → Nat → Int64) (R : Nat → Nat → Nat) : am_E d 99 150 [(0, .ref 3)] [.ref 49, .ref 3] (I, J, R, 52) = am_E d 99 158 [(0, .ref 3)] [.ref 52, .ref 52, .ref 3] ((ii_ct_X11_3_11 I), (jj_ct_X11_3_11 J), (rr_ct_X11_3_11 R), 53) :=
  am_E_gos 4 rfl
def ii_ct_X2_52_0 (I : Nat → Nat → Int32) : Nat → Nat → Int32 := (am_cl (am_cl (am_cl (am_cl I 53 0) 54 0) 55 0) 56 0)
def jj_ct_X2_52_0 (J : Nat → Nat → Int64) : Nat → Nat → Int64 := (am_cl (am_cl (am_cl (am_cl J 53 0) 54 0) 55 0) 56 0)
def rr_ct_X2_52_0 (R : Nat → Nat → Nat) : Nat → Nat → Nat := (am_up (am_cl (am_up (am_cl (am_up (am_cl (am_up (am_cl R 53 0) 52 0 53) 54 0) 52 1 54) 55 0) 52 2 55) 56 0) 52 4 56)
set_option maxRecDepth 50000 in
theorem ct_X2_52_0 (d : Nat) (I : Nat → Nat → Int32) (J : Nat → Nat → Int64) (R : Nat → Nat → Nat) : am_E d 10 0 [(0, .ref 52)] [] (I, J, R, 53) = am_E d 10 36 [(0, .ref 52)] [] ((ii_ct_X2_52_0 I), (jj_ct_X2_52_0 J), (rr_ct_X2_52_0 R), 57) :=
  am_E_gos 18 rfl
def ii_ct_X2_52 (I : Nat → Nat → Int32) : Nat → Nat → Int32 := (ii_ct_X2_52_0 I)
def jj_ct_X2_52 (J : Nat → Nat → Int64) : Nat → Nat → Int64 := (jj_ct_X2_52_0 J)
def rr_ct_X2_52 (R : Nat → Nat → Nat) : Nat → Nat → Nat := (rr_ct_X2_52_0 R)
set_option maxRecDepth 100000 in
theorem ct_X2_52 (d : Nat) (I : Nat → Nat → Int32) (J : Nat → Nat → Int64) (R : Nat → Nat → Nat) : am_E (d + 1) 10 0 [(0, .ref 52)] [] (I, J, R, 53) = some (none, (ii_ct_X2_52 I, jj_ct_X2_52 J, rr_ct_X2_52 R, 57)) := by
  rw [ct_X2_52_0]
  exact am_E_ret rfl

def ii_ct_X11_3_12 (I : Nat → Nat → Int32) : Nat → Nat → Int32 := (am_cl I 57 0)
def jj_ct_X11_3_12 (J : Nat → Nat → Int64) : Nat → Nat → Int64 := (am_cl J 57 0)
def rr_ct_X11_3_12 (R : Nat → Nat → Nat) : Nat → Nat → Nat := (am_cl (am_up R 3 13 52) 57 0)
set_option maxRecDepth 50000 in
theorem ct_X11_3_12 (d : Nat) (I : Nat → Nat → Int32) (J : Nat → Nat → Int64) (R : Nat → Nat → Nat) : am_E d 99 161 [(0, .ref 3)] [.ref 52, .ref 3] (I, J, R, 57) = am_E d 99 169 [(0, .ref 3)] [.ref 57, .ref 57, .ref 3] ((ii_ct_X11_3_12 I), (jj_ct_X11_3_12 J), (rr_ct_X11_3_12 R), 58) :=
  am_E_gos 4 rfl
def ii_ct_X4_57_0 (I : Nat → Nat → Int32) : Nat → Nat → Int32 := (am_cl (am_cl (am_cl I 58 0) 59 0) 60 0)
def jj_ct_X4_57_0 (J : Nat → Nat → Int64) : Nat → Nat → Int64 := (am_cl (am_cl (am_cl J 58 0) 59 0) 60 0)
def rr_ct_X4_57_0 (R : Nat → Nat → Nat) : Nat → Nat → Nat := (am_up (am_cl (am_up (am_cl (am_up (am_cl R 58 0) 57 0 58) 59 0) 57 2 59) 60 0) 57 4 60)
set_option maxRecDepth 50000 in
theorem ct_X4_57_0 (d : Nat) (I : Nat → Nat → Int32) (J : Nat → Nat → Int64) (R : Nat → Nat → Nat) : am_E d 29 0 [(0, .ref 57)] [] (I, J, R, 58) = am_E d 29 29 [(0, .ref 57)] [] ((ii_ct_X4_57_0 I), (jj_ct_X4_57_0 J), (rr_ct_X4_57_0 R), 61) :=
  am_E_gos 14 rfl
def ii_ct_X4_57 (I : Nat → Nat → Int32) : Nat → Nat → Int32 := (ii_ct_X4_57_0 I)
def jj_ct_X4_57 (J : Nat → Nat → Int64) : Nat → Nat → Int64 := (jj_ct_X4_57_0 J)
def rr_ct_X4_57 (R : Nat → Nat → Nat) : Nat → Nat → Nat := (rr_ct_X4_57_0 R)
set_option maxRecDepth 100000 in
theorem ct_X4_57 (d : Nat) (I : Nat → Nat → Int32) (J : Nat → Nat → Int64) (R : Nat → Nat → Nat) : am_E (d + 1) 29 0 [(0, .ref 57)] [] (I, J, R, 58) = some (none, (ii_ct_X4_57 I, jj_ct_X4_57 J, rr_ct_X4_57 R, 61)) := by
  rw [ct_X4_57_0]
  exact am_E_ret rfl

def ii_ct_X11_3_13 (I : Nat → Nat → Int32) : Nat → Nat → Int32 := (am_cl I 61 0)
def jj_ct_X11_3_13 (J : Nat → Nat → Int64) : Nat → Nat → Int64 := (am_cl J 61 0)
def rr_ct_X11_3_13 (R : Nat → Nat → Nat) : Nat → Nat → Nat := (am_cl (am_up R 3 14 57) 61 0)
set_option maxRecDepth 50000 in
theorem ct_X11_3_13 (d : Nat) (I : Nat → Nat → Int32) (J : Nat → Nat → Int64) (R : Nat → Nat → Nat) : am_E d 99 172 [(0, .ref 3)] [.ref 57, .ref 3] (I, J, R, 61) = am_E d 99 180 [(0, .ref 3)] [.ref 61, .ref 61, .ref 3] ((ii_ct_X11_3_13 I), (jj_ct_X11_3_13 J), (rr_ct_X11_3_13 R), 62) :=
  am_E_gos 4 rfl
def ii_ct_X7_61_0 (I : Nat → Nat → Int32) : Nat → Nat → Int32 := (am_cl I 62 0)
def jj_ct_X7_61_0 (J : Nat → Nat → Int64) : Nat → Nat → Int64 := (am_cl J 62 0)
def rr_ct_X7_61_0 (R : Nat → Nat → Nat) : Nat → Nat → Nat := (am_up (am_cl R 62 0) 61 0 62)
set_option maxRecDepth 50000 in
theorem ct_X7_61_0 (d : Nat) (I : Nat → Nat → Int32) (J : Nat → Nat → Int64) (R : Nat → Nat → Nat) : am_E d 56 0 [(0, .ref 61)] [] (I, J, R, 62) = am_E d 56 12 [(0, .ref 61)] [] ((ii_ct_X7_61_0 I), (jj_ct_X7_61_0 J), (rr_ct_X7_61_0 R), 63) :=
  am_E_gos 6 rfl
def ii_ct_X7_61 (I : Nat → Nat → Int32) : Nat → Nat → Int32 := (ii_ct_X7_61_0 I)
def jj_ct_X7_61 (J : Nat → Nat → Int64) : Nat → Nat → Int64 := (jj_ct_X7_61_0 J)
def rr_ct_X7_61 (R : Nat → Nat → Nat) : Nat → Nat → Nat := (rr_ct_X7_61_0 R)
set_option maxRecDepth 100000 in
theorem ct_X7_61 (d : Nat) (I : Nat → Nat → Int32) (J : Nat → Nat → Int64) (R : Nat → Nat → Nat) : am_E (d + 1) 56 0 [(0, .ref 61)] [] (I, J, R, 62) = some (none, (ii_ct_X7_61 I, jj_ct_X7_61 J, rr_ct_X7_61 R, 63)) := by
  rw [ct_X7_61_0]
  exact am_E_ret rfl

def ii_ct_X11_3_14 (I : Nat → Nat → Int32) : Nat → Nat → Int32 := (am_up (am_cl I 63 0) 3 17 (am_i 1))
def jj_ct_X11_3_14 (J : Nat → Nat → Int64) : Nat → Nat → Int64 := (am_cl J 63 0)
def rr_ct_X11_3_14 (R : Nat → Nat → Nat) : Nat → Nat → Nat := (am_up (am_cl (am_up R 3 15 61) 63 0) 3 16 63)
set_option maxRecDepth 50000 in
theorem ct_X11_3_14 (d : Nat) (I : Nat → Nat → Int32) (J : Nat → Nat → Int64) (R : Nat → Nat → Nat) : am_E d 99 183 [(0, .ref 3)] [.ref 61, .ref 3] (I, J, R, 63) = am_E d 99 199 [(0, .ref 3)] [] ((ii_ct_X11_3_14 I), (jj_ct_X11_3_14 J), (rr_ct_X11_3_14 R), 64) :=
  am_E_gos 8 rfl
def ii_ct_X11_3 (I : Nat → Nat → Int32) : Nat → Nat → Int32 := (ii_ct_X11_3_14 (ii_ct_X7_61 (ii_ct_X11_3_13 (ii_ct_X4_57 (ii_ct_X11_3_12 (ii_ct_X2_52 (ii_ct_X11_3_11 (ii_ct_X8_49 (ii_ct_X11_3_10 (ii_ct_X5_42 (ii_ct_X11_3_9 (ii_ct_X5_35 (ii_ct_X11_3_8 (ii_ct_X0_33 (ii_ct_X11_3_7 (ii_ct_X10_30 (ii_ct_X11_3_6 (ii_ct_X11_3_5 (ii_ct_X11_3_4 (ii_ct_X1_20 (ii_ct_X11_3_3 (ii_ct_X1_10 (ii_ct_X11_3_2 (ii_ct_X3_8 (ii_ct_X11_3_1 (ii_ct_X9_5 (ii_ct_X11_3_0 I)))))))))))))))))))))))))))
def jj_ct_X11_3 (J : Nat → Nat → Int64) : Nat → Nat → Int64 := (jj_ct_X11_3_14 (jj_ct_X7_61 (jj_ct_X11_3_13 (jj_ct_X4_57 (jj_ct_X11_3_12 (jj_ct_X2_52 (jj_ct_X11_3_11 (jj_ct_X8_49 (jj_ct_X11_3_10 (jj_ct_X5_42 (jj_ct_X11_3_9 (jj_ct_X5_35 (jj_ct_X11_3_8 (jj_ct_X0_33 (jj_ct_X11_3_7 (jj_ct_X10_30 (jj_ct_X11_3_6 (jj_ct_X11_3_5 (jj_ct_X11_3_4 (jj_ct_X1_20 (jj_ct_X11_3_3 (jj_ct_X1_10 (jj_ct_X11_3_2 (jj_ct_X3_8 (jj_ct_X11_3_1 (jj_ct_X9_5 (jj_ct_X11_3_0 J)))))))))))))))))))))))))))
def rr_ct_X11_3 (R : Nat → Nat → Nat) : Nat → Nat → Nat := (rr_ct_X11_3_14 (rr_ct_X7_61 (rr_ct_X11_3_13 (rr_ct_X4_57 (rr_ct_X11_3_12 (rr_ct_X2_52 (rr_ct_X11_3_11 (rr_ct_X8_49 (rr_ct_X11_3_10 (rr_ct_X5_42 (rr_ct_X11_3_9 (rr_ct_X5_35 (rr_ct_X11_3_8 (rr_ct_X0_33 (rr_ct_X11_3_7 (rr_ct_X10_30 (rr_ct_X11_3_6 (rr_ct_X11_3_5 (rr_ct_X11_3_4 (rr_ct_X1_20 (rr_ct_X11_3_3 (rr_ct_X1_10 (rr_ct_X11_3_2 (rr_ct_X3_8 (rr_ct_X11_3_1 (rr_ct_X9_5 (rr_ct_X11_3_0 R)))))))))))))))))))))))))))
set_option maxRecDepth 100000 in
theorem ct_X11_3 (d : Nat) (I : Nat → Nat → Int32) (J : Nat → Nat → Int64) (R : Nat → Nat → Nat) : am_E (d + 4) 99 0 [(0, .ref 3)] [] (I, J, R, 4) = some (none, (ii_ct_X11_3 I, jj_ct_X11_3 J, rr_ct_X11_3 R, 64)) := by
  rw [ct_X11_3_0]
  rw [am_S_kV (d := d + 3) (b := true) (mj := 69) (as := [.ref 5]) (pc' := 21) (ls' := [(0, .ref 3)]) (rest := [.ref 5, .ref 3]) (la := [(0, .ref 5)]) (l1 := [(0, .ref 3)]) rfl rfl rfl rfl rfl rfl (fun M1 => rfl)]
  rw [ct_X9_5]
  show am_E _ 99 21 [(0, .ref 3)] [.ref 5, .ref 3] _ = _
  rw [ct_X11_3_1]
  refine (am_E_gos 1 (pc' := 33) (ls' := [(0, .ref 3)]) (st' := [.ref 5, .ref 8, .ref 8, .ref 3]) rfl).trans ?_
  rw [am_S_kV (d := d + 3) (b := true) (mj := 13) (as := [.ref 8, .ref 5]) (pc' := 36) (ls' := [(0, .ref 3)]) (rest := [.ref 8, .ref 3]) (la := [(0, .ref 8), (1, .ref 5)]) (l1 := [(0, .ref 3)]) rfl rfl rfl rfl rfl rfl (fun M1 => rfl)]
  rw [ct_X3_8]
  show am_E _ 99 36 [(0, .ref 3)] [.ref 8, .ref 3] _ = _
  rw [ct_X11_3_2]
  rw [am_S_kV (d := d + 3) (b := true) (mj := 3) (as := [.ref 10]) (pc' := 47) (ls' := [(0, .ref 3)]) (rest := [.ref 10, .ref 3]) (la := [(0, .ref 10)]) (l1 := [(0, .ref 3)]) rfl rfl rfl rfl rfl rfl (fun M1 => rfl)]
  rw [ct_X1_10]
  show am_E _ 99 47 [(0, .ref 3)] [.ref 10, .ref 3] _ = _
  rw [ct_X11_3_3]
  rw [am_S_kV (d := d + 3) (b := true) (mj := 3) (as := [.ref 20]) (pc' := 58) (ls' := [(0, .ref 3)]) (rest := [.ref 20, .ref 3]) (la := [(0, .ref 20)]) (l1 := [(0, .ref 3)]) rfl rfl rfl rfl rfl rfl (fun M1 => rfl)]
  rw [ct_X1_20]
  show am_E _ 99 58 [(0, .ref 3)] [.ref 20, .ref 3] _ = _
  rw [ct_X11_3_4]
  refine (am_E_gos 1 (pc' := 70) (ls' := [(0, .ref 3)]) (st' := [.ref 5, .ref 30, .ref 30, .ref 3]) rfl).trans ?_
  rw [ct_X11_3_5]
  refine (am_E_gos 1 (pc' := 74) (ls' := [(0, .ref 3)]) (st' := [.ref 8, .ref 5, .ref 30, .ref 30, .ref 3]) rfl).trans ?_
  rw [ct_X11_3_6]
  refine (am_E_gos 1 (pc' := 78) (ls' := [(0, .ref 3)]) (st' := [.ref 20, .ref 8, .ref 5, .ref 30, .ref 30, .ref 3]) rfl).trans ?_
  rw [am_S_kV (d := d + 3) (b := true) (mj := 89) (as := [.ref 30, .ref 5, .ref 8, .ref 20]) (pc' := 81) (ls' := [(0, .ref 3)]) (rest := [.ref 30, .ref 3]) (la := [(0, .ref 30), (1, .ref 5), (2, .ref 8), (3, .ref 20)]) (l1 := [(0, .ref 3)]) rfl rfl rfl rfl rfl rfl (fun M1 => rfl)]
  rw [ct_X10_30]
  show am_E _ 99 81 [(0, .ref 3)] [.ref 30, .ref 3] _ = _
  rw [ct_X11_3_7]
  rw [am_S_kV (d := d + 3) (b := true) (mj := 0) (as := [.ref 33]) (pc' := 109) (ls' := [(0, .ref 3)]) (rest := [.ref 33, .ref 3]) (la := [(0, .ref 33)]) (l1 := [(0, .ref 3)]) rfl rfl rfl rfl rfl rfl (fun M1 => rfl)]
  rw [ct_X0_33]
  show am_E _ 99 109 [(0, .ref 3)] [.ref 33, .ref 3] _ = _
  rw [ct_X11_3_8]
  refine (am_E_gos 1 (pc' := 121) (ls' := [(0, .ref 3)]) (st' := [.ref 10, .ref 35, .ref 35, .ref 3]) rfl).trans ?_
  rw [am_S_kV (d := d + 3) (b := true) (mj := 36) (as := [.ref 35, .ref 10]) (pc' := 124) (ls' := [(0, .ref 3)]) (rest := [.ref 35, .ref 3]) (la := [(0, .ref 35), (1, .ref 10)]) (l1 := [(0, .ref 3)]) rfl rfl rfl rfl rfl rfl (fun M1 => rfl)]
  rw [ct_X5_35]
  show am_E _ 99 124 [(0, .ref 3)] [.ref 35, .ref 3] _ = _
  rw [ct_X11_3_9]
  refine (am_E_gos 1 (pc' := 136) (ls' := [(0, .ref 3)]) (st' := [.ref 10, .ref 42, .ref 42, .ref 3]) rfl).trans ?_
  rw [am_S_kV (d := d + 3) (b := true) (mj := 36) (as := [.ref 42, .ref 10]) (pc' := 139) (ls' := [(0, .ref 3)]) (rest := [.ref 42, .ref 3]) (la := [(0, .ref 42), (1, .ref 10)]) (l1 := [(0, .ref 3)]) rfl rfl rfl rfl rfl rfl (fun M1 => rfl)]
  rw [ct_X5_42]
  show am_E _ 99 139 [(0, .ref 3)] [.ref 42, .ref 3] _ = _
  rw [ct_X11_3_10]
  rw [am_S_kV (d := d + 3) (b := true) (mj := 63) (as := [.ref 49]) (pc' := 150) (ls' := [(0, .ref 3)]) (rest := [.ref 49, .ref 3]) (la := [(0, .ref 49)]) (l1 := [(0, .ref 3)]) rfl rfl rfl rfl rfl rfl (fun M1 => rfl)]
  rw [ct_X8_49]
  show am_E _ 99 150 [(0, .ref 3)] [.ref 49, .ref 3] _ = _
  rw [ct_X11_3_11]
  rw [am_S_kV (d := d + 3) (b := true) (mj := 10) (as := [.ref 52]) (pc' := 161) (ls' := [(0, .ref 3)]) (rest := [.ref 52, .ref 3]) (la := [(0, .ref 52)]) (l1 := [(0, .ref 3)]) rfl rfl rfl rfl rfl rfl (fun M1 => rfl)]
  rw [ct_X2_52]
  show am_E _ 99 161 [(0, .ref 3)] [.ref 52, .ref 3] _ = _
  rw [ct_X11_3_12]
  rw [am_S_kV (d := d + 3) (b := true) (mj := 29) (as := [.ref 57]) (pc' := 172) (ls' := [(0, .ref 3)]) (rest := [.ref 57, .ref 3]) (la := [(0, .ref 57)]) (l1 := [(0, .ref 3)]) rfl rfl rfl rfl rfl rfl (fun M1 => rfl)]
  rw [ct_X4_57]
  show am_E _ 99 172 [(0, .ref 3)] [.ref 57, .ref 3] _ = _
  rw [ct_X11_3_13]
  rw [am_S_kV (d := d + 3) (b := true) (mj := 56) (as := [.ref 61]) (pc' := 183) (ls' := [(0, .ref 3)]) (rest := [.ref 61, .ref 3]) (la := [(0, .ref 61)]) (l1 := [(0, .ref 3)]) rfl rfl rfl rfl rfl rfl (fun M1 => rfl)]
  rw [ct_X7_61]
  show am_E _ 99 183 [(0, .ref 3)] [.ref 61, .ref 3] _ = _
  rw [ct_X11_3_14]
  exact am_E_ret rfl


/-! ===== the constructor of Scan: the words of the text ===== -/
def sc_R (R : Nat → Nat → Nat) : Nat → Nat → Nat := am_up (am_cl (am_up (am_cl R 6 0) 5 0 6) 7 0) 5 1 7
def sc_I (I : Nat → Nat → Int32) : Nat → Nat → Int32 := am_up (am_cl (am_cl I 6 0) 7 0) 5 11 (am_i (-1))
def jj_ct_X9_5 (J : Nat → Nat → Int64) : Nat → Nat → Int64 := am_cl (am_cl J 6 0) 7 0
def rr_ct_X9_5 (R : Nat → Nat → Nat) : Nat → Nat → Nat := sc_R R
set_option maxRecDepth 50000 in
theorem sc_0 (d : Nat) (I : Nat → Nat → Int32) (J : Nat → Nat → Int64) (R : Nat → Nat → Nat) : am_E d 69 0 [(0, .ref 5)] [] (I, J, R, 6) = am_E d 69 33 [(0, .ref 5), (1, .int (am_i 0)), (2, .int (am_i 0)), (3, .int (am_i 0)), (4, .int (am_i 0))] [] (sc_I I, jj_ct_X9_5 J, sc_R R, 8) :=
  am_E_gos 21 rfl
set_option maxRecDepth 50000 in
theorem sc_w0 (d : Nat) (I : Nat → Nat → Int32) (J : Nat → Nat → Int64) (R : Nat → Nat → Nat) : am_E d 69 33 [(0, .ref 5), (1, .int (am_i 0)), (2, .int (am_i 0)), (3, .int (am_i 0)), (4, .int (am_i 0))] [] (I, J, sc_R R, 8) = am_E d 69 33 [(0, .ref 5), (1, .int (am_i 1)), (2, .int (am_i 0)), (3, .int (am_i 0)), (4, .int (am_i 6))] [] (am_up I 6 0 (am_i 653965440), J, sc_R R, 8) :=
  am_E_gos 168 rfl
set_option maxRecDepth 50000 in
theorem sc_w1 (d : Nat) (I : Nat → Nat → Int32) (J : Nat → Nat → Int64) (R : Nat → Nat → Nat) : am_E d 69 33 [(0, .ref 5), (1, .int (am_i 1)), (2, .int (am_i 0)), (3, .int (am_i 0)), (4, .int (am_i 6))] [] (I, J, sc_R R, 8) = am_E d 69 33 [(0, .ref 5), (1, .int (am_i 2)), (2, .int (am_i 0)), (3, .int (am_i 0)), (4, .int (am_i 11))] [] (am_up I 6 1 (am_i 82890752), J, sc_R R, 8) :=
  am_E_gos 141 rfl
set_option maxRecDepth 50000 in
theorem sc_w2 (d : Nat) (I : Nat → Nat → Int32) (J : Nat → Nat → Int64) (R : Nat → Nat → Nat) : am_E d 69 33 [(0, .ref 5), (1, .int (am_i 2)), (2, .int (am_i 0)), (3, .int (am_i 0)), (4, .int (am_i 11))] [] (I, J, sc_R R, 8) = am_E d 69 33 [(0, .ref 5), (1, .int (am_i 3)), (2, .int (am_i 0)), (3, .int (am_i 0)), (4, .int (am_i 14))] [] (am_up I 6 2 (am_i 54525952), J, sc_R R, 8) :=
  am_E_gos 87 rfl
set_option maxRecDepth 50000 in
theorem sc_w3 (d : Nat) (I : Nat → Nat → Int32) (J : Nat → Nat → Int64) (R : Nat → Nat → Nat) : am_E d 69 33 [(0, .ref 5), (1, .int (am_i 3)), (2, .int (am_i 0)), (3, .int (am_i 0)), (4, .int (am_i 14))] [] (I, J, sc_R R, 8) = am_E d 69 33 [(0, .ref 5), (1, .int (am_i 4)), (2, .int (am_i 0)), (3, .int (am_i 0)), (4, .int (am_i 20))] [] (am_up I 6 3 (am_i 680764032), J, sc_R R, 8) :=
  am_E_gos 168 rfl
set_option maxRecDepth 50000 in
theorem sc_w4 (d : Nat) (I : Nat → Nat → Int32) (J : Nat → Nat → Int64) (R : Nat → Nat → Nat) : am_E d 69 33 [(0, .ref 5), (1, .int (am_i 4)), (2, .int (am_i 0)), (3, .int (am_i 0)), (4, .int (am_i 20))] [] (I, J, sc_R R, 8) = am_E d 69 33 [(0, .ref 5), (1, .int (am_i 5)), (2, .int (am_i 0)), (3, .int (am_i 0)), (4, .int (am_i 26))] [] (am_up I 6 4 (am_i 620340672), J, sc_R R, 8) :=
  am_E_gos 168 rfl
set_option maxRecDepth 50000 in
theorem sc_w5 (d : Nat) (I : Nat → Nat → Int32) (J : Nat → Nat → Int64) (R : Nat → Nat → Nat) : am_E d 69 33 [(0, .ref 5), (1, .int (am_i 5)), (2, .int (am_i 0)), (3, .int (am_i 0)), (4, .int (am_i 26))] [] (I, J, sc_R R, 8) = am_E d 69 33 [(0, .ref 5), (1, .int (am_i 6)), (2, .int (am_i 0)), (3, .int (am_i 0)), (4, .int (am_i 32))] [] (am_up I 6 5 (am_i 641190048), J, sc_R R, 8) :=
  am_E_gos 168 rfl
set_option maxRecDepth 50000 in
theorem sc_w6 (d : Nat) (I : Nat → Nat → Int32) (J : Nat → Nat → Int64) (R : Nat → Nat → Nat) : am_E d 69 33 [(0, .ref 5), (1, .int (am_i 6)), (2, .int (am_i 0)), (3, .int (am_i 0)), (4, .int (am_i 32))] [] (I, J, sc_R R, 8) = am_E d 69 33 [(0, .ref 5), (1, .int (am_i 7)), (2, .int (am_i 0)), (3, .int (am_i 0)), (4, .int (am_i 37))] [] (am_up I 6 6 (am_i 787879936), J, sc_R R, 8) :=
  am_E_gos 141 rfl
set_option maxRecDepth 50000 in
theorem sc_w7 (d : Nat) (I : Nat → Nat → Int32) (J : Nat → Nat → Int64) (R : Nat → Nat → Nat) : am_E d 69 33 [(0, .ref 5), (1, .int (am_i 7)), (2, .int (am_i 0)), (3, .int (am_i 0)), (4, .int (am_i 37))] [] (I, J, sc_R R, 8) = am_E d 69 33 [(0, .ref 5), (1, .int (am_i 8)), (2, .int (am_i 0)), (3, .int (am_i 0)), (4, .int (am_i 43))] [] (am_up I 6 7 (am_i 613553728), J, sc_R R, 8) :=
  am_E_gos 168 rfl
set_option maxRecDepth 50000 in
theorem sc_w8 (d : Nat) (I : Nat → Nat → Int32) (J : Nat → Nat → Int64) (R : Nat → Nat → Nat) : am_E d 69 33 [(0, .ref 5), (1, .int (am_i 8)), (2, .int (am_i 0)), (3, .int (am_i 0)), (4, .int (am_i 43))] [] (I, J, sc_R R, 8) = am_E d 69 33 [(0, .ref 5), (1, .int (am_i 9)), (2, .int (am_i 0)), (3, .int (am_i 0)), (4, .int (am_i 47))] [] (am_up I 6 8 (am_i 375160832), J, sc_R R, 8) :=
  am_E_gos 114 rfl
set_option maxRecDepth 50000 in
theorem sc_w9 (d : Nat) (I : Nat → Nat → Int32) (J : Nat → Nat → Int64) (R : Nat → Nat → Nat) : am_E d 69 33 [(0, .ref 5), (1, .int (am_i 9)), (2, .int (am_i 0)), (3, .int (am_i 0)), (4, .int (am_i 47))] [] (I, J, sc_R R, 8) = am_E d 69 33 [(0, .ref 5), (1, .int (am_i 10)), (2, .int (am_i 0)), (3, .int (am_i 0)), (4, .int (am_i 53))] [] (am_up I 6 9 (am_i 102320928), J, sc_R R, 8) :=
  am_E_gos 168 rfl
set_option maxRecDepth 50000 in
theorem sc_w10 (d : Nat) (I : Nat → Nat → Int32) (J : Nat → Nat → Int64) (R : Nat → Nat → Nat) : am_E d 69 33 [(0, .ref 5), (1, .int (am_i 10)), (2, .int (am_i 0)), (3, .int (am_i 0)), (4, .int (am_i 53))] [] (I, J, sc_R R, 8) = am_E d 69 33 [(0, .ref 5), (1, .int (am_i 11)), (2, .int (am_i 0)), (3, .int (am_i 0)), (4, .int (am_i 59))] [] (am_up I 6 10 (am_i 650429024), J, sc_R R, 8) :=
  am_E_gos 168 rfl
set_option maxRecDepth 50000 in
theorem sc_w11 (d : Nat) (I : Nat → Nat → Int32) (J : Nat → Nat → Int64) (R : Nat → Nat → Nat) : am_E d 69 33 [(0, .ref 5), (1, .int (am_i 11)), (2, .int (am_i 0)), (3, .int (am_i 0)), (4, .int (am_i 59))] [] (I, J, sc_R R, 8) = am_E d 69 33 [(0, .ref 5), (1, .int (am_i 12)), (2, .int (am_i 0)), (3, .int (am_i 0)), (4, .int (am_i 65))] [] (am_up I 6 11 (am_i 661698048), J, sc_R R, 8) :=
  am_E_gos 168 rfl
set_option maxRecDepth 50000 in
theorem sc_w12 (d : Nat) (I : Nat → Nat → Int32) (J : Nat → Nat → Int64) (R : Nat → Nat → Nat) : am_E d 69 33 [(0, .ref 5), (1, .int (am_i 12)), (2, .int (am_i 0)), (3, .int (am_i 0)), (4, .int (am_i 65))] [] (I, J, sc_R R, 8) = am_E d 69 33 [(0, .ref 5), (1, .int (am_i 13)), (2, .int (am_i 0)), (3, .int (am_i 0)), (4, .int (am_i 70))] [] (am_up I 6 12 (am_i 781651968), J, sc_R R, 8) :=
  am_E_gos 141 rfl
set_option maxRecDepth 50000 in
theorem sc_w13 (d : Nat) (I : Nat → Nat → Int32) (J : Nat → Nat → Int64) (R : Nat → Nat → Nat) : am_E d 69 33 [(0, .ref 5), (1, .int (am_i 13)), (2, .int (am_i 0)), (3, .int (am_i 0)), (4, .int (am_i 70))] [] (I, J, sc_R R, 8) = am_E d 69 33 [(0, .ref 5), (1, .int (am_i 14)), (2, .int (am_i 0)), (3, .int (am_i 0)), (4, .int (am_i 77))] [] (am_up I 6 13 (am_i 656049548), J, sc_R R, 8) :=
  am_E_gos 195 rfl
set_option maxRecDepth 50000 in
theorem sc_w14 (d : Nat) (I : Nat → Nat → Int32) (J : Nat → Nat → Int64) (R : Nat → Nat → Nat) : am_E d 69 33 [(0, .ref 5), (1, .int (am_i 14)), (2, .int (am_i 0)), (3, .int (am_i 0)), (4, .int (am_i 77))] [] (I, J, sc_R R, 8) = am_E d 69 33 [(0, .ref 5), (1, .int (am_i 15)), (2, .int (am_i 0)), (3, .int (am_i 0)), (4, .int (am_i 82))] [] (am_up I 6 14 (am_i 486151168), J, sc_R R, 8) :=
  am_E_gos 141 rfl
set_option maxRecDepth 50000 in
theorem sc_w15 (d : Nat) (I : Nat → Nat → Int32) (J : Nat → Nat → Int64) (R : Nat → Nat → Nat) : am_E d 69 33 [(0, .ref 5), (1, .int (am_i 15)), (2, .int (am_i 0)), (3, .int (am_i 0)), (4, .int (am_i 82))] [] (I, J, sc_R R, 8) = am_E d 69 33 [(0, .ref 5), (1, .int (am_i 16)), (2, .int (am_i 0)), (3, .int (am_i 0)), (4, .int (am_i 87))] [] (am_up I 6 15 (am_i 446043136), J, sc_R R, 8) :=
  am_E_gos 141 rfl
set_option maxRecDepth 50000 in
theorem sc_w16 (d : Nat) (I : Nat → Nat → Int32) (J : Nat → Nat → Int64) (R : Nat → Nat → Nat) : am_E d 69 33 [(0, .ref 5), (1, .int (am_i 16)), (2, .int (am_i 0)), (3, .int (am_i 0)), (4, .int (am_i 87))] [] (I, J, sc_R R, 8) = am_E d 69 33 [(0, .ref 5), (1, .int (am_i 17)), (2, .int (am_i 0)), (3, .int (am_i 0)), (4, .int (am_i 92))] [] (am_up I 6 16 (am_i 777474048), J, sc_R R, 8) :=
  am_E_gos 141 rfl
set_option maxRecDepth 50000 in
theorem sc_w17 (d : Nat) (I : Nat → Nat → Int32) (J : Nat → Nat → Int64) (R : Nat → Nat → Nat) : am_E d 69 33 [(0, .ref 5), (1, .int (am_i 17)), (2, .int (am_i 0)), (3, .int (am_i 0)), (4, .int (am_i 92))] [] (I, J, sc_R R, 8) = am_E d 69 33 [(0, .ref 5), (1, .int (am_i 18)), (2, .int (am_i 0)), (3, .int (am_i 0)), (4, .int (am_i 99))] [] (am_up I 6 17 (am_i 492210354), J, sc_R R, 8) :=
  am_E_gos 195 rfl
set_option maxRecDepth 50000 in
theorem sc_w18 (d : Nat) (I : Nat → Nat → Int32) (J : Nat → Nat → Int64) (R : Nat → Nat → Nat) : am_E d 69 33 [(0, .ref 5), (1, .int (am_i 18)), (2, .int (am_i 0)), (3, .int (am_i 0)), (4, .int (am_i 99))] [] (I, J, sc_R R, 8) = am_E d 69 33 [(0, .ref 5), (1, .int (am_i 19)), (2, .int (am_i 0)), (3, .int (am_i 0)), (4, .int (am_i 104))] [] (am_up I 6 18 (am_i 660024320), J, sc_R R, 8) :=
  am_E_gos 141 rfl
set_option maxRecDepth 50000 in
theorem sc_w19 (d : Nat) (I : Nat → Nat → Int32) (J : Nat → Nat → Int64) (R : Nat → Nat → Nat) : am_E d 69 33 [(0, .ref 5), (1, .int (am_i 19)), (2, .int (am_i 0)), (3, .int (am_i 0)), (4, .int (am_i 104))] [] (I, J, sc_R R, 8) = am_E d 69 33 [(0, .ref 5), (1, .int (am_i 20)), (2, .int (am_i 0)), (3, .int (am_i 0)), (4, .int (am_i 109))] [] (am_up I 6 19 (am_i 284870656), J, sc_R R, 8) :=
  am_E_gos 141 rfl
set_option maxRecDepth 50000 in
theorem sc_w20 (d : Nat) (I : Nat → Nat → Int32) (J : Nat → Nat → Int64) (R : Nat → Nat → Nat) : am_E d 69 33 [(0, .ref 5), (1, .int (am_i 20)), (2, .int (am_i 0)), (3, .int (am_i 0)), (4, .int (am_i 109))] [] (I, J, sc_R R, 8) = am_E d 69 33 [(0, .ref 5), (1, .int (am_i 21)), (2, .int (am_i 0)), (3, .int (am_i 0)), (4, .int (am_i 112))] [] (am_up I 6 20 (am_i 522190848), J, sc_R R, 8) :=
  am_E_gos 87 rfl
set_option maxRecDepth 50000 in
theorem sc_w21 (d : Nat) (I : Nat → Nat → Int32) (J : Nat → Nat → Int64) (R : Nat → Nat → Nat) : am_E d 69 33 [(0, .ref 5), (1, .int (am_i 21)), (2, .int (am_i 0)), (3, .int (am_i 0)), (4, .int (am_i 112))] [] (I, J, sc_R R, 8) = am_E d 69 33 [(0, .ref 5), (1, .int (am_i 22)), (2, .int (am_i 0)), (3, .int (am_i 0)), (4, .int (am_i 116))] [] (am_up I 6 21 (am_i 48365568), J, sc_R R, 8) :=
  am_E_gos 114 rfl
set_option maxRecDepth 50000 in
theorem sc_w22 (d : Nat) (I : Nat → Nat → Int32) (J : Nat → Nat → Int64) (R : Nat → Nat → Nat) : am_E d 69 33 [(0, .ref 5), (1, .int (am_i 22)), (2, .int (am_i 0)), (3, .int (am_i 0)), (4, .int (am_i 116))] [] (I, J, sc_R R, 8) = am_E d 69 33 [(0, .ref 5), (1, .int (am_i 23)), (2, .int (am_i 0)), (3, .int (am_i 0)), (4, .int (am_i 120))] [] (am_up I 6 22 (am_i 486146048), J, sc_R R, 8) :=
  am_E_gos 114 rfl
set_option maxRecDepth 50000 in
theorem sc_w23 (d : Nat) (I : Nat → Nat → Int32) (J : Nat → Nat → Int64) (R : Nat → Nat → Nat) : am_E d 69 33 [(0, .ref 5), (1, .int (am_i 23)), (2, .int (am_i 0)), (3, .int (am_i 0)), (4, .int (am_i 120))] [] (I, J, sc_R R, 8) = am_E d 69 33 [(0, .ref 5), (1, .int (am_i 24)), (2, .int (am_i 0)), (3, .int (am_i 0)), (4, .int (am_i 124))] [] (am_up I 6 23 (am_i 46530560), J, sc_R R, 8) :=
  am_E_gos 114 rfl
set_option maxRecDepth 50000 in
theorem sc_w24 (d : Nat) (I : Nat → Nat → Int32) (J : Nat → Nat → Int64) (R : Nat → Nat → Nat) : am_E d 69 33 [(0, .ref 5), (1, .int (am_i 24)), (2, .int (am_i 0)), (3, .int (am_i 0)), (4, .int (am_i 124))] [] (I, J, sc_R R, 8) = am_E d 69 33 [(0, .ref 5), (1, .int (am_i 25)), (2, .int (am_i 0)), (3, .int (am_i 0)), (4, .int (am_i 128))] [] (am_up I 6 24 (am_i 446103552), J, sc_R R, 8) :=
  am_E_gos 114 rfl
set_option maxRecDepth 50000 in
theorem sc_w25 (d : Nat) (I : Nat → Nat → Int32) (J : Nat → Nat → Int64) (R : Nat → Nat → Nat) : am_E d 69 33 [(0, .ref 5), (1, .int (am_i 25)), (2, .int (am_i 0)), (3, .int (am_i 0)), (4, .int (am_i 128))] [] (I, J, sc_R R, 8) = am_E d 69 33 [(0, .ref 5), (1, .int (am_i 26)), (2, .int (am_i 0)), (3, .int (am_i 0)), (4, .int (am_i 132))] [] (am_up I 6 25 (am_i 438042624), J, sc_R R, 8) :=
  am_E_gos 114 rfl
set_option maxRecDepth 50000 in
theorem sc_w26 (d : Nat) (I : Nat → Nat → Int32) (J : Nat → Nat → Int64) (R : Nat → Nat → Nat) : am_E d 69 33 [(0, .ref 5), (1, .int (am_i 26)), (2, .int (am_i 0)), (3, .int (am_i 0)), (4, .int (am_i 132))] [] (I, J, sc_R R, 8) = am_E d 69 33 [(0, .ref 5), (1, .int (am_i 27)), (2, .int (am_i 0)), (3, .int (am_i 0)), (4, .int (am_i 138))] [] (am_up I 6 26 (am_i 211373696), J, sc_R R, 8) :=
  am_E_gos 168 rfl
set_option maxRecDepth 50000 in
theorem sc_w27 (d : Nat) (I : Nat → Nat → Int32) (J : Nat → Nat → Int64) (R : Nat → Nat → Nat) : am_E d 69 33 [(0, .ref 5), (1, .int (am_i 27)), (2, .int (am_i 0)), (3, .int (am_i 0)), (4, .int (am_i 138))] [] (I, J, sc_R R, 8) = am_E d 69 33 [(0, .ref 5), (1, .int (am_i 28)), (2, .int (am_i 0)), (3, .int (am_i 0)), (4, .int (am_i 143))] [] (am_up I 6 27 (am_i 404344832), J, sc_R R, 8) :=
  am_E_gos 141 rfl
set_option maxRecDepth 50000 in
theorem sc_w28 (d : Nat) (I : Nat → Nat → Int32) (J : Nat → Nat → Int64) (R : Nat → Nat → Nat) : am_E d 69 33 [(0, .ref 5), (1, .int (am_i 28)), (2, .int (am_i 0)), (3, .int (am_i 0)), (4, .int (am_i 143))] [] (I, J, sc_R R, 8) = am_E d 69 33 [(0, .ref 5), (1, .int (am_i 29)), (2, .int (am_i 0)), (3, .int (am_i 0)), (4, .int (am_i 149))] [] (am_up I 6 28 (am_i 510268864), J, sc_R R, 8) :=
  am_E_gos 168 rfl
set_option maxRecDepth 50000 in
theorem sc_w29 (d : Nat) (I : Nat → Nat → Int32) (J : Nat → Nat → Int64) (R : Nat → Nat → Nat) : am_E d 69 33 [(0, .ref 5), (1, .int (am_i 29)), (2, .int (am_i 0)), (3, .int (am_i 0)), (4, .int (am_i 149))] [] (I, J, sc_R R, 8) = am_E d 69 33 [(0, .ref 5), (1, .int (am_i 30)), (2, .int (am_i 0)), (3, .int (am_i 0)), (4, .int (am_i 155))] [] (am_up I 6 29 (am_i 687474048), J, sc_R R, 8) :=
  am_E_gos 168 rfl
set_option maxRecDepth 50000 in
theorem sc_w30 (d : Nat) (I : Nat → Nat → Int32) (J : Nat → Nat → Int64) (R : Nat → Nat → Nat) : am_E d 69 33 [(0, .ref 5), (1, .int (am_i 30)), (2, .int (am_i 0)), (3, .int (am_i 0)), (4, .int (am_i 155))] [] (I, J, sc_R R, 8) = am_E d 69 33 [(0, .ref 5), (1, .int (am_i 31)), (2, .int (am_i 0)), (3, .int (am_i 0)), (4, .int (am_i 160))] [] (am_up I 6 30 (am_i 452579328), J, sc_R R, 8) :=
  am_E_gos 141 rfl
set_option maxRecDepth 50000 in
theorem sc_w31 (d : Nat) (I : Nat → Nat → Int32) (J : Nat → Nat → Int64) (R : Nat → Nat → Nat) : am_E d 69 33 [(0, .ref 5), (1, .int (am_i 31)), (2, .int (am_i 0)), (3, .int (am_i 0)), (4, .int (am_i 160))] [] (I, J, sc_R R, 8) = am_E d 69 33 [(0, .ref 5), (1, .int (am_i 32)), (2, .int (am_i 0)), (3, .int (am_i 0)), (4, .int (am_i 166))] [] (am_up I 6 31 (am_i 407948928), J, sc_R R, 8) :=
  am_E_gos 168 rfl
def ii_ct_X9_5 (I : Nat → Nat → Int32) : Nat → Nat → Int32 := am_up (am_up (am_up (am_up (am_up (am_up (am_up (am_up (am_up (am_up (am_up (am_up (am_up (am_up (am_up (am_up (am_up (am_up (am_up (am_up (am_up (am_up (am_up (am_up (am_up (am_up (am_up (am_up (am_up (am_up (am_up (am_up (sc_I I) 6 0 (am_i 653965440)) 6 1 (am_i 82890752)) 6 2 (am_i 54525952)) 6 3 (am_i 680764032)) 6 4 (am_i 620340672)) 6 5 (am_i 641190048)) 6 6 (am_i 787879936)) 6 7 (am_i 613553728)) 6 8 (am_i 375160832)) 6 9 (am_i 102320928)) 6 10 (am_i 650429024)) 6 11 (am_i 661698048)) 6 12 (am_i 781651968)) 6 13 (am_i 656049548)) 6 14 (am_i 486151168)) 6 15 (am_i 446043136)) 6 16 (am_i 777474048)) 6 17 (am_i 492210354)) 6 18 (am_i 660024320)) 6 19 (am_i 284870656)) 6 20 (am_i 522190848)) 6 21 (am_i 48365568)) 6 22 (am_i 486146048)) 6 23 (am_i 46530560)) 6 24 (am_i 446103552)) 6 25 (am_i 438042624)) 6 26 (am_i 211373696)) 6 27 (am_i 404344832)) 6 28 (am_i 510268864)) 6 29 (am_i 687474048)) 6 30 (am_i 452579328)) 6 31 (am_i 407948928)
set_option maxRecDepth 50000 in
theorem ct_X9_5 (d : Nat) (I : Nat → Nat → Int32) (J : Nat → Nat → Int64) (R : Nat → Nat → Nat) : am_E d 69 0 [(0, .ref 5)] [] (I, J, R, 6) = some (none, (ii_ct_X9_5 I, jj_ct_X9_5 J, rr_ct_X9_5 R, 8)) := by
  rw [sc_0, sc_w0, sc_w1, sc_w2, sc_w3, sc_w4, sc_w5, sc_w6, sc_w7, sc_w8, sc_w9, sc_w10, sc_w11, sc_w12, sc_w13, sc_w14, sc_w15, sc_w16, sc_w17, sc_w18, sc_w19, sc_w20, sc_w21, sc_w22, sc_w23, sc_w24, sc_w25, sc_w26, sc_w27, sc_w28, sc_w29, sc_w30, sc_w31]
  refine (am_E_gos 4 (pc' := 110) (ls' := []) (st' := []) rfl).trans ?_
  exact am_E_ret rfl

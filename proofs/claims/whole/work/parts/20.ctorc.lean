/-! ===== the constructors ===== -/
def ii_ct_X12_64_0 (I : Nat → Nat → Int32) : Nat → Nat → Int32 := (am_up (am_up (am_up (am_up (am_cl (am_up (am_up (am_up (am_up (am_up (am_cl (am_cl (am_up (am_cl I 65 0) 64 8 (am_i (-1))) 66 0) 67 0) 67 (am_i 0).toNatClampNeg (am_i 115)) 67 (am_i 1).toNatClampNeg (am_i 111)) 67 (am_i 2).toNatClampNeg (am_i 117)) 67 (am_i 3).toNatClampNeg (am_i 110)) 67 (am_i 4).toNatClampNeg (am_i 100)) 68 0) 68 (am_i 0).toNatClampNeg (am_i 98)) 68 (am_i 1).toNatClampNeg (am_i 111)) 68 (am_i 2).toNatClampNeg (am_i 97)) 68 (am_i 3).toNatClampNeg (am_i 116))
def jj_ct_X12_64_0 (J : Nat → Nat → Int64) : Nat → Nat → Int64 := (am_cl (am_cl (am_cl (am_cl J 65 0) 66 0) 67 0) 68 0)
def rr_ct_X12_64_0 (R : Nat → Nat → Nat) : Nat → Nat → Nat := (am_up (am_cl (am_up (am_cl (am_up (am_cl (am_up (am_cl R 65 0) 64 0 65) 66 0) 64 9 66) 67 0) 64 11 67) 68 0) 64 12 68)
set_option maxRecDepth 50000 in
theorem ct_X12_64_0 (d : Nat) (I : Nat → Nat → Int32) (J : Nat → Nat → Int64) (R : Nat → Nat → Nat) : am_E d 163 0 [(0, .ref 64)] [] (I, J, R, 65) = am_E d 163 85 [(0, .ref 64)] [] ((ii_ct_X12_64_0 I), (jj_ct_X12_64_0 J), (rr_ct_X12_64_0 R), 69) :=
  am_E_gos 57 rfl
def ii_ct_X12_64_1 (I : Nat → Nat → Int32) : Nat → Nat → Int32 := (am_up (am_up (am_up (am_up (am_up (am_cl (am_up (am_up (am_up (am_up (am_up (am_cl (am_up (am_up (am_cl I 69 0) 69 (am_i 0).toNatClampNeg (am_i 97)) 69 (am_i 1).toNatClampNeg (am_i 116)) 70 0) 70 (am_i 0).toNatClampNeg (am_i 116)) 70 (am_i 1).toNatClampNeg (am_i 105)) 70 (am_i 2).toNatClampNeg (am_i 103)) 70 (am_i 3).toNatClampNeg (am_i 104)) 70 (am_i 4).toNatClampNeg (am_i 116)) 71 0) 71 (am_i 0).toNatClampNeg (am_i 114)) 71 (am_i 1).toNatClampNeg (am_i 111)) 71 (am_i 2).toNatClampNeg (am_i 115)) 71 (am_i 3).toNatClampNeg (am_i 105)) 71 (am_i 4).toNatClampNeg (am_i 110))
def jj_ct_X12_64_1 (J : Nat → Nat → Int64) : Nat → Nat → Int64 := (am_cl (am_cl (am_cl J 69 0) 70 0) 71 0)
def rr_ct_X12_64_1 (R : Nat → Nat → Nat) : Nat → Nat → Nat := (am_up (am_cl (am_up (am_cl (am_up (am_cl R 69 0) 64 13 69) 70 0) 64 14 70) 71 0) 64 15 71)
set_option maxRecDepth 50000 in
theorem ct_X12_64_1 (d : Nat) (I : Nat → Nat → Int32) (J : Nat → Nat → Int64) (R : Nat → Nat → Nat) : am_E d 163 85 [(0, .ref 64)] [] (I, J, R, 69) = am_E d 163 166 [(0, .ref 64)] [] ((ii_ct_X12_64_1 I), (jj_ct_X12_64_1 J), (rr_ct_X12_64_1 R), 72) :=
  am_E_gos 60 rfl
def ii_ct_X12_64_2 (I : Nat → Nat → Int32) : Nat → Nat → Int32 := (am_up (am_up (am_up (am_up (am_up (am_cl (am_up (am_up (am_up (am_up (am_cl (am_up (am_up (am_up (am_up (am_up (am_cl I 72 0) 72 (am_i 0).toNatClampNeg (am_i 115)) 72 (am_i 1).toNatClampNeg (am_i 99)) 72 (am_i 2).toNatClampNeg (am_i 111)) 72 (am_i 3).toNatClampNeg (am_i 114)) 72 (am_i 4).toNatClampNeg (am_i 101)) 73 0) 73 (am_i 0).toNatClampNeg (am_i 119)) 73 (am_i 1).toNatClampNeg (am_i 111)) 73 (am_i 2).toNatClampNeg (am_i 108)) 73 (am_i 3).toNatClampNeg (am_i 102)) 74 0) 74 (am_i 0).toNatClampNeg (am_i 114)) 74 (am_i 1).toNatClampNeg (am_i 105)) 74 (am_i 2).toNatClampNeg (am_i 100)) 74 (am_i 3).toNatClampNeg (am_i 101)) 74 (am_i 4).toNatClampNeg (am_i 114))
def jj_ct_X12_64_2 (J : Nat → Nat → Int64) : Nat → Nat → Int64 := (am_cl (am_cl (am_cl J 72 0) 73 0) 74 0)
def rr_ct_X12_64_2 (R : Nat → Nat → Nat) : Nat → Nat → Nat := (am_up (am_cl (am_up (am_cl (am_up (am_cl R 72 0) 64 16 72) 73 0) 64 17 73) 74 0) 64 18 74)
set_option maxRecDepth 50000 in
theorem ct_X12_64_2 (d : Nat) (I : Nat → Nat → Int32) (J : Nat → Nat → Int64) (R : Nat → Nat → Nat) : am_E d 163 166 [(0, .ref 64)] [] (I, J, R, 72) = am_E d 163 257 [(0, .ref 64)] [] ((ii_ct_X12_64_2 I), (jj_ct_X12_64_2 J), (rr_ct_X12_64_2 R), 75) :=
  am_E_gos 68 rfl
def ii_ct_X12_64_3 (I : Nat → Nat → Int32) : Nat → Nat → Int32 := (am_up (am_up (am_up (am_up (am_up (am_cl (am_up (am_up (am_up (am_up (am_up (am_cl (am_up (am_up (am_up (am_cl I 75 0) 75 (am_i 0).toNatClampNeg (am_i 107)) 75 (am_i 1).toNatClampNeg (am_i 101)) 75 (am_i 2).toNatClampNeg (am_i 121)) 76 0) 76 (am_i 0).toNatClampNeg (am_i 99)) 76 (am_i 1).toNatClampNeg (am_i 97)) 76 (am_i 2).toNatClampNeg (am_i 114)) 76 (am_i 3).toNatClampNeg (am_i 114)) 76 (am_i 4).toNatClampNeg (am_i 121)) 77 0) 77 (am_i 0).toNatClampNeg (am_i 115)) 77 (am_i 1).toNatClampNeg (am_i 108)) 77 (am_i 2).toNatClampNeg (am_i 105)) 77 (am_i 3).toNatClampNeg (am_i 112)) 77 (am_i 4).toNatClampNeg (am_i 115))
def jj_ct_X12_64_3 (J : Nat → Nat → Int64) : Nat → Nat → Int64 := (am_cl (am_cl (am_cl J 75 0) 76 0) 77 0)
def rr_ct_X12_64_3 (R : Nat → Nat → Nat) : Nat → Nat → Nat := (am_up (am_cl (am_up (am_cl (am_up (am_cl R 75 0) 64 19 75) 76 0) 64 20 76) 77 0) 64 21 77)
set_option maxRecDepth 50000 in
theorem ct_X12_64_3 (d : Nat) (I : Nat → Nat → Int32) (J : Nat → Nat → Int64) (R : Nat → Nat → Nat) : am_E d 163 257 [(0, .ref 64)] [] (I, J, R, 75) = am_E d 163 343 [(0, .ref 64)] [] ((ii_ct_X12_64_3 I), (jj_ct_X12_64_3 J), (rr_ct_X12_64_3 R), 78) :=
  am_E_gos 64 rfl
def ii_ct_X12_64_4 (I : Nat → Nat → Int32) : Nat → Nat → Int32 := (am_up (am_up (am_up (am_up (am_up (am_up (am_cl (am_up (am_up (am_up (am_up (am_cl (am_up (am_up (am_up (am_up (am_up (am_cl I 78 0) 78 (am_i 0).toNatClampNeg (am_i 115)) 78 (am_i 1).toNatClampNeg (am_i 119)) 78 (am_i 2).toNatClampNeg (am_i 97)) 78 (am_i 3).toNatClampNeg (am_i 109)) 78 (am_i 4).toNatClampNeg (am_i 112)) 79 0) 79 (am_i 0).toNatClampNeg (am_i 119)) 79 (am_i 1).toNatClampNeg (am_i 105)) 79 (am_i 2).toNatClampNeg (am_i 110)) 79 (am_i 3).toNatClampNeg (am_i 100)) 80 0) 80 (am_i 0).toNatClampNeg (am_i 115)) 80 (am_i 1).toNatClampNeg (am_i 113)) 80 (am_i 2).toNatClampNeg (am_i 117)) 80 (am_i 3).toNatClampNeg (am_i 97)) 80 (am_i 4).toNatClampNeg (am_i 108)) 80 (am_i 5).toNatClampNeg (am_i 108))
def jj_ct_X12_64_4 (J : Nat → Nat → Int64) : Nat → Nat → Int64 := (am_cl (am_cl (am_cl J 78 0) 79 0) 80 0)
def rr_ct_X12_64_4 (R : Nat → Nat → Nat) : Nat → Nat → Nat := (am_up (am_cl (am_up (am_cl (am_up (am_cl R 78 0) 64 22 78) 79 0) 64 23 79) 80 0) 64 24 80)
set_option maxRecDepth 50000 in
theorem ct_X12_64_4 (d : Nat) (I : Nat → Nat → Int32) (J : Nat → Nat → Int64) (R : Nat → Nat → Nat) : am_E d 163 343 [(0, .ref 64)] [] (I, J, R, 78) = am_E d 163 440 [(0, .ref 64)] [] ((ii_ct_X12_64_4 I), (jj_ct_X12_64_4 J), (rr_ct_X12_64_4 R), 81) :=
  am_E_gos 72 rfl
def ii_ct_X12_64_5 (I : Nat → Nat → Int32) : Nat → Nat → Int32 := (am_up (am_up (am_up (am_up (am_cl (am_up (am_up (am_up (am_up (am_cl (am_up (am_up (am_up (am_up (am_cl I 81 0) 81 (am_i 0).toNatClampNeg (am_i 110)) 81 (am_i 1).toNatClampNeg (am_i 111)) 81 (am_i 2).toNatClampNeg (am_i 116)) 81 (am_i 3).toNatClampNeg (am_i 101)) 82 0) 82 (am_i 0).toNatClampNeg (am_i 109)) 82 (am_i 1).toNatClampNeg (am_i 105)) 82 (am_i 2).toNatClampNeg (am_i 108)) 82 (am_i 3).toNatClampNeg (am_i 101)) 83 0) 83 (am_i 0).toNatClampNeg (am_i 119)) 83 (am_i 1).toNatClampNeg (am_i 101)) 83 (am_i 2).toNatClampNeg (am_i 110)) 83 (am_i 3).toNatClampNeg (am_i 116))
def jj_ct_X12_64_5 (J : Nat → Nat → Int64) : Nat → Nat → Int64 := (am_cl (am_cl (am_cl J 81 0) 82 0) 83 0)
def rr_ct_X12_64_5 (R : Nat → Nat → Nat) : Nat → Nat → Nat := (am_up (am_cl (am_up (am_cl (am_up (am_cl R 81 0) 64 25 81) 82 0) 64 26 82) 83 0) 64 27 83)
set_option maxRecDepth 50000 in
theorem ct_X12_64_5 (d : Nat) (I : Nat → Nat → Int32) (J : Nat → Nat → Int64) (R : Nat → Nat → Nat) : am_E d 163 440 [(0, .ref 64)] [] (I, J, R, 81) = am_E d 163 521 [(0, .ref 64)] [] ((ii_ct_X12_64_5 I), (jj_ct_X12_64_5 J), (rr_ct_X12_64_5 R), 84) :=
  am_E_gos 60 rfl
def ii_ct_X12_64_6 (I : Nat → Nat → Int32) : Nat → Nat → Int32 := (am_up (am_up (am_up (am_up (am_cl (am_up (am_up (am_up (am_up (am_cl (am_up (am_up (am_up (am_up (am_up (am_up (am_cl I 84 0) 84 (am_i 0).toNatClampNeg (am_i 110)) 84 (am_i 1).toNatClampNeg (am_i 117)) 84 (am_i 2).toNatClampNeg (am_i 109)) 84 (am_i 3).toNatClampNeg (am_i 98)) 84 (am_i 4).toNatClampNeg (am_i 101)) 84 (am_i 5).toNatClampNeg (am_i 114)) 85 0) 85 (am_i 0).toNatClampNeg (am_i 115)) 85 (am_i 1).toNatClampNeg (am_i 117)) 85 (am_i 2).toNatClampNeg (am_i 110)) 85 (am_i 3).toNatClampNeg (am_i 107)) 86 0) 86 (am_i 0).toNatClampNeg (am_i 104)) 86 (am_i 1).toNatClampNeg (am_i 111)) 86 (am_i 2).toNatClampNeg (am_i 117)) 86 (am_i 3).toNatClampNeg (am_i 114))
def jj_ct_X12_64_6 (J : Nat → Nat → Int64) : Nat → Nat → Int64 := (am_cl (am_cl (am_cl J 84 0) 85 0) 86 0)
def rr_ct_X12_64_6 (R : Nat → Nat → Nat) : Nat → Nat → Nat := (am_up (am_cl (am_up (am_cl (am_up (am_cl R 84 0) 64 28 84) 85 0) 64 29 85) 86 0) 64 30 86)
set_option maxRecDepth 50000 in
theorem ct_X12_64_6 (d : Nat) (I : Nat → Nat → Int32) (J : Nat → Nat → Int64) (R : Nat → Nat → Nat) : am_E d 163 521 [(0, .ref 64)] [] (I, J, R, 84) = am_E d 163 613 [(0, .ref 64)] [] ((ii_ct_X12_64_6 I), (jj_ct_X12_64_6 J), (rr_ct_X12_64_6 R), 87) :=
  am_E_gos 68 rfl
def ii_ct_X12_64_7 (I : Nat → Nat → Int32) : Nat → Nat → Int32 := (am_up (am_up (am_up (am_cl (am_up (am_up (am_up (am_cl (am_up (am_up (am_up (am_cl (am_up (am_up (am_cl I 87 0) 87 (am_i 0).toNatClampNeg (am_i 111)) 87 (am_i 1).toNatClampNeg (am_i 114)) 88 0) 88 (am_i 0).toNatClampNeg (am_i 97)) 88 (am_i 1).toNatClampNeg (am_i 110)) 88 (am_i 2).toNatClampNeg (am_i 100)) 89 0) 89 (am_i 0).toNatClampNeg (am_i 110)) 89 (am_i 1).toNatClampNeg (am_i 111)) 89 (am_i 2).toNatClampNeg (am_i 116)) 90 0) 90 (am_i 0).toNatClampNeg (am_i 97)) 90 (am_i 1).toNatClampNeg (am_i 108)) 90 (am_i 2).toNatClampNeg (am_i 108))
def jj_ct_X12_64_7 (J : Nat → Nat → Int64) : Nat → Nat → Int64 := (am_cl (am_cl (am_cl (am_cl J 87 0) 88 0) 89 0) 90 0)
def rr_ct_X12_64_7 (R : Nat → Nat → Nat) : Nat → Nat → Nat := (am_up (am_cl (am_up (am_cl (am_up (am_cl (am_up (am_cl R 87 0) 64 31 87) 88 0) 64 32 88) 89 0) 64 33 89) 90 0) 64 34 90)
set_option maxRecDepth 50000 in
theorem ct_X12_64_7 (d : Nat) (I : Nat → Nat → Int32) (J : Nat → Nat → Int64) (R : Nat → Nat → Nat) : am_E d 163 613 [(0, .ref 64)] [] (I, J, R, 87) = am_E d 163 696 [(0, .ref 64)] [] ((ii_ct_X12_64_7 I), (jj_ct_X12_64_7 J), (rr_ct_X12_64_7 R), 91) :=
  am_E_gos 60 rfl
def ii_ct_X12_64_8 (I : Nat → Nat → Int32) : Nat → Nat → Int32 := (am_cl (am_cl (am_cl (am_up (am_up (am_up (am_cl (am_up (am_up (am_up (am_cl I 91 0) 91 (am_i 0).toNatClampNeg (am_i 109)) 91 (am_i 1).toNatClampNeg (am_i 105)) 91 (am_i 2).toNatClampNeg (am_i 110)) 92 0) 92 (am_i 0).toNatClampNeg (am_i 109)) 92 (am_i 1).toNatClampNeg (am_i 97)) 92 (am_i 2).toNatClampNeg (am_i 120)) 93 0) 94 0) 95 0)
def jj_ct_X12_64_8 (J : Nat → Nat → Int64) : Nat → Nat → Int64 := (am_cl (am_cl (am_cl (am_cl (am_cl J 91 0) 92 0) 93 0) 94 0) 95 0)
def rr_ct_X12_64_8 (R : Nat → Nat → Nat) : Nat → Nat → Nat := (am_up (am_cl (am_up (am_cl (am_up (am_cl (am_up (am_cl (am_up (am_cl R 91 0) 64 35 91) 92 0) 64 36 92) 93 0) 64 38 93) 94 0) 64 39 94) 95 0) 64 40 95)
set_option maxRecDepth 50000 in
theorem ct_X12_64_8 (d : Nat) (I : Nat → Nat → Int32) (J : Nat → Nat → Int64) (R : Nat → Nat → Nat) : am_E d 163 696 [(0, .ref 64)] [] (I, J, R, 91) = am_E d 163 764 [(0, .ref 64)] [] ((ii_ct_X12_64_8 I), (jj_ct_X12_64_8 J), (rr_ct_X12_64_8 R), 96) :=
  am_E_gos 44 rfl
def ii_ct_X12_64_9 (I : Nat → Nat → Int32) : Nat → Nat → Int32 := (am_up (am_up (am_up (am_up (am_up (am_up (am_cl (am_cl (am_cl (am_cl (am_cl I 96 0) 97 0) 98 0) 99 0) 100 0) 100 (am_i 0).toNatClampNeg (am_i (-1))) 100 (am_i 1).toNatClampNeg (am_i (-1))) 100 (am_i 2).toNatClampNeg (am_i (-1))) 100 (am_i 3).toNatClampNeg (am_i (-1))) 100 (am_i 4).toNatClampNeg (am_i (-1))) 100 (am_i 5).toNatClampNeg (am_i (-1)))
def jj_ct_X12_64_9 (J : Nat → Nat → Int64) : Nat → Nat → Int64 := (am_cl (am_cl (am_cl (am_cl (am_cl J 96 0) 97 0) 98 0) 99 0) 100 0)
def rr_ct_X12_64_9 (R : Nat → Nat → Nat) : Nat → Nat → Nat := (am_up (am_cl (am_up (am_cl (am_up (am_cl (am_up (am_cl (am_up (am_cl R 96 0) 64 41 96) 97 0) 64 42 97) 98 0) 64 43 98) 99 0) 64 44 99) 100 0) 64 45 100)
set_option maxRecDepth 50000 in
theorem ct_X12_64_9 (d : Nat) (I : Nat → Nat → Int32) (J : Nat → Nat → Int64) (R : Nat → Nat → Nat) : am_E d 163 764 [(0, .ref 64)] [] (I, J, R, 96) = am_E d 163 829 [(0, .ref 64)] [] ((ii_ct_X12_64_9 I), (jj_ct_X12_64_9 J), (rr_ct_X12_64_9 R), 101) :=
  am_E_gos 44 rfl
def ii_ct_X12_64_10 (I : Nat → Nat → Int32) : Nat → Nat → Int32 := (am_cl (am_cl (am_cl (am_cl (am_cl (am_cl I 101 0) 102 0) 103 0) 104 0) 105 0) 106 0)
def jj_ct_X12_64_10 (J : Nat → Nat → Int64) : Nat → Nat → Int64 := (am_cl (am_cl (am_cl (am_cl (am_cl (am_cl J 101 0) 102 0) 103 0) 104 0) 105 0) 106 0)
def rr_ct_X12_64_10 (R : Nat → Nat → Nat) : Nat → Nat → Nat := (am_up (am_cl (am_up (am_cl (am_up (am_cl (am_up (am_cl (am_up (am_cl (am_up (am_cl R 101 0) 64 46 101) 102 0) 64 47 102) 103 0) 64 52 103) 104 0) 64 53 104) 105 0) 64 57 105) 106 0) 64 61 106)
set_option maxRecDepth 50000 in
theorem ct_X12_64_10 (d : Nat) (I : Nat → Nat → Int32) (J : Nat → Nat → Int64) (R : Nat → Nat → Nat) : am_E d 163 829 [(0, .ref 64)] [] (I, J, R, 101) = am_E d 163 879 [(0, .ref 64)] [] ((ii_ct_X12_64_10 I), (jj_ct_X12_64_10 J), (rr_ct_X12_64_10 R), 107) :=
  am_E_gos 24 rfl
def ii_ct_X12_64_11 (I : Nat → Nat → Int32) : Nat → Nat → Int32 := (am_up (am_up (am_up (am_up (am_up (am_cl (am_cl (am_cl (am_cl (am_cl I 107 0) 108 0) 109 0) 110 0) 111 0) 111 (am_i 0).toNatClampNeg (am_i 102)) 111 (am_i 1).toNatClampNeg (am_i 105)) 111 (am_i 2).toNatClampNeg (am_i 114)) 111 (am_i 3).toNatClampNeg (am_i 115)) 111 (am_i 4).toNatClampNeg (am_i 116))
def jj_ct_X12_64_11 (J : Nat → Nat → Int64) : Nat → Nat → Int64 := (am_cl (am_up (am_cl (am_cl (am_cl (am_cl J 107 0) 108 0) 109 0) 110 0) 64 70 (am_l 1)) 111 0)
def rr_ct_X12_64_11 (R : Nat → Nat → Nat) : Nat → Nat → Nat := (am_up (am_cl (am_up (am_cl (am_up (am_cl (am_up (am_cl (am_up (am_cl R 107 0) 64 62 107) 108 0) 64 64 108) 109 0) 64 65 109) 110 0) 64 67 110) 111 0) 64 71 111)
set_option maxRecDepth 50000 in
theorem ct_X12_64_11 (d : Nat) (I : Nat → Nat → Int32) (J : Nat → Nat → Int64) (R : Nat → Nat → Nat) : am_E d 163 879 [(0, .ref 64)] [] (I, J, R, 107) = am_E d 163 950 [(0, .ref 64)] [] ((ii_ct_X12_64_11 I), (jj_ct_X12_64_11 J), (rr_ct_X12_64_11 R), 112) :=
  am_E_gos 43 rfl
def ii_ct_X12_64_12 (I : Nat → Nat → Int32) : Nat → Nat → Int32 := (am_up (am_up (am_up (am_up (am_up (am_cl (am_up (am_up (am_up (am_up (am_up (am_cl (am_up (am_up (am_up (am_up (am_cl I 112 0) 112 (am_i 0).toNatClampNeg (am_i 108)) 112 (am_i 1).toNatClampNeg (am_i 97)) 112 (am_i 2).toNatClampNeg (am_i 115)) 112 (am_i 3).toNatClampNeg (am_i 116)) 113 0) 113 (am_i 0).toNatClampNeg (am_i 111)) 113 (am_i 1).toNatClampNeg (am_i 102)) 113 (am_i 2).toNatClampNeg (am_i 116)) 113 (am_i 3).toNatClampNeg (am_i 101)) 113 (am_i 4).toNatClampNeg (am_i 110)) 114 0) 114 (am_i 0).toNatClampNeg (am_i 116)) 114 (am_i 1).toNatClampNeg (am_i 111)) 114 (am_i 2).toNatClampNeg (am_i 116)) 114 (am_i 3).toNatClampNeg (am_i 97)) 114 (am_i 4).toNatClampNeg (am_i 108))
def jj_ct_X12_64_12 (J : Nat → Nat → Int64) : Nat → Nat → Int64 := (am_cl (am_cl (am_cl J 112 0) 113 0) 114 0)
def rr_ct_X12_64_12 (R : Nat → Nat → Nat) : Nat → Nat → Nat := (am_up (am_cl (am_up (am_cl (am_up (am_cl R 112 0) 64 72 112) 113 0) 64 73 113) 114 0) 64 74 114)
set_option maxRecDepth 50000 in
theorem ct_X12_64_12 (d : Nat) (I : Nat → Nat → Int32) (J : Nat → Nat → Int64) (R : Nat → Nat → Nat) : am_E d 163 950 [(0, .ref 64)] [] (I, J, R, 112) = am_E d 163 1041 [(0, .ref 64)] [] ((ii_ct_X12_64_12 I), (jj_ct_X12_64_12 J), (rr_ct_X12_64_12 R), 115) :=
  am_E_gos 68 rfl
def ii_ct_X12_64_13 (I : Nat → Nat → Int32) : Nat → Nat → Int32 := (am_up (am_up (am_up (am_cl (am_up (am_up (am_up (am_up (am_up (am_cl (am_up (am_up (am_up (am_up (am_cl I 115 0) 115 (am_i 0).toNatClampNeg (am_i 109)) 115 (am_i 1).toNatClampNeg (am_i 111)) 115 (am_i 2).toNatClampNeg (am_i 115)) 115 (am_i 3).toNatClampNeg (am_i 116)) 116 0) 116 (am_i 0).toNatClampNeg (am_i 108)) 116 (am_i 1).toNatClampNeg (am_i 101)) 116 (am_i 2).toNatClampNeg (am_i 97)) 116 (am_i 3).toNatClampNeg (am_i 115)) 116 (am_i 4).toNatClampNeg (am_i 116)) 117 0) 117 (am_i 0).toNatClampNeg (am_i 110)) 117 (am_i 1).toNatClampNeg (am_i 111)) 117 (am_i 2).toNatClampNeg (am_i 116))
def jj_ct_X12_64_13 (J : Nat → Nat → Int64) : Nat → Nat → Int64 := (am_cl (am_cl (am_cl J 115 0) 116 0) 117 0)
def rr_ct_X12_64_13 (R : Nat → Nat → Nat) : Nat → Nat → Nat := (am_up (am_cl (am_up (am_cl (am_up (am_cl R 115 0) 64 75 115) 116 0) 64 76 116) 117 0) 64 77 117)
set_option maxRecDepth 50000 in
theorem ct_X12_64_13 (d : Nat) (I : Nat → Nat → Int32) (J : Nat → Nat → Int64) (R : Nat → Nat → Nat) : am_E d 163 1041 [(0, .ref 64)] [] (I, J, R, 115) = am_E d 163 1122 [(0, .ref 64)] [] ((ii_ct_X12_64_13 I), (jj_ct_X12_64_13 J), (rr_ct_X12_64_13 R), 118) :=
  am_E_gos 60 rfl
def ii_ct_X12_64_14 (I : Nat → Nat → Int32) : Nat → Nat → Int32 := (am_up (am_up (am_up (am_cl (am_up (am_up (am_up (am_cl (am_up (am_up (am_cl (am_up (am_up (am_up (am_cl I 118 0) 118 (am_i 0).toNatClampNeg (am_i 97)) 118 (am_i 1).toNatClampNeg (am_i 110)) 118 (am_i 2).toNatClampNeg (am_i 100)) 119 0) 119 (am_i 0).toNatClampNeg (am_i 111)) 119 (am_i 1).toNatClampNeg (am_i 114)) 120 0) 120 (am_i 0).toNatClampNeg (am_i 97)) 120 (am_i 1).toNatClampNeg (am_i 108)) 120 (am_i 2).toNatClampNeg (am_i 108)) 121 0) 121 (am_i 0).toNatClampNeg (am_i 109)) 121 (am_i 1).toNatClampNeg (am_i 105)) 121 (am_i 2).toNatClampNeg (am_i 110))
def jj_ct_X12_64_14 (J : Nat → Nat → Int64) : Nat → Nat → Int64 := (am_cl (am_cl (am_cl (am_cl J 118 0) 119 0) 120 0) 121 0)
def rr_ct_X12_64_14 (R : Nat → Nat → Nat) : Nat → Nat → Nat := (am_up (am_cl (am_up (am_cl (am_up (am_cl (am_up (am_cl R 118 0) 64 78 118) 119 0) 64 79 119) 120 0) 64 80 120) 121 0) 64 81 121)
set_option maxRecDepth 50000 in
theorem ct_X12_64_14 (d : Nat) (I : Nat → Nat → Int32) (J : Nat → Nat → Int64) (R : Nat → Nat → Nat) : am_E d 163 1122 [(0, .ref 64)] [] (I, J, R, 118) = am_E d 163 1205 [(0, .ref 64)] [] ((ii_ct_X12_64_14 I), (jj_ct_X12_64_14 J), (rr_ct_X12_64_14 R), 122) :=
  am_E_gos 60 rfl
def ii_ct_X12_64_15 (I : Nat → Nat → Int32) : Nat → Nat → Int32 := (am_up (am_up (am_up (am_up (am_up (am_cl (am_up (am_up (am_up (am_up (am_cl (am_up (am_up (am_up (am_cl I 122 0) 122 (am_i 0).toNatClampNeg (am_i 109)) 122 (am_i 1).toNatClampNeg (am_i 97)) 122 (am_i 2).toNatClampNeg (am_i 120)) 123 0) 123 (am_i 0).toNatClampNeg (am_i 110)) 123 (am_i 1).toNatClampNeg (am_i 111)) 123 (am_i 2).toNatClampNeg (am_i 116)) 123 (am_i 3).toNatClampNeg (am_i 101)) 124 0) 124 (am_i 0).toNatClampNeg (am_i 116)) 124 (am_i 1).toNatClampNeg (am_i 105)) 124 (am_i 2).toNatClampNeg (am_i 103)) 124 (am_i 3).toNatClampNeg (am_i 104)) 124 (am_i 4).toNatClampNeg (am_i 116))
def jj_ct_X12_64_15 (J : Nat → Nat → Int64) : Nat → Nat → Int64 := (am_cl (am_cl (am_cl J 122 0) 123 0) 124 0)
def rr_ct_X12_64_15 (R : Nat → Nat → Nat) : Nat → Nat → Nat := (am_up (am_cl (am_up (am_cl (am_up (am_cl R 122 0) 64 82 122) 123 0) 64 83 123) 124 0) 64 84 124)
set_option maxRecDepth 50000 in
theorem ct_X12_64_15 (d : Nat) (I : Nat → Nat → Int32) (J : Nat → Nat → Int64) (R : Nat → Nat → Nat) : am_E d 163 1205 [(0, .ref 64)] [] (I, J, R, 122) = am_E d 163 1286 [(0, .ref 64)] [] ((ii_ct_X12_64_15 I), (jj_ct_X12_64_15 J), (rr_ct_X12_64_15 R), 125) :=
  am_E_gos 60 rfl
def ii_ct_X12_64_16 (I : Nat → Nat → Int32) : Nat → Nat → Int32 := (am_up (am_up (am_up (am_up (am_cl (am_up (am_up (am_up (am_up (am_cl (am_up (am_up (am_up (am_up (am_up (am_cl I 125 0) 125 (am_i 0).toNatClampNeg (am_i 114)) 125 (am_i 1).toNatClampNeg (am_i 111)) 125 (am_i 2).toNatClampNeg (am_i 115)) 125 (am_i 3).toNatClampNeg (am_i 105)) 125 (am_i 4).toNatClampNeg (am_i 110)) 126 0) 126 (am_i 0).toNatClampNeg (am_i 109)) 126 (am_i 1).toNatClampNeg (am_i 105)) 126 (am_i 2).toNatClampNeg (am_i 108)) 126 (am_i 3).toNatClampNeg (am_i 101)) 127 0) 127 (am_i 0).toNatClampNeg (am_i 119)) 127 (am_i 1).toNatClampNeg (am_i 105)) 127 (am_i 2).toNatClampNeg (am_i 110)) 127 (am_i 3).toNatClampNeg (am_i 100))
def jj_ct_X12_64_16 (J : Nat → Nat → Int64) : Nat → Nat → Int64 := (am_cl (am_cl (am_cl J 125 0) 126 0) 127 0)
def rr_ct_X12_64_16 (R : Nat → Nat → Nat) : Nat → Nat → Nat := (am_up (am_cl (am_up (am_cl (am_up (am_cl R 125 0) 64 85 125) 126 0) 64 86 126) 127 0) 64 87 127)
set_option maxRecDepth 50000 in
theorem ct_X12_64_16 (d : Nat) (I : Nat → Nat → Int32) (J : Nat → Nat → Int64) (R : Nat → Nat → Nat) : am_E d 163 1286 [(0, .ref 64)] [] (I, J, R, 125) = am_E d 163 1372 [(0, .ref 64)] [] ((ii_ct_X12_64_16 I), (jj_ct_X12_64_16 J), (rr_ct_X12_64_16 R), 128) :=
  am_E_gos 64 rfl
def ii_ct_X12_64_17 (I : Nat → Nat → Int32) : Nat → Nat → Int32 := (am_up (am_up (am_up (am_up (am_cl (am_up (am_up (am_up (am_up (am_up (am_up (am_cl (am_up (am_up (am_up (am_up (am_cl I 128 0) 128 (am_i 0).toNatClampNeg (am_i 119)) 128 (am_i 1).toNatClampNeg (am_i 101)) 128 (am_i 2).toNatClampNeg (am_i 110)) 128 (am_i 3).toNatClampNeg (am_i 116)) 129 0) 129 (am_i 0).toNatClampNeg (am_i 110)) 129 (am_i 1).toNatClampNeg (am_i 117)) 129 (am_i 2).toNatClampNeg (am_i 109)) 129 (am_i 3).toNatClampNeg (am_i 98)) 129 (am_i 4).toNatClampNeg (am_i 101)) 129 (am_i 5).toNatClampNeg (am_i 114)) 130 0) 130 (am_i 0).toNatClampNeg (am_i 115)) 130 (am_i 1).toNatClampNeg (am_i 117)) 130 (am_i 2).toNatClampNeg (am_i 110)) 130 (am_i 3).toNatClampNeg (am_i 107))
def jj_ct_X12_64_17 (J : Nat → Nat → Int64) : Nat → Nat → Int64 := (am_cl (am_cl (am_cl J 128 0) 129 0) 130 0)
def rr_ct_X12_64_17 (R : Nat → Nat → Nat) : Nat → Nat → Nat := (am_up (am_cl (am_up (am_cl (am_up (am_cl R 128 0) 64 88 128) 129 0) 64 89 129) 130 0) 64 90 130)
set_option maxRecDepth 50000 in
theorem ct_X12_64_17 (d : Nat) (I : Nat → Nat → Int32) (J : Nat → Nat → Int64) (R : Nat → Nat → Nat) : am_E d 163 1372 [(0, .ref 64)] [] (I, J, R, 128) = am_E d 163 1464 [(0, .ref 64)] [] ((ii_ct_X12_64_17 I), (jj_ct_X12_64_17 J), (rr_ct_X12_64_17 R), 131) :=
  am_E_gos 68 rfl
def ii_ct_X12_64_18 (I : Nat → Nat → Int32) : Nat → Nat → Int32 := (am_up (am_up (am_up (am_up (am_up (am_cl (am_up (am_up (am_up (am_up (am_up (am_cl (am_up (am_up (am_up (am_up (am_cl I 131 0) 131 (am_i 0).toNatClampNeg (am_i 104)) 131 (am_i 1).toNatClampNeg (am_i 111)) 131 (am_i 2).toNatClampNeg (am_i 117)) 131 (am_i 3).toNatClampNeg (am_i 114)) 132 0) 132 (am_i 0).toNatClampNeg (am_i 99)) 132 (am_i 1).toNatClampNeg (am_i 97)) 132 (am_i 2).toNatClampNeg (am_i 114)) 132 (am_i 3).toNatClampNeg (am_i 114)) 132 (am_i 4).toNatClampNeg (am_i 121)) 133 0) 133 (am_i 0).toNatClampNeg (am_i 115)) 133 (am_i 1).toNatClampNeg (am_i 99)) 133 (am_i 2).toNatClampNeg (am_i 111)) 133 (am_i 3).toNatClampNeg (am_i 114)) 133 (am_i 4).toNatClampNeg (am_i 101))
def jj_ct_X12_64_18 (J : Nat → Nat → Int64) : Nat → Nat → Int64 := (am_cl (am_cl (am_cl J 131 0) 132 0) 133 0)
def rr_ct_X12_64_18 (R : Nat → Nat → Nat) : Nat → Nat → Nat := (am_up (am_cl (am_up (am_cl (am_up (am_cl R 131 0) 64 91 131) 132 0) 64 92 132) 133 0) 64 93 133)
set_option maxRecDepth 50000 in
theorem ct_X12_64_18 (d : Nat) (I : Nat → Nat → Int32) (J : Nat → Nat → Int64) (R : Nat → Nat → Nat) : am_E d 163 1464 [(0, .ref 64)] [] (I, J, R, 131) = am_E d 163 1555 [(0, .ref 64)] [] ((ii_ct_X12_64_18 I), (jj_ct_X12_64_18 J), (rr_ct_X12_64_18 R), 134) :=
  am_E_gos 68 rfl
def ii_ct_X12_64_19 (I : Nat → Nat → Int32) : Nat → Nat → Int32 := (am_cl (am_cl (am_cl (am_cl I 134 0) 135 0) 136 0) 137 0)
def jj_ct_X12_64_19 (J : Nat → Nat → Int64) : Nat → Nat → Int64 := (am_cl (am_cl (am_cl (am_cl J 134 0) 135 0) 136 0) 137 0)
def rr_ct_X12_64_19 (R : Nat → Nat → Nat) : Nat → Nat → Nat := (am_up (am_cl (am_up (am_cl (am_up (am_cl (am_up (am_cl R 134 0) 64 94 134) 135 0) 64 96 135) 136 0) 64 100 136) 137 0) 64 104 137)
set_option maxRecDepth 50000 in
theorem ct_X12_64_19 (d : Nat) (I : Nat → Nat → Int32) (J : Nat → Nat → Int64) (R : Nat → Nat → Nat) : am_E d 163 1555 [(0, .ref 64)] [] (I, J, R, 134) = am_E d 163 1590 [(0, .ref 64)] [] ((ii_ct_X12_64_19 I), (jj_ct_X12_64_19 J), (rr_ct_X12_64_19 R), 138) :=
  am_E_gos 16 rfl
def ii_ct_X12_64 (I : Nat → Nat → Int32) : Nat → Nat → Int32 := (ii_ct_X12_64_19 (ii_ct_X12_64_18 (ii_ct_X12_64_17 (ii_ct_X12_64_16 (ii_ct_X12_64_15 (ii_ct_X12_64_14 (ii_ct_X12_64_13 (ii_ct_X12_64_12 (ii_ct_X12_64_11 (ii_ct_X12_64_10 (ii_ct_X12_64_9 (ii_ct_X12_64_8 (ii_ct_X12_64_7 (ii_ct_X12_64_6 (ii_ct_X12_64_5 (ii_ct_X12_64_4 (ii_ct_X12_64_3 (ii_ct_X12_64_2 (ii_ct_X12_64_1 (ii_ct_X12_64_0 I))))))))))))))))))))
def jj_ct_X12_64 (J : Nat → Nat → Int64) : Nat → Nat → Int64 := (jj_ct_X12_64_19 (jj_ct_X12_64_18 (jj_ct_X12_64_17 (jj_ct_X12_64_16 (jj_ct_X12_64_15 (jj_ct_X12_64_14 (jj_ct_X12_64_13 (jj_ct_X12_64_12 (jj_ct_X12_64_11 (jj_ct_X12_64_10 (jj_ct_X12_64_9 (jj_ct_X12_64_8 (jj_ct_X12_64_7 (jj_ct_X12_64_6 (jj_ct_X12_64_5 (jj_ct_X12_64_4 (jj_ct_X12_64_3 (jj_ct_X12_64_2 (jj_ct_X12_64_1 (jj_ct_X12_64_0 J))))))))))))))))))))
def rr_ct_X12_64 (R : Nat → Nat → Nat) : Nat → Nat → Nat := (rr_ct_X12_64_19 (rr_ct_X12_64_18 (rr_ct_X12_64_17 (rr_ct_X12_64_16 (rr_ct_X12_64_15 (rr_ct_X12_64_14 (rr_ct_X12_64_13 (rr_ct_X12_64_12 (rr_ct_X12_64_11 (rr_ct_X12_64_10 (rr_ct_X12_64_9 (rr_ct_X12_64_8 (rr_ct_X12_64_7 (rr_ct_X12_64_6 (rr_ct_X12_64_5 (rr_ct_X12_64_4 (rr_ct_X12_64_3 (rr_ct_X12_64_2 (rr_ct_X12_64_1 (rr_ct_X12_64_0 R))))))))))))))))))))
set_option maxRecDepth 100000 in
theorem ct_X12_64 (d : Nat) (I : Nat → Nat → Int32) (J : Nat → Nat → Int64) (R : Nat → Nat → Nat) : am_E (d + 1) 163 0 [(0, .ref 64)] [] (I, J, R, 65) = some (none, (ii_ct_X12_64 I, jj_ct_X12_64 J, rr_ct_X12_64 R, 138)) := by
  rw [ct_X12_64_0]
  rw [ct_X12_64_1]
  rw [ct_X12_64_2]
  rw [ct_X12_64_3]
  rw [ct_X12_64_4]
  rw [ct_X12_64_5]
  rw [ct_X12_64_6]
  rw [ct_X12_64_7]
  rw [ct_X12_64_8]
  rw [ct_X12_64_9]
  rw [ct_X12_64_10]
  rw [ct_X12_64_11]
  rw [ct_X12_64_12]
  rw [ct_X12_64_13]
  rw [ct_X12_64_14]
  rw [ct_X12_64_15]
  rw [ct_X12_64_16]
  rw [ct_X12_64_17]
  rw [ct_X12_64_18]
  rw [ct_X12_64_19]
  exact am_E_ret rfl


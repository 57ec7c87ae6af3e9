def w_X12_init : List Cond := Cond.code yX12_init cX12_init 1 none :: GT
def f_X12_init_0 (σ : HS) : Option HS :=
  ck 0 (ln 5) (
  ck 1 (ln 5) (
  ck 2 (ln 5) (
  ck 3 (ln 5) (
  ck 4 (ln 5) (
  ck 5 (ln 5) (
  ck 6 (ln 5) (
  ck 7 (ln 5) (
  ck 8 (ln 5) (
  ck 9 (ln 5) (
  ck 10 (ln 5) (
  ck 11 (ln 5) (
  ck 12 (ln 5) (
  ck 13 (ln 5) (
  ck 14 (ln 5) (
  ck 15 (ln 5) (
  ck 16 (ln 5) (
  (f_X12_clears 0 3 (sR (sN (sI (sR (sN (sR (sN (sR (sN (sR (sN (sR (sN (sR (sN (sR (sN (sR (sN (sR (sN (sR (sN (sR (sN (sR (sN (sR (sN (sR (sN (sR (sN (sR (sN (sR (sN (sR (sN (sR (sJ (sJ (sJ (sJ (sJ (sJ (sJ (sJ (sJ (sJ (sJ (sJ (sJ (sJ (sJ (sJ (sJ (sN (sR (sN (sR (sN (sR (sN (sR (sN σ 1) 0 1 (some 1)) 2) 0 4 (some 2)) 3) 0 5 (some 3)) 4) 0 6 (some 4)) 5) 5 (0 : Int32).toNatClampNeg 615403) 5 (1 : Int32).toNatClampNeg 4160) 5 (2 : Int32).toNatClampNeg 687961) 5 (3 : Int32).toNatClampNeg 679695) 5 (4 : Int32).toNatClampNeg 38660676) 5 (5 : Int32).toNatClampNeg 989988) 5 (6 : Int32).toNatClampNeg 22745289) 5 (7 : Int32).toNatClampNeg 679747) 5 (8 : Int32).toNatClampNeg 149099362) 5 (9 : Int32).toNatClampNeg 1) 5 (10 : Int32).toNatClampNeg 2) 5 (11 : Int32).toNatClampNeg 3) 5 (12 : Int32).toNatClampNeg 4) 5 (13 : Int32).toNatClampNeg 5) 5 (14 : Int32).toNatClampNeg 6) 5 (15 : Int32).toNatClampNeg 7) 5 (16 : Int32).toNatClampNeg 8) 0 9 (some 5)) 6) 0 10 (some 6)) 7) 0 11 (some 7)) 8) 0 12 (some 8)) 9) 0 13 (some 9)) 10) 0 14 (some 10)) 11) 0 15 (some 11)) 12) 0 16 (some 12)) 13) 0 17 (some 13)) 14) 0 18 (some 14)) 15) 0 19 (some 15)) 16) 0 21 (some 16)) 17) 0 22 (some 17)) 18) 0 25 (some 18)) 19) 0 27 (some 19)) 20) 0 28 (some 20)) 21) 0 29 (some 21)) 22) 0 30 (some 22)) 23) 0 31 (some 23)) 0 32 (-1)) 24) 0 35 (some 24))).bind fun q1 =>
  some q1)))))))))))))))))
def w_X8_init : List Cond := Cond.code yX8_init cX8_init 1 none :: GT
def f_X8_init_27 (σ : HS) : Option HS :=
  some (sI (sI (sI (sI (sR (sN σ 28) 27 0 (some 28)) 27 1 0) 27 2 0) 27 3 0) 27 4 0)
def w_X6_init : List Cond := Cond.code yX6_init cX6_init 2 none :: GT
def f_X6_init_29 (x1 : Nat) (σ : HS) : Option HS :=
  some (sR (sI (sI σ 29 1 0) 29 2 0) 29 0 (some x1))
def w_X9_init : List Cond := Cond.code yX9_init cX9_init 1 none :: GT
def f_X9_init_30 (σ : HS) : Option HS :=
  some (sI (sI (sR (sN (sR (sM (sR (sM σ 31 8) 30 0 (some 31)) 40 8) 30 1 (some 40)) 49) 30 2 (some 49)) 30 3 0) 30 4 0)
def w_X1_init : List Cond := Cond.code yX1_init cX1_init 1 none :: GT
def f_X1_init_64 (σ : HS) : Option HS :=
  some (sI (sI (sI (sR (sN (sR (sN (sR (sN σ 65) 64 0 (some 65)) 66) 64 1 (some 66)) 67) 64 2 (some 67)) 64 3 0) 64 4 0) 64 5 0)
def f_X1_init_68 (σ : HS) : Option HS :=
  some (sI (sI (sI (sR (sN (sR (sN (sR (sN σ 69) 68 0 (some 69)) 70) 68 1 (some 70)) 71) 68 2 (some 71)) 68 3 0) 68 4 0) 68 5 0)
def f_X1_init_73 (σ : HS) : Option HS :=
  some (sI (sI (sI (sR (sN (sR (sN (sR (sN σ 74) 73 0 (some 74)) 75) 73 1 (some 75)) 76) 73 2 (some 76)) 73 3 0) 73 4 0) 73 5 0)
def f_X1_init_77 (σ : HS) : Option HS :=
  some (sI (sI (sI (sR (sN (sR (sN (sR (sN σ 78) 77 0 (some 78)) 79) 77 1 (some 79)) 80) 77 2 (some 80)) 77 3 0) 77 4 0) 77 5 0)
def f_X1_init_81 (σ : HS) : Option HS :=
  some (sI (sI (sI (sR (sN (sR (sN (sR (sN σ 82) 81 0 (some 82)) 83) 81 1 (some 83)) 84) 81 2 (some 84)) 81 3 0) 81 4 0) 81 5 0)
def f_X1_init_85 (σ : HS) : Option HS :=
  some (sI (sI (sI (sR (sN (sR (sN (sR (sN σ 86) 85 0 (some 86)) 87) 85 1 (some 87)) 88) 85 2 (some 88)) 85 3 0) 85 4 0) 85 5 0)
def f_X1_init_89 (σ : HS) : Option HS :=
  some (sI (sI (sI (sR (sN (sR (sN (sR (sN σ 90) 89 0 (some 90)) 91) 89 1 (some 91)) 92) 89 2 (some 92)) 89 3 0) 89 4 0) 89 5 0)
def f_X1_init_93 (σ : HS) : Option HS :=
  some (sI (sI (sI (sR (sN (sR (sN (sR (sN σ 94) 93 0 (some 94)) 95) 93 1 (some 95)) 96) 93 2 (some 96)) 93 3 0) 93 4 0) 93 5 0)
def f_X1_init_97 (σ : HS) : Option HS :=
  some (sI (sI (sI (sR (sN (sR (sN (sR (sN σ 98) 97 0 (some 98)) 99) 97 1 (some 99)) 100) 97 2 (some 100)) 97 3 0) 97 4 0) 97 5 0)
def f_X1_init_101 (σ : HS) : Option HS :=
  some (sI (sI (sI (sR (sN (sR (sN (sR (sN σ 102) 101 0 (some 102)) 103) 101 1 (some 103)) 104) 101 2 (some 104)) 101 3 0) 101 4 0) 101 5 0)
def f_X1_init_105 (σ : HS) : Option HS :=
  some (sI (sI (sI (sR (sN (sR (sN (sR (sN σ 106) 105 0 (some 106)) 107) 105 1 (some 107)) 108) 105 2 (some 108)) 105 3 0) 105 4 0) 105 5 0)
def f_X1_init_109 (σ : HS) : Option HS :=
  some (sI (sI (sI (sR (sN (sR (sN (sR (sN σ 110) 109 0 (some 110)) 111) 109 1 (some 111)) 112) 109 2 (some 112)) 109 3 0) 109 4 0) 109 5 0)
def f_X1_init_113 (σ : HS) : Option HS :=
  some (sI (sI (sI (sR (sN (sR (sN (sR (sN σ 114) 113 0 (some 114)) 115) 113 1 (some 115)) 116) 113 2 (some 116)) 113 3 0) 113 4 0) 113 5 0)
def f_X1_init_117 (σ : HS) : Option HS :=
  some (sI (sI (sI (sR (sN (sR (sN (sR (sN σ 118) 117 0 (some 118)) 119) 117 1 (some 119)) 120) 117 2 (some 120)) 117 3 0) 117 4 0) 117 5 0)
def f_X1_init_121 (σ : HS) : Option HS :=
  some (sI (sI (sI (sR (sN (sR (sN (sR (sN σ 122) 121 0 (some 122)) 123) 121 1 (some 123)) 124) 121 2 (some 124)) 121 3 0) 121 4 0) 121 5 0)
def w_X10_init : List Cond := Cond.code yX10_init cX10_init 2 none :: GT
def f_X10_init_50 (σ : HS) : Option HS :=
  (f_X1_init_64 (sN (sR (sM σ 51 12) 50 0 (some 51)) 64)).bind fun q1 =>
  (f_X1_init_68 (sN (sR q1 50 1 (some 64)) 68)).bind fun q2 =>
  rk ((sI (sR (sN (sR q2 50 2 (some 68)) 72) 50 3 (some 72)) 50 4 0).2.2 50 3) 17 fun a3 =>
  (f_X1_init_73 (sN (sI (sR (sN (sR q2 50 2 (some 68)) 72) 50 3 (some 72)) 50 4 0) 73)).bind fun q4 =>
  ck 0 (ln a3) (
  rk ((sR q4 a3 (0 : Int32).toNatClampNeg (some 73)).2.2 50 3) 17 fun a5 =>
  (f_X1_init_77 (sN (sR q4 a3 (0 : Int32).toNatClampNeg (some 73)) 77)).bind fun q6 =>
  ck 1 (ln a5) (
  rk ((sR q6 a5 (1 : Int32).toNatClampNeg (some 77)).2.2 50 3) 17 fun a7 =>
  (f_X1_init_81 (sN (sR q6 a5 (1 : Int32).toNatClampNeg (some 77)) 81)).bind fun q8 =>
  ck 2 (ln a7) (
  rk ((sR q8 a7 (2 : Int32).toNatClampNeg (some 81)).2.2 50 3) 17 fun a9 =>
  (f_X1_init_85 (sN (sR q8 a7 (2 : Int32).toNatClampNeg (some 81)) 85)).bind fun q10 =>
  ck 3 (ln a9) (
  rk ((sR q10 a9 (3 : Int32).toNatClampNeg (some 85)).2.2 50 3) 17 fun a11 =>
  (f_X1_init_89 (sN (sR q10 a9 (3 : Int32).toNatClampNeg (some 85)) 89)).bind fun q12 =>
  ck 4 (ln a11) (
  rk ((sR q12 a11 (4 : Int32).toNatClampNeg (some 89)).2.2 50 3) 17 fun a13 =>
  (f_X1_init_93 (sN (sR q12 a11 (4 : Int32).toNatClampNeg (some 89)) 93)).bind fun q14 =>
  ck 5 (ln a13) (
  rk ((sR q14 a13 (5 : Int32).toNatClampNeg (some 93)).2.2 50 3) 17 fun a15 =>
  (f_X1_init_97 (sN (sR q14 a13 (5 : Int32).toNatClampNeg (some 93)) 97)).bind fun q16 =>
  ck 6 (ln a15) (
  rk ((sR q16 a15 (6 : Int32).toNatClampNeg (some 97)).2.2 50 3) 17 fun a17 =>
  (f_X1_init_101 (sN (sR q16 a15 (6 : Int32).toNatClampNeg (some 97)) 101)).bind fun q18 =>
  ck 7 (ln a17) (
  rk ((sR q18 a17 (7 : Int32).toNatClampNeg (some 101)).2.2 50 3) 17 fun a19 =>
  (f_X1_init_105 (sN (sR q18 a17 (7 : Int32).toNatClampNeg (some 101)) 105)).bind fun q20 =>
  ck 8 (ln a19) (
  rk ((sR q20 a19 (8 : Int32).toNatClampNeg (some 105)).2.2 50 3) 17 fun a21 =>
  (f_X1_init_109 (sN (sR q20 a19 (8 : Int32).toNatClampNeg (some 105)) 109)).bind fun q22 =>
  ck 9 (ln a21) (
  rk ((sR q22 a21 (9 : Int32).toNatClampNeg (some 109)).2.2 50 3) 17 fun a23 =>
  (f_X1_init_113 (sN (sR q22 a21 (9 : Int32).toNatClampNeg (some 109)) 113)).bind fun q24 =>
  ck 10 (ln a23) (
  rk ((sR q24 a23 (10 : Int32).toNatClampNeg (some 113)).2.2 50 3) 17 fun a25 =>
  (f_X1_init_117 (sN (sR q24 a23 (10 : Int32).toNatClampNeg (some 113)) 117)).bind fun q26 =>
  ck 11 (ln a25) (
  rk ((sR q26 a25 (11 : Int32).toNatClampNeg (some 117)).2.2 50 3) 17 fun a27 =>
  (f_X1_init_121 (sN (sR q26 a25 (11 : Int32).toNatClampNeg (some 117)) 121)).bind fun q28 =>
  ck 12 (ln a27) (
  some (sR q28 a27 (12 : Int32).toNatClampNeg (some 121)))))))))))))))
def w_X4_init : List Cond := Cond.code yX4_init cX4_init 3 none :: GT
def f_X4_init_125 (x1 : Nat) (x2 : Nat) (σ : HS) : Option HS :=
  some (sR (sR (sR (sN (sR (sN (sR (sN (sR (sN (sR (sN (sR (sN (sR (sM σ 126 8) 125 2 (some 126)) 135) 125 3 (some 135)) 136) 125 4 (some 136)) 137) 125 5 (some 137)) 138) 125 6 (some 138)) 139) 125 7 (some 139)) 140) 125 8 (some 140)) 125 0 (some x1)) 125 1 (some x2))
def w_X5_init : List Cond := Cond.code yX5_init cX5_init 2 none :: GT
def f_X5_init_141 (x1 : Nat) (σ : HS) : Option HS :=
  rk ((sI σ 141 2 0).2.2 x1 3) 17 fun a1 =>
  rk ((sR (sI σ 141 2 0) 141 0 (some a1)).2.2 x1 0) 18 fun a2 =>
  some (sR (sR (sI σ 141 2 0) 141 0 (some a1)) 141 1 (some a2))
def w_X2_init : List Cond := Cond.code yX2_init cX2_init 3 none :: GT
def f_X2_init_142 (x1 : Nat) (x2 : Nat) (σ : HS) : Option HS :=
  some (sR (sR (sI (sI (sI (sR (sN σ 143) 142 2 (some 143)) 142 3 0) 142 4 0) 142 5 (-1)) 142 0 (some x1)) 142 1 (some x2))
def w_X7_init : List Cond := Cond.code yX7_init cX7_init 1 none :: GT
def f_X7_init_144 (σ : HS) : Option HS :=
  some (sI (sI (sI (sI (sI (sI σ 144 0 0) 144 1 0) 144 2 0) 144 3 0) 144 4 0) 144 5 0)
def w_X3_init : List Cond := Cond.code yX3_init cX3_init 1 none :: GT
def f_X3_init_145 (σ : HS) : Option HS :=
  some (sJ (sJ σ 145 0 0) 145 1 1)
def w_X0_init : List Cond := Cond.code yX0_init cX0_init 1 none :: GT
def f_X0_init_150 (σ : HS) : Option HS :=
  some (sI (sR (sN (sR (sN (sR (sN (sR (sN (sR (sN (sR (sN (sR (sN (sR (sN (sR (sN σ 151) 150 0 (some 151)) 152) 150 1 (some 152)) 153) 150 2 (some 153)) 154) 150 3 (some 154)) 155) 150 4 (some 155)) 156) 150 5 (some 156)) 157) 150 6 (some 157)) 158) 150 7 (some 158)) 159) 150 8 (some 159)) 150 9 0)
def f_X0_init_160 (σ : HS) : Option HS :=
  some (sI (sR (sN (sR (sN (sR (sN (sR (sN (sR (sN (sR (sN (sR (sN (sR (sN (sR (sN σ 161) 160 0 (some 161)) 162) 160 1 (some 162)) 163) 160 2 (some 163)) 164) 160 3 (some 164)) 165) 160 4 (some 165)) 166) 160 5 (some 166)) 167) 160 6 (some 167)) 168) 160 7 (some 168)) 169) 160 8 (some 169)) 160 9 0)
def w_X11_init : List Cond := Cond.code yX11_init cX11_init 2 none :: GT
def f_X11_init_26 (σ : HS) : Option HS :=
  (f_X8_init_27 (sN σ 27)).bind fun q1 =>
  rk ((sN (sR q1 26 0 (some 27)) 29).2.2 26 0) 8 fun a2 =>
  (f_X6_init_29 a2 (sN (sR q1 26 0 (some 27)) 29)).bind fun q3 =>
  (f_X9_init_30 (sN (sR q3 26 1 (some 29)) 30)).bind fun q4 =>
  (f_X10_init_50 (sN (sR q4 26 2 (some 30)) 50)).bind fun q5 =>
  rk ((sN (sR q5 26 3 (some 50)) 125).2.2 26 2) 9 fun a6 =>
  rk ((sN (sR q5 26 3 (some 50)) 125).2.2 26 3) 10 fun a7 =>
  (f_X4_init_125 a6 a7 (sN (sR q5 26 3 (some 50)) 125)).bind fun q8 =>
  rk ((sN (sR q8 26 4 (some 125)) 141).2.2 26 3) 10 fun a9 =>
  (f_X5_init_141 a9 (sN (sR q8 26 4 (some 125)) 141)).bind fun q10 =>
  rk ((sN (sR q10 26 5 (some 141)) 142).2.2 26 3) 10 fun a11 =>
  rk ((sN (sR q10 26 5 (some 141)) 142).2.2 26 4) 4 fun a12 =>
  (f_X2_init_142 a11 a12 (sN (sR q10 26 5 (some 141)) 142)).bind fun q13 =>
  (f_X7_init_144 (sN (sR q13 26 6 (some 142)) 144)).bind fun q14 =>
  (f_X3_init_145 (sN (sR q14 26 7 (some 144)) 145)).bind fun q15 =>
  (f_X0_init_150 (sN (sR (sN (sR (sN (sR (sN (sR (sN (sR q15 26 8 (some 145)) 146) 26 9 (some 146)) 147) 26 10 (some 147)) 148) 26 11 (some 148)) 149) 26 12 (some 149)) 150)).bind fun q16 =>
  (f_X0_init_160 (sN (sR q16 26 14 (some 150)) 160)).bind fun q17 =>
  rk ((sR q17 26 15 (some 160)).2.2 26 11) 14 fun a18 =>
  ck 0 (ln a18) (
  rk ((sI (sR q17 26 15 (some 160)) a18 (0 : Int32).toNatClampNeg (-1)).2.2 26 11) 14 fun a19 =>
  ck 1 (ln a19) (
  rk ((sI (sI (sR q17 26 15 (some 160)) a18 (0 : Int32).toNatClampNeg (-1)) a19 (1 : Int32).toNatClampNeg (-1)).2.2 26 11) 14 fun a20 =>
  ck 2 (ln a20) (
  rk ((sI (sI (sI (sR q17 26 15 (some 160)) a18 (0 : Int32).toNatClampNeg (-1)) a19 (1 : Int32).toNatClampNeg (-1)) a20 (2 : Int32).toNatClampNeg (-1)).2.2 26 11) 14 fun a21 =>
  ck 3 (ln a21) (
  (f_X11_beginWith 26 3 (sI (sI (sI (sI (sR q17 26 15 (some 160)) a18 (0 : Int32).toNatClampNeg (-1)) a19 (1 : Int32).toNatClampNeg (-1)) a20 (2 : Int32).toNatClampNeg (-1)) a21 (3 : Int32).toNatClampNeg (-1))).bind fun q22 =>
  some q22))))

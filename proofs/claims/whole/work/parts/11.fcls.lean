def w_J6_bitCount_0f7a4 : List Cond := Cond.code yJ6_bitCount_0f7a4 cJ6_bitCount_0f7a4 1 (some .int) :: GT
def f_J6_bitCount_0f7a4 (x0 : Int32) (σ : HS) : Option (Int32 × HS) :=
    some ((((((((x0 - (((x0.toUInt32 >>> ((1 : Int32).toUInt32 &&& Int32.toUInt32 31)).toInt32) &&& 1431655765)) &&& 858993459) + ((((x0 - (((x0.toUInt32 >>> ((1 : Int32).toUInt32 &&& Int32.toUInt32 31)).toInt32) &&& 1431655765)).toUInt32 >>> ((2 : Int32).toUInt32 &&& Int32.toUInt32 31)).toInt32) &&& 858993459)) + (((((x0 - (((x0.toUInt32 >>> ((1 : Int32).toUInt32 &&& Int32.toUInt32 31)).toInt32) &&& 1431655765)) &&& 858993459) + ((((x0 - (((x0.toUInt32 >>> ((1 : Int32).toUInt32 &&& Int32.toUInt32 31)).toInt32) &&& 1431655765)).toUInt32 >>> ((2 : Int32).toUInt32 &&& Int32.toUInt32 31)).toInt32) &&& 858993459)).toUInt32 >>> ((4 : Int32).toUInt32 &&& Int32.toUInt32 31)).toInt32)) &&& 252645135) + (((((((x0 - (((x0.toUInt32 >>> ((1 : Int32).toUInt32 &&& Int32.toUInt32 31)).toInt32) &&& 1431655765)) &&& 858993459) + ((((x0 - (((x0.toUInt32 >>> ((1 : Int32).toUInt32 &&& Int32.toUInt32 31)).toInt32) &&& 1431655765)).toUInt32 >>> ((2 : Int32).toUInt32 &&& Int32.toUInt32 31)).toInt32) &&& 858993459)) + (((((x0 - (((x0.toUInt32 >>> ((1 : Int32).toUInt32 &&& Int32.toUInt32 31)).toInt32) &&& 1431655765)) &&& 858993459) + ((((x0 - (((x0.toUInt32 >>> ((1 : Int32).toUInt32 &&& Int32.toUInt32 31)).toInt32) &&& 1431655765)).toUInt32 >>> ((2 : Int32).toUInt32 &&& Int32.toUInt32 31)).toInt32) &&& 858993459)).toUInt32 >>> ((4 : Int32).toUInt32 &&& Int32.toUInt32 31)).toInt32)) &&& 252645135).toUInt32 >>> ((8 : Int32).toUInt32 &&& Int32.toUInt32 31)).toInt32)) + ((((((((x0 - (((x0.toUInt32 >>> ((1 : Int32).toUInt32 &&& Int32.toUInt32 31)).toInt32) &&& 1431655765)) &&& 858993459) + ((((x0 - (((x0.toUInt32 >>> ((1 : Int32).toUInt32 &&& Int32.toUInt32 31)).toInt32) &&& 1431655765)).toUInt32 >>> ((2 : Int32).toUInt32 &&& Int32.toUInt32 31)).toInt32) &&& 858993459)) + (((((x0 - (((x0.toUInt32 >>> ((1 : Int32).toUInt32 &&& Int32.toUInt32 31)).toInt32) &&& 1431655765)) &&& 858993459) + ((((x0 - (((x0.toUInt32 >>> ((1 : Int32).toUInt32 &&& Int32.toUInt32 31)).toInt32) &&& 1431655765)).toUInt32 >>> ((2 : Int32).toUInt32 &&& Int32.toUInt32 31)).toInt32) &&& 858993459)).toUInt32 >>> ((4 : Int32).toUInt32 &&& Int32.toUInt32 31)).toInt32)) &&& 252645135) + (((((((x0 - (((x0.toUInt32 >>> ((1 : Int32).toUInt32 &&& Int32.toUInt32 31)).toInt32) &&& 1431655765)) &&& 858993459) + ((((x0 - (((x0.toUInt32 >>> ((1 : Int32).toUInt32 &&& Int32.toUInt32 31)).toInt32) &&& 1431655765)).toUInt32 >>> ((2 : Int32).toUInt32 &&& Int32.toUInt32 31)).toInt32) &&& 858993459)) + (((((x0 - (((x0.toUInt32 >>> ((1 : Int32).toUInt32 &&& Int32.toUInt32 31)).toInt32) &&& 1431655765)) &&& 858993459) + ((((x0 - (((x0.toUInt32 >>> ((1 : Int32).toUInt32 &&& Int32.toUInt32 31)).toInt32) &&& 1431655765)).toUInt32 >>> ((2 : Int32).toUInt32 &&& Int32.toUInt32 31)).toInt32) &&& 858993459)).toUInt32 >>> ((4 : Int32).toUInt32 &&& Int32.toUInt32 31)).toInt32)) &&& 252645135).toUInt32 >>> ((8 : Int32).toUInt32 &&& Int32.toUInt32 31)).toInt32)).toUInt32 >>> ((16 : Int32).toUInt32 &&& Int32.toUInt32 31)).toInt32)) &&& 63, σ)
def w_J9_floorDiv_7cf53 : List Cond := Cond.code yJ9_floorDiv_7cf53 cJ9_floorDiv_7cf53 3 (some .int) :: GT
def f_J9_floorDiv_7cf53_21 (x2 : Int32) (σ : HS) : Option (Int32 × HS) :=
    some (x2, σ)
def f_J9_floorDiv_7cf53 (x0 : Int32) (x1 : Int32) (σ : HS) : Option (Int32 × HS) :=
    nz (x1 = 0) (
    if 0 ≤ (x0 ^^^ x1) then
      f_J9_floorDiv_7cf53_21 (x0 / x1) σ
    else
      if ((x0 / x1) * x1) = x0 then
        f_J9_floorDiv_7cf53_21 (x0 / x1) σ
      else
        some ((x0 / x1) - 1, σ))
def w_J9_floorDiv_f86c9 : List Cond := Cond.code yJ9_floorDiv_f86c9 cJ9_floorDiv_f86c9 6 (some .long) :: GT
def f_J9_floorDiv_f86c9_27 (x4 : Int64) (σ : HS) : Option (Int64 × HS) :=
    some (x4, σ)
def f_J9_floorDiv_f86c9 (x0 : Int64) (x2 : Int64) (σ : HS) : Option (Int64 × HS) :=
    nz (x2 = 0) (
    if 0 ≤ (x0 ^^^ x2) then
      f_J9_floorDiv_f86c9_27 (x0 / x2) σ
    else
      if ((x0 / x2) * x2) = x0 then
        f_J9_floorDiv_f86c9_27 (x0 / x2) σ
      else
        some ((x0 / x2) - 1, σ))
def w_J9_max_7cf53 : List Cond := Cond.code yJ9_max_7cf53 cJ9_max_7cf53 2 (some .int) :: GT
def f_J9_max_7cf53_10 (s0 : Int32) (σ : HS) : Option (Int32 × HS) :=
    some (s0, σ)
def f_J9_max_7cf53 (x0 : Int32) (x1 : Int32) (σ : HS) : Option (Int32 × HS) :=
    if x0 < x1 then
      f_J9_max_7cf53_10 x1 σ
    else
      f_J9_max_7cf53_10 x0 σ
def w_J9_max_f86c9 : List Cond := Cond.code yJ9_max_f86c9 cJ9_max_f86c9 4 (some .long) :: GT
def f_J9_max_f86c9_11 (s0 : Int64) (σ : HS) : Option (Int64 × HS) :=
    some (s0, σ)
def f_J9_max_f86c9 (x0 : Int64) (x2 : Int64) (σ : HS) : Option (Int64 × HS) :=
    if x0 < x2 then
      f_J9_max_f86c9_11 x2 σ
    else
      f_J9_max_f86c9_11 x0 σ
def w_J9_min_7cf53 : List Cond := Cond.code yJ9_min_7cf53 cJ9_min_7cf53 2 (some .int) :: GT
def f_J9_min_7cf53_10 (s0 : Int32) (σ : HS) : Option (Int32 × HS) :=
    some (s0, σ)
def f_J9_min_7cf53 (x0 : Int32) (x1 : Int32) (σ : HS) : Option (Int32 × HS) :=
    if x1 < x0 then
      f_J9_min_7cf53_10 x1 σ
    else
      f_J9_min_7cf53_10 x0 σ
def w_X0_clear : List Cond := Cond.code yX0_clear cX0_clear 2 none :: GT
def f_X0_clear_2 (t : Nat) : Nat → Int32 → HS → Option HS
  | 0, _, _ => none
  | n + 1, x1, σ =>
    if 4 ≤ x1 then
      some (sI σ t 9 0)
    else
      rk (σ.2.2 t 0) 14 fun a1 =>
      ck x1 (ln a1) (
      rk ((sI σ a1 x1.toNatClampNeg (-1)).2.2 t 1) 14 fun a2 =>
      ck x1 (ln a2) (
      rk ((sI (sI σ a1 x1.toNatClampNeg (-1)) a2 x1.toNatClampNeg (-1)).2.2 t 2) 14 fun a3 =>
      ck x1 (ln a3) (
      (f_X0_clear_2 t n) (x1 + 1) (sI (sI (sI σ a1 x1.toNatClampNeg (-1)) a2 x1.toNatClampNeg (-1)) a3 x1.toNatClampNeg (-1)))))
def f_X0_clear (t : Nat) (σ : HS) : Option HS :=
    f_X0_clear_2 t FU 0 σ
def w_X0_say : List Cond := Cond.code yX0_say cX0_say 7 none :: GT
def f_X0_say (t : Nat) (x1 : Int32) (x2 : Int32) (x3 : Int32) (x4 : Int32) (x5 : Int32) (x6 : Int32) (σ : HS) : Option HS :=
    if (σ.1 t 9) < 12 then
      rk (σ.2.2 t 3) 14 fun a1 =>
      ck (σ.1 t 9) (ln a1) (
      rk ((sI σ a1 (σ.1 t 9).toNatClampNeg x1).2.2 t 4) 14 fun a2 =>
      ck ((sI σ a1 (σ.1 t 9).toNatClampNeg x1).1 t 9) (ln a2) (
      rk ((sI (sI σ a1 (σ.1 t 9).toNatClampNeg x1) a2 ((sI σ a1 (σ.1 t 9).toNatClampNeg x1).1 t 9).toNatClampNeg x2).2.2 t 5) 14 fun a3 =>
      ck ((sI (sI σ a1 (σ.1 t 9).toNatClampNeg x1) a2 ((sI σ a1 (σ.1 t 9).toNatClampNeg x1).1 t 9).toNatClampNeg x2).1 t 9) (ln a3) (
      rk ((sI (sI (sI σ a1 (σ.1 t 9).toNatClampNeg x1) a2 ((sI σ a1 (σ.1 t 9).toNatClampNeg x1).1 t 9).toNatClampNeg x2) a3 ((sI (sI σ a1 (σ.1 t 9).toNatClampNeg x1) a2 ((sI σ a1 (σ.1 t 9).toNatClampNeg x1).1 t 9).toNatClampNeg x2).1 t 9).toNatClampNeg x3).2.2 t 6) 14 fun a4 =>
      ck ((sI (sI (sI σ a1 (σ.1 t 9).toNatClampNeg x1) a2 ((sI σ a1 (σ.1 t 9).toNatClampNeg x1).1 t 9).toNatClampNeg x2) a3 ((sI (sI σ a1 (σ.1 t 9).toNatClampNeg x1) a2 ((sI σ a1 (σ.1 t 9).toNatClampNeg x1).1 t 9).toNatClampNeg x2).1 t 9).toNatClampNeg x3).1 t 9) (ln a4) (
      rk ((sI (sI (sI (sI σ a1 (σ.1 t 9).toNatClampNeg x1) a2 ((sI σ a1 (σ.1 t 9).toNatClampNeg x1).1 t 9).toNatClampNeg x2) a3 ((sI (sI σ a1 (σ.1 t 9).toNatClampNeg x1) a2 ((sI σ a1 (σ.1 t 9).toNatClampNeg x1).1 t 9).toNatClampNeg x2).1 t 9).toNatClampNeg x3) a4 ((sI (sI (sI σ a1 (σ.1 t 9).toNatClampNeg x1) a2 ((sI σ a1 (σ.1 t 9).toNatClampNeg x1).1 t 9).toNatClampNeg x2) a3 ((sI (sI σ a1 (σ.1 t 9).toNatClampNeg x1) a2 ((sI σ a1 (σ.1 t 9).toNatClampNeg x1).1 t 9).toNatClampNeg x2).1 t 9).toNatClampNeg x3).1 t 9).toNatClampNeg x4).2.2 t 7) 14 fun a5 =>
      ck ((sI (sI (sI (sI σ a1 (σ.1 t 9).toNatClampNeg x1) a2 ((sI σ a1 (σ.1 t 9).toNatClampNeg x1).1 t 9).toNatClampNeg x2) a3 ((sI (sI σ a1 (σ.1 t 9).toNatClampNeg x1) a2 ((sI σ a1 (σ.1 t 9).toNatClampNeg x1).1 t 9).toNatClampNeg x2).1 t 9).toNatClampNeg x3) a4 ((sI (sI (sI σ a1 (σ.1 t 9).toNatClampNeg x1) a2 ((sI σ a1 (σ.1 t 9).toNatClampNeg x1).1 t 9).toNatClampNeg x2) a3 ((sI (sI σ a1 (σ.1 t 9).toNatClampNeg x1) a2 ((sI σ a1 (σ.1 t 9).toNatClampNeg x1).1 t 9).toNatClampNeg x2).1 t 9).toNatClampNeg x3).1 t 9).toNatClampNeg x4).1 t 9) (ln a5) (
      rk ((sI (sI (sI (sI (sI σ a1 (σ.1 t 9).toNatClampNeg x1) a2 ((sI σ a1 (σ.1 t 9).toNatClampNeg x1).1 t 9).toNatClampNeg x2) a3 ((sI (sI σ a1 (σ.1 t 9).toNatClampNeg x1) a2 ((sI σ a1 (σ.1 t 9).toNatClampNeg x1).1 t 9).toNatClampNeg x2).1 t 9).toNatClampNeg x3) a4 ((sI (sI (sI σ a1 (σ.1 t 9).toNatClampNeg x1) a2 ((sI σ a1 (σ.1 t 9).toNatClampNeg x1).1 t 9).toNatClampNeg x2) a3 ((sI (sI σ a1 (σ.1 t 9).toNatClampNeg x1) a2 ((sI σ a1 (σ.1 t 9).toNatClampNeg x1).1 t 9).toNatClampNeg x2).1 t 9).toNatClampNeg x3).1 t 9).toNatClampNeg x4) a5 ((sI (sI (sI (sI σ a1 (σ.1 t 9).toNatClampNeg x1) a2 ((sI σ a1 (σ.1 t 9).toNatClampNeg x1).1 t 9).toNatClampNeg x2) a3 ((sI (sI σ a1 (σ.1 t 9).toNatClampNeg x1) a2 ((sI σ a1 (σ.1 t 9).toNatClampNeg x1).1 t 9).toNatClampNeg x2).1 t 9).toNatClampNeg x3) a4 ((sI (sI (sI σ a1 (σ.1 t 9).toNatClampNeg x1) a2 ((sI σ a1 (σ.1 t 9).toNatClampNeg x1).1 t 9).toNatClampNeg x2) a3 ((sI (sI σ a1 (σ.1 t 9).toNatClampNeg x1) a2 ((sI σ a1 (σ.1 t 9).toNatClampNeg x1).1 t 9).toNatClampNeg x2).1 t 9).toNatClampNeg x3).1 t 9).toNatClampNeg x4).1 t 9).toNatClampNeg x5).2.2 t 8) 14 fun a6 =>
      ck ((sI (sI (sI (sI (sI σ a1 (σ.1 t 9).toNatClampNeg x1) a2 ((sI σ a1 (σ.1 t 9).toNatClampNeg x1).1 t 9).toNatClampNeg x2) a3 ((sI (sI σ a1 (σ.1 t 9).toNatClampNeg x1) a2 ((sI σ a1 (σ.1 t 9).toNatClampNeg x1).1 t 9).toNatClampNeg x2).1 t 9).toNatClampNeg x3) a4 ((sI (sI (sI σ a1 (σ.1 t 9).toNatClampNeg x1) a2 ((sI σ a1 (σ.1 t 9).toNatClampNeg x1).1 t 9).toNatClampNeg x2) a3 ((sI (sI σ a1 (σ.1 t 9).toNatClampNeg x1) a2 ((sI σ a1 (σ.1 t 9).toNatClampNeg x1).1 t 9).toNatClampNeg x2).1 t 9).toNatClampNeg x3).1 t 9).toNatClampNeg x4) a5 ((sI (sI (sI (sI σ a1 (σ.1 t 9).toNatClampNeg x1) a2 ((sI σ a1 (σ.1 t 9).toNatClampNeg x1).1 t 9).toNatClampNeg x2) a3 ((sI (sI σ a1 (σ.1 t 9).toNatClampNeg x1) a2 ((sI σ a1 (σ.1 t 9).toNatClampNeg x1).1 t 9).toNatClampNeg x2).1 t 9).toNatClampNeg x3) a4 ((sI (sI (sI σ a1 (σ.1 t 9).toNatClampNeg x1) a2 ((sI σ a1 (σ.1 t 9).toNatClampNeg x1).1 t 9).toNatClampNeg x2) a3 ((sI (sI σ a1 (σ.1 t 9).toNatClampNeg x1) a2 ((sI σ a1 (σ.1 t 9).toNatClampNeg x1).1 t 9).toNatClampNeg x2).1 t 9).toNatClampNeg x3).1 t 9).toNatClampNeg x4).1 t 9).toNatClampNeg x5).1 t 9) (ln a6) (
      some (sI (sI (sI (sI (sI (sI (sI σ a1 (σ.1 t 9).toNatClampNeg x1) a2 ((sI σ a1 (σ.1 t 9).toNatClampNeg x1).1 t 9).toNatClampNeg x2) a3 ((sI (sI σ a1 (σ.1 t 9).toNatClampNeg x1) a2 ((sI σ a1 (σ.1 t 9).toNatClampNeg x1).1 t 9).toNatClampNeg x2).1 t 9).toNatClampNeg x3) a4 ((sI (sI (sI σ a1 (σ.1 t 9).toNatClampNeg x1) a2 ((sI σ a1 (σ.1 t 9).toNatClampNeg x1).1 t 9).toNatClampNeg x2) a3 ((sI (sI σ a1 (σ.1 t 9).toNatClampNeg x1) a2 ((sI σ a1 (σ.1 t 9).toNatClampNeg x1).1 t 9).toNatClampNeg x2).1 t 9).toNatClampNeg x3).1 t 9).toNatClampNeg x4) a5 ((sI (sI (sI (sI σ a1 (σ.1 t 9).toNatClampNeg x1) a2 ((sI σ a1 (σ.1 t 9).toNatClampNeg x1).1 t 9).toNatClampNeg x2) a3 ((sI (sI σ a1 (σ.1 t 9).toNatClampNeg x1) a2 ((sI σ a1 (σ.1 t 9).toNatClampNeg x1).1 t 9).toNatClampNeg x2).1 t 9).toNatClampNeg x3) a4 ((sI (sI (sI σ a1 (σ.1 t 9).toNatClampNeg x1) a2 ((sI σ a1 (σ.1 t 9).toNatClampNeg x1).1 t 9).toNatClampNeg x2) a3 ((sI (sI σ a1 (σ.1 t 9).toNatClampNeg x1) a2 ((sI σ a1 (σ.1 t 9).toNatClampNeg x1).1 t 9).toNatClampNeg x2).1 t 9).toNatClampNeg x3).1 t 9).toNatClampNeg x4).1 t 9).toNatClampNeg x5) a6 ((sI (sI (sI (sI (sI σ a1 (σ.1 t 9).toNatClampNeg x1) a2 ((sI σ a1 (σ.1 t 9).toNatClampNeg x1).1 t 9).toNatClampNeg x2) a3 ((sI (sI σ a1 (σ.1 t 9).toNatClampNeg x1) a2 ((sI σ a1 (σ.1 t 9).toNatClampNeg x1).1 t 9).toNatClampNeg x2).1 t 9).toNatClampNeg x3) a4 ((sI (sI (sI σ a1 (σ.1 t 9).toNatClampNeg x1) a2 ((sI σ a1 (σ.1 t 9).toNatClampNeg x1).1 t 9).toNatClampNeg x2) a3 ((sI (sI σ a1 (σ.1 t 9).toNatClampNeg x1) a2 ((sI σ a1 (σ.1 t 9).toNatClampNeg x1).1 t 9).toNatClampNeg x2).1 t 9).toNatClampNeg x3).1 t 9).toNatClampNeg x4) a5 ((sI (sI (sI (sI σ a1 (σ.1 t 9).toNatClampNeg x1) a2 ((sI σ a1 (σ.1 t 9).toNatClampNeg x1).1 t 9).toNatClampNeg x2) a3 ((sI (sI σ a1 (σ.1 t 9).toNatClampNeg x1) a2 ((sI σ a1 (σ.1 t 9).toNatClampNeg x1).1 t 9).toNatClampNeg x2).1 t 9).toNatClampNeg x3) a4 ((sI (sI (sI σ a1 (σ.1 t 9).toNatClampNeg x1) a2 ((sI σ a1 (σ.1 t 9).toNatClampNeg x1).1 t 9).toNatClampNeg x2) a3 ((sI (sI σ a1 (σ.1 t 9).toNatClampNeg x1) a2 ((sI σ a1 (σ.1 t 9).toNatClampNeg x1).1 t 9).toNatClampNeg x2).1 t 9).toNatClampNeg x3).1 t 9).toNatClampNeg x4).1 t 9).toNatClampNeg x5).1 t 9).toNatClampNeg x6) t 9 (((sI (sI (sI (sI (sI (sI σ a1 (σ.1 t 9).toNatClampNeg x1) a2 ((sI σ a1 (σ.1 t 9).toNatClampNeg x1).1 t 9).toNatClampNeg x2) a3 ((sI (sI σ a1 (σ.1 t 9).toNatClampNeg x1) a2 ((sI σ a1 (σ.1 t 9).toNatClampNeg x1).1 t 9).toNatClampNeg x2).1 t 9).toNatClampNeg x3) a4 ((sI (sI (sI σ a1 (σ.1 t 9).toNatClampNeg x1) a2 ((sI σ a1 (σ.1 t 9).toNatClampNeg x1).1 t 9).toNatClampNeg x2) a3 ((sI (sI σ a1 (σ.1 t 9).toNatClampNeg x1) a2 ((sI σ a1 (σ.1 t 9).toNatClampNeg x1).1 t 9).toNatClampNeg x2).1 t 9).toNatClampNeg x3).1 t 9).toNatClampNeg x4) a5 ((sI (sI (sI (sI σ a1 (σ.1 t 9).toNatClampNeg x1) a2 ((sI σ a1 (σ.1 t 9).toNatClampNeg x1).1 t 9).toNatClampNeg x2) a3 ((sI (sI σ a1 (σ.1 t 9).toNatClampNeg x1) a2 ((sI σ a1 (σ.1 t 9).toNatClampNeg x1).1 t 9).toNatClampNeg x2).1 t 9).toNatClampNeg x3) a4 ((sI (sI (sI σ a1 (σ.1 t 9).toNatClampNeg x1) a2 ((sI σ a1 (σ.1 t 9).toNatClampNeg x1).1 t 9).toNatClampNeg x2) a3 ((sI (sI σ a1 (σ.1 t 9).toNatClampNeg x1) a2 ((sI σ a1 (σ.1 t 9).toNatClampNeg x1).1 t 9).toNatClampNeg x2).1 t 9).toNatClampNeg x3).1 t 9).toNatClampNeg x4).1 t 9).toNatClampNeg x5) a6 ((sI (sI (sI (sI (sI σ a1 (σ.1 t 9).toNatClampNeg x1) a2 ((sI σ a1 (σ.1 t 9).toNatClampNeg x1).1 t 9).toNatClampNeg x2) a3 ((sI (sI σ a1 (σ.1 t 9).toNatClampNeg x1) a2 ((sI σ a1 (σ.1 t 9).toNatClampNeg x1).1 t 9).toNatClampNeg x2).1 t 9).toNatClampNeg x3) a4 ((sI (sI (sI σ a1 (σ.1 t 9).toNatClampNeg x1) a2 ((sI σ a1 (σ.1 t 9).toNatClampNeg x1).1 t 9).toNatClampNeg x2) a3 ((sI (sI σ a1 (σ.1 t 9).toNatClampNeg x1) a2 ((sI σ a1 (σ.1 t 9).toNatClampNeg x1).1 t 9).toNatClampNeg x2).1 t 9).toNatClampNeg x3).1 t 9).toNatClampNeg x4) a5 ((sI (sI (sI (sI σ a1 (σ.1 t 9).toNatClampNeg x1) a2 ((sI σ a1 (σ.1 t 9).toNatClampNeg x1).1 t 9).toNatClampNeg x2) a3 ((sI (sI σ a1 (σ.1 t 9).toNatClampNeg x1) a2 ((sI σ a1 (σ.1 t 9).toNatClampNeg x1).1 t 9).toNatClampNeg x2).1 t 9).toNatClampNeg x3) a4 ((sI (sI (sI σ a1 (σ.1 t 9).toNatClampNeg x1) a2 ((sI σ a1 (σ.1 t 9).toNatClampNeg x1).1 t 9).toNatClampNeg x2) a3 ((sI (sI σ a1 (σ.1 t 9).toNatClampNeg x1) a2 ((sI σ a1 (σ.1 t 9).toNatClampNeg x1).1 t 9).toNatClampNeg x2).1 t 9).toNatClampNeg x3).1 t 9).toNatClampNeg x4).1 t 9).toNatClampNeg x5).1 t 9).toNatClampNeg x6).1 t 9) + 1))))))))
    else
      some σ
def w_X0_sayingsOf : List Cond := Cond.code yX0_sayingsOf cX0_sayingsOf 4 (some .int) :: GT
def f_X0_sayingsOf_31 (r4 : Int32 → Int32 → HS → Option (Int32 × HS)) (t : Nat) (x1 : Int32) (x2 : Int32) (x3 : Int32) (σ : HS) : Option (Int32 × HS) :=
    r4 x2 (x3 + 1) σ
def f_X0_sayingsOf_4 (t : Nat) (x1 : Int32) : Nat → Int32 → Int32 → HS → Option (Int32 × HS)
  | 0, _, _, _ => none
  | n + 1, x2, x3, σ =>
    if (σ.1 t 9) ≤ x3 then
      some (x2, σ)
    else
      rk (σ.2.2 t 3) 14 fun a1 =>
      ck x3 (ln a1) (
      if (x1 &&& ((1 : Int32) <<< ((σ.1 a1 x3.toNatClampNeg) &&& 31))) = 0 then
        f_X0_sayingsOf_31 (f_X0_sayingsOf_4 t x1 n) t x1 x2 x3 σ
      else
        f_X0_sayingsOf_31 (f_X0_sayingsOf_4 t x1 n) t x1 (x2 ||| ((1 : Int32) <<< (x3 &&& 31))) x3 σ)
def f_X0_sayingsOf (t : Nat) (x1 : Int32) (σ : HS) : Option (Int32 × HS) :=
    f_X0_sayingsOf_4 t x1 FU 0 0 σ
def w_X9_isTold : List Cond := Cond.code yX9_isTold cX9_isTold 2 (some .boolean) :: GT
def f_X9_isTold_26 (s0 : Int32) (σ : HS) : Option (Int32 × HS) :=
    zr s0 σ
def f_X9_isTold_25 (σ : HS) : Option (Int32 × HS) :=
    f_X9_isTold_26 0 σ
def f_X9_isTold (t : Nat) (x1 : Int32) (σ : HS) : Option (Int32 × HS) :=
    if x1 < 0 then
      f_X9_isTold_25 σ
    else
      if 8 ≤ x1 then
        f_X9_isTold_25 σ
      else
        if ((σ.1 t 3) &&& ((1 : Int32) <<< (x1 &&& 31))) = 0 then
          f_X9_isTold_25 σ
        else
          f_X9_isTold_26 1 σ
def w_X9_fillLead : List Cond := Cond.code yX9_fillLead cX9_fillLead 5 none :: GT
def f_X9_fillLead_3 (t : Nat) (x1 : Int32) (x2 : Int32) (x3 : Nat) : Nat → Int32 → HS → Option HS
  | 0, _, _ => none
  | n + 1, x4, σ =>
    if 4 ≤ x4 then
      some σ
    else
      rk (σ.2.2 t 1) 18 fun a1 =>
      ck x1 (ln a1) (rk (σ.2.2 a1 x1.toNatClampNeg) 14 fun a2 =>
      ck x4 (ln a2) (
      rk (σ.2.2 t 1) 18 fun a3 =>
      ck x2 (ln a3) (rk (σ.2.2 a3 x2.toNatClampNeg) 14 fun a4 =>
      ck x4 (ln a4) (
      ck x4 (ln x3) (
      (f_X9_fillLead_3 t x1 x2 x3 n) (x4 + 1) (sI σ x3 x4.toNatClampNeg ((σ.1 a2 x4.toNatClampNeg) - (σ.1 a4 x4.toNatClampNeg))))))))
def f_X9_fillLead (t : Nat) (x1 : Int32) (x2 : Int32) (x3 : Nat) (σ : HS) : Option HS :=
    f_X9_fillLead_3 t x1 x2 x3 FU 0 σ
def w_X0_fillRow : List Cond := Cond.code yX0_fillRow cX0_fillRow 7 none :: GT
def f_X0_fillRow_211 (σ : HS) : Option HS :=
    some σ
def f_X0_fillRow_68 (r46 : Int32 → HS → Option HS) (t : Nat) (x1 : Int32) (x2 : Nat) (x3 : Nat) (x4 : Int32) (x5 : Int32) (x6 : Int32) (s0 : Int32) (s1 : Int32) (s2 : Nat) (σ : HS) : Option HS :=
    ck s1 (ln s2) (
    r46 (x6 + 1) (sI σ s2 s1.toNatClampNeg s0))
def f_X0_fillRow_46 (t : Nat) (x1 : Int32) (x2 : Nat) (x3 : Nat) (x4 : Int32) (x5 : Int32) : Nat → Int32 → HS → Option HS
  | 0, _, _ => none
  | n + 1, x6, σ =>
    if 4 ≤ x6 then
      rk (σ.2.2 t 4) 14 fun a1 =>
      ck x1 (ln a1) (
      if (σ.1 a1 x1.toNatClampNeg) = 1 then
        rk (σ.2.2 t 5) 14 fun a16 =>
        ck x1 (ln a16) (
        ck (σ.1 a16 x1.toNatClampNeg) (ln x2) (
        ck (σ.1 a16 x1.toNatClampNeg) (ln x2) (
        f_X0_fillRow_211 (sI σ x2 (σ.1 a16 x1.toNatClampNeg).toNatClampNeg ((σ.1 x2 (σ.1 a16 x1.toNatClampNeg).toNatClampNeg) + 100)))))
      else
        rk (σ.2.2 t 4) 14 fun a2 =>
        ck x1 (ln a2) (
        if (σ.1 a2 x1.toNatClampNeg) = 2 then
          rk (σ.2.2 t 5) 14 fun a15 =>
          ck x1 (ln a15) (
          ck (σ.1 a15 x1.toNatClampNeg) (ln x2) (
          ck (σ.1 a15 x1.toNatClampNeg) (ln x2) (
          f_X0_fillRow_211 (sI σ x2 (σ.1 a15 x1.toNatClampNeg).toNatClampNeg ((σ.1 x2 (σ.1 a15 x1.toNatClampNeg).toNatClampNeg) - 100)))))
        else
          rk (σ.2.2 t 4) 14 fun a3 =>
          ck x1 (ln a3) (
          if (σ.1 a3 x1.toNatClampNeg) = 0 then
            rk (σ.2.2 t 5) 14 fun a11 =>
            ck x1 (ln a11) (
            rk (σ.2.2 t 7) 14 fun a12 =>
            ck x1 (ln a12) (
            ck (σ.1 a11 x1.toNatClampNeg) (ln x2) (
            rk ((sI σ x2 (σ.1 a11 x1.toNatClampNeg).toNatClampNeg (σ.1 a12 x1.toNatClampNeg)).2.2 t 6) 14 fun a13 =>
            ck x1 (ln a13) (
            rk ((sI σ x2 (σ.1 a11 x1.toNatClampNeg).toNatClampNeg (σ.1 a12 x1.toNatClampNeg)).2.2 t 8) 14 fun a14 =>
            ck x1 (ln a14) (
            ck ((sI σ x2 (σ.1 a11 x1.toNatClampNeg).toNatClampNeg (σ.1 a12 x1.toNatClampNeg)).1 a13 x1.toNatClampNeg) (ln x2) (
            f_X0_fillRow_211 (sI (sI σ x2 (σ.1 a11 x1.toNatClampNeg).toNatClampNeg (σ.1 a12 x1.toNatClampNeg)) x2 ((sI σ x2 (σ.1 a11 x1.toNatClampNeg).toNatClampNeg (σ.1 a12 x1.toNatClampNeg)).1 a13 x1.toNatClampNeg).toNatClampNeg (-((sI σ x2 (σ.1 a11 x1.toNatClampNeg).toNatClampNeg (σ.1 a12 x1.toNatClampNeg)).1 a14 x1.toNatClampNeg)))))))))
          else
            rk (σ.2.2 t 5) 14 fun a4 =>
            ck x1 (ln a4) (
            (f_X9_isTold x3 (σ.1 a4 x1.toNatClampNeg) σ).bind fun q5 =>
            if q5.1 = 0 then
              f_X0_fillRow_211 q5.2
            else
              rk (q5.2.2.2 t 6) 14 fun a6 =>
              ck x1 (ln a6) (
              (f_X9_isTold x3 (q5.2.1 a6 x1.toNatClampNeg) q5.2).bind fun q7 =>
              if q7.1 = 0 then
                f_X0_fillRow_211 q7.2
              else
                rk (q7.2.2.2 t 5) 14 fun a8 =>
                ck x1 (ln a8) (
                rk (q7.2.2.2 t 6) 14 fun a9 =>
                ck x1 (ln a9) (
                (f_X9_fillLead x3 (q7.2.1 a8 x1.toNatClampNeg) (q7.2.1 a9 x1.toNatClampNeg) x2 q7.2).bind fun q10 =>
                f_X0_fillRow_211 q10)))))))
    else
      if x4 ≤ x6 then
        f_X0_fillRow_68 (f_X0_fillRow_46 t x1 x2 x3 x4 x5 n) t x1 x2 x3 x4 x5 x6 0 x6 x2 σ
      else
        f_X0_fillRow_68 (f_X0_fillRow_46 t x1 x2 x3 x4 x5 n) t x1 x2 x3 x4 x5 x6 x5 x6 x2 σ
def f_X0_fillRow_43 (t : Nat) (x1 : Int32) (x2 : Nat) (x3 : Nat) (x4 : Int32) (x5 : Int32) (σ : HS) : Option HS :=
    f_X0_fillRow_46 t x1 x2 x3 x4 x5 FU 0 σ
def f_X0_fillRow (t : Nat) (x1 : Int32) (x2 : Nat) (x3 : Nat) (x4 : Int32) (σ : HS) : Option HS :=
    rk (σ.2.2 t 4) 14 fun a1 =>
    ck x1 (ln a1) (
    if (σ.1 a1 x1.toNatClampNeg) = 1 then
      rk (σ.2.2 t 7) 14 fun a4 =>
      ck x1 (ln a4) (
      f_X0_fillRow_43 t x1 x2 x3 x4 (-(σ.1 a4 x1.toNatClampNeg)) σ)
    else
      rk (σ.2.2 t 4) 14 fun a2 =>
      ck x1 (ln a2) (
      if (σ.1 a2 x1.toNatClampNeg) = 2 then
        rk (σ.2.2 t 7) 14 fun a3 =>
        ck x1 (ln a3) (
        f_X0_fillRow_43 t x1 x2 x3 x4 (σ.1 a3 x1.toNatClampNeg) σ)
      else
        f_X0_fillRow_43 t x1 x2 x3 x4 0 σ))
def w_X1_becomeWhole : List Cond := Cond.code yX1_becomeWhole cX1_becomeWhole 4 none :: GT
def f_X1_becomeWhole_51 (r17 : Int32 → HS → Option HS) (r27 : Int32 → HS → Option HS) (t : Nat) (x2 : Int32) (x3 : Int32) (s0 : Int64) (s1 : Int32) (s2 : Nat) (σ : HS) : Option HS :=
    ck s1 (ln s2) (
    r27 (x3 + 1) (sJ σ s2 s1.toNatClampNeg s0))
def f_X1_becomeWhole_27 (t : Nat) (x2 : Int32) (r17 : Int32 → HS → Option HS) : Nat → Int32 → HS → Option HS
  | 0, _, _ => none
  | n + 1, x3, σ =>
    if 4 ≤ x3 then
      rk (σ.2.2 t 1) 14 fun a1 =>
      ck x2 (ln a1) (
      r17 (x2 + 1) (sI σ a1 x2.toNatClampNeg ((((1 : Int32) <<< ((σ.1 t 4) &&& 31)) - 1) &&& (((1 : Int32) <<< (x2 &&& 31)) ^^^ (-1)))))
    else
      rk (σ.2.2 t 0) 15 fun a2 =>
      if x3 = x2 then
        f_X1_becomeWhole_51 r17 (f_X1_becomeWhole_27 t x2 r17 n) t x2 x3 1 ((x2 * 4) + x3) a2 σ
      else
        f_X1_becomeWhole_51 r17 (f_X1_becomeWhole_27 t x2 r17 n) t x2 x3 0 ((x2 * 4) + x3) a2 σ
def f_X1_becomeWhole_17 (t : Nat) : Nat → Int32 → HS → Option HS
  | 0, _, _ => none
  | n + 1, x2, σ =>
    if (σ.1 t 5) ≤ x2 then
      some σ
    else
      f_X1_becomeWhole_27 t x2 (f_X1_becomeWhole_17 t n) FU 0 σ
def f_X1_becomeWhole (t : Nat) (x1 : Int32) (σ : HS) : Option HS :=
    f_X1_becomeWhole_17 t FU 0 (sI (sI (sI σ t 3 x1) t 4 x1) t 5 x1)
def w_X1_weight : List Cond := Cond.code yX1_weight cX1_weight 3 (some .long) :: GT
def f_X1_weight (t : Nat) (x1 : Int32) (x2 : Int32) (σ : HS) : Option (Int64 × HS) :=
    rk (σ.2.2 t 0) 15 fun a1 =>
    ck ((x1 * 4) + x2) (ln a1) (
    some (σ.2.1 a1 ((x1 * 4) + x2).toNatClampNeg, σ))
def w_X1_take : List Cond := Cond.code yX1_take cX1_take 5 none :: GT
def f_X1_take_13 (t : Nat) (x1 : Nat) (x2 : Int32) (x3 : Int32) : Nat → Int32 → HS → Option HS
  | 0, _, _ => none
  | n + 1, x4, σ =>
    if 4 ≤ x4 then
      rk (σ.2.2 t 1) 14 fun a1 =>
      rk (σ.2.2 x1 1) 14 fun a2 =>
      ck x2 (ln a2) (
      ck (σ.1 t 5) (ln a1) (
      some (sI (sI σ a1 (σ.1 t 5).toNatClampNeg ((σ.1 a2 x2.toNatClampNeg) ||| x3)) t 5 (((sI σ a1 (σ.1 t 5).toNatClampNeg ((σ.1 a2 x2.toNatClampNeg) ||| x3)).1 t 5) + 1))))
    else
      rk (σ.2.2 t 0) 15 fun a3 =>
      (f_X1_weight x1 x2 x4 σ).bind fun q4 =>
      ck (((σ.1 t 5) * 4) + x4) (ln a3) (
      (f_X1_take_13 t x1 x2 x3 n) (x4 + 1) (sJ q4.2 a3 (((σ.1 t 5) * 4) + x4).toNatClampNeg q4.1))
def f_X1_take (t : Nat) (x1 : Nat) (x2 : Int32) (x3 : Int32) (σ : HS) : Option HS :=
    if (σ.1 t 5) < 44 then
      f_X1_take_13 t x1 x2 x3 FU 0 σ
    else
      some σ
def w_X1_become : List Cond := Cond.code yX1_become cX1_become 3 none :: GT
def f_X1_become_23 (t : Nat) (x1 : Nat) : Nat → Int32 → HS → Option HS
  | 0, _, _ => none
  | n + 1, x2, σ =>
    if (σ.1 x1 5) ≤ x2 then
      some σ
    else
      (f_X1_take t x1 x2 0 σ).bind fun q1 =>
      (f_X1_become_23 t x1 n) (x2 + 1) q1
def f_X1_become (t : Nat) (x1 : Nat) (σ : HS) : Option HS :=
    f_X1_become_23 t x1 FU 0 (sI (sI (sI σ t 3 (σ.1 x1 3)) t 4 ((sI σ t 3 (σ.1 x1 3)).1 x1 4)) t 5 0)
def w_X1_product : List Cond := Cond.code yX1_product cX1_product 6 (some .long) :: GT
def f_X1_product_5 (t : Nat) (x1 : Int32) (x2 : Nat) : Nat → Int64 → Int32 → HS → Option (Int64 × HS)
  | 0, _, _, _ => none
  | n + 1, x3, x5, σ =>
    if (σ.1 t 3) ≤ x5 then
      some (x3, σ)
    else
      rk (σ.2.2 t 0) 15 fun a1 =>
      ck ((x1 * 4) + x5) (ln a1) (
      ck x5 (ln x2) (
      (f_X1_product_5 t x1 x2 n) (x3 + ((σ.2.1 a1 ((x1 * 4) + x5).toNatClampNeg) * ((σ.1 x2 x5.toNatClampNeg).toInt64))) (x5 + 1) σ))
def f_X1_product (t : Nat) (x1 : Int32) (x2 : Nat) (σ : HS) : Option (Int64 × HS) :=
    f_X1_product_5 t x1 x2 FU 0 0 σ
def w_X1_sum : List Cond := Cond.code yX1_sum cX1_sum 5 (some .long) :: GT
def f_X1_sum_5 (t : Nat) (x1 : Int32) : Nat → Int64 → Int32 → HS → Option (Int64 × HS)
  | 0, _, _, _ => none
  | n + 1, x2, x4, σ =>
    if (σ.1 t 3) ≤ x4 then
      some (x2, σ)
    else
      rk (σ.2.2 t 0) 15 fun a1 =>
      ck ((x1 * 4) + x4) (ln a1) (
      (f_X1_sum_5 t x1 n) (x2 + (σ.2.1 a1 ((x1 * 4) + x4).toNatClampNeg)) (x4 + 1) σ)
def f_X1_sum (t : Nat) (x1 : Int32) (σ : HS) : Option (Int64 × HS) :=
    f_X1_sum_5 t x1 FU 0 0 σ
def w_X1_isEdge : List Cond := Cond.code yX1_isEdge cX1_isEdge 5 (some .boolean) :: GT
def f_X1_isEdge_68 (r32 : Int32 → HS → Option (Int32 × HS)) (t : Nat) (x1 : Int32) (x2 : Int32) (x3 : Int32) (x4 : Int32) (σ : HS) : Option (Int32 × HS) :=
    r32 (x4 + 1) σ
def f_X1_isEdge_32 (t : Nat) (x1 : Int32) (x2 : Int32) (x3 : Int32) : Nat → Int32 → HS → Option (Int32 × HS)
  | 0, _, _ => none
  | n + 1, x4, σ =>
    if (σ.1 t 5) ≤ x4 then
      some (1, σ)
    else
      rk (σ.2.2 t 1) 14 fun a1 =>
      ck x4 (ln a1) (
      if ((σ.1 a1 x4.toNatClampNeg) &&& x3) = x3 then
        if x4 = x1 then
          f_X1_isEdge_68 (f_X1_isEdge_32 t x1 x2 x3 n) t x1 x2 x3 x4 σ
        else
          if x4 = x2 then
            f_X1_isEdge_68 (f_X1_isEdge_32 t x1 x2 x3 n) t x1 x2 x3 x4 σ
          else
            some (0, σ)
      else
        f_X1_isEdge_68 (f_X1_isEdge_32 t x1 x2 x3 n) t x1 x2 x3 x4 σ)
def f_X1_isEdge (t : Nat) (x1 : Int32) (x2 : Int32) (σ : HS) : Option (Int32 × HS) :=
    rk (σ.2.2 t 1) 14 fun a1 =>
    ck x1 (ln a1) (
    rk (σ.2.2 t 1) 14 fun a2 =>
    ck x2 (ln a2) (
    (f_J6_bitCount_0f7a4 ((σ.1 a1 x1.toNatClampNeg) &&& (σ.1 a2 x2.toNatClampNeg)) σ).bind fun q3 =>
    if ((q3.2.1 t 3) - 2) ≤ q3.1 then
      f_X1_isEdge_32 t x1 x2 ((σ.1 a1 x1.toNatClampNeg) &&& (σ.1 a2 x2.toNatClampNeg)) FU 0 q3.2
    else
      some (0, q3.2)))
def w_X3_commonDivisor : List Cond := Cond.code yX3_commonDivisor cX3_commonDivisor 11 (some .long) :: GT
def f_X3_commonDivisor_67 (x4 : Int64) (σ : HS) : Option (Int64 × HS) :=
    some (x4, σ)
def f_X3_commonDivisor_31  : Nat → Int64 → Int64 → Int32 → HS → Option (Int64 × HS)
  | 0, _, _, _, _ => none
  | n + 1, x4, x6, x8, σ =>
    if 200 ≤ x8 then
      f_X3_commonDivisor_67 x4 σ
    else
      if x6 = 0 then
        f_X3_commonDivisor_67 x4 σ
      else
        nz (x6 = 0) (
        (f_X3_commonDivisor_31 n) x6 (x4 - x4 / x6 * x6) (x8 + 1) σ)
def f_X3_commonDivisor_26 (x4 : Int64) (s0 : Int64) (σ : HS) : Option (Int64 × HS) :=
    f_X3_commonDivisor_31 FU x4 s0 0 σ
def f_X3_commonDivisor_12 (x2 : Int64) (s0 : Int64) (σ : HS) : Option (Int64 × HS) :=
    if 0 ≤ x2 then
      f_X3_commonDivisor_26 s0 x2 σ
    else
      f_X3_commonDivisor_26 s0 (-x2) σ
def f_X3_commonDivisor (x0 : Int64) (x2 : Int64) (σ : HS) : Option (Int64 × HS) :=
    if 0 ≤ x0 then
      f_X3_commonDivisor_12 x2 x0 σ
    else
      f_X3_commonDivisor_12 x2 (-x0) σ
def w_X1_join : List Cond := Cond.code yX1_join cX1_join 15 none :: GT
def f_X1_join_134 (t : Nat) (x1 : Nat) (x2 : Int32) (x3 : Int32) (x4 : Int32) (σ : HS) : Option HS :=
    rk (σ.2.2 t 1) 14 fun a1 =>
    rk (σ.2.2 x1 1) 14 fun a2 =>
    ck x2 (ln a2) (
    rk (σ.2.2 x1 1) 14 fun a3 =>
    ck x3 (ln a3) (
    ck (σ.1 t 5) (ln a1) (
    some (sI (sI σ a1 (σ.1 t 5).toNatClampNeg (((σ.1 a2 x2.toNatClampNeg) &&& (σ.1 a3 x3.toNatClampNeg)) ||| x4)) t 5 (((sI σ a1 (σ.1 t 5).toNatClampNeg (((σ.1 a2 x2.toNatClampNeg) &&& (σ.1 a3 x3.toNatClampNeg)) ||| x4)).1 t 5) + 1)))))
def f_X1_join_107 (t : Nat) (x1 : Nat) (x2 : Int32) (x3 : Int32) (x4 : Int32) (x9 : Int64) (x11 : Int32) : Nat → Int32 → HS → Option HS
  | 0, _, _ => none
  | n + 1, x12, σ =>
    if 4 ≤ x12 then
      f_X1_join_134 t x1 x2 x3 x4 σ
    else
      rk (σ.2.2 t 0) 15 fun a1 =>
      ck (x11 + x12) (ln a1) (
      nz (x9 = 0) (
      ck (x11 + x12) (ln a1) (
      (f_X1_join_107 t x1 x2 x3 x4 x9 x11 n) (x12 + 1) (sJ σ a1 (x11 + x12).toNatClampNeg ((σ.2.1 a1 (x11 + x12).toNatClampNeg) / x9)))))
def f_X1_join_41 (t : Nat) (x1 : Nat) (x2 : Int32) (x3 : Int32) (x4 : Int32) (x5 : Int64) (x7 : Int64) (x11 : Int32) : Nat → Int64 → Int32 → HS → Option HS
  | 0, _, _, _ => none
  | n + 1, x9, x12, σ =>
    if 4 ≤ x12 then
      if x9 ≤ 1 then
        f_X1_join_134 t x1 x2 x3 x4 σ
      else
        f_X1_join_107 t x1 x2 x3 x4 x9 x11 FU 0 σ
    else
      (f_X1_weight x1 x2 x12 σ).bind fun q1 =>
      (f_X1_weight x1 x3 x12 q1.2).bind fun q2 =>
      rk (q2.2.2.2 t 0) 15 fun a3 =>
      ck (x11 + x12) (ln a3) (
      (f_X3_commonDivisor ((x7 * q1.1) + (x5 * q2.1)) x9 (sJ q2.2 a3 (x11 + x12).toNatClampNeg ((x7 * q1.1) + (x5 * q2.1)))).bind fun q4 =>
      (f_X1_join_41 t x1 x2 x3 x4 x5 x7 x11 n) q4.1 (x12 + 1) q4.2)
def f_X1_join (t : Nat) (x1 : Nat) (x2 : Int32) (x3 : Int32) (x4 : Int32) (σ : HS) : Option HS :=
    if (σ.1 t 5) < 44 then
      rk (σ.2.2 x1 2) 15 fun a1 =>
      ck x2 (ln a1) (
      rk (σ.2.2 x1 2) 15 fun a2 =>
      ck x3 (ln a2) (
      f_X1_join_41 t x1 x2 x3 x4 (σ.2.1 a1 x2.toNatClampNeg) (-(σ.2.1 a2 x3.toNatClampNeg)) ((σ.1 t 5) * 4) FU 0 0 σ))
    else
      some σ
def w_X1_becomeCut : List Cond := Cond.code yX1_becomeCut cX1_becomeCut 7 none :: GT
def f_X1_becomeCut_174 (r108 : Int32 → HS → Option HS) (r120 : Int32 → HS → Option HS) (t : Nat) (x1 : Nat) (x3 : Int32) (x4 : Int32) (x5 : Int32) (σ : HS) : Option HS :=
    r120 (x5 + 1) σ
def f_X1_becomeCut_120 (t : Nat) (x1 : Nat) (x3 : Int32) (x4 : Int32) (r108 : Int32 → HS → Option HS) : Nat → Int32 → HS → Option HS
  | 0, _, _ => none
  | n + 1, x5, σ =>
    if (σ.1 x1 5) ≤ x5 then
      r108 (x4 + 1) σ
    else
      rk (σ.2.2 x1 2) 15 fun a1 =>
      ck x4 (ln a1) (
      if (σ.2.1 a1 x4.toNatClampNeg) ≤ 0 then
        f_X1_becomeCut_174 r108 (f_X1_becomeCut_120 t x1 x3 x4 r108 n) t x1 x3 x4 x5 σ
      else
        rk (σ.2.2 x1 2) 15 fun a2 =>
        ck x5 (ln a2) (
        if 0 ≤ (σ.2.1 a2 x5.toNatClampNeg) then
          f_X1_becomeCut_174 r108 (f_X1_becomeCut_120 t x1 x3 x4 r108 n) t x1 x3 x4 x5 σ
        else
          (f_X1_isEdge x1 x4 x5 σ).bind fun q3 =>
          if q3.1 = 0 then
            f_X1_becomeCut_174 r108 (f_X1_becomeCut_120 t x1 x3 x4 r108 n) t x1 x3 x4 x5 q3.2
          else
            (f_X1_join t x1 x4 x5 x3 q3.2).bind fun q4 =>
            f_X1_becomeCut_174 r108 (f_X1_becomeCut_120 t x1 x3 x4 r108 n) t x1 x3 x4 x5 q4))
def f_X1_becomeCut_108 (t : Nat) (x1 : Nat) (x3 : Int32) : Nat → Int32 → HS → Option HS
  | 0, _, _ => none
  | n + 1, x4, σ =>
    if (σ.1 x1 5) ≤ x4 then
      some σ
    else
      f_X1_becomeCut_120 t x1 x3 x4 (f_X1_becomeCut_108 t x1 x3 n) FU 0 σ
def f_X1_becomeCut_99 (r46 : Int32 → HS → Option HS) (t : Nat) (x1 : Nat) (x2 : Nat) (x3 : Int32) (x4 : Int32) (σ : HS) : Option HS :=
    r46 (x4 + 1) σ
def f_X1_becomeCut_96 (r46 : Int32 → HS → Option HS) (t : Nat) (x1 : Nat) (x2 : Nat) (x3 : Int32) (x4 : Int32) (s0 : Int32) (s1 : Int32) (s2 : Nat) (s3 : Nat) (σ : HS) : Option HS :=
    (f_X1_take s3 s2 s1 s0 σ).bind fun q1 =>
    f_X1_becomeCut_99 r46 t x1 x2 x3 x4 q1
def f_X1_becomeCut_46 (t : Nat) (x1 : Nat) (x2 : Nat) (x3 : Int32) : Nat → Int32 → HS → Option HS
  | 0, _, _ => none
  | n + 1, x4, σ =>
    if (σ.1 x1 5) ≤ x4 then
      f_X1_becomeCut_108 t x1 x3 FU 0 σ
    else
      (f_X1_product x1 x4 x2 σ).bind fun q1 =>
      rk (q1.2.2.2 x1 2) 15 fun a2 =>
      ck x4 (ln a2) (
      if q1.1 < 0 then
        f_X1_becomeCut_99 (f_X1_becomeCut_46 t x1 x2 x3 n) t x1 x2 x3 x4 (sJ q1.2 a2 x4.toNatClampNeg q1.1)
      else
        if q1.1 = 0 then
          f_X1_becomeCut_96 (f_X1_becomeCut_46 t x1 x2 x3 n) t x1 x2 x3 x4 x3 x4 x1 t (sJ q1.2 a2 x4.toNatClampNeg q1.1)
        else
          f_X1_becomeCut_96 (f_X1_becomeCut_46 t x1 x2 x3 n) t x1 x2 x3 x4 0 x4 x1 t (sJ q1.2 a2 x4.toNatClampNeg q1.1))
def f_X1_becomeCut_19 (t : Nat) (x1 : Nat) (x2 : Nat) (s0 : Int32) (σ : HS) : Option HS :=
    f_X1_becomeCut_46 t x1 x2 s0 FU 0 (sI (sI (sI σ t 3 (σ.1 x1 3)) t 4 (((sI σ t 3 (σ.1 x1 3)).1 x1 4) + 1)) t 5 0)
def f_X1_becomeCut (t : Nat) (x1 : Nat) (x2 : Nat) (σ : HS) : Option HS :=
    if 31 ≤ (σ.1 x1 4) then
      f_X1_becomeCut_19 t x1 x2 0 σ
    else
      f_X1_becomeCut_19 t x1 x2 ((1 : Int32) <<< ((σ.1 x1 4) &&& 31)) σ
def w_X1_isBehind : List Cond := Cond.code yX1_isBehind cX1_isBehind 4 (some .boolean) :: GT
def f_X1_isBehind_47 (s0 : Int32) (σ : HS) : Option (Int32 × HS) :=
    zr s0 σ
def f_X1_isBehind_2 (t : Nat) (x1 : Int32) (x2 : Int32) : Nat → Int32 → HS → Option (Int32 × HS)
  | 0, _, _ => none
  | n + 1, x3, σ =>
    if (σ.1 t 3) ≤ x3 then
      some (0, σ)
    else
      (f_X1_weight t x1 x3 σ).bind fun q1 =>
      (f_X1_weight t x2 x3 q1.2).bind fun q2 =>
      if q1.1 = q2.1 then
        (f_X1_isBehind_2 t x1 x2 n) (x3 + 1) q2.2
      else
        (f_X1_weight t x1 x3 q2.2).bind fun q3 =>
        (f_X1_weight t x2 x3 q3.2).bind fun q4 =>
        if q3.1 ≤ q4.1 then
          f_X1_isBehind_47 0 q4.2
        else
          f_X1_isBehind_47 1 q4.2
def f_X1_isBehind (t : Nat) (x1 : Int32) (x2 : Int32) (σ : HS) : Option (Int32 × HS) :=
    f_X1_isBehind_2 t x1 x2 FU 0 σ
def w_X1_swap : List Cond := Cond.code yX1_swap cX1_swap 6 none :: GT
def f_X1_swap_2 (t : Nat) (x1 : Int32) (x2 : Int32) : Nat → Int32 → HS → Option HS
  | 0, _, _ => none
  | n + 1, x3, σ =>
    if 4 ≤ x3 then
      rk (σ.2.2 t 1) 14 fun a1 =>
      ck x1 (ln a1) (
      rk (σ.2.2 t 1) 14 fun a2 =>
      rk (σ.2.2 t 1) 14 fun a3 =>
      ck x2 (ln a3) (
      ck x1 (ln a2) (
      rk ((sI σ a2 x1.toNatClampNeg (σ.1 a3 x2.toNatClampNeg)).2.2 t 1) 14 fun a4 =>
      ck x2 (ln a4) (
      some (sI (sI σ a2 x1.toNatClampNeg (σ.1 a3 x2.toNatClampNeg)) a4 x2.toNatClampNeg (σ.1 a1 x1.toNatClampNeg))))))
    else
      (f_X1_weight t x1 x3 σ).bind fun q5 =>
      rk (q5.2.2.2 t 0) 15 fun a6 =>
      (f_X1_weight t x2 x3 q5.2).bind fun q7 =>
      ck ((x1 * 4) + x3) (ln a6) (
      rk ((sJ q7.2 a6 ((x1 * 4) + x3).toNatClampNeg q7.1).2.2 t 0) 15 fun a8 =>
      ck ((x2 * 4) + x3) (ln a8) (
      (f_X1_swap_2 t x1 x2 n) (x3 + 1) (sJ (sJ q7.2 a6 ((x1 * 4) + x3).toNatClampNeg q7.1) a8 ((x2 * 4) + x3).toNatClampNeg q5.1)))
def f_X1_swap (t : Nat) (x1 : Int32) (x2 : Int32) (σ : HS) : Option HS :=
    f_X1_swap_2 t x1 x2 FU 0 σ
def w_X1_sort : List Cond := Cond.code yX1_sort cX1_sort 3 none :: GT
def f_X1_sort_41 (r2 : Int32 → HS → Option HS) (t : Nat) (x1 : Int32) (σ : HS) : Option HS :=
    r2 (x1 + 1) σ
def f_X1_sort_12 (t : Nat) (x1 : Int32) (r2 : Int32 → HS → Option HS) : Nat → Int32 → HS → Option HS
  | 0, _, _ => none
  | n + 1, x2, σ =>
    if x2 ≤ 0 then
      f_X1_sort_41 r2 t x1 σ
    else
      (f_X1_isBehind t (x2 - 1) x2 σ).bind fun q1 =>
      if q1.1 = 0 then
        f_X1_sort_41 r2 t x1 q1.2
      else
        (f_X1_swap t (x2 - 1) x2 q1.2).bind fun q2 =>
        (f_X1_sort_12 t x1 r2 n) (x2 + (-1)) q2
def f_X1_sort_2 (t : Nat) : Nat → Int32 → HS → Option HS
  | 0, _, _ => none
  | n + 1, x1, σ =>
    if (σ.1 t 5) ≤ x1 then
      some σ
    else
      f_X1_sort_12 t x1 (f_X1_sort_2 t n) FU x1 σ
def f_X1_sort (t : Nat) (σ : HS) : Option HS :=
    f_X1_sort_2 t FU 1 σ
def w_X1_keeps : List Cond := Cond.code yX1_keeps cX1_keeps 3 (some .boolean) :: GT
def f_X1_keeps_2 (t : Nat) (x1 : Nat) : Nat → Int32 → HS → Option (Int32 × HS)
  | 0, _, _ => none
  | n + 1, x2, σ =>
    if (σ.1 t 5) ≤ x2 then
      some (1, σ)
    else
      (f_X1_product t x2 x1 σ).bind fun q1 =>
      if 0 ≤ q1.1 then
        (f_X1_keeps_2 t x1 n) (x2 + 1) q1.2
      else
        some (0, q1.2)
def f_X1_keeps (t : Nat) (x1 : Nat) (σ : HS) : Option (Int32 × HS) :=
    f_X1_keeps_2 t x1 FU 0 σ
def w_X1_impliesWith : List Cond := Cond.code yX1_impliesWith cX1_impliesWith 16 (some .boolean) :: GT
def f_X1_impliesWith_155 (s0 : Int32) (σ : HS) : Option (Int32 × HS) :=
    zr s0 σ
def f_X1_impliesWith_150 (σ : HS) : Option (Int32 × HS) :=
    f_X1_impliesWith_155 1 σ
def f_X1_impliesWith_124 (r14 : Int64 → Int64 → Int64 → Int64 → Int32 → HS → Option (Int32 × HS)) (t : Nat) (x1 : Nat) (x2 : Nat) (x3 : Int64) (x5 : Int64) (x7 : Int64) (x9 : Int64) (x11 : Int32) (σ : HS) : Option (Int32 × HS) :=
    r14 x3 x5 x7 x9 (x11 + 1) σ
def f_X1_impliesWith_91 (r14 : Int64 → Int64 → Int64 → Int64 → Int32 → HS → Option (Int32 × HS)) (t : Nat) (x1 : Nat) (x2 : Nat) (x3 : Int64) (x5 : Int64) (x7 : Int64) (x9 : Int64) (x11 : Int32) (x12 : Int64) (x14 : Int64) (σ : HS) : Option (Int32 × HS) :=
    if 0 ≤ x12 then
      f_X1_impliesWith_124 r14 t x1 x2 x3 x5 x7 x9 x11 σ
    else
      if ((-x14) * x9) ≤ (x7 * (-x12)) then
        f_X1_impliesWith_124 r14 t x1 x2 x3 x5 x7 x9 x11 σ
      else
        f_X1_impliesWith_124 r14 t x1 x2 x3 x5 (-x14) (-x12) x11 σ
def f_X1_impliesWith_84 (r14 : Int64 → Int64 → Int64 → Int64 → Int32 → HS → Option (Int32 × HS)) (t : Nat) (x1 : Nat) (x2 : Nat) (x7 : Int64) (x9 : Int64) (x11 : Int32) (x12 : Int64) (x14 : Int64) (σ : HS) : Option (Int32 × HS) :=
    f_X1_impliesWith_91 r14 t x1 x2 x14 x12 x7 x9 x11 x12 x14 σ
def f_X1_impliesWith_57 (r14 : Int64 → Int64 → Int64 → Int64 → Int32 → HS → Option (Int32 × HS)) (t : Nat) (x1 : Nat) (x2 : Nat) (x3 : Int64) (x5 : Int64) (x7 : Int64) (x9 : Int64) (x11 : Int32) (x12 : Int64) (x14 : Int64) (σ : HS) : Option (Int32 × HS) :=
    if x12 ≤ 0 then
      f_X1_impliesWith_91 r14 t x1 x2 x3 x5 x7 x9 x11 x12 x14 σ
    else
      if x5 = 0 then
        f_X1_impliesWith_84 r14 t x1 x2 x7 x9 x11 x12 x14 σ
      else
        if (x3 * x12) ≤ (x14 * x5) then
          f_X1_impliesWith_91 r14 t x1 x2 x3 x5 x7 x9 x11 x12 x14 σ
        else
          f_X1_impliesWith_84 r14 t x1 x2 x7 x9 x11 x12 x14 σ
def f_X1_impliesWith_14 (t : Nat) (x1 : Nat) (x2 : Nat) : Nat → Int64 → Int64 → Int64 → Int64 → Int32 → HS → Option (Int32 × HS)
  | 0, _, _, _, _, _, _ => none
  | n + 1, x3, x5, x7, x9, x11, σ =>
    if (σ.1 t 5) ≤ x11 then
      if x5 = 0 then
        f_X1_impliesWith_150 σ
      else
        if (x3 * x9) < (x7 * x5) then
          f_X1_impliesWith_155 0 σ
        else
          f_X1_impliesWith_150 σ
    else
      (f_X1_product t x11 x1 σ).bind fun q1 =>
      (f_X1_product t x11 x2 q1.2).bind fun q2 =>
      if q1.1 < 0 then
        f_X1_impliesWith_57 (f_X1_impliesWith_14 t x1 x2 n) t x1 x2 x3 x5 x7 x9 x11 q1.1 q2.1 q2.2
      else
        if 0 ≤ q2.1 then
          f_X1_impliesWith_57 (f_X1_impliesWith_14 t x1 x2 n) t x1 x2 x3 x5 x7 x9 x11 q1.1 q2.1 q2.2
        else
          some (0, q2.2)
def f_X1_impliesWith (t : Nat) (x1 : Nat) (x2 : Nat) (σ : HS) : Option (Int32 × HS) :=
    f_X1_impliesWith_14 t x1 x2 FU 0 0 0 1 0 σ
def w_X2_prepare : List Cond := Cond.code yX2_prepare cX2_prepare 5 none :: GT
def f_X2_prepare_3 (t : Nat) (x1 : Nat) (x2 : Int32) (x3 : Int32) : Nat → Int32 → HS → Option HS
  | 0, _, _ => none
  | n + 1, x4, σ =>
    if 8 ≤ x4 then
      zc x3 (
      rk ((sI (sI (sI σ t 3 x2) t 4 x3) t 5 (-1)).2.2 t 0) 10 fun a1 =>
      rk ((sI (sI (sI σ t 3 x2) t 4 x3) t 5 (-1)).2.2 a1 3) 17 fun a2 =>
      ck 0 (ln a2) (rk ((sI (sI (sI σ t 3 x2) t 4 x3) t 5 (-1)).2.2 a2 (0 : Int32).toNatClampNeg) 1 fun a3 =>
      rk ((sI (sI (sI σ t 3 x2) t 4 x3) t 5 (-1)).2.2 t 0) 10 fun a4 =>
      rk ((sI (sI (sI σ t 3 x2) t 4 x3) t 5 (-1)).2.2 a4 1) 1 fun a5 =>
      (f_X1_become a3 a5 (sI (sI (sI σ t 3 x2) t 4 x3) t 5 (-1))).bind fun q6 =>
      some q6))
    else
      rk (σ.2.2 t 2) 14 fun a7 =>
      (f_X0_sayingsOf x1 (x2 &&& ((1 : Int32) <<< (x4 &&& 31))) σ).bind fun q8 =>
      ck x4 (ln a7) (
      (f_X2_prepare_3 t x1 x2 x3 n) (x4 + 1) (sI q8.2 a7 x4.toNatClampNeg q8.1))
def f_X2_prepare (t : Nat) (x1 : Nat) (x2 : Int32) (x3 : Int32) (σ : HS) : Option HS :=
    f_X2_prepare_3 t x1 x2 x3 FU 0 σ
def w_X4_fillGoods : List Cond := Cond.code yX4_fillGoods cX4_fillGoods 4 none :: GT
def f_X4_fillGoods_2 (t : Nat) (x1 : Nat) (x2 : Int32) : Nat → Int32 → HS → Option HS
  | 0, _, _ => none
  | n + 1, x3, σ =>
    if 8 ≤ x3 then
      some σ
    else
      rk (σ.2.2 t 5) 15 fun a1 =>
      rk (σ.2.2 t 0) 9 fun a2 =>
      rk (σ.2.2 a2 1) 18 fun a3 =>
      ck x3 (ln a3) (rk (σ.2.2 a3 x3.toNatClampNeg) 14 fun a4 =>
      (f_X1_product x1 x2 a4 σ).bind fun q5 =>
      ck x3 (ln a1) (
      (f_X4_fillGoods_2 t x1 x2 n) (x3 + 1) (sJ q5.2 a1 x3.toNatClampNeg q5.1)))
def f_X4_fillGoods (t : Nat) (x1 : Nat) (x2 : Int32) (σ : HS) : Option HS :=
    f_X4_fillGoods_2 t x1 x2 FU 0 σ
def w_X9_greatestOf : List Cond := Cond.code yX9_greatestOf cX9_greatestOf 6 (some .int) :: GT
def f_X9_greatestOf_62 (r9 : Int32 → Int64 → Int32 → HS → Option (Int32 × HS)) (x0 : Int32) (x1 : Nat) (x2 : Int32) (x3 : Int64) (x5 : Int32) (σ : HS) : Option (Int32 × HS) :=
    r9 x2 x3 (x5 + 1) σ
def f_X9_greatestOf_56 (r9 : Int32 → Int64 → Int32 → HS → Option (Int32 × HS)) (x0 : Int32) (x1 : Nat) (x5 : Int32) (s0 : Int32) (σ : HS) : Option (Int32 × HS) :=
    ck x5 (ln x1) (
    f_X9_greatestOf_62 r9 x0 x1 s0 (σ.2.1 x1 x5.toNatClampNeg) x5 σ)
def f_X9_greatestOf_9 (x0 : Int32) (x1 : Nat) : Nat → Int32 → Int64 → Int32 → HS → Option (Int32 × HS)
  | 0, _, _, _, _ => none
  | n + 1, x2, x3, x5, σ =>
    if 8 ≤ x5 then
      some (x2, σ)
    else
      if (x0 &&& ((1 : Int32) <<< (x5 &&& 31))) = 0 then
        f_X9_greatestOf_62 (f_X9_greatestOf_9 x0 x1 n) x0 x1 x2 x3 x5 σ
      else
        ck x5 (ln x1) (
        if (σ.2.1 x1 x5.toNatClampNeg) < x3 then
          f_X9_greatestOf_62 (f_X9_greatestOf_9 x0 x1 n) x0 x1 x2 x3 x5 σ
        else
          ck x5 (ln x1) (
          if (σ.2.1 x1 x5.toNatClampNeg) ≤ x3 then
            f_X9_greatestOf_56 (f_X9_greatestOf_9 x0 x1 n) x0 x1 x5 (x2 ||| ((1 : Int32) <<< (x5 &&& 31))) σ
          else
            f_X9_greatestOf_56 (f_X9_greatestOf_9 x0 x1 n) x0 x1 x5 ((1 : Int32) <<< (x5 &&& 31)) σ))
def f_X9_greatestOf (x0 : Int32) (x1 : Nat) (σ : HS) : Option (Int32 × HS) :=
    f_X9_greatestOf_9 x0 x1 FU 0 (-1) 0 σ
def w_X4_bestByCorner : List Cond := Cond.code yX4_bestByCorner cX4_bestByCorner 3 (some .int) :: GT
def f_X4_bestByCorner (t : Nat) (x1 : Nat) (x2 : Int32) (σ : HS) : Option (Int32 × HS) :=
    (f_X4_fillGoods t x1 x2 σ).bind fun q1 =>
    rk (q1.2.2 t 0) 9 fun a2 =>
    rk (q1.2.2 t 5) 15 fun a3 =>
    (f_X9_greatestOf (q1.1 a2 4) a3 q1).bind fun q4 =>
    some (q4.1, q4.2)
def w_X4_surelyBest : List Cond := Cond.code yX4_surelyBest cX4_surelyBest 4 (some .int) :: GT
def f_X4_surelyBest_37 (x2 : Int32) (σ : HS) : Option (Int32 × HS) :=
    some (x2, σ)
def f_X4_surelyBest_10 (t : Nat) (x1 : Nat) : Nat → Int32 → Int32 → HS → Option (Int32 × HS)
  | 0, _, _, _ => none
  | n + 1, x2, x3, σ =>
    if (σ.1 x1 5) ≤ x3 then
      f_X4_surelyBest_37 x2 σ
    else
      if x2 = 0 then
        f_X4_surelyBest_37 x2 σ
      else
        (f_X4_bestByCorner t x1 x3 σ).bind fun q1 =>
        (f_X4_surelyBest_10 t x1 n) (x2 &&& q1.1) (x3 + 1) q1.2
def f_X4_surelyBest (t : Nat) (x1 : Nat) (σ : HS) : Option (Int32 × HS) :=
    rk (σ.2.2 t 0) 9 fun a1 =>
    f_X4_surelyBest_10 t x1 FU (σ.1 a1 4) 0 σ
def w_X2_settle : List Cond := Cond.code yX2_settle cX2_settle 4 none :: GT
def f_X2_settle_91 (σ : HS) : Option HS :=
    some σ
def f_X2_settle_86 (t : Nat) (x2 : Int32) (σ : HS) : Option HS :=
    f_X2_settle_91 (sI σ t 5 x2)
def f_X2_settle_50 (t : Nat) (x2 : Int32) (s0 : Int32) (s1 : Int32) (σ : HS) : Option HS :=
    if 0 < (s1 - s0) then
      f_X2_settle_86 t x2 σ
    else
      if (s1 - s0) = 0 then
        if (σ.1 t 4) = 0 then
          if (σ.1 t 5) ≤ x2 then
            f_X2_settle_91 σ
          else
            f_X2_settle_86 t x2 σ
        else
          if x2 ≤ (σ.1 t 5) then
            f_X2_settle_91 σ
          else
            f_X2_settle_86 t x2 σ
      else
        f_X2_settle_91 σ
def f_X2_settle_27 (t : Nat) (x2 : Int32) (σ : HS) : Option HS :=
    (f_J6_bitCount_0f7a4 x2 σ).bind fun q1 =>
    if (q1.2.1 t 5) = (-1) then
      f_X2_settle_50 t x2 (-1) q1.1 q1.2
    else
      (f_J6_bitCount_0f7a4 (q1.2.1 t 5) q1.2).bind fun q2 =>
      f_X2_settle_50 t x2 q2.1 q1.1 q2.2
def f_X2_settle (t : Nat) (x1 : Int32) (x2 : Int32) (σ : HS) : Option HS :=
    if (σ.1 t 4) = 0 then
      f_X2_settle_27 t x2 σ
    else
      rk (σ.2.2 t 1) 4 fun a1 =>
      rk (σ.2.2 t 0) 10 fun a2 =>
      rk (σ.2.2 a2 3) 17 fun a3 =>
      ck x1 (ln a3) (rk (σ.2.2 a3 x1.toNatClampNeg) 1 fun a4 =>
      (f_X4_surelyBest a1 a4 σ).bind fun q5 =>
      if q5.1 = 0 then
        some q5.2
      else
        f_X2_settle_27 t x2 q5.2)
def w_X2_hear : List Cond := Cond.code yX2_hear cX2_hear 5 (some .int) :: GT
def f_X2_hear_65 (r5 : Int32 → Int32 → HS → Option (Int32 × HS)) (t : Nat) (x1 : Int32) (x3 : Int32) (x4 : Int32) (σ : HS) : Option (Int32 × HS) :=
    r5 x3 (x4 + 1) σ
def f_X2_hear_5 (t : Nat) (x1 : Int32) : Nat → Int32 → Int32 → HS → Option (Int32 × HS)
  | 0, _, _, _ => none
  | n + 1, x3, x4, σ =>
    if 12 ≤ x4 then
      some (x3, σ)
    else
      if (x1 &&& ((1 : Int32) <<< (x4 &&& 31))) = 0 then
        f_X2_hear_65 (f_X2_hear_5 t x1 n) t x1 x3 x4 σ
      else
        if 13 ≤ (x3 + 1) then
          f_X2_hear_65 (f_X2_hear_5 t x1 n) t x1 x3 x4 σ
        else
          rk (σ.2.2 t 0) 10 fun a1 =>
          rk (σ.2.2 a1 3) 17 fun a2 =>
          ck (x3 + 1) (ln a2) (rk (σ.2.2 a2 (x3 + 1).toNatClampNeg) 1 fun a3 =>
          rk (σ.2.2 t 0) 10 fun a4 =>
          rk (σ.2.2 a4 3) 17 fun a5 =>
          ck x3 (ln a5) (rk (σ.2.2 a5 x3.toNatClampNeg) 1 fun a6 =>
          rk (σ.2.2 t 0) 10 fun a7 =>
          rk (σ.2.2 a7 0) 18 fun a8 =>
          ck x4 (ln a8) (rk (σ.2.2 a8 x4.toNatClampNeg) 14 fun a9 =>
          (f_X1_becomeCut a3 a6 a9 σ).bind fun q10 =>
          f_X2_hear_65 (f_X2_hear_5 t x1 n) t x1 (x3 + 1) x4 q10)))
def f_X2_hear (t : Nat) (x1 : Int32) (x2 : Int32) (σ : HS) : Option (Int32 × HS) :=
    f_X2_hear_5 t x1 FU x2 0 σ
def w_X2_ask : List Cond := Cond.code yX2_ask cX2_ask 8 (some .boolean) :: GT
def f_X2_ask_136 (rc : Nat → Int32 → Int32 → Int32 → HS → Option (Int32 × HS)) (x7 : Int32) (σ : HS) : Option (Int32 × HS) :=
    zr x7 σ
def f_X2_ask_113 (rc : Nat → Int32 → Int32 → Int32 → HS → Option (Int32 × HS)) (t : Nat) (x1 : Int32) (x2 : Int32) (x3 : Int32) (x6 : Int32) (s0 : Int32) (σ : HS) : Option (Int32 × HS) :=
    if s0 = 0 then
      if x6 = x2 then
        f_X2_ask_136 rc s0 σ
      else
        (rc t (x1 - 1) x2 x3 σ).bind fun q1 =>
        f_X2_ask_136 rc s0 q1.2
    else
      f_X2_ask_136 rc s0 σ
def f_X2_ask_112 (rc : Nat → Int32 → Int32 → Int32 → HS → Option (Int32 × HS)) (t : Nat) (x1 : Int32) (x2 : Int32) (x3 : Int32) (x6 : Int32) (σ : HS) : Option (Int32 × HS) :=
    f_X2_ask_113 rc t x1 x2 x3 x6 0 σ
def f_X2_ask_41 (rc : Nat → Int32 → Int32 → Int32 → HS → Option (Int32 × HS)) (t : Nat) (x1 : Int32) (x2 : Int32) (x3 : Int32) (σ : HS) : Option (Int32 × HS) :=
    if 0 ≤ x1 then
      rk (σ.2.2 t 2) 14 fun a1 =>
      ck x1 (ln a1) (
      (f_X2_hear t (σ.1 a1 x1.toNatClampNeg) x2 σ).bind fun q2 =>
      rk (q2.2.2.2 t 0) 10 fun a3 =>
      rk (q2.2.2.2 a3 3) 17 fun a4 =>
      ck q2.1 (ln a4) (rk (q2.2.2.2 a4 q2.1.toNatClampNeg) 1 fun a5 =>
      if (q2.2.1 a5 5) ≤ 0 then
        f_X2_ask_112 rc t x1 x2 x3 q2.1 q2.2
      else
        (rc t (x1 - 1) q2.1 (x3 ||| ((σ.1 t 3) &&& ((1 : Int32) <<< (x1 &&& 31)))) q2.2).bind fun q6 =>
        if q6.1 = 0 then
          f_X2_ask_112 rc t x1 x2 x3 q2.1 q6.2
        else
          f_X2_ask_113 rc t x1 x2 x3 q2.1 1 q6.2))
    else
      (f_X2_settle t x2 x3 σ).bind fun q7 =>
      some (1, q7)
def f_X2_ask_0 (rc : Nat → Int32 → Int32 → Int32 → HS → Option (Int32 × HS)) (t : Nat) (x1 : Int32) (x2 : Int32) (x3 : Int32) (σ : HS) : Option (Int32 × HS) :=
    if (σ.1 t 5) = (-1) then
      f_X2_ask_41 rc t x1 x2 x3 σ
    else
      (f_J6_bitCount_0f7a4 (x3 ||| ((σ.1 t 3) &&& (((1 : Int32) <<< ((x1 + 1) &&& 31)) - 1))) σ).bind fun q1 =>
      (f_J6_bitCount_0f7a4 (q1.2.1 t 5) q1.2).bind fun q2 =>
      if q2.1 ≤ q1.1 then
        f_X2_ask_41 rc t x1 x2 x3 q2.2
      else
        some (0, q2.2)
def f_X2_ask : Nat → Nat → Int32 → Int32 → Int32 → HS → Option (Int32 × HS)
  | 0, _, _, _, _, _ => none
  | d + 1, t, x1, x2, x3, σ => f_X2_ask_0 (f_X2_ask d) t x1 x2 x3 σ
def w_X2_mostThatAgree : List Cond := Cond.code yX2_mostThatAgree cX2_mostThatAgree 2 (some .int) :: GT
def f_X2_mostThatAgree (t : Nat) (x1 : Nat) (σ : HS) : Option (Int32 × HS) :=
    (f_X2_prepare t x1 255 0 σ).bind fun q1 =>
    (f_X2_ask DEP t 7 0 0 q1).bind fun q2 =>
    some (q2.2.1 t 5, q2.2)
def w_X2_fewestThatYield : List Cond := Cond.code yX2_fewestThatYield cX2_fewestThatYield 3 (some .int) :: GT
def f_X2_fewestThatYield_36 (s0 : Int32) (σ : HS) : Option (Int32 × HS) :=
    some (s0, σ)
def f_X2_fewestThatYield (t : Nat) (x1 : Nat) (x2 : Int32) (σ : HS) : Option (Int32 × HS) :=
    (f_X2_prepare t x1 x2 1 σ).bind fun q1 =>
    (f_X2_ask DEP t 7 0 0 q1).bind fun q2 =>
    if (q2.2.1 t 5) = (-1) then
      f_X2_fewestThatYield_36 (-1) q2.2
    else
      f_X2_fewestThatYield_36 (x2 &&& ((q2.2.1 t 5) ^^^ (-1))) q2.2
def w_X3_become : List Cond := Cond.code yX3_become cX3_become 5 none :: GT
def f_X3_become (t : Nat) (x1 : Int64) (x3 : Int64) (σ : HS) : Option HS :=
    some (sJ (sJ σ t 0 x1) t 1 x3)
def w_X3_isUnder : List Cond := Cond.code yX3_isUnder cX3_isUnder 5 (some .boolean) :: GT
def f_X3_isUnder_21 (s0 : Int32) (σ : HS) : Option (Int32 × HS) :=
    zr s0 σ
def f_X3_isUnder (t : Nat) (x1 : Int64) (x3 : Int64) (σ : HS) : Option (Int32 × HS) :=
    if (x1 * (σ.2.1 t 1)) ≤ ((σ.2.1 t 0) * x3) then
      f_X3_isUnder_21 0 σ
    else
      f_X3_isUnder_21 1 σ
def w_X3_part : List Cond := Cond.code yX3_part cX3_part 2 (some .long) :: GT
def f_X3_part_15 (s0 : Int64) (σ : HS) : Option (Int64 × HS) :=
    some (s0, σ)
def f_X3_part (t : Nat) (x1 : Int32) (σ : HS) : Option (Int64 × HS) :=
    if x1 = 0 then
      f_X3_part_15 (σ.2.1 t 0) σ
    else
      f_X3_part_15 (σ.2.1 t 1) σ
def w_X3_reduce : List Cond := Cond.code yX3_reduce cX3_reduce 3 none :: GT
def f_X3_reduce_38 (σ : HS) : Option HS :=
    some σ
def f_X3_reduce (t : Nat) (σ : HS) : Option HS :=
    (f_X3_commonDivisor (σ.2.1 t 0) (σ.2.1 t 1) σ).bind fun q1 =>
    if q1.1 ≤ 1 then
      f_X3_reduce_38 q1.2
    else
      nz (q1.1 = 0) (
      nz (q1.1 = 0) (
      f_X3_reduce_38 (sJ (sJ q1.2 t 0 ((q1.2.2.1 t 0) / q1.1)) t 1 (((sJ q1.2 t 0 ((q1.2.2.1 t 0) / q1.1)).2.1 t 1) / q1.1))))
def w_X9_isIn : List Cond := Cond.code yX9_isIn cX9_isIn 2 (some .boolean) :: GT
def f_X9_isIn_26 (s0 : Int32) (σ : HS) : Option (Int32 × HS) :=
    zr s0 σ
def f_X9_isIn_25 (σ : HS) : Option (Int32 × HS) :=
    f_X9_isIn_26 0 σ
def f_X9_isIn (t : Nat) (x1 : Int32) (σ : HS) : Option (Int32 × HS) :=
    if x1 < 0 then
      f_X9_isIn_25 σ
    else
      if 8 ≤ x1 then
        f_X9_isIn_25 σ
      else
        if ((σ.1 t 4) &&& ((1 : Int32) <<< (x1 &&& 31))) = 0 then
          f_X9_isIn_25 σ
        else
          f_X9_isIn_26 1 σ
def w_X4_compare : List Cond := Cond.code yX4_compare cX4_compare 8 (some .int) :: GT
def f_X4_compare_34 (σ : HS) : Option (Int32 × HS) :=
    some ((-1), σ)
def f_X4_compare_148 (s0 : Int32) (σ : HS) : Option (Int32 × HS) :=
    some (s0, σ)
def f_X4_compare_121 (r58 : Int32 → Int32 → Int32 → HS → Option (Int32 × HS)) (t : Nat) (x1 : Nat) (x4 : Int32) (x6 : Int32) (s0 : Int32) (σ : HS) : Option (Int32 × HS) :=
    r58 x4 s0 (x6 + 1) σ
def f_X4_compare_116 (r58 : Int32 → Int32 → Int32 → HS → Option (Int32 × HS)) (t : Nat) (x1 : Nat) (x4 : Int32) (x6 : Int32) (σ : HS) : Option (Int32 × HS) :=
    f_X4_compare_121 r58 t x1 x4 x6 1 σ
def f_X4_compare_104 (r58 : Int32 → Int32 → Int32 → HS → Option (Int32 × HS)) (t : Nat) (x1 : Nat) (x5 : Int32) (x6 : Int32) (x7 : Int32) (s0 : Int32) (σ : HS) : Option (Int32 × HS) :=
    if x5 = 0 then
      if x7 = 0 then
        f_X4_compare_121 r58 t x1 s0 x6 0 σ
      else
        f_X4_compare_116 r58 t x1 s0 x6 σ
    else
      f_X4_compare_116 r58 t x1 s0 x6 σ
def f_X4_compare_103 (r58 : Int32 → Int32 → Int32 → HS → Option (Int32 × HS)) (t : Nat) (x1 : Nat) (x5 : Int32) (x6 : Int32) (x7 : Int32) (σ : HS) : Option (Int32 × HS) :=
    f_X4_compare_104 r58 t x1 x5 x6 x7 0 σ
def f_X4_compare_87 (r58 : Int32 → Int32 → Int32 → HS → Option (Int32 × HS)) (t : Nat) (x1 : Nat) (x4 : Int32) (x5 : Int32) (x6 : Int32) (s0 : Int32) (σ : HS) : Option (Int32 × HS) :=
    if x4 = 0 then
      f_X4_compare_103 r58 t x1 x5 x6 s0 σ
    else
      if s0 = 0 then
        f_X4_compare_103 r58 t x1 x5 x6 s0 σ
      else
        f_X4_compare_104 r58 t x1 x5 x6 s0 1 σ
def f_X4_compare_58 (t : Nat) (x1 : Nat) : Nat → Int32 → Int32 → Int32 → HS → Option (Int32 × HS)
  | 0, _, _, _, _ => none
  | n + 1, x4, x5, x6, σ =>
    if (σ.1 x1 5) ≤ x6 then
      if x4 = 0 then
        if x5 = 0 then
          f_X4_compare_148 0 σ
        else
          f_X4_compare_148 1 σ
      else
        f_X4_compare_148 2 σ
    else
      rk (σ.2.2 t 3) 14 fun a1 =>
      (f_X1_product x1 x6 a1 σ).bind fun q2 =>
      if q2.1 < 0 then
        f_X4_compare_87 (f_X4_compare_58 t x1 n) t x1 x4 x5 x6 0 q2.2
      else
        f_X4_compare_87 (f_X4_compare_58 t x1 n) t x1 x4 x5 x6 1 q2.2
def f_X4_compare (t : Nat) (x1 : Nat) (x2 : Int32) (x3 : Int32) (σ : HS) : Option (Int32 × HS) :=
    rk (σ.2.2 t 0) 9 fun a1 =>
    (f_X9_isIn a1 x2 σ).bind fun q2 =>
    if q2.1 = 0 then
      f_X4_compare_34 q2.2
    else
      rk (q2.2.2.2 t 0) 9 fun a3 =>
      (f_X9_isIn a3 x3 q2.2).bind fun q4 =>
      if q4.1 = 0 then
        f_X4_compare_34 q4.2
      else
        if x2 = x3 then
          f_X4_compare_34 q4.2
        else
          if (q4.2.1 x1 5) = 0 then
            f_X4_compare_34 q4.2
          else
            rk (q4.2.2.2 t 0) 9 fun a5 =>
            rk (q4.2.2.2 t 3) 14 fun a6 =>
            (f_X9_fillLead a5 x2 x3 a6 q4.2).bind fun q7 =>
            f_X4_compare_58 t x1 FU 1 0 0 q7
def w_X4_raise : List Cond := Cond.code yX4_raise cX4_raise 8 none :: GT
def f_X4_raise_53 (σ : HS) : Option HS :=
    some σ
def f_X4_raise_45 (x1 : Nat) (x4 : Int64) (x6 : Int64) (σ : HS) : Option HS :=
    (f_X3_become x1 x4 x6 σ).bind fun q1 =>
    f_X4_raise_53 q1
def f_X4_raise (t : Nat) (x1 : Nat) (x2 : Int32) (x3 : Int32) (σ : HS) : Option HS :=
    rk (σ.2.2 t 1) 10 fun a1 =>
    rk (σ.2.2 a1 2) 1 fun a2 =>
    rk (σ.2.2 t 3) 14 fun a3 =>
    (f_X1_product a2 x2 a3 σ).bind fun q4 =>
    rk (q4.2.2.2 t 1) 10 fun a5 =>
    rk (q4.2.2.2 a5 2) 1 fun a6 =>
    (f_X1_sum a6 x2 q4.2).bind fun q7 =>
    if x3 = 0 then
      (f_X3_isUnder x1 q4.1 q7.1 q7.2).bind fun q8 =>
      if q8.1 = 0 then
        f_X4_raise_53 q8.2
      else
        f_X4_raise_45 x1 q4.1 q7.1 q8.2
    else
      f_X4_raise_45 x1 q4.1 q7.1 q7.2
def w_X4_fillGap : List Cond := Cond.code yX4_fillGap cX4_fillGap 5 none :: GT
def f_X4_fillGap_45 (r16 : Int32 → HS → Option HS) (t : Nat) (x3 : Nat) (x4 : Int32) (s0 : Int32) (s1 : Int32) (s2 : Nat) (s3 : Nat) (σ : HS) : Option HS :=
    (f_X4_raise s3 s2 s1 s0 σ).bind fun q1 =>
    r16 (x4 + 1) q1
def f_X4_fillGap_16 (t : Nat) (x3 : Nat) : Nat → Int32 → HS → Option HS
  | 0, _, _ => none
  | n + 1, x4, σ =>
    rk (σ.2.2 t 1) 10 fun a1 =>
    rk (σ.2.2 a1 2) 1 fun a2 =>
    if (σ.1 a2 5) ≤ x4 then
      some σ
    else
      if x4 = 0 then
        f_X4_fillGap_45 (f_X4_fillGap_16 t x3 n) t x3 x4 1 x4 x3 t σ
      else
        f_X4_fillGap_45 (f_X4_fillGap_16 t x3 n) t x3 x4 0 x4 x3 t σ
def f_X4_fillGap (t : Nat) (x1 : Int32) (x2 : Int32) (x3 : Nat) (σ : HS) : Option HS :=
    rk (σ.2.2 t 0) 9 fun a1 =>
    rk (σ.2.2 t 3) 14 fun a2 =>
    (f_X9_fillLead a1 x2 x1 a2 σ).bind fun q3 =>
    f_X4_fillGap_16 t x3 FU 0 q3
def w_X4_fillRegret : List Cond := Cond.code yX4_fillRegret cX4_fillRegret 5 none :: GT
def f_X4_fillRegret_70 (r8 : Int32 → HS → Option HS) (t : Nat) (x1 : Int32) (x2 : Nat) (x3 : Int32) (σ : HS) : Option HS :=
    r8 (x3 + 1) σ
def f_X4_fillRegret_41 (t : Nat) (x1 : Int32) (x2 : Nat) (x3 : Int32) (r8 : Int32 → HS → Option HS) : Nat → Int32 → HS → Option HS
  | 0, _, _ => none
  | n + 1, x4, σ =>
    rk (σ.2.2 t 1) 10 fun a1 =>
    rk (σ.2.2 a1 2) 1 fun a2 =>
    if (σ.1 a2 5) ≤ x4 then
      f_X4_fillRegret_70 r8 t x1 x2 x3 σ
    else
      (f_X4_raise t x2 x4 0 σ).bind fun q3 =>
      (f_X4_fillRegret_41 t x1 x2 x3 r8 n) (x4 + 1) q3
def f_X4_fillRegret_8 (t : Nat) (x1 : Int32) (x2 : Nat) : Nat → Int32 → HS → Option HS
  | 0, _, _ => none
  | n + 1, x3, σ =>
    if 8 ≤ x3 then
      some σ
    else
      rk (σ.2.2 t 0) 9 fun a1 =>
      (f_X9_isIn a1 x3 σ).bind fun q2 =>
      if q2.1 = 0 then
        f_X4_fillRegret_70 (f_X4_fillRegret_8 t x1 x2 n) t x1 x2 x3 q2.2
      else
        rk (q2.2.2.2 t 0) 9 fun a3 =>
        rk (q2.2.2.2 t 3) 14 fun a4 =>
        (f_X9_fillLead a3 x3 x1 a4 q2.2).bind fun q5 =>
        f_X4_fillRegret_41 t x1 x2 x3 (f_X4_fillRegret_8 t x1 x2 n) FU 0 q5
def f_X4_fillRegret (t : Nat) (x1 : Int32) (x2 : Nat) (σ : HS) : Option HS :=
    (f_X3_become x2 0 1 σ).bind fun q1 =>
    f_X4_fillRegret_8 t x1 x2 FU 0 q1
def w_X4_leastRegret : List Cond := Cond.code yX4_leastRegret cX4_leastRegret 8 (some .int) :: GT
def f_X4_leastRegret_65 (r10 : Int32 → Int64 → Int64 → Int32 → HS → Option (Int32 × HS)) (t : Nat) (x1 : Nat) (x2 : Int32) (x3 : Int64) (x5 : Int64) (x7 : Int32) (σ : HS) : Option (Int32 × HS) :=
    r10 x2 x3 x5 (x7 + 1) σ
def f_X4_leastRegret_51 (r10 : Int32 → Int64 → Int64 → Int32 → HS → Option (Int32 × HS)) (t : Nat) (x1 : Nat) (x7 : Int32) (σ : HS) : Option (Int32 × HS) :=
    f_X4_leastRegret_65 r10 t x1 x7 (σ.2.1 x1 0) (σ.2.1 x1 1) x7 σ
def f_X4_leastRegret_10 (t : Nat) (x1 : Nat) : Nat → Int32 → Int64 → Int64 → Int32 → HS → Option (Int32 × HS)
  | 0, _, _, _, _, _ => none
  | n + 1, x2, x3, x5, x7, σ =>
    if 8 ≤ x7 then
      some (x2, σ)
    else
      rk (σ.2.2 t 0) 9 fun a1 =>
      (f_X9_isIn a1 x7 σ).bind fun q2 =>
      if q2.1 = 0 then
        f_X4_leastRegret_65 (f_X4_leastRegret_10 t x1 n) t x1 x2 x3 x5 x7 q2.2
      else
        (f_X4_fillRegret t x7 x1 q2.2).bind fun q3 =>
        if x2 = (-1) then
          f_X4_leastRegret_51 (f_X4_leastRegret_10 t x1 n) t x1 x7 q3
        else
          (f_X3_isUnder x1 x3 x5 q3).bind fun q4 =>
          if q4.1 = 0 then
            f_X4_leastRegret_65 (f_X4_leastRegret_10 t x1 n) t x1 x2 x3 x5 x7 q4.2
          else
            f_X4_leastRegret_51 (f_X4_leastRegret_10 t x1 n) t x1 x7 q4.2
def f_X4_leastRegret (t : Nat) (x1 : Nat) (σ : HS) : Option (Int32 × HS) :=
    f_X4_leastRegret_10 t x1 FU (-1) 0 1 0 σ
def w_X4_whereBest : List Cond := Cond.code yX4_whereBest cX4_whereBest 7 (some (.object "EveryMeasure$Cone")) :: GT
def f_X4_whereBest_111 (r29 : Int32 → Int32 → HS → Option (Nat × HS)) (t : Nat) (x1 : Int32) (x2 : Int32) (x3 : Int32) (x4 : Nat) (x5 : Int32) (x6 : Int32) (σ : HS) : Option (Nat × HS) :=
    r29 x5 (x6 + 1) σ
def f_X4_whereBest_29 (t : Nat) (x1 : Int32) (x2 : Int32) (x3 : Int32) (x4 : Nat) : Nat → Int32 → Int32 → HS → Option (Nat × HS)
  | 0, _, _, _ => none
  | n + 1, x5, x6, σ =>
    if 8 ≤ x6 then
      ck x5 (ln x4) (rk (σ.2.2 x4 x5.toNatClampNeg) 1 fun a1 =>
      some (a1, σ))
    else
      if x6 = x1 then
        f_X4_whereBest_111 (f_X4_whereBest_29 t x1 x2 x3 x4 n) t x1 x2 x3 x4 x5 x6 σ
      else
        rk (σ.2.2 t 0) 9 fun a2 =>
        (f_X9_isIn a2 x6 σ).bind fun q3 =>
        if q3.1 = 0 then
          f_X4_whereBest_111 (f_X4_whereBest_29 t x1 x2 x3 x4 n) t x1 x2 x3 x4 x5 x6 q3.2
        else
          ck x5 (ln x4) (rk (q3.2.2.2 x4 x5.toNatClampNeg) 1 fun a4 =>
          if (q3.2.1 a4 5) ≤ 0 then
            f_X4_whereBest_111 (f_X4_whereBest_29 t x1 x2 x3 x4 n) t x1 x2 x3 x4 x5 x6 q3.2
          else
            rk (q3.2.2.2 t 0) 9 fun a5 =>
            rk (q3.2.2.2 t 3) 14 fun a6 =>
            (f_X9_fillLead a5 x1 x6 a6 q3.2).bind fun q7 =>
            rk (q7.2.2 t 3) 14 fun a8 =>
            ck x2 (ln a8) (
            ck x2 (ln a8) (
            ck (x5 + 1) (ln x4) (rk ((sI q7 a8 x2.toNatClampNeg ((q7.1 a8 x2.toNatClampNeg) + x3)).2.2 x4 (x5 + 1).toNatClampNeg) 1 fun a9 =>
            ck x5 (ln x4) (rk ((sI q7 a8 x2.toNatClampNeg ((q7.1 a8 x2.toNatClampNeg) + x3)).2.2 x4 x5.toNatClampNeg) 1 fun a10 =>
            rk ((sI q7 a8 x2.toNatClampNeg ((q7.1 a8 x2.toNatClampNeg) + x3)).2.2 t 3) 14 fun a11 =>
            (f_X1_becomeCut a9 a10 a11 (sI q7 a8 x2.toNatClampNeg ((q7.1 a8 x2.toNatClampNeg) + x3))).bind fun q12 =>
            f_X4_whereBest_111 (f_X4_whereBest_29 t x1 x2 x3 x4 n) t x1 x2 x3 x4 (x5 + 1) x6 q12)))))
def f_X4_whereBest (t : Nat) (x1 : Int32) (x2 : Int32) (x3 : Int32) (σ : HS) : Option (Nat × HS) :=
    rk (σ.2.2 t 1) 10 fun a1 =>
    rk (σ.2.2 a1 3) 17 fun a2 =>
    ck 0 (ln a2) (rk (σ.2.2 a2 (0 : Int32).toNatClampNeg) 1 fun a3 =>
    rk (σ.2.2 t 1) 10 fun a4 =>
    rk (σ.2.2 a4 2) 1 fun a5 =>
    (f_X1_become a3 a5 σ).bind fun q6 =>
    f_X4_whereBest_29 t x1 x2 x3 a2 FU 0 0 q6)
def w_X4_mayBeBest_ : List Cond := Cond.code yX4_mayBeBest_ cX4_mayBeBest_ 2 (some .boolean) :: GT
def f_X4_mayBeBest__18 (s0 : Int32) (σ : HS) : Option (Int32 × HS) :=
    zr s0 σ
def f_X4_mayBeBest_ (t : Nat) (x1 : Int32) (σ : HS) : Option (Int32 × HS) :=
    (f_X4_whereBest t x1 0 0 σ).bind fun q1 =>
    rk (some q1.1) 1 fun a2 =>
    if (q1.2.1 a2 5) ≤ 0 then
      f_X4_mayBeBest__18 0 q1.2
    else
      f_X4_mayBeBest__18 1 q1.2
def w_X4_mayBeBest : List Cond := Cond.code yX4_mayBeBest cX4_mayBeBest 3 (some .int) :: GT
def f_X4_mayBeBest_80 (r41 : Int32 → Int32 → HS → Option (Int32 × HS)) (t : Nat) (x1 : Int32) (x2 : Int32) (σ : HS) : Option (Int32 × HS) :=
    r41 x1 (x2 + 1) σ
def f_X4_mayBeBest_41 (t : Nat) : Nat → Int32 → Int32 → HS → Option (Int32 × HS)
  | 0, _, _, _ => none
  | n + 1, x1, x2, σ =>
    if 8 ≤ x2 then
      some (x1, σ)
    else
      rk (σ.2.2 t 0) 9 fun a1 =>
      (f_X9_isIn a1 x2 σ).bind fun q2 =>
      if q2.1 = 0 then
        f_X4_mayBeBest_80 (f_X4_mayBeBest_41 t n) t x1 x2 q2.2
      else
        if (x1 &&& ((1 : Int32) <<< (x2 &&& 31))) = 0 then
          (f_X4_mayBeBest_ t x2 q2.2).bind fun q3 =>
          if q3.1 = 0 then
            f_X4_mayBeBest_80 (f_X4_mayBeBest_41 t n) t x1 x2 q3.2
          else
            f_X4_mayBeBest_80 (f_X4_mayBeBest_41 t n) t (x1 ||| ((1 : Int32) <<< (x2 &&& 31))) x2 q3.2
        else
          f_X4_mayBeBest_80 (f_X4_mayBeBest_41 t n) t x1 x2 q2.2
def f_X4_mayBeBest_4 (t : Nat) : Nat → Int32 → Int32 → HS → Option (Int32 × HS)
  | 0, _, _, _ => none
  | n + 1, x1, x2, σ =>
    rk (σ.2.2 t 1) 10 fun a1 =>
    rk (σ.2.2 a1 2) 1 fun a2 =>
    if (σ.1 a2 5) ≤ x2 then
      f_X4_mayBeBest_41 t FU x1 0 σ
    else
      rk (σ.2.2 t 1) 10 fun a3 =>
      rk (σ.2.2 a3 2) 1 fun a4 =>
      (f_X4_bestByCorner t a4 x2 σ).bind fun q5 =>
      (f_X4_mayBeBest_4 t n) (x1 ||| q5.1) (x2 + 1) q5.2
def f_X4_mayBeBest (t : Nat) (σ : HS) : Option (Int32 × HS) :=
    f_X4_mayBeBest_4 t FU 0 0 σ
def w_X4_leadsOf : List Cond := Cond.code yX4_leadsOf cX4_leadsOf 3 (some (.array (.array .int))) :: GT
def f_X4_leadsOf_2 (t : Nat) (x1 : Int32) : Nat → Int32 → HS → Option (Nat × HS)
  | 0, _, _ => none
  | n + 1, x2, σ =>
    if 8 ≤ x2 then
      rk (σ.2.2 t 2) 18 fun a1 =>
      some (a1, σ)
    else
      rk (σ.2.2 t 0) 9 fun a2 =>
      rk (σ.2.2 t 2) 18 fun a3 =>
      ck x2 (ln a3) (rk (σ.2.2 a3 x2.toNatClampNeg) 14 fun a4 =>
      (f_X9_fillLead a2 x1 x2 a4 σ).bind fun q5 =>
      (f_X4_leadsOf_2 t x1 n) (x2 + 1) q5)
def f_X4_leadsOf (t : Nat) (x1 : Int32) (σ : HS) : Option (Nat × HS) :=
    f_X4_leadsOf_2 t x1 FU 0 σ
def w_X4_markBehind : List Cond := Cond.code yX4_markBehind cX4_markBehind 4 none :: GT
def f_X4_markBehind_47 (r2 : Int32 → HS → Option HS) (r10 : Int32 → HS → Option HS) (t : Nat) (x1 : Int32) (x2 : Int32) (x3 : Int32) (σ : HS) : Option HS :=
    r10 (x3 + 1) σ
def f_X4_markBehind_10 (t : Nat) (x1 : Int32) (x2 : Int32) (r2 : Int32 → HS → Option HS) : Nat → Int32 → HS → Option HS
  | 0, _, _ => none
  | n + 1, x3, σ =>
    if 8 ≤ x3 then
      r2 (x2 + 1) σ
    else
      rk (σ.2.2 t 5) 15 fun a1 =>
      ck x2 (ln a1) (
      rk (σ.2.2 t 5) 15 fun a2 =>
      ck x3 (ln a2) (
      if (σ.2.1 a1 x2.toNatClampNeg) < (σ.2.1 a2 x3.toNatClampNeg) then
        f_X4_markBehind_47 r2 (f_X4_markBehind_10 t x1 x2 r2 n) t x1 x2 x3 σ
      else
        rk (σ.2.2 t 7) 14 fun a3 =>
        ck ((x2 * 8) + x3) (ln a3) (
        ck ((x2 * 8) + x3) (ln a3) (
        f_X4_markBehind_47 r2 (f_X4_markBehind_10 t x1 x2 r2 n) t x1 x2 x3 (sI σ a3 ((x2 * 8) + x3).toNatClampNeg ((σ.1 a3 ((x2 * 8) + x3).toNatClampNeg) ||| x1))))))
def f_X4_markBehind_2 (t : Nat) (x1 : Int32) : Nat → Int32 → HS → Option HS
  | 0, _, _ => none
  | n + 1, x2, σ =>
    if 8 ≤ x2 then
      some σ
    else
      f_X4_markBehind_10 t x1 x2 (f_X4_markBehind_2 t x1 n) FU 0 σ
def f_X4_markBehind (t : Nat) (x1 : Int32) (σ : HS) : Option HS :=
    f_X4_markBehind_2 t x1 FU 0 σ
def w_X4_fillBehind : List Cond := Cond.code yX4_fillBehind cX4_fillBehind 4 none :: GT
def f_X4_fillBehind_80 (r26 : Int32 → HS → Option HS) (t : Nat) (x1 : Int32) (σ : HS) : Option HS :=
    r26 (x1 + 1) σ
def f_X4_fillBehind_53 (t : Nat) (x1 : Int32) (x2 : Nat) (r26 : Int32 → HS → Option HS) : Nat → Int32 → HS → Option HS
  | 0, _, _ => none
  | n + 1, x3, σ =>
    if (σ.1 x2 5) ≤ x3 then
      f_X4_fillBehind_80 r26 t x1 σ
    else
      (f_X4_fillGoods t x2 x3 σ).bind fun q1 =>
      (f_X4_markBehind t ((1 : Int32) <<< (x1 &&& 31)) q1).bind fun q2 =>
      (f_X4_fillBehind_53 t x1 x2 r26 n) (x3 + 1) q2
def f_X4_fillBehind_26 (t : Nat) : Nat → Int32 → HS → Option HS
  | 0, _, _ => none
  | n + 1, x1, σ =>
    if 8 ≤ x1 then
      some σ
    else
      rk (σ.2.2 t 0) 9 fun a1 =>
      (f_X9_isIn a1 x1 σ).bind fun q2 =>
      if q2.1 = 0 then
        f_X4_fillBehind_80 (f_X4_fillBehind_26 t n) t x1 q2.2
      else
        (f_X4_whereBest t x1 0 0 q2.2).bind fun q3 =>
        rk (some q3.1) 1 fun a4 =>
        f_X4_fillBehind_53 t x1 a4 (f_X4_fillBehind_26 t n) FU 0 q3.2
def f_X4_fillBehind_2 (t : Nat) : Nat → Int32 → HS → Option HS
  | 0, _, _ => none
  | n + 1, x1, σ =>
    rk (σ.2.2 t 7) 14 fun a1 =>
    if (Int32.ofNat (ln a1)) ≤ x1 then
      f_X4_fillBehind_26 t FU 0 σ
    else
      rk (σ.2.2 t 7) 14 fun a2 =>
      ck x1 (ln a2) (
      (f_X4_fillBehind_2 t n) (x1 + 1) (sI σ a2 x1.toNatClampNeg 0))
def f_X4_fillBehind (t : Nat) (σ : HS) : Option HS :=
    f_X4_fillBehind_2 t FU 0 σ
def w_X4_greaterCount : List Cond := Cond.code yX4_greaterCount cX4_greaterCount 6 (some .int) :: GT
def f_X4_greaterCount_13 (σ : HS) : Option (Int32 × HS) :=
    some ((-1), σ)
def f_X4_greaterCount (t : Nat) (x1 : Int32) (σ : HS) : Option (Int32 × HS) :=
    if x1 < 0 then
      f_X4_greaterCount_13 σ
    else
      rk (σ.2.2 t 7) 14 fun a1 =>
      if x1 < (Int32.ofNat (ln a1)) then
        rk (σ.2.2 t 7) 14 fun a2 =>
        ck (((x1 / 8) * 8) + (x1 - x1 / 8 * 8)) (ln a2) (
        (f_J6_bitCount_0f7a4 (σ.1 a2 (((x1 / 8) * 8) + (x1 - x1 / 8 * 8)).toNatClampNeg) σ).bind fun q3 =>
        rk (q3.2.2.2 t 7) 14 fun a4 =>
        ck (((x1 - x1 / 8 * 8) * 8) + (x1 / 8)) (ln a4) (
        (f_J6_bitCount_0f7a4 (q3.2.1 a4 (((x1 - x1 / 8 * 8) * 8) + (x1 / 8)).toNatClampNeg) q3.2).bind fun q5 =>
        (f_J9_max_7cf53 q3.1 q5.1 q5.2).bind fun q6 =>
        some (q6.1, q6.2)))
      else
        f_X4_greaterCount_13 σ
def w_X4_partsMost : List Cond := Cond.code yX4_partsMost cX4_partsMost 6 (some .int) :: GT
def f_X4_partsMost_88 (r8 : Int32 → Int32 → HS → Option (Int32 × HS)) (r18 : Int32 → Int32 → HS → Option (Int32 × HS)) (t : Nat) (x1 : Int32) (x2 : Int32) (x3 : Int32) (σ : HS) : Option (Int32 × HS) :=
    r18 x1 (x3 + 1) σ
def f_X4_partsMost_85 (r8 : Int32 → Int32 → HS → Option (Int32 × HS)) (r18 : Int32 → Int32 → HS → Option (Int32 × HS)) (t : Nat) (x2 : Int32) (x3 : Int32) (x4 : Int32) (σ : HS) : Option (Int32 × HS) :=
    f_X4_partsMost_88 r8 r18 t x4 x2 x3 σ
def f_X4_partsMost_59 (r8 : Int32 → Int32 → HS → Option (Int32 × HS)) (r18 : Int32 → Int32 → HS → Option (Int32 × HS)) (t : Nat) (x1 : Int32) (x2 : Int32) (x3 : Int32) (x4 : Int32) (s0 : Int32) (σ : HS) : Option (Int32 × HS) :=
    if s0 = 0 then
      f_X4_partsMost_88 r8 r18 t x1 x2 x3 σ
    else
      if x1 = (-1) then
        f_X4_partsMost_85 r8 r18 t x2 x3 x4 σ
      else
        (f_X4_greaterCount t x4 σ).bind fun q1 =>
        (f_X4_greaterCount t x1 q1.2).bind fun q2 =>
        if q2.1 ≤ q1.1 then
          f_X4_partsMost_88 r8 r18 t x1 x2 x3 q2.2
        else
          f_X4_partsMost_85 r8 r18 t x2 x3 x4 q2.2
def f_X4_partsMost_58 (r8 : Int32 → Int32 → HS → Option (Int32 × HS)) (r18 : Int32 → Int32 → HS → Option (Int32 × HS)) (t : Nat) (x1 : Int32) (x2 : Int32) (x3 : Int32) (x4 : Int32) (σ : HS) : Option (Int32 × HS) :=
    f_X4_partsMost_59 r8 r18 t x1 x2 x3 x4 0 σ
def f_X4_partsMost_18 (t : Nat) (x2 : Int32) (r8 : Int32 → Int32 → HS → Option (Int32 × HS)) : Nat → Int32 → Int32 → HS → Option (Int32 × HS)
  | 0, _, _, _ => none
  | n + 1, x1, x3, σ =>
    if 8 ≤ x3 then
      r8 x1 (x2 + 1) σ
    else
      rk (σ.2.2 t 0) 9 fun a1 =>
      (f_X9_isIn a1 x2 σ).bind fun q2 =>
      if q2.1 = 0 then
        f_X4_partsMost_58 r8 (f_X4_partsMost_18 t x2 r8 n) t x1 x2 x3 ((x2 * 8) + x3) q2.2
      else
        rk (q2.2.2.2 t 0) 9 fun a3 =>
        (f_X9_isIn a3 x3 q2.2).bind fun q4 =>
        if q4.1 = 0 then
          f_X4_partsMost_58 r8 (f_X4_partsMost_18 t x2 r8 n) t x1 x2 x3 ((x2 * 8) + x3) q4.2
        else
          f_X4_partsMost_59 r8 (f_X4_partsMost_18 t x2 r8 n) t x1 x2 x3 ((x2 * 8) + x3) 1 q4.2
def f_X4_partsMost_8 (t : Nat) : Nat → Int32 → Int32 → HS → Option (Int32 × HS)
  | 0, _, _, _ => none
  | n + 1, x1, x2, σ =>
    if 8 ≤ x2 then
      some (x1, σ)
    else
      f_X4_partsMost_18 t x2 (f_X4_partsMost_8 t n) FU x1 (x2 + 1) σ
def f_X4_partsMost (t : Nat) (σ : HS) : Option (Int32 × HS) :=
    (f_X4_fillBehind t σ).bind fun q1 =>
    f_X4_partsMost_8 t FU (-1) 0 q1
def w_X4_haveAllCorners : List Cond := Cond.code yX4_haveAllCorners cX4_haveAllCorners 4 (some .boolean) :: GT
def f_X4_haveAllCorners_2 (t : Nat) (x1 : Nat) (x2 : Int32) : Nat → Int32 → HS → Option (Int32 × HS)
  | 0, _, _ => none
  | n + 1, x3, σ =>
    if (σ.1 x1 5) ≤ x3 then
      some (1, σ)
    else
      rk (σ.2.2 t 6) 14 fun a1 =>
      ck x3 (ln a1) (
      if ((σ.1 a1 x3.toNatClampNeg) &&& x2) = 0 then
        some (0, σ)
      else
        (f_X4_haveAllCorners_2 t x1 x2 n) (x3 + 1) σ)
def f_X4_haveAllCorners (t : Nat) (x1 : Nat) (x2 : Int32) (σ : HS) : Option (Int32 × HS) :=
    f_X4_haveAllCorners_2 t x1 x2 FU 0 σ
def w_X4_isBestAhead : List Cond := Cond.code yX4_isBestAhead cX4_isBestAhead 5 (some .boolean) :: GT
def f_X4_isBestAhead_78 (r16 : Int32 → HS → Option (Int32 × HS)) (t : Nat) (x1 : Nat) (x2 : Int32) (x3 : Int32) (x4 : Int32) (σ : HS) : Option (Int32 × HS) :=
    r16 (x4 + 1) σ
def f_X4_isBestAhead_16 (t : Nat) (x1 : Nat) (x2 : Int32) (x3 : Int32) : Nat → Int32 → HS → Option (Int32 × HS)
  | 0, _, _ => none
  | n + 1, x4, σ =>
    if 8 ≤ x4 then
      some (1, σ)
    else
      rk (σ.2.2 t 0) 9 fun a1 =>
      (f_X9_isIn a1 x4 σ).bind fun q2 =>
      if q2.1 = 0 then
        f_X4_isBestAhead_78 (f_X4_isBestAhead_16 t x1 x2 x3 n) t x1 x2 x3 x4 q2.2
      else
        if x4 = x2 then
          f_X4_isBestAhead_78 (f_X4_isBestAhead_16 t x1 x2 x3 n) t x1 x2 x3 x4 q2.2
        else
          if x4 = x3 then
            f_X4_isBestAhead_78 (f_X4_isBestAhead_16 t x1 x2 x3 n) t x1 x2 x3 x4 q2.2
          else
            rk (q2.2.2.2 t 0) 9 fun a3 =>
            rk (q2.2.2.2 t 4) 14 fun a4 =>
            (f_X9_fillLead a3 x2 x4 a4 q2.2).bind fun q5 =>
            rk (q5.2.2 t 3) 14 fun a6 =>
            rk (q5.2.2 t 4) 14 fun a7 =>
            (f_X1_impliesWith x1 a6 a7 q5).bind fun q8 =>
            if q8.1 = 0 then
              some (0, q8.2)
            else
              f_X4_isBestAhead_78 (f_X4_isBestAhead_16 t x1 x2 x3 n) t x1 x2 x3 x4 q8.2
def f_X4_isBestAhead (t : Nat) (x1 : Nat) (x2 : Int32) (x3 : Int32) (σ : HS) : Option (Int32 × HS) :=
    rk (σ.2.2 t 0) 9 fun a1 =>
    rk (σ.2.2 t 3) 14 fun a2 =>
    (f_X9_fillLead a1 x2 x3 a2 σ).bind fun q3 =>
    f_X4_isBestAhead_16 t x1 x2 x3 FU 0 q3
def w_X4_oneQuestionDoes : List Cond := Cond.code yX4_oneQuestionDoes cX4_oneQuestionDoes 5 (some .boolean) :: GT
def f_X4_oneQuestionDoes_117 (r30 : Int32 → HS → Option (Int32 × HS)) (r40 : Int32 → HS → Option (Int32 × HS)) (t : Nat) (x1 : Nat) (x2 : Int32) (x3 : Int32) (σ : HS) : Option (Int32 × HS) :=
    r40 (x3 + 1) σ
def f_X4_oneQuestionDoes_73 (r30 : Int32 → HS → Option (Int32 × HS)) (r40 : Int32 → HS → Option (Int32 × HS)) (t : Nat) (x1 : Nat) (x2 : Int32) (x3 : Int32) (s0 : Int32) (σ : HS) : Option (Int32 × HS) :=
    if s0 = 0 then
      f_X4_oneQuestionDoes_117 r30 r40 t x1 x2 x3 σ
    else
      (f_X4_haveAllCorners t x1 (((1 : Int32) <<< (x2 &&& 31)) ||| ((1 : Int32) <<< (x3 &&& 31))) σ).bind fun q1 =>
      if q1.1 = 0 then
        f_X4_oneQuestionDoes_117 r30 r40 t x1 x2 x3 q1.2
      else
        (f_X4_isBestAhead t x1 x2 x3 q1.2).bind fun q2 =>
        if q2.1 = 0 then
          f_X4_oneQuestionDoes_117 r30 r40 t x1 x2 x3 q2.2
        else
          (f_X4_isBestAhead t x1 x3 x2 q2.2).bind fun q3 =>
          if q3.1 = 0 then
            f_X4_oneQuestionDoes_117 r30 r40 t x1 x2 x3 q3.2
          else
            some (1, q3.2)
def f_X4_oneQuestionDoes_72 (r30 : Int32 → HS → Option (Int32 × HS)) (r40 : Int32 → HS → Option (Int32 × HS)) (t : Nat) (x1 : Nat) (x2 : Int32) (x3 : Int32) (σ : HS) : Option (Int32 × HS) :=
    f_X4_oneQuestionDoes_73 r30 r40 t x1 x2 x3 0 σ
def f_X4_oneQuestionDoes_40 (t : Nat) (x1 : Nat) (x2 : Int32) (r30 : Int32 → HS → Option (Int32 × HS)) : Nat → Int32 → HS → Option (Int32 × HS)
  | 0, _, _ => none
  | n + 1, x3, σ =>
    if 8 ≤ x3 then
      r30 (x2 + 1) σ
    else
      rk (σ.2.2 t 0) 9 fun a1 =>
      (f_X9_isIn a1 x2 σ).bind fun q2 =>
      if q2.1 = 0 then
        f_X4_oneQuestionDoes_72 r30 (f_X4_oneQuestionDoes_40 t x1 x2 r30 n) t x1 x2 x3 q2.2
      else
        rk (q2.2.2.2 t 0) 9 fun a3 =>
        (f_X9_isIn a3 x3 q2.2).bind fun q4 =>
        if q4.1 = 0 then
          f_X4_oneQuestionDoes_72 r30 (f_X4_oneQuestionDoes_40 t x1 x2 r30 n) t x1 x2 x3 q4.2
        else
          f_X4_oneQuestionDoes_73 r30 (f_X4_oneQuestionDoes_40 t x1 x2 r30 n) t x1 x2 x3 1 q4.2
def f_X4_oneQuestionDoes_30 (t : Nat) (x1 : Nat) : Nat → Int32 → HS → Option (Int32 × HS)
  | 0, _, _ => none
  | n + 1, x2, σ =>
    if 8 ≤ x2 then
      some (0, σ)
    else
      f_X4_oneQuestionDoes_40 t x1 x2 (f_X4_oneQuestionDoes_30 t x1 n) FU (x2 + 1) σ
def f_X4_oneQuestionDoes_2 (t : Nat) (x1 : Nat) : Nat → Int32 → HS → Option (Int32 × HS)
  | 0, _, _ => none
  | n + 1, x2, σ =>
    if (σ.1 x1 5) ≤ x2 then
      f_X4_oneQuestionDoes_30 t x1 FU 0 σ
    else
      rk (σ.2.2 t 6) 14 fun a1 =>
      (f_X4_bestByCorner t x1 x2 σ).bind fun q2 =>
      ck x2 (ln a1) (
      (f_X4_oneQuestionDoes_2 t x1 n) (x2 + 1) (sI q2.2 a1 x2.toNatClampNeg q2.1))
def f_X4_oneQuestionDoes (t : Nat) (x1 : Nat) (σ : HS) : Option (Int32 × HS) :=
    f_X4_oneQuestionDoes_2 t x1 FU 0 σ
def w_X4_oneMoreDoes : List Cond := Cond.code yX4_oneMoreDoes cX4_oneMoreDoes 3 (some .boolean) :: GT
def f_X4_oneMoreDoes (t : Nat) (x1 : Int32) (x2 : Int32) (σ : HS) : Option (Int32 × HS) :=
    rk (σ.2.2 t 0) 9 fun a1 =>
    rk (σ.2.2 t 3) 14 fun a2 =>
    (f_X9_fillLead a1 x1 x2 a2 σ).bind fun q3 =>
    rk (q3.2.2 t 1) 10 fun a4 =>
    rk (q3.2.2 a4 3) 17 fun a5 =>
    ck 0 (ln a5) (rk (q3.2.2 a5 (0 : Int32).toNatClampNeg) 1 fun a6 =>
    rk (q3.2.2 t 1) 10 fun a7 =>
    rk (q3.2.2 a7 2) 1 fun a8 =>
    rk (q3.2.2 t 3) 14 fun a9 =>
    (f_X1_becomeCut a6 a8 a9 q3).bind fun q10 =>
    rk (q10.2.2 t 1) 10 fun a11 =>
    rk (q10.2.2 a11 3) 17 fun a12 =>
    ck 0 (ln a12) (rk (q10.2.2 a12 (0 : Int32).toNatClampNeg) 1 fun a13 =>
    (f_X4_oneQuestionDoes t a13 q10).bind fun q14 =>
    zr q14.1 q14.2))
def w_X4_fewQuestions : List Cond := Cond.code yX4_fewQuestions cX4_fewQuestions 4 (some .int) :: GT
def f_X4_fewQuestions_102 (r34 : Int32 → HS → Option (Int32 × HS)) (r44 : Int32 → HS → Option (Int32 × HS)) (t : Nat) (x1 : Int32) (x2 : Int32) (σ : HS) : Option (Int32 × HS) :=
    r44 (x2 + 1) σ
def f_X4_fewQuestions_77 (r34 : Int32 → HS → Option (Int32 × HS)) (r44 : Int32 → HS → Option (Int32 × HS)) (t : Nat) (x1 : Int32) (x2 : Int32) (s0 : Int32) (σ : HS) : Option (Int32 × HS) :=
    if s0 = 0 then
      f_X4_fewQuestions_102 r34 r44 t x1 x2 σ
    else
      (f_X4_oneMoreDoes t x1 x2 σ).bind fun q1 =>
      if q1.1 = 0 then
        f_X4_fewQuestions_102 r34 r44 t x1 x2 q1.2
      else
        (f_X4_oneMoreDoes t x2 x1 q1.2).bind fun q2 =>
        if q2.1 = 0 then
          f_X4_fewQuestions_102 r34 r44 t x1 x2 q2.2
        else
          some (2, q2.2)
def f_X4_fewQuestions_76 (r34 : Int32 → HS → Option (Int32 × HS)) (r44 : Int32 → HS → Option (Int32 × HS)) (t : Nat) (x1 : Int32) (x2 : Int32) (σ : HS) : Option (Int32 × HS) :=
    f_X4_fewQuestions_77 r34 r44 t x1 x2 0 σ
def f_X4_fewQuestions_44 (t : Nat) (x1 : Int32) (r34 : Int32 → HS → Option (Int32 × HS)) : Nat → Int32 → HS → Option (Int32 × HS)
  | 0, _, _ => none
  | n + 1, x2, σ =>
    if 8 ≤ x2 then
      r34 (x1 + 1) σ
    else
      rk (σ.2.2 t 0) 9 fun a1 =>
      (f_X9_isIn a1 x1 σ).bind fun q2 =>
      if q2.1 = 0 then
        f_X4_fewQuestions_76 r34 (f_X4_fewQuestions_44 t x1 r34 n) t x1 x2 q2.2
      else
        rk (q2.2.2.2 t 0) 9 fun a3 =>
        (f_X9_isIn a3 x2 q2.2).bind fun q4 =>
        if q4.1 = 0 then
          f_X4_fewQuestions_76 r34 (f_X4_fewQuestions_44 t x1 r34 n) t x1 x2 q4.2
        else
          f_X4_fewQuestions_77 r34 (f_X4_fewQuestions_44 t x1 r34 n) t x1 x2 1 q4.2
def f_X4_fewQuestions_34 (t : Nat) : Nat → Int32 → HS → Option (Int32 × HS)
  | 0, _, _ => none
  | n + 1, x1, σ =>
    if 8 ≤ x1 then
      some ((-1), σ)
    else
      f_X4_fewQuestions_44 t x1 (f_X4_fewQuestions_34 t n) FU (x1 + 1) σ
def f_X4_fewQuestions (t : Nat) (σ : HS) : Option (Int32 × HS) :=
    rk (σ.2.2 t 1) 10 fun a1 =>
    rk (σ.2.2 a1 2) 1 fun a2 =>
    (f_X4_surelyBest t a2 σ).bind fun q3 =>
    if q3.1 = 0 then
      rk (q3.2.2.2 t 1) 10 fun a4 =>
      rk (q3.2.2.2 a4 2) 1 fun a5 =>
      (f_X4_oneQuestionDoes t a5 q3.2).bind fun q6 =>
      if q6.1 = 0 then
        f_X4_fewQuestions_34 t FU 0 q6.2
      else
        some (1, q6.2)
    else
      some (0, q3.2)
def w_X4_needToBeSure : List Cond := Cond.code yX4_needToBeSure cX4_needToBeSure 11 (some .int) :: GT
def f_X4_needToBeSure_163 (s0 : Int32) (σ : HS) : Option (Int32 × HS) :=
    some (s0, σ)
def f_X4_needToBeSure_131 (r5 : Int64 → Int32 → HS → Option (Int32 × HS)) (t : Nat) (x1 : Int32) (x2 : Int32) (x3 : Int64) (x5 : Int32) (σ : HS) : Option (Int32 × HS) :=
    r5 x3 (x5 + 1) σ
def f_X4_needToBeSure_125 (r5 : Int64 → Int32 → HS → Option (Int32 × HS)) (r41 : Int64 → Int32 → HS → Option (Int32 × HS)) (t : Nat) (x1 : Int32) (x2 : Int32) (x3 : Int64) (x5 : Int32) (x6 : Int32) (σ : HS) : Option (Int32 × HS) :=
    r41 x3 (x6 + 1) σ
def f_X4_needToBeSure_105 (r5 : Int64 → Int32 → HS → Option (Int32 × HS)) (r41 : Int64 → Int32 → HS → Option (Int32 × HS)) (t : Nat) (x1 : Int32) (x2 : Int32) (x3 : Int64) (x5 : Int32) (x6 : Int32) (x7 : Int64) (x9 : Int64) (σ : HS) : Option (Int32 × HS) :=
    if 0 ≤ x7 then
      f_X4_needToBeSure_125 r5 r41 t x1 x2 x3 x5 x6 σ
    else
      (f_J9_floorDiv_f86c9 x7 x9 σ).bind fun q1 =>
      (f_J9_max_f86c9 x3 (-q1.1) q1.2).bind fun q2 =>
      f_X4_needToBeSure_125 r5 r41 t x1 x2 q2.1 x5 x6 q2.2
def f_X4_needToBeSure_41 (t : Nat) (x1 : Int32) (x2 : Int32) (x5 : Int32) (r5 : Int64 → Int32 → HS → Option (Int32 × HS)) : Nat → Int64 → Int32 → HS → Option (Int32 × HS)
  | 0, _, _, _ => none
  | n + 1, x3, x6, σ =>
    rk (σ.2.2 t 1) 10 fun a1 =>
    rk (σ.2.2 a1 2) 1 fun a2 =>
    if (σ.1 a2 5) ≤ x6 then
      f_X4_needToBeSure_131 r5 t x1 x2 x3 x5 σ
    else
      rk (σ.2.2 t 1) 10 fun a3 =>
      rk (σ.2.2 a3 2) 1 fun a4 =>
      rk (σ.2.2 t 3) 14 fun a5 =>
      (f_X1_product a4 x6 a5 σ).bind fun q6 =>
      rk (q6.2.2.2 t 1) 10 fun a7 =>
      rk (q6.2.2.2 a7 2) 1 fun a8 =>
      (f_X1_weight a8 x6 x2 q6.2).bind fun q9 =>
      if 0 ≤ q6.1 then
        f_X4_needToBeSure_105 r5 (f_X4_needToBeSure_41 t x1 x2 x5 r5 n) t x1 x2 x3 x5 x6 q6.1 q9.1 q9.2
      else
        if 0 < q9.1 then
          f_X4_needToBeSure_105 r5 (f_X4_needToBeSure_41 t x1 x2 x5 r5 n) t x1 x2 x3 x5 x6 q6.1 q9.1 q9.2
        else
          some ((-1), q9.2)
def f_X4_needToBeSure_5 (t : Nat) (x1 : Int32) (x2 : Int32) : Nat → Int64 → Int32 → HS → Option (Int32 × HS)
  | 0, _, _, _ => none
  | n + 1, x3, x5, σ =>
    if 8 ≤ x5 then
      rk (σ.2.2 t 0) 9 fun a1 =>
      rk (σ.2.2 a1 1) 18 fun a2 =>
      ck x1 (ln a2) (rk (σ.2.2 a2 x1.toNatClampNeg) 14 fun a3 =>
      ck x2 (ln a3) (
      if (((100 : Int32) - (σ.1 a3 x2.toNatClampNeg)).toInt64) < x3 then
        f_X4_needToBeSure_163 (-1) σ
      else
        f_X4_needToBeSure_163 x3.toInt32 σ))
    else
      rk (σ.2.2 t 0) 9 fun a4 =>
      (f_X9_isIn a4 x5 σ).bind fun q5 =>
      if q5.1 = 0 then
        f_X4_needToBeSure_131 (f_X4_needToBeSure_5 t x1 x2 n) t x1 x2 x3 x5 q5.2
      else
        rk (q5.2.2.2 t 0) 9 fun a6 =>
        rk (q5.2.2.2 t 3) 14 fun a7 =>
        (f_X9_fillLead a6 x1 x5 a7 q5.2).bind fun q8 =>
        f_X4_needToBeSure_41 t x1 x2 x5 (f_X4_needToBeSure_5 t x1 x2 n) FU x3 0 q8
def f_X4_needToBeSure (t : Nat) (x1 : Int32) (x2 : Int32) (σ : HS) : Option (Int32 × HS) :=
    f_X4_needToBeSure_5 t x1 x2 FU 0 0 σ
def w_X4_needToMaybe : List Cond := Cond.code yX4_needToMaybe cX4_needToMaybe 7 (some .int) :: GT
def f_X4_needToMaybe_89 (x3 : Int32) (σ : HS) : Option (Int32 × HS) :=
    some (x3, σ)
def f_X4_needToMaybe_83 (r36 : Int32 → Int32 → Int32 → HS → Option (Int32 × HS)) (t : Nat) (x1 : Int32) (x2 : Int32) (x3 : Int32) (x4 : Int32) (x5 : Int32) (σ : HS) : Option (Int32 × HS) :=
    r36 x3 x4 (x5 + 1) σ
def f_X4_needToMaybe_36 (t : Nat) (x1 : Int32) (x2 : Int32) : Nat → Int32 → Int32 → Int32 → HS → Option (Int32 × HS)
  | 0, _, _, _, _ => none
  | n + 1, x3, x4, x5, σ =>
    if 100 < x5 then
      f_X4_needToMaybe_89 x3 σ
    else
      if x3 ≤ x4 then
        f_X4_needToMaybe_89 x3 σ
      else
        (f_X4_whereBest t x1 x2 ((x4 + x3) / 2) σ).bind fun q1 =>
        rk (some q1.1) 1 fun a2 =>
        if (q1.2.1 a2 5) ≤ 0 then
          f_X4_needToMaybe_83 (f_X4_needToMaybe_36 t x1 x2 n) t x1 x2 x3 (((x4 + x3) / 2) + 1) x5 q1.2
        else
          f_X4_needToMaybe_83 (f_X4_needToMaybe_36 t x1 x2 n) t x1 x2 ((x4 + x3) / 2) x4 x5 q1.2
def f_X4_needToMaybe (t : Nat) (x1 : Int32) (x2 : Int32) (σ : HS) : Option (Int32 × HS) :=
    rk (σ.2.2 t 0) 9 fun a1 =>
    rk (σ.2.2 a1 1) 18 fun a2 =>
    ck x1 (ln a2) (rk (σ.2.2 a2 x1.toNatClampNeg) 14 fun a3 =>
    ck x2 (ln a3) (
    (f_X4_whereBest t x1 x2 ((100 : Int32) - (σ.1 a3 x2.toNatClampNeg)) σ).bind fun q4 =>
    rk (some q4.1) 1 fun a5 =>
    if (q4.2.1 a5 5) = 0 then
      some ((-1), q4.2)
    else
      f_X4_needToMaybe_36 t x1 x2 FU ((100 : Int32) - (σ.1 a3 x2.toNatClampNeg)) 0 0 q4.2))
def w_X4_leastStillBetter : List Cond := Cond.code yX4_leastStillBetter cX4_leastStillBetter 11 (some .int) :: GT
def f_X4_leastStillBetter_101 (r19 : Int64 → Int32 → HS → Option (Int32 × HS)) (t : Nat) (x1 : Int32) (x3 : Int32) (x4 : Int64) (x6 : Int32) (σ : HS) : Option (Int32 × HS) :=
    r19 x4 (x6 + 1) σ
def f_X4_leastStillBetter_19 (t : Nat) (x1 : Int32) (x3 : Int32) : Nat → Int64 → Int32 → HS → Option (Int32 × HS)
  | 0, _, _, _ => none
  | n + 1, x4, x6, σ =>
    rk (σ.2.2 t 1) 10 fun a1 =>
    rk (σ.2.2 a1 2) 1 fun a2 =>
    if (σ.1 a2 5) ≤ x6 then
      some (x4.toInt32, σ)
    else
      rk (σ.2.2 t 1) 10 fun a3 =>
      rk (σ.2.2 a3 2) 1 fun a4 =>
      (f_X1_weight a4 x6 x3 σ).bind fun q5 =>
      if q5.1 ≤ 0 then
        f_X4_leastStillBetter_101 (f_X4_leastStillBetter_19 t x1 x3 n) t x1 x3 x4 x6 q5.2
      else
        rk (q5.2.2.2 t 1) 10 fun a6 =>
        rk (q5.2.2.2 a6 2) 1 fun a7 =>
        rk (q5.2.2.2 t 3) 14 fun a8 =>
        (f_X1_product a7 x6 a8 q5.2).bind fun q9 =>
        (f_J9_floorDiv_f86c9 q9.1 q5.1 q9.2).bind fun q10 =>
        rk (q10.2.2.2 t 0) 9 fun a11 =>
        rk (q10.2.2.2 a11 1) 18 fun a12 =>
        ck x1 (ln a12) (rk (q10.2.2.2 a12 x1.toNatClampNeg) 14 fun a13 =>
        ck x3 (ln a13) (
        (f_J9_max_f86c9 x4 (((q10.2.1 a13 x3.toNatClampNeg).toInt64) - q10.1) q10.2).bind fun q14 =>
        f_X4_leastStillBetter_101 (f_X4_leastStillBetter_19 t x1 x3 n) t x1 x3 q14.1 x6 q14.2))
def f_X4_leastStillBetter (t : Nat) (x1 : Int32) (x2 : Int32) (x3 : Int32) (σ : HS) : Option (Int32 × HS) :=
    rk (σ.2.2 t 0) 9 fun a1 =>
    rk (σ.2.2 t 3) 14 fun a2 =>
    (f_X9_fillLead a1 x1 x2 a2 σ).bind fun q3 =>
    f_X4_leastStillBetter_19 t x1 x3 FU 0 0 q3
def w_X4_brokenPlace : List Cond := Cond.code yX4_brokenPlace cX4_brokenPlace 5 (some .int) :: GT
def f_X4_brokenPlace_24 (t : Nat) (x1 : Nat) (x2 : Int32) (x3 : Nat) : Nat → Int32 → HS → Option (Int32 × HS)
  | 0, _, _ => none
  | n + 1, x4, σ =>
    if x2 ≤ x4 then
      some ((-1), σ)
    else
      rk (σ.2.2 t 0) 9 fun a1 =>
      ck (x4 - 1) (ln x1) (
      ck x4 (ln x1) (
      rk (σ.2.2 t 3) 14 fun a2 =>
      (f_X9_fillLead a1 (σ.1 x1 (x4 - 1).toNatClampNeg) (σ.1 x1 x4.toNatClampNeg) a2 σ).bind fun q3 =>
      ck x4 (ln x3) (rk (q3.2.2 x3 x4.toNatClampNeg) 1 fun a4 =>
      ck (x4 - 1) (ln x3) (rk (q3.2.2 x3 (x4 - 1).toNatClampNeg) 1 fun a5 =>
      rk (q3.2.2 t 3) 14 fun a6 =>
      (f_X1_becomeCut a4 a5 a6 q3).bind fun q7 =>
      ck x4 (ln x3) (rk (q7.2.2 x3 x4.toNatClampNeg) 1 fun a8 =>
      if (q7.1 a8 5) = 0 then
        some (x4, q7)
      else
        (f_X4_brokenPlace_24 t x1 x2 x3 n) (x4 + 1) q7)))))
def f_X4_brokenPlace (t : Nat) (x1 : Nat) (x2 : Int32) (σ : HS) : Option (Int32 × HS) :=
    rk (σ.2.2 t 1) 10 fun a1 =>
    rk (σ.2.2 a1 3) 17 fun a2 =>
    ck 0 (ln a2) (rk (σ.2.2 a2 (0 : Int32).toNatClampNeg) 1 fun a3 =>
    rk (σ.2.2 t 1) 10 fun a4 =>
    rk (σ.2.2 a4 2) 1 fun a5 =>
    (f_X1_become a3 a5 σ).bind fun q6 =>
    f_X4_brokenPlace_24 t x1 x2 a2 FU 1 q6)
def w_X4_outdoes : List Cond := Cond.code yX4_outdoes cX4_outdoes 6 (some .boolean) :: GT
def f_X4_outdoes_60 (r3 : Int32 → HS → Option (Int32 × HS)) (t : Nat) (x1 : Int32) (x2 : Int32) (x3 : Int32) (x4 : Int32) (s0 : Int32) (s1 : Int32) (s2 : Nat) (σ : HS) : Option (Int32 × HS) :=
    ck s1 (ln s2) (
    r3 (x4 + 1) (sI σ s2 s1.toNatClampNeg (s0 - x3)))
def f_X4_outdoes_41 (r3 : Int32 → HS → Option (Int32 × HS)) (t : Nat) (x1 : Int32) (x2 : Int32) (x3 : Int32) (x4 : Int32) (s0 : Int32) (σ : HS) : Option (Int32 × HS) :=
    rk (σ.2.2 t 3) 14 fun a1 =>
    if s0 = 0 then
      f_X4_outdoes_60 r3 t x1 x2 x3 x4 0 x4 a1 σ
    else
      f_X4_outdoes_60 r3 t x1 x2 x3 x4 100 x4 a1 σ
def f_X4_outdoes_3 (t : Nat) (x1 : Int32) (x2 : Int32) (x3 : Int32) : Nat → Int32 → HS → Option (Int32 × HS)
  | 0, _, _ => none
  | n + 1, x4, σ =>
    if 4 ≤ x4 then
      rk (σ.2.2 t 1) 10 fun a1 =>
      rk (σ.2.2 a1 2) 1 fun a2 =>
      rk (σ.2.2 t 3) 14 fun a3 =>
      (f_X1_keeps a2 a3 σ).bind fun q4 =>
      zr q4.1 q4.2
    else
      rk (σ.2.2 t 0) 9 fun a5 =>
      rk (σ.2.2 a5 1) 18 fun a6 =>
      ck x1 (ln a6) (rk (σ.2.2 a6 x1.toNatClampNeg) 14 fun a7 =>
      ck x4 (ln a7) (
      rk (σ.2.2 t 0) 9 fun a8 =>
      rk (σ.2.2 a8 1) 18 fun a9 =>
      ck x2 (ln a9) (rk (σ.2.2 a9 x2.toNatClampNeg) 14 fun a10 =>
      ck x4 (ln a10) (
      if (σ.1 a7 x4.toNatClampNeg) < (σ.1 a10 x4.toNatClampNeg) then
        f_X4_outdoes_41 (f_X4_outdoes_3 t x1 x2 x3 n) t x1 x2 x3 x4 0 σ
      else
        f_X4_outdoes_41 (f_X4_outdoes_3 t x1 x2 x3 n) t x1 x2 x3 x4 1 σ))))
def f_X4_outdoes (t : Nat) (x1 : Int32) (x2 : Int32) (x3 : Int32) (σ : HS) : Option (Int32 × HS) :=
    f_X4_outdoes_3 t x1 x2 x3 FU 0 σ
def w_X4_notOutdone : List Cond := Cond.code yX4_notOutdone cX4_notOutdone 5 (some .int) :: GT
def f_X4_notOutdone_146 (r94 : Int32 → Int32 → HS → Option (Int32 × HS)) (r103 : Int32 → Int32 → HS → Option (Int32 × HS)) (t : Nat) (x2 : Int32) (x3 : Int32) (x4 : Int32) (σ : HS) : Option (Int32 × HS) :=
    r103 x2 (x4 + 1) σ
def f_X4_notOutdone_103 (t : Nat) (x3 : Int32) (r94 : Int32 → Int32 → HS → Option (Int32 × HS)) : Nat → Int32 → Int32 → HS → Option (Int32 × HS)
  | 0, _, _, _ => none
  | n + 1, x2, x4, σ =>
    if 8 ≤ x4 then
      r94 x2 (x3 + 1) σ
    else
      rk (σ.2.2 t 8) 14 fun a1 =>
      ck x3 (ln a1) (
      if ((σ.1 a1 x3.toNatClampNeg) &&& ((1 : Int32) <<< (x4 &&& 31))) = 0 then
        f_X4_notOutdone_146 r94 (f_X4_notOutdone_103 t x3 r94 n) t x2 x3 x4 σ
      else
        rk (σ.2.2 t 8) 14 fun a2 =>
        ck x4 (ln a2) (
        if ((σ.1 a2 x4.toNatClampNeg) &&& ((1 : Int32) <<< (x3 &&& 31))) = 0 then
          f_X4_notOutdone_146 r94 (f_X4_notOutdone_103 t x3 r94 n) t (x2 &&& (((1 : Int32) <<< (x3 &&& 31)) ^^^ (-1))) x3 x4 σ
        else
          f_X4_notOutdone_146 r94 (f_X4_notOutdone_103 t x3 r94 n) t x2 x3 x4 σ))
def f_X4_notOutdone_94 (t : Nat) : Nat → Int32 → Int32 → HS → Option (Int32 × HS)
  | 0, _, _, _ => none
  | n + 1, x2, x3, σ =>
    if 8 ≤ x3 then
      some (x2, σ)
    else
      f_X4_notOutdone_103 t x3 (f_X4_notOutdone_94 t n) FU x2 0 σ
def f_X4_notOutdone_72 (r2 : Int32 → HS → Option (Int32 × HS)) (r17 : Int32 → HS → Option (Int32 × HS)) (t : Nat) (x1 : Int32) (x2 : Int32) (x3 : Int32) (σ : HS) : Option (Int32 × HS) :=
    r17 (x3 + 1) σ
def f_X4_notOutdone_17 (t : Nat) (x1 : Int32) (x2 : Int32) (r2 : Int32 → HS → Option (Int32 × HS)) : Nat → Int32 → HS → Option (Int32 × HS)
  | 0, _, _ => none
  | n + 1, x3, σ =>
    if 8 ≤ x3 then
      r2 (x2 + 1) σ
    else
      if x3 = x2 then
        f_X4_notOutdone_72 r2 (f_X4_notOutdone_17 t x1 x2 r2 n) t x1 x2 x3 σ
      else
        rk (σ.2.2 t 0) 9 fun a1 =>
        (f_X9_isIn a1 x3 σ).bind fun q2 =>
        if q2.1 = 0 then
          f_X4_notOutdone_72 r2 (f_X4_notOutdone_17 t x1 x2 r2 n) t x1 x2 x3 q2.2
        else
          rk (q2.2.2.2 t 0) 9 fun a3 =>
          (f_X9_isIn a3 x2 q2.2).bind fun q4 =>
          if q4.1 = 0 then
            f_X4_notOutdone_72 r2 (f_X4_notOutdone_17 t x1 x2 r2 n) t x1 x2 x3 q4.2
          else
            (f_X4_outdoes t x3 x2 x1 q4.2).bind fun q5 =>
            if q5.1 = 0 then
              f_X4_notOutdone_72 r2 (f_X4_notOutdone_17 t x1 x2 r2 n) t x1 x2 x3 q5.2
            else
              rk (q5.2.2.2 t 8) 14 fun a6 =>
              ck x2 (ln a6) (
              ck x2 (ln a6) (
              f_X4_notOutdone_72 r2 (f_X4_notOutdone_17 t x1 x2 r2 n) t x1 x2 x3 (sI q5.2 a6 x2.toNatClampNeg ((q5.2.1 a6 x2.toNatClampNeg) ||| ((1 : Int32) <<< (x3 &&& 31))))))
def f_X4_notOutdone_2 (t : Nat) (x1 : Int32) : Nat → Int32 → HS → Option (Int32 × HS)
  | 0, _, _ => none
  | n + 1, x2, σ =>
    if 8 ≤ x2 then
      rk (σ.2.2 t 0) 9 fun a1 =>
      f_X4_notOutdone_94 t FU (σ.1 a1 4) 0 σ
    else
      rk (σ.2.2 t 8) 14 fun a2 =>
      ck x2 (ln a2) (
      f_X4_notOutdone_17 t x1 x2 (f_X4_notOutdone_2 t x1 n) FU 0 (sI σ a2 x2.toNatClampNeg 0))
def f_X4_notOutdone (t : Nat) (x1 : Int32) (σ : HS) : Option (Int32 × HS) :=
    f_X4_notOutdone_2 t x1 FU 0 σ
def w_X5_among : List Cond := Cond.code yX5_among cX5_among 3 none :: GT
def f_X5_among (t : Nat) (x1 : Nat) (x2 : Int32) (σ : HS) : Option HS :=
    some (sI (sR σ t 1 (some x1)) t 2 x2)
def w_X5_pickBehind : List Cond := Cond.code yX5_pickBehind cX5_pickBehind 5 (some .int) :: GT
def f_X5_pickBehind_30 (rc : Nat → Int32 → Int32 → Int32 → Nat → HS → Option (Int32 × HS)) (s0 : Int32) (σ : HS) : Option (Int32 × HS) :=
    some (s0, σ)
def f_X5_pickBehind (rc : Nat → Int32 → Int32 → Int32 → Nat → HS → Option (Int32 × HS)) (t : Nat) (x1 : Int32) (x2 : Int32) (x3 : Int32) (x4 : Nat) (σ : HS) : Option (Int32 × HS) :=
    if x3 = 1 then
      rk (σ.2.2 t 0) 17 fun a10 =>
      ck x1 (ln a10) (rk (σ.2.2 a10 x1.toNatClampNeg) 1 fun a11 =>
      rk (σ.2.2 t 1) 18 fun a12 =>
      ck x2 (ln a12) (rk (σ.2.2 a12 x2.toNatClampNeg) 14 fun a13 =>
      (f_X1_impliesWith a11 a13 x4 σ).bind fun q14 =>
      if q14.1 = 0 then
        f_X5_pickBehind_30 rc (-1) q14.2
      else
        f_X5_pickBehind_30 rc 0 q14.2))
    else
      rk (σ.2.2 t 0) 17 fun a1 =>
      if (x1 + 1) < (Int32.ofNat (ln a1)) then
        rk (σ.2.2 t 0) 17 fun a2 =>
        ck (x1 + 1) (ln a2) (rk (σ.2.2 a2 (x1 + 1).toNatClampNeg) 1 fun a3 =>
        rk (σ.2.2 t 0) 17 fun a4 =>
        ck x1 (ln a4) (rk (σ.2.2 a4 x1.toNatClampNeg) 1 fun a5 =>
        rk (σ.2.2 t 1) 18 fun a6 =>
        ck x2 (ln a6) (rk (σ.2.2 a6 x2.toNatClampNeg) 14 fun a7 =>
        (f_X1_becomeCut a3 a5 a7 σ).bind fun q8 =>
        (rc t (x1 + 1) (x2 + 1) (x3 - 1) x4 q8).bind fun q9 =>
        some (q9.1, q9.2))))
      else
        some ((-1), σ)
def w_X5_pick : List Cond := Cond.code yX5_pick cX5_pick 7 (some .int) :: GT
def f_X5_pick_75 (rc : Nat → Int32 → Int32 → Int32 → Nat → HS → Option (Int32 × HS)) (r27 : Int32 → HS → Option (Int32 × HS)) (t : Nat) (x1 : Int32) (x3 : Int32) (x4 : Nat) (x5 : Int32) (σ : HS) : Option (Int32 × HS) :=
    r27 (x5 + 1) σ
def f_X5_pick_27 (rc : Nat → Int32 → Int32 → Int32 → Nat → HS → Option (Int32 × HS)) (t : Nat) (x1 : Int32) (x3 : Int32) (x4 : Nat) : Nat → Int32 → HS → Option (Int32 × HS)
  | 0, _, _ => none
  | n + 1, x5, σ =>
    rk (σ.2.2 t 1) 18 fun a1 =>
    if (Int32.ofNat (ln a1)) ≤ x5 then
      some ((-1), σ)
    else
      if ((σ.1 t 2) &&& ((1 : Int32) <<< (x5 &&& 31))) = 0 then
        f_X5_pick_75 rc (f_X5_pick_27 rc t x1 x3 x4 n) t x1 x3 x4 x5 σ
      else
        (f_X5_pickBehind rc t x1 x5 x3 x4 σ).bind fun q2 =>
        if q2.1 = (-1) then
          f_X5_pick_75 rc (f_X5_pick_27 rc t x1 x3 x4 n) t x1 x3 x4 x5 q2.2
        else
          some (q2.1 ||| ((1 : Int32) <<< (x5 &&& 31)), q2.2)
def f_X5_pick_23 (rc : Nat → Int32 → Int32 → Int32 → Nat → HS → Option (Int32 × HS)) (s0 : Int32) (σ : HS) : Option (Int32 × HS) :=
    some (s0, σ)
def f_X5_pick_0 (rc : Nat → Int32 → Int32 → Int32 → Nat → HS → Option (Int32 × HS)) (t : Nat) (x1 : Int32) (x2 : Int32) (x3 : Int32) (x4 : Nat) (σ : HS) : Option (Int32 × HS) :=
    if 0 < x3 then
      f_X5_pick_27 rc t x1 x3 x4 FU x2 σ
    else
      rk (σ.2.2 t 0) 17 fun a1 =>
      ck x1 (ln a1) (rk (σ.2.2 a1 x1.toNatClampNeg) 1 fun a2 =>
      (f_X1_keeps a2 x4 σ).bind fun q3 =>
      if q3.1 = 0 then
        f_X5_pick_23 rc (-1) q3.2
      else
        f_X5_pick_23 rc 0 q3.2)
def f_X5_pick : Nat → Nat → Int32 → Int32 → Int32 → Nat → HS → Option (Int32 × HS)
  | 0, _, _, _, _, _, _ => none
  | d + 1, t, x1, x2, x3, x4, σ => f_X5_pick_0 (f_X5_pick d) t x1 x2 x3 x4 σ
def w_X5_fewest : List Cond := Cond.code yX5_fewest cX5_fewest 6 (some .int) :: GT
def f_X5_fewest_13 (t : Nat) (x2 : Int32) (x3 : Nat) : Nat → Int32 → HS → Option (Int32 × HS)
  | 0, _, _ => none
  | n + 1, x4, σ =>
    if x2 < x4 then
      some ((-1), σ)
    else
      (f_X5_pick DEP t 0 0 x4 x3 σ).bind fun q1 =>
      if q1.1 = (-1) then
        (f_X5_fewest_13 t x2 x3 n) (x4 + 1) q1.2
      else
        some (q1.1, q1.2)
def f_X5_fewest (t : Nat) (x1 : Nat) (x2 : Int32) (x3 : Nat) (σ : HS) : Option (Int32 × HS) :=
    rk (σ.2.2 t 0) 17 fun a1 =>
    ck 0 (ln a1) (rk (σ.2.2 a1 (0 : Int32).toNatClampNeg) 1 fun a2 =>
    (f_X1_become a2 x1 σ).bind fun q3 =>
    f_X5_fewest_13 t x2 x3 FU 0 q3)
def w_X8_kindOf : List Cond := Cond.code yX8_kindOf cX8_kindOf 1 (some .int) :: GT
def f_X8_kindOf_39 (s0 : Int32) (σ : HS) : Option (Int32 × HS) :=
    some (s0, σ)
def f_X8_kindOf_28 (x0 : Int32) (σ : HS) : Option (Int32 × HS) :=
    if x0 = 59 then
      f_X8_kindOf_39 3 σ
    else
      f_X8_kindOf_39 4 σ
def f_X8_kindOf_14 (x0 : Int32) (σ : HS) : Option (Int32 × HS) :=
    if x0 < 48 then
      f_X8_kindOf_28 x0 σ
    else
      if 57 < x0 then
        f_X8_kindOf_28 x0 σ
      else
        some (2, σ)
def f_X8_kindOf (x0 : Int32) (σ : HS) : Option (Int32 × HS) :=
    if x0 < 97 then
      f_X8_kindOf_14 x0 σ
    else
      if 122 < x0 then
        f_X8_kindOf_14 x0 σ
      else
        some (1, σ)
def w_X8_step : List Cond := Cond.code yX8_step cX8_step 2 none :: GT
def f_X8_step_212 (σ : HS) : Option HS :=
    some σ
def f_X8_step_204 (t : Nat) (s0 : Int32) (s1 : Int32) (σ : HS) : Option HS :=
    if s1 ≤ s0 then
      f_X8_step_212 σ
    else
      f_X8_step_212 (sI σ t 2 4)
def f_X8_step_177 (t : Nat) (x1 : Int32) (σ : HS) : Option HS :=
    if x1 = 0 then
      f_X8_step_212 σ
    else
      if (σ.1 t 2) = 1 then
        f_X8_step_204 t 8 ((σ.1 t 4) - (σ.1 t 3)) σ
      else
        f_X8_step_204 t 3 ((σ.1 t 4) - (σ.1 t 3)) σ
def f_X8_step_130 (t : Nat) (x1 : Int32) : Nat → HS → Option HS
  | 0, _ => none
  | n + 1, σ =>
    if x1 = 0 then
      f_X8_step_177 t x1 σ
    else
      if (σ.1 t 1) ≤ (σ.1 t 4) then
        f_X8_step_177 t x1 σ
      else
        rk (σ.2.2 t 0) 13 fun a1 =>
        ck (σ.1 t 4) (ln a1) (
        (f_X8_kindOf (σ.1 a1 (σ.1 t 4).toNatClampNeg) σ).bind fun q2 =>
        if q2.1 = (q2.2.1 t 2) then
          (f_X8_step_130 t x1 n) (sI q2.2 t 4 ((q2.2.1 t 4) + 1))
        else
          f_X8_step_177 t x1 q2.2)
def f_X8_step_129 (t : Nat) (s0 : Int32) (σ : HS) : Option HS :=
    f_X8_step_130 t s0 FU σ
def f_X8_step_124 (t : Nat) (σ : HS) : Option HS :=
    f_X8_step_129 t 1 σ
def f_X8_step_88 (t : Nat) (s0 : Int32) (s1 : Nat) (σ : HS) : Option HS :=
    (f_J9_min_7cf53 (((sI σ s1 2 s0).1 t 3) + 1) ((sI σ s1 2 s0).1 t 1) (sI σ s1 2 s0)).bind fun q1 =>
    if ((sI q1.2 t 4 q1.1).1 t 2) = 1 then
      f_X8_step_124 t (sI q1.2 t 4 q1.1)
    else
      if ((sI q1.2 t 4 q1.1).1 t 2) = 2 then
        f_X8_step_124 t (sI q1.2 t 4 q1.1)
      else
        f_X8_step_129 t 0 (sI q1.2 t 4 q1.1)
def f_X8_step_60 (t : Nat) (σ : HS) : Option HS :=
    if (σ.1 t 1) ≤ (σ.1 t 3) then
      f_X8_step_88 t 0 t σ
    else
      rk (σ.2.2 t 0) 13 fun a1 =>
      ck (σ.1 t 3) (ln a1) (
      (f_X8_kindOf (σ.1 a1 (σ.1 t 3).toNatClampNeg) σ).bind fun q2 =>
      f_X8_step_88 t q2.1 t q2.2)
def f_X8_step_47 (r8 : HS → Option HS) (t : Nat) (σ : HS) : Option HS :=
    r8 (sI σ t 3 ((σ.1 t 3) + 1))
def f_X8_step_8 (t : Nat) : Nat → HS → Option HS
  | 0, _ => none
  | n + 1, σ =>
    if (σ.1 t 1) ≤ (σ.1 t 3) then
      f_X8_step_60 t σ
    else
      rk (σ.2.2 t 0) 13 fun a1 =>
      ck (σ.1 t 3) (ln a1) (
      if (σ.1 a1 (σ.1 t 3).toNatClampNeg) = 10 then
        f_X8_step_47 (f_X8_step_8 t n) t σ
      else
        rk (σ.2.2 t 0) 13 fun a2 =>
        ck (σ.1 t 3) (ln a2) (
        if (σ.1 a2 (σ.1 t 3).toNatClampNeg) = 32 then
          f_X8_step_47 (f_X8_step_8 t n) t σ
        else
          f_X8_step_60 t σ))
def f_X8_step (t : Nat) (σ : HS) : Option HS :=
    f_X8_step_8 t FU (sI σ t 3 (σ.1 t 4))
def w_X8_rewind : List Cond := Cond.code yX8_rewind cX8_rewind 1 none :: GT
def f_X8_rewind (t : Nat) (σ : HS) : Option HS :=
    (f_X8_step t (sI σ t 4 0)).bind fun q1 =>
    some q1
def w_X8_number : List Cond := Cond.code yX8_number cX8_number 3 (some .int) :: GT
def f_X8_number_44 (x1 : Int32) (σ : HS) : Option (Int32 × HS) :=
    some (x1, σ)
def f_X8_number_7 (t : Nat) : Nat → Int32 → Int32 → HS → Option (Int32 × HS)
  | 0, _, _, _ => none
  | n + 1, x1, x2, σ =>
    if (σ.1 t 4) ≤ x2 then
      f_X8_number_44 x1 σ
    else
      if (σ.1 t 2) = 2 then
        rk (σ.2.2 t 0) 13 fun a1 =>
        ck x2 (ln a1) (
        (f_X8_number_7 t n) (((x1 * 10) + (σ.1 a1 x2.toNatClampNeg)) - 48) (x2 + 1) σ)
      else
        f_X8_number_44 x1 σ
def f_X8_number (t : Nat) (σ : HS) : Option (Int32 × HS) :=
    f_X8_number_7 t FU 0 (σ.1 t 3) σ
def w_X6_wrong : List Cond := Cond.code yX6_wrong cX6_wrong 2 none :: GT
def f_X6_wrong (t : Nat) (x1 : Int32) (σ : HS) : Option HS :=
    rk (σ.2.2 t 0) 8 fun a1 =>
    some (sI σ t 2 (x1 + ((16 : Int32) * (σ.1 a1 3))))
def w_X6_takeNumber : List Cond := Cond.code yX6_takeNumber cX6_takeNumber 5 (some .int) :: GT
def f_X6_takeNumber_81 (σ : HS) : Option (Int32 × HS) :=
    some ((-1), σ)
def f_X6_takeNumber_49 (t : Nat) (σ : HS) : Option (Int32 × HS) :=
    (f_X6_wrong t 4 σ).bind fun q1 =>
    f_X6_takeNumber_81 q1
def f_X6_takeNumber (t : Nat) (x1 : Int32) (x2 : Int32) (x3 : Int32) (σ : HS) : Option (Int32 × HS) :=
    if (σ.1 t 2) = 0 then
      rk (σ.2.2 t 0) 8 fun a1 =>
      (f_X8_number a1 σ).bind fun q2 =>
      rk (q2.2.2.2 t 0) 8 fun a3 =>
      if (q2.2.1 a3 2) = 2 then
        if q2.1 < x1 then
          f_X6_takeNumber_49 t q2.2
        else
          if q2.1 ≤ x2 then
            if q2.1 = x3 then
              (f_X6_wrong t 3 q2.2).bind fun q6 =>
              f_X6_takeNumber_81 q6
            else
              rk (q2.2.2.2 t 0) 8 fun a4 =>
              (f_X8_step a4 q2.2).bind fun q5 =>
              some (q2.1, q5)
          else
            f_X6_takeNumber_49 t q2.2
      else
        (f_X6_wrong t 1 q2.2).bind fun q7 =>
        f_X6_takeNumber_81 q7
    else
      some ((-1), σ)
def w_X6_takeFreshMeasure : List Cond := Cond.code yX6_takeFreshMeasure cX6_takeFreshMeasure 3 (some .int) :: GT
def f_X6_takeFreshMeasure_46 (t : Nat) (σ : HS) : Option (Int32 × HS) :=
    (f_X6_takeNumber t 0 ((σ.1 t 1) - 1) (-1) σ).bind fun q1 =>
    some (q1.1, q1.2)
def f_X6_takeFreshMeasure (t : Nat) (x1 : Nat) (σ : HS) : Option (Int32 × HS) :=
    rk (σ.2.2 t 0) 8 fun a1 =>
    (f_X8_number a1 σ).bind fun q2 =>
    if (q2.2.1 t 2) = 0 then
      rk (q2.2.2.2 t 0) 8 fun a3 =>
      if (q2.2.1 a3 2) = 2 then
        if (q2.2.1 t 1) ≤ q2.1 then
          f_X6_takeFreshMeasure_46 t q2.2
        else
          ck q2.1 (ln x1) (
          if (q2.2.1 x1 q2.1.toNatClampNeg) = (-1) then
            f_X6_takeFreshMeasure_46 t q2.2
          else
            (f_X6_wrong t 3 q2.2).bind fun q4 =>
            f_X6_takeFreshMeasure_46 t q4)
      else
        f_X6_takeFreshMeasure_46 t q2.2
    else
      f_X6_takeFreshMeasure_46 t q2.2
def w_X6_readLess : List Cond := Cond.code yX6_readLess cX6_readLess 3 none :: GT
def f_X6_readLess_30 (σ : HS) : Option HS :=
    some σ
def f_X6_readLess (t : Nat) (x1 : Nat) (σ : HS) : Option HS :=
    rk (σ.2.2 t 0) 8 fun a1 =>
    (f_X8_step a1 σ).bind fun q2 =>
    rk (q2.2.2 x1 0) 14 fun a3 =>
    (f_X6_takeFreshMeasure t a3 q2).bind fun q4 =>
    if (q4.2.1 t 2) = 0 then
      rk (q4.2.2.2 x1 0) 14 fun a5 =>
      ck q4.1 (ln a5) (
      f_X6_readLess_30 (sI q4.2 a5 q4.1.toNatClampNeg 1))
    else
      f_X6_readLess_30 q4.2
def w_X6_readLimit : List Cond := Cond.code yX6_readLimit cX6_readLimit 4 none :: GT
def f_X6_readLimit_33 (σ : HS) : Option HS :=
    some σ
def f_X6_readLimit (t : Nat) (x1 : Nat) (σ : HS) : Option HS :=
    rk (σ.2.2 t 0) 8 fun a1 =>
    (f_X8_step a1 σ).bind fun q2 =>
    (f_X6_takeFreshMeasure t x1 q2).bind fun q3 =>
    (f_X6_takeNumber t 0 100 (-1) q3.2).bind fun q4 =>
    if (q4.2.1 t 2) = 0 then
      ck q3.1 (ln x1) (
      f_X6_readLimit_33 (sI q4.2 x1 q3.1.toNatClampNeg q4.1))
    else
      f_X6_readLimit_33 q4.2
def w_X8_person : List Cond := Cond.code yX8_person cX8_person 2 (some .int) :: GT
def f_X8_person_32 (σ : HS) : Option (Int32 × HS) :=
    some ((-1), σ)
def f_X8_person_58 (s0 : Int32) (σ : HS) : Option (Int32 × HS) :=
    some (s0, σ)
def f_X8_person (t : Nat) (σ : HS) : Option (Int32 × HS) :=
    if (σ.1 t 2) = 1 then
      if ((σ.1 t 4) - (σ.1 t 3)) = 1 then
        if (σ.1 t 3) < (σ.1 t 1) then
          rk (σ.2.2 t 0) 13 fun a1 =>
          ck (σ.1 t 3) (ln a1) (
          if 8 ≤ ((σ.1 a1 (σ.1 t 3).toNatClampNeg) - 97) then
            f_X8_person_58 (-1) σ
          else
            f_X8_person_58 ((σ.1 a1 (σ.1 t 3).toNatClampNeg) - 97) σ)
        else
          f_X8_person_32 σ
      else
        f_X8_person_32 σ
    else
      f_X8_person_32 σ
def w_X6_readPair : List Cond := Cond.code yX6_readPair cX6_readPair 8 none :: GT
def f_X6_readPair_52 (σ : HS) : Option HS :=
    some σ
def f_X6_readPair (t : Nat) (x1 : Nat) (x2 : Int32) (x3 : Int32) (x4 : Int32) (x5 : Int32) (σ : HS) : Option HS :=
    rk (σ.2.2 t 0) 8 fun a1 =>
    (f_X8_step a1 σ).bind fun q2 =>
    (f_X6_takeNumber t 0 (x4 - 1) (-1) q2).bind fun q3 =>
    (f_X6_takeNumber t 0 (x4 - 1) q3.1 q3.2).bind fun q4 =>
    if (q4.2.1 t 2) = 0 then
      (f_X0_say x1 x2 x3 q3.1 q4.1 1 x5 q4.2).bind fun q5 =>
      f_X6_readPair_52 q5
    else
      f_X6_readPair_52 q4.2
def w_X6_readStep : List Cond := Cond.code yX6_readStep cX6_readStep 7 none :: GT
def f_X6_readStep_75 (σ : HS) : Option HS :=
    some σ
def f_X6_readStep (t : Nat) (x1 : Nat) (x2 : Int32) (σ : HS) : Option HS :=
    rk (σ.2.2 t 0) 8 fun a1 =>
    (f_X8_step a1 σ).bind fun q2 =>
    (f_X6_takeNumber t 1 100 (-1) q2).bind fun q3 =>
    (f_X6_takeNumber t 0 ((q3.2.1 t 1) - 1) (-1) q3.2).bind fun q4 =>
    (f_X6_takeNumber t 1 100 (-1) q4.2).bind fun q5 =>
    (f_X6_takeNumber t 0 ((q5.2.1 t 1) - 1) q4.1 q5.2).bind fun q6 =>
    if (q6.2.1 t 2) = 0 then
      (f_X0_say x1 x2 0 q4.1 q6.1 q3.1 q5.1 q6.2).bind fun q7 =>
      f_X6_readStep_75 q7
    else
      f_X6_readStep_75 q6.2
def w_X6_readBound : List Cond := Cond.code yX6_readBound cX6_readBound 6 none :: GT
def f_X6_readBound_51 (σ : HS) : Option HS :=
    some σ
def f_X6_readBound (t : Nat) (x1 : Nat) (x2 : Int32) (x3 : Int32) (σ : HS) : Option HS :=
    rk (σ.2.2 t 0) 8 fun a1 =>
    (f_X8_step a1 σ).bind fun q2 =>
    (f_X6_takeNumber t 0 ((q2.1 t 1) - 1) (-1) q2).bind fun q3 =>
    (f_X6_takeNumber t 0 100 (-1) q3.2).bind fun q4 =>
    if (q4.2.1 t 2) = 0 then
      (f_X0_say x1 x2 x3 q3.1 q3.1 q4.1 0 q4.2).bind fun q5 =>
      f_X6_readBound_51 q5
    else
      f_X6_readBound_51 q4.2
def w_X6_takeSemicolon : List Cond := Cond.code yX6_takeSemicolon cX6_takeSemicolon 1 none :: GT
def f_X6_takeSemicolon_34 (σ : HS) : Option HS :=
    some σ
def f_X6_takeSemicolon (t : Nat) (σ : HS) : Option HS :=
    if (σ.1 t 2) = 0 then
      rk (σ.2.2 t 0) 8 fun a1 =>
      if (σ.1 a1 2) = 3 then
        rk (σ.2.2 t 0) 8 fun a3 =>
        (f_X8_step a3 σ).bind fun q4 =>
        f_X6_takeSemicolon_34 q4
      else
        (f_X6_wrong t 1 σ).bind fun q2 =>
        f_X6_takeSemicolon_34 q2
    else
      some σ
def w_X7_open : List Cond := Cond.code yX7_open cX7_open 5 none :: GT
def f_X7_open_49 (t : Nat) (s0 : Int32) (s1 : Nat) (σ : HS) : Option HS :=
    some (sI (sI σ s1 4 s0) t 5 ((sI σ s1 4 s0).1 t 1))
def f_X7_open (t : Nat) (x1 : Int32) (x2 : Int32) (x3 : Int32) (x4 : Int32) (σ : HS) : Option HS :=
    if ((sI (sI (sI (sI σ t 0 (x1 - 1)) t 2 x3) t 3 x4) t 1 ((x2 - ((sI (sI (sI σ t 0 (x1 - 1)) t 2 x3) t 3 x4).1 t 2)) - ((sI (sI (sI σ t 0 (x1 - 1)) t 2 x3) t 3 x4).1 t 3))).1 t 0) = 0 then
      f_X7_open_49 t ((sI (sI (sI (sI σ t 0 (x1 - 1)) t 2 x3) t 3 x4) t 1 ((x2 - ((sI (sI (sI σ t 0 (x1 - 1)) t 2 x3) t 3 x4).1 t 2)) - ((sI (sI (sI σ t 0 (x1 - 1)) t 2 x3) t 3 x4).1 t 3))).1 t 1) t (sI (sI (sI (sI σ t 0 (x1 - 1)) t 2 x3) t 3 x4) t 1 ((x2 - ((sI (sI (sI σ t 0 (x1 - 1)) t 2 x3) t 3 x4).1 t 2)) - ((sI (sI (sI σ t 0 (x1 - 1)) t 2 x3) t 3 x4).1 t 3)))
    else
      f_X7_open_49 t 0 t (sI (sI (sI (sI σ t 0 (x1 - 1)) t 2 x3) t 3 x4) t 1 ((x2 - ((sI (sI (sI σ t 0 (x1 - 1)) t 2 x3) t 3 x4).1 t 2)) - ((sI (sI (sI σ t 0 (x1 - 1)) t 2 x3) t 3 x4).1 t 3)))
def w_X7_narrow : List Cond := Cond.code yX7_narrow cX7_narrow 4 none :: GT
def f_X7_narrow_98 (σ : HS) : Option HS :=
    some σ
def f_X7_narrow (t : Nat) (x1 : Nat) (σ : HS) : Option HS :=
    ck 0 (ln x1) (
    ck (σ.1 t 0) (ln x1) (
    ck 1 (ln x1) (
    ck 2 (ln x1) (
    ck (σ.1 t 0) (ln x1) (
    if ((σ.1 x1 (0 : Int32).toNatClampNeg) - (σ.1 x1 (σ.1 t 0).toNatClampNeg)) ≤ 0 then
      if 0 ≤ ((σ.1 x1 (0 : Int32).toNatClampNeg) - (σ.1 x1 (σ.1 t 0).toNatClampNeg)) then
        if 0 ≤ ((((σ.1 x1 (1 : Int32).toNatClampNeg) * (σ.1 t 2)) + ((σ.1 x1 (2 : Int32).toNatClampNeg) * (σ.1 t 3))) + ((σ.1 x1 (σ.1 t 0).toNatClampNeg) * (σ.1 t 1))) then
          f_X7_narrow_98 σ
        else
          f_X7_narrow_98 (sI σ t 5 (-1))
      else
        (f_J9_floorDiv_7cf53 ((((σ.1 x1 (1 : Int32).toNatClampNeg) * (σ.1 t 2)) + ((σ.1 x1 (2 : Int32).toNatClampNeg) * (σ.1 t 3))) + ((σ.1 x1 (σ.1 t 0).toNatClampNeg) * (σ.1 t 1))) (-((σ.1 x1 (0 : Int32).toNatClampNeg) - (σ.1 x1 (σ.1 t 0).toNatClampNeg))) σ).bind fun q1 =>
        (f_J9_min_7cf53 (σ.1 t 5) q1.1 q1.2).bind fun q2 =>
        f_X7_narrow_98 (sI q2.2 t 5 q2.1)
    else
      (f_J9_floorDiv_7cf53 ((((σ.1 x1 (1 : Int32).toNatClampNeg) * (σ.1 t 2)) + ((σ.1 x1 (2 : Int32).toNatClampNeg) * (σ.1 t 3))) + ((σ.1 x1 (σ.1 t 0).toNatClampNeg) * (σ.1 t 1))) ((σ.1 x1 (0 : Int32).toNatClampNeg) - (σ.1 x1 (σ.1 t 0).toNatClampNeg)) σ).bind fun q3 =>
      (f_J9_max_7cf53 (σ.1 t 4) (-q3.1) q3.2).bind fun q4 =>
      f_X7_narrow_98 (sI q4.2 t 4 q4.1))))))
def w_X7_narrowBy : List Cond := Cond.code yX7_narrowBy cX7_narrowBy 4 none :: GT
def f_X7_narrowBy_23 (r2 : Int32 → HS → Option HS) (t : Nat) (x1 : Nat) (x2 : Int32) (x3 : Int32) (σ : HS) : Option HS :=
    r2 (x3 + 1) σ
def f_X7_narrowBy_2 (t : Nat) (x1 : Nat) (x2 : Int32) : Nat → Int32 → HS → Option HS
  | 0, _, _ => none
  | n + 1, x3, σ =>
    if (Int32.ofNat (ln x1)) ≤ x3 then
      some σ
    else
      if (x2 &&& ((1 : Int32) <<< (x3 &&& 31))) = 0 then
        f_X7_narrowBy_23 (f_X7_narrowBy_2 t x1 x2 n) t x1 x2 x3 σ
      else
        ck x3 (ln x1) (rk (σ.2.2 x1 x3.toNatClampNeg) 14 fun a1 =>
        (f_X7_narrow t a1 σ).bind fun q2 =>
        f_X7_narrowBy_23 (f_X7_narrowBy_2 t x1 x2 n) t x1 x2 x3 q2)
def f_X7_narrowBy (t : Nat) (x1 : Nat) (x2 : Int32) (σ : HS) : Option HS :=
    f_X7_narrowBy_2 t x1 x2 FU 0 σ
def w_X7_width : List Cond := Cond.code yX7_width cX7_width 1 (some .int) :: GT
def f_X7_width (t : Nat) (σ : HS) : Option (Int32 × HS) :=
    (f_J9_max_7cf53 0 (((σ.1 t 5) - (σ.1 t 4)) + 1) σ).bind fun q1 =>
    some (q1.1, q1.2)
def w_X8_put : List Cond := Cond.code yX8_put cX8_put 6 none :: GT
def f_X8_put_82 (r3 : Int32 → HS → Option HS) (t : Nat) (x1 : Int64) (x3 : Int32) (σ : HS) : Option HS :=
    r3 (x3 + (-8)) σ
def f_X8_put_43 (r3 : Int32 → HS → Option HS) (t : Nat) (x1 : Int64) (x3 : Int32) (x4 : Int32) (s0 : Int32) (σ : HS) : Option HS :=
    if s0 = 0 then
      f_X8_put_82 r3 t x1 x3 σ
    else
      if 1000 ≤ (σ.1 t 1) then
        f_X8_put_82 r3 t x1 x3 σ
      else
        rk (σ.2.2 t 0) 13 fun a1 =>
        ck (σ.1 t 1) (ln a1) (
        f_X8_put_82 r3 t x1 x3 (sI (sI σ a1 (σ.1 t 1).toNatClampNeg (vp_nar .byte x4.toInt8.toInt32)) t 1 (((sI σ a1 (σ.1 t 1).toNatClampNeg (vp_nar .byte x4.toInt8.toInt32)).1 t 1) + 1)))
def f_X8_put_38 (r3 : Int32 → HS → Option HS) (t : Nat) (x1 : Int64) (x3 : Int32) (x4 : Int32) (σ : HS) : Option HS :=
    f_X8_put_43 r3 t x1 x3 x4 1 σ
def f_X8_put_42 (r3 : Int32 → HS → Option HS) (t : Nat) (x1 : Int64) (x3 : Int32) (x4 : Int32) (σ : HS) : Option HS :=
    f_X8_put_43 r3 t x1 x3 x4 0 σ
def f_X8_put_3 (t : Nat) (x1 : Int64) : Nat → Int32 → HS → Option HS
  | 0, _, _ => none
  | n + 1, x3, σ =>
    if x3 < 0 then
      some σ
    else
      if ((((x1.toUInt64 >>> (x3.toInt64.toUInt64 &&& Int64.toUInt64 63)).toInt64).toInt32) &&& 255) = 10 then
        f_X8_put_38 (f_X8_put_3 t x1 n) t x1 x3 ((((x1.toUInt64 >>> (x3.toInt64.toUInt64 &&& Int64.toUInt64 63)).toInt64).toInt32) &&& 255) σ
      else
        if ((((x1.toUInt64 >>> (x3.toInt64.toUInt64 &&& Int64.toUInt64 63)).toInt64).toInt32) &&& 255) < 32 then
          f_X8_put_42 (f_X8_put_3 t x1 n) t x1 x3 ((((x1.toUInt64 >>> (x3.toInt64.toUInt64 &&& Int64.toUInt64 63)).toInt64).toInt32) &&& 255) σ
        else
          if 126 < ((((x1.toUInt64 >>> (x3.toInt64.toUInt64 &&& Int64.toUInt64 63)).toInt64).toInt32) &&& 255) then
            f_X8_put_42 (f_X8_put_3 t x1 n) t x1 x3 ((((x1.toUInt64 >>> (x3.toInt64.toUInt64 &&& Int64.toUInt64 63)).toInt64).toInt32) &&& 255) σ
          else
            f_X8_put_38 (f_X8_put_3 t x1 n) t x1 x3 ((((x1.toUInt64 >>> (x3.toInt64.toUInt64 &&& Int64.toUInt64 63)).toInt64).toInt32) &&& 255) σ
def f_X8_put (t : Nat) (x1 : Int64) (σ : HS) : Option HS :=
    f_X8_put_3 t x1 FU 56 σ
def w_X9_tell : List Cond := Cond.code yX9_tell cX9_tell 4 none :: GT
def f_X9_tell_2 (t : Nat) (x1 : Int32) (x2 : Nat) : Nat → Int32 → HS → Option HS
  | 0, _, _ => none
  | n + 1, x3, σ =>
    if 4 ≤ x3 then
      some (sI σ t 3 ((σ.1 t 3) ||| ((1 : Int32) <<< (x1 &&& 31))))
    else
      rk (σ.2.2 t 0) 18 fun a1 =>
      ck x1 (ln a1) (rk (σ.2.2 a1 x1.toNatClampNeg) 14 fun a2 =>
      ck x3 (ln x2) (
      ck x3 (ln a2) (
      (f_X9_tell_2 t x1 x2 n) (x3 + 1) (sI σ a2 x3.toNatClampNeg (σ.1 x2 x3.toNatClampNeg)))))
def f_X9_tell (t : Nat) (x1 : Int32) (x2 : Nat) (σ : HS) : Option HS :=
    f_X9_tell_2 t x1 x2 FU 0 σ
def w_X9_valueBy : List Cond := Cond.code yX9_valueBy cX9_valueBy 6 none :: GT
def f_X9_valueBy_126 (r10 : Int32 → HS → Option HS) (r19 : Int32 → HS → Option HS) (t : Nat) (x1 : Nat) (x2 : Int32) (x3 : Int32) (x4 : Int32) (s0 : Int32) (s1 : Int32) (s2 : Nat) (σ : HS) : Option HS :=
    ck s1 (ln s2) (
    r19 (x4 + 1) (sI σ s2 s1.toNatClampNeg s0))
def f_X9_valueBy_90 (r10 : Int32 → HS → Option HS) (r19 : Int32 → HS → Option HS) (t : Nat) (x1 : Nat) (x2 : Int32) (x3 : Int32) (x4 : Int32) (x5 : Int32) (σ : HS) : Option HS :=
    rk (σ.2.2 t 1) 18 fun a1 =>
    ck x3 (ln a1) (rk (σ.2.2 a1 x3.toNatClampNeg) 14 fun a2 =>
    rk (σ.2.2 x1 1) 14 fun a3 =>
    ck x4 (ln a3) (
    if (σ.1 a3 x4.toNatClampNeg) = (-1) then
      f_X9_valueBy_126 r10 r19 t x1 x2 x3 x4 x5 x4 a2 σ
    else
      rk (σ.2.2 x1 1) 14 fun a4 =>
      ck x4 (ln a4) (
      (f_J9_min_7cf53 x5 (σ.1 a4 x4.toNatClampNeg) σ).bind fun q5 =>
      f_X9_valueBy_126 r10 r19 t x1 x2 x3 x4 q5.1 x4 a2 q5.2)))
def f_X9_valueBy_64 (r10 : Int32 → HS → Option HS) (r19 : Int32 → HS → Option HS) (t : Nat) (x1 : Nat) (x2 : Int32) (x3 : Int32) (x4 : Int32) (x5 : Int32) (σ : HS) : Option HS :=
    rk (σ.2.2 x1 2) 14 fun a1 =>
    ck x4 (ln a1) (
    if (σ.1 a1 x4.toNatClampNeg) ≤ x5 then
      f_X9_valueBy_90 r10 r19 t x1 x2 x3 x4 x5 σ
    else
      f_X9_valueBy_90 r10 r19 t x1 x2 x3 x4 x5 (sI σ t 4 ((σ.1 t 4) &&& (((1 : Int32) <<< (x3 &&& 31)) ^^^ (-1)))))
def f_X9_valueBy_44 (r10 : Int32 → HS → Option HS) (r19 : Int32 → HS → Option HS) (t : Nat) (x1 : Nat) (x2 : Int32) (x3 : Int32) (x4 : Int32) (s0 : Int32) (σ : HS) : Option HS :=
    rk (σ.2.2 x1 0) 14 fun a1 =>
    ck x4 (ln a1) (
    if (σ.1 a1 x4.toNatClampNeg) = (-1) then
      f_X9_valueBy_64 r10 r19 t x1 x2 x3 x4 s0 σ
    else
      f_X9_valueBy_64 r10 r19 t x1 x2 x3 x4 ((100 : Int32) - s0) σ)
def f_X9_valueBy_19 (t : Nat) (x1 : Nat) (x2 : Int32) (x3 : Int32) (r10 : Int32 → HS → Option HS) : Nat → Int32 → HS → Option HS
  | 0, _, _ => none
  | n + 1, x4, σ =>
    if 4 ≤ x4 then
      r10 (x3 + 1) σ
    else
      if x2 ≤ x4 then
        f_X9_valueBy_44 r10 (f_X9_valueBy_19 t x1 x2 x3 r10 n) t x1 x2 x3 x4 0 σ
      else
        rk (σ.2.2 t 0) 18 fun a1 =>
        ck x3 (ln a1) (rk (σ.2.2 a1 x3.toNatClampNeg) 14 fun a2 =>
        ck x4 (ln a2) (
        f_X9_valueBy_44 r10 (f_X9_valueBy_19 t x1 x2 x3 r10 n) t x1 x2 x3 x4 (σ.1 a2 x4.toNatClampNeg) σ))
def f_X9_valueBy_10 (t : Nat) (x1 : Nat) (x2 : Int32) : Nat → Int32 → HS → Option HS
  | 0, _, _ => none
  | n + 1, x3, σ =>
    if 8 ≤ x3 then
      some σ
    else
      f_X9_valueBy_19 t x1 x2 x3 (f_X9_valueBy_10 t x1 x2 n) FU 0 σ
def f_X9_valueBy (t : Nat) (x1 : Nat) (x2 : Int32) (σ : HS) : Option HS :=
    f_X9_valueBy_10 t x1 x2 FU 0 (sI σ t 4 (σ.1 t 3))
def w_X9_topOf : List Cond := Cond.code yX9_topOf cX9_topOf 4 (some .int) :: GT
def f_X9_topOf_2 (t : Nat) (x1 : Int32) (x2 : Int32) : Nat → Int32 → HS → Option (Int32 × HS)
  | 0, _, _ => none
  | n + 1, x3, σ =>
    if 8 ≤ x3 then
      rk (σ.2.2 t 2) 15 fun a1 =>
      (f_X9_greatestOf x1 a1 σ).bind fun q2 =>
      some (q2.1, q2.2)
    else
      rk (σ.2.2 t 2) 15 fun a3 =>
      rk (σ.2.2 t 1) 18 fun a4 =>
      ck x3 (ln a4) (rk (σ.2.2 a4 x3.toNatClampNeg) 14 fun a5 =>
      ck x2 (ln a5) (
      ck x3 (ln a3) (
      (f_X9_topOf_2 t x1 x2 n) (x3 + 1) (sJ σ a3 x3.toNatClampNeg ((σ.1 a5 x2.toNatClampNeg).toInt64)))))
def f_X9_topOf (t : Nat) (x1 : Int32) (x2 : Int32) (σ : HS) : Option (Int32 × HS) :=
    f_X9_topOf_2 t x1 x2 FU 0 σ
def w_X9_leastValue : List Cond := Cond.code yX9_leastValue cX9_leastValue 5 (some .int) :: GT
def f_X9_leastValue_6 (t : Nat) (x1 : Int32) (x2 : Int32) : Nat → Int32 → Int32 → HS → Option (Int32 × HS)
  | 0, _, _, _ => none
  | n + 1, x3, x4, σ =>
    if x2 ≤ x4 then
      some (x3, σ)
    else
      rk (σ.2.2 t 1) 18 fun a1 =>
      ck x1 (ln a1) (rk (σ.2.2 a1 x1.toNatClampNeg) 14 fun a2 =>
      ck x4 (ln a2) (
      (f_J9_min_7cf53 x3 (σ.1 a2 x4.toNatClampNeg) σ).bind fun q3 =>
      (f_X9_leastValue_6 t x1 x2 n) q3.1 (x4 + 1) q3.2))
def f_X9_leastValue (t : Nat) (x1 : Int32) (x2 : Int32) (σ : HS) : Option (Int32 × HS) :=
    f_X9_leastValue_6 t x1 x2 FU 100 0 σ
def w_X9_bestAtWorst : List Cond := Cond.code yX9_bestAtWorst cX9_bestAtWorst 3 (some .int) :: GT
def f_X9_bestAtWorst_2 (t : Nat) (x1 : Int32) : Nat → Int32 → HS → Option (Int32 × HS)
  | 0, _, _ => none
  | n + 1, x2, σ =>
    if 8 ≤ x2 then
      rk (σ.2.2 t 2) 15 fun a1 =>
      (f_X9_greatestOf (σ.1 t 4) a1 σ).bind fun q2 =>
      some (q2.1, q2.2)
    else
      rk (σ.2.2 t 2) 15 fun a3 =>
      (f_X9_leastValue t x2 x1 σ).bind fun q4 =>
      ck x2 (ln a3) (
      (f_X9_bestAtWorst_2 t x1 n) (x2 + 1) (sJ q4.2 a3 x2.toNatClampNeg q4.1.toInt64))
def f_X9_bestAtWorst (t : Nat) (x1 : Int32) (σ : HS) : Option (Int32 × HS) :=
    f_X9_bestAtWorst_2 t x1 FU 0 σ
def w_X10_theyCan : List Cond := Cond.code yX10_theyCan cX10_theyCan 1 (some .boolean) :: GT
def f_X10_theyCan_15 (s0 : Int32) (σ : HS) : Option (Int32 × HS) :=
    zr s0 σ
def f_X10_theyCan (t : Nat) (σ : HS) : Option (Int32 × HS) :=
    rk (σ.2.2 t 2) 1 fun a1 =>
    if (σ.1 a1 5) ≤ 0 then
      f_X10_theyCan_15 0 σ
    else
      f_X10_theyCan_15 1 σ
def w_X10_cutBy : List Cond := Cond.code yX10_cutBy cX10_cutBy 4 (some (.object "EveryMeasure$Cone")) :: GT
def f_X10_cutBy_57 (r17 : Int32 → Int32 → HS → Option (Nat × HS)) (t : Nat) (x1 : Int32) (x2 : Int32) (x3 : Int32) (σ : HS) : Option (Nat × HS) :=
    r17 x2 (x3 + 1) σ
def f_X10_cutBy_17 (t : Nat) (x1 : Int32) : Nat → Int32 → Int32 → HS → Option (Nat × HS)
  | 0, _, _, _ => none
  | n + 1, x2, x3, σ =>
    if 12 ≤ x3 then
      rk (σ.2.2 t 3) 17 fun a1 =>
      ck x2 (ln a1) (rk (σ.2.2 a1 x2.toNatClampNeg) 1 fun a2 =>
      some (a2, σ))
    else
      if (x1 &&& ((1 : Int32) <<< (x3 &&& 31))) = 0 then
        f_X10_cutBy_57 (f_X10_cutBy_17 t x1 n) t x1 x2 x3 σ
      else
        rk (σ.2.2 t 3) 17 fun a3 =>
        ck (x2 + 1) (ln a3) (rk (σ.2.2 a3 (x2 + 1).toNatClampNeg) 1 fun a4 =>
        rk (σ.2.2 t 3) 17 fun a5 =>
        ck x2 (ln a5) (rk (σ.2.2 a5 x2.toNatClampNeg) 1 fun a6 =>
        rk (σ.2.2 t 0) 18 fun a7 =>
        ck x3 (ln a7) (rk (σ.2.2 a7 x3.toNatClampNeg) 14 fun a8 =>
        (f_X1_becomeCut a4 a6 a8 σ).bind fun q9 =>
        f_X10_cutBy_57 (f_X10_cutBy_17 t x1 n) t x1 (x2 + 1) x3 q9)))
def f_X10_cutBy (t : Nat) (x1 : Int32) (σ : HS) : Option (Nat × HS) :=
    rk (σ.2.2 t 3) 17 fun a1 =>
    ck 0 (ln a1) (rk (σ.2.2 a1 (0 : Int32).toNatClampNeg) 1 fun a2 =>
    rk (σ.2.2 t 1) 1 fun a3 =>
    (f_X1_become a2 a3 σ).bind fun q4 =>
    f_X10_cutBy_17 t x1 FU 0 0 q4)
def w_X10_workOut : List Cond := Cond.code yX10_workOut cX10_workOut 6 none :: GT
def f_X10_workOut_3 (t : Nat) (x1 : Nat) (x2 : Nat) (x3 : Int32) (x4 : Int32) : Nat → Int32 → HS → Option HS
  | 0, _, _ => none
  | n + 1, x5, σ =>
    if (σ.1 x1 9) ≤ x5 then
      (f_X0_sayingsOf x1 x3 σ).bind fun q1 =>
      rk ((sI q1.2 t 4 q1.1).2.2 t 1) 1 fun a2 =>
      (f_X1_becomeWhole a2 x4 (sI q1.2 t 4 q1.1)).bind fun q3 =>
      rk (q3.2.2 t 2) 1 fun a4 =>
      (f_X10_cutBy t (q3.1 t 4) q3).bind fun q5 =>
      rk (some q5.1) 1 fun a6 =>
      (f_X1_become a4 a6 q5.2).bind fun q7 =>
      rk (q7.2.2 t 2) 1 fun a8 =>
      (f_X1_sort a8 q7).bind fun q9 =>
      some q9
    else
      rk (σ.2.2 t 0) 18 fun a10 =>
      ck x5 (ln a10) (rk (σ.2.2 a10 x5.toNatClampNeg) 14 fun a11 =>
      (f_X0_fillRow x1 x5 a11 x2 x4 σ).bind fun q12 =>
      (f_X10_workOut_3 t x1 x2 x3 x4 n) (x5 + 1) q12)
def f_X10_workOut (t : Nat) (x1 : Nat) (x2 : Nat) (x3 : Int32) (x4 : Int32) (σ : HS) : Option HS :=
    f_X10_workOut_3 t x1 x2 x3 x4 FU 0 σ
def w_X11_beginWith : List Cond := Cond.code yX11_beginWith cX11_beginWith 2 none :: GT
def f_X11_beginWith (t : Nat) (x1 : Int32) (σ : HS) : Option HS :=
    rk ((sI σ t 16 x1).2.2 t 2) 9 fun a1 =>
    rk ((sI (sI σ t 16 x1) a1 3 0).2.2 t 14) 0 fun a2 =>
    (f_X0_clear a2 (sI (sI σ t 16 x1) a1 3 0)).bind fun q3 =>
    some (sI (sI (sI q3 t 13 0) t 17 255) t 18 1)
def w_X11_measures : List Cond := Cond.code yX11_measures cX11_measures 2 (some .boolean) :: GT
def f_X11_measures_10 (σ : HS) : Option (Int32 × HS) :=
    some (0, σ)
def f_X11_measures (t : Nat) (x1 : Int32) (σ : HS) : Option (Int32 × HS) :=
    if x1 < 1 then
      f_X11_measures_10 σ
    else
      if x1 ≤ 4 then
        (f_X11_beginWith t x1 σ).bind fun q1 =>
        some (1, q1)
      else
        f_X11_measures_10 σ
def w_X11_takeGiven : List Cond := Cond.code yX11_takeGiven cX11_takeGiven 7 (some .boolean) :: GT
def f_X11_takeGiven_80 (σ : HS) : Option (Int32 × HS) :=
    some (0, σ)
def f_X11_takeGiven_82 (r32 : Int32 → HS → Option (Int32 × HS)) (t : Nat) (x5 : Int32) (x6 : Int32) (σ : HS) : Option (Int32 × HS) :=
    r32 (x6 + 1) σ
def f_X11_takeGiven_32 (t : Nat) (x5 : Int32) : Nat → Int32 → HS → Option (Int32 × HS)
  | 0, _, _ => none
  | n + 1, x6, σ =>
    if 4 ≤ x6 then
      some (1, σ)
    else
      if x6 < (σ.1 t 16) then
        rk (σ.2.2 t 9) 14 fun a1 =>
        ck x6 (ln a1) (
        if (σ.1 a1 x6.toNatClampNeg) < 0 then
          f_X11_takeGiven_80 σ
        else
          rk (σ.2.2 t 9) 14 fun a2 =>
          ck x6 (ln a2) (
          if (σ.1 a2 x6.toNatClampNeg) ≤ x5 then
            f_X11_takeGiven_82 (f_X11_takeGiven_32 t x5 n) t x5 x6 σ
          else
            f_X11_takeGiven_80 σ))
      else
        rk (σ.2.2 t 9) 14 fun a3 =>
        ck x6 (ln a3) (
        f_X11_takeGiven_82 (f_X11_takeGiven_32 t x5 n) t x5 x6 (sI σ a3 x6.toNatClampNeg 0))
def f_X11_takeGiven (t : Nat) (x1 : Int32) (x2 : Int32) (x3 : Int32) (x4 : Int32) (x5 : Int32) (σ : HS) : Option (Int32 × HS) :=
    rk (σ.2.2 t 9) 14 fun a1 =>
    ck 0 (ln a1) (
    rk ((sI σ a1 (0 : Int32).toNatClampNeg x1).2.2 t 9) 14 fun a2 =>
    ck 1 (ln a2) (
    rk ((sI (sI σ a1 (0 : Int32).toNatClampNeg x1) a2 (1 : Int32).toNatClampNeg x2).2.2 t 9) 14 fun a3 =>
    ck 2 (ln a3) (
    rk ((sI (sI (sI σ a1 (0 : Int32).toNatClampNeg x1) a2 (1 : Int32).toNatClampNeg x2) a3 (2 : Int32).toNatClampNeg x3).2.2 t 9) 14 fun a4 =>
    ck 3 (ln a4) (
    f_X11_takeGiven_32 t x5 FU 0 (sI (sI (sI (sI σ a1 (0 : Int32).toNatClampNeg x1) a2 (1 : Int32).toNatClampNeg x2) a3 (2 : Int32).toNatClampNeg x3) a4 (3 : Int32).toNatClampNeg x4)))))
def w_X11_thing : List Cond := Cond.code yX11_thing cX11_thing 6 (some .boolean) :: GT
def f_X11_thing_25 (σ : HS) : Option (Int32 × HS) :=
    some (0, σ)
def f_X11_thing (t : Nat) (x1 : Int32) (x2 : Int32) (x3 : Int32) (x4 : Int32) (x5 : Int32) (σ : HS) : Option (Int32 × HS) :=
    if x1 < 0 then
      f_X11_thing_25 σ
    else
      if 8 ≤ x1 then
        f_X11_thing_25 σ
      else
        (f_X11_takeGiven t x2 x3 x4 x5 100 σ).bind fun q1 =>
        if q1.1 = 0 then
          f_X11_thing_25 q1.2
        else
          rk (q1.2.2.2 t 2) 9 fun a2 =>
          rk (q1.2.2.2 t 9) 14 fun a3 =>
          (f_X9_tell a2 x1 a3 q1.2).bind fun q4 =>
          some (1, sI q4 t 18 1)
def w_X11_drop : List Cond := Cond.code yX11_drop cX11_drop 2 (some .boolean) :: GT
def f_X11_drop (t : Nat) (x1 : Int32) (σ : HS) : Option (Int32 × HS) :=
    rk (σ.2.2 t 2) 9 fun a1 =>
    (f_X9_isTold a1 x1 σ).bind fun q2 =>
    if q2.1 = 0 then
      some (0, q2.2)
    else
      rk (q2.2.2.2 t 2) 9 fun a3 =>
      some (1, sI (sI q2.2 a3 3 ((q2.2.1 a3 3) &&& (((1 : Int32) <<< (x1 &&& 31)) ^^^ (-1)))) t 18 1)
def w_X11_feed : List Cond := Cond.code yX11_feed cX11_feed 7 (some .int) :: GT
def f_X11_feed (t : Nat) (x1 : Int64) (x3 : Int64) (x5 : Int64) (σ : HS) : Option (Int32 × HS) :=
    rk (σ.2.2 t 0) 8 fun a1 =>
    (f_X8_put a1 x1 σ).bind fun q2 =>
    rk (q2.2.2 t 0) 8 fun a3 =>
    (f_X8_put a3 x3 q2).bind fun q4 =>
    rk (q4.2.2 t 0) 8 fun a5 =>
    (f_X8_put a5 x5 q4).bind fun q6 =>
    rk (q6.2.2 t 0) 8 fun a7 =>
    some (q6.1 a7 1, q6)
def w_X11_voices : List Cond := Cond.code yX11_voices cX11_voices 2 (some .boolean) :: GT
def f_X11_voices_11 (σ : HS) : Option (Int32 × HS) :=
    some (0, σ)
def f_X11_voices (t : Nat) (x1 : Int32) (σ : HS) : Option (Int32 × HS) :=
    if x1 < 0 then
      f_X11_voices_11 σ
    else
      if x1 ≤ 255 then
        some (1, sI (sI σ t 17 x1) t 18 1)
      else
        f_X11_voices_11 σ
def w_X11_freshen : List Cond := Cond.code yX11_freshen cX11_freshen 1 none :: GT
def f_X11_freshen_50 (σ : HS) : Option HS :=
    some σ
def f_X11_freshen (t : Nat) (σ : HS) : Option HS :=
    if (σ.1 t 18) = 0 then
      f_X11_freshen_50 σ
    else
      rk (σ.2.2 t 2) 9 fun a1 =>
      rk (σ.2.2 t 14) 0 fun a2 =>
      (f_X9_valueBy a1 a2 (σ.1 t 16) σ).bind fun q3 =>
      rk (q3.2.2 t 3) 10 fun a4 =>
      rk (q3.2.2 t 14) 0 fun a5 =>
      rk (q3.2.2 t 2) 9 fun a6 =>
      (f_X10_workOut a4 a5 a6 (q3.1 t 17) (q3.1 t 16) q3).bind fun q7 =>
      f_X11_freshen_50 (sI q7 t 18 0)
def w_X11_standing : List Cond := Cond.code yX11_standing cX11_standing 2 (some .int) :: GT
def f_X11_standing_33 (s0 : Int32) (σ : HS) : Option (Int32 × HS) :=
    some (s0, σ)
def f_X11_standing (t : Nat) (x1 : Int32) (σ : HS) : Option (Int32 × HS) :=
    (f_X11_freshen t σ).bind fun q1 =>
    rk (q1.2.2 t 2) 9 fun a2 =>
    (f_X9_isTold a2 x1 q1).bind fun q3 =>
    if q3.1 = 0 then
      some ((-1), q3.2)
    else
      rk (q3.2.2.2 t 2) 9 fun a4 =>
      (f_X9_isIn a4 x1 q3.2).bind fun q5 =>
      if q5.1 = 0 then
        f_X11_standing_33 0 q5.2
      else
        f_X11_standing_33 1 q5.2
def w_X11_sumOfGiven : List Cond := Cond.code yX11_sumOfGiven cX11_sumOfGiven 1 (some .int) :: GT
def f_X11_sumOfGiven (t : Nat) (σ : HS) : Option (Int32 × HS) :=
    rk (σ.2.2 t 9) 14 fun a1 =>
    ck 0 (ln a1) (
    rk (σ.2.2 t 9) 14 fun a2 =>
    ck 1 (ln a2) (
    rk (σ.2.2 t 9) 14 fun a3 =>
    ck 2 (ln a3) (
    rk (σ.2.2 t 9) 14 fun a4 =>
    ck 3 (ln a4) (
    some ((((σ.1 a1 (0 : Int32).toNatClampNeg) + (σ.1 a2 (1 : Int32).toNatClampNeg)) + (σ.1 a3 (2 : Int32).toNatClampNeg)) + (σ.1 a4 (3 : Int32).toNatClampNeg), σ)))))
def w_X11_takeWeights : List Cond := Cond.code yX11_takeWeights cX11_takeWeights 5 (some .boolean) :: GT
def f_X11_takeWeights_27 (s0 : Int32) (σ : HS) : Option (Int32 × HS) :=
    zr s0 σ
def f_X11_takeWeights_26 (σ : HS) : Option (Int32 × HS) :=
    f_X11_takeWeights_27 0 σ
def f_X11_takeWeights (t : Nat) (x1 : Int32) (x2 : Int32) (x3 : Int32) (x4 : Int32) (σ : HS) : Option (Int32 × HS) :=
    (f_X11_takeGiven t x1 x2 x3 x4 999 σ).bind fun q1 =>
    if q1.1 = 0 then
      f_X11_takeWeights_26 q1.2
    else
      (f_X11_sumOfGiven t q1.2).bind fun q2 =>
      if q2.1 ≤ 0 then
        f_X11_takeWeights_26 q2.2
      else
        f_X11_takeWeights_27 1 q2.2
def w_X11_isPart : List Cond := Cond.code yX11_isPart cX11_isPart 1 (some .boolean) :: GT
def f_X11_isPart_14 (s0 : Int32) (σ : HS) : Option (Int32 × HS) :=
    zr s0 σ
def f_X11_isPart_9 (σ : HS) : Option (Int32 × HS) :=
    f_X11_isPart_14 1 σ
def f_X11_isPart (x0 : Int32) (σ : HS) : Option (Int32 × HS) :=
    if x0 = 0 then
      f_X11_isPart_9 σ
    else
      if x0 = 1 then
        f_X11_isPart_9 σ
      else
        f_X11_isPart_14 0 σ
def w_X11_productWithGiven : List Cond := Cond.code yX11_productWithGiven cX11_productWithGiven 2 (some .int) :: GT
def f_X11_productWithGiven (t : Nat) (x1 : Nat) (σ : HS) : Option (Int32 × HS) :=
    ck 0 (ln x1) (
    rk (σ.2.2 t 9) 14 fun a1 =>
    ck 0 (ln a1) (
    ck 1 (ln x1) (
    rk (σ.2.2 t 9) 14 fun a2 =>
    ck 1 (ln a2) (
    ck 2 (ln x1) (
    rk (σ.2.2 t 9) 14 fun a3 =>
    ck 2 (ln a3) (
    ck 3 (ln x1) (
    rk (σ.2.2 t 9) 14 fun a4 =>
    ck 3 (ln a4) (
    some (((((σ.1 x1 (0 : Int32).toNatClampNeg) * (σ.1 a1 (0 : Int32).toNatClampNeg)) + ((σ.1 x1 (1 : Int32).toNatClampNeg) * (σ.1 a2 (1 : Int32).toNatClampNeg))) + ((σ.1 x1 (2 : Int32).toNatClampNeg) * (σ.1 a3 (2 : Int32).toNatClampNeg))) + ((σ.1 x1 (3 : Int32).toNatClampNeg) * (σ.1 a4 (3 : Int32).toNatClampNeg)), σ)))))))))
def w_X11_good : List Cond := Cond.code yX11_good cX11_good 7 (some .int) :: GT
def f_X11_good_36 (σ : HS) : Option (Int32 × HS) :=
    some ((-1), σ)
def f_X11_good (t : Nat) (x1 : Int32) (x2 : Int32) (x3 : Int32) (x4 : Int32) (x5 : Int32) (x6 : Int32) (σ : HS) : Option (Int32 × HS) :=
    (f_X11_freshen t σ).bind fun q1 =>
    rk (q1.2.2 t 2) 9 fun a2 =>
    (f_X9_isTold a2 x1 q1).bind fun q3 =>
    if q3.1 = 0 then
      f_X11_good_36 q3.2
    else
      (f_X11_takeWeights t x2 x3 x4 x5 q3.2).bind fun q4 =>
      if q4.1 = 0 then
        f_X11_good_36 q4.2
      else
        (f_X11_isPart x6 q4.2).bind fun q5 =>
        if q5.1 = 0 then
          f_X11_good_36 q5.2
        else
          rk (q5.2.2.2 t 8) 3 fun a6 =>
          rk (q5.2.2.2 t 2) 9 fun a7 =>
          rk (q5.2.2.2 a7 1) 18 fun a8 =>
          ck x1 (ln a8) (rk (q5.2.2.2 a8 x1.toNatClampNeg) 14 fun a9 =>
          (f_X11_productWithGiven t a9 q5.2).bind fun q10 =>
          (f_X11_sumOfGiven t q10.2).bind fun q11 =>
          (f_X3_become a6 q10.1.toInt64 q11.1.toInt64 q11.2).bind fun q12 =>
          rk (q12.2.2 t 8) 3 fun a13 =>
          (f_X3_reduce a13 q12).bind fun q14 =>
          rk (q14.2.2 t 8) 3 fun a15 =>
          (f_X3_part a15 x6 q14).bind fun q16 =>
          some (q16.1.toInt32, q16.2))
def w_X11_fits : List Cond := Cond.code yX11_fits cX11_fits 6 (some .int) :: GT
def f_X11_fits_62 (r21 : Int32 → HS → Option (Int32 × HS)) (t : Nat) (x5 : Int32) (σ : HS) : Option (Int32 × HS) :=
    r21 (x5 + 1) σ
def f_X11_fits_21 (t : Nat) : Nat → Int32 → HS → Option (Int32 × HS)
  | 0, _, _ => none
  | n + 1, x5, σ =>
    if 12 ≤ x5 then
      some (1, σ)
    else
      rk (σ.2.2 t 3) 10 fun a1 =>
      if ((σ.1 a1 4) &&& ((1 : Int32) <<< (x5 &&& 31))) = 0 then
        f_X11_fits_62 (f_X11_fits_21 t n) t x5 σ
      else
        rk (σ.2.2 t 3) 10 fun a2 =>
        rk (σ.2.2 a2 0) 18 fun a3 =>
        ck x5 (ln a3) (rk (σ.2.2 a3 x5.toNatClampNeg) 14 fun a4 =>
        (f_X11_productWithGiven t a4 σ).bind fun q5 =>
        if 0 ≤ q5.1 then
          f_X11_fits_62 (f_X11_fits_21 t n) t x5 q5.2
        else
          some (0, q5.2))
def f_X11_fits (t : Nat) (x1 : Int32) (x2 : Int32) (x3 : Int32) (x4 : Int32) (σ : HS) : Option (Int32 × HS) :=
    (f_X11_freshen t σ).bind fun q1 =>
    (f_X11_takeWeights t x1 x2 x3 x4 q1).bind fun q2 =>
    if q2.1 = 0 then
      some ((-1), q2.2)
    else
      f_X11_fits_21 t FU 0 q2.2
def w_X11_hasMeasure : List Cond := Cond.code yX11_hasMeasure cX11_hasMeasure 2 (some .boolean) :: GT
def f_X11_hasMeasure_17 (s0 : Int32) (σ : HS) : Option (Int32 × HS) :=
    zr s0 σ
def f_X11_hasMeasure_16 (σ : HS) : Option (Int32 × HS) :=
    f_X11_hasMeasure_17 0 σ
def f_X11_hasMeasure (t : Nat) (x1 : Int32) (σ : HS) : Option (Int32 × HS) :=
    if x1 < 0 then
      f_X11_hasMeasure_16 σ
    else
      if (σ.1 t 16) ≤ x1 then
        f_X11_hasMeasure_16 σ
      else
        f_X11_hasMeasure_17 1 σ
def w_X11_corner : List Cond := Cond.code yX11_corner cX11_corner 3 (some .long) :: GT
def f_X11_corner_30 (σ : HS) : Option (Int64 × HS) :=
    some ((-1), σ)
def f_X11_corner (t : Nat) (x1 : Int32) (x2 : Int32) (σ : HS) : Option (Int64 × HS) :=
    (f_X11_freshen t σ).bind fun q1 =>
    if x1 < 0 then
      f_X11_corner_30 q1
    else
      rk (q1.2.2 t 3) 10 fun a2 =>
      rk (q1.2.2 a2 2) 1 fun a3 =>
      if (q1.1 a3 5) ≤ x1 then
        f_X11_corner_30 q1
      else
        (f_X11_hasMeasure t x2 q1).bind fun q4 =>
        if q4.1 = 0 then
          f_X11_corner_30 q4.2
        else
          rk (q4.2.2.2 t 3) 10 fun a5 =>
          rk (q4.2.2.2 a5 2) 1 fun a6 =>
          (f_X1_weight a6 x1 x2 q4.2).bind fun q7 =>
          some (q7.1, q7.2)
def w_X11_sizeOrSet : List Cond := Cond.code yX11_sizeOrSet cX11_sizeOrSet 2 (some .int) :: GT
def f_X11_sizeOrSet_18 (s0 : Int32) (σ : HS) : Option (Int32 × HS) :=
    some (s0, σ)
def f_X11_sizeOrSet_10 (x0 : Int32) (σ : HS) : Option (Int32 × HS) :=
    f_X11_sizeOrSet_18 x0 σ
def f_X11_sizeOrSet (x0 : Int32) (x1 : Int32) (σ : HS) : Option (Int32 × HS) :=
    if x0 = (-1) then
      f_X11_sizeOrSet_10 x0 σ
    else
      if x1 = 1 then
        f_X11_sizeOrSet_10 x0 σ
      else
        (f_J6_bitCount_0f7a4 x0 σ).bind fun q1 =>
        f_X11_sizeOrSet_18 q1.1 q1.2
def w_X11_small : List Cond := Cond.code yX11_small cX11_small 2 (some .int) :: GT
def f_X11_small_21 (σ : HS) : Option (Int32 × HS) :=
    some ((-1), σ)
def f_X11_small (t : Nat) (x1 : Int32) (σ : HS) : Option (Int32 × HS) :=
    (f_X11_freshen t σ).bind fun q1 =>
    (f_X11_isPart x1 q1).bind fun q2 =>
    if q2.1 = 0 then
      f_X11_small_21 q2.2
    else
      rk (q2.2.2.2 t 3) 10 fun a3 =>
      (f_X10_theyCan a3 q2.2).bind fun q4 =>
      if q4.1 = 0 then
        rk (q4.2.2.2 t 5) 5 fun a5 =>
        rk (q4.2.2.2 t 3) 10 fun a6 =>
        rk (q4.2.2.2 a6 0) 18 fun a7 =>
        rk (q4.2.2.2 t 3) 10 fun a8 =>
        (f_X5_among a5 a7 (q4.2.1 a8 4) q4.2).bind fun q9 =>
        rk (q9.2.2 t 5) 5 fun a10 =>
        rk (q9.2.2 t 3) 10 fun a11 =>
        rk (q9.2.2 a11 1) 1 fun a12 =>
        rk (q9.2.2 t 11) 14 fun a13 =>
        (f_X5_fewest a10 a12 4 a13 q9).bind fun q14 =>
        (f_X11_sizeOrSet q14.1 x1 q14.2).bind fun q15 =>
        some (q15.1, q15.2)
      else
        f_X11_small_21 q4.2
def w_X11_better : List Cond := Cond.code yX11_better cX11_better 3 (some .int) :: GT
def f_X11_better (t : Nat) (x1 : Int32) (x2 : Int32) (σ : HS) : Option (Int32 × HS) :=
    (f_X11_freshen t σ).bind fun q1 =>
    rk (q1.2.2 t 4) 4 fun a2 =>
    rk (q1.2.2 t 3) 10 fun a3 =>
    rk (q1.2.2 a3 2) 1 fun a4 =>
    (f_X4_compare a2 a4 x1 x2 q1).bind fun q5 =>
    some (q5.1, q5.2)
def w_X11_best : List Cond := Cond.code yX11_best cX11_best 2 (some .int) :: GT
def f_X11_best_21 (σ : HS) : Option (Int32 × HS) :=
    some ((-1), σ)
def f_X11_best_51 (s0 : Int32) (σ : HS) : Option (Int32 × HS) :=
    some (s0, σ)
def f_X11_best (t : Nat) (x1 : Int32) (σ : HS) : Option (Int32 × HS) :=
    (f_X11_freshen t σ).bind fun q1 =>
    (f_X11_isPart x1 q1).bind fun q2 =>
    if q2.1 = 0 then
      f_X11_best_21 q2.2
    else
      rk (q2.2.2.2 t 3) 10 fun a3 =>
      (f_X10_theyCan a3 q2.2).bind fun q4 =>
      if q4.1 = 0 then
        f_X11_best_21 q4.2
      else
        if x1 = 0 then
          rk (q4.2.2.2 t 4) 4 fun a9 =>
          (f_X4_mayBeBest a9 q4.2).bind fun q10 =>
          f_X11_best_51 q10.1 q10.2
        else
          rk (q4.2.2.2 t 4) 4 fun a5 =>
          rk (q4.2.2.2 t 3) 10 fun a6 =>
          rk (q4.2.2.2 a6 2) 1 fun a7 =>
          (f_X4_surelyBest a5 a7 q4.2).bind fun q8 =>
          f_X11_best_51 q8.1 q8.2
def w_X11_regret : List Cond := Cond.code yX11_regret cX11_regret 3 (some .long) :: GT
def f_X11_regret_32 (σ : HS) : Option (Int64 × HS) :=
    some ((-1), σ)
def f_X11_regret (t : Nat) (x1 : Int32) (x2 : Int32) (σ : HS) : Option (Int64 × HS) :=
    (f_X11_freshen t σ).bind fun q1 =>
    (f_X11_isPart x2 q1).bind fun q2 =>
    if q2.1 = 0 then
      f_X11_regret_32 q2.2
    else
      rk (q2.2.2.2 t 2) 9 fun a3 =>
      (f_X9_isIn a3 x1 q2.2).bind fun q4 =>
      if q4.1 = 0 then
        f_X11_regret_32 q4.2
      else
        rk (q4.2.2.2 t 3) 10 fun a5 =>
        (f_X10_theyCan a5 q4.2).bind fun q6 =>
        if q6.1 = 0 then
          f_X11_regret_32 q6.2
        else
          rk (q6.2.2.2 t 4) 4 fun a7 =>
          rk (q6.2.2.2 t 8) 3 fun a8 =>
          (f_X4_fillRegret a7 x1 a8 q6.2).bind fun q9 =>
          rk (q9.2.2 t 8) 3 fun a10 =>
          (f_X3_reduce a10 q9).bind fun q11 =>
          rk (q11.2.2 t 8) 3 fun a12 =>
          (f_X3_part a12 x2 q11).bind fun q13 =>
          some (q13.1, q13.2)
def w_X11_least : List Cond := Cond.code yX11_least cX11_least 1 (some .int) :: GT
def f_X11_least_29 (s0 : Int32) (σ : HS) : Option (Int32 × HS) :=
    some (s0, σ)
def f_X11_least (t : Nat) (σ : HS) : Option (Int32 × HS) :=
    (f_X11_freshen t σ).bind fun q1 =>
    rk (q1.2.2 t 3) 10 fun a2 =>
    (f_X10_theyCan a2 q1).bind fun q3 =>
    if q3.1 = 0 then
      f_X11_least_29 (-1) q3.2
    else
      rk (q3.2.2.2 t 4) 4 fun a4 =>
      rk (q3.2.2.2 t 8) 3 fun a5 =>
      (f_X4_leastRegret a4 a5 q3.2).bind fun q6 =>
      f_X11_least_29 q6.1 q6.2
def w_X11_beaten : List Cond := Cond.code yX11_beaten cX11_beaten 2 (some .int) :: GT
def f_X11_beaten_36 (σ : HS) : Option (Int32 × HS) :=
    some ((-1), σ)
def f_X11_beaten (t : Nat) (x1 : Int32) (σ : HS) : Option (Int32 × HS) :=
    (f_X11_freshen t σ).bind fun q1 =>
    rk (q1.2.2 t 2) 9 fun a2 =>
    (f_X9_isIn a2 x1 q1).bind fun q3 =>
    if q3.1 = 0 then
      f_X11_beaten_36 q3.2
    else
      rk (q3.2.2.2 t 3) 10 fun a4 =>
      (f_X10_theyCan a4 q3.2).bind fun q5 =>
      if q5.1 = 0 then
        f_X11_beaten_36 q5.2
      else
        rk (q5.2.2.2 t 4) 4 fun a6 =>
        (f_X4_mayBeBest_ a6 x1 q5.2).bind fun q7 =>
        if q7.1 = 0 then
          rk (q7.2.2.2 t 5) 5 fun a8 =>
          rk (q7.2.2.2 t 4) 4 fun a9 =>
          (f_X4_leadsOf a9 x1 q7.2).bind fun q10 =>
          rk (some q10.1) 18 fun a11 =>
          rk (q10.2.2.2 t 2) 9 fun a12 =>
          (f_X5_among a8 a11 ((q10.2.1 a12 4) &&& (((1 : Int32) <<< (x1 &&& 31)) ^^^ (-1))) q10.2).bind fun q13 =>
          rk (q13.2.2 t 5) 5 fun a14 =>
          rk (q13.2.2 t 3) 10 fun a15 =>
          rk (q13.2.2 a15 2) 1 fun a16 =>
          rk (q13.2.2 t 11) 14 fun a17 =>
          (f_X5_fewest a14 a16 3 a17 q13).bind fun q18 =>
          some (q18.1, q18.2)
        else
          f_X11_beaten_36 q7.2
def w_X11_next : List Cond := Cond.code yX11_next cX11_next 3 (some .int) :: GT
def f_X11_next_37 (σ : HS) : Option (Int32 × HS) :=
    some ((-1), σ)
def f_X11_next_76 (s0 : Int32) (σ : HS) : Option (Int32 × HS) :=
    some (s0, σ)
def f_X11_next (t : Nat) (x1 : Int32) (σ : HS) : Option (Int32 × HS) :=
    (f_X11_freshen t σ).bind fun q1 =>
    if x1 < 0 then
      f_X11_next_37 q1
    else
      if 2 < x1 then
        f_X11_next_37 q1
      else
        rk (q1.2.2 t 3) 10 fun a2 =>
        (f_X10_theyCan a2 q1).bind fun q3 =>
        if q3.1 = 0 then
          f_X11_next_37 q3.2
        else
          rk (q3.2.2.2 t 2) 9 fun a4 =>
          (f_J6_bitCount_0f7a4 (q3.2.1 a4 4) q3.2).bind fun q5 =>
          if 2 ≤ q5.1 then
            rk (q5.2.2.2 t 4) 4 fun a6 =>
            (f_X4_partsMost a6 q5.2).bind fun q7 =>
            if x1 = 2 then
              rk (q7.2.2.2 t 4) 4 fun a8 =>
              (f_X4_greaterCount a8 q7.1 q7.2).bind fun q9 =>
              some (q9.1, q9.2)
            else
              if x1 = 0 then
                f_X11_next_76 (q7.1 / 8) q7.2
              else
                f_X11_next_76 (q7.1 - q7.1 / 8 * 8) q7.2
          else
            f_X11_next_37 q5.2
def w_X11_few : List Cond := Cond.code yX11_few cX11_few 1 (some .int) :: GT
def f_X11_few_35 (s0 : Int32) (σ : HS) : Option (Int32 × HS) :=
    some (s0, σ)
def f_X11_few_34 (σ : HS) : Option (Int32 × HS) :=
    f_X11_few_35 (-1) σ
def f_X11_few (t : Nat) (σ : HS) : Option (Int32 × HS) :=
    (f_X11_freshen t σ).bind fun q1 =>
    rk (q1.2.2 t 3) 10 fun a2 =>
    (f_X10_theyCan a2 q1).bind fun q3 =>
    if q3.1 = 0 then
      f_X11_few_34 q3.2
    else
      rk (q3.2.2.2 t 2) 9 fun a4 =>
      if (q3.2.1 a4 4) = 0 then
        f_X11_few_34 q3.2
      else
        rk (q3.2.2.2 t 4) 4 fun a5 =>
        (f_X4_fewQuestions a5 q3.2).bind fun q6 =>
        f_X11_few_35 q6.1 q6.2
def w_X11_need : List Cond := Cond.code yX11_need cX11_need 4 (some .int) :: GT
def f_X11_need_33 (σ : HS) : Option (Int32 × HS) :=
    some ((-1), σ)
def f_X11_need_60 (s0 : Int32) (σ : HS) : Option (Int32 × HS) :=
    some (s0, σ)
def f_X11_need (t : Nat) (x1 : Int32) (x2 : Int32) (x3 : Int32) (σ : HS) : Option (Int32 × HS) :=
    (f_X11_freshen t σ).bind fun q1 =>
    rk (q1.2.2 t 2) 9 fun a2 =>
    (f_X9_isIn a2 x1 q1).bind fun q3 =>
    if q3.1 = 0 then
      f_X11_need_33 q3.2
    else
      (f_X11_hasMeasure t x2 q3.2).bind fun q4 =>
      if q4.1 = 0 then
        f_X11_need_33 q4.2
      else
        rk (q4.2.2.2 t 3) 10 fun a5 =>
        (f_X10_theyCan a5 q4.2).bind fun q6 =>
        if q6.1 = 0 then
          f_X11_need_33 q6.2
        else
          if x3 = 0 then
            rk (q6.2.2.2 t 4) 4 fun a7 =>
            (f_X4_needToMaybe a7 x1 x2 q6.2).bind fun q8 =>
            f_X11_need_60 q8.1 q8.2
          else
            rk (q6.2.2.2 t 4) 4 fun a9 =>
            (f_X4_needToBeSure a9 x1 x2 q6.2).bind fun q10 =>
            f_X11_need_60 q10.1 q10.2
def w_X11_share : List Cond := Cond.code yX11_share cX11_share 9 (some .int) :: GT
def f_X11_share_31 (σ : HS) : Option (Int32 × HS) :=
    some ((-1), σ)
def f_X11_share_112 (t : Nat) (x2 : Int32) (x3 : Int32) (x5 : Int32) (x6 : Int32) (x7 : Int32) (r84 : Int32 → Int32 → HS → Option (Int32 × HS)) : Nat → Int32 → Int32 → HS → Option (Int32 × HS)
  | 0, _, _, _ => none
  | n + 1, x4, x8, σ =>
    if x7 < x8 then
      r84 x4 (x6 + 1) σ
    else
      rk (σ.2.2 t 7) 7 fun a1 =>
      (f_X7_open a1 (σ.1 t 16) x2 x6 x8 σ).bind fun q2 =>
      rk (q2.2.2 t 7) 7 fun a3 =>
      rk (q2.2.2 t 3) 10 fun a4 =>
      rk (q2.2.2 a4 0) 18 fun a5 =>
      rk (q2.2.2 t 3) 10 fun a6 =>
      (f_X7_narrowBy a3 a5 (q2.1 a6 4) q2).bind fun q7 =>
      rk (q7.2.2 t 7) 7 fun a8 =>
      rk (q7.2.2 t 4) 4 fun a9 =>
      rk (q7.2.2 a9 2) 18 fun a10 =>
      (f_X7_narrowBy a8 a10 x3 q7).bind fun q11 =>
      rk (q11.2.2 t 7) 7 fun a12 =>
      (f_X7_width a12 q11).bind fun q13 =>
      (f_X11_share_112 t x2 x3 x5 x6 x7 r84 n) (x4 + q13.1) (x8 + 1) q13.2
def f_X11_share_107 (r84 : Int32 → Int32 → HS → Option (Int32 × HS)) (t : Nat) (x2 : Int32) (x3 : Int32) (x4 : Int32) (x5 : Int32) (x6 : Int32) (s0 : Int32) (σ : HS) : Option (Int32 × HS) :=
    f_X11_share_112 t x2 x3 x5 x6 s0 r84 FU x4 0 σ
def f_X11_share_84 (t : Nat) (x2 : Int32) (x3 : Int32) (x5 : Int32) : Nat → Int32 → Int32 → HS → Option (Int32 × HS)
  | 0, _, _, _ => none
  | n + 1, x4, x6, σ =>
    if x5 < x6 then
      some (x4, σ)
    else
      if (σ.1 t 16) ≤ 3 then
        f_X11_share_107 (f_X11_share_84 t x2 x3 x5 n) t x2 x3 x4 x5 x6 0 σ
      else
        f_X11_share_107 (f_X11_share_84 t x2 x3 x5 n) t x2 x3 x4 x5 x6 (x2 - x6) σ
def f_X11_share_79 (t : Nat) (x2 : Int32) (x3 : Int32) (x4 : Int32) (s0 : Int32) (σ : HS) : Option (Int32 × HS) :=
    f_X11_share_84 t x2 x3 s0 FU x4 0 σ
def f_X11_share_63 (t : Nat) (x2 : Int32) (x3 : Int32) (σ : HS) : Option (Int32 × HS) :=
    if (σ.1 t 16) ≤ 2 then
      f_X11_share_79 t x2 x3 0 0 σ
    else
      f_X11_share_79 t x2 x3 0 x2 σ
def f_X11_share_33 (t : Nat) (x1 : Int32) (x2 : Int32) (σ : HS) : Option (Int32 × HS) :=
    if x1 = (-1) then
      f_X11_share_63 t x2 0 σ
    else
      rk (σ.2.2 t 2) 9 fun a1 =>
      rk (σ.2.2 t 4) 4 fun a2 =>
      (f_X4_leadsOf a2 x1 σ).bind fun q3 =>
      rk (some q3.1) 18 fun a4 =>
      f_X11_share_63 t x2 ((σ.1 a1 4) &&& (((1 : Int32) <<< (x1 &&& 31)) ^^^ (-1))) q3.2
def f_X11_share (t : Nat) (x1 : Int32) (x2 : Int32) (σ : HS) : Option (Int32 × HS) :=
    (f_X11_freshen t σ).bind fun q1 =>
    if x2 < 1 then
      f_X11_share_31 q1
    else
      if 20 < x2 then
        f_X11_share_31 q1
      else
        if x1 = (-1) then
          f_X11_share_33 t x1 x2 q1
        else
          rk (q1.2.2 t 2) 9 fun a2 =>
          (f_X9_isIn a2 x1 q1).bind fun q3 =>
          if q3.1 = 0 then
            f_X11_share_31 q3.2
          else
            f_X11_share_33 t x1 x2 q3.2
def w_X11_why : List Cond := Cond.code yX11_why cX11_why 4 (some .int) :: GT
def f_X11_why_31 (σ : HS) : Option (Int32 × HS) :=
    some ((-1), σ)
def f_X11_why (t : Nat) (x1 : Int32) (x2 : Int32) (x3 : Int32) (σ : HS) : Option (Int32 × HS) :=
    (f_X11_freshen t σ).bind fun q1 =>
    (f_X11_isPart x3 q1).bind fun q2 =>
    if q2.1 = 0 then
      f_X11_why_31 q2.2
    else
      rk (q2.2.2.2 t 4) 4 fun a3 =>
      rk (q2.2.2.2 t 3) 10 fun a4 =>
      rk (q2.2.2.2 a4 2) 1 fun a5 =>
      (f_X4_compare a3 a5 x1 x2 q2.2).bind fun q6 =>
      if q6.1 = 2 then
        rk (q6.2.2.2 t 2) 9 fun a7 =>
        rk (q6.2.2.2 t 10) 14 fun a8 =>
        (f_X9_fillLead a7 x1 x2 a8 q6.2).bind fun q9 =>
        rk (q9.2.2 t 5) 5 fun a10 =>
        rk (q9.2.2 t 3) 10 fun a11 =>
        rk (q9.2.2 a11 0) 18 fun a12 =>
        rk (q9.2.2 t 3) 10 fun a13 =>
        (f_X5_among a10 a12 (q9.1 a13 4) q9).bind fun q14 =>
        rk (q14.2.2 t 5) 5 fun a15 =>
        rk (q14.2.2 t 3) 10 fun a16 =>
        rk (q14.2.2 a16 1) 1 fun a17 =>
        rk (q14.2.2 t 10) 14 fun a18 =>
        (f_X5_fewest a15 a17 3 a18 q14).bind fun q19 =>
        (f_X11_sizeOrSet q19.1 x3 q19.2).bind fun q20 =>
        some (q20.1, q20.2)
      else
        f_X11_why_31 q6.2
def w_X11_holds : List Cond := Cond.code yX11_holds cX11_holds 4 (some .int) :: GT
def f_X11_holds_19 (σ : HS) : Option (Int32 × HS) :=
    some ((-1), σ)
def f_X11_holds (t : Nat) (x1 : Int32) (x2 : Int32) (x3 : Int32) (σ : HS) : Option (Int32 × HS) :=
    (f_X11_freshen t σ).bind fun q1 =>
    if x1 < 0 then
      f_X11_holds_19 q1
    else
      rk (q1.2.2 t 14) 0 fun a2 =>
      if x1 < (q1.1 a2 9) then
        rk (q1.2.2 t 4) 4 fun a3 =>
        rk (q1.2.2 t 3) 10 fun a4 =>
        rk (q1.2.2 t 3) 10 fun a5 =>
        (f_X10_cutBy a4 ((q1.1 a5 4) &&& (((1 : Int32) <<< (x1 &&& 31)) ^^^ (-1))) q1).bind fun q6 =>
        rk (some q6.1) 1 fun a7 =>
        (f_X4_compare a3 a7 x2 x3 q6.2).bind fun q8 =>
        some (q8.1, q8.2)
      else
        f_X11_holds_19 q1
def w_X11_edge : List Cond := Cond.code yX11_edge cX11_edge 4 (some .int) :: GT
def f_X11_edge_32 (σ : HS) : Option (Int32 × HS) :=
    some ((-1), σ)
def f_X11_edge (t : Nat) (x1 : Int32) (x2 : Int32) (x3 : Int32) (σ : HS) : Option (Int32 × HS) :=
    (f_X11_freshen t σ).bind fun q1 =>
    (f_X11_hasMeasure t x3 q1).bind fun q2 =>
    if q2.1 = 0 then
      f_X11_edge_32 q2.2
    else
      rk (q2.2.2.2 t 4) 4 fun a3 =>
      rk (q2.2.2.2 t 3) 10 fun a4 =>
      rk (q2.2.2.2 a4 2) 1 fun a5 =>
      (f_X4_compare a3 a5 x1 x2 q2.2).bind fun q6 =>
      if q6.1 = 2 then
        rk (q6.2.2.2 t 4) 4 fun a7 =>
        (f_X4_leastStillBetter a7 x1 x2 x3 q6.2).bind fun q8 =>
        some (q8.1, q8.2)
      else
        f_X11_edge_32 q6.2
def w_X11_agree : List Cond := Cond.code yX11_agree cX11_agree 2 (some .int) :: GT
def f_X11_agree (t : Nat) (x1 : Int32) (σ : HS) : Option (Int32 × HS) :=
    (f_X11_freshen t σ).bind fun q1 =>
    (f_X11_isPart x1 q1).bind fun q2 =>
    if q2.1 = 0 then
      some ((-1), q2.2)
    else
      rk (q2.2.2.2 t 6) 2 fun a3 =>
      rk (q2.2.2.2 t 14) 0 fun a4 =>
      (f_X2_mostThatAgree a3 a4 q2.2).bind fun q5 =>
      (f_X11_sizeOrSet q5.1 x1 q5.2).bind fun q6 =>
      some (q6.1, q6.2)
def w_X11_yields : List Cond := Cond.code yX11_yields cX11_yields 2 (some .int) :: GT
def f_X11_yields (t : Nat) (x1 : Int32) (σ : HS) : Option (Int32 × HS) :=
    (f_X11_freshen t σ).bind fun q1 =>
    (f_X11_isPart x1 q1).bind fun q2 =>
    if q2.1 = 0 then
      some ((-1), q2.2)
    else
      rk (q2.2.2.2 t 6) 2 fun a3 =>
      rk (q2.2.2.2 t 14) 0 fun a4 =>
      (f_X2_fewestThatYield a3 a4 (q2.2.1 t 17) q2.2).bind fun q5 =>
      (f_X11_sizeOrSet q5.1 x1 q5.2).bind fun q6 =>
      some (q6.1, q6.2)
def w_X11_row : List Cond := Cond.code yX11_row cX11_row 3 (some .boolean) :: GT
def f_X11_row_31 (σ : HS) : Option (Int32 × HS) :=
    some (0, σ)
def f_X11_row_35 (t : Nat) (x1 : Int32) : Nat → Int32 → HS → Option (Int32 × HS)
  | 0, _, _ => none
  | n + 1, x2, σ =>
    if (σ.1 t 13) ≤ x2 then
      rk (σ.2.2 t 12) 14 fun a1 =>
      ck (σ.1 t 13) (ln a1) (
      some (1, sI (sI σ a1 (σ.1 t 13).toNatClampNeg x1) t 13 (((sI σ a1 (σ.1 t 13).toNatClampNeg x1).1 t 13) + 1)))
    else
      rk (σ.2.2 t 12) 14 fun a2 =>
      ck x2 (ln a2) (
      if (σ.1 a2 x2.toNatClampNeg) = x1 then
        some (0, σ)
      else
        (f_X11_row_35 t x1 n) (x2 + 1) σ)
def f_X11_row (t : Nat) (x1 : Int32) (σ : HS) : Option (Int32 × HS) :=
    if x1 = (-1) then
      some (1, sI σ t 13 0)
    else
      if x1 < 0 then
        f_X11_row_31 σ
      else
        if 8 ≤ x1 then
          f_X11_row_31 σ
        else
          if (σ.1 t 13) < 8 then
            f_X11_row_35 t x1 FU 0 σ
          else
            f_X11_row_31 σ
def w_X11_judged : List Cond := Cond.code yX11_judged cX11_judged 3 (some .int) :: GT
def f_X11_judged_21 (σ : HS) : Option (Int32 × HS) :=
    some ((-1), σ)
def f_X11_judged_90 (s0 : Int32) (σ : HS) : Option (Int32 × HS) :=
    some (s0, σ)
def f_X11_judged_25 (t : Nat) (x1 : Int32) : Nat → Int32 → HS → Option (Int32 × HS)
  | 0, _, _ => none
  | n + 1, x2, σ =>
    if (σ.1 t 13) ≤ x2 then
      rk (σ.2.2 t 4) 4 fun a1 =>
      rk (σ.2.2 t 12) 14 fun a2 =>
      (f_X4_brokenPlace a1 a2 (σ.1 t 13) σ).bind fun q3 =>
      if x1 = 1 then
        some (q3.1, q3.2)
      else
        if q3.1 = (-1) then
          f_X11_judged_90 1 q3.2
        else
          f_X11_judged_90 0 q3.2
    else
      rk (σ.2.2 t 2) 9 fun a4 =>
      rk (σ.2.2 t 12) 14 fun a5 =>
      ck x2 (ln a5) (
      (f_X9_isIn a4 (σ.1 a5 x2.toNatClampNeg) σ).bind fun q6 =>
      if q6.1 = 0 then
        some ((-1), q6.2)
      else
        (f_X11_judged_25 t x1 n) (x2 + 1) q6.2)
def f_X11_judged (t : Nat) (x1 : Int32) (σ : HS) : Option (Int32 × HS) :=
    (f_X11_freshen t σ).bind fun q1 =>
    (f_X11_isPart x1 q1).bind fun q2 =>
    if q2.1 = 0 then
      f_X11_judged_21 q2.2
    else
      rk (q2.2.2.2 t 3) 10 fun a3 =>
      (f_X10_theyCan a3 q2.2).bind fun q4 =>
      if q4.1 = 0 then
        f_X11_judged_21 q4.2
      else
        f_X11_judged_25 t x1 FU 0 q4.2
def w_X11_worst : List Cond := Cond.code yX11_worst cX11_worst 1 (some .int) :: GT
def f_X11_worst (t : Nat) (σ : HS) : Option (Int32 × HS) :=
    (f_X11_freshen t σ).bind fun q1 =>
    rk (q1.2.2 t 2) 9 fun a2 =>
    (f_X9_bestAtWorst a2 (q1.1 t 16) q1).bind fun q3 =>
    some (q3.1, q3.2)
def w_X11_first : List Cond := Cond.code yX11_first cX11_first 6 (some .int) :: GT
def f_X11_first_97 (t : Nat) : Nat → Int32 → Int32 → HS → Option (Int32 × HS)
  | 0, _, _, _ => none
  | n + 1, x4, x5, σ =>
    if (σ.1 t 16) ≤ x5 then
      some (x4, σ)
    else
      rk (σ.2.2 t 2) 9 fun a1 =>
      rk (σ.2.2 t 10) 14 fun a2 =>
      ck x5 (ln a2) (
      (f_X9_topOf a1 x4 (σ.1 a2 x5.toNatClampNeg) σ).bind fun q3 =>
      (f_X11_first_97 t n) q3.1 (x5 + 1) q3.2)
def f_X11_first_55 (σ : HS) : Option (Int32 × HS) :=
    some ((-1), σ)
def f_X11_first_16 (t : Nat) : Nat → Int32 → Int32 → Int32 → HS → Option (Int32 × HS)
  | 0, _, _, _, _ => none
  | n + 1, x2, x3, x4, σ =>
    if x4 < 0 then
      if x2 = 0 then
        rk (σ.2.2 t 2) 9 fun a1 =>
        f_X11_first_97 t FU (σ.1 a1 4) 0 σ
      else
        some ((-1), σ)
    else
      if (x2 - x2 / 10 * 10) < 0 then
        f_X11_first_55 σ
      else
        if (σ.1 t 16) ≤ (x2 - x2 / 10 * 10) then
          f_X11_first_55 σ
        else
          if (x3 &&& ((1 : Int32) <<< ((x2 - x2 / 10 * 10) &&& 31))) = 0 then
            rk (σ.2.2 t 10) 14 fun a2 =>
            ck x4 (ln a2) (
            (f_X11_first_16 t n) (x2 / 10) (x3 ||| ((1 : Int32) <<< ((x2 - x2 / 10 * 10) &&& 31))) (x4 + (-1)) (sI σ a2 x4.toNatClampNeg (x2 - x2 / 10 * 10)))
          else
            f_X11_first_55 σ
def f_X11_first (t : Nat) (x1 : Int32) (σ : HS) : Option (Int32 × HS) :=
    (f_X11_freshen t σ).bind fun q1 =>
    f_X11_first_16 t FU x1 0 ((q1.1 t 16) - 1) q1
def w_X11_many : List Cond := Cond.code yX11_many cX11_many 2 (some .int) :: GT
def f_X11_many_25 (σ : HS) : Option (Int32 × HS) :=
    some ((-1), σ)
def f_X11_many (t : Nat) (x1 : Int32) (σ : HS) : Option (Int32 × HS) :=
    (f_X11_freshen t σ).bind fun q1 =>
    if x1 < 1 then
      f_X11_many_25 q1
    else
      if 100 < x1 then
        f_X11_many_25 q1
      else
        rk (q1.2.2 t 3) 10 fun a2 =>
        (f_X10_theyCan a2 q1).bind fun q3 =>
        if q3.1 = 0 then
          f_X11_many_25 q3.2
        else
          rk (q3.2.2.2 t 4) 4 fun a4 =>
          (f_X4_notOutdone a4 x1 q3.2).bind fun q5 =>
          some (q5.1, q5.2)
def w_X11_count : List Cond := Cond.code yX11_count cX11_count 2 (some .int) :: GT
def f_X11_count (t : Nat) (x1 : Int32) (σ : HS) : Option (Int32 × HS) :=
    (f_X11_freshen t σ).bind fun q1 =>
    if x1 = 0 then
      some (q1.1 t 16, q1)
    else if x1 = 1 then
      rk (q1.2.2 t 2) 9 fun a2 =>
      (f_J6_bitCount_0f7a4 (q1.1 a2 3) q1).bind fun q3 =>
      some (q3.1, q3.2)
    else if x1 = 2 then
      rk (q1.2.2 t 2) 9 fun a4 =>
      (f_J6_bitCount_0f7a4 (q1.1 a4 4) q1).bind fun q5 =>
      some (q5.1, q5.2)
    else if x1 = 3 then
      rk (q1.2.2 t 14) 0 fun a6 =>
      some (q1.1 a6 9, q1)
    else if x1 = 4 then
      rk (q1.2.2 t 3) 10 fun a7 =>
      (f_J6_bitCount_0f7a4 (q1.1 a7 4) q1).bind fun q8 =>
      some (q8.1, q8.2)
    else if x1 = 5 then
      rk (q1.2.2 t 0) 8 fun a9 =>
      some (q1.1 a9 1, q1)
    else if x1 = 6 then
      rk (q1.2.2 t 3) 10 fun a10 =>
      rk (q1.2.2 a10 2) 1 fun a11 =>
      some (q1.1 a11 5, q1)
    else if x1 = 7 then
      some (q1.1 t 13, q1)
    else 
    some ((-1), q1)

def w_X12_thrown : List Cond := Cond.code yX12_thrown cX12_thrown 1 (some .int) :: GT
def f_X12_thrown (t : Nat) (σ : HS) : Option (Int32 × HS) :=
    some (σ.1 t 0, σ)
def w_X12_lay : List Cond := Cond.code yX12_lay cX12_lay 5 none :: GT
def f_X12_lay_69 (r3 : Int32 → HS → Option HS) (t : Nat) (x1 : Int64) (x3 : Int32) (σ : HS) : Option HS :=
    r3 (x3 + (-8)) σ
def f_X12_lay_38 (r3 : Int32 → HS → Option HS) (t : Nat) (x1 : Int64) (x3 : Int32) (x4 : Int32) (σ : HS) : Option HS :=
    if 1000 ≤ (σ.1 t 2) then
      f_X12_lay_69 r3 t x1 x3 σ
    else
      rk (σ.2.2 t 1) 14 fun a1 =>
      ck (σ.1 t 2) (ln a1) (
      f_X12_lay_69 r3 t x1 x3 (sI (sI σ a1 (σ.1 t 2).toNatClampNeg x4) t 2 (((sI σ a1 (σ.1 t 2).toNatClampNeg x4).1 t 2) + 1)))
def f_X12_lay_3 (t : Nat) (x1 : Int64) : Nat → Int32 → HS → Option HS
  | 0, _, _ => none
  | n + 1, x3, σ =>
    if x3 < 0 then
      some σ
    else
      if (((x1 >>> (x3.toInt64 &&& 63)).toInt32) &&& 255) = 10 then
        f_X12_lay_38 (f_X12_lay_3 t x1 n) t x1 x3 (((x1 >>> (x3.toInt64 &&& 63)).toInt32) &&& 255) σ
      else
        if (((x1 >>> (x3.toInt64 &&& 63)).toInt32) &&& 255) < 32 then
          f_X12_lay_69 (f_X12_lay_3 t x1 n) t x1 x3 σ
        else
          if 126 < (((x1 >>> (x3.toInt64 &&& 63)).toInt32) &&& 255) then
            f_X12_lay_69 (f_X12_lay_3 t x1 n) t x1 x3 σ
          else
            f_X12_lay_38 (f_X12_lay_3 t x1 n) t x1 x3 (((x1 >>> (x3.toInt64 &&& 63)).toInt32) &&& 255) σ
def f_X12_lay (t : Nat) (x1 : Int64) (σ : HS) : Option HS :=
    f_X12_lay_3 t x1 FU 56 σ
def w_X12_feed : List Cond := Cond.code yX12_feed cX12_feed 7 (some .int) :: GT
def f_X12_feed (t : Nat) (x1 : Int64) (x3 : Int64) (x5 : Int64) (σ : HS) : Option (Int32 × HS) :=
    (f_X12_lay t x1 (sI σ t 0 0)).bind fun q1 =>
    (f_X12_lay t x3 q1).bind fun q2 =>
    (f_X12_lay t x5 q2).bind fun q3 =>
    some (q3.1 t 2, q3)
def w_X12_isLetter : List Cond := Cond.code yX12_isLetter cX12_isLetter 1 (some .boolean) :: GT
def f_X12_isLetter_17 (s0 : Int32) (σ : HS) : Option (Int32 × HS) :=
    zr s0 σ
def f_X12_isLetter_16 (σ : HS) : Option (Int32 × HS) :=
    f_X12_isLetter_17 0 σ
def f_X12_isLetter (x0 : Int32) (σ : HS) : Option (Int32 × HS) :=
    if x0 < 97 then
      f_X12_isLetter_16 σ
    else
      if 122 < x0 then
        f_X12_isLetter_16 σ
      else
        f_X12_isLetter_17 1 σ
def w_X12_isDigit : List Cond := Cond.code yX12_isDigit cX12_isDigit 1 (some .boolean) :: GT
def f_X12_isDigit_17 (s0 : Int32) (σ : HS) : Option (Int32 × HS) :=
    zr s0 σ
def f_X12_isDigit_16 (σ : HS) : Option (Int32 × HS) :=
    f_X12_isDigit_17 0 σ
def f_X12_isDigit (x0 : Int32) (σ : HS) : Option (Int32 × HS) :=
    if x0 < 48 then
      f_X12_isDigit_16 σ
    else
      if 57 < x0 then
        f_X12_isDigit_16 σ
      else
        f_X12_isDigit_17 1 σ
def w_X12_rank : List Cond := Cond.code yX12_rank cX12_rank 1 (some .int) :: GT
def f_X12_rank_18 (s0 : Int32) (σ : HS) : Option (Int32 × HS) :=
    some (s0, σ)
def f_X12_rank (x0 : Int32) (σ : HS) : Option (Int32 × HS) :=
    (f_X12_isLetter x0 σ).bind fun q1 =>
    if q1.1 = 0 then
      f_X12_rank_18 (x0 - 21) q1.2
    else
      f_X12_rank_18 (x0 - 96) q1.2
def w_X12_isSignOf : List Cond := Cond.code yX12_isSignOf cX12_isSignOf 1 (some .boolean) :: GT
def f_X12_isSignOf_11 (s0 : Int32) (σ : HS) : Option (Int32 × HS) :=
    zr s0 σ
def f_X12_isSignOf (x0 : Int32) (σ : HS) : Option (Int32 × HS) :=
    if x0 = 59 then
      f_X12_isSignOf_11 1 σ
    else
      f_X12_isSignOf_11 0 σ
def w_X12_cutAll : List Cond := Cond.code yX12_cutAll cX12_cutAll 7 none :: GT
def f_X12_cutAll_44 (r17 : Int32 → Int32 → HS → Option HS) (t : Nat) (x1 : Int32) (x2 : Int32) (σ : HS) : Option HS :=
    r17 x1 (x2 + 1) σ
def f_X12_cutAll_265 (r17 : Int32 → Int32 → HS → Option HS) (t : Nat) (x1 : Int32) (x2 : Int32) (x5 : Int64) (σ : HS) : Option HS :=
    rk (σ.2.2 t 6) 15 fun a1 =>
    ck x1 (ln a1) (
    r17 (x1 + 1) x2 (sJ σ a1 x1.toNatClampNeg x5))
def f_X12_cutAll_261 (r17 : Int32 → Int32 → HS → Option HS) (t : Nat) (x1 : Int32) (x2 : Int32) (x5 : Int64) (s0 : Int32) (s1 : Int32) (s2 : Nat) (σ : HS) : Option HS :=
    ck s1 (ln s2) (
    f_X12_cutAll_265 r17 t x1 (x2 + 1) x5 (sI σ s2 s1.toNatClampNeg s0))
def f_X12_cutAll_236 (r17 : Int32 → Int32 → HS → Option HS) (t : Nat) (x1 : Int32) (x2 : Int32) (x5 : Int64) (s0 : Int32) (s1 : Int32) (s2 : Nat) (σ : HS) : Option HS :=
    ck s1 (ln s2) (
    f_X12_cutAll_265 r17 t x1 x2 x5 (sI σ s2 s1.toNatClampNeg s0))
def f_X12_cutAll_218 (r17 : Int32 → Int32 → HS → Option HS) (t : Nat) (x1 : Int32) (x2 : Int32) (x4 : Int32) (x5 : Int64) (σ : HS) : Option HS :=
    rk (σ.2.2 t 4) 14 fun a1 =>
    if (x2 - x4) ≤ 3 then
      f_X12_cutAll_236 r17 t x1 x2 x5 2 x1 a1 σ
    else
      f_X12_cutAll_236 r17 t x1 x2 x5 4 x1 a1 σ
def f_X12_cutAll_210 (r17 : Int32 → Int32 → HS → Option HS) (r159 : Int32 → Int64 → HS → Option HS) (t : Nat) (x1 : Int32) (x2 : Int32) (x4 : Int32) (s0 : Int64) (σ : HS) : Option HS :=
    r159 (x2 + 1) s0 σ
def f_X12_cutAll_159 (t : Nat) (x1 : Int32) (x4 : Int32) (r17 : Int32 → Int32 → HS → Option HS) : Nat → Int32 → Int64 → HS → Option HS
  | 0, _, _, _ => none
  | n + 1, x2, x5, σ =>
    if (σ.1 t 3) ≤ x2 then
      f_X12_cutAll_218 r17 t x1 x2 x4 x5 σ
    else
      rk (σ.2.2 t 1) 14 fun a1 =>
      ck x2 (ln a1) (
      (f_X12_isDigit (σ.1 a1 x2.toNatClampNeg) σ).bind fun q2 =>
      if q2.1 = 0 then
        f_X12_cutAll_218 r17 t x1 x2 x4 x5 q2.2
      else
        if 3 ≤ (x2 - x4) then
          f_X12_cutAll_210 r17 (f_X12_cutAll_159 t x1 x4 r17 n) t x1 x2 x4 x5 q2.2
        else
          rk (q2.2.2.2 t 1) 14 fun a3 =>
          ck x2 (ln a3) (
          f_X12_cutAll_210 r17 (f_X12_cutAll_159 t x1 x4 r17 n) t x1 x2 x4 ((((10 : Int64) * x5) + ((q2.2.1 a3 x2.toNatClampNeg).toInt64)) - 48) q2.2))
def f_X12_cutAll_148 (r17 : Int32 → Int32 → HS → Option HS) (t : Nat) (x1 : Int32) (x2 : Int32) (x5 : Int64) (s0 : Int32) (s1 : Int32) (s2 : Nat) (σ : HS) : Option HS :=
    ck s1 (ln s2) (
    f_X12_cutAll_265 r17 t x1 x2 x5 (sI σ s2 s1.toNatClampNeg s0))
def f_X12_cutAll_129 (r17 : Int32 → Int32 → HS → Option HS) (t : Nat) (x1 : Int32) (x2 : Int32) (x4 : Int32) (x5 : Int64) (σ : HS) : Option HS :=
    rk (σ.2.2 t 4) 14 fun a1 =>
    if (x2 - x4) ≤ 8 then
      f_X12_cutAll_148 r17 t x1 x2 x5 1 x1 a1 σ
    else
      f_X12_cutAll_148 r17 t x1 x2 x5 4 x1 a1 σ
def f_X12_cutAll_121 (r17 : Int32 → Int32 → HS → Option HS) (r70 : Int32 → Int64 → HS → Option HS) (t : Nat) (x1 : Int32) (x2 : Int32) (x4 : Int32) (s0 : Int64) (σ : HS) : Option HS :=
    r70 (x2 + 1) s0 σ
def f_X12_cutAll_70 (t : Nat) (x1 : Int32) (x4 : Int32) (r17 : Int32 → Int32 → HS → Option HS) : Nat → Int32 → Int64 → HS → Option HS
  | 0, _, _, _ => none
  | n + 1, x2, x5, σ =>
    if (σ.1 t 3) ≤ x2 then
      f_X12_cutAll_129 r17 t x1 x2 x4 x5 σ
    else
      rk (σ.2.2 t 1) 14 fun a1 =>
      ck x2 (ln a1) (
      (f_X12_isLetter (σ.1 a1 x2.toNatClampNeg) σ).bind fun q2 =>
      if q2.1 = 0 then
        f_X12_cutAll_129 r17 t x1 x2 x4 x5 q2.2
      else
        if 8 ≤ (x2 - x4) then
          f_X12_cutAll_121 r17 (f_X12_cutAll_70 t x1 x4 r17 n) t x1 x2 x4 x5 q2.2
        else
          rk (q2.2.2.2 t 1) 14 fun a3 =>
          ck x2 (ln a3) (
          (f_X12_rank (q2.2.1 a3 x2.toNatClampNeg) q2.2).bind fun q4 =>
          f_X12_cutAll_121 r17 (f_X12_cutAll_70 t x1 x4 r17 n) t x1 x2 x4 (((37 : Int64) * x5) + q4.1.toInt64) q4.2))
def f_X12_cutAll_17 (t : Nat) : Nat → Int32 → Int32 → HS → Option HS
  | 0, _, _, _ => none
  | n + 1, x1, x2, σ =>
    if (σ.1 t 3) ≤ x2 then
      rk (σ.2.2 t 4) 14 fun a1 =>
      ck x1 (ln a1) (
      rk ((sI σ a1 x1.toNatClampNeg 0).2.2 t 5) 14 fun a2 =>
      ck x1 (ln a2) (
      some (sI (sI (sI (sI σ a1 x1.toNatClampNeg 0) a2 x1.toNatClampNeg ((sI σ a1 x1.toNatClampNeg 0).1 t 3)) t 7 0) t 8 0)))
    else
      rk (σ.2.2 t 1) 14 fun a3 =>
      ck x2 (ln a3) (
      if (σ.1 a3 x2.toNatClampNeg) = 10 then
        f_X12_cutAll_44 (f_X12_cutAll_17 t n) t x1 x2 σ
      else
        if (σ.1 a3 x2.toNatClampNeg) = 32 then
          f_X12_cutAll_44 (f_X12_cutAll_17 t n) t x1 x2 σ
        else
          rk (σ.2.2 t 5) 14 fun a4 =>
          ck x1 (ln a4) (
          (f_X12_isLetter (σ.1 a3 x2.toNatClampNeg) (sI σ a4 x1.toNatClampNeg x2)).bind fun q5 =>
          if q5.1 = 0 then
            (f_X12_isDigit (σ.1 a3 x2.toNatClampNeg) q5.2).bind fun q6 =>
            if q6.1 = 0 then
              rk (q6.2.2.2 t 4) 14 fun a7 =>
              (f_X12_isSignOf (σ.1 a3 x2.toNatClampNeg) q6.2).bind fun q8 =>
              if q8.1 = 0 then
                f_X12_cutAll_261 (f_X12_cutAll_17 t n) t x1 x2 ((σ.1 a3 x2.toNatClampNeg).toInt64) 4 x1 a7 q8.2
              else
                f_X12_cutAll_261 (f_X12_cutAll_17 t n) t x1 x2 ((σ.1 a3 x2.toNatClampNeg).toInt64) 3 x1 a7 q8.2
            else
              f_X12_cutAll_159 t x1 x2 (f_X12_cutAll_17 t n) FU x2 0 q6.2
          else
            f_X12_cutAll_70 t x1 x2 (f_X12_cutAll_17 t n) FU x2 0 q5.2))
def f_X12_cutAll (t : Nat) (σ : HS) : Option HS :=
    f_X12_cutAll_17 t FU 0 0 (sI (sI σ t 3 (σ.1 t 2)) t 2 0)
def w_X12_wrong : List Cond := Cond.code yX12_wrong cX12_wrong 2 none :: GT
def f_X12_wrong_25 (σ : HS) : Option HS :=
    some σ
def f_X12_wrong (t : Nat) (x1 : Int32) (σ : HS) : Option HS :=
    if (σ.1 t 8) = 0 then
      rk (σ.2.2 t 5) 14 fun a1 =>
      ck (σ.1 t 7) (ln a1) (
      f_X12_wrong_25 (sI σ t 8 (x1 + ((16 : Int32) * (σ.1 a1 (σ.1 t 7).toNatClampNeg)))))
    else
      f_X12_wrong_25 σ
def w_X12_isSign : List Cond := Cond.code yX12_isSign cX12_isSign 2 (some .boolean) :: GT
def f_X12_isSign_40 (s0 : Int32) (σ : HS) : Option (Int32 × HS) :=
    zr s0 σ
def f_X12_isSign_39 (σ : HS) : Option (Int32 × HS) :=
    f_X12_isSign_40 0 σ
def f_X12_isSign (t : Nat) (x1 : Int32) (σ : HS) : Option (Int32 × HS) :=
    if (σ.1 t 8) = 0 then
      rk (σ.2.2 t 4) 14 fun a1 =>
      ck (σ.1 t 7) (ln a1) (
      if (σ.1 a1 (σ.1 t 7).toNatClampNeg) = 3 then
        rk (σ.2.2 t 6) 15 fun a2 =>
        ck (σ.1 t 7) (ln a2) (
        if (σ.2.1 a2 (σ.1 t 7).toNatClampNeg) = x1.toInt64 then
          f_X12_isSign_40 1 σ
        else
          f_X12_isSign_39 σ)
      else
        f_X12_isSign_39 σ)
    else
      f_X12_isSign_39 σ
def w_X12_isWord : List Cond := Cond.code yX12_isWord cX12_isWord 2 (some .boolean) :: GT
def f_X12_isWord_44 (s0 : Int32) (σ : HS) : Option (Int32 × HS) :=
    zr s0 σ
def f_X12_isWord_43 (σ : HS) : Option (Int32 × HS) :=
    f_X12_isWord_44 0 σ
def f_X12_isWord (t : Nat) (x1 : Int32) (σ : HS) : Option (Int32 × HS) :=
    if (σ.1 t 8) = 0 then
      rk (σ.2.2 t 4) 14 fun a1 =>
      ck (σ.1 t 7) (ln a1) (
      if (σ.1 a1 (σ.1 t 7).toNatClampNeg) = 1 then
        rk (σ.2.2 t 6) 15 fun a2 =>
        ck (σ.1 t 7) (ln a2) (
        rk (σ.2.2 t 9) 15 fun a3 =>
        ck x1 (ln a3) (
        if (σ.2.1 a2 (σ.1 t 7).toNatClampNeg) = (σ.2.1 a3 x1.toNatClampNeg) then
          f_X12_isWord_44 1 σ
        else
          f_X12_isWord_43 σ))
      else
        f_X12_isWord_43 σ)
    else
      f_X12_isWord_43 σ
def w_X12_takeSign : List Cond := Cond.code yX12_takeSign cX12_takeSign 2 none :: GT
def f_X12_takeSign_26 (σ : HS) : Option HS :=
    some σ
def f_X12_takeSign (t : Nat) (x1 : Int32) (σ : HS) : Option HS :=
    (f_X12_isSign t x1 σ).bind fun q1 =>
    if q1.1 = 0 then
      (f_X12_wrong t 1 q1.2).bind fun q2 =>
      f_X12_takeSign_26 q2
    else
      f_X12_takeSign_26 (sI q1.2 t 7 ((q1.2.1 t 7) + 1))
def w_X12_within : List Cond := Cond.code yX12_within cX12_within 3 (some .boolean) :: GT
def f_X12_within_15 (s0 : Int32) (σ : HS) : Option (Int32 × HS) :=
    zr s0 σ
def f_X12_within_14 (σ : HS) : Option (Int32 × HS) :=
    f_X12_within_15 0 σ
def f_X12_within (x0 : Int32) (x1 : Int32) (x2 : Int32) (σ : HS) : Option (Int32 × HS) :=
    if x0 < x1 then
      f_X12_within_14 σ
    else
      if x2 < x0 then
        f_X12_within_14 σ
      else
        f_X12_within_15 1 σ
def w_X12_forgetsChoice : List Cond := Cond.code yX12_forgetsChoice cX12_forgetsChoice 3 none :: GT
def f_X12_forgetsChoice_9 (t : Nat) (x1 : Int32) : Nat → Int32 → HS → Option HS
  | 0, _, _ => none
  | n + 1, x2, σ =>
    if 4 ≤ x2 then
      some σ
    else
      rk (σ.2.2 t 10) 16 fun a1 =>
      ck (((4 : Int32) * x1) + x2) (ln a1) (
      rk ((sI σ a1 (((4 : Int32) * x1) + x2).toNatClampNeg (0 &&& 1)).2.2 t 11) 14 fun a2 =>
      ck (((4 : Int32) * x1) + x2) (ln a2) (
      rk ((sI (sI σ a1 (((4 : Int32) * x1) + x2).toNatClampNeg (0 &&& 1)) a2 (((4 : Int32) * x1) + x2).toNatClampNeg (-1)).2.2 t 12) 14 fun a3 =>
      ck (((4 : Int32) * x1) + x2) (ln a3) (
      (f_X12_forgetsChoice_9 t x1 n) (x2 + 1) (sI (sI (sI σ a1 (((4 : Int32) * x1) + x2).toNatClampNeg (0 &&& 1)) a2 (((4 : Int32) * x1) + x2).toNatClampNeg (-1)) a3 (((4 : Int32) * x1) + x2).toNatClampNeg (-1)))))
def f_X12_forgetsChoice (t : Nat) (x1 : Int32) (σ : HS) : Option HS :=
    rk (σ.2.2 t 13) 14 fun a1 =>
    ck x1 (ln a1) (
    f_X12_forgetsChoice_9 t x1 FU 0 (sI σ a1 x1.toNatClampNeg 0))
def w_X12_takeNumber : List Cond := Cond.code yX12_takeNumber cX12_takeNumber 3 (some .int) :: GT
def f_X12_takeNumber_70 (t : Nat) (σ : HS) : Option (Int32 × HS) :=
    if (σ.1 t 8) ≤ 0 then
      rk ((sI σ t 7 ((σ.1 t 7) + 1)).2.2 t 6) 15 fun a1 =>
      ck (((sI σ t 7 ((σ.1 t 7) + 1)).1 t 7) - 1) (ln a1) (
      some (((sI σ t 7 ((σ.1 t 7) + 1)).2.1 a1 (((sI σ t 7 ((σ.1 t 7) + 1)).1 t 7) - 1).toNatClampNeg).toInt32, sI σ t 7 ((σ.1 t 7) + 1)))
    else
      some (0, σ)
def f_X12_takeNumber_65 (t : Nat) (σ : HS) : Option (Int32 × HS) :=
    (f_X12_wrong t 4 σ).bind fun q1 =>
    f_X12_takeNumber_70 t q1
def f_X12_takeNumber_28 (t : Nat) (x1 : Int32) (x2 : Int32) (σ : HS) : Option (Int32 × HS) :=
    if (σ.1 t 8) = 0 then
      rk (σ.2.2 t 6) 15 fun a1 =>
      ck (σ.1 t 7) (ln a1) (
      if (σ.2.1 a1 (σ.1 t 7).toNatClampNeg) < x1.toInt64 then
        f_X12_takeNumber_65 t σ
      else
        rk (σ.2.2 t 6) 15 fun a2 =>
        ck (σ.1 t 7) (ln a2) (
        if (σ.2.1 a2 (σ.1 t 7).toNatClampNeg) ≤ x2.toInt64 then
          f_X12_takeNumber_70 t σ
        else
          f_X12_takeNumber_65 t σ))
    else
      f_X12_takeNumber_70 t σ
def f_X12_takeNumber (t : Nat) (x1 : Int32) (x2 : Int32) (σ : HS) : Option (Int32 × HS) :=
    if (σ.1 t 8) = 0 then
      rk (σ.2.2 t 4) 14 fun a1 =>
      ck (σ.1 t 7) (ln a1) (
      if (σ.1 a1 (σ.1 t 7).toNatClampNeg) = 2 then
        f_X12_takeNumber_28 t x1 x2 σ
      else
        (f_X12_wrong t 1 σ).bind fun q2 =>
        f_X12_takeNumber_70 t q2)
    else
      f_X12_takeNumber_28 t x1 x2 σ
def w_X12_readMeasure : List Cond := Cond.code yX12_readMeasure cX12_readMeasure 4 none :: GT
def f_X12_readMeasure_230 (σ : HS) : Option HS :=
    some σ
def f_X12_readMeasure_229 (s0 : Int32) (s1 : Int32) (s2 : Nat) (σ : HS) : Option HS :=
    ck s1 (ln s2) (
    f_X12_readMeasure_230 (sI σ s2 s1.toNatClampNeg s0))
def f_X12_readMeasure_208 (t : Nat) (x1 : Int32) (x2 : Int32) (x3 : Int32) (s0 : Int32) (s1 : Int32) (s2 : Nat) (σ : HS) : Option HS :=
    ck s1 (ln s2) (
    rk ((sI σ s2 s1.toNatClampNeg s0).2.2 t 12) 14 fun a1 =>
    if x1 = 2 then
      f_X12_readMeasure_229 x3 x2 a1 (sI σ s2 s1.toNatClampNeg s0)
    else
      rk ((sI σ s2 s1.toNatClampNeg s0).2.2 t 12) 14 fun a2 =>
      ck x2 (ln a2) (
      f_X12_readMeasure_229 ((sI σ s2 s1.toNatClampNeg s0).1 a2 x2.toNatClampNeg) x2 a1 (sI σ s2 s1.toNatClampNeg s0)))
def f_X12_readMeasure_187 (t : Nat) (x1 : Int32) (x2 : Int32) (x3 : Int32) (s0 : Int32) (s1 : Int32) (s2 : Nat) (σ : HS) : Option HS :=
    ck s1 (ln s2) (
    rk ((sI σ s2 s1.toNatClampNeg (s0 &&& 1)).2.2 t 11) 14 fun a1 =>
    if x1 = 1 then
      f_X12_readMeasure_208 t x1 x2 x3 x3 x2 a1 (sI σ s2 s1.toNatClampNeg (s0 &&& 1))
    else
      rk ((sI σ s2 s1.toNatClampNeg (s0 &&& 1)).2.2 t 11) 14 fun a2 =>
      ck x2 (ln a2) (
      f_X12_readMeasure_208 t x1 x2 x3 ((sI σ s2 s1.toNatClampNeg (s0 &&& 1)).1 a2 x2.toNatClampNeg) x2 a1 (sI σ s2 s1.toNatClampNeg (s0 &&& 1))))
def f_X12_readMeasure_182 (t : Nat) (x1 : Int32) (x2 : Int32) (x3 : Int32) (s0 : Int32) (s1 : Nat) (σ : HS) : Option HS :=
    f_X12_readMeasure_187 t x1 x2 x3 1 s0 s1 σ
def f_X12_readMeasure_156 (t : Nat) (x1 : Int32) (x2 : Int32) (s0 : Int32) (σ : HS) : Option HS :=
    if (σ.1 t 8) = 0 then
      rk (σ.2.2 t 10) 16 fun a1 =>
      if x1 = 0 then
        f_X12_readMeasure_182 t x1 x2 s0 x2 a1 σ
      else
        rk (σ.2.2 t 10) 16 fun a2 =>
        ck x2 (ln a2) (
        if (σ.1 a2 x2.toNatClampNeg) = 0 then
          f_X12_readMeasure_187 t x1 x2 s0 0 x2 a1 σ
        else
          f_X12_readMeasure_182 t x1 x2 s0 x2 a1 σ)
    else
      f_X12_readMeasure_230 σ
def f_X12_readMeasure_127 (t : Nat) (x1 : Int32) (σ : HS) : Option HS :=
    (f_X12_takeNumber t 0 ((σ.1 t 20) - 1) σ).bind fun q1 =>
    if x1 = 0 then
      f_X12_readMeasure_156 t x1 ((4 : Int32) + q1.1) 0 q1.2
    else
      (f_X12_takeNumber t 0 100 q1.2).bind fun q2 =>
      f_X12_readMeasure_156 t x1 ((4 : Int32) + q1.1) q2.1 q2.2
def f_X12_readMeasure_122 (t : Nat) (x1 : Int32) (σ : HS) : Option HS :=
    (f_X12_wrong t 3 σ).bind fun q1 =>
    f_X12_readMeasure_127 t x1 q1
def f_X12_readMeasure_25 (t : Nat) (s0 : Int32) (σ : HS) : Option HS :=
    rk ((sI σ t 7 ((σ.1 t 7) + 1)).2.2 t 4) 14 fun a1 =>
    ck ((sI σ t 7 ((σ.1 t 7) + 1)).1 t 7) (ln a1) (
    if ((sI σ t 7 ((σ.1 t 7) + 1)).1 a1 ((sI σ t 7 ((σ.1 t 7) + 1)).1 t 7).toNatClampNeg) = 2 then
      rk ((sI σ t 7 ((σ.1 t 7) + 1)).2.2 t 6) 15 fun a2 =>
      ck ((sI σ t 7 ((σ.1 t 7) + 1)).1 t 7) (ln a2) (
      if (((sI σ t 7 ((σ.1 t 7) + 1)).1 t 20).toInt64) ≤ ((sI σ t 7 ((σ.1 t 7) + 1)).2.1 a2 ((sI σ t 7 ((σ.1 t 7) + 1)).1 t 7).toNatClampNeg) then
        f_X12_readMeasure_127 t s0 (sI σ t 7 ((σ.1 t 7) + 1))
      else
        rk ((sI σ t 7 ((σ.1 t 7) + 1)).2.2 t 6) 15 fun a3 =>
        ck ((sI σ t 7 ((σ.1 t 7) + 1)).1 t 7) (ln a3) (
        if s0 = 0 then
          rk ((sI σ t 7 ((σ.1 t 7) + 1)).2.2 t 10) 16 fun a6 =>
          ck ((4 : Int32) + (((sI σ t 7 ((σ.1 t 7) + 1)).2.1 a3 ((sI σ t 7 ((σ.1 t 7) + 1)).1 t 7).toNatClampNeg).toInt32)) (ln a6) (
          if ((sI σ t 7 ((σ.1 t 7) + 1)).1 a6 ((4 : Int32) + (((sI σ t 7 ((σ.1 t 7) + 1)).2.1 a3 ((sI σ t 7 ((σ.1 t 7) + 1)).1 t 7).toNatClampNeg).toInt32)).toNatClampNeg) = 0 then
            f_X12_readMeasure_127 t s0 (sI σ t 7 ((σ.1 t 7) + 1))
          else
            f_X12_readMeasure_122 t s0 (sI σ t 7 ((σ.1 t 7) + 1)))
        else
          if s0 = 1 then
            rk ((sI σ t 7 ((σ.1 t 7) + 1)).2.2 t 11) 14 fun a5 =>
            ck ((4 : Int32) + (((sI σ t 7 ((σ.1 t 7) + 1)).2.1 a3 ((sI σ t 7 ((σ.1 t 7) + 1)).1 t 7).toNatClampNeg).toInt32)) (ln a5) (
            if ((sI σ t 7 ((σ.1 t 7) + 1)).1 a5 ((4 : Int32) + (((sI σ t 7 ((σ.1 t 7) + 1)).2.1 a3 ((sI σ t 7 ((σ.1 t 7) + 1)).1 t 7).toNatClampNeg).toInt32)).toNatClampNeg) < 0 then
              f_X12_readMeasure_127 t s0 (sI σ t 7 ((σ.1 t 7) + 1))
            else
              f_X12_readMeasure_122 t s0 (sI σ t 7 ((σ.1 t 7) + 1)))
          else
            rk ((sI σ t 7 ((σ.1 t 7) + 1)).2.2 t 12) 14 fun a4 =>
            ck ((4 : Int32) + (((sI σ t 7 ((σ.1 t 7) + 1)).2.1 a3 ((sI σ t 7 ((σ.1 t 7) + 1)).1 t 7).toNatClampNeg).toInt32)) (ln a4) (
            if ((sI σ t 7 ((σ.1 t 7) + 1)).1 a4 ((4 : Int32) + (((sI σ t 7 ((σ.1 t 7) + 1)).2.1 a3 ((sI σ t 7 ((σ.1 t 7) + 1)).1 t 7).toNatClampNeg).toInt32)).toNatClampNeg) < 0 then
              f_X12_readMeasure_127 t s0 (sI σ t 7 ((σ.1 t 7) + 1))
            else
              f_X12_readMeasure_122 t s0 (sI σ t 7 ((σ.1 t 7) + 1)))))
    else
      f_X12_readMeasure_127 t s0 (sI σ t 7 ((σ.1 t 7) + 1)))
def f_X12_readMeasure (t : Nat) (σ : HS) : Option HS :=
    (f_X12_isWord t 0 σ).bind fun q1 =>
    if q1.1 = 0 then
      (f_X12_isWord t 1 q1.2).bind fun q2 =>
      if q2.1 = 0 then
        f_X12_readMeasure_25 t 2 q2.2
      else
        f_X12_readMeasure_25 t 1 q2.2
    else
      f_X12_readMeasure_25 t 0 q1.2
def w_X12_personHere : List Cond := Cond.code yX12_personHere cX12_personHere 3 (some .int) :: GT
def f_X12_personHere_26 (r4 : Int32 → Int32 → HS → Option (Int32 × HS)) (t : Nat) (x2 : Int32) (s0 : Int32) (σ : HS) : Option (Int32 × HS) :=
    r4 s0 (x2 + 1) σ
def f_X12_personHere_4 (t : Nat) : Nat → Int32 → Int32 → HS → Option (Int32 × HS)
  | 0, _, _, _ => none
  | n + 1, x1, x2, σ =>
    if 8 ≤ x2 then
      some (x1, σ)
    else
      (f_X12_isWord t ((9 : Int32) + x2) σ).bind fun q1 =>
      if q1.1 = 0 then
        f_X12_personHere_26 (f_X12_personHere_4 t n) t x2 x1 q1.2
      else
        f_X12_personHere_26 (f_X12_personHere_4 t n) t x2 x2 q1.2
def f_X12_personHere (t : Nat) (σ : HS) : Option (Int32 × HS) :=
    f_X12_personHere_4 t FU (-1) 0 σ
def w_X12_takeOther : List Cond := Cond.code yX12_takeOther cX12_takeOther 3 (some .int) :: GT
def f_X12_takeOther_40 (t : Nat) (x2 : Int32) (σ : HS) : Option (Int32 × HS) :=
    (f_X12_takeNumber t 0 x2 σ).bind fun q1 =>
    some (q1.1, q1.2)
def f_X12_takeOther (t : Nat) (x1 : Int32) (x2 : Int32) (σ : HS) : Option (Int32 × HS) :=
    if (σ.1 t 8) = 0 then
      rk (σ.2.2 t 4) 14 fun a1 =>
      ck (σ.1 t 7) (ln a1) (
      if (σ.1 a1 (σ.1 t 7).toNatClampNeg) = 2 then
        rk (σ.2.2 t 6) 15 fun a2 =>
        ck (σ.1 t 7) (ln a2) (
        if (σ.2.1 a2 (σ.1 t 7).toNatClampNeg) = x1.toInt64 then
          (f_X12_wrong t 3 σ).bind fun q3 =>
          f_X12_takeOther_40 t x2 q3
        else
          f_X12_takeOther_40 t x2 σ)
      else
        f_X12_takeOther_40 t x2 σ)
    else
      f_X12_takeOther_40 t x2 σ
def w_X12_readSaying : List Cond := Cond.code yX12_readSaying cX12_readSaying 5 none :: GT
def f_X12_readSaying_293 (t : Nat) (σ : HS) : Option HS :=
    rk (σ.2.2 t 13) 14 fun a1 =>
    ck 1 (ln a1) (
    ck 1 (ln a1) (
    some (sI σ a1 (1 : Int32).toNatClampNeg ((σ.1 a1 (1 : Int32).toNatClampNeg) + 1))))
def f_X12_readSaying_210 (t : Nat) (x3 : Int32) (σ : HS) : Option HS :=
    rk (σ.2.2 t 18) 14 fun a1 =>
    (f_X12_takeNumber t 0 ((σ.1 t 20) - 1) σ).bind fun q2 =>
    ck x3 (ln a1) (
    rk ((sI q2.2 a1 x3.toNatClampNeg q2.1).2.2 t 16) 14 fun a3 =>
    (f_X12_takeNumber t 0 100 (sI q2.2 a1 x3.toNatClampNeg q2.1)).bind fun q4 =>
    ck x3 (ln a3) (
    f_X12_readSaying_293 t (sI q4.2 a3 x3.toNatClampNeg q4.1)))
def f_X12_readSaying_260 (t : Nat) (x3 : Int32) (s0 : Int32) (σ : HS) : Option HS :=
    rk (σ.2.2 t 18) 14 fun a1 =>
    (f_X12_takeNumber t 0 s0 σ).bind fun q2 =>
    ck x3 (ln a1) (
    rk ((sI q2.2 a1 x3.toNatClampNeg q2.1).2.2 t 19) 14 fun a3 =>
    rk ((sI q2.2 a1 x3.toNatClampNeg q2.1).2.2 t 18) 14 fun a4 =>
    ck x3 (ln a4) (
    (f_X12_takeOther t ((sI q2.2 a1 x3.toNatClampNeg q2.1).1 a4 x3.toNatClampNeg) s0 (sI q2.2 a1 x3.toNatClampNeg q2.1)).bind fun q5 =>
    ck x3 (ln a3) (
    f_X12_readSaying_293 t (sI q5.2 a3 x3.toNatClampNeg q5.1))))
def f_X12_readSaying_74 (r55 : Int32 → Int32 → HS → Option HS) (t : Nat) (x1 : Int32) (x3 : Int32) (s0 : Int32) (σ : HS) : Option HS :=
    r55 s0 (x3 + 1) σ
def f_X12_readSaying_55 (t : Nat) (x1 : Int32) : Nat → Int32 → Int32 → HS → Option HS
  | 0, _, _, _ => none
  | n + 1, x2, x3, σ =>
    if 8 < x3 then
      if 0 ≤ x2 then
        rk ((sI σ t 7 ((σ.1 t 7) + 1)).2.2 t 13) 14 fun a1 =>
        ck 1 (ln a1) (
        rk ((sI σ t 7 ((σ.1 t 7) + 1)).2.2 t 14) 14 fun a2 =>
        ck ((12 : Int32) + ((sI σ t 7 ((σ.1 t 7) + 1)).1 a1 (1 : Int32).toNatClampNeg)) (ln a2) (
        rk ((sI (sI σ t 7 ((σ.1 t 7) + 1)) a2 ((12 : Int32) + ((sI σ t 7 ((σ.1 t 7) + 1)).1 a1 (1 : Int32).toNatClampNeg)).toNatClampNeg x1).2.2 t 15) 14 fun a3 =>
        ck ((12 : Int32) + ((sI σ t 7 ((σ.1 t 7) + 1)).1 a1 (1 : Int32).toNatClampNeg)) (ln a3) (
        if x2 = 5 then
          rk ((sI (sI (sI σ t 7 ((σ.1 t 7) + 1)) a2 ((12 : Int32) + ((sI σ t 7 ((σ.1 t 7) + 1)).1 a1 (1 : Int32).toNatClampNeg)).toNatClampNeg x1) a3 ((12 : Int32) + ((sI σ t 7 ((σ.1 t 7) + 1)).1 a1 (1 : Int32).toNatClampNeg)).toNatClampNeg x2).2.2 t 16) 14 fun a4 =>
          (f_X12_takeNumber t 1 100 (sI (sI (sI σ t 7 ((σ.1 t 7) + 1)) a2 ((12 : Int32) + ((sI σ t 7 ((σ.1 t 7) + 1)).1 a1 (1 : Int32).toNatClampNeg)).toNatClampNeg x1) a3 ((12 : Int32) + ((sI σ t 7 ((σ.1 t 7) + 1)).1 a1 (1 : Int32).toNatClampNeg)).toNatClampNeg x2)).bind fun q5 =>
          ck ((12 : Int32) + ((sI σ t 7 ((σ.1 t 7) + 1)).1 a1 (1 : Int32).toNatClampNeg)) (ln a4) (
          rk ((sI q5.2 a4 ((12 : Int32) + ((sI σ t 7 ((σ.1 t 7) + 1)).1 a1 (1 : Int32).toNatClampNeg)).toNatClampNeg q5.1).2.2 t 18) 14 fun a6 =>
          (f_X12_takeNumber t 0 (((sI q5.2 a4 ((12 : Int32) + ((sI σ t 7 ((σ.1 t 7) + 1)).1 a1 (1 : Int32).toNatClampNeg)).toNatClampNeg q5.1).1 t 20) - 1) (sI q5.2 a4 ((12 : Int32) + ((sI σ t 7 ((σ.1 t 7) + 1)).1 a1 (1 : Int32).toNatClampNeg)).toNatClampNeg q5.1)).bind fun q7 =>
          ck ((12 : Int32) + ((sI σ t 7 ((σ.1 t 7) + 1)).1 a1 (1 : Int32).toNatClampNeg)) (ln a6) (
          rk ((sI q7.2 a6 ((12 : Int32) + ((sI σ t 7 ((σ.1 t 7) + 1)).1 a1 (1 : Int32).toNatClampNeg)).toNatClampNeg q7.1).2.2 t 17) 14 fun a8 =>
          (f_X12_takeNumber t 1 100 (sI q7.2 a6 ((12 : Int32) + ((sI σ t 7 ((σ.1 t 7) + 1)).1 a1 (1 : Int32).toNatClampNeg)).toNatClampNeg q7.1)).bind fun q9 =>
          ck ((12 : Int32) + ((sI σ t 7 ((σ.1 t 7) + 1)).1 a1 (1 : Int32).toNatClampNeg)) (ln a8) (
          rk ((sI q9.2 a8 ((12 : Int32) + ((sI σ t 7 ((σ.1 t 7) + 1)).1 a1 (1 : Int32).toNatClampNeg)).toNatClampNeg q9.1).2.2 t 19) 14 fun a10 =>
          rk ((sI q9.2 a8 ((12 : Int32) + ((sI σ t 7 ((σ.1 t 7) + 1)).1 a1 (1 : Int32).toNatClampNeg)).toNatClampNeg q9.1).2.2 t 18) 14 fun a11 =>
          ck ((12 : Int32) + ((sI σ t 7 ((σ.1 t 7) + 1)).1 a1 (1 : Int32).toNatClampNeg)) (ln a11) (
          (f_X12_takeOther t ((sI q9.2 a8 ((12 : Int32) + ((sI σ t 7 ((σ.1 t 7) + 1)).1 a1 (1 : Int32).toNatClampNeg)).toNatClampNeg q9.1).1 a11 ((12 : Int32) + ((sI σ t 7 ((σ.1 t 7) + 1)).1 a1 (1 : Int32).toNatClampNeg)).toNatClampNeg) (((sI q9.2 a8 ((12 : Int32) + ((sI σ t 7 ((σ.1 t 7) + 1)).1 a1 (1 : Int32).toNatClampNeg)).toNatClampNeg q9.1).1 t 20) - 1) (sI q9.2 a8 ((12 : Int32) + ((sI σ t 7 ((σ.1 t 7) + 1)).1 a1 (1 : Int32).toNatClampNeg)).toNatClampNeg q9.1)).bind fun q12 =>
          ck ((12 : Int32) + ((sI σ t 7 ((σ.1 t 7) + 1)).1 a1 (1 : Int32).toNatClampNeg)) (ln a10) (
          f_X12_readSaying_293 t (sI q12.2 a10 ((12 : Int32) + ((sI σ t 7 ((σ.1 t 7) + 1)).1 a1 (1 : Int32).toNatClampNeg)).toNatClampNeg q12.1))))))
        else
          if x2 = 6 then
            f_X12_readSaying_210 t ((12 : Int32) + ((sI σ t 7 ((σ.1 t 7) + 1)).1 a1 (1 : Int32).toNatClampNeg)) (sI (sI (sI σ t 7 ((σ.1 t 7) + 1)) a2 ((12 : Int32) + ((sI σ t 7 ((σ.1 t 7) + 1)).1 a1 (1 : Int32).toNatClampNeg)).toNatClampNeg x1) a3 ((12 : Int32) + ((sI σ t 7 ((σ.1 t 7) + 1)).1 a1 (1 : Int32).toNatClampNeg)).toNatClampNeg x2)
          else
            if x2 = 7 then
              f_X12_readSaying_210 t ((12 : Int32) + ((sI σ t 7 ((σ.1 t 7) + 1)).1 a1 (1 : Int32).toNatClampNeg)) (sI (sI (sI σ t 7 ((σ.1 t 7) + 1)) a2 ((12 : Int32) + ((sI σ t 7 ((σ.1 t 7) + 1)).1 a1 (1 : Int32).toNatClampNeg)).toNatClampNeg x1) a3 ((12 : Int32) + ((sI σ t 7 ((σ.1 t 7) + 1)).1 a1 (1 : Int32).toNatClampNeg)).toNatClampNeg x2)
            else
              if x2 = 8 then
                f_X12_readSaying_260 t ((12 : Int32) + ((sI σ t 7 ((σ.1 t 7) + 1)).1 a1 (1 : Int32).toNatClampNeg)) 7 (sI (sI (sI σ t 7 ((σ.1 t 7) + 1)) a2 ((12 : Int32) + ((sI σ t 7 ((σ.1 t 7) + 1)).1 a1 (1 : Int32).toNatClampNeg)).toNatClampNeg x1) a3 ((12 : Int32) + ((sI σ t 7 ((σ.1 t 7) + 1)).1 a1 (1 : Int32).toNatClampNeg)).toNatClampNeg x2)
              else
                f_X12_readSaying_260 t ((12 : Int32) + ((sI σ t 7 ((σ.1 t 7) + 1)).1 a1 (1 : Int32).toNatClampNeg)) (((sI (sI (sI σ t 7 ((σ.1 t 7) + 1)) a2 ((12 : Int32) + ((sI σ t 7 ((σ.1 t 7) + 1)).1 a1 (1 : Int32).toNatClampNeg)).toNatClampNeg x1) a3 ((12 : Int32) + ((sI σ t 7 ((σ.1 t 7) + 1)).1 a1 (1 : Int32).toNatClampNeg)).toNatClampNeg x2).1 t 20) - 1) (sI (sI (sI σ t 7 ((σ.1 t 7) + 1)) a2 ((12 : Int32) + ((sI σ t 7 ((σ.1 t 7) + 1)).1 a1 (1 : Int32).toNatClampNeg)).toNatClampNeg x1) a3 ((12 : Int32) + ((sI σ t 7 ((σ.1 t 7) + 1)).1 a1 (1 : Int32).toNatClampNeg)).toNatClampNeg x2))))
      else
        (f_X12_wrong t 1 σ).bind fun q13 =>
        some q13
    else
      (f_X12_isWord t x3 σ).bind fun q14 =>
      if q14.1 = 0 then
        f_X12_readSaying_74 (f_X12_readSaying_55 t x1 n) t x1 x3 x2 q14.2
      else
        f_X12_readSaying_74 (f_X12_readSaying_55 t x1 n) t x1 x3 x3 q14.2
def f_X12_readSaying_33 (t : Nat) (x1 : Int32) (σ : HS) : Option HS :=
    if (σ.1 t 8) ≤ 0 then
      f_X12_readSaying_55 t x1 FU (-1) 3 (sI σ t 7 ((σ.1 t 7) + 1))
    else
      some σ
def f_X12_readSaying (t : Nat) (σ : HS) : Option HS :=
    (f_X12_personHere t σ).bind fun q1 =>
    if 0 ≤ q1.1 then
      rk (q1.2.2.2 t 13) 14 fun a2 =>
      ck 1 (ln a2) (
      if (q1.2.1 a2 (1 : Int32).toNatClampNeg) = 12 then
        (f_X12_wrong t 5 q1.2).bind fun q3 =>
        f_X12_readSaying_33 t q1.1 q3
      else
        f_X12_readSaying_33 t q1.1 q1.2)
    else
      (f_X12_wrong t 1 q1.2).bind fun q4 =>
      f_X12_readSaying_33 t q1.1 q4
def w_X12_takesDraft : List Cond := Cond.code yX12_takesDraft cX12_takesDraft 2 none :: GT
def f_X12_takesDraft_69 (t : Nat) : Nat → Int32 → HS → Option HS
  | 0, _, _ => none
  | n + 1, x1, σ =>
    if 12 ≤ x1 then
      some σ
    else
      rk (σ.2.2 t 14) 14 fun a1 =>
      rk (σ.2.2 t 14) 14 fun a2 =>
      ck ((12 : Int32) + x1) (ln a2) (
      ck x1 (ln a1) (
      rk ((sI σ a1 x1.toNatClampNeg (σ.1 a2 ((12 : Int32) + x1).toNatClampNeg)).2.2 t 15) 14 fun a3 =>
      rk ((sI σ a1 x1.toNatClampNeg (σ.1 a2 ((12 : Int32) + x1).toNatClampNeg)).2.2 t 15) 14 fun a4 =>
      ck ((12 : Int32) + x1) (ln a4) (
      ck x1 (ln a3) (
      rk ((sI (sI σ a1 x1.toNatClampNeg (σ.1 a2 ((12 : Int32) + x1).toNatClampNeg)) a3 x1.toNatClampNeg ((sI σ a1 x1.toNatClampNeg (σ.1 a2 ((12 : Int32) + x1).toNatClampNeg)).1 a4 ((12 : Int32) + x1).toNatClampNeg)).2.2 t 16) 14 fun a5 =>
      rk ((sI (sI σ a1 x1.toNatClampNeg (σ.1 a2 ((12 : Int32) + x1).toNatClampNeg)) a3 x1.toNatClampNeg ((sI σ a1 x1.toNatClampNeg (σ.1 a2 ((12 : Int32) + x1).toNatClampNeg)).1 a4 ((12 : Int32) + x1).toNatClampNeg)).2.2 t 16) 14 fun a6 =>
      ck ((12 : Int32) + x1) (ln a6) (
      ck x1 (ln a5) (
      rk ((sI (sI (sI σ a1 x1.toNatClampNeg (σ.1 a2 ((12 : Int32) + x1).toNatClampNeg)) a3 x1.toNatClampNeg ((sI σ a1 x1.toNatClampNeg (σ.1 a2 ((12 : Int32) + x1).toNatClampNeg)).1 a4 ((12 : Int32) + x1).toNatClampNeg)) a5 x1.toNatClampNeg ((sI (sI σ a1 x1.toNatClampNeg (σ.1 a2 ((12 : Int32) + x1).toNatClampNeg)) a3 x1.toNatClampNeg ((sI σ a1 x1.toNatClampNeg (σ.1 a2 ((12 : Int32) + x1).toNatClampNeg)).1 a4 ((12 : Int32) + x1).toNatClampNeg)).1 a6 ((12 : Int32) + x1).toNatClampNeg)).2.2 t 17) 14 fun a7 =>
      rk ((sI (sI (sI σ a1 x1.toNatClampNeg (σ.1 a2 ((12 : Int32) + x1).toNatClampNeg)) a3 x1.toNatClampNeg ((sI σ a1 x1.toNatClampNeg (σ.1 a2 ((12 : Int32) + x1).toNatClampNeg)).1 a4 ((12 : Int32) + x1).toNatClampNeg)) a5 x1.toNatClampNeg ((sI (sI σ a1 x1.toNatClampNeg (σ.1 a2 ((12 : Int32) + x1).toNatClampNeg)) a3 x1.toNatClampNeg ((sI σ a1 x1.toNatClampNeg (σ.1 a2 ((12 : Int32) + x1).toNatClampNeg)).1 a4 ((12 : Int32) + x1).toNatClampNeg)).1 a6 ((12 : Int32) + x1).toNatClampNeg)).2.2 t 17) 14 fun a8 =>
      ck ((12 : Int32) + x1) (ln a8) (
      ck x1 (ln a7) (
      rk ((sI (sI (sI (sI σ a1 x1.toNatClampNeg (σ.1 a2 ((12 : Int32) + x1).toNatClampNeg)) a3 x1.toNatClampNeg ((sI σ a1 x1.toNatClampNeg (σ.1 a2 ((12 : Int32) + x1).toNatClampNeg)).1 a4 ((12 : Int32) + x1).toNatClampNeg)) a5 x1.toNatClampNeg ((sI (sI σ a1 x1.toNatClampNeg (σ.1 a2 ((12 : Int32) + x1).toNatClampNeg)) a3 x1.toNatClampNeg ((sI σ a1 x1.toNatClampNeg (σ.1 a2 ((12 : Int32) + x1).toNatClampNeg)).1 a4 ((12 : Int32) + x1).toNatClampNeg)).1 a6 ((12 : Int32) + x1).toNatClampNeg)) a7 x1.toNatClampNeg ((sI (sI (sI σ a1 x1.toNatClampNeg (σ.1 a2 ((12 : Int32) + x1).toNatClampNeg)) a3 x1.toNatClampNeg ((sI σ a1 x1.toNatClampNeg (σ.1 a2 ((12 : Int32) + x1).toNatClampNeg)).1 a4 ((12 : Int32) + x1).toNatClampNeg)) a5 x1.toNatClampNeg ((sI (sI σ a1 x1.toNatClampNeg (σ.1 a2 ((12 : Int32) + x1).toNatClampNeg)) a3 x1.toNatClampNeg ((sI σ a1 x1.toNatClampNeg (σ.1 a2 ((12 : Int32) + x1).toNatClampNeg)).1 a4 ((12 : Int32) + x1).toNatClampNeg)).1 a6 ((12 : Int32) + x1).toNatClampNeg)).1 a8 ((12 : Int32) + x1).toNatClampNeg)).2.2 t 18) 14 fun a9 =>
      rk ((sI (sI (sI (sI σ a1 x1.toNatClampNeg (σ.1 a2 ((12 : Int32) + x1).toNatClampNeg)) a3 x1.toNatClampNeg ((sI σ a1 x1.toNatClampNeg (σ.1 a2 ((12 : Int32) + x1).toNatClampNeg)).1 a4 ((12 : Int32) + x1).toNatClampNeg)) a5 x1.toNatClampNeg ((sI (sI σ a1 x1.toNatClampNeg (σ.1 a2 ((12 : Int32) + x1).toNatClampNeg)) a3 x1.toNatClampNeg ((sI σ a1 x1.toNatClampNeg (σ.1 a2 ((12 : Int32) + x1).toNatClampNeg)).1 a4 ((12 : Int32) + x1).toNatClampNeg)).1 a6 ((12 : Int32) + x1).toNatClampNeg)) a7 x1.toNatClampNeg ((sI (sI (sI σ a1 x1.toNatClampNeg (σ.1 a2 ((12 : Int32) + x1).toNatClampNeg)) a3 x1.toNatClampNeg ((sI σ a1 x1.toNatClampNeg (σ.1 a2 ((12 : Int32) + x1).toNatClampNeg)).1 a4 ((12 : Int32) + x1).toNatClampNeg)) a5 x1.toNatClampNeg ((sI (sI σ a1 x1.toNatClampNeg (σ.1 a2 ((12 : Int32) + x1).toNatClampNeg)) a3 x1.toNatClampNeg ((sI σ a1 x1.toNatClampNeg (σ.1 a2 ((12 : Int32) + x1).toNatClampNeg)).1 a4 ((12 : Int32) + x1).toNatClampNeg)).1 a6 ((12 : Int32) + x1).toNatClampNeg)).1 a8 ((12 : Int32) + x1).toNatClampNeg)).2.2 t 18) 14 fun a10 =>
      ck ((12 : Int32) + x1) (ln a10) (
      ck x1 (ln a9) (
      rk ((sI (sI (sI (sI (sI σ a1 x1.toNatClampNeg (σ.1 a2 ((12 : Int32) + x1).toNatClampNeg)) a3 x1.toNatClampNeg ((sI σ a1 x1.toNatClampNeg (σ.1 a2 ((12 : Int32) + x1).toNatClampNeg)).1 a4 ((12 : Int32) + x1).toNatClampNeg)) a5 x1.toNatClampNeg ((sI (sI σ a1 x1.toNatClampNeg (σ.1 a2 ((12 : Int32) + x1).toNatClampNeg)) a3 x1.toNatClampNeg ((sI σ a1 x1.toNatClampNeg (σ.1 a2 ((12 : Int32) + x1).toNatClampNeg)).1 a4 ((12 : Int32) + x1).toNatClampNeg)).1 a6 ((12 : Int32) + x1).toNatClampNeg)) a7 x1.toNatClampNeg ((sI (sI (sI σ a1 x1.toNatClampNeg (σ.1 a2 ((12 : Int32) + x1).toNatClampNeg)) a3 x1.toNatClampNeg ((sI σ a1 x1.toNatClampNeg (σ.1 a2 ((12 : Int32) + x1).toNatClampNeg)).1 a4 ((12 : Int32) + x1).toNatClampNeg)) a5 x1.toNatClampNeg ((sI (sI σ a1 x1.toNatClampNeg (σ.1 a2 ((12 : Int32) + x1).toNatClampNeg)) a3 x1.toNatClampNeg ((sI σ a1 x1.toNatClampNeg (σ.1 a2 ((12 : Int32) + x1).toNatClampNeg)).1 a4 ((12 : Int32) + x1).toNatClampNeg)).1 a6 ((12 : Int32) + x1).toNatClampNeg)).1 a8 ((12 : Int32) + x1).toNatClampNeg)) a9 x1.toNatClampNeg ((sI (sI (sI (sI σ a1 x1.toNatClampNeg (σ.1 a2 ((12 : Int32) + x1).toNatClampNeg)) a3 x1.toNatClampNeg ((sI σ a1 x1.toNatClampNeg (σ.1 a2 ((12 : Int32) + x1).toNatClampNeg)).1 a4 ((12 : Int32) + x1).toNatClampNeg)) a5 x1.toNatClampNeg ((sI (sI σ a1 x1.toNatClampNeg (σ.1 a2 ((12 : Int32) + x1).toNatClampNeg)) a3 x1.toNatClampNeg ((sI σ a1 x1.toNatClampNeg (σ.1 a2 ((12 : Int32) + x1).toNatClampNeg)).1 a4 ((12 : Int32) + x1).toNatClampNeg)).1 a6 ((12 : Int32) + x1).toNatClampNeg)) a7 x1.toNatClampNeg ((sI (sI (sI σ a1 x1.toNatClampNeg (σ.1 a2 ((12 : Int32) + x1).toNatClampNeg)) a3 x1.toNatClampNeg ((sI σ a1 x1.toNatClampNeg (σ.1 a2 ((12 : Int32) + x1).toNatClampNeg)).1 a4 ((12 : Int32) + x1).toNatClampNeg)) a5 x1.toNatClampNeg ((sI (sI σ a1 x1.toNatClampNeg (σ.1 a2 ((12 : Int32) + x1).toNatClampNeg)) a3 x1.toNatClampNeg ((sI σ a1 x1.toNatClampNeg (σ.1 a2 ((12 : Int32) + x1).toNatClampNeg)).1 a4 ((12 : Int32) + x1).toNatClampNeg)).1 a6 ((12 : Int32) + x1).toNatClampNeg)).1 a8 ((12 : Int32) + x1).toNatClampNeg)).1 a10 ((12 : Int32) + x1).toNatClampNeg)).2.2 t 19) 14 fun a11 =>
      rk ((sI (sI (sI (sI (sI σ a1 x1.toNatClampNeg (σ.1 a2 ((12 : Int32) + x1).toNatClampNeg)) a3 x1.toNatClampNeg ((sI σ a1 x1.toNatClampNeg (σ.1 a2 ((12 : Int32) + x1).toNatClampNeg)).1 a4 ((12 : Int32) + x1).toNatClampNeg)) a5 x1.toNatClampNeg ((sI (sI σ a1 x1.toNatClampNeg (σ.1 a2 ((12 : Int32) + x1).toNatClampNeg)) a3 x1.toNatClampNeg ((sI σ a1 x1.toNatClampNeg (σ.1 a2 ((12 : Int32) + x1).toNatClampNeg)).1 a4 ((12 : Int32) + x1).toNatClampNeg)).1 a6 ((12 : Int32) + x1).toNatClampNeg)) a7 x1.toNatClampNeg ((sI (sI (sI σ a1 x1.toNatClampNeg (σ.1 a2 ((12 : Int32) + x1).toNatClampNeg)) a3 x1.toNatClampNeg ((sI σ a1 x1.toNatClampNeg (σ.1 a2 ((12 : Int32) + x1).toNatClampNeg)).1 a4 ((12 : Int32) + x1).toNatClampNeg)) a5 x1.toNatClampNeg ((sI (sI σ a1 x1.toNatClampNeg (σ.1 a2 ((12 : Int32) + x1).toNatClampNeg)) a3 x1.toNatClampNeg ((sI σ a1 x1.toNatClampNeg (σ.1 a2 ((12 : Int32) + x1).toNatClampNeg)).1 a4 ((12 : Int32) + x1).toNatClampNeg)).1 a6 ((12 : Int32) + x1).toNatClampNeg)).1 a8 ((12 : Int32) + x1).toNatClampNeg)) a9 x1.toNatClampNeg ((sI (sI (sI (sI σ a1 x1.toNatClampNeg (σ.1 a2 ((12 : Int32) + x1).toNatClampNeg)) a3 x1.toNatClampNeg ((sI σ a1 x1.toNatClampNeg (σ.1 a2 ((12 : Int32) + x1).toNatClampNeg)).1 a4 ((12 : Int32) + x1).toNatClampNeg)) a5 x1.toNatClampNeg ((sI (sI σ a1 x1.toNatClampNeg (σ.1 a2 ((12 : Int32) + x1).toNatClampNeg)) a3 x1.toNatClampNeg ((sI σ a1 x1.toNatClampNeg (σ.1 a2 ((12 : Int32) + x1).toNatClampNeg)).1 a4 ((12 : Int32) + x1).toNatClampNeg)).1 a6 ((12 : Int32) + x1).toNatClampNeg)) a7 x1.toNatClampNeg ((sI (sI (sI σ a1 x1.toNatClampNeg (σ.1 a2 ((12 : Int32) + x1).toNatClampNeg)) a3 x1.toNatClampNeg ((sI σ a1 x1.toNatClampNeg (σ.1 a2 ((12 : Int32) + x1).toNatClampNeg)).1 a4 ((12 : Int32) + x1).toNatClampNeg)) a5 x1.toNatClampNeg ((sI (sI σ a1 x1.toNatClampNeg (σ.1 a2 ((12 : Int32) + x1).toNatClampNeg)) a3 x1.toNatClampNeg ((sI σ a1 x1.toNatClampNeg (σ.1 a2 ((12 : Int32) + x1).toNatClampNeg)).1 a4 ((12 : Int32) + x1).toNatClampNeg)).1 a6 ((12 : Int32) + x1).toNatClampNeg)).1 a8 ((12 : Int32) + x1).toNatClampNeg)).1 a10 ((12 : Int32) + x1).toNatClampNeg)).2.2 t 19) 14 fun a12 =>
      ck ((12 : Int32) + x1) (ln a12) (
      ck x1 (ln a11) (
      (f_X12_takesDraft_69 t n) (x1 + 1) (sI (sI (sI (sI (sI (sI σ a1 x1.toNatClampNeg (σ.1 a2 ((12 : Int32) + x1).toNatClampNeg)) a3 x1.toNatClampNeg ((sI σ a1 x1.toNatClampNeg (σ.1 a2 ((12 : Int32) + x1).toNatClampNeg)).1 a4 ((12 : Int32) + x1).toNatClampNeg)) a5 x1.toNatClampNeg ((sI (sI σ a1 x1.toNatClampNeg (σ.1 a2 ((12 : Int32) + x1).toNatClampNeg)) a3 x1.toNatClampNeg ((sI σ a1 x1.toNatClampNeg (σ.1 a2 ((12 : Int32) + x1).toNatClampNeg)).1 a4 ((12 : Int32) + x1).toNatClampNeg)).1 a6 ((12 : Int32) + x1).toNatClampNeg)) a7 x1.toNatClampNeg ((sI (sI (sI σ a1 x1.toNatClampNeg (σ.1 a2 ((12 : Int32) + x1).toNatClampNeg)) a3 x1.toNatClampNeg ((sI σ a1 x1.toNatClampNeg (σ.1 a2 ((12 : Int32) + x1).toNatClampNeg)).1 a4 ((12 : Int32) + x1).toNatClampNeg)) a5 x1.toNatClampNeg ((sI (sI σ a1 x1.toNatClampNeg (σ.1 a2 ((12 : Int32) + x1).toNatClampNeg)) a3 x1.toNatClampNeg ((sI σ a1 x1.toNatClampNeg (σ.1 a2 ((12 : Int32) + x1).toNatClampNeg)).1 a4 ((12 : Int32) + x1).toNatClampNeg)).1 a6 ((12 : Int32) + x1).toNatClampNeg)).1 a8 ((12 : Int32) + x1).toNatClampNeg)) a9 x1.toNatClampNeg ((sI (sI (sI (sI σ a1 x1.toNatClampNeg (σ.1 a2 ((12 : Int32) + x1).toNatClampNeg)) a3 x1.toNatClampNeg ((sI σ a1 x1.toNatClampNeg (σ.1 a2 ((12 : Int32) + x1).toNatClampNeg)).1 a4 ((12 : Int32) + x1).toNatClampNeg)) a5 x1.toNatClampNeg ((sI (sI σ a1 x1.toNatClampNeg (σ.1 a2 ((12 : Int32) + x1).toNatClampNeg)) a3 x1.toNatClampNeg ((sI σ a1 x1.toNatClampNeg (σ.1 a2 ((12 : Int32) + x1).toNatClampNeg)).1 a4 ((12 : Int32) + x1).toNatClampNeg)).1 a6 ((12 : Int32) + x1).toNatClampNeg)) a7 x1.toNatClampNeg ((sI (sI (sI σ a1 x1.toNatClampNeg (σ.1 a2 ((12 : Int32) + x1).toNatClampNeg)) a3 x1.toNatClampNeg ((sI σ a1 x1.toNatClampNeg (σ.1 a2 ((12 : Int32) + x1).toNatClampNeg)).1 a4 ((12 : Int32) + x1).toNatClampNeg)) a5 x1.toNatClampNeg ((sI (sI σ a1 x1.toNatClampNeg (σ.1 a2 ((12 : Int32) + x1).toNatClampNeg)) a3 x1.toNatClampNeg ((sI σ a1 x1.toNatClampNeg (σ.1 a2 ((12 : Int32) + x1).toNatClampNeg)).1 a4 ((12 : Int32) + x1).toNatClampNeg)).1 a6 ((12 : Int32) + x1).toNatClampNeg)).1 a8 ((12 : Int32) + x1).toNatClampNeg)).1 a10 ((12 : Int32) + x1).toNatClampNeg)) a11 x1.toNatClampNeg ((sI (sI (sI (sI (sI σ a1 x1.toNatClampNeg (σ.1 a2 ((12 : Int32) + x1).toNatClampNeg)) a3 x1.toNatClampNeg ((sI σ a1 x1.toNatClampNeg (σ.1 a2 ((12 : Int32) + x1).toNatClampNeg)).1 a4 ((12 : Int32) + x1).toNatClampNeg)) a5 x1.toNatClampNeg ((sI (sI σ a1 x1.toNatClampNeg (σ.1 a2 ((12 : Int32) + x1).toNatClampNeg)) a3 x1.toNatClampNeg ((sI σ a1 x1.toNatClampNeg (σ.1 a2 ((12 : Int32) + x1).toNatClampNeg)).1 a4 ((12 : Int32) + x1).toNatClampNeg)).1 a6 ((12 : Int32) + x1).toNatClampNeg)) a7 x1.toNatClampNeg ((sI (sI (sI σ a1 x1.toNatClampNeg (σ.1 a2 ((12 : Int32) + x1).toNatClampNeg)) a3 x1.toNatClampNeg ((sI σ a1 x1.toNatClampNeg (σ.1 a2 ((12 : Int32) + x1).toNatClampNeg)).1 a4 ((12 : Int32) + x1).toNatClampNeg)) a5 x1.toNatClampNeg ((sI (sI σ a1 x1.toNatClampNeg (σ.1 a2 ((12 : Int32) + x1).toNatClampNeg)) a3 x1.toNatClampNeg ((sI σ a1 x1.toNatClampNeg (σ.1 a2 ((12 : Int32) + x1).toNatClampNeg)).1 a4 ((12 : Int32) + x1).toNatClampNeg)).1 a6 ((12 : Int32) + x1).toNatClampNeg)).1 a8 ((12 : Int32) + x1).toNatClampNeg)) a9 x1.toNatClampNeg ((sI (sI (sI (sI σ a1 x1.toNatClampNeg (σ.1 a2 ((12 : Int32) + x1).toNatClampNeg)) a3 x1.toNatClampNeg ((sI σ a1 x1.toNatClampNeg (σ.1 a2 ((12 : Int32) + x1).toNatClampNeg)).1 a4 ((12 : Int32) + x1).toNatClampNeg)) a5 x1.toNatClampNeg ((sI (sI σ a1 x1.toNatClampNeg (σ.1 a2 ((12 : Int32) + x1).toNatClampNeg)) a3 x1.toNatClampNeg ((sI σ a1 x1.toNatClampNeg (σ.1 a2 ((12 : Int32) + x1).toNatClampNeg)).1 a4 ((12 : Int32) + x1).toNatClampNeg)).1 a6 ((12 : Int32) + x1).toNatClampNeg)) a7 x1.toNatClampNeg ((sI (sI (sI σ a1 x1.toNatClampNeg (σ.1 a2 ((12 : Int32) + x1).toNatClampNeg)) a3 x1.toNatClampNeg ((sI σ a1 x1.toNatClampNeg (σ.1 a2 ((12 : Int32) + x1).toNatClampNeg)).1 a4 ((12 : Int32) + x1).toNatClampNeg)) a5 x1.toNatClampNeg ((sI (sI σ a1 x1.toNatClampNeg (σ.1 a2 ((12 : Int32) + x1).toNatClampNeg)) a3 x1.toNatClampNeg ((sI σ a1 x1.toNatClampNeg (σ.1 a2 ((12 : Int32) + x1).toNatClampNeg)).1 a4 ((12 : Int32) + x1).toNatClampNeg)).1 a6 ((12 : Int32) + x1).toNatClampNeg)).1 a8 ((12 : Int32) + x1).toNatClampNeg)).1 a10 ((12 : Int32) + x1).toNatClampNeg)).1 a12 ((12 : Int32) + x1).toNatClampNeg))))))))))))))
def f_X12_takesDraft_14 (t : Nat) : Nat → Int32 → HS → Option HS
  | 0, _, _ => none
  | n + 1, x1, σ =>
    if 4 ≤ x1 then
      f_X12_takesDraft_69 t FU 0 σ
    else
      rk (σ.2.2 t 10) 16 fun a1 =>
      rk (σ.2.2 t 10) 16 fun a2 =>
      ck ((4 : Int32) + x1) (ln a2) (
      ck x1 (ln a1) (
      rk ((sI σ a1 x1.toNatClampNeg ((σ.1 a2 ((4 : Int32) + x1).toNatClampNeg) &&& 1)).2.2 t 11) 14 fun a3 =>
      rk ((sI σ a1 x1.toNatClampNeg ((σ.1 a2 ((4 : Int32) + x1).toNatClampNeg) &&& 1)).2.2 t 11) 14 fun a4 =>
      ck ((4 : Int32) + x1) (ln a4) (
      ck x1 (ln a3) (
      rk ((sI (sI σ a1 x1.toNatClampNeg ((σ.1 a2 ((4 : Int32) + x1).toNatClampNeg) &&& 1)) a3 x1.toNatClampNeg ((sI σ a1 x1.toNatClampNeg ((σ.1 a2 ((4 : Int32) + x1).toNatClampNeg) &&& 1)).1 a4 ((4 : Int32) + x1).toNatClampNeg)).2.2 t 12) 14 fun a5 =>
      rk ((sI (sI σ a1 x1.toNatClampNeg ((σ.1 a2 ((4 : Int32) + x1).toNatClampNeg) &&& 1)) a3 x1.toNatClampNeg ((sI σ a1 x1.toNatClampNeg ((σ.1 a2 ((4 : Int32) + x1).toNatClampNeg) &&& 1)).1 a4 ((4 : Int32) + x1).toNatClampNeg)).2.2 t 12) 14 fun a6 =>
      ck ((4 : Int32) + x1) (ln a6) (
      ck x1 (ln a5) (
      (f_X12_takesDraft_14 t n) (x1 + 1) (sI (sI (sI σ a1 x1.toNatClampNeg ((σ.1 a2 ((4 : Int32) + x1).toNatClampNeg) &&& 1)) a3 x1.toNatClampNeg ((sI σ a1 x1.toNatClampNeg ((σ.1 a2 ((4 : Int32) + x1).toNatClampNeg) &&& 1)).1 a4 ((4 : Int32) + x1).toNatClampNeg)) a5 x1.toNatClampNeg ((sI (sI σ a1 x1.toNatClampNeg ((σ.1 a2 ((4 : Int32) + x1).toNatClampNeg) &&& 1)) a3 x1.toNatClampNeg ((sI σ a1 x1.toNatClampNeg ((σ.1 a2 ((4 : Int32) + x1).toNatClampNeg) &&& 1)).1 a4 ((4 : Int32) + x1).toNatClampNeg)).1 a6 ((4 : Int32) + x1).toNatClampNeg))))))))
def f_X12_takesDraft (t : Nat) (σ : HS) : Option HS :=
    rk (σ.2.2 t 13) 14 fun a1 =>
    rk (σ.2.2 t 13) 14 fun a2 =>
    ck 1 (ln a2) (
    ck 0 (ln a1) (
    f_X12_takesDraft_14 t FU 0 (sI σ a1 (0 : Int32).toNatClampNeg (σ.1 a2 (1 : Int32).toNatClampNeg))))
def w_X12_choice : List Cond := Cond.code yX12_choice cX12_choice 1 (some .int) :: GT
def f_X12_choice_88 (t : Nat) (σ : HS) : Option (Int32 × HS) :=
    some (σ.1 t 8, σ)
def f_X12_choice_77 (t : Nat) (σ : HS) : Option (Int32 × HS) :=
    if (σ.1 t 8) = 0 then
      (f_X12_takesDraft t σ).bind fun q1 =>
      f_X12_choice_88 t q1
    else
      f_X12_choice_88 t σ
def f_X12_choice_68 (r14 : HS → Option (Int32 × HS)) (t : Nat) (σ : HS) : Option (Int32 × HS) :=
    (f_X12_takeSign t 59 σ).bind fun q1 =>
    r14 q1
def f_X12_choice_57 (r14 : HS → Option (Int32 × HS)) (t : Nat) (σ : HS) : Option (Int32 × HS) :=
    (f_X12_readMeasure t σ).bind fun q1 =>
    f_X12_choice_68 r14 t q1
def f_X12_choice_14 (t : Nat) : Nat → HS → Option (Int32 × HS)
  | 0, _ => none
  | n + 1, σ =>
    if (σ.1 t 8) = 0 then
      rk (σ.2.2 t 4) 14 fun a1 =>
      ck (σ.1 t 7) (ln a1) (
      if (σ.1 a1 (σ.1 t 7).toNatClampNeg) = 0 then
        f_X12_choice_77 t σ
      else
        (f_X12_isWord t 0 σ).bind fun q2 =>
        if q2.1 = 0 then
          (f_X12_isWord t 1 q2.2).bind fun q3 =>
          if q3.1 = 0 then
            (f_X12_isWord t 2 q3.2).bind fun q4 =>
            if q4.1 = 0 then
              (f_X12_readSaying t q4.2).bind fun q5 =>
              f_X12_choice_68 (f_X12_choice_14 t n) t q5
            else
              f_X12_choice_57 (f_X12_choice_14 t n) t q4.2
          else
            f_X12_choice_57 (f_X12_choice_14 t n) t q3.2
        else
          f_X12_choice_57 (f_X12_choice_14 t n) t q2.2)
    else
      f_X12_choice_77 t σ
def f_X12_choice (t : Nat) (σ : HS) : Option (Int32 × HS) :=
    (f_X12_cutAll t (sI σ t 0 0)).bind fun q1 =>
    (f_X12_forgetsChoice t 1 q1).bind fun q2 =>
    f_X12_choice_14 t FU q2
def w_X12_clears : List Cond := Cond.code yX12_clears cX12_clears 3 none :: GT
def f_X12_clears_7 (t : Nat) : Nat → Int32 → HS → Option HS
  | 0, _, _ => none
  | n + 1, x2, σ =>
    if 8 ≤ x2 then
      (f_X12_forgetsChoice t 0 σ).bind fun q1 =>
      some (sI (sI q1 t 23 255) t 24 0)
    else
      rk (σ.2.2 t 21) 16 fun a2 =>
      ck x2 (ln a2) (
      (f_X12_clears_7 t n) (x2 + 1) (sI σ a2 x2.toNatClampNeg (0 &&& 1)))
def f_X12_clears (t : Nat) (x1 : Int32) (σ : HS) : Option HS :=
    f_X12_clears_7 t FU 0 (sI σ t 20 x1)
def w_X12_measures : List Cond := Cond.code yX12_measures cX12_measures 2 (some .boolean) :: GT
def f_X12_measures (t : Nat) (x1 : Int32) (σ : HS) : Option (Int32 × HS) :=
    (f_X12_within x1 1 4 (sI σ t 0 0)).bind fun q1 =>
    if q1.1 = 0 then
      some (0, q1.2)
    else
      (f_X12_clears t x1 q1.2).bind fun q2 =>
      some (1, q2)
def w_X12_thing : List Cond := Cond.code yX12_thing cX12_thing 7 (some .boolean) :: GT
def f_X12_thing_93 (σ : HS) : Option (Int32 × HS) :=
    some (0, σ)
def f_X12_thing_181 (s0 : Int32) (s1 : Int32) (s2 : Nat) (σ : HS) : Option (Int32 × HS) :=
    ck s1 (ln s2) (
    some (1, sI σ s2 s1.toNatClampNeg s0))
def f_X12_thing_157 (t : Nat) (x1 : Int32) (x5 : Int32) (s0 : Int32) (s1 : Int32) (s2 : Nat) (σ : HS) : Option (Int32 × HS) :=
    ck s1 (ln s2) (
    rk ((sI σ s2 s1.toNatClampNeg s0).2.2 t 22) 14 fun a1 =>
    if 4 ≤ ((sI σ s2 s1.toNatClampNeg s0).1 t 20) then
      f_X12_thing_181 x5 (((4 : Int32) * x1) + 3) a1 (sI σ s2 s1.toNatClampNeg s0)
    else
      f_X12_thing_181 0 (((4 : Int32) * x1) + 3) a1 (sI σ s2 s1.toNatClampNeg s0))
def f_X12_thing_133 (t : Nat) (x1 : Int32) (x4 : Int32) (x5 : Int32) (s0 : Int32) (s1 : Int32) (s2 : Nat) (σ : HS) : Option (Int32 × HS) :=
    ck s1 (ln s2) (
    rk ((sI σ s2 s1.toNatClampNeg s0).2.2 t 22) 14 fun a1 =>
    if 3 ≤ ((sI σ s2 s1.toNatClampNeg s0).1 t 20) then
      f_X12_thing_157 t x1 x5 x4 (((4 : Int32) * x1) + 2) a1 (sI σ s2 s1.toNatClampNeg s0)
    else
      f_X12_thing_157 t x1 x5 0 (((4 : Int32) * x1) + 2) a1 (sI σ s2 s1.toNatClampNeg s0))
def f_X12_thing_95 (t : Nat) (x1 : Int32) (x2 : Int32) (x3 : Int32) (x4 : Int32) (x5 : Int32) (σ : HS) : Option (Int32 × HS) :=
    rk (σ.2.2 t 21) 16 fun a1 =>
    ck x1 (ln a1) (
    rk ((sI σ a1 x1.toNatClampNeg (1 &&& 1)).2.2 t 22) 14 fun a2 =>
    ck ((4 : Int32) * x1) (ln a2) (
    rk ((sI (sI σ a1 x1.toNatClampNeg (1 &&& 1)) a2 ((4 : Int32) * x1).toNatClampNeg x2).2.2 t 22) 14 fun a3 =>
    if 2 ≤ ((sI (sI σ a1 x1.toNatClampNeg (1 &&& 1)) a2 ((4 : Int32) * x1).toNatClampNeg x2).1 t 20) then
      f_X12_thing_133 t x1 x4 x5 x3 (((4 : Int32) * x1) + 1) a3 (sI (sI σ a1 x1.toNatClampNeg (1 &&& 1)) a2 ((4 : Int32) * x1).toNatClampNeg x2)
    else
      f_X12_thing_133 t x1 x4 x5 0 (((4 : Int32) * x1) + 1) a3 (sI (sI σ a1 x1.toNatClampNeg (1 &&& 1)) a2 ((4 : Int32) * x1).toNatClampNeg x2)))
def f_X12_thing_74 (t : Nat) (x1 : Int32) (x2 : Int32) (x3 : Int32) (x4 : Int32) (x5 : Int32) (σ : HS) : Option (Int32 × HS) :=
    if (σ.1 t 20) ≤ 3 then
      f_X12_thing_95 t x1 x2 x3 x4 x5 σ
    else
      (f_X12_within x5 0 100 σ).bind fun q1 =>
      if q1.1 = 0 then
        f_X12_thing_93 q1.2
      else
        f_X12_thing_95 t x1 x2 x3 x4 x5 q1.2
def f_X12_thing_48 (t : Nat) (x1 : Int32) (x2 : Int32) (x3 : Int32) (x4 : Int32) (x5 : Int32) (s0 : Int32) (σ : HS) : Option (Int32 × HS) :=
    if s0 = 0 then
      f_X12_thing_93 σ
    else
      if (σ.1 t 20) ≤ 2 then
        f_X12_thing_74 t x1 x2 x3 x4 x5 σ
      else
        (f_X12_within x4 0 100 σ).bind fun q1 =>
        if q1.1 = 0 then
          f_X12_thing_93 q1.2
        else
          f_X12_thing_74 t x1 x2 x3 x4 x5 q1.2
def f_X12_thing_47 (t : Nat) (x1 : Int32) (x2 : Int32) (x3 : Int32) (x4 : Int32) (x5 : Int32) (σ : HS) : Option (Int32 × HS) :=
    f_X12_thing_48 t x1 x2 x3 x4 x5 0 σ
def f_X12_thing_43 (t : Nat) (x1 : Int32) (x2 : Int32) (x3 : Int32) (x4 : Int32) (x5 : Int32) (σ : HS) : Option (Int32 × HS) :=
    f_X12_thing_48 t x1 x2 x3 x4 x5 1 σ
def f_X12_thing (t : Nat) (x1 : Int32) (x2 : Int32) (x3 : Int32) (x4 : Int32) (x5 : Int32) (σ : HS) : Option (Int32 × HS) :=
    (f_X12_within x1 0 7 (sI σ t 0 0)).bind fun q1 =>
    if q1.1 = 0 then
      f_X12_thing_47 t x1 x2 x3 x4 x5 q1.2
    else
      (f_X12_within x2 0 100 q1.2).bind fun q2 =>
      if q2.1 = 0 then
        f_X12_thing_47 t x1 x2 x3 x4 x5 q2.2
      else
        if (q2.2.1 t 20) < 2 then
          f_X12_thing_43 t x1 x2 x3 x4 x5 q2.2
        else
          (f_X12_within x3 0 100 q2.2).bind fun q3 =>
          if q3.1 = 0 then
            f_X12_thing_47 t x1 x2 x3 x4 x5 q3.2
          else
            f_X12_thing_43 t x1 x2 x3 x4 x5 q3.2
def w_X12_isThing : List Cond := Cond.code yX12_isThing cX12_isThing 2 (some .boolean) :: GT
def f_X12_isThing_24 (s0 : Int32) (σ : HS) : Option (Int32 × HS) :=
    zr s0 σ
def f_X12_isThing_23 (σ : HS) : Option (Int32 × HS) :=
    f_X12_isThing_24 0 σ
def f_X12_isThing (t : Nat) (x1 : Int32) (σ : HS) : Option (Int32 × HS) :=
    (f_X12_within x1 0 7 σ).bind fun q1 =>
    if q1.1 = 0 then
      f_X12_isThing_23 q1.2
    else
      rk (q1.2.2.2 t 21) 16 fun a2 =>
      ck x1 (ln a2) (
      if (q1.2.1 a2 x1.toNatClampNeg) = 0 then
        f_X12_isThing_23 q1.2
      else
        f_X12_isThing_24 1 q1.2)
def w_X12_drop : List Cond := Cond.code yX12_drop cX12_drop 2 (some .boolean) :: GT
def f_X12_drop (t : Nat) (x1 : Int32) (σ : HS) : Option (Int32 × HS) :=
    (f_X12_isThing t x1 (sI σ t 0 0)).bind fun q1 =>
    if q1.1 = 0 then
      some (0, q1.2)
    else
      rk (q1.2.2.2 t 21) 16 fun a2 =>
      ck x1 (ln a2) (
      some (1, sI q1.2 a2 x1.toNatClampNeg (0 &&& 1)))
def w_X12_voices : List Cond := Cond.code yX12_voices cX12_voices 2 (some .boolean) :: GT
def f_X12_voices (t : Nat) (x1 : Int32) (σ : HS) : Option (Int32 × HS) :=
    (f_X12_within x1 0 255 (sI σ t 0 0)).bind fun q1 =>
    if q1.1 = 0 then
      some (0, q1.2)
    else
      some (1, sI q1.2 t 23 x1)
def w_X12_uncapped : List Cond := Cond.code yX12_uncapped cX12_uncapped 3 (some .int) :: GT
def f_X12_uncapped_35 (s0 : Int32) (σ : HS) : Option (Int32 × HS) :=
    some (s0, σ)
def f_X12_uncapped (t : Nat) (x1 : Int32) (x2 : Int32) (σ : HS) : Option (Int32 × HS) :=
    rk (σ.2.2 t 10) 16 fun a1 =>
    ck x2 (ln a1) (
    if (σ.1 a1 x2.toNatClampNeg) = 0 then
      rk (σ.2.2 t 22) 14 fun a2 =>
      ck (((4 : Int32) * x1) + x2) (ln a2) (
      f_X12_uncapped_35 (σ.1 a2 (((4 : Int32) * x1) + x2).toNatClampNeg) σ)
    else
      rk (σ.2.2 t 22) 14 fun a3 =>
      ck (((4 : Int32) * x1) + x2) (ln a3) (
      f_X12_uncapped_35 ((100 : Int32) - (σ.1 a3 (((4 : Int32) * x1) + x2).toNatClampNeg)) σ))
def w_X12_valueOf : List Cond := Cond.code yX12_valueOf cX12_valueOf 4 (some .int) :: GT
def f_X12_valueOf_36 (s0 : Int32) (σ : HS) : Option (Int32 × HS) :=
    some (s0, σ)
def f_X12_valueOf_35 (x3 : Int32) (σ : HS) : Option (Int32 × HS) :=
    f_X12_valueOf_36 x3 σ
def f_X12_valueOf (t : Nat) (x1 : Int32) (x2 : Int32) (σ : HS) : Option (Int32 × HS) :=
    (f_X12_uncapped t x1 x2 σ).bind fun q1 =>
    rk (q1.2.2.2 t 11) 14 fun a2 =>
    ck x2 (ln a2) (
    if (q1.2.1 a2 x2.toNatClampNeg) < 0 then
      f_X12_valueOf_35 q1.1 q1.2
    else
      rk (q1.2.2.2 t 11) 14 fun a3 =>
      ck x2 (ln a3) (
      if q1.1 ≤ (q1.2.1 a3 x2.toNatClampNeg) then
        f_X12_valueOf_35 q1.1 q1.2
      else
        rk (q1.2.2.2 t 11) 14 fun a4 =>
        ck x2 (ln a4) (
        f_X12_valueOf_36 (q1.2.1 a4 x2.toNatClampNeg) q1.2)))
def w_X12_isIn : List Cond := Cond.code yX12_isIn cX12_isIn 4 (some .boolean) :: GT
def f_X12_isIn_56 (x2 : Int32) (σ : HS) : Option (Int32 × HS) :=
    zr x2 σ
def f_X12_isIn_49 (r8 : Int32 → Int32 → HS → Option (Int32 × HS)) (t : Nat) (x1 : Int32) (x3 : Int32) (s0 : Int32) (σ : HS) : Option (Int32 × HS) :=
    r8 s0 (x3 + 1) σ
def f_X12_isIn_44 (r8 : Int32 → Int32 → HS → Option (Int32 × HS)) (t : Nat) (x1 : Int32) (x3 : Int32) (σ : HS) : Option (Int32 × HS) :=
    f_X12_isIn_49 r8 t x1 x3 1 σ
def f_X12_isIn_8 (t : Nat) (x1 : Int32) : Nat → Int32 → Int32 → HS → Option (Int32 × HS)
  | 0, _, _, _ => none
  | n + 1, x2, x3, σ =>
    if (σ.1 t 20) ≤ x3 then
      f_X12_isIn_56 x2 σ
    else
      if x2 = 0 then
        f_X12_isIn_56 x2 σ
      else
        rk (σ.2.2 t 12) 14 fun a1 =>
        ck x3 (ln a1) (
        if (σ.1 a1 x3.toNatClampNeg) < 0 then
          f_X12_isIn_44 (f_X12_isIn_8 t x1 n) t x1 x3 σ
        else
          (f_X12_uncapped t x1 x3 σ).bind fun q2 =>
          rk (q2.2.2.2 t 12) 14 fun a3 =>
          ck x3 (ln a3) (
          if q2.1 < (q2.2.1 a3 x3.toNatClampNeg) then
            f_X12_isIn_49 (f_X12_isIn_8 t x1 n) t x1 x3 0 q2.2
          else
            f_X12_isIn_44 (f_X12_isIn_8 t x1 n) t x1 x3 q2.2))
def f_X12_isIn (t : Nat) (x1 : Int32) (σ : HS) : Option (Int32 × HS) :=
    (f_X12_isThing t x1 σ).bind fun q1 =>
    f_X12_isIn_8 t x1 FU q1.1 0 q1.2
def w_X12_inMany : List Cond := Cond.code yX12_inMany cX12_inMany 3 (some .int) :: GT
def f_X12_inMany_24 (r4 : Int32 → Int32 → HS → Option (Int32 × HS)) (t : Nat) (x2 : Int32) (s0 : Int32) (s1 : Int32) (σ : HS) : Option (Int32 × HS) :=
    r4 (s1 + s0) (x2 + 1) σ
def f_X12_inMany_4 (t : Nat) : Nat → Int32 → Int32 → HS → Option (Int32 × HS)
  | 0, _, _, _ => none
  | n + 1, x1, x2, σ =>
    if 8 ≤ x2 then
      some (x1, σ)
    else
      (f_X12_isIn t x2 σ).bind fun q1 =>
      if q1.1 = 0 then
        f_X12_inMany_24 (f_X12_inMany_4 t n) t x2 0 x1 q1.2
      else
        f_X12_inMany_24 (f_X12_inMany_4 t n) t x2 1 x1 q1.2
def f_X12_inMany (t : Nat) (σ : HS) : Option (Int32 × HS) :=
    f_X12_inMany_4 t FU 0 0 σ
def w_X12_value : List Cond := Cond.code yX12_value cX12_value 3 (some .int) :: GT
def f_X12_value_48 (s0 : Int32) (σ : HS) : Option (Int32 × HS) :=
    some (s0, σ)
def f_X12_value_28 (t : Nat) (x1 : Int32) (x2 : Int32) (s0 : Int32) (s1 : Nat) (σ : HS) : Option (Int32 × HS) :=
    if ((sI σ s1 0 s0).1 t 0) ≤ 0 then
      (f_X12_valueOf t x1 x2 (sI σ s1 0 s0)).bind fun q1 =>
      f_X12_value_48 q1.1 q1.2
    else
      f_X12_value_48 0 (sI σ s1 0 s0)
def f_X12_value_27 (t : Nat) (x1 : Int32) (x2 : Int32) (s0 : Nat) (σ : HS) : Option (Int32 × HS) :=
    f_X12_value_28 t x1 x2 1 s0 σ
def f_X12_value (t : Nat) (x1 : Int32) (x2 : Int32) (σ : HS) : Option (Int32 × HS) :=
    (f_X12_isThing t x1 σ).bind fun q1 =>
    if q1.1 = 0 then
      f_X12_value_27 t x1 x2 t q1.2
    else
      (f_X12_within x2 0 ((q1.2.1 t 20) - 1) q1.2).bind fun q2 =>
      if q2.1 = 0 then
        f_X12_value_27 t x1 x2 t q2.2
      else
        f_X12_value_28 t x1 x2 0 t q2.2
def w_X12_standing : List Cond := Cond.code yX12_standing cX12_standing 2 (some .int) :: GT
def f_X12_standing_30 (s0 : Int32) (σ : HS) : Option (Int32 × HS) :=
    some (s0, σ)
def f_X12_standing (t : Nat) (x1 : Int32) (σ : HS) : Option (Int32 × HS) :=
    (f_X12_isThing t x1 (sI σ t 0 0)).bind fun q1 =>
    if q1.1 = 0 then
      f_X12_standing_30 (-1) q1.2
    else
      (f_X12_isIn t x1 q1.2).bind fun q2 =>
      if q2.1 = 0 then
        f_X12_standing_30 0 q2.2
      else
        f_X12_standing_30 1 q2.2
def w_X12_addsRow : List Cond := Cond.code yX12_addsRow cX12_addsRow 9 none :: GT
def f_X12_addsRow (t : Nat) (x1 : Int64) (x3 : Int64) (x5 : Int64) (x7 : Int64) (σ : HS) : Option HS :=
    rk (σ.2.2 t 27) 15 fun a1 =>
    ck ((4 : Int32) * (σ.1 t 26)) (ln a1) (
    rk ((sJ σ a1 ((4 : Int32) * (σ.1 t 26)).toNatClampNeg x1).2.2 t 27) 15 fun a2 =>
    ck (((4 : Int32) * ((sJ σ a1 ((4 : Int32) * (σ.1 t 26)).toNatClampNeg x1).1 t 26)) + 1) (ln a2) (
    rk ((sJ (sJ σ a1 ((4 : Int32) * (σ.1 t 26)).toNatClampNeg x1) a2 (((4 : Int32) * ((sJ σ a1 ((4 : Int32) * (σ.1 t 26)).toNatClampNeg x1).1 t 26)) + 1).toNatClampNeg x3).2.2 t 27) 15 fun a3 =>
    ck (((4 : Int32) * ((sJ (sJ σ a1 ((4 : Int32) * (σ.1 t 26)).toNatClampNeg x1) a2 (((4 : Int32) * ((sJ σ a1 ((4 : Int32) * (σ.1 t 26)).toNatClampNeg x1).1 t 26)) + 1).toNatClampNeg x3).1 t 26)) + 2) (ln a3) (
    rk ((sJ (sJ (sJ σ a1 ((4 : Int32) * (σ.1 t 26)).toNatClampNeg x1) a2 (((4 : Int32) * ((sJ σ a1 ((4 : Int32) * (σ.1 t 26)).toNatClampNeg x1).1 t 26)) + 1).toNatClampNeg x3) a3 (((4 : Int32) * ((sJ (sJ σ a1 ((4 : Int32) * (σ.1 t 26)).toNatClampNeg x1) a2 (((4 : Int32) * ((sJ σ a1 ((4 : Int32) * (σ.1 t 26)).toNatClampNeg x1).1 t 26)) + 1).toNatClampNeg x3).1 t 26)) + 2).toNatClampNeg x5).2.2 t 27) 15 fun a4 =>
    ck (((4 : Int32) * ((sJ (sJ (sJ σ a1 ((4 : Int32) * (σ.1 t 26)).toNatClampNeg x1) a2 (((4 : Int32) * ((sJ σ a1 ((4 : Int32) * (σ.1 t 26)).toNatClampNeg x1).1 t 26)) + 1).toNatClampNeg x3) a3 (((4 : Int32) * ((sJ (sJ σ a1 ((4 : Int32) * (σ.1 t 26)).toNatClampNeg x1) a2 (((4 : Int32) * ((sJ σ a1 ((4 : Int32) * (σ.1 t 26)).toNatClampNeg x1).1 t 26)) + 1).toNatClampNeg x3).1 t 26)) + 2).toNatClampNeg x5).1 t 26)) + 3) (ln a4) (
    some (sI (sJ (sJ (sJ (sJ σ a1 ((4 : Int32) * (σ.1 t 26)).toNatClampNeg x1) a2 (((4 : Int32) * ((sJ σ a1 ((4 : Int32) * (σ.1 t 26)).toNatClampNeg x1).1 t 26)) + 1).toNatClampNeg x3) a3 (((4 : Int32) * ((sJ (sJ σ a1 ((4 : Int32) * (σ.1 t 26)).toNatClampNeg x1) a2 (((4 : Int32) * ((sJ σ a1 ((4 : Int32) * (σ.1 t 26)).toNatClampNeg x1).1 t 26)) + 1).toNatClampNeg x3).1 t 26)) + 2).toNatClampNeg x5) a4 (((4 : Int32) * ((sJ (sJ (sJ σ a1 ((4 : Int32) * (σ.1 t 26)).toNatClampNeg x1) a2 (((4 : Int32) * ((sJ σ a1 ((4 : Int32) * (σ.1 t 26)).toNatClampNeg x1).1 t 26)) + 1).toNatClampNeg x3) a3 (((4 : Int32) * ((sJ (sJ σ a1 ((4 : Int32) * (σ.1 t 26)).toNatClampNeg x1) a2 (((4 : Int32) * ((sJ σ a1 ((4 : Int32) * (σ.1 t 26)).toNatClampNeg x1).1 t 26)) + 1).toNatClampNeg x3).1 t 26)) + 2).toNatClampNeg x5).1 t 26)) + 3).toNatClampNeg x7) t 26 (((sJ (sJ (sJ (sJ σ a1 ((4 : Int32) * (σ.1 t 26)).toNatClampNeg x1) a2 (((4 : Int32) * ((sJ σ a1 ((4 : Int32) * (σ.1 t 26)).toNatClampNeg x1).1 t 26)) + 1).toNatClampNeg x3) a3 (((4 : Int32) * ((sJ (sJ σ a1 ((4 : Int32) * (σ.1 t 26)).toNatClampNeg x1) a2 (((4 : Int32) * ((sJ σ a1 ((4 : Int32) * (σ.1 t 26)).toNatClampNeg x1).1 t 26)) + 1).toNatClampNeg x3).1 t 26)) + 2).toNatClampNeg x5) a4 (((4 : Int32) * ((sJ (sJ (sJ σ a1 ((4 : Int32) * (σ.1 t 26)).toNatClampNeg x1) a2 (((4 : Int32) * ((sJ σ a1 ((4 : Int32) * (σ.1 t 26)).toNatClampNeg x1).1 t 26)) + 1).toNatClampNeg x3) a3 (((4 : Int32) * ((sJ (sJ σ a1 ((4 : Int32) * (σ.1 t 26)).toNatClampNeg x1) a2 (((4 : Int32) * ((sJ σ a1 ((4 : Int32) * (σ.1 t 26)).toNatClampNeg x1).1 t 26)) + 1).toNatClampNeg x3).1 t 26)) + 2).toNatClampNeg x5).1 t 26)) + 3).toNatClampNeg x7).1 t 26) + 1))))))
def w_X12_one : List Cond := Cond.code yX12_one cX12_one 4 (some .long) :: GT
def f_X12_one_10 (s0 : Int64) (σ : HS) : Option (Int64 × HS) :=
    some (s0, σ)
def f_X12_one (x0 : Int32) (x1 : Int32) (x2 : Int64) (σ : HS) : Option (Int64 × HS) :=
    if x0 = x1 then
      f_X12_one_10 x2 σ
    else
      f_X12_one_10 0 σ
def w_X12_addsPair : List Cond := Cond.code yX12_addsPair cX12_addsPair 7 none :: GT
def f_X12_addsPair (t : Nat) (x1 : Int32) (x2 : Int64) (x4 : Int32) (x5 : Int64) (σ : HS) : Option HS :=
    (f_X12_one x1 0 x2 σ).bind fun q1 =>
    (f_X12_one x4 0 x5 q1.2).bind fun q2 =>
    (f_X12_one x1 1 x2 q2.2).bind fun q3 =>
    (f_X12_one x4 1 x5 q3.2).bind fun q4 =>
    (f_X12_one x1 2 x2 q4.2).bind fun q5 =>
    (f_X12_one x4 2 x5 q5.2).bind fun q6 =>
    (f_X12_one x1 3 x2 q6.2).bind fun q7 =>
    (f_X12_one x4 3 x5 q7.2).bind fun q8 =>
    (f_X12_addsRow t (q1.1 - q2.1) (q3.1 - q4.1) (q5.1 - q6.1) (q7.1 - q8.1) q8.2).bind fun q9 =>
    some q9
def w_X12_shareOf : List Cond := Cond.code yX12_shareOf cX12_shareOf 3 (some .long) :: GT
def f_X12_shareOf_14 (s0 : Int64) (σ : HS) : Option (Int64 × HS) :=
    some (s0, σ)
def f_X12_shareOf (t : Nat) (x1 : Int32) (x2 : Int32) (σ : HS) : Option (Int64 × HS) :=
    if (σ.1 t 20) ≤ x1 then
      f_X12_shareOf_14 0 σ
    else
      f_X12_shareOf_14 x2.toInt64 σ
def w_X12_addsShare : List Cond := Cond.code yX12_addsShare cX12_addsShare 5 none :: GT
def f_X12_addsShare (t : Nat) (x1 : Int32) (x2 : Int32) (x3 : Int64) (σ : HS) : Option HS :=
    (f_X12_one x1 0 100 σ).bind fun q1 =>
    (f_X12_one x1 1 100 q1.2).bind fun q2 =>
    (f_X12_shareOf t 1 x2 q2.2).bind fun q3 =>
    (f_X12_one x1 2 100 q3.2).bind fun q4 =>
    (f_X12_shareOf t 2 x2 q4.2).bind fun q5 =>
    (f_X12_one x1 3 100 q5.2).bind fun q6 =>
    (f_X12_shareOf t 3 x2 q6.2).bind fun q7 =>
    (f_X12_addsRow t (x3 * (q1.1 - x2.toInt64)) (x3 * (q2.1 - q3.1)) (x3 * (q4.1 - q5.1)) (x3 * (q6.1 - q7.1)) q7.2).bind fun q8 =>
    some q8
def w_X12_differ : List Cond := Cond.code yX12_differ cX12_differ 4 (some .long) :: GT
def f_X12_differ_26 (s0 : Int64) (σ : HS) : Option (Int64 × HS) :=
    some (s0, σ)
def f_X12_differ (t : Nat) (x1 : Int32) (x2 : Int32) (x3 : Int32) (σ : HS) : Option (Int64 × HS) :=
    if (σ.1 t 20) ≤ x3 then
      f_X12_differ_26 0 σ
    else
      (f_X12_valueOf t x1 x3 σ).bind fun q1 =>
      (f_X12_valueOf t x2 x3 q1.2).bind fun q2 =>
      f_X12_differ_26 ((q1.1 - q2.1).toInt64) q2.2
def w_X12_addsBetter : List Cond := Cond.code yX12_addsBetter cX12_addsBetter 3 none :: GT
def f_X12_addsBetter (t : Nat) (x1 : Int32) (x2 : Int32) (σ : HS) : Option HS :=
    (f_X12_differ t x1 x2 0 σ).bind fun q1 =>
    (f_X12_differ t x1 x2 1 q1.2).bind fun q2 =>
    (f_X12_differ t x1 x2 2 q2.2).bind fun q3 =>
    (f_X12_differ t x1 x2 3 q3.2).bind fun q4 =>
    (f_X12_addsRow t q1.1 q2.1 q3.1 q4.1 q4.2).bind fun q5 =>
    some q5
def w_X12_addsSaying : List Cond := Cond.code yX12_addsSaying cX12_addsSaying 4 none :: GT
def f_X12_addsSaying_159 (σ : HS) : Option HS :=
    some σ
def f_X12_addsSaying (t : Nat) (x1 : Int32) (σ : HS) : Option HS :=
    rk (σ.2.2 t 18) 14 fun a1 =>
    ck x1 (ln a1) (
    rk (σ.2.2 t 19) 14 fun a2 =>
    ck x1 (ln a2) (
    rk (σ.2.2 t 15) 14 fun a3 =>
    ck x1 (ln a3) (
    if (σ.1 a3 x1.toNatClampNeg) = 3 then
      (f_X12_addsPair t (σ.1 a1 x1.toNatClampNeg) 1 (σ.1 a2 x1.toNatClampNeg) 1 σ).bind fun q4 =>
      f_X12_addsSaying_159 q4
    else if (σ.1 a3 x1.toNatClampNeg) = 4 then
      (f_X12_addsPair t (σ.1 a1 x1.toNatClampNeg) 1 (σ.1 a2 x1.toNatClampNeg) 2 σ).bind fun q5 =>
      f_X12_addsSaying_159 q5
    else if (σ.1 a3 x1.toNatClampNeg) = 5 then
      rk (σ.2.2 t 16) 14 fun a6 =>
      ck x1 (ln a6) (
      rk (σ.2.2 t 17) 14 fun a7 =>
      ck x1 (ln a7) (
      (f_X12_addsPair t (σ.1 a1 x1.toNatClampNeg) ((σ.1 a6 x1.toNatClampNeg).toInt64) (σ.1 a2 x1.toNatClampNeg) ((σ.1 a7 x1.toNatClampNeg).toInt64) σ).bind fun q8 =>
      f_X12_addsSaying_159 q8))
    else if (σ.1 a3 x1.toNatClampNeg) = 6 then
      rk (σ.2.2 t 16) 14 fun a9 =>
      ck x1 (ln a9) (
      (f_X12_addsShare t (σ.1 a1 x1.toNatClampNeg) (σ.1 a9 x1.toNatClampNeg) 1 σ).bind fun q10 =>
      f_X12_addsSaying_159 q10)
    else if (σ.1 a3 x1.toNatClampNeg) = 7 then
      rk (σ.2.2 t 16) 14 fun a11 =>
      ck x1 (ln a11) (
      (f_X12_addsShare t (σ.1 a1 x1.toNatClampNeg) (σ.1 a11 x1.toNatClampNeg) (-1) σ).bind fun q12 =>
      f_X12_addsSaying_159 q12)
    else 
    rk (σ.2.2 t 21) 16 fun a13 =>
    ck (σ.1 a1 x1.toNatClampNeg) (ln a13) (
    if (σ.1 a13 (σ.1 a1 x1.toNatClampNeg).toNatClampNeg) = 0 then
      f_X12_addsSaying_159 σ
    else
      rk (σ.2.2 t 21) 16 fun a14 =>
      ck (σ.1 a2 x1.toNatClampNeg) (ln a14) (
      if (σ.1 a14 (σ.1 a2 x1.toNatClampNeg).toNatClampNeg) = 0 then
        f_X12_addsSaying_159 σ
      else
        (f_X12_addsBetter t (σ.1 a1 x1.toNatClampNeg) (σ.1 a2 x1.toNatClampNeg) σ).bind fun q15 =>
        f_X12_addsSaying_159 q15)))))
def w_X12_isHeard : List Cond := Cond.code yX12_isHeard cX12_isHeard 2 (some .boolean) :: GT
def f_X12_isHeard_22 (s0 : Int32) (σ : HS) : Option (Int32 × HS) :=
    zr s0 σ
def f_X12_isHeard (t : Nat) (x1 : Int32) (σ : HS) : Option (Int32 × HS) :=
    rk (σ.2.2 t 14) 14 fun a1 =>
    ck x1 (ln a1) (
    if (((σ.1 t 23) >>> ((σ.1 a1 x1.toNatClampNeg) &&& 31)) &&& 1) = 1 then
      f_X12_isHeard_22 1 σ
    else
      f_X12_isHeard_22 0 σ)
def w_X12_beginsRows : List Cond := Cond.code yX12_beginsRows cX12_beginsRows 2 none :: GT
def f_X12_beginsRows_7 (t : Nat) : Nat → Int32 → HS → Option HS
  | 0, _, _ => none
  | n + 1, x1, σ =>
    if (σ.1 t 20) ≤ x1 then
      some σ
    else
      (f_X12_one x1 0 1 σ).bind fun q1 =>
      (f_X12_one x1 1 1 q1.2).bind fun q2 =>
      (f_X12_one x1 2 1 q2.2).bind fun q3 =>
      (f_X12_one x1 3 1 q3.2).bind fun q4 =>
      (f_X12_addsRow t q1.1 q2.1 q3.1 q4.1 q4.2).bind fun q5 =>
      (f_X12_beginsRows_7 t n) (x1 + 1) q5
def f_X12_beginsRows (t : Nat) (σ : HS) : Option HS :=
    f_X12_beginsRows_7 t FU 0 (sI σ t 26 0)
def w_X12_laysRows : List Cond := Cond.code yX12_laysRows cX12_laysRows 3 none :: GT
def f_X12_laysRows_30 (r6 : Int32 → HS → Option HS) (t : Nat) (x1 : Int32) (x2 : Int32) (σ : HS) : Option HS :=
    r6 (x2 + 1) σ
def f_X12_laysRows_6 (t : Nat) (x1 : Int32) : Nat → Int32 → HS → Option HS
  | 0, _, _ => none
  | n + 1, x2, σ =>
    rk (σ.2.2 t 13) 14 fun a1 =>
    ck 0 (ln a1) (
    if (σ.1 a1 (0 : Int32).toNatClampNeg) ≤ x2 then
      some σ
    else
      if ((x1 >>> (x2 &&& 31)) &&& 1) = 1 then
        (f_X12_addsSaying t x2 σ).bind fun q2 =>
        f_X12_laysRows_30 (f_X12_laysRows_6 t x1 n) t x1 x2 q2
      else
        f_X12_laysRows_30 (f_X12_laysRows_6 t x1 n) t x1 x2 σ)
def f_X12_laysRows (t : Nat) (x1 : Int32) (σ : HS) : Option HS :=
    (f_X12_beginsRows t σ).bind fun q1 =>
    f_X12_laysRows_6 t x1 FU 0 q1
def w_X12_heard : List Cond := Cond.code yX12_heard cX12_heard 3 (some .int) :: GT
def f_X12_heard_30 (r4 : Int32 → Int32 → HS → Option (Int32 × HS)) (t : Nat) (x2 : Int32) (s0 : Int32) (s1 : Int32) (σ : HS) : Option (Int32 × HS) :=
    r4 (s1 ||| s0) (x2 + 1) σ
def f_X12_heard_4 (t : Nat) : Nat → Int32 → Int32 → HS → Option (Int32 × HS)
  | 0, _, _, _ => none
  | n + 1, x1, x2, σ =>
    rk (σ.2.2 t 13) 14 fun a1 =>
    ck 0 (ln a1) (
    if (σ.1 a1 (0 : Int32).toNatClampNeg) ≤ x2 then
      some (x1, σ)
    else
      (f_X12_isHeard t x2 σ).bind fun q2 =>
      if q2.1 = 0 then
        f_X12_heard_30 (f_X12_heard_4 t n) t x2 0 x1 q2.2
      else
        f_X12_heard_30 (f_X12_heard_4 t n) t x2 ((1 : Int32) <<< (x2 &&& 31)) x1 q2.2)
def f_X12_heard (t : Nat) (σ : HS) : Option (Int32 × HS) :=
    f_X12_heard_4 t FU 0 0 σ
def w_X12_common : List Cond := Cond.code yX12_common cX12_common 10 (some .long) :: GT
def f_X12_common_28  : Nat → Int64 → Int64 → HS → Option (Int64 × HS)
  | 0, _, _, _ => none
  | n + 1, x4, x6, σ =>
    if x6 = 0 then
      some (x4, σ)
    else
      nz (x6 = 0) (
      (f_X12_common_28 n) x6 (x4 - x4 / x6 * x6) σ)
def f_X12_common_26 (x4 : Int64) (s0 : Int64) (σ : HS) : Option (Int64 × HS) :=
    f_X12_common_28 FU x4 s0 σ
def f_X12_common_12 (x2 : Int64) (s0 : Int64) (σ : HS) : Option (Int64 × HS) :=
    if 0 ≤ x2 then
      f_X12_common_26 s0 x2 σ
    else
      f_X12_common_26 s0 (-x2) σ
def f_X12_common (x0 : Int64) (x2 : Int64) (σ : HS) : Option (Int64 × HS) :=
    if 0 ≤ x0 then
      f_X12_common_12 x2 x0 σ
    else
      f_X12_common_12 x2 (-x0) σ
def w_X12_times : List Cond := Cond.code yX12_times cX12_times 7 (some .long) :: GT
def f_X12_times_6 (t : Nat) (x1 : Int32) (x2 : Int32) (x3 : Int32) : Nat → Int64 → Int32 → HS → Option (Int64 × HS)
  | 0, _, _, _ => none
  | n + 1, x4, x6, σ =>
    if (σ.1 t 20) ≤ x6 then
      some (x4, σ)
    else
      rk (σ.2.2 t 27) 15 fun a1 =>
      ck (((4 : Int32) * x1) + x6) (ln a1) (
      rk (σ.2.2 t 30) 15 fun a2 =>
      ck (((4 : Int32) * (((72 : Int32) * x2) + x3)) + x6) (ln a2) (
      (f_X12_times_6 t x1 x2 x3 n) (x4 + ((σ.2.1 a1 (((4 : Int32) * x1) + x6).toNatClampNeg) * (σ.2.1 a2 (((4 : Int32) * (((72 : Int32) * x2) + x3)) + x6).toNatClampNeg))) (x6 + 1) σ))
def f_X12_times (t : Nat) (x1 : Int32) (x2 : Int32) (x3 : Int32) (σ : HS) : Option (Int64 × HS) :=
    f_X12_times_6 t x1 x2 x3 FU 0 0 σ
def w_X12_two : List Cond := Cond.code yX12_two cX12_two 8 (some .long) :: GT
def f_X12_two (x0 : Int64) (x2 : Int64) (x4 : Int64) (x6 : Int64) (σ : HS) : Option (Int64 × HS) :=
    some ((x0 * x6) - (x2 * x4), σ)
def w_X12_three : List Cond := Cond.code yX12_three cX12_three 13 (some .long) :: GT
def f_X12_three (t : Nat) (x1 : Int32) (x2 : Int32) (x3 : Int32) (x4 : Int32) (x5 : Int32) (x6 : Int32) (σ : HS) : Option (Int64 × HS) :=
    rk (σ.2.2 t 27) 15 fun a1 =>
    ck (((4 : Int32) * x1) + x4) (ln a1) (
    rk (σ.2.2 t 27) 15 fun a2 =>
    ck (((4 : Int32) * x2) + x5) (ln a2) (
    rk (σ.2.2 t 27) 15 fun a3 =>
    ck (((4 : Int32) * x2) + x6) (ln a3) (
    rk (σ.2.2 t 27) 15 fun a4 =>
    ck (((4 : Int32) * x3) + x5) (ln a4) (
    rk (σ.2.2 t 27) 15 fun a5 =>
    ck (((4 : Int32) * x3) + x6) (ln a5) (
    (f_X12_two (σ.2.1 a2 (((4 : Int32) * x2) + x5).toNatClampNeg) (σ.2.1 a3 (((4 : Int32) * x2) + x6).toNatClampNeg) (σ.2.1 a4 (((4 : Int32) * x3) + x5).toNatClampNeg) (σ.2.1 a5 (((4 : Int32) * x3) + x6).toNatClampNeg) σ).bind fun q6 =>
    rk (q6.2.2.2 t 27) 15 fun a7 =>
    ck (((4 : Int32) * x1) + x5) (ln a7) (
    rk (q6.2.2.2 t 27) 15 fun a8 =>
    ck (((4 : Int32) * x2) + x4) (ln a8) (
    rk (q6.2.2.2 t 27) 15 fun a9 =>
    ck (((4 : Int32) * x2) + x6) (ln a9) (
    rk (q6.2.2.2 t 27) 15 fun a10 =>
    ck (((4 : Int32) * x3) + x4) (ln a10) (
    rk (q6.2.2.2 t 27) 15 fun a11 =>
    ck (((4 : Int32) * x3) + x6) (ln a11) (
    (f_X12_two (q6.2.2.1 a8 (((4 : Int32) * x2) + x4).toNatClampNeg) (q6.2.2.1 a9 (((4 : Int32) * x2) + x6).toNatClampNeg) (q6.2.2.1 a10 (((4 : Int32) * x3) + x4).toNatClampNeg) (q6.2.2.1 a11 (((4 : Int32) * x3) + x6).toNatClampNeg) q6.2).bind fun q12 =>
    rk (q12.2.2.2 t 27) 15 fun a13 =>
    ck (((4 : Int32) * x1) + x6) (ln a13) (
    rk (q12.2.2.2 t 27) 15 fun a14 =>
    ck (((4 : Int32) * x2) + x4) (ln a14) (
    rk (q12.2.2.2 t 27) 15 fun a15 =>
    ck (((4 : Int32) * x2) + x5) (ln a15) (
    rk (q12.2.2.2 t 27) 15 fun a16 =>
    ck (((4 : Int32) * x3) + x4) (ln a16) (
    rk (q12.2.2.2 t 27) 15 fun a17 =>
    ck (((4 : Int32) * x3) + x5) (ln a17) (
    (f_X12_two (q12.2.2.1 a14 (((4 : Int32) * x2) + x4).toNatClampNeg) (q12.2.2.1 a15 (((4 : Int32) * x2) + x5).toNatClampNeg) (q12.2.2.1 a16 (((4 : Int32) * x3) + x4).toNatClampNeg) (q12.2.2.1 a17 (((4 : Int32) * x3) + x5).toNatClampNeg) q12.2).bind fun q18 =>
    some ((((σ.2.1 a1 (((4 : Int32) * x1) + x4).toNatClampNeg) * q6.1) - ((q6.2.2.1 a7 (((4 : Int32) * x1) + x5).toNatClampNeg) * q12.1)) + ((q12.2.2.1 a13 (((4 : Int32) * x1) + x6).toNatClampNeg) * q18.1), q18.2))))))))))))))))
def w_X12_crosses : List Cond := Cond.code yX12_crosses cX12_crosses 5 none :: GT
def f_X12_crosses_300 (σ : HS) : Option HS :=
    some σ
def f_X12_crosses_3 (t : Nat) (x1 : Int32) (x2 : Int32) (x3 : Int32) : Nat → Int32 → HS → Option HS
  | 0, _, _ => none
  | n + 1, x4, σ =>
    if 4 ≤ x4 then
      if (σ.1 t 20) = 1 then
        rk (σ.2.2 t 31) 15 fun a31 =>
        ck 0 (ln a31) (
        f_X12_crosses_300 (sJ σ a31 (0 : Int32).toNatClampNeg 1))
      else
        if (σ.1 t 20) = 2 then
          rk (σ.2.2 t 31) 15 fun a27 =>
          rk (σ.2.2 t 27) 15 fun a28 =>
          ck (((4 : Int32) * x1) + 1) (ln a28) (
          ck 0 (ln a27) (
          rk ((sJ σ a27 (0 : Int32).toNatClampNeg (σ.2.1 a28 (((4 : Int32) * x1) + 1).toNatClampNeg)).2.2 t 31) 15 fun a29 =>
          rk ((sJ σ a27 (0 : Int32).toNatClampNeg (σ.2.1 a28 (((4 : Int32) * x1) + 1).toNatClampNeg)).2.2 t 27) 15 fun a30 =>
          ck ((4 : Int32) * x1) (ln a30) (
          ck 1 (ln a29) (
          f_X12_crosses_300 (sJ (sJ σ a27 (0 : Int32).toNatClampNeg (σ.2.1 a28 (((4 : Int32) * x1) + 1).toNatClampNeg)) a29 (1 : Int32).toNatClampNeg (-((sJ σ a27 (0 : Int32).toNatClampNeg (σ.2.1 a28 (((4 : Int32) * x1) + 1).toNatClampNeg)).2.1 a30 ((4 : Int32) * x1).toNatClampNeg)))))))
        else
          if (σ.1 t 20) = 3 then
            rk (σ.2.2 t 31) 15 fun a9 =>
            rk (σ.2.2 t 27) 15 fun a10 =>
            ck (((4 : Int32) * x1) + 1) (ln a10) (
            rk (σ.2.2 t 27) 15 fun a11 =>
            ck (((4 : Int32) * x1) + 2) (ln a11) (
            rk (σ.2.2 t 27) 15 fun a12 =>
            ck (((4 : Int32) * x2) + 1) (ln a12) (
            rk (σ.2.2 t 27) 15 fun a13 =>
            ck (((4 : Int32) * x2) + 2) (ln a13) (
            (f_X12_two (σ.2.1 a10 (((4 : Int32) * x1) + 1).toNatClampNeg) (σ.2.1 a11 (((4 : Int32) * x1) + 2).toNatClampNeg) (σ.2.1 a12 (((4 : Int32) * x2) + 1).toNatClampNeg) (σ.2.1 a13 (((4 : Int32) * x2) + 2).toNatClampNeg) σ).bind fun q14 =>
            ck 0 (ln a9) (
            rk ((sJ q14.2 a9 (0 : Int32).toNatClampNeg q14.1).2.2 t 31) 15 fun a15 =>
            rk ((sJ q14.2 a9 (0 : Int32).toNatClampNeg q14.1).2.2 t 27) 15 fun a16 =>
            ck ((4 : Int32) * x1) (ln a16) (
            rk ((sJ q14.2 a9 (0 : Int32).toNatClampNeg q14.1).2.2 t 27) 15 fun a17 =>
            ck (((4 : Int32) * x1) + 2) (ln a17) (
            rk ((sJ q14.2 a9 (0 : Int32).toNatClampNeg q14.1).2.2 t 27) 15 fun a18 =>
            ck ((4 : Int32) * x2) (ln a18) (
            rk ((sJ q14.2 a9 (0 : Int32).toNatClampNeg q14.1).2.2 t 27) 15 fun a19 =>
            ck (((4 : Int32) * x2) + 2) (ln a19) (
            (f_X12_two ((sJ q14.2 a9 (0 : Int32).toNatClampNeg q14.1).2.1 a16 ((4 : Int32) * x1).toNatClampNeg) ((sJ q14.2 a9 (0 : Int32).toNatClampNeg q14.1).2.1 a17 (((4 : Int32) * x1) + 2).toNatClampNeg) ((sJ q14.2 a9 (0 : Int32).toNatClampNeg q14.1).2.1 a18 ((4 : Int32) * x2).toNatClampNeg) ((sJ q14.2 a9 (0 : Int32).toNatClampNeg q14.1).2.1 a19 (((4 : Int32) * x2) + 2).toNatClampNeg) (sJ q14.2 a9 (0 : Int32).toNatClampNeg q14.1)).bind fun q20 =>
            ck 1 (ln a15) (
            rk ((sJ q20.2 a15 (1 : Int32).toNatClampNeg (-q20.1)).2.2 t 31) 15 fun a21 =>
            rk ((sJ q20.2 a15 (1 : Int32).toNatClampNeg (-q20.1)).2.2 t 27) 15 fun a22 =>
            ck ((4 : Int32) * x1) (ln a22) (
            rk ((sJ q20.2 a15 (1 : Int32).toNatClampNeg (-q20.1)).2.2 t 27) 15 fun a23 =>
            ck (((4 : Int32) * x1) + 1) (ln a23) (
            rk ((sJ q20.2 a15 (1 : Int32).toNatClampNeg (-q20.1)).2.2 t 27) 15 fun a24 =>
            ck ((4 : Int32) * x2) (ln a24) (
            rk ((sJ q20.2 a15 (1 : Int32).toNatClampNeg (-q20.1)).2.2 t 27) 15 fun a25 =>
            ck (((4 : Int32) * x2) + 1) (ln a25) (
            (f_X12_two ((sJ q20.2 a15 (1 : Int32).toNatClampNeg (-q20.1)).2.1 a22 ((4 : Int32) * x1).toNatClampNeg) ((sJ q20.2 a15 (1 : Int32).toNatClampNeg (-q20.1)).2.1 a23 (((4 : Int32) * x1) + 1).toNatClampNeg) ((sJ q20.2 a15 (1 : Int32).toNatClampNeg (-q20.1)).2.1 a24 ((4 : Int32) * x2).toNatClampNeg) ((sJ q20.2 a15 (1 : Int32).toNatClampNeg (-q20.1)).2.1 a25 (((4 : Int32) * x2) + 1).toNatClampNeg) (sJ q20.2 a15 (1 : Int32).toNatClampNeg (-q20.1))).bind fun q26 =>
            ck 2 (ln a21) (
            f_X12_crosses_300 (sJ q26.2 a21 (2 : Int32).toNatClampNeg q26.1))))))))))))))))
          else
            rk (σ.2.2 t 31) 15 fun a1 =>
            (f_X12_three t x1 x2 x3 1 2 3 σ).bind fun q2 =>
            ck 0 (ln a1) (
            rk ((sJ q2.2 a1 (0 : Int32).toNatClampNeg q2.1).2.2 t 31) 15 fun a3 =>
            (f_X12_three t x1 x2 x3 0 2 3 (sJ q2.2 a1 (0 : Int32).toNatClampNeg q2.1)).bind fun q4 =>
            ck 1 (ln a3) (
            rk ((sJ q4.2 a3 (1 : Int32).toNatClampNeg (-q4.1)).2.2 t 31) 15 fun a5 =>
            (f_X12_three t x1 x2 x3 0 1 3 (sJ q4.2 a3 (1 : Int32).toNatClampNeg (-q4.1))).bind fun q6 =>
            ck 2 (ln a5) (
            rk ((sJ q6.2 a5 (2 : Int32).toNatClampNeg q6.1).2.2 t 31) 15 fun a7 =>
            (f_X12_three t x1 x2 x3 0 1 2 (sJ q6.2 a5 (2 : Int32).toNatClampNeg q6.1)).bind fun q8 =>
            ck 3 (ln a7) (
            f_X12_crosses_300 (sJ q8.2 a7 (3 : Int32).toNatClampNeg (-q8.1))))))
    else
      rk (σ.2.2 t 31) 15 fun a32 =>
      ck x4 (ln a32) (
      (f_X12_crosses_3 t x1 x2 x3 n) (x4 + 1) (sJ σ a32 x4.toNatClampNeg 0))
def f_X12_crosses (t : Nat) (x1 : Int32) (x2 : Int32) (x3 : Int32) (σ : HS) : Option HS :=
    f_X12_crosses_3 t x1 x2 x3 FU 0 σ
def w_X12_keepsFound : List Cond := Cond.code yX12_keepsFound cX12_keepsFound 11 none :: GT
def f_X12_keepsFound_223 (r160 : Int32 → HS → Option HS) (r173 : Int32 → Int32 → HS → Option HS) (t : Nat) (x1 : Int32) (x6 : Int32) (x7 : Int32) (x8 : Int32) (x10 : Int32) (s0 : Int32) (σ : HS) : Option HS :=
    r173 s0 (x10 + 1) σ
def f_X12_keepsFound_222 (r160 : Int32 → HS → Option HS) (r173 : Int32 → Int32 → HS → Option HS) (t : Nat) (x1 : Int32) (x6 : Int32) (x7 : Int32) (x8 : Int32) (x10 : Int32) (σ : HS) : Option HS :=
    f_X12_keepsFound_223 r160 r173 t x1 x6 x7 x8 x10 0 σ
def f_X12_keepsFound_173 (t : Nat) (x1 : Int32) (x6 : Int32) (x7 : Int32) (x8 : Int32) (r160 : Int32 → HS → Option HS) : Nat → Int32 → Int32 → HS → Option HS
  | 0, _, _, _ => none
  | n + 1, x9, x10, σ =>
    if (σ.1 t 20) ≤ x10 then
      if x9 = 0 then
        r160 (x8 + 1) σ
      else
        some σ
    else
      if x9 = 0 then
        f_X12_keepsFound_222 r160 (f_X12_keepsFound_173 t x1 x6 x7 x8 r160 n) t x1 x6 x7 x8 x10 σ
      else
        rk (σ.2.2 t 30) 15 fun a1 =>
        ck (((4 : Int32) * (((72 : Int32) * x1) + x8)) + x10) (ln a1) (
        rk (σ.2.2 t 30) 15 fun a2 =>
        ck (x7 + x10) (ln a2) (
        if (σ.2.1 a1 (((4 : Int32) * (((72 : Int32) * x1) + x8)) + x10).toNatClampNeg) = (σ.2.1 a2 (x7 + x10).toNatClampNeg) then
          f_X12_keepsFound_223 r160 (f_X12_keepsFound_173 t x1 x6 x7 x8 r160 n) t x1 x6 x7 x8 x10 1 σ
        else
          f_X12_keepsFound_222 r160 (f_X12_keepsFound_173 t x1 x6 x7 x8 r160 n) t x1 x6 x7 x8 x10 σ))
def f_X12_keepsFound_160 (t : Nat) (x1 : Int32) (x6 : Int32) (x7 : Int32) : Nat → Int32 → HS → Option HS
  | 0, _, _ => none
  | n + 1, x8, σ =>
    if x6 ≤ x8 then
      rk (σ.2.2 t 28) 14 fun a1 =>
      ck x1 (ln a1) (
      ck x1 (ln a1) (
      some (sI σ a1 x1.toNatClampNeg ((σ.1 a1 x1.toNatClampNeg) + 1))))
    else
      f_X12_keepsFound_173 t x1 x6 x7 x8 (f_X12_keepsFound_160 t x1 x6 x7 n) FU 1 0 σ
def f_X12_keepsFound_127 (t : Nat) (x1 : Int32) (x6 : Int32) (x7 : Int32) : Nat → Int32 → HS → Option HS
  | 0, _, _ => none
  | n + 1, x8, σ =>
    if (σ.1 t 26) ≤ x8 then
      f_X12_keepsFound_160 t x1 x6 x7 FU 0 σ
    else
      (f_X12_times t x8 x1 x6 σ).bind fun q1 =>
      if 0 ≤ q1.1 then
        (f_X12_keepsFound_127 t x1 x6 x7 n) (x8 + 1) q1.2
      else
        some q1.2
def f_X12_keepsFound_117 (r73 : Int32 → HS → Option HS) (t : Nat) (x1 : Int32) (x2 : Int64) (x4 : Int64) (x6 : Int32) (x7 : Int32) (x8 : Int32) (s0 : Int64) (s1 : Int32) (s2 : Nat) (σ : HS) : Option HS :=
    ck s1 (ln s2) (
    r73 (x8 + 1) (sJ σ s2 s1.toNatClampNeg s0))
def f_X12_keepsFound_73 (t : Nat) (x1 : Int32) (x2 : Int64) (x4 : Int64) (x6 : Int32) (x7 : Int32) : Nat → Int32 → HS → Option HS
  | 0, _, _ => none
  | n + 1, x8, σ =>
    if 4 ≤ x8 then
      f_X12_keepsFound_127 t x1 x6 x7 FU 0 σ
    else
      rk (σ.2.2 t 30) 15 fun a1 =>
      if 0 ≤ x4 then
        rk (σ.2.2 t 31) 15 fun a2 =>
        ck x8 (ln a2) (
        nz (x2 = 0) (
        f_X12_keepsFound_117 (f_X12_keepsFound_73 t x1 x2 x4 x6 x7 n) t x1 x2 x4 x6 x7 x8 ((σ.2.1 a2 x8.toNatClampNeg) / x2) (x7 + x8) a1 σ))
      else
        rk (σ.2.2 t 31) 15 fun a3 =>
        ck x8 (ln a3) (
        nz (x2 = 0) (
        f_X12_keepsFound_117 (f_X12_keepsFound_73 t x1 x2 x4 x6 x7 n) t x1 x2 x4 x6 x7 x8 ((-(σ.2.1 a3 x8.toNatClampNeg)) / x2) (x7 + x8) a1 σ))
def f_X12_keepsFound_8 (t : Nat) (x1 : Int32) : Nat → Int64 → Int64 → Int32 → HS → Option HS
  | 0, _, _, _, _ => none
  | n + 1, x2, x4, x6, σ =>
    if 4 ≤ x6 then
      if x2 = 0 then
        some σ
      else
        rk (σ.2.2 t 28) 14 fun a1 =>
        ck x1 (ln a1) (
        f_X12_keepsFound_73 t x1 x2 x4 (σ.1 a1 x1.toNatClampNeg) ((4 : Int32) * (((72 : Int32) * x1) + (σ.1 a1 x1.toNatClampNeg))) FU 0 σ)
    else
      rk (σ.2.2 t 31) 15 fun a2 =>
      ck x6 (ln a2) (
      (f_X12_common x2 (σ.2.1 a2 x6.toNatClampNeg) σ).bind fun q3 =>
      rk (q3.2.2.2 t 31) 15 fun a4 =>
      ck x6 (ln a4) (
      (f_X12_keepsFound_8 t x1 n) q3.1 (x4 + (q3.2.2.1 a4 x6.toNatClampNeg)) (x6 + 1) q3.2))
def f_X12_keepsFound (t : Nat) (x1 : Int32) (σ : HS) : Option HS :=
    f_X12_keepsFound_8 t x1 FU 0 0 0 σ
def w_X12_findCorners : List Cond := Cond.code yX12_findCorners cX12_findCorners 4 none :: GT
def f_X12_findCorners_90 (r9 : Int32 → HS → Option HS) (r33 : Int32 → HS → Option HS) (r71 : Int32 → HS → Option HS) (t : Nat) (x1 : Int32) (x2 : Int32) (x3 : Int32) (s0 : Int32) (s1 : Int32) (σ : HS) : Option HS :=
    if s0 ≤ s1 then
      r33 (x2 + 1) σ
    else
      (f_X12_crosses t x1 x2 x3 σ).bind fun q1 =>
      (f_X12_keepsFound t 0 q1).bind fun q2 =>
      r71 (x3 + 1) q2
def f_X12_findCorners_71 (t : Nat) (x1 : Int32) (x2 : Int32) (r9 : Int32 → HS → Option HS) (r33 : Int32 → HS → Option HS) : Nat → Int32 → HS → Option HS
  | 0, _, _ => none
  | n + 1, x3, σ =>
    if 4 ≤ (σ.1 t 20) then
      f_X12_findCorners_90 r9 r33 (f_X12_findCorners_71 t x1 x2 r9 r33 n) t x1 x2 x3 (σ.1 t 26) x3 σ
    else
      f_X12_findCorners_90 r9 r33 (f_X12_findCorners_71 t x1 x2 r9 r33 n) t x1 x2 x3 (x2 + 1) x3 σ
def f_X12_findCorners_70 (r9 : Int32 → HS → Option HS) (r33 : Int32 → HS → Option HS) (t : Nat) (x1 : Int32) (x2 : Int32) (s0 : Int32) (σ : HS) : Option HS :=
    f_X12_findCorners_71 t x1 x2 r9 r33 FU s0 σ
def f_X12_findCorners_52 (r9 : Int32 → HS → Option HS) (r33 : Int32 → HS → Option HS) (t : Nat) (x1 : Int32) (x2 : Int32) (s0 : Int32) (s1 : Int32) (σ : HS) : Option HS :=
    if s0 ≤ s1 then
      r9 (x1 + 1) σ
    else
      if 4 ≤ (σ.1 t 20) then
        f_X12_findCorners_70 r9 r33 t x1 x2 (x2 + 1) σ
      else
        f_X12_findCorners_70 r9 r33 t x1 x2 x2 σ
def f_X12_findCorners_33 (t : Nat) (x1 : Int32) (r9 : Int32 → HS → Option HS) : Nat → Int32 → HS → Option HS
  | 0, _, _ => none
  | n + 1, x2, σ =>
    if 3 ≤ (σ.1 t 20) then
      f_X12_findCorners_52 r9 (f_X12_findCorners_33 t x1 r9 n) t x1 x2 (σ.1 t 26) x2 σ
    else
      f_X12_findCorners_52 r9 (f_X12_findCorners_33 t x1 r9 n) t x1 x2 (x1 + 1) x2 σ
def f_X12_findCorners_32 (r9 : Int32 → HS → Option HS) (t : Nat) (x1 : Int32) (s0 : Int32) (σ : HS) : Option HS :=
    f_X12_findCorners_33 t x1 r9 FU s0 σ
def f_X12_findCorners_9 (t : Nat) : Nat → Int32 → HS → Option HS
  | 0, _, _ => none
  | n + 1, x1, σ =>
    if (σ.1 t 26) ≤ x1 then
      rk (σ.2.2 t 29) 14 fun a1 =>
      ck 0 (ln a1) (
      some (sI σ a1 (0 : Int32).toNatClampNeg (σ.1 t 26)))
    else
      if 3 ≤ (σ.1 t 20) then
        f_X12_findCorners_32 (f_X12_findCorners_9 t n) t x1 (x1 + 1) σ
      else
        f_X12_findCorners_32 (f_X12_findCorners_9 t n) t x1 x1 σ
def f_X12_findCorners (t : Nat) (σ : HS) : Option HS :=
    rk (σ.2.2 t 28) 14 fun a1 =>
    ck 0 (ln a1) (
    f_X12_findCorners_9 t FU 0 (sI σ a1 (0 : Int32).toNatClampNeg 0))
def w_X12_findMore : List Cond := Cond.code yX12_findMore cX12_findMore 6 none :: GT
def f_X12_findMore_250 (t : Nat) (x1 : Int32) (σ : HS) : Option HS :=
    rk (σ.2.2 t 29) 14 fun a1 =>
    ck x1 (ln a1) (
    some (sI σ a1 x1.toNatClampNeg (σ.1 t 26)))
def f_X12_findMore_233 (r128 : Int32 → HS → Option HS) (r165 : Int32 → HS → Option HS) (t : Nat) (x1 : Int32) (x2 : Int32) (x3 : Int32) (x4 : Int32) (x5 : Int32) (σ : HS) : Option HS :=
    (f_X12_keepsFound t x1 σ).bind fun q1 =>
    r165 (x5 + 1) q1
def f_X12_findMore_183 (r128 : Int32 → HS → Option HS) (r165 : Int32 → HS → Option HS) (t : Nat) (x1 : Int32) (x2 : Int32) (x3 : Int32) (x4 : Int32) (x5 : Int32) (s0 : Int32) (s1 : Int32) (σ : HS) : Option HS :=
    if s0 ≤ s1 then
      r128 (x4 + 1) σ
    else
      if (σ.1 t 20) = 2 then
        (f_X12_crosses t x2 x2 x2 σ).bind fun q3 =>
        f_X12_findMore_233 r128 r165 t x1 x2 x3 x4 x5 q3
      else
        if (σ.1 t 20) = 3 then
          (f_X12_crosses t x2 x4 x4 σ).bind fun q2 =>
          f_X12_findMore_233 r128 r165 t x1 x2 x3 x4 x5 q2
        else
          (f_X12_crosses t x2 x4 x5 σ).bind fun q1 =>
          f_X12_findMore_233 r128 r165 t x1 x2 x3 x4 x5 q1
def f_X12_findMore_165 (t : Nat) (x1 : Int32) (x2 : Int32) (x3 : Int32) (x4 : Int32) (r128 : Int32 → HS → Option HS) : Nat → Int32 → HS → Option HS
  | 0, _, _ => none
  | n + 1, x5, σ =>
    if 4 ≤ (σ.1 t 20) then
      f_X12_findMore_183 r128 (f_X12_findMore_165 t x1 x2 x3 x4 r128 n) t x1 x2 x3 x4 x5 x2 x5 σ
    else
      f_X12_findMore_183 r128 (f_X12_findMore_165 t x1 x2 x3 x4 r128 n) t x1 x2 x3 x4 x5 (x4 + 1) x5 σ
def f_X12_findMore_163 (r128 : Int32 → HS → Option HS) (t : Nat) (x1 : Int32) (x2 : Int32) (x3 : Int32) (x4 : Int32) (s0 : Int32) (σ : HS) : Option HS :=
    f_X12_findMore_165 t x1 x2 x3 x4 r128 FU s0 σ
def f_X12_findMore_128 (t : Nat) (x1 : Int32) (x2 : Int32) (x3 : Int32) : Nat → Int32 → HS → Option HS
  | 0, _, _ => none
  | n + 1, x4, σ =>
    if x2 ≤ x4 then
      f_X12_findMore_250 t x1 σ
    else
      if x3 = 0 then
        if (σ.1 t 20) ≤ 1 then
          f_X12_findMore_250 t x1 σ
        else
          if 4 ≤ (σ.1 t 20) then
            f_X12_findMore_163 (f_X12_findMore_128 t x1 x2 x3 n) t x1 x2 x3 x4 (x4 + 1) σ
          else
            f_X12_findMore_163 (f_X12_findMore_128 t x1 x2 x3 n) t x1 x2 x3 x4 x4 σ
      else
        f_X12_findMore_250 t x1 σ
def f_X12_findMore_124 (t : Nat) (x1 : Int32) (x2 : Int32) (s0 : Int32) (σ : HS) : Option HS :=
    f_X12_findMore_128 t x1 x2 s0 FU 0 σ
def f_X12_findMore_119 (t : Nat) (x1 : Int32) (x2 : Int32) (σ : HS) : Option HS :=
    f_X12_findMore_124 t x1 x2 1 σ
def f_X12_findMore_87 (r16 : Int32 → HS → Option HS) (t : Nat) (x1 : Int32) (x2 : Int32) (x3 : Int32) (σ : HS) : Option HS :=
    r16 (x3 + 1) σ
def f_X12_findMore_45 (t : Nat) (x1 : Int32) (x2 : Int32) (x3 : Int32) (r16 : Int32 → HS → Option HS) : Nat → Int32 → HS → Option HS
  | 0, _, _ => none
  | n + 1, x4, σ =>
    if 4 ≤ x4 then
      (f_X12_keepsFound t x1 σ).bind fun q1 =>
      f_X12_findMore_87 r16 t x1 x2 x3 q1
    else
      rk (σ.2.2 t 31) 15 fun a2 =>
      rk (σ.2.2 t 30) 15 fun a3 =>
      ck (((4 : Int32) * (((72 : Int32) * (x1 - 1)) + x3)) + x4) (ln a3) (
      ck x4 (ln a2) (
      (f_X12_findMore_45 t x1 x2 x3 r16 n) (x4 + 1) (sJ σ a2 x4.toNatClampNeg (σ.2.1 a3 (((4 : Int32) * (((72 : Int32) * (x1 - 1)) + x3)) + x4).toNatClampNeg))))
def f_X12_findMore_16 (t : Nat) (x1 : Int32) (x2 : Int32) : Nat → Int32 → HS → Option HS
  | 0, _, _ => none
  | n + 1, x3, σ =>
    rk (σ.2.2 t 28) 14 fun a1 =>
    ck (x1 - 1) (ln a1) (
    if (σ.1 a1 (x1 - 1).toNatClampNeg) ≤ x3 then
      rk (σ.2.2 t 28) 14 fun a2 =>
      ck x1 (ln a2) (
      rk (σ.2.2 t 28) 14 fun a3 =>
      ck (x1 - 1) (ln a3) (
      if (σ.1 a2 x1.toNatClampNeg) = (σ.1 a3 (x1 - 1).toNatClampNeg) then
        f_X12_findMore_119 t x1 x2 σ
      else
        rk (σ.2.2 t 28) 14 fun a4 =>
        ck x1 (ln a4) (
        if (σ.1 a4 x1.toNatClampNeg) = 0 then
          f_X12_findMore_119 t x1 x2 σ
        else
          f_X12_findMore_124 t x1 x2 0 σ)))
    else
      (f_X12_times t x2 (x1 - 1) x3 σ).bind fun q5 =>
      if q5.1 < 0 then
        f_X12_findMore_87 (f_X12_findMore_16 t x1 x2 n) t x1 x2 x3 q5.2
      else
        f_X12_findMore_45 t x1 x2 x3 (f_X12_findMore_16 t x1 x2 n) FU 0 q5.2)
def f_X12_findMore (t : Nat) (x1 : Int32) (σ : HS) : Option HS :=
    rk (σ.2.2 t 28) 14 fun a1 =>
    ck x1 (ln a1) (
    f_X12_findMore_16 t x1 ((σ.1 t 26) - 1) FU 0 (sI σ a1 x1.toNatClampNeg 0))
def w_X12_backTo : List Cond := Cond.code yX12_backTo cX12_backTo 2 none :: GT
def f_X12_backTo (t : Nat) (x1 : Int32) (σ : HS) : Option HS :=
    rk (σ.2.2 t 29) 14 fun a1 =>
    ck x1 (ln a1) (
    some (sI σ t 26 (σ.1 a1 x1.toNatClampNeg)))
def w_X12_findNow : List Cond := Cond.code yX12_findNow cX12_findNow 1 (some .boolean) :: GT
def f_X12_findNow_26 (s0 : Int32) (σ : HS) : Option (Int32 × HS) :=
    zr s0 σ
def f_X12_findNow (t : Nat) (σ : HS) : Option (Int32 × HS) :=
    (f_X12_heard t σ).bind fun q1 =>
    (f_X12_laysRows t q1.1 q1.2).bind fun q2 =>
    (f_X12_findCorners t q2).bind fun q3 =>
    rk (q3.2.2 t 28) 14 fun a4 =>
    ck 0 (ln a4) (
    if (q3.1 a4 (0 : Int32).toNatClampNeg) ≤ 0 then
      f_X12_findNow_26 0 q3
    else
      f_X12_findNow_26 1 q3)
def w_X12_seenAs : List Cond := Cond.code yX12_seenAs cX12_seenAs 3 (some .int) :: GT
def f_X12_seenAs_29 (s0 : Int32) (σ : HS) : Option (Int32 × HS) :=
    some (s0, σ)
def f_X12_seenAs_23 (t : Nat) (x1 : Int32) (x2 : Int32) (σ : HS) : Option (Int32 × HS) :=
    (f_X12_valueOf t x1 x2 σ).bind fun q1 =>
    f_X12_seenAs_29 q1.1 q1.2
def f_X12_seenAs (t : Nat) (x1 : Int32) (x2 : Int32) (σ : HS) : Option (Int32 × HS) :=
    if x1 = (σ.1 t 32) then
      if x2 = (σ.1 t 33) then
        f_X12_seenAs_29 (σ.1 t 34) σ
      else
        f_X12_seenAs_23 t x1 x2 σ
    else
      f_X12_seenAs_23 t x1 x2 σ
def w_X12_above : List Cond := Cond.code yX12_above cX12_above 4 (some .long) :: GT
def f_X12_above_26 (s0 : Int64) (σ : HS) : Option (Int64 × HS) :=
    some (s0, σ)
def f_X12_above (t : Nat) (x1 : Int32) (x2 : Int32) (x3 : Int32) (σ : HS) : Option (Int64 × HS) :=
    if (σ.1 t 20) ≤ x3 then
      f_X12_above_26 0 σ
    else
      (f_X12_seenAs t x1 x3 σ).bind fun q1 =>
      (f_X12_seenAs t x2 x3 q1.2).bind fun q2 =>
      f_X12_above_26 ((q1.1 - q2.1).toInt64) q2.2
def w_X12_addsAbove : List Cond := Cond.code yX12_addsAbove cX12_addsAbove 3 none :: GT
def f_X12_addsAbove (t : Nat) (x1 : Int32) (x2 : Int32) (σ : HS) : Option HS :=
    (f_X12_above t x1 x2 0 σ).bind fun q1 =>
    (f_X12_above t x1 x2 1 q1.2).bind fun q2 =>
    (f_X12_above t x1 x2 2 q2.2).bind fun q3 =>
    (f_X12_above t x1 x2 3 q3.2).bind fun q4 =>
    (f_X12_addsRow t q1.1 q2.1 q3.1 q4.1 q4.2).bind fun q5 =>
    some q5
def w_X12_weightAt : List Cond := Cond.code yX12_weightAt cX12_weightAt 4 (some .long) :: GT
def f_X12_weightAt (t : Nat) (x1 : Int32) (x2 : Int32) (x3 : Int32) (σ : HS) : Option (Int64 × HS) :=
    rk (σ.2.2 t 30) 15 fun a1 =>
    ck (((4 : Int32) * (((72 : Int32) * x1) + x2)) + x3) (ln a1) (
    some (σ.2.1 a1 (((4 : Int32) * (((72 : Int32) * x1) + x2)) + x3).toNatClampNeg, σ))
def w_X12_aboveAt : List Cond := Cond.code yX12_aboveAt cX12_aboveAt 8 (some .long) :: GT
def f_X12_aboveAt_6 (t : Nat) (x1 : Int32) (x2 : Int32) (x3 : Int32) (x4 : Int32) : Nat → Int64 → Int32 → HS → Option (Int64 × HS)
  | 0, _, _, _ => none
  | n + 1, x5, x7, σ =>
    if (σ.1 t 20) ≤ x7 then
      some (x5, σ)
    else
      (f_X12_weightAt t x3 x4 x7 σ).bind fun q1 =>
      (f_X12_above t x1 x2 x7 q1.2).bind fun q2 =>
      (f_X12_aboveAt_6 t x1 x2 x3 x4 n) (x5 + (q1.1 * q2.1)) (x7 + 1) q2.2
def f_X12_aboveAt (t : Nat) (x1 : Int32) (x2 : Int32) (x3 : Int32) (x4 : Int32) (σ : HS) : Option (Int64 × HS) :=
    f_X12_aboveAt_6 t x1 x2 x3 x4 FU 0 0 σ
def w_X12_sumAt : List Cond := Cond.code yX12_sumAt cX12_sumAt 6 (some .long) :: GT
def f_X12_sumAt_5 (t : Nat) (x1 : Int32) (x2 : Int32) : Nat → Int64 → Int32 → HS → Option (Int64 × HS)
  | 0, _, _, _ => none
  | n + 1, x3, x5, σ =>
    if (σ.1 t 20) ≤ x5 then
      some (x3, σ)
    else
      (f_X12_weightAt t x1 x2 x5 σ).bind fun q1 =>
      (f_X12_sumAt_5 t x1 x2 n) (x3 + q1.1) (x5 + 1) q1.2
def f_X12_sumAt (t : Nat) (x1 : Int32) (x2 : Int32) (σ : HS) : Option (Int64 × HS) :=
    f_X12_sumAt_5 t x1 x2 FU 0 0 σ
def w_X12_isBetter : List Cond := Cond.code yX12_isBetter cX12_isBetter 6 (some .boolean) :: GT
def f_X12_isBetter_41 (r6 : Int32 → Int32 → HS → Option (Int32 × HS)) (t : Nat) (x1 : Int32) (x2 : Int32) (x3 : Int32) (x5 : Int32) (s0 : Int32) (σ : HS) : Option (Int32 × HS) :=
    r6 s0 (x5 + 1) σ
def f_X12_isBetter_40 (r6 : Int32 → Int32 → HS → Option (Int32 × HS)) (t : Nat) (x1 : Int32) (x2 : Int32) (x3 : Int32) (x5 : Int32) (σ : HS) : Option (Int32 × HS) :=
    f_X12_isBetter_41 r6 t x1 x2 x3 x5 0 σ
def f_X12_isBetter_6 (t : Nat) (x1 : Int32) (x2 : Int32) (x3 : Int32) : Nat → Int32 → Int32 → HS → Option (Int32 × HS)
  | 0, _, _, _ => none
  | n + 1, x4, x5, σ =>
    rk (σ.2.2 t 28) 14 fun a1 =>
    ck x3 (ln a1) (
    if (σ.1 a1 x3.toNatClampNeg) ≤ x5 then
      zr x4 σ
    else
      if x4 = 0 then
        f_X12_isBetter_40 (f_X12_isBetter_6 t x1 x2 x3 n) t x1 x2 x3 x5 σ
      else
        (f_X12_aboveAt t x1 x2 x3 x5 σ).bind fun q2 =>
        if q2.1 < 0 then
          f_X12_isBetter_40 (f_X12_isBetter_6 t x1 x2 x3 n) t x1 x2 x3 x5 q2.2
        else
          f_X12_isBetter_41 (f_X12_isBetter_6 t x1 x2 x3 n) t x1 x2 x3 x5 1 q2.2)
def f_X12_isBetter (t : Nat) (x1 : Int32) (x2 : Int32) (x3 : Int32) (σ : HS) : Option (Int32 × HS) :=
    f_X12_isBetter_6 t x1 x2 x3 FU 1 0 σ
def w_X12_isSure : List Cond := Cond.code yX12_isSure cX12_isSure 5 (some .boolean) :: GT
def f_X12_isSure_47 (r5 : Int32 → Int32 → HS → Option (Int32 × HS)) (t : Nat) (x1 : Int32) (x2 : Int32) (x4 : Int32) (s0 : Int32) (σ : HS) : Option (Int32 × HS) :=
    r5 s0 (x4 + 1) σ
def f_X12_isSure_46 (r5 : Int32 → Int32 → HS → Option (Int32 × HS)) (t : Nat) (x1 : Int32) (x2 : Int32) (x4 : Int32) (σ : HS) : Option (Int32 × HS) :=
    f_X12_isSure_47 r5 t x1 x2 x4 0 σ
def f_X12_isSure_42 (r5 : Int32 → Int32 → HS → Option (Int32 × HS)) (t : Nat) (x1 : Int32) (x2 : Int32) (x4 : Int32) (σ : HS) : Option (Int32 × HS) :=
    f_X12_isSure_47 r5 t x1 x2 x4 1 σ
def f_X12_isSure_5 (t : Nat) (x1 : Int32) (x2 : Int32) : Nat → Int32 → Int32 → HS → Option (Int32 × HS)
  | 0, _, _, _ => none
  | n + 1, x3, x4, σ =>
    if 8 ≤ x4 then
      zr x3 σ
    else
      if x3 = 0 then
        f_X12_isSure_46 (f_X12_isSure_5 t x1 x2 n) t x1 x2 x4 σ
      else
        if x4 = x1 then
          f_X12_isSure_42 (f_X12_isSure_5 t x1 x2 n) t x1 x2 x4 σ
        else
          (f_X12_isIn t x4 σ).bind fun q1 =>
          if q1.1 = 0 then
            f_X12_isSure_42 (f_X12_isSure_5 t x1 x2 n) t x1 x2 x4 q1.2
          else
            (f_X12_isBetter t x1 x4 x2 q1.2).bind fun q2 =>
            if q2.1 = 0 then
              f_X12_isSure_46 (f_X12_isSure_5 t x1 x2 n) t x1 x2 x4 q2.2
            else
              f_X12_isSure_42 (f_X12_isSure_5 t x1 x2 n) t x1 x2 x4 q2.2
def f_X12_isSure (t : Nat) (x1 : Int32) (x2 : Int32) (σ : HS) : Option (Int32 × HS) :=
    f_X12_isSure_5 t x1 x2 FU 1 0 σ
def w_X12_soonMay : List Cond := Cond.code yX12_soonMay cX12_soonMay 8 (some .int) :: GT
def f_X12_soonMay_221 (s0 : Int32) (σ : HS) : Option (Int32 × HS) :=
    some (s0, σ)
def f_X12_soonMay_195 (r104 : Int32 → Int32 → HS → Option (Int32 × HS)) (t : Nat) (x1 : Int32) (x2 : Int32) (x3 : Int32) (x5 : Int32) (s0 : Int32) (σ : HS) : Option (Int32 × HS) :=
    r104 s0 (x5 + 1) σ
def f_X12_soonMay_190 (r104 : Int32 → Int32 → HS → Option (Int32 × HS)) (t : Nat) (x1 : Int32) (x2 : Int32) (x3 : Int32) (x5 : Int32) (σ : HS) : Option (Int32 × HS) :=
    f_X12_soonMay_195 r104 t x1 x2 x3 x5 1 σ
def f_X12_soonMay_172 (r104 : Int32 → Int32 → HS → Option (Int32 × HS)) (r136 : Int32 → Int32 → HS → Option (Int32 × HS)) (t : Nat) (x1 : Int32) (x2 : Int32) (x3 : Int32) (x4 : Int32) (x5 : Int32) (x7 : Int32) (s0 : Int32) (σ : HS) : Option (Int32 × HS) :=
    r136 s0 (x7 + 1) σ
def f_X12_soonMay_171 (r104 : Int32 → Int32 → HS → Option (Int32 × HS)) (r136 : Int32 → Int32 → HS → Option (Int32 × HS)) (t : Nat) (x1 : Int32) (x2 : Int32) (x3 : Int32) (x4 : Int32) (x5 : Int32) (x7 : Int32) (σ : HS) : Option (Int32 × HS) :=
    f_X12_soonMay_172 r104 r136 t x1 x2 x3 x4 x5 x7 0 σ
def f_X12_soonMay_136 (t : Nat) (x1 : Int32) (x2 : Int32) (x3 : Int32) (x4 : Int32) (x5 : Int32) (r104 : Int32 → Int32 → HS → Option (Int32 × HS)) : Nat → Int32 → Int32 → HS → Option (Int32 × HS)
  | 0, _, _, _ => none
  | n + 1, x6, x7, σ =>
    rk (σ.2.2 t 28) 14 fun a1 =>
    ck x2 (ln a1) (
    if (σ.1 a1 x2.toNatClampNeg) ≤ x7 then
      if x4 = 0 then
        if x6 = 0 then
          f_X12_soonMay_195 r104 t x1 x2 x3 x5 0 σ
        else
          f_X12_soonMay_190 r104 t x1 x2 x3 x5 σ
      else
        f_X12_soonMay_190 r104 t x1 x2 x3 x5 σ
    else
      if x6 = 0 then
        f_X12_soonMay_171 r104 (f_X12_soonMay_136 t x1 x2 x3 x4 x5 r104 n) t x1 x2 x3 x4 x5 x7 σ
      else
        (f_X12_aboveAt t x1 x5 x2 x7 σ).bind fun q2 =>
        if 0 ≤ q2.1 then
          f_X12_soonMay_171 r104 (f_X12_soonMay_136 t x1 x2 x3 x4 x5 r104 n) t x1 x2 x3 x4 x5 x7 q2.2
        else
          f_X12_soonMay_172 r104 (f_X12_soonMay_136 t x1 x2 x3 x4 x5 r104 n) t x1 x2 x3 x4 x5 x7 1 q2.2)
def f_X12_soonMay_131 (r104 : Int32 → Int32 → HS → Option (Int32 × HS)) (t : Nat) (x1 : Int32) (x2 : Int32) (x3 : Int32) (x4 : Int32) (x5 : Int32) (s0 : Int32) (σ : HS) : Option (Int32 × HS) :=
    f_X12_soonMay_136 t x1 x2 x3 x4 x5 r104 FU s0 0 σ
def f_X12_soonMay_130 (r104 : Int32 → Int32 → HS → Option (Int32 × HS)) (t : Nat) (x1 : Int32) (x2 : Int32) (x3 : Int32) (x4 : Int32) (x5 : Int32) (σ : HS) : Option (Int32 × HS) :=
    f_X12_soonMay_131 r104 t x1 x2 x3 x4 x5 0 σ
def f_X12_soonMay_104 (t : Nat) (x1 : Int32) (x2 : Int32) (x3 : Int32) : Nat → Int32 → Int32 → HS → Option (Int32 × HS)
  | 0, _, _, _ => none
  | n + 1, x4, x5, σ =>
    if 8 ≤ x5 then
      if x3 = 0 then
        if x4 = 0 then
          f_X12_soonMay_221 0 σ
        else
          f_X12_soonMay_221 (-1) σ
      else
        f_X12_soonMay_221 1 σ
    else
      if x5 = x1 then
        f_X12_soonMay_130 (f_X12_soonMay_104 t x1 x2 x3 n) t x1 x2 x3 x4 x5 σ
      else
        (f_X12_isIn t x5 σ).bind fun q1 =>
        if q1.1 = 0 then
          f_X12_soonMay_130 (f_X12_soonMay_104 t x1 x2 x3 n) t x1 x2 x3 x4 x5 q1.2
        else
          f_X12_soonMay_131 (f_X12_soonMay_104 t x1 x2 x3 n) t x1 x2 x3 x4 x5 1 q1.2
def f_X12_soonMay_91 (r5 : Int32 → Int32 → HS → Option (Int32 × HS)) (t : Nat) (x1 : Int32) (x2 : Int32) (x4 : Int32) (s0 : Int32) (σ : HS) : Option (Int32 × HS) :=
    r5 s0 (x4 + 1) σ
def f_X12_soonMay_86 (r5 : Int32 → Int32 → HS → Option (Int32 × HS)) (t : Nat) (x1 : Int32) (x2 : Int32) (x4 : Int32) (σ : HS) : Option (Int32 × HS) :=
    f_X12_soonMay_91 r5 t x1 x2 x4 1 σ
def f_X12_soonMay_69 (r5 : Int32 → Int32 → HS → Option (Int32 × HS)) (r22 : Int32 → Int32 → HS → Option (Int32 × HS)) (t : Nat) (x1 : Int32) (x2 : Int32) (x3 : Int32) (x4 : Int32) (x6 : Int32) (s0 : Int32) (σ : HS) : Option (Int32 × HS) :=
    r22 s0 (x6 + 1) σ
def f_X12_soonMay_68 (r5 : Int32 → Int32 → HS → Option (Int32 × HS)) (r22 : Int32 → Int32 → HS → Option (Int32 × HS)) (t : Nat) (x1 : Int32) (x2 : Int32) (x3 : Int32) (x4 : Int32) (x6 : Int32) (σ : HS) : Option (Int32 × HS) :=
    f_X12_soonMay_69 r5 r22 t x1 x2 x3 x4 x6 0 σ
def f_X12_soonMay_64 (r5 : Int32 → Int32 → HS → Option (Int32 × HS)) (r22 : Int32 → Int32 → HS → Option (Int32 × HS)) (t : Nat) (x1 : Int32) (x2 : Int32) (x3 : Int32) (x4 : Int32) (x6 : Int32) (σ : HS) : Option (Int32 × HS) :=
    f_X12_soonMay_69 r5 r22 t x1 x2 x3 x4 x6 1 σ
def f_X12_soonMay_22 (t : Nat) (x1 : Int32) (x2 : Int32) (x3 : Int32) (x4 : Int32) (r5 : Int32 → Int32 → HS → Option (Int32 × HS)) : Nat → Int32 → Int32 → HS → Option (Int32 × HS)
  | 0, _, _, _ => none
  | n + 1, x5, x6, σ =>
    if 8 ≤ x6 then
      if x3 = 0 then
        if x5 = 0 then
          f_X12_soonMay_91 r5 t x1 x2 x4 0 σ
        else
          f_X12_soonMay_86 r5 t x1 x2 x4 σ
      else
        f_X12_soonMay_86 r5 t x1 x2 x4 σ
    else
      if x5 = 0 then
        f_X12_soonMay_68 r5 (f_X12_soonMay_22 t x1 x2 x3 x4 r5 n) t x1 x2 x3 x4 x6 σ
      else
        if x6 = x1 then
          f_X12_soonMay_64 r5 (f_X12_soonMay_22 t x1 x2 x3 x4 r5 n) t x1 x2 x3 x4 x6 σ
        else
          (f_X12_isIn t x6 σ).bind fun q1 =>
          if q1.1 = 0 then
            f_X12_soonMay_64 r5 (f_X12_soonMay_22 t x1 x2 x3 x4 r5 n) t x1 x2 x3 x4 x6 q1.2
          else
            (f_X12_aboveAt t x1 x6 x2 x4 q1.2).bind fun q2 =>
            if q2.1 < 0 then
              f_X12_soonMay_68 r5 (f_X12_soonMay_22 t x1 x2 x3 x4 r5 n) t x1 x2 x3 x4 x6 q2.2
            else
              f_X12_soonMay_64 r5 (f_X12_soonMay_22 t x1 x2 x3 x4 r5 n) t x1 x2 x3 x4 x6 q2.2
def f_X12_soonMay_5 (t : Nat) (x1 : Int32) (x2 : Int32) : Nat → Int32 → Int32 → HS → Option (Int32 × HS)
  | 0, _, _, _ => none
  | n + 1, x3, x4, σ =>
    rk (σ.2.2 t 28) 14 fun a1 =>
    ck x2 (ln a1) (
    if (σ.1 a1 x2.toNatClampNeg) ≤ x4 then
      f_X12_soonMay_104 t x1 x2 x3 FU 0 0 σ
    else
      f_X12_soonMay_22 t x1 x2 x3 x4 (f_X12_soonMay_5 t x1 x2 n) FU 1 0 σ)
def f_X12_soonMay (t : Nat) (x1 : Int32) (x2 : Int32) (σ : HS) : Option (Int32 × HS) :=
    f_X12_soonMay_5 t x1 x2 FU 0 0 σ
def w_X12_mayBe : List Cond := Cond.code yX12_mayBe cX12_mayBe 6 (some .boolean) :: GT
def f_X12_mayBe_96 (t : Nat) (x2 : Int32) (s0 : Int32) (σ : HS) : Option (Int32 × HS) :=
    (f_X12_backTo t x2 σ).bind fun q1 =>
    zr s0 q1
def f_X12_mayBe_81 (t : Nat) (x2 : Int32) (x4 : Int32) (σ : HS) : Option (Int32 × HS) :=
    rk (σ.2.2 t 28) 14 fun a1 =>
    ck x4 (ln a1) (
    if (σ.1 a1 x4.toNatClampNeg) ≤ 0 then
      f_X12_mayBe_96 t x2 0 σ
    else
      f_X12_mayBe_96 t x2 1 σ)
def f_X12_mayBe_75 (r27 : Int32 → Int32 → HS → Option (Int32 × HS)) (t : Nat) (x1 : Int32) (x2 : Int32) (x4 : Int32) (x5 : Int32) (σ : HS) : Option (Int32 × HS) :=
    r27 x4 (x5 + 1) σ
def f_X12_mayBe_27 (t : Nat) (x1 : Int32) (x2 : Int32) : Nat → Int32 → Int32 → HS → Option (Int32 × HS)
  | 0, _, _, _ => none
  | n + 1, x4, x5, σ =>
    if 8 ≤ x5 then
      f_X12_mayBe_81 t x2 x4 σ
    else
      rk (σ.2.2 t 28) 14 fun a1 =>
      ck x4 (ln a1) (
      if (σ.1 a1 x4.toNatClampNeg) ≤ 0 then
        f_X12_mayBe_81 t x2 x4 σ
      else
        if x5 = x1 then
          f_X12_mayBe_75 (f_X12_mayBe_27 t x1 x2 n) t x1 x2 x4 x5 σ
        else
          (f_X12_isIn t x5 σ).bind fun q2 =>
          if q2.1 = 0 then
            f_X12_mayBe_75 (f_X12_mayBe_27 t x1 x2 n) t x1 x2 x4 x5 q2.2
          else
            (f_X12_addsAbove t x1 x5 q2.2).bind fun q3 =>
            (f_X12_findMore t (x4 + 1) q3).bind fun q4 =>
            f_X12_mayBe_75 (f_X12_mayBe_27 t x1 x2 n) t x1 x2 (x4 + 1) x5 q4)
def f_X12_mayBe_20 (s0 : Int32) (σ : HS) : Option (Int32 × HS) :=
    zr s0 σ
def f_X12_mayBe (t : Nat) (x1 : Int32) (x2 : Int32) (σ : HS) : Option (Int32 × HS) :=
    (f_X12_soonMay t x1 x2 σ).bind fun q1 =>
    if q1.1 = 0 then
      f_X12_mayBe_27 t x1 x2 FU x2 0 q1.2
    else
      if q1.1 ≤ 0 then
        f_X12_mayBe_20 0 q1.2
      else
        f_X12_mayBe_20 1 q1.2
def w_X12_mayBest : List Cond := Cond.code yX12_mayBest cX12_mayBest 4 (some .int) :: GT
def f_X12_mayBest_35 (r4 : Int32 → Int32 → HS → Option (Int32 × HS)) (t : Nat) (x1 : Int32) (x3 : Int32) (s0 : Int32) (s1 : Int32) (σ : HS) : Option (Int32 × HS) :=
    r4 (s1 ||| s0) (x3 + 1) σ
def f_X12_mayBest_34 (r4 : Int32 → Int32 → HS → Option (Int32 × HS)) (t : Nat) (x1 : Int32) (x3 : Int32) (s0 : Int32) (σ : HS) : Option (Int32 × HS) :=
    f_X12_mayBest_35 r4 t x1 x3 0 s0 σ
def f_X12_mayBest_4 (t : Nat) (x1 : Int32) : Nat → Int32 → Int32 → HS → Option (Int32 × HS)
  | 0, _, _, _ => none
  | n + 1, x2, x3, σ =>
    if 8 ≤ x3 then
      some (x2, σ)
    else
      (f_X12_isIn t x3 σ).bind fun q1 =>
      if q1.1 = 0 then
        f_X12_mayBest_34 (f_X12_mayBest_4 t x1 n) t x1 x3 x2 q1.2
      else
        (f_X12_mayBe t x3 x1 q1.2).bind fun q2 =>
        if q2.1 = 0 then
          f_X12_mayBest_34 (f_X12_mayBest_4 t x1 n) t x1 x3 x2 q2.2
        else
          f_X12_mayBest_35 (f_X12_mayBest_4 t x1 n) t x1 x3 ((1 : Int32) <<< (x3 &&& 31)) x2 q2.2
def f_X12_mayBest (t : Nat) (x1 : Int32) (σ : HS) : Option (Int32 × HS) :=
    f_X12_mayBest_4 t x1 FU 0 0 σ
def w_X12_sureBest : List Cond := Cond.code yX12_sureBest cX12_sureBest 4 (some .int) :: GT
def f_X12_sureBest_35 (r4 : Int32 → Int32 → HS → Option (Int32 × HS)) (t : Nat) (x1 : Int32) (x3 : Int32) (s0 : Int32) (s1 : Int32) (σ : HS) : Option (Int32 × HS) :=
    r4 (s1 ||| s0) (x3 + 1) σ
def f_X12_sureBest_34 (r4 : Int32 → Int32 → HS → Option (Int32 × HS)) (t : Nat) (x1 : Int32) (x3 : Int32) (s0 : Int32) (σ : HS) : Option (Int32 × HS) :=
    f_X12_sureBest_35 r4 t x1 x3 0 s0 σ
def f_X12_sureBest_4 (t : Nat) (x1 : Int32) : Nat → Int32 → Int32 → HS → Option (Int32 × HS)
  | 0, _, _, _ => none
  | n + 1, x2, x3, σ =>
    if 8 ≤ x3 then
      some (x2, σ)
    else
      (f_X12_isIn t x3 σ).bind fun q1 =>
      if q1.1 = 0 then
        f_X12_sureBest_34 (f_X12_sureBest_4 t x1 n) t x1 x3 x2 q1.2
      else
        (f_X12_isSure t x3 x1 q1.2).bind fun q2 =>
        if q2.1 = 0 then
          f_X12_sureBest_34 (f_X12_sureBest_4 t x1 n) t x1 x3 x2 q2.2
        else
          f_X12_sureBest_35 (f_X12_sureBest_4 t x1 n) t x1 x3 ((1 : Int32) <<< (x3 &&& 31)) x2 q2.2
def f_X12_sureBest (t : Nat) (x1 : Int32) (σ : HS) : Option (Int32 × HS) :=
    f_X12_sureBest_4 t x1 FU 0 0 σ
def w_X12_bits : List Cond := Cond.code yX12_bits cX12_bits 3 (some .int) :: GT
def f_X12_bits_4 (x0 : Int32) : Nat → Int32 → Int32 → HS → Option (Int32 × HS)
  | 0, _, _, _ => none
  | n + 1, x1, x2, σ =>
    if 12 ≤ x2 then
      some (x1, σ)
    else
      (f_X12_bits_4 x0 n) (x1 + ((x0 >>> (x2 &&& 31)) &&& 1)) (x2 + 1) σ
def f_X12_bits (x0 : Int32) (σ : HS) : Option (Int32 × HS) :=
    f_X12_bits_4 x0 FU 0 0 σ
def w_X12_areWeights : List Cond := Cond.code yX12_areWeights cX12_areWeights 6 (some .boolean) :: GT
def f_X12_areWeights_145 (s0 : Int32) (σ : HS) : Option (Int32 × HS) :=
    zr s0 σ
def f_X12_areWeights_144 (σ : HS) : Option (Int32 × HS) :=
    f_X12_areWeights_145 0 σ
def f_X12_areWeights_136 (s0 : Int32) (s1 : Int32) (σ : HS) : Option (Int32 × HS) :=
    if (s1 + s0) ≤ 0 then
      f_X12_areWeights_144 σ
    else
      f_X12_areWeights_145 1 σ
def f_X12_areWeights_121 (t : Nat) (x4 : Int32) (s0 : Int32) (s1 : Int32) (σ : HS) : Option (Int32 × HS) :=
    if 4 ≤ (σ.1 t 20) then
      f_X12_areWeights_136 x4 (s1 + s0) σ
    else
      f_X12_areWeights_136 0 (s1 + s0) σ
def f_X12_areWeights_107 (t : Nat) (x3 : Int32) (x4 : Int32) (s0 : Int32) (s1 : Int32) (σ : HS) : Option (Int32 × HS) :=
    if 3 ≤ (σ.1 t 20) then
      f_X12_areWeights_121 t x4 x3 (s1 + s0) σ
    else
      f_X12_areWeights_121 t x4 0 (s1 + s0) σ
def f_X12_areWeights_86 (t : Nat) (x1 : Int32) (x2 : Int32) (x3 : Int32) (x4 : Int32) (s0 : Int32) (σ : HS) : Option (Int32 × HS) :=
    if s0 = 0 then
      f_X12_areWeights_144 σ
    else
      if 2 ≤ (σ.1 t 20) then
        f_X12_areWeights_107 t x3 x4 x2 x1 σ
      else
        f_X12_areWeights_107 t x3 x4 0 x1 σ
def f_X12_areWeights_85 (t : Nat) (x1 : Int32) (x2 : Int32) (x3 : Int32) (x4 : Int32) (σ : HS) : Option (Int32 × HS) :=
    f_X12_areWeights_86 t x1 x2 x3 x4 0 σ
def f_X12_areWeights_81 (t : Nat) (x1 : Int32) (x2 : Int32) (x3 : Int32) (x4 : Int32) (σ : HS) : Option (Int32 × HS) :=
    f_X12_areWeights_86 t x1 x2 x3 x4 1 σ
def f_X12_areWeights_61 (t : Nat) (x1 : Int32) (x2 : Int32) (x3 : Int32) (x4 : Int32) (σ : HS) : Option (Int32 × HS) :=
    if (σ.1 t 20) < 4 then
      f_X12_areWeights_81 t x1 x2 x3 x4 σ
    else
      (f_X12_within x4 0 999 σ).bind fun q1 =>
      if q1.1 = 0 then
        f_X12_areWeights_85 t x1 x2 x3 x4 q1.2
      else
        f_X12_areWeights_81 t x1 x2 x3 x4 q1.2
def f_X12_areWeights_35 (t : Nat) (x1 : Int32) (x2 : Int32) (x3 : Int32) (x4 : Int32) (s0 : Int32) (σ : HS) : Option (Int32 × HS) :=
    if s0 = 0 then
      f_X12_areWeights_85 t x1 x2 x3 x4 σ
    else
      if (σ.1 t 20) < 3 then
        f_X12_areWeights_61 t x1 x2 x3 x4 σ
      else
        (f_X12_within x3 0 999 σ).bind fun q1 =>
        if q1.1 = 0 then
          f_X12_areWeights_85 t x1 x2 x3 x4 q1.2
        else
          f_X12_areWeights_61 t x1 x2 x3 x4 q1.2
def f_X12_areWeights_34 (t : Nat) (x1 : Int32) (x2 : Int32) (x3 : Int32) (x4 : Int32) (σ : HS) : Option (Int32 × HS) :=
    f_X12_areWeights_35 t x1 x2 x3 x4 0 σ
def f_X12_areWeights_30 (t : Nat) (x1 : Int32) (x2 : Int32) (x3 : Int32) (x4 : Int32) (σ : HS) : Option (Int32 × HS) :=
    f_X12_areWeights_35 t x1 x2 x3 x4 1 σ
def f_X12_areWeights (t : Nat) (x1 : Int32) (x2 : Int32) (x3 : Int32) (x4 : Int32) (σ : HS) : Option (Int32 × HS) :=
    (f_X12_within x1 0 999 σ).bind fun q1 =>
    if q1.1 = 0 then
      f_X12_areWeights_34 t x1 x2 x3 x4 q1.2
    else
      if (q1.2.1 t 20) < 2 then
        f_X12_areWeights_30 t x1 x2 x3 x4 q1.2
      else
        (f_X12_within x2 0 999 q1.2).bind fun q2 =>
        if q2.1 = 0 then
          f_X12_areWeights_34 t x1 x2 x3 x4 q2.2
        else
          f_X12_areWeights_30 t x1 x2 x3 x4 q2.2
def w_X12_givesWeights : List Cond := Cond.code yX12_givesWeights cX12_givesWeights 5 none :: GT
def f_X12_givesWeights_68 (s0 : Int64) (s1 : Int32) (s2 : Nat) (σ : HS) : Option HS :=
    ck s1 (ln s2) (
    some (sJ σ s2 s1.toNatClampNeg s0))
def f_X12_givesWeights_47 (t : Nat) (x4 : Int32) (s0 : Int64) (s1 : Int32) (s2 : Nat) (σ : HS) : Option HS :=
    ck s1 (ln s2) (
    rk ((sJ σ s2 s1.toNatClampNeg s0).2.2 t 35) 15 fun a1 =>
    if 4 ≤ ((sJ σ s2 s1.toNatClampNeg s0).1 t 20) then
      f_X12_givesWeights_68 x4.toInt64 3 a1 (sJ σ s2 s1.toNatClampNeg s0)
    else
      f_X12_givesWeights_68 0 3 a1 (sJ σ s2 s1.toNatClampNeg s0))
def f_X12_givesWeights_27 (t : Nat) (x3 : Int32) (x4 : Int32) (s0 : Int64) (s1 : Int32) (s2 : Nat) (σ : HS) : Option HS :=
    ck s1 (ln s2) (
    rk ((sJ σ s2 s1.toNatClampNeg s0).2.2 t 35) 15 fun a1 =>
    if 3 ≤ ((sJ σ s2 s1.toNatClampNeg s0).1 t 20) then
      f_X12_givesWeights_47 t x4 x3.toInt64 2 a1 (sJ σ s2 s1.toNatClampNeg s0)
    else
      f_X12_givesWeights_47 t x4 0 2 a1 (sJ σ s2 s1.toNatClampNeg s0))
def f_X12_givesWeights (t : Nat) (x1 : Int32) (x2 : Int32) (x3 : Int32) (x4 : Int32) (σ : HS) : Option HS :=
    rk (σ.2.2 t 35) 15 fun a1 =>
    ck 0 (ln a1) (
    rk ((sJ σ a1 (0 : Int32).toNatClampNeg x1.toInt64).2.2 t 35) 15 fun a2 =>
    if 2 ≤ ((sJ σ a1 (0 : Int32).toNatClampNeg x1.toInt64).1 t 20) then
      f_X12_givesWeights_27 t x3 x4 x2.toInt64 1 a2 (sJ σ a1 (0 : Int32).toNatClampNeg x1.toInt64)
    else
      f_X12_givesWeights_27 t x3 x4 0 1 a2 (sJ σ a1 (0 : Int32).toNatClampNeg x1.toInt64))
def w_X12_goodBy : List Cond := Cond.code yX12_goodBy cX12_goodBy 5 (some .long) :: GT
def f_X12_goodBy_5 (t : Nat) (x1 : Int32) : Nat → Int64 → Int32 → HS → Option (Int64 × HS)
  | 0, _, _, _ => none
  | n + 1, x2, x4, σ =>
    if (σ.1 t 20) ≤ x4 then
      some (x2, σ)
    else
      rk (σ.2.2 t 35) 15 fun a1 =>
      ck x4 (ln a1) (
      (f_X12_valueOf t x1 x4 σ).bind fun q2 =>
      (f_X12_goodBy_5 t x1 n) (x2 + ((σ.2.1 a1 x4.toNatClampNeg) * q2.1.toInt64)) (x4 + 1) q2.2)
def f_X12_goodBy (t : Nat) (x1 : Int32) (σ : HS) : Option (Int64 × HS) :=
    f_X12_goodBy_5 t x1 FU 0 0 σ
def w_X12_doesFit : List Cond := Cond.code yX12_doesFit cX12_doesFit 6 (some .boolean) :: GT
def f_X12_doesFit_69 (r4 : Int32 → Int32 → HS → Option (Int32 × HS)) (t : Nat) (x2 : Int32) (s0 : Int32) (σ : HS) : Option (Int32 × HS) :=
    r4 s0 (x2 + 1) σ
def f_X12_doesFit_68 (r4 : Int32 → Int32 → HS → Option (Int32 × HS)) (t : Nat) (x2 : Int32) (σ : HS) : Option (Int32 × HS) :=
    f_X12_doesFit_69 r4 t x2 0 σ
def f_X12_doesFit_17 (t : Nat) (x1 : Int32) (x2 : Int32) (r4 : Int32 → Int32 → HS → Option (Int32 × HS)) : Nat → Int64 → Int32 → HS → Option (Int32 × HS)
  | 0, _, _, _ => none
  | n + 1, x3, x5, σ =>
    if (σ.1 t 20) ≤ x5 then
      if x1 = 0 then
        f_X12_doesFit_68 r4 t x2 σ
      else
        if x3 < 0 then
          f_X12_doesFit_68 r4 t x2 σ
        else
          f_X12_doesFit_69 r4 t x2 1 σ
    else
      rk (σ.2.2 t 27) 15 fun a1 =>
      ck (((4 : Int32) * x2) + x5) (ln a1) (
      rk (σ.2.2 t 35) 15 fun a2 =>
      ck x5 (ln a2) (
      (f_X12_doesFit_17 t x1 x2 r4 n) (x3 + ((σ.2.1 a1 (((4 : Int32) * x2) + x5).toNatClampNeg) * (σ.2.1 a2 x5.toNatClampNeg))) (x5 + 1) σ))
def f_X12_doesFit_4 (t : Nat) : Nat → Int32 → Int32 → HS → Option (Int32 × HS)
  | 0, _, _, _ => none
  | n + 1, x1, x2, σ =>
    if (σ.1 t 26) ≤ x2 then
      zr x1 σ
    else
      f_X12_doesFit_17 t x1 x2 (f_X12_doesFit_4 t n) FU 0 0 σ
def f_X12_doesFit (t : Nat) (σ : HS) : Option (Int32 × HS) :=
    f_X12_doesFit_4 t FU 1 0 σ
def w_X12_good : List Cond := Cond.code yX12_good cX12_good 13 (some .int) :: GT
def f_X12_good_36 (σ : HS) : Option (Int32 × HS) :=
    some ((-1), σ)
def f_X12_good_111 (s0 : Int64) (σ : HS) : Option (Int32 × HS) :=
    some (s0.toInt32, σ)
def f_X12_good (t : Nat) (x1 : Int32) (x2 : Int32) (x3 : Int32) (x4 : Int32) (x5 : Int32) (x6 : Int32) (σ : HS) : Option (Int32 × HS) :=
    (f_X12_isThing t x1 (sI σ t 0 0)).bind fun q1 =>
    if q1.1 = 0 then
      f_X12_good_36 q1.2
    else
      (f_X12_areWeights t x2 x3 x4 x5 q1.2).bind fun q2 =>
      if q2.1 = 0 then
        f_X12_good_36 q2.2
      else
        (f_X12_within x6 0 1 q2.2).bind fun q3 =>
        if q3.1 = 0 then
          f_X12_good_36 q3.2
        else
          (f_X12_givesWeights t x2 x3 x4 x5 q3.2).bind fun q4 =>
          (f_X12_goodBy t x1 q4).bind fun q5 =>
          rk (q5.2.2.2 t 35) 15 fun a6 =>
          ck 0 (ln a6) (
          rk (q5.2.2.2 t 35) 15 fun a7 =>
          ck 1 (ln a7) (
          rk (q5.2.2.2 t 35) 15 fun a8 =>
          ck 2 (ln a8) (
          rk (q5.2.2.2 t 35) 15 fun a9 =>
          ck 3 (ln a9) (
          (f_X12_common q5.1 ((((q5.2.2.1 a6 (0 : Int32).toNatClampNeg) + (q5.2.2.1 a7 (1 : Int32).toNatClampNeg)) + (q5.2.2.1 a8 (2 : Int32).toNatClampNeg)) + (q5.2.2.1 a9 (3 : Int32).toNatClampNeg)) q5.2).bind fun q10 =>
          if x6 = 0 then
            nz (q10.1 = 0) (
            f_X12_good_111 (q5.1 / q10.1) q10.2)
          else
            nz (q10.1 = 0) (
            f_X12_good_111 (((((q5.2.2.1 a6 (0 : Int32).toNatClampNeg) + (q5.2.2.1 a7 (1 : Int32).toNatClampNeg)) + (q5.2.2.1 a8 (2 : Int32).toNatClampNeg)) + (q5.2.2.1 a9 (3 : Int32).toNatClampNeg)) / q10.1) q10.2)))))
def w_X12_fits : List Cond := Cond.code yX12_fits cX12_fits 5 (some .int) :: GT
def f_X12_fits_48 (s0 : Int32) (σ : HS) : Option (Int32 × HS) :=
    some (s0, σ)
def f_X12_fits (t : Nat) (x1 : Int32) (x2 : Int32) (x3 : Int32) (x4 : Int32) (σ : HS) : Option (Int32 × HS) :=
    (f_X12_areWeights t x1 x2 x3 x4 (sI σ t 0 0)).bind fun q1 =>
    if q1.1 = 0 then
      some ((-1), q1.2)
    else
      (f_X12_heard t q1.2).bind fun q2 =>
      (f_X12_laysRows t q2.1 q2.2).bind fun q3 =>
      (f_X12_givesWeights t x1 x2 x3 x4 q3).bind fun q4 =>
      (f_X12_doesFit t q4).bind fun q5 =>
      if q5.1 = 0 then
        f_X12_fits_48 0 q5.2
      else
        f_X12_fits_48 1 q5.2
def w_X12_isAhead : List Cond := Cond.code yX12_isAhead cX12_isAhead 4 (some .boolean) :: GT
def f_X12_isAhead_51 (s0 : Int32) (σ : HS) : Option (Int32 × HS) :=
    zr s0 σ
def f_X12_isAhead_2 (t : Nat) (x1 : Int32) (x2 : Int32) : Nat → Int32 → HS → Option (Int32 × HS)
  | 0, _, _ => none
  | n + 1, x3, σ =>
    if (σ.1 t 20) ≤ x3 then
      some (0, σ)
    else
      (f_X12_weightAt t 0 x1 x3 σ).bind fun q1 =>
      (f_X12_weightAt t 0 x2 x3 q1.2).bind fun q2 =>
      if q1.1 = q2.1 then
        (f_X12_isAhead_2 t x1 x2 n) (x3 + 1) q2.2
      else
        (f_X12_weightAt t 0 x1 x3 q2.2).bind fun q3 =>
        (f_X12_weightAt t 0 x2 x3 q3.2).bind fun q4 =>
        if q4.1 ≤ q3.1 then
          f_X12_isAhead_51 0 q4.2
        else
          f_X12_isAhead_51 1 q4.2
def f_X12_isAhead (t : Nat) (x1 : Int32) (x2 : Int32) (σ : HS) : Option (Int32 × HS) :=
    f_X12_isAhead_2 t x1 x2 FU 0 σ
def w_X12_corner : List Cond := Cond.code yX12_corner cX12_corner 6 (some .long) :: GT
def f_X12_corner_42 (σ : HS) : Option (Int64 × HS) :=
    some ((-1), σ)
def f_X12_corner_92 (r48 : Int32 → HS → Option (Int64 × HS)) (r64 : Int32 → Int32 → HS → Option (Int64 × HS)) (t : Nat) (x1 : Int32) (x2 : Int32) (x3 : Int32) (x5 : Int32) (s0 : Int32) (s1 : Int32) (σ : HS) : Option (Int64 × HS) :=
    r64 (s1 + s0) (x5 + 1) σ
def f_X12_corner_64 (t : Nat) (x1 : Int32) (x2 : Int32) (x3 : Int32) (r48 : Int32 → HS → Option (Int64 × HS)) : Nat → Int32 → Int32 → HS → Option (Int64 × HS)
  | 0, _, _, _ => none
  | n + 1, x4, x5, σ =>
    rk (σ.2.2 t 28) 14 fun a1 =>
    ck 0 (ln a1) (
    if (σ.1 a1 (0 : Int32).toNatClampNeg) ≤ x5 then
      if x4 = x1 then
        (f_X12_weightAt t 0 x3 x2 σ).bind fun q2 =>
        some (q2.1, q2.2)
      else
        r48 (x3 + 1) σ
    else
      (f_X12_isAhead t x5 x3 σ).bind fun q3 =>
      if q3.1 = 0 then
        f_X12_corner_92 r48 (f_X12_corner_64 t x1 x2 x3 r48 n) t x1 x2 x3 x5 0 x4 q3.2
      else
        f_X12_corner_92 r48 (f_X12_corner_64 t x1 x2 x3 r48 n) t x1 x2 x3 x5 1 x4 q3.2)
def f_X12_corner_48 (t : Nat) (x1 : Int32) (x2 : Int32) : Nat → Int32 → HS → Option (Int64 × HS)
  | 0, _, _ => none
  | n + 1, x3, σ =>
    rk (σ.2.2 t 28) 14 fun a1 =>
    ck 0 (ln a1) (
    if (σ.1 a1 (0 : Int32).toNatClampNeg) ≤ x3 then
      some ((-1), σ)
    else
      f_X12_corner_64 t x1 x2 x3 (f_X12_corner_48 t x1 x2 n) FU 0 0 σ)
def f_X12_corner (t : Nat) (x1 : Int32) (x2 : Int32) (σ : HS) : Option (Int64 × HS) :=
    (f_X12_within x2 0 (((sI σ t 0 0).1 t 20) - 1) (sI σ t 0 0)).bind fun q1 =>
    if q1.1 = 0 then
      f_X12_corner_42 q1.2
    else
      (f_X12_findNow t q1.2).bind fun q2 =>
      if q2.1 = 0 then
        f_X12_corner_42 q2.2
      else
        rk (q2.2.2.2 t 28) 14 fun a3 =>
        ck 0 (ln a3) (
        (f_X12_within x1 0 ((q2.2.1 a3 (0 : Int32).toNatClampNeg) - 1) q2.2).bind fun q4 =>
        if q4.1 = 0 then
          f_X12_corner_42 q4.2
        else
          f_X12_corner_48 t x1 x2 FU 0 q4.2)
def w_X12_smallFrom : List Cond := Cond.code yX12_smallFrom cX12_smallFrom 5 (some .boolean) :: GT
def f_X12_smallFrom_94 (rc : Nat → Int32 → Int32 → Int32 → HS → Option (Int32 × HS)) (r52 : Int32 → HS → Option (Int32 × HS)) (t : Nat) (x1 : Int32) (x3 : Int32) (x4 : Int32) (σ : HS) : Option (Int32 × HS) :=
    r52 (x4 + 1) σ
def f_X12_smallFrom_52 (rc : Nat → Int32 → Int32 → Int32 → HS → Option (Int32 × HS)) (t : Nat) (x1 : Int32) (x3 : Int32) : Nat → Int32 → HS → Option (Int32 × HS)
  | 0, _, _ => none
  | n + 1, x4, σ =>
    rk (σ.2.2 t 13) 14 fun a1 =>
    ck 0 (ln a1) (
    if (σ.1 a1 (0 : Int32).toNatClampNeg) ≤ x4 then
      some (0, σ)
    else
      (f_X12_isHeard t x4 σ).bind fun q2 =>
      if q2.1 = 0 then
        f_X12_smallFrom_94 rc (f_X12_smallFrom_52 rc t x1 x3 n) t x1 x3 x4 q2.2
      else
        (rc t (x1 - 1) (x4 + 1) (x3 ||| ((1 : Int32) <<< (x4 &&& 31))) q2.2).bind fun q3 =>
        if q3.1 = 0 then
          f_X12_smallFrom_94 rc (f_X12_smallFrom_52 rc t x1 x3 n) t x1 x3 x4 q3.2
        else
          some (1, q3.2))
def f_X12_smallFrom_48 (rc : Nat → Int32 → Int32 → Int32 → HS → Option (Int32 × HS)) (s0 : Int32) (σ : HS) : Option (Int32 × HS) :=
    zr s0 σ
def f_X12_smallFrom_31 (rc : Nat → Int32 → Int32 → Int32 → HS → Option (Int32 × HS)) (t : Nat) (s0 : Int32) (s1 : Nat) (σ : HS) : Option (Int32 × HS) :=
    rk ((sI σ s1 36 s0).2.2 t 28) 14 fun a1 =>
    ck 0 (ln a1) (
    if ((sI σ s1 36 s0).1 a1 (0 : Int32).toNatClampNeg) = 0 then
      f_X12_smallFrom_48 rc 1 (sI σ s1 36 s0)
    else
      f_X12_smallFrom_48 rc 0 (sI σ s1 36 s0))
def f_X12_smallFrom_0 (rc : Nat → Int32 → Int32 → Int32 → HS → Option (Int32 × HS)) (t : Nat) (x1 : Int32) (x2 : Int32) (x3 : Int32) (σ : HS) : Option (Int32 × HS) :=
    if x1 = 0 then
      (f_X12_laysRows t x3 σ).bind fun q1 =>
      (f_X12_findCorners t q1).bind fun q2 =>
      rk (q2.2.2 t 28) 14 fun a3 =>
      ck 0 (ln a3) (
      if (q2.1 a3 (0 : Int32).toNatClampNeg) = 0 then
        f_X12_smallFrom_31 rc t x3 t q2
      else
        f_X12_smallFrom_31 rc t (q2.1 t 36) t q2)
    else
      f_X12_smallFrom_52 rc t x1 x3 FU x2 σ
def f_X12_smallFrom : Nat → Nat → Int32 → Int32 → Int32 → HS → Option (Int32 × HS)
  | 0, _, _, _, _, _ => none
  | d + 1, t, x1, x2, x3, σ => f_X12_smallFrom_0 (f_X12_smallFrom d) t x1 x2 x3 σ
def w_X12_small : List Cond := Cond.code yX12_small cX12_small 3 (some .int) :: GT
def f_X12_small_21 (σ : HS) : Option (Int32 × HS) :=
    some ((-1), σ)
def f_X12_small_52 (s0 : Int32) (σ : HS) : Option (Int32 × HS) :=
    some (s0, σ)
def f_X12_small_25 (t : Nat) (x1 : Int32) : Nat → Int32 → HS → Option (Int32 × HS)
  | 0, _, _ => none
  | n + 1, x2, σ =>
    if 4 < x2 then
      some ((-1), σ)
    else
      (f_X12_smallFrom DEP t x2 0 0 σ).bind fun q1 =>
      if q1.1 = 0 then
        (f_X12_small_25 t x1 n) (x2 + 1) q1.2
      else
        if x1 = 0 then
          f_X12_small_52 x2 q1.2
        else
          f_X12_small_52 (q1.2.1 t 36) q1.2
def f_X12_small (t : Nat) (x1 : Int32) (σ : HS) : Option (Int32 × HS) :=
    (f_X12_within x1 0 1 (sI σ t 0 0)).bind fun q1 =>
    if q1.1 = 0 then
      f_X12_small_21 q1.2
    else
      (f_X12_findNow t q1.2).bind fun q2 =>
      if q2.1 = 0 then
        f_X12_small_25 t x1 FU 1 q2.2
      else
        f_X12_small_21 q2.2
def w_X12_whyFrom : List Cond := Cond.code yX12_whyFrom cX12_whyFrom 7 (some .boolean) :: GT
def f_X12_whyFrom_93 (rc : Nat → Int32 → Int32 → Int32 → Int32 → Int32 → HS → Option (Int32 × HS)) (r47 : Int32 → HS → Option (Int32 × HS)) (t : Nat) (x1 : Int32) (x3 : Int32) (x4 : Int32) (x5 : Int32) (x6 : Int32) (σ : HS) : Option (Int32 × HS) :=
    r47 (x6 + 1) σ
def f_X12_whyFrom_47 (rc : Nat → Int32 → Int32 → Int32 → Int32 → Int32 → HS → Option (Int32 × HS)) (t : Nat) (x1 : Int32) (x3 : Int32) (x4 : Int32) (x5 : Int32) : Nat → Int32 → HS → Option (Int32 × HS)
  | 0, _, _ => none
  | n + 1, x6, σ =>
    rk (σ.2.2 t 13) 14 fun a1 =>
    ck 0 (ln a1) (
    if (σ.1 a1 (0 : Int32).toNatClampNeg) ≤ x6 then
      some (0, σ)
    else
      (f_X12_isHeard t x6 σ).bind fun q2 =>
      if q2.1 = 0 then
        f_X12_whyFrom_93 rc (f_X12_whyFrom_47 rc t x1 x3 x4 x5 n) t x1 x3 x4 x5 x6 q2.2
      else
        (rc t (x1 - 1) (x6 + 1) (x3 ||| ((1 : Int32) <<< (x6 &&& 31))) x4 x5 q2.2).bind fun q3 =>
        if q3.1 = 0 then
          f_X12_whyFrom_93 rc (f_X12_whyFrom_47 rc t x1 x3 x4 x5 n) t x1 x3 x4 x5 x6 q3.2
        else
          some (1, q3.2))
def f_X12_whyFrom_38 (rc : Nat → Int32 → Int32 → Int32 → Int32 → Int32 → HS → Option (Int32 × HS)) (x6 : Int32) (s0 : Int32) (s1 : Nat) (σ : HS) : Option (Int32 × HS) :=
    zr x6 (sI σ s1 36 s0)
def f_X12_whyFrom_0 (rc : Nat → Int32 → Int32 → Int32 → Int32 → Int32 → HS → Option (Int32 × HS)) (t : Nat) (x1 : Int32) (x2 : Int32) (x3 : Int32) (x4 : Int32) (x5 : Int32) (σ : HS) : Option (Int32 × HS) :=
    if x1 = 0 then
      (f_X12_laysRows t x3 σ).bind fun q1 =>
      (f_X12_findCorners t q1).bind fun q2 =>
      (f_X12_isBetter t x4 x5 0 q2).bind fun q3 =>
      if q3.1 = 0 then
        f_X12_whyFrom_38 rc q3.1 (q3.2.1 t 36) t q3.2
      else
        f_X12_whyFrom_38 rc q3.1 x3 t q3.2
    else
      f_X12_whyFrom_47 rc t x1 x3 x4 x5 FU x2 σ
def f_X12_whyFrom : Nat → Nat → Int32 → Int32 → Int32 → Int32 → Int32 → HS → Option (Int32 × HS)
  | 0, _, _, _, _, _, _, _ => none
  | d + 1, t, x1, x2, x3, x4, x5, σ => f_X12_whyFrom_0 (f_X12_whyFrom d) t x1 x2 x3 x4 x5 σ
def w_X12_areTwo : List Cond := Cond.code yX12_areTwo cX12_areTwo 3 (some .boolean) :: GT
def f_X12_areTwo_46 (s0 : Int32) (σ : HS) : Option (Int32 × HS) :=
    zr s0 σ
def f_X12_areTwo_45 (σ : HS) : Option (Int32 × HS) :=
    f_X12_areTwo_46 0 σ
def f_X12_areTwo (t : Nat) (x1 : Int32) (x2 : Int32) (σ : HS) : Option (Int32 × HS) :=
    (f_X12_within x1 0 7 σ).bind fun q1 =>
    if q1.1 = 0 then
      f_X12_areTwo_45 q1.2
    else
      (f_X12_within x2 0 7 q1.2).bind fun q2 =>
      if q2.1 = 0 then
        f_X12_areTwo_45 q2.2
      else
        if x1 = x2 then
          f_X12_areTwo_45 q2.2
        else
          (f_X12_isIn t x1 q2.2).bind fun q3 =>
          if q3.1 = 0 then
            f_X12_areTwo_45 q3.2
          else
            (f_X12_isIn t x2 q3.2).bind fun q4 =>
            if q4.1 = 0 then
              f_X12_areTwo_45 q4.2
            else
              f_X12_areTwo_46 1 q4.2
def w_X12_why : List Cond := Cond.code yX12_why cX12_why 5 (some .int) :: GT
def f_X12_why_40 (σ : HS) : Option (Int32 × HS) :=
    some ((-1), σ)
def f_X12_why_77 (s0 : Int32) (σ : HS) : Option (Int32 × HS) :=
    some (s0, σ)
def f_X12_why_45 (t : Nat) (x1 : Int32) (x2 : Int32) (x3 : Int32) : Nat → Int32 → HS → Option (Int32 × HS)
  | 0, _, _ => none
  | n + 1, x4, σ =>
    if 3 < x4 then
      some ((-1), σ)
    else
      (f_X12_whyFrom DEP t x4 0 0 x1 x2 σ).bind fun q1 =>
      if q1.1 = 0 then
        (f_X12_why_45 t x1 x2 x3 n) (x4 + 1) q1.2
      else
        if x3 = 0 then
          f_X12_why_77 x4 q1.2
        else
          f_X12_why_77 (q1.2.1 t 36) q1.2
def f_X12_why (t : Nat) (x1 : Int32) (x2 : Int32) (x3 : Int32) (σ : HS) : Option (Int32 × HS) :=
    (f_X12_areTwo t x1 x2 (sI σ t 0 0)).bind fun q1 =>
    if q1.1 = 0 then
      f_X12_why_40 q1.2
    else
      (f_X12_within x3 0 1 q1.2).bind fun q2 =>
      if q2.1 = 0 then
        f_X12_why_40 q2.2
      else
        (f_X12_findNow t q2.2).bind fun q3 =>
        if q3.1 = 0 then
          f_X12_why_40 q3.2
        else
          (f_X12_isBetter t x1 x2 0 q3.2).bind fun q4 =>
          if q4.1 = 0 then
            f_X12_why_40 q4.2
          else
            f_X12_why_45 t x1 x2 x3 FU 0 q4.2
def w_X12_beatenFrom : List Cond := Cond.code yX12_beatenFrom cX12_beatenFrom 8 (some .boolean) :: GT
def f_X12_beatenFrom_128 (rc : Nat → Int32 → Int32 → Int32 → Int32 → Int32 → HS → Option (Int32 × HS)) (x6 : Int32) (σ : HS) : Option (Int32 × HS) :=
    zr x6 σ
def f_X12_beatenFrom_122 (rc : Nat → Int32 → Int32 → Int32 → Int32 → Int32 → HS → Option (Int32 × HS)) (r49 : Int32 → Int32 → HS → Option (Int32 × HS)) (t : Nat) (x1 : Int32) (x2 : Int32) (x4 : Int32) (x5 : Int32) (x6 : Int32) (x7 : Int32) (σ : HS) : Option (Int32 × HS) :=
    r49 x6 (x7 + 1) σ
def f_X12_beatenFrom_49 (rc : Nat → Int32 → Int32 → Int32 → Int32 → Int32 → HS → Option (Int32 × HS)) (t : Nat) (x1 : Int32) (x2 : Int32) (x4 : Int32) (x5 : Int32) : Nat → Int32 → Int32 → HS → Option (Int32 × HS)
  | 0, _, _, _ => none
  | n + 1, x6, x7, σ =>
    if 8 ≤ x7 then
      f_X12_beatenFrom_128 rc x6 σ
    else
      if x6 = 0 then
        if x7 = x1 then
          f_X12_beatenFrom_122 rc (f_X12_beatenFrom_49 rc t x1 x2 x4 x5 n) t x1 x2 x4 x5 x6 x7 σ
        else
          (f_X12_isIn t x7 σ).bind fun q1 =>
          if q1.1 = 0 then
            f_X12_beatenFrom_122 rc (f_X12_beatenFrom_49 rc t x1 x2 x4 x5 n) t x1 x2 x4 x5 x6 x7 q1.2
          else
            (f_X12_addsAbove t x1 x7 q1.2).bind fun q2 =>
            (f_X12_findMore t (x5 + 1) q2).bind fun q3 =>
            (rc t x1 (x2 - 1) (x7 + 1) (x4 ||| ((1 : Int32) <<< (x7 &&& 31))) (x5 + 1) q3).bind fun q4 =>
            (f_X12_backTo t x5 q4.2).bind fun q5 =>
            f_X12_beatenFrom_122 rc (f_X12_beatenFrom_49 rc t x1 x2 x4 x5 n) t x1 x2 x4 x5 q4.1 x7 q5
      else
        f_X12_beatenFrom_128 rc x6 σ
def f_X12_beatenFrom_42 (rc : Nat → Int32 → Int32 → Int32 → Int32 → Int32 → HS → Option (Int32 × HS)) (s0 : Int32) (σ : HS) : Option (Int32 × HS) :=
    zr s0 σ
def f_X12_beatenFrom_24 (rc : Nat → Int32 → Int32 → Int32 → Int32 → Int32 → HS → Option (Int32 × HS)) (t : Nat) (x5 : Int32) (s0 : Int32) (s1 : Nat) (σ : HS) : Option (Int32 × HS) :=
    rk ((sI σ s1 36 s0).2.2 t 28) 14 fun a1 =>
    ck x5 (ln a1) (
    if ((sI σ s1 36 s0).1 a1 x5.toNatClampNeg) = 0 then
      f_X12_beatenFrom_42 rc 1 (sI σ s1 36 s0)
    else
      f_X12_beatenFrom_42 rc 0 (sI σ s1 36 s0))
def f_X12_beatenFrom_0 (rc : Nat → Int32 → Int32 → Int32 → Int32 → Int32 → HS → Option (Int32 × HS)) (t : Nat) (x1 : Int32) (x2 : Int32) (x3 : Int32) (x4 : Int32) (x5 : Int32) (σ : HS) : Option (Int32 × HS) :=
    if x2 = 0 then
      rk (σ.2.2 t 28) 14 fun a1 =>
      ck x5 (ln a1) (
      if (σ.1 a1 x5.toNatClampNeg) = 0 then
        f_X12_beatenFrom_24 rc t x5 x4 t σ
      else
        f_X12_beatenFrom_24 rc t x5 (σ.1 t 36) t σ)
    else
      f_X12_beatenFrom_49 rc t x1 x2 x4 x5 FU 0 x3 σ
def f_X12_beatenFrom : Nat → Nat → Int32 → Int32 → Int32 → Int32 → Int32 → HS → Option (Int32 × HS)
  | 0, _, _, _, _, _, _, _ => none
  | d + 1, t, x1, x2, x3, x4, x5, σ => f_X12_beatenFrom_0 (f_X12_beatenFrom d) t x1 x2 x3 x4 x5 σ
def w_X12_isThingIn : List Cond := Cond.code yX12_isThingIn cX12_isThingIn 2 (some .boolean) :: GT
def f_X12_isThingIn_23 (s0 : Int32) (σ : HS) : Option (Int32 × HS) :=
    zr s0 σ
def f_X12_isThingIn_22 (σ : HS) : Option (Int32 × HS) :=
    f_X12_isThingIn_23 0 σ
def f_X12_isThingIn (t : Nat) (x1 : Int32) (σ : HS) : Option (Int32 × HS) :=
    (f_X12_within x1 0 7 σ).bind fun q1 =>
    if q1.1 = 0 then
      f_X12_isThingIn_22 q1.2
    else
      (f_X12_isIn t x1 q1.2).bind fun q2 =>
      if q2.1 = 0 then
        f_X12_isThingIn_22 q2.2
      else
        f_X12_isThingIn_23 1 q2.2
def w_X12_beaten : List Cond := Cond.code yX12_beaten cX12_beaten 3 (some .int) :: GT
def f_X12_beaten_29 (σ : HS) : Option (Int32 × HS) :=
    some ((-1), σ)
def f_X12_beaten_33 (t : Nat) (x1 : Int32) : Nat → Int32 → HS → Option (Int32 × HS)
  | 0, _, _ => none
  | n + 1, x2, σ =>
    if 3 < x2 then
      some ((-1), σ)
    else
      (f_X12_beatenFrom DEP t x1 x2 0 0 0 σ).bind fun q1 =>
      if q1.1 = 0 then
        (f_X12_beaten_33 t x1 n) (x2 + 1) q1.2
      else
        some (q1.2.1 t 36, q1.2)
def f_X12_beaten (t : Nat) (x1 : Int32) (σ : HS) : Option (Int32 × HS) :=
    (f_X12_isThingIn t x1 (sI σ t 0 0)).bind fun q1 =>
    if q1.1 = 0 then
      f_X12_beaten_29 q1.2
    else
      (f_X12_findNow t q1.2).bind fun q2 =>
      if q2.1 = 0 then
        f_X12_beaten_29 q2.2
      else
        (f_X12_mayBe t x1 0 q2.2).bind fun q3 =>
        if q3.1 = 0 then
          f_X12_beaten_33 t x1 FU 1 q3.2
        else
          f_X12_beaten_29 q3.2
def w_X12_betterNow : List Cond := Cond.code yX12_betterNow cX12_betterNow 6 (some .int) :: GT
def f_X12_betterNow_93 (s0 : Int32) (σ : HS) : Option (Int32 × HS) :=
    some (s0, σ)
def f_X12_betterNow_67 (r8 : Int32 → Int32 → Int32 → HS → Option (Int32 × HS)) (t : Nat) (x1 : Int32) (x2 : Int32) (x3 : Int32) (x5 : Int32) (s0 : Int32) (σ : HS) : Option (Int32 × HS) :=
    r8 x3 s0 (x5 + 1) σ
def f_X12_betterNow_62 (r8 : Int32 → Int32 → Int32 → HS → Option (Int32 × HS)) (t : Nat) (x1 : Int32) (x2 : Int32) (x3 : Int32) (x5 : Int32) (σ : HS) : Option (Int32 × HS) :=
    f_X12_betterNow_67 r8 t x1 x2 x3 x5 1 σ
def f_X12_betterNow_42 (r8 : Int32 → Int32 → Int32 → HS → Option (Int32 × HS)) (t : Nat) (x1 : Int32) (x2 : Int32) (x4 : Int32) (x5 : Int32) (s0 : Int32) (σ : HS) : Option (Int32 × HS) :=
    if x4 = 0 then
      (f_X12_aboveAt t x1 x2 0 x5 σ).bind fun q1 =>
      if q1.1 < 0 then
        f_X12_betterNow_67 r8 t x1 x2 s0 x5 0 q1.2
      else
        f_X12_betterNow_62 r8 t x1 x2 s0 x5 q1.2
    else
      f_X12_betterNow_62 r8 t x1 x2 s0 x5 σ
def f_X12_betterNow_41 (r8 : Int32 → Int32 → Int32 → HS → Option (Int32 × HS)) (t : Nat) (x1 : Int32) (x2 : Int32) (x4 : Int32) (x5 : Int32) (σ : HS) : Option (Int32 × HS) :=
    f_X12_betterNow_42 r8 t x1 x2 x4 x5 0 σ
def f_X12_betterNow_8 (t : Nat) (x1 : Int32) (x2 : Int32) : Nat → Int32 → Int32 → Int32 → HS → Option (Int32 × HS)
  | 0, _, _, _, _ => none
  | n + 1, x3, x4, x5, σ =>
    rk (σ.2.2 t 28) 14 fun a1 =>
    ck 0 (ln a1) (
    if (σ.1 a1 (0 : Int32).toNatClampNeg) ≤ x5 then
      if x3 = 0 then
        if x4 = 0 then
          f_X12_betterNow_93 0 σ
        else
          f_X12_betterNow_93 1 σ
      else
        f_X12_betterNow_93 2 σ
    else
      if x3 = 0 then
        f_X12_betterNow_41 (f_X12_betterNow_8 t x1 x2 n) t x1 x2 x4 x5 σ
      else
        (f_X12_aboveAt t x1 x2 0 x5 σ).bind fun q2 =>
        if q2.1 < 0 then
          f_X12_betterNow_41 (f_X12_betterNow_8 t x1 x2 n) t x1 x2 x4 x5 q2.2
        else
          f_X12_betterNow_42 (f_X12_betterNow_8 t x1 x2 n) t x1 x2 x4 x5 1 q2.2)
def f_X12_betterNow (t : Nat) (x1 : Int32) (x2 : Int32) (σ : HS) : Option (Int32 × HS) :=
    f_X12_betterNow_8 t x1 x2 FU 1 0 0 σ
def w_X12_better : List Cond := Cond.code yX12_better cX12_better 3 (some .int) :: GT
def f_X12_better_31 (s0 : Int32) (σ : HS) : Option (Int32 × HS) :=
    some (s0, σ)
def f_X12_better_30 (σ : HS) : Option (Int32 × HS) :=
    f_X12_better_31 (-1) σ
def f_X12_better (t : Nat) (x1 : Int32) (x2 : Int32) (σ : HS) : Option (Int32 × HS) :=
    (f_X12_areTwo t x1 x2 (sI σ t 0 0)).bind fun q1 =>
    if q1.1 = 0 then
      f_X12_better_30 q1.2
    else
      (f_X12_findNow t q1.2).bind fun q2 =>
      if q2.1 = 0 then
        f_X12_better_30 q2.2
      else
        (f_X12_betterNow t x1 x2 q2.2).bind fun q3 =>
        f_X12_better_31 q3.1 q3.2
def w_X12_holds : List Cond := Cond.code yX12_holds cX12_holds 4 (some .int) :: GT
def f_X12_holds_30 (σ : HS) : Option (Int32 × HS) :=
    some ((-1), σ)
def f_X12_holds_69 (s0 : Int32) (σ : HS) : Option (Int32 × HS) :=
    some (s0, σ)
def f_X12_holds (t : Nat) (x1 : Int32) (x2 : Int32) (x3 : Int32) (σ : HS) : Option (Int32 × HS) :=
    (f_X12_areTwo t x2 x3 (sI σ t 0 0)).bind fun q1 =>
    if q1.1 = 0 then
      f_X12_holds_30 q1.2
    else
      rk (q1.2.2.2 t 13) 14 fun a2 =>
      ck 0 (ln a2) (
      (f_X12_within x1 0 ((q1.2.1 a2 (0 : Int32).toNatClampNeg) - 1) q1.2).bind fun q3 =>
      if q3.1 = 0 then
        f_X12_holds_30 q3.2
      else
        (f_X12_heard t q3.2).bind fun q4 =>
        (f_X12_laysRows t (q4.1 &&& (((1 : Int32) <<< (x1 &&& 31)) ^^^ (-1))) q4.2).bind fun q5 =>
        (f_X12_findCorners t q5).bind fun q6 =>
        rk (q6.2.2 t 28) 14 fun a7 =>
        ck 0 (ln a7) (
        if (q6.1 a7 (0 : Int32).toNatClampNeg) = 0 then
          f_X12_holds_69 (-1) q6
        else
          (f_X12_betterNow t x2 x3 q6).bind fun q8 =>
          f_X12_holds_69 q8.1 q8.2))
def w_X12_findGap : List Cond := Cond.code yX12_findGap cX12_findGap 8 none :: GT
def f_X12_findGap_64 (r2 : Int32 → HS → Option HS) (t : Nat) (x1 : Int32) (x2 : Int32) (x3 : Int32) (σ : HS) : Option HS :=
    r2 (x3 + 1) σ
def f_X12_findGap_52 (r2 : Int32 → HS → Option HS) (t : Nat) (x1 : Int32) (x2 : Int32) (x3 : Int32) (x4 : Int64) (x6 : Int64) (σ : HS) : Option HS :=
    f_X12_findGap_64 r2 t x1 x2 x3 (sJ (sJ σ t 37 x4) t 38 x6)
def f_X12_findGap_2 (t : Nat) (x1 : Int32) (x2 : Int32) : Nat → Int32 → HS → Option HS
  | 0, _, _ => none
  | n + 1, x3, σ =>
    rk (σ.2.2 t 28) 14 fun a1 =>
    ck 0 (ln a1) (
    if (σ.1 a1 (0 : Int32).toNatClampNeg) ≤ x3 then
      some σ
    else
      (f_X12_aboveAt t x2 x1 0 x3 σ).bind fun q2 =>
      (f_X12_sumAt t 0 x3 q2.2).bind fun q3 =>
      if x3 = 0 then
        f_X12_findGap_52 (f_X12_findGap_2 t x1 x2 n) t x1 x2 x3 q2.1 q3.1 q3.2
      else
        if (q2.1 * (q3.2.2.1 t 38)) ≤ ((q3.2.2.1 t 37) * q3.1) then
          f_X12_findGap_64 (f_X12_findGap_2 t x1 x2 n) t x1 x2 x3 q3.2
        else
          f_X12_findGap_52 (f_X12_findGap_2 t x1 x2 n) t x1 x2 x3 q2.1 q3.1 q3.2)
def f_X12_findGap (t : Nat) (x1 : Int32) (x2 : Int32) (σ : HS) : Option HS :=
    f_X12_findGap_2 t x1 x2 FU 0 σ
def w_X12_gap : List Cond := Cond.code yX12_gap cX12_gap 6 (some .long) :: GT
def f_X12_gap_83 (s0 : Int64) (σ : HS) : Option (Int64 × HS) :=
    some (s0, σ)
def f_X12_gap_31 (t : Nat) (x1 : Int32) (x2 : Int32) (x3 : Int32) (s0 : Int32) (s1 : Nat) (σ : HS) : Option (Int64 × HS) :=
    if ((sI σ s1 0 s0).1 t 0) ≤ 0 then
      (f_X12_findGap t x1 x2 (sI σ s1 0 s0)).bind fun q1 =>
      (f_X12_common (q1.2.1 t 37) (q1.2.1 t 38) q1).bind fun q2 =>
      if x3 = 0 then
        nz (q2.1 = 0) (
        f_X12_gap_83 ((q2.2.2.1 t 37) / q2.1) q2.2)
      else
        nz (q2.1 = 0) (
        f_X12_gap_83 ((q2.2.2.1 t 38) / q2.1) q2.2)
    else
      some (0, sI σ s1 0 s0)
def f_X12_gap_30 (t : Nat) (x1 : Int32) (x2 : Int32) (x3 : Int32) (s0 : Nat) (σ : HS) : Option (Int64 × HS) :=
    f_X12_gap_31 t x1 x2 x3 1 s0 σ
def f_X12_gap (t : Nat) (x1 : Int32) (x2 : Int32) (x3 : Int32) (σ : HS) : Option (Int64 × HS) :=
    (f_X12_areTwo t x1 x2 σ).bind fun q1 =>
    if q1.1 = 0 then
      f_X12_gap_30 t x1 x2 x3 t q1.2
    else
      (f_X12_within x3 0 1 q1.2).bind fun q2 =>
      if q2.1 = 0 then
        f_X12_gap_30 t x1 x2 x3 t q2.2
      else
        (f_X12_findNow t q2.2).bind fun q3 =>
        if q3.1 = 0 then
          f_X12_gap_30 t x1 x2 x3 t q3.2
        else
          f_X12_gap_31 t x1 x2 x3 0 t q3.2
def w_X12_findRegret : List Cond := Cond.code yX12_findRegret cX12_findRegret 7 none :: GT
def f_X12_findRegret_65 (r8 : Int64 → Int64 → Int32 → HS → Option HS) (t : Nat) (x1 : Int32) (x2 : Int64) (x4 : Int64) (x6 : Int32) (σ : HS) : Option HS :=
    r8 x2 x4 (x6 + 1) σ
def f_X12_findRegret_8 (t : Nat) (x1 : Int32) : Nat → Int64 → Int64 → Int32 → HS → Option HS
  | 0, _, _, _, _ => none
  | n + 1, x2, x4, x6, σ =>
    if 8 ≤ x6 then
      some (sJ (sJ σ t 37 x2) t 38 x4)
    else
      if x6 = x1 then
        f_X12_findRegret_65 (f_X12_findRegret_8 t x1 n) t x1 x2 x4 x6 σ
      else
        (f_X12_isIn t x6 σ).bind fun q1 =>
        if q1.1 = 0 then
          f_X12_findRegret_65 (f_X12_findRegret_8 t x1 n) t x1 x2 x4 x6 q1.2
        else
          (f_X12_findGap t x1 x6 q1.2).bind fun q2 =>
          if ((q2.2.1 t 37) * x4) ≤ (x2 * (q2.2.1 t 38)) then
            f_X12_findRegret_65 (f_X12_findRegret_8 t x1 n) t x1 x2 x4 x6 q2
          else
            f_X12_findRegret_65 (f_X12_findRegret_8 t x1 n) t x1 (q2.2.1 t 37) (q2.2.1 t 38) x6 q2
def f_X12_findRegret (t : Nat) (x1 : Int32) (σ : HS) : Option HS :=
    f_X12_findRegret_8 t x1 FU 0 1 0 σ
def w_X12_regret : List Cond := Cond.code yX12_regret cX12_regret 5 (some .long) :: GT
def f_X12_regret_29 (σ : HS) : Option (Int64 × HS) :=
    some ((-1), σ)
def f_X12_regret_69 (s0 : Int64) (σ : HS) : Option (Int64 × HS) :=
    some (s0, σ)
def f_X12_regret (t : Nat) (x1 : Int32) (x2 : Int32) (σ : HS) : Option (Int64 × HS) :=
    (f_X12_isThingIn t x1 (sI σ t 0 0)).bind fun q1 =>
    if q1.1 = 0 then
      f_X12_regret_29 q1.2
    else
      (f_X12_within x2 0 1 q1.2).bind fun q2 =>
      if q2.1 = 0 then
        f_X12_regret_29 q2.2
      else
        (f_X12_findNow t q2.2).bind fun q3 =>
        if q3.1 = 0 then
          f_X12_regret_29 q3.2
        else
          (f_X12_findRegret t x1 q3.2).bind fun q4 =>
          (f_X12_common (q4.2.1 t 37) (q4.2.1 t 38) q4).bind fun q5 =>
          if x2 = 0 then
            nz (q5.1 = 0) (
            f_X12_regret_69 ((q5.2.2.1 t 37) / q5.1) q5.2)
          else
            nz (q5.1 = 0) (
            f_X12_regret_69 ((q5.2.2.1 t 38) / q5.1) q5.2)
def w_X12_least : List Cond := Cond.code yX12_least cX12_least 7 (some .int) :: GT
def f_X12_least_81 (r24 : Int32 → Int64 → Int64 → Int32 → HS → Option (Int32 × HS)) (t : Nat) (x1 : Int32) (x2 : Int64) (x4 : Int64) (x6 : Int32) (σ : HS) : Option (Int32 × HS) :=
    r24 x1 x2 x4 (x6 + 1) σ
def f_X12_least_67 (r24 : Int32 → Int64 → Int64 → Int32 → HS → Option (Int32 × HS)) (t : Nat) (x6 : Int32) (σ : HS) : Option (Int32 × HS) :=
    f_X12_least_81 r24 t x6 (σ.2.1 t 37) (σ.2.1 t 38) x6 σ
def f_X12_least_24 (t : Nat) : Nat → Int32 → Int64 → Int64 → Int32 → HS → Option (Int32 × HS)
  | 0, _, _, _, _, _ => none
  | n + 1, x1, x2, x4, x6, σ =>
    if 8 ≤ x6 then
      some (x1, σ)
    else
      (f_X12_isIn t x6 σ).bind fun q1 =>
      if q1.1 = 0 then
        f_X12_least_81 (f_X12_least_24 t n) t x1 x2 x4 x6 q1.2
      else
        (f_X12_findRegret t x6 q1.2).bind fun q2 =>
        if x1 < 0 then
          f_X12_least_67 (f_X12_least_24 t n) t x6 q2
        else
          if (x2 * (q2.2.1 t 38)) ≤ ((q2.2.1 t 37) * x4) then
            f_X12_least_81 (f_X12_least_24 t n) t x1 x2 x4 x6 q2
          else
            f_X12_least_67 (f_X12_least_24 t n) t x6 q2
def f_X12_least (t : Nat) (σ : HS) : Option (Int32 × HS) :=
    (f_X12_findNow t (sI σ t 0 0)).bind fun q1 =>
    if q1.1 = 0 then
      some ((-1), q1.2)
    else
      f_X12_least_24 t FU (-1) 0 1 0 q1.2
def w_X12_best : List Cond := Cond.code yX12_best cX12_best 2 (some .int) :: GT
def f_X12_best_21 (σ : HS) : Option (Int32 × HS) :=
    some ((-1), σ)
def f_X12_best_40 (s0 : Int32) (σ : HS) : Option (Int32 × HS) :=
    some (s0, σ)
def f_X12_best (t : Nat) (x1 : Int32) (σ : HS) : Option (Int32 × HS) :=
    (f_X12_within x1 0 1 (sI σ t 0 0)).bind fun q1 =>
    if q1.1 = 0 then
      f_X12_best_21 q1.2
    else
      (f_X12_findNow t q1.2).bind fun q2 =>
      if q2.1 = 0 then
        f_X12_best_21 q2.2
      else
        if x1 = 0 then
          (f_X12_mayBest t 0 q2.2).bind fun q4 =>
          f_X12_best_40 q4.1 q4.2
        else
          (f_X12_sureBest t 0 q2.2).bind fun q3 =>
          f_X12_best_40 q3.1 q3.2
def w_X12_behind : List Cond := Cond.code yX12_behind cX12_behind 4 (some .int) :: GT
def f_X12_behind_32 (t : Nat) (s0 : Int32) (σ : HS) : Option (Int32 × HS) :=
    (f_X12_backTo t 0 σ).bind fun q1 =>
    some (s0, q1)
def f_X12_behind (t : Nat) (x1 : Int32) (x2 : Int32) (σ : HS) : Option (Int32 × HS) :=
    (f_X12_addsAbove t x1 x2 σ).bind fun q1 =>
    (f_X12_findMore t 1 q1).bind fun q2 =>
    rk (q2.2.2 t 28) 14 fun a3 =>
    ck 1 (ln a3) (
    if (q2.1 a3 (1 : Int32).toNatClampNeg) = 0 then
      f_X12_behind_32 t 0 q2
    else
      (f_X12_mayBest t 1 q2).bind fun q4 =>
      (f_X12_bits q4.1 q4.2).bind fun q5 =>
      f_X12_behind_32 t q5.1 q5.2)
def w_X12_next : List Cond := Cond.code yX12_next cX12_next 10 (some .int) :: GT
def f_X12_next_21 (σ : HS) : Option (Int32 × HS) :=
    some ((-1), σ)
def f_X12_next_163 (s0 : Int32) (σ : HS) : Option (Int32 × HS) :=
    some (s0, σ)
def f_X12_next_124 (r34 : Int32 → Int32 → Int32 → Int32 → HS → Option (Int32 × HS)) (r47 : Int32 → Int32 → Int32 → Int32 → HS → Option (Int32 × HS)) (t : Nat) (x1 : Int32) (x2 : Int32) (x3 : Int32) (x4 : Int32) (x5 : Int32) (x6 : Int32) (σ : HS) : Option (Int32 × HS) :=
    r47 x2 x3 x4 (x6 + 1) σ
def f_X12_next_106 (r34 : Int32 → Int32 → Int32 → Int32 → HS → Option (Int32 × HS)) (r47 : Int32 → Int32 → Int32 → Int32 → HS → Option (Int32 × HS)) (t : Nat) (x1 : Int32) (x2 : Int32) (x3 : Int32) (x4 : Int32) (x5 : Int32) (x6 : Int32) (s0 : Int32) (σ : HS) : Option (Int32 × HS) :=
    if x2 ≤ s0 then
      f_X12_next_124 r34 r47 t x1 x2 x3 x4 x5 x6 σ
    else
      f_X12_next_124 r34 r47 t x1 s0 x5 x6 x5 x6 σ
def f_X12_next_47 (t : Nat) (x1 : Int32) (x5 : Int32) (r34 : Int32 → Int32 → Int32 → Int32 → HS → Option (Int32 × HS)) : Nat → Int32 → Int32 → Int32 → Int32 → HS → Option (Int32 × HS)
  | 0, _, _, _, _, _ => none
  | n + 1, x2, x3, x4, x6, σ =>
    if 8 ≤ x6 then
      r34 x2 x3 x4 (x5 + 1) σ
    else
      (f_X12_isIn t x5 σ).bind fun q1 =>
      if q1.1 = 0 then
        f_X12_next_124 r34 (f_X12_next_47 t x1 x5 r34 n) t x1 x2 x3 x4 x5 x6 q1.2
      else
        (f_X12_isIn t x6 q1.2).bind fun q2 =>
        if q2.1 = 0 then
          f_X12_next_124 r34 (f_X12_next_47 t x1 x5 r34 n) t x1 x2 x3 x4 x5 x6 q2.2
        else
          (f_X12_behind t x5 x6 q2.2).bind fun q3 =>
          (f_X12_behind t x6 x5 q3.2).bind fun q4 =>
          if q3.1 ≤ q4.1 then
            f_X12_next_106 r34 (f_X12_next_47 t x1 x5 r34 n) t x1 x2 x3 x4 x5 x6 q4.1 q4.2
          else
            f_X12_next_106 r34 (f_X12_next_47 t x1 x5 r34 n) t x1 x2 x3 x4 x5 x6 q3.1 q4.2
def f_X12_next_34 (t : Nat) (x1 : Int32) : Nat → Int32 → Int32 → Int32 → Int32 → HS → Option (Int32 × HS)
  | 0, _, _, _, _, _ => none
  | n + 1, x2, x3, x4, x5, σ =>
    if 8 ≤ x5 then
      if 0 ≤ x3 then
        if x1 = 0 then
          f_X12_next_163 x3 σ
        else
          if x1 = 1 then
            f_X12_next_163 x4 σ
          else
            f_X12_next_163 x2 σ
      else
        f_X12_next_163 (-1) σ
    else
      f_X12_next_47 t x1 x5 (f_X12_next_34 t x1 n) FU x2 x3 x4 (x5 + 1) σ
def f_X12_next (t : Nat) (x1 : Int32) (σ : HS) : Option (Int32 × HS) :=
    (f_X12_within x1 0 2 (sI σ t 0 0)).bind fun q1 =>
    if q1.1 = 0 then
      f_X12_next_21 q1.2
    else
      (f_X12_findNow t q1.2).bind fun q2 =>
      if q2.1 = 0 then
        f_X12_next_21 q2.2
      else
        f_X12_next_34 t x1 FU 9 (-1) (-1) 0 q2.2
def w_X12_fewBehind : List Cond := Cond.code yX12_fewBehind cX12_fewBehind 6 (some .int) :: GT
def f_X12_fewBehind_39 (rc : Nat → Int32 → Int32 → HS → Option (Int32 × HS)) (t : Nat) (x3 : Int32) (s0 : Int32) (σ : HS) : Option (Int32 × HS) :=
    (f_X12_backTo t x3 σ).bind fun q1 =>
    some (s0, q1)
def f_X12_fewBehind (rc : Nat → Int32 → Int32 → HS → Option (Int32 × HS)) (t : Nat) (x1 : Int32) (x2 : Int32) (x3 : Int32) (x4 : Int32) (σ : HS) : Option (Int32 × HS) :=
    (f_X12_addsAbove t x1 x2 σ).bind fun q1 =>
    (f_X12_findMore t (x3 + 1) q1).bind fun q2 =>
    rk (q2.2.2 t 28) 14 fun a3 =>
    ck (x3 + 1) (ln a3) (
    if (q2.1 a3 (x3 + 1).toNatClampNeg) = 0 then
      f_X12_fewBehind_39 rc t x3 0 q2
    else
      (rc t (x3 + 1) (x4 - 1) q2).bind fun q4 =>
      f_X12_fewBehind_39 rc t x3 q4.1 q4.2)
def w_X12_fewFrom : List Cond := Cond.code yX12_fewFrom cX12_fewFrom 9 (some .int) :: GT
def f_X12_fewFrom_143 (rc : Nat → Int32 → Int32 → HS → Option (Int32 × HS)) (x3 : Int32) (σ : HS) : Option (Int32 × HS) :=
    some (x3, σ)
def f_X12_fewFrom_131 (rc : Nat → Int32 → Int32 → HS → Option (Int32 × HS)) (r16 : Int32 → Int32 → HS → Option (Int32 × HS)) (r33 : Int32 → Int32 → HS → Option (Int32 × HS)) (t : Nat) (x1 : Int32) (x2 : Int32) (x3 : Int32) (x4 : Int32) (x5 : Int32) (σ : HS) : Option (Int32 × HS) :=
    r33 x3 (x5 + 1) σ
def f_X12_fewFrom_130 (rc : Nat → Int32 → Int32 → HS → Option (Int32 × HS)) (r16 : Int32 → Int32 → HS → Option (Int32 × HS)) (r33 : Int32 → Int32 → HS → Option (Int32 × HS)) (t : Nat) (x1 : Int32) (x2 : Int32) (x4 : Int32) (x5 : Int32) (s0 : Int32) (σ : HS) : Option (Int32 × HS) :=
    f_X12_fewFrom_131 rc r16 r33 t x1 x2 s0 x4 x5 σ
def f_X12_fewFrom_115 (rc : Nat → Int32 → Int32 → HS → Option (Int32 × HS)) (r16 : Int32 → Int32 → HS → Option (Int32 × HS)) (r33 : Int32 → Int32 → HS → Option (Int32 × HS)) (t : Nat) (x1 : Int32) (x2 : Int32) (x3 : Int32) (x4 : Int32) (x5 : Int32) (s0 : Int32) (s1 : Int32) (σ : HS) : Option (Int32 × HS) :=
    if x3 ≤ (s1 + s0) then
      f_X12_fewFrom_130 rc r16 r33 t x1 x2 x4 x5 x3 σ
    else
      f_X12_fewFrom_130 rc r16 r33 t x1 x2 x4 x5 (s1 + s0) σ
def f_X12_fewFrom_98 (rc : Nat → Int32 → Int32 → HS → Option (Int32 × HS)) (r16 : Int32 → Int32 → HS → Option (Int32 × HS)) (r33 : Int32 → Int32 → HS → Option (Int32 × HS)) (t : Nat) (x1 : Int32) (x2 : Int32) (x3 : Int32) (x4 : Int32) (x5 : Int32) (x6 : Int32) (s0 : Int32) (σ : HS) : Option (Int32 × HS) :=
    if x6 ≤ s0 then
      f_X12_fewFrom_115 rc r16 r33 t x1 x2 x3 x4 x5 s0 1 σ
    else
      f_X12_fewFrom_115 rc r16 r33 t x1 x2 x3 x4 x5 x6 1 σ
def f_X12_fewFrom_33 (rc : Nat → Int32 → Int32 → HS → Option (Int32 × HS)) (t : Nat) (x1 : Int32) (x2 : Int32) (x4 : Int32) (r16 : Int32 → Int32 → HS → Option (Int32 × HS)) : Nat → Int32 → Int32 → HS → Option (Int32 × HS)
  | 0, _, _, _ => none
  | n + 1, x3, x5, σ =>
    if 8 ≤ x5 then
      r16 x3 (x4 + 1) σ
    else
      (f_X12_isIn t x4 σ).bind fun q1 =>
      if q1.1 = 0 then
        f_X12_fewFrom_131 rc r16 (f_X12_fewFrom_33 rc t x1 x2 x4 r16 n) t x1 x2 x3 x4 x5 q1.2
      else
        (f_X12_isIn t x5 q1.2).bind fun q2 =>
        if q2.1 = 0 then
          f_X12_fewFrom_131 rc r16 (f_X12_fewFrom_33 rc t x1 x2 x4 r16 n) t x1 x2 x3 x4 x5 q2.2
        else
          if x3 ≤ 1 then
            f_X12_fewFrom_131 rc r16 (f_X12_fewFrom_33 rc t x1 x2 x4 r16 n) t x1 x2 x3 x4 x5 q2.2
          else
            (f_X12_fewBehind rc t x4 x5 x1 x2 q2.2).bind fun q3 =>
            if (q3.1 + 1) < x3 then
              (f_X12_fewBehind rc t x5 x4 x1 x2 q3.2).bind fun q4 =>
              f_X12_fewFrom_98 rc r16 (f_X12_fewFrom_33 rc t x1 x2 x4 r16 n) t x1 x2 x3 x4 x5 q3.1 q4.1 q4.2
            else
              f_X12_fewFrom_98 rc r16 (f_X12_fewFrom_33 rc t x1 x2 x4 r16 n) t x1 x2 x3 x4 x5 q3.1 q3.1 q3.2
def f_X12_fewFrom_16 (rc : Nat → Int32 → Int32 → HS → Option (Int32 × HS)) (t : Nat) (x1 : Int32) (x2 : Int32) : Nat → Int32 → Int32 → HS → Option (Int32 × HS)
  | 0, _, _, _ => none
  | n + 1, x3, x4, σ =>
    if 8 ≤ x4 then
      f_X12_fewFrom_143 rc x3 σ
    else
      if x2 ≤ 0 then
        f_X12_fewFrom_143 rc x3 σ
      else
        f_X12_fewFrom_33 rc t x1 x2 x4 (f_X12_fewFrom_16 rc t x1 x2 n) FU x3 (x4 + 1) σ
def f_X12_fewFrom_0 (rc : Nat → Int32 → Int32 → HS → Option (Int32 × HS)) (t : Nat) (x1 : Int32) (x2 : Int32) (σ : HS) : Option (Int32 × HS) :=
    (f_X12_sureBest t x1 σ).bind fun q1 =>
    if q1.1 = 0 then
      f_X12_fewFrom_16 rc t x1 x2 FU 9 0 q1.2
    else
      some (0, q1.2)
def f_X12_fewFrom : Nat → Nat → Int32 → Int32 → HS → Option (Int32 × HS)
  | 0, _, _, _, _ => none
  | d + 1, t, x1, x2, σ => f_X12_fewFrom_0 (f_X12_fewFrom d) t x1 x2 σ
def w_X12_few : List Cond := Cond.code yX12_few cX12_few 2 (some .int) :: GT
def f_X12_few_19 (σ : HS) : Option (Int32 × HS) :=
    some ((-1), σ)
def f_X12_few_23 (t : Nat) : Nat → Int32 → HS → Option (Int32 × HS)
  | 0, _, _ => none
  | n + 1, x1, σ =>
    if 2 < x1 then
      some ((-1), σ)
    else
      (f_X12_fewFrom DEP t 0 x1 σ).bind fun q1 =>
      if x1 < q1.1 then
        (f_X12_few_23 t n) (x1 + 1) q1.2
      else
        some (x1, q1.2)
def f_X12_few (t : Nat) (σ : HS) : Option (Int32 × HS) :=
    (f_X12_inMany t (sI σ t 0 0)).bind fun q1 =>
    if q1.1 = 0 then
      f_X12_few_19 q1.2
    else
      (f_X12_findNow t q1.2).bind fun q2 =>
      if q2.1 = 0 then
        f_X12_few_19 q2.2
      else
        f_X12_few_23 t FU 0 q2.2
def w_X12_doesWith : List Cond := Cond.code yX12_doesWith cX12_doesWith 6 (some .boolean) :: GT
def f_X12_doesWith_35 (t : Nat) (s0 : Int32) (σ : HS) : Option (Int32 × HS) :=
    zr s0 (sI σ t 32 (-1))
def f_X12_doesWith (t : Nat) (x1 : Int32) (x2 : Int32) (x3 : Int32) (x4 : Int32) (σ : HS) : Option (Int32 × HS) :=
    if x4 = 0 then
      (f_X12_mayBe t x1 0 (sI (sI (sI σ t 32 x1) t 33 x2) t 34 x3)).bind fun q1 =>
      f_X12_doesWith_35 t q1.1 q1.2
    else
      (f_X12_isSure t x1 0 (sI (sI (sI σ t 32 x1) t 33 x2) t 34 x3)).bind fun q2 =>
      f_X12_doesWith_35 t q2.1 q2.2
def w_X12_need : List Cond := Cond.code yX12_need cX12_need 8 (some .int) :: GT
def f_X12_need_34 (σ : HS) : Option (Int32 × HS) :=
    some ((-1), σ)
def f_X12_need_109 (r68 : Int32 → Int32 → HS → Option (Int32 × HS)) (t : Nat) (x1 : Int32) (x2 : Int32) (x3 : Int32) (x4 : Int32) (x5 : Int32) (x6 : Int32) (σ : HS) : Option (Int32 × HS) :=
    r68 x5 x6 σ
def f_X12_need_68 (t : Nat) (x1 : Int32) (x2 : Int32) (x3 : Int32) (x4 : Int32) : Nat → Int32 → Int32 → HS → Option (Int32 × HS)
  | 0, _, _, _ => none
  | n + 1, x5, x6, σ =>
    if (x6 - x5) ≤ 1 then
      some (x6 - x4, σ)
    else
      (f_X12_doesWith t x1 x2 ((x5 + x6) / 2) x3 σ).bind fun q1 =>
      if q1.1 = 0 then
        f_X12_need_109 (f_X12_need_68 t x1 x2 x3 x4 n) t x1 x2 x3 x4 ((x5 + x6) / 2) x6 q1.2
      else
        f_X12_need_109 (f_X12_need_68 t x1 x2 x3 x4 n) t x1 x2 x3 x4 x5 ((x5 + x6) / 2) q1.2
def f_X12_need (t : Nat) (x1 : Int32) (x2 : Int32) (x3 : Int32) (σ : HS) : Option (Int32 × HS) :=
    (f_X12_isThingIn t x1 (sI σ t 0 0)).bind fun q1 =>
    if q1.1 = 0 then
      f_X12_need_34 q1.2
    else
      (f_X12_within x2 0 ((q1.2.1 t 20) - 1) q1.2).bind fun q2 =>
      if q2.1 = 0 then
        f_X12_need_34 q2.2
      else
        (f_X12_findNow t q2.2).bind fun q3 =>
        if q3.1 = 0 then
          f_X12_need_34 q3.2
        else
          (f_X12_valueOf t x1 x2 q3.2).bind fun q4 =>
          (f_X12_doesWith t x1 x2 100 x3 q4.2).bind fun q5 =>
          if q5.1 = 0 then
            some ((-1), q5.2)
          else
            f_X12_need_68 t x1 x2 x3 q4.1 FU (q4.1 - 1) 100 q5.2
def w_X12_edge : List Cond := Cond.code yX12_edge cX12_edge 6 (some .int) :: GT
def f_X12_edge_45 (σ : HS) : Option (Int32 × HS) :=
    some ((-1), σ)
def f_X12_edge_105 (t : Nat) (x4 : Int32) (σ : HS) : Option (Int32 × HS) :=
    some (x4, sI σ t 32 (-1))
def f_X12_edge_97 (r53 : Int32 → Int32 → HS → Option (Int32 × HS)) (t : Nat) (x1 : Int32) (x2 : Int32) (x3 : Int32) (x5 : Int32) (s0 : Int32) (σ : HS) : Option (Int32 × HS) :=
    r53 s0 (x5 + 1) σ
def f_X12_edge_53 (t : Nat) (x1 : Int32) (x2 : Int32) (x3 : Int32) : Nat → Int32 → Int32 → HS → Option (Int32 × HS)
  | 0, _, _, _ => none
  | n + 1, x4, x5, σ =>
    if 100 < x5 then
      f_X12_edge_105 t x4 σ
    else
      if 0 ≤ x4 then
        f_X12_edge_105 t x4 σ
      else
        (f_X12_isBetter t x1 x2 0 (sI (sI (sI σ t 32 x1) t 33 x3) t 34 x5)).bind fun q1 =>
        if q1.1 = 0 then
          f_X12_edge_97 (f_X12_edge_53 t x1 x2 x3 n) t x1 x2 x3 x5 (-1) q1.2
        else
          f_X12_edge_97 (f_X12_edge_53 t x1 x2 x3 n) t x1 x2 x3 x5 x5 q1.2
def f_X12_edge (t : Nat) (x1 : Int32) (x2 : Int32) (x3 : Int32) (σ : HS) : Option (Int32 × HS) :=
    (f_X12_areTwo t x1 x2 (sI σ t 0 0)).bind fun q1 =>
    if q1.1 = 0 then
      f_X12_edge_45 q1.2
    else
      (f_X12_within x3 0 ((q1.2.1 t 20) - 1) q1.2).bind fun q2 =>
      if q2.1 = 0 then
        f_X12_edge_45 q2.2
      else
        (f_X12_findNow t q2.2).bind fun q3 =>
        if q3.1 = 0 then
          f_X12_edge_45 q3.2
        else
          (f_X12_isBetter t x1 x2 0 q3.2).bind fun q4 =>
          if q4.1 = 0 then
            f_X12_edge_45 q4.2
          else
            f_X12_edge_53 t x1 x2 x3 FU (-1) 0 q4.2
def w_X12_isBestBy : List Cond := Cond.code yX12_isBestBy cX12_isBestBy 4 (some .boolean) :: GT
def f_X12_isBestBy_41 (r4 : Int32 → Int32 → HS → Option (Int32 × HS)) (t : Nat) (x1 : Int32) (x3 : Int32) (s0 : Int32) (σ : HS) : Option (Int32 × HS) :=
    r4 s0 (x3 + 1) σ
def f_X12_isBestBy_40 (r4 : Int32 → Int32 → HS → Option (Int32 × HS)) (t : Nat) (x1 : Int32) (x3 : Int32) (σ : HS) : Option (Int32 × HS) :=
    f_X12_isBestBy_41 r4 t x1 x3 0 σ
def f_X12_isBestBy_36 (r4 : Int32 → Int32 → HS → Option (Int32 × HS)) (t : Nat) (x1 : Int32) (x3 : Int32) (σ : HS) : Option (Int32 × HS) :=
    f_X12_isBestBy_41 r4 t x1 x3 1 σ
def f_X12_isBestBy_4 (t : Nat) (x1 : Int32) : Nat → Int32 → Int32 → HS → Option (Int32 × HS)
  | 0, _, _, _ => none
  | n + 1, x2, x3, σ =>
    if 8 ≤ x3 then
      zr x2 σ
    else
      if x2 = 0 then
        f_X12_isBestBy_40 (f_X12_isBestBy_4 t x1 n) t x1 x3 σ
      else
        (f_X12_isIn t x3 σ).bind fun q1 =>
        if q1.1 = 0 then
          f_X12_isBestBy_36 (f_X12_isBestBy_4 t x1 n) t x1 x3 q1.2
        else
          (f_X12_goodBy t x1 q1.2).bind fun q2 =>
          (f_X12_goodBy t x3 q2.2).bind fun q3 =>
          if q2.1 < q3.1 then
            f_X12_isBestBy_40 (f_X12_isBestBy_4 t x1 n) t x1 x3 q3.2
          else
            f_X12_isBestBy_36 (f_X12_isBestBy_4 t x1 n) t x1 x3 q3.2
def f_X12_isBestBy (t : Nat) (x1 : Int32) (σ : HS) : Option (Int32 × HS) :=
    f_X12_isBestBy_4 t x1 FU 1 0 σ
def w_X12_shareFrom : List Cond := Cond.code yX12_shareFrom cX12_shareFrom 6 (some .int) :: GT
def f_X12_shareFrom_49 (rc : Nat → Int32 → Int32 → Int32 → HS → Option (Int32 × HS)) (t : Nat) (x1 : Int32) (x2 : Int32) (x3 : Int32) : Nat → Int32 → Int32 → HS → Option (Int32 × HS)
  | 0, _, _, _ => none
  | n + 1, x4, x5, σ =>
    if x3 < x5 then
      some (x4, σ)
    else
      rk (σ.2.2 t 35) 15 fun a1 =>
      ck x2 (ln a1) (
      (rc t x1 (x2 + 1) (x3 - x5) (sJ σ a1 x2.toNatClampNeg x5.toInt64)).bind fun q2 =>
      (f_X12_shareFrom_49 rc t x1 x2 x3 n) (x4 + q2.1) (x5 + 1) q2.2)
def f_X12_shareFrom_42 (rc : Nat → Int32 → Int32 → Int32 → HS → Option (Int32 × HS)) (s0 : Int32) (σ : HS) : Option (Int32 × HS) :=
    some (s0, σ)
def f_X12_shareFrom_41 (rc : Nat → Int32 → Int32 → Int32 → HS → Option (Int32 × HS)) (σ : HS) : Option (Int32 × HS) :=
    f_X12_shareFrom_42 rc 0 σ
def f_X12_shareFrom_37 (rc : Nat → Int32 → Int32 → Int32 → HS → Option (Int32 × HS)) (σ : HS) : Option (Int32 × HS) :=
    f_X12_shareFrom_42 rc 1 σ
def f_X12_shareFrom_0 (rc : Nat → Int32 → Int32 → Int32 → HS → Option (Int32 × HS)) (t : Nat) (x1 : Int32) (x2 : Int32) (x3 : Int32) (σ : HS) : Option (Int32 × HS) :=
    if x2 = ((σ.1 t 20) - 1) then
      rk (σ.2.2 t 35) 15 fun a1 =>
      ck x2 (ln a1) (
      (f_X12_doesFit t (sJ σ a1 x2.toNatClampNeg x3.toInt64)).bind fun q2 =>
      if q2.1 = 0 then
        f_X12_shareFrom_41 rc q2.2
      else
        if x1 < 0 then
          f_X12_shareFrom_37 rc q2.2
        else
          (f_X12_isBestBy t x1 q2.2).bind fun q3 =>
          if q3.1 = 0 then
            f_X12_shareFrom_41 rc q3.2
          else
            f_X12_shareFrom_37 rc q3.2)
    else
      f_X12_shareFrom_49 rc t x1 x2 x3 FU 0 0 σ
def f_X12_shareFrom : Nat → Nat → Int32 → Int32 → Int32 → HS → Option (Int32 × HS)
  | 0, _, _, _, _, _ => none
  | d + 1, t, x1, x2, x3, σ => f_X12_shareFrom_0 (f_X12_shareFrom d) t x1 x2 x3 σ
def w_X12_share : List Cond := Cond.code yX12_share cX12_share 3 (some .int) :: GT
def f_X12_share_28 (σ : HS) : Option (Int32 × HS) :=
    some ((-1), σ)
def f_X12_share_18 (t : Nat) (x1 : Int32) (x2 : Int32) (σ : HS) : Option (Int32 × HS) :=
    (f_X12_within x2 1 20 σ).bind fun q1 =>
    if q1.1 = 0 then
      f_X12_share_28 q1.2
    else
      (f_X12_heard t q1.2).bind fun q2 =>
      (f_X12_laysRows t q2.1 q2.2).bind fun q3 =>
      (f_X12_givesWeights t 0 0 0 0 q3).bind fun q4 =>
      (f_X12_shareFrom DEP t x1 0 x2 q4).bind fun q5 =>
      some (q5.1, q5.2)
def f_X12_share (t : Nat) (x1 : Int32) (x2 : Int32) (σ : HS) : Option (Int32 × HS) :=
    if x1 = (-1) then
      f_X12_share_18 t x1 x2 (sI σ t 0 0)
    else
      (f_X12_isThingIn t x1 (sI σ t 0 0)).bind fun q1 =>
      if q1.1 = 0 then
        f_X12_share_28 q1.2
      else
        f_X12_share_18 t x1 x2 q1.2
def w_X12_sayingsOf : List Cond := Cond.code yX12_sayingsOf cX12_sayingsOf 4 (some .int) :: GT
def f_X12_sayingsOf_36 (r4 : Int32 → Int32 → HS → Option (Int32 × HS)) (t : Nat) (x1 : Int32) (x3 : Int32) (s0 : Int32) (s1 : Int32) (σ : HS) : Option (Int32 × HS) :=
    r4 (s1 ||| s0) (x3 + 1) σ
def f_X12_sayingsOf_4 (t : Nat) (x1 : Int32) : Nat → Int32 → Int32 → HS → Option (Int32 × HS)
  | 0, _, _, _ => none
  | n + 1, x2, x3, σ =>
    rk (σ.2.2 t 13) 14 fun a1 =>
    ck 0 (ln a1) (
    if (σ.1 a1 (0 : Int32).toNatClampNeg) ≤ x3 then
      some (x2, σ)
    else
      rk (σ.2.2 t 14) 14 fun a2 =>
      ck x3 (ln a2) (
      if ((x1 >>> ((σ.1 a2 x3.toNatClampNeg) &&& 31)) &&& 1) = 1 then
        f_X12_sayingsOf_36 (f_X12_sayingsOf_4 t x1 n) t x1 x3 ((1 : Int32) <<< (x3 &&& 31)) x2 σ
      else
        f_X12_sayingsOf_36 (f_X12_sayingsOf_4 t x1 n) t x1 x3 0 x2 σ))
def f_X12_sayingsOf (t : Nat) (x1 : Int32) (σ : HS) : Option (Int32 × HS) :=
    f_X12_sayingsOf_4 t x1 FU 0 0 σ
def w_X12_agree : List Cond := Cond.code yX12_agree cX12_agree 4 (some .int) :: GT
def f_X12_agree_84 (s0 : Int32) (σ : HS) : Option (Int32 × HS) :=
    some (s0, σ)
def f_X12_agree_66 (r20 : Int32 → Int32 → HS → Option (Int32 × HS)) (t : Nat) (x1 : Int32) (x2 : Int32) (x3 : Int32) (σ : HS) : Option (Int32 × HS) :=
    r20 x2 (x3 + 1) σ
def f_X12_agree_65 (r20 : Int32 → Int32 → HS → Option (Int32 × HS)) (t : Nat) (x1 : Int32) (x3 : Int32) (s0 : Int32) (σ : HS) : Option (Int32 × HS) :=
    f_X12_agree_66 r20 t x1 s0 x3 σ
def f_X12_agree_20 (t : Nat) (x1 : Int32) : Nat → Int32 → Int32 → HS → Option (Int32 × HS)
  | 0, _, _, _ => none
  | n + 1, x2, x3, σ =>
    if 256 ≤ x3 then
      if x1 = 0 then
        (f_X12_bits x2 σ).bind fun q1 =>
        f_X12_agree_84 q1.1 q1.2
      else
        f_X12_agree_84 x2 σ
    else
      (f_X12_bits x3 σ).bind fun q2 =>
      (f_X12_bits x2 q2.2).bind fun q3 =>
      if q2.1 ≤ q3.1 then
        f_X12_agree_66 (f_X12_agree_20 t x1 n) t x1 x2 x3 q3.2
      else
        (f_X12_sayingsOf t x3 q3.2).bind fun q4 =>
        (f_X12_laysRows t q4.1 q4.2).bind fun q5 =>
        (f_X12_findCorners t q5).bind fun q6 =>
        rk (q6.2.2 t 28) 14 fun a7 =>
        ck 0 (ln a7) (
        if (q6.1 a7 (0 : Int32).toNatClampNeg) ≤ 0 then
          f_X12_agree_65 (f_X12_agree_20 t x1 n) t x1 x3 x2 q6
        else
          f_X12_agree_65 (f_X12_agree_20 t x1 n) t x1 x3 x3 q6)
def f_X12_agree (t : Nat) (x1 : Int32) (σ : HS) : Option (Int32 × HS) :=
    (f_X12_within x1 0 1 (sI σ t 0 0)).bind fun q1 =>
    if q1.1 = 0 then
      some ((-1), q1.2)
    else
      f_X12_agree_20 t x1 FU 0 0 q1.2
def w_X12_yields : List Cond := Cond.code yX12_yields cX12_yields 4 (some .int) :: GT
def f_X12_yields_122 (s0 : Int32) (σ : HS) : Option (Int32 × HS) :=
    some (s0, σ)
def f_X12_yields_96 (r20 : Int32 → Int32 → HS → Option (Int32 × HS)) (t : Nat) (x1 : Int32) (x2 : Int32) (x3 : Int32) (σ : HS) : Option (Int32 × HS) :=
    r20 x2 (x3 + 1) σ
def f_X12_yields_95 (r20 : Int32 → Int32 → HS → Option (Int32 × HS)) (t : Nat) (x1 : Int32) (x3 : Int32) (s0 : Int32) (σ : HS) : Option (Int32 × HS) :=
    f_X12_yields_96 r20 t x1 s0 x3 σ
def f_X12_yields_94 (r20 : Int32 → Int32 → HS → Option (Int32 × HS)) (t : Nat) (x1 : Int32) (x2 : Int32) (x3 : Int32) (σ : HS) : Option (Int32 × HS) :=
    f_X12_yields_95 r20 t x1 x3 x2 σ
def f_X12_yields_53 (r20 : Int32 → Int32 → HS → Option (Int32 × HS)) (t : Nat) (x1 : Int32) (x2 : Int32) (x3 : Int32) (σ : HS) : Option (Int32 × HS) :=
    (f_X12_sayingsOf t ((σ.1 t 23) &&& (x3 ^^^ (-1))) σ).bind fun q1 =>
    (f_X12_laysRows t q1.1 q1.2).bind fun q2 =>
    (f_X12_findCorners t q2).bind fun q3 =>
    rk (q3.2.2 t 28) 14 fun a4 =>
    ck 0 (ln a4) (
    if (q3.1 a4 (0 : Int32).toNatClampNeg) ≤ 0 then
      f_X12_yields_94 r20 t x1 x2 x3 q3
    else
      (f_X12_sureBest t 0 q3).bind fun q5 =>
      if q5.1 = 0 then
        f_X12_yields_94 r20 t x1 x2 x3 q5.2
      else
        f_X12_yields_95 r20 t x1 x3 x3 q5.2)
def f_X12_yields_20 (t : Nat) (x1 : Int32) : Nat → Int32 → Int32 → HS → Option (Int32 × HS)
  | 0, _, _, _ => none
  | n + 1, x2, x3, σ =>
    if 256 ≤ x3 then
      if 0 ≤ x2 then
        if x1 = 0 then
          (f_X12_bits x2 σ).bind fun q1 =>
          f_X12_yields_122 q1.1 q1.2
        else
          f_X12_yields_122 x2 σ
      else
        f_X12_yields_122 (-1) σ
    else
      if (x3 &&& ((σ.1 t 23) ^^^ (-1))) = 0 then
        if x2 < 0 then
          f_X12_yields_53 (f_X12_yields_20 t x1 n) t x1 x2 x3 σ
        else
          (f_X12_bits x3 σ).bind fun q2 =>
          (f_X12_bits x2 q2.2).bind fun q3 =>
          if q3.1 ≤ q2.1 then
            f_X12_yields_96 (f_X12_yields_20 t x1 n) t x1 x2 x3 q3.2
          else
            f_X12_yields_53 (f_X12_yields_20 t x1 n) t x1 x2 x3 q3.2
      else
        f_X12_yields_96 (f_X12_yields_20 t x1 n) t x1 x2 x3 σ
def f_X12_yields (t : Nat) (x1 : Int32) (σ : HS) : Option (Int32 × HS) :=
    (f_X12_within x1 0 1 (sI σ t 0 0)).bind fun q1 =>
    if q1.1 = 0 then
      some ((-1), q1.2)
    else
      f_X12_yields_20 t x1 FU (-1) 0 q1.2
def w_X12_row : List Cond := Cond.code yX12_row cX12_row 4 (some .boolean) :: GT
def f_X12_row_85 (x2 : Int32) (σ : HS) : Option (Int32 × HS) :=
    zr x2 σ
def f_X12_row_54 (r27 : Int32 → Int32 → HS → Option (Int32 × HS)) (t : Nat) (x1 : Int32) (x3 : Int32) (s0 : Int32) (σ : HS) : Option (Int32 × HS) :=
    r27 s0 (x3 + 1) σ
def f_X12_row_53 (r27 : Int32 → Int32 → HS → Option (Int32 × HS)) (t : Nat) (x1 : Int32) (x3 : Int32) (σ : HS) : Option (Int32 × HS) :=
    f_X12_row_54 r27 t x1 x3 0 σ
def f_X12_row_27 (t : Nat) (x1 : Int32) : Nat → Int32 → Int32 → HS → Option (Int32 × HS)
  | 0, _, _, _ => none
  | n + 1, x2, x3, σ =>
    if (σ.1 t 24) ≤ x3 then
      if x2 = 0 then
        f_X12_row_85 x2 σ
      else
        rk (σ.2.2 t 25) 14 fun a1 =>
        ck (σ.1 t 24) (ln a1) (
        f_X12_row_85 x2 (sI (sI σ a1 (σ.1 t 24).toNatClampNeg x1) t 24 (((sI σ a1 (σ.1 t 24).toNatClampNeg x1).1 t 24) + 1)))
    else
      if x2 = 0 then
        f_X12_row_53 (f_X12_row_27 t x1 n) t x1 x3 σ
      else
        rk (σ.2.2 t 25) 14 fun a2 =>
        ck x3 (ln a2) (
        if (σ.1 a2 x3.toNatClampNeg) = x1 then
          f_X12_row_53 (f_X12_row_27 t x1 n) t x1 x3 σ
        else
          f_X12_row_54 (f_X12_row_27 t x1 n) t x1 x3 1 σ)
def f_X12_row (t : Nat) (x1 : Int32) (σ : HS) : Option (Int32 × HS) :=
    if x1 = (-1) then
      some (1, sI (sI σ t 0 0) t 24 0)
    else
      (f_X12_within x1 0 7 (sI σ t 0 0)).bind fun q1 =>
      f_X12_row_27 t x1 FU q1.1 0 q1.2
def w_X12_judged : List Cond := Cond.code yX12_judged cX12_judged 3 (some .int) :: GT
def f_X12_judged_21 (σ : HS) : Option (Int32 × HS) :=
    some ((-1), σ)
def f_X12_judged_121 (s0 : Int32) (σ : HS) : Option (Int32 × HS) :=
    some (s0, σ)
def f_X12_judged_105 (s0 : Int32) (σ : HS) : Option (Int32 × HS) :=
    some (s0, σ)
def f_X12_judged_56 (t : Nat) (x1 : Int32) : Nat → Int32 → HS → Option (Int32 × HS)
  | 0, _, _ => none
  | n + 1, x2, σ =>
    if (σ.1 t 24) ≤ x2 then
      if x1 = 0 then
        f_X12_judged_121 1 σ
      else
        f_X12_judged_121 (-1) σ
    else
      rk (σ.2.2 t 25) 14 fun a1 =>
      ck (x2 - 1) (ln a1) (
      rk (σ.2.2 t 25) 14 fun a2 =>
      ck x2 (ln a2) (
      (f_X12_addsAbove t (σ.1 a1 (x2 - 1).toNatClampNeg) (σ.1 a2 x2.toNatClampNeg) σ).bind fun q3 =>
      (f_X12_findMore t x2 q3).bind fun q4 =>
      rk (q4.2.2 t 28) 14 fun a5 =>
      ck x2 (ln a5) (
      if (q4.1 a5 x2.toNatClampNeg) = 0 then
        if x1 = 0 then
          f_X12_judged_105 0 q4
        else
          f_X12_judged_105 x2 q4
      else
        (f_X12_judged_56 t x1 n) (x2 + 1) q4)))
def f_X12_judged_25 (t : Nat) (x1 : Int32) : Nat → Int32 → HS → Option (Int32 × HS)
  | 0, _, _ => none
  | n + 1, x2, σ =>
    if (σ.1 t 24) ≤ x2 then
      f_X12_judged_56 t x1 FU 1 σ
    else
      rk (σ.2.2 t 25) 14 fun a1 =>
      ck x2 (ln a1) (
      (f_X12_isIn t (σ.1 a1 x2.toNatClampNeg) σ).bind fun q2 =>
      if q2.1 = 0 then
        some ((-1), q2.2)
      else
        (f_X12_judged_25 t x1 n) (x2 + 1) q2.2)
def f_X12_judged (t : Nat) (x1 : Int32) (σ : HS) : Option (Int32 × HS) :=
    (f_X12_within x1 0 1 (sI σ t 0 0)).bind fun q1 =>
    if q1.1 = 0 then
      f_X12_judged_21 q1.2
    else
      (f_X12_findNow t q1.2).bind fun q2 =>
      if q2.1 = 0 then
        f_X12_judged_21 q2.2
      else
        f_X12_judged_25 t x1 FU 0 q2.2
def w_X12_worst : List Cond := Cond.code yX12_worst cX12_worst 6 (some .int) :: GT
def f_X12_worst_114 (r11 : Int32 → Int32 → Int32 → HS → Option (Int32 × HS)) (t : Nat) (x1 : Int32) (x2 : Int32) (x3 : Int32) (σ : HS) : Option (Int32 × HS) :=
    r11 x1 x2 (x3 + 1) σ
def f_X12_worst_113 (r11 : Int32 → Int32 → Int32 → HS → Option (Int32 × HS)) (t : Nat) (x2 : Int32) (x3 : Int32) (s0 : Int32) (σ : HS) : Option (Int32 × HS) :=
    f_X12_worst_114 r11 t s0 x2 x3 σ
def f_X12_worst_100 (r11 : Int32 → Int32 → Int32 → HS → Option (Int32 × HS)) (t : Nat) (x1 : Int32) (x3 : Int32) (x4 : Int32) (s0 : Int32) (σ : HS) : Option (Int32 × HS) :=
    if x4 ≤ x1 then
      f_X12_worst_113 r11 t s0 x3 x1 σ
    else
      f_X12_worst_113 r11 t s0 x3 x4 σ
def f_X12_worst_65 (r11 : Int32 → Int32 → Int32 → HS → Option (Int32 × HS)) (r32 : Int32 → Int32 → HS → Option (Int32 × HS)) (t : Nat) (x1 : Int32) (x2 : Int32) (x3 : Int32) (x5 : Int32) (s0 : Int32) (σ : HS) : Option (Int32 × HS) :=
    r32 s0 (x5 + 1) σ
def f_X12_worst_32 (t : Nat) (x1 : Int32) (x2 : Int32) (x3 : Int32) (r11 : Int32 → Int32 → Int32 → HS → Option (Int32 × HS)) : Nat → Int32 → Int32 → HS → Option (Int32 × HS)
  | 0, _, _, _ => none
  | n + 1, x4, x5, σ =>
    if (σ.1 t 20) ≤ x5 then
      if x4 ≤ x1 then
        if x4 = x1 then
          f_X12_worst_100 r11 t x1 x3 x4 (x2 ||| ((1 : Int32) <<< (x3 &&& 31))) σ
        else
          f_X12_worst_100 r11 t x1 x3 x4 x2 σ
      else
        f_X12_worst_100 r11 t x1 x3 x4 ((1 : Int32) <<< (x3 &&& 31)) σ
    else
      (f_X12_valueOf t x3 x5 σ).bind fun q1 =>
      if x4 ≤ q1.1 then
        f_X12_worst_65 r11 (f_X12_worst_32 t x1 x2 x3 r11 n) t x1 x2 x3 x5 x4 q1.2
      else
        (f_X12_valueOf t x3 x5 q1.2).bind fun q2 =>
        f_X12_worst_65 r11 (f_X12_worst_32 t x1 x2 x3 r11 n) t x1 x2 x3 x5 q2.1 q2.2
def f_X12_worst_11 (t : Nat) : Nat → Int32 → Int32 → Int32 → HS → Option (Int32 × HS)
  | 0, _, _, _, _ => none
  | n + 1, x1, x2, x3, σ =>
    if 8 ≤ x3 then
      some (x2, σ)
    else
      (f_X12_isIn t x3 σ).bind fun q1 =>
      if q1.1 = 0 then
        f_X12_worst_114 (f_X12_worst_11 t n) t x1 x2 x3 q1.2
      else
        f_X12_worst_32 t x1 x2 x3 (f_X12_worst_11 t n) FU 100 0 q1.2
def f_X12_worst (t : Nat) (σ : HS) : Option (Int32 × HS) :=
    f_X12_worst_11 t FU (-1) 0 0 (sI σ t 0 0)
def w_X12_bestOf : List Cond := Cond.code yX12_bestOf cX12_bestOf 7 (some .int) :: GT
def f_X12_bestOf_80 (r8 : Int32 → Int32 → Int32 → HS → Option (Int32 × HS)) (t : Nat) (x1 : Int32) (x2 : Int32) (x3 : Int32) (x4 : Int32) (x5 : Int32) (σ : HS) : Option (Int32 × HS) :=
    r8 x3 x4 (x5 + 1) σ
def f_X12_bestOf_79 (r8 : Int32 → Int32 → Int32 → HS → Option (Int32 × HS)) (t : Nat) (x1 : Int32) (x2 : Int32) (x4 : Int32) (x5 : Int32) (s0 : Int32) (σ : HS) : Option (Int32 × HS) :=
    f_X12_bestOf_80 r8 t x1 x2 s0 x4 x5 σ
def f_X12_bestOf_65 (r8 : Int32 → Int32 → Int32 → HS → Option (Int32 × HS)) (t : Nat) (x1 : Int32) (x2 : Int32) (x3 : Int32) (x5 : Int32) (x6 : Int32) (s0 : Int32) (σ : HS) : Option (Int32 × HS) :=
    if x6 ≤ x3 then
      f_X12_bestOf_79 r8 t x1 x2 s0 x5 x3 σ
    else
      f_X12_bestOf_79 r8 t x1 x2 s0 x5 x6 σ
def f_X12_bestOf_8 (t : Nat) (x1 : Int32) (x2 : Int32) : Nat → Int32 → Int32 → Int32 → HS → Option (Int32 × HS)
  | 0, _, _, _, _ => none
  | n + 1, x3, x4, x5, σ =>
    if 8 ≤ x5 then
      some (x4, σ)
    else
      if ((x1 >>> (x5 &&& 31)) &&& 1) = 1 then
        (f_X12_valueOf t x5 x2 σ).bind fun q1 =>
        if q1.1 ≤ x3 then
          if q1.1 = x3 then
            f_X12_bestOf_65 (f_X12_bestOf_8 t x1 x2 n) t x1 x2 x3 x5 q1.1 (x4 ||| ((1 : Int32) <<< (x5 &&& 31))) q1.2
          else
            f_X12_bestOf_65 (f_X12_bestOf_8 t x1 x2 n) t x1 x2 x3 x5 q1.1 x4 q1.2
        else
          f_X12_bestOf_65 (f_X12_bestOf_8 t x1 x2 n) t x1 x2 x3 x5 q1.1 ((1 : Int32) <<< (x5 &&& 31)) q1.2
      else
        f_X12_bestOf_80 (f_X12_bestOf_8 t x1 x2 n) t x1 x2 x3 x4 x5 σ
def f_X12_bestOf (t : Nat) (x1 : Int32) (x2 : Int32) (σ : HS) : Option (Int32 × HS) :=
    f_X12_bestOf_8 t x1 x2 FU (-1) 0 0 σ
def w_X12_first : List Cond := Cond.code yX12_first cX12_first 6 (some .int) :: GT
def f_X12_first_137 (t : Nat) : Nat → Int32 → Int32 → HS → Option (Int32 × HS)
  | 0, _, _, _ => none
  | n + 1, x4, x5, σ =>
    if (σ.1 t 20) ≤ x5 then
      some (x4, σ)
    else
      rk (σ.2.2 t 35) 15 fun a1 =>
      ck x5 (ln a1) (
      (f_X12_bestOf t x4 ((σ.2.1 a1 x5.toNatClampNeg).toInt32) σ).bind fun q2 =>
      (f_X12_first_137 t n) q2.1 (x5 + 1) q2.2)
def f_X12_first_125 (r99 : Int32 → Int32 → HS → Option (Int32 × HS)) (t : Nat) (x5 : Int32) (s0 : Int32) (s1 : Int32) (σ : HS) : Option (Int32 × HS) :=
    r99 (s1 ||| s0) (x5 + 1) σ
def f_X12_first_99 (t : Nat) : Nat → Int32 → Int32 → HS → Option (Int32 × HS)
  | 0, _, _, _ => none
  | n + 1, x4, x5, σ =>
    if 8 ≤ x5 then
      f_X12_first_137 t FU x4 0 σ
    else
      (f_X12_isIn t x5 σ).bind fun q1 =>
      if q1.1 = 0 then
        f_X12_first_125 (f_X12_first_99 t n) t x5 0 x4 q1.2
      else
        f_X12_first_125 (f_X12_first_99 t n) t x5 ((1 : Int32) <<< (x5 &&& 31)) x4 q1.2
def f_X12_first_50 (σ : HS) : Option (Int32 × HS) :=
    some ((-1), σ)
def f_X12_first_12 (t : Nat) (x1 : Int32) : Nat → Int32 → Int32 → Int32 → HS → Option (Int32 × HS)
  | 0, _, _, _, _ => none
  | n + 1, x2, x3, x4, σ =>
    if (σ.1 t 20) ≤ x4 then
      if x3 ≤ 0 then
        f_X12_first_99 t FU 0 0 σ
      else
        some ((-1), σ)
    else
      if x1 < 0 then
        f_X12_first_50 σ
      else
        if (σ.1 t 20) ≤ (x3 - x3 / 10 * 10) then
          f_X12_first_50 σ
        else
          if ((x2 >>> ((x3 - x3 / 10 * 10) &&& 31)) &&& 1) = 1 then
            f_X12_first_50 σ
          else
            rk (σ.2.2 t 35) 15 fun a1 =>
            ck (((σ.1 t 20) - 1) - x4) (ln a1) (
            (f_X12_first_12 t x1 n) (x2 ||| ((1 : Int32) <<< ((x3 - x3 / 10 * 10) &&& 31))) (x3 / 10) (x4 + 1) (sJ σ a1 (((σ.1 t 20) - 1) - x4).toNatClampNeg ((x3 - x3 / 10 * 10).toInt64)))
def f_X12_first (t : Nat) (x1 : Int32) (σ : HS) : Option (Int32 × HS) :=
    f_X12_first_12 t x1 FU 0 x1 0 (sI σ t 0 0)
def w_X12_outdoes : List Cond := Cond.code yX12_outdoes cX12_outdoes 8 (some .boolean) :: GT
def f_X12_outdoes_61 (r3 : Int32 → HS → Option (Int32 × HS)) (r20 : Int64 → Int32 → HS → Option (Int32 × HS)) (t : Nat) (x1 : Int32) (x2 : Int32) (x3 : Int32) (x4 : Int32) (x7 : Int32) (s0 : Int64) (s1 : Int64) (σ : HS) : Option (Int32 × HS) :=
    r20 (s1 + s0) (x7 + 1) σ
def f_X12_outdoes_20 (t : Nat) (x1 : Int32) (x2 : Int32) (x3 : Int32) (x4 : Int32) (r3 : Int32 → HS → Option (Int32 × HS)) : Nat → Int64 → Int32 → HS → Option (Int32 × HS)
  | 0, _, _, _ => none
  | n + 1, x5, x7, σ =>
    if (σ.1 t 20) ≤ x7 then
      (f_X12_sumAt t 0 x4 σ).bind fun q1 =>
      if (x3.toInt64 * q1.1) ≤ ((100 : Int64) * x5) then
        r3 (x4 + 1) q1.2
      else
        some (0, q1.2)
    else
      (f_X12_valueOf t x1 x7 σ).bind fun q2 =>
      (f_X12_valueOf t x2 x7 q2.2).bind fun q3 =>
      if q2.1 < q3.1 then
        f_X12_outdoes_61 r3 (f_X12_outdoes_20 t x1 x2 x3 x4 r3 n) t x1 x2 x3 x4 x7 0 x5 q3.2
      else
        (f_X12_weightAt t 0 x4 x7 q3.2).bind fun q4 =>
        f_X12_outdoes_61 r3 (f_X12_outdoes_20 t x1 x2 x3 x4 r3 n) t x1 x2 x3 x4 x7 q4.1 x5 q4.2
def f_X12_outdoes_3 (t : Nat) (x1 : Int32) (x2 : Int32) (x3 : Int32) : Nat → Int32 → HS → Option (Int32 × HS)
  | 0, _, _ => none
  | n + 1, x4, σ =>
    rk (σ.2.2 t 28) 14 fun a1 =>
    ck 0 (ln a1) (
    if (σ.1 a1 (0 : Int32).toNatClampNeg) ≤ x4 then
      some (1, σ)
    else
      f_X12_outdoes_20 t x1 x2 x3 x4 (f_X12_outdoes_3 t x1 x2 x3 n) FU 0 0 σ)
def f_X12_outdoes (t : Nat) (x1 : Int32) (x2 : Int32) (x3 : Int32) (σ : HS) : Option (Int32 × HS) :=
    f_X12_outdoes_3 t x1 x2 x3 FU 0 σ
def w_X12_many : List Cond := Cond.code yX12_many cX12_many 6 (some .int) :: GT
def f_X12_many_22 (σ : HS) : Option (Int32 × HS) :=
    some ((-1), σ)
def f_X12_many_119 (r28 : Int32 → Int32 → HS → Option (Int32 × HS)) (t : Nat) (x1 : Int32) (x3 : Int32) (s0 : Int32) (s1 : Int32) (σ : HS) : Option (Int32 × HS) :=
    r28 (s1 ||| s0) (x3 + 1) σ
def f_X12_many_98 (r28 : Int32 → Int32 → HS → Option (Int32 × HS)) (r44 : Int32 → Int32 → HS → Option (Int32 × HS)) (t : Nat) (x1 : Int32) (x2 : Int32) (x3 : Int32) (x5 : Int32) (s0 : Int32) (σ : HS) : Option (Int32 × HS) :=
    r44 s0 (x5 + 1) σ
def f_X12_many_97 (r28 : Int32 → Int32 → HS → Option (Int32 × HS)) (r44 : Int32 → Int32 → HS → Option (Int32 × HS)) (t : Nat) (x1 : Int32) (x2 : Int32) (x3 : Int32) (x5 : Int32) (σ : HS) : Option (Int32 × HS) :=
    f_X12_many_98 r28 r44 t x1 x2 x3 x5 0 σ
def f_X12_many_93 (r28 : Int32 → Int32 → HS → Option (Int32 × HS)) (r44 : Int32 → Int32 → HS → Option (Int32 × HS)) (t : Nat) (x1 : Int32) (x2 : Int32) (x3 : Int32) (x5 : Int32) (σ : HS) : Option (Int32 × HS) :=
    f_X12_many_98 r28 r44 t x1 x2 x3 x5 1 σ
def f_X12_many_44 (t : Nat) (x1 : Int32) (x2 : Int32) (x3 : Int32) (r28 : Int32 → Int32 → HS → Option (Int32 × HS)) : Nat → Int32 → Int32 → HS → Option (Int32 × HS)
  | 0, _, _, _ => none
  | n + 1, x4, x5, σ =>
    if 8 ≤ x5 then
      if x4 = 0 then
        f_X12_many_119 r28 t x1 x3 0 x2 σ
      else
        f_X12_many_119 r28 t x1 x3 ((1 : Int32) <<< (x3 &&& 31)) x2 σ
    else
      if x4 = 0 then
        f_X12_many_97 r28 (f_X12_many_44 t x1 x2 x3 r28 n) t x1 x2 x3 x5 σ
      else
        if x5 = x3 then
          f_X12_many_93 r28 (f_X12_many_44 t x1 x2 x3 r28 n) t x1 x2 x3 x5 σ
        else
          (f_X12_isIn t x5 σ).bind fun q1 =>
          if q1.1 = 0 then
            f_X12_many_93 r28 (f_X12_many_44 t x1 x2 x3 r28 n) t x1 x2 x3 x5 q1.2
          else
            (f_X12_outdoes t x5 x3 x1 q1.2).bind fun q2 =>
            if q2.1 = 0 then
              f_X12_many_93 r28 (f_X12_many_44 t x1 x2 x3 r28 n) t x1 x2 x3 x5 q2.2
            else
              (f_X12_outdoes t x3 x5 x1 q2.2).bind fun q3 =>
              if q3.1 = 0 then
                f_X12_many_97 r28 (f_X12_many_44 t x1 x2 x3 r28 n) t x1 x2 x3 x5 q3.2
              else
                f_X12_many_93 r28 (f_X12_many_44 t x1 x2 x3 r28 n) t x1 x2 x3 x5 q3.2
def f_X12_many_28 (t : Nat) (x1 : Int32) : Nat → Int32 → Int32 → HS → Option (Int32 × HS)
  | 0, _, _, _ => none
  | n + 1, x2, x3, σ =>
    if 8 ≤ x3 then
      some (x2, σ)
    else
      (f_X12_isIn t x3 σ).bind fun q1 =>
      f_X12_many_44 t x1 x2 x3 (f_X12_many_28 t x1 n) FU q1.1 0 q1.2
def f_X12_many (t : Nat) (x1 : Int32) (σ : HS) : Option (Int32 × HS) :=
    (f_X12_within x1 1 100 (sI σ t 0 0)).bind fun q1 =>
    if q1.1 = 0 then
      f_X12_many_22 q1.2
    else
      (f_X12_findNow t q1.2).bind fun q2 =>
      if q2.1 = 0 then
        f_X12_many_22 q2.2
      else
        f_X12_many_28 t x1 FU 0 0 q2.2
def w_X12_toldMany : List Cond := Cond.code yX12_toldMany cX12_toldMany 3 (some .int) :: GT
def f_X12_toldMany_25 (r4 : Int32 → Int32 → HS → Option (Int32 × HS)) (t : Nat) (x2 : Int32) (s0 : Int32) (s1 : Int32) (σ : HS) : Option (Int32 × HS) :=
    r4 (s1 + s0) (x2 + 1) σ
def f_X12_toldMany_4 (t : Nat) : Nat → Int32 → Int32 → HS → Option (Int32 × HS)
  | 0, _, _, _ => none
  | n + 1, x1, x2, σ =>
    if 8 ≤ x2 then
      some (x1, σ)
    else
      rk (σ.2.2 t 21) 16 fun a1 =>
      ck x2 (ln a1) (
      if (σ.1 a1 x2.toNatClampNeg) = 0 then
        f_X12_toldMany_25 (f_X12_toldMany_4 t n) t x2 0 x1 σ
      else
        f_X12_toldMany_25 (f_X12_toldMany_4 t n) t x2 1 x1 σ)
def f_X12_toldMany (t : Nat) (σ : HS) : Option (Int32 × HS) :=
    f_X12_toldMany_4 t FU 0 0 σ
def w_X12_count : List Cond := Cond.code yX12_count cX12_count 2 (some .int) :: GT
def f_X12_count_104 (s0 : Int32) (σ : HS) : Option (Int32 × HS) :=
    some (s0, σ)
def f_X12_count (t : Nat) (x1 : Int32) (σ : HS) : Option (Int32 × HS) :=
    if x1 = 0 then
      some ((sI σ t 0 0).1 t 20, sI σ t 0 0)
    else if x1 = 1 then
      (f_X12_toldMany t (sI σ t 0 0)).bind fun q1 =>
      some (q1.1, q1.2)
    else if x1 = 2 then
      (f_X12_inMany t (sI σ t 0 0)).bind fun q2 =>
      some (q2.1, q2.2)
    else if x1 = 3 then
      rk ((sI σ t 0 0).2.2 t 13) 14 fun a3 =>
      ck 0 (ln a3) (
      some ((sI σ t 0 0).1 a3 (0 : Int32).toNatClampNeg, sI σ t 0 0))
    else if x1 = 4 then
      (f_X12_heard t (sI σ t 0 0)).bind fun q4 =>
      (f_X12_bits q4.1 q4.2).bind fun q5 =>
      some (q5.1, q5.2)
    else if x1 = 5 then
      some ((sI σ t 0 0).1 t 2, sI σ t 0 0)
    else if x1 = 6 then
      (f_X12_findNow t (sI σ t 0 0)).bind fun q6 =>
      if q6.1 = 0 then
        f_X12_count_104 0 q6.2
      else
        rk (q6.2.2.2 t 28) 14 fun a7 =>
        ck 0 (ln a7) (
        f_X12_count_104 (q6.2.1 a7 (0 : Int32).toNatClampNeg) q6.2)
    else if x1 = 7 then
      some ((sI σ t 0 0).1 t 24, sI σ t 0 0)
    else 
    some ((-1), sI σ t 0 0)

def f_X12_thrown (t : Nat) (σ : HS) : Option (Int32 × HS) :=
    some (σ.1 t 0, σ)
def f_X12_lay_69 (r3 : Int32 → HS → Option HS) (t : Nat) (x1 : Int64) (x3 : Int32) (σ : HS) : Option HS :=
    r3 (x3 + (-8)) σ
def f_X12_lay_38 (r3 : Int32 → HS → Option HS) (t : Nat) (x1 : Int64) (x3 : Int32) (x4 : Int32) (σ : HS) : Option HS :=
    if 1000 ≤ (σ.1 t 2) then
      f_X12_lay_69 r3 t x1 x3 σ
    else
      rk (σ.2.2 t 1) 14 fun a1 =>
      ck (σ.1 t 2) (ln a1) (
      f_X12_lay_69 r3 t x1 x3 (sI (sI σ a1 (σ.1 t 2).toNatClampNeg x4) t 2 (((sI σ a1 (σ.1 t 2).toNatClampNeg x4).1 t 2) + 1)))
def f_X12_lay_3 (t : Nat) (x1 : Int64) : Nat → Int32 → HS → Option HS
  | 0, _, _ => none
  | n + 1, x3, σ =>
    if x3 < 0 then
      some σ
    else
      if (((x1 >>> (x3.toInt64 &&& 63)).toInt32) &&& 255) = 10 then
        f_X12_lay_38 (f_X12_lay_3 t x1 n) t x1 x3 (((x1 >>> (x3.toInt64 &&& 63)).toInt32) &&& 255) σ
      else
        if (((x1 >>> (x3.toInt64 &&& 63)).toInt32) &&& 255) < 32 then
          f_X12_lay_69 (f_X12_lay_3 t x1 n) t x1 x3 σ
        else
          if 126 < (((x1 >>> (x3.toInt64 &&& 63)).toInt32) &&& 255) then
            f_X12_lay_69 (f_X12_lay_3 t x1 n) t x1 x3 σ
          else
            f_X12_lay_38 (f_X12_lay_3 t x1 n) t x1 x3 (((x1 >>> (x3.toInt64 &&& 63)).toInt32) &&& 255) σ
def f_X12_lay (t : Nat) (x1 : Int64) (σ : HS) : Option HS :=
    f_X12_lay_3 t x1 FU 56 σ
def f_X12_feed (t : Nat) (x1 : Int64) (x3 : Int64) (x5 : Int64) (σ : HS) : Option (Int32 × HS) :=
    (f_X12_lay t x1 (sI σ t 0 0)).bind fun q1 =>
    (f_X12_lay t x3 q1).bind fun q2 =>
    (f_X12_lay t x5 q2).bind fun q3 =>
    some (q3.1 t 2, q3)
def f_X12_forgetsChoice_9 (t : Nat) (x1 : Int32) : Nat → Int32 → HS → Option HS
  | 0, _, _ => none
  | n + 1, x2, σ =>
    if 4 ≤ x2 then
      some σ
    else
      rk (σ.2.2 t 10) 16 fun a1 =>
      ck (((4 : Int32) * x1) + x2) (ln a1) (
      rk ((sI σ a1 (((4 : Int32) * x1) + x2).toNatClampNeg (0 &&& 1)).2.2 t 11) 14 fun a2 =>
      ck (((4 : Int32) * x1) + x2) (ln a2) (
      rk ((sI (sI σ a1 (((4 : Int32) * x1) + x2).toNatClampNeg (0 &&& 1)) a2 (((4 : Int32) * x1) + x2).toNatClampNeg (-1)).2.2 t 12) 14 fun a3 =>
      ck (((4 : Int32) * x1) + x2) (ln a3) (
      (f_X12_forgetsChoice_9 t x1 n) (x2 + 1) (sI (sI (sI σ a1 (((4 : Int32) * x1) + x2).toNatClampNeg (0 &&& 1)) a2 (((4 : Int32) * x1) + x2).toNatClampNeg (-1)) a3 (((4 : Int32) * x1) + x2).toNatClampNeg (-1)))))
def f_X12_forgetsChoice (t : Nat) (x1 : Int32) (σ : HS) : Option HS :=
    rk (σ.2.2 t 13) 14 fun a1 =>
    ck x1 (ln a1) (
    f_X12_forgetsChoice_9 t x1 FU 0 (sI σ a1 x1.toNatClampNeg 0))
def f_X12_clears_7 (t : Nat) : Nat → Int32 → HS → Option HS
  | 0, _, _ => none
  | n + 1, x2, σ =>
    if 8 ≤ x2 then
      (f_X12_forgetsChoice t 0 σ).bind fun q1 =>
      some (sI (sI q1 t 23 255) t 24 0)
    else
      rk (σ.2.2 t 21) 16 fun a2 =>
      ck x2 (ln a2) (
      (f_X12_clears_7 t n) (x2 + 1) (sI σ a2 x2.toNatClampNeg (0 &&& 1)))
def f_X12_clears (t : Nat) (x1 : Int32) (σ : HS) : Option HS :=
    f_X12_clears_7 t FU 0 (sI σ t 20 x1)
def f_X12_isLetter_17 (s0 : Int32) (σ : HS) : Option (Int32 × HS) :=
    zr s0 σ
def f_X12_isLetter_16 (σ : HS) : Option (Int32 × HS) :=
    f_X12_isLetter_17 0 σ
def f_X12_isLetter (x0 : Int32) (σ : HS) : Option (Int32 × HS) :=
    if x0 < 97 then
      f_X12_isLetter_16 σ
    else
      if 122 < x0 then
        f_X12_isLetter_16 σ
      else
        f_X12_isLetter_17 1 σ
def f_X12_isDigit_17 (s0 : Int32) (σ : HS) : Option (Int32 × HS) :=
    zr s0 σ
def f_X12_isDigit_16 (σ : HS) : Option (Int32 × HS) :=
    f_X12_isDigit_17 0 σ
def f_X12_isDigit (x0 : Int32) (σ : HS) : Option (Int32 × HS) :=
    if x0 < 48 then
      f_X12_isDigit_16 σ
    else
      if 57 < x0 then
        f_X12_isDigit_16 σ
      else
        f_X12_isDigit_17 1 σ
def f_X12_rank_18 (s0 : Int32) (σ : HS) : Option (Int32 × HS) :=
    some (s0, σ)
def f_X12_rank (x0 : Int32) (σ : HS) : Option (Int32 × HS) :=
    (f_X12_isLetter x0 σ).bind fun q1 =>
    if q1.1 = 0 then
      f_X12_rank_18 (x0 - 21) q1.2
    else
      f_X12_rank_18 (x0 - 96) q1.2
def f_X12_isSignOf_11 (s0 : Int32) (σ : HS) : Option (Int32 × HS) :=
    zr s0 σ
def f_X12_isSignOf (x0 : Int32) (σ : HS) : Option (Int32 × HS) :=
    if x0 = 59 then
      f_X12_isSignOf_11 1 σ
    else
      f_X12_isSignOf_11 0 σ
def f_X12_cutAll_44 (r17 : Int32 → Int32 → HS → Option HS) (t : Nat) (x1 : Int32) (x2 : Int32) (σ : HS) : Option HS :=
    r17 x1 (x2 + 1) σ
def f_X12_cutAll_265 (r17 : Int32 → Int32 → HS → Option HS) (t : Nat) (x1 : Int32) (x2 : Int32) (x5 : Int64) (σ : HS) : Option HS :=
    rk (σ.2.2 t 6) 15 fun a1 =>
    ck x1 (ln a1) (
    r17 (x1 + 1) x2 (sJ σ a1 x1.toNatClampNeg x5))
def f_X12_cutAll_261 (r17 : Int32 → Int32 → HS → Option HS) (t : Nat) (x1 : Int32) (x2 : Int32) (x5 : Int64) (s0 : Int32) (s1 : Int32) (s2 : Nat) (σ : HS) : Option HS :=
    ck s1 (ln s2) (
    f_X12_cutAll_265 r17 t x1 (x2 + 1) x5 (sI σ s2 s1.toNatClampNeg s0))
def f_X12_cutAll_236 (r17 : Int32 → Int32 → HS → Option HS) (t : Nat) (x1 : Int32) (x2 : Int32) (x5 : Int64) (s0 : Int32) (s1 : Int32) (s2 : Nat) (σ : HS) : Option HS :=
    ck s1 (ln s2) (
    f_X12_cutAll_265 r17 t x1 x2 x5 (sI σ s2 s1.toNatClampNeg s0))
def f_X12_cutAll_218 (r17 : Int32 → Int32 → HS → Option HS) (t : Nat) (x1 : Int32) (x2 : Int32) (x4 : Int32) (x5 : Int64) (σ : HS) : Option HS :=
    rk (σ.2.2 t 4) 14 fun a1 =>
    if (x2 - x4) ≤ 3 then
      f_X12_cutAll_236 r17 t x1 x2 x5 2 x1 a1 σ
    else
      f_X12_cutAll_236 r17 t x1 x2 x5 4 x1 a1 σ
def f_X12_cutAll_210 (r17 : Int32 → Int32 → HS → Option HS) (r159 : Int32 → Int64 → HS → Option HS) (t : Nat) (x1 : Int32) (x2 : Int32) (x4 : Int32) (s0 : Int64) (σ : HS) : Option HS :=
    r159 (x2 + 1) s0 σ
def f_X12_cutAll_159 (t : Nat) (x1 : Int32) (x4 : Int32) (r17 : Int32 → Int32 → HS → Option HS) : Nat → Int32 → Int64 → HS → Option HS
  | 0, _, _, _ => none
  | n + 1, x2, x5, σ =>
    if (σ.1 t 3) ≤ x2 then
      f_X12_cutAll_218 r17 t x1 x2 x4 x5 σ
    else
      rk (σ.2.2 t 1) 14 fun a1 =>
      ck x2 (ln a1) (
      (f_X12_isDigit (σ.1 a1 x2.toNatClampNeg) σ).bind fun q2 =>
      if q2.1 = 0 then
        f_X12_cutAll_218 r17 t x1 x2 x4 x5 q2.2
      else
        if 3 ≤ (x2 - x4) then
          f_X12_cutAll_210 r17 (f_X12_cutAll_159 t x1 x4 r17 n) t x1 x2 x4 x5 q2.2
        else
          rk (q2.2.2.2 t 1) 14 fun a3 =>
          ck x2 (ln a3) (
          f_X12_cutAll_210 r17 (f_X12_cutAll_159 t x1 x4 r17 n) t x1 x2 x4 ((((10 : Int64) * x5) + ((q2.2.1 a3 x2.toNatClampNeg).toInt64)) - 48) q2.2))
def f_X12_cutAll_148 (r17 : Int32 → Int32 → HS → Option HS) (t : Nat) (x1 : Int32) (x2 : Int32) (x5 : Int64) (s0 : Int32) (s1 : Int32) (s2 : Nat) (σ : HS) : Option HS :=
    ck s1 (ln s2) (
    f_X12_cutAll_265 r17 t x1 x2 x5 (sI σ s2 s1.toNatClampNeg s0))
def f_X12_cutAll_129 (r17 : Int32 → Int32 → HS → Option HS) (t : Nat) (x1 : Int32) (x2 : Int32) (x4 : Int32) (x5 : Int64) (σ : HS) : Option HS :=
    rk (σ.2.2 t 4) 14 fun a1 =>
    if (x2 - x4) ≤ 8 then
      f_X12_cutAll_148 r17 t x1 x2 x5 1 x1 a1 σ
    else
      f_X12_cutAll_148 r17 t x1 x2 x5 4 x1 a1 σ
def f_X12_cutAll_121 (r17 : Int32 → Int32 → HS → Option HS) (r70 : Int32 → Int64 → HS → Option HS) (t : Nat) (x1 : Int32) (x2 : Int32) (x4 : Int32) (s0 : Int64) (σ : HS) : Option HS :=
    r70 (x2 + 1) s0 σ
def f_X12_cutAll_70 (t : Nat) (x1 : Int32) (x4 : Int32) (r17 : Int32 → Int32 → HS → Option HS) : Nat → Int32 → Int64 → HS → Option HS
  | 0, _, _, _ => none
  | n + 1, x2, x5, σ =>
    if (σ.1 t 3) ≤ x2 then
      f_X12_cutAll_129 r17 t x1 x2 x4 x5 σ
    else
      rk (σ.2.2 t 1) 14 fun a1 =>
      ck x2 (ln a1) (
      (f_X12_isLetter (σ.1 a1 x2.toNatClampNeg) σ).bind fun q2 =>
      if q2.1 = 0 then
        f_X12_cutAll_129 r17 t x1 x2 x4 x5 q2.2
      else
        if 8 ≤ (x2 - x4) then
          f_X12_cutAll_121 r17 (f_X12_cutAll_70 t x1 x4 r17 n) t x1 x2 x4 x5 q2.2
        else
          rk (q2.2.2.2 t 1) 14 fun a3 =>
          ck x2 (ln a3) (
          (f_X12_rank (q2.2.1 a3 x2.toNatClampNeg) q2.2).bind fun q4 =>
          f_X12_cutAll_121 r17 (f_X12_cutAll_70 t x1 x4 r17 n) t x1 x2 x4 (((37 : Int64) * x5) + q4.1.toInt64) q4.2))
def f_X12_cutAll_17 (t : Nat) : Nat → Int32 → Int32 → HS → Option HS
  | 0, _, _, _ => none
  | n + 1, x1, x2, σ =>
    if (σ.1 t 3) ≤ x2 then
      rk (σ.2.2 t 4) 14 fun a1 =>
      ck x1 (ln a1) (
      rk ((sI σ a1 x1.toNatClampNeg 0).2.2 t 5) 14 fun a2 =>
      ck x1 (ln a2) (
      some (sI (sI (sI (sI σ a1 x1.toNatClampNeg 0) a2 x1.toNatClampNeg ((sI σ a1 x1.toNatClampNeg 0).1 t 3)) t 7 0) t 8 0)))
    else
      rk (σ.2.2 t 1) 14 fun a3 =>
      ck x2 (ln a3) (
      if (σ.1 a3 x2.toNatClampNeg) = 10 then
        f_X12_cutAll_44 (f_X12_cutAll_17 t n) t x1 x2 σ
      else
        if (σ.1 a3 x2.toNatClampNeg) = 32 then
          f_X12_cutAll_44 (f_X12_cutAll_17 t n) t x1 x2 σ
        else
          rk (σ.2.2 t 5) 14 fun a4 =>
          ck x1 (ln a4) (
          (f_X12_isLetter (σ.1 a3 x2.toNatClampNeg) (sI σ a4 x1.toNatClampNeg x2)).bind fun q5 =>
          if q5.1 = 0 then
            (f_X12_isDigit (σ.1 a3 x2.toNatClampNeg) q5.2).bind fun q6 =>
            if q6.1 = 0 then
              rk (q6.2.2.2 t 4) 14 fun a7 =>
              (f_X12_isSignOf (σ.1 a3 x2.toNatClampNeg) q6.2).bind fun q8 =>
              if q8.1 = 0 then
                f_X12_cutAll_261 (f_X12_cutAll_17 t n) t x1 x2 ((σ.1 a3 x2.toNatClampNeg).toInt64) 4 x1 a7 q8.2
              else
                f_X12_cutAll_261 (f_X12_cutAll_17 t n) t x1 x2 ((σ.1 a3 x2.toNatClampNeg).toInt64) 3 x1 a7 q8.2
            else
              f_X12_cutAll_159 t x1 x2 (f_X12_cutAll_17 t n) FU x2 0 q6.2
          else
            f_X12_cutAll_70 t x1 x2 (f_X12_cutAll_17 t n) FU x2 0 q5.2))
def f_X12_cutAll (t : Nat) (σ : HS) : Option HS :=
    f_X12_cutAll_17 t FU 0 0 (sI (sI σ t 3 (σ.1 t 2)) t 2 0)
def f_X12_wrong_25 (σ : HS) : Option HS :=
    some σ
def f_X12_wrong (t : Nat) (x1 : Int32) (σ : HS) : Option HS :=
    if (σ.1 t 8) = 0 then
      rk (σ.2.2 t 5) 14 fun a1 =>
      ck (σ.1 t 7) (ln a1) (
      f_X12_wrong_25 (sI σ t 8 (x1 + ((16 : Int32) * (σ.1 a1 (σ.1 t 7).toNatClampNeg)))))
    else
      f_X12_wrong_25 σ
def f_X12_isSign_40 (s0 : Int32) (σ : HS) : Option (Int32 × HS) :=
    zr s0 σ
def f_X12_isSign_39 (σ : HS) : Option (Int32 × HS) :=
    f_X12_isSign_40 0 σ
def f_X12_isSign (t : Nat) (x1 : Int32) (σ : HS) : Option (Int32 × HS) :=
    if (σ.1 t 8) = 0 then
      rk (σ.2.2 t 4) 14 fun a1 =>
      ck (σ.1 t 7) (ln a1) (
      if (σ.1 a1 (σ.1 t 7).toNatClampNeg) = 3 then
        rk (σ.2.2 t 6) 15 fun a2 =>
        ck (σ.1 t 7) (ln a2) (
        if (σ.2.1 a2 (σ.1 t 7).toNatClampNeg) = x1.toInt64 then
          f_X12_isSign_40 1 σ
        else
          f_X12_isSign_39 σ)
      else
        f_X12_isSign_39 σ)
    else
      f_X12_isSign_39 σ
def f_X12_isWord_44 (s0 : Int32) (σ : HS) : Option (Int32 × HS) :=
    zr s0 σ
def f_X12_isWord_43 (σ : HS) : Option (Int32 × HS) :=
    f_X12_isWord_44 0 σ
def f_X12_isWord (t : Nat) (x1 : Int32) (σ : HS) : Option (Int32 × HS) :=
    if (σ.1 t 8) = 0 then
      rk (σ.2.2 t 4) 14 fun a1 =>
      ck (σ.1 t 7) (ln a1) (
      if (σ.1 a1 (σ.1 t 7).toNatClampNeg) = 1 then
        rk (σ.2.2 t 6) 15 fun a2 =>
        ck (σ.1 t 7) (ln a2) (
        rk (σ.2.2 t 9) 15 fun a3 =>
        ck x1 (ln a3) (
        if (σ.2.1 a2 (σ.1 t 7).toNatClampNeg) = (σ.2.1 a3 x1.toNatClampNeg) then
          f_X12_isWord_44 1 σ
        else
          f_X12_isWord_43 σ))
      else
        f_X12_isWord_43 σ)
    else
      f_X12_isWord_43 σ
def f_X12_takeSign_26 (σ : HS) : Option HS :=
    some σ
def f_X12_takeSign (t : Nat) (x1 : Int32) (σ : HS) : Option HS :=
    (f_X12_isSign t x1 σ).bind fun q1 =>
    if q1.1 = 0 then
      (f_X12_wrong t 1 q1.2).bind fun q2 =>
      f_X12_takeSign_26 q2
    else
      f_X12_takeSign_26 (sI q1.2 t 7 ((q1.2.1 t 7) + 1))
def f_X12_within_15 (s0 : Int32) (σ : HS) : Option (Int32 × HS) :=
    zr s0 σ
def f_X12_within_14 (σ : HS) : Option (Int32 × HS) :=
    f_X12_within_15 0 σ
def f_X12_within (x0 : Int32) (x1 : Int32) (x2 : Int32) (σ : HS) : Option (Int32 × HS) :=
    if x0 < x1 then
      f_X12_within_14 σ
    else
      if x2 < x0 then
        f_X12_within_14 σ
      else
        f_X12_within_15 1 σ

def g_X12_thrown  (ζ : ZS) : Option (Int × ZS) :=
    some (ζ.1 0 0, ζ)
def g_X12_lay_69 (r3 : Int → ZS → Option ZS) (z1 : Int) (z3 : Int) (ζ : ZS) : Option ZS :=
    r3 (z3 + (-8)) ζ
def g_X12_lay_38 (r3 : Int → ZS → Option ZS) (z1 : Int) (z3 : Int) (z4 : Int) (ζ : ZS) : Option ZS :=
    gI 1000 (ζ.1 0 2) (1000 ≤ (ζ.1 0 2)) (
      g_X12_lay_69 r3 z1 z3 ζ) (
      gk (ζ.1 0 2) 1000 (
      g_X12_lay_69 r3 z1 z3 (zI (zI ζ 1 (Int.toNat (ζ.1 0 2)) z4) 0 2 (((zI ζ 1 (Int.toNat (ζ.1 0 2)) z4).1 0 2) + 1))))
def g_X12_lay_3 (z1 : Int) : Nat → Int → ZS → Option ZS
  | 0, _, _ => none
  | n + 1, z3, ζ =>
    gI z3 0 (z3 < 0) (
      some ζ) (
      gI (zand (zlsr z1 z3) 255) 10 ((zand (zlsr z1 z3) 255) = 10) (
        g_X12_lay_38 (g_X12_lay_3 z1 n) z1 z3 (zand (zlsr z1 z3) 255) ζ) (
        gI (zand (zlsr z1 z3) 255) 32 ((zand (zlsr z1 z3) 255) < 32) (
          g_X12_lay_69 (g_X12_lay_3 z1 n) z1 z3 ζ) (
          gI 126 (zand (zlsr z1 z3) 255) (126 < (zand (zlsr z1 z3) 255)) (
            g_X12_lay_69 (g_X12_lay_3 z1 n) z1 z3 ζ) (
            g_X12_lay_38 (g_X12_lay_3 z1 n) z1 z3 (zand (zlsr z1 z3) 255) ζ))))
def g_X12_lay (z1 : Int) (ζ : ZS) : Option ZS :=
    g_X12_lay_3 z1 FU 56 ζ
def g_X12_feed (z1 : Int) (z3 : Int) (z5 : Int) (ζ : ZS) : Option (Int × ZS) :=
    (g_X12_lay z1 (zI ζ 0 0 0)).bind fun q2 =>
    (g_X12_lay z3 q2).bind fun q3 =>
    (g_X12_lay z5 q3).bind fun q4 =>
    some (q4.1 0 2, q4)
def g_X12_isLetter_17 (zs0 : Int) (ζ : ZS) : Option (Int × ZS) :=
    gz zs0 (some (zs0, ζ))
def g_X12_isLetter_16  (ζ : ZS) : Option (Int × ZS) :=
    g_X12_isLetter_17 0 ζ
def g_X12_isLetter (z0 : Int) (ζ : ZS) : Option (Int × ZS) :=
    gI z0 97 (z0 < 97) (
      g_X12_isLetter_16 ζ) (
      gI 122 z0 (122 < z0) (
        g_X12_isLetter_16 ζ) (
        g_X12_isLetter_17 1 ζ))
def g_X12_isDigit_17 (zs0 : Int) (ζ : ZS) : Option (Int × ZS) :=
    gz zs0 (some (zs0, ζ))
def g_X12_isDigit_16  (ζ : ZS) : Option (Int × ZS) :=
    g_X12_isDigit_17 0 ζ
def g_X12_isDigit (z0 : Int) (ζ : ZS) : Option (Int × ZS) :=
    gI z0 48 (z0 < 48) (
      g_X12_isDigit_16 ζ) (
      gI 57 z0 (57 < z0) (
        g_X12_isDigit_16 ζ) (
        g_X12_isDigit_17 1 ζ))
def g_X12_rank_18 (zs0 : Int) (ζ : ZS) : Option (Int × ZS) :=
    some (zs0, ζ)
def g_X12_rank (z0 : Int) (ζ : ZS) : Option (Int × ZS) :=
    (g_X12_isLetter z0 ζ).bind fun q1 =>
    gI q1.1 0 (q1.1 = 0) (
      g_X12_rank_18 (z0 - 21) q1.2) (
      g_X12_rank_18 (z0 - 96) q1.2)
def g_X12_isSignOf_11 (zs0 : Int) (ζ : ZS) : Option (Int × ZS) :=
    gz zs0 (some (zs0, ζ))
def g_X12_isSignOf (z0 : Int) (ζ : ZS) : Option (Int × ZS) :=
    gI z0 59 (z0 = 59) (
      g_X12_isSignOf_11 1 ζ) (
      g_X12_isSignOf_11 0 ζ)
def g_X12_cutAll_44 (r17 : Int → Int → ZS → Option ZS) (z1 : Int) (z2 : Int) (ζ : ZS) : Option ZS :=
    r17 z1 (z2 + 1) ζ
def g_X12_cutAll_265 (r17 : Int → Int → ZS → Option ZS) (z1 : Int) (z2 : Int) (z5 : Int) (ζ : ZS) : Option ZS :=
    gk z1 1002 (
    r17 (z1 + 1) z2 (zJ ζ 4 (Int.toNat z1) z5))
def g_X12_cutAll_261 (r17 : Int → Int → ZS → Option ZS) (z1 : Int) (z2 : Int) (z5 : Int) (zs0 : Int) (zs1 : Int) (cs2 : Nat) (ζ : ZS) : Option ZS :=
    gk zs1 (ln cs2) (
    g_X12_cutAll_265 r17 z1 (z2 + 1) z5 (zI ζ cs2 (Int.toNat zs1) zs0))
def g_X12_cutAll_236 (r17 : Int → Int → ZS → Option ZS) (z1 : Int) (z2 : Int) (z5 : Int) (zs0 : Int) (zs1 : Int) (cs2 : Nat) (ζ : ZS) : Option ZS :=
    gk zs1 (ln cs2) (
    g_X12_cutAll_265 r17 z1 z2 z5 (zI ζ cs2 (Int.toNat zs1) zs0))
def g_X12_cutAll_218 (r17 : Int → Int → ZS → Option ZS) (z1 : Int) (z2 : Int) (z4 : Int) (z5 : Int) (ζ : ZS) : Option ZS :=
    gI (z2 - z4) 3 ((z2 - z4) ≤ 3) (
      g_X12_cutAll_236 r17 z1 z2 z5 2 z1 2 ζ) (
      g_X12_cutAll_236 r17 z1 z2 z5 4 z1 2 ζ)
def g_X12_cutAll_210 (r17 : Int → Int → ZS → Option ZS) (r159 : Int → Int → ZS → Option ZS) (z1 : Int) (z2 : Int) (z4 : Int) (zs0 : Int) (ζ : ZS) : Option ZS :=
    r159 (z2 + 1) zs0 ζ
def g_X12_cutAll_159 (z1 : Int) (z4 : Int) (r17 : Int → Int → ZS → Option ZS) : Nat → Int → Int → ZS → Option ZS
  | 0, _, _, _ => none
  | n + 1, z2, z5, ζ =>
    gI (ζ.1 0 3) z2 ((ζ.1 0 3) ≤ z2) (
      g_X12_cutAll_218 r17 z1 z2 z4 z5 ζ) (
      gk z2 1000 (
      (g_X12_isDigit (ζ.1 1 (Int.toNat z2)) ζ).bind fun q2 =>
      gI q2.1 0 (q2.1 = 0) (
        g_X12_cutAll_218 r17 z1 z2 z4 z5 q2.2) (
        gI 3 (z2 - z4) (3 ≤ (z2 - z4)) (
          g_X12_cutAll_210 r17 (g_X12_cutAll_159 z1 z4 r17 n) z1 z2 z4 z5 q2.2) (
          gk z2 1000 (
          gw (q2.2.1 1 (Int.toNat z2)) (
          g_X12_cutAll_210 r17 (g_X12_cutAll_159 z1 z4 r17 n) z1 z2 z4 (((10 * z5) + (q2.2.1 1 (Int.toNat z2))) - 48) q2.2))))))
def g_X12_cutAll_148 (r17 : Int → Int → ZS → Option ZS) (z1 : Int) (z2 : Int) (z5 : Int) (zs0 : Int) (zs1 : Int) (cs2 : Nat) (ζ : ZS) : Option ZS :=
    gk zs1 (ln cs2) (
    g_X12_cutAll_265 r17 z1 z2 z5 (zI ζ cs2 (Int.toNat zs1) zs0))
def g_X12_cutAll_129 (r17 : Int → Int → ZS → Option ZS) (z1 : Int) (z2 : Int) (z4 : Int) (z5 : Int) (ζ : ZS) : Option ZS :=
    gI (z2 - z4) 8 ((z2 - z4) ≤ 8) (
      g_X12_cutAll_148 r17 z1 z2 z5 1 z1 2 ζ) (
      g_X12_cutAll_148 r17 z1 z2 z5 4 z1 2 ζ)
def g_X12_cutAll_121 (r17 : Int → Int → ZS → Option ZS) (r70 : Int → Int → ZS → Option ZS) (z1 : Int) (z2 : Int) (z4 : Int) (zs0 : Int) (ζ : ZS) : Option ZS :=
    r70 (z2 + 1) zs0 ζ
def g_X12_cutAll_70 (z1 : Int) (z4 : Int) (r17 : Int → Int → ZS → Option ZS) : Nat → Int → Int → ZS → Option ZS
  | 0, _, _, _ => none
  | n + 1, z2, z5, ζ =>
    gI (ζ.1 0 3) z2 ((ζ.1 0 3) ≤ z2) (
      g_X12_cutAll_129 r17 z1 z2 z4 z5 ζ) (
      gk z2 1000 (
      (g_X12_isLetter (ζ.1 1 (Int.toNat z2)) ζ).bind fun q2 =>
      gI q2.1 0 (q2.1 = 0) (
        g_X12_cutAll_129 r17 z1 z2 z4 z5 q2.2) (
        gI 8 (z2 - z4) (8 ≤ (z2 - z4)) (
          g_X12_cutAll_121 r17 (g_X12_cutAll_70 z1 z4 r17 n) z1 z2 z4 z5 q2.2) (
          gk z2 1000 (
          (g_X12_rank (q2.2.1 1 (Int.toNat z2)) q2.2).bind fun q4 =>
          gw q4.1 (
          g_X12_cutAll_121 r17 (g_X12_cutAll_70 z1 z4 r17 n) z1 z2 z4 ((37 * z5) + q4.1) q4.2))))))
def g_X12_cutAll_17  : Nat → Int → Int → ZS → Option ZS
  | 0, _, _, _ => none
  | n + 1, z1, z2, ζ =>
    gI (ζ.1 0 3) z2 ((ζ.1 0 3) ≤ z2) (
      gk z1 1002 (
      gk z1 1002 (
      some (zI (zI (zI (zI ζ 2 (Int.toNat z1) 0) 3 (Int.toNat z1) ((zI ζ 2 (Int.toNat z1) 0).1 0 3)) 0 7 0) 0 8 0)))) (
      gk z2 1000 (
      gI (ζ.1 1 (Int.toNat z2)) 10 ((ζ.1 1 (Int.toNat z2)) = 10) (
        g_X12_cutAll_44 (g_X12_cutAll_17 n) z1 z2 ζ) (
        gI (ζ.1 1 (Int.toNat z2)) 32 ((ζ.1 1 (Int.toNat z2)) = 32) (
          g_X12_cutAll_44 (g_X12_cutAll_17 n) z1 z2 ζ) (
          gk z1 1002 (
          (g_X12_isLetter (ζ.1 1 (Int.toNat z2)) (zI ζ 3 (Int.toNat z1) z2)).bind fun q10 =>
          gI q10.1 0 (q10.1 = 0) (
            (g_X12_isDigit (ζ.1 1 (Int.toNat z2)) q10.2).bind fun q11 =>
            gI q11.1 0 (q11.1 = 0) (
              gw (ζ.1 1 (Int.toNat z2)) (
              (g_X12_isSignOf (ζ.1 1 (Int.toNat z2)) q11.2).bind fun q13 =>
              gI q13.1 0 (q13.1 = 0) (
                g_X12_cutAll_261 (g_X12_cutAll_17 n) z1 z2 (ζ.1 1 (Int.toNat z2)) 4 z1 2 q13.2) (
                g_X12_cutAll_261 (g_X12_cutAll_17 n) z1 z2 (ζ.1 1 (Int.toNat z2)) 3 z1 2 q13.2))) (
              g_X12_cutAll_159 z1 z2 (g_X12_cutAll_17 n) FU z2 0 q11.2)) (
            g_X12_cutAll_70 z1 z2 (g_X12_cutAll_17 n) FU z2 0 q10.2))))))
def g_X12_cutAll  (ζ : ZS) : Option ZS :=
    g_X12_cutAll_17 FU 0 0 (zI (zI ζ 0 3 (ζ.1 0 2)) 0 2 0)
def g_X12_wrong_25  (ζ : ZS) : Option ZS :=
    some ζ
def g_X12_wrong (z1 : Int) (ζ : ZS) : Option ZS :=
    gI (ζ.1 0 8) 0 ((ζ.1 0 8) = 0) (
      gk (ζ.1 0 7) 1002 (
      g_X12_wrong_25 (zI ζ 0 8 (z1 + (16 * (ζ.1 3 (Int.toNat (ζ.1 0 7)))))))) (
      g_X12_wrong_25 ζ)
def g_X12_isSign_40 (zs0 : Int) (ζ : ZS) : Option (Int × ZS) :=
    gz zs0 (some (zs0, ζ))
def g_X12_isSign_39  (ζ : ZS) : Option (Int × ZS) :=
    g_X12_isSign_40 0 ζ
def g_X12_isSign (z1 : Int) (ζ : ZS) : Option (Int × ZS) :=
    gI (ζ.1 0 8) 0 ((ζ.1 0 8) = 0) (
      gk (ζ.1 0 7) 1002 (
      gI (ζ.1 2 (Int.toNat (ζ.1 0 7))) 3 ((ζ.1 2 (Int.toNat (ζ.1 0 7))) = 3) (
        gk (ζ.1 0 7) 1002 (
        gw z1 (
        gJ (ζ.2.1 4 (Int.toNat (ζ.1 0 7))) z1 ((ζ.2.1 4 (Int.toNat (ζ.1 0 7))) = z1) (
          g_X12_isSign_40 1 ζ) (
          g_X12_isSign_39 ζ)))) (
        g_X12_isSign_39 ζ))) (
      g_X12_isSign_39 ζ)
def g_X12_isWord_44 (zs0 : Int) (ζ : ZS) : Option (Int × ZS) :=
    gz zs0 (some (zs0, ζ))
def g_X12_isWord_43  (ζ : ZS) : Option (Int × ZS) :=
    g_X12_isWord_44 0 ζ
def g_X12_isWord (z1 : Int) (ζ : ZS) : Option (Int × ZS) :=
    gI (ζ.1 0 8) 0 ((ζ.1 0 8) = 0) (
      gk (ζ.1 0 7) 1002 (
      gI (ζ.1 2 (Int.toNat (ζ.1 0 7))) 1 ((ζ.1 2 (Int.toNat (ζ.1 0 7))) = 1) (
        gk (ζ.1 0 7) 1002 (
        gk z1 17 (
        gJ (ζ.2.1 4 (Int.toNat (ζ.1 0 7))) (ζ.2.1 5 (Int.toNat z1)) ((ζ.2.1 4 (Int.toNat (ζ.1 0 7))) = (ζ.2.1 5 (Int.toNat z1))) (
          g_X12_isWord_44 1 ζ) (
          g_X12_isWord_43 ζ)))) (
        g_X12_isWord_43 ζ))) (
      g_X12_isWord_43 ζ)
def g_X12_takeSign_26  (ζ : ZS) : Option ZS :=
    some ζ
def g_X12_takeSign (z1 : Int) (ζ : ZS) : Option ZS :=
    (g_X12_isSign z1 ζ).bind fun q1 =>
    gI q1.1 0 (q1.1 = 0) (
      (g_X12_wrong 1 q1.2).bind fun q2 =>
      g_X12_takeSign_26 q2) (
      g_X12_takeSign_26 (zI q1.2 0 7 ((q1.2.1 0 7) + 1)))
def g_X12_within_15 (zs0 : Int) (ζ : ZS) : Option (Int × ZS) :=
    gz zs0 (some (zs0, ζ))
def g_X12_within_14  (ζ : ZS) : Option (Int × ZS) :=
    g_X12_within_15 0 ζ
def g_X12_within (z0 : Int) (z1 : Int) (z2 : Int) (ζ : ZS) : Option (Int × ZS) :=
    gI z0 z1 (z0 < z1) (
      g_X12_within_14 ζ) (
      gI z2 z0 (z2 < z0) (
        g_X12_within_14 ζ) (
        g_X12_within_15 1 ζ))
def g_X12_forgetsChoice_9 (z1 : Int) : Nat → Int → ZS → Option ZS
  | 0, _, _ => none
  | n + 1, z2, ζ =>
    gI 4 z2 (4 ≤ z2) (
      some ζ) (
      gk ((4 * z1) + z2) 8 (
      gk ((4 * z1) + z2) 8 (
      gk ((4 * z1) + z2) 8 (
      (g_X12_forgetsChoice_9 z1 n) (z2 + 1) (zI (zI (zI ζ 6 (Int.toNat ((4 * z1) + z2)) (zand 0 1)) 7 (Int.toNat ((4 * z1) + z2)) (-1)) 8 (Int.toNat ((4 * z1) + z2)) (-1))))))
def g_X12_forgetsChoice (z1 : Int) (ζ : ZS) : Option ZS :=
    gk z1 2 (
    g_X12_forgetsChoice_9 z1 FU 0 (zI ζ 9 (Int.toNat z1) 0))
def g_X12_takeNumber_70  (ζ : ZS) : Option (Int × ZS) :=
    gI (ζ.1 0 8) 0 ((ζ.1 0 8) ≤ 0) (
      gk (((zI ζ 0 7 ((ζ.1 0 7) + 1)).1 0 7) - 1) 1002 (
      some ((zI ζ 0 7 ((ζ.1 0 7) + 1)).2.1 4 (Int.toNat (((zI ζ 0 7 ((ζ.1 0 7) + 1)).1 0 7) - 1)), zI ζ 0 7 ((ζ.1 0 7) + 1)))) (
      some (0, ζ))
def g_X12_takeNumber_65  (ζ : ZS) : Option (Int × ZS) :=
    (g_X12_wrong 4 ζ).bind fun q1 =>
    g_X12_takeNumber_70 q1
def g_X12_takeNumber_28 (z1 : Int) (z2 : Int) (ζ : ZS) : Option (Int × ZS) :=
    gI (ζ.1 0 8) 0 ((ζ.1 0 8) = 0) (
      gk (ζ.1 0 7) 1002 (
      gw z1 (
      gJ (ζ.2.1 4 (Int.toNat (ζ.1 0 7))) z1 ((ζ.2.1 4 (Int.toNat (ζ.1 0 7))) < z1) (
        g_X12_takeNumber_65 ζ) (
        gk (ζ.1 0 7) 1002 (
        gw z2 (
        gJ (ζ.2.1 4 (Int.toNat (ζ.1 0 7))) z2 ((ζ.2.1 4 (Int.toNat (ζ.1 0 7))) ≤ z2) (
          g_X12_takeNumber_70 ζ) (
          g_X12_takeNumber_65 ζ))))))) (
      g_X12_takeNumber_70 ζ)
def g_X12_takeNumber (z1 : Int) (z2 : Int) (ζ : ZS) : Option (Int × ZS) :=
    gI (ζ.1 0 8) 0 ((ζ.1 0 8) = 0) (
      gk (ζ.1 0 7) 1002 (
      gI (ζ.1 2 (Int.toNat (ζ.1 0 7))) 2 ((ζ.1 2 (Int.toNat (ζ.1 0 7))) = 2) (
        g_X12_takeNumber_28 z1 z2 ζ) (
        (g_X12_wrong 1 ζ).bind fun q2 =>
        g_X12_takeNumber_70 q2))) (
      g_X12_takeNumber_28 z1 z2 ζ)
def g_X12_readMeasure_230  (ζ : ZS) : Option ZS :=
    some ζ
def g_X12_readMeasure_229 (zs0 : Int) (zs1 : Int) (cs2 : Nat) (ζ : ZS) : Option ZS :=
    gk zs1 (ln cs2) (
    g_X12_readMeasure_230 (zI ζ cs2 (Int.toNat zs1) zs0))
def g_X12_readMeasure_208 (z1 : Int) (z2 : Int) (z3 : Int) (zs0 : Int) (zs1 : Int) (cs2 : Nat) (ζ : ZS) : Option ZS :=
    gk zs1 (ln cs2) (
    gI z1 2 (z1 = 2) (
      g_X12_readMeasure_229 z3 z2 8 (zI ζ cs2 (Int.toNat zs1) zs0)) (
      gk z2 8 (
      g_X12_readMeasure_229 ((zI ζ cs2 (Int.toNat zs1) zs0).1 8 (Int.toNat z2)) z2 8 (zI ζ cs2 (Int.toNat zs1) zs0))))
def g_X12_readMeasure_187 (z1 : Int) (z2 : Int) (z3 : Int) (zs0 : Int) (zs1 : Int) (cs2 : Nat) (ζ : ZS) : Option ZS :=
    gk zs1 (ln cs2) (
    gI z1 1 (z1 = 1) (
      g_X12_readMeasure_208 z1 z2 z3 z3 z2 7 (zI ζ cs2 (Int.toNat zs1) (zand zs0 1))) (
      gk z2 8 (
      g_X12_readMeasure_208 z1 z2 z3 ((zI ζ cs2 (Int.toNat zs1) (zand zs0 1)).1 7 (Int.toNat z2)) z2 7 (zI ζ cs2 (Int.toNat zs1) (zand zs0 1)))))
def g_X12_readMeasure_182 (z1 : Int) (z2 : Int) (z3 : Int) (zs0 : Int) (cs1 : Nat) (ζ : ZS) : Option ZS :=
    g_X12_readMeasure_187 z1 z2 z3 1 zs0 cs1 ζ
def g_X12_readMeasure_156 (z1 : Int) (z2 : Int) (zs0 : Int) (ζ : ZS) : Option ZS :=
    gI (ζ.1 0 8) 0 ((ζ.1 0 8) = 0) (
      gI z1 0 (z1 = 0) (
        g_X12_readMeasure_182 z1 z2 zs0 z2 6 ζ) (
        gk z2 8 (
        gI (ζ.1 6 (Int.toNat z2)) 0 ((ζ.1 6 (Int.toNat z2)) = 0) (
          g_X12_readMeasure_187 z1 z2 zs0 0 z2 6 ζ) (
          g_X12_readMeasure_182 z1 z2 zs0 z2 6 ζ)))) (
      g_X12_readMeasure_230 ζ)
def g_X12_readMeasure_127 (z1 : Int) (ζ : ZS) : Option ZS :=
    (g_X12_takeNumber 0 ((ζ.1 0 20) - 1) ζ).bind fun q1 =>
    gI z1 0 (z1 = 0) (
      g_X12_readMeasure_156 z1 (4 + q1.1) 0 q1.2) (
      (g_X12_takeNumber 0 100 q1.2).bind fun q2 =>
      g_X12_readMeasure_156 z1 (4 + q1.1) q2.1 q2.2)
def g_X12_readMeasure_122 (z1 : Int) (ζ : ZS) : Option ZS :=
    (g_X12_wrong 3 ζ).bind fun q1 =>
    g_X12_readMeasure_127 z1 q1
def g_X12_readMeasure_25 (zs0 : Int) (ζ : ZS) : Option ZS :=
    gk ((zI ζ 0 7 ((ζ.1 0 7) + 1)).1 0 7) 1002 (
    gI ((zI ζ 0 7 ((ζ.1 0 7) + 1)).1 2 (Int.toNat ((zI ζ 0 7 ((ζ.1 0 7) + 1)).1 0 7))) 2 (((zI ζ 0 7 ((ζ.1 0 7) + 1)).1 2 (Int.toNat ((zI ζ 0 7 ((ζ.1 0 7) + 1)).1 0 7))) = 2) (
      gk ((zI ζ 0 7 ((ζ.1 0 7) + 1)).1 0 7) 1002 (
      gw ((zI ζ 0 7 ((ζ.1 0 7) + 1)).1 0 20) (
      gJ ((zI ζ 0 7 ((ζ.1 0 7) + 1)).1 0 20) ((zI ζ 0 7 ((ζ.1 0 7) + 1)).2.1 4 (Int.toNat ((zI ζ 0 7 ((ζ.1 0 7) + 1)).1 0 7))) (((zI ζ 0 7 ((ζ.1 0 7) + 1)).1 0 20) ≤ ((zI ζ 0 7 ((ζ.1 0 7) + 1)).2.1 4 (Int.toNat ((zI ζ 0 7 ((ζ.1 0 7) + 1)).1 0 7)))) (
        g_X12_readMeasure_127 zs0 (zI ζ 0 7 ((ζ.1 0 7) + 1))) (
        gk ((zI ζ 0 7 ((ζ.1 0 7) + 1)).1 0 7) 1002 (
        gI zs0 0 (zs0 = 0) (
          gk (4 + ((zI ζ 0 7 ((ζ.1 0 7) + 1)).2.1 4 (Int.toNat ((zI ζ 0 7 ((ζ.1 0 7) + 1)).1 0 7)))) 8 (
          gI ((zI ζ 0 7 ((ζ.1 0 7) + 1)).1 6 (Int.toNat (4 + ((zI ζ 0 7 ((ζ.1 0 7) + 1)).2.1 4 (Int.toNat ((zI ζ 0 7 ((ζ.1 0 7) + 1)).1 0 7)))))) 0 (((zI ζ 0 7 ((ζ.1 0 7) + 1)).1 6 (Int.toNat (4 + ((zI ζ 0 7 ((ζ.1 0 7) + 1)).2.1 4 (Int.toNat ((zI ζ 0 7 ((ζ.1 0 7) + 1)).1 0 7)))))) = 0) (
            g_X12_readMeasure_127 zs0 (zI ζ 0 7 ((ζ.1 0 7) + 1))) (
            g_X12_readMeasure_122 zs0 (zI ζ 0 7 ((ζ.1 0 7) + 1))))) (
          gI zs0 1 (zs0 = 1) (
            gk (4 + ((zI ζ 0 7 ((ζ.1 0 7) + 1)).2.1 4 (Int.toNat ((zI ζ 0 7 ((ζ.1 0 7) + 1)).1 0 7)))) 8 (
            gI ((zI ζ 0 7 ((ζ.1 0 7) + 1)).1 7 (Int.toNat (4 + ((zI ζ 0 7 ((ζ.1 0 7) + 1)).2.1 4 (Int.toNat ((zI ζ 0 7 ((ζ.1 0 7) + 1)).1 0 7)))))) 0 (((zI ζ 0 7 ((ζ.1 0 7) + 1)).1 7 (Int.toNat (4 + ((zI ζ 0 7 ((ζ.1 0 7) + 1)).2.1 4 (Int.toNat ((zI ζ 0 7 ((ζ.1 0 7) + 1)).1 0 7)))))) < 0) (
              g_X12_readMeasure_127 zs0 (zI ζ 0 7 ((ζ.1 0 7) + 1))) (
              g_X12_readMeasure_122 zs0 (zI ζ 0 7 ((ζ.1 0 7) + 1))))) (
            gk (4 + ((zI ζ 0 7 ((ζ.1 0 7) + 1)).2.1 4 (Int.toNat ((zI ζ 0 7 ((ζ.1 0 7) + 1)).1 0 7)))) 8 (
            gI ((zI ζ 0 7 ((ζ.1 0 7) + 1)).1 8 (Int.toNat (4 + ((zI ζ 0 7 ((ζ.1 0 7) + 1)).2.1 4 (Int.toNat ((zI ζ 0 7 ((ζ.1 0 7) + 1)).1 0 7)))))) 0 (((zI ζ 0 7 ((ζ.1 0 7) + 1)).1 8 (Int.toNat (4 + ((zI ζ 0 7 ((ζ.1 0 7) + 1)).2.1 4 (Int.toNat ((zI ζ 0 7 ((ζ.1 0 7) + 1)).1 0 7)))))) < 0) (
              g_X12_readMeasure_127 zs0 (zI ζ 0 7 ((ζ.1 0 7) + 1))) (
              g_X12_readMeasure_122 zs0 (zI ζ 0 7 ((ζ.1 0 7) + 1))))))))))) (
      g_X12_readMeasure_127 zs0 (zI ζ 0 7 ((ζ.1 0 7) + 1))))
def g_X12_readMeasure  (ζ : ZS) : Option ZS :=
    (g_X12_isWord 0 ζ).bind fun q1 =>
    gI q1.1 0 (q1.1 = 0) (
      (g_X12_isWord 1 q1.2).bind fun q2 =>
      gI q2.1 0 (q2.1 = 0) (
        g_X12_readMeasure_25 2 q2.2) (
        g_X12_readMeasure_25 1 q2.2)) (
      g_X12_readMeasure_25 0 q1.2)
def g_X12_personHere_26 (r4 : Int → Int → ZS → Option (Int × ZS)) (z2 : Int) (zs0 : Int) (ζ : ZS) : Option (Int × ZS) :=
    r4 zs0 (z2 + 1) ζ
def g_X12_personHere_4  : Nat → Int → Int → ZS → Option (Int × ZS)
  | 0, _, _, _ => none
  | n + 1, z1, z2, ζ =>
    gI 8 z2 (8 ≤ z2) (
      some (z1, ζ)) (
      (g_X12_isWord (9 + z2) ζ).bind fun q1 =>
      gI q1.1 0 (q1.1 = 0) (
        g_X12_personHere_26 (g_X12_personHere_4 n) z2 z1 q1.2) (
        g_X12_personHere_26 (g_X12_personHere_4 n) z2 z2 q1.2))
def g_X12_personHere  (ζ : ZS) : Option (Int × ZS) :=
    g_X12_personHere_4 FU (-1) 0 ζ
def g_X12_takeOther_40 (z2 : Int) (ζ : ZS) : Option (Int × ZS) :=
    (g_X12_takeNumber 0 z2 ζ).bind fun q1 =>
    some (q1.1, q1.2)
def g_X12_takeOther (z1 : Int) (z2 : Int) (ζ : ZS) : Option (Int × ZS) :=
    gI (ζ.1 0 8) 0 ((ζ.1 0 8) = 0) (
      gk (ζ.1 0 7) 1002 (
      gI (ζ.1 2 (Int.toNat (ζ.1 0 7))) 2 ((ζ.1 2 (Int.toNat (ζ.1 0 7))) = 2) (
        gk (ζ.1 0 7) 1002 (
        gw z1 (
        gJ (ζ.2.1 4 (Int.toNat (ζ.1 0 7))) z1 ((ζ.2.1 4 (Int.toNat (ζ.1 0 7))) = z1) (
          (g_X12_wrong 3 ζ).bind fun q4 =>
          g_X12_takeOther_40 z2 q4) (
          g_X12_takeOther_40 z2 ζ)))) (
        g_X12_takeOther_40 z2 ζ))) (
      g_X12_takeOther_40 z2 ζ)
def g_X12_readSaying_293  (ζ : ZS) : Option ZS :=
    gk 1 2 (
    gk 1 2 (
    some (zI ζ 9 (Int.toNat 1) ((ζ.1 9 (Int.toNat 1)) + 1))))
def g_X12_readSaying_210 (z3 : Int) (ζ : ZS) : Option ZS :=
    (g_X12_takeNumber 0 ((ζ.1 0 20) - 1) ζ).bind fun q1 =>
    gk z3 24 (
    (g_X12_takeNumber 0 100 (zI q1.2 14 (Int.toNat z3) q1.1)).bind fun q4 =>
    gk z3 24 (
    g_X12_readSaying_293 (zI q4.2 12 (Int.toNat z3) q4.1)))
def g_X12_readSaying_260 (z3 : Int) (zs0 : Int) (ζ : ZS) : Option ZS :=
    (g_X12_takeNumber 0 zs0 ζ).bind fun q1 =>
    gk z3 24 (
    gk z3 24 (
    (g_X12_takeOther ((zI q1.2 14 (Int.toNat z3) q1.1).1 14 (Int.toNat z3)) zs0 (zI q1.2 14 (Int.toNat z3) q1.1)).bind fun q5 =>
    gk z3 24 (
    g_X12_readSaying_293 (zI q5.2 15 (Int.toNat z3) q5.1))))
def g_X12_readSaying_74 (r55 : Int → Int → ZS → Option ZS) (z1 : Int) (z3 : Int) (zs0 : Int) (ζ : ZS) : Option ZS :=
    r55 zs0 (z3 + 1) ζ
def g_X12_readSaying_55 (z1 : Int) : Nat → Int → Int → ZS → Option ZS
  | 0, _, _, _ => none
  | n + 1, z2, z3, ζ =>
    gI 8 z3 (8 < z3) (
      gI 0 z2 (0 ≤ z2) (
        gk 1 2 (
        gk (12 + ((zI ζ 0 7 ((ζ.1 0 7) + 1)).1 9 (Int.toNat 1))) 24 (
        gk (12 + ((zI ζ 0 7 ((ζ.1 0 7) + 1)).1 9 (Int.toNat 1))) 24 (
        gI z2 5 (z2 = 5) (
          (g_X12_takeNumber 1 100 (zI (zI (zI ζ 0 7 ((ζ.1 0 7) + 1)) 10 (Int.toNat (12 + ((zI ζ 0 7 ((ζ.1 0 7) + 1)).1 9 (Int.toNat 1)))) z1) 11 (Int.toNat (12 + ((zI ζ 0 7 ((ζ.1 0 7) + 1)).1 9 (Int.toNat 1)))) z2)).bind fun q7 =>
          gk (12 + ((zI ζ 0 7 ((ζ.1 0 7) + 1)).1 9 (Int.toNat 1))) 24 (
          (g_X12_takeNumber 0 (((zI q7.2 12 (Int.toNat (12 + ((zI ζ 0 7 ((ζ.1 0 7) + 1)).1 9 (Int.toNat 1)))) q7.1).1 0 20) - 1) (zI q7.2 12 (Int.toNat (12 + ((zI ζ 0 7 ((ζ.1 0 7) + 1)).1 9 (Int.toNat 1)))) q7.1)).bind fun q10 =>
          gk (12 + ((zI ζ 0 7 ((ζ.1 0 7) + 1)).1 9 (Int.toNat 1))) 24 (
          (g_X12_takeNumber 1 100 (zI q10.2 14 (Int.toNat (12 + ((zI ζ 0 7 ((ζ.1 0 7) + 1)).1 9 (Int.toNat 1)))) q10.1)).bind fun q13 =>
          gk (12 + ((zI ζ 0 7 ((ζ.1 0 7) + 1)).1 9 (Int.toNat 1))) 24 (
          gk (12 + ((zI ζ 0 7 ((ζ.1 0 7) + 1)).1 9 (Int.toNat 1))) 24 (
          (g_X12_takeOther ((zI q13.2 13 (Int.toNat (12 + ((zI ζ 0 7 ((ζ.1 0 7) + 1)).1 9 (Int.toNat 1)))) q13.1).1 14 (Int.toNat (12 + ((zI ζ 0 7 ((ζ.1 0 7) + 1)).1 9 (Int.toNat 1))))) (((zI q13.2 13 (Int.toNat (12 + ((zI ζ 0 7 ((ζ.1 0 7) + 1)).1 9 (Int.toNat 1)))) q13.1).1 0 20) - 1) (zI q13.2 13 (Int.toNat (12 + ((zI ζ 0 7 ((ζ.1 0 7) + 1)).1 9 (Int.toNat 1)))) q13.1)).bind fun q17 =>
          gk (12 + ((zI ζ 0 7 ((ζ.1 0 7) + 1)).1 9 (Int.toNat 1))) 24 (
          g_X12_readSaying_293 (zI q17.2 15 (Int.toNat (12 + ((zI ζ 0 7 ((ζ.1 0 7) + 1)).1 9 (Int.toNat 1)))) q17.1))))))) (
          gI z2 6 (z2 = 6) (
            g_X12_readSaying_210 (12 + ((zI ζ 0 7 ((ζ.1 0 7) + 1)).1 9 (Int.toNat 1))) (zI (zI (zI ζ 0 7 ((ζ.1 0 7) + 1)) 10 (Int.toNat (12 + ((zI ζ 0 7 ((ζ.1 0 7) + 1)).1 9 (Int.toNat 1)))) z1) 11 (Int.toNat (12 + ((zI ζ 0 7 ((ζ.1 0 7) + 1)).1 9 (Int.toNat 1)))) z2)) (
            gI z2 7 (z2 = 7) (
              g_X12_readSaying_210 (12 + ((zI ζ 0 7 ((ζ.1 0 7) + 1)).1 9 (Int.toNat 1))) (zI (zI (zI ζ 0 7 ((ζ.1 0 7) + 1)) 10 (Int.toNat (12 + ((zI ζ 0 7 ((ζ.1 0 7) + 1)).1 9 (Int.toNat 1)))) z1) 11 (Int.toNat (12 + ((zI ζ 0 7 ((ζ.1 0 7) + 1)).1 9 (Int.toNat 1)))) z2)) (
              gI z2 8 (z2 = 8) (
                g_X12_readSaying_260 (12 + ((zI ζ 0 7 ((ζ.1 0 7) + 1)).1 9 (Int.toNat 1))) 7 (zI (zI (zI ζ 0 7 ((ζ.1 0 7) + 1)) 10 (Int.toNat (12 + ((zI ζ 0 7 ((ζ.1 0 7) + 1)).1 9 (Int.toNat 1)))) z1) 11 (Int.toNat (12 + ((zI ζ 0 7 ((ζ.1 0 7) + 1)).1 9 (Int.toNat 1)))) z2)) (
                g_X12_readSaying_260 (12 + ((zI ζ 0 7 ((ζ.1 0 7) + 1)).1 9 (Int.toNat 1))) (((zI (zI (zI ζ 0 7 ((ζ.1 0 7) + 1)) 10 (Int.toNat (12 + ((zI ζ 0 7 ((ζ.1 0 7) + 1)).1 9 (Int.toNat 1)))) z1) 11 (Int.toNat (12 + ((zI ζ 0 7 ((ζ.1 0 7) + 1)).1 9 (Int.toNat 1)))) z2).1 0 20) - 1) (zI (zI (zI ζ 0 7 ((ζ.1 0 7) + 1)) 10 (Int.toNat (12 + ((zI ζ 0 7 ((ζ.1 0 7) + 1)).1 9 (Int.toNat 1)))) z1) 11 (Int.toNat (12 + ((zI ζ 0 7 ((ζ.1 0 7) + 1)).1 9 (Int.toNat 1)))) z2))))))))) (
        (g_X12_wrong 1 ζ).bind fun q20 =>
        some q20)) (
      (g_X12_isWord z3 ζ).bind fun q21 =>
      gI q21.1 0 (q21.1 = 0) (
        g_X12_readSaying_74 (g_X12_readSaying_55 z1 n) z1 z3 z2 q21.2) (
        g_X12_readSaying_74 (g_X12_readSaying_55 z1 n) z1 z3 z3 q21.2))
def g_X12_readSaying_33 (z1 : Int) (ζ : ZS) : Option ZS :=
    gI (ζ.1 0 8) 0 ((ζ.1 0 8) ≤ 0) (
      g_X12_readSaying_55 z1 FU (-1) 3 (zI ζ 0 7 ((ζ.1 0 7) + 1))) (
      some ζ)
def g_X12_readSaying  (ζ : ZS) : Option ZS :=
    (g_X12_personHere ζ).bind fun q1 =>
    gI 0 q1.1 (0 ≤ q1.1) (
      gk 1 2 (
      gI (q1.2.1 9 (Int.toNat 1)) 12 ((q1.2.1 9 (Int.toNat 1)) = 12) (
        (g_X12_wrong 5 q1.2).bind fun q3 =>
        g_X12_readSaying_33 q1.1 q3) (
        g_X12_readSaying_33 q1.1 q1.2))) (
      (g_X12_wrong 1 q1.2).bind fun q4 =>
      g_X12_readSaying_33 q1.1 q4)
def g_X12_takesDraft_69  : Nat → Int → ZS → Option ZS
  | 0, _, _ => none
  | n + 1, z1, ζ =>
    gI 12 z1 (12 ≤ z1) (
      some ζ) (
      gk (12 + z1) 24 (
      gk z1 24 (
      gk (12 + z1) 24 (
      gk z1 24 (
      gk (12 + z1) 24 (
      gk z1 24 (
      gk (12 + z1) 24 (
      gk z1 24 (
      gk (12 + z1) 24 (
      gk z1 24 (
      gk (12 + z1) 24 (
      gk z1 24 (
      (g_X12_takesDraft_69 n) (z1 + 1) (zI (zI (zI (zI (zI (zI ζ 10 (Int.toNat z1) (ζ.1 10 (Int.toNat (12 + z1)))) 11 (Int.toNat z1) ((zI ζ 10 (Int.toNat z1) (ζ.1 10 (Int.toNat (12 + z1)))).1 11 (Int.toNat (12 + z1)))) 12 (Int.toNat z1) ((zI (zI ζ 10 (Int.toNat z1) (ζ.1 10 (Int.toNat (12 + z1)))) 11 (Int.toNat z1) ((zI ζ 10 (Int.toNat z1) (ζ.1 10 (Int.toNat (12 + z1)))).1 11 (Int.toNat (12 + z1)))).1 12 (Int.toNat (12 + z1)))) 13 (Int.toNat z1) ((zI (zI (zI ζ 10 (Int.toNat z1) (ζ.1 10 (Int.toNat (12 + z1)))) 11 (Int.toNat z1) ((zI ζ 10 (Int.toNat z1) (ζ.1 10 (Int.toNat (12 + z1)))).1 11 (Int.toNat (12 + z1)))) 12 (Int.toNat z1) ((zI (zI ζ 10 (Int.toNat z1) (ζ.1 10 (Int.toNat (12 + z1)))) 11 (Int.toNat z1) ((zI ζ 10 (Int.toNat z1) (ζ.1 10 (Int.toNat (12 + z1)))).1 11 (Int.toNat (12 + z1)))).1 12 (Int.toNat (12 + z1)))).1 13 (Int.toNat (12 + z1)))) 14 (Int.toNat z1) ((zI (zI (zI (zI ζ 10 (Int.toNat z1) (ζ.1 10 (Int.toNat (12 + z1)))) 11 (Int.toNat z1) ((zI ζ 10 (Int.toNat z1) (ζ.1 10 (Int.toNat (12 + z1)))).1 11 (Int.toNat (12 + z1)))) 12 (Int.toNat z1) ((zI (zI ζ 10 (Int.toNat z1) (ζ.1 10 (Int.toNat (12 + z1)))) 11 (Int.toNat z1) ((zI ζ 10 (Int.toNat z1) (ζ.1 10 (Int.toNat (12 + z1)))).1 11 (Int.toNat (12 + z1)))).1 12 (Int.toNat (12 + z1)))) 13 (Int.toNat z1) ((zI (zI (zI ζ 10 (Int.toNat z1) (ζ.1 10 (Int.toNat (12 + z1)))) 11 (Int.toNat z1) ((zI ζ 10 (Int.toNat z1) (ζ.1 10 (Int.toNat (12 + z1)))).1 11 (Int.toNat (12 + z1)))) 12 (Int.toNat z1) ((zI (zI ζ 10 (Int.toNat z1) (ζ.1 10 (Int.toNat (12 + z1)))) 11 (Int.toNat z1) ((zI ζ 10 (Int.toNat z1) (ζ.1 10 (Int.toNat (12 + z1)))).1 11 (Int.toNat (12 + z1)))).1 12 (Int.toNat (12 + z1)))).1 13 (Int.toNat (12 + z1)))).1 14 (Int.toNat (12 + z1)))) 15 (Int.toNat z1) ((zI (zI (zI (zI (zI ζ 10 (Int.toNat z1) (ζ.1 10 (Int.toNat (12 + z1)))) 11 (Int.toNat z1) ((zI ζ 10 (Int.toNat z1) (ζ.1 10 (Int.toNat (12 + z1)))).1 11 (Int.toNat (12 + z1)))) 12 (Int.toNat z1) ((zI (zI ζ 10 (Int.toNat z1) (ζ.1 10 (Int.toNat (12 + z1)))) 11 (Int.toNat z1) ((zI ζ 10 (Int.toNat z1) (ζ.1 10 (Int.toNat (12 + z1)))).1 11 (Int.toNat (12 + z1)))).1 12 (Int.toNat (12 + z1)))) 13 (Int.toNat z1) ((zI (zI (zI ζ 10 (Int.toNat z1) (ζ.1 10 (Int.toNat (12 + z1)))) 11 (Int.toNat z1) ((zI ζ 10 (Int.toNat z1) (ζ.1 10 (Int.toNat (12 + z1)))).1 11 (Int.toNat (12 + z1)))) 12 (Int.toNat z1) ((zI (zI ζ 10 (Int.toNat z1) (ζ.1 10 (Int.toNat (12 + z1)))) 11 (Int.toNat z1) ((zI ζ 10 (Int.toNat z1) (ζ.1 10 (Int.toNat (12 + z1)))).1 11 (Int.toNat (12 + z1)))).1 12 (Int.toNat (12 + z1)))).1 13 (Int.toNat (12 + z1)))) 14 (Int.toNat z1) ((zI (zI (zI (zI ζ 10 (Int.toNat z1) (ζ.1 10 (Int.toNat (12 + z1)))) 11 (Int.toNat z1) ((zI ζ 10 (Int.toNat z1) (ζ.1 10 (Int.toNat (12 + z1)))).1 11 (Int.toNat (12 + z1)))) 12 (Int.toNat z1) ((zI (zI ζ 10 (Int.toNat z1) (ζ.1 10 (Int.toNat (12 + z1)))) 11 (Int.toNat z1) ((zI ζ 10 (Int.toNat z1) (ζ.1 10 (Int.toNat (12 + z1)))).1 11 (Int.toNat (12 + z1)))).1 12 (Int.toNat (12 + z1)))) 13 (Int.toNat z1) ((zI (zI (zI ζ 10 (Int.toNat z1) (ζ.1 10 (Int.toNat (12 + z1)))) 11 (Int.toNat z1) ((zI ζ 10 (Int.toNat z1) (ζ.1 10 (Int.toNat (12 + z1)))).1 11 (Int.toNat (12 + z1)))) 12 (Int.toNat z1) ((zI (zI ζ 10 (Int.toNat z1) (ζ.1 10 (Int.toNat (12 + z1)))) 11 (Int.toNat z1) ((zI ζ 10 (Int.toNat z1) (ζ.1 10 (Int.toNat (12 + z1)))).1 11 (Int.toNat (12 + z1)))).1 12 (Int.toNat (12 + z1)))).1 13 (Int.toNat (12 + z1)))).1 14 (Int.toNat (12 + z1)))).1 15 (Int.toNat (12 + z1)))))))))))))))))
def g_X12_takesDraft_14  : Nat → Int → ZS → Option ZS
  | 0, _, _ => none
  | n + 1, z1, ζ =>
    gI 4 z1 (4 ≤ z1) (
      g_X12_takesDraft_69 FU 0 ζ) (
      gk (4 + z1) 8 (
      gk z1 8 (
      gk (4 + z1) 8 (
      gk z1 8 (
      gk (4 + z1) 8 (
      gk z1 8 (
      (g_X12_takesDraft_14 n) (z1 + 1) (zI (zI (zI ζ 6 (Int.toNat z1) (zand (ζ.1 6 (Int.toNat (4 + z1))) 1)) 7 (Int.toNat z1) ((zI ζ 6 (Int.toNat z1) (zand (ζ.1 6 (Int.toNat (4 + z1))) 1)).1 7 (Int.toNat (4 + z1)))) 8 (Int.toNat z1) ((zI (zI ζ 6 (Int.toNat z1) (zand (ζ.1 6 (Int.toNat (4 + z1))) 1)) 7 (Int.toNat z1) ((zI ζ 6 (Int.toNat z1) (zand (ζ.1 6 (Int.toNat (4 + z1))) 1)).1 7 (Int.toNat (4 + z1)))).1 8 (Int.toNat (4 + z1)))))))))))
def g_X12_takesDraft  (ζ : ZS) : Option ZS :=
    gk 1 2 (
    gk 0 2 (
    g_X12_takesDraft_14 FU 0 (zI ζ 9 (Int.toNat 0) (ζ.1 9 (Int.toNat 1)))))
def g_X12_choice_88  (ζ : ZS) : Option (Int × ZS) :=
    some (ζ.1 0 8, ζ)
def g_X12_choice_77  (ζ : ZS) : Option (Int × ZS) :=
    gI (ζ.1 0 8) 0 ((ζ.1 0 8) = 0) (
      (g_X12_takesDraft ζ).bind fun q1 =>
      g_X12_choice_88 q1) (
      g_X12_choice_88 ζ)
def g_X12_choice_68 (r14 : ZS → Option (Int × ZS))  (ζ : ZS) : Option (Int × ZS) :=
    (g_X12_takeSign 59 ζ).bind fun q1 =>
    r14 q1
def g_X12_choice_57 (r14 : ZS → Option (Int × ZS))  (ζ : ZS) : Option (Int × ZS) :=
    (g_X12_readMeasure ζ).bind fun q1 =>
    g_X12_choice_68 r14 q1
def g_X12_choice_14  : Nat → ZS → Option (Int × ZS)
  | 0, _ => none
  | n + 1, ζ =>
    gI (ζ.1 0 8) 0 ((ζ.1 0 8) = 0) (
      gk (ζ.1 0 7) 1002 (
      gI (ζ.1 2 (Int.toNat (ζ.1 0 7))) 0 ((ζ.1 2 (Int.toNat (ζ.1 0 7))) = 0) (
        g_X12_choice_77 ζ) (
        (g_X12_isWord 0 ζ).bind fun q2 =>
        gI q2.1 0 (q2.1 = 0) (
          (g_X12_isWord 1 q2.2).bind fun q3 =>
          gI q3.1 0 (q3.1 = 0) (
            (g_X12_isWord 2 q3.2).bind fun q4 =>
            gI q4.1 0 (q4.1 = 0) (
              (g_X12_readSaying q4.2).bind fun q5 =>
              g_X12_choice_68 (g_X12_choice_14 n) q5) (
              g_X12_choice_57 (g_X12_choice_14 n) q4.2)) (
            g_X12_choice_57 (g_X12_choice_14 n) q3.2)) (
          g_X12_choice_57 (g_X12_choice_14 n) q2.2)))) (
      g_X12_choice_77 ζ)
def g_X12_choice  (ζ : ZS) : Option (Int × ZS) :=
    (g_X12_cutAll (zI ζ 0 0 0)).bind fun q2 =>
    (g_X12_forgetsChoice 1 q2).bind fun q3 =>
    g_X12_choice_14 FU q3
def g_X12_clears_7  : Nat → Int → ZS → Option ZS
  | 0, _, _ => none
  | n + 1, z2, ζ =>
    gI 8 z2 (8 ≤ z2) (
      (g_X12_forgetsChoice 0 ζ).bind fun q1 =>
      some (zI (zI q1 0 23 255) 0 24 0)) (
      gk z2 8 (
      (g_X12_clears_7 n) (z2 + 1) (zI ζ 16 (Int.toNat z2) (zand 0 1))))
def g_X12_clears (z1 : Int) (ζ : ZS) : Option ZS :=
    g_X12_clears_7 FU 0 (zI ζ 0 20 z1)
def g_X12_measures (z1 : Int) (ζ : ZS) : Option (Int × ZS) :=
    (g_X12_within z1 1 4 (zI ζ 0 0 0)).bind fun q2 =>
    gI q2.1 0 (q2.1 = 0) (
      some (0, q2.2)) (
      (g_X12_clears z1 q2.2).bind fun q3 =>
      some (1, q3))
def g_X12_thing_93  (ζ : ZS) : Option (Int × ZS) :=
    some (0, ζ)
def g_X12_thing_181 (zs0 : Int) (zs1 : Int) (cs2 : Nat) (ζ : ZS) : Option (Int × ZS) :=
    gk zs1 (ln cs2) (
    some (1, zI ζ cs2 (Int.toNat zs1) zs0))
def g_X12_thing_157 (z1 : Int) (z5 : Int) (zs0 : Int) (zs1 : Int) (cs2 : Nat) (ζ : ZS) : Option (Int × ZS) :=
    gk zs1 (ln cs2) (
    gI 4 ((zI ζ cs2 (Int.toNat zs1) zs0).1 0 20) (4 ≤ ((zI ζ cs2 (Int.toNat zs1) zs0).1 0 20)) (
      g_X12_thing_181 z5 ((4 * z1) + 3) 17 (zI ζ cs2 (Int.toNat zs1) zs0)) (
      g_X12_thing_181 0 ((4 * z1) + 3) 17 (zI ζ cs2 (Int.toNat zs1) zs0)))
def g_X12_thing_133 (z1 : Int) (z4 : Int) (z5 : Int) (zs0 : Int) (zs1 : Int) (cs2 : Nat) (ζ : ZS) : Option (Int × ZS) :=
    gk zs1 (ln cs2) (
    gI 3 ((zI ζ cs2 (Int.toNat zs1) zs0).1 0 20) (3 ≤ ((zI ζ cs2 (Int.toNat zs1) zs0).1 0 20)) (
      g_X12_thing_157 z1 z5 z4 ((4 * z1) + 2) 17 (zI ζ cs2 (Int.toNat zs1) zs0)) (
      g_X12_thing_157 z1 z5 0 ((4 * z1) + 2) 17 (zI ζ cs2 (Int.toNat zs1) zs0)))
def g_X12_thing_95 (z1 : Int) (z2 : Int) (z3 : Int) (z4 : Int) (z5 : Int) (ζ : ZS) : Option (Int × ZS) :=
    gk z1 8 (
    gk (4 * z1) 32 (
    gI 2 ((zI (zI ζ 16 (Int.toNat z1) (zand 1 1)) 17 (Int.toNat (4 * z1)) z2).1 0 20) (2 ≤ ((zI (zI ζ 16 (Int.toNat z1) (zand 1 1)) 17 (Int.toNat (4 * z1)) z2).1 0 20)) (
      g_X12_thing_133 z1 z4 z5 z3 ((4 * z1) + 1) 17 (zI (zI ζ 16 (Int.toNat z1) (zand 1 1)) 17 (Int.toNat (4 * z1)) z2)) (
      g_X12_thing_133 z1 z4 z5 0 ((4 * z1) + 1) 17 (zI (zI ζ 16 (Int.toNat z1) (zand 1 1)) 17 (Int.toNat (4 * z1)) z2))))
def g_X12_thing_74 (z1 : Int) (z2 : Int) (z3 : Int) (z4 : Int) (z5 : Int) (ζ : ZS) : Option (Int × ZS) :=
    gI (ζ.1 0 20) 3 ((ζ.1 0 20) ≤ 3) (
      g_X12_thing_95 z1 z2 z3 z4 z5 ζ) (
      (g_X12_within z5 0 100 ζ).bind fun q1 =>
      gI q1.1 0 (q1.1 = 0) (
        g_X12_thing_93 q1.2) (
        g_X12_thing_95 z1 z2 z3 z4 z5 q1.2))
def g_X12_thing_48 (z1 : Int) (z2 : Int) (z3 : Int) (z4 : Int) (z5 : Int) (zs0 : Int) (ζ : ZS) : Option (Int × ZS) :=
    gI zs0 0 (zs0 = 0) (
      g_X12_thing_93 ζ) (
      gI (ζ.1 0 20) 2 ((ζ.1 0 20) ≤ 2) (
        g_X12_thing_74 z1 z2 z3 z4 z5 ζ) (
        (g_X12_within z4 0 100 ζ).bind fun q1 =>
        gI q1.1 0 (q1.1 = 0) (
          g_X12_thing_93 q1.2) (
          g_X12_thing_74 z1 z2 z3 z4 z5 q1.2)))
def g_X12_thing_47 (z1 : Int) (z2 : Int) (z3 : Int) (z4 : Int) (z5 : Int) (ζ : ZS) : Option (Int × ZS) :=
    g_X12_thing_48 z1 z2 z3 z4 z5 0 ζ
def g_X12_thing_43 (z1 : Int) (z2 : Int) (z3 : Int) (z4 : Int) (z5 : Int) (ζ : ZS) : Option (Int × ZS) :=
    g_X12_thing_48 z1 z2 z3 z4 z5 1 ζ
def g_X12_thing (z1 : Int) (z2 : Int) (z3 : Int) (z4 : Int) (z5 : Int) (ζ : ZS) : Option (Int × ZS) :=
    (g_X12_within z1 0 7 (zI ζ 0 0 0)).bind fun q2 =>
    gI q2.1 0 (q2.1 = 0) (
      g_X12_thing_47 z1 z2 z3 z4 z5 q2.2) (
      (g_X12_within z2 0 100 q2.2).bind fun q3 =>
      gI q3.1 0 (q3.1 = 0) (
        g_X12_thing_47 z1 z2 z3 z4 z5 q3.2) (
        gI (q3.2.1 0 20) 2 ((q3.2.1 0 20) < 2) (
          g_X12_thing_43 z1 z2 z3 z4 z5 q3.2) (
          (g_X12_within z3 0 100 q3.2).bind fun q4 =>
          gI q4.1 0 (q4.1 = 0) (
            g_X12_thing_47 z1 z2 z3 z4 z5 q4.2) (
            g_X12_thing_43 z1 z2 z3 z4 z5 q4.2))))
def g_X12_isThing_24 (zs0 : Int) (ζ : ZS) : Option (Int × ZS) :=
    gz zs0 (some (zs0, ζ))
def g_X12_isThing_23  (ζ : ZS) : Option (Int × ZS) :=
    g_X12_isThing_24 0 ζ
def g_X12_isThing (z1 : Int) (ζ : ZS) : Option (Int × ZS) :=
    (g_X12_within z1 0 7 ζ).bind fun q1 =>
    gI q1.1 0 (q1.1 = 0) (
      g_X12_isThing_23 q1.2) (
      gk z1 8 (
      gI (q1.2.1 16 (Int.toNat z1)) 0 ((q1.2.1 16 (Int.toNat z1)) = 0) (
        g_X12_isThing_23 q1.2) (
        g_X12_isThing_24 1 q1.2)))
def g_X12_drop (z1 : Int) (ζ : ZS) : Option (Int × ZS) :=
    (g_X12_isThing z1 (zI ζ 0 0 0)).bind fun q2 =>
    gI q2.1 0 (q2.1 = 0) (
      some (0, q2.2)) (
      gk z1 8 (
      some (1, zI q2.2 16 (Int.toNat z1) (zand 0 1))))
def g_X12_voices (z1 : Int) (ζ : ZS) : Option (Int × ZS) :=
    (g_X12_within z1 0 255 (zI ζ 0 0 0)).bind fun q2 =>
    gI q2.1 0 (q2.1 = 0) (
      some (0, q2.2)) (
      some (1, zI q2.2 0 23 z1))
def g_X12_uncapped_35 (zs0 : Int) (ζ : ZS) : Option (Int × ZS) :=
    some (zs0, ζ)
def g_X12_uncapped (z1 : Int) (z2 : Int) (ζ : ZS) : Option (Int × ZS) :=
    gk z2 8 (
    gI (ζ.1 6 (Int.toNat z2)) 0 ((ζ.1 6 (Int.toNat z2)) = 0) (
      gk ((4 * z1) + z2) 32 (
      g_X12_uncapped_35 (ζ.1 17 (Int.toNat ((4 * z1) + z2))) ζ)) (
      gk ((4 * z1) + z2) 32 (
      g_X12_uncapped_35 (100 - (ζ.1 17 (Int.toNat ((4 * z1) + z2)))) ζ)))
def g_X12_valueOf_36 (zs0 : Int) (ζ : ZS) : Option (Int × ZS) :=
    some (zs0, ζ)
def g_X12_valueOf_35 (z3 : Int) (ζ : ZS) : Option (Int × ZS) :=
    g_X12_valueOf_36 z3 ζ
def g_X12_valueOf (z1 : Int) (z2 : Int) (ζ : ZS) : Option (Int × ZS) :=
    (g_X12_uncapped z1 z2 ζ).bind fun q1 =>
    gk z2 8 (
    gI (q1.2.1 7 (Int.toNat z2)) 0 ((q1.2.1 7 (Int.toNat z2)) < 0) (
      g_X12_valueOf_35 q1.1 q1.2) (
      gk z2 8 (
      gI q1.1 (q1.2.1 7 (Int.toNat z2)) (q1.1 ≤ (q1.2.1 7 (Int.toNat z2))) (
        g_X12_valueOf_35 q1.1 q1.2) (
        gk z2 8 (
        g_X12_valueOf_36 (q1.2.1 7 (Int.toNat z2)) q1.2)))))
def g_X12_isIn_56 (z2 : Int) (ζ : ZS) : Option (Int × ZS) :=
    gz z2 (some (z2, ζ))
def g_X12_isIn_49 (r8 : Int → Int → ZS → Option (Int × ZS)) (z1 : Int) (z3 : Int) (zs0 : Int) (ζ : ZS) : Option (Int × ZS) :=
    r8 zs0 (z3 + 1) ζ
def g_X12_isIn_44 (r8 : Int → Int → ZS → Option (Int × ZS)) (z1 : Int) (z3 : Int) (ζ : ZS) : Option (Int × ZS) :=
    g_X12_isIn_49 r8 z1 z3 1 ζ
def g_X12_isIn_8 (z1 : Int) : Nat → Int → Int → ZS → Option (Int × ZS)
  | 0, _, _, _ => none
  | n + 1, z2, z3, ζ =>
    gI (ζ.1 0 20) z3 ((ζ.1 0 20) ≤ z3) (
      g_X12_isIn_56 z2 ζ) (
      gI z2 0 (z2 = 0) (
        g_X12_isIn_56 z2 ζ) (
        gk z3 8 (
        gI (ζ.1 8 (Int.toNat z3)) 0 ((ζ.1 8 (Int.toNat z3)) < 0) (
          g_X12_isIn_44 (g_X12_isIn_8 z1 n) z1 z3 ζ) (
          (g_X12_uncapped z1 z3 ζ).bind fun q2 =>
          gk z3 8 (
          gI q2.1 (q2.2.1 8 (Int.toNat z3)) (q2.1 < (q2.2.1 8 (Int.toNat z3))) (
            g_X12_isIn_49 (g_X12_isIn_8 z1 n) z1 z3 0 q2.2) (
            g_X12_isIn_44 (g_X12_isIn_8 z1 n) z1 z3 q2.2))))))
def g_X12_isIn (z1 : Int) (ζ : ZS) : Option (Int × ZS) :=
    (g_X12_isThing z1 ζ).bind fun q1 =>
    g_X12_isIn_8 z1 FU q1.1 0 q1.2
def g_X12_inMany_24 (r4 : Int → Int → ZS → Option (Int × ZS)) (z2 : Int) (zs0 : Int) (zs1 : Int) (ζ : ZS) : Option (Int × ZS) :=
    r4 (zs1 + zs0) (z2 + 1) ζ
def g_X12_inMany_4  : Nat → Int → Int → ZS → Option (Int × ZS)
  | 0, _, _, _ => none
  | n + 1, z1, z2, ζ =>
    gI 8 z2 (8 ≤ z2) (
      some (z1, ζ)) (
      (g_X12_isIn z2 ζ).bind fun q1 =>
      gI q1.1 0 (q1.1 = 0) (
        g_X12_inMany_24 (g_X12_inMany_4 n) z2 0 z1 q1.2) (
        g_X12_inMany_24 (g_X12_inMany_4 n) z2 1 z1 q1.2))
def g_X12_inMany  (ζ : ZS) : Option (Int × ZS) :=
    g_X12_inMany_4 FU 0 0 ζ
def g_X12_value_48 (zs0 : Int) (ζ : ZS) : Option (Int × ZS) :=
    some (zs0, ζ)
def g_X12_value_28 (z1 : Int) (z2 : Int) (zs0 : Int) (ζ : ZS) : Option (Int × ZS) :=
    gI ((zI ζ 0 0 zs0).1 0 0) 0 (((zI ζ 0 0 zs0).1 0 0) ≤ 0) (
      (g_X12_valueOf z1 z2 (zI ζ 0 0 zs0)).bind fun q2 =>
      g_X12_value_48 q2.1 q2.2) (
      g_X12_value_48 0 (zI ζ 0 0 zs0))
def g_X12_value_27 (z1 : Int) (z2 : Int) (ζ : ZS) : Option (Int × ZS) :=
    g_X12_value_28 z1 z2 1 ζ
def g_X12_value (z1 : Int) (z2 : Int) (ζ : ZS) : Option (Int × ZS) :=
    (g_X12_isThing z1 ζ).bind fun q1 =>
    gI q1.1 0 (q1.1 = 0) (
      g_X12_value_27 z1 z2 q1.2) (
      (g_X12_within z2 0 ((q1.2.1 0 20) - 1) q1.2).bind fun q2 =>
      gI q2.1 0 (q2.1 = 0) (
        g_X12_value_27 z1 z2 q2.2) (
        g_X12_value_28 z1 z2 0 q2.2))
def g_X12_standing_30 (zs0 : Int) (ζ : ZS) : Option (Int × ZS) :=
    some (zs0, ζ)
def g_X12_standing (z1 : Int) (ζ : ZS) : Option (Int × ZS) :=
    (g_X12_isThing z1 (zI ζ 0 0 0)).bind fun q2 =>
    gI q2.1 0 (q2.1 = 0) (
      g_X12_standing_30 (-1) q2.2) (
      (g_X12_isIn z1 q2.2).bind fun q3 =>
      gI q3.1 0 (q3.1 = 0) (
        g_X12_standing_30 0 q3.2) (
        g_X12_standing_30 1 q3.2))
def g_X12_addsRow (z1 : Int) (z3 : Int) (z5 : Int) (z7 : Int) (ζ : ZS) : Option ZS :=
    gk (4 * (ζ.1 0 26)) 256 (
    gk ((4 * ((zJ ζ 19 (Int.toNat (4 * (ζ.1 0 26))) z1).1 0 26)) + 1) 256 (
    gk ((4 * ((zJ (zJ ζ 19 (Int.toNat (4 * (ζ.1 0 26))) z1) 19 (Int.toNat ((4 * ((zJ ζ 19 (Int.toNat (4 * (ζ.1 0 26))) z1).1 0 26)) + 1)) z3).1 0 26)) + 2) 256 (
    gk ((4 * ((zJ (zJ (zJ ζ 19 (Int.toNat (4 * (ζ.1 0 26))) z1) 19 (Int.toNat ((4 * ((zJ ζ 19 (Int.toNat (4 * (ζ.1 0 26))) z1).1 0 26)) + 1)) z3) 19 (Int.toNat ((4 * ((zJ (zJ ζ 19 (Int.toNat (4 * (ζ.1 0 26))) z1) 19 (Int.toNat ((4 * ((zJ ζ 19 (Int.toNat (4 * (ζ.1 0 26))) z1).1 0 26)) + 1)) z3).1 0 26)) + 2)) z5).1 0 26)) + 3) 256 (
    some (zI (zJ (zJ (zJ (zJ ζ 19 (Int.toNat (4 * (ζ.1 0 26))) z1) 19 (Int.toNat ((4 * ((zJ ζ 19 (Int.toNat (4 * (ζ.1 0 26))) z1).1 0 26)) + 1)) z3) 19 (Int.toNat ((4 * ((zJ (zJ ζ 19 (Int.toNat (4 * (ζ.1 0 26))) z1) 19 (Int.toNat ((4 * ((zJ ζ 19 (Int.toNat (4 * (ζ.1 0 26))) z1).1 0 26)) + 1)) z3).1 0 26)) + 2)) z5) 19 (Int.toNat ((4 * ((zJ (zJ (zJ ζ 19 (Int.toNat (4 * (ζ.1 0 26))) z1) 19 (Int.toNat ((4 * ((zJ ζ 19 (Int.toNat (4 * (ζ.1 0 26))) z1).1 0 26)) + 1)) z3) 19 (Int.toNat ((4 * ((zJ (zJ ζ 19 (Int.toNat (4 * (ζ.1 0 26))) z1) 19 (Int.toNat ((4 * ((zJ ζ 19 (Int.toNat (4 * (ζ.1 0 26))) z1).1 0 26)) + 1)) z3).1 0 26)) + 2)) z5).1 0 26)) + 3)) z7) 0 26 (((zJ (zJ (zJ (zJ ζ 19 (Int.toNat (4 * (ζ.1 0 26))) z1) 19 (Int.toNat ((4 * ((zJ ζ 19 (Int.toNat (4 * (ζ.1 0 26))) z1).1 0 26)) + 1)) z3) 19 (Int.toNat ((4 * ((zJ (zJ ζ 19 (Int.toNat (4 * (ζ.1 0 26))) z1) 19 (Int.toNat ((4 * ((zJ ζ 19 (Int.toNat (4 * (ζ.1 0 26))) z1).1 0 26)) + 1)) z3).1 0 26)) + 2)) z5) 19 (Int.toNat ((4 * ((zJ (zJ (zJ ζ 19 (Int.toNat (4 * (ζ.1 0 26))) z1) 19 (Int.toNat ((4 * ((zJ ζ 19 (Int.toNat (4 * (ζ.1 0 26))) z1).1 0 26)) + 1)) z3) 19 (Int.toNat ((4 * ((zJ (zJ ζ 19 (Int.toNat (4 * (ζ.1 0 26))) z1) 19 (Int.toNat ((4 * ((zJ ζ 19 (Int.toNat (4 * (ζ.1 0 26))) z1).1 0 26)) + 1)) z3).1 0 26)) + 2)) z5).1 0 26)) + 3)) z7).1 0 26) + 1))))))
def g_X12_one_10 (zs0 : Int) (ζ : ZS) : Option (Int × ZS) :=
    some (zs0, ζ)
def g_X12_one (z0 : Int) (z1 : Int) (z2 : Int) (ζ : ZS) : Option (Int × ZS) :=
    gI z0 z1 (z0 = z1) (
      g_X12_one_10 z2 ζ) (
      g_X12_one_10 0 ζ)
def g_X12_addsPair (z1 : Int) (z2 : Int) (z4 : Int) (z5 : Int) (ζ : ZS) : Option ZS :=
    (g_X12_one z1 0 z2 ζ).bind fun q1 =>
    (g_X12_one z4 0 z5 q1.2).bind fun q2 =>
    (g_X12_one z1 1 z2 q2.2).bind fun q3 =>
    (g_X12_one z4 1 z5 q3.2).bind fun q4 =>
    (g_X12_one z1 2 z2 q4.2).bind fun q5 =>
    (g_X12_one z4 2 z5 q5.2).bind fun q6 =>
    (g_X12_one z1 3 z2 q6.2).bind fun q7 =>
    (g_X12_one z4 3 z5 q7.2).bind fun q8 =>
    (g_X12_addsRow (q1.1 - q2.1) (q3.1 - q4.1) (q5.1 - q6.1) (q7.1 - q8.1) q8.2).bind fun q9 =>
    some q9
def g_X12_shareOf_14 (zs0 : Int) (ζ : ZS) : Option (Int × ZS) :=
    some (zs0, ζ)
def g_X12_shareOf (z1 : Int) (z2 : Int) (ζ : ZS) : Option (Int × ZS) :=
    gI (ζ.1 0 20) z1 ((ζ.1 0 20) ≤ z1) (
      g_X12_shareOf_14 0 ζ) (
      gw z2 (
      g_X12_shareOf_14 z2 ζ))
def g_X12_addsShare (z1 : Int) (z2 : Int) (z3 : Int) (ζ : ZS) : Option ZS :=
    (g_X12_one z1 0 100 ζ).bind fun q1 =>
    gw z2 (
    (g_X12_one z1 1 100 q1.2).bind fun q3 =>
    (g_X12_shareOf 1 z2 q3.2).bind fun q4 =>
    (g_X12_one z1 2 100 q4.2).bind fun q5 =>
    (g_X12_shareOf 2 z2 q5.2).bind fun q6 =>
    (g_X12_one z1 3 100 q6.2).bind fun q7 =>
    (g_X12_shareOf 3 z2 q7.2).bind fun q8 =>
    (g_X12_addsRow (z3 * (q1.1 - z2)) (z3 * (q3.1 - q4.1)) (z3 * (q5.1 - q6.1)) (z3 * (q7.1 - q8.1)) q8.2).bind fun q9 =>
    some q9)
def g_X12_differ_26 (zs0 : Int) (ζ : ZS) : Option (Int × ZS) :=
    some (zs0, ζ)
def g_X12_differ (z1 : Int) (z2 : Int) (z3 : Int) (ζ : ZS) : Option (Int × ZS) :=
    gI (ζ.1 0 20) z3 ((ζ.1 0 20) ≤ z3) (
      g_X12_differ_26 0 ζ) (
      (g_X12_valueOf z1 z3 ζ).bind fun q1 =>
      (g_X12_valueOf z2 z3 q1.2).bind fun q2 =>
      gw (q1.1 - q2.1) (
      g_X12_differ_26 (q1.1 - q2.1) q2.2))
def g_X12_addsBetter (z1 : Int) (z2 : Int) (ζ : ZS) : Option ZS :=
    (g_X12_differ z1 z2 0 ζ).bind fun q1 =>
    (g_X12_differ z1 z2 1 q1.2).bind fun q2 =>
    (g_X12_differ z1 z2 2 q2.2).bind fun q3 =>
    (g_X12_differ z1 z2 3 q3.2).bind fun q4 =>
    (g_X12_addsRow q1.1 q2.1 q3.1 q4.1 q4.2).bind fun q5 =>
    some q5
def g_X12_addsSaying_159  (ζ : ZS) : Option ZS :=
    some ζ
def g_X12_addsSaying (z1 : Int) (ζ : ZS) : Option ZS :=
    gk z1 24 (
    gk z1 24 (
    gk z1 24 (
    gI (ζ.1 11 (Int.toNat z1)) 3 ((ζ.1 11 (Int.toNat z1)) = 3) (
      (g_X12_addsPair (ζ.1 14 (Int.toNat z1)) 1 (ζ.1 15 (Int.toNat z1)) 1 ζ).bind fun q4 =>
      g_X12_addsSaying_159 q4) (
    gI (ζ.1 11 (Int.toNat z1)) 4 ((ζ.1 11 (Int.toNat z1)) = 4) (
      (g_X12_addsPair (ζ.1 14 (Int.toNat z1)) 1 (ζ.1 15 (Int.toNat z1)) 2 ζ).bind fun q5 =>
      g_X12_addsSaying_159 q5) (
    gI (ζ.1 11 (Int.toNat z1)) 5 ((ζ.1 11 (Int.toNat z1)) = 5) (
      gk z1 24 (
      gw (ζ.1 12 (Int.toNat z1)) (
      gk z1 24 (
      gw (ζ.1 13 (Int.toNat z1)) (
      (g_X12_addsPair (ζ.1 14 (Int.toNat z1)) (ζ.1 12 (Int.toNat z1)) (ζ.1 15 (Int.toNat z1)) (ζ.1 13 (Int.toNat z1)) ζ).bind fun q10 =>
      g_X12_addsSaying_159 q10))))) (
    gI (ζ.1 11 (Int.toNat z1)) 6 ((ζ.1 11 (Int.toNat z1)) = 6) (
      gk z1 24 (
      (g_X12_addsShare (ζ.1 14 (Int.toNat z1)) (ζ.1 12 (Int.toNat z1)) 1 ζ).bind fun q12 =>
      g_X12_addsSaying_159 q12)) (
    gI (ζ.1 11 (Int.toNat z1)) 7 ((ζ.1 11 (Int.toNat z1)) = 7) (
      gk z1 24 (
      (g_X12_addsShare (ζ.1 14 (Int.toNat z1)) (ζ.1 12 (Int.toNat z1)) (-1) ζ).bind fun q14 =>
      g_X12_addsSaying_159 q14)) (
    gk (ζ.1 14 (Int.toNat z1)) 8 (
    gI (ζ.1 16 (Int.toNat (ζ.1 14 (Int.toNat z1)))) 0 ((ζ.1 16 (Int.toNat (ζ.1 14 (Int.toNat z1)))) = 0) (
      g_X12_addsSaying_159 ζ) (
      gk (ζ.1 15 (Int.toNat z1)) 8 (
      gI (ζ.1 16 (Int.toNat (ζ.1 15 (Int.toNat z1)))) 0 ((ζ.1 16 (Int.toNat (ζ.1 15 (Int.toNat z1)))) = 0) (
        g_X12_addsSaying_159 ζ) (
        (g_X12_addsBetter (ζ.1 14 (Int.toNat z1)) (ζ.1 15 (Int.toNat z1)) ζ).bind fun q17 =>
        g_X12_addsSaying_159 q17))))))))))))
def g_X12_isHeard_22 (zs0 : Int) (ζ : ZS) : Option (Int × ZS) :=
    gz zs0 (some (zs0, ζ))
def g_X12_isHeard (z1 : Int) (ζ : ZS) : Option (Int × ZS) :=
    gk z1 24 (
    gI (zand (zshr (ζ.1 0 23) (ζ.1 10 (Int.toNat z1))) 1) 1 ((zand (zshr (ζ.1 0 23) (ζ.1 10 (Int.toNat z1))) 1) = 1) (
      g_X12_isHeard_22 1 ζ) (
      g_X12_isHeard_22 0 ζ))
def g_X12_beginsRows_7  : Nat → Int → ZS → Option ZS
  | 0, _, _ => none
  | n + 1, z1, ζ =>
    gI (ζ.1 0 20) z1 ((ζ.1 0 20) ≤ z1) (
      some ζ) (
      (g_X12_one z1 0 1 ζ).bind fun q1 =>
      (g_X12_one z1 1 1 q1.2).bind fun q2 =>
      (g_X12_one z1 2 1 q2.2).bind fun q3 =>
      (g_X12_one z1 3 1 q3.2).bind fun q4 =>
      (g_X12_addsRow q1.1 q2.1 q3.1 q4.1 q4.2).bind fun q5 =>
      (g_X12_beginsRows_7 n) (z1 + 1) q5)
def g_X12_beginsRows  (ζ : ZS) : Option ZS :=
    g_X12_beginsRows_7 FU 0 (zI ζ 0 26 0)
def g_X12_laysRows_30 (r6 : Int → ZS → Option ZS) (z1 : Int) (z2 : Int) (ζ : ZS) : Option ZS :=
    r6 (z2 + 1) ζ
def g_X12_laysRows_6 (z1 : Int) : Nat → Int → ZS → Option ZS
  | 0, _, _ => none
  | n + 1, z2, ζ =>
    gk 0 2 (
    gI (ζ.1 9 (Int.toNat 0)) z2 ((ζ.1 9 (Int.toNat 0)) ≤ z2) (
      some ζ) (
      gI (zand (zshr z1 z2) 1) 1 ((zand (zshr z1 z2) 1) = 1) (
        (g_X12_addsSaying z2 ζ).bind fun q2 =>
        g_X12_laysRows_30 (g_X12_laysRows_6 z1 n) z1 z2 q2) (
        g_X12_laysRows_30 (g_X12_laysRows_6 z1 n) z1 z2 ζ)))
def g_X12_laysRows (z1 : Int) (ζ : ZS) : Option ZS :=
    (g_X12_beginsRows ζ).bind fun q1 =>
    g_X12_laysRows_6 z1 FU 0 q1
def g_X12_heard_30 (r4 : Int → Int → ZS → Option (Int × ZS)) (z2 : Int) (zs0 : Int) (zs1 : Int) (ζ : ZS) : Option (Int × ZS) :=
    r4 (zor zs1 zs0) (z2 + 1) ζ
def g_X12_heard_4  : Nat → Int → Int → ZS → Option (Int × ZS)
  | 0, _, _, _ => none
  | n + 1, z1, z2, ζ =>
    gk 0 2 (
    gI (ζ.1 9 (Int.toNat 0)) z2 ((ζ.1 9 (Int.toNat 0)) ≤ z2) (
      some (z1, ζ)) (
      (g_X12_isHeard z2 ζ).bind fun q2 =>
      gI q2.1 0 (q2.1 = 0) (
        g_X12_heard_30 (g_X12_heard_4 n) z2 0 z1 q2.2) (
        g_X12_heard_30 (g_X12_heard_4 n) z2 (zshl 1 z2) z1 q2.2)))
def g_X12_heard  (ζ : ZS) : Option (Int × ZS) :=
    g_X12_heard_4 FU 0 0 ζ
def g_X12_common_28  : Nat → Int → Int → ZS → Option (Int × ZS)
  | 0, _, _, _ => none
  | n + 1, z4, z6, ζ =>
    gJ z6 0 (z6 = 0) (
      some (z4, ζ)) (
      gdJ z4 z6 (
      (g_X12_common_28 n) z6 (Int.tmod z4 z6) ζ))
def g_X12_common_26 (z4 : Int) (zs0 : Int) (ζ : ZS) : Option (Int × ZS) :=
    g_X12_common_28 FU z4 zs0 ζ
def g_X12_common_12 (z2 : Int) (zs0 : Int) (ζ : ZS) : Option (Int × ZS) :=
    gJ 0 z2 (0 ≤ z2) (
      g_X12_common_26 zs0 z2 ζ) (
      g_X12_common_26 zs0 (-z2) ζ)
def g_X12_common (z0 : Int) (z2 : Int) (ζ : ZS) : Option (Int × ZS) :=
    gJ 0 z0 (0 ≤ z0) (
      g_X12_common_12 z2 z0 ζ) (
      g_X12_common_12 z2 (-z0) ζ)
def g_X12_times_6 (z1 : Int) (z2 : Int) (z3 : Int) : Nat → Int → Int → ZS → Option (Int × ZS)
  | 0, _, _, _ => none
  | n + 1, z4, z6, ζ =>
    gI (ζ.1 0 20) z6 ((ζ.1 0 20) ≤ z6) (
      some (z4, ζ)) (
      gk ((4 * z1) + z6) 256 (
      gk ((4 * ((72 * z2) + z3)) + z6) 3456 (
      (g_X12_times_6 z1 z2 z3 n) (z4 + ((ζ.2.1 19 (Int.toNat ((4 * z1) + z6))) * (ζ.2.1 22 (Int.toNat ((4 * ((72 * z2) + z3)) + z6))))) (z6 + 1) ζ)))
def g_X12_times (z1 : Int) (z2 : Int) (z3 : Int) (ζ : ZS) : Option (Int × ZS) :=
    g_X12_times_6 z1 z2 z3 FU 0 0 ζ
def g_X12_two (z0 : Int) (z2 : Int) (z4 : Int) (z6 : Int) (ζ : ZS) : Option (Int × ZS) :=
    some ((z0 * z6) - (z2 * z4), ζ)
def g_X12_three (z1 : Int) (z2 : Int) (z3 : Int) (z4 : Int) (z5 : Int) (z6 : Int) (ζ : ZS) : Option (Int × ZS) :=
    gk ((4 * z1) + z4) 256 (
    gk ((4 * z2) + z5) 256 (
    gk ((4 * z2) + z6) 256 (
    gk ((4 * z3) + z5) 256 (
    gk ((4 * z3) + z6) 256 (
    (g_X12_two (ζ.2.1 19 (Int.toNat ((4 * z2) + z5))) (ζ.2.1 19 (Int.toNat ((4 * z2) + z6))) (ζ.2.1 19 (Int.toNat ((4 * z3) + z5))) (ζ.2.1 19 (Int.toNat ((4 * z3) + z6))) ζ).bind fun q6 =>
    gk ((4 * z1) + z5) 256 (
    gk ((4 * z2) + z4) 256 (
    gk ((4 * z2) + z6) 256 (
    gk ((4 * z3) + z4) 256 (
    gk ((4 * z3) + z6) 256 (
    (g_X12_two (q6.2.2.1 19 (Int.toNat ((4 * z2) + z4))) (q6.2.2.1 19 (Int.toNat ((4 * z2) + z6))) (q6.2.2.1 19 (Int.toNat ((4 * z3) + z4))) (q6.2.2.1 19 (Int.toNat ((4 * z3) + z6))) q6.2).bind fun q12 =>
    gk ((4 * z1) + z6) 256 (
    gk ((4 * z2) + z4) 256 (
    gk ((4 * z2) + z5) 256 (
    gk ((4 * z3) + z4) 256 (
    gk ((4 * z3) + z5) 256 (
    (g_X12_two (q12.2.2.1 19 (Int.toNat ((4 * z2) + z4))) (q12.2.2.1 19 (Int.toNat ((4 * z2) + z5))) (q12.2.2.1 19 (Int.toNat ((4 * z3) + z4))) (q12.2.2.1 19 (Int.toNat ((4 * z3) + z5))) q12.2).bind fun q18 =>
    some ((((ζ.2.1 19 (Int.toNat ((4 * z1) + z4))) * q6.1) - ((q6.2.2.1 19 (Int.toNat ((4 * z1) + z5))) * q12.1)) + ((q12.2.2.1 19 (Int.toNat ((4 * z1) + z6))) * q18.1), q18.2))))))))))))))))
def g_X12_crosses_300  (ζ : ZS) : Option ZS :=
    some ζ
def g_X12_crosses_3 (z1 : Int) (z2 : Int) (z3 : Int) : Nat → Int → ZS → Option ZS
  | 0, _, _ => none
  | n + 1, z4, ζ =>
    gI 4 z4 (4 ≤ z4) (
      gI (ζ.1 0 20) 1 ((ζ.1 0 20) = 1) (
        gk 0 4 (
        g_X12_crosses_300 (zJ ζ 23 (Int.toNat 0) 1))) (
        gI (ζ.1 0 20) 2 ((ζ.1 0 20) = 2) (
          gk ((4 * z1) + 1) 256 (
          gk 0 4 (
          gk (4 * z1) 256 (
          gk 1 4 (
          g_X12_crosses_300 (zJ (zJ ζ 23 (Int.toNat 0) (ζ.2.1 19 (Int.toNat ((4 * z1) + 1)))) 23 (Int.toNat 1) (-((zJ ζ 23 (Int.toNat 0) (ζ.2.1 19 (Int.toNat ((4 * z1) + 1)))).2.1 19 (Int.toNat (4 * z1)))))))))) (
          gI (ζ.1 0 20) 3 ((ζ.1 0 20) = 3) (
            gk ((4 * z1) + 1) 256 (
            gk ((4 * z1) + 2) 256 (
            gk ((4 * z2) + 1) 256 (
            gk ((4 * z2) + 2) 256 (
            (g_X12_two (ζ.2.1 19 (Int.toNat ((4 * z1) + 1))) (ζ.2.1 19 (Int.toNat ((4 * z1) + 2))) (ζ.2.1 19 (Int.toNat ((4 * z2) + 1))) (ζ.2.1 19 (Int.toNat ((4 * z2) + 2))) ζ).bind fun q17 =>
            gk 0 4 (
            gk (4 * z1) 256 (
            gk ((4 * z1) + 2) 256 (
            gk (4 * z2) 256 (
            gk ((4 * z2) + 2) 256 (
            (g_X12_two ((zJ q17.2 23 (Int.toNat 0) q17.1).2.1 19 (Int.toNat (4 * z1))) ((zJ q17.2 23 (Int.toNat 0) q17.1).2.1 19 (Int.toNat ((4 * z1) + 2))) ((zJ q17.2 23 (Int.toNat 0) q17.1).2.1 19 (Int.toNat (4 * z2))) ((zJ q17.2 23 (Int.toNat 0) q17.1).2.1 19 (Int.toNat ((4 * z2) + 2))) (zJ q17.2 23 (Int.toNat 0) q17.1)).bind fun q24 =>
            gk 1 4 (
            gk (4 * z1) 256 (
            gk ((4 * z1) + 1) 256 (
            gk (4 * z2) 256 (
            gk ((4 * z2) + 1) 256 (
            (g_X12_two ((zJ q24.2 23 (Int.toNat 1) (-q24.1)).2.1 19 (Int.toNat (4 * z1))) ((zJ q24.2 23 (Int.toNat 1) (-q24.1)).2.1 19 (Int.toNat ((4 * z1) + 1))) ((zJ q24.2 23 (Int.toNat 1) (-q24.1)).2.1 19 (Int.toNat (4 * z2))) ((zJ q24.2 23 (Int.toNat 1) (-q24.1)).2.1 19 (Int.toNat ((4 * z2) + 1))) (zJ q24.2 23 (Int.toNat 1) (-q24.1))).bind fun q31 =>
            gk 2 4 (
            g_X12_crosses_300 (zJ q31.2 23 (Int.toNat 2) q31.1))))))))))))))))) (
            (g_X12_three z1 z2 z3 1 2 3 ζ).bind fun q1 =>
            gk 0 4 (
            (g_X12_three z1 z2 z3 0 2 3 (zJ q1.2 23 (Int.toNat 0) q1.1)).bind fun q4 =>
            gk 1 4 (
            (g_X12_three z1 z2 z3 0 1 3 (zJ q4.2 23 (Int.toNat 1) (-q4.1))).bind fun q7 =>
            gk 2 4 (
            (g_X12_three z1 z2 z3 0 1 2 (zJ q7.2 23 (Int.toNat 2) q7.1)).bind fun q10 =>
            gk 3 4 (
            g_X12_crosses_300 (zJ q10.2 23 (Int.toNat 3) (-q10.1)))))))))) (
      gk z4 4 (
      (g_X12_crosses_3 z1 z2 z3 n) (z4 + 1) (zJ ζ 23 (Int.toNat z4) 0)))
def g_X12_crosses (z1 : Int) (z2 : Int) (z3 : Int) (ζ : ZS) : Option ZS :=
    g_X12_crosses_3 z1 z2 z3 FU 0 ζ
def g_X12_keepsFound_223 (r160 : Int → ZS → Option ZS) (r173 : Int → Int → ZS → Option ZS) (z1 : Int) (z6 : Int) (z7 : Int) (z8 : Int) (z10 : Int) (zs0 : Int) (ζ : ZS) : Option ZS :=
    r173 zs0 (z10 + 1) ζ
def g_X12_keepsFound_222 (r160 : Int → ZS → Option ZS) (r173 : Int → Int → ZS → Option ZS) (z1 : Int) (z6 : Int) (z7 : Int) (z8 : Int) (z10 : Int) (ζ : ZS) : Option ZS :=
    g_X12_keepsFound_223 r160 r173 z1 z6 z7 z8 z10 0 ζ
def g_X12_keepsFound_173 (z1 : Int) (z6 : Int) (z7 : Int) (z8 : Int) (r160 : Int → ZS → Option ZS) : Nat → Int → Int → ZS → Option ZS
  | 0, _, _, _ => none
  | n + 1, z9, z10, ζ =>
    gI (ζ.1 0 20) z10 ((ζ.1 0 20) ≤ z10) (
      gI z9 0 (z9 = 0) (
        r160 (z8 + 1) ζ) (
        some ζ)) (
      gI z9 0 (z9 = 0) (
        g_X12_keepsFound_222 r160 (g_X12_keepsFound_173 z1 z6 z7 z8 r160 n) z1 z6 z7 z8 z10 ζ) (
        gk ((4 * ((72 * z1) + z8)) + z10) 3456 (
        gk (z7 + z10) 3456 (
        gJ (ζ.2.1 22 (Int.toNat ((4 * ((72 * z1) + z8)) + z10))) (ζ.2.1 22 (Int.toNat (z7 + z10))) ((ζ.2.1 22 (Int.toNat ((4 * ((72 * z1) + z8)) + z10))) = (ζ.2.1 22 (Int.toNat (z7 + z10)))) (
          g_X12_keepsFound_223 r160 (g_X12_keepsFound_173 z1 z6 z7 z8 r160 n) z1 z6 z7 z8 z10 1 ζ) (
          g_X12_keepsFound_222 r160 (g_X12_keepsFound_173 z1 z6 z7 z8 r160 n) z1 z6 z7 z8 z10 ζ)))))
def g_X12_keepsFound_160 (z1 : Int) (z6 : Int) (z7 : Int) : Nat → Int → ZS → Option ZS
  | 0, _, _ => none
  | n + 1, z8, ζ =>
    gI z6 z8 (z6 ≤ z8) (
      gk z1 12 (
      gk z1 12 (
      some (zI ζ 20 (Int.toNat z1) ((ζ.1 20 (Int.toNat z1)) + 1))))) (
      g_X12_keepsFound_173 z1 z6 z7 z8 (g_X12_keepsFound_160 z1 z6 z7 n) FU 1 0 ζ)
def g_X12_keepsFound_127 (z1 : Int) (z6 : Int) (z7 : Int) : Nat → Int → ZS → Option ZS
  | 0, _, _ => none
  | n + 1, z8, ζ =>
    gI (ζ.1 0 26) z8 ((ζ.1 0 26) ≤ z8) (
      g_X12_keepsFound_160 z1 z6 z7 FU 0 ζ) (
      (g_X12_times z8 z1 z6 ζ).bind fun q1 =>
      gJ 0 q1.1 (0 ≤ q1.1) (
        (g_X12_keepsFound_127 z1 z6 z7 n) (z8 + 1) q1.2) (
        some q1.2))
def g_X12_keepsFound_117 (r73 : Int → ZS → Option ZS) (z1 : Int) (z2 : Int) (z4 : Int) (z6 : Int) (z7 : Int) (z8 : Int) (zs0 : Int) (zs1 : Int) (cs2 : Nat) (ζ : ZS) : Option ZS :=
    gk zs1 (ln cs2) (
    r73 (z8 + 1) (zJ ζ cs2 (Int.toNat zs1) zs0))
def g_X12_keepsFound_73 (z1 : Int) (z2 : Int) (z4 : Int) (z6 : Int) (z7 : Int) : Nat → Int → ZS → Option ZS
  | 0, _, _ => none
  | n + 1, z8, ζ =>
    gI 4 z8 (4 ≤ z8) (
      g_X12_keepsFound_127 z1 z6 z7 FU 0 ζ) (
      gJ 0 z4 (0 ≤ z4) (
        gk z8 4 (
        gdJ (ζ.2.1 23 (Int.toNat z8)) z2 (
        g_X12_keepsFound_117 (g_X12_keepsFound_73 z1 z2 z4 z6 z7 n) z1 z2 z4 z6 z7 z8 (Int.tdiv (ζ.2.1 23 (Int.toNat z8)) z2) (z7 + z8) 22 ζ))) (
        gk z8 4 (
        gdJ (-(ζ.2.1 23 (Int.toNat z8))) z2 (
        g_X12_keepsFound_117 (g_X12_keepsFound_73 z1 z2 z4 z6 z7 n) z1 z2 z4 z6 z7 z8 (Int.tdiv (-(ζ.2.1 23 (Int.toNat z8))) z2) (z7 + z8) 22 ζ))))
def g_X12_keepsFound_8 (z1 : Int) : Nat → Int → Int → Int → ZS → Option ZS
  | 0, _, _, _, _ => none
  | n + 1, z2, z4, z6, ζ =>
    gI 4 z6 (4 ≤ z6) (
      gJ z2 0 (z2 = 0) (
        some ζ) (
        gk z1 12 (
        g_X12_keepsFound_73 z1 z2 z4 (ζ.1 20 (Int.toNat z1)) (4 * ((72 * z1) + (ζ.1 20 (Int.toNat z1)))) FU 0 ζ))) (
      gk z6 4 (
      (g_X12_common z2 (ζ.2.1 23 (Int.toNat z6)) ζ).bind fun q3 =>
      gk z6 4 (
      (g_X12_keepsFound_8 z1 n) q3.1 (z4 + (q3.2.2.1 23 (Int.toNat z6))) (z6 + 1) q3.2)))
def g_X12_keepsFound (z1 : Int) (ζ : ZS) : Option ZS :=
    g_X12_keepsFound_8 z1 FU 0 0 0 ζ
def g_X12_findCorners_90 (r9 : Int → ZS → Option ZS) (r33 : Int → ZS → Option ZS) (r71 : Int → ZS → Option ZS) (z1 : Int) (z2 : Int) (z3 : Int) (zs0 : Int) (zs1 : Int) (ζ : ZS) : Option ZS :=
    gI zs0 zs1 (zs0 ≤ zs1) (
      r33 (z2 + 1) ζ) (
      (g_X12_crosses z1 z2 z3 ζ).bind fun q1 =>
      (g_X12_keepsFound 0 q1).bind fun q2 =>
      r71 (z3 + 1) q2)
def g_X12_findCorners_71 (z1 : Int) (z2 : Int) (r9 : Int → ZS → Option ZS) (r33 : Int → ZS → Option ZS) : Nat → Int → ZS → Option ZS
  | 0, _, _ => none
  | n + 1, z3, ζ =>
    gI 4 (ζ.1 0 20) (4 ≤ (ζ.1 0 20)) (
      g_X12_findCorners_90 r9 r33 (g_X12_findCorners_71 z1 z2 r9 r33 n) z1 z2 z3 (ζ.1 0 26) z3 ζ) (
      g_X12_findCorners_90 r9 r33 (g_X12_findCorners_71 z1 z2 r9 r33 n) z1 z2 z3 (z2 + 1) z3 ζ)
def g_X12_findCorners_70 (r9 : Int → ZS → Option ZS) (r33 : Int → ZS → Option ZS) (z1 : Int) (z2 : Int) (zs0 : Int) (ζ : ZS) : Option ZS :=
    g_X12_findCorners_71 z1 z2 r9 r33 FU zs0 ζ
def g_X12_findCorners_52 (r9 : Int → ZS → Option ZS) (r33 : Int → ZS → Option ZS) (z1 : Int) (z2 : Int) (zs0 : Int) (zs1 : Int) (ζ : ZS) : Option ZS :=
    gI zs0 zs1 (zs0 ≤ zs1) (
      r9 (z1 + 1) ζ) (
      gI 4 (ζ.1 0 20) (4 ≤ (ζ.1 0 20)) (
        g_X12_findCorners_70 r9 r33 z1 z2 (z2 + 1) ζ) (
        g_X12_findCorners_70 r9 r33 z1 z2 z2 ζ))
def g_X12_findCorners_33 (z1 : Int) (r9 : Int → ZS → Option ZS) : Nat → Int → ZS → Option ZS
  | 0, _, _ => none
  | n + 1, z2, ζ =>
    gI 3 (ζ.1 0 20) (3 ≤ (ζ.1 0 20)) (
      g_X12_findCorners_52 r9 (g_X12_findCorners_33 z1 r9 n) z1 z2 (ζ.1 0 26) z2 ζ) (
      g_X12_findCorners_52 r9 (g_X12_findCorners_33 z1 r9 n) z1 z2 (z1 + 1) z2 ζ)
def g_X12_findCorners_32 (r9 : Int → ZS → Option ZS) (z1 : Int) (zs0 : Int) (ζ : ZS) : Option ZS :=
    g_X12_findCorners_33 z1 r9 FU zs0 ζ
def g_X12_findCorners_9  : Nat → Int → ZS → Option ZS
  | 0, _, _ => none
  | n + 1, z1, ζ =>
    gI (ζ.1 0 26) z1 ((ζ.1 0 26) ≤ z1) (
      gk 0 12 (
      some (zI ζ 21 (Int.toNat 0) (ζ.1 0 26)))) (
      gI 3 (ζ.1 0 20) (3 ≤ (ζ.1 0 20)) (
        g_X12_findCorners_32 (g_X12_findCorners_9 n) z1 (z1 + 1) ζ) (
        g_X12_findCorners_32 (g_X12_findCorners_9 n) z1 z1 ζ))
def g_X12_findCorners  (ζ : ZS) : Option ZS :=
    gk 0 12 (
    g_X12_findCorners_9 FU 0 (zI ζ 20 (Int.toNat 0) 0))
def g_X12_findMore_250 (z1 : Int) (ζ : ZS) : Option ZS :=
    gk z1 12 (
    some (zI ζ 21 (Int.toNat z1) (ζ.1 0 26)))
def g_X12_findMore_233 (r128 : Int → ZS → Option ZS) (r165 : Int → ZS → Option ZS) (z1 : Int) (z2 : Int) (z3 : Int) (z4 : Int) (z5 : Int) (ζ : ZS) : Option ZS :=
    (g_X12_keepsFound z1 ζ).bind fun q1 =>
    r165 (z5 + 1) q1
def g_X12_findMore_183 (r128 : Int → ZS → Option ZS) (r165 : Int → ZS → Option ZS) (z1 : Int) (z2 : Int) (z3 : Int) (z4 : Int) (z5 : Int) (zs0 : Int) (zs1 : Int) (ζ : ZS) : Option ZS :=
    gI zs0 zs1 (zs0 ≤ zs1) (
      r128 (z4 + 1) ζ) (
      gI (ζ.1 0 20) 2 ((ζ.1 0 20) = 2) (
        (g_X12_crosses z2 z2 z2 ζ).bind fun q3 =>
        g_X12_findMore_233 r128 r165 z1 z2 z3 z4 z5 q3) (
        gI (ζ.1 0 20) 3 ((ζ.1 0 20) = 3) (
          (g_X12_crosses z2 z4 z4 ζ).bind fun q2 =>
          g_X12_findMore_233 r128 r165 z1 z2 z3 z4 z5 q2) (
          (g_X12_crosses z2 z4 z5 ζ).bind fun q1 =>
          g_X12_findMore_233 r128 r165 z1 z2 z3 z4 z5 q1)))
def g_X12_findMore_165 (z1 : Int) (z2 : Int) (z3 : Int) (z4 : Int) (r128 : Int → ZS → Option ZS) : Nat → Int → ZS → Option ZS
  | 0, _, _ => none
  | n + 1, z5, ζ =>
    gI 4 (ζ.1 0 20) (4 ≤ (ζ.1 0 20)) (
      g_X12_findMore_183 r128 (g_X12_findMore_165 z1 z2 z3 z4 r128 n) z1 z2 z3 z4 z5 z2 z5 ζ) (
      g_X12_findMore_183 r128 (g_X12_findMore_165 z1 z2 z3 z4 r128 n) z1 z2 z3 z4 z5 (z4 + 1) z5 ζ)
def g_X12_findMore_163 (r128 : Int → ZS → Option ZS) (z1 : Int) (z2 : Int) (z3 : Int) (z4 : Int) (zs0 : Int) (ζ : ZS) : Option ZS :=
    g_X12_findMore_165 z1 z2 z3 z4 r128 FU zs0 ζ
def g_X12_findMore_128 (z1 : Int) (z2 : Int) (z3 : Int) : Nat → Int → ZS → Option ZS
  | 0, _, _ => none
  | n + 1, z4, ζ =>
    gI z2 z4 (z2 ≤ z4) (
      g_X12_findMore_250 z1 ζ) (
      gI z3 0 (z3 = 0) (
        gI (ζ.1 0 20) 1 ((ζ.1 0 20) ≤ 1) (
          g_X12_findMore_250 z1 ζ) (
          gI 4 (ζ.1 0 20) (4 ≤ (ζ.1 0 20)) (
            g_X12_findMore_163 (g_X12_findMore_128 z1 z2 z3 n) z1 z2 z3 z4 (z4 + 1) ζ) (
            g_X12_findMore_163 (g_X12_findMore_128 z1 z2 z3 n) z1 z2 z3 z4 z4 ζ))) (
        g_X12_findMore_250 z1 ζ))
def g_X12_findMore_124 (z1 : Int) (z2 : Int) (zs0 : Int) (ζ : ZS) : Option ZS :=
    g_X12_findMore_128 z1 z2 zs0 FU 0 ζ
def g_X12_findMore_119 (z1 : Int) (z2 : Int) (ζ : ZS) : Option ZS :=
    g_X12_findMore_124 z1 z2 1 ζ
def g_X12_findMore_87 (r16 : Int → ZS → Option ZS) (z1 : Int) (z2 : Int) (z3 : Int) (ζ : ZS) : Option ZS :=
    r16 (z3 + 1) ζ
def g_X12_findMore_45 (z1 : Int) (z2 : Int) (z3 : Int) (r16 : Int → ZS → Option ZS) : Nat → Int → ZS → Option ZS
  | 0, _, _ => none
  | n + 1, z4, ζ =>
    gI 4 z4 (4 ≤ z4) (
      (g_X12_keepsFound z1 ζ).bind fun q1 =>
      g_X12_findMore_87 r16 z1 z2 z3 q1) (
      gk ((4 * ((72 * (z1 - 1)) + z3)) + z4) 3456 (
      gk z4 4 (
      (g_X12_findMore_45 z1 z2 z3 r16 n) (z4 + 1) (zJ ζ 23 (Int.toNat z4) (ζ.2.1 22 (Int.toNat ((4 * ((72 * (z1 - 1)) + z3)) + z4)))))))
def g_X12_findMore_16 (z1 : Int) (z2 : Int) : Nat → Int → ZS → Option ZS
  | 0, _, _ => none
  | n + 1, z3, ζ =>
    gk (z1 - 1) 12 (
    gI (ζ.1 20 (Int.toNat (z1 - 1))) z3 ((ζ.1 20 (Int.toNat (z1 - 1))) ≤ z3) (
      gk z1 12 (
      gk (z1 - 1) 12 (
      gI (ζ.1 20 (Int.toNat z1)) (ζ.1 20 (Int.toNat (z1 - 1))) ((ζ.1 20 (Int.toNat z1)) = (ζ.1 20 (Int.toNat (z1 - 1)))) (
        g_X12_findMore_119 z1 z2 ζ) (
        gk z1 12 (
        gI (ζ.1 20 (Int.toNat z1)) 0 ((ζ.1 20 (Int.toNat z1)) = 0) (
          g_X12_findMore_119 z1 z2 ζ) (
          g_X12_findMore_124 z1 z2 0 ζ)))))) (
      (g_X12_times z2 (z1 - 1) z3 ζ).bind fun q5 =>
      gJ q5.1 0 (q5.1 < 0) (
        g_X12_findMore_87 (g_X12_findMore_16 z1 z2 n) z1 z2 z3 q5.2) (
        g_X12_findMore_45 z1 z2 z3 (g_X12_findMore_16 z1 z2 n) FU 0 q5.2)))
def g_X12_findMore (z1 : Int) (ζ : ZS) : Option ZS :=
    gk z1 12 (
    g_X12_findMore_16 z1 ((ζ.1 0 26) - 1) FU 0 (zI ζ 20 (Int.toNat z1) 0))
def g_X12_backTo (z1 : Int) (ζ : ZS) : Option ZS :=
    gk z1 12 (
    some (zI ζ 0 26 (ζ.1 21 (Int.toNat z1))))
def g_X12_findNow_26 (zs0 : Int) (ζ : ZS) : Option (Int × ZS) :=
    gz zs0 (some (zs0, ζ))
def g_X12_findNow  (ζ : ZS) : Option (Int × ZS) :=
    (g_X12_heard ζ).bind fun q1 =>
    (g_X12_laysRows q1.1 q1.2).bind fun q2 =>
    (g_X12_findCorners q2).bind fun q3 =>
    gk 0 12 (
    gI (q3.1 20 (Int.toNat 0)) 0 ((q3.1 20 (Int.toNat 0)) ≤ 0) (
      g_X12_findNow_26 0 q3) (
      g_X12_findNow_26 1 q3))
def g_X12_seenAs_29 (zs0 : Int) (ζ : ZS) : Option (Int × ZS) :=
    some (zs0, ζ)
def g_X12_seenAs_23 (z1 : Int) (z2 : Int) (ζ : ZS) : Option (Int × ZS) :=
    (g_X12_valueOf z1 z2 ζ).bind fun q1 =>
    g_X12_seenAs_29 q1.1 q1.2
def g_X12_seenAs (z1 : Int) (z2 : Int) (ζ : ZS) : Option (Int × ZS) :=
    gI z1 (ζ.1 0 32) (z1 = (ζ.1 0 32)) (
      gI z2 (ζ.1 0 33) (z2 = (ζ.1 0 33)) (
        g_X12_seenAs_29 (ζ.1 0 34) ζ) (
        g_X12_seenAs_23 z1 z2 ζ)) (
      g_X12_seenAs_23 z1 z2 ζ)
def g_X12_above_26 (zs0 : Int) (ζ : ZS) : Option (Int × ZS) :=
    some (zs0, ζ)
def g_X12_above (z1 : Int) (z2 : Int) (z3 : Int) (ζ : ZS) : Option (Int × ZS) :=
    gI (ζ.1 0 20) z3 ((ζ.1 0 20) ≤ z3) (
      g_X12_above_26 0 ζ) (
      (g_X12_seenAs z1 z3 ζ).bind fun q1 =>
      (g_X12_seenAs z2 z3 q1.2).bind fun q2 =>
      gw (q1.1 - q2.1) (
      g_X12_above_26 (q1.1 - q2.1) q2.2))
def g_X12_addsAbove (z1 : Int) (z2 : Int) (ζ : ZS) : Option ZS :=
    (g_X12_above z1 z2 0 ζ).bind fun q1 =>
    (g_X12_above z1 z2 1 q1.2).bind fun q2 =>
    (g_X12_above z1 z2 2 q2.2).bind fun q3 =>
    (g_X12_above z1 z2 3 q3.2).bind fun q4 =>
    (g_X12_addsRow q1.1 q2.1 q3.1 q4.1 q4.2).bind fun q5 =>
    some q5
def g_X12_weightAt (z1 : Int) (z2 : Int) (z3 : Int) (ζ : ZS) : Option (Int × ZS) :=
    gk ((4 * ((72 * z1) + z2)) + z3) 3456 (
    some (ζ.2.1 22 (Int.toNat ((4 * ((72 * z1) + z2)) + z3)), ζ))
def g_X12_aboveAt_6 (z1 : Int) (z2 : Int) (z3 : Int) (z4 : Int) : Nat → Int → Int → ZS → Option (Int × ZS)
  | 0, _, _, _ => none
  | n + 1, z5, z7, ζ =>
    gI (ζ.1 0 20) z7 ((ζ.1 0 20) ≤ z7) (
      some (z5, ζ)) (
      (g_X12_weightAt z3 z4 z7 ζ).bind fun q1 =>
      (g_X12_above z1 z2 z7 q1.2).bind fun q2 =>
      (g_X12_aboveAt_6 z1 z2 z3 z4 n) (z5 + (q1.1 * q2.1)) (z7 + 1) q2.2)
def g_X12_aboveAt (z1 : Int) (z2 : Int) (z3 : Int) (z4 : Int) (ζ : ZS) : Option (Int × ZS) :=
    g_X12_aboveAt_6 z1 z2 z3 z4 FU 0 0 ζ
def g_X12_sumAt_5 (z1 : Int) (z2 : Int) : Nat → Int → Int → ZS → Option (Int × ZS)
  | 0, _, _, _ => none
  | n + 1, z3, z5, ζ =>
    gI (ζ.1 0 20) z5 ((ζ.1 0 20) ≤ z5) (
      some (z3, ζ)) (
      (g_X12_weightAt z1 z2 z5 ζ).bind fun q1 =>
      (g_X12_sumAt_5 z1 z2 n) (z3 + q1.1) (z5 + 1) q1.2)
def g_X12_sumAt (z1 : Int) (z2 : Int) (ζ : ZS) : Option (Int × ZS) :=
    g_X12_sumAt_5 z1 z2 FU 0 0 ζ
def g_X12_isBetter_41 (r6 : Int → Int → ZS → Option (Int × ZS)) (z1 : Int) (z2 : Int) (z3 : Int) (z5 : Int) (zs0 : Int) (ζ : ZS) : Option (Int × ZS) :=
    r6 zs0 (z5 + 1) ζ
def g_X12_isBetter_40 (r6 : Int → Int → ZS → Option (Int × ZS)) (z1 : Int) (z2 : Int) (z3 : Int) (z5 : Int) (ζ : ZS) : Option (Int × ZS) :=
    g_X12_isBetter_41 r6 z1 z2 z3 z5 0 ζ
def g_X12_isBetter_6 (z1 : Int) (z2 : Int) (z3 : Int) : Nat → Int → Int → ZS → Option (Int × ZS)
  | 0, _, _, _ => none
  | n + 1, z4, z5, ζ =>
    gk z3 12 (
    gI (ζ.1 20 (Int.toNat z3)) z5 ((ζ.1 20 (Int.toNat z3)) ≤ z5) (
      gz z4 (some (z4, ζ))) (
      gI z4 0 (z4 = 0) (
        g_X12_isBetter_40 (g_X12_isBetter_6 z1 z2 z3 n) z1 z2 z3 z5 ζ) (
        (g_X12_aboveAt z1 z2 z3 z5 ζ).bind fun q2 =>
        gJ q2.1 0 (q2.1 < 0) (
          g_X12_isBetter_40 (g_X12_isBetter_6 z1 z2 z3 n) z1 z2 z3 z5 q2.2) (
          g_X12_isBetter_41 (g_X12_isBetter_6 z1 z2 z3 n) z1 z2 z3 z5 1 q2.2))))
def g_X12_isBetter (z1 : Int) (z2 : Int) (z3 : Int) (ζ : ZS) : Option (Int × ZS) :=
    g_X12_isBetter_6 z1 z2 z3 FU 1 0 ζ
def g_X12_isSure_47 (r5 : Int → Int → ZS → Option (Int × ZS)) (z1 : Int) (z2 : Int) (z4 : Int) (zs0 : Int) (ζ : ZS) : Option (Int × ZS) :=
    r5 zs0 (z4 + 1) ζ
def g_X12_isSure_46 (r5 : Int → Int → ZS → Option (Int × ZS)) (z1 : Int) (z2 : Int) (z4 : Int) (ζ : ZS) : Option (Int × ZS) :=
    g_X12_isSure_47 r5 z1 z2 z4 0 ζ
def g_X12_isSure_42 (r5 : Int → Int → ZS → Option (Int × ZS)) (z1 : Int) (z2 : Int) (z4 : Int) (ζ : ZS) : Option (Int × ZS) :=
    g_X12_isSure_47 r5 z1 z2 z4 1 ζ
def g_X12_isSure_5 (z1 : Int) (z2 : Int) : Nat → Int → Int → ZS → Option (Int × ZS)
  | 0, _, _, _ => none
  | n + 1, z3, z4, ζ =>
    gI 8 z4 (8 ≤ z4) (
      gz z3 (some (z3, ζ))) (
      gI z3 0 (z3 = 0) (
        g_X12_isSure_46 (g_X12_isSure_5 z1 z2 n) z1 z2 z4 ζ) (
        gI z4 z1 (z4 = z1) (
          g_X12_isSure_42 (g_X12_isSure_5 z1 z2 n) z1 z2 z4 ζ) (
          (g_X12_isIn z4 ζ).bind fun q1 =>
          gI q1.1 0 (q1.1 = 0) (
            g_X12_isSure_42 (g_X12_isSure_5 z1 z2 n) z1 z2 z4 q1.2) (
            (g_X12_isBetter z1 z4 z2 q1.2).bind fun q2 =>
            gI q2.1 0 (q2.1 = 0) (
              g_X12_isSure_46 (g_X12_isSure_5 z1 z2 n) z1 z2 z4 q2.2) (
              g_X12_isSure_42 (g_X12_isSure_5 z1 z2 n) z1 z2 z4 q2.2)))))
def g_X12_isSure (z1 : Int) (z2 : Int) (ζ : ZS) : Option (Int × ZS) :=
    g_X12_isSure_5 z1 z2 FU 1 0 ζ
def g_X12_soonMay_221 (zs0 : Int) (ζ : ZS) : Option (Int × ZS) :=
    some (zs0, ζ)
def g_X12_soonMay_195 (r104 : Int → Int → ZS → Option (Int × ZS)) (z1 : Int) (z2 : Int) (z3 : Int) (z5 : Int) (zs0 : Int) (ζ : ZS) : Option (Int × ZS) :=
    r104 zs0 (z5 + 1) ζ
def g_X12_soonMay_190 (r104 : Int → Int → ZS → Option (Int × ZS)) (z1 : Int) (z2 : Int) (z3 : Int) (z5 : Int) (ζ : ZS) : Option (Int × ZS) :=
    g_X12_soonMay_195 r104 z1 z2 z3 z5 1 ζ
def g_X12_soonMay_172 (r104 : Int → Int → ZS → Option (Int × ZS)) (r136 : Int → Int → ZS → Option (Int × ZS)) (z1 : Int) (z2 : Int) (z3 : Int) (z4 : Int) (z5 : Int) (z7 : Int) (zs0 : Int) (ζ : ZS) : Option (Int × ZS) :=
    r136 zs0 (z7 + 1) ζ
def g_X12_soonMay_171 (r104 : Int → Int → ZS → Option (Int × ZS)) (r136 : Int → Int → ZS → Option (Int × ZS)) (z1 : Int) (z2 : Int) (z3 : Int) (z4 : Int) (z5 : Int) (z7 : Int) (ζ : ZS) : Option (Int × ZS) :=
    g_X12_soonMay_172 r104 r136 z1 z2 z3 z4 z5 z7 0 ζ
def g_X12_soonMay_136 (z1 : Int) (z2 : Int) (z3 : Int) (z4 : Int) (z5 : Int) (r104 : Int → Int → ZS → Option (Int × ZS)) : Nat → Int → Int → ZS → Option (Int × ZS)
  | 0, _, _, _ => none
  | n + 1, z6, z7, ζ =>
    gk z2 12 (
    gI (ζ.1 20 (Int.toNat z2)) z7 ((ζ.1 20 (Int.toNat z2)) ≤ z7) (
      gI z4 0 (z4 = 0) (
        gI z6 0 (z6 = 0) (
          g_X12_soonMay_195 r104 z1 z2 z3 z5 0 ζ) (
          g_X12_soonMay_190 r104 z1 z2 z3 z5 ζ)) (
        g_X12_soonMay_190 r104 z1 z2 z3 z5 ζ)) (
      gI z6 0 (z6 = 0) (
        g_X12_soonMay_171 r104 (g_X12_soonMay_136 z1 z2 z3 z4 z5 r104 n) z1 z2 z3 z4 z5 z7 ζ) (
        (g_X12_aboveAt z1 z5 z2 z7 ζ).bind fun q2 =>
        gJ 0 q2.1 (0 ≤ q2.1) (
          g_X12_soonMay_171 r104 (g_X12_soonMay_136 z1 z2 z3 z4 z5 r104 n) z1 z2 z3 z4 z5 z7 q2.2) (
          g_X12_soonMay_172 r104 (g_X12_soonMay_136 z1 z2 z3 z4 z5 r104 n) z1 z2 z3 z4 z5 z7 1 q2.2))))
def g_X12_soonMay_131 (r104 : Int → Int → ZS → Option (Int × ZS)) (z1 : Int) (z2 : Int) (z3 : Int) (z4 : Int) (z5 : Int) (zs0 : Int) (ζ : ZS) : Option (Int × ZS) :=
    g_X12_soonMay_136 z1 z2 z3 z4 z5 r104 FU zs0 0 ζ
def g_X12_soonMay_130 (r104 : Int → Int → ZS → Option (Int × ZS)) (z1 : Int) (z2 : Int) (z3 : Int) (z4 : Int) (z5 : Int) (ζ : ZS) : Option (Int × ZS) :=
    g_X12_soonMay_131 r104 z1 z2 z3 z4 z5 0 ζ
def g_X12_soonMay_104 (z1 : Int) (z2 : Int) (z3 : Int) : Nat → Int → Int → ZS → Option (Int × ZS)
  | 0, _, _, _ => none
  | n + 1, z4, z5, ζ =>
    gI 8 z5 (8 ≤ z5) (
      gI z3 0 (z3 = 0) (
        gI z4 0 (z4 = 0) (
          g_X12_soonMay_221 0 ζ) (
          g_X12_soonMay_221 (-1) ζ)) (
        g_X12_soonMay_221 1 ζ)) (
      gI z5 z1 (z5 = z1) (
        g_X12_soonMay_130 (g_X12_soonMay_104 z1 z2 z3 n) z1 z2 z3 z4 z5 ζ) (
        (g_X12_isIn z5 ζ).bind fun q1 =>
        gI q1.1 0 (q1.1 = 0) (
          g_X12_soonMay_130 (g_X12_soonMay_104 z1 z2 z3 n) z1 z2 z3 z4 z5 q1.2) (
          g_X12_soonMay_131 (g_X12_soonMay_104 z1 z2 z3 n) z1 z2 z3 z4 z5 1 q1.2)))
def g_X12_soonMay_91 (r5 : Int → Int → ZS → Option (Int × ZS)) (z1 : Int) (z2 : Int) (z4 : Int) (zs0 : Int) (ζ : ZS) : Option (Int × ZS) :=
    r5 zs0 (z4 + 1) ζ
def g_X12_soonMay_86 (r5 : Int → Int → ZS → Option (Int × ZS)) (z1 : Int) (z2 : Int) (z4 : Int) (ζ : ZS) : Option (Int × ZS) :=
    g_X12_soonMay_91 r5 z1 z2 z4 1 ζ
def g_X12_soonMay_69 (r5 : Int → Int → ZS → Option (Int × ZS)) (r22 : Int → Int → ZS → Option (Int × ZS)) (z1 : Int) (z2 : Int) (z3 : Int) (z4 : Int) (z6 : Int) (zs0 : Int) (ζ : ZS) : Option (Int × ZS) :=
    r22 zs0 (z6 + 1) ζ
def g_X12_soonMay_68 (r5 : Int → Int → ZS → Option (Int × ZS)) (r22 : Int → Int → ZS → Option (Int × ZS)) (z1 : Int) (z2 : Int) (z3 : Int) (z4 : Int) (z6 : Int) (ζ : ZS) : Option (Int × ZS) :=
    g_X12_soonMay_69 r5 r22 z1 z2 z3 z4 z6 0 ζ
def g_X12_soonMay_64 (r5 : Int → Int → ZS → Option (Int × ZS)) (r22 : Int → Int → ZS → Option (Int × ZS)) (z1 : Int) (z2 : Int) (z3 : Int) (z4 : Int) (z6 : Int) (ζ : ZS) : Option (Int × ZS) :=
    g_X12_soonMay_69 r5 r22 z1 z2 z3 z4 z6 1 ζ
def g_X12_soonMay_22 (z1 : Int) (z2 : Int) (z3 : Int) (z4 : Int) (r5 : Int → Int → ZS → Option (Int × ZS)) : Nat → Int → Int → ZS → Option (Int × ZS)
  | 0, _, _, _ => none
  | n + 1, z5, z6, ζ =>
    gI 8 z6 (8 ≤ z6) (
      gI z3 0 (z3 = 0) (
        gI z5 0 (z5 = 0) (
          g_X12_soonMay_91 r5 z1 z2 z4 0 ζ) (
          g_X12_soonMay_86 r5 z1 z2 z4 ζ)) (
        g_X12_soonMay_86 r5 z1 z2 z4 ζ)) (
      gI z5 0 (z5 = 0) (
        g_X12_soonMay_68 r5 (g_X12_soonMay_22 z1 z2 z3 z4 r5 n) z1 z2 z3 z4 z6 ζ) (
        gI z6 z1 (z6 = z1) (
          g_X12_soonMay_64 r5 (g_X12_soonMay_22 z1 z2 z3 z4 r5 n) z1 z2 z3 z4 z6 ζ) (
          (g_X12_isIn z6 ζ).bind fun q1 =>
          gI q1.1 0 (q1.1 = 0) (
            g_X12_soonMay_64 r5 (g_X12_soonMay_22 z1 z2 z3 z4 r5 n) z1 z2 z3 z4 z6 q1.2) (
            (g_X12_aboveAt z1 z6 z2 z4 q1.2).bind fun q2 =>
            gJ q2.1 0 (q2.1 < 0) (
              g_X12_soonMay_68 r5 (g_X12_soonMay_22 z1 z2 z3 z4 r5 n) z1 z2 z3 z4 z6 q2.2) (
              g_X12_soonMay_64 r5 (g_X12_soonMay_22 z1 z2 z3 z4 r5 n) z1 z2 z3 z4 z6 q2.2)))))
def g_X12_soonMay_5 (z1 : Int) (z2 : Int) : Nat → Int → Int → ZS → Option (Int × ZS)
  | 0, _, _, _ => none
  | n + 1, z3, z4, ζ =>
    gk z2 12 (
    gI (ζ.1 20 (Int.toNat z2)) z4 ((ζ.1 20 (Int.toNat z2)) ≤ z4) (
      g_X12_soonMay_104 z1 z2 z3 FU 0 0 ζ) (
      g_X12_soonMay_22 z1 z2 z3 z4 (g_X12_soonMay_5 z1 z2 n) FU 1 0 ζ))
def g_X12_soonMay (z1 : Int) (z2 : Int) (ζ : ZS) : Option (Int × ZS) :=
    g_X12_soonMay_5 z1 z2 FU 0 0 ζ
def g_X12_mayBe_96 (z2 : Int) (zs0 : Int) (ζ : ZS) : Option (Int × ZS) :=
    (g_X12_backTo z2 ζ).bind fun q1 =>
    gz zs0 (some (zs0, q1))
def g_X12_mayBe_81 (z2 : Int) (z4 : Int) (ζ : ZS) : Option (Int × ZS) :=
    gk z4 12 (
    gI (ζ.1 20 (Int.toNat z4)) 0 ((ζ.1 20 (Int.toNat z4)) ≤ 0) (
      g_X12_mayBe_96 z2 0 ζ) (
      g_X12_mayBe_96 z2 1 ζ))
def g_X12_mayBe_75 (r27 : Int → Int → ZS → Option (Int × ZS)) (z1 : Int) (z2 : Int) (z4 : Int) (z5 : Int) (ζ : ZS) : Option (Int × ZS) :=
    r27 z4 (z5 + 1) ζ
def g_X12_mayBe_27 (z1 : Int) (z2 : Int) : Nat → Int → Int → ZS → Option (Int × ZS)
  | 0, _, _, _ => none
  | n + 1, z4, z5, ζ =>
    gI 8 z5 (8 ≤ z5) (
      g_X12_mayBe_81 z2 z4 ζ) (
      gk z4 12 (
      gI (ζ.1 20 (Int.toNat z4)) 0 ((ζ.1 20 (Int.toNat z4)) ≤ 0) (
        g_X12_mayBe_81 z2 z4 ζ) (
        gI z5 z1 (z5 = z1) (
          g_X12_mayBe_75 (g_X12_mayBe_27 z1 z2 n) z1 z2 z4 z5 ζ) (
          (g_X12_isIn z5 ζ).bind fun q2 =>
          gI q2.1 0 (q2.1 = 0) (
            g_X12_mayBe_75 (g_X12_mayBe_27 z1 z2 n) z1 z2 z4 z5 q2.2) (
            (g_X12_addsAbove z1 z5 q2.2).bind fun q3 =>
            (g_X12_findMore (z4 + 1) q3).bind fun q4 =>
            g_X12_mayBe_75 (g_X12_mayBe_27 z1 z2 n) z1 z2 (z4 + 1) z5 q4)))))
def g_X12_mayBe_20 (zs0 : Int) (ζ : ZS) : Option (Int × ZS) :=
    gz zs0 (some (zs0, ζ))
def g_X12_mayBe (z1 : Int) (z2 : Int) (ζ : ZS) : Option (Int × ZS) :=
    (g_X12_soonMay z1 z2 ζ).bind fun q1 =>
    gI q1.1 0 (q1.1 = 0) (
      g_X12_mayBe_27 z1 z2 FU z2 0 q1.2) (
      gI q1.1 0 (q1.1 ≤ 0) (
        g_X12_mayBe_20 0 q1.2) (
        g_X12_mayBe_20 1 q1.2))
def g_X12_mayBest_35 (r4 : Int → Int → ZS → Option (Int × ZS)) (z1 : Int) (z3 : Int) (zs0 : Int) (zs1 : Int) (ζ : ZS) : Option (Int × ZS) :=
    r4 (zor zs1 zs0) (z3 + 1) ζ
def g_X12_mayBest_34 (r4 : Int → Int → ZS → Option (Int × ZS)) (z1 : Int) (z3 : Int) (zs0 : Int) (ζ : ZS) : Option (Int × ZS) :=
    g_X12_mayBest_35 r4 z1 z3 0 zs0 ζ
def g_X12_mayBest_4 (z1 : Int) : Nat → Int → Int → ZS → Option (Int × ZS)
  | 0, _, _, _ => none
  | n + 1, z2, z3, ζ =>
    gI 8 z3 (8 ≤ z3) (
      some (z2, ζ)) (
      (g_X12_isIn z3 ζ).bind fun q1 =>
      gI q1.1 0 (q1.1 = 0) (
        g_X12_mayBest_34 (g_X12_mayBest_4 z1 n) z1 z3 z2 q1.2) (
        (g_X12_mayBe z3 z1 q1.2).bind fun q2 =>
        gI q2.1 0 (q2.1 = 0) (
          g_X12_mayBest_34 (g_X12_mayBest_4 z1 n) z1 z3 z2 q2.2) (
          g_X12_mayBest_35 (g_X12_mayBest_4 z1 n) z1 z3 (zshl 1 z3) z2 q2.2)))
def g_X12_mayBest (z1 : Int) (ζ : ZS) : Option (Int × ZS) :=
    g_X12_mayBest_4 z1 FU 0 0 ζ
def g_X12_sureBest_35 (r4 : Int → Int → ZS → Option (Int × ZS)) (z1 : Int) (z3 : Int) (zs0 : Int) (zs1 : Int) (ζ : ZS) : Option (Int × ZS) :=
    r4 (zor zs1 zs0) (z3 + 1) ζ
def g_X12_sureBest_34 (r4 : Int → Int → ZS → Option (Int × ZS)) (z1 : Int) (z3 : Int) (zs0 : Int) (ζ : ZS) : Option (Int × ZS) :=
    g_X12_sureBest_35 r4 z1 z3 0 zs0 ζ
def g_X12_sureBest_4 (z1 : Int) : Nat → Int → Int → ZS → Option (Int × ZS)
  | 0, _, _, _ => none
  | n + 1, z2, z3, ζ =>
    gI 8 z3 (8 ≤ z3) (
      some (z2, ζ)) (
      (g_X12_isIn z3 ζ).bind fun q1 =>
      gI q1.1 0 (q1.1 = 0) (
        g_X12_sureBest_34 (g_X12_sureBest_4 z1 n) z1 z3 z2 q1.2) (
        (g_X12_isSure z3 z1 q1.2).bind fun q2 =>
        gI q2.1 0 (q2.1 = 0) (
          g_X12_sureBest_34 (g_X12_sureBest_4 z1 n) z1 z3 z2 q2.2) (
          g_X12_sureBest_35 (g_X12_sureBest_4 z1 n) z1 z3 (zshl 1 z3) z2 q2.2)))
def g_X12_sureBest (z1 : Int) (ζ : ZS) : Option (Int × ZS) :=
    g_X12_sureBest_4 z1 FU 0 0 ζ
def g_X12_bits_4 (z0 : Int) : Nat → Int → Int → ZS → Option (Int × ZS)
  | 0, _, _, _ => none
  | n + 1, z1, z2, ζ =>
    gI 12 z2 (12 ≤ z2) (
      some (z1, ζ)) (
      (g_X12_bits_4 z0 n) (z1 + (zand (zshr z0 z2) 1)) (z2 + 1) ζ)
def g_X12_bits (z0 : Int) (ζ : ZS) : Option (Int × ZS) :=
    g_X12_bits_4 z0 FU 0 0 ζ
def g_X12_areWeights_145 (zs0 : Int) (ζ : ZS) : Option (Int × ZS) :=
    gz zs0 (some (zs0, ζ))
def g_X12_areWeights_144  (ζ : ZS) : Option (Int × ZS) :=
    g_X12_areWeights_145 0 ζ
def g_X12_areWeights_136 (zs0 : Int) (zs1 : Int) (ζ : ZS) : Option (Int × ZS) :=
    gI (zs1 + zs0) 0 ((zs1 + zs0) ≤ 0) (
      g_X12_areWeights_144 ζ) (
      g_X12_areWeights_145 1 ζ)
def g_X12_areWeights_121 (z4 : Int) (zs0 : Int) (zs1 : Int) (ζ : ZS) : Option (Int × ZS) :=
    gI 4 (ζ.1 0 20) (4 ≤ (ζ.1 0 20)) (
      g_X12_areWeights_136 z4 (zs1 + zs0) ζ) (
      g_X12_areWeights_136 0 (zs1 + zs0) ζ)
def g_X12_areWeights_107 (z3 : Int) (z4 : Int) (zs0 : Int) (zs1 : Int) (ζ : ZS) : Option (Int × ZS) :=
    gI 3 (ζ.1 0 20) (3 ≤ (ζ.1 0 20)) (
      g_X12_areWeights_121 z4 z3 (zs1 + zs0) ζ) (
      g_X12_areWeights_121 z4 0 (zs1 + zs0) ζ)
def g_X12_areWeights_86 (z1 : Int) (z2 : Int) (z3 : Int) (z4 : Int) (zs0 : Int) (ζ : ZS) : Option (Int × ZS) :=
    gI zs0 0 (zs0 = 0) (
      g_X12_areWeights_144 ζ) (
      gI 2 (ζ.1 0 20) (2 ≤ (ζ.1 0 20)) (
        g_X12_areWeights_107 z3 z4 z2 z1 ζ) (
        g_X12_areWeights_107 z3 z4 0 z1 ζ))
def g_X12_areWeights_85 (z1 : Int) (z2 : Int) (z3 : Int) (z4 : Int) (ζ : ZS) : Option (Int × ZS) :=
    g_X12_areWeights_86 z1 z2 z3 z4 0 ζ
def g_X12_areWeights_81 (z1 : Int) (z2 : Int) (z3 : Int) (z4 : Int) (ζ : ZS) : Option (Int × ZS) :=
    g_X12_areWeights_86 z1 z2 z3 z4 1 ζ
def g_X12_areWeights_61 (z1 : Int) (z2 : Int) (z3 : Int) (z4 : Int) (ζ : ZS) : Option (Int × ZS) :=
    gI (ζ.1 0 20) 4 ((ζ.1 0 20) < 4) (
      g_X12_areWeights_81 z1 z2 z3 z4 ζ) (
      (g_X12_within z4 0 999 ζ).bind fun q1 =>
      gI q1.1 0 (q1.1 = 0) (
        g_X12_areWeights_85 z1 z2 z3 z4 q1.2) (
        g_X12_areWeights_81 z1 z2 z3 z4 q1.2))
def g_X12_areWeights_35 (z1 : Int) (z2 : Int) (z3 : Int) (z4 : Int) (zs0 : Int) (ζ : ZS) : Option (Int × ZS) :=
    gI zs0 0 (zs0 = 0) (
      g_X12_areWeights_85 z1 z2 z3 z4 ζ) (
      gI (ζ.1 0 20) 3 ((ζ.1 0 20) < 3) (
        g_X12_areWeights_61 z1 z2 z3 z4 ζ) (
        (g_X12_within z3 0 999 ζ).bind fun q1 =>
        gI q1.1 0 (q1.1 = 0) (
          g_X12_areWeights_85 z1 z2 z3 z4 q1.2) (
          g_X12_areWeights_61 z1 z2 z3 z4 q1.2)))
def g_X12_areWeights_34 (z1 : Int) (z2 : Int) (z3 : Int) (z4 : Int) (ζ : ZS) : Option (Int × ZS) :=
    g_X12_areWeights_35 z1 z2 z3 z4 0 ζ
def g_X12_areWeights_30 (z1 : Int) (z2 : Int) (z3 : Int) (z4 : Int) (ζ : ZS) : Option (Int × ZS) :=
    g_X12_areWeights_35 z1 z2 z3 z4 1 ζ
def g_X12_areWeights (z1 : Int) (z2 : Int) (z3 : Int) (z4 : Int) (ζ : ZS) : Option (Int × ZS) :=
    (g_X12_within z1 0 999 ζ).bind fun q1 =>
    gI q1.1 0 (q1.1 = 0) (
      g_X12_areWeights_34 z1 z2 z3 z4 q1.2) (
      gI (q1.2.1 0 20) 2 ((q1.2.1 0 20) < 2) (
        g_X12_areWeights_30 z1 z2 z3 z4 q1.2) (
        (g_X12_within z2 0 999 q1.2).bind fun q2 =>
        gI q2.1 0 (q2.1 = 0) (
          g_X12_areWeights_34 z1 z2 z3 z4 q2.2) (
          g_X12_areWeights_30 z1 z2 z3 z4 q2.2)))
def g_X12_givesWeights_68 (zs0 : Int) (zs1 : Int) (cs2 : Nat) (ζ : ZS) : Option ZS :=
    gk zs1 (ln cs2) (
    some (zJ ζ cs2 (Int.toNat zs1) zs0))
def g_X12_givesWeights_47 (z4 : Int) (zs0 : Int) (zs1 : Int) (cs2 : Nat) (ζ : ZS) : Option ZS :=
    gk zs1 (ln cs2) (
    gI 4 ((zJ ζ cs2 (Int.toNat zs1) zs0).1 0 20) (4 ≤ ((zJ ζ cs2 (Int.toNat zs1) zs0).1 0 20)) (
      gw z4 (
      g_X12_givesWeights_68 z4 3 24 (zJ ζ cs2 (Int.toNat zs1) zs0))) (
      g_X12_givesWeights_68 0 3 24 (zJ ζ cs2 (Int.toNat zs1) zs0)))
def g_X12_givesWeights_27 (z3 : Int) (z4 : Int) (zs0 : Int) (zs1 : Int) (cs2 : Nat) (ζ : ZS) : Option ZS :=
    gk zs1 (ln cs2) (
    gI 3 ((zJ ζ cs2 (Int.toNat zs1) zs0).1 0 20) (3 ≤ ((zJ ζ cs2 (Int.toNat zs1) zs0).1 0 20)) (
      gw z3 (
      g_X12_givesWeights_47 z4 z3 2 24 (zJ ζ cs2 (Int.toNat zs1) zs0))) (
      g_X12_givesWeights_47 z4 0 2 24 (zJ ζ cs2 (Int.toNat zs1) zs0)))
def g_X12_givesWeights (z1 : Int) (z2 : Int) (z3 : Int) (z4 : Int) (ζ : ZS) : Option ZS :=
    gw z1 (
    gk 0 4 (
    gI 2 ((zJ ζ 24 (Int.toNat 0) z1).1 0 20) (2 ≤ ((zJ ζ 24 (Int.toNat 0) z1).1 0 20)) (
      gw z2 (
      g_X12_givesWeights_27 z3 z4 z2 1 24 (zJ ζ 24 (Int.toNat 0) z1))) (
      g_X12_givesWeights_27 z3 z4 0 1 24 (zJ ζ 24 (Int.toNat 0) z1))))
def g_X12_goodBy_5 (z1 : Int) : Nat → Int → Int → ZS → Option (Int × ZS)
  | 0, _, _, _ => none
  | n + 1, z2, z4, ζ =>
    gI (ζ.1 0 20) z4 ((ζ.1 0 20) ≤ z4) (
      some (z2, ζ)) (
      gk z4 4 (
      (g_X12_valueOf z1 z4 ζ).bind fun q2 =>
      gw q2.1 (
      (g_X12_goodBy_5 z1 n) (z2 + ((ζ.2.1 24 (Int.toNat z4)) * q2.1)) (z4 + 1) q2.2)))
def g_X12_goodBy (z1 : Int) (ζ : ZS) : Option (Int × ZS) :=
    g_X12_goodBy_5 z1 FU 0 0 ζ
def g_X12_doesFit_69 (r4 : Int → Int → ZS → Option (Int × ZS)) (z2 : Int) (zs0 : Int) (ζ : ZS) : Option (Int × ZS) :=
    r4 zs0 (z2 + 1) ζ
def g_X12_doesFit_68 (r4 : Int → Int → ZS → Option (Int × ZS)) (z2 : Int) (ζ : ZS) : Option (Int × ZS) :=
    g_X12_doesFit_69 r4 z2 0 ζ
def g_X12_doesFit_17 (z1 : Int) (z2 : Int) (r4 : Int → Int → ZS → Option (Int × ZS)) : Nat → Int → Int → ZS → Option (Int × ZS)
  | 0, _, _, _ => none
  | n + 1, z3, z5, ζ =>
    gI (ζ.1 0 20) z5 ((ζ.1 0 20) ≤ z5) (
      gI z1 0 (z1 = 0) (
        g_X12_doesFit_68 r4 z2 ζ) (
        gJ z3 0 (z3 < 0) (
          g_X12_doesFit_68 r4 z2 ζ) (
          g_X12_doesFit_69 r4 z2 1 ζ))) (
      gk ((4 * z2) + z5) 256 (
      gk z5 4 (
      (g_X12_doesFit_17 z1 z2 r4 n) (z3 + ((ζ.2.1 19 (Int.toNat ((4 * z2) + z5))) * (ζ.2.1 24 (Int.toNat z5)))) (z5 + 1) ζ)))
def g_X12_doesFit_4  : Nat → Int → Int → ZS → Option (Int × ZS)
  | 0, _, _, _ => none
  | n + 1, z1, z2, ζ =>
    gI (ζ.1 0 26) z2 ((ζ.1 0 26) ≤ z2) (
      gz z1 (some (z1, ζ))) (
      g_X12_doesFit_17 z1 z2 (g_X12_doesFit_4 n) FU 0 0 ζ)
def g_X12_doesFit  (ζ : ZS) : Option (Int × ZS) :=
    g_X12_doesFit_4 FU 1 0 ζ
def g_X12_good_36  (ζ : ZS) : Option (Int × ZS) :=
    some ((-1), ζ)
def g_X12_good_111 (zs0 : Int) (ζ : ZS) : Option (Int × ZS) :=
    some (zs0, ζ)
def g_X12_good (z1 : Int) (z2 : Int) (z3 : Int) (z4 : Int) (z5 : Int) (z6 : Int) (ζ : ZS) : Option (Int × ZS) :=
    (g_X12_isThing z1 (zI ζ 0 0 0)).bind fun q2 =>
    gI q2.1 0 (q2.1 = 0) (
      g_X12_good_36 q2.2) (
      (g_X12_areWeights z2 z3 z4 z5 q2.2).bind fun q3 =>
      gI q3.1 0 (q3.1 = 0) (
        g_X12_good_36 q3.2) (
        (g_X12_within z6 0 1 q3.2).bind fun q4 =>
        gI q4.1 0 (q4.1 = 0) (
          g_X12_good_36 q4.2) (
          (g_X12_givesWeights z2 z3 z4 z5 q4.2).bind fun q5 =>
          (g_X12_goodBy z1 q5).bind fun q6 =>
          gk 0 4 (
          gk 1 4 (
          gk 2 4 (
          gk 3 4 (
          (g_X12_common q6.1 ((((q6.2.2.1 24 (Int.toNat 0)) + (q6.2.2.1 24 (Int.toNat 1))) + (q6.2.2.1 24 (Int.toNat 2))) + (q6.2.2.1 24 (Int.toNat 3))) q6.2).bind fun q11 =>
          gI z6 0 (z6 = 0) (
            gdJ q6.1 q11.1 (
            g_X12_good_111 (Int.tdiv q6.1 q11.1) q11.2)) (
            gdJ ((((q6.2.2.1 24 (Int.toNat 0)) + (q6.2.2.1 24 (Int.toNat 1))) + (q6.2.2.1 24 (Int.toNat 2))) + (q6.2.2.1 24 (Int.toNat 3))) q11.1 (
            g_X12_good_111 (Int.tdiv ((((q6.2.2.1 24 (Int.toNat 0)) + (q6.2.2.1 24 (Int.toNat 1))) + (q6.2.2.1 24 (Int.toNat 2))) + (q6.2.2.1 24 (Int.toNat 3))) q11.1) q11.2)))))))))
def g_X12_fits_48 (zs0 : Int) (ζ : ZS) : Option (Int × ZS) :=
    some (zs0, ζ)
def g_X12_fits (z1 : Int) (z2 : Int) (z3 : Int) (z4 : Int) (ζ : ZS) : Option (Int × ZS) :=
    (g_X12_areWeights z1 z2 z3 z4 (zI ζ 0 0 0)).bind fun q2 =>
    gI q2.1 0 (q2.1 = 0) (
      some ((-1), q2.2)) (
      (g_X12_heard q2.2).bind fun q3 =>
      (g_X12_laysRows q3.1 q3.2).bind fun q4 =>
      (g_X12_givesWeights z1 z2 z3 z4 q4).bind fun q5 =>
      (g_X12_doesFit q5).bind fun q6 =>
      gI q6.1 0 (q6.1 = 0) (
        g_X12_fits_48 0 q6.2) (
        g_X12_fits_48 1 q6.2))
def g_X12_isAhead_51 (zs0 : Int) (ζ : ZS) : Option (Int × ZS) :=
    gz zs0 (some (zs0, ζ))
def g_X12_isAhead_2 (z1 : Int) (z2 : Int) : Nat → Int → ZS → Option (Int × ZS)
  | 0, _, _ => none
  | n + 1, z3, ζ =>
    gI (ζ.1 0 20) z3 ((ζ.1 0 20) ≤ z3) (
      some (0, ζ)) (
      (g_X12_weightAt 0 z1 z3 ζ).bind fun q1 =>
      (g_X12_weightAt 0 z2 z3 q1.2).bind fun q2 =>
      gJ q1.1 q2.1 (q1.1 = q2.1) (
        (g_X12_isAhead_2 z1 z2 n) (z3 + 1) q2.2) (
        (g_X12_weightAt 0 z1 z3 q2.2).bind fun q3 =>
        (g_X12_weightAt 0 z2 z3 q3.2).bind fun q4 =>
        gJ q4.1 q3.1 (q4.1 ≤ q3.1) (
          g_X12_isAhead_51 0 q4.2) (
          g_X12_isAhead_51 1 q4.2)))
def g_X12_isAhead (z1 : Int) (z2 : Int) (ζ : ZS) : Option (Int × ZS) :=
    g_X12_isAhead_2 z1 z2 FU 0 ζ
def g_X12_corner_42  (ζ : ZS) : Option (Int × ZS) :=
    some ((-1), ζ)
def g_X12_corner_92 (r48 : Int → ZS → Option (Int × ZS)) (r64 : Int → Int → ZS → Option (Int × ZS)) (z1 : Int) (z2 : Int) (z3 : Int) (z5 : Int) (zs0 : Int) (zs1 : Int) (ζ : ZS) : Option (Int × ZS) :=
    r64 (zs1 + zs0) (z5 + 1) ζ
def g_X12_corner_64 (z1 : Int) (z2 : Int) (z3 : Int) (r48 : Int → ZS → Option (Int × ZS)) : Nat → Int → Int → ZS → Option (Int × ZS)
  | 0, _, _, _ => none
  | n + 1, z4, z5, ζ =>
    gk 0 12 (
    gI (ζ.1 20 (Int.toNat 0)) z5 ((ζ.1 20 (Int.toNat 0)) ≤ z5) (
      gI z4 z1 (z4 = z1) (
        (g_X12_weightAt 0 z3 z2 ζ).bind fun q2 =>
        some (q2.1, q2.2)) (
        r48 (z3 + 1) ζ)) (
      (g_X12_isAhead z5 z3 ζ).bind fun q3 =>
      gI q3.1 0 (q3.1 = 0) (
        g_X12_corner_92 r48 (g_X12_corner_64 z1 z2 z3 r48 n) z1 z2 z3 z5 0 z4 q3.2) (
        g_X12_corner_92 r48 (g_X12_corner_64 z1 z2 z3 r48 n) z1 z2 z3 z5 1 z4 q3.2)))
def g_X12_corner_48 (z1 : Int) (z2 : Int) : Nat → Int → ZS → Option (Int × ZS)
  | 0, _, _ => none
  | n + 1, z3, ζ =>
    gk 0 12 (
    gI (ζ.1 20 (Int.toNat 0)) z3 ((ζ.1 20 (Int.toNat 0)) ≤ z3) (
      some ((-1), ζ)) (
      g_X12_corner_64 z1 z2 z3 (g_X12_corner_48 z1 z2 n) FU 0 0 ζ))
def g_X12_corner (z1 : Int) (z2 : Int) (ζ : ZS) : Option (Int × ZS) :=
    (g_X12_within z2 0 (((zI ζ 0 0 0).1 0 20) - 1) (zI ζ 0 0 0)).bind fun q2 =>
    gI q2.1 0 (q2.1 = 0) (
      g_X12_corner_42 q2.2) (
      (g_X12_findNow q2.2).bind fun q3 =>
      gI q3.1 0 (q3.1 = 0) (
        g_X12_corner_42 q3.2) (
        gk 0 12 (
        (g_X12_within z1 0 ((q3.2.1 20 (Int.toNat 0)) - 1) q3.2).bind fun q5 =>
        gI q5.1 0 (q5.1 = 0) (
          g_X12_corner_42 q5.2) (
          g_X12_corner_48 z1 z2 FU 0 q5.2))))
def g_X12_smallFrom_94 (rc : Int → Int → Int → ZS → Option (Int × ZS)) (r52 : Int → ZS → Option (Int × ZS)) (z1 : Int) (z3 : Int) (z4 : Int) (ζ : ZS) : Option (Int × ZS) :=
    r52 (z4 + 1) ζ
def g_X12_smallFrom_52 (rc : Int → Int → Int → ZS → Option (Int × ZS)) (z1 : Int) (z3 : Int) : Nat → Int → ZS → Option (Int × ZS)
  | 0, _, _ => none
  | n + 1, z4, ζ =>
    gk 0 2 (
    gI (ζ.1 9 (Int.toNat 0)) z4 ((ζ.1 9 (Int.toNat 0)) ≤ z4) (
      some (0, ζ)) (
      (g_X12_isHeard z4 ζ).bind fun q2 =>
      gI q2.1 0 (q2.1 = 0) (
        g_X12_smallFrom_94 rc (g_X12_smallFrom_52 rc z1 z3 n) z1 z3 z4 q2.2) (
        (rc (z1 - 1) (z4 + 1) (zor z3 (zshl 1 z4)) q2.2).bind fun q3 =>
        gI q3.1 0 (q3.1 = 0) (
          g_X12_smallFrom_94 rc (g_X12_smallFrom_52 rc z1 z3 n) z1 z3 z4 q3.2) (
          some (1, q3.2)))))
def g_X12_smallFrom_48 (rc : Int → Int → Int → ZS → Option (Int × ZS)) (zs0 : Int) (ζ : ZS) : Option (Int × ZS) :=
    gz zs0 (some (zs0, ζ))
def g_X12_smallFrom_31 (rc : Int → Int → Int → ZS → Option (Int × ZS)) (zs0 : Int) (ζ : ZS) : Option (Int × ZS) :=
    gk 0 12 (
    gI ((zI ζ 0 36 zs0).1 20 (Int.toNat 0)) 0 (((zI ζ 0 36 zs0).1 20 (Int.toNat 0)) = 0) (
      g_X12_smallFrom_48 rc 1 (zI ζ 0 36 zs0)) (
      g_X12_smallFrom_48 rc 0 (zI ζ 0 36 zs0)))
def g_X12_smallFrom_0 (rc : Int → Int → Int → ZS → Option (Int × ZS)) (z1 : Int) (z2 : Int) (z3 : Int) (ζ : ZS) : Option (Int × ZS) :=
    gI z1 0 (z1 = 0) (
      (g_X12_laysRows z3 ζ).bind fun q1 =>
      (g_X12_findCorners q1).bind fun q2 =>
      gk 0 12 (
      gI (q2.1 20 (Int.toNat 0)) 0 ((q2.1 20 (Int.toNat 0)) = 0) (
        g_X12_smallFrom_31 rc z3 q2) (
        g_X12_smallFrom_31 rc (q2.1 0 36) q2))) (
      g_X12_smallFrom_52 rc z1 z3 FU z2 ζ)
def g_X12_smallFrom : Nat → Int → Int → Int → ZS → Option (Int × ZS)
  | 0, _, _, _, _ => none
  | d + 1, z1, z2, z3, ζ => g_X12_smallFrom_0 (g_X12_smallFrom d) z1 z2 z3 ζ
def g_X12_small_21  (ζ : ZS) : Option (Int × ZS) :=
    some ((-1), ζ)
def g_X12_small_52 (zs0 : Int) (ζ : ZS) : Option (Int × ZS) :=
    some (zs0, ζ)
def g_X12_small_25 (z1 : Int) : Nat → Int → ZS → Option (Int × ZS)
  | 0, _, _ => none
  | n + 1, z2, ζ =>
    gI 4 z2 (4 < z2) (
      some ((-1), ζ)) (
      (g_X12_smallFrom DEP z2 0 0 ζ).bind fun q1 =>
      gI q1.1 0 (q1.1 = 0) (
        (g_X12_small_25 z1 n) (z2 + 1) q1.2) (
        gI z1 0 (z1 = 0) (
          g_X12_small_52 z2 q1.2) (
          g_X12_small_52 (q1.2.1 0 36) q1.2)))
def g_X12_small (z1 : Int) (ζ : ZS) : Option (Int × ZS) :=
    (g_X12_within z1 0 1 (zI ζ 0 0 0)).bind fun q2 =>
    gI q2.1 0 (q2.1 = 0) (
      g_X12_small_21 q2.2) (
      (g_X12_findNow q2.2).bind fun q3 =>
      gI q3.1 0 (q3.1 = 0) (
        g_X12_small_25 z1 FU 1 q3.2) (
        g_X12_small_21 q3.2))
def g_X12_whyFrom_93 (rc : Int → Int → Int → Int → Int → ZS → Option (Int × ZS)) (r47 : Int → ZS → Option (Int × ZS)) (z1 : Int) (z3 : Int) (z4 : Int) (z5 : Int) (z6 : Int) (ζ : ZS) : Option (Int × ZS) :=
    r47 (z6 + 1) ζ
def g_X12_whyFrom_47 (rc : Int → Int → Int → Int → Int → ZS → Option (Int × ZS)) (z1 : Int) (z3 : Int) (z4 : Int) (z5 : Int) : Nat → Int → ZS → Option (Int × ZS)
  | 0, _, _ => none
  | n + 1, z6, ζ =>
    gk 0 2 (
    gI (ζ.1 9 (Int.toNat 0)) z6 ((ζ.1 9 (Int.toNat 0)) ≤ z6) (
      some (0, ζ)) (
      (g_X12_isHeard z6 ζ).bind fun q2 =>
      gI q2.1 0 (q2.1 = 0) (
        g_X12_whyFrom_93 rc (g_X12_whyFrom_47 rc z1 z3 z4 z5 n) z1 z3 z4 z5 z6 q2.2) (
        (rc (z1 - 1) (z6 + 1) (zor z3 (zshl 1 z6)) z4 z5 q2.2).bind fun q3 =>
        gI q3.1 0 (q3.1 = 0) (
          g_X12_whyFrom_93 rc (g_X12_whyFrom_47 rc z1 z3 z4 z5 n) z1 z3 z4 z5 z6 q3.2) (
          some (1, q3.2)))))
def g_X12_whyFrom_38 (rc : Int → Int → Int → Int → Int → ZS → Option (Int × ZS)) (z6 : Int) (zs0 : Int) (ζ : ZS) : Option (Int × ZS) :=
    gz z6 (some (z6, zI ζ 0 36 zs0))
def g_X12_whyFrom_0 (rc : Int → Int → Int → Int → Int → ZS → Option (Int × ZS)) (z1 : Int) (z2 : Int) (z3 : Int) (z4 : Int) (z5 : Int) (ζ : ZS) : Option (Int × ZS) :=
    gI z1 0 (z1 = 0) (
      (g_X12_laysRows z3 ζ).bind fun q1 =>
      (g_X12_findCorners q1).bind fun q2 =>
      (g_X12_isBetter z4 z5 0 q2).bind fun q3 =>
      gI q3.1 0 (q3.1 = 0) (
        g_X12_whyFrom_38 rc q3.1 (q3.2.1 0 36) q3.2) (
        g_X12_whyFrom_38 rc q3.1 z3 q3.2)) (
      g_X12_whyFrom_47 rc z1 z3 z4 z5 FU z2 ζ)
def g_X12_whyFrom : Nat → Int → Int → Int → Int → Int → ZS → Option (Int × ZS)
  | 0, _, _, _, _, _, _ => none
  | d + 1, z1, z2, z3, z4, z5, ζ => g_X12_whyFrom_0 (g_X12_whyFrom d) z1 z2 z3 z4 z5 ζ
def g_X12_areTwo_46 (zs0 : Int) (ζ : ZS) : Option (Int × ZS) :=
    gz zs0 (some (zs0, ζ))
def g_X12_areTwo_45  (ζ : ZS) : Option (Int × ZS) :=
    g_X12_areTwo_46 0 ζ
def g_X12_areTwo (z1 : Int) (z2 : Int) (ζ : ZS) : Option (Int × ZS) :=
    (g_X12_within z1 0 7 ζ).bind fun q1 =>
    gI q1.1 0 (q1.1 = 0) (
      g_X12_areTwo_45 q1.2) (
      (g_X12_within z2 0 7 q1.2).bind fun q2 =>
      gI q2.1 0 (q2.1 = 0) (
        g_X12_areTwo_45 q2.2) (
        gI z1 z2 (z1 = z2) (
          g_X12_areTwo_45 q2.2) (
          (g_X12_isIn z1 q2.2).bind fun q3 =>
          gI q3.1 0 (q3.1 = 0) (
            g_X12_areTwo_45 q3.2) (
            (g_X12_isIn z2 q3.2).bind fun q4 =>
            gI q4.1 0 (q4.1 = 0) (
              g_X12_areTwo_45 q4.2) (
              g_X12_areTwo_46 1 q4.2)))))
def g_X12_why_40  (ζ : ZS) : Option (Int × ZS) :=
    some ((-1), ζ)
def g_X12_why_77 (zs0 : Int) (ζ : ZS) : Option (Int × ZS) :=
    some (zs0, ζ)
def g_X12_why_45 (z1 : Int) (z2 : Int) (z3 : Int) : Nat → Int → ZS → Option (Int × ZS)
  | 0, _, _ => none
  | n + 1, z4, ζ =>
    gI 3 z4 (3 < z4) (
      some ((-1), ζ)) (
      (g_X12_whyFrom DEP z4 0 0 z1 z2 ζ).bind fun q1 =>
      gI q1.1 0 (q1.1 = 0) (
        (g_X12_why_45 z1 z2 z3 n) (z4 + 1) q1.2) (
        gI z3 0 (z3 = 0) (
          g_X12_why_77 z4 q1.2) (
          g_X12_why_77 (q1.2.1 0 36) q1.2)))
def g_X12_why (z1 : Int) (z2 : Int) (z3 : Int) (ζ : ZS) : Option (Int × ZS) :=
    (g_X12_areTwo z1 z2 (zI ζ 0 0 0)).bind fun q2 =>
    gI q2.1 0 (q2.1 = 0) (
      g_X12_why_40 q2.2) (
      (g_X12_within z3 0 1 q2.2).bind fun q3 =>
      gI q3.1 0 (q3.1 = 0) (
        g_X12_why_40 q3.2) (
        (g_X12_findNow q3.2).bind fun q4 =>
        gI q4.1 0 (q4.1 = 0) (
          g_X12_why_40 q4.2) (
          (g_X12_isBetter z1 z2 0 q4.2).bind fun q5 =>
          gI q5.1 0 (q5.1 = 0) (
            g_X12_why_40 q5.2) (
            g_X12_why_45 z1 z2 z3 FU 0 q5.2))))
def g_X12_beatenFrom_128 (rc : Int → Int → Int → Int → Int → ZS → Option (Int × ZS)) (z6 : Int) (ζ : ZS) : Option (Int × ZS) :=
    gz z6 (some (z6, ζ))
def g_X12_beatenFrom_122 (rc : Int → Int → Int → Int → Int → ZS → Option (Int × ZS)) (r49 : Int → Int → ZS → Option (Int × ZS)) (z1 : Int) (z2 : Int) (z4 : Int) (z5 : Int) (z6 : Int) (z7 : Int) (ζ : ZS) : Option (Int × ZS) :=
    r49 z6 (z7 + 1) ζ
def g_X12_beatenFrom_49 (rc : Int → Int → Int → Int → Int → ZS → Option (Int × ZS)) (z1 : Int) (z2 : Int) (z4 : Int) (z5 : Int) : Nat → Int → Int → ZS → Option (Int × ZS)
  | 0, _, _, _ => none
  | n + 1, z6, z7, ζ =>
    gI 8 z7 (8 ≤ z7) (
      g_X12_beatenFrom_128 rc z6 ζ) (
      gI z6 0 (z6 = 0) (
        gI z7 z1 (z7 = z1) (
          g_X12_beatenFrom_122 rc (g_X12_beatenFrom_49 rc z1 z2 z4 z5 n) z1 z2 z4 z5 z6 z7 ζ) (
          (g_X12_isIn z7 ζ).bind fun q1 =>
          gI q1.1 0 (q1.1 = 0) (
            g_X12_beatenFrom_122 rc (g_X12_beatenFrom_49 rc z1 z2 z4 z5 n) z1 z2 z4 z5 z6 z7 q1.2) (
            (g_X12_addsAbove z1 z7 q1.2).bind fun q2 =>
            (g_X12_findMore (z5 + 1) q2).bind fun q3 =>
            (rc z1 (z2 - 1) (z7 + 1) (zor z4 (zshl 1 z7)) (z5 + 1) q3).bind fun q4 =>
            (g_X12_backTo z5 q4.2).bind fun q5 =>
            g_X12_beatenFrom_122 rc (g_X12_beatenFrom_49 rc z1 z2 z4 z5 n) z1 z2 z4 z5 q4.1 z7 q5))) (
        g_X12_beatenFrom_128 rc z6 ζ))
def g_X12_beatenFrom_42 (rc : Int → Int → Int → Int → Int → ZS → Option (Int × ZS)) (zs0 : Int) (ζ : ZS) : Option (Int × ZS) :=
    gz zs0 (some (zs0, ζ))
def g_X12_beatenFrom_24 (rc : Int → Int → Int → Int → Int → ZS → Option (Int × ZS)) (z5 : Int) (zs0 : Int) (ζ : ZS) : Option (Int × ZS) :=
    gk z5 12 (
    gI ((zI ζ 0 36 zs0).1 20 (Int.toNat z5)) 0 (((zI ζ 0 36 zs0).1 20 (Int.toNat z5)) = 0) (
      g_X12_beatenFrom_42 rc 1 (zI ζ 0 36 zs0)) (
      g_X12_beatenFrom_42 rc 0 (zI ζ 0 36 zs0)))
def g_X12_beatenFrom_0 (rc : Int → Int → Int → Int → Int → ZS → Option (Int × ZS)) (z1 : Int) (z2 : Int) (z3 : Int) (z4 : Int) (z5 : Int) (ζ : ZS) : Option (Int × ZS) :=
    gI z2 0 (z2 = 0) (
      gk z5 12 (
      gI (ζ.1 20 (Int.toNat z5)) 0 ((ζ.1 20 (Int.toNat z5)) = 0) (
        g_X12_beatenFrom_24 rc z5 z4 ζ) (
        g_X12_beatenFrom_24 rc z5 (ζ.1 0 36) ζ))) (
      g_X12_beatenFrom_49 rc z1 z2 z4 z5 FU 0 z3 ζ)
def g_X12_beatenFrom : Nat → Int → Int → Int → Int → Int → ZS → Option (Int × ZS)
  | 0, _, _, _, _, _, _ => none
  | d + 1, z1, z2, z3, z4, z5, ζ => g_X12_beatenFrom_0 (g_X12_beatenFrom d) z1 z2 z3 z4 z5 ζ
def g_X12_isThingIn_23 (zs0 : Int) (ζ : ZS) : Option (Int × ZS) :=
    gz zs0 (some (zs0, ζ))
def g_X12_isThingIn_22  (ζ : ZS) : Option (Int × ZS) :=
    g_X12_isThingIn_23 0 ζ
def g_X12_isThingIn (z1 : Int) (ζ : ZS) : Option (Int × ZS) :=
    (g_X12_within z1 0 7 ζ).bind fun q1 =>
    gI q1.1 0 (q1.1 = 0) (
      g_X12_isThingIn_22 q1.2) (
      (g_X12_isIn z1 q1.2).bind fun q2 =>
      gI q2.1 0 (q2.1 = 0) (
        g_X12_isThingIn_22 q2.2) (
        g_X12_isThingIn_23 1 q2.2))
def g_X12_beaten_29  (ζ : ZS) : Option (Int × ZS) :=
    some ((-1), ζ)
def g_X12_beaten_33 (z1 : Int) : Nat → Int → ZS → Option (Int × ZS)
  | 0, _, _ => none
  | n + 1, z2, ζ =>
    gI 3 z2 (3 < z2) (
      some ((-1), ζ)) (
      (g_X12_beatenFrom DEP z1 z2 0 0 0 ζ).bind fun q1 =>
      gI q1.1 0 (q1.1 = 0) (
        (g_X12_beaten_33 z1 n) (z2 + 1) q1.2) (
        some (q1.2.1 0 36, q1.2)))
def g_X12_beaten (z1 : Int) (ζ : ZS) : Option (Int × ZS) :=
    (g_X12_isThingIn z1 (zI ζ 0 0 0)).bind fun q2 =>
    gI q2.1 0 (q2.1 = 0) (
      g_X12_beaten_29 q2.2) (
      (g_X12_findNow q2.2).bind fun q3 =>
      gI q3.1 0 (q3.1 = 0) (
        g_X12_beaten_29 q3.2) (
        (g_X12_mayBe z1 0 q3.2).bind fun q4 =>
        gI q4.1 0 (q4.1 = 0) (
          g_X12_beaten_33 z1 FU 1 q4.2) (
          g_X12_beaten_29 q4.2)))
def g_X12_betterNow_93 (zs0 : Int) (ζ : ZS) : Option (Int × ZS) :=
    some (zs0, ζ)
def g_X12_betterNow_67 (r8 : Int → Int → Int → ZS → Option (Int × ZS)) (z1 : Int) (z2 : Int) (z3 : Int) (z5 : Int) (zs0 : Int) (ζ : ZS) : Option (Int × ZS) :=
    r8 z3 zs0 (z5 + 1) ζ
def g_X12_betterNow_62 (r8 : Int → Int → Int → ZS → Option (Int × ZS)) (z1 : Int) (z2 : Int) (z3 : Int) (z5 : Int) (ζ : ZS) : Option (Int × ZS) :=
    g_X12_betterNow_67 r8 z1 z2 z3 z5 1 ζ
def g_X12_betterNow_42 (r8 : Int → Int → Int → ZS → Option (Int × ZS)) (z1 : Int) (z2 : Int) (z4 : Int) (z5 : Int) (zs0 : Int) (ζ : ZS) : Option (Int × ZS) :=
    gI z4 0 (z4 = 0) (
      (g_X12_aboveAt z1 z2 0 z5 ζ).bind fun q1 =>
      gJ q1.1 0 (q1.1 < 0) (
        g_X12_betterNow_67 r8 z1 z2 zs0 z5 0 q1.2) (
        g_X12_betterNow_62 r8 z1 z2 zs0 z5 q1.2)) (
      g_X12_betterNow_62 r8 z1 z2 zs0 z5 ζ)
def g_X12_betterNow_41 (r8 : Int → Int → Int → ZS → Option (Int × ZS)) (z1 : Int) (z2 : Int) (z4 : Int) (z5 : Int) (ζ : ZS) : Option (Int × ZS) :=
    g_X12_betterNow_42 r8 z1 z2 z4 z5 0 ζ
def g_X12_betterNow_8 (z1 : Int) (z2 : Int) : Nat → Int → Int → Int → ZS → Option (Int × ZS)
  | 0, _, _, _, _ => none
  | n + 1, z3, z4, z5, ζ =>
    gk 0 12 (
    gI (ζ.1 20 (Int.toNat 0)) z5 ((ζ.1 20 (Int.toNat 0)) ≤ z5) (
      gI z3 0 (z3 = 0) (
        gI z4 0 (z4 = 0) (
          g_X12_betterNow_93 0 ζ) (
          g_X12_betterNow_93 1 ζ)) (
        g_X12_betterNow_93 2 ζ)) (
      gI z3 0 (z3 = 0) (
        g_X12_betterNow_41 (g_X12_betterNow_8 z1 z2 n) z1 z2 z4 z5 ζ) (
        (g_X12_aboveAt z1 z2 0 z5 ζ).bind fun q2 =>
        gJ q2.1 0 (q2.1 < 0) (
          g_X12_betterNow_41 (g_X12_betterNow_8 z1 z2 n) z1 z2 z4 z5 q2.2) (
          g_X12_betterNow_42 (g_X12_betterNow_8 z1 z2 n) z1 z2 z4 z5 1 q2.2))))
def g_X12_betterNow (z1 : Int) (z2 : Int) (ζ : ZS) : Option (Int × ZS) :=
    g_X12_betterNow_8 z1 z2 FU 1 0 0 ζ
def g_X12_better_31 (zs0 : Int) (ζ : ZS) : Option (Int × ZS) :=
    some (zs0, ζ)
def g_X12_better_30  (ζ : ZS) : Option (Int × ZS) :=
    g_X12_better_31 (-1) ζ
def g_X12_better (z1 : Int) (z2 : Int) (ζ : ZS) : Option (Int × ZS) :=
    (g_X12_areTwo z1 z2 (zI ζ 0 0 0)).bind fun q2 =>
    gI q2.1 0 (q2.1 = 0) (
      g_X12_better_30 q2.2) (
      (g_X12_findNow q2.2).bind fun q3 =>
      gI q3.1 0 (q3.1 = 0) (
        g_X12_better_30 q3.2) (
        (g_X12_betterNow z1 z2 q3.2).bind fun q4 =>
        g_X12_better_31 q4.1 q4.2))
def g_X12_holds_30  (ζ : ZS) : Option (Int × ZS) :=
    some ((-1), ζ)
def g_X12_holds_69 (zs0 : Int) (ζ : ZS) : Option (Int × ZS) :=
    some (zs0, ζ)
def g_X12_holds (z1 : Int) (z2 : Int) (z3 : Int) (ζ : ZS) : Option (Int × ZS) :=
    (g_X12_areTwo z2 z3 (zI ζ 0 0 0)).bind fun q2 =>
    gI q2.1 0 (q2.1 = 0) (
      g_X12_holds_30 q2.2) (
      gk 0 2 (
      (g_X12_within z1 0 ((q2.2.1 9 (Int.toNat 0)) - 1) q2.2).bind fun q4 =>
      gI q4.1 0 (q4.1 = 0) (
        g_X12_holds_30 q4.2) (
        (g_X12_heard q4.2).bind fun q5 =>
        (g_X12_laysRows (zand q5.1 (zxor (zshl 1 z1) (-1))) q5.2).bind fun q6 =>
        (g_X12_findCorners q6).bind fun q7 =>
        gk 0 12 (
        gI (q7.1 20 (Int.toNat 0)) 0 ((q7.1 20 (Int.toNat 0)) = 0) (
          g_X12_holds_69 (-1) q7) (
          (g_X12_betterNow z2 z3 q7).bind fun q9 =>
          g_X12_holds_69 q9.1 q9.2)))))
def g_X12_findGap_64 (r2 : Int → ZS → Option ZS) (z1 : Int) (z2 : Int) (z3 : Int) (ζ : ZS) : Option ZS :=
    r2 (z3 + 1) ζ
def g_X12_findGap_52 (r2 : Int → ZS → Option ZS) (z1 : Int) (z2 : Int) (z3 : Int) (z4 : Int) (z6 : Int) (ζ : ZS) : Option ZS :=
    g_X12_findGap_64 r2 z1 z2 z3 (zJ (zJ ζ 0 37 z4) 0 38 z6)
def g_X12_findGap_2 (z1 : Int) (z2 : Int) : Nat → Int → ZS → Option ZS
  | 0, _, _ => none
  | n + 1, z3, ζ =>
    gk 0 12 (
    gI (ζ.1 20 (Int.toNat 0)) z3 ((ζ.1 20 (Int.toNat 0)) ≤ z3) (
      some ζ) (
      (g_X12_aboveAt z2 z1 0 z3 ζ).bind fun q2 =>
      (g_X12_sumAt 0 z3 q2.2).bind fun q3 =>
      gI z3 0 (z3 = 0) (
        g_X12_findGap_52 (g_X12_findGap_2 z1 z2 n) z1 z2 z3 q2.1 q3.1 q3.2) (
        gJ (q2.1 * (q3.2.2.1 0 38)) ((q3.2.2.1 0 37) * q3.1) ((q2.1 * (q3.2.2.1 0 38)) ≤ ((q3.2.2.1 0 37) * q3.1)) (
          g_X12_findGap_64 (g_X12_findGap_2 z1 z2 n) z1 z2 z3 q3.2) (
          g_X12_findGap_52 (g_X12_findGap_2 z1 z2 n) z1 z2 z3 q2.1 q3.1 q3.2))))
def g_X12_findGap (z1 : Int) (z2 : Int) (ζ : ZS) : Option ZS :=
    g_X12_findGap_2 z1 z2 FU 0 ζ
def g_X12_gap_83 (zs0 : Int) (ζ : ZS) : Option (Int × ZS) :=
    some (zs0, ζ)
def g_X12_gap_31 (z1 : Int) (z2 : Int) (z3 : Int) (zs0 : Int) (ζ : ZS) : Option (Int × ZS) :=
    gI ((zI ζ 0 0 zs0).1 0 0) 0 (((zI ζ 0 0 zs0).1 0 0) ≤ 0) (
      (g_X12_findGap z1 z2 (zI ζ 0 0 zs0)).bind fun q2 =>
      (g_X12_common (q2.2.1 0 37) (q2.2.1 0 38) q2).bind fun q3 =>
      gI z3 0 (z3 = 0) (
        gdJ (q3.2.2.1 0 37) q3.1 (
        g_X12_gap_83 (Int.tdiv (q3.2.2.1 0 37) q3.1) q3.2)) (
        gdJ (q3.2.2.1 0 38) q3.1 (
        g_X12_gap_83 (Int.tdiv (q3.2.2.1 0 38) q3.1) q3.2))) (
      some (0, zI ζ 0 0 zs0))
def g_X12_gap_30 (z1 : Int) (z2 : Int) (z3 : Int) (ζ : ZS) : Option (Int × ZS) :=
    g_X12_gap_31 z1 z2 z3 1 ζ
def g_X12_gap (z1 : Int) (z2 : Int) (z3 : Int) (ζ : ZS) : Option (Int × ZS) :=
    (g_X12_areTwo z1 z2 ζ).bind fun q1 =>
    gI q1.1 0 (q1.1 = 0) (
      g_X12_gap_30 z1 z2 z3 q1.2) (
      (g_X12_within z3 0 1 q1.2).bind fun q2 =>
      gI q2.1 0 (q2.1 = 0) (
        g_X12_gap_30 z1 z2 z3 q2.2) (
        (g_X12_findNow q2.2).bind fun q3 =>
        gI q3.1 0 (q3.1 = 0) (
          g_X12_gap_30 z1 z2 z3 q3.2) (
          g_X12_gap_31 z1 z2 z3 0 q3.2)))
def g_X12_findRegret_65 (r8 : Int → Int → Int → ZS → Option ZS) (z1 : Int) (z2 : Int) (z4 : Int) (z6 : Int) (ζ : ZS) : Option ZS :=
    r8 z2 z4 (z6 + 1) ζ
def g_X12_findRegret_8 (z1 : Int) : Nat → Int → Int → Int → ZS → Option ZS
  | 0, _, _, _, _ => none
  | n + 1, z2, z4, z6, ζ =>
    gI 8 z6 (8 ≤ z6) (
      some (zJ (zJ ζ 0 37 z2) 0 38 z4)) (
      gI z6 z1 (z6 = z1) (
        g_X12_findRegret_65 (g_X12_findRegret_8 z1 n) z1 z2 z4 z6 ζ) (
        (g_X12_isIn z6 ζ).bind fun q3 =>
        gI q3.1 0 (q3.1 = 0) (
          g_X12_findRegret_65 (g_X12_findRegret_8 z1 n) z1 z2 z4 z6 q3.2) (
          (g_X12_findGap z1 z6 q3.2).bind fun q4 =>
          gJ ((q4.2.1 0 37) * z4) (z2 * (q4.2.1 0 38)) (((q4.2.1 0 37) * z4) ≤ (z2 * (q4.2.1 0 38))) (
            g_X12_findRegret_65 (g_X12_findRegret_8 z1 n) z1 z2 z4 z6 q4) (
            g_X12_findRegret_65 (g_X12_findRegret_8 z1 n) z1 (q4.2.1 0 37) (q4.2.1 0 38) z6 q4))))
def g_X12_findRegret (z1 : Int) (ζ : ZS) : Option ZS :=
    g_X12_findRegret_8 z1 FU 0 1 0 ζ
def g_X12_regret_29  (ζ : ZS) : Option (Int × ZS) :=
    some ((-1), ζ)
def g_X12_regret_69 (zs0 : Int) (ζ : ZS) : Option (Int × ZS) :=
    some (zs0, ζ)
def g_X12_regret (z1 : Int) (z2 : Int) (ζ : ZS) : Option (Int × ZS) :=
    (g_X12_isThingIn z1 (zI ζ 0 0 0)).bind fun q2 =>
    gI q2.1 0 (q2.1 = 0) (
      g_X12_regret_29 q2.2) (
      (g_X12_within z2 0 1 q2.2).bind fun q3 =>
      gI q3.1 0 (q3.1 = 0) (
        g_X12_regret_29 q3.2) (
        (g_X12_findNow q3.2).bind fun q4 =>
        gI q4.1 0 (q4.1 = 0) (
          g_X12_regret_29 q4.2) (
          (g_X12_findRegret z1 q4.2).bind fun q5 =>
          (g_X12_common (q5.2.1 0 37) (q5.2.1 0 38) q5).bind fun q6 =>
          gI z2 0 (z2 = 0) (
            gdJ (q6.2.2.1 0 37) q6.1 (
            g_X12_regret_69 (Int.tdiv (q6.2.2.1 0 37) q6.1) q6.2)) (
            gdJ (q6.2.2.1 0 38) q6.1 (
            g_X12_regret_69 (Int.tdiv (q6.2.2.1 0 38) q6.1) q6.2)))))
def g_X12_least_81 (r24 : Int → Int → Int → Int → ZS → Option (Int × ZS)) (z1 : Int) (z2 : Int) (z4 : Int) (z6 : Int) (ζ : ZS) : Option (Int × ZS) :=
    r24 z1 z2 z4 (z6 + 1) ζ
def g_X12_least_67 (r24 : Int → Int → Int → Int → ZS → Option (Int × ZS)) (z6 : Int) (ζ : ZS) : Option (Int × ZS) :=
    g_X12_least_81 r24 z6 (ζ.2.1 0 37) (ζ.2.1 0 38) z6 ζ
def g_X12_least_24  : Nat → Int → Int → Int → Int → ZS → Option (Int × ZS)
  | 0, _, _, _, _, _ => none
  | n + 1, z1, z2, z4, z6, ζ =>
    gI 8 z6 (8 ≤ z6) (
      some (z1, ζ)) (
      (g_X12_isIn z6 ζ).bind fun q1 =>
      gI q1.1 0 (q1.1 = 0) (
        g_X12_least_81 (g_X12_least_24 n) z1 z2 z4 z6 q1.2) (
        (g_X12_findRegret z6 q1.2).bind fun q2 =>
        gI z1 0 (z1 < 0) (
          g_X12_least_67 (g_X12_least_24 n) z6 q2) (
          gJ (z2 * (q2.2.1 0 38)) ((q2.2.1 0 37) * z4) ((z2 * (q2.2.1 0 38)) ≤ ((q2.2.1 0 37) * z4)) (
            g_X12_least_81 (g_X12_least_24 n) z1 z2 z4 z6 q2) (
            g_X12_least_67 (g_X12_least_24 n) z6 q2))))
def g_X12_least  (ζ : ZS) : Option (Int × ZS) :=
    (g_X12_findNow (zI ζ 0 0 0)).bind fun q2 =>
    gI q2.1 0 (q2.1 = 0) (
      some ((-1), q2.2)) (
      g_X12_least_24 FU (-1) 0 1 0 q2.2)
def g_X12_best_21  (ζ : ZS) : Option (Int × ZS) :=
    some ((-1), ζ)
def g_X12_best_40 (zs0 : Int) (ζ : ZS) : Option (Int × ZS) :=
    some (zs0, ζ)
def g_X12_best (z1 : Int) (ζ : ZS) : Option (Int × ZS) :=
    (g_X12_within z1 0 1 (zI ζ 0 0 0)).bind fun q2 =>
    gI q2.1 0 (q2.1 = 0) (
      g_X12_best_21 q2.2) (
      (g_X12_findNow q2.2).bind fun q3 =>
      gI q3.1 0 (q3.1 = 0) (
        g_X12_best_21 q3.2) (
        gI z1 0 (z1 = 0) (
          (g_X12_mayBest 0 q3.2).bind fun q5 =>
          g_X12_best_40 q5.1 q5.2) (
          (g_X12_sureBest 0 q3.2).bind fun q4 =>
          g_X12_best_40 q4.1 q4.2)))
def g_X12_behind_32 (zs0 : Int) (ζ : ZS) : Option (Int × ZS) :=
    (g_X12_backTo 0 ζ).bind fun q1 =>
    some (zs0, q1)
def g_X12_behind (z1 : Int) (z2 : Int) (ζ : ZS) : Option (Int × ZS) :=
    (g_X12_addsAbove z1 z2 ζ).bind fun q1 =>
    (g_X12_findMore 1 q1).bind fun q2 =>
    gk 1 12 (
    gI (q2.1 20 (Int.toNat 1)) 0 ((q2.1 20 (Int.toNat 1)) = 0) (
      g_X12_behind_32 0 q2) (
      (g_X12_mayBest 1 q2).bind fun q4 =>
      (g_X12_bits q4.1 q4.2).bind fun q5 =>
      g_X12_behind_32 q5.1 q5.2))
def g_X12_next_21  (ζ : ZS) : Option (Int × ZS) :=
    some ((-1), ζ)
def g_X12_next_163 (zs0 : Int) (ζ : ZS) : Option (Int × ZS) :=
    some (zs0, ζ)
def g_X12_next_124 (r34 : Int → Int → Int → Int → ZS → Option (Int × ZS)) (r47 : Int → Int → Int → Int → ZS → Option (Int × ZS)) (z1 : Int) (z2 : Int) (z3 : Int) (z4 : Int) (z5 : Int) (z6 : Int) (ζ : ZS) : Option (Int × ZS) :=
    r47 z2 z3 z4 (z6 + 1) ζ
def g_X12_next_106 (r34 : Int → Int → Int → Int → ZS → Option (Int × ZS)) (r47 : Int → Int → Int → Int → ZS → Option (Int × ZS)) (z1 : Int) (z2 : Int) (z3 : Int) (z4 : Int) (z5 : Int) (z6 : Int) (zs0 : Int) (ζ : ZS) : Option (Int × ZS) :=
    gI z2 zs0 (z2 ≤ zs0) (
      g_X12_next_124 r34 r47 z1 z2 z3 z4 z5 z6 ζ) (
      g_X12_next_124 r34 r47 z1 zs0 z5 z6 z5 z6 ζ)
def g_X12_next_47 (z1 : Int) (z5 : Int) (r34 : Int → Int → Int → Int → ZS → Option (Int × ZS)) : Nat → Int → Int → Int → Int → ZS → Option (Int × ZS)
  | 0, _, _, _, _, _ => none
  | n + 1, z2, z3, z4, z6, ζ =>
    gI 8 z6 (8 ≤ z6) (
      r34 z2 z3 z4 (z5 + 1) ζ) (
      (g_X12_isIn z5 ζ).bind fun q1 =>
      gI q1.1 0 (q1.1 = 0) (
        g_X12_next_124 r34 (g_X12_next_47 z1 z5 r34 n) z1 z2 z3 z4 z5 z6 q1.2) (
        (g_X12_isIn z6 q1.2).bind fun q2 =>
        gI q2.1 0 (q2.1 = 0) (
          g_X12_next_124 r34 (g_X12_next_47 z1 z5 r34 n) z1 z2 z3 z4 z5 z6 q2.2) (
          (g_X12_behind z5 z6 q2.2).bind fun q3 =>
          (g_X12_behind z6 z5 q3.2).bind fun q4 =>
          gI q3.1 q4.1 (q3.1 ≤ q4.1) (
            g_X12_next_106 r34 (g_X12_next_47 z1 z5 r34 n) z1 z2 z3 z4 z5 z6 q4.1 q4.2) (
            g_X12_next_106 r34 (g_X12_next_47 z1 z5 r34 n) z1 z2 z3 z4 z5 z6 q3.1 q4.2))))
def g_X12_next_34 (z1 : Int) : Nat → Int → Int → Int → Int → ZS → Option (Int × ZS)
  | 0, _, _, _, _, _ => none
  | n + 1, z2, z3, z4, z5, ζ =>
    gI 8 z5 (8 ≤ z5) (
      gI 0 z3 (0 ≤ z3) (
        gI z1 0 (z1 = 0) (
          g_X12_next_163 z3 ζ) (
          gI z1 1 (z1 = 1) (
            g_X12_next_163 z4 ζ) (
            g_X12_next_163 z2 ζ))) (
        g_X12_next_163 (-1) ζ)) (
      g_X12_next_47 z1 z5 (g_X12_next_34 z1 n) FU z2 z3 z4 (z5 + 1) ζ)
def g_X12_next (z1 : Int) (ζ : ZS) : Option (Int × ZS) :=
    (g_X12_within z1 0 2 (zI ζ 0 0 0)).bind fun q2 =>
    gI q2.1 0 (q2.1 = 0) (
      g_X12_next_21 q2.2) (
      (g_X12_findNow q2.2).bind fun q3 =>
      gI q3.1 0 (q3.1 = 0) (
        g_X12_next_21 q3.2) (
        g_X12_next_34 z1 FU 9 (-1) (-1) 0 q3.2))
def g_X12_fewBehind_39 (rc : Int → Int → ZS → Option (Int × ZS)) (z3 : Int) (zs0 : Int) (ζ : ZS) : Option (Int × ZS) :=
    (g_X12_backTo z3 ζ).bind fun q1 =>
    some (zs0, q1)
def g_X12_fewBehind (rc : Int → Int → ZS → Option (Int × ZS)) (z1 : Int) (z2 : Int) (z3 : Int) (z4 : Int) (ζ : ZS) : Option (Int × ZS) :=
    (g_X12_addsAbove z1 z2 ζ).bind fun q1 =>
    (g_X12_findMore (z3 + 1) q1).bind fun q2 =>
    gk (z3 + 1) 12 (
    gI (q2.1 20 (Int.toNat (z3 + 1))) 0 ((q2.1 20 (Int.toNat (z3 + 1))) = 0) (
      g_X12_fewBehind_39 rc z3 0 q2) (
      (rc (z3 + 1) (z4 - 1) q2).bind fun q4 =>
      g_X12_fewBehind_39 rc z3 q4.1 q4.2))
def g_X12_fewFrom_143 (rc : Int → Int → ZS → Option (Int × ZS)) (z3 : Int) (ζ : ZS) : Option (Int × ZS) :=
    some (z3, ζ)
def g_X12_fewFrom_131 (rc : Int → Int → ZS → Option (Int × ZS)) (r16 : Int → Int → ZS → Option (Int × ZS)) (r33 : Int → Int → ZS → Option (Int × ZS)) (z1 : Int) (z2 : Int) (z3 : Int) (z4 : Int) (z5 : Int) (ζ : ZS) : Option (Int × ZS) :=
    r33 z3 (z5 + 1) ζ
def g_X12_fewFrom_130 (rc : Int → Int → ZS → Option (Int × ZS)) (r16 : Int → Int → ZS → Option (Int × ZS)) (r33 : Int → Int → ZS → Option (Int × ZS)) (z1 : Int) (z2 : Int) (z4 : Int) (z5 : Int) (zs0 : Int) (ζ : ZS) : Option (Int × ZS) :=
    g_X12_fewFrom_131 rc r16 r33 z1 z2 zs0 z4 z5 ζ
def g_X12_fewFrom_115 (rc : Int → Int → ZS → Option (Int × ZS)) (r16 : Int → Int → ZS → Option (Int × ZS)) (r33 : Int → Int → ZS → Option (Int × ZS)) (z1 : Int) (z2 : Int) (z3 : Int) (z4 : Int) (z5 : Int) (zs0 : Int) (zs1 : Int) (ζ : ZS) : Option (Int × ZS) :=
    gI z3 (zs1 + zs0) (z3 ≤ (zs1 + zs0)) (
      g_X12_fewFrom_130 rc r16 r33 z1 z2 z4 z5 z3 ζ) (
      g_X12_fewFrom_130 rc r16 r33 z1 z2 z4 z5 (zs1 + zs0) ζ)
def g_X12_fewFrom_98 (rc : Int → Int → ZS → Option (Int × ZS)) (r16 : Int → Int → ZS → Option (Int × ZS)) (r33 : Int → Int → ZS → Option (Int × ZS)) (z1 : Int) (z2 : Int) (z3 : Int) (z4 : Int) (z5 : Int) (z6 : Int) (zs0 : Int) (ζ : ZS) : Option (Int × ZS) :=
    gI z6 zs0 (z6 ≤ zs0) (
      g_X12_fewFrom_115 rc r16 r33 z1 z2 z3 z4 z5 zs0 1 ζ) (
      g_X12_fewFrom_115 rc r16 r33 z1 z2 z3 z4 z5 z6 1 ζ)
def g_X12_fewFrom_33 (rc : Int → Int → ZS → Option (Int × ZS)) (z1 : Int) (z2 : Int) (z4 : Int) (r16 : Int → Int → ZS → Option (Int × ZS)) : Nat → Int → Int → ZS → Option (Int × ZS)
  | 0, _, _, _ => none
  | n + 1, z3, z5, ζ =>
    gI 8 z5 (8 ≤ z5) (
      r16 z3 (z4 + 1) ζ) (
      (g_X12_isIn z4 ζ).bind fun q1 =>
      gI q1.1 0 (q1.1 = 0) (
        g_X12_fewFrom_131 rc r16 (g_X12_fewFrom_33 rc z1 z2 z4 r16 n) z1 z2 z3 z4 z5 q1.2) (
        (g_X12_isIn z5 q1.2).bind fun q2 =>
        gI q2.1 0 (q2.1 = 0) (
          g_X12_fewFrom_131 rc r16 (g_X12_fewFrom_33 rc z1 z2 z4 r16 n) z1 z2 z3 z4 z5 q2.2) (
          gI z3 1 (z3 ≤ 1) (
            g_X12_fewFrom_131 rc r16 (g_X12_fewFrom_33 rc z1 z2 z4 r16 n) z1 z2 z3 z4 z5 q2.2) (
            (g_X12_fewBehind rc z4 z5 z1 z2 q2.2).bind fun q3 =>
            gI (q3.1 + 1) z3 ((q3.1 + 1) < z3) (
              (g_X12_fewBehind rc z5 z4 z1 z2 q3.2).bind fun q4 =>
              g_X12_fewFrom_98 rc r16 (g_X12_fewFrom_33 rc z1 z2 z4 r16 n) z1 z2 z3 z4 z5 q3.1 q4.1 q4.2) (
              g_X12_fewFrom_98 rc r16 (g_X12_fewFrom_33 rc z1 z2 z4 r16 n) z1 z2 z3 z4 z5 q3.1 q3.1 q3.2)))))
def g_X12_fewFrom_16 (rc : Int → Int → ZS → Option (Int × ZS)) (z1 : Int) (z2 : Int) : Nat → Int → Int → ZS → Option (Int × ZS)
  | 0, _, _, _ => none
  | n + 1, z3, z4, ζ =>
    gI 8 z4 (8 ≤ z4) (
      g_X12_fewFrom_143 rc z3 ζ) (
      gI z2 0 (z2 ≤ 0) (
        g_X12_fewFrom_143 rc z3 ζ) (
        g_X12_fewFrom_33 rc z1 z2 z4 (g_X12_fewFrom_16 rc z1 z2 n) FU z3 (z4 + 1) ζ))
def g_X12_fewFrom_0 (rc : Int → Int → ZS → Option (Int × ZS)) (z1 : Int) (z2 : Int) (ζ : ZS) : Option (Int × ZS) :=
    (g_X12_sureBest z1 ζ).bind fun q1 =>
    gI q1.1 0 (q1.1 = 0) (
      g_X12_fewFrom_16 rc z1 z2 FU 9 0 q1.2) (
      some (0, q1.2))
def g_X12_fewFrom : Nat → Int → Int → ZS → Option (Int × ZS)
  | 0, _, _, _ => none
  | d + 1, z1, z2, ζ => g_X12_fewFrom_0 (g_X12_fewFrom d) z1 z2 ζ
def g_X12_few_19  (ζ : ZS) : Option (Int × ZS) :=
    some ((-1), ζ)
def g_X12_few_23  : Nat → Int → ZS → Option (Int × ZS)
  | 0, _, _ => none
  | n + 1, z1, ζ =>
    gI 2 z1 (2 < z1) (
      some ((-1), ζ)) (
      (g_X12_fewFrom DEP 0 z1 ζ).bind fun q1 =>
      gI z1 q1.1 (z1 < q1.1) (
        (g_X12_few_23 n) (z1 + 1) q1.2) (
        some (z1, q1.2)))
def g_X12_few  (ζ : ZS) : Option (Int × ZS) :=
    (g_X12_inMany (zI ζ 0 0 0)).bind fun q2 =>
    gI q2.1 0 (q2.1 = 0) (
      g_X12_few_19 q2.2) (
      (g_X12_findNow q2.2).bind fun q3 =>
      gI q3.1 0 (q3.1 = 0) (
        g_X12_few_19 q3.2) (
        g_X12_few_23 FU 0 q3.2))
def g_X12_doesWith_35 (zs0 : Int) (ζ : ZS) : Option (Int × ZS) :=
    gz zs0 (some (zs0, zI ζ 0 32 (-1)))
def g_X12_doesWith (z1 : Int) (z2 : Int) (z3 : Int) (z4 : Int) (ζ : ZS) : Option (Int × ZS) :=
    gI z4 0 (z4 = 0) (
      (g_X12_mayBe z1 0 (zI (zI (zI ζ 0 32 z1) 0 33 z2) 0 34 z3)).bind fun q4 =>
      g_X12_doesWith_35 q4.1 q4.2) (
      (g_X12_isSure z1 0 (zI (zI (zI ζ 0 32 z1) 0 33 z2) 0 34 z3)).bind fun q5 =>
      g_X12_doesWith_35 q5.1 q5.2)
def g_X12_need_34  (ζ : ZS) : Option (Int × ZS) :=
    some ((-1), ζ)
def g_X12_need_109 (r68 : Int → Int → ZS → Option (Int × ZS)) (z1 : Int) (z2 : Int) (z3 : Int) (z4 : Int) (z5 : Int) (z6 : Int) (ζ : ZS) : Option (Int × ZS) :=
    r68 z5 z6 ζ
def g_X12_need_68 (z1 : Int) (z2 : Int) (z3 : Int) (z4 : Int) : Nat → Int → Int → ZS → Option (Int × ZS)
  | 0, _, _, _ => none
  | n + 1, z5, z6, ζ =>
    gI (z6 - z5) 1 ((z6 - z5) ≤ 1) (
      some (z6 - z4, ζ)) (
      gd (z5 + z6) 2 (
      (g_X12_doesWith z1 z2 (Int.tdiv (z5 + z6) 2) z3 ζ).bind fun q2 =>
      gI q2.1 0 (q2.1 = 0) (
        g_X12_need_109 (g_X12_need_68 z1 z2 z3 z4 n) z1 z2 z3 z4 (Int.tdiv (z5 + z6) 2) z6 q2.2) (
        g_X12_need_109 (g_X12_need_68 z1 z2 z3 z4 n) z1 z2 z3 z4 z5 (Int.tdiv (z5 + z6) 2) q2.2)))
def g_X12_need (z1 : Int) (z2 : Int) (z3 : Int) (ζ : ZS) : Option (Int × ZS) :=
    (g_X12_isThingIn z1 (zI ζ 0 0 0)).bind fun q2 =>
    gI q2.1 0 (q2.1 = 0) (
      g_X12_need_34 q2.2) (
      (g_X12_within z2 0 ((q2.2.1 0 20) - 1) q2.2).bind fun q3 =>
      gI q3.1 0 (q3.1 = 0) (
        g_X12_need_34 q3.2) (
        (g_X12_findNow q3.2).bind fun q4 =>
        gI q4.1 0 (q4.1 = 0) (
          g_X12_need_34 q4.2) (
          (g_X12_valueOf z1 z2 q4.2).bind fun q5 =>
          (g_X12_doesWith z1 z2 100 z3 q5.2).bind fun q6 =>
          gI q6.1 0 (q6.1 = 0) (
            some ((-1), q6.2)) (
            g_X12_need_68 z1 z2 z3 q5.1 FU (q5.1 - 1) 100 q6.2))))
def g_X12_edge_45  (ζ : ZS) : Option (Int × ZS) :=
    some ((-1), ζ)
def g_X12_edge_105 (z4 : Int) (ζ : ZS) : Option (Int × ZS) :=
    some (z4, zI ζ 0 32 (-1))
def g_X12_edge_97 (r53 : Int → Int → ZS → Option (Int × ZS)) (z1 : Int) (z2 : Int) (z3 : Int) (z5 : Int) (zs0 : Int) (ζ : ZS) : Option (Int × ZS) :=
    r53 zs0 (z5 + 1) ζ
def g_X12_edge_53 (z1 : Int) (z2 : Int) (z3 : Int) : Nat → Int → Int → ZS → Option (Int × ZS)
  | 0, _, _, _ => none
  | n + 1, z4, z5, ζ =>
    gI 100 z5 (100 < z5) (
      g_X12_edge_105 z4 ζ) (
      gI 0 z4 (0 ≤ z4) (
        g_X12_edge_105 z4 ζ) (
        (g_X12_isBetter z1 z2 0 (zI (zI (zI ζ 0 32 z1) 0 33 z3) 0 34 z5)).bind fun q4 =>
        gI q4.1 0 (q4.1 = 0) (
          g_X12_edge_97 (g_X12_edge_53 z1 z2 z3 n) z1 z2 z3 z5 (-1) q4.2) (
          g_X12_edge_97 (g_X12_edge_53 z1 z2 z3 n) z1 z2 z3 z5 z5 q4.2)))
def g_X12_edge (z1 : Int) (z2 : Int) (z3 : Int) (ζ : ZS) : Option (Int × ZS) :=
    (g_X12_areTwo z1 z2 (zI ζ 0 0 0)).bind fun q2 =>
    gI q2.1 0 (q2.1 = 0) (
      g_X12_edge_45 q2.2) (
      (g_X12_within z3 0 ((q2.2.1 0 20) - 1) q2.2).bind fun q3 =>
      gI q3.1 0 (q3.1 = 0) (
        g_X12_edge_45 q3.2) (
        (g_X12_findNow q3.2).bind fun q4 =>
        gI q4.1 0 (q4.1 = 0) (
          g_X12_edge_45 q4.2) (
          (g_X12_isBetter z1 z2 0 q4.2).bind fun q5 =>
          gI q5.1 0 (q5.1 = 0) (
            g_X12_edge_45 q5.2) (
            g_X12_edge_53 z1 z2 z3 FU (-1) 0 q5.2))))
def g_X12_isBestBy_41 (r4 : Int → Int → ZS → Option (Int × ZS)) (z1 : Int) (z3 : Int) (zs0 : Int) (ζ : ZS) : Option (Int × ZS) :=
    r4 zs0 (z3 + 1) ζ
def g_X12_isBestBy_40 (r4 : Int → Int → ZS → Option (Int × ZS)) (z1 : Int) (z3 : Int) (ζ : ZS) : Option (Int × ZS) :=
    g_X12_isBestBy_41 r4 z1 z3 0 ζ
def g_X12_isBestBy_36 (r4 : Int → Int → ZS → Option (Int × ZS)) (z1 : Int) (z3 : Int) (ζ : ZS) : Option (Int × ZS) :=
    g_X12_isBestBy_41 r4 z1 z3 1 ζ
def g_X12_isBestBy_4 (z1 : Int) : Nat → Int → Int → ZS → Option (Int × ZS)
  | 0, _, _, _ => none
  | n + 1, z2, z3, ζ =>
    gI 8 z3 (8 ≤ z3) (
      gz z2 (some (z2, ζ))) (
      gI z2 0 (z2 = 0) (
        g_X12_isBestBy_40 (g_X12_isBestBy_4 z1 n) z1 z3 ζ) (
        (g_X12_isIn z3 ζ).bind fun q1 =>
        gI q1.1 0 (q1.1 = 0) (
          g_X12_isBestBy_36 (g_X12_isBestBy_4 z1 n) z1 z3 q1.2) (
          (g_X12_goodBy z1 q1.2).bind fun q2 =>
          (g_X12_goodBy z3 q2.2).bind fun q3 =>
          gJ q2.1 q3.1 (q2.1 < q3.1) (
            g_X12_isBestBy_40 (g_X12_isBestBy_4 z1 n) z1 z3 q3.2) (
            g_X12_isBestBy_36 (g_X12_isBestBy_4 z1 n) z1 z3 q3.2))))
def g_X12_isBestBy (z1 : Int) (ζ : ZS) : Option (Int × ZS) :=
    g_X12_isBestBy_4 z1 FU 1 0 ζ
def g_X12_shareFrom_49 (rc : Int → Int → Int → ZS → Option (Int × ZS)) (z1 : Int) (z2 : Int) (z3 : Int) : Nat → Int → Int → ZS → Option (Int × ZS)
  | 0, _, _, _ => none
  | n + 1, z4, z5, ζ =>
    gI z3 z5 (z3 < z5) (
      some (z4, ζ)) (
      gw z5 (
      gk z2 4 (
      (rc z1 (z2 + 1) (z3 - z5) (zJ ζ 24 (Int.toNat z2) z5)).bind fun q4 =>
      (g_X12_shareFrom_49 rc z1 z2 z3 n) (z4 + q4.1) (z5 + 1) q4.2)))
def g_X12_shareFrom_42 (rc : Int → Int → Int → ZS → Option (Int × ZS)) (zs0 : Int) (ζ : ZS) : Option (Int × ZS) :=
    some (zs0, ζ)
def g_X12_shareFrom_41 (rc : Int → Int → Int → ZS → Option (Int × ZS))  (ζ : ZS) : Option (Int × ZS) :=
    g_X12_shareFrom_42 rc 0 ζ
def g_X12_shareFrom_37 (rc : Int → Int → Int → ZS → Option (Int × ZS))  (ζ : ZS) : Option (Int × ZS) :=
    g_X12_shareFrom_42 rc 1 ζ
def g_X12_shareFrom_0 (rc : Int → Int → Int → ZS → Option (Int × ZS)) (z1 : Int) (z2 : Int) (z3 : Int) (ζ : ZS) : Option (Int × ZS) :=
    gI z2 ((ζ.1 0 20) - 1) (z2 = ((ζ.1 0 20) - 1)) (
      gw z3 (
      gk z2 4 (
      (g_X12_doesFit (zJ ζ 24 (Int.toNat z2) z3)).bind fun q4 =>
      gI q4.1 0 (q4.1 = 0) (
        g_X12_shareFrom_41 rc q4.2) (
        gI z1 0 (z1 < 0) (
          g_X12_shareFrom_37 rc q4.2) (
          (g_X12_isBestBy z1 q4.2).bind fun q5 =>
          gI q5.1 0 (q5.1 = 0) (
            g_X12_shareFrom_41 rc q5.2) (
            g_X12_shareFrom_37 rc q5.2)))))) (
      g_X12_shareFrom_49 rc z1 z2 z3 FU 0 0 ζ)
def g_X12_shareFrom : Nat → Int → Int → Int → ZS → Option (Int × ZS)
  | 0, _, _, _, _ => none
  | d + 1, z1, z2, z3, ζ => g_X12_shareFrom_0 (g_X12_shareFrom d) z1 z2 z3 ζ
def g_X12_share_28  (ζ : ZS) : Option (Int × ZS) :=
    some ((-1), ζ)
def g_X12_share_18 (z1 : Int) (z2 : Int) (ζ : ZS) : Option (Int × ZS) :=
    (g_X12_within z2 1 20 ζ).bind fun q1 =>
    gI q1.1 0 (q1.1 = 0) (
      g_X12_share_28 q1.2) (
      (g_X12_heard q1.2).bind fun q2 =>
      (g_X12_laysRows q2.1 q2.2).bind fun q3 =>
      (g_X12_givesWeights 0 0 0 0 q3).bind fun q4 =>
      (g_X12_shareFrom DEP z1 0 z2 q4).bind fun q5 =>
      some (q5.1, q5.2))
def g_X12_share (z1 : Int) (z2 : Int) (ζ : ZS) : Option (Int × ZS) :=
    gI z1 (-1) (z1 = (-1)) (
      g_X12_share_18 z1 z2 (zI ζ 0 0 0)) (
      (g_X12_isThingIn z1 (zI ζ 0 0 0)).bind fun q2 =>
      gI q2.1 0 (q2.1 = 0) (
        g_X12_share_28 q2.2) (
        g_X12_share_18 z1 z2 q2.2))
def g_X12_sayingsOf_36 (r4 : Int → Int → ZS → Option (Int × ZS)) (z1 : Int) (z3 : Int) (zs0 : Int) (zs1 : Int) (ζ : ZS) : Option (Int × ZS) :=
    r4 (zor zs1 zs0) (z3 + 1) ζ
def g_X12_sayingsOf_4 (z1 : Int) : Nat → Int → Int → ZS → Option (Int × ZS)
  | 0, _, _, _ => none
  | n + 1, z2, z3, ζ =>
    gk 0 2 (
    gI (ζ.1 9 (Int.toNat 0)) z3 ((ζ.1 9 (Int.toNat 0)) ≤ z3) (
      some (z2, ζ)) (
      gk z3 24 (
      gI (zand (zshr z1 (ζ.1 10 (Int.toNat z3))) 1) 1 ((zand (zshr z1 (ζ.1 10 (Int.toNat z3))) 1) = 1) (
        g_X12_sayingsOf_36 (g_X12_sayingsOf_4 z1 n) z1 z3 (zshl 1 z3) z2 ζ) (
        g_X12_sayingsOf_36 (g_X12_sayingsOf_4 z1 n) z1 z3 0 z2 ζ))))
def g_X12_sayingsOf (z1 : Int) (ζ : ZS) : Option (Int × ZS) :=
    g_X12_sayingsOf_4 z1 FU 0 0 ζ
def g_X12_agree_84 (zs0 : Int) (ζ : ZS) : Option (Int × ZS) :=
    some (zs0, ζ)
def g_X12_agree_66 (r20 : Int → Int → ZS → Option (Int × ZS)) (z1 : Int) (z2 : Int) (z3 : Int) (ζ : ZS) : Option (Int × ZS) :=
    r20 z2 (z3 + 1) ζ
def g_X12_agree_65 (r20 : Int → Int → ZS → Option (Int × ZS)) (z1 : Int) (z3 : Int) (zs0 : Int) (ζ : ZS) : Option (Int × ZS) :=
    g_X12_agree_66 r20 z1 zs0 z3 ζ
def g_X12_agree_20 (z1 : Int) : Nat → Int → Int → ZS → Option (Int × ZS)
  | 0, _, _, _ => none
  | n + 1, z2, z3, ζ =>
    gI 256 z3 (256 ≤ z3) (
      gI z1 0 (z1 = 0) (
        (g_X12_bits z2 ζ).bind fun q1 =>
        g_X12_agree_84 q1.1 q1.2) (
        g_X12_agree_84 z2 ζ)) (
      (g_X12_bits z3 ζ).bind fun q2 =>
      (g_X12_bits z2 q2.2).bind fun q3 =>
      gI q2.1 q3.1 (q2.1 ≤ q3.1) (
        g_X12_agree_66 (g_X12_agree_20 z1 n) z1 z2 z3 q3.2) (
        (g_X12_sayingsOf z3 q3.2).bind fun q4 =>
        (g_X12_laysRows q4.1 q4.2).bind fun q5 =>
        (g_X12_findCorners q5).bind fun q6 =>
        gk 0 12 (
        gI (q6.1 20 (Int.toNat 0)) 0 ((q6.1 20 (Int.toNat 0)) ≤ 0) (
          g_X12_agree_65 (g_X12_agree_20 z1 n) z1 z3 z2 q6) (
          g_X12_agree_65 (g_X12_agree_20 z1 n) z1 z3 z3 q6))))
def g_X12_agree (z1 : Int) (ζ : ZS) : Option (Int × ZS) :=
    (g_X12_within z1 0 1 (zI ζ 0 0 0)).bind fun q2 =>
    gI q2.1 0 (q2.1 = 0) (
      some ((-1), q2.2)) (
      g_X12_agree_20 z1 FU 0 0 q2.2)
def g_X12_yields_122 (zs0 : Int) (ζ : ZS) : Option (Int × ZS) :=
    some (zs0, ζ)
def g_X12_yields_96 (r20 : Int → Int → ZS → Option (Int × ZS)) (z1 : Int) (z2 : Int) (z3 : Int) (ζ : ZS) : Option (Int × ZS) :=
    r20 z2 (z3 + 1) ζ
def g_X12_yields_95 (r20 : Int → Int → ZS → Option (Int × ZS)) (z1 : Int) (z3 : Int) (zs0 : Int) (ζ : ZS) : Option (Int × ZS) :=
    g_X12_yields_96 r20 z1 zs0 z3 ζ
def g_X12_yields_94 (r20 : Int → Int → ZS → Option (Int × ZS)) (z1 : Int) (z2 : Int) (z3 : Int) (ζ : ZS) : Option (Int × ZS) :=
    g_X12_yields_95 r20 z1 z3 z2 ζ
def g_X12_yields_53 (r20 : Int → Int → ZS → Option (Int × ZS)) (z1 : Int) (z2 : Int) (z3 : Int) (ζ : ZS) : Option (Int × ZS) :=
    (g_X12_sayingsOf (zand (ζ.1 0 23) (zxor z3 (-1))) ζ).bind fun q1 =>
    (g_X12_laysRows q1.1 q1.2).bind fun q2 =>
    (g_X12_findCorners q2).bind fun q3 =>
    gk 0 12 (
    gI (q3.1 20 (Int.toNat 0)) 0 ((q3.1 20 (Int.toNat 0)) ≤ 0) (
      g_X12_yields_94 r20 z1 z2 z3 q3) (
      (g_X12_sureBest 0 q3).bind fun q5 =>
      gI q5.1 0 (q5.1 = 0) (
        g_X12_yields_94 r20 z1 z2 z3 q5.2) (
        g_X12_yields_95 r20 z1 z3 z3 q5.2)))
def g_X12_yields_20 (z1 : Int) : Nat → Int → Int → ZS → Option (Int × ZS)
  | 0, _, _, _ => none
  | n + 1, z2, z3, ζ =>
    gI 256 z3 (256 ≤ z3) (
      gI 0 z2 (0 ≤ z2) (
        gI z1 0 (z1 = 0) (
          (g_X12_bits z2 ζ).bind fun q1 =>
          g_X12_yields_122 q1.1 q1.2) (
          g_X12_yields_122 z2 ζ)) (
        g_X12_yields_122 (-1) ζ)) (
      gI (zand z3 (zxor (ζ.1 0 23) (-1))) 0 ((zand z3 (zxor (ζ.1 0 23) (-1))) = 0) (
        gI z2 0 (z2 < 0) (
          g_X12_yields_53 (g_X12_yields_20 z1 n) z1 z2 z3 ζ) (
          (g_X12_bits z3 ζ).bind fun q2 =>
          (g_X12_bits z2 q2.2).bind fun q3 =>
          gI q3.1 q2.1 (q3.1 ≤ q2.1) (
            g_X12_yields_96 (g_X12_yields_20 z1 n) z1 z2 z3 q3.2) (
            g_X12_yields_53 (g_X12_yields_20 z1 n) z1 z2 z3 q3.2))) (
        g_X12_yields_96 (g_X12_yields_20 z1 n) z1 z2 z3 ζ))
def g_X12_yields (z1 : Int) (ζ : ZS) : Option (Int × ZS) :=
    (g_X12_within z1 0 1 (zI ζ 0 0 0)).bind fun q2 =>
    gI q2.1 0 (q2.1 = 0) (
      some ((-1), q2.2)) (
      g_X12_yields_20 z1 FU (-1) 0 q2.2)
def g_X12_row_85 (z2 : Int) (ζ : ZS) : Option (Int × ZS) :=
    gz z2 (some (z2, ζ))
def g_X12_row_54 (r27 : Int → Int → ZS → Option (Int × ZS)) (z1 : Int) (z3 : Int) (zs0 : Int) (ζ : ZS) : Option (Int × ZS) :=
    r27 zs0 (z3 + 1) ζ
def g_X12_row_53 (r27 : Int → Int → ZS → Option (Int × ZS)) (z1 : Int) (z3 : Int) (ζ : ZS) : Option (Int × ZS) :=
    g_X12_row_54 r27 z1 z3 0 ζ
def g_X12_row_27 (z1 : Int) : Nat → Int → Int → ZS → Option (Int × ZS)
  | 0, _, _, _ => none
  | n + 1, z2, z3, ζ =>
    gI (ζ.1 0 24) z3 ((ζ.1 0 24) ≤ z3) (
      gI z2 0 (z2 = 0) (
        g_X12_row_85 z2 ζ) (
        gk (ζ.1 0 24) 8 (
        g_X12_row_85 z2 (zI (zI ζ 18 (Int.toNat (ζ.1 0 24)) z1) 0 24 (((zI ζ 18 (Int.toNat (ζ.1 0 24)) z1).1 0 24) + 1))))) (
      gI z2 0 (z2 = 0) (
        g_X12_row_53 (g_X12_row_27 z1 n) z1 z3 ζ) (
        gk z3 8 (
        gI (ζ.1 18 (Int.toNat z3)) z1 ((ζ.1 18 (Int.toNat z3)) = z1) (
          g_X12_row_53 (g_X12_row_27 z1 n) z1 z3 ζ) (
          g_X12_row_54 (g_X12_row_27 z1 n) z1 z3 1 ζ))))
def g_X12_row (z1 : Int) (ζ : ZS) : Option (Int × ZS) :=
    gI z1 (-1) (z1 = (-1)) (
      some (1, zI (zI ζ 0 0 0) 0 24 0)) (
      (g_X12_within z1 0 7 (zI ζ 0 0 0)).bind fun q2 =>
      g_X12_row_27 z1 FU q2.1 0 q2.2)
def g_X12_judged_21  (ζ : ZS) : Option (Int × ZS) :=
    some ((-1), ζ)
def g_X12_judged_121 (zs0 : Int) (ζ : ZS) : Option (Int × ZS) :=
    some (zs0, ζ)
def g_X12_judged_105 (zs0 : Int) (ζ : ZS) : Option (Int × ZS) :=
    some (zs0, ζ)
def g_X12_judged_56 (z1 : Int) : Nat → Int → ZS → Option (Int × ZS)
  | 0, _, _ => none
  | n + 1, z2, ζ =>
    gI (ζ.1 0 24) z2 ((ζ.1 0 24) ≤ z2) (
      gI z1 0 (z1 = 0) (
        g_X12_judged_121 1 ζ) (
        g_X12_judged_121 (-1) ζ)) (
      gk (z2 - 1) 8 (
      gk z2 8 (
      (g_X12_addsAbove (ζ.1 18 (Int.toNat (z2 - 1))) (ζ.1 18 (Int.toNat z2)) ζ).bind fun q3 =>
      (g_X12_findMore z2 q3).bind fun q4 =>
      gk z2 12 (
      gI (q4.1 20 (Int.toNat z2)) 0 ((q4.1 20 (Int.toNat z2)) = 0) (
        gI z1 0 (z1 = 0) (
          g_X12_judged_105 0 q4) (
          g_X12_judged_105 z2 q4)) (
        (g_X12_judged_56 z1 n) (z2 + 1) q4)))))
def g_X12_judged_25 (z1 : Int) : Nat → Int → ZS → Option (Int × ZS)
  | 0, _, _ => none
  | n + 1, z2, ζ =>
    gI (ζ.1 0 24) z2 ((ζ.1 0 24) ≤ z2) (
      g_X12_judged_56 z1 FU 1 ζ) (
      gk z2 8 (
      (g_X12_isIn (ζ.1 18 (Int.toNat z2)) ζ).bind fun q2 =>
      gI q2.1 0 (q2.1 = 0) (
        some ((-1), q2.2)) (
        (g_X12_judged_25 z1 n) (z2 + 1) q2.2)))
def g_X12_judged (z1 : Int) (ζ : ZS) : Option (Int × ZS) :=
    (g_X12_within z1 0 1 (zI ζ 0 0 0)).bind fun q2 =>
    gI q2.1 0 (q2.1 = 0) (
      g_X12_judged_21 q2.2) (
      (g_X12_findNow q2.2).bind fun q3 =>
      gI q3.1 0 (q3.1 = 0) (
        g_X12_judged_21 q3.2) (
        g_X12_judged_25 z1 FU 0 q3.2))
def g_X12_worst_114 (r11 : Int → Int → Int → ZS → Option (Int × ZS)) (z1 : Int) (z2 : Int) (z3 : Int) (ζ : ZS) : Option (Int × ZS) :=
    r11 z1 z2 (z3 + 1) ζ
def g_X12_worst_113 (r11 : Int → Int → Int → ZS → Option (Int × ZS)) (z2 : Int) (z3 : Int) (zs0 : Int) (ζ : ZS) : Option (Int × ZS) :=
    g_X12_worst_114 r11 zs0 z2 z3 ζ
def g_X12_worst_100 (r11 : Int → Int → Int → ZS → Option (Int × ZS)) (z1 : Int) (z3 : Int) (z4 : Int) (zs0 : Int) (ζ : ZS) : Option (Int × ZS) :=
    gI z4 z1 (z4 ≤ z1) (
      g_X12_worst_113 r11 zs0 z3 z1 ζ) (
      g_X12_worst_113 r11 zs0 z3 z4 ζ)
def g_X12_worst_65 (r11 : Int → Int → Int → ZS → Option (Int × ZS)) (r32 : Int → Int → ZS → Option (Int × ZS)) (z1 : Int) (z2 : Int) (z3 : Int) (z5 : Int) (zs0 : Int) (ζ : ZS) : Option (Int × ZS) :=
    r32 zs0 (z5 + 1) ζ
def g_X12_worst_32 (z1 : Int) (z2 : Int) (z3 : Int) (r11 : Int → Int → Int → ZS → Option (Int × ZS)) : Nat → Int → Int → ZS → Option (Int × ZS)
  | 0, _, _, _ => none
  | n + 1, z4, z5, ζ =>
    gI (ζ.1 0 20) z5 ((ζ.1 0 20) ≤ z5) (
      gI z4 z1 (z4 ≤ z1) (
        gI z4 z1 (z4 = z1) (
          g_X12_worst_100 r11 z1 z3 z4 (zor z2 (zshl 1 z3)) ζ) (
          g_X12_worst_100 r11 z1 z3 z4 z2 ζ)) (
        g_X12_worst_100 r11 z1 z3 z4 (zshl 1 z3) ζ)) (
      (g_X12_valueOf z3 z5 ζ).bind fun q1 =>
      gI z4 q1.1 (z4 ≤ q1.1) (
        g_X12_worst_65 r11 (g_X12_worst_32 z1 z2 z3 r11 n) z1 z2 z3 z5 z4 q1.2) (
        (g_X12_valueOf z3 z5 q1.2).bind fun q2 =>
        g_X12_worst_65 r11 (g_X12_worst_32 z1 z2 z3 r11 n) z1 z2 z3 z5 q2.1 q2.2))
def g_X12_worst_11  : Nat → Int → Int → Int → ZS → Option (Int × ZS)
  | 0, _, _, _, _ => none
  | n + 1, z1, z2, z3, ζ =>
    gI 8 z3 (8 ≤ z3) (
      some (z2, ζ)) (
      (g_X12_isIn z3 ζ).bind fun q1 =>
      gI q1.1 0 (q1.1 = 0) (
        g_X12_worst_114 (g_X12_worst_11 n) z1 z2 z3 q1.2) (
        g_X12_worst_32 z1 z2 z3 (g_X12_worst_11 n) FU 100 0 q1.2))
def g_X12_worst  (ζ : ZS) : Option (Int × ZS) :=
    g_X12_worst_11 FU (-1) 0 0 (zI ζ 0 0 0)
def g_X12_bestOf_80 (r8 : Int → Int → Int → ZS → Option (Int × ZS)) (z1 : Int) (z2 : Int) (z3 : Int) (z4 : Int) (z5 : Int) (ζ : ZS) : Option (Int × ZS) :=
    r8 z3 z4 (z5 + 1) ζ
def g_X12_bestOf_79 (r8 : Int → Int → Int → ZS → Option (Int × ZS)) (z1 : Int) (z2 : Int) (z4 : Int) (z5 : Int) (zs0 : Int) (ζ : ZS) : Option (Int × ZS) :=
    g_X12_bestOf_80 r8 z1 z2 zs0 z4 z5 ζ
def g_X12_bestOf_65 (r8 : Int → Int → Int → ZS → Option (Int × ZS)) (z1 : Int) (z2 : Int) (z3 : Int) (z5 : Int) (z6 : Int) (zs0 : Int) (ζ : ZS) : Option (Int × ZS) :=
    gI z6 z3 (z6 ≤ z3) (
      g_X12_bestOf_79 r8 z1 z2 zs0 z5 z3 ζ) (
      g_X12_bestOf_79 r8 z1 z2 zs0 z5 z6 ζ)
def g_X12_bestOf_8 (z1 : Int) (z2 : Int) : Nat → Int → Int → Int → ZS → Option (Int × ZS)
  | 0, _, _, _, _ => none
  | n + 1, z3, z4, z5, ζ =>
    gI 8 z5 (8 ≤ z5) (
      some (z4, ζ)) (
      gI (zand (zshr z1 z5) 1) 1 ((zand (zshr z1 z5) 1) = 1) (
        (g_X12_valueOf z5 z2 ζ).bind fun q1 =>
        gI q1.1 z3 (q1.1 ≤ z3) (
          gI q1.1 z3 (q1.1 = z3) (
            g_X12_bestOf_65 (g_X12_bestOf_8 z1 z2 n) z1 z2 z3 z5 q1.1 (zor z4 (zshl 1 z5)) q1.2) (
            g_X12_bestOf_65 (g_X12_bestOf_8 z1 z2 n) z1 z2 z3 z5 q1.1 z4 q1.2)) (
          g_X12_bestOf_65 (g_X12_bestOf_8 z1 z2 n) z1 z2 z3 z5 q1.1 (zshl 1 z5) q1.2)) (
        g_X12_bestOf_80 (g_X12_bestOf_8 z1 z2 n) z1 z2 z3 z4 z5 ζ))
def g_X12_bestOf (z1 : Int) (z2 : Int) (ζ : ZS) : Option (Int × ZS) :=
    g_X12_bestOf_8 z1 z2 FU (-1) 0 0 ζ
def g_X12_first_137  : Nat → Int → Int → ZS → Option (Int × ZS)
  | 0, _, _, _ => none
  | n + 1, z4, z5, ζ =>
    gI (ζ.1 0 20) z5 ((ζ.1 0 20) ≤ z5) (
      some (z4, ζ)) (
      gk z5 4 (
      (g_X12_bestOf z4 (ζ.2.1 24 (Int.toNat z5)) ζ).bind fun q2 =>
      (g_X12_first_137 n) q2.1 (z5 + 1) q2.2))
def g_X12_first_125 (r99 : Int → Int → ZS → Option (Int × ZS)) (z5 : Int) (zs0 : Int) (zs1 : Int) (ζ : ZS) : Option (Int × ZS) :=
    r99 (zor zs1 zs0) (z5 + 1) ζ
def g_X12_first_99  : Nat → Int → Int → ZS → Option (Int × ZS)
  | 0, _, _, _ => none
  | n + 1, z4, z5, ζ =>
    gI 8 z5 (8 ≤ z5) (
      g_X12_first_137 FU z4 0 ζ) (
      (g_X12_isIn z5 ζ).bind fun q1 =>
      gI q1.1 0 (q1.1 = 0) (
        g_X12_first_125 (g_X12_first_99 n) z5 0 z4 q1.2) (
        g_X12_first_125 (g_X12_first_99 n) z5 (zshl 1 z5) z4 q1.2))
def g_X12_first_50  (ζ : ZS) : Option (Int × ZS) :=
    some ((-1), ζ)
def g_X12_first_12 (z1 : Int) : Nat → Int → Int → Int → ZS → Option (Int × ZS)
  | 0, _, _, _, _ => none
  | n + 1, z2, z3, z4, ζ =>
    gI (ζ.1 0 20) z4 ((ζ.1 0 20) ≤ z4) (
      gI z3 0 (z3 ≤ 0) (
        g_X12_first_99 FU 0 0 ζ) (
        some ((-1), ζ))) (
      gd z3 10 (
      gI z1 0 (z1 < 0) (
        g_X12_first_50 ζ) (
        gI (ζ.1 0 20) (Int.tmod z3 10) ((ζ.1 0 20) ≤ (Int.tmod z3 10)) (
          g_X12_first_50 ζ) (
          gI (zand (zshr z2 (Int.tmod z3 10)) 1) 1 ((zand (zshr z2 (Int.tmod z3 10)) 1) = 1) (
            g_X12_first_50 ζ) (
            gw (Int.tmod z3 10) (
            gk (((ζ.1 0 20) - 1) - z4) 4 (
            gd z3 10 (
            (g_X12_first_12 z1 n) (zor z2 (zshl 1 (Int.tmod z3 10))) (Int.tdiv z3 10) (z4 + 1) (zJ ζ 24 (Int.toNat (((ζ.1 0 20) - 1) - z4)) (Int.tmod z3 10))))))))))
def g_X12_first (z1 : Int) (ζ : ZS) : Option (Int × ZS) :=
    g_X12_first_12 z1 FU 0 z1 0 (zI ζ 0 0 0)
def g_X12_outdoes_61 (r3 : Int → ZS → Option (Int × ZS)) (r20 : Int → Int → ZS → Option (Int × ZS)) (z1 : Int) (z2 : Int) (z3 : Int) (z4 : Int) (z7 : Int) (zs0 : Int) (zs1 : Int) (ζ : ZS) : Option (Int × ZS) :=
    r20 (zs1 + zs0) (z7 + 1) ζ
def g_X12_outdoes_20 (z1 : Int) (z2 : Int) (z3 : Int) (z4 : Int) (r3 : Int → ZS → Option (Int × ZS)) : Nat → Int → Int → ZS → Option (Int × ZS)
  | 0, _, _, _ => none
  | n + 1, z5, z7, ζ =>
    gI (ζ.1 0 20) z7 ((ζ.1 0 20) ≤ z7) (
      gw z3 (
      (g_X12_sumAt 0 z4 ζ).bind fun q2 =>
      gJ (z3 * q2.1) (100 * z5) ((z3 * q2.1) ≤ (100 * z5)) (
        r3 (z4 + 1) q2.2) (
        some (0, q2.2)))) (
      (g_X12_valueOf z1 z7 ζ).bind fun q3 =>
      (g_X12_valueOf z2 z7 q3.2).bind fun q4 =>
      gI q3.1 q4.1 (q3.1 < q4.1) (
        g_X12_outdoes_61 r3 (g_X12_outdoes_20 z1 z2 z3 z4 r3 n) z1 z2 z3 z4 z7 0 z5 q4.2) (
        (g_X12_weightAt 0 z4 z7 q4.2).bind fun q5 =>
        g_X12_outdoes_61 r3 (g_X12_outdoes_20 z1 z2 z3 z4 r3 n) z1 z2 z3 z4 z7 q5.1 z5 q5.2))
def g_X12_outdoes_3 (z1 : Int) (z2 : Int) (z3 : Int) : Nat → Int → ZS → Option (Int × ZS)
  | 0, _, _ => none
  | n + 1, z4, ζ =>
    gk 0 12 (
    gI (ζ.1 20 (Int.toNat 0)) z4 ((ζ.1 20 (Int.toNat 0)) ≤ z4) (
      some (1, ζ)) (
      g_X12_outdoes_20 z1 z2 z3 z4 (g_X12_outdoes_3 z1 z2 z3 n) FU 0 0 ζ))
def g_X12_outdoes (z1 : Int) (z2 : Int) (z3 : Int) (ζ : ZS) : Option (Int × ZS) :=
    g_X12_outdoes_3 z1 z2 z3 FU 0 ζ
def g_X12_many_22  (ζ : ZS) : Option (Int × ZS) :=
    some ((-1), ζ)
def g_X12_many_119 (r28 : Int → Int → ZS → Option (Int × ZS)) (z1 : Int) (z3 : Int) (zs0 : Int) (zs1 : Int) (ζ : ZS) : Option (Int × ZS) :=
    r28 (zor zs1 zs0) (z3 + 1) ζ
def g_X12_many_98 (r28 : Int → Int → ZS → Option (Int × ZS)) (r44 : Int → Int → ZS → Option (Int × ZS)) (z1 : Int) (z2 : Int) (z3 : Int) (z5 : Int) (zs0 : Int) (ζ : ZS) : Option (Int × ZS) :=
    r44 zs0 (z5 + 1) ζ
def g_X12_many_97 (r28 : Int → Int → ZS → Option (Int × ZS)) (r44 : Int → Int → ZS → Option (Int × ZS)) (z1 : Int) (z2 : Int) (z3 : Int) (z5 : Int) (ζ : ZS) : Option (Int × ZS) :=
    g_X12_many_98 r28 r44 z1 z2 z3 z5 0 ζ
def g_X12_many_93 (r28 : Int → Int → ZS → Option (Int × ZS)) (r44 : Int → Int → ZS → Option (Int × ZS)) (z1 : Int) (z2 : Int) (z3 : Int) (z5 : Int) (ζ : ZS) : Option (Int × ZS) :=
    g_X12_many_98 r28 r44 z1 z2 z3 z5 1 ζ
def g_X12_many_44 (z1 : Int) (z2 : Int) (z3 : Int) (r28 : Int → Int → ZS → Option (Int × ZS)) : Nat → Int → Int → ZS → Option (Int × ZS)
  | 0, _, _, _ => none
  | n + 1, z4, z5, ζ =>
    gI 8 z5 (8 ≤ z5) (
      gI z4 0 (z4 = 0) (
        g_X12_many_119 r28 z1 z3 0 z2 ζ) (
        g_X12_many_119 r28 z1 z3 (zshl 1 z3) z2 ζ)) (
      gI z4 0 (z4 = 0) (
        g_X12_many_97 r28 (g_X12_many_44 z1 z2 z3 r28 n) z1 z2 z3 z5 ζ) (
        gI z5 z3 (z5 = z3) (
          g_X12_many_93 r28 (g_X12_many_44 z1 z2 z3 r28 n) z1 z2 z3 z5 ζ) (
          (g_X12_isIn z5 ζ).bind fun q1 =>
          gI q1.1 0 (q1.1 = 0) (
            g_X12_many_93 r28 (g_X12_many_44 z1 z2 z3 r28 n) z1 z2 z3 z5 q1.2) (
            (g_X12_outdoes z5 z3 z1 q1.2).bind fun q2 =>
            gI q2.1 0 (q2.1 = 0) (
              g_X12_many_93 r28 (g_X12_many_44 z1 z2 z3 r28 n) z1 z2 z3 z5 q2.2) (
              (g_X12_outdoes z3 z5 z1 q2.2).bind fun q3 =>
              gI q3.1 0 (q3.1 = 0) (
                g_X12_many_97 r28 (g_X12_many_44 z1 z2 z3 r28 n) z1 z2 z3 z5 q3.2) (
                g_X12_many_93 r28 (g_X12_many_44 z1 z2 z3 r28 n) z1 z2 z3 z5 q3.2))))))
def g_X12_many_28 (z1 : Int) : Nat → Int → Int → ZS → Option (Int × ZS)
  | 0, _, _, _ => none
  | n + 1, z2, z3, ζ =>
    gI 8 z3 (8 ≤ z3) (
      some (z2, ζ)) (
      (g_X12_isIn z3 ζ).bind fun q1 =>
      g_X12_many_44 z1 z2 z3 (g_X12_many_28 z1 n) FU q1.1 0 q1.2)
def g_X12_many (z1 : Int) (ζ : ZS) : Option (Int × ZS) :=
    (g_X12_within z1 1 100 (zI ζ 0 0 0)).bind fun q2 =>
    gI q2.1 0 (q2.1 = 0) (
      g_X12_many_22 q2.2) (
      (g_X12_findNow q2.2).bind fun q3 =>
      gI q3.1 0 (q3.1 = 0) (
        g_X12_many_22 q3.2) (
        g_X12_many_28 z1 FU 0 0 q3.2))
def g_X12_toldMany_25 (r4 : Int → Int → ZS → Option (Int × ZS)) (z2 : Int) (zs0 : Int) (zs1 : Int) (ζ : ZS) : Option (Int × ZS) :=
    r4 (zs1 + zs0) (z2 + 1) ζ
def g_X12_toldMany_4  : Nat → Int → Int → ZS → Option (Int × ZS)
  | 0, _, _, _ => none
  | n + 1, z1, z2, ζ =>
    gI 8 z2 (8 ≤ z2) (
      some (z1, ζ)) (
      gk z2 8 (
      gI (ζ.1 16 (Int.toNat z2)) 0 ((ζ.1 16 (Int.toNat z2)) = 0) (
        g_X12_toldMany_25 (g_X12_toldMany_4 n) z2 0 z1 ζ) (
        g_X12_toldMany_25 (g_X12_toldMany_4 n) z2 1 z1 ζ)))
def g_X12_toldMany  (ζ : ZS) : Option (Int × ZS) :=
    g_X12_toldMany_4 FU 0 0 ζ
def g_X12_count_104 (zs0 : Int) (ζ : ZS) : Option (Int × ZS) :=
    some (zs0, ζ)
def g_X12_count (z1 : Int) (ζ : ZS) : Option (Int × ZS) :=
    gI z1 0 (z1 = 0) (
      some ((zI ζ 0 0 0).1 0 20, zI ζ 0 0 0)) (
    gI z1 1 (z1 = 1) (
      (g_X12_toldMany (zI ζ 0 0 0)).bind fun q2 =>
      some (q2.1, q2.2)) (
    gI z1 2 (z1 = 2) (
      (g_X12_inMany (zI ζ 0 0 0)).bind fun q3 =>
      some (q3.1, q3.2)) (
    gI z1 3 (z1 = 3) (
      gk 0 2 (
      some ((zI ζ 0 0 0).1 9 (Int.toNat 0), zI ζ 0 0 0))) (
    gI z1 4 (z1 = 4) (
      (g_X12_heard (zI ζ 0 0 0)).bind fun q5 =>
      (g_X12_bits q5.1 q5.2).bind fun q6 =>
      some (q6.1, q6.2)) (
    gI z1 5 (z1 = 5) (
      some ((zI ζ 0 0 0).1 0 2, zI ζ 0 0 0)) (
    gI z1 6 (z1 = 6) (
      (g_X12_findNow (zI ζ 0 0 0)).bind fun q7 =>
      gI q7.1 0 (q7.1 = 0) (
        g_X12_count_104 0 q7.2) (
        gk 0 12 (
        g_X12_count_104 (q7.2.1 20 (Int.toNat 0)) q7.2))) (
    gI z1 7 (z1 = 7) (
      some ((zI ζ 0 0 0).1 0 24, zI ζ 0 0 0)) (
    some ((-1), zI ζ 0 0 0)))))))))

def g_J9_floorDiv_7cf53_21 (z2 : Int) (ζ : ZS) : Option (Int × ZS) :=
    some (z2, ζ)
def g_J9_floorDiv_7cf53 (z0 : Int) (z1 : Int) (ζ : ZS) : Option (Int × ZS) :=
    gd z0 z1 (
    gI 0 (zxor z0 z1) (0 ≤ (zxor z0 z1)) (
      g_J9_floorDiv_7cf53_21 (Int.tdiv z0 z1) ζ) (
      gI ((Int.tdiv z0 z1) * z1) z0 (((Int.tdiv z0 z1) * z1) = z0) (
        g_J9_floorDiv_7cf53_21 (Int.tdiv z0 z1) ζ) (
        some ((Int.tdiv z0 z1) - 1, ζ))))
def g_J9_floorDiv_f86c9_27 (z4 : Int) (ζ : ZS) : Option (Int × ZS) :=
    some (z4, ζ)
def g_J9_floorDiv_f86c9 (z0 : Int) (z2 : Int) (ζ : ZS) : Option (Int × ZS) :=
    gdJ z0 z2 (
    gJ 0 (zlxor z0 z2) (0 ≤ (zlxor z0 z2)) (
      g_J9_floorDiv_f86c9_27 (Int.tdiv z0 z2) ζ) (
      gJ ((Int.tdiv z0 z2) * z2) z0 (((Int.tdiv z0 z2) * z2) = z0) (
        g_J9_floorDiv_f86c9_27 (Int.tdiv z0 z2) ζ) (
        some ((Int.tdiv z0 z2) - 1, ζ))))
def g_J9_max_7cf53_10 (zs0 : Int) (ζ : ZS) : Option (Int × ZS) :=
    some (zs0, ζ)
def g_J9_max_7cf53 (z0 : Int) (z1 : Int) (ζ : ZS) : Option (Int × ZS) :=
    gI z0 z1 (z0 < z1) (
      g_J9_max_7cf53_10 z1 ζ) (
      g_J9_max_7cf53_10 z0 ζ)
def g_J9_max_f86c9_11 (zs0 : Int) (ζ : ZS) : Option (Int × ZS) :=
    some (zs0, ζ)
def g_J9_max_f86c9 (z0 : Int) (z2 : Int) (ζ : ZS) : Option (Int × ZS) :=
    gJ z0 z2 (z0 < z2) (
      g_J9_max_f86c9_11 z2 ζ) (
      g_J9_max_f86c9_11 z0 ζ)
def g_J9_min_7cf53_10 (zs0 : Int) (ζ : ZS) : Option (Int × ZS) :=
    some (zs0, ζ)
def g_J9_min_7cf53 (z0 : Int) (z1 : Int) (ζ : ZS) : Option (Int × ZS) :=
    gI z1 z0 (z1 < z0) (
      g_J9_min_7cf53_10 z1 ζ) (
      g_J9_min_7cf53_10 z0 ζ)
def g_X0_clear_2 (ct : Nat) : Nat → Int → ZS → Option ZS
  | 0, _, _ => none
  | n + 1, z1, ζ =>
    gI 4 z1 (4 ≤ z1) (
      some (zI ζ ct 9 0)) (
      gk z1 4 (
      gk z1 4 (
      gk z1 4 (
      (g_X0_clear_2 ct n) (z1 + 1) (zI (zI (zI ζ (ct + 1) (Int.toNat z1) (-1)) (ct + 2) (Int.toNat z1) (-1)) (ct + 3) (Int.toNat z1) (-1))))))
def g_X0_clear (ct : Nat) (ζ : ZS) : Option ZS :=
    g_X0_clear_2 ct FU 0 ζ
def g_X0_say (ct : Nat) (z1 : Int) (z2 : Int) (z3 : Int) (z4 : Int) (z5 : Int) (z6 : Int) (ζ : ZS) : Option ZS :=
    gI (ζ.1 ct 9) 12 ((ζ.1 ct 9) < 12) (
      gk (ζ.1 ct 9) 12 (
      gk ((zI ζ (ct + 4) (Int.toNat (ζ.1 ct 9)) z1).1 ct 9) 12 (
      gk ((zI (zI ζ (ct + 4) (Int.toNat (ζ.1 ct 9)) z1) (ct + 5) (Int.toNat ((zI ζ (ct + 4) (Int.toNat (ζ.1 ct 9)) z1).1 ct 9)) z2).1 ct 9) 12 (
      gk ((zI (zI (zI ζ (ct + 4) (Int.toNat (ζ.1 ct 9)) z1) (ct + 5) (Int.toNat ((zI ζ (ct + 4) (Int.toNat (ζ.1 ct 9)) z1).1 ct 9)) z2) (ct + 6) (Int.toNat ((zI (zI ζ (ct + 4) (Int.toNat (ζ.1 ct 9)) z1) (ct + 5) (Int.toNat ((zI ζ (ct + 4) (Int.toNat (ζ.1 ct 9)) z1).1 ct 9)) z2).1 ct 9)) z3).1 ct 9) 12 (
      gk ((zI (zI (zI (zI ζ (ct + 4) (Int.toNat (ζ.1 ct 9)) z1) (ct + 5) (Int.toNat ((zI ζ (ct + 4) (Int.toNat (ζ.1 ct 9)) z1).1 ct 9)) z2) (ct + 6) (Int.toNat ((zI (zI ζ (ct + 4) (Int.toNat (ζ.1 ct 9)) z1) (ct + 5) (Int.toNat ((zI ζ (ct + 4) (Int.toNat (ζ.1 ct 9)) z1).1 ct 9)) z2).1 ct 9)) z3) (ct + 7) (Int.toNat ((zI (zI (zI ζ (ct + 4) (Int.toNat (ζ.1 ct 9)) z1) (ct + 5) (Int.toNat ((zI ζ (ct + 4) (Int.toNat (ζ.1 ct 9)) z1).1 ct 9)) z2) (ct + 6) (Int.toNat ((zI (zI ζ (ct + 4) (Int.toNat (ζ.1 ct 9)) z1) (ct + 5) (Int.toNat ((zI ζ (ct + 4) (Int.toNat (ζ.1 ct 9)) z1).1 ct 9)) z2).1 ct 9)) z3).1 ct 9)) z4).1 ct 9) 12 (
      gk ((zI (zI (zI (zI (zI ζ (ct + 4) (Int.toNat (ζ.1 ct 9)) z1) (ct + 5) (Int.toNat ((zI ζ (ct + 4) (Int.toNat (ζ.1 ct 9)) z1).1 ct 9)) z2) (ct + 6) (Int.toNat ((zI (zI ζ (ct + 4) (Int.toNat (ζ.1 ct 9)) z1) (ct + 5) (Int.toNat ((zI ζ (ct + 4) (Int.toNat (ζ.1 ct 9)) z1).1 ct 9)) z2).1 ct 9)) z3) (ct + 7) (Int.toNat ((zI (zI (zI ζ (ct + 4) (Int.toNat (ζ.1 ct 9)) z1) (ct + 5) (Int.toNat ((zI ζ (ct + 4) (Int.toNat (ζ.1 ct 9)) z1).1 ct 9)) z2) (ct + 6) (Int.toNat ((zI (zI ζ (ct + 4) (Int.toNat (ζ.1 ct 9)) z1) (ct + 5) (Int.toNat ((zI ζ (ct + 4) (Int.toNat (ζ.1 ct 9)) z1).1 ct 9)) z2).1 ct 9)) z3).1 ct 9)) z4) (ct + 8) (Int.toNat ((zI (zI (zI (zI ζ (ct + 4) (Int.toNat (ζ.1 ct 9)) z1) (ct + 5) (Int.toNat ((zI ζ (ct + 4) (Int.toNat (ζ.1 ct 9)) z1).1 ct 9)) z2) (ct + 6) (Int.toNat ((zI (zI ζ (ct + 4) (Int.toNat (ζ.1 ct 9)) z1) (ct + 5) (Int.toNat ((zI ζ (ct + 4) (Int.toNat (ζ.1 ct 9)) z1).1 ct 9)) z2).1 ct 9)) z3) (ct + 7) (Int.toNat ((zI (zI (zI ζ (ct + 4) (Int.toNat (ζ.1 ct 9)) z1) (ct + 5) (Int.toNat ((zI ζ (ct + 4) (Int.toNat (ζ.1 ct 9)) z1).1 ct 9)) z2) (ct + 6) (Int.toNat ((zI (zI ζ (ct + 4) (Int.toNat (ζ.1 ct 9)) z1) (ct + 5) (Int.toNat ((zI ζ (ct + 4) (Int.toNat (ζ.1 ct 9)) z1).1 ct 9)) z2).1 ct 9)) z3).1 ct 9)) z4).1 ct 9)) z5).1 ct 9) 12 (
      some (zI (zI (zI (zI (zI (zI (zI ζ (ct + 4) (Int.toNat (ζ.1 ct 9)) z1) (ct + 5) (Int.toNat ((zI ζ (ct + 4) (Int.toNat (ζ.1 ct 9)) z1).1 ct 9)) z2) (ct + 6) (Int.toNat ((zI (zI ζ (ct + 4) (Int.toNat (ζ.1 ct 9)) z1) (ct + 5) (Int.toNat ((zI ζ (ct + 4) (Int.toNat (ζ.1 ct 9)) z1).1 ct 9)) z2).1 ct 9)) z3) (ct + 7) (Int.toNat ((zI (zI (zI ζ (ct + 4) (Int.toNat (ζ.1 ct 9)) z1) (ct + 5) (Int.toNat ((zI ζ (ct + 4) (Int.toNat (ζ.1 ct 9)) z1).1 ct 9)) z2) (ct + 6) (Int.toNat ((zI (zI ζ (ct + 4) (Int.toNat (ζ.1 ct 9)) z1) (ct + 5) (Int.toNat ((zI ζ (ct + 4) (Int.toNat (ζ.1 ct 9)) z1).1 ct 9)) z2).1 ct 9)) z3).1 ct 9)) z4) (ct + 8) (Int.toNat ((zI (zI (zI (zI ζ (ct + 4) (Int.toNat (ζ.1 ct 9)) z1) (ct + 5) (Int.toNat ((zI ζ (ct + 4) (Int.toNat (ζ.1 ct 9)) z1).1 ct 9)) z2) (ct + 6) (Int.toNat ((zI (zI ζ (ct + 4) (Int.toNat (ζ.1 ct 9)) z1) (ct + 5) (Int.toNat ((zI ζ (ct + 4) (Int.toNat (ζ.1 ct 9)) z1).1 ct 9)) z2).1 ct 9)) z3) (ct + 7) (Int.toNat ((zI (zI (zI ζ (ct + 4) (Int.toNat (ζ.1 ct 9)) z1) (ct + 5) (Int.toNat ((zI ζ (ct + 4) (Int.toNat (ζ.1 ct 9)) z1).1 ct 9)) z2) (ct + 6) (Int.toNat ((zI (zI ζ (ct + 4) (Int.toNat (ζ.1 ct 9)) z1) (ct + 5) (Int.toNat ((zI ζ (ct + 4) (Int.toNat (ζ.1 ct 9)) z1).1 ct 9)) z2).1 ct 9)) z3).1 ct 9)) z4).1 ct 9)) z5) (ct + 9) (Int.toNat ((zI (zI (zI (zI (zI ζ (ct + 4) (Int.toNat (ζ.1 ct 9)) z1) (ct + 5) (Int.toNat ((zI ζ (ct + 4) (Int.toNat (ζ.1 ct 9)) z1).1 ct 9)) z2) (ct + 6) (Int.toNat ((zI (zI ζ (ct + 4) (Int.toNat (ζ.1 ct 9)) z1) (ct + 5) (Int.toNat ((zI ζ (ct + 4) (Int.toNat (ζ.1 ct 9)) z1).1 ct 9)) z2).1 ct 9)) z3) (ct + 7) (Int.toNat ((zI (zI (zI ζ (ct + 4) (Int.toNat (ζ.1 ct 9)) z1) (ct + 5) (Int.toNat ((zI ζ (ct + 4) (Int.toNat (ζ.1 ct 9)) z1).1 ct 9)) z2) (ct + 6) (Int.toNat ((zI (zI ζ (ct + 4) (Int.toNat (ζ.1 ct 9)) z1) (ct + 5) (Int.toNat ((zI ζ (ct + 4) (Int.toNat (ζ.1 ct 9)) z1).1 ct 9)) z2).1 ct 9)) z3).1 ct 9)) z4) (ct + 8) (Int.toNat ((zI (zI (zI (zI ζ (ct + 4) (Int.toNat (ζ.1 ct 9)) z1) (ct + 5) (Int.toNat ((zI ζ (ct + 4) (Int.toNat (ζ.1 ct 9)) z1).1 ct 9)) z2) (ct + 6) (Int.toNat ((zI (zI ζ (ct + 4) (Int.toNat (ζ.1 ct 9)) z1) (ct + 5) (Int.toNat ((zI ζ (ct + 4) (Int.toNat (ζ.1 ct 9)) z1).1 ct 9)) z2).1 ct 9)) z3) (ct + 7) (Int.toNat ((zI (zI (zI ζ (ct + 4) (Int.toNat (ζ.1 ct 9)) z1) (ct + 5) (Int.toNat ((zI ζ (ct + 4) (Int.toNat (ζ.1 ct 9)) z1).1 ct 9)) z2) (ct + 6) (Int.toNat ((zI (zI ζ (ct + 4) (Int.toNat (ζ.1 ct 9)) z1) (ct + 5) (Int.toNat ((zI ζ (ct + 4) (Int.toNat (ζ.1 ct 9)) z1).1 ct 9)) z2).1 ct 9)) z3).1 ct 9)) z4).1 ct 9)) z5).1 ct 9)) z6) ct 9 (((zI (zI (zI (zI (zI (zI ζ (ct + 4) (Int.toNat (ζ.1 ct 9)) z1) (ct + 5) (Int.toNat ((zI ζ (ct + 4) (Int.toNat (ζ.1 ct 9)) z1).1 ct 9)) z2) (ct + 6) (Int.toNat ((zI (zI ζ (ct + 4) (Int.toNat (ζ.1 ct 9)) z1) (ct + 5) (Int.toNat ((zI ζ (ct + 4) (Int.toNat (ζ.1 ct 9)) z1).1 ct 9)) z2).1 ct 9)) z3) (ct + 7) (Int.toNat ((zI (zI (zI ζ (ct + 4) (Int.toNat (ζ.1 ct 9)) z1) (ct + 5) (Int.toNat ((zI ζ (ct + 4) (Int.toNat (ζ.1 ct 9)) z1).1 ct 9)) z2) (ct + 6) (Int.toNat ((zI (zI ζ (ct + 4) (Int.toNat (ζ.1 ct 9)) z1) (ct + 5) (Int.toNat ((zI ζ (ct + 4) (Int.toNat (ζ.1 ct 9)) z1).1 ct 9)) z2).1 ct 9)) z3).1 ct 9)) z4) (ct + 8) (Int.toNat ((zI (zI (zI (zI ζ (ct + 4) (Int.toNat (ζ.1 ct 9)) z1) (ct + 5) (Int.toNat ((zI ζ (ct + 4) (Int.toNat (ζ.1 ct 9)) z1).1 ct 9)) z2) (ct + 6) (Int.toNat ((zI (zI ζ (ct + 4) (Int.toNat (ζ.1 ct 9)) z1) (ct + 5) (Int.toNat ((zI ζ (ct + 4) (Int.toNat (ζ.1 ct 9)) z1).1 ct 9)) z2).1 ct 9)) z3) (ct + 7) (Int.toNat ((zI (zI (zI ζ (ct + 4) (Int.toNat (ζ.1 ct 9)) z1) (ct + 5) (Int.toNat ((zI ζ (ct + 4) (Int.toNat (ζ.1 ct 9)) z1).1 ct 9)) z2) (ct + 6) (Int.toNat ((zI (zI ζ (ct + 4) (Int.toNat (ζ.1 ct 9)) z1) (ct + 5) (Int.toNat ((zI ζ (ct + 4) (Int.toNat (ζ.1 ct 9)) z1).1 ct 9)) z2).1 ct 9)) z3).1 ct 9)) z4).1 ct 9)) z5) (ct + 9) (Int.toNat ((zI (zI (zI (zI (zI ζ (ct + 4) (Int.toNat (ζ.1 ct 9)) z1) (ct + 5) (Int.toNat ((zI ζ (ct + 4) (Int.toNat (ζ.1 ct 9)) z1).1 ct 9)) z2) (ct + 6) (Int.toNat ((zI (zI ζ (ct + 4) (Int.toNat (ζ.1 ct 9)) z1) (ct + 5) (Int.toNat ((zI ζ (ct + 4) (Int.toNat (ζ.1 ct 9)) z1).1 ct 9)) z2).1 ct 9)) z3) (ct + 7) (Int.toNat ((zI (zI (zI ζ (ct + 4) (Int.toNat (ζ.1 ct 9)) z1) (ct + 5) (Int.toNat ((zI ζ (ct + 4) (Int.toNat (ζ.1 ct 9)) z1).1 ct 9)) z2) (ct + 6) (Int.toNat ((zI (zI ζ (ct + 4) (Int.toNat (ζ.1 ct 9)) z1) (ct + 5) (Int.toNat ((zI ζ (ct + 4) (Int.toNat (ζ.1 ct 9)) z1).1 ct 9)) z2).1 ct 9)) z3).1 ct 9)) z4) (ct + 8) (Int.toNat ((zI (zI (zI (zI ζ (ct + 4) (Int.toNat (ζ.1 ct 9)) z1) (ct + 5) (Int.toNat ((zI ζ (ct + 4) (Int.toNat (ζ.1 ct 9)) z1).1 ct 9)) z2) (ct + 6) (Int.toNat ((zI (zI ζ (ct + 4) (Int.toNat (ζ.1 ct 9)) z1) (ct + 5) (Int.toNat ((zI ζ (ct + 4) (Int.toNat (ζ.1 ct 9)) z1).1 ct 9)) z2).1 ct 9)) z3) (ct + 7) (Int.toNat ((zI (zI (zI ζ (ct + 4) (Int.toNat (ζ.1 ct 9)) z1) (ct + 5) (Int.toNat ((zI ζ (ct + 4) (Int.toNat (ζ.1 ct 9)) z1).1 ct 9)) z2) (ct + 6) (Int.toNat ((zI (zI ζ (ct + 4) (Int.toNat (ζ.1 ct 9)) z1) (ct + 5) (Int.toNat ((zI ζ (ct + 4) (Int.toNat (ζ.1 ct 9)) z1).1 ct 9)) z2).1 ct 9)) z3).1 ct 9)) z4).1 ct 9)) z5).1 ct 9)) z6).1 ct 9) + 1))))))))) (
      some ζ)
def g_X0_sayingsOf_31 (r4 : Int → Int → ZS → Option (Int × ZS)) (ct : Nat) (z1 : Int) (z2 : Int) (z3 : Int) (ζ : ZS) : Option (Int × ZS) :=
    r4 z2 (z3 + 1) ζ
def g_X0_sayingsOf_4 (ct : Nat) (z1 : Int) : Nat → Int → Int → ZS → Option (Int × ZS)
  | 0, _, _, _ => none
  | n + 1, z2, z3, ζ =>
    gI (ζ.1 ct 9) z3 ((ζ.1 ct 9) ≤ z3) (
      some (z2, ζ)) (
      gk z3 12 (
      gI (zand z1 (zshl 1 (ζ.1 (ct + 4) (Int.toNat z3)))) 0 ((zand z1 (zshl 1 (ζ.1 (ct + 4) (Int.toNat z3)))) = 0) (
        g_X0_sayingsOf_31 (g_X0_sayingsOf_4 ct z1 n) ct z1 z2 z3 ζ) (
        g_X0_sayingsOf_31 (g_X0_sayingsOf_4 ct z1 n) ct z1 (zor z2 (zshl 1 z3)) z3 ζ)))
def g_X0_sayingsOf (ct : Nat) (z1 : Int) (ζ : ZS) : Option (Int × ZS) :=
    g_X0_sayingsOf_4 ct z1 FU 0 0 ζ
def g_X9_isTold_26 (zs0 : Int) (ζ : ZS) : Option (Int × ZS) :=
    gz zs0 (some (zs0, ζ))
def g_X9_isTold_25  (ζ : ZS) : Option (Int × ZS) :=
    g_X9_isTold_26 0 ζ
def g_X9_isTold (z1 : Int) (ζ : ZS) : Option (Int × ZS) :=
    gI z1 0 (z1 < 0) (
      g_X9_isTold_25 ζ) (
      gI 8 z1 (8 ≤ z1) (
        g_X9_isTold_25 ζ) (
        gI (zand (ζ.1 30 3) (zshl 1 z1)) 0 ((zand (ζ.1 30 3) (zshl 1 z1)) = 0) (
          g_X9_isTold_25 ζ) (
          g_X9_isTold_26 1 ζ)))
def g_X9_fillLead_3 (z1 : Int) (z2 : Int) (c3 : Nat) : Nat → Int → ZS → Option ZS
  | 0, _, _ => none
  | n + 1, z4, ζ =>
    gI 4 z4 (4 ≤ z4) (
      some ζ) (
      gk z1 8 (
      gk z4 4 (
      gk z2 8 (
      gk z4 4 (
      gk z4 (ln c3) (
      (g_X9_fillLead_3 z1 z2 c3 n) (z4 + 1) (zI ζ c3 (Int.toNat z4) ((ζ.1 (40 + 1 + Int.toNat z1) (Int.toNat z4)) - (ζ.1 (40 + 1 + Int.toNat z2) (Int.toNat z4))))))))))
def g_X9_fillLead (z1 : Int) (z2 : Int) (c3 : Nat) (ζ : ZS) : Option ZS :=
    g_X9_fillLead_3 z1 z2 c3 FU 0 ζ
def g_X0_fillRow_211  (ζ : ZS) : Option ZS :=
    some ζ
def g_X0_fillRow_68 (r46 : Int → ZS → Option ZS) (ct : Nat) (z1 : Int) (c2 : Nat) (z4 : Int) (z5 : Int) (z6 : Int) (zs0 : Int) (zs1 : Int) (cs2 : Nat) (ζ : ZS) : Option ZS :=
    gk zs1 (ln cs2) (
    r46 (z6 + 1) (zI ζ cs2 (Int.toNat zs1) zs0))
def g_X0_fillRow_46 (ct : Nat) (z1 : Int) (c2 : Nat) (z4 : Int) (z5 : Int) : Nat → Int → ZS → Option ZS
  | 0, _, _ => none
  | n + 1, z6, ζ =>
    gI 4 z6 (4 ≤ z6) (
      gk z1 12 (
      gI (ζ.1 (ct + 5) (Int.toNat z1)) 1 ((ζ.1 (ct + 5) (Int.toNat z1)) = 1) (
        gk z1 12 (
        gk (ζ.1 (ct + 6) (Int.toNat z1)) (ln c2) (
        gk (ζ.1 (ct + 6) (Int.toNat z1)) (ln c2) (
        g_X0_fillRow_211 (zI ζ c2 (Int.toNat (ζ.1 (ct + 6) (Int.toNat z1))) ((ζ.1 c2 (Int.toNat (ζ.1 (ct + 6) (Int.toNat z1)))) + 100)))))) (
        gk z1 12 (
        gI (ζ.1 (ct + 5) (Int.toNat z1)) 2 ((ζ.1 (ct + 5) (Int.toNat z1)) = 2) (
          gk z1 12 (
          gk (ζ.1 (ct + 6) (Int.toNat z1)) (ln c2) (
          gk (ζ.1 (ct + 6) (Int.toNat z1)) (ln c2) (
          g_X0_fillRow_211 (zI ζ c2 (Int.toNat (ζ.1 (ct + 6) (Int.toNat z1))) ((ζ.1 c2 (Int.toNat (ζ.1 (ct + 6) (Int.toNat z1)))) - 100)))))) (
          gk z1 12 (
          gI (ζ.1 (ct + 5) (Int.toNat z1)) 0 ((ζ.1 (ct + 5) (Int.toNat z1)) = 0) (
            gk z1 12 (
            gk z1 12 (
            gk (ζ.1 (ct + 6) (Int.toNat z1)) (ln c2) (
            gk z1 12 (
            gk z1 12 (
            gk ((zI ζ c2 (Int.toNat (ζ.1 (ct + 6) (Int.toNat z1))) (ζ.1 (ct + 8) (Int.toNat z1))).1 (ct + 7) (Int.toNat z1)) (ln c2) (
            g_X0_fillRow_211 (zI (zI ζ c2 (Int.toNat (ζ.1 (ct + 6) (Int.toNat z1))) (ζ.1 (ct + 8) (Int.toNat z1))) c2 (Int.toNat ((zI ζ c2 (Int.toNat (ζ.1 (ct + 6) (Int.toNat z1))) (ζ.1 (ct + 8) (Int.toNat z1))).1 (ct + 7) (Int.toNat z1))) (-((zI ζ c2 (Int.toNat (ζ.1 (ct + 6) (Int.toNat z1))) (ζ.1 (ct + 8) (Int.toNat z1))).1 (ct + 9) (Int.toNat z1))))))))))) (
            gk z1 12 (
            (g_X9_isTold (ζ.1 (ct + 6) (Int.toNat z1)) ζ).bind fun q5 =>
            gI q5.1 0 (q5.1 = 0) (
              g_X0_fillRow_211 q5.2) (
              gk z1 12 (
              (g_X9_isTold (q5.2.1 (ct + 7) (Int.toNat z1)) q5.2).bind fun q7 =>
              gI q7.1 0 (q7.1 = 0) (
                g_X0_fillRow_211 q7.2) (
                gk z1 12 (
                gk z1 12 (
                (g_X9_fillLead (q7.2.1 (ct + 6) (Int.toNat z1)) (q7.2.1 (ct + 7) (Int.toNat z1)) c2 q7.2).bind fun q10 =>
                g_X0_fillRow_211 q10))))))))))))) (
      gI z4 z6 (z4 ≤ z6) (
        g_X0_fillRow_68 (g_X0_fillRow_46 ct z1 c2 z4 z5 n) ct z1 c2 z4 z5 z6 0 z6 c2 ζ) (
        g_X0_fillRow_68 (g_X0_fillRow_46 ct z1 c2 z4 z5 n) ct z1 c2 z4 z5 z6 z5 z6 c2 ζ))
def g_X0_fillRow_43 (ct : Nat) (z1 : Int) (c2 : Nat) (z4 : Int) (z5 : Int) (ζ : ZS) : Option ZS :=
    g_X0_fillRow_46 ct z1 c2 z4 z5 FU 0 ζ
def g_X0_fillRow (ct : Nat) (z1 : Int) (c2 : Nat) (z4 : Int) (ζ : ZS) : Option ZS :=
    gk z1 12 (
    gI (ζ.1 (ct + 5) (Int.toNat z1)) 1 ((ζ.1 (ct + 5) (Int.toNat z1)) = 1) (
      gk z1 12 (
      g_X0_fillRow_43 ct z1 c2 z4 (-(ζ.1 (ct + 8) (Int.toNat z1))) ζ)) (
      gk z1 12 (
      gI (ζ.1 (ct + 5) (Int.toNat z1)) 2 ((ζ.1 (ct + 5) (Int.toNat z1)) = 2) (
        gk z1 12 (
        g_X0_fillRow_43 ct z1 c2 z4 (ζ.1 (ct + 8) (Int.toNat z1)) ζ)) (
        g_X0_fillRow_43 ct z1 c2 z4 0 ζ))))
def g_X1_becomeWhole_51 (r17 : Int → ZS → Option ZS) (r27 : Int → ZS → Option ZS) (ct : Nat) (z2 : Int) (z3 : Int) (zs0 : Int) (zs1 : Int) (cs2 : Nat) (ζ : ZS) : Option ZS :=
    gk zs1 (ln cs2) (
    r27 (z3 + 1) (zJ ζ cs2 (Int.toNat zs1) zs0))
def g_X1_becomeWhole_27 (ct : Nat) (z2 : Int) (r17 : Int → ZS → Option ZS) : Nat → Int → ZS → Option ZS
  | 0, _, _ => none
  | n + 1, z3, ζ =>
    gI 4 z3 (4 ≤ z3) (
      gk z2 44 (
      r17 (z2 + 1) (zI ζ (ct + 2) (Int.toNat z2) (zand ((zshl 1 (ζ.1 ct 4)) - 1) (zxor (zshl 1 z2) (-1)))))) (
      gI z3 z2 (z3 = z2) (
        g_X1_becomeWhole_51 r17 (g_X1_becomeWhole_27 ct z2 r17 n) ct z2 z3 1 ((z2 * 4) + z3) (ct + 1) ζ) (
        g_X1_becomeWhole_51 r17 (g_X1_becomeWhole_27 ct z2 r17 n) ct z2 z3 0 ((z2 * 4) + z3) (ct + 1) ζ))
def g_X1_becomeWhole_17 (ct : Nat) : Nat → Int → ZS → Option ZS
  | 0, _, _ => none
  | n + 1, z2, ζ =>
    gI (ζ.1 ct 5) z2 ((ζ.1 ct 5) ≤ z2) (
      some ζ) (
      g_X1_becomeWhole_27 ct z2 (g_X1_becomeWhole_17 ct n) FU 0 ζ)
def g_X1_becomeWhole (ct : Nat) (z1 : Int) (ζ : ZS) : Option ZS :=
    g_X1_becomeWhole_17 ct FU 0 (zI (zI (zI ζ ct 3 z1) ct 4 z1) ct 5 z1)
def g_X1_weight (ct : Nat) (z1 : Int) (z2 : Int) (ζ : ZS) : Option (Int × ZS) :=
    gk ((z1 * 4) + z2) 176 (
    some (ζ.2.1 (ct + 1) (Int.toNat ((z1 * 4) + z2)), ζ))
def g_X1_take_13 (ct : Nat) (c1 : Nat) (z2 : Int) (z3 : Int) : Nat → Int → ZS → Option ZS
  | 0, _, _ => none
  | n + 1, z4, ζ =>
    gI 4 z4 (4 ≤ z4) (
      gk z2 44 (
      gk (ζ.1 ct 5) 44 (
      some (zI (zI ζ (ct + 2) (Int.toNat (ζ.1 ct 5)) (zor (ζ.1 (c1 + 2) (Int.toNat z2)) z3)) ct 5 (((zI ζ (ct + 2) (Int.toNat (ζ.1 ct 5)) (zor (ζ.1 (c1 + 2) (Int.toNat z2)) z3)).1 ct 5) + 1))))) (
      (g_X1_weight c1 z2 z4 ζ).bind fun q5 =>
      gk (((ζ.1 ct 5) * 4) + z4) 176 (
      (g_X1_take_13 ct c1 z2 z3 n) (z4 + 1) (zJ q5.2 (ct + 1) (Int.toNat (((ζ.1 ct 5) * 4) + z4)) q5.1)))
def g_X1_take (ct : Nat) (c1 : Nat) (z2 : Int) (z3 : Int) (ζ : ZS) : Option ZS :=
    gI (ζ.1 ct 5) 44 ((ζ.1 ct 5) < 44) (
      g_X1_take_13 ct c1 z2 z3 FU 0 ζ) (
      some ζ)
def g_X1_become_23 (ct : Nat) (c1 : Nat) : Nat → Int → ZS → Option ZS
  | 0, _, _ => none
  | n + 1, z2, ζ =>
    gI (ζ.1 c1 5) z2 ((ζ.1 c1 5) ≤ z2) (
      some ζ) (
      (g_X1_take ct c1 z2 0 ζ).bind fun q1 =>
      (g_X1_become_23 ct c1 n) (z2 + 1) q1)
def g_X1_become (ct : Nat) (c1 : Nat) (ζ : ZS) : Option ZS :=
    g_X1_become_23 ct c1 FU 0 (zI (zI (zI ζ ct 3 (ζ.1 c1 3)) ct 4 ((zI ζ ct 3 (ζ.1 c1 3)).1 c1 4)) ct 5 0)
def g_X1_product_5 (ct : Nat) (z1 : Int) (c2 : Nat) : Nat → Int → Int → ZS → Option (Int × ZS)
  | 0, _, _, _ => none
  | n + 1, z3, z5, ζ =>
    gI (ζ.1 ct 3) z5 ((ζ.1 ct 3) ≤ z5) (
      some (z3, ζ)) (
      gk ((z1 * 4) + z5) 176 (
      gk z5 (ln c2) (
      gw (ζ.1 c2 (Int.toNat z5)) (
      (g_X1_product_5 ct z1 c2 n) (z3 + ((ζ.2.1 (ct + 1) (Int.toNat ((z1 * 4) + z5))) * (ζ.1 c2 (Int.toNat z5)))) (z5 + 1) ζ))))
def g_X1_product (ct : Nat) (z1 : Int) (c2 : Nat) (ζ : ZS) : Option (Int × ZS) :=
    g_X1_product_5 ct z1 c2 FU 0 0 ζ
def g_X1_sum_5 (ct : Nat) (z1 : Int) : Nat → Int → Int → ZS → Option (Int × ZS)
  | 0, _, _, _ => none
  | n + 1, z2, z4, ζ =>
    gI (ζ.1 ct 3) z4 ((ζ.1 ct 3) ≤ z4) (
      some (z2, ζ)) (
      gk ((z1 * 4) + z4) 176 (
      (g_X1_sum_5 ct z1 n) (z2 + (ζ.2.1 (ct + 1) (Int.toNat ((z1 * 4) + z4)))) (z4 + 1) ζ))
def g_X1_sum (ct : Nat) (z1 : Int) (ζ : ZS) : Option (Int × ZS) :=
    g_X1_sum_5 ct z1 FU 0 0 ζ
def g_X1_isEdge_68 (r32 : Int → ZS → Option (Int × ZS)) (ct : Nat) (z1 : Int) (z2 : Int) (z3 : Int) (z4 : Int) (ζ : ZS) : Option (Int × ZS) :=
    r32 (z4 + 1) ζ
def g_X1_isEdge_32 (ct : Nat) (z1 : Int) (z2 : Int) (z3 : Int) : Nat → Int → ZS → Option (Int × ZS)
  | 0, _, _ => none
  | n + 1, z4, ζ =>
    gI (ζ.1 ct 5) z4 ((ζ.1 ct 5) ≤ z4) (
      some (1, ζ)) (
      gk z4 44 (
      gI (zand (ζ.1 (ct + 2) (Int.toNat z4)) z3) z3 ((zand (ζ.1 (ct + 2) (Int.toNat z4)) z3) = z3) (
        gI z4 z1 (z4 = z1) (
          g_X1_isEdge_68 (g_X1_isEdge_32 ct z1 z2 z3 n) ct z1 z2 z3 z4 ζ) (
          gI z4 z2 (z4 = z2) (
            g_X1_isEdge_68 (g_X1_isEdge_32 ct z1 z2 z3 n) ct z1 z2 z3 z4 ζ) (
            some (0, ζ)))) (
        g_X1_isEdge_68 (g_X1_isEdge_32 ct z1 z2 z3 n) ct z1 z2 z3 z4 ζ)))
def g_X1_isEdge (ct : Nat) (z1 : Int) (z2 : Int) (ζ : ZS) : Option (Int × ZS) :=
    gk z1 44 (
    gk z2 44 (
    (g_J6_bitCount_0f7a4 (zand (ζ.1 (ct + 2) (Int.toNat z1)) (ζ.1 (ct + 2) (Int.toNat z2))) ζ).bind fun q3 =>
    gI ((q3.2.1 ct 3) - 2) q3.1 (((q3.2.1 ct 3) - 2) ≤ q3.1) (
      g_X1_isEdge_32 ct z1 z2 (zand (ζ.1 (ct + 2) (Int.toNat z1)) (ζ.1 (ct + 2) (Int.toNat z2))) FU 0 q3.2) (
      some (0, q3.2))))
def g_X3_commonDivisor_67 (z4 : Int) (ζ : ZS) : Option (Int × ZS) :=
    some (z4, ζ)
def g_X3_commonDivisor_31  : Nat → Int → Int → Int → ZS → Option (Int × ZS)
  | 0, _, _, _, _ => none
  | n + 1, z4, z6, z8, ζ =>
    gI 200 z8 (200 ≤ z8) (
      g_X3_commonDivisor_67 z4 ζ) (
      gJ z6 0 (z6 = 0) (
        g_X3_commonDivisor_67 z4 ζ) (
        gdJ z4 z6 (
        (g_X3_commonDivisor_31 n) z6 (Int.tmod z4 z6) (z8 + 1) ζ)))
def g_X3_commonDivisor_26 (z4 : Int) (zs0 : Int) (ζ : ZS) : Option (Int × ZS) :=
    g_X3_commonDivisor_31 FU z4 zs0 0 ζ
def g_X3_commonDivisor_12 (z2 : Int) (zs0 : Int) (ζ : ZS) : Option (Int × ZS) :=
    gJ 0 z2 (0 ≤ z2) (
      g_X3_commonDivisor_26 zs0 z2 ζ) (
      g_X3_commonDivisor_26 zs0 (-z2) ζ)
def g_X3_commonDivisor (z0 : Int) (z2 : Int) (ζ : ZS) : Option (Int × ZS) :=
    gJ 0 z0 (0 ≤ z0) (
      g_X3_commonDivisor_12 z2 z0 ζ) (
      g_X3_commonDivisor_12 z2 (-z0) ζ)
def g_X1_join_134 (ct : Nat) (c1 : Nat) (z2 : Int) (z3 : Int) (z4 : Int) (ζ : ZS) : Option ZS :=
    gk z2 44 (
    gk z3 44 (
    gk (ζ.1 ct 5) 44 (
    some (zI (zI ζ (ct + 2) (Int.toNat (ζ.1 ct 5)) (zor (zand (ζ.1 (c1 + 2) (Int.toNat z2)) (ζ.1 (c1 + 2) (Int.toNat z3))) z4)) ct 5 (((zI ζ (ct + 2) (Int.toNat (ζ.1 ct 5)) (zor (zand (ζ.1 (c1 + 2) (Int.toNat z2)) (ζ.1 (c1 + 2) (Int.toNat z3))) z4)).1 ct 5) + 1)))))
def g_X1_join_107 (ct : Nat) (c1 : Nat) (z2 : Int) (z3 : Int) (z4 : Int) (z9 : Int) (z11 : Int) : Nat → Int → ZS → Option ZS
  | 0, _, _ => none
  | n + 1, z12, ζ =>
    gI 4 z12 (4 ≤ z12) (
      g_X1_join_134 ct c1 z2 z3 z4 ζ) (
      gk (z11 + z12) 176 (
      gdJ (ζ.2.1 (ct + 1) (Int.toNat (z11 + z12))) z9 (
      gk (z11 + z12) 176 (
      (g_X1_join_107 ct c1 z2 z3 z4 z9 z11 n) (z12 + 1) (zJ ζ (ct + 1) (Int.toNat (z11 + z12)) (Int.tdiv (ζ.2.1 (ct + 1) (Int.toNat (z11 + z12))) z9))))))
def g_X1_join_41 (ct : Nat) (c1 : Nat) (z2 : Int) (z3 : Int) (z4 : Int) (z5 : Int) (z7 : Int) (z11 : Int) : Nat → Int → Int → ZS → Option ZS
  | 0, _, _, _ => none
  | n + 1, z9, z12, ζ =>
    gI 4 z12 (4 ≤ z12) (
      gJ z9 1 (z9 ≤ 1) (
        g_X1_join_134 ct c1 z2 z3 z4 ζ) (
        g_X1_join_107 ct c1 z2 z3 z4 z9 z11 FU 0 ζ)) (
      (g_X1_weight c1 z2 z12 ζ).bind fun q1 =>
      (g_X1_weight c1 z3 z12 q1.2).bind fun q2 =>
      gk (z11 + z12) 176 (
      (g_X3_commonDivisor ((z7 * q1.1) + (z5 * q2.1)) z9 (zJ q2.2 (ct + 1) (Int.toNat (z11 + z12)) ((z7 * q1.1) + (z5 * q2.1)))).bind fun q5 =>
      (g_X1_join_41 ct c1 z2 z3 z4 z5 z7 z11 n) q5.1 (z12 + 1) q5.2))
def g_X1_join (ct : Nat) (c1 : Nat) (z2 : Int) (z3 : Int) (z4 : Int) (ζ : ZS) : Option ZS :=
    gI (ζ.1 ct 5) 44 ((ζ.1 ct 5) < 44) (
      gk z2 44 (
      gk z3 44 (
      g_X1_join_41 ct c1 z2 z3 z4 (ζ.2.1 (c1 + 3) (Int.toNat z2)) (-(ζ.2.1 (c1 + 3) (Int.toNat z3))) ((ζ.1 ct 5) * 4) FU 0 0 ζ))) (
      some ζ)
def g_X1_becomeCut_174 (r108 : Int → ZS → Option ZS) (r120 : Int → ZS → Option ZS) (ct : Nat) (c1 : Nat) (z3 : Int) (z4 : Int) (z5 : Int) (ζ : ZS) : Option ZS :=
    r120 (z5 + 1) ζ
def g_X1_becomeCut_120 (ct : Nat) (c1 : Nat) (z3 : Int) (z4 : Int) (r108 : Int → ZS → Option ZS) : Nat → Int → ZS → Option ZS
  | 0, _, _ => none
  | n + 1, z5, ζ =>
    gI (ζ.1 c1 5) z5 ((ζ.1 c1 5) ≤ z5) (
      r108 (z4 + 1) ζ) (
      gk z4 44 (
      gJ (ζ.2.1 (c1 + 3) (Int.toNat z4)) 0 ((ζ.2.1 (c1 + 3) (Int.toNat z4)) ≤ 0) (
        g_X1_becomeCut_174 r108 (g_X1_becomeCut_120 ct c1 z3 z4 r108 n) ct c1 z3 z4 z5 ζ) (
        gk z5 44 (
        gJ 0 (ζ.2.1 (c1 + 3) (Int.toNat z5)) (0 ≤ (ζ.2.1 (c1 + 3) (Int.toNat z5))) (
          g_X1_becomeCut_174 r108 (g_X1_becomeCut_120 ct c1 z3 z4 r108 n) ct c1 z3 z4 z5 ζ) (
          (g_X1_isEdge c1 z4 z5 ζ).bind fun q3 =>
          gI q3.1 0 (q3.1 = 0) (
            g_X1_becomeCut_174 r108 (g_X1_becomeCut_120 ct c1 z3 z4 r108 n) ct c1 z3 z4 z5 q3.2) (
            (g_X1_join ct c1 z4 z5 z3 q3.2).bind fun q4 =>
            g_X1_becomeCut_174 r108 (g_X1_becomeCut_120 ct c1 z3 z4 r108 n) ct c1 z3 z4 z5 q4))))))
def g_X1_becomeCut_108 (ct : Nat) (c1 : Nat) (z3 : Int) : Nat → Int → ZS → Option ZS
  | 0, _, _ => none
  | n + 1, z4, ζ =>
    gI (ζ.1 c1 5) z4 ((ζ.1 c1 5) ≤ z4) (
      some ζ) (
      g_X1_becomeCut_120 ct c1 z3 z4 (g_X1_becomeCut_108 ct c1 z3 n) FU 0 ζ)
def g_X1_becomeCut_99 (r46 : Int → ZS → Option ZS) (ct : Nat) (c1 : Nat) (c2 : Nat) (z3 : Int) (z4 : Int) (ζ : ZS) : Option ZS :=
    r46 (z4 + 1) ζ
def g_X1_becomeCut_96 (r46 : Int → ZS → Option ZS) (ct : Nat) (c1 : Nat) (c2 : Nat) (z3 : Int) (z4 : Int) (zs0 : Int) (zs1 : Int) (cs2 : Nat) (cs3 : Nat) (ζ : ZS) : Option ZS :=
    (g_X1_take cs3 cs2 zs1 zs0 ζ).bind fun q1 =>
    g_X1_becomeCut_99 r46 ct c1 c2 z3 z4 q1
def g_X1_becomeCut_46 (ct : Nat) (c1 : Nat) (c2 : Nat) (z3 : Int) : Nat → Int → ZS → Option ZS
  | 0, _, _ => none
  | n + 1, z4, ζ =>
    gI (ζ.1 c1 5) z4 ((ζ.1 c1 5) ≤ z4) (
      g_X1_becomeCut_108 ct c1 z3 FU 0 ζ) (
      (g_X1_product c1 z4 c2 ζ).bind fun q1 =>
      gk z4 44 (
      gJ q1.1 0 (q1.1 < 0) (
        g_X1_becomeCut_99 (g_X1_becomeCut_46 ct c1 c2 z3 n) ct c1 c2 z3 z4 (zJ q1.2 (c1 + 3) (Int.toNat z4) q1.1)) (
        gJ q1.1 0 (q1.1 = 0) (
          g_X1_becomeCut_96 (g_X1_becomeCut_46 ct c1 c2 z3 n) ct c1 c2 z3 z4 z3 z4 c1 ct (zJ q1.2 (c1 + 3) (Int.toNat z4) q1.1)) (
          g_X1_becomeCut_96 (g_X1_becomeCut_46 ct c1 c2 z3 n) ct c1 c2 z3 z4 0 z4 c1 ct (zJ q1.2 (c1 + 3) (Int.toNat z4) q1.1)))))
def g_X1_becomeCut_19 (ct : Nat) (c1 : Nat) (c2 : Nat) (zs0 : Int) (ζ : ZS) : Option ZS :=
    g_X1_becomeCut_46 ct c1 c2 zs0 FU 0 (zI (zI (zI ζ ct 3 (ζ.1 c1 3)) ct 4 (((zI ζ ct 3 (ζ.1 c1 3)).1 c1 4) + 1)) ct 5 0)
def g_X1_becomeCut (ct : Nat) (c1 : Nat) (c2 : Nat) (ζ : ZS) : Option ZS :=
    gI 31 (ζ.1 c1 4) (31 ≤ (ζ.1 c1 4)) (
      g_X1_becomeCut_19 ct c1 c2 0 ζ) (
      g_X1_becomeCut_19 ct c1 c2 (zshl 1 (ζ.1 c1 4)) ζ)
def g_X1_isBehind_47 (zs0 : Int) (ζ : ZS) : Option (Int × ZS) :=
    gz zs0 (some (zs0, ζ))
def g_X1_isBehind_2 (ct : Nat) (z1 : Int) (z2 : Int) : Nat → Int → ZS → Option (Int × ZS)
  | 0, _, _ => none
  | n + 1, z3, ζ =>
    gI (ζ.1 ct 3) z3 ((ζ.1 ct 3) ≤ z3) (
      some (0, ζ)) (
      (g_X1_weight ct z1 z3 ζ).bind fun q1 =>
      (g_X1_weight ct z2 z3 q1.2).bind fun q2 =>
      gJ q1.1 q2.1 (q1.1 = q2.1) (
        (g_X1_isBehind_2 ct z1 z2 n) (z3 + 1) q2.2) (
        (g_X1_weight ct z1 z3 q2.2).bind fun q3 =>
        (g_X1_weight ct z2 z3 q3.2).bind fun q4 =>
        gJ q3.1 q4.1 (q3.1 ≤ q4.1) (
          g_X1_isBehind_47 0 q4.2) (
          g_X1_isBehind_47 1 q4.2)))
def g_X1_isBehind (ct : Nat) (z1 : Int) (z2 : Int) (ζ : ZS) : Option (Int × ZS) :=
    g_X1_isBehind_2 ct z1 z2 FU 0 ζ
def g_X1_swap_2 (ct : Nat) (z1 : Int) (z2 : Int) : Nat → Int → ZS → Option ZS
  | 0, _, _ => none
  | n + 1, z3, ζ =>
    gI 4 z3 (4 ≤ z3) (
      gk z1 44 (
      gk z2 44 (
      gk z1 44 (
      gk z2 44 (
      some (zI (zI ζ (ct + 2) (Int.toNat z1) (ζ.1 (ct + 2) (Int.toNat z2))) (ct + 2) (Int.toNat z2) (ζ.1 (ct + 2) (Int.toNat z1)))))))) (
      (g_X1_weight ct z1 z3 ζ).bind fun q7 =>
      (g_X1_weight ct z2 z3 q7.2).bind fun q8 =>
      gk ((z1 * 4) + z3) 176 (
      gk ((z2 * 4) + z3) 176 (
      (g_X1_swap_2 ct z1 z2 n) (z3 + 1) (zJ (zJ q8.2 (ct + 1) (Int.toNat ((z1 * 4) + z3)) q8.1) (ct + 1) (Int.toNat ((z2 * 4) + z3)) q7.1))))
def g_X1_swap (ct : Nat) (z1 : Int) (z2 : Int) (ζ : ZS) : Option ZS :=
    g_X1_swap_2 ct z1 z2 FU 0 ζ
def g_X1_sort_41 (r2 : Int → ZS → Option ZS) (ct : Nat) (z1 : Int) (ζ : ZS) : Option ZS :=
    r2 (z1 + 1) ζ
def g_X1_sort_12 (ct : Nat) (z1 : Int) (r2 : Int → ZS → Option ZS) : Nat → Int → ZS → Option ZS
  | 0, _, _ => none
  | n + 1, z2, ζ =>
    gI z2 0 (z2 ≤ 0) (
      g_X1_sort_41 r2 ct z1 ζ) (
      (g_X1_isBehind ct (z2 - 1) z2 ζ).bind fun q1 =>
      gI q1.1 0 (q1.1 = 0) (
        g_X1_sort_41 r2 ct z1 q1.2) (
        (g_X1_swap ct (z2 - 1) z2 q1.2).bind fun q2 =>
        (g_X1_sort_12 ct z1 r2 n) (z2 + (-1)) q2))
def g_X1_sort_2 (ct : Nat) : Nat → Int → ZS → Option ZS
  | 0, _, _ => none
  | n + 1, z1, ζ =>
    gI (ζ.1 ct 5) z1 ((ζ.1 ct 5) ≤ z1) (
      some ζ) (
      g_X1_sort_12 ct z1 (g_X1_sort_2 ct n) FU z1 ζ)
def g_X1_sort (ct : Nat) (ζ : ZS) : Option ZS :=
    g_X1_sort_2 ct FU 1 ζ
def g_X1_keeps_2 (ct : Nat) (c1 : Nat) : Nat → Int → ZS → Option (Int × ZS)
  | 0, _, _ => none
  | n + 1, z2, ζ =>
    gI (ζ.1 ct 5) z2 ((ζ.1 ct 5) ≤ z2) (
      some (1, ζ)) (
      (g_X1_product ct z2 c1 ζ).bind fun q1 =>
      gJ 0 q1.1 (0 ≤ q1.1) (
        (g_X1_keeps_2 ct c1 n) (z2 + 1) q1.2) (
        some (0, q1.2)))
def g_X1_keeps (ct : Nat) (c1 : Nat) (ζ : ZS) : Option (Int × ZS) :=
    g_X1_keeps_2 ct c1 FU 0 ζ
def g_X1_impliesWith_155 (zs0 : Int) (ζ : ZS) : Option (Int × ZS) :=
    gz zs0 (some (zs0, ζ))
def g_X1_impliesWith_150  (ζ : ZS) : Option (Int × ZS) :=
    g_X1_impliesWith_155 1 ζ
def g_X1_impliesWith_124 (r14 : Int → Int → Int → Int → Int → ZS → Option (Int × ZS)) (ct : Nat) (c1 : Nat) (c2 : Nat) (z3 : Int) (z5 : Int) (z7 : Int) (z9 : Int) (z11 : Int) (ζ : ZS) : Option (Int × ZS) :=
    r14 z3 z5 z7 z9 (z11 + 1) ζ
def g_X1_impliesWith_91 (r14 : Int → Int → Int → Int → Int → ZS → Option (Int × ZS)) (ct : Nat) (c1 : Nat) (c2 : Nat) (z3 : Int) (z5 : Int) (z7 : Int) (z9 : Int) (z11 : Int) (z12 : Int) (z14 : Int) (ζ : ZS) : Option (Int × ZS) :=
    gJ 0 z12 (0 ≤ z12) (
      g_X1_impliesWith_124 r14 ct c1 c2 z3 z5 z7 z9 z11 ζ) (
      gJ ((-z14) * z9) (z7 * (-z12)) (((-z14) * z9) ≤ (z7 * (-z12))) (
        g_X1_impliesWith_124 r14 ct c1 c2 z3 z5 z7 z9 z11 ζ) (
        g_X1_impliesWith_124 r14 ct c1 c2 z3 z5 (-z14) (-z12) z11 ζ))
def g_X1_impliesWith_84 (r14 : Int → Int → Int → Int → Int → ZS → Option (Int × ZS)) (ct : Nat) (c1 : Nat) (c2 : Nat) (z7 : Int) (z9 : Int) (z11 : Int) (z12 : Int) (z14 : Int) (ζ : ZS) : Option (Int × ZS) :=
    g_X1_impliesWith_91 r14 ct c1 c2 z14 z12 z7 z9 z11 z12 z14 ζ
def g_X1_impliesWith_57 (r14 : Int → Int → Int → Int → Int → ZS → Option (Int × ZS)) (ct : Nat) (c1 : Nat) (c2 : Nat) (z3 : Int) (z5 : Int) (z7 : Int) (z9 : Int) (z11 : Int) (z12 : Int) (z14 : Int) (ζ : ZS) : Option (Int × ZS) :=
    gJ z12 0 (z12 ≤ 0) (
      g_X1_impliesWith_91 r14 ct c1 c2 z3 z5 z7 z9 z11 z12 z14 ζ) (
      gJ z5 0 (z5 = 0) (
        g_X1_impliesWith_84 r14 ct c1 c2 z7 z9 z11 z12 z14 ζ) (
        gJ (z3 * z12) (z14 * z5) ((z3 * z12) ≤ (z14 * z5)) (
          g_X1_impliesWith_91 r14 ct c1 c2 z3 z5 z7 z9 z11 z12 z14 ζ) (
          g_X1_impliesWith_84 r14 ct c1 c2 z7 z9 z11 z12 z14 ζ)))
def g_X1_impliesWith_14 (ct : Nat) (c1 : Nat) (c2 : Nat) : Nat → Int → Int → Int → Int → Int → ZS → Option (Int × ZS)
  | 0, _, _, _, _, _, _ => none
  | n + 1, z3, z5, z7, z9, z11, ζ =>
    gI (ζ.1 ct 5) z11 ((ζ.1 ct 5) ≤ z11) (
      gJ z5 0 (z5 = 0) (
        g_X1_impliesWith_150 ζ) (
        gJ (z3 * z9) (z7 * z5) ((z3 * z9) < (z7 * z5)) (
          g_X1_impliesWith_155 0 ζ) (
          g_X1_impliesWith_150 ζ))) (
      (g_X1_product ct z11 c1 ζ).bind fun q1 =>
      (g_X1_product ct z11 c2 q1.2).bind fun q2 =>
      gJ q1.1 0 (q1.1 < 0) (
        g_X1_impliesWith_57 (g_X1_impliesWith_14 ct c1 c2 n) ct c1 c2 z3 z5 z7 z9 z11 q1.1 q2.1 q2.2) (
        gJ 0 q2.1 (0 ≤ q2.1) (
          g_X1_impliesWith_57 (g_X1_impliesWith_14 ct c1 c2 n) ct c1 c2 z3 z5 z7 z9 z11 q1.1 q2.1 q2.2) (
          some (0, q2.2))))
def g_X1_impliesWith (ct : Nat) (c1 : Nat) (c2 : Nat) (ζ : ZS) : Option (Int × ZS) :=
    g_X1_impliesWith_14 ct c1 c2 FU 0 0 0 1 0 ζ
def g_X2_prepare_3 (c1 : Nat) (z2 : Int) (z3 : Int) : Nat → Int → ZS → Option ZS
  | 0, _, _ => none
  | n + 1, z4, ζ =>
    gI 8 z4 (8 ≤ z4) (
      gz z3 (
      gk 0 13 (
      (g_X1_become (73 + 4 * Int.toNat 0) 64 (zI (zI (zI ζ 142 3 z2) 142 4 z3) 142 5 (-1))).bind fun q5 =>
      some q5))) (
      (g_X0_sayingsOf c1 (zand z2 (zshl 1 z4)) ζ).bind fun q6 =>
      gk z4 8 (
      (g_X2_prepare_3 c1 z2 z3 n) (z4 + 1) (zI q6.2 143 (Int.toNat z4) q6.1)))
def g_X2_prepare (c1 : Nat) (z2 : Int) (z3 : Int) (ζ : ZS) : Option ZS :=
    g_X2_prepare_3 c1 z2 z3 FU 0 ζ
def g_X4_fillGoods_2 (c1 : Nat) (z2 : Int) : Nat → Int → ZS → Option ZS
  | 0, _, _ => none
  | n + 1, z3, ζ =>
    gI 8 z3 (8 ≤ z3) (
      some ζ) (
      gk z3 8 (
      (g_X1_product c1 z2 (40 + 1 + Int.toNat z3) ζ).bind fun q2 =>
      gk z3 8 (
      (g_X4_fillGoods_2 c1 z2 n) (z3 + 1) (zJ q2.2 137 (Int.toNat z3) q2.1))))
def g_X4_fillGoods (c1 : Nat) (z2 : Int) (ζ : ZS) : Option ZS :=
    g_X4_fillGoods_2 c1 z2 FU 0 ζ
def g_X9_greatestOf_62 (r9 : Int → Int → Int → ZS → Option (Int × ZS)) (z0 : Int) (c1 : Nat) (z2 : Int) (z3 : Int) (z5 : Int) (ζ : ZS) : Option (Int × ZS) :=
    r9 z2 z3 (z5 + 1) ζ
def g_X9_greatestOf_56 (r9 : Int → Int → Int → ZS → Option (Int × ZS)) (z0 : Int) (c1 : Nat) (z5 : Int) (zs0 : Int) (ζ : ZS) : Option (Int × ZS) :=
    gk z5 (ln c1) (
    g_X9_greatestOf_62 r9 z0 c1 zs0 (ζ.2.1 c1 (Int.toNat z5)) z5 ζ)
def g_X9_greatestOf_9 (z0 : Int) (c1 : Nat) : Nat → Int → Int → Int → ZS → Option (Int × ZS)
  | 0, _, _, _, _ => none
  | n + 1, z2, z3, z5, ζ =>
    gI 8 z5 (8 ≤ z5) (
      some (z2, ζ)) (
      gI (zand z0 (zshl 1 z5)) 0 ((zand z0 (zshl 1 z5)) = 0) (
        g_X9_greatestOf_62 (g_X9_greatestOf_9 z0 c1 n) z0 c1 z2 z3 z5 ζ) (
        gk z5 (ln c1) (
        gJ (ζ.2.1 c1 (Int.toNat z5)) z3 ((ζ.2.1 c1 (Int.toNat z5)) < z3) (
          g_X9_greatestOf_62 (g_X9_greatestOf_9 z0 c1 n) z0 c1 z2 z3 z5 ζ) (
          gk z5 (ln c1) (
          gJ (ζ.2.1 c1 (Int.toNat z5)) z3 ((ζ.2.1 c1 (Int.toNat z5)) ≤ z3) (
            g_X9_greatestOf_56 (g_X9_greatestOf_9 z0 c1 n) z0 c1 z5 (zor z2 (zshl 1 z5)) ζ) (
            g_X9_greatestOf_56 (g_X9_greatestOf_9 z0 c1 n) z0 c1 z5 (zshl 1 z5) ζ))))))
def g_X9_greatestOf (z0 : Int) (c1 : Nat) (ζ : ZS) : Option (Int × ZS) :=
    g_X9_greatestOf_9 z0 c1 FU 0 (-1) 0 ζ
def g_X4_bestByCorner (c1 : Nat) (z2 : Int) (ζ : ZS) : Option (Int × ZS) :=
    (g_X4_fillGoods c1 z2 ζ).bind fun q1 =>
    (g_X9_greatestOf (q1.1 30 4) 137 q1).bind fun q2 =>
    some (q2.1, q2.2)
def g_X4_surelyBest_37 (z2 : Int) (ζ : ZS) : Option (Int × ZS) :=
    some (z2, ζ)
def g_X4_surelyBest_10 (c1 : Nat) : Nat → Int → Int → ZS → Option (Int × ZS)
  | 0, _, _, _ => none
  | n + 1, z2, z3, ζ =>
    gI (ζ.1 c1 5) z3 ((ζ.1 c1 5) ≤ z3) (
      g_X4_surelyBest_37 z2 ζ) (
      gI z2 0 (z2 = 0) (
        g_X4_surelyBest_37 z2 ζ) (
        (g_X4_bestByCorner c1 z3 ζ).bind fun q1 =>
        (g_X4_surelyBest_10 c1 n) (zand z2 q1.1) (z3 + 1) q1.2))
def g_X4_surelyBest (c1 : Nat) (ζ : ZS) : Option (Int × ZS) :=
    g_X4_surelyBest_10 c1 FU (ζ.1 30 4) 0 ζ
def g_X2_settle_91  (ζ : ZS) : Option ZS :=
    some ζ
def g_X2_settle_86 (z2 : Int) (ζ : ZS) : Option ZS :=
    g_X2_settle_91 (zI ζ 142 5 z2)
def g_X2_settle_50 (z2 : Int) (zs0 : Int) (zs1 : Int) (ζ : ZS) : Option ZS :=
    gI 0 (zs1 - zs0) (0 < (zs1 - zs0)) (
      g_X2_settle_86 z2 ζ) (
      gI (zs1 - zs0) 0 ((zs1 - zs0) = 0) (
        gI (ζ.1 142 4) 0 ((ζ.1 142 4) = 0) (
          gI (ζ.1 142 5) z2 ((ζ.1 142 5) ≤ z2) (
            g_X2_settle_91 ζ) (
            g_X2_settle_86 z2 ζ)) (
          gI z2 (ζ.1 142 5) (z2 ≤ (ζ.1 142 5)) (
            g_X2_settle_91 ζ) (
            g_X2_settle_86 z2 ζ))) (
        g_X2_settle_91 ζ))
def g_X2_settle_27 (z2 : Int) (ζ : ZS) : Option ZS :=
    (g_J6_bitCount_0f7a4 z2 ζ).bind fun q1 =>
    gI (q1.2.1 142 5) (-1) ((q1.2.1 142 5) = (-1)) (
      g_X2_settle_50 z2 (-1) q1.1 q1.2) (
      (g_J6_bitCount_0f7a4 (q1.2.1 142 5) q1.2).bind fun q2 =>
      g_X2_settle_50 z2 q2.1 q1.1 q2.2)
def g_X2_settle (z1 : Int) (z2 : Int) (ζ : ZS) : Option ZS :=
    gI (ζ.1 142 4) 0 ((ζ.1 142 4) = 0) (
      g_X2_settle_27 z2 ζ) (
      gk z1 13 (
      (g_X4_surelyBest (73 + 4 * Int.toNat z1) ζ).bind fun q2 =>
      gI q2.1 0 (q2.1 = 0) (
        some q2.2) (
        g_X2_settle_27 z2 q2.2)))
def g_X2_hear_65 (r5 : Int → Int → ZS → Option (Int × ZS)) (z1 : Int) (z3 : Int) (z4 : Int) (ζ : ZS) : Option (Int × ZS) :=
    r5 z3 (z4 + 1) ζ
def g_X2_hear_5 (z1 : Int) : Nat → Int → Int → ZS → Option (Int × ZS)
  | 0, _, _, _ => none
  | n + 1, z3, z4, ζ =>
    gI 12 z4 (12 ≤ z4) (
      some (z3, ζ)) (
      gI (zand z1 (zshl 1 z4)) 0 ((zand z1 (zshl 1 z4)) = 0) (
        g_X2_hear_65 (g_X2_hear_5 z1 n) z1 z3 z4 ζ) (
        gI 13 (z3 + 1) (13 ≤ (z3 + 1)) (
          g_X2_hear_65 (g_X2_hear_5 z1 n) z1 z3 z4 ζ) (
          gk (z3 + 1) 13 (
          gk z3 13 (
          gk z4 12 (
          (g_X1_becomeCut (73 + 4 * Int.toNat (z3 + 1)) (73 + 4 * Int.toNat z3) (51 + 1 + Int.toNat z4) ζ).bind fun q4 =>
          g_X2_hear_65 (g_X2_hear_5 z1 n) z1 (z3 + 1) z4 q4))))))
def g_X2_hear (z1 : Int) (z2 : Int) (ζ : ZS) : Option (Int × ZS) :=
    g_X2_hear_5 z1 FU z2 0 ζ
def g_X2_ask_136 (rc : Int → Int → Int → ZS → Option (Int × ZS)) (z7 : Int) (ζ : ZS) : Option (Int × ZS) :=
    gz z7 (some (z7, ζ))
def g_X2_ask_113 (rc : Int → Int → Int → ZS → Option (Int × ZS)) (z1 : Int) (z2 : Int) (z3 : Int) (z6 : Int) (zs0 : Int) (ζ : ZS) : Option (Int × ZS) :=
    gI zs0 0 (zs0 = 0) (
      gI z6 z2 (z6 = z2) (
        g_X2_ask_136 rc zs0 ζ) (
        (rc (z1 - 1) z2 z3 ζ).bind fun q1 =>
        g_X2_ask_136 rc zs0 q1.2)) (
      g_X2_ask_136 rc zs0 ζ)
def g_X2_ask_112 (rc : Int → Int → Int → ZS → Option (Int × ZS)) (z1 : Int) (z2 : Int) (z3 : Int) (z6 : Int) (ζ : ZS) : Option (Int × ZS) :=
    g_X2_ask_113 rc z1 z2 z3 z6 0 ζ
def g_X2_ask_41 (rc : Int → Int → Int → ZS → Option (Int × ZS)) (z1 : Int) (z2 : Int) (z3 : Int) (ζ : ZS) : Option (Int × ZS) :=
    gI 0 z1 (0 ≤ z1) (
      gk z1 8 (
      (g_X2_hear (ζ.1 143 (Int.toNat z1)) z2 ζ).bind fun q2 =>
      gk q2.1 13 (
      gI (q2.2.1 (73 + 4 * Int.toNat q2.1) 5) 0 ((q2.2.1 (73 + 4 * Int.toNat q2.1) 5) ≤ 0) (
        g_X2_ask_112 rc z1 z2 z3 q2.1 q2.2) (
        (rc (z1 - 1) q2.1 (zor z3 (zand (ζ.1 142 3) (zshl 1 z1))) q2.2).bind fun q4 =>
        gI q4.1 0 (q4.1 = 0) (
          g_X2_ask_112 rc z1 z2 z3 q2.1 q4.2) (
          g_X2_ask_113 rc z1 z2 z3 q2.1 1 q4.2))))) (
      (g_X2_settle z2 z3 ζ).bind fun q5 =>
      some (1, q5))
def g_X2_ask_0 (rc : Int → Int → Int → ZS → Option (Int × ZS)) (z1 : Int) (z2 : Int) (z3 : Int) (ζ : ZS) : Option (Int × ZS) :=
    gI (ζ.1 142 5) (-1) ((ζ.1 142 5) = (-1)) (
      g_X2_ask_41 rc z1 z2 z3 ζ) (
      (g_J6_bitCount_0f7a4 (zor z3 (zand (ζ.1 142 3) ((zshl 1 (z1 + 1)) - 1))) ζ).bind fun q1 =>
      (g_J6_bitCount_0f7a4 (q1.2.1 142 5) q1.2).bind fun q2 =>
      gI q2.1 q1.1 (q2.1 ≤ q1.1) (
        g_X2_ask_41 rc z1 z2 z3 q2.2) (
        some (0, q2.2)))
def g_X2_ask : Nat → Int → Int → Int → ZS → Option (Int × ZS)
  | 0, _, _, _, _ => none
  | d + 1, z1, z2, z3, ζ => g_X2_ask_0 (g_X2_ask d) z1 z2 z3 ζ
def g_X2_mostThatAgree (c1 : Nat) (ζ : ZS) : Option (Int × ZS) :=
    (g_X2_prepare c1 255 0 ζ).bind fun q1 =>
    (g_X2_ask DEP 7 0 0 q1).bind fun q2 =>
    some (q2.2.1 142 5, q2.2)
def g_X2_fewestThatYield_36 (zs0 : Int) (ζ : ZS) : Option (Int × ZS) :=
    some (zs0, ζ)
def g_X2_fewestThatYield (c1 : Nat) (z2 : Int) (ζ : ZS) : Option (Int × ZS) :=
    (g_X2_prepare c1 z2 1 ζ).bind fun q1 =>
    (g_X2_ask DEP 7 0 0 q1).bind fun q2 =>
    gI (q2.2.1 142 5) (-1) ((q2.2.1 142 5) = (-1)) (
      g_X2_fewestThatYield_36 (-1) q2.2) (
      g_X2_fewestThatYield_36 (zand z2 (zxor (q2.2.1 142 5) (-1))) q2.2)
def g_X3_become (z1 : Int) (z3 : Int) (ζ : ZS) : Option ZS :=
    some (zJ (zJ ζ 145 0 z1) 145 1 z3)
def g_X3_isUnder_21 (zs0 : Int) (ζ : ZS) : Option (Int × ZS) :=
    gz zs0 (some (zs0, ζ))
def g_X3_isUnder (z1 : Int) (z3 : Int) (ζ : ZS) : Option (Int × ZS) :=
    gJ (z1 * (ζ.2.1 145 1)) ((ζ.2.1 145 0) * z3) ((z1 * (ζ.2.1 145 1)) ≤ ((ζ.2.1 145 0) * z3)) (
      g_X3_isUnder_21 0 ζ) (
      g_X3_isUnder_21 1 ζ)
def g_X3_part_15 (zs0 : Int) (ζ : ZS) : Option (Int × ZS) :=
    some (zs0, ζ)
def g_X3_part (z1 : Int) (ζ : ZS) : Option (Int × ZS) :=
    gI z1 0 (z1 = 0) (
      g_X3_part_15 (ζ.2.1 145 0) ζ) (
      g_X3_part_15 (ζ.2.1 145 1) ζ)
def g_X3_reduce_38  (ζ : ZS) : Option ZS :=
    some ζ
def g_X3_reduce  (ζ : ZS) : Option ZS :=
    (g_X3_commonDivisor (ζ.2.1 145 0) (ζ.2.1 145 1) ζ).bind fun q1 =>
    gJ q1.1 1 (q1.1 ≤ 1) (
      g_X3_reduce_38 q1.2) (
      gdJ (q1.2.2.1 145 0) q1.1 (
      gdJ ((zJ q1.2 145 0 (Int.tdiv (q1.2.2.1 145 0) q1.1)).2.1 145 1) q1.1 (
      g_X3_reduce_38 (zJ (zJ q1.2 145 0 (Int.tdiv (q1.2.2.1 145 0) q1.1)) 145 1 (Int.tdiv ((zJ q1.2 145 0 (Int.tdiv (q1.2.2.1 145 0) q1.1)).2.1 145 1) q1.1)))))
def g_X9_isIn_26 (zs0 : Int) (ζ : ZS) : Option (Int × ZS) :=
    gz zs0 (some (zs0, ζ))
def g_X9_isIn_25  (ζ : ZS) : Option (Int × ZS) :=
    g_X9_isIn_26 0 ζ
def g_X9_isIn (z1 : Int) (ζ : ZS) : Option (Int × ZS) :=
    gI z1 0 (z1 < 0) (
      g_X9_isIn_25 ζ) (
      gI 8 z1 (8 ≤ z1) (
        g_X9_isIn_25 ζ) (
        gI (zand (ζ.1 30 4) (zshl 1 z1)) 0 ((zand (ζ.1 30 4) (zshl 1 z1)) = 0) (
          g_X9_isIn_25 ζ) (
          g_X9_isIn_26 1 ζ)))
def g_X4_compare_34  (ζ : ZS) : Option (Int × ZS) :=
    some ((-1), ζ)
def g_X4_compare_148 (zs0 : Int) (ζ : ZS) : Option (Int × ZS) :=
    some (zs0, ζ)
def g_X4_compare_121 (r58 : Int → Int → Int → ZS → Option (Int × ZS)) (c1 : Nat) (z4 : Int) (z6 : Int) (zs0 : Int) (ζ : ZS) : Option (Int × ZS) :=
    r58 z4 zs0 (z6 + 1) ζ
def g_X4_compare_116 (r58 : Int → Int → Int → ZS → Option (Int × ZS)) (c1 : Nat) (z4 : Int) (z6 : Int) (ζ : ZS) : Option (Int × ZS) :=
    g_X4_compare_121 r58 c1 z4 z6 1 ζ
def g_X4_compare_104 (r58 : Int → Int → Int → ZS → Option (Int × ZS)) (c1 : Nat) (z5 : Int) (z6 : Int) (z7 : Int) (zs0 : Int) (ζ : ZS) : Option (Int × ZS) :=
    gI z5 0 (z5 = 0) (
      gI z7 0 (z7 = 0) (
        g_X4_compare_121 r58 c1 zs0 z6 0 ζ) (
        g_X4_compare_116 r58 c1 zs0 z6 ζ)) (
      g_X4_compare_116 r58 c1 zs0 z6 ζ)
def g_X4_compare_103 (r58 : Int → Int → Int → ZS → Option (Int × ZS)) (c1 : Nat) (z5 : Int) (z6 : Int) (z7 : Int) (ζ : ZS) : Option (Int × ZS) :=
    g_X4_compare_104 r58 c1 z5 z6 z7 0 ζ
def g_X4_compare_87 (r58 : Int → Int → Int → ZS → Option (Int × ZS)) (c1 : Nat) (z4 : Int) (z5 : Int) (z6 : Int) (zs0 : Int) (ζ : ZS) : Option (Int × ZS) :=
    gI z4 0 (z4 = 0) (
      g_X4_compare_103 r58 c1 z5 z6 zs0 ζ) (
      gI zs0 0 (zs0 = 0) (
        g_X4_compare_103 r58 c1 z5 z6 zs0 ζ) (
        g_X4_compare_104 r58 c1 z5 z6 zs0 1 ζ))
def g_X4_compare_58 (c1 : Nat) : Nat → Int → Int → Int → ZS → Option (Int × ZS)
  | 0, _, _, _, _ => none
  | n + 1, z4, z5, z6, ζ =>
    gI (ζ.1 c1 5) z6 ((ζ.1 c1 5) ≤ z6) (
      gI z4 0 (z4 = 0) (
        gI z5 0 (z5 = 0) (
          g_X4_compare_148 0 ζ) (
          g_X4_compare_148 1 ζ)) (
        g_X4_compare_148 2 ζ)) (
      (g_X1_product c1 z6 135 ζ).bind fun q1 =>
      gJ q1.1 0 (q1.1 < 0) (
        g_X4_compare_87 (g_X4_compare_58 c1 n) c1 z4 z5 z6 0 q1.2) (
        g_X4_compare_87 (g_X4_compare_58 c1 n) c1 z4 z5 z6 1 q1.2))
def g_X4_compare (c1 : Nat) (z2 : Int) (z3 : Int) (ζ : ZS) : Option (Int × ZS) :=
    (g_X9_isIn z2 ζ).bind fun q1 =>
    gI q1.1 0 (q1.1 = 0) (
      g_X4_compare_34 q1.2) (
      (g_X9_isIn z3 q1.2).bind fun q2 =>
      gI q2.1 0 (q2.1 = 0) (
        g_X4_compare_34 q2.2) (
        gI z2 z3 (z2 = z3) (
          g_X4_compare_34 q2.2) (
          gI (q2.2.1 c1 5) 0 ((q2.2.1 c1 5) = 0) (
            g_X4_compare_34 q2.2) (
            (g_X9_fillLead z2 z3 135 q2.2).bind fun q3 =>
            g_X4_compare_58 c1 FU 1 0 0 q3))))
def g_X4_raise_53  (ζ : ZS) : Option ZS :=
    some ζ
def g_X4_raise_45 (z4 : Int) (z6 : Int) (ζ : ZS) : Option ZS :=
    (g_X3_become z4 z6 ζ).bind fun q1 =>
    g_X4_raise_53 q1
def g_X4_raise (z2 : Int) (z3 : Int) (ζ : ZS) : Option ZS :=
    (g_X1_product 68 z2 135 ζ).bind fun q1 =>
    (g_X1_sum 68 z2 q1.2).bind fun q2 =>
    gI z3 0 (z3 = 0) (
      (g_X3_isUnder q1.1 q2.1 q2.2).bind fun q3 =>
      gI q3.1 0 (q3.1 = 0) (
        g_X4_raise_53 q3.2) (
        g_X4_raise_45 q1.1 q2.1 q3.2)) (
      g_X4_raise_45 q1.1 q2.1 q2.2)
def g_X4_fillGap_45 (r16 : Int → ZS → Option ZS) (z4 : Int) (zs0 : Int) (zs1 : Int) (ζ : ZS) : Option ZS :=
    (g_X4_raise zs1 zs0 ζ).bind fun q1 =>
    r16 (z4 + 1) q1
def g_X4_fillGap_16  : Nat → Int → ZS → Option ZS
  | 0, _, _ => none
  | n + 1, z4, ζ =>
    gI (ζ.1 68 5) z4 ((ζ.1 68 5) ≤ z4) (
      some ζ) (
      gI z4 0 (z4 = 0) (
        g_X4_fillGap_45 (g_X4_fillGap_16 n) z4 1 z4 ζ) (
        g_X4_fillGap_45 (g_X4_fillGap_16 n) z4 0 z4 ζ))
def g_X4_fillGap (z1 : Int) (z2 : Int) (ζ : ZS) : Option ZS :=
    (g_X9_fillLead z2 z1 135 ζ).bind fun q1 =>
    g_X4_fillGap_16 FU 0 q1
def g_X4_fillRegret_70 (r8 : Int → ZS → Option ZS) (z1 : Int) (z3 : Int) (ζ : ZS) : Option ZS :=
    r8 (z3 + 1) ζ
def g_X4_fillRegret_41 (z1 : Int) (z3 : Int) (r8 : Int → ZS → Option ZS) : Nat → Int → ZS → Option ZS
  | 0, _, _ => none
  | n + 1, z4, ζ =>
    gI (ζ.1 68 5) z4 ((ζ.1 68 5) ≤ z4) (
      g_X4_fillRegret_70 r8 z1 z3 ζ) (
      (g_X4_raise z4 0 ζ).bind fun q1 =>
      (g_X4_fillRegret_41 z1 z3 r8 n) (z4 + 1) q1)
def g_X4_fillRegret_8 (z1 : Int) : Nat → Int → ZS → Option ZS
  | 0, _, _ => none
  | n + 1, z3, ζ =>
    gI 8 z3 (8 ≤ z3) (
      some ζ) (
      (g_X9_isIn z3 ζ).bind fun q1 =>
      gI q1.1 0 (q1.1 = 0) (
        g_X4_fillRegret_70 (g_X4_fillRegret_8 z1 n) z1 z3 q1.2) (
        (g_X9_fillLead z3 z1 135 q1.2).bind fun q2 =>
        g_X4_fillRegret_41 z1 z3 (g_X4_fillRegret_8 z1 n) FU 0 q2))
def g_X4_fillRegret (z1 : Int) (ζ : ZS) : Option ZS :=
    (g_X3_become 0 1 ζ).bind fun q1 =>
    g_X4_fillRegret_8 z1 FU 0 q1
def g_X4_leastRegret_65 (r10 : Int → Int → Int → Int → ZS → Option (Int × ZS)) (z2 : Int) (z3 : Int) (z5 : Int) (z7 : Int) (ζ : ZS) : Option (Int × ZS) :=
    r10 z2 z3 z5 (z7 + 1) ζ
def g_X4_leastRegret_51 (r10 : Int → Int → Int → Int → ZS → Option (Int × ZS)) (z7 : Int) (ζ : ZS) : Option (Int × ZS) :=
    g_X4_leastRegret_65 r10 z7 (ζ.2.1 145 0) (ζ.2.1 145 1) z7 ζ
def g_X4_leastRegret_10  : Nat → Int → Int → Int → Int → ZS → Option (Int × ZS)
  | 0, _, _, _, _, _ => none
  | n + 1, z2, z3, z5, z7, ζ =>
    gI 8 z7 (8 ≤ z7) (
      some (z2, ζ)) (
      (g_X9_isIn z7 ζ).bind fun q1 =>
      gI q1.1 0 (q1.1 = 0) (
        g_X4_leastRegret_65 (g_X4_leastRegret_10 n) z2 z3 z5 z7 q1.2) (
        (g_X4_fillRegret z7 q1.2).bind fun q2 =>
        gI z2 (-1) (z2 = (-1)) (
          g_X4_leastRegret_51 (g_X4_leastRegret_10 n) z7 q2) (
          (g_X3_isUnder z3 z5 q2).bind fun q3 =>
          gI q3.1 0 (q3.1 = 0) (
            g_X4_leastRegret_65 (g_X4_leastRegret_10 n) z2 z3 z5 z7 q3.2) (
            g_X4_leastRegret_51 (g_X4_leastRegret_10 n) z7 q3.2))))
def g_X4_leastRegret  (ζ : ZS) : Option (Int × ZS) :=
    g_X4_leastRegret_10 FU (-1) 0 1 0 ζ
def g_X4_whereBest_111 (r29 : Int → Int → ZS → Option (Nat × ZS)) (z1 : Int) (z2 : Int) (z3 : Int) (z5 : Int) (z6 : Int) (ζ : ZS) : Option (Nat × ZS) :=
    r29 z5 (z6 + 1) ζ
def g_X4_whereBest_29 (z1 : Int) (z2 : Int) (z3 : Int) : Nat → Int → Int → ZS → Option (Nat × ZS)
  | 0, _, _, _ => none
  | n + 1, z5, z6, ζ =>
    gI 8 z6 (8 ≤ z6) (
      gk z5 13 (
      some (73 + 4 * Int.toNat z5, ζ))) (
      gI z6 z1 (z6 = z1) (
        g_X4_whereBest_111 (g_X4_whereBest_29 z1 z2 z3 n) z1 z2 z3 z5 z6 ζ) (
        (g_X9_isIn z6 ζ).bind fun q2 =>
        gI q2.1 0 (q2.1 = 0) (
          g_X4_whereBest_111 (g_X4_whereBest_29 z1 z2 z3 n) z1 z2 z3 z5 z6 q2.2) (
          gk z5 13 (
          gI (q2.2.1 (73 + 4 * Int.toNat z5) 5) 0 ((q2.2.1 (73 + 4 * Int.toNat z5) 5) ≤ 0) (
            g_X4_whereBest_111 (g_X4_whereBest_29 z1 z2 z3 n) z1 z2 z3 z5 z6 q2.2) (
            (g_X9_fillLead z1 z6 135 q2.2).bind fun q4 =>
            gk z2 4 (
            gk z2 4 (
            gk (z5 + 1) 13 (
            gk z5 13 (
            (g_X1_becomeCut (73 + 4 * Int.toNat (z5 + 1)) (73 + 4 * Int.toNat z5) 135 (zI q4 135 (Int.toNat z2) ((q4.1 135 (Int.toNat z2)) + z3))).bind fun q10 =>
            g_X4_whereBest_111 (g_X4_whereBest_29 z1 z2 z3 n) z1 z2 z3 (z5 + 1) z6 q10)))))))))
def g_X4_whereBest (z1 : Int) (z2 : Int) (z3 : Int) (ζ : ZS) : Option (Nat × ZS) :=
    gk 0 13 (
    (g_X1_become (73 + 4 * Int.toNat 0) 68 ζ).bind fun q2 =>
    g_X4_whereBest_29 z1 z2 z3 FU 0 0 q2)
def g_X4_mayBeBest__18 (zs0 : Int) (ζ : ZS) : Option (Int × ZS) :=
    gz zs0 (some (zs0, ζ))
def g_X4_mayBeBest_ (z1 : Int) (ζ : ZS) : Option (Int × ZS) :=
    (g_X4_whereBest z1 0 0 ζ).bind fun q1 =>
    rk (some q1.1) 1 fun c102 =>
    gI (q1.2.1 c102 5) 0 ((q1.2.1 c102 5) ≤ 0) (
      g_X4_mayBeBest__18 0 q1.2) (
      g_X4_mayBeBest__18 1 q1.2)
def g_X4_mayBeBest_80 (r41 : Int → Int → ZS → Option (Int × ZS)) (z1 : Int) (z2 : Int) (ζ : ZS) : Option (Int × ZS) :=
    r41 z1 (z2 + 1) ζ
def g_X4_mayBeBest_41  : Nat → Int → Int → ZS → Option (Int × ZS)
  | 0, _, _, _ => none
  | n + 1, z1, z2, ζ =>
    gI 8 z2 (8 ≤ z2) (
      some (z1, ζ)) (
      (g_X9_isIn z2 ζ).bind fun q1 =>
      gI q1.1 0 (q1.1 = 0) (
        g_X4_mayBeBest_80 (g_X4_mayBeBest_41 n) z1 z2 q1.2) (
        gI (zand z1 (zshl 1 z2)) 0 ((zand z1 (zshl 1 z2)) = 0) (
          (g_X4_mayBeBest_ z2 q1.2).bind fun q2 =>
          gI q2.1 0 (q2.1 = 0) (
            g_X4_mayBeBest_80 (g_X4_mayBeBest_41 n) z1 z2 q2.2) (
            g_X4_mayBeBest_80 (g_X4_mayBeBest_41 n) (zor z1 (zshl 1 z2)) z2 q2.2)) (
          g_X4_mayBeBest_80 (g_X4_mayBeBest_41 n) z1 z2 q1.2)))
def g_X4_mayBeBest_4  : Nat → Int → Int → ZS → Option (Int × ZS)
  | 0, _, _, _ => none
  | n + 1, z1, z2, ζ =>
    gI (ζ.1 68 5) z2 ((ζ.1 68 5) ≤ z2) (
      g_X4_mayBeBest_41 FU z1 0 ζ) (
      (g_X4_bestByCorner 68 z2 ζ).bind fun q1 =>
      (g_X4_mayBeBest_4 n) (zor z1 q1.1) (z2 + 1) q1.2)
def g_X4_mayBeBest  (ζ : ZS) : Option (Int × ZS) :=
    g_X4_mayBeBest_4 FU 0 0 ζ
def g_X4_leadsOf_2 (z1 : Int) : Nat → Int → ZS → Option (Nat × ZS)
  | 0, _, _ => none
  | n + 1, z2, ζ =>
    gI 8 z2 (8 ≤ z2) (
      some (126, ζ)) (
      gk z2 8 (
      (g_X9_fillLead z1 z2 (126 + 1 + Int.toNat z2) ζ).bind fun q2 =>
      (g_X4_leadsOf_2 z1 n) (z2 + 1) q2))
def g_X4_leadsOf (z1 : Int) (ζ : ZS) : Option (Nat × ZS) :=
    g_X4_leadsOf_2 z1 FU 0 ζ
def g_X4_markBehind_47 (r2 : Int → ZS → Option ZS) (r10 : Int → ZS → Option ZS) (z1 : Int) (z2 : Int) (z3 : Int) (ζ : ZS) : Option ZS :=
    r10 (z3 + 1) ζ
def g_X4_markBehind_10 (z1 : Int) (z2 : Int) (r2 : Int → ZS → Option ZS) : Nat → Int → ZS → Option ZS
  | 0, _, _ => none
  | n + 1, z3, ζ =>
    gI 8 z3 (8 ≤ z3) (
      r2 (z2 + 1) ζ) (
      gk z2 8 (
      gk z3 8 (
      gJ (ζ.2.1 137 (Int.toNat z2)) (ζ.2.1 137 (Int.toNat z3)) ((ζ.2.1 137 (Int.toNat z2)) < (ζ.2.1 137 (Int.toNat z3))) (
        g_X4_markBehind_47 r2 (g_X4_markBehind_10 z1 z2 r2 n) z1 z2 z3 ζ) (
        gk ((z2 * 8) + z3) 64 (
        gk ((z2 * 8) + z3) 64 (
        g_X4_markBehind_47 r2 (g_X4_markBehind_10 z1 z2 r2 n) z1 z2 z3 (zI ζ 139 (Int.toNat ((z2 * 8) + z3)) (zor (ζ.1 139 (Int.toNat ((z2 * 8) + z3))) z1))))))))
def g_X4_markBehind_2 (z1 : Int) : Nat → Int → ZS → Option ZS
  | 0, _, _ => none
  | n + 1, z2, ζ =>
    gI 8 z2 (8 ≤ z2) (
      some ζ) (
      g_X4_markBehind_10 z1 z2 (g_X4_markBehind_2 z1 n) FU 0 ζ)
def g_X4_markBehind (z1 : Int) (ζ : ZS) : Option ZS :=
    g_X4_markBehind_2 z1 FU 0 ζ
def g_X4_fillBehind_80 (r26 : Int → ZS → Option ZS) (z1 : Int) (ζ : ZS) : Option ZS :=
    r26 (z1 + 1) ζ
def g_X4_fillBehind_53 (z1 : Int) (c2 : Nat) (r26 : Int → ZS → Option ZS) : Nat → Int → ZS → Option ZS
  | 0, _, _ => none
  | n + 1, z3, ζ =>
    gI (ζ.1 c2 5) z3 ((ζ.1 c2 5) ≤ z3) (
      g_X4_fillBehind_80 r26 z1 ζ) (
      (g_X4_fillGoods c2 z3 ζ).bind fun q1 =>
      (g_X4_markBehind (zshl 1 z1) q1).bind fun q2 =>
      (g_X4_fillBehind_53 z1 c2 r26 n) (z3 + 1) q2)
def g_X4_fillBehind_26  : Nat → Int → ZS → Option ZS
  | 0, _, _ => none
  | n + 1, z1, ζ =>
    gI 8 z1 (8 ≤ z1) (
      some ζ) (
      (g_X9_isIn z1 ζ).bind fun q1 =>
      gI q1.1 0 (q1.1 = 0) (
        g_X4_fillBehind_80 (g_X4_fillBehind_26 n) z1 q1.2) (
        (g_X4_whereBest z1 0 0 q1.2).bind fun q2 =>
        rk (some q2.1) 1 fun c103 =>
        g_X4_fillBehind_53 z1 c103 (g_X4_fillBehind_26 n) FU 0 q2.2))
def g_X4_fillBehind_2  : Nat → Int → ZS → Option ZS
  | 0, _, _ => none
  | n + 1, z1, ζ =>
    gI ((ln 139 : Nat) : Int) z1 (((ln 139 : Nat) : Int) ≤ z1) (
      g_X4_fillBehind_26 FU 0 ζ) (
      gk z1 64 (
      (g_X4_fillBehind_2 n) (z1 + 1) (zI ζ 139 (Int.toNat z1) 0)))
def g_X4_fillBehind  (ζ : ZS) : Option ZS :=
    g_X4_fillBehind_2 FU 0 ζ
def g_X4_greaterCount_13  (ζ : ZS) : Option (Int × ZS) :=
    some ((-1), ζ)
def g_X4_greaterCount (z1 : Int) (ζ : ZS) : Option (Int × ZS) :=
    gI z1 0 (z1 < 0) (
      g_X4_greaterCount_13 ζ) (
      gI z1 ((ln 139 : Nat) : Int) (z1 < ((ln 139 : Nat) : Int)) (
        gd z1 8 (
        gd z1 8 (
        gk (((Int.tdiv z1 8) * 8) + (Int.tmod z1 8)) 64 (
        (g_J6_bitCount_0f7a4 (ζ.1 139 (Int.toNat (((Int.tdiv z1 8) * 8) + (Int.tmod z1 8)))) ζ).bind fun q4 =>
        gk (((Int.tmod z1 8) * 8) + (Int.tdiv z1 8)) 64 (
        (g_J6_bitCount_0f7a4 (q4.2.1 139 (Int.toNat (((Int.tmod z1 8) * 8) + (Int.tdiv z1 8)))) q4.2).bind fun q6 =>
        (g_J9_max_7cf53 q4.1 q6.1 q6.2).bind fun q7 =>
        some (q7.1, q7.2)))))) (
        g_X4_greaterCount_13 ζ))
def g_X4_partsMost_88 (r8 : Int → Int → ZS → Option (Int × ZS)) (r18 : Int → Int → ZS → Option (Int × ZS)) (z1 : Int) (z2 : Int) (z3 : Int) (ζ : ZS) : Option (Int × ZS) :=
    r18 z1 (z3 + 1) ζ
def g_X4_partsMost_85 (r8 : Int → Int → ZS → Option (Int × ZS)) (r18 : Int → Int → ZS → Option (Int × ZS)) (z2 : Int) (z3 : Int) (z4 : Int) (ζ : ZS) : Option (Int × ZS) :=
    g_X4_partsMost_88 r8 r18 z4 z2 z3 ζ
def g_X4_partsMost_59 (r8 : Int → Int → ZS → Option (Int × ZS)) (r18 : Int → Int → ZS → Option (Int × ZS)) (z1 : Int) (z2 : Int) (z3 : Int) (z4 : Int) (zs0 : Int) (ζ : ZS) : Option (Int × ZS) :=
    gI zs0 0 (zs0 = 0) (
      g_X4_partsMost_88 r8 r18 z1 z2 z3 ζ) (
      gI z1 (-1) (z1 = (-1)) (
        g_X4_partsMost_85 r8 r18 z2 z3 z4 ζ) (
        (g_X4_greaterCount z4 ζ).bind fun q1 =>
        (g_X4_greaterCount z1 q1.2).bind fun q2 =>
        gI q2.1 q1.1 (q2.1 ≤ q1.1) (
          g_X4_partsMost_88 r8 r18 z1 z2 z3 q2.2) (
          g_X4_partsMost_85 r8 r18 z2 z3 z4 q2.2)))
def g_X4_partsMost_58 (r8 : Int → Int → ZS → Option (Int × ZS)) (r18 : Int → Int → ZS → Option (Int × ZS)) (z1 : Int) (z2 : Int) (z3 : Int) (z4 : Int) (ζ : ZS) : Option (Int × ZS) :=
    g_X4_partsMost_59 r8 r18 z1 z2 z3 z4 0 ζ
def g_X4_partsMost_18 (z2 : Int) (r8 : Int → Int → ZS → Option (Int × ZS)) : Nat → Int → Int → ZS → Option (Int × ZS)
  | 0, _, _, _ => none
  | n + 1, z1, z3, ζ =>
    gI 8 z3 (8 ≤ z3) (
      r8 z1 (z2 + 1) ζ) (
      (g_X9_isIn z2 ζ).bind fun q1 =>
      gI q1.1 0 (q1.1 = 0) (
        g_X4_partsMost_58 r8 (g_X4_partsMost_18 z2 r8 n) z1 z2 z3 ((z2 * 8) + z3) q1.2) (
        (g_X9_isIn z3 q1.2).bind fun q2 =>
        gI q2.1 0 (q2.1 = 0) (
          g_X4_partsMost_58 r8 (g_X4_partsMost_18 z2 r8 n) z1 z2 z3 ((z2 * 8) + z3) q2.2) (
          g_X4_partsMost_59 r8 (g_X4_partsMost_18 z2 r8 n) z1 z2 z3 ((z2 * 8) + z3) 1 q2.2)))
def g_X4_partsMost_8  : Nat → Int → Int → ZS → Option (Int × ZS)
  | 0, _, _, _ => none
  | n + 1, z1, z2, ζ =>
    gI 8 z2 (8 ≤ z2) (
      some (z1, ζ)) (
      g_X4_partsMost_18 z2 (g_X4_partsMost_8 n) FU z1 (z2 + 1) ζ)
def g_X4_partsMost  (ζ : ZS) : Option (Int × ZS) :=
    (g_X4_fillBehind ζ).bind fun q1 =>
    g_X4_partsMost_8 FU (-1) 0 q1
def g_X4_haveAllCorners_2 (c1 : Nat) (z2 : Int) : Nat → Int → ZS → Option (Int × ZS)
  | 0, _, _ => none
  | n + 1, z3, ζ =>
    gI (ζ.1 c1 5) z3 ((ζ.1 c1 5) ≤ z3) (
      some (1, ζ)) (
      gk z3 44 (
      gI (zand (ζ.1 138 (Int.toNat z3)) z2) 0 ((zand (ζ.1 138 (Int.toNat z3)) z2) = 0) (
        some (0, ζ)) (
        (g_X4_haveAllCorners_2 c1 z2 n) (z3 + 1) ζ)))
def g_X4_haveAllCorners (c1 : Nat) (z2 : Int) (ζ : ZS) : Option (Int × ZS) :=
    g_X4_haveAllCorners_2 c1 z2 FU 0 ζ
def g_X4_isBestAhead_78 (r16 : Int → ZS → Option (Int × ZS)) (c1 : Nat) (z2 : Int) (z3 : Int) (z4 : Int) (ζ : ZS) : Option (Int × ZS) :=
    r16 (z4 + 1) ζ
def g_X4_isBestAhead_16 (c1 : Nat) (z2 : Int) (z3 : Int) : Nat → Int → ZS → Option (Int × ZS)
  | 0, _, _ => none
  | n + 1, z4, ζ =>
    gI 8 z4 (8 ≤ z4) (
      some (1, ζ)) (
      (g_X9_isIn z4 ζ).bind fun q1 =>
      gI q1.1 0 (q1.1 = 0) (
        g_X4_isBestAhead_78 (g_X4_isBestAhead_16 c1 z2 z3 n) c1 z2 z3 z4 q1.2) (
        gI z4 z2 (z4 = z2) (
          g_X4_isBestAhead_78 (g_X4_isBestAhead_16 c1 z2 z3 n) c1 z2 z3 z4 q1.2) (
          gI z4 z3 (z4 = z3) (
            g_X4_isBestAhead_78 (g_X4_isBestAhead_16 c1 z2 z3 n) c1 z2 z3 z4 q1.2) (
            (g_X9_fillLead z2 z4 136 q1.2).bind fun q2 =>
            (g_X1_impliesWith c1 135 136 q2).bind fun q3 =>
            gI q3.1 0 (q3.1 = 0) (
              some (0, q3.2)) (
              g_X4_isBestAhead_78 (g_X4_isBestAhead_16 c1 z2 z3 n) c1 z2 z3 z4 q3.2)))))
def g_X4_isBestAhead (c1 : Nat) (z2 : Int) (z3 : Int) (ζ : ZS) : Option (Int × ZS) :=
    (g_X9_fillLead z2 z3 135 ζ).bind fun q1 =>
    g_X4_isBestAhead_16 c1 z2 z3 FU 0 q1
def g_X4_oneQuestionDoes_117 (r30 : Int → ZS → Option (Int × ZS)) (r40 : Int → ZS → Option (Int × ZS)) (c1 : Nat) (z2 : Int) (z3 : Int) (ζ : ZS) : Option (Int × ZS) :=
    r40 (z3 + 1) ζ
def g_X4_oneQuestionDoes_73 (r30 : Int → ZS → Option (Int × ZS)) (r40 : Int → ZS → Option (Int × ZS)) (c1 : Nat) (z2 : Int) (z3 : Int) (zs0 : Int) (ζ : ZS) : Option (Int × ZS) :=
    gI zs0 0 (zs0 = 0) (
      g_X4_oneQuestionDoes_117 r30 r40 c1 z2 z3 ζ) (
      (g_X4_haveAllCorners c1 (zor (zshl 1 z2) (zshl 1 z3)) ζ).bind fun q1 =>
      gI q1.1 0 (q1.1 = 0) (
        g_X4_oneQuestionDoes_117 r30 r40 c1 z2 z3 q1.2) (
        (g_X4_isBestAhead c1 z2 z3 q1.2).bind fun q2 =>
        gI q2.1 0 (q2.1 = 0) (
          g_X4_oneQuestionDoes_117 r30 r40 c1 z2 z3 q2.2) (
          (g_X4_isBestAhead c1 z3 z2 q2.2).bind fun q3 =>
          gI q3.1 0 (q3.1 = 0) (
            g_X4_oneQuestionDoes_117 r30 r40 c1 z2 z3 q3.2) (
            some (1, q3.2)))))
def g_X4_oneQuestionDoes_72 (r30 : Int → ZS → Option (Int × ZS)) (r40 : Int → ZS → Option (Int × ZS)) (c1 : Nat) (z2 : Int) (z3 : Int) (ζ : ZS) : Option (Int × ZS) :=
    g_X4_oneQuestionDoes_73 r30 r40 c1 z2 z3 0 ζ
def g_X4_oneQuestionDoes_40 (c1 : Nat) (z2 : Int) (r30 : Int → ZS → Option (Int × ZS)) : Nat → Int → ZS → Option (Int × ZS)
  | 0, _, _ => none
  | n + 1, z3, ζ =>
    gI 8 z3 (8 ≤ z3) (
      r30 (z2 + 1) ζ) (
      (g_X9_isIn z2 ζ).bind fun q1 =>
      gI q1.1 0 (q1.1 = 0) (
        g_X4_oneQuestionDoes_72 r30 (g_X4_oneQuestionDoes_40 c1 z2 r30 n) c1 z2 z3 q1.2) (
        (g_X9_isIn z3 q1.2).bind fun q2 =>
        gI q2.1 0 (q2.1 = 0) (
          g_X4_oneQuestionDoes_72 r30 (g_X4_oneQuestionDoes_40 c1 z2 r30 n) c1 z2 z3 q2.2) (
          g_X4_oneQuestionDoes_73 r30 (g_X4_oneQuestionDoes_40 c1 z2 r30 n) c1 z2 z3 1 q2.2)))
def g_X4_oneQuestionDoes_30 (c1 : Nat) : Nat → Int → ZS → Option (Int × ZS)
  | 0, _, _ => none
  | n + 1, z2, ζ =>
    gI 8 z2 (8 ≤ z2) (
      some (0, ζ)) (
      g_X4_oneQuestionDoes_40 c1 z2 (g_X4_oneQuestionDoes_30 c1 n) FU (z2 + 1) ζ)
def g_X4_oneQuestionDoes_2 (c1 : Nat) : Nat → Int → ZS → Option (Int × ZS)
  | 0, _, _ => none
  | n + 1, z2, ζ =>
    gI (ζ.1 c1 5) z2 ((ζ.1 c1 5) ≤ z2) (
      g_X4_oneQuestionDoes_30 c1 FU 0 ζ) (
      (g_X4_bestByCorner c1 z2 ζ).bind fun q1 =>
      gk z2 44 (
      (g_X4_oneQuestionDoes_2 c1 n) (z2 + 1) (zI q1.2 138 (Int.toNat z2) q1.1)))
def g_X4_oneQuestionDoes (c1 : Nat) (ζ : ZS) : Option (Int × ZS) :=
    g_X4_oneQuestionDoes_2 c1 FU 0 ζ
def g_X4_oneMoreDoes (z1 : Int) (z2 : Int) (ζ : ZS) : Option (Int × ZS) :=
    (g_X9_fillLead z1 z2 135 ζ).bind fun q1 =>
    gk 0 13 (
    (g_X1_becomeCut (73 + 4 * Int.toNat 0) 68 135 q1).bind fun q3 =>
    gk 0 13 (
    (g_X4_oneQuestionDoes (73 + 4 * Int.toNat 0) q3).bind fun q5 =>
    gz q5.1 (some (q5.1, q5.2))))
def g_X4_fewQuestions_102 (r34 : Int → ZS → Option (Int × ZS)) (r44 : Int → ZS → Option (Int × ZS)) (z1 : Int) (z2 : Int) (ζ : ZS) : Option (Int × ZS) :=
    r44 (z2 + 1) ζ
def g_X4_fewQuestions_77 (r34 : Int → ZS → Option (Int × ZS)) (r44 : Int → ZS → Option (Int × ZS)) (z1 : Int) (z2 : Int) (zs0 : Int) (ζ : ZS) : Option (Int × ZS) :=
    gI zs0 0 (zs0 = 0) (
      g_X4_fewQuestions_102 r34 r44 z1 z2 ζ) (
      (g_X4_oneMoreDoes z1 z2 ζ).bind fun q1 =>
      gI q1.1 0 (q1.1 = 0) (
        g_X4_fewQuestions_102 r34 r44 z1 z2 q1.2) (
        (g_X4_oneMoreDoes z2 z1 q1.2).bind fun q2 =>
        gI q2.1 0 (q2.1 = 0) (
          g_X4_fewQuestions_102 r34 r44 z1 z2 q2.2) (
          some (2, q2.2))))
def g_X4_fewQuestions_76 (r34 : Int → ZS → Option (Int × ZS)) (r44 : Int → ZS → Option (Int × ZS)) (z1 : Int) (z2 : Int) (ζ : ZS) : Option (Int × ZS) :=
    g_X4_fewQuestions_77 r34 r44 z1 z2 0 ζ
def g_X4_fewQuestions_44 (z1 : Int) (r34 : Int → ZS → Option (Int × ZS)) : Nat → Int → ZS → Option (Int × ZS)
  | 0, _, _ => none
  | n + 1, z2, ζ =>
    gI 8 z2 (8 ≤ z2) (
      r34 (z1 + 1) ζ) (
      (g_X9_isIn z1 ζ).bind fun q1 =>
      gI q1.1 0 (q1.1 = 0) (
        g_X4_fewQuestions_76 r34 (g_X4_fewQuestions_44 z1 r34 n) z1 z2 q1.2) (
        (g_X9_isIn z2 q1.2).bind fun q2 =>
        gI q2.1 0 (q2.1 = 0) (
          g_X4_fewQuestions_76 r34 (g_X4_fewQuestions_44 z1 r34 n) z1 z2 q2.2) (
          g_X4_fewQuestions_77 r34 (g_X4_fewQuestions_44 z1 r34 n) z1 z2 1 q2.2)))
def g_X4_fewQuestions_34  : Nat → Int → ZS → Option (Int × ZS)
  | 0, _, _ => none
  | n + 1, z1, ζ =>
    gI 8 z1 (8 ≤ z1) (
      some ((-1), ζ)) (
      g_X4_fewQuestions_44 z1 (g_X4_fewQuestions_34 n) FU (z1 + 1) ζ)
def g_X4_fewQuestions  (ζ : ZS) : Option (Int × ZS) :=
    (g_X4_surelyBest 68 ζ).bind fun q1 =>
    gI q1.1 0 (q1.1 = 0) (
      (g_X4_oneQuestionDoes 68 q1.2).bind fun q2 =>
      gI q2.1 0 (q2.1 = 0) (
        g_X4_fewQuestions_34 FU 0 q2.2) (
        some (1, q2.2))) (
      some (0, q1.2))
def g_X4_needToBeSure_163 (zs0 : Int) (ζ : ZS) : Option (Int × ZS) :=
    some (zs0, ζ)
def g_X4_needToBeSure_131 (r5 : Int → Int → ZS → Option (Int × ZS)) (z1 : Int) (z2 : Int) (z3 : Int) (z5 : Int) (ζ : ZS) : Option (Int × ZS) :=
    r5 z3 (z5 + 1) ζ
def g_X4_needToBeSure_125 (r5 : Int → Int → ZS → Option (Int × ZS)) (r41 : Int → Int → ZS → Option (Int × ZS)) (z1 : Int) (z2 : Int) (z3 : Int) (z5 : Int) (z6 : Int) (ζ : ZS) : Option (Int × ZS) :=
    r41 z3 (z6 + 1) ζ
def g_X4_needToBeSure_105 (r5 : Int → Int → ZS → Option (Int × ZS)) (r41 : Int → Int → ZS → Option (Int × ZS)) (z1 : Int) (z2 : Int) (z3 : Int) (z5 : Int) (z6 : Int) (z7 : Int) (z9 : Int) (ζ : ZS) : Option (Int × ZS) :=
    gJ 0 z7 (0 ≤ z7) (
      g_X4_needToBeSure_125 r5 r41 z1 z2 z3 z5 z6 ζ) (
      (g_J9_floorDiv_f86c9 z7 z9 ζ).bind fun q1 =>
      (g_J9_max_f86c9 z3 (-q1.1) q1.2).bind fun q2 =>
      g_X4_needToBeSure_125 r5 r41 z1 z2 q2.1 z5 z6 q2.2)
def g_X4_needToBeSure_41 (z1 : Int) (z2 : Int) (z5 : Int) (r5 : Int → Int → ZS → Option (Int × ZS)) : Nat → Int → Int → ZS → Option (Int × ZS)
  | 0, _, _, _ => none
  | n + 1, z3, z6, ζ =>
    gI (ζ.1 68 5) z6 ((ζ.1 68 5) ≤ z6) (
      g_X4_needToBeSure_131 r5 z1 z2 z3 z5 ζ) (
      (g_X1_product 68 z6 135 ζ).bind fun q1 =>
      (g_X1_weight 68 z6 z2 q1.2).bind fun q2 =>
      gJ 0 q1.1 (0 ≤ q1.1) (
        g_X4_needToBeSure_105 r5 (g_X4_needToBeSure_41 z1 z2 z5 r5 n) z1 z2 z3 z5 z6 q1.1 q2.1 q2.2) (
        gJ 0 q2.1 (0 < q2.1) (
          g_X4_needToBeSure_105 r5 (g_X4_needToBeSure_41 z1 z2 z5 r5 n) z1 z2 z3 z5 z6 q1.1 q2.1 q2.2) (
          some ((-1), q2.2))))
def g_X4_needToBeSure_5 (z1 : Int) (z2 : Int) : Nat → Int → Int → ZS → Option (Int × ZS)
  | 0, _, _, _ => none
  | n + 1, z3, z5, ζ =>
    gI 8 z5 (8 ≤ z5) (
      gk z1 8 (
      gk z2 4 (
      gw (100 - (ζ.1 (40 + 1 + Int.toNat z1) (Int.toNat z2))) (
      gJ (100 - (ζ.1 (40 + 1 + Int.toNat z1) (Int.toNat z2))) z3 ((100 - (ζ.1 (40 + 1 + Int.toNat z1) (Int.toNat z2))) < z3) (
        g_X4_needToBeSure_163 (-1) ζ) (
        g_X4_needToBeSure_163 z3 ζ))))) (
      (g_X9_isIn z5 ζ).bind fun q4 =>
      gI q4.1 0 (q4.1 = 0) (
        g_X4_needToBeSure_131 (g_X4_needToBeSure_5 z1 z2 n) z1 z2 z3 z5 q4.2) (
        (g_X9_fillLead z1 z5 135 q4.2).bind fun q5 =>
        g_X4_needToBeSure_41 z1 z2 z5 (g_X4_needToBeSure_5 z1 z2 n) FU z3 0 q5))
def g_X4_needToBeSure (z1 : Int) (z2 : Int) (ζ : ZS) : Option (Int × ZS) :=
    g_X4_needToBeSure_5 z1 z2 FU 0 0 ζ
def g_X4_needToMaybe_89 (z3 : Int) (ζ : ZS) : Option (Int × ZS) :=
    some (z3, ζ)
def g_X4_needToMaybe_83 (r36 : Int → Int → Int → ZS → Option (Int × ZS)) (z1 : Int) (z2 : Int) (z3 : Int) (z4 : Int) (z5 : Int) (ζ : ZS) : Option (Int × ZS) :=
    r36 z3 z4 (z5 + 1) ζ
def g_X4_needToMaybe_36 (z1 : Int) (z2 : Int) : Nat → Int → Int → Int → ZS → Option (Int × ZS)
  | 0, _, _, _, _ => none
  | n + 1, z3, z4, z5, ζ =>
    gI 100 z5 (100 < z5) (
      g_X4_needToMaybe_89 z3 ζ) (
      gI z3 z4 (z3 ≤ z4) (
        g_X4_needToMaybe_89 z3 ζ) (
        gd (z4 + z3) 2 (
        (g_X4_whereBest z1 z2 (Int.tdiv (z4 + z3) 2) ζ).bind fun q2 =>
        rk (some q2.1) 1 fun c103 =>
        gI (q2.2.1 c103 5) 0 ((q2.2.1 c103 5) ≤ 0) (
          g_X4_needToMaybe_83 (g_X4_needToMaybe_36 z1 z2 n) z1 z2 z3 ((Int.tdiv (z4 + z3) 2) + 1) z5 q2.2) (
          g_X4_needToMaybe_83 (g_X4_needToMaybe_36 z1 z2 n) z1 z2 (Int.tdiv (z4 + z3) 2) z4 z5 q2.2))))
def g_X4_needToMaybe (z1 : Int) (z2 : Int) (ζ : ZS) : Option (Int × ZS) :=
    gk z1 8 (
    gk z2 4 (
    (g_X4_whereBest z1 z2 (100 - (ζ.1 (40 + 1 + Int.toNat z1) (Int.toNat z2))) ζ).bind fun q3 =>
    rk (some q3.1) 1 fun c104 =>
    gI (q3.2.1 c104 5) 0 ((q3.2.1 c104 5) = 0) (
      some ((-1), q3.2)) (
      g_X4_needToMaybe_36 z1 z2 FU (100 - (ζ.1 (40 + 1 + Int.toNat z1) (Int.toNat z2))) 0 0 q3.2)))
def g_X4_leastStillBetter_101 (r19 : Int → Int → ZS → Option (Int × ZS)) (z1 : Int) (z3 : Int) (z4 : Int) (z6 : Int) (ζ : ZS) : Option (Int × ZS) :=
    r19 z4 (z6 + 1) ζ
def g_X4_leastStillBetter_19 (z1 : Int) (z3 : Int) : Nat → Int → Int → ZS → Option (Int × ZS)
  | 0, _, _, _ => none
  | n + 1, z4, z6, ζ =>
    gI (ζ.1 68 5) z6 ((ζ.1 68 5) ≤ z6) (
      some (z4, ζ)) (
      (g_X1_weight 68 z6 z3 ζ).bind fun q1 =>
      gJ q1.1 0 (q1.1 ≤ 0) (
        g_X4_leastStillBetter_101 (g_X4_leastStillBetter_19 z1 z3 n) z1 z3 z4 z6 q1.2) (
        (g_X1_product 68 z6 135 q1.2).bind fun q2 =>
        (g_J9_floorDiv_f86c9 q2.1 q1.1 q2.2).bind fun q3 =>
        gk z1 8 (
        gk z3 4 (
        gw (q3.2.1 (40 + 1 + Int.toNat z1) (Int.toNat z3)) (
        (g_J9_max_f86c9 z4 ((q3.2.1 (40 + 1 + Int.toNat z1) (Int.toNat z3)) - q3.1) q3.2).bind fun q7 =>
        g_X4_leastStillBetter_101 (g_X4_leastStillBetter_19 z1 z3 n) z1 z3 q7.1 z6 q7.2)))))
def g_X4_leastStillBetter (z1 : Int) (z2 : Int) (z3 : Int) (ζ : ZS) : Option (Int × ZS) :=
    (g_X9_fillLead z1 z2 135 ζ).bind fun q1 =>
    g_X4_leastStillBetter_19 z1 z3 FU 0 0 q1
def g_X4_brokenPlace_24 (c1 : Nat) (z2 : Int) : Nat → Int → ZS → Option (Int × ZS)
  | 0, _, _ => none
  | n + 1, z4, ζ =>
    gI z2 z4 (z2 ≤ z4) (
      some ((-1), ζ)) (
      gk (z4 - 1) (ln c1) (
      gk z4 (ln c1) (
      (g_X9_fillLead (ζ.1 c1 (Int.toNat (z4 - 1))) (ζ.1 c1 (Int.toNat z4)) 135 ζ).bind fun q3 =>
      gk z4 13 (
      gk (z4 - 1) 13 (
      (g_X1_becomeCut (73 + 4 * Int.toNat z4) (73 + 4 * Int.toNat (z4 - 1)) 135 q3).bind fun q6 =>
      gk z4 13 (
      gI (q6.1 (73 + 4 * Int.toNat z4) 5) 0 ((q6.1 (73 + 4 * Int.toNat z4) 5) = 0) (
        some (z4, q6)) (
        (g_X4_brokenPlace_24 c1 z2 n) (z4 + 1) q6)))))))
def g_X4_brokenPlace (c1 : Nat) (z2 : Int) (ζ : ZS) : Option (Int × ZS) :=
    gk 0 13 (
    (g_X1_become (73 + 4 * Int.toNat 0) 68 ζ).bind fun q2 =>
    g_X4_brokenPlace_24 c1 z2 FU 1 q2)
def g_X4_outdoes_60 (r3 : Int → ZS → Option (Int × ZS)) (z1 : Int) (z2 : Int) (z3 : Int) (z4 : Int) (zs0 : Int) (zs1 : Int) (cs2 : Nat) (ζ : ZS) : Option (Int × ZS) :=
    gk zs1 (ln cs2) (
    r3 (z4 + 1) (zI ζ cs2 (Int.toNat zs1) (zs0 - z3)))
def g_X4_outdoes_41 (r3 : Int → ZS → Option (Int × ZS)) (z1 : Int) (z2 : Int) (z3 : Int) (z4 : Int) (zs0 : Int) (ζ : ZS) : Option (Int × ZS) :=
    gI zs0 0 (zs0 = 0) (
      g_X4_outdoes_60 r3 z1 z2 z3 z4 0 z4 135 ζ) (
      g_X4_outdoes_60 r3 z1 z2 z3 z4 100 z4 135 ζ)
def g_X4_outdoes_3 (z1 : Int) (z2 : Int) (z3 : Int) : Nat → Int → ZS → Option (Int × ZS)
  | 0, _, _ => none
  | n + 1, z4, ζ =>
    gI 4 z4 (4 ≤ z4) (
      (g_X1_keeps 68 135 ζ).bind fun q1 =>
      gz q1.1 (some (q1.1, q1.2))) (
      gk z1 8 (
      gk z4 4 (
      gk z2 8 (
      gk z4 4 (
      gI (ζ.1 (40 + 1 + Int.toNat z1) (Int.toNat z4)) (ζ.1 (40 + 1 + Int.toNat z2) (Int.toNat z4)) ((ζ.1 (40 + 1 + Int.toNat z1) (Int.toNat z4)) < (ζ.1 (40 + 1 + Int.toNat z2) (Int.toNat z4))) (
        g_X4_outdoes_41 (g_X4_outdoes_3 z1 z2 z3 n) z1 z2 z3 z4 0 ζ) (
        g_X4_outdoes_41 (g_X4_outdoes_3 z1 z2 z3 n) z1 z2 z3 z4 1 ζ))))))
def g_X4_outdoes (z1 : Int) (z2 : Int) (z3 : Int) (ζ : ZS) : Option (Int × ZS) :=
    g_X4_outdoes_3 z1 z2 z3 FU 0 ζ
def g_X4_notOutdone_146 (r94 : Int → Int → ZS → Option (Int × ZS)) (r103 : Int → Int → ZS → Option (Int × ZS)) (z2 : Int) (z3 : Int) (z4 : Int) (ζ : ZS) : Option (Int × ZS) :=
    r103 z2 (z4 + 1) ζ
def g_X4_notOutdone_103 (z3 : Int) (r94 : Int → Int → ZS → Option (Int × ZS)) : Nat → Int → Int → ZS → Option (Int × ZS)
  | 0, _, _, _ => none
  | n + 1, z2, z4, ζ =>
    gI 8 z4 (8 ≤ z4) (
      r94 z2 (z3 + 1) ζ) (
      gk z3 8 (
      gI (zand (ζ.1 140 (Int.toNat z3)) (zshl 1 z4)) 0 ((zand (ζ.1 140 (Int.toNat z3)) (zshl 1 z4)) = 0) (
        g_X4_notOutdone_146 r94 (g_X4_notOutdone_103 z3 r94 n) z2 z3 z4 ζ) (
        gk z4 8 (
        gI (zand (ζ.1 140 (Int.toNat z4)) (zshl 1 z3)) 0 ((zand (ζ.1 140 (Int.toNat z4)) (zshl 1 z3)) = 0) (
          g_X4_notOutdone_146 r94 (g_X4_notOutdone_103 z3 r94 n) (zand z2 (zxor (zshl 1 z3) (-1))) z3 z4 ζ) (
          g_X4_notOutdone_146 r94 (g_X4_notOutdone_103 z3 r94 n) z2 z3 z4 ζ)))))
def g_X4_notOutdone_94  : Nat → Int → Int → ZS → Option (Int × ZS)
  | 0, _, _, _ => none
  | n + 1, z2, z3, ζ =>
    gI 8 z3 (8 ≤ z3) (
      some (z2, ζ)) (
      g_X4_notOutdone_103 z3 (g_X4_notOutdone_94 n) FU z2 0 ζ)
def g_X4_notOutdone_72 (r2 : Int → ZS → Option (Int × ZS)) (r17 : Int → ZS → Option (Int × ZS)) (z1 : Int) (z2 : Int) (z3 : Int) (ζ : ZS) : Option (Int × ZS) :=
    r17 (z3 + 1) ζ
def g_X4_notOutdone_17 (z1 : Int) (z2 : Int) (r2 : Int → ZS → Option (Int × ZS)) : Nat → Int → ZS → Option (Int × ZS)
  | 0, _, _ => none
  | n + 1, z3, ζ =>
    gI 8 z3 (8 ≤ z3) (
      r2 (z2 + 1) ζ) (
      gI z3 z2 (z3 = z2) (
        g_X4_notOutdone_72 r2 (g_X4_notOutdone_17 z1 z2 r2 n) z1 z2 z3 ζ) (
        (g_X9_isIn z3 ζ).bind fun q1 =>
        gI q1.1 0 (q1.1 = 0) (
          g_X4_notOutdone_72 r2 (g_X4_notOutdone_17 z1 z2 r2 n) z1 z2 z3 q1.2) (
          (g_X9_isIn z2 q1.2).bind fun q2 =>
          gI q2.1 0 (q2.1 = 0) (
            g_X4_notOutdone_72 r2 (g_X4_notOutdone_17 z1 z2 r2 n) z1 z2 z3 q2.2) (
            (g_X4_outdoes z3 z2 z1 q2.2).bind fun q3 =>
            gI q3.1 0 (q3.1 = 0) (
              g_X4_notOutdone_72 r2 (g_X4_notOutdone_17 z1 z2 r2 n) z1 z2 z3 q3.2) (
              gk z2 8 (
              gk z2 8 (
              g_X4_notOutdone_72 r2 (g_X4_notOutdone_17 z1 z2 r2 n) z1 z2 z3 (zI q3.2 140 (Int.toNat z2) (zor (q3.2.1 140 (Int.toNat z2)) (zshl 1 z3))))))))))
def g_X4_notOutdone_2 (z1 : Int) : Nat → Int → ZS → Option (Int × ZS)
  | 0, _, _ => none
  | n + 1, z2, ζ =>
    gI 8 z2 (8 ≤ z2) (
      g_X4_notOutdone_94 FU (ζ.1 30 4) 0 ζ) (
      gk z2 8 (
      g_X4_notOutdone_17 z1 z2 (g_X4_notOutdone_2 z1 n) FU 0 (zI ζ 140 (Int.toNat z2) 0)))
def g_X4_notOutdone (z1 : Int) (ζ : ZS) : Option (Int × ZS) :=
    g_X4_notOutdone_2 z1 FU 0 ζ
def g_X5_among (c1 : Nat) (z2 : Int) (ζ : ZS) : Option ZS :=
    some (zI (zR ζ 141 1 (some c1)) 141 2 z2)
def g_X5_pickBehind_30 (rc : Int → Int → Int → Nat → ZS → Option (Int × ZS)) (zs0 : Int) (ζ : ZS) : Option (Int × ZS) :=
    some (zs0, ζ)
def g_X5_pickBehind (rc : Int → Int → Int → Nat → ZS → Option (Int × ZS)) (z1 : Int) (z2 : Int) (z3 : Int) (c4 : Nat) (ζ : ZS) : Option (Int × ZS) :=
    gI z3 1 (z3 = 1) (
      gk z1 13 (
      rk (ζ.2.2 141 1) 18 fun c108 =>
      gk z2 (ln c108) (
      (g_X1_impliesWith (73 + 4 * Int.toNat z1) (c108 + 1 + Int.toNat z2) c4 ζ).bind fun q10 =>
      gI q10.1 0 (q10.1 = 0) (
        g_X5_pickBehind_30 rc (-1) q10.2) (
        g_X5_pickBehind_30 rc 0 q10.2)))) (
      gI (z1 + 1) ((ln 72 : Nat) : Int) ((z1 + 1) < ((ln 72 : Nat) : Int)) (
        gk (z1 + 1) 13 (
        gk z1 13 (
        rk (ζ.2.2 141 1) 18 fun c103 =>
        gk z2 (ln c103) (
        (g_X1_becomeCut (73 + 4 * Int.toNat (z1 + 1)) (73 + 4 * Int.toNat z1) (c103 + 1 + Int.toNat z2) ζ).bind fun q5 =>
        (rc (z1 + 1) (z2 + 1) (z3 - 1) c4 q5).bind fun q6 =>
        some (q6.1, q6.2))))) (
        some ((-1), ζ)))
def g_X5_pick_75 (rc : Int → Int → Int → Nat → ZS → Option (Int × ZS)) (r27 : Int → ZS → Option (Int × ZS)) (z1 : Int) (z3 : Int) (c4 : Nat) (z5 : Int) (ζ : ZS) : Option (Int × ZS) :=
    r27 (z5 + 1) ζ
def g_X5_pick_27 (rc : Int → Int → Int → Nat → ZS → Option (Int × ZS)) (z1 : Int) (z3 : Int) (c4 : Nat) : Nat → Int → ZS → Option (Int × ZS)
  | 0, _, _ => none
  | n + 1, z5, ζ =>
    rk (ζ.2.2 141 1) 18 fun c101 =>
    gI ((ln c101 : Nat) : Int) z5 (((ln c101 : Nat) : Int) ≤ z5) (
      some ((-1), ζ)) (
      gI (zand (ζ.1 141 2) (zshl 1 z5)) 0 ((zand (ζ.1 141 2) (zshl 1 z5)) = 0) (
        g_X5_pick_75 rc (g_X5_pick_27 rc z1 z3 c4 n) z1 z3 c4 z5 ζ) (
        (g_X5_pickBehind rc z1 z5 z3 c4 ζ).bind fun q2 =>
        gI q2.1 (-1) (q2.1 = (-1)) (
          g_X5_pick_75 rc (g_X5_pick_27 rc z1 z3 c4 n) z1 z3 c4 z5 q2.2) (
          some (zor q2.1 (zshl 1 z5), q2.2))))
def g_X5_pick_23 (rc : Int → Int → Int → Nat → ZS → Option (Int × ZS)) (zs0 : Int) (ζ : ZS) : Option (Int × ZS) :=
    some (zs0, ζ)
def g_X5_pick_0 (rc : Int → Int → Int → Nat → ZS → Option (Int × ZS)) (z1 : Int) (z2 : Int) (z3 : Int) (c4 : Nat) (ζ : ZS) : Option (Int × ZS) :=
    gI 0 z3 (0 < z3) (
      g_X5_pick_27 rc z1 z3 c4 FU z2 ζ) (
      gk z1 13 (
      (g_X1_keeps (73 + 4 * Int.toNat z1) c4 ζ).bind fun q2 =>
      gI q2.1 0 (q2.1 = 0) (
        g_X5_pick_23 rc (-1) q2.2) (
        g_X5_pick_23 rc 0 q2.2)))
def g_X5_pick : Nat → Int → Int → Int → Nat → ZS → Option (Int × ZS)
  | 0, _, _, _, _, _ => none
  | d + 1, z1, z2, z3, c4, ζ => g_X5_pick_0 (g_X5_pick d) z1 z2 z3 c4 ζ
def g_X5_fewest_13 (z2 : Int) (c3 : Nat) : Nat → Int → ZS → Option (Int × ZS)
  | 0, _, _ => none
  | n + 1, z4, ζ =>
    gI z2 z4 (z2 < z4) (
      some ((-1), ζ)) (
      (g_X5_pick DEP 0 0 z4 c3 ζ).bind fun q1 =>
      gI q1.1 (-1) (q1.1 = (-1)) (
        (g_X5_fewest_13 z2 c3 n) (z4 + 1) q1.2) (
        some (q1.1, q1.2)))
def g_X5_fewest (c1 : Nat) (z2 : Int) (c3 : Nat) (ζ : ZS) : Option (Int × ZS) :=
    gk 0 13 (
    (g_X1_become (73 + 4 * Int.toNat 0) c1 ζ).bind fun q2 =>
    g_X5_fewest_13 z2 c3 FU 0 q2)
def g_X8_kindOf_39 (zs0 : Int) (ζ : ZS) : Option (Int × ZS) :=
    some (zs0, ζ)
def g_X8_kindOf_28 (z0 : Int) (ζ : ZS) : Option (Int × ZS) :=
    gI z0 59 (z0 = 59) (
      g_X8_kindOf_39 3 ζ) (
      g_X8_kindOf_39 4 ζ)
def g_X8_kindOf_14 (z0 : Int) (ζ : ZS) : Option (Int × ZS) :=
    gI z0 48 (z0 < 48) (
      g_X8_kindOf_28 z0 ζ) (
      gI 57 z0 (57 < z0) (
        g_X8_kindOf_28 z0 ζ) (
        some (2, ζ)))
def g_X8_kindOf (z0 : Int) (ζ : ZS) : Option (Int × ZS) :=
    gI z0 97 (z0 < 97) (
      g_X8_kindOf_14 z0 ζ) (
      gI 122 z0 (122 < z0) (
        g_X8_kindOf_14 z0 ζ) (
        some (1, ζ)))
def g_X8_step_212  (ζ : ZS) : Option ZS :=
    some ζ
def g_X8_step_204 (zs0 : Int) (zs1 : Int) (ζ : ZS) : Option ZS :=
    gI zs1 zs0 (zs1 ≤ zs0) (
      g_X8_step_212 ζ) (
      g_X8_step_212 (zI ζ 27 2 4))
def g_X8_step_177 (z1 : Int) (ζ : ZS) : Option ZS :=
    gI z1 0 (z1 = 0) (
      g_X8_step_212 ζ) (
      gI (ζ.1 27 2) 1 ((ζ.1 27 2) = 1) (
        g_X8_step_204 8 ((ζ.1 27 4) - (ζ.1 27 3)) ζ) (
        g_X8_step_204 3 ((ζ.1 27 4) - (ζ.1 27 3)) ζ))
def g_X8_step_130 (z1 : Int) : Nat → ZS → Option ZS
  | 0, _ => none
  | n + 1, ζ =>
    gI z1 0 (z1 = 0) (
      g_X8_step_177 z1 ζ) (
      gI (ζ.1 27 1) (ζ.1 27 4) ((ζ.1 27 1) ≤ (ζ.1 27 4)) (
        g_X8_step_177 z1 ζ) (
        gk (ζ.1 27 4) 1000 (
        (g_X8_kindOf (ζ.1 28 (Int.toNat (ζ.1 27 4))) ζ).bind fun q2 =>
        gI q2.1 (q2.2.1 27 2) (q2.1 = (q2.2.1 27 2)) (
          (g_X8_step_130 z1 n) (zI q2.2 27 4 ((q2.2.1 27 4) + 1))) (
          g_X8_step_177 z1 q2.2))))
def g_X8_step_129 (zs0 : Int) (ζ : ZS) : Option ZS :=
    g_X8_step_130 zs0 FU ζ
def g_X8_step_124  (ζ : ZS) : Option ZS :=
    g_X8_step_129 1 ζ
def g_X8_step_88 (zs0 : Int) (ζ : ZS) : Option ZS :=
    (g_J9_min_7cf53 (((zI ζ 27 2 zs0).1 27 3) + 1) ((zI ζ 27 2 zs0).1 27 1) (zI ζ 27 2 zs0)).bind fun q2 =>
    gI ((zI q2.2 27 4 q2.1).1 27 2) 1 (((zI q2.2 27 4 q2.1).1 27 2) = 1) (
      g_X8_step_124 (zI q2.2 27 4 q2.1)) (
      gI ((zI q2.2 27 4 q2.1).1 27 2) 2 (((zI q2.2 27 4 q2.1).1 27 2) = 2) (
        g_X8_step_124 (zI q2.2 27 4 q2.1)) (
        g_X8_step_129 0 (zI q2.2 27 4 q2.1)))
def g_X8_step_60  (ζ : ZS) : Option ZS :=
    gI (ζ.1 27 1) (ζ.1 27 3) ((ζ.1 27 1) ≤ (ζ.1 27 3)) (
      g_X8_step_88 0 ζ) (
      gk (ζ.1 27 3) 1000 (
      (g_X8_kindOf (ζ.1 28 (Int.toNat (ζ.1 27 3))) ζ).bind fun q2 =>
      g_X8_step_88 q2.1 q2.2))
def g_X8_step_47 (r8 : ZS → Option ZS)  (ζ : ZS) : Option ZS :=
    r8 (zI ζ 27 3 ((ζ.1 27 3) + 1))
def g_X8_step_8  : Nat → ZS → Option ZS
  | 0, _ => none
  | n + 1, ζ =>
    gI (ζ.1 27 1) (ζ.1 27 3) ((ζ.1 27 1) ≤ (ζ.1 27 3)) (
      g_X8_step_60 ζ) (
      gk (ζ.1 27 3) 1000 (
      gI (ζ.1 28 (Int.toNat (ζ.1 27 3))) 10 ((ζ.1 28 (Int.toNat (ζ.1 27 3))) = 10) (
        g_X8_step_47 (g_X8_step_8 n) ζ) (
        gk (ζ.1 27 3) 1000 (
        gI (ζ.1 28 (Int.toNat (ζ.1 27 3))) 32 ((ζ.1 28 (Int.toNat (ζ.1 27 3))) = 32) (
          g_X8_step_47 (g_X8_step_8 n) ζ) (
          g_X8_step_60 ζ)))))
def g_X8_step  (ζ : ZS) : Option ZS :=
    g_X8_step_8 FU (zI ζ 27 3 (ζ.1 27 4))
def g_X8_rewind  (ζ : ZS) : Option ZS :=
    (g_X8_step (zI ζ 27 4 0)).bind fun q2 =>
    some q2
def g_X8_number_44 (z1 : Int) (ζ : ZS) : Option (Int × ZS) :=
    some (z1, ζ)
def g_X8_number_7  : Nat → Int → Int → ZS → Option (Int × ZS)
  | 0, _, _, _ => none
  | n + 1, z1, z2, ζ =>
    gI (ζ.1 27 4) z2 ((ζ.1 27 4) ≤ z2) (
      g_X8_number_44 z1 ζ) (
      gI (ζ.1 27 2) 2 ((ζ.1 27 2) = 2) (
        gk z2 1000 (
        (g_X8_number_7 n) (((z1 * 10) + (ζ.1 28 (Int.toNat z2))) - 48) (z2 + 1) ζ)) (
        g_X8_number_44 z1 ζ))
def g_X8_number  (ζ : ZS) : Option (Int × ZS) :=
    g_X8_number_7 FU 0 (ζ.1 27 3) ζ
def g_X6_wrong (z1 : Int) (ζ : ZS) : Option ZS :=
    some (zI ζ 29 2 (z1 + (16 * (ζ.1 27 3))))
def g_X6_takeNumber_81  (ζ : ZS) : Option (Int × ZS) :=
    some ((-1), ζ)
def g_X6_takeNumber_49  (ζ : ZS) : Option (Int × ZS) :=
    (g_X6_wrong 4 ζ).bind fun q1 =>
    g_X6_takeNumber_81 q1
def g_X6_takeNumber (z1 : Int) (z2 : Int) (z3 : Int) (ζ : ZS) : Option (Int × ZS) :=
    gI (ζ.1 29 2) 0 ((ζ.1 29 2) = 0) (
      (g_X8_number ζ).bind fun q1 =>
      gI (q1.2.1 27 2) 2 ((q1.2.1 27 2) = 2) (
        gI q1.1 z1 (q1.1 < z1) (
          g_X6_takeNumber_49 q1.2) (
          gI q1.1 z2 (q1.1 ≤ z2) (
            gI q1.1 z3 (q1.1 = z3) (
              (g_X6_wrong 3 q1.2).bind fun q3 =>
              g_X6_takeNumber_81 q3) (
              (g_X8_step q1.2).bind fun q2 =>
              some (q1.1, q2))) (
            g_X6_takeNumber_49 q1.2))) (
        (g_X6_wrong 1 q1.2).bind fun q4 =>
        g_X6_takeNumber_81 q4)) (
      some ((-1), ζ))
def g_X6_takeFreshMeasure_46  (ζ : ZS) : Option (Int × ZS) :=
    (g_X6_takeNumber 0 ((ζ.1 29 1) - 1) (-1) ζ).bind fun q1 =>
    some (q1.1, q1.2)
def g_X6_takeFreshMeasure (c1 : Nat) (ζ : ZS) : Option (Int × ZS) :=
    (g_X8_number ζ).bind fun q1 =>
    gI (q1.2.1 29 2) 0 ((q1.2.1 29 2) = 0) (
      gI (q1.2.1 27 2) 2 ((q1.2.1 27 2) = 2) (
        gI (q1.2.1 29 1) q1.1 ((q1.2.1 29 1) ≤ q1.1) (
          g_X6_takeFreshMeasure_46 q1.2) (
          gk q1.1 (ln c1) (
          gI (q1.2.1 c1 (Int.toNat q1.1)) (-1) ((q1.2.1 c1 (Int.toNat q1.1)) = (-1)) (
            g_X6_takeFreshMeasure_46 q1.2) (
            (g_X6_wrong 3 q1.2).bind fun q3 =>
            g_X6_takeFreshMeasure_46 q3)))) (
        g_X6_takeFreshMeasure_46 q1.2)) (
      g_X6_takeFreshMeasure_46 q1.2)
def g_X6_readLess_30  (ζ : ZS) : Option ZS :=
    some ζ
def g_X6_readLess (c1 : Nat) (ζ : ZS) : Option ZS :=
    (g_X8_step ζ).bind fun q1 =>
    (g_X6_takeFreshMeasure (c1 + 1) q1).bind fun q2 =>
    gI (q2.2.1 29 2) 0 ((q2.2.1 29 2) = 0) (
      gk q2.1 4 (
      g_X6_readLess_30 (zI q2.2 (c1 + 1) (Int.toNat q2.1) 1))) (
      g_X6_readLess_30 q2.2)
def g_X6_readLimit_33  (ζ : ZS) : Option ZS :=
    some ζ
def g_X6_readLimit (c1 : Nat) (ζ : ZS) : Option ZS :=
    (g_X8_step ζ).bind fun q1 =>
    (g_X6_takeFreshMeasure c1 q1).bind fun q2 =>
    (g_X6_takeNumber 0 100 (-1) q2.2).bind fun q3 =>
    gI (q3.2.1 29 2) 0 ((q3.2.1 29 2) = 0) (
      gk q2.1 (ln c1) (
      g_X6_readLimit_33 (zI q3.2 c1 (Int.toNat q2.1) q3.1))) (
      g_X6_readLimit_33 q3.2)
def g_X8_person_32  (ζ : ZS) : Option (Int × ZS) :=
    some ((-1), ζ)
def g_X8_person_58 (zs0 : Int) (ζ : ZS) : Option (Int × ZS) :=
    some (zs0, ζ)
def g_X8_person  (ζ : ZS) : Option (Int × ZS) :=
    gI (ζ.1 27 2) 1 ((ζ.1 27 2) = 1) (
      gI ((ζ.1 27 4) - (ζ.1 27 3)) 1 (((ζ.1 27 4) - (ζ.1 27 3)) = 1) (
        gI (ζ.1 27 3) (ζ.1 27 1) ((ζ.1 27 3) < (ζ.1 27 1)) (
          gk (ζ.1 27 3) 1000 (
          gI 8 ((ζ.1 28 (Int.toNat (ζ.1 27 3))) - 97) (8 ≤ ((ζ.1 28 (Int.toNat (ζ.1 27 3))) - 97)) (
            g_X8_person_58 (-1) ζ) (
            g_X8_person_58 ((ζ.1 28 (Int.toNat (ζ.1 27 3))) - 97) ζ))) (
          g_X8_person_32 ζ)) (
        g_X8_person_32 ζ)) (
      g_X8_person_32 ζ)
def g_X6_readPair_52  (ζ : ZS) : Option ZS :=
    some ζ
def g_X6_readPair (c1 : Nat) (z2 : Int) (z3 : Int) (z4 : Int) (z5 : Int) (ζ : ZS) : Option ZS :=
    (g_X8_step ζ).bind fun q1 =>
    (g_X6_takeNumber 0 (z4 - 1) (-1) q1).bind fun q2 =>
    (g_X6_takeNumber 0 (z4 - 1) q2.1 q2.2).bind fun q3 =>
    gI (q3.2.1 29 2) 0 ((q3.2.1 29 2) = 0) (
      (g_X0_say c1 z2 z3 q2.1 q3.1 1 z5 q3.2).bind fun q4 =>
      g_X6_readPair_52 q4) (
      g_X6_readPair_52 q3.2)
def g_X6_readStep_75  (ζ : ZS) : Option ZS :=
    some ζ
def g_X6_readStep (c1 : Nat) (z2 : Int) (ζ : ZS) : Option ZS :=
    (g_X8_step ζ).bind fun q1 =>
    (g_X6_takeNumber 1 100 (-1) q1).bind fun q2 =>
    (g_X6_takeNumber 0 ((q2.2.1 29 1) - 1) (-1) q2.2).bind fun q3 =>
    (g_X6_takeNumber 1 100 (-1) q3.2).bind fun q4 =>
    (g_X6_takeNumber 0 ((q4.2.1 29 1) - 1) q3.1 q4.2).bind fun q5 =>
    gI (q5.2.1 29 2) 0 ((q5.2.1 29 2) = 0) (
      (g_X0_say c1 z2 0 q3.1 q5.1 q2.1 q4.1 q5.2).bind fun q6 =>
      g_X6_readStep_75 q6) (
      g_X6_readStep_75 q5.2)
def g_X6_readBound_51  (ζ : ZS) : Option ZS :=
    some ζ
def g_X6_readBound (c1 : Nat) (z2 : Int) (z3 : Int) (ζ : ZS) : Option ZS :=
    (g_X8_step ζ).bind fun q1 =>
    (g_X6_takeNumber 0 ((q1.1 29 1) - 1) (-1) q1).bind fun q2 =>
    (g_X6_takeNumber 0 100 (-1) q2.2).bind fun q3 =>
    gI (q3.2.1 29 2) 0 ((q3.2.1 29 2) = 0) (
      (g_X0_say c1 z2 z3 q2.1 q2.1 q3.1 0 q3.2).bind fun q4 =>
      g_X6_readBound_51 q4) (
      g_X6_readBound_51 q3.2)
def g_X6_takeSemicolon_34  (ζ : ZS) : Option ZS :=
    some ζ
def g_X6_takeSemicolon  (ζ : ZS) : Option ZS :=
    gI (ζ.1 29 2) 0 ((ζ.1 29 2) = 0) (
      gI (ζ.1 27 2) 3 ((ζ.1 27 2) = 3) (
        (g_X8_step ζ).bind fun q2 =>
        g_X6_takeSemicolon_34 q2) (
        (g_X6_wrong 1 ζ).bind fun q1 =>
        g_X6_takeSemicolon_34 q1)) (
      some ζ)
def g_X7_open_49 (zs0 : Int) (ζ : ZS) : Option ZS :=
    some (zI (zI ζ 144 4 zs0) 144 5 ((zI ζ 144 4 zs0).1 144 1))
def g_X7_open (z1 : Int) (z2 : Int) (z3 : Int) (z4 : Int) (ζ : ZS) : Option ZS :=
    gI ((zI (zI (zI (zI ζ 144 0 (z1 - 1)) 144 2 z3) 144 3 z4) 144 1 ((z2 - ((zI (zI (zI ζ 144 0 (z1 - 1)) 144 2 z3) 144 3 z4).1 144 2)) - ((zI (zI (zI ζ 144 0 (z1 - 1)) 144 2 z3) 144 3 z4).1 144 3))).1 144 0) 0 (((zI (zI (zI (zI ζ 144 0 (z1 - 1)) 144 2 z3) 144 3 z4) 144 1 ((z2 - ((zI (zI (zI ζ 144 0 (z1 - 1)) 144 2 z3) 144 3 z4).1 144 2)) - ((zI (zI (zI ζ 144 0 (z1 - 1)) 144 2 z3) 144 3 z4).1 144 3))).1 144 0) = 0) (
      g_X7_open_49 ((zI (zI (zI (zI ζ 144 0 (z1 - 1)) 144 2 z3) 144 3 z4) 144 1 ((z2 - ((zI (zI (zI ζ 144 0 (z1 - 1)) 144 2 z3) 144 3 z4).1 144 2)) - ((zI (zI (zI ζ 144 0 (z1 - 1)) 144 2 z3) 144 3 z4).1 144 3))).1 144 1) (zI (zI (zI (zI ζ 144 0 (z1 - 1)) 144 2 z3) 144 3 z4) 144 1 ((z2 - ((zI (zI (zI ζ 144 0 (z1 - 1)) 144 2 z3) 144 3 z4).1 144 2)) - ((zI (zI (zI ζ 144 0 (z1 - 1)) 144 2 z3) 144 3 z4).1 144 3)))) (
      g_X7_open_49 0 (zI (zI (zI (zI ζ 144 0 (z1 - 1)) 144 2 z3) 144 3 z4) 144 1 ((z2 - ((zI (zI (zI ζ 144 0 (z1 - 1)) 144 2 z3) 144 3 z4).1 144 2)) - ((zI (zI (zI ζ 144 0 (z1 - 1)) 144 2 z3) 144 3 z4).1 144 3))))
def g_X7_narrow_98  (ζ : ZS) : Option ZS :=
    some ζ
def g_X7_narrow (c1 : Nat) (ζ : ZS) : Option ZS :=
    gk 0 (ln c1) (
    gk (ζ.1 144 0) (ln c1) (
    gk 1 (ln c1) (
    gk 2 (ln c1) (
    gk (ζ.1 144 0) (ln c1) (
    gI ((ζ.1 c1 (Int.toNat 0)) - (ζ.1 c1 (Int.toNat (ζ.1 144 0)))) 0 (((ζ.1 c1 (Int.toNat 0)) - (ζ.1 c1 (Int.toNat (ζ.1 144 0)))) ≤ 0) (
      gI 0 ((ζ.1 c1 (Int.toNat 0)) - (ζ.1 c1 (Int.toNat (ζ.1 144 0)))) (0 ≤ ((ζ.1 c1 (Int.toNat 0)) - (ζ.1 c1 (Int.toNat (ζ.1 144 0))))) (
        gI 0 ((((ζ.1 c1 (Int.toNat 1)) * (ζ.1 144 2)) + ((ζ.1 c1 (Int.toNat 2)) * (ζ.1 144 3))) + ((ζ.1 c1 (Int.toNat (ζ.1 144 0))) * (ζ.1 144 1))) (0 ≤ ((((ζ.1 c1 (Int.toNat 1)) * (ζ.1 144 2)) + ((ζ.1 c1 (Int.toNat 2)) * (ζ.1 144 3))) + ((ζ.1 c1 (Int.toNat (ζ.1 144 0))) * (ζ.1 144 1)))) (
          g_X7_narrow_98 ζ) (
          g_X7_narrow_98 (zI ζ 144 5 (-1)))) (
        (g_J9_floorDiv_7cf53 ((((ζ.1 c1 (Int.toNat 1)) * (ζ.1 144 2)) + ((ζ.1 c1 (Int.toNat 2)) * (ζ.1 144 3))) + ((ζ.1 c1 (Int.toNat (ζ.1 144 0))) * (ζ.1 144 1))) (-((ζ.1 c1 (Int.toNat 0)) - (ζ.1 c1 (Int.toNat (ζ.1 144 0))))) ζ).bind fun q7 =>
        (g_J9_min_7cf53 (ζ.1 144 5) q7.1 q7.2).bind fun q8 =>
        g_X7_narrow_98 (zI q8.2 144 5 q8.1))) (
      (g_J9_floorDiv_7cf53 ((((ζ.1 c1 (Int.toNat 1)) * (ζ.1 144 2)) + ((ζ.1 c1 (Int.toNat 2)) * (ζ.1 144 3))) + ((ζ.1 c1 (Int.toNat (ζ.1 144 0))) * (ζ.1 144 1))) ((ζ.1 c1 (Int.toNat 0)) - (ζ.1 c1 (Int.toNat (ζ.1 144 0)))) ζ).bind fun q10 =>
      (g_J9_max_7cf53 (ζ.1 144 4) (-q10.1) q10.2).bind fun q11 =>
      g_X7_narrow_98 (zI q11.2 144 4 q11.1)))))))
def g_X7_narrowBy_23 (r2 : Int → ZS → Option ZS) (c1 : Nat) (z2 : Int) (z3 : Int) (ζ : ZS) : Option ZS :=
    r2 (z3 + 1) ζ
def g_X7_narrowBy_2 (c1 : Nat) (z2 : Int) : Nat → Int → ZS → Option ZS
  | 0, _, _ => none
  | n + 1, z3, ζ =>
    gI ((ln c1 : Nat) : Int) z3 (((ln c1 : Nat) : Int) ≤ z3) (
      some ζ) (
      gI (zand z2 (zshl 1 z3)) 0 ((zand z2 (zshl 1 z3)) = 0) (
        g_X7_narrowBy_23 (g_X7_narrowBy_2 c1 z2 n) c1 z2 z3 ζ) (
        gk z3 (ln c1) (
        (g_X7_narrow (c1 + 1 + Int.toNat z3) ζ).bind fun q2 =>
        g_X7_narrowBy_23 (g_X7_narrowBy_2 c1 z2 n) c1 z2 z3 q2)))
def g_X7_narrowBy (c1 : Nat) (z2 : Int) (ζ : ZS) : Option ZS :=
    g_X7_narrowBy_2 c1 z2 FU 0 ζ
def g_X7_width  (ζ : ZS) : Option (Int × ZS) :=
    (g_J9_max_7cf53 0 (((ζ.1 144 5) - (ζ.1 144 4)) + 1) ζ).bind fun q1 =>
    some (q1.1, q1.2)
def g_X8_put_82 (r3 : Int → ZS → Option ZS) (z1 : Int) (z3 : Int) (ζ : ZS) : Option ZS :=
    r3 (z3 + (-8)) ζ
def g_X8_put_43 (r3 : Int → ZS → Option ZS) (z1 : Int) (z3 : Int) (z4 : Int) (zs0 : Int) (ζ : ZS) : Option ZS :=
    gI zs0 0 (zs0 = 0) (
      g_X8_put_82 r3 z1 z3 ζ) (
      gI 1000 (ζ.1 27 1) (1000 ≤ (ζ.1 27 1)) (
        g_X8_put_82 r3 z1 z3 ζ) (
        gk (ζ.1 27 1) 1000 (
        g_X8_put_82 r3 z1 z3 (zI (zI ζ 28 (Int.toNat (ζ.1 27 1)) (zbyt (zi2b z4))) 27 1 (((zI ζ 28 (Int.toNat (ζ.1 27 1)) (zbyt (zi2b z4))).1 27 1) + 1)))))
def g_X8_put_38 (r3 : Int → ZS → Option ZS) (z1 : Int) (z3 : Int) (z4 : Int) (ζ : ZS) : Option ZS :=
    g_X8_put_43 r3 z1 z3 z4 1 ζ
def g_X8_put_42 (r3 : Int → ZS → Option ZS) (z1 : Int) (z3 : Int) (z4 : Int) (ζ : ZS) : Option ZS :=
    g_X8_put_43 r3 z1 z3 z4 0 ζ
def g_X8_put_3 (z1 : Int) : Nat → Int → ZS → Option ZS
  | 0, _, _ => none
  | n + 1, z3, ζ =>
    gI z3 0 (z3 < 0) (
      some ζ) (
      gI (zand (zlur z1 z3) 255) 10 ((zand (zlur z1 z3) 255) = 10) (
        g_X8_put_38 (g_X8_put_3 z1 n) z1 z3 (zand (zlur z1 z3) 255) ζ) (
        gI (zand (zlur z1 z3) 255) 32 ((zand (zlur z1 z3) 255) < 32) (
          g_X8_put_42 (g_X8_put_3 z1 n) z1 z3 (zand (zlur z1 z3) 255) ζ) (
          gI 126 (zand (zlur z1 z3) 255) (126 < (zand (zlur z1 z3) 255)) (
            g_X8_put_42 (g_X8_put_3 z1 n) z1 z3 (zand (zlur z1 z3) 255) ζ) (
            g_X8_put_38 (g_X8_put_3 z1 n) z1 z3 (zand (zlur z1 z3) 255) ζ))))
def g_X8_put (z1 : Int) (ζ : ZS) : Option ZS :=
    g_X8_put_3 z1 FU 56 ζ
def g_X9_tell_2 (z1 : Int) (c2 : Nat) : Nat → Int → ZS → Option ZS
  | 0, _, _ => none
  | n + 1, z3, ζ =>
    gI 4 z3 (4 ≤ z3) (
      some (zI ζ 30 3 (zor (ζ.1 30 3) (zshl 1 z1)))) (
      gk z1 8 (
      gk z3 (ln c2) (
      gk z3 4 (
      (g_X9_tell_2 z1 c2 n) (z3 + 1) (zI ζ (31 + 1 + Int.toNat z1) (Int.toNat z3) (ζ.1 c2 (Int.toNat z3)))))))
def g_X9_tell (z1 : Int) (c2 : Nat) (ζ : ZS) : Option ZS :=
    g_X9_tell_2 z1 c2 FU 0 ζ
def g_X9_valueBy_126 (r10 : Int → ZS → Option ZS) (r19 : Int → ZS → Option ZS) (c1 : Nat) (z2 : Int) (z3 : Int) (z4 : Int) (zs0 : Int) (zs1 : Int) (cs2 : Nat) (ζ : ZS) : Option ZS :=
    gk zs1 (ln cs2) (
    r19 (z4 + 1) (zI ζ cs2 (Int.toNat zs1) zs0))
def g_X9_valueBy_90 (r10 : Int → ZS → Option ZS) (r19 : Int → ZS → Option ZS) (c1 : Nat) (z2 : Int) (z3 : Int) (z4 : Int) (z5 : Int) (ζ : ZS) : Option ZS :=
    gk z3 8 (
    gk z4 4 (
    gI (ζ.1 (c1 + 2) (Int.toNat z4)) (-1) ((ζ.1 (c1 + 2) (Int.toNat z4)) = (-1)) (
      g_X9_valueBy_126 r10 r19 c1 z2 z3 z4 z5 z4 (40 + 1 + Int.toNat z3) ζ) (
      gk z4 4 (
      (g_J9_min_7cf53 z5 (ζ.1 (c1 + 2) (Int.toNat z4)) ζ).bind fun q4 =>
      g_X9_valueBy_126 r10 r19 c1 z2 z3 z4 q4.1 z4 (40 + 1 + Int.toNat z3) q4.2))))
def g_X9_valueBy_64 (r10 : Int → ZS → Option ZS) (r19 : Int → ZS → Option ZS) (c1 : Nat) (z2 : Int) (z3 : Int) (z4 : Int) (z5 : Int) (ζ : ZS) : Option ZS :=
    gk z4 4 (
    gI (ζ.1 (c1 + 3) (Int.toNat z4)) z5 ((ζ.1 (c1 + 3) (Int.toNat z4)) ≤ z5) (
      g_X9_valueBy_90 r10 r19 c1 z2 z3 z4 z5 ζ) (
      g_X9_valueBy_90 r10 r19 c1 z2 z3 z4 z5 (zI ζ 30 4 (zand (ζ.1 30 4) (zxor (zshl 1 z3) (-1))))))
def g_X9_valueBy_44 (r10 : Int → ZS → Option ZS) (r19 : Int → ZS → Option ZS) (c1 : Nat) (z2 : Int) (z3 : Int) (z4 : Int) (zs0 : Int) (ζ : ZS) : Option ZS :=
    gk z4 4 (
    gI (ζ.1 (c1 + 1) (Int.toNat z4)) (-1) ((ζ.1 (c1 + 1) (Int.toNat z4)) = (-1)) (
      g_X9_valueBy_64 r10 r19 c1 z2 z3 z4 zs0 ζ) (
      g_X9_valueBy_64 r10 r19 c1 z2 z3 z4 (100 - zs0) ζ))
def g_X9_valueBy_19 (c1 : Nat) (z2 : Int) (z3 : Int) (r10 : Int → ZS → Option ZS) : Nat → Int → ZS → Option ZS
  | 0, _, _ => none
  | n + 1, z4, ζ =>
    gI 4 z4 (4 ≤ z4) (
      r10 (z3 + 1) ζ) (
      gI z2 z4 (z2 ≤ z4) (
        g_X9_valueBy_44 r10 (g_X9_valueBy_19 c1 z2 z3 r10 n) c1 z2 z3 z4 0 ζ) (
        gk z3 8 (
        gk z4 4 (
        g_X9_valueBy_44 r10 (g_X9_valueBy_19 c1 z2 z3 r10 n) c1 z2 z3 z4 (ζ.1 (31 + 1 + Int.toNat z3) (Int.toNat z4)) ζ))))
def g_X9_valueBy_10 (c1 : Nat) (z2 : Int) : Nat → Int → ZS → Option ZS
  | 0, _, _ => none
  | n + 1, z3, ζ =>
    gI 8 z3 (8 ≤ z3) (
      some ζ) (
      g_X9_valueBy_19 c1 z2 z3 (g_X9_valueBy_10 c1 z2 n) FU 0 ζ)
def g_X9_valueBy (c1 : Nat) (z2 : Int) (ζ : ZS) : Option ZS :=
    g_X9_valueBy_10 c1 z2 FU 0 (zI ζ 30 4 (ζ.1 30 3))
def g_X9_topOf_2 (z1 : Int) (z2 : Int) : Nat → Int → ZS → Option (Int × ZS)
  | 0, _, _ => none
  | n + 1, z3, ζ =>
    gI 8 z3 (8 ≤ z3) (
      (g_X9_greatestOf z1 49 ζ).bind fun q1 =>
      some (q1.1, q1.2)) (
      gk z3 8 (
      gk z2 4 (
      gw (ζ.1 (40 + 1 + Int.toNat z3) (Int.toNat z2)) (
      gk z3 8 (
      (g_X9_topOf_2 z1 z2 n) (z3 + 1) (zJ ζ 49 (Int.toNat z3) (ζ.1 (40 + 1 + Int.toNat z3) (Int.toNat z2))))))))
def g_X9_topOf (z1 : Int) (z2 : Int) (ζ : ZS) : Option (Int × ZS) :=
    g_X9_topOf_2 z1 z2 FU 0 ζ
def g_X9_leastValue_6 (z1 : Int) (z2 : Int) : Nat → Int → Int → ZS → Option (Int × ZS)
  | 0, _, _, _ => none
  | n + 1, z3, z4, ζ =>
    gI z2 z4 (z2 ≤ z4) (
      some (z3, ζ)) (
      gk z1 8 (
      gk z4 4 (
      (g_J9_min_7cf53 z3 (ζ.1 (40 + 1 + Int.toNat z1) (Int.toNat z4)) ζ).bind fun q3 =>
      (g_X9_leastValue_6 z1 z2 n) q3.1 (z4 + 1) q3.2)))
def g_X9_leastValue (z1 : Int) (z2 : Int) (ζ : ZS) : Option (Int × ZS) :=
    g_X9_leastValue_6 z1 z2 FU 100 0 ζ
def g_X9_bestAtWorst_2 (z1 : Int) : Nat → Int → ZS → Option (Int × ZS)
  | 0, _, _ => none
  | n + 1, z2, ζ =>
    gI 8 z2 (8 ≤ z2) (
      (g_X9_greatestOf (ζ.1 30 4) 49 ζ).bind fun q1 =>
      some (q1.1, q1.2)) (
      (g_X9_leastValue z2 z1 ζ).bind fun q2 =>
      gw q2.1 (
      gk z2 8 (
      (g_X9_bestAtWorst_2 z1 n) (z2 + 1) (zJ q2.2 49 (Int.toNat z2) q2.1))))
def g_X9_bestAtWorst (z1 : Int) (ζ : ZS) : Option (Int × ZS) :=
    g_X9_bestAtWorst_2 z1 FU 0 ζ
def g_X10_theyCan_15 (zs0 : Int) (ζ : ZS) : Option (Int × ZS) :=
    gz zs0 (some (zs0, ζ))
def g_X10_theyCan  (ζ : ZS) : Option (Int × ZS) :=
    gI (ζ.1 68 5) 0 ((ζ.1 68 5) ≤ 0) (
      g_X10_theyCan_15 0 ζ) (
      g_X10_theyCan_15 1 ζ)
def g_X10_cutBy_57 (r17 : Int → Int → ZS → Option (Nat × ZS)) (z1 : Int) (z2 : Int) (z3 : Int) (ζ : ZS) : Option (Nat × ZS) :=
    r17 z2 (z3 + 1) ζ
def g_X10_cutBy_17 (z1 : Int) : Nat → Int → Int → ZS → Option (Nat × ZS)
  | 0, _, _, _ => none
  | n + 1, z2, z3, ζ =>
    gI 12 z3 (12 ≤ z3) (
      gk z2 13 (
      some (73 + 4 * Int.toNat z2, ζ))) (
      gI (zand z1 (zshl 1 z3)) 0 ((zand z1 (zshl 1 z3)) = 0) (
        g_X10_cutBy_57 (g_X10_cutBy_17 z1 n) z1 z2 z3 ζ) (
        gk (z2 + 1) 13 (
        gk z2 13 (
        gk z3 12 (
        (g_X1_becomeCut (73 + 4 * Int.toNat (z2 + 1)) (73 + 4 * Int.toNat z2) (51 + 1 + Int.toNat z3) ζ).bind fun q5 =>
        g_X10_cutBy_57 (g_X10_cutBy_17 z1 n) z1 (z2 + 1) z3 q5)))))
def g_X10_cutBy (z1 : Int) (ζ : ZS) : Option (Nat × ZS) :=
    gk 0 13 (
    (g_X1_become (73 + 4 * Int.toNat 0) 64 ζ).bind fun q2 =>
    g_X10_cutBy_17 z1 FU 0 0 q2)
def g_X10_workOut_3 (c1 : Nat) (z3 : Int) (z4 : Int) : Nat → Int → ZS → Option ZS
  | 0, _, _ => none
  | n + 1, z5, ζ =>
    gI (ζ.1 c1 9) z5 ((ζ.1 c1 9) ≤ z5) (
      (g_X0_sayingsOf c1 z3 ζ).bind fun q1 =>
      (g_X1_becomeWhole 64 z4 (zI q1.2 50 4 q1.1)).bind fun q3 =>
      (g_X10_cutBy (q3.1 50 4) q3).bind fun q4 =>
      rk (some q4.1) 1 fun c105 =>
      (g_X1_become 68 c105 q4.2).bind fun q6 =>
      (g_X1_sort 68 q6).bind fun q7 =>
      some q7) (
      gk z5 12 (
      (g_X0_fillRow c1 z5 (51 + 1 + Int.toNat z5) z4 ζ).bind fun q9 =>
      (g_X10_workOut_3 c1 z3 z4 n) (z5 + 1) q9))
def g_X10_workOut (c1 : Nat) (z3 : Int) (z4 : Int) (ζ : ZS) : Option ZS :=
    g_X10_workOut_3 c1 z3 z4 FU 0 ζ
def g_X11_beginWith (z1 : Int) (ζ : ZS) : Option ZS :=
    rk ((zI (zI ζ 26 16 z1) 30 3 0).2.2 26 14) 0 fun c103 =>
    (g_X0_clear c103 (zI (zI ζ 26 16 z1) 30 3 0)).bind fun q4 =>
    some (zI (zI (zI q4 26 13 0) 26 17 255) 26 18 1)
def g_X11_measures_10  (ζ : ZS) : Option (Int × ZS) :=
    some (0, ζ)
def g_X11_measures (z1 : Int) (ζ : ZS) : Option (Int × ZS) :=
    gI z1 1 (z1 < 1) (
      g_X11_measures_10 ζ) (
      gI z1 4 (z1 ≤ 4) (
        (g_X11_beginWith z1 ζ).bind fun q1 =>
        some (1, q1)) (
        g_X11_measures_10 ζ))
def g_X11_takeGiven_80  (ζ : ZS) : Option (Int × ZS) :=
    some (0, ζ)
def g_X11_takeGiven_82 (r32 : Int → ZS → Option (Int × ZS)) (z5 : Int) (z6 : Int) (ζ : ZS) : Option (Int × ZS) :=
    r32 (z6 + 1) ζ
def g_X11_takeGiven_32 (z5 : Int) : Nat → Int → ZS → Option (Int × ZS)
  | 0, _, _ => none
  | n + 1, z6, ζ =>
    gI 4 z6 (4 ≤ z6) (
      some (1, ζ)) (
      gI z6 (ζ.1 26 16) (z6 < (ζ.1 26 16)) (
        gk z6 4 (
        gI (ζ.1 146 (Int.toNat z6)) 0 ((ζ.1 146 (Int.toNat z6)) < 0) (
          g_X11_takeGiven_80 ζ) (
          gk z6 4 (
          gI (ζ.1 146 (Int.toNat z6)) z5 ((ζ.1 146 (Int.toNat z6)) ≤ z5) (
            g_X11_takeGiven_82 (g_X11_takeGiven_32 z5 n) z5 z6 ζ) (
            g_X11_takeGiven_80 ζ))))) (
        gk z6 4 (
        g_X11_takeGiven_82 (g_X11_takeGiven_32 z5 n) z5 z6 (zI ζ 146 (Int.toNat z6) 0))))
def g_X11_takeGiven (z1 : Int) (z2 : Int) (z3 : Int) (z4 : Int) (z5 : Int) (ζ : ZS) : Option (Int × ZS) :=
    gk 0 4 (
    gk 1 4 (
    gk 2 4 (
    gk 3 4 (
    g_X11_takeGiven_32 z5 FU 0 (zI (zI (zI (zI ζ 146 (Int.toNat 0) z1) 146 (Int.toNat 1) z2) 146 (Int.toNat 2) z3) 146 (Int.toNat 3) z4)))))
def g_X11_thing_25  (ζ : ZS) : Option (Int × ZS) :=
    some (0, ζ)
def g_X11_thing (z1 : Int) (z2 : Int) (z3 : Int) (z4 : Int) (z5 : Int) (ζ : ZS) : Option (Int × ZS) :=
    gI z1 0 (z1 < 0) (
      g_X11_thing_25 ζ) (
      gI 8 z1 (8 ≤ z1) (
        g_X11_thing_25 ζ) (
        (g_X11_takeGiven z2 z3 z4 z5 100 ζ).bind fun q1 =>
        gI q1.1 0 (q1.1 = 0) (
          g_X11_thing_25 q1.2) (
          (g_X9_tell z1 146 q1.2).bind fun q2 =>
          some (1, zI q2 26 18 1))))
def g_X11_drop (z1 : Int) (ζ : ZS) : Option (Int × ZS) :=
    (g_X9_isTold z1 ζ).bind fun q1 =>
    gI q1.1 0 (q1.1 = 0) (
      some (0, q1.2)) (
      some (1, zI (zI q1.2 30 3 (zand (q1.2.1 30 3) (zxor (zshl 1 z1) (-1)))) 26 18 1))
def g_X11_feed (z1 : Int) (z3 : Int) (z5 : Int) (ζ : ZS) : Option (Int × ZS) :=
    (g_X8_put z1 ζ).bind fun q1 =>
    (g_X8_put z3 q1).bind fun q2 =>
    (g_X8_put z5 q2).bind fun q3 =>
    some (q3.1 27 1, q3)
def g_X11_voices_11  (ζ : ZS) : Option (Int × ZS) :=
    some (0, ζ)
def g_X11_voices (z1 : Int) (ζ : ZS) : Option (Int × ZS) :=
    gI z1 0 (z1 < 0) (
      g_X11_voices_11 ζ) (
      gI z1 255 (z1 ≤ 255) (
        some (1, zI (zI ζ 26 17 z1) 26 18 1)) (
        g_X11_voices_11 ζ))
def g_X11_freshen_50  (ζ : ZS) : Option ZS :=
    some ζ
def g_X11_freshen  (ζ : ZS) : Option ZS :=
    gI (ζ.1 26 18) 0 ((ζ.1 26 18) = 0) (
      g_X11_freshen_50 ζ) (
      rk (ζ.2.2 26 14) 0 fun c101 =>
      (g_X9_valueBy c101 (ζ.1 26 16) ζ).bind fun q2 =>
      rk (q2.2.2 26 14) 0 fun c103 =>
      (g_X10_workOut c103 (q2.1 26 17) (q2.1 26 16) q2).bind fun q4 =>
      g_X11_freshen_50 (zI q4 26 18 0))
def g_X11_standing_33 (zs0 : Int) (ζ : ZS) : Option (Int × ZS) :=
    some (zs0, ζ)
def g_X11_standing (z1 : Int) (ζ : ZS) : Option (Int × ZS) :=
    (g_X11_freshen ζ).bind fun q1 =>
    (g_X9_isTold z1 q1).bind fun q2 =>
    gI q2.1 0 (q2.1 = 0) (
      some ((-1), q2.2)) (
      (g_X9_isIn z1 q2.2).bind fun q3 =>
      gI q3.1 0 (q3.1 = 0) (
        g_X11_standing_33 0 q3.2) (
        g_X11_standing_33 1 q3.2))
def g_X11_sumOfGiven  (ζ : ZS) : Option (Int × ZS) :=
    gk 0 4 (
    gk 1 4 (
    gk 2 4 (
    gk 3 4 (
    some ((((ζ.1 146 (Int.toNat 0)) + (ζ.1 146 (Int.toNat 1))) + (ζ.1 146 (Int.toNat 2))) + (ζ.1 146 (Int.toNat 3)), ζ)))))
def g_X11_takeWeights_27 (zs0 : Int) (ζ : ZS) : Option (Int × ZS) :=
    gz zs0 (some (zs0, ζ))
def g_X11_takeWeights_26  (ζ : ZS) : Option (Int × ZS) :=
    g_X11_takeWeights_27 0 ζ
def g_X11_takeWeights (z1 : Int) (z2 : Int) (z3 : Int) (z4 : Int) (ζ : ZS) : Option (Int × ZS) :=
    (g_X11_takeGiven z1 z2 z3 z4 999 ζ).bind fun q1 =>
    gI q1.1 0 (q1.1 = 0) (
      g_X11_takeWeights_26 q1.2) (
      (g_X11_sumOfGiven q1.2).bind fun q2 =>
      gI q2.1 0 (q2.1 ≤ 0) (
        g_X11_takeWeights_26 q2.2) (
        g_X11_takeWeights_27 1 q2.2))
def g_X11_isPart_14 (zs0 : Int) (ζ : ZS) : Option (Int × ZS) :=
    gz zs0 (some (zs0, ζ))
def g_X11_isPart_9  (ζ : ZS) : Option (Int × ZS) :=
    g_X11_isPart_14 1 ζ
def g_X11_isPart (z0 : Int) (ζ : ZS) : Option (Int × ZS) :=
    gI z0 0 (z0 = 0) (
      g_X11_isPart_9 ζ) (
      gI z0 1 (z0 = 1) (
        g_X11_isPart_9 ζ) (
        g_X11_isPart_14 0 ζ))
def g_X11_productWithGiven (c1 : Nat) (ζ : ZS) : Option (Int × ZS) :=
    gk 0 (ln c1) (
    gk 0 4 (
    gk 1 (ln c1) (
    gk 1 4 (
    gk 2 (ln c1) (
    gk 2 4 (
    gk 3 (ln c1) (
    gk 3 4 (
    some (((((ζ.1 c1 (Int.toNat 0)) * (ζ.1 146 (Int.toNat 0))) + ((ζ.1 c1 (Int.toNat 1)) * (ζ.1 146 (Int.toNat 1)))) + ((ζ.1 c1 (Int.toNat 2)) * (ζ.1 146 (Int.toNat 2)))) + ((ζ.1 c1 (Int.toNat 3)) * (ζ.1 146 (Int.toNat 3))), ζ)))))))))
def g_X11_good_36  (ζ : ZS) : Option (Int × ZS) :=
    some ((-1), ζ)
def g_X11_good (z1 : Int) (z2 : Int) (z3 : Int) (z4 : Int) (z5 : Int) (z6 : Int) (ζ : ZS) : Option (Int × ZS) :=
    (g_X11_freshen ζ).bind fun q1 =>
    (g_X9_isTold z1 q1).bind fun q2 =>
    gI q2.1 0 (q2.1 = 0) (
      g_X11_good_36 q2.2) (
      (g_X11_takeWeights z2 z3 z4 z5 q2.2).bind fun q3 =>
      gI q3.1 0 (q3.1 = 0) (
        g_X11_good_36 q3.2) (
        (g_X11_isPart z6 q3.2).bind fun q4 =>
        gI q4.1 0 (q4.1 = 0) (
          g_X11_good_36 q4.2) (
          gk z1 8 (
          (g_X11_productWithGiven (40 + 1 + Int.toNat z1) q4.2).bind fun q6 =>
          gw q6.1 (
          (g_X11_sumOfGiven q6.2).bind fun q8 =>
          gw q8.1 (
          (g_X3_become q6.1 q8.1 q8.2).bind fun q10 =>
          (g_X3_reduce q10).bind fun q11 =>
          (g_X3_part z6 q11).bind fun q12 =>
          some (q12.1, q12.2)))))))
def g_X11_fits_62 (r21 : Int → ZS → Option (Int × ZS)) (z5 : Int) (ζ : ZS) : Option (Int × ZS) :=
    r21 (z5 + 1) ζ
def g_X11_fits_21  : Nat → Int → ZS → Option (Int × ZS)
  | 0, _, _ => none
  | n + 1, z5, ζ =>
    gI 12 z5 (12 ≤ z5) (
      some (1, ζ)) (
      gI (zand (ζ.1 50 4) (zshl 1 z5)) 0 ((zand (ζ.1 50 4) (zshl 1 z5)) = 0) (
        g_X11_fits_62 (g_X11_fits_21 n) z5 ζ) (
        gk z5 12 (
        (g_X11_productWithGiven (51 + 1 + Int.toNat z5) ζ).bind fun q2 =>
        gI 0 q2.1 (0 ≤ q2.1) (
          g_X11_fits_62 (g_X11_fits_21 n) z5 q2.2) (
          some (0, q2.2)))))
def g_X11_fits (z1 : Int) (z2 : Int) (z3 : Int) (z4 : Int) (ζ : ZS) : Option (Int × ZS) :=
    (g_X11_freshen ζ).bind fun q1 =>
    (g_X11_takeWeights z1 z2 z3 z4 q1).bind fun q2 =>
    gI q2.1 0 (q2.1 = 0) (
      some ((-1), q2.2)) (
      g_X11_fits_21 FU 0 q2.2)
def g_X11_hasMeasure_17 (zs0 : Int) (ζ : ZS) : Option (Int × ZS) :=
    gz zs0 (some (zs0, ζ))
def g_X11_hasMeasure_16  (ζ : ZS) : Option (Int × ZS) :=
    g_X11_hasMeasure_17 0 ζ
def g_X11_hasMeasure (z1 : Int) (ζ : ZS) : Option (Int × ZS) :=
    gI z1 0 (z1 < 0) (
      g_X11_hasMeasure_16 ζ) (
      gI (ζ.1 26 16) z1 ((ζ.1 26 16) ≤ z1) (
        g_X11_hasMeasure_16 ζ) (
        g_X11_hasMeasure_17 1 ζ))
def g_X11_corner_30  (ζ : ZS) : Option (Int × ZS) :=
    some ((-1), ζ)
def g_X11_corner (z1 : Int) (z2 : Int) (ζ : ZS) : Option (Int × ZS) :=
    (g_X11_freshen ζ).bind fun q1 =>
    gI z1 0 (z1 < 0) (
      g_X11_corner_30 q1) (
      gI (q1.1 68 5) z1 ((q1.1 68 5) ≤ z1) (
        g_X11_corner_30 q1) (
        (g_X11_hasMeasure z2 q1).bind fun q2 =>
        gI q2.1 0 (q2.1 = 0) (
          g_X11_corner_30 q2.2) (
          (g_X1_weight 68 z1 z2 q2.2).bind fun q3 =>
          some (q3.1, q3.2))))
def g_X11_sizeOrSet_18 (zs0 : Int) (ζ : ZS) : Option (Int × ZS) :=
    some (zs0, ζ)
def g_X11_sizeOrSet_10 (z0 : Int) (ζ : ZS) : Option (Int × ZS) :=
    g_X11_sizeOrSet_18 z0 ζ
def g_X11_sizeOrSet (z0 : Int) (z1 : Int) (ζ : ZS) : Option (Int × ZS) :=
    gI z0 (-1) (z0 = (-1)) (
      g_X11_sizeOrSet_10 z0 ζ) (
      gI z1 1 (z1 = 1) (
        g_X11_sizeOrSet_10 z0 ζ) (
        (g_J6_bitCount_0f7a4 z0 ζ).bind fun q1 =>
        g_X11_sizeOrSet_18 q1.1 q1.2))
def g_X11_small_21  (ζ : ZS) : Option (Int × ZS) :=
    some ((-1), ζ)
def g_X11_small (z1 : Int) (ζ : ZS) : Option (Int × ZS) :=
    (g_X11_freshen ζ).bind fun q1 =>
    (g_X11_isPart z1 q1).bind fun q2 =>
    gI q2.1 0 (q2.1 = 0) (
      g_X11_small_21 q2.2) (
      (g_X10_theyCan q2.2).bind fun q3 =>
      gI q3.1 0 (q3.1 = 0) (
        (g_X5_among 51 (q3.2.1 50 4) q3.2).bind fun q4 =>
        (g_X5_fewest 64 4 148 q4).bind fun q5 =>
        (g_X11_sizeOrSet q5.1 z1 q5.2).bind fun q6 =>
        some (q6.1, q6.2)) (
        g_X11_small_21 q3.2))
def g_X11_better (z1 : Int) (z2 : Int) (ζ : ZS) : Option (Int × ZS) :=
    (g_X11_freshen ζ).bind fun q1 =>
    (g_X4_compare 68 z1 z2 q1).bind fun q2 =>
    some (q2.1, q2.2)
def g_X11_best_21  (ζ : ZS) : Option (Int × ZS) :=
    some ((-1), ζ)
def g_X11_best_51 (zs0 : Int) (ζ : ZS) : Option (Int × ZS) :=
    some (zs0, ζ)
def g_X11_best (z1 : Int) (ζ : ZS) : Option (Int × ZS) :=
    (g_X11_freshen ζ).bind fun q1 =>
    (g_X11_isPart z1 q1).bind fun q2 =>
    gI q2.1 0 (q2.1 = 0) (
      g_X11_best_21 q2.2) (
      (g_X10_theyCan q2.2).bind fun q3 =>
      gI q3.1 0 (q3.1 = 0) (
        g_X11_best_21 q3.2) (
        gI z1 0 (z1 = 0) (
          (g_X4_mayBeBest q3.2).bind fun q5 =>
          g_X11_best_51 q5.1 q5.2) (
          (g_X4_surelyBest 68 q3.2).bind fun q4 =>
          g_X11_best_51 q4.1 q4.2)))
def g_X11_regret_32  (ζ : ZS) : Option (Int × ZS) :=
    some ((-1), ζ)
def g_X11_regret (z1 : Int) (z2 : Int) (ζ : ZS) : Option (Int × ZS) :=
    (g_X11_freshen ζ).bind fun q1 =>
    (g_X11_isPart z2 q1).bind fun q2 =>
    gI q2.1 0 (q2.1 = 0) (
      g_X11_regret_32 q2.2) (
      (g_X9_isIn z1 q2.2).bind fun q3 =>
      gI q3.1 0 (q3.1 = 0) (
        g_X11_regret_32 q3.2) (
        (g_X10_theyCan q3.2).bind fun q4 =>
        gI q4.1 0 (q4.1 = 0) (
          g_X11_regret_32 q4.2) (
          (g_X4_fillRegret z1 q4.2).bind fun q5 =>
          (g_X3_reduce q5).bind fun q6 =>
          (g_X3_part z2 q6).bind fun q7 =>
          some (q7.1, q7.2))))
def g_X11_least_29 (zs0 : Int) (ζ : ZS) : Option (Int × ZS) :=
    some (zs0, ζ)
def g_X11_least  (ζ : ZS) : Option (Int × ZS) :=
    (g_X11_freshen ζ).bind fun q1 =>
    (g_X10_theyCan q1).bind fun q2 =>
    gI q2.1 0 (q2.1 = 0) (
      g_X11_least_29 (-1) q2.2) (
      (g_X4_leastRegret q2.2).bind fun q3 =>
      g_X11_least_29 q3.1 q3.2)
def g_X11_beaten_36  (ζ : ZS) : Option (Int × ZS) :=
    some ((-1), ζ)
def g_X11_beaten (z1 : Int) (ζ : ZS) : Option (Int × ZS) :=
    (g_X11_freshen ζ).bind fun q1 =>
    (g_X9_isIn z1 q1).bind fun q2 =>
    gI q2.1 0 (q2.1 = 0) (
      g_X11_beaten_36 q2.2) (
      (g_X10_theyCan q2.2).bind fun q3 =>
      gI q3.1 0 (q3.1 = 0) (
        g_X11_beaten_36 q3.2) (
        (g_X4_mayBeBest_ z1 q3.2).bind fun q4 =>
        gI q4.1 0 (q4.1 = 0) (
          (g_X4_leadsOf z1 q4.2).bind fun q5 =>
          rk (some q5.1) 18 fun c106 =>
          (g_X5_among c106 (zand (q5.2.1 30 4) (zxor (zshl 1 z1) (-1))) q5.2).bind fun q7 =>
          (g_X5_fewest 68 3 148 q7).bind fun q8 =>
          some (q8.1, q8.2)) (
          g_X11_beaten_36 q4.2)))
def g_X11_next_37  (ζ : ZS) : Option (Int × ZS) :=
    some ((-1), ζ)
def g_X11_next_76 (zs0 : Int) (ζ : ZS) : Option (Int × ZS) :=
    some (zs0, ζ)
def g_X11_next (z1 : Int) (ζ : ZS) : Option (Int × ZS) :=
    (g_X11_freshen ζ).bind fun q1 =>
    gI z1 0 (z1 < 0) (
      g_X11_next_37 q1) (
      gI 2 z1 (2 < z1) (
        g_X11_next_37 q1) (
        (g_X10_theyCan q1).bind fun q2 =>
        gI q2.1 0 (q2.1 = 0) (
          g_X11_next_37 q2.2) (
          (g_J6_bitCount_0f7a4 (q2.2.1 30 4) q2.2).bind fun q3 =>
          gI 2 q3.1 (2 ≤ q3.1) (
            (g_X4_partsMost q3.2).bind fun q4 =>
            gI z1 2 (z1 = 2) (
              (g_X4_greaterCount q4.1 q4.2).bind fun q7 =>
              some (q7.1, q7.2)) (
              gI z1 0 (z1 = 0) (
                gd q4.1 8 (
                g_X11_next_76 (Int.tdiv q4.1 8) q4.2)) (
                gd q4.1 8 (
                g_X11_next_76 (Int.tmod q4.1 8) q4.2)))) (
            g_X11_next_37 q3.2))))
def g_X11_few_35 (zs0 : Int) (ζ : ZS) : Option (Int × ZS) :=
    some (zs0, ζ)
def g_X11_few_34  (ζ : ZS) : Option (Int × ZS) :=
    g_X11_few_35 (-1) ζ
def g_X11_few  (ζ : ZS) : Option (Int × ZS) :=
    (g_X11_freshen ζ).bind fun q1 =>
    (g_X10_theyCan q1).bind fun q2 =>
    gI q2.1 0 (q2.1 = 0) (
      g_X11_few_34 q2.2) (
      gI (q2.2.1 30 4) 0 ((q2.2.1 30 4) = 0) (
        g_X11_few_34 q2.2) (
        (g_X4_fewQuestions q2.2).bind fun q3 =>
        g_X11_few_35 q3.1 q3.2))
def g_X11_need_33  (ζ : ZS) : Option (Int × ZS) :=
    some ((-1), ζ)
def g_X11_need_60 (zs0 : Int) (ζ : ZS) : Option (Int × ZS) :=
    some (zs0, ζ)
def g_X11_need (z1 : Int) (z2 : Int) (z3 : Int) (ζ : ZS) : Option (Int × ZS) :=
    (g_X11_freshen ζ).bind fun q1 =>
    (g_X9_isIn z1 q1).bind fun q2 =>
    gI q2.1 0 (q2.1 = 0) (
      g_X11_need_33 q2.2) (
      (g_X11_hasMeasure z2 q2.2).bind fun q3 =>
      gI q3.1 0 (q3.1 = 0) (
        g_X11_need_33 q3.2) (
        (g_X10_theyCan q3.2).bind fun q4 =>
        gI q4.1 0 (q4.1 = 0) (
          g_X11_need_33 q4.2) (
          gI z3 0 (z3 = 0) (
            (g_X4_needToMaybe z1 z2 q4.2).bind fun q5 =>
            g_X11_need_60 q5.1 q5.2) (
            (g_X4_needToBeSure z1 z2 q4.2).bind fun q6 =>
            g_X11_need_60 q6.1 q6.2))))
def g_X11_share_31  (ζ : ZS) : Option (Int × ZS) :=
    some ((-1), ζ)
def g_X11_share_112 (z2 : Int) (z3 : Int) (z5 : Int) (z6 : Int) (z7 : Int) (r84 : Int → Int → ZS → Option (Int × ZS)) : Nat → Int → Int → ZS → Option (Int × ZS)
  | 0, _, _, _ => none
  | n + 1, z4, z8, ζ =>
    gI z7 z8 (z7 < z8) (
      r84 z4 (z6 + 1) ζ) (
      (g_X7_open (ζ.1 26 16) z2 z6 z8 ζ).bind fun q1 =>
      (g_X7_narrowBy 51 (q1.1 50 4) q1).bind fun q2 =>
      (g_X7_narrowBy 126 z3 q2).bind fun q3 =>
      (g_X7_width q3).bind fun q4 =>
      (g_X11_share_112 z2 z3 z5 z6 z7 r84 n) (z4 + q4.1) (z8 + 1) q4.2)
def g_X11_share_107 (r84 : Int → Int → ZS → Option (Int × ZS)) (z2 : Int) (z3 : Int) (z4 : Int) (z5 : Int) (z6 : Int) (zs0 : Int) (ζ : ZS) : Option (Int × ZS) :=
    g_X11_share_112 z2 z3 z5 z6 zs0 r84 FU z4 0 ζ
def g_X11_share_84 (z2 : Int) (z3 : Int) (z5 : Int) : Nat → Int → Int → ZS → Option (Int × ZS)
  | 0, _, _, _ => none
  | n + 1, z4, z6, ζ =>
    gI z5 z6 (z5 < z6) (
      some (z4, ζ)) (
      gI (ζ.1 26 16) 3 ((ζ.1 26 16) ≤ 3) (
        g_X11_share_107 (g_X11_share_84 z2 z3 z5 n) z2 z3 z4 z5 z6 0 ζ) (
        g_X11_share_107 (g_X11_share_84 z2 z3 z5 n) z2 z3 z4 z5 z6 (z2 - z6) ζ))
def g_X11_share_79 (z2 : Int) (z3 : Int) (z4 : Int) (zs0 : Int) (ζ : ZS) : Option (Int × ZS) :=
    g_X11_share_84 z2 z3 zs0 FU z4 0 ζ
def g_X11_share_63 (z2 : Int) (z3 : Int) (ζ : ZS) : Option (Int × ZS) :=
    gI (ζ.1 26 16) 2 ((ζ.1 26 16) ≤ 2) (
      g_X11_share_79 z2 z3 0 0 ζ) (
      g_X11_share_79 z2 z3 0 z2 ζ)
def g_X11_share_33 (z1 : Int) (z2 : Int) (ζ : ZS) : Option (Int × ZS) :=
    gI z1 (-1) (z1 = (-1)) (
      g_X11_share_63 z2 0 ζ) (
      (g_X4_leadsOf z1 ζ).bind fun q1 =>
      rk (some q1.1) 18 fun c102 =>
      g_X11_share_63 z2 (zand (ζ.1 30 4) (zxor (zshl 1 z1) (-1))) q1.2)
def g_X11_share (z1 : Int) (z2 : Int) (ζ : ZS) : Option (Int × ZS) :=
    (g_X11_freshen ζ).bind fun q1 =>
    gI z2 1 (z2 < 1) (
      g_X11_share_31 q1) (
      gI 20 z2 (20 < z2) (
        g_X11_share_31 q1) (
        gI z1 (-1) (z1 = (-1)) (
          g_X11_share_33 z1 z2 q1) (
          (g_X9_isIn z1 q1).bind fun q2 =>
          gI q2.1 0 (q2.1 = 0) (
            g_X11_share_31 q2.2) (
            g_X11_share_33 z1 z2 q2.2))))
def g_X11_why_31  (ζ : ZS) : Option (Int × ZS) :=
    some ((-1), ζ)
def g_X11_why (z1 : Int) (z2 : Int) (z3 : Int) (ζ : ZS) : Option (Int × ZS) :=
    (g_X11_freshen ζ).bind fun q1 =>
    (g_X11_isPart z3 q1).bind fun q2 =>
    gI q2.1 0 (q2.1 = 0) (
      g_X11_why_31 q2.2) (
      (g_X4_compare 68 z1 z2 q2.2).bind fun q3 =>
      gI q3.1 2 (q3.1 = 2) (
        (g_X9_fillLead z1 z2 147 q3.2).bind fun q4 =>
        (g_X5_among 51 (q4.1 50 4) q4).bind fun q5 =>
        (g_X5_fewest 64 3 147 q5).bind fun q6 =>
        (g_X11_sizeOrSet q6.1 z3 q6.2).bind fun q7 =>
        some (q7.1, q7.2)) (
        g_X11_why_31 q3.2))
def g_X11_holds_19  (ζ : ZS) : Option (Int × ZS) :=
    some ((-1), ζ)
def g_X11_holds (z1 : Int) (z2 : Int) (z3 : Int) (ζ : ZS) : Option (Int × ZS) :=
    (g_X11_freshen ζ).bind fun q1 =>
    gI z1 0 (z1 < 0) (
      g_X11_holds_19 q1) (
      rk (q1.2.2 26 14) 0 fun c102 =>
      gI z1 (q1.1 c102 9) (z1 < (q1.1 c102 9)) (
        (g_X10_cutBy (zand (q1.1 50 4) (zxor (zshl 1 z1) (-1))) q1).bind fun q3 =>
        rk (some q3.1) 1 fun c104 =>
        (g_X4_compare c104 z2 z3 q3.2).bind fun q5 =>
        some (q5.1, q5.2)) (
        g_X11_holds_19 q1))
def g_X11_edge_32  (ζ : ZS) : Option (Int × ZS) :=
    some ((-1), ζ)
def g_X11_edge (z1 : Int) (z2 : Int) (z3 : Int) (ζ : ZS) : Option (Int × ZS) :=
    (g_X11_freshen ζ).bind fun q1 =>
    (g_X11_hasMeasure z3 q1).bind fun q2 =>
    gI q2.1 0 (q2.1 = 0) (
      g_X11_edge_32 q2.2) (
      (g_X4_compare 68 z1 z2 q2.2).bind fun q3 =>
      gI q3.1 2 (q3.1 = 2) (
        (g_X4_leastStillBetter z1 z2 z3 q3.2).bind fun q4 =>
        some (q4.1, q4.2)) (
        g_X11_edge_32 q3.2))
def g_X11_agree (z1 : Int) (ζ : ZS) : Option (Int × ZS) :=
    (g_X11_freshen ζ).bind fun q1 =>
    (g_X11_isPart z1 q1).bind fun q2 =>
    gI q2.1 0 (q2.1 = 0) (
      some ((-1), q2.2)) (
      rk (q2.2.2.2 26 14) 0 fun c103 =>
      (g_X2_mostThatAgree c103 q2.2).bind fun q4 =>
      (g_X11_sizeOrSet q4.1 z1 q4.2).bind fun q5 =>
      some (q5.1, q5.2))
def g_X11_yields (z1 : Int) (ζ : ZS) : Option (Int × ZS) :=
    (g_X11_freshen ζ).bind fun q1 =>
    (g_X11_isPart z1 q1).bind fun q2 =>
    gI q2.1 0 (q2.1 = 0) (
      some ((-1), q2.2)) (
      rk (q2.2.2.2 26 14) 0 fun c103 =>
      (g_X2_fewestThatYield c103 (q2.2.1 26 17) q2.2).bind fun q4 =>
      (g_X11_sizeOrSet q4.1 z1 q4.2).bind fun q5 =>
      some (q5.1, q5.2))
def g_X11_row_31  (ζ : ZS) : Option (Int × ZS) :=
    some (0, ζ)
def g_X11_row_35 (z1 : Int) : Nat → Int → ZS → Option (Int × ZS)
  | 0, _, _ => none
  | n + 1, z2, ζ =>
    gI (ζ.1 26 13) z2 ((ζ.1 26 13) ≤ z2) (
      gk (ζ.1 26 13) 8 (
      some (1, zI (zI ζ 149 (Int.toNat (ζ.1 26 13)) z1) 26 13 (((zI ζ 149 (Int.toNat (ζ.1 26 13)) z1).1 26 13) + 1)))) (
      gk z2 8 (
      gI (ζ.1 149 (Int.toNat z2)) z1 ((ζ.1 149 (Int.toNat z2)) = z1) (
        some (0, ζ)) (
        (g_X11_row_35 z1 n) (z2 + 1) ζ)))
def g_X11_row (z1 : Int) (ζ : ZS) : Option (Int × ZS) :=
    gI z1 (-1) (z1 = (-1)) (
      some (1, zI ζ 26 13 0)) (
      gI z1 0 (z1 < 0) (
        g_X11_row_31 ζ) (
        gI 8 z1 (8 ≤ z1) (
          g_X11_row_31 ζ) (
          gI (ζ.1 26 13) 8 ((ζ.1 26 13) < 8) (
            g_X11_row_35 z1 FU 0 ζ) (
            g_X11_row_31 ζ))))
def g_X11_judged_21  (ζ : ZS) : Option (Int × ZS) :=
    some ((-1), ζ)
def g_X11_judged_90 (zs0 : Int) (ζ : ZS) : Option (Int × ZS) :=
    some (zs0, ζ)
def g_X11_judged_25 (z1 : Int) : Nat → Int → ZS → Option (Int × ZS)
  | 0, _, _ => none
  | n + 1, z2, ζ =>
    gI (ζ.1 26 13) z2 ((ζ.1 26 13) ≤ z2) (
      (g_X4_brokenPlace 149 (ζ.1 26 13) ζ).bind fun q1 =>
      gI z1 1 (z1 = 1) (
        some (q1.1, q1.2)) (
        gI q1.1 (-1) (q1.1 = (-1)) (
          g_X11_judged_90 1 q1.2) (
          g_X11_judged_90 0 q1.2))) (
      gk z2 8 (
      (g_X9_isIn (ζ.1 149 (Int.toNat z2)) ζ).bind fun q3 =>
      gI q3.1 0 (q3.1 = 0) (
        some ((-1), q3.2)) (
        (g_X11_judged_25 z1 n) (z2 + 1) q3.2)))
def g_X11_judged (z1 : Int) (ζ : ZS) : Option (Int × ZS) :=
    (g_X11_freshen ζ).bind fun q1 =>
    (g_X11_isPart z1 q1).bind fun q2 =>
    gI q2.1 0 (q2.1 = 0) (
      g_X11_judged_21 q2.2) (
      (g_X10_theyCan q2.2).bind fun q3 =>
      gI q3.1 0 (q3.1 = 0) (
        g_X11_judged_21 q3.2) (
        g_X11_judged_25 z1 FU 0 q3.2))
def g_X11_worst  (ζ : ZS) : Option (Int × ZS) :=
    (g_X11_freshen ζ).bind fun q1 =>
    (g_X9_bestAtWorst (q1.1 26 16) q1).bind fun q2 =>
    some (q2.1, q2.2)
def g_X11_first_97  : Nat → Int → Int → ZS → Option (Int × ZS)
  | 0, _, _, _ => none
  | n + 1, z4, z5, ζ =>
    gI (ζ.1 26 16) z5 ((ζ.1 26 16) ≤ z5) (
      some (z4, ζ)) (
      gk z5 4 (
      (g_X9_topOf z4 (ζ.1 147 (Int.toNat z5)) ζ).bind fun q2 =>
      (g_X11_first_97 n) q2.1 (z5 + 1) q2.2))
def g_X11_first_55  (ζ : ZS) : Option (Int × ZS) :=
    some ((-1), ζ)
def g_X11_first_16  : Nat → Int → Int → Int → ZS → Option (Int × ZS)
  | 0, _, _, _, _ => none
  | n + 1, z2, z3, z4, ζ =>
    gI z4 0 (z4 < 0) (
      gI z2 0 (z2 = 0) (
        g_X11_first_97 FU (ζ.1 30 4) 0 ζ) (
        some ((-1), ζ))) (
      gd z2 10 (
      gd z2 10 (
      gI (Int.tmod z2 10) 0 ((Int.tmod z2 10) < 0) (
        g_X11_first_55 ζ) (
        gI (ζ.1 26 16) (Int.tmod z2 10) ((ζ.1 26 16) ≤ (Int.tmod z2 10)) (
          g_X11_first_55 ζ) (
          gI (zand z3 (zshl 1 (Int.tmod z2 10))) 0 ((zand z3 (zshl 1 (Int.tmod z2 10))) = 0) (
            gk z4 4 (
            (g_X11_first_16 n) (Int.tdiv z2 10) (zor z3 (zshl 1 (Int.tmod z2 10))) (z4 + (-1)) (zI ζ 147 (Int.toNat z4) (Int.tmod z2 10)))) (
            g_X11_first_55 ζ))))))
def g_X11_first (z1 : Int) (ζ : ZS) : Option (Int × ZS) :=
    (g_X11_freshen ζ).bind fun q1 =>
    g_X11_first_16 FU z1 0 ((q1.1 26 16) - 1) q1
def g_X11_many_25  (ζ : ZS) : Option (Int × ZS) :=
    some ((-1), ζ)
def g_X11_many (z1 : Int) (ζ : ZS) : Option (Int × ZS) :=
    (g_X11_freshen ζ).bind fun q1 =>
    gI z1 1 (z1 < 1) (
      g_X11_many_25 q1) (
      gI 100 z1 (100 < z1) (
        g_X11_many_25 q1) (
        (g_X10_theyCan q1).bind fun q2 =>
        gI q2.1 0 (q2.1 = 0) (
          g_X11_many_25 q2.2) (
          (g_X4_notOutdone z1 q2.2).bind fun q3 =>
          some (q3.1, q3.2))))
def g_X11_count (z1 : Int) (ζ : ZS) : Option (Int × ZS) :=
    (g_X11_freshen ζ).bind fun q1 =>
    gI z1 0 (z1 = 0) (
      some (q1.1 26 16, q1)) (
    gI z1 1 (z1 = 1) (
      (g_J6_bitCount_0f7a4 (q1.1 30 3) q1).bind fun q2 =>
      some (q2.1, q2.2)) (
    gI z1 2 (z1 = 2) (
      (g_J6_bitCount_0f7a4 (q1.1 30 4) q1).bind fun q3 =>
      some (q3.1, q3.2)) (
    gI z1 3 (z1 = 3) (
      rk (q1.2.2 26 14) 0 fun c104 =>
      some (q1.1 c104 9, q1)) (
    gI z1 4 (z1 = 4) (
      (g_J6_bitCount_0f7a4 (q1.1 50 4) q1).bind fun q5 =>
      some (q5.1, q5.2)) (
    gI z1 5 (z1 = 5) (
      some (q1.1 27 1, q1)) (
    gI z1 6 (z1 = 6) (
      some (q1.1 68 5, q1)) (
    gI z1 7 (z1 = 7) (
      some (q1.1 26 13, q1)) (
    some ((-1), q1)))))))))

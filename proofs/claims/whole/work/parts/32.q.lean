theorem li_m8 : ((-8) : Int32) = mJ (-8) := by decide
theorem li_m1 : ((-1) : Int32) = mJ (-1) := by decide
theorem li_0 : (0 : Int32) = mJ 0 := by decide
theorem li_1 : (1 : Int32) = mJ 1 := by decide
theorem li_2 : (2 : Int32) = mJ 2 := by decide
theorem li_3 : (3 : Int32) = mJ 3 := by decide
theorem li_4 : (4 : Int32) = mJ 4 := by decide
theorem li_5 : (5 : Int32) = mJ 5 := by decide
theorem li_6 : (6 : Int32) = mJ 6 := by decide
theorem li_7 : (7 : Int32) = mJ 7 := by decide
theorem li_8 : (8 : Int32) = mJ 8 := by decide
theorem li_9 : (9 : Int32) = mJ 9 := by decide
theorem li_10 : (10 : Int32) = mJ 10 := by decide
theorem li_12 : (12 : Int32) = mJ 12 := by decide
theorem li_13 : (13 : Int32) = mJ 13 := by decide
theorem li_16 : (16 : Int32) = mJ 16 := by decide
theorem li_20 : (20 : Int32) = mJ 20 := by decide
theorem li_21 : (21 : Int32) = mJ 21 := by decide
theorem li_31 : (31 : Int32) = mJ 31 := by decide
theorem li_32 : (32 : Int32) = mJ 32 := by decide
theorem li_44 : (44 : Int32) = mJ 44 := by decide
theorem li_48 : (48 : Int32) = mJ 48 := by decide
theorem li_56 : (56 : Int32) = mJ 56 := by decide
theorem li_57 : (57 : Int32) = mJ 57 := by decide
theorem li_59 : (59 : Int32) = mJ 59 := by decide
theorem li_72 : (72 : Int32) = mJ 72 := by decide
theorem li_96 : (96 : Int32) = mJ 96 := by decide
theorem li_97 : (97 : Int32) = mJ 97 := by decide
theorem li_100 : (100 : Int32) = mJ 100 := by decide
theorem li_122 : (122 : Int32) = mJ 122 := by decide
theorem li_126 : (126 : Int32) = mJ 126 := by decide
theorem li_200 : (200 : Int32) = mJ 200 := by decide
theorem li_255 : (255 : Int32) = mJ 255 := by decide
theorem li_256 : (256 : Int32) = mJ 256 := by decide
theorem li_999 : (999 : Int32) = mJ 999 := by decide
theorem li_1000 : (1000 : Int32) = mJ 1000 := by decide
theorem lj_m1 : ((-1) : Int64) = mL (-1) := by decide
theorem lj_0 : (0 : Int64) = mL 0 := by decide
theorem lj_1 : (1 : Int64) = mL 1 := by decide
theorem lj_2 : (2 : Int64) = mL 2 := by decide
theorem lj_10 : (10 : Int64) = mL 10 := by decide
theorem lj_37 : (37 : Int64) = mL 37 := by decide
theorem lj_48 : (48 : Int64) = mL 48 := by decide
theorem lj_100 : (100 : Int64) = mL 100 := by decide
theorem kd_0 : kd 0 = 12 := rfl
theorem ln_0 : ln 0 = 0 := rfl
theorem kd_1 : kd 1 = 14 := rfl
theorem ln_1 : ln 1 = 1000 := rfl
theorem kd_2 : kd 2 = 14 := rfl
theorem ln_2 : ln 2 = 1002 := rfl
theorem kd_3 : kd 3 = 14 := rfl
theorem ln_3 : ln 3 = 1002 := rfl
theorem kd_4 : kd 4 = 15 := rfl
theorem ln_4 : ln 4 = 1002 := rfl
theorem kd_5 : kd 5 = 15 := rfl
theorem ln_5 : ln 5 = 17 := rfl
theorem kd_6 : kd 6 = 16 := rfl
theorem ln_6 : ln 6 = 8 := rfl
theorem kd_7 : kd 7 = 14 := rfl
theorem ln_7 : ln 7 = 8 := rfl
theorem kd_8 : kd 8 = 14 := rfl
theorem ln_8 : ln 8 = 8 := rfl
theorem kd_9 : kd 9 = 14 := rfl
theorem ln_9 : ln 9 = 2 := rfl
theorem kd_10 : kd 10 = 14 := rfl
theorem ln_10 : ln 10 = 24 := rfl
theorem kd_11 : kd 11 = 14 := rfl
theorem ln_11 : ln 11 = 24 := rfl
theorem kd_12 : kd 12 = 14 := rfl
theorem ln_12 : ln 12 = 24 := rfl
theorem kd_13 : kd 13 = 14 := rfl
theorem ln_13 : ln 13 = 24 := rfl
theorem kd_14 : kd 14 = 14 := rfl
theorem ln_14 : ln 14 = 24 := rfl
theorem kd_15 : kd 15 = 14 := rfl
theorem ln_15 : ln 15 = 24 := rfl
theorem kd_16 : kd 16 = 16 := rfl
theorem ln_16 : ln 16 = 8 := rfl
theorem kd_17 : kd 17 = 14 := rfl
theorem ln_17 : ln 17 = 32 := rfl
theorem kd_18 : kd 18 = 14 := rfl
theorem ln_18 : ln 18 = 8 := rfl
theorem kd_19 : kd 19 = 15 := rfl
theorem ln_19 : ln 19 = 256 := rfl
theorem kd_20 : kd 20 = 14 := rfl
theorem ln_20 : ln 20 = 12 := rfl
theorem kd_21 : kd 21 = 14 := rfl
theorem ln_21 : ln 21 = 12 := rfl
theorem kd_22 : kd 22 = 15 := rfl
theorem ln_22 : ln 22 = 3456 := rfl
theorem kd_23 : kd 23 = 15 := rfl
theorem ln_23 : ln 23 = 4 := rfl
theorem kd_24 : kd 24 = 15 := rfl
theorem ln_24 : ln 24 = 4 := rfl
theorem kd_26 : kd 26 = 11 := rfl
theorem ln_26 : ln 26 = 0 := rfl
theorem kd_27 : kd 27 = 8 := rfl
theorem ln_27 : ln 27 = 0 := rfl
theorem kd_28 : kd 28 = 13 := rfl
theorem ln_28 : ln 28 = 1000 := rfl
theorem kd_29 : kd 29 = 6 := rfl
theorem ln_29 : ln 29 = 0 := rfl
theorem kd_30 : kd 30 = 9 := rfl
theorem ln_30 : ln 30 = 0 := rfl
theorem kd_31 : kd 31 = 18 := rfl
theorem ln_31 : ln 31 = 8 := rfl
theorem kd_40 : kd 40 = 18 := rfl
theorem ln_40 : ln 40 = 8 := rfl
theorem kd_49 : kd 49 = 15 := rfl
theorem ln_49 : ln 49 = 8 := rfl
theorem kd_50 : kd 50 = 10 := rfl
theorem ln_50 : ln 50 = 0 := rfl
theorem kd_51 : kd 51 = 18 := rfl
theorem ln_51 : ln 51 = 12 := rfl
theorem kd_64 : kd 64 = 1 := rfl
theorem ln_64 : ln 64 = 0 := rfl
theorem kd_68 : kd 68 = 1 := rfl
theorem ln_68 : ln 68 = 0 := rfl
theorem kd_72 : kd 72 = 17 := rfl
theorem ln_72 : ln 72 = 13 := rfl
theorem kd_125 : kd 125 = 4 := rfl
theorem ln_125 : ln 125 = 0 := rfl
theorem kd_126 : kd 126 = 18 := rfl
theorem ln_126 : ln 126 = 8 := rfl
theorem kd_135 : kd 135 = 14 := rfl
theorem ln_135 : ln 135 = 4 := rfl
theorem kd_136 : kd 136 = 14 := rfl
theorem ln_136 : ln 136 = 4 := rfl
theorem kd_137 : kd 137 = 15 := rfl
theorem ln_137 : ln 137 = 8 := rfl
theorem kd_138 : kd 138 = 14 := rfl
theorem ln_138 : ln 138 = 44 := rfl
theorem kd_139 : kd 139 = 14 := rfl
theorem ln_139 : ln 139 = 64 := rfl
theorem kd_140 : kd 140 = 14 := rfl
theorem ln_140 : ln 140 = 8 := rfl
theorem kd_141 : kd 141 = 5 := rfl
theorem ln_141 : ln 141 = 0 := rfl
theorem kd_142 : kd 142 = 2 := rfl
theorem ln_142 : ln 142 = 0 := rfl
theorem kd_143 : kd 143 = 14 := rfl
theorem ln_143 : ln 143 = 8 := rfl
theorem kd_144 : kd 144 = 7 := rfl
theorem ln_144 : ln 144 = 0 := rfl
theorem kd_145 : kd 145 = 3 := rfl
theorem ln_145 : ln 145 = 0 := rfl
theorem kd_146 : kd 146 = 14 := rfl
theorem ln_146 : ln 146 = 4 := rfl
theorem kd_147 : kd 147 = 14 := rfl
theorem ln_147 : ln 147 = 4 := rfl
theorem kd_148 : kd 148 = 14 := rfl
theorem ln_148 : ln 148 = 4 := rfl
theorem kd_149 : kd 149 = 14 := rfl
theorem ln_149 : ln 149 = 8 := rfl

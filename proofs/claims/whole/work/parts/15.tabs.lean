def ftX2 : FTb := [(7, 2, 0, 1, true), (13, 2, 1, 1, true), (16, 2, 2, 0, true), (20, 1, 2, 1, true)]
theorem ftX2_ok : ∀ x ∈ ftX2, FTg RX2 false x := by decide +kernel
theorem ftX2_7 : lkp ftX2 7 = some (2, 0, 1, true) := rfl
theorem ftX2_13 : lkp ftX2 13 = some (2, 1, 1, true) := rfl
theorem ftX2_16 : lkp ftX2 16 = some (2, 2, 0, true) := rfl
theorem ftX2_20 : lkp ftX2 20 = some (1, 2, 1, true) := rfl
def ftX2i : FTb := [(7, 2, 0, 1, true), (13, 2, 1, 1, true), (16, 2, 2, 0, true), (20, 1, 2, 1, true)]
theorem ftX2i_ok : ∀ x ∈ ftX2i, FTg RX2 true x := by decide +kernel
theorem ftX2i_7 : lkp ftX2i 7 = some (2, 0, 1, true) := rfl
theorem ftX2i_13 : lkp ftX2i 13 = some (2, 1, 1, true) := rfl
theorem ftX2i_16 : lkp ftX2i 16 = some (2, 2, 0, true) := rfl
theorem ftX2i_20 : lkp ftX2i 20 = some (1, 2, 1, true) := rfl
def ftX0 : FTb := [(12, 0, 1, 1, false), (18, 0, 2, 1, false), (21, 0, 3, 1, false), (25, 0, 5, 0, true), (29, 0, 7, 0, true), (32, 0, 8, 0, true), (35, 0, 9, 0, true), (38, 0, 10, 0, true), (41, 0, 11, 0, true), (44, 0, 12, 0, true), (47, 0, 0, 0, false), (50, 0, 4, 0, true), (53, 0, 6, 0, true), (56, 2, 2, 0, true), (59, 2, 0, 1, true), (63, 1, 1, 0, false), (87, 1, 0, 1, false)]
theorem ftX0_ok : ∀ x ∈ ftX0, FTg RX0 false x := by decide +kernel
theorem ftX0_12 : lkp ftX0 12 = some (0, 1, 1, false) := rfl
theorem ftX0_18 : lkp ftX0 18 = some (0, 2, 1, false) := rfl
theorem ftX0_21 : lkp ftX0 21 = some (0, 3, 1, false) := rfl
theorem ftX0_25 : lkp ftX0 25 = some (0, 5, 0, true) := rfl
theorem ftX0_29 : lkp ftX0 29 = some (0, 7, 0, true) := rfl
theorem ftX0_32 : lkp ftX0 32 = some (0, 8, 0, true) := rfl
theorem ftX0_35 : lkp ftX0 35 = some (0, 9, 0, true) := rfl
theorem ftX0_38 : lkp ftX0 38 = some (0, 10, 0, true) := rfl
theorem ftX0_41 : lkp ftX0 41 = some (0, 11, 0, true) := rfl
theorem ftX0_44 : lkp ftX0 44 = some (0, 12, 0, true) := rfl
theorem ftX0_47 : lkp ftX0 47 = some (0, 0, 0, false) := rfl
theorem ftX0_50 : lkp ftX0 50 = some (0, 4, 0, true) := rfl
theorem ftX0_53 : lkp ftX0 53 = some (0, 6, 0, true) := rfl
theorem ftX0_56 : lkp ftX0 56 = some (2, 2, 0, true) := rfl
theorem ftX0_59 : lkp ftX0 59 = some (2, 0, 1, true) := rfl
theorem ftX0_63 : lkp ftX0 63 = some (1, 1, 0, false) := rfl
theorem ftX0_87 : lkp ftX0 87 = some (1, 0, 1, false) := rfl
def ftX0i : FTb := [(12, 0, 1, 1, true), (18, 0, 2, 1, true), (21, 0, 3, 1, true), (25, 0, 5, 0, true), (29, 0, 7, 0, true), (32, 0, 8, 0, true), (35, 0, 9, 0, true), (38, 0, 10, 0, true), (41, 0, 11, 0, true), (44, 0, 12, 0, true), (47, 0, 0, 0, true), (50, 0, 4, 0, true), (53, 0, 6, 0, true), (56, 2, 2, 0, true), (59, 2, 0, 1, true), (63, 1, 1, 0, false), (87, 1, 0, 1, false)]
theorem ftX0i_ok : ∀ x ∈ ftX0i, FTg RX0 true x := by decide +kernel
theorem ftX0i_12 : lkp ftX0i 12 = some (0, 1, 1, true) := rfl
theorem ftX0i_18 : lkp ftX0i 18 = some (0, 2, 1, true) := rfl
theorem ftX0i_21 : lkp ftX0i 21 = some (0, 3, 1, true) := rfl
theorem ftX0i_25 : lkp ftX0i 25 = some (0, 5, 0, true) := rfl
theorem ftX0i_29 : lkp ftX0i 29 = some (0, 7, 0, true) := rfl
theorem ftX0i_32 : lkp ftX0i 32 = some (0, 8, 0, true) := rfl
theorem ftX0i_35 : lkp ftX0i 35 = some (0, 9, 0, true) := rfl
theorem ftX0i_38 : lkp ftX0i 38 = some (0, 10, 0, true) := rfl
theorem ftX0i_41 : lkp ftX0i 41 = some (0, 11, 0, true) := rfl
theorem ftX0i_44 : lkp ftX0i 44 = some (0, 12, 0, true) := rfl
theorem ftX0i_47 : lkp ftX0i 47 = some (0, 0, 0, true) := rfl
theorem ftX0i_50 : lkp ftX0i 50 = some (0, 4, 0, true) := rfl
theorem ftX0i_53 : lkp ftX0i 53 = some (0, 6, 0, true) := rfl
theorem ftX0i_56 : lkp ftX0i 56 = some (2, 2, 0, true) := rfl
theorem ftX0i_59 : lkp ftX0i 59 = some (2, 0, 1, true) := rfl
theorem ftX0i_63 : lkp ftX0i 63 = some (1, 1, 0, false) := rfl
theorem ftX0i_87 : lkp ftX0i 87 = some (1, 0, 1, false) := rfl
def ftX3 : FTb := [(11, 3, 3, 1, false), (19, 3, 4, 1, false), (23, 3, 5, 1, false), (27, 3, 6, 0, true), (31, 3, 7, 0, true), (34, 3, 8, 0, true), (37, 3, 9, 0, true), (40, 3, 10, 0, true), (43, 3, 11, 0, true), (46, 3, 12, 0, true), (49, 3, 13, 0, true), (52, 3, 14, 0, true), (55, 3, 15, 0, true), (58, 3, 0, 0, false), (61, 3, 1, 0, false), (66, 3, 2, 1, false), (76, 4, 3, 0, false), (79, 0, 1, 1, false), (92, 0, 4, 0, true), (95, 2, 2, 0, true), (98, 4, 7, 0, true), (105, 4, 1, 1, false), (127, 1, 0, 1, false), (131, 0, 2, 1, false), (140, 0, 0, 0, false), (157, 4, 6, 0, true), (160, 4, 4, 0, false), (180, 1, 1, 0, false), (181, 4, 5, 0, true), (187, 0, 5, 0, true)]
theorem ftX3_ok : ∀ x ∈ ftX3, FTg RX3 false x := by decide +kernel
theorem ftX3_11 : lkp ftX3 11 = some (3, 3, 1, false) := rfl
theorem ftX3_19 : lkp ftX3 19 = some (3, 4, 1, false) := rfl
theorem ftX3_23 : lkp ftX3 23 = some (3, 5, 1, false) := rfl
theorem ftX3_27 : lkp ftX3 27 = some (3, 6, 0, true) := rfl
theorem ftX3_31 : lkp ftX3 31 = some (3, 7, 0, true) := rfl
theorem ftX3_34 : lkp ftX3 34 = some (3, 8, 0, true) := rfl
theorem ftX3_37 : lkp ftX3 37 = some (3, 9, 0, true) := rfl
theorem ftX3_40 : lkp ftX3 40 = some (3, 10, 0, true) := rfl
theorem ftX3_43 : lkp ftX3 43 = some (3, 11, 0, true) := rfl
theorem ftX3_46 : lkp ftX3 46 = some (3, 12, 0, true) := rfl
theorem ftX3_49 : lkp ftX3 49 = some (3, 13, 0, true) := rfl
theorem ftX3_52 : lkp ftX3 52 = some (3, 14, 0, true) := rfl
theorem ftX3_55 : lkp ftX3 55 = some (3, 15, 0, true) := rfl
theorem ftX3_58 : lkp ftX3 58 = some (3, 0, 0, false) := rfl
theorem ftX3_61 : lkp ftX3 61 = some (3, 1, 0, false) := rfl
theorem ftX3_66 : lkp ftX3 66 = some (3, 2, 1, false) := rfl
theorem ftX3_76 : lkp ftX3 76 = some (4, 3, 0, false) := rfl
theorem ftX3_79 : lkp ftX3 79 = some (0, 1, 1, false) := rfl
theorem ftX3_92 : lkp ftX3 92 = some (0, 4, 0, true) := rfl
theorem ftX3_95 : lkp ftX3 95 = some (2, 2, 0, true) := rfl
theorem ftX3_98 : lkp ftX3 98 = some (4, 7, 0, true) := rfl
theorem ftX3_105 : lkp ftX3 105 = some (4, 1, 1, false) := rfl
theorem ftX3_127 : lkp ftX3 127 = some (1, 0, 1, false) := rfl
theorem ftX3_131 : lkp ftX3 131 = some (0, 2, 1, false) := rfl
theorem ftX3_140 : lkp ftX3 140 = some (0, 0, 0, false) := rfl
theorem ftX3_157 : lkp ftX3 157 = some (4, 6, 0, true) := rfl
theorem ftX3_160 : lkp ftX3 160 = some (4, 4, 0, false) := rfl
theorem ftX3_180 : lkp ftX3 180 = some (1, 1, 0, false) := rfl
theorem ftX3_181 : lkp ftX3 181 = some (4, 5, 0, true) := rfl
theorem ftX3_187 : lkp ftX3 187 = some (0, 5, 0, true) := rfl
def ftX3i : FTb := [(11, 3, 3, 1, true), (19, 3, 4, 1, true), (23, 3, 5, 1, true), (27, 3, 6, 0, true), (31, 3, 7, 0, true), (34, 3, 8, 0, true), (37, 3, 9, 0, true), (40, 3, 10, 0, true), (43, 3, 11, 0, true), (46, 3, 12, 0, true), (49, 3, 13, 0, true), (52, 3, 14, 0, true), (55, 3, 15, 0, true), (58, 3, 0, 0, true), (61, 3, 1, 0, true), (66, 3, 2, 1, true), (76, 4, 3, 0, false), (79, 0, 1, 1, false), (92, 0, 4, 0, true), (95, 2, 2, 0, true), (98, 4, 7, 0, true), (105, 4, 1, 1, false), (127, 1, 0, 1, false), (131, 0, 2, 1, false), (140, 0, 0, 0, false), (157, 4, 6, 0, true), (160, 4, 4, 0, false), (180, 1, 1, 0, false), (181, 4, 5, 0, true), (187, 0, 5, 0, true)]
theorem ftX3i_ok : ∀ x ∈ ftX3i, FTg RX3 true x := by decide +kernel
theorem ftX3i_11 : lkp ftX3i 11 = some (3, 3, 1, true) := rfl
theorem ftX3i_19 : lkp ftX3i 19 = some (3, 4, 1, true) := rfl
theorem ftX3i_23 : lkp ftX3i 23 = some (3, 5, 1, true) := rfl
theorem ftX3i_27 : lkp ftX3i 27 = some (3, 6, 0, true) := rfl
theorem ftX3i_31 : lkp ftX3i 31 = some (3, 7, 0, true) := rfl
theorem ftX3i_34 : lkp ftX3i 34 = some (3, 8, 0, true) := rfl
theorem ftX3i_37 : lkp ftX3i 37 = some (3, 9, 0, true) := rfl
theorem ftX3i_40 : lkp ftX3i 40 = some (3, 10, 0, true) := rfl
theorem ftX3i_43 : lkp ftX3i 43 = some (3, 11, 0, true) := rfl
theorem ftX3i_46 : lkp ftX3i 46 = some (3, 12, 0, true) := rfl
theorem ftX3i_49 : lkp ftX3i 49 = some (3, 13, 0, true) := rfl
theorem ftX3i_52 : lkp ftX3i 52 = some (3, 14, 0, true) := rfl
theorem ftX3i_55 : lkp ftX3i 55 = some (3, 15, 0, true) := rfl
theorem ftX3i_58 : lkp ftX3i 58 = some (3, 0, 0, true) := rfl
theorem ftX3i_61 : lkp ftX3i 61 = some (3, 1, 0, true) := rfl
theorem ftX3i_66 : lkp ftX3i 66 = some (3, 2, 1, true) := rfl
theorem ftX3i_76 : lkp ftX3i 76 = some (4, 3, 0, false) := rfl
theorem ftX3i_79 : lkp ftX3i 79 = some (0, 1, 1, false) := rfl
theorem ftX3i_92 : lkp ftX3i 92 = some (0, 4, 0, true) := rfl
theorem ftX3i_95 : lkp ftX3i 95 = some (2, 2, 0, true) := rfl
theorem ftX3i_98 : lkp ftX3i 98 = some (4, 7, 0, true) := rfl
theorem ftX3i_105 : lkp ftX3i 105 = some (4, 1, 1, false) := rfl
theorem ftX3i_127 : lkp ftX3i 127 = some (1, 0, 1, false) := rfl
theorem ftX3i_131 : lkp ftX3i 131 = some (0, 2, 1, false) := rfl
theorem ftX3i_140 : lkp ftX3i 140 = some (0, 0, 0, false) := rfl
theorem ftX3i_157 : lkp ftX3i 157 = some (4, 6, 0, true) := rfl
theorem ftX3i_160 : lkp ftX3i 160 = some (4, 4, 0, false) := rfl
theorem ftX3i_180 : lkp ftX3i 180 = some (1, 1, 0, false) := rfl
theorem ftX3i_181 : lkp ftX3i 181 = some (4, 5, 0, true) := rfl
theorem ftX3i_187 : lkp ftX3i 187 = some (0, 5, 0, true) := rfl
def ftX4 : FTb := [(9, 4, 5, 0, true), (15, 4, 6, 0, true), (18, 4, 7, 0, true), (21, 4, 8, 2, true), (25, 4, 0, 0, false), (28, 4, 1, 1, false), (32, 4, 2, 1, false), (36, 4, 4, 0, false), (39, 4, 3, 0, false), (42, 0, 0, 0, false)]
theorem ftX4_ok : ∀ x ∈ ftX4, FTg RX4 false x := by decide +kernel
theorem ftX4_9 : lkp ftX4 9 = some (4, 5, 0, true) := rfl
theorem ftX4_15 : lkp ftX4 15 = some (4, 6, 0, true) := rfl
theorem ftX4_18 : lkp ftX4 18 = some (4, 7, 0, true) := rfl
theorem ftX4_21 : lkp ftX4 21 = some (4, 8, 2, true) := rfl
theorem ftX4_25 : lkp ftX4 25 = some (4, 0, 0, false) := rfl
theorem ftX4_28 : lkp ftX4 28 = some (4, 1, 1, false) := rfl
theorem ftX4_32 : lkp ftX4 32 = some (4, 2, 1, false) := rfl
theorem ftX4_36 : lkp ftX4 36 = some (4, 4, 0, false) := rfl
theorem ftX4_39 : lkp ftX4 39 = some (4, 3, 0, false) := rfl
theorem ftX4_42 : lkp ftX4 42 = some (0, 0, 0, false) := rfl
def ftX4i : FTb := [(9, 4, 5, 0, true), (15, 4, 6, 0, true), (18, 4, 7, 0, true), (21, 4, 8, 2, true), (25, 4, 0, 0, true), (28, 4, 1, 1, true), (32, 4, 2, 1, true), (36, 4, 4, 0, true), (39, 4, 3, 0, true), (42, 0, 0, 0, false)]
theorem ftX4i_ok : ∀ x ∈ ftX4i, FTg RX4 true x := by decide +kernel
theorem ftX4i_9 : lkp ftX4i 9 = some (4, 5, 0, true) := rfl
theorem ftX4i_15 : lkp ftX4i 15 = some (4, 6, 0, true) := rfl
theorem ftX4i_18 : lkp ftX4i 18 = some (4, 7, 0, true) := rfl
theorem ftX4i_21 : lkp ftX4i 21 = some (4, 8, 2, true) := rfl
theorem ftX4i_25 : lkp ftX4i 25 = some (4, 0, 0, true) := rfl
theorem ftX4i_28 : lkp ftX4i 28 = some (4, 1, 1, true) := rfl
theorem ftX4i_32 : lkp ftX4i 32 = some (4, 2, 1, true) := rfl
theorem ftX4i_36 : lkp ftX4i 36 = some (4, 4, 0, true) := rfl
theorem ftX4i_39 : lkp ftX4i 39 = some (4, 3, 0, true) := rfl
theorem ftX4i_42 : lkp ftX4i 42 = some (0, 0, 0, false) := rfl
def ftX1 : FTb := [(9, 1, 2, 1, true), (15, 1, 0, 1, false), (19, 1, 1, 0, false), (23, 4, 3, 0, false), (32, 4, 2, 1, false), (36, 4, 1, 1, false), (40, 0, 0, 0, false), (43, 4, 0, 0, false)]
theorem ftX1_ok : ∀ x ∈ ftX1, FTg RX1 false x := by decide +kernel
theorem ftX1_9 : lkp ftX1 9 = some (1, 2, 1, true) := rfl
theorem ftX1_15 : lkp ftX1 15 = some (1, 0, 1, false) := rfl
theorem ftX1_19 : lkp ftX1 19 = some (1, 1, 0, false) := rfl
theorem ftX1_23 : lkp ftX1 23 = some (4, 3, 0, false) := rfl
theorem ftX1_32 : lkp ftX1 32 = some (4, 2, 1, false) := rfl
theorem ftX1_36 : lkp ftX1 36 = some (4, 1, 1, false) := rfl
theorem ftX1_40 : lkp ftX1 40 = some (0, 0, 0, false) := rfl
theorem ftX1_43 : lkp ftX1 43 = some (4, 0, 0, false) := rfl
def ftX1i : FTb := [(9, 1, 2, 1, true), (15, 1, 0, 1, true), (19, 1, 1, 0, true), (23, 4, 3, 0, false), (32, 4, 2, 1, false), (36, 4, 1, 1, false), (40, 0, 0, 0, false), (43, 4, 0, 0, false)]
theorem ftX1i_ok : ∀ x ∈ ftX1i, FTg RX1 true x := by decide +kernel
theorem ftX1i_9 : lkp ftX1i 9 = some (1, 2, 1, true) := rfl
theorem ftX1i_15 : lkp ftX1i 15 = some (1, 0, 1, true) := rfl
theorem ftX1i_19 : lkp ftX1i 19 = some (1, 1, 0, true) := rfl
theorem ftX1i_23 : lkp ftX1i 23 = some (4, 3, 0, false) := rfl
theorem ftX1i_32 : lkp ftX1i 32 = some (4, 2, 1, false) := rfl
theorem ftX1i_36 : lkp ftX1i 36 = some (4, 1, 1, false) := rfl
theorem ftX1i_40 : lkp ftX1i 40 = some (0, 0, 0, false) := rfl
theorem ftX1i_43 : lkp ftX1i 43 = some (4, 0, 0, false) := rfl
def ftX5 : FTb := [(9, 5, 0, 1, false), (13, 5, 1, 0, true), (17, 5, 2, 1, true), (25, 5, 3, 1, true), (50, 3, 8, 0, true), (58, 0, 4, 0, true), (63, 0, 6, 0, true), (68, 0, 5, 0, true), (73, 3, 9, 0, true), (85, 3, 6, 0, true), (98, 3, 7, 0, true), (123, 4, 8, 2, true), (129, 0, 10, 0, true), (132, 4, 2, 1, false), (135, 4, 0, 0, false), (154, 0, 2, 1, false), (163, 0, 3, 1, false)]
theorem ftX5_ok : ∀ x ∈ ftX5, FTg RX5 false x := by decide +kernel
theorem ftX5_9 : lkp ftX5 9 = some (5, 0, 1, false) := rfl
theorem ftX5_13 : lkp ftX5 13 = some (5, 1, 0, true) := rfl
theorem ftX5_17 : lkp ftX5 17 = some (5, 2, 1, true) := rfl
theorem ftX5_25 : lkp ftX5 25 = some (5, 3, 1, true) := rfl
theorem ftX5_50 : lkp ftX5 50 = some (3, 8, 0, true) := rfl
theorem ftX5_58 : lkp ftX5 58 = some (0, 4, 0, true) := rfl
theorem ftX5_63 : lkp ftX5 63 = some (0, 6, 0, true) := rfl
theorem ftX5_68 : lkp ftX5 68 = some (0, 5, 0, true) := rfl
theorem ftX5_73 : lkp ftX5 73 = some (3, 9, 0, true) := rfl
theorem ftX5_85 : lkp ftX5 85 = some (3, 6, 0, true) := rfl
theorem ftX5_98 : lkp ftX5 98 = some (3, 7, 0, true) := rfl
theorem ftX5_123 : lkp ftX5 123 = some (4, 8, 2, true) := rfl
theorem ftX5_129 : lkp ftX5 129 = some (0, 10, 0, true) := rfl
theorem ftX5_132 : lkp ftX5 132 = some (4, 2, 1, false) := rfl
theorem ftX5_135 : lkp ftX5 135 = some (4, 0, 0, false) := rfl
theorem ftX5_154 : lkp ftX5 154 = some (0, 2, 1, false) := rfl
theorem ftX5_163 : lkp ftX5 163 = some (0, 3, 1, false) := rfl
def ftX5i : FTb := [(9, 5, 0, 1, true), (13, 5, 1, 0, true), (17, 5, 2, 1, true), (25, 5, 3, 1, true), (50, 3, 8, 0, true), (58, 0, 4, 0, true), (63, 0, 6, 0, true), (68, 0, 5, 0, true), (73, 3, 9, 0, true), (85, 3, 6, 0, true), (98, 3, 7, 0, true), (123, 4, 8, 2, true), (129, 0, 10, 0, true), (132, 4, 2, 1, false), (135, 4, 0, 0, false), (154, 0, 2, 1, false), (163, 0, 3, 1, false)]
theorem ftX5i_ok : ∀ x ∈ ftX5i, FTg RX5 true x := by decide +kernel
theorem ftX5i_9 : lkp ftX5i 9 = some (5, 0, 1, true) := rfl
theorem ftX5i_13 : lkp ftX5i 13 = some (5, 1, 0, true) := rfl
theorem ftX5i_17 : lkp ftX5i 17 = some (5, 2, 1, true) := rfl
theorem ftX5i_25 : lkp ftX5i 25 = some (5, 3, 1, true) := rfl
theorem ftX5i_50 : lkp ftX5i 50 = some (3, 8, 0, true) := rfl
theorem ftX5i_58 : lkp ftX5i 58 = some (0, 4, 0, true) := rfl
theorem ftX5i_63 : lkp ftX5i 63 = some (0, 6, 0, true) := rfl
theorem ftX5i_68 : lkp ftX5i 68 = some (0, 5, 0, true) := rfl
theorem ftX5i_73 : lkp ftX5i 73 = some (3, 9, 0, true) := rfl
theorem ftX5i_85 : lkp ftX5i 85 = some (3, 6, 0, true) := rfl
theorem ftX5i_98 : lkp ftX5i 98 = some (3, 7, 0, true) := rfl
theorem ftX5i_123 : lkp ftX5i 123 = some (4, 8, 2, true) := rfl
theorem ftX5i_129 : lkp ftX5i 129 = some (0, 10, 0, true) := rfl
theorem ftX5i_132 : lkp ftX5i 132 = some (4, 2, 1, false) := rfl
theorem ftX5i_135 : lkp ftX5i 135 = some (4, 0, 0, false) := rfl
theorem ftX5i_154 : lkp ftX5i 154 = some (0, 2, 1, false) := rfl
theorem ftX5i_163 : lkp ftX5i 163 = some (0, 3, 1, false) := rfl
def ftX6 : FTb := [(9, 6, 13, 1, false), (13, 6, 14, 1, false), (16, 6, 15, 1, false), (19, 6, 16, 1, false), (22, 6, 17, 1, false), (25, 6, 18, 1, false), (29, 6, 19, 1, false), (32, 6, 20, 1, false), (35, 6, 21, 1, false), (38, 6, 22, 1, false), (41, 6, 23, 1, false), (45, 6, 24, 1, false), (48, 6, 25, 1, false), (51, 6, 26, 1, false), (54, 6, 27, 1, false), (57, 6, 28, 1, false), (60, 6, 29, 1, false), (63, 6, 30, 1, false), (66, 6, 31, 1, false), (69, 6, 32, 1, false), (72, 6, 33, 1, false), (75, 6, 34, 1, false), (78, 6, 35, 1, false), (81, 6, 37, 1, false), (88, 6, 0, 0, true), (96, 6, 1, 0, true), (99, 6, 2, 0, true), (102, 6, 3, 0, true), (105, 6, 4, 0, true), (108, 6, 5, 0, true), (111, 6, 6, 0, true), (114, 6, 7, 0, true), (117, 6, 8, 0, true), (120, 6, 9, 0, true), (123, 6, 10, 0, true), (126, 6, 11, 0, true), (129, 6, 12, 0, true), (136, 6, 36, 0, true), (187, 6, 38, 0, true)]
theorem ftX6_ok : ∀ x ∈ ftX6, FTg RX6 false x := by decide +kernel
theorem ftX6_9 : lkp ftX6 9 = some (6, 13, 1, false) := rfl
theorem ftX6_13 : lkp ftX6 13 = some (6, 14, 1, false) := rfl
theorem ftX6_16 : lkp ftX6 16 = some (6, 15, 1, false) := rfl
theorem ftX6_19 : lkp ftX6 19 = some (6, 16, 1, false) := rfl
theorem ftX6_22 : lkp ftX6 22 = some (6, 17, 1, false) := rfl
theorem ftX6_25 : lkp ftX6 25 = some (6, 18, 1, false) := rfl
theorem ftX6_29 : lkp ftX6 29 = some (6, 19, 1, false) := rfl
theorem ftX6_32 : lkp ftX6 32 = some (6, 20, 1, false) := rfl
theorem ftX6_35 : lkp ftX6 35 = some (6, 21, 1, false) := rfl
theorem ftX6_38 : lkp ftX6 38 = some (6, 22, 1, false) := rfl
theorem ftX6_41 : lkp ftX6 41 = some (6, 23, 1, false) := rfl
theorem ftX6_45 : lkp ftX6 45 = some (6, 24, 1, false) := rfl
theorem ftX6_48 : lkp ftX6 48 = some (6, 25, 1, false) := rfl
theorem ftX6_51 : lkp ftX6 51 = some (6, 26, 1, false) := rfl
theorem ftX6_54 : lkp ftX6 54 = some (6, 27, 1, false) := rfl
theorem ftX6_57 : lkp ftX6 57 = some (6, 28, 1, false) := rfl
theorem ftX6_60 : lkp ftX6 60 = some (6, 29, 1, false) := rfl
theorem ftX6_63 : lkp ftX6 63 = some (6, 30, 1, false) := rfl
theorem ftX6_66 : lkp ftX6 66 = some (6, 31, 1, false) := rfl
theorem ftX6_69 : lkp ftX6 69 = some (6, 32, 1, false) := rfl
theorem ftX6_72 : lkp ftX6 72 = some (6, 33, 1, false) := rfl
theorem ftX6_75 : lkp ftX6 75 = some (6, 34, 1, false) := rfl
theorem ftX6_78 : lkp ftX6 78 = some (6, 35, 1, false) := rfl
theorem ftX6_81 : lkp ftX6 81 = some (6, 37, 1, false) := rfl
theorem ftX6_88 : lkp ftX6 88 = some (6, 0, 0, true) := rfl
theorem ftX6_96 : lkp ftX6 96 = some (6, 1, 0, true) := rfl
theorem ftX6_99 : lkp ftX6 99 = some (6, 2, 0, true) := rfl
theorem ftX6_102 : lkp ftX6 102 = some (6, 3, 0, true) := rfl
theorem ftX6_105 : lkp ftX6 105 = some (6, 4, 0, true) := rfl
theorem ftX6_108 : lkp ftX6 108 = some (6, 5, 0, true) := rfl
theorem ftX6_111 : lkp ftX6 111 = some (6, 6, 0, true) := rfl
theorem ftX6_114 : lkp ftX6 114 = some (6, 7, 0, true) := rfl
theorem ftX6_117 : lkp ftX6 117 = some (6, 8, 0, true) := rfl
theorem ftX6_120 : lkp ftX6 120 = some (6, 9, 0, true) := rfl
theorem ftX6_123 : lkp ftX6 123 = some (6, 10, 0, true) := rfl
theorem ftX6_126 : lkp ftX6 126 = some (6, 11, 0, true) := rfl
theorem ftX6_129 : lkp ftX6 129 = some (6, 12, 0, true) := rfl
theorem ftX6_136 : lkp ftX6 136 = some (6, 36, 0, true) := rfl
theorem ftX6_187 : lkp ftX6 187 = some (6, 38, 0, true) := rfl
def ftX6i : FTb := [(9, 6, 13, 1, true), (13, 6, 14, 1, true), (16, 6, 15, 1, true), (19, 6, 16, 1, true), (22, 6, 17, 1, true), (25, 6, 18, 1, true), (29, 6, 19, 1, true), (32, 6, 20, 1, true), (35, 6, 21, 1, true), (38, 6, 22, 1, true), (41, 6, 23, 1, true), (45, 6, 24, 1, true), (48, 6, 25, 1, true), (51, 6, 26, 1, true), (54, 6, 27, 1, true), (57, 6, 28, 1, true), (60, 6, 29, 1, true), (63, 6, 30, 1, true), (66, 6, 31, 1, true), (69, 6, 32, 1, true), (72, 6, 33, 1, true), (75, 6, 34, 1, true), (78, 6, 35, 1, true), (81, 6, 37, 1, true), (88, 6, 0, 0, true), (96, 6, 1, 0, true), (99, 6, 2, 0, true), (102, 6, 3, 0, true), (105, 6, 4, 0, true), (108, 6, 5, 0, true), (111, 6, 6, 0, true), (114, 6, 7, 0, true), (117, 6, 8, 0, true), (120, 6, 9, 0, true), (123, 6, 10, 0, true), (126, 6, 11, 0, true), (129, 6, 12, 0, true), (136, 6, 36, 0, true), (187, 6, 38, 0, true)]
theorem ftX6i_ok : ∀ x ∈ ftX6i, FTg RX6 true x := by decide +kernel
theorem ftX6i_9 : lkp ftX6i 9 = some (6, 13, 1, true) := rfl
theorem ftX6i_13 : lkp ftX6i 13 = some (6, 14, 1, true) := rfl
theorem ftX6i_16 : lkp ftX6i 16 = some (6, 15, 1, true) := rfl
theorem ftX6i_19 : lkp ftX6i 19 = some (6, 16, 1, true) := rfl
theorem ftX6i_22 : lkp ftX6i 22 = some (6, 17, 1, true) := rfl
theorem ftX6i_25 : lkp ftX6i 25 = some (6, 18, 1, true) := rfl
theorem ftX6i_29 : lkp ftX6i 29 = some (6, 19, 1, true) := rfl
theorem ftX6i_32 : lkp ftX6i 32 = some (6, 20, 1, true) := rfl
theorem ftX6i_35 : lkp ftX6i 35 = some (6, 21, 1, true) := rfl
theorem ftX6i_38 : lkp ftX6i 38 = some (6, 22, 1, true) := rfl
theorem ftX6i_41 : lkp ftX6i 41 = some (6, 23, 1, true) := rfl
theorem ftX6i_45 : lkp ftX6i 45 = some (6, 24, 1, true) := rfl
theorem ftX6i_48 : lkp ftX6i 48 = some (6, 25, 1, true) := rfl
theorem ftX6i_51 : lkp ftX6i 51 = some (6, 26, 1, true) := rfl
theorem ftX6i_54 : lkp ftX6i 54 = some (6, 27, 1, true) := rfl
theorem ftX6i_57 : lkp ftX6i 57 = some (6, 28, 1, true) := rfl
theorem ftX6i_60 : lkp ftX6i 60 = some (6, 29, 1, true) := rfl
theorem ftX6i_63 : lkp ftX6i 63 = some (6, 30, 1, true) := rfl
theorem ftX6i_66 : lkp ftX6i 66 = some (6, 31, 1, true) := rfl
theorem ftX6i_69 : lkp ftX6i 69 = some (6, 32, 1, true) := rfl
theorem ftX6i_72 : lkp ftX6i 72 = some (6, 33, 1, true) := rfl
theorem ftX6i_75 : lkp ftX6i 75 = some (6, 34, 1, true) := rfl
theorem ftX6i_78 : lkp ftX6i 78 = some (6, 35, 1, true) := rfl
theorem ftX6i_81 : lkp ftX6i 81 = some (6, 37, 1, true) := rfl
theorem ftX6i_88 : lkp ftX6i 88 = some (6, 0, 0, true) := rfl
theorem ftX6i_96 : lkp ftX6i 96 = some (6, 1, 0, true) := rfl
theorem ftX6i_99 : lkp ftX6i 99 = some (6, 2, 0, true) := rfl
theorem ftX6i_102 : lkp ftX6i 102 = some (6, 3, 0, true) := rfl
theorem ftX6i_105 : lkp ftX6i 105 = some (6, 4, 0, true) := rfl
theorem ftX6i_108 : lkp ftX6i 108 = some (6, 5, 0, true) := rfl
theorem ftX6i_111 : lkp ftX6i 111 = some (6, 6, 0, true) := rfl
theorem ftX6i_114 : lkp ftX6i 114 = some (6, 7, 0, true) := rfl
theorem ftX6i_117 : lkp ftX6i 117 = some (6, 8, 0, true) := rfl
theorem ftX6i_120 : lkp ftX6i 120 = some (6, 9, 0, true) := rfl
theorem ftX6i_123 : lkp ftX6i 123 = some (6, 10, 0, true) := rfl
theorem ftX6i_126 : lkp ftX6i 126 = some (6, 11, 0, true) := rfl
theorem ftX6i_129 : lkp ftX6i 129 = some (6, 12, 0, true) := rfl
theorem ftX6i_136 : lkp ftX6i 136 = some (6, 36, 0, true) := rfl
theorem ftX6i_187 : lkp ftX6i 187 = some (6, 38, 0, true) := rfl
def ntL : List (Nat × Nat) := [(8, 5), (47, 6)]
theorem ntL_ok : ∀ x ∈ ntL, NTg RL x := by decide +kernel
theorem ntL_8 : lkp ntL 8 = some 5 := rfl
theorem ntL_47 : lkp ntL 47 = some 6 := rfl
def ntX5 : List (Nat × Nat) := [(20, 3)]
theorem ntX5_ok : ∀ x ∈ ntX5, NTg RX5 x := by decide +kernel
theorem ntX5_20 : lkp ntX5 20 = some 3 := rfl
def ntX3 : List (Nat × Nat) := [(9, 1), (17, 4), (64, 0)]
theorem ntX3_ok : ∀ x ∈ ntX3, NTg RX3 x := by decide +kernel
theorem ntX3_9 : lkp ntX3 9 = some 1 := rfl
theorem ntX3_17 : lkp ntX3 17 = some 4 := rfl
theorem ntX3_64 : lkp ntX3 64 = some 0 := rfl
def ntX0 : List (Nat × Nat) := [(9, 2)]
theorem ntX0_ok : ∀ x ∈ ntX0, NTg RX0 x := by decide +kernel
theorem ntX0_9 : lkp ntX0 9 = some 2 := rfl
theorem oiX5 : Cond.methodLink RX5 3 objectInit ∈ lwG := by decide +kernel
theorem oiX3 : Cond.methodLink RX3 3 objectInit ∈ lwG := by decide +kernel
theorem oiX0 : Cond.methodLink RX0 3 objectInit ∈ lwG := by decide +kernel
theorem oiX2 : Cond.methodLink RX2 1 objectInit ∈ lwG := by decide +kernel
theorem oiX4 : Cond.methodLink RX4 3 objectInit ∈ lwG := by decide +kernel
theorem oiX1 : Cond.methodLink RX1 3 objectInit ∈ lwG := by decide +kernel
theorem oiX6 : Cond.methodLink RX6 3 objectInit ∈ lwG := by decide +kernel

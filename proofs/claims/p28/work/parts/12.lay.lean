theorem fp_0_0 : fp 0 0 = some (33, 0) := rfl
theorem fp_0_1 : fp 0 1 = none := rfl
theorem iz_0_1 : isZ 0 1 = false := rfl
theorem fp_0_2 : fp 0 2 = none := rfl
theorem iz_0_2 : isZ 0 2 = false := rfl
theorem fp_1_0 : fp 1 0 = some (15, 0) := rfl
theorem fp_1_1 : fp 1 1 = some (16, 0) := rfl
theorem fp_1_2 : fp 1 2 = some (17, 0) := rfl
theorem fp_1_3 : fp 1 3 = some (18, 0) := rfl
theorem fp_1_4 : fp 1 4 = some (19, 0) := rfl
theorem fp_1_5 : fp 1 5 = some (20, 0) := rfl
theorem fp_1_6 : fp 1 6 = some (21, 0) := rfl
theorem fp_1_7 : fp 1 7 = some (22, 0) := rfl
theorem fp_1_8 : fp 1 8 = none := rfl
theorem iz_1_8 : isZ 1 8 = false := rfl
theorem fp_1_9 : fp 1 9 = none := rfl
theorem iz_1_9 : isZ 1 9 = false := rfl
theorem fp_1_10 : fp 1 10 = some (23, 0) := rfl
theorem fp_1_11 : fp 1 11 = none := rfl
theorem iz_1_11 : isZ 1 11 = false := rfl
theorem fp_1_12 : fp 1 12 = some (24, 0) := rfl
theorem fp_1_13 : fp 1 13 = some (25, 0) := rfl
theorem fp_1_14 : fp 1 14 = some (26, 0) := rfl
theorem fp_2_0 : fp 2 0 = some (36, 0) := rfl
theorem fp_2_1 : fp 2 1 = none := rfl
theorem iz_2_1 : isZ 2 1 = false := rfl
theorem fp_2_2 : fp 2 2 = none := rfl
theorem iz_2_2 : isZ 2 2 = false := rfl
theorem fp_2_3 : fp 2 3 = none := rfl
theorem iz_2_3 : isZ 2 3 = false := rfl
theorem fp_3_0 : fp 3 0 = some (37, 0) := rfl
theorem fp_3_1 : fp 3 1 = none := rfl
theorem iz_3_1 : isZ 3 1 = false := rfl
theorem fp_4_0 : fp 4 0 = some (1, 2) := rfl
theorem fp_4_1 : fp 4 1 = none := rfl
theorem iz_4_1 : isZ 4 1 = true := rfl
theorem fp_4_2 : fp 4 2 = none := rfl
theorem iz_4_2 : isZ 4 2 = false := rfl
theorem fp_4_3 : fp 4 3 = some (27, 0) := rfl
theorem fp_4_4 : fp 4 4 = some (28, 0) := rfl
theorem fp_4_5 : fp 4 5 = some (29, 0) := rfl
theorem fp_4_6 : fp 4 6 = some (30, 0) := rfl
theorem fp_4_7 : fp 4 7 = some (31, 0) := rfl
theorem fp_5_0 : fp 5 0 = none := rfl
theorem iz_5_0 : isZ 5 0 = false := rfl
theorem fp_5_1 : fp 5 1 = some (8, 0) := rfl
theorem fp_5_2 : fp 5 2 = some (9, 0) := rfl
theorem fp_5_3 : fp 5 3 = some (10, 0) := rfl
theorem fp_5_4 : fp 5 4 = some (11, 0) := rfl
theorem fp_5_5 : fp 5 5 = some (12, 0) := rfl
theorem fp_5_6 : fp 5 6 = some (13, 0) := rfl
theorem fp_5_7 : fp 5 7 = some (14, 0) := rfl
theorem fp_6_0 : fp 6 0 = some (5, 0) := rfl
theorem fp_6_1 : fp 6 1 = some (5, 1) := rfl
theorem fp_6_2 : fp 6 2 = some (0, 0) := rfl
theorem fp_6_3 : fp 6 3 = some (34, 0) := rfl
theorem fp_6_4 : fp 6 4 = some (35, 0) := rfl
theorem fp_6_5 : fp 6 5 = some (2, 0) := rfl
theorem fp_6_6 : fp 6 6 = some (1, 0) := rfl
theorem fp_6_7 : fp 6 7 = some (3, 0) := rfl
theorem fp_6_8 : fp 6 8 = none := rfl
theorem iz_6_8 : isZ 6 8 = true := rfl
theorem fp_6_9 : fp 6 9 = none := rfl
theorem iz_6_9 : isZ 6 9 = true := rfl
theorem fp_6_10 : fp 6 10 = some (1, 1) := rfl
theorem fp_6_11 : fp 6 11 = some (4, 0) := rfl
theorem fp_6_12 : fp 6 12 = some (4, 1) := rfl
theorem fp_6_13 : fp 6 13 = none := rfl
theorem iz_6_13 : isZ 6 13 = false := rfl
theorem fp_6_14 : fp 6 14 = none := rfl
theorem iz_6_14 : isZ 6 14 = false := rfl
theorem fp_6_15 : fp 6 15 = none := rfl
theorem iz_6_15 : isZ 6 15 = false := rfl
theorem fp_7_0 : fp 7 0 = some (38, 0) := rfl
theorem fp_7_1 : fp 7 1 = some (39, 0) := rfl
theorem fp_7_2 : fp 7 2 = none := rfl
theorem iz_7_2 : isZ 7 2 = false := rfl
theorem fp_7_3 : fp 7 3 = some (40, 0) := rfl
theorem fp_7_4 : fp 7 4 = some (41, 0) := rfl
theorem fp_7_5 : fp 7 5 = some (42, 0) := rfl
theorem fp_7_6 : fp 7 6 = none := rfl
theorem iz_7_6 : isZ 7 6 = false := rfl
theorem fp_7_7 : fp 7 7 = some (43, 0) := rfl
theorem fp_7_8 : fp 7 8 = some (44, 0) := rfl
theorem fp_7_9 : fp 7 9 = some (45, 0) := rfl
theorem fp_7_10 : fp 7 10 = some (46, 0) := rfl
theorem fp_7_11 : fp 7 11 = some (47, 0) := rfl
theorem fp_7_12 : fp 7 12 = none := rfl
theorem iz_7_12 : isZ 7 12 = false := rfl
theorem fp_7_13 : fp 7 13 = some (48, 0) := rfl
theorem fp_7_14 : fp 7 14 = some (49, 0) := rfl
theorem fp_7_15 : fp 7 15 = some (50, 0) := rfl
theorem fp_7_16 : fp 7 16 = some (51, 0) := rfl
theorem fp_7_17 : fp 7 17 = some (52, 0) := rfl
theorem fp_7_18 : fp 7 18 = some (53, 0) := rfl
theorem fp_7_19 : fp 7 19 = some (54, 0) := rfl
theorem fp_7_20 : fp 7 20 = none := rfl
theorem iz_7_20 : isZ 7 20 = false := rfl
theorem fp_7_21 : fp 7 21 = none := rfl
theorem iz_7_21 : isZ 7 21 = true := rfl
theorem fp_7_22 : fp 7 22 = some (55, 0) := rfl
theorem fp_7_23 : fp 7 23 = none := rfl
theorem iz_7_23 : isZ 7 23 = false := rfl
theorem fp_7_24 : fp 7 24 = none := rfl
theorem iz_7_24 : isZ 7 24 = false := rfl
theorem ak_8 : ak 8 = some (0, 4) := rfl
theorem ak_9 : ak 9 = some (0, 4) := rfl
theorem ak_10 : ak 10 = some (0, 4) := rfl
theorem ak_11 : ak 11 = some (0, 16) := rfl
theorem ak_12 : ak 12 = some (0, 16) := rfl
theorem ak_13 : ak 13 = some (0, 4) := rfl
theorem ak_14 : ak 14 = some (0, 16) := rfl
theorem ak_15 : ak 15 = some (0, 4) := rfl
theorem ak_16 : ak 16 = some (0, 16) := rfl
theorem ak_17 : ak 17 = some (0, 16) := rfl
theorem ak_18 : ak 18 = some (0, 16) := rfl
theorem ak_19 : ak 19 = some (0, 16) := rfl
theorem ak_20 : ak 20 = some (0, 16) := rfl
theorem ak_21 : ak 21 = some (0, 16) := rfl
theorem ak_22 : ak 22 = some (0, 16) := rfl
theorem ak_23 : ak 23 = some (0, 16) := rfl
theorem ak_24 : ak 24 = some (0, 4) := rfl
theorem ak_25 : ak 25 = some (0, 4) := rfl
theorem ak_26 : ak 26 = some (0, 4) := rfl
theorem ak_27 : ak 27 = some (0, 16) := rfl
theorem ak_28 : ak 28 = some (0, 16) := rfl
theorem ak_29 : ak 29 = some (0, 16) := rfl
theorem ak_30 : ak 30 = some (0, 16) := rfl
theorem ak_31 : ak 31 = some (4, 25) := rfl
theorem ak_32 : ak 32 = some (0, 16) := rfl
theorem ak_33 : ak 33 = some (3, 6) := rfl
theorem ak_34 : ak 34 = some (3, 2) := rfl
theorem ak_35 : ak 35 = some (2, 2) := rfl
theorem ak_36 : ak 36 = some (1, 80) := rfl
theorem ak_37 : ak 37 = some (0, 16) := rfl
theorem ak_38 : ak 38 = some (0, 65) := rfl
theorem ak_39 : ak 39 = some (0, 390) := rfl
theorem ak_40 : ak 40 = some (0, 130) := rfl
theorem ak_41 : ak 41 = some (2, 2) := rfl
theorem ak_42 : ak 42 = some (0, 80) := rfl
theorem ak_43 : ak 43 = some (0, 16) := rfl
theorem ak_44 : ak 44 = some (2, 16) := rfl
theorem ak_45 : ak 45 = some (0, 16) := rfl
theorem ak_46 : ak 46 = some (0, 16) := rfl
theorem ak_47 : ak 47 = some (0, 16) := rfl
theorem ak_48 : ak 48 = some (0, 384) := rfl
theorem ak_49 : ak 49 = some (0, 4) := rfl
theorem ak_50 : ak 50 = some (0, 4) := rfl
theorem ak_51 : ak 51 = some (0, 16) := rfl
theorem ak_52 : ak 52 = some (0, 16) := rfl
theorem ak_53 : ak 53 = some (0, 16) := rfl
theorem ak_54 : ak 54 = some (0, 16) := rfl
theorem ak_55 : ak 55 = some (0, 60) := rfl
theorem ak_56 : ak 56 = none := rfl
theorem el31 (i j : Nat) : el 31 i j = (32, 25 * i + j) := rfl
theorem el33 (i j : Nat) : el 33 i j = (5, 2 + j) := rfl
theorem el34 (i j : Nat) : el 34 i j = (5, 8 + j) := rfl
theorem fv0 : ((0 : Fin 4) : Nat) = 0 := rfl
theorem fv1 : ((1 : Fin 4) : Nat) = 1 := rfl
theorem fv2 : ((2 : Fin 4) : Nat) = 2 := rfl
theorem fv3 : ((3 : Fin 4) : Nat) = 3 := rfl
theorem nc2 : ((2 : Nat) : Int) = 2 := rfl
theorem nc4 : ((4 : Nat) : Int) = 4 := rfl
theorem nc6 : ((6 : Nat) : Int) = 6 := rfl
theorem nc16 : ((16 : Nat) : Int) = 16 := rfl
theorem nc25 : ((25 : Nat) : Int) = 25 := rfl
theorem nc60 : ((60 : Nat) : Int) = 60 := rfl
theorem nc65 : ((65 : Nat) : Int) = 65 := rfl
theorem nc80 : ((80 : Nat) : Int) = 80 := rfl
theorem nc130 : ((130 : Nat) : Int) = 130 := rfl
theorem nc384 : ((384 : Nat) : Int) = 384 := rfl
theorem nc390 : ((390 : Nat) : Int) = 390 := rfl

/-! ENTRIES, one by one (written by wip/whole/gen03.py) -/
theorem ctab_0 : ctab.getD 0 [] = cd0 := rfl
theorem k0_0 : cod 0 0 = some (4, 0, 0, z0, 1) := by rw [cod, ctab_0]; rfl
theorem k0_1 : cod 0 1 = some (44, 0, 0, z0, 4) := by rw [cod, ctab_0]; rfl
theorem k0_4 : cod 0 4 = some (4, 0, 0, z0, 5) := by rw [cod, ctab_0]; rfl
theorem k0_5 : cod 0 5 = some (0, 0, 0, vi (5), 6) := by rw [cod, ctab_0]; rfl
theorem k0_6 : cod 0 6 = some (40, 10, 0, z0, 8) := by rw [cod, ctab_0]; rfl
theorem k0_8 : cod 0 8 = some (30, 9, 0, z0, 11) := by rw [cod, ctab_0]; rfl
theorem k0_11 : cod 0 11 = some (4, 0, 0, z0, 12) := by rw [cod, ctab_0]; rfl
theorem k0_12 : cod 0 12 = some (0, 0, 0, vi (5), 13) := by rw [cod, ctab_0]; rfl
theorem k0_13 : cod 0 13 = some (40, 11, 0, z0, 15) := by rw [cod, ctab_0]; rfl
theorem k0_15 : cod 0 15 = some (30, 9, 1, z0, 18) := by rw [cod, ctab_0]; rfl
theorem k0_18 : cod 0 18 = some (4, 0, 0, z0, 19) := by rw [cod, ctab_0]; rfl
theorem k0_19 : cod 0 19 = some (0, 0, 0, vi (6), 21) := by rw [cod, ctab_0]; rfl
theorem k0_21 : cod 0 21 = some (40, 12, 0, z0, 23) := by rw [cod, ctab_0]; rfl
theorem k0_23 : cod 0 23 = some (30, 9, 2, z0, 26) := by rw [cod, ctab_0]; rfl
theorem k0_26 : cod 0 26 = some (4, 0, 0, z0, 27) := by rw [cod, ctab_0]; rfl
theorem k0_27 : cod 0 27 = some (0, 0, 0, vi (6), 29) := by rw [cod, ctab_0]; rfl
theorem k0_29 : cod 0 29 = some (40, 13, 0, z0, 31) := by rw [cod, ctab_0]; rfl
theorem k0_31 : cod 0 31 = some (30, 9, 3, z0, 34) := by rw [cod, ctab_0]; rfl
theorem k0_34 : cod 0 34 = some (4, 0, 0, z0, 35) := by rw [cod, ctab_0]; rfl
theorem k0_35 : cod 0 35 = some (0, 0, 0, vi (6), 37) := by rw [cod, ctab_0]; rfl
theorem k0_37 : cod 0 37 = some (40, 14, 0, z0, 39) := by rw [cod, ctab_0]; rfl
theorem k0_39 : cod 0 39 = some (30, 9, 4, z0, 42) := by rw [cod, ctab_0]; rfl
theorem k0_42 : cod 0 42 = some (4, 0, 0, z0, 43) := by rw [cod, ctab_0]; rfl
theorem k0_43 : cod 0 43 = some (0, 0, 0, vi (6), 45) := by rw [cod, ctab_0]; rfl
theorem k0_45 : cod 0 45 = some (40, 15, 0, z0, 47) := by rw [cod, ctab_0]; rfl
theorem k0_47 : cod 0 47 = some (30, 9, 5, z0, 50) := by rw [cod, ctab_0]; rfl
theorem k0_50 : cod 0 50 = some (4, 0, 0, z0, 51) := by rw [cod, ctab_0]; rfl
theorem k0_51 : cod 0 51 = some (0, 0, 0, vi (6), 53) := by rw [cod, ctab_0]; rfl
theorem k0_53 : cod 0 53 = some (40, 16, 0, z0, 55) := by rw [cod, ctab_0]; rfl
theorem k0_55 : cod 0 55 = some (30, 9, 6, z0, 58) := by rw [cod, ctab_0]; rfl
theorem k0_58 : cod 0 58 = some (4, 0, 0, z0, 59) := by rw [cod, ctab_0]; rfl
theorem k0_59 : cod 0 59 = some (0, 0, 0, vi (1000), 62) := by rw [cod, ctab_0]; rfl
theorem k0_62 : cod 0 62 = some (40, 17, 0, z0, 64) := by rw [cod, ctab_0]; rfl
theorem k0_64 : cod 0 64 = some (30, 9, 7, z0, 67) := by rw [cod, ctab_0]; rfl
theorem k0_67 : cod 0 67 = some (4, 0, 0, z0, 68) := by rw [cod, ctab_0]; rfl
theorem k0_68 : cod 0 68 = some (0, 0, 0, vi (32), 70) := by rw [cod, ctab_0]; rfl
theorem k0_70 : cod 0 70 = some (40, 18, 0, z0, 72) := by rw [cod, ctab_0]; rfl
theorem k0_72 : cod 0 72 = some (30, 9, 8, z0, 75) := by rw [cod, ctab_0]; rfl
theorem k0_75 : cod 0 75 = some (4, 0, 0, z0, 76) := by rw [cod, ctab_0]; rfl
theorem k0_76 : cod 0 76 = some (0, 0, 0, vi (3), 77) := by rw [cod, ctab_0]; rfl
theorem k0_77 : cod 0 77 = some (30, 9, 11, z0, 80) := by rw [cod, ctab_0]; rfl
theorem k0_80 : cod 0 80 = some (4, 0, 0, z0, 81) := by rw [cod, ctab_0]; rfl
theorem k0_81 : cod 0 81 = some (0, 0, 0, vi (60), 83) := by rw [cod, ctab_0]; rfl
theorem k0_83 : cod 0 83 = some (30, 9, 12, z0, 86) := by rw [cod, ctab_0]; rfl
theorem k0_86 : cod 0 86 = some (35, 0, 0, z0, 87) := by rw [cod, ctab_0]; rfl
theorem ctab_1 : ctab.getD 1 [] = cd1 := rfl
theorem k1_0 : cod 1 0 = some (4, 0, 0, z0, 1) := by rw [cod, ctab_1]; rfl
theorem k1_1 : cod 1 1 = some (0, 0, 0, z0, 2) := by rw [cod, ctab_1]; rfl
theorem k1_2 : cod 1 2 = some (30, 9, 9, z0, 5) := by rw [cod, ctab_1]; rfl
theorem k1_5 : cod 1 5 = some (4, 0, 0, z0, 6) := by rw [cod, ctab_1]; rfl
theorem k1_6 : cod 1 6 = some (0, 0, 0, z0, 7) := by rw [cod, ctab_1]; rfl
theorem k1_7 : cod 1 7 = some (30, 9, 10, z0, 10) := by rw [cod, ctab_1]; rfl
theorem k1_10 : cod 1 10 = some (4, 0, 0, z0, 11) := by rw [cod, ctab_1]; rfl
theorem k1_11 : cod 1 11 = some (0, 0, 0, vi (3), 12) := by rw [cod, ctab_1]; rfl
theorem k1_12 : cod 1 12 = some (30, 9, 11, z0, 15) := by rw [cod, ctab_1]; rfl
theorem k1_15 : cod 1 15 = some (4, 0, 0, z0, 16) := by rw [cod, ctab_1]; rfl
theorem k1_16 : cod 1 16 = some (0, 0, 0, vi (60), 18) := by rw [cod, ctab_1]; rfl
theorem k1_18 : cod 1 18 = some (30, 9, 12, z0, 21) := by rw [cod, ctab_1]; rfl
theorem k1_21 : cod 1 21 = some (4, 0, 0, z0, 22) := by rw [cod, ctab_1]; rfl
theorem k1_22 : cod 1 22 = some (0, 0, 0, z0, 23) := by rw [cod, ctab_1]; rfl
theorem k1_23 : cod 1 23 = some (30, 9, 13, z0, 26) := by rw [cod, ctab_1]; rfl
theorem k1_26 : cod 1 26 = some (35, 0, 0, z0, 27) := by rw [cod, ctab_1]; rfl
theorem ctab_2 : ctab.getD 2 [] = cd2 := rfl
theorem k2_0 : cod 2 0 = some (4, 0, 0, z0, 1) := by rw [cod, ctab_2]; rfl
theorem k2_1 : cod 2 1 = some (29, 9, 9, z0, 4) := by rw [cod, ctab_2]; rfl
theorem k2_4 : cod 2 4 = some (0, 0, 0, vi (5), 5) := by rw [cod, ctab_2]; rfl
theorem k2_5 : cod 2 5 = some (28, 3, 38, z0, 8) := by rw [cod, ctab_2]; rfl
theorem k2_8 : cod 2 8 = some (4, 0, 0, z0, 9) := by rw [cod, ctab_2]; rfl
theorem k2_9 : cod 2 9 = some (29, 9, 0, z0, 12) := by rw [cod, ctab_2]; rfl
theorem k2_12 : cod 2 12 = some (4, 0, 0, z0, 13) := by rw [cod, ctab_2]; rfl
theorem k2_13 : cod 2 13 = some (29, 9, 9, z0, 16) := by rw [cod, ctab_2]; rfl
theorem k2_16 : cod 2 16 = some (3, 1, 0, z0, 17) := by rw [cod, ctab_2]; rfl
theorem k2_17 : cod 2 17 = some (32, 4, 0, z0, 18) := by rw [cod, ctab_2]; rfl
theorem k2_18 : cod 2 18 = some (4, 0, 0, z0, 19) := by rw [cod, ctab_2]; rfl
theorem k2_19 : cod 2 19 = some (29, 9, 1, z0, 22) := by rw [cod, ctab_2]; rfl
theorem k2_22 : cod 2 22 = some (4, 0, 0, z0, 23) := by rw [cod, ctab_2]; rfl
theorem k2_23 : cod 2 23 = some (29, 9, 9, z0, 26) := by rw [cod, ctab_2]; rfl
theorem k2_26 : cod 2 26 = some (0, 0, 0, z0, 27) := by rw [cod, ctab_2]; rfl
theorem k2_27 : cod 2 27 = some (32, 1, 0, z0, 28) := by rw [cod, ctab_2]; rfl
theorem k2_28 : cod 2 28 = some (4, 0, 0, z0, 29) := by rw [cod, ctab_2]; rfl
theorem k2_29 : cod 2 29 = some (23, 0, 0, z0, 30) := by rw [cod, ctab_2]; rfl
theorem k2_30 : cod 2 30 = some (29, 9, 9, z0, 33) := by rw [cod, ctab_2]; rfl
theorem k2_33 : cod 2 33 = some (0, 0, 0, vi (1), 34) := by rw [cod, ctab_2]; rfl
theorem k2_34 : cod 2 34 = some (9, 0, 0, z0, 35) := by rw [cod, ctab_2]; rfl
theorem k2_35 : cod 2 35 = some (30, 9, 9, z0, 38) := by rw [cod, ctab_2]; rfl
theorem k2_38 : cod 2 38 = some (35, 0, 0, z0, 39) := by rw [cod, ctab_2]; rfl
theorem ctab_3 : ctab.getD 3 [] = cd3 := rfl
theorem k3_0 : cod 3 0 = some (4, 0, 0, z0, 1) := by rw [cod, ctab_3]; rfl
theorem k3_1 : cod 3 1 = some (29, 9, 10, z0, 4) := by rw [cod, ctab_3]; rfl
theorem k3_4 : cod 3 4 = some (0, 0, 0, vi (6), 6) := by rw [cod, ctab_3]; rfl
theorem k3_6 : cod 3 6 = some (28, 3, 39, z0, 9) := by rw [cod, ctab_3]; rfl
theorem k3_9 : cod 3 9 = some (4, 0, 0, z0, 10) := by rw [cod, ctab_3]; rfl
theorem k3_10 : cod 3 10 = some (29, 9, 2, z0, 13) := by rw [cod, ctab_3]; rfl
theorem k3_13 : cod 3 13 = some (4, 0, 0, z0, 14) := by rw [cod, ctab_3]; rfl
theorem k3_14 : cod 3 14 = some (29, 9, 10, z0, 17) := by rw [cod, ctab_3]; rfl
theorem k3_17 : cod 3 17 = some (3, 1, 0, z0, 18) := by rw [cod, ctab_3]; rfl
theorem k3_18 : cod 3 18 = some (32, 4, 0, z0, 19) := by rw [cod, ctab_3]; rfl
theorem k3_19 : cod 3 19 = some (4, 0, 0, z0, 20) := by rw [cod, ctab_3]; rfl
theorem k3_20 : cod 3 20 = some (29, 9, 6, z0, 23) := by rw [cod, ctab_3]; rfl
theorem k3_23 : cod 3 23 = some (4, 0, 0, z0, 24) := by rw [cod, ctab_3]; rfl
theorem k3_24 : cod 3 24 = some (29, 9, 10, z0, 27) := by rw [cod, ctab_3]; rfl
theorem k3_27 : cod 3 27 = some (0, 0, 0, z0, 28) := by rw [cod, ctab_3]; rfl
theorem k3_28 : cod 3 28 = some (32, 1, 0, z0, 29) := by rw [cod, ctab_3]; rfl
theorem k3_29 : cod 3 29 = some (4, 0, 0, z0, 30) := by rw [cod, ctab_3]; rfl
theorem k3_30 : cod 3 30 = some (23, 0, 0, z0, 31) := by rw [cod, ctab_3]; rfl
theorem k3_31 : cod 3 31 = some (29, 9, 10, z0, 34) := by rw [cod, ctab_3]; rfl
theorem k3_34 : cod 3 34 = some (0, 0, 0, vi (1), 35) := by rw [cod, ctab_3]; rfl
theorem k3_35 : cod 3 35 = some (9, 0, 0, z0, 36) := by rw [cod, ctab_3]; rfl
theorem k3_36 : cod 3 36 = some (30, 9, 10, z0, 39) := by rw [cod, ctab_3]; rfl
theorem k3_39 : cod 3 39 = some (35, 0, 0, z0, 40) := by rw [cod, ctab_3]; rfl
theorem ctab_4 : ctab.getD 4 [] = cd4 := rfl
theorem k4_0 : cod 4 0 = some (0, 0, 0, z0, 1) := by rw [cod, ctab_4]; rfl
theorem k4_1 : cod 4 1 = some (5, 3, 0, z0, 2) := by rw [cod, ctab_4]; rfl
theorem k4_2 : cod 4 2 = some (2, 3, 0, z0, 3) := by rw [cod, ctab_4]; rfl
theorem k4_3 : cod 4 3 = some (4, 0, 0, z0, 4) := by rw [cod, ctab_4]; rfl
theorem k4_4 : cod 4 4 = some (29, 9, 9, z0, 7) := by rw [cod, ctab_4]; rfl
theorem k4_7 : cod 4 7 = some (28, 3, 29, z0, 10) := by rw [cod, ctab_4]; rfl
theorem k4_10 : cod 4 10 = some (4, 0, 0, z0, 11) := by rw [cod, ctab_4]; rfl
theorem k4_11 : cod 4 11 = some (29, 9, 0, z0, 14) := by rw [cod, ctab_4]; rfl
theorem k4_14 : cod 4 14 = some (2, 3, 0, z0, 15) := by rw [cod, ctab_4]; rfl
theorem k4_15 : cod 4 15 = some (31, 4, 0, z0, 16) := by rw [cod, ctab_4]; rfl
theorem k4_16 : cod 4 16 = some (3, 1, 0, z0, 17) := by rw [cod, ctab_4]; rfl
theorem k4_17 : cod 4 17 = some (18, 0, 0, z0, 18) := by rw [cod, ctab_4]; rfl
theorem k4_18 : cod 4 18 = some (27, 1, 23, z0, 21) := by rw [cod, ctab_4]; rfl
theorem k4_21 : cod 4 21 = some (2, 3, 0, z0, 22) := by rw [cod, ctab_4]; rfl
theorem k4_22 : cod 4 22 = some (36, 1, 0, z0, 23) := by rw [cod, ctab_4]; rfl
theorem k4_23 : cod 4 23 = some (8, 3, 0, vi (1), 26) := by rw [cod, ctab_4]; rfl
theorem k4_26 : cod 4 26 = some (26, 2, 0, z0, 29) := by rw [cod, ctab_4]; rfl
theorem k4_29 : cod 4 29 = some (0, 0, 0, vi (-1), 30) := by rw [cod, ctab_4]; rfl
theorem k4_30 : cod 4 30 = some (36, 1, 0, z0, 31) := by rw [cod, ctab_4]; rfl
theorem ctab_5 : ctab.getD 5 [] = cd5 := rfl
theorem k5_0 : cod 5 0 = some (0, 0, 0, z0, 1) := by rw [cod, ctab_5]; rfl
theorem k5_1 : cod 5 1 = some (5, 3, 0, z0, 2) := by rw [cod, ctab_5]; rfl
theorem k5_2 : cod 5 2 = some (2, 3, 0, z0, 3) := by rw [cod, ctab_5]; rfl
theorem k5_3 : cod 5 3 = some (4, 0, 0, z0, 4) := by rw [cod, ctab_5]; rfl
theorem k5_4 : cod 5 4 = some (29, 9, 10, z0, 7) := by rw [cod, ctab_5]; rfl
theorem k5_7 : cod 5 7 = some (28, 3, 29, z0, 10) := by rw [cod, ctab_5]; rfl
theorem k5_10 : cod 5 10 = some (4, 0, 0, z0, 11) := by rw [cod, ctab_5]; rfl
theorem k5_11 : cod 5 11 = some (29, 9, 2, z0, 14) := by rw [cod, ctab_5]; rfl
theorem k5_14 : cod 5 14 = some (2, 3, 0, z0, 15) := by rw [cod, ctab_5]; rfl
theorem k5_15 : cod 5 15 = some (31, 4, 0, z0, 16) := by rw [cod, ctab_5]; rfl
theorem k5_16 : cod 5 16 = some (3, 1, 0, z0, 17) := by rw [cod, ctab_5]; rfl
theorem k5_17 : cod 5 17 = some (18, 0, 0, z0, 18) := by rw [cod, ctab_5]; rfl
theorem k5_18 : cod 5 18 = some (27, 1, 23, z0, 21) := by rw [cod, ctab_5]; rfl
theorem k5_21 : cod 5 21 = some (2, 3, 0, z0, 22) := by rw [cod, ctab_5]; rfl
theorem k5_22 : cod 5 22 = some (36, 1, 0, z0, 23) := by rw [cod, ctab_5]; rfl
theorem k5_23 : cod 5 23 = some (8, 3, 0, vi (1), 26) := by rw [cod, ctab_5]; rfl
theorem k5_26 : cod 5 26 = some (26, 2, 0, z0, 29) := by rw [cod, ctab_5]; rfl
theorem k5_29 : cod 5 29 = some (0, 0, 0, vi (-1), 30) := by rw [cod, ctab_5]; rfl
theorem k5_30 : cod 5 30 = some (36, 1, 0, z0, 31) := by rw [cod, ctab_5]; rfl
theorem ctab_6 : ctab.getD 6 [] = cd6 := rfl
theorem k6_0 : cod 6 0 = some (4, 0, 0, z0, 1) := by rw [cod, ctab_6]; rfl
theorem k6_1 : cod 6 1 = some (29, 9, 13, z0, 4) := by rw [cod, ctab_6]; rfl
theorem k6_4 : cod 6 4 = some (0, 0, 0, vi (1000), 7) := by rw [cod, ctab_6]; rfl
theorem k6_7 : cod 6 7 = some (28, 3, 30, z0, 10) := by rw [cod, ctab_6]; rfl
theorem k6_10 : cod 6 10 = some (4, 0, 0, z0, 11) := by rw [cod, ctab_6]; rfl
theorem k6_11 : cod 6 11 = some (29, 9, 7, z0, 14) := by rw [cod, ctab_6]; rfl
theorem k6_14 : cod 6 14 = some (4, 0, 0, z0, 15) := by rw [cod, ctab_6]; rfl
theorem k6_15 : cod 6 15 = some (29, 9, 13, z0, 18) := by rw [cod, ctab_6]; rfl
theorem k6_18 : cod 6 18 = some (2, 1, 0, z0, 19) := by rw [cod, ctab_6]; rfl
theorem k6_19 : cod 6 19 = some (32, 1, 0, z0, 20) := by rw [cod, ctab_6]; rfl
theorem k6_20 : cod 6 20 = some (4, 0, 0, z0, 21) := by rw [cod, ctab_6]; rfl
theorem k6_21 : cod 6 21 = some (23, 0, 0, z0, 22) := by rw [cod, ctab_6]; rfl
theorem k6_22 : cod 6 22 = some (29, 9, 13, z0, 25) := by rw [cod, ctab_6]; rfl
theorem k6_25 : cod 6 25 = some (0, 0, 0, vi (1), 26) := by rw [cod, ctab_6]; rfl
theorem k6_26 : cod 6 26 = some (9, 0, 0, z0, 27) := by rw [cod, ctab_6]; rfl
theorem k6_27 : cod 6 27 = some (30, 9, 13, z0, 30) := by rw [cod, ctab_6]; rfl
theorem k6_30 : cod 6 30 = some (35, 0, 0, z0, 31) := by rw [cod, ctab_6]; rfl
theorem ctab_7 : ctab.getD 7 [] = cd7 := rfl
theorem k7_0 : cod 7 0 = some (4, 0, 0, z0, 1) := by rw [cod, ctab_7]; rfl
theorem k7_1 : cod 7 1 = some (29, 9, 13, z0, 4) := by rw [cod, ctab_7]; rfl
theorem k7_4 : cod 7 4 = some (27, 1, 12, z0, 7) := by rw [cod, ctab_7]; rfl
theorem k7_7 : cod 7 7 = some (0, 0, 0, vi (30), 9) := by rw [cod, ctab_7]; rfl
theorem k7_9 : cod 7 9 = some (2, 1, 0, z0, 10) := by rw [cod, ctab_7]; rfl
theorem k7_10 : cod 7 10 = some (9, 1, 0, z0, 11) := by rw [cod, ctab_7]; rfl
theorem k7_11 : cod 7 11 = some (36, 1, 0, z0, 12) := by rw [cod, ctab_7]; rfl
theorem k7_12 : cod 7 12 = some (0, 0, 0, z0, 13) := by rw [cod, ctab_7]; rfl
theorem k7_13 : cod 7 13 = some (5, 5, 0, z0, 15) := by rw [cod, ctab_7]; rfl
theorem k7_15 : cod 7 15 = some (0, 0, 0, z0, 16) := by rw [cod, ctab_7]; rfl
theorem k7_16 : cod 7 16 = some (5, 6, 0, z0, 18) := by rw [cod, ctab_7]; rfl
theorem k7_18 : cod 7 18 = some (2, 6, 0, z0, 20) := by rw [cod, ctab_7]; rfl
theorem k7_20 : cod 7 20 = some (4, 0, 0, z0, 21) := by rw [cod, ctab_7]; rfl
theorem k7_21 : cod 7 21 = some (29, 9, 13, z0, 24) := by rw [cod, ctab_7]; rfl
theorem k7_24 : cod 7 24 = some (28, 3, 176, z0, 27) := by rw [cod, ctab_7]; rfl
theorem k7_27 : cod 7 27 = some (4, 0, 0, z0, 28) := by rw [cod, ctab_7]; rfl
theorem k7_28 : cod 7 28 = some (29, 9, 7, z0, 31) := by rw [cod, ctab_7]; rfl
theorem k7_31 : cod 7 31 = some (2, 6, 0, z0, 33) := by rw [cod, ctab_7]; rfl
theorem k7_33 : cod 7 33 = some (31, 1, 0, z0, 34) := by rw [cod, ctab_7]; rfl
theorem k7_34 : cod 7 34 = some (5, 7, 0, z0, 36) := by rw [cod, ctab_7]; rfl
theorem k7_36 : cod 7 36 = some (2, 7, 0, z0, 38) := by rw [cod, ctab_7]; rfl
theorem k7_38 : cod 7 38 = some (0, 0, 0, vi (-4), 40) := by rw [cod, ctab_7]; rfl
theorem k7_40 : cod 7 40 = some (28, 2, 83, z0, 43) := by rw [cod, ctab_7]; rfl
theorem k7_43 : cod 7 43 = some (2, 5, 0, z0, 45) := by rw [cod, ctab_7]; rfl
theorem k7_45 : cod 7 45 = some (0, 0, 0, vi (32), 47) := by rw [cod, ctab_7]; rfl
theorem k7_47 : cod 7 47 = some (28, 3, 83, z0, 50) := by rw [cod, ctab_7]; rfl
theorem k7_50 : cod 7 50 = some (4, 0, 0, z0, 51) := by rw [cod, ctab_7]; rfl
theorem k7_51 : cod 7 51 = some (29, 9, 8, z0, 54) := by rw [cod, ctab_7]; rfl
theorem k7_54 : cod 7 54 = some (2, 5, 0, z0, 56) := by rw [cod, ctab_7]; rfl
theorem k7_56 : cod 7 56 = some (2, 7, 0, z0, 58) := by rw [cod, ctab_7]; rfl
theorem k7_58 : cod 7 58 = some (27, 2, 66, z0, 61) := by rw [cod, ctab_7]; rfl
theorem k7_61 : cod 7 61 = some (2, 7, 0, z0, 63) := by rw [cod, ctab_7]; rfl
theorem k7_63 : cod 7 63 = some (26, 76, 0, z0, 66) := by rw [cod, ctab_7]; rfl
theorem k7_66 : cod 7 66 = some (2, 7, 0, z0, 68) := by rw [cod, ctab_7]; rfl
theorem k7_68 : cod 7 68 = some (2, 1, 0, z0, 69) := by rw [cod, ctab_7]; rfl
theorem k7_69 : cod 7 69 = some (2, 2, 0, z0, 70) := by rw [cod, ctab_7]; rfl
theorem k7_70 : cod 7 70 = some (2, 3, 0, z0, 71) := by rw [cod, ctab_7]; rfl
theorem k7_71 : cod 7 71 = some (2, 4, 0, z0, 73) := by rw [cod, ctab_7]; rfl
theorem k7_73 : cod 7 73 = some (34, 8, 5, z0, 76) := by rw [cod, ctab_7]; rfl
theorem k7_76 : cod 7 76 = some (32, 1, 0, z0, 77) := by rw [cod, ctab_7]; rfl
theorem k7_77 : cod 7 77 = some (8, 5, 0, vi (1), 80) := by rw [cod, ctab_7]; rfl
theorem k7_80 : cod 7 80 = some (26, 170, 0, z0, 83) := by rw [cod, ctab_7]; rfl
theorem k7_83 : cod 7 83 = some (2, 7, 0, z0, 85) := by rw [cod, ctab_7]; rfl
theorem k7_85 : cod 7 85 = some (0, 0, 0, vi (-5), 87) := by rw [cod, ctab_7]; rfl
theorem k7_87 : cod 7 87 = some (28, 1, 124, z0, 90) := by rw [cod, ctab_7]; rfl
theorem k7_90 : cod 7 90 = some (2, 5, 0, z0, 92) := by rw [cod, ctab_7]; rfl
theorem k7_92 : cod 7 92 = some (27, 5, 124, z0, 95) := by rw [cod, ctab_7]; rfl
theorem k7_95 : cod 7 95 = some (4, 0, 0, z0, 96) := by rw [cod, ctab_7]; rfl
theorem k7_96 : cod 7 96 = some (29, 9, 8, z0, 99) := by rw [cod, ctab_7]; rfl
theorem k7_99 : cod 7 99 = some (2, 5, 0, z0, 101) := by rw [cod, ctab_7]; rfl
theorem k7_101 : cod 7 101 = some (0, 0, 0, vi (1), 102) := by rw [cod, ctab_7]; rfl
theorem k7_102 : cod 7 102 = some (9, 1, 0, z0, 103) := by rw [cod, ctab_7]; rfl
theorem k7_103 : cod 7 103 = some (4, 0, 0, z0, 104) := by rw [cod, ctab_7]; rfl
theorem k7_104 : cod 7 104 = some (29, 9, 8, z0, 107) := by rw [cod, ctab_7]; rfl
theorem k7_107 : cod 7 107 = some (2, 5, 0, z0, 109) := by rw [cod, ctab_7]; rfl
theorem k7_109 : cod 7 109 = some (0, 0, 0, vi (1), 110) := by rw [cod, ctab_7]; rfl
theorem k7_110 : cod 7 110 = some (9, 1, 0, z0, 111) := by rw [cod, ctab_7]; rfl
theorem k7_111 : cod 7 111 = some (31, 1, 0, z0, 112) := by rw [cod, ctab_7]; rfl
theorem k7_112 : cod 7 112 = some (27, 1, 119, z0, 115) := by rw [cod, ctab_7]; rfl
theorem k7_115 : cod 7 115 = some (0, 0, 0, vi (1), 116) := by rw [cod, ctab_7]; rfl
theorem k7_116 : cod 7 116 = some (26, 120, 0, z0, 119) := by rw [cod, ctab_7]; rfl
theorem k7_119 : cod 7 119 = some (0, 0, 0, z0, 120) := by rw [cod, ctab_7]; rfl
theorem k7_120 : cod 7 120 = some (32, 1, 0, z0, 121) := by rw [cod, ctab_7]; rfl
theorem k7_121 : cod 7 121 = some (26, 170, 0, z0, 124) := by rw [cod, ctab_7]; rfl
theorem k7_124 : cod 7 124 = some (2, 7, 0, z0, 126) := by rw [cod, ctab_7]; rfl
theorem k7_126 : cod 7 126 = some (0, 0, 0, vi (-5), 128) := by rw [cod, ctab_7]; rfl
theorem k7_128 : cod 7 128 = some (28, 3, 170, z0, 131) := by rw [cod, ctab_7]; rfl
theorem k7_131 : cod 7 131 = some (2, 5, 0, z0, 133) := by rw [cod, ctab_7]; rfl
theorem k7_133 : cod 7 133 = some (0, 0, 0, vi (1), 134) := by rw [cod, ctab_7]; rfl
theorem k7_134 : cod 7 134 = some (28, 5, 170, z0, 137) := by rw [cod, ctab_7]; rfl
theorem k7_137 : cod 7 137 = some (8, 5, 0, vi (-1), 140) := by rw [cod, ctab_7]; rfl
theorem k7_140 : cod 7 140 = some (4, 0, 0, z0, 141) := by rw [cod, ctab_7]; rfl
theorem k7_141 : cod 7 141 = some (29, 9, 8, z0, 144) := by rw [cod, ctab_7]; rfl
theorem k7_144 : cod 7 144 = some (2, 5, 0, z0, 146) := by rw [cod, ctab_7]; rfl
theorem k7_146 : cod 7 146 = some (0, 0, 0, vi (1), 147) := by rw [cod, ctab_7]; rfl
theorem k7_147 : cod 7 147 = some (9, 1, 0, z0, 148) := by rw [cod, ctab_7]; rfl
theorem k7_148 : cod 7 148 = some (2, 7, 0, z0, 150) := by rw [cod, ctab_7]; rfl
theorem k7_150 : cod 7 150 = some (4, 0, 0, z0, 151) := by rw [cod, ctab_7]; rfl
theorem k7_151 : cod 7 151 = some (29, 9, 8, z0, 154) := by rw [cod, ctab_7]; rfl
theorem k7_154 : cod 7 154 = some (2, 5, 0, z0, 156) := by rw [cod, ctab_7]; rfl
theorem k7_156 : cod 7 156 = some (0, 0, 0, vi (1), 157) := by rw [cod, ctab_7]; rfl
theorem k7_157 : cod 7 157 = some (9, 1, 0, z0, 158) := by rw [cod, ctab_7]; rfl
theorem k7_158 : cod 7 158 = some (31, 1, 0, z0, 159) := by rw [cod, ctab_7]; rfl
theorem k7_159 : cod 7 159 = some (4, 0, 0, z0, 160) := by rw [cod, ctab_7]; rfl
theorem k7_160 : cod 7 160 = some (29, 9, 8, z0, 163) := by rw [cod, ctab_7]; rfl
theorem k7_163 : cod 7 163 = some (2, 5, 0, z0, 165) := by rw [cod, ctab_7]; rfl
theorem k7_165 : cod 7 165 = some (31, 1, 0, z0, 166) := by rw [cod, ctab_7]; rfl
theorem k7_166 : cod 7 166 = some (34, 9, 3, z0, 169) := by rw [cod, ctab_7]; rfl
theorem k7_169 : cod 7 169 = some (32, 1, 0, z0, 170) := by rw [cod, ctab_7]; rfl
theorem k7_170 : cod 7 170 = some (8, 6, 0, vi (1), 173) := by rw [cod, ctab_7]; rfl
theorem k7_173 : cod 7 173 = some (26, 18, 0, z0, 176) := by rw [cod, ctab_7]; rfl
theorem k7_176 : cod 7 176 = some (4, 0, 0, z0, 177) := by rw [cod, ctab_7]; rfl
theorem k7_177 : cod 7 177 = some (29, 9, 8, z0, 180) := by rw [cod, ctab_7]; rfl
theorem k7_180 : cod 7 180 = some (0, 0, 0, z0, 181) := by rw [cod, ctab_7]; rfl
theorem k7_181 : cod 7 181 = some (31, 1, 0, z0, 182) := by rw [cod, ctab_7]; rfl
theorem k7_182 : cod 7 182 = some (36, 1, 0, z0, 183) := by rw [cod, ctab_7]; rfl
theorem ctab_8 : ctab.getD 8 [] = cd8 := rfl
theorem k8_0 : cod 8 0 = some (2, 0, 0, z0, 1) := by rw [cod, ctab_8]; rfl
theorem k8_1 : cod 8 1 = some (38, 0, 0, z0, 28) := by rw [cod, ctab_8]; rfl
theorem k8_28 : cod 8 28 = some (2, 1, 0, z0, 29) := by rw [cod, ctab_8]; rfl
theorem k8_29 : cod 8 29 = some (36, 1, 0, z0, 30) := by rw [cod, ctab_8]; rfl
theorem k8_30 : cod 8 30 = some (2, 2, 0, z0, 31) := by rw [cod, ctab_8]; rfl
theorem k8_31 : cod 8 31 = some (36, 1, 0, z0, 32) := by rw [cod, ctab_8]; rfl
theorem k8_32 : cod 8 32 = some (2, 3, 0, z0, 33) := by rw [cod, ctab_8]; rfl
theorem k8_33 : cod 8 33 = some (36, 1, 0, z0, 34) := by rw [cod, ctab_8]; rfl
theorem k8_34 : cod 8 34 = some (2, 4, 0, z0, 36) := by rw [cod, ctab_8]; rfl
theorem k8_36 : cod 8 36 = some (36, 1, 0, z0, 37) := by rw [cod, ctab_8]; rfl
theorem ctab_9 : ctab.getD 9 [] = cd9 := rfl
theorem k9_0 : cod 9 0 = some (2, 0, 0, z0, 1) := by rw [cod, ctab_9]; rfl
theorem k9_1 : cod 9 1 = some (38, 1, 0, z0, 40) := by rw [cod, ctab_9]; rfl
theorem k9_40 : cod 9 40 = some (2, 1, 0, z0, 41) := by rw [cod, ctab_9]; rfl
theorem k9_41 : cod 9 41 = some (27, 0, 52, z0, 44) := by rw [cod, ctab_9]; rfl
theorem k9_44 : cod 9 44 = some (2, 2, 0, z0, 45) := by rw [cod, ctab_9]; rfl
theorem k9_45 : cod 9 45 = some (27, 0, 52, z0, 48) := by rw [cod, ctab_9]; rfl
theorem k9_48 : cod 9 48 = some (0, 0, 0, vi (1), 49) := by rw [cod, ctab_9]; rfl
theorem k9_49 : cod 9 49 = some (26, 53, 0, z0, 52) := by rw [cod, ctab_9]; rfl
theorem k9_52 : cod 9 52 = some (0, 0, 0, z0, 53) := by rw [cod, ctab_9]; rfl
theorem k9_53 : cod 9 53 = some (36, 1, 0, z0, 54) := by rw [cod, ctab_9]; rfl
theorem k9_54 : cod 9 54 = some (2, 1, 0, z0, 55) := by rw [cod, ctab_9]; rfl
theorem k9_55 : cod 9 55 = some (27, 1, 62, z0, 58) := by rw [cod, ctab_9]; rfl
theorem k9_58 : cod 9 58 = some (2, 2, 0, z0, 59) := by rw [cod, ctab_9]; rfl
theorem k9_59 : cod 9 59 = some (27, 0, 66, z0, 62) := by rw [cod, ctab_9]; rfl
theorem k9_62 : cod 9 62 = some (0, 0, 0, vi (1), 63) := by rw [cod, ctab_9]; rfl
theorem k9_63 : cod 9 63 = some (26, 67, 0, z0, 66) := by rw [cod, ctab_9]; rfl
theorem k9_66 : cod 9 66 = some (0, 0, 0, z0, 67) := by rw [cod, ctab_9]; rfl
theorem k9_67 : cod 9 67 = some (36, 1, 0, z0, 68) := by rw [cod, ctab_9]; rfl
theorem k9_68 : cod 9 68 = some (2, 1, 0, z0, 69) := by rw [cod, ctab_9]; rfl
theorem k9_69 : cod 9 69 = some (2, 2, 0, z0, 70) := by rw [cod, ctab_9]; rfl
theorem k9_70 : cod 9 70 = some (28, 3, 77, z0, 73) := by rw [cod, ctab_9]; rfl
theorem k9_73 : cod 9 73 = some (0, 0, 0, vi (1), 74) := by rw [cod, ctab_9]; rfl
theorem k9_74 : cod 9 74 = some (26, 78, 0, z0, 77) := by rw [cod, ctab_9]; rfl
theorem k9_77 : cod 9 77 = some (0, 0, 0, z0, 78) := by rw [cod, ctab_9]; rfl
theorem k9_78 : cod 9 78 = some (36, 1, 0, z0, 79) := by rw [cod, ctab_9]; rfl
theorem k9_79 : cod 9 79 = some (2, 1, 0, z0, 80) := by rw [cod, ctab_9]; rfl
theorem k9_80 : cod 9 80 = some (2, 2, 0, z0, 81) := by rw [cod, ctab_9]; rfl
theorem k9_81 : cod 9 81 = some (28, 1, 88, z0, 84) := by rw [cod, ctab_9]; rfl
theorem k9_84 : cod 9 84 = some (0, 0, 0, vi (1), 85) := by rw [cod, ctab_9]; rfl
theorem k9_85 : cod 9 85 = some (26, 89, 0, z0, 88) := by rw [cod, ctab_9]; rfl
theorem k9_88 : cod 9 88 = some (0, 0, 0, z0, 89) := by rw [cod, ctab_9]; rfl
theorem k9_89 : cod 9 89 = some (36, 1, 0, z0, 90) := by rw [cod, ctab_9]; rfl
theorem k9_90 : cod 9 90 = some (2, 1, 0, z0, 91) := by rw [cod, ctab_9]; rfl
theorem k9_91 : cod 9 91 = some (2, 2, 0, z0, 92) := by rw [cod, ctab_9]; rfl
theorem k9_92 : cod 9 92 = some (9, 0, 0, z0, 93) := by rw [cod, ctab_9]; rfl
theorem k9_93 : cod 9 93 = some (36, 1, 0, z0, 94) := by rw [cod, ctab_9]; rfl
theorem k9_94 : cod 9 94 = some (2, 1, 0, z0, 95) := by rw [cod, ctab_9]; rfl
theorem k9_95 : cod 9 95 = some (2, 2, 0, z0, 96) := by rw [cod, ctab_9]; rfl
theorem k9_96 : cod 9 96 = some (9, 1, 0, z0, 97) := by rw [cod, ctab_9]; rfl
theorem k9_97 : cod 9 97 = some (36, 1, 0, z0, 98) := by rw [cod, ctab_9]; rfl
theorem k9_98 : cod 9 98 = some (2, 1, 0, z0, 99) := by rw [cod, ctab_9]; rfl
theorem k9_99 : cod 9 99 = some (2, 2, 0, z0, 100) := by rw [cod, ctab_9]; rfl
theorem k9_100 : cod 9 100 = some (9, 2, 0, z0, 101) := by rw [cod, ctab_9]; rfl
theorem k9_101 : cod 9 101 = some (36, 1, 0, z0, 102) := by rw [cod, ctab_9]; rfl
theorem ctab_10 : ctab.getD 10 [] = cd10 := rfl
theorem k10_0 : cod 10 0 = some (4, 0, 0, z0, 1) := by rw [cod, ctab_10]; rfl
theorem k10_1 : cod 10 1 = some (44, 0, 0, z0, 4) := by rw [cod, ctab_10]; rfl
theorem k10_4 : cod 10 4 = some (4, 0, 0, z0, 5) := by rw [cod, ctab_10]; rfl
theorem k10_5 : cod 10 5 = some (4, 1, 0, z0, 6) := by rw [cod, ctab_10]; rfl
theorem k10_6 : cod 10 6 = some (30, 8, 0, z0, 9) := by rw [cod, ctab_10]; rfl
theorem k10_9 : cod 10 9 = some (35, 0, 0, z0, 10) := by rw [cod, ctab_10]; rfl
theorem ctab_11 : ctab.getD 11 [] = cd11 := rfl
theorem k11_0 : cod 11 0 = some (4, 1, 0, z0, 1) := by rw [cod, ctab_11]; rfl
theorem k11_1 : cod 11 1 = some (29, 9, 13, z0, 4) := by rw [cod, ctab_11]; rfl
theorem k11_4 : cod 11 4 = some (27, 5, 16, z0, 7) := by rw [cod, ctab_11]; rfl
theorem k11_7 : cod 11 7 = some (4, 0, 0, z0, 8) := by rw [cod, ctab_11]; rfl
theorem k11_8 : cod 11 8 = some (29, 8, 0, z0, 11) := by rw [cod, ctab_11]; rfl
theorem k11_11 : cod 11 11 = some (0, 0, 0, vi (3), 12) := by rw [cod, ctab_11]; rfl
theorem k11_12 : cod 11 12 = some (34, 78, 2, vr 5 0, 15) := by rw [cod, ctab_11]; rfl
theorem k11_15 : cod 11 15 = some (36, 2, 0, z0, 16) := by rw [cod, ctab_11]; rfl
theorem k11_16 : cod 11 16 = some (4, 0, 0, z0, 17) := by rw [cod, ctab_11]; rfl
theorem k11_17 : cod 11 17 = some (29, 8, 0, z0, 20) := by rw [cod, ctab_11]; rfl
theorem k11_20 : cod 11 20 = some (34, 69, 1, vr 5 0, 23) := by rw [cod, ctab_11]; rfl
theorem k11_23 : cod 11 23 = some (4, 0, 0, z0, 24) := by rw [cod, ctab_11]; rfl
theorem k11_24 : cod 11 24 = some (0, 0, 0, z0, 25) := by rw [cod, ctab_11]; rfl
theorem k11_25 : cod 11 25 = some (0, 0, 0, z0, 26) := by rw [cod, ctab_11]; rfl
theorem k11_26 : cod 11 26 = some (4, 1, 0, z0, 27) := by rw [cod, ctab_11]; rfl
theorem k11_27 : cod 11 27 = some (34, 12, 4, vr 8 0, 30) := by rw [cod, ctab_11]; rfl
theorem k11_30 : cod 11 30 = some (36, 2, 0, z0, 31) := by rw [cod, ctab_11]; rfl
theorem ctab_12 : ctab.getD 12 [] = cd12 := rfl
theorem k12_0 : cod 12 0 = some (2, 1, 0, z0, 1) := by rw [cod, ctab_12]; rfl
theorem k12_1 : cod 12 1 = some (0, 0, 0, vi (3), 2) := by rw [cod, ctab_12]; rfl
theorem k12_2 : cod 12 2 = some (28, 5, 12, z0, 5) := by rw [cod, ctab_12]; rfl
theorem k12_5 : cod 12 5 = some (4, 0, 0, z0, 6) := by rw [cod, ctab_12]; rfl
theorem k12_6 : cod 12 6 = some (2, 2, 0, z0, 7) := by rw [cod, ctab_12]; rfl
theorem k12_7 : cod 12 7 = some (4, 3, 0, z0, 8) := by rw [cod, ctab_12]; rfl
theorem k12_8 : cod 12 8 = some (34, 13, 3, vr 8 0, 11) := by rw [cod, ctab_12]; rfl
theorem k12_11 : cod 12 11 = some (36, 2, 0, z0, 12) := by rw [cod, ctab_12]; rfl
theorem k12_12 : cod 12 12 = some (4, 0, 0, z0, 13) := by rw [cod, ctab_12]; rfl
theorem k12_13 : cod 12 13 = some (2, 1, 0, z0, 14) := by rw [cod, ctab_12]; rfl
theorem k12_14 : cod 12 14 = some (0, 0, 0, vi (1), 15) := by rw [cod, ctab_12]; rfl
theorem k12_15 : cod 12 15 = some (9, 0, 0, z0, 16) := by rw [cod, ctab_12]; rfl
theorem k12_16 : cod 12 16 = some (2, 2, 0, z0, 17) := by rw [cod, ctab_12]; rfl
theorem k12_17 : cod 12 17 = some (4, 3, 0, z0, 18) := by rw [cod, ctab_12]; rfl
theorem k12_18 : cod 12 18 = some (34, 12, 4, vr 8 0, 21) := by rw [cod, ctab_12]; rfl
theorem k12_21 : cod 12 21 = some (27, 1, 26, z0, 24) := by rw [cod, ctab_12]; rfl
theorem k12_24 : cod 12 24 = some (0, 0, 0, z0, 25) := by rw [cod, ctab_12]; rfl
theorem k12_25 : cod 12 25 = some (36, 2, 0, z0, 26) := by rw [cod, ctab_12]; rfl
theorem k12_26 : cod 12 26 = some (0, 0, 0, z0, 27) := by rw [cod, ctab_12]; rfl
theorem k12_27 : cod 12 27 = some (5, 4, 0, z0, 29) := by rw [cod, ctab_12]; rfl
theorem k12_29 : cod 12 29 = some (2, 4, 0, z0, 31) := by rw [cod, ctab_12]; rfl
theorem k12_31 : cod 12 31 = some (0, 0, 0, vi (1000), 34) := by rw [cod, ctab_12]; rfl
theorem k12_34 : cod 12 34 = some (28, 3, 91, z0, 37) := by rw [cod, ctab_12]; rfl
theorem k12_37 : cod 12 37 = some (4, 0, 0, z0, 38) := by rw [cod, ctab_12]; rfl
theorem k12_38 : cod 12 38 = some (2, 1, 0, z0, 39) := by rw [cod, ctab_12]; rfl
theorem k12_39 : cod 12 39 = some (34, 15, 2, vr 8 0, 42) := by rw [cod, ctab_12]; rfl
theorem k12_42 : cod 12 42 = some (5, 5, 0, z0, 44) := by rw [cod, ctab_12]; rfl
theorem k12_44 : cod 12 44 = some (2, 5, 0, z0, 46) := by rw [cod, ctab_12]; rfl
theorem k12_46 : cod 12 46 = some (27, 1, 51, z0, 49) := by rw [cod, ctab_12]; rfl
theorem k12_49 : cod 12 49 = some (0, 0, 0, vi (1), 50) := by rw [cod, ctab_12]; rfl
theorem k12_50 : cod 12 50 = some (36, 2, 0, z0, 51) := by rw [cod, ctab_12]; rfl
theorem k12_51 : cod 12 51 = some (4, 0, 0, z0, 52) := by rw [cod, ctab_12]; rfl
theorem k12_52 : cod 12 52 = some (29, 8, 0, z0, 55) := by rw [cod, ctab_12]; rfl
theorem k12_55 : cod 12 55 = some (34, 69, 1, vr 5 0, 58) := by rw [cod, ctab_12]; rfl
theorem k12_58 : cod 12 58 = some (4, 0, 0, z0, 59) := by rw [cod, ctab_12]; rfl
theorem k12_59 : cod 12 59 = some (2, 1, 0, z0, 60) := by rw [cod, ctab_12]; rfl
theorem k12_60 : cod 12 60 = some (0, 0, 0, vi (1), 61) := by rw [cod, ctab_12]; rfl
theorem k12_61 : cod 12 61 = some (9, 0, 0, z0, 62) := by rw [cod, ctab_12]; rfl
theorem k12_62 : cod 12 62 = some (2, 2, 0, z0, 63) := by rw [cod, ctab_12]; rfl
theorem k12_63 : cod 12 63 = some (4, 3, 0, z0, 64) := by rw [cod, ctab_12]; rfl
theorem k12_64 : cod 12 64 = some (34, 12, 4, vr 8 0, 67) := by rw [cod, ctab_12]; rfl
theorem k12_67 : cod 12 67 = some (27, 1, 72, z0, 70) := by rw [cod, ctab_12]; rfl
theorem k12_70 : cod 12 70 = some (0, 0, 0, z0, 71) := by rw [cod, ctab_12]; rfl
theorem k12_71 : cod 12 71 = some (36, 2, 0, z0, 72) := by rw [cod, ctab_12]; rfl
theorem k12_72 : cod 12 72 = some (4, 3, 0, z0, 73) := by rw [cod, ctab_12]; rfl
theorem k12_73 : cod 12 73 = some (2, 5, 0, z0, 75) := by rw [cod, ctab_12]; rfl
theorem k12_75 : cod 12 75 = some (34, 6, 2, vr 9 0, 78) := by rw [cod, ctab_12]; rfl
theorem k12_78 : cod 12 78 = some (2, 1, 0, z0, 79) := by rw [cod, ctab_12]; rfl
theorem k12_79 : cod 12 79 = some (0, 0, 0, vi (1), 80) := by rw [cod, ctab_12]; rfl
theorem k12_80 : cod 12 80 = some (28, 1, 85, z0, 83) := by rw [cod, ctab_12]; rfl
theorem k12_83 : cod 12 83 = some (0, 0, 0, vi (1), 84) := by rw [cod, ctab_12]; rfl

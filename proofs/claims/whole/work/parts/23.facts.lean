/-! ENTRIES, one by one (written by wip/whole/gen03.py) -/
theorem ctab_0 : ctab.getD 0 [] = cd0 := rfl
theorem k0_0 : cod 0 0 = some (4, 0, 0, z0, 1) := by rw [cod, ctab_0]; rfl
theorem k0_1 : cod 0 1 = some (44, 0, 0, z0, 4) := by rw [cod, ctab_0]; rfl
theorem k0_4 : cod 0 4 = some (4, 0, 0, z0, 5) := by rw [cod, ctab_0]; rfl
theorem k0_5 : cod 0 5 = some (0, 0, 0, vi (5), 6) := by rw [cod, ctab_0]; rfl
theorem k0_6 : cod 0 6 = some (40, 10, 0, z0, 8) := by rw [cod, ctab_0]; rfl
theorem k0_8 : cod 0 8 = some (30, 9, 0, z0, 11) := by rw [cod, ctab_0]; rfl
theorem k0_11 : cod 0 11 = some (4, 0, 0, z0, 12) := by rw [cod, ctab_0]; rfl
theorem k0_12 : cod 0 12 = some (0, 0, 0, vi (5), 13) := by rw [cod, ctab_0]; rfl
theorem k0_13 : cod 0 13 = some (40, 11, 0, z0, 15) := by rw [cod, ctab_0]; rfl
theorem k0_15 : cod 0 15 = some (30, 9, 1, z0, 18) := by rw [cod, ctab_0]; rfl
theorem k0_18 : cod 0 18 = some (4, 0, 0, z0, 19) := by rw [cod, ctab_0]; rfl
theorem k0_19 : cod 0 19 = some (0, 0, 0, vi (6), 21) := by rw [cod, ctab_0]; rfl
theorem k0_21 : cod 0 21 = some (40, 12, 0, z0, 23) := by rw [cod, ctab_0]; rfl
theorem k0_23 : cod 0 23 = some (30, 9, 2, z0, 26) := by rw [cod, ctab_0]; rfl
theorem k0_26 : cod 0 26 = some (4, 0, 0, z0, 27) := by rw [cod, ctab_0]; rfl
theorem k0_27 : cod 0 27 = some (0, 0, 0, vi (6), 29) := by rw [cod, ctab_0]; rfl
theorem k0_29 : cod 0 29 = some (40, 13, 0, z0, 31) := by rw [cod, ctab_0]; rfl
theorem k0_31 : cod 0 31 = some (30, 9, 3, z0, 34) := by rw [cod, ctab_0]; rfl
theorem k0_34 : cod 0 34 = some (4, 0, 0, z0, 35) := by rw [cod, ctab_0]; rfl
theorem k0_35 : cod 0 35 = some (0, 0, 0, vi (6), 37) := by rw [cod, ctab_0]; rfl
theorem k0_37 : cod 0 37 = some (40, 14, 0, z0, 39) := by rw [cod, ctab_0]; rfl
theorem k0_39 : cod 0 39 = some (30, 9, 4, z0, 42) := by rw [cod, ctab_0]; rfl
theorem k0_42 : cod 0 42 = some (4, 0, 0, z0, 43) := by rw [cod, ctab_0]; rfl
theorem k0_43 : cod 0 43 = some (0, 0, 0, vi (6), 45) := by rw [cod, ctab_0]; rfl
theorem k0_45 : cod 0 45 = some (40, 15, 0, z0, 47) := by rw [cod, ctab_0]; rfl
theorem k0_47 : cod 0 47 = some (30, 9, 5, z0, 50) := by rw [cod, ctab_0]; rfl
theorem k0_50 : cod 0 50 = some (4, 0, 0, z0, 51) := by rw [cod, ctab_0]; rfl
theorem k0_51 : cod 0 51 = some (0, 0, 0, vi (6), 53) := by rw [cod, ctab_0]; rfl
theorem k0_53 : cod 0 53 = some (40, 16, 0, z0, 55) := by rw [cod, ctab_0]; rfl
theorem k0_55 : cod 0 55 = some (30, 9, 6, z0, 58) := by rw [cod, ctab_0]; rfl
theorem k0_58 : cod 0 58 = some (4, 0, 0, z0, 59) := by rw [cod, ctab_0]; rfl
theorem k0_59 : cod 0 59 = some (0, 0, 0, vi (1000), 62) := by rw [cod, ctab_0]; rfl
theorem k0_62 : cod 0 62 = some (40, 17, 0, z0, 64) := by rw [cod, ctab_0]; rfl
theorem k0_64 : cod 0 64 = some (30, 9, 7, z0, 67) := by rw [cod, ctab_0]; rfl
theorem k0_67 : cod 0 67 = some (4, 0, 0, z0, 68) := by rw [cod, ctab_0]; rfl
theorem k0_68 : cod 0 68 = some (0, 0, 0, vi (32), 70) := by rw [cod, ctab_0]; rfl
theorem k0_70 : cod 0 70 = some (40, 18, 0, z0, 72) := by rw [cod, ctab_0]; rfl
theorem k0_72 : cod 0 72 = some (30, 9, 8, z0, 75) := by rw [cod, ctab_0]; rfl
theorem k0_75 : cod 0 75 = some (4, 0, 0, z0, 76) := by rw [cod, ctab_0]; rfl
theorem k0_76 : cod 0 76 = some (0, 0, 0, vi (3), 77) := by rw [cod, ctab_0]; rfl
theorem k0_77 : cod 0 77 = some (30, 9, 11, z0, 80) := by rw [cod, ctab_0]; rfl
theorem k0_80 : cod 0 80 = some (4, 0, 0, z0, 81) := by rw [cod, ctab_0]; rfl
theorem k0_81 : cod 0 81 = some (0, 0, 0, vi (60), 83) := by rw [cod, ctab_0]; rfl
theorem k0_83 : cod 0 83 = some (30, 9, 12, z0, 86) := by rw [cod, ctab_0]; rfl
theorem k0_86 : cod 0 86 = some (35, 0, 0, z0, 87) := by rw [cod, ctab_0]; rfl
theorem ctab_1 : ctab.getD 1 [] = cd1 := rfl
theorem k1_0 : cod 1 0 = some (4, 0, 0, z0, 1) := by rw [cod, ctab_1]; rfl
theorem k1_1 : cod 1 1 = some (0, 0, 0, z0, 2) := by rw [cod, ctab_1]; rfl
theorem k1_2 : cod 1 2 = some (30, 9, 9, z0, 5) := by rw [cod, ctab_1]; rfl
theorem k1_5 : cod 1 5 = some (4, 0, 0, z0, 6) := by rw [cod, ctab_1]; rfl
theorem k1_6 : cod 1 6 = some (0, 0, 0, z0, 7) := by rw [cod, ctab_1]; rfl
theorem k1_7 : cod 1 7 = some (30, 9, 10, z0, 10) := by rw [cod, ctab_1]; rfl
theorem k1_10 : cod 1 10 = some (4, 0, 0, z0, 11) := by rw [cod, ctab_1]; rfl
theorem k1_11 : cod 1 11 = some (0, 0, 0, vi (3), 12) := by rw [cod, ctab_1]; rfl
theorem k1_12 : cod 1 12 = some (30, 9, 11, z0, 15) := by rw [cod, ctab_1]; rfl
theorem k1_15 : cod 1 15 = some (4, 0, 0, z0, 16) := by rw [cod, ctab_1]; rfl
theorem k1_16 : cod 1 16 = some (0, 0, 0, vi (60), 18) := by rw [cod, ctab_1]; rfl
theorem k1_18 : cod 1 18 = some (30, 9, 12, z0, 21) := by rw [cod, ctab_1]; rfl
theorem k1_21 : cod 1 21 = some (4, 0, 0, z0, 22) := by rw [cod, ctab_1]; rfl
theorem k1_22 : cod 1 22 = some (0, 0, 0, z0, 23) := by rw [cod, ctab_1]; rfl
theorem k1_23 : cod 1 23 = some (30, 9, 13, z0, 26) := by rw [cod, ctab_1]; rfl
theorem k1_26 : cod 1 26 = some (35, 0, 0, z0, 27) := by rw [cod, ctab_1]; rfl
theorem ctab_2 : ctab.getD 2 [] = cd2 := rfl
theorem k2_0 : cod 2 0 = some (4, 0, 0, z0, 1) := by rw [cod, ctab_2]; rfl
theorem k2_1 : cod 2 1 = some (29, 9, 9, z0, 4) := by rw [cod, ctab_2]; rfl
theorem k2_4 : cod 2 4 = some (0, 0, 0, vi (5), 5) := by rw [cod, ctab_2]; rfl
theorem k2_5 : cod 2 5 = some (28, 3, 38, z0, 8) := by rw [cod, ctab_2]; rfl
theorem k2_8 : cod 2 8 = some (4, 0, 0, z0, 9) := by rw [cod, ctab_2]; rfl
theorem k2_9 : cod 2 9 = some (29, 9, 0, z0, 12) := by rw [cod, ctab_2]; rfl
theorem k2_12 : cod 2 12 = some (4, 0, 0, z0, 13) := by rw [cod, ctab_2]; rfl
theorem k2_13 : cod 2 13 = some (29, 9, 9, z0, 16) := by rw [cod, ctab_2]; rfl
theorem k2_16 : cod 2 16 = some (3, 1, 0, z0, 17) := by rw [cod, ctab_2]; rfl
theorem k2_17 : cod 2 17 = some (32, 4, 0, z0, 18) := by rw [cod, ctab_2]; rfl
theorem k2_18 : cod 2 18 = some (4, 0, 0, z0, 19) := by rw [cod, ctab_2]; rfl
theorem k2_19 : cod 2 19 = some (29, 9, 1, z0, 22) := by rw [cod, ctab_2]; rfl
theorem k2_22 : cod 2 22 = some (4, 0, 0, z0, 23) := by rw [cod, ctab_2]; rfl
theorem k2_23 : cod 2 23 = some (29, 9, 9, z0, 26) := by rw [cod, ctab_2]; rfl
theorem k2_26 : cod 2 26 = some (0, 0, 0, z0, 27) := by rw [cod, ctab_2]; rfl
theorem k2_27 : cod 2 27 = some (32, 1, 0, z0, 28) := by rw [cod, ctab_2]; rfl
theorem k2_28 : cod 2 28 = some (4, 0, 0, z0, 29) := by rw [cod, ctab_2]; rfl
theorem k2_29 : cod 2 29 = some (23, 0, 0, z0, 30) := by rw [cod, ctab_2]; rfl
theorem k2_30 : cod 2 30 = some (29, 9, 9, z0, 33) := by rw [cod, ctab_2]; rfl
theorem k2_33 : cod 2 33 = some (0, 0, 0, vi (1), 34) := by rw [cod, ctab_2]; rfl
theorem k2_34 : cod 2 34 = some (9, 0, 0, z0, 35) := by rw [cod, ctab_2]; rfl
theorem k2_35 : cod 2 35 = some (30, 9, 9, z0, 38) := by rw [cod, ctab_2]; rfl
theorem k2_38 : cod 2 38 = some (35, 0, 0, z0, 39) := by rw [cod, ctab_2]; rfl
theorem ctab_3 : ctab.getD 3 [] = cd3 := rfl
theorem k3_0 : cod 3 0 = some (4, 0, 0, z0, 1) := by rw [cod, ctab_3]; rfl
theorem k3_1 : cod 3 1 = some (29, 9, 10, z0, 4) := by rw [cod, ctab_3]; rfl
theorem k3_4 : cod 3 4 = some (0, 0, 0, vi (6), 6) := by rw [cod, ctab_3]; rfl
theorem k3_6 : cod 3 6 = some (28, 3, 39, z0, 9) := by rw [cod, ctab_3]; rfl
theorem k3_9 : cod 3 9 = some (4, 0, 0, z0, 10) := by rw [cod, ctab_3]; rfl
theorem k3_10 : cod 3 10 = some (29, 9, 2, z0, 13) := by rw [cod, ctab_3]; rfl
theorem k3_13 : cod 3 13 = some (4, 0, 0, z0, 14) := by rw [cod, ctab_3]; rfl
theorem k3_14 : cod 3 14 = some (29, 9, 10, z0, 17) := by rw [cod, ctab_3]; rfl
theorem k3_17 : cod 3 17 = some (3, 1, 0, z0, 18) := by rw [cod, ctab_3]; rfl
theorem k3_18 : cod 3 18 = some (32, 4, 0, z0, 19) := by rw [cod, ctab_3]; rfl
theorem k3_19 : cod 3 19 = some (4, 0, 0, z0, 20) := by rw [cod, ctab_3]; rfl
theorem k3_20 : cod 3 20 = some (29, 9, 6, z0, 23) := by rw [cod, ctab_3]; rfl
theorem k3_23 : cod 3 23 = some (4, 0, 0, z0, 24) := by rw [cod, ctab_3]; rfl
theorem k3_24 : cod 3 24 = some (29, 9, 10, z0, 27) := by rw [cod, ctab_3]; rfl
theorem k3_27 : cod 3 27 = some (0, 0, 0, z0, 28) := by rw [cod, ctab_3]; rfl
theorem k3_28 : cod 3 28 = some (32, 1, 0, z0, 29) := by rw [cod, ctab_3]; rfl
theorem k3_29 : cod 3 29 = some (4, 0, 0, z0, 30) := by rw [cod, ctab_3]; rfl
theorem k3_30 : cod 3 30 = some (23, 0, 0, z0, 31) := by rw [cod, ctab_3]; rfl
theorem k3_31 : cod 3 31 = some (29, 9, 10, z0, 34) := by rw [cod, ctab_3]; rfl
theorem k3_34 : cod 3 34 = some (0, 0, 0, vi (1), 35) := by rw [cod, ctab_3]; rfl
theorem k3_35 : cod 3 35 = some (9, 0, 0, z0, 36) := by rw [cod, ctab_3]; rfl
theorem k3_36 : cod 3 36 = some (30, 9, 10, z0, 39) := by rw [cod, ctab_3]; rfl
theorem k3_39 : cod 3 39 = some (35, 0, 0, z0, 40) := by rw [cod, ctab_3]; rfl
theorem ctab_4 : ctab.getD 4 [] = cd4 := rfl
theorem k4_0 : cod 4 0 = some (0, 0, 0, z0, 1) := by rw [cod, ctab_4]; rfl
theorem k4_1 : cod 4 1 = some (5, 3, 0, z0, 2) := by rw [cod, ctab_4]; rfl
theorem k4_2 : cod 4 2 = some (2, 3, 0, z0, 3) := by rw [cod, ctab_4]; rfl
theorem k4_3 : cod 4 3 = some (4, 0, 0, z0, 4) := by rw [cod, ctab_4]; rfl
theorem k4_4 : cod 4 4 = some (29, 9, 9, z0, 7) := by rw [cod, ctab_4]; rfl
theorem k4_7 : cod 4 7 = some (28, 3, 29, z0, 10) := by rw [cod, ctab_4]; rfl
theorem k4_10 : cod 4 10 = some (4, 0, 0, z0, 11) := by rw [cod, ctab_4]; rfl
theorem k4_11 : cod 4 11 = some (29, 9, 0, z0, 14) := by rw [cod, ctab_4]; rfl
theorem k4_14 : cod 4 14 = some (2, 3, 0, z0, 15) := by rw [cod, ctab_4]; rfl
theorem k4_15 : cod 4 15 = some (31, 4, 0, z0, 16) := by rw [cod, ctab_4]; rfl
theorem k4_16 : cod 4 16 = some (3, 1, 0, z0, 17) := by rw [cod, ctab_4]; rfl
theorem k4_17 : cod 4 17 = some (18, 0, 0, z0, 18) := by rw [cod, ctab_4]; rfl
theorem k4_18 : cod 4 18 = some (27, 1, 23, z0, 21) := by rw [cod, ctab_4]; rfl
theorem k4_21 : cod 4 21 = some (2, 3, 0, z0, 22) := by rw [cod, ctab_4]; rfl
theorem k4_22 : cod 4 22 = some (36, 1, 0, z0, 23) := by rw [cod, ctab_4]; rfl
theorem k4_23 : cod 4 23 = some (8, 3, 0, vi (1), 26) := by rw [cod, ctab_4]; rfl
theorem k4_26 : cod 4 26 = some (26, 2, 0, z0, 29) := by rw [cod, ctab_4]; rfl
theorem k4_29 : cod 4 29 = some (0, 0, 0, vi (-1), 30) := by rw [cod, ctab_4]; rfl
theorem k4_30 : cod 4 30 = some (36, 1, 0, z0, 31) := by rw [cod, ctab_4]; rfl
theorem ctab_5 : ctab.getD 5 [] = cd5 := rfl
theorem k5_0 : cod 5 0 = some (0, 0, 0, z0, 1) := by rw [cod, ctab_5]; rfl
theorem k5_1 : cod 5 1 = some (5, 3, 0, z0, 2) := by rw [cod, ctab_5]; rfl
theorem k5_2 : cod 5 2 = some (2, 3, 0, z0, 3) := by rw [cod, ctab_5]; rfl
theorem k5_3 : cod 5 3 = some (4, 0, 0, z0, 4) := by rw [cod, ctab_5]; rfl
theorem k5_4 : cod 5 4 = some (29, 9, 10, z0, 7) := by rw [cod, ctab_5]; rfl
theorem k5_7 : cod 5 7 = some (28, 3, 29, z0, 10) := by rw [cod, ctab_5]; rfl
theorem k5_10 : cod 5 10 = some (4, 0, 0, z0, 11) := by rw [cod, ctab_5]; rfl
theorem k5_11 : cod 5 11 = some (29, 9, 2, z0, 14) := by rw [cod, ctab_5]; rfl
theorem k5_14 : cod 5 14 = some (2, 3, 0, z0, 15) := by rw [cod, ctab_5]; rfl
theorem k5_15 : cod 5 15 = some (31, 4, 0, z0, 16) := by rw [cod, ctab_5]; rfl
theorem k5_16 : cod 5 16 = some (3, 1, 0, z0, 17) := by rw [cod, ctab_5]; rfl
theorem k5_17 : cod 5 17 = some (18, 0, 0, z0, 18) := by rw [cod, ctab_5]; rfl
theorem k5_18 : cod 5 18 = some (27, 1, 23, z0, 21) := by rw [cod, ctab_5]; rfl
theorem k5_21 : cod 5 21 = some (2, 3, 0, z0, 22) := by rw [cod, ctab_5]; rfl
theorem k5_22 : cod 5 22 = some (36, 1, 0, z0, 23) := by rw [cod, ctab_5]; rfl
theorem k5_23 : cod 5 23 = some (8, 3, 0, vi (1), 26) := by rw [cod, ctab_5]; rfl
theorem k5_26 : cod 5 26 = some (26, 2, 0, z0, 29) := by rw [cod, ctab_5]; rfl
theorem k5_29 : cod 5 29 = some (0, 0, 0, vi (-1), 30) := by rw [cod, ctab_5]; rfl
theorem k5_30 : cod 5 30 = some (36, 1, 0, z0, 31) := by rw [cod, ctab_5]; rfl
theorem ctab_6 : ctab.getD 6 [] = cd6 := rfl
theorem k6_0 : cod 6 0 = some (4, 0, 0, z0, 1) := by rw [cod, ctab_6]; rfl
theorem k6_1 : cod 6 1 = some (29, 9, 13, z0, 4) := by rw [cod, ctab_6]; rfl
theorem k6_4 : cod 6 4 = some (0, 0, 0, vi (1000), 7) := by rw [cod, ctab_6]; rfl
theorem k6_7 : cod 6 7 = some (28, 3, 30, z0, 10) := by rw [cod, ctab_6]; rfl
theorem k6_10 : cod 6 10 = some (4, 0, 0, z0, 11) := by rw [cod, ctab_6]; rfl
theorem k6_11 : cod 6 11 = some (29, 9, 7, z0, 14) := by rw [cod, ctab_6]; rfl
theorem k6_14 : cod 6 14 = some (4, 0, 0, z0, 15) := by rw [cod, ctab_6]; rfl
theorem k6_15 : cod 6 15 = some (29, 9, 13, z0, 18) := by rw [cod, ctab_6]; rfl
theorem k6_18 : cod 6 18 = some (2, 1, 0, z0, 19) := by rw [cod, ctab_6]; rfl
theorem k6_19 : cod 6 19 = some (32, 1, 0, z0, 20) := by rw [cod, ctab_6]; rfl
theorem k6_20 : cod 6 20 = some (4, 0, 0, z0, 21) := by rw [cod, ctab_6]; rfl
theorem k6_21 : cod 6 21 = some (23, 0, 0, z0, 22) := by rw [cod, ctab_6]; rfl
theorem k6_22 : cod 6 22 = some (29, 9, 13, z0, 25) := by rw [cod, ctab_6]; rfl
theorem k6_25 : cod 6 25 = some (0, 0, 0, vi (1), 26) := by rw [cod, ctab_6]; rfl
theorem k6_26 : cod 6 26 = some (9, 0, 0, z0, 27) := by rw [cod, ctab_6]; rfl
theorem k6_27 : cod 6 27 = some (30, 9, 13, z0, 30) := by rw [cod, ctab_6]; rfl
theorem k6_30 : cod 6 30 = some (35, 0, 0, z0, 31) := by rw [cod, ctab_6]; rfl
theorem ctab_7 : ctab.getD 7 [] = cd7 := rfl
theorem k7_0 : cod 7 0 = some (4, 0, 0, z0, 1) := by rw [cod, ctab_7]; rfl
theorem k7_1 : cod 7 1 = some (29, 9, 13, z0, 4) := by rw [cod, ctab_7]; rfl
theorem k7_4 : cod 7 4 = some (27, 1, 12, z0, 7) := by rw [cod, ctab_7]; rfl
theorem k7_7 : cod 7 7 = some (0, 0, 0, vi (30), 9) := by rw [cod, ctab_7]; rfl
theorem k7_9 : cod 7 9 = some (2, 1, 0, z0, 10) := by rw [cod, ctab_7]; rfl
theorem k7_10 : cod 7 10 = some (9, 1, 0, z0, 11) := by rw [cod, ctab_7]; rfl
theorem k7_11 : cod 7 11 = some (36, 1, 0, z0, 12) := by rw [cod, ctab_7]; rfl
theorem k7_12 : cod 7 12 = some (0, 0, 0, z0, 13) := by rw [cod, ctab_7]; rfl
theorem k7_13 : cod 7 13 = some (5, 5, 0, z0, 15) := by rw [cod, ctab_7]; rfl
theorem k7_15 : cod 7 15 = some (0, 0, 0, z0, 16) := by rw [cod, ctab_7]; rfl
theorem k7_16 : cod 7 16 = some (5, 6, 0, z0, 18) := by rw [cod, ctab_7]; rfl
theorem k7_18 : cod 7 18 = some (2, 6, 0, z0, 20) := by rw [cod, ctab_7]; rfl
theorem k7_20 : cod 7 20 = some (4, 0, 0, z0, 21) := by rw [cod, ctab_7]; rfl
theorem k7_21 : cod 7 21 = some (29, 9, 13, z0, 24) := by rw [cod, ctab_7]; rfl
theorem k7_24 : cod 7 24 = some (28, 3, 176, z0, 27) := by rw [cod, ctab_7]; rfl
theorem k7_27 : cod 7 27 = some (4, 0, 0, z0, 28) := by rw [cod, ctab_7]; rfl
theorem k7_28 : cod 7 28 = some (29, 9, 7, z0, 31) := by rw [cod, ctab_7]; rfl
theorem k7_31 : cod 7 31 = some (2, 6, 0, z0, 33) := by rw [cod, ctab_7]; rfl
theorem k7_33 : cod 7 33 = some (31, 1, 0, z0, 34) := by rw [cod, ctab_7]; rfl
theorem k7_34 : cod 7 34 = some (5, 7, 0, z0, 36) := by rw [cod, ctab_7]; rfl
theorem k7_36 : cod 7 36 = some (2, 7, 0, z0, 38) := by rw [cod, ctab_7]; rfl
theorem k7_38 : cod 7 38 = some (0, 0, 0, vi (-4), 40) := by rw [cod, ctab_7]; rfl
theorem k7_40 : cod 7 40 = some (28, 2, 83, z0, 43) := by rw [cod, ctab_7]; rfl
theorem k7_43 : cod 7 43 = some (2, 5, 0, z0, 45) := by rw [cod, ctab_7]; rfl
theorem k7_45 : cod 7 45 = some (0, 0, 0, vi (32), 47) := by rw [cod, ctab_7]; rfl
theorem k7_47 : cod 7 47 = some (28, 3, 83, z0, 50) := by rw [cod, ctab_7]; rfl
theorem k7_50 : cod 7 50 = some (4, 0, 0, z0, 51) := by rw [cod, ctab_7]; rfl
theorem k7_51 : cod 7 51 = some (29, 9, 8, z0, 54) := by rw [cod, ctab_7]; rfl
theorem k7_54 : cod 7 54 = some (2, 5, 0, z0, 56) := by rw [cod, ctab_7]; rfl
theorem k7_56 : cod 7 56 = some (2, 7, 0, z0, 58) := by rw [cod, ctab_7]; rfl
theorem k7_58 : cod 7 58 = some (27, 2, 66, z0, 61) := by rw [cod, ctab_7]; rfl
theorem k7_61 : cod 7 61 = some (2, 7, 0, z0, 63) := by rw [cod, ctab_7]; rfl
theorem k7_63 : cod 7 63 = some (26, 76, 0, z0, 66) := by rw [cod, ctab_7]; rfl
theorem k7_66 : cod 7 66 = some (2, 7, 0, z0, 68) := by rw [cod, ctab_7]; rfl
theorem k7_68 : cod 7 68 = some (2, 1, 0, z0, 69) := by rw [cod, ctab_7]; rfl
theorem k7_69 : cod 7 69 = some (2, 2, 0, z0, 70) := by rw [cod, ctab_7]; rfl
theorem k7_70 : cod 7 70 = some (2, 3, 0, z0, 71) := by rw [cod, ctab_7]; rfl
theorem k7_71 : cod 7 71 = some (2, 4, 0, z0, 73) := by rw [cod, ctab_7]; rfl
theorem k7_73 : cod 7 73 = some (34, 8, 5, z0, 76) := by rw [cod, ctab_7]; rfl
theorem k7_76 : cod 7 76 = some (32, 1, 0, z0, 77) := by rw [cod, ctab_7]; rfl
theorem k7_77 : cod 7 77 = some (8, 5, 0, vi (1), 80) := by rw [cod, ctab_7]; rfl
theorem k7_80 : cod 7 80 = some (26, 170, 0, z0, 83) := by rw [cod, ctab_7]; rfl
theorem k7_83 : cod 7 83 = some (2, 7, 0, z0, 85) := by rw [cod, ctab_7]; rfl
theorem k7_85 : cod 7 85 = some (0, 0, 0, vi (-5), 87) := by rw [cod, ctab_7]; rfl
theorem k7_87 : cod 7 87 = some (28, 1, 124, z0, 90) := by rw [cod, ctab_7]; rfl
theorem k7_90 : cod 7 90 = some (2, 5, 0, z0, 92) := by rw [cod, ctab_7]; rfl
theorem k7_92 : cod 7 92 = some (27, 5, 124, z0, 95) := by rw [cod, ctab_7]; rfl
theorem k7_95 : cod 7 95 = some (4, 0, 0, z0, 96) := by rw [cod, ctab_7]; rfl
theorem k7_96 : cod 7 96 = some (29, 9, 8, z0, 99) := by rw [cod, ctab_7]; rfl
theorem k7_99 : cod 7 99 = some (2, 5, 0, z0, 101) := by rw [cod, ctab_7]; rfl
theorem k7_101 : cod 7 101 = some (0, 0, 0, vi (1), 102) := by rw [cod, ctab_7]; rfl
theorem k7_102 : cod 7 102 = some (9, 1, 0, z0, 103) := by rw [cod, ctab_7]; rfl
theorem k7_103 : cod 7 103 = some (4, 0, 0, z0, 104) := by rw [cod, ctab_7]; rfl
theorem k7_104 : cod 7 104 = some (29, 9, 8, z0, 107) := by rw [cod, ctab_7]; rfl
theorem k7_107 : cod 7 107 = some (2, 5, 0, z0, 109) := by rw [cod, ctab_7]; rfl
theorem k7_109 : cod 7 109 = some (0, 0, 0, vi (1), 110) := by rw [cod, ctab_7]; rfl
theorem k7_110 : cod 7 110 = some (9, 1, 0, z0, 111) := by rw [cod, ctab_7]; rfl
theorem k7_111 : cod 7 111 = some (31, 1, 0, z0, 112) := by rw [cod, ctab_7]; rfl
theorem k7_112 : cod 7 112 = some (27, 1, 119, z0, 115) := by rw [cod, ctab_7]; rfl
theorem k7_115 : cod 7 115 = some (0, 0, 0, vi (1), 116) := by rw [cod, ctab_7]; rfl
theorem k7_116 : cod 7 116 = some (26, 120, 0, z0, 119) := by rw [cod, ctab_7]; rfl
theorem k7_119 : cod 7 119 = some (0, 0, 0, z0, 120) := by rw [cod, ctab_7]; rfl
theorem k7_120 : cod 7 120 = some (32, 1, 0, z0, 121) := by rw [cod, ctab_7]; rfl
theorem k7_121 : cod 7 121 = some (26, 170, 0, z0, 124) := by rw [cod, ctab_7]; rfl
theorem k7_124 : cod 7 124 = some (2, 7, 0, z0, 126) := by rw [cod, ctab_7]; rfl
theorem k7_126 : cod 7 126 = some (0, 0, 0, vi (-5), 128) := by rw [cod, ctab_7]; rfl
theorem k7_128 : cod 7 128 = some (28, 3, 170, z0, 131) := by rw [cod, ctab_7]; rfl
theorem k7_131 : cod 7 131 = some (2, 5, 0, z0, 133) := by rw [cod, ctab_7]; rfl
theorem k7_133 : cod 7 133 = some (0, 0, 0, vi (1), 134) := by rw [cod, ctab_7]; rfl
theorem k7_134 : cod 7 134 = some (28, 5, 170, z0, 137) := by rw [cod, ctab_7]; rfl
theorem k7_137 : cod 7 137 = some (8, 5, 0, vi (-1), 140) := by rw [cod, ctab_7]; rfl
theorem k7_140 : cod 7 140 = some (4, 0, 0, z0, 141) := by rw [cod, ctab_7]; rfl
theorem k7_141 : cod 7 141 = some (29, 9, 8, z0, 144) := by rw [cod, ctab_7]; rfl
theorem k7_144 : cod 7 144 = some (2, 5, 0, z0, 146) := by rw [cod, ctab_7]; rfl
theorem k7_146 : cod 7 146 = some (0, 0, 0, vi (1), 147) := by rw [cod, ctab_7]; rfl
theorem k7_147 : cod 7 147 = some (9, 1, 0, z0, 148) := by rw [cod, ctab_7]; rfl
theorem k7_148 : cod 7 148 = some (2, 7, 0, z0, 150) := by rw [cod, ctab_7]; rfl
theorem k7_150 : cod 7 150 = some (4, 0, 0, z0, 151) := by rw [cod, ctab_7]; rfl
theorem k7_151 : cod 7 151 = some (29, 9, 8, z0, 154) := by rw [cod, ctab_7]; rfl
theorem k7_154 : cod 7 154 = some (2, 5, 0, z0, 156) := by rw [cod, ctab_7]; rfl
theorem k7_156 : cod 7 156 = some (0, 0, 0, vi (1), 157) := by rw [cod, ctab_7]; rfl
theorem k7_157 : cod 7 157 = some (9, 1, 0, z0, 158) := by rw [cod, ctab_7]; rfl
theorem k7_158 : cod 7 158 = some (31, 1, 0, z0, 159) := by rw [cod, ctab_7]; rfl
theorem k7_159 : cod 7 159 = some (4, 0, 0, z0, 160) := by rw [cod, ctab_7]; rfl
theorem k7_160 : cod 7 160 = some (29, 9, 8, z0, 163) := by rw [cod, ctab_7]; rfl
theorem k7_163 : cod 7 163 = some (2, 5, 0, z0, 165) := by rw [cod, ctab_7]; rfl
theorem k7_165 : cod 7 165 = some (31, 1, 0, z0, 166) := by rw [cod, ctab_7]; rfl
theorem k7_166 : cod 7 166 = some (34, 9, 3, z0, 169) := by rw [cod, ctab_7]; rfl
theorem k7_169 : cod 7 169 = some (32, 1, 0, z0, 170) := by rw [cod, ctab_7]; rfl
theorem k7_170 : cod 7 170 = some (8, 6, 0, vi (1), 173) := by rw [cod, ctab_7]; rfl
theorem k7_173 : cod 7 173 = some (26, 18, 0, z0, 176) := by rw [cod, ctab_7]; rfl
theorem k7_176 : cod 7 176 = some (4, 0, 0, z0, 177) := by rw [cod, ctab_7]; rfl
theorem k7_177 : cod 7 177 = some (29, 9, 8, z0, 180) := by rw [cod, ctab_7]; rfl
theorem k7_180 : cod 7 180 = some (0, 0, 0, z0, 181) := by rw [cod, ctab_7]; rfl
theorem k7_181 : cod 7 181 = some (31, 1, 0, z0, 182) := by rw [cod, ctab_7]; rfl
theorem k7_182 : cod 7 182 = some (36, 1, 0, z0, 183) := by rw [cod, ctab_7]; rfl
theorem ctab_8 : ctab.getD 8 [] = cd8 := rfl
theorem k8_0 : cod 8 0 = some (2, 0, 0, z0, 1) := by rw [cod, ctab_8]; rfl
theorem k8_1 : cod 8 1 = some (38, 0, 0, z0, 28) := by rw [cod, ctab_8]; rfl
theorem k8_28 : cod 8 28 = some (2, 1, 0, z0, 29) := by rw [cod, ctab_8]; rfl
theorem k8_29 : cod 8 29 = some (36, 1, 0, z0, 30) := by rw [cod, ctab_8]; rfl
theorem k8_30 : cod 8 30 = some (2, 2, 0, z0, 31) := by rw [cod, ctab_8]; rfl
theorem k8_31 : cod 8 31 = some (36, 1, 0, z0, 32) := by rw [cod, ctab_8]; rfl
theorem k8_32 : cod 8 32 = some (2, 3, 0, z0, 33) := by rw [cod, ctab_8]; rfl
theorem k8_33 : cod 8 33 = some (36, 1, 0, z0, 34) := by rw [cod, ctab_8]; rfl
theorem k8_34 : cod 8 34 = some (2, 4, 0, z0, 36) := by rw [cod, ctab_8]; rfl
theorem k8_36 : cod 8 36 = some (36, 1, 0, z0, 37) := by rw [cod, ctab_8]; rfl
theorem ctab_9 : ctab.getD 9 [] = cd9 := rfl
theorem k9_0 : cod 9 0 = some (2, 0, 0, z0, 1) := by rw [cod, ctab_9]; rfl
theorem k9_1 : cod 9 1 = some (38, 1, 0, z0, 40) := by rw [cod, ctab_9]; rfl
theorem k9_40 : cod 9 40 = some (2, 1, 0, z0, 41) := by rw [cod, ctab_9]; rfl
theorem k9_41 : cod 9 41 = some (27, 0, 52, z0, 44) := by rw [cod, ctab_9]; rfl
theorem k9_44 : cod 9 44 = some (2, 2, 0, z0, 45) := by rw [cod, ctab_9]; rfl
theorem k9_45 : cod 9 45 = some (27, 0, 52, z0, 48) := by rw [cod, ctab_9]; rfl
theorem k9_48 : cod 9 48 = some (0, 0, 0, vi (1), 49) := by rw [cod, ctab_9]; rfl
theorem k9_49 : cod 9 49 = some (26, 53, 0, z0, 52) := by rw [cod, ctab_9]; rfl
theorem k9_52 : cod 9 52 = some (0, 0, 0, z0, 53) := by rw [cod, ctab_9]; rfl
theorem k9_53 : cod 9 53 = some (36, 1, 0, z0, 54) := by rw [cod, ctab_9]; rfl
theorem k9_54 : cod 9 54 = some (2, 1, 0, z0, 55) := by rw [cod, ctab_9]; rfl
theorem k9_55 : cod 9 55 = some (27, 1, 62, z0, 58) := by rw [cod, ctab_9]; rfl
theorem k9_58 : cod 9 58 = some (2, 2, 0, z0, 59) := by rw [cod, ctab_9]; rfl
theorem k9_59 : cod 9 59 = some (27, 0, 66, z0, 62) := by rw [cod, ctab_9]; rfl
theorem k9_62 : cod 9 62 = some (0, 0, 0, vi (1), 63) := by rw [cod, ctab_9]; rfl
theorem k9_63 : cod 9 63 = some (26, 67, 0, z0, 66) := by rw [cod, ctab_9]; rfl
theorem k9_66 : cod 9 66 = some (0, 0, 0, z0, 67) := by rw [cod, ctab_9]; rfl
theorem k9_67 : cod 9 67 = some (36, 1, 0, z0, 68) := by rw [cod, ctab_9]; rfl
theorem k9_68 : cod 9 68 = some (2, 1, 0, z0, 69) := by rw [cod, ctab_9]; rfl
theorem k9_69 : cod 9 69 = some (2, 2, 0, z0, 70) := by rw [cod, ctab_9]; rfl
theorem k9_70 : cod 9 70 = some (28, 3, 77, z0, 73) := by rw [cod, ctab_9]; rfl
theorem k9_73 : cod 9 73 = some (0, 0, 0, vi (1), 74) := by rw [cod, ctab_9]; rfl
theorem k9_74 : cod 9 74 = some (26, 78, 0, z0, 77) := by rw [cod, ctab_9]; rfl
theorem k9_77 : cod 9 77 = some (0, 0, 0, z0, 78) := by rw [cod, ctab_9]; rfl
theorem k9_78 : cod 9 78 = some (36, 1, 0, z0, 79) := by rw [cod, ctab_9]; rfl
theorem k9_79 : cod 9 79 = some (2, 1, 0, z0, 80) := by rw [cod, ctab_9]; rfl
theorem k9_80 : cod 9 80 = some (2, 2, 0, z0, 81) := by rw [cod, ctab_9]; rfl
theorem k9_81 : cod 9 81 = some (28, 1, 88, z0, 84) := by rw [cod, ctab_9]; rfl
theorem k9_84 : cod 9 84 = some (0, 0, 0, vi (1), 85) := by rw [cod, ctab_9]; rfl
theorem k9_85 : cod 9 85 = some (26, 89, 0, z0, 88) := by rw [cod, ctab_9]; rfl
theorem k9_88 : cod 9 88 = some (0, 0, 0, z0, 89) := by rw [cod, ctab_9]; rfl
theorem k9_89 : cod 9 89 = some (36, 1, 0, z0, 90) := by rw [cod, ctab_9]; rfl
theorem k9_90 : cod 9 90 = some (2, 1, 0, z0, 91) := by rw [cod, ctab_9]; rfl
theorem k9_91 : cod 9 91 = some (2, 2, 0, z0, 92) := by rw [cod, ctab_9]; rfl
theorem k9_92 : cod 9 92 = some (9, 0, 0, z0, 93) := by rw [cod, ctab_9]; rfl
theorem k9_93 : cod 9 93 = some (36, 1, 0, z0, 94) := by rw [cod, ctab_9]; rfl
theorem k9_94 : cod 9 94 = some (2, 1, 0, z0, 95) := by rw [cod, ctab_9]; rfl
theorem k9_95 : cod 9 95 = some (2, 2, 0, z0, 96) := by rw [cod, ctab_9]; rfl
theorem k9_96 : cod 9 96 = some (9, 1, 0, z0, 97) := by rw [cod, ctab_9]; rfl
theorem k9_97 : cod 9 97 = some (36, 1, 0, z0, 98) := by rw [cod, ctab_9]; rfl
theorem k9_98 : cod 9 98 = some (2, 1, 0, z0, 99) := by rw [cod, ctab_9]; rfl
theorem k9_99 : cod 9 99 = some (2, 2, 0, z0, 100) := by rw [cod, ctab_9]; rfl
theorem k9_100 : cod 9 100 = some (9, 2, 0, z0, 101) := by rw [cod, ctab_9]; rfl
theorem k9_101 : cod 9 101 = some (36, 1, 0, z0, 102) := by rw [cod, ctab_9]; rfl
theorem ctab_10 : ctab.getD 10 [] = cd10 := rfl
theorem k10_0 : cod 10 0 = some (4, 0, 0, z0, 1) := by rw [cod, ctab_10]; rfl
theorem k10_1 : cod 10 1 = some (44, 0, 0, z0, 4) := by rw [cod, ctab_10]; rfl
theorem k10_4 : cod 10 4 = some (4, 0, 0, z0, 5) := by rw [cod, ctab_10]; rfl
theorem k10_5 : cod 10 5 = some (4, 1, 0, z0, 6) := by rw [cod, ctab_10]; rfl
theorem k10_6 : cod 10 6 = some (30, 8, 0, z0, 9) := by rw [cod, ctab_10]; rfl
theorem k10_9 : cod 10 9 = some (35, 0, 0, z0, 10) := by rw [cod, ctab_10]; rfl
theorem ctab_11 : ctab.getD 11 [] = cd11 := rfl
theorem k11_0 : cod 11 0 = some (4, 1, 0, z0, 1) := by rw [cod, ctab_11]; rfl
theorem k11_1 : cod 11 1 = some (29, 9, 13, z0, 4) := by rw [cod, ctab_11]; rfl
theorem k11_4 : cod 11 4 = some (27, 5, 16, z0, 7) := by rw [cod, ctab_11]; rfl
theorem k11_7 : cod 11 7 = some (4, 0, 0, z0, 8) := by rw [cod, ctab_11]; rfl
theorem k11_8 : cod 11 8 = some (29, 8, 0, z0, 11) := by rw [cod, ctab_11]; rfl
theorem k11_11 : cod 11 11 = some (0, 0, 0, vi (3), 12) := by rw [cod, ctab_11]; rfl
theorem k11_12 : cod 11 12 = some (34, 78, 2, vr 5 0, 15) := by rw [cod, ctab_11]; rfl
theorem k11_15 : cod 11 15 = some (36, 2, 0, z0, 16) := by rw [cod, ctab_11]; rfl
theorem k11_16 : cod 11 16 = some (4, 0, 0, z0, 17) := by rw [cod, ctab_11]; rfl
theorem k11_17 : cod 11 17 = some (29, 8, 0, z0, 20) := by rw [cod, ctab_11]; rfl
theorem k11_20 : cod 11 20 = some (34, 69, 1, vr 5 0, 23) := by rw [cod, ctab_11]; rfl
theorem k11_23 : cod 11 23 = some (4, 0, 0, z0, 24) := by rw [cod, ctab_11]; rfl
theorem k11_24 : cod 11 24 = some (0, 0, 0, z0, 25) := by rw [cod, ctab_11]; rfl
theorem k11_25 : cod 11 25 = some (0, 0, 0, z0, 26) := by rw [cod, ctab_11]; rfl
theorem k11_26 : cod 11 26 = some (4, 1, 0, z0, 27) := by rw [cod, ctab_11]; rfl
theorem k11_27 : cod 11 27 = some (34, 12, 4, vr 8 0, 30) := by rw [cod, ctab_11]; rfl
theorem k11_30 : cod 11 30 = some (36, 2, 0, z0, 31) := by rw [cod, ctab_11]; rfl
theorem ctab_12 : ctab.getD 12 [] = cd12 := rfl
theorem k12_0 : cod 12 0 = some (2, 1, 0, z0, 1) := by rw [cod, ctab_12]; rfl
theorem k12_1 : cod 12 1 = some (0, 0, 0, vi (3), 2) := by rw [cod, ctab_12]; rfl
theorem k12_2 : cod 12 2 = some (28, 5, 12, z0, 5) := by rw [cod, ctab_12]; rfl
theorem k12_5 : cod 12 5 = some (4, 0, 0, z0, 6) := by rw [cod, ctab_12]; rfl
theorem k12_6 : cod 12 6 = some (2, 2, 0, z0, 7) := by rw [cod, ctab_12]; rfl
theorem k12_7 : cod 12 7 = some (4, 3, 0, z0, 8) := by rw [cod, ctab_12]; rfl
theorem k12_8 : cod 12 8 = some (34, 13, 3, vr 8 0, 11) := by rw [cod, ctab_12]; rfl
theorem k12_11 : cod 12 11 = some (36, 2, 0, z0, 12) := by rw [cod, ctab_12]; rfl
theorem k12_12 : cod 12 12 = some (4, 0, 0, z0, 13) := by rw [cod, ctab_12]; rfl
theorem k12_13 : cod 12 13 = some (2, 1, 0, z0, 14) := by rw [cod, ctab_12]; rfl
theorem k12_14 : cod 12 14 = some (0, 0, 0, vi (1), 15) := by rw [cod, ctab_12]; rfl
theorem k12_15 : cod 12 15 = some (9, 0, 0, z0, 16) := by rw [cod, ctab_12]; rfl
theorem k12_16 : cod 12 16 = some (2, 2, 0, z0, 17) := by rw [cod, ctab_12]; rfl
theorem k12_17 : cod 12 17 = some (4, 3, 0, z0, 18) := by rw [cod, ctab_12]; rfl
theorem k12_18 : cod 12 18 = some (34, 12, 4, vr 8 0, 21) := by rw [cod, ctab_12]; rfl
theorem k12_21 : cod 12 21 = some (27, 1, 26, z0, 24) := by rw [cod, ctab_12]; rfl
theorem k12_24 : cod 12 24 = some (0, 0, 0, z0, 25) := by rw [cod, ctab_12]; rfl
theorem k12_25 : cod 12 25 = some (36, 2, 0, z0, 26) := by rw [cod, ctab_12]; rfl
theorem k12_26 : cod 12 26 = some (0, 0, 0, z0, 27) := by rw [cod, ctab_12]; rfl
theorem k12_27 : cod 12 27 = some (5, 4, 0, z0, 29) := by rw [cod, ctab_12]; rfl
theorem k12_29 : cod 12 29 = some (2, 4, 0, z0, 31) := by rw [cod, ctab_12]; rfl
theorem k12_31 : cod 12 31 = some (0, 0, 0, vi (1000), 34) := by rw [cod, ctab_12]; rfl
theorem k12_34 : cod 12 34 = some (28, 3, 91, z0, 37) := by rw [cod, ctab_12]; rfl
theorem k12_37 : cod 12 37 = some (4, 0, 0, z0, 38) := by rw [cod, ctab_12]; rfl
theorem k12_38 : cod 12 38 = some (2, 1, 0, z0, 39) := by rw [cod, ctab_12]; rfl
theorem k12_39 : cod 12 39 = some (34, 15, 2, vr 8 0, 42) := by rw [cod, ctab_12]; rfl
theorem k12_42 : cod 12 42 = some (5, 5, 0, z0, 44) := by rw [cod, ctab_12]; rfl
theorem k12_44 : cod 12 44 = some (2, 5, 0, z0, 46) := by rw [cod, ctab_12]; rfl
theorem k12_46 : cod 12 46 = some (27, 1, 51, z0, 49) := by rw [cod, ctab_12]; rfl
theorem k12_49 : cod 12 49 = some (0, 0, 0, vi (1), 50) := by rw [cod, ctab_12]; rfl
theorem k12_50 : cod 12 50 = some (36, 2, 0, z0, 51) := by rw [cod, ctab_12]; rfl
theorem k12_51 : cod 12 51 = some (4, 0, 0, z0, 52) := by rw [cod, ctab_12]; rfl
theorem k12_52 : cod 12 52 = some (29, 8, 0, z0, 55) := by rw [cod, ctab_12]; rfl
theorem k12_55 : cod 12 55 = some (34, 69, 1, vr 5 0, 58) := by rw [cod, ctab_12]; rfl
theorem k12_58 : cod 12 58 = some (4, 0, 0, z0, 59) := by rw [cod, ctab_12]; rfl
theorem k12_59 : cod 12 59 = some (2, 1, 0, z0, 60) := by rw [cod, ctab_12]; rfl
theorem k12_60 : cod 12 60 = some (0, 0, 0, vi (1), 61) := by rw [cod, ctab_12]; rfl
theorem k12_61 : cod 12 61 = some (9, 0, 0, z0, 62) := by rw [cod, ctab_12]; rfl
theorem k12_62 : cod 12 62 = some (2, 2, 0, z0, 63) := by rw [cod, ctab_12]; rfl
theorem k12_63 : cod 12 63 = some (4, 3, 0, z0, 64) := by rw [cod, ctab_12]; rfl
theorem k12_64 : cod 12 64 = some (34, 12, 4, vr 8 0, 67) := by rw [cod, ctab_12]; rfl
theorem k12_67 : cod 12 67 = some (27, 1, 72, z0, 70) := by rw [cod, ctab_12]; rfl
theorem k12_70 : cod 12 70 = some (0, 0, 0, z0, 71) := by rw [cod, ctab_12]; rfl
theorem k12_71 : cod 12 71 = some (36, 2, 0, z0, 72) := by rw [cod, ctab_12]; rfl
theorem k12_72 : cod 12 72 = some (4, 3, 0, z0, 73) := by rw [cod, ctab_12]; rfl
theorem k12_73 : cod 12 73 = some (2, 5, 0, z0, 75) := by rw [cod, ctab_12]; rfl
theorem k12_75 : cod 12 75 = some (34, 6, 2, vr 9 0, 78) := by rw [cod, ctab_12]; rfl
theorem k12_78 : cod 12 78 = some (2, 1, 0, z0, 79) := by rw [cod, ctab_12]; rfl
theorem k12_79 : cod 12 79 = some (0, 0, 0, vi (1), 80) := by rw [cod, ctab_12]; rfl
theorem k12_80 : cod 12 80 = some (28, 1, 85, z0, 83) := by rw [cod, ctab_12]; rfl
theorem k12_83 : cod 12 83 = some (0, 0, 0, vi (1), 84) := by rw [cod, ctab_12]; rfl
theorem k12_84 : cod 12 84 = some (36, 2, 0, z0, 85) := by rw [cod, ctab_12]; rfl
theorem k12_85 : cod 12 85 = some (8, 4, 0, vi (1), 88) := by rw [cod, ctab_12]; rfl
theorem k12_88 : cod 12 88 = some (26, 29, 0, z0, 91) := by rw [cod, ctab_12]; rfl
theorem k12_91 : cod 12 91 = some (0, 0, 0, vi (1), 92) := by rw [cod, ctab_12]; rfl
theorem k12_92 : cod 12 92 = some (36, 2, 0, z0, 93) := by rw [cod, ctab_12]; rfl
theorem ctab_13 : ctab.getD 13 [] = cd13 := rfl
theorem k13_0 : cod 13 0 = some (4, 0, 0, z0, 1) := by rw [cod, ctab_13]; rfl
theorem k13_1 : cod 13 1 = some (29, 8, 0, z0, 4) := by rw [cod, ctab_13]; rfl
theorem k13_4 : cod 13 4 = some (0, 0, 0, vr 90 15, 6) := by rw [cod, ctab_13]; rfl
theorem k13_6 : cod 13 6 = some (34, 74, 2, vr 5 0, 9) := by rw [cod, ctab_13]; rfl
theorem k13_9 : cod 13 9 = some (5, 3, 0, z0, 10) := by rw [cod, ctab_13]; rfl
theorem k13_10 : cod 13 10 = some (4, 0, 0, z0, 11) := by rw [cod, ctab_13]; rfl
theorem k13_11 : cod 13 11 = some (29, 8, 0, z0, 14) := by rw [cod, ctab_13]; rfl
theorem k13_14 : cod 13 14 = some (0, 0, 0, vi (40), 16) := by rw [cod, ctab_13]; rfl
theorem k13_16 : cod 13 16 = some (34, 75, 2, vr 5 0, 19) := by rw [cod, ctab_13]; rfl
theorem k13_19 : cod 13 19 = some (5, 4, 0, z0, 21) := by rw [cod, ctab_13]; rfl
theorem k13_21 : cod 13 21 = some (4, 0, 0, z0, 22) := by rw [cod, ctab_13]; rfl
theorem k13_22 : cod 13 22 = some (34, 14, 1, vr 8 0, 25) := by rw [cod, ctab_13]; rfl
theorem k13_25 : cod 13 25 = some (5, 5, 0, z0, 27) := by rw [cod, ctab_13]; rfl
theorem k13_27 : cod 13 27 = some (2, 3, 0, z0, 28) := by rw [cod, ctab_13]; rfl
theorem k13_28 : cod 13 28 = some (27, 1, 52, z0, 31) := by rw [cod, ctab_13]; rfl
theorem k13_31 : cod 13 31 = some (2, 4, 0, z0, 33) := by rw [cod, ctab_13]; rfl
theorem k13_33 : cod 13 33 = some (27, 1, 52, z0, 36) := by rw [cod, ctab_13]; rfl
theorem k13_36 : cod 13 36 = some (2, 5, 0, z0, 38) := by rw [cod, ctab_13]; rfl
theorem k13_38 : cod 13 38 = some (0, 0, 0, vi (-5), 40) := by rw [cod, ctab_13]; rfl
theorem k13_40 : cod 13 40 = some (28, 1, 52, z0, 43) := by rw [cod, ctab_13]; rfl
theorem k13_43 : cod 13 43 = some (4, 0, 0, z0, 44) := by rw [cod, ctab_13]; rfl
theorem k13_44 : cod 13 44 = some (29, 8, 0, z0, 47) := by rw [cod, ctab_13]; rfl
theorem k13_47 : cod 13 47 = some (0, 0, 0, vi (1), 48) := by rw [cod, ctab_13]; rfl
theorem k13_48 : cod 13 48 = some (34, 78, 2, vr 5 0, 51) := by rw [cod, ctab_13]; rfl
theorem k13_51 : cod 13 51 = some (36, 2, 0, z0, 52) := by rw [cod, ctab_13]; rfl
theorem k13_52 : cod 13 52 = some (2, 1, 0, z0, 53) := by rw [cod, ctab_13]; rfl
theorem k13_53 : cod 13 53 = some (0, 0, 0, vi (5), 54) := by rw [cod, ctab_13]; rfl
theorem k13_54 : cod 13 54 = some (28, 2, 66, z0, 57) := by rw [cod, ctab_13]; rfl
theorem k13_57 : cod 13 57 = some (4, 0, 0, z0, 58) := by rw [cod, ctab_13]; rfl
theorem k13_58 : cod 13 58 = some (29, 8, 0, z0, 61) := by rw [cod, ctab_13]; rfl
theorem k13_61 : cod 13 61 = some (0, 0, 0, vi (5), 62) := by rw [cod, ctab_13]; rfl
theorem k13_62 : cod 13 62 = some (34, 78, 2, vr 5 0, 65) := by rw [cod, ctab_13]; rfl
theorem k13_65 : cod 13 65 = some (36, 2, 0, z0, 66) := by rw [cod, ctab_13]; rfl
theorem k13_66 : cod 13 66 = some (4, 0, 0, z0, 67) := by rw [cod, ctab_13]; rfl
theorem k13_67 : cod 13 67 = some (29, 8, 0, z0, 70) := by rw [cod, ctab_13]; rfl
theorem k13_70 : cod 13 70 = some (34, 69, 1, vr 5 0, 73) := by rw [cod, ctab_13]; rfl
theorem k13_73 : cod 13 73 = some (2, 4, 0, z0, 75) := by rw [cod, ctab_13]; rfl
theorem k13_75 : cod 13 75 = some (27, 0, 108, z0, 78) := by rw [cod, ctab_13]; rfl
theorem k13_78 : cod 13 78 = some (4, 0, 0, z0, 79) := by rw [cod, ctab_13]; rfl
theorem k13_79 : cod 13 79 = some (0, 0, 0, z0, 80) := by rw [cod, ctab_13]; rfl
theorem k13_80 : cod 13 80 = some (2, 1, 0, z0, 81) := by rw [cod, ctab_13]; rfl
theorem k13_81 : cod 13 81 = some (0, 0, 0, vi (1), 82) := by rw [cod, ctab_13]; rfl
theorem k13_82 : cod 13 82 = some (9, 0, 0, z0, 83) := by rw [cod, ctab_13]; rfl
theorem k13_83 : cod 13 83 = some (4, 2, 0, z0, 84) := by rw [cod, ctab_13]; rfl
theorem k13_84 : cod 13 84 = some (34, 12, 4, vr 8 0, 87) := by rw [cod, ctab_13]; rfl
theorem k13_87 : cod 13 87 = some (27, 0, 106, z0, 90) := by rw [cod, ctab_13]; rfl
theorem k13_90 : cod 13 90 = some (4, 0, 0, z0, 91) := by rw [cod, ctab_13]; rfl
theorem k13_91 : cod 13 91 = some (29, 8, 0, z0, 94) := by rw [cod, ctab_13]; rfl
theorem k13_94 : cod 13 94 = some (0, 0, 0, vi (41), 96) := by rw [cod, ctab_13]; rfl
theorem k13_96 : cod 13 96 = some (34, 80, 2, vr 5 0, 99) := by rw [cod, ctab_13]; rfl
theorem k13_99 : cod 13 99 = some (27, 0, 106, z0, 102) := by rw [cod, ctab_13]; rfl
theorem k13_102 : cod 13 102 = some (0, 0, 0, vi (1), 103) := by rw [cod, ctab_13]; rfl
theorem k13_103 : cod 13 103 = some (26, 107, 0, z0, 106) := by rw [cod, ctab_13]; rfl
theorem k13_106 : cod 13 106 = some (0, 0, 0, z0, 107) := by rw [cod, ctab_13]; rfl
theorem k13_107 : cod 13 107 = some (36, 2, 0, z0, 108) := by rw [cod, ctab_13]; rfl
theorem k13_108 : cod 13 108 = some (2, 3, 0, z0, 109) := by rw [cod, ctab_13]; rfl
theorem k13_109 : cod 13 109 = some (27, 0, 125, z0, 112) := by rw [cod, ctab_13]; rfl
theorem k13_112 : cod 13 112 = some (4, 0, 0, z0, 113) := by rw [cod, ctab_13]; rfl
theorem k13_113 : cod 13 113 = some (2, 1, 0, z0, 114) := by rw [cod, ctab_13]; rfl
theorem k13_114 : cod 13 114 = some (0, 0, 0, vi (1), 115) := by rw [cod, ctab_13]; rfl
theorem k13_115 : cod 13 115 = some (9, 0, 0, z0, 116) := by rw [cod, ctab_13]; rfl
theorem k13_116 : cod 13 116 = some (4, 2, 0, z0, 117) := by rw [cod, ctab_13]; rfl
theorem k13_117 : cod 13 117 = some (34, 13, 3, vr 8 0, 120) := by rw [cod, ctab_13]; rfl
theorem k13_120 : cod 13 120 = some (27, 1, 125, z0, 123) := by rw [cod, ctab_13]; rfl
theorem k13_123 : cod 13 123 = some (0, 0, 0, z0, 124) := by rw [cod, ctab_13]; rfl
theorem k13_124 : cod 13 124 = some (36, 2, 0, z0, 125) := by rw [cod, ctab_13]; rfl
theorem k13_125 : cod 13 125 = some (4, 2, 0, z0, 126) := by rw [cod, ctab_13]; rfl
theorem k13_126 : cod 13 126 = some (2, 5, 0, z0, 128) := by rw [cod, ctab_13]; rfl
theorem k13_128 : cod 13 128 = some (34, 6, 2, vr 9 0, 131) := by rw [cod, ctab_13]; rfl
theorem k13_131 : cod 13 131 = some (0, 0, 0, vi (1), 132) := by rw [cod, ctab_13]; rfl
theorem k13_132 : cod 13 132 = some (36, 2, 0, z0, 133) := by rw [cod, ctab_13]; rfl
theorem ctab_14 : ctab.getD 14 [] = cd14 := rfl
theorem k14_0 : cod 14 0 = some (4, 0, 0, z0, 1) := by rw [cod, ctab_14]; rfl
theorem k14_1 : cod 14 1 = some (29, 8, 0, z0, 4) := by rw [cod, ctab_14]; rfl
theorem k14_4 : cod 14 4 = some (29, 5, 2, z0, 7) := by rw [cod, ctab_14]; rfl
theorem k14_7 : cod 14 7 = some (0, 0, 0, vi (2), 8) := by rw [cod, ctab_14]; rfl
theorem k14_8 : cod 14 8 = some (28, 1, 19, z0, 11) := by rw [cod, ctab_14]; rfl
theorem k14_11 : cod 14 11 = some (4, 0, 0, z0, 12) := by rw [cod, ctab_14]; rfl
theorem k14_12 : cod 14 12 = some (29, 8, 0, z0, 15) := by rw [cod, ctab_14]; rfl
theorem k14_15 : cod 14 15 = some (29, 5, 5, z0, 18) := by rw [cod, ctab_14]; rfl
theorem k14_18 : cod 14 18 = some (36, 1, 0, z0, 19) := by rw [cod, ctab_14]; rfl
theorem k14_19 : cod 14 19 = some (4, 0, 0, z0, 20) := by rw [cod, ctab_14]; rfl
theorem k14_20 : cod 14 20 = some (29, 8, 0, z0, 23) := by rw [cod, ctab_14]; rfl
theorem k14_23 : cod 14 23 = some (0, 0, 0, vr 90 16, 25) := by rw [cod, ctab_14]; rfl
theorem k14_25 : cod 14 25 = some (34, 74, 2, vr 5 0, 28) := by rw [cod, ctab_14]; rfl
theorem k14_28 : cod 14 28 = some (27, 0, 33, z0, 31) := by rw [cod, ctab_14]; rfl
theorem k14_31 : cod 14 31 = some (0, 0, 0, vi (-1), 32) := by rw [cod, ctab_14]; rfl
theorem k14_32 : cod 14 32 = some (36, 1, 0, z0, 33) := by rw [cod, ctab_14]; rfl
theorem k14_33 : cod 14 33 = some (4, 0, 0, z0, 34) := by rw [cod, ctab_14]; rfl
theorem k14_34 : cod 14 34 = some (29, 8, 0, z0, 37) := by rw [cod, ctab_14]; rfl
theorem k14_37 : cod 14 37 = some (0, 0, 0, vr 90 17, 39) := by rw [cod, ctab_14]; rfl
theorem k14_39 : cod 14 39 = some (34, 74, 2, vr 5 0, 42) := by rw [cod, ctab_14]; rfl
theorem k14_42 : cod 14 42 = some (27, 0, 48, z0, 45) := by rw [cod, ctab_14]; rfl
theorem k14_45 : cod 14 45 = some (0, 0, 0, vi (-2), 47) := by rw [cod, ctab_14]; rfl
theorem k14_47 : cod 14 47 = some (36, 1, 0, z0, 48) := by rw [cod, ctab_14]; rfl
theorem k14_48 : cod 14 48 = some (4, 0, 0, z0, 49) := by rw [cod, ctab_14]; rfl
theorem k14_49 : cod 14 49 = some (29, 8, 0, z0, 52) := by rw [cod, ctab_14]; rfl
theorem k14_52 : cod 14 52 = some (0, 0, 0, vr 90 18, 54) := by rw [cod, ctab_14]; rfl
theorem k14_54 : cod 14 54 = some (34, 74, 2, vr 5 0, 57) := by rw [cod, ctab_14]; rfl
theorem k14_57 : cod 14 57 = some (27, 0, 63, z0, 60) := by rw [cod, ctab_14]; rfl
theorem k14_60 : cod 14 60 = some (0, 0, 0, vi (-3), 62) := by rw [cod, ctab_14]; rfl
theorem k14_62 : cod 14 62 = some (36, 1, 0, z0, 63) := by rw [cod, ctab_14]; rfl
theorem k14_63 : cod 14 63 = some (4, 0, 0, z0, 64) := by rw [cod, ctab_14]; rfl
theorem k14_64 : cod 14 64 = some (29, 8, 0, z0, 67) := by rw [cod, ctab_14]; rfl
theorem k14_67 : cod 14 67 = some (0, 0, 0, vr 90 19, 69) := by rw [cod, ctab_14]; rfl
theorem k14_69 : cod 14 69 = some (34, 74, 2, vr 5 0, 72) := by rw [cod, ctab_14]; rfl
theorem k14_72 : cod 14 72 = some (27, 0, 80, z0, 75) := by rw [cod, ctab_14]; rfl
theorem k14_75 : cod 14 75 = some (0, 0, 0, vi (-4), 77) := by rw [cod, ctab_14]; rfl
theorem k14_77 : cod 14 77 = some (26, 82, 0, z0, 80) := by rw [cod, ctab_14]; rfl
theorem k14_80 : cod 14 80 = some (0, 0, 0, vi (-5), 82) := by rw [cod, ctab_14]; rfl
theorem k14_82 : cod 14 82 = some (36, 1, 0, z0, 83) := by rw [cod, ctab_14]; rfl
theorem ctab_15 : ctab.getD 15 [] = cd15 := rfl
theorem k15_0 : cod 15 0 = some (2, 1, 0, z0, 1) := by rw [cod, ctab_15]; rfl
theorem k15_1 : cod 15 1 = some (38, 2, 0, z0, 28) := by rw [cod, ctab_15]; rfl
theorem k15_28 : cod 15 28 = some (4, 0, 0, z0, 29) := by rw [cod, ctab_15]; rfl
theorem k15_29 : cod 15 29 = some (29, 8, 0, z0, 32) := by rw [cod, ctab_15]; rfl
theorem k15_32 : cod 15 32 = some (0, 0, 0, vr 90 20, 34) := by rw [cod, ctab_15]; rfl
theorem k15_34 : cod 15 34 = some (34, 74, 2, vr 5 0, 37) := by rw [cod, ctab_15]; rfl
theorem k15_37 : cod 15 37 = some (27, 0, 45, z0, 40) := by rw [cod, ctab_15]; rfl
theorem k15_40 : cod 15 40 = some (0, 0, 0, vi (-6), 42) := by rw [cod, ctab_15]; rfl
theorem k15_42 : cod 15 42 = some (26, 63, 0, z0, 45) := by rw [cod, ctab_15]; rfl
theorem k15_45 : cod 15 45 = some (4, 0, 0, z0, 46) := by rw [cod, ctab_15]; rfl
theorem k15_46 : cod 15 46 = some (29, 8, 0, z0, 49) := by rw [cod, ctab_15]; rfl
theorem k15_49 : cod 15 49 = some (0, 0, 0, vr 90 21, 51) := by rw [cod, ctab_15]; rfl
theorem k15_51 : cod 15 51 = some (34, 74, 2, vr 5 0, 54) := by rw [cod, ctab_15]; rfl
theorem k15_54 : cod 15 54 = some (27, 0, 62, z0, 57) := by rw [cod, ctab_15]; rfl
theorem k15_57 : cod 15 57 = some (0, 0, 0, vi (-7), 59) := by rw [cod, ctab_15]; rfl
theorem k15_59 : cod 15 59 = some (26, 63, 0, z0, 62) := by rw [cod, ctab_15]; rfl
theorem k15_62 : cod 15 62 = some (0, 0, 0, z0, 63) := by rw [cod, ctab_15]; rfl
theorem k15_63 : cod 15 63 = some (36, 1, 0, z0, 64) := by rw [cod, ctab_15]; rfl
theorem k15_64 : cod 15 64 = some (4, 0, 0, z0, 65) := by rw [cod, ctab_15]; rfl
theorem k15_65 : cod 15 65 = some (29, 8, 0, z0, 68) := by rw [cod, ctab_15]; rfl
theorem k15_68 : cod 15 68 = some (0, 0, 0, vi (60), 70) := by rw [cod, ctab_15]; rfl
theorem k15_70 : cod 15 70 = some (34, 75, 2, vr 5 0, 73) := by rw [cod, ctab_15]; rfl
theorem k15_73 : cod 15 73 = some (27, 0, 81, z0, 76) := by rw [cod, ctab_15]; rfl
theorem k15_76 : cod 15 76 = some (0, 0, 0, vi (-8), 78) := by rw [cod, ctab_15]; rfl
theorem k15_78 : cod 15 78 = some (26, 99, 0, z0, 81) := by rw [cod, ctab_15]; rfl
theorem k15_81 : cod 15 81 = some (4, 0, 0, z0, 82) := by rw [cod, ctab_15]; rfl
theorem k15_82 : cod 15 82 = some (29, 8, 0, z0, 85) := by rw [cod, ctab_15]; rfl
theorem k15_85 : cod 15 85 = some (0, 0, 0, vi (61), 87) := by rw [cod, ctab_15]; rfl
theorem k15_87 : cod 15 87 = some (34, 75, 2, vr 5 0, 90) := by rw [cod, ctab_15]; rfl
theorem k15_90 : cod 15 90 = some (27, 0, 98, z0, 93) := by rw [cod, ctab_15]; rfl
theorem k15_93 : cod 15 93 = some (0, 0, 0, vi (-9), 95) := by rw [cod, ctab_15]; rfl
theorem k15_95 : cod 15 95 = some (26, 99, 0, z0, 98) := by rw [cod, ctab_15]; rfl
theorem k15_98 : cod 15 98 = some (0, 0, 0, z0, 99) := by rw [cod, ctab_15]; rfl
theorem k15_99 : cod 15 99 = some (36, 1, 0, z0, 100) := by rw [cod, ctab_15]; rfl
theorem k15_100 : cod 15 100 = some (4, 0, 0, z0, 101) := by rw [cod, ctab_15]; rfl
theorem k15_101 : cod 15 101 = some (29, 8, 0, z0, 104) := by rw [cod, ctab_15]; rfl
theorem k15_104 : cod 15 104 = some (0, 0, 0, vi (43), 106) := by rw [cod, ctab_15]; rfl
theorem k15_106 : cod 15 106 = some (34, 75, 2, vr 5 0, 109) := by rw [cod, ctab_15]; rfl
theorem k15_109 : cod 15 109 = some (27, 0, 117, z0, 112) := by rw [cod, ctab_15]; rfl
theorem k15_112 : cod 15 112 = some (0, 0, 0, vi (-10), 114) := by rw [cod, ctab_15]; rfl
theorem k15_114 : cod 15 114 = some (26, 135, 0, z0, 117) := by rw [cod, ctab_15]; rfl
theorem k15_117 : cod 15 117 = some (4, 0, 0, z0, 118) := by rw [cod, ctab_15]; rfl
theorem k15_118 : cod 15 118 = some (29, 8, 0, z0, 121) := by rw [cod, ctab_15]; rfl
theorem k15_121 : cod 15 121 = some (0, 0, 0, vi (45), 123) := by rw [cod, ctab_15]; rfl
theorem k15_123 : cod 15 123 = some (34, 75, 2, vr 5 0, 126) := by rw [cod, ctab_15]; rfl
theorem k15_126 : cod 15 126 = some (27, 0, 134, z0, 129) := by rw [cod, ctab_15]; rfl
theorem k15_129 : cod 15 129 = some (0, 0, 0, vi (-11), 131) := by rw [cod, ctab_15]; rfl
theorem k15_131 : cod 15 131 = some (26, 135, 0, z0, 134) := by rw [cod, ctab_15]; rfl
theorem k15_134 : cod 15 134 = some (0, 0, 0, z0, 135) := by rw [cod, ctab_15]; rfl
theorem k15_135 : cod 15 135 = some (36, 1, 0, z0, 136) := by rw [cod, ctab_15]; rfl
theorem k15_136 : cod 15 136 = some (4, 0, 0, z0, 137) := by rw [cod, ctab_15]; rfl
theorem k15_137 : cod 15 137 = some (29, 8, 0, z0, 140) := by rw [cod, ctab_15]; rfl
theorem k15_140 : cod 15 140 = some (0, 0, 0, vi (42), 142) := by rw [cod, ctab_15]; rfl
theorem k15_142 : cod 15 142 = some (34, 75, 2, vr 5 0, 145) := by rw [cod, ctab_15]; rfl
theorem k15_145 : cod 15 145 = some (27, 0, 153, z0, 148) := by rw [cod, ctab_15]; rfl
theorem k15_148 : cod 15 148 = some (0, 0, 0, vi (-12), 150) := by rw [cod, ctab_15]; rfl
theorem k15_150 : cod 15 150 = some (26, 154, 0, z0, 153) := by rw [cod, ctab_15]; rfl
theorem k15_153 : cod 15 153 = some (0, 0, 0, z0, 154) := by rw [cod, ctab_15]; rfl
theorem k15_154 : cod 15 154 = some (36, 1, 0, z0, 155) := by rw [cod, ctab_15]; rfl
theorem ctab_16 : ctab.getD 16 [] = cd16 := rfl
theorem k16_0 : cod 16 0 = some (4, 0, 0, z0, 1) := by rw [cod, ctab_16]; rfl
theorem k16_1 : cod 16 1 = some (44, 0, 0, z0, 4) := by rw [cod, ctab_16]; rfl
theorem k16_4 : cod 16 4 = some (4, 0, 0, z0, 5) := by rw [cod, ctab_16]; rfl
theorem k16_5 : cod 16 5 = some (0, 0, 0, vi (6), 7) := by rw [cod, ctab_16]; rfl
theorem k16_7 : cod 16 7 = some (40, 38, 0, z0, 9) := by rw [cod, ctab_16]; rfl
theorem k16_9 : cod 16 9 = some (30, 37, 0, z0, 12) := by rw [cod, ctab_16]; rfl
theorem k16_12 : cod 16 12 = some (4, 0, 0, z0, 13) := by rw [cod, ctab_16]; rfl
theorem k16_13 : cod 16 13 = some (0, 0, 0, vi (6), 15) := by rw [cod, ctab_16]; rfl
theorem k16_15 : cod 16 15 = some (40, 39, 0, z0, 17) := by rw [cod, ctab_16]; rfl
theorem k16_17 : cod 16 17 = some (30, 37, 1, z0, 20) := by rw [cod, ctab_16]; rfl
theorem k16_20 : cod 16 20 = some (35, 0, 0, z0, 21) := by rw [cod, ctab_16]; rfl
theorem ctab_17 : ctab.getD 17 [] = cd17 := rfl
theorem k17_0 : cod 17 0 = some (4, 0, 0, z0, 1) := by rw [cod, ctab_17]; rfl
theorem k17_1 : cod 17 1 = some (0, 0, 0, vi (-1), 2) := by rw [cod, ctab_17]; rfl
theorem k17_2 : cod 17 2 = some (30, 37, 2, z0, 5) := by rw [cod, ctab_17]; rfl
theorem k17_5 : cod 17 5 = some (0, 0, 0, z0, 6) := by rw [cod, ctab_17]; rfl
theorem k17_6 : cod 17 6 = some (5, 3, 0, z0, 7) := by rw [cod, ctab_17]; rfl
theorem k17_7 : cod 17 7 = some (2, 3, 0, z0, 8) := by rw [cod, ctab_17]; rfl
theorem k17_8 : cod 17 8 = some (0, 0, 0, vi (6), 10) := by rw [cod, ctab_17]; rfl
theorem k17_10 : cod 17 10 = some (28, 3, 26, z0, 13) := by rw [cod, ctab_17]; rfl
theorem k17_13 : cod 17 13 = some (4, 0, 0, z0, 14) := by rw [cod, ctab_17]; rfl
theorem k17_14 : cod 17 14 = some (29, 37, 0, z0, 17) := by rw [cod, ctab_17]; rfl
theorem k17_17 : cod 17 17 = some (2, 3, 0, z0, 18) := by rw [cod, ctab_17]; rfl
theorem k17_18 : cod 17 18 = some (2, 3, 0, z0, 19) := by rw [cod, ctab_17]; rfl
theorem k17_19 : cod 17 19 = some (32, 1, 0, z0, 20) := by rw [cod, ctab_17]; rfl
theorem k17_20 : cod 17 20 = some (8, 3, 0, vi (1), 23) := by rw [cod, ctab_17]; rfl
theorem k17_23 : cod 17 23 = some (26, 7, 0, z0, 26) := by rw [cod, ctab_17]; rfl
theorem k17_26 : cod 17 26 = some (4, 0, 0, z0, 27) := by rw [cod, ctab_17]; rfl
theorem k17_27 : cod 17 27 = some (4, 1, 0, z0, 28) := by rw [cod, ctab_17]; rfl
theorem k17_28 : cod 17 28 = some (4, 2, 0, z0, 29) := by rw [cod, ctab_17]; rfl
theorem k17_29 : cod 17 29 = some (0, 0, 0, z0, 30) := by rw [cod, ctab_17]; rfl
theorem k17_30 : cod 17 30 = some (0, 0, 0, z0, 31) := by rw [cod, ctab_17]; rfl
theorem k17_31 : cod 17 31 = some (34, 18, 5, vr 37 0, 34) := by rw [cod, ctab_17]; rfl
theorem k17_34 : cod 17 34 = some (35, 0, 0, z0, 35) := by rw [cod, ctab_17]; rfl
theorem ctab_18 : ctab.getD 18 [] = cd18 := rfl
theorem k18_0 : cod 18 0 = some (2, 3, 0, z0, 1) := by rw [cod, ctab_18]; rfl
theorem k18_1 : cod 18 1 = some (4, 1, 0, z0, 2) := by rw [cod, ctab_18]; rfl
theorem k18_2 : cod 18 2 = some (29, 9, 10, z0, 5) := by rw [cod, ctab_18]; rfl
theorem k18_5 : cod 18 5 = some (28, 2, 39, z0, 8) := by rw [cod, ctab_18]; rfl
theorem k18_8 : cod 18 8 = some (2, 4, 0, z0, 10) := by rw [cod, ctab_18]; rfl
theorem k18_10 : cod 18 10 = some (4, 0, 0, z0, 11) := by rw [cod, ctab_18]; rfl
theorem k18_11 : cod 18 11 = some (29, 37, 2, z0, 14) := by rw [cod, ctab_18]; rfl
theorem k18_14 : cod 18 14 = some (28, 5, 38, z0, 17) := by rw [cod, ctab_18]; rfl
theorem k18_17 : cod 18 17 = some (4, 0, 0, z0, 18) := by rw [cod, ctab_18]; rfl
theorem k18_18 : cod 18 18 = some (2, 4, 0, z0, 20) := by rw [cod, ctab_18]; rfl
theorem k18_20 : cod 18 20 = some (30, 37, 2, z0, 23) := by rw [cod, ctab_18]; rfl
theorem k18_23 : cod 18 23 = some (4, 0, 0, z0, 24) := by rw [cod, ctab_18]; rfl
theorem k18_24 : cod 18 24 = some (29, 37, 0, z0, 27) := by rw [cod, ctab_18]; rfl
theorem k18_27 : cod 18 27 = some (0, 0, 0, z0, 28) := by rw [cod, ctab_18]; rfl
theorem k18_28 : cod 18 28 = some (4, 0, 0, z0, 29) := by rw [cod, ctab_18]; rfl
theorem k18_29 : cod 18 29 = some (29, 37, 1, z0, 32) := by rw [cod, ctab_18]; rfl
theorem k18_32 : cod 18 32 = some (0, 0, 0, z0, 33) := by rw [cod, ctab_18]; rfl
theorem k18_33 : cod 18 33 = some (0, 0, 0, vi (6), 35) := by rw [cod, ctab_18]; rfl
theorem k18_35 : cod 18 35 = some (46, 0, 0, z0, 38) := by rw [cod, ctab_18]; rfl
theorem k18_38 : cod 18 38 = some (35, 0, 0, z0, 39) := by rw [cod, ctab_18]; rfl
theorem k18_39 : cod 18 39 = some (4, 0, 0, z0, 40) := by rw [cod, ctab_18]; rfl
theorem k18_40 : cod 18 40 = some (4, 1, 0, z0, 41) := by rw [cod, ctab_18]; rfl
theorem k18_41 : cod 18 41 = some (4, 2, 0, z0, 42) := by rw [cod, ctab_18]; rfl
theorem k18_42 : cod 18 42 = some (2, 3, 0, z0, 43) := by rw [cod, ctab_18]; rfl
theorem k18_43 : cod 18 43 = some (0, 0, 0, vi (1), 44) := by rw [cod, ctab_18]; rfl
theorem k18_44 : cod 18 44 = some (9, 0, 0, z0, 45) := by rw [cod, ctab_18]; rfl
theorem k18_45 : cod 18 45 = some (2, 4, 0, z0, 47) := by rw [cod, ctab_18]; rfl
theorem k18_47 : cod 18 47 = some (34, 18, 5, vr 37 0, 50) := by rw [cod, ctab_18]; rfl
theorem k18_50 : cod 18 50 = some (4, 0, 0, z0, 51) := by rw [cod, ctab_18]; rfl
theorem k18_51 : cod 18 51 = some (29, 37, 0, z0, 54) := by rw [cod, ctab_18]; rfl
theorem k18_54 : cod 18 54 = some (2, 3, 0, z0, 55) := by rw [cod, ctab_18]; rfl
theorem k18_55 : cod 18 55 = some (31, 1, 0, z0, 56) := by rw [cod, ctab_18]; rfl
theorem k18_56 : cod 18 56 = some (2, 3, 0, z0, 57) := by rw [cod, ctab_18]; rfl
theorem k18_57 : cod 18 57 = some (28, 0, 61, z0, 60) := by rw [cod, ctab_18]; rfl
theorem k18_60 : cod 18 60 = some (35, 0, 0, z0, 61) := by rw [cod, ctab_18]; rfl
theorem k18_61 : cod 18 61 = some (2, 3, 0, z0, 62) := by rw [cod, ctab_18]; rfl
theorem k18_62 : cod 18 62 = some (0, 0, 0, vi (1), 63) := by rw [cod, ctab_18]; rfl
theorem k18_63 : cod 18 63 = some (9, 0, 0, z0, 64) := by rw [cod, ctab_18]; rfl
theorem k18_64 : cod 18 64 = some (5, 5, 0, z0, 66) := by rw [cod, ctab_18]; rfl
theorem k18_66 : cod 18 66 = some (2, 5, 0, z0, 68) := by rw [cod, ctab_18]; rfl
theorem k18_68 : cod 18 68 = some (4, 1, 0, z0, 69) := by rw [cod, ctab_18]; rfl
theorem k18_69 : cod 18 69 = some (29, 9, 10, z0, 72) := by rw [cod, ctab_18]; rfl
theorem k18_72 : cod 18 72 = some (28, 3, 165, z0, 75) := by rw [cod, ctab_18]; rfl
theorem k18_75 : cod 18 75 = some (4, 0, 0, z0, 76) := by rw [cod, ctab_18]; rfl
theorem k18_76 : cod 18 76 = some (29, 37, 0, z0, 79) := by rw [cod, ctab_18]; rfl
theorem k18_79 : cod 18 79 = some (2, 5, 0, z0, 81) := by rw [cod, ctab_18]; rfl
theorem k18_81 : cod 18 81 = some (31, 1, 0, z0, 82) := by rw [cod, ctab_18]; rfl
theorem k18_82 : cod 18 82 = some (2, 5, 0, z0, 84) := by rw [cod, ctab_18]; rfl
theorem k18_84 : cod 18 84 = some (28, 1, 159, z0, 87) := by rw [cod, ctab_18]; rfl
theorem k18_87 : cod 18 87 = some (4, 2, 0, z0, 88) := by rw [cod, ctab_18]; rfl
theorem k18_88 : cod 18 88 = some (29, 25, 0, z0, 91) := by rw [cod, ctab_18]; rfl
theorem k18_91 : cod 18 91 = some (2, 5, 0, z0, 93) := by rw [cod, ctab_18]; rfl
theorem k18_93 : cod 18 93 = some (31, 1, 0, z0, 94) := by rw [cod, ctab_18]; rfl
theorem k18_94 : cod 18 94 = some (4, 2, 0, z0, 95) := by rw [cod, ctab_18]; rfl
theorem k18_95 : cod 18 95 = some (29, 25, 0, z0, 98) := by rw [cod, ctab_18]; rfl
theorem k18_98 : cod 18 98 = some (2, 3, 0, z0, 99) := by rw [cod, ctab_18]; rfl
theorem k18_99 : cod 18 99 = some (31, 1, 0, z0, 100) := by rw [cod, ctab_18]; rfl
theorem k18_100 : cod 18 100 = some (28, 1, 159, z0, 103) := by rw [cod, ctab_18]; rfl
theorem k18_103 : cod 18 103 = some (4, 2, 0, z0, 104) := by rw [cod, ctab_18]; rfl
theorem k18_104 : cod 18 104 = some (4, 1, 0, z0, 105) := by rw [cod, ctab_18]; rfl
theorem k18_105 : cod 18 105 = some (2, 3, 0, z0, 106) := by rw [cod, ctab_18]; rfl
theorem k18_106 : cod 18 106 = some (2, 5, 0, z0, 108) := by rw [cod, ctab_18]; rfl
theorem k18_108 : cod 18 108 = some (34, 51, 4, vr 25 0, 111) := by rw [cod, ctab_18]; rfl
theorem k18_111 : cod 18 111 = some (27, 0, 159, z0, 114) := by rw [cod, ctab_18]; rfl
theorem k18_114 : cod 18 114 = some (4, 0, 0, z0, 115) := by rw [cod, ctab_18]; rfl
theorem k18_115 : cod 18 115 = some (29, 37, 0, z0, 118) := by rw [cod, ctab_18]; rfl
theorem k18_118 : cod 18 118 = some (2, 3, 0, z0, 119) := by rw [cod, ctab_18]; rfl
theorem k18_119 : cod 18 119 = some (2, 5, 0, z0, 121) := by rw [cod, ctab_18]; rfl
theorem k18_121 : cod 18 121 = some (32, 1, 0, z0, 122) := by rw [cod, ctab_18]; rfl
theorem k18_122 : cod 18 122 = some (4, 0, 0, z0, 123) := by rw [cod, ctab_18]; rfl
theorem k18_123 : cod 18 123 = some (29, 37, 0, z0, 126) := by rw [cod, ctab_18]; rfl
theorem k18_126 : cod 18 126 = some (2, 5, 0, z0, 128) := by rw [cod, ctab_18]; rfl
theorem k18_128 : cod 18 128 = some (2, 3, 0, z0, 129) := by rw [cod, ctab_18]; rfl
theorem k18_129 : cod 18 129 = some (32, 1, 0, z0, 130) := by rw [cod, ctab_18]; rfl
theorem k18_130 : cod 18 130 = some (4, 0, 0, z0, 131) := by rw [cod, ctab_18]; rfl
theorem k18_131 : cod 18 131 = some (4, 1, 0, z0, 132) := by rw [cod, ctab_18]; rfl
theorem k18_132 : cod 18 132 = some (4, 2, 0, z0, 133) := by rw [cod, ctab_18]; rfl
theorem k18_133 : cod 18 133 = some (2, 3, 0, z0, 134) := by rw [cod, ctab_18]; rfl
theorem k18_134 : cod 18 134 = some (0, 0, 0, vi (1), 135) := by rw [cod, ctab_18]; rfl
theorem k18_135 : cod 18 135 = some (9, 0, 0, z0, 136) := by rw [cod, ctab_18]; rfl
theorem k18_136 : cod 18 136 = some (2, 4, 0, z0, 138) := by rw [cod, ctab_18]; rfl
theorem k18_138 : cod 18 138 = some (0, 0, 0, vi (1), 139) := by rw [cod, ctab_18]; rfl
theorem k18_139 : cod 18 139 = some (9, 0, 0, z0, 140) := by rw [cod, ctab_18]; rfl
theorem k18_140 : cod 18 140 = some (34, 18, 5, vr 37 0, 143) := by rw [cod, ctab_18]; rfl
theorem k18_143 : cod 18 143 = some (4, 0, 0, z0, 144) := by rw [cod, ctab_18]; rfl
theorem k18_144 : cod 18 144 = some (29, 37, 0, z0, 147) := by rw [cod, ctab_18]; rfl
theorem k18_147 : cod 18 147 = some (2, 3, 0, z0, 148) := by rw [cod, ctab_18]; rfl
theorem k18_148 : cod 18 148 = some (2, 3, 0, z0, 149) := by rw [cod, ctab_18]; rfl
theorem k18_149 : cod 18 149 = some (32, 1, 0, z0, 150) := by rw [cod, ctab_18]; rfl
theorem k18_150 : cod 18 150 = some (4, 0, 0, z0, 151) := by rw [cod, ctab_18]; rfl
theorem k18_151 : cod 18 151 = some (29, 37, 0, z0, 154) := by rw [cod, ctab_18]; rfl
theorem k18_154 : cod 18 154 = some (2, 5, 0, z0, 156) := by rw [cod, ctab_18]; rfl
theorem k18_156 : cod 18 156 = some (2, 5, 0, z0, 158) := by rw [cod, ctab_18]; rfl
theorem k18_158 : cod 18 158 = some (32, 1, 0, z0, 159) := by rw [cod, ctab_18]; rfl
theorem k18_159 : cod 18 159 = some (8, 5, 0, vi (1), 162) := by rw [cod, ctab_18]; rfl
theorem k18_162 : cod 18 162 = some (26, 66, 0, z0, 165) := by rw [cod, ctab_18]; rfl
theorem k18_165 : cod 18 165 = some (35, 0, 0, z0, 166) := by rw [cod, ctab_18]; rfl
theorem ctab_19 : ctab.getD 19 [] = cd19 := rfl
theorem k19_0 : cod 19 0 = some (4, 0, 0, z0, 1) := by rw [cod, ctab_19]; rfl
theorem k19_1 : cod 19 1 = some (44, 0, 0, z0, 4) := by rw [cod, ctab_19]; rfl
theorem k19_4 : cod 19 4 = some (4, 0, 0, z0, 5) := by rw [cod, ctab_19]; rfl
theorem k19_5 : cod 19 5 = some (0, 0, 0, vi (16), 7) := by rw [cod, ctab_19]; rfl
theorem k19_7 : cod 19 7 = some (41, 30, 0, z0, 10) := by rw [cod, ctab_19]; rfl
theorem k19_10 : cod 19 10 = some (30, 29, 0, z0, 13) := by rw [cod, ctab_19]; rfl
theorem k19_13 : cod 19 13 = some (0, 0, 0, z0, 14) := by rw [cod, ctab_19]; rfl
theorem k19_14 : cod 19 14 = some (5, 1, 0, z0, 15) := by rw [cod, ctab_19]; rfl
theorem k19_15 : cod 19 15 = some (2, 1, 0, z0, 16) := by rw [cod, ctab_19]; rfl
theorem k19_16 : cod 19 16 = some (0, 0, 0, vi (16), 18) := by rw [cod, ctab_19]; rfl
theorem k19_18 : cod 19 18 = some (28, 3, 40, z0, 21) := by rw [cod, ctab_19]; rfl
theorem k19_21 : cod 19 21 = some (4, 0, 0, z0, 22) := by rw [cod, ctab_19]; rfl
theorem k19_22 : cod 19 22 = some (29, 29, 0, z0, 25) := by rw [cod, ctab_19]; rfl
theorem k19_25 : cod 19 25 = some (2, 1, 0, z0, 26) := by rw [cod, ctab_19]; rfl
theorem k19_26 : cod 19 26 = some (39, 25, 0, z0, 29) := by rw [cod, ctab_19]; rfl
theorem k19_29 : cod 19 29 = some (23, 0, 0, z0, 30) := by rw [cod, ctab_19]; rfl
theorem k19_30 : cod 19 30 = some (34, 43, 1, vr 25 0, 33) := by rw [cod, ctab_19]; rfl
theorem k19_33 : cod 19 33 = some (32, 5, 0, z0, 34) := by rw [cod, ctab_19]; rfl
theorem k19_34 : cod 19 34 = some (8, 1, 0, vi (1), 37) := by rw [cod, ctab_19]; rfl
theorem k19_37 : cod 19 37 = some (26, 15, 0, z0, 40) := by rw [cod, ctab_19]; rfl
theorem k19_40 : cod 19 40 = some (35, 0, 0, z0, 41) := by rw [cod, ctab_19]; rfl
theorem ctab_20 : ctab.getD 20 [] = cd20 := rfl
theorem k20_0 : cod 20 0 = some (4, 0, 0, z0, 1) := by rw [cod, ctab_20]; rfl
theorem k20_1 : cod 20 1 = some (0, 0, 0, z0, 2) := by rw [cod, ctab_20]; rfl
theorem k20_2 : cod 20 2 = some (30, 29, 2, z0, 5) := by rw [cod, ctab_20]; rfl
theorem k20_5 : cod 20 5 = some (35, 0, 0, z0, 6) := by rw [cod, ctab_20]; rfl
theorem ctab_21 : ctab.getD 21 [] = cd21 := rfl
theorem k21_0 : cod 21 0 = some (4, 0, 0, z0, 1) := by rw [cod, ctab_21]; rfl
theorem k21_1 : cod 21 1 = some (4, 0, 0, z0, 2) := by rw [cod, ctab_21]; rfl
theorem k21_2 : cod 21 2 = some (29, 29, 1, z0, 5) := by rw [cod, ctab_21]; rfl
theorem k21_5 : cod 21 5 = some (0, 0, 0, vi (1), 6) := by rw [cod, ctab_21]; rfl
theorem k21_6 : cod 21 6 = some (9, 0, 0, z0, 7) := by rw [cod, ctab_21]; rfl
theorem k21_7 : cod 21 7 = some (0, 0, 0, vi (16), 9) := by rw [cod, ctab_21]; rfl
theorem k21_9 : cod 21 9 = some (11, 0, 0, z0, 10) := by rw [cod, ctab_21]; rfl
theorem k21_10 : cod 21 10 = some (30, 29, 1, z0, 13) := by rw [cod, ctab_21]; rfl
theorem k21_13 : cod 21 13 = some (4, 0, 0, z0, 14) := by rw [cod, ctab_21]; rfl
theorem k21_14 : cod 21 14 = some (29, 29, 0, z0, 17) := by rw [cod, ctab_21]; rfl
theorem k21_17 : cod 21 17 = some (4, 0, 0, z0, 18) := by rw [cod, ctab_21]; rfl
theorem k21_18 : cod 21 18 = some (29, 29, 1, z0, 21) := by rw [cod, ctab_21]; rfl
theorem k21_21 : cod 21 21 = some (31, 5, 0, z0, 22) := by rw [cod, ctab_21]; rfl
theorem k21_22 : cod 21 22 = some (4, 1, 0, z0, 23) := by rw [cod, ctab_21]; rfl
theorem k21_23 : cod 21 23 = some (34, 45, 2, vr 25 0, 26) := by rw [cod, ctab_21]; rfl
theorem k21_26 : cod 21 26 = some (4, 0, 0, z0, 27) := by rw [cod, ctab_21]; rfl
theorem k21_27 : cod 21 27 = some (0, 0, 0, vi (16), 29) := by rw [cod, ctab_21]; rfl
theorem k21_29 : cod 21 29 = some (4, 0, 0, z0, 30) := by rw [cod, ctab_21]; rfl
theorem k21_30 : cod 21 30 = some (29, 29, 2, z0, 33) := by rw [cod, ctab_21]; rfl
theorem k21_33 : cod 21 33 = some (0, 0, 0, vi (1), 34) := by rw [cod, ctab_21]; rfl
theorem k21_34 : cod 21 34 = some (9, 0, 0, z0, 35) := by rw [cod, ctab_21]; rfl
theorem k21_35 : cod 21 35 = some (48, 0, 0, z0, 38) := by rw [cod, ctab_21]; rfl
theorem k21_38 : cod 21 38 = some (30, 29, 2, z0, 41) := by rw [cod, ctab_21]; rfl
theorem k21_41 : cod 21 41 = some (35, 0, 0, z0, 42) := by rw [cod, ctab_21]; rfl
theorem ctab_22 : ctab.getD 22 [] = cd22 := rfl
theorem k22_0 : cod 22 0 = some (4, 0, 0, z0, 1) := by rw [cod, ctab_22]; rfl
theorem k22_1 : cod 22 1 = some (29, 29, 2, z0, 4) := by rw [cod, ctab_22]; rfl
theorem k22_4 : cod 22 4 = some (27, 1, 9, z0, 7) := by rw [cod, ctab_22]; rfl
theorem k22_7 : cod 22 7 = some (0, 0, 0, z0, 8) := by rw [cod, ctab_22]; rfl
theorem k22_8 : cod 22 8 = some (36, 2, 0, z0, 9) := by rw [cod, ctab_22]; rfl
theorem k22_9 : cod 22 9 = some (4, 1, 0, z0, 10) := by rw [cod, ctab_22]; rfl
theorem k22_10 : cod 22 10 = some (4, 0, 0, z0, 11) := by rw [cod, ctab_22]; rfl
theorem k22_11 : cod 22 11 = some (29, 29, 0, z0, 14) := by rw [cod, ctab_22]; rfl
theorem k22_14 : cod 22 14 = some (4, 0, 0, z0, 15) := by rw [cod, ctab_22]; rfl
theorem k22_15 : cod 22 15 = some (29, 29, 1, z0, 18) := by rw [cod, ctab_22]; rfl
theorem k22_18 : cod 22 18 = some (31, 5, 0, z0, 19) := by rw [cod, ctab_22]; rfl
theorem k22_19 : cod 22 19 = some (34, 45, 2, vr 25 0, 22) := by rw [cod, ctab_22]; rfl
theorem k22_22 : cod 22 22 = some (4, 0, 0, z0, 23) := by rw [cod, ctab_22]; rfl
theorem k22_23 : cod 22 23 = some (4, 0, 0, z0, 24) := by rw [cod, ctab_22]; rfl
theorem k22_24 : cod 22 24 = some (29, 29, 1, z0, 27) := by rw [cod, ctab_22]; rfl
theorem k22_27 : cod 22 27 = some (0, 0, 0, vi (16), 29) := by rw [cod, ctab_22]; rfl
theorem k22_29 : cod 22 29 = some (9, 0, 0, z0, 30) := by rw [cod, ctab_22]; rfl
theorem k22_30 : cod 22 30 = some (0, 0, 0, vi (1), 31) := by rw [cod, ctab_22]; rfl
theorem k22_31 : cod 22 31 = some (9, 1, 0, z0, 32) := by rw [cod, ctab_22]; rfl
theorem k22_32 : cod 22 32 = some (0, 0, 0, vi (16), 34) := by rw [cod, ctab_22]; rfl
theorem k22_34 : cod 22 34 = some (11, 0, 0, z0, 35) := by rw [cod, ctab_22]; rfl
theorem k22_35 : cod 22 35 = some (30, 29, 1, z0, 38) := by rw [cod, ctab_22]; rfl
theorem k22_38 : cod 22 38 = some (4, 0, 0, z0, 39) := by rw [cod, ctab_22]; rfl
theorem k22_39 : cod 22 39 = some (23, 0, 0, z0, 40) := by rw [cod, ctab_22]; rfl
theorem k22_40 : cod 22 40 = some (29, 29, 2, z0, 43) := by rw [cod, ctab_22]; rfl
theorem k22_43 : cod 22 43 = some (0, 0, 0, vi (1), 44) := by rw [cod, ctab_22]; rfl
theorem k22_44 : cod 22 44 = some (9, 1, 0, z0, 45) := by rw [cod, ctab_22]; rfl
theorem k22_45 : cod 22 45 = some (30, 29, 2, z0, 48) := by rw [cod, ctab_22]; rfl
theorem k22_48 : cod 22 48 = some (0, 0, 0, vi (1), 49) := by rw [cod, ctab_22]; rfl
theorem k22_49 : cod 22 49 = some (36, 2, 0, z0, 50) := by rw [cod, ctab_22]; rfl
theorem ctab_23 : ctab.getD 23 [] = cd23 := rfl
theorem k23_0 : cod 23 0 = some (4, 0, 0, z0, 1) := by rw [cod, ctab_23]; rfl
theorem k23_1 : cod 23 1 = some (44, 0, 0, z0, 4) := by rw [cod, ctab_23]; rfl
theorem k23_4 : cod 23 4 = some (4, 0, 0, z0, 5) := by rw [cod, ctab_23]; rfl
theorem k23_5 : cod 23 5 = some (0, 0, 0, vi (4), 6) := by rw [cod, ctab_23]; rfl
theorem k23_6 : cod 23 6 = some (40, 33, 0, z0, 8) := by rw [cod, ctab_23]; rfl
theorem k23_8 : cod 23 8 = some (30, 31, 1, z0, 11) := by rw [cod, ctab_23]; rfl
theorem k23_11 : cod 23 11 = some (4, 0, 0, z0, 12) := by rw [cod, ctab_23]; rfl
theorem k23_12 : cod 23 12 = some (0, 0, 0, vi (4), 13) := by rw [cod, ctab_23]; rfl
theorem k23_13 : cod 23 13 = some (40, 34, 0, z0, 15) := by rw [cod, ctab_23]; rfl
theorem k23_15 : cod 23 15 = some (30, 31, 2, z0, 18) := by rw [cod, ctab_23]; rfl
theorem k23_18 : cod 23 18 = some (4, 0, 0, z0, 19) := by rw [cod, ctab_23]; rfl
theorem k23_19 : cod 23 19 = some (0, 0, 0, vi (5), 20) := by rw [cod, ctab_23]; rfl
theorem k23_20 : cod 23 20 = some (41, 32, 0, z0, 23) := by rw [cod, ctab_23]; rfl
theorem k23_23 : cod 23 23 = some (30, 31, 0, z0, 26) := by rw [cod, ctab_23]; rfl
theorem k23_26 : cod 23 26 = some (0, 0, 0, z0, 27) := by rw [cod, ctab_23]; rfl
theorem k23_27 : cod 23 27 = some (5, 1, 0, z0, 28) := by rw [cod, ctab_23]; rfl
theorem k23_28 : cod 23 28 = some (2, 1, 0, z0, 29) := by rw [cod, ctab_23]; rfl
theorem k23_29 : cod 23 29 = some (0, 0, 0, vi (4), 30) := by rw [cod, ctab_23]; rfl
theorem k23_30 : cod 23 30 = some (28, 4, 52, z0, 33) := by rw [cod, ctab_23]; rfl
theorem k23_33 : cod 23 33 = some (4, 0, 0, z0, 34) := by rw [cod, ctab_23]; rfl
theorem k23_34 : cod 23 34 = some (29, 31, 0, z0, 37) := by rw [cod, ctab_23]; rfl
theorem k23_37 : cod 23 37 = some (2, 1, 0, z0, 38) := by rw [cod, ctab_23]; rfl
theorem k23_38 : cod 23 38 = some (39, 25, 0, z0, 41) := by rw [cod, ctab_23]; rfl
theorem k23_41 : cod 23 41 = some (23, 0, 0, z0, 42) := by rw [cod, ctab_23]; rfl
theorem k23_42 : cod 23 42 = some (34, 43, 1, vr 25 0, 45) := by rw [cod, ctab_23]; rfl
theorem k23_45 : cod 23 45 = some (32, 5, 0, z0, 46) := by rw [cod, ctab_23]; rfl
theorem k23_46 : cod 23 46 = some (8, 1, 0, vi (1), 49) := by rw [cod, ctab_23]; rfl
theorem k23_49 : cod 23 49 = some (26, 28, 0, z0, 52) := by rw [cod, ctab_23]; rfl
theorem k23_52 : cod 23 52 = some (35, 0, 0, z0, 53) := by rw [cod, ctab_23]; rfl
theorem ctab_24 : ctab.getD 24 [] = cd24 := rfl
theorem k24_0 : cod 24 0 = some (4, 0, 0, z0, 1) := by rw [cod, ctab_24]; rfl
theorem k24_1 : cod 24 1 = some (29, 31, 0, z0, 4) := by rw [cod, ctab_24]; rfl
theorem k24_4 : cod 24 4 = some (0, 0, 0, z0, 5) := by rw [cod, ctab_24]; rfl
theorem k24_5 : cod 24 5 = some (31, 5, 0, z0, 6) := by rw [cod, ctab_24]; rfl
theorem k24_6 : cod 24 6 = some (4, 2, 0, z0, 7) := by rw [cod, ctab_24]; rfl
theorem k24_7 : cod 24 7 = some (34, 45, 2, vr 25 0, 10) := by rw [cod, ctab_24]; rfl
theorem k24_10 : cod 24 10 = some (4, 0, 0, z0, 11) := by rw [cod, ctab_24]; rfl
theorem k24_11 : cod 24 11 = some (0, 0, 0, vi (-1), 12) := by rw [cod, ctab_24]; rfl
theorem k24_12 : cod 24 12 = some (30, 31, 3, z0, 15) := by rw [cod, ctab_24]; rfl
theorem k24_15 : cod 24 15 = some (4, 0, 0, z0, 16) := by rw [cod, ctab_24]; rfl
theorem k24_16 : cod 24 16 = some (0, 0, 0, vi (4), 17) := by rw [cod, ctab_24]; rfl
theorem k24_17 : cod 24 17 = some (2, 4, 0, z0, 19) := by rw [cod, ctab_24]; rfl
theorem k24_19 : cod 24 19 = some (48, 0, 0, z0, 22) := by rw [cod, ctab_24]; rfl
theorem k24_22 : cod 24 22 = some (30, 31, 4, z0, 25) := by rw [cod, ctab_24]; rfl
theorem k24_25 : cod 24 25 = some (4, 0, 0, z0, 26) := by rw [cod, ctab_24]; rfl
theorem k24_26 : cod 24 26 = some (4, 1, 0, z0, 27) := by rw [cod, ctab_24]; rfl
theorem k24_27 : cod 24 27 = some (2, 3, 0, z0, 28) := by rw [cod, ctab_24]; rfl
theorem k24_28 : cod 24 28 = some (0, 0, 0, z0, 29) := by rw [cod, ctab_24]; rfl
theorem k24_29 : cod 24 29 = some (34, 25, 4, vr 31 0, 32) := by rw [cod, ctab_24]; rfl
theorem k24_32 : cod 24 32 = some (35, 0, 0, z0, 33) := by rw [cod, ctab_24]; rfl
theorem ctab_25 : ctab.getD 25 [] = cd25 := rfl
theorem k25_0 : cod 25 0 = some (4, 0, 0, z0, 1) := by rw [cod, ctab_25]; rfl
theorem k25_1 : cod 25 1 = some (29, 31, 0, z0, 4) := by rw [cod, ctab_25]; rfl
theorem k25_4 : cod 25 4 = some (2, 3, 0, z0, 5) := by rw [cod, ctab_25]; rfl
theorem k25_5 : cod 25 5 = some (31, 5, 0, z0, 6) := by rw [cod, ctab_25]; rfl
theorem k25_6 : cod 25 6 = some (7, 4, 0, z0, 8) := by rw [cod, ctab_25]; rfl
theorem k25_8 : cod 25 8 = some (2, 3, 0, z0, 9) := by rw [cod, ctab_25]; rfl
theorem k25_9 : cod 25 9 = some (4, 0, 0, z0, 10) := by rw [cod, ctab_25]; rfl
theorem k25_10 : cod 25 10 = some (29, 31, 4, z0, 13) := by rw [cod, ctab_25]; rfl
theorem k25_13 : cod 25 13 = some (28, 2, 56, z0, 16) := by rw [cod, ctab_25]; rfl
theorem k25_16 : cod 25 16 = some (4, 4, 0, z0, 18) := by rw [cod, ctab_25]; rfl
theorem k25_18 : cod 25 18 = some (29, 25, 1, z0, 21) := by rw [cod, ctab_25]; rfl
theorem k25_21 : cod 25 21 = some (2, 2, 0, z0, 22) := by rw [cod, ctab_25]; rfl
theorem k25_22 : cod 25 22 = some (31, 1, 0, z0, 23) := by rw [cod, ctab_25]; rfl
theorem k25_23 : cod 25 23 = some (4, 0, 0, z0, 24) := by rw [cod, ctab_25]; rfl
theorem k25_24 : cod 25 24 = some (29, 31, 3, z0, 27) := by rw [cod, ctab_25]; rfl
theorem k25_27 : cod 25 27 = some (28, 5, 55, z0, 30) := by rw [cod, ctab_25]; rfl
theorem k25_30 : cod 25 30 = some (4, 0, 0, z0, 31) := by rw [cod, ctab_25]; rfl
theorem k25_31 : cod 25 31 = some (4, 4, 0, z0, 33) := by rw [cod, ctab_25]; rfl
theorem k25_33 : cod 25 33 = some (29, 25, 1, z0, 36) := by rw [cod, ctab_25]; rfl
theorem k25_36 : cod 25 36 = some (2, 2, 0, z0, 37) := by rw [cod, ctab_25]; rfl
theorem k25_37 : cod 25 37 = some (31, 1, 0, z0, 38) := by rw [cod, ctab_25]; rfl
theorem k25_38 : cod 25 38 = some (30, 31, 3, z0, 41) := by rw [cod, ctab_25]; rfl
theorem k25_41 : cod 25 41 = some (4, 0, 0, z0, 42) := by rw [cod, ctab_25]; rfl
theorem k25_42 : cod 25 42 = some (29, 31, 1, z0, 45) := by rw [cod, ctab_25]; rfl
theorem k25_45 : cod 25 45 = some (0, 0, 0, z0, 46) := by rw [cod, ctab_25]; rfl
theorem k25_46 : cod 25 46 = some (4, 0, 0, z0, 47) := by rw [cod, ctab_25]; rfl
theorem k25_47 : cod 25 47 = some (29, 31, 2, z0, 50) := by rw [cod, ctab_25]; rfl
theorem k25_50 : cod 25 50 = some (0, 0, 0, z0, 51) := by rw [cod, ctab_25]; rfl
theorem k25_51 : cod 25 51 = some (0, 0, 0, vi (4), 52) := by rw [cod, ctab_25]; rfl
theorem k25_52 : cod 25 52 = some (46, 0, 0, z0, 55) := by rw [cod, ctab_25]; rfl
theorem k25_55 : cod 25 55 = some (35, 0, 0, z0, 56) := by rw [cod, ctab_25]; rfl
theorem k25_56 : cod 25 56 = some (0, 0, 0, z0, 57) := by rw [cod, ctab_25]; rfl
theorem k25_57 : cod 25 57 = some (5, 5, 0, z0, 59) := by rw [cod, ctab_25]; rfl
theorem k25_59 : cod 25 59 = some (2, 5, 0, z0, 61) := by rw [cod, ctab_25]; rfl
theorem k25_61 : cod 25 61 = some (4, 1, 0, z0, 62) := by rw [cod, ctab_25]; rfl
theorem k25_62 : cod 25 62 = some (29, 9, 9, z0, 65) := by rw [cod, ctab_25]; rfl
theorem k25_65 : cod 25 65 = some (28, 3, 156, z0, 68) := by rw [cod, ctab_25]; rfl
theorem k25_68 : cod 25 68 = some (2, 5, 0, z0, 70) := by rw [cod, ctab_25]; rfl
theorem k25_70 : cod 25 70 = some (4, 4, 0, z0, 72) := by rw [cod, ctab_25]; rfl
theorem k25_72 : cod 25 72 = some (29, 25, 0, z0, 75) := by rw [cod, ctab_25]; rfl
theorem k25_75 : cod 25 75 = some (2, 2, 0, z0, 76) := by rw [cod, ctab_25]; rfl
theorem k25_76 : cod 25 76 = some (31, 1, 0, z0, 77) := by rw [cod, ctab_25]; rfl
theorem k25_77 : cod 25 77 = some (28, 0, 92, z0, 80) := by rw [cod, ctab_25]; rfl
theorem k25_80 : cod 25 80 = some (4, 4, 0, z0, 82) := by rw [cod, ctab_25]; rfl
theorem k25_82 : cod 25 82 = some (4, 1, 0, z0, 83) := by rw [cod, ctab_25]; rfl
theorem k25_83 : cod 25 83 = some (2, 2, 0, z0, 84) := by rw [cod, ctab_25]; rfl
theorem k25_84 : cod 25 84 = some (2, 5, 0, z0, 86) := by rw [cod, ctab_25]; rfl
theorem k25_86 : cod 25 86 = some (34, 54, 4, vr 25 0, 89) := by rw [cod, ctab_25]; rfl
theorem k25_89 : cod 25 89 = some (27, 0, 150, z0, 92) := by rw [cod, ctab_25]; rfl
theorem k25_92 : cod 25 92 = some (4, 0, 0, z0, 93) := by rw [cod, ctab_25]; rfl
theorem k25_93 : cod 25 93 = some (29, 31, 1, z0, 96) := by rw [cod, ctab_25]; rfl
theorem k25_96 : cod 25 96 = some (2, 3, 0, z0, 97) := by rw [cod, ctab_25]; rfl
theorem k25_97 : cod 25 97 = some (2, 5, 0, z0, 99) := by rw [cod, ctab_25]; rfl
theorem k25_99 : cod 25 99 = some (32, 1, 0, z0, 100) := by rw [cod, ctab_25]; rfl
theorem k25_100 : cod 25 100 = some (4, 0, 0, z0, 101) := by rw [cod, ctab_25]; rfl
theorem k25_101 : cod 25 101 = some (29, 31, 0, z0, 104) := by rw [cod, ctab_25]; rfl
theorem k25_104 : cod 25 104 = some (2, 3, 0, z0, 105) := by rw [cod, ctab_25]; rfl
theorem k25_105 : cod 25 105 = some (0, 0, 0, vi (1), 106) := by rw [cod, ctab_25]; rfl
theorem k25_106 : cod 25 106 = some (9, 0, 0, z0, 107) := by rw [cod, ctab_25]; rfl
theorem k25_107 : cod 25 107 = some (31, 5, 0, z0, 108) := by rw [cod, ctab_25]; rfl
theorem k25_108 : cod 25 108 = some (4, 4, 0, z0, 110) := by rw [cod, ctab_25]; rfl
theorem k25_110 : cod 25 110 = some (34, 45, 2, vr 25 0, 113) := by rw [cod, ctab_25]; rfl
theorem k25_113 : cod 25 113 = some (4, 0, 0, z0, 114) := by rw [cod, ctab_25]; rfl
theorem k25_114 : cod 25 114 = some (29, 31, 0, z0, 117) := by rw [cod, ctab_25]; rfl
theorem k25_117 : cod 25 117 = some (2, 3, 0, z0, 118) := by rw [cod, ctab_25]; rfl
theorem k25_118 : cod 25 118 = some (0, 0, 0, vi (1), 119) := by rw [cod, ctab_25]; rfl
theorem k25_119 : cod 25 119 = some (9, 0, 0, z0, 120) := by rw [cod, ctab_25]; rfl
theorem k25_120 : cod 25 120 = some (31, 5, 0, z0, 121) := by rw [cod, ctab_25]; rfl
theorem k25_121 : cod 25 121 = some (29, 25, 0, z0, 124) := by rw [cod, ctab_25]; rfl
theorem k25_124 : cod 25 124 = some (2, 2, 0, z0, 125) := by rw [cod, ctab_25]; rfl
theorem k25_125 : cod 25 125 = some (2, 5, 0, z0, 127) := by rw [cod, ctab_25]; rfl
theorem k25_127 : cod 25 127 = some (32, 1, 0, z0, 128) := by rw [cod, ctab_25]; rfl
theorem k25_128 : cod 25 128 = some (4, 0, 0, z0, 129) := by rw [cod, ctab_25]; rfl
theorem k25_129 : cod 25 129 = some (29, 31, 0, z0, 132) := by rw [cod, ctab_25]; rfl
theorem k25_132 : cod 25 132 = some (2, 3, 0, z0, 133) := by rw [cod, ctab_25]; rfl
theorem k25_133 : cod 25 133 = some (0, 0, 0, vi (1), 134) := by rw [cod, ctab_25]; rfl
theorem k25_134 : cod 25 134 = some (9, 0, 0, z0, 135) := by rw [cod, ctab_25]; rfl
theorem k25_135 : cod 25 135 = some (31, 5, 0, z0, 136) := by rw [cod, ctab_25]; rfl
theorem k25_136 : cod 25 136 = some (4, 1, 0, z0, 137) := by rw [cod, ctab_25]; rfl
theorem k25_137 : cod 25 137 = some (34, 61, 2, vr 25 0, 140) := by rw [cod, ctab_25]; rfl
theorem k25_140 : cod 25 140 = some (25, 0, 0, z0, 141) := by rw [cod, ctab_25]; rfl
theorem k25_141 : cod 25 141 = some (4, 0, 0, z0, 142) := by rw [cod, ctab_25]; rfl
theorem k25_142 : cod 25 142 = some (4, 1, 0, z0, 143) := by rw [cod, ctab_25]; rfl
theorem k25_143 : cod 25 143 = some (2, 2, 0, z0, 144) := by rw [cod, ctab_25]; rfl
theorem k25_144 : cod 25 144 = some (2, 3, 0, z0, 145) := by rw [cod, ctab_25]; rfl
theorem k25_145 : cod 25 145 = some (0, 0, 0, vi (1), 146) := by rw [cod, ctab_25]; rfl
theorem k25_146 : cod 25 146 = some (9, 0, 0, z0, 147) := by rw [cod, ctab_25]; rfl
theorem k25_147 : cod 25 147 = some (34, 25, 4, vr 31 0, 150) := by rw [cod, ctab_25]; rfl
theorem k25_150 : cod 25 150 = some (8, 5, 0, vi (1), 153) := by rw [cod, ctab_25]; rfl
theorem k25_153 : cod 25 153 = some (26, 59, 0, z0, 156) := by rw [cod, ctab_25]; rfl
theorem k25_156 : cod 25 156 = some (35, 0, 0, z0, 157) := by rw [cod, ctab_25]; rfl
theorem ctab_26 : ctab.getD 26 [] = cd26 := rfl
theorem k26_0 : cod 26 0 = some (4, 0, 0, z0, 1) := by rw [cod, ctab_26]; rfl
theorem k26_1 : cod 26 1 = some (44, 0, 0, z0, 4) := by rw [cod, ctab_26]; rfl
theorem k26_4 : cod 26 4 = some (4, 0, 0, z0, 5) := by rw [cod, ctab_26]; rfl
theorem k26_5 : cod 26 5 = some (4, 1, 0, z0, 6) := by rw [cod, ctab_26]; rfl
theorem k26_6 : cod 26 6 = some (30, 7, 0, z0, 9) := by rw [cod, ctab_26]; rfl
theorem k26_9 : cod 26 9 = some (4, 0, 0, z0, 10) := by rw [cod, ctab_26]; rfl
theorem k26_10 : cod 26 10 = some (39, 8, 0, z0, 13) := by rw [cod, ctab_26]; rfl
theorem k26_13 : cod 26 13 = some (23, 0, 0, z0, 14) := by rw [cod, ctab_26]; rfl
theorem k26_14 : cod 26 14 = some (4, 1, 0, z0, 15) := by rw [cod, ctab_26]; rfl
theorem k26_15 : cod 26 15 = some (34, 10, 2, vr 8 0, 18) := by rw [cod, ctab_26]; rfl
theorem k26_18 : cod 26 18 = some (30, 7, 1, z0, 21) := by rw [cod, ctab_26]; rfl
theorem k26_21 : cod 26 21 = some (35, 0, 0, z0, 22) := by rw [cod, ctab_26]; rfl
theorem ctab_27 : ctab.getD 27 [] = cd27 := rfl
theorem k27_0 : cod 27 0 = some (4, 1, 0, z0, 1) := by rw [cod, ctab_27]; rfl
theorem k27_1 : cod 27 1 = some (34, 1, 1, vr 9 0, 4) := by rw [cod, ctab_27]; rfl
theorem k27_4 : cod 27 4 = some (4, 0, 0, z0, 5) := by rw [cod, ctab_27]; rfl
theorem k27_5 : cod 27 5 = some (0, 0, 0, z0, 6) := by rw [cod, ctab_27]; rfl
theorem k27_6 : cod 27 6 = some (30, 7, 2, z0, 9) := by rw [cod, ctab_27]; rfl
theorem k27_9 : cod 27 9 = some (4, 0, 0, z0, 10) := by rw [cod, ctab_27]; rfl
theorem k27_10 : cod 27 10 = some (0, 0, 0, z0, 11) := by rw [cod, ctab_27]; rfl
theorem k27_11 : cod 27 11 = some (30, 7, 3, z0, 14) := by rw [cod, ctab_27]; rfl
theorem k27_14 : cod 27 14 = some (4, 0, 0, z0, 15) := by rw [cod, ctab_27]; rfl
theorem k27_15 : cod 27 15 = some (29, 7, 0, z0, 18) := by rw [cod, ctab_27]; rfl
theorem k27_18 : cod 27 18 = some (34, 68, 1, vr 5 0, 21) := by rw [cod, ctab_27]; rfl
theorem k27_21 : cod 27 21 = some (0, 0, 0, z0, 22) := by rw [cod, ctab_27]; rfl
theorem k27_22 : cod 27 22 = some (5, 2, 0, z0, 23) := by rw [cod, ctab_27]; rfl
theorem k27_23 : cod 27 23 = some (2, 2, 0, z0, 24) := by rw [cod, ctab_27]; rfl
theorem k27_24 : cod 27 24 = some (0, 0, 0, vi (1000), 27) := by rw [cod, ctab_27]; rfl
theorem k27_27 : cod 27 27 = some (28, 3, 74, z0, 30) := by rw [cod, ctab_27]; rfl
theorem k27_30 : cod 27 30 = some (4, 0, 0, z0, 31) := by rw [cod, ctab_27]; rfl
theorem k27_31 : cod 27 31 = some (29, 7, 0, z0, 34) := by rw [cod, ctab_27]; rfl
theorem k27_34 : cod 27 34 = some (29, 5, 2, z0, 37) := by rw [cod, ctab_27]; rfl
theorem k27_37 : cod 27 37 = some (27, 0, 74, z0, 40) := by rw [cod, ctab_27]; rfl
theorem k27_40 : cod 27 40 = some (4, 0, 0, z0, 41) := by rw [cod, ctab_27]; rfl
theorem k27_41 : cod 27 41 = some (4, 1, 0, z0, 42) := by rw [cod, ctab_27]; rfl
theorem k27_42 : cod 27 42 = some (34, 28, 2, vr 7 0, 45) := by rw [cod, ctab_27]; rfl
theorem k27_45 : cod 27 45 = some (27, 0, 60, z0, 48) := by rw [cod, ctab_27]; rfl
theorem k27_48 : cod 27 48 = some (4, 0, 0, z0, 49) := by rw [cod, ctab_27]; rfl
theorem k27_49 : cod 27 49 = some (29, 7, 0, z0, 52) := by rw [cod, ctab_27]; rfl
theorem k27_52 : cod 27 52 = some (0, 0, 0, vi (59), 54) := by rw [cod, ctab_27]; rfl
theorem k27_54 : cod 27 54 = some (34, 80, 2, vr 5 0, 57) := by rw [cod, ctab_27]; rfl
theorem k27_57 : cod 27 57 = some (27, 1, 68, z0, 60) := by rw [cod, ctab_27]; rfl
theorem k27_60 : cod 27 60 = some (4, 0, 0, z0, 61) := by rw [cod, ctab_27]; rfl
theorem k27_61 : cod 27 61 = some (29, 7, 0, z0, 64) := by rw [cod, ctab_27]; rfl
theorem k27_64 : cod 27 64 = some (29, 5, 7, z0, 67) := by rw [cod, ctab_27]; rfl
theorem k27_67 : cod 27 67 = some (36, 1, 0, z0, 68) := by rw [cod, ctab_27]; rfl
theorem k27_68 : cod 27 68 = some (8, 2, 0, vi (1), 71) := by rw [cod, ctab_27]; rfl
theorem k27_71 : cod 27 71 = some (26, 23, 0, z0, 74) := by rw [cod, ctab_27]; rfl
theorem k27_74 : cod 27 74 = some (0, 0, 0, z0, 75) := by rw [cod, ctab_27]; rfl
theorem k27_75 : cod 27 75 = some (36, 1, 0, z0, 76) := by rw [cod, ctab_27]; rfl
theorem ctab_28 : ctab.getD 28 [] = cd28 := rfl
theorem k28_0 : cod 28 0 = some (4, 0, 0, z0, 1) := by rw [cod, ctab_28]; rfl
theorem k28_1 : cod 28 1 = some (29, 7, 0, z0, 4) := by rw [cod, ctab_28]; rfl
theorem k28_4 : cod 28 4 = some (0, 0, 0, vr 90 1, 6) := by rw [cod, ctab_28]; rfl
theorem k28_6 : cod 28 6 = some (34, 74, 2, vr 5 0, 9) := by rw [cod, ctab_28]; rfl
theorem k28_9 : cod 28 9 = some (27, 0, 18, z0, 12) := by rw [cod, ctab_28]; rfl
theorem k28_12 : cod 28 12 = some (4, 0, 0, z0, 13) := by rw [cod, ctab_28]; rfl
theorem k28_13 : cod 28 13 = some (4, 1, 0, z0, 14) := by rw [cod, ctab_28]; rfl
theorem k28_14 : cod 28 14 = some (34, 29, 2, vr 7 0, 17) := by rw [cod, ctab_28]; rfl
theorem k28_17 : cod 28 17 = some (36, 2, 0, z0, 18) := by rw [cod, ctab_28]; rfl
theorem k28_18 : cod 28 18 = some (4, 0, 0, z0, 19) := by rw [cod, ctab_28]; rfl
theorem k28_19 : cod 28 19 = some (29, 7, 0, z0, 22) := by rw [cod, ctab_28]; rfl
theorem k28_22 : cod 28 22 = some (0, 0, 0, vr 90 3, 24) := by rw [cod, ctab_28]; rfl
theorem k28_24 : cod 28 24 = some (34, 74, 2, vr 5 0, 27) := by rw [cod, ctab_28]; rfl
theorem k28_27 : cod 28 27 = some (27, 0, 37, z0, 30) := by rw [cod, ctab_28]; rfl
theorem k28_30 : cod 28 30 = some (4, 0, 0, z0, 31) := by rw [cod, ctab_28]; rfl
theorem k28_31 : cod 28 31 = some (4, 1, 0, z0, 32) := by rw [cod, ctab_28]; rfl
theorem k28_32 : cod 28 32 = some (0, 0, 0, vi (1), 33) := by rw [cod, ctab_28]; rfl
theorem k28_33 : cod 28 33 = some (34, 30, 3, vr 7 0, 36) := by rw [cod, ctab_28]; rfl
theorem k28_36 : cod 28 36 = some (36, 2, 0, z0, 37) := by rw [cod, ctab_28]; rfl
theorem k28_37 : cod 28 37 = some (4, 0, 0, z0, 38) := by rw [cod, ctab_28]; rfl
theorem k28_38 : cod 28 38 = some (29, 7, 0, z0, 41) := by rw [cod, ctab_28]; rfl
theorem k28_41 : cod 28 41 = some (0, 0, 0, vr 90 4, 43) := by rw [cod, ctab_28]; rfl
theorem k28_43 : cod 28 43 = some (34, 74, 2, vr 5 0, 46) := by rw [cod, ctab_28]; rfl
theorem k28_46 : cod 28 46 = some (27, 0, 55, z0, 49) := by rw [cod, ctab_28]; rfl
theorem k28_49 : cod 28 49 = some (4, 0, 0, z0, 50) := by rw [cod, ctab_28]; rfl
theorem k28_50 : cod 28 50 = some (4, 1, 0, z0, 51) := by rw [cod, ctab_28]; rfl
theorem k28_51 : cod 28 51 = some (34, 31, 2, vr 7 0, 54) := by rw [cod, ctab_28]; rfl
theorem k28_54 : cod 28 54 = some (36, 2, 0, z0, 55) := by rw [cod, ctab_28]; rfl
theorem k28_55 : cod 28 55 = some (4, 0, 0, z0, 56) := by rw [cod, ctab_28]; rfl
theorem k28_56 : cod 28 56 = some (29, 7, 0, z0, 59) := by rw [cod, ctab_28]; rfl
theorem k28_59 : cod 28 59 = some (0, 0, 0, vr 90 11, 61) := by rw [cod, ctab_28]; rfl
theorem k28_61 : cod 28 61 = some (34, 74, 2, vr 5 0, 64) := by rw [cod, ctab_28]; rfl
theorem k28_64 : cod 28 64 = some (27, 0, 74, z0, 67) := by rw [cod, ctab_28]; rfl
theorem k28_67 : cod 28 67 = some (4, 0, 0, z0, 68) := by rw [cod, ctab_28]; rfl
theorem k28_68 : cod 28 68 = some (4, 1, 0, z0, 69) := by rw [cod, ctab_28]; rfl
theorem k28_69 : cod 28 69 = some (0, 0, 0, z0, 70) := by rw [cod, ctab_28]; rfl
theorem k28_70 : cod 28 70 = some (34, 30, 3, vr 7 0, 73) := by rw [cod, ctab_28]; rfl
theorem k28_73 : cod 28 73 = some (36, 2, 0, z0, 74) := by rw [cod, ctab_28]; rfl
theorem k28_74 : cod 28 74 = some (4, 0, 0, z0, 75) := by rw [cod, ctab_28]; rfl
theorem k28_75 : cod 28 75 = some (29, 7, 0, z0, 78) := by rw [cod, ctab_28]; rfl
theorem k28_78 : cod 28 78 = some (0, 0, 0, vr 90 12, 80) := by rw [cod, ctab_28]; rfl
theorem k28_80 : cod 28 80 = some (34, 74, 2, vr 5 0, 83) := by rw [cod, ctab_28]; rfl
theorem k28_83 : cod 28 83 = some (27, 0, 92, z0, 86) := by rw [cod, ctab_28]; rfl
theorem k28_86 : cod 28 86 = some (4, 0, 0, z0, 87) := by rw [cod, ctab_28]; rfl
theorem k28_87 : cod 28 87 = some (4, 1, 0, z0, 88) := by rw [cod, ctab_28]; rfl
theorem k28_88 : cod 28 88 = some (34, 32, 2, vr 7 0, 91) := by rw [cod, ctab_28]; rfl
theorem k28_91 : cod 28 91 = some (36, 2, 0, z0, 92) := by rw [cod, ctab_28]; rfl
theorem k28_92 : cod 28 92 = some (4, 0, 0, z0, 93) := by rw [cod, ctab_28]; rfl
theorem k28_93 : cod 28 93 = some (29, 7, 0, z0, 96) := by rw [cod, ctab_28]; rfl
theorem k28_96 : cod 28 96 = some (0, 0, 0, vr 90 13, 98) := by rw [cod, ctab_28]; rfl
theorem k28_98 : cod 28 98 = some (34, 74, 2, vr 5 0, 101) := by rw [cod, ctab_28]; rfl
theorem k28_101 : cod 28 101 = some (27, 0, 110, z0, 104) := by rw [cod, ctab_28]; rfl
theorem k28_104 : cod 28 104 = some (4, 0, 0, z0, 105) := by rw [cod, ctab_28]; rfl
theorem k28_105 : cod 28 105 = some (4, 1, 0, z0, 106) := by rw [cod, ctab_28]; rfl
theorem k28_106 : cod 28 106 = some (34, 33, 2, vr 7 0, 109) := by rw [cod, ctab_28]; rfl
theorem k28_109 : cod 28 109 = some (36, 2, 0, z0, 110) := by rw [cod, ctab_28]; rfl
theorem k28_110 : cod 28 110 = some (4, 0, 0, z0, 111) := by rw [cod, ctab_28]; rfl
theorem k28_111 : cod 28 111 = some (29, 7, 0, z0, 114) := by rw [cod, ctab_28]; rfl
theorem k28_114 : cod 28 114 = some (0, 0, 0, vr 90 14, 116) := by rw [cod, ctab_28]; rfl
theorem k28_116 : cod 28 116 = some (34, 74, 2, vr 5 0, 119) := by rw [cod, ctab_28]; rfl
theorem k28_119 : cod 28 119 = some (27, 0, 133, z0, 122) := by rw [cod, ctab_28]; rfl
theorem k28_122 : cod 28 122 = some (4, 0, 0, z0, 123) := by rw [cod, ctab_28]; rfl
theorem k28_123 : cod 28 123 = some (29, 7, 1, z0, 126) := by rw [cod, ctab_28]; rfl
theorem k28_126 : cod 28 126 = some (4, 1, 0, z0, 127) := by rw [cod, ctab_28]; rfl
theorem k28_127 : cod 28 127 = some (34, 11, 2, vr 8 0, 130) := by rw [cod, ctab_28]; rfl
theorem k28_130 : cod 28 130 = some (26, 141, 0, z0, 133) := by rw [cod, ctab_28]; rfl
theorem k28_133 : cod 28 133 = some (4, 0, 0, z0, 134) := by rw [cod, ctab_28]; rfl
theorem k28_134 : cod 28 134 = some (29, 7, 0, z0, 137) := by rw [cod, ctab_28]; rfl
theorem k28_137 : cod 28 137 = some (0, 0, 0, vi (1), 138) := by rw [cod, ctab_28]; rfl
theorem k28_138 : cod 28 138 = some (34, 78, 2, vr 5 0, 141) := by rw [cod, ctab_28]; rfl
theorem k28_141 : cod 28 141 = some (36, 2, 0, z0, 142) := by rw [cod, ctab_28]; rfl
theorem ctab_29 : ctab.getD 29 [] = cd29 := rfl
theorem k29_0 : cod 29 0 = some (4, 1, 0, z0, 1) := by rw [cod, ctab_29]; rfl
theorem k29_1 : cod 29 1 = some (29, 9, 9, z0, 4) := by rw [cod, ctab_29]; rfl
theorem k29_4 : cod 29 4 = some (0, 0, 0, vi (5), 5) := by rw [cod, ctab_29]; rfl
theorem k29_5 : cod 29 5 = some (28, 2, 17, z0, 8) := by rw [cod, ctab_29]; rfl
theorem k29_8 : cod 29 8 = some (4, 0, 0, z0, 9) := by rw [cod, ctab_29]; rfl
theorem k29_9 : cod 29 9 = some (29, 7, 0, z0, 12) := by rw [cod, ctab_29]; rfl
theorem k29_12 : cod 29 12 = some (0, 0, 0, vi (5), 13) := by rw [cod, ctab_29]; rfl
theorem k29_13 : cod 29 13 = some (34, 78, 2, vr 5 0, 16) := by rw [cod, ctab_29]; rfl
theorem k29_16 : cod 29 16 = some (36, 2, 0, z0, 17) := by rw [cod, ctab_29]; rfl
theorem k29_17 : cod 29 17 = some (4, 0, 0, z0, 18) := by rw [cod, ctab_29]; rfl
theorem k29_18 : cod 29 18 = some (29, 7, 0, z0, 21) := by rw [cod, ctab_29]; rfl
theorem k29_21 : cod 29 21 = some (34, 69, 1, vr 5 0, 24) := by rw [cod, ctab_29]; rfl
theorem k29_24 : cod 29 24 = some (4, 0, 0, z0, 25) := by rw [cod, ctab_29]; rfl
theorem k29_25 : cod 29 25 = some (4, 1, 0, z0, 26) := by rw [cod, ctab_29]; rfl
theorem k29_26 : cod 29 26 = some (34, 37, 2, vr 7 0, 29) := by rw [cod, ctab_29]; rfl
theorem k29_29 : cod 29 29 = some (27, 1, 34, z0, 32) := by rw [cod, ctab_29]; rfl
theorem k29_32 : cod 29 32 = some (0, 0, 0, z0, 33) := by rw [cod, ctab_29]; rfl
theorem k29_33 : cod 29 33 = some (36, 2, 0, z0, 34) := by rw [cod, ctab_29]; rfl
theorem k29_34 : cod 29 34 = some (4, 1, 0, z0, 35) := by rw [cod, ctab_29]; rfl
theorem k29_35 : cod 29 35 = some (4, 0, 0, z0, 36) := by rw [cod, ctab_29]; rfl
theorem k29_36 : cod 29 36 = some (29, 7, 0, z0, 39) := by rw [cod, ctab_29]; rfl
theorem k29_39 : cod 29 39 = some (29, 5, 6, z0, 42) := by rw [cod, ctab_29]; rfl
theorem k29_42 : cod 29 42 = some (34, 2, 2, vr 9 0, 45) := by rw [cod, ctab_29]; rfl
theorem k29_45 : cod 29 45 = some (4, 0, 0, z0, 46) := by rw [cod, ctab_29]; rfl
theorem k29_46 : cod 29 46 = some (29, 7, 0, z0, 49) := by rw [cod, ctab_29]; rfl
theorem k29_49 : cod 29 49 = some (34, 69, 1, vr 5 0, 52) := by rw [cod, ctab_29]; rfl
theorem k29_52 : cod 29 52 = some (0, 0, 0, vi (1), 53) := by rw [cod, ctab_29]; rfl
theorem k29_53 : cod 29 53 = some (36, 2, 0, z0, 54) := by rw [cod, ctab_29]; rfl
theorem ctab_30 : ctab.getD 30 [] = cd30 := rfl
theorem k30_0 : cod 30 0 = some (2, 2, 0, z0, 1) := by rw [cod, ctab_30]; rfl
theorem k30_1 : cod 30 1 = some (27, 0, 11, z0, 4) := by rw [cod, ctab_30]; rfl
theorem k30_4 : cod 30 4 = some (4, 1, 0, z0, 5) := by rw [cod, ctab_30]; rfl
theorem k30_5 : cod 30 5 = some (29, 9, 1, z0, 8) := by rw [cod, ctab_30]; rfl
theorem k30_8 : cod 30 8 = some (26, 15, 0, z0, 11) := by rw [cod, ctab_30]; rfl
theorem k30_11 : cod 30 11 = some (4, 1, 0, z0, 12) := by rw [cod, ctab_30]; rfl
theorem k30_12 : cod 30 12 = some (29, 9, 6, z0, 15) := by rw [cod, ctab_30]; rfl
theorem k30_15 : cod 30 15 = some (7, 3, 0, z0, 16) := by rw [cod, ctab_30]; rfl
theorem k30_16 : cod 30 16 = some (4, 0, 0, z0, 17) := by rw [cod, ctab_30]; rfl
theorem k30_17 : cod 30 17 = some (29, 7, 0, z0, 20) := by rw [cod, ctab_30]; rfl
theorem k30_20 : cod 30 20 = some (34, 69, 1, vr 5 0, 23) := by rw [cod, ctab_30]; rfl
theorem k30_23 : cod 30 23 = some (4, 0, 0, z0, 24) := by rw [cod, ctab_30]; rfl
theorem k30_24 : cod 30 24 = some (4, 1, 0, z0, 25) := by rw [cod, ctab_30]; rfl
theorem k30_25 : cod 30 25 = some (2, 2, 0, z0, 26) := by rw [cod, ctab_30]; rfl
theorem k30_26 : cod 30 26 = some (34, 38, 3, vr 7 0, 29) := by rw [cod, ctab_30]; rfl
theorem k30_29 : cod 30 29 = some (5, 4, 0, z0, 31) := by rw [cod, ctab_30]; rfl
theorem k30_31 : cod 30 31 = some (2, 4, 0, z0, 33) := by rw [cod, ctab_30]; rfl
theorem k30_33 : cod 30 33 = some (0, 0, 0, vi (-1), 34) := by rw [cod, ctab_30]; rfl
theorem k30_34 : cod 30 34 = some (28, 1, 39, z0, 37) := by rw [cod, ctab_30]; rfl
theorem k30_37 : cod 30 37 = some (0, 0, 0, z0, 38) := by rw [cod, ctab_30]; rfl
theorem k30_38 : cod 30 38 = some (36, 2, 0, z0, 39) := by rw [cod, ctab_30]; rfl
theorem k30_39 : cod 30 39 = some (4, 0, 0, z0, 40) := by rw [cod, ctab_30]; rfl
theorem k30_40 : cod 30 40 = some (29, 7, 0, z0, 43) := by rw [cod, ctab_30]; rfl
theorem k30_43 : cod 30 43 = some (34, 69, 1, vr 5 0, 46) := by rw [cod, ctab_30]; rfl
theorem k30_46 : cod 30 46 = some (4, 0, 0, z0, 47) := by rw [cod, ctab_30]; rfl
theorem k30_47 : cod 30 47 = some (4, 1, 0, z0, 48) := by rw [cod, ctab_30]; rfl
theorem k30_48 : cod 30 48 = some (2, 2, 0, z0, 49) := by rw [cod, ctab_30]; rfl
theorem k30_49 : cod 30 49 = some (34, 38, 3, vr 7 0, 52) := by rw [cod, ctab_30]; rfl
theorem k30_52 : cod 30 52 = some (5, 5, 0, z0, 54) := by rw [cod, ctab_30]; rfl
theorem k30_54 : cod 30 54 = some (2, 5, 0, z0, 56) := by rw [cod, ctab_30]; rfl
theorem k30_56 : cod 30 56 = some (0, 0, 0, vi (-1), 57) := by rw [cod, ctab_30]; rfl
theorem k30_57 : cod 30 57 = some (28, 1, 62, z0, 60) := by rw [cod, ctab_30]; rfl
theorem k30_60 : cod 30 60 = some (0, 0, 0, z0, 61) := by rw [cod, ctab_30]; rfl
theorem k30_61 : cod 30 61 = some (36, 2, 0, z0, 62) := by rw [cod, ctab_30]; rfl
theorem k30_62 : cod 30 62 = some (2, 4, 0, z0, 64) := by rw [cod, ctab_30]; rfl
theorem k30_64 : cod 30 64 = some (2, 5, 0, z0, 66) := by rw [cod, ctab_30]; rfl
theorem k30_66 : cod 30 66 = some (28, 0, 81, z0, 69) := by rw [cod, ctab_30]; rfl
theorem k30_69 : cod 30 69 = some (4, 3, 0, z0, 70) := by rw [cod, ctab_30]; rfl
theorem k30_70 : cod 30 70 = some (2, 4, 0, z0, 72) := by rw [cod, ctab_30]; rfl
theorem k30_72 : cod 30 72 = some (31, 1, 0, z0, 73) := by rw [cod, ctab_30]; rfl
theorem k30_73 : cod 30 73 = some (2, 5, 0, z0, 75) := by rw [cod, ctab_30]; rfl
theorem k30_75 : cod 30 75 = some (9, 7, 0, z0, 76) := by rw [cod, ctab_30]; rfl
theorem k30_76 : cod 30 76 = some (0, 0, 0, vi (1), 77) := by rw [cod, ctab_30]; rfl
theorem k30_77 : cod 30 77 = some (9, 3, 0, z0, 78) := by rw [cod, ctab_30]; rfl
theorem k30_78 : cod 30 78 = some (27, 0, 90, z0, 81) := by rw [cod, ctab_30]; rfl
theorem k30_81 : cod 30 81 = some (4, 0, 0, z0, 82) := by rw [cod, ctab_30]; rfl
theorem k30_82 : cod 30 82 = some (29, 7, 0, z0, 85) := by rw [cod, ctab_30]; rfl
theorem k30_85 : cod 30 85 = some (0, 0, 0, vi (3), 86) := by rw [cod, ctab_30]; rfl
theorem k30_86 : cod 30 86 = some (34, 78, 2, vr 5 0, 89) := by rw [cod, ctab_30]; rfl
theorem k30_89 : cod 30 89 = some (36, 2, 0, z0, 90) := by rw [cod, ctab_30]; rfl
theorem k30_90 : cod 30 90 = some (4, 3, 0, z0, 91) := by rw [cod, ctab_30]; rfl
theorem k30_91 : cod 30 91 = some (2, 4, 0, z0, 93) := by rw [cod, ctab_30]; rfl
theorem k30_93 : cod 30 93 = some (24, 0, 0, z0, 94) := by rw [cod, ctab_30]; rfl
theorem k30_94 : cod 30 94 = some (31, 1, 0, z0, 95) := by rw [cod, ctab_30]; rfl
theorem k30_95 : cod 30 95 = some (0, 0, 0, vi (1), 96) := by rw [cod, ctab_30]; rfl
theorem k30_96 : cod 30 96 = some (2, 5, 0, z0, 98) := by rw [cod, ctab_30]; rfl
theorem k30_98 : cod 30 98 = some (9, 6, 0, z0, 99) := by rw [cod, ctab_30]; rfl
theorem k30_99 : cod 30 99 = some (9, 4, 0, z0, 100) := by rw [cod, ctab_30]; rfl
theorem k30_100 : cod 30 100 = some (32, 1, 0, z0, 101) := by rw [cod, ctab_30]; rfl
theorem k30_101 : cod 30 101 = some (4, 3, 0, z0, 102) := by rw [cod, ctab_30]; rfl
theorem k30_102 : cod 30 102 = some (2, 5, 0, z0, 104) := by rw [cod, ctab_30]; rfl
theorem k30_104 : cod 30 104 = some (24, 0, 0, z0, 105) := by rw [cod, ctab_30]; rfl
theorem k30_105 : cod 30 105 = some (31, 1, 0, z0, 106) := by rw [cod, ctab_30]; rfl
theorem k30_106 : cod 30 106 = some (0, 0, 0, vi (1), 107) := by rw [cod, ctab_30]; rfl
theorem k30_107 : cod 30 107 = some (2, 4, 0, z0, 109) := by rw [cod, ctab_30]; rfl
theorem k30_109 : cod 30 109 = some (9, 6, 0, z0, 110) := by rw [cod, ctab_30]; rfl
theorem k30_110 : cod 30 110 = some (9, 4, 0, z0, 111) := by rw [cod, ctab_30]; rfl
theorem k30_111 : cod 30 111 = some (32, 1, 0, z0, 112) := by rw [cod, ctab_30]; rfl
theorem k30_112 : cod 30 112 = some (4, 0, 0, z0, 113) := by rw [cod, ctab_30]; rfl
theorem k30_113 : cod 30 113 = some (29, 7, 0, z0, 116) := by rw [cod, ctab_30]; rfl
theorem k30_116 : cod 30 116 = some (34, 69, 1, vr 5 0, 119) := by rw [cod, ctab_30]; rfl
theorem k30_119 : cod 30 119 = some (0, 0, 0, vi (1), 120) := by rw [cod, ctab_30]; rfl
theorem k30_120 : cod 30 120 = some (36, 2, 0, z0, 121) := by rw [cod, ctab_30]; rfl
theorem ctab_31 : ctab.getD 31 [] = cd31 := rfl
theorem k31_0 : cod 31 0 = some (4, 1, 0, z0, 1) := by rw [cod, ctab_31]; rfl
theorem k31_1 : cod 31 1 = some (29, 9, 10, z0, 4) := by rw [cod, ctab_31]; rfl
theorem k31_4 : cod 31 4 = some (5, 2, 0, z0, 5) := by rw [cod, ctab_31]; rfl
theorem k31_5 : cod 31 5 = some (2, 2, 0, z0, 6) := by rw [cod, ctab_31]; rfl
theorem k31_6 : cod 31 6 = some (0, 0, 0, vi (6), 8) := by rw [cod, ctab_31]; rfl
theorem k31_8 : cod 31 8 = some (28, 2, 20, z0, 11) := by rw [cod, ctab_31]; rfl
theorem k31_11 : cod 31 11 = some (4, 0, 0, z0, 12) := by rw [cod, ctab_31]; rfl
theorem k31_12 : cod 31 12 = some (29, 7, 0, z0, 15) := by rw [cod, ctab_31]; rfl
theorem k31_15 : cod 31 15 = some (0, 0, 0, vi (5), 16) := by rw [cod, ctab_31]; rfl
theorem k31_16 : cod 31 16 = some (34, 78, 2, vr 5 0, 19) := by rw [cod, ctab_31]; rfl
theorem k31_19 : cod 31 19 = some (36, 2, 0, z0, 20) := by rw [cod, ctab_31]; rfl
theorem k31_20 : cod 31 20 = some (4, 0, 0, z0, 21) := by rw [cod, ctab_31]; rfl
theorem k31_21 : cod 31 21 = some (29, 7, 0, z0, 24) := by rw [cod, ctab_31]; rfl
theorem k31_24 : cod 31 24 = some (34, 69, 1, vr 5 0, 27) := by rw [cod, ctab_31]; rfl
theorem k31_27 : cod 31 27 = some (4, 0, 0, z0, 28) := by rw [cod, ctab_31]; rfl
theorem k31_28 : cod 31 28 = some (4, 1, 0, z0, 29) := by rw [cod, ctab_31]; rfl
theorem k31_29 : cod 31 29 = some (34, 37, 2, vr 7 0, 32) := by rw [cod, ctab_31]; rfl
theorem k31_32 : cod 31 32 = some (27, 1, 37, z0, 35) := by rw [cod, ctab_31]; rfl
theorem k31_35 : cod 31 35 = some (0, 0, 0, z0, 36) := by rw [cod, ctab_31]; rfl
theorem k31_36 : cod 31 36 = some (36, 2, 0, z0, 37) := by rw [cod, ctab_31]; rfl
theorem k31_37 : cod 31 37 = some (4, 1, 0, z0, 38) := by rw [cod, ctab_31]; rfl
theorem k31_38 : cod 31 38 = some (4, 0, 0, z0, 39) := by rw [cod, ctab_31]; rfl
theorem k31_39 : cod 31 39 = some (29, 7, 0, z0, 42) := by rw [cod, ctab_31]; rfl
theorem k31_42 : cod 31 42 = some (29, 5, 6, z0, 45) := by rw [cod, ctab_31]; rfl
theorem k31_45 : cod 31 45 = some (34, 3, 2, vr 9 0, 48) := by rw [cod, ctab_31]; rfl
theorem k31_48 : cod 31 48 = some (4, 0, 0, z0, 49) := by rw [cod, ctab_31]; rfl
theorem k31_49 : cod 31 49 = some (29, 7, 0, z0, 52) := by rw [cod, ctab_31]; rfl
theorem k31_52 : cod 31 52 = some (34, 69, 1, vr 5 0, 55) := by rw [cod, ctab_31]; rfl
theorem k31_55 : cod 31 55 = some (4, 1, 0, z0, 56) := by rw [cod, ctab_31]; rfl
theorem k31_56 : cod 31 56 = some (29, 9, 3, z0, 59) := by rw [cod, ctab_31]; rfl
theorem k31_59 : cod 31 59 = some (2, 2, 0, z0, 60) := by rw [cod, ctab_31]; rfl
theorem k31_60 : cod 31 60 = some (4, 0, 0, z0, 61) := by rw [cod, ctab_31]; rfl
theorem k31_61 : cod 31 61 = some (29, 7, 0, z0, 64) := by rw [cod, ctab_31]; rfl
theorem k31_64 : cod 31 64 = some (34, 77, 1, vr 5 0, 67) := by rw [cod, ctab_31]; rfl
theorem k31_67 : cod 31 67 = some (32, 1, 0, z0, 68) := by rw [cod, ctab_31]; rfl
theorem k31_68 : cod 31 68 = some (4, 1, 0, z0, 69) := by rw [cod, ctab_31]; rfl
theorem k31_69 : cod 31 69 = some (29, 9, 3, z0, 72) := by rw [cod, ctab_31]; rfl
theorem k31_72 : cod 31 72 = some (2, 2, 0, z0, 73) := by rw [cod, ctab_31]; rfl
theorem k31_73 : cod 31 73 = some (31, 1, 0, z0, 74) := by rw [cod, ctab_31]; rfl
theorem k31_74 : cod 31 74 = some (0, 0, 0, vi (-1), 75) := by rw [cod, ctab_31]; rfl
theorem k31_75 : cod 31 75 = some (28, 1, 87, z0, 78) := by rw [cod, ctab_31]; rfl
theorem k31_78 : cod 31 78 = some (4, 0, 0, z0, 79) := by rw [cod, ctab_31]; rfl
theorem k31_79 : cod 31 79 = some (29, 7, 0, z0, 82) := by rw [cod, ctab_31]; rfl
theorem k31_82 : cod 31 82 = some (0, 0, 0, vi (1), 83) := by rw [cod, ctab_31]; rfl
theorem k31_83 : cod 31 83 = some (34, 78, 2, vr 5 0, 86) := by rw [cod, ctab_31]; rfl
theorem k31_86 : cod 31 86 = some (36, 2, 0, z0, 87) := by rw [cod, ctab_31]; rfl
theorem k31_87 : cod 31 87 = some (4, 0, 0, z0, 88) := by rw [cod, ctab_31]; rfl
theorem k31_88 : cod 31 88 = some (29, 7, 0, z0, 91) := by rw [cod, ctab_31]; rfl
theorem k31_91 : cod 31 91 = some (34, 69, 1, vr 5 0, 94) := by rw [cod, ctab_31]; rfl
theorem k31_94 : cod 31 94 = some (4, 0, 0, z0, 95) := by rw [cod, ctab_31]; rfl
theorem k31_95 : cod 31 95 = some (29, 7, 0, z0, 98) := by rw [cod, ctab_31]; rfl
theorem k31_98 : cod 31 98 = some (0, 0, 0, vr 90 9, 100) := by rw [cod, ctab_31]; rfl
theorem k31_100 : cod 31 100 = some (34, 79, 2, vr 5 0, 103) := by rw [cod, ctab_31]; rfl
theorem k31_103 : cod 31 103 = some (27, 1, 108, z0, 106) := by rw [cod, ctab_31]; rfl
theorem k31_106 : cod 31 106 = some (0, 0, 0, z0, 107) := by rw [cod, ctab_31]; rfl
theorem k31_107 : cod 31 107 = some (36, 2, 0, z0, 108) := by rw [cod, ctab_31]; rfl
theorem k31_108 : cod 31 108 = some (4, 1, 0, z0, 109) := by rw [cod, ctab_31]; rfl
theorem k31_109 : cod 31 109 = some (29, 9, 4, z0, 112) := by rw [cod, ctab_31]; rfl
theorem k31_112 : cod 31 112 = some (2, 2, 0, z0, 113) := by rw [cod, ctab_31]; rfl
theorem k31_113 : cod 31 113 = some (4, 0, 0, z0, 114) := by rw [cod, ctab_31]; rfl
theorem k31_114 : cod 31 114 = some (4, 1, 0, z0, 115) := by rw [cod, ctab_31]; rfl
theorem k31_115 : cod 31 115 = some (0, 0, 0, vi (1), 116) := by rw [cod, ctab_31]; rfl
theorem k31_116 : cod 31 116 = some (34, 38, 3, vr 7 0, 119) := by rw [cod, ctab_31]; rfl
theorem k31_119 : cod 31 119 = some (32, 1, 0, z0, 120) := by rw [cod, ctab_31]; rfl
theorem k31_120 : cod 31 120 = some (4, 1, 0, z0, 121) := by rw [cod, ctab_31]; rfl
theorem k31_121 : cod 31 121 = some (29, 9, 4, z0, 124) := by rw [cod, ctab_31]; rfl
theorem k31_124 : cod 31 124 = some (2, 2, 0, z0, 125) := by rw [cod, ctab_31]; rfl
theorem k31_125 : cod 31 125 = some (31, 1, 0, z0, 126) := by rw [cod, ctab_31]; rfl
theorem k31_126 : cod 31 126 = some (0, 0, 0, vi (-1), 127) := by rw [cod, ctab_31]; rfl
theorem k31_127 : cod 31 127 = some (28, 1, 132, z0, 130) := by rw [cod, ctab_31]; rfl
theorem k31_130 : cod 31 130 = some (0, 0, 0, z0, 131) := by rw [cod, ctab_31]; rfl
theorem k31_131 : cod 31 131 = some (36, 2, 0, z0, 132) := by rw [cod, ctab_31]; rfl
theorem k31_132 : cod 31 132 = some (4, 0, 0, z0, 133) := by rw [cod, ctab_31]; rfl
theorem k31_133 : cod 31 133 = some (29, 7, 0, z0, 136) := by rw [cod, ctab_31]; rfl
theorem k31_136 : cod 31 136 = some (34, 69, 1, vr 5 0, 139) := by rw [cod, ctab_31]; rfl
theorem k31_139 : cod 31 139 = some (4, 0, 0, z0, 140) := by rw [cod, ctab_31]; rfl
theorem k31_140 : cod 31 140 = some (29, 7, 0, z0, 143) := by rw [cod, ctab_31]; rfl
theorem k31_143 : cod 31 143 = some (0, 0, 0, vr 90 10, 145) := by rw [cod, ctab_31]; rfl
theorem k31_145 : cod 31 145 = some (34, 79, 2, vr 5 0, 148) := by rw [cod, ctab_31]; rfl
theorem k31_148 : cod 31 148 = some (27, 0, 164, z0, 151) := by rw [cod, ctab_31]; rfl
theorem k31_151 : cod 31 151 = some (4, 0, 0, z0, 152) := by rw [cod, ctab_31]; rfl
theorem k31_152 : cod 31 152 = some (29, 7, 0, z0, 155) := by rw [cod, ctab_31]; rfl
theorem k31_155 : cod 31 155 = some (0, 0, 0, z0, 156) := by rw [cod, ctab_31]; rfl
theorem k31_156 : cod 31 156 = some (0, 0, 0, vi (99), 158) := by rw [cod, ctab_31]; rfl
theorem k31_158 : cod 31 158 = some (34, 81, 3, vr 5 0, 161) := by rw [cod, ctab_31]; rfl
theorem k31_161 : cod 31 161 = some (27, 1, 166, z0, 164) := by rw [cod, ctab_31]; rfl
theorem k31_164 : cod 31 164 = some (0, 0, 0, z0, 165) := by rw [cod, ctab_31]; rfl
theorem k31_165 : cod 31 165 = some (36, 2, 0, z0, 166) := by rw [cod, ctab_31]; rfl
theorem k31_166 : cod 31 166 = some (4, 1, 0, z0, 167) := by rw [cod, ctab_31]; rfl
theorem k31_167 : cod 31 167 = some (29, 9, 5, z0, 170) := by rw [cod, ctab_31]; rfl
theorem k31_170 : cod 31 170 = some (2, 2, 0, z0, 171) := by rw [cod, ctab_31]; rfl
theorem k31_171 : cod 31 171 = some (4, 0, 0, z0, 172) := by rw [cod, ctab_31]; rfl
theorem k31_172 : cod 31 172 = some (29, 7, 0, z0, 175) := by rw [cod, ctab_31]; rfl
theorem k31_175 : cod 31 175 = some (29, 5, 5, z0, 178) := by rw [cod, ctab_31]; rfl
theorem k31_178 : cod 31 178 = some (32, 1, 0, z0, 179) := by rw [cod, ctab_31]; rfl
theorem k31_179 : cod 31 179 = some (4, 0, 0, z0, 180) := by rw [cod, ctab_31]; rfl
theorem k31_180 : cod 31 180 = some (29, 7, 0, z0, 183) := by rw [cod, ctab_31]; rfl
theorem k31_183 : cod 31 183 = some (34, 69, 1, vr 5 0, 186) := by rw [cod, ctab_31]; rfl
theorem k31_186 : cod 31 186 = some (0, 0, 0, vi (1), 187) := by rw [cod, ctab_31]; rfl
theorem k31_187 : cod 31 187 = some (36, 2, 0, z0, 188) := by rw [cod, ctab_31]; rfl
theorem ctab_32 : ctab.getD 32 [] = cd32 := rfl
theorem k32_0 : cod 32 0 = some (4, 0, 0, z0, 1) := by rw [cod, ctab_32]; rfl
theorem k32_1 : cod 32 1 = some (29, 7, 2, z0, 4) := by rw [cod, ctab_32]; rfl
theorem k32_4 : cod 32 4 = some (27, 0, 16, z0, 7) := by rw [cod, ctab_32]; rfl
theorem k32_7 : cod 32 7 = some (4, 0, 0, z0, 8) := by rw [cod, ctab_32]; rfl
theorem k32_8 : cod 32 8 = some (29, 7, 0, z0, 11) := by rw [cod, ctab_32]; rfl
theorem k32_11 : cod 32 11 = some (0, 0, 0, vi (3), 12) := by rw [cod, ctab_32]; rfl
theorem k32_12 : cod 32 12 = some (34, 78, 2, vr 5 0, 15) := by rw [cod, ctab_32]; rfl
theorem k32_15 : cod 32 15 = some (36, 2, 0, z0, 16) := by rw [cod, ctab_32]; rfl
theorem k32_16 : cod 32 16 = some (4, 0, 0, z0, 17) := by rw [cod, ctab_32]; rfl
theorem k32_17 : cod 32 17 = some (0, 0, 0, vi (1), 18) := by rw [cod, ctab_32]; rfl
theorem k32_18 : cod 32 18 = some (30, 7, 2, z0, 21) := by rw [cod, ctab_32]; rfl
theorem k32_21 : cod 32 21 = some (4, 0, 0, z0, 22) := by rw [cod, ctab_32]; rfl
theorem k32_22 : cod 32 22 = some (29, 7, 0, z0, 25) := by rw [cod, ctab_32]; rfl
theorem k32_25 : cod 32 25 = some (34, 69, 1, vr 5 0, 28) := by rw [cod, ctab_32]; rfl
theorem k32_28 : cod 32 28 = some (4, 0, 0, z0, 29) := by rw [cod, ctab_32]; rfl
theorem k32_29 : cod 32 29 = some (29, 7, 0, z0, 32) := by rw [cod, ctab_32]; rfl
theorem k32_32 : cod 32 32 = some (0, 0, 0, vi (1), 33) := by rw [cod, ctab_32]; rfl
theorem k32_33 : cod 32 33 = some (0, 0, 0, vi (9), 35) := by rw [cod, ctab_32]; rfl
theorem k32_35 : cod 32 35 = some (34, 81, 3, vr 5 0, 38) := by rw [cod, ctab_32]; rfl
theorem k32_38 : cod 32 38 = some (27, 1, 43, z0, 41) := by rw [cod, ctab_32]; rfl
theorem k32_41 : cod 32 41 = some (0, 0, 0, z0, 42) := by rw [cod, ctab_32]; rfl
theorem k32_42 : cod 32 42 = some (36, 2, 0, z0, 43) := by rw [cod, ctab_32]; rfl
theorem k32_43 : cod 32 43 = some (4, 1, 0, z0, 44) := by rw [cod, ctab_32]; rfl
theorem k32_44 : cod 32 44 = some (4, 0, 0, z0, 45) := by rw [cod, ctab_32]; rfl
theorem k32_45 : cod 32 45 = some (29, 7, 0, z0, 48) := by rw [cod, ctab_32]; rfl
theorem k32_48 : cod 32 48 = some (29, 5, 5, z0, 51) := by rw [cod, ctab_32]; rfl
theorem k32_51 : cod 32 51 = some (30, 9, 11, z0, 54) := by rw [cod, ctab_32]; rfl
theorem k32_54 : cod 32 54 = some (4, 0, 0, z0, 55) := by rw [cod, ctab_32]; rfl
theorem k32_55 : cod 32 55 = some (29, 7, 0, z0, 58) := by rw [cod, ctab_32]; rfl
theorem k32_58 : cod 32 58 = some (34, 69, 1, vr 5 0, 61) := by rw [cod, ctab_32]; rfl
theorem k32_61 : cod 32 61 = some (0, 0, 0, vi (1), 62) := by rw [cod, ctab_32]; rfl
theorem k32_62 : cod 32 62 = some (36, 2, 0, z0, 63) := by rw [cod, ctab_32]; rfl
theorem ctab_33 : ctab.getD 33 [] = cd33 := rfl
theorem k33_0 : cod 33 0 = some (4, 0, 0, z0, 1) := by rw [cod, ctab_33]; rfl
theorem k33_1 : cod 33 1 = some (29, 7, 3, z0, 4) := by rw [cod, ctab_33]; rfl
theorem k33_4 : cod 33 4 = some (27, 0, 16, z0, 7) := by rw [cod, ctab_33]; rfl
theorem k33_7 : cod 33 7 = some (4, 0, 0, z0, 8) := by rw [cod, ctab_33]; rfl
theorem k33_8 : cod 33 8 = some (29, 7, 0, z0, 11) := by rw [cod, ctab_33]; rfl
theorem k33_11 : cod 33 11 = some (0, 0, 0, vi (3), 12) := by rw [cod, ctab_33]; rfl
theorem k33_12 : cod 33 12 = some (34, 78, 2, vr 5 0, 15) := by rw [cod, ctab_33]; rfl
theorem k33_15 : cod 33 15 = some (36, 2, 0, z0, 16) := by rw [cod, ctab_33]; rfl
theorem k33_16 : cod 33 16 = some (4, 0, 0, z0, 17) := by rw [cod, ctab_33]; rfl
theorem k33_17 : cod 33 17 = some (0, 0, 0, vi (1), 18) := by rw [cod, ctab_33]; rfl
theorem k33_18 : cod 33 18 = some (30, 7, 3, z0, 21) := by rw [cod, ctab_33]; rfl
theorem k33_21 : cod 33 21 = some (4, 0, 0, z0, 22) := by rw [cod, ctab_33]; rfl
theorem k33_22 : cod 33 22 = some (29, 7, 0, z0, 25) := by rw [cod, ctab_33]; rfl
theorem k33_25 : cod 33 25 = some (34, 69, 1, vr 5 0, 28) := by rw [cod, ctab_33]; rfl
theorem k33_28 : cod 33 28 = some (4, 0, 0, z0, 29) := by rw [cod, ctab_33]; rfl
theorem k33_29 : cod 33 29 = some (29, 7, 0, z0, 32) := by rw [cod, ctab_33]; rfl
theorem k33_32 : cod 33 32 = some (0, 0, 0, vi (1), 33) := by rw [cod, ctab_33]; rfl
theorem k33_33 : cod 33 33 = some (0, 0, 0, vi (99), 35) := by rw [cod, ctab_33]; rfl
theorem k33_35 : cod 33 35 = some (34, 81, 3, vr 5 0, 38) := by rw [cod, ctab_33]; rfl
theorem k33_38 : cod 33 38 = some (27, 1, 43, z0, 41) := by rw [cod, ctab_33]; rfl
theorem k33_41 : cod 33 41 = some (0, 0, 0, z0, 42) := by rw [cod, ctab_33]; rfl
theorem k33_42 : cod 33 42 = some (36, 2, 0, z0, 43) := by rw [cod, ctab_33]; rfl
theorem k33_43 : cod 33 43 = some (4, 1, 0, z0, 44) := by rw [cod, ctab_33]; rfl
theorem k33_44 : cod 33 44 = some (4, 0, 0, z0, 45) := by rw [cod, ctab_33]; rfl
theorem k33_45 : cod 33 45 = some (29, 7, 0, z0, 48) := by rw [cod, ctab_33]; rfl
theorem k33_48 : cod 33 48 = some (29, 5, 5, z0, 51) := by rw [cod, ctab_33]; rfl
theorem k33_51 : cod 33 51 = some (30, 9, 12, z0, 54) := by rw [cod, ctab_33]; rfl
theorem k33_54 : cod 33 54 = some (4, 0, 0, z0, 55) := by rw [cod, ctab_33]; rfl
theorem k33_55 : cod 33 55 = some (29, 7, 0, z0, 58) := by rw [cod, ctab_33]; rfl
theorem k33_58 : cod 33 58 = some (34, 69, 1, vr 5 0, 61) := by rw [cod, ctab_33]; rfl
theorem k33_61 : cod 33 61 = some (0, 0, 0, vi (1), 62) := by rw [cod, ctab_33]; rfl
theorem k33_62 : cod 33 62 = some (36, 2, 0, z0, 63) := by rw [cod, ctab_33]; rfl
theorem ctab_34 : ctab.getD 34 [] = cd34 := rfl
theorem k34_0 : cod 34 0 = some (4, 2, 0, z0, 1) := by rw [cod, ctab_34]; rfl
theorem k34_1 : cod 34 1 = some (0, 0, 0, z0, 2) := by rw [cod, ctab_34]; rfl
theorem k34_2 : cod 34 2 = some (30, 19, 3, z0, 5) := by rw [cod, ctab_34]; rfl
theorem k34_5 : cod 34 5 = some (4, 0, 0, z0, 6) := by rw [cod, ctab_34]; rfl
theorem k34_6 : cod 34 6 = some (29, 7, 0, z0, 9) := by rw [cod, ctab_34]; rfl
theorem k34_9 : cod 34 9 = some (34, 68, 1, vr 5 0, 12) := by rw [cod, ctab_34]; rfl
theorem k34_12 : cod 34 12 = some (0, 0, 0, z0, 13) := by rw [cod, ctab_34]; rfl
theorem k34_13 : cod 34 13 = some (5, 3, 0, z0, 14) := by rw [cod, ctab_34]; rfl
theorem k34_14 : cod 34 14 = some (2, 3, 0, z0, 15) := by rw [cod, ctab_34]; rfl
theorem k34_15 : cod 34 15 = some (0, 0, 0, vi (1000), 18) := by rw [cod, ctab_34]; rfl
theorem k34_18 : cod 34 18 = some (28, 3, 66, z0, 21) := by rw [cod, ctab_34]; rfl
theorem k34_21 : cod 34 21 = some (4, 0, 0, z0, 22) := by rw [cod, ctab_34]; rfl
theorem k34_22 : cod 34 22 = some (29, 7, 0, z0, 25) := by rw [cod, ctab_34]; rfl
theorem k34_25 : cod 34 25 = some (29, 5, 2, z0, 28) := by rw [cod, ctab_34]; rfl
theorem k34_28 : cod 34 28 = some (27, 0, 66, z0, 31) := by rw [cod, ctab_34]; rfl
theorem k34_31 : cod 34 31 = some (4, 0, 0, z0, 32) := by rw [cod, ctab_34]; rfl
theorem k34_32 : cod 34 32 = some (4, 1, 0, z0, 33) := by rw [cod, ctab_34]; rfl
theorem k34_33 : cod 34 33 = some (4, 2, 0, z0, 34) := by rw [cod, ctab_34]; rfl
theorem k34_34 : cod 34 34 = some (34, 35, 3, vr 7 0, 37) := by rw [cod, ctab_34]; rfl
theorem k34_37 : cod 34 37 = some (27, 0, 52, z0, 40) := by rw [cod, ctab_34]; rfl
theorem k34_40 : cod 34 40 = some (4, 0, 0, z0, 41) := by rw [cod, ctab_34]; rfl
theorem k34_41 : cod 34 41 = some (29, 7, 0, z0, 44) := by rw [cod, ctab_34]; rfl
theorem k34_44 : cod 34 44 = some (0, 0, 0, vi (59), 46) := by rw [cod, ctab_34]; rfl
theorem k34_46 : cod 34 46 = some (34, 80, 2, vr 5 0, 49) := by rw [cod, ctab_34]; rfl
theorem k34_49 : cod 34 49 = some (27, 1, 60, z0, 52) := by rw [cod, ctab_34]; rfl
theorem k34_52 : cod 34 52 = some (4, 0, 0, z0, 53) := by rw [cod, ctab_34]; rfl
theorem k34_53 : cod 34 53 = some (29, 7, 0, z0, 56) := by rw [cod, ctab_34]; rfl
theorem k34_56 : cod 34 56 = some (29, 5, 7, z0, 59) := by rw [cod, ctab_34]; rfl
theorem k34_59 : cod 34 59 = some (36, 1, 0, z0, 60) := by rw [cod, ctab_34]; rfl
theorem k34_60 : cod 34 60 = some (8, 3, 0, vi (1), 63) := by rw [cod, ctab_34]; rfl
theorem k34_63 : cod 34 63 = some (26, 14, 0, z0, 66) := by rw [cod, ctab_34]; rfl
theorem k34_66 : cod 34 66 = some (0, 0, 0, z0, 67) := by rw [cod, ctab_34]; rfl
theorem k34_67 : cod 34 67 = some (36, 1, 0, z0, 68) := by rw [cod, ctab_34]; rfl
theorem ctab_35 : ctab.getD 35 [] = cd35 := rfl
theorem k35_0 : cod 35 0 = some (4, 0, 0, z0, 1) := by rw [cod, ctab_35]; rfl
theorem k35_1 : cod 35 1 = some (34, 36, 1, vr 7 0, 4) := by rw [cod, ctab_35]; rfl
theorem k35_4 : cod 35 4 = some (5, 3, 0, z0, 5) := by rw [cod, ctab_35]; rfl
theorem k35_5 : cod 35 5 = some (2, 3, 0, z0, 6) := by rw [cod, ctab_35]; rfl
theorem k35_6 : cod 35 6 = some (0, 0, 0, vi (-1), 7) := by rw [cod, ctab_35]; rfl
theorem k35_7 : cod 35 7 = some (28, 1, 19, z0, 10) := by rw [cod, ctab_35]; rfl
theorem k35_10 : cod 35 10 = some (4, 0, 0, z0, 11) := by rw [cod, ctab_35]; rfl
theorem k35_11 : cod 35 11 = some (29, 7, 0, z0, 14) := by rw [cod, ctab_35]; rfl
theorem k35_14 : cod 35 14 = some (0, 0, 0, vi (1), 15) := by rw [cod, ctab_35]; rfl
theorem k35_15 : cod 35 15 = some (34, 78, 2, vr 5 0, 18) := by rw [cod, ctab_35]; rfl
theorem k35_18 : cod 35 18 = some (36, 2, 0, z0, 19) := by rw [cod, ctab_35]; rfl
theorem k35_19 : cod 35 19 = some (4, 2, 0, z0, 20) := by rw [cod, ctab_35]; rfl
theorem k35_20 : cod 35 20 = some (29, 19, 3, z0, 23) := by rw [cod, ctab_35]; rfl
theorem k35_23 : cod 35 23 = some (0, 0, 0, vi (40), 25) := by rw [cod, ctab_35]; rfl
theorem k35_25 : cod 35 25 = some (28, 2, 37, z0, 28) := by rw [cod, ctab_35]; rfl
theorem k35_28 : cod 35 28 = some (4, 0, 0, z0, 29) := by rw [cod, ctab_35]; rfl
theorem k35_29 : cod 35 29 = some (29, 7, 0, z0, 32) := by rw [cod, ctab_35]; rfl
theorem k35_32 : cod 35 32 = some (0, 0, 0, vi (5), 33) := by rw [cod, ctab_35]; rfl
theorem k35_33 : cod 35 33 = some (34, 78, 2, vr 5 0, 36) := by rw [cod, ctab_35]; rfl
theorem k35_36 : cod 35 36 = some (36, 2, 0, z0, 37) := by rw [cod, ctab_35]; rfl
theorem k35_37 : cod 35 37 = some (4, 0, 0, z0, 38) := by rw [cod, ctab_35]; rfl
theorem k35_38 : cod 35 38 = some (29, 7, 0, z0, 41) := by rw [cod, ctab_35]; rfl
theorem k35_41 : cod 35 41 = some (34, 69, 1, vr 5 0, 44) := by rw [cod, ctab_35]; rfl
theorem k35_44 : cod 35 44 = some (0, 0, 0, z0, 45) := by rw [cod, ctab_35]; rfl
theorem k35_45 : cod 35 45 = some (5, 4, 0, z0, 47) := by rw [cod, ctab_35]; rfl
theorem k35_47 : cod 35 47 = some (0, 0, 0, z0, 48) := by rw [cod, ctab_35]; rfl
theorem k35_48 : cod 35 48 = some (5, 5, 0, z0, 50) := by rw [cod, ctab_35]; rfl
theorem k35_50 : cod 35 50 = some (2, 3, 0, z0, 51) := by rw [cod, ctab_35]; rfl
theorem k35_51 : cod 35 51 = some (0, 0, 0, vi (3), 52) := by rw [cod, ctab_35]; rfl
theorem k35_52 : cod 35 52 = some (28, 0, 78, z0, 55) := by rw [cod, ctab_35]; rfl
theorem k35_55 : cod 35 55 = some (4, 0, 0, z0, 56) := by rw [cod, ctab_35]; rfl
theorem k35_56 : cod 35 56 = some (4, 1, 0, z0, 57) := by rw [cod, ctab_35]; rfl
theorem k35_57 : cod 35 57 = some (0, 0, 0, z0, 58) := by rw [cod, ctab_35]; rfl
theorem k35_58 : cod 35 58 = some (34, 38, 3, vr 7 0, 61) := by rw [cod, ctab_35]; rfl
theorem k35_61 : cod 35 61 = some (5, 4, 0, z0, 63) := by rw [cod, ctab_35]; rfl
theorem k35_63 : cod 35 63 = some (2, 4, 0, z0, 65) := by rw [cod, ctab_35]; rfl
theorem k35_65 : cod 35 65 = some (0, 0, 0, vi (-1), 66) := by rw [cod, ctab_35]; rfl
theorem k35_66 : cod 35 66 = some (28, 1, 71, z0, 69) := by rw [cod, ctab_35]; rfl
theorem k35_69 : cod 35 69 = some (0, 0, 0, z0, 70) := by rw [cod, ctab_35]; rfl
theorem k35_70 : cod 35 70 = some (36, 2, 0, z0, 71) := by rw [cod, ctab_35]; rfl
theorem k35_71 : cod 35 71 = some (4, 0, 0, z0, 72) := by rw [cod, ctab_35]; rfl
theorem k35_72 : cod 35 72 = some (29, 7, 0, z0, 75) := by rw [cod, ctab_35]; rfl
theorem k35_75 : cod 35 75 = some (34, 69, 1, vr 5 0, 78) := by rw [cod, ctab_35]; rfl
theorem k35_78 : cod 35 78 = some (2, 3, 0, z0, 79) := by rw [cod, ctab_35]; rfl
theorem k35_79 : cod 35 79 = some (27, 0, 87, z0, 82) := by rw [cod, ctab_35]; rfl
theorem k35_82 : cod 35 82 = some (2, 3, 0, z0, 83) := by rw [cod, ctab_35]; rfl
theorem k35_83 : cod 35 83 = some (0, 0, 0, vi (1), 84) := by rw [cod, ctab_35]; rfl
theorem k35_84 : cod 35 84 = some (28, 1, 139, z0, 87) := by rw [cod, ctab_35]; rfl
theorem k35_87 : cod 35 87 = some (4, 0, 0, z0, 88) := by rw [cod, ctab_35]; rfl
theorem k35_88 : cod 35 88 = some (4, 1, 0, z0, 89) := by rw [cod, ctab_35]; rfl
theorem k35_89 : cod 35 89 = some (2, 3, 0, z0, 90) := by rw [cod, ctab_35]; rfl
theorem k35_90 : cod 35 90 = some (27, 1, 97, z0, 93) := by rw [cod, ctab_35]; rfl
theorem k35_93 : cod 35 93 = some (0, 0, 0, vi (1), 94) := by rw [cod, ctab_35]; rfl
theorem k35_94 : cod 35 94 = some (26, 98, 0, z0, 97) := by rw [cod, ctab_35]; rfl
theorem k35_97 : cod 35 97 = some (0, 0, 0, z0, 98) := by rw [cod, ctab_35]; rfl
theorem k35_98 : cod 35 98 = some (34, 38, 3, vr 7 0, 101) := by rw [cod, ctab_35]; rfl
theorem k35_101 : cod 35 101 = some (5, 5, 0, z0, 103) := by rw [cod, ctab_35]; rfl
theorem k35_103 : cod 35 103 = some (2, 5, 0, z0, 105) := by rw [cod, ctab_35]; rfl
theorem k35_105 : cod 35 105 = some (0, 0, 0, vi (-1), 106) := by rw [cod, ctab_35]; rfl
theorem k35_106 : cod 35 106 = some (28, 1, 111, z0, 109) := by rw [cod, ctab_35]; rfl
theorem k35_109 : cod 35 109 = some (0, 0, 0, z0, 110) := by rw [cod, ctab_35]; rfl
theorem k35_110 : cod 35 110 = some (36, 2, 0, z0, 111) := by rw [cod, ctab_35]; rfl
theorem k35_111 : cod 35 111 = some (2, 3, 0, z0, 112) := by rw [cod, ctab_35]; rfl
theorem k35_112 : cod 35 112 = some (0, 0, 0, vi (1), 113) := by rw [cod, ctab_35]; rfl
theorem k35_113 : cod 35 113 = some (28, 1, 132, z0, 116) := by rw [cod, ctab_35]; rfl
theorem k35_116 : cod 35 116 = some (2, 4, 0, z0, 118) := by rw [cod, ctab_35]; rfl
theorem k35_118 : cod 35 118 = some (2, 5, 0, z0, 120) := by rw [cod, ctab_35]; rfl
theorem k35_120 : cod 35 120 = some (28, 1, 132, z0, 123) := by rw [cod, ctab_35]; rfl
theorem k35_123 : cod 35 123 = some (4, 0, 0, z0, 124) := by rw [cod, ctab_35]; rfl
theorem k35_124 : cod 35 124 = some (29, 7, 0, z0, 127) := by rw [cod, ctab_35]; rfl
theorem k35_127 : cod 35 127 = some (0, 0, 0, vi (3), 128) := by rw [cod, ctab_35]; rfl
theorem k35_128 : cod 35 128 = some (34, 78, 2, vr 5 0, 131) := by rw [cod, ctab_35]; rfl
theorem k35_131 : cod 35 131 = some (36, 2, 0, z0, 132) := by rw [cod, ctab_35]; rfl
theorem k35_132 : cod 35 132 = some (4, 0, 0, z0, 133) := by rw [cod, ctab_35]; rfl
theorem k35_133 : cod 35 133 = some (29, 7, 0, z0, 136) := by rw [cod, ctab_35]; rfl
theorem k35_136 : cod 35 136 = some (34, 69, 1, vr 5 0, 139) := by rw [cod, ctab_35]; rfl
theorem k35_139 : cod 35 139 = some (4, 2, 0, z0, 140) := by rw [cod, ctab_35]; rfl
theorem k35_140 : cod 35 140 = some (2, 3, 0, z0, 141) := by rw [cod, ctab_35]; rfl
theorem k35_141 : cod 35 141 = some (2, 4, 0, z0, 143) := by rw [cod, ctab_35]; rfl
theorem k35_143 : cod 35 143 = some (2, 5, 0, z0, 145) := by rw [cod, ctab_35]; rfl
theorem k35_145 : cod 35 145 = some (34, 83, 4, vr 19 0, 148) := by rw [cod, ctab_35]; rfl
theorem k35_148 : cod 35 148 = some (0, 0, 0, vi (1), 149) := by rw [cod, ctab_35]; rfl
theorem k35_149 : cod 35 149 = some (36, 2, 0, z0, 150) := by rw [cod, ctab_35]; rfl
theorem ctab_36 : ctab.getD 36 [] = cd36 := rfl
theorem k36_0 : cod 36 0 = some (4, 0, 0, z0, 1) := by rw [cod, ctab_36]; rfl
theorem k36_1 : cod 36 1 = some (29, 7, 0, z0, 4) := by rw [cod, ctab_36]; rfl
theorem k36_4 : cod 36 4 = some (0, 0, 0, vr 90 22, 6) := by rw [cod, ctab_36]; rfl
theorem k36_6 : cod 36 6 = some (34, 74, 2, vr 5 0, 9) := by rw [cod, ctab_36]; rfl
theorem k36_9 : cod 36 9 = some (27, 0, 14, z0, 12) := by rw [cod, ctab_36]; rfl
theorem k36_12 : cod 36 12 = some (0, 0, 0, z0, 13) := by rw [cod, ctab_36]; rfl
theorem k36_13 : cod 36 13 = some (36, 1, 0, z0, 14) := by rw [cod, ctab_36]; rfl
theorem k36_14 : cod 36 14 = some (4, 0, 0, z0, 15) := by rw [cod, ctab_36]; rfl
theorem k36_15 : cod 36 15 = some (29, 7, 0, z0, 18) := by rw [cod, ctab_36]; rfl
theorem k36_18 : cod 36 18 = some (0, 0, 0, vr 90 23, 20) := by rw [cod, ctab_36]; rfl
theorem k36_20 : cod 36 20 = some (34, 74, 2, vr 5 0, 23) := by rw [cod, ctab_36]; rfl
theorem k36_23 : cod 36 23 = some (27, 0, 28, z0, 26) := by rw [cod, ctab_36]; rfl
theorem k36_26 : cod 36 26 = some (0, 0, 0, vi (1), 27) := by rw [cod, ctab_36]; rfl
theorem k36_27 : cod 36 27 = some (36, 1, 0, z0, 28) := by rw [cod, ctab_36]; rfl
theorem k36_28 : cod 36 28 = some (4, 0, 0, z0, 29) := by rw [cod, ctab_36]; rfl
theorem k36_29 : cod 36 29 = some (29, 7, 0, z0, 32) := by rw [cod, ctab_36]; rfl
theorem k36_32 : cod 36 32 = some (0, 0, 0, vr 90 24, 34) := by rw [cod, ctab_36]; rfl
theorem k36_34 : cod 36 34 = some (34, 74, 2, vr 5 0, 37) := by rw [cod, ctab_36]; rfl
theorem k36_37 : cod 36 37 = some (27, 0, 42, z0, 40) := by rw [cod, ctab_36]; rfl
theorem k36_40 : cod 36 40 = some (0, 0, 0, vi (2), 41) := by rw [cod, ctab_36]; rfl
theorem k36_41 : cod 36 41 = some (36, 1, 0, z0, 42) := by rw [cod, ctab_36]; rfl
theorem k36_42 : cod 36 42 = some (4, 0, 0, z0, 43) := by rw [cod, ctab_36]; rfl
theorem k36_43 : cod 36 43 = some (29, 7, 0, z0, 46) := by rw [cod, ctab_36]; rfl
theorem k36_46 : cod 36 46 = some (0, 0, 0, vr 90 25, 48) := by rw [cod, ctab_36]; rfl
theorem k36_48 : cod 36 48 = some (34, 74, 2, vr 5 0, 51) := by rw [cod, ctab_36]; rfl
theorem k36_51 : cod 36 51 = some (27, 0, 58, z0, 54) := by rw [cod, ctab_36]; rfl
theorem k36_54 : cod 36 54 = some (0, 0, 0, vi (3), 55) := by rw [cod, ctab_36]; rfl
theorem k36_55 : cod 36 55 = some (26, 59, 0, z0, 58) := by rw [cod, ctab_36]; rfl
theorem k36_58 : cod 36 58 = some (0, 0, 0, vi (-1), 59) := by rw [cod, ctab_36]; rfl
theorem k36_59 : cod 36 59 = some (36, 1, 0, z0, 60) := by rw [cod, ctab_36]; rfl
theorem ctab_37 : ctab.getD 37 [] = cd37 := rfl
theorem k37_0 : cod 37 0 = some (4, 0, 0, z0, 1) := by rw [cod, ctab_37]; rfl
theorem k37_1 : cod 37 1 = some (29, 7, 0, z0, 4) := by rw [cod, ctab_37]; rfl
theorem k37_4 : cod 37 4 = some (34, 76, 1, vr 5 0, 7) := by rw [cod, ctab_37]; rfl
theorem k37_7 : cod 37 7 = some (27, 1, 19, z0, 10) := by rw [cod, ctab_37]; rfl
theorem k37_10 : cod 37 10 = some (4, 0, 0, z0, 11) := by rw [cod, ctab_37]; rfl
theorem k37_11 : cod 37 11 = some (29, 7, 0, z0, 14) := by rw [cod, ctab_37]; rfl
theorem k37_14 : cod 37 14 = some (0, 0, 0, vi (1), 15) := by rw [cod, ctab_37]; rfl
theorem k37_15 : cod 37 15 = some (34, 78, 2, vr 5 0, 18) := by rw [cod, ctab_37]; rfl
theorem k37_18 : cod 37 18 = some (36, 2, 0, z0, 19) := by rw [cod, ctab_37]; rfl
theorem k37_19 : cod 37 19 = some (4, 1, 0, z0, 20) := by rw [cod, ctab_37]; rfl
theorem k37_20 : cod 37 20 = some (4, 0, 0, z0, 21) := by rw [cod, ctab_37]; rfl
theorem k37_21 : cod 37 21 = some (29, 7, 0, z0, 24) := by rw [cod, ctab_37]; rfl
theorem k37_24 : cod 37 24 = some (29, 5, 6, z0, 27) := by rw [cod, ctab_37]; rfl
theorem k37_27 : cod 37 27 = some (34, 4, 2, vr 9 0, 30) := by rw [cod, ctab_37]; rfl
theorem k37_30 : cod 37 30 = some (0, 0, 0, vi (-1), 31) := by rw [cod, ctab_37]; rfl
theorem k37_31 : cod 37 31 = some (28, 1, 49, z0, 34) := by rw [cod, ctab_37]; rfl
theorem k37_34 : cod 37 34 = some (4, 1, 0, z0, 35) := by rw [cod, ctab_37]; rfl
theorem k37_35 : cod 37 35 = some (4, 0, 0, z0, 36) := by rw [cod, ctab_37]; rfl
theorem k37_36 : cod 37 36 = some (29, 7, 0, z0, 39) := by rw [cod, ctab_37]; rfl
theorem k37_39 : cod 37 39 = some (29, 5, 6, z0, 42) := by rw [cod, ctab_37]; rfl
theorem k37_42 : cod 37 42 = some (34, 5, 2, vr 9 0, 45) := by rw [cod, ctab_37]; rfl
theorem k37_45 : cod 37 45 = some (0, 0, 0, vi (-1), 46) := by rw [cod, ctab_37]; rfl
theorem k37_46 : cod 37 46 = some (28, 0, 53, z0, 49) := by rw [cod, ctab_37]; rfl
theorem k37_49 : cod 37 49 = some (0, 0, 0, vi (1), 50) := by rw [cod, ctab_37]; rfl
theorem k37_50 : cod 37 50 = some (26, 54, 0, z0, 53) := by rw [cod, ctab_37]; rfl
theorem k37_53 : cod 37 53 = some (0, 0, 0, z0, 54) := by rw [cod, ctab_37]; rfl
theorem k37_54 : cod 37 54 = some (5, 2, 0, z0, 55) := by rw [cod, ctab_37]; rfl
theorem k37_55 : cod 37 55 = some (2, 2, 0, z0, 56) := by rw [cod, ctab_37]; rfl
theorem k37_56 : cod 37 56 = some (27, 0, 70, z0, 59) := by rw [cod, ctab_37]; rfl
theorem k37_59 : cod 37 59 = some (4, 0, 0, z0, 60) := by rw [cod, ctab_37]; rfl
theorem k37_60 : cod 37 60 = some (29, 7, 0, z0, 63) := by rw [cod, ctab_37]; rfl
theorem k37_63 : cod 37 63 = some (0, 0, 0, vi (3), 64) := by rw [cod, ctab_37]; rfl
theorem k37_64 : cod 37 64 = some (34, 78, 2, vr 5 0, 67) := by rw [cod, ctab_37]; rfl
theorem k37_67 : cod 37 67 = some (27, 0, 74, z0, 70) := by rw [cod, ctab_37]; rfl
theorem k37_70 : cod 37 70 = some (0, 0, 0, vi (1), 71) := by rw [cod, ctab_37]; rfl
theorem k37_71 : cod 37 71 = some (26, 75, 0, z0, 74) := by rw [cod, ctab_37]; rfl
theorem k37_74 : cod 37 74 = some (0, 0, 0, z0, 75) := by rw [cod, ctab_37]; rfl
theorem k37_75 : cod 37 75 = some (36, 2, 0, z0, 76) := by rw [cod, ctab_37]; rfl
theorem ctab_38 : ctab.getD 38 [] = cd38 := rfl
theorem k38_0 : cod 38 0 = some (4, 0, 0, z0, 1) := by rw [cod, ctab_38]; rfl
theorem k38_1 : cod 38 1 = some (29, 7, 0, z0, 4) := by rw [cod, ctab_38]; rfl
theorem k38_4 : cod 38 4 = some (34, 76, 1, vr 5 0, 7) := by rw [cod, ctab_38]; rfl
theorem k38_7 : cod 38 7 = some (27, 1, 21, z0, 10) := by rw [cod, ctab_38]; rfl
theorem k38_10 : cod 38 10 = some (4, 0, 0, z0, 11) := by rw [cod, ctab_38]; rfl
theorem k38_11 : cod 38 11 = some (29, 7, 0, z0, 14) := by rw [cod, ctab_38]; rfl
theorem k38_14 : cod 38 14 = some (0, 0, 0, vi (1), 15) := by rw [cod, ctab_38]; rfl
theorem k38_15 : cod 38 15 = some (34, 78, 2, vr 5 0, 18) := by rw [cod, ctab_38]; rfl
theorem k38_18 : cod 38 18 = some (25, 0, 0, z0, 19) := by rw [cod, ctab_38]; rfl
theorem k38_19 : cod 38 19 = some (0, 0, 0, vi (-1), 20) := by rw [cod, ctab_38]; rfl
theorem k38_20 : cod 38 20 = some (36, 1, 0, z0, 21) := by rw [cod, ctab_38]; rfl
theorem k38_21 : cod 38 21 = some (2, 2, 0, z0, 22) := by rw [cod, ctab_38]; rfl
theorem k38_22 : cod 38 22 = some (27, 0, 39, z0, 25) := by rw [cod, ctab_38]; rfl
theorem k38_25 : cod 38 25 = some (4, 1, 0, z0, 26) := by rw [cod, ctab_38]; rfl
theorem k38_26 : cod 38 26 = some (4, 0, 0, z0, 27) := by rw [cod, ctab_38]; rfl
theorem k38_27 : cod 38 27 = some (29, 7, 0, z0, 30) := by rw [cod, ctab_38]; rfl
theorem k38_30 : cod 38 30 = some (29, 5, 6, z0, 33) := by rw [cod, ctab_38]; rfl
theorem k38_33 : cod 38 33 = some (34, 4, 2, vr 9 0, 36) := by rw [cod, ctab_38]; rfl
theorem k38_36 : cod 38 36 = some (26, 50, 0, z0, 39) := by rw [cod, ctab_38]; rfl
theorem k38_39 : cod 38 39 = some (4, 1, 0, z0, 40) := by rw [cod, ctab_38]; rfl
theorem k38_40 : cod 38 40 = some (4, 0, 0, z0, 41) := by rw [cod, ctab_38]; rfl
theorem k38_41 : cod 38 41 = some (29, 7, 0, z0, 44) := by rw [cod, ctab_38]; rfl
theorem k38_44 : cod 38 44 = some (29, 5, 6, z0, 47) := by rw [cod, ctab_38]; rfl
theorem k38_47 : cod 38 47 = some (34, 5, 2, vr 9 0, 50) := by rw [cod, ctab_38]; rfl
theorem k38_50 : cod 38 50 = some (5, 3, 0, z0, 51) := by rw [cod, ctab_38]; rfl
theorem k38_51 : cod 38 51 = some (2, 3, 0, z0, 52) := by rw [cod, ctab_38]; rfl
theorem k38_52 : cod 38 52 = some (0, 0, 0, vi (-1), 53) := by rw [cod, ctab_38]; rfl
theorem k38_53 : cod 38 53 = some (28, 1, 65, z0, 56) := by rw [cod, ctab_38]; rfl
theorem k38_56 : cod 38 56 = some (4, 0, 0, z0, 57) := by rw [cod, ctab_38]; rfl
theorem k38_57 : cod 38 57 = some (29, 7, 0, z0, 60) := by rw [cod, ctab_38]; rfl
theorem k38_60 : cod 38 60 = some (0, 0, 0, vi (2), 61) := by rw [cod, ctab_38]; rfl
theorem k38_61 : cod 38 61 = some (34, 78, 2, vr 5 0, 64) := by rw [cod, ctab_38]; rfl
theorem k38_64 : cod 38 64 = some (25, 0, 0, z0, 65) := by rw [cod, ctab_38]; rfl
theorem k38_65 : cod 38 65 = some (2, 3, 0, z0, 66) := by rw [cod, ctab_38]; rfl
theorem k38_66 : cod 38 66 = some (36, 1, 0, z0, 67) := by rw [cod, ctab_38]; rfl
theorem ctab_39 : ctab.getD 39 [] = cd39 := rfl
theorem k39_0 : cod 39 0 = some (4, 0, 0, z0, 1) := by rw [cod, ctab_39]; rfl
theorem k39_1 : cod 39 1 = some (44, 0, 0, z0, 4) := by rw [cod, ctab_39]; rfl
theorem k39_4 : cod 39 4 = some (4, 0, 0, z0, 5) := by rw [cod, ctab_39]; rfl
theorem k39_5 : cod 39 5 = some (39, 25, 0, z0, 8) := by rw [cod, ctab_39]; rfl
theorem k39_8 : cod 39 8 = some (23, 0, 0, z0, 9) := by rw [cod, ctab_39]; rfl
theorem k39_9 : cod 39 9 = some (34, 43, 1, vr 25 0, 12) := by rw [cod, ctab_39]; rfl
theorem k39_12 : cod 39 12 = some (30, 23, 0, z0, 15) := by rw [cod, ctab_39]; rfl
theorem k39_15 : cod 39 15 = some (4, 0, 0, z0, 16) := by rw [cod, ctab_39]; rfl
theorem k39_16 : cod 39 16 = some (39, 19, 0, z0, 19) := by rw [cod, ctab_39]; rfl
theorem k39_19 : cod 39 19 = some (23, 0, 0, z0, 20) := by rw [cod, ctab_39]; rfl
theorem k39_20 : cod 39 20 = some (34, 82, 1, vr 19 0, 23) := by rw [cod, ctab_39]; rfl
theorem k39_23 : cod 39 23 = some (30, 23, 1, z0, 26) := by rw [cod, ctab_39]; rfl
theorem k39_26 : cod 39 26 = some (4, 0, 0, z0, 27) := by rw [cod, ctab_39]; rfl
theorem k39_27 : cod 39 27 = some (0, 0, 0, vi (6), 29) := by rw [cod, ctab_39]; rfl
theorem k39_29 : cod 39 29 = some (40, 24, 0, z0, 31) := by rw [cod, ctab_39]; rfl
theorem k39_31 : cod 39 31 = some (30, 23, 2, z0, 34) := by rw [cod, ctab_39]; rfl
theorem k39_34 : cod 39 34 = some (4, 0, 0, z0, 35) := by rw [cod, ctab_39]; rfl
theorem k39_35 : cod 39 35 = some (29, 23, 2, z0, 38) := by rw [cod, ctab_39]; rfl
theorem k39_38 : cod 39 38 = some (0, 0, 0, vi (-1), 39) := by rw [cod, ctab_39]; rfl
theorem k39_39 : cod 39 39 = some (34, 250, 2, z0, 42) := by rw [cod, ctab_39]; rfl
theorem k39_42 : cod 39 42 = some (35, 0, 0, z0, 43) := by rw [cod, ctab_39]; rfl
theorem ctab_40 : ctab.getD 40 [] = cd40 := rfl
theorem k40_0 : cod 40 0 = some (4, 0, 0, z0, 1) := by rw [cod, ctab_40]; rfl
theorem k40_1 : cod 40 1 = some (29, 23, 0, z0, 4) := by rw [cod, ctab_40]; rfl
theorem k40_4 : cod 40 4 = some (4, 1, 0, z0, 5) := by rw [cod, ctab_40]; rfl
theorem k40_5 : cod 40 5 = some (34, 44, 2, vr 25 0, 8) := by rw [cod, ctab_40]; rfl
theorem k40_8 : cod 40 8 = some (4, 0, 0, z0, 9) := by rw [cod, ctab_40]; rfl
theorem k40_9 : cod 40 9 = some (29, 23, 1, z0, 12) := by rw [cod, ctab_40]; rfl
theorem k40_12 : cod 40 12 = some (0, 0, 0, z0, 13) := by rw [cod, ctab_40]; rfl
theorem k40_13 : cod 40 13 = some (30, 19, 3, z0, 16) := by rw [cod, ctab_40]; rfl
theorem k40_16 : cod 40 16 = some (4, 0, 0, z0, 17) := by rw [cod, ctab_40]; rfl
theorem k40_17 : cod 40 17 = some (29, 23, 2, z0, 20) := by rw [cod, ctab_40]; rfl
theorem k40_20 : cod 40 20 = some (0, 0, 0, vi (-1), 21) := by rw [cod, ctab_40]; rfl
theorem k40_21 : cod 40 21 = some (34, 250, 2, z0, 24) := by rw [cod, ctab_40]; rfl
theorem k40_24 : cod 40 24 = some (35, 0, 0, z0, 25) := by rw [cod, ctab_40]; rfl
theorem ctab_41 : ctab.getD 41 [] = cd41 := rfl
theorem k41_0 : cod 41 0 = some (4, 0, 0, z0, 1) := by rw [cod, ctab_41]; rfl
theorem k41_1 : cod 41 1 = some (29, 23, 0, z0, 4) := by rw [cod, ctab_41]; rfl
theorem k41_4 : cod 41 4 = some (4, 1, 0, z0, 5) := by rw [cod, ctab_41]; rfl
theorem k41_5 : cod 41 5 = some (29, 23, 0, z0, 8) := by rw [cod, ctab_41]; rfl
theorem k41_8 : cod 41 8 = some (34, 45, 2, vr 25 0, 11) := by rw [cod, ctab_41]; rfl
theorem k41_11 : cod 41 11 = some (4, 0, 0, z0, 12) := by rw [cod, ctab_41]; rfl
theorem k41_12 : cod 41 12 = some (29, 23, 1, z0, 15) := by rw [cod, ctab_41]; rfl
theorem k41_15 : cod 41 15 = some (4, 1, 0, z0, 16) := by rw [cod, ctab_41]; rfl
theorem k41_16 : cod 41 16 = some (29, 23, 1, z0, 19) := by rw [cod, ctab_41]; rfl
theorem k41_19 : cod 41 19 = some (34, 84, 2, vr 19 0, 22) := by rw [cod, ctab_41]; rfl
theorem k41_22 : cod 41 22 = some (4, 1, 0, z0, 23) := by rw [cod, ctab_41]; rfl
theorem k41_23 : cod 41 23 = some (29, 23, 2, z0, 26) := by rw [cod, ctab_41]; rfl
theorem k41_26 : cod 41 26 = some (0, 0, 0, z0, 27) := by rw [cod, ctab_41]; rfl
theorem k41_27 : cod 41 27 = some (4, 0, 0, z0, 28) := by rw [cod, ctab_41]; rfl
theorem k41_28 : cod 41 28 = some (29, 23, 2, z0, 31) := by rw [cod, ctab_41]; rfl
theorem k41_31 : cod 41 31 = some (0, 0, 0, z0, 32) := by rw [cod, ctab_41]; rfl
theorem k41_32 : cod 41 32 = some (0, 0, 0, vi (6), 34) := by rw [cod, ctab_41]; rfl
theorem k41_34 : cod 41 34 = some (46, 0, 0, z0, 37) := by rw [cod, ctab_41]; rfl
theorem k41_37 : cod 41 37 = some (35, 0, 0, z0, 38) := by rw [cod, ctab_41]; rfl
theorem ctab_42 : ctab.getD 42 [] = cd42 := rfl
theorem k42_0 : cod 42 0 = some (0, 0, 0, z0, 1) := by rw [cod, ctab_42]; rfl
theorem k42_1 : cod 42 1 = some (5, 1, 0, z0, 2) := by rw [cod, ctab_42]; rfl
theorem k42_2 : cod 42 2 = some (0, 0, 0, z0, 3) := by rw [cod, ctab_42]; rfl
theorem k42_3 : cod 42 3 = some (5, 2, 0, z0, 4) := by rw [cod, ctab_42]; rfl
theorem k42_4 : cod 42 4 = some (2, 2, 0, z0, 5) := by rw [cod, ctab_42]; rfl
theorem k42_5 : cod 42 5 = some (0, 0, 0, vi (6), 7) := by rw [cod, ctab_42]; rfl
theorem k42_7 : cod 42 7 = some (28, 3, 29, z0, 10) := by rw [cod, ctab_42]; rfl
theorem k42_10 : cod 42 10 = some (4, 0, 0, z0, 11) := by rw [cod, ctab_42]; rfl
theorem k42_11 : cod 42 11 = some (29, 23, 2, z0, 14) := by rw [cod, ctab_42]; rfl
theorem k42_14 : cod 42 14 = some (2, 2, 0, z0, 15) := by rw [cod, ctab_42]; rfl
theorem k42_15 : cod 42 15 = some (31, 1, 0, z0, 16) := by rw [cod, ctab_42]; rfl
theorem k42_16 : cod 42 16 = some (0, 0, 0, vi (-1), 17) := by rw [cod, ctab_42]; rfl
theorem k42_17 : cod 42 17 = some (28, 0, 23, z0, 20) := by rw [cod, ctab_42]; rfl
theorem k42_20 : cod 42 20 = some (8, 1, 0, vi (1), 23) := by rw [cod, ctab_42]; rfl
theorem k42_23 : cod 42 23 = some (8, 2, 0, vi (1), 26) := by rw [cod, ctab_42]; rfl
theorem k42_26 : cod 42 26 = some (26, 4, 0, z0, 29) := by rw [cod, ctab_42]; rfl
theorem k42_29 : cod 42 29 = some (2, 1, 0, z0, 30) := by rw [cod, ctab_42]; rfl
theorem k42_30 : cod 42 30 = some (36, 1, 0, z0, 31) := by rw [cod, ctab_42]; rfl
theorem ctab_43 : ctab.getD 43 [] = cd43 := rfl
theorem k43_0 : cod 43 0 = some (4, 0, 0, z0, 1) := by rw [cod, ctab_43]; rfl
theorem k43_1 : cod 43 1 = some (44, 0, 0, z0, 4) := by rw [cod, ctab_43]; rfl
theorem k43_4 : cod 43 4 = some (4, 0, 0, z0, 5) := by rw [cod, ctab_43]; rfl
theorem k43_5 : cod 43 5 = some (0, 0, 0, vi (6), 7) := by rw [cod, ctab_43]; rfl
theorem k43_7 : cod 43 7 = some (40, 26, 0, z0, 9) := by rw [cod, ctab_43]; rfl
theorem k43_9 : cod 43 9 = some (30, 25, 0, z0, 12) := by rw [cod, ctab_43]; rfl
theorem k43_12 : cod 43 12 = some (4, 0, 0, z0, 13) := by rw [cod, ctab_43]; rfl
theorem k43_13 : cod 43 13 = some (0, 0, 0, vi (6), 15) := by rw [cod, ctab_43]; rfl
theorem k43_15 : cod 43 15 = some (40, 27, 0, z0, 17) := by rw [cod, ctab_43]; rfl
theorem k43_17 : cod 43 17 = some (30, 25, 1, z0, 20) := by rw [cod, ctab_43]; rfl
theorem k43_20 : cod 43 20 = some (4, 0, 0, z0, 21) := by rw [cod, ctab_43]; rfl
theorem k43_21 : cod 43 21 = some (0, 0, 0, vi (36), 23) := by rw [cod, ctab_43]; rfl
theorem k43_23 : cod 43 23 = some (40, 28, 0, z0, 25) := by rw [cod, ctab_43]; rfl
theorem k43_25 : cod 43 25 = some (30, 25, 2, z0, 28) := by rw [cod, ctab_43]; rfl
theorem k43_28 : cod 43 28 = some (35, 0, 0, z0, 29) := by rw [cod, ctab_43]; rfl
theorem ctab_44 : ctab.getD 44 [] = cd44 := rfl
theorem k44_0 : cod 44 0 = some (4, 1, 0, z0, 1) := by rw [cod, ctab_44]; rfl
theorem k44_1 : cod 44 1 = some (29, 9, 4, z0, 4) := by rw [cod, ctab_44]; rfl
theorem k44_4 : cod 44 4 = some (0, 0, 0, z0, 5) := by rw [cod, ctab_44]; rfl
theorem k44_5 : cod 44 5 = some (4, 0, 0, z0, 6) := by rw [cod, ctab_44]; rfl
theorem k44_6 : cod 44 6 = some (29, 25, 0, z0, 9) := by rw [cod, ctab_44]; rfl
theorem k44_9 : cod 44 9 = some (0, 0, 0, z0, 10) := by rw [cod, ctab_44]; rfl
theorem k44_10 : cod 44 10 = some (0, 0, 0, vi (6), 12) := by rw [cod, ctab_44]; rfl
theorem k44_12 : cod 44 12 = some (46, 0, 0, z0, 15) := by rw [cod, ctab_44]; rfl
theorem k44_15 : cod 44 15 = some (4, 1, 0, z0, 16) := by rw [cod, ctab_44]; rfl
theorem k44_16 : cod 44 16 = some (29, 9, 5, z0, 19) := by rw [cod, ctab_44]; rfl
theorem k44_19 : cod 44 19 = some (0, 0, 0, z0, 20) := by rw [cod, ctab_44]; rfl
theorem k44_20 : cod 44 20 = some (4, 0, 0, z0, 21) := by rw [cod, ctab_44]; rfl
theorem k44_21 : cod 44 21 = some (29, 25, 1, z0, 24) := by rw [cod, ctab_44]; rfl
theorem k44_24 : cod 44 24 = some (0, 0, 0, z0, 25) := by rw [cod, ctab_44]; rfl
theorem k44_25 : cod 44 25 = some (0, 0, 0, vi (6), 27) := by rw [cod, ctab_44]; rfl
theorem k44_27 : cod 44 27 = some (46, 0, 0, z0, 30) := by rw [cod, ctab_44]; rfl
theorem k44_30 : cod 44 30 = some (4, 0, 0, z0, 31) := by rw [cod, ctab_44]; rfl
theorem k44_31 : cod 44 31 = some (29, 25, 2, z0, 34) := by rw [cod, ctab_44]; rfl
theorem k44_34 : cod 44 34 = some (0, 0, 0, z0, 35) := by rw [cod, ctab_44]; rfl
theorem k44_35 : cod 44 35 = some (34, 250, 2, z0, 38) := by rw [cod, ctab_44]; rfl
theorem k44_38 : cod 44 38 = some (4, 0, 0, z0, 39) := by rw [cod, ctab_44]; rfl
theorem k44_39 : cod 44 39 = some (0, 0, 0, z0, 40) := by rw [cod, ctab_44]; rfl
theorem k44_40 : cod 44 40 = some (30, 25, 3, z0, 43) := by rw [cod, ctab_44]; rfl
theorem k44_43 : cod 44 43 = some (4, 0, 0, z0, 44) := by rw [cod, ctab_44]; rfl
theorem k44_44 : cod 44 44 = some (0, 0, 0, z0, 45) := by rw [cod, ctab_44]; rfl
theorem k44_45 : cod 44 45 = some (30, 25, 4, z0, 48) := by rw [cod, ctab_44]; rfl
theorem k44_48 : cod 44 48 = some (4, 0, 0, z0, 49) := by rw [cod, ctab_44]; rfl
theorem k44_49 : cod 44 49 = some (0, 0, 0, z0, 50) := by rw [cod, ctab_44]; rfl
theorem k44_50 : cod 44 50 = some (30, 25, 5, z0, 53) := by rw [cod, ctab_44]; rfl
theorem k44_53 : cod 44 53 = some (4, 0, 0, z0, 54) := by rw [cod, ctab_44]; rfl
theorem k44_54 : cod 44 54 = some (0, 0, 0, z0, 55) := by rw [cod, ctab_44]; rfl
theorem k44_55 : cod 44 55 = some (30, 25, 6, z0, 58) := by rw [cod, ctab_44]; rfl
theorem k44_58 : cod 44 58 = some (35, 0, 0, z0, 59) := by rw [cod, ctab_44]; rfl
theorem ctab_45 : ctab.getD 45 [] = cd45 := rfl
theorem k45_0 : cod 45 0 = some (4, 1, 0, z0, 1) := by rw [cod, ctab_45]; rfl
theorem k45_1 : cod 45 1 = some (29, 25, 0, z0, 4) := by rw [cod, ctab_45]; rfl
theorem k45_4 : cod 45 4 = some (0, 0, 0, z0, 5) := by rw [cod, ctab_45]; rfl
theorem k45_5 : cod 45 5 = some (4, 0, 0, z0, 6) := by rw [cod, ctab_45]; rfl
theorem k45_6 : cod 45 6 = some (29, 25, 0, z0, 9) := by rw [cod, ctab_45]; rfl
theorem k45_9 : cod 45 9 = some (0, 0, 0, z0, 10) := by rw [cod, ctab_45]; rfl
theorem k45_10 : cod 45 10 = some (0, 0, 0, vi (6), 12) := by rw [cod, ctab_45]; rfl
theorem k45_12 : cod 45 12 = some (46, 0, 0, z0, 15) := by rw [cod, ctab_45]; rfl
theorem k45_15 : cod 45 15 = some (4, 1, 0, z0, 16) := by rw [cod, ctab_45]; rfl
theorem k45_16 : cod 45 16 = some (29, 25, 1, z0, 19) := by rw [cod, ctab_45]; rfl
theorem k45_19 : cod 45 19 = some (0, 0, 0, z0, 20) := by rw [cod, ctab_45]; rfl
theorem k45_20 : cod 45 20 = some (4, 0, 0, z0, 21) := by rw [cod, ctab_45]; rfl
theorem k45_21 : cod 45 21 = some (29, 25, 1, z0, 24) := by rw [cod, ctab_45]; rfl
theorem k45_24 : cod 45 24 = some (0, 0, 0, z0, 25) := by rw [cod, ctab_45]; rfl
theorem k45_25 : cod 45 25 = some (0, 0, 0, vi (6), 27) := by rw [cod, ctab_45]; rfl
theorem k45_27 : cod 45 27 = some (46, 0, 0, z0, 30) := by rw [cod, ctab_45]; rfl
theorem k45_30 : cod 45 30 = some (4, 1, 0, z0, 31) := by rw [cod, ctab_45]; rfl
theorem k45_31 : cod 45 31 = some (29, 25, 2, z0, 34) := by rw [cod, ctab_45]; rfl
theorem k45_34 : cod 45 34 = some (0, 0, 0, z0, 35) := by rw [cod, ctab_45]; rfl
theorem k45_35 : cod 45 35 = some (4, 0, 0, z0, 36) := by rw [cod, ctab_45]; rfl
theorem k45_36 : cod 45 36 = some (29, 25, 2, z0, 39) := by rw [cod, ctab_45]; rfl
theorem k45_39 : cod 45 39 = some (0, 0, 0, z0, 40) := by rw [cod, ctab_45]; rfl
theorem k45_40 : cod 45 40 = some (0, 0, 0, vi (36), 42) := by rw [cod, ctab_45]; rfl
theorem k45_42 : cod 45 42 = some (46, 0, 0, z0, 45) := by rw [cod, ctab_45]; rfl
theorem k45_45 : cod 45 45 = some (4, 0, 0, z0, 46) := by rw [cod, ctab_45]; rfl
theorem k45_46 : cod 45 46 = some (4, 1, 0, z0, 47) := by rw [cod, ctab_45]; rfl
theorem k45_47 : cod 45 47 = some (29, 25, 3, z0, 50) := by rw [cod, ctab_45]; rfl
theorem k45_50 : cod 45 50 = some (30, 25, 3, z0, 53) := by rw [cod, ctab_45]; rfl
theorem k45_53 : cod 45 53 = some (4, 0, 0, z0, 54) := by rw [cod, ctab_45]; rfl
theorem k45_54 : cod 45 54 = some (4, 1, 0, z0, 55) := by rw [cod, ctab_45]; rfl
theorem k45_55 : cod 45 55 = some (29, 25, 4, z0, 58) := by rw [cod, ctab_45]; rfl
theorem k45_58 : cod 45 58 = some (30, 25, 4, z0, 61) := by rw [cod, ctab_45]; rfl
theorem k45_61 : cod 45 61 = some (4, 0, 0, z0, 62) := by rw [cod, ctab_45]; rfl
theorem k45_62 : cod 45 62 = some (4, 1, 0, z0, 63) := by rw [cod, ctab_45]; rfl
theorem k45_63 : cod 45 63 = some (29, 25, 5, z0, 66) := by rw [cod, ctab_45]; rfl
theorem k45_66 : cod 45 66 = some (30, 25, 5, z0, 69) := by rw [cod, ctab_45]; rfl
theorem k45_69 : cod 45 69 = some (4, 0, 0, z0, 70) := by rw [cod, ctab_45]; rfl
theorem k45_70 : cod 45 70 = some (4, 1, 0, z0, 71) := by rw [cod, ctab_45]; rfl
theorem k45_71 : cod 45 71 = some (29, 25, 6, z0, 74) := by rw [cod, ctab_45]; rfl
theorem k45_74 : cod 45 74 = some (30, 25, 6, z0, 77) := by rw [cod, ctab_45]; rfl
theorem k45_77 : cod 45 77 = some (35, 0, 0, z0, 78) := by rw [cod, ctab_45]; rfl
theorem ctab_46 : ctab.getD 46 [] = cd46 := rfl
theorem k46_0 : cod 46 0 = some (4, 0, 0, z0, 1) := by rw [cod, ctab_46]; rfl
theorem k46_1 : cod 46 1 = some (29, 25, 3, z0, 4) := by rw [cod, ctab_46]; rfl
theorem k46_4 : cod 46 4 = some (2, 1, 0, z0, 5) := by rw [cod, ctab_46]; rfl
theorem k46_5 : cod 46 5 = some (9, 7, 0, z0, 6) := by rw [cod, ctab_46]; rfl
theorem k46_6 : cod 46 6 = some (0, 0, 0, vi (1), 7) := by rw [cod, ctab_46]; rfl
theorem k46_7 : cod 46 7 = some (9, 3, 0, z0, 8) := by rw [cod, ctab_46]; rfl
theorem k46_8 : cod 46 8 = some (27, 0, 15, z0, 11) := by rw [cod, ctab_46]; rfl
theorem k46_11 : cod 46 11 = some (0, 0, 0, vi (1), 12) := by rw [cod, ctab_46]; rfl
theorem k46_12 : cod 46 12 = some (26, 16, 0, z0, 15) := by rw [cod, ctab_46]; rfl
theorem k46_15 : cod 46 15 = some (0, 0, 0, z0, 16) := by rw [cod, ctab_46]; rfl
theorem k46_16 : cod 46 16 = some (36, 2, 0, z0, 17) := by rw [cod, ctab_46]; rfl
theorem ctab_47 : ctab.getD 47 [] = cd47 := rfl
theorem k47_0 : cod 47 0 = some (4, 0, 0, z0, 1) := by rw [cod, ctab_47]; rfl
theorem k47_1 : cod 47 1 = some (29, 25, 1, z0, 4) := by rw [cod, ctab_47]; rfl
theorem k47_4 : cod 47 4 = some (2, 1, 0, z0, 5) := by rw [cod, ctab_47]; rfl
theorem k47_5 : cod 47 5 = some (31, 1, 0, z0, 6) := by rw [cod, ctab_47]; rfl
theorem k47_6 : cod 47 6 = some (27, 0, 17, z0, 9) := by rw [cod, ctab_47]; rfl
theorem k47_9 : cod 47 9 = some (4, 0, 0, z0, 10) := by rw [cod, ctab_47]; rfl
theorem k47_10 : cod 47 10 = some (2, 1, 0, z0, 11) := by rw [cod, ctab_47]; rfl
theorem k47_11 : cod 47 11 = some (34, 46, 2, vr 25 0, 14) := by rw [cod, ctab_47]; rfl
theorem k47_14 : cod 47 14 = some (27, 0, 21, z0, 17) := by rw [cod, ctab_47]; rfl
theorem k47_17 : cod 47 17 = some (0, 0, 0, vi (1), 18) := by rw [cod, ctab_47]; rfl
theorem k47_18 : cod 47 18 = some (26, 22, 0, z0, 21) := by rw [cod, ctab_47]; rfl
theorem k47_21 : cod 47 21 = some (0, 0, 0, z0, 22) := by rw [cod, ctab_47]; rfl
theorem k47_22 : cod 47 22 = some (36, 2, 0, z0, 23) := by rw [cod, ctab_47]; rfl
theorem ctab_48 : ctab.getD 48 [] = cd48 := rfl
theorem k48_0 : cod 48 0 = some (0, 0, 0, z0, 1) := by rw [cod, ctab_48]; rfl
theorem k48_1 : cod 48 1 = some (5, 2, 0, z0, 2) := by rw [cod, ctab_48]; rfl
theorem k48_2 : cod 48 2 = some (0, 0, 0, z0, 3) := by rw [cod, ctab_48]; rfl
theorem k48_3 : cod 48 3 = some (5, 3, 0, z0, 4) := by rw [cod, ctab_48]; rfl
theorem k48_4 : cod 48 4 = some (2, 3, 0, z0, 5) := by rw [cod, ctab_48]; rfl
theorem k48_5 : cod 48 5 = some (4, 1, 0, z0, 6) := by rw [cod, ctab_48]; rfl
theorem k48_6 : cod 48 6 = some (29, 9, 10, z0, 9) := by rw [cod, ctab_48]; rfl
theorem k48_9 : cod 48 9 = some (28, 3, 32, z0, 12) := by rw [cod, ctab_48]; rfl
theorem k48_12 : cod 48 12 = some (4, 0, 0, z0, 13) := by rw [cod, ctab_48]; rfl
theorem k48_13 : cod 48 13 = some (2, 3, 0, z0, 14) := by rw [cod, ctab_48]; rfl
theorem k48_14 : cod 48 14 = some (34, 47, 2, vr 25 0, 17) := by rw [cod, ctab_48]; rfl
theorem k48_17 : cod 48 17 = some (27, 0, 26, z0, 20) := by rw [cod, ctab_48]; rfl
theorem k48_20 : cod 48 20 = some (2, 2, 0, z0, 21) := by rw [cod, ctab_48]; rfl
theorem k48_21 : cod 48 21 = some (0, 0, 0, vi (1), 22) := by rw [cod, ctab_48]; rfl
theorem k48_22 : cod 48 22 = some (2, 3, 0, z0, 23) := by rw [cod, ctab_48]; rfl
theorem k48_23 : cod 48 23 = some (9, 6, 0, z0, 24) := by rw [cod, ctab_48]; rfl
theorem k48_24 : cod 48 24 = some (9, 4, 0, z0, 25) := by rw [cod, ctab_48]; rfl
theorem k48_25 : cod 48 25 = some (5, 2, 0, z0, 26) := by rw [cod, ctab_48]; rfl
theorem k48_26 : cod 48 26 = some (8, 3, 0, vi (1), 29) := by rw [cod, ctab_48]; rfl
theorem k48_29 : cod 48 29 = some (26, 4, 0, z0, 32) := by rw [cod, ctab_48]; rfl
theorem k48_32 : cod 48 32 = some (2, 2, 0, z0, 33) := by rw [cod, ctab_48]; rfl
theorem k48_33 : cod 48 33 = some (36, 1, 0, z0, 34) := by rw [cod, ctab_48]; rfl
theorem ctab_49 : ctab.getD 49 [] = cd49 := rfl
theorem k49_0 : cod 49 0 = some (0, 0, 0, z0, 1) := by rw [cod, ctab_49]; rfl
theorem k49_1 : cod 49 1 = some (5, 2, 0, z0, 2) := by rw [cod, ctab_49]; rfl
theorem k49_2 : cod 49 2 = some (0, 0, 0, z0, 3) := by rw [cod, ctab_49]; rfl
theorem k49_3 : cod 49 3 = some (5, 3, 0, z0, 4) := by rw [cod, ctab_49]; rfl
theorem k49_4 : cod 49 4 = some (2, 3, 0, z0, 5) := by rw [cod, ctab_49]; rfl
theorem k49_5 : cod 49 5 = some (4, 1, 0, z0, 6) := by rw [cod, ctab_49]; rfl
theorem k49_6 : cod 49 6 = some (29, 9, 10, z0, 9) := by rw [cod, ctab_49]; rfl
theorem k49_9 : cod 49 9 = some (28, 3, 27, z0, 12) := by rw [cod, ctab_49]; rfl
theorem k49_12 : cod 49 12 = some (2, 2, 0, z0, 13) := by rw [cod, ctab_49]; rfl
theorem k49_13 : cod 49 13 = some (4, 0, 0, z0, 14) := by rw [cod, ctab_49]; rfl
theorem k49_14 : cod 49 14 = some (29, 25, 1, z0, 17) := by rw [cod, ctab_49]; rfl
theorem k49_17 : cod 49 17 = some (2, 3, 0, z0, 18) := by rw [cod, ctab_49]; rfl
theorem k49_18 : cod 49 18 = some (31, 1, 0, z0, 19) := by rw [cod, ctab_49]; rfl
theorem k49_19 : cod 49 19 = some (9, 0, 0, z0, 20) := by rw [cod, ctab_49]; rfl
theorem k49_20 : cod 49 20 = some (5, 2, 0, z0, 21) := by rw [cod, ctab_49]; rfl
theorem k49_21 : cod 49 21 = some (8, 3, 0, vi (1), 24) := by rw [cod, ctab_49]; rfl
theorem k49_24 : cod 49 24 = some (26, 4, 0, z0, 27) := by rw [cod, ctab_49]; rfl
theorem k49_27 : cod 49 27 = some (2, 2, 0, z0, 28) := by rw [cod, ctab_49]; rfl
theorem k49_28 : cod 49 28 = some (36, 1, 0, z0, 29) := by rw [cod, ctab_49]; rfl
theorem ctab_50 : ctab.getD 50 [] = cd50 := rfl
theorem k50_0 : cod 50 0 = some (4, 0, 0, z0, 1) := by rw [cod, ctab_50]; rfl
theorem k50_1 : cod 50 1 = some (29, 25, 2, z0, 4) := by rw [cod, ctab_50]; rfl
theorem k50_4 : cod 50 4 = some (2, 1, 0, z0, 5) := by rw [cod, ctab_50]; rfl
theorem k50_5 : cod 50 5 = some (0, 0, 0, vi (6), 7) := by rw [cod, ctab_50]; rfl
theorem k50_7 : cod 50 7 = some (9, 2, 0, z0, 8) := by rw [cod, ctab_50]; rfl
theorem k50_8 : cod 50 8 = some (2, 2, 0, z0, 9) := by rw [cod, ctab_50]; rfl
theorem k50_9 : cod 50 9 = some (9, 0, 0, z0, 10) := by rw [cod, ctab_50]; rfl
theorem k50_10 : cod 50 10 = some (31, 1, 0, z0, 11) := by rw [cod, ctab_50]; rfl
theorem k50_11 : cod 50 11 = some (4, 0, 0, z0, 12) := by rw [cod, ctab_50]; rfl
theorem k50_12 : cod 50 12 = some (29, 25, 2, z0, 15) := by rw [cod, ctab_50]; rfl
theorem k50_15 : cod 50 15 = some (2, 2, 0, z0, 16) := by rw [cod, ctab_50]; rfl
theorem k50_16 : cod 50 16 = some (0, 0, 0, vi (6), 18) := by rw [cod, ctab_50]; rfl
theorem k50_18 : cod 50 18 = some (9, 2, 0, z0, 19) := by rw [cod, ctab_50]; rfl
theorem k50_19 : cod 50 19 = some (2, 1, 0, z0, 20) := by rw [cod, ctab_50]; rfl
theorem k50_20 : cod 50 20 = some (9, 0, 0, z0, 21) := by rw [cod, ctab_50]; rfl
theorem k50_21 : cod 50 21 = some (31, 1, 0, z0, 22) := by rw [cod, ctab_50]; rfl
theorem k50_22 : cod 50 22 = some (9, 0, 0, z0, 23) := by rw [cod, ctab_50]; rfl
theorem k50_23 : cod 50 23 = some (36, 1, 0, z0, 24) := by rw [cod, ctab_50]; rfl
theorem ctab_51 : ctab.getD 51 [] = cd51 := rfl
theorem k51_0 : cod 51 0 = some (2, 2, 0, z0, 1) := by rw [cod, ctab_51]; rfl
theorem k51_1 : cod 51 1 = some (2, 3, 0, z0, 2) := by rw [cod, ctab_51]; rfl
theorem k51_2 : cod 51 2 = some (28, 0, 35, z0, 5) := by rw [cod, ctab_51]; rfl
theorem k51_5 : cod 51 5 = some (4, 1, 0, z0, 6) := by rw [cod, ctab_51]; rfl
theorem k51_6 : cod 51 6 = some (29, 9, 6, z0, 9) := by rw [cod, ctab_51]; rfl
theorem k51_9 : cod 51 9 = some (2, 2, 0, z0, 10) := by rw [cod, ctab_51]; rfl
theorem k51_10 : cod 51 10 = some (31, 1, 0, z0, 11) := by rw [cod, ctab_51]; rfl
theorem k51_11 : cod 51 11 = some (2, 3, 0, z0, 12) := by rw [cod, ctab_51]; rfl
theorem k51_12 : cod 51 12 = some (9, 7, 0, z0, 13) := by rw [cod, ctab_51]; rfl
theorem k51_13 : cod 51 13 = some (0, 0, 0, vi (1), 14) := by rw [cod, ctab_51]; rfl
theorem k51_14 : cod 51 14 = some (9, 3, 0, z0, 15) := by rw [cod, ctab_51]; rfl
theorem k51_15 : cod 51 15 = some (27, 1, 35, z0, 18) := by rw [cod, ctab_51]; rfl
theorem k51_18 : cod 51 18 = some (4, 0, 0, z0, 19) := by rw [cod, ctab_51]; rfl
theorem k51_19 : cod 51 19 = some (2, 2, 0, z0, 20) := by rw [cod, ctab_51]; rfl
theorem k51_20 : cod 51 20 = some (2, 3, 0, z0, 21) := by rw [cod, ctab_51]; rfl
theorem k51_21 : cod 51 21 = some (34, 50, 3, vr 25 0, 24) := by rw [cod, ctab_51]; rfl
theorem k51_24 : cod 51 24 = some (4, 1, 0, z0, 25) := by rw [cod, ctab_51]; rfl
theorem k51_25 : cod 51 25 = some (29, 9, 11, z0, 28) := by rw [cod, ctab_51]; rfl
theorem k51_28 : cod 51 28 = some (28, 3, 35, z0, 31) := by rw [cod, ctab_51]; rfl
theorem k51_31 : cod 51 31 = some (0, 0, 0, vi (1), 32) := by rw [cod, ctab_51]; rfl
theorem k51_32 : cod 51 32 = some (26, 36, 0, z0, 35) := by rw [cod, ctab_51]; rfl
theorem k51_35 : cod 51 35 = some (0, 0, 0, z0, 36) := by rw [cod, ctab_51]; rfl
theorem k51_36 : cod 51 36 = some (36, 2, 0, z0, 37) := by rw [cod, ctab_51]; rfl
theorem ctab_52 : ctab.getD 52 [] = cd52 := rfl
theorem k52_0 : cod 52 0 = some (0, 0, 0, z0, 1) := by rw [cod, ctab_52]; rfl
theorem k52_1 : cod 52 1 = some (5, 3, 0, z0, 2) := by rw [cod, ctab_52]; rfl
theorem k52_2 : cod 52 2 = some (0, 0, 0, z0, 3) := by rw [cod, ctab_52]; rfl
theorem k52_3 : cod 52 3 = some (5, 4, 0, z0, 5) := by rw [cod, ctab_52]; rfl
theorem k52_5 : cod 52 5 = some (2, 4, 0, z0, 7) := by rw [cod, ctab_52]; rfl
theorem k52_7 : cod 52 7 = some (4, 1, 0, z0, 8) := by rw [cod, ctab_52]; rfl
theorem k52_8 : cod 52 8 = some (29, 9, 10, z0, 11) := by rw [cod, ctab_52]; rfl
theorem k52_11 : cod 52 11 = some (28, 3, 38, z0, 14) := by rw [cod, ctab_52]; rfl
theorem k52_14 : cod 52 14 = some (4, 0, 0, z0, 15) := by rw [cod, ctab_52]; rfl
theorem k52_15 : cod 52 15 = some (4, 1, 0, z0, 16) := by rw [cod, ctab_52]; rfl
theorem k52_16 : cod 52 16 = some (2, 2, 0, z0, 17) := by rw [cod, ctab_52]; rfl
theorem k52_17 : cod 52 17 = some (2, 4, 0, z0, 19) := by rw [cod, ctab_52]; rfl
theorem k52_19 : cod 52 19 = some (34, 51, 4, vr 25 0, 22) := by rw [cod, ctab_52]; rfl
theorem k52_22 : cod 52 22 = some (27, 0, 32, z0, 25) := by rw [cod, ctab_52]; rfl
theorem k52_25 : cod 52 25 = some (2, 3, 0, z0, 26) := by rw [cod, ctab_52]; rfl
theorem k52_26 : cod 52 26 = some (0, 0, 0, vi (1), 27) := by rw [cod, ctab_52]; rfl
theorem k52_27 : cod 52 27 = some (2, 4, 0, z0, 29) := by rw [cod, ctab_52]; rfl
theorem k52_29 : cod 52 29 = some (9, 6, 0, z0, 30) := by rw [cod, ctab_52]; rfl
theorem k52_30 : cod 52 30 = some (9, 4, 0, z0, 31) := by rw [cod, ctab_52]; rfl
theorem k52_31 : cod 52 31 = some (5, 3, 0, z0, 32) := by rw [cod, ctab_52]; rfl
theorem k52_32 : cod 52 32 = some (8, 4, 0, vi (1), 35) := by rw [cod, ctab_52]; rfl
theorem k52_35 : cod 52 35 = some (26, 5, 0, z0, 38) := by rw [cod, ctab_52]; rfl
theorem k52_38 : cod 52 38 = some (2, 3, 0, z0, 39) := by rw [cod, ctab_52]; rfl
theorem k52_39 : cod 52 39 = some (36, 1, 0, z0, 40) := by rw [cod, ctab_52]; rfl
theorem ctab_53 : ctab.getD 53 [] = cd53 := rfl
theorem k53_0 : cod 53 0 = some (0, 0, 0, z0, 1) := by rw [cod, ctab_53]; rfl
theorem k53_1 : cod 53 1 = some (5, 4, 0, z0, 3) := by rw [cod, ctab_53]; rfl
theorem k53_3 : cod 53 3 = some (0, 0, 0, z0, 4) := by rw [cod, ctab_53]; rfl
theorem k53_4 : cod 53 4 = some (5, 5, 0, z0, 6) := by rw [cod, ctab_53]; rfl
theorem k53_6 : cod 53 6 = some (2, 5, 0, z0, 8) := by rw [cod, ctab_53]; rfl
theorem k53_8 : cod 53 8 = some (4, 1, 0, z0, 9) := by rw [cod, ctab_53]; rfl
theorem k53_9 : cod 53 9 = some (29, 9, 10, z0, 12) := by rw [cod, ctab_53]; rfl
theorem k53_12 : cod 53 12 = some (28, 3, 72, z0, 15) := by rw [cod, ctab_53]; rfl
theorem k53_15 : cod 53 15 = some (4, 0, 0, z0, 16) := by rw [cod, ctab_53]; rfl
theorem k53_16 : cod 53 16 = some (29, 25, 0, z0, 19) := by rw [cod, ctab_53]; rfl
theorem k53_19 : cod 53 19 = some (2, 5, 0, z0, 21) := by rw [cod, ctab_53]; rfl
theorem k53_21 : cod 53 21 = some (31, 1, 0, z0, 22) := by rw [cod, ctab_53]; rfl
theorem k53_22 : cod 53 22 = some (2, 3, 0, z0, 23) := by rw [cod, ctab_53]; rfl
theorem k53_23 : cod 53 23 = some (28, 1, 66, z0, 26) := by rw [cod, ctab_53]; rfl
theorem k53_26 : cod 53 26 = some (4, 1, 0, z0, 27) := by rw [cod, ctab_53]; rfl
theorem k53_27 : cod 53 27 = some (29, 9, 3, z0, 30) := by rw [cod, ctab_53]; rfl
theorem k53_30 : cod 53 30 = some (2, 5, 0, z0, 32) := by rw [cod, ctab_53]; rfl
theorem k53_32 : cod 53 32 = some (31, 1, 0, z0, 33) := by rw [cod, ctab_53]; rfl
theorem k53_33 : cod 53 33 = some (0, 0, 0, vi (1), 34) := by rw [cod, ctab_53]; rfl
theorem k53_34 : cod 53 34 = some (28, 0, 66, z0, 37) := by rw [cod, ctab_53]; rfl
theorem k53_37 : cod 53 37 = some (4, 0, 0, z0, 38) := by rw [cod, ctab_53]; rfl
theorem k53_38 : cod 53 38 = some (2, 5, 0, z0, 40) := by rw [cod, ctab_53]; rfl
theorem k53_40 : cod 53 40 = some (34, 47, 2, vr 25 0, 43) := by rw [cod, ctab_53]; rfl
theorem k53_43 : cod 53 43 = some (27, 1, 66, z0, 46) := by rw [cod, ctab_53]; rfl
theorem k53_46 : cod 53 46 = some (4, 0, 0, z0, 47) := by rw [cod, ctab_53]; rfl
theorem k53_47 : cod 53 47 = some (4, 1, 0, z0, 48) := by rw [cod, ctab_53]; rfl
theorem k53_48 : cod 53 48 = some (2, 2, 0, z0, 49) := by rw [cod, ctab_53]; rfl
theorem k53_49 : cod 53 49 = some (2, 5, 0, z0, 51) := by rw [cod, ctab_53]; rfl
theorem k53_51 : cod 53 51 = some (34, 51, 4, vr 25 0, 54) := by rw [cod, ctab_53]; rfl
theorem k53_54 : cod 53 54 = some (27, 0, 66, z0, 57) := by rw [cod, ctab_53]; rfl
theorem k53_57 : cod 53 57 = some (2, 4, 0, z0, 59) := by rw [cod, ctab_53]; rfl
theorem k53_59 : cod 53 59 = some (0, 0, 0, vi (1), 60) := by rw [cod, ctab_53]; rfl
theorem k53_60 : cod 53 60 = some (2, 5, 0, z0, 62) := by rw [cod, ctab_53]; rfl
theorem k53_62 : cod 53 62 = some (9, 6, 0, z0, 63) := by rw [cod, ctab_53]; rfl
theorem k53_63 : cod 53 63 = some (9, 4, 0, z0, 64) := by rw [cod, ctab_53]; rfl
theorem k53_64 : cod 53 64 = some (5, 4, 0, z0, 66) := by rw [cod, ctab_53]; rfl
theorem k53_66 : cod 53 66 = some (8, 5, 0, vi (1), 69) := by rw [cod, ctab_53]; rfl
theorem k53_69 : cod 53 69 = some (26, 6, 0, z0, 72) := by rw [cod, ctab_53]; rfl
theorem k53_72 : cod 53 72 = some (2, 4, 0, z0, 74) := by rw [cod, ctab_53]; rfl
theorem k53_74 : cod 53 74 = some (36, 1, 0, z0, 75) := by rw [cod, ctab_53]; rfl
theorem ctab_54 : ctab.getD 54 [] = cd54 := rfl
theorem k54_0 : cod 54 0 = some (4, 0, 0, z0, 1) := by rw [cod, ctab_54]; rfl
theorem k54_1 : cod 54 1 = some (2, 2, 0, z0, 2) := by rw [cod, ctab_54]; rfl
theorem k54_2 : cod 54 2 = some (34, 47, 2, vr 25 0, 5) := by rw [cod, ctab_54]; rfl
theorem k54_5 : cod 54 5 = some (27, 1, 30, z0, 8) := by rw [cod, ctab_54]; rfl
theorem k54_8 : cod 54 8 = some (4, 1, 0, z0, 9) := by rw [cod, ctab_54]; rfl
theorem k54_9 : cod 54 9 = some (29, 9, 1, z0, 12) := by rw [cod, ctab_54]; rfl
theorem k54_12 : cod 54 12 = some (4, 0, 0, z0, 13) := by rw [cod, ctab_54]; rfl
theorem k54_13 : cod 54 13 = some (29, 25, 0, z0, 16) := by rw [cod, ctab_54]; rfl
theorem k54_16 : cod 54 16 = some (2, 2, 0, z0, 17) := by rw [cod, ctab_54]; rfl
theorem k54_17 : cod 54 17 = some (31, 1, 0, z0, 18) := by rw [cod, ctab_54]; rfl
theorem k54_18 : cod 54 18 = some (31, 1, 0, z0, 19) := by rw [cod, ctab_54]; rfl
theorem k54_19 : cod 54 19 = some (2, 3, 0, z0, 20) := by rw [cod, ctab_54]; rfl
theorem k54_20 : cod 54 20 = some (9, 7, 0, z0, 21) := by rw [cod, ctab_54]; rfl
theorem k54_21 : cod 54 21 = some (0, 0, 0, vi (1), 22) := by rw [cod, ctab_54]; rfl
theorem k54_22 : cod 54 22 = some (9, 3, 0, z0, 23) := by rw [cod, ctab_54]; rfl
theorem k54_23 : cod 54 23 = some (27, 0, 30, z0, 26) := by rw [cod, ctab_54]; rfl
theorem k54_26 : cod 54 26 = some (0, 0, 0, vi (1), 27) := by rw [cod, ctab_54]; rfl
theorem k54_27 : cod 54 27 = some (26, 31, 0, z0, 30) := by rw [cod, ctab_54]; rfl
theorem k54_30 : cod 54 30 = some (0, 0, 0, z0, 31) := by rw [cod, ctab_54]; rfl
theorem k54_31 : cod 54 31 = some (36, 2, 0, z0, 32) := by rw [cod, ctab_54]; rfl
theorem ctab_55 : ctab.getD 55 [] = cd55 := rfl
theorem k55_0 : cod 55 0 = some (4, 0, 0, z0, 1) := by rw [cod, ctab_55]; rfl
theorem k55_1 : cod 55 1 = some (4, 1, 0, z0, 2) := by rw [cod, ctab_55]; rfl
theorem k55_2 : cod 55 2 = some (2, 2, 0, z0, 3) := by rw [cod, ctab_55]; rfl
theorem k55_3 : cod 55 3 = some (2, 3, 0, z0, 4) := by rw [cod, ctab_55]; rfl
theorem k55_4 : cod 55 4 = some (34, 54, 4, vr 25 0, 7) := by rw [cod, ctab_55]; rfl
theorem k55_7 : cod 55 7 = some (27, 1, 12, z0, 10) := by rw [cod, ctab_55]; rfl
theorem k55_10 : cod 55 10 = some (0, 0, 0, z0, 11) := by rw [cod, ctab_55]; rfl
theorem k55_11 : cod 55 11 = some (36, 2, 0, z0, 12) := by rw [cod, ctab_55]; rfl
theorem k55_12 : cod 55 12 = some (4, 0, 0, z0, 13) := by rw [cod, ctab_55]; rfl
theorem k55_13 : cod 55 13 = some (29, 25, 0, z0, 16) := by rw [cod, ctab_55]; rfl
theorem k55_16 : cod 55 16 = some (2, 2, 0, z0, 17) := by rw [cod, ctab_55]; rfl
theorem k55_17 : cod 55 17 = some (2, 3, 0, z0, 18) := by rw [cod, ctab_55]; rfl
theorem k55_18 : cod 55 18 = some (32, 1, 0, z0, 19) := by rw [cod, ctab_55]; rfl
theorem k55_19 : cod 55 19 = some (0, 0, 0, vi (1), 20) := by rw [cod, ctab_55]; rfl
theorem k55_20 : cod 55 20 = some (36, 2, 0, z0, 21) := by rw [cod, ctab_55]; rfl
theorem ctab_56 : ctab.getD 56 [] = cd56 := rfl
theorem k56_0 : cod 56 0 = some (4, 0, 0, z0, 1) := by rw [cod, ctab_56]; rfl
theorem k56_1 : cod 56 1 = some (29, 25, 0, z0, 4) := by rw [cod, ctab_56]; rfl
theorem k56_4 : cod 56 4 = some (2, 2, 0, z0, 5) := by rw [cod, ctab_56]; rfl
theorem k56_5 : cod 56 5 = some (31, 1, 0, z0, 6) := by rw [cod, ctab_56]; rfl
theorem k56_6 : cod 56 6 = some (4, 0, 0, z0, 7) := by rw [cod, ctab_56]; rfl
theorem k56_7 : cod 56 7 = some (29, 25, 0, z0, 10) := by rw [cod, ctab_56]; rfl
theorem k56_10 : cod 56 10 = some (2, 3, 0, z0, 11) := by rw [cod, ctab_56]; rfl
theorem k56_11 : cod 56 11 = some (31, 1, 0, z0, 12) := by rw [cod, ctab_56]; rfl
theorem k56_12 : cod 56 12 = some (28, 1, 65, z0, 15) := by rw [cod, ctab_56]; rfl
theorem k56_15 : cod 56 15 = some (4, 1, 0, z0, 16) := by rw [cod, ctab_56]; rfl
theorem k56_16 : cod 56 16 = some (29, 9, 3, z0, 19) := by rw [cod, ctab_56]; rfl
theorem k56_19 : cod 56 19 = some (2, 2, 0, z0, 20) := by rw [cod, ctab_56]; rfl
theorem k56_20 : cod 56 20 = some (31, 1, 0, z0, 21) := by rw [cod, ctab_56]; rfl
theorem k56_21 : cod 56 21 = some (0, 0, 0, vi (1), 22) := by rw [cod, ctab_56]; rfl
theorem k56_22 : cod 56 22 = some (28, 0, 65, z0, 25) := by rw [cod, ctab_56]; rfl
theorem k56_25 : cod 56 25 = some (4, 0, 0, z0, 26) := by rw [cod, ctab_56]; rfl
theorem k56_26 : cod 56 26 = some (2, 2, 0, z0, 27) := by rw [cod, ctab_56]; rfl
theorem k56_27 : cod 56 27 = some (34, 47, 2, vr 25 0, 30) := by rw [cod, ctab_56]; rfl
theorem k56_30 : cod 56 30 = some (27, 1, 65, z0, 33) := by rw [cod, ctab_56]; rfl
theorem k56_33 : cod 56 33 = some (4, 1, 0, z0, 34) := by rw [cod, ctab_56]; rfl
theorem k56_34 : cod 56 34 = some (29, 9, 3, z0, 37) := by rw [cod, ctab_56]; rfl
theorem k56_37 : cod 56 37 = some (2, 3, 0, z0, 38) := by rw [cod, ctab_56]; rfl
theorem k56_38 : cod 56 38 = some (31, 1, 0, z0, 39) := by rw [cod, ctab_56]; rfl
theorem k56_39 : cod 56 39 = some (0, 0, 0, vi (3), 40) := by rw [cod, ctab_56]; rfl
theorem k56_40 : cod 56 40 = some (28, 0, 65, z0, 43) := by rw [cod, ctab_56]; rfl
theorem k56_43 : cod 56 43 = some (4, 0, 0, z0, 44) := by rw [cod, ctab_56]; rfl
theorem k56_44 : cod 56 44 = some (2, 3, 0, z0, 45) := by rw [cod, ctab_56]; rfl
theorem k56_45 : cod 56 45 = some (34, 46, 2, vr 25 0, 48) := by rw [cod, ctab_56]; rfl
theorem k56_48 : cod 56 48 = some (27, 1, 65, z0, 51) := by rw [cod, ctab_56]; rfl
theorem k56_51 : cod 56 51 = some (4, 0, 0, z0, 52) := by rw [cod, ctab_56]; rfl
theorem k56_52 : cod 56 52 = some (4, 1, 0, z0, 53) := by rw [cod, ctab_56]; rfl
theorem k56_53 : cod 56 53 = some (2, 2, 0, z0, 54) := by rw [cod, ctab_56]; rfl
theorem k56_54 : cod 56 54 = some (2, 3, 0, z0, 55) := by rw [cod, ctab_56]; rfl
theorem k56_55 : cod 56 55 = some (34, 51, 4, vr 25 0, 58) := by rw [cod, ctab_56]; rfl
theorem k56_58 : cod 56 58 = some (27, 0, 65, z0, 61) := by rw [cod, ctab_56]; rfl
theorem k56_61 : cod 56 61 = some (0, 0, 0, vi (1), 62) := by rw [cod, ctab_56]; rfl
theorem k56_62 : cod 56 62 = some (26, 66, 0, z0, 65) := by rw [cod, ctab_56]; rfl
theorem k56_65 : cod 56 65 = some (0, 0, 0, z0, 66) := by rw [cod, ctab_56]; rfl
theorem k56_66 : cod 56 66 = some (36, 2, 0, z0, 67) := by rw [cod, ctab_56]; rfl
theorem ctab_57 : ctab.getD 57 [] = cd57 := rfl
theorem k57_0 : cod 57 0 = some (0, 0, 0, z0, 1) := by rw [cod, ctab_57]; rfl
theorem k57_1 : cod 57 1 = some (5, 4, 0, z0, 3) := by rw [cod, ctab_57]; rfl
theorem k57_3 : cod 57 3 = some (0, 0, 0, z0, 4) := by rw [cod, ctab_57]; rfl
theorem k57_4 : cod 57 4 = some (5, 5, 0, z0, 6) := by rw [cod, ctab_57]; rfl
theorem k57_6 : cod 57 6 = some (2, 5, 0, z0, 8) := by rw [cod, ctab_57]; rfl
theorem k57_8 : cod 57 8 = some (4, 1, 0, z0, 9) := by rw [cod, ctab_57]; rfl
theorem k57_9 : cod 57 9 = some (29, 9, 10, z0, 12) := by rw [cod, ctab_57]; rfl
theorem k57_12 : cod 57 12 = some (28, 3, 52, z0, 15) := by rw [cod, ctab_57]; rfl
theorem k57_15 : cod 57 15 = some (2, 5, 0, z0, 17) := by rw [cod, ctab_57]; rfl
theorem k57_17 : cod 57 17 = some (2, 2, 0, z0, 18) := by rw [cod, ctab_57]; rfl
theorem k57_18 : cod 57 18 = some (28, 0, 46, z0, 21) := by rw [cod, ctab_57]; rfl
theorem k57_21 : cod 57 21 = some (2, 5, 0, z0, 23) := by rw [cod, ctab_57]; rfl
theorem k57_23 : cod 57 23 = some (2, 3, 0, z0, 24) := by rw [cod, ctab_57]; rfl
theorem k57_24 : cod 57 24 = some (28, 0, 46, z0, 27) := by rw [cod, ctab_57]; rfl
theorem k57_27 : cod 57 27 = some (4, 0, 0, z0, 28) := by rw [cod, ctab_57]; rfl
theorem k57_28 : cod 57 28 = some (29, 25, 0, z0, 31) := by rw [cod, ctab_57]; rfl
theorem k57_31 : cod 57 31 = some (2, 5, 0, z0, 33) := by rw [cod, ctab_57]; rfl
theorem k57_33 : cod 57 33 = some (31, 1, 0, z0, 34) := by rw [cod, ctab_57]; rfl
theorem k57_34 : cod 57 34 = some (4, 0, 0, z0, 35) := by rw [cod, ctab_57]; rfl
theorem k57_35 : cod 57 35 = some (29, 25, 0, z0, 38) := by rw [cod, ctab_57]; rfl
theorem k57_38 : cod 57 38 = some (2, 3, 0, z0, 39) := by rw [cod, ctab_57]; rfl
theorem k57_39 : cod 57 39 = some (31, 1, 0, z0, 40) := by rw [cod, ctab_57]; rfl
theorem k57_40 : cod 57 40 = some (28, 1, 46, z0, 43) := by rw [cod, ctab_57]; rfl
theorem k57_43 : cod 57 43 = some (8, 4, 0, vi (1), 46) := by rw [cod, ctab_57]; rfl
theorem k57_46 : cod 57 46 = some (8, 5, 0, vi (1), 49) := by rw [cod, ctab_57]; rfl
theorem k57_49 : cod 57 49 = some (26, 6, 0, z0, 52) := by rw [cod, ctab_57]; rfl
theorem k57_52 : cod 57 52 = some (2, 4, 0, z0, 54) := by rw [cod, ctab_57]; rfl
theorem k57_54 : cod 57 54 = some (36, 1, 0, z0, 55) := by rw [cod, ctab_57]; rfl
theorem ctab_58 : ctab.getD 58 [] = cd58 := rfl
theorem k58_0 : cod 58 0 = some (4, 1, 0, z0, 1) := by rw [cod, ctab_58]; rfl
theorem k58_1 : cod 58 1 = some (2, 4, 0, z0, 3) := by rw [cod, ctab_58]; rfl
theorem k58_3 : cod 58 3 = some (4, 0, 0, z0, 4) := by rw [cod, ctab_58]; rfl
theorem k58_4 : cod 58 4 = some (29, 25, 1, z0, 7) := by rw [cod, ctab_58]; rfl
theorem k58_7 : cod 58 7 = some (2, 2, 0, z0, 8) := by rw [cod, ctab_58]; rfl
theorem k58_8 : cod 58 8 = some (31, 1, 0, z0, 9) := by rw [cod, ctab_58]; rfl
theorem k58_9 : cod 58 9 = some (4, 0, 0, z0, 10) := by rw [cod, ctab_58]; rfl
theorem k58_10 : cod 58 10 = some (2, 2, 0, z0, 11) := by rw [cod, ctab_58]; rfl
theorem k58_11 : cod 58 11 = some (2, 3, 0, z0, 12) := by rw [cod, ctab_58]; rfl
theorem k58_12 : cod 58 12 = some (34, 50, 3, vr 25 0, 15) := by rw [cod, ctab_58]; rfl
theorem k58_15 : cod 58 15 = some (4, 0, 0, z0, 16) := by rw [cod, ctab_58]; rfl
theorem k58_16 : cod 58 16 = some (4, 1, 0, z0, 17) := by rw [cod, ctab_58]; rfl
theorem k58_17 : cod 58 17 = some (2, 2, 0, z0, 18) := by rw [cod, ctab_58]; rfl
theorem k58_18 : cod 58 18 = some (2, 3, 0, z0, 19) := by rw [cod, ctab_58]; rfl
theorem k58_19 : cod 58 19 = some (34, 57, 4, vr 25 0, 22) := by rw [cod, ctab_58]; rfl
theorem k58_22 : cod 58 22 = some (34, 7, 5, vr 9 0, 25) := by rw [cod, ctab_58]; rfl
theorem k58_25 : cod 58 25 = some (5, 5, 0, z0, 27) := by rw [cod, ctab_58]; rfl
theorem k58_27 : cod 58 27 = some (0, 0, 0, z0, 28) := by rw [cod, ctab_58]; rfl
theorem k58_28 : cod 58 28 = some (0, 0, 0, vi (40), 30) := by rw [cod, ctab_58]; rfl
theorem k58_30 : cod 58 30 = some (2, 5, 0, z0, 32) := by rw [cod, ctab_58]; rfl
theorem k58_32 : cod 58 32 = some (48, 0, 0, z0, 35) := by rw [cod, ctab_58]; rfl
theorem k58_35 : cod 58 35 = some (47, 0, 0, z0, 38) := by rw [cod, ctab_58]; rfl
theorem k58_38 : cod 58 38 = some (5, 6, 0, z0, 40) := by rw [cod, ctab_58]; rfl
theorem k58_40 : cod 58 40 = some (4, 1, 0, z0, 41) := by rw [cod, ctab_58]; rfl
theorem k58_41 : cod 58 41 = some (29, 9, 3, z0, 44) := by rw [cod, ctab_58]; rfl
theorem k58_44 : cod 58 44 = some (2, 2, 0, z0, 45) := by rw [cod, ctab_58]; rfl
theorem k58_45 : cod 58 45 = some (31, 1, 0, z0, 46) := by rw [cod, ctab_58]; rfl
theorem k58_46 : cod 58 46 = some (0, 0, 0, vi (2), 47) := by rw [cod, ctab_58]; rfl
theorem k58_47 : cod 58 47 = some (28, 1, 57, z0, 50) := by rw [cod, ctab_58]; rfl
theorem k58_50 : cod 58 50 = some (2, 6, 0, z0, 52) := by rw [cod, ctab_58]; rfl
theorem k58_52 : cod 58 52 = some (0, 0, 0, vi (2), 53) := by rw [cod, ctab_58]; rfl
theorem k58_53 : cod 58 53 = some (10, 0, 0, z0, 54) := by rw [cod, ctab_58]; rfl
theorem k58_54 : cod 58 54 = some (26, 59, 0, z0, 57) := by rw [cod, ctab_58]; rfl
theorem k58_57 : cod 58 57 = some (2, 6, 0, z0, 59) := by rw [cod, ctab_58]; rfl
theorem k58_59 : cod 58 59 = some (36, 1, 0, z0, 60) := by rw [cod, ctab_58]; rfl
theorem ctab_59 : ctab.getD 59 [] = cd59 := rfl
theorem k59_0 : cod 59 0 = some (4, 0, 0, z0, 1) := by rw [cod, ctab_59]; rfl
theorem k59_1 : cod 59 1 = some (29, 25, 1, z0, 4) := by rw [cod, ctab_59]; rfl
theorem k59_4 : cod 59 4 = some (2, 3, 0, z0, 5) := by rw [cod, ctab_59]; rfl
theorem k59_5 : cod 59 5 = some (24, 0, 0, z0, 6) := by rw [cod, ctab_59]; rfl
theorem k59_6 : cod 59 6 = some (31, 1, 0, z0, 7) := by rw [cod, ctab_59]; rfl
theorem k59_7 : cod 59 7 = some (4, 0, 0, z0, 8) := by rw [cod, ctab_59]; rfl
theorem k59_8 : cod 59 8 = some (4, 1, 0, z0, 9) := by rw [cod, ctab_59]; rfl
theorem k59_9 : cod 59 9 = some (2, 2, 0, z0, 10) := by rw [cod, ctab_59]; rfl
theorem k59_10 : cod 59 10 = some (2, 3, 0, z0, 11) := by rw [cod, ctab_59]; rfl
theorem k59_11 : cod 59 11 = some (4, 0, 0, z0, 12) := by rw [cod, ctab_59]; rfl
theorem k59_12 : cod 59 12 = some (29, 25, 1, z0, 15) := by rw [cod, ctab_59]; rfl
theorem k59_15 : cod 59 15 = some (2, 3, 0, z0, 16) := by rw [cod, ctab_59]; rfl
theorem k59_16 : cod 59 16 = some (31, 1, 0, z0, 17) := by rw [cod, ctab_59]; rfl
theorem k59_17 : cod 59 17 = some (34, 58, 5, vr 25 0, 20) := by rw [cod, ctab_59]; rfl
theorem k59_20 : cod 59 20 = some (9, 0, 0, z0, 21) := by rw [cod, ctab_59]; rfl
theorem k59_21 : cod 59 21 = some (32, 1, 0, z0, 22) := by rw [cod, ctab_59]; rfl
theorem k59_22 : cod 59 22 = some (4, 0, 0, z0, 23) := by rw [cod, ctab_59]; rfl
theorem k59_23 : cod 59 23 = some (29, 25, 1, z0, 26) := by rw [cod, ctab_59]; rfl
theorem k59_26 : cod 59 26 = some (2, 3, 0, z0, 27) := by rw [cod, ctab_59]; rfl
theorem k59_27 : cod 59 27 = some (31, 1, 0, z0, 28) := by rw [cod, ctab_59]; rfl
theorem k59_28 : cod 59 28 = some (4, 1, 0, z0, 29) := by rw [cod, ctab_59]; rfl
theorem k59_29 : cod 59 29 = some (29, 9, 12, z0, 32) := by rw [cod, ctab_59]; rfl
theorem k59_32 : cod 59 32 = some (28, 5, 64, z0, 35) := by rw [cod, ctab_59]; rfl
theorem k59_35 : cod 59 35 = some (4, 0, 0, z0, 36) := by rw [cod, ctab_59]; rfl
theorem k59_36 : cod 59 36 = some (29, 25, 1, z0, 39) := by rw [cod, ctab_59]; rfl
theorem k59_39 : cod 59 39 = some (2, 3, 0, z0, 40) := by rw [cod, ctab_59]; rfl
theorem k59_40 : cod 59 40 = some (0, 0, 0, z0, 41) := by rw [cod, ctab_59]; rfl
theorem k59_41 : cod 59 41 = some (32, 1, 0, z0, 42) := by rw [cod, ctab_59]; rfl
theorem k59_42 : cod 59 42 = some (4, 0, 0, z0, 43) := by rw [cod, ctab_59]; rfl
theorem k59_43 : cod 59 43 = some (23, 0, 0, z0, 44) := by rw [cod, ctab_59]; rfl
theorem k59_44 : cod 59 44 = some (29, 25, 3, z0, 47) := by rw [cod, ctab_59]; rfl
theorem k59_47 : cod 59 47 = some (0, 0, 0, vi (1), 48) := by rw [cod, ctab_59]; rfl
theorem k59_48 : cod 59 48 = some (2, 3, 0, z0, 49) := by rw [cod, ctab_59]; rfl
theorem k59_49 : cod 59 49 = some (9, 6, 0, z0, 50) := by rw [cod, ctab_59]; rfl
theorem k59_50 : cod 59 50 = some (9, 4, 0, z0, 51) := by rw [cod, ctab_59]; rfl
theorem k59_51 : cod 59 51 = some (30, 25, 3, z0, 54) := by rw [cod, ctab_59]; rfl
theorem k59_54 : cod 59 54 = some (4, 0, 0, z0, 55) := by rw [cod, ctab_59]; rfl
theorem k59_55 : cod 59 55 = some (23, 0, 0, z0, 56) := by rw [cod, ctab_59]; rfl
theorem k59_56 : cod 59 56 = some (29, 25, 6, z0, 59) := by rw [cod, ctab_59]; rfl
theorem k59_59 : cod 59 59 = some (0, 0, 0, vi (1), 60) := by rw [cod, ctab_59]; rfl
theorem k59_60 : cod 59 60 = some (9, 0, 0, z0, 61) := by rw [cod, ctab_59]; rfl
theorem k59_61 : cod 59 61 = some (30, 25, 6, z0, 64) := by rw [cod, ctab_59]; rfl
theorem k59_64 : cod 59 64 = some (4, 0, 0, z0, 65) := by rw [cod, ctab_59]; rfl
theorem k59_65 : cod 59 65 = some (29, 25, 2, z0, 68) := by rw [cod, ctab_59]; rfl
theorem k59_68 : cod 59 68 = some (2, 2, 0, z0, 69) := by rw [cod, ctab_59]; rfl
theorem k59_69 : cod 59 69 = some (0, 0, 0, vi (6), 71) := by rw [cod, ctab_59]; rfl
theorem k59_71 : cod 59 71 = some (9, 2, 0, z0, 72) := by rw [cod, ctab_59]; rfl
theorem k59_72 : cod 59 72 = some (2, 3, 0, z0, 73) := by rw [cod, ctab_59]; rfl
theorem k59_73 : cod 59 73 = some (9, 0, 0, z0, 74) := by rw [cod, ctab_59]; rfl
theorem k59_74 : cod 59 74 = some (24, 0, 0, z0, 75) := by rw [cod, ctab_59]; rfl
theorem k59_75 : cod 59 75 = some (31, 1, 0, z0, 76) := by rw [cod, ctab_59]; rfl
theorem k59_76 : cod 59 76 = some (0, 0, 0, vi (1), 77) := by rw [cod, ctab_59]; rfl
theorem k59_77 : cod 59 77 = some (9, 0, 0, z0, 78) := by rw [cod, ctab_59]; rfl
theorem k59_78 : cod 59 78 = some (32, 1, 0, z0, 79) := by rw [cod, ctab_59]; rfl
theorem k59_79 : cod 59 79 = some (4, 0, 0, z0, 80) := by rw [cod, ctab_59]; rfl
theorem k59_80 : cod 59 80 = some (23, 0, 0, z0, 81) := by rw [cod, ctab_59]; rfl
theorem k59_81 : cod 59 81 = some (29, 25, 5, z0, 84) := by rw [cod, ctab_59]; rfl
theorem k59_84 : cod 59 84 = some (0, 0, 0, vi (1), 85) := by rw [cod, ctab_59]; rfl
theorem k59_85 : cod 59 85 = some (9, 0, 0, z0, 86) := by rw [cod, ctab_59]; rfl
theorem k59_86 : cod 59 86 = some (30, 25, 5, z0, 89) := by rw [cod, ctab_59]; rfl
theorem k59_89 : cod 59 89 = some (35, 0, 0, z0, 90) := by rw [cod, ctab_59]; rfl
theorem ctab_60 : ctab.getD 60 [] = cd60 := rfl
theorem k60_0 : cod 60 0 = some (4, 0, 0, z0, 1) := by rw [cod, ctab_60]; rfl
theorem k60_1 : cod 60 1 = some (23, 0, 0, z0, 2) := by rw [cod, ctab_60]; rfl
theorem k60_2 : cod 60 2 = some (29, 25, 3, z0, 5) := by rw [cod, ctab_60]; rfl
theorem k60_5 : cod 60 5 = some (0, 0, 0, vi (1), 6) := by rw [cod, ctab_60]; rfl
theorem k60_6 : cod 60 6 = some (2, 1, 0, z0, 7) := by rw [cod, ctab_60]; rfl
theorem k60_7 : cod 60 7 = some (9, 6, 0, z0, 8) := by rw [cod, ctab_60]; rfl
theorem k60_8 : cod 60 8 = some (0, 0, 0, vi (-1), 9) := by rw [cod, ctab_60]; rfl
theorem k60_9 : cod 60 9 = some (9, 5, 0, z0, 10) := by rw [cod, ctab_60]; rfl
theorem k60_10 : cod 60 10 = some (9, 3, 0, z0, 11) := by rw [cod, ctab_60]; rfl
theorem k60_11 : cod 60 11 = some (30, 25, 3, z0, 14) := by rw [cod, ctab_60]; rfl
theorem k60_14 : cod 60 14 = some (4, 0, 0, z0, 15) := by rw [cod, ctab_60]; rfl
theorem k60_15 : cod 60 15 = some (29, 25, 1, z0, 18) := by rw [cod, ctab_60]; rfl
theorem k60_18 : cod 60 18 = some (2, 1, 0, z0, 19) := by rw [cod, ctab_60]; rfl
theorem k60_19 : cod 60 19 = some (0, 0, 0, vi (1), 20) := by rw [cod, ctab_60]; rfl
theorem k60_20 : cod 60 20 = some (32, 1, 0, z0, 21) := by rw [cod, ctab_60]; rfl
theorem k60_21 : cod 60 21 = some (35, 0, 0, z0, 22) := by rw [cod, ctab_60]; rfl
theorem ctab_61 : ctab.getD 61 [] = cd61 := rfl
theorem k61_0 : cod 61 0 = some (4, 0, 0, z0, 1) := by rw [cod, ctab_61]; rfl
theorem k61_1 : cod 61 1 = some (29, 25, 5, z0, 4) := by rw [cod, ctab_61]; rfl
theorem k61_4 : cod 61 4 = some (5, 2, 0, z0, 5) := by rw [cod, ctab_61]; rfl
theorem k61_5 : cod 61 5 = some (0, 0, 0, z0, 6) := by rw [cod, ctab_61]; rfl
theorem k61_6 : cod 61 6 = some (5, 3, 0, z0, 7) := by rw [cod, ctab_61]; rfl
theorem k61_7 : cod 61 7 = some (2, 3, 0, z0, 8) := by rw [cod, ctab_61]; rfl
theorem k61_8 : cod 61 8 = some (4, 1, 0, z0, 9) := by rw [cod, ctab_61]; rfl
theorem k61_9 : cod 61 9 = some (29, 9, 10, z0, 12) := by rw [cod, ctab_61]; rfl
theorem k61_12 : cod 61 12 = some (28, 3, 102, z0, 15) := by rw [cod, ctab_61]; rfl
theorem k61_15 : cod 61 15 = some (2, 3, 0, z0, 16) := by rw [cod, ctab_61]; rfl
theorem k61_16 : cod 61 16 = some (0, 0, 0, vi (1), 17) := by rw [cod, ctab_61]; rfl
theorem k61_17 : cod 61 17 = some (9, 0, 0, z0, 18) := by rw [cod, ctab_61]; rfl
theorem k61_18 : cod 61 18 = some (5, 4, 0, z0, 20) := by rw [cod, ctab_61]; rfl
theorem k61_20 : cod 61 20 = some (2, 4, 0, z0, 22) := by rw [cod, ctab_61]; rfl
theorem k61_22 : cod 61 22 = some (4, 1, 0, z0, 23) := by rw [cod, ctab_61]; rfl
theorem k61_23 : cod 61 23 = some (29, 9, 10, z0, 26) := by rw [cod, ctab_61]; rfl
theorem k61_26 : cod 61 26 = some (28, 3, 96, z0, 29) := by rw [cod, ctab_61]; rfl
theorem k61_29 : cod 61 29 = some (4, 0, 0, z0, 30) := by rw [cod, ctab_61]; rfl
theorem k61_30 : cod 61 30 = some (29, 25, 1, z0, 33) := by rw [cod, ctab_61]; rfl
theorem k61_33 : cod 61 33 = some (2, 4, 0, z0, 35) := by rw [cod, ctab_61]; rfl
theorem k61_35 : cod 61 35 = some (31, 1, 0, z0, 36) := by rw [cod, ctab_61]; rfl
theorem k61_36 : cod 61 36 = some (0, 0, 0, vi (10), 38) := by rw [cod, ctab_61]; rfl
theorem k61_38 : cod 61 38 = some (28, 3, 60, z0, 41) := by rw [cod, ctab_61]; rfl
theorem k61_41 : cod 61 41 = some (4, 0, 0, z0, 42) := by rw [cod, ctab_61]; rfl
theorem k61_42 : cod 61 42 = some (4, 1, 0, z0, 43) := by rw [cod, ctab_61]; rfl
theorem k61_43 : cod 61 43 = some (2, 3, 0, z0, 44) := by rw [cod, ctab_61]; rfl
theorem k61_44 : cod 61 44 = some (2, 4, 0, z0, 46) := by rw [cod, ctab_61]; rfl
theorem k61_46 : cod 61 46 = some (34, 56, 4, vr 25 0, 49) := by rw [cod, ctab_61]; rfl
theorem k61_49 : cod 61 49 = some (27, 0, 60, z0, 52) := by rw [cod, ctab_61]; rfl
theorem k61_52 : cod 61 52 = some (4, 0, 0, z0, 53) := by rw [cod, ctab_61]; rfl
theorem k61_53 : cod 61 53 = some (4, 1, 0, z0, 54) := by rw [cod, ctab_61]; rfl
theorem k61_54 : cod 61 54 = some (2, 3, 0, z0, 55) := by rw [cod, ctab_61]; rfl
theorem k61_55 : cod 61 55 = some (2, 4, 0, z0, 57) := by rw [cod, ctab_61]; rfl
theorem k61_57 : cod 61 57 = some (34, 59, 4, vr 25 0, 60) := by rw [cod, ctab_61]; rfl
theorem k61_60 : cod 61 60 = some (4, 0, 0, z0, 61) := by rw [cod, ctab_61]; rfl
theorem k61_61 : cod 61 61 = some (29, 25, 1, z0, 64) := by rw [cod, ctab_61]; rfl
theorem k61_64 : cod 61 64 = some (2, 3, 0, z0, 65) := by rw [cod, ctab_61]; rfl
theorem k61_65 : cod 61 65 = some (31, 1, 0, z0, 66) := by rw [cod, ctab_61]; rfl
theorem k61_66 : cod 61 66 = some (0, 0, 0, vi (10), 68) := by rw [cod, ctab_61]; rfl
theorem k61_68 : cod 61 68 = some (28, 3, 90, z0, 71) := by rw [cod, ctab_61]; rfl
theorem k61_71 : cod 61 71 = some (4, 0, 0, z0, 72) := by rw [cod, ctab_61]; rfl
theorem k61_72 : cod 61 72 = some (4, 1, 0, z0, 73) := by rw [cod, ctab_61]; rfl
theorem k61_73 : cod 61 73 = some (2, 4, 0, z0, 75) := by rw [cod, ctab_61]; rfl
theorem k61_75 : cod 61 75 = some (2, 3, 0, z0, 76) := by rw [cod, ctab_61]; rfl
theorem k61_76 : cod 61 76 = some (34, 56, 4, vr 25 0, 79) := by rw [cod, ctab_61]; rfl
theorem k61_79 : cod 61 79 = some (27, 0, 90, z0, 82) := by rw [cod, ctab_61]; rfl
theorem k61_82 : cod 61 82 = some (4, 0, 0, z0, 83) := by rw [cod, ctab_61]; rfl
theorem k61_83 : cod 61 83 = some (4, 1, 0, z0, 84) := by rw [cod, ctab_61]; rfl
theorem k61_84 : cod 61 84 = some (2, 4, 0, z0, 86) := by rw [cod, ctab_61]; rfl
theorem k61_86 : cod 61 86 = some (2, 3, 0, z0, 87) := by rw [cod, ctab_61]; rfl
theorem k61_87 : cod 61 87 = some (34, 59, 4, vr 25 0, 90) := by rw [cod, ctab_61]; rfl
theorem k61_90 : cod 61 90 = some (8, 4, 0, vi (1), 93) := by rw [cod, ctab_61]; rfl
theorem k61_93 : cod 61 93 = some (26, 20, 0, z0, 96) := by rw [cod, ctab_61]; rfl
theorem k61_96 : cod 61 96 = some (8, 3, 0, vi (1), 99) := by rw [cod, ctab_61]; rfl
theorem k61_99 : cod 61 99 = some (26, 7, 0, z0, 102) := by rw [cod, ctab_61]; rfl
theorem k61_102 : cod 61 102 = some (0, 0, 0, z0, 103) := by rw [cod, ctab_61]; rfl
theorem k61_103 : cod 61 103 = some (5, 3, 0, z0, 104) := by rw [cod, ctab_61]; rfl
theorem k61_104 : cod 61 104 = some (2, 3, 0, z0, 105) := by rw [cod, ctab_61]; rfl
theorem k61_105 : cod 61 105 = some (4, 1, 0, z0, 106) := by rw [cod, ctab_61]; rfl
theorem k61_106 : cod 61 106 = some (29, 9, 10, z0, 109) := by rw [cod, ctab_61]; rfl
theorem k61_109 : cod 61 109 = some (28, 3, 136, z0, 112) := by rw [cod, ctab_61]; rfl
theorem k61_112 : cod 61 112 = some (4, 0, 0, z0, 113) := by rw [cod, ctab_61]; rfl
theorem k61_113 : cod 61 113 = some (29, 25, 1, z0, 116) := by rw [cod, ctab_61]; rfl
theorem k61_116 : cod 61 116 = some (2, 3, 0, z0, 117) := by rw [cod, ctab_61]; rfl
theorem k61_117 : cod 61 117 = some (0, 0, 0, z0, 118) := by rw [cod, ctab_61]; rfl
theorem k61_118 : cod 61 118 = some (4, 0, 0, z0, 119) := by rw [cod, ctab_61]; rfl
theorem k61_119 : cod 61 119 = some (29, 25, 1, z0, 122) := by rw [cod, ctab_61]; rfl
theorem k61_122 : cod 61 122 = some (2, 3, 0, z0, 123) := by rw [cod, ctab_61]; rfl
theorem k61_123 : cod 61 123 = some (31, 1, 0, z0, 124) := by rw [cod, ctab_61]; rfl
theorem k61_124 : cod 61 124 = some (0, 0, 0, vi (1), 125) := by rw [cod, ctab_61]; rfl
theorem k61_125 : cod 61 125 = some (9, 1, 0, z0, 126) := by rw [cod, ctab_61]; rfl
theorem k61_126 : cod 61 126 = some (47, 0, 0, z0, 129) := by rw [cod, ctab_61]; rfl
theorem k61_129 : cod 61 129 = some (32, 1, 0, z0, 130) := by rw [cod, ctab_61]; rfl
theorem k61_130 : cod 61 130 = some (8, 3, 0, vi (1), 133) := by rw [cod, ctab_61]; rfl
theorem k61_133 : cod 61 133 = some (26, 104, 0, z0, 136) := by rw [cod, ctab_61]; rfl
theorem k61_136 : cod 61 136 = some (4, 0, 0, z0, 137) := by rw [cod, ctab_61]; rfl
theorem k61_137 : cod 61 137 = some (23, 0, 0, z0, 138) := by rw [cod, ctab_61]; rfl
theorem k61_138 : cod 61 138 = some (29, 25, 4, z0, 141) := by rw [cod, ctab_61]; rfl
theorem k61_141 : cod 61 141 = some (0, 0, 0, vi (1), 142) := by rw [cod, ctab_61]; rfl
theorem k61_142 : cod 61 142 = some (9, 0, 0, z0, 143) := by rw [cod, ctab_61]; rfl
theorem k61_143 : cod 61 143 = some (30, 25, 4, z0, 146) := by rw [cod, ctab_61]; rfl
theorem k61_146 : cod 61 146 = some (4, 0, 0, z0, 147) := by rw [cod, ctab_61]; rfl
theorem k61_147 : cod 61 147 = some (29, 25, 5, z0, 150) := by rw [cod, ctab_61]; rfl
theorem k61_150 : cod 61 150 = some (2, 2, 0, z0, 151) := by rw [cod, ctab_61]; rfl
theorem k61_151 : cod 61 151 = some (9, 1, 0, z0, 152) := by rw [cod, ctab_61]; rfl
theorem k61_152 : cod 61 152 = some (36, 1, 0, z0, 153) := by rw [cod, ctab_61]; rfl
theorem ctab_62 : ctab.getD 62 [] = cd62 := rfl
theorem k62_0 : cod 62 0 = some (4, 0, 0, z0, 1) := by rw [cod, ctab_62]; rfl
theorem k62_1 : cod 62 1 = some (44, 0, 0, z0, 4) := by rw [cod, ctab_62]; rfl
theorem k62_4 : cod 62 4 = some (4, 0, 0, z0, 5) := by rw [cod, ctab_62]; rfl
theorem k62_5 : cod 62 5 = some (0, 0, 0, vi (6), 7) := by rw [cod, ctab_62]; rfl
theorem k62_7 : cod 62 7 = some (40, 36, 0, z0, 9) := by rw [cod, ctab_62]; rfl
theorem k62_9 : cod 62 9 = some (30, 35, 0, z0, 12) := by rw [cod, ctab_62]; rfl
theorem k62_12 : cod 62 12 = some (35, 0, 0, z0, 13) := by rw [cod, ctab_62]; rfl
theorem ctab_63 : ctab.getD 63 [] = cd63 := rfl
theorem k63_0 : cod 63 0 = some (4, 2, 0, z0, 1) := by rw [cod, ctab_63]; rfl
theorem k63_1 : cod 63 1 = some (4, 1, 0, z0, 2) := by rw [cod, ctab_63]; rfl
theorem k63_2 : cod 63 2 = some (2, 3, 0, z0, 3) := by rw [cod, ctab_63]; rfl
theorem k63_3 : cod 63 3 = some (4, 2, 0, z0, 4) := by rw [cod, ctab_63]; rfl
theorem k63_4 : cod 63 4 = some (29, 25, 0, z0, 7) := by rw [cod, ctab_63]; rfl
theorem k63_7 : cod 63 7 = some (2, 3, 0, z0, 8) := by rw [cod, ctab_63]; rfl
theorem k63_8 : cod 63 8 = some (31, 1, 0, z0, 9) := by rw [cod, ctab_63]; rfl
theorem k63_9 : cod 63 9 = some (34, 53, 4, vr 25 0, 12) := by rw [cod, ctab_63]; rfl
theorem k63_12 : cod 63 12 = some (5, 5, 0, z0, 14) := by rw [cod, ctab_63]; rfl
theorem k63_14 : cod 63 14 = some (4, 0, 0, z0, 15) := by rw [cod, ctab_63]; rfl
theorem k63_15 : cod 63 15 = some (29, 35, 0, z0, 18) := by rw [cod, ctab_63]; rfl
theorem k63_18 : cod 63 18 = some (0, 0, 0, z0, 19) := by rw [cod, ctab_63]; rfl
theorem k63_19 : cod 63 19 = some (34, 250, 2, z0, 22) := by rw [cod, ctab_63]; rfl
theorem k63_22 : cod 63 22 = some (4, 0, 0, z0, 23) := by rw [cod, ctab_63]; rfl
theorem k63_23 : cod 63 23 = some (0, 0, 0, z0, 24) := by rw [cod, ctab_63]; rfl
theorem k63_24 : cod 63 24 = some (30, 35, 1, z0, 27) := by rw [cod, ctab_63]; rfl
theorem k63_27 : cod 63 27 = some (4, 0, 0, z0, 28) := by rw [cod, ctab_63]; rfl
theorem k63_28 : cod 63 28 = some (2, 5, 0, z0, 30) := by rw [cod, ctab_63]; rfl
theorem k63_30 : cod 63 30 = some (30, 35, 2, z0, 33) := by rw [cod, ctab_63]; rfl
theorem k63_33 : cod 63 33 = some (4, 0, 0, z0, 34) := by rw [cod, ctab_63]; rfl
theorem k63_34 : cod 63 34 = some (0, 0, 0, z0, 35) := by rw [cod, ctab_63]; rfl
theorem k63_35 : cod 63 35 = some (30, 35, 3, z0, 38) := by rw [cod, ctab_63]; rfl
theorem k63_38 : cod 63 38 = some (0, 0, 0, z0, 39) := by rw [cod, ctab_63]; rfl
theorem k63_39 : cod 63 39 = some (5, 6, 0, z0, 41) := by rw [cod, ctab_63]; rfl
theorem k63_41 : cod 63 41 = some (2, 6, 0, z0, 43) := by rw [cod, ctab_63]; rfl
theorem k63_43 : cod 63 43 = some (2, 5, 0, z0, 45) := by rw [cod, ctab_63]; rfl
theorem k63_45 : cod 63 45 = some (28, 4, 101, z0, 48) := by rw [cod, ctab_63]; rfl
theorem k63_48 : cod 63 48 = some (2, 6, 0, z0, 50) := by rw [cod, ctab_63]; rfl
theorem k63_50 : cod 63 50 = some (2, 5, 0, z0, 52) := by rw [cod, ctab_63]; rfl
theorem k63_52 : cod 63 52 = some (0, 0, 0, vi (-1), 53) := by rw [cod, ctab_63]; rfl
theorem k63_53 : cod 63 53 = some (9, 5, 0, z0, 54) := by rw [cod, ctab_63]; rfl
theorem k63_54 : cod 63 54 = some (9, 3, 0, z0, 55) := by rw [cod, ctab_63]; rfl
theorem k63_55 : cod 63 55 = some (27, 1, 62, z0, 58) := by rw [cod, ctab_63]; rfl
theorem k63_58 : cod 63 58 = some (0, 0, 0, vi (1), 59) := by rw [cod, ctab_63]; rfl
theorem k63_59 : cod 63 59 = some (26, 63, 0, z0, 62) := by rw [cod, ctab_63]; rfl
theorem k63_62 : cod 63 62 = some (0, 0, 0, z0, 63) := by rw [cod, ctab_63]; rfl
theorem k63_63 : cod 63 63 = some (5, 7, 0, z0, 65) := by rw [cod, ctab_63]; rfl
theorem k63_65 : cod 63 65 = some (2, 7, 0, z0, 67) := by rw [cod, ctab_63]; rfl
theorem k63_67 : cod 63 67 = some (27, 0, 95, z0, 70) := by rw [cod, ctab_63]; rfl
theorem k63_70 : cod 63 70 = some (2, 4, 0, z0, 72) := by rw [cod, ctab_63]; rfl
theorem k63_72 : cod 63 72 = some (0, 0, 0, vi (-1), 73) := by rw [cod, ctab_63]; rfl
theorem k63_73 : cod 63 73 = some (28, 0, 89, z0, 76) := by rw [cod, ctab_63]; rfl
theorem k63_76 : cod 63 76 = some (2, 4, 0, z0, 78) := by rw [cod, ctab_63]; rfl
theorem k63_78 : cod 63 78 = some (4, 1, 0, z0, 79) := by rw [cod, ctab_63]; rfl
theorem k63_79 : cod 63 79 = some (4, 2, 0, z0, 80) := by rw [cod, ctab_63]; rfl
theorem k63_80 : cod 63 80 = some (2, 3, 0, z0, 81) := by rw [cod, ctab_63]; rfl
theorem k63_81 : cod 63 81 = some (2, 6, 0, z0, 83) := by rw [cod, ctab_63]; rfl
theorem k63_83 : cod 63 83 = some (34, 64, 4, z0, 86) := by rw [cod, ctab_63]; rfl
theorem k63_86 : cod 63 86 = some (28, 1, 95, z0, 89) := by rw [cod, ctab_63]; rfl
theorem k63_89 : cod 63 89 = some (4, 0, 0, z0, 90) := by rw [cod, ctab_63]; rfl
theorem k63_90 : cod 63 90 = some (2, 6, 0, z0, 92) := by rw [cod, ctab_63]; rfl
theorem k63_92 : cod 63 92 = some (34, 65, 2, vr 35 0, 95) := by rw [cod, ctab_63]; rfl
theorem k63_95 : cod 63 95 = some (8, 6, 0, vi (1), 98) := by rw [cod, ctab_63]; rfl
theorem k63_98 : cod 63 98 = some (26, 41, 0, z0, 101) := by rw [cod, ctab_63]; rfl
theorem k63_101 : cod 63 101 = some (35, 0, 0, z0, 102) := by rw [cod, ctab_63]; rfl
theorem ctab_64 : ctab.getD 64 [] = cd64 := rfl
theorem k64_0 : cod 64 0 = some (4, 1, 0, z0, 1) := by rw [cod, ctab_64]; rfl
theorem k64_1 : cod 64 1 = some (29, 25, 1, z0, 4) := by rw [cod, ctab_64]; rfl
theorem k64_4 : cod 64 4 = some (2, 2, 0, z0, 5) := by rw [cod, ctab_64]; rfl
theorem k64_5 : cod 64 5 = some (31, 1, 0, z0, 6) := by rw [cod, ctab_64]; rfl
theorem k64_6 : cod 64 6 = some (5, 4, 0, z0, 8) := by rw [cod, ctab_64]; rfl
theorem k64_8 : cod 64 8 = some (4, 1, 0, z0, 9) := by rw [cod, ctab_64]; rfl
theorem k64_9 : cod 64 9 = some (2, 2, 0, z0, 10) := by rw [cod, ctab_64]; rfl
theorem k64_10 : cod 64 10 = some (34, 46, 2, vr 25 0, 13) := by rw [cod, ctab_64]; rfl
theorem k64_13 : cod 64 13 = some (5, 5, 0, z0, 15) := by rw [cod, ctab_64]; rfl
theorem k64_15 : cod 64 15 = some (0, 0, 0, z0, 16) := by rw [cod, ctab_64]; rfl
theorem k64_16 : cod 64 16 = some (5, 6, 0, z0, 18) := by rw [cod, ctab_64]; rfl
theorem k64_18 : cod 64 18 = some (2, 6, 0, z0, 20) := by rw [cod, ctab_64]; rfl
theorem k64_20 : cod 64 20 = some (4, 0, 0, z0, 21) := by rw [cod, ctab_64]; rfl
theorem k64_21 : cod 64 21 = some (29, 9, 10, z0, 24) := by rw [cod, ctab_64]; rfl
theorem k64_24 : cod 64 24 = some (28, 3, 78, z0, 27) := by rw [cod, ctab_64]; rfl
theorem k64_27 : cod 64 27 = some (2, 3, 0, z0, 28) := by rw [cod, ctab_64]; rfl
theorem k64_28 : cod 64 28 = some (2, 6, 0, z0, 30) := by rw [cod, ctab_64]; rfl
theorem k64_30 : cod 64 30 = some (9, 7, 0, z0, 31) := by rw [cod, ctab_64]; rfl
theorem k64_31 : cod 64 31 = some (0, 0, 0, vi (1), 32) := by rw [cod, ctab_64]; rfl
theorem k64_32 : cod 64 32 = some (9, 3, 0, z0, 33) := by rw [cod, ctab_64]; rfl
theorem k64_33 : cod 64 33 = some (27, 0, 72, z0, 36) := by rw [cod, ctab_64]; rfl
theorem k64_36 : cod 64 36 = some (2, 5, 0, z0, 38) := by rw [cod, ctab_64]; rfl
theorem k64_38 : cod 64 38 = some (27, 1, 72, z0, 41) := by rw [cod, ctab_64]; rfl
theorem k64_41 : cod 64 41 = some (2, 4, 0, z0, 43) := by rw [cod, ctab_64]; rfl
theorem k64_43 : cod 64 43 = some (4, 1, 0, z0, 44) := by rw [cod, ctab_64]; rfl
theorem k64_44 : cod 64 44 = some (4, 0, 0, z0, 45) := by rw [cod, ctab_64]; rfl
theorem k64_45 : cod 64 45 = some (2, 6, 0, z0, 47) := by rw [cod, ctab_64]; rfl
theorem k64_47 : cod 64 47 = some (2, 2, 0, z0, 48) := by rw [cod, ctab_64]; rfl
theorem k64_48 : cod 64 48 = some (2, 4, 0, z0, 50) := by rw [cod, ctab_64]; rfl
theorem k64_50 : cod 64 50 = some (34, 58, 5, vr 25 0, 53) := by rw [cod, ctab_64]; rfl
theorem k64_53 : cod 64 53 = some (9, 0, 0, z0, 54) := by rw [cod, ctab_64]; rfl
theorem k64_54 : cod 64 54 = some (5, 4, 0, z0, 56) := by rw [cod, ctab_64]; rfl
theorem k64_56 : cod 64 56 = some (2, 4, 0, z0, 58) := by rw [cod, ctab_64]; rfl
theorem k64_58 : cod 64 58 = some (4, 0, 0, z0, 59) := by rw [cod, ctab_64]; rfl
theorem k64_59 : cod 64 59 = some (29, 9, 12, z0, 62) := by rw [cod, ctab_64]; rfl
theorem k64_62 : cod 64 62 = some (28, 5, 69, z0, 65) := by rw [cod, ctab_64]; rfl
theorem k64_65 : cod 64 65 = some (0, 0, 0, vi (1), 66) := by rw [cod, ctab_64]; rfl
theorem k64_66 : cod 64 66 = some (26, 70, 0, z0, 69) := by rw [cod, ctab_64]; rfl
theorem k64_69 : cod 64 69 = some (0, 0, 0, z0, 70) := by rw [cod, ctab_64]; rfl
theorem k64_70 : cod 64 70 = some (5, 5, 0, z0, 72) := by rw [cod, ctab_64]; rfl
theorem k64_72 : cod 64 72 = some (8, 6, 0, vi (1), 75) := by rw [cod, ctab_64]; rfl
theorem k64_75 : cod 64 75 = some (26, 18, 0, z0, 78) := by rw [cod, ctab_64]; rfl
theorem k64_78 : cod 64 78 = some (2, 5, 0, z0, 80) := by rw [cod, ctab_64]; rfl
theorem k64_80 : cod 64 80 = some (27, 0, 87, z0, 83) := by rw [cod, ctab_64]; rfl
theorem k64_83 : cod 64 83 = some (0, 0, 0, z0, 84) := by rw [cod, ctab_64]; rfl
theorem k64_84 : cod 64 84 = some (26, 89, 0, z0, 87) := by rw [cod, ctab_64]; rfl
theorem k64_87 : cod 64 87 = some (2, 4, 0, z0, 89) := by rw [cod, ctab_64]; rfl
theorem k64_89 : cod 64 89 = some (36, 1, 0, z0, 90) := by rw [cod, ctab_64]; rfl
theorem ctab_65 : ctab.getD 65 [] = cd65 := rfl
theorem k65_0 : cod 65 0 = some (4, 0, 0, z0, 1) := by rw [cod, ctab_65]; rfl
theorem k65_1 : cod 65 1 = some (23, 0, 0, z0, 2) := by rw [cod, ctab_65]; rfl
theorem k65_2 : cod 65 2 = some (29, 35, 1, z0, 5) := by rw [cod, ctab_65]; rfl
theorem k65_5 : cod 65 5 = some (0, 0, 0, vi (1), 6) := by rw [cod, ctab_65]; rfl
theorem k65_6 : cod 65 6 = some (9, 0, 0, z0, 7) := by rw [cod, ctab_65]; rfl
theorem k65_7 : cod 65 7 = some (30, 35, 1, z0, 10) := by rw [cod, ctab_65]; rfl
theorem k65_10 : cod 65 10 = some (4, 0, 0, z0, 11) := by rw [cod, ctab_65]; rfl
theorem k65_11 : cod 65 11 = some (23, 0, 0, z0, 12) := by rw [cod, ctab_65]; rfl
theorem k65_12 : cod 65 12 = some (29, 35, 2, z0, 15) := by rw [cod, ctab_65]; rfl
theorem k65_15 : cod 65 15 = some (2, 1, 0, z0, 16) := by rw [cod, ctab_65]; rfl
theorem k65_16 : cod 65 16 = some (9, 3, 0, z0, 17) := by rw [cod, ctab_65]; rfl
theorem k65_17 : cod 65 17 = some (30, 35, 2, z0, 20) := by rw [cod, ctab_65]; rfl
theorem k65_20 : cod 65 20 = some (4, 0, 0, z0, 21) := by rw [cod, ctab_65]; rfl
theorem k65_21 : cod 65 21 = some (23, 0, 0, z0, 22) := by rw [cod, ctab_65]; rfl
theorem k65_22 : cod 65 22 = some (29, 35, 3, z0, 25) := by rw [cod, ctab_65]; rfl
theorem k65_25 : cod 65 25 = some (2, 1, 0, z0, 26) := by rw [cod, ctab_65]; rfl
theorem k65_26 : cod 65 26 = some (9, 4, 0, z0, 27) := by rw [cod, ctab_65]; rfl
theorem k65_27 : cod 65 27 = some (30, 35, 3, z0, 30) := by rw [cod, ctab_65]; rfl
theorem k65_30 : cod 65 30 = some (0, 0, 0, z0, 31) := by rw [cod, ctab_65]; rfl
theorem k65_31 : cod 65 31 = some (5, 2, 0, z0, 32) := by rw [cod, ctab_65]; rfl
theorem k65_32 : cod 65 32 = some (2, 2, 0, z0, 33) := by rw [cod, ctab_65]; rfl
theorem k65_33 : cod 65 33 = some (0, 0, 0, vi (6), 35) := by rw [cod, ctab_65]; rfl
theorem k65_35 : cod 65 35 = some (28, 3, 58, z0, 38) := by rw [cod, ctab_65]; rfl
theorem k65_38 : cod 65 38 = some (4, 0, 0, z0, 39) := by rw [cod, ctab_65]; rfl
theorem k65_39 : cod 65 39 = some (29, 35, 0, z0, 42) := by rw [cod, ctab_65]; rfl
theorem k65_42 : cod 65 42 = some (2, 2, 0, z0, 43) := by rw [cod, ctab_65]; rfl
theorem k65_43 : cod 65 43 = some (24, 0, 0, z0, 44) := by rw [cod, ctab_65]; rfl
theorem k65_44 : cod 65 44 = some (31, 1, 0, z0, 45) := by rw [cod, ctab_65]; rfl
theorem k65_45 : cod 65 45 = some (2, 1, 0, z0, 46) := by rw [cod, ctab_65]; rfl
theorem k65_46 : cod 65 46 = some (2, 2, 0, z0, 47) := by rw [cod, ctab_65]; rfl
theorem k65_47 : cod 65 47 = some (9, 7, 0, z0, 48) := by rw [cod, ctab_65]; rfl
theorem k65_48 : cod 65 48 = some (0, 0, 0, vi (1), 49) := by rw [cod, ctab_65]; rfl
theorem k65_49 : cod 65 49 = some (9, 3, 0, z0, 50) := by rw [cod, ctab_65]; rfl
theorem k65_50 : cod 65 50 = some (9, 0, 0, z0, 51) := by rw [cod, ctab_65]; rfl
theorem k65_51 : cod 65 51 = some (32, 1, 0, z0, 52) := by rw [cod, ctab_65]; rfl
theorem k65_52 : cod 65 52 = some (8, 2, 0, vi (1), 55) := by rw [cod, ctab_65]; rfl
theorem k65_55 : cod 65 55 = some (26, 32, 0, z0, 58) := by rw [cod, ctab_65]; rfl
theorem k65_58 : cod 65 58 = some (35, 0, 0, z0, 59) := by rw [cod, ctab_65]; rfl
theorem ctab_66 : ctab.getD 66 [] = cd66 := rfl
theorem k66_0 : cod 66 0 = some (4, 0, 0, z0, 1) := by rw [cod, ctab_66]; rfl
theorem k66_1 : cod 66 1 = some (44, 0, 0, z0, 4) := by rw [cod, ctab_66]; rfl
theorem k66_4 : cod 66 4 = some (4, 0, 0, z0, 5) := by rw [cod, ctab_66]; rfl
theorem k66_5 : cod 66 5 = some (0, 0, 0, vi (1000), 8) := by rw [cod, ctab_66]; rfl
theorem k66_8 : cod 66 8 = some (40, 6, 0, z0, 10) := by rw [cod, ctab_66]; rfl
theorem k66_10 : cod 66 10 = some (30, 5, 0, z0, 13) := by rw [cod, ctab_66]; rfl
theorem k66_13 : cod 66 13 = some (35, 0, 0, z0, 14) := by rw [cod, ctab_66]; rfl
theorem ctab_67 : ctab.getD 67 [] = cd67 := rfl
theorem k67_0 : cod 67 0 = some (0, 0, 0, vi (56), 2) := by rw [cod, ctab_67]; rfl
theorem k67_2 : cod 67 2 = some (5, 3, 0, z0, 3) := by rw [cod, ctab_67]; rfl
theorem k67_3 : cod 67 3 = some (2, 3, 0, z0, 4) := by rw [cod, ctab_67]; rfl
theorem k67_4 : cod 67 4 = some (27, 2, 76, z0, 7) := by rw [cod, ctab_67]; rfl
theorem k67_7 : cod 67 7 = some (3, 1, 0, z0, 8) := by rw [cod, ctab_67]; rfl
theorem k67_8 : cod 67 8 = some (2, 3, 0, z0, 9) := by rw [cod, ctab_67]; rfl
theorem k67_9 : cod 67 9 = some (15, 0, 0, z0, 10) := by rw [cod, ctab_67]; rfl
theorem k67_10 : cod 67 10 = some (20, 0, 0, z0, 11) := by rw [cod, ctab_67]; rfl
theorem k67_11 : cod 67 11 = some (0, 0, 0, vi (255), 14) := by rw [cod, ctab_67]; rfl
theorem k67_14 : cod 67 14 = some (9, 3, 0, z0, 15) := by rw [cod, ctab_67]; rfl
theorem k67_15 : cod 67 15 = some (5, 4, 0, z0, 17) := by rw [cod, ctab_67]; rfl
theorem k67_17 : cod 67 17 = some (2, 4, 0, z0, 19) := by rw [cod, ctab_67]; rfl
theorem k67_19 : cod 67 19 = some (0, 0, 0, vi (10), 21) := by rw [cod, ctab_67]; rfl
theorem k67_21 : cod 67 21 = some (28, 0, 38, z0, 24) := by rw [cod, ctab_67]; rfl
theorem k67_24 : cod 67 24 = some (2, 4, 0, z0, 26) := by rw [cod, ctab_67]; rfl
theorem k67_26 : cod 67 26 = some (0, 0, 0, vi (32), 28) := by rw [cod, ctab_67]; rfl
theorem k67_28 : cod 67 28 = some (28, 2, 70, z0, 31) := by rw [cod, ctab_67]; rfl
theorem k67_31 : cod 67 31 = some (2, 4, 0, z0, 33) := by rw [cod, ctab_67]; rfl
theorem k67_33 : cod 67 33 = some (0, 0, 0, vi (126), 35) := by rw [cod, ctab_67]; rfl
theorem k67_35 : cod 67 35 = some (28, 4, 70, z0, 38) := by rw [cod, ctab_67]; rfl
theorem k67_38 : cod 67 38 = some (4, 0, 0, z0, 39) := by rw [cod, ctab_67]; rfl
theorem k67_39 : cod 67 39 = some (29, 5, 1, z0, 42) := by rw [cod, ctab_67]; rfl
theorem k67_42 : cod 67 42 = some (0, 0, 0, vi (1000), 45) := by rw [cod, ctab_67]; rfl
theorem k67_45 : cod 67 45 = some (28, 3, 70, z0, 48) := by rw [cod, ctab_67]; rfl
theorem k67_48 : cod 67 48 = some (4, 0, 0, z0, 49) := by rw [cod, ctab_67]; rfl
theorem k67_49 : cod 67 49 = some (29, 5, 0, z0, 52) := by rw [cod, ctab_67]; rfl
theorem k67_52 : cod 67 52 = some (4, 0, 0, z0, 53) := by rw [cod, ctab_67]; rfl
theorem k67_53 : cod 67 53 = some (29, 5, 1, z0, 56) := by rw [cod, ctab_67]; rfl
theorem k67_56 : cod 67 56 = some (2, 4, 0, z0, 58) := by rw [cod, ctab_67]; rfl
theorem k67_58 : cod 67 58 = some (21, 0, 0, z0, 59) := by rw [cod, ctab_67]; rfl
theorem k67_59 : cod 67 59 = some (32, 2, 0, z0, 60) := by rw [cod, ctab_67]; rfl
theorem k67_60 : cod 67 60 = some (4, 0, 0, z0, 61) := by rw [cod, ctab_67]; rfl
theorem k67_61 : cod 67 61 = some (23, 0, 0, z0, 62) := by rw [cod, ctab_67]; rfl
theorem k67_62 : cod 67 62 = some (29, 5, 1, z0, 65) := by rw [cod, ctab_67]; rfl
theorem k67_65 : cod 67 65 = some (0, 0, 0, vi (1), 66) := by rw [cod, ctab_67]; rfl
theorem k67_66 : cod 67 66 = some (9, 0, 0, z0, 67) := by rw [cod, ctab_67]; rfl
theorem k67_67 : cod 67 67 = some (30, 5, 1, z0, 70) := by rw [cod, ctab_67]; rfl
theorem k67_70 : cod 67 70 = some (8, 3, 0, vi (-8), 73) := by rw [cod, ctab_67]; rfl
theorem k67_73 : cod 67 73 = some (26, 3, 0, z0, 76) := by rw [cod, ctab_67]; rfl
theorem k67_76 : cod 67 76 = some (35, 0, 0, z0, 77) := by rw [cod, ctab_67]; rfl
theorem ctab_68 : ctab.getD 68 [] = cd68 := rfl
theorem k68_0 : cod 68 0 = some (4, 0, 0, z0, 1) := by rw [cod, ctab_68]; rfl
theorem k68_1 : cod 68 1 = some (0, 0, 0, z0, 2) := by rw [cod, ctab_68]; rfl
theorem k68_2 : cod 68 2 = some (30, 5, 4, z0, 5) := by rw [cod, ctab_68]; rfl
theorem k68_5 : cod 68 5 = some (4, 0, 0, z0, 6) := by rw [cod, ctab_68]; rfl
theorem k68_6 : cod 68 6 = some (0, 0, 0, z0, 7) := by rw [cod, ctab_68]; rfl
theorem k68_7 : cod 68 7 = some (30, 5, 7, z0, 10) := by rw [cod, ctab_68]; rfl
theorem k68_10 : cod 68 10 = some (4, 0, 0, z0, 11) := by rw [cod, ctab_68]; rfl
theorem k68_11 : cod 68 11 = some (34, 69, 1, vr 5 0, 14) := by rw [cod, ctab_68]; rfl
theorem k68_14 : cod 68 14 = some (35, 0, 0, z0, 15) := by rw [cod, ctab_68]; rfl
theorem ctab_69 : ctab.getD 69 [] = cd69 := rfl
theorem k69_0 : cod 69 0 = some (4, 0, 0, z0, 1) := by rw [cod, ctab_69]; rfl
theorem k69_1 : cod 69 1 = some (4, 0, 0, z0, 2) := by rw [cod, ctab_69]; rfl
theorem k69_2 : cod 69 2 = some (29, 5, 4, z0, 5) := by rw [cod, ctab_69]; rfl
theorem k69_5 : cod 69 5 = some (30, 5, 3, z0, 8) := by rw [cod, ctab_69]; rfl
theorem k69_8 : cod 69 8 = some (4, 0, 0, z0, 9) := by rw [cod, ctab_69]; rfl
theorem k69_9 : cod 69 9 = some (29, 5, 3, z0, 12) := by rw [cod, ctab_69]; rfl
theorem k69_12 : cod 69 12 = some (4, 0, 0, z0, 13) := by rw [cod, ctab_69]; rfl
theorem k69_13 : cod 69 13 = some (29, 5, 1, z0, 16) := by rw [cod, ctab_69]; rfl
theorem k69_16 : cod 69 16 = some (28, 3, 60, z0, 19) := by rw [cod, ctab_69]; rfl
theorem k69_19 : cod 69 19 = some (4, 0, 0, z0, 20) := by rw [cod, ctab_69]; rfl
theorem k69_20 : cod 69 20 = some (29, 5, 0, z0, 23) := by rw [cod, ctab_69]; rfl
theorem k69_23 : cod 69 23 = some (4, 0, 0, z0, 24) := by rw [cod, ctab_69]; rfl
theorem k69_24 : cod 69 24 = some (29, 5, 3, z0, 27) := by rw [cod, ctab_69]; rfl
theorem k69_27 : cod 69 27 = some (31, 2, 0, z0, 28) := by rw [cod, ctab_69]; rfl
theorem k69_28 : cod 69 28 = some (0, 0, 0, vi (10), 30) := by rw [cod, ctab_69]; rfl
theorem k69_30 : cod 69 30 = some (28, 0, 47, z0, 33) := by rw [cod, ctab_69]; rfl
theorem k69_33 : cod 69 33 = some (4, 0, 0, z0, 34) := by rw [cod, ctab_69]; rfl
theorem k69_34 : cod 69 34 = some (29, 5, 0, z0, 37) := by rw [cod, ctab_69]; rfl
theorem k69_37 : cod 69 37 = some (4, 0, 0, z0, 38) := by rw [cod, ctab_69]; rfl
theorem k69_38 : cod 69 38 = some (29, 5, 3, z0, 41) := by rw [cod, ctab_69]; rfl
theorem k69_41 : cod 69 41 = some (31, 2, 0, z0, 42) := by rw [cod, ctab_69]; rfl
theorem k69_42 : cod 69 42 = some (0, 0, 0, vi (32), 44) := by rw [cod, ctab_69]; rfl
theorem k69_44 : cod 69 44 = some (28, 1, 60, z0, 47) := by rw [cod, ctab_69]; rfl
theorem k69_47 : cod 69 47 = some (4, 0, 0, z0, 48) := by rw [cod, ctab_69]; rfl
theorem k69_48 : cod 69 48 = some (23, 0, 0, z0, 49) := by rw [cod, ctab_69]; rfl
theorem k69_49 : cod 69 49 = some (29, 5, 3, z0, 52) := by rw [cod, ctab_69]; rfl
theorem k69_52 : cod 69 52 = some (0, 0, 0, vi (1), 53) := by rw [cod, ctab_69]; rfl
theorem k69_53 : cod 69 53 = some (9, 0, 0, z0, 54) := by rw [cod, ctab_69]; rfl
theorem k69_54 : cod 69 54 = some (30, 5, 3, z0, 57) := by rw [cod, ctab_69]; rfl
theorem k69_57 : cod 69 57 = some (26, 8, 0, z0, 60) := by rw [cod, ctab_69]; rfl
theorem k69_60 : cod 69 60 = some (4, 0, 0, z0, 61) := by rw [cod, ctab_69]; rfl
theorem k69_61 : cod 69 61 = some (4, 0, 0, z0, 62) := by rw [cod, ctab_69]; rfl
theorem k69_62 : cod 69 62 = some (29, 5, 3, z0, 65) := by rw [cod, ctab_69]; rfl
theorem k69_65 : cod 69 65 = some (30, 5, 4, z0, 68) := by rw [cod, ctab_69]; rfl
theorem k69_68 : cod 69 68 = some (4, 0, 0, z0, 69) := by rw [cod, ctab_69]; rfl
theorem k69_69 : cod 69 69 = some (29, 5, 3, z0, 72) := by rw [cod, ctab_69]; rfl
theorem k69_72 : cod 69 72 = some (4, 0, 0, z0, 73) := by rw [cod, ctab_69]; rfl
theorem k69_73 : cod 69 73 = some (29, 5, 1, z0, 76) := by rw [cod, ctab_69]; rfl
theorem k69_76 : cod 69 76 = some (28, 2, 87, z0, 79) := by rw [cod, ctab_69]; rfl
theorem k69_79 : cod 69 79 = some (4, 0, 0, z0, 80) := by rw [cod, ctab_69]; rfl
theorem k69_80 : cod 69 80 = some (0, 0, 0, z0, 81) := by rw [cod, ctab_69]; rfl
theorem k69_81 : cod 69 81 = some (30, 5, 2, z0, 84) := by rw [cod, ctab_69]; rfl
theorem k69_84 : cod 69 84 = some (26, 180, 0, z0, 87) := by rw [cod, ctab_69]; rfl
theorem k69_87 : cod 69 87 = some (4, 0, 0, z0, 88) := by rw [cod, ctab_69]; rfl
theorem k69_88 : cod 69 88 = some (29, 5, 0, z0, 91) := by rw [cod, ctab_69]; rfl
theorem k69_91 : cod 69 91 = some (4, 0, 0, z0, 92) := by rw [cod, ctab_69]; rfl
theorem k69_92 : cod 69 92 = some (29, 5, 3, z0, 95) := by rw [cod, ctab_69]; rfl
theorem k69_95 : cod 69 95 = some (31, 2, 0, z0, 96) := by rw [cod, ctab_69]; rfl
theorem k69_96 : cod 69 96 = some (34, 72, 1, z0, 99) := by rw [cod, ctab_69]; rfl
theorem k69_99 : cod 69 99 = some (27, 0, 109, z0, 102) := by rw [cod, ctab_69]; rfl
theorem k69_102 : cod 69 102 = some (4, 0, 0, z0, 103) := by rw [cod, ctab_69]; rfl
theorem k69_103 : cod 69 103 = some (34, 70, 1, vr 5 0, 106) := by rw [cod, ctab_69]; rfl
theorem k69_106 : cod 69 106 = some (26, 180, 0, z0, 109) := by rw [cod, ctab_69]; rfl
theorem k69_109 : cod 69 109 = some (4, 0, 0, z0, 110) := by rw [cod, ctab_69]; rfl
theorem k69_110 : cod 69 110 = some (29, 5, 0, z0, 113) := by rw [cod, ctab_69]; rfl
theorem k69_113 : cod 69 113 = some (4, 0, 0, z0, 114) := by rw [cod, ctab_69]; rfl
theorem k69_114 : cod 69 114 = some (29, 5, 3, z0, 117) := by rw [cod, ctab_69]; rfl
theorem k69_117 : cod 69 117 = some (31, 2, 0, z0, 118) := by rw [cod, ctab_69]; rfl
theorem k69_118 : cod 69 118 = some (34, 73, 1, z0, 121) := by rw [cod, ctab_69]; rfl
theorem k69_121 : cod 69 121 = some (27, 0, 131, z0, 124) := by rw [cod, ctab_69]; rfl
theorem k69_124 : cod 69 124 = some (4, 0, 0, z0, 125) := by rw [cod, ctab_69]; rfl
theorem k69_125 : cod 69 125 = some (34, 71, 1, vr 5 0, 128) := by rw [cod, ctab_69]; rfl
theorem k69_128 : cod 69 128 = some (26, 180, 0, z0, 131) := by rw [cod, ctab_69]; rfl
theorem k69_131 : cod 69 131 = some (4, 0, 0, z0, 132) := by rw [cod, ctab_69]; rfl
theorem k69_132 : cod 69 132 = some (0, 0, 0, vr 90 0, 134) := by rw [cod, ctab_69]; rfl
theorem k69_134 : cod 69 134 = some (4, 0, 0, z0, 135) := by rw [cod, ctab_69]; rfl
theorem k69_135 : cod 69 135 = some (29, 5, 0, z0, 138) := by rw [cod, ctab_69]; rfl
theorem k69_138 : cod 69 138 = some (4, 0, 0, z0, 139) := by rw [cod, ctab_69]; rfl
theorem k69_139 : cod 69 139 = some (29, 5, 3, z0, 142) := by rw [cod, ctab_69]; rfl
theorem k69_142 : cod 69 142 = some (31, 2, 0, z0, 143) := by rw [cod, ctab_69]; rfl
theorem k69_143 : cod 69 143 = some (34, 241, 2, vr 90 0, 146) := by rw [cod, ctab_69]; rfl
theorem k69_146 : cod 69 146 = some (27, 2, 153, z0, 149) := by rw [cod, ctab_69]; rfl
theorem k69_149 : cod 69 149 = some (0, 0, 0, vi (3), 150) := by rw [cod, ctab_69]; rfl
theorem k69_150 : cod 69 150 = some (26, 154, 0, z0, 153) := by rw [cod, ctab_69]; rfl
theorem k69_153 : cod 69 153 = some (0, 0, 0, vi (4), 154) := by rw [cod, ctab_69]; rfl
theorem k69_154 : cod 69 154 = some (30, 5, 2, z0, 157) := by rw [cod, ctab_69]; rfl
theorem k69_157 : cod 69 157 = some (4, 0, 0, z0, 158) := by rw [cod, ctab_69]; rfl
theorem k69_158 : cod 69 158 = some (4, 0, 0, z0, 159) := by rw [cod, ctab_69]; rfl
theorem k69_159 : cod 69 159 = some (29, 5, 0, z0, 162) := by rw [cod, ctab_69]; rfl
theorem k69_162 : cod 69 162 = some (4, 0, 0, z0, 163) := by rw [cod, ctab_69]; rfl
theorem k69_163 : cod 69 163 = some (29, 5, 3, z0, 166) := by rw [cod, ctab_69]; rfl
theorem k69_166 : cod 69 166 = some (31, 2, 0, z0, 167) := by rw [cod, ctab_69]; rfl
theorem k69_167 : cod 69 167 = some (30, 5, 5, z0, 170) := by rw [cod, ctab_69]; rfl
theorem k69_170 : cod 69 170 = some (4, 0, 0, z0, 171) := by rw [cod, ctab_69]; rfl
theorem k69_171 : cod 69 171 = some (4, 0, 0, z0, 172) := by rw [cod, ctab_69]; rfl
theorem k69_172 : cod 69 172 = some (29, 5, 3, z0, 175) := by rw [cod, ctab_69]; rfl
theorem k69_175 : cod 69 175 = some (0, 0, 0, vi (1), 176) := by rw [cod, ctab_69]; rfl
theorem k69_176 : cod 69 176 = some (9, 0, 0, z0, 177) := by rw [cod, ctab_69]; rfl
theorem k69_177 : cod 69 177 = some (30, 5, 4, z0, 180) := by rw [cod, ctab_69]; rfl
theorem k69_180 : cod 69 180 = some (35, 0, 0, z0, 181) := by rw [cod, ctab_69]; rfl
theorem ctab_70 : ctab.getD 70 [] = cd70 := rfl
theorem k70_0 : cod 70 0 = some (4, 0, 0, z0, 1) := by rw [cod, ctab_70]; rfl
theorem k70_1 : cod 70 1 = some (0, 0, 0, vl (0), 2) := by rw [cod, ctab_70]; rfl
theorem k70_2 : cod 70 2 = some (30, 5, 6, z0, 5) := by rw [cod, ctab_70]; rfl
theorem k70_5 : cod 70 5 = some (4, 0, 0, z0, 6) := by rw [cod, ctab_70]; rfl
theorem k70_6 : cod 70 6 = some (29, 5, 4, z0, 9) := by rw [cod, ctab_70]; rfl
theorem k70_9 : cod 70 9 = some (4, 0, 0, z0, 10) := by rw [cod, ctab_70]; rfl
theorem k70_10 : cod 70 10 = some (29, 5, 1, z0, 13) := by rw [cod, ctab_70]; rfl
theorem k70_13 : cod 70 13 = some (28, 3, 72, z0, 16) := by rw [cod, ctab_70]; rfl
theorem k70_16 : cod 70 16 = some (4, 0, 0, z0, 17) := by rw [cod, ctab_70]; rfl
theorem k70_17 : cod 70 17 = some (29, 5, 0, z0, 20) := by rw [cod, ctab_70]; rfl
theorem k70_20 : cod 70 20 = some (4, 0, 0, z0, 21) := by rw [cod, ctab_70]; rfl
theorem k70_21 : cod 70 21 = some (29, 5, 4, z0, 24) := by rw [cod, ctab_70]; rfl
theorem k70_24 : cod 70 24 = some (31, 2, 0, z0, 25) := by rw [cod, ctab_70]; rfl
theorem k70_25 : cod 70 25 = some (34, 72, 1, z0, 28) := by rw [cod, ctab_70]; rfl
theorem k70_28 : cod 70 28 = some (27, 0, 72, z0, 31) := by rw [cod, ctab_70]; rfl
theorem k70_31 : cod 70 31 = some (4, 0, 0, z0, 32) := by rw [cod, ctab_70]; rfl
theorem k70_32 : cod 70 32 = some (4, 0, 0, z0, 33) := by rw [cod, ctab_70]; rfl
theorem k70_33 : cod 70 33 = some (29, 5, 6, z0, 36) := by rw [cod, ctab_70]; rfl
theorem k70_36 : cod 70 36 = some (0, 0, 0, vl (32), 39) := by rw [cod, ctab_70]; rfl
theorem k70_39 : cod 70 39 = some (13, 2, 0, z0, 40) := by rw [cod, ctab_70]; rfl
theorem k70_40 : cod 70 40 = some (4, 0, 0, z0, 41) := by rw [cod, ctab_70]; rfl
theorem k70_41 : cod 70 41 = some (29, 5, 0, z0, 44) := by rw [cod, ctab_70]; rfl
theorem k70_44 : cod 70 44 = some (4, 0, 0, z0, 45) := by rw [cod, ctab_70]; rfl
theorem k70_45 : cod 70 45 = some (29, 5, 4, z0, 48) := by rw [cod, ctab_70]; rfl
theorem k70_48 : cod 70 48 = some (31, 2, 0, z0, 49) := by rw [cod, ctab_70]; rfl
theorem k70_49 : cod 70 49 = some (0, 0, 0, vi (97), 51) := by rw [cod, ctab_70]; rfl
theorem k70_51 : cod 70 51 = some (9, 1, 0, z0, 52) := by rw [cod, ctab_70]; rfl
theorem k70_52 : cod 70 52 = some (0, 0, 0, vi (1), 53) := by rw [cod, ctab_70]; rfl
theorem k70_53 : cod 70 53 = some (9, 0, 0, z0, 54) := by rw [cod, ctab_70]; rfl
theorem k70_54 : cod 70 54 = some (19, 0, 0, z0, 55) := by rw [cod, ctab_70]; rfl
theorem k70_55 : cod 70 55 = some (13, 0, 0, z0, 56) := by rw [cod, ctab_70]; rfl
theorem k70_56 : cod 70 56 = some (30, 5, 6, z0, 59) := by rw [cod, ctab_70]; rfl
theorem k70_59 : cod 70 59 = some (4, 0, 0, z0, 60) := by rw [cod, ctab_70]; rfl
theorem k70_60 : cod 70 60 = some (23, 0, 0, z0, 61) := by rw [cod, ctab_70]; rfl
theorem k70_61 : cod 70 61 = some (29, 5, 4, z0, 64) := by rw [cod, ctab_70]; rfl
theorem k70_64 : cod 70 64 = some (0, 0, 0, vi (1), 65) := by rw [cod, ctab_70]; rfl
theorem k70_65 : cod 70 65 = some (9, 0, 0, z0, 66) := by rw [cod, ctab_70]; rfl
theorem k70_66 : cod 70 66 = some (30, 5, 4, z0, 69) := by rw [cod, ctab_70]; rfl
theorem k70_69 : cod 70 69 = some (26, 5, 0, z0, 72) := by rw [cod, ctab_70]; rfl
theorem k70_72 : cod 70 72 = some (4, 0, 0, z0, 73) := by rw [cod, ctab_70]; rfl
theorem k70_73 : cod 70 73 = some (4, 0, 0, z0, 74) := by rw [cod, ctab_70]; rfl
theorem k70_74 : cod 70 74 = some (29, 5, 4, z0, 77) := by rw [cod, ctab_70]; rfl
theorem k70_77 : cod 70 77 = some (4, 0, 0, z0, 78) := by rw [cod, ctab_70]; rfl
theorem k70_78 : cod 70 78 = some (29, 5, 3, z0, 81) := by rw [cod, ctab_70]; rfl
theorem k70_81 : cod 70 81 = some (9, 1, 0, z0, 82) := by rw [cod, ctab_70]; rfl
theorem k70_82 : cod 70 82 = some (0, 0, 0, vi (8), 84) := by rw [cod, ctab_70]; rfl
theorem k70_84 : cod 70 84 = some (28, 4, 91, z0, 87) := by rw [cod, ctab_70]; rfl
theorem k70_87 : cod 70 87 = some (0, 0, 0, vi (1), 88) := by rw [cod, ctab_70]; rfl
theorem k70_88 : cod 70 88 = some (26, 92, 0, z0, 91) := by rw [cod, ctab_70]; rfl
theorem k70_91 : cod 70 91 = some (0, 0, 0, vi (4), 92) := by rw [cod, ctab_70]; rfl
theorem k70_92 : cod 70 92 = some (30, 5, 2, z0, 95) := by rw [cod, ctab_70]; rfl
theorem k70_95 : cod 70 95 = some (35, 0, 0, z0, 96) := by rw [cod, ctab_70]; rfl
theorem ctab_71 : ctab.getD 71 [] = cd71 := rfl
theorem k71_0 : cod 71 0 = some (4, 0, 0, z0, 1) := by rw [cod, ctab_71]; rfl
theorem k71_1 : cod 71 1 = some (0, 0, 0, z0, 2) := by rw [cod, ctab_71]; rfl
theorem k71_2 : cod 71 2 = some (30, 5, 5, z0, 5) := by rw [cod, ctab_71]; rfl
theorem k71_5 : cod 71 5 = some (4, 0, 0, z0, 6) := by rw [cod, ctab_71]; rfl
theorem k71_6 : cod 71 6 = some (29, 5, 4, z0, 9) := by rw [cod, ctab_71]; rfl
theorem k71_9 : cod 71 9 = some (4, 0, 0, z0, 10) := by rw [cod, ctab_71]; rfl
theorem k71_10 : cod 71 10 = some (29, 5, 1, z0, 13) := by rw [cod, ctab_71]; rfl
theorem k71_13 : cod 71 13 = some (28, 3, 68, z0, 16) := by rw [cod, ctab_71]; rfl
theorem k71_16 : cod 71 16 = some (4, 0, 0, z0, 17) := by rw [cod, ctab_71]; rfl
theorem k71_17 : cod 71 17 = some (29, 5, 0, z0, 20) := by rw [cod, ctab_71]; rfl
theorem k71_20 : cod 71 20 = some (4, 0, 0, z0, 21) := by rw [cod, ctab_71]; rfl
theorem k71_21 : cod 71 21 = some (29, 5, 4, z0, 24) := by rw [cod, ctab_71]; rfl
theorem k71_24 : cod 71 24 = some (31, 2, 0, z0, 25) := by rw [cod, ctab_71]; rfl
theorem k71_25 : cod 71 25 = some (34, 73, 1, z0, 28) := by rw [cod, ctab_71]; rfl
theorem k71_28 : cod 71 28 = some (27, 0, 68, z0, 31) := by rw [cod, ctab_71]; rfl
theorem k71_31 : cod 71 31 = some (4, 0, 0, z0, 32) := by rw [cod, ctab_71]; rfl
theorem k71_32 : cod 71 32 = some (4, 0, 0, z0, 33) := by rw [cod, ctab_71]; rfl
theorem k71_33 : cod 71 33 = some (29, 5, 5, z0, 36) := by rw [cod, ctab_71]; rfl
theorem k71_36 : cod 71 36 = some (0, 0, 0, vi (10), 38) := by rw [cod, ctab_71]; rfl
theorem k71_38 : cod 71 38 = some (9, 2, 0, z0, 39) := by rw [cod, ctab_71]; rfl
theorem k71_39 : cod 71 39 = some (4, 0, 0, z0, 40) := by rw [cod, ctab_71]; rfl
theorem k71_40 : cod 71 40 = some (29, 5, 0, z0, 43) := by rw [cod, ctab_71]; rfl
theorem k71_43 : cod 71 43 = some (4, 0, 0, z0, 44) := by rw [cod, ctab_71]; rfl
theorem k71_44 : cod 71 44 = some (29, 5, 4, z0, 47) := by rw [cod, ctab_71]; rfl
theorem k71_47 : cod 71 47 = some (31, 2, 0, z0, 48) := by rw [cod, ctab_71]; rfl
theorem k71_48 : cod 71 48 = some (0, 0, 0, vi (48), 50) := by rw [cod, ctab_71]; rfl
theorem k71_50 : cod 71 50 = some (9, 1, 0, z0, 51) := by rw [cod, ctab_71]; rfl
theorem k71_51 : cod 71 51 = some (9, 0, 0, z0, 52) := by rw [cod, ctab_71]; rfl
theorem k71_52 : cod 71 52 = some (30, 5, 5, z0, 55) := by rw [cod, ctab_71]; rfl
theorem k71_55 : cod 71 55 = some (4, 0, 0, z0, 56) := by rw [cod, ctab_71]; rfl
theorem k71_56 : cod 71 56 = some (23, 0, 0, z0, 57) := by rw [cod, ctab_71]; rfl
theorem k71_57 : cod 71 57 = some (29, 5, 4, z0, 60) := by rw [cod, ctab_71]; rfl
theorem k71_60 : cod 71 60 = some (0, 0, 0, vi (1), 61) := by rw [cod, ctab_71]; rfl
theorem k71_61 : cod 71 61 = some (9, 0, 0, z0, 62) := by rw [cod, ctab_71]; rfl
theorem k71_62 : cod 71 62 = some (30, 5, 4, z0, 65) := by rw [cod, ctab_71]; rfl
theorem k71_65 : cod 71 65 = some (26, 5, 0, z0, 68) := by rw [cod, ctab_71]; rfl
theorem k71_68 : cod 71 68 = some (4, 0, 0, z0, 69) := by rw [cod, ctab_71]; rfl
theorem k71_69 : cod 71 69 = some (4, 0, 0, z0, 70) := by rw [cod, ctab_71]; rfl
theorem k71_70 : cod 71 70 = some (29, 5, 4, z0, 73) := by rw [cod, ctab_71]; rfl
theorem k71_73 : cod 71 73 = some (4, 0, 0, z0, 74) := by rw [cod, ctab_71]; rfl
theorem k71_74 : cod 71 74 = some (29, 5, 3, z0, 77) := by rw [cod, ctab_71]; rfl
theorem k71_77 : cod 71 77 = some (9, 1, 0, z0, 78) := by rw [cod, ctab_71]; rfl
theorem k71_78 : cod 71 78 = some (0, 0, 0, vi (4), 79) := by rw [cod, ctab_71]; rfl
theorem k71_79 : cod 71 79 = some (28, 4, 86, z0, 82) := by rw [cod, ctab_71]; rfl
theorem k71_82 : cod 71 82 = some (0, 0, 0, vi (2), 83) := by rw [cod, ctab_71]; rfl
theorem k71_83 : cod 71 83 = some (26, 87, 0, z0, 86) := by rw [cod, ctab_71]; rfl
theorem k71_86 : cod 71 86 = some (0, 0, 0, vi (4), 87) := by rw [cod, ctab_71]; rfl
theorem k71_87 : cod 71 87 = some (30, 5, 2, z0, 90) := by rw [cod, ctab_71]; rfl
theorem k71_90 : cod 71 90 = some (35, 0, 0, z0, 91) := by rw [cod, ctab_71]; rfl
theorem ctab_72 : ctab.getD 72 [] = cd72 := rfl
theorem k72_0 : cod 72 0 = some (2, 0, 0, z0, 1) := by rw [cod, ctab_72]; rfl
theorem k72_1 : cod 72 1 = some (0, 0, 0, vi (97), 3) := by rw [cod, ctab_72]; rfl
theorem k72_3 : cod 72 3 = some (28, 2, 16, z0, 6) := by rw [cod, ctab_72]; rfl
theorem k72_6 : cod 72 6 = some (2, 0, 0, z0, 7) := by rw [cod, ctab_72]; rfl
theorem k72_7 : cod 72 7 = some (0, 0, 0, vi (122), 9) := by rw [cod, ctab_72]; rfl
theorem k72_9 : cod 72 9 = some (28, 4, 16, z0, 12) := by rw [cod, ctab_72]; rfl
theorem k72_12 : cod 72 12 = some (0, 0, 0, vi (1), 13) := by rw [cod, ctab_72]; rfl
theorem k72_13 : cod 72 13 = some (26, 17, 0, z0, 16) := by rw [cod, ctab_72]; rfl
theorem k72_16 : cod 72 16 = some (0, 0, 0, z0, 17) := by rw [cod, ctab_72]; rfl
theorem k72_17 : cod 72 17 = some (36, 2, 0, z0, 18) := by rw [cod, ctab_72]; rfl
theorem ctab_73 : ctab.getD 73 [] = cd73 := rfl
theorem k73_0 : cod 73 0 = some (2, 0, 0, z0, 1) := by rw [cod, ctab_73]; rfl
theorem k73_1 : cod 73 1 = some (0, 0, 0, vi (48), 3) := by rw [cod, ctab_73]; rfl
theorem k73_3 : cod 73 3 = some (28, 2, 16, z0, 6) := by rw [cod, ctab_73]; rfl
theorem k73_6 : cod 73 6 = some (2, 0, 0, z0, 7) := by rw [cod, ctab_73]; rfl
theorem k73_7 : cod 73 7 = some (0, 0, 0, vi (57), 9) := by rw [cod, ctab_73]; rfl
theorem k73_9 : cod 73 9 = some (28, 4, 16, z0, 12) := by rw [cod, ctab_73]; rfl
theorem k73_12 : cod 73 12 = some (0, 0, 0, vi (1), 13) := by rw [cod, ctab_73]; rfl
theorem k73_13 : cod 73 13 = some (26, 17, 0, z0, 16) := by rw [cod, ctab_73]; rfl
theorem k73_16 : cod 73 16 = some (0, 0, 0, z0, 17) := by rw [cod, ctab_73]; rfl
theorem k73_17 : cod 73 17 = some (36, 2, 0, z0, 18) := by rw [cod, ctab_73]; rfl
theorem ctab_74 : ctab.getD 74 [] = cd74 := rfl
theorem k74_0 : cod 74 0 = some (4, 0, 0, z0, 1) := by rw [cod, ctab_74]; rfl
theorem k74_1 : cod 74 1 = some (29, 5, 2, z0, 4) := by rw [cod, ctab_74]; rfl
theorem k74_4 : cod 74 4 = some (0, 0, 0, vi (1), 5) := by rw [cod, ctab_74]; rfl
theorem k74_5 : cod 74 5 = some (28, 1, 24, z0, 8) := by rw [cod, ctab_74]; rfl
theorem k74_8 : cod 74 8 = some (4, 0, 0, z0, 9) := by rw [cod, ctab_74]; rfl
theorem k74_9 : cod 74 9 = some (29, 5, 4, z0, 12) := by rw [cod, ctab_74]; rfl
theorem k74_12 : cod 74 12 = some (4, 0, 0, z0, 13) := by rw [cod, ctab_74]; rfl
theorem k74_13 : cod 74 13 = some (29, 5, 3, z0, 16) := by rw [cod, ctab_74]; rfl
theorem k74_16 : cod 74 16 = some (9, 1, 0, z0, 17) := by rw [cod, ctab_74]; rfl
theorem k74_17 : cod 74 17 = some (4, 1, 0, z0, 18) := by rw [cod, ctab_74]; rfl
theorem k74_18 : cod 74 18 = some (34, 239, 1, vr 90 0, 21) := by rw [cod, ctab_74]; rfl
theorem k74_21 : cod 74 21 = some (28, 0, 26, z0, 24) := by rw [cod, ctab_74]; rfl
theorem k74_24 : cod 74 24 = some (0, 0, 0, z0, 25) := by rw [cod, ctab_74]; rfl
theorem k74_25 : cod 74 25 = some (36, 2, 0, z0, 26) := by rw [cod, ctab_74]; rfl
theorem k74_26 : cod 74 26 = some (0, 0, 0, z0, 27) := by rw [cod, ctab_74]; rfl
theorem k74_27 : cod 74 27 = some (5, 2, 0, z0, 28) := by rw [cod, ctab_74]; rfl
theorem k74_28 : cod 74 28 = some (2, 2, 0, z0, 29) := by rw [cod, ctab_74]; rfl
theorem k74_29 : cod 74 29 = some (4, 1, 0, z0, 30) := by rw [cod, ctab_74]; rfl
theorem k74_30 : cod 74 30 = some (34, 239, 1, vr 90 0, 33) := by rw [cod, ctab_74]; rfl
theorem k74_33 : cod 74 33 = some (28, 3, 63, z0, 36) := by rw [cod, ctab_74]; rfl
theorem k74_36 : cod 74 36 = some (4, 0, 0, z0, 37) := by rw [cod, ctab_74]; rfl
theorem k74_37 : cod 74 37 = some (29, 5, 0, z0, 40) := by rw [cod, ctab_74]; rfl
theorem k74_40 : cod 74 40 = some (4, 0, 0, z0, 41) := by rw [cod, ctab_74]; rfl
theorem k74_41 : cod 74 41 = some (29, 5, 3, z0, 44) := by rw [cod, ctab_74]; rfl
theorem k74_44 : cod 74 44 = some (2, 2, 0, z0, 45) := by rw [cod, ctab_74]; rfl
theorem k74_45 : cod 74 45 = some (9, 0, 0, z0, 46) := by rw [cod, ctab_74]; rfl
theorem k74_46 : cod 74 46 = some (31, 2, 0, z0, 47) := by rw [cod, ctab_74]; rfl
theorem k74_47 : cod 74 47 = some (4, 1, 0, z0, 48) := by rw [cod, ctab_74]; rfl
theorem k74_48 : cod 74 48 = some (2, 2, 0, z0, 49) := by rw [cod, ctab_74]; rfl
theorem k74_49 : cod 74 49 = some (34, 240, 2, vr 90 0, 52) := by rw [cod, ctab_74]; rfl
theorem k74_52 : cod 74 52 = some (28, 0, 57, z0, 55) := by rw [cod, ctab_74]; rfl
theorem k74_55 : cod 74 55 = some (0, 0, 0, z0, 56) := by rw [cod, ctab_74]; rfl
theorem k74_56 : cod 74 56 = some (36, 2, 0, z0, 57) := by rw [cod, ctab_74]; rfl
theorem k74_57 : cod 74 57 = some (8, 2, 0, vi (1), 60) := by rw [cod, ctab_74]; rfl
theorem k74_60 : cod 74 60 = some (26, 28, 0, z0, 63) := by rw [cod, ctab_74]; rfl
theorem k74_63 : cod 74 63 = some (0, 0, 0, vi (1), 64) := by rw [cod, ctab_74]; rfl
theorem k74_64 : cod 74 64 = some (36, 2, 0, z0, 65) := by rw [cod, ctab_74]; rfl
theorem ctab_75 : ctab.getD 75 [] = cd75 := rfl
theorem k75_0 : cod 75 0 = some (4, 0, 0, z0, 1) := by rw [cod, ctab_75]; rfl
theorem k75_1 : cod 75 1 = some (29, 5, 2, z0, 4) := by rw [cod, ctab_75]; rfl
theorem k75_4 : cod 75 4 = some (0, 0, 0, vi (3), 5) := by rw [cod, ctab_75]; rfl
theorem k75_5 : cod 75 5 = some (28, 1, 20, z0, 8) := by rw [cod, ctab_75]; rfl
theorem k75_8 : cod 75 8 = some (4, 0, 0, z0, 9) := by rw [cod, ctab_75]; rfl
theorem k75_9 : cod 75 9 = some (29, 5, 5, z0, 12) := by rw [cod, ctab_75]; rfl
theorem k75_12 : cod 75 12 = some (2, 1, 0, z0, 13) := by rw [cod, ctab_75]; rfl
theorem k75_13 : cod 75 13 = some (28, 1, 20, z0, 16) := by rw [cod, ctab_75]; rfl
theorem k75_16 : cod 75 16 = some (0, 0, 0, vi (1), 17) := by rw [cod, ctab_75]; rfl
theorem k75_17 : cod 75 17 = some (26, 21, 0, z0, 20) := by rw [cod, ctab_75]; rfl
theorem k75_20 : cod 75 20 = some (0, 0, 0, z0, 21) := by rw [cod, ctab_75]; rfl
theorem k75_21 : cod 75 21 = some (36, 2, 0, z0, 22) := by rw [cod, ctab_75]; rfl
theorem ctab_76 : ctab.getD 76 [] = cd76 := rfl
theorem k76_0 : cod 76 0 = some (4, 0, 0, z0, 1) := by rw [cod, ctab_76]; rfl
theorem k76_1 : cod 76 1 = some (29, 5, 2, z0, 4) := by rw [cod, ctab_76]; rfl
theorem k76_4 : cod 76 4 = some (0, 0, 0, vi (1), 5) := by rw [cod, ctab_76]; rfl
theorem k76_5 : cod 76 5 = some (28, 0, 10, z0, 8) := by rw [cod, ctab_76]; rfl
theorem k76_8 : cod 76 8 = some (0, 0, 0, z0, 9) := by rw [cod, ctab_76]; rfl
theorem k76_9 : cod 76 9 = some (36, 2, 0, z0, 10) := by rw [cod, ctab_76]; rfl
theorem k76_10 : cod 76 10 = some (0, 0, 0, vl (0), 11) := by rw [cod, ctab_76]; rfl
theorem k76_11 : cod 76 11 = some (6, 1, 0, z0, 12) := by rw [cod, ctab_76]; rfl
theorem k76_12 : cod 76 12 = some (0, 0, 0, z0, 13) := by rw [cod, ctab_76]; rfl
theorem k76_13 : cod 76 13 = some (5, 3, 0, z0, 14) := by rw [cod, ctab_76]; rfl
theorem k76_14 : cod 76 14 = some (2, 3, 0, z0, 15) := by rw [cod, ctab_76]; rfl
theorem k76_15 : cod 76 15 = some (0, 0, 0, vr 90 2, 17) := by rw [cod, ctab_76]; rfl
theorem k76_17 : cod 76 17 = some (34, 239, 1, vr 90 0, 20) := by rw [cod, ctab_76]; rfl
theorem k76_20 : cod 76 20 = some (28, 3, 75, z0, 23) := by rw [cod, ctab_76]; rfl
theorem k76_23 : cod 76 23 = some (0, 0, 0, vr 90 2, 25) := by rw [cod, ctab_76]; rfl
theorem k76_25 : cod 76 25 = some (2, 3, 0, z0, 26) := by rw [cod, ctab_76]; rfl
theorem k76_26 : cod 76 26 = some (34, 240, 2, vr 90 0, 29) := by rw [cod, ctab_76]; rfl
theorem k76_29 : cod 76 29 = some (5, 4, 0, z0, 31) := by rw [cod, ctab_76]; rfl
theorem k76_31 : cod 76 31 = some (2, 4, 0, z0, 33) := by rw [cod, ctab_76]; rfl
theorem k76_33 : cod 76 33 = some (0, 0, 0, vi (32), 35) := by rw [cod, ctab_76]; rfl
theorem k76_35 : cod 76 35 = some (28, 0, 56, z0, 38) := by rw [cod, ctab_76]; rfl
theorem k76_38 : cod 76 38 = some (3, 1, 0, z0, 39) := by rw [cod, ctab_76]; rfl
theorem k76_39 : cod 76 39 = some (0, 0, 0, vl (32), 42) := by rw [cod, ctab_76]; rfl
theorem k76_42 : cod 76 42 = some (13, 2, 0, z0, 43) := by rw [cod, ctab_76]; rfl
theorem k76_43 : cod 76 43 = some (2, 4, 0, z0, 45) := by rw [cod, ctab_76]; rfl
theorem k76_45 : cod 76 45 = some (0, 0, 0, vi (97), 47) := by rw [cod, ctab_76]; rfl
theorem k76_47 : cod 76 47 = some (9, 1, 0, z0, 48) := by rw [cod, ctab_76]; rfl
theorem k76_48 : cod 76 48 = some (0, 0, 0, vi (1), 49) := by rw [cod, ctab_76]; rfl
theorem k76_49 : cod 76 49 = some (9, 0, 0, z0, 50) := by rw [cod, ctab_76]; rfl
theorem k76_50 : cod 76 50 = some (19, 0, 0, z0, 51) := by rw [cod, ctab_76]; rfl
theorem k76_51 : cod 76 51 = some (13, 0, 0, z0, 52) := by rw [cod, ctab_76]; rfl
theorem k76_52 : cod 76 52 = some (6, 1, 0, z0, 53) := by rw [cod, ctab_76]; rfl
theorem k76_53 : cod 76 53 = some (26, 69, 0, z0, 56) := by rw [cod, ctab_76]; rfl
theorem k76_56 : cod 76 56 = some (3, 1, 0, z0, 57) := by rw [cod, ctab_76]; rfl
theorem k76_57 : cod 76 57 = some (4, 0, 0, z0, 58) := by rw [cod, ctab_76]; rfl
theorem k76_58 : cod 76 58 = some (29, 5, 6, z0, 61) := by rw [cod, ctab_76]; rfl
theorem k76_61 : cod 76 61 = some (18, 0, 0, z0, 62) := by rw [cod, ctab_76]; rfl
theorem k76_62 : cod 76 62 = some (27, 1, 67, z0, 65) := by rw [cod, ctab_76]; rfl
theorem k76_65 : cod 76 65 = some (0, 0, 0, z0, 66) := by rw [cod, ctab_76]; rfl
theorem k76_66 : cod 76 66 = some (36, 2, 0, z0, 67) := by rw [cod, ctab_76]; rfl
theorem k76_67 : cod 76 67 = some (0, 0, 0, vl (0), 68) := by rw [cod, ctab_76]; rfl
theorem k76_68 : cod 76 68 = some (6, 1, 0, z0, 69) := by rw [cod, ctab_76]; rfl
theorem k76_69 : cod 76 69 = some (8, 3, 0, vi (1), 72) := by rw [cod, ctab_76]; rfl
theorem k76_72 : cod 76 72 = some (26, 14, 0, z0, 75) := by rw [cod, ctab_76]; rfl
theorem k76_75 : cod 76 75 = some (0, 0, 0, vi (1), 76) := by rw [cod, ctab_76]; rfl
theorem k76_76 : cod 76 76 = some (36, 2, 0, z0, 77) := by rw [cod, ctab_76]; rfl
theorem ctab_77 : ctab.getD 77 [] = cd77 := rfl
theorem k77_0 : cod 77 0 = some (4, 0, 0, z0, 1) := by rw [cod, ctab_77]; rfl
theorem k77_1 : cod 77 1 = some (0, 0, 0, vr 90 5, 3) := by rw [cod, ctab_77]; rfl
theorem k77_3 : cod 77 3 = some (34, 74, 2, vr 5 0, 6) := by rw [cod, ctab_77]; rfl
theorem k77_6 : cod 77 6 = some (27, 0, 11, z0, 9) := by rw [cod, ctab_77]; rfl
theorem k77_9 : cod 77 9 = some (0, 0, 0, z0, 10) := by rw [cod, ctab_77]; rfl
theorem k77_10 : cod 77 10 = some (36, 1, 0, z0, 11) := by rw [cod, ctab_77]; rfl
theorem k77_11 : cod 77 11 = some (4, 0, 0, z0, 12) := by rw [cod, ctab_77]; rfl
theorem k77_12 : cod 77 12 = some (0, 0, 0, vr 90 6, 14) := by rw [cod, ctab_77]; rfl
theorem k77_14 : cod 77 14 = some (34, 74, 2, vr 5 0, 17) := by rw [cod, ctab_77]; rfl
theorem k77_17 : cod 77 17 = some (27, 0, 22, z0, 20) := by rw [cod, ctab_77]; rfl
theorem k77_20 : cod 77 20 = some (0, 0, 0, vi (1), 21) := by rw [cod, ctab_77]; rfl
theorem k77_21 : cod 77 21 = some (36, 1, 0, z0, 22) := by rw [cod, ctab_77]; rfl
theorem k77_22 : cod 77 22 = some (4, 0, 0, z0, 23) := by rw [cod, ctab_77]; rfl
theorem k77_23 : cod 77 23 = some (0, 0, 0, vr 90 7, 25) := by rw [cod, ctab_77]; rfl
theorem k77_25 : cod 77 25 = some (34, 74, 2, vr 5 0, 28) := by rw [cod, ctab_77]; rfl
theorem k77_28 : cod 77 28 = some (27, 0, 33, z0, 31) := by rw [cod, ctab_77]; rfl
theorem k77_31 : cod 77 31 = some (0, 0, 0, vi (2), 32) := by rw [cod, ctab_77]; rfl
theorem k77_32 : cod 77 32 = some (36, 1, 0, z0, 33) := by rw [cod, ctab_77]; rfl
theorem k77_33 : cod 77 33 = some (4, 0, 0, z0, 34) := by rw [cod, ctab_77]; rfl
theorem k77_34 : cod 77 34 = some (0, 0, 0, vr 90 8, 36) := by rw [cod, ctab_77]; rfl
theorem k77_36 : cod 77 36 = some (34, 74, 2, vr 5 0, 39) := by rw [cod, ctab_77]; rfl
theorem k77_39 : cod 77 39 = some (27, 0, 46, z0, 42) := by rw [cod, ctab_77]; rfl
theorem k77_42 : cod 77 42 = some (0, 0, 0, vi (3), 43) := by rw [cod, ctab_77]; rfl
theorem k77_43 : cod 77 43 = some (26, 47, 0, z0, 46) := by rw [cod, ctab_77]; rfl
theorem k77_46 : cod 77 46 = some (0, 0, 0, vi (-1), 47) := by rw [cod, ctab_77]; rfl
theorem k77_47 : cod 77 47 = some (36, 1, 0, z0, 48) := by rw [cod, ctab_77]; rfl
theorem ctab_78 : ctab.getD 78 [] = cd78 := rfl
theorem k78_0 : cod 78 0 = some (4, 0, 0, z0, 1) := by rw [cod, ctab_78]; rfl
theorem k78_1 : cod 78 1 = some (2, 1, 0, z0, 2) := by rw [cod, ctab_78]; rfl
theorem k78_2 : cod 78 2 = some (0, 0, 0, vi (16), 4) := by rw [cod, ctab_78]; rfl
theorem k78_4 : cod 78 4 = some (4, 0, 0, z0, 5) := by rw [cod, ctab_78]; rfl
theorem k78_5 : cod 78 5 = some (29, 5, 3, z0, 8) := by rw [cod, ctab_78]; rfl
theorem k78_8 : cod 78 8 = some (9, 2, 0, z0, 9) := by rw [cod, ctab_78]; rfl
theorem k78_9 : cod 78 9 = some (9, 0, 0, z0, 10) := by rw [cod, ctab_78]; rfl
theorem k78_10 : cod 78 10 = some (30, 5, 7, z0, 13) := by rw [cod, ctab_78]; rfl
theorem k78_13 : cod 78 13 = some (0, 0, 0, z0, 14) := by rw [cod, ctab_78]; rfl
theorem k78_14 : cod 78 14 = some (36, 2, 0, z0, 15) := by rw [cod, ctab_78]; rfl
theorem ctab_79 : ctab.getD 79 [] = cd79 := rfl
theorem k79_0 : cod 79 0 = some (4, 0, 0, z0, 1) := by rw [cod, ctab_79]; rfl
theorem k79_1 : cod 79 1 = some (4, 1, 0, z0, 2) := by rw [cod, ctab_79]; rfl
theorem k79_2 : cod 79 2 = some (34, 74, 2, vr 5 0, 5) := by rw [cod, ctab_79]; rfl
theorem k79_5 : cod 79 5 = some (27, 1, 14, z0, 8) := by rw [cod, ctab_79]; rfl
theorem k79_8 : cod 79 8 = some (4, 0, 0, z0, 9) := by rw [cod, ctab_79]; rfl
theorem k79_9 : cod 79 9 = some (0, 0, 0, vi (1), 10) := by rw [cod, ctab_79]; rfl
theorem k79_10 : cod 79 10 = some (34, 78, 2, vr 5 0, 13) := by rw [cod, ctab_79]; rfl
theorem k79_13 : cod 79 13 = some (36, 2, 0, z0, 14) := by rw [cod, ctab_79]; rfl
theorem k79_14 : cod 79 14 = some (4, 0, 0, z0, 15) := by rw [cod, ctab_79]; rfl
theorem k79_15 : cod 79 15 = some (34, 69, 1, vr 5 0, 18) := by rw [cod, ctab_79]; rfl
theorem k79_18 : cod 79 18 = some (0, 0, 0, vi (1), 19) := by rw [cod, ctab_79]; rfl
theorem k79_19 : cod 79 19 = some (36, 2, 0, z0, 20) := by rw [cod, ctab_79]; rfl
theorem ctab_80 : ctab.getD 80 [] = cd80 := rfl
theorem k80_0 : cod 80 0 = some (4, 0, 0, z0, 1) := by rw [cod, ctab_80]; rfl
theorem k80_1 : cod 80 1 = some (2, 1, 0, z0, 2) := by rw [cod, ctab_80]; rfl
theorem k80_2 : cod 80 2 = some (34, 75, 2, vr 5 0, 5) := by rw [cod, ctab_80]; rfl
theorem k80_5 : cod 80 5 = some (27, 1, 14, z0, 8) := by rw [cod, ctab_80]; rfl
theorem k80_8 : cod 80 8 = some (4, 0, 0, z0, 9) := by rw [cod, ctab_80]; rfl
theorem k80_9 : cod 80 9 = some (0, 0, 0, vi (1), 10) := by rw [cod, ctab_80]; rfl
theorem k80_10 : cod 80 10 = some (34, 78, 2, vr 5 0, 13) := by rw [cod, ctab_80]; rfl
theorem k80_13 : cod 80 13 = some (36, 2, 0, z0, 14) := by rw [cod, ctab_80]; rfl
theorem k80_14 : cod 80 14 = some (4, 0, 0, z0, 15) := by rw [cod, ctab_80]; rfl
theorem k80_15 : cod 80 15 = some (34, 69, 1, vr 5 0, 18) := by rw [cod, ctab_80]; rfl
theorem k80_18 : cod 80 18 = some (0, 0, 0, vi (1), 19) := by rw [cod, ctab_80]; rfl
theorem k80_19 : cod 80 19 = some (36, 2, 0, z0, 20) := by rw [cod, ctab_80]; rfl
theorem ctab_81 : ctab.getD 81 [] = cd81 := rfl
theorem k81_0 : cod 81 0 = some (4, 0, 0, z0, 1) := by rw [cod, ctab_81]; rfl
theorem k81_1 : cod 81 1 = some (29, 5, 2, z0, 4) := by rw [cod, ctab_81]; rfl
theorem k81_4 : cod 81 4 = some (0, 0, 0, vi (2), 5) := by rw [cod, ctab_81]; rfl
theorem k81_5 : cod 81 5 = some (28, 0, 14, z0, 8) := by rw [cod, ctab_81]; rfl
theorem k81_8 : cod 81 8 = some (4, 0, 0, z0, 9) := by rw [cod, ctab_81]; rfl
theorem k81_9 : cod 81 9 = some (0, 0, 0, vi (1), 10) := by rw [cod, ctab_81]; rfl
theorem k81_10 : cod 81 10 = some (34, 78, 2, vr 5 0, 13) := by rw [cod, ctab_81]; rfl
theorem k81_13 : cod 81 13 = some (36, 2, 0, z0, 14) := by rw [cod, ctab_81]; rfl
theorem k81_14 : cod 81 14 = some (4, 0, 0, z0, 15) := by rw [cod, ctab_81]; rfl
theorem k81_15 : cod 81 15 = some (29, 5, 5, z0, 18) := by rw [cod, ctab_81]; rfl
theorem k81_18 : cod 81 18 = some (2, 1, 0, z0, 19) := by rw [cod, ctab_81]; rfl
theorem k81_19 : cod 81 19 = some (2, 2, 0, z0, 20) := by rw [cod, ctab_81]; rfl
theorem k81_20 : cod 81 20 = some (34, 114, 3, z0, 23) := by rw [cod, ctab_81]; rfl
theorem k81_23 : cod 81 23 = some (27, 1, 34, z0, 26) := by rw [cod, ctab_81]; rfl
theorem k81_26 : cod 81 26 = some (4, 0, 0, z0, 27) := by rw [cod, ctab_81]; rfl
theorem k81_27 : cod 81 27 = some (0, 0, 0, vi (4), 28) := by rw [cod, ctab_81]; rfl
theorem k81_28 : cod 81 28 = some (34, 78, 2, vr 5 0, 31) := by rw [cod, ctab_81]; rfl
theorem k81_31 : cod 81 31 = some (27, 0, 38, z0, 34) := by rw [cod, ctab_81]; rfl
theorem k81_34 : cod 81 34 = some (0, 0, 0, vi (1), 35) := by rw [cod, ctab_81]; rfl
theorem k81_35 : cod 81 35 = some (26, 39, 0, z0, 38) := by rw [cod, ctab_81]; rfl
theorem k81_38 : cod 81 38 = some (0, 0, 0, z0, 39) := by rw [cod, ctab_81]; rfl
theorem k81_39 : cod 81 39 = some (36, 2, 0, z0, 40) := by rw [cod, ctab_81]; rfl
theorem ctab_82 : ctab.getD 82 [] = cd82 := rfl
theorem k82_0 : cod 82 0 = some (4, 0, 0, z0, 1) := by rw [cod, ctab_82]; rfl
theorem k82_1 : cod 82 1 = some (44, 0, 0, z0, 4) := by rw [cod, ctab_82]; rfl
theorem k82_4 : cod 82 4 = some (4, 0, 0, z0, 5) := by rw [cod, ctab_82]; rfl
theorem k82_5 : cod 82 5 = some (0, 0, 0, vi (40), 7) := by rw [cod, ctab_82]; rfl
theorem k82_7 : cod 82 7 = some (40, 20, 0, z0, 9) := by rw [cod, ctab_82]; rfl
theorem k82_9 : cod 82 9 = some (30, 19, 0, z0, 12) := by rw [cod, ctab_82]; rfl
theorem k82_12 : cod 82 12 = some (4, 0, 0, z0, 13) := by rw [cod, ctab_82]; rfl
theorem k82_13 : cod 82 13 = some (0, 0, 0, vi (40), 15) := by rw [cod, ctab_82]; rfl
theorem k82_15 : cod 82 15 = some (40, 21, 0, z0, 17) := by rw [cod, ctab_82]; rfl
theorem k82_17 : cod 82 17 = some (30, 19, 1, z0, 20) := by rw [cod, ctab_82]; rfl
theorem k82_20 : cod 82 20 = some (4, 0, 0, z0, 21) := by rw [cod, ctab_82]; rfl
theorem k82_21 : cod 82 21 = some (0, 0, 0, vi (40), 23) := by rw [cod, ctab_82]; rfl
theorem k82_23 : cod 82 23 = some (40, 22, 0, z0, 25) := by rw [cod, ctab_82]; rfl
theorem k82_25 : cod 82 25 = some (30, 19, 2, z0, 28) := by rw [cod, ctab_82]; rfl
theorem k82_28 : cod 82 28 = some (35, 0, 0, z0, 29) := by rw [cod, ctab_82]; rfl
theorem ctab_83 : ctab.getD 83 [] = cd83 := rfl
theorem k83_0 : cod 83 0 = some (4, 0, 0, z0, 1) := by rw [cod, ctab_83]; rfl
theorem k83_1 : cod 83 1 = some (29, 19, 3, z0, 4) := by rw [cod, ctab_83]; rfl
theorem k83_4 : cod 83 4 = some (0, 0, 0, vi (40), 6) := by rw [cod, ctab_83]; rfl
theorem k83_6 : cod 83 6 = some (28, 3, 49, z0, 9) := by rw [cod, ctab_83]; rfl
theorem k83_9 : cod 83 9 = some (4, 0, 0, z0, 10) := by rw [cod, ctab_83]; rfl
theorem k83_10 : cod 83 10 = some (29, 19, 0, z0, 13) := by rw [cod, ctab_83]; rfl
theorem k83_13 : cod 83 13 = some (4, 0, 0, z0, 14) := by rw [cod, ctab_83]; rfl
theorem k83_14 : cod 83 14 = some (29, 19, 3, z0, 17) := by rw [cod, ctab_83]; rfl
theorem k83_17 : cod 83 17 = some (2, 1, 0, z0, 18) := by rw [cod, ctab_83]; rfl
theorem k83_18 : cod 83 18 = some (32, 1, 0, z0, 19) := by rw [cod, ctab_83]; rfl
theorem k83_19 : cod 83 19 = some (4, 0, 0, z0, 20) := by rw [cod, ctab_83]; rfl
theorem k83_20 : cod 83 20 = some (29, 19, 1, z0, 23) := by rw [cod, ctab_83]; rfl
theorem k83_23 : cod 83 23 = some (4, 0, 0, z0, 24) := by rw [cod, ctab_83]; rfl
theorem k83_24 : cod 83 24 = some (29, 19, 3, z0, 27) := by rw [cod, ctab_83]; rfl
theorem k83_27 : cod 83 27 = some (2, 2, 0, z0, 28) := by rw [cod, ctab_83]; rfl
theorem k83_28 : cod 83 28 = some (32, 1, 0, z0, 29) := by rw [cod, ctab_83]; rfl
theorem k83_29 : cod 83 29 = some (4, 0, 0, z0, 30) := by rw [cod, ctab_83]; rfl
theorem k83_30 : cod 83 30 = some (29, 19, 2, z0, 33) := by rw [cod, ctab_83]; rfl
theorem k83_33 : cod 83 33 = some (4, 0, 0, z0, 34) := by rw [cod, ctab_83]; rfl
theorem k83_34 : cod 83 34 = some (29, 19, 3, z0, 37) := by rw [cod, ctab_83]; rfl
theorem k83_37 : cod 83 37 = some (2, 3, 0, z0, 38) := by rw [cod, ctab_83]; rfl
theorem k83_38 : cod 83 38 = some (32, 1, 0, z0, 39) := by rw [cod, ctab_83]; rfl
theorem k83_39 : cod 83 39 = some (4, 0, 0, z0, 40) := by rw [cod, ctab_83]; rfl
theorem k83_40 : cod 83 40 = some (23, 0, 0, z0, 41) := by rw [cod, ctab_83]; rfl
theorem k83_41 : cod 83 41 = some (29, 19, 3, z0, 44) := by rw [cod, ctab_83]; rfl
theorem k83_44 : cod 83 44 = some (0, 0, 0, vi (1), 45) := by rw [cod, ctab_83]; rfl
theorem k83_45 : cod 83 45 = some (9, 0, 0, z0, 46) := by rw [cod, ctab_83]; rfl
theorem k83_46 : cod 83 46 = some (30, 19, 3, z0, 49) := by rw [cod, ctab_83]; rfl
theorem k83_49 : cod 83 49 = some (35, 0, 0, z0, 50) := by rw [cod, ctab_83]; rfl
theorem ctab_84 : ctab.getD 84 [] = cd84 := rfl
theorem k84_0 : cod 84 0 = some (4, 0, 0, z0, 1) := by rw [cod, ctab_84]; rfl
theorem k84_1 : cod 84 1 = some (4, 1, 0, z0, 2) := by rw [cod, ctab_84]; rfl
theorem k84_2 : cod 84 2 = some (29, 19, 3, z0, 5) := by rw [cod, ctab_84]; rfl
theorem k84_5 : cod 84 5 = some (30, 19, 3, z0, 8) := by rw [cod, ctab_84]; rfl
theorem k84_8 : cod 84 8 = some (4, 1, 0, z0, 9) := by rw [cod, ctab_84]; rfl
theorem k84_9 : cod 84 9 = some (29, 19, 0, z0, 12) := by rw [cod, ctab_84]; rfl
theorem k84_12 : cod 84 12 = some (0, 0, 0, z0, 13) := by rw [cod, ctab_84]; rfl
theorem k84_13 : cod 84 13 = some (4, 0, 0, z0, 14) := by rw [cod, ctab_84]; rfl
theorem k84_14 : cod 84 14 = some (29, 19, 0, z0, 17) := by rw [cod, ctab_84]; rfl
theorem k84_17 : cod 84 17 = some (0, 0, 0, z0, 18) := by rw [cod, ctab_84]; rfl
theorem k84_18 : cod 84 18 = some (4, 0, 0, z0, 19) := by rw [cod, ctab_84]; rfl
theorem k84_19 : cod 84 19 = some (29, 19, 3, z0, 22) := by rw [cod, ctab_84]; rfl
theorem k84_22 : cod 84 22 = some (46, 0, 0, z0, 25) := by rw [cod, ctab_84]; rfl
theorem k84_25 : cod 84 25 = some (4, 1, 0, z0, 26) := by rw [cod, ctab_84]; rfl
theorem k84_26 : cod 84 26 = some (29, 19, 1, z0, 29) := by rw [cod, ctab_84]; rfl
theorem k84_29 : cod 84 29 = some (0, 0, 0, z0, 30) := by rw [cod, ctab_84]; rfl
theorem k84_30 : cod 84 30 = some (4, 0, 0, z0, 31) := by rw [cod, ctab_84]; rfl
theorem k84_31 : cod 84 31 = some (29, 19, 1, z0, 34) := by rw [cod, ctab_84]; rfl
theorem k84_34 : cod 84 34 = some (0, 0, 0, z0, 35) := by rw [cod, ctab_84]; rfl
theorem k84_35 : cod 84 35 = some (4, 0, 0, z0, 36) := by rw [cod, ctab_84]; rfl
theorem k84_36 : cod 84 36 = some (29, 19, 3, z0, 39) := by rw [cod, ctab_84]; rfl
theorem k84_39 : cod 84 39 = some (46, 0, 0, z0, 42) := by rw [cod, ctab_84]; rfl
theorem k84_42 : cod 84 42 = some (4, 1, 0, z0, 43) := by rw [cod, ctab_84]; rfl
theorem k84_43 : cod 84 43 = some (29, 19, 2, z0, 46) := by rw [cod, ctab_84]; rfl
theorem k84_46 : cod 84 46 = some (0, 0, 0, z0, 47) := by rw [cod, ctab_84]; rfl
theorem k84_47 : cod 84 47 = some (4, 0, 0, z0, 48) := by rw [cod, ctab_84]; rfl
theorem k84_48 : cod 84 48 = some (29, 19, 2, z0, 51) := by rw [cod, ctab_84]; rfl
theorem k84_51 : cod 84 51 = some (0, 0, 0, z0, 52) := by rw [cod, ctab_84]; rfl
theorem k84_52 : cod 84 52 = some (4, 0, 0, z0, 53) := by rw [cod, ctab_84]; rfl
theorem k84_53 : cod 84 53 = some (29, 19, 3, z0, 56) := by rw [cod, ctab_84]; rfl
theorem k84_56 : cod 84 56 = some (46, 0, 0, z0, 59) := by rw [cod, ctab_84]; rfl
theorem k84_59 : cod 84 59 = some (35, 0, 0, z0, 60) := by rw [cod, ctab_84]; rfl
theorem ctab_85 : ctab.getD 85 [] = cd85 := rfl
theorem k85_0 : cod 85 0 = some (4, 0, 0, z0, 1) := by rw [cod, ctab_85]; rfl
theorem k85_1 : cod 85 1 = some (44, 0, 0, z0, 4) := by rw [cod, ctab_85]; rfl
theorem k85_4 : cod 85 4 = some (4, 0, 0, z0, 5) := by rw [cod, ctab_85]; rfl
theorem k85_5 : cod 85 5 = some (39, 5, 0, z0, 8) := by rw [cod, ctab_85]; rfl
theorem k85_8 : cod 85 8 = some (23, 0, 0, z0, 9) := by rw [cod, ctab_85]; rfl
theorem k85_9 : cod 85 9 = some (34, 66, 1, vr 5 0, 12) := by rw [cod, ctab_85]; rfl
theorem k85_12 : cod 85 12 = some (30, 1, 0, z0, 15) := by rw [cod, ctab_85]; rfl
theorem k85_15 : cod 85 15 = some (4, 0, 0, z0, 16) := by rw [cod, ctab_85]; rfl
theorem k85_16 : cod 85 16 = some (39, 7, 0, z0, 19) := by rw [cod, ctab_85]; rfl
theorem k85_19 : cod 85 19 = some (23, 0, 0, z0, 20) := by rw [cod, ctab_85]; rfl
theorem k85_20 : cod 85 20 = some (4, 0, 0, z0, 21) := by rw [cod, ctab_85]; rfl
theorem k85_21 : cod 85 21 = some (29, 1, 0, z0, 24) := by rw [cod, ctab_85]; rfl
theorem k85_24 : cod 85 24 = some (34, 26, 2, vr 7 0, 27) := by rw [cod, ctab_85]; rfl
theorem k85_27 : cod 85 27 = some (30, 1, 1, z0, 30) := by rw [cod, ctab_85]; rfl
theorem k85_30 : cod 85 30 = some (4, 0, 0, z0, 31) := by rw [cod, ctab_85]; rfl
theorem k85_31 : cod 85 31 = some (39, 9, 0, z0, 34) := by rw [cod, ctab_85]; rfl
theorem k85_34 : cod 85 34 = some (23, 0, 0, z0, 35) := by rw [cod, ctab_85]; rfl
theorem k85_35 : cod 85 35 = some (34, 0, 1, vr 9 0, 38) := by rw [cod, ctab_85]; rfl
theorem k85_38 : cod 85 38 = some (30, 1, 2, z0, 41) := by rw [cod, ctab_85]; rfl
theorem k85_41 : cod 85 41 = some (4, 0, 0, z0, 42) := by rw [cod, ctab_85]; rfl
theorem k85_42 : cod 85 42 = some (39, 9, 0, z0, 45) := by rw [cod, ctab_85]; rfl
theorem k85_45 : cod 85 45 = some (23, 0, 0, z0, 46) := by rw [cod, ctab_85]; rfl
theorem k85_46 : cod 85 46 = some (34, 0, 1, vr 9 0, 49) := by rw [cod, ctab_85]; rfl
theorem k85_49 : cod 85 49 = some (30, 1, 3, z0, 52) := by rw [cod, ctab_85]; rfl
theorem k85_52 : cod 85 52 = some (4, 0, 0, z0, 53) := by rw [cod, ctab_85]; rfl
theorem k85_53 : cod 85 53 = some (39, 19, 0, z0, 56) := by rw [cod, ctab_85]; rfl
theorem k85_56 : cod 85 56 = some (23, 0, 0, z0, 57) := by rw [cod, ctab_85]; rfl
theorem k85_57 : cod 85 57 = some (34, 82, 1, vr 19 0, 60) := by rw [cod, ctab_85]; rfl
theorem k85_60 : cod 85 60 = some (30, 1, 4, z0, 63) := by rw [cod, ctab_85]; rfl
theorem k85_63 : cod 85 63 = some (4, 0, 0, z0, 64) := by rw [cod, ctab_85]; rfl
theorem k85_64 : cod 85 64 = some (39, 23, 0, z0, 67) := by rw [cod, ctab_85]; rfl
theorem k85_67 : cod 85 67 = some (23, 0, 0, z0, 68) := by rw [cod, ctab_85]; rfl
theorem k85_68 : cod 85 68 = some (34, 39, 1, vr 23 0, 71) := by rw [cod, ctab_85]; rfl
theorem k85_71 : cod 85 71 = some (30, 1, 5, z0, 74) := by rw [cod, ctab_85]; rfl
theorem k85_74 : cod 85 74 = some (4, 0, 0, z0, 75) := by rw [cod, ctab_85]; rfl
theorem k85_75 : cod 85 75 = some (0, 0, 0, vi (4), 76) := by rw [cod, ctab_85]; rfl
theorem k85_76 : cod 85 76 = some (41, 2, 0, z0, 79) := by rw [cod, ctab_85]; rfl
theorem k85_79 : cod 85 79 = some (30, 1, 6, z0, 82) := by rw [cod, ctab_85]; rfl
theorem k85_82 : cod 85 82 = some (0, 0, 0, z0, 83) := by rw [cod, ctab_85]; rfl
theorem k85_83 : cod 85 83 = some (5, 1, 0, z0, 84) := by rw [cod, ctab_85]; rfl
theorem k85_84 : cod 85 84 = some (2, 1, 0, z0, 85) := by rw [cod, ctab_85]; rfl
theorem k85_85 : cod 85 85 = some (0, 0, 0, vi (4), 86) := by rw [cod, ctab_85]; rfl
theorem k85_86 : cod 85 86 = some (28, 3, 108, z0, 89) := by rw [cod, ctab_85]; rfl
theorem k85_89 : cod 85 89 = some (4, 0, 0, z0, 90) := by rw [cod, ctab_85]; rfl
theorem k85_90 : cod 85 90 = some (29, 1, 6, z0, 93) := by rw [cod, ctab_85]; rfl
theorem k85_93 : cod 85 93 = some (2, 1, 0, z0, 94) := by rw [cod, ctab_85]; rfl
theorem k85_94 : cod 85 94 = some (39, 23, 0, z0, 97) := by rw [cod, ctab_85]; rfl
theorem k85_97 : cod 85 97 = some (23, 0, 0, z0, 98) := by rw [cod, ctab_85]; rfl
theorem k85_98 : cod 85 98 = some (34, 39, 1, vr 23 0, 101) := by rw [cod, ctab_85]; rfl
theorem k85_101 : cod 85 101 = some (32, 5, 0, z0, 102) := by rw [cod, ctab_85]; rfl
theorem k85_102 : cod 85 102 = some (8, 1, 0, vi (1), 105) := by rw [cod, ctab_85]; rfl
theorem k85_105 : cod 85 105 = some (26, 84, 0, z0, 108) := by rw [cod, ctab_85]; rfl
theorem k85_108 : cod 85 108 = some (4, 0, 0, z0, 109) := by rw [cod, ctab_85]; rfl
theorem k85_109 : cod 85 109 = some (39, 29, 0, z0, 112) := by rw [cod, ctab_85]; rfl
theorem k85_112 : cod 85 112 = some (23, 0, 0, z0, 113) := by rw [cod, ctab_85]; rfl
theorem k85_113 : cod 85 113 = some (34, 19, 1, vr 29 0, 116) := by rw [cod, ctab_85]; rfl
theorem k85_116 : cod 85 116 = some (30, 1, 7, z0, 119) := by rw [cod, ctab_85]; rfl
theorem k85_119 : cod 85 119 = some (4, 0, 0, z0, 120) := by rw [cod, ctab_85]; rfl
theorem k85_120 : cod 85 120 = some (39, 25, 0, z0, 123) := by rw [cod, ctab_85]; rfl
theorem k85_123 : cod 85 123 = some (23, 0, 0, z0, 124) := by rw [cod, ctab_85]; rfl
theorem k85_124 : cod 85 124 = some (34, 43, 1, vr 25 0, 127) := by rw [cod, ctab_85]; rfl
theorem k85_127 : cod 85 127 = some (30, 1, 8, z0, 130) := by rw [cod, ctab_85]; rfl
theorem k85_130 : cod 85 130 = some (4, 0, 0, z0, 131) := by rw [cod, ctab_85]; rfl
theorem k85_131 : cod 85 131 = some (39, 31, 0, z0, 134) := by rw [cod, ctab_85]; rfl
theorem k85_134 : cod 85 134 = some (23, 0, 0, z0, 135) := by rw [cod, ctab_85]; rfl
theorem k85_135 : cod 85 135 = some (34, 23, 1, vr 31 0, 138) := by rw [cod, ctab_85]; rfl
theorem k85_138 : cod 85 138 = some (30, 1, 9, z0, 141) := by rw [cod, ctab_85]; rfl
theorem k85_141 : cod 85 141 = some (4, 0, 0, z0, 142) := by rw [cod, ctab_85]; rfl
theorem k85_142 : cod 85 142 = some (39, 35, 0, z0, 145) := by rw [cod, ctab_85]; rfl
theorem k85_145 : cod 85 145 = some (23, 0, 0, z0, 146) := by rw [cod, ctab_85]; rfl
theorem k85_146 : cod 85 146 = some (34, 62, 1, vr 35 0, 149) := by rw [cod, ctab_85]; rfl
theorem k85_149 : cod 85 149 = some (30, 1, 10, z0, 152) := by rw [cod, ctab_85]; rfl
theorem k85_152 : cod 85 152 = some (4, 0, 0, z0, 153) := by rw [cod, ctab_85]; rfl
theorem k85_153 : cod 85 153 = some (39, 37, 0, z0, 156) := by rw [cod, ctab_85]; rfl
theorem k85_156 : cod 85 156 = some (23, 0, 0, z0, 157) := by rw [cod, ctab_85]; rfl
theorem k85_157 : cod 85 157 = some (34, 16, 1, vr 37 0, 160) := by rw [cod, ctab_85]; rfl
theorem k85_160 : cod 85 160 = some (30, 1, 11, z0, 163) := by rw [cod, ctab_85]; rfl
theorem k85_163 : cod 85 163 = some (4, 0, 0, z0, 164) := by rw [cod, ctab_85]; rfl
theorem k85_164 : cod 85 164 = some (0, 0, 0, vi (25), 166) := by rw [cod, ctab_85]; rfl
theorem k85_166 : cod 85 166 = some (40, 3, 0, z0, 168) := by rw [cod, ctab_85]; rfl
theorem k85_168 : cod 85 168 = some (30, 1, 12, z0, 171) := by rw [cod, ctab_85]; rfl
theorem k85_171 : cod 85 171 = some (4, 0, 0, z0, 172) := by rw [cod, ctab_85]; rfl
theorem k85_172 : cod 85 172 = some (0, 0, 0, vi (25), 174) := by rw [cod, ctab_85]; rfl
theorem k85_174 : cod 85 174 = some (40, 4, 0, z0, 176) := by rw [cod, ctab_85]; rfl
theorem k85_176 : cod 85 176 = some (30, 1, 13, z0, 179) := by rw [cod, ctab_85]; rfl
theorem k85_179 : cod 85 179 = some (35, 0, 0, z0, 180) := by rw [cod, ctab_85]; rfl
theorem ctab_86 : ctab.getD 86 [] = cd86 := rfl
theorem k86_0 : cod 86 0 = some (4, 0, 0, z0, 1) := by rw [cod, ctab_86]; rfl
theorem k86_1 : cod 86 1 = some (29, 1, 0, z0, 4) := by rw [cod, ctab_86]; rfl
theorem k86_4 : cod 86 4 = some (3, 1, 0, z0, 5) := by rw [cod, ctab_86]; rfl
theorem k86_5 : cod 86 5 = some (34, 67, 2, vr 5 0, 8) := by rw [cod, ctab_86]; rfl
theorem k86_8 : cod 86 8 = some (4, 0, 0, z0, 9) := by rw [cod, ctab_86]; rfl
theorem k86_9 : cod 86 9 = some (29, 1, 0, z0, 12) := by rw [cod, ctab_86]; rfl
theorem k86_12 : cod 86 12 = some (3, 3, 0, z0, 13) := by rw [cod, ctab_86]; rfl
theorem k86_13 : cod 86 13 = some (34, 67, 2, vr 5 0, 16) := by rw [cod, ctab_86]; rfl
theorem k86_16 : cod 86 16 = some (4, 0, 0, z0, 17) := by rw [cod, ctab_86]; rfl
theorem k86_17 : cod 86 17 = some (29, 1, 0, z0, 20) := by rw [cod, ctab_86]; rfl
theorem k86_20 : cod 86 20 = some (3, 5, 0, z0, 22) := by rw [cod, ctab_86]; rfl
theorem k86_22 : cod 86 22 = some (34, 67, 2, vr 5 0, 25) := by rw [cod, ctab_86]; rfl
theorem k86_25 : cod 86 25 = some (4, 0, 0, z0, 26) := by rw [cod, ctab_86]; rfl
theorem k86_26 : cod 86 26 = some (29, 1, 0, z0, 29) := by rw [cod, ctab_86]; rfl
theorem k86_29 : cod 86 29 = some (29, 5, 1, z0, 32) := by rw [cod, ctab_86]; rfl
theorem k86_32 : cod 86 32 = some (36, 1, 0, z0, 33) := by rw [cod, ctab_86]; rfl
theorem ctab_87 : ctab.getD 87 [] = cd87 := rfl
theorem k87_0 : cod 87 0 = some (4, 0, 0, z0, 1) := by rw [cod, ctab_87]; rfl
theorem k87_1 : cod 87 1 = some (29, 1, 1, z0, 4) := by rw [cod, ctab_87]; rfl
theorem k87_4 : cod 87 4 = some (4, 0, 0, z0, 5) := by rw [cod, ctab_87]; rfl
theorem k87_5 : cod 87 5 = some (29, 1, 3, z0, 8) := by rw [cod, ctab_87]; rfl
theorem k87_8 : cod 87 8 = some (34, 27, 2, vr 7 0, 11) := by rw [cod, ctab_87]; rfl
theorem k87_11 : cod 87 11 = some (5, 1, 0, z0, 12) := by rw [cod, ctab_87]; rfl
theorem k87_12 : cod 87 12 = some (4, 0, 0, z0, 13) := by rw [cod, ctab_87]; rfl
theorem k87_13 : cod 87 13 = some (29, 1, 0, z0, 16) := by rw [cod, ctab_87]; rfl
theorem k87_16 : cod 87 16 = some (0, 0, 0, z0, 17) := by rw [cod, ctab_87]; rfl
theorem k87_17 : cod 87 17 = some (30, 5, 1, z0, 20) := by rw [cod, ctab_87]; rfl
theorem k87_20 : cod 87 20 = some (2, 1, 0, z0, 21) := by rw [cod, ctab_87]; rfl
theorem k87_21 : cod 87 21 = some (27, 0, 26, z0, 24) := by rw [cod, ctab_87]; rfl
theorem k87_24 : cod 87 24 = some (2, 1, 0, z0, 25) := by rw [cod, ctab_87]; rfl
theorem k87_25 : cod 87 25 = some (36, 1, 0, z0, 26) := by rw [cod, ctab_87]; rfl
theorem k87_26 : cod 87 26 = some (4, 0, 0, z0, 27) := by rw [cod, ctab_87]; rfl
theorem k87_27 : cod 87 27 = some (29, 1, 2, z0, 30) := by rw [cod, ctab_87]; rfl
theorem k87_30 : cod 87 30 = some (7, 2, 0, z0, 31) := by rw [cod, ctab_87]; rfl
theorem k87_31 : cod 87 31 = some (4, 0, 0, z0, 32) := by rw [cod, ctab_87]; rfl
theorem k87_32 : cod 87 32 = some (4, 0, 0, z0, 33) := by rw [cod, ctab_87]; rfl
theorem k87_33 : cod 87 33 = some (29, 1, 3, z0, 36) := by rw [cod, ctab_87]; rfl
theorem k87_36 : cod 87 36 = some (30, 1, 2, z0, 39) := by rw [cod, ctab_87]; rfl
theorem k87_39 : cod 87 39 = some (4, 0, 0, z0, 40) := by rw [cod, ctab_87]; rfl
theorem k87_40 : cod 87 40 = some (4, 2, 0, z0, 41) := by rw [cod, ctab_87]; rfl
theorem k87_41 : cod 87 41 = some (30, 1, 3, z0, 44) := by rw [cod, ctab_87]; rfl
theorem k87_44 : cod 87 44 = some (4, 0, 0, z0, 45) := by rw [cod, ctab_87]; rfl
theorem k87_45 : cod 87 45 = some (29, 1, 5, z0, 48) := by rw [cod, ctab_87]; rfl
theorem k87_48 : cod 87 48 = some (4, 0, 0, z0, 49) := by rw [cod, ctab_87]; rfl
theorem k87_49 : cod 87 49 = some (29, 1, 2, z0, 52) := by rw [cod, ctab_87]; rfl
theorem k87_52 : cod 87 52 = some (34, 40, 2, vr 23 0, 55) := by rw [cod, ctab_87]; rfl
theorem k87_55 : cod 87 55 = some (4, 0, 0, z0, 56) := by rw [cod, ctab_87]; rfl
theorem k87_56 : cod 87 56 = some (29, 1, 7, z0, 59) := by rw [cod, ctab_87]; rfl
theorem k87_59 : cod 87 59 = some (34, 20, 1, vr 29 0, 62) := by rw [cod, ctab_87]; rfl
theorem k87_62 : cod 87 62 = some (0, 0, 0, z0, 63) := by rw [cod, ctab_87]; rfl
theorem k87_63 : cod 87 63 = some (5, 3, 0, z0, 64) := by rw [cod, ctab_87]; rfl
theorem k87_64 : cod 87 64 = some (2, 3, 0, z0, 65) := by rw [cod, ctab_87]; rfl
theorem k87_65 : cod 87 65 = some (0, 0, 0, vi (4), 66) := by rw [cod, ctab_87]; rfl
theorem k87_66 : cod 87 66 = some (28, 3, 85, z0, 69) := by rw [cod, ctab_87]; rfl
theorem k87_69 : cod 87 69 = some (4, 0, 0, z0, 70) := by rw [cod, ctab_87]; rfl
theorem k87_70 : cod 87 70 = some (29, 1, 6, z0, 73) := by rw [cod, ctab_87]; rfl
theorem k87_73 : cod 87 73 = some (2, 3, 0, z0, 74) := by rw [cod, ctab_87]; rfl
theorem k87_74 : cod 87 74 = some (31, 5, 0, z0, 75) := by rw [cod, ctab_87]; rfl
theorem k87_75 : cod 87 75 = some (0, 0, 0, z0, 76) := by rw [cod, ctab_87]; rfl
theorem k87_76 : cod 87 76 = some (30, 23, 3, z0, 79) := by rw [cod, ctab_87]; rfl
theorem k87_79 : cod 87 79 = some (8, 3, 0, vi (1), 82) := by rw [cod, ctab_87]; rfl
theorem k87_82 : cod 87 82 = some (26, 64, 0, z0, 85) := by rw [cod, ctab_87]; rfl
theorem k87_85 : cod 87 85 = some (0, 0, 0, z0, 86) := by rw [cod, ctab_87]; rfl
theorem k87_86 : cod 87 86 = some (36, 1, 0, z0, 87) := by rw [cod, ctab_87]; rfl
theorem ctab_88 : ctab.getD 88 [] = cd88 := rfl
theorem k88_0 : cod 88 0 = some (4, 0, 0, z0, 1) := by rw [cod, ctab_88]; rfl
theorem k88_1 : cod 88 1 = some (29, 1, 1, z0, 4) := by rw [cod, ctab_88]; rfl
theorem k88_4 : cod 88 4 = some (4, 0, 0, z0, 5) := by rw [cod, ctab_88]; rfl
theorem k88_5 : cod 88 5 = some (29, 1, 2, z0, 8) := by rw [cod, ctab_88]; rfl
theorem k88_8 : cod 88 8 = some (4, 0, 0, z0, 9) := by rw [cod, ctab_88]; rfl
theorem k88_9 : cod 88 9 = some (29, 1, 4, z0, 12) := by rw [cod, ctab_88]; rfl
theorem k88_12 : cod 88 12 = some (34, 34, 3, vr 7 0, 15) := by rw [cod, ctab_88]; rfl
theorem k88_15 : cod 88 15 = some (5, 1, 0, z0, 16) := by rw [cod, ctab_88]; rfl
theorem k88_16 : cod 88 16 = some (4, 0, 0, z0, 17) := by rw [cod, ctab_88]; rfl
theorem k88_17 : cod 88 17 = some (29, 1, 0, z0, 20) := by rw [cod, ctab_88]; rfl
theorem k88_20 : cod 88 20 = some (0, 0, 0, z0, 21) := by rw [cod, ctab_88]; rfl
theorem k88_21 : cod 88 21 = some (30, 5, 1, z0, 24) := by rw [cod, ctab_88]; rfl
theorem k88_24 : cod 88 24 = some (2, 1, 0, z0, 25) := by rw [cod, ctab_88]; rfl
theorem k88_25 : cod 88 25 = some (27, 1, 42, z0, 28) := by rw [cod, ctab_88]; rfl
theorem k88_28 : cod 88 28 = some (4, 0, 0, z0, 29) := by rw [cod, ctab_88]; rfl
theorem k88_29 : cod 88 29 = some (29, 1, 5, z0, 32) := by rw [cod, ctab_88]; rfl
theorem k88_32 : cod 88 32 = some (29, 23, 1, z0, 35) := by rw [cod, ctab_88]; rfl
theorem k88_35 : cod 88 35 = some (4, 0, 0, z0, 36) := by rw [cod, ctab_88]; rfl
theorem k88_36 : cod 88 36 = some (29, 1, 4, z0, 39) := by rw [cod, ctab_88]; rfl
theorem k88_39 : cod 88 39 = some (34, 84, 2, vr 19 0, 42) := by rw [cod, ctab_88]; rfl
theorem k88_42 : cod 88 42 = some (2, 1, 0, z0, 43) := by rw [cod, ctab_88]; rfl
theorem k88_43 : cod 88 43 = some (36, 1, 0, z0, 44) := by rw [cod, ctab_88]; rfl
theorem ctab_89 : ctab.getD 89 [] = cd89 := rfl
theorem k89_0 : cod 89 0 = some (4, 0, 0, z0, 1) := by rw [cod, ctab_89]; rfl
theorem k89_1 : cod 89 1 = some (2, 1, 0, z0, 2) := by rw [cod, ctab_89]; rfl
theorem k89_2 : cod 89 2 = some (34, 115, 2, vr 1 0, 5) := by rw [cod, ctab_89]; rfl
theorem k89_5 : cod 89 5 = some (27, 1, 10, z0, 8) := by rw [cod, ctab_89]; rfl
theorem k89_8 : cod 89 8 = some (0, 0, 0, vi (-1), 9) := by rw [cod, ctab_89]; rfl
theorem k89_9 : cod 89 9 = some (36, 1, 0, z0, 10) := by rw [cod, ctab_89]; rfl
theorem k89_10 : cod 89 10 = some (4, 0, 0, z0, 11) := by rw [cod, ctab_89]; rfl
theorem k89_11 : cod 89 11 = some (29, 1, 5, z0, 14) := by rw [cod, ctab_89]; rfl
theorem k89_14 : cod 89 14 = some (29, 23, 0, z0, 17) := by rw [cod, ctab_89]; rfl
theorem k89_17 : cod 89 17 = some (7, 3, 0, z0, 18) := by rw [cod, ctab_89]; rfl
theorem k89_18 : cod 89 18 = some (2, 2, 0, z0, 19) := by rw [cod, ctab_89]; rfl
theorem k89_19 : cod 89 19 = some (38, 3, 0, z0, 56) := by rw [cod, ctab_89]; rfl
theorem k89_56 : cod 89 56 = some (4, 0, 0, z0, 57) := by rw [cod, ctab_89]; rfl
theorem k89_57 : cod 89 57 = some (29, 1, 2, z0, 60) := by rw [cod, ctab_89]; rfl
theorem k89_60 : cod 89 60 = some (29, 9, 3, z0, 63) := by rw [cod, ctab_89]; rfl
theorem k89_63 : cod 89 63 = some (2, 1, 0, z0, 64) := by rw [cod, ctab_89]; rfl
theorem k89_64 : cod 89 64 = some (31, 1, 0, z0, 65) := by rw [cod, ctab_89]; rfl
theorem k89_65 : cod 89 65 = some (36, 1, 0, z0, 66) := by rw [cod, ctab_89]; rfl
theorem k89_66 : cod 89 66 = some (4, 3, 0, z0, 67) := by rw [cod, ctab_89]; rfl
theorem k89_67 : cod 89 67 = some (29, 25, 0, z0, 70) := by rw [cod, ctab_89]; rfl
theorem k89_70 : cod 89 70 = some (2, 1, 0, z0, 71) := by rw [cod, ctab_89]; rfl
theorem k89_71 : cod 89 71 = some (31, 1, 0, z0, 72) := by rw [cod, ctab_89]; rfl
theorem k89_72 : cod 89 72 = some (36, 1, 0, z0, 73) := by rw [cod, ctab_89]; rfl
theorem k89_73 : cod 89 73 = some (4, 3, 0, z0, 74) := by rw [cod, ctab_89]; rfl
theorem k89_74 : cod 89 74 = some (29, 25, 1, z0, 77) := by rw [cod, ctab_89]; rfl
theorem k89_77 : cod 89 77 = some (2, 1, 0, z0, 78) := by rw [cod, ctab_89]; rfl
theorem k89_78 : cod 89 78 = some (31, 1, 0, z0, 79) := by rw [cod, ctab_89]; rfl
theorem k89_79 : cod 89 79 = some (36, 1, 0, z0, 80) := by rw [cod, ctab_89]; rfl
theorem k89_80 : cod 89 80 = some (4, 3, 0, z0, 81) := by rw [cod, ctab_89]; rfl
theorem k89_81 : cod 89 81 = some (2, 1, 0, z0, 82) := by rw [cod, ctab_89]; rfl
theorem k89_82 : cod 89 82 = some (34, 46, 2, vr 25 0, 85) := by rw [cod, ctab_89]; rfl
theorem k89_85 : cod 89 85 = some (27, 0, 92, z0, 88) := by rw [cod, ctab_89]; rfl
theorem k89_88 : cod 89 88 = some (0, 0, 0, vi (1), 89) := by rw [cod, ctab_89]; rfl
theorem k89_89 : cod 89 89 = some (26, 93, 0, z0, 92) := by rw [cod, ctab_89]; rfl
theorem k89_92 : cod 89 92 = some (0, 0, 0, z0, 93) := by rw [cod, ctab_89]; rfl
theorem k89_93 : cod 89 93 = some (36, 1, 0, z0, 94) := by rw [cod, ctab_89]; rfl
theorem k89_94 : cod 89 94 = some (4, 3, 0, z0, 95) := by rw [cod, ctab_89]; rfl
theorem k89_95 : cod 89 95 = some (2, 1, 0, z0, 96) := by rw [cod, ctab_89]; rfl
theorem k89_96 : cod 89 96 = some (34, 47, 2, vr 25 0, 99) := by rw [cod, ctab_89]; rfl
theorem k89_99 : cod 89 99 = some (27, 0, 106, z0, 102) := by rw [cod, ctab_89]; rfl
theorem k89_102 : cod 89 102 = some (0, 0, 0, vi (1), 103) := by rw [cod, ctab_89]; rfl
theorem k89_103 : cod 89 103 = some (26, 107, 0, z0, 106) := by rw [cod, ctab_89]; rfl
theorem k89_106 : cod 89 106 = some (0, 0, 0, z0, 107) := by rw [cod, ctab_89]; rfl
theorem k89_107 : cod 89 107 = some (36, 1, 0, z0, 108) := by rw [cod, ctab_89]; rfl
theorem k89_108 : cod 89 108 = some (4, 3, 0, z0, 109) := by rw [cod, ctab_89]; rfl
theorem k89_109 : cod 89 109 = some (4, 0, 0, z0, 110) := by rw [cod, ctab_89]; rfl
theorem k89_110 : cod 89 110 = some (29, 1, 2, z0, 113) := by rw [cod, ctab_89]; rfl
theorem k89_113 : cod 89 113 = some (2, 1, 0, z0, 114) := by rw [cod, ctab_89]; rfl
theorem k89_114 : cod 89 114 = some (34, 52, 3, vr 25 0, 117) := by rw [cod, ctab_89]; rfl
theorem k89_117 : cod 89 117 = some (36, 1, 0, z0, 118) := by rw [cod, ctab_89]; rfl
theorem k89_118 : cod 89 118 = some (0, 0, 0, vi (-1), 119) := by rw [cod, ctab_89]; rfl
theorem k89_119 : cod 89 119 = some (36, 1, 0, z0, 120) := by rw [cod, ctab_89]; rfl
theorem ctab_90 : ctab.getD 90 [] = cd90 := rfl
theorem k90_0 : cod 90 0 = some (4, 0, 0, z0, 1) := by rw [cod, ctab_90]; rfl
theorem k90_1 : cod 90 1 = some (2, 1, 0, z0, 2) := by rw [cod, ctab_90]; rfl
theorem k90_2 : cod 90 2 = some (2, 2, 0, z0, 3) := by rw [cod, ctab_90]; rfl
theorem k90_3 : cod 90 3 = some (34, 117, 3, vr 1 0, 6) := by rw [cod, ctab_90]; rfl
theorem k90_6 : cod 90 6 = some (27, 0, 29, z0, 9) := by rw [cod, ctab_90]; rfl
theorem k90_9 : cod 90 9 = some (4, 0, 0, z0, 10) := by rw [cod, ctab_90]; rfl
theorem k90_10 : cod 90 10 = some (29, 1, 5, z0, 13) := by rw [cod, ctab_90]; rfl
theorem k90_13 : cod 90 13 = some (29, 23, 0, z0, 16) := by rw [cod, ctab_90]; rfl
theorem k90_16 : cod 90 16 = some (29, 25, 2, z0, 19) := by rw [cod, ctab_90]; rfl
theorem k90_19 : cod 90 19 = some (2, 1, 0, z0, 20) := by rw [cod, ctab_90]; rfl
theorem k90_20 : cod 90 20 = some (0, 0, 0, vi (6), 22) := by rw [cod, ctab_90]; rfl
theorem k90_22 : cod 90 22 = some (9, 2, 0, z0, 23) := by rw [cod, ctab_90]; rfl
theorem k90_23 : cod 90 23 = some (2, 2, 0, z0, 24) := by rw [cod, ctab_90]; rfl
theorem k90_24 : cod 90 24 = some (9, 0, 0, z0, 25) := by rw [cod, ctab_90]; rfl
theorem k90_25 : cod 90 25 = some (31, 1, 0, z0, 26) := by rw [cod, ctab_90]; rfl
theorem k90_26 : cod 90 26 = some (26, 30, 0, z0, 29) := by rw [cod, ctab_90]; rfl
theorem k90_29 : cod 90 29 = some (0, 0, 0, vi (-1), 30) := by rw [cod, ctab_90]; rfl
theorem k90_30 : cod 90 30 = some (36, 1, 0, z0, 31) := by rw [cod, ctab_90]; rfl
theorem ctab_91 : ctab.getD 91 [] = cd91 := rfl
theorem k91_0 : cod 91 0 = some (4, 0, 0, z0, 1) := by rw [cod, ctab_91]; rfl
theorem k91_1 : cod 91 1 = some (2, 1, 0, z0, 2) := by rw [cod, ctab_91]; rfl
theorem k91_2 : cod 91 2 = some (34, 116, 2, vr 1 0, 5) := by rw [cod, ctab_91]; rfl
theorem k91_5 : cod 91 5 = some (27, 0, 20, z0, 8) := by rw [cod, ctab_91]; rfl
theorem k91_8 : cod 91 8 = some (4, 0, 0, z0, 9) := by rw [cod, ctab_91]; rfl
theorem k91_9 : cod 91 9 = some (29, 1, 2, z0, 12) := by rw [cod, ctab_91]; rfl
theorem k91_12 : cod 91 12 = some (29, 9, 1, z0, 15) := by rw [cod, ctab_91]; rfl
theorem k91_15 : cod 91 15 = some (2, 1, 0, z0, 16) := by rw [cod, ctab_91]; rfl
theorem k91_16 : cod 91 16 = some (31, 1, 0, z0, 17) := by rw [cod, ctab_91]; rfl
theorem k91_17 : cod 91 17 = some (26, 21, 0, z0, 20) := by rw [cod, ctab_91]; rfl
theorem k91_20 : cod 91 20 = some (0, 0, 0, vi (-1), 21) := by rw [cod, ctab_91]; rfl
theorem k91_21 : cod 91 21 = some (36, 1, 0, z0, 22) := by rw [cod, ctab_91]; rfl
theorem ctab_92 : ctab.getD 92 [] = cd92 := rfl
theorem k92_0 : cod 92 0 = some (4, 0, 0, z0, 1) := by rw [cod, ctab_92]; rfl
theorem k92_1 : cod 92 1 = some (2, 1, 0, z0, 2) := by rw [cod, ctab_92]; rfl
theorem k92_2 : cod 92 2 = some (2, 2, 0, z0, 3) := by rw [cod, ctab_92]; rfl
theorem k92_3 : cod 92 3 = some (34, 117, 3, vr 1 0, 6) := by rw [cod, ctab_92]; rfl
theorem k92_6 : cod 92 6 = some (27, 1, 11, z0, 9) := by rw [cod, ctab_92]; rfl
theorem k92_9 : cod 92 9 = some (0, 0, 0, vi (-1), 10) := by rw [cod, ctab_92]; rfl
theorem k92_10 : cod 92 10 = some (36, 1, 0, z0, 11) := by rw [cod, ctab_92]; rfl
theorem k92_11 : cod 92 11 = some (4, 0, 0, z0, 12) := by rw [cod, ctab_92]; rfl
theorem k92_12 : cod 92 12 = some (29, 1, 5, z0, 15) := by rw [cod, ctab_92]; rfl
theorem k92_15 : cod 92 15 = some (29, 23, 0, z0, 18) := by rw [cod, ctab_92]; rfl
theorem k92_18 : cod 92 18 = some (4, 0, 0, z0, 19) := by rw [cod, ctab_92]; rfl
theorem k92_19 : cod 92 19 = some (29, 1, 2, z0, 22) := by rw [cod, ctab_92]; rfl
theorem k92_22 : cod 92 22 = some (2, 1, 0, z0, 23) := by rw [cod, ctab_92]; rfl
theorem k92_23 : cod 92 23 = some (2, 2, 0, z0, 24) := by rw [cod, ctab_92]; rfl
theorem k92_24 : cod 92 24 = some (4, 0, 0, z0, 25) := by rw [cod, ctab_92]; rfl
theorem k92_25 : cod 92 25 = some (29, 1, 5, z0, 28) := by rw [cod, ctab_92]; rfl
theorem k92_28 : cod 92 28 = some (29, 23, 0, z0, 31) := by rw [cod, ctab_92]; rfl
theorem k92_31 : cod 92 31 = some (29, 25, 1, z0, 34) := by rw [cod, ctab_92]; rfl
theorem k92_34 : cod 92 34 = some (2, 2, 0, z0, 35) := by rw [cod, ctab_92]; rfl
theorem k92_35 : cod 92 35 = some (31, 1, 0, z0, 36) := by rw [cod, ctab_92]; rfl
theorem k92_36 : cod 92 36 = some (34, 58, 5, vr 25 0, 39) := by rw [cod, ctab_92]; rfl
theorem k92_39 : cod 92 39 = some (36, 1, 0, z0, 40) := by rw [cod, ctab_92]; rfl
theorem ctab_93 : ctab.getD 93 [] = cd93 := rfl
theorem k93_0 : cod 93 0 = some (4, 0, 0, z0, 1) := by rw [cod, ctab_93]; rfl
theorem k93_1 : cod 93 1 = some (2, 1, 0, z0, 2) := by rw [cod, ctab_93]; rfl
theorem k93_2 : cod 93 2 = some (34, 115, 2, vr 1 0, 5) := by rw [cod, ctab_93]; rfl
theorem k93_5 : cod 93 5 = some (27, 0, 35, z0, 8) := by rw [cod, ctab_93]; rfl
theorem k93_8 : cod 93 8 = some (4, 0, 0, z0, 9) := by rw [cod, ctab_93]; rfl
theorem k93_9 : cod 93 9 = some (2, 2, 0, z0, 10) := by rw [cod, ctab_93]; rfl
theorem k93_10 : cod 93 10 = some (34, 116, 2, vr 1 0, 13) := by rw [cod, ctab_93]; rfl
theorem k93_13 : cod 93 13 = some (27, 0, 35, z0, 16) := by rw [cod, ctab_93]; rfl
theorem k93_16 : cod 93 16 = some (4, 0, 0, z0, 17) := by rw [cod, ctab_93]; rfl
theorem k93_17 : cod 93 17 = some (29, 1, 5, z0, 20) := by rw [cod, ctab_93]; rfl
theorem k93_20 : cod 93 20 = some (29, 23, 0, z0, 23) := by rw [cod, ctab_93]; rfl
theorem k93_23 : cod 93 23 = some (4, 0, 0, z0, 24) := by rw [cod, ctab_93]; rfl
theorem k93_24 : cod 93 24 = some (29, 1, 2, z0, 27) := by rw [cod, ctab_93]; rfl
theorem k93_27 : cod 93 27 = some (2, 1, 0, z0, 28) := by rw [cod, ctab_93]; rfl
theorem k93_28 : cod 93 28 = some (2, 2, 0, z0, 29) := by rw [cod, ctab_93]; rfl
theorem k93_29 : cod 93 29 = some (34, 54, 4, vr 25 0, 32) := by rw [cod, ctab_93]; rfl
theorem k93_32 : cod 93 32 = some (27, 1, 37, z0, 35) := by rw [cod, ctab_93]; rfl
theorem k93_35 : cod 93 35 = some (0, 0, 0, z0, 36) := by rw [cod, ctab_93]; rfl
theorem k93_36 : cod 93 36 = some (36, 2, 0, z0, 37) := by rw [cod, ctab_93]; rfl
theorem k93_37 : cod 93 37 = some (4, 0, 0, z0, 38) := by rw [cod, ctab_93]; rfl
theorem k93_38 : cod 93 38 = some (29, 1, 7, z0, 41) := by rw [cod, ctab_93]; rfl
theorem k93_41 : cod 93 41 = some (4, 0, 0, z0, 42) := by rw [cod, ctab_93]; rfl
theorem k93_42 : cod 93 42 = some (29, 1, 5, z0, 45) := by rw [cod, ctab_93]; rfl
theorem k93_45 : cod 93 45 = some (29, 23, 0, z0, 48) := by rw [cod, ctab_93]; rfl
theorem k93_48 : cod 93 48 = some (34, 21, 2, vr 29 0, 51) := by rw [cod, ctab_93]; rfl
theorem k93_51 : cod 93 51 = some (4, 0, 0, z0, 52) := by rw [cod, ctab_93]; rfl
theorem k93_52 : cod 93 52 = some (29, 1, 5, z0, 55) := by rw [cod, ctab_93]; rfl
theorem k93_55 : cod 93 55 = some (29, 23, 0, z0, 58) := by rw [cod, ctab_93]; rfl
theorem k93_58 : cod 93 58 = some (29, 25, 0, z0, 61) := by rw [cod, ctab_93]; rfl
theorem k93_61 : cod 93 61 = some (2, 1, 0, z0, 62) := by rw [cod, ctab_93]; rfl
theorem k93_62 : cod 93 62 = some (2, 2, 0, z0, 63) := by rw [cod, ctab_93]; rfl
theorem k93_63 : cod 93 63 = some (32, 1, 0, z0, 64) := by rw [cod, ctab_93]; rfl
theorem k93_64 : cod 93 64 = some (0, 0, 0, vi (1), 65) := by rw [cod, ctab_93]; rfl
theorem k93_65 : cod 93 65 = some (36, 2, 0, z0, 66) := by rw [cod, ctab_93]; rfl
theorem ctab_94 : ctab.getD 94 [] = cd94 := rfl
theorem k94_0 : cod 94 0 = some (4, 0, 0, z0, 1) := by rw [cod, ctab_94]; rfl
theorem k94_1 : cod 94 1 = some (2, 1, 0, z0, 2) := by rw [cod, ctab_94]; rfl
theorem k94_2 : cod 94 2 = some (2, 2, 0, z0, 3) := by rw [cod, ctab_94]; rfl
theorem k94_3 : cod 94 3 = some (34, 117, 3, vr 1 0, 6) := by rw [cod, ctab_94]; rfl
theorem k94_6 : cod 94 6 = some (27, 0, 28, z0, 9) := by rw [cod, ctab_94]; rfl
theorem k94_9 : cod 94 9 = some (4, 0, 0, z0, 10) := by rw [cod, ctab_94]; rfl
theorem k94_10 : cod 94 10 = some (29, 1, 5, z0, 13) := by rw [cod, ctab_94]; rfl
theorem k94_13 : cod 94 13 = some (29, 23, 0, z0, 16) := by rw [cod, ctab_94]; rfl
theorem k94_16 : cod 94 16 = some (4, 0, 0, z0, 17) := by rw [cod, ctab_94]; rfl
theorem k94_17 : cod 94 17 = some (29, 1, 2, z0, 20) := by rw [cod, ctab_94]; rfl
theorem k94_20 : cod 94 20 = some (2, 1, 0, z0, 21) := by rw [cod, ctab_94]; rfl
theorem k94_21 : cod 94 21 = some (2, 2, 0, z0, 22) := by rw [cod, ctab_94]; rfl
theorem k94_22 : cod 94 22 = some (34, 56, 4, vr 25 0, 25) := by rw [cod, ctab_94]; rfl
theorem k94_25 : cod 94 25 = some (27, 1, 30, z0, 28) := by rw [cod, ctab_94]; rfl
theorem k94_28 : cod 94 28 = some (0, 0, 0, vi (-1), 29) := by rw [cod, ctab_94]; rfl
theorem k94_29 : cod 94 29 = some (36, 1, 0, z0, 30) := by rw [cod, ctab_94]; rfl
theorem k94_30 : cod 94 30 = some (4, 0, 0, z0, 31) := by rw [cod, ctab_94]; rfl
theorem k94_31 : cod 94 31 = some (29, 1, 7, z0, 34) := by rw [cod, ctab_94]; rfl
theorem k94_34 : cod 94 34 = some (4, 0, 0, z0, 35) := by rw [cod, ctab_94]; rfl
theorem k94_35 : cod 94 35 = some (29, 1, 5, z0, 38) := by rw [cod, ctab_94]; rfl
theorem k94_38 : cod 94 38 = some (29, 23, 0, z0, 41) := by rw [cod, ctab_94]; rfl
theorem k94_41 : cod 94 41 = some (34, 21, 2, vr 29 0, 44) := by rw [cod, ctab_94]; rfl
theorem k94_44 : cod 94 44 = some (4, 0, 0, z0, 45) := by rw [cod, ctab_94]; rfl
theorem k94_45 : cod 94 45 = some (29, 1, 5, z0, 48) := by rw [cod, ctab_94]; rfl
theorem k94_48 : cod 94 48 = some (29, 23, 0, z0, 51) := by rw [cod, ctab_94]; rfl
theorem k94_51 : cod 94 51 = some (4, 0, 0, z0, 52) := by rw [cod, ctab_94]; rfl
theorem k94_52 : cod 94 52 = some (29, 1, 2, z0, 55) := by rw [cod, ctab_94]; rfl
theorem k94_55 : cod 94 55 = some (2, 1, 0, z0, 56) := by rw [cod, ctab_94]; rfl
theorem k94_56 : cod 94 56 = some (2, 2, 0, z0, 57) := by rw [cod, ctab_94]; rfl
theorem k94_57 : cod 94 57 = some (34, 59, 4, vr 25 0, 60) := by rw [cod, ctab_94]; rfl
theorem k94_60 : cod 94 60 = some (4, 0, 0, z0, 61) := by rw [cod, ctab_94]; rfl
theorem k94_61 : cod 94 61 = some (29, 1, 5, z0, 64) := by rw [cod, ctab_94]; rfl
theorem k94_64 : cod 94 64 = some (29, 23, 0, z0, 67) := by rw [cod, ctab_94]; rfl
theorem k94_67 : cod 94 67 = some (29, 25, 1, z0, 70) := by rw [cod, ctab_94]; rfl
theorem k94_70 : cod 94 70 = some (2, 2, 0, z0, 71) := by rw [cod, ctab_94]; rfl
theorem k94_71 : cod 94 71 = some (31, 1, 0, z0, 72) := by rw [cod, ctab_94]; rfl
theorem k94_72 : cod 94 72 = some (36, 1, 0, z0, 73) := by rw [cod, ctab_94]; rfl
theorem ctab_95 : ctab.getD 95 [] = cd95 := rfl
theorem k95_0 : cod 95 0 = some (4, 0, 0, z0, 1) := by rw [cod, ctab_95]; rfl
theorem k95_1 : cod 95 1 = some (2, 1, 0, z0, 2) := by rw [cod, ctab_95]; rfl
theorem k95_2 : cod 95 2 = some (34, 115, 2, vr 1 0, 5) := by rw [cod, ctab_95]; rfl
theorem k95_5 : cod 95 5 = some (27, 0, 22, z0, 8) := by rw [cod, ctab_95]; rfl
theorem k95_8 : cod 95 8 = some (4, 0, 0, z0, 9) := by rw [cod, ctab_95]; rfl
theorem k95_9 : cod 95 9 = some (29, 1, 5, z0, 12) := by rw [cod, ctab_95]; rfl
theorem k95_12 : cod 95 12 = some (29, 23, 0, z0, 15) := by rw [cod, ctab_95]; rfl
theorem k95_15 : cod 95 15 = some (2, 1, 0, z0, 16) := by rw [cod, ctab_95]; rfl
theorem k95_16 : cod 95 16 = some (34, 46, 2, vr 25 0, 19) := by rw [cod, ctab_95]; rfl
theorem k95_19 : cod 95 19 = some (27, 1, 24, z0, 22) := by rw [cod, ctab_95]; rfl
theorem k95_22 : cod 95 22 = some (0, 0, 0, z0, 23) := by rw [cod, ctab_95]; rfl
theorem k95_23 : cod 95 23 = some (36, 2, 0, z0, 24) := by rw [cod, ctab_95]; rfl
theorem k95_24 : cod 95 24 = some (4, 0, 0, z0, 25) := by rw [cod, ctab_95]; rfl
theorem k95_25 : cod 95 25 = some (29, 1, 7, z0, 28) := by rw [cod, ctab_95]; rfl
theorem k95_28 : cod 95 28 = some (4, 0, 0, z0, 29) := by rw [cod, ctab_95]; rfl
theorem k95_29 : cod 95 29 = some (29, 1, 5, z0, 32) := by rw [cod, ctab_95]; rfl
theorem k95_32 : cod 95 32 = some (29, 23, 0, z0, 35) := by rw [cod, ctab_95]; rfl
theorem k95_35 : cod 95 35 = some (34, 21, 2, vr 29 0, 38) := by rw [cod, ctab_95]; rfl
theorem k95_38 : cod 95 38 = some (4, 0, 0, z0, 39) := by rw [cod, ctab_95]; rfl
theorem k95_39 : cod 95 39 = some (29, 1, 5, z0, 42) := by rw [cod, ctab_95]; rfl
theorem k95_42 : cod 95 42 = some (29, 23, 0, z0, 45) := by rw [cod, ctab_95]; rfl
theorem k95_45 : cod 95 45 = some (2, 1, 0, z0, 46) := by rw [cod, ctab_95]; rfl
theorem k95_46 : cod 95 46 = some (34, 60, 2, vr 25 0, 49) := by rw [cod, ctab_95]; rfl
theorem k95_49 : cod 95 49 = some (0, 0, 0, vi (1), 50) := by rw [cod, ctab_95]; rfl
theorem k95_50 : cod 95 50 = some (36, 2, 0, z0, 51) := by rw [cod, ctab_95]; rfl
theorem ctab_96 : ctab.getD 96 [] = cd96 := rfl
theorem k96_0 : cod 96 0 = some (4, 0, 0, z0, 1) := by rw [cod, ctab_96]; rfl
theorem k96_1 : cod 96 1 = some (29, 1, 7, z0, 4) := by rw [cod, ctab_96]; rfl
theorem k96_4 : cod 96 4 = some (4, 0, 0, z0, 5) := by rw [cod, ctab_96]; rfl
theorem k96_5 : cod 96 5 = some (29, 1, 5, z0, 8) := by rw [cod, ctab_96]; rfl
theorem k96_8 : cod 96 8 = some (29, 23, 0, z0, 11) := by rw [cod, ctab_96]; rfl
theorem k96_11 : cod 96 11 = some (34, 21, 2, vr 29 0, 14) := by rw [cod, ctab_96]; rfl
theorem k96_14 : cod 96 14 = some (4, 0, 0, z0, 15) := by rw [cod, ctab_96]; rfl
theorem k96_15 : cod 96 15 = some (29, 1, 5, z0, 18) := by rw [cod, ctab_96]; rfl
theorem k96_18 : cod 96 18 = some (29, 23, 0, z0, 21) := by rw [cod, ctab_96]; rfl
theorem k96_21 : cod 96 21 = some (4, 0, 0, z0, 22) := by rw [cod, ctab_96]; rfl
theorem k96_22 : cod 96 22 = some (29, 1, 2, z0, 25) := by rw [cod, ctab_96]; rfl
theorem k96_25 : cod 96 25 = some (34, 61, 2, vr 25 0, 28) := by rw [cod, ctab_96]; rfl
theorem k96_28 : cod 96 28 = some (36, 1, 0, z0, 29) := by rw [cod, ctab_96]; rfl
theorem ctab_97 : ctab.getD 97 [] = cd97 := rfl
theorem k97_0 : cod 97 0 = some (4, 0, 0, z0, 1) := by rw [cod, ctab_97]; rfl
theorem k97_1 : cod 97 1 = some (29, 1, 7, z0, 4) := by rw [cod, ctab_97]; rfl
theorem k97_4 : cod 97 4 = some (4, 0, 0, z0, 5) := by rw [cod, ctab_97]; rfl
theorem k97_5 : cod 97 5 = some (29, 1, 5, z0, 8) := by rw [cod, ctab_97]; rfl
theorem k97_8 : cod 97 8 = some (29, 23, 0, z0, 11) := by rw [cod, ctab_97]; rfl
theorem k97_11 : cod 97 11 = some (34, 22, 2, vr 29 0, 14) := by rw [cod, ctab_97]; rfl
theorem k97_14 : cod 97 14 = some (36, 2, 0, z0, 15) := by rw [cod, ctab_97]; rfl
theorem ctab_98 : ctab.getD 98 [] = cd98 := rfl
theorem k98_0 : cod 98 0 = some (2, 1, 0, z0, 1) := by rw [cod, ctab_98]; rfl
theorem k98_1 : cod 98 1 = some (27, 2, 9, z0, 4) := by rw [cod, ctab_98]; rfl
theorem k98_4 : cod 98 4 = some (2, 1, 0, z0, 5) := by rw [cod, ctab_98]; rfl
theorem k98_5 : cod 98 5 = some (0, 0, 0, vi (2), 6) := by rw [cod, ctab_98]; rfl
theorem k98_6 : cod 98 6 = some (28, 5, 12, z0, 9) := by rw [cod, ctab_98]; rfl
theorem k98_9 : cod 98 9 = some (0, 0, 0, vi (-2), 11) := by rw [cod, ctab_98]; rfl
theorem k98_11 : cod 98 11 = some (36, 1, 0, z0, 12) := by rw [cod, ctab_98]; rfl
theorem k98_12 : cod 98 12 = some (0, 0, 0, vi (-1), 13) := by rw [cod, ctab_98]; rfl
theorem k98_13 : cod 98 13 = some (5, 2, 0, z0, 14) := by rw [cod, ctab_98]; rfl
theorem k98_14 : cod 98 14 = some (0, 0, 0, vi (-1), 15) := by rw [cod, ctab_98]; rfl
theorem k98_15 : cod 98 15 = some (5, 3, 0, z0, 16) := by rw [cod, ctab_98]; rfl
theorem k98_16 : cod 98 16 = some (4, 0, 0, z0, 17) := by rw [cod, ctab_98]; rfl
theorem k98_17 : cod 98 17 = some (29, 1, 8, z0, 20) := by rw [cod, ctab_98]; rfl
theorem k98_20 : cod 98 20 = some (4, 0, 0, z0, 21) := by rw [cod, ctab_98]; rfl
theorem k98_21 : cod 98 21 = some (29, 1, 2, z0, 24) := by rw [cod, ctab_98]; rfl
theorem k98_24 : cod 98 24 = some (34, 44, 2, vr 25 0, 27) := by rw [cod, ctab_98]; rfl
theorem k98_27 : cod 98 27 = some (0, 0, 0, z0, 28) := by rw [cod, ctab_98]; rfl
theorem k98_28 : cod 98 28 = some (5, 4, 0, z0, 30) := by rw [cod, ctab_98]; rfl
theorem k98_30 : cod 98 30 = some (2, 4, 0, z0, 32) := by rw [cod, ctab_98]; rfl
theorem k98_32 : cod 98 32 = some (4, 0, 0, z0, 33) := by rw [cod, ctab_98]; rfl
theorem k98_33 : cod 98 33 = some (29, 1, 5, z0, 36) := by rw [cod, ctab_98]; rfl
theorem k98_36 : cod 98 36 = some (29, 23, 1, z0, 39) := by rw [cod, ctab_98]; rfl
theorem k98_39 : cod 98 39 = some (29, 19, 3, z0, 42) := by rw [cod, ctab_98]; rfl
theorem k98_42 : cod 98 42 = some (28, 3, 104, z0, 45) := by rw [cod, ctab_98]; rfl
theorem k98_45 : cod 98 45 = some (4, 0, 0, z0, 46) := by rw [cod, ctab_98]; rfl
theorem k98_46 : cod 98 46 = some (29, 1, 8, z0, 49) := by rw [cod, ctab_98]; rfl
theorem k98_49 : cod 98 49 = some (29, 25, 6, z0, 52) := by rw [cod, ctab_98]; rfl
theorem k98_52 : cod 98 52 = some (5, 5, 0, z0, 54) := by rw [cod, ctab_98]; rfl
theorem k98_54 : cod 98 54 = some (4, 0, 0, z0, 55) := by rw [cod, ctab_98]; rfl
theorem k98_55 : cod 98 55 = some (4, 0, 0, z0, 56) := by rw [cod, ctab_98]; rfl
theorem k98_56 : cod 98 56 = some (29, 1, 5, z0, 59) := by rw [cod, ctab_98]; rfl
theorem k98_59 : cod 98 59 = some (29, 23, 1, z0, 62) := by rw [cod, ctab_98]; rfl
theorem k98_62 : cod 98 62 = some (2, 4, 0, z0, 64) := by rw [cod, ctab_98]; rfl
theorem k98_64 : cod 98 64 = some (34, 118, 3, vr 1 0, 67) := by rw [cod, ctab_98]; rfl
theorem k98_67 : cod 98 67 = some (27, 1, 78, z0, 70) := by rw [cod, ctab_98]; rfl
theorem k98_70 : cod 98 70 = some (2, 2, 0, z0, 71) := by rw [cod, ctab_98]; rfl
theorem k98_71 : cod 98 71 = some (0, 0, 0, vi (-1), 72) := by rw [cod, ctab_98]; rfl
theorem k98_72 : cod 98 72 = some (28, 1, 78, z0, 75) := by rw [cod, ctab_98]; rfl
theorem k98_75 : cod 98 75 = some (2, 4, 0, z0, 77) := by rw [cod, ctab_98]; rfl
theorem k98_77 : cod 98 77 = some (5, 2, 0, z0, 78) := by rw [cod, ctab_98]; rfl
theorem k98_78 : cod 98 78 = some (4, 0, 0, z0, 79) := by rw [cod, ctab_98]; rfl
theorem k98_79 : cod 98 79 = some (29, 1, 8, z0, 82) := by rw [cod, ctab_98]; rfl
theorem k98_82 : cod 98 82 = some (29, 25, 6, z0, 85) := by rw [cod, ctab_98]; rfl
theorem k98_85 : cod 98 85 = some (2, 5, 0, z0, 87) := by rw [cod, ctab_98]; rfl
theorem k98_87 : cod 98 87 = some (28, 5, 98, z0, 90) := by rw [cod, ctab_98]; rfl
theorem k98_90 : cod 98 90 = some (2, 3, 0, z0, 91) := by rw [cod, ctab_98]; rfl
theorem k98_91 : cod 98 91 = some (0, 0, 0, vi (-1), 92) := by rw [cod, ctab_98]; rfl
theorem k98_92 : cod 98 92 = some (28, 1, 98, z0, 95) := by rw [cod, ctab_98]; rfl
theorem k98_95 : cod 98 95 = some (2, 4, 0, z0, 97) := by rw [cod, ctab_98]; rfl
theorem k98_97 : cod 98 97 = some (5, 3, 0, z0, 98) := by rw [cod, ctab_98]; rfl
theorem k98_98 : cod 98 98 = some (8, 4, 0, vi (1), 101) := by rw [cod, ctab_98]; rfl
theorem k98_101 : cod 98 101 = some (26, 30, 0, z0, 104) := by rw [cod, ctab_98]; rfl
theorem k98_104 : cod 98 104 = some (2, 1, 0, z0, 105) := by rw [cod, ctab_98]; rfl
theorem k98_105 : cod 98 105 = some (27, 1, 110, z0, 108) := by rw [cod, ctab_98]; rfl
theorem k98_108 : cod 98 108 = some (2, 2, 0, z0, 109) := by rw [cod, ctab_98]; rfl
theorem k98_109 : cod 98 109 = some (36, 1, 0, z0, 110) := by rw [cod, ctab_98]; rfl
theorem k98_110 : cod 98 110 = some (2, 1, 0, z0, 111) := by rw [cod, ctab_98]; rfl
theorem k98_111 : cod 98 111 = some (0, 0, 0, vi (1), 112) := by rw [cod, ctab_98]; rfl
theorem k98_112 : cod 98 112 = some (28, 1, 119, z0, 115) := by rw [cod, ctab_98]; rfl
theorem k98_115 : cod 98 115 = some (2, 3, 0, z0, 116) := by rw [cod, ctab_98]; rfl
theorem k98_116 : cod 98 116 = some (26, 130, 0, z0, 119) := by rw [cod, ctab_98]; rfl
theorem k98_119 : cod 98 119 = some (4, 0, 0, z0, 120) := by rw [cod, ctab_98]; rfl
theorem k98_120 : cod 98 120 = some (29, 1, 8, z0, 123) := by rw [cod, ctab_98]; rfl
theorem k98_123 : cod 98 123 = some (4, 0, 0, z0, 124) := by rw [cod, ctab_98]; rfl
theorem k98_124 : cod 98 124 = some (29, 1, 2, z0, 127) := by rw [cod, ctab_98]; rfl
theorem k98_127 : cod 98 127 = some (34, 48, 2, vr 25 0, 130) := by rw [cod, ctab_98]; rfl
theorem k98_130 : cod 98 130 = some (36, 1, 0, z0, 131) := by rw [cod, ctab_98]; rfl
theorem ctab_99 : ctab.getD 99 [] = cd99 := rfl
theorem k99_0 : cod 99 0 = some (4, 0, 0, z0, 1) := by rw [cod, ctab_99]; rfl
theorem k99_1 : cod 99 1 = some (2, 1, 0, z0, 2) := by rw [cod, ctab_99]; rfl
theorem k99_2 : cod 99 2 = some (34, 115, 2, vr 1 0, 5) := by rw [cod, ctab_99]; rfl
theorem k99_5 : cod 99 5 = some (27, 1, 10, z0, 8) := by rw [cod, ctab_99]; rfl
theorem k99_8 : cod 99 8 = some (0, 0, 0, vi (-1), 9) := by rw [cod, ctab_99]; rfl
theorem k99_9 : cod 99 9 = some (36, 1, 0, z0, 10) := by rw [cod, ctab_99]; rfl
theorem k99_10 : cod 99 10 = some (4, 0, 0, z0, 11) := by rw [cod, ctab_99]; rfl
theorem k99_11 : cod 99 11 = some (29, 1, 8, z0, 14) := by rw [cod, ctab_99]; rfl
theorem k99_14 : cod 99 14 = some (4, 0, 0, z0, 15) := by rw [cod, ctab_99]; rfl
theorem k99_15 : cod 99 15 = some (29, 1, 5, z0, 18) := by rw [cod, ctab_99]; rfl
theorem k99_18 : cod 99 18 = some (29, 23, 0, z0, 21) := by rw [cod, ctab_99]; rfl
theorem k99_21 : cod 99 21 = some (34, 45, 2, vr 25 0, 24) := by rw [cod, ctab_99]; rfl
theorem k99_24 : cod 99 24 = some (0, 0, 0, z0, 25) := by rw [cod, ctab_99]; rfl
theorem k99_25 : cod 99 25 = some (5, 2, 0, z0, 26) := by rw [cod, ctab_99]; rfl
theorem k99_26 : cod 99 26 = some (2, 2, 0, z0, 27) := by rw [cod, ctab_99]; rfl
theorem k99_27 : cod 99 27 = some (0, 0, 0, vi (99), 29) := by rw [cod, ctab_99]; rfl
theorem k99_29 : cod 99 29 = some (28, 4, 63, z0, 32) := by rw [cod, ctab_99]; rfl
theorem k99_32 : cod 99 32 = some (4, 0, 0, z0, 33) := by rw [cod, ctab_99]; rfl
theorem k99_33 : cod 99 33 = some (29, 1, 8, z0, 36) := by rw [cod, ctab_99]; rfl
theorem k99_36 : cod 99 36 = some (2, 1, 0, z0, 37) := by rw [cod, ctab_99]; rfl
theorem k99_37 : cod 99 37 = some (34, 47, 2, vr 25 0, 40) := by rw [cod, ctab_99]; rfl
theorem k99_40 : cod 99 40 = some (27, 0, 45, z0, 43) := by rw [cod, ctab_99]; rfl
theorem k99_43 : cod 99 43 = some (2, 2, 0, z0, 44) := by rw [cod, ctab_99]; rfl
theorem k99_44 : cod 99 44 = some (36, 1, 0, z0, 45) := by rw [cod, ctab_99]; rfl
theorem k99_45 : cod 99 45 = some (4, 0, 0, z0, 46) := by rw [cod, ctab_99]; rfl
theorem k99_46 : cod 99 46 = some (29, 1, 8, z0, 49) := by rw [cod, ctab_99]; rfl
theorem k99_49 : cod 99 49 = some (4, 0, 0, z0, 50) := by rw [cod, ctab_99]; rfl
theorem k99_50 : cod 99 50 = some (29, 1, 2, z0, 53) := by rw [cod, ctab_99]; rfl
theorem k99_53 : cod 99 53 = some (34, 61, 2, vr 25 0, 56) := by rw [cod, ctab_99]; rfl
theorem k99_56 : cod 99 56 = some (25, 0, 0, z0, 57) := by rw [cod, ctab_99]; rfl
theorem k99_57 : cod 99 57 = some (8, 2, 0, vi (1), 60) := by rw [cod, ctab_99]; rfl
theorem k99_60 : cod 99 60 = some (26, 26, 0, z0, 63) := by rw [cod, ctab_99]; rfl
theorem k99_63 : cod 99 63 = some (0, 0, 0, vi (-1), 64) := by rw [cod, ctab_99]; rfl
theorem k99_64 : cod 99 64 = some (36, 1, 0, z0, 65) := by rw [cod, ctab_99]; rfl
theorem ctab_100 : ctab.getD 100 [] = cd100 := rfl
theorem k100_0 : cod 100 0 = some (0, 0, 0, vi (1), 1) := by rw [cod, ctab_100]; rfl
theorem k100_1 : cod 100 1 = some (4, 0, 0, z0, 2) := by rw [cod, ctab_100]; rfl
theorem k100_2 : cod 100 2 = some (29, 1, 2, z0, 5) := by rw [cod, ctab_100]; rfl
theorem k100_5 : cod 100 5 = some (29, 9, 10, z0, 8) := by rw [cod, ctab_100]; rfl
theorem k100_8 : cod 100 8 = some (9, 6, 0, z0, 9) := by rw [cod, ctab_100]; rfl
theorem k100_9 : cod 100 9 = some (0, 0, 0, vi (1), 10) := by rw [cod, ctab_100]; rfl
theorem k100_10 : cod 100 10 = some (9, 1, 0, z0, 11) := by rw [cod, ctab_100]; rfl
theorem k100_11 : cod 100 11 = some (5, 1, 0, z0, 12) := by rw [cod, ctab_100]; rfl
theorem k100_12 : cod 100 12 = some (4, 0, 0, z0, 13) := by rw [cod, ctab_100]; rfl
theorem k100_13 : cod 100 13 = some (29, 1, 8, z0, 16) := by rw [cod, ctab_100]; rfl
theorem k100_16 : cod 100 16 = some (4, 0, 0, z0, 17) := by rw [cod, ctab_100]; rfl
theorem k100_17 : cod 100 17 = some (29, 1, 5, z0, 20) := by rw [cod, ctab_100]; rfl
theorem k100_20 : cod 100 20 = some (29, 23, 0, z0, 23) := by rw [cod, ctab_100]; rfl
theorem k100_23 : cod 100 23 = some (34, 45, 2, vr 25 0, 26) := by rw [cod, ctab_100]; rfl
theorem k100_26 : cod 100 26 = some (0, 0, 0, z0, 27) := by rw [cod, ctab_100]; rfl
theorem k100_27 : cod 100 27 = some (5, 2, 0, z0, 28) := by rw [cod, ctab_100]; rfl
theorem k100_28 : cod 100 28 = some (2, 2, 0, z0, 29) := by rw [cod, ctab_100]; rfl
theorem k100_29 : cod 100 29 = some (0, 0, 0, vi (99), 31) := by rw [cod, ctab_100]; rfl
theorem k100_31 : cod 100 31 = some (28, 4, 69, z0, 34) := by rw [cod, ctab_100]; rfl
theorem k100_34 : cod 100 34 = some (4, 0, 0, z0, 35) := by rw [cod, ctab_100]; rfl
theorem k100_35 : cod 100 35 = some (29, 1, 8, z0, 38) := by rw [cod, ctab_100]; rfl
theorem k100_38 : cod 100 38 = some (4, 0, 0, z0, 39) := by rw [cod, ctab_100]; rfl
theorem k100_39 : cod 100 39 = some (29, 1, 2, z0, 42) := by rw [cod, ctab_100]; rfl
theorem k100_42 : cod 100 42 = some (34, 48, 2, vr 25 0, 45) := by rw [cod, ctab_100]; rfl
theorem k100_45 : cod 100 45 = some (2, 1, 0, z0, 46) := by rw [cod, ctab_100]; rfl
theorem k100_46 : cod 100 46 = some (28, 1, 51, z0, 49) := by rw [cod, ctab_100]; rfl
theorem k100_49 : cod 100 49 = some (2, 2, 0, z0, 50) := by rw [cod, ctab_100]; rfl
theorem k100_50 : cod 100 50 = some (36, 1, 0, z0, 51) := by rw [cod, ctab_100]; rfl
theorem k100_51 : cod 100 51 = some (4, 0, 0, z0, 52) := by rw [cod, ctab_100]; rfl
theorem k100_52 : cod 100 52 = some (29, 1, 8, z0, 55) := by rw [cod, ctab_100]; rfl
theorem k100_55 : cod 100 55 = some (4, 0, 0, z0, 56) := by rw [cod, ctab_100]; rfl
theorem k100_56 : cod 100 56 = some (29, 1, 2, z0, 59) := by rw [cod, ctab_100]; rfl
theorem k100_59 : cod 100 59 = some (34, 61, 2, vr 25 0, 62) := by rw [cod, ctab_100]; rfl
theorem k100_62 : cod 100 62 = some (25, 0, 0, z0, 63) := by rw [cod, ctab_100]; rfl
theorem k100_63 : cod 100 63 = some (8, 2, 0, vi (1), 66) := by rw [cod, ctab_100]; rfl
theorem k100_66 : cod 100 66 = some (26, 28, 0, z0, 69) := by rw [cod, ctab_100]; rfl
theorem k100_69 : cod 100 69 = some (0, 0, 0, vi (-1), 70) := by rw [cod, ctab_100]; rfl
theorem k100_70 : cod 100 70 = some (36, 1, 0, z0, 71) := by rw [cod, ctab_100]; rfl
theorem ctab_101 : ctab.getD 101 [] = cd101 := rfl
theorem k101_0 : cod 101 0 = some (4, 0, 0, z0, 1) := by rw [cod, ctab_101]; rfl
theorem k101_1 : cod 101 1 = some (2, 1, 0, z0, 2) := by rw [cod, ctab_101]; rfl
theorem k101_2 : cod 101 2 = some (34, 115, 2, vr 1 0, 5) := by rw [cod, ctab_101]; rfl
theorem k101_5 : cod 101 5 = some (27, 0, 26, z0, 8) := by rw [cod, ctab_101]; rfl
theorem k101_8 : cod 101 8 = some (2, 2, 0, z0, 9) := by rw [cod, ctab_101]; rfl
theorem k101_9 : cod 101 9 = some (0, 0, 0, vi (1), 10) := by rw [cod, ctab_101]; rfl
theorem k101_10 : cod 101 10 = some (0, 0, 0, vi (4), 11) := by rw [cod, ctab_101]; rfl
theorem k101_11 : cod 101 11 = some (34, 114, 3, z0, 14) := by rw [cod, ctab_101]; rfl
theorem k101_14 : cod 101 14 = some (27, 0, 26, z0, 17) := by rw [cod, ctab_101]; rfl
theorem k101_17 : cod 101 17 = some (2, 3, 0, z0, 18) := by rw [cod, ctab_101]; rfl
theorem k101_18 : cod 101 18 = some (0, 0, 0, z0, 19) := by rw [cod, ctab_101]; rfl
theorem k101_19 : cod 101 19 = some (2, 2, 0, z0, 20) := by rw [cod, ctab_101]; rfl
theorem k101_20 : cod 101 20 = some (34, 114, 3, z0, 23) := by rw [cod, ctab_101]; rfl
theorem k101_23 : cod 101 23 = some (27, 1, 28, z0, 26) := by rw [cod, ctab_101]; rfl
theorem k101_26 : cod 101 26 = some (0, 0, 0, vi (-1), 27) := by rw [cod, ctab_101]; rfl
theorem k101_27 : cod 101 27 = some (36, 1, 0, z0, 28) := by rw [cod, ctab_101]; rfl
theorem k101_28 : cod 101 28 = some (4, 0, 0, z0, 29) := by rw [cod, ctab_101]; rfl
theorem k101_29 : cod 101 29 = some (29, 1, 9, z0, 32) := by rw [cod, ctab_101]; rfl
theorem k101_32 : cod 101 32 = some (4, 0, 0, z0, 33) := by rw [cod, ctab_101]; rfl
theorem k101_33 : cod 101 33 = some (29, 1, 2, z0, 36) := by rw [cod, ctab_101]; rfl
theorem k101_36 : cod 101 36 = some (4, 0, 0, z0, 37) := by rw [cod, ctab_101]; rfl
theorem k101_37 : cod 101 37 = some (29, 1, 5, z0, 40) := by rw [cod, ctab_101]; rfl
theorem k101_40 : cod 101 40 = some (29, 23, 0, z0, 43) := by rw [cod, ctab_101]; rfl
theorem k101_43 : cod 101 43 = some (2, 1, 0, z0, 44) := by rw [cod, ctab_101]; rfl
theorem k101_44 : cod 101 44 = some (2, 2, 0, z0, 45) := by rw [cod, ctab_101]; rfl
theorem k101_45 : cod 101 45 = some (34, 24, 5, vr 31 0, 48) := by rw [cod, ctab_101]; rfl
theorem k101_48 : cod 101 48 = some (2, 3, 0, z0, 49) := by rw [cod, ctab_101]; rfl
theorem k101_49 : cod 101 49 = some (27, 1, 62, z0, 52) := by rw [cod, ctab_101]; rfl
theorem k101_52 : cod 101 52 = some (4, 0, 0, z0, 53) := by rw [cod, ctab_101]; rfl
theorem k101_53 : cod 101 53 = some (29, 1, 9, z0, 56) := by rw [cod, ctab_101]; rfl
theorem k101_56 : cod 101 56 = some (29, 31, 3, z0, 59) := by rw [cod, ctab_101]; rfl
theorem k101_59 : cod 101 59 = some (26, 73, 0, z0, 62) := by rw [cod, ctab_101]; rfl
theorem k101_62 : cod 101 62 = some (4, 0, 0, z0, 63) := by rw [cod, ctab_101]; rfl
theorem k101_63 : cod 101 63 = some (29, 1, 9, z0, 66) := by rw [cod, ctab_101]; rfl
theorem k101_66 : cod 101 66 = some (29, 31, 2, z0, 69) := by rw [cod, ctab_101]; rfl
theorem k101_69 : cod 101 69 = some (2, 3, 0, z0, 70) := by rw [cod, ctab_101]; rfl
theorem k101_70 : cod 101 70 = some (0, 0, 0, vi (1), 71) := by rw [cod, ctab_101]; rfl
theorem k101_71 : cod 101 71 = some (9, 1, 0, z0, 72) := by rw [cod, ctab_101]; rfl
theorem k101_72 : cod 101 72 = some (31, 1, 0, z0, 73) := by rw [cod, ctab_101]; rfl
theorem k101_73 : cod 101 73 = some (36, 1, 0, z0, 74) := by rw [cod, ctab_101]; rfl
theorem ctab_102 : ctab.getD 102 [] = cd102 := rfl
theorem k102_0 : cod 102 0 = some (4, 0, 0, z0, 1) := by rw [cod, ctab_102]; rfl
theorem k102_1 : cod 102 1 = some (29, 1, 5, z0, 4) := by rw [cod, ctab_102]; rfl
theorem k102_4 : cod 102 4 = some (29, 23, 0, z0, 7) := by rw [cod, ctab_102]; rfl
theorem k102_7 : cod 102 7 = some (7, 2, 0, z0, 8) := by rw [cod, ctab_102]; rfl
theorem k102_8 : cod 102 8 = some (4, 0, 0, z0, 9) := by rw [cod, ctab_102]; rfl
theorem k102_9 : cod 102 9 = some (2, 1, 0, z0, 10) := by rw [cod, ctab_102]; rfl
theorem k102_10 : cod 102 10 = some (34, 115, 2, vr 1 0, 13) := by rw [cod, ctab_102]; rfl
theorem k102_13 : cod 102 13 = some (27, 0, 24, z0, 16) := by rw [cod, ctab_102]; rfl
theorem k102_16 : cod 102 16 = some (4, 2, 0, z0, 17) := by rw [cod, ctab_102]; rfl
theorem k102_17 : cod 102 17 = some (2, 1, 0, z0, 18) := by rw [cod, ctab_102]; rfl
theorem k102_18 : cod 102 18 = some (34, 47, 2, vr 25 0, 21) := by rw [cod, ctab_102]; rfl
theorem k102_21 : cod 102 21 = some (27, 0, 26, z0, 24) := by rw [cod, ctab_102]; rfl
theorem k102_24 : cod 102 24 = some (0, 0, 0, vi (-1), 25) := by rw [cod, ctab_102]; rfl
theorem k102_25 : cod 102 25 = some (36, 1, 0, z0, 26) := by rw [cod, ctab_102]; rfl
theorem k102_26 : cod 102 26 = some (0, 0, 0, vi (-1), 27) := by rw [cod, ctab_102]; rfl
theorem k102_27 : cod 102 27 = some (5, 3, 0, z0, 28) := by rw [cod, ctab_102]; rfl
theorem k102_28 : cod 102 28 = some (0, 0, 0, vi (-1), 29) := by rw [cod, ctab_102]; rfl
theorem k102_29 : cod 102 29 = some (5, 4, 0, z0, 31) := by rw [cod, ctab_102]; rfl
theorem k102_31 : cod 102 31 = some (0, 0, 0, z0, 32) := by rw [cod, ctab_102]; rfl
theorem k102_32 : cod 102 32 = some (5, 5, 0, z0, 34) := by rw [cod, ctab_102]; rfl
theorem k102_34 : cod 102 34 = some (2, 5, 0, z0, 36) := by rw [cod, ctab_102]; rfl
theorem k102_36 : cod 102 36 = some (4, 0, 0, z0, 37) := by rw [cod, ctab_102]; rfl
theorem k102_37 : cod 102 37 = some (29, 1, 2, z0, 40) := by rw [cod, ctab_102]; rfl
theorem k102_40 : cod 102 40 = some (29, 9, 9, z0, 43) := by rw [cod, ctab_102]; rfl
theorem k102_43 : cod 102 43 = some (28, 3, 107, z0, 46) := by rw [cod, ctab_102]; rfl
theorem k102_46 : cod 102 46 = some (2, 5, 0, z0, 48) := by rw [cod, ctab_102]; rfl
theorem k102_48 : cod 102 48 = some (4, 2, 0, z0, 49) := by rw [cod, ctab_102]; rfl
theorem k102_49 : cod 102 49 = some (29, 25, 0, z0, 52) := by rw [cod, ctab_102]; rfl
theorem k102_52 : cod 102 52 = some (2, 1, 0, z0, 53) := by rw [cod, ctab_102]; rfl
theorem k102_53 : cod 102 53 = some (31, 1, 0, z0, 54) := by rw [cod, ctab_102]; rfl
theorem k102_54 : cod 102 54 = some (28, 0, 71, z0, 57) := by rw [cod, ctab_102]; rfl
theorem k102_57 : cod 102 57 = some (4, 2, 0, z0, 58) := by rw [cod, ctab_102]; rfl
theorem k102_58 : cod 102 58 = some (4, 0, 0, z0, 59) := by rw [cod, ctab_102]; rfl
theorem k102_59 : cod 102 59 = some (29, 1, 2, z0, 62) := by rw [cod, ctab_102]; rfl
theorem k102_62 : cod 102 62 = some (2, 1, 0, z0, 63) := by rw [cod, ctab_102]; rfl
theorem k102_63 : cod 102 63 = some (2, 5, 0, z0, 65) := by rw [cod, ctab_102]; rfl
theorem k102_65 : cod 102 65 = some (34, 54, 4, vr 25 0, 68) := by rw [cod, ctab_102]; rfl
theorem k102_68 : cod 102 68 = some (27, 0, 101, z0, 71) := by rw [cod, ctab_102]; rfl
theorem k102_71 : cod 102 71 = some (4, 2, 0, z0, 72) := by rw [cod, ctab_102]; rfl
theorem k102_72 : cod 102 72 = some (4, 0, 0, z0, 73) := by rw [cod, ctab_102]; rfl
theorem k102_73 : cod 102 73 = some (29, 1, 2, z0, 76) := by rw [cod, ctab_102]; rfl
theorem k102_76 : cod 102 76 = some (2, 1, 0, z0, 77) := by rw [cod, ctab_102]; rfl
theorem k102_77 : cod 102 77 = some (2, 5, 0, z0, 79) := by rw [cod, ctab_102]; rfl
theorem k102_79 : cod 102 79 = some (34, 53, 4, vr 25 0, 82) := by rw [cod, ctab_102]; rfl
theorem k102_82 : cod 102 82 = some (34, 238, 1, z0, 85) := by rw [cod, ctab_102]; rfl
theorem k102_85 : cod 102 85 = some (5, 6, 0, z0, 87) := by rw [cod, ctab_102]; rfl
theorem k102_87 : cod 102 87 = some (2, 6, 0, z0, 89) := by rw [cod, ctab_102]; rfl
theorem k102_89 : cod 102 89 = some (2, 4, 0, z0, 91) := by rw [cod, ctab_102]; rfl
theorem k102_91 : cod 102 91 = some (28, 5, 101, z0, 94) := by rw [cod, ctab_102]; rfl
theorem k102_94 : cod 102 94 = some (2, 6, 0, z0, 96) := by rw [cod, ctab_102]; rfl
theorem k102_96 : cod 102 96 = some (5, 4, 0, z0, 98) := by rw [cod, ctab_102]; rfl
theorem k102_98 : cod 102 98 = some (2, 5, 0, z0, 100) := by rw [cod, ctab_102]; rfl
theorem k102_100 : cod 102 100 = some (5, 3, 0, z0, 101) := by rw [cod, ctab_102]; rfl
theorem k102_101 : cod 102 101 = some (8, 5, 0, vi (1), 104) := by rw [cod, ctab_102]; rfl
theorem k102_104 : cod 102 104 = some (26, 34, 0, z0, 107) := by rw [cod, ctab_102]; rfl
theorem k102_107 : cod 102 107 = some (2, 3, 0, z0, 108) := by rw [cod, ctab_102]; rfl
theorem k102_108 : cod 102 108 = some (36, 1, 0, z0, 109) := by rw [cod, ctab_102]; rfl
theorem ctab_103 : ctab.getD 103 [] = cd103 := rfl
theorem k103_0 : cod 103 0 = some (2, 1, 0, z0, 1) := by rw [cod, ctab_103]; rfl
theorem k103_1 : cod 103 1 = some (0, 0, 0, vi (1), 2) := by rw [cod, ctab_103]; rfl
theorem k103_2 : cod 103 2 = some (0, 0, 0, vi (24), 4) := by rw [cod, ctab_103]; rfl
theorem k103_4 : cod 103 4 = some (34, 114, 3, z0, 7) := by rw [cod, ctab_103]; rfl
theorem k103_7 : cod 103 7 = some (27, 0, 19, z0, 10) := by rw [cod, ctab_103]; rfl
theorem k103_10 : cod 103 10 = some (2, 2, 0, z0, 11) := by rw [cod, ctab_103]; rfl
theorem k103_11 : cod 103 11 = some (0, 0, 0, z0, 12) := by rw [cod, ctab_103]; rfl
theorem k103_12 : cod 103 12 = some (0, 0, 0, vi (1), 13) := by rw [cod, ctab_103]; rfl
theorem k103_13 : cod 103 13 = some (34, 114, 3, z0, 16) := by rw [cod, ctab_103]; rfl
theorem k103_16 : cod 103 16 = some (27, 1, 22, z0, 19) := by rw [cod, ctab_103]; rfl
theorem k103_19 : cod 103 19 = some (0, 0, 0, vi (-2), 21) := by rw [cod, ctab_103]; rfl
theorem k103_21 : cod 103 21 = some (36, 1, 0, z0, 22) := by rw [cod, ctab_103]; rfl
theorem k103_22 : cod 103 22 = some (0, 0, 0, z0, 23) := by rw [cod, ctab_103]; rfl
theorem k103_23 : cod 103 23 = some (5, 3, 0, z0, 24) := by rw [cod, ctab_103]; rfl
theorem k103_24 : cod 103 24 = some (2, 3, 0, z0, 25) := by rw [cod, ctab_103]; rfl
theorem k103_25 : cod 103 25 = some (4, 0, 0, z0, 26) := by rw [cod, ctab_103]; rfl
theorem k103_26 : cod 103 26 = some (29, 1, 2, z0, 29) := by rw [cod, ctab_103]; rfl
theorem k103_29 : cod 103 29 = some (29, 9, 10, z0, 32) := by rw [cod, ctab_103]; rfl
theorem k103_32 : cod 103 32 = some (28, 4, 101, z0, 35) := by rw [cod, ctab_103]; rfl
theorem k103_35 : cod 103 35 = some (0, 0, 0, z0, 36) := by rw [cod, ctab_103]; rfl
theorem k103_36 : cod 103 36 = some (5, 4, 0, z0, 38) := by rw [cod, ctab_103]; rfl
theorem k103_38 : cod 103 38 = some (2, 4, 0, z0, 40) := by rw [cod, ctab_103]; rfl
theorem k103_40 : cod 103 40 = some (0, 0, 0, vi (1), 41) := by rw [cod, ctab_103]; rfl
theorem k103_41 : cod 103 41 = some (4, 0, 0, z0, 42) := by rw [cod, ctab_103]; rfl
theorem k103_42 : cod 103 42 = some (29, 1, 2, z0, 45) := by rw [cod, ctab_103]; rfl
theorem k103_45 : cod 103 45 = some (29, 9, 10, z0, 48) := by rw [cod, ctab_103]; rfl
theorem k103_48 : cod 103 48 = some (9, 6, 0, z0, 49) := by rw [cod, ctab_103]; rfl
theorem k103_49 : cod 103 49 = some (28, 3, 95, z0, 52) := by rw [cod, ctab_103]; rfl
theorem k103_52 : cod 103 52 = some (2, 4, 0, z0, 54) := by rw [cod, ctab_103]; rfl
theorem k103_54 : cod 103 54 = some (34, 238, 1, z0, 57) := by rw [cod, ctab_103]; rfl
theorem k103_57 : cod 103 57 = some (2, 3, 0, z0, 58) := by rw [cod, ctab_103]; rfl
theorem k103_58 : cod 103 58 = some (28, 1, 89, z0, 61) := by rw [cod, ctab_103]; rfl
theorem k103_61 : cod 103 61 = some (4, 0, 0, z0, 62) := by rw [cod, ctab_103]; rfl
theorem k103_62 : cod 103 62 = some (2, 4, 0, z0, 64) := by rw [cod, ctab_103]; rfl
theorem k103_64 : cod 103 64 = some (2, 1, 0, z0, 65) := by rw [cod, ctab_103]; rfl
theorem k103_65 : cod 103 65 = some (34, 119, 3, vr 1 0, 68) := by rw [cod, ctab_103]; rfl
theorem k103_68 : cod 103 68 = some (5, 5, 0, z0, 70) := by rw [cod, ctab_103]; rfl
theorem k103_70 : cod 103 70 = some (2, 5, 0, z0, 72) := by rw [cod, ctab_103]; rfl
theorem k103_72 : cod 103 72 = some (0, 0, 0, vi (-2), 74) := by rw [cod, ctab_103]; rfl
theorem k103_74 : cod 103 74 = some (28, 0, 89, z0, 77) := by rw [cod, ctab_103]; rfl
theorem k103_77 : cod 103 77 = some (2, 2, 0, z0, 78) := by rw [cod, ctab_103]; rfl
theorem k103_78 : cod 103 78 = some (27, 1, 86, z0, 81) := by rw [cod, ctab_103]; rfl
theorem k103_81 : cod 103 81 = some (2, 4, 0, z0, 83) := by rw [cod, ctab_103]; rfl
theorem k103_83 : cod 103 83 = some (26, 88, 0, z0, 86) := by rw [cod, ctab_103]; rfl
theorem k103_86 : cod 103 86 = some (2, 5, 0, z0, 88) := by rw [cod, ctab_103]; rfl
theorem k103_88 : cod 103 88 = some (36, 1, 0, z0, 89) := by rw [cod, ctab_103]; rfl
theorem k103_89 : cod 103 89 = some (8, 4, 0, vi (1), 92) := by rw [cod, ctab_103]; rfl
theorem k103_92 : cod 103 92 = some (26, 38, 0, z0, 95) := by rw [cod, ctab_103]; rfl
theorem k103_95 : cod 103 95 = some (8, 3, 0, vi (1), 98) := by rw [cod, ctab_103]; rfl
theorem k103_98 : cod 103 98 = some (26, 24, 0, z0, 101) := by rw [cod, ctab_103]; rfl
theorem k103_101 : cod 103 101 = some (0, 0, 0, vi (-2), 103) := by rw [cod, ctab_103]; rfl
theorem k103_103 : cod 103 103 = some (36, 1, 0, z0, 104) := by rw [cod, ctab_103]; rfl
theorem ctab_104 : ctab.getD 104 [] = cd104 := rfl
theorem k104_0 : cod 104 0 = some (4, 0, 0, z0, 1) := by rw [cod, ctab_104]; rfl
theorem k104_1 : cod 104 1 = some (2, 1, 0, z0, 2) := by rw [cod, ctab_104]; rfl
theorem k104_2 : cod 104 2 = some (34, 115, 2, vr 1 0, 5) := by rw [cod, ctab_104]; rfl
theorem k104_5 : cod 104 5 = some (27, 0, 18, z0, 8) := by rw [cod, ctab_104]; rfl
theorem k104_8 : cod 104 8 = some (2, 2, 0, z0, 9) := by rw [cod, ctab_104]; rfl
theorem k104_9 : cod 104 9 = some (0, 0, 0, z0, 10) := by rw [cod, ctab_104]; rfl
theorem k104_10 : cod 104 10 = some (0, 0, 0, vi (99), 12) := by rw [cod, ctab_104]; rfl
theorem k104_12 : cod 104 12 = some (34, 114, 3, z0, 15) := by rw [cod, ctab_104]; rfl
theorem k104_15 : cod 104 15 = some (27, 1, 20, z0, 18) := by rw [cod, ctab_104]; rfl
theorem k104_18 : cod 104 18 = some (0, 0, 0, z0, 19) := by rw [cod, ctab_104]; rfl
theorem k104_19 : cod 104 19 = some (36, 2, 0, z0, 20) := by rw [cod, ctab_104]; rfl
theorem k104_20 : cod 104 20 = some (4, 0, 0, z0, 21) := by rw [cod, ctab_104]; rfl
theorem k104_21 : cod 104 21 = some (29, 1, 5, z0, 24) := by rw [cod, ctab_104]; rfl
theorem k104_24 : cod 104 24 = some (29, 23, 2, z0, 27) := by rw [cod, ctab_104]; rfl
theorem k104_27 : cod 104 27 = some (2, 1, 0, z0, 28) := by rw [cod, ctab_104]; rfl
theorem k104_28 : cod 104 28 = some (2, 2, 0, z0, 29) := by rw [cod, ctab_104]; rfl
theorem k104_29 : cod 104 29 = some (32, 1, 0, z0, 30) := by rw [cod, ctab_104]; rfl
theorem k104_30 : cod 104 30 = some (0, 0, 0, vi (1), 31) := by rw [cod, ctab_104]; rfl
theorem k104_31 : cod 104 31 = some (36, 2, 0, z0, 32) := by rw [cod, ctab_104]; rfl
theorem ctab_105 : ctab.getD 105 [] = cd105 := rfl
theorem k105_0 : cod 105 0 = some (4, 0, 0, z0, 1) := by rw [cod, ctab_105]; rfl
theorem k105_1 : cod 105 1 = some (2, 1, 0, z0, 2) := by rw [cod, ctab_105]; rfl
theorem k105_2 : cod 105 2 = some (34, 115, 2, vr 1 0, 5) := by rw [cod, ctab_105]; rfl
theorem k105_5 : cod 105 5 = some (27, 0, 17, z0, 8) := by rw [cod, ctab_105]; rfl
theorem k105_8 : cod 105 8 = some (2, 2, 0, z0, 9) := by rw [cod, ctab_105]; rfl
theorem k105_9 : cod 105 9 = some (0, 0, 0, z0, 10) := by rw [cod, ctab_105]; rfl
theorem k105_10 : cod 105 10 = some (0, 0, 0, vi (2), 11) := by rw [cod, ctab_105]; rfl
theorem k105_11 : cod 105 11 = some (34, 114, 3, z0, 14) := by rw [cod, ctab_105]; rfl
theorem k105_14 : cod 105 14 = some (27, 1, 19, z0, 17) := by rw [cod, ctab_105]; rfl
theorem k105_17 : cod 105 17 = some (0, 0, 0, vi (-1), 18) := by rw [cod, ctab_105]; rfl
theorem k105_18 : cod 105 18 = some (36, 1, 0, z0, 19) := by rw [cod, ctab_105]; rfl
theorem k105_19 : cod 105 19 = some (4, 0, 0, z0, 20) := by rw [cod, ctab_105]; rfl
theorem k105_20 : cod 105 20 = some (29, 1, 10, z0, 23) := by rw [cod, ctab_105]; rfl
theorem k105_23 : cod 105 23 = some (4, 0, 0, z0, 24) := by rw [cod, ctab_105]; rfl
theorem k105_24 : cod 105 24 = some (29, 1, 2, z0, 27) := by rw [cod, ctab_105]; rfl
theorem k105_27 : cod 105 27 = some (4, 0, 0, z0, 28) := by rw [cod, ctab_105]; rfl
theorem k105_28 : cod 105 28 = some (29, 1, 5, z0, 31) := by rw [cod, ctab_105]; rfl
theorem k105_31 : cod 105 31 = some (29, 23, 0, z0, 34) := by rw [cod, ctab_105]; rfl
theorem k105_34 : cod 105 34 = some (2, 1, 0, z0, 35) := by rw [cod, ctab_105]; rfl
theorem k105_35 : cod 105 35 = some (4, 0, 0, z0, 36) := by rw [cod, ctab_105]; rfl
theorem k105_36 : cod 105 36 = some (29, 1, 5, z0, 39) := by rw [cod, ctab_105]; rfl
theorem k105_39 : cod 105 39 = some (29, 23, 2, z0, 42) := by rw [cod, ctab_105]; rfl
theorem k105_42 : cod 105 42 = some (2, 1, 0, z0, 43) := by rw [cod, ctab_105]; rfl
theorem k105_43 : cod 105 43 = some (31, 1, 0, z0, 44) := by rw [cod, ctab_105]; rfl
theorem k105_44 : cod 105 44 = some (34, 63, 5, vr 35 0, 47) := by rw [cod, ctab_105]; rfl
theorem k105_47 : cod 105 47 = some (2, 2, 0, z0, 48) := by rw [cod, ctab_105]; rfl
theorem k105_48 : cod 105 48 = some (27, 1, 59, z0, 51) := by rw [cod, ctab_105]; rfl
theorem k105_51 : cod 105 51 = some (4, 0, 0, z0, 52) := by rw [cod, ctab_105]; rfl
theorem k105_52 : cod 105 52 = some (29, 1, 10, z0, 55) := by rw [cod, ctab_105]; rfl
theorem k105_55 : cod 105 55 = some (29, 35, 1, z0, 58) := by rw [cod, ctab_105]; rfl
theorem k105_58 : cod 105 58 = some (36, 1, 0, z0, 59) := by rw [cod, ctab_105]; rfl
theorem k105_59 : cod 105 59 = some (4, 0, 0, z0, 60) := by rw [cod, ctab_105]; rfl
theorem k105_60 : cod 105 60 = some (29, 1, 10, z0, 63) := by rw [cod, ctab_105]; rfl
theorem k105_63 : cod 105 63 = some (29, 35, 1, z0, 66) := by rw [cod, ctab_105]; rfl
theorem k105_66 : cod 105 66 = some (27, 1, 71, z0, 69) := by rw [cod, ctab_105]; rfl
theorem k105_69 : cod 105 69 = some (0, 0, 0, vi (-1), 70) := by rw [cod, ctab_105]; rfl
theorem k105_70 : cod 105 70 = some (36, 1, 0, z0, 71) := by rw [cod, ctab_105]; rfl
theorem k105_71 : cod 105 71 = some (2, 2, 0, z0, 72) := by rw [cod, ctab_105]; rfl
theorem k105_72 : cod 105 72 = some (0, 0, 0, vi (1), 73) := by rw [cod, ctab_105]; rfl
theorem k105_73 : cod 105 73 = some (28, 1, 86, z0, 76) := by rw [cod, ctab_105]; rfl
theorem k105_76 : cod 105 76 = some (4, 0, 0, z0, 77) := by rw [cod, ctab_105]; rfl
theorem k105_77 : cod 105 77 = some (29, 1, 10, z0, 80) := by rw [cod, ctab_105]; rfl
theorem k105_80 : cod 105 80 = some (29, 35, 2, z0, 83) := by rw [cod, ctab_105]; rfl
theorem k105_83 : cod 105 83 = some (26, 93, 0, z0, 86) := by rw [cod, ctab_105]; rfl
theorem k105_86 : cod 105 86 = some (4, 0, 0, z0, 87) := by rw [cod, ctab_105]; rfl
theorem k105_87 : cod 105 87 = some (29, 1, 10, z0, 90) := by rw [cod, ctab_105]; rfl
theorem k105_90 : cod 105 90 = some (29, 35, 3, z0, 93) := by rw [cod, ctab_105]; rfl
theorem k105_93 : cod 105 93 = some (36, 1, 0, z0, 94) := by rw [cod, ctab_105]; rfl
theorem ctab_106 : ctab.getD 106 [] = cd106 := rfl
theorem k106_0 : cod 106 0 = some (4, 0, 0, z0, 1) := by rw [cod, ctab_106]; rfl
theorem k106_1 : cod 106 1 = some (2, 1, 0, z0, 2) := by rw [cod, ctab_106]; rfl
theorem k106_2 : cod 106 2 = some (34, 115, 2, vr 1 0, 5) := by rw [cod, ctab_106]; rfl
theorem k106_5 : cod 106 5 = some (27, 1, 10, z0, 8) := by rw [cod, ctab_106]; rfl
theorem k106_8 : cod 106 8 = some (0, 0, 0, vi (-1), 9) := by rw [cod, ctab_106]; rfl
theorem k106_9 : cod 106 9 = some (36, 1, 0, z0, 10) := by rw [cod, ctab_106]; rfl
theorem k106_10 : cod 106 10 = some (4, 0, 0, z0, 11) := by rw [cod, ctab_106]; rfl
theorem k106_11 : cod 106 11 = some (29, 1, 10, z0, 14) := by rw [cod, ctab_106]; rfl
theorem k106_14 : cod 106 14 = some (4, 0, 0, z0, 15) := by rw [cod, ctab_106]; rfl
theorem k106_15 : cod 106 15 = some (29, 1, 2, z0, 18) := by rw [cod, ctab_106]; rfl
theorem k106_18 : cod 106 18 = some (4, 0, 0, z0, 19) := by rw [cod, ctab_106]; rfl
theorem k106_19 : cod 106 19 = some (29, 1, 5, z0, 22) := by rw [cod, ctab_106]; rfl
theorem k106_22 : cod 106 22 = some (29, 23, 0, z0, 25) := by rw [cod, ctab_106]; rfl
theorem k106_25 : cod 106 25 = some (2, 1, 0, z0, 26) := by rw [cod, ctab_106]; rfl
theorem k106_26 : cod 106 26 = some (4, 0, 0, z0, 27) := by rw [cod, ctab_106]; rfl
theorem k106_27 : cod 106 27 = some (29, 1, 5, z0, 30) := by rw [cod, ctab_106]; rfl
theorem k106_30 : cod 106 30 = some (29, 23, 2, z0, 33) := by rw [cod, ctab_106]; rfl
theorem k106_33 : cod 106 33 = some (2, 1, 0, z0, 34) := by rw [cod, ctab_106]; rfl
theorem k106_34 : cod 106 34 = some (31, 1, 0, z0, 35) := by rw [cod, ctab_106]; rfl
theorem k106_35 : cod 106 35 = some (34, 63, 5, vr 35 0, 38) := by rw [cod, ctab_106]; rfl
theorem k106_38 : cod 106 38 = some (0, 0, 0, vi (-1), 39) := by rw [cod, ctab_106]; rfl
theorem k106_39 : cod 106 39 = some (5, 2, 0, z0, 40) := by rw [cod, ctab_106]; rfl
theorem k106_40 : cod 106 40 = some (4, 0, 0, z0, 41) := by rw [cod, ctab_106]; rfl
theorem k106_41 : cod 106 41 = some (29, 1, 10, z0, 44) := by rw [cod, ctab_106]; rfl
theorem k106_44 : cod 106 44 = some (29, 35, 1, z0, 47) := by rw [cod, ctab_106]; rfl
theorem k106_47 : cod 106 47 = some (5, 3, 0, z0, 48) := by rw [cod, ctab_106]; rfl
theorem k106_48 : cod 106 48 = some (0, 0, 0, z0, 49) := by rw [cod, ctab_106]; rfl
theorem k106_49 : cod 106 49 = some (5, 4, 0, z0, 51) := by rw [cod, ctab_106]; rfl
theorem k106_51 : cod 106 51 = some (2, 4, 0, z0, 53) := by rw [cod, ctab_106]; rfl
theorem k106_53 : cod 106 53 = some (4, 0, 0, z0, 54) := by rw [cod, ctab_106]; rfl
theorem k106_54 : cod 106 54 = some (29, 1, 2, z0, 57) := by rw [cod, ctab_106]; rfl
theorem k106_57 : cod 106 57 = some (29, 9, 10, z0, 60) := by rw [cod, ctab_106]; rfl
theorem k106_60 : cod 106 60 = some (28, 3, 120, z0, 63) := by rw [cod, ctab_106]; rfl
theorem k106_63 : cod 106 63 = some (4, 0, 0, z0, 64) := by rw [cod, ctab_106]; rfl
theorem k106_64 : cod 106 64 = some (29, 1, 10, z0, 67) := by rw [cod, ctab_106]; rfl
theorem k106_67 : cod 106 67 = some (29, 35, 0, z0, 70) := by rw [cod, ctab_106]; rfl
theorem k106_70 : cod 106 70 = some (2, 4, 0, z0, 72) := by rw [cod, ctab_106]; rfl
theorem k106_72 : cod 106 72 = some (31, 1, 0, z0, 73) := by rw [cod, ctab_106]; rfl
theorem k106_73 : cod 106 73 = some (4, 0, 0, z0, 74) := by rw [cod, ctab_106]; rfl
theorem k106_74 : cod 106 74 = some (29, 1, 10, z0, 77) := by rw [cod, ctab_106]; rfl
theorem k106_77 : cod 106 77 = some (29, 35, 1, z0, 80) := by rw [cod, ctab_106]; rfl
theorem k106_80 : cod 106 80 = some (4, 0, 0, z0, 81) := by rw [cod, ctab_106]; rfl
theorem k106_81 : cod 106 81 = some (29, 1, 10, z0, 84) := by rw [cod, ctab_106]; rfl
theorem k106_84 : cod 106 84 = some (29, 35, 0, z0, 87) := by rw [cod, ctab_106]; rfl
theorem k106_87 : cod 106 87 = some (2, 4, 0, z0, 89) := by rw [cod, ctab_106]; rfl
theorem k106_89 : cod 106 89 = some (31, 1, 0, z0, 90) := by rw [cod, ctab_106]; rfl
theorem k106_90 : cod 106 90 = some (9, 1, 0, z0, 91) := by rw [cod, ctab_106]; rfl
theorem k106_91 : cod 106 91 = some (47, 0, 0, z0, 94) := by rw [cod, ctab_106]; rfl
theorem k106_94 : cod 106 94 = some (5, 5, 0, z0, 96) := by rw [cod, ctab_106]; rfl
theorem k106_96 : cod 106 96 = some (2, 4, 0, z0, 98) := by rw [cod, ctab_106]; rfl
theorem k106_98 : cod 106 98 = some (2, 1, 0, z0, 99) := by rw [cod, ctab_106]; rfl
theorem k106_99 : cod 106 99 = some (28, 0, 114, z0, 102) := by rw [cod, ctab_106]; rfl
theorem k106_102 : cod 106 102 = some (2, 5, 0, z0, 104) := by rw [cod, ctab_106]; rfl
theorem k106_104 : cod 106 104 = some (2, 3, 0, z0, 105) := by rw [cod, ctab_106]; rfl
theorem k106_105 : cod 106 105 = some (28, 3, 114, z0, 108) := by rw [cod, ctab_106]; rfl
theorem k106_108 : cod 106 108 = some (2, 5, 0, z0, 110) := by rw [cod, ctab_106]; rfl
theorem k106_110 : cod 106 110 = some (5, 3, 0, z0, 111) := by rw [cod, ctab_106]; rfl
theorem k106_111 : cod 106 111 = some (2, 4, 0, z0, 113) := by rw [cod, ctab_106]; rfl
theorem k106_113 : cod 106 113 = some (5, 2, 0, z0, 114) := by rw [cod, ctab_106]; rfl
theorem k106_114 : cod 106 114 = some (8, 4, 0, vi (1), 117) := by rw [cod, ctab_106]; rfl
theorem k106_117 : cod 106 117 = some (26, 51, 0, z0, 120) := by rw [cod, ctab_106]; rfl
theorem k106_120 : cod 106 120 = some (2, 2, 0, z0, 121) := by rw [cod, ctab_106]; rfl
theorem k106_121 : cod 106 121 = some (36, 1, 0, z0, 122) := by rw [cod, ctab_106]; rfl
theorem ctab_107 : ctab.getD 107 [] = cd107 := rfl
theorem k107_0 : cod 107 0 = some (4, 0, 0, z0, 1) := by rw [cod, ctab_107]; rfl
theorem k107_1 : cod 107 1 = some (2, 1, 0, z0, 2) := by rw [cod, ctab_107]; rfl
theorem k107_2 : cod 107 2 = some (2, 2, 0, z0, 3) := by rw [cod, ctab_107]; rfl
theorem k107_3 : cod 107 3 = some (34, 117, 3, vr 1 0, 6) := by rw [cod, ctab_107]; rfl
theorem k107_6 : cod 107 6 = some (27, 0, 19, z0, 9) := by rw [cod, ctab_107]; rfl
theorem k107_9 : cod 107 9 = some (2, 3, 0, z0, 10) := by rw [cod, ctab_107]; rfl
theorem k107_10 : cod 107 10 = some (0, 0, 0, vi (1), 11) := by rw [cod, ctab_107]; rfl
theorem k107_11 : cod 107 11 = some (0, 0, 0, vi (6), 13) := by rw [cod, ctab_107]; rfl
theorem k107_13 : cod 107 13 = some (34, 114, 3, z0, 16) := by rw [cod, ctab_107]; rfl
theorem k107_16 : cod 107 16 = some (27, 1, 21, z0, 19) := by rw [cod, ctab_107]; rfl
theorem k107_19 : cod 107 19 = some (0, 0, 0, vi (-1), 20) := by rw [cod, ctab_107]; rfl
theorem k107_20 : cod 107 20 = some (36, 1, 0, z0, 21) := by rw [cod, ctab_107]; rfl
theorem k107_21 : cod 107 21 = some (4, 0, 0, z0, 22) := by rw [cod, ctab_107]; rfl
theorem k107_22 : cod 107 22 = some (29, 1, 5, z0, 25) := by rw [cod, ctab_107]; rfl
theorem k107_25 : cod 107 25 = some (29, 23, 0, z0, 28) := by rw [cod, ctab_107]; rfl
theorem k107_28 : cod 107 28 = some (29, 25, 0, z0, 31) := by rw [cod, ctab_107]; rfl
theorem k107_31 : cod 107 31 = some (2, 1, 0, z0, 32) := by rw [cod, ctab_107]; rfl
theorem k107_32 : cod 107 32 = some (31, 1, 0, z0, 33) := by rw [cod, ctab_107]; rfl
theorem k107_33 : cod 107 33 = some (5, 4, 0, z0, 35) := by rw [cod, ctab_107]; rfl
theorem k107_35 : cod 107 35 = some (4, 0, 0, z0, 36) := by rw [cod, ctab_107]; rfl
theorem k107_36 : cod 107 36 = some (29, 1, 5, z0, 39) := by rw [cod, ctab_107]; rfl
theorem k107_39 : cod 107 39 = some (29, 23, 0, z0, 42) := by rw [cod, ctab_107]; rfl
theorem k107_42 : cod 107 42 = some (29, 25, 0, z0, 45) := by rw [cod, ctab_107]; rfl
theorem k107_45 : cod 107 45 = some (2, 2, 0, z0, 46) := by rw [cod, ctab_107]; rfl
theorem k107_46 : cod 107 46 = some (31, 1, 0, z0, 47) := by rw [cod, ctab_107]; rfl
theorem k107_47 : cod 107 47 = some (5, 5, 0, z0, 49) := by rw [cod, ctab_107]; rfl
theorem k107_49 : cod 107 49 = some (2, 4, 0, z0, 51) := by rw [cod, ctab_107]; rfl
theorem k107_51 : cod 107 51 = some (2, 5, 0, z0, 53) := by rw [cod, ctab_107]; rfl
theorem k107_53 : cod 107 53 = some (28, 1, 58, z0, 56) := by rw [cod, ctab_107]; rfl
theorem k107_56 : cod 107 56 = some (0, 0, 0, vi (-1), 57) := by rw [cod, ctab_107]; rfl
theorem k107_57 : cod 107 57 = some (36, 1, 0, z0, 58) := by rw [cod, ctab_107]; rfl
theorem k107_58 : cod 107 58 = some (4, 0, 0, z0, 59) := by rw [cod, ctab_107]; rfl
theorem k107_59 : cod 107 59 = some (29, 1, 12, z0, 62) := by rw [cod, ctab_107]; rfl
theorem k107_62 : cod 107 62 = some (0, 0, 0, z0, 63) := by rw [cod, ctab_107]; rfl
theorem k107_63 : cod 107 63 = some (34, 250, 2, z0, 66) := by rw [cod, ctab_107]; rfl
theorem k107_66 : cod 107 66 = some (4, 0, 0, z0, 67) := by rw [cod, ctab_107]; rfl
theorem k107_67 : cod 107 67 = some (29, 1, 12, z0, 70) := by rw [cod, ctab_107]; rfl
theorem k107_70 : cod 107 70 = some (2, 4, 0, z0, 72) := by rw [cod, ctab_107]; rfl
theorem k107_72 : cod 107 72 = some (0, 0, 0, vi (5), 73) := by rw [cod, ctab_107]; rfl
theorem k107_73 : cod 107 73 = some (9, 2, 0, z0, 74) := by rw [cod, ctab_107]; rfl
theorem k107_74 : cod 107 74 = some (2, 5, 0, z0, 76) := by rw [cod, ctab_107]; rfl
theorem k107_76 : cod 107 76 = some (9, 0, 0, z0, 77) := by rw [cod, ctab_107]; rfl
theorem k107_77 : cod 107 77 = some (0, 0, 0, vi (1000000), 80) := by rw [cod, ctab_107]; rfl
theorem k107_80 : cod 107 80 = some (32, 1, 0, z0, 81) := by rw [cod, ctab_107]; rfl
theorem k107_81 : cod 107 81 = some (0, 0, 0, z0, 82) := by rw [cod, ctab_107]; rfl
theorem k107_82 : cod 107 82 = some (5, 6, 0, z0, 84) := by rw [cod, ctab_107]; rfl
theorem k107_84 : cod 107 84 = some (2, 6, 0, z0, 86) := by rw [cod, ctab_107]; rfl
theorem k107_86 : cod 107 86 = some (2, 3, 0, z0, 87) := by rw [cod, ctab_107]; rfl
theorem k107_87 : cod 107 87 = some (28, 3, 100, z0, 90) := by rw [cod, ctab_107]; rfl
theorem k107_90 : cod 107 90 = some (4, 0, 0, z0, 91) := by rw [cod, ctab_107]; rfl
theorem k107_91 : cod 107 91 = some (34, 122, 1, vr 1 0, 94) := by rw [cod, ctab_107]; rfl
theorem k107_94 : cod 107 94 = some (8, 6, 0, vi (1), 97) := by rw [cod, ctab_107]; rfl
theorem k107_97 : cod 107 97 = some (26, 84, 0, z0, 100) := by rw [cod, ctab_107]; rfl
theorem k107_100 : cod 107 100 = some (0, 0, 0, z0, 101) := by rw [cod, ctab_107]; rfl
theorem k107_101 : cod 107 101 = some (5, 6, 0, z0, 103) := by rw [cod, ctab_107]; rfl
theorem k107_103 : cod 107 103 = some (0, 0, 0, z0, 104) := by rw [cod, ctab_107]; rfl
theorem k107_104 : cod 107 104 = some (5, 7, 0, z0, 106) := by rw [cod, ctab_107]; rfl
theorem k107_106 : cod 107 106 = some (2, 7, 0, z0, 108) := by rw [cod, ctab_107]; rfl
theorem k107_108 : cod 107 108 = some (0, 0, 0, vi (5), 109) := by rw [cod, ctab_107]; rfl
theorem k107_109 : cod 107 109 = some (28, 3, 135, z0, 112) := by rw [cod, ctab_107]; rfl
theorem k107_112 : cod 107 112 = some (2, 6, 0, z0, 114) := by rw [cod, ctab_107]; rfl
theorem k107_114 : cod 107 114 = some (4, 0, 0, z0, 115) := by rw [cod, ctab_107]; rfl
theorem k107_115 : cod 107 115 = some (29, 1, 12, z0, 118) := by rw [cod, ctab_107]; rfl
theorem k107_118 : cod 107 118 = some (2, 7, 0, z0, 120) := by rw [cod, ctab_107]; rfl
theorem k107_120 : cod 107 120 = some (0, 0, 0, vi (5), 121) := by rw [cod, ctab_107]; rfl
theorem k107_121 : cod 107 121 = some (9, 2, 0, z0, 122) := by rw [cod, ctab_107]; rfl
theorem k107_122 : cod 107 122 = some (2, 7, 0, z0, 124) := by rw [cod, ctab_107]; rfl
theorem k107_124 : cod 107 124 = some (9, 0, 0, z0, 125) := by rw [cod, ctab_107]; rfl
theorem k107_125 : cod 107 125 = some (31, 1, 0, z0, 126) := by rw [cod, ctab_107]; rfl
theorem k107_126 : cod 107 126 = some (9, 0, 0, z0, 127) := by rw [cod, ctab_107]; rfl
theorem k107_127 : cod 107 127 = some (5, 6, 0, z0, 129) := by rw [cod, ctab_107]; rfl
theorem k107_129 : cod 107 129 = some (8, 7, 0, vi (1), 132) := by rw [cod, ctab_107]; rfl
theorem k107_132 : cod 107 132 = some (26, 106, 0, z0, 135) := by rw [cod, ctab_107]; rfl
theorem k107_135 : cod 107 135 = some (2, 6, 0, z0, 137) := by rw [cod, ctab_107]; rfl
theorem k107_137 : cod 107 137 = some (36, 1, 0, z0, 138) := by rw [cod, ctab_107]; rfl
theorem ctab_108 : ctab.getD 108 [] = cd108 := rfl
theorem k108_0 : cod 108 0 = some (0, 0, 0, z0, 1) := by rw [cod, ctab_108]; rfl
theorem k108_1 : cod 108 1 = some (5, 1, 0, z0, 2) := by rw [cod, ctab_108]; rfl
theorem k108_2 : cod 108 2 = some (0, 0, 0, z0, 3) := by rw [cod, ctab_108]; rfl
theorem k108_3 : cod 108 3 = some (5, 2, 0, z0, 4) := by rw [cod, ctab_108]; rfl
theorem k108_4 : cod 108 4 = some (2, 2, 0, z0, 5) := by rw [cod, ctab_108]; rfl
theorem k108_5 : cod 108 5 = some (4, 0, 0, z0, 6) := by rw [cod, ctab_108]; rfl
theorem k108_6 : cod 108 6 = some (29, 1, 2, z0, 9) := by rw [cod, ctab_108]; rfl
theorem k108_9 : cod 108 9 = some (29, 9, 10, z0, 12) := by rw [cod, ctab_108]; rfl
theorem k108_12 : cod 108 12 = some (28, 3, 87, z0, 15) := by rw [cod, ctab_108]; rfl
theorem k108_15 : cod 108 15 = some (2, 2, 0, z0, 16) := by rw [cod, ctab_108]; rfl
theorem k108_16 : cod 108 16 = some (0, 0, 0, vi (1), 17) := by rw [cod, ctab_108]; rfl
theorem k108_17 : cod 108 17 = some (9, 0, 0, z0, 18) := by rw [cod, ctab_108]; rfl
theorem k108_18 : cod 108 18 = some (5, 3, 0, z0, 19) := by rw [cod, ctab_108]; rfl
theorem k108_19 : cod 108 19 = some (2, 3, 0, z0, 20) := by rw [cod, ctab_108]; rfl
theorem k108_20 : cod 108 20 = some (4, 0, 0, z0, 21) := by rw [cod, ctab_108]; rfl
theorem k108_21 : cod 108 21 = some (29, 1, 2, z0, 24) := by rw [cod, ctab_108]; rfl
theorem k108_24 : cod 108 24 = some (29, 9, 10, z0, 27) := by rw [cod, ctab_108]; rfl
theorem k108_27 : cod 108 27 = some (28, 3, 81, z0, 30) := by rw [cod, ctab_108]; rfl
theorem k108_30 : cod 108 30 = some (4, 0, 0, z0, 31) := by rw [cod, ctab_108]; rfl
theorem k108_31 : cod 108 31 = some (29, 1, 5, z0, 34) := by rw [cod, ctab_108]; rfl
theorem k108_34 : cod 108 34 = some (29, 23, 0, z0, 37) := by rw [cod, ctab_108]; rfl
theorem k108_37 : cod 108 37 = some (29, 25, 2, z0, 40) := by rw [cod, ctab_108]; rfl
theorem k108_40 : cod 108 40 = some (2, 2, 0, z0, 41) := by rw [cod, ctab_108]; rfl
theorem k108_41 : cod 108 41 = some (0, 0, 0, vi (6), 43) := by rw [cod, ctab_108]; rfl
theorem k108_43 : cod 108 43 = some (9, 2, 0, z0, 44) := by rw [cod, ctab_108]; rfl
theorem k108_44 : cod 108 44 = some (2, 3, 0, z0, 45) := by rw [cod, ctab_108]; rfl
theorem k108_45 : cod 108 45 = some (9, 0, 0, z0, 46) := by rw [cod, ctab_108]; rfl
theorem k108_46 : cod 108 46 = some (31, 1, 0, z0, 47) := by rw [cod, ctab_108]; rfl
theorem k108_47 : cod 108 47 = some (0, 0, 0, vi (2), 48) := by rw [cod, ctab_108]; rfl
theorem k108_48 : cod 108 48 = some (28, 2, 75, z0, 51) := by rw [cod, ctab_108]; rfl
theorem k108_51 : cod 108 51 = some (4, 0, 0, z0, 52) := by rw [cod, ctab_108]; rfl
theorem k108_52 : cod 108 52 = some (29, 1, 5, z0, 55) := by rw [cod, ctab_108]; rfl
theorem k108_55 : cod 108 55 = some (29, 23, 0, z0, 58) := by rw [cod, ctab_108]; rfl
theorem k108_58 : cod 108 58 = some (29, 25, 2, z0, 61) := by rw [cod, ctab_108]; rfl
theorem k108_61 : cod 108 61 = some (2, 3, 0, z0, 62) := by rw [cod, ctab_108]; rfl
theorem k108_62 : cod 108 62 = some (0, 0, 0, vi (6), 64) := by rw [cod, ctab_108]; rfl
theorem k108_64 : cod 108 64 = some (9, 2, 0, z0, 65) := by rw [cod, ctab_108]; rfl
theorem k108_65 : cod 108 65 = some (2, 2, 0, z0, 66) := by rw [cod, ctab_108]; rfl
theorem k108_66 : cod 108 66 = some (9, 0, 0, z0, 67) := by rw [cod, ctab_108]; rfl
theorem k108_67 : cod 108 67 = some (31, 1, 0, z0, 68) := by rw [cod, ctab_108]; rfl
theorem k108_68 : cod 108 68 = some (0, 0, 0, vi (2), 69) := by rw [cod, ctab_108]; rfl
theorem k108_69 : cod 108 69 = some (28, 2, 75, z0, 72) := by rw [cod, ctab_108]; rfl
theorem k108_72 : cod 108 72 = some (8, 1, 0, vi (1), 75) := by rw [cod, ctab_108]; rfl
theorem k108_75 : cod 108 75 = some (8, 3, 0, vi (1), 78) := by rw [cod, ctab_108]; rfl
theorem k108_78 : cod 108 78 = some (26, 19, 0, z0, 81) := by rw [cod, ctab_108]; rfl
theorem k108_81 : cod 108 81 = some (8, 2, 0, vi (1), 84) := by rw [cod, ctab_108]; rfl
theorem k108_84 : cod 108 84 = some (26, 4, 0, z0, 87) := by rw [cod, ctab_108]; rfl
theorem k108_87 : cod 108 87 = some (2, 1, 0, z0, 88) := by rw [cod, ctab_108]; rfl
theorem k108_88 : cod 108 88 = some (36, 1, 0, z0, 89) := by rw [cod, ctab_108]; rfl
theorem ctab_109 : ctab.getD 109 [] = cd109 := rfl
theorem k109_0 : cod 109 0 = some (2, 1, 0, z0, 1) := by rw [cod, ctab_109]; rfl
theorem k109_1 : cod 109 1 = some (0, 0, 0, vi (-1), 2) := by rw [cod, ctab_109]; rfl
theorem k109_2 : cod 109 2 = some (28, 0, 16, z0, 5) := by rw [cod, ctab_109]; rfl
theorem k109_5 : cod 109 5 = some (4, 0, 0, z0, 6) := by rw [cod, ctab_109]; rfl
theorem k109_6 : cod 109 6 = some (2, 1, 0, z0, 7) := by rw [cod, ctab_109]; rfl
theorem k109_7 : cod 109 7 = some (34, 115, 2, vr 1 0, 10) := by rw [cod, ctab_109]; rfl
theorem k109_10 : cod 109 10 = some (27, 1, 16, z0, 13) := by rw [cod, ctab_109]; rfl
theorem k109_13 : cod 109 13 = some (0, 0, 0, vi (-2), 15) := by rw [cod, ctab_109]; rfl
theorem k109_15 : cod 109 15 = some (36, 1, 0, z0, 16) := by rw [cod, ctab_109]; rfl
theorem k109_16 : cod 109 16 = some (4, 0, 0, z0, 17) := by rw [cod, ctab_109]; rfl
theorem k109_17 : cod 109 17 = some (29, 1, 11, z0, 20) := by rw [cod, ctab_109]; rfl
theorem k109_20 : cod 109 20 = some (4, 0, 0, z0, 21) := by rw [cod, ctab_109]; rfl
theorem k109_21 : cod 109 21 = some (29, 1, 2, z0, 24) := by rw [cod, ctab_109]; rfl
theorem k109_24 : cod 109 24 = some (4, 0, 0, z0, 25) := by rw [cod, ctab_109]; rfl
theorem k109_25 : cod 109 25 = some (29, 1, 5, z0, 28) := by rw [cod, ctab_109]; rfl
theorem k109_28 : cod 109 28 = some (29, 23, 0, z0, 31) := by rw [cod, ctab_109]; rfl
theorem k109_31 : cod 109 31 = some (34, 17, 3, vr 37 0, 34) := by rw [cod, ctab_109]; rfl
theorem k109_34 : cod 109 34 = some (2, 1, 0, z0, 35) := by rw [cod, ctab_109]; rfl
theorem k109_35 : cod 109 35 = some (0, 0, 0, vi (-1), 36) := by rw [cod, ctab_109]; rfl
theorem k109_36 : cod 109 36 = some (28, 1, 49, z0, 39) := by rw [cod, ctab_109]; rfl
theorem k109_39 : cod 109 39 = some (4, 0, 0, z0, 40) := by rw [cod, ctab_109]; rfl
theorem k109_40 : cod 109 40 = some (29, 1, 11, z0, 43) := by rw [cod, ctab_109]; rfl
theorem k109_43 : cod 109 43 = some (29, 37, 2, z0, 46) := by rw [cod, ctab_109]; rfl
theorem k109_46 : cod 109 46 = some (26, 58, 0, z0, 49) := by rw [cod, ctab_109]; rfl
theorem k109_49 : cod 109 49 = some (4, 0, 0, z0, 50) := by rw [cod, ctab_109]; rfl
theorem k109_50 : cod 109 50 = some (29, 1, 11, z0, 53) := by rw [cod, ctab_109]; rfl
theorem k109_53 : cod 109 53 = some (29, 37, 1, z0, 56) := by rw [cod, ctab_109]; rfl
theorem k109_56 : cod 109 56 = some (2, 1, 0, z0, 57) := by rw [cod, ctab_109]; rfl
theorem k109_57 : cod 109 57 = some (31, 1, 0, z0, 58) := by rw [cod, ctab_109]; rfl
theorem k109_58 : cod 109 58 = some (36, 1, 0, z0, 59) := by rw [cod, ctab_109]; rfl
theorem ctab_110 : ctab.getD 110 [] = cd110 := rfl
theorem k110_0 : cod 110 0 = some (0, 0, 0, z0, 1) := by rw [cod, ctab_110]; rfl
theorem k110_1 : cod 110 1 = some (5, 1, 0, z0, 2) := by rw [cod, ctab_110]; rfl
theorem k110_2 : cod 110 2 = some (0, 0, 0, z0, 3) := by rw [cod, ctab_110]; rfl
theorem k110_3 : cod 110 3 = some (5, 2, 0, z0, 4) := by rw [cod, ctab_110]; rfl
theorem k110_4 : cod 110 4 = some (2, 2, 0, z0, 5) := by rw [cod, ctab_110]; rfl
theorem k110_5 : cod 110 5 = some (4, 0, 0, z0, 6) := by rw [cod, ctab_110]; rfl
theorem k110_6 : cod 110 6 = some (29, 1, 2, z0, 9) := by rw [cod, ctab_110]; rfl
theorem k110_9 : cod 110 9 = some (29, 9, 10, z0, 12) := by rw [cod, ctab_110]; rfl
theorem k110_12 : cod 110 12 = some (28, 3, 45, z0, 15) := by rw [cod, ctab_110]; rfl
theorem k110_15 : cod 110 15 = some (4, 0, 0, z0, 16) := by rw [cod, ctab_110]; rfl
theorem k110_16 : cod 110 16 = some (29, 1, 5, z0, 19) := by rw [cod, ctab_110]; rfl
theorem k110_19 : cod 110 19 = some (29, 23, 0, z0, 22) := by rw [cod, ctab_110]; rfl
theorem k110_22 : cod 110 22 = some (4, 0, 0, z0, 23) := by rw [cod, ctab_110]; rfl
theorem k110_23 : cod 110 23 = some (29, 1, 2, z0, 26) := by rw [cod, ctab_110]; rfl
theorem k110_26 : cod 110 26 = some (2, 2, 0, z0, 27) := by rw [cod, ctab_110]; rfl
theorem k110_27 : cod 110 27 = some (34, 52, 3, vr 25 0, 30) := by rw [cod, ctab_110]; rfl
theorem k110_30 : cod 110 30 = some (27, 1, 39, z0, 33) := by rw [cod, ctab_110]; rfl
theorem k110_33 : cod 110 33 = some (2, 1, 0, z0, 34) := by rw [cod, ctab_110]; rfl
theorem k110_34 : cod 110 34 = some (0, 0, 0, vi (1), 35) := by rw [cod, ctab_110]; rfl
theorem k110_35 : cod 110 35 = some (2, 2, 0, z0, 36) := by rw [cod, ctab_110]; rfl
theorem k110_36 : cod 110 36 = some (9, 6, 0, z0, 37) := by rw [cod, ctab_110]; rfl
theorem k110_37 : cod 110 37 = some (9, 4, 0, z0, 38) := by rw [cod, ctab_110]; rfl
theorem k110_38 : cod 110 38 = some (5, 1, 0, z0, 39) := by rw [cod, ctab_110]; rfl
theorem k110_39 : cod 110 39 = some (8, 2, 0, vi (1), 42) := by rw [cod, ctab_110]; rfl
theorem k110_42 : cod 110 42 = some (26, 4, 0, z0, 45) := by rw [cod, ctab_110]; rfl
theorem k110_45 : cod 110 45 = some (2, 1, 0, z0, 46) := by rw [cod, ctab_110]; rfl
theorem k110_46 : cod 110 46 = some (36, 1, 0, z0, 47) := by rw [cod, ctab_110]; rfl
theorem ctab_111 : ctab.getD 111 [] = cd111 := rfl
theorem k111_0 : cod 111 0 = some (2, 1, 0, z0, 1) := by rw [cod, ctab_111]; rfl
theorem k111_1 : cod 111 1 = some (0, 0, 0, z0, 2) := by rw [cod, ctab_111]; rfl
theorem k111_2 : cod 111 2 = some (0, 0, 0, vi (9999), 5) := by rw [cod, ctab_111]; rfl
theorem k111_5 : cod 111 5 = some (34, 114, 3, z0, 8) := by rw [cod, ctab_111]; rfl
theorem k111_8 : cod 111 8 = some (27, 0, 30, z0, 11) := by rw [cod, ctab_111]; rfl
theorem k111_11 : cod 111 11 = some (2, 2, 0, z0, 12) := by rw [cod, ctab_111]; rfl
theorem k111_12 : cod 111 12 = some (0, 0, 0, vi (1), 13) := by rw [cod, ctab_111]; rfl
theorem k111_13 : cod 111 13 = some (0, 0, 0, vi (99), 15) := by rw [cod, ctab_111]; rfl
theorem k111_15 : cod 111 15 = some (34, 114, 3, z0, 18) := by rw [cod, ctab_111]; rfl
theorem k111_18 : cod 111 18 = some (27, 0, 30, z0, 21) := by rw [cod, ctab_111]; rfl
theorem k111_21 : cod 111 21 = some (2, 3, 0, z0, 22) := by rw [cod, ctab_111]; rfl
theorem k111_22 : cod 111 22 = some (0, 0, 0, z0, 23) := by rw [cod, ctab_111]; rfl
theorem k111_23 : cod 111 23 = some (0, 0, 0, vi (2), 24) := by rw [cod, ctab_111]; rfl
theorem k111_24 : cod 111 24 = some (34, 114, 3, z0, 27) := by rw [cod, ctab_111]; rfl
theorem k111_27 : cod 111 27 = some (27, 1, 32, z0, 30) := by rw [cod, ctab_111]; rfl
theorem k111_30 : cod 111 30 = some (0, 0, 0, vi (-1), 31) := by rw [cod, ctab_111]; rfl
theorem k111_31 : cod 111 31 = some (36, 1, 0, z0, 32) := by rw [cod, ctab_111]; rfl
theorem k111_32 : cod 111 32 = some (4, 0, 0, z0, 33) := by rw [cod, ctab_111]; rfl
theorem k111_33 : cod 111 33 = some (2, 1, 0, z0, 34) := by rw [cod, ctab_111]; rfl
theorem k111_34 : cod 111 34 = some (19, 0, 0, z0, 35) := by rw [cod, ctab_111]; rfl
theorem k111_35 : cod 111 35 = some (30, 1, 14, z0, 38) := by rw [cod, ctab_111]; rfl
theorem k111_38 : cod 111 38 = some (4, 0, 0, z0, 39) := by rw [cod, ctab_111]; rfl
theorem k111_39 : cod 111 39 = some (29, 1, 8, z0, 42) := by rw [cod, ctab_111]; rfl
theorem k111_42 : cod 111 42 = some (4, 0, 0, z0, 43) := by rw [cod, ctab_111]; rfl
theorem k111_43 : cod 111 43 = some (29, 1, 5, z0, 46) := by rw [cod, ctab_111]; rfl
theorem k111_46 : cod 111 46 = some (29, 23, 0, z0, 49) := by rw [cod, ctab_111]; rfl
theorem k111_49 : cod 111 49 = some (34, 45, 2, vr 25 0, 52) := by rw [cod, ctab_111]; rfl
theorem k111_52 : cod 111 52 = some (0, 0, 0, z0, 53) := by rw [cod, ctab_111]; rfl
theorem k111_53 : cod 111 53 = some (5, 4, 0, z0, 55) := by rw [cod, ctab_111]; rfl
theorem k111_55 : cod 111 55 = some (2, 4, 0, z0, 57) := by rw [cod, ctab_111]; rfl
theorem k111_57 : cod 111 57 = some (2, 2, 0, z0, 58) := by rw [cod, ctab_111]; rfl
theorem k111_58 : cod 111 58 = some (28, 3, 71, z0, 61) := by rw [cod, ctab_111]; rfl
theorem k111_61 : cod 111 61 = some (4, 0, 0, z0, 62) := by rw [cod, ctab_111]; rfl
theorem k111_62 : cod 111 62 = some (34, 127, 1, vr 1 0, 65) := by rw [cod, ctab_111]; rfl
theorem k111_65 : cod 111 65 = some (8, 4, 0, vi (1), 68) := by rw [cod, ctab_111]; rfl
theorem k111_68 : cod 111 68 = some (26, 55, 0, z0, 71) := by rw [cod, ctab_111]; rfl
theorem k111_71 : cod 111 71 = some (2, 3, 0, z0, 72) := by rw [cod, ctab_111]; rfl
theorem k111_72 : cod 111 72 = some (27, 1, 94, z0, 75) := by rw [cod, ctab_111]; rfl
theorem k111_75 : cod 111 75 = some (4, 0, 0, z0, 76) := by rw [cod, ctab_111]; rfl
theorem k111_76 : cod 111 76 = some (29, 1, 8, z0, 79) := by rw [cod, ctab_111]; rfl
theorem k111_79 : cod 111 79 = some (29, 25, 5, z0, 82) := by rw [cod, ctab_111]; rfl
theorem k111_82 : cod 111 82 = some (4, 0, 0, z0, 83) := by rw [cod, ctab_111]; rfl
theorem k111_83 : cod 111 83 = some (29, 1, 5, z0, 86) := by rw [cod, ctab_111]; rfl
theorem k111_86 : cod 111 86 = some (29, 23, 0, z0, 89) := by rw [cod, ctab_111]; rfl
theorem k111_89 : cod 111 89 = some (29, 25, 5, z0, 92) := by rw [cod, ctab_111]; rfl
theorem k111_92 : cod 111 92 = some (9, 1, 0, z0, 93) := by rw [cod, ctab_111]; rfl
theorem k111_93 : cod 111 93 = some (36, 1, 0, z0, 94) := by rw [cod, ctab_111]; rfl
theorem k111_94 : cod 111 94 = some (2, 3, 0, z0, 95) := by rw [cod, ctab_111]; rfl
theorem k111_95 : cod 111 95 = some (0, 0, 0, vi (1), 96) := by rw [cod, ctab_111]; rfl
theorem k111_96 : cod 111 96 = some (28, 1, 120, z0, 99) := by rw [cod, ctab_111]; rfl
theorem k111_99 : cod 111 99 = some (4, 0, 0, z0, 100) := by rw [cod, ctab_111]; rfl
theorem k111_100 : cod 111 100 = some (29, 1, 8, z0, 103) := by rw [cod, ctab_111]; rfl
theorem k111_103 : cod 111 103 = some (29, 25, 6, z0, 106) := by rw [cod, ctab_111]; rfl
theorem k111_106 : cod 111 106 = some (4, 0, 0, z0, 107) := by rw [cod, ctab_111]; rfl
theorem k111_107 : cod 111 107 = some (29, 1, 5, z0, 110) := by rw [cod, ctab_111]; rfl
theorem k111_110 : cod 111 110 = some (29, 23, 0, z0, 113) := by rw [cod, ctab_111]; rfl
theorem k111_113 : cod 111 113 = some (29, 25, 6, z0, 116) := by rw [cod, ctab_111]; rfl
theorem k111_116 : cod 111 116 = some (9, 1, 0, z0, 117) := by rw [cod, ctab_111]; rfl
theorem k111_117 : cod 111 117 = some (26, 131, 0, z0, 120) := by rw [cod, ctab_111]; rfl
theorem k111_120 : cod 111 120 = some (4, 0, 0, z0, 121) := by rw [cod, ctab_111]; rfl
theorem k111_121 : cod 111 121 = some (29, 1, 8, z0, 124) := by rw [cod, ctab_111]; rfl
theorem k111_124 : cod 111 124 = some (4, 0, 0, z0, 125) := by rw [cod, ctab_111]; rfl
theorem k111_125 : cod 111 125 = some (29, 1, 2, z0, 128) := by rw [cod, ctab_111]; rfl
theorem k111_128 : cod 111 128 = some (34, 48, 2, vr 25 0, 131) := by rw [cod, ctab_111]; rfl
theorem k111_131 : cod 111 131 = some (36, 1, 0, z0, 132) := by rw [cod, ctab_111]; rfl
theorem ctab_112 : ctab.getD 112 [] = cd112 := rfl
theorem k112_0 : cod 112 0 = some (2, 1, 0, z0, 1) := by rw [cod, ctab_112]; rfl
theorem k112_1 : cod 112 1 = some (0, 0, 0, z0, 2) := by rw [cod, ctab_112]; rfl
theorem k112_2 : cod 112 2 = some (0, 0, 0, vi (3), 3) := by rw [cod, ctab_112]; rfl
theorem k112_3 : cod 112 3 = some (34, 114, 3, z0, 6) := by rw [cod, ctab_112]; rfl
theorem k112_6 : cod 112 6 = some (27, 1, 11, z0, 9) := by rw [cod, ctab_112]; rfl
theorem k112_9 : cod 112 9 = some (0, 0, 0, z0, 10) := by rw [cod, ctab_112]; rfl
theorem k112_10 : cod 112 10 = some (36, 2, 0, z0, 11) := by rw [cod, ctab_112]; rfl
theorem k112_11 : cod 112 11 = some (2, 2, 0, z0, 12) := by rw [cod, ctab_112]; rfl
theorem k112_12 : cod 112 12 = some (27, 1, 40, z0, 15) := by rw [cod, ctab_112]; rfl
theorem k112_15 : cod 112 15 = some (4, 0, 0, z0, 16) := by rw [cod, ctab_112]; rfl
theorem k112_16 : cod 112 16 = some (29, 1, 6, z0, 19) := by rw [cod, ctab_112]; rfl
theorem k112_19 : cod 112 19 = some (2, 1, 0, z0, 20) := by rw [cod, ctab_112]; rfl
theorem k112_20 : cod 112 20 = some (31, 5, 0, z0, 21) := by rw [cod, ctab_112]; rfl
theorem k112_21 : cod 112 21 = some (4, 0, 0, z0, 22) := by rw [cod, ctab_112]; rfl
theorem k112_22 : cod 112 22 = some (29, 1, 5, z0, 25) := by rw [cod, ctab_112]; rfl
theorem k112_25 : cod 112 25 = some (34, 41, 2, vr 23 0, 28) := by rw [cod, ctab_112]; rfl
theorem k112_28 : cod 112 28 = some (4, 0, 0, z0, 29) := by rw [cod, ctab_112]; rfl
theorem k112_29 : cod 112 29 = some (29, 1, 6, z0, 32) := by rw [cod, ctab_112]; rfl
theorem k112_32 : cod 112 32 = some (2, 1, 0, z0, 33) := by rw [cod, ctab_112]; rfl
theorem k112_33 : cod 112 33 = some (31, 5, 0, z0, 34) := by rw [cod, ctab_112]; rfl
theorem k112_34 : cod 112 34 = some (0, 0, 0, vi (1), 35) := by rw [cod, ctab_112]; rfl
theorem k112_35 : cod 112 35 = some (30, 23, 3, z0, 38) := by rw [cod, ctab_112]; rfl
theorem k112_38 : cod 112 38 = some (0, 0, 0, vi (1), 39) := by rw [cod, ctab_112]; rfl
theorem k112_39 : cod 112 39 = some (36, 2, 0, z0, 40) := by rw [cod, ctab_112]; rfl
theorem k112_40 : cod 112 40 = some (4, 0, 0, z0, 41) := by rw [cod, ctab_112]; rfl
theorem k112_41 : cod 112 41 = some (29, 1, 6, z0, 44) := by rw [cod, ctab_112]; rfl
theorem k112_44 : cod 112 44 = some (2, 1, 0, z0, 45) := by rw [cod, ctab_112]; rfl
theorem k112_45 : cod 112 45 = some (31, 5, 0, z0, 46) := by rw [cod, ctab_112]; rfl
theorem k112_46 : cod 112 46 = some (29, 23, 3, z0, 49) := by rw [cod, ctab_112]; rfl
theorem k112_49 : cod 112 49 = some (27, 1, 54, z0, 52) := by rw [cod, ctab_112]; rfl
theorem k112_52 : cod 112 52 = some (0, 0, 0, z0, 53) := by rw [cod, ctab_112]; rfl
theorem k112_53 : cod 112 53 = some (36, 2, 0, z0, 54) := by rw [cod, ctab_112]; rfl
theorem k112_54 : cod 112 54 = some (4, 0, 0, z0, 55) := by rw [cod, ctab_112]; rfl
theorem k112_55 : cod 112 55 = some (29, 1, 5, z0, 58) := by rw [cod, ctab_112]; rfl
theorem k112_58 : cod 112 58 = some (4, 0, 0, z0, 59) := by rw [cod, ctab_112]; rfl
theorem k112_59 : cod 112 59 = some (29, 1, 6, z0, 62) := by rw [cod, ctab_112]; rfl
theorem k112_62 : cod 112 62 = some (2, 1, 0, z0, 63) := by rw [cod, ctab_112]; rfl
theorem k112_63 : cod 112 63 = some (31, 5, 0, z0, 64) := by rw [cod, ctab_112]; rfl
theorem k112_64 : cod 112 64 = some (34, 41, 2, vr 23 0, 67) := by rw [cod, ctab_112]; rfl
theorem k112_67 : cod 112 67 = some (4, 0, 0, z0, 68) := by rw [cod, ctab_112]; rfl
theorem k112_68 : cod 112 68 = some (29, 1, 7, z0, 71) := by rw [cod, ctab_112]; rfl
theorem k112_71 : cod 112 71 = some (34, 20, 1, vr 29 0, 74) := by rw [cod, ctab_112]; rfl
theorem k112_74 : cod 112 74 = some (0, 0, 0, vi (1), 75) := by rw [cod, ctab_112]; rfl
theorem k112_75 : cod 112 75 = some (36, 2, 0, z0, 76) := by rw [cod, ctab_112]; rfl
theorem ctab_113 : ctab.getD 113 [] = cd113 := rfl
theorem k113_0 : cod 113 0 = some (4, 0, 0, z0, 1) := by rw [cod, ctab_113]; rfl
theorem k113_1 : cod 113 1 = some (29, 1, 5, z0, 4) := by rw [cod, ctab_113]; rfl
theorem k113_4 : cod 113 4 = some (29, 23, 0, z0, 7) := by rw [cod, ctab_113]; rfl
theorem k113_7 : cod 113 7 = some (7, 2, 0, z0, 8) := by rw [cod, ctab_113]; rfl
theorem k113_8 : cod 113 8 = some (2, 1, 0, z0, 9) := by rw [cod, ctab_113]; rfl
theorem k113_9 : cod 113 9 = some (38, 4, 0, z0, 76) := by rw [cod, ctab_113]; rfl
theorem k113_76 : cod 113 76 = some (4, 0, 0, z0, 77) := by rw [cod, ctab_113]; rfl
theorem k113_77 : cod 113 77 = some (29, 1, 2, z0, 80) := by rw [cod, ctab_113]; rfl
theorem k113_80 : cod 113 80 = some (29, 9, 9, z0, 83) := by rw [cod, ctab_113]; rfl
theorem k113_83 : cod 113 83 = some (36, 1, 0, z0, 84) := by rw [cod, ctab_113]; rfl
theorem k113_84 : cod 113 84 = some (4, 0, 0, z0, 85) := by rw [cod, ctab_113]; rfl
theorem k113_85 : cod 113 85 = some (29, 1, 2, z0, 88) := by rw [cod, ctab_113]; rfl
theorem k113_88 : cod 113 88 = some (29, 9, 10, z0, 91) := by rw [cod, ctab_113]; rfl
theorem k113_91 : cod 113 91 = some (36, 1, 0, z0, 92) := by rw [cod, ctab_113]; rfl
theorem k113_92 : cod 113 92 = some (4, 0, 0, z0, 93) := by rw [cod, ctab_113]; rfl
theorem k113_93 : cod 113 93 = some (29, 1, 2, z0, 96) := by rw [cod, ctab_113]; rfl
theorem k113_96 : cod 113 96 = some (29, 9, 11, z0, 99) := by rw [cod, ctab_113]; rfl
theorem k113_99 : cod 113 99 = some (36, 1, 0, z0, 100) := by rw [cod, ctab_113]; rfl
theorem k113_100 : cod 113 100 = some (4, 0, 0, z0, 101) := by rw [cod, ctab_113]; rfl
theorem k113_101 : cod 113 101 = some (29, 1, 2, z0, 104) := by rw [cod, ctab_113]; rfl
theorem k113_104 : cod 113 104 = some (29, 9, 12, z0, 107) := by rw [cod, ctab_113]; rfl
theorem k113_107 : cod 113 107 = some (36, 1, 0, z0, 108) := by rw [cod, ctab_113]; rfl
theorem k113_108 : cod 113 108 = some (4, 2, 0, z0, 109) := by rw [cod, ctab_113]; rfl
theorem k113_109 : cod 113 109 = some (29, 25, 4, z0, 112) := by rw [cod, ctab_113]; rfl
theorem k113_112 : cod 113 112 = some (36, 1, 0, z0, 113) := by rw [cod, ctab_113]; rfl
theorem k113_113 : cod 113 113 = some (4, 2, 0, z0, 114) := by rw [cod, ctab_113]; rfl
theorem k113_114 : cod 113 114 = some (4, 0, 0, z0, 115) := by rw [cod, ctab_113]; rfl
theorem k113_115 : cod 113 115 = some (29, 1, 2, z0, 118) := by rw [cod, ctab_113]; rfl
theorem k113_118 : cod 113 118 = some (34, 48, 2, vr 25 0, 121) := by rw [cod, ctab_113]; rfl
theorem k113_121 : cod 113 121 = some (36, 1, 0, z0, 122) := by rw [cod, ctab_113]; rfl
theorem k113_122 : cod 113 122 = some (4, 2, 0, z0, 123) := by rw [cod, ctab_113]; rfl
theorem k113_123 : cod 113 123 = some (29, 25, 3, z0, 126) := by rw [cod, ctab_113]; rfl
theorem k113_126 : cod 113 126 = some (36, 1, 0, z0, 127) := by rw [cod, ctab_113]; rfl
theorem k113_127 : cod 113 127 = some (4, 2, 0, z0, 128) := by rw [cod, ctab_113]; rfl
theorem k113_128 : cod 113 128 = some (4, 0, 0, z0, 129) := by rw [cod, ctab_113]; rfl
theorem k113_129 : cod 113 129 = some (29, 1, 2, z0, 132) := by rw [cod, ctab_113]; rfl
theorem k113_132 : cod 113 132 = some (34, 49, 2, vr 25 0, 135) := by rw [cod, ctab_113]; rfl
theorem k113_135 : cod 113 135 = some (36, 1, 0, z0, 136) := by rw [cod, ctab_113]; rfl
theorem k113_136 : cod 113 136 = some (4, 2, 0, z0, 137) := by rw [cod, ctab_113]; rfl
theorem k113_137 : cod 113 137 = some (29, 25, 5, z0, 140) := by rw [cod, ctab_113]; rfl
theorem k113_140 : cod 113 140 = some (36, 1, 0, z0, 141) := by rw [cod, ctab_113]; rfl
theorem k113_141 : cod 113 141 = some (4, 0, 0, z0, 142) := by rw [cod, ctab_113]; rfl
theorem k113_142 : cod 113 142 = some (29, 1, 5, z0, 145) := by rw [cod, ctab_113]; rfl
theorem k113_145 : cod 113 145 = some (29, 23, 1, z0, 148) := by rw [cod, ctab_113]; rfl
theorem k113_148 : cod 113 148 = some (29, 19, 3, z0, 151) := by rw [cod, ctab_113]; rfl
theorem k113_151 : cod 113 151 = some (36, 1, 0, z0, 152) := by rw [cod, ctab_113]; rfl
theorem k113_152 : cod 113 152 = some (4, 0, 0, z0, 153) := by rw [cod, ctab_113]; rfl
theorem k113_153 : cod 113 153 = some (29, 1, 5, z0, 156) := by rw [cod, ctab_113]; rfl
theorem k113_156 : cod 113 156 = some (34, 42, 1, vr 23 0, 159) := by rw [cod, ctab_113]; rfl
theorem k113_159 : cod 113 159 = some (36, 1, 0, z0, 160) := by rw [cod, ctab_113]; rfl
theorem k113_160 : cod 113 160 = some (4, 0, 0, z0, 161) := by rw [cod, ctab_113]; rfl
theorem k113_161 : cod 113 161 = some (29, 1, 7, z0, 164) := by rw [cod, ctab_113]; rfl
theorem k113_164 : cod 113 164 = some (29, 29, 2, z0, 167) := by rw [cod, ctab_113]; rfl
theorem k113_167 : cod 113 167 = some (36, 1, 0, z0, 168) := by rw [cod, ctab_113]; rfl
theorem k113_168 : cod 113 168 = some (4, 0, 0, z0, 169) := by rw [cod, ctab_113]; rfl
theorem k113_169 : cod 113 169 = some (29, 1, 0, z0, 172) := by rw [cod, ctab_113]; rfl
theorem k113_172 : cod 113 172 = some (29, 5, 1, z0, 175) := by rw [cod, ctab_113]; rfl
theorem k113_175 : cod 113 175 = some (36, 1, 0, z0, 176) := by rw [cod, ctab_113]; rfl
theorem k113_176 : cod 113 176 = some (0, 0, 0, vi (-1), 177) := by rw [cod, ctab_113]; rfl
theorem k113_177 : cod 113 177 = some (36, 1, 0, z0, 178) := by rw [cod, ctab_113]; rfl
theorem ctab_114 : ctab.getD 114 [] = cd114 := rfl
theorem k114_0 : cod 114 0 = some (2, 0, 0, z0, 1) := by rw [cod, ctab_114]; rfl
theorem k114_1 : cod 114 1 = some (2, 1, 0, z0, 2) := by rw [cod, ctab_114]; rfl
theorem k114_2 : cod 114 2 = some (28, 2, 14, z0, 5) := by rw [cod, ctab_114]; rfl
theorem k114_5 : cod 114 5 = some (2, 0, 0, z0, 6) := by rw [cod, ctab_114]; rfl
theorem k114_6 : cod 114 6 = some (2, 2, 0, z0, 7) := by rw [cod, ctab_114]; rfl
theorem k114_7 : cod 114 7 = some (28, 4, 14, z0, 10) := by rw [cod, ctab_114]; rfl
theorem k114_10 : cod 114 10 = some (0, 0, 0, vi (1), 11) := by rw [cod, ctab_114]; rfl
theorem k114_11 : cod 114 11 = some (26, 15, 0, z0, 14) := by rw [cod, ctab_114]; rfl
theorem k114_14 : cod 114 14 = some (0, 0, 0, z0, 15) := by rw [cod, ctab_114]; rfl
theorem k114_15 : cod 114 15 = some (36, 2, 0, z0, 16) := by rw [cod, ctab_114]; rfl
theorem ctab_115 : ctab.getD 115 [] = cd115 := rfl
theorem k115_0 : cod 115 0 = some (2, 1, 0, z0, 1) := by rw [cod, ctab_115]; rfl
theorem k115_1 : cod 115 1 = some (27, 2, 19, z0, 4) := by rw [cod, ctab_115]; rfl
theorem k115_4 : cod 115 4 = some (2, 1, 0, z0, 5) := by rw [cod, ctab_115]; rfl
theorem k115_5 : cod 115 5 = some (4, 0, 0, z0, 6) := by rw [cod, ctab_115]; rfl
theorem k115_6 : cod 115 6 = some (29, 1, 2, z0, 9) := by rw [cod, ctab_115]; rfl
theorem k115_9 : cod 115 9 = some (29, 9, 10, z0, 12) := by rw [cod, ctab_115]; rfl
theorem k115_12 : cod 115 12 = some (28, 3, 19, z0, 15) := by rw [cod, ctab_115]; rfl
theorem k115_15 : cod 115 15 = some (0, 0, 0, vi (1), 16) := by rw [cod, ctab_115]; rfl
theorem k115_16 : cod 115 16 = some (26, 20, 0, z0, 19) := by rw [cod, ctab_115]; rfl
theorem k115_19 : cod 115 19 = some (0, 0, 0, z0, 20) := by rw [cod, ctab_115]; rfl
theorem k115_20 : cod 115 20 = some (36, 2, 0, z0, 21) := by rw [cod, ctab_115]; rfl
theorem ctab_116 : ctab.getD 116 [] = cd116 := rfl
theorem k116_0 : cod 116 0 = some (2, 1, 0, z0, 1) := by rw [cod, ctab_116]; rfl
theorem k116_1 : cod 116 1 = some (27, 2, 19, z0, 4) := by rw [cod, ctab_116]; rfl
theorem k116_4 : cod 116 4 = some (2, 1, 0, z0, 5) := by rw [cod, ctab_116]; rfl
theorem k116_5 : cod 116 5 = some (4, 0, 0, z0, 6) := by rw [cod, ctab_116]; rfl
theorem k116_6 : cod 116 6 = some (29, 1, 2, z0, 9) := by rw [cod, ctab_116]; rfl
theorem k116_9 : cod 116 9 = some (29, 9, 9, z0, 12) := by rw [cod, ctab_116]; rfl
theorem k116_12 : cod 116 12 = some (28, 3, 19, z0, 15) := by rw [cod, ctab_116]; rfl
theorem k116_15 : cod 116 15 = some (0, 0, 0, vi (1), 16) := by rw [cod, ctab_116]; rfl
theorem k116_16 : cod 116 16 = some (26, 20, 0, z0, 19) := by rw [cod, ctab_116]; rfl
theorem k116_19 : cod 116 19 = some (0, 0, 0, z0, 20) := by rw [cod, ctab_116]; rfl
theorem k116_20 : cod 116 20 = some (36, 2, 0, z0, 21) := by rw [cod, ctab_116]; rfl
theorem ctab_117 : ctab.getD 117 [] = cd117 := rfl
theorem k117_0 : cod 117 0 = some (4, 0, 0, z0, 1) := by rw [cod, ctab_117]; rfl
theorem k117_1 : cod 117 1 = some (2, 1, 0, z0, 2) := by rw [cod, ctab_117]; rfl
theorem k117_2 : cod 117 2 = some (34, 115, 2, vr 1 0, 5) := by rw [cod, ctab_117]; rfl
theorem k117_5 : cod 117 5 = some (27, 0, 25, z0, 8) := by rw [cod, ctab_117]; rfl
theorem k117_8 : cod 117 8 = some (4, 0, 0, z0, 9) := by rw [cod, ctab_117]; rfl
theorem k117_9 : cod 117 9 = some (2, 2, 0, z0, 10) := by rw [cod, ctab_117]; rfl
theorem k117_10 : cod 117 10 = some (34, 115, 2, vr 1 0, 13) := by rw [cod, ctab_117]; rfl
theorem k117_13 : cod 117 13 = some (27, 0, 25, z0, 16) := by rw [cod, ctab_117]; rfl
theorem k117_16 : cod 117 16 = some (2, 1, 0, z0, 17) := by rw [cod, ctab_117]; rfl
theorem k117_17 : cod 117 17 = some (2, 2, 0, z0, 18) := by rw [cod, ctab_117]; rfl
theorem k117_18 : cod 117 18 = some (28, 0, 25, z0, 21) := by rw [cod, ctab_117]; rfl
theorem k117_21 : cod 117 21 = some (0, 0, 0, vi (1), 22) := by rw [cod, ctab_117]; rfl
theorem k117_22 : cod 117 22 = some (26, 26, 0, z0, 25) := by rw [cod, ctab_117]; rfl
theorem k117_25 : cod 117 25 = some (0, 0, 0, z0, 26) := by rw [cod, ctab_117]; rfl
theorem k117_26 : cod 117 26 = some (36, 2, 0, z0, 27) := by rw [cod, ctab_117]; rfl
theorem ctab_118 : ctab.getD 118 [] = cd118 := rfl
theorem k118_0 : cod 118 0 = some (4, 1, 0, z0, 1) := by rw [cod, ctab_118]; rfl
theorem k118_1 : cod 118 1 = some (29, 19, 1, z0, 4) := by rw [cod, ctab_118]; rfl
theorem k118_4 : cod 118 4 = some (2, 2, 0, z0, 5) := by rw [cod, ctab_118]; rfl
theorem k118_5 : cod 118 5 = some (31, 1, 0, z0, 6) := by rw [cod, ctab_118]; rfl
theorem k118_6 : cod 118 6 = some (5, 3, 0, z0, 7) := by rw [cod, ctab_118]; rfl
theorem k118_7 : cod 118 7 = some (4, 1, 0, z0, 8) := by rw [cod, ctab_118]; rfl
theorem k118_8 : cod 118 8 = some (29, 19, 2, z0, 11) := by rw [cod, ctab_118]; rfl
theorem k118_11 : cod 118 11 = some (2, 2, 0, z0, 12) := by rw [cod, ctab_118]; rfl
theorem k118_12 : cod 118 12 = some (31, 1, 0, z0, 13) := by rw [cod, ctab_118]; rfl
theorem k118_13 : cod 118 13 = some (5, 4, 0, z0, 15) := by rw [cod, ctab_118]; rfl
theorem k118_15 : cod 118 15 = some (4, 1, 0, z0, 16) := by rw [cod, ctab_118]; rfl
theorem k118_16 : cod 118 16 = some (29, 19, 0, z0, 19) := by rw [cod, ctab_118]; rfl
theorem k118_19 : cod 118 19 = some (2, 2, 0, z0, 20) := by rw [cod, ctab_118]; rfl
theorem k118_20 : cod 118 20 = some (31, 1, 0, z0, 21) := by rw [cod, ctab_118]; rfl
theorem k118_21 : cod 118 21 = some (38, 5, 0, z0, 48) := by rw [cod, ctab_118]; rfl
theorem k118_48 : cod 118 48 = some (4, 0, 0, z0, 49) := by rw [cod, ctab_118]; rfl
theorem k118_49 : cod 118 49 = some (29, 1, 8, z0, 52) := by rw [cod, ctab_118]; rfl
theorem k118_52 : cod 118 52 = some (4, 0, 0, z0, 53) := by rw [cod, ctab_118]; rfl
theorem k118_53 : cod 118 53 = some (29, 1, 2, z0, 56) := by rw [cod, ctab_118]; rfl
theorem k118_56 : cod 118 56 = some (2, 3, 0, z0, 57) := by rw [cod, ctab_118]; rfl
theorem k118_57 : cod 118 57 = some (2, 4, 0, z0, 59) := by rw [cod, ctab_118]; rfl
theorem k118_59 : cod 118 59 = some (34, 55, 4, vr 25 0, 62) := by rw [cod, ctab_118]; rfl
theorem k118_62 : cod 118 62 = some (36, 2, 0, z0, 63) := by rw [cod, ctab_118]; rfl
theorem k118_63 : cod 118 63 = some (4, 0, 0, z0, 64) := by rw [cod, ctab_118]; rfl
theorem k118_64 : cod 118 64 = some (29, 1, 8, z0, 67) := by rw [cod, ctab_118]; rfl
theorem k118_67 : cod 118 67 = some (4, 0, 0, z0, 68) := by rw [cod, ctab_118]; rfl
theorem k118_68 : cod 118 68 = some (29, 1, 2, z0, 71) := by rw [cod, ctab_118]; rfl
theorem k118_71 : cod 118 71 = some (2, 3, 0, z0, 72) := by rw [cod, ctab_118]; rfl
theorem k118_72 : cod 118 72 = some (2, 4, 0, z0, 74) := by rw [cod, ctab_118]; rfl
theorem k118_74 : cod 118 74 = some (34, 56, 4, vr 25 0, 77) := by rw [cod, ctab_118]; rfl
theorem k118_77 : cod 118 77 = some (27, 1, 82, z0, 80) := by rw [cod, ctab_118]; rfl
theorem k118_80 : cod 118 80 = some (0, 0, 0, z0, 81) := by rw [cod, ctab_118]; rfl
theorem k118_81 : cod 118 81 = some (36, 2, 0, z0, 82) := by rw [cod, ctab_118]; rfl
theorem k118_82 : cod 118 82 = some (4, 0, 0, z0, 83) := by rw [cod, ctab_118]; rfl
theorem k118_83 : cod 118 83 = some (29, 1, 8, z0, 86) := by rw [cod, ctab_118]; rfl
theorem k118_86 : cod 118 86 = some (4, 0, 0, z0, 87) := by rw [cod, ctab_118]; rfl
theorem k118_87 : cod 118 87 = some (29, 1, 2, z0, 90) := by rw [cod, ctab_118]; rfl
theorem k118_90 : cod 118 90 = some (2, 3, 0, z0, 91) := by rw [cod, ctab_118]; rfl
theorem k118_91 : cod 118 91 = some (2, 4, 0, z0, 93) := by rw [cod, ctab_118]; rfl
theorem k118_93 : cod 118 93 = some (34, 59, 4, vr 25 0, 96) := by rw [cod, ctab_118]; rfl
theorem k118_96 : cod 118 96 = some (0, 0, 0, vi (1), 97) := by rw [cod, ctab_118]; rfl
theorem k118_97 : cod 118 97 = some (36, 2, 0, z0, 98) := by rw [cod, ctab_118]; rfl
theorem k118_98 : cod 118 98 = some (4, 0, 0, z0, 99) := by rw [cod, ctab_118]; rfl
theorem k118_99 : cod 118 99 = some (29, 1, 8, z0, 102) := by rw [cod, ctab_118]; rfl
theorem k118_102 : cod 118 102 = some (2, 3, 0, z0, 103) := by rw [cod, ctab_118]; rfl
theorem k118_103 : cod 118 103 = some (34, 46, 2, vr 25 0, 106) := by rw [cod, ctab_118]; rfl
theorem k118_106 : cod 118 106 = some (27, 1, 111, z0, 109) := by rw [cod, ctab_118]; rfl
theorem k118_109 : cod 118 109 = some (0, 0, 0, z0, 110) := by rw [cod, ctab_118]; rfl
theorem k118_110 : cod 118 110 = some (36, 2, 0, z0, 111) := by rw [cod, ctab_118]; rfl
theorem k118_111 : cod 118 111 = some (4, 0, 0, z0, 112) := by rw [cod, ctab_118]; rfl
theorem k118_112 : cod 118 112 = some (29, 1, 8, z0, 115) := by rw [cod, ctab_118]; rfl
theorem k118_115 : cod 118 115 = some (2, 3, 0, z0, 116) := by rw [cod, ctab_118]; rfl
theorem k118_116 : cod 118 116 = some (34, 60, 2, vr 25 0, 119) := by rw [cod, ctab_118]; rfl
theorem k118_119 : cod 118 119 = some (0, 0, 0, vi (1), 120) := by rw [cod, ctab_118]; rfl
theorem k118_120 : cod 118 120 = some (36, 2, 0, z0, 121) := by rw [cod, ctab_118]; rfl
theorem k118_121 : cod 118 121 = some (4, 0, 0, z0, 122) := by rw [cod, ctab_118]; rfl
theorem k118_122 : cod 118 122 = some (29, 1, 8, z0, 125) := by rw [cod, ctab_118]; rfl
theorem k118_125 : cod 118 125 = some (4, 0, 0, z0, 126) := by rw [cod, ctab_118]; rfl
theorem k118_126 : cod 118 126 = some (29, 1, 2, z0, 129) := by rw [cod, ctab_118]; rfl
theorem k118_129 : cod 118 129 = some (34, 61, 2, vr 25 0, 132) := by rw [cod, ctab_118]; rfl
theorem k118_132 : cod 118 132 = some (25, 0, 0, z0, 133) := by rw [cod, ctab_118]; rfl
theorem k118_133 : cod 118 133 = some (0, 0, 0, vi (1), 134) := by rw [cod, ctab_118]; rfl
theorem k118_134 : cod 118 134 = some (36, 2, 0, z0, 135) := by rw [cod, ctab_118]; rfl
theorem ctab_119 : ctab.getD 119 [] = cd119 := rfl
theorem k119_0 : cod 119 0 = some (2, 1, 0, z0, 1) := by rw [cod, ctab_119]; rfl
theorem k119_1 : cod 119 1 = some (27, 1, 33, z0, 4) := by rw [cod, ctab_119]; rfl
theorem k119_4 : cod 119 4 = some (4, 0, 0, z0, 5) := by rw [cod, ctab_119]; rfl
theorem k119_5 : cod 119 5 = some (29, 1, 8, z0, 8) := by rw [cod, ctab_119]; rfl
theorem k119_8 : cod 119 8 = some (4, 0, 0, z0, 9) := by rw [cod, ctab_119]; rfl
theorem k119_9 : cod 119 9 = some (29, 1, 5, z0, 12) := by rw [cod, ctab_119]; rfl
theorem k119_12 : cod 119 12 = some (29, 23, 0, z0, 15) := by rw [cod, ctab_119]; rfl
theorem k119_15 : cod 119 15 = some (34, 45, 2, vr 25 0, 18) := by rw [cod, ctab_119]; rfl
theorem k119_18 : cod 119 18 = some (4, 0, 0, z0, 19) := by rw [cod, ctab_119]; rfl
theorem k119_19 : cod 119 19 = some (2, 2, 0, z0, 20) := by rw [cod, ctab_119]; rfl
theorem k119_20 : cod 119 20 = some (34, 121, 2, vr 1 0, 23) := by rw [cod, ctab_119]; rfl
theorem k119_23 : cod 119 23 = some (27, 0, 30, z0, 26) := by rw [cod, ctab_119]; rfl
theorem k119_26 : cod 119 26 = some (0, 0, 0, vi (-1), 27) := by rw [cod, ctab_119]; rfl
theorem k119_27 : cod 119 27 = some (26, 32, 0, z0, 30) := by rw [cod, ctab_119]; rfl
theorem k119_30 : cod 119 30 = some (0, 0, 0, vi (-2), 32) := by rw [cod, ctab_119]; rfl
theorem k119_32 : cod 119 32 = some (36, 1, 0, z0, 33) := by rw [cod, ctab_119]; rfl
theorem k119_33 : cod 119 33 = some (0, 0, 0, z0, 34) := by rw [cod, ctab_119]; rfl
theorem k119_34 : cod 119 34 = some (5, 3, 0, z0, 35) := by rw [cod, ctab_119]; rfl
theorem k119_35 : cod 119 35 = some (2, 3, 0, z0, 36) := by rw [cod, ctab_119]; rfl
theorem k119_36 : cod 119 36 = some (4, 0, 0, z0, 37) := by rw [cod, ctab_119]; rfl
theorem k119_37 : cod 119 37 = some (29, 1, 2, z0, 40) := by rw [cod, ctab_119]; rfl
theorem k119_40 : cod 119 40 = some (29, 9, 9, z0, 43) := by rw [cod, ctab_119]; rfl
theorem k119_43 : cod 119 43 = some (28, 3, 126, z0, 46) := by rw [cod, ctab_119]; rfl
theorem k119_46 : cod 119 46 = some (4, 0, 0, z0, 47) := by rw [cod, ctab_119]; rfl
theorem k119_47 : cod 119 47 = some (2, 1, 0, z0, 48) := by rw [cod, ctab_119]; rfl
theorem k119_48 : cod 119 48 = some (2, 3, 0, z0, 49) := by rw [cod, ctab_119]; rfl
theorem k119_49 : cod 119 49 = some (34, 120, 3, vr 1 0, 52) := by rw [cod, ctab_119]; rfl
theorem k119_52 : cod 119 52 = some (27, 0, 120, z0, 55) := by rw [cod, ctab_119]; rfl
theorem k119_55 : cod 119 55 = some (4, 0, 0, z0, 56) := by rw [cod, ctab_119]; rfl
theorem k119_56 : cod 119 56 = some (29, 1, 8, z0, 59) := by rw [cod, ctab_119]; rfl
theorem k119_59 : cod 119 59 = some (4, 0, 0, z0, 60) := by rw [cod, ctab_119]; rfl
theorem k119_60 : cod 119 60 = some (29, 1, 5, z0, 63) := by rw [cod, ctab_119]; rfl
theorem k119_63 : cod 119 63 = some (29, 23, 0, z0, 66) := by rw [cod, ctab_119]; rfl
theorem k119_66 : cod 119 66 = some (34, 45, 2, vr 25 0, 69) := by rw [cod, ctab_119]; rfl
theorem k119_69 : cod 119 69 = some (0, 0, 0, z0, 70) := by rw [cod, ctab_119]; rfl
theorem k119_70 : cod 119 70 = some (5, 4, 0, z0, 72) := by rw [cod, ctab_119]; rfl
theorem k119_72 : cod 119 72 = some (2, 4, 0, z0, 74) := by rw [cod, ctab_119]; rfl
theorem k119_74 : cod 119 74 = some (4, 0, 0, z0, 75) := by rw [cod, ctab_119]; rfl
theorem k119_75 : cod 119 75 = some (29, 1, 2, z0, 78) := by rw [cod, ctab_119]; rfl
theorem k119_78 : cod 119 78 = some (29, 9, 10, z0, 81) := by rw [cod, ctab_119]; rfl
theorem k119_81 : cod 119 81 = some (28, 3, 110, z0, 84) := by rw [cod, ctab_119]; rfl
theorem k119_84 : cod 119 84 = some (2, 1, 0, z0, 85) := by rw [cod, ctab_119]; rfl
theorem k119_85 : cod 119 85 = some (2, 4, 0, z0, 87) := by rw [cod, ctab_119]; rfl
theorem k119_87 : cod 119 87 = some (9, 7, 0, z0, 88) := by rw [cod, ctab_119]; rfl
theorem k119_88 : cod 119 88 = some (0, 0, 0, vi (1), 89) := by rw [cod, ctab_119]; rfl
theorem k119_89 : cod 119 89 = some (9, 3, 0, z0, 90) := by rw [cod, ctab_119]; rfl
theorem k119_90 : cod 119 90 = some (27, 0, 104, z0, 93) := by rw [cod, ctab_119]; rfl
theorem k119_93 : cod 119 93 = some (4, 0, 0, z0, 94) := by rw [cod, ctab_119]; rfl
theorem k119_94 : cod 119 94 = some (29, 1, 8, z0, 97) := by rw [cod, ctab_119]; rfl
theorem k119_97 : cod 119 97 = some (29, 25, 0, z0, 100) := by rw [cod, ctab_119]; rfl
theorem k119_100 : cod 119 100 = some (2, 4, 0, z0, 102) := by rw [cod, ctab_119]; rfl
theorem k119_102 : cod 119 102 = some (2, 3, 0, z0, 103) := by rw [cod, ctab_119]; rfl
theorem k119_103 : cod 119 103 = some (32, 1, 0, z0, 104) := by rw [cod, ctab_119]; rfl
theorem k119_104 : cod 119 104 = some (8, 4, 0, vi (1), 107) := by rw [cod, ctab_119]; rfl
theorem k119_107 : cod 119 107 = some (26, 72, 0, z0, 110) := by rw [cod, ctab_119]; rfl
theorem k119_110 : cod 119 110 = some (4, 0, 0, z0, 111) := by rw [cod, ctab_119]; rfl
theorem k119_111 : cod 119 111 = some (2, 2, 0, z0, 112) := by rw [cod, ctab_119]; rfl
theorem k119_112 : cod 119 112 = some (34, 121, 2, vr 1 0, 115) := by rw [cod, ctab_119]; rfl
theorem k119_115 : cod 119 115 = some (27, 0, 120, z0, 118) := by rw [cod, ctab_119]; rfl
theorem k119_118 : cod 119 118 = some (2, 3, 0, z0, 119) := by rw [cod, ctab_119]; rfl
theorem k119_119 : cod 119 119 = some (36, 1, 0, z0, 120) := by rw [cod, ctab_119]; rfl
theorem k119_120 : cod 119 120 = some (8, 3, 0, vi (1), 123) := by rw [cod, ctab_119]; rfl
theorem k119_123 : cod 119 123 = some (26, 35, 0, z0, 126) := by rw [cod, ctab_119]; rfl
theorem k119_126 : cod 119 126 = some (0, 0, 0, vi (-2), 128) := by rw [cod, ctab_119]; rfl
theorem k119_128 : cod 119 128 = some (36, 1, 0, z0, 129) := by rw [cod, ctab_119]; rfl
theorem ctab_120 : ctab.getD 120 [] = cd120 := rfl
theorem k120_0 : cod 120 0 = some (0, 0, 0, z0, 1) := by rw [cod, ctab_120]; rfl
theorem k120_1 : cod 120 1 = some (5, 3, 0, z0, 2) := by rw [cod, ctab_120]; rfl
theorem k120_2 : cod 120 2 = some (2, 3, 0, z0, 3) := by rw [cod, ctab_120]; rfl
theorem k120_3 : cod 120 3 = some (4, 0, 0, z0, 4) := by rw [cod, ctab_120]; rfl
theorem k120_4 : cod 120 4 = some (29, 1, 2, z0, 7) := by rw [cod, ctab_120]; rfl
theorem k120_7 : cod 120 7 = some (29, 9, 10, z0, 10) := by rw [cod, ctab_120]; rfl
theorem k120_10 : cod 120 10 = some (28, 3, 48, z0, 13) := by rw [cod, ctab_120]; rfl
theorem k120_13 : cod 120 13 = some (2, 1, 0, z0, 14) := by rw [cod, ctab_120]; rfl
theorem k120_14 : cod 120 14 = some (2, 3, 0, z0, 15) := by rw [cod, ctab_120]; rfl
theorem k120_15 : cod 120 15 = some (9, 7, 0, z0, 16) := by rw [cod, ctab_120]; rfl
theorem k120_16 : cod 120 16 = some (0, 0, 0, vi (1), 17) := by rw [cod, ctab_120]; rfl
theorem k120_17 : cod 120 17 = some (9, 3, 0, z0, 18) := by rw [cod, ctab_120]; rfl
theorem k120_18 : cod 120 18 = some (27, 0, 42, z0, 21) := by rw [cod, ctab_120]; rfl
theorem k120_21 : cod 120 21 = some (4, 0, 0, z0, 22) := by rw [cod, ctab_120]; rfl
theorem k120_22 : cod 120 22 = some (29, 1, 5, z0, 25) := by rw [cod, ctab_120]; rfl
theorem k120_25 : cod 120 25 = some (29, 23, 0, z0, 28) := by rw [cod, ctab_120]; rfl
theorem k120_28 : cod 120 28 = some (4, 0, 0, z0, 29) := by rw [cod, ctab_120]; rfl
theorem k120_29 : cod 120 29 = some (29, 1, 2, z0, 32) := by rw [cod, ctab_120]; rfl
theorem k120_32 : cod 120 32 = some (2, 3, 0, z0, 33) := by rw [cod, ctab_120]; rfl
theorem k120_33 : cod 120 33 = some (2, 2, 0, z0, 34) := by rw [cod, ctab_120]; rfl
theorem k120_34 : cod 120 34 = some (34, 54, 4, vr 25 0, 37) := by rw [cod, ctab_120]; rfl
theorem k120_37 : cod 120 37 = some (27, 1, 42, z0, 40) := by rw [cod, ctab_120]; rfl
theorem k120_40 : cod 120 40 = some (0, 0, 0, z0, 41) := by rw [cod, ctab_120]; rfl
theorem k120_41 : cod 120 41 = some (36, 2, 0, z0, 42) := by rw [cod, ctab_120]; rfl
theorem k120_42 : cod 120 42 = some (8, 3, 0, vi (1), 45) := by rw [cod, ctab_120]; rfl
theorem k120_45 : cod 120 45 = some (26, 2, 0, z0, 48) := by rw [cod, ctab_120]; rfl
theorem k120_48 : cod 120 48 = some (0, 0, 0, vi (1), 49) := by rw [cod, ctab_120]; rfl
theorem k120_49 : cod 120 49 = some (36, 2, 0, z0, 50) := by rw [cod, ctab_120]; rfl
theorem ctab_121 : ctab.getD 121 [] = cd121 := rfl
theorem k121_0 : cod 121 0 = some (0, 0, 0, z0, 1) := by rw [cod, ctab_121]; rfl
theorem k121_1 : cod 121 1 = some (5, 2, 0, z0, 2) := by rw [cod, ctab_121]; rfl
theorem k121_2 : cod 121 2 = some (2, 2, 0, z0, 3) := by rw [cod, ctab_121]; rfl
theorem k121_3 : cod 121 3 = some (2, 1, 0, z0, 4) := by rw [cod, ctab_121]; rfl
theorem k121_4 : cod 121 4 = some (28, 3, 25, z0, 7) := by rw [cod, ctab_121]; rfl
theorem k121_7 : cod 121 7 = some (4, 0, 0, z0, 8) := by rw [cod, ctab_121]; rfl
theorem k121_8 : cod 121 8 = some (29, 1, 8, z0, 11) := by rw [cod, ctab_121]; rfl
theorem k121_11 : cod 121 11 = some (4, 0, 0, z0, 12) := by rw [cod, ctab_121]; rfl
theorem k121_12 : cod 121 12 = some (29, 1, 2, z0, 15) := by rw [cod, ctab_121]; rfl
theorem k121_15 : cod 121 15 = some (34, 61, 2, vr 25 0, 18) := by rw [cod, ctab_121]; rfl
theorem k121_18 : cod 121 18 = some (25, 0, 0, z0, 19) := by rw [cod, ctab_121]; rfl
theorem k121_19 : cod 121 19 = some (8, 2, 0, vi (1), 22) := by rw [cod, ctab_121]; rfl
theorem k121_22 : cod 121 22 = some (26, 2, 0, z0, 25) := by rw [cod, ctab_121]; rfl
theorem k121_25 : cod 121 25 = some (4, 0, 0, z0, 26) := by rw [cod, ctab_121]; rfl
theorem k121_26 : cod 121 26 = some (29, 1, 8, z0, 29) := by rw [cod, ctab_121]; rfl
theorem k121_29 : cod 121 29 = some (4, 0, 0, z0, 30) := by rw [cod, ctab_121]; rfl
theorem k121_30 : cod 121 30 = some (29, 1, 2, z0, 33) := by rw [cod, ctab_121]; rfl
theorem k121_33 : cod 121 33 = some (34, 48, 2, vr 25 0, 36) := by rw [cod, ctab_121]; rfl
theorem k121_36 : cod 121 36 = some (27, 1, 43, z0, 39) := by rw [cod, ctab_121]; rfl
theorem k121_39 : cod 121 39 = some (0, 0, 0, vi (1), 40) := by rw [cod, ctab_121]; rfl
theorem k121_40 : cod 121 40 = some (26, 44, 0, z0, 43) := by rw [cod, ctab_121]; rfl
theorem k121_43 : cod 121 43 = some (0, 0, 0, z0, 44) := by rw [cod, ctab_121]; rfl
theorem k121_44 : cod 121 44 = some (36, 2, 0, z0, 45) := by rw [cod, ctab_121]; rfl
theorem ctab_122 : ctab.getD 122 [] = cd122 := rfl
theorem k122_0 : cod 122 0 = some (4, 0, 0, z0, 1) := by rw [cod, ctab_122]; rfl
theorem k122_1 : cod 122 1 = some (29, 1, 13, z0, 4) := by rw [cod, ctab_122]; rfl
theorem k122_4 : cod 122 4 = some (0, 0, 0, z0, 5) := by rw [cod, ctab_122]; rfl
theorem k122_5 : cod 122 5 = some (34, 250, 2, z0, 8) := by rw [cod, ctab_122]; rfl
theorem k122_8 : cod 122 8 = some (0, 0, 0, z0, 9) := by rw [cod, ctab_122]; rfl
theorem k122_9 : cod 122 9 = some (5, 1, 0, z0, 10) := by rw [cod, ctab_122]; rfl
theorem k122_10 : cod 122 10 = some (2, 1, 0, z0, 11) := by rw [cod, ctab_122]; rfl
theorem k122_11 : cod 122 11 = some (4, 0, 0, z0, 12) := by rw [cod, ctab_122]; rfl
theorem k122_12 : cod 122 12 = some (29, 1, 2, z0, 15) := by rw [cod, ctab_122]; rfl
theorem k122_15 : cod 122 15 = some (29, 9, 9, z0, 18) := by rw [cod, ctab_122]; rfl
theorem k122_18 : cod 122 18 = some (28, 3, 52, z0, 21) := by rw [cod, ctab_122]; rfl
theorem k122_21 : cod 122 21 = some (0, 0, 0, z0, 22) := by rw [cod, ctab_122]; rfl
theorem k122_22 : cod 122 22 = some (5, 2, 0, z0, 23) := by rw [cod, ctab_122]; rfl
theorem k122_23 : cod 122 23 = some (2, 2, 0, z0, 24) := by rw [cod, ctab_122]; rfl
theorem k122_24 : cod 122 24 = some (4, 0, 0, z0, 25) := by rw [cod, ctab_122]; rfl
theorem k122_25 : cod 122 25 = some (29, 1, 2, z0, 28) := by rw [cod, ctab_122]; rfl
theorem k122_28 : cod 122 28 = some (29, 9, 9, z0, 31) := by rw [cod, ctab_122]; rfl
theorem k122_31 : cod 122 31 = some (28, 3, 46, z0, 34) := by rw [cod, ctab_122]; rfl
theorem k122_34 : cod 122 34 = some (4, 0, 0, z0, 35) := by rw [cod, ctab_122]; rfl
theorem k122_35 : cod 122 35 = some (2, 1, 0, z0, 36) := by rw [cod, ctab_122]; rfl
theorem k122_36 : cod 122 36 = some (2, 2, 0, z0, 37) := by rw [cod, ctab_122]; rfl
theorem k122_37 : cod 122 37 = some (34, 123, 3, vr 1 0, 40) := by rw [cod, ctab_122]; rfl
theorem k122_40 : cod 122 40 = some (8, 2, 0, vi (1), 43) := by rw [cod, ctab_122]; rfl
theorem k122_43 : cod 122 43 = some (26, 23, 0, z0, 46) := by rw [cod, ctab_122]; rfl
theorem k122_46 : cod 122 46 = some (8, 1, 0, vi (1), 49) := by rw [cod, ctab_122]; rfl
theorem k122_49 : cod 122 49 = some (26, 10, 0, z0, 52) := by rw [cod, ctab_122]; rfl
theorem k122_52 : cod 122 52 = some (4, 0, 0, z0, 53) := by rw [cod, ctab_122]; rfl
theorem k122_53 : cod 122 53 = some (29, 1, 13, z0, 56) := by rw [cod, ctab_122]; rfl
theorem k122_56 : cod 122 56 = some (0, 0, 0, z0, 57) := by rw [cod, ctab_122]; rfl
theorem k122_57 : cod 122 57 = some (4, 0, 0, z0, 58) := by rw [cod, ctab_122]; rfl
theorem k122_58 : cod 122 58 = some (29, 1, 12, z0, 61) := by rw [cod, ctab_122]; rfl
theorem k122_61 : cod 122 61 = some (0, 0, 0, z0, 62) := by rw [cod, ctab_122]; rfl
theorem k122_62 : cod 122 62 = some (4, 0, 0, z0, 63) := by rw [cod, ctab_122]; rfl
theorem k122_63 : cod 122 63 = some (29, 1, 12, z0, 66) := by rw [cod, ctab_122]; rfl
theorem k122_66 : cod 122 66 = some (33, 0, 0, z0, 67) := by rw [cod, ctab_122]; rfl
theorem k122_67 : cod 122 67 = some (46, 0, 0, z0, 70) := by rw [cod, ctab_122]; rfl
theorem k122_70 : cod 122 70 = some (35, 0, 0, z0, 71) := by rw [cod, ctab_122]; rfl
theorem ctab_123 : ctab.getD 123 [] = cd123 := rfl
theorem k123_0 : cod 123 0 = some (4, 0, 0, z0, 1) := by rw [cod, ctab_123]; rfl
theorem k123_1 : cod 123 1 = some (29, 1, 12, z0, 4) := by rw [cod, ctab_123]; rfl
theorem k123_4 : cod 123 4 = some (2, 1, 0, z0, 5) := by rw [cod, ctab_123]; rfl
theorem k123_5 : cod 123 5 = some (0, 0, 0, vi (5), 6) := by rw [cod, ctab_123]; rfl
theorem k123_6 : cod 123 6 = some (9, 2, 0, z0, 7) := by rw [cod, ctab_123]; rfl
theorem k123_7 : cod 123 7 = some (2, 2, 0, z0, 8) := by rw [cod, ctab_123]; rfl
theorem k123_8 : cod 123 8 = some (9, 0, 0, z0, 9) := by rw [cod, ctab_123]; rfl
theorem k123_9 : cod 123 9 = some (31, 1, 0, z0, 10) := by rw [cod, ctab_123]; rfl
theorem k123_10 : cod 123 10 = some (5, 3, 0, z0, 11) := by rw [cod, ctab_123]; rfl
theorem k123_11 : cod 123 11 = some (2, 1, 0, z0, 12) := by rw [cod, ctab_123]; rfl
theorem k123_12 : cod 123 12 = some (2, 2, 0, z0, 13) := by rw [cod, ctab_123]; rfl
theorem k123_13 : cod 123 13 = some (28, 1, 31, z0, 16) := by rw [cod, ctab_123]; rfl
theorem k123_16 : cod 123 16 = some (4, 0, 0, z0, 17) := by rw [cod, ctab_123]; rfl
theorem k123_17 : cod 123 17 = some (29, 1, 13, z0, 20) := by rw [cod, ctab_123]; rfl
theorem k123_20 : cod 123 20 = some (2, 1, 0, z0, 21) := by rw [cod, ctab_123]; rfl
theorem k123_21 : cod 123 21 = some (0, 0, 0, vi (5), 22) := by rw [cod, ctab_123]; rfl
theorem k123_22 : cod 123 22 = some (9, 2, 0, z0, 23) := by rw [cod, ctab_123]; rfl
theorem k123_23 : cod 123 23 = some (2, 2, 0, z0, 24) := by rw [cod, ctab_123]; rfl
theorem k123_24 : cod 123 24 = some (9, 0, 0, z0, 25) := by rw [cod, ctab_123]; rfl
theorem k123_25 : cod 123 25 = some (24, 0, 0, z0, 26) := by rw [cod, ctab_123]; rfl
theorem k123_26 : cod 123 26 = some (31, 1, 0, z0, 27) := by rw [cod, ctab_123]; rfl
theorem k123_27 : cod 123 27 = some (2, 3, 0, z0, 28) := by rw [cod, ctab_123]; rfl
theorem k123_28 : cod 123 28 = some (9, 0, 0, z0, 29) := by rw [cod, ctab_123]; rfl
theorem k123_29 : cod 123 29 = some (32, 1, 0, z0, 30) := by rw [cod, ctab_123]; rfl
theorem k123_30 : cod 123 30 = some (35, 0, 0, z0, 31) := by rw [cod, ctab_123]; rfl
theorem k123_31 : cod 123 31 = some (4, 0, 0, z0, 32) := by rw [cod, ctab_123]; rfl
theorem k123_32 : cod 123 32 = some (29, 1, 2, z0, 35) := by rw [cod, ctab_123]; rfl
theorem k123_35 : cod 123 35 = some (29, 9, 1, z0, 38) := by rw [cod, ctab_123]; rfl
theorem k123_38 : cod 123 38 = some (2, 1, 0, z0, 39) := by rw [cod, ctab_123]; rfl
theorem k123_39 : cod 123 39 = some (31, 1, 0, z0, 40) := by rw [cod, ctab_123]; rfl
theorem k123_40 : cod 123 40 = some (0, 0, 0, vi (1), 41) := by rw [cod, ctab_123]; rfl
theorem k123_41 : cod 123 41 = some (2, 1, 0, z0, 42) := by rw [cod, ctab_123]; rfl
theorem k123_42 : cod 123 42 = some (9, 6, 0, z0, 43) := by rw [cod, ctab_123]; rfl
theorem k123_43 : cod 123 43 = some (9, 4, 0, z0, 44) := by rw [cod, ctab_123]; rfl
theorem k123_44 : cod 123 44 = some (5, 4, 0, z0, 46) := by rw [cod, ctab_123]; rfl
theorem k123_46 : cod 123 46 = some (4, 0, 0, z0, 47) := by rw [cod, ctab_123]; rfl
theorem k123_47 : cod 123 47 = some (29, 1, 2, z0, 50) := by rw [cod, ctab_123]; rfl
theorem k123_50 : cod 123 50 = some (29, 9, 1, z0, 53) := by rw [cod, ctab_123]; rfl
theorem k123_53 : cod 123 53 = some (2, 2, 0, z0, 54) := by rw [cod, ctab_123]; rfl
theorem k123_54 : cod 123 54 = some (31, 1, 0, z0, 55) := by rw [cod, ctab_123]; rfl
theorem k123_55 : cod 123 55 = some (0, 0, 0, vi (1), 56) := by rw [cod, ctab_123]; rfl
theorem k123_56 : cod 123 56 = some (2, 2, 0, z0, 57) := by rw [cod, ctab_123]; rfl
theorem k123_57 : cod 123 57 = some (9, 6, 0, z0, 58) := by rw [cod, ctab_123]; rfl
theorem k123_58 : cod 123 58 = some (9, 4, 0, z0, 59) := by rw [cod, ctab_123]; rfl
theorem k123_59 : cod 123 59 = some (5, 5, 0, z0, 61) := by rw [cod, ctab_123]; rfl
theorem k123_61 : cod 123 61 = some (2, 4, 0, z0, 63) := by rw [cod, ctab_123]; rfl
theorem k123_63 : cod 123 63 = some (34, 238, 1, z0, 66) := by rw [cod, ctab_123]; rfl
theorem k123_66 : cod 123 66 = some (2, 5, 0, z0, 68) := by rw [cod, ctab_123]; rfl
theorem k123_68 : cod 123 68 = some (34, 238, 1, z0, 71) := by rw [cod, ctab_123]; rfl
theorem k123_71 : cod 123 71 = some (9, 2, 0, z0, 72) := by rw [cod, ctab_123]; rfl
theorem k123_72 : cod 123 72 = some (5, 6, 0, z0, 74) := by rw [cod, ctab_123]; rfl
theorem k123_74 : cod 123 74 = some (2, 3, 0, z0, 75) := by rw [cod, ctab_123]; rfl
theorem k123_75 : cod 123 75 = some (27, 0, 83, z0, 78) := by rw [cod, ctab_123]; rfl
theorem k123_78 : cod 123 78 = some (2, 6, 0, z0, 80) := by rw [cod, ctab_123]; rfl
theorem k123_80 : cod 123 80 = some (27, 1, 84, z0, 83) := by rw [cod, ctab_123]; rfl
theorem k123_83 : cod 123 83 = some (35, 0, 0, z0, 84) := by rw [cod, ctab_123]; rfl
theorem k123_84 : cod 123 84 = some (0, 0, 0, z0, 85) := by rw [cod, ctab_123]; rfl
theorem k123_85 : cod 123 85 = some (5, 7, 0, z0, 87) := by rw [cod, ctab_123]; rfl
theorem k123_87 : cod 123 87 = some (2, 7, 0, z0, 89) := by rw [cod, ctab_123]; rfl
theorem k123_89 : cod 123 89 = some (4, 0, 0, z0, 90) := by rw [cod, ctab_123]; rfl
theorem k123_90 : cod 123 90 = some (29, 1, 2, z0, 93) := by rw [cod, ctab_123]; rfl
theorem k123_93 : cod 123 93 = some (29, 9, 9, z0, 96) := by rw [cod, ctab_123]; rfl
theorem k123_96 : cod 123 96 = some (28, 3, 165, z0, 99) := by rw [cod, ctab_123]; rfl
theorem k123_99 : cod 123 99 = some (0, 0, 0, z0, 100) := by rw [cod, ctab_123]; rfl
theorem k123_100 : cod 123 100 = some (5, 8, 0, z0, 102) := by rw [cod, ctab_123]; rfl
theorem k123_102 : cod 123 102 = some (2, 8, 0, z0, 104) := by rw [cod, ctab_123]; rfl
theorem k123_104 : cod 123 104 = some (4, 0, 0, z0, 105) := by rw [cod, ctab_123]; rfl
theorem k123_105 : cod 123 105 = some (29, 1, 2, z0, 108) := by rw [cod, ctab_123]; rfl
theorem k123_108 : cod 123 108 = some (29, 9, 9, z0, 111) := by rw [cod, ctab_123]; rfl
theorem k123_111 : cod 123 111 = some (28, 3, 159, z0, 114) := by rw [cod, ctab_123]; rfl
theorem k123_114 : cod 123 114 = some (2, 4, 0, z0, 116) := by rw [cod, ctab_123]; rfl
theorem k123_116 : cod 123 116 = some (2, 7, 0, z0, 118) := by rw [cod, ctab_123]; rfl
theorem k123_118 : cod 123 118 = some (9, 7, 0, z0, 119) := by rw [cod, ctab_123]; rfl
theorem k123_119 : cod 123 119 = some (0, 0, 0, vi (1), 120) := by rw [cod, ctab_123]; rfl
theorem k123_120 : cod 123 120 = some (9, 3, 0, z0, 121) := by rw [cod, ctab_123]; rfl
theorem k123_121 : cod 123 121 = some (27, 0, 153, z0, 124) := by rw [cod, ctab_123]; rfl
theorem k123_124 : cod 123 124 = some (2, 5, 0, z0, 126) := by rw [cod, ctab_123]; rfl
theorem k123_126 : cod 123 126 = some (2, 8, 0, z0, 128) := by rw [cod, ctab_123]; rfl
theorem k123_128 : cod 123 128 = some (9, 7, 0, z0, 129) := by rw [cod, ctab_123]; rfl
theorem k123_129 : cod 123 129 = some (0, 0, 0, vi (1), 130) := by rw [cod, ctab_123]; rfl
theorem k123_130 : cod 123 130 = some (9, 3, 0, z0, 131) := by rw [cod, ctab_123]; rfl
theorem k123_131 : cod 123 131 = some (27, 0, 153, z0, 134) := by rw [cod, ctab_123]; rfl
theorem k123_134 : cod 123 134 = some (4, 0, 0, z0, 135) := by rw [cod, ctab_123]; rfl
theorem k123_135 : cod 123 135 = some (29, 1, 13, z0, 138) := by rw [cod, ctab_123]; rfl
theorem k123_138 : cod 123 138 = some (2, 7, 0, z0, 140) := by rw [cod, ctab_123]; rfl
theorem k123_140 : cod 123 140 = some (0, 0, 0, vi (5), 141) := by rw [cod, ctab_123]; rfl
theorem k123_141 : cod 123 141 = some (9, 2, 0, z0, 142) := by rw [cod, ctab_123]; rfl
theorem k123_142 : cod 123 142 = some (2, 8, 0, z0, 144) := by rw [cod, ctab_123]; rfl
theorem k123_144 : cod 123 144 = some (9, 0, 0, z0, 145) := by rw [cod, ctab_123]; rfl
theorem k123_145 : cod 123 145 = some (24, 0, 0, z0, 146) := by rw [cod, ctab_123]; rfl
theorem k123_146 : cod 123 146 = some (31, 1, 0, z0, 147) := by rw [cod, ctab_123]; rfl
theorem k123_147 : cod 123 147 = some (2, 3, 0, z0, 148) := by rw [cod, ctab_123]; rfl
theorem k123_148 : cod 123 148 = some (2, 6, 0, z0, 150) := by rw [cod, ctab_123]; rfl
theorem k123_150 : cod 123 150 = some (10, 0, 0, z0, 151) := by rw [cod, ctab_123]; rfl
theorem k123_151 : cod 123 151 = some (9, 0, 0, z0, 152) := by rw [cod, ctab_123]; rfl
theorem k123_152 : cod 123 152 = some (32, 1, 0, z0, 153) := by rw [cod, ctab_123]; rfl
theorem k123_153 : cod 123 153 = some (8, 8, 0, vi (1), 156) := by rw [cod, ctab_123]; rfl
theorem k123_156 : cod 123 156 = some (26, 102, 0, z0, 159) := by rw [cod, ctab_123]; rfl
theorem k123_159 : cod 123 159 = some (8, 7, 0, vi (1), 162) := by rw [cod, ctab_123]; rfl
theorem k123_162 : cod 123 162 = some (26, 87, 0, z0, 165) := by rw [cod, ctab_123]; rfl
theorem k123_165 : cod 123 165 = some (35, 0, 0, z0, 166) := by rw [cod, ctab_123]; rfl
theorem ctab_124 : ctab.getD 124 [] = cd124 := rfl
theorem k124_0 : cod 124 0 = some (2, 0, 0, z0, 1) := by rw [cod, ctab_124]; rfl
theorem k124_1 : cod 124 1 = some (0, 0, 0, vi (1), 2) := by rw [cod, ctab_124]; rfl
theorem k124_2 : cod 124 2 = some (9, 7, 0, z0, 3) := by rw [cod, ctab_124]; rfl
theorem k124_3 : cod 124 3 = some (5, 4, 0, z0, 5) := by rw [cod, ctab_124]; rfl
theorem k124_5 : cod 124 5 = some (2, 0, 0, z0, 6) := by rw [cod, ctab_124]; rfl
theorem k124_6 : cod 124 6 = some (0, 0, 0, vi (1), 7) := by rw [cod, ctab_124]; rfl
theorem k124_7 : cod 124 7 = some (9, 3, 0, z0, 8) := by rw [cod, ctab_124]; rfl
theorem k124_8 : cod 124 8 = some (5, 5, 0, z0, 10) := by rw [cod, ctab_124]; rfl
theorem k124_10 : cod 124 10 = some (2, 4, 0, z0, 12) := by rw [cod, ctab_124]; rfl
theorem k124_12 : cod 124 12 = some (2, 5, 0, z0, 14) := by rw [cod, ctab_124]; rfl
theorem k124_14 : cod 124 14 = some (2, 1, 0, z0, 15) := by rw [cod, ctab_124]; rfl
theorem k124_15 : cod 124 15 = some (2, 2, 0, z0, 16) := by rw [cod, ctab_124]; rfl
theorem k124_16 : cod 124 16 = some (2, 3, 0, z0, 17) := by rw [cod, ctab_124]; rfl
theorem k124_17 : cod 124 17 = some (34, 125, 5, z0, 20) := by rw [cod, ctab_124]; rfl
theorem k124_20 : cod 124 20 = some (0, 0, 0, vi (1), 21) := by rw [cod, ctab_124]; rfl
theorem k124_21 : cod 124 21 = some (2, 4, 0, z0, 23) := by rw [cod, ctab_124]; rfl
theorem k124_23 : cod 124 23 = some (9, 1, 0, z0, 24) := by rw [cod, ctab_124]; rfl
theorem k124_24 : cod 124 24 = some (2, 5, 0, z0, 26) := by rw [cod, ctab_124]; rfl
theorem k124_26 : cod 124 26 = some (2, 1, 0, z0, 27) := by rw [cod, ctab_124]; rfl
theorem k124_27 : cod 124 27 = some (2, 2, 0, z0, 28) := by rw [cod, ctab_124]; rfl
theorem k124_28 : cod 124 28 = some (2, 3, 0, z0, 29) := by rw [cod, ctab_124]; rfl
theorem k124_29 : cod 124 29 = some (34, 125, 5, z0, 32) := by rw [cod, ctab_124]; rfl
theorem k124_32 : cod 124 32 = some (28, 2, 64, z0, 35) := by rw [cod, ctab_124]; rfl
theorem k124_35 : cod 124 35 = some (2, 5, 0, z0, 37) := by rw [cod, ctab_124]; rfl
theorem k124_37 : cod 124 37 = some (2, 4, 0, z0, 39) := by rw [cod, ctab_124]; rfl
theorem k124_39 : cod 124 39 = some (2, 1, 0, z0, 40) := by rw [cod, ctab_124]; rfl
theorem k124_40 : cod 124 40 = some (2, 2, 0, z0, 41) := by rw [cod, ctab_124]; rfl
theorem k124_41 : cod 124 41 = some (2, 3, 0, z0, 42) := by rw [cod, ctab_124]; rfl
theorem k124_42 : cod 124 42 = some (34, 125, 5, z0, 45) := by rw [cod, ctab_124]; rfl
theorem k124_45 : cod 124 45 = some (0, 0, 0, vi (1), 46) := by rw [cod, ctab_124]; rfl
theorem k124_46 : cod 124 46 = some (2, 5, 0, z0, 48) := by rw [cod, ctab_124]; rfl
theorem k124_48 : cod 124 48 = some (9, 1, 0, z0, 49) := by rw [cod, ctab_124]; rfl
theorem k124_49 : cod 124 49 = some (2, 4, 0, z0, 51) := by rw [cod, ctab_124]; rfl
theorem k124_51 : cod 124 51 = some (2, 1, 0, z0, 52) := by rw [cod, ctab_124]; rfl
theorem k124_52 : cod 124 52 = some (2, 2, 0, z0, 53) := by rw [cod, ctab_124]; rfl
theorem k124_53 : cod 124 53 = some (2, 3, 0, z0, 54) := by rw [cod, ctab_124]; rfl
theorem k124_54 : cod 124 54 = some (34, 125, 5, z0, 57) := by rw [cod, ctab_124]; rfl
theorem k124_57 : cod 124 57 = some (28, 2, 64, z0, 60) := by rw [cod, ctab_124]; rfl
theorem k124_60 : cod 124 60 = some (0, 0, 0, vi (1), 61) := by rw [cod, ctab_124]; rfl
theorem k124_61 : cod 124 61 = some (26, 65, 0, z0, 64) := by rw [cod, ctab_124]; rfl
theorem k124_64 : cod 124 64 = some (0, 0, 0, z0, 65) := by rw [cod, ctab_124]; rfl
theorem k124_65 : cod 124 65 = some (36, 2, 0, z0, 66) := by rw [cod, ctab_124]; rfl
theorem ctab_125 : ctab.getD 125 [] = cd125 := rfl
theorem k125_0 : cod 125 0 = some (2, 0, 0, z0, 1) := by rw [cod, ctab_125]; rfl
theorem k125_1 : cod 125 1 = some (0, 0, 0, vi (1), 2) := by rw [cod, ctab_125]; rfl
theorem k125_2 : cod 125 2 = some (28, 1, 17, z0, 5) := by rw [cod, ctab_125]; rfl
theorem k125_5 : cod 125 5 = some (2, 1, 0, z0, 6) := by rw [cod, ctab_125]; rfl
theorem k125_6 : cod 125 6 = some (0, 0, 0, vi (1), 7) := by rw [cod, ctab_125]; rfl
theorem k125_7 : cod 125 7 = some (28, 1, 14, z0, 10) := by rw [cod, ctab_125]; rfl
theorem k125_10 : cod 125 10 = some (2, 2, 0, z0, 11) := by rw [cod, ctab_125]; rfl
theorem k125_11 : cod 125 11 = some (26, 16, 0, z0, 14) := by rw [cod, ctab_125]; rfl
theorem k125_14 : cod 125 14 = some (2, 3, 0, z0, 15) := by rw [cod, ctab_125]; rfl
theorem k125_15 : cod 125 15 = some (12, 0, 0, z0, 16) := by rw [cod, ctab_125]; rfl
theorem k125_16 : cod 125 16 = some (36, 1, 0, z0, 17) := by rw [cod, ctab_125]; rfl
theorem k125_17 : cod 125 17 = some (2, 1, 0, z0, 18) := by rw [cod, ctab_125]; rfl
theorem k125_18 : cod 125 18 = some (0, 0, 0, vi (1), 19) := by rw [cod, ctab_125]; rfl
theorem k125_19 : cod 125 19 = some (28, 1, 27, z0, 22) := by rw [cod, ctab_125]; rfl
theorem k125_22 : cod 125 22 = some (2, 4, 0, z0, 24) := by rw [cod, ctab_125]; rfl
theorem k125_24 : cod 125 24 = some (26, 28, 0, z0, 27) := by rw [cod, ctab_125]; rfl
theorem k125_27 : cod 125 27 = some (0, 0, 0, z0, 28) := by rw [cod, ctab_125]; rfl
theorem k125_28 : cod 125 28 = some (36, 1, 0, z0, 29) := by rw [cod, ctab_125]; rfl
theorem ctab_126 : ctab.getD 126 [] = cd126 := rfl
theorem k126_0 : cod 126 0 = some (4, 0, 0, z0, 1) := by rw [cod, ctab_126]; rfl
theorem k126_1 : cod 126 1 = some (4, 0, 0, z0, 2) := by rw [cod, ctab_126]; rfl
theorem k126_2 : cod 126 2 = some (29, 1, 14, z0, 5) := by rw [cod, ctab_126]; rfl
theorem k126_5 : cod 126 5 = some (0, 0, 0, vl (1103515245), 8) := by rw [cod, ctab_126]; rfl
theorem k126_8 : cod 126 8 = some (13, 2, 0, z0, 9) := by rw [cod, ctab_126]; rfl
theorem k126_9 : cod 126 9 = some (0, 0, 0, vl (12345), 12) := by rw [cod, ctab_126]; rfl
theorem k126_12 : cod 126 12 = some (13, 0, 0, z0, 13) := by rw [cod, ctab_126]; rfl
theorem k126_13 : cod 126 13 = some (0, 0, 0, vl (2147483647), 16) := by rw [cod, ctab_126]; rfl
theorem k126_16 : cod 126 16 = some (13, 3, 0, z0, 17) := by rw [cod, ctab_126]; rfl
theorem k126_17 : cod 126 17 = some (30, 1, 14, z0, 20) := by rw [cod, ctab_126]; rfl
theorem k126_20 : cod 126 20 = some (2, 1, 0, z0, 21) := by rw [cod, ctab_126]; rfl
theorem k126_21 : cod 126 21 = some (27, 5, 39, z0, 24) := by rw [cod, ctab_126]; rfl
theorem k126_24 : cod 126 24 = some (4, 0, 0, z0, 25) := by rw [cod, ctab_126]; rfl
theorem k126_25 : cod 126 25 = some (29, 1, 14, z0, 28) := by rw [cod, ctab_126]; rfl
theorem k126_28 : cod 126 28 = some (0, 0, 0, vl (65536), 31) := by rw [cod, ctab_126]; rfl
theorem k126_31 : cod 126 31 = some (16, 0, 0, z0, 32) := by rw [cod, ctab_126]; rfl
theorem k126_32 : cod 126 32 = some (2, 1, 0, z0, 33) := by rw [cod, ctab_126]; rfl
theorem k126_33 : cod 126 33 = some (19, 0, 0, z0, 34) := by rw [cod, ctab_126]; rfl
theorem k126_34 : cod 126 34 = some (17, 0, 0, z0, 35) := by rw [cod, ctab_126]; rfl
theorem k126_35 : cod 126 35 = some (20, 0, 0, z0, 36) := by rw [cod, ctab_126]; rfl
theorem k126_36 : cod 126 36 = some (26, 40, 0, z0, 39) := by rw [cod, ctab_126]; rfl
theorem k126_39 : cod 126 39 = some (0, 0, 0, z0, 40) := by rw [cod, ctab_126]; rfl
theorem k126_40 : cod 126 40 = some (36, 1, 0, z0, 41) := by rw [cod, ctab_126]; rfl
theorem ctab_127 : ctab.getD 127 [] = cd127 := rfl
theorem k127_0 : cod 127 0 = some (4, 0, 0, z0, 1) := by rw [cod, ctab_127]; rfl
theorem k127_1 : cod 127 1 = some (29, 1, 2, z0, 4) := by rw [cod, ctab_127]; rfl
theorem k127_4 : cod 127 4 = some (29, 9, 10, z0, 7) := by rw [cod, ctab_127]; rfl
theorem k127_7 : cod 127 7 = some (27, 5, 48, z0, 10) := by rw [cod, ctab_127]; rfl
theorem k127_10 : cod 127 10 = some (4, 0, 0, z0, 11) := by rw [cod, ctab_127]; rfl
theorem k127_11 : cod 127 11 = some (4, 0, 0, z0, 12) := by rw [cod, ctab_127]; rfl
theorem k127_12 : cod 127 12 = some (29, 1, 2, z0, 15) := by rw [cod, ctab_127]; rfl
theorem k127_15 : cod 127 15 = some (29, 9, 10, z0, 18) := by rw [cod, ctab_127]; rfl
theorem k127_18 : cod 127 18 = some (34, 126, 2, vr 1 0, 21) := by rw [cod, ctab_127]; rfl
theorem k127_21 : cod 127 21 = some (5, 1, 0, z0, 22) := by rw [cod, ctab_127]; rfl
theorem k127_22 : cod 127 22 = some (4, 0, 0, z0, 23) := by rw [cod, ctab_127]; rfl
theorem k127_23 : cod 127 23 = some (4, 0, 0, z0, 24) := by rw [cod, ctab_127]; rfl
theorem k127_24 : cod 127 24 = some (29, 1, 2, z0, 27) := by rw [cod, ctab_127]; rfl
theorem k127_27 : cod 127 27 = some (29, 9, 9, z0, 30) := by rw [cod, ctab_127]; rfl
theorem k127_30 : cod 127 30 = some (34, 126, 2, vr 1 0, 33) := by rw [cod, ctab_127]; rfl
theorem k127_33 : cod 127 33 = some (5, 2, 0, z0, 34) := by rw [cod, ctab_127]; rfl
theorem k127_34 : cod 127 34 = some (4, 0, 0, z0, 35) := by rw [cod, ctab_127]; rfl
theorem k127_35 : cod 127 35 = some (29, 1, 8, z0, 38) := by rw [cod, ctab_127]; rfl
theorem k127_38 : cod 127 38 = some (4, 0, 0, z0, 39) := by rw [cod, ctab_127]; rfl
theorem k127_39 : cod 127 39 = some (29, 1, 2, z0, 42) := by rw [cod, ctab_127]; rfl
theorem k127_42 : cod 127 42 = some (2, 1, 0, z0, 43) := by rw [cod, ctab_127]; rfl
theorem k127_43 : cod 127 43 = some (2, 2, 0, z0, 44) := by rw [cod, ctab_127]; rfl
theorem k127_44 : cod 127 44 = some (34, 55, 4, vr 25 0, 47) := by rw [cod, ctab_127]; rfl
theorem k127_47 : cod 127 47 = some (25, 0, 0, z0, 48) := by rw [cod, ctab_127]; rfl
theorem k127_48 : cod 127 48 = some (4, 0, 0, z0, 49) := by rw [cod, ctab_127]; rfl
theorem k127_49 : cod 127 49 = some (29, 1, 8, z0, 52) := by rw [cod, ctab_127]; rfl
theorem k127_52 : cod 127 52 = some (4, 0, 0, z0, 53) := by rw [cod, ctab_127]; rfl
theorem k127_53 : cod 127 53 = some (29, 1, 2, z0, 56) := by rw [cod, ctab_127]; rfl
theorem k127_56 : cod 127 56 = some (34, 61, 2, vr 25 0, 59) := by rw [cod, ctab_127]; rfl
theorem k127_59 : cod 127 59 = some (25, 0, 0, z0, 60) := by rw [cod, ctab_127]; rfl
theorem k127_60 : cod 127 60 = some (4, 0, 0, z0, 61) := by rw [cod, ctab_127]; rfl
theorem k127_61 : cod 127 61 = some (0, 0, 0, vi (9), 63) := by rw [cod, ctab_127]; rfl
theorem k127_63 : cod 127 63 = some (34, 126, 2, vr 1 0, 66) := by rw [cod, ctab_127]; rfl
theorem k127_66 : cod 127 66 = some (27, 1, 107, z0, 69) := by rw [cod, ctab_127]; rfl
theorem k127_69 : cod 127 69 = some (0, 0, 0, z0, 70) := by rw [cod, ctab_127]; rfl
theorem k127_70 : cod 127 70 = some (5, 1, 0, z0, 71) := by rw [cod, ctab_127]; rfl
theorem k127_71 : cod 127 71 = some (2, 1, 0, z0, 72) := by rw [cod, ctab_127]; rfl
theorem k127_72 : cod 127 72 = some (4, 0, 0, z0, 73) := by rw [cod, ctab_127]; rfl
theorem k127_73 : cod 127 73 = some (29, 1, 2, z0, 76) := by rw [cod, ctab_127]; rfl
theorem k127_76 : cod 127 76 = some (29, 9, 10, z0, 79) := by rw [cod, ctab_127]; rfl
theorem k127_79 : cod 127 79 = some (28, 3, 107, z0, 82) := by rw [cod, ctab_127]; rfl
theorem k127_82 : cod 127 82 = some (4, 0, 0, z0, 83) := by rw [cod, ctab_127]; rfl
theorem k127_83 : cod 127 83 = some (29, 1, 8, z0, 86) := by rw [cod, ctab_127]; rfl
theorem k127_86 : cod 127 86 = some (2, 1, 0, z0, 87) := by rw [cod, ctab_127]; rfl
theorem k127_87 : cod 127 87 = some (34, 46, 2, vr 25 0, 90) := by rw [cod, ctab_127]; rfl
theorem k127_90 : cod 127 90 = some (27, 0, 101, z0, 93) := by rw [cod, ctab_127]; rfl
theorem k127_93 : cod 127 93 = some (4, 0, 0, z0, 94) := by rw [cod, ctab_127]; rfl
theorem k127_94 : cod 127 94 = some (29, 1, 8, z0, 97) := by rw [cod, ctab_127]; rfl
theorem k127_97 : cod 127 97 = some (2, 1, 0, z0, 98) := by rw [cod, ctab_127]; rfl
theorem k127_98 : cod 127 98 = some (34, 60, 2, vr 25 0, 101) := by rw [cod, ctab_127]; rfl
theorem k127_101 : cod 127 101 = some (8, 1, 0, vi (1), 104) := by rw [cod, ctab_127]; rfl
theorem k127_104 : cod 127 104 = some (26, 71, 0, z0, 107) := by rw [cod, ctab_127]; rfl
theorem k127_107 : cod 127 107 = some (35, 0, 0, z0, 108) := by rw [cod, ctab_127]; rfl
theorem ctab_128 : ctab.getD 128 [] = cd128 := rfl
theorem k128_0 : cod 128 0 = some (4, 0, 0, z0, 1) := by rw [cod, ctab_128]; rfl
theorem k128_1 : cod 128 1 = some (44, 0, 0, z0, 4) := by rw [cod, ctab_128]; rfl
theorem k128_4 : cod 128 4 = some (4, 0, 0, z0, 5) := by rw [cod, ctab_128]; rfl
theorem k128_5 : cod 128 5 = some (0, 0, 0, vi (1000), 8) := by rw [cod, ctab_128]; rfl
theorem k128_8 : cod 128 8 = some (40, 41, 0, z0, 10) := by rw [cod, ctab_128]; rfl
theorem k128_10 : cod 128 10 = some (30, 40, 2, z0, 13) := by rw [cod, ctab_128]; rfl
theorem k128_13 : cod 128 13 = some (4, 0, 0, z0, 14) := by rw [cod, ctab_128]; rfl
theorem k128_14 : cod 128 14 = some (0, 0, 0, vi (8), 16) := by rw [cod, ctab_128]; rfl
theorem k128_16 : cod 128 16 = some (40, 42, 0, z0, 18) := by rw [cod, ctab_128]; rfl
theorem k128_18 : cod 128 18 = some (30, 40, 10, z0, 21) := by rw [cod, ctab_128]; rfl
theorem k128_21 : cod 128 21 = some (4, 0, 0, z0, 22) := by rw [cod, ctab_128]; rfl
theorem k128_22 : cod 128 22 = some (0, 0, 0, vi (10), 24) := by rw [cod, ctab_128]; rfl
theorem k128_24 : cod 128 24 = some (40, 43, 0, z0, 26) := by rw [cod, ctab_128]; rfl
theorem k128_26 : cod 128 26 = some (30, 40, 11, z0, 29) := by rw [cod, ctab_128]; rfl
theorem k128_29 : cod 128 29 = some (4, 0, 0, z0, 30) := by rw [cod, ctab_128]; rfl
theorem k128_30 : cod 128 30 = some (0, 0, 0, vi (12), 32) := by rw [cod, ctab_128]; rfl
theorem k128_32 : cod 128 32 = some (40, 44, 0, z0, 34) := by rw [cod, ctab_128]; rfl
theorem k128_34 : cod 128 34 = some (30, 40, 12, z0, 37) := by rw [cod, ctab_128]; rfl
theorem k128_37 : cod 128 37 = some (4, 0, 0, z0, 38) := by rw [cod, ctab_128]; rfl
theorem k128_38 : cod 128 38 = some (0, 0, 0, vi (10), 40) := by rw [cod, ctab_128]; rfl
theorem k128_40 : cod 128 40 = some (40, 45, 0, z0, 42) := by rw [cod, ctab_128]; rfl
theorem k128_42 : cod 128 42 = some (30, 40, 13, z0, 45) := by rw [cod, ctab_128]; rfl
theorem k128_45 : cod 128 45 = some (4, 0, 0, z0, 46) := by rw [cod, ctab_128]; rfl
theorem k128_46 : cod 128 46 = some (0, 0, 0, vi (12), 48) := by rw [cod, ctab_128]; rfl
theorem k128_48 : cod 128 48 = some (40, 46, 0, z0, 50) := by rw [cod, ctab_128]; rfl
theorem k128_50 : cod 128 50 = some (30, 40, 14, z0, 53) := by rw [cod, ctab_128]; rfl
theorem k128_53 : cod 128 53 = some (4, 0, 0, z0, 54) := by rw [cod, ctab_128]; rfl
theorem k128_54 : cod 128 54 = some (0, 0, 0, vi (12), 56) := by rw [cod, ctab_128]; rfl
theorem k128_56 : cod 128 56 = some (40, 47, 0, z0, 58) := by rw [cod, ctab_128]; rfl
theorem k128_58 : cod 128 58 = some (30, 40, 15, z0, 61) := by rw [cod, ctab_128]; rfl
theorem k128_61 : cod 128 61 = some (4, 0, 0, z0, 62) := by rw [cod, ctab_128]; rfl
theorem k128_62 : cod 128 62 = some (0, 0, 0, vi (12), 64) := by rw [cod, ctab_128]; rfl
theorem k128_64 : cod 128 64 = some (40, 48, 0, z0, 66) := by rw [cod, ctab_128]; rfl
theorem k128_66 : cod 128 66 = some (30, 40, 16, z0, 69) := by rw [cod, ctab_128]; rfl
theorem k128_69 : cod 128 69 = some (4, 0, 0, z0, 70) := by rw [cod, ctab_128]; rfl
theorem k128_70 : cod 128 70 = some (0, 0, 0, vi (12), 72) := by rw [cod, ctab_128]; rfl
theorem k128_72 : cod 128 72 = some (40, 49, 0, z0, 74) := by rw [cod, ctab_128]; rfl
theorem k128_74 : cod 128 74 = some (30, 40, 17, z0, 77) := by rw [cod, ctab_128]; rfl
theorem k128_77 : cod 128 77 = some (4, 0, 0, z0, 78) := by rw [cod, ctab_128]; rfl
theorem k128_78 : cod 128 78 = some (0, 0, 0, vi (2), 79) := by rw [cod, ctab_128]; rfl
theorem k128_79 : cod 128 79 = some (40, 50, 0, z0, 81) := by rw [cod, ctab_128]; rfl
theorem k128_81 : cod 128 81 = some (30, 40, 18, z0, 84) := by rw [cod, ctab_128]; rfl
theorem k128_84 : cod 128 84 = some (4, 0, 0, z0, 85) := by rw [cod, ctab_128]; rfl
theorem k128_85 : cod 128 85 = some (0, 0, 0, vi (2), 86) := by rw [cod, ctab_128]; rfl
theorem k128_86 : cod 128 86 = some (40, 51, 0, z0, 88) := by rw [cod, ctab_128]; rfl
theorem k128_88 : cod 128 88 = some (30, 40, 19, z0, 91) := by rw [cod, ctab_128]; rfl
theorem k128_91 : cod 128 91 = some (4, 0, 0, z0, 92) := by rw [cod, ctab_128]; rfl
theorem k128_92 : cod 128 92 = some (0, 0, 0, vi (2000), 95) := by rw [cod, ctab_128]; rfl
theorem k128_95 : cod 128 95 = some (40, 52, 0, z0, 97) := by rw [cod, ctab_128]; rfl
theorem k128_97 : cod 128 97 = some (30, 40, 20, z0, 100) := by rw [cod, ctab_128]; rfl
theorem k128_100 : cod 128 100 = some (4, 0, 0, z0, 101) := by rw [cod, ctab_128]; rfl
theorem k128_101 : cod 128 101 = some (0, 0, 0, vi (7), 103) := by rw [cod, ctab_128]; rfl
theorem k128_103 : cod 128 103 = some (40, 53, 0, z0, 105) := by rw [cod, ctab_128]; rfl
theorem k128_105 : cod 128 105 = some (30, 40, 23, z0, 108) := by rw [cod, ctab_128]; rfl
theorem k128_108 : cod 128 108 = some (4, 0, 0, z0, 109) := by rw [cod, ctab_128]; rfl
theorem k128_109 : cod 128 109 = some (0, 0, 0, vi (7), 111) := by rw [cod, ctab_128]; rfl
theorem k128_111 : cod 128 111 = some (40, 54, 0, z0, 113) := by rw [cod, ctab_128]; rfl
theorem k128_113 : cod 128 113 = some (30, 40, 24, z0, 116) := by rw [cod, ctab_128]; rfl
theorem k128_116 : cod 128 116 = some (4, 0, 0, z0, 117) := by rw [cod, ctab_128]; rfl
theorem k128_117 : cod 128 117 = some (0, 0, 0, vi (7), 119) := by rw [cod, ctab_128]; rfl
theorem k128_119 : cod 128 119 = some (40, 55, 0, z0, 121) := by rw [cod, ctab_128]; rfl
theorem k128_121 : cod 128 121 = some (30, 40, 25, z0, 124) := by rw [cod, ctab_128]; rfl
theorem k128_124 : cod 128 124 = some (4, 0, 0, z0, 125) := by rw [cod, ctab_128]; rfl
theorem k128_125 : cod 128 125 = some (0, 0, 0, vi (7), 127) := by rw [cod, ctab_128]; rfl
theorem k128_127 : cod 128 127 = some (40, 56, 0, z0, 129) := by rw [cod, ctab_128]; rfl
theorem k128_129 : cod 128 129 = some (30, 40, 26, z0, 132) := by rw [cod, ctab_128]; rfl
theorem k128_132 : cod 128 132 = some (4, 0, 0, z0, 133) := by rw [cod, ctab_128]; rfl
theorem k128_133 : cod 128 133 = some (0, 0, 0, vi (7), 135) := by rw [cod, ctab_128]; rfl
theorem k128_135 : cod 128 135 = some (40, 57, 0, z0, 137) := by rw [cod, ctab_128]; rfl
theorem k128_137 : cod 128 137 = some (30, 40, 27, z0, 140) := by rw [cod, ctab_128]; rfl
theorem k128_140 : cod 128 140 = some (4, 0, 0, z0, 141) := by rw [cod, ctab_128]; rfl
theorem k128_141 : cod 128 141 = some (0, 0, 0, vi (7), 143) := by rw [cod, ctab_128]; rfl
theorem k128_143 : cod 128 143 = some (40, 58, 0, z0, 145) := by rw [cod, ctab_128]; rfl
theorem k128_145 : cod 128 145 = some (30, 40, 28, z0, 148) := by rw [cod, ctab_128]; rfl
theorem k128_148 : cod 128 148 = some (4, 0, 0, z0, 149) := by rw [cod, ctab_128]; rfl
theorem k128_149 : cod 128 149 = some (0, 0, 0, vi (7), 151) := by rw [cod, ctab_128]; rfl
theorem k128_151 : cod 128 151 = some (40, 59, 0, z0, 153) := by rw [cod, ctab_128]; rfl
theorem k128_153 : cod 128 153 = some (30, 40, 29, z0, 156) := by rw [cod, ctab_128]; rfl
theorem k128_156 : cod 128 156 = some (4, 0, 0, z0, 157) := by rw [cod, ctab_128]; rfl
theorem k128_157 : cod 128 157 = some (0, 0, 0, vi (7), 159) := by rw [cod, ctab_128]; rfl
theorem k128_159 : cod 128 159 = some (40, 60, 0, z0, 161) := by rw [cod, ctab_128]; rfl
theorem k128_161 : cod 128 161 = some (30, 40, 30, z0, 164) := by rw [cod, ctab_128]; rfl
theorem k128_164 : cod 128 164 = some (4, 0, 0, z0, 165) := by rw [cod, ctab_128]; rfl
theorem k128_165 : cod 128 165 = some (0, 0, 0, vi (7), 167) := by rw [cod, ctab_128]; rfl
theorem k128_167 : cod 128 167 = some (40, 61, 0, z0, 169) := by rw [cod, ctab_128]; rfl
theorem k128_169 : cod 128 169 = some (30, 40, 31, z0, 172) := by rw [cod, ctab_128]; rfl
theorem k128_172 : cod 128 172 = some (4, 0, 0, z0, 173) := by rw [cod, ctab_128]; rfl
theorem k128_173 : cod 128 173 = some (0, 0, 0, vi (7), 175) := by rw [cod, ctab_128]; rfl
theorem k128_175 : cod 128 175 = some (40, 62, 0, z0, 177) := by rw [cod, ctab_128]; rfl
theorem k128_177 : cod 128 177 = some (30, 40, 32, z0, 180) := by rw [cod, ctab_128]; rfl
theorem k128_180 : cod 128 180 = some (4, 0, 0, z0, 181) := by rw [cod, ctab_128]; rfl
theorem k128_181 : cod 128 181 = some (0, 0, 0, vi (7), 183) := by rw [cod, ctab_128]; rfl
theorem k128_183 : cod 128 183 = some (40, 63, 0, z0, 185) := by rw [cod, ctab_128]; rfl
theorem k128_185 : cod 128 185 = some (30, 40, 33, z0, 188) := by rw [cod, ctab_128]; rfl
theorem k128_188 : cod 128 188 = some (4, 0, 0, z0, 189) := by rw [cod, ctab_128]; rfl
theorem k128_189 : cod 128 189 = some (0, 0, 0, vi (20), 191) := by rw [cod, ctab_128]; rfl
theorem k128_191 : cod 128 191 = some (40, 64, 0, z0, 193) := by rw [cod, ctab_128]; rfl
theorem k128_193 : cod 128 193 = some (30, 40, 34, z0, 196) := by rw [cod, ctab_128]; rfl
theorem k128_196 : cod 128 196 = some (4, 0, 0, z0, 197) := by rw [cod, ctab_128]; rfl
theorem k128_197 : cod 128 197 = some (0, 0, 0, vi (6), 199) := by rw [cod, ctab_128]; rfl
theorem k128_199 : cod 128 199 = some (40, 65, 0, z0, 201) := by rw [cod, ctab_128]; rfl
theorem k128_201 : cod 128 201 = some (30, 40, 38, z0, 204) := by rw [cod, ctab_128]; rfl
theorem k128_204 : cod 128 204 = some (4, 0, 0, z0, 205) := by rw [cod, ctab_128]; rfl
theorem k128_205 : cod 128 205 = some (0, 0, 0, vi (240), 208) := by rw [cod, ctab_128]; rfl
theorem k128_208 : cod 128 208 = some (40, 66, 0, z0, 210) := by rw [cod, ctab_128]; rfl
theorem k128_210 : cod 128 210 = some (30, 40, 39, z0, 213) := by rw [cod, ctab_128]; rfl
theorem k128_213 : cod 128 213 = some (4, 0, 0, z0, 214) := by rw [cod, ctab_128]; rfl
theorem k128_214 : cod 128 214 = some (0, 0, 0, vi (240), 217) := by rw [cod, ctab_128]; rfl
theorem k128_217 : cod 128 217 = some (40, 67, 0, z0, 219) := by rw [cod, ctab_128]; rfl
theorem k128_219 : cod 128 219 = some (30, 40, 40, z0, 222) := by rw [cod, ctab_128]; rfl
theorem k128_222 : cod 128 222 = some (4, 0, 0, z0, 223) := by rw [cod, ctab_128]; rfl
theorem k128_223 : cod 128 223 = some (0, 0, 0, vi (240), 226) := by rw [cod, ctab_128]; rfl
theorem k128_226 : cod 128 226 = some (40, 68, 0, z0, 228) := by rw [cod, ctab_128]; rfl
theorem k128_228 : cod 128 228 = some (30, 40, 41, z0, 231) := by rw [cod, ctab_128]; rfl
theorem k128_231 : cod 128 231 = some (4, 0, 0, z0, 232) := by rw [cod, ctab_128]; rfl
theorem k128_232 : cod 128 232 = some (0, 0, 0, vi (30), 234) := by rw [cod, ctab_128]; rfl
theorem k128_234 : cod 128 234 = some (40, 69, 0, z0, 236) := by rw [cod, ctab_128]; rfl
theorem k128_236 : cod 128 236 = some (30, 40, 42, z0, 239) := by rw [cod, ctab_128]; rfl
theorem k128_239 : cod 128 239 = some (4, 0, 0, z0, 240) := by rw [cod, ctab_128]; rfl
theorem k128_240 : cod 128 240 = some (0, 0, 0, vi (50), 242) := by rw [cod, ctab_128]; rfl
theorem k128_242 : cod 128 242 = some (40, 70, 0, z0, 244) := by rw [cod, ctab_128]; rfl
theorem k128_244 : cod 128 244 = some (30, 40, 43, z0, 247) := by rw [cod, ctab_128]; rfl
theorem k128_247 : cod 128 247 = some (4, 0, 0, z0, 248) := by rw [cod, ctab_128]; rfl
theorem k128_248 : cod 128 248 = some (0, 0, 0, vi (50), 250) := by rw [cod, ctab_128]; rfl
theorem k128_250 : cod 128 250 = some (40, 71, 0, z0, 252) := by rw [cod, ctab_128]; rfl
theorem k128_252 : cod 128 252 = some (30, 40, 44, z0, 255) := by rw [cod, ctab_128]; rfl
theorem k128_255 : cod 128 255 = some (4, 0, 0, z0, 256) := by rw [cod, ctab_128]; rfl
theorem k128_256 : cod 128 256 = some (0, 0, 0, vi (250), 259) := by rw [cod, ctab_128]; rfl
theorem k128_259 : cod 128 259 = some (40, 72, 0, z0, 261) := by rw [cod, ctab_128]; rfl
theorem k128_261 : cod 128 261 = some (30, 40, 45, z0, 264) := by rw [cod, ctab_128]; rfl
theorem k128_264 : cod 128 264 = some (4, 0, 0, z0, 265) := by rw [cod, ctab_128]; rfl
theorem k128_265 : cod 128 265 = some (0, 0, 0, vi (200), 268) := by rw [cod, ctab_128]; rfl
theorem k128_268 : cod 128 268 = some (40, 73, 0, z0, 270) := by rw [cod, ctab_128]; rfl
theorem k128_270 : cod 128 270 = some (30, 40, 46, z0, 273) := by rw [cod, ctab_128]; rfl
theorem k128_273 : cod 128 273 = some (4, 0, 0, z0, 274) := by rw [cod, ctab_128]; rfl
theorem k128_274 : cod 128 274 = some (0, 0, 0, vi (800), 277) := by rw [cod, ctab_128]; rfl
theorem k128_277 : cod 128 277 = some (40, 74, 0, z0, 279) := by rw [cod, ctab_128]; rfl
theorem k128_279 : cod 128 279 = some (30, 40, 47, z0, 282) := by rw [cod, ctab_128]; rfl
theorem k128_282 : cod 128 282 = some (4, 0, 0, z0, 283) := by rw [cod, ctab_128]; rfl
theorem k128_283 : cod 128 283 = some (0, 0, 0, vi (4), 284) := by rw [cod, ctab_128]; rfl
theorem k128_284 : cod 128 284 = some (40, 75, 0, z0, 286) := by rw [cod, ctab_128]; rfl
theorem k128_286 : cod 128 286 = some (30, 40, 48, z0, 289) := by rw [cod, ctab_128]; rfl
theorem k128_289 : cod 128 289 = some (4, 0, 0, z0, 290) := by rw [cod, ctab_128]; rfl
theorem k128_290 : cod 128 290 = some (0, 0, 0, vi (4), 291) := by rw [cod, ctab_128]; rfl
theorem k128_291 : cod 128 291 = some (40, 76, 0, z0, 293) := by rw [cod, ctab_128]; rfl
theorem k128_293 : cod 128 293 = some (30, 40, 51, z0, 296) := by rw [cod, ctab_128]; rfl
theorem k128_296 : cod 128 296 = some (4, 0, 0, z0, 297) := by rw [cod, ctab_128]; rfl
theorem k128_297 : cod 128 297 = some (0, 0, 0, vi (4), 298) := by rw [cod, ctab_128]; rfl
theorem k128_298 : cod 128 298 = some (40, 77, 0, z0, 300) := by rw [cod, ctab_128]; rfl
theorem k128_300 : cod 128 300 = some (30, 40, 52, z0, 303) := by rw [cod, ctab_128]; rfl
theorem k128_303 : cod 128 303 = some (4, 0, 0, z0, 304) := by rw [cod, ctab_128]; rfl
theorem k128_304 : cod 128 304 = some (0, 0, 0, vi (50), 306) := by rw [cod, ctab_128]; rfl
theorem k128_306 : cod 128 306 = some (40, 78, 0, z0, 308) := by rw [cod, ctab_128]; rfl
theorem k128_308 : cod 128 308 = some (30, 40, 54, z0, 311) := by rw [cod, ctab_128]; rfl
theorem k128_311 : cod 128 311 = some (4, 0, 0, z0, 312) := by rw [cod, ctab_128]; rfl
theorem k128_312 : cod 128 312 = some (0, 0, 0, vi (6), 314) := by rw [cod, ctab_128]; rfl
theorem k128_314 : cod 128 314 = some (40, 79, 0, z0, 316) := by rw [cod, ctab_128]; rfl
theorem k128_316 : cod 128 316 = some (30, 40, 55, z0, 319) := by rw [cod, ctab_128]; rfl
theorem k128_319 : cod 128 319 = some (4, 0, 0, z0, 320) := by rw [cod, ctab_128]; rfl
theorem k128_320 : cod 128 320 = some (0, 0, 0, vi (6), 322) := by rw [cod, ctab_128]; rfl
theorem k128_322 : cod 128 322 = some (40, 80, 0, z0, 324) := by rw [cod, ctab_128]; rfl
theorem k128_324 : cod 128 324 = some (30, 40, 56, z0, 327) := by rw [cod, ctab_128]; rfl
theorem k128_327 : cod 128 327 = some (4, 0, 0, z0, 328) := by rw [cod, ctab_128]; rfl
theorem k128_328 : cod 128 328 = some (29, 40, 10, z0, 331) := by rw [cod, ctab_128]; rfl
theorem k128_331 : cod 128 331 = some (0, 0, 0, vi (2), 332) := by rw [cod, ctab_128]; rfl
theorem k128_332 : cod 128 332 = some (0, 0, 0, vi (3), 333) := by rw [cod, ctab_128]; rfl
theorem k128_333 : cod 128 333 = some (32, 1, 0, z0, 334) := by rw [cod, ctab_128]; rfl
theorem k128_334 : cod 128 334 = some (4, 0, 0, z0, 335) := by rw [cod, ctab_128]; rfl
theorem k128_335 : cod 128 335 = some (29, 40, 10, z0, 338) := by rw [cod, ctab_128]; rfl
theorem k128_338 : cod 128 338 = some (0, 0, 0, vi (3), 339) := by rw [cod, ctab_128]; rfl
theorem k128_339 : cod 128 339 = some (0, 0, 0, vi (60), 341) := by rw [cod, ctab_128]; rfl
theorem k128_341 : cod 128 341 = some (32, 1, 0, z0, 342) := by rw [cod, ctab_128]; rfl
theorem k128_342 : cod 128 342 = some (4, 0, 0, z0, 343) := by rw [cod, ctab_128]; rfl
theorem k128_343 : cod 128 343 = some (34, 171, 1, vr 40 0, 346) := by rw [cod, ctab_128]; rfl
theorem k128_346 : cod 128 346 = some (4, 0, 0, z0, 347) := by rw [cod, ctab_128]; rfl
theorem k128_347 : cod 128 347 = some (34, 172, 1, vr 40 0, 350) := by rw [cod, ctab_128]; rfl
theorem k128_350 : cod 128 350 = some (35, 0, 0, z0, 351) := by rw [cod, ctab_128]; rfl
theorem ctab_129 : ctab.getD 129 [] = cd129 := rfl
theorem k129_0 : cod 129 0 = some (4, 0, 0, z0, 1) := by rw [cod, ctab_129]; rfl
theorem k129_1 : cod 129 1 = some (29, 40, 0, z0, 4) := by rw [cod, ctab_129]; rfl
theorem k129_4 : cod 129 4 = some (36, 1, 0, z0, 5) := by rw [cod, ctab_129]; rfl
theorem ctab_130 : ctab.getD 130 [] = cd130 := rfl
theorem k130_0 : cod 130 0 = some (2, 0, 0, z0, 1) := by rw [cod, ctab_130]; rfl
theorem k130_1 : cod 130 1 = some (2, 1, 0, z0, 2) := by rw [cod, ctab_130]; rfl
theorem k130_2 : cod 130 2 = some (28, 2, 14, z0, 5) := by rw [cod, ctab_130]; rfl
theorem k130_5 : cod 130 5 = some (2, 0, 0, z0, 6) := by rw [cod, ctab_130]; rfl
theorem k130_6 : cod 130 6 = some (2, 2, 0, z0, 7) := by rw [cod, ctab_130]; rfl
theorem k130_7 : cod 130 7 = some (28, 4, 14, z0, 10) := by rw [cod, ctab_130]; rfl
theorem k130_10 : cod 130 10 = some (0, 0, 0, vi (1), 11) := by rw [cod, ctab_130]; rfl
theorem k130_11 : cod 130 11 = some (26, 15, 0, z0, 14) := by rw [cod, ctab_130]; rfl
theorem k130_14 : cod 130 14 = some (0, 0, 0, z0, 15) := by rw [cod, ctab_130]; rfl
theorem k130_15 : cod 130 15 = some (36, 2, 0, z0, 16) := by rw [cod, ctab_130]; rfl
theorem ctab_131 : ctab.getD 131 [] = cd131 := rfl
theorem k131_0 : cod 131 0 = some (2, 0, 0, z0, 1) := by rw [cod, ctab_131]; rfl
theorem k131_1 : cod 131 1 = some (2, 1, 0, z0, 2) := by rw [cod, ctab_131]; rfl
theorem k131_2 : cod 131 2 = some (28, 3, 9, z0, 5) := by rw [cod, ctab_131]; rfl
theorem k131_5 : cod 131 5 = some (2, 1, 0, z0, 6) := by rw [cod, ctab_131]; rfl
theorem k131_6 : cod 131 6 = some (26, 19, 0, z0, 9) := by rw [cod, ctab_131]; rfl
theorem k131_9 : cod 131 9 = some (2, 0, 0, z0, 10) := by rw [cod, ctab_131]; rfl
theorem k131_10 : cod 131 10 = some (2, 2, 0, z0, 11) := by rw [cod, ctab_131]; rfl
theorem k131_11 : cod 131 11 = some (28, 5, 18, z0, 14) := by rw [cod, ctab_131]; rfl
theorem k131_14 : cod 131 14 = some (2, 2, 0, z0, 15) := by rw [cod, ctab_131]; rfl
theorem k131_15 : cod 131 15 = some (26, 19, 0, z0, 18) := by rw [cod, ctab_131]; rfl
theorem k131_18 : cod 131 18 = some (2, 0, 0, z0, 19) := by rw [cod, ctab_131]; rfl
theorem k131_19 : cod 131 19 = some (36, 1, 0, z0, 20) := by rw [cod, ctab_131]; rfl
theorem ctab_132 : ctab.getD 132 [] = cd132 := rfl
theorem k132_0 : cod 132 0 = some (0, 0, 0, z0, 1) := by rw [cod, ctab_132]; rfl
theorem k132_1 : cod 132 1 = some (5, 1, 0, z0, 2) := by rw [cod, ctab_132]; rfl
theorem k132_2 : cod 132 2 = some (0, 0, 0, z0, 3) := by rw [cod, ctab_132]; rfl
theorem k132_3 : cod 132 3 = some (5, 2, 0, z0, 4) := by rw [cod, ctab_132]; rfl
theorem k132_4 : cod 132 4 = some (2, 2, 0, z0, 5) := by rw [cod, ctab_132]; rfl
theorem k132_5 : cod 132 5 = some (0, 0, 0, vi (6), 7) := by rw [cod, ctab_132]; rfl
theorem k132_7 : cod 132 7 = some (28, 3, 24, z0, 10) := by rw [cod, ctab_132]; rfl
theorem k132_10 : cod 132 10 = some (2, 1, 0, z0, 11) := by rw [cod, ctab_132]; rfl
theorem k132_11 : cod 132 11 = some (2, 0, 0, z0, 12) := by rw [cod, ctab_132]; rfl
theorem k132_12 : cod 132 12 = some (2, 2, 0, z0, 13) := by rw [cod, ctab_132]; rfl
theorem k132_13 : cod 132 13 = some (9, 7, 0, z0, 14) := by rw [cod, ctab_132]; rfl
theorem k132_14 : cod 132 14 = some (0, 0, 0, vi (1), 15) := by rw [cod, ctab_132]; rfl
theorem k132_15 : cod 132 15 = some (9, 3, 0, z0, 16) := by rw [cod, ctab_132]; rfl
theorem k132_16 : cod 132 16 = some (9, 0, 0, z0, 17) := by rw [cod, ctab_132]; rfl
theorem k132_17 : cod 132 17 = some (5, 1, 0, z0, 18) := by rw [cod, ctab_132]; rfl
theorem k132_18 : cod 132 18 = some (8, 2, 0, vi (1), 21) := by rw [cod, ctab_132]; rfl
theorem k132_21 : cod 132 21 = some (26, 4, 0, z0, 24) := by rw [cod, ctab_132]; rfl
theorem k132_24 : cod 132 24 = some (2, 1, 0, z0, 25) := by rw [cod, ctab_132]; rfl
theorem k132_25 : cod 132 25 = some (36, 1, 0, z0, 26) := by rw [cod, ctab_132]; rfl
theorem ctab_133 : ctab.getD 133 [] = cd133 := rfl
theorem k133_0 : cod 133 0 = some (4, 0, 0, z0, 1) := by rw [cod, ctab_133]; rfl
theorem k133_1 : cod 133 1 = some (0, 0, 0, z0, 2) := by rw [cod, ctab_133]; rfl
theorem k133_2 : cod 133 2 = some (30, 40, 0, z0, 5) := by rw [cod, ctab_133]; rfl
theorem k133_5 : cod 133 5 = some (0, 0, 0, z0, 6) := by rw [cod, ctab_133]; rfl
theorem k133_6 : cod 133 6 = some (5, 7, 0, z0, 8) := by rw [cod, ctab_133]; rfl
theorem k133_8 : cod 133 8 = some (2, 7, 0, z0, 10) := by rw [cod, ctab_133]; rfl
theorem k133_10 : cod 133 10 = some (0, 0, 0, vi (24), 12) := by rw [cod, ctab_133]; rfl
theorem k133_12 : cod 133 12 = some (28, 3, 120, z0, 15) := by rw [cod, ctab_133]; rfl
theorem k133_15 : cod 133 15 = some (2, 7, 0, z0, 17) := by rw [cod, ctab_133]; rfl
theorem k133_17 : cod 133 17 = some (0, 0, 0, vi (8), 19) := by rw [cod, ctab_133]; rfl
theorem k133_19 : cod 133 19 = some (28, 3, 26, z0, 22) := by rw [cod, ctab_133]; rfl
theorem k133_22 : cod 133 22 = some (3, 1, 0, z0, 23) := by rw [cod, ctab_133]; rfl
theorem k133_23 : cod 133 23 = some (26, 39, 0, z0, 26) := by rw [cod, ctab_133]; rfl
theorem k133_26 : cod 133 26 = some (2, 7, 0, z0, 28) := by rw [cod, ctab_133]; rfl
theorem k133_28 : cod 133 28 = some (0, 0, 0, vi (16), 30) := by rw [cod, ctab_133]; rfl
theorem k133_30 : cod 133 30 = some (28, 3, 37, z0, 33) := by rw [cod, ctab_133]; rfl
theorem k133_33 : cod 133 33 = some (3, 3, 0, z0, 34) := by rw [cod, ctab_133]; rfl
theorem k133_34 : cod 133 34 = some (26, 39, 0, z0, 37) := by rw [cod, ctab_133]; rfl
theorem k133_37 : cod 133 37 = some (3, 5, 0, z0, 39) := by rw [cod, ctab_133]; rfl
theorem k133_39 : cod 133 39 = some (6, 8, 0, z0, 41) := by rw [cod, ctab_133]; rfl
theorem k133_41 : cod 133 41 = some (3, 8, 0, z0, 43) := by rw [cod, ctab_133]; rfl
theorem k133_43 : cod 133 43 = some (0, 0, 0, vi (56), 45) := by rw [cod, ctab_133]; rfl
theorem k133_45 : cod 133 45 = some (0, 0, 0, vi (8), 47) := by rw [cod, ctab_133]; rfl
theorem k133_47 : cod 133 47 = some (2, 7, 0, z0, 49) := by rw [cod, ctab_133]; rfl
theorem k133_49 : cod 133 49 = some (0, 0, 0, vi (7), 51) := by rw [cod, ctab_133]; rfl
theorem k133_51 : cod 133 51 = some (9, 3, 0, z0, 52) := by rw [cod, ctab_133]; rfl
theorem k133_52 : cod 133 52 = some (9, 2, 0, z0, 53) := by rw [cod, ctab_133]; rfl
theorem k133_53 : cod 133 53 = some (9, 1, 0, z0, 54) := by rw [cod, ctab_133]; rfl
theorem k133_54 : cod 133 54 = some (15, 0, 0, z0, 55) := by rw [cod, ctab_133]; rfl
theorem k133_55 : cod 133 55 = some (0, 0, 0, vl (255), 58) := by rw [cod, ctab_133]; rfl
theorem k133_58 : cod 133 58 = some (13, 3, 0, z0, 59) := by rw [cod, ctab_133]; rfl
theorem k133_59 : cod 133 59 = some (20, 0, 0, z0, 60) := by rw [cod, ctab_133]; rfl
theorem k133_60 : cod 133 60 = some (5, 10, 0, z0, 62) := by rw [cod, ctab_133]; rfl
theorem k133_62 : cod 133 62 = some (4, 0, 0, z0, 63) := by rw [cod, ctab_133]; rfl
theorem k133_63 : cod 133 63 = some (29, 40, 1, z0, 66) := by rw [cod, ctab_133]; rfl
theorem k133_66 : cod 133 66 = some (0, 0, 0, vi (1000), 69) := by rw [cod, ctab_133]; rfl
theorem k133_69 : cod 133 69 = some (28, 3, 114, z0, 72) := by rw [cod, ctab_133]; rfl
theorem k133_72 : cod 133 72 = some (2, 10, 0, z0, 74) := by rw [cod, ctab_133]; rfl
theorem k133_74 : cod 133 74 = some (0, 0, 0, vi (10), 76) := by rw [cod, ctab_133]; rfl
theorem k133_76 : cod 133 76 = some (28, 0, 93, z0, 79) := by rw [cod, ctab_133]; rfl
theorem k133_79 : cod 133 79 = some (2, 10, 0, z0, 81) := by rw [cod, ctab_133]; rfl
theorem k133_81 : cod 133 81 = some (0, 0, 0, vi (32), 83) := by rw [cod, ctab_133]; rfl
theorem k133_83 : cod 133 83 = some (28, 2, 114, z0, 86) := by rw [cod, ctab_133]; rfl
theorem k133_86 : cod 133 86 = some (2, 10, 0, z0, 88) := by rw [cod, ctab_133]; rfl
theorem k133_88 : cod 133 88 = some (0, 0, 0, vi (126), 90) := by rw [cod, ctab_133]; rfl
theorem k133_90 : cod 133 90 = some (28, 4, 114, z0, 93) := by rw [cod, ctab_133]; rfl
theorem k133_93 : cod 133 93 = some (4, 0, 0, z0, 94) := by rw [cod, ctab_133]; rfl
theorem k133_94 : cod 133 94 = some (29, 40, 2, z0, 97) := by rw [cod, ctab_133]; rfl
theorem k133_97 : cod 133 97 = some (4, 0, 0, z0, 98) := by rw [cod, ctab_133]; rfl
theorem k133_98 : cod 133 98 = some (29, 40, 1, z0, 101) := by rw [cod, ctab_133]; rfl
theorem k133_101 : cod 133 101 = some (2, 10, 0, z0, 103) := by rw [cod, ctab_133]; rfl
theorem k133_103 : cod 133 103 = some (32, 1, 0, z0, 104) := by rw [cod, ctab_133]; rfl
theorem k133_104 : cod 133 104 = some (4, 0, 0, z0, 105) := by rw [cod, ctab_133]; rfl
theorem k133_105 : cod 133 105 = some (23, 0, 0, z0, 106) := by rw [cod, ctab_133]; rfl
theorem k133_106 : cod 133 106 = some (29, 40, 1, z0, 109) := by rw [cod, ctab_133]; rfl
theorem k133_109 : cod 133 109 = some (0, 0, 0, vi (1), 110) := by rw [cod, ctab_133]; rfl
theorem k133_110 : cod 133 110 = some (9, 0, 0, z0, 111) := by rw [cod, ctab_133]; rfl
theorem k133_111 : cod 133 111 = some (30, 40, 1, z0, 114) := by rw [cod, ctab_133]; rfl
theorem k133_114 : cod 133 114 = some (8, 7, 0, vi (1), 117) := by rw [cod, ctab_133]; rfl
theorem k133_117 : cod 133 117 = some (26, 8, 0, z0, 120) := by rw [cod, ctab_133]; rfl
theorem k133_120 : cod 133 120 = some (4, 0, 0, z0, 121) := by rw [cod, ctab_133]; rfl
theorem k133_121 : cod 133 121 = some (29, 40, 1, z0, 124) := by rw [cod, ctab_133]; rfl
theorem k133_124 : cod 133 124 = some (36, 1, 0, z0, 125) := by rw [cod, ctab_133]; rfl
theorem ctab_134 : ctab.getD 134 [] = cd134 := rfl
theorem k134_0 : cod 134 0 = some (2, 1, 0, z0, 1) := by rw [cod, ctab_134]; rfl
theorem k134_1 : cod 134 1 = some (4, 0, 0, z0, 2) := by rw [cod, ctab_134]; rfl
theorem k134_2 : cod 134 2 = some (29, 40, 3, z0, 5) := by rw [cod, ctab_134]; rfl
theorem k134_5 : cod 134 5 = some (28, 3, 17, z0, 8) := by rw [cod, ctab_134]; rfl
theorem k134_8 : cod 134 8 = some (4, 0, 0, z0, 9) := by rw [cod, ctab_134]; rfl
theorem k134_9 : cod 134 9 = some (29, 40, 2, z0, 12) := by rw [cod, ctab_134]; rfl
theorem k134_12 : cod 134 12 = some (2, 1, 0, z0, 13) := by rw [cod, ctab_134]; rfl
theorem k134_13 : cod 134 13 = some (31, 1, 0, z0, 14) := by rw [cod, ctab_134]; rfl
theorem k134_14 : cod 134 14 = some (26, 18, 0, z0, 17) := by rw [cod, ctab_134]; rfl
theorem k134_17 : cod 134 17 = some (0, 0, 0, z0, 18) := by rw [cod, ctab_134]; rfl
theorem k134_18 : cod 134 18 = some (36, 1, 0, z0, 19) := by rw [cod, ctab_134]; rfl
theorem ctab_135 : ctab.getD 135 [] = cd135 := rfl
theorem k135_0 : cod 135 0 = some (4, 0, 0, z0, 1) := by rw [cod, ctab_135]; rfl
theorem k135_1 : cod 135 1 = some (29, 40, 4, z0, 4) := by rw [cod, ctab_135]; rfl
theorem k135_4 : cod 135 4 = some (4, 0, 0, z0, 5) := by rw [cod, ctab_135]; rfl
theorem k135_5 : cod 135 5 = some (29, 40, 3, z0, 8) := by rw [cod, ctab_135]; rfl
theorem k135_8 : cod 135 8 = some (28, 3, 52, z0, 11) := by rw [cod, ctab_135]; rfl
theorem k135_11 : cod 135 11 = some (4, 0, 0, z0, 12) := by rw [cod, ctab_135]; rfl
theorem k135_12 : cod 135 12 = some (29, 40, 2, z0, 15) := by rw [cod, ctab_135]; rfl
theorem k135_15 : cod 135 15 = some (4, 0, 0, z0, 16) := by rw [cod, ctab_135]; rfl
theorem k135_16 : cod 135 16 = some (29, 40, 4, z0, 19) := by rw [cod, ctab_135]; rfl
theorem k135_19 : cod 135 19 = some (31, 1, 0, z0, 20) := by rw [cod, ctab_135]; rfl
theorem k135_20 : cod 135 20 = some (0, 0, 0, vi (32), 22) := by rw [cod, ctab_135]; rfl
theorem k135_22 : cod 135 22 = some (28, 0, 39, z0, 25) := by rw [cod, ctab_135]; rfl
theorem k135_25 : cod 135 25 = some (4, 0, 0, z0, 26) := by rw [cod, ctab_135]; rfl
theorem k135_26 : cod 135 26 = some (29, 40, 2, z0, 29) := by rw [cod, ctab_135]; rfl
theorem k135_29 : cod 135 29 = some (4, 0, 0, z0, 30) := by rw [cod, ctab_135]; rfl
theorem k135_30 : cod 135 30 = some (29, 40, 4, z0, 33) := by rw [cod, ctab_135]; rfl
theorem k135_33 : cod 135 33 = some (31, 1, 0, z0, 34) := by rw [cod, ctab_135]; rfl
theorem k135_34 : cod 135 34 = some (0, 0, 0, vi (10), 36) := by rw [cod, ctab_135]; rfl
theorem k135_36 : cod 135 36 = some (28, 1, 52, z0, 39) := by rw [cod, ctab_135]; rfl
theorem k135_39 : cod 135 39 = some (4, 0, 0, z0, 40) := by rw [cod, ctab_135]; rfl
theorem k135_40 : cod 135 40 = some (23, 0, 0, z0, 41) := by rw [cod, ctab_135]; rfl
theorem k135_41 : cod 135 41 = some (29, 40, 4, z0, 44) := by rw [cod, ctab_135]; rfl
theorem k135_44 : cod 135 44 = some (0, 0, 0, vi (1), 45) := by rw [cod, ctab_135]; rfl
theorem k135_45 : cod 135 45 = some (9, 0, 0, z0, 46) := by rw [cod, ctab_135]; rfl
theorem k135_46 : cod 135 46 = some (30, 40, 4, z0, 49) := by rw [cod, ctab_135]; rfl
theorem k135_49 : cod 135 49 = some (26, 0, 0, z0, 52) := by rw [cod, ctab_135]; rfl
theorem k135_52 : cod 135 52 = some (4, 0, 0, z0, 53) := by rw [cod, ctab_135]; rfl
theorem k135_53 : cod 135 53 = some (4, 0, 0, z0, 54) := by rw [cod, ctab_135]; rfl
theorem k135_54 : cod 135 54 = some (29, 40, 4, z0, 57) := by rw [cod, ctab_135]; rfl
theorem k135_57 : cod 135 57 = some (30, 40, 5, z0, 60) := by rw [cod, ctab_135]; rfl
theorem k135_60 : cod 135 60 = some (4, 0, 0, z0, 61) := by rw [cod, ctab_135]; rfl
theorem k135_61 : cod 135 61 = some (0, 0, 0, vl (0), 62) := by rw [cod, ctab_135]; rfl
theorem k135_62 : cod 135 62 = some (30, 40, 7, z0, 65) := by rw [cod, ctab_135]; rfl
theorem k135_65 : cod 135 65 = some (4, 0, 0, z0, 66) := by rw [cod, ctab_135]; rfl
theorem k135_66 : cod 135 66 = some (0, 0, 0, z0, 67) := by rw [cod, ctab_135]; rfl
theorem k135_67 : cod 135 67 = some (30, 40, 8, z0, 70) := by rw [cod, ctab_135]; rfl
theorem k135_70 : cod 135 70 = some (4, 0, 0, z0, 71) := by rw [cod, ctab_135]; rfl
theorem k135_71 : cod 135 71 = some (29, 40, 4, z0, 74) := by rw [cod, ctab_135]; rfl
theorem k135_74 : cod 135 74 = some (4, 0, 0, z0, 75) := by rw [cod, ctab_135]; rfl
theorem k135_75 : cod 135 75 = some (29, 40, 3, z0, 78) := by rw [cod, ctab_135]; rfl
theorem k135_78 : cod 135 78 = some (28, 1, 87, z0, 81) := by rw [cod, ctab_135]; rfl
theorem k135_81 : cod 135 81 = some (4, 0, 0, z0, 82) := by rw [cod, ctab_135]; rfl
theorem k135_82 : cod 135 82 = some (0, 0, 0, z0, 83) := by rw [cod, ctab_135]; rfl
theorem k135_83 : cod 135 83 = some (30, 40, 6, z0, 86) := by rw [cod, ctab_135]; rfl
theorem k135_86 : cod 135 86 = some (35, 0, 0, z0, 87) := by rw [cod, ctab_135]; rfl
theorem k135_87 : cod 135 87 = some (4, 0, 0, z0, 88) := by rw [cod, ctab_135]; rfl
theorem k135_88 : cod 135 88 = some (29, 40, 2, z0, 91) := by rw [cod, ctab_135]; rfl
theorem k135_91 : cod 135 91 = some (4, 0, 0, z0, 92) := by rw [cod, ctab_135]; rfl
theorem k135_92 : cod 135 92 = some (29, 40, 4, z0, 95) := by rw [cod, ctab_135]; rfl
theorem k135_95 : cod 135 95 = some (31, 1, 0, z0, 96) := by rw [cod, ctab_135]; rfl
theorem k135_96 : cod 135 96 = some (5, 1, 0, z0, 97) := by rw [cod, ctab_135]; rfl
theorem k135_97 : cod 135 97 = some (2, 1, 0, z0, 98) := by rw [cod, ctab_135]; rfl
theorem k135_98 : cod 135 98 = some (0, 0, 0, vi (97), 100) := by rw [cod, ctab_135]; rfl
theorem k135_100 : cod 135 100 = some (28, 2, 212, z0, 103) := by rw [cod, ctab_135]; rfl
theorem k135_103 : cod 135 103 = some (2, 1, 0, z0, 104) := by rw [cod, ctab_135]; rfl
theorem k135_104 : cod 135 104 = some (0, 0, 0, vi (122), 106) := by rw [cod, ctab_135]; rfl
theorem k135_106 : cod 135 106 = some (28, 4, 212, z0, 109) := by rw [cod, ctab_135]; rfl
theorem k135_109 : cod 135 109 = some (4, 0, 0, z0, 110) := by rw [cod, ctab_135]; rfl
theorem k135_110 : cod 135 110 = some (4, 0, 0, z0, 111) := by rw [cod, ctab_135]; rfl
theorem k135_111 : cod 135 111 = some (29, 40, 4, z0, 114) := by rw [cod, ctab_135]; rfl
theorem k135_114 : cod 135 114 = some (34, 134, 2, vr 40 0, 117) := by rw [cod, ctab_135]; rfl
theorem k135_117 : cod 135 117 = some (0, 0, 0, vi (97), 119) := by rw [cod, ctab_135]; rfl
theorem k135_119 : cod 135 119 = some (28, 2, 188, z0, 122) := by rw [cod, ctab_135]; rfl
theorem k135_122 : cod 135 122 = some (4, 0, 0, z0, 123) := by rw [cod, ctab_135]; rfl
theorem k135_123 : cod 135 123 = some (4, 0, 0, z0, 124) := by rw [cod, ctab_135]; rfl
theorem k135_124 : cod 135 124 = some (29, 40, 4, z0, 127) := by rw [cod, ctab_135]; rfl
theorem k135_127 : cod 135 127 = some (34, 134, 2, vr 40 0, 130) := by rw [cod, ctab_135]; rfl
theorem k135_130 : cod 135 130 = some (0, 0, 0, vi (122), 132) := by rw [cod, ctab_135]; rfl
theorem k135_132 : cod 135 132 = some (28, 4, 188, z0, 135) := by rw [cod, ctab_135]; rfl
theorem k135_135 : cod 135 135 = some (4, 0, 0, z0, 136) := by rw [cod, ctab_135]; rfl
theorem k135_136 : cod 135 136 = some (29, 40, 4, z0, 139) := by rw [cod, ctab_135]; rfl
theorem k135_139 : cod 135 139 = some (4, 0, 0, z0, 140) := by rw [cod, ctab_135]; rfl
theorem k135_140 : cod 135 140 = some (29, 40, 5, z0, 143) := by rw [cod, ctab_135]; rfl
theorem k135_143 : cod 135 143 = some (9, 1, 0, z0, 144) := by rw [cod, ctab_135]; rfl
theorem k135_144 : cod 135 144 = some (0, 0, 0, vi (8), 146) := by rw [cod, ctab_135]; rfl
theorem k135_146 : cod 135 146 = some (28, 3, 175, z0, 149) := by rw [cod, ctab_135]; rfl
theorem k135_149 : cod 135 149 = some (4, 0, 0, z0, 150) := by rw [cod, ctab_135]; rfl
theorem k135_150 : cod 135 150 = some (4, 0, 0, z0, 151) := by rw [cod, ctab_135]; rfl
theorem k135_151 : cod 135 151 = some (29, 40, 7, z0, 154) := by rw [cod, ctab_135]; rfl
theorem k135_154 : cod 135 154 = some (0, 0, 0, vl (27), 157) := by rw [cod, ctab_135]; rfl
theorem k135_157 : cod 135 157 = some (13, 2, 0, z0, 158) := by rw [cod, ctab_135]; rfl
theorem k135_158 : cod 135 158 = some (4, 0, 0, z0, 159) := by rw [cod, ctab_135]; rfl
theorem k135_159 : cod 135 159 = some (4, 0, 0, z0, 160) := by rw [cod, ctab_135]; rfl
theorem k135_160 : cod 135 160 = some (29, 40, 4, z0, 163) := by rw [cod, ctab_135]; rfl
theorem k135_163 : cod 135 163 = some (34, 134, 2, vr 40 0, 166) := by rw [cod, ctab_135]; rfl
theorem k135_166 : cod 135 166 = some (19, 0, 0, z0, 167) := by rw [cod, ctab_135]; rfl
theorem k135_167 : cod 135 167 = some (13, 0, 0, z0, 168) := by rw [cod, ctab_135]; rfl
theorem k135_168 : cod 135 168 = some (0, 0, 0, vl (96), 171) := by rw [cod, ctab_135]; rfl
theorem k135_171 : cod 135 171 = some (13, 1, 0, z0, 172) := by rw [cod, ctab_135]; rfl
theorem k135_172 : cod 135 172 = some (30, 40, 7, z0, 175) := by rw [cod, ctab_135]; rfl
theorem k135_175 : cod 135 175 = some (4, 0, 0, z0, 176) := by rw [cod, ctab_135]; rfl
theorem k135_176 : cod 135 176 = some (23, 0, 0, z0, 177) := by rw [cod, ctab_135]; rfl
theorem k135_177 : cod 135 177 = some (29, 40, 4, z0, 180) := by rw [cod, ctab_135]; rfl
theorem k135_180 : cod 135 180 = some (0, 0, 0, vi (1), 181) := by rw [cod, ctab_135]; rfl
theorem k135_181 : cod 135 181 = some (9, 0, 0, z0, 182) := by rw [cod, ctab_135]; rfl
theorem k135_182 : cod 135 182 = some (30, 40, 4, z0, 185) := by rw [cod, ctab_135]; rfl
theorem k135_185 : cod 135 185 = some (26, 109, 0, z0, 188) := by rw [cod, ctab_135]; rfl
theorem k135_188 : cod 135 188 = some (4, 0, 0, z0, 189) := by rw [cod, ctab_135]; rfl
theorem k135_189 : cod 135 189 = some (4, 0, 0, z0, 190) := by rw [cod, ctab_135]; rfl
theorem k135_190 : cod 135 190 = some (29, 40, 4, z0, 193) := by rw [cod, ctab_135]; rfl
theorem k135_193 : cod 135 193 = some (4, 0, 0, z0, 194) := by rw [cod, ctab_135]; rfl
theorem k135_194 : cod 135 194 = some (29, 40, 5, z0, 197) := by rw [cod, ctab_135]; rfl
theorem k135_197 : cod 135 197 = some (9, 1, 0, z0, 198) := by rw [cod, ctab_135]; rfl
theorem k135_198 : cod 135 198 = some (0, 0, 0, vi (8), 200) := by rw [cod, ctab_135]; rfl
theorem k135_200 : cod 135 200 = some (28, 5, 207, z0, 203) := by rw [cod, ctab_135]; rfl
theorem k135_203 : cod 135 203 = some (0, 0, 0, vi (4), 204) := by rw [cod, ctab_135]; rfl
theorem k135_204 : cod 135 204 = some (26, 208, 0, z0, 207) := by rw [cod, ctab_135]; rfl
theorem k135_207 : cod 135 207 = some (0, 0, 0, vi (1), 208) := by rw [cod, ctab_135]; rfl
theorem k135_208 : cod 135 208 = some (30, 40, 6, z0, 211) := by rw [cod, ctab_135]; rfl
theorem k135_211 : cod 135 211 = some (35, 0, 0, z0, 212) := by rw [cod, ctab_135]; rfl
theorem k135_212 : cod 135 212 = some (2, 1, 0, z0, 213) := by rw [cod, ctab_135]; rfl
theorem k135_213 : cod 135 213 = some (0, 0, 0, vi (48), 215) := by rw [cod, ctab_135]; rfl
theorem k135_215 : cod 135 215 = some (28, 2, 322, z0, 218) := by rw [cod, ctab_135]; rfl
theorem k135_218 : cod 135 218 = some (2, 1, 0, z0, 219) := by rw [cod, ctab_135]; rfl
theorem k135_219 : cod 135 219 = some (0, 0, 0, vi (57), 221) := by rw [cod, ctab_135]; rfl
theorem k135_221 : cod 135 221 = some (28, 4, 322, z0, 224) := by rw [cod, ctab_135]; rfl
theorem k135_224 : cod 135 224 = some (4, 0, 0, z0, 225) := by rw [cod, ctab_135]; rfl
theorem k135_225 : cod 135 225 = some (4, 0, 0, z0, 226) := by rw [cod, ctab_135]; rfl
theorem k135_226 : cod 135 226 = some (29, 40, 4, z0, 229) := by rw [cod, ctab_135]; rfl
theorem k135_229 : cod 135 229 = some (34, 134, 2, vr 40 0, 232) := by rw [cod, ctab_135]; rfl
theorem k135_232 : cod 135 232 = some (0, 0, 0, vi (48), 234) := by rw [cod, ctab_135]; rfl
theorem k135_234 : cod 135 234 = some (28, 2, 299, z0, 237) := by rw [cod, ctab_135]; rfl
theorem k135_237 : cod 135 237 = some (4, 0, 0, z0, 238) := by rw [cod, ctab_135]; rfl
theorem k135_238 : cod 135 238 = some (4, 0, 0, z0, 239) := by rw [cod, ctab_135]; rfl
theorem k135_239 : cod 135 239 = some (29, 40, 4, z0, 242) := by rw [cod, ctab_135]; rfl
theorem k135_242 : cod 135 242 = some (34, 134, 2, vr 40 0, 245) := by rw [cod, ctab_135]; rfl
theorem k135_245 : cod 135 245 = some (0, 0, 0, vi (57), 247) := by rw [cod, ctab_135]; rfl
theorem k135_247 : cod 135 247 = some (28, 4, 299, z0, 250) := by rw [cod, ctab_135]; rfl
theorem k135_250 : cod 135 250 = some (4, 0, 0, z0, 251) := by rw [cod, ctab_135]; rfl
theorem k135_251 : cod 135 251 = some (29, 40, 4, z0, 254) := by rw [cod, ctab_135]; rfl
theorem k135_254 : cod 135 254 = some (4, 0, 0, z0, 255) := by rw [cod, ctab_135]; rfl
theorem k135_255 : cod 135 255 = some (29, 40, 5, z0, 258) := by rw [cod, ctab_135]; rfl
theorem k135_258 : cod 135 258 = some (9, 1, 0, z0, 259) := by rw [cod, ctab_135]; rfl
theorem k135_259 : cod 135 259 = some (0, 0, 0, vi (4), 260) := by rw [cod, ctab_135]; rfl
theorem k135_260 : cod 135 260 = some (28, 3, 286, z0, 263) := by rw [cod, ctab_135]; rfl
theorem k135_263 : cod 135 263 = some (4, 0, 0, z0, 264) := by rw [cod, ctab_135]; rfl
theorem k135_264 : cod 135 264 = some (4, 0, 0, z0, 265) := by rw [cod, ctab_135]; rfl
theorem k135_265 : cod 135 265 = some (29, 40, 8, z0, 268) := by rw [cod, ctab_135]; rfl
theorem k135_268 : cod 135 268 = some (0, 0, 0, vi (10), 270) := by rw [cod, ctab_135]; rfl
theorem k135_270 : cod 135 270 = some (9, 2, 0, z0, 271) := by rw [cod, ctab_135]; rfl
theorem k135_271 : cod 135 271 = some (4, 0, 0, z0, 272) := by rw [cod, ctab_135]; rfl
theorem k135_272 : cod 135 272 = some (4, 0, 0, z0, 273) := by rw [cod, ctab_135]; rfl
theorem k135_273 : cod 135 273 = some (29, 40, 4, z0, 276) := by rw [cod, ctab_135]; rfl
theorem k135_276 : cod 135 276 = some (34, 134, 2, vr 40 0, 279) := by rw [cod, ctab_135]; rfl
theorem k135_279 : cod 135 279 = some (9, 0, 0, z0, 280) := by rw [cod, ctab_135]; rfl
theorem k135_280 : cod 135 280 = some (0, 0, 0, vi (48), 282) := by rw [cod, ctab_135]; rfl
theorem k135_282 : cod 135 282 = some (9, 1, 0, z0, 283) := by rw [cod, ctab_135]; rfl
theorem k135_283 : cod 135 283 = some (30, 40, 8, z0, 286) := by rw [cod, ctab_135]; rfl
theorem k135_286 : cod 135 286 = some (4, 0, 0, z0, 287) := by rw [cod, ctab_135]; rfl
theorem k135_287 : cod 135 287 = some (23, 0, 0, z0, 288) := by rw [cod, ctab_135]; rfl
theorem k135_288 : cod 135 288 = some (29, 40, 4, z0, 291) := by rw [cod, ctab_135]; rfl
theorem k135_291 : cod 135 291 = some (0, 0, 0, vi (1), 292) := by rw [cod, ctab_135]; rfl
theorem k135_292 : cod 135 292 = some (9, 0, 0, z0, 293) := by rw [cod, ctab_135]; rfl
theorem k135_293 : cod 135 293 = some (30, 40, 4, z0, 296) := by rw [cod, ctab_135]; rfl
theorem k135_296 : cod 135 296 = some (26, 224, 0, z0, 299) := by rw [cod, ctab_135]; rfl
theorem k135_299 : cod 135 299 = some (4, 0, 0, z0, 300) := by rw [cod, ctab_135]; rfl
theorem k135_300 : cod 135 300 = some (4, 0, 0, z0, 301) := by rw [cod, ctab_135]; rfl
theorem k135_301 : cod 135 301 = some (29, 40, 4, z0, 304) := by rw [cod, ctab_135]; rfl
theorem k135_304 : cod 135 304 = some (4, 0, 0, z0, 305) := by rw [cod, ctab_135]; rfl
theorem k135_305 : cod 135 305 = some (29, 40, 5, z0, 308) := by rw [cod, ctab_135]; rfl
theorem k135_308 : cod 135 308 = some (9, 1, 0, z0, 309) := by rw [cod, ctab_135]; rfl
theorem k135_309 : cod 135 309 = some (0, 0, 0, vi (4), 310) := by rw [cod, ctab_135]; rfl
theorem k135_310 : cod 135 310 = some (28, 5, 317, z0, 313) := by rw [cod, ctab_135]; rfl
theorem k135_313 : cod 135 313 = some (0, 0, 0, vi (4), 314) := by rw [cod, ctab_135]; rfl
theorem k135_314 : cod 135 314 = some (26, 318, 0, z0, 317) := by rw [cod, ctab_135]; rfl
theorem k135_317 : cod 135 317 = some (0, 0, 0, vi (2), 318) := by rw [cod, ctab_135]; rfl
theorem k135_318 : cod 135 318 = some (30, 40, 6, z0, 321) := by rw [cod, ctab_135]; rfl
theorem k135_321 : cod 135 321 = some (35, 0, 0, z0, 322) := by rw [cod, ctab_135]; rfl
theorem k135_322 : cod 135 322 = some (4, 0, 0, z0, 323) := by rw [cod, ctab_135]; rfl
theorem k135_323 : cod 135 323 = some (23, 0, 0, z0, 324) := by rw [cod, ctab_135]; rfl
theorem k135_324 : cod 135 324 = some (29, 40, 4, z0, 327) := by rw [cod, ctab_135]; rfl
theorem k135_327 : cod 135 327 = some (0, 0, 0, vi (1), 328) := by rw [cod, ctab_135]; rfl
theorem k135_328 : cod 135 328 = some (9, 0, 0, z0, 329) := by rw [cod, ctab_135]; rfl
theorem k135_329 : cod 135 329 = some (30, 40, 4, z0, 332) := by rw [cod, ctab_135]; rfl
theorem k135_332 : cod 135 332 = some (4, 0, 0, z0, 333) := by rw [cod, ctab_135]; rfl
theorem k135_333 : cod 135 333 = some (2, 1, 0, z0, 334) := by rw [cod, ctab_135]; rfl
theorem k135_334 : cod 135 334 = some (0, 0, 0, vi (40), 336) := by rw [cod, ctab_135]; rfl
theorem k135_336 : cod 135 336 = some (28, 2, 345, z0, 339) := by rw [cod, ctab_135]; rfl
theorem k135_339 : cod 135 339 = some (2, 1, 0, z0, 340) := by rw [cod, ctab_135]; rfl
theorem k135_340 : cod 135 340 = some (0, 0, 0, vi (43), 342) := by rw [cod, ctab_135]; rfl
theorem k135_342 : cod 135 342 = some (28, 5, 363, z0, 345) := by rw [cod, ctab_135]; rfl
theorem k135_345 : cod 135 345 = some (2, 1, 0, z0, 346) := by rw [cod, ctab_135]; rfl
theorem k135_346 : cod 135 346 = some (0, 0, 0, vi (45), 348) := by rw [cod, ctab_135]; rfl
theorem k135_348 : cod 135 348 = some (28, 0, 363, z0, 351) := by rw [cod, ctab_135]; rfl
theorem k135_351 : cod 135 351 = some (2, 1, 0, z0, 352) := by rw [cod, ctab_135]; rfl
theorem k135_352 : cod 135 352 = some (0, 0, 0, vi (59), 354) := by rw [cod, ctab_135]; rfl
theorem k135_354 : cod 135 354 = some (28, 2, 367, z0, 357) := by rw [cod, ctab_135]; rfl
theorem k135_357 : cod 135 357 = some (2, 1, 0, z0, 358) := by rw [cod, ctab_135]; rfl
theorem k135_358 : cod 135 358 = some (0, 0, 0, vi (61), 360) := by rw [cod, ctab_135]; rfl
theorem k135_360 : cod 135 360 = some (28, 4, 367, z0, 363) := by rw [cod, ctab_135]; rfl
theorem k135_363 : cod 135 363 = some (0, 0, 0, vi (3), 364) := by rw [cod, ctab_135]; rfl
theorem k135_364 : cod 135 364 = some (26, 368, 0, z0, 367) := by rw [cod, ctab_135]; rfl
theorem k135_367 : cod 135 367 = some (0, 0, 0, vi (4), 368) := by rw [cod, ctab_135]; rfl
theorem k135_368 : cod 135 368 = some (30, 40, 6, z0, 371) := by rw [cod, ctab_135]; rfl
theorem k135_371 : cod 135 371 = some (35, 0, 0, z0, 372) := by rw [cod, ctab_135]; rfl
theorem ctab_136 : ctab.getD 136 [] = cd136 := rfl
theorem k136_0 : cod 136 0 = some (4, 0, 0, z0, 1) := by rw [cod, ctab_136]; rfl
theorem k136_1 : cod 136 1 = some (29, 40, 6, z0, 4) := by rw [cod, ctab_136]; rfl
theorem k136_4 : cod 136 4 = some (0, 0, 0, vi (1), 5) := by rw [cod, ctab_136]; rfl
theorem k136_5 : cod 136 5 = some (28, 1, 21, z0, 8) := by rw [cod, ctab_136]; rfl
theorem k136_8 : cod 136 8 = some (4, 0, 0, z0, 9) := by rw [cod, ctab_136]; rfl
theorem k136_9 : cod 136 9 = some (29, 40, 7, z0, 12) := by rw [cod, ctab_136]; rfl
theorem k136_12 : cod 136 12 = some (3, 1, 0, z0, 13) := by rw [cod, ctab_136]; rfl
theorem k136_13 : cod 136 13 = some (18, 0, 0, z0, 14) := by rw [cod, ctab_136]; rfl
theorem k136_14 : cod 136 14 = some (27, 1, 21, z0, 17) := by rw [cod, ctab_136]; rfl
theorem k136_17 : cod 136 17 = some (0, 0, 0, vi (1), 18) := by rw [cod, ctab_136]; rfl
theorem k136_18 : cod 136 18 = some (26, 22, 0, z0, 21) := by rw [cod, ctab_136]; rfl
theorem k136_21 : cod 136 21 = some (0, 0, 0, z0, 22) := by rw [cod, ctab_136]; rfl
theorem k136_22 : cod 136 22 = some (36, 2, 0, z0, 23) := by rw [cod, ctab_136]; rfl
theorem ctab_137 : ctab.getD 137 [] = cd137 := rfl
theorem k137_0 : cod 137 0 = some (4, 0, 0, z0, 1) := by rw [cod, ctab_137]; rfl
theorem k137_1 : cod 137 1 = some (29, 40, 6, z0, 4) := by rw [cod, ctab_137]; rfl
theorem k137_4 : cod 137 4 = some (0, 0, 0, vi (3), 5) := by rw [cod, ctab_137]; rfl
theorem k137_5 : cod 137 5 = some (28, 1, 25, z0, 8) := by rw [cod, ctab_137]; rfl
theorem k137_8 : cod 137 8 = some (4, 0, 0, z0, 9) := by rw [cod, ctab_137]; rfl
theorem k137_9 : cod 137 9 = some (29, 40, 2, z0, 12) := by rw [cod, ctab_137]; rfl
theorem k137_12 : cod 137 12 = some (4, 0, 0, z0, 13) := by rw [cod, ctab_137]; rfl
theorem k137_13 : cod 137 13 = some (29, 40, 5, z0, 16) := by rw [cod, ctab_137]; rfl
theorem k137_16 : cod 137 16 = some (31, 1, 0, z0, 17) := by rw [cod, ctab_137]; rfl
theorem k137_17 : cod 137 17 = some (2, 1, 0, z0, 18) := by rw [cod, ctab_137]; rfl
theorem k137_18 : cod 137 18 = some (28, 1, 25, z0, 21) := by rw [cod, ctab_137]; rfl
theorem k137_21 : cod 137 21 = some (0, 0, 0, vi (1), 22) := by rw [cod, ctab_137]; rfl
theorem k137_22 : cod 137 22 = some (26, 26, 0, z0, 25) := by rw [cod, ctab_137]; rfl
theorem k137_25 : cod 137 25 = some (0, 0, 0, z0, 26) := by rw [cod, ctab_137]; rfl
theorem k137_26 : cod 137 26 = some (36, 2, 0, z0, 27) := by rw [cod, ctab_137]; rfl
theorem ctab_138 : ctab.getD 138 [] = cd138 := rfl
theorem k138_0 : cod 138 0 = some (4, 0, 0, z0, 1) := by rw [cod, ctab_138]; rfl
theorem k138_1 : cod 138 1 = some (2, 1, 0, z0, 2) := by rw [cod, ctab_138]; rfl
theorem k138_2 : cod 138 2 = some (0, 0, 0, vi (16), 4) := by rw [cod, ctab_138]; rfl
theorem k138_4 : cod 138 4 = some (4, 0, 0, z0, 5) := by rw [cod, ctab_138]; rfl
theorem k138_5 : cod 138 5 = some (29, 40, 5, z0, 8) := by rw [cod, ctab_138]; rfl
theorem k138_8 : cod 138 8 = some (9, 2, 0, z0, 9) := by rw [cod, ctab_138]; rfl
theorem k138_9 : cod 138 9 = some (9, 0, 0, z0, 10) := by rw [cod, ctab_138]; rfl
theorem k138_10 : cod 138 10 = some (30, 40, 9, z0, 13) := by rw [cod, ctab_138]; rfl
theorem k138_13 : cod 138 13 = some (0, 0, 0, z0, 14) := by rw [cod, ctab_138]; rfl
theorem k138_14 : cod 138 14 = some (36, 2, 0, z0, 15) := by rw [cod, ctab_138]; rfl
theorem ctab_139 : ctab.getD 139 [] = cd139 := rfl
theorem k139_0 : cod 139 0 = some (4, 0, 0, z0, 1) := by rw [cod, ctab_139]; rfl
theorem k139_1 : cod 139 1 = some (29, 40, 20, z0, 4) := by rw [cod, ctab_139]; rfl
theorem k139_4 : cod 139 4 = some (4, 0, 0, z0, 5) := by rw [cod, ctab_139]; rfl
theorem k139_5 : cod 139 5 = some (29, 40, 21, z0, 8) := by rw [cod, ctab_139]; rfl
theorem k139_8 : cod 139 8 = some (2, 1, 0, z0, 9) := by rw [cod, ctab_139]; rfl
theorem k139_9 : cod 139 9 = some (32, 1, 0, z0, 10) := by rw [cod, ctab_139]; rfl
theorem k139_10 : cod 139 10 = some (4, 0, 0, z0, 11) := by rw [cod, ctab_139]; rfl
theorem k139_11 : cod 139 11 = some (23, 0, 0, z0, 12) := by rw [cod, ctab_139]; rfl
theorem k139_12 : cod 139 12 = some (29, 40, 21, z0, 15) := by rw [cod, ctab_139]; rfl
theorem k139_15 : cod 139 15 = some (0, 0, 0, vi (1), 16) := by rw [cod, ctab_139]; rfl
theorem k139_16 : cod 139 16 = some (9, 0, 0, z0, 17) := by rw [cod, ctab_139]; rfl
theorem k139_17 : cod 139 17 = some (30, 40, 21, z0, 20) := by rw [cod, ctab_139]; rfl
theorem k139_20 : cod 139 20 = some (35, 0, 0, z0, 21) := by rw [cod, ctab_139]; rfl
theorem ctab_140 : ctab.getD 140 [] = cd140 := rfl
theorem k140_0 : cod 140 0 = some (4, 0, 0, z0, 1) := by rw [cod, ctab_140]; rfl
theorem k140_1 : cod 140 1 = some (29, 40, 6, z0, 4) := by rw [cod, ctab_140]; rfl
theorem k140_4 : cod 140 4 = some (0, 0, 0, vi (1), 5) := by rw [cod, ctab_140]; rfl
theorem k140_5 : cod 140 5 = some (28, 0, 10, z0, 8) := by rw [cod, ctab_140]; rfl
theorem k140_8 : cod 140 8 = some (0, 0, 0, z0, 9) := by rw [cod, ctab_140]; rfl
theorem k140_9 : cod 140 9 = some (36, 1, 0, z0, 10) := by rw [cod, ctab_140]; rfl
theorem k140_10 : cod 140 10 = some (4, 0, 0, z0, 11) := by rw [cod, ctab_140]; rfl
theorem k140_11 : cod 140 11 = some (29, 40, 7, z0, 14) := by rw [cod, ctab_140]; rfl
theorem k140_14 : cod 140 14 = some (0, 0, 0, vl (148870), 17) := by rw [cod, ctab_140]; rfl
theorem k140_17 : cod 140 17 = some (18, 0, 0, z0, 18) := by rw [cod, ctab_140]; rfl
theorem k140_18 : cod 140 18 = some (27, 1, 23, z0, 21) := by rw [cod, ctab_140]; rfl
theorem k140_21 : cod 140 21 = some (0, 0, 0, vi (1), 22) := by rw [cod, ctab_140]; rfl
theorem k140_22 : cod 140 22 = some (36, 1, 0, z0, 23) := by rw [cod, ctab_140]; rfl
theorem k140_23 : cod 140 23 = some (4, 0, 0, z0, 24) := by rw [cod, ctab_140]; rfl
theorem k140_24 : cod 140 24 = some (29, 40, 7, z0, 27) := by rw [cod, ctab_140]; rfl
theorem k140_27 : cod 140 27 = some (0, 0, 0, vl (10801946), 30) := by rw [cod, ctab_140]; rfl
theorem k140_30 : cod 140 30 = some (18, 0, 0, z0, 31) := by rw [cod, ctab_140]; rfl
theorem k140_31 : cod 140 31 = some (27, 1, 36, z0, 34) := by rw [cod, ctab_140]; rfl
theorem k140_34 : cod 140 34 = some (0, 0, 0, vi (2), 35) := by rw [cod, ctab_140]; rfl
theorem k140_35 : cod 140 35 = some (36, 1, 0, z0, 36) := by rw [cod, ctab_140]; rfl
theorem k140_36 : cod 140 36 = some (4, 0, 0, z0, 37) := by rw [cod, ctab_140]; rfl
theorem k140_37 : cod 140 37 = some (29, 40, 7, z0, 40) := by rw [cod, ctab_140]; rfl
theorem k140_40 : cod 140 40 = some (0, 0, 0, vl (9632), 43) := by rw [cod, ctab_140]; rfl
theorem k140_43 : cod 140 43 = some (18, 0, 0, z0, 44) := by rw [cod, ctab_140]; rfl
theorem k140_44 : cod 140 44 = some (27, 1, 51, z0, 47) := by rw [cod, ctab_140]; rfl
theorem k140_47 : cod 140 47 = some (0, 0, 0, vi (3), 48) := by rw [cod, ctab_140]; rfl
theorem k140_48 : cod 140 48 = some (26, 67, 0, z0, 51) := by rw [cod, ctab_140]; rfl
theorem k140_51 : cod 140 51 = some (4, 0, 0, z0, 52) := by rw [cod, ctab_140]; rfl
theorem k140_52 : cod 140 52 = some (29, 40, 7, z0, 55) := by rw [cod, ctab_140]; rfl
theorem k140_55 : cod 140 55 = some (0, 0, 0, vl (1960177), 58) := by rw [cod, ctab_140]; rfl
theorem k140_58 : cod 140 58 = some (18, 0, 0, z0, 59) := by rw [cod, ctab_140]; rfl
theorem k140_59 : cod 140 59 = some (27, 1, 66, z0, 62) := by rw [cod, ctab_140]; rfl
theorem k140_62 : cod 140 62 = some (0, 0, 0, vi (4), 63) := by rw [cod, ctab_140]; rfl
theorem k140_63 : cod 140 63 = some (26, 67, 0, z0, 66) := by rw [cod, ctab_140]; rfl
theorem k140_66 : cod 140 66 = some (0, 0, 0, z0, 67) := by rw [cod, ctab_140]; rfl
theorem k140_67 : cod 140 67 = some (36, 1, 0, z0, 68) := by rw [cod, ctab_140]; rfl
theorem ctab_141 : ctab.getD 141 [] = cd141 := rfl
theorem k141_0 : cod 141 0 = some (0, 0, 0, z0, 1) := by rw [cod, ctab_141]; rfl
theorem k141_1 : cod 141 1 = some (5, 1, 0, z0, 2) := by rw [cod, ctab_141]; rfl
theorem k141_2 : cod 141 2 = some (0, 0, 0, vi (1), 3) := by rw [cod, ctab_141]; rfl
theorem k141_3 : cod 141 3 = some (5, 2, 0, z0, 4) := by rw [cod, ctab_141]; rfl
theorem k141_4 : cod 141 4 = some (4, 0, 0, z0, 5) := by rw [cod, ctab_141]; rfl
theorem k141_5 : cod 141 5 = some (29, 40, 24, z0, 8) := by rw [cod, ctab_141]; rfl
theorem k141_8 : cod 141 8 = some (0, 0, 0, z0, 9) := by rw [cod, ctab_141]; rfl
theorem k141_9 : cod 141 9 = some (0, 0, 0, z0, 10) := by rw [cod, ctab_141]; rfl
theorem k141_10 : cod 141 10 = some (32, 3, 0, z0, 11) := by rw [cod, ctab_141]; rfl
theorem k141_11 : cod 141 11 = some (2, 2, 0, z0, 12) := by rw [cod, ctab_141]; rfl
theorem k141_12 : cod 141 12 = some (27, 0, 179, z0, 15) := by rw [cod, ctab_141]; rfl
theorem k141_15 : cod 141 15 = some (4, 0, 0, z0, 16) := by rw [cod, ctab_141]; rfl
theorem k141_16 : cod 141 16 = some (34, 140, 1, vr 40 0, 19) := by rw [cod, ctab_141]; rfl
theorem k141_19 : cod 141 19 = some (5, 3, 0, z0, 20) := by rw [cod, ctab_141]; rfl
theorem k141_20 : cod 141 20 = some (4, 0, 0, z0, 21) := by rw [cod, ctab_141]; rfl
theorem k141_21 : cod 141 21 = some (0, 0, 0, vl (10631), 24) := by rw [cod, ctab_141]; rfl
theorem k141_24 : cod 141 24 = some (34, 136, 2, vr 40 0, 27) := by rw [cod, ctab_141]; rfl
theorem k141_27 : cod 141 27 = some (5, 4, 0, z0, 29) := by rw [cod, ctab_141]; rfl
theorem k141_29 : cod 141 29 = some (4, 0, 0, z0, 30) := by rw [cod, ctab_141]; rfl
theorem k141_30 : cod 141 30 = some (0, 0, 0, vi (40), 32) := by rw [cod, ctab_141]; rfl
theorem k141_32 : cod 141 32 = some (34, 137, 2, vr 40 0, 35) := by rw [cod, ctab_141]; rfl
theorem k141_35 : cod 141 35 = some (5, 5, 0, z0, 37) := by rw [cod, ctab_141]; rfl
theorem k141_37 : cod 141 37 = some (2, 3, 0, z0, 38) := by rw [cod, ctab_141]; rfl
theorem k141_38 : cod 141 38 = some (27, 1, 65, z0, 41) := by rw [cod, ctab_141]; rfl
theorem k141_41 : cod 141 41 = some (2, 4, 0, z0, 43) := by rw [cod, ctab_141]; rfl
theorem k141_43 : cod 141 43 = some (27, 1, 65, z0, 46) := by rw [cod, ctab_141]; rfl
theorem k141_46 : cod 141 46 = some (2, 5, 0, z0, 48) := by rw [cod, ctab_141]; rfl
theorem k141_48 : cod 141 48 = some (27, 1, 65, z0, 51) := by rw [cod, ctab_141]; rfl
theorem k141_51 : cod 141 51 = some (4, 0, 0, z0, 52) := by rw [cod, ctab_141]; rfl
theorem k141_52 : cod 141 52 = some (29, 40, 6, z0, 55) := by rw [cod, ctab_141]; rfl
theorem k141_55 : cod 141 55 = some (0, 0, 0, vi (2), 56) := by rw [cod, ctab_141]; rfl
theorem k141_56 : cod 141 56 = some (28, 0, 65, z0, 59) := by rw [cod, ctab_141]; rfl
theorem k141_59 : cod 141 59 = some (4, 0, 0, z0, 60) := by rw [cod, ctab_141]; rfl
theorem k141_60 : cod 141 60 = some (0, 0, 0, vi (1), 61) := by rw [cod, ctab_141]; rfl
theorem k141_61 : cod 141 61 = some (34, 138, 2, vr 40 0, 64) := by rw [cod, ctab_141]; rfl
theorem k141_64 : cod 141 64 = some (36, 2, 0, z0, 65) := by rw [cod, ctab_141]; rfl
theorem k141_65 : cod 141 65 = some (2, 1, 0, z0, 66) := by rw [cod, ctab_141]; rfl
theorem k141_66 : cod 141 66 = some (0, 0, 0, vi (5), 67) := by rw [cod, ctab_141]; rfl
theorem k141_67 : cod 141 67 = some (28, 1, 76, z0, 70) := by rw [cod, ctab_141]; rfl
theorem k141_70 : cod 141 70 = some (4, 0, 0, z0, 71) := by rw [cod, ctab_141]; rfl
theorem k141_71 : cod 141 71 = some (0, 0, 0, vi (5), 72) := by rw [cod, ctab_141]; rfl
theorem k141_72 : cod 141 72 = some (34, 138, 2, vr 40 0, 75) := by rw [cod, ctab_141]; rfl
theorem k141_75 : cod 141 75 = some (36, 2, 0, z0, 76) := by rw [cod, ctab_141]; rfl
theorem k141_76 : cod 141 76 = some (2, 4, 0, z0, 78) := by rw [cod, ctab_141]; rfl
theorem k141_78 : cod 141 78 = some (27, 1, 86, z0, 81) := by rw [cod, ctab_141]; rfl
theorem k141_81 : cod 141 81 = some (2, 5, 0, z0, 83) := by rw [cod, ctab_141]; rfl
theorem k141_83 : cod 141 83 = some (27, 0, 131, z0, 86) := by rw [cod, ctab_141]; rfl
theorem k141_86 : cod 141 86 = some (4, 0, 0, z0, 87) := by rw [cod, ctab_141]; rfl
theorem k141_87 : cod 141 87 = some (2, 4, 0, z0, 89) := by rw [cod, ctab_141]; rfl
theorem k141_89 : cod 141 89 = some (27, 0, 97, z0, 92) := by rw [cod, ctab_141]; rfl
theorem k141_92 : cod 141 92 = some (0, 0, 0, vi (30), 94) := by rw [cod, ctab_141]; rfl
theorem k141_94 : cod 141 94 = some (26, 99, 0, z0, 97) := by rw [cod, ctab_141]; rfl
theorem k141_97 : cod 141 97 = some (0, 0, 0, vi (28), 99) := by rw [cod, ctab_141]; rfl
theorem k141_99 : cod 141 99 = some (34, 139, 2, vr 40 0, 102) := by rw [cod, ctab_141]; rfl
theorem k141_102 : cod 141 102 = some (8, 1, 0, vi (1), 105) := by rw [cod, ctab_141]; rfl
theorem k141_105 : cod 141 105 = some (4, 0, 0, z0, 106) := by rw [cod, ctab_141]; rfl
theorem k141_106 : cod 141 106 = some (29, 40, 23, z0, 109) := by rw [cod, ctab_141]; rfl
theorem k141_109 : cod 141 109 = some (2, 1, 0, z0, 110) := by rw [cod, ctab_141]; rfl
theorem k141_110 : cod 141 110 = some (2, 4, 0, z0, 112) := by rw [cod, ctab_141]; rfl
theorem k141_112 : cod 141 112 = some (27, 0, 119, z0, 115) := by rw [cod, ctab_141]; rfl
theorem k141_115 : cod 141 115 = some (0, 0, 0, vi (1), 116) := by rw [cod, ctab_141]; rfl
theorem k141_116 : cod 141 116 = some (26, 120, 0, z0, 119) := by rw [cod, ctab_141]; rfl
theorem k141_119 : cod 141 119 = some (0, 0, 0, vi (2), 120) := by rw [cod, ctab_141]; rfl
theorem k141_120 : cod 141 120 = some (32, 1, 0, z0, 121) := by rw [cod, ctab_141]; rfl
theorem k141_121 : cod 141 121 = some (4, 0, 0, z0, 122) := by rw [cod, ctab_141]; rfl
theorem k141_122 : cod 141 122 = some (29, 40, 24, z0, 125) := by rw [cod, ctab_141]; rfl
theorem k141_125 : cod 141 125 = some (2, 1, 0, z0, 126) := by rw [cod, ctab_141]; rfl
theorem k141_126 : cod 141 126 = some (0, 0, 0, z0, 127) := by rw [cod, ctab_141]; rfl
theorem k141_127 : cod 141 127 = some (32, 3, 0, z0, 128) := by rw [cod, ctab_141]; rfl
theorem k141_128 : cod 141 128 = some (26, 172, 0, z0, 131) := by rw [cod, ctab_141]; rfl
theorem k141_131 : cod 141 131 = some (4, 0, 0, z0, 132) := by rw [cod, ctab_141]; rfl
theorem k141_132 : cod 141 132 = some (2, 3, 0, z0, 133) := by rw [cod, ctab_141]; rfl
theorem k141_133 : cod 141 133 = some (27, 5, 140, z0, 136) := by rw [cod, ctab_141]; rfl
theorem k141_136 : cod 141 136 = some (2, 3, 0, z0, 137) := by rw [cod, ctab_141]; rfl
theorem k141_137 : cod 141 137 = some (26, 147, 0, z0, 140) := by rw [cod, ctab_141]; rfl
theorem k141_140 : cod 141 140 = some (0, 0, 0, vi (100), 142) := by rw [cod, ctab_141]; rfl
theorem k141_142 : cod 141 142 = some (4, 0, 0, z0, 143) := by rw [cod, ctab_141]; rfl
theorem k141_143 : cod 141 143 = some (29, 40, 8, z0, 146) := by rw [cod, ctab_141]; rfl
theorem k141_146 : cod 141 146 = some (9, 0, 0, z0, 147) := by rw [cod, ctab_141]; rfl
theorem k141_147 : cod 141 147 = some (34, 139, 2, vr 40 0, 150) := by rw [cod, ctab_141]; rfl
theorem k141_150 : cod 141 150 = some (0, 0, 0, z0, 151) := by rw [cod, ctab_141]; rfl
theorem k141_151 : cod 141 151 = some (5, 2, 0, z0, 152) := by rw [cod, ctab_141]; rfl
theorem k141_152 : cod 141 152 = some (2, 1, 0, z0, 153) := by rw [cod, ctab_141]; rfl
theorem k141_153 : cod 141 153 = some (27, 5, 172, z0, 156) := by rw [cod, ctab_141]; rfl
theorem k141_156 : cod 141 156 = some (4, 0, 0, z0, 157) := by rw [cod, ctab_141]; rfl
theorem k141_157 : cod 141 157 = some (29, 40, 23, z0, 160) := by rw [cod, ctab_141]; rfl
theorem k141_160 : cod 141 160 = some (2, 1, 0, z0, 161) := by rw [cod, ctab_141]; rfl
theorem k141_161 : cod 141 161 = some (31, 1, 0, z0, 162) := by rw [cod, ctab_141]; rfl
theorem k141_162 : cod 141 162 = some (0, 0, 0, vi (1), 163) := by rw [cod, ctab_141]; rfl
theorem k141_163 : cod 141 163 = some (28, 1, 172, z0, 166) := by rw [cod, ctab_141]; rfl
theorem k141_166 : cod 141 166 = some (8, 1, 0, vi (-1), 169) := by rw [cod, ctab_141]; rfl
theorem k141_169 : cod 141 169 = some (26, 152, 0, z0, 172) := by rw [cod, ctab_141]; rfl
theorem k141_172 : cod 141 172 = some (4, 0, 0, z0, 173) := by rw [cod, ctab_141]; rfl
theorem k141_173 : cod 141 173 = some (34, 135, 1, vr 40 0, 176) := by rw [cod, ctab_141]; rfl
theorem k141_176 : cod 141 176 = some (26, 11, 0, z0, 179) := by rw [cod, ctab_141]; rfl
theorem k141_179 : cod 141 179 = some (4, 0, 0, z0, 180) := by rw [cod, ctab_141]; rfl
theorem k141_180 : cod 141 180 = some (0, 0, 0, vi (43), 182) := by rw [cod, ctab_141]; rfl
theorem k141_182 : cod 141 182 = some (34, 137, 2, vr 40 0, 185) := by rw [cod, ctab_141]; rfl
theorem k141_185 : cod 141 185 = some (27, 1, 206, z0, 188) := by rw [cod, ctab_141]; rfl
theorem k141_188 : cod 141 188 = some (4, 0, 0, z0, 189) := by rw [cod, ctab_141]; rfl
theorem k141_189 : cod 141 189 = some (0, 0, 0, vi (45), 191) := by rw [cod, ctab_141]; rfl
theorem k141_191 : cod 141 191 = some (34, 137, 2, vr 40 0, 194) := by rw [cod, ctab_141]; rfl
theorem k141_194 : cod 141 194 = some (27, 1, 206, z0, 197) := by rw [cod, ctab_141]; rfl
theorem k141_197 : cod 141 197 = some (4, 0, 0, z0, 198) := by rw [cod, ctab_141]; rfl
theorem k141_198 : cod 141 198 = some (0, 0, 0, vi (42), 200) := by rw [cod, ctab_141]; rfl
theorem k141_200 : cod 141 200 = some (34, 137, 2, vr 40 0, 203) := by rw [cod, ctab_141]; rfl
theorem k141_203 : cod 141 203 = some (27, 0, 245, z0, 206) := by rw [cod, ctab_141]; rfl
theorem k141_206 : cod 141 206 = some (4, 0, 0, z0, 207) := by rw [cod, ctab_141]; rfl
theorem k141_207 : cod 141 207 = some (4, 0, 0, z0, 208) := by rw [cod, ctab_141]; rfl
theorem k141_208 : cod 141 208 = some (0, 0, 0, vi (43), 210) := by rw [cod, ctab_141]; rfl
theorem k141_210 : cod 141 210 = some (34, 137, 2, vr 40 0, 213) := by rw [cod, ctab_141]; rfl
theorem k141_213 : cod 141 213 = some (27, 0, 221, z0, 216) := by rw [cod, ctab_141]; rfl
theorem k141_216 : cod 141 216 = some (0, 0, 0, vi (20), 218) := by rw [cod, ctab_141]; rfl
theorem k141_218 : cod 141 218 = some (26, 237, 0, z0, 221) := by rw [cod, ctab_141]; rfl
theorem k141_221 : cod 141 221 = some (4, 0, 0, z0, 222) := by rw [cod, ctab_141]; rfl
theorem k141_222 : cod 141 222 = some (0, 0, 0, vi (45), 224) := by rw [cod, ctab_141]; rfl
theorem k141_224 : cod 141 224 = some (34, 137, 2, vr 40 0, 227) := by rw [cod, ctab_141]; rfl
theorem k141_227 : cod 141 227 = some (27, 0, 235, z0, 230) := by rw [cod, ctab_141]; rfl
theorem k141_230 : cod 141 230 = some (0, 0, 0, vi (21), 232) := by rw [cod, ctab_141]; rfl
theorem k141_232 : cod 141 232 = some (26, 237, 0, z0, 235) := by rw [cod, ctab_141]; rfl
theorem k141_235 : cod 141 235 = some (0, 0, 0, vi (22), 237) := by rw [cod, ctab_141]; rfl
theorem k141_237 : cod 141 237 = some (34, 139, 2, vr 40 0, 240) := by rw [cod, ctab_141]; rfl
theorem k141_240 : cod 141 240 = some (0, 0, 0, vi (1), 241) := by rw [cod, ctab_141]; rfl
theorem k141_241 : cod 141 241 = some (5, 2, 0, z0, 242) := by rw [cod, ctab_141]; rfl
theorem k141_242 : cod 141 242 = some (26, 424, 0, z0, 245) := by rw [cod, ctab_141]; rfl
theorem k141_245 : cod 141 245 = some (4, 0, 0, z0, 246) := by rw [cod, ctab_141]; rfl
theorem k141_246 : cod 141 246 = some (0, 0, 0, vi (60), 248) := by rw [cod, ctab_141]; rfl
theorem k141_248 : cod 141 248 = some (34, 137, 2, vr 40 0, 251) := by rw [cod, ctab_141]; rfl
theorem k141_251 : cod 141 251 = some (27, 1, 263, z0, 254) := by rw [cod, ctab_141]; rfl
theorem k141_254 : cod 141 254 = some (4, 0, 0, z0, 255) := by rw [cod, ctab_141]; rfl
theorem k141_255 : cod 141 255 = some (0, 0, 0, vi (61), 257) := by rw [cod, ctab_141]; rfl
theorem k141_257 : cod 141 257 = some (34, 137, 2, vr 40 0, 260) := by rw [cod, ctab_141]; rfl
theorem k141_260 : cod 141 260 = some (27, 0, 304, z0, 263) := by rw [cod, ctab_141]; rfl
theorem k141_263 : cod 141 263 = some (4, 0, 0, z0, 264) := by rw [cod, ctab_141]; rfl
theorem k141_264 : cod 141 264 = some (29, 40, 24, z0, 267) := by rw [cod, ctab_141]; rfl
theorem k141_267 : cod 141 267 = some (2, 1, 0, z0, 268) := by rw [cod, ctab_141]; rfl
theorem k141_268 : cod 141 268 = some (31, 3, 0, z0, 269) := by rw [cod, ctab_141]; rfl
theorem k141_269 : cod 141 269 = some (27, 1, 304, z0, 272) := by rw [cod, ctab_141]; rfl
theorem k141_272 : cod 141 272 = some (4, 0, 0, z0, 273) := by rw [cod, ctab_141]; rfl
theorem k141_273 : cod 141 273 = some (4, 0, 0, z0, 274) := by rw [cod, ctab_141]; rfl
theorem k141_274 : cod 141 274 = some (0, 0, 0, vi (60), 276) := by rw [cod, ctab_141]; rfl
theorem k141_276 : cod 141 276 = some (34, 137, 2, vr 40 0, 279) := by rw [cod, ctab_141]; rfl
theorem k141_279 : cod 141 279 = some (27, 0, 287, z0, 282) := by rw [cod, ctab_141]; rfl
theorem k141_282 : cod 141 282 = some (0, 0, 0, vi (24), 284) := by rw [cod, ctab_141]; rfl
theorem k141_284 : cod 141 284 = some (26, 289, 0, z0, 287) := by rw [cod, ctab_141]; rfl
theorem k141_287 : cod 141 287 = some (0, 0, 0, vi (25), 289) := by rw [cod, ctab_141]; rfl
theorem k141_289 : cod 141 289 = some (34, 139, 2, vr 40 0, 292) := by rw [cod, ctab_141]; rfl
theorem k141_292 : cod 141 292 = some (4, 0, 0, z0, 293) := by rw [cod, ctab_141]; rfl
theorem k141_293 : cod 141 293 = some (29, 40, 24, z0, 296) := by rw [cod, ctab_141]; rfl
theorem k141_296 : cod 141 296 = some (2, 1, 0, z0, 297) := by rw [cod, ctab_141]; rfl
theorem k141_297 : cod 141 297 = some (0, 0, 0, vi (1), 298) := by rw [cod, ctab_141]; rfl
theorem k141_298 : cod 141 298 = some (32, 3, 0, z0, 299) := by rw [cod, ctab_141]; rfl
theorem k141_299 : cod 141 299 = some (0, 0, 0, vi (1), 300) := by rw [cod, ctab_141]; rfl
theorem k141_300 : cod 141 300 = some (5, 2, 0, z0, 301) := by rw [cod, ctab_141]; rfl
theorem k141_301 : cod 141 301 = some (26, 424, 0, z0, 304) := by rw [cod, ctab_141]; rfl
theorem k141_304 : cod 141 304 = some (4, 0, 0, z0, 305) := by rw [cod, ctab_141]; rfl
theorem k141_305 : cod 141 305 = some (0, 0, 0, vl (1111), 308) := by rw [cod, ctab_141]; rfl
theorem k141_308 : cod 141 308 = some (34, 136, 2, vr 40 0, 311) := by rw [cod, ctab_141]; rfl
theorem k141_311 : cod 141 311 = some (27, 1, 324, z0, 314) := by rw [cod, ctab_141]; rfl
theorem k141_314 : cod 141 314 = some (4, 0, 0, z0, 315) := by rw [cod, ctab_141]; rfl
theorem k141_315 : cod 141 315 = some (0, 0, 0, vl (423), 318) := by rw [cod, ctab_141]; rfl
theorem k141_318 : cod 141 318 = some (34, 136, 2, vr 40 0, 321) := by rw [cod, ctab_141]; rfl
theorem k141_321 : cod 141 321 = some (27, 0, 357, z0, 324) := by rw [cod, ctab_141]; rfl
theorem k141_324 : cod 141 324 = some (4, 0, 0, z0, 325) := by rw [cod, ctab_141]; rfl
theorem k141_325 : cod 141 325 = some (4, 0, 0, z0, 326) := by rw [cod, ctab_141]; rfl
theorem k141_326 : cod 141 326 = some (0, 0, 0, vl (1111), 329) := by rw [cod, ctab_141]; rfl
theorem k141_329 : cod 141 329 = some (34, 136, 2, vr 40 0, 332) := by rw [cod, ctab_141]; rfl
theorem k141_332 : cod 141 332 = some (27, 0, 340, z0, 335) := by rw [cod, ctab_141]; rfl
theorem k141_335 : cod 141 335 = some (0, 0, 0, vi (26), 337) := by rw [cod, ctab_141]; rfl
theorem k141_337 : cod 141 337 = some (26, 342, 0, z0, 340) := by rw [cod, ctab_141]; rfl
theorem k141_340 : cod 141 340 = some (0, 0, 0, vi (27), 342) := by rw [cod, ctab_141]; rfl
theorem k141_342 : cod 141 342 = some (34, 139, 2, vr 40 0, 345) := by rw [cod, ctab_141]; rfl
theorem k141_345 : cod 141 345 = some (4, 0, 0, z0, 346) := by rw [cod, ctab_141]; rfl
theorem k141_346 : cod 141 346 = some (29, 40, 24, z0, 349) := by rw [cod, ctab_141]; rfl
theorem k141_349 : cod 141 349 = some (2, 1, 0, z0, 350) := by rw [cod, ctab_141]; rfl
theorem k141_350 : cod 141 350 = some (0, 0, 0, z0, 351) := by rw [cod, ctab_141]; rfl
theorem k141_351 : cod 141 351 = some (32, 3, 0, z0, 352) := by rw [cod, ctab_141]; rfl
theorem k141_352 : cod 141 352 = some (0, 0, 0, vi (1), 353) := by rw [cod, ctab_141]; rfl
theorem k141_353 : cod 141 353 = some (5, 2, 0, z0, 354) := by rw [cod, ctab_141]; rfl
theorem k141_354 : cod 141 354 = some (26, 424, 0, z0, 357) := by rw [cod, ctab_141]; rfl
theorem k141_357 : cod 141 357 = some (4, 0, 0, z0, 358) := by rw [cod, ctab_141]; rfl
theorem k141_358 : cod 141 358 = some (0, 0, 0, vi (41), 360) := by rw [cod, ctab_141]; rfl
theorem k141_360 : cod 141 360 = some (34, 137, 2, vr 40 0, 363) := by rw [cod, ctab_141]; rfl
theorem k141_363 : cod 141 363 = some (27, 0, 399, z0, 366) := by rw [cod, ctab_141]; rfl
theorem k141_366 : cod 141 366 = some (2, 1, 0, z0, 367) := by rw [cod, ctab_141]; rfl
theorem k141_367 : cod 141 367 = some (27, 5, 399, z0, 370) := by rw [cod, ctab_141]; rfl
theorem k141_370 : cod 141 370 = some (4, 0, 0, z0, 371) := by rw [cod, ctab_141]; rfl
theorem k141_371 : cod 141 371 = some (0, 0, 0, vi (29), 373) := by rw [cod, ctab_141]; rfl
theorem k141_373 : cod 141 373 = some (34, 139, 2, vr 40 0, 376) := by rw [cod, ctab_141]; rfl
theorem k141_376 : cod 141 376 = some (8, 1, 0, vi (-1), 379) := by rw [cod, ctab_141]; rfl
theorem k141_379 : cod 141 379 = some (2, 1, 0, z0, 380) := by rw [cod, ctab_141]; rfl
theorem k141_380 : cod 141 380 = some (27, 5, 424, z0, 383) := by rw [cod, ctab_141]; rfl
theorem k141_383 : cod 141 383 = some (4, 0, 0, z0, 384) := by rw [cod, ctab_141]; rfl
theorem k141_384 : cod 141 384 = some (29, 40, 23, z0, 387) := by rw [cod, ctab_141]; rfl
theorem k141_387 : cod 141 387 = some (2, 1, 0, z0, 388) := by rw [cod, ctab_141]; rfl
theorem k141_388 : cod 141 388 = some (31, 1, 0, z0, 389) := by rw [cod, ctab_141]; rfl
theorem k141_389 : cod 141 389 = some (0, 0, 0, vi (1), 390) := by rw [cod, ctab_141]; rfl
theorem k141_390 : cod 141 390 = some (28, 1, 424, z0, 393) := by rw [cod, ctab_141]; rfl
theorem k141_393 : cod 141 393 = some (8, 1, 0, vi (-1), 396) := by rw [cod, ctab_141]; rfl
theorem k141_396 : cod 141 396 = some (26, 379, 0, z0, 399) := by rw [cod, ctab_141]; rfl
theorem k141_399 : cod 141 399 = some (2, 1, 0, z0, 400) := by rw [cod, ctab_141]; rfl
theorem k141_400 : cod 141 400 = some (27, 1, 418, z0, 403) := by rw [cod, ctab_141]; rfl
theorem k141_403 : cod 141 403 = some (4, 0, 0, z0, 404) := by rw [cod, ctab_141]; rfl
theorem k141_404 : cod 141 404 = some (0, 0, 0, vi (59), 406) := by rw [cod, ctab_141]; rfl
theorem k141_406 : cod 141 406 = some (34, 137, 2, vr 40 0, 409) := by rw [cod, ctab_141]; rfl
theorem k141_409 : cod 141 409 = some (27, 0, 418, z0, 412) := by rw [cod, ctab_141]; rfl
theorem k141_412 : cod 141 412 = some (4, 0, 0, z0, 413) := by rw [cod, ctab_141]; rfl
theorem k141_413 : cod 141 413 = some (34, 135, 1, vr 40 0, 416) := by rw [cod, ctab_141]; rfl
theorem k141_416 : cod 141 416 = some (0, 0, 0, vi (1), 417) := by rw [cod, ctab_141]; rfl
theorem k141_417 : cod 141 417 = some (36, 2, 0, z0, 418) := by rw [cod, ctab_141]; rfl
theorem k141_418 : cod 141 418 = some (4, 0, 0, z0, 419) := by rw [cod, ctab_141]; rfl
theorem k141_419 : cod 141 419 = some (0, 0, 0, vi (1), 420) := by rw [cod, ctab_141]; rfl
theorem k141_420 : cod 141 420 = some (34, 138, 2, vr 40 0, 423) := by rw [cod, ctab_141]; rfl
theorem k141_423 : cod 141 423 = some (36, 2, 0, z0, 424) := by rw [cod, ctab_141]; rfl
theorem k141_424 : cod 141 424 = some (4, 0, 0, z0, 425) := by rw [cod, ctab_141]; rfl
theorem k141_425 : cod 141 425 = some (34, 135, 1, vr 40 0, 428) := by rw [cod, ctab_141]; rfl
theorem k141_428 : cod 141 428 = some (26, 11, 0, z0, 431) := by rw [cod, ctab_141]; rfl
theorem ctab_142 : ctab.getD 142 [] = cd142 := rfl
theorem k142_0 : cod 142 0 = some (4, 0, 0, z0, 1) := by rw [cod, ctab_142]; rfl
theorem k142_1 : cod 142 1 = some (29, 40, 26, z0, 4) := by rw [cod, ctab_142]; rfl
theorem k142_4 : cod 142 4 = some (2, 1, 0, z0, 5) := by rw [cod, ctab_142]; rfl
theorem k142_5 : cod 142 5 = some (0, 0, 0, z0, 6) := by rw [cod, ctab_142]; rfl
theorem k142_6 : cod 142 6 = some (32, 1, 0, z0, 7) := by rw [cod, ctab_142]; rfl
theorem k142_7 : cod 142 7 = some (4, 0, 0, z0, 8) := by rw [cod, ctab_142]; rfl
theorem k142_8 : cod 142 8 = some (29, 40, 28, z0, 11) := by rw [cod, ctab_142]; rfl
theorem k142_11 : cod 142 11 = some (2, 1, 0, z0, 12) := by rw [cod, ctab_142]; rfl
theorem k142_12 : cod 142 12 = some (0, 0, 0, z0, 13) := by rw [cod, ctab_142]; rfl
theorem k142_13 : cod 142 13 = some (32, 1, 0, z0, 14) := by rw [cod, ctab_142]; rfl
theorem k142_14 : cod 142 14 = some (4, 0, 0, z0, 15) := by rw [cod, ctab_142]; rfl
theorem k142_15 : cod 142 15 = some (29, 40, 29, z0, 18) := by rw [cod, ctab_142]; rfl
theorem k142_18 : cod 142 18 = some (2, 1, 0, z0, 19) := by rw [cod, ctab_142]; rfl
theorem k142_19 : cod 142 19 = some (0, 0, 0, z0, 20) := by rw [cod, ctab_142]; rfl
theorem k142_20 : cod 142 20 = some (32, 1, 0, z0, 21) := by rw [cod, ctab_142]; rfl
theorem k142_21 : cod 142 21 = some (4, 0, 0, z0, 22) := by rw [cod, ctab_142]; rfl
theorem k142_22 : cod 142 22 = some (29, 40, 30, z0, 25) := by rw [cod, ctab_142]; rfl
theorem k142_25 : cod 142 25 = some (2, 1, 0, z0, 26) := by rw [cod, ctab_142]; rfl
theorem k142_26 : cod 142 26 = some (0, 0, 0, vi (20), 28) := by rw [cod, ctab_142]; rfl
theorem k142_28 : cod 142 28 = some (32, 1, 0, z0, 29) := by rw [cod, ctab_142]; rfl
theorem k142_29 : cod 142 29 = some (4, 0, 0, z0, 30) := by rw [cod, ctab_142]; rfl
theorem k142_30 : cod 142 30 = some (29, 40, 32, z0, 33) := by rw [cod, ctab_142]; rfl
theorem k142_33 : cod 142 33 = some (2, 1, 0, z0, 34) := by rw [cod, ctab_142]; rfl
theorem k142_34 : cod 142 34 = some (0, 0, 0, z0, 35) := by rw [cod, ctab_142]; rfl
theorem k142_35 : cod 142 35 = some (32, 1, 0, z0, 36) := by rw [cod, ctab_142]; rfl
theorem k142_36 : cod 142 36 = some (35, 0, 0, z0, 37) := by rw [cod, ctab_142]; rfl
theorem ctab_143 : ctab.getD 143 [] = cd143 := rfl
theorem k143_0 : cod 143 0 = some (4, 0, 0, z0, 1) := by rw [cod, ctab_143]; rfl
theorem k143_1 : cod 143 1 = some (29, 40, 29, z0, 4) := by rw [cod, ctab_143]; rfl
theorem k143_4 : cod 143 4 = some (2, 1, 0, z0, 5) := by rw [cod, ctab_143]; rfl
theorem k143_5 : cod 143 5 = some (4, 0, 0, z0, 6) := by rw [cod, ctab_143]; rfl
theorem k143_6 : cod 143 6 = some (29, 40, 30, z0, 9) := by rw [cod, ctab_143]; rfl
theorem k143_9 : cod 143 9 = some (2, 1, 0, z0, 10) := by rw [cod, ctab_143]; rfl
theorem k143_10 : cod 143 10 = some (31, 1, 0, z0, 11) := by rw [cod, ctab_143]; rfl
theorem k143_11 : cod 143 11 = some (0, 0, 0, vi (21), 13) := by rw [cod, ctab_143]; rfl
theorem k143_13 : cod 143 13 = some (28, 1, 32, z0, 16) := by rw [cod, ctab_143]; rfl
theorem k143_16 : cod 143 16 = some (4, 0, 0, z0, 17) := by rw [cod, ctab_143]; rfl
theorem k143_17 : cod 143 17 = some (29, 40, 29, z0, 20) := by rw [cod, ctab_143]; rfl
theorem k143_20 : cod 143 20 = some (2, 1, 0, z0, 21) := by rw [cod, ctab_143]; rfl
theorem k143_21 : cod 143 21 = some (31, 1, 0, z0, 22) := by rw [cod, ctab_143]; rfl
theorem k143_22 : cod 143 22 = some (4, 0, 0, z0, 23) := by rw [cod, ctab_143]; rfl
theorem k143_23 : cod 143 23 = some (29, 40, 31, z0, 26) := by rw [cod, ctab_143]; rfl
theorem k143_26 : cod 143 26 = some (2, 1, 0, z0, 27) := by rw [cod, ctab_143]; rfl
theorem k143_27 : cod 143 27 = some (31, 1, 0, z0, 28) := by rw [cod, ctab_143]; rfl
theorem k143_28 : cod 143 28 = some (9, 1, 0, z0, 29) := by rw [cod, ctab_143]; rfl
theorem k143_29 : cod 143 29 = some (26, 45, 0, z0, 32) := by rw [cod, ctab_143]; rfl
theorem k143_32 : cod 143 32 = some (4, 0, 0, z0, 33) := by rw [cod, ctab_143]; rfl
theorem k143_33 : cod 143 33 = some (29, 40, 29, z0, 36) := by rw [cod, ctab_143]; rfl
theorem k143_36 : cod 143 36 = some (2, 1, 0, z0, 37) := by rw [cod, ctab_143]; rfl
theorem k143_37 : cod 143 37 = some (31, 1, 0, z0, 38) := by rw [cod, ctab_143]; rfl
theorem k143_38 : cod 143 38 = some (4, 0, 0, z0, 39) := by rw [cod, ctab_143]; rfl
theorem k143_39 : cod 143 39 = some (29, 40, 31, z0, 42) := by rw [cod, ctab_143]; rfl
theorem k143_42 : cod 143 42 = some (2, 1, 0, z0, 43) := by rw [cod, ctab_143]; rfl
theorem k143_43 : cod 143 43 = some (31, 1, 0, z0, 44) := by rw [cod, ctab_143]; rfl
theorem k143_44 : cod 143 44 = some (9, 0, 0, z0, 45) := by rw [cod, ctab_143]; rfl
theorem k143_45 : cod 143 45 = some (32, 1, 0, z0, 46) := by rw [cod, ctab_143]; rfl
theorem k143_46 : cod 143 46 = some (4, 0, 0, z0, 47) := by rw [cod, ctab_143]; rfl
theorem k143_47 : cod 143 47 = some (29, 40, 32, z0, 50) := by rw [cod, ctab_143]; rfl
theorem k143_50 : cod 143 50 = some (2, 1, 0, z0, 51) := by rw [cod, ctab_143]; rfl
theorem k143_51 : cod 143 51 = some (0, 0, 0, z0, 52) := by rw [cod, ctab_143]; rfl
theorem k143_52 : cod 143 52 = some (32, 1, 0, z0, 53) := by rw [cod, ctab_143]; rfl
theorem k143_53 : cod 143 53 = some (35, 0, 0, z0, 54) := by rw [cod, ctab_143]; rfl
theorem ctab_144 : ctab.getD 144 [] = cd144 := rfl
theorem k144_0 : cod 144 0 = some (4, 0, 0, z0, 1) := by rw [cod, ctab_144]; rfl
theorem k144_1 : cod 144 1 = some (2, 1, 0, z0, 2) := by rw [cod, ctab_144]; rfl
theorem k144_2 : cod 144 2 = some (34, 143, 2, vr 40 0, 5) := by rw [cod, ctab_144]; rfl
theorem k144_5 : cod 144 5 = some (4, 0, 0, z0, 6) := by rw [cod, ctab_144]; rfl
theorem k144_6 : cod 144 6 = some (29, 40, 29, z0, 9) := by rw [cod, ctab_144]; rfl
theorem k144_9 : cod 144 9 = some (2, 1, 0, z0, 10) := by rw [cod, ctab_144]; rfl
theorem k144_10 : cod 144 10 = some (31, 1, 0, z0, 11) := by rw [cod, ctab_144]; rfl
theorem k144_11 : cod 144 11 = some (5, 2, 0, z0, 12) := by rw [cod, ctab_144]; rfl
theorem k144_12 : cod 144 12 = some (4, 0, 0, z0, 13) := by rw [cod, ctab_144]; rfl
theorem k144_13 : cod 144 13 = some (29, 40, 28, z0, 16) := by rw [cod, ctab_144]; rfl
theorem k144_16 : cod 144 16 = some (2, 1, 0, z0, 17) := by rw [cod, ctab_144]; rfl
theorem k144_17 : cod 144 17 = some (31, 1, 0, z0, 18) := by rw [cod, ctab_144]; rfl
theorem k144_18 : cod 144 18 = some (0, 0, 0, vi (24), 20) := by rw [cod, ctab_144]; rfl
theorem k144_20 : cod 144 20 = some (28, 1, 44, z0, 23) := by rw [cod, ctab_144]; rfl
theorem k144_23 : cod 144 23 = some (4, 0, 0, z0, 24) := by rw [cod, ctab_144]; rfl
theorem k144_24 : cod 144 24 = some (29, 40, 27, z0, 27) := by rw [cod, ctab_144]; rfl
theorem k144_27 : cod 144 27 = some (2, 1, 0, z0, 28) := by rw [cod, ctab_144]; rfl
theorem k144_28 : cod 144 28 = some (31, 1, 0, z0, 29) := by rw [cod, ctab_144]; rfl
theorem k144_29 : cod 144 29 = some (4, 0, 0, z0, 30) := by rw [cod, ctab_144]; rfl
theorem k144_30 : cod 144 30 = some (29, 40, 29, z0, 33) := by rw [cod, ctab_144]; rfl
theorem k144_33 : cod 144 33 = some (2, 1, 0, z0, 34) := by rw [cod, ctab_144]; rfl
theorem k144_34 : cod 144 34 = some (31, 1, 0, z0, 35) := by rw [cod, ctab_144]; rfl
theorem k144_35 : cod 144 35 = some (28, 3, 42, z0, 38) := by rw [cod, ctab_144]; rfl
theorem k144_38 : cod 144 38 = some (0, 0, 0, vi (1), 39) := by rw [cod, ctab_144]; rfl
theorem k144_39 : cod 144 39 = some (26, 43, 0, z0, 42) := by rw [cod, ctab_144]; rfl
theorem k144_42 : cod 144 42 = some (0, 0, 0, z0, 43) := by rw [cod, ctab_144]; rfl
theorem k144_43 : cod 144 43 = some (5, 2, 0, z0, 44) := by rw [cod, ctab_144]; rfl
theorem k144_44 : cod 144 44 = some (4, 0, 0, z0, 45) := by rw [cod, ctab_144]; rfl
theorem k144_45 : cod 144 45 = some (29, 40, 28, z0, 48) := by rw [cod, ctab_144]; rfl
theorem k144_48 : cod 144 48 = some (2, 1, 0, z0, 49) := by rw [cod, ctab_144]; rfl
theorem k144_49 : cod 144 49 = some (31, 1, 0, z0, 50) := by rw [cod, ctab_144]; rfl
theorem k144_50 : cod 144 50 = some (0, 0, 0, vi (25), 52) := by rw [cod, ctab_144]; rfl
theorem k144_52 : cod 144 52 = some (28, 1, 76, z0, 55) := by rw [cod, ctab_144]; rfl
theorem k144_55 : cod 144 55 = some (4, 0, 0, z0, 56) := by rw [cod, ctab_144]; rfl
theorem k144_56 : cod 144 56 = some (29, 40, 27, z0, 59) := by rw [cod, ctab_144]; rfl
theorem k144_59 : cod 144 59 = some (2, 1, 0, z0, 60) := by rw [cod, ctab_144]; rfl
theorem k144_60 : cod 144 60 = some (31, 1, 0, z0, 61) := by rw [cod, ctab_144]; rfl
theorem k144_61 : cod 144 61 = some (4, 0, 0, z0, 62) := by rw [cod, ctab_144]; rfl
theorem k144_62 : cod 144 62 = some (29, 40, 29, z0, 65) := by rw [cod, ctab_144]; rfl
theorem k144_65 : cod 144 65 = some (2, 1, 0, z0, 66) := by rw [cod, ctab_144]; rfl
theorem k144_66 : cod 144 66 = some (31, 1, 0, z0, 67) := by rw [cod, ctab_144]; rfl
theorem k144_67 : cod 144 67 = some (28, 1, 74, z0, 70) := by rw [cod, ctab_144]; rfl
theorem k144_70 : cod 144 70 = some (0, 0, 0, vi (1), 71) := by rw [cod, ctab_144]; rfl
theorem k144_71 : cod 144 71 = some (26, 75, 0, z0, 74) := by rw [cod, ctab_144]; rfl
theorem k144_74 : cod 144 74 = some (0, 0, 0, z0, 75) := by rw [cod, ctab_144]; rfl
theorem k144_75 : cod 144 75 = some (5, 2, 0, z0, 76) := by rw [cod, ctab_144]; rfl
theorem k144_76 : cod 144 76 = some (4, 0, 0, z0, 77) := by rw [cod, ctab_144]; rfl
theorem k144_77 : cod 144 77 = some (29, 40, 26, z0, 80) := by rw [cod, ctab_144]; rfl
theorem k144_80 : cod 144 80 = some (2, 1, 0, z0, 81) := by rw [cod, ctab_144]; rfl
theorem k144_81 : cod 144 81 = some (31, 1, 0, z0, 82) := by rw [cod, ctab_144]; rfl
theorem k144_82 : cod 144 82 = some (0, 0, 0, vi (26), 84) := by rw [cod, ctab_144]; rfl
theorem k144_84 : cod 144 84 = some (28, 1, 106, z0, 87) := by rw [cod, ctab_144]; rfl
theorem k144_87 : cod 144 87 = some (4, 0, 0, z0, 88) := by rw [cod, ctab_144]; rfl
theorem k144_88 : cod 144 88 = some (29, 40, 25, z0, 91) := by rw [cod, ctab_144]; rfl
theorem k144_91 : cod 144 91 = some (2, 1, 0, z0, 92) := by rw [cod, ctab_144]; rfl
theorem k144_92 : cod 144 92 = some (31, 1, 0, z0, 93) := by rw [cod, ctab_144]; rfl
theorem k144_93 : cod 144 93 = some (27, 0, 104, z0, 96) := by rw [cod, ctab_144]; rfl
theorem k144_96 : cod 144 96 = some (2, 2, 0, z0, 97) := by rw [cod, ctab_144]; rfl
theorem k144_97 : cod 144 97 = some (27, 0, 104, z0, 100) := by rw [cod, ctab_144]; rfl
theorem k144_100 : cod 144 100 = some (0, 0, 0, vi (1), 101) := by rw [cod, ctab_144]; rfl
theorem k144_101 : cod 144 101 = some (26, 105, 0, z0, 104) := by rw [cod, ctab_144]; rfl
theorem k144_104 : cod 144 104 = some (0, 0, 0, z0, 105) := by rw [cod, ctab_144]; rfl
theorem k144_105 : cod 144 105 = some (5, 2, 0, z0, 106) := by rw [cod, ctab_144]; rfl
theorem k144_106 : cod 144 106 = some (4, 0, 0, z0, 107) := by rw [cod, ctab_144]; rfl
theorem k144_107 : cod 144 107 = some (29, 40, 26, z0, 110) := by rw [cod, ctab_144]; rfl
theorem k144_110 : cod 144 110 = some (2, 1, 0, z0, 111) := by rw [cod, ctab_144]; rfl
theorem k144_111 : cod 144 111 = some (31, 1, 0, z0, 112) := by rw [cod, ctab_144]; rfl
theorem k144_112 : cod 144 112 = some (0, 0, 0, vi (27), 114) := by rw [cod, ctab_144]; rfl
theorem k144_114 : cod 144 114 = some (28, 1, 136, z0, 117) := by rw [cod, ctab_144]; rfl
theorem k144_117 : cod 144 117 = some (4, 0, 0, z0, 118) := by rw [cod, ctab_144]; rfl
theorem k144_118 : cod 144 118 = some (29, 40, 25, z0, 121) := by rw [cod, ctab_144]; rfl
theorem k144_121 : cod 144 121 = some (2, 1, 0, z0, 122) := by rw [cod, ctab_144]; rfl
theorem k144_122 : cod 144 122 = some (31, 1, 0, z0, 123) := by rw [cod, ctab_144]; rfl
theorem k144_123 : cod 144 123 = some (27, 1, 130, z0, 126) := by rw [cod, ctab_144]; rfl
theorem k144_126 : cod 144 126 = some (2, 2, 0, z0, 127) := by rw [cod, ctab_144]; rfl
theorem k144_127 : cod 144 127 = some (27, 0, 134, z0, 130) := by rw [cod, ctab_144]; rfl
theorem k144_130 : cod 144 130 = some (0, 0, 0, vi (1), 131) := by rw [cod, ctab_144]; rfl
theorem k144_131 : cod 144 131 = some (26, 135, 0, z0, 134) := by rw [cod, ctab_144]; rfl
theorem k144_134 : cod 144 134 = some (0, 0, 0, z0, 135) := by rw [cod, ctab_144]; rfl
theorem k144_135 : cod 144 135 = some (5, 2, 0, z0, 136) := by rw [cod, ctab_144]; rfl
theorem k144_136 : cod 144 136 = some (4, 0, 0, z0, 137) := by rw [cod, ctab_144]; rfl
theorem k144_137 : cod 144 137 = some (29, 40, 25, z0, 140) := by rw [cod, ctab_144]; rfl
theorem k144_140 : cod 144 140 = some (2, 1, 0, z0, 141) := by rw [cod, ctab_144]; rfl
theorem k144_141 : cod 144 141 = some (2, 2, 0, z0, 142) := by rw [cod, ctab_144]; rfl
theorem k144_142 : cod 144 142 = some (32, 1, 0, z0, 143) := by rw [cod, ctab_144]; rfl
theorem k144_143 : cod 144 143 = some (4, 0, 0, z0, 144) := by rw [cod, ctab_144]; rfl
theorem k144_144 : cod 144 144 = some (29, 40, 28, z0, 147) := by rw [cod, ctab_144]; rfl
theorem k144_147 : cod 144 147 = some (2, 1, 0, z0, 148) := by rw [cod, ctab_144]; rfl
theorem k144_148 : cod 144 148 = some (0, 0, 0, z0, 149) := by rw [cod, ctab_144]; rfl
theorem k144_149 : cod 144 149 = some (32, 1, 0, z0, 150) := by rw [cod, ctab_144]; rfl
theorem k144_150 : cod 144 150 = some (4, 0, 0, z0, 151) := by rw [cod, ctab_144]; rfl
theorem k144_151 : cod 144 151 = some (29, 40, 29, z0, 154) := by rw [cod, ctab_144]; rfl
theorem k144_154 : cod 144 154 = some (2, 1, 0, z0, 155) := by rw [cod, ctab_144]; rfl
theorem k144_155 : cod 144 155 = some (0, 0, 0, z0, 156) := by rw [cod, ctab_144]; rfl
theorem k144_156 : cod 144 156 = some (32, 1, 0, z0, 157) := by rw [cod, ctab_144]; rfl
theorem k144_157 : cod 144 157 = some (4, 0, 0, z0, 158) := by rw [cod, ctab_144]; rfl
theorem k144_158 : cod 144 158 = some (29, 40, 30, z0, 161) := by rw [cod, ctab_144]; rfl
theorem k144_161 : cod 144 161 = some (2, 1, 0, z0, 162) := by rw [cod, ctab_144]; rfl
theorem k144_162 : cod 144 162 = some (0, 0, 0, vi (20), 164) := by rw [cod, ctab_144]; rfl
theorem k144_164 : cod 144 164 = some (32, 1, 0, z0, 165) := by rw [cod, ctab_144]; rfl
theorem k144_165 : cod 144 165 = some (35, 0, 0, z0, 166) := by rw [cod, ctab_144]; rfl
theorem ctab_145 : ctab.getD 145 [] = cd145 := rfl
theorem k145_0 : cod 145 0 = some (0, 0, 0, z0, 1) := by rw [cod, ctab_145]; rfl
theorem k145_1 : cod 145 1 = some (5, 2, 0, z0, 2) := by rw [cod, ctab_145]; rfl
theorem k145_2 : cod 145 2 = some (4, 0, 0, z0, 3) := by rw [cod, ctab_145]; rfl
theorem k145_3 : cod 145 3 = some (0, 0, 0, z0, 4) := by rw [cod, ctab_145]; rfl
theorem k145_4 : cod 145 4 = some (34, 142, 2, vr 40 0, 7) := by rw [cod, ctab_145]; rfl
theorem k145_7 : cod 145 7 = some (4, 0, 0, z0, 8) := by rw [cod, ctab_145]; rfl
theorem k145_8 : cod 145 8 = some (29, 40, 18, z0, 11) := by rw [cod, ctab_145]; rfl
theorem k145_11 : cod 145 11 = some (2, 1, 0, z0, 12) := by rw [cod, ctab_145]; rfl
theorem k145_12 : cod 145 12 = some (31, 1, 0, z0, 13) := by rw [cod, ctab_145]; rfl
theorem k145_13 : cod 145 13 = some (5, 3, 0, z0, 14) := by rw [cod, ctab_145]; rfl
theorem k145_14 : cod 145 14 = some (2, 3, 0, z0, 15) := by rw [cod, ctab_145]; rfl
theorem k145_15 : cod 145 15 = some (4, 0, 0, z0, 16) := by rw [cod, ctab_145]; rfl
theorem k145_16 : cod 145 16 = some (29, 40, 19, z0, 19) := by rw [cod, ctab_145]; rfl
theorem k145_19 : cod 145 19 = some (2, 1, 0, z0, 20) := by rw [cod, ctab_145]; rfl
theorem k145_20 : cod 145 20 = some (31, 1, 0, z0, 21) := by rw [cod, ctab_145]; rfl
theorem k145_21 : cod 145 21 = some (28, 3, 335, z0, 24) := by rw [cod, ctab_145]; rfl
theorem k145_24 : cod 145 24 = some (4, 0, 0, z0, 25) := by rw [cod, ctab_145]; rfl
theorem k145_25 : cod 145 25 = some (29, 40, 20, z0, 28) := by rw [cod, ctab_145]; rfl
theorem k145_28 : cod 145 28 = some (2, 3, 0, z0, 29) := by rw [cod, ctab_145]; rfl
theorem k145_29 : cod 145 29 = some (31, 1, 0, z0, 30) := by rw [cod, ctab_145]; rfl
theorem k145_30 : cod 145 30 = some (5, 4, 0, z0, 32) := by rw [cod, ctab_145]; rfl
theorem k145_32 : cod 145 32 = some (2, 4, 0, z0, 34) := by rw [cod, ctab_145]; rfl
theorem k145_34 : cod 145 34 = some (0, 0, 0, vi (28), 36) := by rw [cod, ctab_145]; rfl
theorem k145_36 : cod 145 36 = some (28, 0, 46, z0, 39) := by rw [cod, ctab_145]; rfl
theorem k145_39 : cod 145 39 = some (2, 4, 0, z0, 41) := by rw [cod, ctab_145]; rfl
theorem k145_41 : cod 145 41 = some (0, 0, 0, vi (30), 43) := by rw [cod, ctab_145]; rfl
theorem k145_43 : cod 145 43 = some (28, 1, 75, z0, 46) := by rw [cod, ctab_145]; rfl
theorem k145_46 : cod 145 46 = some (8, 2, 0, vi (1), 49) := by rw [cod, ctab_145]; rfl
theorem k145_49 : cod 145 49 = some (4, 0, 0, z0, 50) := by rw [cod, ctab_145]; rfl
theorem k145_50 : cod 145 50 = some (29, 40, 33, z0, 53) := by rw [cod, ctab_145]; rfl
theorem k145_53 : cod 145 53 = some (2, 2, 0, z0, 54) := by rw [cod, ctab_145]; rfl
theorem k145_54 : cod 145 54 = some (2, 4, 0, z0, 56) := by rw [cod, ctab_145]; rfl
theorem k145_56 : cod 145 56 = some (0, 0, 0, vi (30), 58) := by rw [cod, ctab_145]; rfl
theorem k145_58 : cod 145 58 = some (28, 1, 65, z0, 61) := by rw [cod, ctab_145]; rfl
theorem k145_61 : cod 145 61 = some (0, 0, 0, vi (1), 62) := by rw [cod, ctab_145]; rfl
theorem k145_62 : cod 145 62 = some (26, 66, 0, z0, 65) := by rw [cod, ctab_145]; rfl
theorem k145_65 : cod 145 65 = some (0, 0, 0, z0, 66) := by rw [cod, ctab_145]; rfl
theorem k145_66 : cod 145 66 = some (32, 1, 0, z0, 67) := by rw [cod, ctab_145]; rfl
theorem k145_67 : cod 145 67 = some (4, 0, 0, z0, 68) := by rw [cod, ctab_145]; rfl
theorem k145_68 : cod 145 68 = some (2, 2, 0, z0, 69) := by rw [cod, ctab_145]; rfl
theorem k145_69 : cod 145 69 = some (34, 142, 2, vr 40 0, 72) := by rw [cod, ctab_145]; rfl
theorem k145_72 : cod 145 72 = some (26, 329, 0, z0, 75) := by rw [cod, ctab_145]; rfl
theorem k145_75 : cod 145 75 = some (2, 4, 0, z0, 77) := by rw [cod, ctab_145]; rfl
theorem k145_77 : cod 145 77 = some (0, 0, 0, vi (20), 79) := by rw [cod, ctab_145]; rfl
theorem k145_79 : cod 145 79 = some (28, 0, 89, z0, 82) := by rw [cod, ctab_145]; rfl
theorem k145_82 : cod 145 82 = some (2, 4, 0, z0, 84) := by rw [cod, ctab_145]; rfl
theorem k145_84 : cod 145 84 = some (0, 0, 0, vi (21), 86) := by rw [cod, ctab_145]; rfl
theorem k145_86 : cod 145 86 = some (28, 1, 105, z0, 89) := by rw [cod, ctab_145]; rfl
theorem k145_89 : cod 145 89 = some (4, 0, 0, z0, 90) := by rw [cod, ctab_145]; rfl
theorem k145_90 : cod 145 90 = some (2, 2, 0, z0, 91) := by rw [cod, ctab_145]; rfl
theorem k145_91 : cod 145 91 = some (34, 143, 2, vr 40 0, 94) := by rw [cod, ctab_145]; rfl
theorem k145_94 : cod 145 94 = some (4, 0, 0, z0, 95) := by rw [cod, ctab_145]; rfl
theorem k145_95 : cod 145 95 = some (29, 40, 30, z0, 98) := by rw [cod, ctab_145]; rfl
theorem k145_98 : cod 145 98 = some (2, 2, 0, z0, 99) := by rw [cod, ctab_145]; rfl
theorem k145_99 : cod 145 99 = some (2, 4, 0, z0, 101) := by rw [cod, ctab_145]; rfl
theorem k145_101 : cod 145 101 = some (32, 1, 0, z0, 102) := by rw [cod, ctab_145]; rfl
theorem k145_102 : cod 145 102 = some (26, 329, 0, z0, 105) := by rw [cod, ctab_145]; rfl
theorem k145_105 : cod 145 105 = some (2, 4, 0, z0, 107) := by rw [cod, ctab_145]; rfl
theorem k145_107 : cod 145 107 = some (0, 0, 0, vi (22), 109) := by rw [cod, ctab_145]; rfl
theorem k145_109 : cod 145 109 = some (28, 1, 123, z0, 112) := by rw [cod, ctab_145]; rfl
theorem k145_112 : cod 145 112 = some (4, 0, 0, z0, 113) := by rw [cod, ctab_145]; rfl
theorem k145_113 : cod 145 113 = some (29, 40, 32, z0, 116) := by rw [cod, ctab_145]; rfl
theorem k145_116 : cod 145 116 = some (2, 2, 0, z0, 117) := by rw [cod, ctab_145]; rfl
theorem k145_117 : cod 145 117 = some (2, 4, 0, z0, 119) := by rw [cod, ctab_145]; rfl
theorem k145_119 : cod 145 119 = some (32, 1, 0, z0, 120) := by rw [cod, ctab_145]; rfl
theorem k145_120 : cod 145 120 = some (26, 329, 0, z0, 123) := by rw [cod, ctab_145]; rfl
theorem k145_123 : cod 145 123 = some (2, 4, 0, z0, 125) := by rw [cod, ctab_145]; rfl
theorem k145_125 : cod 145 125 = some (0, 0, 0, vi (24), 127) := by rw [cod, ctab_145]; rfl
theorem k145_127 : cod 145 127 = some (28, 0, 137, z0, 130) := by rw [cod, ctab_145]; rfl
theorem k145_130 : cod 145 130 = some (2, 4, 0, z0, 132) := by rw [cod, ctab_145]; rfl
theorem k145_132 : cod 145 132 = some (0, 0, 0, vi (25), 134) := by rw [cod, ctab_145]; rfl
theorem k145_134 : cod 145 134 = some (28, 1, 180, z0, 137) := by rw [cod, ctab_145]; rfl
theorem k145_137 : cod 145 137 = some (4, 0, 0, z0, 138) := by rw [cod, ctab_145]; rfl
theorem k145_138 : cod 145 138 = some (2, 2, 0, z0, 139) := by rw [cod, ctab_145]; rfl
theorem k145_139 : cod 145 139 = some (34, 143, 2, vr 40 0, 142) := by rw [cod, ctab_145]; rfl
theorem k145_142 : cod 145 142 = some (4, 0, 0, z0, 143) := by rw [cod, ctab_145]; rfl
theorem k145_143 : cod 145 143 = some (29, 40, 27, z0, 146) := by rw [cod, ctab_145]; rfl
theorem k145_146 : cod 145 146 = some (2, 2, 0, z0, 147) := by rw [cod, ctab_145]; rfl
theorem k145_147 : cod 145 147 = some (4, 0, 0, z0, 148) := by rw [cod, ctab_145]; rfl
theorem k145_148 : cod 145 148 = some (29, 40, 29, z0, 151) := by rw [cod, ctab_145]; rfl
theorem k145_151 : cod 145 151 = some (2, 2, 0, z0, 152) := by rw [cod, ctab_145]; rfl
theorem k145_152 : cod 145 152 = some (31, 1, 0, z0, 153) := by rw [cod, ctab_145]; rfl
theorem k145_153 : cod 145 153 = some (32, 1, 0, z0, 154) := by rw [cod, ctab_145]; rfl
theorem k145_154 : cod 145 154 = some (4, 0, 0, z0, 155) := by rw [cod, ctab_145]; rfl
theorem k145_155 : cod 145 155 = some (29, 40, 28, z0, 158) := by rw [cod, ctab_145]; rfl
theorem k145_158 : cod 145 158 = some (2, 2, 0, z0, 159) := by rw [cod, ctab_145]; rfl
theorem k145_159 : cod 145 159 = some (2, 4, 0, z0, 161) := by rw [cod, ctab_145]; rfl
theorem k145_161 : cod 145 161 = some (32, 1, 0, z0, 162) := by rw [cod, ctab_145]; rfl
theorem k145_162 : cod 145 162 = some (4, 0, 0, z0, 163) := by rw [cod, ctab_145]; rfl
theorem k145_163 : cod 145 163 = some (29, 40, 29, z0, 166) := by rw [cod, ctab_145]; rfl
theorem k145_166 : cod 145 166 = some (2, 2, 0, z0, 167) := by rw [cod, ctab_145]; rfl
theorem k145_167 : cod 145 167 = some (0, 0, 0, z0, 168) := by rw [cod, ctab_145]; rfl
theorem k145_168 : cod 145 168 = some (32, 1, 0, z0, 169) := by rw [cod, ctab_145]; rfl
theorem k145_169 : cod 145 169 = some (4, 0, 0, z0, 170) := by rw [cod, ctab_145]; rfl
theorem k145_170 : cod 145 170 = some (29, 40, 30, z0, 173) := by rw [cod, ctab_145]; rfl
theorem k145_173 : cod 145 173 = some (2, 2, 0, z0, 174) := by rw [cod, ctab_145]; rfl
theorem k145_174 : cod 145 174 = some (0, 0, 0, vi (20), 176) := by rw [cod, ctab_145]; rfl
theorem k145_176 : cod 145 176 = some (32, 1, 0, z0, 177) := by rw [cod, ctab_145]; rfl
theorem k145_177 : cod 145 177 = some (26, 329, 0, z0, 180) := by rw [cod, ctab_145]; rfl
theorem k145_180 : cod 145 180 = some (2, 4, 0, z0, 182) := by rw [cod, ctab_145]; rfl
theorem k145_182 : cod 145 182 = some (0, 0, 0, vi (26), 184) := by rw [cod, ctab_145]; rfl
theorem k145_184 : cod 145 184 = some (28, 0, 194, z0, 187) := by rw [cod, ctab_145]; rfl
theorem k145_187 : cod 145 187 = some (2, 4, 0, z0, 189) := by rw [cod, ctab_145]; rfl
theorem k145_189 : cod 145 189 = some (0, 0, 0, vi (27), 191) := by rw [cod, ctab_145]; rfl
theorem k145_191 : cod 145 191 = some (28, 1, 210, z0, 194) := by rw [cod, ctab_145]; rfl
theorem k145_194 : cod 145 194 = some (4, 0, 0, z0, 195) := by rw [cod, ctab_145]; rfl
theorem k145_195 : cod 145 195 = some (2, 2, 0, z0, 196) := by rw [cod, ctab_145]; rfl
theorem k145_196 : cod 145 196 = some (34, 144, 2, vr 40 0, 199) := by rw [cod, ctab_145]; rfl
theorem k145_199 : cod 145 199 = some (4, 0, 0, z0, 200) := by rw [cod, ctab_145]; rfl
theorem k145_200 : cod 145 200 = some (29, 40, 26, z0, 203) := by rw [cod, ctab_145]; rfl
theorem k145_203 : cod 145 203 = some (2, 2, 0, z0, 204) := by rw [cod, ctab_145]; rfl
theorem k145_204 : cod 145 204 = some (2, 4, 0, z0, 206) := by rw [cod, ctab_145]; rfl
theorem k145_206 : cod 145 206 = some (32, 1, 0, z0, 207) := by rw [cod, ctab_145]; rfl
theorem k145_207 : cod 145 207 = some (26, 329, 0, z0, 210) := by rw [cod, ctab_145]; rfl
theorem k145_210 : cod 145 210 = some (2, 4, 0, z0, 212) := by rw [cod, ctab_145]; rfl
theorem k145_212 : cod 145 212 = some (0, 0, 0, vi (100), 214) := by rw [cod, ctab_145]; rfl
theorem k145_214 : cod 145 214 = some (28, 2, 225, z0, 217) := by rw [cod, ctab_145]; rfl
theorem k145_217 : cod 145 217 = some (2, 4, 0, z0, 219) := by rw [cod, ctab_145]; rfl
theorem k145_219 : cod 145 219 = some (0, 0, 0, vi (100), 221) := by rw [cod, ctab_145]; rfl
theorem k145_221 : cod 145 221 = some (9, 1, 0, z0, 222) := by rw [cod, ctab_145]; rfl
theorem k145_222 : cod 145 222 = some (26, 243, 0, z0, 225) := by rw [cod, ctab_145]; rfl
theorem k145_225 : cod 145 225 = some (2, 4, 0, z0, 227) := by rw [cod, ctab_145]; rfl
theorem k145_227 : cod 145 227 = some (0, 0, 0, vi (20), 229) := by rw [cod, ctab_145]; rfl
theorem k145_229 : cod 145 229 = some (28, 3, 242, z0, 232) := by rw [cod, ctab_145]; rfl
theorem k145_232 : cod 145 232 = some (4, 0, 0, z0, 233) := by rw [cod, ctab_145]; rfl
theorem k145_233 : cod 145 233 = some (29, 40, 34, z0, 236) := by rw [cod, ctab_145]; rfl
theorem k145_236 : cod 145 236 = some (2, 4, 0, z0, 238) := by rw [cod, ctab_145]; rfl
theorem k145_238 : cod 145 238 = some (31, 1, 0, z0, 239) := by rw [cod, ctab_145]; rfl
theorem k145_239 : cod 145 239 = some (26, 243, 0, z0, 242) := by rw [cod, ctab_145]; rfl
theorem k145_242 : cod 145 242 = some (0, 0, 0, z0, 243) := by rw [cod, ctab_145]; rfl
theorem k145_243 : cod 145 243 = some (5, 5, 0, z0, 245) := by rw [cod, ctab_145]; rfl
theorem k145_245 : cod 145 245 = some (2, 4, 0, z0, 247) := by rw [cod, ctab_145]; rfl
theorem k145_247 : cod 145 247 = some (0, 0, 0, vi (29), 249) := by rw [cod, ctab_145]; rfl
theorem k145_249 : cod 145 249 = some (28, 1, 268, z0, 252) := by rw [cod, ctab_145]; rfl
theorem k145_252 : cod 145 252 = some (4, 0, 0, z0, 253) := by rw [cod, ctab_145]; rfl
theorem k145_253 : cod 145 253 = some (2, 2, 0, z0, 254) := by rw [cod, ctab_145]; rfl
theorem k145_254 : cod 145 254 = some (34, 144, 2, vr 40 0, 257) := by rw [cod, ctab_145]; rfl
theorem k145_257 : cod 145 257 = some (4, 0, 0, z0, 258) := by rw [cod, ctab_145]; rfl
theorem k145_258 : cod 145 258 = some (29, 40, 25, z0, 261) := by rw [cod, ctab_145]; rfl
theorem k145_261 : cod 145 261 = some (2, 2, 0, z0, 262) := by rw [cod, ctab_145]; rfl
theorem k145_262 : cod 145 262 = some (31, 1, 0, z0, 263) := by rw [cod, ctab_145]; rfl
theorem k145_263 : cod 145 263 = some (5, 5, 0, z0, 265) := by rw [cod, ctab_145]; rfl
theorem k145_265 : cod 145 265 = some (8, 2, 0, vi (-1), 268) := by rw [cod, ctab_145]; rfl
theorem k145_268 : cod 145 268 = some (2, 2, 0, z0, 269) := by rw [cod, ctab_145]; rfl
theorem k145_269 : cod 145 269 = some (27, 5, 300, z0, 272) := by rw [cod, ctab_145]; rfl
theorem k145_272 : cod 145 272 = some (4, 0, 0, z0, 273) := by rw [cod, ctab_145]; rfl
theorem k145_273 : cod 145 273 = some (29, 40, 33, z0, 276) := by rw [cod, ctab_145]; rfl
theorem k145_276 : cod 145 276 = some (2, 2, 0, z0, 277) := by rw [cod, ctab_145]; rfl
theorem k145_277 : cod 145 277 = some (31, 1, 0, z0, 278) := by rw [cod, ctab_145]; rfl
theorem k145_278 : cod 145 278 = some (0, 0, 0, vi (1), 279) := by rw [cod, ctab_145]; rfl
theorem k145_279 : cod 145 279 = some (28, 1, 300, z0, 282) := by rw [cod, ctab_145]; rfl
theorem k145_282 : cod 145 282 = some (2, 5, 0, z0, 284) := by rw [cod, ctab_145]; rfl
theorem k145_284 : cod 145 284 = some (27, 1, 291, z0, 287) := by rw [cod, ctab_145]; rfl
theorem k145_287 : cod 145 287 = some (0, 0, 0, vi (1), 288) := by rw [cod, ctab_145]; rfl
theorem k145_288 : cod 145 288 = some (26, 292, 0, z0, 291) := by rw [cod, ctab_145]; rfl
theorem k145_291 : cod 145 291 = some (0, 0, 0, z0, 292) := by rw [cod, ctab_145]; rfl
theorem k145_292 : cod 145 292 = some (5, 5, 0, z0, 294) := by rw [cod, ctab_145]; rfl
theorem k145_294 : cod 145 294 = some (8, 2, 0, vi (-1), 297) := by rw [cod, ctab_145]; rfl
theorem k145_297 : cod 145 297 = some (26, 268, 0, z0, 300) := by rw [cod, ctab_145]; rfl
theorem k145_300 : cod 145 300 = some (4, 0, 0, z0, 301) := by rw [cod, ctab_145]; rfl
theorem k145_301 : cod 145 301 = some (29, 40, 31, z0, 304) := by rw [cod, ctab_145]; rfl
theorem k145_304 : cod 145 304 = some (2, 2, 0, z0, 305) := by rw [cod, ctab_145]; rfl
theorem k145_305 : cod 145 305 = some (4, 0, 0, z0, 306) := by rw [cod, ctab_145]; rfl
theorem k145_306 : cod 145 306 = some (29, 40, 32, z0, 309) := by rw [cod, ctab_145]; rfl
theorem k145_309 : cod 145 309 = some (2, 2, 0, z0, 310) := by rw [cod, ctab_145]; rfl
theorem k145_310 : cod 145 310 = some (31, 1, 0, z0, 311) := by rw [cod, ctab_145]; rfl
theorem k145_311 : cod 145 311 = some (27, 1, 319, z0, 314) := by rw [cod, ctab_145]; rfl
theorem k145_314 : cod 145 314 = some (2, 5, 0, z0, 316) := by rw [cod, ctab_145]; rfl
theorem k145_316 : cod 145 316 = some (26, 328, 0, z0, 319) := by rw [cod, ctab_145]; rfl
theorem k145_319 : cod 145 319 = some (4, 0, 0, z0, 320) := by rw [cod, ctab_145]; rfl
theorem k145_320 : cod 145 320 = some (29, 40, 31, z0, 323) := by rw [cod, ctab_145]; rfl
theorem k145_323 : cod 145 323 = some (2, 2, 0, z0, 324) := by rw [cod, ctab_145]; rfl
theorem k145_324 : cod 145 324 = some (31, 1, 0, z0, 325) := by rw [cod, ctab_145]; rfl
theorem k145_325 : cod 145 325 = some (2, 5, 0, z0, 327) := by rw [cod, ctab_145]; rfl
theorem k145_327 : cod 145 327 = some (9, 2, 0, z0, 328) := by rw [cod, ctab_145]; rfl
theorem k145_328 : cod 145 328 = some (32, 1, 0, z0, 329) := by rw [cod, ctab_145]; rfl
theorem k145_329 : cod 145 329 = some (8, 3, 0, vi (1), 332) := by rw [cod, ctab_145]; rfl
theorem k145_332 : cod 145 332 = some (26, 14, 0, z0, 335) := by rw [cod, ctab_145]; rfl
theorem k145_335 : cod 145 335 = some (4, 0, 0, z0, 336) := by rw [cod, ctab_145]; rfl
theorem k145_336 : cod 145 336 = some (0, 0, 0, z0, 337) := by rw [cod, ctab_145]; rfl
theorem k145_337 : cod 145 337 = some (34, 144, 2, vr 40 0, 340) := by rw [cod, ctab_145]; rfl
theorem k145_340 : cod 145 340 = some (4, 0, 0, z0, 341) := by rw [cod, ctab_145]; rfl
theorem k145_341 : cod 145 341 = some (29, 40, 25, z0, 344) := by rw [cod, ctab_145]; rfl
theorem k145_344 : cod 145 344 = some (0, 0, 0, z0, 345) := by rw [cod, ctab_145]; rfl
theorem k145_345 : cod 145 345 = some (31, 1, 0, z0, 346) := by rw [cod, ctab_145]; rfl
theorem k145_346 : cod 145 346 = some (36, 1, 0, z0, 347) := by rw [cod, ctab_145]; rfl
theorem ctab_146 : ctab.getD 146 [] = cd146 := rfl
theorem k146_0 : cod 146 0 = some (4, 0, 0, z0, 1) := by rw [cod, ctab_146]; rfl
theorem k146_1 : cod 146 1 = some (29, 40, 6, z0, 4) := by rw [cod, ctab_146]; rfl
theorem k146_4 : cod 146 4 = some (0, 0, 0, vi (1), 5) := by rw [cod, ctab_146]; rfl
theorem k146_5 : cod 146 5 = some (28, 0, 10, z0, 8) := by rw [cod, ctab_146]; rfl
theorem k146_8 : cod 146 8 = some (0, 0, 0, vi (1), 9) := by rw [cod, ctab_146]; rfl
theorem k146_9 : cod 146 9 = some (36, 2, 0, z0, 10) := by rw [cod, ctab_146]; rfl
theorem k146_10 : cod 146 10 = some (4, 0, 0, z0, 11) := by rw [cod, ctab_146]; rfl
theorem k146_11 : cod 146 11 = some (29, 40, 7, z0, 14) := by rw [cod, ctab_146]; rfl
theorem k146_14 : cod 146 14 = some (0, 0, 0, vl (283616147), 17) := by rw [cod, ctab_146]; rfl
theorem k146_17 : cod 146 17 = some (18, 0, 0, z0, 18) := by rw [cod, ctab_146]; rfl
theorem k146_18 : cod 146 18 = some (27, 0, 230, z0, 21) := by rw [cod, ctab_146]; rfl
theorem k146_21 : cod 146 21 = some (4, 0, 0, z0, 22) := by rw [cod, ctab_146]; rfl
theorem k146_22 : cod 146 22 = some (29, 40, 7, z0, 25) := by rw [cod, ctab_146]; rfl
theorem k146_25 : cod 146 25 = some (0, 0, 0, vl (237308), 28) := by rw [cod, ctab_146]; rfl
theorem k146_28 : cod 146 28 = some (18, 0, 0, z0, 29) := by rw [cod, ctab_146]; rfl
theorem k146_29 : cod 146 29 = some (27, 0, 230, z0, 32) := by rw [cod, ctab_146]; rfl
theorem k146_32 : cod 146 32 = some (4, 0, 0, z0, 33) := by rw [cod, ctab_146]; rfl
theorem k146_33 : cod 146 33 = some (29, 40, 7, z0, 36) := by rw [cod, ctab_146]; rfl
theorem k146_36 : cod 146 36 = some (0, 0, 0, vl (232608281), 39) := by rw [cod, ctab_146]; rfl
theorem k146_39 : cod 146 39 = some (18, 0, 0, z0, 40) := by rw [cod, ctab_146]; rfl
theorem k146_40 : cod 146 40 = some (27, 0, 230, z0, 43) := by rw [cod, ctab_146]; rfl
theorem k146_43 : cod 146 43 = some (4, 0, 0, z0, 44) := by rw [cod, ctab_146]; rfl
theorem k146_44 : cod 146 44 = some (29, 40, 7, z0, 47) := by rw [cod, ctab_146]; rfl
theorem k146_47 : cod 146 47 = some (0, 0, 0, vl (47), 50) := by rw [cod, ctab_146]; rfl
theorem k146_50 : cod 146 50 = some (18, 0, 0, z0, 51) := by rw [cod, ctab_146]; rfl
theorem k146_51 : cod 146 51 = some (27, 0, 230, z0, 54) := by rw [cod, ctab_146]; rfl
theorem k146_54 : cod 146 54 = some (4, 0, 0, z0, 55) := by rw [cod, ctab_146]; rfl
theorem k146_55 : cod 146 55 = some (29, 40, 7, z0, 58) := by rw [cod, ctab_146]; rfl
theorem k146_58 : cod 146 58 = some (0, 0, 0, vl (240023), 61) := by rw [cod, ctab_146]; rfl
theorem k146_61 : cod 146 61 = some (18, 0, 0, z0, 62) := by rw [cod, ctab_146]; rfl
theorem k146_62 : cod 146 62 = some (27, 0, 230, z0, 65) := by rw [cod, ctab_146]; rfl
theorem k146_65 : cod 146 65 = some (4, 0, 0, z0, 66) := by rw [cod, ctab_146]; rfl
theorem k146_66 : cod 146 66 = some (29, 40, 7, z0, 69) := by rw [cod, ctab_146]; rfl
theorem k146_69 : cod 146 69 = some (0, 0, 0, vl (6132988), 72) := by rw [cod, ctab_146]; rfl
theorem k146_72 : cod 146 72 = some (18, 0, 0, z0, 73) := by rw [cod, ctab_146]; rfl
theorem k146_73 : cod 146 73 = some (27, 0, 230, z0, 76) := by rw [cod, ctab_146]; rfl
theorem k146_76 : cod 146 76 = some (4, 0, 0, z0, 77) := by rw [cod, ctab_146]; rfl
theorem k146_77 : cod 146 77 = some (29, 40, 7, z0, 80) := by rw [cod, ctab_146]; rfl
theorem k146_80 : cod 146 80 = some (0, 0, 0, vl (385331), 83) := by rw [cod, ctab_146]; rfl
theorem k146_83 : cod 146 83 = some (18, 0, 0, z0, 84) := by rw [cod, ctab_146]; rfl
theorem k146_84 : cod 146 84 = some (27, 0, 230, z0, 87) := by rw [cod, ctab_146]; rfl
theorem k146_87 : cod 146 87 = some (4, 0, 0, z0, 88) := by rw [cod, ctab_146]; rfl
theorem k146_88 : cod 146 88 = some (29, 40, 7, z0, 91) := by rw [cod, ctab_146]; rfl
theorem k146_91 : cod 146 91 = some (0, 0, 0, vl (384226), 94) := by rw [cod, ctab_146]; rfl
theorem k146_94 : cod 146 94 = some (18, 0, 0, z0, 95) := by rw [cod, ctab_146]; rfl
theorem k146_95 : cod 146 95 = some (27, 0, 230, z0, 98) := by rw [cod, ctab_146]; rfl
theorem k146_98 : cod 146 98 = some (4, 0, 0, z0, 99) := by rw [cod, ctab_146]; rfl
theorem k146_99 : cod 146 99 = some (29, 40, 7, z0, 102) := by rw [cod, ctab_146]; rfl
theorem k146_102 : cod 146 102 = some (0, 0, 0, vl (12410623), 105) := by rw [cod, ctab_146]; rfl
theorem k146_105 : cod 146 105 = some (18, 0, 0, z0, 106) := by rw [cod, ctab_146]; rfl
theorem k146_106 : cod 146 106 = some (27, 0, 230, z0, 109) := by rw [cod, ctab_146]; rfl
theorem k146_109 : cod 146 109 = some (4, 0, 0, z0, 110) := by rw [cod, ctab_146]; rfl
theorem k146_110 : cod 146 110 = some (29, 40, 7, z0, 113) := by rw [cod, ctab_146]; rfl
theorem k146_113 : cod 146 113 = some (0, 0, 0, vl (453773), 116) := by rw [cod, ctab_146]; rfl
theorem k146_116 : cod 146 116 = some (18, 0, 0, z0, 117) := by rw [cod, ctab_146]; rfl
theorem k146_117 : cod 146 117 = some (27, 0, 230, z0, 120) := by rw [cod, ctab_146]; rfl
theorem k146_120 : cod 146 120 = some (4, 0, 0, z0, 121) := by rw [cod, ctab_146]; rfl
theorem k146_121 : cod 146 121 = some (29, 40, 7, z0, 124) := by rw [cod, ctab_146]; rfl
theorem k146_124 : cod 146 124 = some (0, 0, 0, vl (459652), 127) := by rw [cod, ctab_146]; rfl
theorem k146_127 : cod 146 127 = some (18, 0, 0, z0, 128) := by rw [cod, ctab_146]; rfl
theorem k146_128 : cod 146 128 = some (27, 0, 230, z0, 131) := by rw [cod, ctab_146]; rfl
theorem k146_131 : cod 146 131 = some (4, 0, 0, z0, 132) := by rw [cod, ctab_146]; rfl
theorem k146_132 : cod 146 132 = some (29, 40, 7, z0, 135) := by rw [cod, ctab_146]; rfl
theorem k146_135 : cod 146 135 = some (0, 0, 0, vl (259906), 138) := by rw [cod, ctab_146]; rfl
theorem k146_138 : cod 146 138 = some (18, 0, 0, z0, 139) := by rw [cod, ctab_146]; rfl
theorem k146_139 : cod 146 139 = some (27, 0, 230, z0, 142) := by rw [cod, ctab_146]; rfl
theorem k146_142 : cod 146 142 = some (4, 0, 0, z0, 143) := by rw [cod, ctab_146]; rfl
theorem k146_143 : cod 146 143 = some (29, 40, 7, z0, 146) := by rw [cod, ctab_146]; rfl
theorem k146_146 : cod 146 146 = some (0, 0, 0, vl (168984), 149) := by rw [cod, ctab_146]; rfl
theorem k146_149 : cod 146 149 = some (18, 0, 0, z0, 150) := by rw [cod, ctab_146]; rfl
theorem k146_150 : cod 146 150 = some (27, 0, 230, z0, 153) := by rw [cod, ctab_146]; rfl
theorem k146_153 : cod 146 153 = some (4, 0, 0, z0, 154) := by rw [cod, ctab_146]; rfl
theorem k146_154 : cod 146 154 = some (29, 40, 7, z0, 157) := by rw [cod, ctab_146]; rfl
theorem k146_157 : cod 146 157 = some (0, 0, 0, vl (8740238), 160) := by rw [cod, ctab_146]; rfl
theorem k146_160 : cod 146 160 = some (18, 0, 0, z0, 161) := by rw [cod, ctab_146]; rfl
theorem k146_161 : cod 146 161 = some (27, 0, 230, z0, 164) := by rw [cod, ctab_146]; rfl
theorem k146_164 : cod 146 164 = some (4, 0, 0, z0, 165) := by rw [cod, ctab_146]; rfl
theorem k146_165 : cod 146 165 = some (29, 40, 7, z0, 168) := by rw [cod, ctab_146]; rfl
theorem k146_168 : cod 146 168 = some (0, 0, 0, vl (117812495), 171) := by rw [cod, ctab_146]; rfl
theorem k146_171 : cod 146 171 = some (18, 0, 0, z0, 172) := by rw [cod, ctab_146]; rfl
theorem k146_172 : cod 146 172 = some (27, 0, 230, z0, 175) := by rw [cod, ctab_146]; rfl
theorem k146_175 : cod 146 175 = some (4, 0, 0, z0, 176) := by rw [cod, ctab_146]; rfl
theorem k146_176 : cod 146 176 = some (29, 40, 7, z0, 179) := by rw [cod, ctab_146]; rfl
theorem k146_179 : cod 146 179 = some (0, 0, 0, vl (82410), 182) := by rw [cod, ctab_146]; rfl
theorem k146_182 : cod 146 182 = some (18, 0, 0, z0, 183) := by rw [cod, ctab_146]; rfl
theorem k146_183 : cod 146 183 = some (27, 0, 230, z0, 186) := by rw [cod, ctab_146]; rfl
theorem k146_186 : cod 146 186 = some (4, 0, 0, z0, 187) := by rw [cod, ctab_146]; rfl
theorem k146_187 : cod 146 187 = some (29, 40, 7, z0, 190) := by rw [cod, ctab_146]; rfl
theorem k146_190 : cod 146 190 = some (0, 0, 0, vl (14432), 193) := by rw [cod, ctab_146]; rfl
theorem k146_193 : cod 146 193 = some (18, 0, 0, z0, 194) := by rw [cod, ctab_146]; rfl
theorem k146_194 : cod 146 194 = some (27, 0, 230, z0, 197) := by rw [cod, ctab_146]; rfl
theorem k146_197 : cod 146 197 = some (4, 0, 0, z0, 198) := by rw [cod, ctab_146]; rfl
theorem k146_198 : cod 146 198 = some (29, 40, 7, z0, 201) := by rw [cod, ctab_146]; rfl
theorem k146_201 : cod 146 201 = some (0, 0, 0, vl (10631), 204) := by rw [cod, ctab_146]; rfl
theorem k146_204 : cod 146 204 = some (18, 0, 0, z0, 205) := by rw [cod, ctab_146]; rfl
theorem k146_205 : cod 146 205 = some (27, 0, 230, z0, 208) := by rw [cod, ctab_146]; rfl
theorem k146_208 : cod 146 208 = some (4, 0, 0, z0, 209) := by rw [cod, ctab_146]; rfl
theorem k146_209 : cod 146 209 = some (29, 40, 7, z0, 212) := by rw [cod, ctab_146]; rfl
theorem k146_212 : cod 146 212 = some (0, 0, 0, vl (1111), 215) := by rw [cod, ctab_146]; rfl
theorem k146_215 : cod 146 215 = some (18, 0, 0, z0, 216) := by rw [cod, ctab_146]; rfl
theorem k146_216 : cod 146 216 = some (27, 0, 230, z0, 219) := by rw [cod, ctab_146]; rfl
theorem k146_219 : cod 146 219 = some (4, 0, 0, z0, 220) := by rw [cod, ctab_146]; rfl
theorem k146_220 : cod 146 220 = some (29, 40, 7, z0, 223) := by rw [cod, ctab_146]; rfl
theorem k146_223 : cod 146 223 = some (0, 0, 0, vl (423), 226) := by rw [cod, ctab_146]; rfl
theorem k146_226 : cod 146 226 = some (18, 0, 0, z0, 227) := by rw [cod, ctab_146]; rfl
theorem k146_227 : cod 146 227 = some (27, 1, 234, z0, 230) := by rw [cod, ctab_146]; rfl
theorem k146_230 : cod 146 230 = some (0, 0, 0, vi (1), 231) := by rw [cod, ctab_146]; rfl
theorem k146_231 : cod 146 231 = some (26, 235, 0, z0, 234) := by rw [cod, ctab_146]; rfl
theorem k146_234 : cod 146 234 = some (0, 0, 0, z0, 235) := by rw [cod, ctab_146]; rfl
theorem k146_235 : cod 146 235 = some (36, 2, 0, z0, 236) := by rw [cod, ctab_146]; rfl
theorem ctab_147 : ctab.getD 147 [] = cd147 := rfl
theorem k147_0 : cod 147 0 = some (0, 0, 0, vi (5), 1) := by rw [cod, ctab_147]; rfl
theorem k147_1 : cod 147 1 = some (2, 1, 0, z0, 2) := by rw [cod, ctab_147]; rfl
theorem k147_2 : cod 147 2 = some (9, 2, 0, z0, 3) := by rw [cod, ctab_147]; rfl
theorem k147_3 : cod 147 3 = some (5, 2, 0, z0, 4) := by rw [cod, ctab_147]; rfl
theorem k147_4 : cod 147 4 = some (2, 2, 0, z0, 5) := by rw [cod, ctab_147]; rfl
theorem k147_5 : cod 147 5 = some (0, 0, 0, vi (5), 6) := by rw [cod, ctab_147]; rfl
theorem k147_6 : cod 147 6 = some (2, 1, 0, z0, 7) := by rw [cod, ctab_147]; rfl
theorem k147_7 : cod 147 7 = some (9, 2, 0, z0, 8) := by rw [cod, ctab_147]; rfl
theorem k147_8 : cod 147 8 = some (4, 0, 0, z0, 9) := by rw [cod, ctab_147]; rfl
theorem k147_9 : cod 147 9 = some (29, 40, 10, z0, 12) := by rw [cod, ctab_147]; rfl
theorem k147_12 : cod 147 12 = some (0, 0, 0, vi (4), 13) := by rw [cod, ctab_147]; rfl
theorem k147_13 : cod 147 13 = some (2, 1, 0, z0, 14) := by rw [cod, ctab_147]; rfl
theorem k147_14 : cod 147 14 = some (9, 2, 0, z0, 15) := by rw [cod, ctab_147]; rfl
theorem k147_15 : cod 147 15 = some (0, 0, 0, z0, 16) := by rw [cod, ctab_147]; rfl
theorem k147_16 : cod 147 16 = some (9, 0, 0, z0, 17) := by rw [cod, ctab_147]; rfl
theorem k147_17 : cod 147 17 = some (31, 1, 0, z0, 18) := by rw [cod, ctab_147]; rfl
theorem k147_18 : cod 147 18 = some (9, 0, 0, z0, 19) := by rw [cod, ctab_147]; rfl
theorem k147_19 : cod 147 19 = some (28, 3, 48, z0, 22) := by rw [cod, ctab_147]; rfl
theorem k147_22 : cod 147 22 = some (4, 0, 0, z0, 23) := by rw [cod, ctab_147]; rfl
theorem k147_23 : cod 147 23 = some (29, 40, 11, z0, 26) := by rw [cod, ctab_147]; rfl
theorem k147_26 : cod 147 26 = some (2, 2, 0, z0, 27) := by rw [cod, ctab_147]; rfl
theorem k147_27 : cod 147 27 = some (31, 4, 0, z0, 28) := by rw [cod, ctab_147]; rfl
theorem k147_28 : cod 147 28 = some (4, 0, 0, z0, 29) := by rw [cod, ctab_147]; rfl
theorem k147_29 : cod 147 29 = some (29, 40, 7, z0, 32) := by rw [cod, ctab_147]; rfl
theorem k147_32 : cod 147 32 = some (18, 0, 0, z0, 33) := by rw [cod, ctab_147]; rfl
theorem k147_33 : cod 147 33 = some (27, 1, 42, z0, 36) := by rw [cod, ctab_147]; rfl
theorem k147_36 : cod 147 36 = some (2, 2, 0, z0, 37) := by rw [cod, ctab_147]; rfl
theorem k147_37 : cod 147 37 = some (0, 0, 0, vi (5), 38) := by rw [cod, ctab_147]; rfl
theorem k147_38 : cod 147 38 = some (2, 1, 0, z0, 39) := by rw [cod, ctab_147]; rfl
theorem k147_39 : cod 147 39 = some (9, 2, 0, z0, 40) := by rw [cod, ctab_147]; rfl
theorem k147_40 : cod 147 40 = some (9, 1, 0, z0, 41) := by rw [cod, ctab_147]; rfl
theorem k147_41 : cod 147 41 = some (36, 1, 0, z0, 42) := by rw [cod, ctab_147]; rfl
theorem k147_42 : cod 147 42 = some (8, 2, 0, vi (1), 45) := by rw [cod, ctab_147]; rfl
theorem k147_45 : cod 147 45 = some (26, 4, 0, z0, 48) := by rw [cod, ctab_147]; rfl
theorem k147_48 : cod 147 48 = some (0, 0, 0, vi (-1), 49) := by rw [cod, ctab_147]; rfl
theorem k147_49 : cod 147 49 = some (36, 1, 0, z0, 50) := by rw [cod, ctab_147]; rfl
theorem ctab_148 : ctab.getD 148 [] = cd148 := rfl
theorem k148_0 : cod 148 0 = some (0, 0, 0, vi (6), 2) := by rw [cod, ctab_148]; rfl
theorem k148_2 : cod 148 2 = some (2, 1, 0, z0, 3) := by rw [cod, ctab_148]; rfl
theorem k148_3 : cod 148 3 = some (9, 2, 0, z0, 4) := by rw [cod, ctab_148]; rfl
theorem k148_4 : cod 148 4 = some (5, 2, 0, z0, 5) := by rw [cod, ctab_148]; rfl
theorem k148_5 : cod 148 5 = some (2, 2, 0, z0, 6) := by rw [cod, ctab_148]; rfl
theorem k148_6 : cod 148 6 = some (0, 0, 0, vi (6), 8) := by rw [cod, ctab_148]; rfl
theorem k148_8 : cod 148 8 = some (2, 1, 0, z0, 9) := by rw [cod, ctab_148]; rfl
theorem k148_9 : cod 148 9 = some (9, 2, 0, z0, 10) := by rw [cod, ctab_148]; rfl
theorem k148_10 : cod 148 10 = some (4, 0, 0, z0, 11) := by rw [cod, ctab_148]; rfl
theorem k148_11 : cod 148 11 = some (29, 40, 10, z0, 14) := by rw [cod, ctab_148]; rfl
theorem k148_14 : cod 148 14 = some (0, 0, 0, vi (4), 15) := by rw [cod, ctab_148]; rfl
theorem k148_15 : cod 148 15 = some (2, 1, 0, z0, 16) := by rw [cod, ctab_148]; rfl
theorem k148_16 : cod 148 16 = some (9, 2, 0, z0, 17) := by rw [cod, ctab_148]; rfl
theorem k148_17 : cod 148 17 = some (0, 0, 0, vi (1), 18) := by rw [cod, ctab_148]; rfl
theorem k148_18 : cod 148 18 = some (9, 0, 0, z0, 19) := by rw [cod, ctab_148]; rfl
theorem k148_19 : cod 148 19 = some (31, 1, 0, z0, 20) := by rw [cod, ctab_148]; rfl
theorem k148_20 : cod 148 20 = some (9, 0, 0, z0, 21) := by rw [cod, ctab_148]; rfl
theorem k148_21 : cod 148 21 = some (28, 3, 51, z0, 24) := by rw [cod, ctab_148]; rfl
theorem k148_24 : cod 148 24 = some (4, 0, 0, z0, 25) := by rw [cod, ctab_148]; rfl
theorem k148_25 : cod 148 25 = some (29, 40, 12, z0, 28) := by rw [cod, ctab_148]; rfl
theorem k148_28 : cod 148 28 = some (2, 2, 0, z0, 29) := by rw [cod, ctab_148]; rfl
theorem k148_29 : cod 148 29 = some (31, 4, 0, z0, 30) := by rw [cod, ctab_148]; rfl
theorem k148_30 : cod 148 30 = some (4, 0, 0, z0, 31) := by rw [cod, ctab_148]; rfl
theorem k148_31 : cod 148 31 = some (29, 40, 7, z0, 34) := by rw [cod, ctab_148]; rfl
theorem k148_34 : cod 148 34 = some (18, 0, 0, z0, 35) := by rw [cod, ctab_148]; rfl
theorem k148_35 : cod 148 35 = some (27, 1, 45, z0, 38) := by rw [cod, ctab_148]; rfl
theorem k148_38 : cod 148 38 = some (2, 2, 0, z0, 39) := by rw [cod, ctab_148]; rfl
theorem k148_39 : cod 148 39 = some (0, 0, 0, vi (6), 41) := by rw [cod, ctab_148]; rfl
theorem k148_41 : cod 148 41 = some (2, 1, 0, z0, 42) := by rw [cod, ctab_148]; rfl
theorem k148_42 : cod 148 42 = some (9, 2, 0, z0, 43) := by rw [cod, ctab_148]; rfl
theorem k148_43 : cod 148 43 = some (9, 1, 0, z0, 44) := by rw [cod, ctab_148]; rfl
theorem k148_44 : cod 148 44 = some (36, 1, 0, z0, 45) := by rw [cod, ctab_148]; rfl
theorem k148_45 : cod 148 45 = some (8, 2, 0, vi (1), 48) := by rw [cod, ctab_148]; rfl
theorem k148_48 : cod 148 48 = some (26, 5, 0, z0, 51) := by rw [cod, ctab_148]; rfl
theorem k148_51 : cod 148 51 = some (0, 0, 0, vi (-1), 52) := by rw [cod, ctab_148]; rfl
theorem k148_52 : cod 148 52 = some (36, 1, 0, z0, 53) := by rw [cod, ctab_148]; rfl
theorem ctab_149 : ctab.getD 149 [] = cd149 := rfl
theorem k149_0 : cod 149 0 = some (4, 0, 0, z0, 1) := by rw [cod, ctab_149]; rfl
theorem k149_1 : cod 149 1 = some (29, 40, 6, z0, 4) := by rw [cod, ctab_149]; rfl
theorem k149_4 : cod 149 4 = some (0, 0, 0, vi (2), 5) := by rw [cod, ctab_149]; rfl
theorem k149_5 : cod 149 5 = some (28, 0, 14, z0, 8) := by rw [cod, ctab_149]; rfl
theorem k149_8 : cod 149 8 = some (4, 0, 0, z0, 9) := by rw [cod, ctab_149]; rfl
theorem k149_9 : cod 149 9 = some (0, 0, 0, vi (1), 10) := by rw [cod, ctab_149]; rfl
theorem k149_10 : cod 149 10 = some (34, 138, 2, vr 40 0, 13) := by rw [cod, ctab_149]; rfl
theorem k149_13 : cod 149 13 = some (36, 2, 0, z0, 14) := by rw [cod, ctab_149]; rfl
theorem k149_14 : cod 149 14 = some (4, 0, 0, z0, 15) := by rw [cod, ctab_149]; rfl
theorem k149_15 : cod 149 15 = some (29, 40, 8, z0, 18) := by rw [cod, ctab_149]; rfl
theorem k149_18 : cod 149 18 = some (2, 1, 0, z0, 19) := by rw [cod, ctab_149]; rfl
theorem k149_19 : cod 149 19 = some (2, 2, 0, z0, 20) := by rw [cod, ctab_149]; rfl
theorem k149_20 : cod 149 20 = some (34, 130, 3, z0, 23) := by rw [cod, ctab_149]; rfl
theorem k149_23 : cod 149 23 = some (27, 1, 32, z0, 26) := by rw [cod, ctab_149]; rfl
theorem k149_26 : cod 149 26 = some (4, 0, 0, z0, 27) := by rw [cod, ctab_149]; rfl
theorem k149_27 : cod 149 27 = some (0, 0, 0, vi (4), 28) := by rw [cod, ctab_149]; rfl
theorem k149_28 : cod 149 28 = some (34, 138, 2, vr 40 0, 31) := by rw [cod, ctab_149]; rfl
theorem k149_31 : cod 149 31 = some (36, 2, 0, z0, 32) := by rw [cod, ctab_149]; rfl
theorem k149_32 : cod 149 32 = some (4, 0, 0, z0, 33) := by rw [cod, ctab_149]; rfl
theorem k149_33 : cod 149 33 = some (4, 0, 0, z0, 34) := by rw [cod, ctab_149]; rfl
theorem k149_34 : cod 149 34 = some (29, 40, 8, z0, 37) := by rw [cod, ctab_149]; rfl
theorem k149_37 : cod 149 37 = some (30, 40, 35, z0, 40) := by rw [cod, ctab_149]; rfl
theorem k149_40 : cod 149 40 = some (4, 0, 0, z0, 41) := by rw [cod, ctab_149]; rfl
theorem k149_41 : cod 149 41 = some (34, 135, 1, vr 40 0, 44) := by rw [cod, ctab_149]; rfl
theorem k149_44 : cod 149 44 = some (0, 0, 0, vi (1), 45) := by rw [cod, ctab_149]; rfl
theorem k149_45 : cod 149 45 = some (36, 2, 0, z0, 46) := by rw [cod, ctab_149]; rfl
theorem ctab_150 : ctab.getD 150 [] = cd150 := rfl
theorem k150_0 : cod 150 0 = some (4, 0, 0, z0, 1) := by rw [cod, ctab_150]; rfl
theorem k150_1 : cod 150 1 = some (3, 1, 0, z0, 2) := by rw [cod, ctab_150]; rfl
theorem k150_2 : cod 150 2 = some (34, 136, 2, vr 40 0, 5) := by rw [cod, ctab_150]; rfl
theorem k150_5 : cod 150 5 = some (27, 1, 14, z0, 8) := by rw [cod, ctab_150]; rfl
theorem k150_8 : cod 150 8 = some (4, 0, 0, z0, 9) := by rw [cod, ctab_150]; rfl
theorem k150_9 : cod 150 9 = some (0, 0, 0, vi (1), 10) := by rw [cod, ctab_150]; rfl
theorem k150_10 : cod 150 10 = some (34, 138, 2, vr 40 0, 13) := by rw [cod, ctab_150]; rfl
theorem k150_13 : cod 150 13 = some (36, 2, 0, z0, 14) := by rw [cod, ctab_150]; rfl
theorem k150_14 : cod 150 14 = some (4, 0, 0, z0, 15) := by rw [cod, ctab_150]; rfl
theorem k150_15 : cod 150 15 = some (34, 135, 1, vr 40 0, 18) := by rw [cod, ctab_150]; rfl
theorem k150_18 : cod 150 18 = some (0, 0, 0, vi (1), 19) := by rw [cod, ctab_150]; rfl
theorem k150_19 : cod 150 19 = some (36, 2, 0, z0, 20) := by rw [cod, ctab_150]; rfl
theorem ctab_151 : ctab.getD 151 [] = cd151 := rfl
theorem k151_0 : cod 151 0 = some (4, 0, 0, z0, 1) := by rw [cod, ctab_151]; rfl
theorem k151_1 : cod 151 1 = some (0, 0, 0, vi (59), 3) := by rw [cod, ctab_151]; rfl
theorem k151_3 : cod 151 3 = some (34, 137, 2, vr 40 0, 6) := by rw [cod, ctab_151]; rfl
theorem k151_6 : cod 151 6 = some (27, 1, 15, z0, 9) := by rw [cod, ctab_151]; rfl
theorem k151_9 : cod 151 9 = some (4, 0, 0, z0, 10) := by rw [cod, ctab_151]; rfl
theorem k151_10 : cod 151 10 = some (0, 0, 0, vi (1), 11) := by rw [cod, ctab_151]; rfl
theorem k151_11 : cod 151 11 = some (34, 138, 2, vr 40 0, 14) := by rw [cod, ctab_151]; rfl
theorem k151_14 : cod 151 14 = some (36, 2, 0, z0, 15) := by rw [cod, ctab_151]; rfl
theorem k151_15 : cod 151 15 = some (4, 0, 0, z0, 16) := by rw [cod, ctab_151]; rfl
theorem k151_16 : cod 151 16 = some (34, 135, 1, vr 40 0, 19) := by rw [cod, ctab_151]; rfl
theorem k151_19 : cod 151 19 = some (0, 0, 0, vi (1), 20) := by rw [cod, ctab_151]; rfl
theorem k151_20 : cod 151 20 = some (36, 2, 0, z0, 21) := by rw [cod, ctab_151]; rfl
theorem ctab_152 : ctab.getD 152 [] = cd152 := rfl
theorem k152_0 : cod 152 0 = some (4, 0, 0, z0, 1) := by rw [cod, ctab_152]; rfl
theorem k152_1 : cod 152 1 = some (34, 146, 1, vr 40 0, 4) := by rw [cod, ctab_152]; rfl
theorem k152_4 : cod 152 4 = some (27, 0, 13, z0, 7) := by rw [cod, ctab_152]; rfl
theorem k152_7 : cod 152 7 = some (4, 0, 0, z0, 8) := by rw [cod, ctab_152]; rfl
theorem k152_8 : cod 152 8 = some (0, 0, 0, vi (1), 9) := by rw [cod, ctab_152]; rfl
theorem k152_9 : cod 152 9 = some (34, 138, 2, vr 40 0, 12) := by rw [cod, ctab_152]; rfl
theorem k152_12 : cod 152 12 = some (36, 2, 0, z0, 13) := by rw [cod, ctab_152]; rfl
theorem k152_13 : cod 152 13 = some (4, 0, 0, z0, 14) := by rw [cod, ctab_152]; rfl
theorem k152_14 : cod 152 14 = some (0, 0, 0, vi (1), 15) := by rw [cod, ctab_152]; rfl
theorem k152_15 : cod 152 15 = some (34, 147, 2, vr 40 0, 18) := by rw [cod, ctab_152]; rfl
theorem k152_18 : cod 152 18 = some (27, 3, 29, z0, 21) := by rw [cod, ctab_152]; rfl
theorem k152_21 : cod 152 21 = some (4, 0, 0, z0, 22) := by rw [cod, ctab_152]; rfl
theorem k152_22 : cod 152 22 = some (0, 0, 0, vi (1), 23) := by rw [cod, ctab_152]; rfl
theorem k152_23 : cod 152 23 = some (34, 148, 2, vr 40 0, 26) := by rw [cod, ctab_152]; rfl
theorem k152_26 : cod 152 26 = some (27, 2, 35, z0, 29) := by rw [cod, ctab_152]; rfl
theorem k152_29 : cod 152 29 = some (4, 0, 0, z0, 30) := by rw [cod, ctab_152]; rfl
theorem k152_30 : cod 152 30 = some (0, 0, 0, vi (3), 31) := by rw [cod, ctab_152]; rfl
theorem k152_31 : cod 152 31 = some (34, 138, 2, vr 40 0, 34) := by rw [cod, ctab_152]; rfl
theorem k152_34 : cod 152 34 = some (36, 2, 0, z0, 35) := by rw [cod, ctab_152]; rfl
theorem k152_35 : cod 152 35 = some (4, 0, 0, z0, 36) := by rw [cod, ctab_152]; rfl
theorem k152_36 : cod 152 36 = some (4, 0, 0, z0, 37) := by rw [cod, ctab_152]; rfl
theorem k152_37 : cod 152 37 = some (29, 40, 7, z0, 40) := by rw [cod, ctab_152]; rfl
theorem k152_40 : cod 152 40 = some (30, 40, 36, z0, 43) := by rw [cod, ctab_152]; rfl
theorem k152_43 : cod 152 43 = some (4, 0, 0, z0, 44) := by rw [cod, ctab_152]; rfl
theorem k152_44 : cod 152 44 = some (34, 135, 1, vr 40 0, 47) := by rw [cod, ctab_152]; rfl
theorem k152_47 : cod 152 47 = some (0, 0, 0, vi (1), 48) := by rw [cod, ctab_152]; rfl
theorem k152_48 : cod 152 48 = some (36, 2, 0, z0, 49) := by rw [cod, ctab_152]; rfl
theorem ctab_153 : ctab.getD 153 [] = cd153 := rfl
theorem k153_0 : cod 153 0 = some (4, 0, 0, z0, 1) := by rw [cod, ctab_153]; rfl
theorem k153_1 : cod 153 1 = some (34, 146, 1, vr 40 0, 4) := by rw [cod, ctab_153]; rfl
theorem k153_4 : cod 153 4 = some (27, 0, 13, z0, 7) := by rw [cod, ctab_153]; rfl
theorem k153_7 : cod 153 7 = some (4, 0, 0, z0, 8) := by rw [cod, ctab_153]; rfl
theorem k153_8 : cod 153 8 = some (0, 0, 0, vi (1), 9) := by rw [cod, ctab_153]; rfl
theorem k153_9 : cod 153 9 = some (34, 138, 2, vr 40 0, 12) := by rw [cod, ctab_153]; rfl
theorem k153_12 : cod 153 12 = some (36, 2, 0, z0, 13) := by rw [cod, ctab_153]; rfl
theorem k153_13 : cod 153 13 = some (4, 0, 0, z0, 14) := by rw [cod, ctab_153]; rfl
theorem k153_14 : cod 153 14 = some (4, 0, 0, z0, 15) := by rw [cod, ctab_153]; rfl
theorem k153_15 : cod 153 15 = some (2, 1, 0, z0, 16) := by rw [cod, ctab_153]; rfl
theorem k153_16 : cod 153 16 = some (34, 147, 2, vr 40 0, 19) := by rw [cod, ctab_153]; rfl
theorem k153_19 : cod 153 19 = some (30, 40, 35, z0, 22) := by rw [cod, ctab_153]; rfl
theorem k153_22 : cod 153 22 = some (4, 0, 0, z0, 23) := by rw [cod, ctab_153]; rfl
theorem k153_23 : cod 153 23 = some (29, 40, 35, z0, 26) := by rw [cod, ctab_153]; rfl
theorem k153_26 : cod 153 26 = some (27, 3, 37, z0, 29) := by rw [cod, ctab_153]; rfl
theorem k153_29 : cod 153 29 = some (4, 0, 0, z0, 30) := by rw [cod, ctab_153]; rfl
theorem k153_30 : cod 153 30 = some (0, 0, 0, vi (2), 31) := by rw [cod, ctab_153]; rfl
theorem k153_31 : cod 153 31 = some (34, 138, 2, vr 40 0, 34) := by rw [cod, ctab_153]; rfl
theorem k153_34 : cod 153 34 = some (27, 0, 41, z0, 37) := by rw [cod, ctab_153]; rfl
theorem k153_37 : cod 153 37 = some (0, 0, 0, vi (1), 38) := by rw [cod, ctab_153]; rfl
theorem k153_38 : cod 153 38 = some (26, 42, 0, z0, 41) := by rw [cod, ctab_153]; rfl
theorem k153_41 : cod 153 41 = some (0, 0, 0, z0, 42) := by rw [cod, ctab_153]; rfl
theorem k153_42 : cod 153 42 = some (36, 2, 0, z0, 43) := by rw [cod, ctab_153]; rfl
theorem ctab_154 : ctab.getD 154 [] = cd154 := rfl
theorem k154_0 : cod 154 0 = some (4, 0, 0, z0, 1) := by rw [cod, ctab_154]; rfl
theorem k154_1 : cod 154 1 = some (34, 146, 1, vr 40 0, 4) := by rw [cod, ctab_154]; rfl
theorem k154_4 : cod 154 4 = some (27, 0, 13, z0, 7) := by rw [cod, ctab_154]; rfl
theorem k154_7 : cod 154 7 = some (4, 0, 0, z0, 8) := by rw [cod, ctab_154]; rfl
theorem k154_8 : cod 154 8 = some (0, 0, 0, vi (1), 9) := by rw [cod, ctab_154]; rfl
theorem k154_9 : cod 154 9 = some (34, 138, 2, vr 40 0, 12) := by rw [cod, ctab_154]; rfl
theorem k154_12 : cod 154 12 = some (36, 2, 0, z0, 13) := by rw [cod, ctab_154]; rfl
theorem k154_13 : cod 154 13 = some (4, 0, 0, z0, 14) := by rw [cod, ctab_154]; rfl
theorem k154_14 : cod 154 14 = some (4, 0, 0, z0, 15) := by rw [cod, ctab_154]; rfl
theorem k154_15 : cod 154 15 = some (2, 1, 0, z0, 16) := by rw [cod, ctab_154]; rfl
theorem k154_16 : cod 154 16 = some (34, 148, 2, vr 40 0, 19) := by rw [cod, ctab_154]; rfl
theorem k154_19 : cod 154 19 = some (30, 40, 35, z0, 22) := by rw [cod, ctab_154]; rfl
theorem k154_22 : cod 154 22 = some (4, 0, 0, z0, 23) := by rw [cod, ctab_154]; rfl
theorem k154_23 : cod 154 23 = some (29, 40, 35, z0, 26) := by rw [cod, ctab_154]; rfl
theorem k154_26 : cod 154 26 = some (27, 3, 37, z0, 29) := by rw [cod, ctab_154]; rfl
theorem k154_29 : cod 154 29 = some (4, 0, 0, z0, 30) := by rw [cod, ctab_154]; rfl
theorem k154_30 : cod 154 30 = some (0, 0, 0, vi (2), 31) := by rw [cod, ctab_154]; rfl
theorem k154_31 : cod 154 31 = some (34, 138, 2, vr 40 0, 34) := by rw [cod, ctab_154]; rfl
theorem k154_34 : cod 154 34 = some (27, 0, 41, z0, 37) := by rw [cod, ctab_154]; rfl
theorem k154_37 : cod 154 37 = some (0, 0, 0, vi (1), 38) := by rw [cod, ctab_154]; rfl
theorem k154_38 : cod 154 38 = some (26, 42, 0, z0, 41) := by rw [cod, ctab_154]; rfl
theorem k154_41 : cod 154 41 = some (0, 0, 0, z0, 42) := by rw [cod, ctab_154]; rfl
theorem k154_42 : cod 154 42 = some (36, 2, 0, z0, 43) := by rw [cod, ctab_154]; rfl
theorem ctab_155 : ctab.getD 155 [] = cd155 := rfl
theorem k155_0 : cod 155 0 = some (2, 1, 0, z0, 1) := by rw [cod, ctab_155]; rfl
theorem k155_1 : cod 155 1 = some (27, 0, 15, z0, 4) := by rw [cod, ctab_155]; rfl
theorem k155_4 : cod 155 4 = some (4, 0, 0, z0, 5) := by rw [cod, ctab_155]; rfl
theorem k155_5 : cod 155 5 = some (2, 2, 0, z0, 6) := by rw [cod, ctab_155]; rfl
theorem k155_6 : cod 155 6 = some (34, 153, 2, vr 40 0, 9) := by rw [cod, ctab_155]; rfl
theorem k155_9 : cod 155 9 = some (27, 1, 25, z0, 12) := by rw [cod, ctab_155]; rfl
theorem k155_12 : cod 155 12 = some (26, 23, 0, z0, 15) := by rw [cod, ctab_155]; rfl
theorem k155_15 : cod 155 15 = some (4, 0, 0, z0, 16) := by rw [cod, ctab_155]; rfl
theorem k155_16 : cod 155 16 = some (2, 2, 0, z0, 17) := by rw [cod, ctab_155]; rfl
theorem k155_17 : cod 155 17 = some (34, 154, 2, vr 40 0, 20) := by rw [cod, ctab_155]; rfl
theorem k155_20 : cod 155 20 = some (27, 1, 25, z0, 23) := by rw [cod, ctab_155]; rfl
theorem k155_23 : cod 155 23 = some (0, 0, 0, z0, 24) := by rw [cod, ctab_155]; rfl
theorem k155_24 : cod 155 24 = some (36, 2, 0, z0, 25) := by rw [cod, ctab_155]; rfl
theorem k155_25 : cod 155 25 = some (4, 0, 0, z0, 26) := by rw [cod, ctab_155]; rfl
theorem k155_26 : cod 155 26 = some (4, 0, 0, z0, 27) := by rw [cod, ctab_155]; rfl
theorem k155_27 : cod 155 27 = some (29, 40, 35, z0, 30) := by rw [cod, ctab_155]; rfl
theorem k155_30 : cod 155 30 = some (30, 40, 37, z0, 33) := by rw [cod, ctab_155]; rfl
theorem k155_33 : cod 155 33 = some (4, 0, 0, z0, 34) := by rw [cod, ctab_155]; rfl
theorem k155_34 : cod 155 34 = some (34, 135, 1, vr 40 0, 37) := by rw [cod, ctab_155]; rfl
theorem k155_37 : cod 155 37 = some (2, 1, 0, z0, 38) := by rw [cod, ctab_155]; rfl
theorem k155_38 : cod 155 38 = some (27, 0, 52, z0, 41) := by rw [cod, ctab_155]; rfl
theorem k155_41 : cod 155 41 = some (4, 0, 0, z0, 42) := by rw [cod, ctab_155]; rfl
theorem k155_42 : cod 155 42 = some (2, 2, 0, z0, 43) := by rw [cod, ctab_155]; rfl
theorem k155_43 : cod 155 43 = some (34, 153, 2, vr 40 0, 46) := by rw [cod, ctab_155]; rfl
theorem k155_46 : cod 155 46 = some (27, 1, 62, z0, 49) := by rw [cod, ctab_155]; rfl
theorem k155_49 : cod 155 49 = some (26, 60, 0, z0, 52) := by rw [cod, ctab_155]; rfl
theorem k155_52 : cod 155 52 = some (4, 0, 0, z0, 53) := by rw [cod, ctab_155]; rfl
theorem k155_53 : cod 155 53 = some (2, 2, 0, z0, 54) := by rw [cod, ctab_155]; rfl
theorem k155_54 : cod 155 54 = some (34, 154, 2, vr 40 0, 57) := by rw [cod, ctab_155]; rfl
theorem k155_57 : cod 155 57 = some (27, 1, 62, z0, 60) := by rw [cod, ctab_155]; rfl
theorem k155_60 : cod 155 60 = some (0, 0, 0, z0, 61) := by rw [cod, ctab_155]; rfl
theorem k155_61 : cod 155 61 = some (36, 2, 0, z0, 62) := by rw [cod, ctab_155]; rfl
theorem k155_62 : cod 155 62 = some (4, 0, 0, z0, 63) := by rw [cod, ctab_155]; rfl
theorem k155_63 : cod 155 63 = some (29, 40, 35, z0, 66) := by rw [cod, ctab_155]; rfl
theorem k155_66 : cod 155 66 = some (4, 0, 0, z0, 67) := by rw [cod, ctab_155]; rfl
theorem k155_67 : cod 155 67 = some (29, 40, 37, z0, 70) := by rw [cod, ctab_155]; rfl
theorem k155_70 : cod 155 70 = some (28, 1, 81, z0, 73) := by rw [cod, ctab_155]; rfl
theorem k155_73 : cod 155 73 = some (4, 0, 0, z0, 74) := by rw [cod, ctab_155]; rfl
theorem k155_74 : cod 155 74 = some (0, 0, 0, vi (3), 75) := by rw [cod, ctab_155]; rfl
theorem k155_75 : cod 155 75 = some (34, 138, 2, vr 40 0, 78) := by rw [cod, ctab_155]; rfl
theorem k155_78 : cod 155 78 = some (27, 0, 85, z0, 81) := by rw [cod, ctab_155]; rfl
theorem k155_81 : cod 155 81 = some (0, 0, 0, vi (1), 82) := by rw [cod, ctab_155]; rfl
theorem k155_82 : cod 155 82 = some (26, 86, 0, z0, 85) := by rw [cod, ctab_155]; rfl
theorem k155_85 : cod 155 85 = some (0, 0, 0, z0, 86) := by rw [cod, ctab_155]; rfl
theorem k155_86 : cod 155 86 = some (36, 2, 0, z0, 87) := by rw [cod, ctab_155]; rfl
theorem ctab_156 : ctab.getD 156 [] = cd156 := rfl
theorem k156_0 : cod 156 0 = some (4, 0, 0, z0, 1) := by rw [cod, ctab_156]; rfl
theorem k156_1 : cod 156 1 = some (29, 40, 22, z0, 4) := by rw [cod, ctab_156]; rfl
theorem k156_4 : cod 156 4 = some (2, 1, 0, z0, 5) := by rw [cod, ctab_156]; rfl
theorem k156_5 : cod 156 5 = some (9, 7, 0, z0, 6) := by rw [cod, ctab_156]; rfl
theorem k156_6 : cod 156 6 = some (0, 0, 0, vi (1), 7) := by rw [cod, ctab_156]; rfl
theorem k156_7 : cod 156 7 = some (9, 3, 0, z0, 8) := by rw [cod, ctab_156]; rfl
theorem k156_8 : cod 156 8 = some (0, 0, 0, vi (1), 9) := by rw [cod, ctab_156]; rfl
theorem k156_9 : cod 156 9 = some (28, 1, 14, z0, 12) := by rw [cod, ctab_156]; rfl
theorem k156_12 : cod 156 12 = some (0, 0, 0, vi (1), 13) := by rw [cod, ctab_156]; rfl
theorem k156_13 : cod 156 13 = some (36, 2, 0, z0, 14) := by rw [cod, ctab_156]; rfl
theorem k156_14 : cod 156 14 = some (4, 0, 0, z0, 15) := by rw [cod, ctab_156]; rfl
theorem k156_15 : cod 156 15 = some (23, 0, 0, z0, 16) := by rw [cod, ctab_156]; rfl
theorem k156_16 : cod 156 16 = some (29, 40, 22, z0, 19) := by rw [cod, ctab_156]; rfl
theorem k156_19 : cod 156 19 = some (0, 0, 0, vi (1), 20) := by rw [cod, ctab_156]; rfl
theorem k156_20 : cod 156 20 = some (2, 1, 0, z0, 21) := by rw [cod, ctab_156]; rfl
theorem k156_21 : cod 156 21 = some (9, 6, 0, z0, 22) := by rw [cod, ctab_156]; rfl
theorem k156_22 : cod 156 22 = some (9, 4, 0, z0, 23) := by rw [cod, ctab_156]; rfl
theorem k156_23 : cod 156 23 = some (30, 40, 22, z0, 26) := by rw [cod, ctab_156]; rfl
theorem k156_26 : cod 156 26 = some (0, 0, 0, z0, 27) := by rw [cod, ctab_156]; rfl
theorem k156_27 : cod 156 27 = some (36, 2, 0, z0, 28) := by rw [cod, ctab_156]; rfl
theorem ctab_157 : ctab.getD 157 [] = cd157 := rfl
theorem k157_0 : cod 157 0 = some (0, 0, 0, vi (5), 1) := by rw [cod, ctab_157]; rfl
theorem k157_1 : cod 157 1 = some (4, 0, 0, z0, 2) := by rw [cod, ctab_157]; rfl
theorem k157_2 : cod 157 2 = some (29, 40, 10, z0, 5) := by rw [cod, ctab_157]; rfl
theorem k157_5 : cod 157 5 = some (0, 0, 0, vi (4), 6) := by rw [cod, ctab_157]; rfl
theorem k157_6 : cod 157 6 = some (31, 1, 0, z0, 7) := by rw [cod, ctab_157]; rfl
theorem k157_7 : cod 157 7 = some (9, 0, 0, z0, 8) := by rw [cod, ctab_157]; rfl
theorem k157_8 : cod 157 8 = some (5, 1, 0, z0, 9) := by rw [cod, ctab_157]; rfl
theorem k157_9 : cod 157 9 = some (2, 1, 0, z0, 10) := by rw [cod, ctab_157]; rfl
theorem k157_10 : cod 157 10 = some (0, 0, 0, vi (10), 12) := by rw [cod, ctab_157]; rfl
theorem k157_12 : cod 157 12 = some (28, 1, 21, z0, 15) := by rw [cod, ctab_157]; rfl
theorem k157_15 : cod 157 15 = some (4, 0, 0, z0, 16) := by rw [cod, ctab_157]; rfl
theorem k157_16 : cod 157 16 = some (0, 0, 0, vi (5), 17) := by rw [cod, ctab_157]; rfl
theorem k157_17 : cod 157 17 = some (34, 138, 2, vr 40 0, 20) := by rw [cod, ctab_157]; rfl
theorem k157_20 : cod 157 20 = some (36, 2, 0, z0, 21) := by rw [cod, ctab_157]; rfl
theorem k157_21 : cod 157 21 = some (4, 0, 0, z0, 22) := by rw [cod, ctab_157]; rfl
theorem k157_22 : cod 157 22 = some (34, 135, 1, vr 40 0, 25) := by rw [cod, ctab_157]; rfl
theorem k157_25 : cod 157 25 = some (4, 0, 0, z0, 26) := by rw [cod, ctab_157]; rfl
theorem k157_26 : cod 157 26 = some (34, 152, 1, vr 40 0, 29) := by rw [cod, ctab_157]; rfl
theorem k157_29 : cod 157 29 = some (27, 1, 34, z0, 32) := by rw [cod, ctab_157]; rfl
theorem k157_32 : cod 157 32 = some (0, 0, 0, z0, 33) := by rw [cod, ctab_157]; rfl
theorem k157_33 : cod 157 33 = some (36, 2, 0, z0, 34) := by rw [cod, ctab_157]; rfl
theorem k157_34 : cod 157 34 = some (4, 0, 0, z0, 35) := by rw [cod, ctab_157]; rfl
theorem k157_35 : cod 157 35 = some (29, 40, 13, z0, 38) := by rw [cod, ctab_157]; rfl
theorem k157_38 : cod 157 38 = some (2, 1, 0, z0, 39) := by rw [cod, ctab_157]; rfl
theorem k157_39 : cod 157 39 = some (0, 0, 0, z0, 40) := by rw [cod, ctab_157]; rfl
theorem k157_40 : cod 157 40 = some (32, 1, 0, z0, 41) := by rw [cod, ctab_157]; rfl
theorem k157_41 : cod 157 41 = some (4, 0, 0, z0, 42) := by rw [cod, ctab_157]; rfl
theorem k157_42 : cod 157 42 = some (29, 40, 11, z0, 45) := by rw [cod, ctab_157]; rfl
theorem k157_45 : cod 157 45 = some (2, 1, 0, z0, 46) := by rw [cod, ctab_157]; rfl
theorem k157_46 : cod 157 46 = some (4, 0, 0, z0, 47) := by rw [cod, ctab_157]; rfl
theorem k157_47 : cod 157 47 = some (29, 40, 36, z0, 50) := by rw [cod, ctab_157]; rfl
theorem k157_50 : cod 157 50 = some (32, 4, 0, z0, 51) := by rw [cod, ctab_157]; rfl
theorem k157_51 : cod 157 51 = some (4, 0, 0, z0, 52) := by rw [cod, ctab_157]; rfl
theorem k157_52 : cod 157 52 = some (29, 40, 10, z0, 55) := by rw [cod, ctab_157]; rfl
theorem k157_55 : cod 157 55 = some (0, 0, 0, vi (4), 56) := by rw [cod, ctab_157]; rfl
theorem k157_56 : cod 157 56 = some (24, 0, 0, z0, 57) := by rw [cod, ctab_157]; rfl
theorem k157_57 : cod 157 57 = some (31, 1, 0, z0, 58) := by rw [cod, ctab_157]; rfl
theorem k157_58 : cod 157 58 = some (0, 0, 0, vi (1), 59) := by rw [cod, ctab_157]; rfl
theorem k157_59 : cod 157 59 = some (9, 0, 0, z0, 60) := by rw [cod, ctab_157]; rfl
theorem k157_60 : cod 157 60 = some (32, 1, 0, z0, 61) := by rw [cod, ctab_157]; rfl
theorem k157_61 : cod 157 61 = some (4, 0, 0, z0, 62) := by rw [cod, ctab_157]; rfl
theorem k157_62 : cod 157 62 = some (34, 151, 1, vr 40 0, 65) := by rw [cod, ctab_157]; rfl
theorem k157_65 : cod 157 65 = some (36, 2, 0, z0, 66) := by rw [cod, ctab_157]; rfl
theorem ctab_158 : ctab.getD 158 [] = cd158 := rfl
theorem k158_0 : cod 158 0 = some (4, 0, 0, z0, 1) := by rw [cod, ctab_158]; rfl
theorem k158_1 : cod 158 1 = some (34, 135, 1, vr 40 0, 4) := by rw [cod, ctab_158]; rfl
theorem k158_4 : cod 158 4 = some (4, 0, 0, z0, 5) := by rw [cod, ctab_158]; rfl
theorem k158_5 : cod 158 5 = some (0, 0, 0, vi (1), 6) := by rw [cod, ctab_158]; rfl
theorem k158_6 : cod 158 6 = some (0, 0, 0, vi (1), 7) := by rw [cod, ctab_158]; rfl
theorem k158_7 : cod 158 7 = some (34, 155, 3, vr 40 0, 10) := by rw [cod, ctab_158]; rfl
theorem k158_10 : cod 158 10 = some (27, 1, 15, z0, 13) := by rw [cod, ctab_158]; rfl
theorem k158_13 : cod 158 13 = some (0, 0, 0, z0, 14) := by rw [cod, ctab_158]; rfl
theorem k158_14 : cod 158 14 = some (36, 2, 0, z0, 15) := by rw [cod, ctab_158]; rfl
theorem k158_15 : cod 158 15 = some (4, 0, 0, z0, 16) := by rw [cod, ctab_158]; rfl
theorem k158_16 : cod 158 16 = some (29, 40, 13, z0, 19) := by rw [cod, ctab_158]; rfl
theorem k158_19 : cod 158 19 = some (0, 0, 0, vi (5), 20) := by rw [cod, ctab_158]; rfl
theorem k158_20 : cod 158 20 = some (4, 0, 0, z0, 21) := by rw [cod, ctab_158]; rfl
theorem k158_21 : cod 158 21 = some (29, 40, 37, z0, 24) := by rw [cod, ctab_158]; rfl
theorem k158_24 : cod 158 24 = some (9, 0, 0, z0, 25) := by rw [cod, ctab_158]; rfl
theorem k158_25 : cod 158 25 = some (31, 1, 0, z0, 26) := by rw [cod, ctab_158]; rfl
theorem k158_26 : cod 158 26 = some (4, 0, 0, z0, 27) := by rw [cod, ctab_158]; rfl
theorem k158_27 : cod 158 27 = some (29, 40, 35, z0, 30) := by rw [cod, ctab_158]; rfl
theorem k158_30 : cod 158 30 = some (9, 7, 0, z0, 31) := by rw [cod, ctab_158]; rfl
theorem k158_31 : cod 158 31 = some (0, 0, 0, vi (1), 32) := by rw [cod, ctab_158]; rfl
theorem k158_32 : cod 158 32 = some (9, 3, 0, z0, 33) := by rw [cod, ctab_158]; rfl
theorem k158_33 : cod 158 33 = some (0, 0, 0, vi (1), 34) := by rw [cod, ctab_158]; rfl
theorem k158_34 : cod 158 34 = some (28, 1, 43, z0, 37) := by rw [cod, ctab_158]; rfl
theorem k158_37 : cod 158 37 = some (4, 0, 0, z0, 38) := by rw [cod, ctab_158]; rfl
theorem k158_38 : cod 158 38 = some (0, 0, 0, vi (3), 39) := by rw [cod, ctab_158]; rfl
theorem k158_39 : cod 158 39 = some (34, 138, 2, vr 40 0, 42) := by rw [cod, ctab_158]; rfl
theorem k158_42 : cod 158 42 = some (36, 2, 0, z0, 43) := by rw [cod, ctab_158]; rfl
theorem k158_43 : cod 158 43 = some (4, 0, 0, z0, 44) := by rw [cod, ctab_158]; rfl
theorem k158_44 : cod 158 44 = some (29, 40, 13, z0, 47) := by rw [cod, ctab_158]; rfl
theorem k158_47 : cod 158 47 = some (0, 0, 0, vi (5), 48) := by rw [cod, ctab_158]; rfl
theorem k158_48 : cod 158 48 = some (4, 0, 0, z0, 49) := by rw [cod, ctab_158]; rfl
theorem k158_49 : cod 158 49 = some (29, 40, 37, z0, 52) := by rw [cod, ctab_158]; rfl
theorem k158_52 : cod 158 52 = some (9, 0, 0, z0, 53) := by rw [cod, ctab_158]; rfl
theorem k158_53 : cod 158 53 = some (24, 0, 0, z0, 54) := by rw [cod, ctab_158]; rfl
theorem k158_54 : cod 158 54 = some (31, 1, 0, z0, 55) := by rw [cod, ctab_158]; rfl
theorem k158_55 : cod 158 55 = some (0, 0, 0, vi (1), 56) := by rw [cod, ctab_158]; rfl
theorem k158_56 : cod 158 56 = some (4, 0, 0, z0, 57) := by rw [cod, ctab_158]; rfl
theorem k158_57 : cod 158 57 = some (29, 40, 35, z0, 60) := by rw [cod, ctab_158]; rfl
theorem k158_60 : cod 158 60 = some (9, 6, 0, z0, 61) := by rw [cod, ctab_158]; rfl
theorem k158_61 : cod 158 61 = some (9, 4, 0, z0, 62) := by rw [cod, ctab_158]; rfl
theorem k158_62 : cod 158 62 = some (32, 1, 0, z0, 63) := by rw [cod, ctab_158]; rfl
theorem k158_63 : cod 158 63 = some (4, 0, 0, z0, 64) := by rw [cod, ctab_158]; rfl
theorem k158_64 : cod 158 64 = some (29, 40, 13, z0, 67) := by rw [cod, ctab_158]; rfl
theorem k158_67 : cod 158 67 = some (0, 0, 0, vi (5), 68) := by rw [cod, ctab_158]; rfl
theorem k158_68 : cod 158 68 = some (4, 0, 0, z0, 69) := by rw [cod, ctab_158]; rfl
theorem k158_69 : cod 158 69 = some (29, 40, 35, z0, 72) := by rw [cod, ctab_158]; rfl
theorem k158_72 : cod 158 72 = some (9, 0, 0, z0, 73) := by rw [cod, ctab_158]; rfl
theorem k158_73 : cod 158 73 = some (24, 0, 0, z0, 74) := by rw [cod, ctab_158]; rfl
theorem k158_74 : cod 158 74 = some (31, 1, 0, z0, 75) := by rw [cod, ctab_158]; rfl
theorem k158_75 : cod 158 75 = some (0, 0, 0, vi (1), 76) := by rw [cod, ctab_158]; rfl
theorem k158_76 : cod 158 76 = some (4, 0, 0, z0, 77) := by rw [cod, ctab_158]; rfl
theorem k158_77 : cod 158 77 = some (29, 40, 37, z0, 80) := by rw [cod, ctab_158]; rfl
theorem k158_80 : cod 158 80 = some (9, 6, 0, z0, 81) := by rw [cod, ctab_158]; rfl
theorem k158_81 : cod 158 81 = some (9, 4, 0, z0, 82) := by rw [cod, ctab_158]; rfl
theorem k158_82 : cod 158 82 = some (32, 1, 0, z0, 83) := by rw [cod, ctab_158]; rfl
theorem k158_83 : cod 158 83 = some (4, 0, 0, z0, 84) := by rw [cod, ctab_158]; rfl
theorem k158_84 : cod 158 84 = some (34, 135, 1, vr 40 0, 87) := by rw [cod, ctab_158]; rfl
theorem k158_87 : cod 158 87 = some (4, 0, 0, z0, 88) := by rw [cod, ctab_158]; rfl
theorem k158_88 : cod 158 88 = some (34, 151, 1, vr 40 0, 91) := by rw [cod, ctab_158]; rfl
theorem k158_91 : cod 158 91 = some (36, 2, 0, z0, 92) := by rw [cod, ctab_158]; rfl
theorem ctab_159 : ctab.getD 159 [] = cd159 := rfl
theorem k159_0 : cod 159 0 = some (0, 0, 0, vi (6), 2) := by rw [cod, ctab_159]; rfl
theorem k159_2 : cod 159 2 = some (4, 0, 0, z0, 3) := by rw [cod, ctab_159]; rfl
theorem k159_3 : cod 159 3 = some (29, 40, 10, z0, 6) := by rw [cod, ctab_159]; rfl
theorem k159_6 : cod 159 6 = some (0, 0, 0, vi (5), 7) := by rw [cod, ctab_159]; rfl
theorem k159_7 : cod 159 7 = some (31, 1, 0, z0, 8) := by rw [cod, ctab_159]; rfl
theorem k159_8 : cod 159 8 = some (9, 0, 0, z0, 9) := by rw [cod, ctab_159]; rfl
theorem k159_9 : cod 159 9 = some (5, 1, 0, z0, 10) := by rw [cod, ctab_159]; rfl
theorem k159_10 : cod 159 10 = some (2, 1, 0, z0, 11) := by rw [cod, ctab_159]; rfl
theorem k159_11 : cod 159 11 = some (0, 0, 0, vi (12), 13) := by rw [cod, ctab_159]; rfl
theorem k159_13 : cod 159 13 = some (28, 1, 22, z0, 16) := by rw [cod, ctab_159]; rfl
theorem k159_16 : cod 159 16 = some (4, 0, 0, z0, 17) := by rw [cod, ctab_159]; rfl
theorem k159_17 : cod 159 17 = some (0, 0, 0, vi (5), 18) := by rw [cod, ctab_159]; rfl
theorem k159_18 : cod 159 18 = some (34, 138, 2, vr 40 0, 21) := by rw [cod, ctab_159]; rfl
theorem k159_21 : cod 159 21 = some (36, 2, 0, z0, 22) := by rw [cod, ctab_159]; rfl
theorem k159_22 : cod 159 22 = some (4, 0, 0, z0, 23) := by rw [cod, ctab_159]; rfl
theorem k159_23 : cod 159 23 = some (34, 135, 1, vr 40 0, 26) := by rw [cod, ctab_159]; rfl
theorem k159_26 : cod 159 26 = some (4, 0, 0, z0, 27) := by rw [cod, ctab_159]; rfl
theorem k159_27 : cod 159 27 = some (34, 152, 1, vr 40 0, 30) := by rw [cod, ctab_159]; rfl
theorem k159_30 : cod 159 30 = some (27, 1, 35, z0, 33) := by rw [cod, ctab_159]; rfl
theorem k159_33 : cod 159 33 = some (0, 0, 0, z0, 34) := by rw [cod, ctab_159]; rfl
theorem k159_34 : cod 159 34 = some (36, 2, 0, z0, 35) := by rw [cod, ctab_159]; rfl
theorem k159_35 : cod 159 35 = some (4, 0, 0, z0, 36) := by rw [cod, ctab_159]; rfl
theorem k159_36 : cod 159 36 = some (29, 40, 36, z0, 39) := by rw [cod, ctab_159]; rfl
theorem k159_39 : cod 159 39 = some (6, 2, 0, z0, 40) := by rw [cod, ctab_159]; rfl
theorem k159_40 : cod 159 40 = some (4, 0, 0, z0, 41) := by rw [cod, ctab_159]; rfl
theorem k159_41 : cod 159 41 = some (29, 40, 14, z0, 44) := by rw [cod, ctab_159]; rfl
theorem k159_44 : cod 159 44 = some (2, 1, 0, z0, 45) := by rw [cod, ctab_159]; rfl
theorem k159_45 : cod 159 45 = some (4, 0, 0, z0, 46) := by rw [cod, ctab_159]; rfl
theorem k159_46 : cod 159 46 = some (0, 0, 0, vl (8740238), 49) := by rw [cod, ctab_159]; rfl
theorem k159_49 : cod 159 49 = some (34, 136, 2, vr 40 0, 52) := by rw [cod, ctab_159]; rfl
theorem k159_52 : cod 159 52 = some (27, 0, 59, z0, 55) := by rw [cod, ctab_159]; rfl
theorem k159_55 : cod 159 55 = some (0, 0, 0, z0, 56) := by rw [cod, ctab_159]; rfl
theorem k159_56 : cod 159 56 = some (26, 102, 0, z0, 59) := by rw [cod, ctab_159]; rfl
theorem k159_59 : cod 159 59 = some (4, 0, 0, z0, 60) := by rw [cod, ctab_159]; rfl
theorem k159_60 : cod 159 60 = some (0, 0, 0, vl (117812495), 63) := by rw [cod, ctab_159]; rfl
theorem k159_63 : cod 159 63 = some (34, 136, 2, vr 40 0, 66) := by rw [cod, ctab_159]; rfl
theorem k159_66 : cod 159 66 = some (27, 0, 73, z0, 69) := by rw [cod, ctab_159]; rfl
theorem k159_69 : cod 159 69 = some (0, 0, 0, vi (1), 70) := by rw [cod, ctab_159]; rfl
theorem k159_70 : cod 159 70 = some (26, 102, 0, z0, 73) := by rw [cod, ctab_159]; rfl
theorem k159_73 : cod 159 73 = some (4, 0, 0, z0, 74) := by rw [cod, ctab_159]; rfl
theorem k159_74 : cod 159 74 = some (0, 0, 0, vl (82410), 77) := by rw [cod, ctab_159]; rfl
theorem k159_77 : cod 159 77 = some (34, 136, 2, vr 40 0, 80) := by rw [cod, ctab_159]; rfl
theorem k159_80 : cod 159 80 = some (27, 0, 87, z0, 83) := by rw [cod, ctab_159]; rfl
theorem k159_83 : cod 159 83 = some (0, 0, 0, vi (2), 84) := by rw [cod, ctab_159]; rfl
theorem k159_84 : cod 159 84 = some (26, 102, 0, z0, 87) := by rw [cod, ctab_159]; rfl
theorem k159_87 : cod 159 87 = some (4, 0, 0, z0, 88) := by rw [cod, ctab_159]; rfl
theorem k159_88 : cod 159 88 = some (0, 0, 0, vl (14432), 91) := by rw [cod, ctab_159]; rfl
theorem k159_91 : cod 159 91 = some (34, 136, 2, vr 40 0, 94) := by rw [cod, ctab_159]; rfl
theorem k159_94 : cod 159 94 = some (27, 0, 101, z0, 97) := by rw [cod, ctab_159]; rfl
theorem k159_97 : cod 159 97 = some (0, 0, 0, vi (3), 98) := by rw [cod, ctab_159]; rfl
theorem k159_98 : cod 159 98 = some (26, 102, 0, z0, 101) := by rw [cod, ctab_159]; rfl
theorem k159_101 : cod 159 101 = some (0, 0, 0, vi (-1), 102) := by rw [cod, ctab_159]; rfl
theorem k159_102 : cod 159 102 = some (32, 1, 0, z0, 103) := by rw [cod, ctab_159]; rfl
theorem k159_103 : cod 159 103 = some (4, 0, 0, z0, 104) := by rw [cod, ctab_159]; rfl
theorem k159_104 : cod 159 104 = some (29, 40, 14, z0, 107) := by rw [cod, ctab_159]; rfl
theorem k159_107 : cod 159 107 = some (2, 1, 0, z0, 108) := by rw [cod, ctab_159]; rfl
theorem k159_108 : cod 159 108 = some (31, 1, 0, z0, 109) := by rw [cod, ctab_159]; rfl
theorem k159_109 : cod 159 109 = some (27, 3, 118, z0, 112) := by rw [cod, ctab_159]; rfl
theorem k159_112 : cod 159 112 = some (4, 0, 0, z0, 113) := by rw [cod, ctab_159]; rfl
theorem k159_113 : cod 159 113 = some (0, 0, 0, vi (1), 114) := by rw [cod, ctab_159]; rfl
theorem k159_114 : cod 159 114 = some (34, 138, 2, vr 40 0, 117) := by rw [cod, ctab_159]; rfl
theorem k159_117 : cod 159 117 = some (36, 2, 0, z0, 118) := by rw [cod, ctab_159]; rfl
theorem k159_118 : cod 159 118 = some (4, 0, 0, z0, 119) := by rw [cod, ctab_159]; rfl
theorem k159_119 : cod 159 119 = some (34, 135, 1, vr 40 0, 122) := by rw [cod, ctab_159]; rfl
theorem k159_122 : cod 159 122 = some (4, 0, 0, z0, 123) := by rw [cod, ctab_159]; rfl
theorem k159_123 : cod 159 123 = some (0, 0, 0, vl (47), 126) := by rw [cod, ctab_159]; rfl
theorem k159_126 : cod 159 126 = some (34, 150, 2, vr 40 0, 129) := by rw [cod, ctab_159]; rfl
theorem k159_129 : cod 159 129 = some (27, 0, 140, z0, 132) := by rw [cod, ctab_159]; rfl
theorem k159_132 : cod 159 132 = some (4, 0, 0, z0, 133) := by rw [cod, ctab_159]; rfl
theorem k159_133 : cod 159 133 = some (0, 0, 0, vi (1), 134) := by rw [cod, ctab_159]; rfl
theorem k159_134 : cod 159 134 = some (34, 153, 2, vr 40 0, 137) := by rw [cod, ctab_159]; rfl
theorem k159_137 : cod 159 137 = some (27, 1, 142, z0, 140) := by rw [cod, ctab_159]; rfl
theorem k159_140 : cod 159 140 = some (0, 0, 0, z0, 141) := by rw [cod, ctab_159]; rfl
theorem k159_141 : cod 159 141 = some (36, 2, 0, z0, 142) := by rw [cod, ctab_159]; rfl
theorem k159_142 : cod 159 142 = some (4, 0, 0, z0, 143) := by rw [cod, ctab_159]; rfl
theorem k159_143 : cod 159 143 = some (29, 40, 15, z0, 146) := by rw [cod, ctab_159]; rfl
theorem k159_146 : cod 159 146 = some (2, 1, 0, z0, 147) := by rw [cod, ctab_159]; rfl
theorem k159_147 : cod 159 147 = some (4, 0, 0, z0, 148) := by rw [cod, ctab_159]; rfl
theorem k159_148 : cod 159 148 = some (29, 40, 35, z0, 151) := by rw [cod, ctab_159]; rfl
theorem k159_151 : cod 159 151 = some (32, 1, 0, z0, 152) := by rw [cod, ctab_159]; rfl
theorem k159_152 : cod 159 152 = some (4, 0, 0, z0, 153) := by rw [cod, ctab_159]; rfl
theorem k159_153 : cod 159 153 = some (34, 135, 1, vr 40 0, 156) := by rw [cod, ctab_159]; rfl
theorem k159_156 : cod 159 156 = some (4, 0, 0, z0, 157) := by rw [cod, ctab_159]; rfl
theorem k159_157 : cod 159 157 = some (0, 0, 0, vl (240023), 160) := by rw [cod, ctab_159]; rfl
theorem k159_160 : cod 159 160 = some (34, 150, 2, vr 40 0, 163) := by rw [cod, ctab_159]; rfl
theorem k159_163 : cod 159 163 = some (27, 0, 176, z0, 166) := by rw [cod, ctab_159]; rfl
theorem k159_166 : cod 159 166 = some (4, 0, 0, z0, 167) := by rw [cod, ctab_159]; rfl
theorem k159_167 : cod 159 167 = some (0, 0, 0, z0, 168) := by rw [cod, ctab_159]; rfl
theorem k159_168 : cod 159 168 = some (0, 0, 0, vi (99), 170) := by rw [cod, ctab_159]; rfl
theorem k159_170 : cod 159 170 = some (34, 149, 3, vr 40 0, 173) := by rw [cod, ctab_159]; rfl
theorem k159_173 : cod 159 173 = some (27, 1, 178, z0, 176) := by rw [cod, ctab_159]; rfl
theorem k159_176 : cod 159 176 = some (0, 0, 0, z0, 177) := by rw [cod, ctab_159]; rfl
theorem k159_177 : cod 159 177 = some (36, 2, 0, z0, 178) := by rw [cod, ctab_159]; rfl
theorem k159_178 : cod 159 178 = some (4, 0, 0, z0, 179) := by rw [cod, ctab_159]; rfl
theorem k159_179 : cod 159 179 = some (29, 40, 16, z0, 182) := by rw [cod, ctab_159]; rfl
theorem k159_182 : cod 159 182 = some (2, 1, 0, z0, 183) := by rw [cod, ctab_159]; rfl
theorem k159_183 : cod 159 183 = some (4, 0, 0, z0, 184) := by rw [cod, ctab_159]; rfl
theorem k159_184 : cod 159 184 = some (29, 40, 35, z0, 187) := by rw [cod, ctab_159]; rfl
theorem k159_187 : cod 159 187 = some (32, 1, 0, z0, 188) := by rw [cod, ctab_159]; rfl
theorem k159_188 : cod 159 188 = some (4, 0, 0, z0, 189) := by rw [cod, ctab_159]; rfl
theorem k159_189 : cod 159 189 = some (29, 40, 17, z0, 192) := by rw [cod, ctab_159]; rfl
theorem k159_192 : cod 159 192 = some (2, 1, 0, z0, 193) := by rw [cod, ctab_159]; rfl
theorem k159_193 : cod 159 193 = some (0, 0, 0, z0, 194) := by rw [cod, ctab_159]; rfl
theorem k159_194 : cod 159 194 = some (32, 1, 0, z0, 195) := by rw [cod, ctab_159]; rfl
theorem k159_195 : cod 159 195 = some (4, 0, 0, z0, 196) := by rw [cod, ctab_159]; rfl
theorem k159_196 : cod 159 196 = some (29, 40, 12, z0, 199) := by rw [cod, ctab_159]; rfl
theorem k159_199 : cod 159 199 = some (2, 1, 0, z0, 200) := by rw [cod, ctab_159]; rfl
theorem k159_200 : cod 159 200 = some (3, 2, 0, z0, 201) := by rw [cod, ctab_159]; rfl
theorem k159_201 : cod 159 201 = some (32, 4, 0, z0, 202) := by rw [cod, ctab_159]; rfl
theorem k159_202 : cod 159 202 = some (4, 0, 0, z0, 203) := by rw [cod, ctab_159]; rfl
theorem k159_203 : cod 159 203 = some (29, 40, 10, z0, 206) := by rw [cod, ctab_159]; rfl
theorem k159_206 : cod 159 206 = some (0, 0, 0, vi (5), 207) := by rw [cod, ctab_159]; rfl
theorem k159_207 : cod 159 207 = some (24, 0, 0, z0, 208) := by rw [cod, ctab_159]; rfl
theorem k159_208 : cod 159 208 = some (31, 1, 0, z0, 209) := by rw [cod, ctab_159]; rfl
theorem k159_209 : cod 159 209 = some (0, 0, 0, vi (1), 210) := by rw [cod, ctab_159]; rfl
theorem k159_210 : cod 159 210 = some (9, 0, 0, z0, 211) := by rw [cod, ctab_159]; rfl
theorem k159_211 : cod 159 211 = some (32, 1, 0, z0, 212) := by rw [cod, ctab_159]; rfl
theorem k159_212 : cod 159 212 = some (4, 0, 0, z0, 213) := by rw [cod, ctab_159]; rfl
theorem k159_213 : cod 159 213 = some (34, 151, 1, vr 40 0, 216) := by rw [cod, ctab_159]; rfl
theorem k159_216 : cod 159 216 = some (36, 2, 0, z0, 217) := by rw [cod, ctab_159]; rfl
theorem ctab_160 : ctab.getD 160 [] = cd160 := rfl
theorem k160_0 : cod 160 0 = some (4, 0, 0, z0, 1) := by rw [cod, ctab_160]; rfl
theorem k160_1 : cod 160 1 = some (34, 135, 1, vr 40 0, 4) := by rw [cod, ctab_160]; rfl
theorem k160_4 : cod 160 4 = some (4, 0, 0, z0, 5) := by rw [cod, ctab_160]; rfl
theorem k160_5 : cod 160 5 = some (0, 0, 0, z0, 6) := by rw [cod, ctab_160]; rfl
theorem k160_6 : cod 160 6 = some (0, 0, 0, vi (1), 7) := by rw [cod, ctab_160]; rfl
theorem k160_7 : cod 160 7 = some (34, 155, 3, vr 40 0, 10) := by rw [cod, ctab_160]; rfl
theorem k160_10 : cod 160 10 = some (27, 1, 15, z0, 13) := by rw [cod, ctab_160]; rfl
theorem k160_13 : cod 160 13 = some (0, 0, 0, z0, 14) := by rw [cod, ctab_160]; rfl
theorem k160_14 : cod 160 14 = some (36, 2, 0, z0, 15) := by rw [cod, ctab_160]; rfl
theorem k160_15 : cod 160 15 = some (4, 0, 0, z0, 16) := by rw [cod, ctab_160]; rfl
theorem k160_16 : cod 160 16 = some (29, 40, 17, z0, 19) := by rw [cod, ctab_160]; rfl
theorem k160_19 : cod 160 19 = some (0, 0, 0, vi (6), 21) := by rw [cod, ctab_160]; rfl
theorem k160_21 : cod 160 21 = some (4, 0, 0, z0, 22) := by rw [cod, ctab_160]; rfl
theorem k160_22 : cod 160 22 = some (29, 40, 37, z0, 25) := by rw [cod, ctab_160]; rfl
theorem k160_25 : cod 160 25 = some (9, 0, 0, z0, 26) := by rw [cod, ctab_160]; rfl
theorem k160_26 : cod 160 26 = some (31, 1, 0, z0, 27) := by rw [cod, ctab_160]; rfl
theorem k160_27 : cod 160 27 = some (4, 0, 0, z0, 28) := by rw [cod, ctab_160]; rfl
theorem k160_28 : cod 160 28 = some (29, 40, 35, z0, 31) := by rw [cod, ctab_160]; rfl
theorem k160_31 : cod 160 31 = some (9, 7, 0, z0, 32) := by rw [cod, ctab_160]; rfl
theorem k160_32 : cod 160 32 = some (0, 0, 0, vi (1), 33) := by rw [cod, ctab_160]; rfl
theorem k160_33 : cod 160 33 = some (9, 3, 0, z0, 34) := by rw [cod, ctab_160]; rfl
theorem k160_34 : cod 160 34 = some (0, 0, 0, vi (1), 35) := by rw [cod, ctab_160]; rfl
theorem k160_35 : cod 160 35 = some (28, 1, 44, z0, 38) := by rw [cod, ctab_160]; rfl
theorem k160_38 : cod 160 38 = some (4, 0, 0, z0, 39) := by rw [cod, ctab_160]; rfl
theorem k160_39 : cod 160 39 = some (0, 0, 0, vi (3), 40) := by rw [cod, ctab_160]; rfl
theorem k160_40 : cod 160 40 = some (34, 138, 2, vr 40 0, 43) := by rw [cod, ctab_160]; rfl
theorem k160_43 : cod 160 43 = some (36, 2, 0, z0, 44) := by rw [cod, ctab_160]; rfl
theorem k160_44 : cod 160 44 = some (4, 0, 0, z0, 45) := by rw [cod, ctab_160]; rfl
theorem k160_45 : cod 160 45 = some (29, 40, 17, z0, 48) := by rw [cod, ctab_160]; rfl
theorem k160_48 : cod 160 48 = some (0, 0, 0, vi (6), 50) := by rw [cod, ctab_160]; rfl
theorem k160_50 : cod 160 50 = some (4, 0, 0, z0, 51) := by rw [cod, ctab_160]; rfl
theorem k160_51 : cod 160 51 = some (29, 40, 37, z0, 54) := by rw [cod, ctab_160]; rfl
theorem k160_54 : cod 160 54 = some (9, 0, 0, z0, 55) := by rw [cod, ctab_160]; rfl
theorem k160_55 : cod 160 55 = some (24, 0, 0, z0, 56) := by rw [cod, ctab_160]; rfl
theorem k160_56 : cod 160 56 = some (31, 1, 0, z0, 57) := by rw [cod, ctab_160]; rfl
theorem k160_57 : cod 160 57 = some (0, 0, 0, vi (1), 58) := by rw [cod, ctab_160]; rfl
theorem k160_58 : cod 160 58 = some (4, 0, 0, z0, 59) := by rw [cod, ctab_160]; rfl
theorem k160_59 : cod 160 59 = some (29, 40, 35, z0, 62) := by rw [cod, ctab_160]; rfl
theorem k160_62 : cod 160 62 = some (9, 6, 0, z0, 63) := by rw [cod, ctab_160]; rfl
theorem k160_63 : cod 160 63 = some (9, 4, 0, z0, 64) := by rw [cod, ctab_160]; rfl
theorem k160_64 : cod 160 64 = some (32, 1, 0, z0, 65) := by rw [cod, ctab_160]; rfl
theorem k160_65 : cod 160 65 = some (4, 0, 0, z0, 66) := by rw [cod, ctab_160]; rfl
theorem k160_66 : cod 160 66 = some (29, 40, 17, z0, 69) := by rw [cod, ctab_160]; rfl
theorem k160_69 : cod 160 69 = some (0, 0, 0, vi (6), 71) := by rw [cod, ctab_160]; rfl
theorem k160_71 : cod 160 71 = some (4, 0, 0, z0, 72) := by rw [cod, ctab_160]; rfl
theorem k160_72 : cod 160 72 = some (29, 40, 35, z0, 75) := by rw [cod, ctab_160]; rfl
theorem k160_75 : cod 160 75 = some (9, 0, 0, z0, 76) := by rw [cod, ctab_160]; rfl
theorem k160_76 : cod 160 76 = some (24, 0, 0, z0, 77) := by rw [cod, ctab_160]; rfl
theorem k160_77 : cod 160 77 = some (31, 1, 0, z0, 78) := by rw [cod, ctab_160]; rfl
theorem k160_78 : cod 160 78 = some (0, 0, 0, vi (1), 79) := by rw [cod, ctab_160]; rfl
theorem k160_79 : cod 160 79 = some (4, 0, 0, z0, 80) := by rw [cod, ctab_160]; rfl
theorem k160_80 : cod 160 80 = some (29, 40, 37, z0, 83) := by rw [cod, ctab_160]; rfl
theorem k160_83 : cod 160 83 = some (9, 6, 0, z0, 84) := by rw [cod, ctab_160]; rfl
theorem k160_84 : cod 160 84 = some (9, 4, 0, z0, 85) := by rw [cod, ctab_160]; rfl
theorem k160_85 : cod 160 85 = some (32, 1, 0, z0, 86) := by rw [cod, ctab_160]; rfl
theorem k160_86 : cod 160 86 = some (4, 0, 0, z0, 87) := by rw [cod, ctab_160]; rfl
theorem k160_87 : cod 160 87 = some (34, 135, 1, vr 40 0, 90) := by rw [cod, ctab_160]; rfl
theorem k160_90 : cod 160 90 = some (4, 0, 0, z0, 91) := by rw [cod, ctab_160]; rfl
theorem k160_91 : cod 160 91 = some (34, 151, 1, vr 40 0, 94) := by rw [cod, ctab_160]; rfl
theorem k160_94 : cod 160 94 = some (36, 2, 0, z0, 95) := by rw [cod, ctab_160]; rfl
theorem ctab_161 : ctab.getD 161 [] = cd161 := rfl
theorem k161_0 : cod 161 0 = some (4, 0, 0, z0, 1) := by rw [cod, ctab_161]; rfl
theorem k161_1 : cod 161 1 = some (2, 1, 0, z0, 2) := by rw [cod, ctab_161]; rfl
theorem k161_2 : cod 161 2 = some (34, 156, 2, vr 40 0, 5) := by rw [cod, ctab_161]; rfl
theorem k161_5 : cod 161 5 = some (27, 0, 14, z0, 8) := by rw [cod, ctab_161]; rfl
theorem k161_8 : cod 161 8 = some (4, 0, 0, z0, 9) := by rw [cod, ctab_161]; rfl
theorem k161_9 : cod 161 9 = some (0, 0, 0, vi (3), 10) := by rw [cod, ctab_161]; rfl
theorem k161_10 : cod 161 10 = some (34, 138, 2, vr 40 0, 13) := by rw [cod, ctab_161]; rfl
theorem k161_13 : cod 161 13 = some (36, 2, 0, z0, 14) := by rw [cod, ctab_161]; rfl
theorem k161_14 : cod 161 14 = some (4, 0, 0, z0, 15) := by rw [cod, ctab_161]; rfl
theorem k161_15 : cod 161 15 = some (34, 135, 1, vr 40 0, 18) := by rw [cod, ctab_161]; rfl
theorem k161_18 : cod 161 18 = some (4, 0, 0, z0, 19) := by rw [cod, ctab_161]; rfl
theorem k161_19 : cod 161 19 = some (0, 0, 0, vi (1), 20) := by rw [cod, ctab_161]; rfl
theorem k161_20 : cod 161 20 = some (2, 2, 0, z0, 21) := by rw [cod, ctab_161]; rfl
theorem k161_21 : cod 161 21 = some (34, 149, 3, vr 40 0, 24) := by rw [cod, ctab_161]; rfl
theorem k161_24 : cod 161 24 = some (27, 1, 29, z0, 27) := by rw [cod, ctab_161]; rfl
theorem k161_27 : cod 161 27 = some (0, 0, 0, z0, 28) := by rw [cod, ctab_161]; rfl
theorem k161_28 : cod 161 28 = some (36, 2, 0, z0, 29) := by rw [cod, ctab_161]; rfl
theorem k161_29 : cod 161 29 = some (4, 0, 0, z0, 30) := by rw [cod, ctab_161]; rfl
theorem k161_30 : cod 161 30 = some (29, 40, 10, z0, 33) := by rw [cod, ctab_161]; rfl
theorem k161_33 : cod 161 33 = some (0, 0, 0, vi (4), 34) := by rw [cod, ctab_161]; rfl
theorem k161_34 : cod 161 34 = some (2, 1, 0, z0, 35) := by rw [cod, ctab_161]; rfl
theorem k161_35 : cod 161 35 = some (9, 0, 0, z0, 36) := by rw [cod, ctab_161]; rfl
theorem k161_36 : cod 161 36 = some (4, 0, 0, z0, 37) := by rw [cod, ctab_161]; rfl
theorem k161_37 : cod 161 37 = some (29, 40, 35, z0, 40) := by rw [cod, ctab_161]; rfl
theorem k161_40 : cod 161 40 = some (32, 1, 0, z0, 41) := by rw [cod, ctab_161]; rfl
theorem k161_41 : cod 161 41 = some (4, 0, 0, z0, 42) := by rw [cod, ctab_161]; rfl
theorem k161_42 : cod 161 42 = some (34, 151, 1, vr 40 0, 45) := by rw [cod, ctab_161]; rfl
theorem k161_45 : cod 161 45 = some (36, 2, 0, z0, 46) := by rw [cod, ctab_161]; rfl
theorem ctab_162 : ctab.getD 162 [] = cd162 := rfl
theorem k162_0 : cod 162 0 = some (4, 0, 0, z0, 1) := by rw [cod, ctab_162]; rfl
theorem k162_1 : cod 162 1 = some (29, 40, 19, z0, 4) := by rw [cod, ctab_162]; rfl
theorem k162_4 : cod 162 4 = some (0, 0, 0, vi (1), 5) := by rw [cod, ctab_162]; rfl
theorem k162_5 : cod 162 5 = some (31, 1, 0, z0, 6) := by rw [cod, ctab_162]; rfl
theorem k162_6 : cod 162 6 = some (4, 0, 0, z0, 7) := by rw [cod, ctab_162]; rfl
theorem k162_7 : cod 162 7 = some (29, 40, 18, z0, 10) := by rw [cod, ctab_162]; rfl
theorem k162_10 : cod 162 10 = some (0, 0, 0, vi (1), 11) := by rw [cod, ctab_162]; rfl
theorem k162_11 : cod 162 11 = some (31, 1, 0, z0, 12) := by rw [cod, ctab_162]; rfl
theorem k162_12 : cod 162 12 = some (28, 5, 21, z0, 15) := by rw [cod, ctab_162]; rfl
theorem k162_15 : cod 162 15 = some (4, 0, 0, z0, 16) := by rw [cod, ctab_162]; rfl
theorem k162_16 : cod 162 16 = some (0, 0, 0, vi (3), 17) := by rw [cod, ctab_162]; rfl
theorem k162_17 : cod 162 17 = some (34, 138, 2, vr 40 0, 20) := by rw [cod, ctab_162]; rfl
theorem k162_20 : cod 162 20 = some (36, 2, 0, z0, 21) := by rw [cod, ctab_162]; rfl
theorem k162_21 : cod 162 21 = some (4, 0, 0, z0, 22) := by rw [cod, ctab_162]; rfl
theorem k162_22 : cod 162 22 = some (34, 135, 1, vr 40 0, 25) := by rw [cod, ctab_162]; rfl
theorem k162_25 : cod 162 25 = some (4, 0, 0, z0, 26) := by rw [cod, ctab_162]; rfl
theorem k162_26 : cod 162 26 = some (29, 40, 18, z0, 29) := by rw [cod, ctab_162]; rfl
theorem k162_29 : cod 162 29 = some (0, 0, 0, vi (1), 30) := by rw [cod, ctab_162]; rfl
theorem k162_30 : cod 162 30 = some (4, 0, 0, z0, 31) := by rw [cod, ctab_162]; rfl
theorem k162_31 : cod 162 31 = some (29, 40, 21, z0, 34) := by rw [cod, ctab_162]; rfl
theorem k162_34 : cod 162 34 = some (32, 1, 0, z0, 35) := by rw [cod, ctab_162]; rfl
theorem k162_35 : cod 162 35 = some (4, 0, 0, z0, 36) := by rw [cod, ctab_162]; rfl
theorem k162_36 : cod 162 36 = some (34, 141, 1, vr 40 0, 39) := by rw [cod, ctab_162]; rfl
theorem k162_39 : cod 162 39 = some (27, 1, 44, z0, 42) := by rw [cod, ctab_162]; rfl
theorem k162_42 : cod 162 42 = some (0, 0, 0, z0, 43) := by rw [cod, ctab_162]; rfl
theorem k162_43 : cod 162 43 = some (36, 2, 0, z0, 44) := by rw [cod, ctab_162]; rfl
theorem k162_44 : cod 162 44 = some (4, 0, 0, z0, 45) := by rw [cod, ctab_162]; rfl
theorem k162_45 : cod 162 45 = some (29, 40, 19, z0, 48) := by rw [cod, ctab_162]; rfl
theorem k162_48 : cod 162 48 = some (0, 0, 0, vi (1), 49) := by rw [cod, ctab_162]; rfl
theorem k162_49 : cod 162 49 = some (4, 0, 0, z0, 50) := by rw [cod, ctab_162]; rfl
theorem k162_50 : cod 162 50 = some (29, 40, 21, z0, 53) := by rw [cod, ctab_162]; rfl
theorem k162_53 : cod 162 53 = some (32, 1, 0, z0, 54) := by rw [cod, ctab_162]; rfl
theorem k162_54 : cod 162 54 = some (0, 0, 0, vi (1), 55) := by rw [cod, ctab_162]; rfl
theorem k162_55 : cod 162 55 = some (36, 2, 0, z0, 56) := by rw [cod, ctab_162]; rfl
theorem ctab_163 : ctab.getD 163 [] = cd163 := rfl
theorem k163_0 : cod 163 0 = some (4, 0, 0, z0, 1) := by rw [cod, ctab_163]; rfl
theorem k163_1 : cod 163 1 = some (4, 0, 0, z0, 2) := by rw [cod, ctab_163]; rfl
theorem k163_2 : cod 163 2 = some (29, 40, 1, z0, 5) := by rw [cod, ctab_163]; rfl
theorem k163_5 : cod 163 5 = some (30, 40, 3, z0, 8) := by rw [cod, ctab_163]; rfl
theorem k163_8 : cod 163 8 = some (4, 0, 0, z0, 9) := by rw [cod, ctab_163]; rfl
theorem k163_9 : cod 163 9 = some (0, 0, 0, z0, 10) := by rw [cod, ctab_163]; rfl
theorem k163_10 : cod 163 10 = some (30, 40, 1, z0, 13) := by rw [cod, ctab_163]; rfl
theorem k163_13 : cod 163 13 = some (4, 0, 0, z0, 14) := by rw [cod, ctab_163]; rfl
theorem k163_14 : cod 163 14 = some (0, 0, 0, z0, 15) := by rw [cod, ctab_163]; rfl
theorem k163_15 : cod 163 15 = some (30, 40, 4, z0, 18) := by rw [cod, ctab_163]; rfl
theorem k163_18 : cod 163 18 = some (4, 0, 0, z0, 19) := by rw [cod, ctab_163]; rfl
theorem k163_19 : cod 163 19 = some (34, 135, 1, vr 40 0, 22) := by rw [cod, ctab_163]; rfl
theorem k163_22 : cod 163 22 = some (35, 0, 0, z0, 23) := by rw [cod, ctab_163]; rfl
theorem ctab_164 : ctab.getD 164 [] = cd164 := rfl
theorem k164_0 : cod 164 0 = some (4, 0, 0, z0, 1) := by rw [cod, ctab_164]; rfl
theorem k164_1 : cod 164 1 = some (29, 40, 10, z0, 4) := by rw [cod, ctab_164]; rfl
theorem k164_4 : cod 164 4 = some (0, 0, 0, vi (4), 5) := by rw [cod, ctab_164]; rfl
theorem k164_5 : cod 164 5 = some (0, 0, 0, z0, 6) := by rw [cod, ctab_164]; rfl
theorem k164_6 : cod 164 6 = some (32, 1, 0, z0, 7) := by rw [cod, ctab_164]; rfl
theorem k164_7 : cod 164 7 = some (4, 0, 0, z0, 8) := by rw [cod, ctab_164]; rfl
theorem k164_8 : cod 164 8 = some (29, 40, 10, z0, 11) := by rw [cod, ctab_164]; rfl
theorem k164_11 : cod 164 11 = some (0, 0, 0, vi (5), 12) := by rw [cod, ctab_164]; rfl
theorem k164_12 : cod 164 12 = some (0, 0, 0, z0, 13) := by rw [cod, ctab_164]; rfl
theorem k164_13 : cod 164 13 = some (32, 1, 0, z0, 14) := by rw [cod, ctab_164]; rfl
theorem k164_14 : cod 164 14 = some (4, 0, 0, z0, 15) := by rw [cod, ctab_164]; rfl
theorem k164_15 : cod 164 15 = some (29, 40, 10, z0, 18) := by rw [cod, ctab_164]; rfl
theorem k164_18 : cod 164 18 = some (0, 0, 0, vi (6), 20) := by rw [cod, ctab_164]; rfl
theorem k164_20 : cod 164 20 = some (0, 0, 0, vi (3), 21) := by rw [cod, ctab_164]; rfl
theorem k164_21 : cod 164 21 = some (32, 1, 0, z0, 22) := by rw [cod, ctab_164]; rfl
theorem k164_22 : cod 164 22 = some (4, 0, 0, z0, 23) := by rw [cod, ctab_164]; rfl
theorem k164_23 : cod 164 23 = some (29, 40, 10, z0, 26) := by rw [cod, ctab_164]; rfl
theorem k164_26 : cod 164 26 = some (0, 0, 0, vi (7), 28) := by rw [cod, ctab_164]; rfl
theorem k164_28 : cod 164 28 = some (0, 0, 0, vi (60), 30) := by rw [cod, ctab_164]; rfl
theorem k164_30 : cod 164 30 = some (32, 1, 0, z0, 31) := by rw [cod, ctab_164]; rfl
theorem k164_31 : cod 164 31 = some (4, 0, 0, z0, 32) := by rw [cod, ctab_164]; rfl
theorem k164_32 : cod 164 32 = some (29, 40, 18, z0, 35) := by rw [cod, ctab_164]; rfl
theorem k164_35 : cod 164 35 = some (0, 0, 0, vi (1), 36) := by rw [cod, ctab_164]; rfl
theorem k164_36 : cod 164 36 = some (0, 0, 0, vi (1000), 39) := by rw [cod, ctab_164]; rfl
theorem k164_39 : cod 164 39 = some (32, 1, 0, z0, 40) := by rw [cod, ctab_164]; rfl
theorem k164_40 : cod 164 40 = some (4, 0, 0, z0, 41) := by rw [cod, ctab_164]; rfl
theorem k164_41 : cod 164 41 = some (29, 40, 19, z0, 44) := by rw [cod, ctab_164]; rfl
theorem k164_44 : cod 164 44 = some (0, 0, 0, vi (1), 45) := by rw [cod, ctab_164]; rfl
theorem k164_45 : cod 164 45 = some (0, 0, 0, vi (1000), 48) := by rw [cod, ctab_164]; rfl
theorem k164_48 : cod 164 48 = some (32, 1, 0, z0, 49) := by rw [cod, ctab_164]; rfl
theorem k164_49 : cod 164 49 = some (4, 0, 0, z0, 50) := by rw [cod, ctab_164]; rfl
theorem k164_50 : cod 164 50 = some (0, 0, 0, z0, 51) := by rw [cod, ctab_164]; rfl
theorem k164_51 : cod 164 51 = some (30, 40, 22, z0, 54) := by rw [cod, ctab_164]; rfl
theorem k164_54 : cod 164 54 = some (4, 0, 0, z0, 55) := by rw [cod, ctab_164]; rfl
theorem k164_55 : cod 164 55 = some (0, 0, 0, vi (1000), 58) := by rw [cod, ctab_164]; rfl
theorem k164_58 : cod 164 58 = some (30, 40, 21, z0, 61) := by rw [cod, ctab_164]; rfl
theorem k164_61 : cod 164 61 = some (4, 0, 0, z0, 62) := by rw [cod, ctab_164]; rfl
theorem k164_62 : cod 164 62 = some (34, 163, 1, vr 40 0, 65) := by rw [cod, ctab_164]; rfl
theorem k164_65 : cod 164 65 = some (4, 0, 0, z0, 66) := by rw [cod, ctab_164]; rfl
theorem k164_66 : cod 164 66 = some (29, 40, 6, z0, 69) := by rw [cod, ctab_164]; rfl
theorem k164_69 : cod 164 69 = some (27, 0, 212, z0, 72) := by rw [cod, ctab_164]; rfl
theorem k164_72 : cod 164 72 = some (4, 0, 0, z0, 73) := by rw [cod, ctab_164]; rfl
theorem k164_73 : cod 164 73 = some (0, 0, 0, vl (283616147), 76) := by rw [cod, ctab_164]; rfl
theorem k164_76 : cod 164 76 = some (34, 136, 2, vr 40 0, 79) := by rw [cod, ctab_164]; rfl
theorem k164_79 : cod 164 79 = some (27, 0, 89, z0, 82) := by rw [cod, ctab_164]; rfl
theorem k164_82 : cod 164 82 = some (4, 0, 0, z0, 83) := by rw [cod, ctab_164]; rfl
theorem k164_83 : cod 164 83 = some (34, 157, 1, vr 40 0, 86) := by rw [cod, ctab_164]; rfl
theorem k164_86 : cod 164 86 = some (26, 202, 0, z0, 89) := by rw [cod, ctab_164]; rfl
theorem k164_89 : cod 164 89 = some (4, 0, 0, z0, 90) := by rw [cod, ctab_164]; rfl
theorem k164_90 : cod 164 90 = some (0, 0, 0, vl (237308), 93) := by rw [cod, ctab_164]; rfl
theorem k164_93 : cod 164 93 = some (34, 136, 2, vr 40 0, 96) := by rw [cod, ctab_164]; rfl
theorem k164_96 : cod 164 96 = some (27, 0, 106, z0, 99) := by rw [cod, ctab_164]; rfl
theorem k164_99 : cod 164 99 = some (4, 0, 0, z0, 100) := by rw [cod, ctab_164]; rfl
theorem k164_100 : cod 164 100 = some (34, 158, 1, vr 40 0, 103) := by rw [cod, ctab_164]; rfl
theorem k164_103 : cod 164 103 = some (26, 202, 0, z0, 106) := by rw [cod, ctab_164]; rfl
theorem k164_106 : cod 164 106 = some (4, 0, 0, z0, 107) := by rw [cod, ctab_164]; rfl
theorem k164_107 : cod 164 107 = some (0, 0, 0, vl (232608281), 110) := by rw [cod, ctab_164]; rfl
theorem k164_110 : cod 164 110 = some (34, 136, 2, vr 40 0, 113) := by rw [cod, ctab_164]; rfl
theorem k164_113 : cod 164 113 = some (27, 0, 123, z0, 116) := by rw [cod, ctab_164]; rfl
theorem k164_116 : cod 164 116 = some (4, 0, 0, z0, 117) := by rw [cod, ctab_164]; rfl
theorem k164_117 : cod 164 117 = some (34, 159, 1, vr 40 0, 120) := by rw [cod, ctab_164]; rfl
theorem k164_120 : cod 164 120 = some (26, 202, 0, z0, 123) := by rw [cod, ctab_164]; rfl
theorem k164_123 : cod 164 123 = some (4, 0, 0, z0, 124) := by rw [cod, ctab_164]; rfl
theorem k164_124 : cod 164 124 = some (0, 0, 0, vl (6132988), 127) := by rw [cod, ctab_164]; rfl
theorem k164_127 : cod 164 127 = some (34, 136, 2, vr 40 0, 130) := by rw [cod, ctab_164]; rfl
theorem k164_130 : cod 164 130 = some (27, 0, 140, z0, 133) := by rw [cod, ctab_164]; rfl
theorem k164_133 : cod 164 133 = some (4, 0, 0, z0, 134) := by rw [cod, ctab_164]; rfl
theorem k164_134 : cod 164 134 = some (34, 160, 1, vr 40 0, 137) := by rw [cod, ctab_164]; rfl
theorem k164_137 : cod 164 137 = some (26, 202, 0, z0, 140) := by rw [cod, ctab_164]; rfl
theorem k164_140 : cod 164 140 = some (4, 0, 0, z0, 141) := by rw [cod, ctab_164]; rfl
theorem k164_141 : cod 164 141 = some (0, 0, 0, vl (385331), 144) := by rw [cod, ctab_164]; rfl
theorem k164_144 : cod 164 144 = some (34, 136, 2, vr 40 0, 147) := by rw [cod, ctab_164]; rfl
theorem k164_147 : cod 164 147 = some (27, 0, 160, z0, 150) := by rw [cod, ctab_164]; rfl
theorem k164_150 : cod 164 150 = some (4, 0, 0, z0, 151) := by rw [cod, ctab_164]; rfl
theorem k164_151 : cod 164 151 = some (0, 0, 0, vi (2), 152) := by rw [cod, ctab_164]; rfl
theorem k164_152 : cod 164 152 = some (0, 0, 0, vi (9), 154) := by rw [cod, ctab_164]; rfl
theorem k164_154 : cod 164 154 = some (34, 161, 3, vr 40 0, 157) := by rw [cod, ctab_164]; rfl
theorem k164_157 : cod 164 157 = some (26, 202, 0, z0, 160) := by rw [cod, ctab_164]; rfl
theorem k164_160 : cod 164 160 = some (4, 0, 0, z0, 161) := by rw [cod, ctab_164]; rfl
theorem k164_161 : cod 164 161 = some (0, 0, 0, vl (384226), 164) := by rw [cod, ctab_164]; rfl
theorem k164_164 : cod 164 164 = some (34, 136, 2, vr 40 0, 167) := by rw [cod, ctab_164]; rfl
theorem k164_167 : cod 164 167 = some (27, 0, 180, z0, 170) := by rw [cod, ctab_164]; rfl
theorem k164_170 : cod 164 170 = some (4, 0, 0, z0, 171) := by rw [cod, ctab_164]; rfl
theorem k164_171 : cod 164 171 = some (0, 0, 0, vi (3), 172) := by rw [cod, ctab_164]; rfl
theorem k164_172 : cod 164 172 = some (0, 0, 0, vi (99), 174) := by rw [cod, ctab_164]; rfl
theorem k164_174 : cod 164 174 = some (34, 161, 3, vr 40 0, 177) := by rw [cod, ctab_164]; rfl
theorem k164_177 : cod 164 177 = some (26, 202, 0, z0, 180) := by rw [cod, ctab_164]; rfl
theorem k164_180 : cod 164 180 = some (4, 0, 0, z0, 181) := by rw [cod, ctab_164]; rfl
theorem k164_181 : cod 164 181 = some (0, 0, 0, vl (12410623), 184) := by rw [cod, ctab_164]; rfl
theorem k164_184 : cod 164 184 = some (34, 136, 2, vr 40 0, 187) := by rw [cod, ctab_164]; rfl
theorem k164_187 : cod 164 187 = some (27, 0, 197, z0, 190) := by rw [cod, ctab_164]; rfl
theorem k164_190 : cod 164 190 = some (4, 0, 0, z0, 191) := by rw [cod, ctab_164]; rfl
theorem k164_191 : cod 164 191 = some (34, 162, 1, vr 40 0, 194) := by rw [cod, ctab_164]; rfl
theorem k164_194 : cod 164 194 = some (26, 202, 0, z0, 197) := by rw [cod, ctab_164]; rfl
theorem k164_197 : cod 164 197 = some (4, 0, 0, z0, 198) := by rw [cod, ctab_164]; rfl
theorem k164_198 : cod 164 198 = some (0, 0, 0, vi (1), 199) := by rw [cod, ctab_164]; rfl
theorem k164_199 : cod 164 199 = some (34, 138, 2, vr 40 0, 202) := by rw [cod, ctab_164]; rfl
theorem k164_202 : cod 164 202 = some (5, 1, 0, z0, 203) := by rw [cod, ctab_164]; rfl
theorem k164_203 : cod 164 203 = some (2, 1, 0, z0, 204) := by rw [cod, ctab_164]; rfl
theorem k164_204 : cod 164 204 = some (27, 1, 209, z0, 207) := by rw [cod, ctab_164]; rfl
theorem k164_207 : cod 164 207 = some (0, 0, 0, z0, 208) := by rw [cod, ctab_164]; rfl
theorem k164_208 : cod 164 208 = some (36, 2, 0, z0, 209) := by rw [cod, ctab_164]; rfl
theorem k164_209 : cod 164 209 = some (26, 65, 0, z0, 212) := by rw [cod, ctab_164]; rfl
theorem k164_212 : cod 164 212 = some (0, 0, 0, vi (1), 213) := by rw [cod, ctab_164]; rfl
theorem k164_213 : cod 164 213 = some (36, 2, 0, z0, 214) := by rw [cod, ctab_164]; rfl
theorem ctab_165 : ctab.getD 165 [] = cd165 := rfl
theorem k165_0 : cod 165 0 = some (0, 0, 0, z0, 1) := by rw [cod, ctab_165]; rfl
theorem k165_1 : cod 165 1 = some (5, 2, 0, z0, 2) := by rw [cod, ctab_165]; rfl
theorem k165_2 : cod 165 2 = some (2, 2, 0, z0, 3) := by rw [cod, ctab_165]; rfl
theorem k165_3 : cod 165 3 = some (2, 1, 0, z0, 4) := by rw [cod, ctab_165]; rfl
theorem k165_4 : cod 165 4 = some (28, 3, 21, z0, 7) := by rw [cod, ctab_165]; rfl
theorem k165_7 : cod 165 7 = some (4, 0, 0, z0, 8) := by rw [cod, ctab_165]; rfl
theorem k165_8 : cod 165 8 = some (2, 2, 0, z0, 9) := by rw [cod, ctab_165]; rfl
theorem k165_9 : cod 165 9 = some (4, 0, 0, z0, 10) := by rw [cod, ctab_165]; rfl
theorem k165_10 : cod 165 10 = some (2, 1, 0, z0, 11) := by rw [cod, ctab_165]; rfl
theorem k165_11 : cod 165 11 = some (2, 2, 0, z0, 12) := by rw [cod, ctab_165]; rfl
theorem k165_12 : cod 165 12 = some (9, 0, 0, z0, 13) := by rw [cod, ctab_165]; rfl
theorem k165_13 : cod 165 13 = some (31, 1, 0, z0, 14) := by rw [cod, ctab_165]; rfl
theorem k165_14 : cod 165 14 = some (32, 1, 0, z0, 15) := by rw [cod, ctab_165]; rfl
theorem k165_15 : cod 165 15 = some (8, 2, 0, vi (1), 18) := by rw [cod, ctab_165]; rfl
theorem k165_18 : cod 165 18 = some (26, 2, 0, z0, 21) := by rw [cod, ctab_165]; rfl
theorem k165_21 : cod 165 21 = some (35, 0, 0, z0, 22) := by rw [cod, ctab_165]; rfl
theorem ctab_166 : ctab.getD 166 [] = cd166 := rfl
theorem k166_0 : cod 166 0 = some (0, 0, 0, z0, 1) := by rw [cod, ctab_166]; rfl
theorem k166_1 : cod 166 1 = some (5, 2, 0, z0, 2) := by rw [cod, ctab_166]; rfl
theorem k166_2 : cod 166 2 = some (2, 2, 0, z0, 3) := by rw [cod, ctab_166]; rfl
theorem k166_3 : cod 166 3 = some (2, 1, 0, z0, 4) := by rw [cod, ctab_166]; rfl
theorem k166_4 : cod 166 4 = some (28, 3, 21, z0, 7) := by rw [cod, ctab_166]; rfl
theorem k166_7 : cod 166 7 = some (4, 0, 0, z0, 8) := by rw [cod, ctab_166]; rfl
theorem k166_8 : cod 166 8 = some (2, 2, 0, z0, 9) := by rw [cod, ctab_166]; rfl
theorem k166_9 : cod 166 9 = some (4, 0, 0, z0, 10) := by rw [cod, ctab_166]; rfl
theorem k166_10 : cod 166 10 = some (2, 1, 0, z0, 11) := by rw [cod, ctab_166]; rfl
theorem k166_11 : cod 166 11 = some (2, 2, 0, z0, 12) := by rw [cod, ctab_166]; rfl
theorem k166_12 : cod 166 12 = some (9, 0, 0, z0, 13) := by rw [cod, ctab_166]; rfl
theorem k166_13 : cod 166 13 = some (31, 4, 0, z0, 14) := by rw [cod, ctab_166]; rfl
theorem k166_14 : cod 166 14 = some (32, 4, 0, z0, 15) := by rw [cod, ctab_166]; rfl
theorem k166_15 : cod 166 15 = some (8, 2, 0, vi (1), 18) := by rw [cod, ctab_166]; rfl
theorem k166_18 : cod 166 18 = some (26, 2, 0, z0, 21) := by rw [cod, ctab_166]; rfl
theorem k166_21 : cod 166 21 = some (35, 0, 0, z0, 22) := by rw [cod, ctab_166]; rfl
theorem ctab_167 : ctab.getD 167 [] = cd167 := rfl
theorem k167_0 : cod 167 0 = some (4, 0, 0, z0, 1) := by rw [cod, ctab_167]; rfl
theorem k167_1 : cod 167 1 = some (29, 40, 10, z0, 4) := by rw [cod, ctab_167]; rfl
theorem k167_4 : cod 167 4 = some (0, 0, 0, vi (4), 5) := by rw [cod, ctab_167]; rfl
theorem k167_5 : cod 167 5 = some (34, 165, 2, z0, 8) := by rw [cod, ctab_167]; rfl
theorem k167_8 : cod 167 8 = some (4, 0, 0, z0, 9) := by rw [cod, ctab_167]; rfl
theorem k167_9 : cod 167 9 = some (29, 40, 11, z0, 12) := by rw [cod, ctab_167]; rfl
theorem k167_12 : cod 167 12 = some (0, 0, 0, vi (5), 13) := by rw [cod, ctab_167]; rfl
theorem k167_13 : cod 167 13 = some (34, 166, 2, z0, 16) := by rw [cod, ctab_167]; rfl
theorem k167_16 : cod 167 16 = some (4, 0, 0, z0, 17) := by rw [cod, ctab_167]; rfl
theorem k167_17 : cod 167 17 = some (29, 40, 12, z0, 20) := by rw [cod, ctab_167]; rfl
theorem k167_20 : cod 167 20 = some (0, 0, 0, vi (6), 22) := by rw [cod, ctab_167]; rfl
theorem k167_22 : cod 167 22 = some (34, 166, 2, z0, 25) := by rw [cod, ctab_167]; rfl
theorem k167_25 : cod 167 25 = some (4, 0, 0, z0, 26) := by rw [cod, ctab_167]; rfl
theorem k167_26 : cod 167 26 = some (29, 40, 13, z0, 29) := by rw [cod, ctab_167]; rfl
theorem k167_29 : cod 167 29 = some (0, 0, 0, vi (5), 30) := by rw [cod, ctab_167]; rfl
theorem k167_30 : cod 167 30 = some (34, 165, 2, z0, 33) := by rw [cod, ctab_167]; rfl
theorem k167_33 : cod 167 33 = some (4, 0, 0, z0, 34) := by rw [cod, ctab_167]; rfl
theorem k167_34 : cod 167 34 = some (29, 40, 14, z0, 37) := by rw [cod, ctab_167]; rfl
theorem k167_37 : cod 167 37 = some (0, 0, 0, vi (6), 39) := by rw [cod, ctab_167]; rfl
theorem k167_39 : cod 167 39 = some (34, 165, 2, z0, 42) := by rw [cod, ctab_167]; rfl
theorem k167_42 : cod 167 42 = some (4, 0, 0, z0, 43) := by rw [cod, ctab_167]; rfl
theorem k167_43 : cod 167 43 = some (29, 40, 15, z0, 46) := by rw [cod, ctab_167]; rfl
theorem k167_46 : cod 167 46 = some (0, 0, 0, vi (6), 48) := by rw [cod, ctab_167]; rfl
theorem k167_48 : cod 167 48 = some (34, 165, 2, z0, 51) := by rw [cod, ctab_167]; rfl
theorem k167_51 : cod 167 51 = some (4, 0, 0, z0, 52) := by rw [cod, ctab_167]; rfl
theorem k167_52 : cod 167 52 = some (29, 40, 16, z0, 55) := by rw [cod, ctab_167]; rfl
theorem k167_55 : cod 167 55 = some (0, 0, 0, vi (6), 57) := by rw [cod, ctab_167]; rfl
theorem k167_57 : cod 167 57 = some (34, 165, 2, z0, 60) := by rw [cod, ctab_167]; rfl
theorem k167_60 : cod 167 60 = some (4, 0, 0, z0, 61) := by rw [cod, ctab_167]; rfl
theorem k167_61 : cod 167 61 = some (29, 40, 17, z0, 64) := by rw [cod, ctab_167]; rfl
theorem k167_64 : cod 167 64 = some (0, 0, 0, vi (6), 66) := by rw [cod, ctab_167]; rfl
theorem k167_66 : cod 167 66 = some (34, 165, 2, z0, 69) := by rw [cod, ctab_167]; rfl
theorem k167_69 : cod 167 69 = some (4, 0, 0, z0, 70) := by rw [cod, ctab_167]; rfl
theorem k167_70 : cod 167 70 = some (29, 40, 20, z0, 73) := by rw [cod, ctab_167]; rfl
theorem k167_73 : cod 167 73 = some (0, 0, 0, vi (1000), 76) := by rw [cod, ctab_167]; rfl
theorem k167_76 : cod 167 76 = some (34, 165, 2, z0, 79) := by rw [cod, ctab_167]; rfl
theorem k167_79 : cod 167 79 = some (4, 0, 0, z0, 80) := by rw [cod, ctab_167]; rfl
theorem k167_80 : cod 167 80 = some (29, 40, 18, z0, 83) := by rw [cod, ctab_167]; rfl
theorem k167_83 : cod 167 83 = some (0, 0, 0, z0, 84) := by rw [cod, ctab_167]; rfl
theorem k167_84 : cod 167 84 = some (4, 0, 0, z0, 85) := by rw [cod, ctab_167]; rfl
theorem k167_85 : cod 167 85 = some (29, 40, 18, z0, 88) := by rw [cod, ctab_167]; rfl
theorem k167_88 : cod 167 88 = some (0, 0, 0, vi (1), 89) := by rw [cod, ctab_167]; rfl
theorem k167_89 : cod 167 89 = some (31, 1, 0, z0, 90) := by rw [cod, ctab_167]; rfl
theorem k167_90 : cod 167 90 = some (0, 0, 0, vi (1000), 93) := by rw [cod, ctab_167]; rfl
theorem k167_93 : cod 167 93 = some (9, 1, 0, z0, 94) := by rw [cod, ctab_167]; rfl
theorem k167_94 : cod 167 94 = some (32, 1, 0, z0, 95) := by rw [cod, ctab_167]; rfl
theorem k167_95 : cod 167 95 = some (4, 0, 0, z0, 96) := by rw [cod, ctab_167]; rfl
theorem k167_96 : cod 167 96 = some (29, 40, 19, z0, 99) := by rw [cod, ctab_167]; rfl
theorem k167_99 : cod 167 99 = some (0, 0, 0, z0, 100) := by rw [cod, ctab_167]; rfl
theorem k167_100 : cod 167 100 = some (4, 0, 0, z0, 101) := by rw [cod, ctab_167]; rfl
theorem k167_101 : cod 167 101 = some (29, 40, 19, z0, 104) := by rw [cod, ctab_167]; rfl
theorem k167_104 : cod 167 104 = some (0, 0, 0, vi (1), 105) := by rw [cod, ctab_167]; rfl
theorem k167_105 : cod 167 105 = some (31, 1, 0, z0, 106) := by rw [cod, ctab_167]; rfl
theorem k167_106 : cod 167 106 = some (0, 0, 0, vi (1000), 109) := by rw [cod, ctab_167]; rfl
theorem k167_109 : cod 167 109 = some (9, 1, 0, z0, 110) := by rw [cod, ctab_167]; rfl
theorem k167_110 : cod 167 110 = some (32, 1, 0, z0, 111) := by rw [cod, ctab_167]; rfl
theorem k167_111 : cod 167 111 = some (35, 0, 0, z0, 112) := by rw [cod, ctab_167]; rfl
theorem ctab_168 : ctab.getD 168 [] = cd168 := rfl
theorem k168_0 : cod 168 0 = some (0, 0, 0, z0, 1) := by rw [cod, ctab_168]; rfl
theorem k168_1 : cod 168 1 = some (5, 4, 0, z0, 3) := by rw [cod, ctab_168]; rfl
theorem k168_3 : cod 168 3 = some (2, 4, 0, z0, 5) := by rw [cod, ctab_168]; rfl
theorem k168_5 : cod 168 5 = some (0, 0, 0, vi (50), 7) := by rw [cod, ctab_168]; rfl
theorem k168_7 : cod 168 7 = some (28, 3, 28, z0, 10) := by rw [cod, ctab_168]; rfl
theorem k168_10 : cod 168 10 = some (4, 2, 0, z0, 11) := by rw [cod, ctab_168]; rfl
theorem k168_11 : cod 168 11 = some (2, 3, 0, z0, 12) := by rw [cod, ctab_168]; rfl
theorem k168_12 : cod 168 12 = some (2, 4, 0, z0, 14) := by rw [cod, ctab_168]; rfl
theorem k168_14 : cod 168 14 = some (9, 0, 0, z0, 15) := by rw [cod, ctab_168]; rfl
theorem k168_15 : cod 168 15 = some (4, 0, 0, z0, 16) := by rw [cod, ctab_168]; rfl
theorem k168_16 : cod 168 16 = some (2, 1, 0, z0, 17) := by rw [cod, ctab_168]; rfl
theorem k168_17 : cod 168 17 = some (2, 4, 0, z0, 19) := by rw [cod, ctab_168]; rfl
theorem k168_19 : cod 168 19 = some (9, 0, 0, z0, 20) := by rw [cod, ctab_168]; rfl
theorem k168_20 : cod 168 20 = some (31, 1, 0, z0, 21) := by rw [cod, ctab_168]; rfl
theorem k168_21 : cod 168 21 = some (32, 1, 0, z0, 22) := by rw [cod, ctab_168]; rfl
theorem k168_22 : cod 168 22 = some (8, 4, 0, vi (1), 25) := by rw [cod, ctab_168]; rfl
theorem k168_25 : cod 168 25 = some (26, 3, 0, z0, 28) := by rw [cod, ctab_168]; rfl
theorem k168_28 : cod 168 28 = some (35, 0, 0, z0, 29) := by rw [cod, ctab_168]; rfl
theorem ctab_169 : ctab.getD 169 [] = cd169 := rfl
theorem k169_0 : cod 169 0 = some (4, 0, 0, z0, 1) := by rw [cod, ctab_169]; rfl
theorem k169_1 : cod 169 1 = some (0, 0, 0, vl (453773), 4) := by rw [cod, ctab_169]; rfl
theorem k169_4 : cod 169 4 = some (34, 136, 2, vr 40 0, 7) := by rw [cod, ctab_169]; rfl
theorem k169_7 : cod 169 7 = some (27, 0, 14, z0, 10) := by rw [cod, ctab_169]; rfl
theorem k169_10 : cod 169 10 = some (0, 0, 0, z0, 11) := by rw [cod, ctab_169]; rfl
theorem k169_11 : cod 169 11 = some (26, 57, 0, z0, 14) := by rw [cod, ctab_169]; rfl
theorem k169_14 : cod 169 14 = some (4, 0, 0, z0, 15) := by rw [cod, ctab_169]; rfl
theorem k169_15 : cod 169 15 = some (0, 0, 0, vl (459652), 18) := by rw [cod, ctab_169]; rfl
theorem k169_18 : cod 169 18 = some (34, 136, 2, vr 40 0, 21) := by rw [cod, ctab_169]; rfl
theorem k169_21 : cod 169 21 = some (27, 0, 28, z0, 24) := by rw [cod, ctab_169]; rfl
theorem k169_24 : cod 169 24 = some (0, 0, 0, vi (1), 25) := by rw [cod, ctab_169]; rfl
theorem k169_25 : cod 169 25 = some (26, 57, 0, z0, 28) := by rw [cod, ctab_169]; rfl
theorem k169_28 : cod 169 28 = some (4, 0, 0, z0, 29) := by rw [cod, ctab_169]; rfl
theorem k169_29 : cod 169 29 = some (0, 0, 0, vl (259906), 32) := by rw [cod, ctab_169]; rfl
theorem k169_32 : cod 169 32 = some (34, 136, 2, vr 40 0, 35) := by rw [cod, ctab_169]; rfl
theorem k169_35 : cod 169 35 = some (27, 0, 42, z0, 38) := by rw [cod, ctab_169]; rfl
theorem k169_38 : cod 169 38 = some (0, 0, 0, vi (2), 39) := by rw [cod, ctab_169]; rfl
theorem k169_39 : cod 169 39 = some (26, 57, 0, z0, 42) := by rw [cod, ctab_169]; rfl
theorem k169_42 : cod 169 42 = some (4, 0, 0, z0, 43) := by rw [cod, ctab_169]; rfl
theorem k169_43 : cod 169 43 = some (0, 0, 0, vl (168984), 46) := by rw [cod, ctab_169]; rfl
theorem k169_46 : cod 169 46 = some (34, 136, 2, vr 40 0, 49) := by rw [cod, ctab_169]; rfl
theorem k169_49 : cod 169 49 = some (27, 0, 56, z0, 52) := by rw [cod, ctab_169]; rfl
theorem k169_52 : cod 169 52 = some (0, 0, 0, vi (3), 53) := by rw [cod, ctab_169]; rfl
theorem k169_53 : cod 169 53 = some (26, 57, 0, z0, 56) := by rw [cod, ctab_169]; rfl
theorem k169_56 : cod 169 56 = some (0, 0, 0, vi (-1), 57) := by rw [cod, ctab_169]; rfl
theorem k169_57 : cod 169 57 = some (5, 1, 0, z0, 58) := by rw [cod, ctab_169]; rfl
theorem k169_58 : cod 169 58 = some (2, 1, 0, z0, 59) := by rw [cod, ctab_169]; rfl
theorem k169_59 : cod 169 59 = some (27, 3, 68, z0, 62) := by rw [cod, ctab_169]; rfl
theorem k169_62 : cod 169 62 = some (4, 0, 0, z0, 63) := by rw [cod, ctab_169]; rfl
theorem k169_63 : cod 169 63 = some (0, 0, 0, vi (1), 64) := by rw [cod, ctab_169]; rfl
theorem k169_64 : cod 169 64 = some (34, 138, 2, vr 40 0, 67) := by rw [cod, ctab_169]; rfl
theorem k169_67 : cod 169 67 = some (36, 2, 0, z0, 68) := by rw [cod, ctab_169]; rfl
theorem k169_68 : cod 169 68 = some (4, 0, 0, z0, 69) := by rw [cod, ctab_169]; rfl
theorem k169_69 : cod 169 69 = some (29, 40, 38, z0, 72) := by rw [cod, ctab_169]; rfl
theorem k169_72 : cod 169 72 = some (0, 0, 0, vi (5), 73) := by rw [cod, ctab_169]; rfl
theorem k169_73 : cod 169 73 = some (31, 1, 0, z0, 74) := by rw [cod, ctab_169]; rfl
theorem k169_74 : cod 169 74 = some (0, 0, 0, vi (40), 76) := by rw [cod, ctab_169]; rfl
theorem k169_76 : cod 169 76 = some (28, 1, 85, z0, 79) := by rw [cod, ctab_169]; rfl
theorem k169_79 : cod 169 79 = some (4, 0, 0, z0, 80) := by rw [cod, ctab_169]; rfl
theorem k169_80 : cod 169 80 = some (0, 0, 0, vi (5), 81) := by rw [cod, ctab_169]; rfl
theorem k169_81 : cod 169 81 = some (34, 138, 2, vr 40 0, 84) := by rw [cod, ctab_169]; rfl
theorem k169_84 : cod 169 84 = some (36, 2, 0, z0, 85) := by rw [cod, ctab_169]; rfl
theorem k169_85 : cod 169 85 = some (4, 0, 0, z0, 86) := by rw [cod, ctab_169]; rfl
theorem k169_86 : cod 169 86 = some (34, 135, 1, vr 40 0, 89) := by rw [cod, ctab_169]; rfl
theorem k169_89 : cod 169 89 = some (0, 0, 0, vi (200), 92) := by rw [cod, ctab_169]; rfl
theorem k169_92 : cod 169 92 = some (4, 0, 0, z0, 93) := by rw [cod, ctab_169]; rfl
theorem k169_93 : cod 169 93 = some (29, 40, 38, z0, 96) := by rw [cod, ctab_169]; rfl
theorem k169_96 : cod 169 96 = some (0, 0, 0, vi (5), 97) := by rw [cod, ctab_169]; rfl
theorem k169_97 : cod 169 97 = some (31, 1, 0, z0, 98) := by rw [cod, ctab_169]; rfl
theorem k169_98 : cod 169 98 = some (9, 0, 0, z0, 99) := by rw [cod, ctab_169]; rfl
theorem k169_99 : cod 169 99 = some (5, 2, 0, z0, 100) := by rw [cod, ctab_169]; rfl
theorem k169_100 : cod 169 100 = some (4, 0, 0, z0, 101) := by rw [cod, ctab_169]; rfl
theorem k169_101 : cod 169 101 = some (29, 40, 39, z0, 104) := by rw [cod, ctab_169]; rfl
theorem k169_104 : cod 169 104 = some (2, 2, 0, z0, 105) := by rw [cod, ctab_169]; rfl
theorem k169_105 : cod 169 105 = some (2, 1, 0, z0, 106) := by rw [cod, ctab_169]; rfl
theorem k169_106 : cod 169 106 = some (32, 1, 0, z0, 107) := by rw [cod, ctab_169]; rfl
theorem k169_107 : cod 169 107 = some (2, 1, 0, z0, 108) := by rw [cod, ctab_169]; rfl
theorem k169_108 : cod 169 108 = some (27, 1, 150, z0, 111) := by rw [cod, ctab_169]; rfl
theorem k169_111 : cod 169 111 = some (4, 0, 0, z0, 112) := by rw [cod, ctab_169]; rfl
theorem k169_112 : cod 169 112 = some (0, 0, 0, z0, 113) := by rw [cod, ctab_169]; rfl
theorem k169_113 : cod 169 113 = some (34, 154, 2, vr 40 0, 116) := by rw [cod, ctab_169]; rfl
theorem k169_116 : cod 169 116 = some (27, 1, 121, z0, 119) := by rw [cod, ctab_169]; rfl
theorem k169_119 : cod 169 119 = some (0, 0, 0, z0, 120) := by rw [cod, ctab_169]; rfl
theorem k169_120 : cod 169 120 = some (36, 2, 0, z0, 121) := by rw [cod, ctab_169]; rfl
theorem k169_121 : cod 169 121 = some (4, 0, 0, z0, 122) := by rw [cod, ctab_169]; rfl
theorem k169_122 : cod 169 122 = some (4, 0, 0, z0, 123) := by rw [cod, ctab_169]; rfl
theorem k169_123 : cod 169 123 = some (29, 40, 35, z0, 126) := by rw [cod, ctab_169]; rfl
theorem k169_126 : cod 169 126 = some (30, 40, 37, z0, 129) := by rw [cod, ctab_169]; rfl
theorem k169_129 : cod 169 129 = some (4, 0, 0, z0, 130) := by rw [cod, ctab_169]; rfl
theorem k169_130 : cod 169 130 = some (34, 135, 1, vr 40 0, 133) := by rw [cod, ctab_169]; rfl
theorem k169_133 : cod 169 133 = some (4, 0, 0, z0, 134) := by rw [cod, ctab_169]; rfl
theorem k169_134 : cod 169 134 = some (0, 0, 0, z0, 135) := by rw [cod, ctab_169]; rfl
theorem k169_135 : cod 169 135 = some (34, 153, 2, vr 40 0, 138) := by rw [cod, ctab_169]; rfl
theorem k169_138 : cod 169 138 = some (27, 1, 143, z0, 141) := by rw [cod, ctab_169]; rfl
theorem k169_141 : cod 169 141 = some (0, 0, 0, z0, 142) := by rw [cod, ctab_169]; rfl
theorem k169_142 : cod 169 142 = some (36, 2, 0, z0, 143) := by rw [cod, ctab_169]; rfl
theorem k169_143 : cod 169 143 = some (4, 0, 0, z0, 144) := by rw [cod, ctab_169]; rfl
theorem k169_144 : cod 169 144 = some (34, 135, 1, vr 40 0, 147) := by rw [cod, ctab_169]; rfl
theorem k169_147 : cod 169 147 = some (26, 200, 0, z0, 150) := by rw [cod, ctab_169]; rfl
theorem k169_150 : cod 169 150 = some (2, 1, 0, z0, 151) := by rw [cod, ctab_169]; rfl
theorem k169_151 : cod 169 151 = some (0, 0, 0, vi (1), 152) := by rw [cod, ctab_169]; rfl
theorem k169_152 : cod 169 152 = some (28, 1, 173, z0, 155) := by rw [cod, ctab_169]; rfl
theorem k169_155 : cod 169 155 = some (4, 0, 0, z0, 156) := by rw [cod, ctab_169]; rfl
theorem k169_156 : cod 169 156 = some (0, 0, 0, z0, 157) := by rw [cod, ctab_169]; rfl
theorem k169_157 : cod 169 157 = some (0, 0, 0, z0, 158) := by rw [cod, ctab_169]; rfl
theorem k169_158 : cod 169 158 = some (34, 155, 3, vr 40 0, 161) := by rw [cod, ctab_169]; rfl
theorem k169_161 : cod 169 161 = some (27, 1, 166, z0, 164) := by rw [cod, ctab_169]; rfl
theorem k169_164 : cod 169 164 = some (0, 0, 0, z0, 165) := by rw [cod, ctab_169]; rfl
theorem k169_165 : cod 169 165 = some (36, 2, 0, z0, 166) := by rw [cod, ctab_169]; rfl
theorem k169_166 : cod 169 166 = some (4, 0, 0, z0, 167) := by rw [cod, ctab_169]; rfl
theorem k169_167 : cod 169 167 = some (34, 135, 1, vr 40 0, 170) := by rw [cod, ctab_169]; rfl
theorem k169_170 : cod 169 170 = some (26, 200, 0, z0, 173) := by rw [cod, ctab_169]; rfl
theorem k169_173 : cod 169 173 = some (2, 1, 0, z0, 174) := by rw [cod, ctab_169]; rfl
theorem k169_174 : cod 169 174 = some (0, 0, 0, vi (2), 175) := by rw [cod, ctab_169]; rfl
theorem k169_175 : cod 169 175 = some (28, 1, 200, z0, 178) := by rw [cod, ctab_169]; rfl
theorem k169_178 : cod 169 178 = some (4, 0, 0, z0, 179) := by rw [cod, ctab_169]; rfl
theorem k169_179 : cod 169 179 = some (0, 0, 0, z0, 180) := by rw [cod, ctab_169]; rfl
theorem k169_180 : cod 169 180 = some (34, 154, 2, vr 40 0, 183) := by rw [cod, ctab_169]; rfl
theorem k169_183 : cod 169 183 = some (27, 1, 188, z0, 186) := by rw [cod, ctab_169]; rfl
theorem k169_186 : cod 169 186 = some (0, 0, 0, z0, 187) := by rw [cod, ctab_169]; rfl
theorem k169_187 : cod 169 187 = some (36, 2, 0, z0, 188) := by rw [cod, ctab_169]; rfl
theorem k169_188 : cod 169 188 = some (4, 0, 0, z0, 189) := by rw [cod, ctab_169]; rfl
theorem k169_189 : cod 169 189 = some (4, 0, 0, z0, 190) := by rw [cod, ctab_169]; rfl
theorem k169_190 : cod 169 190 = some (29, 40, 35, z0, 193) := by rw [cod, ctab_169]; rfl
theorem k169_193 : cod 169 193 = some (30, 40, 37, z0, 196) := by rw [cod, ctab_169]; rfl
theorem k169_196 : cod 169 196 = some (4, 0, 0, z0, 197) := by rw [cod, ctab_169]; rfl
theorem k169_197 : cod 169 197 = some (34, 135, 1, vr 40 0, 200) := by rw [cod, ctab_169]; rfl
theorem k169_200 : cod 169 200 = some (4, 0, 0, z0, 201) := by rw [cod, ctab_169]; rfl
theorem k169_201 : cod 169 201 = some (29, 40, 40, z0, 204) := by rw [cod, ctab_169]; rfl
theorem k169_204 : cod 169 204 = some (2, 2, 0, z0, 205) := by rw [cod, ctab_169]; rfl
theorem k169_205 : cod 169 205 = some (4, 0, 0, z0, 206) := by rw [cod, ctab_169]; rfl
theorem k169_206 : cod 169 206 = some (29, 40, 37, z0, 209) := by rw [cod, ctab_169]; rfl
theorem k169_209 : cod 169 209 = some (32, 1, 0, z0, 210) := by rw [cod, ctab_169]; rfl
theorem k169_210 : cod 169 210 = some (4, 0, 0, z0, 211) := by rw [cod, ctab_169]; rfl
theorem k169_211 : cod 169 211 = some (29, 40, 41, z0, 214) := by rw [cod, ctab_169]; rfl
theorem k169_214 : cod 169 214 = some (2, 2, 0, z0, 215) := by rw [cod, ctab_169]; rfl
theorem k169_215 : cod 169 215 = some (4, 0, 0, z0, 216) := by rw [cod, ctab_169]; rfl
theorem k169_216 : cod 169 216 = some (29, 40, 35, z0, 219) := by rw [cod, ctab_169]; rfl
theorem k169_219 : cod 169 219 = some (32, 1, 0, z0, 220) := by rw [cod, ctab_169]; rfl
theorem k169_220 : cod 169 220 = some (4, 0, 0, z0, 221) := by rw [cod, ctab_169]; rfl
theorem k169_221 : cod 169 221 = some (29, 40, 38, z0, 224) := by rw [cod, ctab_169]; rfl
theorem k169_224 : cod 169 224 = some (0, 0, 0, vi (5), 225) := by rw [cod, ctab_169]; rfl
theorem k169_225 : cod 169 225 = some (24, 0, 0, z0, 226) := by rw [cod, ctab_169]; rfl
theorem k169_226 : cod 169 226 = some (31, 1, 0, z0, 227) := by rw [cod, ctab_169]; rfl
theorem k169_227 : cod 169 227 = some (0, 0, 0, vi (1), 228) := by rw [cod, ctab_169]; rfl
theorem k169_228 : cod 169 228 = some (9, 0, 0, z0, 229) := by rw [cod, ctab_169]; rfl
theorem k169_229 : cod 169 229 = some (32, 1, 0, z0, 230) := by rw [cod, ctab_169]; rfl
theorem k169_230 : cod 169 230 = some (4, 0, 0, z0, 231) := by rw [cod, ctab_169]; rfl
theorem k169_231 : cod 169 231 = some (34, 151, 1, vr 40 0, 234) := by rw [cod, ctab_169]; rfl
theorem k169_234 : cod 169 234 = some (36, 2, 0, z0, 235) := by rw [cod, ctab_169]; rfl
theorem ctab_170 : ctab.getD 170 [] = cd170 := rfl
theorem k170_0 : cod 170 0 = some (4, 0, 0, z0, 1) := by rw [cod, ctab_170]; rfl
theorem k170_1 : cod 170 1 = some (29, 40, 38, z0, 4) := by rw [cod, ctab_170]; rfl
theorem k170_4 : cod 170 4 = some (2, 2, 0, z0, 5) := by rw [cod, ctab_170]; rfl
theorem k170_5 : cod 170 5 = some (4, 0, 0, z0, 6) := by rw [cod, ctab_170]; rfl
theorem k170_6 : cod 170 6 = some (29, 40, 38, z0, 9) := by rw [cod, ctab_170]; rfl
theorem k170_9 : cod 170 9 = some (2, 1, 0, z0, 10) := by rw [cod, ctab_170]; rfl
theorem k170_10 : cod 170 10 = some (31, 1, 0, z0, 11) := by rw [cod, ctab_170]; rfl
theorem k170_11 : cod 170 11 = some (32, 1, 0, z0, 12) := by rw [cod, ctab_170]; rfl
theorem k170_12 : cod 170 12 = some (0, 0, 0, z0, 13) := by rw [cod, ctab_170]; rfl
theorem k170_13 : cod 170 13 = some (5, 3, 0, z0, 14) := by rw [cod, ctab_170]; rfl
theorem k170_14 : cod 170 14 = some (2, 3, 0, z0, 15) := by rw [cod, ctab_170]; rfl
theorem k170_15 : cod 170 15 = some (0, 0, 0, vi (40), 17) := by rw [cod, ctab_170]; rfl
theorem k170_17 : cod 170 17 = some (28, 3, 92, z0, 20) := by rw [cod, ctab_170]; rfl
theorem k170_20 : cod 170 20 = some (4, 0, 0, z0, 21) := by rw [cod, ctab_170]; rfl
theorem k170_21 : cod 170 21 = some (29, 40, 39, z0, 24) := by rw [cod, ctab_170]; rfl
theorem k170_24 : cod 170 24 = some (0, 0, 0, vi (40), 26) := by rw [cod, ctab_170]; rfl
theorem k170_26 : cod 170 26 = some (2, 2, 0, z0, 27) := by rw [cod, ctab_170]; rfl
theorem k170_27 : cod 170 27 = some (9, 2, 0, z0, 28) := by rw [cod, ctab_170]; rfl
theorem k170_28 : cod 170 28 = some (2, 3, 0, z0, 29) := by rw [cod, ctab_170]; rfl
theorem k170_29 : cod 170 29 = some (9, 0, 0, z0, 30) := by rw [cod, ctab_170]; rfl
theorem k170_30 : cod 170 30 = some (4, 0, 0, z0, 31) := by rw [cod, ctab_170]; rfl
theorem k170_31 : cod 170 31 = some (29, 40, 39, z0, 34) := by rw [cod, ctab_170]; rfl
theorem k170_34 : cod 170 34 = some (0, 0, 0, vi (40), 36) := by rw [cod, ctab_170]; rfl
theorem k170_36 : cod 170 36 = some (2, 1, 0, z0, 37) := by rw [cod, ctab_170]; rfl
theorem k170_37 : cod 170 37 = some (9, 2, 0, z0, 38) := by rw [cod, ctab_170]; rfl
theorem k170_38 : cod 170 38 = some (2, 3, 0, z0, 39) := by rw [cod, ctab_170]; rfl
theorem k170_39 : cod 170 39 = some (9, 0, 0, z0, 40) := by rw [cod, ctab_170]; rfl
theorem k170_40 : cod 170 40 = some (31, 1, 0, z0, 41) := by rw [cod, ctab_170]; rfl
theorem k170_41 : cod 170 41 = some (32, 1, 0, z0, 42) := by rw [cod, ctab_170]; rfl
theorem k170_42 : cod 170 42 = some (4, 0, 0, z0, 43) := by rw [cod, ctab_170]; rfl
theorem k170_43 : cod 170 43 = some (29, 40, 40, z0, 46) := by rw [cod, ctab_170]; rfl
theorem k170_46 : cod 170 46 = some (0, 0, 0, vi (40), 48) := by rw [cod, ctab_170]; rfl
theorem k170_48 : cod 170 48 = some (2, 2, 0, z0, 49) := by rw [cod, ctab_170]; rfl
theorem k170_49 : cod 170 49 = some (9, 2, 0, z0, 50) := by rw [cod, ctab_170]; rfl
theorem k170_50 : cod 170 50 = some (2, 3, 0, z0, 51) := by rw [cod, ctab_170]; rfl
theorem k170_51 : cod 170 51 = some (9, 0, 0, z0, 52) := by rw [cod, ctab_170]; rfl
theorem k170_52 : cod 170 52 = some (4, 0, 0, z0, 53) := by rw [cod, ctab_170]; rfl
theorem k170_53 : cod 170 53 = some (29, 40, 40, z0, 56) := by rw [cod, ctab_170]; rfl
theorem k170_56 : cod 170 56 = some (0, 0, 0, vi (40), 58) := by rw [cod, ctab_170]; rfl
theorem k170_58 : cod 170 58 = some (2, 1, 0, z0, 59) := by rw [cod, ctab_170]; rfl
theorem k170_59 : cod 170 59 = some (9, 2, 0, z0, 60) := by rw [cod, ctab_170]; rfl
theorem k170_60 : cod 170 60 = some (2, 3, 0, z0, 61) := by rw [cod, ctab_170]; rfl
theorem k170_61 : cod 170 61 = some (9, 0, 0, z0, 62) := by rw [cod, ctab_170]; rfl
theorem k170_62 : cod 170 62 = some (31, 1, 0, z0, 63) := by rw [cod, ctab_170]; rfl
theorem k170_63 : cod 170 63 = some (32, 1, 0, z0, 64) := by rw [cod, ctab_170]; rfl
theorem k170_64 : cod 170 64 = some (4, 0, 0, z0, 65) := by rw [cod, ctab_170]; rfl
theorem k170_65 : cod 170 65 = some (29, 40, 41, z0, 68) := by rw [cod, ctab_170]; rfl
theorem k170_68 : cod 170 68 = some (0, 0, 0, vi (40), 70) := by rw [cod, ctab_170]; rfl
theorem k170_70 : cod 170 70 = some (2, 2, 0, z0, 71) := by rw [cod, ctab_170]; rfl
theorem k170_71 : cod 170 71 = some (9, 2, 0, z0, 72) := by rw [cod, ctab_170]; rfl
theorem k170_72 : cod 170 72 = some (2, 3, 0, z0, 73) := by rw [cod, ctab_170]; rfl
theorem k170_73 : cod 170 73 = some (9, 0, 0, z0, 74) := by rw [cod, ctab_170]; rfl
theorem k170_74 : cod 170 74 = some (4, 0, 0, z0, 75) := by rw [cod, ctab_170]; rfl
theorem k170_75 : cod 170 75 = some (29, 40, 41, z0, 78) := by rw [cod, ctab_170]; rfl
theorem k170_78 : cod 170 78 = some (0, 0, 0, vi (40), 80) := by rw [cod, ctab_170]; rfl
theorem k170_80 : cod 170 80 = some (2, 1, 0, z0, 81) := by rw [cod, ctab_170]; rfl
theorem k170_81 : cod 170 81 = some (9, 2, 0, z0, 82) := by rw [cod, ctab_170]; rfl
theorem k170_82 : cod 170 82 = some (2, 3, 0, z0, 83) := by rw [cod, ctab_170]; rfl
theorem k170_83 : cod 170 83 = some (9, 0, 0, z0, 84) := by rw [cod, ctab_170]; rfl
theorem k170_84 : cod 170 84 = some (31, 1, 0, z0, 85) := by rw [cod, ctab_170]; rfl
theorem k170_85 : cod 170 85 = some (32, 1, 0, z0, 86) := by rw [cod, ctab_170]; rfl
theorem k170_86 : cod 170 86 = some (8, 3, 0, vi (1), 89) := by rw [cod, ctab_170]; rfl
theorem k170_89 : cod 170 89 = some (26, 14, 0, z0, 92) := by rw [cod, ctab_170]; rfl
theorem k170_92 : cod 170 92 = some (35, 0, 0, z0, 93) := by rw [cod, ctab_170]; rfl
theorem ctab_171 : ctab.getD 171 [] = cd171 := rfl
theorem k171_0 : cod 171 0 = some (0, 0, 0, z0, 1) := by rw [cod, ctab_171]; rfl
theorem k171_1 : cod 171 1 = some (5, 1, 0, z0, 2) := by rw [cod, ctab_171]; rfl
theorem k171_2 : cod 171 2 = some (2, 1, 0, z0, 3) := by rw [cod, ctab_171]; rfl
theorem k171_3 : cod 171 3 = some (0, 0, 0, vi (50), 5) := by rw [cod, ctab_171]; rfl
theorem k171_5 : cod 171 5 = some (28, 3, 21, z0, 8) := by rw [cod, ctab_171]; rfl
theorem k171_8 : cod 171 8 = some (4, 0, 0, z0, 9) := by rw [cod, ctab_171]; rfl
theorem k171_9 : cod 171 9 = some (29, 40, 43, z0, 12) := by rw [cod, ctab_171]; rfl
theorem k171_12 : cod 171 12 = some (2, 1, 0, z0, 13) := by rw [cod, ctab_171]; rfl
theorem k171_13 : cod 171 13 = some (0, 0, 0, z0, 14) := by rw [cod, ctab_171]; rfl
theorem k171_14 : cod 171 14 = some (32, 1, 0, z0, 15) := by rw [cod, ctab_171]; rfl
theorem k171_15 : cod 171 15 = some (8, 1, 0, vi (1), 18) := by rw [cod, ctab_171]; rfl
theorem k171_18 : cod 171 18 = some (26, 2, 0, z0, 21) := by rw [cod, ctab_171]; rfl
theorem k171_21 : cod 171 21 = some (0, 0, 0, z0, 22) := by rw [cod, ctab_171]; rfl
theorem k171_22 : cod 171 22 = some (5, 1, 0, z0, 23) := by rw [cod, ctab_171]; rfl
theorem k171_23 : cod 171 23 = some (2, 1, 0, z0, 24) := by rw [cod, ctab_171]; rfl
theorem k171_24 : cod 171 24 = some (4, 0, 0, z0, 25) := by rw [cod, ctab_171]; rfl
theorem k171_25 : cod 171 25 = some (29, 40, 10, z0, 28) := by rw [cod, ctab_171]; rfl
theorem k171_28 : cod 171 28 = some (0, 0, 0, vi (1), 29) := by rw [cod, ctab_171]; rfl
theorem k171_29 : cod 171 29 = some (31, 1, 0, z0, 30) := by rw [cod, ctab_171]; rfl
theorem k171_30 : cod 171 30 = some (28, 3, 68, z0, 33) := by rw [cod, ctab_171]; rfl
theorem k171_33 : cod 171 33 = some (4, 0, 0, z0, 34) := by rw [cod, ctab_171]; rfl
theorem k171_34 : cod 171 34 = some (29, 40, 43, z0, 37) := by rw [cod, ctab_171]; rfl
theorem k171_37 : cod 171 37 = some (0, 0, 0, vi (2), 38) := by rw [cod, ctab_171]; rfl
theorem k171_38 : cod 171 38 = some (2, 1, 0, z0, 39) := by rw [cod, ctab_171]; rfl
theorem k171_39 : cod 171 39 = some (9, 0, 0, z0, 40) := by rw [cod, ctab_171]; rfl
theorem k171_40 : cod 171 40 = some (4, 0, 0, z0, 41) := by rw [cod, ctab_171]; rfl
theorem k171_41 : cod 171 41 = some (29, 40, 15, z0, 44) := by rw [cod, ctab_171]; rfl
theorem k171_44 : cod 171 44 = some (2, 1, 0, z0, 45) := by rw [cod, ctab_171]; rfl
theorem k171_45 : cod 171 45 = some (31, 1, 0, z0, 46) := by rw [cod, ctab_171]; rfl
theorem k171_46 : cod 171 46 = some (32, 1, 0, z0, 47) := by rw [cod, ctab_171]; rfl
theorem k171_47 : cod 171 47 = some (4, 0, 0, z0, 48) := by rw [cod, ctab_171]; rfl
theorem k171_48 : cod 171 48 = some (29, 40, 43, z0, 51) := by rw [cod, ctab_171]; rfl
theorem k171_51 : cod 171 51 = some (0, 0, 0, vi (8), 53) := by rw [cod, ctab_171]; rfl
theorem k171_53 : cod 171 53 = some (2, 1, 0, z0, 54) := by rw [cod, ctab_171]; rfl
theorem k171_54 : cod 171 54 = some (9, 0, 0, z0, 55) := by rw [cod, ctab_171]; rfl
theorem k171_55 : cod 171 55 = some (4, 0, 0, z0, 56) := by rw [cod, ctab_171]; rfl
theorem k171_56 : cod 171 56 = some (29, 40, 16, z0, 59) := by rw [cod, ctab_171]; rfl
theorem k171_59 : cod 171 59 = some (2, 1, 0, z0, 60) := by rw [cod, ctab_171]; rfl
theorem k171_60 : cod 171 60 = some (31, 1, 0, z0, 61) := by rw [cod, ctab_171]; rfl
theorem k171_61 : cod 171 61 = some (32, 1, 0, z0, 62) := by rw [cod, ctab_171]; rfl
theorem k171_62 : cod 171 62 = some (8, 1, 0, vi (1), 65) := by rw [cod, ctab_171]; rfl
theorem k171_65 : cod 171 65 = some (26, 23, 0, z0, 68) := by rw [cod, ctab_171]; rfl
theorem k171_68 : cod 171 68 = some (35, 0, 0, z0, 69) := by rw [cod, ctab_171]; rfl
theorem ctab_172 : ctab.getD 172 [] = cd172 := rfl
theorem k172_0 : cod 172 0 = some (0, 0, 0, z0, 1) := by rw [cod, ctab_172]; rfl
theorem k172_1 : cod 172 1 = some (5, 1, 0, z0, 2) := by rw [cod, ctab_172]; rfl
theorem k172_2 : cod 172 2 = some (2, 1, 0, z0, 3) := by rw [cod, ctab_172]; rfl
theorem k172_3 : cod 172 3 = some (0, 0, 0, vi (6), 5) := by rw [cod, ctab_172]; rfl
theorem k172_5 : cod 172 5 = some (28, 3, 21, z0, 8) := by rw [cod, ctab_172]; rfl
theorem k172_8 : cod 172 8 = some (4, 0, 0, z0, 9) := by rw [cod, ctab_172]; rfl
theorem k172_9 : cod 172 9 = some (29, 40, 42, z0, 12) := by rw [cod, ctab_172]; rfl
theorem k172_12 : cod 172 12 = some (2, 1, 0, z0, 13) := by rw [cod, ctab_172]; rfl
theorem k172_13 : cod 172 13 = some (0, 0, 0, vi (-1), 14) := by rw [cod, ctab_172]; rfl
theorem k172_14 : cod 172 14 = some (32, 1, 0, z0, 15) := by rw [cod, ctab_172]; rfl
theorem k172_15 : cod 172 15 = some (8, 1, 0, vi (1), 18) := by rw [cod, ctab_172]; rfl
theorem k172_18 : cod 172 18 = some (26, 2, 0, z0, 21) := by rw [cod, ctab_172]; rfl
theorem k172_21 : cod 172 21 = some (35, 0, 0, z0, 22) := by rw [cod, ctab_172]; rfl
theorem ctab_173 : ctab.getD 173 [] = cd173 := rfl
theorem k173_0 : cod 173 0 = some (4, 0, 0, z0, 1) := by rw [cod, ctab_173]; rfl
theorem k173_1 : cod 173 1 = some (0, 0, 0, z0, 2) := by rw [cod, ctab_173]; rfl
theorem k173_2 : cod 173 2 = some (30, 40, 0, z0, 5) := by rw [cod, ctab_173]; rfl
theorem k173_5 : cod 173 5 = some (4, 0, 0, z0, 6) := by rw [cod, ctab_173]; rfl
theorem k173_6 : cod 173 6 = some (34, 164, 1, vr 40 0, 9) := by rw [cod, ctab_173]; rfl
theorem k173_9 : cod 173 9 = some (27, 1, 17, z0, 12) := by rw [cod, ctab_173]; rfl
theorem k173_12 : cod 173 12 = some (4, 0, 0, z0, 13) := by rw [cod, ctab_173]; rfl
theorem k173_13 : cod 173 13 = some (29, 40, 9, z0, 16) := by rw [cod, ctab_173]; rfl
theorem k173_16 : cod 173 16 = some (36, 1, 0, z0, 17) := by rw [cod, ctab_173]; rfl
theorem k173_17 : cod 173 17 = some (4, 0, 0, z0, 18) := by rw [cod, ctab_173]; rfl
theorem k173_18 : cod 173 18 = some (34, 167, 1, vr 40 0, 21) := by rw [cod, ctab_173]; rfl
theorem k173_21 : cod 173 21 = some (4, 0, 0, z0, 22) := by rw [cod, ctab_173]; rfl
theorem k173_22 : cod 173 22 = some (34, 171, 1, vr 40 0, 25) := by rw [cod, ctab_173]; rfl
theorem k173_25 : cod 173 25 = some (4, 0, 0, z0, 26) := by rw [cod, ctab_173]; rfl
theorem k173_26 : cod 173 26 = some (34, 172, 1, vr 40 0, 29) := by rw [cod, ctab_173]; rfl
theorem k173_29 : cod 173 29 = some (4, 0, 0, z0, 30) := by rw [cod, ctab_173]; rfl
theorem k173_30 : cod 173 30 = some (29, 40, 38, z0, 33) := by rw [cod, ctab_173]; rfl
theorem k173_33 : cod 173 33 = some (0, 0, 0, z0, 34) := by rw [cod, ctab_173]; rfl
theorem k173_34 : cod 173 34 = some (0, 0, 0, z0, 35) := by rw [cod, ctab_173]; rfl
theorem k173_35 : cod 173 35 = some (32, 1, 0, z0, 36) := by rw [cod, ctab_173]; rfl
theorem k173_36 : cod 173 36 = some (4, 0, 0, z0, 37) := by rw [cod, ctab_173]; rfl
theorem k173_37 : cod 173 37 = some (0, 0, 0, z0, 38) := by rw [cod, ctab_173]; rfl
theorem k173_38 : cod 173 38 = some (30, 40, 49, z0, 41) := by rw [cod, ctab_173]; rfl
theorem k173_41 : cod 173 41 = some (0, 0, 0, z0, 42) := by rw [cod, ctab_173]; rfl
theorem k173_42 : cod 173 42 = some (5, 1, 0, z0, 43) := by rw [cod, ctab_173]; rfl
theorem k173_43 : cod 173 43 = some (2, 1, 0, z0, 44) := by rw [cod, ctab_173]; rfl
theorem k173_44 : cod 173 44 = some (0, 0, 0, vi (4), 45) := by rw [cod, ctab_173]; rfl
theorem k173_45 : cod 173 45 = some (28, 3, 61, z0, 48) := by rw [cod, ctab_173]; rfl
theorem k173_48 : cod 173 48 = some (4, 0, 0, z0, 49) := by rw [cod, ctab_173]; rfl
theorem k173_49 : cod 173 49 = some (29, 40, 48, z0, 52) := by rw [cod, ctab_173]; rfl
theorem k173_52 : cod 173 52 = some (2, 1, 0, z0, 53) := by rw [cod, ctab_173]; rfl
theorem k173_53 : cod 173 53 = some (0, 0, 0, z0, 54) := by rw [cod, ctab_173]; rfl
theorem k173_54 : cod 173 54 = some (32, 3, 0, z0, 55) := by rw [cod, ctab_173]; rfl
theorem k173_55 : cod 173 55 = some (8, 1, 0, vi (1), 58) := by rw [cod, ctab_173]; rfl
theorem k173_58 : cod 173 58 = some (26, 43, 0, z0, 61) := by rw [cod, ctab_173]; rfl
theorem k173_61 : cod 173 61 = some (0, 0, 0, z0, 62) := by rw [cod, ctab_173]; rfl
theorem k173_62 : cod 173 62 = some (36, 1, 0, z0, 63) := by rw [cod, ctab_173]; rfl
theorem ctab_174 : ctab.getD 174 [] = cd174 := rfl
theorem k174_0 : cod 174 0 = some (4, 0, 0, z0, 1) := by rw [cod, ctab_174]; rfl
theorem k174_1 : cod 174 1 = some (0, 0, 0, z0, 2) := by rw [cod, ctab_174]; rfl
theorem k174_2 : cod 174 2 = some (30, 40, 0, z0, 5) := by rw [cod, ctab_174]; rfl
theorem k174_5 : cod 174 5 = some (4, 0, 0, z0, 6) := by rw [cod, ctab_174]; rfl
theorem k174_6 : cod 174 6 = some (29, 40, 38, z0, 9) := by rw [cod, ctab_174]; rfl
theorem k174_9 : cod 174 9 = some (0, 0, 0, vi (5), 10) := by rw [cod, ctab_174]; rfl
theorem k174_10 : cod 174 10 = some (0, 0, 0, z0, 11) := by rw [cod, ctab_174]; rfl
theorem k174_11 : cod 174 11 = some (32, 1, 0, z0, 12) := by rw [cod, ctab_174]; rfl
theorem k174_12 : cod 174 12 = some (4, 0, 0, z0, 13) := by rw [cod, ctab_174]; rfl
theorem k174_13 : cod 174 13 = some (0, 0, 0, z0, 14) := by rw [cod, ctab_174]; rfl
theorem k174_14 : cod 174 14 = some (30, 40, 37, z0, 17) := by rw [cod, ctab_174]; rfl
theorem k174_17 : cod 174 17 = some (4, 0, 0, z0, 18) := by rw [cod, ctab_174]; rfl
theorem k174_18 : cod 174 18 = some (0, 0, 0, z0, 19) := by rw [cod, ctab_174]; rfl
theorem k174_19 : cod 174 19 = some (30, 40, 35, z0, 22) := by rw [cod, ctab_174]; rfl
theorem k174_22 : cod 174 22 = some (4, 0, 0, z0, 23) := by rw [cod, ctab_174]; rfl
theorem k174_23 : cod 174 23 = some (34, 163, 1, vr 40 0, 26) := by rw [cod, ctab_174]; rfl
theorem k174_26 : cod 174 26 = some (4, 0, 0, z0, 27) := by rw [cod, ctab_174]; rfl
theorem k174_27 : cod 174 27 = some (29, 40, 6, z0, 30) := by rw [cod, ctab_174]; rfl
theorem k174_30 : cod 174 30 = some (27, 0, 45, z0, 33) := by rw [cod, ctab_174]; rfl
theorem k174_33 : cod 174 33 = some (4, 0, 0, z0, 34) := by rw [cod, ctab_174]; rfl
theorem k174_34 : cod 174 34 = some (34, 169, 1, vr 40 0, 37) := by rw [cod, ctab_174]; rfl
theorem k174_37 : cod 174 37 = some (27, 1, 26, z0, 40) := by rw [cod, ctab_174]; rfl
theorem k174_40 : cod 174 40 = some (4, 0, 0, z0, 41) := by rw [cod, ctab_174]; rfl
theorem k174_41 : cod 174 41 = some (29, 40, 9, z0, 44) := by rw [cod, ctab_174]; rfl
theorem k174_44 : cod 174 44 = some (36, 1, 0, z0, 45) := by rw [cod, ctab_174]; rfl
theorem k174_45 : cod 174 45 = some (4, 0, 0, z0, 46) := by rw [cod, ctab_174]; rfl
theorem k174_46 : cod 174 46 = some (0, 0, 0, vi (5), 47) := by rw [cod, ctab_174]; rfl
theorem k174_47 : cod 174 47 = some (0, 0, 0, z0, 48) := by rw [cod, ctab_174]; rfl
theorem k174_48 : cod 174 48 = some (34, 170, 3, vr 40 0, 51) := by rw [cod, ctab_174]; rfl
theorem k174_51 : cod 174 51 = some (0, 0, 0, z0, 52) := by rw [cod, ctab_174]; rfl
theorem k174_52 : cod 174 52 = some (36, 1, 0, z0, 53) := by rw [cod, ctab_174]; rfl
theorem ctab_175 : ctab.getD 175 [] = cd175 := rfl
theorem k175_0 : cod 175 0 = some (2, 1, 0, z0, 1) := by rw [cod, ctab_175]; rfl
theorem k175_1 : cod 175 1 = some (27, 2, 18, z0, 4) := by rw [cod, ctab_175]; rfl
theorem k175_4 : cod 175 4 = some (2, 1, 0, z0, 5) := by rw [cod, ctab_175]; rfl
theorem k175_5 : cod 175 5 = some (4, 0, 0, z0, 6) := by rw [cod, ctab_175]; rfl
theorem k175_6 : cod 175 6 = some (29, 40, 10, z0, 9) := by rw [cod, ctab_175]; rfl
theorem k175_9 : cod 175 9 = some (0, 0, 0, z0, 10) := by rw [cod, ctab_175]; rfl
theorem k175_10 : cod 175 10 = some (31, 1, 0, z0, 11) := by rw [cod, ctab_175]; rfl
theorem k175_11 : cod 175 11 = some (28, 3, 18, z0, 14) := by rw [cod, ctab_175]; rfl
theorem k175_14 : cod 175 14 = some (0, 0, 0, vi (1), 15) := by rw [cod, ctab_175]; rfl
theorem k175_15 : cod 175 15 = some (26, 19, 0, z0, 18) := by rw [cod, ctab_175]; rfl
theorem k175_18 : cod 175 18 = some (0, 0, 0, z0, 19) := by rw [cod, ctab_175]; rfl
theorem k175_19 : cod 175 19 = some (36, 2, 0, z0, 20) := by rw [cod, ctab_175]; rfl
theorem ctab_176 : ctab.getD 176 [] = cd176 := rfl
theorem k176_0 : cod 176 0 = some (2, 1, 0, z0, 1) := by rw [cod, ctab_176]; rfl
theorem k176_1 : cod 176 1 = some (27, 2, 18, z0, 4) := by rw [cod, ctab_176]; rfl
theorem k176_4 : cod 176 4 = some (2, 1, 0, z0, 5) := by rw [cod, ctab_176]; rfl
theorem k176_5 : cod 176 5 = some (4, 0, 0, z0, 6) := by rw [cod, ctab_176]; rfl
theorem k176_6 : cod 176 6 = some (29, 40, 10, z0, 9) := by rw [cod, ctab_176]; rfl
theorem k176_9 : cod 176 9 = some (0, 0, 0, vi (1), 10) := by rw [cod, ctab_176]; rfl
theorem k176_10 : cod 176 10 = some (31, 1, 0, z0, 11) := by rw [cod, ctab_176]; rfl
theorem k176_11 : cod 176 11 = some (28, 3, 18, z0, 14) := by rw [cod, ctab_176]; rfl
theorem k176_14 : cod 176 14 = some (0, 0, 0, vi (1), 15) := by rw [cod, ctab_176]; rfl
theorem k176_15 : cod 176 15 = some (26, 19, 0, z0, 18) := by rw [cod, ctab_176]; rfl
theorem k176_18 : cod 176 18 = some (0, 0, 0, z0, 19) := by rw [cod, ctab_176]; rfl
theorem k176_19 : cod 176 19 = some (36, 2, 0, z0, 20) := by rw [cod, ctab_176]; rfl
theorem ctab_177 : ctab.getD 177 [] = cd177 := rfl
theorem k177_0 : cod 177 0 = some (4, 0, 0, z0, 1) := by rw [cod, ctab_177]; rfl
theorem k177_1 : cod 177 1 = some (2, 1, 0, z0, 2) := by rw [cod, ctab_177]; rfl
theorem k177_2 : cod 177 2 = some (34, 176, 2, vr 40 0, 5) := by rw [cod, ctab_177]; rfl
theorem k177_5 : cod 177 5 = some (27, 0, 25, z0, 8) := by rw [cod, ctab_177]; rfl
theorem k177_8 : cod 177 8 = some (4, 0, 0, z0, 9) := by rw [cod, ctab_177]; rfl
theorem k177_9 : cod 177 9 = some (2, 2, 0, z0, 10) := by rw [cod, ctab_177]; rfl
theorem k177_10 : cod 177 10 = some (34, 176, 2, vr 40 0, 13) := by rw [cod, ctab_177]; rfl
theorem k177_13 : cod 177 13 = some (27, 0, 25, z0, 16) := by rw [cod, ctab_177]; rfl
theorem k177_16 : cod 177 16 = some (2, 1, 0, z0, 17) := by rw [cod, ctab_177]; rfl
theorem k177_17 : cod 177 17 = some (2, 2, 0, z0, 18) := by rw [cod, ctab_177]; rfl
theorem k177_18 : cod 177 18 = some (28, 0, 25, z0, 21) := by rw [cod, ctab_177]; rfl
theorem k177_21 : cod 177 21 = some (0, 0, 0, vi (1), 22) := by rw [cod, ctab_177]; rfl
theorem k177_22 : cod 177 22 = some (26, 26, 0, z0, 25) := by rw [cod, ctab_177]; rfl
theorem k177_25 : cod 177 25 = some (0, 0, 0, z0, 26) := by rw [cod, ctab_177]; rfl
theorem k177_26 : cod 177 26 = some (36, 2, 0, z0, 27) := by rw [cod, ctab_177]; rfl
theorem ctab_178 : ctab.getD 178 [] = cd178 := rfl
theorem k178_0 : cod 178 0 = some (4, 0, 0, z0, 1) := by rw [cod, ctab_178]; rfl
theorem k178_1 : cod 178 1 = some (29, 40, 43, z0, 4) := by rw [cod, ctab_178]; rfl
theorem k178_4 : cod 178 4 = some (0, 0, 0, vi (14), 6) := by rw [cod, ctab_178]; rfl
theorem k178_6 : cod 178 6 = some (0, 0, 0, vi (6), 8) := by rw [cod, ctab_178]; rfl
theorem k178_8 : cod 178 8 = some (2, 1, 0, z0, 9) := by rw [cod, ctab_178]; rfl
theorem k178_9 : cod 178 9 = some (9, 2, 0, z0, 10) := by rw [cod, ctab_178]; rfl
theorem k178_10 : cod 178 10 = some (9, 0, 0, z0, 11) := by rw [cod, ctab_178]; rfl
theorem k178_11 : cod 178 11 = some (2, 2, 0, z0, 12) := by rw [cod, ctab_178]; rfl
theorem k178_12 : cod 178 12 = some (9, 0, 0, z0, 13) := by rw [cod, ctab_178]; rfl
theorem k178_13 : cod 178 13 = some (31, 1, 0, z0, 14) := by rw [cod, ctab_178]; rfl
theorem k178_14 : cod 178 14 = some (4, 0, 0, z0, 15) := by rw [cod, ctab_178]; rfl
theorem k178_15 : cod 178 15 = some (29, 40, 43, z0, 18) := by rw [cod, ctab_178]; rfl
theorem k178_18 : cod 178 18 = some (0, 0, 0, vi (14), 20) := by rw [cod, ctab_178]; rfl
theorem k178_20 : cod 178 20 = some (0, 0, 0, vi (6), 22) := by rw [cod, ctab_178]; rfl
theorem k178_22 : cod 178 22 = some (2, 2, 0, z0, 23) := by rw [cod, ctab_178]; rfl
theorem k178_23 : cod 178 23 = some (9, 2, 0, z0, 24) := by rw [cod, ctab_178]; rfl
theorem k178_24 : cod 178 24 = some (9, 0, 0, z0, 25) := by rw [cod, ctab_178]; rfl
theorem k178_25 : cod 178 25 = some (2, 1, 0, z0, 26) := by rw [cod, ctab_178]; rfl
theorem k178_26 : cod 178 26 = some (9, 0, 0, z0, 27) := by rw [cod, ctab_178]; rfl
theorem k178_27 : cod 178 27 = some (31, 1, 0, z0, 28) := by rw [cod, ctab_178]; rfl
theorem k178_28 : cod 178 28 = some (9, 0, 0, z0, 29) := by rw [cod, ctab_178]; rfl
theorem k178_29 : cod 178 29 = some (36, 1, 0, z0, 30) := by rw [cod, ctab_178]; rfl
theorem ctab_179 : ctab.getD 179 [] = cd179 := rfl
theorem k179_0 : cod 179 0 = some (2, 1, 0, z0, 1) := by rw [cod, ctab_179]; rfl
theorem k179_1 : cod 179 1 = some (2, 2, 0, z0, 2) := by rw [cod, ctab_179]; rfl
theorem k179_2 : cod 179 2 = some (28, 0, 37, z0, 5) := by rw [cod, ctab_179]; rfl
theorem k179_5 : cod 179 5 = some (4, 0, 0, z0, 6) := by rw [cod, ctab_179]; rfl
theorem k179_6 : cod 179 6 = some (29, 40, 17, z0, 9) := by rw [cod, ctab_179]; rfl
theorem k179_9 : cod 179 9 = some (2, 1, 0, z0, 10) := by rw [cod, ctab_179]; rfl
theorem k179_10 : cod 179 10 = some (31, 1, 0, z0, 11) := by rw [cod, ctab_179]; rfl
theorem k179_11 : cod 179 11 = some (2, 2, 0, z0, 12) := by rw [cod, ctab_179]; rfl
theorem k179_12 : cod 179 12 = some (9, 7, 0, z0, 13) := by rw [cod, ctab_179]; rfl
theorem k179_13 : cod 179 13 = some (0, 0, 0, vi (1), 14) := by rw [cod, ctab_179]; rfl
theorem k179_14 : cod 179 14 = some (9, 3, 0, z0, 15) := by rw [cod, ctab_179]; rfl
theorem k179_15 : cod 179 15 = some (27, 1, 37, z0, 18) := by rw [cod, ctab_179]; rfl
theorem k179_18 : cod 179 18 = some (4, 0, 0, z0, 19) := by rw [cod, ctab_179]; rfl
theorem k179_19 : cod 179 19 = some (2, 1, 0, z0, 20) := by rw [cod, ctab_179]; rfl
theorem k179_20 : cod 179 20 = some (2, 2, 0, z0, 21) := by rw [cod, ctab_179]; rfl
theorem k179_21 : cod 179 21 = some (34, 178, 3, vr 40 0, 24) := by rw [cod, ctab_179]; rfl
theorem k179_24 : cod 179 24 = some (4, 0, 0, z0, 25) := by rw [cod, ctab_179]; rfl
theorem k179_25 : cod 179 25 = some (29, 40, 10, z0, 28) := by rw [cod, ctab_179]; rfl
theorem k179_28 : cod 179 28 = some (0, 0, 0, vi (2), 29) := by rw [cod, ctab_179]; rfl
theorem k179_29 : cod 179 29 = some (31, 1, 0, z0, 30) := by rw [cod, ctab_179]; rfl
theorem k179_30 : cod 179 30 = some (28, 3, 37, z0, 33) := by rw [cod, ctab_179]; rfl
theorem k179_33 : cod 179 33 = some (0, 0, 0, vi (1), 34) := by rw [cod, ctab_179]; rfl
theorem k179_34 : cod 179 34 = some (26, 38, 0, z0, 37) := by rw [cod, ctab_179]; rfl
theorem k179_37 : cod 179 37 = some (0, 0, 0, z0, 38) := by rw [cod, ctab_179]; rfl
theorem k179_38 : cod 179 38 = some (36, 2, 0, z0, 39) := by rw [cod, ctab_179]; rfl
theorem ctab_180 : ctab.getD 180 [] = cd180 := rfl
theorem k180_0 : cod 180 0 = some (4, 0, 0, z0, 1) := by rw [cod, ctab_180]; rfl
theorem k180_1 : cod 180 1 = some (29, 40, 43, z0, 4) := by rw [cod, ctab_180]; rfl
theorem k180_4 : cod 180 4 = some (0, 0, 0, vi (1), 5) := by rw [cod, ctab_180]; rfl
theorem k180_5 : cod 180 5 = some (31, 1, 0, z0, 6) := by rw [cod, ctab_180]; rfl
theorem k180_6 : cod 180 6 = some (2, 1, 0, z0, 7) := by rw [cod, ctab_180]; rfl
theorem k180_7 : cod 180 7 = some (9, 7, 0, z0, 8) := by rw [cod, ctab_180]; rfl
theorem k180_8 : cod 180 8 = some (0, 0, 0, vi (1), 9) := by rw [cod, ctab_180]; rfl
theorem k180_9 : cod 180 9 = some (9, 3, 0, z0, 10) := by rw [cod, ctab_180]; rfl
theorem k180_10 : cod 180 10 = some (0, 0, 0, vi (1), 11) := by rw [cod, ctab_180]; rfl
theorem k180_11 : cod 180 11 = some (28, 1, 18, z0, 14) := by rw [cod, ctab_180]; rfl
theorem k180_14 : cod 180 14 = some (0, 0, 0, vi (1), 15) := by rw [cod, ctab_180]; rfl
theorem k180_15 : cod 180 15 = some (26, 19, 0, z0, 18) := by rw [cod, ctab_180]; rfl
theorem k180_18 : cod 180 18 = some (0, 0, 0, z0, 19) := by rw [cod, ctab_180]; rfl
theorem k180_19 : cod 180 19 = some (36, 2, 0, z0, 20) := by rw [cod, ctab_180]; rfl
theorem ctab_181 : ctab.getD 181 [] = cd181 := rfl
theorem k181_0 : cod 181 0 = some (4, 0, 0, z0, 1) := by rw [cod, ctab_181]; rfl
theorem k181_1 : cod 181 1 = some (2, 1, 0, z0, 2) := by rw [cod, ctab_181]; rfl
theorem k181_2 : cod 181 2 = some (34, 180, 2, vr 40 0, 5) := by rw [cod, ctab_181]; rfl
theorem k181_5 : cod 181 5 = some (27, 1, 20, z0, 8) := by rw [cod, ctab_181]; rfl
theorem k181_8 : cod 181 8 = some (4, 0, 0, z0, 9) := by rw [cod, ctab_181]; rfl
theorem k181_9 : cod 181 9 = some (29, 40, 43, z0, 12) := by rw [cod, ctab_181]; rfl
theorem k181_12 : cod 181 12 = some (0, 0, 0, vi (8), 14) := by rw [cod, ctab_181]; rfl
theorem k181_14 : cod 181 14 = some (2, 1, 0, z0, 15) := by rw [cod, ctab_181]; rfl
theorem k181_15 : cod 181 15 = some (9, 0, 0, z0, 16) := by rw [cod, ctab_181]; rfl
theorem k181_16 : cod 181 16 = some (31, 1, 0, z0, 17) := by rw [cod, ctab_181]; rfl
theorem k181_17 : cod 181 17 = some (27, 1, 24, z0, 20) := by rw [cod, ctab_181]; rfl
theorem k181_20 : cod 181 20 = some (0, 0, 0, vi (1), 21) := by rw [cod, ctab_181]; rfl
theorem k181_21 : cod 181 21 = some (26, 25, 0, z0, 24) := by rw [cod, ctab_181]; rfl
theorem k181_24 : cod 181 24 = some (0, 0, 0, z0, 25) := by rw [cod, ctab_181]; rfl
theorem k181_25 : cod 181 25 = some (36, 2, 0, z0, 26) := by rw [cod, ctab_181]; rfl
theorem ctab_182 : ctab.getD 182 [] = cd182 := rfl
theorem k182_0 : cod 182 0 = some (0, 0, 0, z0, 1) := by rw [cod, ctab_182]; rfl
theorem k182_1 : cod 182 1 = some (5, 1, 0, z0, 2) := by rw [cod, ctab_182]; rfl
theorem k182_2 : cod 182 2 = some (0, 0, 0, z0, 3) := by rw [cod, ctab_182]; rfl
theorem k182_3 : cod 182 3 = some (5, 2, 0, z0, 4) := by rw [cod, ctab_182]; rfl
theorem k182_4 : cod 182 4 = some (2, 2, 0, z0, 5) := by rw [cod, ctab_182]; rfl
theorem k182_5 : cod 182 5 = some (4, 0, 0, z0, 6) := by rw [cod, ctab_182]; rfl
theorem k182_6 : cod 182 6 = some (29, 40, 10, z0, 9) := by rw [cod, ctab_182]; rfl
theorem k182_9 : cod 182 9 = some (0, 0, 0, vi (1), 10) := by rw [cod, ctab_182]; rfl
theorem k182_10 : cod 182 10 = some (31, 1, 0, z0, 11) := by rw [cod, ctab_182]; rfl
theorem k182_11 : cod 182 11 = some (28, 3, 38, z0, 14) := by rw [cod, ctab_182]; rfl
theorem k182_14 : cod 182 14 = some (2, 1, 0, z0, 15) := by rw [cod, ctab_182]; rfl
theorem k182_15 : cod 182 15 = some (4, 0, 0, z0, 16) := by rw [cod, ctab_182]; rfl
theorem k182_16 : cod 182 16 = some (2, 2, 0, z0, 17) := by rw [cod, ctab_182]; rfl
theorem k182_17 : cod 182 17 = some (34, 181, 2, vr 40 0, 20) := by rw [cod, ctab_182]; rfl
theorem k182_20 : cod 182 20 = some (27, 0, 29, z0, 23) := by rw [cod, ctab_182]; rfl
theorem k182_23 : cod 182 23 = some (0, 0, 0, vi (1), 24) := by rw [cod, ctab_182]; rfl
theorem k182_24 : cod 182 24 = some (2, 2, 0, z0, 25) := by rw [cod, ctab_182]; rfl
theorem k182_25 : cod 182 25 = some (9, 6, 0, z0, 26) := by rw [cod, ctab_182]; rfl
theorem k182_26 : cod 182 26 = some (26, 30, 0, z0, 29) := by rw [cod, ctab_182]; rfl
theorem k182_29 : cod 182 29 = some (0, 0, 0, z0, 30) := by rw [cod, ctab_182]; rfl
theorem k182_30 : cod 182 30 = some (9, 4, 0, z0, 31) := by rw [cod, ctab_182]; rfl
theorem k182_31 : cod 182 31 = some (5, 1, 0, z0, 32) := by rw [cod, ctab_182]; rfl
theorem k182_32 : cod 182 32 = some (8, 2, 0, vi (1), 35) := by rw [cod, ctab_182]; rfl
theorem k182_35 : cod 182 35 = some (26, 4, 0, z0, 38) := by rw [cod, ctab_182]; rfl
theorem k182_38 : cod 182 38 = some (2, 1, 0, z0, 39) := by rw [cod, ctab_182]; rfl
theorem k182_39 : cod 182 39 = some (36, 1, 0, z0, 40) := by rw [cod, ctab_182]; rfl
theorem ctab_183 : ctab.getD 183 [] = cd183 := rfl
theorem k183_0 : cod 183 0 = some (0, 0, 0, z0, 1) := by rw [cod, ctab_183]; rfl
theorem k183_1 : cod 183 1 = some (5, 2, 0, z0, 2) := by rw [cod, ctab_183]; rfl
theorem k183_2 : cod 183 2 = some (0, 0, 0, z0, 3) := by rw [cod, ctab_183]; rfl
theorem k183_3 : cod 183 3 = some (5, 3, 0, z0, 4) := by rw [cod, ctab_183]; rfl
theorem k183_4 : cod 183 4 = some (2, 3, 0, z0, 5) := by rw [cod, ctab_183]; rfl
theorem k183_5 : cod 183 5 = some (4, 0, 0, z0, 6) := by rw [cod, ctab_183]; rfl
theorem k183_6 : cod 183 6 = some (29, 40, 10, z0, 9) := by rw [cod, ctab_183]; rfl
theorem k183_9 : cod 183 9 = some (0, 0, 0, vi (1), 10) := by rw [cod, ctab_183]; rfl
theorem k183_10 : cod 183 10 = some (31, 1, 0, z0, 11) := by rw [cod, ctab_183]; rfl
theorem k183_11 : cod 183 11 = some (28, 3, 39, z0, 14) := by rw [cod, ctab_183]; rfl
theorem k183_14 : cod 183 14 = some (2, 2, 0, z0, 15) := by rw [cod, ctab_183]; rfl
theorem k183_15 : cod 183 15 = some (4, 0, 0, z0, 16) := by rw [cod, ctab_183]; rfl
theorem k183_16 : cod 183 16 = some (2, 1, 0, z0, 17) := by rw [cod, ctab_183]; rfl
theorem k183_17 : cod 183 17 = some (2, 3, 0, z0, 18) := by rw [cod, ctab_183]; rfl
theorem k183_18 : cod 183 18 = some (34, 179, 3, vr 40 0, 21) := by rw [cod, ctab_183]; rfl
theorem k183_21 : cod 183 21 = some (27, 0, 30, z0, 24) := by rw [cod, ctab_183]; rfl
theorem k183_24 : cod 183 24 = some (0, 0, 0, vi (1), 25) := by rw [cod, ctab_183]; rfl
theorem k183_25 : cod 183 25 = some (2, 3, 0, z0, 26) := by rw [cod, ctab_183]; rfl
theorem k183_26 : cod 183 26 = some (9, 6, 0, z0, 27) := by rw [cod, ctab_183]; rfl
theorem k183_27 : cod 183 27 = some (26, 31, 0, z0, 30) := by rw [cod, ctab_183]; rfl
theorem k183_30 : cod 183 30 = some (0, 0, 0, z0, 31) := by rw [cod, ctab_183]; rfl
theorem k183_31 : cod 183 31 = some (9, 4, 0, z0, 32) := by rw [cod, ctab_183]; rfl
theorem k183_32 : cod 183 32 = some (5, 2, 0, z0, 33) := by rw [cod, ctab_183]; rfl
theorem k183_33 : cod 183 33 = some (8, 3, 0, vi (1), 36) := by rw [cod, ctab_183]; rfl
theorem k183_36 : cod 183 36 = some (26, 4, 0, z0, 39) := by rw [cod, ctab_183]; rfl
theorem k183_39 : cod 183 39 = some (2, 2, 0, z0, 40) := by rw [cod, ctab_183]; rfl
theorem k183_40 : cod 183 40 = some (36, 1, 0, z0, 41) := by rw [cod, ctab_183]; rfl
theorem ctab_184 : ctab.getD 184 [] = cd184 := rfl
theorem k184_0 : cod 184 0 = some (4, 0, 0, z0, 1) := by rw [cod, ctab_184]; rfl
theorem k184_1 : cod 184 1 = some (2, 1, 0, z0, 2) := by rw [cod, ctab_184]; rfl
theorem k184_2 : cod 184 2 = some (34, 181, 2, vr 40 0, 5) := by rw [cod, ctab_184]; rfl
theorem k184_5 : cod 184 5 = some (27, 1, 33, z0, 8) := by rw [cod, ctab_184]; rfl
theorem k184_8 : cod 184 8 = some (4, 0, 0, z0, 9) := by rw [cod, ctab_184]; rfl
theorem k184_9 : cod 184 9 = some (29, 40, 13, z0, 12) := by rw [cod, ctab_184]; rfl
theorem k184_12 : cod 184 12 = some (4, 0, 0, z0, 13) := by rw [cod, ctab_184]; rfl
theorem k184_13 : cod 184 13 = some (29, 40, 43, z0, 16) := by rw [cod, ctab_184]; rfl
theorem k184_16 : cod 184 16 = some (0, 0, 0, vi (2), 17) := by rw [cod, ctab_184]; rfl
theorem k184_17 : cod 184 17 = some (2, 1, 0, z0, 18) := by rw [cod, ctab_184]; rfl
theorem k184_18 : cod 184 18 = some (9, 0, 0, z0, 19) := by rw [cod, ctab_184]; rfl
theorem k184_19 : cod 184 19 = some (31, 1, 0, z0, 20) := by rw [cod, ctab_184]; rfl
theorem k184_20 : cod 184 20 = some (31, 1, 0, z0, 21) := by rw [cod, ctab_184]; rfl
theorem k184_21 : cod 184 21 = some (2, 2, 0, z0, 22) := by rw [cod, ctab_184]; rfl
theorem k184_22 : cod 184 22 = some (9, 7, 0, z0, 23) := by rw [cod, ctab_184]; rfl
theorem k184_23 : cod 184 23 = some (0, 0, 0, vi (1), 24) := by rw [cod, ctab_184]; rfl
theorem k184_24 : cod 184 24 = some (9, 3, 0, z0, 25) := by rw [cod, ctab_184]; rfl
theorem k184_25 : cod 184 25 = some (0, 0, 0, vi (1), 26) := by rw [cod, ctab_184]; rfl
theorem k184_26 : cod 184 26 = some (28, 1, 33, z0, 29) := by rw [cod, ctab_184]; rfl
theorem k184_29 : cod 184 29 = some (0, 0, 0, vi (1), 30) := by rw [cod, ctab_184]; rfl
theorem k184_30 : cod 184 30 = some (26, 34, 0, z0, 33) := by rw [cod, ctab_184]; rfl
theorem k184_33 : cod 184 33 = some (0, 0, 0, z0, 34) := by rw [cod, ctab_184]; rfl
theorem k184_34 : cod 184 34 = some (36, 2, 0, z0, 35) := by rw [cod, ctab_184]; rfl
theorem ctab_185 : ctab.getD 185 [] = cd185 := rfl
theorem k185_0 : cod 185 0 = some (4, 0, 0, z0, 1) := by rw [cod, ctab_185]; rfl
theorem k185_1 : cod 185 1 = some (29, 40, 14, z0, 4) := by rw [cod, ctab_185]; rfl
theorem k185_4 : cod 185 4 = some (2, 1, 0, z0, 5) := by rw [cod, ctab_185]; rfl
theorem k185_5 : cod 185 5 = some (31, 1, 0, z0, 6) := by rw [cod, ctab_185]; rfl
theorem k185_6 : cod 185 6 = some (0, 0, 0, vi (1), 7) := by rw [cod, ctab_185]; rfl
theorem k185_7 : cod 185 7 = some (28, 0, 50, z0, 10) := by rw [cod, ctab_185]; rfl
theorem k185_10 : cod 185 10 = some (4, 0, 0, z0, 11) := by rw [cod, ctab_185]; rfl
theorem k185_11 : cod 185 11 = some (2, 1, 0, z0, 12) := by rw [cod, ctab_185]; rfl
theorem k185_12 : cod 185 12 = some (34, 181, 2, vr 40 0, 15) := by rw [cod, ctab_185]; rfl
theorem k185_15 : cod 185 15 = some (27, 1, 50, z0, 18) := by rw [cod, ctab_185]; rfl
theorem k185_18 : cod 185 18 = some (4, 0, 0, z0, 19) := by rw [cod, ctab_185]; rfl
theorem k185_19 : cod 185 19 = some (29, 40, 43, z0, 22) := by rw [cod, ctab_185]; rfl
theorem k185_22 : cod 185 22 = some (0, 0, 0, vi (2), 23) := by rw [cod, ctab_185]; rfl
theorem k185_23 : cod 185 23 = some (2, 1, 0, z0, 24) := by rw [cod, ctab_185]; rfl
theorem k185_24 : cod 185 24 = some (9, 0, 0, z0, 25) := by rw [cod, ctab_185]; rfl
theorem k185_25 : cod 185 25 = some (31, 1, 0, z0, 26) := by rw [cod, ctab_185]; rfl
theorem k185_26 : cod 185 26 = some (4, 0, 0, z0, 27) := by rw [cod, ctab_185]; rfl
theorem k185_27 : cod 185 27 = some (29, 40, 43, z0, 30) := by rw [cod, ctab_185]; rfl
theorem k185_30 : cod 185 30 = some (0, 0, 0, vi (2), 31) := by rw [cod, ctab_185]; rfl
theorem k185_31 : cod 185 31 = some (2, 2, 0, z0, 32) := by rw [cod, ctab_185]; rfl
theorem k185_32 : cod 185 32 = some (9, 0, 0, z0, 33) := by rw [cod, ctab_185]; rfl
theorem k185_33 : cod 185 33 = some (31, 1, 0, z0, 34) := by rw [cod, ctab_185]; rfl
theorem k185_34 : cod 185 34 = some (28, 1, 50, z0, 37) := by rw [cod, ctab_185]; rfl
theorem k185_37 : cod 185 37 = some (4, 0, 0, z0, 38) := by rw [cod, ctab_185]; rfl
theorem k185_38 : cod 185 38 = some (2, 1, 0, z0, 39) := by rw [cod, ctab_185]; rfl
theorem k185_39 : cod 185 39 = some (2, 2, 0, z0, 40) := by rw [cod, ctab_185]; rfl
theorem k185_40 : cod 185 40 = some (34, 179, 3, vr 40 0, 43) := by rw [cod, ctab_185]; rfl
theorem k185_43 : cod 185 43 = some (27, 0, 50, z0, 46) := by rw [cod, ctab_185]; rfl
theorem k185_46 : cod 185 46 = some (0, 0, 0, vi (1), 47) := by rw [cod, ctab_185]; rfl
theorem k185_47 : cod 185 47 = some (26, 51, 0, z0, 50) := by rw [cod, ctab_185]; rfl
theorem k185_50 : cod 185 50 = some (0, 0, 0, z0, 51) := by rw [cod, ctab_185]; rfl
theorem k185_51 : cod 185 51 = some (36, 2, 0, z0, 52) := by rw [cod, ctab_185]; rfl
theorem ctab_186 : ctab.getD 186 [] = cd186 := rfl
theorem k186_0 : cod 186 0 = some (4, 0, 0, z0, 1) := by rw [cod, ctab_186]; rfl
theorem k186_1 : cod 186 1 = some (29, 40, 14, z0, 4) := by rw [cod, ctab_186]; rfl
theorem k186_4 : cod 186 4 = some (2, 1, 0, z0, 5) := by rw [cod, ctab_186]; rfl
theorem k186_5 : cod 186 5 = some (31, 1, 0, z0, 6) := by rw [cod, ctab_186]; rfl
theorem k186_6 : cod 186 6 = some (0, 0, 0, vi (3), 7) := by rw [cod, ctab_186]; rfl
theorem k186_7 : cod 186 7 = some (28, 0, 22, z0, 10) := by rw [cod, ctab_186]; rfl
theorem k186_10 : cod 186 10 = some (4, 0, 0, z0, 11) := by rw [cod, ctab_186]; rfl
theorem k186_11 : cod 186 11 = some (2, 1, 0, z0, 12) := by rw [cod, ctab_186]; rfl
theorem k186_12 : cod 186 12 = some (34, 180, 2, vr 40 0, 15) := by rw [cod, ctab_186]; rfl
theorem k186_15 : cod 186 15 = some (27, 1, 22, z0, 18) := by rw [cod, ctab_186]; rfl
theorem k186_18 : cod 186 18 = some (0, 0, 0, vi (1), 19) := by rw [cod, ctab_186]; rfl
theorem k186_19 : cod 186 19 = some (26, 23, 0, z0, 22) := by rw [cod, ctab_186]; rfl
theorem k186_22 : cod 186 22 = some (0, 0, 0, z0, 23) := by rw [cod, ctab_186]; rfl
theorem k186_23 : cod 186 23 = some (36, 2, 0, z0, 24) := by rw [cod, ctab_186]; rfl
theorem ctab_187 : ctab.getD 187 [] = cd187 := rfl
theorem k187_0 : cod 187 0 = some (0, 0, 0, z0, 1) := by rw [cod, ctab_187]; rfl
theorem k187_1 : cod 187 1 = some (5, 3, 0, z0, 2) := by rw [cod, ctab_187]; rfl
theorem k187_2 : cod 187 2 = some (0, 0, 0, z0, 3) := by rw [cod, ctab_187]; rfl
theorem k187_3 : cod 187 3 = some (5, 4, 0, z0, 5) := by rw [cod, ctab_187]; rfl
theorem k187_5 : cod 187 5 = some (2, 4, 0, z0, 7) := by rw [cod, ctab_187]; rfl
theorem k187_7 : cod 187 7 = some (4, 0, 0, z0, 8) := by rw [cod, ctab_187]; rfl
theorem k187_8 : cod 187 8 = some (29, 40, 10, z0, 11) := by rw [cod, ctab_187]; rfl
theorem k187_11 : cod 187 11 = some (0, 0, 0, vi (1), 12) := by rw [cod, ctab_187]; rfl
theorem k187_12 : cod 187 12 = some (31, 1, 0, z0, 13) := by rw [cod, ctab_187]; rfl
theorem k187_13 : cod 187 13 = some (28, 3, 62, z0, 16) := by rw [cod, ctab_187]; rfl
theorem k187_16 : cod 187 16 = some (2, 3, 0, z0, 17) := by rw [cod, ctab_187]; rfl
theorem k187_17 : cod 187 17 = some (2, 4, 0, z0, 19) := by rw [cod, ctab_187]; rfl
theorem k187_19 : cod 187 19 = some (2, 1, 0, z0, 20) := by rw [cod, ctab_187]; rfl
theorem k187_20 : cod 187 20 = some (28, 0, 53, z0, 23) := by rw [cod, ctab_187]; rfl
theorem k187_23 : cod 187 23 = some (2, 4, 0, z0, 25) := by rw [cod, ctab_187]; rfl
theorem k187_25 : cod 187 25 = some (2, 2, 0, z0, 26) := by rw [cod, ctab_187]; rfl
theorem k187_26 : cod 187 26 = some (28, 0, 53, z0, 29) := by rw [cod, ctab_187]; rfl
theorem k187_29 : cod 187 29 = some (4, 0, 0, z0, 30) := by rw [cod, ctab_187]; rfl
theorem k187_30 : cod 187 30 = some (29, 40, 43, z0, 33) := by rw [cod, ctab_187]; rfl
theorem k187_33 : cod 187 33 = some (0, 0, 0, vi (2), 34) := by rw [cod, ctab_187]; rfl
theorem k187_34 : cod 187 34 = some (2, 4, 0, z0, 36) := by rw [cod, ctab_187]; rfl
theorem k187_36 : cod 187 36 = some (9, 0, 0, z0, 37) := by rw [cod, ctab_187]; rfl
theorem k187_37 : cod 187 37 = some (31, 1, 0, z0, 38) := by rw [cod, ctab_187]; rfl
theorem k187_38 : cod 187 38 = some (4, 0, 0, z0, 39) := by rw [cod, ctab_187]; rfl
theorem k187_39 : cod 187 39 = some (29, 40, 43, z0, 42) := by rw [cod, ctab_187]; rfl
theorem k187_42 : cod 187 42 = some (0, 0, 0, vi (2), 43) := by rw [cod, ctab_187]; rfl
theorem k187_43 : cod 187 43 = some (2, 2, 0, z0, 44) := by rw [cod, ctab_187]; rfl
theorem k187_44 : cod 187 44 = some (9, 0, 0, z0, 45) := by rw [cod, ctab_187]; rfl
theorem k187_45 : cod 187 45 = some (31, 1, 0, z0, 46) := by rw [cod, ctab_187]; rfl
theorem k187_46 : cod 187 46 = some (28, 1, 53, z0, 49) := by rw [cod, ctab_187]; rfl
theorem k187_49 : cod 187 49 = some (0, 0, 0, vi (1), 50) := by rw [cod, ctab_187]; rfl
theorem k187_50 : cod 187 50 = some (26, 54, 0, z0, 53) := by rw [cod, ctab_187]; rfl
theorem k187_53 : cod 187 53 = some (0, 0, 0, z0, 54) := by rw [cod, ctab_187]; rfl
theorem k187_54 : cod 187 54 = some (9, 0, 0, z0, 55) := by rw [cod, ctab_187]; rfl
theorem k187_55 : cod 187 55 = some (5, 3, 0, z0, 56) := by rw [cod, ctab_187]; rfl
theorem k187_56 : cod 187 56 = some (8, 4, 0, vi (1), 59) := by rw [cod, ctab_187]; rfl
theorem k187_59 : cod 187 59 = some (26, 5, 0, z0, 62) := by rw [cod, ctab_187]; rfl
theorem k187_62 : cod 187 62 = some (2, 3, 0, z0, 63) := by rw [cod, ctab_187]; rfl
theorem k187_63 : cod 187 63 = some (36, 1, 0, z0, 64) := by rw [cod, ctab_187]; rfl
theorem ctab_188 : ctab.getD 188 [] = cd188 := rfl
theorem k188_0 : cod 188 0 = some (0, 0, 0, vi (30), 2) := by rw [cod, ctab_188]; rfl
theorem k188_2 : cod 188 2 = some (2, 3, 0, z0, 3) := by rw [cod, ctab_188]; rfl
theorem k188_3 : cod 188 3 = some (9, 1, 0, z0, 4) := by rw [cod, ctab_188]; rfl
theorem k188_4 : cod 188 4 = some (5, 4, 0, z0, 6) := by rw [cod, ctab_188]; rfl
theorem k188_6 : cod 188 6 = some (4, 0, 0, z0, 7) := by rw [cod, ctab_188]; rfl
theorem k188_7 : cod 188 7 = some (29, 40, 19, z0, 10) := by rw [cod, ctab_188]; rfl
theorem k188_10 : cod 188 10 = some (0, 0, 0, z0, 11) := by rw [cod, ctab_188]; rfl
theorem k188_11 : cod 188 11 = some (31, 1, 0, z0, 12) := by rw [cod, ctab_188]; rfl
theorem k188_12 : cod 188 12 = some (4, 0, 0, z0, 13) := by rw [cod, ctab_188]; rfl
theorem k188_13 : cod 188 13 = some (29, 40, 18, z0, 16) := by rw [cod, ctab_188]; rfl
theorem k188_16 : cod 188 16 = some (0, 0, 0, z0, 17) := by rw [cod, ctab_188]; rfl
theorem k188_17 : cod 188 17 = some (31, 1, 0, z0, 18) := by rw [cod, ctab_188]; rfl
theorem k188_18 : cod 188 18 = some (28, 5, 74, z0, 21) := by rw [cod, ctab_188]; rfl
theorem k188_21 : cod 188 21 = some (4, 0, 0, z0, 22) := by rw [cod, ctab_188]; rfl
theorem k188_22 : cod 188 22 = some (29, 40, 34, z0, 25) := by rw [cod, ctab_188]; rfl
theorem k188_25 : cod 188 25 = some (0, 0, 0, vi (1), 26) := by rw [cod, ctab_188]; rfl
theorem k188_26 : cod 188 26 = some (2, 3, 0, z0, 27) := by rw [cod, ctab_188]; rfl
theorem k188_27 : cod 188 27 = some (32, 1, 0, z0, 28) := by rw [cod, ctab_188]; rfl
theorem k188_28 : cod 188 28 = some (4, 0, 0, z0, 29) := by rw [cod, ctab_188]; rfl
theorem k188_29 : cod 188 29 = some (29, 40, 34, z0, 32) := by rw [cod, ctab_188]; rfl
theorem k188_32 : cod 188 32 = some (0, 0, 0, vi (2), 33) := by rw [cod, ctab_188]; rfl
theorem k188_33 : cod 188 33 = some (4, 0, 0, z0, 34) := by rw [cod, ctab_188]; rfl
theorem k188_34 : cod 188 34 = some (29, 40, 43, z0, 37) := by rw [cod, ctab_188]; rfl
theorem k188_37 : cod 188 37 = some (0, 0, 0, vi (8), 39) := by rw [cod, ctab_188]; rfl
theorem k188_39 : cod 188 39 = some (2, 1, 0, z0, 40) := by rw [cod, ctab_188]; rfl
theorem k188_40 : cod 188 40 = some (9, 0, 0, z0, 41) := by rw [cod, ctab_188]; rfl
theorem k188_41 : cod 188 41 = some (31, 1, 0, z0, 42) := by rw [cod, ctab_188]; rfl
theorem k188_42 : cod 188 42 = some (32, 1, 0, z0, 43) := by rw [cod, ctab_188]; rfl
theorem k188_43 : cod 188 43 = some (4, 0, 0, z0, 44) := by rw [cod, ctab_188]; rfl
theorem k188_44 : cod 188 44 = some (29, 40, 34, z0, 47) := by rw [cod, ctab_188]; rfl
theorem k188_47 : cod 188 47 = some (0, 0, 0, vi (3), 48) := by rw [cod, ctab_188]; rfl
theorem k188_48 : cod 188 48 = some (4, 0, 0, z0, 49) := by rw [cod, ctab_188]; rfl
theorem k188_49 : cod 188 49 = some (2, 1, 0, z0, 50) := by rw [cod, ctab_188]; rfl
theorem k188_50 : cod 188 50 = some (2, 2, 0, z0, 51) := by rw [cod, ctab_188]; rfl
theorem k188_51 : cod 188 51 = some (34, 178, 3, vr 40 0, 54) := by rw [cod, ctab_188]; rfl
theorem k188_54 : cod 188 54 = some (32, 1, 0, z0, 55) := by rw [cod, ctab_188]; rfl
theorem k188_55 : cod 188 55 = some (4, 0, 0, z0, 56) := by rw [cod, ctab_188]; rfl
theorem k188_56 : cod 188 56 = some (29, 40, 34, z0, 59) := by rw [cod, ctab_188]; rfl
theorem k188_59 : cod 188 59 = some (0, 0, 0, vi (4), 60) := by rw [cod, ctab_188]; rfl
theorem k188_60 : cod 188 60 = some (4, 0, 0, z0, 61) := by rw [cod, ctab_188]; rfl
theorem k188_61 : cod 188 61 = some (2, 1, 0, z0, 62) := by rw [cod, ctab_188]; rfl
theorem k188_62 : cod 188 62 = some (2, 2, 0, z0, 63) := by rw [cod, ctab_188]; rfl
theorem k188_63 : cod 188 63 = some (34, 187, 3, vr 40 0, 66) := by rw [cod, ctab_188]; rfl
theorem k188_66 : cod 188 66 = some (32, 1, 0, z0, 67) := by rw [cod, ctab_188]; rfl
theorem k188_67 : cod 188 67 = some (4, 0, 0, z0, 68) := by rw [cod, ctab_188]; rfl
theorem k188_68 : cod 188 68 = some (0, 0, 0, z0, 69) := by rw [cod, ctab_188]; rfl
theorem k188_69 : cod 188 69 = some (34, 145, 2, vr 40 0, 72) := by rw [cod, ctab_188]; rfl
theorem k188_72 : cod 188 72 = some (5, 4, 0, z0, 74) := by rw [cod, ctab_188]; rfl
theorem k188_74 : cod 188 74 = some (2, 4, 0, z0, 76) := by rw [cod, ctab_188]; rfl
theorem k188_76 : cod 188 76 = some (0, 0, 0, z0, 77) := by rw [cod, ctab_188]; rfl
theorem k188_77 : cod 188 77 = some (0, 0, 0, vi (40), 79) := by rw [cod, ctab_188]; rfl
theorem k188_79 : cod 188 79 = some (34, 131, 3, z0, 82) := by rw [cod, ctab_188]; rfl
theorem k188_82 : cod 188 82 = some (5, 4, 0, z0, 84) := by rw [cod, ctab_188]; rfl
theorem k188_84 : cod 188 84 = some (4, 0, 0, z0, 85) := by rw [cod, ctab_188]; rfl
theorem k188_85 : cod 188 85 = some (29, 40, 14, z0, 88) := by rw [cod, ctab_188]; rfl
theorem k188_88 : cod 188 88 = some (2, 1, 0, z0, 89) := by rw [cod, ctab_188]; rfl
theorem k188_89 : cod 188 89 = some (31, 1, 0, z0, 90) := by rw [cod, ctab_188]; rfl
theorem k188_90 : cod 188 90 = some (0, 0, 0, vi (2), 91) := by rw [cod, ctab_188]; rfl
theorem k188_91 : cod 188 91 = some (28, 1, 101, z0, 94) := by rw [cod, ctab_188]; rfl
theorem k188_94 : cod 188 94 = some (2, 4, 0, z0, 96) := by rw [cod, ctab_188]; rfl
theorem k188_96 : cod 188 96 = some (0, 0, 0, vi (2), 97) := by rw [cod, ctab_188]; rfl
theorem k188_97 : cod 188 97 = some (10, 0, 0, z0, 98) := by rw [cod, ctab_188]; rfl
theorem k188_98 : cod 188 98 = some (26, 103, 0, z0, 101) := by rw [cod, ctab_188]; rfl
theorem k188_101 : cod 188 101 = some (2, 4, 0, z0, 103) := by rw [cod, ctab_188]; rfl
theorem k188_103 : cod 188 103 = some (36, 1, 0, z0, 104) := by rw [cod, ctab_188]; rfl
theorem ctab_189 : ctab.getD 189 [] = cd189 := rfl
theorem k189_0 : cod 189 0 = some (4, 0, 0, z0, 1) := by rw [cod, ctab_189]; rfl
theorem k189_1 : cod 189 1 = some (29, 40, 43, z0, 4) := by rw [cod, ctab_189]; rfl
theorem k189_4 : cod 189 4 = some (0, 0, 0, vi (8), 6) := by rw [cod, ctab_189]; rfl
theorem k189_6 : cod 189 6 = some (2, 2, 0, z0, 7) := by rw [cod, ctab_189]; rfl
theorem k189_7 : cod 189 7 = some (9, 0, 0, z0, 8) := by rw [cod, ctab_189]; rfl
theorem k189_8 : cod 189 8 = some (24, 0, 0, z0, 9) := by rw [cod, ctab_189]; rfl
theorem k189_9 : cod 189 9 = some (31, 1, 0, z0, 10) := by rw [cod, ctab_189]; rfl
theorem k189_10 : cod 189 10 = some (4, 0, 0, z0, 11) := by rw [cod, ctab_189]; rfl
theorem k189_11 : cod 189 11 = some (2, 1, 0, z0, 12) := by rw [cod, ctab_189]; rfl
theorem k189_12 : cod 189 12 = some (2, 2, 0, z0, 13) := by rw [cod, ctab_189]; rfl
theorem k189_13 : cod 189 13 = some (4, 0, 0, z0, 14) := by rw [cod, ctab_189]; rfl
theorem k189_14 : cod 189 14 = some (29, 40, 43, z0, 17) := by rw [cod, ctab_189]; rfl
theorem k189_17 : cod 189 17 = some (0, 0, 0, vi (8), 19) := by rw [cod, ctab_189]; rfl
theorem k189_19 : cod 189 19 = some (2, 2, 0, z0, 20) := by rw [cod, ctab_189]; rfl
theorem k189_20 : cod 189 20 = some (9, 0, 0, z0, 21) := by rw [cod, ctab_189]; rfl
theorem k189_21 : cod 189 21 = some (31, 1, 0, z0, 22) := by rw [cod, ctab_189]; rfl
theorem k189_22 : cod 189 22 = some (34, 188, 4, vr 40 0, 25) := by rw [cod, ctab_189]; rfl
theorem k189_25 : cod 189 25 = some (9, 0, 0, z0, 26) := by rw [cod, ctab_189]; rfl
theorem k189_26 : cod 189 26 = some (32, 1, 0, z0, 27) := by rw [cod, ctab_189]; rfl
theorem k189_27 : cod 189 27 = some (4, 0, 0, z0, 28) := by rw [cod, ctab_189]; rfl
theorem k189_28 : cod 189 28 = some (29, 40, 43, z0, 31) := by rw [cod, ctab_189]; rfl
theorem k189_31 : cod 189 31 = some (0, 0, 0, vi (14), 33) := by rw [cod, ctab_189]; rfl
theorem k189_33 : cod 189 33 = some (0, 0, 0, vi (6), 35) := by rw [cod, ctab_189]; rfl
theorem k189_35 : cod 189 35 = some (2, 1, 0, z0, 36) := by rw [cod, ctab_189]; rfl
theorem k189_36 : cod 189 36 = some (9, 2, 0, z0, 37) := by rw [cod, ctab_189]; rfl
theorem k189_37 : cod 189 37 = some (9, 0, 0, z0, 38) := by rw [cod, ctab_189]; rfl
theorem k189_38 : cod 189 38 = some (2, 2, 0, z0, 39) := by rw [cod, ctab_189]; rfl
theorem k189_39 : cod 189 39 = some (9, 0, 0, z0, 40) := by rw [cod, ctab_189]; rfl
theorem k189_40 : cod 189 40 = some (24, 0, 0, z0, 41) := by rw [cod, ctab_189]; rfl
theorem k189_41 : cod 189 41 = some (31, 1, 0, z0, 42) := by rw [cod, ctab_189]; rfl
theorem k189_42 : cod 189 42 = some (0, 0, 0, vi (1), 43) := by rw [cod, ctab_189]; rfl
theorem k189_43 : cod 189 43 = some (9, 0, 0, z0, 44) := by rw [cod, ctab_189]; rfl
theorem k189_44 : cod 189 44 = some (32, 1, 0, z0, 45) := by rw [cod, ctab_189]; rfl
theorem k189_45 : cod 189 45 = some (4, 0, 0, z0, 46) := by rw [cod, ctab_189]; rfl
theorem k189_46 : cod 189 46 = some (29, 40, 43, z0, 49) := by rw [cod, ctab_189]; rfl
theorem k189_49 : cod 189 49 = some (0, 0, 0, vi (8), 51) := by rw [cod, ctab_189]; rfl
theorem k189_51 : cod 189 51 = some (2, 2, 0, z0, 52) := by rw [cod, ctab_189]; rfl
theorem k189_52 : cod 189 52 = some (9, 0, 0, z0, 53) := by rw [cod, ctab_189]; rfl
theorem k189_53 : cod 189 53 = some (31, 1, 0, z0, 54) := by rw [cod, ctab_189]; rfl
theorem k189_54 : cod 189 54 = some (4, 0, 0, z0, 55) := by rw [cod, ctab_189]; rfl
theorem k189_55 : cod 189 55 = some (29, 40, 10, z0, 58) := by rw [cod, ctab_189]; rfl
theorem k189_58 : cod 189 58 = some (0, 0, 0, vi (3), 59) := by rw [cod, ctab_189]; rfl
theorem k189_59 : cod 189 59 = some (31, 1, 0, z0, 60) := by rw [cod, ctab_189]; rfl
theorem k189_60 : cod 189 60 = some (28, 4, 64, z0, 63) := by rw [cod, ctab_189]; rfl
theorem k189_63 : cod 189 63 = some (35, 0, 0, z0, 64) := by rw [cod, ctab_189]; rfl
theorem k189_64 : cod 189 64 = some (4, 0, 0, z0, 65) := by rw [cod, ctab_189]; rfl
theorem k189_65 : cod 189 65 = some (29, 40, 43, z0, 68) := by rw [cod, ctab_189]; rfl
theorem k189_68 : cod 189 68 = some (0, 0, 0, vi (8), 70) := by rw [cod, ctab_189]; rfl
theorem k189_70 : cod 189 70 = some (2, 2, 0, z0, 71) := by rw [cod, ctab_189]; rfl
theorem k189_71 : cod 189 71 = some (9, 0, 0, z0, 72) := by rw [cod, ctab_189]; rfl
theorem k189_72 : cod 189 72 = some (0, 0, 0, z0, 73) := by rw [cod, ctab_189]; rfl
theorem k189_73 : cod 189 73 = some (32, 1, 0, z0, 74) := by rw [cod, ctab_189]; rfl
theorem k189_74 : cod 189 74 = some (4, 0, 0, z0, 75) := by rw [cod, ctab_189]; rfl
theorem k189_75 : cod 189 75 = some (29, 40, 43, z0, 78) := by rw [cod, ctab_189]; rfl
theorem k189_78 : cod 189 78 = some (0, 0, 0, vi (1), 79) := by rw [cod, ctab_189]; rfl
theorem k189_79 : cod 189 79 = some (24, 0, 0, z0, 80) := by rw [cod, ctab_189]; rfl
theorem k189_80 : cod 189 80 = some (31, 1, 0, z0, 81) := by rw [cod, ctab_189]; rfl
theorem k189_81 : cod 189 81 = some (0, 0, 0, vi (1), 82) := by rw [cod, ctab_189]; rfl
theorem k189_82 : cod 189 82 = some (2, 2, 0, z0, 83) := by rw [cod, ctab_189]; rfl
theorem k189_83 : cod 189 83 = some (9, 6, 0, z0, 84) := by rw [cod, ctab_189]; rfl
theorem k189_84 : cod 189 84 = some (9, 4, 0, z0, 85) := by rw [cod, ctab_189]; rfl
theorem k189_85 : cod 189 85 = some (32, 1, 0, z0, 86) := by rw [cod, ctab_189]; rfl
theorem k189_86 : cod 189 86 = some (4, 0, 0, z0, 87) := by rw [cod, ctab_189]; rfl
theorem k189_87 : cod 189 87 = some (23, 0, 0, z0, 88) := by rw [cod, ctab_189]; rfl
theorem k189_88 : cod 189 88 = some (29, 40, 50, z0, 91) := by rw [cod, ctab_189]; rfl
theorem k189_91 : cod 189 91 = some (0, 0, 0, vi (1), 92) := by rw [cod, ctab_189]; rfl
theorem k189_92 : cod 189 92 = some (9, 0, 0, z0, 93) := by rw [cod, ctab_189]; rfl
theorem k189_93 : cod 189 93 = some (30, 40, 50, z0, 96) := by rw [cod, ctab_189]; rfl
theorem k189_96 : cod 189 96 = some (35, 0, 0, z0, 97) := by rw [cod, ctab_189]; rfl
theorem ctab_190 : ctab.getD 190 [] = cd190 := rfl
theorem k190_0 : cod 190 0 = some (4, 0, 0, z0, 1) := by rw [cod, ctab_190]; rfl
theorem k190_1 : cod 190 1 = some (29, 40, 43, z0, 4) := by rw [cod, ctab_190]; rfl
theorem k190_4 : cod 190 4 = some (0, 0, 0, vi (8), 6) := by rw [cod, ctab_190]; rfl
theorem k190_6 : cod 190 6 = some (2, 2, 0, z0, 7) := by rw [cod, ctab_190]; rfl
theorem k190_7 : cod 190 7 = some (9, 0, 0, z0, 8) := by rw [cod, ctab_190]; rfl
theorem k190_8 : cod 190 8 = some (31, 1, 0, z0, 9) := by rw [cod, ctab_190]; rfl
theorem k190_9 : cod 190 9 = some (0, 0, 0, vi (9), 11) := by rw [cod, ctab_190]; rfl
theorem k190_11 : cod 190 11 = some (28, 4, 31, z0, 14) := by rw [cod, ctab_190]; rfl
theorem k190_14 : cod 190 14 = some (4, 0, 0, z0, 15) := by rw [cod, ctab_190]; rfl
theorem k190_15 : cod 190 15 = some (2, 1, 0, z0, 16) := by rw [cod, ctab_190]; rfl
theorem k190_16 : cod 190 16 = some (2, 2, 0, z0, 17) := by rw [cod, ctab_190]; rfl
theorem k190_17 : cod 190 17 = some (34, 185, 3, vr 40 0, 20) := by rw [cod, ctab_190]; rfl
theorem k190_20 : cod 190 20 = some (27, 0, 31, z0, 23) := by rw [cod, ctab_190]; rfl
theorem k190_23 : cod 190 23 = some (4, 0, 0, z0, 24) := by rw [cod, ctab_190]; rfl
theorem k190_24 : cod 190 24 = some (2, 2, 0, z0, 25) := by rw [cod, ctab_190]; rfl
theorem k190_25 : cod 190 25 = some (34, 186, 2, vr 40 0, 28) := by rw [cod, ctab_190]; rfl
theorem k190_28 : cod 190 28 = some (27, 1, 33, z0, 31) := by rw [cod, ctab_190]; rfl
theorem k190_31 : cod 190 31 = some (0, 0, 0, z0, 32) := by rw [cod, ctab_190]; rfl
theorem k190_32 : cod 190 32 = some (36, 1, 0, z0, 33) := by rw [cod, ctab_190]; rfl
theorem k190_33 : cod 190 33 = some (4, 0, 0, z0, 34) := by rw [cod, ctab_190]; rfl
theorem k190_34 : cod 190 34 = some (2, 1, 0, z0, 35) := by rw [cod, ctab_190]; rfl
theorem k190_35 : cod 190 35 = some (2, 2, 0, z0, 36) := by rw [cod, ctab_190]; rfl
theorem k190_36 : cod 190 36 = some (34, 189, 3, vr 40 0, 39) := by rw [cod, ctab_190]; rfl
theorem k190_39 : cod 190 39 = some (0, 0, 0, vi (1), 40) := by rw [cod, ctab_190]; rfl
theorem k190_40 : cod 190 40 = some (36, 1, 0, z0, 41) := by rw [cod, ctab_190]; rfl
theorem ctab_191 : ctab.getD 191 [] = cd191 := rfl
theorem k191_0 : cod 191 0 = some (0, 0, 0, z0, 1) := by rw [cod, ctab_191]; rfl
theorem k191_1 : cod 191 1 = some (5, 1, 0, z0, 2) := by rw [cod, ctab_191]; rfl
theorem k191_2 : cod 191 2 = some (0, 0, 0, z0, 3) := by rw [cod, ctab_191]; rfl
theorem k191_3 : cod 191 3 = some (5, 2, 0, z0, 4) := by rw [cod, ctab_191]; rfl
theorem k191_4 : cod 191 4 = some (2, 2, 0, z0, 5) := by rw [cod, ctab_191]; rfl
theorem k191_5 : cod 191 5 = some (4, 0, 0, z0, 6) := by rw [cod, ctab_191]; rfl
theorem k191_6 : cod 191 6 = some (29, 40, 10, z0, 9) := by rw [cod, ctab_191]; rfl
theorem k191_9 : cod 191 9 = some (0, 0, 0, vi (1), 10) := by rw [cod, ctab_191]; rfl
theorem k191_10 : cod 191 10 = some (31, 1, 0, z0, 11) := by rw [cod, ctab_191]; rfl
theorem k191_11 : cod 191 11 = some (28, 3, 58, z0, 14) := by rw [cod, ctab_191]; rfl
theorem k191_14 : cod 191 14 = some (2, 2, 0, z0, 15) := by rw [cod, ctab_191]; rfl
theorem k191_15 : cod 191 15 = some (0, 0, 0, vi (1), 16) := by rw [cod, ctab_191]; rfl
theorem k191_16 : cod 191 16 = some (9, 0, 0, z0, 17) := by rw [cod, ctab_191]; rfl
theorem k191_17 : cod 191 17 = some (5, 3, 0, z0, 18) := by rw [cod, ctab_191]; rfl
theorem k191_18 : cod 191 18 = some (2, 3, 0, z0, 19) := by rw [cod, ctab_191]; rfl
theorem k191_19 : cod 191 19 = some (4, 0, 0, z0, 20) := by rw [cod, ctab_191]; rfl
theorem k191_20 : cod 191 20 = some (29, 40, 10, z0, 23) := by rw [cod, ctab_191]; rfl
theorem k191_23 : cod 191 23 = some (0, 0, 0, vi (1), 24) := by rw [cod, ctab_191]; rfl
theorem k191_24 : cod 191 24 = some (31, 1, 0, z0, 25) := by rw [cod, ctab_191]; rfl
theorem k191_25 : cod 191 25 = some (28, 3, 52, z0, 28) := by rw [cod, ctab_191]; rfl
theorem k191_28 : cod 191 28 = some (2, 1, 0, z0, 29) := by rw [cod, ctab_191]; rfl
theorem k191_29 : cod 191 29 = some (4, 0, 0, z0, 30) := by rw [cod, ctab_191]; rfl
theorem k191_30 : cod 191 30 = some (2, 2, 0, z0, 31) := by rw [cod, ctab_191]; rfl
theorem k191_31 : cod 191 31 = some (2, 3, 0, z0, 32) := by rw [cod, ctab_191]; rfl
theorem k191_32 : cod 191 32 = some (34, 190, 3, vr 40 0, 35) := by rw [cod, ctab_191]; rfl
theorem k191_35 : cod 191 35 = some (9, 0, 0, z0, 36) := by rw [cod, ctab_191]; rfl
theorem k191_36 : cod 191 36 = some (5, 1, 0, z0, 37) := by rw [cod, ctab_191]; rfl
theorem k191_37 : cod 191 37 = some (2, 1, 0, z0, 38) := by rw [cod, ctab_191]; rfl
theorem k191_38 : cod 191 38 = some (4, 0, 0, z0, 39) := by rw [cod, ctab_191]; rfl
theorem k191_39 : cod 191 39 = some (2, 3, 0, z0, 40) := by rw [cod, ctab_191]; rfl
theorem k191_40 : cod 191 40 = some (2, 2, 0, z0, 41) := by rw [cod, ctab_191]; rfl
theorem k191_41 : cod 191 41 = some (34, 190, 3, vr 40 0, 44) := by rw [cod, ctab_191]; rfl
theorem k191_44 : cod 191 44 = some (9, 0, 0, z0, 45) := by rw [cod, ctab_191]; rfl
theorem k191_45 : cod 191 45 = some (5, 1, 0, z0, 46) := by rw [cod, ctab_191]; rfl
theorem k191_46 : cod 191 46 = some (8, 3, 0, vi (1), 49) := by rw [cod, ctab_191]; rfl
theorem k191_49 : cod 191 49 = some (26, 18, 0, z0, 52) := by rw [cod, ctab_191]; rfl
theorem k191_52 : cod 191 52 = some (8, 2, 0, vi (1), 55) := by rw [cod, ctab_191]; rfl
theorem k191_55 : cod 191 55 = some (26, 4, 0, z0, 58) := by rw [cod, ctab_191]; rfl
theorem k191_58 : cod 191 58 = some (0, 0, 0, z0, 59) := by rw [cod, ctab_191]; rfl
theorem k191_59 : cod 191 59 = some (5, 2, 0, z0, 60) := by rw [cod, ctab_191]; rfl
theorem k191_60 : cod 191 60 = some (2, 2, 0, z0, 61) := by rw [cod, ctab_191]; rfl
theorem k191_61 : cod 191 61 = some (4, 0, 0, z0, 62) := by rw [cod, ctab_191]; rfl
theorem k191_62 : cod 191 62 = some (29, 40, 10, z0, 65) := by rw [cod, ctab_191]; rfl
theorem k191_65 : cod 191 65 = some (0, 0, 0, vi (1), 66) := by rw [cod, ctab_191]; rfl
theorem k191_66 : cod 191 66 = some (31, 1, 0, z0, 67) := by rw [cod, ctab_191]; rfl
theorem k191_67 : cod 191 67 = some (28, 3, 97, z0, 70) := by rw [cod, ctab_191]; rfl
theorem k191_70 : cod 191 70 = some (4, 0, 0, z0, 71) := by rw [cod, ctab_191]; rfl
theorem k191_71 : cod 191 71 = some (2, 2, 0, z0, 72) := by rw [cod, ctab_191]; rfl
theorem k191_72 : cod 191 72 = some (34, 181, 2, vr 40 0, 75) := by rw [cod, ctab_191]; rfl
theorem k191_75 : cod 191 75 = some (27, 1, 91, z0, 78) := by rw [cod, ctab_191]; rfl
theorem k191_78 : cod 191 78 = some (4, 0, 0, z0, 79) := by rw [cod, ctab_191]; rfl
theorem k191_79 : cod 191 79 = some (29, 40, 43, z0, 82) := by rw [cod, ctab_191]; rfl
theorem k191_82 : cod 191 82 = some (0, 0, 0, vi (8), 84) := by rw [cod, ctab_191]; rfl
theorem k191_84 : cod 191 84 = some (2, 2, 0, z0, 85) := by rw [cod, ctab_191]; rfl
theorem k191_85 : cod 191 85 = some (9, 0, 0, z0, 86) := by rw [cod, ctab_191]; rfl
theorem k191_86 : cod 191 86 = some (24, 0, 0, z0, 87) := by rw [cod, ctab_191]; rfl
theorem k191_87 : cod 191 87 = some (31, 1, 0, z0, 88) := by rw [cod, ctab_191]; rfl
theorem k191_88 : cod 191 88 = some (0, 0, 0, vi (1), 89) := by rw [cod, ctab_191]; rfl
theorem k191_89 : cod 191 89 = some (9, 1, 0, z0, 90) := by rw [cod, ctab_191]; rfl
theorem k191_90 : cod 191 90 = some (32, 1, 0, z0, 91) := by rw [cod, ctab_191]; rfl
theorem k191_91 : cod 191 91 = some (8, 2, 0, vi (1), 94) := by rw [cod, ctab_191]; rfl
theorem k191_94 : cod 191 94 = some (26, 60, 0, z0, 97) := by rw [cod, ctab_191]; rfl
theorem k191_97 : cod 191 97 = some (4, 0, 0, z0, 98) := by rw [cod, ctab_191]; rfl
theorem k191_98 : cod 191 98 = some (29, 40, 43, z0, 101) := by rw [cod, ctab_191]; rfl
theorem k191_101 : cod 191 101 = some (0, 0, 0, z0, 102) := by rw [cod, ctab_191]; rfl
theorem k191_102 : cod 191 102 = some (24, 0, 0, z0, 103) := by rw [cod, ctab_191]; rfl
theorem k191_103 : cod 191 103 = some (31, 1, 0, z0, 104) := by rw [cod, ctab_191]; rfl
theorem k191_104 : cod 191 104 = some (0, 0, 0, vi (1), 105) := by rw [cod, ctab_191]; rfl
theorem k191_105 : cod 191 105 = some (9, 0, 0, z0, 106) := by rw [cod, ctab_191]; rfl
theorem k191_106 : cod 191 106 = some (32, 1, 0, z0, 107) := by rw [cod, ctab_191]; rfl
theorem k191_107 : cod 191 107 = some (2, 1, 0, z0, 108) := by rw [cod, ctab_191]; rfl
theorem k191_108 : cod 191 108 = some (36, 1, 0, z0, 109) := by rw [cod, ctab_191]; rfl
theorem ctab_192 : ctab.getD 192 [] = cd192 := rfl
theorem k192_0 : cod 192 0 = some (4, 0, 0, z0, 1) := by rw [cod, ctab_192]; rfl
theorem k192_1 : cod 192 1 = some (29, 40, 43, z0, 4) := by rw [cod, ctab_192]; rfl
theorem k192_4 : cod 192 4 = some (0, 0, 0, vi (1), 5) := by rw [cod, ctab_192]; rfl
theorem k192_5 : cod 192 5 = some (24, 0, 0, z0, 6) := by rw [cod, ctab_192]; rfl
theorem k192_6 : cod 192 6 = some (31, 1, 0, z0, 7) := by rw [cod, ctab_192]; rfl
theorem k192_7 : cod 192 7 = some (0, 0, 0, vi (1), 8) := by rw [cod, ctab_192]; rfl
theorem k192_8 : cod 192 8 = some (2, 1, 0, z0, 9) := by rw [cod, ctab_192]; rfl
theorem k192_9 : cod 192 9 = some (9, 6, 0, z0, 10) := by rw [cod, ctab_192]; rfl
theorem k192_10 : cod 192 10 = some (0, 0, 0, vi (-1), 11) := by rw [cod, ctab_192]; rfl
theorem k192_11 : cod 192 11 = some (9, 5, 0, z0, 12) := by rw [cod, ctab_192]; rfl
theorem k192_12 : cod 192 12 = some (9, 3, 0, z0, 13) := by rw [cod, ctab_192]; rfl
theorem k192_13 : cod 192 13 = some (32, 1, 0, z0, 14) := by rw [cod, ctab_192]; rfl
theorem k192_14 : cod 192 14 = some (4, 0, 0, z0, 15) := by rw [cod, ctab_192]; rfl
theorem k192_15 : cod 192 15 = some (29, 40, 43, z0, 18) := by rw [cod, ctab_192]; rfl
theorem k192_18 : cod 192 18 = some (0, 0, 0, vi (8), 20) := by rw [cod, ctab_192]; rfl
theorem k192_20 : cod 192 20 = some (2, 1, 0, z0, 21) := by rw [cod, ctab_192]; rfl
theorem k192_21 : cod 192 21 = some (9, 0, 0, z0, 22) := by rw [cod, ctab_192]; rfl
theorem k192_22 : cod 192 22 = some (0, 0, 0, vi (1), 23) := by rw [cod, ctab_192]; rfl
theorem k192_23 : cod 192 23 = some (32, 1, 0, z0, 24) := by rw [cod, ctab_192]; rfl
theorem k192_24 : cod 192 24 = some (35, 0, 0, z0, 25) := by rw [cod, ctab_192]; rfl
theorem ctab_193 : ctab.getD 193 [] = cd193 := rfl
theorem k193_0 : cod 193 0 = some (4, 0, 0, z0, 1) := by rw [cod, ctab_193]; rfl
theorem k193_1 : cod 193 1 = some (0, 0, 0, z0, 2) := by rw [cod, ctab_193]; rfl
theorem k193_2 : cod 193 2 = some (30, 40, 0, z0, 5) := by rw [cod, ctab_193]; rfl
theorem k193_5 : cod 193 5 = some (4, 0, 0, z0, 6) := by rw [cod, ctab_193]; rfl
theorem k193_6 : cod 193 6 = some (2, 1, 0, z0, 7) := by rw [cod, ctab_193]; rfl
theorem k193_7 : cod 193 7 = some (34, 176, 2, vr 40 0, 10) := by rw [cod, ctab_193]; rfl
theorem k193_10 : cod 193 10 = some (27, 0, 22, z0, 13) := by rw [cod, ctab_193]; rfl
theorem k193_13 : cod 193 13 = some (2, 2, 0, z0, 14) := by rw [cod, ctab_193]; rfl
theorem k193_14 : cod 193 14 = some (0, 0, 0, z0, 15) := by rw [cod, ctab_193]; rfl
theorem k193_15 : cod 193 15 = some (0, 0, 0, vi (5), 16) := by rw [cod, ctab_193]; rfl
theorem k193_16 : cod 193 16 = some (34, 130, 3, z0, 19) := by rw [cod, ctab_193]; rfl
theorem k193_19 : cod 193 19 = some (27, 1, 24, z0, 22) := by rw [cod, ctab_193]; rfl
theorem k193_22 : cod 193 22 = some (0, 0, 0, vi (-1), 23) := by rw [cod, ctab_193]; rfl
theorem k193_23 : cod 193 23 = some (36, 1, 0, z0, 24) := by rw [cod, ctab_193]; rfl
theorem k193_24 : cod 193 24 = some (2, 2, 0, z0, 25) := by rw [cod, ctab_193]; rfl
theorem k193_25 : cod 193 25 = some (0, 0, 0, vi (3), 26) := by rw [cod, ctab_193]; rfl
theorem k193_26 : cod 193 26 = some (28, 3, 68, z0, 29) := by rw [cod, ctab_193]; rfl
theorem k193_29 : cod 193 29 = some (2, 2, 0, z0, 30) := by rw [cod, ctab_193]; rfl
theorem k193_30 : cod 193 30 = some (27, 1, 42, z0, 33) := by rw [cod, ctab_193]; rfl
theorem k193_33 : cod 193 33 = some (4, 0, 0, z0, 34) := by rw [cod, ctab_193]; rfl
theorem k193_34 : cod 193 34 = some (29, 40, 14, z0, 37) := by rw [cod, ctab_193]; rfl
theorem k193_37 : cod 193 37 = some (2, 1, 0, z0, 38) := by rw [cod, ctab_193]; rfl
theorem k193_38 : cod 193 38 = some (31, 1, 0, z0, 39) := by rw [cod, ctab_193]; rfl
theorem k193_39 : cod 193 39 = some (26, 67, 0, z0, 42) := by rw [cod, ctab_193]; rfl
theorem k193_42 : cod 193 42 = some (2, 2, 0, z0, 43) := by rw [cod, ctab_193]; rfl
theorem k193_43 : cod 193 43 = some (0, 0, 0, vi (1), 44) := by rw [cod, ctab_193]; rfl
theorem k193_44 : cod 193 44 = some (28, 1, 58, z0, 47) := by rw [cod, ctab_193]; rfl
theorem k193_47 : cod 193 47 = some (4, 0, 0, z0, 48) := by rw [cod, ctab_193]; rfl
theorem k193_48 : cod 193 48 = some (29, 40, 43, z0, 51) := by rw [cod, ctab_193]; rfl
theorem k193_51 : cod 193 51 = some (0, 0, 0, vi (2), 52) := by rw [cod, ctab_193]; rfl
theorem k193_52 : cod 193 52 = some (2, 1, 0, z0, 53) := by rw [cod, ctab_193]; rfl
theorem k193_53 : cod 193 53 = some (9, 0, 0, z0, 54) := by rw [cod, ctab_193]; rfl
theorem k193_54 : cod 193 54 = some (31, 1, 0, z0, 55) := by rw [cod, ctab_193]; rfl
theorem k193_55 : cod 193 55 = some (26, 67, 0, z0, 58) := by rw [cod, ctab_193]; rfl
theorem k193_58 : cod 193 58 = some (4, 0, 0, z0, 59) := by rw [cod, ctab_193]; rfl
theorem k193_59 : cod 193 59 = some (29, 40, 43, z0, 62) := by rw [cod, ctab_193]; rfl
theorem k193_62 : cod 193 62 = some (0, 0, 0, vi (8), 64) := by rw [cod, ctab_193]; rfl
theorem k193_64 : cod 193 64 = some (2, 1, 0, z0, 65) := by rw [cod, ctab_193]; rfl
theorem k193_65 : cod 193 65 = some (9, 0, 0, z0, 66) := by rw [cod, ctab_193]; rfl
theorem k193_66 : cod 193 66 = some (31, 1, 0, z0, 67) := by rw [cod, ctab_193]; rfl
theorem k193_67 : cod 193 67 = some (36, 1, 0, z0, 68) := by rw [cod, ctab_193]; rfl
theorem k193_68 : cod 193 68 = some (2, 2, 0, z0, 69) := by rw [cod, ctab_193]; rfl
theorem k193_69 : cod 193 69 = some (0, 0, 0, vi (5), 70) := by rw [cod, ctab_193]; rfl
theorem k193_70 : cod 193 70 = some (28, 3, 105, z0, 73) := by rw [cod, ctab_193]; rfl
theorem k193_73 : cod 193 73 = some (2, 2, 0, z0, 74) := by rw [cod, ctab_193]; rfl
theorem k193_74 : cod 193 74 = some (0, 0, 0, vi (3), 75) := by rw [cod, ctab_193]; rfl
theorem k193_75 : cod 193 75 = some (28, 1, 91, z0, 78) := by rw [cod, ctab_193]; rfl
theorem k193_78 : cod 193 78 = some (4, 0, 0, z0, 79) := by rw [cod, ctab_193]; rfl
theorem k193_79 : cod 193 79 = some (29, 40, 43, z0, 82) := by rw [cod, ctab_193]; rfl
theorem k193_82 : cod 193 82 = some (0, 0, 0, vi (1), 83) := by rw [cod, ctab_193]; rfl
theorem k193_83 : cod 193 83 = some (31, 1, 0, z0, 84) := by rw [cod, ctab_193]; rfl
theorem k193_84 : cod 193 84 = some (2, 1, 0, z0, 85) := by rw [cod, ctab_193]; rfl
theorem k193_85 : cod 193 85 = some (9, 7, 0, z0, 86) := by rw [cod, ctab_193]; rfl
theorem k193_86 : cod 193 86 = some (0, 0, 0, vi (1), 87) := by rw [cod, ctab_193]; rfl
theorem k193_87 : cod 193 87 = some (9, 3, 0, z0, 88) := by rw [cod, ctab_193]; rfl
theorem k193_88 : cod 193 88 = some (26, 104, 0, z0, 91) := by rw [cod, ctab_193]; rfl
theorem k193_91 : cod 193 91 = some (4, 0, 0, z0, 92) := by rw [cod, ctab_193]; rfl
theorem k193_92 : cod 193 92 = some (2, 1, 0, z0, 93) := by rw [cod, ctab_193]; rfl
theorem k193_93 : cod 193 93 = some (34, 181, 2, vr 40 0, 96) := by rw [cod, ctab_193]; rfl
theorem k193_96 : cod 193 96 = some (27, 0, 103, z0, 99) := by rw [cod, ctab_193]; rfl
theorem k193_99 : cod 193 99 = some (0, 0, 0, vi (1), 100) := by rw [cod, ctab_193]; rfl
theorem k193_100 : cod 193 100 = some (26, 104, 0, z0, 103) := by rw [cod, ctab_193]; rfl
theorem k193_103 : cod 193 103 = some (0, 0, 0, z0, 104) := by rw [cod, ctab_193]; rfl
theorem k193_104 : cod 193 104 = some (36, 1, 0, z0, 105) := by rw [cod, ctab_193]; rfl
theorem k193_105 : cod 193 105 = some (4, 0, 0, z0, 106) := by rw [cod, ctab_193]; rfl
theorem k193_106 : cod 193 106 = some (2, 1, 0, z0, 107) := by rw [cod, ctab_193]; rfl
theorem k193_107 : cod 193 107 = some (34, 183, 2, vr 40 0, 110) := by rw [cod, ctab_193]; rfl
theorem k193_110 : cod 193 110 = some (36, 1, 0, z0, 111) := by rw [cod, ctab_193]; rfl
theorem ctab_194 : ctab.getD 194 [] = cd194 := rfl
theorem k194_0 : cod 194 0 = some (4, 0, 0, z0, 1) := by rw [cod, ctab_194]; rfl
theorem k194_1 : cod 194 1 = some (0, 0, 0, z0, 2) := by rw [cod, ctab_194]; rfl
theorem k194_2 : cod 194 2 = some (30, 40, 0, z0, 5) := by rw [cod, ctab_194]; rfl
theorem k194_5 : cod 194 5 = some (4, 0, 0, z0, 6) := by rw [cod, ctab_194]; rfl
theorem k194_6 : cod 194 6 = some (2, 1, 0, z0, 7) := by rw [cod, ctab_194]; rfl
theorem k194_7 : cod 194 7 = some (2, 2, 0, z0, 8) := by rw [cod, ctab_194]; rfl
theorem k194_8 : cod 194 8 = some (34, 177, 3, vr 40 0, 11) := by rw [cod, ctab_194]; rfl
theorem k194_11 : cod 194 11 = some (27, 0, 31, z0, 14) := by rw [cod, ctab_194]; rfl
theorem k194_14 : cod 194 14 = some (4, 0, 0, z0, 15) := by rw [cod, ctab_194]; rfl
theorem k194_15 : cod 194 15 = some (29, 40, 43, z0, 18) := by rw [cod, ctab_194]; rfl
theorem k194_18 : cod 194 18 = some (0, 0, 0, vi (14), 20) := by rw [cod, ctab_194]; rfl
theorem k194_20 : cod 194 20 = some (0, 0, 0, vi (6), 22) := by rw [cod, ctab_194]; rfl
theorem k194_22 : cod 194 22 = some (2, 1, 0, z0, 23) := by rw [cod, ctab_194]; rfl
theorem k194_23 : cod 194 23 = some (9, 2, 0, z0, 24) := by rw [cod, ctab_194]; rfl
theorem k194_24 : cod 194 24 = some (9, 0, 0, z0, 25) := by rw [cod, ctab_194]; rfl
theorem k194_25 : cod 194 25 = some (2, 2, 0, z0, 26) := by rw [cod, ctab_194]; rfl
theorem k194_26 : cod 194 26 = some (9, 0, 0, z0, 27) := by rw [cod, ctab_194]; rfl
theorem k194_27 : cod 194 27 = some (31, 1, 0, z0, 28) := by rw [cod, ctab_194]; rfl
theorem k194_28 : cod 194 28 = some (26, 32, 0, z0, 31) := by rw [cod, ctab_194]; rfl
theorem k194_31 : cod 194 31 = some (0, 0, 0, vi (-1), 32) := by rw [cod, ctab_194]; rfl
theorem k194_32 : cod 194 32 = some (36, 1, 0, z0, 33) := by rw [cod, ctab_194]; rfl
theorem ctab_195 : ctab.getD 195 [] = cd195 := rfl
theorem k195_0 : cod 195 0 = some (4, 0, 0, z0, 1) := by rw [cod, ctab_195]; rfl
theorem k195_1 : cod 195 1 = some (0, 0, 0, z0, 2) := by rw [cod, ctab_195]; rfl
theorem k195_2 : cod 195 2 = some (30, 40, 0, z0, 5) := by rw [cod, ctab_195]; rfl
theorem k195_5 : cod 195 5 = some (4, 0, 0, z0, 6) := by rw [cod, ctab_195]; rfl
theorem k195_6 : cod 195 6 = some (2, 1, 0, z0, 7) := by rw [cod, ctab_195]; rfl
theorem k195_7 : cod 195 7 = some (34, 175, 2, vr 40 0, 10) := by rw [cod, ctab_195]; rfl
theorem k195_10 : cod 195 10 = some (27, 0, 22, z0, 13) := by rw [cod, ctab_195]; rfl
theorem k195_13 : cod 195 13 = some (4, 0, 0, z0, 14) := by rw [cod, ctab_195]; rfl
theorem k195_14 : cod 195 14 = some (29, 40, 13, z0, 17) := by rw [cod, ctab_195]; rfl
theorem k195_17 : cod 195 17 = some (2, 1, 0, z0, 18) := by rw [cod, ctab_195]; rfl
theorem k195_18 : cod 195 18 = some (31, 1, 0, z0, 19) := by rw [cod, ctab_195]; rfl
theorem k195_19 : cod 195 19 = some (26, 23, 0, z0, 22) := by rw [cod, ctab_195]; rfl
theorem k195_22 : cod 195 22 = some (0, 0, 0, vi (-1), 23) := by rw [cod, ctab_195]; rfl
theorem k195_23 : cod 195 23 = some (36, 1, 0, z0, 24) := by rw [cod, ctab_195]; rfl
theorem ctab_196 : ctab.getD 196 [] = cd196 := rfl
theorem k196_0 : cod 196 0 = some (4, 0, 0, z0, 1) := by rw [cod, ctab_196]; rfl
theorem k196_1 : cod 196 1 = some (0, 0, 0, z0, 2) := by rw [cod, ctab_196]; rfl
theorem k196_2 : cod 196 2 = some (30, 40, 0, z0, 5) := by rw [cod, ctab_196]; rfl
theorem k196_5 : cod 196 5 = some (4, 0, 0, z0, 6) := by rw [cod, ctab_196]; rfl
theorem k196_6 : cod 196 6 = some (2, 1, 0, z0, 7) := by rw [cod, ctab_196]; rfl
theorem k196_7 : cod 196 7 = some (2, 2, 0, z0, 8) := by rw [cod, ctab_196]; rfl
theorem k196_8 : cod 196 8 = some (34, 177, 3, vr 40 0, 11) := by rw [cod, ctab_196]; rfl
theorem k196_11 : cod 196 11 = some (27, 0, 32, z0, 14) := by rw [cod, ctab_196]; rfl
theorem k196_14 : cod 196 14 = some (4, 0, 0, z0, 15) := by rw [cod, ctab_196]; rfl
theorem k196_15 : cod 196 15 = some (2, 1, 0, z0, 16) := by rw [cod, ctab_196]; rfl
theorem k196_16 : cod 196 16 = some (2, 2, 0, z0, 17) := by rw [cod, ctab_196]; rfl
theorem k196_17 : cod 196 17 = some (4, 0, 0, z0, 18) := by rw [cod, ctab_196]; rfl
theorem k196_18 : cod 196 18 = some (29, 40, 43, z0, 21) := by rw [cod, ctab_196]; rfl
theorem k196_21 : cod 196 21 = some (0, 0, 0, vi (8), 23) := by rw [cod, ctab_196]; rfl
theorem k196_23 : cod 196 23 = some (2, 2, 0, z0, 24) := by rw [cod, ctab_196]; rfl
theorem k196_24 : cod 196 24 = some (9, 0, 0, z0, 25) := by rw [cod, ctab_196]; rfl
theorem k196_25 : cod 196 25 = some (31, 1, 0, z0, 26) := by rw [cod, ctab_196]; rfl
theorem k196_26 : cod 196 26 = some (34, 188, 4, vr 40 0, 29) := by rw [cod, ctab_196]; rfl
theorem k196_29 : cod 196 29 = some (26, 33, 0, z0, 32) := by rw [cod, ctab_196]; rfl
theorem k196_32 : cod 196 32 = some (0, 0, 0, vi (-1), 33) := by rw [cod, ctab_196]; rfl
theorem k196_33 : cod 196 33 = some (36, 1, 0, z0, 34) := by rw [cod, ctab_196]; rfl
theorem ctab_197 : ctab.getD 197 [] = cd197 := rfl
theorem k197_0 : cod 197 0 = some (4, 0, 0, z0, 1) := by rw [cod, ctab_197]; rfl
theorem k197_1 : cod 197 1 = some (29, 40, 49, z0, 4) := by rw [cod, ctab_197]; rfl
theorem k197_4 : cod 197 4 = some (0, 0, 0, vi (16), 6) := by rw [cod, ctab_197]; rfl
theorem k197_6 : cod 197 6 = some (28, 1, 49, z0, 9) := by rw [cod, ctab_197]; rfl
theorem k197_9 : cod 197 9 = some (0, 0, 0, z0, 10) := by rw [cod, ctab_197]; rfl
theorem k197_10 : cod 197 10 = some (5, 1, 0, z0, 11) := by rw [cod, ctab_197]; rfl
theorem k197_11 : cod 197 11 = some (2, 1, 0, z0, 12) := by rw [cod, ctab_197]; rfl
theorem k197_12 : cod 197 12 = some (0, 0, 0, vi (750), 15) := by rw [cod, ctab_197]; rfl
theorem k197_15 : cod 197 15 = some (28, 3, 39, z0, 18) := by rw [cod, ctab_197]; rfl
theorem k197_18 : cod 197 18 = some (4, 0, 0, z0, 19) := by rw [cod, ctab_197]; rfl
theorem k197_19 : cod 197 19 = some (29, 40, 47, z0, 22) := by rw [cod, ctab_197]; rfl
theorem k197_22 : cod 197 22 = some (2, 1, 0, z0, 23) := by rw [cod, ctab_197]; rfl
theorem k197_23 : cod 197 23 = some (4, 0, 0, z0, 24) := by rw [cod, ctab_197]; rfl
theorem k197_24 : cod 197 24 = some (29, 40, 47, z0, 27) := by rw [cod, ctab_197]; rfl
theorem k197_27 : cod 197 27 = some (2, 1, 0, z0, 28) := by rw [cod, ctab_197]; rfl
theorem k197_28 : cod 197 28 = some (0, 0, 0, vi (50), 30) := by rw [cod, ctab_197]; rfl
theorem k197_30 : cod 197 30 = some (9, 0, 0, z0, 31) := by rw [cod, ctab_197]; rfl
theorem k197_31 : cod 197 31 = some (31, 1, 0, z0, 32) := by rw [cod, ctab_197]; rfl
theorem k197_32 : cod 197 32 = some (32, 1, 0, z0, 33) := by rw [cod, ctab_197]; rfl
theorem k197_33 : cod 197 33 = some (8, 1, 0, vi (1), 36) := by rw [cod, ctab_197]; rfl
theorem k197_36 : cod 197 36 = some (26, 11, 0, z0, 39) := by rw [cod, ctab_197]; rfl
theorem k197_39 : cod 197 39 = some (4, 0, 0, z0, 40) := by rw [cod, ctab_197]; rfl
theorem k197_40 : cod 197 40 = some (23, 0, 0, z0, 41) := by rw [cod, ctab_197]; rfl
theorem k197_41 : cod 197 41 = some (29, 40, 49, z0, 44) := by rw [cod, ctab_197]; rfl
theorem k197_44 : cod 197 44 = some (0, 0, 0, vi (1), 45) := by rw [cod, ctab_197]; rfl
theorem k197_45 : cod 197 45 = some (9, 1, 0, z0, 46) := by rw [cod, ctab_197]; rfl
theorem k197_46 : cod 197 46 = some (30, 40, 49, z0, 49) := by rw [cod, ctab_197]; rfl
theorem k197_49 : cod 197 49 = some (4, 0, 0, z0, 50) := by rw [cod, ctab_197]; rfl
theorem k197_50 : cod 197 50 = some (29, 40, 43, z0, 53) := by rw [cod, ctab_197]; rfl
theorem k197_53 : cod 197 53 = some (0, 0, 0, z0, 54) := by rw [cod, ctab_197]; rfl
theorem k197_54 : cod 197 54 = some (4, 0, 0, z0, 55) := by rw [cod, ctab_197]; rfl
theorem k197_55 : cod 197 55 = some (29, 40, 47, z0, 58) := by rw [cod, ctab_197]; rfl
theorem k197_58 : cod 197 58 = some (0, 0, 0, vi (50), 60) := by rw [cod, ctab_197]; rfl
theorem k197_60 : cod 197 60 = some (4, 0, 0, z0, 61) := by rw [cod, ctab_197]; rfl
theorem k197_61 : cod 197 61 = some (29, 40, 49, z0, 64) := by rw [cod, ctab_197]; rfl
theorem k197_64 : cod 197 64 = some (9, 2, 0, z0, 65) := by rw [cod, ctab_197]; rfl
theorem k197_65 : cod 197 65 = some (34, 168, 4, z0, 68) := by rw [cod, ctab_197]; rfl
theorem k197_68 : cod 197 68 = some (4, 0, 0, z0, 69) := by rw [cod, ctab_197]; rfl
theorem k197_69 : cod 197 69 = some (23, 0, 0, z0, 70) := by rw [cod, ctab_197]; rfl
theorem k197_70 : cod 197 70 = some (29, 40, 49, z0, 73) := by rw [cod, ctab_197]; rfl
theorem k197_73 : cod 197 73 = some (0, 0, 0, vi (1), 74) := by rw [cod, ctab_197]; rfl
theorem k197_74 : cod 197 74 = some (9, 0, 0, z0, 75) := by rw [cod, ctab_197]; rfl
theorem k197_75 : cod 197 75 = some (30, 40, 49, z0, 78) := by rw [cod, ctab_197]; rfl
theorem k197_78 : cod 197 78 = some (35, 0, 0, z0, 79) := by rw [cod, ctab_197]; rfl
theorem ctab_198 : ctab.getD 198 [] = cd198 := rfl
theorem k198_0 : cod 198 0 = some (4, 0, 0, z0, 1) := by rw [cod, ctab_198]; rfl
theorem k198_1 : cod 198 1 = some (0, 0, 0, z0, 2) := by rw [cod, ctab_198]; rfl
theorem k198_2 : cod 198 2 = some (30, 40, 0, z0, 5) := by rw [cod, ctab_198]; rfl
theorem k198_5 : cod 198 5 = some (4, 0, 0, z0, 6) := by rw [cod, ctab_198]; rfl
theorem k198_6 : cod 198 6 = some (2, 1, 0, z0, 7) := by rw [cod, ctab_198]; rfl
theorem k198_7 : cod 198 7 = some (34, 176, 2, vr 40 0, 10) := by rw [cod, ctab_198]; rfl
theorem k198_10 : cod 198 10 = some (27, 0, 30, z0, 13) := by rw [cod, ctab_198]; rfl
theorem k198_13 : cod 198 13 = some (4, 0, 0, z0, 14) := by rw [cod, ctab_198]; rfl
theorem k198_14 : cod 198 14 = some (2, 2, 0, z0, 15) := by rw [cod, ctab_198]; rfl
theorem k198_15 : cod 198 15 = some (34, 175, 2, vr 40 0, 18) := by rw [cod, ctab_198]; rfl
theorem k198_18 : cod 198 18 = some (27, 0, 30, z0, 21) := by rw [cod, ctab_198]; rfl
theorem k198_21 : cod 198 21 = some (4, 0, 0, z0, 22) := by rw [cod, ctab_198]; rfl
theorem k198_22 : cod 198 22 = some (2, 1, 0, z0, 23) := by rw [cod, ctab_198]; rfl
theorem k198_23 : cod 198 23 = some (2, 2, 0, z0, 24) := by rw [cod, ctab_198]; rfl
theorem k198_24 : cod 198 24 = some (34, 184, 3, vr 40 0, 27) := by rw [cod, ctab_198]; rfl
theorem k198_27 : cod 198 27 = some (27, 1, 32, z0, 30) := by rw [cod, ctab_198]; rfl
theorem k198_30 : cod 198 30 = some (0, 0, 0, z0, 31) := by rw [cod, ctab_198]; rfl
theorem k198_31 : cod 198 31 = some (36, 2, 0, z0, 32) := by rw [cod, ctab_198]; rfl
theorem k198_32 : cod 198 32 = some (4, 0, 0, z0, 33) := by rw [cod, ctab_198]; rfl
theorem k198_33 : cod 198 33 = some (34, 197, 1, vr 40 0, 36) := by rw [cod, ctab_198]; rfl
theorem k198_36 : cod 198 36 = some (4, 0, 0, z0, 37) := by rw [cod, ctab_198]; rfl
theorem k198_37 : cod 198 37 = some (29, 40, 43, z0, 40) := by rw [cod, ctab_198]; rfl
theorem k198_40 : cod 198 40 = some (0, 0, 0, vi (2), 41) := by rw [cod, ctab_198]; rfl
theorem k198_41 : cod 198 41 = some (2, 1, 0, z0, 42) := by rw [cod, ctab_198]; rfl
theorem k198_42 : cod 198 42 = some (9, 0, 0, z0, 43) := by rw [cod, ctab_198]; rfl
theorem k198_43 : cod 198 43 = some (2, 2, 0, z0, 44) := by rw [cod, ctab_198]; rfl
theorem k198_44 : cod 198 44 = some (32, 1, 0, z0, 45) := by rw [cod, ctab_198]; rfl
theorem k198_45 : cod 198 45 = some (0, 0, 0, vi (1), 46) := by rw [cod, ctab_198]; rfl
theorem k198_46 : cod 198 46 = some (36, 2, 0, z0, 47) := by rw [cod, ctab_198]; rfl
theorem ctab_199 : ctab.getD 199 [] = cd199 := rfl
theorem k199_0 : cod 199 0 = some (4, 0, 0, z0, 1) := by rw [cod, ctab_199]; rfl
theorem k199_1 : cod 199 1 = some (0, 0, 0, z0, 2) := by rw [cod, ctab_199]; rfl
theorem k199_2 : cod 199 2 = some (30, 40, 0, z0, 5) := by rw [cod, ctab_199]; rfl
theorem k199_5 : cod 199 5 = some (4, 0, 0, z0, 6) := by rw [cod, ctab_199]; rfl
theorem k199_6 : cod 199 6 = some (2, 1, 0, z0, 7) := by rw [cod, ctab_199]; rfl
theorem k199_7 : cod 199 7 = some (2, 2, 0, z0, 8) := by rw [cod, ctab_199]; rfl
theorem k199_8 : cod 199 8 = some (34, 177, 3, vr 40 0, 11) := by rw [cod, ctab_199]; rfl
theorem k199_11 : cod 199 11 = some (27, 0, 31, z0, 14) := by rw [cod, ctab_199]; rfl
theorem k199_14 : cod 199 14 = some (4, 0, 0, z0, 15) := by rw [cod, ctab_199]; rfl
theorem k199_15 : cod 199 15 = some (2, 1, 0, z0, 16) := by rw [cod, ctab_199]; rfl
theorem k199_16 : cod 199 16 = some (2, 2, 0, z0, 17) := by rw [cod, ctab_199]; rfl
theorem k199_17 : cod 199 17 = some (34, 185, 3, vr 40 0, 20) := by rw [cod, ctab_199]; rfl
theorem k199_20 : cod 199 20 = some (27, 0, 31, z0, 23) := by rw [cod, ctab_199]; rfl
theorem k199_23 : cod 199 23 = some (4, 0, 0, z0, 24) := by rw [cod, ctab_199]; rfl
theorem k199_24 : cod 199 24 = some (2, 2, 0, z0, 25) := by rw [cod, ctab_199]; rfl
theorem k199_25 : cod 199 25 = some (34, 186, 2, vr 40 0, 28) := by rw [cod, ctab_199]; rfl
theorem k199_28 : cod 199 28 = some (27, 1, 33, z0, 31) := by rw [cod, ctab_199]; rfl
theorem k199_31 : cod 199 31 = some (0, 0, 0, vi (-1), 32) := by rw [cod, ctab_199]; rfl
theorem k199_32 : cod 199 32 = some (36, 1, 0, z0, 33) := by rw [cod, ctab_199]; rfl
theorem k199_33 : cod 199 33 = some (4, 0, 0, z0, 34) := by rw [cod, ctab_199]; rfl
theorem k199_34 : cod 199 34 = some (34, 197, 1, vr 40 0, 37) := by rw [cod, ctab_199]; rfl
theorem k199_37 : cod 199 37 = some (4, 0, 0, z0, 38) := by rw [cod, ctab_199]; rfl
theorem k199_38 : cod 199 38 = some (2, 1, 0, z0, 39) := by rw [cod, ctab_199]; rfl
theorem k199_39 : cod 199 39 = some (2, 2, 0, z0, 40) := by rw [cod, ctab_199]; rfl
theorem k199_40 : cod 199 40 = some (34, 189, 3, vr 40 0, 43) := by rw [cod, ctab_199]; rfl
theorem k199_43 : cod 199 43 = some (4, 0, 0, z0, 44) := by rw [cod, ctab_199]; rfl
theorem k199_44 : cod 199 44 = some (29, 40, 43, z0, 47) := by rw [cod, ctab_199]; rfl
theorem k199_47 : cod 199 47 = some (0, 0, 0, vi (8), 49) := by rw [cod, ctab_199]; rfl
theorem k199_49 : cod 199 49 = some (2, 2, 0, z0, 50) := by rw [cod, ctab_199]; rfl
theorem k199_50 : cod 199 50 = some (9, 0, 0, z0, 51) := by rw [cod, ctab_199]; rfl
theorem k199_51 : cod 199 51 = some (31, 1, 0, z0, 52) := by rw [cod, ctab_199]; rfl
theorem k199_52 : cod 199 52 = some (36, 1, 0, z0, 53) := by rw [cod, ctab_199]; rfl
theorem ctab_200 : ctab.getD 200 [] = cd200 := rfl
theorem k200_0 : cod 200 0 = some (4, 0, 0, z0, 1) := by rw [cod, ctab_200]; rfl
theorem k200_1 : cod 200 1 = some (0, 0, 0, z0, 2) := by rw [cod, ctab_200]; rfl
theorem k200_2 : cod 200 2 = some (30, 40, 0, z0, 5) := by rw [cod, ctab_200]; rfl
theorem k200_5 : cod 200 5 = some (4, 0, 0, z0, 6) := by rw [cod, ctab_200]; rfl
theorem k200_6 : cod 200 6 = some (2, 1, 0, z0, 7) := by rw [cod, ctab_200]; rfl
theorem k200_7 : cod 200 7 = some (34, 176, 2, vr 40 0, 10) := by rw [cod, ctab_200]; rfl
theorem k200_10 : cod 200 10 = some (27, 0, 21, z0, 13) := by rw [cod, ctab_200]; rfl
theorem k200_13 : cod 200 13 = some (4, 0, 0, z0, 14) := by rw [cod, ctab_200]; rfl
theorem k200_14 : cod 200 14 = some (2, 1, 0, z0, 15) := by rw [cod, ctab_200]; rfl
theorem k200_15 : cod 200 15 = some (34, 180, 2, vr 40 0, 18) := by rw [cod, ctab_200]; rfl
theorem k200_18 : cod 200 18 = some (27, 1, 23, z0, 21) := by rw [cod, ctab_200]; rfl
theorem k200_21 : cod 200 21 = some (0, 0, 0, z0, 22) := by rw [cod, ctab_200]; rfl
theorem k200_22 : cod 200 22 = some (36, 2, 0, z0, 23) := by rw [cod, ctab_200]; rfl
theorem k200_23 : cod 200 23 = some (4, 0, 0, z0, 24) := by rw [cod, ctab_200]; rfl
theorem k200_24 : cod 200 24 = some (34, 197, 1, vr 40 0, 27) := by rw [cod, ctab_200]; rfl
theorem k200_27 : cod 200 27 = some (4, 0, 0, z0, 28) := by rw [cod, ctab_200]; rfl
theorem k200_28 : cod 200 28 = some (2, 1, 0, z0, 29) := by rw [cod, ctab_200]; rfl
theorem k200_29 : cod 200 29 = some (34, 192, 2, vr 40 0, 32) := by rw [cod, ctab_200]; rfl
theorem k200_32 : cod 200 32 = some (0, 0, 0, vi (1), 33) := by rw [cod, ctab_200]; rfl
theorem k200_33 : cod 200 33 = some (36, 2, 0, z0, 34) := by rw [cod, ctab_200]; rfl
theorem ctab_201 : ctab.getD 201 [] = cd201 := rfl
theorem k201_0 : cod 201 0 = some (4, 0, 0, z0, 1) := by rw [cod, ctab_201]; rfl
theorem k201_1 : cod 201 1 = some (0, 0, 0, z0, 2) := by rw [cod, ctab_201]; rfl
theorem k201_2 : cod 201 2 = some (30, 40, 0, z0, 5) := by rw [cod, ctab_201]; rfl
theorem k201_5 : cod 201 5 = some (4, 0, 0, z0, 6) := by rw [cod, ctab_201]; rfl
theorem k201_6 : cod 201 6 = some (34, 197, 1, vr 40 0, 9) := by rw [cod, ctab_201]; rfl
theorem k201_9 : cod 201 9 = some (4, 0, 0, z0, 10) := by rw [cod, ctab_201]; rfl
theorem k201_10 : cod 201 10 = some (34, 191, 1, vr 40 0, 13) := by rw [cod, ctab_201]; rfl
theorem k201_13 : cod 201 13 = some (36, 1, 0, z0, 14) := by rw [cod, ctab_201]; rfl
theorem ctab_202 : ctab.getD 202 [] = cd202 := rfl
theorem k202_0 : cod 202 0 = some (4, 0, 0, z0, 1) := by rw [cod, ctab_202]; rfl
theorem k202_1 : cod 202 1 = some (0, 0, 0, z0, 2) := by rw [cod, ctab_202]; rfl
theorem k202_2 : cod 202 2 = some (30, 40, 0, z0, 5) := by rw [cod, ctab_202]; rfl
theorem k202_5 : cod 202 5 = some (4, 0, 0, z0, 6) := by rw [cod, ctab_202]; rfl
theorem k202_6 : cod 202 6 = some (29, 40, 49, z0, 9) := by rw [cod, ctab_202]; rfl
theorem k202_9 : cod 202 9 = some (27, 1, 14, z0, 12) := by rw [cod, ctab_202]; rfl
theorem k202_12 : cod 202 12 = some (0, 0, 0, z0, 13) := by rw [cod, ctab_202]; rfl
theorem k202_13 : cod 202 13 = some (36, 2, 0, z0, 14) := by rw [cod, ctab_202]; rfl
theorem k202_14 : cod 202 14 = some (4, 0, 0, z0, 15) := by rw [cod, ctab_202]; rfl
theorem k202_15 : cod 202 15 = some (23, 0, 0, z0, 16) := by rw [cod, ctab_202]; rfl
theorem k202_16 : cod 202 16 = some (29, 40, 49, z0, 19) := by rw [cod, ctab_202]; rfl
theorem k202_19 : cod 202 19 = some (0, 0, 0, vi (1), 20) := by rw [cod, ctab_202]; rfl
theorem k202_20 : cod 202 20 = some (9, 1, 0, z0, 21) := by rw [cod, ctab_202]; rfl
theorem k202_21 : cod 202 21 = some (30, 40, 49, z0, 24) := by rw [cod, ctab_202]; rfl
theorem k202_24 : cod 202 24 = some (4, 0, 0, z0, 25) := by rw [cod, ctab_202]; rfl
theorem k202_25 : cod 202 25 = some (29, 40, 47, z0, 28) := by rw [cod, ctab_202]; rfl
theorem k202_28 : cod 202 28 = some (0, 0, 0, vi (50), 30) := by rw [cod, ctab_202]; rfl
theorem k202_30 : cod 202 30 = some (4, 0, 0, z0, 31) := by rw [cod, ctab_202]; rfl
theorem k202_31 : cod 202 31 = some (29, 40, 49, z0, 34) := by rw [cod, ctab_202]; rfl
theorem k202_34 : cod 202 34 = some (9, 2, 0, z0, 35) := by rw [cod, ctab_202]; rfl
theorem k202_35 : cod 202 35 = some (4, 0, 0, z0, 36) := by rw [cod, ctab_202]; rfl
theorem k202_36 : cod 202 36 = some (29, 40, 43, z0, 39) := by rw [cod, ctab_202]; rfl
theorem k202_39 : cod 202 39 = some (0, 0, 0, z0, 40) := by rw [cod, ctab_202]; rfl
theorem k202_40 : cod 202 40 = some (34, 168, 4, z0, 43) := by rw [cod, ctab_202]; rfl
theorem k202_43 : cod 202 43 = some (0, 0, 0, vi (1), 44) := by rw [cod, ctab_202]; rfl
theorem k202_44 : cod 202 44 = some (36, 2, 0, z0, 45) := by rw [cod, ctab_202]; rfl
theorem ctab_203 : ctab.getD 203 [] = cd203 := rfl
theorem k203_0 : cod 203 0 = some (4, 0, 0, z0, 1) := by rw [cod, ctab_203]; rfl
theorem k203_1 : cod 203 1 = some (29, 40, 39, z0, 4) := by rw [cod, ctab_203]; rfl
theorem k203_4 : cod 203 4 = some (2, 1, 0, z0, 5) := by rw [cod, ctab_203]; rfl
theorem k203_5 : cod 203 5 = some (31, 1, 0, z0, 6) := by rw [cod, ctab_203]; rfl
theorem k203_6 : cod 203 6 = some (5, 2, 0, z0, 7) := by rw [cod, ctab_203]; rfl
theorem k203_7 : cod 203 7 = some (4, 0, 0, z0, 8) := by rw [cod, ctab_203]; rfl
theorem k203_8 : cod 203 8 = some (29, 40, 40, z0, 11) := by rw [cod, ctab_203]; rfl
theorem k203_11 : cod 203 11 = some (2, 1, 0, z0, 12) := by rw [cod, ctab_203]; rfl
theorem k203_12 : cod 203 12 = some (31, 1, 0, z0, 13) := by rw [cod, ctab_203]; rfl
theorem k203_13 : cod 203 13 = some (5, 3, 0, z0, 14) := by rw [cod, ctab_203]; rfl
theorem k203_14 : cod 203 14 = some (4, 0, 0, z0, 15) := by rw [cod, ctab_203]; rfl
theorem k203_15 : cod 203 15 = some (29, 40, 41, z0, 18) := by rw [cod, ctab_203]; rfl
theorem k203_18 : cod 203 18 = some (2, 1, 0, z0, 19) := by rw [cod, ctab_203]; rfl
theorem k203_19 : cod 203 19 = some (31, 1, 0, z0, 20) := by rw [cod, ctab_203]; rfl
theorem k203_20 : cod 203 20 = some (5, 4, 0, z0, 22) := by rw [cod, ctab_203]; rfl
theorem k203_22 : cod 203 22 = some (2, 2, 0, z0, 23) := by rw [cod, ctab_203]; rfl
theorem k203_23 : cod 203 23 = some (27, 1, 51, z0, 26) := by rw [cod, ctab_203]; rfl
theorem k203_26 : cod 203 26 = some (4, 0, 0, z0, 27) := by rw [cod, ctab_203]; rfl
theorem k203_27 : cod 203 27 = some (2, 3, 0, z0, 28) := by rw [cod, ctab_203]; rfl
theorem k203_28 : cod 203 28 = some (2, 4, 0, z0, 30) := by rw [cod, ctab_203]; rfl
theorem k203_30 : cod 203 30 = some (34, 184, 3, vr 40 0, 33) := by rw [cod, ctab_203]; rfl
theorem k203_33 : cod 203 33 = some (27, 1, 38, z0, 36) := by rw [cod, ctab_203]; rfl
theorem k203_36 : cod 203 36 = some (0, 0, 0, z0, 37) := by rw [cod, ctab_203]; rfl
theorem k203_37 : cod 203 37 = some (36, 2, 0, z0, 38) := by rw [cod, ctab_203]; rfl
theorem k203_38 : cod 203 38 = some (4, 0, 0, z0, 39) := by rw [cod, ctab_203]; rfl
theorem k203_39 : cod 203 39 = some (29, 40, 43, z0, 42) := by rw [cod, ctab_203]; rfl
theorem k203_42 : cod 203 42 = some (0, 0, 0, vi (2), 43) := by rw [cod, ctab_203]; rfl
theorem k203_43 : cod 203 43 = some (2, 3, 0, z0, 44) := by rw [cod, ctab_203]; rfl
theorem k203_44 : cod 203 44 = some (9, 0, 0, z0, 45) := by rw [cod, ctab_203]; rfl
theorem k203_45 : cod 203 45 = some (2, 4, 0, z0, 47) := by rw [cod, ctab_203]; rfl
theorem k203_47 : cod 203 47 = some (32, 1, 0, z0, 48) := by rw [cod, ctab_203]; rfl
theorem k203_48 : cod 203 48 = some (26, 115, 0, z0, 51) := by rw [cod, ctab_203]; rfl
theorem k203_51 : cod 203 51 = some (2, 2, 0, z0, 52) := by rw [cod, ctab_203]; rfl
theorem k203_52 : cod 203 52 = some (0, 0, 0, vi (1), 53) := by rw [cod, ctab_203]; rfl
theorem k203_53 : cod 203 53 = some (28, 1, 87, z0, 56) := by rw [cod, ctab_203]; rfl
theorem k203_56 : cod 203 56 = some (4, 0, 0, z0, 57) := by rw [cod, ctab_203]; rfl
theorem k203_57 : cod 203 57 = some (2, 3, 0, z0, 58) := by rw [cod, ctab_203]; rfl
theorem k203_58 : cod 203 58 = some (2, 4, 0, z0, 60) := by rw [cod, ctab_203]; rfl
theorem k203_60 : cod 203 60 = some (34, 185, 3, vr 40 0, 63) := by rw [cod, ctab_203]; rfl
theorem k203_63 : cod 203 63 = some (27, 0, 75, z0, 66) := by rw [cod, ctab_203]; rfl
theorem k203_66 : cod 203 66 = some (4, 0, 0, z0, 67) := by rw [cod, ctab_203]; rfl
theorem k203_67 : cod 203 67 = some (2, 4, 0, z0, 69) := by rw [cod, ctab_203]; rfl
theorem k203_69 : cod 203 69 = some (34, 186, 2, vr 40 0, 72) := by rw [cod, ctab_203]; rfl
theorem k203_72 : cod 203 72 = some (27, 1, 77, z0, 75) := by rw [cod, ctab_203]; rfl
theorem k203_75 : cod 203 75 = some (0, 0, 0, z0, 76) := by rw [cod, ctab_203]; rfl
theorem k203_76 : cod 203 76 = some (36, 2, 0, z0, 77) := by rw [cod, ctab_203]; rfl
theorem k203_77 : cod 203 77 = some (4, 0, 0, z0, 78) := by rw [cod, ctab_203]; rfl
theorem k203_78 : cod 203 78 = some (2, 3, 0, z0, 79) := by rw [cod, ctab_203]; rfl
theorem k203_79 : cod 203 79 = some (2, 4, 0, z0, 81) := by rw [cod, ctab_203]; rfl
theorem k203_81 : cod 203 81 = some (34, 189, 3, vr 40 0, 84) := by rw [cod, ctab_203]; rfl
theorem k203_84 : cod 203 84 = some (26, 115, 0, z0, 87) := by rw [cod, ctab_203]; rfl
theorem k203_87 : cod 203 87 = some (2, 2, 0, z0, 88) := by rw [cod, ctab_203]; rfl
theorem k203_88 : cod 203 88 = some (0, 0, 0, vi (2), 89) := by rw [cod, ctab_203]; rfl
theorem k203_89 : cod 203 89 = some (28, 1, 110, z0, 92) := by rw [cod, ctab_203]; rfl
theorem k203_92 : cod 203 92 = some (4, 0, 0, z0, 93) := by rw [cod, ctab_203]; rfl
theorem k203_93 : cod 203 93 = some (2, 3, 0, z0, 94) := by rw [cod, ctab_203]; rfl
theorem k203_94 : cod 203 94 = some (34, 180, 2, vr 40 0, 97) := by rw [cod, ctab_203]; rfl
theorem k203_97 : cod 203 97 = some (27, 1, 102, z0, 100) := by rw [cod, ctab_203]; rfl
theorem k203_100 : cod 203 100 = some (0, 0, 0, z0, 101) := by rw [cod, ctab_203]; rfl
theorem k203_101 : cod 203 101 = some (36, 2, 0, z0, 102) := by rw [cod, ctab_203]; rfl
theorem k203_102 : cod 203 102 = some (4, 0, 0, z0, 103) := by rw [cod, ctab_203]; rfl
theorem k203_103 : cod 203 103 = some (2, 3, 0, z0, 104) := by rw [cod, ctab_203]; rfl
theorem k203_104 : cod 203 104 = some (34, 192, 2, vr 40 0, 107) := by rw [cod, ctab_203]; rfl
theorem k203_107 : cod 203 107 = some (26, 115, 0, z0, 110) := by rw [cod, ctab_203]; rfl
theorem k203_110 : cod 203 110 = some (4, 0, 0, z0, 111) := by rw [cod, ctab_203]; rfl
theorem k203_111 : cod 203 111 = some (34, 191, 1, vr 40 0, 114) := by rw [cod, ctab_203]; rfl
theorem k203_114 : cod 203 114 = some (25, 0, 0, z0, 115) := by rw [cod, ctab_203]; rfl
theorem k203_115 : cod 203 115 = some (0, 0, 0, vi (1), 116) := by rw [cod, ctab_203]; rfl
theorem k203_116 : cod 203 116 = some (36, 2, 0, z0, 117) := by rw [cod, ctab_203]; rfl
theorem ctab_204 : ctab.getD 204 [] = cd204 := rfl
theorem k204_0 : cod 204 0 = some (4, 0, 0, z0, 1) := by rw [cod, ctab_204]; rfl
theorem k204_1 : cod 204 1 = some (0, 0, 0, z0, 2) := by rw [cod, ctab_204]; rfl
theorem k204_2 : cod 204 2 = some (30, 40, 0, z0, 5) := by rw [cod, ctab_204]; rfl
theorem k204_5 : cod 204 5 = some (2, 1, 0, z0, 6) := by rw [cod, ctab_204]; rfl
theorem k204_6 : cod 204 6 = some (0, 0, 0, z0, 7) := by rw [cod, ctab_204]; rfl
theorem k204_7 : cod 204 7 = some (0, 0, 0, vi (2), 8) := by rw [cod, ctab_204]; rfl
theorem k204_8 : cod 204 8 = some (34, 130, 3, z0, 11) := by rw [cod, ctab_204]; rfl
theorem k204_11 : cod 204 11 = some (27, 1, 17, z0, 14) := by rw [cod, ctab_204]; rfl
theorem k204_14 : cod 204 14 = some (0, 0, 0, vi (-2), 16) := by rw [cod, ctab_204]; rfl
theorem k204_16 : cod 204 16 = some (36, 1, 0, z0, 17) := by rw [cod, ctab_204]; rfl
theorem k204_17 : cod 204 17 = some (4, 0, 0, z0, 18) := by rw [cod, ctab_204]; rfl
theorem k204_18 : cod 204 18 = some (29, 40, 43, z0, 21) := by rw [cod, ctab_204]; rfl
theorem k204_21 : cod 204 21 = some (0, 0, 0, z0, 22) := by rw [cod, ctab_204]; rfl
theorem k204_22 : cod 204 22 = some (4, 0, 0, z0, 23) := by rw [cod, ctab_204]; rfl
theorem k204_23 : cod 204 23 = some (29, 40, 44, z0, 26) := by rw [cod, ctab_204]; rfl
theorem k204_26 : cod 204 26 = some (0, 0, 0, z0, 27) := by rw [cod, ctab_204]; rfl
theorem k204_27 : cod 204 27 = some (34, 168, 4, z0, 30) := by rw [cod, ctab_204]; rfl
theorem k204_30 : cod 204 30 = some (4, 0, 0, z0, 31) := by rw [cod, ctab_204]; rfl
theorem k204_31 : cod 204 31 = some (34, 171, 1, vr 40 0, 34) := by rw [cod, ctab_204]; rfl
theorem k204_34 : cod 204 34 = some (0, 0, 0, vi (-1), 35) := by rw [cod, ctab_204]; rfl
theorem k204_35 : cod 204 35 = some (5, 2, 0, z0, 36) := by rw [cod, ctab_204]; rfl
theorem k204_36 : cod 204 36 = some (0, 0, 0, vi (-1), 37) := by rw [cod, ctab_204]; rfl
theorem k204_37 : cod 204 37 = some (5, 3, 0, z0, 38) := by rw [cod, ctab_204]; rfl
theorem k204_38 : cod 204 38 = some (0, 0, 0, z0, 39) := by rw [cod, ctab_204]; rfl
theorem k204_39 : cod 204 39 = some (5, 4, 0, z0, 41) := by rw [cod, ctab_204]; rfl
theorem k204_41 : cod 204 41 = some (2, 4, 0, z0, 43) := by rw [cod, ctab_204]; rfl
theorem k204_43 : cod 204 43 = some (4, 0, 0, z0, 44) := by rw [cod, ctab_204]; rfl
theorem k204_44 : cod 204 44 = some (29, 40, 38, z0, 47) := by rw [cod, ctab_204]; rfl
theorem k204_47 : cod 204 47 = some (0, 0, 0, z0, 48) := by rw [cod, ctab_204]; rfl
theorem k204_48 : cod 204 48 = some (31, 1, 0, z0, 49) := by rw [cod, ctab_204]; rfl
theorem k204_49 : cod 204 49 = some (28, 3, 93, z0, 52) := by rw [cod, ctab_204]; rfl
theorem k204_52 : cod 204 52 = some (4, 0, 0, z0, 53) := by rw [cod, ctab_204]; rfl
theorem k204_53 : cod 204 53 = some (0, 0, 0, z0, 54) := by rw [cod, ctab_204]; rfl
theorem k204_54 : cod 204 54 = some (30, 40, 50, z0, 57) := by rw [cod, ctab_204]; rfl
theorem k204_57 : cod 204 57 = some (4, 0, 0, z0, 58) := by rw [cod, ctab_204]; rfl
theorem k204_58 : cod 204 58 = some (2, 4, 0, z0, 60) := by rw [cod, ctab_204]; rfl
theorem k204_60 : cod 204 60 = some (34, 203, 2, vr 40 0, 63) := by rw [cod, ctab_204]; rfl
theorem k204_63 : cod 204 63 = some (27, 1, 73, z0, 66) := by rw [cod, ctab_204]; rfl
theorem k204_66 : cod 204 66 = some (2, 2, 0, z0, 67) := by rw [cod, ctab_204]; rfl
theorem k204_67 : cod 204 67 = some (27, 3, 73, z0, 70) := by rw [cod, ctab_204]; rfl
theorem k204_70 : cod 204 70 = some (2, 4, 0, z0, 72) := by rw [cod, ctab_204]; rfl
theorem k204_72 : cod 204 72 = some (5, 2, 0, z0, 73) := by rw [cod, ctab_204]; rfl
theorem k204_73 : cod 204 73 = some (4, 0, 0, z0, 74) := by rw [cod, ctab_204]; rfl
theorem k204_74 : cod 204 74 = some (29, 40, 50, z0, 77) := by rw [cod, ctab_204]; rfl
theorem k204_77 : cod 204 77 = some (27, 5, 87, z0, 80) := by rw [cod, ctab_204]; rfl
theorem k204_80 : cod 204 80 = some (2, 3, 0, z0, 81) := by rw [cod, ctab_204]; rfl
theorem k204_81 : cod 204 81 = some (27, 3, 87, z0, 84) := by rw [cod, ctab_204]; rfl
theorem k204_84 : cod 204 84 = some (2, 4, 0, z0, 86) := by rw [cod, ctab_204]; rfl
theorem k204_86 : cod 204 86 = some (5, 3, 0, z0, 87) := by rw [cod, ctab_204]; rfl
theorem k204_87 : cod 204 87 = some (8, 4, 0, vi (1), 90) := by rw [cod, ctab_204]; rfl
theorem k204_90 : cod 204 90 = some (26, 41, 0, z0, 93) := by rw [cod, ctab_204]; rfl
theorem k204_93 : cod 204 93 = some (4, 0, 0, z0, 94) := by rw [cod, ctab_204]; rfl
theorem k204_94 : cod 204 94 = some (34, 182, 1, vr 40 0, 97) := by rw [cod, ctab_204]; rfl
theorem k204_97 : cod 204 97 = some (5, 4, 0, z0, 99) := by rw [cod, ctab_204]; rfl
theorem k204_99 : cod 204 99 = some (4, 0, 0, z0, 100) := by rw [cod, ctab_204]; rfl
theorem k204_100 : cod 204 100 = some (29, 40, 44, z0, 103) := by rw [cod, ctab_204]; rfl
theorem k204_103 : cod 204 103 = some (0, 0, 0, z0, 104) := by rw [cod, ctab_204]; rfl
theorem k204_104 : cod 204 104 = some (4, 0, 0, z0, 105) := by rw [cod, ctab_204]; rfl
theorem k204_105 : cod 204 105 = some (29, 40, 43, z0, 108) := by rw [cod, ctab_204]; rfl
theorem k204_108 : cod 204 108 = some (0, 0, 0, z0, 109) := by rw [cod, ctab_204]; rfl
theorem k204_109 : cod 204 109 = some (34, 168, 4, z0, 112) := by rw [cod, ctab_204]; rfl
theorem k204_112 : cod 204 112 = some (2, 1, 0, z0, 113) := by rw [cod, ctab_204]; rfl
theorem k204_113 : cod 204 113 = some (27, 1, 120, z0, 116) := by rw [cod, ctab_204]; rfl
theorem k204_116 : cod 204 116 = some (2, 2, 0, z0, 117) := by rw [cod, ctab_204]; rfl
theorem k204_117 : cod 204 117 = some (26, 131, 0, z0, 120) := by rw [cod, ctab_204]; rfl
theorem k204_120 : cod 204 120 = some (2, 1, 0, z0, 121) := by rw [cod, ctab_204]; rfl
theorem k204_121 : cod 204 121 = some (0, 0, 0, vi (1), 122) := by rw [cod, ctab_204]; rfl
theorem k204_122 : cod 204 122 = some (28, 1, 129, z0, 125) := by rw [cod, ctab_204]; rfl
theorem k204_125 : cod 204 125 = some (2, 3, 0, z0, 126) := by rw [cod, ctab_204]; rfl
theorem k204_126 : cod 204 126 = some (26, 131, 0, z0, 129) := by rw [cod, ctab_204]; rfl
theorem k204_129 : cod 204 129 = some (2, 4, 0, z0, 131) := by rw [cod, ctab_204]; rfl
theorem k204_131 : cod 204 131 = some (36, 1, 0, z0, 132) := by rw [cod, ctab_204]; rfl
theorem ctab_205 : ctab.getD 205 [] = cd205 := rfl
theorem k205_0 : cod 205 0 = some (4, 0, 0, z0, 1) := by rw [cod, ctab_205]; rfl
theorem k205_1 : cod 205 1 = some (0, 0, 0, z0, 2) := by rw [cod, ctab_205]; rfl
theorem k205_2 : cod 205 2 = some (30, 40, 0, z0, 5) := by rw [cod, ctab_205]; rfl
theorem k205_5 : cod 205 5 = some (4, 0, 0, z0, 6) := by rw [cod, ctab_205]; rfl
theorem k205_6 : cod 205 6 = some (2, 1, 0, z0, 7) := by rw [cod, ctab_205]; rfl
theorem k205_7 : cod 205 7 = some (34, 176, 2, vr 40 0, 10) := by rw [cod, ctab_205]; rfl
theorem k205_10 : cod 205 10 = some (27, 1, 15, z0, 13) := by rw [cod, ctab_205]; rfl
theorem k205_13 : cod 205 13 = some (0, 0, 0, vi (-1), 14) := by rw [cod, ctab_205]; rfl
theorem k205_14 : cod 205 14 = some (36, 1, 0, z0, 15) := by rw [cod, ctab_205]; rfl
theorem k205_15 : cod 205 15 = some (4, 0, 0, z0, 16) := by rw [cod, ctab_205]; rfl
theorem k205_16 : cod 205 16 = some (29, 40, 43, z0, 19) := by rw [cod, ctab_205]; rfl
theorem k205_19 : cod 205 19 = some (0, 0, 0, z0, 20) := by rw [cod, ctab_205]; rfl
theorem k205_20 : cod 205 20 = some (4, 0, 0, z0, 21) := by rw [cod, ctab_205]; rfl
theorem k205_21 : cod 205 21 = some (29, 40, 44, z0, 24) := by rw [cod, ctab_205]; rfl
theorem k205_24 : cod 205 24 = some (0, 0, 0, z0, 25) := by rw [cod, ctab_205]; rfl
theorem k205_25 : cod 205 25 = some (34, 168, 4, z0, 28) := by rw [cod, ctab_205]; rfl
theorem k205_28 : cod 205 28 = some (0, 0, 0, z0, 29) := by rw [cod, ctab_205]; rfl
theorem k205_29 : cod 205 29 = some (5, 2, 0, z0, 30) := by rw [cod, ctab_205]; rfl
theorem k205_30 : cod 205 30 = some (2, 2, 0, z0, 31) := by rw [cod, ctab_205]; rfl
theorem k205_31 : cod 205 31 = some (0, 0, 0, vi (100), 33) := by rw [cod, ctab_205]; rfl
theorem k205_33 : cod 205 33 = some (28, 3, 55, z0, 36) := by rw [cod, ctab_205]; rfl
theorem k205_36 : cod 205 36 = some (4, 0, 0, z0, 37) := by rw [cod, ctab_205]; rfl
theorem k205_37 : cod 205 37 = some (2, 1, 0, z0, 38) := by rw [cod, ctab_205]; rfl
theorem k205_38 : cod 205 38 = some (34, 181, 2, vr 40 0, 41) := by rw [cod, ctab_205]; rfl
theorem k205_41 : cod 205 41 = some (27, 1, 55, z0, 44) := by rw [cod, ctab_205]; rfl
theorem k205_44 : cod 205 44 = some (4, 0, 0, z0, 45) := by rw [cod, ctab_205]; rfl
theorem k205_45 : cod 205 45 = some (34, 191, 1, vr 40 0, 48) := by rw [cod, ctab_205]; rfl
theorem k205_48 : cod 205 48 = some (25, 0, 0, z0, 49) := by rw [cod, ctab_205]; rfl
theorem k205_49 : cod 205 49 = some (8, 2, 0, vi (1), 52) := by rw [cod, ctab_205]; rfl
theorem k205_52 : cod 205 52 = some (26, 30, 0, z0, 55) := by rw [cod, ctab_205]; rfl
theorem k205_55 : cod 205 55 = some (4, 0, 0, z0, 56) := by rw [cod, ctab_205]; rfl
theorem k205_56 : cod 205 56 = some (29, 40, 44, z0, 59) := by rw [cod, ctab_205]; rfl
theorem k205_59 : cod 205 59 = some (0, 0, 0, z0, 60) := by rw [cod, ctab_205]; rfl
theorem k205_60 : cod 205 60 = some (4, 0, 0, z0, 61) := by rw [cod, ctab_205]; rfl
theorem k205_61 : cod 205 61 = some (29, 40, 43, z0, 64) := by rw [cod, ctab_205]; rfl
theorem k205_64 : cod 205 64 = some (0, 0, 0, z0, 65) := by rw [cod, ctab_205]; rfl
theorem k205_65 : cod 205 65 = some (34, 168, 4, z0, 68) := by rw [cod, ctab_205]; rfl
theorem k205_68 : cod 205 68 = some (2, 2, 0, z0, 69) := by rw [cod, ctab_205]; rfl
theorem k205_69 : cod 205 69 = some (0, 0, 0, vi (100), 71) := by rw [cod, ctab_205]; rfl
theorem k205_71 : cod 205 71 = some (28, 1, 78, z0, 74) := by rw [cod, ctab_205]; rfl
theorem k205_74 : cod 205 74 = some (0, 0, 0, vi (-1), 75) := by rw [cod, ctab_205]; rfl
theorem k205_75 : cod 205 75 = some (26, 79, 0, z0, 78) := by rw [cod, ctab_205]; rfl
theorem k205_78 : cod 205 78 = some (2, 2, 0, z0, 79) := by rw [cod, ctab_205]; rfl
theorem k205_79 : cod 205 79 = some (36, 1, 0, z0, 80) := by rw [cod, ctab_205]; rfl
theorem ctab_206 : ctab.getD 206 [] = cd206 := rfl
theorem k206_0 : cod 206 0 = some (4, 0, 0, z0, 1) := by rw [cod, ctab_206]; rfl
theorem k206_1 : cod 206 1 = some (0, 0, 0, z0, 2) := by rw [cod, ctab_206]; rfl
theorem k206_2 : cod 206 2 = some (30, 40, 0, z0, 5) := by rw [cod, ctab_206]; rfl
theorem k206_5 : cod 206 5 = some (4, 0, 0, z0, 6) := by rw [cod, ctab_206]; rfl
theorem k206_6 : cod 206 6 = some (29, 40, 43, z0, 9) := by rw [cod, ctab_206]; rfl
theorem k206_9 : cod 206 9 = some (0, 0, 0, z0, 10) := by rw [cod, ctab_206]; rfl
theorem k206_10 : cod 206 10 = some (4, 0, 0, z0, 11) := by rw [cod, ctab_206]; rfl
theorem k206_11 : cod 206 11 = some (29, 40, 44, z0, 14) := by rw [cod, ctab_206]; rfl
theorem k206_14 : cod 206 14 = some (0, 0, 0, z0, 15) := by rw [cod, ctab_206]; rfl
theorem k206_15 : cod 206 15 = some (34, 168, 4, z0, 18) := by rw [cod, ctab_206]; rfl
theorem k206_18 : cod 206 18 = some (0, 0, 0, z0, 19) := by rw [cod, ctab_206]; rfl
theorem k206_19 : cod 206 19 = some (5, 1, 0, z0, 20) := by rw [cod, ctab_206]; rfl
theorem k206_20 : cod 206 20 = some (2, 1, 0, z0, 21) := by rw [cod, ctab_206]; rfl
theorem k206_21 : cod 206 21 = some (0, 0, 0, vi (100), 23) := by rw [cod, ctab_206]; rfl
theorem k206_23 : cod 206 23 = some (28, 3, 54, z0, 26) := by rw [cod, ctab_206]; rfl
theorem k206_26 : cod 206 26 = some (4, 0, 0, z0, 27) := by rw [cod, ctab_206]; rfl
theorem k206_27 : cod 206 27 = some (34, 182, 1, vr 40 0, 30) := by rw [cod, ctab_206]; rfl
theorem k206_30 : cod 206 30 = some (0, 0, 0, vi (1), 31) := by rw [cod, ctab_206]; rfl
theorem k206_31 : cod 206 31 = some (4, 0, 0, z0, 32) := by rw [cod, ctab_206]; rfl
theorem k206_32 : cod 206 32 = some (29, 40, 10, z0, 35) := by rw [cod, ctab_206]; rfl
theorem k206_35 : cod 206 35 = some (0, 0, 0, vi (1), 36) := by rw [cod, ctab_206]; rfl
theorem k206_36 : cod 206 36 = some (31, 1, 0, z0, 37) := by rw [cod, ctab_206]; rfl
theorem k206_37 : cod 206 37 = some (9, 6, 0, z0, 38) := by rw [cod, ctab_206]; rfl
theorem k206_38 : cod 206 38 = some (0, 0, 0, vi (1), 39) := by rw [cod, ctab_206]; rfl
theorem k206_39 : cod 206 39 = some (9, 1, 0, z0, 40) := by rw [cod, ctab_206]; rfl
theorem k206_40 : cod 206 40 = some (28, 0, 54, z0, 43) := by rw [cod, ctab_206]; rfl
theorem k206_43 : cod 206 43 = some (4, 0, 0, z0, 44) := by rw [cod, ctab_206]; rfl
theorem k206_44 : cod 206 44 = some (34, 191, 1, vr 40 0, 47) := by rw [cod, ctab_206]; rfl
theorem k206_47 : cod 206 47 = some (25, 0, 0, z0, 48) := by rw [cod, ctab_206]; rfl
theorem k206_48 : cod 206 48 = some (8, 1, 0, vi (1), 51) := by rw [cod, ctab_206]; rfl
theorem k206_51 : cod 206 51 = some (26, 20, 0, z0, 54) := by rw [cod, ctab_206]; rfl
theorem k206_54 : cod 206 54 = some (4, 0, 0, z0, 55) := by rw [cod, ctab_206]; rfl
theorem k206_55 : cod 206 55 = some (29, 40, 44, z0, 58) := by rw [cod, ctab_206]; rfl
theorem k206_58 : cod 206 58 = some (0, 0, 0, z0, 59) := by rw [cod, ctab_206]; rfl
theorem k206_59 : cod 206 59 = some (4, 0, 0, z0, 60) := by rw [cod, ctab_206]; rfl
theorem k206_60 : cod 206 60 = some (29, 40, 43, z0, 63) := by rw [cod, ctab_206]; rfl
theorem k206_63 : cod 206 63 = some (0, 0, 0, z0, 64) := by rw [cod, ctab_206]; rfl
theorem k206_64 : cod 206 64 = some (34, 168, 4, z0, 67) := by rw [cod, ctab_206]; rfl
theorem k206_67 : cod 206 67 = some (2, 1, 0, z0, 68) := by rw [cod, ctab_206]; rfl
theorem k206_68 : cod 206 68 = some (0, 0, 0, vi (100), 70) := by rw [cod, ctab_206]; rfl
theorem k206_70 : cod 206 70 = some (28, 1, 77, z0, 73) := by rw [cod, ctab_206]; rfl
theorem k206_73 : cod 206 73 = some (0, 0, 0, vi (-1), 74) := by rw [cod, ctab_206]; rfl
theorem k206_74 : cod 206 74 = some (26, 78, 0, z0, 77) := by rw [cod, ctab_206]; rfl
theorem k206_77 : cod 206 77 = some (2, 1, 0, z0, 78) := by rw [cod, ctab_206]; rfl
theorem k206_78 : cod 206 78 = some (36, 1, 0, z0, 79) := by rw [cod, ctab_206]; rfl
theorem ctab_207 : ctab.getD 207 [] = cd207 := rfl
theorem k207_0 : cod 207 0 = some (2, 2, 0, z0, 1) := by rw [cod, ctab_207]; rfl
theorem k207_1 : cod 207 1 = some (2, 3, 0, z0, 2) := by rw [cod, ctab_207]; rfl
theorem k207_2 : cod 207 2 = some (28, 1, 65, z0, 5) := by rw [cod, ctab_207]; rfl
theorem k207_5 : cod 207 5 = some (4, 0, 0, z0, 6) := by rw [cod, ctab_207]; rfl
theorem k207_6 : cod 207 6 = some (29, 40, 43, z0, 9) := by rw [cod, ctab_207]; rfl
theorem k207_9 : cod 207 9 = some (0, 0, 0, vi (8), 11) := by rw [cod, ctab_207]; rfl
theorem k207_11 : cod 207 11 = some (2, 1, 0, z0, 12) := by rw [cod, ctab_207]; rfl
theorem k207_12 : cod 207 12 = some (9, 0, 0, z0, 13) := by rw [cod, ctab_207]; rfl
theorem k207_13 : cod 207 13 = some (31, 1, 0, z0, 14) := by rw [cod, ctab_207]; rfl
theorem k207_14 : cod 207 14 = some (4, 0, 0, z0, 15) := by rw [cod, ctab_207]; rfl
theorem k207_15 : cod 207 15 = some (29, 40, 53, z0, 18) := by rw [cod, ctab_207]; rfl
theorem k207_18 : cod 207 18 = some (28, 4, 22, z0, 21) := by rw [cod, ctab_207]; rfl
theorem k207_21 : cod 207 21 = some (35, 0, 0, z0, 22) := by rw [cod, ctab_207]; rfl
theorem k207_22 : cod 207 22 = some (4, 0, 0, z0, 23) := by rw [cod, ctab_207]; rfl
theorem k207_23 : cod 207 23 = some (4, 0, 0, z0, 24) := by rw [cod, ctab_207]; rfl
theorem k207_24 : cod 207 24 = some (29, 40, 43, z0, 27) := by rw [cod, ctab_207]; rfl
theorem k207_27 : cod 207 27 = some (0, 0, 0, vi (8), 29) := by rw [cod, ctab_207]; rfl
theorem k207_29 : cod 207 29 = some (2, 1, 0, z0, 30) := by rw [cod, ctab_207]; rfl
theorem k207_30 : cod 207 30 = some (9, 0, 0, z0, 31) := by rw [cod, ctab_207]; rfl
theorem k207_31 : cod 207 31 = some (31, 1, 0, z0, 32) := by rw [cod, ctab_207]; rfl
theorem k207_32 : cod 207 32 = some (30, 40, 53, z0, 35) := by rw [cod, ctab_207]; rfl
theorem k207_35 : cod 207 35 = some (0, 0, 0, z0, 36) := by rw [cod, ctab_207]; rfl
theorem k207_36 : cod 207 36 = some (5, 4, 0, z0, 38) := by rw [cod, ctab_207]; rfl
theorem k207_38 : cod 207 38 = some (2, 4, 0, z0, 40) := by rw [cod, ctab_207]; rfl
theorem k207_40 : cod 207 40 = some (0, 0, 0, vi (4), 41) := by rw [cod, ctab_207]; rfl
theorem k207_41 : cod 207 41 = some (28, 3, 64, z0, 44) := by rw [cod, ctab_207]; rfl
theorem k207_44 : cod 207 44 = some (4, 0, 0, z0, 45) := by rw [cod, ctab_207]; rfl
theorem k207_45 : cod 207 45 = some (29, 40, 52, z0, 48) := by rw [cod, ctab_207]; rfl
theorem k207_48 : cod 207 48 = some (2, 4, 0, z0, 50) := by rw [cod, ctab_207]; rfl
theorem k207_50 : cod 207 50 = some (4, 0, 0, z0, 51) := by rw [cod, ctab_207]; rfl
theorem k207_51 : cod 207 51 = some (29, 40, 51, z0, 54) := by rw [cod, ctab_207]; rfl
theorem k207_54 : cod 207 54 = some (2, 4, 0, z0, 56) := by rw [cod, ctab_207]; rfl
theorem k207_56 : cod 207 56 = some (31, 1, 0, z0, 57) := by rw [cod, ctab_207]; rfl
theorem k207_57 : cod 207 57 = some (32, 1, 0, z0, 58) := by rw [cod, ctab_207]; rfl
theorem k207_58 : cod 207 58 = some (8, 4, 0, vi (1), 61) := by rw [cod, ctab_207]; rfl
theorem k207_61 : cod 207 61 = some (26, 38, 0, z0, 64) := by rw [cod, ctab_207]; rfl
theorem k207_64 : cod 207 64 = some (35, 0, 0, z0, 65) := by rw [cod, ctab_207]; rfl
theorem k207_65 : cod 207 65 = some (4, 0, 0, z0, 66) := by rw [cod, ctab_207]; rfl
theorem k207_66 : cod 207 66 = some (29, 40, 43, z0, 69) := by rw [cod, ctab_207]; rfl
theorem k207_69 : cod 207 69 = some (0, 0, 0, z0, 70) := by rw [cod, ctab_207]; rfl
theorem k207_70 : cod 207 70 = some (4, 0, 0, z0, 71) := by rw [cod, ctab_207]; rfl
theorem k207_71 : cod 207 71 = some (29, 40, 45, z0, 74) := by rw [cod, ctab_207]; rfl
theorem k207_74 : cod 207 74 = some (0, 0, 0, vi (50), 76) := by rw [cod, ctab_207]; rfl
theorem k207_76 : cod 207 76 = some (2, 2, 0, z0, 77) := by rw [cod, ctab_207]; rfl
theorem k207_77 : cod 207 77 = some (9, 2, 0, z0, 78) := by rw [cod, ctab_207]; rfl
theorem k207_78 : cod 207 78 = some (34, 168, 4, z0, 81) := by rw [cod, ctab_207]; rfl
theorem k207_81 : cod 207 81 = some (0, 0, 0, z0, 82) := by rw [cod, ctab_207]; rfl
theorem k207_82 : cod 207 82 = some (5, 4, 0, z0, 84) := by rw [cod, ctab_207]; rfl
theorem k207_84 : cod 207 84 = some (2, 4, 0, z0, 86) := by rw [cod, ctab_207]; rfl
theorem k207_86 : cod 207 86 = some (4, 0, 0, z0, 87) := by rw [cod, ctab_207]; rfl
theorem k207_87 : cod 207 87 = some (29, 40, 10, z0, 90) := by rw [cod, ctab_207]; rfl
theorem k207_90 : cod 207 90 = some (0, 0, 0, z0, 91) := by rw [cod, ctab_207]; rfl
theorem k207_91 : cod 207 91 = some (31, 1, 0, z0, 92) := by rw [cod, ctab_207]; rfl
theorem k207_92 : cod 207 92 = some (28, 3, 175, z0, 95) := by rw [cod, ctab_207]; rfl
theorem k207_95 : cod 207 95 = some (2, 4, 0, z0, 97) := by rw [cod, ctab_207]; rfl
theorem k207_97 : cod 207 97 = some (4, 0, 0, z0, 98) := by rw [cod, ctab_207]; rfl
theorem k207_98 : cod 207 98 = some (29, 40, 43, z0, 101) := by rw [cod, ctab_207]; rfl
theorem k207_101 : cod 207 101 = some (0, 0, 0, vi (2), 102) := by rw [cod, ctab_207]; rfl
theorem k207_102 : cod 207 102 = some (2, 1, 0, z0, 103) := by rw [cod, ctab_207]; rfl
theorem k207_103 : cod 207 103 = some (9, 0, 0, z0, 104) := by rw [cod, ctab_207]; rfl
theorem k207_104 : cod 207 104 = some (31, 1, 0, z0, 105) := by rw [cod, ctab_207]; rfl
theorem k207_105 : cod 207 105 = some (28, 0, 121, z0, 108) := by rw [cod, ctab_207]; rfl
theorem k207_108 : cod 207 108 = some (4, 0, 0, z0, 109) := by rw [cod, ctab_207]; rfl
theorem k207_109 : cod 207 109 = some (2, 1, 0, z0, 110) := by rw [cod, ctab_207]; rfl
theorem k207_110 : cod 207 110 = some (2, 4, 0, z0, 112) := by rw [cod, ctab_207]; rfl
theorem k207_112 : cod 207 112 = some (34, 184, 3, vr 40 0, 115) := by rw [cod, ctab_207]; rfl
theorem k207_115 : cod 207 115 = some (27, 1, 121, z0, 118) := by rw [cod, ctab_207]; rfl
theorem k207_118 : cod 207 118 = some (26, 169, 0, z0, 121) := by rw [cod, ctab_207]; rfl
theorem k207_121 : cod 207 121 = some (4, 0, 0, z0, 122) := by rw [cod, ctab_207]; rfl
theorem k207_122 : cod 207 122 = some (29, 40, 43, z0, 125) := by rw [cod, ctab_207]; rfl
theorem k207_125 : cod 207 125 = some (0, 0, 0, vi (2), 126) := by rw [cod, ctab_207]; rfl
theorem k207_126 : cod 207 126 = some (2, 1, 0, z0, 127) := by rw [cod, ctab_207]; rfl
theorem k207_127 : cod 207 127 = some (9, 0, 0, z0, 128) := by rw [cod, ctab_207]; rfl
theorem k207_128 : cod 207 128 = some (2, 4, 0, z0, 130) := by rw [cod, ctab_207]; rfl
theorem k207_130 : cod 207 130 = some (32, 1, 0, z0, 131) := by rw [cod, ctab_207]; rfl
theorem k207_131 : cod 207 131 = some (4, 0, 0, z0, 132) := by rw [cod, ctab_207]; rfl
theorem k207_132 : cod 207 132 = some (29, 40, 51, z0, 135) := by rw [cod, ctab_207]; rfl
theorem k207_135 : cod 207 135 = some (2, 2, 0, z0, 136) := by rw [cod, ctab_207]; rfl
theorem k207_136 : cod 207 136 = some (2, 4, 0, z0, 138) := by rw [cod, ctab_207]; rfl
theorem k207_138 : cod 207 138 = some (32, 1, 0, z0, 139) := by rw [cod, ctab_207]; rfl
theorem k207_139 : cod 207 139 = some (4, 0, 0, z0, 140) := by rw [cod, ctab_207]; rfl
theorem k207_140 : cod 207 140 = some (34, 191, 1, vr 40 0, 143) := by rw [cod, ctab_207]; rfl
theorem k207_143 : cod 207 143 = some (25, 0, 0, z0, 144) := by rw [cod, ctab_207]; rfl
theorem k207_144 : cod 207 144 = some (4, 0, 0, z0, 145) := by rw [cod, ctab_207]; rfl
theorem k207_145 : cod 207 145 = some (2, 1, 0, z0, 146) := by rw [cod, ctab_207]; rfl
theorem k207_146 : cod 207 146 = some (2, 2, 0, z0, 147) := by rw [cod, ctab_207]; rfl
theorem k207_147 : cod 207 147 = some (0, 0, 0, vi (1), 148) := by rw [cod, ctab_207]; rfl
theorem k207_148 : cod 207 148 = some (9, 0, 0, z0, 149) := by rw [cod, ctab_207]; rfl
theorem k207_149 : cod 207 149 = some (2, 3, 0, z0, 150) := by rw [cod, ctab_207]; rfl
theorem k207_150 : cod 207 150 = some (34, 207, 4, vr 40 0, 153) := by rw [cod, ctab_207]; rfl
theorem k207_153 : cod 207 153 = some (4, 0, 0, z0, 154) := by rw [cod, ctab_207]; rfl
theorem k207_154 : cod 207 154 = some (29, 40, 45, z0, 157) := by rw [cod, ctab_207]; rfl
theorem k207_157 : cod 207 157 = some (0, 0, 0, vi (50), 159) := by rw [cod, ctab_207]; rfl
theorem k207_159 : cod 207 159 = some (2, 2, 0, z0, 160) := by rw [cod, ctab_207]; rfl
theorem k207_160 : cod 207 160 = some (9, 2, 0, z0, 161) := by rw [cod, ctab_207]; rfl
theorem k207_161 : cod 207 161 = some (4, 0, 0, z0, 162) := by rw [cod, ctab_207]; rfl
theorem k207_162 : cod 207 162 = some (29, 40, 43, z0, 165) := by rw [cod, ctab_207]; rfl
theorem k207_165 : cod 207 165 = some (0, 0, 0, z0, 166) := by rw [cod, ctab_207]; rfl
theorem k207_166 : cod 207 166 = some (34, 168, 4, z0, 169) := by rw [cod, ctab_207]; rfl
theorem k207_169 : cod 207 169 = some (8, 4, 0, vi (1), 172) := by rw [cod, ctab_207]; rfl
theorem k207_172 : cod 207 172 = some (26, 84, 0, z0, 175) := by rw [cod, ctab_207]; rfl
theorem k207_175 : cod 207 175 = some (35, 0, 0, z0, 176) := by rw [cod, ctab_207]; rfl
theorem ctab_208 : ctab.getD 208 [] = cd208 := rfl
theorem k208_0 : cod 208 0 = some (4, 0, 0, z0, 1) := by rw [cod, ctab_208]; rfl
theorem k208_1 : cod 208 1 = some (0, 0, 0, z0, 2) := by rw [cod, ctab_208]; rfl
theorem k208_2 : cod 208 2 = some (30, 40, 0, z0, 5) := by rw [cod, ctab_208]; rfl
theorem k208_5 : cod 208 5 = some (4, 0, 0, z0, 6) := by rw [cod, ctab_208]; rfl
theorem k208_6 : cod 208 6 = some (2, 1, 0, z0, 7) := by rw [cod, ctab_208]; rfl
theorem k208_7 : cod 208 7 = some (34, 176, 2, vr 40 0, 10) := by rw [cod, ctab_208]; rfl
theorem k208_10 : cod 208 10 = some (27, 0, 31, z0, 13) := by rw [cod, ctab_208]; rfl
theorem k208_13 : cod 208 13 = some (2, 2, 0, z0, 14) := by rw [cod, ctab_208]; rfl
theorem k208_14 : cod 208 14 = some (0, 0, 0, vi (1), 15) := by rw [cod, ctab_208]; rfl
theorem k208_15 : cod 208 15 = some (0, 0, 0, vi (4), 16) := by rw [cod, ctab_208]; rfl
theorem k208_16 : cod 208 16 = some (34, 130, 3, z0, 19) := by rw [cod, ctab_208]; rfl
theorem k208_19 : cod 208 19 = some (27, 0, 31, z0, 22) := by rw [cod, ctab_208]; rfl
theorem k208_22 : cod 208 22 = some (2, 3, 0, z0, 23) := by rw [cod, ctab_208]; rfl
theorem k208_23 : cod 208 23 = some (0, 0, 0, z0, 24) := by rw [cod, ctab_208]; rfl
theorem k208_24 : cod 208 24 = some (2, 2, 0, z0, 25) := by rw [cod, ctab_208]; rfl
theorem k208_25 : cod 208 25 = some (34, 130, 3, z0, 28) := by rw [cod, ctab_208]; rfl
theorem k208_28 : cod 208 28 = some (27, 1, 33, z0, 31) := by rw [cod, ctab_208]; rfl
theorem k208_31 : cod 208 31 = some (0, 0, 0, vi (-1), 32) := by rw [cod, ctab_208]; rfl
theorem k208_32 : cod 208 32 = some (36, 1, 0, z0, 33) := by rw [cod, ctab_208]; rfl
theorem k208_33 : cod 208 33 = some (4, 0, 0, z0, 34) := by rw [cod, ctab_208]; rfl
theorem k208_34 : cod 208 34 = some (0, 0, 0, vi (-1), 35) := by rw [cod, ctab_208]; rfl
theorem k208_35 : cod 208 35 = some (30, 40, 53, z0, 38) := by rw [cod, ctab_208]; rfl
theorem k208_38 : cod 208 38 = some (4, 0, 0, z0, 39) := by rw [cod, ctab_208]; rfl
theorem k208_39 : cod 208 39 = some (2, 1, 0, z0, 40) := by rw [cod, ctab_208]; rfl
theorem k208_40 : cod 208 40 = some (0, 0, 0, z0, 41) := by rw [cod, ctab_208]; rfl
theorem k208_41 : cod 208 41 = some (2, 2, 0, z0, 42) := by rw [cod, ctab_208]; rfl
theorem k208_42 : cod 208 42 = some (34, 207, 4, vr 40 0, 45) := by rw [cod, ctab_208]; rfl
theorem k208_45 : cod 208 45 = some (2, 3, 0, z0, 46) := by rw [cod, ctab_208]; rfl
theorem k208_46 : cod 208 46 = some (27, 1, 56, z0, 49) := by rw [cod, ctab_208]; rfl
theorem k208_49 : cod 208 49 = some (4, 0, 0, z0, 50) := by rw [cod, ctab_208]; rfl
theorem k208_50 : cod 208 50 = some (29, 40, 53, z0, 53) := by rw [cod, ctab_208]; rfl
theorem k208_53 : cod 208 53 = some (26, 64, 0, z0, 56) := by rw [cod, ctab_208]; rfl
theorem k208_56 : cod 208 56 = some (4, 0, 0, z0, 57) := by rw [cod, ctab_208]; rfl
theorem k208_57 : cod 208 57 = some (29, 40, 52, z0, 60) := by rw [cod, ctab_208]; rfl
theorem k208_60 : cod 208 60 = some (2, 3, 0, z0, 61) := by rw [cod, ctab_208]; rfl
theorem k208_61 : cod 208 61 = some (0, 0, 0, vi (1), 62) := by rw [cod, ctab_208]; rfl
theorem k208_62 : cod 208 62 = some (9, 1, 0, z0, 63) := by rw [cod, ctab_208]; rfl
theorem k208_63 : cod 208 63 = some (31, 1, 0, z0, 64) := by rw [cod, ctab_208]; rfl
theorem k208_64 : cod 208 64 = some (36, 1, 0, z0, 65) := by rw [cod, ctab_208]; rfl
theorem ctab_209 : ctab.getD 209 [] = cd209 := rfl
theorem k209_0 : cod 209 0 = some (4, 0, 0, z0, 1) := by rw [cod, ctab_209]; rfl
theorem k209_1 : cod 209 1 = some (0, 0, 0, z0, 2) := by rw [cod, ctab_209]; rfl
theorem k209_2 : cod 209 2 = some (30, 40, 0, z0, 5) := by rw [cod, ctab_209]; rfl
theorem k209_5 : cod 209 5 = some (4, 0, 0, z0, 6) := by rw [cod, ctab_209]; rfl
theorem k209_6 : cod 209 6 = some (2, 1, 0, z0, 7) := by rw [cod, ctab_209]; rfl
theorem k209_7 : cod 209 7 = some (34, 176, 2, vr 40 0, 10) := by rw [cod, ctab_209]; rfl
theorem k209_10 : cod 209 10 = some (27, 0, 21, z0, 13) := by rw [cod, ctab_209]; rfl
theorem k209_13 : cod 209 13 = some (4, 0, 0, z0, 14) := by rw [cod, ctab_209]; rfl
theorem k209_14 : cod 209 14 = some (2, 1, 0, z0, 15) := by rw [cod, ctab_209]; rfl
theorem k209_15 : cod 209 15 = some (34, 181, 2, vr 40 0, 18) := by rw [cod, ctab_209]; rfl
theorem k209_18 : cod 209 18 = some (27, 0, 23, z0, 21) := by rw [cod, ctab_209]; rfl
theorem k209_21 : cod 209 21 = some (0, 0, 0, vi (-1), 22) := by rw [cod, ctab_209]; rfl
theorem k209_22 : cod 209 22 = some (36, 1, 0, z0, 23) := by rw [cod, ctab_209]; rfl
theorem k209_23 : cod 209 23 = some (0, 0, 0, vi (-1), 24) := by rw [cod, ctab_209]; rfl
theorem k209_24 : cod 209 24 = some (5, 2, 0, z0, 25) := by rw [cod, ctab_209]; rfl
theorem k209_25 : cod 209 25 = some (0, 0, 0, z0, 26) := by rw [cod, ctab_209]; rfl
theorem k209_26 : cod 209 26 = some (5, 3, 0, z0, 27) := by rw [cod, ctab_209]; rfl
theorem k209_27 : cod 209 27 = some (0, 0, 0, z0, 28) := by rw [cod, ctab_209]; rfl
theorem k209_28 : cod 209 28 = some (5, 4, 0, z0, 30) := by rw [cod, ctab_209]; rfl
theorem k209_30 : cod 209 30 = some (2, 4, 0, z0, 32) := by rw [cod, ctab_209]; rfl
theorem k209_32 : cod 209 32 = some (4, 0, 0, z0, 33) := by rw [cod, ctab_209]; rfl
theorem k209_33 : cod 209 33 = some (29, 40, 10, z0, 36) := by rw [cod, ctab_209]; rfl
theorem k209_36 : cod 209 36 = some (0, 0, 0, z0, 37) := by rw [cod, ctab_209]; rfl
theorem k209_37 : cod 209 37 = some (31, 1, 0, z0, 38) := by rw [cod, ctab_209]; rfl
theorem k209_38 : cod 209 38 = some (28, 3, 169, z0, 41) := by rw [cod, ctab_209]; rfl
theorem k209_41 : cod 209 41 = some (2, 4, 0, z0, 43) := by rw [cod, ctab_209]; rfl
theorem k209_43 : cod 209 43 = some (4, 0, 0, z0, 44) := by rw [cod, ctab_209]; rfl
theorem k209_44 : cod 209 44 = some (29, 40, 43, z0, 47) := by rw [cod, ctab_209]; rfl
theorem k209_47 : cod 209 47 = some (0, 0, 0, vi (2), 48) := by rw [cod, ctab_209]; rfl
theorem k209_48 : cod 209 48 = some (2, 1, 0, z0, 49) := by rw [cod, ctab_209]; rfl
theorem k209_49 : cod 209 49 = some (9, 0, 0, z0, 50) := by rw [cod, ctab_209]; rfl
theorem k209_50 : cod 209 50 = some (31, 1, 0, z0, 51) := by rw [cod, ctab_209]; rfl
theorem k209_51 : cod 209 51 = some (28, 0, 67, z0, 54) := by rw [cod, ctab_209]; rfl
theorem k209_54 : cod 209 54 = some (4, 0, 0, z0, 55) := by rw [cod, ctab_209]; rfl
theorem k209_55 : cod 209 55 = some (2, 1, 0, z0, 56) := by rw [cod, ctab_209]; rfl
theorem k209_56 : cod 209 56 = some (2, 4, 0, z0, 58) := by rw [cod, ctab_209]; rfl
theorem k209_58 : cod 209 58 = some (34, 184, 3, vr 40 0, 61) := by rw [cod, ctab_209]; rfl
theorem k209_61 : cod 209 61 = some (27, 1, 67, z0, 64) := by rw [cod, ctab_209]; rfl
theorem k209_64 : cod 209 64 = some (26, 163, 0, z0, 67) := by rw [cod, ctab_209]; rfl
theorem k209_67 : cod 209 67 = some (0, 0, 0, z0, 68) := by rw [cod, ctab_209]; rfl
theorem k209_68 : cod 209 68 = some (5, 5, 0, z0, 70) := by rw [cod, ctab_209]; rfl
theorem k209_70 : cod 209 70 = some (0, 0, 0, z0, 71) := by rw [cod, ctab_209]; rfl
theorem k209_71 : cod 209 71 = some (5, 6, 0, z0, 73) := by rw [cod, ctab_209]; rfl
theorem k209_73 : cod 209 73 = some (2, 6, 0, z0, 75) := by rw [cod, ctab_209]; rfl
theorem k209_75 : cod 209 75 = some (4, 0, 0, z0, 76) := by rw [cod, ctab_209]; rfl
theorem k209_76 : cod 209 76 = some (29, 40, 10, z0, 79) := by rw [cod, ctab_209]; rfl
theorem k209_79 : cod 209 79 = some (0, 0, 0, vi (1), 80) := by rw [cod, ctab_209]; rfl
theorem k209_80 : cod 209 80 = some (31, 1, 0, z0, 81) := by rw [cod, ctab_209]; rfl
theorem k209_81 : cod 209 81 = some (28, 3, 144, z0, 84) := by rw [cod, ctab_209]; rfl
theorem k209_84 : cod 209 84 = some (2, 5, 0, z0, 86) := by rw [cod, ctab_209]; rfl
theorem k209_86 : cod 209 86 = some (4, 0, 0, z0, 87) := by rw [cod, ctab_209]; rfl
theorem k209_87 : cod 209 87 = some (29, 40, 43, z0, 90) := by rw [cod, ctab_209]; rfl
theorem k209_90 : cod 209 90 = some (0, 0, 0, vi (2), 91) := by rw [cod, ctab_209]; rfl
theorem k209_91 : cod 209 91 = some (2, 6, 0, z0, 93) := by rw [cod, ctab_209]; rfl
theorem k209_93 : cod 209 93 = some (9, 0, 0, z0, 94) := by rw [cod, ctab_209]; rfl
theorem k209_94 : cod 209 94 = some (31, 1, 0, z0, 95) := by rw [cod, ctab_209]; rfl
theorem k209_95 : cod 209 95 = some (2, 4, 0, z0, 97) := by rw [cod, ctab_209]; rfl
theorem k209_97 : cod 209 97 = some (28, 1, 134, z0, 100) := by rw [cod, ctab_209]; rfl
theorem k209_100 : cod 209 100 = some (4, 0, 0, z0, 101) := by rw [cod, ctab_209]; rfl
theorem k209_101 : cod 209 101 = some (2, 6, 0, z0, 103) := by rw [cod, ctab_209]; rfl
theorem k209_103 : cod 209 103 = some (2, 1, 0, z0, 104) := by rw [cod, ctab_209]; rfl
theorem k209_104 : cod 209 104 = some (34, 179, 3, vr 40 0, 107) := by rw [cod, ctab_209]; rfl
theorem k209_107 : cod 209 107 = some (27, 0, 134, z0, 110) := by rw [cod, ctab_209]; rfl
theorem k209_110 : cod 209 110 = some (4, 0, 0, z0, 111) := by rw [cod, ctab_209]; rfl
theorem k209_111 : cod 209 111 = some (29, 40, 14, z0, 114) := by rw [cod, ctab_209]; rfl
theorem k209_114 : cod 209 114 = some (2, 6, 0, z0, 116) := by rw [cod, ctab_209]; rfl
theorem k209_116 : cod 209 116 = some (31, 1, 0, z0, 117) := by rw [cod, ctab_209]; rfl
theorem k209_117 : cod 209 117 = some (0, 0, 0, vi (1), 118) := by rw [cod, ctab_209]; rfl
theorem k209_118 : cod 209 118 = some (28, 0, 134, z0, 121) := by rw [cod, ctab_209]; rfl
theorem k209_121 : cod 209 121 = some (4, 0, 0, z0, 122) := by rw [cod, ctab_209]; rfl
theorem k209_122 : cod 209 122 = some (2, 6, 0, z0, 124) := by rw [cod, ctab_209]; rfl
theorem k209_124 : cod 209 124 = some (34, 181, 2, vr 40 0, 127) := by rw [cod, ctab_209]; rfl
theorem k209_127 : cod 209 127 = some (27, 1, 134, z0, 130) := by rw [cod, ctab_209]; rfl
theorem k209_130 : cod 209 130 = some (0, 0, 0, vi (1), 131) := by rw [cod, ctab_209]; rfl
theorem k209_131 : cod 209 131 = some (26, 135, 0, z0, 134) := by rw [cod, ctab_209]; rfl
theorem k209_134 : cod 209 134 = some (0, 0, 0, z0, 135) := by rw [cod, ctab_209]; rfl
theorem k209_135 : cod 209 135 = some (9, 0, 0, z0, 136) := by rw [cod, ctab_209]; rfl
theorem k209_136 : cod 209 136 = some (5, 5, 0, z0, 138) := by rw [cod, ctab_209]; rfl
theorem k209_138 : cod 209 138 = some (8, 6, 0, vi (1), 141) := by rw [cod, ctab_209]; rfl
theorem k209_141 : cod 209 141 = some (26, 73, 0, z0, 144) := by rw [cod, ctab_209]; rfl
theorem k209_144 : cod 209 144 = some (2, 2, 0, z0, 145) := by rw [cod, ctab_209]; rfl
theorem k209_145 : cod 209 145 = some (27, 2, 157, z0, 148) := by rw [cod, ctab_209]; rfl
theorem k209_148 : cod 209 148 = some (2, 5, 0, z0, 150) := by rw [cod, ctab_209]; rfl
theorem k209_150 : cod 209 150 = some (2, 3, 0, z0, 151) := by rw [cod, ctab_209]; rfl
theorem k209_151 : cod 209 151 = some (28, 4, 157, z0, 154) := by rw [cod, ctab_209]; rfl
theorem k209_154 : cod 209 154 = some (26, 163, 0, z0, 157) := by rw [cod, ctab_209]; rfl
theorem k209_157 : cod 209 157 = some (2, 4, 0, z0, 159) := by rw [cod, ctab_209]; rfl
theorem k209_159 : cod 209 159 = some (5, 2, 0, z0, 160) := by rw [cod, ctab_209]; rfl
theorem k209_160 : cod 209 160 = some (2, 5, 0, z0, 162) := by rw [cod, ctab_209]; rfl
theorem k209_162 : cod 209 162 = some (5, 3, 0, z0, 163) := by rw [cod, ctab_209]; rfl
theorem k209_163 : cod 209 163 = some (8, 4, 0, vi (1), 166) := by rw [cod, ctab_209]; rfl
theorem k209_166 : cod 209 166 = some (26, 30, 0, z0, 169) := by rw [cod, ctab_209]; rfl
theorem k209_169 : cod 209 169 = some (2, 2, 0, z0, 170) := by rw [cod, ctab_209]; rfl
theorem k209_170 : cod 209 170 = some (36, 1, 0, z0, 171) := by rw [cod, ctab_209]; rfl
theorem ctab_210 : ctab.getD 210 [] = cd210 := rfl
theorem k210_0 : cod 210 0 = some (4, 0, 0, z0, 1) := by rw [cod, ctab_210]; rfl
theorem k210_1 : cod 210 1 = some (29, 40, 43, z0, 4) := by rw [cod, ctab_210]; rfl
theorem k210_4 : cod 210 4 = some (0, 0, 0, z0, 5) := by rw [cod, ctab_210]; rfl
theorem k210_5 : cod 210 5 = some (4, 0, 0, z0, 6) := by rw [cod, ctab_210]; rfl
theorem k210_6 : cod 210 6 = some (29, 40, 44, z0, 9) := by rw [cod, ctab_210]; rfl
theorem k210_9 : cod 210 9 = some (0, 0, 0, z0, 10) := by rw [cod, ctab_210]; rfl
theorem k210_10 : cod 210 10 = some (34, 168, 4, z0, 13) := by rw [cod, ctab_210]; rfl
theorem k210_13 : cod 210 13 = some (0, 0, 0, z0, 14) := by rw [cod, ctab_210]; rfl
theorem k210_14 : cod 210 14 = some (5, 4, 0, z0, 16) := by rw [cod, ctab_210]; rfl
theorem k210_16 : cod 210 16 = some (2, 4, 0, z0, 18) := by rw [cod, ctab_210]; rfl
theorem k210_18 : cod 210 18 = some (4, 0, 0, z0, 19) := by rw [cod, ctab_210]; rfl
theorem k210_19 : cod 210 19 = some (29, 40, 10, z0, 22) := by rw [cod, ctab_210]; rfl
theorem k210_22 : cod 210 22 = some (0, 0, 0, vi (1), 23) := by rw [cod, ctab_210]; rfl
theorem k210_23 : cod 210 23 = some (31, 1, 0, z0, 24) := by rw [cod, ctab_210]; rfl
theorem k210_24 : cod 210 24 = some (28, 3, 53, z0, 27) := by rw [cod, ctab_210]; rfl
theorem k210_27 : cod 210 27 = some (2, 1, 0, z0, 28) := by rw [cod, ctab_210]; rfl
theorem k210_28 : cod 210 28 = some (2, 4, 0, z0, 30) := by rw [cod, ctab_210]; rfl
theorem k210_30 : cod 210 30 = some (9, 7, 0, z0, 31) := by rw [cod, ctab_210]; rfl
theorem k210_31 : cod 210 31 = some (0, 0, 0, vi (1), 32) := by rw [cod, ctab_210]; rfl
theorem k210_32 : cod 210 32 = some (9, 3, 0, z0, 33) := by rw [cod, ctab_210]; rfl
theorem k210_33 : cod 210 33 = some (0, 0, 0, vi (1), 34) := by rw [cod, ctab_210]; rfl
theorem k210_34 : cod 210 34 = some (28, 1, 47, z0, 37) := by rw [cod, ctab_210]; rfl
theorem k210_37 : cod 210 37 = some (4, 0, 0, z0, 38) := by rw [cod, ctab_210]; rfl
theorem k210_38 : cod 210 38 = some (29, 40, 43, z0, 41) := by rw [cod, ctab_210]; rfl
theorem k210_41 : cod 210 41 = some (0, 0, 0, vi (2), 42) := by rw [cod, ctab_210]; rfl
theorem k210_42 : cod 210 42 = some (2, 4, 0, z0, 44) := by rw [cod, ctab_210]; rfl
theorem k210_44 : cod 210 44 = some (9, 0, 0, z0, 45) := by rw [cod, ctab_210]; rfl
theorem k210_45 : cod 210 45 = some (2, 2, 0, z0, 46) := by rw [cod, ctab_210]; rfl
theorem k210_46 : cod 210 46 = some (32, 1, 0, z0, 47) := by rw [cod, ctab_210]; rfl
theorem k210_47 : cod 210 47 = some (8, 4, 0, vi (1), 50) := by rw [cod, ctab_210]; rfl
theorem k210_50 : cod 210 50 = some (26, 16, 0, z0, 53) := by rw [cod, ctab_210]; rfl
theorem k210_53 : cod 210 53 = some (0, 0, 0, z0, 54) := by rw [cod, ctab_210]; rfl
theorem k210_54 : cod 210 54 = some (5, 4, 0, z0, 56) := by rw [cod, ctab_210]; rfl
theorem k210_56 : cod 210 56 = some (2, 4, 0, z0, 58) := by rw [cod, ctab_210]; rfl
theorem k210_58 : cod 210 58 = some (2, 3, 0, z0, 59) := by rw [cod, ctab_210]; rfl
theorem k210_59 : cod 210 59 = some (28, 3, 73, z0, 62) := by rw [cod, ctab_210]; rfl
theorem k210_62 : cod 210 62 = some (4, 0, 0, z0, 63) := by rw [cod, ctab_210]; rfl
theorem k210_63 : cod 210 63 = some (34, 191, 1, vr 40 0, 66) := by rw [cod, ctab_210]; rfl
theorem k210_66 : cod 210 66 = some (25, 0, 0, z0, 67) := by rw [cod, ctab_210]; rfl
theorem k210_67 : cod 210 67 = some (8, 4, 0, vi (1), 70) := by rw [cod, ctab_210]; rfl
theorem k210_70 : cod 210 70 = some (26, 56, 0, z0, 73) := by rw [cod, ctab_210]; rfl
theorem k210_73 : cod 210 73 = some (4, 0, 0, z0, 74) := by rw [cod, ctab_210]; rfl
theorem k210_74 : cod 210 74 = some (34, 182, 1, vr 40 0, 77) := by rw [cod, ctab_210]; rfl
theorem k210_77 : cod 210 77 = some (27, 1, 84, z0, 80) := by rw [cod, ctab_210]; rfl
theorem k210_80 : cod 210 80 = some (0, 0, 0, vi (1), 81) := by rw [cod, ctab_210]; rfl
theorem k210_81 : cod 210 81 = some (26, 85, 0, z0, 84) := by rw [cod, ctab_210]; rfl
theorem k210_84 : cod 210 84 = some (0, 0, 0, z0, 85) := by rw [cod, ctab_210]; rfl
theorem k210_85 : cod 210 85 = some (5, 4, 0, z0, 87) := by rw [cod, ctab_210]; rfl
theorem k210_87 : cod 210 87 = some (4, 0, 0, z0, 88) := by rw [cod, ctab_210]; rfl
theorem k210_88 : cod 210 88 = some (29, 40, 44, z0, 91) := by rw [cod, ctab_210]; rfl
theorem k210_91 : cod 210 91 = some (0, 0, 0, z0, 92) := by rw [cod, ctab_210]; rfl
theorem k210_92 : cod 210 92 = some (4, 0, 0, z0, 93) := by rw [cod, ctab_210]; rfl
theorem k210_93 : cod 210 93 = some (29, 40, 43, z0, 96) := by rw [cod, ctab_210]; rfl
theorem k210_96 : cod 210 96 = some (0, 0, 0, z0, 97) := by rw [cod, ctab_210]; rfl
theorem k210_97 : cod 210 97 = some (34, 168, 4, z0, 100) := by rw [cod, ctab_210]; rfl
theorem k210_100 : cod 210 100 = some (2, 4, 0, z0, 102) := by rw [cod, ctab_210]; rfl
theorem k210_102 : cod 210 102 = some (36, 2, 0, z0, 103) := by rw [cod, ctab_210]; rfl
theorem ctab_211 : ctab.getD 211 [] = cd211 := rfl
theorem k211_0 : cod 211 0 = some (0, 0, 0, z0, 1) := by rw [cod, ctab_211]; rfl
theorem k211_1 : cod 211 1 = some (5, 3, 0, z0, 2) := by rw [cod, ctab_211]; rfl
theorem k211_2 : cod 211 2 = some (2, 3, 0, z0, 3) := by rw [cod, ctab_211]; rfl
theorem k211_3 : cod 211 3 = some (4, 0, 0, z0, 4) := by rw [cod, ctab_211]; rfl
theorem k211_4 : cod 211 4 = some (29, 40, 10, z0, 7) := by rw [cod, ctab_211]; rfl
theorem k211_7 : cod 211 7 = some (0, 0, 0, vi (1), 8) := by rw [cod, ctab_211]; rfl
theorem k211_8 : cod 211 8 = some (31, 1, 0, z0, 9) := by rw [cod, ctab_211]; rfl
theorem k211_9 : cod 211 9 = some (28, 3, 38, z0, 12) := by rw [cod, ctab_211]; rfl
theorem k211_12 : cod 211 12 = some (2, 1, 0, z0, 13) := by rw [cod, ctab_211]; rfl
theorem k211_13 : cod 211 13 = some (2, 3, 0, z0, 14) := by rw [cod, ctab_211]; rfl
theorem k211_14 : cod 211 14 = some (9, 7, 0, z0, 15) := by rw [cod, ctab_211]; rfl
theorem k211_15 : cod 211 15 = some (0, 0, 0, vi (1), 16) := by rw [cod, ctab_211]; rfl
theorem k211_16 : cod 211 16 = some (9, 3, 0, z0, 17) := by rw [cod, ctab_211]; rfl
theorem k211_17 : cod 211 17 = some (0, 0, 0, vi (1), 18) := by rw [cod, ctab_211]; rfl
theorem k211_18 : cod 211 18 = some (28, 1, 32, z0, 21) := by rw [cod, ctab_211]; rfl
theorem k211_21 : cod 211 21 = some (4, 0, 0, z0, 22) := by rw [cod, ctab_211]; rfl
theorem k211_22 : cod 211 22 = some (2, 3, 0, z0, 23) := by rw [cod, ctab_211]; rfl
theorem k211_23 : cod 211 23 = some (2, 2, 0, z0, 24) := by rw [cod, ctab_211]; rfl
theorem k211_24 : cod 211 24 = some (34, 184, 3, vr 40 0, 27) := by rw [cod, ctab_211]; rfl
theorem k211_27 : cod 211 27 = some (27, 1, 32, z0, 30) := by rw [cod, ctab_211]; rfl
theorem k211_30 : cod 211 30 = some (0, 0, 0, z0, 31) := by rw [cod, ctab_211]; rfl
theorem k211_31 : cod 211 31 = some (36, 2, 0, z0, 32) := by rw [cod, ctab_211]; rfl
theorem k211_32 : cod 211 32 = some (8, 3, 0, vi (1), 35) := by rw [cod, ctab_211]; rfl
theorem k211_35 : cod 211 35 = some (26, 2, 0, z0, 38) := by rw [cod, ctab_211]; rfl
theorem k211_38 : cod 211 38 = some (0, 0, 0, vi (1), 39) := by rw [cod, ctab_211]; rfl
theorem k211_39 : cod 211 39 = some (36, 2, 0, z0, 40) := by rw [cod, ctab_211]; rfl
theorem ctab_212 : ctab.getD 212 [] = cd212 := rfl
theorem k212_0 : cod 212 0 = some (0, 0, 0, z0, 1) := by rw [cod, ctab_212]; rfl
theorem k212_1 : cod 212 1 = some (5, 3, 0, z0, 2) := by rw [cod, ctab_212]; rfl
theorem k212_2 : cod 212 2 = some (2, 3, 0, z0, 3) := by rw [cod, ctab_212]; rfl
theorem k212_3 : cod 212 3 = some (4, 0, 0, z0, 4) := by rw [cod, ctab_212]; rfl
theorem k212_4 : cod 212 4 = some (29, 40, 10, z0, 7) := by rw [cod, ctab_212]; rfl
theorem k212_7 : cod 212 7 = some (0, 0, 0, z0, 8) := by rw [cod, ctab_212]; rfl
theorem k212_8 : cod 212 8 = some (31, 1, 0, z0, 9) := by rw [cod, ctab_212]; rfl
theorem k212_9 : cod 212 9 = some (28, 3, 39, z0, 12) := by rw [cod, ctab_212]; rfl
theorem k212_12 : cod 212 12 = some (4, 0, 0, z0, 13) := by rw [cod, ctab_212]; rfl
theorem k212_13 : cod 212 13 = some (2, 1, 0, z0, 14) := by rw [cod, ctab_212]; rfl
theorem k212_14 : cod 212 14 = some (2, 3, 0, z0, 15) := by rw [cod, ctab_212]; rfl
theorem k212_15 : cod 212 15 = some (34, 211, 3, vr 40 0, 18) := by rw [cod, ctab_212]; rfl
theorem k212_18 : cod 212 18 = some (27, 0, 33, z0, 21) := by rw [cod, ctab_212]; rfl
theorem k212_21 : cod 212 21 = some (4, 0, 0, z0, 22) := by rw [cod, ctab_212]; rfl
theorem k212_22 : cod 212 22 = some (2, 1, 0, z0, 23) := by rw [cod, ctab_212]; rfl
theorem k212_23 : cod 212 23 = some (2, 3, 0, z0, 24) := by rw [cod, ctab_212]; rfl
theorem k212_24 : cod 212 24 = some (2, 2, 0, z0, 25) := by rw [cod, ctab_212]; rfl
theorem k212_25 : cod 212 25 = some (34, 210, 4, vr 40 0, 28) := by rw [cod, ctab_212]; rfl
theorem k212_28 : cod 212 28 = some (27, 0, 33, z0, 31) := by rw [cod, ctab_212]; rfl
theorem k212_31 : cod 212 31 = some (2, 3, 0, z0, 32) := by rw [cod, ctab_212]; rfl
theorem k212_32 : cod 212 32 = some (36, 1, 0, z0, 33) := by rw [cod, ctab_212]; rfl
theorem k212_33 : cod 212 33 = some (8, 3, 0, vi (1), 36) := by rw [cod, ctab_212]; rfl
theorem k212_36 : cod 212 36 = some (26, 2, 0, z0, 39) := by rw [cod, ctab_212]; rfl
theorem k212_39 : cod 212 39 = some (0, 0, 0, vi (-1), 40) := by rw [cod, ctab_212]; rfl
theorem k212_40 : cod 212 40 = some (36, 1, 0, z0, 41) := by rw [cod, ctab_212]; rfl
theorem ctab_213 : ctab.getD 213 [] = cd213 := rfl
theorem k213_0 : cod 213 0 = some (4, 0, 0, z0, 1) := by rw [cod, ctab_213]; rfl
theorem k213_1 : cod 213 1 = some (0, 0, 0, z0, 2) := by rw [cod, ctab_213]; rfl
theorem k213_2 : cod 213 2 = some (30, 40, 0, z0, 5) := by rw [cod, ctab_213]; rfl
theorem k213_5 : cod 213 5 = some (2, 1, 0, z0, 6) := by rw [cod, ctab_213]; rfl
theorem k213_6 : cod 213 6 = some (0, 0, 0, vi (1), 7) := by rw [cod, ctab_213]; rfl
theorem k213_7 : cod 213 7 = some (0, 0, 0, vi (24), 9) := by rw [cod, ctab_213]; rfl
theorem k213_9 : cod 213 9 = some (34, 130, 3, z0, 12) := by rw [cod, ctab_213]; rfl
theorem k213_12 : cod 213 12 = some (27, 0, 24, z0, 15) := by rw [cod, ctab_213]; rfl
theorem k213_15 : cod 213 15 = some (2, 2, 0, z0, 16) := by rw [cod, ctab_213]; rfl
theorem k213_16 : cod 213 16 = some (0, 0, 0, z0, 17) := by rw [cod, ctab_213]; rfl
theorem k213_17 : cod 213 17 = some (0, 0, 0, vi (1), 18) := by rw [cod, ctab_213]; rfl
theorem k213_18 : cod 213 18 = some (34, 130, 3, z0, 21) := by rw [cod, ctab_213]; rfl
theorem k213_21 : cod 213 21 = some (27, 1, 27, z0, 24) := by rw [cod, ctab_213]; rfl
theorem k213_24 : cod 213 24 = some (0, 0, 0, vi (-2), 26) := by rw [cod, ctab_213]; rfl
theorem k213_26 : cod 213 26 = some (36, 1, 0, z0, 27) := by rw [cod, ctab_213]; rfl
theorem k213_27 : cod 213 27 = some (4, 0, 0, z0, 28) := by rw [cod, ctab_213]; rfl
theorem k213_28 : cod 213 28 = some (0, 0, 0, z0, 29) := by rw [cod, ctab_213]; rfl
theorem k213_29 : cod 213 29 = some (0, 0, 0, z0, 30) := by rw [cod, ctab_213]; rfl
theorem k213_30 : cod 213 30 = some (2, 1, 0, z0, 31) := by rw [cod, ctab_213]; rfl
theorem k213_31 : cod 213 31 = some (34, 210, 4, vr 40 0, 34) := by rw [cod, ctab_213]; rfl
theorem k213_34 : cod 213 34 = some (27, 0, 47, z0, 37) := by rw [cod, ctab_213]; rfl
theorem k213_37 : cod 213 37 = some (2, 2, 0, z0, 38) := by rw [cod, ctab_213]; rfl
theorem k213_38 : cod 213 38 = some (27, 1, 45, z0, 41) := by rw [cod, ctab_213]; rfl
theorem k213_41 : cod 213 41 = some (0, 0, 0, z0, 42) := by rw [cod, ctab_213]; rfl
theorem k213_42 : cod 213 42 = some (26, 46, 0, z0, 45) := by rw [cod, ctab_213]; rfl
theorem k213_45 : cod 213 45 = some (0, 0, 0, vi (-1), 46) := by rw [cod, ctab_213]; rfl
theorem k213_46 : cod 213 46 = some (36, 1, 0, z0, 47) := by rw [cod, ctab_213]; rfl
theorem k213_47 : cod 213 47 = some (0, 0, 0, z0, 48) := by rw [cod, ctab_213]; rfl
theorem k213_48 : cod 213 48 = some (5, 3, 0, z0, 49) := by rw [cod, ctab_213]; rfl
theorem k213_49 : cod 213 49 = some (0, 0, 0, vi (-1), 50) := by rw [cod, ctab_213]; rfl
theorem k213_50 : cod 213 50 = some (5, 4, 0, z0, 52) := by rw [cod, ctab_213]; rfl
theorem k213_52 : cod 213 52 = some (0, 0, 0, vi (1), 53) := by rw [cod, ctab_213]; rfl
theorem k213_53 : cod 213 53 = some (5, 5, 0, z0, 55) := by rw [cod, ctab_213]; rfl
theorem k213_55 : cod 213 55 = some (2, 5, 0, z0, 57) := by rw [cod, ctab_213]; rfl
theorem k213_57 : cod 213 57 = some (0, 0, 0, vi (1), 58) := by rw [cod, ctab_213]; rfl
theorem k213_58 : cod 213 58 = some (4, 0, 0, z0, 59) := by rw [cod, ctab_213]; rfl
theorem k213_59 : cod 213 59 = some (29, 40, 10, z0, 62) := by rw [cod, ctab_213]; rfl
theorem k213_62 : cod 213 62 = some (0, 0, 0, vi (1), 63) := by rw [cod, ctab_213]; rfl
theorem k213_63 : cod 213 63 = some (31, 1, 0, z0, 64) := by rw [cod, ctab_213]; rfl
theorem k213_64 : cod 213 64 = some (9, 6, 0, z0, 65) := by rw [cod, ctab_213]; rfl
theorem k213_65 : cod 213 65 = some (28, 3, 117, z0, 68) := by rw [cod, ctab_213]; rfl
theorem k213_68 : cod 213 68 = some (2, 3, 0, z0, 69) := by rw [cod, ctab_213]; rfl
theorem k213_69 : cod 213 69 = some (27, 5, 87, z0, 72) := by rw [cod, ctab_213]; rfl
theorem k213_72 : cod 213 72 = some (2, 5, 0, z0, 74) := by rw [cod, ctab_213]; rfl
theorem k213_74 : cod 213 74 = some (34, 132, 1, z0, 77) := by rw [cod, ctab_213]; rfl
theorem k213_77 : cod 213 77 = some (2, 3, 0, z0, 78) := by rw [cod, ctab_213]; rfl
theorem k213_78 : cod 213 78 = some (34, 132, 1, z0, 81) := by rw [cod, ctab_213]; rfl
theorem k213_81 : cod 213 81 = some (28, 2, 87, z0, 84) := by rw [cod, ctab_213]; rfl
theorem k213_84 : cod 213 84 = some (26, 111, 0, z0, 87) := by rw [cod, ctab_213]; rfl
theorem k213_87 : cod 213 87 = some (4, 0, 0, z0, 88) := by rw [cod, ctab_213]; rfl
theorem k213_88 : cod 213 88 = some (2, 5, 0, z0, 90) := by rw [cod, ctab_213]; rfl
theorem k213_90 : cod 213 90 = some (2, 1, 0, z0, 91) := by rw [cod, ctab_213]; rfl
theorem k213_91 : cod 213 91 = some (34, 212, 3, vr 40 0, 94) := by rw [cod, ctab_213]; rfl
theorem k213_94 : cod 213 94 = some (5, 6, 0, z0, 96) := by rw [cod, ctab_213]; rfl
theorem k213_96 : cod 213 96 = some (2, 6, 0, z0, 98) := by rw [cod, ctab_213]; rfl
theorem k213_98 : cod 213 98 = some (27, 3, 104, z0, 101) := by rw [cod, ctab_213]; rfl
theorem k213_101 : cod 213 101 = some (26, 111, 0, z0, 104) := by rw [cod, ctab_213]; rfl
theorem k213_104 : cod 213 104 = some (2, 5, 0, z0, 106) := by rw [cod, ctab_213]; rfl
theorem k213_106 : cod 213 106 = some (5, 3, 0, z0, 107) := by rw [cod, ctab_213]; rfl
theorem k213_107 : cod 213 107 = some (2, 6, 0, z0, 109) := by rw [cod, ctab_213]; rfl
theorem k213_109 : cod 213 109 = some (5, 4, 0, z0, 111) := by rw [cod, ctab_213]; rfl
theorem k213_111 : cod 213 111 = some (8, 5, 0, vi (1), 114) := by rw [cod, ctab_213]; rfl
theorem k213_114 : cod 213 114 = some (26, 55, 0, z0, 117) := by rw [cod, ctab_213]; rfl
theorem k213_117 : cod 213 117 = some (2, 3, 0, z0, 118) := by rw [cod, ctab_213]; rfl
theorem k213_118 : cod 213 118 = some (27, 1, 126, z0, 121) := by rw [cod, ctab_213]; rfl
theorem k213_121 : cod 213 121 = some (0, 0, 0, vi (-2), 123) := by rw [cod, ctab_213]; rfl
theorem k213_123 : cod 213 123 = some (26, 136, 0, z0, 126) := by rw [cod, ctab_213]; rfl
theorem k213_126 : cod 213 126 = some (2, 2, 0, z0, 127) := by rw [cod, ctab_213]; rfl
theorem k213_127 : cod 213 127 = some (27, 1, 134, z0, 130) := by rw [cod, ctab_213]; rfl
theorem k213_130 : cod 213 130 = some (2, 3, 0, z0, 131) := by rw [cod, ctab_213]; rfl
theorem k213_131 : cod 213 131 = some (26, 136, 0, z0, 134) := by rw [cod, ctab_213]; rfl
theorem k213_134 : cod 213 134 = some (2, 4, 0, z0, 136) := by rw [cod, ctab_213]; rfl
theorem k213_136 : cod 213 136 = some (36, 1, 0, z0, 137) := by rw [cod, ctab_213]; rfl
theorem ctab_214 : ctab.getD 214 [] = cd214 := rfl
theorem k214_0 : cod 214 0 = some (4, 0, 0, z0, 1) := by rw [cod, ctab_214]; rfl
theorem k214_1 : cod 214 1 = some (0, 0, 0, z0, 2) := by rw [cod, ctab_214]; rfl
theorem k214_2 : cod 214 2 = some (30, 40, 0, z0, 5) := by rw [cod, ctab_214]; rfl
theorem k214_5 : cod 214 5 = some (4, 0, 0, z0, 6) := by rw [cod, ctab_214]; rfl
theorem k214_6 : cod 214 6 = some (2, 1, 0, z0, 7) := by rw [cod, ctab_214]; rfl
theorem k214_7 : cod 214 7 = some (34, 176, 2, vr 40 0, 10) := by rw [cod, ctab_214]; rfl
theorem k214_10 : cod 214 10 = some (27, 0, 23, z0, 13) := by rw [cod, ctab_214]; rfl
theorem k214_13 : cod 214 13 = some (2, 2, 0, z0, 14) := by rw [cod, ctab_214]; rfl
theorem k214_14 : cod 214 14 = some (0, 0, 0, z0, 15) := by rw [cod, ctab_214]; rfl
theorem k214_15 : cod 214 15 = some (0, 0, 0, vi (99), 17) := by rw [cod, ctab_214]; rfl
theorem k214_17 : cod 214 17 = some (34, 130, 3, z0, 20) := by rw [cod, ctab_214]; rfl
theorem k214_20 : cod 214 20 = some (27, 1, 25, z0, 23) := by rw [cod, ctab_214]; rfl
theorem k214_23 : cod 214 23 = some (0, 0, 0, z0, 24) := by rw [cod, ctab_214]; rfl
theorem k214_24 : cod 214 24 = some (36, 2, 0, z0, 25) := by rw [cod, ctab_214]; rfl
theorem k214_25 : cod 214 25 = some (4, 0, 0, z0, 26) := by rw [cod, ctab_214]; rfl
theorem k214_26 : cod 214 26 = some (29, 40, 42, z0, 29) := by rw [cod, ctab_214]; rfl
theorem k214_29 : cod 214 29 = some (2, 1, 0, z0, 30) := by rw [cod, ctab_214]; rfl
theorem k214_30 : cod 214 30 = some (2, 2, 0, z0, 31) := by rw [cod, ctab_214]; rfl
theorem k214_31 : cod 214 31 = some (32, 1, 0, z0, 32) := by rw [cod, ctab_214]; rfl
theorem k214_32 : cod 214 32 = some (0, 0, 0, vi (1), 33) := by rw [cod, ctab_214]; rfl
theorem k214_33 : cod 214 33 = some (36, 2, 0, z0, 34) := by rw [cod, ctab_214]; rfl
theorem ctab_215 : ctab.getD 215 [] = cd215 := rfl
theorem k215_0 : cod 215 0 = some (0, 0, 0, z0, 1) := by rw [cod, ctab_215]; rfl
theorem k215_1 : cod 215 1 = some (5, 2, 0, z0, 2) := by rw [cod, ctab_215]; rfl
theorem k215_2 : cod 215 2 = some (0, 0, 0, z0, 3) := by rw [cod, ctab_215]; rfl
theorem k215_3 : cod 215 3 = some (5, 3, 0, z0, 4) := by rw [cod, ctab_215]; rfl
theorem k215_4 : cod 215 4 = some (2, 3, 0, z0, 5) := by rw [cod, ctab_215]; rfl
theorem k215_5 : cod 215 5 = some (4, 0, 0, z0, 6) := by rw [cod, ctab_215]; rfl
theorem k215_6 : cod 215 6 = some (29, 40, 10, z0, 9) := by rw [cod, ctab_215]; rfl
theorem k215_9 : cod 215 9 = some (0, 0, 0, vi (1), 10) := by rw [cod, ctab_215]; rfl
theorem k215_10 : cod 215 10 = some (31, 1, 0, z0, 11) := by rw [cod, ctab_215]; rfl
theorem k215_11 : cod 215 11 = some (28, 3, 39, z0, 14) := by rw [cod, ctab_215]; rfl
theorem k215_14 : cod 215 14 = some (2, 2, 0, z0, 15) := by rw [cod, ctab_215]; rfl
theorem k215_15 : cod 215 15 = some (4, 0, 0, z0, 16) := by rw [cod, ctab_215]; rfl
theorem k215_16 : cod 215 16 = some (2, 3, 0, z0, 17) := by rw [cod, ctab_215]; rfl
theorem k215_17 : cod 215 17 = some (2, 1, 0, z0, 18) := by rw [cod, ctab_215]; rfl
theorem k215_18 : cod 215 18 = some (34, 185, 3, vr 40 0, 21) := by rw [cod, ctab_215]; rfl
theorem k215_21 : cod 215 21 = some (27, 0, 30, z0, 24) := by rw [cod, ctab_215]; rfl
theorem k215_24 : cod 215 24 = some (0, 0, 0, vi (1), 25) := by rw [cod, ctab_215]; rfl
theorem k215_25 : cod 215 25 = some (2, 3, 0, z0, 26) := by rw [cod, ctab_215]; rfl
theorem k215_26 : cod 215 26 = some (9, 6, 0, z0, 27) := by rw [cod, ctab_215]; rfl
theorem k215_27 : cod 215 27 = some (26, 31, 0, z0, 30) := by rw [cod, ctab_215]; rfl
theorem k215_30 : cod 215 30 = some (0, 0, 0, z0, 31) := by rw [cod, ctab_215]; rfl
theorem k215_31 : cod 215 31 = some (9, 4, 0, z0, 32) := by rw [cod, ctab_215]; rfl
theorem k215_32 : cod 215 32 = some (5, 2, 0, z0, 33) := by rw [cod, ctab_215]; rfl
theorem k215_33 : cod 215 33 = some (8, 3, 0, vi (1), 36) := by rw [cod, ctab_215]; rfl
theorem k215_36 : cod 215 36 = some (26, 4, 0, z0, 39) := by rw [cod, ctab_215]; rfl
theorem k215_39 : cod 215 39 = some (2, 2, 0, z0, 40) := by rw [cod, ctab_215]; rfl
theorem k215_40 : cod 215 40 = some (36, 1, 0, z0, 41) := by rw [cod, ctab_215]; rfl
theorem ctab_216 : ctab.getD 216 [] = cd216 := rfl
theorem k216_0 : cod 216 0 = some (4, 0, 0, z0, 1) := by rw [cod, ctab_216]; rfl
theorem k216_1 : cod 216 1 = some (29, 40, 43, z0, 4) := by rw [cod, ctab_216]; rfl
theorem k216_4 : cod 216 4 = some (0, 0, 0, vi (8), 6) := by rw [cod, ctab_216]; rfl
theorem k216_6 : cod 216 6 = some (2, 1, 0, z0, 7) := by rw [cod, ctab_216]; rfl
theorem k216_7 : cod 216 7 = some (9, 0, 0, z0, 8) := by rw [cod, ctab_216]; rfl
theorem k216_8 : cod 216 8 = some (31, 1, 0, z0, 9) := by rw [cod, ctab_216]; rfl
theorem k216_9 : cod 216 9 = some (5, 3, 0, z0, 10) := by rw [cod, ctab_216]; rfl
theorem k216_10 : cod 216 10 = some (0, 0, 0, z0, 11) := by rw [cod, ctab_216]; rfl
theorem k216_11 : cod 216 11 = some (5, 4, 0, z0, 13) := by rw [cod, ctab_216]; rfl
theorem k216_13 : cod 216 13 = some (2, 4, 0, z0, 15) := by rw [cod, ctab_216]; rfl
theorem k216_15 : cod 216 15 = some (4, 0, 0, z0, 16) := by rw [cod, ctab_216]; rfl
theorem k216_16 : cod 216 16 = some (29, 40, 10, z0, 19) := by rw [cod, ctab_216]; rfl
theorem k216_19 : cod 216 19 = some (0, 0, 0, vi (1), 20) := by rw [cod, ctab_216]; rfl
theorem k216_20 : cod 216 20 = some (31, 1, 0, z0, 21) := by rw [cod, ctab_216]; rfl
theorem k216_21 : cod 216 21 = some (28, 3, 73, z0, 24) := by rw [cod, ctab_216]; rfl
theorem k216_24 : cod 216 24 = some (4, 0, 0, z0, 25) := by rw [cod, ctab_216]; rfl
theorem k216_25 : cod 216 25 = some (2, 1, 0, z0, 26) := by rw [cod, ctab_216]; rfl
theorem k216_26 : cod 216 26 = some (34, 180, 2, vr 40 0, 29) := by rw [cod, ctab_216]; rfl
theorem k216_29 : cod 216 29 = some (27, 1, 67, z0, 32) := by rw [cod, ctab_216]; rfl
theorem k216_32 : cod 216 32 = some (2, 2, 0, z0, 33) := by rw [cod, ctab_216]; rfl
theorem k216_33 : cod 216 33 = some (2, 4, 0, z0, 35) := by rw [cod, ctab_216]; rfl
theorem k216_35 : cod 216 35 = some (9, 7, 0, z0, 36) := by rw [cod, ctab_216]; rfl
theorem k216_36 : cod 216 36 = some (0, 0, 0, vi (1), 37) := by rw [cod, ctab_216]; rfl
theorem k216_37 : cod 216 37 = some (9, 3, 0, z0, 38) := by rw [cod, ctab_216]; rfl
theorem k216_38 : cod 216 38 = some (27, 1, 44, z0, 41) := by rw [cod, ctab_216]; rfl
theorem k216_41 : cod 216 41 = some (26, 67, 0, z0, 44) := by rw [cod, ctab_216]; rfl
theorem k216_44 : cod 216 44 = some (2, 3, 0, z0, 45) := by rw [cod, ctab_216]; rfl
theorem k216_45 : cod 216 45 = some (4, 0, 0, z0, 46) := by rw [cod, ctab_216]; rfl
theorem k216_46 : cod 216 46 = some (2, 4, 0, z0, 48) := by rw [cod, ctab_216]; rfl
theorem k216_48 : cod 216 48 = some (2, 1, 0, z0, 49) := by rw [cod, ctab_216]; rfl
theorem k216_49 : cod 216 49 = some (2, 3, 0, z0, 50) := by rw [cod, ctab_216]; rfl
theorem k216_50 : cod 216 50 = some (34, 188, 4, vr 40 0, 53) := by rw [cod, ctab_216]; rfl
theorem k216_53 : cod 216 53 = some (9, 0, 0, z0, 54) := by rw [cod, ctab_216]; rfl
theorem k216_54 : cod 216 54 = some (5, 3, 0, z0, 55) := by rw [cod, ctab_216]; rfl
theorem k216_55 : cod 216 55 = some (2, 3, 0, z0, 56) := by rw [cod, ctab_216]; rfl
theorem k216_56 : cod 216 56 = some (4, 0, 0, z0, 57) := by rw [cod, ctab_216]; rfl
theorem k216_57 : cod 216 57 = some (29, 40, 10, z0, 60) := by rw [cod, ctab_216]; rfl
theorem k216_60 : cod 216 60 = some (0, 0, 0, vi (3), 61) := by rw [cod, ctab_216]; rfl
theorem k216_61 : cod 216 61 = some (31, 1, 0, z0, 62) := by rw [cod, ctab_216]; rfl
theorem k216_62 : cod 216 62 = some (28, 5, 67, z0, 65) := by rw [cod, ctab_216]; rfl
theorem k216_65 : cod 216 65 = some (0, 0, 0, z0, 66) := by rw [cod, ctab_216]; rfl
theorem k216_66 : cod 216 66 = some (36, 1, 0, z0, 67) := by rw [cod, ctab_216]; rfl
theorem k216_67 : cod 216 67 = some (8, 4, 0, vi (1), 70) := by rw [cod, ctab_216]; rfl
theorem k216_70 : cod 216 70 = some (26, 13, 0, z0, 73) := by rw [cod, ctab_216]; rfl
theorem k216_73 : cod 216 73 = some (2, 3, 0, z0, 74) := by rw [cod, ctab_216]; rfl
theorem k216_74 : cod 216 74 = some (36, 1, 0, z0, 75) := by rw [cod, ctab_216]; rfl
theorem ctab_217 : ctab.getD 217 [] = cd217 := rfl
theorem k217_0 : cod 217 0 = some (4, 0, 0, z0, 1) := by rw [cod, ctab_217]; rfl
theorem k217_1 : cod 217 1 = some (29, 40, 42, z0, 4) := by rw [cod, ctab_217]; rfl
theorem k217_4 : cod 217 4 = some (2, 1, 0, z0, 5) := by rw [cod, ctab_217]; rfl
theorem k217_5 : cod 217 5 = some (31, 1, 0, z0, 6) := by rw [cod, ctab_217]; rfl
theorem k217_6 : cod 217 6 = some (27, 2, 24, z0, 9) := by rw [cod, ctab_217]; rfl
theorem k217_9 : cod 217 9 = some (4, 0, 0, z0, 10) := by rw [cod, ctab_217]; rfl
theorem k217_10 : cod 217 10 = some (2, 1, 0, z0, 11) := by rw [cod, ctab_217]; rfl
theorem k217_11 : cod 217 11 = some (2, 2, 0, z0, 12) := by rw [cod, ctab_217]; rfl
theorem k217_12 : cod 217 12 = some (34, 216, 3, vr 40 0, 15) := by rw [cod, ctab_217]; rfl
theorem k217_15 : cod 217 15 = some (4, 0, 0, z0, 16) := by rw [cod, ctab_217]; rfl
theorem k217_16 : cod 217 16 = some (29, 40, 42, z0, 19) := by rw [cod, ctab_217]; rfl
theorem k217_19 : cod 217 19 = some (2, 1, 0, z0, 20) := by rw [cod, ctab_217]; rfl
theorem k217_20 : cod 217 20 = some (31, 1, 0, z0, 21) := by rw [cod, ctab_217]; rfl
theorem k217_21 : cod 217 21 = some (28, 1, 28, z0, 24) := by rw [cod, ctab_217]; rfl
theorem k217_24 : cod 217 24 = some (0, 0, 0, vi (1), 25) := by rw [cod, ctab_217]; rfl
theorem k217_25 : cod 217 25 = some (26, 29, 0, z0, 28) := by rw [cod, ctab_217]; rfl
theorem k217_28 : cod 217 28 = some (0, 0, 0, z0, 29) := by rw [cod, ctab_217]; rfl
theorem k217_29 : cod 217 29 = some (36, 2, 0, z0, 30) := by rw [cod, ctab_217]; rfl
theorem ctab_218 : ctab.getD 218 [] = cd218 := rfl
theorem k218_0 : cod 218 0 = some (4, 0, 0, z0, 1) := by rw [cod, ctab_218]; rfl
theorem k218_1 : cod 218 1 = some (0, 0, 0, z0, 2) := by rw [cod, ctab_218]; rfl
theorem k218_2 : cod 218 2 = some (30, 40, 0, z0, 5) := by rw [cod, ctab_218]; rfl
theorem k218_5 : cod 218 5 = some (4, 0, 0, z0, 6) := by rw [cod, ctab_218]; rfl
theorem k218_6 : cod 218 6 = some (2, 1, 0, z0, 7) := by rw [cod, ctab_218]; rfl
theorem k218_7 : cod 218 7 = some (34, 176, 2, vr 40 0, 10) := by rw [cod, ctab_218]; rfl
theorem k218_10 : cod 218 10 = some (27, 0, 22, z0, 13) := by rw [cod, ctab_218]; rfl
theorem k218_13 : cod 218 13 = some (2, 2, 0, z0, 14) := by rw [cod, ctab_218]; rfl
theorem k218_14 : cod 218 14 = some (0, 0, 0, z0, 15) := by rw [cod, ctab_218]; rfl
theorem k218_15 : cod 218 15 = some (0, 0, 0, vi (2), 16) := by rw [cod, ctab_218]; rfl
theorem k218_16 : cod 218 16 = some (34, 130, 3, z0, 19) := by rw [cod, ctab_218]; rfl
theorem k218_19 : cod 218 19 = some (27, 1, 24, z0, 22) := by rw [cod, ctab_218]; rfl
theorem k218_22 : cod 218 22 = some (0, 0, 0, vi (-1), 23) := by rw [cod, ctab_218]; rfl
theorem k218_23 : cod 218 23 = some (36, 1, 0, z0, 24) := by rw [cod, ctab_218]; rfl
theorem k218_24 : cod 218 24 = some (4, 0, 0, z0, 25) := by rw [cod, ctab_218]; rfl
theorem k218_25 : cod 218 25 = some (2, 1, 0, z0, 26) := by rw [cod, ctab_218]; rfl
theorem k218_26 : cod 218 26 = some (34, 215, 2, vr 40 0, 29) := by rw [cod, ctab_218]; rfl
theorem k218_29 : cod 218 29 = some (5, 3, 0, z0, 30) := by rw [cod, ctab_218]; rfl
theorem k218_30 : cod 218 30 = some (0, 0, 0, z0, 31) := by rw [cod, ctab_218]; rfl
theorem k218_31 : cod 218 31 = some (5, 4, 0, z0, 33) := by rw [cod, ctab_218]; rfl
theorem k218_33 : cod 218 33 = some (2, 3, 0, z0, 34) := by rw [cod, ctab_218]; rfl
theorem k218_34 : cod 218 34 = some (5, 5, 0, z0, 36) := by rw [cod, ctab_218]; rfl
theorem k218_36 : cod 218 36 = some (0, 0, 0, z0, 37) := by rw [cod, ctab_218]; rfl
theorem k218_37 : cod 218 37 = some (5, 6, 0, z0, 39) := by rw [cod, ctab_218]; rfl
theorem k218_39 : cod 218 39 = some (0, 0, 0, z0, 40) := by rw [cod, ctab_218]; rfl
theorem k218_40 : cod 218 40 = some (5, 7, 0, z0, 42) := by rw [cod, ctab_218]; rfl
theorem k218_42 : cod 218 42 = some (2, 7, 0, z0, 44) := by rw [cod, ctab_218]; rfl
theorem k218_44 : cod 218 44 = some (2, 3, 0, z0, 45) := by rw [cod, ctab_218]; rfl
theorem k218_45 : cod 218 45 = some (28, 4, 93, z0, 48) := by rw [cod, ctab_218]; rfl
theorem k218_48 : cod 218 48 = some (2, 7, 0, z0, 50) := by rw [cod, ctab_218]; rfl
theorem k218_50 : cod 218 50 = some (2, 3, 0, z0, 51) := by rw [cod, ctab_218]; rfl
theorem k218_51 : cod 218 51 = some (0, 0, 0, vi (-1), 52) := by rw [cod, ctab_218]; rfl
theorem k218_52 : cod 218 52 = some (9, 5, 0, z0, 53) := by rw [cod, ctab_218]; rfl
theorem k218_53 : cod 218 53 = some (9, 3, 0, z0, 54) := by rw [cod, ctab_218]; rfl
theorem k218_54 : cod 218 54 = some (27, 1, 87, z0, 57) := by rw [cod, ctab_218]; rfl
theorem k218_57 : cod 218 57 = some (4, 0, 0, z0, 58) := by rw [cod, ctab_218]; rfl
theorem k218_58 : cod 218 58 = some (2, 1, 0, z0, 59) := by rw [cod, ctab_218]; rfl
theorem k218_59 : cod 218 59 = some (2, 7, 0, z0, 61) := by rw [cod, ctab_218]; rfl
theorem k218_61 : cod 218 61 = some (34, 217, 3, vr 40 0, 64) := by rw [cod, ctab_218]; rfl
theorem k218_64 : cod 218 64 = some (27, 1, 70, z0, 67) := by rw [cod, ctab_218]; rfl
theorem k218_67 : cod 218 67 = some (26, 87, 0, z0, 70) := by rw [cod, ctab_218]; rfl
theorem k218_70 : cod 218 70 = some (8, 4, 0, vi (1), 73) := by rw [cod, ctab_218]; rfl
theorem k218_73 : cod 218 73 = some (2, 5, 0, z0, 75) := by rw [cod, ctab_218]; rfl
theorem k218_75 : cod 218 75 = some (2, 7, 0, z0, 77) := by rw [cod, ctab_218]; rfl
theorem k218_77 : cod 218 77 = some (9, 3, 0, z0, 78) := by rw [cod, ctab_218]; rfl
theorem k218_78 : cod 218 78 = some (5, 5, 0, z0, 80) := by rw [cod, ctab_218]; rfl
theorem k218_80 : cod 218 80 = some (2, 6, 0, z0, 82) := by rw [cod, ctab_218]; rfl
theorem k218_82 : cod 218 82 = some (2, 7, 0, z0, 84) := by rw [cod, ctab_218]; rfl
theorem k218_84 : cod 218 84 = some (9, 4, 0, z0, 85) := by rw [cod, ctab_218]; rfl
theorem k218_85 : cod 218 85 = some (5, 6, 0, z0, 87) := by rw [cod, ctab_218]; rfl
theorem k218_87 : cod 218 87 = some (8, 7, 0, vi (1), 90) := by rw [cod, ctab_218]; rfl
theorem k218_90 : cod 218 90 = some (26, 42, 0, z0, 93) := by rw [cod, ctab_218]; rfl
theorem k218_93 : cod 218 93 = some (2, 4, 0, z0, 95) := by rw [cod, ctab_218]; rfl
theorem k218_95 : cod 218 95 = some (27, 0, 102, z0, 98) := by rw [cod, ctab_218]; rfl
theorem k218_98 : cod 218 98 = some (2, 2, 0, z0, 99) := by rw [cod, ctab_218]; rfl
theorem k218_99 : cod 218 99 = some (27, 1, 113, z0, 102) := by rw [cod, ctab_218]; rfl
theorem k218_102 : cod 218 102 = some (2, 2, 0, z0, 103) := by rw [cod, ctab_218]; rfl
theorem k218_103 : cod 218 103 = some (27, 1, 111, z0, 106) := by rw [cod, ctab_218]; rfl
theorem k218_106 : cod 218 106 = some (2, 4, 0, z0, 108) := by rw [cod, ctab_218]; rfl
theorem k218_108 : cod 218 108 = some (26, 112, 0, z0, 111) := by rw [cod, ctab_218]; rfl
theorem k218_111 : cod 218 111 = some (0, 0, 0, vi (-1), 112) := by rw [cod, ctab_218]; rfl
theorem k218_112 : cod 218 112 = some (36, 1, 0, z0, 113) := by rw [cod, ctab_218]; rfl
theorem k218_113 : cod 218 113 = some (2, 2, 0, z0, 114) := by rw [cod, ctab_218]; rfl
theorem k218_114 : cod 218 114 = some (0, 0, 0, vi (1), 115) := by rw [cod, ctab_218]; rfl
theorem k218_115 : cod 218 115 = some (28, 1, 123, z0, 118) := by rw [cod, ctab_218]; rfl
theorem k218_118 : cod 218 118 = some (2, 5, 0, z0, 120) := by rw [cod, ctab_218]; rfl
theorem k218_120 : cod 218 120 = some (26, 125, 0, z0, 123) := by rw [cod, ctab_218]; rfl
theorem k218_123 : cod 218 123 = some (2, 6, 0, z0, 125) := by rw [cod, ctab_218]; rfl
theorem k218_125 : cod 218 125 = some (36, 1, 0, z0, 126) := by rw [cod, ctab_218]; rfl
theorem ctab_219 : ctab.getD 219 [] = cd219 := rfl
theorem k219_0 : cod 219 0 = some (4, 0, 0, z0, 1) := by rw [cod, ctab_219]; rfl
theorem k219_1 : cod 219 1 = some (0, 0, 0, z0, 2) := by rw [cod, ctab_219]; rfl
theorem k219_2 : cod 219 2 = some (30, 40, 0, z0, 5) := by rw [cod, ctab_219]; rfl
theorem k219_5 : cod 219 5 = some (4, 0, 0, z0, 6) := by rw [cod, ctab_219]; rfl
theorem k219_6 : cod 219 6 = some (2, 1, 0, z0, 7) := by rw [cod, ctab_219]; rfl
theorem k219_7 : cod 219 7 = some (34, 176, 2, vr 40 0, 10) := by rw [cod, ctab_219]; rfl
theorem k219_10 : cod 219 10 = some (27, 1, 15, z0, 13) := by rw [cod, ctab_219]; rfl
theorem k219_13 : cod 219 13 = some (0, 0, 0, vi (-1), 14) := by rw [cod, ctab_219]; rfl
theorem k219_14 : cod 219 14 = some (36, 1, 0, z0, 15) := by rw [cod, ctab_219]; rfl
theorem k219_15 : cod 219 15 = some (4, 0, 0, z0, 16) := by rw [cod, ctab_219]; rfl
theorem k219_16 : cod 219 16 = some (2, 1, 0, z0, 17) := by rw [cod, ctab_219]; rfl
theorem k219_17 : cod 219 17 = some (34, 215, 2, vr 40 0, 20) := by rw [cod, ctab_219]; rfl
theorem k219_20 : cod 219 20 = some (5, 2, 0, z0, 21) := by rw [cod, ctab_219]; rfl
theorem k219_21 : cod 219 21 = some (4, 0, 0, z0, 22) := by rw [cod, ctab_219]; rfl
theorem k219_22 : cod 219 22 = some (2, 1, 0, z0, 23) := by rw [cod, ctab_219]; rfl
theorem k219_23 : cod 219 23 = some (0, 0, 0, z0, 24) := by rw [cod, ctab_219]; rfl
theorem k219_24 : cod 219 24 = some (34, 218, 3, vr 40 0, 27) := by rw [cod, ctab_219]; rfl
theorem k219_27 : cod 219 27 = some (5, 3, 0, z0, 28) := by rw [cod, ctab_219]; rfl
theorem k219_28 : cod 219 28 = some (2, 3, 0, z0, 29) := by rw [cod, ctab_219]; rfl
theorem k219_29 : cod 219 29 = some (5, 4, 0, z0, 31) := by rw [cod, ctab_219]; rfl
theorem k219_31 : cod 219 31 = some (0, 0, 0, vi (-1), 32) := by rw [cod, ctab_219]; rfl
theorem k219_32 : cod 219 32 = some (5, 5, 0, z0, 34) := by rw [cod, ctab_219]; rfl
theorem k219_34 : cod 219 34 = some (0, 0, 0, z0, 35) := by rw [cod, ctab_219]; rfl
theorem k219_35 : cod 219 35 = some (5, 6, 0, z0, 37) := by rw [cod, ctab_219]; rfl
theorem k219_37 : cod 219 37 = some (2, 6, 0, z0, 39) := by rw [cod, ctab_219]; rfl
theorem k219_39 : cod 219 39 = some (4, 0, 0, z0, 40) := by rw [cod, ctab_219]; rfl
theorem k219_40 : cod 219 40 = some (29, 40, 10, z0, 43) := by rw [cod, ctab_219]; rfl
theorem k219_43 : cod 219 43 = some (0, 0, 0, vi (1), 44) := by rw [cod, ctab_219]; rfl
theorem k219_44 : cod 219 44 = some (31, 1, 0, z0, 45) := by rw [cod, ctab_219]; rfl
theorem k219_45 : cod 219 45 = some (28, 3, 147, z0, 48) := by rw [cod, ctab_219]; rfl
theorem k219_48 : cod 219 48 = some (0, 0, 0, z0, 49) := by rw [cod, ctab_219]; rfl
theorem k219_49 : cod 219 49 = some (5, 7, 0, z0, 51) := by rw [cod, ctab_219]; rfl
theorem k219_51 : cod 219 51 = some (0, 0, 0, z0, 52) := by rw [cod, ctab_219]; rfl
theorem k219_52 : cod 219 52 = some (5, 8, 0, z0, 54) := by rw [cod, ctab_219]; rfl
theorem k219_54 : cod 219 54 = some (2, 8, 0, z0, 56) := by rw [cod, ctab_219]; rfl
theorem k219_56 : cod 219 56 = some (2, 2, 0, z0, 57) := by rw [cod, ctab_219]; rfl
theorem k219_57 : cod 219 57 = some (28, 4, 106, z0, 60) := by rw [cod, ctab_219]; rfl
theorem k219_60 : cod 219 60 = some (2, 7, 0, z0, 62) := by rw [cod, ctab_219]; rfl
theorem k219_62 : cod 219 62 = some (2, 8, 0, z0, 64) := by rw [cod, ctab_219]; rfl
theorem k219_64 : cod 219 64 = some (2, 2, 0, z0, 65) := by rw [cod, ctab_219]; rfl
theorem k219_65 : cod 219 65 = some (0, 0, 0, vi (-1), 66) := by rw [cod, ctab_219]; rfl
theorem k219_66 : cod 219 66 = some (9, 5, 0, z0, 67) := by rw [cod, ctab_219]; rfl
theorem k219_67 : cod 219 67 = some (9, 3, 0, z0, 68) := by rw [cod, ctab_219]; rfl
theorem k219_68 : cod 219 68 = some (27, 1, 96, z0, 71) := by rw [cod, ctab_219]; rfl
theorem k219_71 : cod 219 71 = some (2, 8, 0, z0, 73) := by rw [cod, ctab_219]; rfl
theorem k219_73 : cod 219 73 = some (2, 6, 0, z0, 75) := by rw [cod, ctab_219]; rfl
theorem k219_75 : cod 219 75 = some (9, 7, 0, z0, 76) := by rw [cod, ctab_219]; rfl
theorem k219_76 : cod 219 76 = some (0, 0, 0, vi (1), 77) := by rw [cod, ctab_219]; rfl
theorem k219_77 : cod 219 77 = some (9, 3, 0, z0, 78) := by rw [cod, ctab_219]; rfl
theorem k219_78 : cod 219 78 = some (0, 0, 0, vi (1), 79) := by rw [cod, ctab_219]; rfl
theorem k219_79 : cod 219 79 = some (28, 1, 96, z0, 82) := by rw [cod, ctab_219]; rfl
theorem k219_82 : cod 219 82 = some (4, 0, 0, z0, 83) := by rw [cod, ctab_219]; rfl
theorem k219_83 : cod 219 83 = some (2, 1, 0, z0, 84) := by rw [cod, ctab_219]; rfl
theorem k219_84 : cod 219 84 = some (2, 8, 0, z0, 86) := by rw [cod, ctab_219]; rfl
theorem k219_86 : cod 219 86 = some (34, 217, 3, vr 40 0, 89) := by rw [cod, ctab_219]; rfl
theorem k219_89 : cod 219 89 = some (27, 0, 96, z0, 92) := by rw [cod, ctab_219]; rfl
theorem k219_92 : cod 219 92 = some (0, 0, 0, vi (1), 93) := by rw [cod, ctab_219]; rfl
theorem k219_93 : cod 219 93 = some (26, 97, 0, z0, 96) := by rw [cod, ctab_219]; rfl
theorem k219_96 : cod 219 96 = some (0, 0, 0, z0, 97) := by rw [cod, ctab_219]; rfl
theorem k219_97 : cod 219 97 = some (9, 0, 0, z0, 98) := by rw [cod, ctab_219]; rfl
theorem k219_98 : cod 219 98 = some (5, 7, 0, z0, 100) := by rw [cod, ctab_219]; rfl
theorem k219_100 : cod 219 100 = some (8, 8, 0, vi (1), 103) := by rw [cod, ctab_219]; rfl
theorem k219_103 : cod 219 103 = some (26, 54, 0, z0, 106) := by rw [cod, ctab_219]; rfl
theorem k219_106 : cod 219 106 = some (2, 7, 0, z0, 108) := by rw [cod, ctab_219]; rfl
theorem k219_108 : cod 219 108 = some (2, 3, 0, z0, 109) := by rw [cod, ctab_219]; rfl
theorem k219_109 : cod 219 109 = some (2, 7, 0, z0, 111) := by rw [cod, ctab_219]; rfl
theorem k219_111 : cod 219 111 = some (9, 1, 0, z0, 112) := by rw [cod, ctab_219]; rfl
theorem k219_112 : cod 219 112 = some (47, 0, 0, z0, 115) := by rw [cod, ctab_219]; rfl
theorem k219_115 : cod 219 115 = some (5, 7, 0, z0, 117) := by rw [cod, ctab_219]; rfl
theorem k219_117 : cod 219 117 = some (2, 6, 0, z0, 119) := by rw [cod, ctab_219]; rfl
theorem k219_119 : cod 219 119 = some (2, 1, 0, z0, 120) := by rw [cod, ctab_219]; rfl
theorem k219_120 : cod 219 120 = some (28, 0, 141, z0, 123) := by rw [cod, ctab_219]; rfl
theorem k219_123 : cod 219 123 = some (2, 7, 0, z0, 125) := by rw [cod, ctab_219]; rfl
theorem k219_125 : cod 219 125 = some (2, 4, 0, z0, 127) := by rw [cod, ctab_219]; rfl
theorem k219_127 : cod 219 127 = some (28, 2, 133, z0, 130) := by rw [cod, ctab_219]; rfl
theorem k219_130 : cod 219 130 = some (26, 141, 0, z0, 133) := by rw [cod, ctab_219]; rfl
theorem k219_133 : cod 219 133 = some (2, 7, 0, z0, 135) := by rw [cod, ctab_219]; rfl
theorem k219_135 : cod 219 135 = some (5, 4, 0, z0, 137) := by rw [cod, ctab_219]; rfl
theorem k219_137 : cod 219 137 = some (2, 6, 0, z0, 139) := by rw [cod, ctab_219]; rfl
theorem k219_139 : cod 219 139 = some (5, 5, 0, z0, 141) := by rw [cod, ctab_219]; rfl
theorem k219_141 : cod 219 141 = some (8, 6, 0, vi (1), 144) := by rw [cod, ctab_219]; rfl
theorem k219_144 : cod 219 144 = some (26, 37, 0, z0, 147) := by rw [cod, ctab_219]; rfl
theorem k219_147 : cod 219 147 = some (2, 5, 0, z0, 149) := by rw [cod, ctab_219]; rfl
theorem k219_149 : cod 219 149 = some (36, 1, 0, z0, 150) := by rw [cod, ctab_219]; rfl
theorem ctab_220 : ctab.getD 220 [] = cd220 := rfl
theorem k220_0 : cod 220 0 = some (0, 0, 0, vi (1), 1) := by rw [cod, ctab_220]; rfl
theorem k220_1 : cod 220 1 = some (5, 2, 0, z0, 2) := by rw [cod, ctab_220]; rfl
theorem k220_2 : cod 220 2 = some (0, 0, 0, z0, 3) := by rw [cod, ctab_220]; rfl
theorem k220_3 : cod 220 3 = some (5, 3, 0, z0, 4) := by rw [cod, ctab_220]; rfl
theorem k220_4 : cod 220 4 = some (2, 3, 0, z0, 5) := by rw [cod, ctab_220]; rfl
theorem k220_5 : cod 220 5 = some (4, 0, 0, z0, 6) := by rw [cod, ctab_220]; rfl
theorem k220_6 : cod 220 6 = some (29, 40, 10, z0, 9) := by rw [cod, ctab_220]; rfl
theorem k220_9 : cod 220 9 = some (0, 0, 0, z0, 10) := by rw [cod, ctab_220]; rfl
theorem k220_10 : cod 220 10 = some (31, 1, 0, z0, 11) := by rw [cod, ctab_220]; rfl
theorem k220_11 : cod 220 11 = some (28, 3, 33, z0, 14) := by rw [cod, ctab_220]; rfl
theorem k220_14 : cod 220 14 = some (2, 2, 0, z0, 15) := by rw [cod, ctab_220]; rfl
theorem k220_15 : cod 220 15 = some (4, 0, 0, z0, 16) := by rw [cod, ctab_220]; rfl
theorem k220_16 : cod 220 16 = some (29, 40, 13, z0, 19) := by rw [cod, ctab_220]; rfl
theorem k220_19 : cod 220 19 = some (2, 1, 0, z0, 20) := by rw [cod, ctab_220]; rfl
theorem k220_20 : cod 220 20 = some (31, 1, 0, z0, 21) := by rw [cod, ctab_220]; rfl
theorem k220_21 : cod 220 21 = some (2, 3, 0, z0, 22) := by rw [cod, ctab_220]; rfl
theorem k220_22 : cod 220 22 = some (9, 7, 0, z0, 23) := by rw [cod, ctab_220]; rfl
theorem k220_23 : cod 220 23 = some (0, 0, 0, vi (1), 24) := by rw [cod, ctab_220]; rfl
theorem k220_24 : cod 220 24 = some (9, 3, 0, z0, 25) := by rw [cod, ctab_220]; rfl
theorem k220_25 : cod 220 25 = some (9, 0, 0, z0, 26) := by rw [cod, ctab_220]; rfl
theorem k220_26 : cod 220 26 = some (5, 2, 0, z0, 27) := by rw [cod, ctab_220]; rfl
theorem k220_27 : cod 220 27 = some (8, 3, 0, vi (1), 30) := by rw [cod, ctab_220]; rfl
theorem k220_30 : cod 220 30 = some (26, 4, 0, z0, 33) := by rw [cod, ctab_220]; rfl
theorem k220_33 : cod 220 33 = some (2, 2, 0, z0, 34) := by rw [cod, ctab_220]; rfl
theorem k220_34 : cod 220 34 = some (36, 1, 0, z0, 35) := by rw [cod, ctab_220]; rfl
theorem ctab_221 : ctab.getD 221 [] = cd221 := rfl
theorem k221_0 : cod 221 0 = some (2, 1, 0, z0, 1) := by rw [cod, ctab_221]; rfl
theorem k221_1 : cod 221 1 = some (2, 2, 0, z0, 2) := by rw [cod, ctab_221]; rfl
theorem k221_2 : cod 221 2 = some (28, 0, 19, z0, 5) := by rw [cod, ctab_221]; rfl
theorem k221_5 : cod 221 5 = some (4, 0, 0, z0, 6) := by rw [cod, ctab_221]; rfl
theorem k221_6 : cod 221 6 = some (29, 40, 13, z0, 9) := by rw [cod, ctab_221]; rfl
theorem k221_9 : cod 221 9 = some (2, 1, 0, z0, 10) := by rw [cod, ctab_221]; rfl
theorem k221_10 : cod 221 10 = some (31, 1, 0, z0, 11) := by rw [cod, ctab_221]; rfl
theorem k221_11 : cod 221 11 = some (2, 2, 0, z0, 12) := by rw [cod, ctab_221]; rfl
theorem k221_12 : cod 221 12 = some (9, 7, 0, z0, 13) := by rw [cod, ctab_221]; rfl
theorem k221_13 : cod 221 13 = some (0, 0, 0, vi (1), 14) := by rw [cod, ctab_221]; rfl
theorem k221_14 : cod 221 14 = some (9, 3, 0, z0, 15) := by rw [cod, ctab_221]; rfl
theorem k221_15 : cod 221 15 = some (0, 0, 0, vi (1), 16) := by rw [cod, ctab_221]; rfl
theorem k221_16 : cod 221 16 = some (28, 1, 23, z0, 19) := by rw [cod, ctab_221]; rfl
theorem k221_19 : cod 221 19 = some (0, 0, 0, vi (1), 20) := by rw [cod, ctab_221]; rfl
theorem k221_20 : cod 221 20 = some (26, 24, 0, z0, 23) := by rw [cod, ctab_221]; rfl
theorem k221_23 : cod 221 23 = some (0, 0, 0, z0, 24) := by rw [cod, ctab_221]; rfl
theorem k221_24 : cod 221 24 = some (36, 2, 0, z0, 25) := by rw [cod, ctab_221]; rfl
theorem ctab_222 : ctab.getD 222 [] = cd222 := rfl
theorem k222_0 : cod 222 0 = some (4, 0, 0, z0, 1) := by rw [cod, ctab_222]; rfl
theorem k222_1 : cod 222 1 = some (29, 40, 54, z0, 4) := by rw [cod, ctab_222]; rfl
theorem k222_4 : cod 222 4 = some (0, 0, 0, vi (5), 5) := by rw [cod, ctab_222]; rfl
theorem k222_5 : cod 222 5 = some (2, 1, 0, z0, 6) := by rw [cod, ctab_222]; rfl
theorem k222_6 : cod 222 6 = some (9, 2, 0, z0, 7) := by rw [cod, ctab_222]; rfl
theorem k222_7 : cod 222 7 = some (2, 2, 0, z0, 8) := by rw [cod, ctab_222]; rfl
theorem k222_8 : cod 222 8 = some (9, 0, 0, z0, 9) := by rw [cod, ctab_222]; rfl
theorem k222_9 : cod 222 9 = some (31, 1, 0, z0, 10) := by rw [cod, ctab_222]; rfl
theorem k222_10 : cod 222 10 = some (4, 0, 0, z0, 11) := by rw [cod, ctab_222]; rfl
theorem k222_11 : cod 222 11 = some (2, 1, 0, z0, 12) := by rw [cod, ctab_222]; rfl
theorem k222_12 : cod 222 12 = some (34, 220, 2, vr 40 0, 15) := by rw [cod, ctab_222]; rfl
theorem k222_15 : cod 222 15 = some (4, 0, 0, z0, 16) := by rw [cod, ctab_222]; rfl
theorem k222_16 : cod 222 16 = some (2, 2, 0, z0, 17) := by rw [cod, ctab_222]; rfl
theorem k222_17 : cod 222 17 = some (34, 220, 2, vr 40 0, 20) := by rw [cod, ctab_222]; rfl
theorem k222_20 : cod 222 20 = some (9, 2, 0, z0, 21) := by rw [cod, ctab_222]; rfl
theorem k222_21 : cod 222 21 = some (10, 0, 0, z0, 22) := by rw [cod, ctab_222]; rfl
theorem k222_22 : cod 222 22 = some (5, 3, 0, z0, 23) := by rw [cod, ctab_222]; rfl
theorem k222_23 : cod 222 23 = some (0, 0, 0, z0, 24) := by rw [cod, ctab_222]; rfl
theorem k222_24 : cod 222 24 = some (5, 4, 0, z0, 26) := by rw [cod, ctab_222]; rfl
theorem k222_26 : cod 222 26 = some (2, 4, 0, z0, 28) := by rw [cod, ctab_222]; rfl
theorem k222_28 : cod 222 28 = some (4, 0, 0, z0, 29) := by rw [cod, ctab_222]; rfl
theorem k222_29 : cod 222 29 = some (29, 40, 10, z0, 32) := by rw [cod, ctab_222]; rfl
theorem k222_32 : cod 222 32 = some (0, 0, 0, z0, 33) := by rw [cod, ctab_222]; rfl
theorem k222_33 : cod 222 33 = some (31, 1, 0, z0, 34) := by rw [cod, ctab_222]; rfl
theorem k222_34 : cod 222 34 = some (28, 3, 106, z0, 37) := by rw [cod, ctab_222]; rfl
theorem k222_37 : cod 222 37 = some (0, 0, 0, z0, 38) := by rw [cod, ctab_222]; rfl
theorem k222_38 : cod 222 38 = some (5, 5, 0, z0, 40) := by rw [cod, ctab_222]; rfl
theorem k222_40 : cod 222 40 = some (2, 5, 0, z0, 42) := by rw [cod, ctab_222]; rfl
theorem k222_42 : cod 222 42 = some (4, 0, 0, z0, 43) := by rw [cod, ctab_222]; rfl
theorem k222_43 : cod 222 43 = some (29, 40, 10, z0, 46) := by rw [cod, ctab_222]; rfl
theorem k222_46 : cod 222 46 = some (0, 0, 0, z0, 47) := by rw [cod, ctab_222]; rfl
theorem k222_47 : cod 222 47 = some (31, 1, 0, z0, 48) := by rw [cod, ctab_222]; rfl
theorem k222_48 : cod 222 48 = some (28, 3, 100, z0, 51) := by rw [cod, ctab_222]; rfl
theorem k222_51 : cod 222 51 = some (4, 0, 0, z0, 52) := by rw [cod, ctab_222]; rfl
theorem k222_52 : cod 222 52 = some (29, 40, 54, z0, 55) := by rw [cod, ctab_222]; rfl
theorem k222_55 : cod 222 55 = some (0, 0, 0, vi (25), 57) := by rw [cod, ctab_222]; rfl
theorem k222_57 : cod 222 57 = some (0, 0, 0, vi (5), 58) := by rw [cod, ctab_222]; rfl
theorem k222_58 : cod 222 58 = some (2, 4, 0, z0, 60) := by rw [cod, ctab_222]; rfl
theorem k222_60 : cod 222 60 = some (9, 2, 0, z0, 61) := by rw [cod, ctab_222]; rfl
theorem k222_61 : cod 222 61 = some (9, 0, 0, z0, 62) := by rw [cod, ctab_222]; rfl
theorem k222_62 : cod 222 62 = some (2, 5, 0, z0, 64) := by rw [cod, ctab_222]; rfl
theorem k222_64 : cod 222 64 = some (9, 0, 0, z0, 65) := by rw [cod, ctab_222]; rfl
theorem k222_65 : cod 222 65 = some (24, 0, 0, z0, 66) := by rw [cod, ctab_222]; rfl
theorem k222_66 : cod 222 66 = some (31, 1, 0, z0, 67) := by rw [cod, ctab_222]; rfl
theorem k222_67 : cod 222 67 = some (4, 0, 0, z0, 68) := by rw [cod, ctab_222]; rfl
theorem k222_68 : cod 222 68 = some (2, 1, 0, z0, 69) := by rw [cod, ctab_222]; rfl
theorem k222_69 : cod 222 69 = some (2, 4, 0, z0, 71) := by rw [cod, ctab_222]; rfl
theorem k222_71 : cod 222 71 = some (34, 221, 3, vr 40 0, 74) := by rw [cod, ctab_222]; rfl
theorem k222_74 : cod 222 74 = some (27, 0, 91, z0, 77) := by rw [cod, ctab_222]; rfl
theorem k222_77 : cod 222 77 = some (4, 0, 0, z0, 78) := by rw [cod, ctab_222]; rfl
theorem k222_78 : cod 222 78 = some (2, 2, 0, z0, 79) := by rw [cod, ctab_222]; rfl
theorem k222_79 : cod 222 79 = some (2, 5, 0, z0, 81) := by rw [cod, ctab_222]; rfl
theorem k222_81 : cod 222 81 = some (34, 221, 3, vr 40 0, 84) := by rw [cod, ctab_222]; rfl
theorem k222_84 : cod 222 84 = some (27, 0, 91, z0, 87) := by rw [cod, ctab_222]; rfl
theorem k222_87 : cod 222 87 = some (2, 3, 0, z0, 88) := by rw [cod, ctab_222]; rfl
theorem k222_88 : cod 222 88 = some (26, 92, 0, z0, 91) := by rw [cod, ctab_222]; rfl
theorem k222_91 : cod 222 91 = some (0, 0, 0, z0, 92) := by rw [cod, ctab_222]; rfl
theorem k222_92 : cod 222 92 = some (9, 0, 0, z0, 93) := by rw [cod, ctab_222]; rfl
theorem k222_93 : cod 222 93 = some (32, 1, 0, z0, 94) := by rw [cod, ctab_222]; rfl
theorem k222_94 : cod 222 94 = some (8, 5, 0, vi (1), 97) := by rw [cod, ctab_222]; rfl
theorem k222_97 : cod 222 97 = some (26, 40, 0, z0, 100) := by rw [cod, ctab_222]; rfl
theorem k222_100 : cod 222 100 = some (8, 4, 0, vi (1), 103) := by rw [cod, ctab_222]; rfl
theorem k222_103 : cod 222 103 = some (26, 26, 0, z0, 106) := by rw [cod, ctab_222]; rfl
theorem k222_106 : cod 222 106 = some (35, 0, 0, z0, 107) := by rw [cod, ctab_222]; rfl
theorem ctab_223 : ctab.getD 223 [] = cd223 := rfl
theorem k223_0 : cod 223 0 = some (4, 0, 0, z0, 1) := by rw [cod, ctab_223]; rfl
theorem k223_1 : cod 223 1 = some (0, 0, 0, z0, 2) := by rw [cod, ctab_223]; rfl
theorem k223_2 : cod 223 2 = some (30, 40, 0, z0, 5) := by rw [cod, ctab_223]; rfl
theorem k223_5 : cod 223 5 = some (4, 0, 0, z0, 6) := by rw [cod, ctab_223]; rfl
theorem k223_6 : cod 223 6 = some (2, 1, 0, z0, 7) := by rw [cod, ctab_223]; rfl
theorem k223_7 : cod 223 7 = some (2, 2, 0, z0, 8) := by rw [cod, ctab_223]; rfl
theorem k223_8 : cod 223 8 = some (34, 177, 3, vr 40 0, 11) := by rw [cod, ctab_223]; rfl
theorem k223_11 : cod 223 11 = some (27, 0, 43, z0, 14) := by rw [cod, ctab_223]; rfl
theorem k223_14 : cod 223 14 = some (2, 3, 0, z0, 15) := by rw [cod, ctab_223]; rfl
theorem k223_15 : cod 223 15 = some (0, 0, 0, vi (1), 16) := by rw [cod, ctab_223]; rfl
theorem k223_16 : cod 223 16 = some (0, 0, 0, vi (6), 18) := by rw [cod, ctab_223]; rfl
theorem k223_18 : cod 223 18 = some (34, 130, 3, z0, 21) := by rw [cod, ctab_223]; rfl
theorem k223_21 : cod 223 21 = some (27, 0, 43, z0, 24) := by rw [cod, ctab_223]; rfl
theorem k223_24 : cod 223 24 = some (4, 0, 0, z0, 25) := by rw [cod, ctab_223]; rfl
theorem k223_25 : cod 223 25 = some (29, 40, 43, z0, 28) := by rw [cod, ctab_223]; rfl
theorem k223_28 : cod 223 28 = some (0, 0, 0, vi (2), 29) := by rw [cod, ctab_223]; rfl
theorem k223_29 : cod 223 29 = some (2, 1, 0, z0, 30) := by rw [cod, ctab_223]; rfl
theorem k223_30 : cod 223 30 = some (9, 0, 0, z0, 31) := by rw [cod, ctab_223]; rfl
theorem k223_31 : cod 223 31 = some (31, 1, 0, z0, 32) := by rw [cod, ctab_223]; rfl
theorem k223_32 : cod 223 32 = some (4, 0, 0, z0, 33) := by rw [cod, ctab_223]; rfl
theorem k223_33 : cod 223 33 = some (29, 40, 43, z0, 36) := by rw [cod, ctab_223]; rfl
theorem k223_36 : cod 223 36 = some (0, 0, 0, vi (2), 37) := by rw [cod, ctab_223]; rfl
theorem k223_37 : cod 223 37 = some (2, 2, 0, z0, 38) := by rw [cod, ctab_223]; rfl
theorem k223_38 : cod 223 38 = some (9, 0, 0, z0, 39) := by rw [cod, ctab_223]; rfl
theorem k223_39 : cod 223 39 = some (31, 1, 0, z0, 40) := by rw [cod, ctab_223]; rfl
theorem k223_40 : cod 223 40 = some (28, 1, 45, z0, 43) := by rw [cod, ctab_223]; rfl
theorem k223_43 : cod 223 43 = some (0, 0, 0, vi (-1), 44) := by rw [cod, ctab_223]; rfl
theorem k223_44 : cod 223 44 = some (36, 1, 0, z0, 45) := by rw [cod, ctab_223]; rfl
theorem k223_45 : cod 223 45 = some (0, 0, 0, z0, 46) := by rw [cod, ctab_223]; rfl
theorem k223_46 : cod 223 46 = some (5, 4, 0, z0, 48) := by rw [cod, ctab_223]; rfl
theorem k223_48 : cod 223 48 = some (2, 4, 0, z0, 50) := by rw [cod, ctab_223]; rfl
theorem k223_50 : cod 223 50 = some (0, 0, 0, vi (50), 52) := by rw [cod, ctab_223]; rfl
theorem k223_52 : cod 223 52 = some (28, 3, 69, z0, 55) := by rw [cod, ctab_223]; rfl
theorem k223_55 : cod 223 55 = some (4, 0, 0, z0, 56) := by rw [cod, ctab_223]; rfl
theorem k223_56 : cod 223 56 = some (29, 40, 54, z0, 59) := by rw [cod, ctab_223]; rfl
theorem k223_59 : cod 223 59 = some (2, 4, 0, z0, 61) := by rw [cod, ctab_223]; rfl
theorem k223_61 : cod 223 61 = some (0, 0, 0, z0, 62) := by rw [cod, ctab_223]; rfl
theorem k223_62 : cod 223 62 = some (32, 1, 0, z0, 63) := by rw [cod, ctab_223]; rfl
theorem k223_63 : cod 223 63 = some (8, 4, 0, vi (1), 66) := by rw [cod, ctab_223]; rfl
theorem k223_66 : cod 223 66 = some (26, 48, 0, z0, 69) := by rw [cod, ctab_223]; rfl
theorem k223_69 : cod 223 69 = some (4, 0, 0, z0, 70) := by rw [cod, ctab_223]; rfl
theorem k223_70 : cod 223 70 = some (29, 40, 54, z0, 73) := by rw [cod, ctab_223]; rfl
theorem k223_73 : cod 223 73 = some (0, 0, 0, vi (5), 74) := by rw [cod, ctab_223]; rfl
theorem k223_74 : cod 223 74 = some (4, 0, 0, z0, 75) := by rw [cod, ctab_223]; rfl
theorem k223_75 : cod 223 75 = some (29, 40, 43, z0, 78) := by rw [cod, ctab_223]; rfl
theorem k223_78 : cod 223 78 = some (0, 0, 0, vi (2), 79) := by rw [cod, ctab_223]; rfl
theorem k223_79 : cod 223 79 = some (2, 1, 0, z0, 80) := by rw [cod, ctab_223]; rfl
theorem k223_80 : cod 223 80 = some (9, 0, 0, z0, 81) := by rw [cod, ctab_223]; rfl
theorem k223_81 : cod 223 81 = some (31, 1, 0, z0, 82) := by rw [cod, ctab_223]; rfl
theorem k223_82 : cod 223 82 = some (9, 2, 0, z0, 83) := by rw [cod, ctab_223]; rfl
theorem k223_83 : cod 223 83 = some (4, 0, 0, z0, 84) := by rw [cod, ctab_223]; rfl
theorem k223_84 : cod 223 84 = some (29, 40, 43, z0, 87) := by rw [cod, ctab_223]; rfl
theorem k223_87 : cod 223 87 = some (0, 0, 0, vi (2), 88) := by rw [cod, ctab_223]; rfl
theorem k223_88 : cod 223 88 = some (2, 2, 0, z0, 89) := by rw [cod, ctab_223]; rfl
theorem k223_89 : cod 223 89 = some (9, 0, 0, z0, 90) := by rw [cod, ctab_223]; rfl
theorem k223_90 : cod 223 90 = some (31, 1, 0, z0, 91) := by rw [cod, ctab_223]; rfl
theorem k223_91 : cod 223 91 = some (9, 0, 0, z0, 92) := by rw [cod, ctab_223]; rfl
theorem k223_92 : cod 223 92 = some (0, 0, 0, vi (1000000), 95) := by rw [cod, ctab_223]; rfl
theorem k223_95 : cod 223 95 = some (32, 1, 0, z0, 96) := by rw [cod, ctab_223]; rfl
theorem k223_96 : cod 223 96 = some (0, 0, 0, z0, 97) := by rw [cod, ctab_223]; rfl
theorem k223_97 : cod 223 97 = some (5, 4, 0, z0, 99) := by rw [cod, ctab_223]; rfl
theorem k223_99 : cod 223 99 = some (0, 0, 0, z0, 100) := by rw [cod, ctab_223]; rfl
theorem k223_100 : cod 223 100 = some (5, 5, 0, z0, 102) := by rw [cod, ctab_223]; rfl
theorem k223_102 : cod 223 102 = some (2, 5, 0, z0, 104) := by rw [cod, ctab_223]; rfl
theorem k223_104 : cod 223 104 = some (2, 3, 0, z0, 105) := by rw [cod, ctab_223]; rfl
theorem k223_105 : cod 223 105 = some (28, 3, 243, z0, 108) := by rw [cod, ctab_223]; rfl
theorem k223_108 : cod 223 108 = some (0, 0, 0, z0, 109) := by rw [cod, ctab_223]; rfl
theorem k223_109 : cod 223 109 = some (5, 6, 0, z0, 111) := by rw [cod, ctab_223]; rfl
theorem k223_111 : cod 223 111 = some (2, 6, 0, z0, 113) := by rw [cod, ctab_223]; rfl
theorem k223_113 : cod 223 113 = some (4, 0, 0, z0, 114) := by rw [cod, ctab_223]; rfl
theorem k223_114 : cod 223 114 = some (29, 40, 10, z0, 117) := by rw [cod, ctab_223]; rfl
theorem k223_117 : cod 223 117 = some (0, 0, 0, z0, 118) := by rw [cod, ctab_223]; rfl
theorem k223_118 : cod 223 118 = some (31, 1, 0, z0, 119) := by rw [cod, ctab_223]; rfl
theorem k223_119 : cod 223 119 = some (28, 3, 163, z0, 122) := by rw [cod, ctab_223]; rfl
theorem k223_122 : cod 223 122 = some (0, 0, 0, z0, 123) := by rw [cod, ctab_223]; rfl
theorem k223_123 : cod 223 123 = some (5, 7, 0, z0, 125) := by rw [cod, ctab_223]; rfl
theorem k223_125 : cod 223 125 = some (2, 7, 0, z0, 127) := by rw [cod, ctab_223]; rfl
theorem k223_127 : cod 223 127 = some (4, 0, 0, z0, 128) := by rw [cod, ctab_223]; rfl
theorem k223_128 : cod 223 128 = some (29, 40, 10, z0, 131) := by rw [cod, ctab_223]; rfl
theorem k223_131 : cod 223 131 = some (0, 0, 0, z0, 132) := by rw [cod, ctab_223]; rfl
theorem k223_132 : cod 223 132 = some (31, 1, 0, z0, 133) := by rw [cod, ctab_223]; rfl
theorem k223_133 : cod 223 133 = some (28, 3, 157, z0, 136) := by rw [cod, ctab_223]; rfl
theorem k223_136 : cod 223 136 = some (2, 6, 0, z0, 138) := by rw [cod, ctab_223]; rfl
theorem k223_138 : cod 223 138 = some (2, 7, 0, z0, 140) := by rw [cod, ctab_223]; rfl
theorem k223_140 : cod 223 140 = some (28, 0, 151, z0, 143) := by rw [cod, ctab_223]; rfl
theorem k223_143 : cod 223 143 = some (4, 0, 0, z0, 144) := by rw [cod, ctab_223]; rfl
theorem k223_144 : cod 223 144 = some (2, 6, 0, z0, 146) := by rw [cod, ctab_223]; rfl
theorem k223_146 : cod 223 146 = some (2, 7, 0, z0, 148) := by rw [cod, ctab_223]; rfl
theorem k223_148 : cod 223 148 = some (34, 222, 3, vr 40 0, 151) := by rw [cod, ctab_223]; rfl
theorem k223_151 : cod 223 151 = some (8, 7, 0, vi (1), 154) := by rw [cod, ctab_223]; rfl
theorem k223_154 : cod 223 154 = some (26, 125, 0, z0, 157) := by rw [cod, ctab_223]; rfl
theorem k223_157 : cod 223 157 = some (8, 6, 0, vi (1), 160) := by rw [cod, ctab_223]; rfl
theorem k223_160 : cod 223 160 = some (26, 111, 0, z0, 163) := by rw [cod, ctab_223]; rfl
theorem k223_163 : cod 223 163 = some (0, 0, 0, z0, 164) := by rw [cod, ctab_223]; rfl
theorem k223_164 : cod 223 164 = some (5, 6, 0, z0, 166) := by rw [cod, ctab_223]; rfl
theorem k223_166 : cod 223 166 = some (2, 6, 0, z0, 168) := by rw [cod, ctab_223]; rfl
theorem k223_168 : cod 223 168 = some (0, 0, 0, vi (25), 170) := by rw [cod, ctab_223]; rfl
theorem k223_170 : cod 223 170 = some (28, 3, 237, z0, 173) := by rw [cod, ctab_223]; rfl
theorem k223_173 : cod 223 173 = some (2, 4, 0, z0, 175) := by rw [cod, ctab_223]; rfl
theorem k223_175 : cod 223 175 = some (2, 6, 0, z0, 177) := by rw [cod, ctab_223]; rfl
theorem k223_177 : cod 223 177 = some (0, 0, 0, vi (5), 178) := by rw [cod, ctab_223]; rfl
theorem k223_178 : cod 223 178 = some (10, 0, 0, z0, 179) := by rw [cod, ctab_223]; rfl
theorem k223_179 : cod 223 179 = some (2, 6, 0, z0, 181) := by rw [cod, ctab_223]; rfl
theorem k223_181 : cod 223 181 = some (0, 0, 0, vi (5), 182) := by rw [cod, ctab_223]; rfl
theorem k223_182 : cod 223 182 = some (11, 0, 0, z0, 183) := by rw [cod, ctab_223]; rfl
theorem k223_183 : cod 223 183 = some (28, 1, 199, z0, 186) := by rw [cod, ctab_223]; rfl
theorem k223_186 : cod 223 186 = some (4, 0, 0, z0, 187) := by rw [cod, ctab_223]; rfl
theorem k223_187 : cod 223 187 = some (29, 40, 54, z0, 190) := by rw [cod, ctab_223]; rfl
theorem k223_190 : cod 223 190 = some (0, 0, 0, vi (25), 192) := by rw [cod, ctab_223]; rfl
theorem k223_192 : cod 223 192 = some (2, 6, 0, z0, 194) := by rw [cod, ctab_223]; rfl
theorem k223_194 : cod 223 194 = some (9, 0, 0, z0, 195) := by rw [cod, ctab_223]; rfl
theorem k223_195 : cod 223 195 = some (31, 1, 0, z0, 196) := by rw [cod, ctab_223]; rfl
theorem k223_196 : cod 223 196 = some (26, 200, 0, z0, 199) := by rw [cod, ctab_223]; rfl
theorem k223_199 : cod 223 199 = some (0, 0, 0, z0, 200) := by rw [cod, ctab_223]; rfl
theorem k223_200 : cod 223 200 = some (9, 0, 0, z0, 201) := by rw [cod, ctab_223]; rfl
theorem k223_201 : cod 223 201 = some (5, 4, 0, z0, 203) := by rw [cod, ctab_223]; rfl
theorem k223_203 : cod 223 203 = some (4, 0, 0, z0, 204) := by rw [cod, ctab_223]; rfl
theorem k223_204 : cod 223 204 = some (29, 40, 54, z0, 207) := by rw [cod, ctab_223]; rfl
theorem k223_207 : cod 223 207 = some (2, 6, 0, z0, 209) := by rw [cod, ctab_223]; rfl
theorem k223_209 : cod 223 209 = some (4, 0, 0, z0, 210) := by rw [cod, ctab_223]; rfl
theorem k223_210 : cod 223 210 = some (29, 40, 54, z0, 213) := by rw [cod, ctab_223]; rfl
theorem k223_213 : cod 223 213 = some (0, 0, 0, vi (25), 215) := by rw [cod, ctab_223]; rfl
theorem k223_215 : cod 223 215 = some (2, 6, 0, z0, 217) := by rw [cod, ctab_223]; rfl
theorem k223_217 : cod 223 217 = some (9, 0, 0, z0, 218) := by rw [cod, ctab_223]; rfl
theorem k223_218 : cod 223 218 = some (31, 1, 0, z0, 219) := by rw [cod, ctab_223]; rfl
theorem k223_219 : cod 223 219 = some (32, 1, 0, z0, 220) := by rw [cod, ctab_223]; rfl
theorem k223_220 : cod 223 220 = some (4, 0, 0, z0, 221) := by rw [cod, ctab_223]; rfl
theorem k223_221 : cod 223 221 = some (29, 40, 54, z0, 224) := by rw [cod, ctab_223]; rfl
theorem k223_224 : cod 223 224 = some (0, 0, 0, vi (25), 226) := by rw [cod, ctab_223]; rfl
theorem k223_226 : cod 223 226 = some (2, 6, 0, z0, 228) := by rw [cod, ctab_223]; rfl
theorem k223_228 : cod 223 228 = some (9, 0, 0, z0, 229) := by rw [cod, ctab_223]; rfl
theorem k223_229 : cod 223 229 = some (0, 0, 0, z0, 230) := by rw [cod, ctab_223]; rfl
theorem k223_230 : cod 223 230 = some (32, 1, 0, z0, 231) := by rw [cod, ctab_223]; rfl
theorem k223_231 : cod 223 231 = some (8, 6, 0, vi (1), 234) := by rw [cod, ctab_223]; rfl
theorem k223_234 : cod 223 234 = some (26, 166, 0, z0, 237) := by rw [cod, ctab_223]; rfl
theorem k223_237 : cod 223 237 = some (8, 5, 0, vi (1), 240) := by rw [cod, ctab_223]; rfl
theorem k223_240 : cod 223 240 = some (26, 102, 0, z0, 243) := by rw [cod, ctab_223]; rfl
theorem k223_243 : cod 223 243 = some (2, 4, 0, z0, 245) := by rw [cod, ctab_223]; rfl
theorem k223_245 : cod 223 245 = some (36, 1, 0, z0, 246) := by rw [cod, ctab_223]; rfl
theorem ctab_224 : ctab.getD 224 [] = cd224 := rfl
theorem k224_0 : cod 224 0 = some (4, 0, 0, z0, 1) := by rw [cod, ctab_224]; rfl
theorem k224_1 : cod 224 1 = some (0, 0, 0, z0, 2) := by rw [cod, ctab_224]; rfl
theorem k224_2 : cod 224 2 = some (30, 40, 0, z0, 5) := by rw [cod, ctab_224]; rfl
theorem k224_5 : cod 224 5 = some (0, 0, 0, z0, 6) := by rw [cod, ctab_224]; rfl
theorem k224_6 : cod 224 6 = some (5, 1, 0, z0, 7) := by rw [cod, ctab_224]; rfl
theorem k224_7 : cod 224 7 = some (0, 0, 0, z0, 8) := by rw [cod, ctab_224]; rfl
theorem k224_8 : cod 224 8 = some (5, 2, 0, z0, 9) := by rw [cod, ctab_224]; rfl
theorem k224_9 : cod 224 9 = some (2, 2, 0, z0, 10) := by rw [cod, ctab_224]; rfl
theorem k224_10 : cod 224 10 = some (4, 0, 0, z0, 11) := by rw [cod, ctab_224]; rfl
theorem k224_11 : cod 224 11 = some (29, 40, 10, z0, 14) := by rw [cod, ctab_224]; rfl
theorem k224_14 : cod 224 14 = some (0, 0, 0, vi (1), 15) := by rw [cod, ctab_224]; rfl
theorem k224_15 : cod 224 15 = some (31, 1, 0, z0, 16) := by rw [cod, ctab_224]; rfl
theorem k224_16 : cod 224 16 = some (28, 3, 89, z0, 19) := by rw [cod, ctab_224]; rfl
theorem k224_19 : cod 224 19 = some (2, 2, 0, z0, 20) := by rw [cod, ctab_224]; rfl
theorem k224_20 : cod 224 20 = some (0, 0, 0, vi (1), 21) := by rw [cod, ctab_224]; rfl
theorem k224_21 : cod 224 21 = some (9, 0, 0, z0, 22) := by rw [cod, ctab_224]; rfl
theorem k224_22 : cod 224 22 = some (5, 3, 0, z0, 23) := by rw [cod, ctab_224]; rfl
theorem k224_23 : cod 224 23 = some (2, 3, 0, z0, 24) := by rw [cod, ctab_224]; rfl
theorem k224_24 : cod 224 24 = some (4, 0, 0, z0, 25) := by rw [cod, ctab_224]; rfl
theorem k224_25 : cod 224 25 = some (29, 40, 10, z0, 28) := by rw [cod, ctab_224]; rfl
theorem k224_28 : cod 224 28 = some (0, 0, 0, vi (1), 29) := by rw [cod, ctab_224]; rfl
theorem k224_29 : cod 224 29 = some (31, 1, 0, z0, 30) := by rw [cod, ctab_224]; rfl
theorem k224_30 : cod 224 30 = some (28, 3, 83, z0, 33) := by rw [cod, ctab_224]; rfl
theorem k224_33 : cod 224 33 = some (2, 1, 0, z0, 34) := by rw [cod, ctab_224]; rfl
theorem k224_34 : cod 224 34 = some (4, 0, 0, z0, 35) := by rw [cod, ctab_224]; rfl
theorem k224_35 : cod 224 35 = some (29, 40, 43, z0, 38) := by rw [cod, ctab_224]; rfl
theorem k224_38 : cod 224 38 = some (0, 0, 0, vi (14), 40) := by rw [cod, ctab_224]; rfl
theorem k224_40 : cod 224 40 = some (0, 0, 0, vi (6), 42) := by rw [cod, ctab_224]; rfl
theorem k224_42 : cod 224 42 = some (2, 2, 0, z0, 43) := by rw [cod, ctab_224]; rfl
theorem k224_43 : cod 224 43 = some (9, 2, 0, z0, 44) := by rw [cod, ctab_224]; rfl
theorem k224_44 : cod 224 44 = some (9, 0, 0, z0, 45) := by rw [cod, ctab_224]; rfl
theorem k224_45 : cod 224 45 = some (2, 3, 0, z0, 46) := by rw [cod, ctab_224]; rfl
theorem k224_46 : cod 224 46 = some (9, 0, 0, z0, 47) := by rw [cod, ctab_224]; rfl
theorem k224_47 : cod 224 47 = some (31, 1, 0, z0, 48) := by rw [cod, ctab_224]; rfl
theorem k224_48 : cod 224 48 = some (0, 0, 0, vi (1), 49) := by rw [cod, ctab_224]; rfl
theorem k224_49 : cod 224 49 = some (28, 5, 74, z0, 52) := by rw [cod, ctab_224]; rfl
theorem k224_52 : cod 224 52 = some (4, 0, 0, z0, 53) := by rw [cod, ctab_224]; rfl
theorem k224_53 : cod 224 53 = some (29, 40, 43, z0, 56) := by rw [cod, ctab_224]; rfl
theorem k224_56 : cod 224 56 = some (0, 0, 0, vi (14), 58) := by rw [cod, ctab_224]; rfl
theorem k224_58 : cod 224 58 = some (0, 0, 0, vi (6), 60) := by rw [cod, ctab_224]; rfl
theorem k224_60 : cod 224 60 = some (2, 3, 0, z0, 61) := by rw [cod, ctab_224]; rfl
theorem k224_61 : cod 224 61 = some (9, 2, 0, z0, 62) := by rw [cod, ctab_224]; rfl
theorem k224_62 : cod 224 62 = some (9, 0, 0, z0, 63) := by rw [cod, ctab_224]; rfl
theorem k224_63 : cod 224 63 = some (2, 2, 0, z0, 64) := by rw [cod, ctab_224]; rfl
theorem k224_64 : cod 224 64 = some (9, 0, 0, z0, 65) := by rw [cod, ctab_224]; rfl
theorem k224_65 : cod 224 65 = some (31, 1, 0, z0, 66) := by rw [cod, ctab_224]; rfl
theorem k224_66 : cod 224 66 = some (0, 0, 0, vi (1), 67) := by rw [cod, ctab_224]; rfl
theorem k224_67 : cod 224 67 = some (28, 5, 74, z0, 70) := by rw [cod, ctab_224]; rfl
theorem k224_70 : cod 224 70 = some (0, 0, 0, vi (1), 71) := by rw [cod, ctab_224]; rfl
theorem k224_71 : cod 224 71 = some (26, 75, 0, z0, 74) := by rw [cod, ctab_224]; rfl
theorem k224_74 : cod 224 74 = some (0, 0, 0, z0, 75) := by rw [cod, ctab_224]; rfl
theorem k224_75 : cod 224 75 = some (9, 0, 0, z0, 76) := by rw [cod, ctab_224]; rfl
theorem k224_76 : cod 224 76 = some (5, 1, 0, z0, 77) := by rw [cod, ctab_224]; rfl
theorem k224_77 : cod 224 77 = some (8, 3, 0, vi (1), 80) := by rw [cod, ctab_224]; rfl
theorem k224_80 : cod 224 80 = some (26, 23, 0, z0, 83) := by rw [cod, ctab_224]; rfl
theorem k224_83 : cod 224 83 = some (8, 2, 0, vi (1), 86) := by rw [cod, ctab_224]; rfl
theorem k224_86 : cod 224 86 = some (26, 9, 0, z0, 89) := by rw [cod, ctab_224]; rfl
theorem k224_89 : cod 224 89 = some (2, 1, 0, z0, 90) := by rw [cod, ctab_224]; rfl
theorem k224_90 : cod 224 90 = some (36, 1, 0, z0, 91) := by rw [cod, ctab_224]; rfl
theorem ctab_225 : ctab.getD 225 [] = cd225 := rfl
theorem k225_0 : cod 225 0 = some (2, 1, 0, z0, 1) := by rw [cod, ctab_225]; rfl
theorem k225_1 : cod 225 1 = some (5, 4, 0, z0, 3) := by rw [cod, ctab_225]; rfl
theorem k225_3 : cod 225 3 = some (2, 4, 0, z0, 5) := by rw [cod, ctab_225]; rfl
theorem k225_5 : cod 225 5 = some (4, 0, 0, z0, 6) := by rw [cod, ctab_225]; rfl
theorem k225_6 : cod 225 6 = some (29, 40, 10, z0, 9) := by rw [cod, ctab_225]; rfl
theorem k225_9 : cod 225 9 = some (0, 0, 0, vi (1), 10) := by rw [cod, ctab_225]; rfl
theorem k225_10 : cod 225 10 = some (31, 1, 0, z0, 11) := by rw [cod, ctab_225]; rfl
theorem k225_11 : cod 225 11 = some (28, 3, 30, z0, 14) := by rw [cod, ctab_225]; rfl
theorem k225_14 : cod 225 14 = some (2, 2, 0, z0, 15) := by rw [cod, ctab_225]; rfl
theorem k225_15 : cod 225 15 = some (2, 4, 0, z0, 17) := by rw [cod, ctab_225]; rfl
theorem k225_17 : cod 225 17 = some (9, 7, 0, z0, 18) := by rw [cod, ctab_225]; rfl
theorem k225_18 : cod 225 18 = some (0, 0, 0, vi (1), 19) := by rw [cod, ctab_225]; rfl
theorem k225_19 : cod 225 19 = some (9, 3, 0, z0, 20) := by rw [cod, ctab_225]; rfl
theorem k225_20 : cod 225 20 = some (0, 0, 0, vi (1), 21) := by rw [cod, ctab_225]; rfl
theorem k225_21 : cod 225 21 = some (28, 1, 30, z0, 24) := by rw [cod, ctab_225]; rfl
theorem k225_24 : cod 225 24 = some (8, 4, 0, vi (1), 27) := by rw [cod, ctab_225]; rfl
theorem k225_27 : cod 225 27 = some (26, 3, 0, z0, 30) := by rw [cod, ctab_225]; rfl
theorem k225_30 : cod 225 30 = some (2, 4, 0, z0, 32) := by rw [cod, ctab_225]; rfl
theorem k225_32 : cod 225 32 = some (4, 0, 0, z0, 33) := by rw [cod, ctab_225]; rfl
theorem k225_33 : cod 225 33 = some (29, 40, 10, z0, 36) := by rw [cod, ctab_225]; rfl
theorem k225_36 : cod 225 36 = some (0, 0, 0, vi (1), 37) := by rw [cod, ctab_225]; rfl
theorem k225_37 : cod 225 37 = some (31, 1, 0, z0, 38) := by rw [cod, ctab_225]; rfl
theorem k225_38 : cod 225 38 = some (28, 1, 100, z0, 41) := by rw [cod, ctab_225]; rfl
theorem k225_41 : cod 225 41 = some (2, 3, 0, z0, 42) := by rw [cod, ctab_225]; rfl
theorem k225_42 : cod 225 42 = some (4, 0, 0, z0, 43) := by rw [cod, ctab_225]; rfl
theorem k225_43 : cod 225 43 = some (29, 40, 57, z0, 46) := by rw [cod, ctab_225]; rfl
theorem k225_46 : cod 225 46 = some (28, 4, 64, z0, 49) := by rw [cod, ctab_225]; rfl
theorem k225_49 : cod 225 49 = some (2, 3, 0, z0, 50) := by rw [cod, ctab_225]; rfl
theorem k225_50 : cod 225 50 = some (4, 0, 0, z0, 51) := by rw [cod, ctab_225]; rfl
theorem k225_51 : cod 225 51 = some (29, 40, 57, z0, 54) := by rw [cod, ctab_225]; rfl
theorem k225_54 : cod 225 54 = some (28, 1, 99, z0, 57) := by rw [cod, ctab_225]; rfl
theorem k225_57 : cod 225 57 = some (4, 0, 0, z0, 58) := by rw [cod, ctab_225]; rfl
theorem k225_58 : cod 225 58 = some (34, 226, 1, vr 40 0, 61) := by rw [cod, ctab_225]; rfl
theorem k225_61 : cod 225 61 = some (27, 0, 99, z0, 64) := by rw [cod, ctab_225]; rfl
theorem k225_64 : cod 225 64 = some (4, 0, 0, z0, 65) := by rw [cod, ctab_225]; rfl
theorem k225_65 : cod 225 65 = some (2, 3, 0, z0, 66) := by rw [cod, ctab_225]; rfl
theorem k225_66 : cod 225 66 = some (30, 40, 57, z0, 69) := by rw [cod, ctab_225]; rfl
theorem k225_69 : cod 225 69 = some (0, 0, 0, z0, 70) := by rw [cod, ctab_225]; rfl
theorem k225_70 : cod 225 70 = some (5, 5, 0, z0, 72) := by rw [cod, ctab_225]; rfl
theorem k225_72 : cod 225 72 = some (2, 5, 0, z0, 74) := by rw [cod, ctab_225]; rfl
theorem k225_74 : cod 225 74 = some (0, 0, 0, vi (6), 76) := by rw [cod, ctab_225]; rfl
theorem k225_76 : cod 225 76 = some (28, 3, 99, z0, 79) := by rw [cod, ctab_225]; rfl
theorem k225_79 : cod 225 79 = some (4, 0, 0, z0, 80) := by rw [cod, ctab_225]; rfl
theorem k225_80 : cod 225 80 = some (29, 40, 56, z0, 83) := by rw [cod, ctab_225]; rfl
theorem k225_83 : cod 225 83 = some (2, 5, 0, z0, 85) := by rw [cod, ctab_225]; rfl
theorem k225_85 : cod 225 85 = some (4, 0, 0, z0, 86) := by rw [cod, ctab_225]; rfl
theorem k225_86 : cod 225 86 = some (29, 40, 55, z0, 89) := by rw [cod, ctab_225]; rfl
theorem k225_89 : cod 225 89 = some (2, 5, 0, z0, 91) := by rw [cod, ctab_225]; rfl
theorem k225_91 : cod 225 91 = some (31, 1, 0, z0, 92) := by rw [cod, ctab_225]; rfl
theorem k225_92 : cod 225 92 = some (32, 1, 0, z0, 93) := by rw [cod, ctab_225]; rfl
theorem k225_93 : cod 225 93 = some (8, 5, 0, vi (1), 96) := by rw [cod, ctab_225]; rfl
theorem k225_96 : cod 225 96 = some (26, 72, 0, z0, 99) := by rw [cod, ctab_225]; rfl
theorem k225_99 : cod 225 99 = some (35, 0, 0, z0, 100) := by rw [cod, ctab_225]; rfl
theorem k225_100 : cod 225 100 = some (4, 0, 0, z0, 101) := by rw [cod, ctab_225]; rfl
theorem k225_101 : cod 225 101 = some (29, 40, 55, z0, 104) := by rw [cod, ctab_225]; rfl
theorem k225_104 : cod 225 104 = some (2, 4, 0, z0, 106) := by rw [cod, ctab_225]; rfl
theorem k225_106 : cod 225 106 = some (2, 4, 0, z0, 108) := by rw [cod, ctab_225]; rfl
theorem k225_108 : cod 225 108 = some (32, 1, 0, z0, 109) := by rw [cod, ctab_225]; rfl
theorem k225_109 : cod 225 109 = some (4, 0, 0, z0, 110) := by rw [cod, ctab_225]; rfl
theorem k225_110 : cod 225 110 = some (2, 4, 0, z0, 112) := by rw [cod, ctab_225]; rfl
theorem k225_112 : cod 225 112 = some (0, 0, 0, vi (1), 113) := by rw [cod, ctab_225]; rfl
theorem k225_113 : cod 225 113 = some (9, 0, 0, z0, 114) := by rw [cod, ctab_225]; rfl
theorem k225_114 : cod 225 114 = some (2, 2, 0, z0, 115) := by rw [cod, ctab_225]; rfl
theorem k225_115 : cod 225 115 = some (0, 0, 0, vi (1), 116) := by rw [cod, ctab_225]; rfl
theorem k225_116 : cod 225 116 = some (2, 4, 0, z0, 118) := by rw [cod, ctab_225]; rfl
theorem k225_118 : cod 225 118 = some (9, 6, 0, z0, 119) := by rw [cod, ctab_225]; rfl
theorem k225_119 : cod 225 119 = some (9, 4, 0, z0, 120) := by rw [cod, ctab_225]; rfl
theorem k225_120 : cod 225 120 = some (2, 3, 0, z0, 121) := by rw [cod, ctab_225]; rfl
theorem k225_121 : cod 225 121 = some (34, 225, 4, vr 40 0, 124) := by rw [cod, ctab_225]; rfl
theorem k225_124 : cod 225 124 = some (2, 4, 0, z0, 126) := by rw [cod, ctab_225]; rfl
theorem k225_126 : cod 225 126 = some (0, 0, 0, vi (1), 127) := by rw [cod, ctab_225]; rfl
theorem k225_127 : cod 225 127 = some (9, 0, 0, z0, 128) := by rw [cod, ctab_225]; rfl
theorem k225_128 : cod 225 128 = some (5, 5, 0, z0, 130) := by rw [cod, ctab_225]; rfl
theorem k225_130 : cod 225 130 = some (2, 5, 0, z0, 132) := by rw [cod, ctab_225]; rfl
theorem k225_132 : cod 225 132 = some (4, 0, 0, z0, 133) := by rw [cod, ctab_225]; rfl
theorem k225_133 : cod 225 133 = some (29, 40, 10, z0, 136) := by rw [cod, ctab_225]; rfl
theorem k225_136 : cod 225 136 = some (0, 0, 0, vi (1), 137) := by rw [cod, ctab_225]; rfl
theorem k225_137 : cod 225 137 = some (31, 1, 0, z0, 138) := by rw [cod, ctab_225]; rfl
theorem k225_138 : cod 225 138 = some (28, 3, 232, z0, 141) := by rw [cod, ctab_225]; rfl
theorem k225_141 : cod 225 141 = some (2, 2, 0, z0, 142) := by rw [cod, ctab_225]; rfl
theorem k225_142 : cod 225 142 = some (2, 5, 0, z0, 144) := by rw [cod, ctab_225]; rfl
theorem k225_144 : cod 225 144 = some (9, 7, 0, z0, 145) := by rw [cod, ctab_225]; rfl
theorem k225_145 : cod 225 145 = some (0, 0, 0, vi (1), 146) := by rw [cod, ctab_225]; rfl
theorem k225_146 : cod 225 146 = some (9, 3, 0, z0, 147) := by rw [cod, ctab_225]; rfl
theorem k225_147 : cod 225 147 = some (0, 0, 0, vi (1), 148) := by rw [cod, ctab_225]; rfl
theorem k225_148 : cod 225 148 = some (28, 0, 226, z0, 151) := by rw [cod, ctab_225]; rfl
theorem k225_151 : cod 225 151 = some (4, 0, 0, z0, 152) := by rw [cod, ctab_225]; rfl
theorem k225_152 : cod 225 152 = some (29, 40, 43, z0, 155) := by rw [cod, ctab_225]; rfl
theorem k225_155 : cod 225 155 = some (0, 0, 0, vi (2), 156) := by rw [cod, ctab_225]; rfl
theorem k225_156 : cod 225 156 = some (2, 4, 0, z0, 158) := by rw [cod, ctab_225]; rfl
theorem k225_158 : cod 225 158 = some (9, 0, 0, z0, 159) := by rw [cod, ctab_225]; rfl
theorem k225_159 : cod 225 159 = some (31, 1, 0, z0, 160) := by rw [cod, ctab_225]; rfl
theorem k225_160 : cod 225 160 = some (4, 0, 0, z0, 161) := by rw [cod, ctab_225]; rfl
theorem k225_161 : cod 225 161 = some (29, 40, 43, z0, 164) := by rw [cod, ctab_225]; rfl
theorem k225_164 : cod 225 164 = some (0, 0, 0, vi (2), 165) := by rw [cod, ctab_225]; rfl
theorem k225_165 : cod 225 165 = some (2, 5, 0, z0, 167) := by rw [cod, ctab_225]; rfl
theorem k225_167 : cod 225 167 = some (9, 0, 0, z0, 168) := by rw [cod, ctab_225]; rfl
theorem k225_168 : cod 225 168 = some (31, 1, 0, z0, 169) := by rw [cod, ctab_225]; rfl
theorem k225_169 : cod 225 169 = some (28, 1, 226, z0, 172) := by rw [cod, ctab_225]; rfl
theorem k225_172 : cod 225 172 = some (4, 0, 0, z0, 173) := by rw [cod, ctab_225]; rfl
theorem k225_173 : cod 225 173 = some (2, 4, 0, z0, 175) := by rw [cod, ctab_225]; rfl
theorem k225_175 : cod 225 175 = some (2, 5, 0, z0, 177) := by rw [cod, ctab_225]; rfl
theorem k225_177 : cod 225 177 = some (34, 179, 3, vr 40 0, 180) := by rw [cod, ctab_225]; rfl
theorem k225_180 : cod 225 180 = some (27, 1, 186, z0, 183) := by rw [cod, ctab_225]; rfl
theorem k225_183 : cod 225 183 = some (26, 226, 0, z0, 186) := by rw [cod, ctab_225]; rfl
theorem k225_186 : cod 225 186 = some (4, 0, 0, z0, 187) := by rw [cod, ctab_225]; rfl
theorem k225_187 : cod 225 187 = some (29, 40, 55, z0, 190) := by rw [cod, ctab_225]; rfl
theorem k225_190 : cod 225 190 = some (2, 4, 0, z0, 192) := by rw [cod, ctab_225]; rfl
theorem k225_192 : cod 225 192 = some (2, 5, 0, z0, 194) := by rw [cod, ctab_225]; rfl
theorem k225_194 : cod 225 194 = some (32, 1, 0, z0, 195) := by rw [cod, ctab_225]; rfl
theorem k225_195 : cod 225 195 = some (4, 0, 0, z0, 196) := by rw [cod, ctab_225]; rfl
theorem k225_196 : cod 225 196 = some (29, 40, 55, z0, 199) := by rw [cod, ctab_225]; rfl
theorem k225_199 : cod 225 199 = some (2, 5, 0, z0, 201) := by rw [cod, ctab_225]; rfl
theorem k225_201 : cod 225 201 = some (2, 4, 0, z0, 203) := by rw [cod, ctab_225]; rfl
theorem k225_203 : cod 225 203 = some (32, 1, 0, z0, 204) := by rw [cod, ctab_225]; rfl
theorem k225_204 : cod 225 204 = some (4, 0, 0, z0, 205) := by rw [cod, ctab_225]; rfl
theorem k225_205 : cod 225 205 = some (2, 4, 0, z0, 207) := by rw [cod, ctab_225]; rfl
theorem k225_207 : cod 225 207 = some (0, 0, 0, vi (1), 208) := by rw [cod, ctab_225]; rfl
theorem k225_208 : cod 225 208 = some (9, 0, 0, z0, 209) := by rw [cod, ctab_225]; rfl
theorem k225_209 : cod 225 209 = some (2, 2, 0, z0, 210) := by rw [cod, ctab_225]; rfl
theorem k225_210 : cod 225 210 = some (0, 0, 0, vi (1), 211) := by rw [cod, ctab_225]; rfl
theorem k225_211 : cod 225 211 = some (2, 4, 0, z0, 213) := by rw [cod, ctab_225]; rfl
theorem k225_213 : cod 225 213 = some (9, 6, 0, z0, 214) := by rw [cod, ctab_225]; rfl
theorem k225_214 : cod 225 214 = some (9, 4, 0, z0, 215) := by rw [cod, ctab_225]; rfl
theorem k225_215 : cod 225 215 = some (0, 0, 0, vi (1), 216) := by rw [cod, ctab_225]; rfl
theorem k225_216 : cod 225 216 = some (2, 5, 0, z0, 218) := by rw [cod, ctab_225]; rfl
theorem k225_218 : cod 225 218 = some (9, 6, 0, z0, 219) := by rw [cod, ctab_225]; rfl
theorem k225_219 : cod 225 219 = some (9, 4, 0, z0, 220) := by rw [cod, ctab_225]; rfl
theorem k225_220 : cod 225 220 = some (2, 3, 0, z0, 221) := by rw [cod, ctab_225]; rfl
theorem k225_221 : cod 225 221 = some (0, 0, 0, vi (1), 222) := by rw [cod, ctab_225]; rfl
theorem k225_222 : cod 225 222 = some (9, 0, 0, z0, 223) := by rw [cod, ctab_225]; rfl
theorem k225_223 : cod 225 223 = some (34, 225, 4, vr 40 0, 226) := by rw [cod, ctab_225]; rfl
theorem k225_226 : cod 225 226 = some (8, 5, 0, vi (1), 229) := by rw [cod, ctab_225]; rfl
theorem k225_229 : cod 225 229 = some (26, 130, 0, z0, 232) := by rw [cod, ctab_225]; rfl
theorem k225_232 : cod 225 232 = some (35, 0, 0, z0, 233) := by rw [cod, ctab_225]; rfl
theorem ctab_226 : ctab.getD 226 [] = cd226 := rfl
theorem k226_0 : cod 226 0 = some (0, 0, 0, z0, 1) := by rw [cod, ctab_226]; rfl
theorem k226_1 : cod 226 1 = some (5, 1, 0, z0, 2) := by rw [cod, ctab_226]; rfl
theorem k226_2 : cod 226 2 = some (2, 1, 0, z0, 3) := by rw [cod, ctab_226]; rfl
theorem k226_3 : cod 226 3 = some (4, 0, 0, z0, 4) := by rw [cod, ctab_226]; rfl
theorem k226_4 : cod 226 4 = some (29, 40, 10, z0, 7) := by rw [cod, ctab_226]; rfl
theorem k226_7 : cod 226 7 = some (0, 0, 0, vi (1), 8) := by rw [cod, ctab_226]; rfl
theorem k226_8 : cod 226 8 = some (31, 1, 0, z0, 9) := by rw [cod, ctab_226]; rfl
theorem k226_9 : cod 226 9 = some (28, 3, 54, z0, 12) := by rw [cod, ctab_226]; rfl
theorem k226_12 : cod 226 12 = some (4, 0, 0, z0, 13) := by rw [cod, ctab_226]; rfl
theorem k226_13 : cod 226 13 = some (29, 40, 55, z0, 16) := by rw [cod, ctab_226]; rfl
theorem k226_16 : cod 226 16 = some (2, 1, 0, z0, 17) := by rw [cod, ctab_226]; rfl
theorem k226_17 : cod 226 17 = some (31, 1, 0, z0, 18) := by rw [cod, ctab_226]; rfl
theorem k226_18 : cod 226 18 = some (4, 0, 0, z0, 19) := by rw [cod, ctab_226]; rfl
theorem k226_19 : cod 226 19 = some (29, 40, 56, z0, 22) := by rw [cod, ctab_226]; rfl
theorem k226_22 : cod 226 22 = some (2, 1, 0, z0, 23) := by rw [cod, ctab_226]; rfl
theorem k226_23 : cod 226 23 = some (31, 1, 0, z0, 24) := by rw [cod, ctab_226]; rfl
theorem k226_24 : cod 226 24 = some (28, 0, 48, z0, 27) := by rw [cod, ctab_226]; rfl
theorem k226_27 : cod 226 27 = some (4, 0, 0, z0, 28) := by rw [cod, ctab_226]; rfl
theorem k226_28 : cod 226 28 = some (29, 40, 55, z0, 31) := by rw [cod, ctab_226]; rfl
theorem k226_31 : cod 226 31 = some (2, 1, 0, z0, 32) := by rw [cod, ctab_226]; rfl
theorem k226_32 : cod 226 32 = some (31, 1, 0, z0, 33) := by rw [cod, ctab_226]; rfl
theorem k226_33 : cod 226 33 = some (4, 0, 0, z0, 34) := by rw [cod, ctab_226]; rfl
theorem k226_34 : cod 226 34 = some (29, 40, 56, z0, 37) := by rw [cod, ctab_226]; rfl
theorem k226_37 : cod 226 37 = some (2, 1, 0, z0, 38) := by rw [cod, ctab_226]; rfl
theorem k226_38 : cod 226 38 = some (31, 1, 0, z0, 39) := by rw [cod, ctab_226]; rfl
theorem k226_39 : cod 226 39 = some (28, 3, 46, z0, 42) := by rw [cod, ctab_226]; rfl
theorem k226_42 : cod 226 42 = some (0, 0, 0, vi (1), 43) := by rw [cod, ctab_226]; rfl
theorem k226_43 : cod 226 43 = some (26, 47, 0, z0, 46) := by rw [cod, ctab_226]; rfl
theorem k226_46 : cod 226 46 = some (0, 0, 0, z0, 47) := by rw [cod, ctab_226]; rfl
theorem k226_47 : cod 226 47 = some (36, 2, 0, z0, 48) := by rw [cod, ctab_226]; rfl
theorem k226_48 : cod 226 48 = some (8, 1, 0, vi (1), 51) := by rw [cod, ctab_226]; rfl
theorem k226_51 : cod 226 51 = some (26, 2, 0, z0, 54) := by rw [cod, ctab_226]; rfl
theorem k226_54 : cod 226 54 = some (0, 0, 0, z0, 55) := by rw [cod, ctab_226]; rfl
theorem k226_55 : cod 226 55 = some (36, 2, 0, z0, 56) := by rw [cod, ctab_226]; rfl
theorem ctab_227 : ctab.getD 227 [] = cd227 := rfl
theorem k227_0 : cod 227 0 = some (4, 0, 0, z0, 1) := by rw [cod, ctab_227]; rfl
theorem k227_1 : cod 227 1 = some (0, 0, 0, z0, 2) := by rw [cod, ctab_227]; rfl
theorem k227_2 : cod 227 2 = some (30, 40, 0, z0, 5) := by rw [cod, ctab_227]; rfl
theorem k227_5 : cod 227 5 = some (2, 1, 0, z0, 6) := by rw [cod, ctab_227]; rfl
theorem k227_6 : cod 227 6 = some (0, 0, 0, vi (-1), 7) := by rw [cod, ctab_227]; rfl
theorem k227_7 : cod 227 7 = some (28, 0, 21, z0, 10) := by rw [cod, ctab_227]; rfl
theorem k227_10 : cod 227 10 = some (4, 0, 0, z0, 11) := by rw [cod, ctab_227]; rfl
theorem k227_11 : cod 227 11 = some (2, 1, 0, z0, 12) := by rw [cod, ctab_227]; rfl
theorem k227_12 : cod 227 12 = some (34, 176, 2, vr 40 0, 15) := by rw [cod, ctab_227]; rfl
theorem k227_15 : cod 227 15 = some (27, 1, 21, z0, 18) := by rw [cod, ctab_227]; rfl
theorem k227_18 : cod 227 18 = some (0, 0, 0, vi (-2), 20) := by rw [cod, ctab_227]; rfl
theorem k227_20 : cod 227 20 = some (36, 1, 0, z0, 21) := by rw [cod, ctab_227]; rfl
theorem k227_21 : cod 227 21 = some (4, 0, 0, z0, 22) := by rw [cod, ctab_227]; rfl
theorem k227_22 : cod 227 22 = some (0, 0, 0, vi (-1), 23) := by rw [cod, ctab_227]; rfl
theorem k227_23 : cod 227 23 = some (30, 40, 57, z0, 26) := by rw [cod, ctab_227]; rfl
theorem k227_26 : cod 227 26 = some (4, 0, 0, z0, 27) := by rw [cod, ctab_227]; rfl
theorem k227_27 : cod 227 27 = some (0, 0, 0, z0, 28) := by rw [cod, ctab_227]; rfl
theorem k227_28 : cod 227 28 = some (0, 0, 0, z0, 29) := by rw [cod, ctab_227]; rfl
theorem k227_29 : cod 227 29 = some (0, 0, 0, z0, 30) := by rw [cod, ctab_227]; rfl
theorem k227_30 : cod 227 30 = some (34, 225, 4, vr 40 0, 33) := by rw [cod, ctab_227]; rfl
theorem k227_33 : cod 227 33 = some (2, 1, 0, z0, 34) := by rw [cod, ctab_227]; rfl
theorem k227_34 : cod 227 34 = some (0, 0, 0, vi (-1), 35) := by rw [cod, ctab_227]; rfl
theorem k227_35 : cod 227 35 = some (28, 1, 45, z0, 38) := by rw [cod, ctab_227]; rfl
theorem k227_38 : cod 227 38 = some (4, 0, 0, z0, 39) := by rw [cod, ctab_227]; rfl
theorem k227_39 : cod 227 39 = some (29, 40, 57, z0, 42) := by rw [cod, ctab_227]; rfl
theorem k227_42 : cod 227 42 = some (26, 51, 0, z0, 45) := by rw [cod, ctab_227]; rfl
theorem k227_45 : cod 227 45 = some (4, 0, 0, z0, 46) := by rw [cod, ctab_227]; rfl
theorem k227_46 : cod 227 46 = some (29, 40, 56, z0, 49) := by rw [cod, ctab_227]; rfl
theorem k227_49 : cod 227 49 = some (2, 1, 0, z0, 50) := by rw [cod, ctab_227]; rfl
theorem k227_50 : cod 227 50 = some (31, 1, 0, z0, 51) := by rw [cod, ctab_227]; rfl
theorem k227_51 : cod 227 51 = some (36, 1, 0, z0, 52) := by rw [cod, ctab_227]; rfl
theorem ctab_228 : ctab.getD 228 [] = cd228 := rfl
theorem k228_0 : cod 228 0 = some (4, 0, 0, z0, 1) := by rw [cod, ctab_228]; rfl
theorem k228_1 : cod 228 1 = some (0, 0, 0, z0, 2) := by rw [cod, ctab_228]; rfl
theorem k228_2 : cod 228 2 = some (30, 40, 0, z0, 5) := by rw [cod, ctab_228]; rfl
theorem k228_5 : cod 228 5 = some (0, 0, 0, z0, 6) := by rw [cod, ctab_228]; rfl
theorem k228_6 : cod 228 6 = some (5, 1, 0, z0, 7) := by rw [cod, ctab_228]; rfl
theorem k228_7 : cod 228 7 = some (0, 0, 0, z0, 8) := by rw [cod, ctab_228]; rfl
theorem k228_8 : cod 228 8 = some (5, 2, 0, z0, 9) := by rw [cod, ctab_228]; rfl
theorem k228_9 : cod 228 9 = some (2, 2, 0, z0, 10) := by rw [cod, ctab_228]; rfl
theorem k228_10 : cod 228 10 = some (4, 0, 0, z0, 11) := by rw [cod, ctab_228]; rfl
theorem k228_11 : cod 228 11 = some (29, 40, 10, z0, 14) := by rw [cod, ctab_228]; rfl
theorem k228_14 : cod 228 14 = some (0, 0, 0, vi (1), 15) := by rw [cod, ctab_228]; rfl
theorem k228_15 : cod 228 15 = some (31, 1, 0, z0, 16) := by rw [cod, ctab_228]; rfl
theorem k228_16 : cod 228 16 = some (28, 3, 43, z0, 19) := by rw [cod, ctab_228]; rfl
theorem k228_19 : cod 228 19 = some (2, 1, 0, z0, 20) := by rw [cod, ctab_228]; rfl
theorem k228_20 : cod 228 20 = some (4, 0, 0, z0, 21) := by rw [cod, ctab_228]; rfl
theorem k228_21 : cod 228 21 = some (2, 2, 0, z0, 22) := by rw [cod, ctab_228]; rfl
theorem k228_22 : cod 228 22 = some (34, 183, 2, vr 40 0, 25) := by rw [cod, ctab_228]; rfl
theorem k228_25 : cod 228 25 = some (27, 1, 34, z0, 28) := by rw [cod, ctab_228]; rfl
theorem k228_28 : cod 228 28 = some (0, 0, 0, vi (1), 29) := by rw [cod, ctab_228]; rfl
theorem k228_29 : cod 228 29 = some (2, 2, 0, z0, 30) := by rw [cod, ctab_228]; rfl
theorem k228_30 : cod 228 30 = some (9, 6, 0, z0, 31) := by rw [cod, ctab_228]; rfl
theorem k228_31 : cod 228 31 = some (26, 35, 0, z0, 34) := by rw [cod, ctab_228]; rfl
theorem k228_34 : cod 228 34 = some (0, 0, 0, z0, 35) := by rw [cod, ctab_228]; rfl
theorem k228_35 : cod 228 35 = some (9, 4, 0, z0, 36) := by rw [cod, ctab_228]; rfl
theorem k228_36 : cod 228 36 = some (5, 1, 0, z0, 37) := by rw [cod, ctab_228]; rfl
theorem k228_37 : cod 228 37 = some (8, 2, 0, vi (1), 40) := by rw [cod, ctab_228]; rfl
theorem k228_40 : cod 228 40 = some (26, 9, 0, z0, 43) := by rw [cod, ctab_228]; rfl
theorem k228_43 : cod 228 43 = some (2, 1, 0, z0, 44) := by rw [cod, ctab_228]; rfl
theorem k228_44 : cod 228 44 = some (36, 1, 0, z0, 45) := by rw [cod, ctab_228]; rfl
theorem ctab_229 : ctab.getD 229 [] = cd229 := rfl
theorem k229_0 : cod 229 0 = some (2, 3, 0, z0, 1) := by rw [cod, ctab_229]; rfl
theorem k229_1 : cod 229 1 = some (0, 0, 0, vi (1), 2) := by rw [cod, ctab_229]; rfl
theorem k229_2 : cod 229 2 = some (28, 1, 20, z0, 5) := by rw [cod, ctab_229]; rfl
theorem k229_5 : cod 229 5 = some (2, 4, 0, z0, 7) := by rw [cod, ctab_229]; rfl
theorem k229_7 : cod 229 7 = some (0, 0, 0, vi (1), 8) := by rw [cod, ctab_229]; rfl
theorem k229_8 : cod 229 8 = some (28, 1, 15, z0, 11) := by rw [cod, ctab_229]; rfl
theorem k229_11 : cod 229 11 = some (2, 0, 0, z0, 12) := by rw [cod, ctab_229]; rfl
theorem k229_12 : cod 229 12 = some (26, 31, 0, z0, 15) := by rw [cod, ctab_229]; rfl
theorem k229_15 : cod 229 15 = some (2, 1, 0, z0, 16) := by rw [cod, ctab_229]; rfl
theorem k229_16 : cod 229 16 = some (12, 0, 0, z0, 17) := by rw [cod, ctab_229]; rfl
theorem k229_17 : cod 229 17 = some (26, 31, 0, z0, 20) := by rw [cod, ctab_229]; rfl
theorem k229_20 : cod 229 20 = some (2, 4, 0, z0, 22) := by rw [cod, ctab_229]; rfl
theorem k229_22 : cod 229 22 = some (0, 0, 0, vi (1), 23) := by rw [cod, ctab_229]; rfl
theorem k229_23 : cod 229 23 = some (28, 1, 30, z0, 26) := by rw [cod, ctab_229]; rfl
theorem k229_26 : cod 229 26 = some (2, 2, 0, z0, 27) := by rw [cod, ctab_229]; rfl
theorem k229_27 : cod 229 27 = some (26, 31, 0, z0, 30) := by rw [cod, ctab_229]; rfl
theorem k229_30 : cod 229 30 = some (0, 0, 0, z0, 31) := by rw [cod, ctab_229]; rfl
theorem k229_31 : cod 229 31 = some (36, 1, 0, z0, 32) := by rw [cod, ctab_229]; rfl
theorem ctab_230 : ctab.getD 230 [] = cd230 := rfl
theorem k230_0 : cod 230 0 = some (4, 0, 0, z0, 1) := by rw [cod, ctab_230]; rfl
theorem k230_1 : cod 230 1 = some (2, 1, 0, z0, 2) := by rw [cod, ctab_230]; rfl
theorem k230_2 : cod 230 2 = some (0, 0, 0, z0, 3) := by rw [cod, ctab_230]; rfl
theorem k230_3 : cod 230 3 = some (0, 0, 0, vi (9), 5) := by rw [cod, ctab_230]; rfl
theorem k230_5 : cod 230 5 = some (34, 130, 3, z0, 8) := by rw [cod, ctab_230]; rfl
theorem k230_8 : cod 230 8 = some (27, 0, 41, z0, 11) := by rw [cod, ctab_230]; rfl
theorem k230_11 : cod 230 11 = some (2, 2, 0, z0, 12) := by rw [cod, ctab_230]; rfl
theorem k230_12 : cod 230 12 = some (0, 0, 0, z0, 13) := by rw [cod, ctab_230]; rfl
theorem k230_13 : cod 230 13 = some (0, 0, 0, vi (9), 15) := by rw [cod, ctab_230]; rfl
theorem k230_15 : cod 230 15 = some (34, 130, 3, z0, 18) := by rw [cod, ctab_230]; rfl
theorem k230_18 : cod 230 18 = some (27, 0, 41, z0, 21) := by rw [cod, ctab_230]; rfl
theorem k230_21 : cod 230 21 = some (2, 3, 0, z0, 22) := by rw [cod, ctab_230]; rfl
theorem k230_22 : cod 230 22 = some (0, 0, 0, z0, 23) := by rw [cod, ctab_230]; rfl
theorem k230_23 : cod 230 23 = some (0, 0, 0, vi (9), 25) := by rw [cod, ctab_230]; rfl
theorem k230_25 : cod 230 25 = some (34, 130, 3, z0, 28) := by rw [cod, ctab_230]; rfl
theorem k230_28 : cod 230 28 = some (27, 0, 41, z0, 31) := by rw [cod, ctab_230]; rfl
theorem k230_31 : cod 230 31 = some (2, 4, 0, z0, 33) := by rw [cod, ctab_230]; rfl
theorem k230_33 : cod 230 33 = some (0, 0, 0, vi (-1), 34) := by rw [cod, ctab_230]; rfl
theorem k230_34 : cod 230 34 = some (28, 2, 41, z0, 37) := by rw [cod, ctab_230]; rfl
theorem k230_37 : cod 230 37 = some (0, 0, 0, z0, 38) := by rw [cod, ctab_230]; rfl
theorem k230_38 : cod 230 38 = some (26, 42, 0, z0, 41) := by rw [cod, ctab_230]; rfl
theorem k230_41 : cod 230 41 = some (0, 0, 0, vi (1), 42) := by rw [cod, ctab_230]; rfl
theorem k230_42 : cod 230 42 = some (30, 40, 0, z0, 45) := by rw [cod, ctab_230]; rfl
theorem k230_45 : cod 230 45 = some (4, 0, 0, z0, 46) := by rw [cod, ctab_230]; rfl
theorem k230_46 : cod 230 46 = some (29, 40, 0, z0, 49) := by rw [cod, ctab_230]; rfl
theorem k230_49 : cod 230 49 = some (0, 0, 0, vi (1), 50) := by rw [cod, ctab_230]; rfl
theorem k230_50 : cod 230 50 = some (28, 1, 55, z0, 53) := by rw [cod, ctab_230]; rfl
theorem k230_53 : cod 230 53 = some (0, 0, 0, z0, 54) := by rw [cod, ctab_230]; rfl
theorem k230_54 : cod 230 54 = some (36, 1, 0, z0, 55) := by rw [cod, ctab_230]; rfl
theorem k230_55 : cod 230 55 = some (0, 0, 0, z0, 56) := by rw [cod, ctab_230]; rfl
theorem k230_56 : cod 230 56 = some (5, 5, 0, z0, 58) := by rw [cod, ctab_230]; rfl
theorem k230_58 : cod 230 58 = some (0, 0, 0, z0, 59) := by rw [cod, ctab_230]; rfl
theorem k230_59 : cod 230 59 = some (5, 6, 0, z0, 61) := by rw [cod, ctab_230]; rfl
theorem k230_61 : cod 230 61 = some (2, 6, 0, z0, 63) := by rw [cod, ctab_230]; rfl
theorem k230_63 : cod 230 63 = some (0, 0, 0, vi (4), 64) := by rw [cod, ctab_230]; rfl
theorem k230_64 : cod 230 64 = some (28, 3, 151, z0, 67) := by rw [cod, ctab_230]; rfl
theorem k230_67 : cod 230 67 = some (2, 6, 0, z0, 69) := by rw [cod, ctab_230]; rfl
theorem k230_69 : cod 230 69 = some (0, 0, 0, vi (2), 70) := by rw [cod, ctab_230]; rfl
theorem k230_70 : cod 230 70 = some (10, 0, 0, z0, 71) := by rw [cod, ctab_230]; rfl
theorem k230_71 : cod 230 71 = some (5, 7, 0, z0, 73) := by rw [cod, ctab_230]; rfl
theorem k230_73 : cod 230 73 = some (2, 6, 0, z0, 75) := by rw [cod, ctab_230]; rfl
theorem k230_75 : cod 230 75 = some (0, 0, 0, vi (2), 76) := by rw [cod, ctab_230]; rfl
theorem k230_76 : cod 230 76 = some (11, 0, 0, z0, 77) := by rw [cod, ctab_230]; rfl
theorem k230_77 : cod 230 77 = some (5, 8, 0, z0, 79) := by rw [cod, ctab_230]; rfl
theorem k230_79 : cod 230 79 = some (2, 1, 0, z0, 80) := by rw [cod, ctab_230]; rfl
theorem k230_80 : cod 230 80 = some (2, 2, 0, z0, 81) := by rw [cod, ctab_230]; rfl
theorem k230_81 : cod 230 81 = some (2, 3, 0, z0, 82) := by rw [cod, ctab_230]; rfl
theorem k230_82 : cod 230 82 = some (0, 0, 0, vi (1), 83) := by rw [cod, ctab_230]; rfl
theorem k230_83 : cod 230 83 = some (2, 7, 0, z0, 85) := by rw [cod, ctab_230]; rfl
theorem k230_85 : cod 230 85 = some (9, 1, 0, z0, 86) := by rw [cod, ctab_230]; rfl
theorem k230_86 : cod 230 86 = some (2, 8, 0, z0, 88) := by rw [cod, ctab_230]; rfl
theorem k230_88 : cod 230 88 = some (34, 229, 5, z0, 91) := by rw [cod, ctab_230]; rfl
theorem k230_91 : cod 230 91 = some (2, 1, 0, z0, 92) := by rw [cod, ctab_230]; rfl
theorem k230_92 : cod 230 92 = some (2, 2, 0, z0, 93) := by rw [cod, ctab_230]; rfl
theorem k230_93 : cod 230 93 = some (2, 3, 0, z0, 94) := by rw [cod, ctab_230]; rfl
theorem k230_94 : cod 230 94 = some (2, 7, 0, z0, 96) := by rw [cod, ctab_230]; rfl
theorem k230_96 : cod 230 96 = some (2, 8, 0, z0, 98) := by rw [cod, ctab_230]; rfl
theorem k230_98 : cod 230 98 = some (34, 229, 5, z0, 101) := by rw [cod, ctab_230]; rfl
theorem k230_101 : cod 230 101 = some (28, 4, 145, z0, 104) := by rw [cod, ctab_230]; rfl
theorem k230_104 : cod 230 104 = some (2, 1, 0, z0, 105) := by rw [cod, ctab_230]; rfl
theorem k230_105 : cod 230 105 = some (2, 2, 0, z0, 106) := by rw [cod, ctab_230]; rfl
theorem k230_106 : cod 230 106 = some (2, 3, 0, z0, 107) := by rw [cod, ctab_230]; rfl
theorem k230_107 : cod 230 107 = some (0, 0, 0, vi (1), 108) := by rw [cod, ctab_230]; rfl
theorem k230_108 : cod 230 108 = some (2, 8, 0, z0, 110) := by rw [cod, ctab_230]; rfl
theorem k230_110 : cod 230 110 = some (9, 1, 0, z0, 111) := by rw [cod, ctab_230]; rfl
theorem k230_111 : cod 230 111 = some (2, 7, 0, z0, 113) := by rw [cod, ctab_230]; rfl
theorem k230_113 : cod 230 113 = some (34, 229, 5, z0, 116) := by rw [cod, ctab_230]; rfl
theorem k230_116 : cod 230 116 = some (2, 1, 0, z0, 117) := by rw [cod, ctab_230]; rfl
theorem k230_117 : cod 230 117 = some (2, 2, 0, z0, 118) := by rw [cod, ctab_230]; rfl
theorem k230_118 : cod 230 118 = some (2, 3, 0, z0, 119) := by rw [cod, ctab_230]; rfl
theorem k230_119 : cod 230 119 = some (2, 8, 0, z0, 121) := by rw [cod, ctab_230]; rfl
theorem k230_121 : cod 230 121 = some (2, 7, 0, z0, 123) := by rw [cod, ctab_230]; rfl
theorem k230_123 : cod 230 123 = some (34, 229, 5, z0, 126) := by rw [cod, ctab_230]; rfl
theorem k230_126 : cod 230 126 = some (28, 5, 132, z0, 129) := by rw [cod, ctab_230]; rfl
theorem k230_129 : cod 230 129 = some (26, 145, 0, z0, 132) := by rw [cod, ctab_230]; rfl
theorem k230_132 : cod 230 132 = some (2, 5, 0, z0, 134) := by rw [cod, ctab_230]; rfl
theorem k230_134 : cod 230 134 = some (2, 4, 0, z0, 136) := by rw [cod, ctab_230]; rfl
theorem k230_136 : cod 230 136 = some (28, 1, 142, z0, 139) := by rw [cod, ctab_230]; rfl
theorem k230_139 : cod 230 139 = some (2, 6, 0, z0, 141) := by rw [cod, ctab_230]; rfl
theorem k230_141 : cod 230 141 = some (36, 1, 0, z0, 142) := by rw [cod, ctab_230]; rfl
theorem k230_142 : cod 230 142 = some (8, 5, 0, vi (1), 145) := by rw [cod, ctab_230]; rfl
theorem k230_145 : cod 230 145 = some (8, 6, 0, vi (1), 148) := by rw [cod, ctab_230]; rfl
theorem k230_148 : cod 230 148 = some (26, 61, 0, z0, 151) := by rw [cod, ctab_230]; rfl
theorem k230_151 : cod 230 151 = some (4, 0, 0, z0, 152) := by rw [cod, ctab_230]; rfl
theorem k230_152 : cod 230 152 = some (2, 4, 0, z0, 154) := by rw [cod, ctab_230]; rfl
theorem k230_154 : cod 230 154 = some (0, 0, 0, vi (-1), 155) := by rw [cod, ctab_230]; rfl
theorem k230_155 : cod 230 155 = some (28, 1, 162, z0, 158) := by rw [cod, ctab_230]; rfl
theorem k230_158 : cod 230 158 = some (0, 0, 0, z0, 159) := by rw [cod, ctab_230]; rfl
theorem k230_159 : cod 230 159 = some (26, 163, 0, z0, 162) := by rw [cod, ctab_230]; rfl
theorem k230_162 : cod 230 162 = some (0, 0, 0, vi (1), 163) := by rw [cod, ctab_230]; rfl
theorem k230_163 : cod 230 163 = some (30, 40, 0, z0, 166) := by rw [cod, ctab_230]; rfl
theorem k230_166 : cod 230 166 = some (2, 4, 0, z0, 168) := by rw [cod, ctab_230]; rfl
theorem k230_168 : cod 230 168 = some (0, 0, 0, vi (-1), 169) := by rw [cod, ctab_230]; rfl
theorem k230_169 : cod 230 169 = some (28, 1, 177, z0, 172) := by rw [cod, ctab_230]; rfl
theorem k230_172 : cod 230 172 = some (2, 5, 0, z0, 174) := by rw [cod, ctab_230]; rfl
theorem k230_174 : cod 230 174 = some (26, 178, 0, z0, 177) := by rw [cod, ctab_230]; rfl
theorem k230_177 : cod 230 177 = some (0, 0, 0, z0, 178) := by rw [cod, ctab_230]; rfl
theorem k230_178 : cod 230 178 = some (36, 1, 0, z0, 179) := by rw [cod, ctab_230]; rfl
theorem ctab_231 : ctab.getD 231 [] = cd231 := rfl
theorem k231_0 : cod 231 0 = some (4, 0, 0, z0, 1) := by rw [cod, ctab_231]; rfl
theorem k231_1 : cod 231 1 = some (4, 0, 0, z0, 2) := by rw [cod, ctab_231]; rfl
theorem k231_2 : cod 231 2 = some (29, 40, 58, z0, 5) := by rw [cod, ctab_231]; rfl
theorem k231_5 : cod 231 5 = some (0, 0, 0, vl (1103515245), 8) := by rw [cod, ctab_231]; rfl
theorem k231_8 : cod 231 8 = some (13, 2, 0, z0, 9) := by rw [cod, ctab_231]; rfl
theorem k231_9 : cod 231 9 = some (0, 0, 0, vl (12345), 12) := by rw [cod, ctab_231]; rfl
theorem k231_12 : cod 231 12 = some (13, 0, 0, z0, 13) := by rw [cod, ctab_231]; rfl
theorem k231_13 : cod 231 13 = some (0, 0, 0, vl (2147483648), 16) := by rw [cod, ctab_231]; rfl
theorem k231_16 : cod 231 16 = some (17, 0, 0, z0, 17) := by rw [cod, ctab_231]; rfl
theorem k231_17 : cod 231 17 = some (30, 40, 58, z0, 20) := by rw [cod, ctab_231]; rfl
theorem k231_20 : cod 231 20 = some (4, 0, 0, z0, 21) := by rw [cod, ctab_231]; rfl
theorem k231_21 : cod 231 21 = some (29, 40, 58, z0, 24) := by rw [cod, ctab_231]; rfl
theorem k231_24 : cod 231 24 = some (0, 0, 0, vl (65536), 27) := by rw [cod, ctab_231]; rfl
theorem k231_27 : cod 231 27 = some (16, 0, 0, z0, 28) := by rw [cod, ctab_231]; rfl
theorem k231_28 : cod 231 28 = some (2, 1, 0, z0, 29) := by rw [cod, ctab_231]; rfl
theorem k231_29 : cod 231 29 = some (19, 0, 0, z0, 30) := by rw [cod, ctab_231]; rfl
theorem k231_30 : cod 231 30 = some (17, 0, 0, z0, 31) := by rw [cod, ctab_231]; rfl
theorem k231_31 : cod 231 31 = some (20, 0, 0, z0, 32) := by rw [cod, ctab_231]; rfl
theorem k231_32 : cod 231 32 = some (36, 1, 0, z0, 33) := by rw [cod, ctab_231]; rfl
theorem ctab_232 : ctab.getD 232 [] = cd232 := rfl
theorem k232_0 : cod 232 0 = some (4, 0, 0, z0, 1) := by rw [cod, ctab_232]; rfl
theorem k232_1 : cod 232 1 = some (29, 40, 10, z0, 4) := by rw [cod, ctab_232]; rfl
theorem k232_4 : cod 232 4 = some (0, 0, 0, vi (1), 5) := by rw [cod, ctab_232]; rfl
theorem k232_5 : cod 232 5 = some (31, 1, 0, z0, 6) := by rw [cod, ctab_232]; rfl
theorem k232_6 : cod 232 6 = some (27, 5, 49, z0, 9) := by rw [cod, ctab_232]; rfl
theorem k232_9 : cod 232 9 = some (4, 0, 0, z0, 10) := by rw [cod, ctab_232]; rfl
theorem k232_10 : cod 232 10 = some (4, 0, 0, z0, 11) := by rw [cod, ctab_232]; rfl
theorem k232_11 : cod 232 11 = some (29, 40, 10, z0, 14) := by rw [cod, ctab_232]; rfl
theorem k232_14 : cod 232 14 = some (0, 0, 0, vi (1), 15) := by rw [cod, ctab_232]; rfl
theorem k232_15 : cod 232 15 = some (31, 1, 0, z0, 16) := by rw [cod, ctab_232]; rfl
theorem k232_16 : cod 232 16 = some (34, 231, 2, vr 40 0, 19) := by rw [cod, ctab_232]; rfl
theorem k232_19 : cod 232 19 = some (5, 1, 0, z0, 20) := by rw [cod, ctab_232]; rfl
theorem k232_20 : cod 232 20 = some (4, 0, 0, z0, 21) := by rw [cod, ctab_232]; rfl
theorem k232_21 : cod 232 21 = some (4, 0, 0, z0, 22) := by rw [cod, ctab_232]; rfl
theorem k232_22 : cod 232 22 = some (29, 40, 10, z0, 25) := by rw [cod, ctab_232]; rfl
theorem k232_25 : cod 232 25 = some (0, 0, 0, z0, 26) := by rw [cod, ctab_232]; rfl
theorem k232_26 : cod 232 26 = some (31, 1, 0, z0, 27) := by rw [cod, ctab_232]; rfl
theorem k232_27 : cod 232 27 = some (34, 231, 2, vr 40 0, 30) := by rw [cod, ctab_232]; rfl
theorem k232_30 : cod 232 30 = some (5, 2, 0, z0, 31) := by rw [cod, ctab_232]; rfl
theorem k232_31 : cod 232 31 = some (4, 0, 0, z0, 32) := by rw [cod, ctab_232]; rfl
theorem k232_32 : cod 232 32 = some (2, 1, 0, z0, 33) := by rw [cod, ctab_232]; rfl
theorem k232_33 : cod 232 33 = some (2, 2, 0, z0, 34) := by rw [cod, ctab_232]; rfl
theorem k232_34 : cod 232 34 = some (34, 184, 3, vr 40 0, 37) := by rw [cod, ctab_232]; rfl
theorem k232_37 : cod 232 37 = some (27, 0, 49, z0, 40) := by rw [cod, ctab_232]; rfl
theorem k232_40 : cod 232 40 = some (4, 0, 0, z0, 41) := by rw [cod, ctab_232]; rfl
theorem k232_41 : cod 232 41 = some (29, 40, 43, z0, 44) := by rw [cod, ctab_232]; rfl
theorem k232_44 : cod 232 44 = some (0, 0, 0, vi (2), 45) := by rw [cod, ctab_232]; rfl
theorem k232_45 : cod 232 45 = some (2, 1, 0, z0, 46) := by rw [cod, ctab_232]; rfl
theorem k232_46 : cod 232 46 = some (9, 0, 0, z0, 47) := by rw [cod, ctab_232]; rfl
theorem k232_47 : cod 232 47 = some (2, 2, 0, z0, 48) := by rw [cod, ctab_232]; rfl
theorem k232_48 : cod 232 48 = some (32, 1, 0, z0, 49) := by rw [cod, ctab_232]; rfl
theorem k232_49 : cod 232 49 = some (4, 0, 0, z0, 50) := by rw [cod, ctab_232]; rfl
theorem k232_50 : cod 232 50 = some (34, 191, 1, vr 40 0, 53) := by rw [cod, ctab_232]; rfl
theorem k232_53 : cod 232 53 = some (5, 1, 0, z0, 54) := by rw [cod, ctab_232]; rfl
theorem k232_54 : cod 232 54 = some (4, 0, 0, z0, 55) := by rw [cod, ctab_232]; rfl
theorem k232_55 : cod 232 55 = some (0, 0, 0, vi (9), 57) := by rw [cod, ctab_232]; rfl
theorem k232_57 : cod 232 57 = some (34, 231, 2, vr 40 0, 60) := by rw [cod, ctab_232]; rfl
theorem k232_60 : cod 232 60 = some (27, 1, 67, z0, 63) := by rw [cod, ctab_232]; rfl
theorem k232_63 : cod 232 63 = some (0, 0, 0, vi (1), 64) := by rw [cod, ctab_232]; rfl
theorem k232_64 : cod 232 64 = some (26, 68, 0, z0, 67) := by rw [cod, ctab_232]; rfl
theorem k232_67 : cod 232 67 = some (0, 0, 0, z0, 68) := by rw [cod, ctab_232]; rfl
theorem k232_68 : cod 232 68 = some (5, 2, 0, z0, 69) := by rw [cod, ctab_232]; rfl
theorem k232_69 : cod 232 69 = some (0, 0, 0, z0, 70) := by rw [cod, ctab_232]; rfl
theorem k232_70 : cod 232 70 = some (5, 3, 0, z0, 71) := by rw [cod, ctab_232]; rfl
theorem k232_71 : cod 232 71 = some (2, 3, 0, z0, 72) := by rw [cod, ctab_232]; rfl
theorem k232_72 : cod 232 72 = some (4, 0, 0, z0, 73) := by rw [cod, ctab_232]; rfl
theorem k232_73 : cod 232 73 = some (29, 40, 10, z0, 76) := by rw [cod, ctab_232]; rfl
theorem k232_76 : cod 232 76 = some (0, 0, 0, vi (1), 77) := by rw [cod, ctab_232]; rfl
theorem k232_77 : cod 232 77 = some (31, 1, 0, z0, 78) := by rw [cod, ctab_232]; rfl
theorem k232_78 : cod 232 78 = some (28, 3, 104, z0, 81) := by rw [cod, ctab_232]; rfl
theorem k232_81 : cod 232 81 = some (2, 2, 0, z0, 82) := by rw [cod, ctab_232]; rfl
theorem k232_82 : cod 232 82 = some (27, 0, 104, z0, 85) := by rw [cod, ctab_232]; rfl
theorem k232_85 : cod 232 85 = some (4, 0, 0, z0, 86) := by rw [cod, ctab_232]; rfl
theorem k232_86 : cod 232 86 = some (2, 3, 0, z0, 87) := by rw [cod, ctab_232]; rfl
theorem k232_87 : cod 232 87 = some (34, 180, 2, vr 40 0, 90) := by rw [cod, ctab_232]; rfl
theorem k232_90 : cod 232 90 = some (27, 0, 98, z0, 93) := by rw [cod, ctab_232]; rfl
theorem k232_93 : cod 232 93 = some (4, 0, 0, z0, 94) := by rw [cod, ctab_232]; rfl
theorem k232_94 : cod 232 94 = some (2, 3, 0, z0, 95) := by rw [cod, ctab_232]; rfl
theorem k232_95 : cod 232 95 = some (34, 192, 2, vr 40 0, 98) := by rw [cod, ctab_232]; rfl
theorem k232_98 : cod 232 98 = some (8, 3, 0, vi (1), 101) := by rw [cod, ctab_232]; rfl
theorem k232_101 : cod 232 101 = some (26, 71, 0, z0, 104) := by rw [cod, ctab_232]; rfl
theorem k232_104 : cod 232 104 = some (2, 1, 0, z0, 105) := by rw [cod, ctab_232]; rfl
theorem k232_105 : cod 232 105 = some (36, 1, 0, z0, 106) := by rw [cod, ctab_232]; rfl
theorem ctab_233 : ctab.getD 233 [] = cd233 := rfl
theorem k233_0 : cod 233 0 = some (4, 0, 0, z0, 1) := by rw [cod, ctab_233]; rfl
theorem k233_1 : cod 233 1 = some (0, 0, 0, z0, 2) := by rw [cod, ctab_233]; rfl
theorem k233_2 : cod 233 2 = some (30, 40, 0, z0, 5) := by rw [cod, ctab_233]; rfl
theorem k233_5 : cod 233 5 = some (2, 1, 0, z0, 6) := by rw [cod, ctab_233]; rfl
theorem k233_6 : cod 233 6 = some (0, 0, 0, z0, 7) := by rw [cod, ctab_233]; rfl
theorem k233_7 : cod 233 7 = some (0, 0, 0, vi (9999), 10) := by rw [cod, ctab_233]; rfl
theorem k233_10 : cod 233 10 = some (34, 130, 3, z0, 13) := by rw [cod, ctab_233]; rfl
theorem k233_13 : cod 233 13 = some (27, 0, 35, z0, 16) := by rw [cod, ctab_233]; rfl
theorem k233_16 : cod 233 16 = some (2, 2, 0, z0, 17) := by rw [cod, ctab_233]; rfl
theorem k233_17 : cod 233 17 = some (0, 0, 0, vi (1), 18) := by rw [cod, ctab_233]; rfl
theorem k233_18 : cod 233 18 = some (0, 0, 0, vi (99), 20) := by rw [cod, ctab_233]; rfl
theorem k233_20 : cod 233 20 = some (34, 130, 3, z0, 23) := by rw [cod, ctab_233]; rfl
theorem k233_23 : cod 233 23 = some (27, 0, 35, z0, 26) := by rw [cod, ctab_233]; rfl
theorem k233_26 : cod 233 26 = some (2, 3, 0, z0, 27) := by rw [cod, ctab_233]; rfl
theorem k233_27 : cod 233 27 = some (0, 0, 0, z0, 28) := by rw [cod, ctab_233]; rfl
theorem k233_28 : cod 233 28 = some (0, 0, 0, vi (2), 29) := by rw [cod, ctab_233]; rfl
theorem k233_29 : cod 233 29 = some (34, 130, 3, z0, 32) := by rw [cod, ctab_233]; rfl
theorem k233_32 : cod 233 32 = some (27, 1, 37, z0, 35) := by rw [cod, ctab_233]; rfl
theorem k233_35 : cod 233 35 = some (0, 0, 0, vi (-1), 36) := by rw [cod, ctab_233]; rfl
theorem k233_36 : cod 233 36 = some (36, 1, 0, z0, 37) := by rw [cod, ctab_233]; rfl
theorem k233_37 : cod 233 37 = some (4, 0, 0, z0, 38) := by rw [cod, ctab_233]; rfl
theorem k233_38 : cod 233 38 = some (2, 1, 0, z0, 39) := by rw [cod, ctab_233]; rfl
theorem k233_39 : cod 233 39 = some (19, 0, 0, z0, 40) := by rw [cod, ctab_233]; rfl
theorem k233_40 : cod 233 40 = some (30, 40, 58, z0, 43) := by rw [cod, ctab_233]; rfl
theorem k233_43 : cod 233 43 = some (4, 0, 0, z0, 44) := by rw [cod, ctab_233]; rfl
theorem k233_44 : cod 233 44 = some (29, 40, 43, z0, 47) := by rw [cod, ctab_233]; rfl
theorem k233_47 : cod 233 47 = some (0, 0, 0, z0, 48) := by rw [cod, ctab_233]; rfl
theorem k233_48 : cod 233 48 = some (4, 0, 0, z0, 49) := by rw [cod, ctab_233]; rfl
theorem k233_49 : cod 233 49 = some (29, 40, 44, z0, 52) := by rw [cod, ctab_233]; rfl
theorem k233_52 : cod 233 52 = some (0, 0, 0, z0, 53) := by rw [cod, ctab_233]; rfl
theorem k233_53 : cod 233 53 = some (34, 168, 4, z0, 56) := by rw [cod, ctab_233]; rfl
theorem k233_56 : cod 233 56 = some (4, 0, 0, z0, 57) := by rw [cod, ctab_233]; rfl
theorem k233_57 : cod 233 57 = some (0, 0, 0, z0, 58) := by rw [cod, ctab_233]; rfl
theorem k233_58 : cod 233 58 = some (30, 40, 50, z0, 61) := by rw [cod, ctab_233]; rfl
theorem k233_61 : cod 233 61 = some (0, 0, 0, z0, 62) := by rw [cod, ctab_233]; rfl
theorem k233_62 : cod 233 62 = some (5, 4, 0, z0, 64) := by rw [cod, ctab_233]; rfl
theorem k233_64 : cod 233 64 = some (0, 0, 0, z0, 65) := by rw [cod, ctab_233]; rfl
theorem k233_65 : cod 233 65 = some (5, 5, 0, z0, 67) := by rw [cod, ctab_233]; rfl
theorem k233_67 : cod 233 67 = some (2, 5, 0, z0, 69) := by rw [cod, ctab_233]; rfl
theorem k233_69 : cod 233 69 = some (2, 2, 0, z0, 70) := by rw [cod, ctab_233]; rfl
theorem k233_70 : cod 233 70 = some (28, 3, 88, z0, 73) := by rw [cod, ctab_233]; rfl
theorem k233_73 : cod 233 73 = some (2, 4, 0, z0, 75) := by rw [cod, ctab_233]; rfl
theorem k233_75 : cod 233 75 = some (4, 0, 0, z0, 76) := by rw [cod, ctab_233]; rfl
theorem k233_76 : cod 233 76 = some (34, 232, 1, vr 40 0, 79) := by rw [cod, ctab_233]; rfl
theorem k233_79 : cod 233 79 = some (9, 0, 0, z0, 80) := by rw [cod, ctab_233]; rfl
theorem k233_80 : cod 233 80 = some (5, 4, 0, z0, 82) := by rw [cod, ctab_233]; rfl
theorem k233_82 : cod 233 82 = some (8, 5, 0, vi (1), 85) := by rw [cod, ctab_233]; rfl
theorem k233_85 : cod 233 85 = some (26, 67, 0, z0, 88) := by rw [cod, ctab_233]; rfl
theorem k233_88 : cod 233 88 = some (4, 0, 0, z0, 89) := by rw [cod, ctab_233]; rfl
theorem k233_89 : cod 233 89 = some (34, 182, 1, vr 40 0, 92) := by rw [cod, ctab_233]; rfl
theorem k233_92 : cod 233 92 = some (5, 5, 0, z0, 94) := by rw [cod, ctab_233]; rfl
theorem k233_94 : cod 233 94 = some (4, 0, 0, z0, 95) := by rw [cod, ctab_233]; rfl
theorem k233_95 : cod 233 95 = some (29, 40, 44, z0, 98) := by rw [cod, ctab_233]; rfl
theorem k233_98 : cod 233 98 = some (0, 0, 0, z0, 99) := by rw [cod, ctab_233]; rfl
theorem k233_99 : cod 233 99 = some (4, 0, 0, z0, 100) := by rw [cod, ctab_233]; rfl
theorem k233_100 : cod 233 100 = some (29, 40, 43, z0, 103) := by rw [cod, ctab_233]; rfl
theorem k233_103 : cod 233 103 = some (0, 0, 0, z0, 104) := by rw [cod, ctab_233]; rfl
theorem k233_104 : cod 233 104 = some (34, 168, 4, z0, 107) := by rw [cod, ctab_233]; rfl
theorem k233_107 : cod 233 107 = some (2, 3, 0, z0, 108) := by rw [cod, ctab_233]; rfl
theorem k233_108 : cod 233 108 = some (27, 1, 116, z0, 111) := by rw [cod, ctab_233]; rfl
theorem k233_111 : cod 233 111 = some (2, 4, 0, z0, 113) := by rw [cod, ctab_233]; rfl
theorem k233_113 : cod 233 113 = some (26, 130, 0, z0, 116) := by rw [cod, ctab_233]; rfl
theorem k233_116 : cod 233 116 = some (2, 3, 0, z0, 117) := by rw [cod, ctab_233]; rfl
theorem k233_117 : cod 233 117 = some (0, 0, 0, vi (1), 118) := by rw [cod, ctab_233]; rfl
theorem k233_118 : cod 233 118 = some (28, 1, 128, z0, 121) := by rw [cod, ctab_233]; rfl
theorem k233_121 : cod 233 121 = some (4, 0, 0, z0, 122) := by rw [cod, ctab_233]; rfl
theorem k233_122 : cod 233 122 = some (29, 40, 50, z0, 125) := by rw [cod, ctab_233]; rfl
theorem k233_125 : cod 233 125 = some (26, 130, 0, z0, 128) := by rw [cod, ctab_233]; rfl
theorem k233_128 : cod 233 128 = some (2, 5, 0, z0, 130) := by rw [cod, ctab_233]; rfl
theorem k233_130 : cod 233 130 = some (36, 1, 0, z0, 131) := by rw [cod, ctab_233]; rfl
theorem ctab_234 : ctab.getD 234 [] = cd234 := rfl
theorem k234_0 : cod 234 0 = some (4, 0, 0, z0, 1) := by rw [cod, ctab_234]; rfl
theorem k234_1 : cod 234 1 = some (0, 0, 0, z0, 2) := by rw [cod, ctab_234]; rfl
theorem k234_2 : cod 234 2 = some (30, 40, 0, z0, 5) := by rw [cod, ctab_234]; rfl
theorem k234_5 : cod 234 5 = some (2, 1, 0, z0, 6) := by rw [cod, ctab_234]; rfl
theorem k234_6 : cod 234 6 = some (0, 0, 0, z0, 7) := by rw [cod, ctab_234]; rfl
theorem k234_7 : cod 234 7 = some (0, 0, 0, vi (3), 8) := by rw [cod, ctab_234]; rfl
theorem k234_8 : cod 234 8 = some (34, 130, 3, z0, 11) := by rw [cod, ctab_234]; rfl
theorem k234_11 : cod 234 11 = some (27, 0, 27, z0, 14) := by rw [cod, ctab_234]; rfl
theorem k234_14 : cod 234 14 = some (2, 2, 0, z0, 15) := by rw [cod, ctab_234]; rfl
theorem k234_15 : cod 234 15 = some (27, 0, 29, z0, 18) := by rw [cod, ctab_234]; rfl
theorem k234_18 : cod 234 18 = some (4, 0, 0, z0, 19) := by rw [cod, ctab_234]; rfl
theorem k234_19 : cod 234 19 = some (29, 40, 48, z0, 22) := by rw [cod, ctab_234]; rfl
theorem k234_22 : cod 234 22 = some (2, 1, 0, z0, 23) := by rw [cod, ctab_234]; rfl
theorem k234_23 : cod 234 23 = some (31, 3, 0, z0, 24) := by rw [cod, ctab_234]; rfl
theorem k234_24 : cod 234 24 = some (27, 1, 29, z0, 27) := by rw [cod, ctab_234]; rfl
theorem k234_27 : cod 234 27 = some (0, 0, 0, z0, 28) := by rw [cod, ctab_234]; rfl
theorem k234_28 : cod 234 28 = some (36, 2, 0, z0, 29) := by rw [cod, ctab_234]; rfl
theorem k234_29 : cod 234 29 = some (4, 0, 0, z0, 30) := by rw [cod, ctab_234]; rfl
theorem k234_30 : cod 234 30 = some (29, 40, 48, z0, 33) := by rw [cod, ctab_234]; rfl
theorem k234_33 : cod 234 33 = some (2, 1, 0, z0, 34) := by rw [cod, ctab_234]; rfl
theorem k234_34 : cod 234 34 = some (0, 0, 0, vi (1), 35) := by rw [cod, ctab_234]; rfl
theorem k234_35 : cod 234 35 = some (32, 3, 0, z0, 36) := by rw [cod, ctab_234]; rfl
theorem k234_36 : cod 234 36 = some (2, 2, 0, z0, 37) := by rw [cod, ctab_234]; rfl
theorem k234_37 : cod 234 37 = some (27, 0, 46, z0, 40) := by rw [cod, ctab_234]; rfl
theorem k234_40 : cod 234 40 = some (0, 0, 0, vi (1), 41) := by rw [cod, ctab_234]; rfl
theorem k234_41 : cod 234 41 = some (2, 1, 0, z0, 42) := by rw [cod, ctab_234]; rfl
theorem k234_42 : cod 234 42 = some (9, 0, 0, z0, 43) := by rw [cod, ctab_234]; rfl
theorem k234_43 : cod 234 43 = some (26, 47, 0, z0, 46) := by rw [cod, ctab_234]; rfl
theorem k234_46 : cod 234 46 = some (0, 0, 0, z0, 47) := by rw [cod, ctab_234]; rfl
theorem k234_47 : cod 234 47 = some (5, 3, 0, z0, 48) := by rw [cod, ctab_234]; rfl
theorem k234_48 : cod 234 48 = some (2, 2, 0, z0, 49) := by rw [cod, ctab_234]; rfl
theorem k234_49 : cod 234 49 = some (27, 0, 56, z0, 52) := by rw [cod, ctab_234]; rfl
theorem k234_52 : cod 234 52 = some (0, 0, 0, z0, 53) := by rw [cod, ctab_234]; rfl
theorem k234_53 : cod 234 53 = some (26, 59, 0, z0, 56) := by rw [cod, ctab_234]; rfl
theorem k234_56 : cod 234 56 = some (0, 0, 0, vi (1), 57) := by rw [cod, ctab_234]; rfl
theorem k234_57 : cod 234 57 = some (2, 1, 0, z0, 58) := by rw [cod, ctab_234]; rfl
theorem k234_58 : cod 234 58 = some (9, 0, 0, z0, 59) := by rw [cod, ctab_234]; rfl
theorem k234_59 : cod 234 59 = some (5, 4, 0, z0, 61) := by rw [cod, ctab_234]; rfl
theorem k234_61 : cod 234 61 = some (4, 0, 0, z0, 62) := by rw [cod, ctab_234]; rfl
theorem k234_62 : cod 234 62 = some (2, 3, 0, z0, 63) := by rw [cod, ctab_234]; rfl
theorem k234_63 : cod 234 63 = some (2, 4, 0, z0, 65) := by rw [cod, ctab_234]; rfl
theorem k234_65 : cod 234 65 = some (34, 170, 3, vr 40 0, 68) := by rw [cod, ctab_234]; rfl
theorem k234_68 : cod 234 68 = some (0, 0, 0, z0, 69) := by rw [cod, ctab_234]; rfl
theorem k234_69 : cod 234 69 = some (5, 5, 0, z0, 71) := by rw [cod, ctab_234]; rfl
theorem k234_71 : cod 234 71 = some (2, 5, 0, z0, 73) := by rw [cod, ctab_234]; rfl
theorem k234_73 : cod 234 73 = some (0, 0, 0, vi (6), 75) := by rw [cod, ctab_234]; rfl
theorem k234_75 : cod 234 75 = some (28, 3, 109, z0, 78) := by rw [cod, ctab_234]; rfl
theorem k234_78 : cod 234 78 = some (4, 0, 0, z0, 79) := by rw [cod, ctab_234]; rfl
theorem k234_79 : cod 234 79 = some (29, 40, 42, z0, 82) := by rw [cod, ctab_234]; rfl
theorem k234_82 : cod 234 82 = some (0, 0, 0, vi (6), 84) := by rw [cod, ctab_234]; rfl
theorem k234_84 : cod 234 84 = some (2, 4, 0, z0, 86) := by rw [cod, ctab_234]; rfl
theorem k234_86 : cod 234 86 = some (9, 2, 0, z0, 87) := by rw [cod, ctab_234]; rfl
theorem k234_87 : cod 234 87 = some (2, 5, 0, z0, 89) := by rw [cod, ctab_234]; rfl
theorem k234_89 : cod 234 89 = some (9, 0, 0, z0, 90) := by rw [cod, ctab_234]; rfl
theorem k234_90 : cod 234 90 = some (4, 0, 0, z0, 91) := by rw [cod, ctab_234]; rfl
theorem k234_91 : cod 234 91 = some (29, 40, 42, z0, 94) := by rw [cod, ctab_234]; rfl
theorem k234_94 : cod 234 94 = some (0, 0, 0, vi (6), 96) := by rw [cod, ctab_234]; rfl
theorem k234_96 : cod 234 96 = some (2, 3, 0, z0, 97) := by rw [cod, ctab_234]; rfl
theorem k234_97 : cod 234 97 = some (9, 2, 0, z0, 98) := by rw [cod, ctab_234]; rfl
theorem k234_98 : cod 234 98 = some (2, 5, 0, z0, 100) := by rw [cod, ctab_234]; rfl
theorem k234_100 : cod 234 100 = some (9, 0, 0, z0, 101) := by rw [cod, ctab_234]; rfl
theorem k234_101 : cod 234 101 = some (31, 1, 0, z0, 102) := by rw [cod, ctab_234]; rfl
theorem k234_102 : cod 234 102 = some (32, 1, 0, z0, 103) := by rw [cod, ctab_234]; rfl
theorem k234_103 : cod 234 103 = some (8, 5, 0, vi (1), 106) := by rw [cod, ctab_234]; rfl
theorem k234_106 : cod 234 106 = some (26, 71, 0, z0, 109) := by rw [cod, ctab_234]; rfl
theorem k234_109 : cod 234 109 = some (2, 2, 0, z0, 110) := by rw [cod, ctab_234]; rfl
theorem k234_110 : cod 234 110 = some (27, 0, 137, z0, 113) := by rw [cod, ctab_234]; rfl
theorem k234_113 : cod 234 113 = some (4, 0, 0, z0, 114) := by rw [cod, ctab_234]; rfl
theorem k234_114 : cod 234 114 = some (29, 40, 46, z0, 117) := by rw [cod, ctab_234]; rfl
theorem k234_117 : cod 234 117 = some (0, 0, 0, vi (50), 119) := by rw [cod, ctab_234]; rfl
theorem k234_119 : cod 234 119 = some (2, 1, 0, z0, 120) := by rw [cod, ctab_234]; rfl
theorem k234_120 : cod 234 120 = some (9, 2, 0, z0, 121) := by rw [cod, ctab_234]; rfl
theorem k234_121 : cod 234 121 = some (4, 0, 0, z0, 122) := by rw [cod, ctab_234]; rfl
theorem k234_122 : cod 234 122 = some (29, 40, 43, z0, 125) := by rw [cod, ctab_234]; rfl
theorem k234_125 : cod 234 125 = some (0, 0, 0, z0, 126) := by rw [cod, ctab_234]; rfl
theorem k234_126 : cod 234 126 = some (34, 168, 4, z0, 129) := by rw [cod, ctab_234]; rfl
theorem k234_129 : cod 234 129 = some (4, 0, 0, z0, 130) := by rw [cod, ctab_234]; rfl
theorem k234_130 : cod 234 130 = some (0, 0, 0, z0, 131) := by rw [cod, ctab_234]; rfl
theorem k234_131 : cod 234 131 = some (30, 40, 49, z0, 134) := by rw [cod, ctab_234]; rfl
theorem k234_134 : cod 234 134 = some (26, 153, 0, z0, 137) := by rw [cod, ctab_234]; rfl
theorem k234_137 : cod 234 137 = some (4, 0, 0, z0, 138) := by rw [cod, ctab_234]; rfl
theorem k234_138 : cod 234 138 = some (29, 40, 43, z0, 141) := by rw [cod, ctab_234]; rfl
theorem k234_141 : cod 234 141 = some (0, 0, 0, z0, 142) := by rw [cod, ctab_234]; rfl
theorem k234_142 : cod 234 142 = some (4, 0, 0, z0, 143) := by rw [cod, ctab_234]; rfl
theorem k234_143 : cod 234 143 = some (29, 40, 46, z0, 146) := by rw [cod, ctab_234]; rfl
theorem k234_146 : cod 234 146 = some (0, 0, 0, vi (50), 148) := by rw [cod, ctab_234]; rfl
theorem k234_148 : cod 234 148 = some (2, 1, 0, z0, 149) := by rw [cod, ctab_234]; rfl
theorem k234_149 : cod 234 149 = some (9, 2, 0, z0, 150) := by rw [cod, ctab_234]; rfl
theorem k234_150 : cod 234 150 = some (34, 168, 4, z0, 153) := by rw [cod, ctab_234]; rfl
theorem k234_153 : cod 234 153 = some (0, 0, 0, vi (1), 154) := by rw [cod, ctab_234]; rfl
theorem k234_154 : cod 234 154 = some (36, 2, 0, z0, 155) := by rw [cod, ctab_234]; rfl
theorem ctab_235 : ctab.getD 235 [] = cd235 := rfl
theorem k235_0 : cod 235 0 = some (0, 0, 0, z0, 1) := by rw [cod, ctab_235]; rfl
theorem k235_1 : cod 235 1 = some (5, 3, 0, z0, 2) := by rw [cod, ctab_235]; rfl
theorem k235_2 : cod 235 2 = some (2, 1, 0, z0, 3) := by rw [cod, ctab_235]; rfl
theorem k235_3 : cod 235 3 = some (5, 4, 0, z0, 5) := by rw [cod, ctab_235]; rfl
theorem k235_5 : cod 235 5 = some (2, 4, 0, z0, 7) := by rw [cod, ctab_235]; rfl
theorem k235_7 : cod 235 7 = some (2, 1, 0, z0, 8) := by rw [cod, ctab_235]; rfl
theorem k235_8 : cod 235 8 = some (2, 2, 0, z0, 9) := by rw [cod, ctab_235]; rfl
theorem k235_9 : cod 235 9 = some (9, 0, 0, z0, 10) := by rw [cod, ctab_235]; rfl
theorem k235_10 : cod 235 10 = some (28, 3, 29, z0, 13) := by rw [cod, ctab_235]; rfl
theorem k235_13 : cod 235 13 = some (2, 3, 0, z0, 14) := by rw [cod, ctab_235]; rfl
theorem k235_14 : cod 235 14 = some (4, 0, 0, z0, 15) := by rw [cod, ctab_235]; rfl
theorem k235_15 : cod 235 15 = some (29, 40, 43, z0, 18) := by rw [cod, ctab_235]; rfl
theorem k235_18 : cod 235 18 = some (2, 4, 0, z0, 20) := by rw [cod, ctab_235]; rfl
theorem k235_20 : cod 235 20 = some (31, 1, 0, z0, 21) := by rw [cod, ctab_235]; rfl
theorem k235_21 : cod 235 21 = some (9, 0, 0, z0, 22) := by rw [cod, ctab_235]; rfl
theorem k235_22 : cod 235 22 = some (5, 3, 0, z0, 23) := by rw [cod, ctab_235]; rfl
theorem k235_23 : cod 235 23 = some (8, 4, 0, vi (1), 26) := by rw [cod, ctab_235]; rfl
theorem k235_26 : cod 235 26 = some (26, 5, 0, z0, 29) := by rw [cod, ctab_235]; rfl
theorem k235_29 : cod 235 29 = some (2, 3, 0, z0, 30) := by rw [cod, ctab_235]; rfl
theorem k235_30 : cod 235 30 = some (36, 1, 0, z0, 31) := by rw [cod, ctab_235]; rfl
theorem ctab_236 : ctab.getD 236 [] = cd236 := rfl
theorem k236_0 : cod 236 0 = some (0, 0, 0, z0, 1) := by rw [cod, ctab_236]; rfl
theorem k236_1 : cod 236 1 = some (5, 1, 0, z0, 2) := by rw [cod, ctab_236]; rfl
theorem k236_2 : cod 236 2 = some (0, 0, 0, z0, 3) := by rw [cod, ctab_236]; rfl
theorem k236_3 : cod 236 3 = some (5, 2, 0, z0, 4) := by rw [cod, ctab_236]; rfl
theorem k236_4 : cod 236 4 = some (2, 2, 0, z0, 5) := by rw [cod, ctab_236]; rfl
theorem k236_5 : cod 236 5 = some (4, 0, 0, z0, 6) := by rw [cod, ctab_236]; rfl
theorem k236_6 : cod 236 6 = some (29, 40, 10, z0, 9) := by rw [cod, ctab_236]; rfl
theorem k236_9 : cod 236 9 = some (0, 0, 0, vi (1), 10) := by rw [cod, ctab_236]; rfl
theorem k236_10 : cod 236 10 = some (31, 1, 0, z0, 11) := by rw [cod, ctab_236]; rfl
theorem k236_11 : cod 236 11 = some (28, 3, 37, z0, 14) := by rw [cod, ctab_236]; rfl
theorem k236_14 : cod 236 14 = some (2, 1, 0, z0, 15) := by rw [cod, ctab_236]; rfl
theorem k236_15 : cod 236 15 = some (4, 0, 0, z0, 16) := by rw [cod, ctab_236]; rfl
theorem k236_16 : cod 236 16 = some (29, 40, 42, z0, 19) := by rw [cod, ctab_236]; rfl
theorem k236_19 : cod 236 19 = some (2, 2, 0, z0, 20) := by rw [cod, ctab_236]; rfl
theorem k236_20 : cod 236 20 = some (31, 1, 0, z0, 21) := by rw [cod, ctab_236]; rfl
theorem k236_21 : cod 236 21 = some (27, 2, 28, z0, 24) := by rw [cod, ctab_236]; rfl
theorem k236_24 : cod 236 24 = some (0, 0, 0, vi (1), 25) := by rw [cod, ctab_236]; rfl
theorem k236_25 : cod 236 25 = some (26, 29, 0, z0, 28) := by rw [cod, ctab_236]; rfl
theorem k236_28 : cod 236 28 = some (0, 0, 0, z0, 29) := by rw [cod, ctab_236]; rfl
theorem k236_29 : cod 236 29 = some (9, 0, 0, z0, 30) := by rw [cod, ctab_236]; rfl
theorem k236_30 : cod 236 30 = some (5, 1, 0, z0, 31) := by rw [cod, ctab_236]; rfl
theorem k236_31 : cod 236 31 = some (8, 2, 0, vi (1), 34) := by rw [cod, ctab_236]; rfl
theorem k236_34 : cod 236 34 = some (26, 4, 0, z0, 37) := by rw [cod, ctab_236]; rfl
theorem k236_37 : cod 236 37 = some (2, 1, 0, z0, 38) := by rw [cod, ctab_236]; rfl
theorem k236_38 : cod 236 38 = some (36, 1, 0, z0, 39) := by rw [cod, ctab_236]; rfl
theorem ctab_237 : ctab.getD 237 [] = cd237 := rfl
theorem k237_0 : cod 237 0 = some (4, 0, 0, z0, 1) := by rw [cod, ctab_237]; rfl
theorem k237_1 : cod 237 1 = some (0, 0, 0, z0, 2) := by rw [cod, ctab_237]; rfl
theorem k237_2 : cod 237 2 = some (30, 40, 0, z0, 5) := by rw [cod, ctab_237]; rfl
theorem k237_5 : cod 237 5 = some (2, 1, 0, z0, 6) := by rw [cod, ctab_237]; rfl
theorem k237_6 : cod 237 6 = some (0, 0, 0, z0, 7) := by rw [cod, ctab_237]; rfl
theorem k237_7 : cod 237 7 = some (0, 0, 0, vi (12), 9) := by rw [cod, ctab_237]; rfl
theorem k237_9 : cod 237 9 = some (34, 130, 3, z0, 12) := by rw [cod, ctab_237]; rfl
theorem k237_12 : cod 237 12 = some (27, 1, 17, z0, 15) := by rw [cod, ctab_237]; rfl
theorem k237_15 : cod 237 15 = some (0, 0, 0, vi (-1), 16) := by rw [cod, ctab_237]; rfl
theorem k237_16 : cod 237 16 = some (36, 1, 0, z0, 17) := by rw [cod, ctab_237]; rfl
theorem k237_17 : cod 237 17 = some (2, 1, 0, z0, 18) := by rw [cod, ctab_237]; rfl
theorem k237_18 : cod 237 18 = some (0, 0, 0, vi (4), 19) := by rw [cod, ctab_237]; rfl
theorem k237_19 : cod 237 19 = some (28, 3, 29, z0, 22) := by rw [cod, ctab_237]; rfl
theorem k237_22 : cod 237 22 = some (4, 0, 0, z0, 23) := by rw [cod, ctab_237]; rfl
theorem k237_23 : cod 237 23 = some (29, 40, 10, z0, 26) := by rw [cod, ctab_237]; rfl
theorem k237_26 : cod 237 26 = some (2, 1, 0, z0, 27) := by rw [cod, ctab_237]; rfl
theorem k237_27 : cod 237 27 = some (31, 1, 0, z0, 28) := by rw [cod, ctab_237]; rfl
theorem k237_28 : cod 237 28 = some (36, 1, 0, z0, 29) := by rw [cod, ctab_237]; rfl
theorem k237_29 : cod 237 29 = some (2, 1, 0, z0, 30) := by rw [cod, ctab_237]; rfl
theorem k237_30 : cod 237 30 = some (0, 0, 0, vi (7), 32) := by rw [cod, ctab_237]; rfl
theorem k237_32 : cod 237 32 = some (28, 3, 68, z0, 35) := by rw [cod, ctab_237]; rfl
theorem k237_35 : cod 237 35 = some (2, 1, 0, z0, 36) := by rw [cod, ctab_237]; rfl
theorem k237_36 : cod 237 36 = some (0, 0, 0, vi (4), 37) := by rw [cod, ctab_237]; rfl
theorem k237_37 : cod 237 37 = some (28, 1, 49, z0, 40) := by rw [cod, ctab_237]; rfl
theorem k237_40 : cod 237 40 = some (4, 0, 0, z0, 41) := by rw [cod, ctab_237]; rfl
theorem k237_41 : cod 237 41 = some (29, 40, 43, z0, 44) := by rw [cod, ctab_237]; rfl
theorem k237_44 : cod 237 44 = some (0, 0, 0, z0, 45) := by rw [cod, ctab_237]; rfl
theorem k237_45 : cod 237 45 = some (31, 1, 0, z0, 46) := by rw [cod, ctab_237]; rfl
theorem k237_46 : cod 237 46 = some (26, 67, 0, z0, 49) := by rw [cod, ctab_237]; rfl
theorem k237_49 : cod 237 49 = some (2, 1, 0, z0, 50) := by rw [cod, ctab_237]; rfl
theorem k237_50 : cod 237 50 = some (0, 0, 0, vi (5), 51) := by rw [cod, ctab_237]; rfl
theorem k237_51 : cod 237 51 = some (28, 1, 61, z0, 54) := by rw [cod, ctab_237]; rfl
theorem k237_54 : cod 237 54 = some (4, 0, 0, z0, 55) := by rw [cod, ctab_237]; rfl
theorem k237_55 : cod 237 55 = some (34, 182, 1, vr 40 0, 58) := by rw [cod, ctab_237]; rfl
theorem k237_58 : cod 237 58 = some (26, 67, 0, z0, 61) := by rw [cod, ctab_237]; rfl
theorem k237_61 : cod 237 61 = some (4, 0, 0, z0, 62) := by rw [cod, ctab_237]; rfl
theorem k237_62 : cod 237 62 = some (29, 40, 43, z0, 65) := by rw [cod, ctab_237]; rfl
theorem k237_65 : cod 237 65 = some (0, 0, 0, vi (1), 66) := by rw [cod, ctab_237]; rfl
theorem k237_66 : cod 237 66 = some (31, 1, 0, z0, 67) := by rw [cod, ctab_237]; rfl
theorem k237_67 : cod 237 67 = some (36, 1, 0, z0, 68) := by rw [cod, ctab_237]; rfl
theorem k237_68 : cod 237 68 = some (2, 1, 0, z0, 69) := by rw [cod, ctab_237]; rfl
theorem k237_69 : cod 237 69 = some (0, 0, 0, vi (9), 71) := by rw [cod, ctab_237]; rfl
theorem k237_71 : cod 237 71 = some (28, 3, 100, z0, 74) := by rw [cod, ctab_237]; rfl
theorem k237_74 : cod 237 74 = some (2, 1, 0, z0, 75) := by rw [cod, ctab_237]; rfl
theorem k237_75 : cod 237 75 = some (0, 0, 0, vi (7), 77) := by rw [cod, ctab_237]; rfl
theorem k237_77 : cod 237 77 = some (28, 1, 91, z0, 80) := by rw [cod, ctab_237]; rfl
theorem k237_80 : cod 237 80 = some (4, 0, 0, z0, 81) := by rw [cod, ctab_237]; rfl
theorem k237_81 : cod 237 81 = some (0, 0, 0, vi (8), 83) := by rw [cod, ctab_237]; rfl
theorem k237_83 : cod 237 83 = some (0, 0, 0, vi (6), 85) := by rw [cod, ctab_237]; rfl
theorem k237_85 : cod 237 85 = some (34, 235, 3, vr 40 0, 88) := by rw [cod, ctab_237]; rfl
theorem k237_88 : cod 237 88 = some (26, 99, 0, z0, 91) := by rw [cod, ctab_237]; rfl
theorem k237_91 : cod 237 91 = some (4, 0, 0, z0, 92) := by rw [cod, ctab_237]; rfl
theorem k237_92 : cod 237 92 = some (0, 0, 0, vi (14), 94) := by rw [cod, ctab_237]; rfl
theorem k237_94 : cod 237 94 = some (0, 0, 0, vi (36), 96) := by rw [cod, ctab_237]; rfl
theorem k237_96 : cod 237 96 = some (34, 235, 3, vr 40 0, 99) := by rw [cod, ctab_237]; rfl
theorem k237_99 : cod 237 99 = some (36, 1, 0, z0, 100) := by rw [cod, ctab_237]; rfl
theorem k237_100 : cod 237 100 = some (2, 1, 0, z0, 101) := by rw [cod, ctab_237]; rfl
theorem k237_101 : cod 237 101 = some (0, 0, 0, vi (11), 103) := by rw [cod, ctab_237]; rfl
theorem k237_103 : cod 237 103 = some (28, 3, 126, z0, 106) := by rw [cod, ctab_237]; rfl
theorem k237_106 : cod 237 106 = some (2, 1, 0, z0, 107) := by rw [cod, ctab_237]; rfl
theorem k237_107 : cod 237 107 = some (0, 0, 0, vi (9), 109) := by rw [cod, ctab_237]; rfl
theorem k237_109 : cod 237 109 = some (28, 1, 121, z0, 112) := by rw [cod, ctab_237]; rfl
theorem k237_112 : cod 237 112 = some (4, 0, 0, z0, 113) := by rw [cod, ctab_237]; rfl
theorem k237_113 : cod 237 113 = some (29, 40, 38, z0, 116) := by rw [cod, ctab_237]; rfl
theorem k237_116 : cod 237 116 = some (0, 0, 0, z0, 117) := by rw [cod, ctab_237]; rfl
theorem k237_117 : cod 237 117 = some (31, 1, 0, z0, 118) := by rw [cod, ctab_237]; rfl
theorem k237_118 : cod 237 118 = some (26, 125, 0, z0, 121) := by rw [cod, ctab_237]; rfl
theorem k237_121 : cod 237 121 = some (4, 0, 0, z0, 122) := by rw [cod, ctab_237]; rfl
theorem k237_122 : cod 237 122 = some (34, 236, 1, vr 40 0, 125) := by rw [cod, ctab_237]; rfl
theorem k237_125 : cod 237 125 = some (36, 1, 0, z0, 126) := by rw [cod, ctab_237]; rfl
theorem k237_126 : cod 237 126 = some (2, 1, 0, z0, 127) := by rw [cod, ctab_237]; rfl
theorem k237_127 : cod 237 127 = some (0, 0, 0, vi (11), 129) := by rw [cod, ctab_237]; rfl
theorem k237_129 : cod 237 129 = some (28, 1, 139, z0, 132) := by rw [cod, ctab_237]; rfl
theorem k237_132 : cod 237 132 = some (4, 0, 0, z0, 133) := by rw [cod, ctab_237]; rfl
theorem k237_133 : cod 237 133 = some (29, 40, 49, z0, 136) := by rw [cod, ctab_237]; rfl
theorem k237_136 : cod 237 136 = some (26, 143, 0, z0, 139) := by rw [cod, ctab_237]; rfl
theorem k237_139 : cod 237 139 = some (4, 0, 0, z0, 140) := by rw [cod, ctab_237]; rfl
theorem k237_140 : cod 237 140 = some (29, 40, 1, z0, 143) := by rw [cod, ctab_237]; rfl
theorem k237_143 : cod 237 143 = some (36, 1, 0, z0, 144) := by rw [cod, ctab_237]; rfl
theorem ctab_238 : ctab.getD 238 [] = cd238 := rfl
theorem k238_0 : cod 238 0 = some (2, 0, 0, z0, 1) := by rw [cod, ctab_238]; rfl
theorem k238_1 : cod 238 1 = some (2, 0, 0, z0, 2) := by rw [cod, ctab_238]; rfl
theorem k238_2 : cod 238 2 = some (0, 0, 0, vi (1), 3) := by rw [cod, ctab_238]; rfl
theorem k238_3 : cod 238 3 = some (9, 8, 0, z0, 4) := by rw [cod, ctab_238]; rfl
theorem k238_4 : cod 238 4 = some (0, 0, 0, vi (1431655765), 7) := by rw [cod, ctab_238]; rfl
theorem k238_7 : cod 238 7 = some (9, 3, 0, z0, 8) := by rw [cod, ctab_238]; rfl
theorem k238_8 : cod 238 8 = some (9, 1, 0, z0, 9) := by rw [cod, ctab_238]; rfl
theorem k238_9 : cod 238 9 = some (5, 0, 0, z0, 10) := by rw [cod, ctab_238]; rfl
theorem k238_10 : cod 238 10 = some (2, 0, 0, z0, 11) := by rw [cod, ctab_238]; rfl
theorem k238_11 : cod 238 11 = some (0, 0, 0, vi (858993459), 14) := by rw [cod, ctab_238]; rfl
theorem k238_14 : cod 238 14 = some (9, 3, 0, z0, 15) := by rw [cod, ctab_238]; rfl
theorem k238_15 : cod 238 15 = some (2, 0, 0, z0, 16) := by rw [cod, ctab_238]; rfl
theorem k238_16 : cod 238 16 = some (0, 0, 0, vi (2), 17) := by rw [cod, ctab_238]; rfl
theorem k238_17 : cod 238 17 = some (9, 8, 0, z0, 18) := by rw [cod, ctab_238]; rfl
theorem k238_18 : cod 238 18 = some (0, 0, 0, vi (858993459), 21) := by rw [cod, ctab_238]; rfl
theorem k238_21 : cod 238 21 = some (9, 3, 0, z0, 22) := by rw [cod, ctab_238]; rfl
theorem k238_22 : cod 238 22 = some (9, 0, 0, z0, 23) := by rw [cod, ctab_238]; rfl
theorem k238_23 : cod 238 23 = some (5, 0, 0, z0, 24) := by rw [cod, ctab_238]; rfl
theorem k238_24 : cod 238 24 = some (2, 0, 0, z0, 25) := by rw [cod, ctab_238]; rfl
theorem k238_25 : cod 238 25 = some (2, 0, 0, z0, 26) := by rw [cod, ctab_238]; rfl
theorem k238_26 : cod 238 26 = some (0, 0, 0, vi (4), 27) := by rw [cod, ctab_238]; rfl
theorem k238_27 : cod 238 27 = some (9, 8, 0, z0, 28) := by rw [cod, ctab_238]; rfl
theorem k238_28 : cod 238 28 = some (9, 0, 0, z0, 29) := by rw [cod, ctab_238]; rfl
theorem k238_29 : cod 238 29 = some (0, 0, 0, vi (252645135), 32) := by rw [cod, ctab_238]; rfl
theorem k238_32 : cod 238 32 = some (9, 3, 0, z0, 33) := by rw [cod, ctab_238]; rfl
theorem k238_33 : cod 238 33 = some (5, 0, 0, z0, 34) := by rw [cod, ctab_238]; rfl
theorem k238_34 : cod 238 34 = some (2, 0, 0, z0, 35) := by rw [cod, ctab_238]; rfl
theorem k238_35 : cod 238 35 = some (2, 0, 0, z0, 36) := by rw [cod, ctab_238]; rfl
theorem k238_36 : cod 238 36 = some (0, 0, 0, vi (8), 38) := by rw [cod, ctab_238]; rfl
theorem k238_38 : cod 238 38 = some (9, 8, 0, z0, 39) := by rw [cod, ctab_238]; rfl
theorem k238_39 : cod 238 39 = some (9, 0, 0, z0, 40) := by rw [cod, ctab_238]; rfl
theorem k238_40 : cod 238 40 = some (5, 0, 0, z0, 41) := by rw [cod, ctab_238]; rfl
theorem k238_41 : cod 238 41 = some (2, 0, 0, z0, 42) := by rw [cod, ctab_238]; rfl
theorem k238_42 : cod 238 42 = some (2, 0, 0, z0, 43) := by rw [cod, ctab_238]; rfl
theorem k238_43 : cod 238 43 = some (0, 0, 0, vi (16), 45) := by rw [cod, ctab_238]; rfl
theorem k238_45 : cod 238 45 = some (9, 8, 0, z0, 46) := by rw [cod, ctab_238]; rfl
theorem k238_46 : cod 238 46 = some (9, 0, 0, z0, 47) := by rw [cod, ctab_238]; rfl
theorem k238_47 : cod 238 47 = some (5, 0, 0, z0, 48) := by rw [cod, ctab_238]; rfl
theorem k238_48 : cod 238 48 = some (2, 0, 0, z0, 49) := by rw [cod, ctab_238]; rfl
theorem k238_49 : cod 238 49 = some (0, 0, 0, vi (63), 51) := by rw [cod, ctab_238]; rfl
theorem k238_51 : cod 238 51 = some (9, 3, 0, z0, 52) := by rw [cod, ctab_238]; rfl
theorem k238_52 : cod 238 52 = some (36, 1, 0, z0, 53) := by rw [cod, ctab_238]; rfl
theorem ctab_239 : ctab.getD 239 [] = cd239 := rfl
theorem k239_0 : cod 239 0 = some (4, 0, 0, z0, 1) := by rw [cod, ctab_239]; rfl
theorem k239_1 : cod 239 1 = some (29, 90, 0, z0, 4) := by rw [cod, ctab_239]; rfl
theorem k239_4 : cod 239 4 = some (33, 0, 0, z0, 5) := by rw [cod, ctab_239]; rfl
theorem k239_5 : cod 239 5 = some (4, 0, 0, z0, 6) := by rw [cod, ctab_239]; rfl
theorem k239_6 : cod 239 6 = some (34, 243, 1, vr 90 0, 9) := by rw [cod, ctab_239]; rfl
theorem k239_9 : cod 239 9 = some (9, 7, 0, z0, 10) := by rw [cod, ctab_239]; rfl
theorem k239_10 : cod 239 10 = some (36, 1, 0, z0, 11) := by rw [cod, ctab_239]; rfl
theorem ctab_240 : ctab.getD 240 [] = cd240 := rfl
theorem k240_0 : cod 240 0 = some (4, 0, 0, z0, 1) := by rw [cod, ctab_240]; rfl
theorem k240_1 : cod 240 1 = some (34, 244, 1, vr 90 0, 4) := by rw [cod, ctab_240]; rfl
theorem k240_4 : cod 240 4 = some (27, 0, 16, z0, 7) := by rw [cod, ctab_240]; rfl
theorem k240_7 : cod 240 7 = some (4, 0, 0, z0, 8) := by rw [cod, ctab_240]; rfl
theorem k240_8 : cod 240 8 = some (29, 90, 0, z0, 11) := by rw [cod, ctab_240]; rfl
theorem k240_11 : cod 240 11 = some (2, 1, 0, z0, 12) := by rw [cod, ctab_240]; rfl
theorem k240_12 : cod 240 12 = some (34, 246, 2, z0, 15) := by rw [cod, ctab_240]; rfl
theorem k240_15 : cod 240 15 = some (36, 3, 0, z0, 16) := by rw [cod, ctab_240]; rfl
theorem k240_16 : cod 240 16 = some (4, 0, 0, z0, 17) := by rw [cod, ctab_240]; rfl
theorem k240_17 : cod 240 17 = some (29, 90, 0, z0, 20) := by rw [cod, ctab_240]; rfl
theorem k240_20 : cod 240 20 = some (2, 1, 0, z0, 21) := by rw [cod, ctab_240]; rfl
theorem k240_21 : cod 240 21 = some (99, 0, 0, z0, 24) := by rw [cod, ctab_240]; rfl
theorem k240_24 : cod 240 24 = some (36, 3, 0, z0, 25) := by rw [cod, ctab_240]; rfl
theorem ctab_241 : ctab.getD 241 [] = cd241 := rfl
theorem k241_0 : cod 241 0 = some (4, 0, 0, z0, 1) := by rw [cod, ctab_241]; rfl
theorem k241_1 : cod 241 1 = some (2, 1, 0, z0, 2) := by rw [cod, ctab_241]; rfl
theorem k241_2 : cod 241 2 = some (0, 0, 0, z0, 3) := by rw [cod, ctab_241]; rfl
theorem k241_3 : cod 241 3 = some (34, 242, 3, vr 90 0, 6) := by rw [cod, ctab_241]; rfl
theorem k241_6 : cod 241 6 = some (36, 1, 0, z0, 7) := by rw [cod, ctab_241]; rfl
theorem ctab_242 : ctab.getD 242 [] = cd242 := rfl
theorem k242_0 : cod 242 0 = some (4, 0, 0, z0, 1) := by rw [cod, ctab_242]; rfl
theorem k242_1 : cod 242 1 = some (34, 244, 1, vr 90 0, 4) := by rw [cod, ctab_242]; rfl
theorem k242_4 : cod 242 4 = some (27, 0, 23, z0, 7) := by rw [cod, ctab_242]; rfl
theorem k242_7 : cod 242 7 = some (4, 0, 0, z0, 8) := by rw [cod, ctab_242]; rfl
theorem k242_8 : cod 242 8 = some (29, 90, 0, z0, 11) := by rw [cod, ctab_242]; rfl
theorem k242_11 : cod 242 11 = some (2, 1, 0, z0, 12) := by rw [cod, ctab_242]; rfl
theorem k242_12 : cod 242 12 = some (2, 2, 0, z0, 13) := by rw [cod, ctab_242]; rfl
theorem k242_13 : cod 242 13 = some (4, 0, 0, z0, 14) := by rw [cod, ctab_242]; rfl
theorem k242_14 : cod 242 14 = some (34, 239, 1, vr 90 0, 17) := by rw [cod, ctab_242]; rfl
theorem k242_17 : cod 242 17 = some (34, 248, 4, z0, 20) := by rw [cod, ctab_242]; rfl
theorem k242_20 : cod 242 20 = some (26, 36, 0, z0, 23) := by rw [cod, ctab_242]; rfl
theorem k242_23 : cod 242 23 = some (4, 0, 0, z0, 24) := by rw [cod, ctab_242]; rfl
theorem k242_24 : cod 242 24 = some (29, 90, 0, z0, 27) := by rw [cod, ctab_242]; rfl
theorem k242_27 : cod 242 27 = some (2, 1, 0, z0, 28) := by rw [cod, ctab_242]; rfl
theorem k242_28 : cod 242 28 = some (2, 2, 0, z0, 29) := by rw [cod, ctab_242]; rfl
theorem k242_29 : cod 242 29 = some (4, 0, 0, z0, 30) := by rw [cod, ctab_242]; rfl
theorem k242_30 : cod 242 30 = some (34, 239, 1, vr 90 0, 33) := by rw [cod, ctab_242]; rfl
theorem k242_33 : cod 242 33 = some (99, 0, 0, z0, 36) := by rw [cod, ctab_242]; rfl
theorem k242_36 : cod 242 36 = some (36, 1, 0, z0, 37) := by rw [cod, ctab_242]; rfl
theorem ctab_243 : ctab.getD 243 [] = cd243 := rfl
theorem k243_0 : cod 243 0 = some (0, 0, 0, vi (1), 3) := by rw [cod, ctab_243]; rfl
theorem k243_3 : cod 243 3 = some (27, 0, 13, z0, 6) := by rw [cod, ctab_243]; rfl
theorem k243_6 : cod 243 6 = some (4, 0, 0, z0, 7) := by rw [cod, ctab_243]; rfl
theorem k243_7 : cod 243 7 = some (29, 90, 1, z0, 10) := by rw [cod, ctab_243]; rfl
theorem k243_10 : cod 243 10 = some (26, 14, 0, z0, 13) := by rw [cod, ctab_243]; rfl
theorem k243_13 : cod 243 13 = some (0, 0, 0, vi (1), 14) := by rw [cod, ctab_243]; rfl
theorem k243_14 : cod 243 14 = some (36, 4, 0, z0, 15) := by rw [cod, ctab_243]; rfl
theorem ctab_244 : ctab.getD 244 [] = cd244 := rfl
theorem k244_0 : cod 244 0 = some (0, 0, 0, vi (1), 3) := by rw [cod, ctab_244]; rfl
theorem k244_3 : cod 244 3 = some (27, 0, 17, z0, 6) := by rw [cod, ctab_244]; rfl
theorem k244_6 : cod 244 6 = some (4, 0, 0, z0, 7) := by rw [cod, ctab_244]; rfl
theorem k244_7 : cod 244 7 = some (29, 90, 1, z0, 10) := by rw [cod, ctab_244]; rfl
theorem k244_10 : cod 244 10 = some (27, 1, 17, z0, 13) := by rw [cod, ctab_244]; rfl
theorem k244_13 : cod 244 13 = some (0, 0, 0, vi (1), 14) := by rw [cod, ctab_244]; rfl
theorem k244_14 : cod 244 14 = some (26, 18, 0, z0, 17) := by rw [cod, ctab_244]; rfl
theorem k244_17 : cod 244 17 = some (0, 0, 0, z0, 18) := by rw [cod, ctab_244]; rfl
theorem k244_18 : cod 244 18 = some (36, 2, 0, z0, 19) := by rw [cod, ctab_244]; rfl
theorem ctab_245 : ctab.getD 245 [] = cd245 := rfl
theorem k245_0 : cod 245 0 = some (2, 0, 0, z0, 1) := by rw [cod, ctab_245]; rfl
theorem k245_1 : cod 245 1 = some (2, 1, 0, z0, 2) := by rw [cod, ctab_245]; rfl
theorem k245_2 : cod 245 2 = some (0, 0, 0, vr 99 0, 5) := by rw [cod, ctab_245]; rfl
theorem k245_5 : cod 245 5 = some (34, 251, 3, z0, 8) := by rw [cod, ctab_245]; rfl
theorem k245_8 : cod 245 8 = some (25, 0, 0, z0, 9) := by rw [cod, ctab_245]; rfl
theorem k245_9 : cod 245 9 = some (35, 0, 0, z0, 10) := by rw [cod, ctab_245]; rfl
theorem ctab_246 : ctab.getD 246 [] = cd246 := rfl
theorem k246_0 : cod 246 0 = some (2, 1, 0, z0, 1) := by rw [cod, ctab_246]; rfl
theorem k246_1 : cod 246 1 = some (4, 0, 0, z0, 2) := by rw [cod, ctab_246]; rfl
theorem k246_2 : cod 246 2 = some (33, 0, 0, z0, 3) := by rw [cod, ctab_246]; rfl
theorem k246_3 : cod 246 3 = some (34, 245, 2, z0, 6) := by rw [cod, ctab_246]; rfl
theorem k246_6 : cod 246 6 = some (4, 0, 0, z0, 7) := by rw [cod, ctab_246]; rfl
theorem k246_7 : cod 246 7 = some (2, 1, 0, z0, 8) := by rw [cod, ctab_246]; rfl
theorem k246_8 : cod 246 8 = some (31, 3, 0, z0, 9) := by rw [cod, ctab_246]; rfl
theorem k246_9 : cod 246 9 = some (0, 0, 0, vi (255), 12) := by rw [cod, ctab_246]; rfl
theorem k246_12 : cod 246 12 = some (9, 3, 0, z0, 13) := by rw [cod, ctab_246]; rfl
theorem k246_13 : cod 246 13 = some (21, 0, 0, z0, 14) := by rw [cod, ctab_246]; rfl
theorem k246_14 : cod 246 14 = some (36, 3, 0, z0, 15) := by rw [cod, ctab_246]; rfl
theorem ctab_247 : ctab.getD 247 [] = cd247 := rfl
theorem k247_0 : cod 247 0 = some (2, 0, 0, z0, 1) := by rw [cod, ctab_247]; rfl
theorem k247_1 : cod 247 1 = some (27, 2, 15, z0, 4) := by rw [cod, ctab_247]; rfl
theorem k247_4 : cod 247 4 = some (2, 0, 0, z0, 5) := by rw [cod, ctab_247]; rfl
theorem k247_5 : cod 247 5 = some (0, 0, 0, vi (255), 8) := by rw [cod, ctab_247]; rfl
theorem k247_8 : cod 247 8 = some (28, 4, 15, z0, 11) := by rw [cod, ctab_247]; rfl
theorem k247_11 : cod 247 11 = some (0, 0, 0, vi (1), 12) := by rw [cod, ctab_247]; rfl
theorem k247_12 : cod 247 12 = some (26, 16, 0, z0, 15) := by rw [cod, ctab_247]; rfl
theorem k247_15 : cod 247 15 = some (0, 0, 0, z0, 16) := by rw [cod, ctab_247]; rfl
theorem k247_16 : cod 247 16 = some (36, 2, 0, z0, 17) := by rw [cod, ctab_247]; rfl
theorem ctab_248 : ctab.getD 248 [] = cd248 := rfl
theorem k248_0 : cod 248 0 = some (2, 1, 0, z0, 1) := by rw [cod, ctab_248]; rfl
theorem k248_1 : cod 248 1 = some (34, 247, 1, z0, 4) := by rw [cod, ctab_248]; rfl
theorem k248_4 : cod 248 4 = some (27, 1, 9, z0, 7) := by rw [cod, ctab_248]; rfl
theorem k248_7 : cod 248 7 = some (0, 0, 0, vi (-1), 8) := by rw [cod, ctab_248]; rfl
theorem k248_8 : cod 248 8 = some (36, 1, 0, z0, 9) := by rw [cod, ctab_248]; rfl
theorem k248_9 : cod 248 9 = some (2, 2, 0, z0, 10) := by rw [cod, ctab_248]; rfl
theorem k248_10 : cod 248 10 = some (0, 0, 0, z0, 11) := by rw [cod, ctab_248]; rfl
theorem k248_11 : cod 248 11 = some (47, 0, 0, z0, 14) := by rw [cod, ctab_248]; rfl
theorem k248_14 : cod 248 14 = some (5, 2, 0, z0, 15) := by rw [cod, ctab_248]; rfl
theorem k248_15 : cod 248 15 = some (2, 3, 0, z0, 16) := by rw [cod, ctab_248]; rfl
theorem k248_16 : cod 248 16 = some (4, 0, 0, z0, 17) := by rw [cod, ctab_248]; rfl
theorem k248_17 : cod 248 17 = some (33, 0, 0, z0, 18) := by rw [cod, ctab_248]; rfl
theorem k248_18 : cod 248 18 = some (48, 0, 0, z0, 21) := by rw [cod, ctab_248]; rfl
theorem k248_21 : cod 248 21 = some (5, 3, 0, z0, 22) := by rw [cod, ctab_248]; rfl
theorem k248_22 : cod 248 22 = some (2, 2, 0, z0, 23) := by rw [cod, ctab_248]; rfl
theorem k248_23 : cod 248 23 = some (2, 3, 0, z0, 24) := by rw [cod, ctab_248]; rfl
theorem k248_24 : cod 248 24 = some (28, 2, 29, z0, 27) := by rw [cod, ctab_248]; rfl
theorem k248_27 : cod 248 27 = some (0, 0, 0, vi (-1), 28) := by rw [cod, ctab_248]; rfl
theorem k248_28 : cod 248 28 = some (36, 1, 0, z0, 29) := by rw [cod, ctab_248]; rfl
theorem k248_29 : cod 248 29 = some (4, 0, 0, z0, 30) := by rw [cod, ctab_248]; rfl
theorem k248_30 : cod 248 30 = some (2, 1, 0, z0, 31) := by rw [cod, ctab_248]; rfl
theorem k248_31 : cod 248 31 = some (2, 2, 0, z0, 32) := by rw [cod, ctab_248]; rfl
theorem k248_32 : cod 248 32 = some (2, 3, 0, z0, 33) := by rw [cod, ctab_248]; rfl
theorem k248_33 : cod 248 33 = some (34, 249, 4, z0, 36) := by rw [cod, ctab_248]; rfl
theorem k248_36 : cod 248 36 = some (36, 1, 0, z0, 37) := by rw [cod, ctab_248]; rfl
theorem ctab_249 : ctab.getD 249 [] = cd249 := rfl
theorem k249_0 : cod 249 0 = some (2, 1, 0, z0, 1) := by rw [cod, ctab_249]; rfl
theorem k249_1 : cod 249 1 = some (22, 0, 0, z0, 2) := by rw [cod, ctab_249]; rfl
theorem k249_2 : cod 249 2 = some (5, 4, 0, z0, 4) := by rw [cod, ctab_249]; rfl
theorem k249_4 : cod 249 4 = some (2, 2, 0, z0, 5) := by rw [cod, ctab_249]; rfl
theorem k249_5 : cod 249 5 = some (5, 5, 0, z0, 7) := by rw [cod, ctab_249]; rfl
theorem k249_7 : cod 249 7 = some (2, 5, 0, z0, 9) := by rw [cod, ctab_249]; rfl
theorem k249_9 : cod 249 9 = some (2, 3, 0, z0, 10) := by rw [cod, ctab_249]; rfl
theorem k249_10 : cod 249 10 = some (28, 3, 31, z0, 13) := by rw [cod, ctab_249]; rfl
theorem k249_13 : cod 249 13 = some (4, 0, 0, z0, 14) := by rw [cod, ctab_249]; rfl
theorem k249_14 : cod 249 14 = some (2, 5, 0, z0, 16) := by rw [cod, ctab_249]; rfl
theorem k249_16 : cod 249 16 = some (31, 3, 0, z0, 17) := by rw [cod, ctab_249]; rfl
theorem k249_17 : cod 249 17 = some (2, 4, 0, z0, 19) := by rw [cod, ctab_249]; rfl
theorem k249_19 : cod 249 19 = some (28, 1, 25, z0, 22) := by rw [cod, ctab_249]; rfl
theorem k249_22 : cod 249 22 = some (2, 5, 0, z0, 24) := by rw [cod, ctab_249]; rfl
theorem k249_24 : cod 249 24 = some (36, 1, 0, z0, 25) := by rw [cod, ctab_249]; rfl
theorem k249_25 : cod 249 25 = some (8, 5, 0, vi (1), 28) := by rw [cod, ctab_249]; rfl
theorem k249_28 : cod 249 28 = some (26, 7, 0, z0, 31) := by rw [cod, ctab_249]; rfl
theorem k249_31 : cod 249 31 = some (0, 0, 0, vi (-1), 32) := by rw [cod, ctab_249]; rfl
theorem k249_32 : cod 249 32 = some (36, 1, 0, z0, 33) := by rw [cod, ctab_249]; rfl
theorem ctab_250 : ctab.getD 250 [] = cd250 := rfl
theorem k250_0 : cod 250 0 = some (0, 0, 0, z0, 1) := by rw [cod, ctab_250]; rfl
theorem k250_1 : cod 250 1 = some (5, 2, 0, z0, 2) := by rw [cod, ctab_250]; rfl
theorem k250_2 : cod 250 2 = some (4, 0, 0, z0, 3) := by rw [cod, ctab_250]; rfl
theorem k250_3 : cod 250 3 = some (33, 0, 0, z0, 4) := by rw [cod, ctab_250]; rfl
theorem k250_4 : cod 250 4 = some (5, 3, 0, z0, 5) := by rw [cod, ctab_250]; rfl
theorem k250_5 : cod 250 5 = some (2, 2, 0, z0, 6) := by rw [cod, ctab_250]; rfl
theorem k250_6 : cod 250 6 = some (2, 3, 0, z0, 7) := by rw [cod, ctab_250]; rfl
theorem k250_7 : cod 250 7 = some (28, 3, 20, z0, 10) := by rw [cod, ctab_250]; rfl
theorem k250_10 : cod 250 10 = some (4, 0, 0, z0, 11) := by rw [cod, ctab_250]; rfl
theorem k250_11 : cod 250 11 = some (2, 2, 0, z0, 12) := by rw [cod, ctab_250]; rfl
theorem k250_12 : cod 250 12 = some (2, 1, 0, z0, 13) := by rw [cod, ctab_250]; rfl
theorem k250_13 : cod 250 13 = some (32, 1, 0, z0, 14) := by rw [cod, ctab_250]; rfl
theorem k250_14 : cod 250 14 = some (8, 2, 0, vi (1), 17) := by rw [cod, ctab_250]; rfl
theorem k250_17 : cod 250 17 = some (26, 5, 0, z0, 20) := by rw [cod, ctab_250]; rfl
theorem k250_20 : cod 250 20 = some (35, 0, 0, z0, 21) := by rw [cod, ctab_250]; rfl
theorem ctab_251 : ctab.getD 251 [] = cd251 := rfl
theorem k251_0 : cod 251 0 = some (2, 0, 0, z0, 1) := by rw [cod, ctab_251]; rfl
theorem k251_1 : cod 251 1 = some (27, 2, 9, z0, 4) := by rw [cod, ctab_251]; rfl
theorem k251_4 : cod 251 4 = some (2, 0, 0, z0, 5) := by rw [cod, ctab_251]; rfl
theorem k251_5 : cod 251 5 = some (2, 1, 0, z0, 6) := by rw [cod, ctab_251]; rfl
theorem k251_6 : cod 251 6 = some (28, 2, 16, z0, 9) := by rw [cod, ctab_251]; rfl
theorem k251_9 : cod 251 9 = some (4, 2, 0, z0, 10) := by rw [cod, ctab_251]; rfl
theorem k251_10 : cod 251 10 = some (2, 0, 0, z0, 11) := by rw [cod, ctab_251]; rfl
theorem k251_11 : cod 251 11 = some (2, 1, 0, z0, 12) := by rw [cod, ctab_251]; rfl
theorem k251_12 : cod 251 12 = some (99, 0, 0, z0, 15) := by rw [cod, ctab_251]; rfl
theorem k251_15 : cod 251 15 = some (99, 0, 0, z0, 16) := by rw [cod, ctab_251]; rfl
theorem k251_16 : cod 251 16 = some (2, 0, 0, z0, 17) := by rw [cod, ctab_251]; rfl
theorem k251_17 : cod 251 17 = some (36, 1, 0, z0, 18) := by rw [cod, ctab_251]; rfl

/-! FACTS OF THE FIXED CELLS (written by wip/gen/sgen.py) -/
section FACTS
theorem k_2 {h : MH} (L : lay h) : kd h 2 = 24 := L.2.1 2 (by decide)
theorem n_2 {h : MH} (L : lay h) : ln h 2 = 5 := L.2.2.1 2 (by decide) (by decide)
theorem k_3 {h : MH} (L : lay h) : kd h 3 = 24 := L.2.1 3 (by decide)
theorem n_3 {h : MH} (L : lay h) : ln h 3 = 5 := L.2.2.1 3 (by decide) (by decide)
theorem k_4 {h : MH} (L : lay h) : kd h 4 = 25 := L.2.1 4 (by decide)
theorem k_5 {h : MH} (L : lay h) : kd h 5 = 25 := L.2.1 5 (by decide)
theorem k_6 {h : MH} (L : lay h) : kd h 6 = 26 := L.2.1 6 (by decide)
theorem n_6 {h : MH} (L : lay h) : ln h 6 = 118 := L.2.2.1 6 (by decide) (by decide)
theorem k_7 {h : MH} (L : lay h) : kd h 7 = 26 := L.2.1 7 (by decide)
theorem n_7 {h : MH} (L : lay h) : ln h 7 = 11 := L.2.2.1 7 (by decide) (by decide)
theorem k_8 {h : MH} (L : lay h) : kd h 8 = 11 := L.2.1 8 (by decide)
theorem n_8 {h : MH} (L : lay h) : ln h 8 = 7 := L.2.2.1 8 (by decide) (by decide)
theorem k_9 {h : MH} (L : lay h) : kd h 9 = 1 := L.2.1 9 (by decide)
theorem n_9 {h : MH} (L : lay h) : ln h 9 = 9 := L.2.2.1 9 (by decide) (by decide)
theorem k_10 {h : MH} (L : lay h) : kd h 10 = 10 := L.2.1 10 (by decide)
theorem n_10 {h : MH} (L : lay h) : ln h 10 = 11 := L.2.2.1 10 (by decide) (by decide)
theorem k_11 {h : MH} (L : lay h) : kd h 11 = 20 := L.2.1 11 (by decide)
theorem n_11 {h : MH} (L : lay h) : ln h 11 = 4 := L.2.2.1 11 (by decide) (by decide)
theorem k_12 {h : MH} (L : lay h) : kd h 12 = 20 := L.2.1 12 (by decide)
theorem n_12 {h : MH} (L : lay h) : ln h 12 = 4 := L.2.2.1 12 (by decide) (by decide)
theorem k_13 {h : MH} (L : lay h) : kd h 13 = 20 := L.2.1 13 (by decide)
theorem n_13 {h : MH} (L : lay h) : ln h 13 = 4 := L.2.2.1 13 (by decide) (by decide)
theorem k_14 {h : MH} (L : lay h) : kd h 14 = 20 := L.2.1 14 (by decide)
theorem n_14 {h : MH} (L : lay h) : ln h 14 = 9 := L.2.2.1 14 (by decide) (by decide)
theorem k_15 {h : MH} (L : lay h) : kd h 15 = 20 := L.2.1 15 (by decide)
theorem n_15 {h : MH} (L : lay h) : ln h 15 = 30 := L.2.2.1 15 (by decide) (by decide)
theorem k_16 {h : MH} (L : lay h) : kd h 16 = 20 := L.2.1 16 (by decide)
theorem n_16 {h : MH} (L : lay h) : ln h 16 = 7 := L.2.2.1 16 (by decide) (by decide)
theorem k_17 {h : MH} (L : lay h) : kd h 17 = 7 := L.2.1 17 (by decide)
theorem n_17 {h : MH} (L : lay h) : ln h 17 = 3 := L.2.2.1 17 (by decide) (by decide)
theorem k_18 {h : MH} (L : lay h) : kd h 18 = 20 := L.2.1 18 (by decide)
theorem n_18 {h : MH} (L : lay h) : ln h 18 = 1457 := L.2.2.1 18 (by decide) (by decide)
theorem k_19 {h : MH} (L : lay h) : kd h 19 = 3 := L.2.1 19 (by decide)
theorem n_19 {h : MH} (L : lay h) : ln h 19 = 4 := L.2.2.1 19 (by decide) (by decide)
theorem k_20 {h : MH} (L : lay h) : kd h 20 = 20 := L.2.1 20 (by decide)
theorem n_20 {h : MH} (L : lay h) : ln h 20 = 4 := L.2.2.1 20 (by decide) (by decide)
theorem k_21 {h : MH} (L : lay h) : kd h 21 = 20 := L.2.1 21 (by decide)
theorem n_21 {h : MH} (L : lay h) : ln h 21 = 4 := L.2.2.1 21 (by decide) (by decide)
theorem k_22 {h : MH} (L : lay h) : kd h 22 = 20 := L.2.1 22 (by decide)
theorem n_22 {h : MH} (L : lay h) : ln h 22 = 4 := L.2.2.1 22 (by decide) (by decide)
theorem k_23 {h : MH} (L : lay h) : kd h 23 = 23 := L.2.1 23 (by decide)
theorem n_23 {h : MH} (L : lay h) : ln h 23 = 4 := L.2.2.1 23 (by decide) (by decide)
theorem k_24 {h : MH} (L : lay h) : kd h 24 = 20 := L.2.1 24 (by decide)
theorem n_24 {h : MH} (L : lay h) : ln h 24 = 8 := L.2.2.1 24 (by decide) (by decide)
theorem k_25 {h : MH} (L : lay h) : kd h 25 = 20 := L.2.1 25 (by decide)
theorem n_25 {h : MH} (L : lay h) : ln h 25 = 8 := L.2.2.1 25 (by decide) (by decide)
theorem k_26 {h : MH} (L : lay h) : kd h 26 = 1 := L.2.1 26 (by decide)
theorem n_26 {h : MH} (L : lay h) : ln h 26 = 9 := L.2.2.1 26 (by decide) (by decide)
theorem k_27 {h : MH} (L : lay h) : kd h 27 = 10 := L.2.1 27 (by decide)
theorem n_27 {h : MH} (L : lay h) : ln h 27 = 11 := L.2.2.1 27 (by decide) (by decide)
theorem k_28 {h : MH} (L : lay h) : kd h 28 = 20 := L.2.1 28 (by decide)
theorem n_28 {h : MH} (L : lay h) : ln h 28 = 4 := L.2.2.1 28 (by decide) (by decide)
theorem k_29 {h : MH} (L : lay h) : kd h 29 = 20 := L.2.1 29 (by decide)
theorem n_29 {h : MH} (L : lay h) : ln h 29 = 4 := L.2.2.1 29 (by decide) (by decide)
theorem k_30 {h : MH} (L : lay h) : kd h 30 = 20 := L.2.1 30 (by decide)
theorem n_30 {h : MH} (L : lay h) : ln h 30 = 4 := L.2.2.1 30 (by decide) (by decide)
theorem k_31 {h : MH} (L : lay h) : kd h 31 = 20 := L.2.1 31 (by decide)
theorem n_31 {h : MH} (L : lay h) : ln h 31 = 9 := L.2.2.1 31 (by decide) (by decide)
theorem k_32 {h : MH} (L : lay h) : kd h 32 = 20 := L.2.1 32 (by decide)
theorem n_32 {h : MH} (L : lay h) : ln h 32 = 30 := L.2.2.1 32 (by decide) (by decide)
theorem k_33 {h : MH} (L : lay h) : kd h 33 = 20 := L.2.1 33 (by decide)
theorem n_33 {h : MH} (L : lay h) : ln h 33 = 7 := L.2.2.1 33 (by decide) (by decide)
theorem k_34 {h : MH} (L : lay h) : kd h 34 = 7 := L.2.1 34 (by decide)
theorem n_34 {h : MH} (L : lay h) : ln h 34 = 3 := L.2.2.1 34 (by decide) (by decide)
theorem k_35 {h : MH} (L : lay h) : kd h 35 = 20 := L.2.1 35 (by decide)
theorem n_35 {h : MH} (L : lay h) : ln h 35 = 1457 := L.2.2.1 35 (by decide) (by decide)
theorem k_36 {h : MH} (L : lay h) : kd h 36 = 3 := L.2.1 36 (by decide)
theorem n_36 {h : MH} (L : lay h) : ln h 36 = 4 := L.2.2.1 36 (by decide) (by decide)
theorem k_37 {h : MH} (L : lay h) : kd h 37 = 20 := L.2.1 37 (by decide)
theorem n_37 {h : MH} (L : lay h) : ln h 37 = 4 := L.2.2.1 37 (by decide) (by decide)
theorem k_38 {h : MH} (L : lay h) : kd h 38 = 20 := L.2.1 38 (by decide)
theorem n_38 {h : MH} (L : lay h) : ln h 38 = 4 := L.2.2.1 38 (by decide) (by decide)
theorem k_39 {h : MH} (L : lay h) : kd h 39 = 20 := L.2.1 39 (by decide)
theorem n_39 {h : MH} (L : lay h) : ln h 39 = 4 := L.2.2.1 39 (by decide) (by decide)
theorem k_40 {h : MH} (L : lay h) : kd h 40 = 23 := L.2.1 40 (by decide)
theorem n_40 {h : MH} (L : lay h) : ln h 40 = 4 := L.2.2.1 40 (by decide) (by decide)
theorem k_41 {h : MH} (L : lay h) : kd h 41 = 20 := L.2.1 41 (by decide)
theorem n_41 {h : MH} (L : lay h) : ln h 41 = 8 := L.2.2.1 41 (by decide) (by decide)
theorem k_42 {h : MH} (L : lay h) : kd h 42 = 20 := L.2.1 42 (by decide)
theorem n_42 {h : MH} (L : lay h) : ln h 42 = 8 := L.2.2.1 42 (by decide) (by decide)
theorem k_43 {h : MH} (L : lay h) : kd h 43 = 10 := L.2.1 43 (by decide)
theorem n_43 {h : MH} (L : lay h) : ln h 43 = 11 := L.2.2.1 43 (by decide) (by decide)
theorem k_44 {h : MH} (L : lay h) : kd h 44 = 20 := L.2.1 44 (by decide)
theorem n_44 {h : MH} (L : lay h) : ln h 44 = 4 := L.2.2.1 44 (by decide) (by decide)
theorem k_45 {h : MH} (L : lay h) : kd h 45 = 20 := L.2.1 45 (by decide)
theorem n_45 {h : MH} (L : lay h) : ln h 45 = 4 := L.2.2.1 45 (by decide) (by decide)
theorem k_46 {h : MH} (L : lay h) : kd h 46 = 20 := L.2.1 46 (by decide)
theorem n_46 {h : MH} (L : lay h) : ln h 46 = 4 := L.2.2.1 46 (by decide) (by decide)
theorem k_47 {h : MH} (L : lay h) : kd h 47 = 20 := L.2.1 47 (by decide)
theorem n_47 {h : MH} (L : lay h) : ln h 47 = 9 := L.2.2.1 47 (by decide) (by decide)
theorem k_48 {h : MH} (L : lay h) : kd h 48 = 20 := L.2.1 48 (by decide)
theorem n_48 {h : MH} (L : lay h) : ln h 48 = 30 := L.2.2.1 48 (by decide) (by decide)
theorem k_49 {h : MH} (L : lay h) : kd h 49 = 20 := L.2.1 49 (by decide)
theorem n_49 {h : MH} (L : lay h) : ln h 49 = 7 := L.2.2.1 49 (by decide) (by decide)
theorem k_50 {h : MH} (L : lay h) : kd h 50 = 8 := L.2.1 50 (by decide)
theorem n_50 {h : MH} (L : lay h) : ln h 50 = 6 := L.2.2.1 50 (by decide) (by decide)
theorem k_51 {h : MH} (L : lay h) : kd h 51 = 20 := L.2.1 51 (by decide)
theorem n_51 {h : MH} (L : lay h) : ln h 51 = 300 := L.2.2.1 51 (by decide) (by decide)
theorem k_52 {h : MH} (L : lay h) : kd h 52 = 20 := L.2.1 52 (by decide)
theorem n_52 {h : MH} (L : lay h) : ln h 52 = 301 := L.2.2.1 52 (by decide) (by decide)
theorem k_53 {h : MH} (L : lay h) : kd h 53 = 20 := L.2.1 53 (by decide)
theorem n_53 {h : MH} (L : lay h) : ln h 53 = 301 := L.2.2.1 53 (by decide) (by decide)
theorem k_54 {h : MH} (L : lay h) : kd h 54 = 20 := L.2.1 54 (by decide)
theorem n_54 {h : MH} (L : lay h) : ln h 54 = 301 := L.2.2.1 54 (by decide) (by decide)
theorem k_55 {h : MH} (L : lay h) : kd h 55 = 5 := L.2.1 55 (by decide)
theorem n_55 {h : MH} (L : lay h) : ln h 55 = 13 := L.2.2.1 55 (by decide) (by decide)
theorem k_56 {h : MH} (L : lay h) : kd h 56 = 20 := L.2.1 56 (by decide)
theorem n_56 {h : MH} (L : lay h) : ln h 56 = 24 := L.2.2.1 56 (by decide) (by decide)
theorem k_57 {h : MH} (L : lay h) : kd h 57 = 20 := L.2.1 57 (by decide)
theorem n_57 {h : MH} (L : lay h) : ln h 57 = 24 := L.2.2.1 57 (by decide) (by decide)
theorem k_58 {h : MH} (L : lay h) : kd h 58 = 20 := L.2.1 58 (by decide)
theorem n_58 {h : MH} (L : lay h) : ln h 58 = 24 := L.2.2.1 58 (by decide) (by decide)
theorem k_59 {h : MH} (L : lay h) : kd h 59 = 20 := L.2.1 59 (by decide)
theorem n_59 {h : MH} (L : lay h) : ln h 59 = 300 := L.2.2.1 59 (by decide) (by decide)
theorem k_60 {h : MH} (L : lay h) : kd h 60 = 6 := L.2.1 60 (by decide)
theorem n_60 {h : MH} (L : lay h) : ln h 60 = 4 := L.2.2.1 60 (by decide) (by decide)
theorem k_61 {h : MH} (L : lay h) : kd h 61 = 20 := L.2.1 61 (by decide)
theorem n_61 {h : MH} (L : lay h) : ln h 61 = 6561 := L.2.2.1 61 (by decide) (by decide)
theorem k_62 {h : MH} (L : lay h) : kd h 62 = 20 := L.2.1 62 (by decide)
theorem n_62 {h : MH} (L : lay h) : ln h 62 = 6561 := L.2.2.1 62 (by decide) (by decide)
theorem k_63 {h : MH} (L : lay h) : kd h 63 = 2 := L.2.1 63 (by decide)
theorem n_63 {h : MH} (L : lay h) : ln h 63 = 5 := L.2.2.1 63 (by decide) (by decide)
theorem k_64 {h : MH} (L : lay h) : kd h 64 = 20 := L.2.1 64 (by decide)
theorem n_64 {h : MH} (L : lay h) : ln h 64 = 16 := L.2.2.1 64 (by decide) (by decide)
theorem k_65 {h : MH} (L : lay h) : kd h 65 = 21 := L.2.1 65 (by decide)
theorem n_65 {h : MH} (L : lay h) : ln h 65 = 16 := L.2.2.1 65 (by decide) (by decide)
theorem k_66 {h : MH} (L : lay h) : kd h 66 = 22 := L.2.1 66 (by decide)
theorem n_66 {h : MH} (L : lay h) : ln h 66 = 16 := L.2.2.1 66 (by decide) (by decide)
theorem k_67 {h : MH} (L : lay h) : kd h 67 = 12 := L.2.1 67 (by decide)
theorem n_67 {h : MH} (L : lay h) : ln h 67 = 33 := L.2.2.1 67 (by decide) (by decide)
theorem k_68 {h : MH} (L : lay h) : kd h 68 = 20 := L.2.1 68 (by decide)
theorem n_68 {h : MH} (L : lay h) : ln h 68 = 1498 := L.2.2.1 68 (by decide) (by decide)
theorem k_69 {h : MH} (L : lay h) : kd h 69 = 20 := L.2.1 69 (by decide)
theorem n_69 {h : MH} (L : lay h) : ln h 69 = 1498 := L.2.2.1 69 (by decide) (by decide)
theorem k_70 {h : MH} (L : lay h) : kd h 70 = 20 := L.2.1 70 (by decide)
theorem n_70 {h : MH} (L : lay h) : ln h 70 = 2724 := L.2.2.1 70 (by decide) (by decide)
theorem k_71 {h : MH} (L : lay h) : kd h 71 = 20 := L.2.1 71 (by decide)
theorem n_71 {h : MH} (L : lay h) : ln h 71 = 300 := L.2.2.1 71 (by decide) (by decide)
theorem k_72 {h : MH} (L : lay h) : kd h 72 = 20 := L.2.1 72 (by decide)
theorem n_72 {h : MH} (L : lay h) : ln h 72 = 160 := L.2.2.1 72 (by decide) (by decide)
theorem k_73 {h : MH} (L : lay h) : kd h 73 = 20 := L.2.1 73 (by decide)
theorem n_73 {h : MH} (L : lay h) : ln h 73 = 7 := L.2.2.1 73 (by decide) (by decide)
theorem k_74 {h : MH} (L : lay h) : kd h 74 = 21 := L.2.1 74 (by decide)
theorem n_74 {h : MH} (L : lay h) : ln h 74 = 330 := L.2.2.1 74 (by decide) (by decide)
theorem k_75 {h : MH} (L : lay h) : kd h 75 = 22 := L.2.1 75 (by decide)
theorem n_75 {h : MH} (L : lay h) : ln h 75 = 330 := L.2.2.1 75 (by decide) (by decide)
theorem k_76 {h : MH} (L : lay h) : kd h 76 = 20 := L.2.1 76 (by decide)
theorem n_76 {h : MH} (L : lay h) : ln h 76 = 22 := L.2.2.1 76 (by decide) (by decide)
theorem k_77 {h : MH} (L : lay h) : kd h 77 = 20 := L.2.1 77 (by decide)
theorem n_77 {h : MH} (L : lay h) : ln h 77 = 6561 := L.2.2.1 77 (by decide) (by decide)
theorem k_78 {h : MH} (L : lay h) : kd h 78 = 20 := L.2.1 78 (by decide)
theorem n_78 {h : MH} (L : lay h) : ln h 78 = 6561 := L.2.2.1 78 (by decide) (by decide)
theorem k_79 {h : MH} (L : lay h) : kd h 79 = 22 := L.2.1 79 (by decide)
theorem n_79 {h : MH} (L : lay h) : ln h 79 = 6561 := L.2.2.1 79 (by decide) (by decide)
theorem k_80 {h : MH} (L : lay h) : kd h 80 = 20 := L.2.1 80 (by decide)
theorem n_80 {h : MH} (L : lay h) : ln h 80 = 4 := L.2.2.1 80 (by decide) (by decide)
theorem k_81 {h : MH} (L : lay h) : kd h 81 = 20 := L.2.1 81 (by decide)
theorem n_81 {h : MH} (L : lay h) : ln h 81 = 4 := L.2.2.1 81 (by decide) (by decide)
theorem k_82 {h : MH} (L : lay h) : kd h 82 = 22 := L.2.1 82 (by decide)
theorem n_82 {h : MH} (L : lay h) : ln h 82 = 16 := L.2.2.1 82 (by decide) (by decide)
theorem k_83 {h : MH} (L : lay h) : kd h 83 = 21 := L.2.1 83 (by decide)
theorem n_83 {h : MH} (L : lay h) : ln h 83 = 16 := L.2.2.1 83 (by decide) (by decide)
theorem k_1 {h : MH} (L : lay h) : kd h 1 = 24 := L.2.1 1 (by decide)
theorem r_4_0 {h : MH} (L : lay h) : gR h 4 0 = 6 := L.2.2.2.1 (4, 0, 6) (by decide +kernel)
theorem r_5_0 {h : MH} (L : lay h) : gR h 5 0 = 7 := L.2.2.2.1 (5, 0, 7) (by decide +kernel)
theorem r_8_0 {h : MH} (L : lay h) : gR h 8 0 = 9 := L.2.2.2.1 (8, 0, 9) (by decide +kernel)
theorem r_8_1 {h : MH} (L : lay h) : gR h 8 1 = 26 := L.2.2.2.1 (8, 1, 26) (by decide +kernel)
theorem r_8_2 {h : MH} (L : lay h) : gR h 8 2 = 43 := L.2.2.2.1 (8, 2, 43) (by decide +kernel)
theorem r_8_3 {h : MH} (L : lay h) : gR h 8 3 = 50 := L.2.2.2.1 (8, 3, 50) (by decide +kernel)
theorem r_8_4 {h : MH} (L : lay h) : gR h 8 4 = 55 := L.2.2.2.1 (8, 4, 55) (by decide +kernel)
theorem r_8_5 {h : MH} (L : lay h) : gR h 8 5 = 60 := L.2.2.2.1 (8, 5, 60) (by decide +kernel)
theorem r_8_6 {h : MH} (L : lay h) : gR h 8 6 = 63 := L.2.2.2.1 (8, 6, 63) (by decide +kernel)
theorem r_9_0 {h : MH} (L : lay h) : gR h 9 0 = 10 := L.2.2.2.1 (9, 0, 10) (by decide +kernel)
theorem r_9_1 {h : MH} (L : lay h) : gR h 9 1 = 17 := L.2.2.2.1 (9, 1, 17) (by decide +kernel)
theorem r_9_2 {h : MH} (L : lay h) : gR h 9 2 = 19 := L.2.2.2.1 (9, 2, 19) (by decide +kernel)
theorem r_9_3 {h : MH} (L : lay h) : gR h 9 3 = 23 := L.2.2.2.1 (9, 3, 23) (by decide +kernel)
theorem r_9_6 {h : MH} (L : lay h) : gR h 9 6 = 24 := L.2.2.2.1 (9, 6, 24) (by decide +kernel)
theorem r_9_7 {h : MH} (L : lay h) : gR h 9 7 = 25 := L.2.2.2.1 (9, 7, 25) (by decide +kernel)
theorem r_10_1 {h : MH} (L : lay h) : gR h 10 1 = 11 := L.2.2.2.1 (10, 1, 11) (by decide +kernel)
theorem r_10_2 {h : MH} (L : lay h) : gR h 10 2 = 12 := L.2.2.2.1 (10, 2, 12) (by decide +kernel)
theorem r_10_3 {h : MH} (L : lay h) : gR h 10 3 = 13 := L.2.2.2.1 (10, 3, 13) (by decide +kernel)
theorem r_10_4 {h : MH} (L : lay h) : gR h 10 4 = 14 := L.2.2.2.1 (10, 4, 14) (by decide +kernel)
theorem r_10_7 {h : MH} (L : lay h) : gR h 10 7 = 15 := L.2.2.2.1 (10, 7, 15) (by decide +kernel)
theorem r_10_10 {h : MH} (L : lay h) : gR h 10 10 = 16 := L.2.2.2.1 (10, 10, 16) (by decide +kernel)
theorem r_17_0 {h : MH} (L : lay h) : gR h 17 0 = 18 := L.2.2.2.1 (17, 0, 18) (by decide +kernel)
theorem r_19_0 {h : MH} (L : lay h) : gR h 19 0 = 20 := L.2.2.2.1 (19, 0, 20) (by decide +kernel)
theorem r_19_1 {h : MH} (L : lay h) : gR h 19 1 = 21 := L.2.2.2.1 (19, 1, 21) (by decide +kernel)
theorem r_19_2 {h : MH} (L : lay h) : gR h 19 2 = 22 := L.2.2.2.1 (19, 2, 22) (by decide +kernel)
theorem r_26_0 {h : MH} (L : lay h) : gR h 26 0 = 27 := L.2.2.2.1 (26, 0, 27) (by decide +kernel)
theorem r_26_1 {h : MH} (L : lay h) : gR h 26 1 = 34 := L.2.2.2.1 (26, 1, 34) (by decide +kernel)
theorem r_26_2 {h : MH} (L : lay h) : gR h 26 2 = 36 := L.2.2.2.1 (26, 2, 36) (by decide +kernel)
theorem r_26_3 {h : MH} (L : lay h) : gR h 26 3 = 40 := L.2.2.2.1 (26, 3, 40) (by decide +kernel)
theorem r_26_6 {h : MH} (L : lay h) : gR h 26 6 = 41 := L.2.2.2.1 (26, 6, 41) (by decide +kernel)
theorem r_26_7 {h : MH} (L : lay h) : gR h 26 7 = 42 := L.2.2.2.1 (26, 7, 42) (by decide +kernel)
theorem r_27_1 {h : MH} (L : lay h) : gR h 27 1 = 28 := L.2.2.2.1 (27, 1, 28) (by decide +kernel)
theorem r_27_2 {h : MH} (L : lay h) : gR h 27 2 = 29 := L.2.2.2.1 (27, 2, 29) (by decide +kernel)
theorem r_27_3 {h : MH} (L : lay h) : gR h 27 3 = 30 := L.2.2.2.1 (27, 3, 30) (by decide +kernel)
theorem r_27_4 {h : MH} (L : lay h) : gR h 27 4 = 31 := L.2.2.2.1 (27, 4, 31) (by decide +kernel)
theorem r_27_7 {h : MH} (L : lay h) : gR h 27 7 = 32 := L.2.2.2.1 (27, 7, 32) (by decide +kernel)
theorem r_27_10 {h : MH} (L : lay h) : gR h 27 10 = 33 := L.2.2.2.1 (27, 10, 33) (by decide +kernel)
theorem r_34_0 {h : MH} (L : lay h) : gR h 34 0 = 35 := L.2.2.2.1 (34, 0, 35) (by decide +kernel)
theorem r_36_0 {h : MH} (L : lay h) : gR h 36 0 = 37 := L.2.2.2.1 (36, 0, 37) (by decide +kernel)
theorem r_36_1 {h : MH} (L : lay h) : gR h 36 1 = 38 := L.2.2.2.1 (36, 1, 38) (by decide +kernel)
theorem r_36_2 {h : MH} (L : lay h) : gR h 36 2 = 39 := L.2.2.2.1 (36, 2, 39) (by decide +kernel)
theorem r_43_1 {h : MH} (L : lay h) : gR h 43 1 = 44 := L.2.2.2.1 (43, 1, 44) (by decide +kernel)
theorem r_43_2 {h : MH} (L : lay h) : gR h 43 2 = 45 := L.2.2.2.1 (43, 2, 45) (by decide +kernel)
theorem r_43_3 {h : MH} (L : lay h) : gR h 43 3 = 46 := L.2.2.2.1 (43, 3, 46) (by decide +kernel)
theorem r_43_4 {h : MH} (L : lay h) : gR h 43 4 = 47 := L.2.2.2.1 (43, 4, 47) (by decide +kernel)
theorem r_43_7 {h : MH} (L : lay h) : gR h 43 7 = 48 := L.2.2.2.1 (43, 7, 48) (by decide +kernel)
theorem r_43_10 {h : MH} (L : lay h) : gR h 43 10 = 49 := L.2.2.2.1 (43, 10, 49) (by decide +kernel)
theorem r_50_0 {h : MH} (L : lay h) : gR h 50 0 = 51 := L.2.2.2.1 (50, 0, 51) (by decide +kernel)
theorem r_50_2 {h : MH} (L : lay h) : gR h 50 2 = 52 := L.2.2.2.1 (50, 2, 52) (by decide +kernel)
theorem r_50_3 {h : MH} (L : lay h) : gR h 50 3 = 53 := L.2.2.2.1 (50, 3, 53) (by decide +kernel)
theorem r_50_4 {h : MH} (L : lay h) : gR h 50 4 = 54 := L.2.2.2.1 (50, 4, 54) (by decide +kernel)
theorem r_55_0 {h : MH} (L : lay h) : gR h 55 0 = 50 := L.2.2.2.1 (55, 0, 50) (by decide +kernel)
theorem r_55_1 {h : MH} (L : lay h) : gR h 55 1 = 56 := L.2.2.2.1 (55, 1, 56) (by decide +kernel)
theorem r_55_2 {h : MH} (L : lay h) : gR h 55 2 = 57 := L.2.2.2.1 (55, 2, 57) (by decide +kernel)
theorem r_55_3 {h : MH} (L : lay h) : gR h 55 3 = 58 := L.2.2.2.1 (55, 3, 58) (by decide +kernel)
theorem r_55_4 {h : MH} (L : lay h) : gR h 55 4 = 59 := L.2.2.2.1 (55, 4, 59) (by decide +kernel)
theorem r_60_0 {h : MH} (L : lay h) : gR h 60 0 = 61 := L.2.2.2.1 (60, 0, 61) (by decide +kernel)
theorem r_60_1 {h : MH} (L : lay h) : gR h 60 1 = 62 := L.2.2.2.1 (60, 1, 62) (by decide +kernel)
theorem r_63_0 {h : MH} (L : lay h) : gR h 63 0 = 64 := L.2.2.2.1 (63, 0, 64) (by decide +kernel)
theorem r_63_1 {h : MH} (L : lay h) : gR h 63 1 = 65 := L.2.2.2.1 (63, 1, 65) (by decide +kernel)
theorem r_63_2 {h : MH} (L : lay h) : gR h 63 2 = 66 := L.2.2.2.1 (63, 2, 66) (by decide +kernel)
theorem r_67_0 {h : MH} (L : lay h) : gR h 67 0 = 68 := L.2.2.2.1 (67, 0, 68) (by decide +kernel)
theorem r_67_1 {h : MH} (L : lay h) : gR h 67 1 = 69 := L.2.2.2.1 (67, 1, 69) (by decide +kernel)
theorem r_67_2 {h : MH} (L : lay h) : gR h 67 2 = 70 := L.2.2.2.1 (67, 2, 70) (by decide +kernel)
theorem r_67_3 {h : MH} (L : lay h) : gR h 67 3 = 71 := L.2.2.2.1 (67, 3, 71) (by decide +kernel)
theorem r_67_15 {h : MH} (L : lay h) : gR h 67 15 = 72 := L.2.2.2.1 (67, 15, 72) (by decide +kernel)
theorem r_67_20 {h : MH} (L : lay h) : gR h 67 20 = 73 := L.2.2.2.1 (67, 20, 73) (by decide +kernel)
theorem r_67_21 {h : MH} (L : lay h) : gR h 67 21 = 74 := L.2.2.2.1 (67, 21, 74) (by decide +kernel)
theorem r_67_22 {h : MH} (L : lay h) : gR h 67 22 = 75 := L.2.2.2.1 (67, 22, 75) (by decide +kernel)
theorem r_67_25 {h : MH} (L : lay h) : gR h 67 25 = 76 := L.2.2.2.1 (67, 25, 76) (by decide +kernel)
theorem r_67_26 {h : MH} (L : lay h) : gR h 67 26 = 77 := L.2.2.2.1 (67, 26, 77) (by decide +kernel)
theorem r_67_27 {h : MH} (L : lay h) : gR h 67 27 = 78 := L.2.2.2.1 (67, 27, 78) (by decide +kernel)
theorem r_67_28 {h : MH} (L : lay h) : gR h 67 28 = 79 := L.2.2.2.1 (67, 28, 79) (by decide +kernel)
theorem r_67_29 {h : MH} (L : lay h) : gR h 67 29 = 80 := L.2.2.2.1 (67, 29, 80) (by decide +kernel)
theorem r_67_30 {h : MH} (L : lay h) : gR h 67 30 = 81 := L.2.2.2.1 (67, 30, 81) (by decide +kernel)
theorem r_67_31 {h : MH} (L : lay h) : gR h 67 31 = 82 := L.2.2.2.1 (67, 31, 82) (by decide +kernel)
theorem r_67_32 {h : MH} (L : lay h) : gR h 67 32 = 83 := L.2.2.2.1 (67, 32, 83) (by decide +kernel)
end FACTS
/-- a town's cell -/
def tAt (q : Nat) : Prop := q = 10 ∨ q = 27 ∨ q = 43
section TFACTS
theorem kT0 {h : MH} (L : lay h) {q : Nat} (T : tAt q) : kd h q = 10 := by
  rcases T with rfl | rfl | rfl
  · exact k_10 L
  · exact k_27 L
  · exact k_43 L
theorem neT0 {q : Nat} (T : tAt q) : ¬ q = 2 ∧ ¬ q = 3 ∧ ¬ q = 4 ∧ ¬ q = 5 ∧ ¬ q = 6 ∧ ¬ q = 7 := by rcases T with rfl | rfl | rfl <;> decide
theorem kT1 {h : MH} (L : lay h) {q : Nat} (T : tAt q) : kd h (q + 1) = 20 := by
  rcases T with rfl | rfl | rfl
  · exact k_11 L
  · exact k_28 L
  · exact k_44 L
theorem nT1 {h : MH} (L : lay h) {q : Nat} (T : tAt q) : ln h (q + 1) = 4 := by
  rcases T with rfl | rfl | rfl
  · exact n_11 L
  · exact n_28 L
  · exact n_44 L
theorem neT1 {q : Nat} (T : tAt q) : ¬ q + 1 = 2 ∧ ¬ q + 1 = 3 ∧ ¬ q + 1 = 4 ∧ ¬ q + 1 = 5 ∧ ¬ q + 1 = 6 ∧ ¬ q + 1 = 7 := by rcases T with rfl | rfl | rfl <;> decide
theorem kT2 {h : MH} (L : lay h) {q : Nat} (T : tAt q) : kd h (q + 2) = 20 := by
  rcases T with rfl | rfl | rfl
  · exact k_12 L
  · exact k_29 L
  · exact k_45 L
theorem nT2 {h : MH} (L : lay h) {q : Nat} (T : tAt q) : ln h (q + 2) = 4 := by
  rcases T with rfl | rfl | rfl
  · exact n_12 L
  · exact n_29 L
  · exact n_45 L
theorem neT2 {q : Nat} (T : tAt q) : ¬ q + 2 = 2 ∧ ¬ q + 2 = 3 ∧ ¬ q + 2 = 4 ∧ ¬ q + 2 = 5 ∧ ¬ q + 2 = 6 ∧ ¬ q + 2 = 7 := by rcases T with rfl | rfl | rfl <;> decide
theorem kT3 {h : MH} (L : lay h) {q : Nat} (T : tAt q) : kd h (q + 3) = 20 := by
  rcases T with rfl | rfl | rfl
  · exact k_13 L
  · exact k_30 L
  · exact k_46 L
theorem nT3 {h : MH} (L : lay h) {q : Nat} (T : tAt q) : ln h (q + 3) = 4 := by
  rcases T with rfl | rfl | rfl
  · exact n_13 L
  · exact n_30 L
  · exact n_46 L
theorem neT3 {q : Nat} (T : tAt q) : ¬ q + 3 = 2 ∧ ¬ q + 3 = 3 ∧ ¬ q + 3 = 4 ∧ ¬ q + 3 = 5 ∧ ¬ q + 3 = 6 ∧ ¬ q + 3 = 7 := by rcases T with rfl | rfl | rfl <;> decide
theorem kT4 {h : MH} (L : lay h) {q : Nat} (T : tAt q) : kd h (q + 4) = 20 := by
  rcases T with rfl | rfl | rfl
  · exact k_14 L
  · exact k_31 L
  · exact k_47 L
theorem nT4 {h : MH} (L : lay h) {q : Nat} (T : tAt q) : ln h (q + 4) = 9 := by
  rcases T with rfl | rfl | rfl
  · exact n_14 L
  · exact n_31 L
  · exact n_47 L
theorem neT4 {q : Nat} (T : tAt q) : ¬ q + 4 = 2 ∧ ¬ q + 4 = 3 ∧ ¬ q + 4 = 4 ∧ ¬ q + 4 = 5 ∧ ¬ q + 4 = 6 ∧ ¬ q + 4 = 7 := by rcases T with rfl | rfl | rfl <;> decide
theorem kT5 {h : MH} (L : lay h) {q : Nat} (T : tAt q) : kd h (q + 5) = 20 := by
  rcases T with rfl | rfl | rfl
  · exact k_15 L
  · exact k_32 L
  · exact k_48 L
theorem nT5 {h : MH} (L : lay h) {q : Nat} (T : tAt q) : ln h (q + 5) = 30 := by
  rcases T with rfl | rfl | rfl
  · exact n_15 L
  · exact n_32 L
  · exact n_48 L
theorem neT5 {q : Nat} (T : tAt q) : ¬ q + 5 = 2 ∧ ¬ q + 5 = 3 ∧ ¬ q + 5 = 4 ∧ ¬ q + 5 = 5 ∧ ¬ q + 5 = 6 ∧ ¬ q + 5 = 7 := by rcases T with rfl | rfl | rfl <;> decide
theorem kT6 {h : MH} (L : lay h) {q : Nat} (T : tAt q) : kd h (q + 6) = 20 := by
  rcases T with rfl | rfl | rfl
  · exact k_16 L
  · exact k_33 L
  · exact k_49 L
theorem nT6 {h : MH} (L : lay h) {q : Nat} (T : tAt q) : ln h (q + 6) = 7 := by
  rcases T with rfl | rfl | rfl
  · exact n_16 L
  · exact n_33 L
  · exact n_49 L
theorem neT6 {q : Nat} (T : tAt q) : ¬ q + 6 = 2 ∧ ¬ q + 6 = 3 ∧ ¬ q + 6 = 4 ∧ ¬ q + 6 = 5 ∧ ¬ q + 6 = 6 ∧ ¬ q + 6 = 7 := by rcases T with rfl | rfl | rfl <;> decide
theorem rT1 {h : MH} (L : lay h) {q : Nat} (T : tAt q) : gR h q 1 = q + 1 := by
  rcases T with rfl | rfl | rfl
  · exact r_10_1 L
  · exact r_27_1 L
  · exact r_43_1 L
theorem rT2 {h : MH} (L : lay h) {q : Nat} (T : tAt q) : gR h q 2 = q + 2 := by
  rcases T with rfl | rfl | rfl
  · exact r_10_2 L
  · exact r_27_2 L
  · exact r_43_2 L
theorem rT3 {h : MH} (L : lay h) {q : Nat} (T : tAt q) : gR h q 3 = q + 3 := by
  rcases T with rfl | rfl | rfl
  · exact r_10_3 L
  · exact r_27_3 L
  · exact r_43_3 L
theorem rT4 {h : MH} (L : lay h) {q : Nat} (T : tAt q) : gR h q 4 = q + 4 := by
  rcases T with rfl | rfl | rfl
  · exact r_10_4 L
  · exact r_27_4 L
  · exact r_43_4 L
theorem rT7 {h : MH} (L : lay h) {q : Nat} (T : tAt q) : gR h q 7 = q + 5 := by
  rcases T with rfl | rfl | rfl
  · exact r_10_7 L
  · exact r_27_7 L
  · exact r_43_7 L
theorem rT10 {h : MH} (L : lay h) {q : Nat} (T : tAt q) : gR h q 10 = q + 6 := by
  rcases T with rfl | rfl | rfl
  · exact r_10_10 L
  · exact r_27_10 L
  · exact r_43_10 L
end TFACTS
theorem tAt10 : tAt 10 := Or.inl rfl
theorem tAt27 : tAt 27 := Or.inr (Or.inl rfl)
theorem tAt43 : tAt 43 := Or.inr (Or.inr rfl)
theorem ix_lit {i : Int32} {n : Nat} (e : i = nI n) (hn : n < 2 ^ 31) : ix i = n := by rw [e]; exact ix_nI hn
theorem ib_lit {i : Int32} {n N : Nat} (e : i = nI n) (h : n < N) (hN : N < 2 ^ 31) : ib i N := by rw [e]; exact ib_nI h hN
theorem ckA0 {h : MH} {r K N : Nat} {i : Int32} (hk : kd h r = K) (hn : ln h r = N) : (kd h r = K ∧ ib i (ln h r)) ↔ ib i N := by rw [hn]; exact and_iff_right hk
theorem ckA1 {h : MH} {r K K' N : Nat} {i : Int32} (hk : kd h r = K) (hn : ln h r = N) : ((kd h r = K ∨ kd h r = K') ∧ ib i (ln h r)) ↔ ib i N := by rw [hn]; exact and_iff_right (Or.inl hk)
theorem ckA2 {h : MH} {r K K' N : Nat} {i : Int32} (hk : kd h r = K') (hn : ln h r = N) : ((kd h r = K ∨ kd h r = K') ∧ ib i (ln h r)) ↔ ib i N := by rw [hn]; exact and_iff_right (Or.inr hk)
theorem ckA3 {h : MH} {r K N : Nat} {i : Int32} {c : Prop} (hk : kd h r = K) (hn : ln h r = N) : (kd h r = K ∧ ib i (ln h r) ∧ c) ↔ (ib i N ∧ c) := by rw [hn]; exact and_iff_right hk
theorem ckA4 {h : MH} {r K N : Nat} {i : Int32} {c : Prop} (hk : kd h r = K) (hn : ln h r = N) (hc : c) : (kd h r = K ∧ ib i (ln h r) ∧ c) ↔ ib i N := by rw [hn]; exact ⟨fun q => q.2.1, fun q => ⟨hk, q, hc⟩⟩
theorem ckC {h : MH} {s t a b n ls lt : Nat} {sp dp nv : Int32} (k1 : kd h s = 20) (k2 : kd h t = 20) (n1 : ln h s = ls) (n2 : ln h t = lt) (e1 : sp = nI a) (e2 : dp = nI b) (e3 : nv = nI n) (hb : a + n ≤ ls ∧ b + n ≤ lt ∧ a < 2 ^ 31 ∧ b < 2 ^ 31 ∧ n < 2 ^ 31) : kd h s = 20 ∧ kd h t = 20 ∧ ¬ sp < 0 ∧ ¬ dp < 0 ∧ ¬ nv < 0 ∧ ix sp + ix nv ≤ ln h s ∧ ix dp + ix nv ≤ ln h t := by
  obtain ⟨h1, h2, h3, h4, h5⟩ := hb
  have z : ∀ {m : Nat}, m < 2 ^ 31 → ¬ nI m < 0 := fun {m} hm => nI_nlt (a := m) (b := 0) (Nat.zero_le m) hm
  rw [n1, n2, e1, e2, e3, ix_nI h3, ix_nI h4, ix_nI h5]
  exact ⟨k1, k2, z h3, z h4, z h5, h1, h2⟩
theorem cpy_lit {h : MH} {s t a b n : Nat} {sp dp nv : Int32} (e1 : sp = nI a) (e2 : dp = nI b) (e3 : nv = nI n) (hb : a < 2 ^ 31 ∧ b < 2 ^ 31 ∧ n < 2 ^ 31) : rI h t (va_cpy (gI h s) (gI h t) (ix sp) (ix dp) (ix nv)) = rI h t (va_cpy (gI h s) (gI h t) a b n) := by
  rw [e1, e2, e3, ix_nI hb.1, ix_nI hb.2.1, ix_nI hb.2.2]
theorem ckD {h : MH} {s t ls lt : Nat} {sp dp nv : Int32} (k1 : kd h s = 20) (k2 : kd h t = 20) (n1 : ln h s = ls) (n2 : ln h t = lt) : (kd h s = 20 ∧ kd h t = 20 ∧ ¬ sp < 0 ∧ ¬ dp < 0 ∧ ¬ nv < 0 ∧ ix sp + ix nv ≤ ln h s ∧ ix dp + ix nv ≤ ln h t) ↔ (¬ sp < 0 ∧ ¬ dp < 0 ∧ ¬ nv < 0 ∧ ix sp + ix nv ≤ ls ∧ ix dp + ix nv ≤ lt) := by
  rw [n1, n2]
  exact ⟨fun q => q.2.2, fun q => ⟨k1, k2, q⟩⟩
theorem layI {h : MH} (L : lay h) {r k : Nat} {v : Int32} (hr : ¬ r = 2 ∧ ¬ r = 3 ∧ ¬ r = 4 ∧ ¬ r = 5 ∧ ¬ r = 6 ∧ ¬ r = 7) : lay (sI h r k v) := lay_rI L hr
theorem layL {h : MH} (L : lay h) {r k : Nat} {v : Int64} : lay (sL h r k v) := L
theorem layR {h : MH} (L : lay h) {r k v : Nat} (hr : cfin r k = false) : lay (sR h r k v) := by
  refine lay_rR L fun q hq e => ?_
  have hne : ¬ q.2.1 = k := by
    intro e2
    have : cfin r k = true := by
      unfold cfin
      rw [List.any_eq_true]
      refine ⟨q, hq, ?_⟩
      rw [e, e2]
      rw [Nat.beq_refl, Nat.beq_refl]
      rfl
    rw [hr] at this
    cases this
  unfold va_up
  rw [if_neg hne, ← e]
  exact L.2.2.2.1 q hq
theorem layRT {h : MH} (L : lay h) {q v : Nat} (T : tAt q) : lay (sR h q 9 v) := by
  rcases T with rfl | rfl | rfl <;> exact layR L (by decide +kernel)
theorem layRA {h : MH} (L : lay h) {r k v : Nat} (hr : (cRF.all fun q => !(Nat.beq q.1 r)) = true) : lay (sR h r k v) := by
  refine lay_rR L fun q hq e => ?_
  have := List.all_eq_true.mp hr q hq
  rw [e, Nat.beq_refl] at this
  cases this
theorem lt_geq {α β : Type} {X : α → β} {a : α} {f : α → β} (h : ∀ v, v = a → X v = f v) : X a = lt_ a f := h a rfl
theorem lt_geq2 {α β : Type} {X : α → β} {a a' : α} {f : α → β} (e : a = a') (h : ∀ v, v = a' → X v = f v) : X a = lt_ a' f := by rw [e]; exact h a' rfl
section EQS2
theorem mX_ckv {ev : ME} {C : List MI} {k : Nat} {ls : ML} {st : List Value} {h : MH} {c : Prop} {v v' : Value} {k' : Nat} {ls' : ML} {st' : List Value} {h' : MH} {A : Option (Value × MH)} (hc : c) (hv : v = v') (hs : mone ev C k ls st h = mck c (nx k' ls' (v :: st') h')) (ha : mX ev C k' ls' (v' :: st') h' = A) : mX ev C k ls st h = A := mX_ckt hc hs (by rw [hv]; exact ha)
theorem mX_ckw {ev : ME} {C : List MI} {k : Nat} {ls : ML} {st : List Value} {h : MH} {c c' : Prop} {v v' : Value} {k' : Nat} {ls' : ML} {st' : List Value} {h' : MH} {A : Option (Value × MH)} (hc : c ↔ c') (hv : v = v') (hs : mone ev C k ls st h = mck c (nx k' ls' (v :: st') h')) (ha : c' → mX ev C k' ls' (v' :: st') h' = A) : mX ev C k ls st h = ck c' A := by
  rw [mX_one hs, ← propext hc]
  unfold mck ck
  by_cases q : c
  · rw [if_pos q, if_pos q, hv]; exact ha (hc.mp q)
  · rw [if_neg q, if_neg q]; rfl
theorem mX_cki {ev : ME} {C : List MI} {k : Nat} {ls : ML} {st : List Value} {h : MH} {c c' : Prop} {k' : Nat} {ls' : ML} {st' : List Value} {h' : MH} {A : Option (Value × MH)} (hc : c ↔ c') (hs : mone ev C k ls st h = mck c (nx k' ls' st' h')) (ha : c' → mX ev C k' ls' st' h' = A) : mX ev C k ls st h = ck c' A := by
  rw [mX_one hs, ← propext hc]
  unfold mck ck
  by_cases q : c
  · rw [if_pos q, if_pos q]; exact ha (hc.mp q)
  · rw [if_neg q, if_neg q]; rfl
theorem mX_ckct {ev : ME} {C : List MI} {k : Nat} {ls : ML} {st : List Value} {h : MH} {c : Prop} {m : MO} {A : Option (Value × MH)} (hc : c) (hs : mone ev C k ls st h = mck c m) (ha : mfin ev C m = A) : mX ev C k ls st h = A := by
  rw [mX_ckc hs ha]
  exact ck_pos hc
theorem mk_cIe {ev : ME} {C : List MI} {o : Option (Value × MH)} {k' : Nat} {ls' : ML} {st' : List Value} {f : Int32 → MH → Option (Value × MH)} (ha : ∀ x h', o = some (.int x, h') → mX ev C k' ls' (.int x :: st') h' = f x h') : mfin ev C (mcl o 1 k' ls' st') = cI o f := by
  unfold mcl cI
  match o, ha with
  | none, ha => rfl
  | some (.int x, h'), ha => exact ha x h' rfl
  | some (.long x, h'), ha => rfl
  | some (.float x, h'), ha => rfl
  | some (.double x, h'), ha => rfl
  | some (.ref x, h'), ha => rfl
  | some (.retAddr x, h'), ha => rfl
  | some (.null, h'), ha => rfl
theorem mX_cIe {ev : ME} {C : List MI} {k : Nat} {ls : ML} {st : List Value} {h : MH} {o : Option (Value × MH)} {k' : Nat} {ls' : ML} {st' : List Value} {f : Int32 → MH → Option (Value × MH)} (hs : mone ev C k ls st h = mcl o 1 k' ls' st') (ha : ∀ x h', o = some (.int x, h') → mX ev C k' ls' (.int x :: st') h' = f x h') : mX ev C k ls st h = cI o f := by
  rw [mX_one hs]
  exact mk_cIe ha
theorem mk_cLe {ev : ME} {C : List MI} {o : Option (Value × MH)} {k' : Nat} {ls' : ML} {st' : List Value} {f : Int64 → MH → Option (Value × MH)} (ha : ∀ x h', o = some (.long x, h') → mX ev C k' ls' (.long x :: st') h' = f x h') : mfin ev C (mcl o 2 k' ls' st') = cL o f := by
  unfold mcl cL
  match o, ha with
  | none, ha => rfl
  | some (.int x, h'), ha => rfl
  | some (.long x, h'), ha => exact ha x h' rfl
  | some (.float x, h'), ha => rfl
  | some (.double x, h'), ha => rfl
  | some (.ref x, h'), ha => rfl
  | some (.retAddr x, h'), ha => rfl
  | some (.null, h'), ha => rfl
theorem mX_cLe {ev : ME} {C : List MI} {k : Nat} {ls : ML} {st : List Value} {h : MH} {o : Option (Value × MH)} {k' : Nat} {ls' : ML} {st' : List Value} {f : Int64 → MH → Option (Value × MH)} (hs : mone ev C k ls st h = mcl o 2 k' ls' st') (ha : ∀ x h', o = some (.long x, h') → mX ev C k' ls' (.long x :: st') h' = f x h') : mX ev C k ls st h = cL o f := by
  rw [mX_one hs]
  exact mk_cLe ha
theorem mk_cRe {ev : ME} {C : List MI} {o : Option (Value × MH)} {k' : Nat} {ls' : ML} {st' : List Value} {f : Nat → MH → Option (Value × MH)} (ha : ∀ x h', o = some (.ref x, h') → mX ev C k' ls' (.ref x :: st') h' = f x h') : mfin ev C (mcl o 3 k' ls' st') = cR o f := by
  unfold mcl cR
  match o, ha with
  | none, ha => rfl
  | some (.int x, h'), ha => rfl
  | some (.long x, h'), ha => rfl
  | some (.float x, h'), ha => rfl
  | some (.double x, h'), ha => rfl
  | some (.ref x, h'), ha => exact ha x h' rfl
  | some (.retAddr x, h'), ha => rfl
  | some (.null, h'), ha => rfl
theorem mX_cRe {ev : ME} {C : List MI} {k : Nat} {ls : ML} {st : List Value} {h : MH} {o : Option (Value × MH)} {k' : Nat} {ls' : ML} {st' : List Value} {f : Nat → MH → Option (Value × MH)} (hs : mone ev C k ls st h = mcl o 3 k' ls' st') (ha : ∀ x h', o = some (.ref x, h') → mX ev C k' ls' (.ref x :: st') h' = f x h') : mX ev C k ls st h = cR o f := by
  rw [mX_one hs]
  exact mk_cRe ha
theorem mk_cVe {ev : ME} {C : List MI} {o : Option (Value × MH)} {k' : Nat} {ls' : ML} {st' : List Value} {f : MH → Option (Value × MH)} (ha : ∀ v h', o = some (v, h') → mX ev C k' ls' st' h' = f h') : mfin ev C (mcl o 0 k' ls' st') = cV o f := by
  unfold mcl cV
  match o, ha with
  | none, ha => rfl
  | some (v, h'), ha => exact ha v h' rfl
theorem mX_cVe {ev : ME} {C : List MI} {k : Nat} {ls : ML} {st : List Value} {h : MH} {o : Option (Value × MH)} {k' : Nat} {ls' : ML} {st' : List Value} {f : MH → Option (Value × MH)} (hs : mone ev C k ls st h = mcl o 0 k' ls' st') (ha : ∀ v h', o = some (v, h') → mX ev C k' ls' st' h' = f h') : mX ev C k ls st h = cV o f := by
  rw [mX_one hs]
  exact mk_cVe ha
end EQS2

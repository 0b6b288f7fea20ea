/-! the tables, row by row (by program: wip/whole/gen_tabs.py) -/
theorem hkJK_0 : hkJK 0 = 0 := by decide +kernel
theorem hkKd_0 : hkKd 0 = 0 := by decide +kernel
theorem hkJK_1 : hkJK 1 = 1 := by decide +kernel
theorem hkKd_1 : hkKd 1 = 1 := by decide +kernel
theorem hkJK_2 : hkJK 2 = 100 := by decide +kernel
theorem hkKd_2 : hkKd 2 = 100 := by decide +kernel
theorem jL_2 : jL 2 = 140 := by decide +kernel
theorem hkJK_3 : hkJK 3 = 100 := by decide +kernel
theorem hkKd_3 : hkKd 3 = 100 := by decide +kernel
theorem jL_3 : jL 3 = 35 := by decide +kernel
theorem hkJK_4 : hkJK 4 = 100 := by decide +kernel
theorem hkKd_4 : hkKd 4 = 100 := by decide +kernel
theorem jL_4 : jL 4 = 35 := by decide +kernel
theorem hkJK_5 : hkJK 5 = 100 := by decide +kernel
theorem hkKd_5 : hkKd 5 = 100 := by decide +kernel
theorem jL_5 : jL 5 = 35 := by decide +kernel
theorem hkJK_6 : hkJK 6 = 100 := by decide +kernel
theorem hkKd_6 : hkKd 6 = 100 := by decide +kernel
theorem jL_6 : jL 6 = 7 := by decide +kernel
theorem hkJK_7 : hkJK 7 = 100 := by decide +kernel
theorem hkKd_7 : hkKd 7 = 100 := by decide +kernel
theorem jL_7 : jL 7 = 35 := by decide +kernel
theorem hkJK_8 : hkJK 8 = 100 := by decide +kernel
theorem hkKd_8 : hkKd 8 = 100 := by decide +kernel
theorem jL_8 : jL 8 = 128 := by decide +kernel
theorem hkJK_9 : hkJK 9 = 100 := by decide +kernel
theorem hkKd_9 : hkKd 9 = 100 := by decide +kernel
theorem jL_9 : jL 9 = 4 := by decide +kernel
theorem hkJK_10 : hkJK 10 = 2 := by decide +kernel
theorem hkKd_10 : hkKd 10 = 2 := by decide +kernel
theorem hkJK_11 : hkJK 11 = 100 := by decide +kernel
theorem hkKd_11 : hkKd 11 = 100 := by decide +kernel
theorem jL_11 : jL 11 = 4 := by decide +kernel
theorem hkJK_12 : hkJK 12 = 3 := by decide +kernel
theorem hkKd_12 : hkKd 12 = 3 := by decide +kernel
theorem hkJK_13 : hkJK 13 = 100 := by decide +kernel
theorem hkKd_13 : hkKd 13 = 100 := by decide +kernel
theorem jL_13 : jL 13 = 1225 := by decide +kernel
theorem hkJK_14 : hkJK 14 = 100 := by decide +kernel
theorem hkKd_14 : hkKd 14 = 100 := by decide +kernel
theorem jL_14 : jL 14 = 6125 := by decide +kernel
theorem hkJK_15 : hkJK 15 = 100 := by decide +kernel
theorem hkKd_15 : hkKd 15 = 100 := by decide +kernel
theorem jL_15 : jL 15 = 25 := by decide +kernel
theorem hkJK_16 : hkJK 16 = 100 := by decide +kernel
theorem hkKd_16 : hkKd 16 = 100 := by decide +kernel
theorem jL_16 : jL 16 = 4 := by decide +kernel
theorem hkJK_17 : hkJK 17 = 4 := by decide +kernel
theorem hkKd_17 : hkKd 17 = 4 := by decide +kernel
theorem hkJK_18 : hkJK 18 = 100 := by decide +kernel
theorem hkKd_18 : hkKd 18 = 100 := by decide +kernel
theorem jL_18 : jL 18 = 8 := by decide +kernel
theorem hkJK_19 : hkJK 19 = 100 := by decide +kernel
theorem hkKd_19 : hkKd 19 = 100 := by decide +kernel
theorem jL_19 : jL 19 = 49 := by decide +kernel
theorem hkJK_20 : hkJK 20 = 100 := by decide +kernel
theorem hkKd_20 : hkKd 20 = 100 := by decide +kernel
theorem jL_20 : jL 20 = 49 := by decide +kernel
theorem hkJK_21 : hkJK 21 = 100 := by decide +kernel
theorem hkKd_21 : hkKd 21 = 100 := by decide +kernel
theorem jL_21 : jL 21 = 4 := by decide +kernel
theorem hkJK_22 : hkJK 22 = 5 := by decide +kernel
theorem hkKd_22 : hkKd 22 = 5 := by decide +kernel
theorem hkJK_23 : hkJK 23 = 101 := by decide +kernel
theorem hkKd_23 : hkKd 23 = 101 := by decide +kernel
theorem jL_23 : jL 23 = 630 := by decide +kernel
theorem hkJK_24 : hkJK 24 = 6 := by decide +kernel
theorem hkKd_24 : hkKd 24 = 6 := by decide +kernel
theorem hkJK_25 : hkJK 25 = 103 := by decide +kernel
theorem hkKd_25 : hkKd 25 = 103 := by decide +kernel
theorem jL_25 : jL 25 = 6 := by decide +kernel
theorem hkJK_26 : hkJK 26 = 103 := by decide +kernel
theorem hkKd_26 : hkKd 26 = 103 := by decide +kernel
theorem jL_26 : jL 26 = 5 := by decide +kernel
theorem hkJK_27 : hkJK 27 = 100 := by decide +kernel
theorem hkKd_27 : hkKd 27 = 100 := by decide +kernel
theorem jL_27 : jL 27 = 60 := by decide +kernel
theorem hkJK_28 : hkJK 28 = 7 := by decide +kernel
theorem hkKd_28 : hkKd 28 = 7 := by decide +kernel
theorem hkJK_29 : hkJK 29 = 100 := by decide +kernel
theorem hkKd_29 : hkKd 29 = 100 := by decide +kernel
theorem jL_29 : jL 29 = 280 := by decide +kernel
theorem hkJK_30 : hkJK 30 = 7 := by decide +kernel
theorem hkKd_30 : hkKd 30 = 7 := by decide +kernel
theorem hkJK_31 : hkJK 31 = 100 := by decide +kernel
theorem hkKd_31 : hkKd 31 = 100 := by decide +kernel
theorem jL_31 : jL 31 = 280 := by decide +kernel
theorem hkJK_32 : hkJK 32 = 7 := by decide +kernel
theorem hkKd_32 : hkKd 32 = 7 := by decide +kernel
theorem hkJK_33 : hkJK 33 = 100 := by decide +kernel
theorem hkKd_33 : hkKd 33 = 100 := by decide +kernel
theorem jL_33 : jL 33 = 280 := by decide +kernel
theorem hkJK_34 : hkJK 34 = 7 := by decide +kernel
theorem hkKd_34 : hkKd 34 = 7 := by decide +kernel
theorem hkJK_35 : hkJK 35 = 100 := by decide +kernel
theorem hkKd_35 : hkKd 35 = 100 := by decide +kernel
theorem jL_35 : jL 35 = 280 := by decide +kernel
theorem hkJK_36 : hkJK 36 = 7 := by decide +kernel
theorem hkKd_36 : hkKd 36 = 7 := by decide +kernel
theorem hkJK_37 : hkJK 37 = 100 := by decide +kernel
theorem hkKd_37 : hkKd 37 = 100 := by decide +kernel
theorem jL_37 : jL 37 = 280 := by decide +kernel
theorem hkJK_38 : hkJK 38 = 7 := by decide +kernel
theorem hkKd_38 : hkKd 38 = 7 := by decide +kernel
theorem hkJK_39 : hkJK 39 = 100 := by decide +kernel
theorem hkKd_39 : hkKd 39 = 100 := by decide +kernel
theorem jL_39 : jL 39 = 280 := by decide +kernel
theorem hkJK_40 : hkJK 40 = 7 := by decide +kernel
theorem hkKd_40 : hkKd 40 = 7 := by decide +kernel
theorem hkJK_41 : hkJK 41 = 100 := by decide +kernel
theorem hkKd_41 : hkKd 41 = 100 := by decide +kernel
theorem jL_41 : jL 41 = 280 := by decide +kernel
theorem hkJK_42 : hkJK 42 = 7 := by decide +kernel
theorem hkKd_42 : hkKd 42 = 7 := by decide +kernel
theorem hkJK_43 : hkJK 43 = 100 := by decide +kernel
theorem hkKd_43 : hkKd 43 = 100 := by decide +kernel
theorem jL_43 : jL 43 = 280 := by decide +kernel
theorem hkJK_44 : hkJK 44 = 7 := by decide +kernel
theorem hkKd_44 : hkKd 44 = 7 := by decide +kernel
theorem hkJK_45 : hkJK 45 = 100 := by decide +kernel
theorem hkKd_45 : hkKd 45 = 100 := by decide +kernel
theorem jL_45 : jL 45 = 280 := by decide +kernel
theorem hkJK_46 : hkJK 46 = 7 := by decide +kernel
theorem hkKd_46 : hkKd 46 = 7 := by decide +kernel
theorem hkJK_47 : hkJK 47 = 100 := by decide +kernel
theorem hkKd_47 : hkKd 47 = 100 := by decide +kernel
theorem jL_47 : jL 47 = 280 := by decide +kernel
theorem hkJK_48 : hkJK 48 = 7 := by decide +kernel
theorem hkKd_48 : hkKd 48 = 7 := by decide +kernel
theorem hkJK_49 : hkJK 49 = 100 := by decide +kernel
theorem hkKd_49 : hkKd 49 = 100 := by decide +kernel
theorem jL_49 : jL 49 = 280 := by decide +kernel
theorem hkJK_50 : hkJK 50 = 8 := by decide +kernel
theorem hkKd_50 : hkKd 50 = 8 := by decide +kernel
theorem hkJK_51 : hkJK 51 = 7 := by decide +kernel
theorem hkKd_51 : hkKd 51 = 7 := by decide +kernel
theorem hkJK_52 : hkJK 52 = 100 := by decide +kernel
theorem hkKd_52 : hkKd 52 = 100 := by decide +kernel
theorem jL_52 : jL 52 = 280 := by decide +kernel
theorem hkJK_53 : hkJK 53 = 7 := by decide +kernel
theorem hkKd_53 : hkKd 53 = 7 := by decide +kernel
theorem hkJK_54 : hkJK 54 = 100 := by decide +kernel
theorem hkKd_54 : hkKd 54 = 100 := by decide +kernel
theorem jL_54 : jL 54 = 280 := by decide +kernel
theorem hkJK_55 : hkJK 55 = 7 := by decide +kernel
theorem hkKd_55 : hkKd 55 = 7 := by decide +kernel
theorem hkJK_56 : hkJK 56 = 100 := by decide +kernel
theorem hkKd_56 : hkKd 56 = 100 := by decide +kernel
theorem jL_56 : jL 56 = 280 := by decide +kernel
theorem hkJK_57 : hkJK 57 = 104 := by decide +kernel
theorem hkKd_57 : hkKd 57 = 104 := by decide +kernel
theorem jL_57 : jL 57 = 4 := by decide +kernel
theorem hkJK_58 : hkJK 58 = 9 := by decide +kernel
theorem hkKd_58 : hkKd 58 = 9 := by decide +kernel
theorem hkJK_59 : hkJK 59 = 100 := by decide +kernel
theorem hkKd_59 : hkKd 59 = 100 := by decide +kernel
theorem jL_59 : jL 59 = 40 := by decide +kernel
theorem hkJK_60 : hkJK 60 = 9 := by decide +kernel
theorem hkKd_60 : hkKd 60 = 9 := by decide +kernel
theorem hkJK_61 : hkJK 61 = 100 := by decide +kernel
theorem hkKd_61 : hkKd 61 = 100 := by decide +kernel
theorem jL_61 : jL 61 = 40 := by decide +kernel
theorem hkJK_62 : hkJK 62 = 9 := by decide +kernel
theorem hkKd_62 : hkKd 62 = 9 := by decide +kernel
theorem hkJK_63 : hkJK 63 = 100 := by decide +kernel
theorem hkKd_63 : hkKd 63 = 100 := by decide +kernel
theorem jL_63 : jL 63 = 40 := by decide +kernel
theorem hkJK_64 : hkJK 64 = 9 := by decide +kernel
theorem hkKd_64 : hkKd 64 = 9 := by decide +kernel
theorem hkJK_65 : hkJK 65 = 100 := by decide +kernel
theorem hkKd_65 : hkKd 65 = 100 := by decide +kernel
theorem jL_65 : jL 65 = 40 := by decide +kernel
theorem hkJK_66 : hkJK 66 = 10 := by decide +kernel
theorem hkKd_66 : hkKd 66 = 10 := by decide +kernel
theorem hkJK_67 : hkJK 67 = 100 := by decide +kernel
theorem hkKd_67 : hkKd 67 = 100 := by decide +kernel
theorem jL_67 : jL 67 = 140 := by decide +kernel
theorem hkJK_68 : hkJK 68 = 100 := by decide +kernel
theorem hkKd_68 : hkKd 68 = 100 := by decide +kernel
theorem jL_68 : jL 68 = 128 := by decide +kernel
theorem hkJK_69 : hkJK 69 = 100 := by decide +kernel
theorem hkKd_69 : hkKd 69 = 100 := by decide +kernel
theorem jL_69 : jL 69 = 35 := by decide +kernel
theorem hkJK_70 : hkJK 70 = 100 := by decide +kernel
theorem hkKd_70 : hkKd 70 = 100 := by decide +kernel
theorem jL_70 : jL 70 = 42875 := by decide +kernel
theorem hkJK_71 : hkJK 71 = 102 := by decide +kernel
theorem hkKd_71 : hkKd 71 = 102 := by decide +kernel
theorem jL_71 : jL 71 = 1225 := by decide +kernel
theorem hkJK_72 : hkJK 72 = 100 := by decide +kernel
theorem hkKd_72 : hkKd 72 = 100 := by decide +kernel
theorem jL_72 : jL 72 = 280 := by decide +kernel
theorem hkJK_73 : hkJK 73 = 100 := by decide +kernel
theorem hkKd_73 : hkKd 73 = 100 := by decide +kernel
theorem jL_73 : jL 73 = 280 := by decide +kernel
theorem hkJK_74 : hkJK 74 = 100 := by decide +kernel
theorem hkKd_74 : hkKd 74 = 100 := by decide +kernel
theorem jL_74 : jL 74 = 4 := by decide +kernel
theorem hkJK_75 : hkJK 75 = 100 := by decide +kernel
theorem hkKd_75 : hkKd 75 = 100 := by decide +kernel
theorem jL_75 : jL 75 = 4 := by decide +kernel
theorem hkJK_76 : hkJK 76 = 100 := by decide +kernel
theorem hkKd_76 : hkKd 76 = 100 := by decide +kernel
theorem jL_76 : jL 76 = 35 := by decide +kernel
theorem hkJK_77 : hkJK 77 = 100 := by decide +kernel
theorem hkKd_77 : hkKd 77 = 100 := by decide +kernel
theorem jL_77 : jL 77 = 35 := by decide +kernel
theorem hkJK_78 : hkJK 78 = 100 := by decide +kernel
theorem hkKd_78 : hkKd 78 = 100 := by decide +kernel
theorem jL_78 : jL 78 = 4 := by decide +kernel
theorem hkJK_79 : hkJK 79 = 100 := by decide +kernel
theorem hkKd_79 : hkKd 79 = 100 := by decide +kernel
theorem jL_79 : jL 79 = 4 := by decide +kernel
theorem hkJK_80 : hkJK 80 = 100 := by decide +kernel
theorem hkKd_80 : hkKd 80 = 100 := by decide +kernel
theorem jL_80 : jL 80 = 7 := by decide +kernel
theorem hkJK_81 : hkJK 81 = 100 := by decide +kernel
theorem hkKd_81 : hkKd 81 = 100 := by decide +kernel
theorem jL_81 : jL 81 = 4 := by decide +kernel
theorem hkJK_82 : hkJK 82 = 100 := by decide +kernel
theorem hkKd_82 : hkKd 82 = 100 := by decide +kernel
theorem jL_82 : jL 82 = 8 := by decide +kernel
theorem hkJK_83 : hkJK 83 = 100 := by decide +kernel
theorem hkKd_83 : hkKd 83 = 100 := by decide +kernel
theorem jL_83 : jL 83 = 4480 := by decide +kernel
theorem hkJK_84 : hkJK 84 = 101 := by decide +kernel
theorem hkKd_84 : hkKd 84 = 101 := by decide +kernel
theorem jL_84 : jL 84 = 840 := by decide +kernel
theorem hkJK_85 : hkJK 85 = 100 := by decide +kernel
theorem hkKd_85 : hkKd 85 = 100 := by decide +kernel
theorem jL_85 : jL 85 = 60 := by decide +kernel
theorem hkJK_86 : hkJK 86 = 100 := by decide +kernel
theorem hkKd_86 : hkKd 86 = 100 := by decide +kernel
theorem jL_86 : jL 86 = 5 := by decide +kernel
theorem hkJK_87 : hkJK 87 = 100 := by decide +kernel
theorem hkKd_87 : hkKd 87 = 100 := by decide +kernel
theorem jL_87 : jL 87 = 4 := by decide +kernel
theorem hkJK_88 : hkJK 88 = 100 := by decide +kernel
theorem hkKd_88 : hkKd 88 = 100 := by decide +kernel
theorem jL_88 : jL 88 = 4 := by decide +kernel
theorem hkJK_89 : hkJK 89 = 100 := by decide +kernel
theorem hkKd_89 : hkKd 89 = 100 := by decide +kernel
theorem jL_89 : jL 89 = 160 := by decide +kernel
theorem hkJK_90 : hkJK 90 = 100 := by decide +kernel
theorem hkKd_90 : hkKd 90 = 100 := by decide +kernel
theorem jL_90 : jL 90 = 40 := by decide +kernel
theorem jA_1_4 : jA 1 4 = 4 := by decide +kernel
theorem jR_1_4 : jR 1 4 = 2 := by decide +kernel
theorem jA_1_5 : jA 1 5 = 6 := by decide +kernel
theorem jR_1_5 : jR 1 5 = 3 := by decide +kernel
theorem jA_1_6 : jA 1 6 = 8 := by decide +kernel
theorem jR_1_6 : jR 1 6 = 4 := by decide +kernel
theorem jA_1_7 : jA 1 7 = 10 := by decide +kernel
theorem jR_1_7 : jR 1 7 = 5 := by decide +kernel
theorem jA_1_8 : jA 1 8 = 12 := by decide +kernel
theorem jR_1_8 : jR 1 8 = 6 := by decide +kernel
theorem jA_1_9 : jA 1 9 = 14 := by decide +kernel
theorem jR_1_9 : jR 1 9 = 7 := by decide +kernel
theorem jA_1_10 : jA 1 10 = 16 := by decide +kernel
theorem jR_1_10 : jR 1 10 = 8 := by decide +kernel
theorem jA_1_11 : jA 1 11 = 18 := by decide +kernel
theorem jR_1_11 : jR 1 11 = 9 := by decide +kernel
theorem jA_0_0 : jA 0 0 = 19 := by decide +kernel
theorem jR_0_0 : jR 0 0 = 1 := by decide +kernel
theorem jA_10_4 : jA 10 4 = 22 := by decide +kernel
theorem jR_10_4 : jR 10 4 = 11 := by decide +kernel
theorem jA_10_3 : jA 10 3 = 23 := by decide +kernel
theorem jR_10_3 : jR 10 3 = 1 := by decide +kernel
theorem jA_0_1 : jA 0 1 = 24 := by decide +kernel
theorem jR_0_1 : jR 0 1 = 10 := by decide +kernel
theorem jA_12_2 : jA 12 2 = 27 := by decide +kernel
theorem jR_12_2 : jR 12 2 = 13 := by decide +kernel
theorem jA_12_3 : jA 12 3 = 29 := by decide +kernel
theorem jR_12_3 : jR 12 3 = 14 := by decide +kernel
theorem jA_12_4 : jA 12 4 = 31 := by decide +kernel
theorem jR_12_4 : jR 12 4 = 15 := by decide +kernel
theorem jA_12_5 : jA 12 5 = 33 := by decide +kernel
theorem jR_12_5 : jR 12 5 = 16 := by decide +kernel
theorem jA_12_0 : jA 12 0 = 34 := by decide +kernel
theorem jR_12_0 : jR 12 0 = 1 := by decide +kernel
theorem jA_12_1 : jA 12 1 = 35 := by decide +kernel
theorem jR_12_1 : jR 12 1 = 10 := by decide +kernel
theorem jA_0_2 : jA 0 2 = 36 := by decide +kernel
theorem jR_0_2 : jR 0 2 = 12 := by decide +kernel
theorem jA_17_0 : jA 17 0 = 39 := by decide +kernel
theorem jR_17_0 : jR 17 0 = 18 := by decide +kernel
theorem jA_17_2 : jA 17 2 = 41 := by decide +kernel
theorem jR_17_2 : jR 17 2 = 19 := by decide +kernel
theorem jA_17_3 : jA 17 3 = 43 := by decide +kernel
theorem jR_17_3 : jR 17 3 = 20 := by decide +kernel
theorem jA_17_4 : jA 17 4 = 45 := by decide +kernel
theorem jR_17_4 : jR 17 4 = 21 := by decide +kernel
theorem jA_17_1 : jA 17 1 = 46 := by decide +kernel
theorem jR_17_1 : jR 17 1 = 1 := by decide +kernel
theorem jA_0_3 : jA 0 3 = 47 := by decide +kernel
theorem jR_0_3 : jR 0 3 = 17 := by decide +kernel
theorem jA_22_2 : jA 22 2 = 50 := by decide +kernel
theorem jR_22_2 : jR 22 2 = 23 := by decide +kernel
theorem jA_22_0 : jA 22 0 = 51 := by decide +kernel
theorem jR_22_0 : jR 22 0 = 1 := by decide +kernel
theorem jA_22_1 : jA 22 1 = 52 := by decide +kernel
theorem jR_22_1 : jR 22 1 = 12 := by decide +kernel
theorem jA_0_4 : jA 0 4 = 53 := by decide +kernel
theorem jR_0_4 : jR 0 4 = 22 := by decide +kernel
theorem jA_24_4 : jA 24 4 = 56 := by decide +kernel
theorem jR_24_4 : jR 24 4 = 25 := by decide +kernel
theorem jA_24_5 : jA 24 5 = 58 := by decide +kernel
theorem jR_24_5 : jR 24 5 = 26 := by decide +kernel
theorem jA_24_6 : jA 24 6 = 60 := by decide +kernel
theorem jR_24_6 : jR 24 6 = 27 := by decide +kernel
theorem jA_24_8 : jA 24 8 = 61 := by decide +kernel
theorem jR_24_8 : jR 24 8 = 1 := by decide +kernel
theorem jA_24_9 : jA 24 9 = 62 := by decide +kernel
theorem jR_24_9 : jR 24 9 = 22 := by decide +kernel
theorem jA_28_0 : jA 28 0 = 65 := by decide +kernel
theorem jR_28_0 : jR 28 0 = 29 := by decide +kernel
theorem jA_25_0 : jA 25 0 = 66 := by decide +kernel
theorem jR_25_0 : jR 25 0 = 28 := by decide +kernel
theorem jAi_25_0 : jAi 25 0 = 66 := by decide +kernel
theorem jRi_25_0 : jRi 25 0 = 28 := by decide +kernel
theorem jA_30_0 : jA 30 0 = 69 := by decide +kernel
theorem jR_30_0 : jR 30 0 = 31 := by decide +kernel
theorem jA_25_1 : jA 25 1 = 70 := by decide +kernel
theorem jR_25_1 : jR 25 1 = 30 := by decide +kernel
theorem jAi_25_1 : jAi 25 1 = 70 := by decide +kernel
theorem jRi_25_1 : jRi 25 1 = 30 := by decide +kernel
theorem jA_32_0 : jA 32 0 = 73 := by decide +kernel
theorem jR_32_0 : jR 32 0 = 33 := by decide +kernel
theorem jA_25_2 : jA 25 2 = 74 := by decide +kernel
theorem jR_25_2 : jR 25 2 = 32 := by decide +kernel
theorem jAi_25_2 : jAi 25 2 = 74 := by decide +kernel
theorem jRi_25_2 : jRi 25 2 = 32 := by decide +kernel
theorem jA_34_0 : jA 34 0 = 77 := by decide +kernel
theorem jR_34_0 : jR 34 0 = 35 := by decide +kernel
theorem jA_25_3 : jA 25 3 = 78 := by decide +kernel
theorem jR_25_3 : jR 25 3 = 34 := by decide +kernel
theorem jAi_25_3 : jAi 25 3 = 78 := by decide +kernel
theorem jRi_25_3 : jRi 25 3 = 34 := by decide +kernel
theorem jA_36_0 : jA 36 0 = 81 := by decide +kernel
theorem jR_36_0 : jR 36 0 = 37 := by decide +kernel
theorem jA_25_4 : jA 25 4 = 82 := by decide +kernel
theorem jR_25_4 : jR 25 4 = 36 := by decide +kernel
theorem jAi_25_4 : jAi 25 4 = 82 := by decide +kernel
theorem jRi_25_4 : jRi 25 4 = 36 := by decide +kernel
theorem jA_38_0 : jA 38 0 = 85 := by decide +kernel
theorem jR_38_0 : jR 38 0 = 39 := by decide +kernel
theorem jA_25_5 : jA 25 5 = 86 := by decide +kernel
theorem jR_25_5 : jR 25 5 = 38 := by decide +kernel
theorem jAi_25_5 : jAi 25 5 = 86 := by decide +kernel
theorem jRi_25_5 : jRi 25 5 = 38 := by decide +kernel
theorem jA_40_0 : jA 40 0 = 89 := by decide +kernel
theorem jR_40_0 : jR 40 0 = 41 := by decide +kernel
theorem jA_26_0 : jA 26 0 = 90 := by decide +kernel
theorem jR_26_0 : jR 26 0 = 40 := by decide +kernel
theorem jAi_26_0 : jAi 26 0 = 90 := by decide +kernel
theorem jRi_26_0 : jRi 26 0 = 40 := by decide +kernel
theorem jA_42_0 : jA 42 0 = 93 := by decide +kernel
theorem jR_42_0 : jR 42 0 = 43 := by decide +kernel
theorem jA_26_1 : jA 26 1 = 94 := by decide +kernel
theorem jR_26_1 : jR 26 1 = 42 := by decide +kernel
theorem jAi_26_1 : jAi 26 1 = 94 := by decide +kernel
theorem jRi_26_1 : jRi 26 1 = 42 := by decide +kernel
theorem jA_44_0 : jA 44 0 = 97 := by decide +kernel
theorem jR_44_0 : jR 44 0 = 45 := by decide +kernel
theorem jA_26_2 : jA 26 2 = 98 := by decide +kernel
theorem jR_26_2 : jR 26 2 = 44 := by decide +kernel
theorem jAi_26_2 : jAi 26 2 = 98 := by decide +kernel
theorem jRi_26_2 : jRi 26 2 = 44 := by decide +kernel
theorem jA_46_0 : jA 46 0 = 101 := by decide +kernel
theorem jR_46_0 : jR 46 0 = 47 := by decide +kernel
theorem jA_26_3 : jA 26 3 = 102 := by decide +kernel
theorem jR_26_3 : jR 26 3 = 46 := by decide +kernel
theorem jAi_26_3 : jAi 26 3 = 102 := by decide +kernel
theorem jRi_26_3 : jRi 26 3 = 46 := by decide +kernel
theorem jA_48_0 : jA 48 0 = 105 := by decide +kernel
theorem jR_48_0 : jR 48 0 = 49 := by decide +kernel
theorem jA_26_4 : jA 26 4 = 106 := by decide +kernel
theorem jR_26_4 : jR 26 4 = 48 := by decide +kernel
theorem jAi_26_4 : jAi 26 4 = 106 := by decide +kernel
theorem jRi_26_4 : jRi 26 4 = 48 := by decide +kernel
theorem jA_0_5 : jA 0 5 = 107 := by decide +kernel
theorem jR_0_5 : jR 0 5 = 24 := by decide +kernel
theorem jA_50_2 : jA 50 2 = 109 := by decide +kernel
theorem jR_50_2 : jR 50 2 = 1 := by decide +kernel
theorem jA_50_3 : jA 50 3 = 110 := by decide +kernel
theorem jR_50_3 : jR 50 3 = 12 := by decide +kernel
theorem jA_0_6 : jA 0 6 = 111 := by decide +kernel
theorem jR_0_6 : jR 0 6 = 50 := by decide +kernel
theorem jA_51_0 : jA 51 0 = 114 := by decide +kernel
theorem jR_51_0 : jR 51 0 = 52 := by decide +kernel
theorem jA_0_7 : jA 0 7 = 115 := by decide +kernel
theorem jR_0_7 : jR 0 7 = 51 := by decide +kernel
theorem jA_53_0 : jA 53 0 = 118 := by decide +kernel
theorem jR_53_0 : jR 53 0 = 54 := by decide +kernel
theorem jA_0_8 : jA 0 8 = 119 := by decide +kernel
theorem jR_0_8 : jR 0 8 = 53 := by decide +kernel
theorem jA_55_0 : jA 55 0 = 122 := by decide +kernel
theorem jR_55_0 : jR 55 0 = 56 := by decide +kernel
theorem jA_0_9 : jA 0 9 = 123 := by decide +kernel
theorem jR_0_9 : jR 0 9 = 55 := by decide +kernel
theorem jA_0_12 : jA 0 12 = 125 := by decide +kernel
theorem jR_0_12 : jR 0 12 = 57 := by decide +kernel
theorem jA_58_2 : jA 58 2 = 128 := by decide +kernel
theorem jR_58_2 : jR 58 2 = 59 := by decide +kernel
theorem jA_57_0 : jA 57 0 = 129 := by decide +kernel
theorem jR_57_0 : jR 57 0 = 58 := by decide +kernel
theorem jAi_57_0 : jAi 57 0 = 129 := by decide +kernel
theorem jRi_57_0 : jRi 57 0 = 58 := by decide +kernel
theorem jA_60_2 : jA 60 2 = 132 := by decide +kernel
theorem jR_60_2 : jR 60 2 = 61 := by decide +kernel
theorem jA_57_1 : jA 57 1 = 133 := by decide +kernel
theorem jR_57_1 : jR 57 1 = 60 := by decide +kernel
theorem jAi_57_1 : jAi 57 1 = 133 := by decide +kernel
theorem jRi_57_1 : jRi 57 1 = 60 := by decide +kernel
theorem jA_62_2 : jA 62 2 = 136 := by decide +kernel
theorem jR_62_2 : jR 62 2 = 63 := by decide +kernel
theorem jA_57_2 : jA 57 2 = 137 := by decide +kernel
theorem jR_57_2 : jR 57 2 = 62 := by decide +kernel
theorem jAi_57_2 : jAi 57 2 = 137 := by decide +kernel
theorem jRi_57_2 : jRi 57 2 = 62 := by decide +kernel
theorem jA_64_2 : jA 64 2 = 140 := by decide +kernel
theorem jR_64_2 : jR 64 2 = 65 := by decide +kernel
theorem jA_57_3 : jA 57 3 = 141 := by decide +kernel
theorem jR_57_3 : jR 57 3 = 64 := by decide +kernel
theorem jAi_57_3 : jAi 57 3 = 141 := by decide +kernel
theorem jRi_57_3 : jRi 57 3 = 64 := by decide +kernel
theorem jA_66_3 : jA 66 3 = 144 := by decide +kernel
theorem jR_66_3 : jR 66 3 = 67 := by decide +kernel
theorem jA_66_4 : jA 66 4 = 146 := by decide +kernel
theorem jR_66_4 : jR 66 4 = 68 := by decide +kernel
theorem jA_66_5 : jA 66 5 = 148 := by decide +kernel
theorem jR_66_5 : jR 66 5 = 69 := by decide +kernel
theorem jA_66_6 : jA 66 6 = 150 := by decide +kernel
theorem jR_66_6 : jR 66 6 = 70 := by decide +kernel
theorem jA_66_7 : jA 66 7 = 152 := by decide +kernel
theorem jR_66_7 : jR 66 7 = 71 := by decide +kernel
theorem jA_66_8 : jA 66 8 = 154 := by decide +kernel
theorem jR_66_8 : jR 66 8 = 72 := by decide +kernel
theorem jA_66_9 : jA 66 9 = 156 := by decide +kernel
theorem jR_66_9 : jR 66 9 = 73 := by decide +kernel
theorem jA_66_14 : jA 66 14 = 158 := by decide +kernel
theorem jR_66_14 : jR 66 14 = 74 := by decide +kernel
theorem jA_66_15 : jA 66 15 = 160 := by decide +kernel
theorem jR_66_15 : jR 66 15 = 75 := by decide +kernel
theorem jA_66_19 : jA 66 19 = 162 := by decide +kernel
theorem jR_66_19 : jR 66 19 = 76 := by decide +kernel
theorem jA_66_20 : jA 66 20 = 164 := by decide +kernel
theorem jR_66_20 : jR 66 20 = 77 := by decide +kernel
theorem jA_66_21 : jA 66 21 = 166 := by decide +kernel
theorem jR_66_21 : jR 66 21 = 78 := by decide +kernel
theorem jA_66_22 : jA 66 22 = 168 := by decide +kernel
theorem jR_66_22 : jR 66 22 = 79 := by decide +kernel
theorem jA_66_23 : jA 66 23 = 170 := by decide +kernel
theorem jR_66_23 : jR 66 23 = 80 := by decide +kernel
theorem jA_66_24 : jA 66 24 = 172 := by decide +kernel
theorem jR_66_24 : jR 66 24 = 81 := by decide +kernel
theorem jA_66_25 : jA 66 25 = 174 := by decide +kernel
theorem jR_66_25 : jR 66 25 = 82 := by decide +kernel
theorem jA_66_27 : jA 66 27 = 176 := by decide +kernel
theorem jR_66_27 : jR 66 27 = 83 := by decide +kernel
theorem jA_66_28 : jA 66 28 = 178 := by decide +kernel
theorem jR_66_28 : jR 66 28 = 84 := by decide +kernel
theorem jA_66_30 : jA 66 30 = 180 := by decide +kernel
theorem jR_66_30 : jR 66 30 = 85 := by decide +kernel
theorem jA_66_31 : jA 66 31 = 182 := by decide +kernel
theorem jR_66_31 : jR 66 31 = 86 := by decide +kernel
theorem jA_66_36 : jA 66 36 = 184 := by decide +kernel
theorem jR_66_36 : jR 66 36 = 87 := by decide +kernel
theorem jA_66_37 : jA 66 37 = 186 := by decide +kernel
theorem jR_66_37 : jR 66 37 = 88 := by decide +kernel
theorem jA_66_38 : jA 66 38 = 188 := by decide +kernel
theorem jR_66_38 : jR 66 38 = 89 := by decide +kernel
theorem jA_66_39 : jA 66 39 = 190 := by decide +kernel
theorem jR_66_39 : jR 66 39 = 90 := by decide +kernel
theorem jE_0 : hkEV[0]? = some (0, 0, 0, 0) := by decide +kernel
theorem jE_1 : hkEV[1]? = some (0, 1, 0, 0) := by decide +kernel
theorem jE_2 : hkEV[2]? = some (0, 2, 0, 0) := by decide +kernel
theorem jE_3 : hkEV[3]? = some (1, 1, 4, 2) := by decide +kernel
theorem jE_4 : hkEV[4]? = some (0, 3, 0, 0) := by decide +kernel
theorem jE_5 : hkEV[5]? = some (1, 1, 5, 3) := by decide +kernel
theorem jE_6 : hkEV[6]? = some (0, 4, 0, 0) := by decide +kernel
theorem jE_7 : hkEV[7]? = some (1, 1, 6, 4) := by decide +kernel
theorem jE_8 : hkEV[8]? = some (0, 5, 0, 0) := by decide +kernel
theorem jE_9 : hkEV[9]? = some (1, 1, 7, 5) := by decide +kernel
theorem jE_10 : hkEV[10]? = some (0, 6, 0, 0) := by decide +kernel
theorem jE_11 : hkEV[11]? = some (1, 1, 8, 6) := by decide +kernel
theorem jE_12 : hkEV[12]? = some (0, 7, 0, 0) := by decide +kernel
theorem jE_13 : hkEV[13]? = some (1, 1, 9, 7) := by decide +kernel
theorem jE_14 : hkEV[14]? = some (0, 8, 0, 0) := by decide +kernel
theorem jE_15 : hkEV[15]? = some (1, 1, 10, 8) := by decide +kernel
theorem jE_16 : hkEV[16]? = some (0, 9, 0, 0) := by decide +kernel
theorem jE_17 : hkEV[17]? = some (1, 1, 11, 9) := by decide +kernel
theorem jE_18 : hkEV[18]? = some (1, 0, 0, 1) := by decide +kernel
theorem jE_19 : hkEV[19]? = some (0, 10, 0, 0) := by decide +kernel
theorem jE_20 : hkEV[20]? = some (0, 11, 0, 0) := by decide +kernel
theorem jE_21 : hkEV[21]? = some (1, 10, 4, 11) := by decide +kernel
theorem jE_22 : hkEV[22]? = some (1, 10, 3, 1) := by decide +kernel
theorem jE_23 : hkEV[23]? = some (1, 0, 1, 10) := by decide +kernel
theorem jE_24 : hkEV[24]? = some (0, 12, 0, 0) := by decide +kernel
theorem jE_25 : hkEV[25]? = some (0, 13, 0, 0) := by decide +kernel
theorem jE_26 : hkEV[26]? = some (1, 12, 2, 13) := by decide +kernel
theorem jE_27 : hkEV[27]? = some (0, 14, 0, 0) := by decide +kernel
theorem jE_28 : hkEV[28]? = some (1, 12, 3, 14) := by decide +kernel
theorem jE_29 : hkEV[29]? = some (0, 15, 0, 0) := by decide +kernel
theorem jE_30 : hkEV[30]? = some (1, 12, 4, 15) := by decide +kernel
theorem jE_31 : hkEV[31]? = some (0, 16, 0, 0) := by decide +kernel
theorem jE_32 : hkEV[32]? = some (1, 12, 5, 16) := by decide +kernel
theorem jE_33 : hkEV[33]? = some (1, 12, 0, 1) := by decide +kernel
theorem jE_34 : hkEV[34]? = some (1, 12, 1, 10) := by decide +kernel
theorem jE_35 : hkEV[35]? = some (1, 0, 2, 12) := by decide +kernel
theorem jE_36 : hkEV[36]? = some (0, 17, 0, 0) := by decide +kernel
theorem jE_37 : hkEV[37]? = some (0, 18, 0, 0) := by decide +kernel
theorem jE_38 : hkEV[38]? = some (1, 17, 0, 18) := by decide +kernel
theorem jE_39 : hkEV[39]? = some (0, 19, 0, 0) := by decide +kernel
theorem jE_40 : hkEV[40]? = some (1, 17, 2, 19) := by decide +kernel
theorem jE_41 : hkEV[41]? = some (0, 20, 0, 0) := by decide +kernel
theorem jE_42 : hkEV[42]? = some (1, 17, 3, 20) := by decide +kernel
theorem jE_43 : hkEV[43]? = some (0, 21, 0, 0) := by decide +kernel
theorem jE_44 : hkEV[44]? = some (1, 17, 4, 21) := by decide +kernel
theorem jE_45 : hkEV[45]? = some (1, 17, 1, 1) := by decide +kernel
theorem jE_46 : hkEV[46]? = some (1, 0, 3, 17) := by decide +kernel
theorem jE_47 : hkEV[47]? = some (0, 22, 0, 0) := by decide +kernel
theorem jE_48 : hkEV[48]? = some (0, 23, 0, 0) := by decide +kernel
theorem jE_49 : hkEV[49]? = some (1, 22, 2, 23) := by decide +kernel
theorem jE_50 : hkEV[50]? = some (1, 22, 0, 1) := by decide +kernel
theorem jE_51 : hkEV[51]? = some (1, 22, 1, 12) := by decide +kernel
theorem jE_52 : hkEV[52]? = some (1, 0, 4, 22) := by decide +kernel
theorem jE_53 : hkEV[53]? = some (0, 24, 0, 0) := by decide +kernel
theorem jE_54 : hkEV[54]? = some (0, 25, 0, 0) := by decide +kernel
theorem jE_55 : hkEV[55]? = some (1, 24, 4, 25) := by decide +kernel
theorem jE_56 : hkEV[56]? = some (0, 26, 0, 0) := by decide +kernel
theorem jE_57 : hkEV[57]? = some (1, 24, 5, 26) := by decide +kernel
theorem jE_58 : hkEV[58]? = some (0, 27, 0, 0) := by decide +kernel
theorem jE_59 : hkEV[59]? = some (1, 24, 6, 27) := by decide +kernel
theorem jE_60 : hkEV[60]? = some (1, 24, 8, 1) := by decide +kernel
theorem jE_61 : hkEV[61]? = some (1, 24, 9, 22) := by decide +kernel
theorem jE_62 : hkEV[62]? = some (0, 28, 0, 0) := by decide +kernel
theorem jE_63 : hkEV[63]? = some (0, 29, 0, 0) := by decide +kernel
theorem jE_64 : hkEV[64]? = some (1, 28, 0, 29) := by decide +kernel
theorem jE_65 : hkEV[65]? = some (1, 25, 0, 28) := by decide +kernel
theorem jE_66 : hkEV[66]? = some (0, 30, 0, 0) := by decide +kernel
theorem jE_67 : hkEV[67]? = some (0, 31, 0, 0) := by decide +kernel
theorem jE_68 : hkEV[68]? = some (1, 30, 0, 31) := by decide +kernel
theorem jE_69 : hkEV[69]? = some (1, 25, 1, 30) := by decide +kernel
theorem jE_70 : hkEV[70]? = some (0, 32, 0, 0) := by decide +kernel
theorem jE_71 : hkEV[71]? = some (0, 33, 0, 0) := by decide +kernel
theorem jE_72 : hkEV[72]? = some (1, 32, 0, 33) := by decide +kernel
theorem jE_73 : hkEV[73]? = some (1, 25, 2, 32) := by decide +kernel
theorem jE_74 : hkEV[74]? = some (0, 34, 0, 0) := by decide +kernel
theorem jE_75 : hkEV[75]? = some (0, 35, 0, 0) := by decide +kernel
theorem jE_76 : hkEV[76]? = some (1, 34, 0, 35) := by decide +kernel
theorem jE_77 : hkEV[77]? = some (1, 25, 3, 34) := by decide +kernel
theorem jE_78 : hkEV[78]? = some (0, 36, 0, 0) := by decide +kernel
theorem jE_79 : hkEV[79]? = some (0, 37, 0, 0) := by decide +kernel
theorem jE_80 : hkEV[80]? = some (1, 36, 0, 37) := by decide +kernel
theorem jE_81 : hkEV[81]? = some (1, 25, 4, 36) := by decide +kernel
theorem jE_82 : hkEV[82]? = some (0, 38, 0, 0) := by decide +kernel
theorem jE_83 : hkEV[83]? = some (0, 39, 0, 0) := by decide +kernel
theorem jE_84 : hkEV[84]? = some (1, 38, 0, 39) := by decide +kernel
theorem jE_85 : hkEV[85]? = some (1, 25, 5, 38) := by decide +kernel
theorem jE_86 : hkEV[86]? = some (0, 40, 0, 0) := by decide +kernel
theorem jE_87 : hkEV[87]? = some (0, 41, 0, 0) := by decide +kernel
theorem jE_88 : hkEV[88]? = some (1, 40, 0, 41) := by decide +kernel
theorem jE_89 : hkEV[89]? = some (1, 26, 0, 40) := by decide +kernel
theorem jE_90 : hkEV[90]? = some (0, 42, 0, 0) := by decide +kernel
theorem jE_91 : hkEV[91]? = some (0, 43, 0, 0) := by decide +kernel
theorem jE_92 : hkEV[92]? = some (1, 42, 0, 43) := by decide +kernel
theorem jE_93 : hkEV[93]? = some (1, 26, 1, 42) := by decide +kernel
theorem jE_94 : hkEV[94]? = some (0, 44, 0, 0) := by decide +kernel
theorem jE_95 : hkEV[95]? = some (0, 45, 0, 0) := by decide +kernel
theorem jE_96 : hkEV[96]? = some (1, 44, 0, 45) := by decide +kernel
theorem jE_97 : hkEV[97]? = some (1, 26, 2, 44) := by decide +kernel
theorem jE_98 : hkEV[98]? = some (0, 46, 0, 0) := by decide +kernel
theorem jE_99 : hkEV[99]? = some (0, 47, 0, 0) := by decide +kernel
theorem jE_100 : hkEV[100]? = some (1, 46, 0, 47) := by decide +kernel
theorem jE_101 : hkEV[101]? = some (1, 26, 3, 46) := by decide +kernel
theorem jE_102 : hkEV[102]? = some (0, 48, 0, 0) := by decide +kernel
theorem jE_103 : hkEV[103]? = some (0, 49, 0, 0) := by decide +kernel
theorem jE_104 : hkEV[104]? = some (1, 48, 0, 49) := by decide +kernel
theorem jE_105 : hkEV[105]? = some (1, 26, 4, 48) := by decide +kernel
theorem jE_106 : hkEV[106]? = some (1, 0, 5, 24) := by decide +kernel
theorem jE_107 : hkEV[107]? = some (0, 50, 0, 0) := by decide +kernel
theorem jE_108 : hkEV[108]? = some (1, 50, 2, 1) := by decide +kernel
theorem jE_109 : hkEV[109]? = some (1, 50, 3, 12) := by decide +kernel
theorem jE_110 : hkEV[110]? = some (1, 0, 6, 50) := by decide +kernel
theorem jE_111 : hkEV[111]? = some (0, 51, 0, 0) := by decide +kernel
theorem jE_112 : hkEV[112]? = some (0, 52, 0, 0) := by decide +kernel
theorem jE_113 : hkEV[113]? = some (1, 51, 0, 52) := by decide +kernel
theorem jE_114 : hkEV[114]? = some (1, 0, 7, 51) := by decide +kernel
theorem jE_115 : hkEV[115]? = some (0, 53, 0, 0) := by decide +kernel
theorem jE_116 : hkEV[116]? = some (0, 54, 0, 0) := by decide +kernel
theorem jE_117 : hkEV[117]? = some (1, 53, 0, 54) := by decide +kernel
theorem jE_118 : hkEV[118]? = some (1, 0, 8, 53) := by decide +kernel
theorem jE_119 : hkEV[119]? = some (0, 55, 0, 0) := by decide +kernel
theorem jE_120 : hkEV[120]? = some (0, 56, 0, 0) := by decide +kernel
theorem jE_121 : hkEV[121]? = some (1, 55, 0, 56) := by decide +kernel
theorem jE_122 : hkEV[122]? = some (1, 0, 9, 55) := by decide +kernel
theorem jE_123 : hkEV[123]? = some (0, 57, 0, 0) := by decide +kernel
theorem jE_124 : hkEV[124]? = some (1, 0, 12, 57) := by decide +kernel
theorem jE_125 : hkEV[125]? = some (0, 58, 0, 0) := by decide +kernel
theorem jE_126 : hkEV[126]? = some (0, 59, 0, 0) := by decide +kernel
theorem jE_127 : hkEV[127]? = some (1, 58, 2, 59) := by decide +kernel
theorem jE_128 : hkEV[128]? = some (1, 57, 0, 58) := by decide +kernel
theorem jE_129 : hkEV[129]? = some (0, 60, 0, 0) := by decide +kernel
theorem jE_130 : hkEV[130]? = some (0, 61, 0, 0) := by decide +kernel
theorem jE_131 : hkEV[131]? = some (1, 60, 2, 61) := by decide +kernel
theorem jE_132 : hkEV[132]? = some (1, 57, 1, 60) := by decide +kernel
theorem jE_133 : hkEV[133]? = some (0, 62, 0, 0) := by decide +kernel
theorem jE_134 : hkEV[134]? = some (0, 63, 0, 0) := by decide +kernel
theorem jE_135 : hkEV[135]? = some (1, 62, 2, 63) := by decide +kernel
theorem jE_136 : hkEV[136]? = some (1, 57, 2, 62) := by decide +kernel
theorem jE_137 : hkEV[137]? = some (0, 64, 0, 0) := by decide +kernel
theorem jE_138 : hkEV[138]? = some (0, 65, 0, 0) := by decide +kernel
theorem jE_139 : hkEV[139]? = some (1, 64, 2, 65) := by decide +kernel
theorem jE_140 : hkEV[140]? = some (1, 57, 3, 64) := by decide +kernel
theorem jE_141 : hkEV[141]? = some (0, 66, 0, 0) := by decide +kernel
theorem jE_142 : hkEV[142]? = some (0, 67, 0, 0) := by decide +kernel
theorem jE_143 : hkEV[143]? = some (1, 66, 3, 67) := by decide +kernel
theorem jE_144 : hkEV[144]? = some (0, 68, 0, 0) := by decide +kernel
theorem jE_145 : hkEV[145]? = some (1, 66, 4, 68) := by decide +kernel
theorem jE_146 : hkEV[146]? = some (0, 69, 0, 0) := by decide +kernel
theorem jE_147 : hkEV[147]? = some (1, 66, 5, 69) := by decide +kernel
theorem jE_148 : hkEV[148]? = some (0, 70, 0, 0) := by decide +kernel
theorem jE_149 : hkEV[149]? = some (1, 66, 6, 70) := by decide +kernel
theorem jE_150 : hkEV[150]? = some (0, 71, 0, 0) := by decide +kernel
theorem jE_151 : hkEV[151]? = some (1, 66, 7, 71) := by decide +kernel
theorem jE_152 : hkEV[152]? = some (0, 72, 0, 0) := by decide +kernel
theorem jE_153 : hkEV[153]? = some (1, 66, 8, 72) := by decide +kernel
theorem jE_154 : hkEV[154]? = some (0, 73, 0, 0) := by decide +kernel
theorem jE_155 : hkEV[155]? = some (1, 66, 9, 73) := by decide +kernel
theorem jE_156 : hkEV[156]? = some (0, 74, 0, 0) := by decide +kernel
theorem jE_157 : hkEV[157]? = some (1, 66, 14, 74) := by decide +kernel
theorem jE_158 : hkEV[158]? = some (0, 75, 0, 0) := by decide +kernel
theorem jE_159 : hkEV[159]? = some (1, 66, 15, 75) := by decide +kernel
theorem jE_160 : hkEV[160]? = some (0, 76, 0, 0) := by decide +kernel
theorem jE_161 : hkEV[161]? = some (1, 66, 19, 76) := by decide +kernel
theorem jE_162 : hkEV[162]? = some (0, 77, 0, 0) := by decide +kernel
theorem jE_163 : hkEV[163]? = some (1, 66, 20, 77) := by decide +kernel
theorem jE_164 : hkEV[164]? = some (0, 78, 0, 0) := by decide +kernel
theorem jE_165 : hkEV[165]? = some (1, 66, 21, 78) := by decide +kernel
theorem jE_166 : hkEV[166]? = some (0, 79, 0, 0) := by decide +kernel
theorem jE_167 : hkEV[167]? = some (1, 66, 22, 79) := by decide +kernel
theorem jE_168 : hkEV[168]? = some (0, 80, 0, 0) := by decide +kernel
theorem jE_169 : hkEV[169]? = some (1, 66, 23, 80) := by decide +kernel
theorem jE_170 : hkEV[170]? = some (0, 81, 0, 0) := by decide +kernel
theorem jE_171 : hkEV[171]? = some (1, 66, 24, 81) := by decide +kernel
theorem jE_172 : hkEV[172]? = some (0, 82, 0, 0) := by decide +kernel
theorem jE_173 : hkEV[173]? = some (1, 66, 25, 82) := by decide +kernel
theorem jE_174 : hkEV[174]? = some (0, 83, 0, 0) := by decide +kernel
theorem jE_175 : hkEV[175]? = some (1, 66, 27, 83) := by decide +kernel
theorem jE_176 : hkEV[176]? = some (0, 84, 0, 0) := by decide +kernel
theorem jE_177 : hkEV[177]? = some (1, 66, 28, 84) := by decide +kernel
theorem jE_178 : hkEV[178]? = some (0, 85, 0, 0) := by decide +kernel
theorem jE_179 : hkEV[179]? = some (1, 66, 30, 85) := by decide +kernel
theorem jE_180 : hkEV[180]? = some (0, 86, 0, 0) := by decide +kernel
theorem jE_181 : hkEV[181]? = some (1, 66, 31, 86) := by decide +kernel
theorem jE_182 : hkEV[182]? = some (0, 87, 0, 0) := by decide +kernel
theorem jE_183 : hkEV[183]? = some (1, 66, 36, 87) := by decide +kernel
theorem jE_184 : hkEV[184]? = some (0, 88, 0, 0) := by decide +kernel
theorem jE_185 : hkEV[185]? = some (1, 66, 37, 88) := by decide +kernel
theorem jE_186 : hkEV[186]? = some (0, 89, 0, 0) := by decide +kernel
theorem jE_187 : hkEV[187]? = some (1, 66, 38, 89) := by decide +kernel
theorem jE_188 : hkEV[188]? = some (0, 90, 0, 0) := by decide +kernel
theorem jE_189 : hkEV[189]? = some (1, 66, 39, 90) := by decide +kernel
theorem hkP1_0 {x : Int} : hkP1 (0, x) = True := by unfold hkP1; simp
theorem hkP1_2 {x : Int} : hkP1 (2, x) = True := by unfold hkP1; simp
theorem hkP1_4 {x : Int} : hkP1 (4, x) = True := by unfold hkP1; simp
theorem hkP1_u : hkP1 hkU = True := by unfold hkP1 hkU; simp
theorem hkCat_0 {x : Int} : hkCat (0, x) = 1 := rfl
theorem hkCat_1 {x : Int} : hkCat (1, x) = 2 := rfl
theorem hkCat_2 {x : Int} : hkCat (2, x) = 1 := rfl
theorem hkCat_4 {x : Int} : hkCat (4, x) = 1 := rfl
theorem hkPush_s {v : hkV} {st : List hkV} : hkPush (some v) st = v :: st := rfl
theorem hkPush_n {st : List hkV} : hkPush none st = st := rfl
theorem hkW_in {x : Int} (h1 : -2147483648 ≤ x) (h2 : x ≤ 2147483647) : hkW x = x := hkW_id ⟨h1, h2⟩
theorem hkL_in {x : Int} (h1 : -9223372036854775808 ≤ x) (h2 : x ≤ 9223372036854775807) : hkL x = x := hkL_id ⟨h1, h2⟩
/-- a truth as a number -/
noncomputable def hkTf (p : Prop) : Int := @ite _ p (Classical.propDecidable p) 1 0
theorem hkTf_t {p : Prop} (h : p) : hkTf p = 1 := by unfold hkTf; rw [if_pos h]
theorem hkTf_f {p : Prop} (h : ¬ p) : hkTf p = 0 := by unfold hkTf; rw [if_neg h]
theorem hkTf_0 {p : Prop} : (hkTf p = 0) = ¬ p := by
  apply propext
  by_cases h : p
  · rw [hkTf_t h]; simp [h]
  · rw [hkTf_f h]; simp [h]
theorem hkTf_01 {p : Prop} : (hkTf p = 0 ∨ hkTf p = 1) = True := by
  apply propext
  by_cases h : p
  · rw [hkTf_t h]; simp
  · rw [hkTf_f h]; simp
theorem hkTf_1 {p : Prop} : (hkTf p = 1) = p := by
  apply propext
  by_cases h : p
  · rw [hkTf_t h]; simp [h]
  · rw [hkTf_f h]; simp [h]
theorem hkTf_n1 {p : Prop} : (¬ p ∨ hkTf p = 1) = True := by
  apply propext
  by_cases h : p
  · rw [hkTf_t h]; simp
  · simp [h]
theorem hkOr01 : ((0 : Int) = 0 ∨ (0 : Int) = 1) = True := by simp
theorem hkOr11 : ((1 : Int) = 0 ∨ (1 : Int) = 1) = True := by simp
theorem hk102a {P : Prop} : ((100 : Nat) = 102 → P) = True := by simp
theorem hk102b {P : Prop} : ((101 : Nat) = 102 → P) = True := by simp
theorem hk102c {P : Prop} : ((102 : Nat) = 102 → P) = P := by simp

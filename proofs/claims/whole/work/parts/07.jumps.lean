theorem zja_1_8 : zjm 1 8 = 9 := rfl
theorem zjb_1_8 : zjk 1 8 = True := eq_true (by unfold zjk; decide)
theorem zja_1_10 : zjm 1 10 = 11 := rfl
theorem zjb_1_10 : zjk 1 10 = True := eq_true (by unfold zjk; decide)
theorem zja_1_11 : zjm 1 11 = 12 := rfl
theorem zjb_1_11 : zjk 1 11 = True := eq_true (by unfold zjk; decide)
theorem zja_1_12 : zjm 1 12 = 13 := rfl
theorem zjb_1_12 : zjk 1 12 = True := eq_true (by unfold zjk; decide)
theorem zja_1_19 : zjm 1 19 = 20 := rfl
theorem zjb_1_19 : zjk 1 19 = True := eq_true (by unfold zjk; decide)
theorem zja_1_21 : zjm 1 21 = 22 := rfl
theorem zjb_1_21 : zjk 1 21 = True := eq_true (by unfold zjk; decide)
theorem zja_1_36 : zjm 1 36 = 37 := rfl
theorem zjb_1_36 : zjk 1 36 = True := eq_true (by unfold zjk; decide)
theorem zja_1_51 : zjm 1 51 = 52 := rfl
theorem zjb_1_51 : zjk 1 51 = True := eq_true (by unfold zjk; decide)
theorem zja_1_59 : zjm 1 59 = 60 := rfl
theorem zjb_1_59 : zjk 1 59 = True := eq_true (by unfold zjk; decide)
theorem zja_1_67 : zjm 1 67 = 68 := rfl
theorem zjb_1_67 : zjk 1 67 = True := eq_true (by unfold zjk; decide)
theorem zja_1_77 : zjm 1 77 = 78 := rfl
theorem zjb_1_77 : zjk 1 77 = True := eq_true (by unfold zjk; decide)
theorem zja_1_89 : zjm 1 89 = 90 := rfl
theorem zjb_1_89 : zjk 1 89 = True := eq_true (by unfold zjk; decide)
theorem zja_1_97 : zjm 1 97 = 98 := rfl
theorem zjb_1_97 : zjk 1 97 = True := eq_true (by unfold zjk; decide)
theorem zja_1_105 : zjm 1 105 = 106 := rfl
theorem zjb_1_105 : zjk 1 105 = True := eq_true (by unfold zjk; decide)
theorem zja_1_110 : zjm 1 110 = 111 := rfl
theorem zjb_1_110 : zjk 1 110 = True := eq_true (by unfold zjk; decide)
theorem zja_2_7 : zjm 2 7 = 9 := rfl
theorem zjb_2_7 : zjk 2 7 = True := eq_true (by unfold zjk; decide)
theorem zja_2_12 : zjm 2 12 = 14 := rfl
theorem zjb_2_12 : zjk 2 12 = True := eq_true (by unfold zjk; decide)
theorem zja_2_14 : zjm 2 14 = 16 := rfl
theorem zjb_2_14 : zjk 2 14 = True := eq_true (by unfold zjk; decide)
theorem zja_2_27 : zjm 2 27 = 29 := rfl
theorem zjb_2_27 : zjk 2 27 = True := eq_true (by unfold zjk; decide)
theorem zja_3_5 : zjm 3 5 = 8 := rfl
theorem zjb_3_5 : zjk 3 5 = True := eq_true (by unfold zjk; decide)
theorem zja_3_14 : zjm 3 14 = 17 := rfl
theorem zjb_3_14 : zjk 3 14 = True := eq_true (by unfold zjk; decide)
theorem zja_4_5 : zjm 4 5 = 9 := rfl
theorem zjb_4_5 : zjk 4 5 = True := eq_true (by unfold zjk; decide)
theorem zja_4_6 : zjm 4 6 = 10 := rfl
theorem zjb_4_6 : zjk 4 6 = True := eq_true (by unfold zjk; decide)
theorem zja_4_10 : zjm 4 10 = 14 := rfl
theorem zjb_4_10 : zjk 4 10 = True := eq_true (by unfold zjk; decide)
theorem zja_4_11 : zjm 4 11 = 15 := rfl
theorem zjb_4_11 : zjk 4 11 = True := eq_true (by unfold zjk; decide)
theorem zja_4_14 : zjm 4 14 = 18 := rfl
theorem zjb_4_14 : zjk 4 14 = True := eq_true (by unfold zjk; decide)
theorem zja_4_15 : zjm 4 15 = 19 := rfl
theorem zjb_4_15 : zjk 4 15 = True := eq_true (by unfold zjk; decide)
theorem zja_4_16 : zjm 4 16 = 20 := rfl
theorem zjb_4_16 : zjk 4 16 = True := eq_true (by unfold zjk; decide)
theorem zja_4_21 : zjm 4 21 = 25 := rfl
theorem zjb_4_21 : zjk 4 21 = True := eq_true (by unfold zjk; decide)
theorem zja_4_25 : zjm 4 25 = 29 := rfl
theorem zjb_4_25 : zjk 4 25 = True := eq_true (by unfold zjk; decide)
theorem zja_4_27 : zjm 4 27 = 31 := rfl
theorem zjb_4_27 : zjk 4 27 = True := eq_true (by unfold zjk; decide)
theorem zja_5_6 : zjm 5 6 = 11 := rfl
theorem zjb_5_6 : zjk 5 6 = True := eq_true (by unfold zjk; decide)
theorem zja_5_7 : zjm 5 7 = 12 := rfl
theorem zjb_5_7 : zjk 5 7 = True := eq_true (by unfold zjk; decide)
theorem zja_5_10 : zjm 5 10 = 15 := rfl
theorem zjb_5_10 : zjk 5 10 = True := eq_true (by unfold zjk; decide)
theorem zja_5_11 : zjm 5 11 = 16 := rfl
theorem zjb_5_11 : zjk 5 11 = True := eq_true (by unfold zjk; decide)
theorem zja_5_12 : zjm 5 12 = 17 := rfl
theorem zjb_5_12 : zjk 5 12 = True := eq_true (by unfold zjk; decide)
theorem zja_5_13 : zjm 5 13 = 18 := rfl
theorem zjb_5_13 : zjk 5 13 = True := eq_true (by unfold zjk; decide)
theorem zja_5_14 : zjm 5 14 = 19 := rfl
theorem zjb_5_14 : zjk 5 14 = True := eq_true (by unfold zjk; decide)
theorem zja_5_15 : zjm 5 15 = 20 := rfl
theorem zjb_5_15 : zjk 5 15 = True := eq_true (by unfold zjk; decide)
theorem zja_5_16 : zjm 5 16 = 21 := rfl
theorem zjb_5_16 : zjk 5 16 = True := eq_true (by unfold zjk; decide)
theorem zja_5_17 : zjm 5 17 = 22 := rfl
theorem zjb_5_17 : zjk 5 17 = True := eq_true (by unfold zjk; decide)
theorem zja_5_20 : zjm 5 20 = 25 := rfl
theorem zjb_5_20 : zjk 5 20 = True := eq_true (by unfold zjk; decide)
theorem zja_5_36 : zjm 5 36 = 41 := rfl
theorem zjb_5_36 : zjk 5 36 = True := eq_true (by unfold zjk; decide)
theorem zja_5_51 : zjm 5 51 = 56 := rfl
theorem zjb_5_51 : zjk 5 51 = True := eq_true (by unfold zjk; decide)
theorem zja_5_56 : zjm 5 56 = 61 := rfl
theorem zjb_5_56 : zjk 5 56 = True := eq_true (by unfold zjk; decide)
theorem zja_5_61 : zjm 5 61 = 66 := rfl
theorem zjb_5_61 : zjk 5 61 = True := eq_true (by unfold zjk; decide)
theorem zja_5_66 : zjm 5 66 = 71 := rfl
theorem zjb_5_66 : zjk 5 66 = True := eq_true (by unfold zjk; decide)
theorem zja_5_75 : zjm 5 75 = 80 := rfl
theorem zjb_5_75 : zjk 5 75 = True := eq_true (by unfold zjk; decide)
theorem zja_5_80 : zjm 5 80 = 85 := rfl
theorem zjb_5_80 : zjk 5 80 = True := eq_true (by unfold zjk; decide)
theorem zja_5_85 : zjm 5 85 = 90 := rfl
theorem zjb_5_85 : zjk 5 85 = True := eq_true (by unfold zjk; decide)
theorem zja_5_90 : zjm 5 90 = 95 := rfl
theorem zjb_5_90 : zjk 5 90 = True := eq_true (by unfold zjk; decide)
theorem zja_5_152 : zjm 5 152 = 157 := rfl
theorem zjb_5_152 : zjk 5 152 = True := eq_true (by unfold zjk; decide)
theorem zja_6_4 : zjm 6 4 = 10 := rfl
theorem zjb_6_4 : zjk 6 4 = True := eq_true (by unfold zjk; decide)
theorem zja_6_7 : zjm 6 7 = 13 := rfl
theorem zjb_6_7 : zjk 6 7 = True := eq_true (by unfold zjk; decide)
theorem zja_6_9 : zjm 6 9 = 15 := rfl
theorem zjb_6_9 : zjk 6 9 = True := eq_true (by unfold zjk; decide)
theorem zja_6_11 : zjm 6 11 = 17 := rfl
theorem zjb_6_11 : zjk 6 11 = True := eq_true (by unfold zjk; decide)
theorem zja_6_14 : zjm 6 14 = 20 := rfl
theorem zjb_6_14 : zjk 6 14 = True := eq_true (by unfold zjk; decide)
theorem zja_6_15 : zjm 6 15 = 21 := rfl
theorem zjb_6_15 : zjk 6 15 = True := eq_true (by unfold zjk; decide)
theorem zja_6_16 : zjm 6 16 = 22 := rfl
theorem zjb_6_16 : zjk 6 16 = True := eq_true (by unfold zjk; decide)
theorem zja_6_21 : zjm 6 21 = 27 := rfl
theorem zjb_6_21 : zjk 6 21 = True := eq_true (by unfold zjk; decide)
theorem zja_6_25 : zjm 6 25 = 31 := rfl
theorem zjb_6_25 : zjk 6 25 = True := eq_true (by unfold zjk; decide)
theorem zja_6_41 : zjm 6 41 = 47 := rfl
theorem zjb_6_41 : zjk 6 41 = True := eq_true (by unfold zjk; decide)
theorem zja_6_43 : zjm 6 43 = 49 := rfl
theorem zjb_6_43 : zjk 6 43 = True := eq_true (by unfold zjk; decide)
theorem zja_7_6 : zjm 7 6 = 13 := rfl
theorem zjb_7_6 : zjk 7 6 = True := eq_true (by unfold zjk; decide)
theorem zja_7_7 : zjm 7 7 = 14 := rfl
theorem zjb_7_7 : zjk 7 7 = True := eq_true (by unfold zjk; decide)
theorem zja_7_13 : zjm 7 13 = 20 := rfl
theorem zjb_7_13 : zjk 7 13 = True := eq_true (by unfold zjk; decide)
theorem zja_7_25 : zjm 7 25 = 32 := rfl
theorem zjb_7_25 : zjk 7 25 = True := eq_true (by unfold zjk; decide)
theorem zja_7_52 : zjm 7 52 = 59 := rfl
theorem zjb_7_52 : zjk 7 52 = True := eq_true (by unfold zjk; decide)
theorem zja_8_5 : zjm 8 5 = 13 := rfl
theorem zjb_8_5 : zjk 8 5 = True := eq_true (by unfold zjk; decide)
theorem zja_8_7 : zjm 8 7 = 15 := rfl
theorem zjb_8_7 : zjk 8 7 = True := eq_true (by unfold zjk; decide)
theorem zja_8_11 : zjm 8 11 = 19 := rfl
theorem zjb_8_11 : zjk 8 11 = True := eq_true (by unfold zjk; decide)
theorem zja_8_19 : zjm 8 19 = 27 := rfl
theorem zjb_8_19 : zjk 8 19 = True := eq_true (by unfold zjk; decide)
theorem zja_8_33 : zjm 8 33 = 41 := rfl
theorem zjb_8_33 : zjk 8 33 = True := eq_true (by unfold zjk; decide)
theorem zja_9_4 : zjm 9 4 = 13 := rfl
theorem zjb_9_4 : zjk 9 4 = True := eq_true (by unfold zjk; decide)
theorem zja_9_7 : zjm 9 7 = 16 := rfl
theorem zjb_9_7 : zjk 9 7 = True := eq_true (by unfold zjk; decide)
theorem zja_9_8 : zjm 9 8 = 17 := rfl
theorem zjb_9_8 : zjk 9 8 = True := eq_true (by unfold zjk; decide)
theorem zja_9_10 : zjm 9 10 = 19 := rfl
theorem zjb_9_10 : zjk 9 10 = True := eq_true (by unfold zjk; decide)
theorem zja_9_11 : zjm 9 11 = 20 := rfl
theorem zjb_9_11 : zjk 9 11 = True := eq_true (by unfold zjk; decide)
theorem zja_9_12 : zjm 9 12 = 21 := rfl
theorem zjb_9_12 : zjk 9 12 = True := eq_true (by unfold zjk; decide)
theorem zja_9_13 : zjm 9 13 = 22 := rfl
theorem zjb_9_13 : zjk 9 13 = True := eq_true (by unfold zjk; decide)
theorem zja_9_14 : zjm 9 14 = 23 := rfl
theorem zjb_9_14 : zjk 9 14 = True := eq_true (by unfold zjk; decide)
theorem zja_9_18 : zjm 9 18 = 27 := rfl
theorem zjb_9_18 : zjk 9 18 = True := eq_true (by unfold zjk; decide)
theorem zja_9_19 : zjm 9 19 = 28 := rfl
theorem zjb_9_19 : zjk 9 19 = True := eq_true (by unfold zjk; decide)
theorem zja_9_22 : zjm 9 22 = 31 := rfl
theorem zjb_9_22 : zjk 9 22 = True := eq_true (by unfold zjk; decide)
theorem zja_9_23 : zjm 9 23 = 32 := rfl
theorem zjb_9_23 : zjk 9 23 = True := eq_true (by unfold zjk; decide)
theorem zja_9_26 : zjm 9 26 = 35 := rfl
theorem zjb_9_26 : zjk 9 26 = True := eq_true (by unfold zjk; decide)
theorem zja_9_28 : zjm 9 28 = 37 := rfl
theorem zjb_9_28 : zjk 9 28 = True := eq_true (by unfold zjk; decide)
theorem zja_9_29 : zjm 9 29 = 38 := rfl
theorem zjb_9_29 : zjk 9 29 = True := eq_true (by unfold zjk; decide)
theorem zja_9_31 : zjm 9 31 = 40 := rfl
theorem zjb_9_31 : zjk 9 31 = True := eq_true (by unfold zjk; decide)
theorem zja_9_33 : zjm 9 33 = 42 := rfl
theorem zjb_9_33 : zjk 9 33 = True := eq_true (by unfold zjk; decide)
theorem zja_9_35 : zjm 9 35 = 44 := rfl
theorem zjb_9_35 : zjk 9 35 = True := eq_true (by unfold zjk; decide)
theorem zja_9_42 : zjm 9 42 = 51 := rfl
theorem zjb_9_42 : zjk 9 42 = True := eq_true (by unfold zjk; decide)
theorem zja_9_43 : zjm 9 43 = 52 := rfl
theorem zjb_9_43 : zjk 9 43 = True := eq_true (by unfold zjk; decide)
theorem zja_9_90 : zjm 9 90 = 99 := rfl
theorem zjb_9_90 : zjk 9 90 = True := eq_true (by unfold zjk; decide)
theorem zja_10_4 : zjm 10 4 = 14 := rfl
theorem zjb_10_4 : zjk 10 4 = True := eq_true (by unfold zjk; decide)
theorem zja_10_6 : zjm 10 6 = 16 := rfl
theorem zjb_10_6 : zjk 10 6 = True := eq_true (by unfold zjk; decide)
theorem zja_10_7 : zjm 10 7 = 17 := rfl
theorem zjb_10_7 : zjk 10 7 = True := eq_true (by unfold zjk; decide)
theorem zja_10_9 : zjm 10 9 = 19 := rfl
theorem zjb_10_9 : zjk 10 9 = True := eq_true (by unfold zjk; decide)
theorem zja_10_21 : zjm 10 21 = 31 := rfl
theorem zjb_10_21 : zjk 10 21 = True := eq_true (by unfold zjk; decide)
theorem zja_10_23 : zjm 10 23 = 33 := rfl
theorem zjb_10_23 : zjk 10 23 = True := eq_true (by unfold zjk; decide)
theorem zja_10_28 : zjm 10 28 = 38 := rfl
theorem zjb_10_28 : zjk 10 28 = True := eq_true (by unfold zjk; decide)
theorem zja_10_31 : zjm 10 31 = 41 := rfl
theorem zjb_10_31 : zjk 10 31 = True := eq_true (by unfold zjk; decide)
theorem zja_10_55 : zjm 10 55 = 65 := rfl
theorem zjb_10_55 : zjk 10 55 = True := eq_true (by unfold zjk; decide)
theorem zja_11_4 : zjm 11 4 = 15 := rfl
theorem zjb_11_4 : zjk 11 4 = True := eq_true (by unfold zjk; decide)
theorem zja_11_5 : zjm 11 5 = 16 := rfl
theorem zjb_11_5 : zjk 11 5 = True := eq_true (by unfold zjk; decide)
theorem zja_11_6 : zjm 11 6 = 17 := rfl
theorem zjb_11_6 : zjk 11 6 = True := eq_true (by unfold zjk; decide)
theorem zja_11_8 : zjm 11 8 = 19 := rfl
theorem zjb_11_8 : zjk 11 8 = True := eq_true (by unfold zjk; decide)
theorem zja_11_11 : zjm 11 11 = 22 := rfl
theorem zjb_11_11 : zjk 11 11 = True := eq_true (by unfold zjk; decide)
theorem zja_11_25 : zjm 11 25 = 36 := rfl
theorem zjb_11_25 : zjk 11 25 = True := eq_true (by unfold zjk; decide)
theorem zja_11_40 : zjm 11 40 = 51 := rfl
theorem zjb_11_40 : zjk 11 40 = True := eq_true (by unfold zjk; decide)
theorem zja_11_47 : zjm 11 47 = 58 := rfl
theorem zjb_11_47 : zjk 11 47 = True := eq_true (by unfold zjk; decide)
theorem zja_11_57 : zjm 11 57 = 68 := rfl
theorem zjb_11_57 : zjk 11 57 = True := eq_true (by unfold zjk; decide)
theorem zja_12_4 : zjm 12 4 = 16 := rfl
theorem zjb_12_4 : zjk 12 4 = True := eq_true (by unfold zjk; decide)
theorem zja_12_5 : zjm 12 5 = 17 := rfl
theorem zjb_12_5 : zjk 12 5 = True := eq_true (by unfold zjk; decide)
theorem zja_12_18 : zjm 12 18 = 30 := rfl
theorem zjb_12_18 : zjk 12 18 = True := eq_true (by unfold zjk; decide)
theorem zja_12_25 : zjm 12 25 = 37 := rfl
theorem zjb_12_25 : zjk 12 25 = True := eq_true (by unfold zjk; decide)
theorem zja_12_28 : zjm 12 28 = 40 := rfl
theorem zjb_12_28 : zjk 12 28 = True := eq_true (by unfold zjk; decide)
theorem zja_12_32 : zjm 12 32 = 44 := rfl
theorem zjb_12_32 : zjk 12 32 = True := eq_true (by unfold zjk; decide)
theorem zja_13_4 : zjm 13 4 = 17 := rfl
theorem zjb_13_4 : zjk 13 4 = True := eq_true (by unfold zjk; decide)
theorem zja_13_6 : zjm 13 6 = 19 := rfl
theorem zjb_13_6 : zjk 13 6 = True := eq_true (by unfold zjk; decide)
theorem zja_13_7 : zjm 13 7 = 20 := rfl
theorem zjb_13_7 : zjk 13 7 = True := eq_true (by unfold zjk; decide)
theorem zja_13_9 : zjm 13 9 = 22 := rfl
theorem zjb_13_9 : zjk 13 9 = True := eq_true (by unfold zjk; decide)
theorem zja_13_10 : zjm 13 10 = 23 := rfl
theorem zjb_13_10 : zjk 13 10 = True := eq_true (by unfold zjk; decide)
theorem zja_13_11 : zjm 13 11 = 24 := rfl
theorem zjb_13_11 : zjk 13 11 = True := eq_true (by unfold zjk; decide)
theorem zja_13_20 : zjm 13 20 = 33 := rfl
theorem zjb_13_20 : zjk 13 20 = True := eq_true (by unfold zjk; decide)
theorem zja_13_28 : zjm 13 28 = 41 := rfl
theorem zjb_13_28 : zjk 13 28 = True := eq_true (by unfold zjk; decide)
theorem zja_13_30 : zjm 13 30 = 43 := rfl
theorem zjb_13_30 : zjk 13 30 = True := eq_true (by unfold zjk; decide)
theorem zja_13_43 : zjm 13 43 = 56 := rfl
theorem zjb_13_43 : zjk 13 43 = True := eq_true (by unfold zjk; decide)
theorem zja_13_69 : zjm 13 69 = 82 := rfl
theorem zjb_13_69 : zjk 13 69 = True := eq_true (by unfold zjk; decide)
theorem zja_14_4 : zjm 14 4 = 18 := rfl
theorem zjb_14_4 : zjk 14 4 = True := eq_true (by unfold zjk; decide)
theorem zja_14_5 : zjm 14 5 = 19 := rfl
theorem zjb_14_5 : zjk 14 5 = True := eq_true (by unfold zjk; decide)
theorem zja_14_6 : zjm 14 6 = 20 := rfl
theorem zjb_14_6 : zjk 14 6 = True := eq_true (by unfold zjk; decide)
theorem zja_14_18 : zjm 14 18 = 32 := rfl
theorem zjb_14_18 : zjk 14 18 = True := eq_true (by unfold zjk; decide)
theorem zja_14_32 : zjm 14 32 = 46 := rfl
theorem zjb_14_32 : zjk 14 32 = True := eq_true (by unfold zjk; decide)
theorem zja_14_70 : zjm 14 70 = 84 := rfl
theorem zjb_14_70 : zjk 14 70 = True := eq_true (by unfold zjk; decide)
theorem zja_14_86 : zjm 14 86 = 100 := rfl
theorem zjb_14_86 : zjk 14 86 = True := eq_true (by unfold zjk; decide)
theorem zja_14_90 : zjm 14 90 = 104 := rfl
theorem zjb_14_90 : zjk 14 90 = True := eq_true (by unfold zjk; decide)
theorem zja_15_6 : zjm 15 6 = 21 := rfl
theorem zjb_15_6 : zjk 15 6 = True := eq_true (by unfold zjk; decide)
theorem zja_15_7 : zjm 15 7 = 22 := rfl
theorem zjb_15_7 : zjk 15 7 = True := eq_true (by unfold zjk; decide)
theorem zja_15_12 : zjm 15 12 = 27 := rfl
theorem zjb_15_12 : zjk 15 12 = True := eq_true (by unfold zjk; decide)
theorem zja_15_29 : zjm 15 29 = 44 := rfl
theorem zjb_15_29 : zjk 15 29 = True := eq_true (by unfold zjk; decide)
theorem zja_15_32 : zjm 15 32 = 47 := rfl
theorem zjb_15_32 : zjk 15 32 = True := eq_true (by unfold zjk; decide)
theorem zja_15_35 : zjm 15 35 = 50 := rfl
theorem zjb_15_35 : zjk 15 35 = True := eq_true (by unfold zjk; decide)
theorem zja_15_44 : zjm 15 44 = 59 := rfl
theorem zjb_15_44 : zjk 15 44 = True := eq_true (by unfold zjk; decide)
theorem zja_15_59 : zjm 15 59 = 74 := rfl
theorem zjb_15_59 : zjk 15 59 = True := eq_true (by unfold zjk; decide)
theorem zja_16_4 : zjm 16 4 = 20 := rfl
theorem zjb_16_4 : zjk 16 4 = True := eq_true (by unfold zjk; decide)
theorem zja_16_5 : zjm 16 5 = 21 := rfl
theorem zjb_16_5 : zjk 16 5 = True := eq_true (by unfold zjk; decide)
theorem zja_16_6 : zjm 16 6 = 22 := rfl
theorem zjb_16_6 : zjk 16 6 = True := eq_true (by unfold zjk; decide)
theorem zja_16_9 : zjm 16 9 = 25 := rfl
theorem zjb_16_9 : zjk 16 9 = True := eq_true (by unfold zjk; decide)
theorem zja_16_10 : zjm 16 10 = 26 := rfl
theorem zjb_16_10 : zjk 16 10 = True := eq_true (by unfold zjk; decide)
theorem zja_16_12 : zjm 16 12 = 28 := rfl
theorem zjb_16_12 : zjk 16 12 = True := eq_true (by unfold zjk; decide)
theorem zja_16_13 : zjm 16 13 = 29 := rfl
theorem zjb_16_13 : zjk 16 13 = True := eq_true (by unfold zjk; decide)
theorem zja_16_15 : zjm 16 15 = 31 := rfl
theorem zjb_16_15 : zjk 16 15 = True := eq_true (by unfold zjk; decide)
theorem zja_16_25 : zjm 16 25 = 41 := rfl
theorem zjb_16_25 : zjk 16 25 = True := eq_true (by unfold zjk; decide)
theorem zja_16_27 : zjm 16 27 = 43 := rfl
theorem zjb_16_27 : zjk 16 27 = True := eq_true (by unfold zjk; decide)
theorem zja_16_77 : zjm 16 77 = 93 := rfl
theorem zjb_16_77 : zjk 16 77 = True := eq_true (by unfold zjk; decide)
theorem zja_16_80 : zjm 16 80 = 96 := rfl
theorem zjb_16_80 : zjk 16 80 = True := eq_true (by unfold zjk; decide)
theorem zja_17_m13 : zjm 17 (-13) = 4 := rfl
theorem zjb_17_m13 : zjk 17 (-13) = True := eq_true (by unfold zjk; decide)
theorem zja_17_m12 : zjm 17 (-12) = 5 := rfl
theorem zjb_17_m12 : zjk 17 (-12) = True := eq_true (by unfold zjk; decide)
theorem zja_17_5 : zjm 17 5 = 22 := rfl
theorem zjb_17_5 : zjk 17 5 = True := eq_true (by unfold zjk; decide)
theorem zja_17_7 : zjm 17 7 = 24 := rfl
theorem zjb_17_7 : zjk 17 7 = True := eq_true (by unfold zjk; decide)
theorem zja_17_9 : zjm 17 9 = 26 := rfl
theorem zjb_17_9 : zjk 17 9 = True := eq_true (by unfold zjk; decide)
theorem zja_17_16 : zjm 17 16 = 33 := rfl
theorem zjb_17_16 : zjk 17 16 = True := eq_true (by unfold zjk; decide)
theorem zja_17_37 : zjm 17 37 = 54 := rfl
theorem zjb_17_37 : zjk 17 37 = True := eq_true (by unfold zjk; decide)
theorem zja_18_m16 : zjm 18 (-16) = 2 := rfl
theorem zjb_18_m16 : zjk 18 (-16) = True := eq_true (by unfold zjk; decide)
theorem zja_18_5 : zjm 18 5 = 23 := rfl
theorem zjb_18_5 : zjk 18 5 = True := eq_true (by unfold zjk; decide)
theorem zja_18_14 : zjm 18 14 = 32 := rfl
theorem zjb_18_14 : zjk 18 14 = True := eq_true (by unfold zjk; decide)
theorem zja_18_15 : zjm 18 15 = 33 := rfl
theorem zjb_18_15 : zjk 18 15 = True := eq_true (by unfold zjk; decide)
theorem zja_19_4 : zjm 19 4 = 23 := rfl
theorem zjb_19_4 : zjk 19 4 = True := eq_true (by unfold zjk; decide)
theorem zja_19_6 : zjm 19 6 = 25 := rfl
theorem zjb_19_6 : zjk 19 6 = True := eq_true (by unfold zjk; decide)
theorem zja_19_7 : zjm 19 7 = 26 := rfl
theorem zjb_19_7 : zjk 19 7 = True := eq_true (by unfold zjk; decide)
theorem zja_19_25 : zjm 19 25 = 44 := rfl
theorem zjb_19_25 : zjk 19 25 = True := eq_true (by unfold zjk; decide)
theorem zja_20_m14 : zjm 20 (-14) = 6 := rfl
theorem zjb_20_m14 : zjk 20 (-14) = True := eq_true (by unfold zjk; decide)
theorem zja_20_5 : zjm 20 5 = 25 := rfl
theorem zjb_20_5 : zjk 20 5 = True := eq_true (by unfold zjk; decide)
theorem zja_20_6 : zjm 20 6 = 26 := rfl
theorem zjb_20_6 : zjk 20 6 = True := eq_true (by unfold zjk; decide)
theorem zja_20_7 : zjm 20 7 = 27 := rfl
theorem zjb_20_7 : zjk 20 7 = True := eq_true (by unfold zjk; decide)
theorem zja_20_9 : zjm 20 9 = 29 := rfl
theorem zjb_20_9 : zjk 20 9 = True := eq_true (by unfold zjk; decide)
theorem zja_20_11 : zjm 20 11 = 31 := rfl
theorem zjb_20_11 : zjk 20 11 = True := eq_true (by unfold zjk; decide)
theorem zja_20_13 : zjm 20 13 = 33 := rfl
theorem zjb_20_13 : zjk 20 13 = True := eq_true (by unfold zjk; decide)
theorem zja_20_50 : zjm 20 50 = 70 := rfl
theorem zjb_20_50 : zjk 20 50 = True := eq_true (by unfold zjk; decide)
theorem zja_20_80 : zjm 20 80 = 100 := rfl
theorem zjb_20_80 : zjk 20 80 = True := eq_true (by unfold zjk; decide)
theorem zja_21_5 : zjm 21 5 = 26 := rfl
theorem zjb_21_5 : zjk 21 5 = True := eq_true (by unfold zjk; decide)
theorem zja_21_13 : zjm 21 13 = 34 := rfl
theorem zjb_21_13 : zjk 21 13 = True := eq_true (by unfold zjk; decide)
theorem zja_21_15 : zjm 21 15 = 36 := rfl
theorem zjb_21_15 : zjk 21 15 = True := eq_true (by unfold zjk; decide)
theorem zja_21_20 : zjm 21 20 = 41 := rfl
theorem zjb_21_20 : zjk 21 20 = True := eq_true (by unfold zjk; decide)
theorem zja_21_37 : zjm 21 37 = 58 := rfl
theorem zjb_21_37 : zjk 21 37 = True := eq_true (by unfold zjk; decide)
theorem zja_22_m20 : zjm 22 (-20) = 2 := rfl
theorem zjb_22_m20 : zjk 22 (-20) = True := eq_true (by unfold zjk; decide)
theorem zja_22_5 : zjm 22 5 = 27 := rfl
theorem zjb_22_5 : zjk 22 5 = True := eq_true (by unfold zjk; decide)
theorem zja_22_6 : zjm 22 6 = 28 := rfl
theorem zjb_22_6 : zjk 22 6 = True := eq_true (by unfold zjk; decide)
theorem zja_22_9 : zjm 22 9 = 31 := rfl
theorem zjb_22_9 : zjk 22 9 = True := eq_true (by unfold zjk; decide)
theorem zja_22_16 : zjm 22 16 = 38 := rfl
theorem zjb_22_16 : zjk 22 16 = True := eq_true (by unfold zjk; decide)
theorem zja_22_19 : zjm 22 19 = 41 := rfl
theorem zjb_22_19 : zjk 22 19 = True := eq_true (by unfold zjk; decide)
theorem zja_22_27 : zjm 22 27 = 49 := rfl
theorem zjb_22_27 : zjk 22 27 = True := eq_true (by unfold zjk; decide)
theorem zja_22_64 : zjm 22 64 = 86 := rfl
theorem zjb_22_64 : zjk 22 64 = True := eq_true (by unfold zjk; decide)
theorem zja_23_4 : zjm 23 4 = 27 := rfl
theorem zjb_23_4 : zjk 23 4 = True := eq_true (by unfold zjk; decide)
theorem zja_23_5 : zjm 23 5 = 28 := rfl
theorem zjb_23_5 : zjk 23 5 = True := eq_true (by unfold zjk; decide)
theorem zja_23_6 : zjm 23 6 = 29 := rfl
theorem zjb_23_6 : zjk 23 6 = True := eq_true (by unfold zjk; decide)
theorem zja_23_8 : zjm 23 8 = 31 := rfl
theorem zjb_23_8 : zjk 23 8 = True := eq_true (by unfold zjk; decide)
theorem zja_23_12 : zjm 23 12 = 35 := rfl
theorem zjb_23_12 : zjk 23 12 = True := eq_true (by unfold zjk; decide)
theorem zja_23_14 : zjm 23 14 = 37 := rfl
theorem zjb_23_14 : zjk 23 14 = True := eq_true (by unfold zjk; decide)
theorem zja_23_18 : zjm 23 18 = 41 := rfl
theorem zjb_23_18 : zjk 23 18 = True := eq_true (by unfold zjk; decide)
theorem zja_23_28 : zjm 23 28 = 51 := rfl
theorem zjb_23_28 : zjk 23 28 = True := eq_true (by unfold zjk; decide)
theorem zja_23_29 : zjm 23 29 = 52 := rfl
theorem zjb_23_29 : zjk 23 29 = True := eq_true (by unfold zjk; decide)
theorem zja_23_47 : zjm 23 47 = 70 := rfl
theorem zjb_23_47 : zjk 23 47 = True := eq_true (by unfold zjk; decide)
theorem zja_23_61 : zjm 23 61 = 84 := rfl
theorem zjb_23_61 : zjk 23 61 = True := eq_true (by unfold zjk; decide)
theorem zja_23_81 : zjm 23 81 = 104 := rfl
theorem zjb_23_81 : zjk 23 81 = True := eq_true (by unfold zjk; decide)
theorem zja_24_m20 : zjm 24 (-20) = 4 := rfl
theorem zjb_24_m20 : zjk 24 (-20) = True := eq_true (by unfold zjk; decide)
theorem zja_24_5 : zjm 24 5 = 29 := rfl
theorem zjb_24_5 : zjk 24 5 = True := eq_true (by unfold zjk; decide)
theorem zja_24_6 : zjm 24 6 = 30 := rfl
theorem zjb_24_6 : zjk 24 6 = True := eq_true (by unfold zjk; decide)
theorem zja_24_9 : zjm 24 9 = 33 := rfl
theorem zjb_24_9 : zjk 24 9 = True := eq_true (by unfold zjk; decide)
theorem zja_24_12 : zjm 24 12 = 36 := rfl
theorem zjb_24_12 : zjk 24 12 = True := eq_true (by unfold zjk; decide)
theorem zja_24_13 : zjm 24 13 = 37 := rfl
theorem zjb_24_13 : zjk 24 13 = True := eq_true (by unfold zjk; decide)
theorem zja_24_15 : zjm 24 15 = 39 := rfl
theorem zjb_24_15 : zjk 24 15 = True := eq_true (by unfold zjk; decide)
theorem zja_24_28 : zjm 24 28 = 52 := rfl
theorem zjb_24_28 : zjk 24 28 = True := eq_true (by unfold zjk; decide)
theorem zja_24_59 : zjm 24 59 = 83 := rfl
theorem zjb_24_59 : zjk 24 59 = True := eq_true (by unfold zjk; decide)
theorem zja_24_1261 : zjm 24 1261 = 1285 := rfl
theorem zjb_24_1261 : zjk 24 1261 = True := eq_true (by unfold zjk; decide)
theorem zja_25_5 : zjm 25 5 = 30 := rfl
theorem zjb_25_5 : zjk 25 5 = True := eq_true (by unfold zjk; decide)
theorem zja_25_8 : zjm 25 8 = 33 := rfl
theorem zjb_25_8 : zjk 25 8 = True := eq_true (by unfold zjk; decide)
theorem zja_25_9 : zjm 25 9 = 34 := rfl
theorem zjb_25_9 : zjk 25 9 = True := eq_true (by unfold zjk; decide)
theorem zja_25_34 : zjm 25 34 = 59 := rfl
theorem zjb_25_34 : zjk 25 34 = True := eq_true (by unfold zjk; decide)
theorem zja_26_4 : zjm 26 4 = 30 := rfl
theorem zjb_26_4 : zjk 26 4 = True := eq_true (by unfold zjk; decide)
theorem zja_26_6 : zjm 26 6 = 32 := rfl
theorem zjb_26_6 : zjk 26 6 = True := eq_true (by unfold zjk; decide)
theorem zja_26_9 : zjm 26 9 = 35 := rfl
theorem zjb_26_9 : zjk 26 9 = True := eq_true (by unfold zjk; decide)
theorem zja_26_13 : zjm 26 13 = 39 := rfl
theorem zjb_26_13 : zjk 26 13 = True := eq_true (by unfold zjk; decide)
theorem zja_26_15 : zjm 26 15 = 41 := rfl
theorem zjb_26_15 : zjk 26 15 = True := eq_true (by unfold zjk; decide)
theorem zja_26_20 : zjm 26 20 = 46 := rfl
theorem zjb_26_20 : zjk 26 20 = True := eq_true (by unfold zjk; decide)
theorem zja_26_24 : zjm 26 24 = 50 := rfl
theorem zjb_26_24 : zjk 26 24 = True := eq_true (by unfold zjk; decide)
theorem zja_26_38 : zjm 26 38 = 64 := rfl
theorem zjb_26_38 : zjk 26 38 = True := eq_true (by unfold zjk; decide)
theorem zja_27_m23 : zjm 27 (-23) = 4 := rfl
theorem zjb_27_m23 : zjk 27 (-23) = True := eq_true (by unfold zjk; decide)
theorem zja_27_7 : zjm 27 7 = 34 := rfl
theorem zjb_27_7 : zjk 27 7 = True := eq_true (by unfold zjk; decide)
theorem zja_27_17 : zjm 27 17 = 44 := rfl
theorem zjb_27_17 : zjk 27 17 = True := eq_true (by unfold zjk; decide)
theorem zja_27_22 : zjm 27 22 = 49 := rfl
theorem zjb_27_22 : zjk 27 22 = True := eq_true (by unfold zjk; decide)
theorem zja_28_m22 : zjm 28 (-22) = 6 := rfl
theorem zjb_28_m22 : zjk 28 (-22) = True := eq_true (by unfold zjk; decide)
theorem zja_28_6 : zjm 28 6 = 34 := rfl
theorem zjb_28_6 : zjk 28 6 = True := eq_true (by unfold zjk; decide)
theorem zja_28_7 : zjm 28 7 = 35 := rfl
theorem zjb_28_7 : zjk 28 7 = True := eq_true (by unfold zjk; decide)
theorem zja_28_9 : zjm 28 9 = 37 := rfl
theorem zjb_28_9 : zjk 28 9 = True := eq_true (by unfold zjk; decide)
theorem zja_28_13 : zjm 28 13 = 41 := rfl
theorem zjb_28_13 : zjk 28 13 = True := eq_true (by unfold zjk; decide)
theorem zja_28_15 : zjm 28 15 = 43 := rfl
theorem zjb_28_15 : zjk 28 15 = True := eq_true (by unfold zjk; decide)
theorem zja_28_46 : zjm 28 46 = 74 := rfl
theorem zjb_28_46 : zjk 28 46 = True := eq_true (by unfold zjk; decide)
theorem zja_29_m25 : zjm 29 (-25) = 4 := rfl
theorem zjb_29_m25 : zjk 29 (-25) = True := eq_true (by unfold zjk; decide)
theorem zja_29_7 : zjm 29 7 = 36 := rfl
theorem zjb_29_7 : zjk 29 7 = True := eq_true (by unfold zjk; decide)
theorem zja_29_8 : zjm 29 8 = 37 := rfl
theorem zjb_29_8 : zjk 29 8 = True := eq_true (by unfold zjk; decide)
theorem zja_29_9 : zjm 29 9 = 38 := rfl
theorem zjb_29_9 : zjk 29 9 = True := eq_true (by unfold zjk; decide)
theorem zja_29_13 : zjm 29 13 = 42 := rfl
theorem zjb_29_13 : zjk 29 13 = True := eq_true (by unfold zjk; decide)
theorem zja_29_20 : zjm 29 20 = 49 := rfl
theorem zjb_29_20 : zjk 29 20 = True := eq_true (by unfold zjk; decide)
theorem zja_30_4 : zjm 30 4 = 34 := rfl
theorem zjb_30_4 : zjk 30 4 = True := eq_true (by unfold zjk; decide)
theorem zja_30_5 : zjm 30 5 = 35 := rfl
theorem zjb_30_5 : zjk 30 5 = True := eq_true (by unfold zjk; decide)
theorem zja_30_6 : zjm 30 6 = 36 := rfl
theorem zjb_30_6 : zjk 30 6 = True := eq_true (by unfold zjk; decide)
theorem zja_30_7 : zjm 30 7 = 37 := rfl
theorem zjb_30_7 : zjk 30 7 = True := eq_true (by unfold zjk; decide)
theorem zja_30_8 : zjm 30 8 = 38 := rfl
theorem zjb_30_8 : zjk 30 8 = True := eq_true (by unfold zjk; decide)
theorem zja_30_13 : zjm 30 13 = 43 := rfl
theorem zjb_30_13 : zjk 30 13 = True := eq_true (by unfold zjk; decide)
theorem zja_30_39 : zjm 30 39 = 69 := rfl
theorem zjb_30_39 : zjk 30 39 = True := eq_true (by unfold zjk; decide)
theorem zja_30_73 : zjm 30 73 = 103 := rfl
theorem zjb_30_73 : zjk 30 73 = True := eq_true (by unfold zjk; decide)
theorem zja_31_4 : zjm 31 4 = 35 := rfl
theorem zjb_31_4 : zjk 31 4 = True := eq_true (by unfold zjk; decide)
theorem zja_31_5 : zjm 31 5 = 36 := rfl
theorem zjb_31_5 : zjk 31 5 = True := eq_true (by unfold zjk; decide)
theorem zja_31_8 : zjm 31 8 = 39 := rfl
theorem zjb_31_8 : zjk 31 8 = True := eq_true (by unfold zjk; decide)
theorem zja_31_10 : zjm 31 10 = 41 := rfl
theorem zjb_31_10 : zjk 31 10 = True := eq_true (by unfold zjk; decide)
theorem zja_31_13 : zjm 31 13 = 44 := rfl
theorem zjb_31_13 : zjk 31 13 = True := eq_true (by unfold zjk; decide)
theorem zja_31_29 : zjm 31 29 = 60 := rfl
theorem zjb_31_29 : zjk 31 29 = True := eq_true (by unfold zjk; decide)
theorem zja_32_m26 : zjm 32 (-26) = 6 := rfl
theorem zjb_32_m26 : zjk 32 (-26) = True := eq_true (by unfold zjk; decide)
theorem zja_32_9 : zjm 32 9 = 41 := rfl
theorem zjb_32_9 : zjk 32 9 = True := eq_true (by unfold zjk; decide)
theorem zja_32_22 : zjm 32 22 = 54 := rfl
theorem zjb_32_22 : zjk 32 22 = True := eq_true (by unfold zjk; decide)
theorem zja_33_4 : zjm 33 4 = 37 := rfl
theorem zjb_33_4 : zjk 33 4 = True := eq_true (by unfold zjk; decide)
theorem zja_33_6 : zjm 33 6 = 39 := rfl
theorem zjb_33_6 : zjk 33 6 = True := eq_true (by unfold zjk; decide)
theorem zja_33_7 : zjm 33 7 = 40 := rfl
theorem zjb_33_7 : zjk 33 7 = True := eq_true (by unfold zjk; decide)
theorem zja_33_43 : zjm 33 43 = 76 := rfl
theorem zjb_33_43 : zjk 33 43 = True := eq_true (by unfold zjk; decide)
theorem zja_33_163 : zjm 33 163 = 196 := rfl
theorem zjb_33_163 : zjk 33 163 = True := eq_true (by unfold zjk; decide)
theorem zja_33_196 : zjm 33 196 = 229 := rfl
theorem zjb_33_196 : zjk 33 196 = True := eq_true (by unfold zjk; decide)
theorem zja_33_219 : zjm 33 219 = 252 := rfl
theorem zjb_33_219 : zjk 33 219 = True := eq_true (by unfold zjk; decide)
theorem zja_33_242 : zjm 33 242 = 275 := rfl
theorem zjb_33_242 : zjk 33 242 = True := eq_true (by unfold zjk; decide)
theorem zja_33_265 : zjm 33 265 = 298 := rfl
theorem zjb_33_265 : zjk 33 265 = True := eq_true (by unfold zjk; decide)
theorem zja_33_298 : zjm 33 298 = 331 := rfl
theorem zjb_33_298 : zjk 33 298 = True := eq_true (by unfold zjk; decide)
theorem zja_33_331 : zjm 33 331 = 364 := rfl
theorem zjb_33_331 : zjk 33 331 = True := eq_true (by unfold zjk; decide)
theorem zja_33_354 : zjm 33 354 = 387 := rfl
theorem zjb_33_354 : zjk 33 354 = True := eq_true (by unfold zjk; decide)
theorem zja_33_387 : zjm 33 387 = 420 := rfl
theorem zjb_33_387 : zjk 33 387 = True := eq_true (by unfold zjk; decide)
theorem zja_33_400 : zjm 33 400 = 433 := rfl
theorem zjb_33_400 : zjk 33 400 = True := eq_true (by unfold zjk; decide)
theorem zja_33_423 : zjm 33 423 = 456 := rfl
theorem zjb_33_423 : zjk 33 423 = True := eq_true (by unfold zjk; decide)
theorem zja_33_466 : zjm 33 466 = 499 := rfl
theorem zjb_33_466 : zjk 33 466 = True := eq_true (by unfold zjk; decide)
theorem zja_33_509 : zjm 33 509 = 542 := rfl
theorem zjb_33_509 : zjk 33 509 = True := eq_true (by unfold zjk; decide)
theorem zja_33_542 : zjm 33 542 = 575 := rfl
theorem zjb_33_542 : zjk 33 542 = True := eq_true (by unfold zjk; decide)
theorem zja_33_565 : zjm 33 565 = 598 := rfl
theorem zjb_33_565 : zjk 33 565 = True := eq_true (by unfold zjk; decide)
theorem zja_33_588 : zjm 33 588 = 621 := rfl
theorem zjb_33_588 : zjk 33 588 = True := eq_true (by unfold zjk; decide)
theorem zja_33_601 : zjm 33 601 = 634 := rfl
theorem zjb_33_601 : zjk 33 601 = True := eq_true (by unfold zjk; decide)
theorem zja_33_614 : zjm 33 614 = 647 := rfl
theorem zjb_33_614 : zjk 33 614 = True := eq_true (by unfold zjk; decide)
theorem zja_33_627 : zjm 33 627 = 660 := rfl
theorem zjb_33_627 : zjk 33 627 = True := eq_true (by unfold zjk; decide)
theorem zja_33_660 : zjm 33 660 = 693 := rfl
theorem zjb_33_660 : zjk 33 660 = True := eq_true (by unfold zjk; decide)
theorem zja_33_693 : zjm 33 693 = 726 := rfl
theorem zjb_33_693 : zjk 33 693 = True := eq_true (by unfold zjk; decide)
theorem zja_33_716 : zjm 33 716 = 749 := rfl
theorem zjb_33_716 : zjk 33 716 = True := eq_true (by unfold zjk; decide)
theorem zja_33_739 : zjm 33 739 = 772 := rfl
theorem zjb_33_739 : zjk 33 739 = True := eq_true (by unfold zjk; decide)
theorem zja_33_782 : zjm 33 782 = 815 := rfl
theorem zjb_33_782 : zjk 33 782 = True := eq_true (by unfold zjk; decide)
theorem zja_33_795 : zjm 33 795 = 828 := rfl
theorem zjb_33_795 : zjk 33 795 = True := eq_true (by unfold zjk; decide)
theorem zja_33_808 : zjm 33 808 = 841 := rfl
theorem zjb_33_808 : zjk 33 808 = True := eq_true (by unfold zjk; decide)
theorem zja_33_841 : zjm 33 841 = 874 := rfl
theorem zjb_33_841 : zjk 33 841 = True := eq_true (by unfold zjk; decide)
theorem zja_33_864 : zjm 33 864 = 897 := rfl
theorem zjb_33_864 : zjk 33 864 = True := eq_true (by unfold zjk; decide)
theorem zja_33_908 : zjm 33 908 = 941 := rfl
theorem zjb_33_908 : zjk 33 908 = True := eq_true (by unfold zjk; decide)
theorem zja_33_951 : zjm 33 951 = 984 := rfl
theorem zjb_33_951 : zjk 33 951 = True := eq_true (by unfold zjk; decide)
theorem zja_33_994 : zjm 33 994 = 1027 := rfl
theorem zjb_33_994 : zjk 33 994 = True := eq_true (by unfold zjk; decide)
theorem zja_33_1017 : zjm 33 1017 = 1050 := rfl
theorem zjb_33_1017 : zjk 33 1017 = True := eq_true (by unfold zjk; decide)
theorem zja_33_1070 : zjm 33 1070 = 1103 := rfl
theorem zjb_33_1070 : zjk 33 1070 = True := eq_true (by unfold zjk; decide)
theorem zja_33_1113 : zjm 33 1113 = 1146 := rfl
theorem zjb_33_1113 : zjk 33 1113 = True := eq_true (by unfold zjk; decide)
theorem zja_33_1176 : zjm 33 1176 = 1209 := rfl
theorem zjb_33_1176 : zjk 33 1176 = True := eq_true (by unfold zjk; decide)
theorem zja_33_1209 : zjm 33 1209 = 1242 := rfl
theorem zjb_33_1209 : zjk 33 1209 = True := eq_true (by unfold zjk; decide)
theorem zja_33_1232 : zjm 33 1232 = 1265 := rfl
theorem zjb_33_1232 : zjk 33 1232 = True := eq_true (by unfold zjk; decide)
theorem zja_33_1246 : zjm 33 1246 = 1279 := rfl
theorem zjb_33_1246 : zjk 33 1246 = True := eq_true (by unfold zjk; decide)
theorem zja_34_m30 : zjm 34 (-30) = 4 := rfl
theorem zjb_34_m30 : zjk 34 (-30) = True := eq_true (by unfold zjk; decide)
theorem zja_34_m28 : zjm 34 (-28) = 6 := rfl
theorem zjb_34_m28 : zjk 34 (-28) = True := eq_true (by unfold zjk; decide)
theorem zja_34_4 : zjm 34 4 = 38 := rfl
theorem zjb_34_4 : zjk 34 4 = True := eq_true (by unfold zjk; decide)
theorem zja_34_7 : zjm 34 7 = 41 := rfl
theorem zjb_34_7 : zjk 34 7 = True := eq_true (by unfold zjk; decide)
theorem zja_34_9 : zjm 34 9 = 43 := rfl
theorem zjb_34_9 : zjk 34 9 = True := eq_true (by unfold zjk; decide)
theorem zja_34_10 : zjm 34 10 = 44 := rfl
theorem zjb_34_10 : zjk 34 10 = True := eq_true (by unfold zjk; decide)
theorem zja_34_15 : zjm 34 15 = 49 := rfl
theorem zjb_34_15 : zjk 34 15 = True := eq_true (by unfold zjk; decide)
theorem zja_34_17 : zjm 34 17 = 51 := rfl
theorem zjb_34_17 : zjk 34 17 = True := eq_true (by unfold zjk; decide)
theorem zja_34_29 : zjm 34 29 = 63 := rfl
theorem zjb_34_29 : zjk 34 29 = True := eq_true (by unfold zjk; decide)
theorem zja_35_m31 : zjm 35 (-31) = 4 := rfl
theorem zjb_35_m31 : zjk 35 (-31) = True := eq_true (by unfold zjk; decide)
theorem zja_35_5 : zjm 35 5 = 40 := rfl
theorem zjb_35_5 : zjk 35 5 = True := eq_true (by unfold zjk; decide)
theorem zja_35_7 : zjm 35 7 = 42 := rfl
theorem zjb_35_7 : zjk 35 7 = True := eq_true (by unfold zjk; decide)
theorem zja_35_9 : zjm 35 9 = 44 := rfl
theorem zjb_35_9 : zjk 35 9 = True := eq_true (by unfold zjk; decide)
theorem zja_35_10 : zjm 35 10 = 45 := rfl
theorem zjb_35_10 : zjk 35 10 = True := eq_true (by unfold zjk; decide)
theorem zja_35_13 : zjm 35 13 = 48 := rfl
theorem zjb_35_13 : zjk 35 13 = True := eq_true (by unfold zjk; decide)
theorem zja_35_14 : zjm 35 14 = 49 := rfl
theorem zjb_35_14 : zjk 35 14 = True := eq_true (by unfold zjk; decide)
theorem zja_35_17 : zjm 35 17 = 52 := rfl
theorem zjb_35_17 : zjk 35 17 = True := eq_true (by unfold zjk; decide)
theorem zja_35_22 : zjm 35 22 = 57 := rfl
theorem zjb_35_22 : zjk 35 22 = True := eq_true (by unfold zjk; decide)
theorem zja_35_24 : zjm 35 24 = 59 := rfl
theorem zjb_35_24 : zjk 35 24 = True := eq_true (by unfold zjk; decide)
theorem zja_36_4 : zjm 36 4 = 40 := rfl
theorem zjb_36_4 : zjk 36 4 = True := eq_true (by unfold zjk; decide)
theorem zja_36_22 : zjm 36 22 = 58 := rfl
theorem zjb_36_22 : zjk 36 22 = True := eq_true (by unfold zjk; decide)
theorem zja_36_38 : zjm 36 38 = 74 := rfl
theorem zjb_36_38 : zjk 36 38 = True := eq_true (by unfold zjk; decide)
theorem zja_37_m33 : zjm 37 (-33) = 4 := rfl
theorem zjb_37_m33 : zjk 37 (-33) = True := eq_true (by unfold zjk; decide)
theorem zja_37_4 : zjm 37 4 = 41 := rfl
theorem zjb_37_4 : zjk 37 4 = True := eq_true (by unfold zjk; decide)
theorem zja_37_7 : zjm 37 7 = 44 := rfl
theorem zjb_37_7 : zjk 37 7 = True := eq_true (by unfold zjk; decide)
theorem zja_37_28 : zjm 37 28 = 65 := rfl
theorem zjb_37_28 : zjk 37 28 = True := eq_true (by unfold zjk; decide)
theorem zja_37_45 : zjm 37 45 = 82 := rfl
theorem zjb_37_45 : zjk 37 45 = True := eq_true (by unfold zjk; decide)
theorem zja_38_m36 : zjm 38 (-36) = 2 := rfl
theorem zjb_38_m36 : zjk 38 (-36) = True := eq_true (by unfold zjk; decide)
theorem zja_38_4 : zjm 38 4 = 42 := rfl
theorem zjb_38_4 : zjk 38 4 = True := eq_true (by unfold zjk; decide)
theorem zja_38_5 : zjm 38 5 = 43 := rfl
theorem zjb_38_5 : zjk 38 5 = True := eq_true (by unfold zjk; decide)
theorem zja_38_7 : zjm 38 7 = 45 := rfl
theorem zjb_38_7 : zjk 38 7 = True := eq_true (by unfold zjk; decide)
theorem zja_38_8 : zjm 38 8 = 46 := rfl
theorem zjb_38_8 : zjk 38 8 = True := eq_true (by unfold zjk; decide)
theorem zja_38_12 : zjm 38 12 = 50 := rfl
theorem zjb_38_12 : zjk 38 12 = True := eq_true (by unfold zjk; decide)
theorem zja_38_16 : zjm 38 16 = 54 := rfl
theorem zjb_38_16 : zjk 38 16 = True := eq_true (by unfold zjk; decide)
theorem zja_39_m35 : zjm 39 (-35) = 4 := rfl
theorem zjb_39_m35 : zjk 39 (-35) = True := eq_true (by unfold zjk; decide)
theorem zja_39_4 : zjm 39 4 = 43 := rfl
theorem zjb_39_4 : zjk 39 4 = True := eq_true (by unfold zjk; decide)
theorem zja_39_6 : zjm 39 6 = 45 := rfl
theorem zjb_39_6 : zjk 39 6 = True := eq_true (by unfold zjk; decide)
theorem zja_39_7 : zjm 39 7 = 46 := rfl
theorem zjb_39_7 : zjk 39 7 = True := eq_true (by unfold zjk; decide)
theorem zja_39_8 : zjm 39 8 = 47 := rfl
theorem zjb_39_8 : zjk 39 8 = True := eq_true (by unfold zjk; decide)
theorem zja_39_9 : zjm 39 9 = 48 := rfl
theorem zjb_39_9 : zjk 39 9 = True := eq_true (by unfold zjk; decide)
theorem zja_39_10 : zjm 39 10 = 49 := rfl
theorem zjb_39_10 : zjk 39 10 = True := eq_true (by unfold zjk; decide)
theorem zja_39_29 : zjm 39 29 = 68 := rfl
theorem zjb_39_29 : zjk 39 29 = True := eq_true (by unfold zjk; decide)
theorem zja_39_30 : zjm 39 30 = 69 := rfl
theorem zjb_39_30 : zjk 39 30 = True := eq_true (by unfold zjk; decide)
theorem zja_40_m30 : zjm 40 (-30) = 10 := rfl
theorem zjb_40_m30 : zjk 40 (-30) = True := eq_true (by unfold zjk; decide)
theorem zja_40_m29 : zjm 40 (-29) = 11 := rfl
theorem zjb_40_m29 : zjk 40 (-29) = True := eq_true (by unfold zjk; decide)
theorem zja_40_4 : zjm 40 4 = 44 := rfl
theorem zjb_40_4 : zjk 40 4 = True := eq_true (by unfold zjk; decide)
theorem zja_40_6 : zjm 40 6 = 46 := rfl
theorem zjb_40_6 : zjk 40 6 = True := eq_true (by unfold zjk; decide)
theorem zja_40_7 : zjm 40 7 = 47 := rfl
theorem zjb_40_7 : zjk 40 7 = True := eq_true (by unfold zjk; decide)
theorem zja_40_9 : zjm 40 9 = 49 := rfl
theorem zjb_40_9 : zjk 40 9 = True := eq_true (by unfold zjk; decide)
theorem zja_40_10 : zjm 40 10 = 50 := rfl
theorem zjb_40_10 : zjk 40 10 = True := eq_true (by unfold zjk; decide)
theorem zja_40_19 : zjm 40 19 = 59 := rfl
theorem zjb_40_19 : zjk 40 19 = True := eq_true (by unfold zjk; decide)
theorem zja_41_m37 : zjm 41 (-37) = 4 := rfl
theorem zjb_41_m37 : zjk 41 (-37) = True := eq_true (by unfold zjk; decide)
theorem zja_41_m33 : zjm 41 (-33) = 8 := rfl
theorem zjb_41_m33 : zjk 41 (-33) = True := eq_true (by unfold zjk; decide)
theorem zja_41_4 : zjm 41 4 = 45 := rfl
theorem zjb_41_4 : zjk 41 4 = True := eq_true (by unfold zjk; decide)
theorem zja_41_7 : zjm 41 7 = 48 := rfl
theorem zjb_41_7 : zjk 41 7 = True := eq_true (by unfold zjk; decide)
theorem zja_41_12 : zjm 41 12 = 53 := rfl
theorem zjb_41_12 : zjk 41 12 = True := eq_true (by unfold zjk; decide)
theorem zja_41_15 : zjm 41 15 = 56 := rfl
theorem zjb_41_15 : zjk 41 15 = True := eq_true (by unfold zjk; decide)
theorem zja_42_4 : zjm 42 4 = 46 := rfl
theorem zjb_42_4 : zjk 42 4 = True := eq_true (by unfold zjk; decide)
theorem zja_42_10 : zjm 42 10 = 52 := rfl
theorem zjb_42_10 : zjk 42 10 = True := eq_true (by unfold zjk; decide)
theorem zja_42_34 : zjm 42 34 = 76 := rfl
theorem zjb_42_34 : zjk 42 34 = True := eq_true (by unfold zjk; decide)
theorem zja_43_m38 : zjm 43 (-38) = 5 := rfl
theorem zjb_43_m38 : zjk 43 (-38) = True := eq_true (by unfold zjk; decide)
theorem zja_43_8 : zjm 43 8 = 51 := rfl
theorem zjb_43_8 : zjk 43 8 = True := eq_true (by unfold zjk; decide)
theorem zja_43_12 : zjm 43 12 = 55 := rfl
theorem zjb_43_12 : zjk 43 12 = True := eq_true (by unfold zjk; decide)
theorem zja_43_13 : zjm 43 13 = 56 := rfl
theorem zjb_43_13 : zjk 43 13 = True := eq_true (by unfold zjk; decide)
theorem zja_43_18 : zjm 43 18 = 61 := rfl
theorem zjb_43_18 : zjk 43 18 = True := eq_true (by unfold zjk; decide)
theorem zja_43_32 : zjm 43 32 = 75 := rfl
theorem zjb_43_32 : zjk 43 32 = True := eq_true (by unfold zjk; decide)
theorem zja_44_m33 : zjm 44 (-33) = 11 := rfl
theorem zjb_44_m33 : zjk 44 (-33) = True := eq_true (by unfold zjk; decide)
theorem zja_44_5 : zjm 44 5 = 49 := rfl
theorem zjb_44_5 : zjk 44 5 = True := eq_true (by unfold zjk; decide)
theorem zja_44_13 : zjm 44 13 = 57 := rfl
theorem zjb_44_13 : zjk 44 13 = True := eq_true (by unfold zjk; decide)
theorem zja_44_59 : zjm 44 59 = 103 := rfl
theorem zjb_44_59 : zjk 44 59 = True := eq_true (by unfold zjk; decide)
theorem zja_45_10 : zjm 45 10 = 55 := rfl
theorem zjb_45_10 : zjk 45 10 = True := eq_true (by unfold zjk; decide)
theorem zja_45_12 : zjm 45 12 = 57 := rfl
theorem zjb_45_12 : zjk 45 12 = True := eq_true (by unfold zjk; decide)
theorem zja_45_16 : zjm 45 16 = 61 := rfl
theorem zjb_45_16 : zjk 45 16 = True := eq_true (by unfold zjk; decide)
theorem zja_45_76 : zjm 45 76 = 121 := rfl
theorem zjb_45_76 : zjk 45 76 = True := eq_true (by unfold zjk; decide)
theorem zja_46_m32 : zjm 46 (-32) = 14 := rfl
theorem zjb_46_m32 : zjk 46 (-32) = True := eq_true (by unfold zjk; decide)
theorem zja_46_m19 : zjm 46 (-19) = 27 := rfl
theorem zjb_46_m19 : zjk 46 (-19) = True := eq_true (by unfold zjk; decide)
theorem zja_46_6 : zjm 46 6 = 52 := rfl
theorem zjb_46_6 : zjk 46 6 = True := eq_true (by unfold zjk; decide)
theorem zja_46_7 : zjm 46 7 = 53 := rfl
theorem zjb_46_7 : zjk 46 7 = True := eq_true (by unfold zjk; decide)
theorem zja_46_13 : zjm 46 13 = 59 := rfl
theorem zjb_46_13 : zjk 46 13 = True := eq_true (by unfold zjk; decide)
theorem zja_47_m37 : zjm 47 (-37) = 10 := rfl
theorem zjb_47_m37 : zjk 47 (-37) = True := eq_true (by unfold zjk; decide)
theorem zja_47_4 : zjm 47 4 = 51 := rfl
theorem zjb_47_4 : zjk 47 4 = True := eq_true (by unfold zjk; decide)
theorem zja_47_5 : zjm 47 5 = 52 := rfl
theorem zjb_47_5 : zjk 47 5 = True := eq_true (by unfold zjk; decide)
theorem zja_47_19 : zjm 47 19 = 66 := rfl
theorem zjb_47_19 : zjk 47 19 = True := eq_true (by unfold zjk; decide)
theorem zja_48_m43 : zjm 48 (-43) = 5 := rfl
theorem zjb_48_m43 : zjk 48 (-43) = True := eq_true (by unfold zjk; decide)
theorem zja_48_5 : zjm 48 5 = 53 := rfl
theorem zjb_48_5 : zjk 48 5 = True := eq_true (by unfold zjk; decide)
theorem zja_48_9 : zjm 48 9 = 57 := rfl
theorem zjb_48_9 : zjk 48 9 = True := eq_true (by unfold zjk; decide)
theorem zja_48_21 : zjm 48 21 = 69 := rfl
theorem zjb_48_21 : zjk 48 21 = True := eq_true (by unfold zjk; decide)
theorem zja_48_54 : zjm 48 54 = 102 := rfl
theorem zjb_48_54 : zjk 48 54 = True := eq_true (by unfold zjk; decide)
theorem zja_49_m45 : zjm 49 (-45) = 4 := rfl
theorem zjb_49_m45 : zjk 49 (-45) = True := eq_true (by unfold zjk; decide)
theorem zja_49_m31 : zjm 49 (-31) = 18 := rfl
theorem zjb_49_m31 : zjk 49 (-31) = True := eq_true (by unfold zjk; decide)
theorem zja_49_6 : zjm 49 6 = 55 := rfl
theorem zjb_49_6 : zjk 49 6 = True := eq_true (by unfold zjk; decide)
theorem zja_49_7 : zjm 49 7 = 56 := rfl
theorem zjb_49_7 : zjk 49 7 = True := eq_true (by unfold zjk; decide)
theorem zja_50_8 : zjm 50 8 = 58 := rfl
theorem zjb_50_8 : zjk 50 8 = True := eq_true (by unfold zjk; decide)
theorem zja_50_14 : zjm 50 14 = 64 := rfl
theorem zjb_50_14 : zjk 50 14 = True := eq_true (by unfold zjk; decide)
theorem zja_50_16 : zjm 50 16 = 66 := rfl
theorem zjb_50_16 : zjk 50 16 = True := eq_true (by unfold zjk; decide)
theorem zja_50_22 : zjm 50 22 = 72 := rfl
theorem zjb_50_22 : zjk 50 22 = True := eq_true (by unfold zjk; decide)
theorem zja_51_m37 : zjm 51 (-37) = 14 := rfl
theorem zjb_51_m37 : zjk 51 (-37) = True := eq_true (by unfold zjk; decide)
theorem zja_51_7 : zjm 51 7 = 58 := rfl
theorem zjb_51_7 : zjk 51 7 = True := eq_true (by unfold zjk; decide)
theorem zja_51_17 : zjm 51 17 = 68 := rfl
theorem zjb_51_17 : zjk 51 17 = True := eq_true (by unfold zjk; decide)
theorem zja_52_7 : zjm 52 7 = 59 := rfl
theorem zjb_52_7 : zjk 52 7 = True := eq_true (by unfold zjk; decide)
theorem zja_52_12 : zjm 52 12 = 64 := rfl
theorem zjb_52_12 : zjk 52 12 = True := eq_true (by unfold zjk; decide)
theorem zja_52_20 : zjm 52 20 = 72 := rfl
theorem zjb_52_20 : zjk 52 20 = True := eq_true (by unfold zjk; decide)
theorem zja_52_50 : zjm 52 50 = 102 := rfl
theorem zjb_52_50 : zjk 52 50 = True := eq_true (by unfold zjk; decide)
theorem zja_53_m51 : zjm 53 (-51) = 2 := rfl
theorem zjb_53_m51 : zjk 53 (-51) = True := eq_true (by unfold zjk; decide)
theorem zja_53_m44 : zjm 53 (-44) = 9 := rfl
theorem zjb_53_m44 : zjk 53 (-44) = True := eq_true (by unfold zjk; decide)
theorem zja_53_4 : zjm 53 4 = 57 := rfl
theorem zjb_53_4 : zjk 53 4 = True := eq_true (by unfold zjk; decide)
theorem zja_53_7 : zjm 53 7 = 60 := rfl
theorem zjb_53_7 : zjk 53 7 = True := eq_true (by unfold zjk; decide)
theorem zja_53_9 : zjm 53 9 = 62 := rfl
theorem zjb_53_9 : zjk 53 9 = True := eq_true (by unfold zjk; decide)
theorem zja_53_10 : zjm 53 10 = 63 := rfl
theorem zjb_53_10 : zjk 53 10 = True := eq_true (by unfold zjk; decide)
theorem zja_53_12 : zjm 53 12 = 65 := rfl
theorem zjb_53_12 : zjk 53 12 = True := eq_true (by unfold zjk; decide)
theorem zja_53_34 : zjm 53 34 = 87 := rfl
theorem zjb_53_34 : zjk 53 34 = True := eq_true (by unfold zjk; decide)
theorem zja_54_m21 : zjm 54 (-21) = 33 := rfl
theorem zjb_54_m21 : zjk 54 (-21) = True := eq_true (by unfold zjk; decide)
theorem zja_54_13 : zjm 54 13 = 67 := rfl
theorem zjb_54_13 : zjk 54 13 = True := eq_true (by unfold zjk; decide)
theorem zja_54_17 : zjm 54 17 = 71 := rfl
theorem zjb_54_17 : zjk 54 17 = True := eq_true (by unfold zjk; decide)
theorem zja_54_35 : zjm 54 35 = 89 := rfl
theorem zjb_54_35 : zjk 54 35 = True := eq_true (by unfold zjk; decide)
theorem zja_54_44 : zjm 54 44 = 98 := rfl
theorem zjb_54_44 : zjk 54 44 = True := eq_true (by unfold zjk; decide)
theorem zja_55_m50 : zjm 55 (-50) = 5 := rfl
theorem zjb_55_m50 : zjk 55 (-50) = True := eq_true (by unfold zjk; decide)
theorem zja_55_m42 : zjm 55 (-42) = 13 := rfl
theorem zjb_55_m42 : zjk 55 (-42) = True := eq_true (by unfold zjk; decide)
theorem zja_55_4 : zjm 55 4 = 59 := rfl
theorem zjb_55_4 : zjk 55 4 = True := eq_true (by unfold zjk; decide)
theorem zja_55_7 : zjm 55 7 = 62 := rfl
theorem zjb_55_7 : zjk 55 7 = True := eq_true (by unfold zjk; decide)
theorem zja_55_9 : zjm 55 9 = 64 := rfl
theorem zjb_55_9 : zjk 55 9 = True := eq_true (by unfold zjk; decide)
theorem zja_55_42 : zjm 55 42 = 97 := rfl
theorem zjb_55_42 : zjk 55 42 = True := eq_true (by unfold zjk; decide)
theorem zja_56_m54 : zjm 56 (-54) = 2 := rfl
theorem zjb_56_m54 : zjk 56 (-54) = True := eq_true (by unfold zjk; decide)
theorem zja_56_m45 : zjm 56 (-45) = 11 := rfl
theorem zjb_56_m45 : zjk 56 (-45) = True := eq_true (by unfold zjk; decide)
theorem zja_56_4 : zjm 56 4 = 60 := rfl
theorem zjb_56_4 : zjk 56 4 = True := eq_true (by unfold zjk; decide)
theorem zja_56_8 : zjm 56 8 = 64 := rfl
theorem zjb_56_8 : zjk 56 8 = True := eq_true (by unfold zjk; decide)
theorem zja_56_13 : zjm 56 13 = 69 := rfl
theorem zjb_56_13 : zjk 56 13 = True := eq_true (by unfold zjk; decide)
theorem zja_57_4 : zjm 57 4 = 61 := rfl
theorem zjb_57_4 : zjk 57 4 = True := eq_true (by unfold zjk; decide)
theorem zja_57_15 : zjm 57 15 = 72 := rfl
theorem zjb_57_15 : zjk 57 15 = True := eq_true (by unfold zjk; decide)
theorem zja_57_64 : zjm 57 64 = 121 := rfl
theorem zjb_57_64 : zjk 57 64 = True := eq_true (by unfold zjk; decide)
theorem zja_58_11 : zjm 58 11 = 69 := rfl
theorem zjb_58_11 : zjk 58 11 = True := eq_true (by unfold zjk; decide)
theorem zja_58_15 : zjm 58 15 = 73 := rfl
theorem zjb_58_15 : zjk 58 15 = True := eq_true (by unfold zjk; decide)
theorem zja_58_22 : zjm 58 22 = 80 := rfl
theorem zjb_58_22 : zjk 58 22 = True := eq_true (by unfold zjk; decide)
theorem zja_59_15 : zjm 59 15 = 74 := rfl
theorem zjb_59_15 : zjk 59 15 = True := eq_true (by unfold zjk; decide)
theorem zja_60_m30 : zjm 60 (-30) = 30 := rfl
theorem zjb_60_m30 : zjk 60 (-30) = True := eq_true (by unfold zjk; decide)
theorem zja_60_20 : zjm 60 20 = 80 := rfl
theorem zjb_60_20 : zjk 60 20 = True := eq_true (by unfold zjk; decide)
theorem zja_60_34 : zjm 60 34 = 94 := rfl
theorem zjb_60_34 : zjk 60 34 = True := eq_true (by unfold zjk; decide)
theorem zja_61_m40 : zjm 61 (-40) = 21 := rfl
theorem zjb_61_m40 : zjk 61 (-40) = True := eq_true (by unfold zjk; decide)
theorem zja_61_4 : zjm 61 4 = 65 := rfl
theorem zjb_61_4 : zjk 61 4 = True := eq_true (by unfold zjk; decide)
theorem zja_61_5 : zjm 61 5 = 66 := rfl
theorem zjb_61_5 : zjk 61 5 = True := eq_true (by unfold zjk; decide)
theorem zja_61_12 : zjm 61 12 = 73 := rfl
theorem zjb_61_12 : zjk 61 12 = True := eq_true (by unfold zjk; decide)
theorem zja_62_m60 : zjm 62 (-60) = 2 := rfl
theorem zjb_62_m60 : zjk 62 (-60) = True := eq_true (by unfold zjk; decide)
theorem zja_62_m33 : zjm 62 (-33) = 29 := rfl
theorem zjb_62_m33 : zjk 62 (-33) = True := eq_true (by unfold zjk; decide)
theorem zja_62_7 : zjm 62 7 = 69 := rfl
theorem zjb_62_7 : zjk 62 7 = True := eq_true (by unfold zjk; decide)
theorem zja_63_7 : zjm 63 7 = 70 := rfl
theorem zjb_63_7 : zjk 63 7 = True := eq_true (by unfold zjk; decide)
theorem zja_63_10 : zjm 63 10 = 73 := rfl
theorem zjb_63_10 : zjk 63 10 = True := eq_true (by unfold zjk; decide)
theorem zja_63_11 : zjm 63 11 = 74 := rfl
theorem zjb_63_11 : zjk 63 11 = True := eq_true (by unfold zjk; decide)
theorem zja_63_48 : zjm 63 48 = 111 := rfl
theorem zjb_63_48 : zjk 63 48 = True := eq_true (by unfold zjk; decide)
theorem zja_64_7 : zjm 64 7 = 71 := rfl
theorem zjb_64_7 : zjk 64 7 = True := eq_true (by unfold zjk; decide)
theorem zja_64_16 : zjm 64 16 = 80 := rfl
theorem zjb_64_16 : zjk 64 16 = True := eq_true (by unfold zjk; decide)
theorem zja_64_34 : zjm 64 34 = 98 := rfl
theorem zjb_64_34 : zjk 64 34 = True := eq_true (by unfold zjk; decide)
theorem zja_65_m60 : zjm 65 (-60) = 5 := rfl
theorem zjb_65_m60 : zjk 65 (-60) = True := eq_true (by unfold zjk; decide)
theorem zja_65_11 : zjm 65 11 = 76 := rfl
theorem zjb_65_11 : zjk 65 11 = True := eq_true (by unfold zjk; decide)
theorem zja_65_15 : zjm 65 15 = 80 := rfl
theorem zjb_65_15 : zjk 65 15 = True := eq_true (by unfold zjk; decide)
theorem zja_66_m40 : zjm 66 (-40) = 26 := rfl
theorem zjb_66_m40 : zjk 66 (-40) = True := eq_true (by unfold zjk; decide)
theorem zja_66_4 : zjm 66 4 = 70 := rfl
theorem zjb_66_4 : zjk 66 4 = True := eq_true (by unfold zjk; decide)
theorem zja_66_7 : zjm 66 7 = 73 := rfl
theorem zjb_66_7 : zjk 66 7 = True := eq_true (by unfold zjk; decide)
theorem zja_67_m55 : zjm 67 (-55) = 12 := rfl
theorem zjb_67_m55 : zjk 67 (-55) = True := eq_true (by unfold zjk; decide)
theorem zja_67_m48 : zjm 67 (-48) = 19 := rfl
theorem zjb_67_m48 : zjk 67 (-48) = True := eq_true (by unfold zjk; decide)
theorem zja_67_5 : zjm 67 5 = 72 := rfl
theorem zjb_67_5 : zjk 67 5 = True := eq_true (by unfold zjk; decide)
theorem zja_67_7 : zjm 67 7 = 74 := rfl
theorem zjb_67_7 : zjk 67 7 = True := eq_true (by unfold zjk; decide)
theorem zja_67_9 : zjm 67 9 = 76 := rfl
theorem zjb_67_9 : zjk 67 9 = True := eq_true (by unfold zjk; decide)
theorem zja_67_16 : zjm 67 16 = 83 := rfl
theorem zjb_67_16 : zjk 67 16 = True := eq_true (by unfold zjk; decide)
theorem zja_68_15 : zjm 68 15 = 83 := rfl
theorem zjb_68_15 : zjk 68 15 = True := eq_true (by unfold zjk; decide)
theorem zja_68_28 : zjm 68 28 = 96 := rfl
theorem zjb_68_28 : zjk 68 28 = True := eq_true (by unfold zjk; decide)
theorem zja_68_43 : zjm 68 43 = 111 := rfl
theorem zjb_68_43 : zjk 68 43 = True := eq_true (by unfold zjk; decide)
theorem zja_69_7 : zjm 69 7 = 76 := rfl
theorem zjb_69_7 : zjk 69 7 = True := eq_true (by unfold zjk; decide)
theorem zja_69_12 : zjm 69 12 = 81 := rfl
theorem zjb_69_12 : zjk 69 12 = True := eq_true (by unfold zjk; decide)
theorem zja_70_7 : zjm 70 7 = 77 := rfl
theorem zjb_70_7 : zjk 70 7 = True := eq_true (by unfold zjk; decide)
theorem zja_70_10 : zjm 70 10 = 80 := rfl
theorem zjb_70_10 : zjk 70 10 = True := eq_true (by unfold zjk; decide)
theorem zja_70_12 : zjm 70 12 = 82 := rfl
theorem zjb_70_12 : zjk 70 12 = True := eq_true (by unfold zjk; decide)
theorem zja_71_m63 : zjm 71 (-63) = 8 := rfl
theorem zjb_71_m63 : zjk 71 (-63) = True := eq_true (by unfold zjk; decide)
theorem zja_71_4 : zjm 71 4 = 75 := rfl
theorem zjb_71_4 : zjk 71 4 = True := eq_true (by unfold zjk; decide)
theorem zja_71_7 : zjm 71 7 = 78 := rfl
theorem zjb_71_7 : zjk 71 7 = True := eq_true (by unfold zjk; decide)
theorem zja_71_8 : zjm 71 8 = 79 := rfl
theorem zjb_71_8 : zjk 71 8 = True := eq_true (by unfold zjk; decide)
theorem zja_71_60 : zjm 71 60 = 131 := rfl
theorem zjb_71_60 : zjk 71 60 = True := eq_true (by unfold zjk; decide)
theorem zja_73_4 : zjm 73 4 = 77 := rfl
theorem zjb_73_4 : zjk 73 4 = True := eq_true (by unfold zjk; decide)
theorem zja_73_5 : zjm 73 5 = 78 := rfl
theorem zjb_73_5 : zjk 73 5 = True := eq_true (by unfold zjk; decide)
theorem zja_73_30 : zjm 73 30 = 103 := rfl
theorem zjb_73_30 : zjk 73 30 = True := eq_true (by unfold zjk; decide)
theorem zja_73_38 : zjm 73 38 = 111 := rfl
theorem zjb_73_38 : zjk 73 38 = True := eq_true (by unfold zjk; decide)
theorem zja_75_5 : zjm 75 5 = 80 := rfl
theorem zjb_75_5 : zjk 75 5 = True := eq_true (by unfold zjk; decide)
theorem zja_75_7 : zjm 75 7 = 82 := rfl
theorem zjb_75_7 : zjk 75 7 = True := eq_true (by unfold zjk; decide)
theorem zja_75_59 : zjm 75 59 = 134 := rfl
theorem zjb_75_59 : zjk 75 59 = True := eq_true (by unfold zjk; decide)
theorem zja_76_5 : zjm 76 5 = 81 := rfl
theorem zjb_76_5 : zjk 76 5 = True := eq_true (by unfold zjk; decide)
theorem zja_76_20 : zjm 76 20 = 96 := rfl
theorem zjb_76_20 : zjk 76 20 = True := eq_true (by unfold zjk; decide)
theorem zja_77_m22 : zjm 77 (-22) = 55 := rfl
theorem zjb_77_m22 : zjk 77 (-22) = True := eq_true (by unfold zjk; decide)
theorem zja_77_m18 : zjm 77 (-18) = 59 := rfl
theorem zjb_77_m18 : zjk 77 (-18) = True := eq_true (by unfold zjk; decide)
theorem zja_77_14 : zjm 77 14 = 91 := rfl
theorem zjb_77_14 : zjk 77 14 = True := eq_true (by unfold zjk; decide)
theorem zja_77_15 : zjm 77 15 = 92 := rfl
theorem zjb_77_15 : zjk 77 15 = True := eq_true (by unfold zjk; decide)
theorem zja_78_7 : zjm 78 7 = 85 := rfl
theorem zjb_78_7 : zjk 78 7 = True := eq_true (by unfold zjk; decide)
theorem zja_79_m71 : zjm 79 (-71) = 8 := rfl
theorem zjb_79_m71 : zjk 79 (-71) = True := eq_true (by unfold zjk; decide)
theorem zja_79_4 : zjm 79 4 = 83 := rfl
theorem zjb_79_4 : zjk 79 4 = True := eq_true (by unfold zjk; decide)
theorem zja_79_7 : zjm 79 7 = 86 := rfl
theorem zjb_79_7 : zjk 79 7 = True := eq_true (by unfold zjk; decide)
theorem zja_80_m60 : zjm 80 (-60) = 20 := rfl
theorem zjb_80_m60 : zjk 80 (-60) = True := eq_true (by unfold zjk; decide)
theorem zja_80_m21 : zjm 80 (-21) = 59 := rfl
theorem zjb_80_m21 : zjk 80 (-21) = True := eq_true (by unfold zjk; decide)
theorem zja_81_m74 : zjm 81 (-74) = 7 := rfl
theorem zjb_81_m74 : zjk 81 (-74) = True := eq_true (by unfold zjk; decide)
theorem zja_81_177 : zjm 81 177 = 258 := rfl
theorem zjb_81_177 : zjk 81 177 = True := eq_true (by unfold zjk; decide)
theorem zja_82_4 : zjm 82 4 = 86 := rfl
theorem zjb_82_4 : zjk 82 4 = True := eq_true (by unfold zjk; decide)
theorem zja_83_m65 : zjm 83 (-65) = 18 := rfl
theorem zjb_83_m65 : zjk 83 (-65) = True := eq_true (by unfold zjk; decide)
theorem zja_83_4 : zjm 83 4 = 87 := rfl
theorem zjb_83_4 : zjk 83 4 = True := eq_true (by unfold zjk; decide)
theorem zja_83_7 : zjm 83 7 = 90 := rfl
theorem zjb_83_7 : zjk 83 7 = True := eq_true (by unfold zjk; decide)
theorem zja_83_42 : zjm 83 42 = 125 := rfl
theorem zjb_83_42 : zjk 83 42 = True := eq_true (by unfold zjk; decide)
theorem zja_83_65 : zjm 83 65 = 148 := rfl
theorem zjb_83_65 : zjk 83 65 = True := eq_true (by unfold zjk; decide)
theorem zja_84_m37 : zjm 84 (-37) = 47 := rfl
theorem zjb_84_m37 : zjk 84 (-37) = True := eq_true (by unfold zjk; decide)
theorem zja_84_12 : zjm 84 12 = 96 := rfl
theorem zjb_84_12 : zjk 84 12 = True := eq_true (by unfold zjk; decide)
theorem zja_85_11 : zjm 85 11 = 96 := rfl
theorem zjb_85_11 : zjk 85 11 = True := eq_true (by unfold zjk; decide)
theorem zja_85_17 : zjm 85 17 = 102 := rfl
theorem zjb_85_17 : zjk 85 17 = True := eq_true (by unfold zjk; decide)
theorem zja_86_m36 : zjm 86 (-36) = 50 := rfl
theorem zjb_86_m36 : zjk 86 (-36) = True := eq_true (by unfold zjk; decide)
theorem zja_87_4 : zjm 87 4 = 91 := rfl
theorem zjb_87_4 : zjk 87 4 = True := eq_true (by unfold zjk; decide)
theorem zja_87_16 : zjm 87 16 = 103 := rfl
theorem zjb_87_16 : zjk 87 16 = True := eq_true (by unfold zjk; decide)
theorem zja_88_11 : zjm 88 11 = 99 := rfl
theorem zjb_88_11 : zjk 88 11 = True := eq_true (by unfold zjk; decide)
theorem zja_88_16 : zjm 88 16 = 104 := rfl
theorem zjb_88_16 : zjk 88 16 = True := eq_true (by unfold zjk; decide)
theorem zja_88_19 : zjm 88 19 = 107 := rfl
theorem zjb_88_19 : zjk 88 19 = True := eq_true (by unfold zjk; decide)
theorem zja_89_7 : zjm 89 7 = 96 := rfl
theorem zjb_89_7 : zjk 89 7 = True := eq_true (by unfold zjk; decide)
theorem zja_90_m76 : zjm 90 (-76) = 14 := rfl
theorem zjb_90_m76 : zjk 90 (-76) = True := eq_true (by unfold zjk; decide)
theorem zja_90_7 : zjm 90 7 = 97 := rfl
theorem zjb_90_7 : zjk 90 7 = True := eq_true (by unfold zjk; decide)
theorem zja_90_21 : zjm 90 21 = 111 := rfl
theorem zjb_90_21 : zjk 90 21 = True := eq_true (by unfold zjk; decide)
theorem zja_91_m35 : zjm 91 (-35) = 56 := rfl
theorem zjb_91_m35 : zjk 91 (-35) = True := eq_true (by unfold zjk; decide)
theorem zja_91_161 : zjm 91 161 = 252 := rfl
theorem zjb_91_161 : zjk 91 161 = True := eq_true (by unfold zjk; decide)
theorem zja_92_36 : zjm 92 36 = 128 := rfl
theorem zjb_92_36 : zjk 92 36 = True := eq_true (by unfold zjk; decide)
theorem zja_93_m79 : zjm 93 (-79) = 14 := rfl
theorem zjb_93_m79 : zjk 93 (-79) = True := eq_true (by unfold zjk; decide)
theorem zja_93_m28 : zjm 93 (-28) = 65 := rfl
theorem zjb_93_m28 : zjk 93 (-28) = True := eq_true (by unfold zjk; decide)
theorem zja_93_4 : zjm 93 4 = 97 := rfl
theorem zjb_93_4 : zjk 93 4 = True := eq_true (by unfold zjk; decide)
theorem zja_93_16 : zjm 93 16 = 109 := rfl
theorem zjb_93_16 : zjk 93 16 = True := eq_true (by unfold zjk; decide)
theorem zja_94_m42 : zjm 94 (-42) = 52 := rfl
theorem zjb_94_m42 : zjk 94 (-42) = True := eq_true (by unfold zjk; decide)
theorem zja_94_4 : zjm 94 4 = 98 := rfl
theorem zjb_94_4 : zjk 94 4 = True := eq_true (by unfold zjk; decide)
theorem zja_94_17 : zjm 94 17 = 111 := rfl
theorem zjb_94_17 : zjk 94 17 = True := eq_true (by unfold zjk; decide)
theorem zja_95_m35 : zjm 95 (-35) = 60 := rfl
theorem zjb_95_m35 : zjk 95 (-35) = True := eq_true (by unfold zjk; decide)
theorem zja_95_6 : zjm 95 6 = 101 := rfl
theorem zjb_95_6 : zjk 95 6 = True := eq_true (by unfold zjk; decide)
theorem zja_95_8 : zjm 95 8 = 103 := rfl
theorem zjb_95_8 : zjk 95 8 = True := eq_true (by unfold zjk; decide)
theorem zja_96_m91 : zjm 96 (-91) = 5 := rfl
theorem zjb_96_m91 : zjk 96 (-91) = True := eq_true (by unfold zjk; decide)
theorem zja_96_7 : zjm 96 7 = 103 := rfl
theorem zjb_96_7 : zjk 96 7 = True := eq_true (by unfold zjk; decide)
theorem zja_97_m91 : zjm 97 (-91) = 6 := rfl
theorem zjb_97_m91 : zjk 97 (-91) = True := eq_true (by unfold zjk; decide)
theorem zja_97_m81 : zjm 97 (-81) = 16 := rfl
theorem zjb_97_m81 : zjk 97 (-81) = True := eq_true (by unfold zjk; decide)
theorem zja_97_17 : zjm 97 17 = 114 := rfl
theorem zjb_97_17 : zjk 97 17 = True := eq_true (by unfold zjk; decide)
theorem zja_97_22 : zjm 97 22 = 119 := rfl
theorem zjb_97_22 : zjk 97 22 = True := eq_true (by unfold zjk; decide)
theorem zja_98_23 : zjm 98 23 = 121 := rfl
theorem zjb_98_23 : zjk 98 23 = True := eq_true (by unfold zjk; decide)
theorem zja_99_m55 : zjm 99 (-55) = 44 := rfl
theorem zjb_99_m55 : zjk 99 (-55) = True := eq_true (by unfold zjk; decide)
theorem zja_99_m51 : zjm 99 (-51) = 48 := rfl
theorem zjb_99_m51 : zjk 99 (-51) = True := eq_true (by unfold zjk; decide)
theorem zja_99_7 : zjm 99 7 = 106 := rfl
theorem zjb_99_7 : zjk 99 7 = True := eq_true (by unfold zjk; decide)
theorem zja_100_m71 : zjm 100 (-71) = 29 := rfl
theorem zjb_100_m71 : zjk 100 (-71) = True := eq_true (by unfold zjk; decide)
theorem zja_100_m30 : zjm 100 (-30) = 70 := rfl
theorem zjb_100_m30 : zjk 100 (-30) = True := eq_true (by unfold zjk; decide)
theorem zja_100_m18 : zjm 100 (-18) = 82 := rfl
theorem zjb_100_m18 : zjk 100 (-18) = True := eq_true (by unfold zjk; decide)
theorem zja_100_4 : zjm 100 4 = 104 := rfl
theorem zjb_100_4 : zjk 100 4 = True := eq_true (by unfold zjk; decide)
theorem zja_100_5 : zjm 100 5 = 105 := rfl
theorem zjb_100_5 : zjk 100 5 = True := eq_true (by unfold zjk; decide)
theorem zja_101_m94 : zjm 101 (-94) = 7 := rfl
theorem zjb_101_m94 : zjk 101 (-94) = True := eq_true (by unfold zjk; decide)
theorem zja_101_m81 : zjm 101 (-81) = 20 := rfl
theorem zjb_101_m81 : zjk 101 (-81) = True := eq_true (by unfold zjk; decide)
theorem zja_101_10 : zjm 101 10 = 111 := rfl
theorem zjb_101_10 : zjk 101 10 = True := eq_true (by unfold zjk; decide)
theorem zja_101_177 : zjm 101 177 = 278 := rfl
theorem zjb_101_177 : zjk 101 177 = True := eq_true (by unfold zjk; decide)
theorem zja_102_7 : zjm 102 7 = 109 := rfl
theorem zjb_102_7 : zjk 102 7 = True := eq_true (by unfold zjk; decide)
theorem zja_103_38 : zjm 103 38 = 141 := rfl
theorem zjb_103_38 : zjk 103 38 = True := eq_true (by unfold zjk; decide)
theorem zja_104_9 : zjm 104 9 = 113 := rfl
theorem zjb_104_9 : zjk 104 9 = True := eq_true (by unfold zjk; decide)
theorem zja_104_10 : zjm 104 10 = 114 := rfl
theorem zjb_104_10 : zjk 104 10 = True := eq_true (by unfold zjk; decide)
theorem zja_104_148 : zjm 104 148 = 252 := rfl
theorem zjb_104_148 : zjk 104 148 = True := eq_true (by unfold zjk; decide)
theorem zja_106_m21 : zjm 106 (-21) = 85 := rfl
theorem zjb_106_m21 : zjk 106 (-21) = True := eq_true (by unfold zjk; decide)
theorem zja_106_7 : zjm 106 7 = 113 := rfl
theorem zjb_106_7 : zjk 106 7 = True := eq_true (by unfold zjk; decide)
theorem zja_106_12 : zjm 106 12 = 118 := rfl
theorem zjb_106_12 : zjk 106 12 = True := eq_true (by unfold zjk; decide)
theorem zja_108_9 : zjm 108 9 = 117 := rfl
theorem zjb_108_9 : zjk 108 9 = True := eq_true (by unfold zjk; decide)
theorem zja_108_64 : zjm 108 64 = 172 := rfl
theorem zjb_108_64 : zjk 108 64 = True := eq_true (by unfold zjk; decide)
theorem zja_110_4 : zjm 110 4 = 114 := rfl
theorem zjb_110_4 : zjk 110 4 = True := eq_true (by unfold zjk; decide)
theorem zja_110_7 : zjm 110 7 = 117 := rfl
theorem zjb_110_7 : zjk 110 7 = True := eq_true (by unfold zjk; decide)
theorem zja_112_51 : zjm 112 51 = 163 := rfl
theorem zjb_112_51 : zjk 112 51 = True := eq_true (by unfold zjk; decide)
theorem zja_113_8 : zjm 113 8 = 121 := rfl
theorem zjb_113_8 : zjk 113 8 = True := eq_true (by unfold zjk; decide)
theorem zja_114_4 : zjm 114 4 = 118 := rfl
theorem zjb_114_4 : zjk 114 4 = True := eq_true (by unfold zjk; decide)
theorem zja_114_50 : zjm 114 50 = 164 := rfl
theorem zjb_114_50 : zjk 114 50 = True := eq_true (by unfold zjk; decide)
theorem zja_115_137 : zjm 115 137 = 252 := rfl
theorem zjb_115_137 : zjk 115 137 = True := eq_true (by unfold zjk; decide)
theorem zja_116_6 : zjm 116 6 = 122 := rfl
theorem zjb_116_6 : zjk 116 6 = True := eq_true (by unfold zjk; decide)
theorem zja_116_39 : zjm 116 39 = 155 := rfl
theorem zjb_116_39 : zjk 116 39 = True := eq_true (by unfold zjk; decide)
theorem zja_118_m85 : zjm 118 (-85) = 33 := rfl
theorem zjb_118_m85 : zjk 118 (-85) = True := eq_true (by unfold zjk; decide)
theorem zja_118_5 : zjm 118 5 = 123 := rfl
theorem zjb_118_5 : zjk 118 5 = True := eq_true (by unfold zjk; decide)
theorem zja_122_m44 : zjm 122 (-44) = 78 := rfl
theorem zjb_122_m44 : zjk 122 (-44) = True := eq_true (by unfold zjk; decide)
theorem zja_122_27 : zjm 122 27 = 149 := rfl
theorem zjb_122_27 : zjk 122 27 = True := eq_true (by unfold zjk; decide)
theorem zja_124_30 : zjm 124 30 = 154 := rfl
theorem zjb_124_30 : zjk 124 30 = True := eq_true (by unfold zjk; decide)
theorem zja_125_m42 : zjm 125 (-42) = 83 := rfl
theorem zjb_125_m42 : zjk 125 (-42) = True := eq_true (by unfold zjk; decide)
theorem zja_126_7 : zjm 126 7 = 133 := rfl
theorem zjb_126_7 : zjk 126 7 = True := eq_true (by unfold zjk; decide)
theorem zja_126_23 : zjm 126 23 = 149 := rfl
theorem zjb_126_23 : zjk 126 23 = True := eq_true (by unfold zjk; decide)
theorem zja_128_m62 : zjm 128 (-62) = 66 := rfl
theorem zjb_128_m62 : zjk 128 (-62) = True := eq_true (by unfold zjk; decide)
theorem zja_130_4 : zjm 130 4 = 134 := rfl
theorem zjb_130_4 : zjk 130 4 = True := eq_true (by unfold zjk; decide)
theorem zja_131_m64 : zjm 131 (-64) = 67 := rfl
theorem zjb_131_m64 : zjk 131 (-64) = True := eq_true (by unfold zjk; decide)
theorem zja_138_15 : zjm 138 15 = 153 := rfl
theorem zjb_138_15 : zjk 138 15 = True := eq_true (by unfold zjk; decide)
theorem zja_140_9 : zjm 140 9 = 149 := rfl
theorem zjb_140_9 : zjk 140 9 = True := eq_true (by unfold zjk; decide)
theorem zja_143_19 : zjm 143 19 = 162 := rfl
theorem zjb_143_19 : zjk 143 19 = True := eq_true (by unfold zjk; decide)
theorem zja_145_m70 : zjm 145 (-70) = 75 := rfl
theorem zjb_145_m70 : zjk 145 (-70) = True := eq_true (by unfold zjk; decide)
theorem zja_146_4 : zjm 146 4 = 150 := rfl
theorem zjb_146_4 : zjk 146 4 = True := eq_true (by unfold zjk; decide)
theorem zja_150_12 : zjm 150 12 = 162 := rfl
theorem zjb_150_12 : zjk 150 12 = True := eq_true (by unfold zjk; decide)
theorem zja_150_22 : zjm 150 22 = 172 := rfl
theorem zjb_150_22 : zjk 150 22 = True := eq_true (by unfold zjk; decide)
theorem zja_151_m31 : zjm 151 (-31) = 120 := rfl
theorem zjb_151_m31 : zjk 151 (-31) = True := eq_true (by unfold zjk; decide)
theorem zja_152_m41 : zjm 152 (-41) = 111 := rfl
theorem zjb_152_m41 : zjk 152 (-41) = True := eq_true (by unfold zjk; decide)
theorem zja_154_m152 : zjm 154 (-152) = 2 := rfl
theorem zjb_154_m152 : zjk 154 (-152) = True := eq_true (by unfold zjk; decide)
theorem zja_159_9 : zjm 159 9 = 168 := rfl
theorem zjb_159_9 : zjk 159 9 = True := eq_true (by unfold zjk; decide)
theorem zja_160_m51 : zjm 160 (-51) = 109 := rfl
theorem zjb_160_m51 : zjk 160 (-51) = True := eq_true (by unfold zjk; decide)
theorem zja_160_111 : zjm 160 111 = 271 := rfl
theorem zjb_160_111 : zjk 160 111 = True := eq_true (by unfold zjk; decide)
theorem zja_161_m50 : zjm 161 (-50) = 111 := rfl
theorem zjb_161_m50 : zjk 161 (-50) = True := eq_true (by unfold zjk; decide)
theorem zja_161_31 : zjm 161 31 = 192 := rfl
theorem zjb_161_31 : zjk 161 31 = True := eq_true (by unfold zjk; decide)
theorem zja_166_15 : zjm 166 15 = 181 := rfl
theorem zjb_166_15 : zjk 166 15 = True := eq_true (by unfold zjk; decide)
theorem zja_169_m21 : zjm 169 (-21) = 148 := rfl
theorem zjb_169_m21 : zjk 169 (-21) = True := eq_true (by unfold zjk; decide)
theorem zja_169_109 : zjm 169 109 = 278 := rfl
theorem zjb_169_109 : zjk 169 109 = True := eq_true (by unfold zjk; decide)
theorem zja_172_14 : zjm 172 14 = 186 := rfl
theorem zjb_172_14 : zjk 172 14 = True := eq_true (by unfold zjk; decide)
theorem zja_178_12 : zjm 178 12 = 190 := rfl
theorem zjb_178_12 : zjk 178 12 = True := eq_true (by unfold zjk; decide)
theorem zja_183_m14 : zjm 183 (-14) = 169 := rfl
theorem zjb_183_m14 : zjk 183 (-14) = True := eq_true (by unfold zjk; decide)
theorem zja_189_m32 : zjm 189 (-32) = 157 := rfl
theorem zjb_189_m32 : zjk 189 (-32) = True := eq_true (by unfold zjk; decide)
theorem zja_203_16 : zjm 203 16 = 219 := rfl
theorem zjb_203_16 : zjk 203 16 = True := eq_true (by unfold zjk; decide)
theorem zja_216_30 : zjm 216 30 = 246 := rfl
theorem zjb_216_30 : zjk 216 30 = True := eq_true (by unfold zjk; decide)
theorem zja_221_16 : zjm 221 16 = 237 := rfl
theorem zjb_221_16 : zjk 221 16 = True := eq_true (by unfold zjk; decide)
theorem zja_223_14 : zjm 223 14 = 237 := rfl
theorem zjb_223_14 : zjk 223 14 = True := eq_true (by unfold zjk; decide)
theorem zja_224_1055 : zjm 224 1055 = 1279 := rfl
theorem zjb_224_1055 : zjk 224 1055 = True := eq_true (by unfold zjk; decide)
theorem zja_234_m15 : zjm 234 (-15) = 219 := rfl
theorem zjb_234_m15 : zjk 234 (-15) = True := eq_true (by unfold zjk; decide)
theorem zja_234_12 : zjm 234 12 = 246 := rfl
theorem zjb_234_12 : zjk 234 12 = True := eq_true (by unfold zjk; decide)
theorem zja_236_7 : zjm 236 7 = 243 := rfl
theorem zjb_236_7 : zjk 236 7 = True := eq_true (by unfold zjk; decide)
theorem zja_240_4 : zjm 240 4 = 244 := rfl
theorem zjb_240_4 : zjk 240 4 = True := eq_true (by unfold zjk; decide)
theorem zja_247_1032 : zjm 247 1032 = 1279 := rfl
theorem zjb_247_1032 : zjk 247 1032 = True := eq_true (by unfold zjk; decide)
theorem zja_255_m182 : zjm 255 (-182) = 73 := rfl
theorem zjb_255_m182 : zjk 255 (-182) = True := eq_true (by unfold zjk; decide)
theorem zja_268_m111 : zjm 268 (-111) = 157 := rfl
theorem zjb_268_m111 : zjk 268 (-111) = True := eq_true (by unfold zjk; decide)
theorem zja_268_7 : zjm 268 7 = 275 := rfl
theorem zjb_268_7 : zjk 268 7 = True := eq_true (by unfold zjk; decide)
theorem zja_270_1009 : zjm 270 1009 = 1279 := rfl
theorem zjb_270_1009 : zjk 270 1009 = True := eq_true (by unfold zjk; decide)
theorem zja_272_4 : zjm 272 4 = 276 := rfl
theorem zjb_272_4 : zjk 272 4 = True := eq_true (by unfold zjk; decide)
theorem zja_293_986 : zjm 293 986 = 1279 := rfl
theorem zjb_293_986 : zjk 293 986 = True := eq_true (by unfold zjk; decide)
theorem zja_300_27 : zjm 300 27 = 327 := rfl
theorem zjb_300_27 : zjk 300 27 = True := eq_true (by unfold zjk; decide)
theorem zja_312_15 : zjm 312 15 = 327 := rfl
theorem zjb_312_15 : zjk 312 15 = True := eq_true (by unfold zjk; decide)
theorem zja_324_17 : zjm 324 17 = 341 := rfl
theorem zjb_324_17 : zjk 324 17 = True := eq_true (by unfold zjk; decide)
theorem zja_326_953 : zjm 326 953 = 1279 := rfl
theorem zjb_326_953 : zjk 326 953 = True := eq_true (by unfold zjk; decide)
theorem zja_359_920 : zjm 359 920 = 1279 := rfl
theorem zjb_359_920 : zjk 359 920 = True := eq_true (by unfold zjk; decide)
theorem zja_382_897 : zjm 382 897 = 1279 := rfl
theorem zjb_382_897 : zjk 382 897 = True := eq_true (by unfold zjk; decide)
theorem zja_415_864 : zjm 415 864 = 1279 := rfl
theorem zjb_415_864 : zjk 415 864 = True := eq_true (by unfold zjk; decide)
theorem zja_428_851 : zjm 428 851 = 1279 := rfl
theorem zjb_428_851 : zjk 428 851 = True := eq_true (by unfold zjk; decide)
theorem zja_451_828 : zjm 451 828 = 1279 := rfl
theorem zjb_451_828 : zjk 451 828 = True := eq_true (by unfold zjk; decide)
theorem zja_494_785 : zjm 494 785 = 1279 := rfl
theorem zjb_494_785 : zjk 494 785 = True := eq_true (by unfold zjk; decide)
theorem zja_537_742 : zjm 537 742 = 1279 := rfl
theorem zjb_537_742 : zjk 537 742 = True := eq_true (by unfold zjk; decide)
theorem zja_570_709 : zjm 570 709 = 1279 := rfl
theorem zjb_570_709 : zjk 570 709 = True := eq_true (by unfold zjk; decide)
theorem zja_593_686 : zjm 593 686 = 1279 := rfl
theorem zjb_593_686 : zjk 593 686 = True := eq_true (by unfold zjk; decide)
theorem zja_616_663 : zjm 616 663 = 1279 := rfl
theorem zjb_616_663 : zjk 616 663 = True := eq_true (by unfold zjk; decide)
theorem zja_629_650 : zjm 629 650 = 1279 := rfl
theorem zjb_629_650 : zjk 629 650 = True := eq_true (by unfold zjk; decide)
theorem zja_642_637 : zjm 642 637 = 1279 := rfl
theorem zjb_642_637 : zjk 642 637 = True := eq_true (by unfold zjk; decide)
theorem zja_655_624 : zjm 655 624 = 1279 := rfl
theorem zjb_655_624 : zjk 655 624 = True := eq_true (by unfold zjk; decide)
theorem zja_688_591 : zjm 688 591 = 1279 := rfl
theorem zjb_688_591 : zjk 688 591 = True := eq_true (by unfold zjk; decide)
theorem zja_721_558 : zjm 721 558 = 1279 := rfl
theorem zjb_721_558 : zjk 721 558 = True := eq_true (by unfold zjk; decide)
theorem zja_744_535 : zjm 744 535 = 1279 := rfl
theorem zjb_744_535 : zjk 744 535 = True := eq_true (by unfold zjk; decide)
theorem zja_767_512 : zjm 767 512 = 1279 := rfl
theorem zjb_767_512 : zjk 767 512 = True := eq_true (by unfold zjk; decide)
theorem zja_810_469 : zjm 810 469 = 1279 := rfl
theorem zjb_810_469 : zjk 810 469 = True := eq_true (by unfold zjk; decide)
theorem zja_823_456 : zjm 823 456 = 1279 := rfl
theorem zjb_823_456 : zjk 823 456 = True := eq_true (by unfold zjk; decide)
theorem zja_836_443 : zjm 836 443 = 1279 := rfl
theorem zjb_836_443 : zjk 836 443 = True := eq_true (by unfold zjk; decide)
theorem zja_869_410 : zjm 869 410 = 1279 := rfl
theorem zjb_869_410 : zjk 869 410 = True := eq_true (by unfold zjk; decide)
theorem zja_892_387 : zjm 892 387 = 1279 := rfl
theorem zjb_892_387 : zjk 892 387 = True := eq_true (by unfold zjk; decide)
theorem zja_936_343 : zjm 936 343 = 1279 := rfl
theorem zjb_936_343 : zjk 936 343 = True := eq_true (by unfold zjk; decide)
theorem zja_979_300 : zjm 979 300 = 1279 := rfl
theorem zjb_979_300 : zjk 979 300 = True := eq_true (by unfold zjk; decide)
theorem zja_1022_257 : zjm 1022 257 = 1279 := rfl
theorem zjb_1022_257 : zjk 1022 257 = True := eq_true (by unfold zjk; decide)
theorem zja_1045_234 : zjm 1045 234 = 1279 := rfl
theorem zjb_1045_234 : zjk 1045 234 = True := eq_true (by unfold zjk; decide)
theorem zja_1098_181 : zjm 1098 181 = 1279 := rfl
theorem zjb_1098_181 : zjk 1098 181 = True := eq_true (by unfold zjk; decide)
theorem zja_1141_138 : zjm 1141 138 = 1279 := rfl
theorem zjb_1141_138 : zjk 1141 138 = True := eq_true (by unfold zjk; decide)
theorem zja_1204_75 : zjm 1204 75 = 1279 := rfl
theorem zjb_1204_75 : zjk 1204 75 = True := eq_true (by unfold zjk; decide)
theorem zja_1237_42 : zjm 1237 42 = 1279 := rfl
theorem zjb_1237_42 : zjk 1237 42 = True := eq_true (by unfold zjk; decide)
theorem zja_1260_19 : zjm 1260 19 = 1279 := rfl
theorem zjb_1260_19 : zjk 1260 19 = True := eq_true (by unfold zjk; decide)
theorem zja_1274_5 : zjm 1274 5 = 1279 := rfl
theorem zjb_1274_5 : zjk 1274 5 = True := eq_true (by unfold zjk; decide)
theorem zja_1282_m1264 : zjm 1282 (-1264) = 18 := rfl
theorem zjb_1282_m1264 : zjk 1282 (-1264) = True := eq_true (by unfold zjk; decide)

theorem dsW2_1_1 : runW (fX4_diagonalSum 0) mtW1_1 (okS2 mtW1_1 (ttW 1 1)) = true := by decide +kernel
theorem dsW2_1_2 : runW (fX4_diagonalSum 0) mtW1_2 (okS2 mtW1_2 (ttW 1 2)) = true := by decide +kernel
theorem dsW2_1_3 : runW (fX4_diagonalSum 0) mtW1_3 (okS2 mtW1_3 (ttW 1 3)) = true := by decide +kernel
theorem dsW2_1_4 : runW (fX4_diagonalSum 0) mtW1_4 (okS2 mtW1_4 (ttW 1 4)) = true := by decide +kernel
theorem dsW2_1_5 : runW (fX4_diagonalSum 0) mtW1_5 (okS2 mtW1_5 (ttW 1 5)) = true := by decide +kernel
theorem dsW2_1_6 : runW (fX4_diagonalSum 0) mtW1_6 (okS2 mtW1_6 (ttW 1 6)) = true := by decide +kernel
theorem dsW2_1_7 : runW (fX4_diagonalSum 0) mtW1_7 (okS2 mtW1_7 (ttW 1 7)) = true := by decide +kernel
theorem dsW2_2_1 : runW (fX4_diagonalSum 0) mtW2_1 (okS2 mtW2_1 (ttW 2 1)) = true := by decide +kernel
theorem dsW2_2_3 : runW (fX4_diagonalSum 0) mtW2_3 (okS2 mtW2_3 (ttW 2 3)) = true := by decide +kernel
theorem dsW2_2_5 : runW (fX4_diagonalSum 0) mtW2_5 (okS2 mtW2_5 (ttW 2 5)) = true := by decide +kernel
theorem dsW2_2_7 : runW (fX4_diagonalSum 0) mtW2_7 (okS2 mtW2_7 (ttW 2 7)) = true := by decide +kernel
theorem dsW2_3_1 : runW (fX4_diagonalSum 0) mtW3_1 (okS2 mtW3_1 (ttW 3 1)) = true := by decide +kernel
theorem dsW2_3_2 : runW (fX4_diagonalSum 0) mtW3_2 (okS2 mtW3_2 (ttW 3 2)) = true := by decide +kernel
theorem dsW2_3_4 : runW (fX4_diagonalSum 0) mtW3_4 (okS2 mtW3_4 (ttW 3 4)) = true := by decide +kernel
theorem dsW2_3_5 : runW (fX4_diagonalSum 0) mtW3_5 (okS2 mtW3_5 (ttW 3 5)) = true := by decide +kernel
theorem dsW2_3_7 : runW (fX4_diagonalSum 0) mtW3_7 (okS2 mtW3_7 (ttW 3 7)) = true := by decide +kernel
theorem dsW2_4_1 : runW (fX4_diagonalSum 0) mtW4_1 (okS2 mtW4_1 (ttW 4 1)) = true := by decide +kernel
theorem dsW2_4_3 : runW (fX4_diagonalSum 0) mtW4_3 (okS2 mtW4_3 (ttW 4 3)) = true := by decide +kernel
theorem dsW2_4_5 : runW (fX4_diagonalSum 0) mtW4_5 (okS2 mtW4_5 (ttW 4 5)) = true := by decide +kernel
theorem dsW2_4_7 : runW (fX4_diagonalSum 0) mtW4_7 (okS2 mtW4_7 (ttW 4 7)) = true := by decide +kernel
theorem dsW2_5_1 : runW (fX4_diagonalSum 0) mtW5_1 (okS2 mtW5_1 (ttW 5 1)) = true := by decide +kernel
theorem dsW2_5_2 : runW (fX4_diagonalSum 0) mtW5_2 (okS2 mtW5_2 (ttW 5 2)) = true := by decide +kernel
theorem dsW2_5_3 : runW (fX4_diagonalSum 0) mtW5_3 (okS2 mtW5_3 (ttW 5 3)) = true := by decide +kernel
theorem dsW2_5_4 : runW (fX4_diagonalSum 0) mtW5_4 (okS2 mtW5_4 (ttW 5 4)) = true := by decide +kernel
theorem dsW2_5_6 : runW (fX4_diagonalSum 0) mtW5_6 (okS2 mtW5_6 (ttW 5 6)) = true := by decide +kernel
theorem dsW2_5_7 : runW (fX4_diagonalSum 0) mtW5_7 (okS2 mtW5_7 (ttW 5 7)) = true := by decide +kernel
theorem dsW2_6_1 : runW (fX4_diagonalSum 0) mtW6_1 (okS2 mtW6_1 (ttW 6 1)) = true := by decide +kernel
theorem dsW2_6_5 : runW (fX4_diagonalSum 0) mtW6_5 (okS2 mtW6_5 (ttW 6 5)) = true := by decide +kernel
theorem dsW2_6_7 : runW (fX4_diagonalSum 0) mtW6_7 (okS2 mtW6_7 (ttW 6 7)) = true := by decide +kernel
theorem dsW2_7_1 : runW (fX4_diagonalSum 0) mtW7_1 (okS2 mtW7_1 (ttW 7 1)) = true := by decide +kernel
theorem dsW2_7_2 : runW (fX4_diagonalSum 0) mtW7_2 (okS2 mtW7_2 (ttW 7 2)) = true := by decide +kernel
theorem dsW2_7_3 : runW (fX4_diagonalSum 0) mtW7_3 (okS2 mtW7_3 (ttW 7 3)) = true := by decide +kernel
theorem dsW2_7_4 : runW (fX4_diagonalSum 0) mtW7_4 (okS2 mtW7_4 (ttW 7 4)) = true := by decide +kernel
theorem dsW2_7_5 : runW (fX4_diagonalSum 0) mtW7_5 (okS2 mtW7_5 (ttW 7 5)) = true := by decide +kernel
theorem dsW2_7_6 : runW (fX4_diagonalSum 0) mtW7_6 (okS2 mtW7_6 (ttW 7 6)) = true := by decide +kernel
theorem dsW2_8_1 : runW (fX4_diagonalSum 0) mtW8_1 (okS2 mtW8_1 (ttW 8 1)) = true := by decide +kernel
theorem dsW2_8_3 : runW (fX4_diagonalSum 0) mtW8_3 (okS2 mtW8_3 (ttW 8 3)) = true := by decide +kernel
theorem dsW2_8_5 : runW (fX4_diagonalSum 0) mtW8_5 (okS2 mtW8_5 (ttW 8 5)) = true := by decide +kernel
theorem dsW2_8_7 : runW (fX4_diagonalSum 0) mtW8_7 (okS2 mtW8_7 (ttW 8 7)) = true := by decide +kernel
theorem dsW2_9_1 : runW (fX4_diagonalSum 0) mtW9_1 (okS2 mtW9_1 (ttW 9 1)) = true := by decide +kernel
theorem dsW2_9_2 : runW (fX4_diagonalSum 0) mtW9_2 (okS2 mtW9_2 (ttW 9 2)) = true := by decide +kernel
theorem dsW2_9_4 : runW (fX4_diagonalSum 0) mtW9_4 (okS2 mtW9_4 (ttW 9 4)) = true := by decide +kernel
theorem dsW2_9_5 : runW (fX4_diagonalSum 0) mtW9_5 (okS2 mtW9_5 (ttW 9 5)) = true := by decide +kernel
theorem dsW2_9_7 : runW (fX4_diagonalSum 0) mtW9_7 (okS2 mtW9_7 (ttW 9 7)) = true := by decide +kernel
theorem dsW2_10_1 : runW (fX4_diagonalSum 0) mtW10_1 (okS2 mtW10_1 (ttW 10 1)) = true := by decide +kernel
theorem dsW2_10_3 : runW (fX4_diagonalSum 0) mtW10_3 (okS2 mtW10_3 (ttW 10 3)) = true := by decide +kernel
theorem dsW2_10_7 : runW (fX4_diagonalSum 0) mtW10_7 (okS2 mtW10_7 (ttW 10 7)) = true := by decide +kernel
theorem dsW2_11_1 : runW (fX4_diagonalSum 0) mtW11_1 (okS2 mtW11_1 (ttW 11 1)) = true := by decide +kernel
theorem dsW2_11_2 : runW (fX4_diagonalSum 0) mtW11_2 (okS2 mtW11_2 (ttW 11 2)) = true := by decide +kernel
theorem dsW2_11_3 : runW (fX4_diagonalSum 0) mtW11_3 (okS2 mtW11_3 (ttW 11 3)) = true := by decide +kernel
theorem dsW2_11_4 : runW (fX4_diagonalSum 0) mtW11_4 (okS2 mtW11_4 (ttW 11 4)) = true := by decide +kernel
theorem dsW2_11_5 : runW (fX4_diagonalSum 0) mtW11_5 (okS2 mtW11_5 (ttW 11 5)) = true := by decide +kernel
theorem dsW2_11_6 : runW (fX4_diagonalSum 0) mtW11_6 (okS2 mtW11_6 (ttW 11 6)) = true := by decide +kernel
theorem dsW2_11_7 : runW (fX4_diagonalSum 0) mtW11_7 (okS2 mtW11_7 (ttW 11 7)) = true := by decide +kernel
theorem dsW2_12_1 : runW (fX4_diagonalSum 0) mtW12_1 (okS2 mtW12_1 (ttW 12 1)) = true := by decide +kernel
theorem dsW2_12_5 : runW (fX4_diagonalSum 0) mtW12_5 (okS2 mtW12_5 (ttW 12 5)) = true := by decide +kernel
theorem dsW2_12_7 : runW (fX4_diagonalSum 0) mtW12_7 (okS2 mtW12_7 (ttW 12 7)) = true := by decide +kernel
theorem dsW2_13_1 : runW (fX4_diagonalSum 0) mtW13_1 (okS2 mtW13_1 (ttW 13 1)) = true := by decide +kernel
theorem dsW2_13_2 : runW (fX4_diagonalSum 0) mtW13_2 (okS2 mtW13_2 (ttW 13 2)) = true := by decide +kernel
theorem dsW2_13_3 : runW (fX4_diagonalSum 0) mtW13_3 (okS2 mtW13_3 (ttW 13 3)) = true := by decide +kernel
theorem dsW2_13_4 : runW (fX4_diagonalSum 0) mtW13_4 (okS2 mtW13_4 (ttW 13 4)) = true := by decide +kernel
theorem dsW2_13_5 : runW (fX4_diagonalSum 0) mtW13_5 (okS2 mtW13_5 (ttW 13 5)) = true := by decide +kernel
theorem dsW2_13_6 : runW (fX4_diagonalSum 0) mtW13_6 (okS2 mtW13_6 (ttW 13 6)) = true := by decide +kernel
theorem dsW2_13_7 : runW (fX4_diagonalSum 0) mtW13_7 (okS2 mtW13_7 (ttW 13 7)) = true := by decide +kernel
theorem dsW2_14_1 : runW (fX4_diagonalSum 0) mtW14_1 (okS2 mtW14_1 (ttW 14 1)) = true := by decide +kernel
theorem dsW2_14_3 : runW (fX4_diagonalSum 0) mtW14_3 (okS2 mtW14_3 (ttW 14 3)) = true := by decide +kernel
theorem dsW2_14_5 : runW (fX4_diagonalSum 0) mtW14_5 (okS2 mtW14_5 (ttW 14 5)) = true := by decide +kernel
theorem dsW2_15_1 : runW (fX4_diagonalSum 0) mtW15_1 (okS2 mtW15_1 (ttW 15 1)) = true := by decide +kernel
theorem dsW2_15_2 : runW (fX4_diagonalSum 0) mtW15_2 (okS2 mtW15_2 (ttW 15 2)) = true := by decide +kernel
theorem dsW2_15_4 : runW (fX4_diagonalSum 0) mtW15_4 (okS2 mtW15_4 (ttW 15 4)) = true := by decide +kernel
theorem dsW2_15_7 : runW (fX4_diagonalSum 0) mtW15_7 (okS2 mtW15_7 (ttW 15 7)) = true := by decide +kernel
theorem dsW2_16_1 : runW (fX4_diagonalSum 0) mtW16_1 (okS2 mtW16_1 (ttW 16 1)) = true := by decide +kernel
theorem dsW2_16_3 : runW (fX4_diagonalSum 0) mtW16_3 (okS2 mtW16_3 (ttW 16 3)) = true := by decide +kernel
theorem dsW2_16_5 : runW (fX4_diagonalSum 0) mtW16_5 (okS2 mtW16_5 (ttW 16 5)) = true := by decide +kernel
theorem dsW2_16_7 : runW (fX4_diagonalSum 0) mtW16_7 (okS2 mtW16_7 (ttW 16 7)) = true := by decide +kernel
theorem dsW2_17_1 : runW (fX4_diagonalSum 0) mtW17_1 (okS2 mtW17_1 (ttW 17 1)) = true := by decide +kernel
theorem dsW2_17_2 : runW (fX4_diagonalSum 0) mtW17_2 (okS2 mtW17_2 (ttW 17 2)) = true := by decide +kernel
theorem dsW2_17_3 : runW (fX4_diagonalSum 0) mtW17_3 (okS2 mtW17_3 (ttW 17 3)) = true := by decide +kernel
theorem dsW2_17_4 : runW (fX4_diagonalSum 0) mtW17_4 (okS2 mtW17_4 (ttW 17 4)) = true := by decide +kernel
theorem dsW2_17_5 : runW (fX4_diagonalSum 0) mtW17_5 (okS2 mtW17_5 (ttW 17 5)) = true := by decide +kernel
theorem dsW2_17_6 : runW (fX4_diagonalSum 0) mtW17_6 (okS2 mtW17_6 (ttW 17 6)) = true := by decide +kernel
theorem dsW2_17_7 : runW (fX4_diagonalSum 0) mtW17_7 (okS2 mtW17_7 (ttW 17 7)) = true := by decide +kernel
theorem dsW2_18_1 : runW (fX4_diagonalSum 0) mtW18_1 (okS2 mtW18_1 (ttW 18 1)) = true := by decide +kernel
theorem dsW2_18_5 : runW (fX4_diagonalSum 0) mtW18_5 (okS2 mtW18_5 (ttW 18 5)) = true := by decide +kernel
theorem dsW2_18_7 : runW (fX4_diagonalSum 0) mtW18_7 (okS2 mtW18_7 (ttW 18 7)) = true := by decide +kernel
theorem dsW2_19_1 : runW (fX4_diagonalSum 0) mtW19_1 (okS2 mtW19_1 (ttW 19 1)) = true := by decide +kernel
theorem dsW2_19_2 : runW (fX4_diagonalSum 0) mtW19_2 (okS2 mtW19_2 (ttW 19 2)) = true := by decide +kernel
theorem dsW2_19_3 : runW (fX4_diagonalSum 0) mtW19_3 (okS2 mtW19_3 (ttW 19 3)) = true := by decide +kernel
theorem dsW2_19_4 : runW (fX4_diagonalSum 0) mtW19_4 (okS2 mtW19_4 (ttW 19 4)) = true := by decide +kernel
theorem dsW2_19_5 : runW (fX4_diagonalSum 0) mtW19_5 (okS2 mtW19_5 (ttW 19 5)) = true := by decide +kernel
theorem dsW2_19_6 : runW (fX4_diagonalSum 0) mtW19_6 (okS2 mtW19_6 (ttW 19 6)) = true := by decide +kernel
theorem dsW2_19_7 : runW (fX4_diagonalSum 0) mtW19_7 (okS2 mtW19_7 (ttW 19 7)) = true := by decide +kernel
theorem dsW2_20_1 : runW (fX4_diagonalSum 0) mtW20_1 (okS2 mtW20_1 (ttW 20 1)) = true := by decide +kernel
theorem dsW2_20_3 : runW (fX4_diagonalSum 0) mtW20_3 (okS2 mtW20_3 (ttW 20 3)) = true := by decide +kernel
theorem dsW2_20_7 : runW (fX4_diagonalSum 0) mtW20_7 (okS2 mtW20_7 (ttW 20 7)) = true := by decide +kernel
theorem dsW2_21_1 : runW (fX4_diagonalSum 0) mtW21_1 (okS2 mtW21_1 (ttW 21 1)) = true := by decide +kernel
theorem dsW2_21_2 : runW (fX4_diagonalSum 0) mtW21_2 (okS2 mtW21_2 (ttW 21 2)) = true := by decide +kernel
theorem dsW2_21_4 : runW (fX4_diagonalSum 0) mtW21_4 (okS2 mtW21_4 (ttW 21 4)) = true := by decide +kernel
theorem dsW2_21_5 : runW (fX4_diagonalSum 0) mtW21_5 (okS2 mtW21_5 (ttW 21 5)) = true := by decide +kernel
theorem dsW2_22_1 : runW (fX4_diagonalSum 0) mtW22_1 (okS2 mtW22_1 (ttW 22 1)) = true := by decide +kernel
theorem dsW2_22_3 : runW (fX4_diagonalSum 0) mtW22_3 (okS2 mtW22_3 (ttW 22 3)) = true := by decide +kernel
theorem dsW2_22_5 : runW (fX4_diagonalSum 0) mtW22_5 (okS2 mtW22_5 (ttW 22 5)) = true := by decide +kernel
theorem dsW2_22_7 : runW (fX4_diagonalSum 0) mtW22_7 (okS2 mtW22_7 (ttW 22 7)) = true := by decide +kernel
theorem dsW2_23_1 : runW (fX4_diagonalSum 0) mtW23_1 (okS2 mtW23_1 (ttW 23 1)) = true := by decide +kernel
theorem dsW2_23_2 : runW (fX4_diagonalSum 0) mtW23_2 (okS2 mtW23_2 (ttW 23 2)) = true := by decide +kernel
theorem dsW2_23_3 : runW (fX4_diagonalSum 0) mtW23_3 (okS2 mtW23_3 (ttW 23 3)) = true := by decide +kernel
theorem dsW2_23_4 : runW (fX4_diagonalSum 0) mtW23_4 (okS2 mtW23_4 (ttW 23 4)) = true := by decide +kernel
theorem dsW2_23_5 : runW (fX4_diagonalSum 0) mtW23_5 (okS2 mtW23_5 (ttW 23 5)) = true := by decide +kernel
theorem dsW2_23_6 : runW (fX4_diagonalSum 0) mtW23_6 (okS2 mtW23_6 (ttW 23 6)) = true := by decide +kernel
theorem dsW2_23_7 : runW (fX4_diagonalSum 0) mtW23_7 (okS2 mtW23_7 (ttW 23 7)) = true := by decide +kernel
theorem dsW2_24_1 : runW (fX4_diagonalSum 0) mtW24_1 (okS2 mtW24_1 (ttW 24 1)) = true := by decide +kernel
theorem dsW2_24_5 : runW (fX4_diagonalSum 0) mtW24_5 (okS2 mtW24_5 (ttW 24 5)) = true := by decide +kernel
theorem dsW2_24_7 : runW (fX4_diagonalSum 0) mtW24_7 (okS2 mtW24_7 (ttW 24 7)) = true := by decide +kernel
theorem dsW2_25_1 : runW (fX4_diagonalSum 0) mtW25_1 (okS2 mtW25_1 (ttW 25 1)) = true := by decide +kernel
theorem dsW2_25_2 : runW (fX4_diagonalSum 0) mtW25_2 (okS2 mtW25_2 (ttW 25 2)) = true := by decide +kernel
theorem dsW2_25_3 : runW (fX4_diagonalSum 0) mtW25_3 (okS2 mtW25_3 (ttW 25 3)) = true := by decide +kernel
theorem dsW2_25_4 : runW (fX4_diagonalSum 0) mtW25_4 (okS2 mtW25_4 (ttW 25 4)) = true := by decide +kernel
theorem dsW2_25_6 : runW (fX4_diagonalSum 0) mtW25_6 (okS2 mtW25_6 (ttW 25 6)) = true := by decide +kernel
theorem dsW2_25_7 : runW (fX4_diagonalSum 0) mtW25_7 (okS2 mtW25_7 (ttW 25 7)) = true := by decide +kernel
theorem dsV2_1_1 : runW (fX4_diagonalSum 0) mtV1_1 (okS2 mtV1_1 (ttV 1 1)) = true := by decide +kernel
theorem dsV2_1_2 : runW (fX4_diagonalSum 0) mtV1_2 (okS2 mtV1_2 (ttV 1 2)) = true := by decide +kernel
theorem dsV2_1_3 : runW (fX4_diagonalSum 0) mtV1_3 (okS2 mtV1_3 (ttV 1 3)) = true := by decide +kernel
theorem dsV2_1_4 : runW (fX4_diagonalSum 0) mtV1_4 (okS2 mtV1_4 (ttV 1 4)) = true := by decide +kernel
theorem dsV2_1_5 : runW (fX4_diagonalSum 0) mtV1_5 (okS2 mtV1_5 (ttV 1 5)) = true := by decide +kernel
theorem dsV2_1_6 : runW (fX4_diagonalSum 0) mtV1_6 (okS2 mtV1_6 (ttV 1 6)) = true := by decide +kernel
theorem dsV2_1_7 : runW (fX4_diagonalSum 0) mtV1_7 (okS2 mtV1_7 (ttV 1 7)) = true := by decide +kernel
theorem dsV2_2_1 : runW (fX4_diagonalSum 0) mtV2_1 (okS2 mtV2_1 (ttV 2 1)) = true := by decide +kernel
theorem dsV2_2_3 : runW (fX4_diagonalSum 0) mtV2_3 (okS2 mtV2_3 (ttV 2 3)) = true := by decide +kernel
theorem dsV2_2_5 : runW (fX4_diagonalSum 0) mtV2_5 (okS2 mtV2_5 (ttV 2 5)) = true := by decide +kernel
theorem dsV2_2_7 : runW (fX4_diagonalSum 0) mtV2_7 (okS2 mtV2_7 (ttV 2 7)) = true := by decide +kernel
theorem dsV2_3_1 : runW (fX4_diagonalSum 0) mtV3_1 (okS2 mtV3_1 (ttV 3 1)) = true := by decide +kernel
theorem dsV2_3_2 : runW (fX4_diagonalSum 0) mtV3_2 (okS2 mtV3_2 (ttV 3 2)) = true := by decide +kernel
theorem dsV2_3_4 : runW (fX4_diagonalSum 0) mtV3_4 (okS2 mtV3_4 (ttV 3 4)) = true := by decide +kernel
theorem dsV2_3_5 : runW (fX4_diagonalSum 0) mtV3_5 (okS2 mtV3_5 (ttV 3 5)) = true := by decide +kernel
theorem dsV2_3_7 : runW (fX4_diagonalSum 0) mtV3_7 (okS2 mtV3_7 (ttV 3 7)) = true := by decide +kernel
theorem dsV2_4_1 : runW (fX4_diagonalSum 0) mtV4_1 (okS2 mtV4_1 (ttV 4 1)) = true := by decide +kernel
theorem dsV2_4_3 : runW (fX4_diagonalSum 0) mtV4_3 (okS2 mtV4_3 (ttV 4 3)) = true := by decide +kernel
theorem dsV2_4_5 : runW (fX4_diagonalSum 0) mtV4_5 (okS2 mtV4_5 (ttV 4 5)) = true := by decide +kernel
theorem dsV2_4_7 : runW (fX4_diagonalSum 0) mtV4_7 (okS2 mtV4_7 (ttV 4 7)) = true := by decide +kernel
theorem dsV2_5_1 : runW (fX4_diagonalSum 0) mtV5_1 (okS2 mtV5_1 (ttV 5 1)) = true := by decide +kernel
theorem dsV2_5_2 : runW (fX4_diagonalSum 0) mtV5_2 (okS2 mtV5_2 (ttV 5 2)) = true := by decide +kernel
theorem dsV2_5_3 : runW (fX4_diagonalSum 0) mtV5_3 (okS2 mtV5_3 (ttV 5 3)) = true := by decide +kernel
theorem dsV2_5_4 : runW (fX4_diagonalSum 0) mtV5_4 (okS2 mtV5_4 (ttV 5 4)) = true := by decide +kernel
theorem dsV2_5_6 : runW (fX4_diagonalSum 0) mtV5_6 (okS2 mtV5_6 (ttV 5 6)) = true := by decide +kernel
theorem dsV2_5_7 : runW (fX4_diagonalSum 0) mtV5_7 (okS2 mtV5_7 (ttV 5 7)) = true := by decide +kernel
theorem dsV2_6_1 : runW (fX4_diagonalSum 0) mtV6_1 (okS2 mtV6_1 (ttV 6 1)) = true := by decide +kernel
theorem dsV2_6_5 : runW (fX4_diagonalSum 0) mtV6_5 (okS2 mtV6_5 (ttV 6 5)) = true := by decide +kernel
theorem dsV2_6_7 : runW (fX4_diagonalSum 0) mtV6_7 (okS2 mtV6_7 (ttV 6 7)) = true := by decide +kernel
theorem dsV2_7_1 : runW (fX4_diagonalSum 0) mtV7_1 (okS2 mtV7_1 (ttV 7 1)) = true := by decide +kernel
theorem dsV2_7_2 : runW (fX4_diagonalSum 0) mtV7_2 (okS2 mtV7_2 (ttV 7 2)) = true := by decide +kernel
theorem dsV2_7_3 : runW (fX4_diagonalSum 0) mtV7_3 (okS2 mtV7_3 (ttV 7 3)) = true := by decide +kernel
theorem dsV2_7_4 : runW (fX4_diagonalSum 0) mtV7_4 (okS2 mtV7_4 (ttV 7 4)) = true := by decide +kernel
theorem dsV2_7_5 : runW (fX4_diagonalSum 0) mtV7_5 (okS2 mtV7_5 (ttV 7 5)) = true := by decide +kernel
theorem dsV2_7_6 : runW (fX4_diagonalSum 0) mtV7_6 (okS2 mtV7_6 (ttV 7 6)) = true := by decide +kernel
theorem dsV2_8_1 : runW (fX4_diagonalSum 0) mtV8_1 (okS2 mtV8_1 (ttV 8 1)) = true := by decide +kernel
theorem dsV2_8_3 : runW (fX4_diagonalSum 0) mtV8_3 (okS2 mtV8_3 (ttV 8 3)) = true := by decide +kernel
theorem dsV2_8_5 : runW (fX4_diagonalSum 0) mtV8_5 (okS2 mtV8_5 (ttV 8 5)) = true := by decide +kernel
theorem dsV2_8_7 : runW (fX4_diagonalSum 0) mtV8_7 (okS2 mtV8_7 (ttV 8 7)) = true := by decide +kernel
theorem dsV2_9_1 : runW (fX4_diagonalSum 0) mtV9_1 (okS2 mtV9_1 (ttV 9 1)) = true := by decide +kernel
theorem dsV2_9_2 : runW (fX4_diagonalSum 0) mtV9_2 (okS2 mtV9_2 (ttV 9 2)) = true := by decide +kernel
theorem dsV2_9_4 : runW (fX4_diagonalSum 0) mtV9_4 (okS2 mtV9_4 (ttV 9 4)) = true := by decide +kernel
theorem dsV2_9_5 : runW (fX4_diagonalSum 0) mtV9_5 (okS2 mtV9_5 (ttV 9 5)) = true := by decide +kernel
theorem dsV2_9_7 : runW (fX4_diagonalSum 0) mtV9_7 (okS2 mtV9_7 (ttV 9 7)) = true := by decide +kernel
theorem dsV2_10_1 : runW (fX4_diagonalSum 0) mtV10_1 (okS2 mtV10_1 (ttV 10 1)) = true := by decide +kernel
theorem dsV2_10_3 : runW (fX4_diagonalSum 0) mtV10_3 (okS2 mtV10_3 (ttV 10 3)) = true := by decide +kernel
theorem dsV2_10_7 : runW (fX4_diagonalSum 0) mtV10_7 (okS2 mtV10_7 (ttV 10 7)) = true := by decide +kernel
theorem dsV2_11_1 : runW (fX4_diagonalSum 0) mtV11_1 (okS2 mtV11_1 (ttV 11 1)) = true := by decide +kernel
theorem dsV2_11_2 : runW (fX4_diagonalSum 0) mtV11_2 (okS2 mtV11_2 (ttV 11 2)) = true := by decide +kernel
theorem dsV2_11_3 : runW (fX4_diagonalSum 0) mtV11_3 (okS2 mtV11_3 (ttV 11 3)) = true := by decide +kernel
theorem dsV2_11_4 : runW (fX4_diagonalSum 0) mtV11_4 (okS2 mtV11_4 (ttV 11 4)) = true := by decide +kernel
theorem dsV2_11_5 : runW (fX4_diagonalSum 0) mtV11_5 (okS2 mtV11_5 (ttV 11 5)) = true := by decide +kernel
theorem dsV2_11_6 : runW (fX4_diagonalSum 0) mtV11_6 (okS2 mtV11_6 (ttV 11 6)) = true := by decide +kernel
theorem dsV2_11_7 : runW (fX4_diagonalSum 0) mtV11_7 (okS2 mtV11_7 (ttV 11 7)) = true := by decide +kernel
theorem dsV2_12_1 : runW (fX4_diagonalSum 0) mtV12_1 (okS2 mtV12_1 (ttV 12 1)) = true := by decide +kernel
theorem dsV2_12_5 : runW (fX4_diagonalSum 0) mtV12_5 (okS2 mtV12_5 (ttV 12 5)) = true := by decide +kernel
theorem dsV2_12_7 : runW (fX4_diagonalSum 0) mtV12_7 (okS2 mtV12_7 (ttV 12 7)) = true := by decide +kernel
theorem dsV2_13_1 : runW (fX4_diagonalSum 0) mtV13_1 (okS2 mtV13_1 (ttV 13 1)) = true := by decide +kernel
theorem dsV2_13_2 : runW (fX4_diagonalSum 0) mtV13_2 (okS2 mtV13_2 (ttV 13 2)) = true := by decide +kernel
theorem dsV2_13_3 : runW (fX4_diagonalSum 0) mtV13_3 (okS2 mtV13_3 (ttV 13 3)) = true := by decide +kernel
theorem dsV2_13_4 : runW (fX4_diagonalSum 0) mtV13_4 (okS2 mtV13_4 (ttV 13 4)) = true := by decide +kernel
theorem dsV2_13_5 : runW (fX4_diagonalSum 0) mtV13_5 (okS2 mtV13_5 (ttV 13 5)) = true := by decide +kernel
theorem dsV2_13_6 : runW (fX4_diagonalSum 0) mtV13_6 (okS2 mtV13_6 (ttV 13 6)) = true := by decide +kernel
theorem dsV2_13_7 : runW (fX4_diagonalSum 0) mtV13_7 (okS2 mtV13_7 (ttV 13 7)) = true := by decide +kernel
theorem dsV2_14_1 : runW (fX4_diagonalSum 0) mtV14_1 (okS2 mtV14_1 (ttV 14 1)) = true := by decide +kernel
theorem dsV2_14_3 : runW (fX4_diagonalSum 0) mtV14_3 (okS2 mtV14_3 (ttV 14 3)) = true := by decide +kernel
theorem dsV2_14_5 : runW (fX4_diagonalSum 0) mtV14_5 (okS2 mtV14_5 (ttV 14 5)) = true := by decide +kernel
theorem dsV2_15_1 : runW (fX4_diagonalSum 0) mtV15_1 (okS2 mtV15_1 (ttV 15 1)) = true := by decide +kernel
theorem dsV2_15_2 : runW (fX4_diagonalSum 0) mtV15_2 (okS2 mtV15_2 (ttV 15 2)) = true := by decide +kernel
theorem dsV2_15_4 : runW (fX4_diagonalSum 0) mtV15_4 (okS2 mtV15_4 (ttV 15 4)) = true := by decide +kernel
theorem dsV2_15_7 : runW (fX4_diagonalSum 0) mtV15_7 (okS2 mtV15_7 (ttV 15 7)) = true := by decide +kernel
theorem dsV2_16_1 : runW (fX4_diagonalSum 0) mtV16_1 (okS2 mtV16_1 (ttV 16 1)) = true := by decide +kernel
theorem dsV2_16_3 : runW (fX4_diagonalSum 0) mtV16_3 (okS2 mtV16_3 (ttV 16 3)) = true := by decide +kernel
theorem dsV2_16_5 : runW (fX4_diagonalSum 0) mtV16_5 (okS2 mtV16_5 (ttV 16 5)) = true := by decide +kernel
theorem dsV2_16_7 : runW (fX4_diagonalSum 0) mtV16_7 (okS2 mtV16_7 (ttV 16 7)) = true := by decide +kernel
theorem dsV2_17_1 : runW (fX4_diagonalSum 0) mtV17_1 (okS2 mtV17_1 (ttV 17 1)) = true := by decide +kernel
theorem dsV2_17_2 : runW (fX4_diagonalSum 0) mtV17_2 (okS2 mtV17_2 (ttV 17 2)) = true := by decide +kernel
theorem dsV2_17_3 : runW (fX4_diagonalSum 0) mtV17_3 (okS2 mtV17_3 (ttV 17 3)) = true := by decide +kernel
theorem dsV2_17_4 : runW (fX4_diagonalSum 0) mtV17_4 (okS2 mtV17_4 (ttV 17 4)) = true := by decide +kernel
theorem dsV2_17_5 : runW (fX4_diagonalSum 0) mtV17_5 (okS2 mtV17_5 (ttV 17 5)) = true := by decide +kernel
theorem dsV2_17_6 : runW (fX4_diagonalSum 0) mtV17_6 (okS2 mtV17_6 (ttV 17 6)) = true := by decide +kernel
theorem dsV2_17_7 : runW (fX4_diagonalSum 0) mtV17_7 (okS2 mtV17_7 (ttV 17 7)) = true := by decide +kernel
theorem dsV2_18_1 : runW (fX4_diagonalSum 0) mtV18_1 (okS2 mtV18_1 (ttV 18 1)) = true := by decide +kernel
theorem dsV2_18_5 : runW (fX4_diagonalSum 0) mtV18_5 (okS2 mtV18_5 (ttV 18 5)) = true := by decide +kernel
theorem dsV2_18_7 : runW (fX4_diagonalSum 0) mtV18_7 (okS2 mtV18_7 (ttV 18 7)) = true := by decide +kernel
theorem dsV2_19_1 : runW (fX4_diagonalSum 0) mtV19_1 (okS2 mtV19_1 (ttV 19 1)) = true := by decide +kernel
theorem dsV2_19_2 : runW (fX4_diagonalSum 0) mtV19_2 (okS2 mtV19_2 (ttV 19 2)) = true := by decide +kernel
theorem dsV2_19_3 : runW (fX4_diagonalSum 0) mtV19_3 (okS2 mtV19_3 (ttV 19 3)) = true := by decide +kernel
theorem dsV2_19_4 : runW (fX4_diagonalSum 0) mtV19_4 (okS2 mtV19_4 (ttV 19 4)) = true := by decide +kernel
theorem dsV2_19_5 : runW (fX4_diagonalSum 0) mtV19_5 (okS2 mtV19_5 (ttV 19 5)) = true := by decide +kernel
theorem dsV2_19_6 : runW (fX4_diagonalSum 0) mtV19_6 (okS2 mtV19_6 (ttV 19 6)) = true := by decide +kernel
theorem dsV2_19_7 : runW (fX4_diagonalSum 0) mtV19_7 (okS2 mtV19_7 (ttV 19 7)) = true := by decide +kernel
theorem dsV2_20_1 : runW (fX4_diagonalSum 0) mtV20_1 (okS2 mtV20_1 (ttV 20 1)) = true := by decide +kernel
theorem dsV2_20_3 : runW (fX4_diagonalSum 0) mtV20_3 (okS2 mtV20_3 (ttV 20 3)) = true := by decide +kernel
theorem dsV2_20_7 : runW (fX4_diagonalSum 0) mtV20_7 (okS2 mtV20_7 (ttV 20 7)) = true := by decide +kernel
theorem dsV2_21_1 : runW (fX4_diagonalSum 0) mtV21_1 (okS2 mtV21_1 (ttV 21 1)) = true := by decide +kernel
theorem dsV2_21_2 : runW (fX4_diagonalSum 0) mtV21_2 (okS2 mtV21_2 (ttV 21 2)) = true := by decide +kernel
theorem dsV2_21_4 : runW (fX4_diagonalSum 0) mtV21_4 (okS2 mtV21_4 (ttV 21 4)) = true := by decide +kernel
theorem dsV2_21_5 : runW (fX4_diagonalSum 0) mtV21_5 (okS2 mtV21_5 (ttV 21 5)) = true := by decide +kernel
theorem dsV2_22_1 : runW (fX4_diagonalSum 0) mtV22_1 (okS2 mtV22_1 (ttV 22 1)) = true := by decide +kernel
theorem dsV2_22_3 : runW (fX4_diagonalSum 0) mtV22_3 (okS2 mtV22_3 (ttV 22 3)) = true := by decide +kernel
theorem dsV2_22_5 : runW (fX4_diagonalSum 0) mtV22_5 (okS2 mtV22_5 (ttV 22 5)) = true := by decide +kernel
theorem dsV2_22_7 : runW (fX4_diagonalSum 0) mtV22_7 (okS2 mtV22_7 (ttV 22 7)) = true := by decide +kernel
theorem dsV2_23_1 : runW (fX4_diagonalSum 0) mtV23_1 (okS2 mtV23_1 (ttV 23 1)) = true := by decide +kernel
theorem dsV2_23_2 : runW (fX4_diagonalSum 0) mtV23_2 (okS2 mtV23_2 (ttV 23 2)) = true := by decide +kernel
theorem dsV2_23_3 : runW (fX4_diagonalSum 0) mtV23_3 (okS2 mtV23_3 (ttV 23 3)) = true := by decide +kernel
theorem dsV2_23_4 : runW (fX4_diagonalSum 0) mtV23_4 (okS2 mtV23_4 (ttV 23 4)) = true := by decide +kernel
theorem dsV2_23_5 : runW (fX4_diagonalSum 0) mtV23_5 (okS2 mtV23_5 (ttV 23 5)) = true := by decide +kernel
theorem dsV2_23_6 : runW (fX4_diagonalSum 0) mtV23_6 (okS2 mtV23_6 (ttV 23 6)) = true := by decide +kernel
theorem dsV2_23_7 : runW (fX4_diagonalSum 0) mtV23_7 (okS2 mtV23_7 (ttV 23 7)) = true := by decide +kernel
theorem dsV2_24_1 : runW (fX4_diagonalSum 0) mtV24_1 (okS2 mtV24_1 (ttV 24 1)) = true := by decide +kernel
theorem dsV2_24_5 : runW (fX4_diagonalSum 0) mtV24_5 (okS2 mtV24_5 (ttV 24 5)) = true := by decide +kernel
theorem dsV2_24_7 : runW (fX4_diagonalSum 0) mtV24_7 (okS2 mtV24_7 (ttV 24 7)) = true := by decide +kernel
theorem dsV2_25_1 : runW (fX4_diagonalSum 0) mtV25_1 (okS2 mtV25_1 (ttV 25 1)) = true := by decide +kernel
theorem dsV2_25_2 : runW (fX4_diagonalSum 0) mtV25_2 (okS2 mtV25_2 (ttV 25 2)) = true := by decide +kernel
theorem dsV2_25_3 : runW (fX4_diagonalSum 0) mtV25_3 (okS2 mtV25_3 (ttV 25 3)) = true := by decide +kernel
theorem dsV2_25_4 : runW (fX4_diagonalSum 0) mtV25_4 (okS2 mtV25_4 (ttV 25 4)) = true := by decide +kernel
theorem dsV2_25_6 : runW (fX4_diagonalSum 0) mtV25_6 (okS2 mtV25_6 (ttV 25 6)) = true := by decide +kernel
theorem dsV2_25_7 : runW (fX4_diagonalSum 0) mtV25_7 (okS2 mtV25_7 (ttV 25 7)) = true := by decide +kernel
theorem mul2_1_1 : allN 17 (fun v => runW (fX4_multiplicity 0 (vI v)) VR1_1 (okG2 1 1 v)) = true := by decide +kernel
theorem mul2_1_2 : allN 17 (fun v => runW (fX4_multiplicity 0 (vI v)) VR1_2 (okG2 1 2 v)) = true := by decide +kernel
theorem mul2_1_3 : allN 17 (fun v => runW (fX4_multiplicity 0 (vI v)) VR1_3 (okG2 1 3 v)) = true := by decide +kernel
theorem mul2_1_4 : allN 17 (fun v => runW (fX4_multiplicity 0 (vI v)) VR1_4 (okG2 1 4 v)) = true := by decide +kernel
theorem mul2_1_5 : allN 17 (fun v => runW (fX4_multiplicity 0 (vI v)) VR1_5 (okG2 1 5 v)) = true := by decide +kernel
theorem mul2_1_6 : allN 17 (fun v => runW (fX4_multiplicity 0 (vI v)) VR1_6 (okG2 1 6 v)) = true := by decide +kernel
theorem mul2_1_7 : allN 17 (fun v => runW (fX4_multiplicity 0 (vI v)) VR1_7 (okG2 1 7 v)) = true := by decide +kernel
theorem mul2_2_1 : allN 17 (fun v => runW (fX4_multiplicity 0 (vI v)) VR2_1 (okG2 2 1 v)) = true := by decide +kernel
theorem mul2_2_3 : allN 17 (fun v => runW (fX4_multiplicity 0 (vI v)) VR2_3 (okG2 2 3 v)) = true := by decide +kernel
theorem mul2_2_5 : allN 17 (fun v => runW (fX4_multiplicity 0 (vI v)) VR2_5 (okG2 2 5 v)) = true := by decide +kernel
theorem mul2_2_7 : allN 17 (fun v => runW (fX4_multiplicity 0 (vI v)) VR2_7 (okG2 2 7 v)) = true := by decide +kernel
theorem mul2_3_1 : allN 17 (fun v => runW (fX4_multiplicity 0 (vI v)) VR3_1 (okG2 3 1 v)) = true := by decide +kernel
theorem mul2_3_2 : allN 17 (fun v => runW (fX4_multiplicity 0 (vI v)) VR3_2 (okG2 3 2 v)) = true := by decide +kernel
theorem mul2_3_4 : allN 17 (fun v => runW (fX4_multiplicity 0 (vI v)) VR3_4 (okG2 3 4 v)) = true := by decide +kernel
theorem mul2_3_5 : allN 17 (fun v => runW (fX4_multiplicity 0 (vI v)) VR3_5 (okG2 3 5 v)) = true := by decide +kernel
theorem mul2_3_7 : allN 17 (fun v => runW (fX4_multiplicity 0 (vI v)) VR3_7 (okG2 3 7 v)) = true := by decide +kernel
theorem mul2_4_1 : allN 17 (fun v => runW (fX4_multiplicity 0 (vI v)) VR4_1 (okG2 4 1 v)) = true := by decide +kernel
theorem mul2_4_3 : allN 17 (fun v => runW (fX4_multiplicity 0 (vI v)) VR4_3 (okG2 4 3 v)) = true := by decide +kernel
theorem mul2_4_5 : allN 17 (fun v => runW (fX4_multiplicity 0 (vI v)) VR4_5 (okG2 4 5 v)) = true := by decide +kernel
theorem mul2_4_7 : allN 17 (fun v => runW (fX4_multiplicity 0 (vI v)) VR4_7 (okG2 4 7 v)) = true := by decide +kernel
theorem mul2_5_1 : allN 17 (fun v => runW (fX4_multiplicity 0 (vI v)) VR5_1 (okG2 5 1 v)) = true := by decide +kernel
theorem mul2_5_2 : allN 17 (fun v => runW (fX4_multiplicity 0 (vI v)) VR5_2 (okG2 5 2 v)) = true := by decide +kernel
theorem mul2_5_3 : allN 17 (fun v => runW (fX4_multiplicity 0 (vI v)) VR5_3 (okG2 5 3 v)) = true := by decide +kernel
theorem mul2_5_4 : allN 17 (fun v => runW (fX4_multiplicity 0 (vI v)) VR5_4 (okG2 5 4 v)) = true := by decide +kernel
theorem mul2_5_6 : allN 17 (fun v => runW (fX4_multiplicity 0 (vI v)) VR5_6 (okG2 5 6 v)) = true := by decide +kernel
theorem mul2_5_7 : allN 17 (fun v => runW (fX4_multiplicity 0 (vI v)) VR5_7 (okG2 5 7 v)) = true := by decide +kernel
theorem mul2_6_1 : allN 17 (fun v => runW (fX4_multiplicity 0 (vI v)) VR6_1 (okG2 6 1 v)) = true := by decide +kernel
theorem mul2_6_5 : allN 17 (fun v => runW (fX4_multiplicity 0 (vI v)) VR6_5 (okG2 6 5 v)) = true := by decide +kernel
theorem mul2_6_7 : allN 17 (fun v => runW (fX4_multiplicity 0 (vI v)) VR6_7 (okG2 6 7 v)) = true := by decide +kernel
theorem mul2_7_1 : allN 17 (fun v => runW (fX4_multiplicity 0 (vI v)) VR7_1 (okG2 7 1 v)) = true := by decide +kernel
theorem mul2_7_2 : allN 17 (fun v => runW (fX4_multiplicity 0 (vI v)) VR7_2 (okG2 7 2 v)) = true := by decide +kernel
theorem mul2_7_3 : allN 17 (fun v => runW (fX4_multiplicity 0 (vI v)) VR7_3 (okG2 7 3 v)) = true := by decide +kernel
theorem mul2_7_4 : allN 17 (fun v => runW (fX4_multiplicity 0 (vI v)) VR7_4 (okG2 7 4 v)) = true := by decide +kernel
theorem mul2_7_5 : allN 17 (fun v => runW (fX4_multiplicity 0 (vI v)) VR7_5 (okG2 7 5 v)) = true := by decide +kernel
theorem mul2_7_6 : allN 17 (fun v => runW (fX4_multiplicity 0 (vI v)) VR7_6 (okG2 7 6 v)) = true := by decide +kernel
theorem mul2_8_1 : allN 17 (fun v => runW (fX4_multiplicity 0 (vI v)) VR8_1 (okG2 8 1 v)) = true := by decide +kernel
theorem mul2_8_3 : allN 17 (fun v => runW (fX4_multiplicity 0 (vI v)) VR8_3 (okG2 8 3 v)) = true := by decide +kernel
theorem mul2_8_5 : allN 17 (fun v => runW (fX4_multiplicity 0 (vI v)) VR8_5 (okG2 8 5 v)) = true := by decide +kernel
theorem mul2_8_7 : allN 17 (fun v => runW (fX4_multiplicity 0 (vI v)) VR8_7 (okG2 8 7 v)) = true := by decide +kernel
theorem mul2_9_1 : allN 17 (fun v => runW (fX4_multiplicity 0 (vI v)) VR9_1 (okG2 9 1 v)) = true := by decide +kernel
theorem mul2_9_2 : allN 17 (fun v => runW (fX4_multiplicity 0 (vI v)) VR9_2 (okG2 9 2 v)) = true := by decide +kernel
theorem mul2_9_4 : allN 17 (fun v => runW (fX4_multiplicity 0 (vI v)) VR9_4 (okG2 9 4 v)) = true := by decide +kernel
theorem mul2_9_5 : allN 17 (fun v => runW (fX4_multiplicity 0 (vI v)) VR9_5 (okG2 9 5 v)) = true := by decide +kernel
theorem mul2_9_7 : allN 17 (fun v => runW (fX4_multiplicity 0 (vI v)) VR9_7 (okG2 9 7 v)) = true := by decide +kernel
theorem mul2_10_1 : allN 17 (fun v => runW (fX4_multiplicity 0 (vI v)) VR10_1 (okG2 10 1 v)) = true := by decide +kernel
theorem mul2_10_3 : allN 17 (fun v => runW (fX4_multiplicity 0 (vI v)) VR10_3 (okG2 10 3 v)) = true := by decide +kernel
theorem mul2_10_7 : allN 17 (fun v => runW (fX4_multiplicity 0 (vI v)) VR10_7 (okG2 10 7 v)) = true := by decide +kernel
theorem mul2_11_1 : allN 17 (fun v => runW (fX4_multiplicity 0 (vI v)) VR11_1 (okG2 11 1 v)) = true := by decide +kernel
theorem mul2_11_2 : allN 17 (fun v => runW (fX4_multiplicity 0 (vI v)) VR11_2 (okG2 11 2 v)) = true := by decide +kernel
theorem mul2_11_3 : allN 17 (fun v => runW (fX4_multiplicity 0 (vI v)) VR11_3 (okG2 11 3 v)) = true := by decide +kernel
theorem mul2_11_4 : allN 17 (fun v => runW (fX4_multiplicity 0 (vI v)) VR11_4 (okG2 11 4 v)) = true := by decide +kernel
theorem mul2_11_5 : allN 17 (fun v => runW (fX4_multiplicity 0 (vI v)) VR11_5 (okG2 11 5 v)) = true := by decide +kernel
theorem mul2_11_6 : allN 17 (fun v => runW (fX4_multiplicity 0 (vI v)) VR11_6 (okG2 11 6 v)) = true := by decide +kernel
theorem mul2_11_7 : allN 17 (fun v => runW (fX4_multiplicity 0 (vI v)) VR11_7 (okG2 11 7 v)) = true := by decide +kernel
theorem mul2_12_1 : allN 17 (fun v => runW (fX4_multiplicity 0 (vI v)) VR12_1 (okG2 12 1 v)) = true := by decide +kernel
theorem mul2_12_5 : allN 17 (fun v => runW (fX4_multiplicity 0 (vI v)) VR12_5 (okG2 12 5 v)) = true := by decide +kernel
theorem mul2_12_7 : allN 17 (fun v => runW (fX4_multiplicity 0 (vI v)) VR12_7 (okG2 12 7 v)) = true := by decide +kernel
theorem mul2_13_1 : allN 17 (fun v => runW (fX4_multiplicity 0 (vI v)) VR13_1 (okG2 13 1 v)) = true := by decide +kernel
theorem mul2_13_2 : allN 17 (fun v => runW (fX4_multiplicity 0 (vI v)) VR13_2 (okG2 13 2 v)) = true := by decide +kernel
theorem mul2_13_3 : allN 17 (fun v => runW (fX4_multiplicity 0 (vI v)) VR13_3 (okG2 13 3 v)) = true := by decide +kernel
theorem mul2_13_4 : allN 17 (fun v => runW (fX4_multiplicity 0 (vI v)) VR13_4 (okG2 13 4 v)) = true := by decide +kernel
theorem mul2_13_5 : allN 17 (fun v => runW (fX4_multiplicity 0 (vI v)) VR13_5 (okG2 13 5 v)) = true := by decide +kernel
theorem mul2_13_6 : allN 17 (fun v => runW (fX4_multiplicity 0 (vI v)) VR13_6 (okG2 13 6 v)) = true := by decide +kernel
theorem mul2_13_7 : allN 17 (fun v => runW (fX4_multiplicity 0 (vI v)) VR13_7 (okG2 13 7 v)) = true := by decide +kernel
theorem mul2_14_1 : allN 17 (fun v => runW (fX4_multiplicity 0 (vI v)) VR14_1 (okG2 14 1 v)) = true := by decide +kernel
theorem mul2_14_3 : allN 17 (fun v => runW (fX4_multiplicity 0 (vI v)) VR14_3 (okG2 14 3 v)) = true := by decide +kernel
theorem mul2_14_5 : allN 17 (fun v => runW (fX4_multiplicity 0 (vI v)) VR14_5 (okG2 14 5 v)) = true := by decide +kernel
theorem mul2_15_1 : allN 17 (fun v => runW (fX4_multiplicity 0 (vI v)) VR15_1 (okG2 15 1 v)) = true := by decide +kernel
theorem mul2_15_2 : allN 17 (fun v => runW (fX4_multiplicity 0 (vI v)) VR15_2 (okG2 15 2 v)) = true := by decide +kernel
theorem mul2_15_4 : allN 17 (fun v => runW (fX4_multiplicity 0 (vI v)) VR15_4 (okG2 15 4 v)) = true := by decide +kernel
theorem mul2_15_7 : allN 17 (fun v => runW (fX4_multiplicity 0 (vI v)) VR15_7 (okG2 15 7 v)) = true := by decide +kernel
theorem mul2_16_1 : allN 17 (fun v => runW (fX4_multiplicity 0 (vI v)) VR16_1 (okG2 16 1 v)) = true := by decide +kernel
theorem mul2_16_3 : allN 17 (fun v => runW (fX4_multiplicity 0 (vI v)) VR16_3 (okG2 16 3 v)) = true := by decide +kernel
theorem mul2_16_5 : allN 17 (fun v => runW (fX4_multiplicity 0 (vI v)) VR16_5 (okG2 16 5 v)) = true := by decide +kernel
theorem mul2_16_7 : allN 17 (fun v => runW (fX4_multiplicity 0 (vI v)) VR16_7 (okG2 16 7 v)) = true := by decide +kernel
theorem mul2_17_1 : allN 17 (fun v => runW (fX4_multiplicity 0 (vI v)) VR17_1 (okG2 17 1 v)) = true := by decide +kernel
theorem mul2_17_2 : allN 17 (fun v => runW (fX4_multiplicity 0 (vI v)) VR17_2 (okG2 17 2 v)) = true := by decide +kernel
theorem mul2_17_3 : allN 17 (fun v => runW (fX4_multiplicity 0 (vI v)) VR17_3 (okG2 17 3 v)) = true := by decide +kernel
theorem mul2_17_4 : allN 17 (fun v => runW (fX4_multiplicity 0 (vI v)) VR17_4 (okG2 17 4 v)) = true := by decide +kernel
theorem mul2_17_5 : allN 17 (fun v => runW (fX4_multiplicity 0 (vI v)) VR17_5 (okG2 17 5 v)) = true := by decide +kernel
theorem mul2_17_6 : allN 17 (fun v => runW (fX4_multiplicity 0 (vI v)) VR17_6 (okG2 17 6 v)) = true := by decide +kernel
theorem mul2_17_7 : allN 17 (fun v => runW (fX4_multiplicity 0 (vI v)) VR17_7 (okG2 17 7 v)) = true := by decide +kernel
theorem mul2_18_1 : allN 17 (fun v => runW (fX4_multiplicity 0 (vI v)) VR18_1 (okG2 18 1 v)) = true := by decide +kernel
theorem mul2_18_5 : allN 17 (fun v => runW (fX4_multiplicity 0 (vI v)) VR18_5 (okG2 18 5 v)) = true := by decide +kernel
theorem mul2_18_7 : allN 17 (fun v => runW (fX4_multiplicity 0 (vI v)) VR18_7 (okG2 18 7 v)) = true := by decide +kernel
theorem mul2_19_1 : allN 17 (fun v => runW (fX4_multiplicity 0 (vI v)) VR19_1 (okG2 19 1 v)) = true := by decide +kernel
theorem mul2_19_2 : allN 17 (fun v => runW (fX4_multiplicity 0 (vI v)) VR19_2 (okG2 19 2 v)) = true := by decide +kernel
theorem mul2_19_3 : allN 17 (fun v => runW (fX4_multiplicity 0 (vI v)) VR19_3 (okG2 19 3 v)) = true := by decide +kernel
theorem mul2_19_4 : allN 17 (fun v => runW (fX4_multiplicity 0 (vI v)) VR19_4 (okG2 19 4 v)) = true := by decide +kernel
theorem mul2_19_5 : allN 17 (fun v => runW (fX4_multiplicity 0 (vI v)) VR19_5 (okG2 19 5 v)) = true := by decide +kernel
theorem mul2_19_6 : allN 17 (fun v => runW (fX4_multiplicity 0 (vI v)) VR19_6 (okG2 19 6 v)) = true := by decide +kernel
theorem mul2_19_7 : allN 17 (fun v => runW (fX4_multiplicity 0 (vI v)) VR19_7 (okG2 19 7 v)) = true := by decide +kernel
theorem mul2_20_1 : allN 17 (fun v => runW (fX4_multiplicity 0 (vI v)) VR20_1 (okG2 20 1 v)) = true := by decide +kernel
theorem mul2_20_3 : allN 17 (fun v => runW (fX4_multiplicity 0 (vI v)) VR20_3 (okG2 20 3 v)) = true := by decide +kernel
theorem mul2_20_7 : allN 17 (fun v => runW (fX4_multiplicity 0 (vI v)) VR20_7 (okG2 20 7 v)) = true := by decide +kernel
theorem mul2_21_1 : allN 17 (fun v => runW (fX4_multiplicity 0 (vI v)) VR21_1 (okG2 21 1 v)) = true := by decide +kernel
theorem mul2_21_2 : allN 17 (fun v => runW (fX4_multiplicity 0 (vI v)) VR21_2 (okG2 21 2 v)) = true := by decide +kernel
theorem mul2_21_4 : allN 17 (fun v => runW (fX4_multiplicity 0 (vI v)) VR21_4 (okG2 21 4 v)) = true := by decide +kernel
theorem mul2_21_5 : allN 17 (fun v => runW (fX4_multiplicity 0 (vI v)) VR21_5 (okG2 21 5 v)) = true := by decide +kernel
theorem mul2_22_1 : allN 17 (fun v => runW (fX4_multiplicity 0 (vI v)) VR22_1 (okG2 22 1 v)) = true := by decide +kernel
theorem mul2_22_3 : allN 17 (fun v => runW (fX4_multiplicity 0 (vI v)) VR22_3 (okG2 22 3 v)) = true := by decide +kernel
theorem mul2_22_5 : allN 17 (fun v => runW (fX4_multiplicity 0 (vI v)) VR22_5 (okG2 22 5 v)) = true := by decide +kernel
theorem mul2_22_7 : allN 17 (fun v => runW (fX4_multiplicity 0 (vI v)) VR22_7 (okG2 22 7 v)) = true := by decide +kernel
theorem mul2_23_1 : allN 17 (fun v => runW (fX4_multiplicity 0 (vI v)) VR23_1 (okG2 23 1 v)) = true := by decide +kernel
theorem mul2_23_2 : allN 17 (fun v => runW (fX4_multiplicity 0 (vI v)) VR23_2 (okG2 23 2 v)) = true := by decide +kernel
theorem mul2_23_3 : allN 17 (fun v => runW (fX4_multiplicity 0 (vI v)) VR23_3 (okG2 23 3 v)) = true := by decide +kernel
theorem mul2_23_4 : allN 17 (fun v => runW (fX4_multiplicity 0 (vI v)) VR23_4 (okG2 23 4 v)) = true := by decide +kernel
theorem mul2_23_5 : allN 17 (fun v => runW (fX4_multiplicity 0 (vI v)) VR23_5 (okG2 23 5 v)) = true := by decide +kernel
theorem mul2_23_6 : allN 17 (fun v => runW (fX4_multiplicity 0 (vI v)) VR23_6 (okG2 23 6 v)) = true := by decide +kernel
theorem mul2_23_7 : allN 17 (fun v => runW (fX4_multiplicity 0 (vI v)) VR23_7 (okG2 23 7 v)) = true := by decide +kernel
theorem mul2_24_1 : allN 17 (fun v => runW (fX4_multiplicity 0 (vI v)) VR24_1 (okG2 24 1 v)) = true := by decide +kernel
theorem mul2_24_5 : allN 17 (fun v => runW (fX4_multiplicity 0 (vI v)) VR24_5 (okG2 24 5 v)) = true := by decide +kernel
theorem mul2_24_7 : allN 17 (fun v => runW (fX4_multiplicity 0 (vI v)) VR24_7 (okG2 24 7 v)) = true := by decide +kernel
theorem mul2_25_1 : allN 17 (fun v => runW (fX4_multiplicity 0 (vI v)) VR25_1 (okG2 25 1 v)) = true := by decide +kernel
theorem mul2_25_2 : allN 17 (fun v => runW (fX4_multiplicity 0 (vI v)) VR25_2 (okG2 25 2 v)) = true := by decide +kernel
theorem mul2_25_3 : allN 17 (fun v => runW (fX4_multiplicity 0 (vI v)) VR25_3 (okG2 25 3 v)) = true := by decide +kernel
theorem mul2_25_4 : allN 17 (fun v => runW (fX4_multiplicity 0 (vI v)) VR25_4 (okG2 25 4 v)) = true := by decide +kernel
theorem mul2_25_6 : allN 17 (fun v => runW (fX4_multiplicity 0 (vI v)) VR25_6 (okG2 25 6 v)) = true := by decide +kernel
theorem mul2_25_7 : allN 17 (fun v => runW (fX4_multiplicity 0 (vI v)) VR25_7 (okG2 25 7 v)) = true := by decide +kernel

theorem pla_run1 : runW (fX10_plain 0) QM1 (okP 1) = true := by decide +kernel
theorem pla_run2 : runW (fX10_plain 0) QM2 (okP 2) = true := by decide +kernel
theorem pla_run3 : runW (fX10_plain 0) QM3 (okP 3) = true := by decide +kernel
theorem pla_run4 : runW (fX10_plain 0) QM4 (okP 4) = true := by decide +kernel
theorem pla_run5 : runW (fX10_plain 0) QM5 (okP 5) = true := by decide +kernel
theorem pla_run6 : runW (fX10_plain 0) QM6 (okP 6) = true := by decide +kernel
theorem pla_run7 : runW (fX10_plain 0) QM7 (okP 7) = true := by decide +kernel
theorem pla_run8 : runW (fX10_plain 0) QM8 (okP 8) = true := by decide +kernel
theorem pla_run9 : runW (fX10_plain 0) QM9 (okP 9) = true := by decide +kernel
theorem pla_run10 : runW (fX10_plain 0) QM10 (okP 10) = true := by decide +kernel
theorem pla_run11 : runW (fX10_plain 0) QM11 (okP 11) = true := by decide +kernel
theorem pla_run12 : runW (fX10_plain 0) QM12 (okP 12) = true := by decide +kernel
theorem pla_run13 : runW (fX10_plain 0) QM13 (okP 13) = true := by decide +kernel
theorem pla_run14 : runW (fX10_plain 0) QM14 (okP 14) = true := by decide +kernel
theorem pla_run15 : runW (fX10_plain 0) QM15 (okP 15) = true := by decide +kernel
theorem pla_run16 : runW (fX10_plain 0) QM16 (okP 16) = true := by decide +kernel
theorem pla_run17 : runW (fX10_plain 0) QM17 (okP 17) = true := by decide +kernel
theorem pla_run18 : runW (fX10_plain 0) QM18 (okP 18) = true := by decide +kernel
theorem pla_run19 : runW (fX10_plain 0) QM19 (okP 19) = true := by decide +kernel
theorem pla_run20 : runW (fX10_plain 0) QM20 (okP 20) = true := by decide +kernel
theorem pla_run21 : runW (fX10_plain 0) QM21 (okP 21) = true := by decide +kernel
theorem pla_run22 : runW (fX10_plain 0) QM22 (okP 22) = true := by decide +kernel
theorem pla_run23 : runW (fX10_plain 0) QM23 (okP 23) = true := by decide +kernel
theorem pla_run24 : runW (fX10_plain 0) QM24 (okP 24) = true := by decide +kernel
theorem pla_run25 : runW (fX10_plain 0) QM25 (okP 25) = true := by decide +kernel
theorem rot_run1_1 : allN 17 (fun v => runW (fX10_rootOf 0 (vI v)) QNb1_1 (okN 1 1 v)) = true := by decide +kernel
theorem rot_run1_2 : allN 17 (fun v => runW (fX10_rootOf 0 (vI v)) QNb1_2 (okN 1 2 v)) = true := by decide +kernel
theorem rot_run1_3 : allN 17 (fun v => runW (fX10_rootOf 0 (vI v)) QNb1_3 (okN 1 3 v)) = true := by decide +kernel
theorem rot_run1_4 : allN 17 (fun v => runW (fX10_rootOf 0 (vI v)) QNb1_4 (okN 1 4 v)) = true := by decide +kernel
theorem rot_run1_5 : allN 17 (fun v => runW (fX10_rootOf 0 (vI v)) QNb1_5 (okN 1 5 v)) = true := by decide +kernel
theorem rot_run1_6 : allN 17 (fun v => runW (fX10_rootOf 0 (vI v)) QNb1_6 (okN 1 6 v)) = true := by decide +kernel
theorem rot_run1_7 : allN 17 (fun v => runW (fX10_rootOf 0 (vI v)) QNb1_7 (okN 1 7 v)) = true := by decide +kernel
theorem rot_run2_1 : allN 17 (fun v => runW (fX10_rootOf 0 (vI v)) QNb2_1 (okN 2 1 v)) = true := by decide +kernel
theorem rot_run2_3 : allN 17 (fun v => runW (fX10_rootOf 0 (vI v)) QNb2_3 (okN 2 3 v)) = true := by decide +kernel
theorem rot_run2_5 : allN 17 (fun v => runW (fX10_rootOf 0 (vI v)) QNb2_5 (okN 2 5 v)) = true := by decide +kernel
theorem rot_run2_7 : allN 17 (fun v => runW (fX10_rootOf 0 (vI v)) QNb2_7 (okN 2 7 v)) = true := by decide +kernel
theorem rot_run3_1 : allN 17 (fun v => runW (fX10_rootOf 0 (vI v)) QNb3_1 (okN 3 1 v)) = true := by decide +kernel
theorem rot_run3_2 : allN 17 (fun v => runW (fX10_rootOf 0 (vI v)) QNb3_2 (okN 3 2 v)) = true := by decide +kernel
theorem rot_run3_4 : allN 17 (fun v => runW (fX10_rootOf 0 (vI v)) QNb3_4 (okN 3 4 v)) = true := by decide +kernel
theorem rot_run3_5 : allN 17 (fun v => runW (fX10_rootOf 0 (vI v)) QNb3_5 (okN 3 5 v)) = true := by decide +kernel
theorem rot_run3_7 : allN 17 (fun v => runW (fX10_rootOf 0 (vI v)) QNb3_7 (okN 3 7 v)) = true := by decide +kernel
theorem rot_run4_1 : allN 17 (fun v => runW (fX10_rootOf 0 (vI v)) QNb4_1 (okN 4 1 v)) = true := by decide +kernel
theorem rot_run4_3 : allN 17 (fun v => runW (fX10_rootOf 0 (vI v)) QNb4_3 (okN 4 3 v)) = true := by decide +kernel
theorem rot_run4_5 : allN 17 (fun v => runW (fX10_rootOf 0 (vI v)) QNb4_5 (okN 4 5 v)) = true := by decide +kernel
theorem rot_run4_7 : allN 17 (fun v => runW (fX10_rootOf 0 (vI v)) QNb4_7 (okN 4 7 v)) = true := by decide +kernel
theorem rot_run5_1 : allN 17 (fun v => runW (fX10_rootOf 0 (vI v)) QNb5_1 (okN 5 1 v)) = true := by decide +kernel
theorem rot_run5_2 : allN 17 (fun v => runW (fX10_rootOf 0 (vI v)) QNb5_2 (okN 5 2 v)) = true := by decide +kernel
theorem rot_run5_3 : allN 17 (fun v => runW (fX10_rootOf 0 (vI v)) QNb5_3 (okN 5 3 v)) = true := by decide +kernel
theorem rot_run5_4 : allN 17 (fun v => runW (fX10_rootOf 0 (vI v)) QNb5_4 (okN 5 4 v)) = true := by decide +kernel
theorem rot_run5_6 : allN 17 (fun v => runW (fX10_rootOf 0 (vI v)) QNb5_6 (okN 5 6 v)) = true := by decide +kernel
theorem rot_run5_7 : allN 17 (fun v => runW (fX10_rootOf 0 (vI v)) QNb5_7 (okN 5 7 v)) = true := by decide +kernel
theorem rot_run6_1 : allN 17 (fun v => runW (fX10_rootOf 0 (vI v)) QNb6_1 (okN 6 1 v)) = true := by decide +kernel
theorem rot_run6_5 : allN 17 (fun v => runW (fX10_rootOf 0 (vI v)) QNb6_5 (okN 6 5 v)) = true := by decide +kernel
theorem rot_run6_7 : allN 17 (fun v => runW (fX10_rootOf 0 (vI v)) QNb6_7 (okN 6 7 v)) = true := by decide +kernel
theorem rot_run7_1 : allN 17 (fun v => runW (fX10_rootOf 0 (vI v)) QNb7_1 (okN 7 1 v)) = true := by decide +kernel
theorem rot_run7_2 : allN 17 (fun v => runW (fX10_rootOf 0 (vI v)) QNb7_2 (okN 7 2 v)) = true := by decide +kernel
theorem rot_run7_3 : allN 17 (fun v => runW (fX10_rootOf 0 (vI v)) QNb7_3 (okN 7 3 v)) = true := by decide +kernel
theorem rot_run7_4 : allN 17 (fun v => runW (fX10_rootOf 0 (vI v)) QNb7_4 (okN 7 4 v)) = true := by decide +kernel
theorem rot_run7_5 : allN 17 (fun v => runW (fX10_rootOf 0 (vI v)) QNb7_5 (okN 7 5 v)) = true := by decide +kernel
theorem rot_run7_6 : allN 17 (fun v => runW (fX10_rootOf 0 (vI v)) QNb7_6 (okN 7 6 v)) = true := by decide +kernel
theorem rot_run8_1 : allN 17 (fun v => runW (fX10_rootOf 0 (vI v)) QNb8_1 (okN 8 1 v)) = true := by decide +kernel
theorem rot_run8_3 : allN 17 (fun v => runW (fX10_rootOf 0 (vI v)) QNb8_3 (okN 8 3 v)) = true := by decide +kernel
theorem rot_run8_5 : allN 17 (fun v => runW (fX10_rootOf 0 (vI v)) QNb8_5 (okN 8 5 v)) = true := by decide +kernel
theorem rot_run8_7 : allN 17 (fun v => runW (fX10_rootOf 0 (vI v)) QNb8_7 (okN 8 7 v)) = true := by decide +kernel
theorem rot_run9_1 : allN 17 (fun v => runW (fX10_rootOf 0 (vI v)) QNb9_1 (okN 9 1 v)) = true := by decide +kernel
theorem rot_run9_2 : allN 17 (fun v => runW (fX10_rootOf 0 (vI v)) QNb9_2 (okN 9 2 v)) = true := by decide +kernel
theorem rot_run9_4 : allN 17 (fun v => runW (fX10_rootOf 0 (vI v)) QNb9_4 (okN 9 4 v)) = true := by decide +kernel
theorem rot_run9_5 : allN 17 (fun v => runW (fX10_rootOf 0 (vI v)) QNb9_5 (okN 9 5 v)) = true := by decide +kernel
theorem rot_run9_7 : allN 17 (fun v => runW (fX10_rootOf 0 (vI v)) QNb9_7 (okN 9 7 v)) = true := by decide +kernel
theorem rot_run10_1 : allN 17 (fun v => runW (fX10_rootOf 0 (vI v)) QNb10_1 (okN 10 1 v)) = true := by decide +kernel
theorem rot_run10_3 : allN 17 (fun v => runW (fX10_rootOf 0 (vI v)) QNb10_3 (okN 10 3 v)) = true := by decide +kernel
theorem rot_run10_7 : allN 17 (fun v => runW (fX10_rootOf 0 (vI v)) QNb10_7 (okN 10 7 v)) = true := by decide +kernel
theorem rot_run11_1 : allN 17 (fun v => runW (fX10_rootOf 0 (vI v)) QNb11_1 (okN 11 1 v)) = true := by decide +kernel
theorem rot_run11_2 : allN 17 (fun v => runW (fX10_rootOf 0 (vI v)) QNb11_2 (okN 11 2 v)) = true := by decide +kernel
theorem rot_run11_3 : allN 17 (fun v => runW (fX10_rootOf 0 (vI v)) QNb11_3 (okN 11 3 v)) = true := by decide +kernel
theorem rot_run11_4 : allN 17 (fun v => runW (fX10_rootOf 0 (vI v)) QNb11_4 (okN 11 4 v)) = true := by decide +kernel
theorem rot_run11_5 : allN 17 (fun v => runW (fX10_rootOf 0 (vI v)) QNb11_5 (okN 11 5 v)) = true := by decide +kernel
theorem rot_run11_6 : allN 17 (fun v => runW (fX10_rootOf 0 (vI v)) QNb11_6 (okN 11 6 v)) = true := by decide +kernel
theorem rot_run11_7 : allN 17 (fun v => runW (fX10_rootOf 0 (vI v)) QNb11_7 (okN 11 7 v)) = true := by decide +kernel
theorem rot_run12_1 : allN 17 (fun v => runW (fX10_rootOf 0 (vI v)) QNb12_1 (okN 12 1 v)) = true := by decide +kernel
theorem rot_run12_5 : allN 17 (fun v => runW (fX10_rootOf 0 (vI v)) QNb12_5 (okN 12 5 v)) = true := by decide +kernel
theorem rot_run12_7 : allN 17 (fun v => runW (fX10_rootOf 0 (vI v)) QNb12_7 (okN 12 7 v)) = true := by decide +kernel
theorem rot_run13_1 : allN 17 (fun v => runW (fX10_rootOf 0 (vI v)) QNb13_1 (okN 13 1 v)) = true := by decide +kernel
theorem rot_run13_2 : allN 17 (fun v => runW (fX10_rootOf 0 (vI v)) QNb13_2 (okN 13 2 v)) = true := by decide +kernel
theorem rot_run13_3 : allN 17 (fun v => runW (fX10_rootOf 0 (vI v)) QNb13_3 (okN 13 3 v)) = true := by decide +kernel
theorem rot_run13_4 : allN 17 (fun v => runW (fX10_rootOf 0 (vI v)) QNb13_4 (okN 13 4 v)) = true := by decide +kernel
theorem rot_run13_5 : allN 17 (fun v => runW (fX10_rootOf 0 (vI v)) QNb13_5 (okN 13 5 v)) = true := by decide +kernel
theorem rot_run13_6 : allN 17 (fun v => runW (fX10_rootOf 0 (vI v)) QNb13_6 (okN 13 6 v)) = true := by decide +kernel
theorem rot_run13_7 : allN 17 (fun v => runW (fX10_rootOf 0 (vI v)) QNb13_7 (okN 13 7 v)) = true := by decide +kernel
theorem rot_run14_1 : allN 17 (fun v => runW (fX10_rootOf 0 (vI v)) QNb14_1 (okN 14 1 v)) = true := by decide +kernel
theorem rot_run14_3 : allN 17 (fun v => runW (fX10_rootOf 0 (vI v)) QNb14_3 (okN 14 3 v)) = true := by decide +kernel
theorem rot_run14_5 : allN 17 (fun v => runW (fX10_rootOf 0 (vI v)) QNb14_5 (okN 14 5 v)) = true := by decide +kernel
theorem rot_run15_1 : allN 17 (fun v => runW (fX10_rootOf 0 (vI v)) QNb15_1 (okN 15 1 v)) = true := by decide +kernel
theorem rot_run15_2 : allN 17 (fun v => runW (fX10_rootOf 0 (vI v)) QNb15_2 (okN 15 2 v)) = true := by decide +kernel
theorem rot_run15_4 : allN 17 (fun v => runW (fX10_rootOf 0 (vI v)) QNb15_4 (okN 15 4 v)) = true := by decide +kernel
theorem rot_run15_7 : allN 17 (fun v => runW (fX10_rootOf 0 (vI v)) QNb15_7 (okN 15 7 v)) = true := by decide +kernel
theorem rot_run16_1 : allN 17 (fun v => runW (fX10_rootOf 0 (vI v)) QNb16_1 (okN 16 1 v)) = true := by decide +kernel
theorem rot_run16_3 : allN 17 (fun v => runW (fX10_rootOf 0 (vI v)) QNb16_3 (okN 16 3 v)) = true := by decide +kernel
theorem rot_run16_5 : allN 17 (fun v => runW (fX10_rootOf 0 (vI v)) QNb16_5 (okN 16 5 v)) = true := by decide +kernel
theorem rot_run16_7 : allN 17 (fun v => runW (fX10_rootOf 0 (vI v)) QNb16_7 (okN 16 7 v)) = true := by decide +kernel
theorem rot_run17_1 : allN 17 (fun v => runW (fX10_rootOf 0 (vI v)) QNb17_1 (okN 17 1 v)) = true := by decide +kernel
theorem rot_run17_2 : allN 17 (fun v => runW (fX10_rootOf 0 (vI v)) QNb17_2 (okN 17 2 v)) = true := by decide +kernel
theorem rot_run17_3 : allN 17 (fun v => runW (fX10_rootOf 0 (vI v)) QNb17_3 (okN 17 3 v)) = true := by decide +kernel
theorem rot_run17_4 : allN 17 (fun v => runW (fX10_rootOf 0 (vI v)) QNb17_4 (okN 17 4 v)) = true := by decide +kernel
theorem rot_run17_5 : allN 17 (fun v => runW (fX10_rootOf 0 (vI v)) QNb17_5 (okN 17 5 v)) = true := by decide +kernel
theorem rot_run17_6 : allN 17 (fun v => runW (fX10_rootOf 0 (vI v)) QNb17_6 (okN 17 6 v)) = true := by decide +kernel
theorem rot_run17_7 : allN 17 (fun v => runW (fX10_rootOf 0 (vI v)) QNb17_7 (okN 17 7 v)) = true := by decide +kernel
theorem rot_run18_1 : allN 17 (fun v => runW (fX10_rootOf 0 (vI v)) QNb18_1 (okN 18 1 v)) = true := by decide +kernel
theorem rot_run18_5 : allN 17 (fun v => runW (fX10_rootOf 0 (vI v)) QNb18_5 (okN 18 5 v)) = true := by decide +kernel
theorem rot_run18_7 : allN 17 (fun v => runW (fX10_rootOf 0 (vI v)) QNb18_7 (okN 18 7 v)) = true := by decide +kernel
theorem rot_run19_1 : allN 17 (fun v => runW (fX10_rootOf 0 (vI v)) QNb19_1 (okN 19 1 v)) = true := by decide +kernel
theorem rot_run19_2 : allN 17 (fun v => runW (fX10_rootOf 0 (vI v)) QNb19_2 (okN 19 2 v)) = true := by decide +kernel
theorem rot_run19_3 : allN 17 (fun v => runW (fX10_rootOf 0 (vI v)) QNb19_3 (okN 19 3 v)) = true := by decide +kernel
theorem rot_run19_4 : allN 17 (fun v => runW (fX10_rootOf 0 (vI v)) QNb19_4 (okN 19 4 v)) = true := by decide +kernel
theorem rot_run19_5 : allN 17 (fun v => runW (fX10_rootOf 0 (vI v)) QNb19_5 (okN 19 5 v)) = true := by decide +kernel
theorem rot_run19_6 : allN 17 (fun v => runW (fX10_rootOf 0 (vI v)) QNb19_6 (okN 19 6 v)) = true := by decide +kernel
theorem rot_run19_7 : allN 17 (fun v => runW (fX10_rootOf 0 (vI v)) QNb19_7 (okN 19 7 v)) = true := by decide +kernel
theorem rot_run20_1 : allN 17 (fun v => runW (fX10_rootOf 0 (vI v)) QNb20_1 (okN 20 1 v)) = true := by decide +kernel
theorem rot_run20_3 : allN 17 (fun v => runW (fX10_rootOf 0 (vI v)) QNb20_3 (okN 20 3 v)) = true := by decide +kernel
theorem rot_run20_7 : allN 17 (fun v => runW (fX10_rootOf 0 (vI v)) QNb20_7 (okN 20 7 v)) = true := by decide +kernel
theorem rot_run21_1 : allN 17 (fun v => runW (fX10_rootOf 0 (vI v)) QNb21_1 (okN 21 1 v)) = true := by decide +kernel
theorem rot_run21_2 : allN 17 (fun v => runW (fX10_rootOf 0 (vI v)) QNb21_2 (okN 21 2 v)) = true := by decide +kernel
theorem rot_run21_4 : allN 17 (fun v => runW (fX10_rootOf 0 (vI v)) QNb21_4 (okN 21 4 v)) = true := by decide +kernel
theorem rot_run21_5 : allN 17 (fun v => runW (fX10_rootOf 0 (vI v)) QNb21_5 (okN 21 5 v)) = true := by decide +kernel
theorem rot_run22_1 : allN 17 (fun v => runW (fX10_rootOf 0 (vI v)) QNb22_1 (okN 22 1 v)) = true := by decide +kernel
theorem rot_run22_3 : allN 17 (fun v => runW (fX10_rootOf 0 (vI v)) QNb22_3 (okN 22 3 v)) = true := by decide +kernel
theorem rot_run22_5 : allN 17 (fun v => runW (fX10_rootOf 0 (vI v)) QNb22_5 (okN 22 5 v)) = true := by decide +kernel
theorem rot_run22_7 : allN 17 (fun v => runW (fX10_rootOf 0 (vI v)) QNb22_7 (okN 22 7 v)) = true := by decide +kernel
theorem rot_run23_1 : allN 17 (fun v => runW (fX10_rootOf 0 (vI v)) QNb23_1 (okN 23 1 v)) = true := by decide +kernel
theorem rot_run23_2 : allN 17 (fun v => runW (fX10_rootOf 0 (vI v)) QNb23_2 (okN 23 2 v)) = true := by decide +kernel
theorem rot_run23_3 : allN 17 (fun v => runW (fX10_rootOf 0 (vI v)) QNb23_3 (okN 23 3 v)) = true := by decide +kernel
theorem rot_run23_4 : allN 17 (fun v => runW (fX10_rootOf 0 (vI v)) QNb23_4 (okN 23 4 v)) = true := by decide +kernel
theorem rot_run23_5 : allN 17 (fun v => runW (fX10_rootOf 0 (vI v)) QNb23_5 (okN 23 5 v)) = true := by decide +kernel
theorem rot_run23_6 : allN 17 (fun v => runW (fX10_rootOf 0 (vI v)) QNb23_6 (okN 23 6 v)) = true := by decide +kernel
theorem rot_run23_7 : allN 17 (fun v => runW (fX10_rootOf 0 (vI v)) QNb23_7 (okN 23 7 v)) = true := by decide +kernel
theorem rot_run24_1 : allN 17 (fun v => runW (fX10_rootOf 0 (vI v)) QNb24_1 (okN 24 1 v)) = true := by decide +kernel
theorem rot_run24_5 : allN 17 (fun v => runW (fX10_rootOf 0 (vI v)) QNb24_5 (okN 24 5 v)) = true := by decide +kernel
theorem rot_run24_7 : allN 17 (fun v => runW (fX10_rootOf 0 (vI v)) QNb24_7 (okN 24 7 v)) = true := by decide +kernel
theorem rot_run25_1 : allN 17 (fun v => runW (fX10_rootOf 0 (vI v)) QNb25_1 (okN 25 1 v)) = true := by decide +kernel
theorem rot_run25_2 : allN 17 (fun v => runW (fX10_rootOf 0 (vI v)) QNb25_2 (okN 25 2 v)) = true := by decide +kernel
theorem rot_run25_3 : allN 17 (fun v => runW (fX10_rootOf 0 (vI v)) QNb25_3 (okN 25 3 v)) = true := by decide +kernel
theorem rot_run25_4 : allN 17 (fun v => runW (fX10_rootOf 0 (vI v)) QNb25_4 (okN 25 4 v)) = true := by decide +kernel
theorem rot_run25_6 : allN 17 (fun v => runW (fX10_rootOf 0 (vI v)) QNb25_6 (okN 25 6 v)) = true := by decide +kernel
theorem rot_run25_7 : allN 17 (fun v => runW (fX10_rootOf 0 (vI v)) QNb25_7 (okN 25 7 v)) = true := by decide +kernel

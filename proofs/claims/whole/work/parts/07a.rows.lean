/-! checks of rows -/
set_option maxRecDepth 100000 in
theorem gk_0_0 : gw_0_0.all (fun q => sm_okb 0 q.1 q.2) = true := by decide +kernel
set_option maxRecDepth 100000 in
theorem gk_0_1 : gw_0_1.all (fun q => sm_okb 0 q.1 q.2) = true := by decide +kernel
set_option maxRecDepth 100000 in
theorem gk_0_2 : gw_0_2.all (fun q => sm_okb 0 q.1 q.2) = true := by decide +kernel
set_option maxRecDepth 100000 in
theorem gk_0_3 : gw_0_3.all (fun q => sm_okb 0 q.1 q.2) = true := by decide +kernel
set_option maxRecDepth 100000 in
theorem gk_0_4 : gw_0_4.all (fun q => sm_okb 0 q.1 q.2) = true := by decide +kernel
set_option maxRecDepth 100000 in
theorem gk_0_5 : gw_0_5.all (fun q => sm_okb 0 q.1 q.2) = true := by decide +kernel
set_option maxRecDepth 100000 in
theorem gk_0_6 : gw_0_6.all (fun q => sm_okb 0 q.1 q.2) = true := by decide +kernel
set_option maxRecDepth 100000 in
theorem gk_0_7 : gw_0_7.all (fun q => sm_okb 0 q.1 q.2) = true := by decide +kernel
set_option maxRecDepth 100000 in
theorem gk_0_8 : gw_0_8.all (fun q => sm_okb 0 q.1 q.2) = true := by decide +kernel
set_option maxRecDepth 100000 in
theorem gk_0_9 : gw_0_9.all (fun q => sm_okb 0 q.1 q.2) = true := by decide +kernel
set_option maxRecDepth 100000 in
theorem gk_0_10 : gw_0_10.all (fun q => sm_okb 0 q.1 q.2) = true := by decide +kernel
set_option maxRecDepth 100000 in
theorem gk_0_11 : gw_0_11.all (fun q => sm_okb 0 q.1 q.2) = true := by decide +kernel
set_option maxRecDepth 100000 in
theorem gk_0_12 : gw_0_12.all (fun q => sm_okb 0 q.1 q.2) = true := by decide +kernel
set_option maxRecDepth 100000 in
theorem gk_0_13 : gw_0_13.all (fun q => sm_okb 0 q.1 q.2) = true := by decide +kernel
set_option maxRecDepth 100000 in
theorem gk_0_14 : gw_0_14.all (fun q => sm_okb 0 q.1 q.2) = true := by decide +kernel
set_option maxRecDepth 100000 in
theorem gk_0_15 : gw_0_15.all (fun q => sm_okb 0 q.1 q.2) = true := by decide +kernel
theorem gk_0 : gw_0.all (fun q => sm_okb 0 q.1 q.2) = true := sm_aa gk_0_0 (sm_aa gk_0_1 (sm_aa gk_0_2 (sm_aa gk_0_3 (sm_aa gk_0_4 (sm_aa gk_0_5 (sm_aa gk_0_6 (sm_aa gk_0_7 (sm_aa gk_0_8 (sm_aa gk_0_9 (sm_aa gk_0_10 (sm_aa gk_0_11 (sm_aa gk_0_12 (sm_aa gk_0_13 (sm_aa gk_0_14 (gk_0_15)))))))))))))))
set_option maxRecDepth 100000 in
theorem gk_1_0 : gw_1_0.all (fun q => sm_okb 1 q.1 q.2) = true := by decide +kernel
set_option maxRecDepth 100000 in
theorem gk_1_1 : gw_1_1.all (fun q => sm_okb 1 q.1 q.2) = true := by decide +kernel
theorem gk_1 : gw_1.all (fun q => sm_okb 1 q.1 q.2) = true := sm_aa gk_1_0 (gk_1_1)
set_option maxRecDepth 100000 in
theorem gk_2_0 : gw_2_0.all (fun q => sm_okb 2 q.1 q.2) = true := by decide +kernel
set_option maxRecDepth 100000 in
theorem gk_2_1 : gw_2_1.all (fun q => sm_okb 2 q.1 q.2) = true := by decide +kernel
theorem gk_2 : gw_2.all (fun q => sm_okb 2 q.1 q.2) = true := sm_aa gk_2_0 (gk_2_1)
set_option maxRecDepth 100000 in
theorem gk_3_0 : gw_3_0.all (fun q => sm_okb 3 q.1 q.2) = true := by decide +kernel
set_option maxRecDepth 100000 in
theorem gk_3_1 : gw_3_1.all (fun q => sm_okb 3 q.1 q.2) = true := by decide +kernel
theorem gk_3 : gw_3.all (fun q => sm_okb 3 q.1 q.2) = true := sm_aa gk_3_0 (gk_3_1)
set_option maxRecDepth 100000 in
theorem gk_4 : gw_4.all (fun q => sm_okb 4 q.1 q.2) = true := by decide +kernel
set_option maxRecDepth 100000 in
theorem gk_5 : gw_5.all (fun q => sm_okb 5 q.1 q.2) = true := by decide +kernel
set_option maxRecDepth 100000 in
theorem gk_6 : gw_6.all (fun q => sm_okb 6 q.1 q.2) = true := by decide +kernel
set_option maxRecDepth 100000 in
theorem gk_7 : gw_7.all (fun q => sm_okb 7 q.1 q.2) = true := by decide +kernel
set_option maxRecDepth 100000 in
theorem gk_8 : gw_8.all (fun q => sm_okb 8 q.1 q.2) = true := by decide +kernel
set_option maxRecDepth 100000 in
theorem gk_9 : gw_9.all (fun q => sm_okb 9 q.1 q.2) = true := by decide +kernel
set_option maxRecDepth 100000 in
theorem gk_10 : gw_10.all (fun q => sm_okb 10 q.1 q.2) = true := by decide +kernel
set_option maxRecDepth 100000 in
theorem gk_11 : gw_11.all (fun q => sm_okb 11 q.1 q.2) = true := by decide +kernel
set_option maxRecDepth 100000 in
theorem gk_12 : gw_12.all (fun q => sm_okb 12 q.1 q.2) = true := by decide +kernel
set_option maxRecDepth 100000 in
theorem gk_13 : gw_13.all (fun q => sm_okb 13 q.1 q.2) = true := by decide +kernel
set_option maxRecDepth 100000 in
theorem gk_14 : gw_14.all (fun q => sm_okb 14 q.1 q.2) = true := by decide +kernel
set_option maxRecDepth 100000 in
theorem gk_15_0 : gw_15_0.all (fun q => sm_okb 15 q.1 q.2) = true := by decide +kernel
set_option maxRecDepth 100000 in
theorem gk_15_1 : gw_15_1.all (fun q => sm_okb 15 q.1 q.2) = true := by decide +kernel
set_option maxRecDepth 100000 in
theorem gk_15_2 : gw_15_2.all (fun q => sm_okb 15 q.1 q.2) = true := by decide +kernel
set_option maxRecDepth 100000 in
theorem gk_15_3 : gw_15_3.all (fun q => sm_okb 15 q.1 q.2) = true := by decide +kernel
set_option maxRecDepth 100000 in
theorem gk_15_4 : gw_15_4.all (fun q => sm_okb 15 q.1 q.2) = true := by decide +kernel
theorem gk_15 : gw_15.all (fun q => sm_okb 15 q.1 q.2) = true := sm_aa gk_15_0 (sm_aa gk_15_1 (sm_aa gk_15_2 (sm_aa gk_15_3 (gk_15_4))))
set_option maxRecDepth 100000 in
theorem gk_16_0 : gw_16_0.all (fun q => sm_okb 16 q.1 q.2) = true := by decide +kernel
set_option maxRecDepth 100000 in
theorem gk_16_1 : gw_16_1.all (fun q => sm_okb 16 q.1 q.2) = true := by decide +kernel
theorem gk_16 : gw_16.all (fun q => sm_okb 16 q.1 q.2) = true := sm_aa gk_16_0 (gk_16_1)
set_option maxRecDepth 100000 in
theorem gk_17 : gw_17.all (fun q => sm_okb 17 q.1 q.2) = true := by decide +kernel
set_option maxRecDepth 100000 in
theorem gk_18_0 : gw_18_0.all (fun q => sm_okb 18 q.1 q.2) = true := by decide +kernel
set_option maxRecDepth 100000 in
theorem gk_18_1 : gw_18_1.all (fun q => sm_okb 18 q.1 q.2) = true := by decide +kernel
theorem gk_18 : gw_18.all (fun q => sm_okb 18 q.1 q.2) = true := sm_aa gk_18_0 (gk_18_1)
set_option maxRecDepth 100000 in
theorem gk_19 : gw_19.all (fun q => sm_okb 19 q.1 q.2) = true := by decide +kernel
set_option maxRecDepth 100000 in
theorem gk_20 : gw_20.all (fun q => sm_okb 20 q.1 q.2) = true := by decide +kernel
set_option maxRecDepth 100000 in
theorem gk_21_0 : gw_21_0.all (fun q => sm_okb 21 q.1 q.2) = true := by decide +kernel
set_option maxRecDepth 100000 in
theorem gk_21_1 : gw_21_1.all (fun q => sm_okb 21 q.1 q.2) = true := by decide +kernel
theorem gk_21 : gw_21.all (fun q => sm_okb 21 q.1 q.2) = true := sm_aa gk_21_0 (gk_21_1)
set_option maxRecDepth 100000 in
theorem gk_22_0 : gw_22_0.all (fun q => sm_okb 22 q.1 q.2) = true := by decide +kernel
set_option maxRecDepth 100000 in
theorem gk_22_1 : gw_22_1.all (fun q => sm_okb 22 q.1 q.2) = true := by decide +kernel
theorem gk_22 : gw_22.all (fun q => sm_okb 22 q.1 q.2) = true := sm_aa gk_22_0 (gk_22_1)
set_option maxRecDepth 100000 in
theorem gk_23_0 : gw_23_0.all (fun q => sm_okb 23 q.1 q.2) = true := by decide +kernel
set_option maxRecDepth 100000 in
theorem gk_23_1 : gw_23_1.all (fun q => sm_okb 23 q.1 q.2) = true := by decide +kernel
theorem gk_23 : gw_23.all (fun q => sm_okb 23 q.1 q.2) = true := sm_aa gk_23_0 (gk_23_1)
set_option maxRecDepth 100000 in
theorem gk_24 : gw_24.all (fun q => sm_okb 24 q.1 q.2) = true := by decide +kernel
set_option maxRecDepth 100000 in
theorem gk_25_0 : gw_25_0.all (fun q => sm_okb 25 q.1 q.2) = true := by decide +kernel
set_option maxRecDepth 100000 in
theorem gk_25_1 : gw_25_1.all (fun q => sm_okb 25 q.1 q.2) = true := by decide +kernel
theorem gk_25 : gw_25.all (fun q => sm_okb 25 q.1 q.2) = true := sm_aa gk_25_0 (gk_25_1)
set_option maxRecDepth 100000 in
theorem gk_26 : gw_26.all (fun q => sm_okb 26 q.1 q.2) = true := by decide +kernel
set_option maxRecDepth 100000 in
theorem gk_27 : gw_27.all (fun q => sm_okb 27 q.1 q.2) = true := by decide +kernel
set_option maxRecDepth 100000 in
theorem gk_28 : gw_28.all (fun q => sm_okb 28 q.1 q.2) = true := by decide +kernel
set_option maxRecDepth 100000 in
theorem gk_29_0 : gw_29_0.all (fun q => sm_okb 29 q.1 q.2) = true := by decide +kernel
set_option maxRecDepth 100000 in
theorem gk_29_1 : gw_29_1.all (fun q => sm_okb 29 q.1 q.2) = true := by decide +kernel
theorem gk_29 : gw_29.all (fun q => sm_okb 29 q.1 q.2) = true := sm_aa gk_29_0 (gk_29_1)
set_option maxRecDepth 100000 in
theorem gk_30 : gw_30.all (fun q => sm_okb 30 q.1 q.2) = true := by decide +kernel
set_option maxRecDepth 100000 in
theorem gk_31 : gw_31.all (fun q => sm_okb 31 q.1 q.2) = true := by decide +kernel
set_option maxRecDepth 100000 in
theorem gk_32 : gw_32.all (fun q => sm_okb 32 q.1 q.2) = true := by decide +kernel
set_option maxRecDepth 100000 in
theorem gk_33 : gw_33.all (fun q => sm_okb 33 q.1 q.2) = true := by decide +kernel
set_option maxRecDepth 100000 in
theorem gk_34 : gw_34.all (fun q => sm_okb 34 q.1 q.2) = true := by decide +kernel
set_option maxRecDepth 100000 in
theorem gk_35 : gw_35.all (fun q => sm_okb 35 q.1 q.2) = true := by decide +kernel
set_option maxRecDepth 100000 in
theorem gk_36 : gw_36.all (fun q => sm_okb 36 q.1 q.2) = true := by decide +kernel
set_option maxRecDepth 100000 in
theorem gk_37 : gw_37.all (fun q => sm_okb 37 q.1 q.2) = true := by decide +kernel
set_option maxRecDepth 100000 in
theorem gk_38 : gw_38.all (fun q => sm_okb 38 q.1 q.2) = true := by decide +kernel
set_option maxRecDepth 100000 in
theorem gk_39 : gw_39.all (fun q => sm_okb 39 q.1 q.2) = true := by decide +kernel
set_option maxRecDepth 100000 in
theorem gk_40_0 : gw_40_0.all (fun q => sm_okb 40 q.1 q.2) = true := by decide +kernel
set_option maxRecDepth 100000 in
theorem gk_40_1 : gw_40_1.all (fun q => sm_okb 40 q.1 q.2) = true := by decide +kernel
set_option maxRecDepth 100000 in
theorem gk_40_2 : gw_40_2.all (fun q => sm_okb 40 q.1 q.2) = true := by decide +kernel
theorem gk_40 : gw_40.all (fun q => sm_okb 40 q.1 q.2) = true := sm_aa gk_40_0 (sm_aa gk_40_1 (gk_40_2))
set_option maxRecDepth 100000 in
theorem gk_41 : gw_41.all (fun q => sm_okb 41 q.1 q.2) = true := by decide +kernel
set_option maxRecDepth 100000 in
theorem gk_42 : gw_42.all (fun q => sm_okb 42 q.1 q.2) = true := by decide +kernel
set_option maxRecDepth 100000 in
theorem gk_43 : gw_43.all (fun q => sm_okb 43 q.1 q.2) = true := by decide +kernel
set_option maxRecDepth 100000 in
theorem gk_44 : gw_44.all (fun q => sm_okb 44 q.1 q.2) = true := by decide +kernel
set_option maxRecDepth 100000 in
theorem gk_45 : gw_45.all (fun q => sm_okb 45 q.1 q.2) = true := by decide +kernel
set_option maxRecDepth 100000 in
theorem gk_46 : gw_46.all (fun q => sm_okb 46 q.1 q.2) = true := by decide +kernel
set_option maxRecDepth 100000 in
theorem gk_47 : gw_47.all (fun q => sm_okb 47 q.1 q.2) = true := by decide +kernel
set_option maxRecDepth 100000 in
theorem gk_48 : gw_48.all (fun q => sm_okb 48 q.1 q.2) = true := by decide +kernel
set_option maxRecDepth 100000 in
theorem gk_49 : gw_49.all (fun q => sm_okb 49 q.1 q.2) = true := by decide +kernel
set_option maxRecDepth 100000 in
theorem gk_50 : gw_50.all (fun q => sm_okb 50 q.1 q.2) = true := by decide +kernel
set_option maxRecDepth 100000 in
theorem gk_51_0 : gw_51_0.all (fun q => sm_okb 51 q.1 q.2) = true := by decide +kernel
set_option maxRecDepth 100000 in
theorem gk_51_1 : gw_51_1.all (fun q => sm_okb 51 q.1 q.2) = true := by decide +kernel
theorem gk_51 : gw_51.all (fun q => sm_okb 51 q.1 q.2) = true := sm_aa gk_51_0 (gk_51_1)
set_option maxRecDepth 100000 in
theorem gk_52 : gw_52.all (fun q => sm_okb 52 q.1 q.2) = true := by decide +kernel
set_option maxRecDepth 100000 in
theorem gk_53 : gw_53.all (fun q => sm_okb 53 q.1 q.2) = true := by decide +kernel
set_option maxRecDepth 100000 in
theorem gk_54 : gw_54.all (fun q => sm_okb 54 q.1 q.2) = true := by decide +kernel
set_option maxRecDepth 100000 in
theorem gk_55_0 : gw_55_0.all (fun q => sm_okb 55 q.1 q.2) = true := by decide +kernel
set_option maxRecDepth 100000 in
theorem gk_55_1 : gw_55_1.all (fun q => sm_okb 55 q.1 q.2) = true := by decide +kernel
theorem gk_55 : gw_55.all (fun q => sm_okb 55 q.1 q.2) = true := sm_aa gk_55_0 (gk_55_1)
set_option maxRecDepth 100000 in
theorem gk_56 : gw_56.all (fun q => sm_okb 56 q.1 q.2) = true := by decide +kernel
set_option maxRecDepth 100000 in
theorem gk_57_0 : gw_57_0.all (fun q => sm_okb 57 q.1 q.2) = true := by decide +kernel
set_option maxRecDepth 100000 in
theorem gk_57_1 : gw_57_1.all (fun q => sm_okb 57 q.1 q.2) = true := by decide +kernel
theorem gk_57 : gw_57.all (fun q => sm_okb 57 q.1 q.2) = true := sm_aa gk_57_0 (gk_57_1)
set_option maxRecDepth 100000 in
theorem gk_58_0 : gw_58_0.all (fun q => sm_okb 58 q.1 q.2) = true := by decide +kernel
set_option maxRecDepth 100000 in
theorem gk_58_1 : gw_58_1.all (fun q => sm_okb 58 q.1 q.2) = true := by decide +kernel
theorem gk_58 : gw_58.all (fun q => sm_okb 58 q.1 q.2) = true := sm_aa gk_58_0 (gk_58_1)
set_option maxRecDepth 100000 in
theorem gk_59 : gw_59.all (fun q => sm_okb 59 q.1 q.2) = true := by decide +kernel
set_option maxRecDepth 100000 in
theorem gk_60 : gw_60.all (fun q => sm_okb 60 q.1 q.2) = true := by decide +kernel
set_option maxRecDepth 100000 in
theorem gk_61 : gw_61.all (fun q => sm_okb 61 q.1 q.2) = true := by decide +kernel
set_option maxRecDepth 100000 in
theorem gk_62_0 : gw_62_0.all (fun q => sm_okb 62 q.1 q.2) = true := by decide +kernel
set_option maxRecDepth 100000 in
theorem gk_62_1 : gw_62_1.all (fun q => sm_okb 62 q.1 q.2) = true := by decide +kernel
theorem gk_62 : gw_62.all (fun q => sm_okb 62 q.1 q.2) = true := sm_aa gk_62_0 (gk_62_1)
set_option maxRecDepth 100000 in
theorem gk_63_0 : gw_63_0.all (fun q => sm_okb 63 q.1 q.2) = true := by decide +kernel
set_option maxRecDepth 100000 in
theorem gk_63_1 : gw_63_1.all (fun q => sm_okb 63 q.1 q.2) = true := by decide +kernel
set_option maxRecDepth 100000 in
theorem gk_63_2 : gw_63_2.all (fun q => sm_okb 63 q.1 q.2) = true := by decide +kernel
theorem gk_63 : gw_63.all (fun q => sm_okb 63 q.1 q.2) = true := sm_aa gk_63_0 (sm_aa gk_63_1 (gk_63_2))

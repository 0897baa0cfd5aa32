/-! checks of rows -/
set_option maxRecDepth 100000 in
theorem gk_64_0 : gw_64_0.all (fun q => sm_okb 64 q.1 q.2) = true := by decide +kernel
set_option maxRecDepth 100000 in
theorem gk_64_1 : gw_64_1.all (fun q => sm_okb 64 q.1 q.2) = true := by decide +kernel
set_option maxRecDepth 100000 in
theorem gk_64_2 : gw_64_2.all (fun q => sm_okb 64 q.1 q.2) = true := by decide +kernel
theorem gk_64 : gw_64.all (fun q => sm_okb 64 q.1 q.2) = true := sm_aa gk_64_0 (sm_aa gk_64_1 (gk_64_2))
set_option maxRecDepth 100000 in
theorem gk_65 : gw_65.all (fun q => sm_okb 65 q.1 q.2) = true := by decide +kernel
set_option maxRecDepth 100000 in
theorem gk_66_0 : gw_66_0.all (fun q => sm_okb 66 q.1 q.2) = true := by decide +kernel
set_option maxRecDepth 100000 in
theorem gk_66_1 : gw_66_1.all (fun q => sm_okb 66 q.1 q.2) = true := by decide +kernel
theorem gk_66 : gw_66.all (fun q => sm_okb 66 q.1 q.2) = true := sm_aa gk_66_0 (gk_66_1)
set_option maxRecDepth 100000 in
theorem gk_67 : gw_67.all (fun q => sm_okb 67 q.1 q.2) = true := by decide +kernel
set_option maxRecDepth 100000 in
theorem gk_68 : gw_68.all (fun q => sm_okb 68 q.1 q.2) = true := by decide +kernel
set_option maxRecDepth 100000 in
theorem gk_69_0 : gw_69_0.all (fun q => sm_okb 69 q.1 q.2) = true := by decide +kernel
set_option maxRecDepth 100000 in
theorem gk_69_1 : gw_69_1.all (fun q => sm_okb 69 q.1 q.2) = true := by decide +kernel
set_option maxRecDepth 100000 in
theorem gk_69_2 : gw_69_2.all (fun q => sm_okb 69 q.1 q.2) = true := by decide +kernel
theorem gk_69 : gw_69.all (fun q => sm_okb 69 q.1 q.2) = true := sm_aa gk_69_0 (sm_aa gk_69_1 (gk_69_2))
set_option maxRecDepth 100000 in
theorem gk_70 : gw_70.all (fun q => sm_okb 70 q.1 q.2) = true := by decide +kernel
set_option maxRecDepth 100000 in
theorem gk_71 : gw_71.all (fun q => sm_okb 71 q.1 q.2) = true := by decide +kernel
set_option maxRecDepth 100000 in
theorem gk_72_0 : gw_72_0.all (fun q => sm_okb 72 q.1 q.2) = true := by decide +kernel
set_option maxRecDepth 100000 in
theorem gk_72_1 : gw_72_1.all (fun q => sm_okb 72 q.1 q.2) = true := by decide +kernel
theorem gk_72 : gw_72.all (fun q => sm_okb 72 q.1 q.2) = true := sm_aa gk_72_0 (gk_72_1)
set_option maxRecDepth 100000 in
theorem gk_73 : gw_73.all (fun q => sm_okb 73 q.1 q.2) = true := by decide +kernel
set_option maxRecDepth 100000 in
theorem gk_74_0 : gw_74_0.all (fun q => sm_okb 74 q.1 q.2) = true := by decide +kernel
set_option maxRecDepth 100000 in
theorem gk_74_1 : gw_74_1.all (fun q => sm_okb 74 q.1 q.2) = true := by decide +kernel
set_option maxRecDepth 100000 in
theorem gk_74_2 : gw_74_2.all (fun q => sm_okb 74 q.1 q.2) = true := by decide +kernel
theorem gk_74 : gw_74.all (fun q => sm_okb 74 q.1 q.2) = true := sm_aa gk_74_0 (sm_aa gk_74_1 (gk_74_2))
set_option maxRecDepth 100000 in
theorem gk_75_0 : gw_75_0.all (fun q => sm_okb 75 q.1 q.2) = true := by decide +kernel
set_option maxRecDepth 100000 in
theorem gk_75_1 : gw_75_1.all (fun q => sm_okb 75 q.1 q.2) = true := by decide +kernel
theorem gk_75 : gw_75.all (fun q => sm_okb 75 q.1 q.2) = true := sm_aa gk_75_0 (gk_75_1)
set_option maxRecDepth 100000 in
theorem gk_76_0 : gw_76_0.all (fun q => sm_okb 76 q.1 q.2) = true := by decide +kernel
set_option maxRecDepth 100000 in
theorem gk_76_1 : gw_76_1.all (fun q => sm_okb 76 q.1 q.2) = true := by decide +kernel
theorem gk_76 : gw_76.all (fun q => sm_okb 76 q.1 q.2) = true := sm_aa gk_76_0 (gk_76_1)
set_option maxRecDepth 100000 in
theorem gk_77 : gw_77.all (fun q => sm_okb 77 q.1 q.2) = true := by decide +kernel
set_option maxRecDepth 100000 in
theorem gk_78_0 : gw_78_0.all (fun q => sm_okb 78 q.1 q.2) = true := by decide +kernel
set_option maxRecDepth 100000 in
theorem gk_78_1 : gw_78_1.all (fun q => sm_okb 78 q.1 q.2) = true := by decide +kernel
theorem gk_78 : gw_78.all (fun q => sm_okb 78 q.1 q.2) = true := sm_aa gk_78_0 (gk_78_1)
set_option maxRecDepth 100000 in
theorem gk_79 : gw_79.all (fun q => sm_okb 79 q.1 q.2) = true := by decide +kernel
set_option maxRecDepth 100000 in
theorem gk_80 : gw_80.all (fun q => sm_okb 80 q.1 q.2) = true := by decide +kernel
set_option maxRecDepth 100000 in
theorem gk_81 : gw_81.all (fun q => sm_okb 81 q.1 q.2) = true := by decide +kernel
set_option maxRecDepth 100000 in
theorem gk_82 : gw_82.all (fun q => sm_okb 82 q.1 q.2) = true := by decide +kernel
set_option maxRecDepth 100000 in
theorem gk_83_0 : gw_83_0.all (fun q => sm_okb 83 q.1 q.2) = true := by decide +kernel
set_option maxRecDepth 100000 in
theorem gk_83_1 : gw_83_1.all (fun q => sm_okb 83 q.1 q.2) = true := by decide +kernel
set_option maxRecDepth 100000 in
theorem gk_83_2 : gw_83_2.all (fun q => sm_okb 83 q.1 q.2) = true := by decide +kernel
set_option maxRecDepth 100000 in
theorem gk_83_3 : gw_83_3.all (fun q => sm_okb 83 q.1 q.2) = true := by decide +kernel
set_option maxRecDepth 100000 in
theorem gk_83_4 : gw_83_4.all (fun q => sm_okb 83 q.1 q.2) = true := by decide +kernel
set_option maxRecDepth 100000 in
theorem gk_83_5 : gw_83_5.all (fun q => sm_okb 83 q.1 q.2) = true := by decide +kernel
theorem gk_83 : gw_83.all (fun q => sm_okb 83 q.1 q.2) = true := sm_aa gk_83_0 (sm_aa gk_83_1 (sm_aa gk_83_2 (sm_aa gk_83_3 (sm_aa gk_83_4 (gk_83_5)))))
set_option maxRecDepth 100000 in
theorem gk_84_0 : gw_84_0.all (fun q => sm_okb 84 q.1 q.2) = true := by decide +kernel
set_option maxRecDepth 100000 in
theorem gk_84_1 : gw_84_1.all (fun q => sm_okb 84 q.1 q.2) = true := by decide +kernel
set_option maxRecDepth 100000 in
theorem gk_84_2 : gw_84_2.all (fun q => sm_okb 84 q.1 q.2) = true := by decide +kernel
set_option maxRecDepth 100000 in
theorem gk_84_3 : gw_84_3.all (fun q => sm_okb 84 q.1 q.2) = true := by decide +kernel
theorem gk_84 : gw_84.all (fun q => sm_okb 84 q.1 q.2) = true := sm_aa gk_84_0 (sm_aa gk_84_1 (sm_aa gk_84_2 (gk_84_3)))
set_option maxRecDepth 100000 in
theorem gk_85 : gw_85.all (fun q => sm_okb 85 q.1 q.2) = true := by decide +kernel
set_option maxRecDepth 100000 in
theorem gk_86_0 : gw_86_0.all (fun q => sm_okb 86 q.1 q.2) = true := by decide +kernel
set_option maxRecDepth 100000 in
theorem gk_86_1 : gw_86_1.all (fun q => sm_okb 86 q.1 q.2) = true := by decide +kernel
theorem gk_86 : gw_86.all (fun q => sm_okb 86 q.1 q.2) = true := sm_aa gk_86_0 (gk_86_1)
set_option maxRecDepth 100000 in
theorem gk_87 : gw_87.all (fun q => sm_okb 87 q.1 q.2) = true := by decide +kernel
set_option maxRecDepth 100000 in
theorem gk_88_0 : gw_88_0.all (fun q => sm_okb 88 q.1 q.2) = true := by decide +kernel
set_option maxRecDepth 100000 in
theorem gk_88_1 : gw_88_1.all (fun q => sm_okb 88 q.1 q.2) = true := by decide +kernel
set_option maxRecDepth 100000 in
theorem gk_88_2 : gw_88_2.all (fun q => sm_okb 88 q.1 q.2) = true := by decide +kernel
set_option maxRecDepth 100000 in
theorem gk_88_3 : gw_88_3.all (fun q => sm_okb 88 q.1 q.2) = true := by decide +kernel
theorem gk_88 : gw_88.all (fun q => sm_okb 88 q.1 q.2) = true := sm_aa gk_88_0 (sm_aa gk_88_1 (sm_aa gk_88_2 (gk_88_3)))
set_option maxRecDepth 100000 in
theorem gk_89 : gw_89.all (fun q => sm_okb 89 q.1 q.2) = true := by decide +kernel
set_option maxRecDepth 100000 in
theorem gk_90 : gw_90.all (fun q => sm_okb 90 q.1 q.2) = true := by decide +kernel
set_option maxRecDepth 100000 in
theorem gk_91 : gw_91.all (fun q => sm_okb 91 q.1 q.2) = true := by decide +kernel
set_option maxRecDepth 100000 in
theorem gk_92 : gw_92.all (fun q => sm_okb 92 q.1 q.2) = true := by decide +kernel
set_option maxRecDepth 100000 in
theorem gk_93 : gw_93.all (fun q => sm_okb 93 q.1 q.2) = true := by decide +kernel
set_option maxRecDepth 100000 in
theorem gk_94 : gw_94.all (fun q => sm_okb 94 q.1 q.2) = true := by decide +kernel
set_option maxRecDepth 100000 in
theorem gk_95 : gw_95.all (fun q => sm_okb 95 q.1 q.2) = true := by decide +kernel
set_option maxRecDepth 100000 in
theorem gk_96_0 : gw_96_0.all (fun q => sm_okb 96 q.1 q.2) = true := by decide +kernel
set_option maxRecDepth 100000 in
theorem gk_96_1 : gw_96_1.all (fun q => sm_okb 96 q.1 q.2) = true := by decide +kernel
theorem gk_96 : gw_96.all (fun q => sm_okb 96 q.1 q.2) = true := sm_aa gk_96_0 (gk_96_1)
set_option maxRecDepth 100000 in
theorem gk_97 : gw_97.all (fun q => sm_okb 97 q.1 q.2) = true := by decide +kernel
set_option maxRecDepth 100000 in
theorem gk_98 : gw_98.all (fun q => sm_okb 98 q.1 q.2) = true := by decide +kernel
set_option maxRecDepth 100000 in
theorem gk_99_0 : gw_99_0.all (fun q => sm_okb 99 q.1 q.2) = true := by decide +kernel
set_option maxRecDepth 100000 in
theorem gk_99_1 : gw_99_1.all (fun q => sm_okb 99 q.1 q.2) = true := by decide +kernel
set_option maxRecDepth 100000 in
theorem gk_99_2 : gw_99_2.all (fun q => sm_okb 99 q.1 q.2) = true := by decide +kernel
set_option maxRecDepth 100000 in
theorem gk_99_3 : gw_99_3.all (fun q => sm_okb 99 q.1 q.2) = true := by decide +kernel
set_option maxRecDepth 100000 in
theorem gk_99_4 : gw_99_4.all (fun q => sm_okb 99 q.1 q.2) = true := by decide +kernel
theorem gk_99 : gw_99.all (fun q => sm_okb 99 q.1 q.2) = true := sm_aa gk_99_0 (sm_aa gk_99_1 (sm_aa gk_99_2 (sm_aa gk_99_3 (gk_99_4))))
set_option maxRecDepth 100000 in
theorem gk_100_0 : gw_100_0.all (fun q => sm_okb 100 q.1 q.2) = true := by decide +kernel
set_option maxRecDepth 100000 in
theorem gk_100_1 : gw_100_1.all (fun q => sm_okb 100 q.1 q.2) = true := by decide +kernel
theorem gk_100 : gw_100.all (fun q => sm_okb 100 q.1 q.2) = true := sm_aa gk_100_0 (gk_100_1)
set_option maxRecDepth 100000 in
theorem gk_101_0 : gw_101_0.all (fun q => sm_okb 101 q.1 q.2) = true := by decide +kernel
set_option maxRecDepth 100000 in
theorem gk_101_1 : gw_101_1.all (fun q => sm_okb 101 q.1 q.2) = true := by decide +kernel
theorem gk_101 : gw_101.all (fun q => sm_okb 101 q.1 q.2) = true := sm_aa gk_101_0 (gk_101_1)
set_option maxRecDepth 100000 in
theorem gk_102 : gw_102.all (fun q => sm_okb 102 q.1 q.2) = true := by decide +kernel
set_option maxRecDepth 100000 in
theorem gk_103 : gw_103.all (fun q => sm_okb 103 q.1 q.2) = true := by decide +kernel
set_option maxRecDepth 100000 in
theorem gk_104 : gw_104.all (fun q => sm_okb 104 q.1 q.2) = true := by decide +kernel
set_option maxRecDepth 100000 in
theorem gk_105_0 : gw_105_0.all (fun q => sm_okb 105 q.1 q.2) = true := by decide +kernel
set_option maxRecDepth 100000 in
theorem gk_105_1 : gw_105_1.all (fun q => sm_okb 105 q.1 q.2) = true := by decide +kernel
theorem gk_105 : gw_105.all (fun q => sm_okb 105 q.1 q.2) = true := sm_aa gk_105_0 (gk_105_1)
set_option maxRecDepth 100000 in
theorem gk_106_0 : gw_106_0.all (fun q => sm_okb 106 q.1 q.2) = true := by decide +kernel
set_option maxRecDepth 100000 in
theorem gk_106_1 : gw_106_1.all (fun q => sm_okb 106 q.1 q.2) = true := by decide +kernel
theorem gk_106 : gw_106.all (fun q => sm_okb 106 q.1 q.2) = true := sm_aa gk_106_0 (gk_106_1)
set_option maxRecDepth 100000 in
theorem gk_107_0 : gw_107_0.all (fun q => sm_okb 107 q.1 q.2) = true := by decide +kernel
set_option maxRecDepth 100000 in
theorem gk_107_1 : gw_107_1.all (fun q => sm_okb 107 q.1 q.2) = true := by decide +kernel
theorem gk_107 : gw_107.all (fun q => sm_okb 107 q.1 q.2) = true := sm_aa gk_107_0 (gk_107_1)
set_option maxRecDepth 100000 in
theorem gk_108_0 : gw_108_0.all (fun q => sm_okb 108 q.1 q.2) = true := by decide +kernel
set_option maxRecDepth 100000 in
theorem gk_108_1 : gw_108_1.all (fun q => sm_okb 108 q.1 q.2) = true := by decide +kernel
set_option maxRecDepth 100000 in
theorem gk_108_2 : gw_108_2.all (fun q => sm_okb 108 q.1 q.2) = true := by decide +kernel
theorem gk_108 : gw_108.all (fun q => sm_okb 108 q.1 q.2) = true := sm_aa gk_108_0 (sm_aa gk_108_1 (gk_108_2))
set_option maxRecDepth 100000 in
theorem gk_109 : gw_109.all (fun q => sm_okb 109 q.1 q.2) = true := by decide +kernel
set_option maxRecDepth 100000 in
theorem gk_110 : gw_110.all (fun q => sm_okb 110 q.1 q.2) = true := by decide +kernel
set_option maxRecDepth 100000 in
theorem gk_111 : gw_111.all (fun q => sm_okb 111 q.1 q.2) = true := by decide +kernel
set_option maxRecDepth 100000 in
theorem gk_112_0 : gw_112_0.all (fun q => sm_okb 112 q.1 q.2) = true := by decide +kernel
set_option maxRecDepth 100000 in
theorem gk_112_1 : gw_112_1.all (fun q => sm_okb 112 q.1 q.2) = true := by decide +kernel
set_option maxRecDepth 100000 in
theorem gk_112_2 : gw_112_2.all (fun q => sm_okb 112 q.1 q.2) = true := by decide +kernel
theorem gk_112 : gw_112.all (fun q => sm_okb 112 q.1 q.2) = true := sm_aa gk_112_0 (sm_aa gk_112_1 (gk_112_2))
set_option maxRecDepth 100000 in
theorem gk_113_0 : gw_113_0.all (fun q => sm_okb 113 q.1 q.2) = true := by decide +kernel
set_option maxRecDepth 100000 in
theorem gk_113_1 : gw_113_1.all (fun q => sm_okb 113 q.1 q.2) = true := by decide +kernel
set_option maxRecDepth 100000 in
theorem gk_113_2 : gw_113_2.all (fun q => sm_okb 113 q.1 q.2) = true := by decide +kernel
set_option maxRecDepth 100000 in
theorem gk_113_3 : gw_113_3.all (fun q => sm_okb 113 q.1 q.2) = true := by decide +kernel
theorem gk_113 : gw_113.all (fun q => sm_okb 113 q.1 q.2) = true := sm_aa gk_113_0 (sm_aa gk_113_1 (sm_aa gk_113_2 (gk_113_3)))

/-! every method's code word stands among the tables' words -/
theorem gin_1 {w : Cond} (h : w ∈ tables_1_1) : w ∈ tables_1 := List.mem_append_left _ h
theorem gin_2 {w : Cond} (h : w ∈ tables_1_2) : w ∈ tables_1 := List.mem_append_right _ (List.mem_append_left _ h)
theorem gin_3 {w : Cond} (h : w ∈ tables_1_3) : w ∈ tables_1 := List.mem_append_right _ (List.mem_append_right _ (List.mem_append_left _ h))
theorem gin_4 {w : Cond} (h : w ∈ tables_1_4) : w ∈ tables_1 := List.mem_append_right _ (List.mem_append_right _ (List.mem_append_right _ (List.mem_append_left _ h)))
theorem gin_5 {w : Cond} (h : w ∈ tables_1_5) : w ∈ tables_1 := List.mem_append_right _ (List.mem_append_right _ (List.mem_append_right _ (List.mem_append_right _ (List.mem_append_left _ h))))
theorem gin_6 {w : Cond} (h : w ∈ tables_1_6) : w ∈ tables_1 := List.mem_append_right _ (List.mem_append_right _ (List.mem_append_right _ (List.mem_append_right _ (List.mem_append_right _ (List.mem_append_left _ h)))))
theorem gin_7 {w : Cond} (h : w ∈ tables_1_7) : w ∈ tables_1 := List.mem_append_right _ (List.mem_append_right _ (List.mem_append_right _ (List.mem_append_right _ (List.mem_append_right _ (List.mem_append_right _ (h))))))
set_option maxRecDepth 20000 in
theorem gmc_1 : sm_code 1 ∈ tables_1 := gin_1 (List.mem_of_getElem? (i := 20) rfl)
set_option maxRecDepth 20000 in
theorem gmc_2 : sm_code 2 ∈ tables_1 := gin_1 (List.mem_of_getElem? (i := 28) rfl)
set_option maxRecDepth 20000 in
theorem gmc_3 : sm_code 3 ∈ tables_1 := gin_1 (List.mem_of_getElem? (i := 34) rfl)
set_option maxRecDepth 20000 in
theorem gmc_4 : sm_code 4 ∈ tables_1 := gin_1 (List.mem_of_getElem? (i := 40) rfl)
set_option maxRecDepth 20000 in
theorem gmc_5 : sm_code 5 ∈ tables_1 := gin_1 (List.mem_of_getElem? (i := 44) rfl)
set_option maxRecDepth 20000 in
theorem gmc_6 : sm_code 6 ∈ tables_1 := gin_1 (List.mem_of_getElem? (i := 50) rfl)
set_option maxRecDepth 20000 in
theorem gmc_7 : sm_code 7 ∈ tables_1 := gin_1 (List.mem_of_getElem? (i := 54) rfl)
set_option maxRecDepth 20000 in
theorem gmc_8 : sm_code 8 ∈ tables_1 := gin_1 (List.mem_of_getElem? (i := 57) rfl)
set_option maxRecDepth 20000 in
theorem gmc_9 : sm_code 9 ∈ tables_1 := gin_1 (List.mem_of_getElem? (i := 60) rfl)
set_option maxRecDepth 20000 in
theorem gmc_10 : sm_code 10 ∈ tables_1 := gin_1 (List.mem_of_getElem? (i := 65) rfl)
set_option maxRecDepth 20000 in
theorem gmc_11 : sm_code 11 ∈ tables_1 := gin_1 (List.mem_of_getElem? (i := 87) rfl)
set_option maxRecDepth 20000 in
theorem gmc_12 : sm_code 12 ∈ tables_1 := gin_1 (List.mem_of_getElem? (i := 117) rfl)
set_option maxRecDepth 20000 in
theorem gmc_13 : sm_code 13 ∈ tables_1 := gin_1 (List.mem_of_getElem? (i := 203) rfl)
set_option maxRecDepth 20000 in
theorem gmc_14 : sm_code 14 ∈ tables_1 := gin_1 (List.mem_of_getElem? (i := 239) rfl)
set_option maxRecDepth 20000 in
theorem gmc_15 : sm_code 15 ∈ tables_1 := gin_4 (List.mem_of_getElem? (i := 197) rfl)
set_option maxRecDepth 20000 in
theorem gmc_16 : sm_code 16 ∈ tables_1 := gin_2 (List.mem_of_getElem? (i := 48) rfl)
set_option maxRecDepth 20000 in
theorem gmc_17 : sm_code 17 ∈ tables_1 := gin_2 (List.mem_of_getElem? (i := 52) rfl)
set_option maxRecDepth 20000 in
theorem gmc_18 : sm_code 18 ∈ tables_1 := gin_5 (List.mem_of_getElem? (i := 129) rfl)
set_option maxRecDepth 20000 in
theorem gmc_19 : sm_code 19 ∈ tables_1 := gin_5 (List.mem_of_getElem? (i := 132) rfl)
set_option maxRecDepth 20000 in
theorem gmc_20 : sm_code 20 ∈ tables_1 := gin_5 (List.mem_of_getElem? (i := 136) rfl)
set_option maxRecDepth 20000 in
theorem gmc_21 : sm_code 21 ∈ tables_1 := gin_2 (List.mem_of_getElem? (i := 57) rfl)
set_option maxRecDepth 20000 in
theorem gmc_22 : sm_code 22 ∈ tables_1 := gin_2 (List.mem_of_getElem? (i := 61) rfl)
set_option maxRecDepth 20000 in
theorem gmc_23 : sm_code 23 ∈ tables_1 := gin_2 (List.mem_of_getElem? (i := 65) rfl)
set_option maxRecDepth 20000 in
theorem gmc_24 : sm_code 24 ∈ tables_1 := gin_2 (List.mem_of_getElem? (i := 71) rfl)
set_option maxRecDepth 20000 in
theorem gmc_25 : sm_code 25 ∈ tables_1 := gin_2 (List.mem_of_getElem? (i := 75) rfl)
set_option maxRecDepth 20000 in
theorem gmc_26 : sm_code 26 ∈ tables_1 := gin_2 (List.mem_of_getElem? (i := 79) rfl)
set_option maxRecDepth 20000 in
theorem gmc_27 : sm_code 27 ∈ tables_1 := gin_2 (List.mem_of_getElem? (i := 83) rfl)
set_option maxRecDepth 20000 in
theorem gmc_28 : sm_code 28 ∈ tables_1 := gin_2 (List.mem_of_getElem? (i := 86) rfl)
set_option maxRecDepth 20000 in
theorem gmc_29 : sm_code 29 ∈ tables_1 := gin_2 (List.mem_of_getElem? (i := 90) rfl)
set_option maxRecDepth 20000 in
theorem gmc_30 : sm_code 30 ∈ tables_1 := gin_2 (List.mem_of_getElem? (i := 95) rfl)
set_option maxRecDepth 20000 in
theorem gmc_31 : sm_code 31 ∈ tables_1 := gin_2 (List.mem_of_getElem? (i := 99) rfl)
set_option maxRecDepth 20000 in
theorem gmc_32 : sm_code 32 ∈ tables_1 := gin_2 (List.mem_of_getElem? (i := 103) rfl)
set_option maxRecDepth 20000 in
theorem gmc_33 : sm_code 33 ∈ tables_1 := gin_2 (List.mem_of_getElem? (i := 106) rfl)
set_option maxRecDepth 20000 in
theorem gmc_34 : sm_code 34 ∈ tables_1 := gin_2 (List.mem_of_getElem? (i := 113) rfl)
set_option maxRecDepth 20000 in
theorem gmc_35 : sm_code 35 ∈ tables_1 := gin_2 (List.mem_of_getElem? (i := 152) rfl)
set_option maxRecDepth 20000 in
theorem gmc_36 : sm_code 36 ∈ tables_1 := gin_2 (List.mem_of_getElem? (i := 155) rfl)
set_option maxRecDepth 20000 in
theorem gmc_37 : sm_code 37 ∈ tables_1 := gin_2 (List.mem_of_getElem? (i := 160) rfl)
set_option maxRecDepth 20000 in
theorem gmc_38 : sm_code 38 ∈ tables_1 := gin_2 (List.mem_of_getElem? (i := 164) rfl)
set_option maxRecDepth 20000 in
theorem gmc_39 : sm_code 39 ∈ tables_1 := gin_2 (List.mem_of_getElem? (i := 168) rfl)
set_option maxRecDepth 20000 in
theorem gmc_40 : sm_code 40 ∈ tables_1 := gin_2 (List.mem_of_getElem? (i := 172) rfl)
set_option maxRecDepth 20000 in
theorem gmc_41 : sm_code 41 ∈ tables_1 := gin_2 (List.mem_of_getElem? (i := 176) rfl)
set_option maxRecDepth 20000 in
theorem gmc_42 : sm_code 42 ∈ tables_1 := gin_2 (List.mem_of_getElem? (i := 181) rfl)
set_option maxRecDepth 20000 in
theorem gmc_43 : sm_code 43 ∈ tables_1 := gin_2 (List.mem_of_getElem? (i := 185) rfl)
set_option maxRecDepth 20000 in
theorem gmc_44 : sm_code 44 ∈ tables_1 := gin_2 (List.mem_of_getElem? (i := 189) rfl)
set_option maxRecDepth 20000 in
theorem gmc_45 : sm_code 45 ∈ tables_1 := gin_2 (List.mem_of_getElem? (i := 193) rfl)
set_option maxRecDepth 20000 in
theorem gmc_46 : sm_code 46 ∈ tables_1 := gin_2 (List.mem_of_getElem? (i := 197) rfl)
set_option maxRecDepth 20000 in
theorem gmc_47 : sm_code 47 ∈ tables_1 := gin_2 (List.mem_of_getElem? (i := 201) rfl)
set_option maxRecDepth 20000 in
theorem gmc_48 : sm_code 48 ∈ tables_1 := gin_2 (List.mem_of_getElem? (i := 205) rfl)
set_option maxRecDepth 20000 in
theorem gmc_49 : sm_code 49 ∈ tables_1 := gin_2 (List.mem_of_getElem? (i := 210) rfl)
set_option maxRecDepth 20000 in
theorem gmc_50 : sm_code 50 ∈ tables_1 := gin_2 (List.mem_of_getElem? (i := 215) rfl)
set_option maxRecDepth 20000 in
theorem gmc_51 : sm_code 51 ∈ tables_1 := gin_2 (List.mem_of_getElem? (i := 219) rfl)
set_option maxRecDepth 20000 in
theorem gmc_52 : sm_code 52 ∈ tables_1 := gin_2 (List.mem_of_getElem? (i := 223) rfl)
set_option maxRecDepth 20000 in
theorem gmc_53 : sm_code 53 ∈ tables_1 := gin_2 (List.mem_of_getElem? (i := 227) rfl)
set_option maxRecDepth 20000 in
theorem gmc_54 : sm_code 54 ∈ tables_1 := gin_2 (List.mem_of_getElem? (i := 231) rfl)
set_option maxRecDepth 20000 in
theorem gmc_55 : sm_code 55 ∈ tables_1 := gin_2 (List.mem_of_getElem? (i := 235) rfl)
set_option maxRecDepth 20000 in
theorem gmc_56 : sm_code 56 ∈ tables_1 := gin_2 (List.mem_of_getElem? (i := 239) rfl)
set_option maxRecDepth 20000 in
theorem gmc_57 : sm_code 57 ∈ tables_1 := gin_3 (List.mem_of_getElem? (i := 3) rfl)
set_option maxRecDepth 20000 in
theorem gmc_58 : sm_code 58 ∈ tables_1 := gin_3 (List.mem_of_getElem? (i := 7) rfl)
set_option maxRecDepth 20000 in
theorem gmc_59 : sm_code 59 ∈ tables_1 := gin_3 (List.mem_of_getElem? (i := 11) rfl)
set_option maxRecDepth 20000 in
theorem gmc_60 : sm_code 60 ∈ tables_1 := gin_3 (List.mem_of_getElem? (i := 17) rfl)
set_option maxRecDepth 20000 in
theorem gmc_61 : sm_code 61 ∈ tables_1 := gin_3 (List.mem_of_getElem? (i := 21) rfl)
set_option maxRecDepth 20000 in
theorem gmc_62 : sm_code 62 ∈ tables_1 := gin_3 (List.mem_of_getElem? (i := 25) rfl)
set_option maxRecDepth 20000 in
theorem gmc_63 : sm_code 63 ∈ tables_1 := gin_3 (List.mem_of_getElem? (i := 29) rfl)
set_option maxRecDepth 20000 in
theorem gmc_64 : sm_code 64 ∈ tables_1 := gin_3 (List.mem_of_getElem? (i := 33) rfl)
set_option maxRecDepth 20000 in
theorem gmc_65 : sm_code 65 ∈ tables_1 := gin_3 (List.mem_of_getElem? (i := 37) rfl)
set_option maxRecDepth 20000 in
theorem gmc_66 : sm_code 66 ∈ tables_1 := gin_3 (List.mem_of_getElem? (i := 41) rfl)
set_option maxRecDepth 20000 in
theorem gmc_67 : sm_code 67 ∈ tables_1 := gin_3 (List.mem_of_getElem? (i := 47) rfl)
set_option maxRecDepth 20000 in
theorem gmc_68 : sm_code 68 ∈ tables_1 := gin_3 (List.mem_of_getElem? (i := 53) rfl)
set_option maxRecDepth 20000 in
theorem gmc_69 : sm_code 69 ∈ tables_1 := gin_3 (List.mem_of_getElem? (i := 59) rfl)
set_option maxRecDepth 20000 in
theorem gmc_70 : sm_code 70 ∈ tables_1 := gin_3 (List.mem_of_getElem? (i := 63) rfl)
set_option maxRecDepth 20000 in
theorem gmc_71 : sm_code 71 ∈ tables_1 := gin_3 (List.mem_of_getElem? (i := 67) rfl)
set_option maxRecDepth 20000 in
theorem gmc_72 : sm_code 72 ∈ tables_1 := gin_3 (List.mem_of_getElem? (i := 71) rfl)
set_option maxRecDepth 20000 in
theorem gmc_73 : sm_code 73 ∈ tables_1 := gin_3 (List.mem_of_getElem? (i := 75) rfl)
set_option maxRecDepth 20000 in
theorem gmc_74 : sm_code 74 ∈ tables_1 := gin_3 (List.mem_of_getElem? (i := 81) rfl)
set_option maxRecDepth 20000 in
theorem gmc_75 : sm_code 75 ∈ tables_1 := gin_3 (List.mem_of_getElem? (i := 85) rfl)
set_option maxRecDepth 20000 in
theorem gmc_76 : sm_code 76 ∈ tables_1 := gin_3 (List.mem_of_getElem? (i := 89) rfl)
set_option maxRecDepth 20000 in
theorem gmc_77 : sm_code 77 ∈ tables_1 := gin_3 (List.mem_of_getElem? (i := 93) rfl)
set_option maxRecDepth 20000 in
theorem gmc_78 : sm_code 78 ∈ tables_1 := gin_3 (List.mem_of_getElem? (i := 97) rfl)
set_option maxRecDepth 20000 in
theorem gmc_79 : sm_code 79 ∈ tables_1 := gin_3 (List.mem_of_getElem? (i := 102) rfl)
set_option maxRecDepth 20000 in
theorem gmc_80 : sm_code 80 ∈ tables_1 := gin_3 (List.mem_of_getElem? (i := 107) rfl)
set_option maxRecDepth 20000 in
theorem gmc_81 : sm_code 81 ∈ tables_1 := gin_3 (List.mem_of_getElem? (i := 111) rfl)
set_option maxRecDepth 20000 in
theorem gmc_82 : sm_code 82 ∈ tables_1 := gin_3 (List.mem_of_getElem? (i := 117) rfl)
set_option maxRecDepth 20000 in
theorem gmc_83 : sm_code 83 ∈ tables_1 := gin_5 (List.mem_of_getElem? (i := 142) rfl)
set_option maxRecDepth 20000 in
theorem gmc_84 : sm_code 84 ∈ tables_1 := gin_5 (List.mem_of_getElem? (i := 146) rfl)
set_option maxRecDepth 20000 in
theorem gmc_85 : sm_code 85 ∈ tables_1 := gin_5 (List.mem_of_getElem? (i := 150) rfl)
set_option maxRecDepth 20000 in
theorem gmc_86 : sm_code 86 ∈ tables_1 := gin_5 (List.mem_of_getElem? (i := 154) rfl)
set_option maxRecDepth 20000 in
theorem gmc_87 : sm_code 87 ∈ tables_1 := gin_5 (List.mem_of_getElem? (i := 160) rfl)
set_option maxRecDepth 20000 in
theorem gmc_88 : sm_code 88 ∈ tables_1 := gin_5 (List.mem_of_getElem? (i := 166) rfl)
set_option maxRecDepth 20000 in
theorem gmc_89 : sm_code 89 ∈ tables_1 := gin_5 (List.mem_of_getElem? (i := 170) rfl)
set_option maxRecDepth 20000 in
theorem gmc_90 : sm_code 90 ∈ tables_1 := gin_5 (List.mem_of_getElem? (i := 174) rfl)
set_option maxRecDepth 20000 in
theorem gmc_91 : sm_code 91 ∈ tables_1 := gin_5 (List.mem_of_getElem? (i := 178) rfl)
set_option maxRecDepth 20000 in
theorem gmc_92 : sm_code 92 ∈ tables_1 := gin_5 (List.mem_of_getElem? (i := 182) rfl)
set_option maxRecDepth 20000 in
theorem gmc_93 : sm_code 93 ∈ tables_1 := gin_5 (List.mem_of_getElem? (i := 186) rfl)
set_option maxRecDepth 20000 in
theorem gmc_94 : sm_code 94 ∈ tables_1 := gin_5 (List.mem_of_getElem? (i := 190) rfl)
set_option maxRecDepth 20000 in
theorem gmc_95 : sm_code 95 ∈ tables_1 := gin_5 (List.mem_of_getElem? (i := 194) rfl)
set_option maxRecDepth 20000 in
theorem gmc_96 : sm_code 96 ∈ tables_1 := gin_5 (List.mem_of_getElem? (i := 198) rfl)
set_option maxRecDepth 20000 in
theorem gmc_97 : sm_code 97 ∈ tables_1 := gin_5 (List.mem_of_getElem? (i := 202) rfl)
set_option maxRecDepth 20000 in
theorem gmc_98 : sm_code 98 ∈ tables_1 := gin_5 (List.mem_of_getElem? (i := 206) rfl)
set_option maxRecDepth 20000 in
theorem gmc_99 : sm_code 99 ∈ tables_1 := gin_5 (List.mem_of_getElem? (i := 210) rfl)
set_option maxRecDepth 20000 in
theorem gmc_100 : sm_code 100 ∈ tables_1 := gin_5 (List.mem_of_getElem? (i := 214) rfl)
set_option maxRecDepth 20000 in
theorem gmc_101 : sm_code 101 ∈ tables_1 := gin_5 (List.mem_of_getElem? (i := 218) rfl)
set_option maxRecDepth 20000 in
theorem gmc_102 : sm_code 102 ∈ tables_1 := gin_5 (List.mem_of_getElem? (i := 222) rfl)
set_option maxRecDepth 20000 in
theorem gmc_103 : sm_code 103 ∈ tables_1 := gin_5 (List.mem_of_getElem? (i := 226) rfl)
set_option maxRecDepth 20000 in
theorem gmc_104 : sm_code 104 ∈ tables_1 := gin_5 (List.mem_of_getElem? (i := 230) rfl)
set_option maxRecDepth 20000 in
theorem gmc_105 : sm_code 105 ∈ tables_1 := gin_5 (List.mem_of_getElem? (i := 234) rfl)
set_option maxRecDepth 20000 in
theorem gmc_106 : sm_code 106 ∈ tables_1 := gin_5 (List.mem_of_getElem? (i := 238) rfl)
set_option maxRecDepth 20000 in
theorem gmc_107 : sm_code 107 ∈ tables_1 := gin_6 (List.mem_of_getElem? (i := 2) rfl)
set_option maxRecDepth 20000 in
theorem gmc_108 : sm_code 108 ∈ tables_1 := gin_6 (List.mem_of_getElem? (i := 6) rfl)
set_option maxRecDepth 20000 in
theorem gmc_109 : sm_code 109 ∈ tables_1 := gin_6 (List.mem_of_getElem? (i := 10) rfl)
set_option maxRecDepth 20000 in
theorem gmc_110 : sm_code 110 ∈ tables_1 := gin_6 (List.mem_of_getElem? (i := 14) rfl)
set_option maxRecDepth 20000 in
theorem gmc_111 : sm_code 111 ∈ tables_1 := gin_6 (List.mem_of_getElem? (i := 18) rfl)
set_option maxRecDepth 20000 in
theorem gmc_112 : sm_code 112 ∈ tables_1 := gin_6 (List.mem_of_getElem? (i := 22) rfl)
set_option maxRecDepth 20000 in
theorem gmc_113 : sm_code 113 ∈ tables_1 := gin_6 (List.mem_of_getElem? (i := 26) rfl)
set_option maxRecDepth 20000 in
theorem gmc_114 : sm_code 114 ∈ tables_1 := gin_6 (List.mem_of_getElem? (i := 30) rfl)
set_option maxRecDepth 20000 in
theorem gmc_115 : sm_code 115 ∈ tables_1 := gin_6 (List.mem_of_getElem? (i := 35) rfl)
set_option maxRecDepth 20000 in
theorem gmc_116 : sm_code 116 ∈ tables_1 := gin_6 (List.mem_of_getElem? (i := 39) rfl)
set_option maxRecDepth 20000 in
theorem gmc_117 : sm_code 117 ∈ tables_1 := gin_6 (List.mem_of_getElem? (i := 43) rfl)
set_option maxRecDepth 20000 in
theorem gmc_118 : sm_code 118 ∈ tables_1 := gin_6 (List.mem_of_getElem? (i := 48) rfl)
set_option maxRecDepth 20000 in
theorem gmc_119 : sm_code 119 ∈ tables_1 := gin_6 (List.mem_of_getElem? (i := 52) rfl)
set_option maxRecDepth 20000 in
theorem gmc_120 : sm_code 120 ∈ tables_1 := gin_6 (List.mem_of_getElem? (i := 56) rfl)
set_option maxRecDepth 20000 in
theorem gmc_121 : sm_code 121 ∈ tables_1 := gin_6 (List.mem_of_getElem? (i := 60) rfl)
set_option maxRecDepth 20000 in
theorem gmc_122 : sm_code 122 ∈ tables_1 := gin_6 (List.mem_of_getElem? (i := 64) rfl)
set_option maxRecDepth 20000 in
theorem gmc_123 : sm_code 123 ∈ tables_1 := gin_3 (List.mem_of_getElem? (i := 121) rfl)
set_option maxRecDepth 20000 in
theorem gmc_124 : sm_code 124 ∈ tables_1 := gin_6 (List.mem_of_getElem? (i := 68) rfl)
set_option maxRecDepth 20000 in
theorem gmc_125 : sm_code 125 ∈ tables_1 := gin_3 (List.mem_of_getElem? (i := 125) rfl)
set_option maxRecDepth 20000 in
theorem gmc_126 : sm_code 126 ∈ tables_1 := gin_3 (List.mem_of_getElem? (i := 130) rfl)
set_option maxRecDepth 20000 in
theorem gmc_127 : sm_code 127 ∈ tables_1 := gin_3 (List.mem_of_getElem? (i := 134) rfl)
set_option maxRecDepth 20000 in
theorem gmc_128 : sm_code 128 ∈ tables_1 := gin_6 (List.mem_of_getElem? (i := 72) rfl)
set_option maxRecDepth 20000 in
theorem gmc_129 : sm_code 129 ∈ tables_1 := gin_6 (List.mem_of_getElem? (i := 76) rfl)
set_option maxRecDepth 20000 in
theorem gmc_130 : sm_code 130 ∈ tables_1 := gin_3 (List.mem_of_getElem? (i := 138) rfl)
set_option maxRecDepth 20000 in
theorem gmc_131 : sm_code 131 ∈ tables_1 := gin_3 (List.mem_of_getElem? (i := 141) rfl)
set_option maxRecDepth 20000 in
theorem gmc_132 : sm_code 132 ∈ tables_1 := gin_6 (List.mem_of_getElem? (i := 80) rfl)
set_option maxRecDepth 20000 in
theorem gmc_133 : sm_code 133 ∈ tables_1 := gin_3 (List.mem_of_getElem? (i := 145) rfl)
set_option maxRecDepth 20000 in
theorem gmc_134 : sm_code 134 ∈ tables_1 := gin_3 (List.mem_of_getElem? (i := 149) rfl)
set_option maxRecDepth 20000 in
theorem gmc_135 : sm_code 135 ∈ tables_1 := gin_6 (List.mem_of_getElem? (i := 84) rfl)
set_option maxRecDepth 20000 in
theorem gmc_136 : sm_code 136 ∈ tables_1 := gin_3 (List.mem_of_getElem? (i := 153) rfl)
set_option maxRecDepth 20000 in
theorem gmc_137 : sm_code 137 ∈ tables_1 := gin_6 (List.mem_of_getElem? (i := 90) rfl)
set_option maxRecDepth 20000 in
theorem gmc_138 : sm_code 138 ∈ tables_1 := gin_3 (List.mem_of_getElem? (i := 158) rfl)
set_option maxRecDepth 20000 in
theorem gmc_139 : sm_code 139 ∈ tables_1 := gin_3 (List.mem_of_getElem? (i := 162) rfl)
set_option maxRecDepth 20000 in
theorem gmc_140 : sm_code 140 ∈ tables_1 := gin_6 (List.mem_of_getElem? (i := 94) rfl)
set_option maxRecDepth 20000 in
theorem gmc_141 : sm_code 141 ∈ tables_1 := gin_3 (List.mem_of_getElem? (i := 168) rfl)
set_option maxRecDepth 20000 in
theorem gmc_142 : sm_code 142 ∈ tables_1 := gin_3 (List.mem_of_getElem? (i := 172) rfl)
set_option maxRecDepth 20000 in
theorem gmc_143 : sm_code 143 ∈ tables_1 := gin_3 (List.mem_of_getElem? (i := 176) rfl)
set_option maxRecDepth 20000 in
theorem gmc_144 : sm_code 144 ∈ tables_1 := gin_3 (List.mem_of_getElem? (i := 181) rfl)
set_option maxRecDepth 20000 in
theorem gmc_145 : sm_code 145 ∈ tables_1 := gin_3 (List.mem_of_getElem? (i := 185) rfl)
set_option maxRecDepth 20000 in
theorem gmc_146 : sm_code 146 ∈ tables_1 := gin_3 (List.mem_of_getElem? (i := 188) rfl)
set_option maxRecDepth 20000 in
theorem gmc_147 : sm_code 147 ∈ tables_1 := gin_3 (List.mem_of_getElem? (i := 192) rfl)
set_option maxRecDepth 20000 in
theorem gmc_148 : sm_code 148 ∈ tables_1 := gin_3 (List.mem_of_getElem? (i := 197) rfl)
set_option maxRecDepth 20000 in
theorem gmc_149 : sm_code 149 ∈ tables_1 := gin_3 (List.mem_of_getElem? (i := 201) rfl)
set_option maxRecDepth 20000 in
theorem gmc_150 : sm_code 150 ∈ tables_1 := gin_3 (List.mem_of_getElem? (i := 204) rfl)
set_option maxRecDepth 20000 in
theorem gmc_151 : sm_code 151 ∈ tables_1 := gin_3 (List.mem_of_getElem? (i := 208) rfl)
set_option maxRecDepth 20000 in
theorem gmc_152 : sm_code 152 ∈ tables_1 := gin_3 (List.mem_of_getElem? (i := 211) rfl)
set_option maxRecDepth 20000 in
theorem gmc_153 : sm_code 153 ∈ tables_1 := gin_3 (List.mem_of_getElem? (i := 215) rfl)
set_option maxRecDepth 20000 in
theorem gmc_154 : sm_code 154 ∈ tables_1 := gin_3 (List.mem_of_getElem? (i := 219) rfl)
set_option maxRecDepth 20000 in
theorem gmc_155 : sm_code 155 ∈ tables_1 := gin_3 (List.mem_of_getElem? (i := 223) rfl)
set_option maxRecDepth 20000 in
theorem gmc_156 : sm_code 156 ∈ tables_1 := gin_3 (List.mem_of_getElem? (i := 227) rfl)
set_option maxRecDepth 20000 in
theorem gmc_157 : sm_code 157 ∈ tables_1 := gin_3 (List.mem_of_getElem? (i := 231) rfl)
set_option maxRecDepth 20000 in
theorem gmc_158 : sm_code 158 ∈ tables_1 := gin_3 (List.mem_of_getElem? (i := 236) rfl)
set_option maxRecDepth 20000 in
theorem gmc_159 : sm_code 159 ∈ tables_1 := gin_4 (List.mem_of_getElem? (i := 1) rfl)
set_option maxRecDepth 20000 in
theorem gmc_160 : sm_code 160 ∈ tables_1 := gin_4 (List.mem_of_getElem? (i := 5) rfl)
set_option maxRecDepth 20000 in
theorem gmc_161 : sm_code 161 ∈ tables_1 := gin_4 (List.mem_of_getElem? (i := 9) rfl)
set_option maxRecDepth 20000 in
theorem gmc_162 : sm_code 162 ∈ tables_1 := gin_4 (List.mem_of_getElem? (i := 13) rfl)
set_option maxRecDepth 20000 in
theorem gmc_163 : sm_code 163 ∈ tables_1 := gin_4 (List.mem_of_getElem? (i := 17) rfl)
set_option maxRecDepth 20000 in
theorem gmc_164 : sm_code 164 ∈ tables_1 := gin_4 (List.mem_of_getElem? (i := 21) rfl)
set_option maxRecDepth 20000 in
theorem gmc_165 : sm_code 165 ∈ tables_1 := gin_4 (List.mem_of_getElem? (i := 25) rfl)
set_option maxRecDepth 20000 in
theorem gmc_166 : sm_code 166 ∈ tables_1 := gin_4 (List.mem_of_getElem? (i := 29) rfl)
set_option maxRecDepth 20000 in
theorem gmc_167 : sm_code 167 ∈ tables_1 := gin_4 (List.mem_of_getElem? (i := 33) rfl)
set_option maxRecDepth 20000 in
theorem gmc_168 : sm_code 168 ∈ tables_1 := gin_4 (List.mem_of_getElem? (i := 37) rfl)
set_option maxRecDepth 20000 in
theorem gmc_169 : sm_code 169 ∈ tables_1 := gin_4 (List.mem_of_getElem? (i := 41) rfl)
set_option maxRecDepth 20000 in
theorem gmc_170 : sm_code 170 ∈ tables_1 := gin_4 (List.mem_of_getElem? (i := 45) rfl)
set_option maxRecDepth 20000 in
theorem gmc_171 : sm_code 171 ∈ tables_1 := gin_4 (List.mem_of_getElem? (i := 49) rfl)
set_option maxRecDepth 20000 in
theorem gmc_172 : sm_code 172 ∈ tables_1 := gin_4 (List.mem_of_getElem? (i := 53) rfl)
set_option maxRecDepth 20000 in
theorem gmc_173 : sm_code 173 ∈ tables_1 := gin_4 (List.mem_of_getElem? (i := 57) rfl)
set_option maxRecDepth 20000 in
theorem gmc_174 : sm_code 174 ∈ tables_1 := gin_4 (List.mem_of_getElem? (i := 61) rfl)
set_option maxRecDepth 20000 in
theorem gmc_175 : sm_code 175 ∈ tables_1 := gin_4 (List.mem_of_getElem? (i := 65) rfl)
set_option maxRecDepth 20000 in
theorem gmc_176 : sm_code 176 ∈ tables_1 := gin_6 (List.mem_of_getElem? (i := 98) rfl)
set_option maxRecDepth 20000 in
theorem gmc_177 : sm_code 177 ∈ tables_1 := gin_6 (List.mem_of_getElem? (i := 101) rfl)
set_option maxRecDepth 20000 in
theorem gmc_178 : sm_code 178 ∈ tables_1 := gin_6 (List.mem_of_getElem? (i := 105) rfl)
set_option maxRecDepth 20000 in
theorem gmc_179 : sm_code 179 ∈ tables_1 := gin_6 (List.mem_of_getElem? (i := 109) rfl)
set_option maxRecDepth 20000 in
theorem gmc_180 : sm_code 180 ∈ tables_1 := gin_6 (List.mem_of_getElem? (i := 113) rfl)
set_option maxRecDepth 20000 in
theorem gmc_181 : sm_code 181 ∈ tables_1 := gin_6 (List.mem_of_getElem? (i := 117) rfl)
set_option maxRecDepth 20000 in
theorem gmc_182 : sm_code 182 ∈ tables_1 := gin_6 (List.mem_of_getElem? (i := 121) rfl)
set_option maxRecDepth 20000 in
theorem gmc_183 : sm_code 183 ∈ tables_1 := gin_6 (List.mem_of_getElem? (i := 124) rfl)
set_option maxRecDepth 20000 in
theorem gmc_184 : sm_code 184 ∈ tables_1 := gin_6 (List.mem_of_getElem? (i := 128) rfl)
set_option maxRecDepth 20000 in
theorem gmc_185 : sm_code 185 ∈ tables_1 := gin_6 (List.mem_of_getElem? (i := 132) rfl)
set_option maxRecDepth 20000 in
theorem gmc_186 : sm_code 186 ∈ tables_1 := gin_6 (List.mem_of_getElem? (i := 135) rfl)
set_option maxRecDepth 20000 in
theorem gmc_187 : sm_code 187 ∈ tables_1 := gin_6 (List.mem_of_getElem? (i := 139) rfl)
set_option maxRecDepth 20000 in
theorem gmc_188 : sm_code 188 ∈ tables_1 := gin_6 (List.mem_of_getElem? (i := 143) rfl)
set_option maxRecDepth 20000 in
theorem gmc_189 : sm_code 189 ∈ tables_1 := gin_6 (List.mem_of_getElem? (i := 147) rfl)
set_option maxRecDepth 20000 in
theorem gmc_190 : sm_code 190 ∈ tables_1 := gin_6 (List.mem_of_getElem? (i := 151) rfl)
set_option maxRecDepth 20000 in
theorem gmc_191 : sm_code 191 ∈ tables_1 := gin_6 (List.mem_of_getElem? (i := 155) rfl)
set_option maxRecDepth 20000 in
theorem gmc_192 : sm_code 192 ∈ tables_1 := gin_6 (List.mem_of_getElem? (i := 159) rfl)
set_option maxRecDepth 20000 in
theorem gmc_193 : sm_code 193 ∈ tables_1 := gin_6 (List.mem_of_getElem? (i := 163) rfl)
set_option maxRecDepth 20000 in
theorem gmc_194 : sm_code 194 ∈ tables_1 := gin_6 (List.mem_of_getElem? (i := 166) rfl)
set_option maxRecDepth 20000 in
theorem gmc_195 : sm_code 195 ∈ tables_1 := gin_6 (List.mem_of_getElem? (i := 170) rfl)
set_option maxRecDepth 20000 in
theorem gmc_196 : sm_code 196 ∈ tables_1 := gin_6 (List.mem_of_getElem? (i := 174) rfl)
set_option maxRecDepth 20000 in
theorem gmc_197 : sm_code 197 ∈ tables_1 := gin_4 (List.mem_of_getElem? (i := 70) rfl)
set_option maxRecDepth 20000 in
theorem gmc_198 : sm_code 198 ∈ tables_1 := gin_4 (List.mem_of_getElem? (i := 75) rfl)
set_option maxRecDepth 20000 in
theorem gmc_199 : sm_code 199 ∈ tables_1 := gin_6 (List.mem_of_getElem? (i := 178) rfl)
set_option maxRecDepth 20000 in
theorem gmc_200 : sm_code 200 ∈ tables_1 := gin_4 (List.mem_of_getElem? (i := 79) rfl)
set_option maxRecDepth 20000 in
theorem gmc_201 : sm_code 201 ∈ tables_1 := gin_4 (List.mem_of_getElem? (i := 84) rfl)
set_option maxRecDepth 20000 in
theorem gmc_202 : sm_code 202 ∈ tables_1 := gin_4 (List.mem_of_getElem? (i := 89) rfl)
set_option maxRecDepth 20000 in
theorem gmc_203 : sm_code 203 ∈ tables_1 := gin_6 (List.mem_of_getElem? (i := 183) rfl)
set_option maxRecDepth 20000 in
theorem gmc_204 : sm_code 204 ∈ tables_1 := gin_4 (List.mem_of_getElem? (i := 93) rfl)
set_option maxRecDepth 20000 in
theorem gmc_205 : sm_code 205 ∈ tables_1 := gin_6 (List.mem_of_getElem? (i := 187) rfl)
set_option maxRecDepth 20000 in
theorem gmc_206 : sm_code 206 ∈ tables_1 := gin_4 (List.mem_of_getElem? (i := 97) rfl)
set_option maxRecDepth 20000 in
theorem gmc_207 : sm_code 207 ∈ tables_1 := gin_6 (List.mem_of_getElem? (i := 191) rfl)
set_option maxRecDepth 20000 in
theorem gmc_208 : sm_code 208 ∈ tables_1 := gin_4 (List.mem_of_getElem? (i := 103) rfl)
set_option maxRecDepth 20000 in
theorem gmc_209 : sm_code 209 ∈ tables_1 := gin_4 (List.mem_of_getElem? (i := 107) rfl)
set_option maxRecDepth 20000 in
theorem gmc_210 : sm_code 210 ∈ tables_1 := gin_4 (List.mem_of_getElem? (i := 111) rfl)
set_option maxRecDepth 20000 in
theorem gmc_211 : sm_code 211 ∈ tables_1 := gin_6 (List.mem_of_getElem? (i := 195) rfl)
set_option maxRecDepth 20000 in
theorem gmc_212 : sm_code 212 ∈ tables_1 := gin_4 (List.mem_of_getElem? (i := 115) rfl)
set_option maxRecDepth 20000 in
theorem gmc_213 : sm_code 213 ∈ tables_1 := gin_6 (List.mem_of_getElem? (i := 199) rfl)
set_option maxRecDepth 20000 in
theorem gmc_214 : sm_code 214 ∈ tables_1 := gin_4 (List.mem_of_getElem? (i := 119) rfl)
set_option maxRecDepth 20000 in
theorem gmc_215 : sm_code 215 ∈ tables_1 := gin_6 (List.mem_of_getElem? (i := 203) rfl)
set_option maxRecDepth 20000 in
theorem gmc_216 : sm_code 216 ∈ tables_1 := gin_4 (List.mem_of_getElem? (i := 123) rfl)
set_option maxRecDepth 20000 in
theorem gmc_217 : sm_code 217 ∈ tables_1 := gin_4 (List.mem_of_getElem? (i := 127) rfl)
set_option maxRecDepth 20000 in
theorem gmc_218 : sm_code 218 ∈ tables_1 := gin_6 (List.mem_of_getElem? (i := 207) rfl)
set_option maxRecDepth 20000 in
theorem gmc_219 : sm_code 219 ∈ tables_1 := gin_4 (List.mem_of_getElem? (i := 131) rfl)
set_option maxRecDepth 20000 in
theorem gmc_220 : sm_code 220 ∈ tables_1 := gin_4 (List.mem_of_getElem? (i := 135) rfl)
set_option maxRecDepth 20000 in
theorem gmc_221 : sm_code 221 ∈ tables_1 := gin_6 (List.mem_of_getElem? (i := 211) rfl)
set_option maxRecDepth 20000 in
theorem gmc_222 : sm_code 222 ∈ tables_1 := gin_4 (List.mem_of_getElem? (i := 139) rfl)
set_option maxRecDepth 20000 in
theorem gmc_223 : sm_code 223 ∈ tables_1 := gin_4 (List.mem_of_getElem? (i := 142) rfl)
set_option maxRecDepth 20000 in
theorem gmc_224 : sm_code 224 ∈ tables_1 := gin_4 (List.mem_of_getElem? (i := 146) rfl)
set_option maxRecDepth 20000 in
theorem gmc_225 : sm_code 225 ∈ tables_1 := gin_4 (List.mem_of_getElem? (i := 153) rfl)
set_option maxRecDepth 20000 in
theorem gmc_226 : sm_code 226 ∈ tables_1 := gin_4 (List.mem_of_getElem? (i := 157) rfl)
set_option maxRecDepth 20000 in
theorem gmc_227 : sm_code 227 ∈ tables_1 := gin_4 (List.mem_of_getElem? (i := 161) rfl)
set_option maxRecDepth 20000 in
theorem gmc_228 : sm_code 228 ∈ tables_1 := gin_6 (List.mem_of_getElem? (i := 215) rfl)
set_option maxRecDepth 20000 in
theorem gmc_229 : sm_code 229 ∈ tables_1 := gin_6 (List.mem_of_getElem? (i := 218) rfl)
set_option maxRecDepth 20000 in
theorem gmc_230 : sm_code 230 ∈ tables_1 := gin_6 (List.mem_of_getElem? (i := 222) rfl)
set_option maxRecDepth 20000 in
theorem gmc_231 : sm_code 231 ∈ tables_1 := gin_4 (List.mem_of_getElem? (i := 165) rfl)
set_option maxRecDepth 20000 in
theorem gmc_232 : sm_code 232 ∈ tables_1 := gin_4 (List.mem_of_getElem? (i := 169) rfl)
set_option maxRecDepth 20000 in
theorem gmc_233 : sm_code 233 ∈ tables_1 := gin_6 (List.mem_of_getElem? (i := 226) rfl)
set_option maxRecDepth 20000 in
theorem gmc_234 : sm_code 234 ∈ tables_1 := gin_4 (List.mem_of_getElem? (i := 174) rfl)
set_option maxRecDepth 20000 in
theorem gmc_235 : sm_code 235 ∈ tables_1 := gin_4 (List.mem_of_getElem? (i := 178) rfl)
set_option maxRecDepth 20000 in
theorem gmc_236 : sm_code 236 ∈ tables_1 := gin_6 (List.mem_of_getElem? (i := 230) rfl)
set_option maxRecDepth 20000 in
theorem gmc_237 : sm_code 237 ∈ tables_1 := gin_4 (List.mem_of_getElem? (i := 183) rfl)
set_option maxRecDepth 20000 in
theorem gmc_238 : sm_code 238 ∈ tables_1 := gin_6 (List.mem_of_getElem? (i := 234) rfl)
set_option maxRecDepth 20000 in
theorem gmc_239 : sm_code 239 ∈ tables_1 := gin_4 (List.mem_of_getElem? (i := 188) rfl)
set_option maxRecDepth 20000 in
theorem gmc_240 : sm_code 240 ∈ tables_1 := gin_6 (List.mem_of_getElem? (i := 238) rfl)
set_option maxRecDepth 20000 in
theorem gmc_241 : sm_code 241 ∈ tables_1 := gin_4 (List.mem_of_getElem? (i := 192) rfl)
set_option maxRecDepth 20000 in
theorem gmc_242 : sm_code 242 ∈ tables_1 := gin_7 (List.mem_of_getElem? (i := 2) rfl)
theorem gmcl_0 : ∀ y ∈ ([1, 2, 3, 4, 5, 6, 7, 8, 9, 10, 11, 12, 13, 14, 15, 16, 17, 18, 19, 20, 21, 22, 23, 24, 25, 26, 27, 28, 29, 30, 31, 32, 33, 34, 35, 36, 37, 38, 39, 40] : List Nat), sm_code y ∈ tables_1 := List.forall_mem_cons.mpr ⟨gmc_1, List.forall_mem_cons.mpr ⟨gmc_2, List.forall_mem_cons.mpr ⟨gmc_3, List.forall_mem_cons.mpr ⟨gmc_4, List.forall_mem_cons.mpr ⟨gmc_5, List.forall_mem_cons.mpr ⟨gmc_6, List.forall_mem_cons.mpr ⟨gmc_7, List.forall_mem_cons.mpr ⟨gmc_8, List.forall_mem_cons.mpr ⟨gmc_9, List.forall_mem_cons.mpr ⟨gmc_10, List.forall_mem_cons.mpr ⟨gmc_11, List.forall_mem_cons.mpr ⟨gmc_12, List.forall_mem_cons.mpr ⟨gmc_13, List.forall_mem_cons.mpr ⟨gmc_14, List.forall_mem_cons.mpr ⟨gmc_15, List.forall_mem_cons.mpr ⟨gmc_16, List.forall_mem_cons.mpr ⟨gmc_17, List.forall_mem_cons.mpr ⟨gmc_18, List.forall_mem_cons.mpr ⟨gmc_19, List.forall_mem_cons.mpr ⟨gmc_20, List.forall_mem_cons.mpr ⟨gmc_21, List.forall_mem_cons.mpr ⟨gmc_22, List.forall_mem_cons.mpr ⟨gmc_23, List.forall_mem_cons.mpr ⟨gmc_24, List.forall_mem_cons.mpr ⟨gmc_25, List.forall_mem_cons.mpr ⟨gmc_26, List.forall_mem_cons.mpr ⟨gmc_27, List.forall_mem_cons.mpr ⟨gmc_28, List.forall_mem_cons.mpr ⟨gmc_29, List.forall_mem_cons.mpr ⟨gmc_30, List.forall_mem_cons.mpr ⟨gmc_31, List.forall_mem_cons.mpr ⟨gmc_32, List.forall_mem_cons.mpr ⟨gmc_33, List.forall_mem_cons.mpr ⟨gmc_34, List.forall_mem_cons.mpr ⟨gmc_35, List.forall_mem_cons.mpr ⟨gmc_36, List.forall_mem_cons.mpr ⟨gmc_37, List.forall_mem_cons.mpr ⟨gmc_38, List.forall_mem_cons.mpr ⟨gmc_39, List.forall_mem_cons.mpr ⟨gmc_40, fun _ h => absurd h List.not_mem_nil⟩⟩⟩⟩⟩⟩⟩⟩⟩⟩⟩⟩⟩⟩⟩⟩⟩⟩⟩⟩⟩⟩⟩⟩⟩⟩⟩⟩⟩⟩⟩⟩⟩⟩⟩⟩⟩⟩⟩⟩
theorem gmcl_40 : ∀ y ∈ ([41, 42, 43, 44, 45, 46, 47, 48, 49, 50, 51, 52, 53, 54, 55, 56, 57, 58, 59, 60, 61, 62, 63, 64, 65, 66, 67, 68, 69, 70, 71, 72, 73, 74, 75, 76, 77, 78, 79, 80] : List Nat), sm_code y ∈ tables_1 := List.forall_mem_cons.mpr ⟨gmc_41, List.forall_mem_cons.mpr ⟨gmc_42, List.forall_mem_cons.mpr ⟨gmc_43, List.forall_mem_cons.mpr ⟨gmc_44, List.forall_mem_cons.mpr ⟨gmc_45, List.forall_mem_cons.mpr ⟨gmc_46, List.forall_mem_cons.mpr ⟨gmc_47, List.forall_mem_cons.mpr ⟨gmc_48, List.forall_mem_cons.mpr ⟨gmc_49, List.forall_mem_cons.mpr ⟨gmc_50, List.forall_mem_cons.mpr ⟨gmc_51, List.forall_mem_cons.mpr ⟨gmc_52, List.forall_mem_cons.mpr ⟨gmc_53, List.forall_mem_cons.mpr ⟨gmc_54, List.forall_mem_cons.mpr ⟨gmc_55, List.forall_mem_cons.mpr ⟨gmc_56, List.forall_mem_cons.mpr ⟨gmc_57, List.forall_mem_cons.mpr ⟨gmc_58, List.forall_mem_cons.mpr ⟨gmc_59, List.forall_mem_cons.mpr ⟨gmc_60, List.forall_mem_cons.mpr ⟨gmc_61, List.forall_mem_cons.mpr ⟨gmc_62, List.forall_mem_cons.mpr ⟨gmc_63, List.forall_mem_cons.mpr ⟨gmc_64, List.forall_mem_cons.mpr ⟨gmc_65, List.forall_mem_cons.mpr ⟨gmc_66, List.forall_mem_cons.mpr ⟨gmc_67, List.forall_mem_cons.mpr ⟨gmc_68, List.forall_mem_cons.mpr ⟨gmc_69, List.forall_mem_cons.mpr ⟨gmc_70, List.forall_mem_cons.mpr ⟨gmc_71, List.forall_mem_cons.mpr ⟨gmc_72, List.forall_mem_cons.mpr ⟨gmc_73, List.forall_mem_cons.mpr ⟨gmc_74, List.forall_mem_cons.mpr ⟨gmc_75, List.forall_mem_cons.mpr ⟨gmc_76, List.forall_mem_cons.mpr ⟨gmc_77, List.forall_mem_cons.mpr ⟨gmc_78, List.forall_mem_cons.mpr ⟨gmc_79, List.forall_mem_cons.mpr ⟨gmc_80, fun _ h => absurd h List.not_mem_nil⟩⟩⟩⟩⟩⟩⟩⟩⟩⟩⟩⟩⟩⟩⟩⟩⟩⟩⟩⟩⟩⟩⟩⟩⟩⟩⟩⟩⟩⟩⟩⟩⟩⟩⟩⟩⟩⟩⟩⟩
theorem gmcl_80 : ∀ y ∈ ([81, 82, 83, 84, 85, 86, 87, 88, 89, 90, 91, 92, 93, 94, 95, 96, 97, 98, 99, 100, 101, 102, 103, 104, 105, 106, 107, 108, 109, 110, 111, 112, 113, 114, 115, 116, 117, 118, 119, 120] : List Nat), sm_code y ∈ tables_1 := List.forall_mem_cons.mpr ⟨gmc_81, List.forall_mem_cons.mpr ⟨gmc_82, List.forall_mem_cons.mpr ⟨gmc_83, List.forall_mem_cons.mpr ⟨gmc_84, List.forall_mem_cons.mpr ⟨gmc_85, List.forall_mem_cons.mpr ⟨gmc_86, List.forall_mem_cons.mpr ⟨gmc_87, List.forall_mem_cons.mpr ⟨gmc_88, List.forall_mem_cons.mpr ⟨gmc_89, List.forall_mem_cons.mpr ⟨gmc_90, List.forall_mem_cons.mpr ⟨gmc_91, List.forall_mem_cons.mpr ⟨gmc_92, List.forall_mem_cons.mpr ⟨gmc_93, List.forall_mem_cons.mpr ⟨gmc_94, List.forall_mem_cons.mpr ⟨gmc_95, List.forall_mem_cons.mpr ⟨gmc_96, List.forall_mem_cons.mpr ⟨gmc_97, List.forall_mem_cons.mpr ⟨gmc_98, List.forall_mem_cons.mpr ⟨gmc_99, List.forall_mem_cons.mpr ⟨gmc_100, List.forall_mem_cons.mpr ⟨gmc_101, List.forall_mem_cons.mpr ⟨gmc_102, List.forall_mem_cons.mpr ⟨gmc_103, List.forall_mem_cons.mpr ⟨gmc_104, List.forall_mem_cons.mpr ⟨gmc_105, List.forall_mem_cons.mpr ⟨gmc_106, List.forall_mem_cons.mpr ⟨gmc_107, List.forall_mem_cons.mpr ⟨gmc_108, List.forall_mem_cons.mpr ⟨gmc_109, List.forall_mem_cons.mpr ⟨gmc_110, List.forall_mem_cons.mpr ⟨gmc_111, List.forall_mem_cons.mpr ⟨gmc_112, List.forall_mem_cons.mpr ⟨gmc_113, List.forall_mem_cons.mpr ⟨gmc_114, List.forall_mem_cons.mpr ⟨gmc_115, List.forall_mem_cons.mpr ⟨gmc_116, List.forall_mem_cons.mpr ⟨gmc_117, List.forall_mem_cons.mpr ⟨gmc_118, List.forall_mem_cons.mpr ⟨gmc_119, List.forall_mem_cons.mpr ⟨gmc_120, fun _ h => absurd h List.not_mem_nil⟩⟩⟩⟩⟩⟩⟩⟩⟩⟩⟩⟩⟩⟩⟩⟩⟩⟩⟩⟩⟩⟩⟩⟩⟩⟩⟩⟩⟩⟩⟩⟩⟩⟩⟩⟩⟩⟩⟩⟩
theorem gmcl_120 : ∀ y ∈ ([121, 122, 123, 124, 125, 126, 127, 128, 129, 130, 131, 132, 133, 134, 135, 136, 137, 138, 139, 140, 141, 142, 143, 144, 145, 146, 147, 148, 149, 150, 151, 152, 153, 154, 155, 156, 157, 158, 159, 160] : List Nat), sm_code y ∈ tables_1 := List.forall_mem_cons.mpr ⟨gmc_121, List.forall_mem_cons.mpr ⟨gmc_122, List.forall_mem_cons.mpr ⟨gmc_123, List.forall_mem_cons.mpr ⟨gmc_124, List.forall_mem_cons.mpr ⟨gmc_125, List.forall_mem_cons.mpr ⟨gmc_126, List.forall_mem_cons.mpr ⟨gmc_127, List.forall_mem_cons.mpr ⟨gmc_128, List.forall_mem_cons.mpr ⟨gmc_129, List.forall_mem_cons.mpr ⟨gmc_130, List.forall_mem_cons.mpr ⟨gmc_131, List.forall_mem_cons.mpr ⟨gmc_132, List.forall_mem_cons.mpr ⟨gmc_133, List.forall_mem_cons.mpr ⟨gmc_134, List.forall_mem_cons.mpr ⟨gmc_135, List.forall_mem_cons.mpr ⟨gmc_136, List.forall_mem_cons.mpr ⟨gmc_137, List.forall_mem_cons.mpr ⟨gmc_138, List.forall_mem_cons.mpr ⟨gmc_139, List.forall_mem_cons.mpr ⟨gmc_140, List.forall_mem_cons.mpr ⟨gmc_141, List.forall_mem_cons.mpr ⟨gmc_142, List.forall_mem_cons.mpr ⟨gmc_143, List.forall_mem_cons.mpr ⟨gmc_144, List.forall_mem_cons.mpr ⟨gmc_145, List.forall_mem_cons.mpr ⟨gmc_146, List.forall_mem_cons.mpr ⟨gmc_147, List.forall_mem_cons.mpr ⟨gmc_148, List.forall_mem_cons.mpr ⟨gmc_149, List.forall_mem_cons.mpr ⟨gmc_150, List.forall_mem_cons.mpr ⟨gmc_151, List.forall_mem_cons.mpr ⟨gmc_152, List.forall_mem_cons.mpr ⟨gmc_153, List.forall_mem_cons.mpr ⟨gmc_154, List.forall_mem_cons.mpr ⟨gmc_155, List.forall_mem_cons.mpr ⟨gmc_156, List.forall_mem_cons.mpr ⟨gmc_157, List.forall_mem_cons.mpr ⟨gmc_158, List.forall_mem_cons.mpr ⟨gmc_159, List.forall_mem_cons.mpr ⟨gmc_160, fun _ h => absurd h List.not_mem_nil⟩⟩⟩⟩⟩⟩⟩⟩⟩⟩⟩⟩⟩⟩⟩⟩⟩⟩⟩⟩⟩⟩⟩⟩⟩⟩⟩⟩⟩⟩⟩⟩⟩⟩⟩⟩⟩⟩⟩⟩
theorem gmcl_160 : ∀ y ∈ ([161, 162, 163, 164, 165, 166, 167, 168, 169, 170, 171, 172, 173, 174, 175, 176, 177, 178, 179, 180, 181, 182, 183, 184, 185, 186, 187, 188, 189, 190, 191, 192, 193, 194, 195, 196, 197, 198, 199, 200] : List Nat), sm_code y ∈ tables_1 := List.forall_mem_cons.mpr ⟨gmc_161, List.forall_mem_cons.mpr ⟨gmc_162, List.forall_mem_cons.mpr ⟨gmc_163, List.forall_mem_cons.mpr ⟨gmc_164, List.forall_mem_cons.mpr ⟨gmc_165, List.forall_mem_cons.mpr ⟨gmc_166, List.forall_mem_cons.mpr ⟨gmc_167, List.forall_mem_cons.mpr ⟨gmc_168, List.forall_mem_cons.mpr ⟨gmc_169, List.forall_mem_cons.mpr ⟨gmc_170, List.forall_mem_cons.mpr ⟨gmc_171, List.forall_mem_cons.mpr ⟨gmc_172, List.forall_mem_cons.mpr ⟨gmc_173, List.forall_mem_cons.mpr ⟨gmc_174, List.forall_mem_cons.mpr ⟨gmc_175, List.forall_mem_cons.mpr ⟨gmc_176, List.forall_mem_cons.mpr ⟨gmc_177, List.forall_mem_cons.mpr ⟨gmc_178, List.forall_mem_cons.mpr ⟨gmc_179, List.forall_mem_cons.mpr ⟨gmc_180, List.forall_mem_cons.mpr ⟨gmc_181, List.forall_mem_cons.mpr ⟨gmc_182, List.forall_mem_cons.mpr ⟨gmc_183, List.forall_mem_cons.mpr ⟨gmc_184, List.forall_mem_cons.mpr ⟨gmc_185, List.forall_mem_cons.mpr ⟨gmc_186, List.forall_mem_cons.mpr ⟨gmc_187, List.forall_mem_cons.mpr ⟨gmc_188, List.forall_mem_cons.mpr ⟨gmc_189, List.forall_mem_cons.mpr ⟨gmc_190, List.forall_mem_cons.mpr ⟨gmc_191, List.forall_mem_cons.mpr ⟨gmc_192, List.forall_mem_cons.mpr ⟨gmc_193, List.forall_mem_cons.mpr ⟨gmc_194, List.forall_mem_cons.mpr ⟨gmc_195, List.forall_mem_cons.mpr ⟨gmc_196, List.forall_mem_cons.mpr ⟨gmc_197, List.forall_mem_cons.mpr ⟨gmc_198, List.forall_mem_cons.mpr ⟨gmc_199, List.forall_mem_cons.mpr ⟨gmc_200, fun _ h => absurd h List.not_mem_nil⟩⟩⟩⟩⟩⟩⟩⟩⟩⟩⟩⟩⟩⟩⟩⟩⟩⟩⟩⟩⟩⟩⟩⟩⟩⟩⟩⟩⟩⟩⟩⟩⟩⟩⟩⟩⟩⟩⟩⟩
theorem gmcl_200 : ∀ y ∈ ([201, 202, 203, 204, 205, 206, 207, 208, 209, 210, 211, 212, 213, 214, 215, 216, 217, 218, 219, 220, 221, 222, 223, 224, 225, 226, 227, 228, 229, 230, 231, 232, 233, 234, 235, 236, 237, 238, 239, 240] : List Nat), sm_code y ∈ tables_1 := List.forall_mem_cons.mpr ⟨gmc_201, List.forall_mem_cons.mpr ⟨gmc_202, List.forall_mem_cons.mpr ⟨gmc_203, List.forall_mem_cons.mpr ⟨gmc_204, List.forall_mem_cons.mpr ⟨gmc_205, List.forall_mem_cons.mpr ⟨gmc_206, List.forall_mem_cons.mpr ⟨gmc_207, List.forall_mem_cons.mpr ⟨gmc_208, List.forall_mem_cons.mpr ⟨gmc_209, List.forall_mem_cons.mpr ⟨gmc_210, List.forall_mem_cons.mpr ⟨gmc_211, List.forall_mem_cons.mpr ⟨gmc_212, List.forall_mem_cons.mpr ⟨gmc_213, List.forall_mem_cons.mpr ⟨gmc_214, List.forall_mem_cons.mpr ⟨gmc_215, List.forall_mem_cons.mpr ⟨gmc_216, List.forall_mem_cons.mpr ⟨gmc_217, List.forall_mem_cons.mpr ⟨gmc_218, List.forall_mem_cons.mpr ⟨gmc_219, List.forall_mem_cons.mpr ⟨gmc_220, List.forall_mem_cons.mpr ⟨gmc_221, List.forall_mem_cons.mpr ⟨gmc_222, List.forall_mem_cons.mpr ⟨gmc_223, List.forall_mem_cons.mpr ⟨gmc_224, List.forall_mem_cons.mpr ⟨gmc_225, List.forall_mem_cons.mpr ⟨gmc_226, List.forall_mem_cons.mpr ⟨gmc_227, List.forall_mem_cons.mpr ⟨gmc_228, List.forall_mem_cons.mpr ⟨gmc_229, List.forall_mem_cons.mpr ⟨gmc_230, List.forall_mem_cons.mpr ⟨gmc_231, List.forall_mem_cons.mpr ⟨gmc_232, List.forall_mem_cons.mpr ⟨gmc_233, List.forall_mem_cons.mpr ⟨gmc_234, List.forall_mem_cons.mpr ⟨gmc_235, List.forall_mem_cons.mpr ⟨gmc_236, List.forall_mem_cons.mpr ⟨gmc_237, List.forall_mem_cons.mpr ⟨gmc_238, List.forall_mem_cons.mpr ⟨gmc_239, List.forall_mem_cons.mpr ⟨gmc_240, fun _ h => absurd h List.not_mem_nil⟩⟩⟩⟩⟩⟩⟩⟩⟩⟩⟩⟩⟩⟩⟩⟩⟩⟩⟩⟩⟩⟩⟩⟩⟩⟩⟩⟩⟩⟩⟩⟩⟩⟩⟩⟩⟩⟩⟩⟩
theorem gmcl_240 : ∀ y ∈ ([241, 242] : List Nat), sm_code y ∈ tables_1 := List.forall_mem_cons.mpr ⟨gmc_241, List.forall_mem_cons.mpr ⟨gmc_242, fun _ h => absurd h List.not_mem_nil⟩⟩
theorem gmc_eq : (List.range gml.length).drop 1 = ([1, 2, 3, 4, 5, 6, 7, 8, 9, 10, 11, 12, 13, 14, 15, 16, 17, 18, 19, 20, 21, 22, 23, 24, 25, 26, 27, 28, 29, 30, 31, 32, 33, 34, 35, 36, 37, 38, 39, 40] : List Nat) ++ (([41, 42, 43, 44, 45, 46, 47, 48, 49, 50, 51, 52, 53, 54, 55, 56, 57, 58, 59, 60, 61, 62, 63, 64, 65, 66, 67, 68, 69, 70, 71, 72, 73, 74, 75, 76, 77, 78, 79, 80] : List Nat) ++ (([81, 82, 83, 84, 85, 86, 87, 88, 89, 90, 91, 92, 93, 94, 95, 96, 97, 98, 99, 100, 101, 102, 103, 104, 105, 106, 107, 108, 109, 110, 111, 112, 113, 114, 115, 116, 117, 118, 119, 120] : List Nat) ++ (([121, 122, 123, 124, 125, 126, 127, 128, 129, 130, 131, 132, 133, 134, 135, 136, 137, 138, 139, 140, 141, 142, 143, 144, 145, 146, 147, 148, 149, 150, 151, 152, 153, 154, 155, 156, 157, 158, 159, 160] : List Nat) ++ (([161, 162, 163, 164, 165, 166, 167, 168, 169, 170, 171, 172, 173, 174, 175, 176, 177, 178, 179, 180, 181, 182, 183, 184, 185, 186, 187, 188, 189, 190, 191, 192, 193, 194, 195, 196, 197, 198, 199, 200] : List Nat) ++ (([201, 202, 203, 204, 205, 206, 207, 208, 209, 210, 211, 212, 213, 214, 215, 216, 217, 218, 219, 220, 221, 222, 223, 224, 225, 226, 227, 228, 229, 230, 231, 232, 233, 234, 235, 236, 237, 238, 239, 240] : List Nat) ++ (([241, 242] : List Nat))))))) := by decide +kernel
theorem sm_code_in {y : Nat} (h0 : 0 < y) (h : y < gml.length) : sm_code y ∈ tables_1 := by
  have hy : y ∈ (List.range gml.length).drop 1 := List.mem_iff_getElem?.mpr ⟨y - 1, by rw [List.getElem?_drop, List.getElem?_range (by omega)]; congr 1; omega⟩
  rw [gmc_eq] at hy
  rcases List.mem_append.mp hy with h | hy
  · exact gmcl_0 y h
  rcases List.mem_append.mp hy with h | hy
  · exact gmcl_40 y h
  rcases List.mem_append.mp hy with h | hy
  · exact gmcl_80 y h
  rcases List.mem_append.mp hy with h | hy
  · exact gmcl_120 y h
  rcases List.mem_append.mp hy with h | hy
  · exact gmcl_160 y h
  rcases List.mem_append.mp hy with h | hy
  · exact gmcl_200 y h
  exact gmcl_240 y hy

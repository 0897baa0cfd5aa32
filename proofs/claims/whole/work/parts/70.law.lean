/-! the law, out of one lemma a call (own program: wip/whole/gen_law.py) -/
set_option maxRecDepth 20000 in
theorem f018_eq {K : Nat → Value} {k d l0 l1 l2 : Nat} {l3 : Int32} {w : aW} {I : aI} {J : aJ} : f_0_18 K (k + 1) d l0 l1 l2 l3 w I J = (
  gL w l0 fun n_1 =>
  if (n_1 - 6) < l3 then
    some (some (.int 1), w, I, J)
  else
    gA w 10 20 l0 l3 (
    if ((I l0 (l3 : Int32).toNatClampNeg) &&& 31) = 0 then
      gA w 10 20 l0 (l3 + 1) (
      gA w 10 20 l0 (l3 + 2) (
      gA w 10 20 l0 (l3 + 3) (
      gO w 5 l1 (
      cJ (Cl K d 16 [.ref l1, .int (I l0 (l3 + 1 : Int32).toNatClampNeg), .long ((((I l0 (l3 + 2 : Int32).toNatClampNeg : Int32).toInt64) <<< ((32 : Int32).toInt64 &&& 63)) ||| (((I l0 (l3 + 3 : Int32).toNatClampNeg : Int32).toInt64) &&& 4294967295))] w I J) fun v_5 w_2 I_3 J_4 =>
      gA w_2 10 20 l0 (l3 + 1) (
      gA w_2 10 20 l0 (l3 + 2) (
      gA w_2 10 20 l0 (l3 + 3) (
      gO w_2 6 l2 (
      cJ (Cl K d 18 [.ref l2, .int (I_3 l0 (l3 + 1 : Int32).toNatClampNeg), .long ((((I_3 l0 (l3 + 2 : Int32).toNatClampNeg : Int32).toInt64) <<< ((32 : Int32).toInt64 &&& 63)) ||| (((I_3 l0 (l3 + 3 : Int32).toNatClampNeg : Int32).toInt64) &&& 4294967295))] w_2 I_3 J_4) fun v_9 w_6 I_7 J_8 =>
      if (lg_cmp v_5 v_9) = 0 then
        f_0_902 K k d (f_0_18 K k d) l0 l1 l2 l3 w_6 I_7 J_8
      else
        some (some (.int 0), w_6, I_7, J_8)))))))))
    else
    if ((I l0 (l3 : Int32).toNatClampNeg) &&& 31) = 1 then
      gO w 5 l1 (
      cJ (Cl K d 21 [.ref l1] w I J) fun v_13 w_10 I_11 J_12 =>
      gO w_10 6 l2 (
      cJ (Cl K d 83 [.ref l2] w_10 I_11 J_12) fun v_17 w_14 I_15 J_16 =>
      if (lg_cmp v_13 v_17) = 0 then
        f_0_902 K k d (f_0_18 K k d) l0 l1 l2 l3 w_14 I_15 J_16
      else
        some (some (.int 0), w_14, I_15, J_16)))
    else
    if ((I l0 (l3 : Int32).toNatClampNeg) &&& 31) = 2 then
      gA w 10 20 l0 (l3 + 1) (
      gO w 5 l1 (
      cJ (Cl K d 123 [.ref l1, .int (I l0 (l3 + 1 : Int32).toNatClampNeg)] w I J) fun v_21 w_18 I_19 J_20 =>
      gA w_18 10 20 l0 (l3 + 1) (
      gO w_18 6 l2 (
      cJ (Cl K d 124 [.ref l2, .int (I_19 l0 (l3 + 1 : Int32).toNatClampNeg)] w_18 I_19 J_20) fun v_25 w_22 I_23 J_24 =>
      if (lg_cmp v_21 v_25) = 0 then
        f_0_902 K k d (f_0_18 K k d) l0 l1 l2 l3 w_22 I_23 J_24
      else
        some (some (.int 0), w_22, I_23, J_24)))))
    else
    if ((I l0 (l3 : Int32).toNatClampNeg) &&& 31) = 3 then
      gA w 10 20 l0 (l3 + 1) (
      gA w 10 20 l0 (l3 + 2) (
      if (I l0 (l3 + 2 : Int32).toNatClampNeg) = 0 then
        f_0_265 K k d (f_0_18 K k d) l0 l1 l2 l3 l1 (I l0 (l3 + 1 : Int32).toNatClampNeg) 0 w I J
      else
        f_0_265 K k d (f_0_18 K k d) l0 l1 l2 l3 l1 (I l0 (l3 + 1 : Int32).toNatClampNeg) 1 w I J))
    else
    if ((I l0 (l3 : Int32).toNatClampNeg) &&& 31) = 4 then
      gA w 10 20 l0 (l3 + 1) (
      gA w 10 20 l0 (l3 + 2) (
      gO w 5 l1 (
      cJ (Cl K d 130 [.ref l1, .int (I l0 (l3 + 1 : Int32).toNatClampNeg), .int (I l0 (l3 + 2 : Int32).toNatClampNeg)] w I J) fun v_29 w_26 I_27 J_28 =>
      gA w_26 10 20 l0 (l3 + 1) (
      gA w_26 10 20 l0 (l3 + 2) (
      gO w_26 6 l2 (
      cJ (Cl K d 132 [.ref l2, .int (I_27 l0 (l3 + 1 : Int32).toNatClampNeg), .int (I_27 l0 (l3 + 2 : Int32).toNatClampNeg)] w_26 I_27 J_28) fun v_33 w_30 I_31 J_32 =>
      if (lg_cmp v_29 v_33) = 0 then
        f_0_902 K k d (f_0_18 K k d) l0 l1 l2 l3 w_30 I_31 J_32
      else
        some (some (.int 0), w_30, I_31, J_32)))))))
    else
    if ((I l0 (l3 : Int32).toNatClampNeg) &&& 31) = 5 then
      gA w 10 20 l0 (l3 + 1) (
      gO w 5 l1 (
      cJ (Cl K d 133 [.ref l1, .int (I l0 (l3 + 1 : Int32).toNatClampNeg)] w I J) fun v_37 w_34 I_35 J_36 =>
      gA w_34 10 20 l0 (l3 + 1) (
      gO w_34 6 l2 (
      cJ (Cl K d 135 [.ref l2, .int (I_35 l0 (l3 + 1 : Int32).toNatClampNeg)] w_34 I_35 J_36) fun v_41 w_38 I_39 J_40 =>
      if (lg_cmp v_37 v_41) = 0 then
        f_0_902 K k d (f_0_18 K k d) l0 l1 l2 l3 w_38 I_39 J_40
      else
        some (some (.int 0), w_38, I_39, J_40)))))
    else
    if ((I l0 (l3 : Int32).toNatClampNeg) &&& 31) = 6 then
      gA w 10 20 l0 (l3 + 1) (
      gA w 10 20 l0 (l3 + 2) (
      gO w 5 l1 (
      cJ (Cl K d 136 [.ref l1, .int (I l0 (l3 + 1 : Int32).toNatClampNeg), .int (I l0 (l3 + 2 : Int32).toNatClampNeg)] w I J) fun v_45 w_42 I_43 J_44 =>
      gA w_42 10 20 l0 (l3 + 1) (
      gA w_42 10 20 l0 (l3 + 2) (
      gO w_42 6 l2 (
      cJ (Cl K d 137 [.ref l2, .int (I_43 l0 (l3 + 1 : Int32).toNatClampNeg), .int (I_43 l0 (l3 + 2 : Int32).toNatClampNeg)] w_42 I_43 J_44) fun v_49 w_46 I_47 J_48 =>
      if (lg_cmp v_45 v_49) = 0 then
        f_0_902 K k d (f_0_18 K k d) l0 l1 l2 l3 w_46 I_47 J_48
      else
        some (some (.int 0), w_46, I_47, J_48)))))))
    else
    if ((I l0 (l3 : Int32).toNatClampNeg) &&& 31) = 7 then
      gO w 5 l1 (
      cJ (Cl K d 138 [.ref l1] w I J) fun v_53 w_50 I_51 J_52 =>
      gO w_50 6 l2 (
      cJ (Cl K d 140 [.ref l2] w_50 I_51 J_52) fun v_57 w_54 I_55 J_56 =>
      if (lg_cmp v_53 v_57) = 0 then
        f_0_902 K k d (f_0_18 K k d) l0 l1 l2 l3 w_54 I_55 J_56
      else
        some (some (.int 0), w_54, I_55, J_56)))
    else
    if ((I l0 (l3 : Int32).toNatClampNeg) &&& 31) = 8 then
      gA w 10 20 l0 (l3 + 1) (
      gO w 5 l1 (
      cJ (Cl K d 141 [.ref l1, .int (I l0 (l3 + 1 : Int32).toNatClampNeg)] w I J) fun v_61 w_58 I_59 J_60 =>
      gA w_58 10 20 l0 (l3 + 1) (
      gO w_58 6 l2 (
      cJ (Cl K d 176 [.ref l2, .int (I_59 l0 (l3 + 1 : Int32).toNatClampNeg)] w_58 I_59 J_60) fun v_65 w_62 I_63 J_64 =>
      if (lg_cmp v_61 v_65) = 0 then
        f_0_902 K k d (f_0_18 K k d) l0 l1 l2 l3 w_62 I_63 J_64
      else
        some (some (.int 0), w_62, I_63, J_64)))))
    else
    if ((I l0 (l3 : Int32).toNatClampNeg) &&& 31) = 9 then
      gA w 10 20 l0 (l3 + 1) (
      gO w 5 l1 (
      cJ (Cl K d 197 [.ref l1, .int (I l0 (l3 + 1 : Int32).toNatClampNeg)] w I J) fun v_69 w_66 I_67 J_68 =>
      gA w_66 10 20 l0 (l3 + 1) (
      gO w_66 6 l2 (
      cJ (Cl K d 199 [.ref l2, .int (I_67 l0 (l3 + 1 : Int32).toNatClampNeg)] w_66 I_67 J_68) fun v_73 w_70 I_71 J_72 =>
      if (lg_cmp v_69 v_73) = 0 then
        f_0_902 K k d (f_0_18 K k d) l0 l1 l2 l3 w_70 I_71 J_72
      else
        some (some (.int 0), w_70, I_71, J_72)))))
    else
    if ((I l0 (l3 : Int32).toNatClampNeg) &&& 31) = 10 then
      gA w 10 20 l0 (l3 + 1) (
      gO w 5 l1 (
      cJ (Cl K d 200 [.ref l1, .int (I l0 (l3 + 1 : Int32).toNatClampNeg)] w I J) fun v_77 w_74 I_75 J_76 =>
      gA w_74 10 20 l0 (l3 + 1) (
      gO w_74 6 l2 (
      cJ (Cl K d 203 [.ref l2, .int (I_75 l0 (l3 + 1 : Int32).toNatClampNeg)] w_74 I_75 J_76) fun v_81 w_78 I_79 J_80 =>
      if (lg_cmp v_77 v_81) = 0 then
        f_0_902 K k d (f_0_18 K k d) l0 l1 l2 l3 w_78 I_79 J_80
      else
        some (some (.int 0), w_78, I_79, J_80)))))
    else
    if ((I l0 (l3 : Int32).toNatClampNeg) &&& 31) = 11 then
      gA w 10 20 l0 (l3 + 1) (
      gA w 10 20 l0 (l3 + 2) (
      if (I l0 (l3 + 2 : Int32).toNatClampNeg) = 0 then
        f_0_493 K k d (f_0_18 K k d) l0 l1 l2 l3 l1 (I l0 (l3 + 1 : Int32).toNatClampNeg) 0 w I J
      else
        f_0_493 K k d (f_0_18 K k d) l0 l1 l2 l3 l1 (I l0 (l3 + 1 : Int32).toNatClampNeg) 1 w I J))
    else
    if ((I l0 (l3 : Int32).toNatClampNeg) &&& 31) = 12 then
      gA w 10 20 l0 (l3 + 1) (
      gA w 10 20 l0 (l3 + 2) (
      gO w 5 l1 (
      cJ (Cl K d 206 [.ref l1, .int (I l0 (l3 + 1 : Int32).toNatClampNeg), .int (I l0 (l3 + 2 : Int32).toNatClampNeg)] w I J) fun v_85 w_82 I_83 J_84 =>
      gA w_82 10 20 l0 (l3 + 1) (
      gA w_82 10 20 l0 (l3 + 2) (
      gO w_82 6 l2 (
      cJ (Cl K d 207 [.ref l2, .int (I_83 l0 (l3 + 1 : Int32).toNatClampNeg), .int (I_83 l0 (l3 + 2 : Int32).toNatClampNeg)] w_82 I_83 J_84) fun v_89 w_86 I_87 J_88 =>
      if (lg_cmp v_85 v_89) = 0 then
        f_0_902 K k d (f_0_18 K k d) l0 l1 l2 l3 w_86 I_87 J_88
      else
        some (some (.int 0), w_86, I_87, J_88)))))))
    else
    if ((I l0 (l3 : Int32).toNatClampNeg) &&& 31) = 13 then
      gA w 10 20 l0 (l3 + 1) (
      gA w 10 20 l0 (l3 + 2) (
      gO w 5 l1 (
      cJ (Cl K d 208 [.ref l1, .int (I l0 (l3 + 1 : Int32).toNatClampNeg), .int (I l0 (l3 + 2 : Int32).toNatClampNeg)] w I J) fun v_93 w_90 I_91 J_92 =>
      gA w_90 10 20 l0 (l3 + 1) (
      gA w_90 10 20 l0 (l3 + 2) (
      gO w_90 6 l2 (
      cJ (Cl K d 211 [.ref l2, .int (I_91 l0 (l3 + 1 : Int32).toNatClampNeg), .int (I_91 l0 (l3 + 2 : Int32).toNatClampNeg)] w_90 I_91 J_92) fun v_97 w_94 I_95 J_96 =>
      if (lg_cmp v_93 v_97) = 0 then
        f_0_902 K k d (f_0_18 K k d) l0 l1 l2 l3 w_94 I_95 J_96
      else
        some (some (.int 0), w_94, I_95, J_96)))))))
    else
    if ((I l0 (l3 : Int32).toNatClampNeg) &&& 31) = 14 then
      gA w 10 20 l0 (l3 + 1) (
      gO w 5 l1 (
      cJ (Cl K d 212 [.ref l1, .int (I l0 (l3 + 1 : Int32).toNatClampNeg)] w I J) fun v_101 w_98 I_99 J_100 =>
      gA w_98 10 20 l0 (l3 + 1) (
      gO w_98 6 l2 (
      cJ (Cl K d 213 [.ref l2, .int (I_99 l0 (l3 + 1 : Int32).toNatClampNeg)] w_98 I_99 J_100) fun v_105 w_102 I_103 J_104 =>
      if (lg_cmp v_101 v_105) = 0 then
        f_0_902 K k d (f_0_18 K k d) l0 l1 l2 l3 w_102 I_103 J_104
      else
        some (some (.int 0), w_102, I_103, J_104)))))
    else
    if ((I l0 (l3 : Int32).toNatClampNeg) &&& 31) = 15 then
      gO w 5 l1 (
      cJ (Cl K d 214 [.ref l1] w I J) fun v_109 w_106 I_107 J_108 =>
      gO w_106 6 l2 (
      cJ (Cl K d 215 [.ref l2] w_106 I_107 J_108) fun v_113 w_110 I_111 J_112 =>
      if (lg_cmp v_109 v_113) = 0 then
        f_0_902 K k d (f_0_18 K k d) l0 l1 l2 l3 w_110 I_111 J_112
      else
        some (some (.int 0), w_110, I_111, J_112)))
    else
    if ((I l0 (l3 : Int32).toNatClampNeg) &&& 31) = 16 then
      gO w 5 l1 (
      cJ (Cl K d 216 [.ref l1] w I J) fun v_117 w_114 I_115 J_116 =>
      gO w_114 6 l2 (
      cJ (Cl K d 218 [.ref l2] w_114 I_115 J_116) fun v_121 w_118 I_119 J_120 =>
      if (lg_cmp v_117 v_121) = 0 then
        f_0_902 K k d (f_0_18 K k d) l0 l1 l2 l3 w_118 I_119 J_120
      else
        some (some (.int 0), w_118, I_119, J_120)))
    else
    if ((I l0 (l3 : Int32).toNatClampNeg) &&& 31) = 17 then
      gA w 10 20 l0 (l3 + 1) (
      gA w 10 20 l0 (l3 + 2) (
      gO w 5 l1 (
      cJ (Cl K d 219 [.ref l1, .int (I l0 (l3 + 1 : Int32).toNatClampNeg), .int (I l0 (l3 + 2 : Int32).toNatClampNeg)] w I J) fun v_125 w_122 I_123 J_124 =>
      gA w_122 10 20 l0 (l3 + 1) (
      gA w_122 10 20 l0 (l3 + 2) (
      gO w_122 6 l2 (
      cJ (Cl K d 221 [.ref l2, .int (I_123 l0 (l3 + 1 : Int32).toNatClampNeg), .int (I_123 l0 (l3 + 2 : Int32).toNatClampNeg)] w_122 I_123 J_124) fun v_129 w_126 I_127 J_128 =>
      if (lg_cmp v_125 v_129) = 0 then
        f_0_902 K k d (f_0_18 K k d) l0 l1 l2 l3 w_126 I_127 J_128
      else
        some (some (.int 0), w_126, I_127, J_128)))))))
    else
    if ((I l0 (l3 : Int32).toNatClampNeg) &&& 31) = 18 then
      gA w 10 20 l0 (l3 + 1) (
      gO w 5 l1 (
      cJ (Cl K d 222 [.ref l1, .int (I l0 (l3 + 1 : Int32).toNatClampNeg)] w I J) fun v_133 w_130 I_131 J_132 =>
      gA w_130 10 20 l0 (l3 + 1) (
      gO w_130 6 l2 (
      cJ (Cl K d 228 [.ref l2, .int (I_131 l0 (l3 + 1 : Int32).toNatClampNeg)] w_130 I_131 J_132) fun v_137 w_134 I_135 J_136 =>
      if (lg_cmp v_133 v_137) = 0 then
        f_0_902 K k d (f_0_18 K k d) l0 l1 l2 l3 w_134 I_135 J_136
      else
        some (some (.int 0), w_134, I_135, J_136)))))
    else
    if ((I l0 (l3 : Int32).toNatClampNeg) &&& 31) = 19 then
      gA w 10 20 l0 (l3 + 1) (
      gA w 10 20 l0 (l3 + 2) (
      gA w 10 20 l0 (l3 + 3) (
      gO w 5 l1 (
      cJ (Cl K d 231 [.ref l1, .int (I l0 (l3 + 1 : Int32).toNatClampNeg), .int (I l0 (l3 + 2 : Int32).toNatClampNeg), .int (I l0 (l3 + 3 : Int32).toNatClampNeg)] w I J) fun v_141 w_138 I_139 J_140 =>
      gA w_138 10 20 l0 (l3 + 1) (
      gA w_138 10 20 l0 (l3 + 2) (
      gA w_138 10 20 l0 (l3 + 3) (
      gO w_138 6 l2 (
      cJ (Cl K d 233 [.ref l2, .int (I_139 l0 (l3 + 1 : Int32).toNatClampNeg), .int (I_139 l0 (l3 + 2 : Int32).toNatClampNeg), .int (I_139 l0 (l3 + 3 : Int32).toNatClampNeg)] w_138 I_139 J_140) fun v_145 w_142 I_143 J_144 =>
      if (lg_cmp v_141 v_145) = 0 then
        f_0_902 K k d (f_0_18 K k d) l0 l1 l2 l3 w_142 I_143 J_144
      else
        some (some (.int 0), w_142, I_143, J_144)))))))))
    else
    if ((I l0 (l3 : Int32).toNatClampNeg) &&& 31) = 20 then
      gA w 10 20 l0 (l3 + 1) (
      gA w 10 20 l0 (l3 + 2) (
      gA w 10 20 l0 (l3 + 3) (
      gO w 5 l1 (
      cJ (Cl K d 234 [.ref l1, .int (I l0 (l3 + 1 : Int32).toNatClampNeg), .int (I l0 (l3 + 2 : Int32).toNatClampNeg), .int (I l0 (l3 + 3 : Int32).toNatClampNeg)] w I J) fun v_149 w_146 I_147 J_148 =>
      gA w_146 10 20 l0 (l3 + 1) (
      gA w_146 10 20 l0 (l3 + 2) (
      gA w_146 10 20 l0 (l3 + 3) (
      gO w_146 6 l2 (
      cJ (Cl K d 236 [.ref l2, .int (I_147 l0 (l3 + 1 : Int32).toNatClampNeg), .int (I_147 l0 (l3 + 2 : Int32).toNatClampNeg), .int (I_147 l0 (l3 + 3 : Int32).toNatClampNeg)] w_146 I_147 J_148) fun v_153 w_150 I_151 J_152 =>
      if (lg_cmp v_149 v_153) = 0 then
        f_0_902 K k d (f_0_18 K k d) l0 l1 l2 l3 w_150 I_151 J_152
      else
        some (some (.int 0), w_150, I_151, J_152)))))))))
    else
    if ((I l0 (l3 : Int32).toNatClampNeg) &&& 31) = 21 then
      gA w 10 20 l0 (l3 + 1) (
      gA w 10 20 l0 (l3 + 2) (
      gA w 10 20 l0 (l3 + 3) (
      gA w 10 20 l0 (l3 + 4) (
      gA w 10 20 l0 (l3 + 5) (
      gO w 5 l1 (
      cJ (Cl K d 237 [.ref l1, .int (I l0 (l3 + 1 : Int32).toNatClampNeg), .int (I l0 (l3 + 2 : Int32).toNatClampNeg), .int (I l0 (l3 + 3 : Int32).toNatClampNeg), .int (I l0 (l3 + 4 : Int32).toNatClampNeg), .int (I l0 (l3 + 5 : Int32).toNatClampNeg)] w I J) fun v_157 w_154 I_155 J_156 =>
      gA w_154 10 20 l0 (l3 + 1) (
      gA w_154 10 20 l0 (l3 + 2) (
      gA w_154 10 20 l0 (l3 + 3) (
      gA w_154 10 20 l0 (l3 + 4) (
      gA w_154 10 20 l0 (l3 + 5) (
      gO w_154 6 l2 (
      cJ (Cl K d 238 [.ref l2, .int (I_155 l0 (l3 + 1 : Int32).toNatClampNeg), .int (I_155 l0 (l3 + 2 : Int32).toNatClampNeg), .int (I_155 l0 (l3 + 3 : Int32).toNatClampNeg), .int (I_155 l0 (l3 + 4 : Int32).toNatClampNeg), .int (I_155 l0 (l3 + 5 : Int32).toNatClampNeg)] w_154 I_155 J_156) fun v_161 w_158 I_159 J_160 =>
      if (lg_cmp v_157 v_161) = 0 then
        f_0_902 K k d (f_0_18 K k d) l0 l1 l2 l3 w_158 I_159 J_160
      else
        some (some (.int 0), w_158, I_159, J_160)))))))))))))
    else
    if ((I l0 (l3 : Int32).toNatClampNeg) &&& 31) = 22 then
      gA w 10 20 l0 (l3 + 1) (
      gO w 5 l1 (
      cJ (Cl K d 239 [.ref l1, .int (I l0 (l3 + 1 : Int32).toNatClampNeg)] w I J) fun v_165 w_162 I_163 J_164 =>
      gA w_162 10 20 l0 (l3 + 1) (
      gO w_162 6 l2 (
      cJ (Cl K d 240 [.ref l2, .int (I_163 l0 (l3 + 1 : Int32).toNatClampNeg)] w_162 I_163 J_164) fun v_169 w_166 I_167 J_168 =>
      if (lg_cmp v_165 v_169) = 0 then
        f_0_902 K k d (f_0_18 K k d) l0 l1 l2 l3 w_166 I_167 J_168
      else
        some (some (.int 0), w_166, I_167, J_168)))))
    else
    if ((I l0 (l3 : Int32).toNatClampNeg) &&& 31) = 23 then
      gA w 10 20 l0 (l3 + 1) (
      gO w 5 l1 (
      cJ (Cl K d 241 [.ref l1, .int (I l0 (l3 + 1 : Int32).toNatClampNeg)] w I J) fun v_173 w_170 I_171 J_172 =>
      gA w_170 10 20 l0 (l3 + 1) (
      gO w_170 6 l2 (
      cJ (Cl K d 242 [.ref l2, .int (I_171 l0 (l3 + 1 : Int32).toNatClampNeg)] w_170 I_171 J_172) fun v_177 w_174 I_175 J_176 =>
      if (lg_cmp v_173 v_177) = 0 then
        f_0_902 K k d (f_0_18 K k d) l0 l1 l2 l3 w_174 I_175 J_176
      else
        some (some (.int 0), w_174, I_175, J_176)))))
    else
    f_0_902 K k d (f_0_18 K k d) l0 l1 l2 l3 w I J)) := rfl
/-- the script and the two objects -/
def Sc (b x m L : Nat) (xs : Nat → Int32) (w : aW) (I : aI) : Prop := w.1 b = some (20, L) ∧ (∀ j, j < L → I b j = xs j) ∧ w.1 x = some (5, 0) ∧ w.1 m = some (6, 0)
/-- both objects answer a call alike, and leave a state that goes on -/
def Pr (K : Nat → Value) (d : Nat) (R R' : aW → aI → aJ → Prop) (S : aW → aI → Prop) (x m yx ym : Nat) (as : List Value) : Prop := ∀ (w : aW) (I : aI) (J : aJ), R w I J → ∃ (v : Int64) (w1 : aW) (I1 : aI) (J1 : aJ) (w2 : aW) (I2 : aI) (J2 : aJ), Cl K d yx (.ref x :: as) w I J = some (some (.long v), w1, I1, J1) ∧ S w1 I1 ∧ Cl K d ym (.ref m :: as) w1 I1 J1 = some (some (.long v), w2, I2, J2) ∧ R' w2 I2 J2
/-- feed, text, fault, code, as, shape, fun, start, step, back, now, stack, variable, object, printed, result, clear, proof, proves, sheet, put, copy, found, all -/
def Calls (K : Nat → Value) (d : Nat) (R R' : aW → aI → aJ → Prop) (S : aW → aI → Prop) (x m : Nat) : Prop :=
  (∀ (a0 : Int32) (a1 : Int64), Pr K d R R' S x m 16 18 [.int a0, .long a1])
  ∧ (Pr K d R R' S x m 21 83 [])
  ∧ (∀ (a0 : Int32), Pr K d R R' S x m 123 124 [.int a0])
  ∧ (∀ (a0 : Int32) (a1 : Int32), (a1 = 0 ∨ a1 = 1) → Pr K d R R' S x m 125 128 [.int a0, .int a1])
  ∧ (∀ (a0 : Int32) (a1 : Int32), Pr K d R R' S x m 130 132 [.int a0, .int a1])
  ∧ (∀ (a0 : Int32), Pr K d R R' S x m 133 135 [.int a0])
  ∧ (∀ (a0 : Int32) (a1 : Int32), Pr K d R R' S x m 136 137 [.int a0, .int a1])
  ∧ (Pr K d R R' S x m 138 140 [])
  ∧ (∀ (a0 : Int32), Pr K d R R' S x m 141 176 [.int a0])
  ∧ (∀ (a0 : Int32), Pr K d R R' S x m 197 199 [.int a0])
  ∧ (∀ (a0 : Int32), Pr K d R R' S x m 200 203 [.int a0])
  ∧ (∀ (a0 : Int32) (a1 : Int32), (a1 = 0 ∨ a1 = 1) → Pr K d R R' S x m 204 205 [.int a0, .int a1])
  ∧ (∀ (a0 : Int32) (a1 : Int32), Pr K d R R' S x m 206 207 [.int a0, .int a1])
  ∧ (∀ (a0 : Int32) (a1 : Int32), Pr K d R R' S x m 208 211 [.int a0, .int a1])
  ∧ (∀ (a0 : Int32), Pr K d R R' S x m 212 213 [.int a0])
  ∧ (Pr K d R R' S x m 214 215 [])
  ∧ (Pr K d R R' S x m 216 218 [])
  ∧ (∀ (a0 : Int32) (a1 : Int32), Pr K d R R' S x m 219 221 [.int a0, .int a1])
  ∧ (∀ (a0 : Int32), Pr K d R R' S x m 222 228 [.int a0])
  ∧ (∀ (a0 : Int32) (a1 : Int32) (a2 : Int32), Pr K d R R' S x m 231 233 [.int a0, .int a1, .int a2])
  ∧ (∀ (a0 : Int32) (a1 : Int32) (a2 : Int32), Pr K d R R' S x m 234 236 [.int a0, .int a1, .int a2])
  ∧ (∀ (a0 : Int32) (a1 : Int32) (a2 : Int32) (a3 : Int32) (a4 : Int32), Pr K d R R' S x m 237 238 [.int a0, .int a1, .int a2, .int a3, .int a4])
  ∧ (∀ (a0 : Int32), Pr K d R R' S x m 239 240 [.int a0])
  ∧ (∀ (a0 : Int32), Pr K d R R' S x m 241 242 [.int a0])
theorem sc_c : (1 : Int32) = nI 1 ∧ (2 : Int32) = nI 2 ∧ (3 : Int32) = nI 3 ∧ (4 : Int32) = nI 4 ∧ (5 : Int32) = nI 5 ∧ (6 : Int32) = nI 6 := by decide +kernel
theorem sc_cl {a : Nat} (h : a < 2 ^ 31) (j : Nat) (c : Int32) (hc : c = nI j) (hj : a + j < 2 ^ 31) : (nI a + c).toNatClampNeg = a + j := by
  rw [hc, nI_add]
  exact nI_clamp hj
theorem sc_ix {a L : Nat} (j : Nat) (c : Int32) (hc : c = nI j) (hj : a + j < L) (hL : L < 2 ^ 31) : ¬ (nI a + c < 0 ∨ L ≤ (nI a + c).toNatClampNeg) := by
  rw [hc, nI_add]
  exact nI_in hj hL
theorem lg_self (v : Int64) : lg_cmp v v = 0 := by
  unfold lg_cmp
  rw [if_neg (by simp), if_pos rfl]
theorem sc_end {L n : Nat} (hL : L ≤ 384) (hn : n ≤ 100) : (Int32.ofNat L - 6 < nI (6 * n)) ↔ L < 6 * n + 6 := by
  have e1 : (Int32.ofNat L - 6 : Int32).toInt = (L : Int) - 6 := by
    have : (Int32.ofNat L - 6 : Int32) = nI L - nI 6 := by rw [← sc_c.2.2.2.2.2]; rfl
    rw [this]
    exact pk_sub_toInt (by omega) (by omega)
  have e2 : (nI (6 * n)).toInt = ((6 * n : Nat) : Int) := nI_toInt (by omega)
  rw [Int32.lt_iff_toInt_lt, e1, e2]
  omega
theorem cJ_e {α : Type} {x : Int64} {w : aW} {I : aI} {J : aJ} {k : Int64 → aW → aI → aJ → Option α} : cJ (some (some (.long x), w, I, J)) k = k x w I J := rfl
theorem cV_e {α : Type} {w : aW} {I : aI} {J : aJ} {k : aW → aI → aJ → Option α} : cV (some (none, w, I, J)) k = k w I J := rfl
theorem cI_e {α : Type} {x : Int32} {w : aW} {I : aI} {J : aJ} {k : Int32 → aW → aI → aJ → Option α} : cI (some (some (.int x), w, I, J)) k = k x w I J := rfl
theorem cA_e {α : Type} {x : Nat} {w : aW} {I : aI} {J : aJ} {k : Nat → aW → aI → aJ → Option α} : cA (some (some (.ref x), w, I, J)) k = k x w I J := rfl
set_option maxHeartbeats 8000000 in
set_option maxRecDepth 20000 in
theorem law_loop {K : Nat → Value} {d b x m L : Nat} {xs : Nat → Int32} {R : Nat → aW → aI → aJ → Prop} (hL : L ≤ 384) (hC : ∀ n, n < 64 → Calls K d (R n) (R (n + 1)) (Sc b x m L xs) x m) (hS : ∀ n w I J, R n w I J → Sc b x m L xs w I) (hM : ∀ n w I J, R n w I J → R (n + 1) w I J) :
    ∀ (t n : Nat) (w : aW) (I : aI) (J : aJ), n ≤ 64 → R n w I J → L < 6 * (n + t) + 6 → ∃ (n' : Nat) (w' : aW) (I' : aI) (J' : aJ), f_0_18 K (t + 1) d b x m (nI (6 * n)) w I J = some (some (.int 1), w', I', J') ∧ n' ≤ 64 ∧ R n' w' I' J' := by
  intro t
  induction t with
  | zero =>
    intro n w I J hn hR ht
    obtain ⟨hb, hxs, hx, hm⟩ := hS n w I J hR
    rw [f018_eq, gL_e hb (by decide), if_pos ((sc_end hL (by omega)).mpr (by omega))]
    exact ⟨n, w, I, J, rfl, hn, hR⟩
  | succ t ih =>
    intro n w I J hn hR ht
    obtain ⟨hb, hxs, hx, hm⟩ := hS n w I J hR
    by_cases hend : L < 6 * n + 6
    · rw [f018_eq, gL_e hb (by decide), if_pos ((sc_end hL (by omega)).mpr hend)]
      exact ⟨n, w, I, J, rfl, hn, hR⟩
    · have hn6 : 6 * n + 6 ≤ L := by omega
      have hn64 : n < 64 := by omega
      have hCn := hC n hn64
      have i0 : ¬ (nI (6 * n) < 0 ∨ L ≤ (nI (6 * n)).toNatClampNeg) := nI_in (by omega) (by omega)
      have i1 := sc_ix (a := 6 * n) (L := L) 1 1 sc_c.1 (by omega) (by omega)
      have i2 := sc_ix (a := 6 * n) (L := L) 2 2 sc_c.2.1 (by omega) (by omega)
      have i3 := sc_ix (a := 6 * n) (L := L) 3 3 sc_c.2.2.1 (by omega) (by omega)
      have i4 := sc_ix (a := 6 * n) (L := L) 4 4 sc_c.2.2.2.1 (by omega) (by omega)
      have i5 := sc_ix (a := 6 * n) (L := L) 5 5 sc_c.2.2.2.2.1 (by omega) (by omega)
      have q1 := sc_cl (a := 6 * n) (by omega) 1 1 sc_c.1 (by omega)
      have q2 := sc_cl (a := 6 * n) (by omega) 2 2 sc_c.2.1 (by omega)
      have q3 := sc_cl (a := 6 * n) (by omega) 3 3 sc_c.2.2.1 (by omega)
      have q4 := sc_cl (a := 6 * n) (by omega) 4 4 sc_c.2.2.2.1 (by omega)
      have q5 := sc_cl (a := 6 * n) (by omega) 5 5 sc_c.2.2.2.2.1 (by omega)
      have q6 : nI (6 * n) + 6 = nI (6 * (n + 1)) := by rw [sc_c.2.2.2.2.2, nI_add]; rfl
      have x1 := hxs (6 * n + 1) (by omega)
      have x2 := hxs (6 * n + 2) (by omega)
      have x3 := hxs (6 * n + 3) (by omega)
      have x4 := hxs (6 * n + 4) (by omega)
      have x5 := hxs (6 * n + 5) (by omega)
      have goes : ∀ (w2 : aW) (I2 : aI) (J2 : aJ), R (n + 1) w2 I2 J2 → ∃ (n' : Nat) (w' : aW) (I' : aI) (J' : aJ), f_0_902 K (t + 1) d (f_0_18 K (t + 1) d) b x m (nI (6 * n)) w2 I2 J2 = some (some (.int 1), w', I', J') ∧ n' ≤ 64 ∧ R n' w' I' J' := by
        intro w2 I2 J2 hR2
        unfold f_0_902 lt_
        rw [q6]
        exact ih (n + 1) w2 I2 J2 (by omega) hR2 (by omega)
      rw [f018_eq, gL_e hb (by decide), if_neg (fun h => hend ((sc_end hL (by omega)).mp h)), gA_e hb (Or.inr rfl) i0]
      generalize (I b (nI (6 * n)).toNatClampNeg &&& 31) = op
      by_cases h0 : op = 0
      · rw [if_pos h0]
        clear ih
        rw [gA_e hb (Or.inr rfl) i1, gA_e hb (Or.inr rfl) i2, gA_e hb (Or.inr rfl) i3, gO_e hx]
        obtain ⟨v, w1, I1, J1, w2, I2, J2, c1, ⟨hb1, hxs1, hx1, hm1⟩, c2, r2⟩ := hCn.1 (I b (nI (6 * n) + 1).toNatClampNeg) ((((I b (nI (6 * n) + 2).toNatClampNeg : Int32).toInt64) <<< ((32 : Int32).toInt64 &&& 63)) ||| (((I b (nI (6 * n) + 3).toNatClampNeg : Int32).toInt64) &&& 4294967295)) w I J hR
        have y1 := hxs1 (6 * n + 1) (by omega)
        have y2 := hxs1 (6 * n + 2) (by omega)
        have y3 := hxs1 (6 * n + 3) (by omega)
        rw [c1, cJ_e, gA_e hb1 (Or.inr rfl) i1, gA_e hb1 (Or.inr rfl) i2, gA_e hb1 (Or.inr rfl) i3, gO_e hm1]
        rw [q1, q2, q3, y1, y2, y3]
        rw [q1, q2, q3, x1, x2, x3] at c2
        rw [c2, cJ_e, if_pos (lg_self v)]
        exact goes w2 I2 J2 r2
      rw [if_neg h0]
      by_cases h1 : op = 1
      · rw [if_pos h1]
        clear ih
        rw [gO_e hx]
        obtain ⟨v, w1, I1, J1, w2, I2, J2, c1, ⟨hb1, hxs1, hx1, hm1⟩, c2, r2⟩ := hCn.2.1 w I J hR
        rw [c1, cJ_e, gO_e hm1]
        rw [c2, cJ_e, if_pos (lg_self v)]
        exact goes w2 I2 J2 r2
      rw [if_neg h1]
      by_cases h2 : op = 2
      · rw [if_pos h2]
        clear ih
        rw [gA_e hb (Or.inr rfl) i1, gO_e hx]
        obtain ⟨v, w1, I1, J1, w2, I2, J2, c1, ⟨hb1, hxs1, hx1, hm1⟩, c2, r2⟩ := hCn.2.2.1 (I b (nI (6 * n) + 1).toNatClampNeg) w I J hR
        have y1 := hxs1 (6 * n + 1) (by omega)
        rw [c1, cJ_e, gA_e hb1 (Or.inr rfl) i1, gO_e hm1]
        rw [q1, y1]
        rw [q1, x1] at c2
        rw [c2, cJ_e, if_pos (lg_self v)]
        exact goes w2 I2 J2 r2
      rw [if_neg h2]
      by_cases h3 : op = 3
      · rw [if_pos h3]
        clear ih
        rw [gA_e hb (Or.inr rfl) i1, gA_e hb (Or.inr rfl) i2]
        by_cases hz : I b (nI (6 * n) + 2).toNatClampNeg = 0
        · rw [if_pos hz]
          obtain ⟨v, w1, I1, J1, w2, I2, J2, c1, ⟨hb1, hxs1, hx1, hm1⟩, c2, r2⟩ := hCn.2.2.2.1 (I b (nI (6 * n) + 1).toNatClampNeg) 0 (by decide) w I J hR
          have y1 := hxs1 (6 * n + 1) (by omega)
          have y2 := hxs1 (6 * n + 2) (by omega)
          have hz2 : I1 b (nI (6 * n) + 2).toNatClampNeg = 0 := by rw [q2, y2, ← x2, ← q2]; exact hz
          unfold f_0_265
          rw [gO_e hx, c1, cJ_e, gA_e hb1 (Or.inr rfl) i1, gA_e hb1 (Or.inr rfl) i2, if_pos hz2]
          unfold f_0_287
          rw [gO_e hm1, q1, y1]
          rw [q1, x1] at c2
          rw [c2, cJ_e, if_pos (lg_self v)]
          exact goes w2 I2 J2 r2
        · rw [if_neg hz]
          obtain ⟨v, w1, I1, J1, w2, I2, J2, c1, ⟨hb1, hxs1, hx1, hm1⟩, c2, r2⟩ := hCn.2.2.2.1 (I b (nI (6 * n) + 1).toNatClampNeg) 1 (by decide) w I J hR
          have y1 := hxs1 (6 * n + 1) (by omega)
          have y2 := hxs1 (6 * n + 2) (by omega)
          have hz2 : ¬ I1 b (nI (6 * n) + 2).toNatClampNeg = 0 := by rw [q2, y2, ← x2, ← q2]; exact hz
          unfold f_0_265
          rw [gO_e hx, c1, cJ_e, gA_e hb1 (Or.inr rfl) i1, gA_e hb1 (Or.inr rfl) i2, if_neg hz2]
          unfold f_0_287
          rw [gO_e hm1, q1, y1]
          rw [q1, x1] at c2
          rw [c2, cJ_e, if_pos (lg_self v)]
          exact goes w2 I2 J2 r2
      rw [if_neg h3]
      by_cases h4 : op = 4
      · rw [if_pos h4]
        clear ih
        rw [gA_e hb (Or.inr rfl) i1, gA_e hb (Or.inr rfl) i2, gO_e hx]
        obtain ⟨v, w1, I1, J1, w2, I2, J2, c1, ⟨hb1, hxs1, hx1, hm1⟩, c2, r2⟩ := hCn.2.2.2.2.1 (I b (nI (6 * n) + 1).toNatClampNeg) (I b (nI (6 * n) + 2).toNatClampNeg) w I J hR
        have y1 := hxs1 (6 * n + 1) (by omega)
        have y2 := hxs1 (6 * n + 2) (by omega)
        rw [c1, cJ_e, gA_e hb1 (Or.inr rfl) i1, gA_e hb1 (Or.inr rfl) i2, gO_e hm1]
        rw [q1, q2, y1, y2]
        rw [q1, q2, x1, x2] at c2
        rw [c2, cJ_e, if_pos (lg_self v)]
        exact goes w2 I2 J2 r2
      rw [if_neg h4]
      by_cases h5 : op = 5
      · rw [if_pos h5]
        clear ih
        rw [gA_e hb (Or.inr rfl) i1, gO_e hx]
        obtain ⟨v, w1, I1, J1, w2, I2, J2, c1, ⟨hb1, hxs1, hx1, hm1⟩, c2, r2⟩ := hCn.2.2.2.2.2.1 (I b (nI (6 * n) + 1).toNatClampNeg) w I J hR
        have y1 := hxs1 (6 * n + 1) (by omega)
        rw [c1, cJ_e, gA_e hb1 (Or.inr rfl) i1, gO_e hm1]
        rw [q1, y1]
        rw [q1, x1] at c2
        rw [c2, cJ_e, if_pos (lg_self v)]
        exact goes w2 I2 J2 r2
      rw [if_neg h5]
      by_cases h6 : op = 6
      · rw [if_pos h6]
        clear ih
        rw [gA_e hb (Or.inr rfl) i1, gA_e hb (Or.inr rfl) i2, gO_e hx]
        obtain ⟨v, w1, I1, J1, w2, I2, J2, c1, ⟨hb1, hxs1, hx1, hm1⟩, c2, r2⟩ := hCn.2.2.2.2.2.2.1 (I b (nI (6 * n) + 1).toNatClampNeg) (I b (nI (6 * n) + 2).toNatClampNeg) w I J hR
        have y1 := hxs1 (6 * n + 1) (by omega)
        have y2 := hxs1 (6 * n + 2) (by omega)
        rw [c1, cJ_e, gA_e hb1 (Or.inr rfl) i1, gA_e hb1 (Or.inr rfl) i2, gO_e hm1]
        rw [q1, q2, y1, y2]
        rw [q1, q2, x1, x2] at c2
        rw [c2, cJ_e, if_pos (lg_self v)]
        exact goes w2 I2 J2 r2
      rw [if_neg h6]
      by_cases h7 : op = 7
      · rw [if_pos h7]
        clear ih
        rw [gO_e hx]
        obtain ⟨v, w1, I1, J1, w2, I2, J2, c1, ⟨hb1, hxs1, hx1, hm1⟩, c2, r2⟩ := hCn.2.2.2.2.2.2.2.1 w I J hR
        rw [c1, cJ_e, gO_e hm1]
        rw [c2, cJ_e, if_pos (lg_self v)]
        exact goes w2 I2 J2 r2
      rw [if_neg h7]
      by_cases h8 : op = 8
      · rw [if_pos h8]
        clear ih
        rw [gA_e hb (Or.inr rfl) i1, gO_e hx]
        obtain ⟨v, w1, I1, J1, w2, I2, J2, c1, ⟨hb1, hxs1, hx1, hm1⟩, c2, r2⟩ := hCn.2.2.2.2.2.2.2.2.1 (I b (nI (6 * n) + 1).toNatClampNeg) w I J hR
        have y1 := hxs1 (6 * n + 1) (by omega)
        rw [c1, cJ_e, gA_e hb1 (Or.inr rfl) i1, gO_e hm1]
        rw [q1, y1]
        rw [q1, x1] at c2
        rw [c2, cJ_e, if_pos (lg_self v)]
        exact goes w2 I2 J2 r2
      rw [if_neg h8]
      by_cases h9 : op = 9
      · rw [if_pos h9]
        clear ih
        rw [gA_e hb (Or.inr rfl) i1, gO_e hx]
        obtain ⟨v, w1, I1, J1, w2, I2, J2, c1, ⟨hb1, hxs1, hx1, hm1⟩, c2, r2⟩ := hCn.2.2.2.2.2.2.2.2.2.1 (I b (nI (6 * n) + 1).toNatClampNeg) w I J hR
        have y1 := hxs1 (6 * n + 1) (by omega)
        rw [c1, cJ_e, gA_e hb1 (Or.inr rfl) i1, gO_e hm1]
        rw [q1, y1]
        rw [q1, x1] at c2
        rw [c2, cJ_e, if_pos (lg_self v)]
        exact goes w2 I2 J2 r2
      rw [if_neg h9]
      by_cases h10 : op = 10
      · rw [if_pos h10]
        clear ih
        rw [gA_e hb (Or.inr rfl) i1, gO_e hx]
        obtain ⟨v, w1, I1, J1, w2, I2, J2, c1, ⟨hb1, hxs1, hx1, hm1⟩, c2, r2⟩ := hCn.2.2.2.2.2.2.2.2.2.2.1 (I b (nI (6 * n) + 1).toNatClampNeg) w I J hR
        have y1 := hxs1 (6 * n + 1) (by omega)
        rw [c1, cJ_e, gA_e hb1 (Or.inr rfl) i1, gO_e hm1]
        rw [q1, y1]
        rw [q1, x1] at c2
        rw [c2, cJ_e, if_pos (lg_self v)]
        exact goes w2 I2 J2 r2
      rw [if_neg h10]
      by_cases h11 : op = 11
      · rw [if_pos h11]
        clear ih
        rw [gA_e hb (Or.inr rfl) i1, gA_e hb (Or.inr rfl) i2]
        by_cases hz : I b (nI (6 * n) + 2).toNatClampNeg = 0
        · rw [if_pos hz]
          obtain ⟨v, w1, I1, J1, w2, I2, J2, c1, ⟨hb1, hxs1, hx1, hm1⟩, c2, r2⟩ := hCn.2.2.2.2.2.2.2.2.2.2.2.1 (I b (nI (6 * n) + 1).toNatClampNeg) 0 (by decide) w I J hR
          have y1 := hxs1 (6 * n + 1) (by omega)
          have y2 := hxs1 (6 * n + 2) (by omega)
          have hz2 : I1 b (nI (6 * n) + 2).toNatClampNeg = 0 := by rw [q2, y2, ← x2, ← q2]; exact hz
          unfold f_0_493
          rw [gO_e hx, c1, cJ_e, gA_e hb1 (Or.inr rfl) i1, gA_e hb1 (Or.inr rfl) i2, if_pos hz2]
          unfold f_0_515
          rw [gO_e hm1, q1, y1]
          rw [q1, x1] at c2
          rw [c2, cJ_e, if_pos (lg_self v)]
          exact goes w2 I2 J2 r2
        · rw [if_neg hz]
          obtain ⟨v, w1, I1, J1, w2, I2, J2, c1, ⟨hb1, hxs1, hx1, hm1⟩, c2, r2⟩ := hCn.2.2.2.2.2.2.2.2.2.2.2.1 (I b (nI (6 * n) + 1).toNatClampNeg) 1 (by decide) w I J hR
          have y1 := hxs1 (6 * n + 1) (by omega)
          have y2 := hxs1 (6 * n + 2) (by omega)
          have hz2 : ¬ I1 b (nI (6 * n) + 2).toNatClampNeg = 0 := by rw [q2, y2, ← x2, ← q2]; exact hz
          unfold f_0_493
          rw [gO_e hx, c1, cJ_e, gA_e hb1 (Or.inr rfl) i1, gA_e hb1 (Or.inr rfl) i2, if_neg hz2]
          unfold f_0_515
          rw [gO_e hm1, q1, y1]
          rw [q1, x1] at c2
          rw [c2, cJ_e, if_pos (lg_self v)]
          exact goes w2 I2 J2 r2
      rw [if_neg h11]
      by_cases h12 : op = 12
      · rw [if_pos h12]
        clear ih
        rw [gA_e hb (Or.inr rfl) i1, gA_e hb (Or.inr rfl) i2, gO_e hx]
        obtain ⟨v, w1, I1, J1, w2, I2, J2, c1, ⟨hb1, hxs1, hx1, hm1⟩, c2, r2⟩ := hCn.2.2.2.2.2.2.2.2.2.2.2.2.1 (I b (nI (6 * n) + 1).toNatClampNeg) (I b (nI (6 * n) + 2).toNatClampNeg) w I J hR
        have y1 := hxs1 (6 * n + 1) (by omega)
        have y2 := hxs1 (6 * n + 2) (by omega)
        rw [c1, cJ_e, gA_e hb1 (Or.inr rfl) i1, gA_e hb1 (Or.inr rfl) i2, gO_e hm1]
        rw [q1, q2, y1, y2]
        rw [q1, q2, x1, x2] at c2
        rw [c2, cJ_e, if_pos (lg_self v)]
        exact goes w2 I2 J2 r2
      rw [if_neg h12]
      by_cases h13 : op = 13
      · rw [if_pos h13]
        clear ih
        rw [gA_e hb (Or.inr rfl) i1, gA_e hb (Or.inr rfl) i2, gO_e hx]
        obtain ⟨v, w1, I1, J1, w2, I2, J2, c1, ⟨hb1, hxs1, hx1, hm1⟩, c2, r2⟩ := hCn.2.2.2.2.2.2.2.2.2.2.2.2.2.1 (I b (nI (6 * n) + 1).toNatClampNeg) (I b (nI (6 * n) + 2).toNatClampNeg) w I J hR
        have y1 := hxs1 (6 * n + 1) (by omega)
        have y2 := hxs1 (6 * n + 2) (by omega)
        rw [c1, cJ_e, gA_e hb1 (Or.inr rfl) i1, gA_e hb1 (Or.inr rfl) i2, gO_e hm1]
        rw [q1, q2, y1, y2]
        rw [q1, q2, x1, x2] at c2
        rw [c2, cJ_e, if_pos (lg_self v)]
        exact goes w2 I2 J2 r2
      rw [if_neg h13]
      by_cases h14 : op = 14
      · rw [if_pos h14]
        clear ih
        rw [gA_e hb (Or.inr rfl) i1, gO_e hx]
        obtain ⟨v, w1, I1, J1, w2, I2, J2, c1, ⟨hb1, hxs1, hx1, hm1⟩, c2, r2⟩ := hCn.2.2.2.2.2.2.2.2.2.2.2.2.2.2.1 (I b (nI (6 * n) + 1).toNatClampNeg) w I J hR
        have y1 := hxs1 (6 * n + 1) (by omega)
        rw [c1, cJ_e, gA_e hb1 (Or.inr rfl) i1, gO_e hm1]
        rw [q1, y1]
        rw [q1, x1] at c2
        rw [c2, cJ_e, if_pos (lg_self v)]
        exact goes w2 I2 J2 r2
      rw [if_neg h14]
      by_cases h15 : op = 15
      · rw [if_pos h15]
        clear ih
        rw [gO_e hx]
        obtain ⟨v, w1, I1, J1, w2, I2, J2, c1, ⟨hb1, hxs1, hx1, hm1⟩, c2, r2⟩ := hCn.2.2.2.2.2.2.2.2.2.2.2.2.2.2.2.1 w I J hR
        rw [c1, cJ_e, gO_e hm1]
        rw [c2, cJ_e, if_pos (lg_self v)]
        exact goes w2 I2 J2 r2
      rw [if_neg h15]
      by_cases h16 : op = 16
      · rw [if_pos h16]
        clear ih
        rw [gO_e hx]
        obtain ⟨v, w1, I1, J1, w2, I2, J2, c1, ⟨hb1, hxs1, hx1, hm1⟩, c2, r2⟩ := hCn.2.2.2.2.2.2.2.2.2.2.2.2.2.2.2.2.1 w I J hR
        rw [c1, cJ_e, gO_e hm1]
        rw [c2, cJ_e, if_pos (lg_self v)]
        exact goes w2 I2 J2 r2
      rw [if_neg h16]
      by_cases h17 : op = 17
      · rw [if_pos h17]
        clear ih
        rw [gA_e hb (Or.inr rfl) i1, gA_e hb (Or.inr rfl) i2, gO_e hx]
        obtain ⟨v, w1, I1, J1, w2, I2, J2, c1, ⟨hb1, hxs1, hx1, hm1⟩, c2, r2⟩ := hCn.2.2.2.2.2.2.2.2.2.2.2.2.2.2.2.2.2.1 (I b (nI (6 * n) + 1).toNatClampNeg) (I b (nI (6 * n) + 2).toNatClampNeg) w I J hR
        have y1 := hxs1 (6 * n + 1) (by omega)
        have y2 := hxs1 (6 * n + 2) (by omega)
        rw [c1, cJ_e, gA_e hb1 (Or.inr rfl) i1, gA_e hb1 (Or.inr rfl) i2, gO_e hm1]
        rw [q1, q2, y1, y2]
        rw [q1, q2, x1, x2] at c2
        rw [c2, cJ_e, if_pos (lg_self v)]
        exact goes w2 I2 J2 r2
      rw [if_neg h17]
      by_cases h18 : op = 18
      · rw [if_pos h18]
        clear ih
        rw [gA_e hb (Or.inr rfl) i1, gO_e hx]
        obtain ⟨v, w1, I1, J1, w2, I2, J2, c1, ⟨hb1, hxs1, hx1, hm1⟩, c2, r2⟩ := hCn.2.2.2.2.2.2.2.2.2.2.2.2.2.2.2.2.2.2.1 (I b (nI (6 * n) + 1).toNatClampNeg) w I J hR
        have y1 := hxs1 (6 * n + 1) (by omega)
        rw [c1, cJ_e, gA_e hb1 (Or.inr rfl) i1, gO_e hm1]
        rw [q1, y1]
        rw [q1, x1] at c2
        rw [c2, cJ_e, if_pos (lg_self v)]
        exact goes w2 I2 J2 r2
      rw [if_neg h18]
      by_cases h19 : op = 19
      · rw [if_pos h19]
        clear ih
        rw [gA_e hb (Or.inr rfl) i1, gA_e hb (Or.inr rfl) i2, gA_e hb (Or.inr rfl) i3, gO_e hx]
        obtain ⟨v, w1, I1, J1, w2, I2, J2, c1, ⟨hb1, hxs1, hx1, hm1⟩, c2, r2⟩ := hCn.2.2.2.2.2.2.2.2.2.2.2.2.2.2.2.2.2.2.2.1 (I b (nI (6 * n) + 1).toNatClampNeg) (I b (nI (6 * n) + 2).toNatClampNeg) (I b (nI (6 * n) + 3).toNatClampNeg) w I J hR
        have y1 := hxs1 (6 * n + 1) (by omega)
        have y2 := hxs1 (6 * n + 2) (by omega)
        have y3 := hxs1 (6 * n + 3) (by omega)
        rw [c1, cJ_e, gA_e hb1 (Or.inr rfl) i1, gA_e hb1 (Or.inr rfl) i2, gA_e hb1 (Or.inr rfl) i3, gO_e hm1]
        rw [q1, q2, q3, y1, y2, y3]
        rw [q1, q2, q3, x1, x2, x3] at c2
        rw [c2, cJ_e, if_pos (lg_self v)]
        exact goes w2 I2 J2 r2
      rw [if_neg h19]
      by_cases h20 : op = 20
      · rw [if_pos h20]
        clear ih
        rw [gA_e hb (Or.inr rfl) i1, gA_e hb (Or.inr rfl) i2, gA_e hb (Or.inr rfl) i3, gO_e hx]
        obtain ⟨v, w1, I1, J1, w2, I2, J2, c1, ⟨hb1, hxs1, hx1, hm1⟩, c2, r2⟩ := hCn.2.2.2.2.2.2.2.2.2.2.2.2.2.2.2.2.2.2.2.2.1 (I b (nI (6 * n) + 1).toNatClampNeg) (I b (nI (6 * n) + 2).toNatClampNeg) (I b (nI (6 * n) + 3).toNatClampNeg) w I J hR
        have y1 := hxs1 (6 * n + 1) (by omega)
        have y2 := hxs1 (6 * n + 2) (by omega)
        have y3 := hxs1 (6 * n + 3) (by omega)
        rw [c1, cJ_e, gA_e hb1 (Or.inr rfl) i1, gA_e hb1 (Or.inr rfl) i2, gA_e hb1 (Or.inr rfl) i3, gO_e hm1]
        rw [q1, q2, q3, y1, y2, y3]
        rw [q1, q2, q3, x1, x2, x3] at c2
        rw [c2, cJ_e, if_pos (lg_self v)]
        exact goes w2 I2 J2 r2
      rw [if_neg h20]
      by_cases h21 : op = 21
      · rw [if_pos h21]
        clear ih
        rw [gA_e hb (Or.inr rfl) i1, gA_e hb (Or.inr rfl) i2, gA_e hb (Or.inr rfl) i3, gA_e hb (Or.inr rfl) i4, gA_e hb (Or.inr rfl) i5, gO_e hx]
        obtain ⟨v, w1, I1, J1, w2, I2, J2, c1, ⟨hb1, hxs1, hx1, hm1⟩, c2, r2⟩ := hCn.2.2.2.2.2.2.2.2.2.2.2.2.2.2.2.2.2.2.2.2.2.1 (I b (nI (6 * n) + 1).toNatClampNeg) (I b (nI (6 * n) + 2).toNatClampNeg) (I b (nI (6 * n) + 3).toNatClampNeg) (I b (nI (6 * n) + 4).toNatClampNeg) (I b (nI (6 * n) + 5).toNatClampNeg) w I J hR
        have y1 := hxs1 (6 * n + 1) (by omega)
        have y2 := hxs1 (6 * n + 2) (by omega)
        have y3 := hxs1 (6 * n + 3) (by omega)
        have y4 := hxs1 (6 * n + 4) (by omega)
        have y5 := hxs1 (6 * n + 5) (by omega)
        rw [c1, cJ_e, gA_e hb1 (Or.inr rfl) i1, gA_e hb1 (Or.inr rfl) i2, gA_e hb1 (Or.inr rfl) i3, gA_e hb1 (Or.inr rfl) i4, gA_e hb1 (Or.inr rfl) i5, gO_e hm1]
        rw [q1, q2, q3, q4, q5, y1, y2, y3, y4, y5]
        rw [q1, q2, q3, q4, q5, x1, x2, x3, x4, x5] at c2
        rw [c2, cJ_e, if_pos (lg_self v)]
        exact goes w2 I2 J2 r2
      rw [if_neg h21]
      by_cases h22 : op = 22
      · rw [if_pos h22]
        clear ih
        rw [gA_e hb (Or.inr rfl) i1, gO_e hx]
        obtain ⟨v, w1, I1, J1, w2, I2, J2, c1, ⟨hb1, hxs1, hx1, hm1⟩, c2, r2⟩ := hCn.2.2.2.2.2.2.2.2.2.2.2.2.2.2.2.2.2.2.2.2.2.2.1 (I b (nI (6 * n) + 1).toNatClampNeg) w I J hR
        have y1 := hxs1 (6 * n + 1) (by omega)
        rw [c1, cJ_e, gA_e hb1 (Or.inr rfl) i1, gO_e hm1]
        rw [q1, y1]
        rw [q1, x1] at c2
        rw [c2, cJ_e, if_pos (lg_self v)]
        exact goes w2 I2 J2 r2
      rw [if_neg h22]
      by_cases h23 : op = 23
      · rw [if_pos h23]
        clear ih
        rw [gA_e hb (Or.inr rfl) i1, gO_e hx]
        obtain ⟨v, w1, I1, J1, w2, I2, J2, c1, ⟨hb1, hxs1, hx1, hm1⟩, c2, r2⟩ := hCn.2.2.2.2.2.2.2.2.2.2.2.2.2.2.2.2.2.2.2.2.2.2.2 (I b (nI (6 * n) + 1).toNatClampNeg) w I J hR
        have y1 := hxs1 (6 * n + 1) (by omega)
        rw [c1, cJ_e, gA_e hb1 (Or.inr rfl) i1, gO_e hm1]
        rw [q1, y1]
        rw [q1, x1] at c2
        rw [c2, cJ_e, if_pos (lg_self v)]
        exact goes w2 I2 J2 r2
      rw [if_neg h23]
      exact goes w I J (hM n w I J hR)

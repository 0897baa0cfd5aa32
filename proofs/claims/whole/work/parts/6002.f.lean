/-! methods as functions, by own program (wip/whole/gen_f.py) -/
/-! ProvedMachine$Reader.readHead()V -/
theorem gl_40 : gcd.lookup 40 = some gw_40 := rfl
theorem cd_40_0 : sm_cd 40 0 = some (.aload_n 0, 1, 0, 0, 0, 0, 0, 0, 0) := cd_of gl_40 rfl
theorem cd_40_1 : sm_cd 40 1 = some (.getfield 12, 3, 2, 0, 2, 0, 0, 0, 0) := cd_of gl_40 rfl
theorem cd_40_4 : sm_cd 40 4 = some (.sipush 256, 3, 0, 0, 0, 0, 0, 256, 0) := cd_of gl_40 rfl
theorem cd_40_7 : sm_cd 40 7 = some (.invokevirtual 116, 3, 41, 0, 1, 2, 4, 0, 0) := cd_of gl_40 rfl
theorem cd_40_10 : sm_cd 40 10 = some (.aload_n 0, 1, 0, 0, 0, 0, 0, 0, 0) := cd_of gl_40 rfl
theorem cd_40_11 : sm_cd 40 11 = some (.aload_n 0, 1, 0, 0, 0, 0, 0, 0, 0) := cd_of gl_40 rfl
theorem cd_40_12 : sm_cd 40 12 = some (.getfield 12, 3, 2, 0, 2, 0, 0, 0, 0) := cd_of gl_40 rfl
theorem cd_40_15 : sm_cd 40 15 = some (.invokevirtual 78, 3, 44, 0, 0, 1, 4, 0, 0) := cd_of gl_40 rfl
theorem cd_40_18 : sm_cd 40 18 = some (.putfield 29, 3, 2, 3, 0, 0, 0, 0, 0) := cd_of gl_40 rfl
theorem cd_40_21 : sm_cd 40 21 = some (.aload_n 0, 1, 0, 0, 0, 0, 0, 0, 0) := cd_of gl_40 rfl
theorem cd_40_22 : sm_cd 40 22 = some (.getfield 12, 3, 2, 0, 2, 0, 0, 0, 0) := cd_of gl_40 rfl
theorem cd_40_25 : sm_cd 40 25 = some (.invokevirtual 129, 3, 45, 0, 0, 2, 4, 0, 0) := cd_of gl_40 rfl
theorem cd_40_28 : sm_cd 40 28 = some (.istore_n 1, 1, 1, 0, 0, 0, 0, 0, 0) := cd_of gl_40 rfl
theorem cd_40_29 : sm_cd 40 29 = some (.aload_n 0, 1, 0, 0, 0, 0, 0, 0, 0) := cd_of gl_40 rfl
theorem cd_40_30 : sm_cd 40 30 = some (.iload_n 1, 1, 1, 0, 0, 0, 0, 0, 0) := cd_of gl_40 rfl
theorem cd_40_31 : sm_cd 40 31 = some (.invokevirtual 132, 3, 47, 0, 1, 2, 2, 0, 0) := cd_of gl_40 rfl
theorem cd_40_34 : sm_cd 40 34 = some (.ifCond .lt 14, 3, 48, 0, 0, 0, 0, 0, 0) := cd_of gl_40 rfl
theorem cd_40_37 : sm_cd 40 37 = some (.aload_n 0, 1, 0, 0, 0, 0, 0, 0, 0) := cd_of gl_40 rfl
theorem cd_40_38 : sm_cd 40 38 = some (.aload_n 0, 1, 0, 0, 0, 0, 0, 0, 0) := cd_of gl_40 rfl
theorem cd_40_39 : sm_cd 40 39 = some (.getfield 29, 3, 2, 3, 0, 0, 0, 0, 0) := cd_of gl_40 rfl
theorem cd_40_42 : sm_cd 40 42 = some (.invokevirtual 113, 3, 48, 0, 1, 2, 2, 0, 0) := cd_of gl_40 rfl
theorem cd_40_45 : sm_cd 40 45 = some (.goto 23, 3, 68, 0, 0, 0, 0, 0, 0) := cd_of gl_40 rfl
theorem cd_40_48 : sm_cd 40 48 = some (.iload_n 1, 1, 1, 0, 0, 0, 0, 0, 0) := cd_of gl_40 rfl
theorem cd_40_49 : sm_cd 40 49 = some (.ifCond .lt 19, 3, 68, 0, 0, 0, 0, 0, 0) := cd_of gl_40 rfl
theorem cd_40_52 : sm_cd 40 52 = some (.iload_n 1, 1, 1, 0, 0, 0, 0, 0, 0) := cd_of gl_40 rfl
theorem cd_40_53 : sm_cd 40 53 = some (.bipush 26, 2, 0, 0, 0, 0, 0, 26, 0) := cd_of gl_40 rfl
theorem cd_40_55 : sm_cd 40 55 = some (.if_icmp .ge 13, 3, 68, 0, 0, 0, 0, 0, 0) := cd_of gl_40 rfl
theorem cd_40_58 : sm_cd 40 58 = some (.aload_n 0, 1, 0, 0, 0, 0, 0, 0, 0) := cd_of gl_40 rfl
theorem cd_40_59 : sm_cd 40 59 = some (.getfield 32, 3, 2, 4, 2, 0, 0, 0, 0) := cd_of gl_40 rfl
theorem cd_40_62 : sm_cd 40 62 = some (.iload_n 1, 1, 1, 0, 0, 0, 0, 0, 0) := cd_of gl_40 rfl
theorem cd_40_63 : sm_cd 40 63 = some (.aload_n 0, 1, 0, 0, 0, 0, 0, 0, 0) := cd_of gl_40 rfl
theorem cd_40_64 : sm_cd 40 64 = some (.getfield 25, 3, 2, 2, 0, 0, 0, 0, 0) := cd_of gl_40 rfl
theorem cd_40_67 : sm_cd 40 67 = some (.iastore, 1, 0, 0, 0, 0, 0, 0, 0) := cd_of gl_40 rfl
theorem cd_40_68 : sm_cd 40 68 = some (.aload_n 0, 1, 0, 0, 0, 0, 0, 0, 0) := cd_of gl_40 rfl
theorem cd_40_69 : sm_cd 40 69 = some (.getfield 12, 3, 2, 0, 2, 0, 0, 0, 0) := cd_of gl_40 rfl
theorem cd_40_72 : sm_cd 40 72 = some (.bipush 40, 2, 0, 0, 0, 0, 0, 40, 0) := cd_of gl_40 rfl
theorem cd_40_74 : sm_cd 40 74 = some (.invokevirtual 116, 3, 41, 0, 1, 2, 4, 0, 0) := cd_of gl_40 rfl
theorem cd_40_77 : sm_cd 40 77 = some (.iconst 0, 1, 0, 0, 0, 0, 0, 0, 0) := cd_of gl_40 rfl
theorem cd_40_78 : sm_cd 40 78 = some (.istore_n 2, 1, 2, 0, 0, 0, 0, 0, 0) := cd_of gl_40 rfl
theorem cd_40_79 : sm_cd 40 79 = some (.iload_n 2, 1, 2, 0, 0, 0, 0, 0, 0) := cd_of gl_40 rfl
theorem cd_40_80 : sm_cd 40 80 = some (.sipush 240, 3, 0, 0, 0, 0, 0, 240, 0) := cd_of gl_40 rfl
theorem cd_40_83 : sm_cd 40 83 = some (.if_icmp .ge 48, 3, 131, 0, 0, 0, 0, 0, 0) := cd_of gl_40 rfl
theorem cd_40_86 : sm_cd 40 86 = some (.aload_n 0, 1, 0, 0, 0, 0, 0, 0, 0) := cd_of gl_40 rfl
theorem cd_40_87 : sm_cd 40 87 = some (.iload_n 2, 1, 2, 0, 0, 0, 0, 0, 0) := cd_of gl_40 rfl
theorem cd_40_88 : sm_cd 40 88 = some (.invokevirtual 136, 3, 49, 0, 1, 2, 2, 0, 0) := cd_of gl_40 rfl
theorem cd_40_91 : sm_cd 40 91 = some (.ifCond .eq 40, 3, 131, 0, 0, 0, 0, 0, 0) := cd_of gl_40 rfl
theorem cd_40_94 : sm_cd 40 94 = some (.aload_n 0, 1, 0, 0, 0, 0, 0, 0, 0) := cd_of gl_40 rfl
theorem cd_40_95 : sm_cd 40 95 = some (.getfield 12, 3, 2, 0, 2, 0, 0, 0, 0) := cd_of gl_40 rfl
theorem cd_40_98 : sm_cd 40 98 = some (.invokevirtual 140, 3, 50, 0, 0, 2, 4, 0, 0) := cd_of gl_40 rfl
theorem cd_40_101 : sm_cd 40 101 = some (.istore_n 3, 1, 3, 0, 0, 0, 0, 0, 0) := cd_of gl_40 rfl
theorem cd_40_102 : sm_cd 40 102 = some (.aload_n 0, 1, 0, 0, 0, 0, 0, 0, 0) := cd_of gl_40 rfl
theorem cd_40_103 : sm_cd 40 103 = some (.getfield 12, 3, 2, 0, 2, 0, 0, 0, 0) := cd_of gl_40 rfl
theorem cd_40_106 : sm_cd 40 106 = some (.invokevirtual 78, 3, 44, 0, 0, 1, 4, 0, 0) := cd_of gl_40 rfl
theorem cd_40_109 : sm_cd 40 109 = some (.istore 4, 2, 4, 0, 0, 0, 0, 0, 0) := cd_of gl_40 rfl
theorem cd_40_111 : sm_cd 40 111 = some (.aload_n 0, 1, 0, 0, 0, 0, 0, 0, 0) := cd_of gl_40 rfl
theorem cd_40_112 : sm_cd 40 112 = some (.aload_n 0, 1, 0, 0, 0, 0, 0, 0, 0) := cd_of gl_40 rfl
theorem cd_40_113 : sm_cd 40 113 = some (.getfield 12, 3, 2, 0, 2, 0, 0, 0, 0) := cd_of gl_40 rfl
theorem cd_40_116 : sm_cd 40 116 = some (.invokevirtual 129, 3, 45, 0, 0, 2, 4, 0, 0) := cd_of gl_40 rfl
theorem cd_40_119 : sm_cd 40 119 = some (.iload_n 3, 1, 3, 0, 0, 0, 0, 0, 0) := cd_of gl_40 rfl
theorem cd_40_120 : sm_cd 40 120 = some (.iload 4, 2, 4, 0, 0, 0, 0, 0, 0) := cd_of gl_40 rfl
theorem cd_40_122 : sm_cd 40 122 = some (.invokevirtual 143, 3, 51, 0, 3, 5, 2, 0, 0) := cd_of gl_40 rfl
theorem cd_40_125 : sm_cd 40 125 = some (.iinc 2 1, 3, 2, 0, 0, 0, 0, 1, 0) := cd_of gl_40 rfl
theorem cd_40_128 : sm_cd 40 128 = some (.goto (-49), 3, 79, 0, 0, 0, 0, 0, 0) := cd_of gl_40 rfl
theorem cd_40_131 : sm_cd 40 131 = some (.aload_n 0, 1, 0, 0, 0, 0, 0, 0, 0) := cd_of gl_40 rfl
theorem cd_40_132 : sm_cd 40 132 = some (.getfield 12, 3, 2, 0, 2, 0, 0, 0, 0) := cd_of gl_40 rfl
theorem cd_40_135 : sm_cd 40 135 = some (.bipush 41, 2, 0, 0, 0, 0, 0, 41, 0) := cd_of gl_40 rfl
theorem cd_40_137 : sm_cd 40 137 = some (.invokevirtual 116, 3, 41, 0, 1, 2, 4, 0, 0) := cd_of gl_40 rfl
theorem cd_40_140 : sm_cd 40 140 = some (.aload_n 0, 1, 0, 0, 0, 0, 0, 0, 0) := cd_of gl_40 rfl
theorem cd_40_141 : sm_cd 40 141 = some (.getfield 21, 3, 2, 1, 2, 0, 0, 0, 0) := cd_of gl_40 rfl
theorem cd_40_144 : sm_cd 40 144 = some (.aload_n 0, 1, 0, 0, 0, 0, 0, 0, 0) := cd_of gl_40 rfl
theorem cd_40_145 : sm_cd 40 145 = some (.getfield 25, 3, 2, 2, 0, 0, 0, 0, 0) := cd_of gl_40 rfl
theorem cd_40_148 : sm_cd 40 148 = some (.iconst 1, 1, 0, 0, 0, 0, 0, 1, 0) := cd_of gl_40 rfl
theorem cd_40_149 : sm_cd 40 149 = some (.aload_n 0, 1, 0, 0, 0, 0, 0, 0, 0) := cd_of gl_40 rfl
theorem cd_40_150 : sm_cd 40 150 = some (.getfield 21, 3, 2, 1, 2, 0, 0, 0, 0) := cd_of gl_40 rfl
theorem cd_40_153 : sm_cd 40 153 = some (.aload_n 0, 1, 0, 0, 0, 0, 0, 0, 0) := cd_of gl_40 rfl
theorem cd_40_154 : sm_cd 40 154 = some (.getfield 25, 3, 2, 2, 0, 0, 0, 0, 0) := cd_of gl_40 rfl
theorem cd_40_157 : sm_cd 40 157 = some (.iconst 2, 1, 0, 0, 0, 0, 0, 2, 0) := cd_of gl_40 rfl
theorem cd_40_158 : sm_cd 40 158 = some (.invokevirtual 109, 3, 52, 0, 2, 4, 1, 0, 0) := cd_of gl_40 rfl
theorem cd_40_161 : sm_cd 40 161 = some (.invokevirtual 125, 3, 39, 0, 3, 5, 1, 0, 0) := cd_of gl_40 rfl
theorem cd_40_164 : sm_cd 40 164 = some (.aload_n 0, 1, 0, 0, 0, 0, 0, 0, 0) := cd_of gl_40 rfl
theorem cd_40_165 : sm_cd 40 165 = some (.getfield 21, 3, 2, 1, 2, 0, 0, 0, 0) := cd_of gl_40 rfl
theorem cd_40_168 : sm_cd 40 168 = some (.aload_n 0, 1, 0, 0, 0, 0, 0, 0, 0) := cd_of gl_40 rfl
theorem cd_40_169 : sm_cd 40 169 = some (.getfield 25, 3, 2, 2, 0, 0, 0, 0, 0) := cd_of gl_40 rfl
theorem cd_40_172 : sm_cd 40 172 = some (.iconst 3, 1, 0, 0, 0, 0, 0, 3, 0) := cd_of gl_40 rfl
theorem cd_40_173 : sm_cd 40 173 = some (.aload_n 0, 1, 0, 0, 0, 0, 0, 0, 0) := cd_of gl_40 rfl
theorem cd_40_174 : sm_cd 40 174 = some (.getfield 12, 3, 2, 0, 2, 0, 0, 0, 0) := cd_of gl_40 rfl
theorem cd_40_177 : sm_cd 40 177 = some (.invokevirtual 140, 3, 50, 0, 0, 2, 4, 0, 0) := cd_of gl_40 rfl
theorem cd_40_180 : sm_cd 40 180 = some (.invokevirtual 125, 3, 39, 0, 3, 5, 1, 0, 0) := cd_of gl_40 rfl
theorem cd_40_183 : sm_cd 40 183 = some (.return_, 1, 0, 0, 0, 0, 0, 0, 0) := cd_of gl_40 rfl
noncomputable def f_40_131 (K : Nat → Value) (k d : Nat) (l0 : Nat) (l1 : Int32) (l2 : Int32) (w : aW) (I : aI) (J : aJ) : Option aR :=
  gO w 2 l0 (
  gV w l0 0 fun q_1 =>
  gO w 4 q_1 (
  cV (Cl K d 41 [.ref q_1, .int 41] w I J) fun w_2 I_3 J_4 =>
  gO w_2 2 l0 (
  gV w_2 l0 1 fun q_5 =>
  gO w_2 2 l0 (
  gO w_2 2 l0 (
  gV w_2 l0 1 fun q_6 =>
  gO w_2 2 l0 (
  gO w_2 1 q_6 (
  cI (Cl K d 52 [.ref q_6, .int (I_3 l0 2), .int 2] w_2 I_3 J_4) fun x_10 w_7 I_8 J_9 =>
  gO w_7 1 q_5 (
  cV (Cl K d 39 [.ref q_5, .int (I_3 l0 2), .int 1, .int x_10] w_7 I_8 J_9) fun w_11 I_12 J_13 =>
  gO w_11 2 l0 (
  gV w_11 l0 1 fun q_14 =>
  gO w_11 2 l0 (
  gO w_11 2 l0 (
  gV w_11 l0 0 fun q_15 =>
  gO w_11 4 q_15 (
  cI (Cl K d 50 [.ref q_15] w_11 I_12 J_13) fun x_19 w_16 I_17 J_18 =>
  gO w_16 1 q_14 (
  cV (Cl K d 39 [.ref q_14, .int (I_12 l0 2), .int 3, .int x_19] w_16 I_17 J_18) fun w_20 I_21 J_22 =>
  some (none, w_20, I_21, J_22))))))))))))))
theorem ok_40_131 {K : Nat → Value} {k d : Nat} {l0 : Nat} {l1 : Int32} {l2 : Int32} {w : aW} {I : aI} {J : aJ} {R : aR} (h : f_40_131 K k d l0 l1 l2 w I J = some R) : Go K (d + 1) 40 131 [some (.ref l0), some (.int l1), some (.int l2), none, none] [] w I J R := by
  unfold f_40_131 at h
  refine gs_0 (pc' := 132) (L' := [some (.ref l0), some (.int l1), some (.int l2), none, none]) (st' := [.ref l0]) cd_40_131 rfl rfl ?_
  obtain ⟨ht, h⟩ := gO_s h
  obtain ⟨q_1, hv, h⟩ := gV_s h
  refine gs_gfR cd_40_132 (by decide) ht hv ?_
  refine gs_0 (pc' := 137) (L' := [some (.ref l0), some (.int l1), some (.int l2), none, none]) (st' := [.int 41, .ref q_1]) cd_40_135 rfl rfl ?_
  obtain ⟨ht, h⟩ := gO_s h
  obtain ⟨w_2, I_3, J_4, hcl, h⟩ := cV_s h
  refine gs_call (as := [.ref q_1, .int 41]) (rest := []) cd_40_137 rfl (by decide) rfl (sm_rv_ok (by decide) ht) (Nat.le_of_ble_eq_true rfl) (Nat.le_of_ble_eq_true rfl) rfl hcl ?_
  refine gs_0 (pc' := 141) (L' := [some (.ref l0), some (.int l1), some (.int l2), none, none]) (st' := [.ref l0]) cd_40_140 rfl rfl ?_
  obtain ⟨ht, h⟩ := gO_s h
  obtain ⟨q_5, hv, h⟩ := gV_s h
  refine gs_gfR cd_40_141 (by decide) ht hv ?_
  refine gs_0 (pc' := 145) (L' := [some (.ref l0), some (.int l1), some (.int l2), none, none]) (st' := [.ref l0, .ref q_5]) cd_40_144 rfl rfl ?_
  obtain ⟨ht, h⟩ := gO_s h
  refine gs_gfI cd_40_145 (by decide) (by decide) ht ?_
  refine gs_0 (pc' := 149) (L' := [some (.ref l0), some (.int l1), some (.int l2), none, none]) (st' := [.int 1, .int (I_3 l0 2), .ref q_5]) cd_40_148 rfl rfl ?_
  refine gs_0 (pc' := 150) (L' := [some (.ref l0), some (.int l1), some (.int l2), none, none]) (st' := [.ref l0, .int 1, .int (I_3 l0 2), .ref q_5]) cd_40_149 rfl rfl ?_
  obtain ⟨ht, h⟩ := gO_s h
  obtain ⟨q_6, hv, h⟩ := gV_s h
  refine gs_gfR cd_40_150 (by decide) ht hv ?_
  refine gs_0 (pc' := 154) (L' := [some (.ref l0), some (.int l1), some (.int l2), none, none]) (st' := [.ref l0, .ref q_6, .int 1, .int (I_3 l0 2), .ref q_5]) cd_40_153 rfl rfl ?_
  obtain ⟨ht, h⟩ := gO_s h
  refine gs_gfI cd_40_154 (by decide) (by decide) ht ?_
  refine gs_0 (pc' := 158) (L' := [some (.ref l0), some (.int l1), some (.int l2), none, none]) (st' := [.int 2, .int (I_3 l0 2), .ref q_6, .int 1, .int (I_3 l0 2), .ref q_5]) cd_40_157 rfl rfl ?_
  obtain ⟨ht, h⟩ := gO_s h
  obtain ⟨x_10, w_7, I_8, J_9, hcl, h⟩ := cI_s h
  refine gs_call (as := [.ref q_6, .int (I_3 l0 2), .int 2]) (rest := [.int 1, .int (I_3 l0 2), .ref q_5]) cd_40_158 rfl (by decide) rfl (sm_rv_ok (by decide) ht) (Nat.le_of_ble_eq_true rfl) (Nat.le_of_ble_eq_true rfl) rfl hcl ?_
  obtain ⟨ht, h⟩ := gO_s h
  obtain ⟨w_11, I_12, J_13, hcl, h⟩ := cV_s h
  refine gs_call (as := [.ref q_5, .int (I_3 l0 2), .int 1, .int x_10]) (rest := []) cd_40_161 rfl (by decide) rfl (sm_rv_ok (by decide) ht) (Nat.le_of_ble_eq_true rfl) (Nat.le_of_ble_eq_true rfl) rfl hcl ?_
  refine gs_0 (pc' := 165) (L' := [some (.ref l0), some (.int l1), some (.int l2), none, none]) (st' := [.ref l0]) cd_40_164 rfl rfl ?_
  obtain ⟨ht, h⟩ := gO_s h
  obtain ⟨q_14, hv, h⟩ := gV_s h
  refine gs_gfR cd_40_165 (by decide) ht hv ?_
  refine gs_0 (pc' := 169) (L' := [some (.ref l0), some (.int l1), some (.int l2), none, none]) (st' := [.ref l0, .ref q_14]) cd_40_168 rfl rfl ?_
  obtain ⟨ht, h⟩ := gO_s h
  refine gs_gfI cd_40_169 (by decide) (by decide) ht ?_
  refine gs_0 (pc' := 173) (L' := [some (.ref l0), some (.int l1), some (.int l2), none, none]) (st' := [.int 3, .int (I_12 l0 2), .ref q_14]) cd_40_172 rfl rfl ?_
  refine gs_0 (pc' := 174) (L' := [some (.ref l0), some (.int l1), some (.int l2), none, none]) (st' := [.ref l0, .int 3, .int (I_12 l0 2), .ref q_14]) cd_40_173 rfl rfl ?_
  obtain ⟨ht, h⟩ := gO_s h
  obtain ⟨q_15, hv, h⟩ := gV_s h
  refine gs_gfR cd_40_174 (by decide) ht hv ?_
  obtain ⟨ht, h⟩ := gO_s h
  obtain ⟨x_19, w_16, I_17, J_18, hcl, h⟩ := cI_s h
  refine gs_call (as := [.ref q_15]) (rest := [.int 3, .int (I_12 l0 2), .ref q_14]) cd_40_177 rfl (by decide) rfl (sm_rv_ok (by decide) ht) (Nat.le_of_ble_eq_true rfl) (Nat.le_of_ble_eq_true rfl) rfl hcl ?_
  obtain ⟨ht, h⟩ := gO_s h
  obtain ⟨w_20, I_21, J_22, hcl, h⟩ := cV_s h
  refine gs_call (as := [.ref q_14, .int (I_12 l0 2), .int 3, .int x_19]) (rest := []) cd_40_180 rfl (by decide) rfl (sm_rv_ok (by decide) ht) (Nat.le_of_ble_eq_true rfl) (Nat.le_of_ble_eq_true rfl) rfl hcl ?_
  cases h
  exact gsr cd_40_183 rfl rfl
noncomputable def f_40_79 (K : Nat → Value) (k : Nat) (d : Nat) : Nat → Int32 → Int32 → aW → aI → aJ → Option aR :=
  match k with
  | 0 => fun _ _ _ _ _ _ => none
  | k + 1 => fun l0 l1 l2 w I J =>
  lt_ (f_40_79 K k d) fun r79 =>
  if 240 ≤ l2 then
    f_40_131 K k d l0 l1 l2 w I J
  else
    gO w 2 l0 (
    cI (Cl K d 49 [.ref l0, .int l2] w I J) fun x_4 w_1 I_2 J_3 =>
    if x_4 = 0 then
      f_40_131 K k d l0 l1 l2 w_1 I_2 J_3
    else
      gO w_1 2 l0 (
      gV w_1 l0 0 fun q_5 =>
      gO w_1 4 q_5 (
      cI (Cl K d 50 [.ref q_5] w_1 I_2 J_3) fun x_9 w_6 I_7 J_8 =>
      gO w_6 2 l0 (
      gV w_6 l0 0 fun q_10 =>
      gO w_6 4 q_10 (
      cI (Cl K d 44 [.ref q_10] w_6 I_7 J_8) fun x_14 w_11 I_12 J_13 =>
      gO w_11 2 l0 (
      gV w_11 l0 0 fun q_15 =>
      gO w_11 4 q_15 (
      cI (Cl K d 45 [.ref q_15] w_11 I_12 J_13) fun x_19 w_16 I_17 J_18 =>
      gO w_16 2 l0 (
      cV (Cl K d 51 [.ref l0, .int x_19, .int x_9, .int x_14] w_16 I_17 J_18) fun w_20 I_21 J_22 =>
      lt_ (l2 + 1) fun x_23 =>
      r79 l0 l1 x_23 w_20 I_21 J_22))))))))
theorem ok_40_79 {K : Nat → Value} {d : Nat} : ∀ {k : Nat} {l0 : Nat} {l1 : Int32} {l2 : Int32} {w : aW} {I : aI} {J : aJ} {R : aR}, f_40_79 K k d l0 l1 l2 w I J = some R → Go K (d + 1) 40 79 [some (.ref l0), some (.int l1), some (.int l2), none, none] [] w I J R := by
  intro k
  induction k with
  | zero => intro l0 l1 l2 w I J R h; cases h
  | succ k ih =>
    intro l0 l1 l2 w I J R h
    have hr79 : ∀ (l0 : Nat) (l1 : Int32) (l2 : Int32) (w : aW) (I : aI) (J : aJ) (R : aR), f_40_79 K k d l0 l1 l2 w I J = some R → Go K (d + 1) 40 79 [some (.ref l0), some (.int l1), some (.int l2), none, none] [] w I J R := fun l0 l1 l2 w I J R h => ih h
    rw [f_40_79] at h
    obtain ⟨r79, hx, h⟩ := lt_s_ h
    rw [hx] at hr79
    clear hx ih
    refine gs_0 (pc' := 80) (L' := [some (.ref l0), some (.int l1), some (.int l2), none, none]) (st' := [.int l2]) cd_40_79 rfl rfl ?_
    refine gs_0 (pc' := 83) (L' := [some (.ref l0), some (.int l1), some (.int l2), none, none]) (st' := [.int 240, .int l2]) cd_40_80 rfl rfl ?_
    refine gs_0 (pc' := if 240 ≤ l2 then 131 else 86) (L' := [some (.ref l0), some (.int l1), some (.int l2), none, none]) (st' := []) cd_40_83 rfl rfl ?_
    refine go_ite (fun hc => ?_) (fun hc => ?_)
    · rw [if_pos hc] at h
      exact ok_40_131 h
    · rw [if_neg hc] at h
      refine gs_0 (pc' := 87) (L' := [some (.ref l0), some (.int l1), some (.int l2), none, none]) (st' := [.ref l0]) cd_40_86 rfl rfl ?_
      refine gs_0 (pc' := 88) (L' := [some (.ref l0), some (.int l1), some (.int l2), none, none]) (st' := [.int l2, .ref l0]) cd_40_87 rfl rfl ?_
      obtain ⟨ht, h⟩ := gO_s h
      obtain ⟨x_4, w_1, I_2, J_3, hcl, h⟩ := cI_s h
      refine gs_call (as := [.ref l0, .int l2]) (rest := []) cd_40_88 rfl (by decide) rfl (sm_rv_ok (by decide) ht) (Nat.le_of_ble_eq_true rfl) (Nat.le_of_ble_eq_true rfl) rfl hcl ?_
      refine gs_0 (pc' := if x_4 = 0 then 131 else 94) (L' := [some (.ref l0), some (.int l1), some (.int l2), none, none]) (st' := []) cd_40_91 rfl rfl ?_
      refine go_ite (fun hc => ?_) (fun hc => ?_)
      · rw [if_pos hc] at h
        exact ok_40_131 h
      · rw [if_neg hc] at h
        refine gs_0 (pc' := 95) (L' := [some (.ref l0), some (.int l1), some (.int l2), none, none]) (st' := [.ref l0]) cd_40_94 rfl rfl ?_
        obtain ⟨ht, h⟩ := gO_s h
        obtain ⟨q_5, hv, h⟩ := gV_s h
        refine gs_gfR cd_40_95 (by decide) ht hv ?_
        obtain ⟨ht, h⟩ := gO_s h
        obtain ⟨x_9, w_6, I_7, J_8, hcl, h⟩ := cI_s h
        refine gs_call (as := [.ref q_5]) (rest := []) cd_40_98 rfl (by decide) rfl (sm_rv_ok (by decide) ht) (Nat.le_of_ble_eq_true rfl) (Nat.le_of_ble_eq_true rfl) rfl hcl ?_
        refine gs_0 (pc' := 102) (L' := [some (.ref l0), some (.int l1), some (.int l2), some (.int x_9), none]) (st' := []) cd_40_101 rfl rfl ?_
        refine gs_0 (pc' := 103) (L' := [some (.ref l0), some (.int l1), some (.int l2), some (.int x_9), none]) (st' := [.ref l0]) cd_40_102 rfl rfl ?_
        obtain ⟨ht, h⟩ := gO_s h
        obtain ⟨q_10, hv, h⟩ := gV_s h
        refine gs_gfR cd_40_103 (by decide) ht hv ?_
        obtain ⟨ht, h⟩ := gO_s h
        obtain ⟨x_14, w_11, I_12, J_13, hcl, h⟩ := cI_s h
        refine gs_call (as := [.ref q_10]) (rest := []) cd_40_106 rfl (by decide) rfl (sm_rv_ok (by decide) ht) (Nat.le_of_ble_eq_true rfl) (Nat.le_of_ble_eq_true rfl) rfl hcl ?_
        refine gs_0 (pc' := 111) (L' := [some (.ref l0), some (.int l1), some (.int l2), some (.int x_9), some (.int x_14)]) (st' := []) cd_40_109 rfl rfl ?_
        refine gs_0 (pc' := 112) (L' := [some (.ref l0), some (.int l1), some (.int l2), some (.int x_9), some (.int x_14)]) (st' := [.ref l0]) cd_40_111 rfl rfl ?_
        refine gs_0 (pc' := 113) (L' := [some (.ref l0), some (.int l1), some (.int l2), some (.int x_9), some (.int x_14)]) (st' := [.ref l0, .ref l0]) cd_40_112 rfl rfl ?_
        obtain ⟨ht, h⟩ := gO_s h
        obtain ⟨q_15, hv, h⟩ := gV_s h
        refine gs_gfR cd_40_113 (by decide) ht hv ?_
        obtain ⟨ht, h⟩ := gO_s h
        obtain ⟨x_19, w_16, I_17, J_18, hcl, h⟩ := cI_s h
        refine gs_call (as := [.ref q_15]) (rest := [.ref l0]) cd_40_116 rfl (by decide) rfl (sm_rv_ok (by decide) ht) (Nat.le_of_ble_eq_true rfl) (Nat.le_of_ble_eq_true rfl) rfl hcl ?_
        refine gs_0 (pc' := 120) (L' := [some (.ref l0), some (.int l1), some (.int l2), some (.int x_9), some (.int x_14)]) (st' := [.int x_9, .int x_19, .ref l0]) cd_40_119 rfl rfl ?_
        refine gs_0 (pc' := 122) (L' := [some (.ref l0), some (.int l1), some (.int l2), some (.int x_9), some (.int x_14)]) (st' := [.int x_14, .int x_9, .int x_19, .ref l0]) cd_40_120 rfl rfl ?_
        obtain ⟨ht, h⟩ := gO_s h
        obtain ⟨w_20, I_21, J_22, hcl, h⟩ := cV_s h
        refine gs_call (as := [.ref l0, .int x_19, .int x_9, .int x_14]) (rest := []) cd_40_122 rfl (by decide) rfl (sm_rv_ok (by decide) ht) (Nat.le_of_ble_eq_true rfl) (Nat.le_of_ble_eq_true rfl) rfl hcl ?_
        refine gs_0 (pc' := 128) (L' := [some (.ref l0), some (.int l1), some (.int (l2 + 1)), some (.int x_9), some (.int x_14)]) (st' := []) cd_40_125 rfl rfl ?_
        obtain ⟨x_23, hx, h⟩ := lt_s_ h
        rw [hx]
        clear hx
        refine gs_0 (pc' := 79) (L' := [some (.ref l0), some (.int l1), some (.int x_23), some (.int x_9), some (.int x_14)]) (st' := []) cd_40_128 rfl rfl ?_
        refine go_drop [some (.ref l0), some (.int l1), some (.int x_23), none, none] ⟨rfl, ⟨rfl, ⟨rfl, ⟨rfl, ⟨rfl, trivial⟩⟩⟩⟩⟩ ?_
        exact hr79 l0 l1 x_23 _ _ _ _ h
noncomputable def f_40_68 (K : Nat → Value) (k d : Nat) (l0 : Nat) (l1 : Int32) (w : aW) (I : aI) (J : aJ) : Option aR :=
  gO w 2 l0 (
  gV w l0 0 fun q_1 =>
  gO w 4 q_1 (
  cV (Cl K d 41 [.ref q_1, .int 40] w I J) fun w_2 I_3 J_4 =>
  f_40_79 K k d l0 l1 0 w_2 I_3 J_4))
theorem ok_40_68 {K : Nat → Value} {k d : Nat} {l0 : Nat} {l1 : Int32} {w : aW} {I : aI} {J : aJ} {R : aR} (h : f_40_68 K k d l0 l1 w I J = some R) : Go K (d + 1) 40 68 [some (.ref l0), some (.int l1), none, none, none] [] w I J R := by
  unfold f_40_68 at h
  refine gs_0 (pc' := 69) (L' := [some (.ref l0), some (.int l1), none, none, none]) (st' := [.ref l0]) cd_40_68 rfl rfl ?_
  obtain ⟨ht, h⟩ := gO_s h
  obtain ⟨q_1, hv, h⟩ := gV_s h
  refine gs_gfR cd_40_69 (by decide) ht hv ?_
  refine gs_0 (pc' := 74) (L' := [some (.ref l0), some (.int l1), none, none, none]) (st' := [.int 40, .ref q_1]) cd_40_72 rfl rfl ?_
  obtain ⟨ht, h⟩ := gO_s h
  obtain ⟨w_2, I_3, J_4, hcl, h⟩ := cV_s h
  refine gs_call (as := [.ref q_1, .int 40]) (rest := []) cd_40_74 rfl (by decide) rfl (sm_rv_ok (by decide) ht) (Nat.le_of_ble_eq_true rfl) (Nat.le_of_ble_eq_true rfl) rfl hcl ?_
  refine gs_0 (pc' := 78) (L' := [some (.ref l0), some (.int l1), none, none, none]) (st' := [.int 0]) cd_40_77 rfl rfl ?_
  refine gs_0 (pc' := 79) (L' := [some (.ref l0), some (.int l1), some (.int 0), none, none]) (st' := []) cd_40_78 rfl rfl ?_
  exact ok_40_79 h
noncomputable def f_40 (K : Nat → Value) (k d : Nat) (l0 : Nat) (w : aW) (I : aI) (J : aJ) : Option aR :=
  gO w 2 l0 (
  gV w l0 0 fun q_1 =>
  gO w 4 q_1 (
  cV (Cl K d 41 [.ref q_1, .int 256] w I J) fun w_2 I_3 J_4 =>
  gO w_2 2 l0 (
  gV w_2 l0 0 fun q_5 =>
  gO w_2 4 q_5 (
  cI (Cl K d 44 [.ref q_5] w_2 I_3 J_4) fun x_9 w_6 I_7 J_8 =>
  gO w_6 2 l0 (
  lt_ (sm_up2 I_7 l0 3 x_9) fun I_10 =>
  gO w_6 2 l0 (
  gV w_6 l0 0 fun q_11 =>
  gO w_6 4 q_11 (
  cI (Cl K d 45 [.ref q_11] w_6 I_10 J_8) fun x_15 w_12 I_13 J_14 =>
  gO w_12 2 l0 (
  cI (Cl K d 47 [.ref l0, .int x_15] w_12 I_13 J_14) fun x_19 w_16 I_17 J_18 =>
  if x_19 < 0 then
    if x_15 < 0 then
      f_40_68 K k d l0 x_15 w_16 I_17 J_18
    else
      if 26 ≤ x_15 then
        f_40_68 K k d l0 x_15 w_16 I_17 J_18
      else
        gO w_16 2 l0 (
        gV w_16 l0 4 fun q_20 =>
        gO w_16 2 l0 (
        gA w_16 10 10 q_20 x_15 (
        lt_ (sm_up2 I_17 q_20 (x_15 : Int32).toNatClampNeg (I_17 l0 2)) fun I_21 =>
        f_40_68 K k d l0 x_15 w_16 I_21 J_18)))
  else
    gO w_16 2 l0 (
    gO w_16 2 l0 (
    cV (Cl K d 48 [.ref l0, .int (I_17 l0 3)] w_16 I_17 J_18) fun w_22 I_23 J_24 =>
    f_40_68 K k d l0 x_15 w_22 I_23 J_24))))))))))
theorem ok_40 {K : Nat → Value} {k d : Nat} {l0 : Nat} {w : aW} {I : aI} {J : aJ} {R : aR} (h : f_40 K k d l0 w I J = some R) : Go K (d + 1) 40 0 [some (.ref l0), none, none, none, none] [] w I J R := by
  unfold f_40 at h
  refine gs_0 (pc' := 1) (L' := [some (.ref l0), none, none, none, none]) (st' := [.ref l0]) cd_40_0 rfl rfl ?_
  obtain ⟨ht, h⟩ := gO_s h
  obtain ⟨q_1, hv, h⟩ := gV_s h
  refine gs_gfR cd_40_1 (by decide) ht hv ?_
  refine gs_0 (pc' := 7) (L' := [some (.ref l0), none, none, none, none]) (st' := [.int 256, .ref q_1]) cd_40_4 rfl rfl ?_
  obtain ⟨ht, h⟩ := gO_s h
  obtain ⟨w_2, I_3, J_4, hcl, h⟩ := cV_s h
  refine gs_call (as := [.ref q_1, .int 256]) (rest := []) cd_40_7 rfl (by decide) rfl (sm_rv_ok (by decide) ht) (Nat.le_of_ble_eq_true rfl) (Nat.le_of_ble_eq_true rfl) rfl hcl ?_
  refine gs_0 (pc' := 11) (L' := [some (.ref l0), none, none, none, none]) (st' := [.ref l0]) cd_40_10 rfl rfl ?_
  refine gs_0 (pc' := 12) (L' := [some (.ref l0), none, none, none, none]) (st' := [.ref l0, .ref l0]) cd_40_11 rfl rfl ?_
  obtain ⟨ht, h⟩ := gO_s h
  obtain ⟨q_5, hv, h⟩ := gV_s h
  refine gs_gfR cd_40_12 (by decide) ht hv ?_
  obtain ⟨ht, h⟩ := gO_s h
  obtain ⟨x_9, w_6, I_7, J_8, hcl, h⟩ := cI_s h
  refine gs_call (as := [.ref q_5]) (rest := [.ref l0]) cd_40_15 rfl (by decide) rfl (sm_rv_ok (by decide) ht) (Nat.le_of_ble_eq_true rfl) (Nat.le_of_ble_eq_true rfl) rfl hcl ?_
  obtain ⟨ht, h⟩ := gO_s h
  refine gs_pfI cd_40_18 (by decide) (Or.inl rfl) ht ?_
  obtain ⟨I_10, hx, h⟩ := lt_s_ h
  rw [hx]
  refine gs_0 (pc' := 22) (L' := [some (.ref l0), none, none, none, none]) (st' := [.ref l0]) cd_40_21 rfl rfl ?_
  obtain ⟨ht, h⟩ := gO_s h
  obtain ⟨q_11, hv, h⟩ := gV_s h
  refine gs_gfR cd_40_22 (by decide) ht hv ?_
  obtain ⟨ht, h⟩ := gO_s h
  obtain ⟨x_15, w_12, I_13, J_14, hcl, h⟩ := cI_s h
  refine gs_call (as := [.ref q_11]) (rest := []) cd_40_25 rfl (by decide) rfl (sm_rv_ok (by decide) ht) (Nat.le_of_ble_eq_true rfl) (Nat.le_of_ble_eq_true rfl) rfl hcl ?_
  refine gs_0 (pc' := 29) (L' := [some (.ref l0), some (.int x_15), none, none, none]) (st' := []) cd_40_28 rfl rfl ?_
  refine gs_0 (pc' := 30) (L' := [some (.ref l0), some (.int x_15), none, none, none]) (st' := [.ref l0]) cd_40_29 rfl rfl ?_
  refine gs_0 (pc' := 31) (L' := [some (.ref l0), some (.int x_15), none, none, none]) (st' := [.int x_15, .ref l0]) cd_40_30 rfl rfl ?_
  obtain ⟨ht, h⟩ := gO_s h
  obtain ⟨x_19, w_16, I_17, J_18, hcl, h⟩ := cI_s h
  refine gs_call (as := [.ref l0, .int x_15]) (rest := []) cd_40_31 rfl (by decide) rfl (sm_rv_ok (by decide) ht) (Nat.le_of_ble_eq_true rfl) (Nat.le_of_ble_eq_true rfl) rfl hcl ?_
  refine gs_0 (pc' := if x_19 < 0 then 48 else 37) (L' := [some (.ref l0), some (.int x_15), none, none, none]) (st' := []) cd_40_34 rfl rfl ?_
  refine go_ite (fun hc => ?_) (fun hc => ?_)
  · rw [if_pos hc] at h
    refine gs_0 (pc' := 49) (L' := [some (.ref l0), some (.int x_15), none, none, none]) (st' := [.int x_15]) cd_40_48 rfl rfl ?_
    refine gs_0 (pc' := if x_15 < 0 then 68 else 52) (L' := [some (.ref l0), some (.int x_15), none, none, none]) (st' := []) cd_40_49 rfl rfl ?_
    refine go_ite (fun hc => ?_) (fun hc => ?_)
    · rw [if_pos hc] at h
      exact ok_40_68 h
    · rw [if_neg hc] at h
      refine gs_0 (pc' := 53) (L' := [some (.ref l0), some (.int x_15), none, none, none]) (st' := [.int x_15]) cd_40_52 rfl rfl ?_
      refine gs_0 (pc' := 55) (L' := [some (.ref l0), some (.int x_15), none, none, none]) (st' := [.int 26, .int x_15]) cd_40_53 rfl rfl ?_
      refine gs_0 (pc' := if 26 ≤ x_15 then 68 else 58) (L' := [some (.ref l0), some (.int x_15), none, none, none]) (st' := []) cd_40_55 rfl rfl ?_
      refine go_ite (fun hc => ?_) (fun hc => ?_)
      · rw [if_pos hc] at h
        exact ok_40_68 h
      · rw [if_neg hc] at h
        refine gs_0 (pc' := 59) (L' := [some (.ref l0), some (.int x_15), none, none, none]) (st' := [.ref l0]) cd_40_58 rfl rfl ?_
        obtain ⟨ht, h⟩ := gO_s h
        obtain ⟨q_20, hv, h⟩ := gV_s h
        refine gs_gfR cd_40_59 (by decide) ht hv ?_
        refine gs_0 (pc' := 63) (L' := [some (.ref l0), some (.int x_15), none, none, none]) (st' := [.int x_15, .ref q_20]) cd_40_62 rfl rfl ?_
        refine gs_0 (pc' := 64) (L' := [some (.ref l0), some (.int x_15), none, none, none]) (st' := [.ref l0, .int x_15, .ref q_20]) cd_40_63 rfl rfl ?_
        obtain ⟨ht, h⟩ := gO_s h
        refine gs_gfI cd_40_64 (by decide) (by decide) ht ?_
        obtain ⟨ht, h⟩ := gA_s h
        refine gs_iast cd_40_67 ht ?_
        obtain ⟨I_21, hx, h⟩ := lt_s_ h
        rw [hx]
        exact ok_40_68 h
  · rw [if_neg hc] at h
    refine gs_0 (pc' := 38) (L' := [some (.ref l0), some (.int x_15), none, none, none]) (st' := [.ref l0]) cd_40_37 rfl rfl ?_
    refine gs_0 (pc' := 39) (L' := [some (.ref l0), some (.int x_15), none, none, none]) (st' := [.ref l0, .ref l0]) cd_40_38 rfl rfl ?_
    obtain ⟨ht, h⟩ := gO_s h
    refine gs_gfI cd_40_39 (by decide) (by decide) ht ?_
    obtain ⟨ht, h⟩ := gO_s h
    obtain ⟨w_22, I_23, J_24, hcl, h⟩ := cV_s h
    refine gs_call (as := [.ref l0, .int (I_17 l0 3)]) (rest := []) cd_40_42 rfl (by decide) rfl (sm_rv_ok (by decide) ht) (Nat.le_of_ble_eq_true rfl) (Nat.le_of_ble_eq_true rfl) rfl hcl ?_
    refine gs_0 (pc' := 68) (L' := [some (.ref l0), some (.int x_15), none, none, none]) (st' := []) cd_40_45 rfl rfl ?_
    exact ok_40_68 h
theorem cl_40 {K : Nat → Value} {k d : Nat} {l0 : Nat} {w : aW} {I : aI} {J : aJ} {R : aR} (h : f_40 K k d l0 w I J = some R) : Cl K (d + 1) 40 [.ref l0] w I J = some R := Cl_of (ok_40 h)
/-! ProvedMachine$Tokens.take(I)V -/
theorem gl_41 : gcd.lookup 41 = some gw_41 := rfl
theorem cd_41_0 : sm_cd 41 0 = some (.aload_n 0, 1, 0, 0, 0, 0, 0, 0, 0) := cd_of gl_41 rfl
theorem cd_41_1 : sm_cd 41 1 = some (.invokevirtual 83, 3, 37, 0, 0, 1, 4, 0, 0) := cd_of gl_41 rfl
theorem cd_41_4 : sm_cd 41 4 = some (.iload_n 1, 1, 1, 0, 0, 0, 0, 0, 0) := cd_of gl_41 rfl
theorem cd_41_5 : sm_cd 41 5 = some (.if_icmp .ne 10, 3, 15, 0, 0, 0, 0, 0, 0) := cd_of gl_41 rfl
theorem cd_41_8 : sm_cd 41 8 = some (.aload_n 0, 1, 0, 0, 0, 0, 0, 0, 0) := cd_of gl_41 rfl
theorem cd_41_9 : sm_cd 41 9 = some (.invokevirtual 86, 3, 42, 0, 0, 1, 4, 0, 0) := cd_of gl_41 rfl
theorem cd_41_12 : sm_cd 41 12 = some (.goto 7, 3, 19, 0, 0, 0, 0, 0, 0) := cd_of gl_41 rfl
theorem cd_41_15 : sm_cd 41 15 = some (.aload_n 0, 1, 0, 0, 0, 0, 0, 0, 0) := cd_of gl_41 rfl
theorem cd_41_16 : sm_cd 41 16 = some (.invokevirtual 89, 3, 43, 0, 0, 1, 4, 0, 0) := cd_of gl_41 rfl
theorem cd_41_19 : sm_cd 41 19 = some (.return_, 1, 0, 0, 0, 0, 0, 0, 0) := cd_of gl_41 rfl
noncomputable def f_41 (K : Nat → Value) (k d : Nat) (l0 : Nat) (l1 : Int32) (w : aW) (I : aI) (J : aJ) : Option aR :=
  gO w 4 l0 (
  cI (Cl K d 37 [.ref l0] w I J) fun x_4 w_1 I_2 J_3 =>
  if ¬ x_4 = l1 then
    gO w_1 4 l0 (
    cV (Cl K d 43 [.ref l0] w_1 I_2 J_3) fun w_5 I_6 J_7 =>
    some (none, w_5, I_6, J_7))
  else
    gO w_1 4 l0 (
    cV (Cl K d 42 [.ref l0] w_1 I_2 J_3) fun w_8 I_9 J_10 =>
    some (none, w_8, I_9, J_10)))
theorem ok_41 {K : Nat → Value} {k d : Nat} {l0 : Nat} {l1 : Int32} {w : aW} {I : aI} {J : aJ} {R : aR} (h : f_41 K k d l0 l1 w I J = some R) : Go K (d + 1) 41 0 [some (.ref l0), some (.int l1)] [] w I J R := by
  unfold f_41 at h
  refine gs_0 (pc' := 1) (L' := [some (.ref l0), some (.int l1)]) (st' := [.ref l0]) cd_41_0 rfl rfl ?_
  obtain ⟨ht, h⟩ := gO_s h
  obtain ⟨x_4, w_1, I_2, J_3, hcl, h⟩ := cI_s h
  refine gs_call (as := [.ref l0]) (rest := []) cd_41_1 rfl (by decide) rfl (sm_rv_ok (by decide) ht) (Nat.le_of_ble_eq_true rfl) (Nat.le_of_ble_eq_true rfl) rfl hcl ?_
  refine gs_0 (pc' := 5) (L' := [some (.ref l0), some (.int l1)]) (st' := [.int l1, .int x_4]) cd_41_4 rfl rfl ?_
  refine gs_0 (pc' := if ¬ x_4 = l1 then 15 else 8) (L' := [some (.ref l0), some (.int l1)]) (st' := []) cd_41_5 rfl rfl ?_
  refine go_ite (fun hc => ?_) (fun hc => ?_)
  · rw [if_pos hc] at h
    refine gs_0 (pc' := 16) (L' := [some (.ref l0), some (.int l1)]) (st' := [.ref l0]) cd_41_15 rfl rfl ?_
    obtain ⟨ht, h⟩ := gO_s h
    obtain ⟨w_5, I_6, J_7, hcl, h⟩ := cV_s h
    refine gs_call (as := [.ref l0]) (rest := []) cd_41_16 rfl (by decide) rfl (sm_rv_ok (by decide) ht) (Nat.le_of_ble_eq_true rfl) (Nat.le_of_ble_eq_true rfl) rfl hcl ?_
    cases h
    exact gsr cd_41_19 rfl rfl
  · rw [if_neg hc] at h
    refine gs_0 (pc' := 9) (L' := [some (.ref l0), some (.int l1)]) (st' := [.ref l0]) cd_41_8 rfl rfl ?_
    obtain ⟨ht, h⟩ := gO_s h
    obtain ⟨w_8, I_9, J_10, hcl, h⟩ := cV_s h
    refine gs_call (as := [.ref l0]) (rest := []) cd_41_9 rfl (by decide) rfl (sm_rv_ok (by decide) ht) (Nat.le_of_ble_eq_true rfl) (Nat.le_of_ble_eq_true rfl) rfl hcl ?_
    refine gs_0 (pc' := 19) (L' := [some (.ref l0), some (.int l1)]) (st' := []) cd_41_12 rfl rfl ?_
    cases h
    exact gsr cd_41_19 rfl rfl
theorem cl_41 {K : Nat → Value} {k d : Nat} {l0 : Nat} {l1 : Int32} {w : aW} {I : aI} {J : aJ} {R : aR} (h : f_41 K k d l0 l1 w I J = some R) : Cl K (d + 1) 41 [.ref l0, .int l1] w I J = some R := Cl_of (ok_41 h)
/-! ProvedMachine$Tokens.next()V -/
theorem gl_42 : gcd.lookup 42 = some gw_42 := rfl
theorem cd_42_0 : sm_cd 42 0 = some (.aload_n 0, 1, 0, 0, 0, 0, 0, 0, 0) := cd_of gl_42 rfl
theorem cd_42_1 : sm_cd 42 1 = some (.getfield 31, 3, 4, 6, 1, 0, 0, 0, 0) := cd_of gl_42 rfl
theorem cd_42_4 : sm_cd 42 4 = some (.ifCond .ne 26, 3, 30, 0, 0, 0, 0, 0, 0) := cd_of gl_42 rfl
theorem cd_42_7 : sm_cd 42 7 = some (.aload_n 0, 1, 0, 0, 0, 0, 0, 0, 0) := cd_of gl_42 rfl
theorem cd_42_8 : sm_cd 42 8 = some (.getfield 28, 3, 4, 5, 0, 0, 0, 0, 0) := cd_of gl_42 rfl
theorem cd_42_11 : sm_cd 42 11 = some (.iconst 1, 1, 0, 0, 0, 0, 0, 1, 0) := cd_of gl_42 rfl
theorem cd_42_12 : sm_cd 42 12 = some (.iadd, 1, 0, 0, 0, 0, 0, 0, 0) := cd_of gl_42 rfl
theorem cd_42_13 : sm_cd 42 13 = some (.aload_n 0, 1, 0, 0, 0, 0, 0, 0, 0) := cd_of gl_42 rfl
theorem cd_42_14 : sm_cd 42 14 = some (.getfield 24, 3, 4, 4, 0, 0, 0, 0, 0) := cd_of gl_42 rfl
theorem cd_42_17 : sm_cd 42 17 = some (.if_icmp .ge 13, 3, 30, 0, 0, 0, 0, 0, 0) := cd_of gl_42 rfl
theorem cd_42_20 : sm_cd 42 20 = some (.aload_n 0, 1, 0, 0, 0, 0, 0, 0, 0) := cd_of gl_42 rfl
theorem cd_42_21 : sm_cd 42 21 = some (.dup, 1, 0, 0, 0, 0, 0, 0, 0) := cd_of gl_42 rfl
theorem cd_42_22 : sm_cd 42 22 = some (.getfield 28, 3, 4, 5, 0, 0, 0, 0, 0) := cd_of gl_42 rfl
theorem cd_42_25 : sm_cd 42 25 = some (.iconst 1, 1, 0, 0, 0, 0, 0, 1, 0) := cd_of gl_42 rfl
theorem cd_42_26 : sm_cd 42 26 = some (.iadd, 1, 0, 0, 0, 0, 0, 0, 0) := cd_of gl_42 rfl
theorem cd_42_27 : sm_cd 42 27 = some (.putfield 28, 3, 4, 5, 0, 0, 0, 0, 0) := cd_of gl_42 rfl
theorem cd_42_30 : sm_cd 42 30 = some (.return_, 1, 0, 0, 0, 0, 0, 0, 0) := cd_of gl_42 rfl
noncomputable def f_42 (K : Nat → Value) (k d : Nat) (l0 : Nat) (w : aW) (I : aI) (J : aJ) : Option aR :=
  gO w 4 l0 (
  if ¬ (I l0 6) = 0 then
    some (none, w, I, J)
  else
    gO w 4 l0 (
    gO w 4 l0 (
    if (I l0 4) ≤ ((I l0 5) + 1) then
      some (none, w, I, J)
    else
      gO w 4 l0 (
      gO w 4 l0 (
      lt_ (sm_up2 I l0 5 ((I l0 5) + 1)) fun I_1 =>
      some (none, w, I_1, J))))))
theorem ok_42 {K : Nat → Value} {k d : Nat} {l0 : Nat} {w : aW} {I : aI} {J : aJ} {R : aR} (h : f_42 K k d l0 w I J = some R) : Go K (d + 1) 42 0 [some (.ref l0)] [] w I J R := by
  unfold f_42 at h
  refine gs_0 (pc' := 1) (L' := [some (.ref l0)]) (st' := [.ref l0]) cd_42_0 rfl rfl ?_
  obtain ⟨ht, h⟩ := gO_s h
  refine gs_gfI cd_42_1 (by decide) (by decide) ht ?_
  refine gs_0 (pc' := if ¬ (I l0 6) = 0 then 30 else 7) (L' := [some (.ref l0)]) (st' := []) cd_42_4 rfl rfl ?_
  refine go_ite (fun hc => ?_) (fun hc => ?_)
  · rw [if_pos hc] at h
    cases h
    exact gsr cd_42_30 rfl rfl
  · rw [if_neg hc] at h
    refine gs_0 (pc' := 8) (L' := [some (.ref l0)]) (st' := [.ref l0]) cd_42_7 rfl rfl ?_
    obtain ⟨ht, h⟩ := gO_s h
    refine gs_gfI cd_42_8 (by decide) (by decide) ht ?_
    refine gs_0 (pc' := 12) (L' := [some (.ref l0)]) (st' := [.int 1, .int (I l0 5)]) cd_42_11 rfl rfl ?_
    refine gs_0 (pc' := 13) (L' := [some (.ref l0)]) (st' := [.int ((I l0 5) + 1)]) cd_42_12 rfl rfl ?_
    refine gs_0 (pc' := 14) (L' := [some (.ref l0)]) (st' := [.ref l0, .int ((I l0 5) + 1)]) cd_42_13 rfl rfl ?_
    obtain ⟨ht, h⟩ := gO_s h
    refine gs_gfI cd_42_14 (by decide) (by decide) ht ?_
    refine gs_0 (pc' := if (I l0 4) ≤ ((I l0 5) + 1) then 30 else 20) (L' := [some (.ref l0)]) (st' := []) cd_42_17 rfl rfl ?_
    refine go_ite (fun hc => ?_) (fun hc => ?_)
    · rw [if_pos hc] at h
      cases h
      exact gsr cd_42_30 rfl rfl
    · rw [if_neg hc] at h
      refine gs_0 (pc' := 21) (L' := [some (.ref l0)]) (st' := [.ref l0]) cd_42_20 rfl rfl ?_
      refine gs_0 (pc' := 22) (L' := [some (.ref l0)]) (st' := [.ref l0, .ref l0]) cd_42_21 rfl rfl ?_
      obtain ⟨ht, h⟩ := gO_s h
      refine gs_gfI cd_42_22 (by decide) (by decide) ht ?_
      refine gs_0 (pc' := 26) (L' := [some (.ref l0)]) (st' := [.int 1, .int (I l0 5), .ref l0]) cd_42_25 rfl rfl ?_
      refine gs_0 (pc' := 27) (L' := [some (.ref l0)]) (st' := [.int ((I l0 5) + 1), .ref l0]) cd_42_26 rfl rfl ?_
      obtain ⟨ht, h⟩ := gO_s h
      refine gs_pfI cd_42_27 (by decide) (Or.inl rfl) ht ?_
      obtain ⟨I_1, hx, h⟩ := lt_s_ h
      rw [hx]
      cases h
      exact gsr cd_42_30 rfl rfl
theorem cl_42 {K : Nat → Value} {k d : Nat} {l0 : Nat} {w : aW} {I : aI} {J : aJ} {R : aR} (h : f_42 K k d l0 w I J = some R) : Cl K (d + 1) 42 [.ref l0] w I J = some R := Cl_of (ok_42 h)
/-! ProvedMachine$Tokens.refuse()V -/
theorem gl_43 : gcd.lookup 43 = some gw_43 := rfl
theorem cd_43_0 : sm_cd 43 0 = some (.aload_n 0, 1, 0, 0, 0, 0, 0, 0, 0) := cd_of gl_43 rfl
theorem cd_43_1 : sm_cd 43 1 = some (.iconst 1, 1, 0, 0, 0, 0, 0, 1, 0) := cd_of gl_43 rfl
theorem cd_43_2 : sm_cd 43 2 = some (.putfield 31, 3, 4, 6, 1, 0, 0, 0, 0) := cd_of gl_43 rfl
theorem cd_43_5 : sm_cd 43 5 = some (.return_, 1, 0, 0, 0, 0, 0, 0, 0) := cd_of gl_43 rfl
noncomputable def f_43 (K : Nat → Value) (k d : Nat) (l0 : Nat) (w : aW) (I : aI) (J : aJ) : Option aR :=
  gO w 4 l0 (
  lt_ (sm_up2 I l0 6 1) fun I_1 =>
  some (none, w, I_1, J))
theorem ok_43 {K : Nat → Value} {k d : Nat} {l0 : Nat} {w : aW} {I : aI} {J : aJ} {R : aR} (h : f_43 K k d l0 w I J = some R) : Go K (d + 1) 43 0 [some (.ref l0)] [] w I J R := by
  unfold f_43 at h
  refine gs_0 (pc' := 1) (L' := [some (.ref l0)]) (st' := [.ref l0]) cd_43_0 rfl rfl ?_
  refine gs_0 (pc' := 2) (L' := [some (.ref l0)]) (st' := [.int 1, .ref l0]) cd_43_1 rfl rfl ?_
  obtain ⟨ht, h⟩ := gO_s h
  refine gs_pfI cd_43_2 (by decide) (Or.inr ⟨rfl, Or.inr rfl⟩) ht ?_
  obtain ⟨I_1, hx, h⟩ := lt_s_ h
  rw [hx]
  cases h
  exact gsr cd_43_5 rfl rfl
theorem cl_43 {K : Nat → Value} {k d : Nat} {l0 : Nat} {w : aW} {I : aI} {J : aJ} {R : aR} (h : f_43 K k d l0 w I J = some R) : Cl K (d + 1) 43 [.ref l0] w I J = some R := Cl_of (ok_43 h)
/-! ProvedMachine$Tokens.place()I -/
theorem gl_44 : gcd.lookup 44 = some gw_44 := rfl
theorem cd_44_0 : sm_cd 44 0 = some (.aload_n 0, 1, 0, 0, 0, 0, 0, 0, 0) := cd_of gl_44 rfl
theorem cd_44_1 : sm_cd 44 1 = some (.getfield 28, 3, 4, 5, 0, 0, 0, 0, 0) := cd_of gl_44 rfl
theorem cd_44_4 : sm_cd 44 4 = some (.aload_n 0, 1, 0, 0, 0, 0, 0, 0, 0) := cd_of gl_44 rfl
theorem cd_44_5 : sm_cd 44 5 = some (.getfield 24, 3, 4, 4, 0, 0, 0, 0, 0) := cd_of gl_44 rfl
theorem cd_44_8 : sm_cd 44 8 = some (.if_icmp .ge 15, 3, 23, 0, 0, 0, 0, 0, 0) := cd_of gl_44 rfl
theorem cd_44_11 : sm_cd 44 11 = some (.aload_n 0, 1, 0, 0, 0, 0, 0, 0, 0) := cd_of gl_44 rfl
theorem cd_44_12 : sm_cd 44 12 = some (.getfield 15, 3, 4, 1, 2, 0, 0, 0, 0) := cd_of gl_44 rfl
theorem cd_44_15 : sm_cd 44 15 = some (.aload_n 0, 1, 0, 0, 0, 0, 0, 0, 0) := cd_of gl_44 rfl
theorem cd_44_16 : sm_cd 44 16 = some (.getfield 28, 3, 4, 5, 0, 0, 0, 0, 0) := cd_of gl_44 rfl
theorem cd_44_19 : sm_cd 44 19 = some (.iaload, 1, 0, 0, 0, 0, 0, 0, 0) := cd_of gl_44 rfl
theorem cd_44_20 : sm_cd 44 20 = some (.goto 4, 3, 24, 0, 0, 0, 0, 0, 0) := cd_of gl_44 rfl
theorem cd_44_23 : sm_cd 44 23 = some (.iconst 0, 1, 0, 0, 0, 0, 0, 0, 0) := cd_of gl_44 rfl
theorem cd_44_24 : sm_cd 44 24 = some (.ireturn, 1, 0, 0, 1, 0, 0, 0, 0) := cd_of gl_44 rfl
noncomputable def f_44 (K : Nat → Value) (k d : Nat) (l0 : Nat) (w : aW) (I : aI) (J : aJ) : Option aR :=
  gO w 4 l0 (
  gO w 4 l0 (
  if (I l0 4) ≤ (I l0 5) then
    some (some (.int 0), w, I, J)
  else
    gO w 4 l0 (
    gV w l0 1 fun q_1 =>
    gO w 4 l0 (
    gA w 10 20 q_1 (I l0 5) (
    some (some (.int (I q_1 (I l0 5 : Int32).toNatClampNeg)), w, I, J))))))
theorem ok_44 {K : Nat → Value} {k d : Nat} {l0 : Nat} {w : aW} {I : aI} {J : aJ} {R : aR} (h : f_44 K k d l0 w I J = some R) : Go K (d + 1) 44 0 [some (.ref l0)] [] w I J R := by
  unfold f_44 at h
  refine gs_0 (pc' := 1) (L' := [some (.ref l0)]) (st' := [.ref l0]) cd_44_0 rfl rfl ?_
  obtain ⟨ht, h⟩ := gO_s h
  refine gs_gfI cd_44_1 (by decide) (by decide) ht ?_
  refine gs_0 (pc' := 5) (L' := [some (.ref l0)]) (st' := [.ref l0, .int (I l0 5)]) cd_44_4 rfl rfl ?_
  obtain ⟨ht, h⟩ := gO_s h
  refine gs_gfI cd_44_5 (by decide) (by decide) ht ?_
  refine gs_0 (pc' := if (I l0 4) ≤ (I l0 5) then 23 else 11) (L' := [some (.ref l0)]) (st' := []) cd_44_8 rfl rfl ?_
  refine go_ite (fun hc => ?_) (fun hc => ?_)
  · rw [if_pos hc] at h
    refine gs_0 (pc' := 24) (L' := [some (.ref l0)]) (st' := [.int 0]) cd_44_23 rfl rfl ?_
    cases h
    exact gs_ri cd_44_24 (Or.inl rfl)
  · rw [if_neg hc] at h
    refine gs_0 (pc' := 12) (L' := [some (.ref l0)]) (st' := [.ref l0]) cd_44_11 rfl rfl ?_
    obtain ⟨ht, h⟩ := gO_s h
    obtain ⟨q_1, hv, h⟩ := gV_s h
    refine gs_gfR cd_44_12 (by decide) ht hv ?_
    refine gs_0 (pc' := 16) (L' := [some (.ref l0)]) (st' := [.ref l0, .ref q_1]) cd_44_15 rfl rfl ?_
    obtain ⟨ht, h⟩ := gO_s h
    refine gs_gfI cd_44_16 (by decide) (by decide) ht ?_
    obtain ⟨ht, h⟩ := gA_s h
    refine gs_iald cd_44_19 ht ?_
    refine gs_0 (pc' := 24) (L' := [some (.ref l0)]) (st' := [.int (I q_1 (I l0 5 : Int32).toNatClampNeg)]) cd_44_20 rfl rfl ?_
    cases h
    exact gs_ri cd_44_24 (Or.inl rfl)
theorem cl_44 {K : Nat → Value} {k d : Nat} {l0 : Nat} {w : aW} {I : aI} {J : aJ} {R : aR} (h : f_44 K k d l0 w I J = some R) : Cl K (d + 1) 44 [.ref l0] w I J = some R := Cl_of (ok_44 h)
/-! ProvedMachine$Tokens.takeName()I -/
theorem gl_45 : gcd.lookup 45 = some gw_45 := rfl
theorem cd_45_0 : sm_cd 45 0 = some (.aload_n 0, 1, 0, 0, 0, 0, 0, 0, 0) := cd_of gl_45 rfl
theorem cd_45_1 : sm_cd 45 1 = some (.invokevirtual 83, 3, 37, 0, 0, 1, 4, 0, 0) := cd_of gl_45 rfl
theorem cd_45_4 : sm_cd 45 4 = some (.iconst 1, 1, 0, 0, 0, 0, 0, 1, 0) := cd_of gl_45 rfl
theorem cd_45_5 : sm_cd 45 5 = some (.if_icmp .eq 9, 3, 14, 0, 0, 0, 0, 0, 0) := cd_of gl_45 rfl
theorem cd_45_8 : sm_cd 45 8 = some (.aload_n 0, 1, 0, 0, 0, 0, 0, 0, 0) := cd_of gl_45 rfl
theorem cd_45_9 : sm_cd 45 9 = some (.invokevirtual 89, 3, 43, 0, 0, 1, 4, 0, 0) := cd_of gl_45 rfl
theorem cd_45_12 : sm_cd 45 12 = some (.iconst 0, 1, 0, 0, 0, 0, 0, 0, 0) := cd_of gl_45 rfl
theorem cd_45_13 : sm_cd 45 13 = some (.ireturn, 1, 0, 0, 1, 0, 0, 0, 0) := cd_of gl_45 rfl
theorem cd_45_14 : sm_cd 45 14 = some (.aload_n 0, 1, 0, 0, 0, 0, 0, 0, 0) := cd_of gl_45 rfl
theorem cd_45_15 : sm_cd 45 15 = some (.invokevirtual 92, 3, 46, 0, 0, 1, 4, 0, 0) := cd_of gl_45 rfl
theorem cd_45_18 : sm_cd 45 18 = some (.istore_n 1, 1, 1, 0, 0, 0, 0, 0, 0) := cd_of gl_45 rfl
theorem cd_45_19 : sm_cd 45 19 = some (.aload_n 0, 1, 0, 0, 0, 0, 0, 0, 0) := cd_of gl_45 rfl
theorem cd_45_20 : sm_cd 45 20 = some (.invokevirtual 86, 3, 42, 0, 0, 1, 4, 0, 0) := cd_of gl_45 rfl
theorem cd_45_23 : sm_cd 45 23 = some (.iload_n 1, 1, 1, 0, 0, 0, 0, 0, 0) := cd_of gl_45 rfl
theorem cd_45_24 : sm_cd 45 24 = some (.ireturn, 1, 0, 0, 1, 0, 0, 0, 0) := cd_of gl_45 rfl
noncomputable def f_45 (K : Nat → Value) (k d : Nat) (l0 : Nat) (w : aW) (I : aI) (J : aJ) : Option aR :=
  gO w 4 l0 (
  cI (Cl K d 37 [.ref l0] w I J) fun x_4 w_1 I_2 J_3 =>
  if x_4 = 1 then
    gO w_1 4 l0 (
    cI (Cl K d 46 [.ref l0] w_1 I_2 J_3) fun x_8 w_5 I_6 J_7 =>
    gO w_5 4 l0 (
    cV (Cl K d 42 [.ref l0] w_5 I_6 J_7) fun w_9 I_10 J_11 =>
    some (some (.int x_8), w_9, I_10, J_11)))
  else
    gO w_1 4 l0 (
    cV (Cl K d 43 [.ref l0] w_1 I_2 J_3) fun w_12 I_13 J_14 =>
    some (some (.int 0), w_12, I_13, J_14)))
theorem ok_45 {K : Nat → Value} {k d : Nat} {l0 : Nat} {w : aW} {I : aI} {J : aJ} {R : aR} (h : f_45 K k d l0 w I J = some R) : Go K (d + 1) 45 0 [some (.ref l0), none] [] w I J R := by
  unfold f_45 at h
  refine gs_0 (pc' := 1) (L' := [some (.ref l0), none]) (st' := [.ref l0]) cd_45_0 rfl rfl ?_
  obtain ⟨ht, h⟩ := gO_s h
  obtain ⟨x_4, w_1, I_2, J_3, hcl, h⟩ := cI_s h
  refine gs_call (as := [.ref l0]) (rest := []) cd_45_1 rfl (by decide) rfl (sm_rv_ok (by decide) ht) (Nat.le_of_ble_eq_true rfl) (Nat.le_of_ble_eq_true rfl) rfl hcl ?_
  refine gs_0 (pc' := 5) (L' := [some (.ref l0), none]) (st' := [.int 1, .int x_4]) cd_45_4 rfl rfl ?_
  refine gs_0 (pc' := if x_4 = 1 then 14 else 8) (L' := [some (.ref l0), none]) (st' := []) cd_45_5 rfl rfl ?_
  refine go_ite (fun hc => ?_) (fun hc => ?_)
  · rw [if_pos hc] at h
    refine gs_0 (pc' := 15) (L' := [some (.ref l0), none]) (st' := [.ref l0]) cd_45_14 rfl rfl ?_
    obtain ⟨ht, h⟩ := gO_s h
    obtain ⟨x_8, w_5, I_6, J_7, hcl, h⟩ := cI_s h
    refine gs_call (as := [.ref l0]) (rest := []) cd_45_15 rfl (by decide) rfl (sm_rv_ok (by decide) ht) (Nat.le_of_ble_eq_true rfl) (Nat.le_of_ble_eq_true rfl) rfl hcl ?_
    refine gs_0 (pc' := 19) (L' := [some (.ref l0), some (.int x_8)]) (st' := []) cd_45_18 rfl rfl ?_
    refine gs_0 (pc' := 20) (L' := [some (.ref l0), some (.int x_8)]) (st' := [.ref l0]) cd_45_19 rfl rfl ?_
    obtain ⟨ht, h⟩ := gO_s h
    obtain ⟨w_9, I_10, J_11, hcl, h⟩ := cV_s h
    refine gs_call (as := [.ref l0]) (rest := []) cd_45_20 rfl (by decide) rfl (sm_rv_ok (by decide) ht) (Nat.le_of_ble_eq_true rfl) (Nat.le_of_ble_eq_true rfl) rfl hcl ?_
    refine gs_0 (pc' := 24) (L' := [some (.ref l0), some (.int x_8)]) (st' := [.int x_8]) cd_45_23 rfl rfl ?_
    cases h
    exact gs_ri cd_45_24 (Or.inl rfl)
  · rw [if_neg hc] at h
    refine gs_0 (pc' := 9) (L' := [some (.ref l0), none]) (st' := [.ref l0]) cd_45_8 rfl rfl ?_
    obtain ⟨ht, h⟩ := gO_s h
    obtain ⟨w_12, I_13, J_14, hcl, h⟩ := cV_s h
    refine gs_call (as := [.ref l0]) (rest := []) cd_45_9 rfl (by decide) rfl (sm_rv_ok (by decide) ht) (Nat.le_of_ble_eq_true rfl) (Nat.le_of_ble_eq_true rfl) rfl hcl ?_
    refine gs_0 (pc' := 13) (L' := [some (.ref l0), none]) (st' := [.int 0]) cd_45_12 rfl rfl ?_
    cases h
    exact gs_ri cd_45_13 (Or.inl rfl)
theorem cl_45 {K : Nat → Value} {k d : Nat} {l0 : Nat} {w : aW} {I : aI} {J : aJ} {R : aR} (h : f_45 K k d l0 w I J = some R) : Cl K (d + 1) 45 [.ref l0] w I J = some R := Cl_of (ok_45 h)
/-! ProvedMachine$Tokens.value()I -/
theorem gl_46 : gcd.lookup 46 = some gw_46 := rfl
theorem cd_46_0 : sm_cd 46 0 = some (.aload_n 0, 1, 0, 0, 0, 0, 0, 0, 0) := cd_of gl_46 rfl
theorem cd_46_1 : sm_cd 46 1 = some (.getfield 28, 3, 4, 5, 0, 0, 0, 0, 0) := cd_of gl_46 rfl
theorem cd_46_4 : sm_cd 46 4 = some (.aload_n 0, 1, 0, 0, 0, 0, 0, 0, 0) := cd_of gl_46 rfl
theorem cd_46_5 : sm_cd 46 5 = some (.getfield 24, 3, 4, 4, 0, 0, 0, 0, 0) := cd_of gl_46 rfl
theorem cd_46_8 : sm_cd 46 8 = some (.if_icmp .ge 15, 3, 23, 0, 0, 0, 0, 0, 0) := cd_of gl_46 rfl
theorem cd_46_11 : sm_cd 46 11 = some (.aload_n 0, 1, 0, 0, 0, 0, 0, 0, 0) := cd_of gl_46 rfl
theorem cd_46_12 : sm_cd 46 12 = some (.getfield 18, 3, 4, 2, 2, 0, 0, 0, 0) := cd_of gl_46 rfl
theorem cd_46_15 : sm_cd 46 15 = some (.aload_n 0, 1, 0, 0, 0, 0, 0, 0, 0) := cd_of gl_46 rfl
theorem cd_46_16 : sm_cd 46 16 = some (.getfield 28, 3, 4, 5, 0, 0, 0, 0, 0) := cd_of gl_46 rfl
theorem cd_46_19 : sm_cd 46 19 = some (.iaload, 1, 0, 0, 0, 0, 0, 0, 0) := cd_of gl_46 rfl
theorem cd_46_20 : sm_cd 46 20 = some (.goto 4, 3, 24, 0, 0, 0, 0, 0, 0) := cd_of gl_46 rfl
theorem cd_46_23 : sm_cd 46 23 = some (.iconst 0, 1, 0, 0, 0, 0, 0, 0, 0) := cd_of gl_46 rfl
theorem cd_46_24 : sm_cd 46 24 = some (.ireturn, 1, 0, 0, 1, 0, 0, 0, 0) := cd_of gl_46 rfl
noncomputable def f_46 (K : Nat → Value) (k d : Nat) (l0 : Nat) (w : aW) (I : aI) (J : aJ) : Option aR :=
  gO w 4 l0 (
  gO w 4 l0 (
  if (I l0 4) ≤ (I l0 5) then
    some (some (.int 0), w, I, J)
  else
    gO w 4 l0 (
    gV w l0 2 fun q_1 =>
    gO w 4 l0 (
    gA w 10 20 q_1 (I l0 5) (
    some (some (.int (I q_1 (I l0 5 : Int32).toNatClampNeg)), w, I, J))))))
theorem ok_46 {K : Nat → Value} {k d : Nat} {l0 : Nat} {w : aW} {I : aI} {J : aJ} {R : aR} (h : f_46 K k d l0 w I J = some R) : Go K (d + 1) 46 0 [some (.ref l0)] [] w I J R := by
  unfold f_46 at h
  refine gs_0 (pc' := 1) (L' := [some (.ref l0)]) (st' := [.ref l0]) cd_46_0 rfl rfl ?_
  obtain ⟨ht, h⟩ := gO_s h
  refine gs_gfI cd_46_1 (by decide) (by decide) ht ?_
  refine gs_0 (pc' := 5) (L' := [some (.ref l0)]) (st' := [.ref l0, .int (I l0 5)]) cd_46_4 rfl rfl ?_
  obtain ⟨ht, h⟩ := gO_s h
  refine gs_gfI cd_46_5 (by decide) (by decide) ht ?_
  refine gs_0 (pc' := if (I l0 4) ≤ (I l0 5) then 23 else 11) (L' := [some (.ref l0)]) (st' := []) cd_46_8 rfl rfl ?_
  refine go_ite (fun hc => ?_) (fun hc => ?_)
  · rw [if_pos hc] at h
    refine gs_0 (pc' := 24) (L' := [some (.ref l0)]) (st' := [.int 0]) cd_46_23 rfl rfl ?_
    cases h
    exact gs_ri cd_46_24 (Or.inl rfl)
  · rw [if_neg hc] at h
    refine gs_0 (pc' := 12) (L' := [some (.ref l0)]) (st' := [.ref l0]) cd_46_11 rfl rfl ?_
    obtain ⟨ht, h⟩ := gO_s h
    obtain ⟨q_1, hv, h⟩ := gV_s h
    refine gs_gfR cd_46_12 (by decide) ht hv ?_
    refine gs_0 (pc' := 16) (L' := [some (.ref l0)]) (st' := [.ref l0, .ref q_1]) cd_46_15 rfl rfl ?_
    obtain ⟨ht, h⟩ := gO_s h
    refine gs_gfI cd_46_16 (by decide) (by decide) ht ?_
    obtain ⟨ht, h⟩ := gA_s h
    refine gs_iald cd_46_19 ht ?_
    refine gs_0 (pc' := 24) (L' := [some (.ref l0)]) (st' := [.int (I q_1 (I l0 5 : Int32).toNatClampNeg)]) cd_46_20 rfl rfl ?_
    cases h
    exact gs_ri cd_46_24 (Or.inl rfl)
theorem cl_46 {K : Nat → Value} {k d : Nat} {l0 : Nat} {w : aW} {I : aI} {J : aJ} {R : aR} (h : f_46 K k d l0 w I J = some R) : Cl K (d + 1) 46 [.ref l0] w I J = some R := Cl_of (ok_46 h)
/-! ProvedMachine$Reader.funOf(I)I -/
theorem gl_47 : gcd.lookup 47 = some gw_47 := rfl
theorem cd_47_0 : sm_cd 47 0 = some (.iload_n 1, 1, 1, 0, 0, 0, 0, 0, 0) := cd_of gl_47 rfl
theorem cd_47_1 : sm_cd 47 1 = some (.ifCond .lt 18, 3, 19, 0, 0, 0, 0, 0, 0) := cd_of gl_47 rfl
theorem cd_47_4 : sm_cd 47 4 = some (.iload_n 1, 1, 1, 0, 0, 0, 0, 0, 0) := cd_of gl_47 rfl
theorem cd_47_5 : sm_cd 47 5 = some (.bipush 26, 2, 0, 0, 0, 0, 0, 26, 0) := cd_of gl_47 rfl
theorem cd_47_7 : sm_cd 47 7 = some (.if_icmp .ge 12, 3, 19, 0, 0, 0, 0, 0, 0) := cd_of gl_47 rfl
theorem cd_47_10 : sm_cd 47 10 = some (.aload_n 0, 1, 0, 0, 0, 0, 0, 0, 0) := cd_of gl_47 rfl
theorem cd_47_11 : sm_cd 47 11 = some (.getfield 32, 3, 2, 4, 2, 0, 0, 0, 0) := cd_of gl_47 rfl
theorem cd_47_14 : sm_cd 47 14 = some (.iload_n 1, 1, 1, 0, 0, 0, 0, 0, 0) := cd_of gl_47 rfl
theorem cd_47_15 : sm_cd 47 15 = some (.iaload, 1, 0, 0, 0, 0, 0, 0, 0) := cd_of gl_47 rfl
theorem cd_47_16 : sm_cd 47 16 = some (.goto 4, 3, 20, 0, 0, 0, 0, 0, 0) := cd_of gl_47 rfl
theorem cd_47_19 : sm_cd 47 19 = some (.iconst (-1), 1, 0, 0, 0, 0, 0, (-1), 0) := cd_of gl_47 rfl
theorem cd_47_20 : sm_cd 47 20 = some (.ireturn, 1, 0, 0, 1, 0, 0, 0, 0) := cd_of gl_47 rfl
noncomputable def f_47 (K : Nat → Value) (k d : Nat) (l0 : Nat) (l1 : Int32) (w : aW) (I : aI) (J : aJ) : Option aR :=
  if l1 < 0 then
    some (some (.int (-1)), w, I, J)
  else
    if 26 ≤ l1 then
      some (some (.int (-1)), w, I, J)
    else
      gO w 2 l0 (
      gV w l0 4 fun q_1 =>
      gA w 10 20 q_1 l1 (
      some (some (.int (I q_1 (l1 : Int32).toNatClampNeg)), w, I, J)))
theorem ok_47 {K : Nat → Value} {k d : Nat} {l0 : Nat} {l1 : Int32} {w : aW} {I : aI} {J : aJ} {R : aR} (h : f_47 K k d l0 l1 w I J = some R) : Go K (d + 1) 47 0 [some (.ref l0), some (.int l1)] [] w I J R := by
  unfold f_47 at h
  refine gs_0 (pc' := 1) (L' := [some (.ref l0), some (.int l1)]) (st' := [.int l1]) cd_47_0 rfl rfl ?_
  refine gs_0 (pc' := if l1 < 0 then 19 else 4) (L' := [some (.ref l0), some (.int l1)]) (st' := []) cd_47_1 rfl rfl ?_
  refine go_ite (fun hc => ?_) (fun hc => ?_)
  · rw [if_pos hc] at h
    refine gs_0 (pc' := 20) (L' := [some (.ref l0), some (.int l1)]) (st' := [.int ((-1))]) cd_47_19 rfl rfl ?_
    cases h
    exact gs_ri cd_47_20 (Or.inl rfl)
  · rw [if_neg hc] at h
    refine gs_0 (pc' := 5) (L' := [some (.ref l0), some (.int l1)]) (st' := [.int l1]) cd_47_4 rfl rfl ?_
    refine gs_0 (pc' := 7) (L' := [some (.ref l0), some (.int l1)]) (st' := [.int 26, .int l1]) cd_47_5 rfl rfl ?_
    refine gs_0 (pc' := if 26 ≤ l1 then 19 else 10) (L' := [some (.ref l0), some (.int l1)]) (st' := []) cd_47_7 rfl rfl ?_
    refine go_ite (fun hc => ?_) (fun hc => ?_)
    · rw [if_pos hc] at h
      refine gs_0 (pc' := 20) (L' := [some (.ref l0), some (.int l1)]) (st' := [.int ((-1))]) cd_47_19 rfl rfl ?_
      cases h
      exact gs_ri cd_47_20 (Or.inl rfl)
    · rw [if_neg hc] at h
      refine gs_0 (pc' := 11) (L' := [some (.ref l0), some (.int l1)]) (st' := [.ref l0]) cd_47_10 rfl rfl ?_
      obtain ⟨ht, h⟩ := gO_s h
      obtain ⟨q_1, hv, h⟩ := gV_s h
      refine gs_gfR cd_47_11 (by decide) ht hv ?_
      refine gs_0 (pc' := 15) (L' := [some (.ref l0), some (.int l1)]) (st' := [.int l1, .ref q_1]) cd_47_14 rfl rfl ?_
      obtain ⟨ht, h⟩ := gA_s h
      refine gs_iald cd_47_15 ht ?_
      refine gs_0 (pc' := 20) (L' := [some (.ref l0), some (.int l1)]) (st' := [.int (I q_1 (l1 : Int32).toNatClampNeg)]) cd_47_16 rfl rfl ?_
      cases h
      exact gs_ri cd_47_20 (Or.inl rfl)
theorem cl_47 {K : Nat → Value} {k d : Nat} {l0 : Nat} {l1 : Int32} {w : aW} {I : aI} {J : aJ} {R : aR} (h : f_47 K k d l0 l1 w I J = some R) : Cl K (d + 1) 47 [.ref l0, .int l1] w I J = some R := Cl_of (ok_47 h)
/-! ProvedMachine$Reader.noteName(I)V -/
theorem gl_48 : gcd.lookup 48 = some gw_48 := rfl
theorem cd_48_0 : sm_cd 48 0 = some (.aload_n 0, 1, 0, 0, 0, 0, 0, 0, 0) := cd_of gl_48 rfl
theorem cd_48_1 : sm_cd 48 1 = some (.aload_n 0, 1, 0, 0, 0, 0, 0, 0, 0) := cd_of gl_48 rfl
theorem cd_48_2 : sm_cd 48 2 = some (.getfield 39, 3, 2, 6, 0, 0, 0, 0, 0) := cd_of gl_48 rfl
theorem cd_48_5 : sm_cd 48 5 = some (.ifCond .ge 7, 3, 12, 0, 0, 0, 0, 0, 0) := cd_of gl_48 rfl
theorem cd_48_8 : sm_cd 48 8 = some (.iload_n 1, 1, 1, 0, 0, 0, 0, 0, 0) := cd_of gl_48 rfl
theorem cd_48_9 : sm_cd 48 9 = some (.goto 11, 3, 20, 0, 0, 0, 0, 0, 0) := cd_of gl_48 rfl
theorem cd_48_12 : sm_cd 48 12 = some (.aload_n 0, 1, 0, 0, 0, 0, 0, 0, 0) := cd_of gl_48 rfl
theorem cd_48_13 : sm_cd 48 13 = some (.getfield 39, 3, 2, 6, 0, 0, 0, 0, 0) := cd_of gl_48 rfl
theorem cd_48_16 : sm_cd 48 16 = some (.iload_n 1, 1, 1, 0, 0, 0, 0, 0, 0) := cd_of gl_48 rfl
theorem cd_48_17 : sm_cd 48 17 = some (.invokestatic 234, 3, 0, 6, 0, 0, 0, 0, 0) := cd_of gl_48 rfl
theorem cd_48_20 : sm_cd 48 20 = some (.putfield 39, 3, 2, 6, 0, 0, 0, 0, 0) := cd_of gl_48 rfl
theorem cd_48_23 : sm_cd 48 23 = some (.return_, 1, 0, 0, 0, 0, 0, 0, 0) := cd_of gl_48 rfl
noncomputable def f_48_20 (K : Nat → Value) (k d : Nat) (l0 : Nat) (l1 : Int32) (s0 : Nat) (s1 : Int32) (w : aW) (I : aI) (J : aJ) : Option aR :=
  gO w 2 s0 (
  lt_ (sm_up2 I s0 6 s1) fun I_1 =>
  some (none, w, I_1, J))
theorem ok_48_20 {K : Nat → Value} {k d : Nat} {l0 : Nat} {l1 : Int32} {s0 : Nat} {s1 : Int32} {w : aW} {I : aI} {J : aJ} {R : aR} (h : f_48_20 K k d l0 l1 s0 s1 w I J = some R) : Go K (d + 1) 48 20 [some (.ref l0), some (.int l1)] [.int s1, .ref s0] w I J R := by
  unfold f_48_20 at h
  obtain ⟨ht, h⟩ := gO_s h
  refine gs_pfI cd_48_20 (by decide) (Or.inl rfl) ht ?_
  obtain ⟨I_1, hx, h⟩ := lt_s_ h
  rw [hx]
  cases h
  exact gsr cd_48_23 rfl rfl
noncomputable def f_48 (K : Nat → Value) (k d : Nat) (l0 : Nat) (l1 : Int32) (w : aW) (I : aI) (J : aJ) : Option aR :=
  gO w 2 l0 (
  if 0 ≤ (I l0 6) then
    gO w 2 l0 (
    f_48_20 K k d l0 l1 l0 ((if (l1 : Int32) < (I l0 6 : Int32) then (l1 : Int32) else (I l0 6 : Int32))) w I J)
  else
    f_48_20 K k d l0 l1 l0 l1 w I J)
theorem ok_48 {K : Nat → Value} {k d : Nat} {l0 : Nat} {l1 : Int32} {w : aW} {I : aI} {J : aJ} {R : aR} (h : f_48 K k d l0 l1 w I J = some R) : Go K (d + 1) 48 0 [some (.ref l0), some (.int l1)] [] w I J R := by
  unfold f_48 at h
  refine gs_0 (pc' := 1) (L' := [some (.ref l0), some (.int l1)]) (st' := [.ref l0]) cd_48_0 rfl rfl ?_
  refine gs_0 (pc' := 2) (L' := [some (.ref l0), some (.int l1)]) (st' := [.ref l0, .ref l0]) cd_48_1 rfl rfl ?_
  obtain ⟨ht, h⟩ := gO_s h
  refine gs_gfI cd_48_2 (by decide) (by decide) ht ?_
  refine gs_0 (pc' := if 0 ≤ (I l0 6) then 12 else 8) (L' := [some (.ref l0), some (.int l1)]) (st' := [.ref l0]) cd_48_5 rfl rfl ?_
  refine go_ite (fun hc => ?_) (fun hc => ?_)
  · rw [if_pos hc] at h
    refine gs_0 (pc' := 13) (L' := [some (.ref l0), some (.int l1)]) (st' := [.ref l0, .ref l0]) cd_48_12 rfl rfl ?_
    obtain ⟨ht, h⟩ := gO_s h
    refine gs_gfI cd_48_13 (by decide) (by decide) ht ?_
    refine gs_0 (pc' := 17) (L' := [some (.ref l0), some (.int l1)]) (st' := [.int l1, .int (I l0 6), .ref l0]) cd_48_16 rfl rfl ?_
    refine gsp (pc' := 20) (L' := [some (.ref l0), some (.int l1)]) (st' := [.int ((if (l1 : Int32) < (I l0 6 : Int32) then (l1 : Int32) else (I l0 6 : Int32))), .ref l0]) cd_48_17 rfl (by decide) rfl ?_
    exact ok_48_20 h
  · rw [if_neg hc] at h
    refine gs_0 (pc' := 9) (L' := [some (.ref l0), some (.int l1)]) (st' := [.int l1, .ref l0]) cd_48_8 rfl rfl ?_
    refine gs_0 (pc' := 20) (L' := [some (.ref l0), some (.int l1)]) (st' := [.int l1, .ref l0]) cd_48_9 rfl rfl ?_
    exact ok_48_20 h
theorem cl_48 {K : Nat → Value} {k d : Nat} {l0 : Nat} {l1 : Int32} {w : aW} {I : aI} {J : aJ} {R : aR} (h : f_48 K k d l0 l1 w I J = some R) : Cl K (d + 1) 48 [.ref l0, .int l1] w I J = some R := Cl_of (ok_48 h)
/-! ProvedMachine$Reader.goesOnInBrackets(I)Z -/
theorem gl_49 : gcd.lookup 49 = some gw_49 := rfl
theorem cd_49_0 : sm_cd 49 0 = some (.iload_n 1, 1, 1, 0, 0, 0, 0, 0, 0) := cd_of gl_49 rfl
theorem cd_49_1 : sm_cd 49 1 = some (.ifCond .ne 32, 3, 33, 0, 0, 0, 0, 0, 0) := cd_of gl_49 rfl
theorem cd_49_4 : sm_cd 49 4 = some (.aload_n 0, 1, 0, 0, 0, 0, 0, 0, 0) := cd_of gl_49 rfl
theorem cd_49_5 : sm_cd 49 5 = some (.getfield 12, 3, 2, 0, 2, 0, 0, 0, 0) := cd_of gl_49 rfl
theorem cd_49_8 : sm_cd 49 8 = some (.invokevirtual 93, 3, 37, 0, 0, 1, 4, 0, 0) := cd_of gl_49 rfl
theorem cd_49_11 : sm_cd 49 11 = some (.bipush 41, 2, 0, 0, 0, 0, 0, 41, 0) := cd_of gl_49 rfl
theorem cd_49_13 : sm_cd 49 13 = some (.if_icmp .eq 18, 3, 31, 0, 0, 0, 0, 0, 0) := cd_of gl_49 rfl
theorem cd_49_16 : sm_cd 49 16 = some (.aload_n 0, 1, 0, 0, 0, 0, 0, 0, 0) := cd_of gl_49 rfl
theorem cd_49_17 : sm_cd 49 17 = some (.getfield 12, 3, 2, 0, 2, 0, 0, 0, 0) := cd_of gl_49 rfl
theorem cd_49_20 : sm_cd 49 20 = some (.invokevirtual 93, 3, 37, 0, 0, 1, 4, 0, 0) := cd_of gl_49 rfl
theorem cd_49_23 : sm_cd 49 23 = some (.iconst 3, 1, 0, 0, 0, 0, 0, 3, 0) := cd_of gl_49 rfl
theorem cd_49_24 : sm_cd 49 24 = some (.if_icmp .eq 7, 3, 31, 0, 0, 0, 0, 0, 0) := cd_of gl_49 rfl
theorem cd_49_27 : sm_cd 49 27 = some (.iconst 1, 1, 0, 0, 0, 0, 0, 1, 0) := cd_of gl_49 rfl
theorem cd_49_28 : sm_cd 49 28 = some (.goto 4, 3, 32, 0, 0, 0, 0, 0, 0) := cd_of gl_49 rfl
theorem cd_49_31 : sm_cd 49 31 = some (.iconst 0, 1, 0, 0, 0, 0, 0, 0, 0) := cd_of gl_49 rfl
theorem cd_49_32 : sm_cd 49 32 = some (.ireturn, 1, 0, 0, 2, 0, 0, 0, 0) := cd_of gl_49 rfl
theorem cd_49_33 : sm_cd 49 33 = some (.aload_n 0, 1, 0, 0, 0, 0, 0, 0, 0) := cd_of gl_49 rfl
theorem cd_49_34 : sm_cd 49 34 = some (.getfield 12, 3, 2, 0, 2, 0, 0, 0, 0) := cd_of gl_49 rfl
theorem cd_49_37 : sm_cd 49 37 = some (.invokevirtual 93, 3, 37, 0, 0, 1, 4, 0, 0) := cd_of gl_49 rfl
theorem cd_49_40 : sm_cd 49 40 = some (.bipush 44, 2, 0, 0, 0, 0, 0, 44, 0) := cd_of gl_49 rfl
theorem cd_49_42 : sm_cd 49 42 = some (.if_icmp .eq 5, 3, 47, 0, 0, 0, 0, 0, 0) := cd_of gl_49 rfl
theorem cd_49_45 : sm_cd 49 45 = some (.iconst 0, 1, 0, 0, 0, 0, 0, 0, 0) := cd_of gl_49 rfl
theorem cd_49_46 : sm_cd 49 46 = some (.ireturn, 1, 0, 0, 2, 0, 0, 0, 0) := cd_of gl_49 rfl
theorem cd_49_47 : sm_cd 49 47 = some (.aload_n 0, 1, 0, 0, 0, 0, 0, 0, 0) := cd_of gl_49 rfl
theorem cd_49_48 : sm_cd 49 48 = some (.getfield 12, 3, 2, 0, 2, 0, 0, 0, 0) := cd_of gl_49 rfl
theorem cd_49_51 : sm_cd 49 51 = some (.invokevirtual 146, 3, 42, 0, 0, 1, 4, 0, 0) := cd_of gl_49 rfl
theorem cd_49_54 : sm_cd 49 54 = some (.iconst 1, 1, 0, 0, 0, 0, 0, 1, 0) := cd_of gl_49 rfl
theorem cd_49_55 : sm_cd 49 55 = some (.ireturn, 1, 0, 0, 2, 0, 0, 0, 0) := cd_of gl_49 rfl
noncomputable def f_49 (K : Nat → Value) (k d : Nat) (l0 : Nat) (l1 : Int32) (w : aW) (I : aI) (J : aJ) : Option aR :=
  if ¬ l1 = 0 then
    gO w 2 l0 (
    gV w l0 0 fun q_1 =>
    gO w 4 q_1 (
    cI (Cl K d 37 [.ref q_1] w I J) fun x_5 w_2 I_3 J_4 =>
    if x_5 = 44 then
      gO w_2 2 l0 (
      gV w_2 l0 0 fun q_6 =>
      gO w_2 4 q_6 (
      cV (Cl K d 42 [.ref q_6] w_2 I_3 J_4) fun w_7 I_8 J_9 =>
      some (some (.int 1), w_7, I_8, J_9)))
    else
      some (some (.int 0), w_2, I_3, J_4)))
  else
    gO w 2 l0 (
    gV w l0 0 fun q_10 =>
    gO w 4 q_10 (
    cI (Cl K d 37 [.ref q_10] w I J) fun x_14 w_11 I_12 J_13 =>
    if x_14 = 41 then
      some (some (.int 0), w_11, I_12, J_13)
    else
      gO w_11 2 l0 (
      gV w_11 l0 0 fun q_15 =>
      gO w_11 4 q_15 (
      cI (Cl K d 37 [.ref q_15] w_11 I_12 J_13) fun x_19 w_16 I_17 J_18 =>
      if x_19 = 3 then
        some (some (.int 0), w_16, I_17, J_18)
      else
        some (some (.int 1), w_16, I_17, J_18)))))
theorem ok_49 {K : Nat → Value} {k d : Nat} {l0 : Nat} {l1 : Int32} {w : aW} {I : aI} {J : aJ} {R : aR} (h : f_49 K k d l0 l1 w I J = some R) : Go K (d + 1) 49 0 [some (.ref l0), some (.int l1)] [] w I J R := by
  unfold f_49 at h
  refine gs_0 (pc' := 1) (L' := [some (.ref l0), some (.int l1)]) (st' := [.int l1]) cd_49_0 rfl rfl ?_
  refine gs_0 (pc' := if ¬ l1 = 0 then 33 else 4) (L' := [some (.ref l0), some (.int l1)]) (st' := []) cd_49_1 rfl rfl ?_
  refine go_ite (fun hc => ?_) (fun hc => ?_)
  · rw [if_pos hc] at h
    refine gs_0 (pc' := 34) (L' := [some (.ref l0), some (.int l1)]) (st' := [.ref l0]) cd_49_33 rfl rfl ?_
    obtain ⟨ht, h⟩ := gO_s h
    obtain ⟨q_1, hv, h⟩ := gV_s h
    refine gs_gfR cd_49_34 (by decide) ht hv ?_
    obtain ⟨ht, h⟩ := gO_s h
    obtain ⟨x_5, w_2, I_3, J_4, hcl, h⟩ := cI_s h
    refine gs_call (as := [.ref q_1]) (rest := []) cd_49_37 rfl (by decide) rfl (sm_rv_ok (by decide) ht) (Nat.le_of_ble_eq_true rfl) (Nat.le_of_ble_eq_true rfl) rfl hcl ?_
    refine gs_0 (pc' := 42) (L' := [some (.ref l0), some (.int l1)]) (st' := [.int 44, .int x_5]) cd_49_40 rfl rfl ?_
    refine gs_0 (pc' := if x_5 = 44 then 47 else 45) (L' := [some (.ref l0), some (.int l1)]) (st' := []) cd_49_42 rfl rfl ?_
    refine go_ite (fun hc => ?_) (fun hc => ?_)
    · rw [if_pos hc] at h
      refine gs_0 (pc' := 48) (L' := [some (.ref l0), some (.int l1)]) (st' := [.ref l0]) cd_49_47 rfl rfl ?_
      obtain ⟨ht, h⟩ := gO_s h
      obtain ⟨q_6, hv, h⟩ := gV_s h
      refine gs_gfR cd_49_48 (by decide) ht hv ?_
      obtain ⟨ht, h⟩ := gO_s h
      obtain ⟨w_7, I_8, J_9, hcl, h⟩ := cV_s h
      refine gs_call (as := [.ref q_6]) (rest := []) cd_49_51 rfl (by decide) rfl (sm_rv_ok (by decide) ht) (Nat.le_of_ble_eq_true rfl) (Nat.le_of_ble_eq_true rfl) rfl hcl ?_
      refine gs_0 (pc' := 55) (L' := [some (.ref l0), some (.int l1)]) (st' := [.int 1]) cd_49_54 rfl rfl ?_
      cases h
      exact gs_ri cd_49_55 (Or.inr (Or.inl ⟨rfl, Or.inr rfl⟩))
    · rw [if_neg hc] at h
      refine gs_0 (pc' := 46) (L' := [some (.ref l0), some (.int l1)]) (st' := [.int 0]) cd_49_45 rfl rfl ?_
      cases h
      exact gs_ri cd_49_46 (Or.inr (Or.inl ⟨rfl, Or.inl rfl⟩))
  · rw [if_neg hc] at h
    refine gs_0 (pc' := 5) (L' := [some (.ref l0), some (.int l1)]) (st' := [.ref l0]) cd_49_4 rfl rfl ?_
    obtain ⟨ht, h⟩ := gO_s h
    obtain ⟨q_10, hv, h⟩ := gV_s h
    refine gs_gfR cd_49_5 (by decide) ht hv ?_
    obtain ⟨ht, h⟩ := gO_s h
    obtain ⟨x_14, w_11, I_12, J_13, hcl, h⟩ := cI_s h
    refine gs_call (as := [.ref q_10]) (rest := []) cd_49_8 rfl (by decide) rfl (sm_rv_ok (by decide) ht) (Nat.le_of_ble_eq_true rfl) (Nat.le_of_ble_eq_true rfl) rfl hcl ?_
    refine gs_0 (pc' := 13) (L' := [some (.ref l0), some (.int l1)]) (st' := [.int 41, .int x_14]) cd_49_11 rfl rfl ?_
    refine gs_0 (pc' := if x_14 = 41 then 31 else 16) (L' := [some (.ref l0), some (.int l1)]) (st' := []) cd_49_13 rfl rfl ?_
    refine go_ite (fun hc => ?_) (fun hc => ?_)
    · rw [if_pos hc] at h
      refine gs_0 (pc' := 32) (L' := [some (.ref l0), some (.int l1)]) (st' := [.int 0]) cd_49_31 rfl rfl ?_
      cases h
      exact gs_ri cd_49_32 (Or.inr (Or.inl ⟨rfl, Or.inl rfl⟩))
    · rw [if_neg hc] at h
      refine gs_0 (pc' := 17) (L' := [some (.ref l0), some (.int l1)]) (st' := [.ref l0]) cd_49_16 rfl rfl ?_
      obtain ⟨ht, h⟩ := gO_s h
      obtain ⟨q_15, hv, h⟩ := gV_s h
      refine gs_gfR cd_49_17 (by decide) ht hv ?_
      obtain ⟨ht, h⟩ := gO_s h
      obtain ⟨x_19, w_16, I_17, J_18, hcl, h⟩ := cI_s h
      refine gs_call (as := [.ref q_15]) (rest := []) cd_49_20 rfl (by decide) rfl (sm_rv_ok (by decide) ht) (Nat.le_of_ble_eq_true rfl) (Nat.le_of_ble_eq_true rfl) rfl hcl ?_
      refine gs_0 (pc' := 24) (L' := [some (.ref l0), some (.int l1)]) (st' := [.int 3, .int x_19]) cd_49_23 rfl rfl ?_
      refine gs_0 (pc' := if x_19 = 3 then 31 else 27) (L' := [some (.ref l0), some (.int l1)]) (st' := []) cd_49_24 rfl rfl ?_
      refine go_ite (fun hc => ?_) (fun hc => ?_)
      · rw [if_pos hc] at h
        refine gs_0 (pc' := 32) (L' := [some (.ref l0), some (.int l1)]) (st' := [.int 0]) cd_49_31 rfl rfl ?_
        cases h
        exact gs_ri cd_49_32 (Or.inr (Or.inl ⟨rfl, Or.inl rfl⟩))
      · rw [if_neg hc] at h
        refine gs_0 (pc' := 28) (L' := [some (.ref l0), some (.int l1)]) (st' := [.int 1]) cd_49_27 rfl rfl ?_
        refine gs_0 (pc' := 32) (L' := [some (.ref l0), some (.int l1)]) (st' := [.int 1]) cd_49_28 rfl rfl ?_
        cases h
        exact gs_ri cd_49_32 (Or.inr (Or.inl ⟨rfl, Or.inr rfl⟩))
theorem cl_49 {K : Nat → Value} {k d : Nat} {l0 : Nat} {l1 : Int32} {w : aW} {I : aI} {J : aJ} {R : aR} (h : f_49 K k d l0 l1 w I J = some R) : Cl K (d + 1) 49 [.ref l0, .int l1] w I J = some R := Cl_of (ok_49 h)
/-! ProvedMachine$Tokens.takeType()I -/
theorem gl_50 : gcd.lookup 50 = some gw_50 := rfl
theorem cd_50_0 : sm_cd 50 0 = some (.aload_n 0, 1, 0, 0, 0, 0, 0, 0, 0) := cd_of gl_50 rfl
theorem cd_50_1 : sm_cd 50 1 = some (.invokevirtual 83, 3, 37, 0, 0, 1, 4, 0, 0) := cd_of gl_50 rfl
theorem cd_50_4 : sm_cd 50 4 = some (.sipush 262, 3, 0, 0, 0, 0, 0, 262, 0) := cd_of gl_50 rfl
theorem cd_50_7 : sm_cd 50 7 = some (.isub, 1, 0, 0, 0, 0, 0, 0, 0) := cd_of gl_50 rfl
theorem cd_50_8 : sm_cd 50 8 = some (.istore_n 1, 1, 1, 0, 0, 0, 0, 0, 0) := cd_of gl_50 rfl
theorem cd_50_9 : sm_cd 50 9 = some (.iload_n 1, 1, 1, 0, 0, 0, 0, 0, 0) := cd_of gl_50 rfl
theorem cd_50_10 : sm_cd 50 10 = some (.ifCond .lt 8, 3, 18, 0, 0, 0, 0, 0, 0) := cd_of gl_50 rfl
theorem cd_50_13 : sm_cd 50 13 = some (.iload_n 1, 1, 1, 0, 0, 0, 0, 0, 0) := cd_of gl_50 rfl
theorem cd_50_14 : sm_cd 50 14 = some (.iconst 3, 1, 0, 0, 0, 0, 0, 3, 0) := cd_of gl_50 rfl
theorem cd_50_15 : sm_cd 50 15 = some (.if_icmp .le 9, 3, 24, 0, 0, 0, 0, 0, 0) := cd_of gl_50 rfl
theorem cd_50_18 : sm_cd 50 18 = some (.aload_n 0, 1, 0, 0, 0, 0, 0, 0, 0) := cd_of gl_50 rfl
theorem cd_50_19 : sm_cd 50 19 = some (.invokevirtual 89, 3, 43, 0, 0, 1, 4, 0, 0) := cd_of gl_50 rfl
theorem cd_50_22 : sm_cd 50 22 = some (.iconst 0, 1, 0, 0, 0, 0, 0, 0, 0) := cd_of gl_50 rfl
theorem cd_50_23 : sm_cd 50 23 = some (.ireturn, 1, 0, 0, 1, 0, 0, 0, 0) := cd_of gl_50 rfl
theorem cd_50_24 : sm_cd 50 24 = some (.aload_n 0, 1, 0, 0, 0, 0, 0, 0, 0) := cd_of gl_50 rfl
theorem cd_50_25 : sm_cd 50 25 = some (.invokevirtual 86, 3, 42, 0, 0, 1, 4, 0, 0) := cd_of gl_50 rfl
theorem cd_50_28 : sm_cd 50 28 = some (.iload_n 1, 1, 1, 0, 0, 0, 0, 0, 0) := cd_of gl_50 rfl
theorem cd_50_29 : sm_cd 50 29 = some (.ireturn, 1, 0, 0, 1, 0, 0, 0, 0) := cd_of gl_50 rfl
noncomputable def f_50_18 (K : Nat → Value) (k d : Nat) (l0 : Nat) (l1 : Int32) (w : aW) (I : aI) (J : aJ) : Option aR :=
  gO w 4 l0 (
  cV (Cl K d 43 [.ref l0] w I J) fun w_1 I_2 J_3 =>
  some (some (.int 0), w_1, I_2, J_3))
theorem ok_50_18 {K : Nat → Value} {k d : Nat} {l0 : Nat} {l1 : Int32} {w : aW} {I : aI} {J : aJ} {R : aR} (h : f_50_18 K k d l0 l1 w I J = some R) : Go K (d + 1) 50 18 [some (.ref l0), some (.int l1)] [] w I J R := by
  unfold f_50_18 at h
  refine gs_0 (pc' := 19) (L' := [some (.ref l0), some (.int l1)]) (st' := [.ref l0]) cd_50_18 rfl rfl ?_
  obtain ⟨ht, h⟩ := gO_s h
  obtain ⟨w_1, I_2, J_3, hcl, h⟩ := cV_s h
  refine gs_call (as := [.ref l0]) (rest := []) cd_50_19 rfl (by decide) rfl (sm_rv_ok (by decide) ht) (Nat.le_of_ble_eq_true rfl) (Nat.le_of_ble_eq_true rfl) rfl hcl ?_
  refine gs_0 (pc' := 23) (L' := [some (.ref l0), some (.int l1)]) (st' := [.int 0]) cd_50_22 rfl rfl ?_
  cases h
  exact gs_ri cd_50_23 (Or.inl rfl)
noncomputable def f_50 (K : Nat → Value) (k d : Nat) (l0 : Nat) (w : aW) (I : aI) (J : aJ) : Option aR :=
  gO w 4 l0 (
  cI (Cl K d 37 [.ref l0] w I J) fun x_4 w_1 I_2 J_3 =>
  lt_ (x_4 - 262) fun x_5 =>
  if x_5 < 0 then
    f_50_18 K k d l0 x_5 w_1 I_2 J_3
  else
    if x_5 ≤ 3 then
      gO w_1 4 l0 (
      cV (Cl K d 42 [.ref l0] w_1 I_2 J_3) fun w_6 I_7 J_8 =>
      some (some (.int x_5), w_6, I_7, J_8))
    else
      f_50_18 K k d l0 x_5 w_1 I_2 J_3)
theorem ok_50 {K : Nat → Value} {k d : Nat} {l0 : Nat} {w : aW} {I : aI} {J : aJ} {R : aR} (h : f_50 K k d l0 w I J = some R) : Go K (d + 1) 50 0 [some (.ref l0), none] [] w I J R := by
  unfold f_50 at h
  refine gs_0 (pc' := 1) (L' := [some (.ref l0), none]) (st' := [.ref l0]) cd_50_0 rfl rfl ?_
  obtain ⟨ht, h⟩ := gO_s h
  obtain ⟨x_4, w_1, I_2, J_3, hcl, h⟩ := cI_s h
  refine gs_call (as := [.ref l0]) (rest := []) cd_50_1 rfl (by decide) rfl (sm_rv_ok (by decide) ht) (Nat.le_of_ble_eq_true rfl) (Nat.le_of_ble_eq_true rfl) rfl hcl ?_
  refine gs_0 (pc' := 7) (L' := [some (.ref l0), none]) (st' := [.int 262, .int x_4]) cd_50_4 rfl rfl ?_
  refine gs_0 (pc' := 8) (L' := [some (.ref l0), none]) (st' := [.int (x_4 - 262)]) cd_50_7 rfl rfl ?_
  refine gs_0 (pc' := 9) (L' := [some (.ref l0), some (.int (x_4 - 262))]) (st' := []) cd_50_8 rfl rfl ?_
  obtain ⟨x_5, hx, h⟩ := lt_s_ h
  rw [hx]
  clear hx
  refine gs_0 (pc' := 10) (L' := [some (.ref l0), some (.int x_5)]) (st' := [.int x_5]) cd_50_9 rfl rfl ?_
  refine gs_0 (pc' := if x_5 < 0 then 18 else 13) (L' := [some (.ref l0), some (.int x_5)]) (st' := []) cd_50_10 rfl rfl ?_
  refine go_ite (fun hc => ?_) (fun hc => ?_)
  · rw [if_pos hc] at h
    exact ok_50_18 h
  · rw [if_neg hc] at h
    refine gs_0 (pc' := 14) (L' := [some (.ref l0), some (.int x_5)]) (st' := [.int x_5]) cd_50_13 rfl rfl ?_
    refine gs_0 (pc' := 15) (L' := [some (.ref l0), some (.int x_5)]) (st' := [.int 3, .int x_5]) cd_50_14 rfl rfl ?_
    refine gs_0 (pc' := if x_5 ≤ 3 then 24 else 18) (L' := [some (.ref l0), some (.int x_5)]) (st' := []) cd_50_15 rfl rfl ?_
    refine go_ite (fun hc => ?_) (fun hc => ?_)
    · rw [if_pos hc] at h
      refine gs_0 (pc' := 25) (L' := [some (.ref l0), some (.int x_5)]) (st' := [.ref l0]) cd_50_24 rfl rfl ?_
      obtain ⟨ht, h⟩ := gO_s h
      obtain ⟨w_6, I_7, J_8, hcl, h⟩ := cV_s h
      refine gs_call (as := [.ref l0]) (rest := []) cd_50_25 rfl (by decide) rfl (sm_rv_ok (by decide) ht) (Nat.le_of_ble_eq_true rfl) (Nat.le_of_ble_eq_true rfl) rfl hcl ?_
      refine gs_0 (pc' := 29) (L' := [some (.ref l0), some (.int x_5)]) (st' := [.int x_5]) cd_50_28 rfl rfl ?_
      cases h
      exact gs_ri cd_50_29 (Or.inl rfl)
    · rw [if_neg hc] at h
      exact ok_50_18 h
theorem cl_50 {K : Nat → Value} {k d : Nat} {l0 : Nat} {w : aW} {I : aI} {J : aJ} {R : aR} (h : f_50 K k d l0 w I J = some R) : Cl K (d + 1) 50 [.ref l0] w I J = some R := Cl_of (ok_50 h)
/-! ProvedMachine$Reader.declare(III)V -/
theorem gl_51 : gcd.lookup 51 = some gw_51 := rfl
theorem cd_51_0 : sm_cd 51 0 = some (.aload_n 0, 1, 0, 0, 0, 0, 0, 0, 0) := cd_of gl_51 rfl
theorem cd_51_1 : sm_cd 51 1 = some (.getfield 21, 3, 2, 1, 2, 0, 0, 0, 0) := cd_of gl_51 rfl
theorem cd_51_4 : sm_cd 51 4 = some (.aload_n 0, 1, 0, 0, 0, 0, 0, 0, 0) := cd_of gl_51 rfl
theorem cd_51_5 : sm_cd 51 5 = some (.getfield 25, 3, 2, 2, 0, 0, 0, 0, 0) := cd_of gl_51 rfl
theorem cd_51_8 : sm_cd 51 8 = some (.iconst 2, 1, 0, 0, 0, 0, 0, 2, 0) := cd_of gl_51 rfl
theorem cd_51_9 : sm_cd 51 9 = some (.invokevirtual 109, 3, 52, 0, 2, 4, 1, 0, 0) := cd_of gl_51 rfl
theorem cd_51_12 : sm_cd 51 12 = some (.istore 4, 2, 4, 0, 0, 0, 0, 0, 0) := cd_of gl_51 rfl
theorem cd_51_14 : sm_cd 51 14 = some (.aload_n 0, 1, 0, 0, 0, 0, 0, 0, 0) := cd_of gl_51 rfl
theorem cd_51_15 : sm_cd 51 15 = some (.iload_n 1, 1, 1, 0, 0, 0, 0, 0, 0) := cd_of gl_51 rfl
theorem cd_51_16 : sm_cd 51 16 = some (.invokevirtual 188, 3, 53, 0, 1, 2, 2, 0, 0) := cd_of gl_51 rfl
theorem cd_51_19 : sm_cd 51 19 = some (.ifCond .ge 10, 3, 29, 0, 0, 0, 0, 0, 0) := cd_of gl_51 rfl
theorem cd_51_22 : sm_cd 51 22 = some (.iload 4, 2, 4, 0, 0, 0, 0, 0, 0) := cd_of gl_51 rfl
theorem cd_51_24 : sm_cd 51 24 = some (.bipush 6, 2, 0, 0, 0, 0, 0, 6, 0) := cd_of gl_51 rfl
theorem cd_51_26 : sm_cd 51 26 = some (.if_icmp .lt 9, 3, 35, 0, 0, 0, 0, 0, 0) := cd_of gl_51 rfl
theorem cd_51_29 : sm_cd 51 29 = some (.aload_n 0, 1, 0, 0, 0, 0, 0, 0, 0) := cd_of gl_51 rfl
theorem cd_51_30 : sm_cd 51 30 = some (.iload_n 3, 1, 3, 0, 0, 0, 0, 0, 0) := cd_of gl_51 rfl
theorem cd_51_31 : sm_cd 51 31 = some (.invokevirtual 113, 3, 48, 0, 1, 2, 2, 0, 0) := cd_of gl_51 rfl
theorem cd_51_34 : sm_cd 51 34 = some (.return_, 1, 0, 0, 0, 0, 0, 0, 0) := cd_of gl_51 rfl
theorem cd_51_35 : sm_cd 51 35 = some (.iload_n 1, 1, 1, 0, 0, 0, 0, 0, 0) := cd_of gl_51 rfl
theorem cd_51_36 : sm_cd 51 36 = some (.ifCond .lt 17, 3, 53, 0, 0, 0, 0, 0, 0) := cd_of gl_51 rfl
theorem cd_51_39 : sm_cd 51 39 = some (.iload_n 1, 1, 1, 0, 0, 0, 0, 0, 0) := cd_of gl_51 rfl
theorem cd_51_40 : sm_cd 51 40 = some (.bipush 26, 2, 0, 0, 0, 0, 0, 26, 0) := cd_of gl_51 rfl
theorem cd_51_42 : sm_cd 51 42 = some (.if_icmp .ge 11, 3, 53, 0, 0, 0, 0, 0, 0) := cd_of gl_51 rfl
theorem cd_51_45 : sm_cd 51 45 = some (.aload_n 0, 1, 0, 0, 0, 0, 0, 0, 0) := cd_of gl_51 rfl
theorem cd_51_46 : sm_cd 51 46 = some (.getfield 36, 3, 2, 5, 2, 0, 0, 0, 0) := cd_of gl_51 rfl
theorem cd_51_49 : sm_cd 51 49 = some (.iload_n 1, 1, 1, 0, 0, 0, 0, 0, 0) := cd_of gl_51 rfl
theorem cd_51_50 : sm_cd 51 50 = some (.iload 4, 2, 4, 0, 0, 0, 0, 0, 0) := cd_of gl_51 rfl
theorem cd_51_52 : sm_cd 51 52 = some (.iastore, 1, 0, 0, 0, 0, 0, 0, 0) := cd_of gl_51 rfl
theorem cd_51_53 : sm_cd 51 53 = some (.aload_n 0, 1, 0, 0, 0, 0, 0, 0, 0) := cd_of gl_51 rfl
theorem cd_51_54 : sm_cd 51 54 = some (.getfield 21, 3, 2, 1, 2, 0, 0, 0, 0) := cd_of gl_51 rfl
theorem cd_51_57 : sm_cd 51 57 = some (.aload_n 0, 1, 0, 0, 0, 0, 0, 0, 0) := cd_of gl_51 rfl
theorem cd_51_58 : sm_cd 51 58 = some (.getfield 25, 3, 2, 2, 0, 0, 0, 0, 0) := cd_of gl_51 rfl
theorem cd_51_61 : sm_cd 51 61 = some (.iload 4, 2, 4, 0, 0, 0, 0, 0, 0) := cd_of gl_51 rfl
theorem cd_51_63 : sm_cd 51 63 = some (.iload_n 2, 1, 2, 0, 0, 0, 0, 0, 0) := cd_of gl_51 rfl
theorem cd_51_64 : sm_cd 51 64 = some (.invokevirtual 231, 3, 54, 0, 3, 5, 1, 0, 0) := cd_of gl_51 rfl
theorem cd_51_67 : sm_cd 51 67 = some (.aload_n 0, 1, 0, 0, 0, 0, 0, 0, 0) := cd_of gl_51 rfl
theorem cd_51_68 : sm_cd 51 68 = some (.getfield 21, 3, 2, 1, 2, 0, 0, 0, 0) := cd_of gl_51 rfl
theorem cd_51_71 : sm_cd 51 71 = some (.aload_n 0, 1, 0, 0, 0, 0, 0, 0, 0) := cd_of gl_51 rfl
theorem cd_51_72 : sm_cd 51 72 = some (.getfield 25, 3, 2, 2, 0, 0, 0, 0, 0) := cd_of gl_51 rfl
theorem cd_51_75 : sm_cd 51 75 = some (.iconst 2, 1, 0, 0, 0, 0, 0, 2, 0) := cd_of gl_51 rfl
theorem cd_51_76 : sm_cd 51 76 = some (.iload 4, 2, 4, 0, 0, 0, 0, 0, 0) := cd_of gl_51 rfl
theorem cd_51_78 : sm_cd 51 78 = some (.iconst 1, 1, 0, 0, 0, 0, 0, 1, 0) := cd_of gl_51 rfl
theorem cd_51_79 : sm_cd 51 79 = some (.iadd, 1, 0, 0, 0, 0, 0, 0, 0) := cd_of gl_51 rfl
theorem cd_51_80 : sm_cd 51 80 = some (.invokevirtual 125, 3, 39, 0, 3, 5, 1, 0, 0) := cd_of gl_51 rfl
theorem cd_51_83 : sm_cd 51 83 = some (.return_, 1, 0, 0, 0, 0, 0, 0, 0) := cd_of gl_51 rfl
noncomputable def f_51_53 (K : Nat → Value) (k d : Nat) (l0 : Nat) (l1 : Int32) (l2 : Int32) (l3 : Int32) (l4 : Int32) (w : aW) (I : aI) (J : aJ) : Option aR :=
  gO w 2 l0 (
  gV w l0 1 fun q_1 =>
  gO w 2 l0 (
  gO w 1 q_1 (
  cV (Cl K d 54 [.ref q_1, .int (I l0 2), .int l4, .int l2] w I J) fun w_2 I_3 J_4 =>
  gO w_2 2 l0 (
  gV w_2 l0 1 fun q_5 =>
  gO w_2 2 l0 (
  gO w_2 1 q_5 (
  cV (Cl K d 39 [.ref q_5, .int (I_3 l0 2), .int 2, .int (l4 + 1)] w_2 I_3 J_4) fun w_6 I_7 J_8 =>
  some (none, w_6, I_7, J_8)))))))
theorem ok_51_53 {K : Nat → Value} {k d : Nat} {l0 : Nat} {l1 : Int32} {l2 : Int32} {l3 : Int32} {l4 : Int32} {w : aW} {I : aI} {J : aJ} {R : aR} (h : f_51_53 K k d l0 l1 l2 l3 l4 w I J = some R) : Go K (d + 1) 51 53 [some (.ref l0), some (.int l1), some (.int l2), some (.int l3), some (.int l4)] [] w I J R := by
  unfold f_51_53 at h
  refine gs_0 (pc' := 54) (L' := [some (.ref l0), some (.int l1), some (.int l2), some (.int l3), some (.int l4)]) (st' := [.ref l0]) cd_51_53 rfl rfl ?_
  obtain ⟨ht, h⟩ := gO_s h
  obtain ⟨q_1, hv, h⟩ := gV_s h
  refine gs_gfR cd_51_54 (by decide) ht hv ?_
  refine gs_0 (pc' := 58) (L' := [some (.ref l0), some (.int l1), some (.int l2), some (.int l3), some (.int l4)]) (st' := [.ref l0, .ref q_1]) cd_51_57 rfl rfl ?_
  obtain ⟨ht, h⟩ := gO_s h
  refine gs_gfI cd_51_58 (by decide) (by decide) ht ?_
  refine gs_0 (pc' := 63) (L' := [some (.ref l0), some (.int l1), some (.int l2), some (.int l3), some (.int l4)]) (st' := [.int l4, .int (I l0 2), .ref q_1]) cd_51_61 rfl rfl ?_
  refine gs_0 (pc' := 64) (L' := [some (.ref l0), some (.int l1), some (.int l2), some (.int l3), some (.int l4)]) (st' := [.int l2, .int l4, .int (I l0 2), .ref q_1]) cd_51_63 rfl rfl ?_
  obtain ⟨ht, h⟩ := gO_s h
  obtain ⟨w_2, I_3, J_4, hcl, h⟩ := cV_s h
  refine gs_call (as := [.ref q_1, .int (I l0 2), .int l4, .int l2]) (rest := []) cd_51_64 rfl (by decide) rfl (sm_rv_ok (by decide) ht) (Nat.le_of_ble_eq_true rfl) (Nat.le_of_ble_eq_true rfl) rfl hcl ?_
  refine gs_0 (pc' := 68) (L' := [some (.ref l0), some (.int l1), some (.int l2), some (.int l3), some (.int l4)]) (st' := [.ref l0]) cd_51_67 rfl rfl ?_
  obtain ⟨ht, h⟩ := gO_s h
  obtain ⟨q_5, hv, h⟩ := gV_s h
  refine gs_gfR cd_51_68 (by decide) ht hv ?_
  refine gs_0 (pc' := 72) (L' := [some (.ref l0), some (.int l1), some (.int l2), some (.int l3), some (.int l4)]) (st' := [.ref l0, .ref q_5]) cd_51_71 rfl rfl ?_
  obtain ⟨ht, h⟩ := gO_s h
  refine gs_gfI cd_51_72 (by decide) (by decide) ht ?_
  refine gs_0 (pc' := 76) (L' := [some (.ref l0), some (.int l1), some (.int l2), some (.int l3), some (.int l4)]) (st' := [.int 2, .int (I_3 l0 2), .ref q_5]) cd_51_75 rfl rfl ?_
  refine gs_0 (pc' := 78) (L' := [some (.ref l0), some (.int l1), some (.int l2), some (.int l3), some (.int l4)]) (st' := [.int l4, .int 2, .int (I_3 l0 2), .ref q_5]) cd_51_76 rfl rfl ?_
  refine gs_0 (pc' := 79) (L' := [some (.ref l0), some (.int l1), some (.int l2), some (.int l3), some (.int l4)]) (st' := [.int 1, .int l4, .int 2, .int (I_3 l0 2), .ref q_5]) cd_51_78 rfl rfl ?_
  refine gs_0 (pc' := 80) (L' := [some (.ref l0), some (.int l1), some (.int l2), some (.int l3), some (.int l4)]) (st' := [.int (l4 + 1), .int 2, .int (I_3 l0 2), .ref q_5]) cd_51_79 rfl rfl ?_
  obtain ⟨ht, h⟩ := gO_s h
  obtain ⟨w_6, I_7, J_8, hcl, h⟩ := cV_s h
  refine gs_call (as := [.ref q_5, .int (I_3 l0 2), .int 2, .int (l4 + 1)]) (rest := []) cd_51_80 rfl (by decide) rfl (sm_rv_ok (by decide) ht) (Nat.le_of_ble_eq_true rfl) (Nat.le_of_ble_eq_true rfl) rfl hcl ?_
  cases h
  exact gsr cd_51_83 rfl rfl
noncomputable def f_51_29 (K : Nat → Value) (k d : Nat) (l0 : Nat) (l1 : Int32) (l2 : Int32) (l3 : Int32) (l4 : Int32) (w : aW) (I : aI) (J : aJ) : Option aR :=
  gO w 2 l0 (
  cV (Cl K d 48 [.ref l0, .int l3] w I J) fun w_1 I_2 J_3 =>
  some (none, w_1, I_2, J_3))
theorem ok_51_29 {K : Nat → Value} {k d : Nat} {l0 : Nat} {l1 : Int32} {l2 : Int32} {l3 : Int32} {l4 : Int32} {w : aW} {I : aI} {J : aJ} {R : aR} (h : f_51_29 K k d l0 l1 l2 l3 l4 w I J = some R) : Go K (d + 1) 51 29 [some (.ref l0), some (.int l1), some (.int l2), some (.int l3), some (.int l4)] [] w I J R := by
  unfold f_51_29 at h
  refine gs_0 (pc' := 30) (L' := [some (.ref l0), some (.int l1), some (.int l2), some (.int l3), some (.int l4)]) (st' := [.ref l0]) cd_51_29 rfl rfl ?_
  refine gs_0 (pc' := 31) (L' := [some (.ref l0), some (.int l1), some (.int l2), some (.int l3), some (.int l4)]) (st' := [.int l3, .ref l0]) cd_51_30 rfl rfl ?_
  obtain ⟨ht, h⟩ := gO_s h
  obtain ⟨w_1, I_2, J_3, hcl, h⟩ := cV_s h
  refine gs_call (as := [.ref l0, .int l3]) (rest := []) cd_51_31 rfl (by decide) rfl (sm_rv_ok (by decide) ht) (Nat.le_of_ble_eq_true rfl) (Nat.le_of_ble_eq_true rfl) rfl hcl ?_
  cases h
  exact gsr cd_51_34 rfl rfl
noncomputable def f_51 (K : Nat → Value) (k d : Nat) (l0 : Nat) (l1 : Int32) (l2 : Int32) (l3 : Int32) (w : aW) (I : aI) (J : aJ) : Option aR :=
  gO w 2 l0 (
  gV w l0 1 fun q_1 =>
  gO w 2 l0 (
  gO w 1 q_1 (
  cI (Cl K d 52 [.ref q_1, .int (I l0 2), .int 2] w I J) fun x_5 w_2 I_3 J_4 =>
  gO w_2 2 l0 (
  cI (Cl K d 53 [.ref l0, .int l1] w_2 I_3 J_4) fun x_9 w_6 I_7 J_8 =>
  if 0 ≤ x_9 then
    f_51_29 K k d l0 l1 l2 l3 x_5 w_6 I_7 J_8
  else
    if x_5 < 6 then
      if l1 < 0 then
        f_51_53 K k d l0 l1 l2 l3 x_5 w_6 I_7 J_8
      else
        if 26 ≤ l1 then
          f_51_53 K k d l0 l1 l2 l3 x_5 w_6 I_7 J_8
        else
          gO w_6 2 l0 (
          gV w_6 l0 5 fun q_10 =>
          gA w_6 10 10 q_10 l1 (
          lt_ (sm_up2 I_7 q_10 (l1 : Int32).toNatClampNeg x_5) fun I_11 =>
          f_51_53 K k d l0 l1 l2 l3 x_5 w_6 I_11 J_8))
    else
      f_51_29 K k d l0 l1 l2 l3 x_5 w_6 I_7 J_8))))
theorem ok_51 {K : Nat → Value} {k d : Nat} {l0 : Nat} {l1 : Int32} {l2 : Int32} {l3 : Int32} {w : aW} {I : aI} {J : aJ} {R : aR} (h : f_51 K k d l0 l1 l2 l3 w I J = some R) : Go K (d + 1) 51 0 [some (.ref l0), some (.int l1), some (.int l2), some (.int l3), none] [] w I J R := by
  unfold f_51 at h
  refine gs_0 (pc' := 1) (L' := [some (.ref l0), some (.int l1), some (.int l2), some (.int l3), none]) (st' := [.ref l0]) cd_51_0 rfl rfl ?_
  obtain ⟨ht, h⟩ := gO_s h
  obtain ⟨q_1, hv, h⟩ := gV_s h
  refine gs_gfR cd_51_1 (by decide) ht hv ?_
  refine gs_0 (pc' := 5) (L' := [some (.ref l0), some (.int l1), some (.int l2), some (.int l3), none]) (st' := [.ref l0, .ref q_1]) cd_51_4 rfl rfl ?_
  obtain ⟨ht, h⟩ := gO_s h
  refine gs_gfI cd_51_5 (by decide) (by decide) ht ?_
  refine gs_0 (pc' := 9) (L' := [some (.ref l0), some (.int l1), some (.int l2), some (.int l3), none]) (st' := [.int 2, .int (I l0 2), .ref q_1]) cd_51_8 rfl rfl ?_
  obtain ⟨ht, h⟩ := gO_s h
  obtain ⟨x_5, w_2, I_3, J_4, hcl, h⟩ := cI_s h
  refine gs_call (as := [.ref q_1, .int (I l0 2), .int 2]) (rest := []) cd_51_9 rfl (by decide) rfl (sm_rv_ok (by decide) ht) (Nat.le_of_ble_eq_true rfl) (Nat.le_of_ble_eq_true rfl) rfl hcl ?_
  refine gs_0 (pc' := 14) (L' := [some (.ref l0), some (.int l1), some (.int l2), some (.int l3), some (.int x_5)]) (st' := []) cd_51_12 rfl rfl ?_
  refine gs_0 (pc' := 15) (L' := [some (.ref l0), some (.int l1), some (.int l2), some (.int l3), some (.int x_5)]) (st' := [.ref l0]) cd_51_14 rfl rfl ?_
  refine gs_0 (pc' := 16) (L' := [some (.ref l0), some (.int l1), some (.int l2), some (.int l3), some (.int x_5)]) (st' := [.int l1, .ref l0]) cd_51_15 rfl rfl ?_
  obtain ⟨ht, h⟩ := gO_s h
  obtain ⟨x_9, w_6, I_7, J_8, hcl, h⟩ := cI_s h
  refine gs_call (as := [.ref l0, .int l1]) (rest := []) cd_51_16 rfl (by decide) rfl (sm_rv_ok (by decide) ht) (Nat.le_of_ble_eq_true rfl) (Nat.le_of_ble_eq_true rfl) rfl hcl ?_
  refine gs_0 (pc' := if 0 ≤ x_9 then 29 else 22) (L' := [some (.ref l0), some (.int l1), some (.int l2), some (.int l3), some (.int x_5)]) (st' := []) cd_51_19 rfl rfl ?_
  refine go_ite (fun hc => ?_) (fun hc => ?_)
  · rw [if_pos hc] at h
    exact ok_51_29 h
  · rw [if_neg hc] at h
    refine gs_0 (pc' := 24) (L' := [some (.ref l0), some (.int l1), some (.int l2), some (.int l3), some (.int x_5)]) (st' := [.int x_5]) cd_51_22 rfl rfl ?_
    refine gs_0 (pc' := 26) (L' := [some (.ref l0), some (.int l1), some (.int l2), some (.int l3), some (.int x_5)]) (st' := [.int 6, .int x_5]) cd_51_24 rfl rfl ?_
    refine gs_0 (pc' := if x_5 < 6 then 35 else 29) (L' := [some (.ref l0), some (.int l1), some (.int l2), some (.int l3), some (.int x_5)]) (st' := []) cd_51_26 rfl rfl ?_
    refine go_ite (fun hc => ?_) (fun hc => ?_)
    · rw [if_pos hc] at h
      refine gs_0 (pc' := 36) (L' := [some (.ref l0), some (.int l1), some (.int l2), some (.int l3), some (.int x_5)]) (st' := [.int l1]) cd_51_35 rfl rfl ?_
      refine gs_0 (pc' := if l1 < 0 then 53 else 39) (L' := [some (.ref l0), some (.int l1), some (.int l2), some (.int l3), some (.int x_5)]) (st' := []) cd_51_36 rfl rfl ?_
      refine go_ite (fun hc => ?_) (fun hc => ?_)
      · rw [if_pos hc] at h
        exact ok_51_53 h
      · rw [if_neg hc] at h
        refine gs_0 (pc' := 40) (L' := [some (.ref l0), some (.int l1), some (.int l2), some (.int l3), some (.int x_5)]) (st' := [.int l1]) cd_51_39 rfl rfl ?_
        refine gs_0 (pc' := 42) (L' := [some (.ref l0), some (.int l1), some (.int l2), some (.int l3), some (.int x_5)]) (st' := [.int 26, .int l1]) cd_51_40 rfl rfl ?_
        refine gs_0 (pc' := if 26 ≤ l1 then 53 else 45) (L' := [some (.ref l0), some (.int l1), some (.int l2), some (.int l3), some (.int x_5)]) (st' := []) cd_51_42 rfl rfl ?_
        refine go_ite (fun hc => ?_) (fun hc => ?_)
        · rw [if_pos hc] at h
          exact ok_51_53 h
        · rw [if_neg hc] at h
          refine gs_0 (pc' := 46) (L' := [some (.ref l0), some (.int l1), some (.int l2), some (.int l3), some (.int x_5)]) (st' := [.ref l0]) cd_51_45 rfl rfl ?_
          obtain ⟨ht, h⟩ := gO_s h
          obtain ⟨q_10, hv, h⟩ := gV_s h
          refine gs_gfR cd_51_46 (by decide) ht hv ?_
          refine gs_0 (pc' := 50) (L' := [some (.ref l0), some (.int l1), some (.int l2), some (.int l3), some (.int x_5)]) (st' := [.int l1, .ref q_10]) cd_51_49 rfl rfl ?_
          refine gs_0 (pc' := 52) (L' := [some (.ref l0), some (.int l1), some (.int l2), some (.int l3), some (.int x_5)]) (st' := [.int x_5, .int l1, .ref q_10]) cd_51_50 rfl rfl ?_
          obtain ⟨ht, h⟩ := gA_s h
          refine gs_iast cd_51_52 ht ?_
          obtain ⟨I_11, hx, h⟩ := lt_s_ h
          rw [hx]
          exact ok_51_53 h
    · rw [if_neg hc] at h
      exact ok_51_29 h
theorem cl_51 {K : Nat → Value} {k d : Nat} {l0 : Nat} {l1 : Int32} {l2 : Int32} {l3 : Int32} {w : aW} {I : aI} {J : aJ} {R : aR} (h : f_51 K k d l0 l1 l2 l3 w I J = some R) : Cl K (d + 1) 51 [.ref l0, .int l1, .int l2, .int l3] w I J = some R := Cl_of (ok_51 h)
/-! ProvedMachine$Program.head(II)I -/
theorem gl_52 : gcd.lookup 52 = some gw_52 := rfl
theorem cd_52_0 : sm_cd 52 0 = some (.iload_n 1, 1, 1, 0, 0, 0, 0, 0, 0) := cd_of gl_52 rfl
theorem cd_52_1 : sm_cd 52 1 = some (.iconst 4, 1, 0, 0, 0, 0, 0, 4, 0) := cd_of gl_52 rfl
theorem cd_52_2 : sm_cd 52 2 = some (.imul, 1, 0, 0, 0, 0, 0, 0, 0) := cd_of gl_52 rfl
theorem cd_52_3 : sm_cd 52 3 = some (.iload_n 2, 1, 2, 0, 0, 0, 0, 0, 0) := cd_of gl_52 rfl
theorem cd_52_4 : sm_cd 52 4 = some (.iadd, 1, 0, 0, 0, 0, 0, 0, 0) := cd_of gl_52 rfl
theorem cd_52_5 : sm_cd 52 5 = some (.istore_n 3, 1, 3, 0, 0, 0, 0, 0, 0) := cd_of gl_52 rfl
theorem cd_52_6 : sm_cd 52 6 = some (.iload_n 3, 1, 3, 0, 0, 0, 0, 0, 0) := cd_of gl_52 rfl
theorem cd_52_7 : sm_cd 52 7 = some (.ifCond .lt 21, 3, 28, 0, 0, 0, 0, 0, 0) := cd_of gl_52 rfl
theorem cd_52_10 : sm_cd 52 10 = some (.iload_n 3, 1, 3, 0, 0, 0, 0, 0, 0) := cd_of gl_52 rfl
theorem cd_52_11 : sm_cd 52 11 = some (.aload_n 0, 1, 0, 0, 0, 0, 0, 0, 0) := cd_of gl_52 rfl
theorem cd_52_12 : sm_cd 52 12 = some (.getfield 26, 3, 1, 4, 2, 0, 0, 0, 0) := cd_of gl_52 rfl
theorem cd_52_15 : sm_cd 52 15 = some (.arraylength, 1, 0, 0, 0, 0, 0, 0, 0) := cd_of gl_52 rfl
theorem cd_52_16 : sm_cd 52 16 = some (.if_icmp .ge 12, 3, 28, 0, 0, 0, 0, 0, 0) := cd_of gl_52 rfl
theorem cd_52_19 : sm_cd 52 19 = some (.aload_n 0, 1, 0, 0, 0, 0, 0, 0, 0) := cd_of gl_52 rfl
theorem cd_52_20 : sm_cd 52 20 = some (.getfield 26, 3, 1, 4, 2, 0, 0, 0, 0) := cd_of gl_52 rfl
theorem cd_52_23 : sm_cd 52 23 = some (.iload_n 3, 1, 3, 0, 0, 0, 0, 0, 0) := cd_of gl_52 rfl
theorem cd_52_24 : sm_cd 52 24 = some (.iaload, 1, 0, 0, 0, 0, 0, 0, 0) := cd_of gl_52 rfl
theorem cd_52_25 : sm_cd 52 25 = some (.goto 4, 3, 29, 0, 0, 0, 0, 0, 0) := cd_of gl_52 rfl
theorem cd_52_28 : sm_cd 52 28 = some (.iconst 0, 1, 0, 0, 0, 0, 0, 0, 0) := cd_of gl_52 rfl
theorem cd_52_29 : sm_cd 52 29 = some (.ireturn, 1, 0, 0, 1, 0, 0, 0, 0) := cd_of gl_52 rfl
noncomputable def f_52 (K : Nat → Value) (k d : Nat) (l0 : Nat) (l1 : Int32) (l2 : Int32) (w : aW) (I : aI) (J : aJ) : Option aR :=
  lt_ ((l1 * 4) + l2) fun x_1 =>
  if x_1 < 0 then
    some (some (.int 0), w, I, J)
  else
    gO w 1 l0 (
    gV w l0 4 fun q_2 =>
    gL w q_2 fun n_3 =>
    if n_3 ≤ x_1 then
      some (some (.int 0), w, I, J)
    else
      gO w 1 l0 (
      gV w l0 4 fun q_4 =>
      gA w 10 20 q_4 x_1 (
      some (some (.int (I q_4 (x_1 : Int32).toNatClampNeg)), w, I, J))))
theorem ok_52 {K : Nat → Value} {k d : Nat} {l0 : Nat} {l1 : Int32} {l2 : Int32} {w : aW} {I : aI} {J : aJ} {R : aR} (h : f_52 K k d l0 l1 l2 w I J = some R) : Go K (d + 1) 52 0 [some (.ref l0), some (.int l1), some (.int l2), none] [] w I J R := by
  unfold f_52 at h
  refine gs_0 (pc' := 1) (L' := [some (.ref l0), some (.int l1), some (.int l2), none]) (st' := [.int l1]) cd_52_0 rfl rfl ?_
  refine gs_0 (pc' := 2) (L' := [some (.ref l0), some (.int l1), some (.int l2), none]) (st' := [.int 4, .int l1]) cd_52_1 rfl rfl ?_
  refine gs_0 (pc' := 3) (L' := [some (.ref l0), some (.int l1), some (.int l2), none]) (st' := [.int (l1 * 4)]) cd_52_2 rfl rfl ?_
  refine gs_0 (pc' := 4) (L' := [some (.ref l0), some (.int l1), some (.int l2), none]) (st' := [.int l2, .int (l1 * 4)]) cd_52_3 rfl rfl ?_
  refine gs_0 (pc' := 5) (L' := [some (.ref l0), some (.int l1), some (.int l2), none]) (st' := [.int ((l1 * 4) + l2)]) cd_52_4 rfl rfl ?_
  refine gs_0 (pc' := 6) (L' := [some (.ref l0), some (.int l1), some (.int l2), some (.int ((l1 * 4) + l2))]) (st' := []) cd_52_5 rfl rfl ?_
  obtain ⟨x_1, hx, h⟩ := lt_s_ h
  rw [hx]
  clear hx
  refine gs_0 (pc' := 7) (L' := [some (.ref l0), some (.int l1), some (.int l2), some (.int x_1)]) (st' := [.int x_1]) cd_52_6 rfl rfl ?_
  refine gs_0 (pc' := if x_1 < 0 then 28 else 10) (L' := [some (.ref l0), some (.int l1), some (.int l2), some (.int x_1)]) (st' := []) cd_52_7 rfl rfl ?_
  refine go_ite (fun hc => ?_) (fun hc => ?_)
  · rw [if_pos hc] at h
    refine gs_0 (pc' := 29) (L' := [some (.ref l0), some (.int l1), some (.int l2), some (.int x_1)]) (st' := [.int 0]) cd_52_28 rfl rfl ?_
    cases h
    exact gs_ri cd_52_29 (Or.inl rfl)
  · rw [if_neg hc] at h
    refine gs_0 (pc' := 11) (L' := [some (.ref l0), some (.int l1), some (.int l2), some (.int x_1)]) (st' := [.int x_1]) cd_52_10 rfl rfl ?_
    refine gs_0 (pc' := 12) (L' := [some (.ref l0), some (.int l1), some (.int l2), some (.int x_1)]) (st' := [.ref l0, .int x_1]) cd_52_11 rfl rfl ?_
    obtain ⟨ht, h⟩ := gO_s h
    obtain ⟨q_2, hv, h⟩ := gV_s h
    refine gs_gfR cd_52_12 (by decide) ht hv ?_
    obtain ⟨t0, n0, ht, ht2, h⟩ := gL_s h
    refine gs_alen cd_52_15 ht ht2 ?_
    generalize Int32.ofNat n0 = n_3 at h ⊢
    refine gs_0 (pc' := if n_3 ≤ x_1 then 28 else 19) (L' := [some (.ref l0), some (.int l1), some (.int l2), some (.int x_1)]) (st' := []) cd_52_16 rfl rfl ?_
    refine go_ite (fun hc => ?_) (fun hc => ?_)
    · rw [if_pos hc] at h
      refine gs_0 (pc' := 29) (L' := [some (.ref l0), some (.int l1), some (.int l2), some (.int x_1)]) (st' := [.int 0]) cd_52_28 rfl rfl ?_
      cases h
      exact gs_ri cd_52_29 (Or.inl rfl)
    · rw [if_neg hc] at h
      refine gs_0 (pc' := 20) (L' := [some (.ref l0), some (.int l1), some (.int l2), some (.int x_1)]) (st' := [.ref l0]) cd_52_19 rfl rfl ?_
      obtain ⟨ht, h⟩ := gO_s h
      obtain ⟨q_4, hv, h⟩ := gV_s h
      refine gs_gfR cd_52_20 (by decide) ht hv ?_
      refine gs_0 (pc' := 24) (L' := [some (.ref l0), some (.int l1), some (.int l2), some (.int x_1)]) (st' := [.int x_1, .ref q_4]) cd_52_23 rfl rfl ?_
      obtain ⟨ht, h⟩ := gA_s h
      refine gs_iald cd_52_24 ht ?_
      refine gs_0 (pc' := 29) (L' := [some (.ref l0), some (.int l1), some (.int l2), some (.int x_1)]) (st' := [.int (I q_4 (x_1 : Int32).toNatClampNeg)]) cd_52_25 rfl rfl ?_
      cases h
      exact gs_ri cd_52_29 (Or.inl rfl)
theorem cl_52 {K : Nat → Value} {k d : Nat} {l0 : Nat} {l1 : Int32} {l2 : Int32} {w : aW} {I : aI} {J : aJ} {R : aR} (h : f_52 K k d l0 l1 l2 w I J = some R) : Cl K (d + 1) 52 [.ref l0, .int l1, .int l2] w I J = some R := Cl_of (ok_52 h)
/-! ProvedMachine$Reader.variableOf(I)I -/
theorem gl_53 : gcd.lookup 53 = some gw_53 := rfl
theorem cd_53_0 : sm_cd 53 0 = some (.iload_n 1, 1, 1, 0, 0, 0, 0, 0, 0) := cd_of gl_53 rfl
theorem cd_53_1 : sm_cd 53 1 = some (.ifCond .lt 18, 3, 19, 0, 0, 0, 0, 0, 0) := cd_of gl_53 rfl
theorem cd_53_4 : sm_cd 53 4 = some (.iload_n 1, 1, 1, 0, 0, 0, 0, 0, 0) := cd_of gl_53 rfl
theorem cd_53_5 : sm_cd 53 5 = some (.bipush 26, 2, 0, 0, 0, 0, 0, 26, 0) := cd_of gl_53 rfl
theorem cd_53_7 : sm_cd 53 7 = some (.if_icmp .ge 12, 3, 19, 0, 0, 0, 0, 0, 0) := cd_of gl_53 rfl
theorem cd_53_10 : sm_cd 53 10 = some (.aload_n 0, 1, 0, 0, 0, 0, 0, 0, 0) := cd_of gl_53 rfl
theorem cd_53_11 : sm_cd 53 11 = some (.getfield 36, 3, 2, 5, 2, 0, 0, 0, 0) := cd_of gl_53 rfl
theorem cd_53_14 : sm_cd 53 14 = some (.iload_n 1, 1, 1, 0, 0, 0, 0, 0, 0) := cd_of gl_53 rfl
theorem cd_53_15 : sm_cd 53 15 = some (.iaload, 1, 0, 0, 0, 0, 0, 0, 0) := cd_of gl_53 rfl
theorem cd_53_16 : sm_cd 53 16 = some (.goto 4, 3, 20, 0, 0, 0, 0, 0, 0) := cd_of gl_53 rfl
theorem cd_53_19 : sm_cd 53 19 = some (.iconst (-1), 1, 0, 0, 0, 0, 0, (-1), 0) := cd_of gl_53 rfl
theorem cd_53_20 : sm_cd 53 20 = some (.ireturn, 1, 0, 0, 1, 0, 0, 0, 0) := cd_of gl_53 rfl
noncomputable def f_53 (K : Nat → Value) (k d : Nat) (l0 : Nat) (l1 : Int32) (w : aW) (I : aI) (J : aJ) : Option aR :=
  if l1 < 0 then
    some (some (.int (-1)), w, I, J)
  else
    if 26 ≤ l1 then
      some (some (.int (-1)), w, I, J)
    else
      gO w 2 l0 (
      gV w l0 5 fun q_1 =>
      gA w 10 20 q_1 l1 (
      some (some (.int (I q_1 (l1 : Int32).toNatClampNeg)), w, I, J)))
theorem ok_53 {K : Nat → Value} {k d : Nat} {l0 : Nat} {l1 : Int32} {w : aW} {I : aI} {J : aJ} {R : aR} (h : f_53 K k d l0 l1 w I J = some R) : Go K (d + 1) 53 0 [some (.ref l0), some (.int l1)] [] w I J R := by
  unfold f_53 at h
  refine gs_0 (pc' := 1) (L' := [some (.ref l0), some (.int l1)]) (st' := [.int l1]) cd_53_0 rfl rfl ?_
  refine gs_0 (pc' := if l1 < 0 then 19 else 4) (L' := [some (.ref l0), some (.int l1)]) (st' := []) cd_53_1 rfl rfl ?_
  refine go_ite (fun hc => ?_) (fun hc => ?_)
  · rw [if_pos hc] at h
    refine gs_0 (pc' := 20) (L' := [some (.ref l0), some (.int l1)]) (st' := [.int ((-1))]) cd_53_19 rfl rfl ?_
    cases h
    exact gs_ri cd_53_20 (Or.inl rfl)
  · rw [if_neg hc] at h
    refine gs_0 (pc' := 5) (L' := [some (.ref l0), some (.int l1)]) (st' := [.int l1]) cd_53_4 rfl rfl ?_
    refine gs_0 (pc' := 7) (L' := [some (.ref l0), some (.int l1)]) (st' := [.int 26, .int l1]) cd_53_5 rfl rfl ?_
    refine gs_0 (pc' := if 26 ≤ l1 then 19 else 10) (L' := [some (.ref l0), some (.int l1)]) (st' := []) cd_53_7 rfl rfl ?_
    refine go_ite (fun hc => ?_) (fun hc => ?_)
    · rw [if_pos hc] at h
      refine gs_0 (pc' := 20) (L' := [some (.ref l0), some (.int l1)]) (st' := [.int ((-1))]) cd_53_19 rfl rfl ?_
      cases h
      exact gs_ri cd_53_20 (Or.inl rfl)
    · rw [if_neg hc] at h
      refine gs_0 (pc' := 11) (L' := [some (.ref l0), some (.int l1)]) (st' := [.ref l0]) cd_53_10 rfl rfl ?_
      obtain ⟨ht, h⟩ := gO_s h
      obtain ⟨q_1, hv, h⟩ := gV_s h
      refine gs_gfR cd_53_11 (by decide) ht hv ?_
      refine gs_0 (pc' := 15) (L' := [some (.ref l0), some (.int l1)]) (st' := [.int l1, .ref q_1]) cd_53_14 rfl rfl ?_
      obtain ⟨ht, h⟩ := gA_s h
      refine gs_iald cd_53_15 ht ?_
      refine gs_0 (pc' := 20) (L' := [some (.ref l0), some (.int l1)]) (st' := [.int (I q_1 (l1 : Int32).toNatClampNeg)]) cd_53_16 rfl rfl ?_
      cases h
      exact gs_ri cd_53_20 (Or.inl rfl)
theorem cl_53 {K : Nat → Value} {k d : Nat} {l0 : Nat} {l1 : Int32} {w : aW} {I : aI} {J : aJ} {R : aR} (h : f_53 K k d l0 l1 w I J = some R) : Cl K (d + 1) 53 [.ref l0, .int l1] w I J = some R := Cl_of (ok_53 h)
/-! ProvedMachine$Program.setVariableType(III)V -/
theorem gl_54 : gcd.lookup 54 = some gw_54 := rfl
theorem cd_54_0 : sm_cd 54 0 = some (.iload_n 1, 1, 1, 0, 0, 0, 0, 0, 0) := cd_of gl_54 rfl
theorem cd_54_1 : sm_cd 54 1 = some (.bipush 6, 2, 0, 0, 0, 0, 0, 6, 0) := cd_of gl_54 rfl
theorem cd_54_3 : sm_cd 54 3 = some (.imul, 1, 0, 0, 0, 0, 0, 0, 0) := cd_of gl_54 rfl
theorem cd_54_4 : sm_cd 54 4 = some (.iload_n 2, 1, 2, 0, 0, 0, 0, 0, 0) := cd_of gl_54 rfl
theorem cd_54_5 : sm_cd 54 5 = some (.iadd, 1, 0, 0, 0, 0, 0, 0, 0) := cd_of gl_54 rfl
theorem cd_54_6 : sm_cd 54 6 = some (.istore 4, 2, 4, 0, 0, 0, 0, 0, 0) := cd_of gl_54 rfl
theorem cd_54_8 : sm_cd 54 8 = some (.iload 4, 2, 4, 0, 0, 0, 0, 0, 0) := cd_of gl_54 rfl
theorem cd_54_10 : sm_cd 54 10 = some (.ifCond .lt 21, 3, 31, 0, 0, 0, 0, 0, 0) := cd_of gl_54 rfl
theorem cd_54_13 : sm_cd 54 13 = some (.iload 4, 2, 4, 0, 0, 0, 0, 0, 0) := cd_of gl_54 rfl
theorem cd_54_15 : sm_cd 54 15 = some (.aload_n 0, 1, 0, 0, 0, 0, 0, 0, 0) := cd_of gl_54 rfl
theorem cd_54_16 : sm_cd 54 16 = some (.getfield 29, 3, 1, 5, 2, 0, 0, 0, 0) := cd_of gl_54 rfl
theorem cd_54_19 : sm_cd 54 19 = some (.arraylength, 1, 0, 0, 0, 0, 0, 0, 0) := cd_of gl_54 rfl
theorem cd_54_20 : sm_cd 54 20 = some (.if_icmp .ge 11, 3, 31, 0, 0, 0, 0, 0, 0) := cd_of gl_54 rfl
theorem cd_54_23 : sm_cd 54 23 = some (.aload_n 0, 1, 0, 0, 0, 0, 0, 0, 0) := cd_of gl_54 rfl
theorem cd_54_24 : sm_cd 54 24 = some (.getfield 29, 3, 1, 5, 2, 0, 0, 0, 0) := cd_of gl_54 rfl
theorem cd_54_27 : sm_cd 54 27 = some (.iload 4, 2, 4, 0, 0, 0, 0, 0, 0) := cd_of gl_54 rfl
theorem cd_54_29 : sm_cd 54 29 = some (.iload_n 3, 1, 3, 0, 0, 0, 0, 0, 0) := cd_of gl_54 rfl
theorem cd_54_30 : sm_cd 54 30 = some (.iastore, 1, 0, 0, 0, 0, 0, 0, 0) := cd_of gl_54 rfl
theorem cd_54_31 : sm_cd 54 31 = some (.return_, 1, 0, 0, 0, 0, 0, 0, 0) := cd_of gl_54 rfl
noncomputable def f_54 (K : Nat → Value) (k d : Nat) (l0 : Nat) (l1 : Int32) (l2 : Int32) (l3 : Int32) (w : aW) (I : aI) (J : aJ) : Option aR :=
  lt_ ((l1 * 6) + l2) fun x_1 =>
  if x_1 < 0 then
    some (none, w, I, J)
  else
    gO w 1 l0 (
    gV w l0 5 fun q_2 =>
    gL w q_2 fun n_3 =>
    if n_3 ≤ x_1 then
      some (none, w, I, J)
    else
      gO w 1 l0 (
      gV w l0 5 fun q_4 =>
      gA w 10 10 q_4 x_1 (
      lt_ (sm_up2 I q_4 (x_1 : Int32).toNatClampNeg l3) fun I_5 =>
      some (none, w, I_5, J))))
theorem ok_54 {K : Nat → Value} {k d : Nat} {l0 : Nat} {l1 : Int32} {l2 : Int32} {l3 : Int32} {w : aW} {I : aI} {J : aJ} {R : aR} (h : f_54 K k d l0 l1 l2 l3 w I J = some R) : Go K (d + 1) 54 0 [some (.ref l0), some (.int l1), some (.int l2), some (.int l3), none] [] w I J R := by
  unfold f_54 at h
  refine gs_0 (pc' := 1) (L' := [some (.ref l0), some (.int l1), some (.int l2), some (.int l3), none]) (st' := [.int l1]) cd_54_0 rfl rfl ?_
  refine gs_0 (pc' := 3) (L' := [some (.ref l0), some (.int l1), some (.int l2), some (.int l3), none]) (st' := [.int 6, .int l1]) cd_54_1 rfl rfl ?_
  refine gs_0 (pc' := 4) (L' := [some (.ref l0), some (.int l1), some (.int l2), some (.int l3), none]) (st' := [.int (l1 * 6)]) cd_54_3 rfl rfl ?_
  refine gs_0 (pc' := 5) (L' := [some (.ref l0), some (.int l1), some (.int l2), some (.int l3), none]) (st' := [.int l2, .int (l1 * 6)]) cd_54_4 rfl rfl ?_
  refine gs_0 (pc' := 6) (L' := [some (.ref l0), some (.int l1), some (.int l2), some (.int l3), none]) (st' := [.int ((l1 * 6) + l2)]) cd_54_5 rfl rfl ?_
  refine gs_0 (pc' := 8) (L' := [some (.ref l0), some (.int l1), some (.int l2), some (.int l3), some (.int ((l1 * 6) + l2))]) (st' := []) cd_54_6 rfl rfl ?_
  obtain ⟨x_1, hx, h⟩ := lt_s_ h
  rw [hx]
  clear hx
  refine gs_0 (pc' := 10) (L' := [some (.ref l0), some (.int l1), some (.int l2), some (.int l3), some (.int x_1)]) (st' := [.int x_1]) cd_54_8 rfl rfl ?_
  refine gs_0 (pc' := if x_1 < 0 then 31 else 13) (L' := [some (.ref l0), some (.int l1), some (.int l2), some (.int l3), some (.int x_1)]) (st' := []) cd_54_10 rfl rfl ?_
  refine go_ite (fun hc => ?_) (fun hc => ?_)
  · rw [if_pos hc] at h
    cases h
    exact gsr cd_54_31 rfl rfl
  · rw [if_neg hc] at h
    refine gs_0 (pc' := 15) (L' := [some (.ref l0), some (.int l1), some (.int l2), some (.int l3), some (.int x_1)]) (st' := [.int x_1]) cd_54_13 rfl rfl ?_
    refine gs_0 (pc' := 16) (L' := [some (.ref l0), some (.int l1), some (.int l2), some (.int l3), some (.int x_1)]) (st' := [.ref l0, .int x_1]) cd_54_15 rfl rfl ?_
    obtain ⟨ht, h⟩ := gO_s h
    obtain ⟨q_2, hv, h⟩ := gV_s h
    refine gs_gfR cd_54_16 (by decide) ht hv ?_
    obtain ⟨t0, n0, ht, ht2, h⟩ := gL_s h
    refine gs_alen cd_54_19 ht ht2 ?_
    generalize Int32.ofNat n0 = n_3 at h ⊢
    refine gs_0 (pc' := if n_3 ≤ x_1 then 31 else 23) (L' := [some (.ref l0), some (.int l1), some (.int l2), some (.int l3), some (.int x_1)]) (st' := []) cd_54_20 rfl rfl ?_
    refine go_ite (fun hc => ?_) (fun hc => ?_)
    · rw [if_pos hc] at h
      cases h
      exact gsr cd_54_31 rfl rfl
    · rw [if_neg hc] at h
      refine gs_0 (pc' := 24) (L' := [some (.ref l0), some (.int l1), some (.int l2), some (.int l3), some (.int x_1)]) (st' := [.ref l0]) cd_54_23 rfl rfl ?_
      obtain ⟨ht, h⟩ := gO_s h
      obtain ⟨q_4, hv, h⟩ := gV_s h
      refine gs_gfR cd_54_24 (by decide) ht hv ?_
      refine gs_0 (pc' := 29) (L' := [some (.ref l0), some (.int l1), some (.int l2), some (.int l3), some (.int x_1)]) (st' := [.int x_1, .ref q_4]) cd_54_27 rfl rfl ?_
      refine gs_0 (pc' := 30) (L' := [some (.ref l0), some (.int l1), some (.int l2), some (.int l3), some (.int x_1)]) (st' := [.int l3, .int x_1, .ref q_4]) cd_54_29 rfl rfl ?_
      obtain ⟨ht, h⟩ := gA_s h
      refine gs_iast cd_54_30 ht ?_
      obtain ⟨I_5, hx, h⟩ := lt_s_ h
      rw [hx]
      cases h
      exact gsr cd_54_31 rfl rfl
theorem cl_54 {K : Nat → Value} {k d : Nat} {l0 : Nat} {l1 : Int32} {l2 : Int32} {l3 : Int32} {w : aW} {I : aI} {J : aJ} {R : aR} (h : f_54 K k d l0 l1 l2 l3 w I J = some R) : Cl K (d + 1) 54 [.ref l0, .int l1, .int l2, .int l3] w I J = some R := Cl_of (ok_54 h)
/-! ProvedMachine$Reader.readBody()V -/
theorem gl_55 : gcd.lookup 55 = some gw_55 := rfl
theorem cd_55_0 : sm_cd 55 0 = some (.aload_n 0, 1, 0, 0, 0, 0, 0, 0, 0) := cd_of gl_55 rfl
theorem cd_55_1 : sm_cd 55 1 = some (.iconst 0, 1, 0, 0, 0, 0, 0, 0, 0) := cd_of gl_55 rfl
theorem cd_55_2 : sm_cd 55 2 = some (.iconst 0, 1, 0, 0, 0, 0, 0, 0, 0) := cd_of gl_55 rfl
theorem cd_55_3 : sm_cd 55 3 = some (.iconst 0, 1, 0, 0, 0, 0, 0, 0, 0) := cd_of gl_55 rfl
theorem cd_55_4 : sm_cd 55 4 = some (.invokevirtual 153, 3, 56, 0, 3, 4, 2, 0, 0) := cd_of gl_55 rfl
theorem cd_55_7 : sm_cd 55 7 = some (.iconst 0, 1, 0, 0, 0, 0, 0, 0, 0) := cd_of gl_55 rfl
theorem cd_55_8 : sm_cd 55 8 = some (.istore_n 1, 1, 1, 0, 0, 0, 0, 0, 0) := cd_of gl_55 rfl
theorem cd_55_9 : sm_cd 55 9 = some (.iload_n 1, 1, 1, 0, 0, 0, 0, 0, 0) := cd_of gl_55 rfl
theorem cd_55_10 : sm_cd 55 10 = some (.sipush 240, 3, 0, 0, 0, 0, 0, 240, 0) := cd_of gl_55 rfl
theorem cd_55_13 : sm_cd 55 13 = some (.if_icmp .ge 160, 3, 173, 0, 0, 0, 0, 0, 0) := cd_of gl_55 rfl
theorem cd_55_16 : sm_cd 55 16 = some (.aload_n 0, 1, 0, 0, 0, 0, 0, 0, 0) := cd_of gl_55 rfl
theorem cd_55_17 : sm_cd 55 17 = some (.getfield 55, 3, 2, 11, 0, 0, 0, 0, 0) := cd_of gl_55 rfl
theorem cd_55_20 : sm_cd 55 20 = some (.ifCond .le 153, 3, 173, 0, 0, 0, 0, 0, 0) := cd_of gl_55 rfl
theorem cd_55_23 : sm_cd 55 23 = some (.aload_n 0, 1, 0, 0, 0, 0, 0, 0, 0) := cd_of gl_55 rfl
theorem cd_55_24 : sm_cd 55 24 = some (.getfield 12, 3, 2, 0, 2, 0, 0, 0, 0) := cd_of gl_55 rfl
theorem cd_55_27 : sm_cd 55 27 = some (.invokevirtual 93, 3, 37, 0, 0, 1, 4, 0, 0) := cd_of gl_55 rfl
theorem cd_55_30 : sm_cd 55 30 = some (.lookupswitch 125 #[(1, 104), (125, 90), (257, 111), (259, 111), (260, 118), (261, 118), (262, 97), (263, 97), (264, 97), (265, 97)], 90, 0, 0, 0, 0, 0, 0, 0) := cd_of gl_55 rfl
theorem cd_55_120 : sm_cd 55 120 = some (.aload_n 0, 1, 0, 0, 0, 0, 0, 0, 0) := cd_of gl_55 rfl
theorem cd_55_121 : sm_cd 55 121 = some (.invokevirtual 156, 3, 57, 0, 0, 4, 2, 0, 0) := cd_of gl_55 rfl
theorem cd_55_124 : sm_cd 55 124 = some (.goto 43, 3, 167, 0, 0, 0, 0, 0, 0) := cd_of gl_55 rfl
theorem cd_55_127 : sm_cd 55 127 = some (.aload_n 0, 1, 0, 0, 0, 0, 0, 0, 0) := cd_of gl_55 rfl
theorem cd_55_128 : sm_cd 55 128 = some (.invokevirtual 159, 3, 62, 0, 0, 5, 2, 0, 0) := cd_of gl_55 rfl
theorem cd_55_131 : sm_cd 55 131 = some (.goto 36, 3, 167, 0, 0, 0, 0, 0, 0) := cd_of gl_55 rfl
theorem cd_55_134 : sm_cd 55 134 = some (.aload_n 0, 1, 0, 0, 0, 0, 0, 0, 0) := cd_of gl_55 rfl
theorem cd_55_135 : sm_cd 55 135 = some (.invokevirtual 162, 3, 74, 0, 0, 6, 2, 0, 0) := cd_of gl_55 rfl
theorem cd_55_138 : sm_cd 55 138 = some (.goto 29, 3, 167, 0, 0, 0, 0, 0, 0) := cd_of gl_55 rfl
theorem cd_55_141 : sm_cd 55 141 = some (.aload_n 0, 1, 0, 0, 0, 0, 0, 0, 0) := cd_of gl_55 rfl
theorem cd_55_142 : sm_cd 55 142 = some (.invokevirtual 165, 3, 75, 0, 0, 5, 2, 0, 0) := cd_of gl_55 rfl
theorem cd_55_145 : sm_cd 55 145 = some (.goto 22, 3, 167, 0, 0, 0, 0, 0, 0) := cd_of gl_55 rfl
theorem cd_55_148 : sm_cd 55 148 = some (.aload_n 0, 1, 0, 0, 0, 0, 0, 0, 0) := cd_of gl_55 rfl
theorem cd_55_149 : sm_cd 55 149 = some (.invokevirtual 168, 3, 76, 0, 0, 4, 2, 0, 0) := cd_of gl_55 rfl
theorem cd_55_152 : sm_cd 55 152 = some (.goto 15, 3, 167, 0, 0, 0, 0, 0, 0) := cd_of gl_55 rfl
theorem cd_55_155 : sm_cd 55 155 = some (.aload_n 0, 1, 0, 0, 0, 0, 0, 0, 0) := cd_of gl_55 rfl
theorem cd_55_156 : sm_cd 55 156 = some (.getfield 12, 3, 2, 0, 2, 0, 0, 0, 0) := cd_of gl_55 rfl
theorem cd_55_159 : sm_cd 55 159 = some (.invokevirtual 171, 3, 43, 0, 0, 1, 4, 0, 0) := cd_of gl_55 rfl
theorem cd_55_162 : sm_cd 55 162 = some (.aload_n 0, 1, 0, 0, 0, 0, 0, 0, 0) := cd_of gl_55 rfl
theorem cd_55_163 : sm_cd 55 163 = some (.iconst 0, 1, 0, 0, 0, 0, 0, 0, 0) := cd_of gl_55 rfl
theorem cd_55_164 : sm_cd 55 164 = some (.putfield 55, 3, 2, 11, 0, 0, 0, 0, 0) := cd_of gl_55 rfl
theorem cd_55_167 : sm_cd 55 167 = some (.iinc 1 1, 3, 1, 0, 0, 0, 0, 1, 0) := cd_of gl_55 rfl
theorem cd_55_170 : sm_cd 55 170 = some (.goto (-161), 3, 9, 0, 0, 0, 0, 0, 0) := cd_of gl_55 rfl
theorem cd_55_173 : sm_cd 55 173 = some (.return_, 1, 0, 0, 0, 0, 0, 0, 0) := cd_of gl_55 rfl
theorem sw_55_30_0 {K : Nat → Value} {L : aL} {st : List Value} {w : aW} {I : aI} {J : aJ} {x : Int32} (h : x = 1) : sm_stp K (.lookupswitch 125 #[(1, 104), (125, 90), (257, 111), (259, 111), (260, 118), (261, 118), (262, 97), (263, 97), (264, 97), (265, 97)], 90, 0, 0, 0, 0, 0, 0, 0) 30 L (.int x :: st) w I J = some (134, L, st, w, I, J) := by subst h; rfl
theorem sw_55_30_1 {K : Nat → Value} {L : aL} {st : List Value} {w : aW} {I : aI} {J : aJ} {x : Int32} (h : x = 125) : sm_stp K (.lookupswitch 125 #[(1, 104), (125, 90), (257, 111), (259, 111), (260, 118), (261, 118), (262, 97), (263, 97), (264, 97), (265, 97)], 90, 0, 0, 0, 0, 0, 0, 0) 30 L (.int x :: st) w I J = some (120, L, st, w, I, J) := by subst h; rfl
theorem sw_55_30_2 {K : Nat → Value} {L : aL} {st : List Value} {w : aW} {I : aI} {J : aJ} {x : Int32} (h : x = 257) : sm_stp K (.lookupswitch 125 #[(1, 104), (125, 90), (257, 111), (259, 111), (260, 118), (261, 118), (262, 97), (263, 97), (264, 97), (265, 97)], 90, 0, 0, 0, 0, 0, 0, 0) 30 L (.int x :: st) w I J = some (141, L, st, w, I, J) := by subst h; rfl
theorem sw_55_30_3 {K : Nat → Value} {L : aL} {st : List Value} {w : aW} {I : aI} {J : aJ} {x : Int32} (h : x = 259) : sm_stp K (.lookupswitch 125 #[(1, 104), (125, 90), (257, 111), (259, 111), (260, 118), (261, 118), (262, 97), (263, 97), (264, 97), (265, 97)], 90, 0, 0, 0, 0, 0, 0, 0) 30 L (.int x :: st) w I J = some (141, L, st, w, I, J) := by subst h; rfl
theorem sw_55_30_4 {K : Nat → Value} {L : aL} {st : List Value} {w : aW} {I : aI} {J : aJ} {x : Int32} (h : x = 260) : sm_stp K (.lookupswitch 125 #[(1, 104), (125, 90), (257, 111), (259, 111), (260, 118), (261, 118), (262, 97), (263, 97), (264, 97), (265, 97)], 90, 0, 0, 0, 0, 0, 0, 0) 30 L (.int x :: st) w I J = some (148, L, st, w, I, J) := by subst h; rfl
theorem sw_55_30_5 {K : Nat → Value} {L : aL} {st : List Value} {w : aW} {I : aI} {J : aJ} {x : Int32} (h : x = 261) : sm_stp K (.lookupswitch 125 #[(1, 104), (125, 90), (257, 111), (259, 111), (260, 118), (261, 118), (262, 97), (263, 97), (264, 97), (265, 97)], 90, 0, 0, 0, 0, 0, 0, 0) 30 L (.int x :: st) w I J = some (148, L, st, w, I, J) := by subst h; rfl
theorem sw_55_30_6 {K : Nat → Value} {L : aL} {st : List Value} {w : aW} {I : aI} {J : aJ} {x : Int32} (h : x = 262) : sm_stp K (.lookupswitch 125 #[(1, 104), (125, 90), (257, 111), (259, 111), (260, 118), (261, 118), (262, 97), (263, 97), (264, 97), (265, 97)], 90, 0, 0, 0, 0, 0, 0, 0) 30 L (.int x :: st) w I J = some (127, L, st, w, I, J) := by subst h; rfl
theorem sw_55_30_7 {K : Nat → Value} {L : aL} {st : List Value} {w : aW} {I : aI} {J : aJ} {x : Int32} (h : x = 263) : sm_stp K (.lookupswitch 125 #[(1, 104), (125, 90), (257, 111), (259, 111), (260, 118), (261, 118), (262, 97), (263, 97), (264, 97), (265, 97)], 90, 0, 0, 0, 0, 0, 0, 0) 30 L (.int x :: st) w I J = some (127, L, st, w, I, J) := by subst h; rfl
theorem sw_55_30_8 {K : Nat → Value} {L : aL} {st : List Value} {w : aW} {I : aI} {J : aJ} {x : Int32} (h : x = 264) : sm_stp K (.lookupswitch 125 #[(1, 104), (125, 90), (257, 111), (259, 111), (260, 118), (261, 118), (262, 97), (263, 97), (264, 97), (265, 97)], 90, 0, 0, 0, 0, 0, 0, 0) 30 L (.int x :: st) w I J = some (127, L, st, w, I, J) := by subst h; rfl
theorem sw_55_30_9 {K : Nat → Value} {L : aL} {st : List Value} {w : aW} {I : aI} {J : aJ} {x : Int32} (h : x = 265) : sm_stp K (.lookupswitch 125 #[(1, 104), (125, 90), (257, 111), (259, 111), (260, 118), (261, 118), (262, 97), (263, 97), (264, 97), (265, 97)], 90, 0, 0, 0, 0, 0, 0, 0) 30 L (.int x :: st) w I J = some (127, L, st, w, I, J) := by subst h; rfl
theorem sw_55_30_d {K : Nat → Value} {L : aL} {st : List Value} {w : aW} {I : aI} {J : aJ} {x : Int32} (h0 : ¬ x = 1) (h1 : ¬ x = 125) (h2 : ¬ x = 257) (h3 : ¬ x = 259) (h4 : ¬ x = 260) (h5 : ¬ x = 261) (h6 : ¬ x = 262) (h7 : ¬ x = 263) (h8 : ¬ x = 264) (h9 : ¬ x = 265) : sm_stp K (.lookupswitch 125 #[(1, 104), (125, 90), (257, 111), (259, 111), (260, 118), (261, 118), (262, 97), (263, 97), (264, 97), (265, 97)], 90, 0, 0, 0, 0, 0, 0, 0) 30 L (.int x :: st) w I J = some (155, L, st, w, I, J) := by
  have e : Op.lookupswitch.offset [(1, 104), (125, 90), (257, 111), (259, 111), (260, 118), (261, 118), (262, 97), (263, 97), (264, 97), (265, 97)] 125 x.toInt = 125 := by
    rw [lv_osw (k := 1) (a := 1) h0 (by decide), lv_osw (k := 125) (a := 125) h1 (by decide), lv_osw (k := 257) (a := 257) h2 (by decide), lv_osw (k := 259) (a := 259) h3 (by decide), lv_osw (k := 260) (a := 260) h4 (by decide), lv_osw (k := 261) (a := 261) h5 (by decide), lv_osw (k := 262) (a := 262) h6 (by decide), lv_osw (k := 263) (a := 263) h7 (by decide), lv_osw (k := 264) (a := 264) h8 (by decide), lv_osw (k := 265) (a := 265) h9 (by decide)]
    rfl
  have e2 : sm_swl 30 125 #[(1, 104), (125, 90), (257, 111), (259, 111), (260, 118), (261, 118), (262, 97), (263, 97), (264, 97), (265, 97)] x = some 155 := by
    unfold sm_swl
    rw [if_pos (by decide)]
    show sm_jmp 30 (Op.lookupswitch.offset [(1, 104), (125, 90), (257, 111), (259, 111), (260, 118), (261, 118), (262, 97), (263, 97), (264, 97), (265, 97)] 125 x.toInt) = _
    rw [e]
    rfl
  simp only [sm_stp, e2, sm_jm]
noncomputable def f_55_167 (K : Nat → Value) (k d : Nat) (r9 : Nat → Int32 → aW → aI → aJ → Option aR) (l0 : Nat) (l1 : Int32) (w : aW) (I : aI) (J : aJ) : Option aR :=
  lt_ (l1 + 1) fun x_1 =>
  r9 l0 x_1 w I J
theorem ok_55_167 {K : Nat → Value} {k d : Nat} {r9 : Nat → Int32 → aW → aI → aJ → Option aR} (hr9 : ∀ (l0 : Nat) (l1 : Int32) (w : aW) (I : aI) (J : aJ) (R : aR), r9 l0 l1 w I J = some R → Go K (d + 1) 55 9 [some (.ref l0), some (.int l1)] [] w I J R) {l0 : Nat} {l1 : Int32} {w : aW} {I : aI} {J : aJ} {R : aR} (h : f_55_167 K k d r9 l0 l1 w I J = some R) : Go K (d + 1) 55 167 [some (.ref l0), some (.int l1)] [] w I J R := by
  unfold f_55_167 at h
  refine gs_0 (pc' := 170) (L' := [some (.ref l0), some (.int (l1 + 1))]) (st' := []) cd_55_167 rfl rfl ?_
  obtain ⟨x_1, hx, h⟩ := lt_s_ h
  rw [hx]
  clear hx
  refine gs_0 (pc' := 9) (L' := [some (.ref l0), some (.int x_1)]) (st' := []) cd_55_170 rfl rfl ?_
  exact hr9 l0 x_1 _ _ _ _ h
noncomputable def f_55_9 (K : Nat → Value) (k : Nat) (d : Nat) : Nat → Int32 → aW → aI → aJ → Option aR :=
  match k with
  | 0 => fun _ _ _ _ _ => none
  | k + 1 => fun l0 l1 w I J =>
  lt_ (f_55_9 K k d) fun r9 =>
  if 240 ≤ l1 then
    some (none, w, I, J)
  else
    gO w 2 l0 (
    if (I l0 11) ≤ 0 then
      some (none, w, I, J)
    else
      gO w 2 l0 (
      gV w l0 0 fun q_1 =>
      gO w 4 q_1 (
      cI (Cl K d 37 [.ref q_1] w I J) fun x_5 w_2 I_3 J_4 =>
      if x_5 = 1 then
        gO w_2 2 l0 (
        cV (Cl K d 74 [.ref l0] w_2 I_3 J_4) fun w_6 I_7 J_8 =>
        f_55_167 K k d r9 l0 l1 w_6 I_7 J_8)
      else
      if x_5 = 125 then
        gO w_2 2 l0 (
        cV (Cl K d 57 [.ref l0] w_2 I_3 J_4) fun w_9 I_10 J_11 =>
        f_55_167 K k d r9 l0 l1 w_9 I_10 J_11)
      else
      if x_5 = 257 then
        gO w_2 2 l0 (
        cV (Cl K d 75 [.ref l0] w_2 I_3 J_4) fun w_12 I_13 J_14 =>
        f_55_167 K k d r9 l0 l1 w_12 I_13 J_14)
      else
      if x_5 = 259 then
        gO w_2 2 l0 (
        cV (Cl K d 75 [.ref l0] w_2 I_3 J_4) fun w_15 I_16 J_17 =>
        f_55_167 K k d r9 l0 l1 w_15 I_16 J_17)
      else
      if x_5 = 260 then
        gO w_2 2 l0 (
        cV (Cl K d 76 [.ref l0] w_2 I_3 J_4) fun w_18 I_19 J_20 =>
        f_55_167 K k d r9 l0 l1 w_18 I_19 J_20)
      else
      if x_5 = 261 then
        gO w_2 2 l0 (
        cV (Cl K d 76 [.ref l0] w_2 I_3 J_4) fun w_21 I_22 J_23 =>
        f_55_167 K k d r9 l0 l1 w_21 I_22 J_23)
      else
      if x_5 = 262 then
        gO w_2 2 l0 (
        cV (Cl K d 62 [.ref l0] w_2 I_3 J_4) fun w_24 I_25 J_26 =>
        f_55_167 K k d r9 l0 l1 w_24 I_25 J_26)
      else
      if x_5 = 263 then
        gO w_2 2 l0 (
        cV (Cl K d 62 [.ref l0] w_2 I_3 J_4) fun w_27 I_28 J_29 =>
        f_55_167 K k d r9 l0 l1 w_27 I_28 J_29)
      else
      if x_5 = 264 then
        gO w_2 2 l0 (
        cV (Cl K d 62 [.ref l0] w_2 I_3 J_4) fun w_30 I_31 J_32 =>
        f_55_167 K k d r9 l0 l1 w_30 I_31 J_32)
      else
      if x_5 = 265 then
        gO w_2 2 l0 (
        cV (Cl K d 62 [.ref l0] w_2 I_3 J_4) fun w_33 I_34 J_35 =>
        f_55_167 K k d r9 l0 l1 w_33 I_34 J_35)
      else
      gO w_2 2 l0 (
      gV w_2 l0 0 fun q_36 =>
      gO w_2 4 q_36 (
      cV (Cl K d 43 [.ref q_36] w_2 I_3 J_4) fun w_37 I_38 J_39 =>
      gO w_37 2 l0 (
      lt_ (sm_up2 I_38 l0 11 0) fun I_40 =>
      f_55_167 K k d r9 l0 l1 w_37 I_40 J_39))))))
theorem ok_55_9 {K : Nat → Value} {d : Nat} : ∀ {k : Nat} {l0 : Nat} {l1 : Int32} {w : aW} {I : aI} {J : aJ} {R : aR}, f_55_9 K k d l0 l1 w I J = some R → Go K (d + 1) 55 9 [some (.ref l0), some (.int l1)] [] w I J R := by
  intro k
  induction k with
  | zero => intro l0 l1 w I J R h; cases h
  | succ k ih =>
    intro l0 l1 w I J R h
    have hr9 : ∀ (l0 : Nat) (l1 : Int32) (w : aW) (I : aI) (J : aJ) (R : aR), f_55_9 K k d l0 l1 w I J = some R → Go K (d + 1) 55 9 [some (.ref l0), some (.int l1)] [] w I J R := fun l0 l1 w I J R h => ih h
    rw [f_55_9] at h
    obtain ⟨r9, hx, h⟩ := lt_s_ h
    rw [hx] at hr9
    clear hx ih
    refine gs_0 (pc' := 10) (L' := [some (.ref l0), some (.int l1)]) (st' := [.int l1]) cd_55_9 rfl rfl ?_
    refine gs_0 (pc' := 13) (L' := [some (.ref l0), some (.int l1)]) (st' := [.int 240, .int l1]) cd_55_10 rfl rfl ?_
    refine gs_0 (pc' := if 240 ≤ l1 then 173 else 16) (L' := [some (.ref l0), some (.int l1)]) (st' := []) cd_55_13 rfl rfl ?_
    refine go_ite (fun hc => ?_) (fun hc => ?_)
    · rw [if_pos hc] at h
      cases h
      exact gsr cd_55_173 rfl rfl
    · rw [if_neg hc] at h
      refine gs_0 (pc' := 17) (L' := [some (.ref l0), some (.int l1)]) (st' := [.ref l0]) cd_55_16 rfl rfl ?_
      obtain ⟨ht, h⟩ := gO_s h
      refine gs_gfI cd_55_17 (by decide) (by decide) ht ?_
      refine gs_0 (pc' := if (I l0 11) ≤ 0 then 173 else 23) (L' := [some (.ref l0), some (.int l1)]) (st' := []) cd_55_20 rfl rfl ?_
      refine go_ite (fun hc => ?_) (fun hc => ?_)
      · rw [if_pos hc] at h
        cases h
        exact gsr cd_55_173 rfl rfl
      · rw [if_neg hc] at h
        refine gs_0 (pc' := 24) (L' := [some (.ref l0), some (.int l1)]) (st' := [.ref l0]) cd_55_23 rfl rfl ?_
        obtain ⟨ht, h⟩ := gO_s h
        obtain ⟨q_1, hv, h⟩ := gV_s h
        refine gs_gfR cd_55_24 (by decide) ht hv ?_
        obtain ⟨ht, h⟩ := gO_s h
        obtain ⟨x_5, w_2, I_3, J_4, hcl, h⟩ := cI_s h
        refine gs_call (as := [.ref q_1]) (rest := []) cd_55_27 rfl (by decide) rfl (sm_rv_ok (by decide) ht) (Nat.le_of_ble_eq_true rfl) (Nat.le_of_ble_eq_true rfl) rfl hcl ?_
        by_cases hc0 : x_5 = 1
        · rw [if_pos hc0] at h
          refine gs_0 (pc' := 134) (L' := [some (.ref l0), some (.int l1)]) (st' := []) cd_55_30 rfl (sw_55_30_0 hc0) ?_
          refine gs_0 (pc' := 135) (L' := [some (.ref l0), some (.int l1)]) (st' := [.ref l0]) cd_55_134 rfl rfl ?_
          obtain ⟨ht, h⟩ := gO_s h
          obtain ⟨w_6, I_7, J_8, hcl, h⟩ := cV_s h
          refine gs_call (as := [.ref l0]) (rest := []) cd_55_135 rfl (by decide) rfl (sm_rv_ok (by decide) ht) (Nat.le_of_ble_eq_true rfl) (Nat.le_of_ble_eq_true rfl) rfl hcl ?_
          refine gs_0 (pc' := 167) (L' := [some (.ref l0), some (.int l1)]) (st' := []) cd_55_138 rfl rfl ?_
          exact ok_55_167 hr9 h
        · rw [if_neg hc0] at h
          by_cases hc1 : x_5 = 125
          · rw [if_pos hc1] at h
            refine gs_0 (pc' := 120) (L' := [some (.ref l0), some (.int l1)]) (st' := []) cd_55_30 rfl (sw_55_30_1 hc1) ?_
            refine gs_0 (pc' := 121) (L' := [some (.ref l0), some (.int l1)]) (st' := [.ref l0]) cd_55_120 rfl rfl ?_
            obtain ⟨ht, h⟩ := gO_s h
            obtain ⟨w_9, I_10, J_11, hcl, h⟩ := cV_s h
            refine gs_call (as := [.ref l0]) (rest := []) cd_55_121 rfl (by decide) rfl (sm_rv_ok (by decide) ht) (Nat.le_of_ble_eq_true rfl) (Nat.le_of_ble_eq_true rfl) rfl hcl ?_
            refine gs_0 (pc' := 167) (L' := [some (.ref l0), some (.int l1)]) (st' := []) cd_55_124 rfl rfl ?_
            exact ok_55_167 hr9 h
          · rw [if_neg hc1] at h
            by_cases hc2 : x_5 = 257
            · rw [if_pos hc2] at h
              refine gs_0 (pc' := 141) (L' := [some (.ref l0), some (.int l1)]) (st' := []) cd_55_30 rfl (sw_55_30_2 hc2) ?_
              refine gs_0 (pc' := 142) (L' := [some (.ref l0), some (.int l1)]) (st' := [.ref l0]) cd_55_141 rfl rfl ?_
              obtain ⟨ht, h⟩ := gO_s h
              obtain ⟨w_12, I_13, J_14, hcl, h⟩ := cV_s h
              refine gs_call (as := [.ref l0]) (rest := []) cd_55_142 rfl (by decide) rfl (sm_rv_ok (by decide) ht) (Nat.le_of_ble_eq_true rfl) (Nat.le_of_ble_eq_true rfl) rfl hcl ?_
              refine gs_0 (pc' := 167) (L' := [some (.ref l0), some (.int l1)]) (st' := []) cd_55_145 rfl rfl ?_
              exact ok_55_167 hr9 h
            · rw [if_neg hc2] at h
              by_cases hc3 : x_5 = 259
              · rw [if_pos hc3] at h
                refine gs_0 (pc' := 141) (L' := [some (.ref l0), some (.int l1)]) (st' := []) cd_55_30 rfl (sw_55_30_3 hc3) ?_
                refine gs_0 (pc' := 142) (L' := [some (.ref l0), some (.int l1)]) (st' := [.ref l0]) cd_55_141 rfl rfl ?_
                obtain ⟨ht, h⟩ := gO_s h
                obtain ⟨w_15, I_16, J_17, hcl, h⟩ := cV_s h
                refine gs_call (as := [.ref l0]) (rest := []) cd_55_142 rfl (by decide) rfl (sm_rv_ok (by decide) ht) (Nat.le_of_ble_eq_true rfl) (Nat.le_of_ble_eq_true rfl) rfl hcl ?_
                refine gs_0 (pc' := 167) (L' := [some (.ref l0), some (.int l1)]) (st' := []) cd_55_145 rfl rfl ?_
                exact ok_55_167 hr9 h
              · rw [if_neg hc3] at h
                by_cases hc4 : x_5 = 260
                · rw [if_pos hc4] at h
                  refine gs_0 (pc' := 148) (L' := [some (.ref l0), some (.int l1)]) (st' := []) cd_55_30 rfl (sw_55_30_4 hc4) ?_
                  refine gs_0 (pc' := 149) (L' := [some (.ref l0), some (.int l1)]) (st' := [.ref l0]) cd_55_148 rfl rfl ?_
                  obtain ⟨ht, h⟩ := gO_s h
                  obtain ⟨w_18, I_19, J_20, hcl, h⟩ := cV_s h
                  refine gs_call (as := [.ref l0]) (rest := []) cd_55_149 rfl (by decide) rfl (sm_rv_ok (by decide) ht) (Nat.le_of_ble_eq_true rfl) (Nat.le_of_ble_eq_true rfl) rfl hcl ?_
                  refine gs_0 (pc' := 167) (L' := [some (.ref l0), some (.int l1)]) (st' := []) cd_55_152 rfl rfl ?_
                  exact ok_55_167 hr9 h
                · rw [if_neg hc4] at h
                  by_cases hc5 : x_5 = 261
                  · rw [if_pos hc5] at h
                    refine gs_0 (pc' := 148) (L' := [some (.ref l0), some (.int l1)]) (st' := []) cd_55_30 rfl (sw_55_30_5 hc5) ?_
                    refine gs_0 (pc' := 149) (L' := [some (.ref l0), some (.int l1)]) (st' := [.ref l0]) cd_55_148 rfl rfl ?_
                    obtain ⟨ht, h⟩ := gO_s h
                    obtain ⟨w_21, I_22, J_23, hcl, h⟩ := cV_s h
                    refine gs_call (as := [.ref l0]) (rest := []) cd_55_149 rfl (by decide) rfl (sm_rv_ok (by decide) ht) (Nat.le_of_ble_eq_true rfl) (Nat.le_of_ble_eq_true rfl) rfl hcl ?_
                    refine gs_0 (pc' := 167) (L' := [some (.ref l0), some (.int l1)]) (st' := []) cd_55_152 rfl rfl ?_
                    exact ok_55_167 hr9 h
                  · rw [if_neg hc5] at h
                    by_cases hc6 : x_5 = 262
                    · rw [if_pos hc6] at h
                      refine gs_0 (pc' := 127) (L' := [some (.ref l0), some (.int l1)]) (st' := []) cd_55_30 rfl (sw_55_30_6 hc6) ?_
                      refine gs_0 (pc' := 128) (L' := [some (.ref l0), some (.int l1)]) (st' := [.ref l0]) cd_55_127 rfl rfl ?_
                      obtain ⟨ht, h⟩ := gO_s h
                      obtain ⟨w_24, I_25, J_26, hcl, h⟩ := cV_s h
                      refine gs_call (as := [.ref l0]) (rest := []) cd_55_128 rfl (by decide) rfl (sm_rv_ok (by decide) ht) (Nat.le_of_ble_eq_true rfl) (Nat.le_of_ble_eq_true rfl) rfl hcl ?_
                      refine gs_0 (pc' := 167) (L' := [some (.ref l0), some (.int l1)]) (st' := []) cd_55_131 rfl rfl ?_
                      exact ok_55_167 hr9 h
                    · rw [if_neg hc6] at h
                      by_cases hc7 : x_5 = 263
                      · rw [if_pos hc7] at h
                        refine gs_0 (pc' := 127) (L' := [some (.ref l0), some (.int l1)]) (st' := []) cd_55_30 rfl (sw_55_30_7 hc7) ?_
                        refine gs_0 (pc' := 128) (L' := [some (.ref l0), some (.int l1)]) (st' := [.ref l0]) cd_55_127 rfl rfl ?_
                        obtain ⟨ht, h⟩ := gO_s h
                        obtain ⟨w_27, I_28, J_29, hcl, h⟩ := cV_s h
                        refine gs_call (as := [.ref l0]) (rest := []) cd_55_128 rfl (by decide) rfl (sm_rv_ok (by decide) ht) (Nat.le_of_ble_eq_true rfl) (Nat.le_of_ble_eq_true rfl) rfl hcl ?_
                        refine gs_0 (pc' := 167) (L' := [some (.ref l0), some (.int l1)]) (st' := []) cd_55_131 rfl rfl ?_
                        exact ok_55_167 hr9 h
                      · rw [if_neg hc7] at h
                        by_cases hc8 : x_5 = 264
                        · rw [if_pos hc8] at h
                          refine gs_0 (pc' := 127) (L' := [some (.ref l0), some (.int l1)]) (st' := []) cd_55_30 rfl (sw_55_30_8 hc8) ?_
                          refine gs_0 (pc' := 128) (L' := [some (.ref l0), some (.int l1)]) (st' := [.ref l0]) cd_55_127 rfl rfl ?_
                          obtain ⟨ht, h⟩ := gO_s h
                          obtain ⟨w_30, I_31, J_32, hcl, h⟩ := cV_s h
                          refine gs_call (as := [.ref l0]) (rest := []) cd_55_128 rfl (by decide) rfl (sm_rv_ok (by decide) ht) (Nat.le_of_ble_eq_true rfl) (Nat.le_of_ble_eq_true rfl) rfl hcl ?_
                          refine gs_0 (pc' := 167) (L' := [some (.ref l0), some (.int l1)]) (st' := []) cd_55_131 rfl rfl ?_
                          exact ok_55_167 hr9 h
                        · rw [if_neg hc8] at h
                          by_cases hc9 : x_5 = 265
                          · rw [if_pos hc9] at h
                            refine gs_0 (pc' := 127) (L' := [some (.ref l0), some (.int l1)]) (st' := []) cd_55_30 rfl (sw_55_30_9 hc9) ?_
                            refine gs_0 (pc' := 128) (L' := [some (.ref l0), some (.int l1)]) (st' := [.ref l0]) cd_55_127 rfl rfl ?_
                            obtain ⟨ht, h⟩ := gO_s h
                            obtain ⟨w_33, I_34, J_35, hcl, h⟩ := cV_s h
                            refine gs_call (as := [.ref l0]) (rest := []) cd_55_128 rfl (by decide) rfl (sm_rv_ok (by decide) ht) (Nat.le_of_ble_eq_true rfl) (Nat.le_of_ble_eq_true rfl) rfl hcl ?_
                            refine gs_0 (pc' := 167) (L' := [some (.ref l0), some (.int l1)]) (st' := []) cd_55_131 rfl rfl ?_
                            exact ok_55_167 hr9 h
                          · rw [if_neg hc9] at h
                            refine gs_0 (pc' := 155) (L' := [some (.ref l0), some (.int l1)]) (st' := []) cd_55_30 rfl (sw_55_30_d hc0 hc1 hc2 hc3 hc4 hc5 hc6 hc7 hc8 hc9) ?_
                            refine gs_0 (pc' := 156) (L' := [some (.ref l0), some (.int l1)]) (st' := [.ref l0]) cd_55_155 rfl rfl ?_
                            obtain ⟨ht, h⟩ := gO_s h
                            obtain ⟨q_36, hv, h⟩ := gV_s h
                            refine gs_gfR cd_55_156 (by decide) ht hv ?_
                            obtain ⟨ht, h⟩ := gO_s h
                            obtain ⟨w_37, I_38, J_39, hcl, h⟩ := cV_s h
                            refine gs_call (as := [.ref q_36]) (rest := []) cd_55_159 rfl (by decide) rfl (sm_rv_ok (by decide) ht) (Nat.le_of_ble_eq_true rfl) (Nat.le_of_ble_eq_true rfl) rfl hcl ?_
                            refine gs_0 (pc' := 163) (L' := [some (.ref l0), some (.int l1)]) (st' := [.ref l0]) cd_55_162 rfl rfl ?_
                            refine gs_0 (pc' := 164) (L' := [some (.ref l0), some (.int l1)]) (st' := [.int 0, .ref l0]) cd_55_163 rfl rfl ?_
                            obtain ⟨ht, h⟩ := gO_s h
                            refine gs_pfI cd_55_164 (by decide) (Or.inl rfl) ht ?_
                            obtain ⟨I_40, hx, h⟩ := lt_s_ h
                            rw [hx]
                            exact ok_55_167 hr9 h
noncomputable def f_55 (K : Nat → Value) (k d : Nat) (l0 : Nat) (w : aW) (I : aI) (J : aJ) : Option aR :=
  gO w 2 l0 (
  cV (Cl K d 56 [.ref l0, .int 0, .int 0, .int 0] w I J) fun w_1 I_2 J_3 =>
  f_55_9 K k d l0 0 w_1 I_2 J_3)
theorem ok_55 {K : Nat → Value} {k d : Nat} {l0 : Nat} {w : aW} {I : aI} {J : aJ} {R : aR} (h : f_55 K k d l0 w I J = some R) : Go K (d + 1) 55 0 [some (.ref l0), none] [] w I J R := by
  unfold f_55 at h
  refine gs_0 (pc' := 1) (L' := [some (.ref l0), none]) (st' := [.ref l0]) cd_55_0 rfl rfl ?_
  refine gs_0 (pc' := 2) (L' := [some (.ref l0), none]) (st' := [.int 0, .ref l0]) cd_55_1 rfl rfl ?_
  refine gs_0 (pc' := 3) (L' := [some (.ref l0), none]) (st' := [.int 0, .int 0, .ref l0]) cd_55_2 rfl rfl ?_
  refine gs_0 (pc' := 4) (L' := [some (.ref l0), none]) (st' := [.int 0, .int 0, .int 0, .ref l0]) cd_55_3 rfl rfl ?_
  obtain ⟨ht, h⟩ := gO_s h
  obtain ⟨w_1, I_2, J_3, hcl, h⟩ := cV_s h
  refine gs_call (as := [.ref l0, .int 0, .int 0, .int 0]) (rest := []) cd_55_4 rfl (by decide) rfl (sm_rv_ok (by decide) ht) (Nat.le_of_ble_eq_true rfl) (Nat.le_of_ble_eq_true rfl) rfl hcl ?_
  refine gs_0 (pc' := 8) (L' := [some (.ref l0), none]) (st' := [.int 0]) cd_55_7 rfl rfl ?_
  refine gs_0 (pc' := 9) (L' := [some (.ref l0), some (.int 0)]) (st' := []) cd_55_8 rfl rfl ?_
  exact ok_55_9 h
theorem cl_55 {K : Nat → Value} {k d : Nat} {l0 : Nat} {w : aW} {I : aI} {J : aJ} {R : aR} (h : f_55 K k d l0 w I J = some R) : Cl K (d + 1) 55 [.ref l0] w I J = some R := Cl_of (ok_55 h)
/-! ProvedMachine$Reader.openBlock(III)V -/
theorem gl_56 : gcd.lookup 56 = some gw_56 := rfl
theorem cd_56_0 : sm_cd 56 0 = some (.aload_n 0, 1, 0, 0, 0, 0, 0, 0, 0) := cd_of gl_56 rfl
theorem cd_56_1 : sm_cd 56 1 = some (.getfield 12, 3, 2, 0, 2, 0, 0, 0, 0) := cd_of gl_56 rfl
theorem cd_56_4 : sm_cd 56 4 = some (.bipush 123, 2, 0, 0, 0, 0, 0, 123, 0) := cd_of gl_56 rfl
theorem cd_56_6 : sm_cd 56 6 = some (.invokevirtual 116, 3, 41, 0, 1, 2, 4, 0, 0) := cd_of gl_56 rfl
theorem cd_56_9 : sm_cd 56 9 = some (.aload_n 0, 1, 0, 0, 0, 0, 0, 0, 0) := cd_of gl_56 rfl
theorem cd_56_10 : sm_cd 56 10 = some (.getfield 55, 3, 2, 11, 0, 0, 0, 0, 0) := cd_of gl_56 rfl
theorem cd_56_13 : sm_cd 56 13 = some (.bipush 64, 2, 0, 0, 0, 0, 0, 64, 0) := cd_of gl_56 rfl
theorem cd_56_15 : sm_cd 56 15 = some (.if_icmp .ge 43, 3, 58, 0, 0, 0, 0, 0, 0) := cd_of gl_56 rfl
theorem cd_56_18 : sm_cd 56 18 = some (.aload_n 0, 1, 0, 0, 0, 0, 0, 0, 0) := cd_of gl_56 rfl
theorem cd_56_19 : sm_cd 56 19 = some (.getfield 58, 3, 2, 12, 2, 0, 0, 0, 0) := cd_of gl_56 rfl
theorem cd_56_22 : sm_cd 56 22 = some (.aload_n 0, 1, 0, 0, 0, 0, 0, 0, 0) := cd_of gl_56 rfl
theorem cd_56_23 : sm_cd 56 23 = some (.getfield 55, 3, 2, 11, 0, 0, 0, 0, 0) := cd_of gl_56 rfl
theorem cd_56_26 : sm_cd 56 26 = some (.iload_n 1, 1, 1, 0, 0, 0, 0, 0, 0) := cd_of gl_56 rfl
theorem cd_56_27 : sm_cd 56 27 = some (.iastore, 1, 0, 0, 0, 0, 0, 0, 0) := cd_of gl_56 rfl
theorem cd_56_28 : sm_cd 56 28 = some (.aload_n 0, 1, 0, 0, 0, 0, 0, 0, 0) := cd_of gl_56 rfl
theorem cd_56_29 : sm_cd 56 29 = some (.getfield 61, 3, 2, 13, 2, 0, 0, 0, 0) := cd_of gl_56 rfl
theorem cd_56_32 : sm_cd 56 32 = some (.aload_n 0, 1, 0, 0, 0, 0, 0, 0, 0) := cd_of gl_56 rfl
theorem cd_56_33 : sm_cd 56 33 = some (.getfield 55, 3, 2, 11, 0, 0, 0, 0, 0) := cd_of gl_56 rfl
theorem cd_56_36 : sm_cd 56 36 = some (.iload_n 2, 1, 2, 0, 0, 0, 0, 0, 0) := cd_of gl_56 rfl
theorem cd_56_37 : sm_cd 56 37 = some (.iastore, 1, 0, 0, 0, 0, 0, 0, 0) := cd_of gl_56 rfl
theorem cd_56_38 : sm_cd 56 38 = some (.aload_n 0, 1, 0, 0, 0, 0, 0, 0, 0) := cd_of gl_56 rfl
theorem cd_56_39 : sm_cd 56 39 = some (.getfield 64, 3, 2, 14, 2, 0, 0, 0, 0) := cd_of gl_56 rfl
theorem cd_56_42 : sm_cd 56 42 = some (.aload_n 0, 1, 0, 0, 0, 0, 0, 0, 0) := cd_of gl_56 rfl
theorem cd_56_43 : sm_cd 56 43 = some (.getfield 55, 3, 2, 11, 0, 0, 0, 0, 0) := cd_of gl_56 rfl
theorem cd_56_46 : sm_cd 56 46 = some (.iload_n 3, 1, 3, 0, 0, 0, 0, 0, 0) := cd_of gl_56 rfl
theorem cd_56_47 : sm_cd 56 47 = some (.iastore, 1, 0, 0, 0, 0, 0, 0, 0) := cd_of gl_56 rfl
theorem cd_56_48 : sm_cd 56 48 = some (.aload_n 0, 1, 0, 0, 0, 0, 0, 0, 0) := cd_of gl_56 rfl
theorem cd_56_49 : sm_cd 56 49 = some (.dup, 1, 0, 0, 0, 0, 0, 0, 0) := cd_of gl_56 rfl
theorem cd_56_50 : sm_cd 56 50 = some (.getfield 55, 3, 2, 11, 0, 0, 0, 0, 0) := cd_of gl_56 rfl
theorem cd_56_53 : sm_cd 56 53 = some (.iconst 1, 1, 0, 0, 0, 0, 0, 1, 0) := cd_of gl_56 rfl
theorem cd_56_54 : sm_cd 56 54 = some (.iadd, 1, 0, 0, 0, 0, 0, 0, 0) := cd_of gl_56 rfl
theorem cd_56_55 : sm_cd 56 55 = some (.putfield 55, 3, 2, 11, 0, 0, 0, 0, 0) := cd_of gl_56 rfl
theorem cd_56_58 : sm_cd 56 58 = some (.return_, 1, 0, 0, 0, 0, 0, 0, 0) := cd_of gl_56 rfl
noncomputable def f_56 (K : Nat → Value) (k d : Nat) (l0 : Nat) (l1 : Int32) (l2 : Int32) (l3 : Int32) (w : aW) (I : aI) (J : aJ) : Option aR :=
  gO w 2 l0 (
  gV w l0 0 fun q_1 =>
  gO w 4 q_1 (
  cV (Cl K d 41 [.ref q_1, .int 123] w I J) fun w_2 I_3 J_4 =>
  gO w_2 2 l0 (
  if 64 ≤ (I_3 l0 11) then
    some (none, w_2, I_3, J_4)
  else
    gO w_2 2 l0 (
    gV w_2 l0 12 fun q_5 =>
    gO w_2 2 l0 (
    gA w_2 10 10 q_5 (I_3 l0 11) (
    lt_ (sm_up2 I_3 q_5 (I_3 l0 11 : Int32).toNatClampNeg l1) fun I_6 =>
    gO w_2 2 l0 (
    gV w_2 l0 13 fun q_7 =>
    gO w_2 2 l0 (
    gA w_2 10 10 q_7 (I_6 l0 11) (
    lt_ (sm_up2 I_6 q_7 (I_6 l0 11 : Int32).toNatClampNeg l2) fun I_8 =>
    gO w_2 2 l0 (
    gV w_2 l0 14 fun q_9 =>
    gO w_2 2 l0 (
    gA w_2 10 10 q_9 (I_8 l0 11) (
    lt_ (sm_up2 I_8 q_9 (I_8 l0 11 : Int32).toNatClampNeg l3) fun I_10 =>
    gO w_2 2 l0 (
    gO w_2 2 l0 (
    lt_ (sm_up2 I_10 l0 11 ((I_10 l0 11) + 1)) fun I_11 =>
    some (none, w_2, I_11, J_4)))))))))))))))
theorem ok_56 {K : Nat → Value} {k d : Nat} {l0 : Nat} {l1 : Int32} {l2 : Int32} {l3 : Int32} {w : aW} {I : aI} {J : aJ} {R : aR} (h : f_56 K k d l0 l1 l2 l3 w I J = some R) : Go K (d + 1) 56 0 [some (.ref l0), some (.int l1), some (.int l2), some (.int l3)] [] w I J R := by
  unfold f_56 at h
  refine gs_0 (pc' := 1) (L' := [some (.ref l0), some (.int l1), some (.int l2), some (.int l3)]) (st' := [.ref l0]) cd_56_0 rfl rfl ?_
  obtain ⟨ht, h⟩ := gO_s h
  obtain ⟨q_1, hv, h⟩ := gV_s h
  refine gs_gfR cd_56_1 (by decide) ht hv ?_
  refine gs_0 (pc' := 6) (L' := [some (.ref l0), some (.int l1), some (.int l2), some (.int l3)]) (st' := [.int 123, .ref q_1]) cd_56_4 rfl rfl ?_
  obtain ⟨ht, h⟩ := gO_s h
  obtain ⟨w_2, I_3, J_4, hcl, h⟩ := cV_s h
  refine gs_call (as := [.ref q_1, .int 123]) (rest := []) cd_56_6 rfl (by decide) rfl (sm_rv_ok (by decide) ht) (Nat.le_of_ble_eq_true rfl) (Nat.le_of_ble_eq_true rfl) rfl hcl ?_
  refine gs_0 (pc' := 10) (L' := [some (.ref l0), some (.int l1), some (.int l2), some (.int l3)]) (st' := [.ref l0]) cd_56_9 rfl rfl ?_
  obtain ⟨ht, h⟩ := gO_s h
  refine gs_gfI cd_56_10 (by decide) (by decide) ht ?_
  refine gs_0 (pc' := 15) (L' := [some (.ref l0), some (.int l1), some (.int l2), some (.int l3)]) (st' := [.int 64, .int (I_3 l0 11)]) cd_56_13 rfl rfl ?_
  refine gs_0 (pc' := if 64 ≤ (I_3 l0 11) then 58 else 18) (L' := [some (.ref l0), some (.int l1), some (.int l2), some (.int l3)]) (st' := []) cd_56_15 rfl rfl ?_
  refine go_ite (fun hc => ?_) (fun hc => ?_)
  · rw [if_pos hc] at h
    cases h
    exact gsr cd_56_58 rfl rfl
  · rw [if_neg hc] at h
    refine gs_0 (pc' := 19) (L' := [some (.ref l0), some (.int l1), some (.int l2), some (.int l3)]) (st' := [.ref l0]) cd_56_18 rfl rfl ?_
    obtain ⟨ht, h⟩ := gO_s h
    obtain ⟨q_5, hv, h⟩ := gV_s h
    refine gs_gfR cd_56_19 (by decide) ht hv ?_
    refine gs_0 (pc' := 23) (L' := [some (.ref l0), some (.int l1), some (.int l2), some (.int l3)]) (st' := [.ref l0, .ref q_5]) cd_56_22 rfl rfl ?_
    obtain ⟨ht, h⟩ := gO_s h
    refine gs_gfI cd_56_23 (by decide) (by decide) ht ?_
    refine gs_0 (pc' := 27) (L' := [some (.ref l0), some (.int l1), some (.int l2), some (.int l3)]) (st' := [.int l1, .int (I_3 l0 11), .ref q_5]) cd_56_26 rfl rfl ?_
    obtain ⟨ht, h⟩ := gA_s h
    refine gs_iast cd_56_27 ht ?_
    obtain ⟨I_6, hx, h⟩ := lt_s_ h
    rw [hx]
    refine gs_0 (pc' := 29) (L' := [some (.ref l0), some (.int l1), some (.int l2), some (.int l3)]) (st' := [.ref l0]) cd_56_28 rfl rfl ?_
    obtain ⟨ht, h⟩ := gO_s h
    obtain ⟨q_7, hv, h⟩ := gV_s h
    refine gs_gfR cd_56_29 (by decide) ht hv ?_
    refine gs_0 (pc' := 33) (L' := [some (.ref l0), some (.int l1), some (.int l2), some (.int l3)]) (st' := [.ref l0, .ref q_7]) cd_56_32 rfl rfl ?_
    obtain ⟨ht, h⟩ := gO_s h
    refine gs_gfI cd_56_33 (by decide) (by decide) ht ?_
    refine gs_0 (pc' := 37) (L' := [some (.ref l0), some (.int l1), some (.int l2), some (.int l3)]) (st' := [.int l2, .int (I_6 l0 11), .ref q_7]) cd_56_36 rfl rfl ?_
    obtain ⟨ht, h⟩ := gA_s h
    refine gs_iast cd_56_37 ht ?_
    obtain ⟨I_8, hx, h⟩ := lt_s_ h
    rw [hx]
    refine gs_0 (pc' := 39) (L' := [some (.ref l0), some (.int l1), some (.int l2), some (.int l3)]) (st' := [.ref l0]) cd_56_38 rfl rfl ?_
    obtain ⟨ht, h⟩ := gO_s h
    obtain ⟨q_9, hv, h⟩ := gV_s h
    refine gs_gfR cd_56_39 (by decide) ht hv ?_
    refine gs_0 (pc' := 43) (L' := [some (.ref l0), some (.int l1), some (.int l2), some (.int l3)]) (st' := [.ref l0, .ref q_9]) cd_56_42 rfl rfl ?_
    obtain ⟨ht, h⟩ := gO_s h
    refine gs_gfI cd_56_43 (by decide) (by decide) ht ?_
    refine gs_0 (pc' := 47) (L' := [some (.ref l0), some (.int l1), some (.int l2), some (.int l3)]) (st' := [.int l3, .int (I_8 l0 11), .ref q_9]) cd_56_46 rfl rfl ?_
    obtain ⟨ht, h⟩ := gA_s h
    refine gs_iast cd_56_47 ht ?_
    obtain ⟨I_10, hx, h⟩ := lt_s_ h
    rw [hx]
    refine gs_0 (pc' := 49) (L' := [some (.ref l0), some (.int l1), some (.int l2), some (.int l3)]) (st' := [.ref l0]) cd_56_48 rfl rfl ?_
    refine gs_0 (pc' := 50) (L' := [some (.ref l0), some (.int l1), some (.int l2), some (.int l3)]) (st' := [.ref l0, .ref l0]) cd_56_49 rfl rfl ?_
    obtain ⟨ht, h⟩ := gO_s h
    refine gs_gfI cd_56_50 (by decide) (by decide) ht ?_
    refine gs_0 (pc' := 54) (L' := [some (.ref l0), some (.int l1), some (.int l2), some (.int l3)]) (st' := [.int 1, .int (I_10 l0 11), .ref l0]) cd_56_53 rfl rfl ?_
    refine gs_0 (pc' := 55) (L' := [some (.ref l0), some (.int l1), some (.int l2), some (.int l3)]) (st' := [.int ((I_10 l0 11) + 1), .ref l0]) cd_56_54 rfl rfl ?_
    obtain ⟨ht, h⟩ := gO_s h
    refine gs_pfI cd_56_55 (by decide) (Or.inl rfl) ht ?_
    obtain ⟨I_11, hx, h⟩ := lt_s_ h
    rw [hx]
    cases h
    exact gsr cd_56_58 rfl rfl
theorem cl_56 {K : Nat → Value} {k d : Nat} {l0 : Nat} {l1 : Int32} {l2 : Int32} {l3 : Int32} {w : aW} {I : aI} {J : aJ} {R : aR} (h : f_56 K k d l0 l1 l2 l3 w I J = some R) : Cl K (d + 1) 56 [.ref l0, .int l1, .int l2, .int l3] w I J = some R := Cl_of (ok_56 h)
/-! ProvedMachine$Reader.closeBlock()V -/
theorem gl_57 : gcd.lookup 57 = some gw_57 := rfl
theorem cd_57_0 : sm_cd 57 0 = some (.aload_n 0, 1, 0, 0, 0, 0, 0, 0, 0) := cd_of gl_57 rfl
theorem cd_57_1 : sm_cd 57 1 = some (.getfield 12, 3, 2, 0, 2, 0, 0, 0, 0) := cd_of gl_57 rfl
theorem cd_57_4 : sm_cd 57 4 = some (.invokevirtual 146, 3, 42, 0, 0, 1, 4, 0, 0) := cd_of gl_57 rfl
theorem cd_57_7 : sm_cd 57 7 = some (.aload_n 0, 1, 0, 0, 0, 0, 0, 0, 0) := cd_of gl_57 rfl
theorem cd_57_8 : sm_cd 57 8 = some (.getfield 55, 3, 2, 11, 0, 0, 0, 0, 0) := cd_of gl_57 rfl
theorem cd_57_11 : sm_cd 57 11 = some (.iconst 1, 1, 0, 0, 0, 0, 0, 1, 0) := cd_of gl_57 rfl
theorem cd_57_12 : sm_cd 57 12 = some (.if_icmp .lt 12, 3, 24, 0, 0, 0, 0, 0, 0) := cd_of gl_57 rfl
theorem cd_57_15 : sm_cd 57 15 = some (.aload_n 0, 1, 0, 0, 0, 0, 0, 0, 0) := cd_of gl_57 rfl
theorem cd_57_16 : sm_cd 57 16 = some (.getfield 55, 3, 2, 11, 0, 0, 0, 0, 0) := cd_of gl_57 rfl
theorem cd_57_19 : sm_cd 57 19 = some (.bipush 64, 2, 0, 0, 0, 0, 0, 64, 0) := cd_of gl_57 rfl
theorem cd_57_21 : sm_cd 57 21 = some (.if_icmp .le 4, 3, 25, 0, 0, 0, 0, 0, 0) := cd_of gl_57 rfl
theorem cd_57_24 : sm_cd 57 24 = some (.return_, 1, 0, 0, 0, 0, 0, 0, 0) := cd_of gl_57 rfl
theorem cd_57_25 : sm_cd 57 25 = some (.aload_n 0, 1, 0, 0, 0, 0, 0, 0, 0) := cd_of gl_57 rfl
theorem cd_57_26 : sm_cd 57 26 = some (.dup, 1, 0, 0, 0, 0, 0, 0, 0) := cd_of gl_57 rfl
theorem cd_57_27 : sm_cd 57 27 = some (.getfield 55, 3, 2, 11, 0, 0, 0, 0, 0) := cd_of gl_57 rfl
theorem cd_57_30 : sm_cd 57 30 = some (.iconst 1, 1, 0, 0, 0, 0, 0, 1, 0) := cd_of gl_57 rfl
theorem cd_57_31 : sm_cd 57 31 = some (.isub, 1, 0, 0, 0, 0, 0, 0, 0) := cd_of gl_57 rfl
theorem cd_57_32 : sm_cd 57 32 = some (.putfield 55, 3, 2, 11, 0, 0, 0, 0, 0) := cd_of gl_57 rfl
theorem cd_57_35 : sm_cd 57 35 = some (.aload_n 0, 1, 0, 0, 0, 0, 0, 0, 0) := cd_of gl_57 rfl
theorem cd_57_36 : sm_cd 57 36 = some (.getfield 58, 3, 2, 12, 2, 0, 0, 0, 0) := cd_of gl_57 rfl
theorem cd_57_39 : sm_cd 57 39 = some (.aload_n 0, 1, 0, 0, 0, 0, 0, 0, 0) := cd_of gl_57 rfl
theorem cd_57_40 : sm_cd 57 40 = some (.getfield 55, 3, 2, 11, 0, 0, 0, 0, 0) := cd_of gl_57 rfl
theorem cd_57_43 : sm_cd 57 43 = some (.iaload, 1, 0, 0, 0, 0, 0, 0, 0) := cd_of gl_57 rfl
theorem cd_57_44 : sm_cd 57 44 = some (.istore_n 1, 1, 1, 0, 0, 0, 0, 0, 0) := cd_of gl_57 rfl
theorem cd_57_45 : sm_cd 57 45 = some (.aload_n 0, 1, 0, 0, 0, 0, 0, 0, 0) := cd_of gl_57 rfl
theorem cd_57_46 : sm_cd 57 46 = some (.getfield 61, 3, 2, 13, 2, 0, 0, 0, 0) := cd_of gl_57 rfl
theorem cd_57_49 : sm_cd 57 49 = some (.aload_n 0, 1, 0, 0, 0, 0, 0, 0, 0) := cd_of gl_57 rfl
theorem cd_57_50 : sm_cd 57 50 = some (.getfield 55, 3, 2, 11, 0, 0, 0, 0, 0) := cd_of gl_57 rfl
theorem cd_57_53 : sm_cd 57 53 = some (.iaload, 1, 0, 0, 0, 0, 0, 0, 0) := cd_of gl_57 rfl
theorem cd_57_54 : sm_cd 57 54 = some (.istore_n 2, 1, 2, 0, 0, 0, 0, 0, 0) := cd_of gl_57 rfl
theorem cd_57_55 : sm_cd 57 55 = some (.iload_n 1, 1, 1, 0, 0, 0, 0, 0, 0) := cd_of gl_57 rfl
theorem cd_57_56 : sm_cd 57 56 = some (.ifCond .ne 4, 3, 60, 0, 0, 0, 0, 0, 0) := cd_of gl_57 rfl
theorem cd_57_59 : sm_cd 57 59 = some (.return_, 1, 0, 0, 0, 0, 0, 0, 0) := cd_of gl_57 rfl
theorem cd_57_60 : sm_cd 57 60 = some (.iload_n 1, 1, 1, 0, 0, 0, 0, 0, 0) := cd_of gl_57 rfl
theorem cd_57_61 : sm_cd 57 61 = some (.iconst 3, 1, 0, 0, 0, 0, 0, 3, 0) := cd_of gl_57 rfl
theorem cd_57_62 : sm_cd 57 62 = some (.if_icmp .ne 20, 3, 82, 0, 0, 0, 0, 0, 0) := cd_of gl_57 rfl
theorem cd_57_65 : sm_cd 57 65 = some (.aload_n 0, 1, 0, 0, 0, 0, 0, 0, 0) := cd_of gl_57 rfl
theorem cd_57_66 : sm_cd 57 66 = some (.bipush 24, 2, 0, 0, 0, 0, 0, 24, 0) := cd_of gl_57 rfl
theorem cd_57_68 : sm_cd 57 68 = some (.aload_n 0, 1, 0, 0, 0, 0, 0, 0, 0) := cd_of gl_57 rfl
theorem cd_57_69 : sm_cd 57 69 = some (.getfield 64, 3, 2, 14, 2, 0, 0, 0, 0) := cd_of gl_57 rfl
theorem cd_57_72 : sm_cd 57 72 = some (.aload_n 0, 1, 0, 0, 0, 0, 0, 0, 0) := cd_of gl_57 rfl
theorem cd_57_73 : sm_cd 57 73 = some (.getfield 55, 3, 2, 11, 0, 0, 0, 0, 0) := cd_of gl_57 rfl
theorem cd_57_76 : sm_cd 57 76 = some (.iaload, 1, 0, 0, 0, 0, 0, 0, 0) := cd_of gl_57 rfl
theorem cd_57_77 : sm_cd 57 77 = some (.iconst 0, 1, 0, 0, 0, 0, 0, 0, 0) := cd_of gl_57 rfl
theorem cd_57_78 : sm_cd 57 78 = some (.iconst (-1), 1, 0, 0, 0, 0, 0, (-1), 0) := cd_of gl_57 rfl
theorem cd_57_79 : sm_cd 57 79 = some (.invokevirtual 149, 3, 58, 0, 4, 5, 2, 0, 0) := cd_of gl_57 rfl
theorem cd_57_82 : sm_cd 57 82 = some (.iload_n 1, 1, 1, 0, 0, 0, 0, 0, 0) := cd_of gl_57 rfl
theorem cd_57_83 : sm_cd 57 83 = some (.iconst 1, 1, 0, 0, 0, 0, 0, 1, 0) := cd_of gl_57 rfl
theorem cd_57_84 : sm_cd 57 84 = some (.if_icmp .ne 47, 3, 131, 0, 0, 0, 0, 0, 0) := cd_of gl_57 rfl
theorem cd_57_87 : sm_cd 57 87 = some (.aload_n 0, 1, 0, 0, 0, 0, 0, 0, 0) := cd_of gl_57 rfl
theorem cd_57_88 : sm_cd 57 88 = some (.getfield 12, 3, 2, 0, 2, 0, 0, 0, 0) := cd_of gl_57 rfl
theorem cd_57_91 : sm_cd 57 91 = some (.invokevirtual 93, 3, 37, 0, 0, 1, 4, 0, 0) := cd_of gl_57 rfl
theorem cd_57_94 : sm_cd 57 94 = some (.sipush 258, 3, 0, 0, 0, 0, 0, 258, 0) := cd_of gl_57 rfl
theorem cd_57_97 : sm_cd 57 97 = some (.if_icmp .ne 34, 3, 131, 0, 0, 0, 0, 0, 0) := cd_of gl_57 rfl
theorem cd_57_100 : sm_cd 57 100 = some (.aload_n 0, 1, 0, 0, 0, 0, 0, 0, 0) := cd_of gl_57 rfl
theorem cd_57_101 : sm_cd 57 101 = some (.getfield 12, 3, 2, 0, 2, 0, 0, 0, 0) := cd_of gl_57 rfl
theorem cd_57_104 : sm_cd 57 104 = some (.invokevirtual 146, 3, 42, 0, 0, 1, 4, 0, 0) := cd_of gl_57 rfl
theorem cd_57_107 : sm_cd 57 107 = some (.aload_n 0, 1, 0, 0, 0, 0, 0, 0, 0) := cd_of gl_57 rfl
theorem cd_57_108 : sm_cd 57 108 = some (.getfield 21, 3, 2, 1, 2, 0, 0, 0, 0) := cd_of gl_57 rfl
theorem cd_57_111 : sm_cd 57 111 = some (.getfield 71, 3, 1, 6, 0, 1, 0, 0, 0) := cd_of gl_57 rfl
theorem cd_57_114 : sm_cd 57 114 = some (.istore_n 3, 1, 3, 0, 0, 0, 0, 0, 0) := cd_of gl_57 rfl
theorem cd_57_115 : sm_cd 57 115 = some (.aload_n 0, 1, 0, 0, 0, 0, 0, 0, 0) := cd_of gl_57 rfl
theorem cd_57_116 : sm_cd 57 116 = some (.bipush 24, 2, 0, 0, 0, 0, 0, 24, 0) := cd_of gl_57 rfl
theorem cd_57_118 : sm_cd 57 118 = some (.iconst 0, 1, 0, 0, 0, 0, 0, 0, 0) := cd_of gl_57 rfl
theorem cd_57_119 : sm_cd 57 119 = some (.iconst 0, 1, 0, 0, 0, 0, 0, 0, 0) := cd_of gl_57 rfl
theorem cd_57_120 : sm_cd 57 120 = some (.iconst (-1), 1, 0, 0, 0, 0, 0, (-1), 0) := cd_of gl_57 rfl
theorem cd_57_121 : sm_cd 57 121 = some (.invokevirtual 149, 3, 58, 0, 4, 5, 2, 0, 0) := cd_of gl_57 rfl
theorem cd_57_124 : sm_cd 57 124 = some (.aload_n 0, 1, 0, 0, 0, 0, 0, 0, 0) := cd_of gl_57 rfl
theorem cd_57_125 : sm_cd 57 125 = some (.iconst 2, 1, 0, 0, 0, 0, 0, 2, 0) := cd_of gl_57 rfl
theorem cd_57_126 : sm_cd 57 126 = some (.iload_n 3, 1, 3, 0, 0, 0, 0, 0, 0) := cd_of gl_57 rfl
theorem cd_57_127 : sm_cd 57 127 = some (.iconst 0, 1, 0, 0, 0, 0, 0, 0, 0) := cd_of gl_57 rfl
theorem cd_57_128 : sm_cd 57 128 = some (.invokevirtual 153, 3, 56, 0, 3, 4, 2, 0, 0) := cd_of gl_57 rfl
theorem cd_57_131 : sm_cd 57 131 = some (.aload_n 0, 1, 0, 0, 0, 0, 0, 0, 0) := cd_of gl_57 rfl
theorem cd_57_132 : sm_cd 57 132 = some (.getfield 21, 3, 2, 1, 2, 0, 0, 0, 0) := cd_of gl_57 rfl
theorem cd_57_135 : sm_cd 57 135 = some (.iload_n 2, 1, 2, 0, 0, 0, 0, 0, 0) := cd_of gl_57 rfl
theorem cd_57_136 : sm_cd 57 136 = some (.invokevirtual 174, 3, 60, 0, 1, 2, 1, 0, 0) := cd_of gl_57 rfl
theorem cd_57_139 : sm_cd 57 139 = some (.return_, 1, 0, 0, 0, 0, 0, 0, 0) := cd_of gl_57 rfl
noncomputable def f_57_131 (K : Nat → Value) (k d : Nat) (l0 : Nat) (l1 : Int32) (l2 : Int32) (w : aW) (I : aI) (J : aJ) : Option aR :=
  gO w 2 l0 (
  gV w l0 1 fun q_1 =>
  gO w 1 q_1 (
  cV (Cl K d 60 [.ref q_1, .int l2] w I J) fun w_2 I_3 J_4 =>
  some (none, w_2, I_3, J_4)))
theorem ok_57_131 {K : Nat → Value} {k d : Nat} {l0 : Nat} {l1 : Int32} {l2 : Int32} {w : aW} {I : aI} {J : aJ} {R : aR} (h : f_57_131 K k d l0 l1 l2 w I J = some R) : Go K (d + 1) 57 131 [some (.ref l0), some (.int l1), some (.int l2), none] [] w I J R := by
  unfold f_57_131 at h
  refine gs_0 (pc' := 132) (L' := [some (.ref l0), some (.int l1), some (.int l2), none]) (st' := [.ref l0]) cd_57_131 rfl rfl ?_
  obtain ⟨ht, h⟩ := gO_s h
  obtain ⟨q_1, hv, h⟩ := gV_s h
  refine gs_gfR cd_57_132 (by decide) ht hv ?_
  refine gs_0 (pc' := 136) (L' := [some (.ref l0), some (.int l1), some (.int l2), none]) (st' := [.int l2, .ref q_1]) cd_57_135 rfl rfl ?_
  obtain ⟨ht, h⟩ := gO_s h
  obtain ⟨w_2, I_3, J_4, hcl, h⟩ := cV_s h
  refine gs_call (as := [.ref q_1, .int l2]) (rest := []) cd_57_136 rfl (by decide) rfl (sm_rv_ok (by decide) ht) (Nat.le_of_ble_eq_true rfl) (Nat.le_of_ble_eq_true rfl) rfl hcl ?_
  cases h
  exact gsr cd_57_139 rfl rfl
noncomputable def f_57_82 (K : Nat → Value) (k d : Nat) (l0 : Nat) (l1 : Int32) (l2 : Int32) (w : aW) (I : aI) (J : aJ) : Option aR :=
  if ¬ l1 = 1 then
    f_57_131 K k d l0 l1 l2 w I J
  else
    gO w 2 l0 (
    gV w l0 0 fun q_1 =>
    gO w 4 q_1 (
    cI (Cl K d 37 [.ref q_1] w I J) fun x_5 w_2 I_3 J_4 =>
    if ¬ x_5 = 258 then
      f_57_131 K k d l0 l1 l2 w_2 I_3 J_4
    else
      gO w_2 2 l0 (
      gV w_2 l0 0 fun q_6 =>
      gO w_2 4 q_6 (
      cV (Cl K d 42 [.ref q_6] w_2 I_3 J_4) fun w_7 I_8 J_9 =>
      gO w_7 2 l0 (
      gV w_7 l0 1 fun q_10 =>
      gO w_7 1 q_10 (
      lt_ (I_8 q_10 6) fun x_11 =>
      gO w_7 2 l0 (
      cV (Cl K d 58 [.ref l0, .int 24, .int 0, .int 0, .int ((-1))] w_7 I_8 J_9) fun w_12 I_13 J_14 =>
      gO w_12 2 l0 (
      cV (Cl K d 56 [.ref l0, .int 2, .int x_11, .int 0] w_12 I_13 J_14) fun w_15 I_16 J_17 =>
      f_57_131 K k d l0 l1 l2 w_15 I_16 J_17))))))))
theorem ok_57_82 {K : Nat → Value} {k d : Nat} {l0 : Nat} {l1 : Int32} {l2 : Int32} {w : aW} {I : aI} {J : aJ} {R : aR} (h : f_57_82 K k d l0 l1 l2 w I J = some R) : Go K (d + 1) 57 82 [some (.ref l0), some (.int l1), some (.int l2), none] [] w I J R := by
  unfold f_57_82 at h
  refine gs_0 (pc' := 83) (L' := [some (.ref l0), some (.int l1), some (.int l2), none]) (st' := [.int l1]) cd_57_82 rfl rfl ?_
  refine gs_0 (pc' := 84) (L' := [some (.ref l0), some (.int l1), some (.int l2), none]) (st' := [.int 1, .int l1]) cd_57_83 rfl rfl ?_
  refine gs_0 (pc' := if ¬ l1 = 1 then 131 else 87) (L' := [some (.ref l0), some (.int l1), some (.int l2), none]) (st' := []) cd_57_84 rfl rfl ?_
  refine go_ite (fun hc => ?_) (fun hc => ?_)
  · rw [if_pos hc] at h
    exact ok_57_131 h
  · rw [if_neg hc] at h
    refine gs_0 (pc' := 88) (L' := [some (.ref l0), some (.int l1), some (.int l2), none]) (st' := [.ref l0]) cd_57_87 rfl rfl ?_
    obtain ⟨ht, h⟩ := gO_s h
    obtain ⟨q_1, hv, h⟩ := gV_s h
    refine gs_gfR cd_57_88 (by decide) ht hv ?_
    obtain ⟨ht, h⟩ := gO_s h
    obtain ⟨x_5, w_2, I_3, J_4, hcl, h⟩ := cI_s h
    refine gs_call (as := [.ref q_1]) (rest := []) cd_57_91 rfl (by decide) rfl (sm_rv_ok (by decide) ht) (Nat.le_of_ble_eq_true rfl) (Nat.le_of_ble_eq_true rfl) rfl hcl ?_
    refine gs_0 (pc' := 97) (L' := [some (.ref l0), some (.int l1), some (.int l2), none]) (st' := [.int 258, .int x_5]) cd_57_94 rfl rfl ?_
    refine gs_0 (pc' := if ¬ x_5 = 258 then 131 else 100) (L' := [some (.ref l0), some (.int l1), some (.int l2), none]) (st' := []) cd_57_97 rfl rfl ?_
    refine go_ite (fun hc => ?_) (fun hc => ?_)
    · rw [if_pos hc] at h
      exact ok_57_131 h
    · rw [if_neg hc] at h
      refine gs_0 (pc' := 101) (L' := [some (.ref l0), some (.int l1), some (.int l2), none]) (st' := [.ref l0]) cd_57_100 rfl rfl ?_
      obtain ⟨ht, h⟩ := gO_s h
      obtain ⟨q_6, hv, h⟩ := gV_s h
      refine gs_gfR cd_57_101 (by decide) ht hv ?_
      obtain ⟨ht, h⟩ := gO_s h
      obtain ⟨w_7, I_8, J_9, hcl, h⟩ := cV_s h
      refine gs_call (as := [.ref q_6]) (rest := []) cd_57_104 rfl (by decide) rfl (sm_rv_ok (by decide) ht) (Nat.le_of_ble_eq_true rfl) (Nat.le_of_ble_eq_true rfl) rfl hcl ?_
      refine gs_0 (pc' := 108) (L' := [some (.ref l0), some (.int l1), some (.int l2), none]) (st' := [.ref l0]) cd_57_107 rfl rfl ?_
      obtain ⟨ht, h⟩ := gO_s h
      obtain ⟨q_10, hv, h⟩ := gV_s h
      refine gs_gfR cd_57_108 (by decide) ht hv ?_
      obtain ⟨ht, h⟩ := gO_s h
      refine gs_gfI cd_57_111 (by decide) (by decide) ht ?_
      refine gs_0 (pc' := 115) (L' := [some (.ref l0), some (.int l1), some (.int l2), some (.int (I_8 q_10 6))]) (st' := []) cd_57_114 rfl rfl ?_
      obtain ⟨x_11, hx, h⟩ := lt_s_ h
      rw [hx]
      clear hx
      refine gs_0 (pc' := 116) (L' := [some (.ref l0), some (.int l1), some (.int l2), some (.int x_11)]) (st' := [.ref l0]) cd_57_115 rfl rfl ?_
      refine gs_0 (pc' := 118) (L' := [some (.ref l0), some (.int l1), some (.int l2), some (.int x_11)]) (st' := [.int 24, .ref l0]) cd_57_116 rfl rfl ?_
      refine gs_0 (pc' := 119) (L' := [some (.ref l0), some (.int l1), some (.int l2), some (.int x_11)]) (st' := [.int 0, .int 24, .ref l0]) cd_57_118 rfl rfl ?_
      refine gs_0 (pc' := 120) (L' := [some (.ref l0), some (.int l1), some (.int l2), some (.int x_11)]) (st' := [.int 0, .int 0, .int 24, .ref l0]) cd_57_119 rfl rfl ?_
      refine gs_0 (pc' := 121) (L' := [some (.ref l0), some (.int l1), some (.int l2), some (.int x_11)]) (st' := [.int ((-1)), .int 0, .int 0, .int 24, .ref l0]) cd_57_120 rfl rfl ?_
      obtain ⟨ht, h⟩ := gO_s h
      obtain ⟨w_12, I_13, J_14, hcl, h⟩ := cV_s h
      refine gs_call (as := [.ref l0, .int 24, .int 0, .int 0, .int ((-1))]) (rest := []) cd_57_121 rfl (by decide) rfl (sm_rv_ok (by decide) ht) (Nat.le_of_ble_eq_true rfl) (Nat.le_of_ble_eq_true rfl) rfl hcl ?_
      refine gs_0 (pc' := 125) (L' := [some (.ref l0), some (.int l1), some (.int l2), some (.int x_11)]) (st' := [.ref l0]) cd_57_124 rfl rfl ?_
      refine gs_0 (pc' := 126) (L' := [some (.ref l0), some (.int l1), some (.int l2), some (.int x_11)]) (st' := [.int 2, .ref l0]) cd_57_125 rfl rfl ?_
      refine gs_0 (pc' := 127) (L' := [some (.ref l0), some (.int l1), some (.int l2), some (.int x_11)]) (st' := [.int x_11, .int 2, .ref l0]) cd_57_126 rfl rfl ?_
      refine gs_0 (pc' := 128) (L' := [some (.ref l0), some (.int l1), some (.int l2), some (.int x_11)]) (st' := [.int 0, .int x_11, .int 2, .ref l0]) cd_57_127 rfl rfl ?_
      obtain ⟨ht, h⟩ := gO_s h
      obtain ⟨w_15, I_16, J_17, hcl, h⟩ := cV_s h
      refine gs_call (as := [.ref l0, .int 2, .int x_11, .int 0]) (rest := []) cd_57_128 rfl (by decide) rfl (sm_rv_ok (by decide) ht) (Nat.le_of_ble_eq_true rfl) (Nat.le_of_ble_eq_true rfl) rfl hcl ?_
      refine go_drop [some (.ref l0), some (.int l1), some (.int l2), none] ⟨rfl, ⟨rfl, ⟨rfl, ⟨rfl, trivial⟩⟩⟩⟩ ?_
      exact ok_57_131 h
noncomputable def f_57 (K : Nat → Value) (k d : Nat) (l0 : Nat) (w : aW) (I : aI) (J : aJ) : Option aR :=
  gO w 2 l0 (
  gV w l0 0 fun q_1 =>
  gO w 4 q_1 (
  cV (Cl K d 42 [.ref q_1] w I J) fun w_2 I_3 J_4 =>
  gO w_2 2 l0 (
  if (I_3 l0 11) < 1 then
    some (none, w_2, I_3, J_4)
  else
    gO w_2 2 l0 (
    if (I_3 l0 11) ≤ 64 then
      gO w_2 2 l0 (
      gO w_2 2 l0 (
      lt_ (sm_up2 I_3 l0 11 ((I_3 l0 11) - 1)) fun I_5 =>
      gO w_2 2 l0 (
      gV w_2 l0 12 fun q_6 =>
      gO w_2 2 l0 (
      gA w_2 10 20 q_6 (I_5 l0 11) (
      lt_ (I_5 q_6 (I_5 l0 11 : Int32).toNatClampNeg) fun x_7 =>
      gO w_2 2 l0 (
      gV w_2 l0 13 fun q_8 =>
      gO w_2 2 l0 (
      gA w_2 10 20 q_8 (I_5 l0 11) (
      lt_ (I_5 q_8 (I_5 l0 11 : Int32).toNatClampNeg) fun x_9 =>
      if ¬ x_7 = 0 then
        if ¬ x_7 = 3 then
          f_57_82 K k d l0 x_7 x_9 w_2 I_5 J_4
        else
          gO w_2 2 l0 (
          gV w_2 l0 14 fun q_10 =>
          gO w_2 2 l0 (
          gA w_2 10 20 q_10 (I_5 l0 11) (
          gO w_2 2 l0 (
          cV (Cl K d 58 [.ref l0, .int 24, .int (I_5 q_10 (I_5 l0 11 : Int32).toNatClampNeg), .int 0, .int ((-1))] w_2 I_5 J_4) fun w_11 I_12 J_13 =>
          f_57_82 K k d l0 x_7 x_9 w_11 I_12 J_13))))
      else
        some (none, w_2, I_5, J_4)))))))))
    else
      some (none, w_2, I_3, J_4)))))
theorem ok_57 {K : Nat → Value} {k d : Nat} {l0 : Nat} {w : aW} {I : aI} {J : aJ} {R : aR} (h : f_57 K k d l0 w I J = some R) : Go K (d + 1) 57 0 [some (.ref l0), none, none, none] [] w I J R := by
  unfold f_57 at h
  refine gs_0 (pc' := 1) (L' := [some (.ref l0), none, none, none]) (st' := [.ref l0]) cd_57_0 rfl rfl ?_
  obtain ⟨ht, h⟩ := gO_s h
  obtain ⟨q_1, hv, h⟩ := gV_s h
  refine gs_gfR cd_57_1 (by decide) ht hv ?_
  obtain ⟨ht, h⟩ := gO_s h
  obtain ⟨w_2, I_3, J_4, hcl, h⟩ := cV_s h
  refine gs_call (as := [.ref q_1]) (rest := []) cd_57_4 rfl (by decide) rfl (sm_rv_ok (by decide) ht) (Nat.le_of_ble_eq_true rfl) (Nat.le_of_ble_eq_true rfl) rfl hcl ?_
  refine gs_0 (pc' := 8) (L' := [some (.ref l0), none, none, none]) (st' := [.ref l0]) cd_57_7 rfl rfl ?_
  obtain ⟨ht, h⟩ := gO_s h
  refine gs_gfI cd_57_8 (by decide) (by decide) ht ?_
  refine gs_0 (pc' := 12) (L' := [some (.ref l0), none, none, none]) (st' := [.int 1, .int (I_3 l0 11)]) cd_57_11 rfl rfl ?_
  refine gs_0 (pc' := if (I_3 l0 11) < 1 then 24 else 15) (L' := [some (.ref l0), none, none, none]) (st' := []) cd_57_12 rfl rfl ?_
  refine go_ite (fun hc => ?_) (fun hc => ?_)
  · rw [if_pos hc] at h
    cases h
    exact gsr cd_57_24 rfl rfl
  · rw [if_neg hc] at h
    refine gs_0 (pc' := 16) (L' := [some (.ref l0), none, none, none]) (st' := [.ref l0]) cd_57_15 rfl rfl ?_
    obtain ⟨ht, h⟩ := gO_s h
    refine gs_gfI cd_57_16 (by decide) (by decide) ht ?_
    refine gs_0 (pc' := 21) (L' := [some (.ref l0), none, none, none]) (st' := [.int 64, .int (I_3 l0 11)]) cd_57_19 rfl rfl ?_
    refine gs_0 (pc' := if (I_3 l0 11) ≤ 64 then 25 else 24) (L' := [some (.ref l0), none, none, none]) (st' := []) cd_57_21 rfl rfl ?_
    refine go_ite (fun hc => ?_) (fun hc => ?_)
    · rw [if_pos hc] at h
      refine gs_0 (pc' := 26) (L' := [some (.ref l0), none, none, none]) (st' := [.ref l0]) cd_57_25 rfl rfl ?_
      refine gs_0 (pc' := 27) (L' := [some (.ref l0), none, none, none]) (st' := [.ref l0, .ref l0]) cd_57_26 rfl rfl ?_
      obtain ⟨ht, h⟩ := gO_s h
      refine gs_gfI cd_57_27 (by decide) (by decide) ht ?_
      refine gs_0 (pc' := 31) (L' := [some (.ref l0), none, none, none]) (st' := [.int 1, .int (I_3 l0 11), .ref l0]) cd_57_30 rfl rfl ?_
      refine gs_0 (pc' := 32) (L' := [some (.ref l0), none, none, none]) (st' := [.int ((I_3 l0 11) - 1), .ref l0]) cd_57_31 rfl rfl ?_
      obtain ⟨ht, h⟩ := gO_s h
      refine gs_pfI cd_57_32 (by decide) (Or.inl rfl) ht ?_
      obtain ⟨I_5, hx, h⟩ := lt_s_ h
      rw [hx]
      refine gs_0 (pc' := 36) (L' := [some (.ref l0), none, none, none]) (st' := [.ref l0]) cd_57_35 rfl rfl ?_
      obtain ⟨ht, h⟩ := gO_s h
      obtain ⟨q_6, hv, h⟩ := gV_s h
      refine gs_gfR cd_57_36 (by decide) ht hv ?_
      refine gs_0 (pc' := 40) (L' := [some (.ref l0), none, none, none]) (st' := [.ref l0, .ref q_6]) cd_57_39 rfl rfl ?_
      obtain ⟨ht, h⟩ := gO_s h
      refine gs_gfI cd_57_40 (by decide) (by decide) ht ?_
      obtain ⟨ht, h⟩ := gA_s h
      refine gs_iald cd_57_43 ht ?_
      refine gs_0 (pc' := 45) (L' := [some (.ref l0), some (.int (I_5 q_6 (I_5 l0 11 : Int32).toNatClampNeg)), none, none]) (st' := []) cd_57_44 rfl rfl ?_
      obtain ⟨x_7, hx, h⟩ := lt_s_ h
      rw [hx]
      clear hx
      refine gs_0 (pc' := 46) (L' := [some (.ref l0), some (.int x_7), none, none]) (st' := [.ref l0]) cd_57_45 rfl rfl ?_
      obtain ⟨ht, h⟩ := gO_s h
      obtain ⟨q_8, hv, h⟩ := gV_s h
      refine gs_gfR cd_57_46 (by decide) ht hv ?_
      refine gs_0 (pc' := 50) (L' := [some (.ref l0), some (.int x_7), none, none]) (st' := [.ref l0, .ref q_8]) cd_57_49 rfl rfl ?_
      obtain ⟨ht, h⟩ := gO_s h
      refine gs_gfI cd_57_50 (by decide) (by decide) ht ?_
      obtain ⟨ht, h⟩ := gA_s h
      refine gs_iald cd_57_53 ht ?_
      refine gs_0 (pc' := 55) (L' := [some (.ref l0), some (.int x_7), some (.int (I_5 q_8 (I_5 l0 11 : Int32).toNatClampNeg)), none]) (st' := []) cd_57_54 rfl rfl ?_
      obtain ⟨x_9, hx, h⟩ := lt_s_ h
      rw [hx]
      clear hx
      refine gs_0 (pc' := 56) (L' := [some (.ref l0), some (.int x_7), some (.int x_9), none]) (st' := [.int x_7]) cd_57_55 rfl rfl ?_
      refine gs_0 (pc' := if ¬ x_7 = 0 then 60 else 59) (L' := [some (.ref l0), some (.int x_7), some (.int x_9), none]) (st' := []) cd_57_56 rfl rfl ?_
      refine go_ite (fun hc => ?_) (fun hc => ?_)
      · rw [if_pos hc] at h
        refine gs_0 (pc' := 61) (L' := [some (.ref l0), some (.int x_7), some (.int x_9), none]) (st' := [.int x_7]) cd_57_60 rfl rfl ?_
        refine gs_0 (pc' := 62) (L' := [some (.ref l0), some (.int x_7), some (.int x_9), none]) (st' := [.int 3, .int x_7]) cd_57_61 rfl rfl ?_
        refine gs_0 (pc' := if ¬ x_7 = 3 then 82 else 65) (L' := [some (.ref l0), some (.int x_7), some (.int x_9), none]) (st' := []) cd_57_62 rfl rfl ?_
        refine go_ite (fun hc => ?_) (fun hc => ?_)
        · rw [if_pos hc] at h
          exact ok_57_82 h
        · rw [if_neg hc] at h
          refine gs_0 (pc' := 66) (L' := [some (.ref l0), some (.int x_7), some (.int x_9), none]) (st' := [.ref l0]) cd_57_65 rfl rfl ?_
          refine gs_0 (pc' := 68) (L' := [some (.ref l0), some (.int x_7), some (.int x_9), none]) (st' := [.int 24, .ref l0]) cd_57_66 rfl rfl ?_
          refine gs_0 (pc' := 69) (L' := [some (.ref l0), some (.int x_7), some (.int x_9), none]) (st' := [.ref l0, .int 24, .ref l0]) cd_57_68 rfl rfl ?_
          obtain ⟨ht, h⟩ := gO_s h
          obtain ⟨q_10, hv, h⟩ := gV_s h
          refine gs_gfR cd_57_69 (by decide) ht hv ?_
          refine gs_0 (pc' := 73) (L' := [some (.ref l0), some (.int x_7), some (.int x_9), none]) (st' := [.ref l0, .ref q_10, .int 24, .ref l0]) cd_57_72 rfl rfl ?_
          obtain ⟨ht, h⟩ := gO_s h
          refine gs_gfI cd_57_73 (by decide) (by decide) ht ?_
          obtain ⟨ht, h⟩ := gA_s h
          refine gs_iald cd_57_76 ht ?_
          refine gs_0 (pc' := 78) (L' := [some (.ref l0), some (.int x_7), some (.int x_9), none]) (st' := [.int 0, .int (I_5 q_10 (I_5 l0 11 : Int32).toNatClampNeg), .int 24, .ref l0]) cd_57_77 rfl rfl ?_
          refine gs_0 (pc' := 79) (L' := [some (.ref l0), some (.int x_7), some (.int x_9), none]) (st' := [.int ((-1)), .int 0, .int (I_5 q_10 (I_5 l0 11 : Int32).toNatClampNeg), .int 24, .ref l0]) cd_57_78 rfl rfl ?_
          obtain ⟨ht, h⟩ := gO_s h
          obtain ⟨w_11, I_12, J_13, hcl, h⟩ := cV_s h
          refine gs_call (as := [.ref l0, .int 24, .int (I_5 q_10 (I_5 l0 11 : Int32).toNatClampNeg), .int 0, .int ((-1))]) (rest := []) cd_57_79 rfl (by decide) rfl (sm_rv_ok (by decide) ht) (Nat.le_of_ble_eq_true rfl) (Nat.le_of_ble_eq_true rfl) rfl hcl ?_
          exact ok_57_82 h
      · rw [if_neg hc] at h
        cases h
        exact gsr cd_57_59 rfl rfl
    · rw [if_neg hc] at h
      cases h
      exact gsr cd_57_24 rfl rfl
theorem cl_57 {K : Nat → Value} {k d : Nat} {l0 : Nat} {w : aW} {I : aI} {J : aJ} {R : aR} (h : f_57 K k d l0 w I J = some R) : Cl K (d + 1) 57 [.ref l0] w I J = some R := Cl_of (ok_57 h)
/-! ProvedMachine$Reader.emit(IIII)V -/
theorem gl_58 : gcd.lookup 58 = some gw_58 := rfl
theorem cd_58_0 : sm_cd 58 0 = some (.aload_n 0, 1, 0, 0, 0, 0, 0, 0, 0) := cd_of gl_58 rfl
theorem cd_58_1 : sm_cd 58 1 = some (.getfield 21, 3, 2, 1, 2, 0, 0, 0, 0) := cd_of gl_58 rfl
theorem cd_58_4 : sm_cd 58 4 = some (.iload_n 1, 1, 1, 0, 0, 0, 0, 0, 0) := cd_of gl_58 rfl
theorem cd_58_5 : sm_cd 58 5 = some (.iload_n 2, 1, 2, 0, 0, 0, 0, 0, 0) := cd_of gl_58 rfl
theorem cd_58_6 : sm_cd 58 6 = some (.aload_n 0, 1, 0, 0, 0, 0, 0, 0, 0) := cd_of gl_58 rfl
theorem cd_58_7 : sm_cd 58 7 = some (.getfield 51, 3, 2, 10, 2, 0, 0, 0, 0) := cd_of gl_58 rfl
theorem cd_58_10 : sm_cd 58 10 = some (.aload_n 0, 1, 0, 0, 0, 0, 0, 0, 0) := cd_of gl_58 rfl
theorem cd_58_11 : sm_cd 58 11 = some (.getfield 45, 3, 2, 8, 0, 0, 0, 0, 0) := cd_of gl_58 rfl
theorem cd_58_14 : sm_cd 58 14 = some (.laload, 1, 0, 0, 0, 0, 0, 0, 0) := cd_of gl_58 rfl
theorem cd_58_15 : sm_cd 58 15 = some (.invokevirtual 239, 3, 59, 0, 3, 5, 1, 0, 0) := cd_of gl_58 rfl
theorem cd_58_18 : sm_cd 58 18 = some (.aload_n 0, 1, 0, 0, 0, 0, 0, 0, 0) := cd_of gl_58 rfl
theorem cd_58_19 : sm_cd 58 19 = some (.iconst 0, 1, 0, 0, 0, 0, 0, 0, 0) := cd_of gl_58 rfl
theorem cd_58_20 : sm_cd 58 20 = some (.aload_n 0, 1, 0, 0, 0, 0, 0, 0, 0) := cd_of gl_58 rfl
theorem cd_58_21 : sm_cd 58 21 = some (.getfield 45, 3, 2, 8, 0, 0, 0, 0, 0) := cd_of gl_58 rfl
theorem cd_58_24 : sm_cd 58 24 = some (.iload_n 3, 1, 3, 0, 0, 0, 0, 0, 0) := cd_of gl_58 rfl
theorem cd_58_25 : sm_cd 58 25 = some (.isub, 1, 0, 0, 0, 0, 0, 0, 0) := cd_of gl_58 rfl
theorem cd_58_26 : sm_cd 58 26 = some (.invokestatic 243, 3, 0, 7, 0, 0, 0, 0, 0) := cd_of gl_58 rfl
theorem cd_58_29 : sm_cd 58 29 = some (.putfield 45, 3, 2, 8, 0, 0, 0, 0, 0) := cd_of gl_58 rfl
theorem cd_58_32 : sm_cd 58 32 = some (.iload 4, 2, 4, 0, 0, 0, 0, 0, 0) := cd_of gl_58 rfl
theorem cd_58_34 : sm_cd 58 34 = some (.iconst (-1), 1, 0, 0, 0, 0, 0, (-1), 0) := cd_of gl_58 rfl
theorem cd_58_35 : sm_cd 58 35 = some (.if_icmp .eq 64, 3, 99, 0, 0, 0, 0, 0, 0) := cd_of gl_58 rfl
theorem cd_58_38 : sm_cd 58 38 = some (.aload_n 0, 1, 0, 0, 0, 0, 0, 0, 0) := cd_of gl_58 rfl
theorem cd_58_39 : sm_cd 58 39 = some (.getfield 45, 3, 2, 8, 0, 0, 0, 0, 0) := cd_of gl_58 rfl
theorem cd_58_42 : sm_cd 58 42 = some (.sipush 128, 3, 0, 0, 0, 0, 0, 128, 0) := cd_of gl_58 rfl
theorem cd_58_45 : sm_cd 58 45 = some (.if_icmp .ge 54, 3, 99, 0, 0, 0, 0, 0, 0) := cd_of gl_58 rfl
theorem cd_58_48 : sm_cd 58 48 = some (.aload_n 0, 1, 0, 0, 0, 0, 0, 0, 0) := cd_of gl_58 rfl
theorem cd_58_49 : sm_cd 58 49 = some (.getfield 48, 3, 2, 9, 2, 0, 0, 0, 0) := cd_of gl_58 rfl
theorem cd_58_52 : sm_cd 58 52 = some (.aload_n 0, 1, 0, 0, 0, 0, 0, 0, 0) := cd_of gl_58 rfl
theorem cd_58_53 : sm_cd 58 53 = some (.getfield 45, 3, 2, 8, 0, 0, 0, 0, 0) := cd_of gl_58 rfl
theorem cd_58_56 : sm_cd 58 56 = some (.iload 4, 2, 4, 0, 0, 0, 0, 0, 0) := cd_of gl_58 rfl
theorem cd_58_58 : sm_cd 58 58 = some (.iastore, 1, 0, 0, 0, 0, 0, 0, 0) := cd_of gl_58 rfl
theorem cd_58_59 : sm_cd 58 59 = some (.aload_n 0, 1, 0, 0, 0, 0, 0, 0, 0) := cd_of gl_58 rfl
theorem cd_58_60 : sm_cd 58 60 = some (.getfield 51, 3, 2, 10, 2, 0, 0, 0, 0) := cd_of gl_58 rfl
theorem cd_58_63 : sm_cd 58 63 = some (.aload_n 0, 1, 0, 0, 0, 0, 0, 0, 0) := cd_of gl_58 rfl
theorem cd_58_64 : sm_cd 58 64 = some (.getfield 45, 3, 2, 8, 0, 0, 0, 0, 0) := cd_of gl_58 rfl
theorem cd_58_67 : sm_cd 58 67 = some (.iconst 1, 1, 0, 0, 0, 0, 0, 1, 0) := cd_of gl_58 rfl
theorem cd_58_68 : sm_cd 58 68 = some (.iadd, 1, 0, 0, 0, 0, 0, 0, 0) := cd_of gl_58 rfl
theorem cd_58_69 : sm_cd 58 69 = some (.aload_n 0, 1, 0, 0, 0, 0, 0, 0, 0) := cd_of gl_58 rfl
theorem cd_58_70 : sm_cd 58 70 = some (.getfield 51, 3, 2, 10, 2, 0, 0, 0, 0) := cd_of gl_58 rfl
theorem cd_58_73 : sm_cd 58 73 = some (.aload_n 0, 1, 0, 0, 0, 0, 0, 0, 0) := cd_of gl_58 rfl
theorem cd_58_74 : sm_cd 58 74 = some (.getfield 45, 3, 2, 8, 0, 0, 0, 0, 0) := cd_of gl_58 rfl
theorem cd_58_77 : sm_cd 58 77 = some (.laload, 1, 0, 0, 0, 0, 0, 0, 0) := cd_of gl_58 rfl
theorem cd_58_78 : sm_cd 58 78 = some (.ldc2_w 246, 3, 0, 0, 0, 0, 0, 0, 5) := cd_of gl_58 rfl
theorem cd_58_81 : sm_cd 58 81 = some (.lmul, 1, 0, 0, 0, 0, 0, 0, 0) := cd_of gl_58 rfl
theorem cd_58_82 : sm_cd 58 82 = some (.iload 4, 2, 4, 0, 0, 0, 0, 0, 0) := cd_of gl_58 rfl
theorem cd_58_84 : sm_cd 58 84 = some (.i2l, 1, 0, 0, 0, 0, 0, 0, 0) := cd_of gl_58 rfl
theorem cd_58_85 : sm_cd 58 85 = some (.ladd, 1, 0, 0, 0, 0, 0, 0, 0) := cd_of gl_58 rfl
theorem cd_58_86 : sm_cd 58 86 = some (.lconst 1, 1, 0, 0, 0, 0, 0, 0, 1) := cd_of gl_58 rfl
theorem cd_58_87 : sm_cd 58 87 = some (.ladd, 1, 0, 0, 0, 0, 0, 0, 0) := cd_of gl_58 rfl
theorem cd_58_88 : sm_cd 58 88 = some (.lastore, 1, 0, 0, 0, 0, 0, 0, 0) := cd_of gl_58 rfl
theorem cd_58_89 : sm_cd 58 89 = some (.aload_n 0, 1, 0, 0, 0, 0, 0, 0, 0) := cd_of gl_58 rfl
theorem cd_58_90 : sm_cd 58 90 = some (.dup, 1, 0, 0, 0, 0, 0, 0, 0) := cd_of gl_58 rfl
theorem cd_58_91 : sm_cd 58 91 = some (.getfield 45, 3, 2, 8, 0, 0, 0, 0, 0) := cd_of gl_58 rfl
theorem cd_58_94 : sm_cd 58 94 = some (.iconst 1, 1, 0, 0, 0, 0, 0, 1, 0) := cd_of gl_58 rfl
theorem cd_58_95 : sm_cd 58 95 = some (.iadd, 1, 0, 0, 0, 0, 0, 0, 0) := cd_of gl_58 rfl
theorem cd_58_96 : sm_cd 58 96 = some (.putfield 45, 3, 2, 8, 0, 0, 0, 0, 0) := cd_of gl_58 rfl
theorem cd_58_99 : sm_cd 58 99 = some (.return_, 1, 0, 0, 0, 0, 0, 0, 0) := cd_of gl_58 rfl
noncomputable def f_58 (K : Nat → Value) (k d : Nat) (l0 : Nat) (l1 : Int32) (l2 : Int32) (l3 : Int32) (l4 : Int32) (w : aW) (I : aI) (J : aJ) : Option aR :=
  gO w 2 l0 (
  gV w l0 1 fun q_1 =>
  gO w 2 l0 (
  gV w l0 10 fun q_2 =>
  gO w 2 l0 (
  gA w 11 11 q_2 (I l0 8) (
  gO w 1 q_1 (
  cV (Cl K d 59 [.ref q_1, .int l1, .int l2, .long (J q_2 (I l0 8 : Int32).toNatClampNeg)] w I J) fun w_3 I_4 J_5 =>
  gO w_3 2 l0 (
  gO w_3 2 l0 (
  lt_ (sm_up2 I_4 l0 8 ((if (0 : Int32) < ((I_4 l0 8) - l3 : Int32) then ((I_4 l0 8) - l3 : Int32) else (0 : Int32)))) fun I_6 =>
  if l4 = (-1) then
    some (none, w_3, I_6, J_5)
  else
    gO w_3 2 l0 (
    if 128 ≤ (I_6 l0 8) then
      some (none, w_3, I_6, J_5)
    else
      gO w_3 2 l0 (
      gV w_3 l0 9 fun q_7 =>
      gO w_3 2 l0 (
      gA w_3 10 10 q_7 (I_6 l0 8) (
      lt_ (sm_up2 I_6 q_7 (I_6 l0 8 : Int32).toNatClampNeg l4) fun I_8 =>
      gO w_3 2 l0 (
      gV w_3 l0 10 fun q_9 =>
      gO w_3 2 l0 (
      gO w_3 2 l0 (
      gV w_3 l0 10 fun q_10 =>
      gO w_3 2 l0 (
      gA w_3 11 11 q_10 (I_8 l0 8) (
      gA w_3 11 11 q_9 ((I_8 l0 8) + 1) (
      lt_ (sm_up2 J_5 q_9 ((I_8 l0 8) + 1 : Int32).toNatClampNeg ((((J_5 q_10 (I_8 l0 8 : Int32).toNatClampNeg) * 5) + ((l4 : Int32).toInt64)) + 1)) fun J_11 =>
      gO w_3 2 l0 (
      gO w_3 2 l0 (
      lt_ (sm_up2 I_8 l0 8 ((I_8 l0 8) + 1)) fun I_12 =>
      some (none, w_3, I_12, J_11))))))))))))))))))))
theorem ok_58 {K : Nat → Value} {k d : Nat} {l0 : Nat} {l1 : Int32} {l2 : Int32} {l3 : Int32} {l4 : Int32} {w : aW} {I : aI} {J : aJ} {R : aR} (h : f_58 K k d l0 l1 l2 l3 l4 w I J = some R) : Go K (d + 1) 58 0 [some (.ref l0), some (.int l1), some (.int l2), some (.int l3), some (.int l4)] [] w I J R := by
  unfold f_58 at h
  refine gs_0 (pc' := 1) (L' := [some (.ref l0), some (.int l1), some (.int l2), some (.int l3), some (.int l4)]) (st' := [.ref l0]) cd_58_0 rfl rfl ?_
  obtain ⟨ht, h⟩ := gO_s h
  obtain ⟨q_1, hv, h⟩ := gV_s h
  refine gs_gfR cd_58_1 (by decide) ht hv ?_
  refine gs_0 (pc' := 5) (L' := [some (.ref l0), some (.int l1), some (.int l2), some (.int l3), some (.int l4)]) (st' := [.int l1, .ref q_1]) cd_58_4 rfl rfl ?_
  refine gs_0 (pc' := 6) (L' := [some (.ref l0), some (.int l1), some (.int l2), some (.int l3), some (.int l4)]) (st' := [.int l2, .int l1, .ref q_1]) cd_58_5 rfl rfl ?_
  refine gs_0 (pc' := 7) (L' := [some (.ref l0), some (.int l1), some (.int l2), some (.int l3), some (.int l4)]) (st' := [.ref l0, .int l2, .int l1, .ref q_1]) cd_58_6 rfl rfl ?_
  obtain ⟨ht, h⟩ := gO_s h
  obtain ⟨q_2, hv, h⟩ := gV_s h
  refine gs_gfR cd_58_7 (by decide) ht hv ?_
  refine gs_0 (pc' := 11) (L' := [some (.ref l0), some (.int l1), some (.int l2), some (.int l3), some (.int l4)]) (st' := [.ref l0, .ref q_2, .int l2, .int l1, .ref q_1]) cd_58_10 rfl rfl ?_
  obtain ⟨ht, h⟩ := gO_s h
  refine gs_gfI cd_58_11 (by decide) (by decide) ht ?_
  obtain ⟨ht, h⟩ := gA_s h
  refine gs_lald cd_58_14 ht ?_
  obtain ⟨ht, h⟩ := gO_s h
  obtain ⟨w_3, I_4, J_5, hcl, h⟩ := cV_s h
  refine gs_call (as := [.ref q_1, .int l1, .int l2, .long (J q_2 (I l0 8 : Int32).toNatClampNeg)]) (rest := []) cd_58_15 rfl (by decide) rfl (sm_rv_ok (by decide) ht) (Nat.le_of_ble_eq_true rfl) (Nat.le_of_ble_eq_true rfl) rfl hcl ?_
  refine gs_0 (pc' := 19) (L' := [some (.ref l0), some (.int l1), some (.int l2), some (.int l3), some (.int l4)]) (st' := [.ref l0]) cd_58_18 rfl rfl ?_
  refine gs_0 (pc' := 20) (L' := [some (.ref l0), some (.int l1), some (.int l2), some (.int l3), some (.int l4)]) (st' := [.int 0, .ref l0]) cd_58_19 rfl rfl ?_
  refine gs_0 (pc' := 21) (L' := [some (.ref l0), some (.int l1), some (.int l2), some (.int l3), some (.int l4)]) (st' := [.ref l0, .int 0, .ref l0]) cd_58_20 rfl rfl ?_
  obtain ⟨ht, h⟩ := gO_s h
  refine gs_gfI cd_58_21 (by decide) (by decide) ht ?_
  refine gs_0 (pc' := 25) (L' := [some (.ref l0), some (.int l1), some (.int l2), some (.int l3), some (.int l4)]) (st' := [.int l3, .int (I_4 l0 8), .int 0, .ref l0]) cd_58_24 rfl rfl ?_
  refine gs_0 (pc' := 26) (L' := [some (.ref l0), some (.int l1), some (.int l2), some (.int l3), some (.int l4)]) (st' := [.int ((I_4 l0 8) - l3), .int 0, .ref l0]) cd_58_25 rfl rfl ?_
  refine gsp (pc' := 29) (L' := [some (.ref l0), some (.int l1), some (.int l2), some (.int l3), some (.int l4)]) (st' := [.int ((if (0 : Int32) < ((I_4 l0 8) - l3 : Int32) then ((I_4 l0 8) - l3 : Int32) else (0 : Int32))), .ref l0]) cd_58_26 rfl (by decide) rfl ?_
  obtain ⟨ht, h⟩ := gO_s h
  refine gs_pfI cd_58_29 (by decide) (Or.inl rfl) ht ?_
  obtain ⟨I_6, hx, h⟩ := lt_s_ h
  rw [hx]
  refine gs_0 (pc' := 34) (L' := [some (.ref l0), some (.int l1), some (.int l2), some (.int l3), some (.int l4)]) (st' := [.int l4]) cd_58_32 rfl rfl ?_
  refine gs_0 (pc' := 35) (L' := [some (.ref l0), some (.int l1), some (.int l2), some (.int l3), some (.int l4)]) (st' := [.int ((-1)), .int l4]) cd_58_34 rfl rfl ?_
  refine gs_0 (pc' := if l4 = (-1) then 99 else 38) (L' := [some (.ref l0), some (.int l1), some (.int l2), some (.int l3), some (.int l4)]) (st' := []) cd_58_35 rfl rfl ?_
  refine go_ite (fun hc => ?_) (fun hc => ?_)
  · rw [if_pos hc] at h
    cases h
    exact gsr cd_58_99 rfl rfl
  · rw [if_neg hc] at h
    refine gs_0 (pc' := 39) (L' := [some (.ref l0), some (.int l1), some (.int l2), some (.int l3), some (.int l4)]) (st' := [.ref l0]) cd_58_38 rfl rfl ?_
    obtain ⟨ht, h⟩ := gO_s h
    refine gs_gfI cd_58_39 (by decide) (by decide) ht ?_
    refine gs_0 (pc' := 45) (L' := [some (.ref l0), some (.int l1), some (.int l2), some (.int l3), some (.int l4)]) (st' := [.int 128, .int (I_6 l0 8)]) cd_58_42 rfl rfl ?_
    refine gs_0 (pc' := if 128 ≤ (I_6 l0 8) then 99 else 48) (L' := [some (.ref l0), some (.int l1), some (.int l2), some (.int l3), some (.int l4)]) (st' := []) cd_58_45 rfl rfl ?_
    refine go_ite (fun hc => ?_) (fun hc => ?_)
    · rw [if_pos hc] at h
      cases h
      exact gsr cd_58_99 rfl rfl
    · rw [if_neg hc] at h
      refine gs_0 (pc' := 49) (L' := [some (.ref l0), some (.int l1), some (.int l2), some (.int l3), some (.int l4)]) (st' := [.ref l0]) cd_58_48 rfl rfl ?_
      obtain ⟨ht, h⟩ := gO_s h
      obtain ⟨q_7, hv, h⟩ := gV_s h
      refine gs_gfR cd_58_49 (by decide) ht hv ?_
      refine gs_0 (pc' := 53) (L' := [some (.ref l0), some (.int l1), some (.int l2), some (.int l3), some (.int l4)]) (st' := [.ref l0, .ref q_7]) cd_58_52 rfl rfl ?_
      obtain ⟨ht, h⟩ := gO_s h
      refine gs_gfI cd_58_53 (by decide) (by decide) ht ?_
      refine gs_0 (pc' := 58) (L' := [some (.ref l0), some (.int l1), some (.int l2), some (.int l3), some (.int l4)]) (st' := [.int l4, .int (I_6 l0 8), .ref q_7]) cd_58_56 rfl rfl ?_
      obtain ⟨ht, h⟩ := gA_s h
      refine gs_iast cd_58_58 ht ?_
      obtain ⟨I_8, hx, h⟩ := lt_s_ h
      rw [hx]
      refine gs_0 (pc' := 60) (L' := [some (.ref l0), some (.int l1), some (.int l2), some (.int l3), some (.int l4)]) (st' := [.ref l0]) cd_58_59 rfl rfl ?_
      obtain ⟨ht, h⟩ := gO_s h
      obtain ⟨q_9, hv, h⟩ := gV_s h
      refine gs_gfR cd_58_60 (by decide) ht hv ?_
      refine gs_0 (pc' := 64) (L' := [some (.ref l0), some (.int l1), some (.int l2), some (.int l3), some (.int l4)]) (st' := [.ref l0, .ref q_9]) cd_58_63 rfl rfl ?_
      obtain ⟨ht, h⟩ := gO_s h
      refine gs_gfI cd_58_64 (by decide) (by decide) ht ?_
      refine gs_0 (pc' := 68) (L' := [some (.ref l0), some (.int l1), some (.int l2), some (.int l3), some (.int l4)]) (st' := [.int 1, .int (I_8 l0 8), .ref q_9]) cd_58_67 rfl rfl ?_
      refine gs_0 (pc' := 69) (L' := [some (.ref l0), some (.int l1), some (.int l2), some (.int l3), some (.int l4)]) (st' := [.int ((I_8 l0 8) + 1), .ref q_9]) cd_58_68 rfl rfl ?_
      refine gs_0 (pc' := 70) (L' := [some (.ref l0), some (.int l1), some (.int l2), some (.int l3), some (.int l4)]) (st' := [.ref l0, .int ((I_8 l0 8) + 1), .ref q_9]) cd_58_69 rfl rfl ?_
      obtain ⟨ht, h⟩ := gO_s h
      obtain ⟨q_10, hv, h⟩ := gV_s h
      refine gs_gfR cd_58_70 (by decide) ht hv ?_
      refine gs_0 (pc' := 74) (L' := [some (.ref l0), some (.int l1), some (.int l2), some (.int l3), some (.int l4)]) (st' := [.ref l0, .ref q_10, .int ((I_8 l0 8) + 1), .ref q_9]) cd_58_73 rfl rfl ?_
      obtain ⟨ht, h⟩ := gO_s h
      refine gs_gfI cd_58_74 (by decide) (by decide) ht ?_
      obtain ⟨ht, h⟩ := gA_s h
      refine gs_lald cd_58_77 ht ?_
      refine gs_0 (pc' := 81) (L' := [some (.ref l0), some (.int l1), some (.int l2), some (.int l3), some (.int l4)]) (st' := [.long 5, .long (J_5 q_10 (I_8 l0 8 : Int32).toNatClampNeg), .int ((I_8 l0 8) + 1), .ref q_9]) cd_58_78 rfl rfl ?_
      refine gs_0 (pc' := 82) (L' := [some (.ref l0), some (.int l1), some (.int l2), some (.int l3), some (.int l4)]) (st' := [.long ((J_5 q_10 (I_8 l0 8 : Int32).toNatClampNeg) * 5), .int ((I_8 l0 8) + 1), .ref q_9]) cd_58_81 rfl rfl ?_
      refine gs_0 (pc' := 84) (L' := [some (.ref l0), some (.int l1), some (.int l2), some (.int l3), some (.int l4)]) (st' := [.int l4, .long ((J_5 q_10 (I_8 l0 8 : Int32).toNatClampNeg) * 5), .int ((I_8 l0 8) + 1), .ref q_9]) cd_58_82 rfl rfl ?_
      refine gs_0 (pc' := 85) (L' := [some (.ref l0), some (.int l1), some (.int l2), some (.int l3), some (.int l4)]) (st' := [.long ((l4 : Int32).toInt64), .long ((J_5 q_10 (I_8 l0 8 : Int32).toNatClampNeg) * 5), .int ((I_8 l0 8) + 1), .ref q_9]) cd_58_84 rfl rfl ?_
      refine gs_0 (pc' := 86) (L' := [some (.ref l0), some (.int l1), some (.int l2), some (.int l3), some (.int l4)]) (st' := [.long (((J_5 q_10 (I_8 l0 8 : Int32).toNatClampNeg) * 5) + ((l4 : Int32).toInt64)), .int ((I_8 l0 8) + 1), .ref q_9]) cd_58_85 rfl rfl ?_
      refine gs_0 (pc' := 87) (L' := [some (.ref l0), some (.int l1), some (.int l2), some (.int l3), some (.int l4)]) (st' := [.long 1, .long (((J_5 q_10 (I_8 l0 8 : Int32).toNatClampNeg) * 5) + ((l4 : Int32).toInt64)), .int ((I_8 l0 8) + 1), .ref q_9]) cd_58_86 rfl rfl ?_
      refine gs_0 (pc' := 88) (L' := [some (.ref l0), some (.int l1), some (.int l2), some (.int l3), some (.int l4)]) (st' := [.long ((((J_5 q_10 (I_8 l0 8 : Int32).toNatClampNeg) * 5) + ((l4 : Int32).toInt64)) + 1), .int ((I_8 l0 8) + 1), .ref q_9]) cd_58_87 rfl rfl ?_
      obtain ⟨ht, h⟩ := gA_s h
      refine gs_last cd_58_88 ht ?_
      obtain ⟨J_11, hx, h⟩ := lt_s_ h
      rw [hx]
      refine gs_0 (pc' := 90) (L' := [some (.ref l0), some (.int l1), some (.int l2), some (.int l3), some (.int l4)]) (st' := [.ref l0]) cd_58_89 rfl rfl ?_
      refine gs_0 (pc' := 91) (L' := [some (.ref l0), some (.int l1), some (.int l2), some (.int l3), some (.int l4)]) (st' := [.ref l0, .ref l0]) cd_58_90 rfl rfl ?_
      obtain ⟨ht, h⟩ := gO_s h
      refine gs_gfI cd_58_91 (by decide) (by decide) ht ?_
      refine gs_0 (pc' := 95) (L' := [some (.ref l0), some (.int l1), some (.int l2), some (.int l3), some (.int l4)]) (st' := [.int 1, .int (I_8 l0 8), .ref l0]) cd_58_94 rfl rfl ?_
      refine gs_0 (pc' := 96) (L' := [some (.ref l0), some (.int l1), some (.int l2), some (.int l3), some (.int l4)]) (st' := [.int ((I_8 l0 8) + 1), .ref l0]) cd_58_95 rfl rfl ?_
      obtain ⟨ht, h⟩ := gO_s h
      refine gs_pfI cd_58_96 (by decide) (Or.inl rfl) ht ?_
      obtain ⟨I_12, hx, h⟩ := lt_s_ h
      rw [hx]
      cases h
      exact gsr cd_58_99 rfl rfl
theorem cl_58 {K : Nat → Value} {k d : Nat} {l0 : Nat} {l1 : Int32} {l2 : Int32} {l3 : Int32} {l4 : Int32} {w : aW} {I : aI} {J : aJ} {R : aR} (h : f_58 K k d l0 l1 l2 l3 l4 w I J = some R) : Cl K (d + 1) 58 [.ref l0, .int l1, .int l2, .int l3, .int l4] w I J = some R := Cl_of (ok_58 h)
/-! ProvedMachine$Program.add(IIJ)V -/
theorem gl_59 : gcd.lookup 59 = some gw_59 := rfl
theorem cd_59_0 : sm_cd 59 0 = some (.aload_n 0, 1, 0, 0, 0, 0, 0, 0, 0) := cd_of gl_59 rfl
theorem cd_59_1 : sm_cd 59 1 = some (.getfield 32, 3, 1, 6, 0, 0, 0, 0, 0) := cd_of gl_59 rfl
theorem cd_59_4 : sm_cd 59 4 = some (.sipush 200, 3, 0, 0, 0, 0, 0, 200, 0) := cd_of gl_59 rfl
theorem cd_59_7 : sm_cd 59 7 = some (.if_icmp .ge 33, 3, 40, 0, 0, 0, 0, 0, 0) := cd_of gl_59 rfl
theorem cd_59_10 : sm_cd 59 10 = some (.aload_n 0, 1, 0, 0, 0, 0, 0, 0, 0) := cd_of gl_59 rfl
theorem cd_59_11 : sm_cd 59 11 = some (.getfield 11, 3, 1, 0, 2, 0, 0, 0, 0) := cd_of gl_59 rfl
theorem cd_59_14 : sm_cd 59 14 = some (.aload_n 0, 1, 0, 0, 0, 0, 0, 0, 0) := cd_of gl_59 rfl
theorem cd_59_15 : sm_cd 59 15 = some (.getfield 32, 3, 1, 6, 0, 0, 0, 0, 0) := cd_of gl_59 rfl
theorem cd_59_18 : sm_cd 59 18 = some (.iload_n 1, 1, 1, 0, 0, 0, 0, 0, 0) := cd_of gl_59 rfl
theorem cd_59_19 : sm_cd 59 19 = some (.iastore, 1, 0, 0, 0, 0, 0, 0, 0) := cd_of gl_59 rfl
theorem cd_59_20 : sm_cd 59 20 = some (.aload_n 0, 1, 0, 0, 0, 0, 0, 0, 0) := cd_of gl_59 rfl
theorem cd_59_21 : sm_cd 59 21 = some (.getfield 15, 3, 1, 1, 2, 0, 0, 0, 0) := cd_of gl_59 rfl
theorem cd_59_24 : sm_cd 59 24 = some (.aload_n 0, 1, 0, 0, 0, 0, 0, 0, 0) := cd_of gl_59 rfl
theorem cd_59_25 : sm_cd 59 25 = some (.getfield 32, 3, 1, 6, 0, 0, 0, 0, 0) := cd_of gl_59 rfl
theorem cd_59_28 : sm_cd 59 28 = some (.iload_n 2, 1, 2, 0, 0, 0, 0, 0, 0) := cd_of gl_59 rfl
theorem cd_59_29 : sm_cd 59 29 = some (.iastore, 1, 0, 0, 0, 0, 0, 0, 0) := cd_of gl_59 rfl
theorem cd_59_30 : sm_cd 59 30 = some (.aload_n 0, 1, 0, 0, 0, 0, 0, 0, 0) := cd_of gl_59 rfl
theorem cd_59_31 : sm_cd 59 31 = some (.getfield 18, 3, 1, 2, 2, 0, 0, 0, 0) := cd_of gl_59 rfl
theorem cd_59_34 : sm_cd 59 34 = some (.aload_n 0, 1, 0, 0, 0, 0, 0, 0, 0) := cd_of gl_59 rfl
theorem cd_59_35 : sm_cd 59 35 = some (.getfield 32, 3, 1, 6, 0, 0, 0, 0, 0) := cd_of gl_59 rfl
theorem cd_59_38 : sm_cd 59 38 = some (.lload_n 3, 1, 3, 0, 0, 0, 0, 0, 0) := cd_of gl_59 rfl
theorem cd_59_39 : sm_cd 59 39 = some (.lastore, 1, 0, 0, 0, 0, 0, 0, 0) := cd_of gl_59 rfl
theorem cd_59_40 : sm_cd 59 40 = some (.aload_n 0, 1, 0, 0, 0, 0, 0, 0, 0) := cd_of gl_59 rfl
theorem cd_59_41 : sm_cd 59 41 = some (.dup, 1, 0, 0, 0, 0, 0, 0, 0) := cd_of gl_59 rfl
theorem cd_59_42 : sm_cd 59 42 = some (.getfield 32, 3, 1, 6, 0, 0, 0, 0, 0) := cd_of gl_59 rfl
theorem cd_59_45 : sm_cd 59 45 = some (.iconst 1, 1, 0, 0, 0, 0, 0, 1, 0) := cd_of gl_59 rfl
theorem cd_59_46 : sm_cd 59 46 = some (.iadd, 1, 0, 0, 0, 0, 0, 0, 0) := cd_of gl_59 rfl
theorem cd_59_47 : sm_cd 59 47 = some (.putfield 32, 3, 1, 6, 0, 0, 0, 0, 0) := cd_of gl_59 rfl
theorem cd_59_50 : sm_cd 59 50 = some (.return_, 1, 0, 0, 0, 0, 0, 0, 0) := cd_of gl_59 rfl
noncomputable def f_59_40 (K : Nat → Value) (k d : Nat) (l0 : Nat) (l1 : Int32) (l2 : Int32) (l3 : Int64) (w : aW) (I : aI) (J : aJ) : Option aR :=
  gO w 1 l0 (
  gO w 1 l0 (
  lt_ (sm_up2 I l0 6 ((I l0 6) + 1)) fun I_1 =>
  some (none, w, I_1, J)))
theorem ok_59_40 {K : Nat → Value} {k d : Nat} {l0 : Nat} {l1 : Int32} {l2 : Int32} {l3 : Int64} {w : aW} {I : aI} {J : aJ} {R : aR} (h : f_59_40 K k d l0 l1 l2 l3 w I J = some R) : Go K (d + 1) 59 40 [some (.ref l0), some (.int l1), some (.int l2), some (.long l3), none] [] w I J R := by
  unfold f_59_40 at h
  refine gs_0 (pc' := 41) (L' := [some (.ref l0), some (.int l1), some (.int l2), some (.long l3), none]) (st' := [.ref l0]) cd_59_40 rfl rfl ?_
  refine gs_0 (pc' := 42) (L' := [some (.ref l0), some (.int l1), some (.int l2), some (.long l3), none]) (st' := [.ref l0, .ref l0]) cd_59_41 rfl rfl ?_
  obtain ⟨ht, h⟩ := gO_s h
  refine gs_gfI cd_59_42 (by decide) (by decide) ht ?_
  refine gs_0 (pc' := 46) (L' := [some (.ref l0), some (.int l1), some (.int l2), some (.long l3), none]) (st' := [.int 1, .int (I l0 6), .ref l0]) cd_59_45 rfl rfl ?_
  refine gs_0 (pc' := 47) (L' := [some (.ref l0), some (.int l1), some (.int l2), some (.long l3), none]) (st' := [.int ((I l0 6) + 1), .ref l0]) cd_59_46 rfl rfl ?_
  obtain ⟨ht, h⟩ := gO_s h
  refine gs_pfI cd_59_47 (by decide) (Or.inl rfl) ht ?_
  obtain ⟨I_1, hx, h⟩ := lt_s_ h
  rw [hx]
  cases h
  exact gsr cd_59_50 rfl rfl
noncomputable def f_59 (K : Nat → Value) (k d : Nat) (l0 : Nat) (l1 : Int32) (l2 : Int32) (l3 : Int64) (w : aW) (I : aI) (J : aJ) : Option aR :=
  gO w 1 l0 (
  if 200 ≤ (I l0 6) then
    f_59_40 K k d l0 l1 l2 l3 w I J
  else
    gO w 1 l0 (
    gV w l0 0 fun q_1 =>
    gO w 1 l0 (
    gA w 10 10 q_1 (I l0 6) (
    lt_ (sm_up2 I q_1 (I l0 6 : Int32).toNatClampNeg l1) fun I_2 =>
    gO w 1 l0 (
    gV w l0 1 fun q_3 =>
    gO w 1 l0 (
    gA w 10 10 q_3 (I_2 l0 6) (
    lt_ (sm_up2 I_2 q_3 (I_2 l0 6 : Int32).toNatClampNeg l2) fun I_4 =>
    gO w 1 l0 (
    gV w l0 2 fun q_5 =>
    gO w 1 l0 (
    gA w 11 11 q_5 (I_4 l0 6) (
    lt_ (sm_up2 J q_5 (I_4 l0 6 : Int32).toNatClampNeg l3) fun J_6 =>
    f_59_40 K k d l0 l1 l2 l3 w I_4 J_6))))))))))
theorem ok_59 {K : Nat → Value} {k d : Nat} {l0 : Nat} {l1 : Int32} {l2 : Int32} {l3 : Int64} {w : aW} {I : aI} {J : aJ} {R : aR} (h : f_59 K k d l0 l1 l2 l3 w I J = some R) : Go K (d + 1) 59 0 [some (.ref l0), some (.int l1), some (.int l2), some (.long l3), none] [] w I J R := by
  unfold f_59 at h
  refine gs_0 (pc' := 1) (L' := [some (.ref l0), some (.int l1), some (.int l2), some (.long l3), none]) (st' := [.ref l0]) cd_59_0 rfl rfl ?_
  obtain ⟨ht, h⟩ := gO_s h
  refine gs_gfI cd_59_1 (by decide) (by decide) ht ?_
  refine gs_0 (pc' := 7) (L' := [some (.ref l0), some (.int l1), some (.int l2), some (.long l3), none]) (st' := [.int 200, .int (I l0 6)]) cd_59_4 rfl rfl ?_
  refine gs_0 (pc' := if 200 ≤ (I l0 6) then 40 else 10) (L' := [some (.ref l0), some (.int l1), some (.int l2), some (.long l3), none]) (st' := []) cd_59_7 rfl rfl ?_
  refine go_ite (fun hc => ?_) (fun hc => ?_)
  · rw [if_pos hc] at h
    exact ok_59_40 h
  · rw [if_neg hc] at h
    refine gs_0 (pc' := 11) (L' := [some (.ref l0), some (.int l1), some (.int l2), some (.long l3), none]) (st' := [.ref l0]) cd_59_10 rfl rfl ?_
    obtain ⟨ht, h⟩ := gO_s h
    obtain ⟨q_1, hv, h⟩ := gV_s h
    refine gs_gfR cd_59_11 (by decide) ht hv ?_
    refine gs_0 (pc' := 15) (L' := [some (.ref l0), some (.int l1), some (.int l2), some (.long l3), none]) (st' := [.ref l0, .ref q_1]) cd_59_14 rfl rfl ?_
    obtain ⟨ht, h⟩ := gO_s h
    refine gs_gfI cd_59_15 (by decide) (by decide) ht ?_
    refine gs_0 (pc' := 19) (L' := [some (.ref l0), some (.int l1), some (.int l2), some (.long l3), none]) (st' := [.int l1, .int (I l0 6), .ref q_1]) cd_59_18 rfl rfl ?_
    obtain ⟨ht, h⟩ := gA_s h
    refine gs_iast cd_59_19 ht ?_
    obtain ⟨I_2, hx, h⟩ := lt_s_ h
    rw [hx]
    refine gs_0 (pc' := 21) (L' := [some (.ref l0), some (.int l1), some (.int l2), some (.long l3), none]) (st' := [.ref l0]) cd_59_20 rfl rfl ?_
    obtain ⟨ht, h⟩ := gO_s h
    obtain ⟨q_3, hv, h⟩ := gV_s h
    refine gs_gfR cd_59_21 (by decide) ht hv ?_
    refine gs_0 (pc' := 25) (L' := [some (.ref l0), some (.int l1), some (.int l2), some (.long l3), none]) (st' := [.ref l0, .ref q_3]) cd_59_24 rfl rfl ?_
    obtain ⟨ht, h⟩ := gO_s h
    refine gs_gfI cd_59_25 (by decide) (by decide) ht ?_
    refine gs_0 (pc' := 29) (L' := [some (.ref l0), some (.int l1), some (.int l2), some (.long l3), none]) (st' := [.int l2, .int (I_2 l0 6), .ref q_3]) cd_59_28 rfl rfl ?_
    obtain ⟨ht, h⟩ := gA_s h
    refine gs_iast cd_59_29 ht ?_
    obtain ⟨I_4, hx, h⟩ := lt_s_ h
    rw [hx]
    refine gs_0 (pc' := 31) (L' := [some (.ref l0), some (.int l1), some (.int l2), some (.long l3), none]) (st' := [.ref l0]) cd_59_30 rfl rfl ?_
    obtain ⟨ht, h⟩ := gO_s h
    obtain ⟨q_5, hv, h⟩ := gV_s h
    refine gs_gfR cd_59_31 (by decide) ht hv ?_
    refine gs_0 (pc' := 35) (L' := [some (.ref l0), some (.int l1), some (.int l2), some (.long l3), none]) (st' := [.ref l0, .ref q_5]) cd_59_34 rfl rfl ?_
    obtain ⟨ht, h⟩ := gO_s h
    refine gs_gfI cd_59_35 (by decide) (by decide) ht ?_
    refine gs_0 (pc' := 39) (L' := [some (.ref l0), some (.int l1), some (.int l2), some (.long l3), none]) (st' := [.long l3, .int (I_4 l0 6), .ref q_5]) cd_59_38 rfl rfl ?_
    obtain ⟨ht, h⟩ := gA_s h
    refine gs_last cd_59_39 ht ?_
    obtain ⟨J_6, hx, h⟩ := lt_s_ h
    rw [hx]
    exact ok_59_40 h
theorem cl_59 {K : Nat → Value} {k d : Nat} {l0 : Nat} {l1 : Int32} {l2 : Int32} {l3 : Int64} {w : aW} {I : aI} {J : aJ} {R : aR} (h : f_59 K k d l0 l1 l2 l3 w I J = some R) : Cl K (d + 1) 59 [.ref l0, .int l1, .int l2, .long l3] w I J = some R := Cl_of (ok_59 h)
/-! ProvedMachine$Program.leadHere(I)V -/
theorem gl_60 : gcd.lookup 60 = some gw_60 := rfl
theorem cd_60_0 : sm_cd 60 0 = some (.aload_n 0, 1, 0, 0, 0, 0, 0, 0, 0) := cd_of gl_60 rfl
theorem cd_60_1 : sm_cd 60 1 = some (.iload_n 1, 1, 1, 0, 0, 0, 0, 0, 0) := cd_of gl_60 rfl
theorem cd_60_2 : sm_cd 60 2 = some (.invokevirtual 45, 3, 61, 0, 1, 2, 1, 0, 0) := cd_of gl_60 rfl
theorem cd_60_5 : sm_cd 60 5 = some (.ifCond .eq 13, 3, 18, 0, 0, 0, 0, 0, 0) := cd_of gl_60 rfl
theorem cd_60_8 : sm_cd 60 8 = some (.aload_n 0, 1, 0, 0, 0, 0, 0, 0, 0) := cd_of gl_60 rfl
theorem cd_60_9 : sm_cd 60 9 = some (.getfield 15, 3, 1, 1, 2, 0, 0, 0, 0) := cd_of gl_60 rfl
theorem cd_60_12 : sm_cd 60 12 = some (.iload_n 1, 1, 1, 0, 0, 0, 0, 0, 0) := cd_of gl_60 rfl
theorem cd_60_13 : sm_cd 60 13 = some (.aload_n 0, 1, 0, 0, 0, 0, 0, 0, 0) := cd_of gl_60 rfl
theorem cd_60_14 : sm_cd 60 14 = some (.getfield 32, 3, 1, 6, 0, 0, 0, 0, 0) := cd_of gl_60 rfl
theorem cd_60_17 : sm_cd 60 17 = some (.iastore, 1, 0, 0, 0, 0, 0, 0, 0) := cd_of gl_60 rfl
theorem cd_60_18 : sm_cd 60 18 = some (.return_, 1, 0, 0, 0, 0, 0, 0, 0) := cd_of gl_60 rfl
noncomputable def f_60 (K : Nat → Value) (k d : Nat) (l0 : Nat) (l1 : Int32) (w : aW) (I : aI) (J : aJ) : Option aR :=
  gO w 1 l0 (
  cI (Cl K d 61 [.ref l0, .int l1] w I J) fun x_4 w_1 I_2 J_3 =>
  if x_4 = 0 then
    some (none, w_1, I_2, J_3)
  else
    gO w_1 1 l0 (
    gV w_1 l0 1 fun q_5 =>
    gO w_1 1 l0 (
    gA w_1 10 10 q_5 l1 (
    lt_ (sm_up2 I_2 q_5 (l1 : Int32).toNatClampNeg (I_2 l0 6)) fun I_6 =>
    some (none, w_1, I_6, J_3)))))
theorem ok_60 {K : Nat → Value} {k d : Nat} {l0 : Nat} {l1 : Int32} {w : aW} {I : aI} {J : aJ} {R : aR} (h : f_60 K k d l0 l1 w I J = some R) : Go K (d + 1) 60 0 [some (.ref l0), some (.int l1)] [] w I J R := by
  unfold f_60 at h
  refine gs_0 (pc' := 1) (L' := [some (.ref l0), some (.int l1)]) (st' := [.ref l0]) cd_60_0 rfl rfl ?_
  refine gs_0 (pc' := 2) (L' := [some (.ref l0), some (.int l1)]) (st' := [.int l1, .ref l0]) cd_60_1 rfl rfl ?_
  obtain ⟨ht, h⟩ := gO_s h
  obtain ⟨x_4, w_1, I_2, J_3, hcl, h⟩ := cI_s h
  refine gs_call (as := [.ref l0, .int l1]) (rest := []) cd_60_2 rfl (by decide) rfl (sm_rv_ok (by decide) ht) (Nat.le_of_ble_eq_true rfl) (Nat.le_of_ble_eq_true rfl) rfl hcl ?_
  refine gs_0 (pc' := if x_4 = 0 then 18 else 8) (L' := [some (.ref l0), some (.int l1)]) (st' := []) cd_60_5 rfl rfl ?_
  refine go_ite (fun hc => ?_) (fun hc => ?_)
  · rw [if_pos hc] at h
    cases h
    exact gsr cd_60_18 rfl rfl
  · rw [if_neg hc] at h
    refine gs_0 (pc' := 9) (L' := [some (.ref l0), some (.int l1)]) (st' := [.ref l0]) cd_60_8 rfl rfl ?_
    obtain ⟨ht, h⟩ := gO_s h
    obtain ⟨q_5, hv, h⟩ := gV_s h
    refine gs_gfR cd_60_9 (by decide) ht hv ?_
    refine gs_0 (pc' := 13) (L' := [some (.ref l0), some (.int l1)]) (st' := [.int l1, .ref q_5]) cd_60_12 rfl rfl ?_
    refine gs_0 (pc' := 14) (L' := [some (.ref l0), some (.int l1)]) (st' := [.ref l0, .int l1, .ref q_5]) cd_60_13 rfl rfl ?_
    obtain ⟨ht, h⟩ := gO_s h
    refine gs_gfI cd_60_14 (by decide) (by decide) ht ?_
    obtain ⟨ht, h⟩ := gA_s h
    refine gs_iast cd_60_17 ht ?_
    obtain ⟨I_6, hx, h⟩ := lt_s_ h
    rw [hx]
    cases h
    exact gsr cd_60_18 rfl rfl
theorem cl_60 {K : Nat → Value} {k d : Nat} {l0 : Nat} {l1 : Int32} {w : aW} {I : aI} {J : aJ} {R : aR} (h : f_60 K k d l0 l1 w I J = some R) : Cl K (d + 1) 60 [.ref l0, .int l1] w I J = some R := Cl_of (ok_60 h)
/-! ProvedMachine$Program.has(I)Z -/
theorem gl_61 : gcd.lookup 61 = some gw_61 := rfl
theorem cd_61_0 : sm_cd 61 0 = some (.iload_n 1, 1, 1, 0, 0, 0, 0, 0, 0) := cd_of gl_61 rfl
theorem cd_61_1 : sm_cd 61 1 = some (.ifCond .lt 22, 3, 23, 0, 0, 0, 0, 0, 0) := cd_of gl_61 rfl
theorem cd_61_4 : sm_cd 61 4 = some (.iload_n 1, 1, 1, 0, 0, 0, 0, 0, 0) := cd_of gl_61 rfl
theorem cd_61_5 : sm_cd 61 5 = some (.aload_n 0, 1, 0, 0, 0, 0, 0, 0, 0) := cd_of gl_61 rfl
theorem cd_61_6 : sm_cd 61 6 = some (.getfield 32, 3, 1, 6, 0, 0, 0, 0, 0) := cd_of gl_61 rfl
theorem cd_61_9 : sm_cd 61 9 = some (.if_icmp .ge 14, 3, 23, 0, 0, 0, 0, 0, 0) := cd_of gl_61 rfl
theorem cd_61_12 : sm_cd 61 12 = some (.iload_n 1, 1, 1, 0, 0, 0, 0, 0, 0) := cd_of gl_61 rfl
theorem cd_61_13 : sm_cd 61 13 = some (.sipush 200, 3, 0, 0, 0, 0, 0, 200, 0) := cd_of gl_61 rfl
theorem cd_61_16 : sm_cd 61 16 = some (.if_icmp .ge 7, 3, 23, 0, 0, 0, 0, 0, 0) := cd_of gl_61 rfl
theorem cd_61_19 : sm_cd 61 19 = some (.iconst 1, 1, 0, 0, 0, 0, 0, 1, 0) := cd_of gl_61 rfl
theorem cd_61_20 : sm_cd 61 20 = some (.goto 4, 3, 24, 0, 0, 0, 0, 0, 0) := cd_of gl_61 rfl
theorem cd_61_23 : sm_cd 61 23 = some (.iconst 0, 1, 0, 0, 0, 0, 0, 0, 0) := cd_of gl_61 rfl
theorem cd_61_24 : sm_cd 61 24 = some (.ireturn, 1, 0, 0, 2, 0, 0, 0, 0) := cd_of gl_61 rfl
noncomputable def f_61 (K : Nat → Value) (k d : Nat) (l0 : Nat) (l1 : Int32) (w : aW) (I : aI) (J : aJ) : Option aR :=
  if l1 < 0 then
    some (some (.int 0), w, I, J)
  else
    gO w 1 l0 (
    if (I l0 6) ≤ l1 then
      some (some (.int 0), w, I, J)
    else
      if 200 ≤ l1 then
        some (some (.int 0), w, I, J)
      else
        some (some (.int 1), w, I, J))
theorem ok_61 {K : Nat → Value} {k d : Nat} {l0 : Nat} {l1 : Int32} {w : aW} {I : aI} {J : aJ} {R : aR} (h : f_61 K k d l0 l1 w I J = some R) : Go K (d + 1) 61 0 [some (.ref l0), some (.int l1)] [] w I J R := by
  unfold f_61 at h
  refine gs_0 (pc' := 1) (L' := [some (.ref l0), some (.int l1)]) (st' := [.int l1]) cd_61_0 rfl rfl ?_
  refine gs_0 (pc' := if l1 < 0 then 23 else 4) (L' := [some (.ref l0), some (.int l1)]) (st' := []) cd_61_1 rfl rfl ?_
  refine go_ite (fun hc => ?_) (fun hc => ?_)
  · rw [if_pos hc] at h
    refine gs_0 (pc' := 24) (L' := [some (.ref l0), some (.int l1)]) (st' := [.int 0]) cd_61_23 rfl rfl ?_
    cases h
    exact gs_ri cd_61_24 (Or.inr (Or.inl ⟨rfl, Or.inl rfl⟩))
  · rw [if_neg hc] at h
    refine gs_0 (pc' := 5) (L' := [some (.ref l0), some (.int l1)]) (st' := [.int l1]) cd_61_4 rfl rfl ?_
    refine gs_0 (pc' := 6) (L' := [some (.ref l0), some (.int l1)]) (st' := [.ref l0, .int l1]) cd_61_5 rfl rfl ?_
    obtain ⟨ht, h⟩ := gO_s h
    refine gs_gfI cd_61_6 (by decide) (by decide) ht ?_
    refine gs_0 (pc' := if (I l0 6) ≤ l1 then 23 else 12) (L' := [some (.ref l0), some (.int l1)]) (st' := []) cd_61_9 rfl rfl ?_
    refine go_ite (fun hc => ?_) (fun hc => ?_)
    · rw [if_pos hc] at h
      refine gs_0 (pc' := 24) (L' := [some (.ref l0), some (.int l1)]) (st' := [.int 0]) cd_61_23 rfl rfl ?_
      cases h
      exact gs_ri cd_61_24 (Or.inr (Or.inl ⟨rfl, Or.inl rfl⟩))
    · rw [if_neg hc] at h
      refine gs_0 (pc' := 13) (L' := [some (.ref l0), some (.int l1)]) (st' := [.int l1]) cd_61_12 rfl rfl ?_
      refine gs_0 (pc' := 16) (L' := [some (.ref l0), some (.int l1)]) (st' := [.int 200, .int l1]) cd_61_13 rfl rfl ?_
      refine gs_0 (pc' := if 200 ≤ l1 then 23 else 19) (L' := [some (.ref l0), some (.int l1)]) (st' := []) cd_61_16 rfl rfl ?_
      refine go_ite (fun hc => ?_) (fun hc => ?_)
      · rw [if_pos hc] at h
        refine gs_0 (pc' := 24) (L' := [some (.ref l0), some (.int l1)]) (st' := [.int 0]) cd_61_23 rfl rfl ?_
        cases h
        exact gs_ri cd_61_24 (Or.inr (Or.inl ⟨rfl, Or.inl rfl⟩))
      · rw [if_neg hc] at h
        refine gs_0 (pc' := 20) (L' := [some (.ref l0), some (.int l1)]) (st' := [.int 1]) cd_61_19 rfl rfl ?_
        refine gs_0 (pc' := 24) (L' := [some (.ref l0), some (.int l1)]) (st' := [.int 1]) cd_61_20 rfl rfl ?_
        cases h
        exact gs_ri cd_61_24 (Or.inr (Or.inl ⟨rfl, Or.inr rfl⟩))
theorem cl_61 {K : Nat → Value} {k d : Nat} {l0 : Nat} {l1 : Int32} {w : aW} {I : aI} {J : aJ} {R : aR} (h : f_61 K k d l0 l1 w I J = some R) : Cl K (d + 1) 61 [.ref l0, .int l1] w I J = some R := Cl_of (ok_61 h)
/-! ProvedMachine$Reader.readDeclaration()V -/
theorem gl_62 : gcd.lookup 62 = some gw_62 := rfl
theorem cd_62_0 : sm_cd 62 0 = some (.aload_n 0, 1, 0, 0, 0, 0, 0, 0, 0) := cd_of gl_62 rfl
theorem cd_62_1 : sm_cd 62 1 = some (.getfield 12, 3, 2, 0, 2, 0, 0, 0, 0) := cd_of gl_62 rfl
theorem cd_62_4 : sm_cd 62 4 = some (.invokevirtual 78, 3, 44, 0, 0, 1, 4, 0, 0) := cd_of gl_62 rfl
theorem cd_62_7 : sm_cd 62 7 = some (.istore_n 1, 1, 1, 0, 0, 0, 0, 0, 0) := cd_of gl_62 rfl
theorem cd_62_8 : sm_cd 62 8 = some (.aload_n 0, 1, 0, 0, 0, 0, 0, 0, 0) := cd_of gl_62 rfl
theorem cd_62_9 : sm_cd 62 9 = some (.getfield 12, 3, 2, 0, 2, 0, 0, 0, 0) := cd_of gl_62 rfl
theorem cd_62_12 : sm_cd 62 12 = some (.invokevirtual 140, 3, 50, 0, 0, 2, 4, 0, 0) := cd_of gl_62 rfl
theorem cd_62_15 : sm_cd 62 15 = some (.istore_n 2, 1, 2, 0, 0, 0, 0, 0, 0) := cd_of gl_62 rfl
theorem cd_62_16 : sm_cd 62 16 = some (.aload_n 0, 1, 0, 0, 0, 0, 0, 0, 0) := cd_of gl_62 rfl
theorem cd_62_17 : sm_cd 62 17 = some (.getfield 12, 3, 2, 0, 2, 0, 0, 0, 0) := cd_of gl_62 rfl
theorem cd_62_20 : sm_cd 62 20 = some (.invokevirtual 78, 3, 44, 0, 0, 1, 4, 0, 0) := cd_of gl_62 rfl
theorem cd_62_23 : sm_cd 62 23 = some (.istore_n 3, 1, 3, 0, 0, 0, 0, 0, 0) := cd_of gl_62 rfl
theorem cd_62_24 : sm_cd 62 24 = some (.aload_n 0, 1, 0, 0, 0, 0, 0, 0, 0) := cd_of gl_62 rfl
theorem cd_62_25 : sm_cd 62 25 = some (.getfield 12, 3, 2, 0, 2, 0, 0, 0, 0) := cd_of gl_62 rfl
theorem cd_62_28 : sm_cd 62 28 = some (.invokevirtual 129, 3, 45, 0, 0, 2, 4, 0, 0) := cd_of gl_62 rfl
theorem cd_62_31 : sm_cd 62 31 = some (.istore 4, 2, 4, 0, 0, 0, 0, 0, 0) := cd_of gl_62 rfl
theorem cd_62_33 : sm_cd 62 33 = some (.aload_n 0, 1, 0, 0, 0, 0, 0, 0, 0) := cd_of gl_62 rfl
theorem cd_62_34 : sm_cd 62 34 = some (.getfield 12, 3, 2, 0, 2, 0, 0, 0, 0) := cd_of gl_62 rfl
theorem cd_62_37 : sm_cd 62 37 = some (.bipush 61, 2, 0, 0, 0, 0, 0, 61, 0) := cd_of gl_62 rfl
theorem cd_62_39 : sm_cd 62 39 = some (.invokevirtual 116, 3, 41, 0, 1, 2, 4, 0, 0) := cd_of gl_62 rfl
theorem cd_62_42 : sm_cd 62 42 = some (.aload_n 0, 1, 0, 0, 0, 0, 0, 0, 0) := cd_of gl_62 rfl
theorem cd_62_43 : sm_cd 62 43 = some (.iconst 0, 1, 0, 0, 0, 0, 0, 0, 0) := cd_of gl_62 rfl
theorem cd_62_44 : sm_cd 62 44 = some (.iconst 0, 1, 0, 0, 0, 0, 0, 0, 0) := cd_of gl_62 rfl
theorem cd_62_45 : sm_cd 62 45 = some (.invokevirtual 177, 3, 63, 0, 2, 9, 2, 0, 0) := cd_of gl_62 rfl
theorem cd_62_48 : sm_cd 62 48 = some (.aload_n 0, 1, 0, 0, 0, 0, 0, 0, 0) := cd_of gl_62 rfl
theorem cd_62_49 : sm_cd 62 49 = some (.getfield 12, 3, 2, 0, 2, 0, 0, 0, 0) := cd_of gl_62 rfl
theorem cd_62_52 : sm_cd 62 52 = some (.bipush 59, 2, 0, 0, 0, 0, 0, 59, 0) := cd_of gl_62 rfl
theorem cd_62_54 : sm_cd 62 54 = some (.invokevirtual 116, 3, 41, 0, 1, 2, 4, 0, 0) := cd_of gl_62 rfl
theorem cd_62_57 : sm_cd 62 57 = some (.aload_n 0, 1, 0, 0, 0, 0, 0, 0, 0) := cd_of gl_62 rfl
theorem cd_62_58 : sm_cd 62 58 = some (.iload 4, 2, 4, 0, 0, 0, 0, 0, 0) := cd_of gl_62 rfl
theorem cd_62_60 : sm_cd 62 60 = some (.iload_n 2, 1, 2, 0, 0, 0, 0, 0, 0) := cd_of gl_62 rfl
theorem cd_62_61 : sm_cd 62 61 = some (.iload_n 3, 1, 3, 0, 0, 0, 0, 0, 0) := cd_of gl_62 rfl
theorem cd_62_62 : sm_cd 62 62 = some (.invokevirtual 143, 3, 51, 0, 3, 5, 2, 0, 0) := cd_of gl_62 rfl
theorem cd_62_65 : sm_cd 62 65 = some (.aload_n 0, 1, 0, 0, 0, 0, 0, 0, 0) := cd_of gl_62 rfl
theorem cd_62_66 : sm_cd 62 66 = some (.aload_n 0, 1, 0, 0, 0, 0, 0, 0, 0) := cd_of gl_62 rfl
theorem cd_62_67 : sm_cd 62 67 = some (.iconst 1, 1, 0, 0, 0, 0, 0, 1, 0) := cd_of gl_62 rfl
theorem cd_62_68 : sm_cd 62 68 = some (.invokevirtual 181, 3, 67, 0, 1, 2, 2, 0, 0) := cd_of gl_62 rfl
theorem cd_62_71 : sm_cd 62 71 = some (.iload_n 2, 1, 2, 0, 0, 0, 0, 0, 0) := cd_of gl_62 rfl
theorem cd_62_72 : sm_cd 62 72 = some (.if_icmp .ne 7, 3, 79, 0, 0, 0, 0, 0, 0) := cd_of gl_62 rfl
theorem cd_62_75 : sm_cd 62 75 = some (.iconst 1, 1, 0, 0, 0, 0, 0, 1, 0) := cd_of gl_62 rfl
theorem cd_62_76 : sm_cd 62 76 = some (.goto 4, 3, 80, 0, 0, 0, 0, 0, 0) := cd_of gl_62 rfl
theorem cd_62_79 : sm_cd 62 79 = some (.iconst 0, 1, 0, 0, 0, 0, 0, 0, 0) := cd_of gl_62 rfl
theorem cd_62_80 : sm_cd 62 80 = some (.iload_n 1, 1, 1, 0, 0, 0, 0, 0, 0) := cd_of gl_62 rfl
theorem cd_62_81 : sm_cd 62 81 = some (.invokevirtual 184, 3, 68, 0, 2, 3, 2, 0, 0) := cd_of gl_62 rfl
theorem cd_62_84 : sm_cd 62 84 = some (.aload_n 0, 1, 0, 0, 0, 0, 0, 0, 0) := cd_of gl_62 rfl
theorem cd_62_85 : sm_cd 62 85 = some (.bipush 21, 2, 0, 0, 0, 0, 0, 21, 0) := cd_of gl_62 rfl
theorem cd_62_87 : sm_cd 62 87 = some (.aload_n 0, 1, 0, 0, 0, 0, 0, 0, 0) := cd_of gl_62 rfl
theorem cd_62_88 : sm_cd 62 88 = some (.iload 4, 2, 4, 0, 0, 0, 0, 0, 0) := cd_of gl_62 rfl
theorem cd_62_90 : sm_cd 62 90 = some (.invokevirtual 188, 3, 53, 0, 1, 2, 2, 0, 0) := cd_of gl_62 rfl
theorem cd_62_93 : sm_cd 62 93 = some (.iconst 1, 1, 0, 0, 0, 0, 0, 1, 0) := cd_of gl_62 rfl
theorem cd_62_94 : sm_cd 62 94 = some (.iconst (-1), 1, 0, 0, 0, 0, 0, (-1), 0) := cd_of gl_62 rfl
theorem cd_62_95 : sm_cd 62 95 = some (.invokevirtual 149, 3, 58, 0, 4, 5, 2, 0, 0) := cd_of gl_62 rfl
theorem cd_62_98 : sm_cd 62 98 = some (.return_, 1, 0, 0, 0, 0, 0, 0, 0) := cd_of gl_62 rfl
noncomputable def f_62_80 (K : Nat → Value) (k d : Nat) (l0 : Nat) (l1 : Int32) (l2 : Int32) (l3 : Int32) (l4 : Int32) (s0 : Nat) (s1 : Int32) (w : aW) (I : aI) (J : aJ) : Option aR :=
  gO w 2 s0 (
  cV (Cl K d 68 [.ref s0, .int s1, .int l1] w I J) fun w_1 I_2 J_3 =>
  gO w_1 2 l0 (
  cI (Cl K d 53 [.ref l0, .int l4] w_1 I_2 J_3) fun x_7 w_4 I_5 J_6 =>
  gO w_4 2 l0 (
  cV (Cl K d 58 [.ref l0, .int 21, .int x_7, .int 1, .int ((-1))] w_4 I_5 J_6) fun w_8 I_9 J_10 =>
  some (none, w_8, I_9, J_10))))
theorem ok_62_80 {K : Nat → Value} {k d : Nat} {l0 : Nat} {l1 : Int32} {l2 : Int32} {l3 : Int32} {l4 : Int32} {s0 : Nat} {s1 : Int32} {w : aW} {I : aI} {J : aJ} {R : aR} (h : f_62_80 K k d l0 l1 l2 l3 l4 s0 s1 w I J = some R) : Go K (d + 1) 62 80 [some (.ref l0), some (.int l1), some (.int l2), some (.int l3), some (.int l4)] [.int s1, .ref s0] w I J R := by
  unfold f_62_80 at h
  refine gs_0 (pc' := 81) (L' := [some (.ref l0), some (.int l1), some (.int l2), some (.int l3), some (.int l4)]) (st' := [.int l1, .int s1, .ref s0]) cd_62_80 rfl rfl ?_
  obtain ⟨ht, h⟩ := gO_s h
  obtain ⟨w_1, I_2, J_3, hcl, h⟩ := cV_s h
  refine gs_call (as := [.ref s0, .int s1, .int l1]) (rest := []) cd_62_81 rfl (by decide) rfl (sm_rv_ok (by decide) ht) (Nat.le_of_ble_eq_true rfl) (Nat.le_of_ble_eq_true rfl) rfl hcl ?_
  refine gs_0 (pc' := 85) (L' := [some (.ref l0), some (.int l1), some (.int l2), some (.int l3), some (.int l4)]) (st' := [.ref l0]) cd_62_84 rfl rfl ?_
  refine gs_0 (pc' := 87) (L' := [some (.ref l0), some (.int l1), some (.int l2), some (.int l3), some (.int l4)]) (st' := [.int 21, .ref l0]) cd_62_85 rfl rfl ?_
  refine gs_0 (pc' := 88) (L' := [some (.ref l0), some (.int l1), some (.int l2), some (.int l3), some (.int l4)]) (st' := [.ref l0, .int 21, .ref l0]) cd_62_87 rfl rfl ?_
  refine gs_0 (pc' := 90) (L' := [some (.ref l0), some (.int l1), some (.int l2), some (.int l3), some (.int l4)]) (st' := [.int l4, .ref l0, .int 21, .ref l0]) cd_62_88 rfl rfl ?_
  obtain ⟨ht, h⟩ := gO_s h
  obtain ⟨x_7, w_4, I_5, J_6, hcl, h⟩ := cI_s h
  refine gs_call (as := [.ref l0, .int l4]) (rest := [.int 21, .ref l0]) cd_62_90 rfl (by decide) rfl (sm_rv_ok (by decide) ht) (Nat.le_of_ble_eq_true rfl) (Nat.le_of_ble_eq_true rfl) rfl hcl ?_
  refine gs_0 (pc' := 94) (L' := [some (.ref l0), some (.int l1), some (.int l2), some (.int l3), some (.int l4)]) (st' := [.int 1, .int x_7, .int 21, .ref l0]) cd_62_93 rfl rfl ?_
  refine gs_0 (pc' := 95) (L' := [some (.ref l0), some (.int l1), some (.int l2), some (.int l3), some (.int l4)]) (st' := [.int ((-1)), .int 1, .int x_7, .int 21, .ref l0]) cd_62_94 rfl rfl ?_
  obtain ⟨ht, h⟩ := gO_s h
  obtain ⟨w_8, I_9, J_10, hcl, h⟩ := cV_s h
  refine gs_call (as := [.ref l0, .int 21, .int x_7, .int 1, .int ((-1))]) (rest := []) cd_62_95 rfl (by decide) rfl (sm_rv_ok (by decide) ht) (Nat.le_of_ble_eq_true rfl) (Nat.le_of_ble_eq_true rfl) rfl hcl ?_
  cases h
  exact gsr cd_62_98 rfl rfl
noncomputable def f_62 (K : Nat → Value) (k d : Nat) (l0 : Nat) (w : aW) (I : aI) (J : aJ) : Option aR :=
  gO w 2 l0 (
  gV w l0 0 fun q_1 =>
  gO w 4 q_1 (
  cI (Cl K d 44 [.ref q_1] w I J) fun x_5 w_2 I_3 J_4 =>
  gO w_2 2 l0 (
  gV w_2 l0 0 fun q_6 =>
  gO w_2 4 q_6 (
  cI (Cl K d 50 [.ref q_6] w_2 I_3 J_4) fun x_10 w_7 I_8 J_9 =>
  gO w_7 2 l0 (
  gV w_7 l0 0 fun q_11 =>
  gO w_7 4 q_11 (
  cI (Cl K d 44 [.ref q_11] w_7 I_8 J_9) fun x_15 w_12 I_13 J_14 =>
  gO w_12 2 l0 (
  gV w_12 l0 0 fun q_16 =>
  gO w_12 4 q_16 (
  cI (Cl K d 45 [.ref q_16] w_12 I_13 J_14) fun x_20 w_17 I_18 J_19 =>
  gO w_17 2 l0 (
  gV w_17 l0 0 fun q_21 =>
  gO w_17 4 q_21 (
  cV (Cl K d 41 [.ref q_21, .int 61] w_17 I_18 J_19) fun w_22 I_23 J_24 =>
  gO w_22 2 l0 (
  cV (Cl K d 63 [.ref l0, .int 0, .int 0] w_22 I_23 J_24) fun w_25 I_26 J_27 =>
  gO w_25 2 l0 (
  gV w_25 l0 0 fun q_28 =>
  gO w_25 4 q_28 (
  cV (Cl K d 41 [.ref q_28, .int 59] w_25 I_26 J_27) fun w_29 I_30 J_31 =>
  gO w_29 2 l0 (
  cV (Cl K d 51 [.ref l0, .int x_20, .int x_10, .int x_15] w_29 I_30 J_31) fun w_32 I_33 J_34 =>
  gO w_32 2 l0 (
  cI (Cl K d 67 [.ref l0, .int 1] w_32 I_33 J_34) fun x_38 w_35 I_36 J_37 =>
  if ¬ x_38 = x_10 then
    f_62_80 K k d l0 x_5 x_10 x_15 x_20 l0 0 w_35 I_36 J_37
  else
    f_62_80 K k d l0 x_5 x_10 x_15 x_20 l0 1 w_35 I_36 J_37)))))))))))))))
theorem ok_62 {K : Nat → Value} {k d : Nat} {l0 : Nat} {w : aW} {I : aI} {J : aJ} {R : aR} (h : f_62 K k d l0 w I J = some R) : Go K (d + 1) 62 0 [some (.ref l0), none, none, none, none] [] w I J R := by
  unfold f_62 at h
  refine gs_0 (pc' := 1) (L' := [some (.ref l0), none, none, none, none]) (st' := [.ref l0]) cd_62_0 rfl rfl ?_
  obtain ⟨ht, h⟩ := gO_s h
  obtain ⟨q_1, hv, h⟩ := gV_s h
  refine gs_gfR cd_62_1 (by decide) ht hv ?_
  obtain ⟨ht, h⟩ := gO_s h
  obtain ⟨x_5, w_2, I_3, J_4, hcl, h⟩ := cI_s h
  refine gs_call (as := [.ref q_1]) (rest := []) cd_62_4 rfl (by decide) rfl (sm_rv_ok (by decide) ht) (Nat.le_of_ble_eq_true rfl) (Nat.le_of_ble_eq_true rfl) rfl hcl ?_
  refine gs_0 (pc' := 8) (L' := [some (.ref l0), some (.int x_5), none, none, none]) (st' := []) cd_62_7 rfl rfl ?_
  refine gs_0 (pc' := 9) (L' := [some (.ref l0), some (.int x_5), none, none, none]) (st' := [.ref l0]) cd_62_8 rfl rfl ?_
  obtain ⟨ht, h⟩ := gO_s h
  obtain ⟨q_6, hv, h⟩ := gV_s h
  refine gs_gfR cd_62_9 (by decide) ht hv ?_
  obtain ⟨ht, h⟩ := gO_s h
  obtain ⟨x_10, w_7, I_8, J_9, hcl, h⟩ := cI_s h
  refine gs_call (as := [.ref q_6]) (rest := []) cd_62_12 rfl (by decide) rfl (sm_rv_ok (by decide) ht) (Nat.le_of_ble_eq_true rfl) (Nat.le_of_ble_eq_true rfl) rfl hcl ?_
  refine gs_0 (pc' := 16) (L' := [some (.ref l0), some (.int x_5), some (.int x_10), none, none]) (st' := []) cd_62_15 rfl rfl ?_
  refine gs_0 (pc' := 17) (L' := [some (.ref l0), some (.int x_5), some (.int x_10), none, none]) (st' := [.ref l0]) cd_62_16 rfl rfl ?_
  obtain ⟨ht, h⟩ := gO_s h
  obtain ⟨q_11, hv, h⟩ := gV_s h
  refine gs_gfR cd_62_17 (by decide) ht hv ?_
  obtain ⟨ht, h⟩ := gO_s h
  obtain ⟨x_15, w_12, I_13, J_14, hcl, h⟩ := cI_s h
  refine gs_call (as := [.ref q_11]) (rest := []) cd_62_20 rfl (by decide) rfl (sm_rv_ok (by decide) ht) (Nat.le_of_ble_eq_true rfl) (Nat.le_of_ble_eq_true rfl) rfl hcl ?_
  refine gs_0 (pc' := 24) (L' := [some (.ref l0), some (.int x_5), some (.int x_10), some (.int x_15), none]) (st' := []) cd_62_23 rfl rfl ?_
  refine gs_0 (pc' := 25) (L' := [some (.ref l0), some (.int x_5), some (.int x_10), some (.int x_15), none]) (st' := [.ref l0]) cd_62_24 rfl rfl ?_
  obtain ⟨ht, h⟩ := gO_s h
  obtain ⟨q_16, hv, h⟩ := gV_s h
  refine gs_gfR cd_62_25 (by decide) ht hv ?_
  obtain ⟨ht, h⟩ := gO_s h
  obtain ⟨x_20, w_17, I_18, J_19, hcl, h⟩ := cI_s h
  refine gs_call (as := [.ref q_16]) (rest := []) cd_62_28 rfl (by decide) rfl (sm_rv_ok (by decide) ht) (Nat.le_of_ble_eq_true rfl) (Nat.le_of_ble_eq_true rfl) rfl hcl ?_
  refine gs_0 (pc' := 33) (L' := [some (.ref l0), some (.int x_5), some (.int x_10), some (.int x_15), some (.int x_20)]) (st' := []) cd_62_31 rfl rfl ?_
  refine gs_0 (pc' := 34) (L' := [some (.ref l0), some (.int x_5), some (.int x_10), some (.int x_15), some (.int x_20)]) (st' := [.ref l0]) cd_62_33 rfl rfl ?_
  obtain ⟨ht, h⟩ := gO_s h
  obtain ⟨q_21, hv, h⟩ := gV_s h
  refine gs_gfR cd_62_34 (by decide) ht hv ?_
  refine gs_0 (pc' := 39) (L' := [some (.ref l0), some (.int x_5), some (.int x_10), some (.int x_15), some (.int x_20)]) (st' := [.int 61, .ref q_21]) cd_62_37 rfl rfl ?_
  obtain ⟨ht, h⟩ := gO_s h
  obtain ⟨w_22, I_23, J_24, hcl, h⟩ := cV_s h
  refine gs_call (as := [.ref q_21, .int 61]) (rest := []) cd_62_39 rfl (by decide) rfl (sm_rv_ok (by decide) ht) (Nat.le_of_ble_eq_true rfl) (Nat.le_of_ble_eq_true rfl) rfl hcl ?_
  refine gs_0 (pc' := 43) (L' := [some (.ref l0), some (.int x_5), some (.int x_10), some (.int x_15), some (.int x_20)]) (st' := [.ref l0]) cd_62_42 rfl rfl ?_
  refine gs_0 (pc' := 44) (L' := [some (.ref l0), some (.int x_5), some (.int x_10), some (.int x_15), some (.int x_20)]) (st' := [.int 0, .ref l0]) cd_62_43 rfl rfl ?_
  refine gs_0 (pc' := 45) (L' := [some (.ref l0), some (.int x_5), some (.int x_10), some (.int x_15), some (.int x_20)]) (st' := [.int 0, .int 0, .ref l0]) cd_62_44 rfl rfl ?_
  obtain ⟨ht, h⟩ := gO_s h
  obtain ⟨w_25, I_26, J_27, hcl, h⟩ := cV_s h
  refine gs_call (as := [.ref l0, .int 0, .int 0]) (rest := []) cd_62_45 rfl (by decide) rfl (sm_rv_ok (by decide) ht) (Nat.le_of_ble_eq_true rfl) (Nat.le_of_ble_eq_true rfl) rfl hcl ?_
  refine gs_0 (pc' := 49) (L' := [some (.ref l0), some (.int x_5), some (.int x_10), some (.int x_15), some (.int x_20)]) (st' := [.ref l0]) cd_62_48 rfl rfl ?_
  obtain ⟨ht, h⟩ := gO_s h
  obtain ⟨q_28, hv, h⟩ := gV_s h
  refine gs_gfR cd_62_49 (by decide) ht hv ?_
  refine gs_0 (pc' := 54) (L' := [some (.ref l0), some (.int x_5), some (.int x_10), some (.int x_15), some (.int x_20)]) (st' := [.int 59, .ref q_28]) cd_62_52 rfl rfl ?_
  obtain ⟨ht, h⟩ := gO_s h
  obtain ⟨w_29, I_30, J_31, hcl, h⟩ := cV_s h
  refine gs_call (as := [.ref q_28, .int 59]) (rest := []) cd_62_54 rfl (by decide) rfl (sm_rv_ok (by decide) ht) (Nat.le_of_ble_eq_true rfl) (Nat.le_of_ble_eq_true rfl) rfl hcl ?_
  refine gs_0 (pc' := 58) (L' := [some (.ref l0), some (.int x_5), some (.int x_10), some (.int x_15), some (.int x_20)]) (st' := [.ref l0]) cd_62_57 rfl rfl ?_
  refine gs_0 (pc' := 60) (L' := [some (.ref l0), some (.int x_5), some (.int x_10), some (.int x_15), some (.int x_20)]) (st' := [.int x_20, .ref l0]) cd_62_58 rfl rfl ?_
  refine gs_0 (pc' := 61) (L' := [some (.ref l0), some (.int x_5), some (.int x_10), some (.int x_15), some (.int x_20)]) (st' := [.int x_10, .int x_20, .ref l0]) cd_62_60 rfl rfl ?_
  refine gs_0 (pc' := 62) (L' := [some (.ref l0), some (.int x_5), some (.int x_10), some (.int x_15), some (.int x_20)]) (st' := [.int x_15, .int x_10, .int x_20, .ref l0]) cd_62_61 rfl rfl ?_
  obtain ⟨ht, h⟩ := gO_s h
  obtain ⟨w_32, I_33, J_34, hcl, h⟩ := cV_s h
  refine gs_call (as := [.ref l0, .int x_20, .int x_10, .int x_15]) (rest := []) cd_62_62 rfl (by decide) rfl (sm_rv_ok (by decide) ht) (Nat.le_of_ble_eq_true rfl) (Nat.le_of_ble_eq_true rfl) rfl hcl ?_
  refine gs_0 (pc' := 66) (L' := [some (.ref l0), some (.int x_5), some (.int x_10), some (.int x_15), some (.int x_20)]) (st' := [.ref l0]) cd_62_65 rfl rfl ?_
  refine gs_0 (pc' := 67) (L' := [some (.ref l0), some (.int x_5), some (.int x_10), some (.int x_15), some (.int x_20)]) (st' := [.ref l0, .ref l0]) cd_62_66 rfl rfl ?_
  refine gs_0 (pc' := 68) (L' := [some (.ref l0), some (.int x_5), some (.int x_10), some (.int x_15), some (.int x_20)]) (st' := [.int 1, .ref l0, .ref l0]) cd_62_67 rfl rfl ?_
  obtain ⟨ht, h⟩ := gO_s h
  obtain ⟨x_38, w_35, I_36, J_37, hcl, h⟩ := cI_s h
  refine gs_call (as := [.ref l0, .int 1]) (rest := [.ref l0]) cd_62_68 rfl (by decide) rfl (sm_rv_ok (by decide) ht) (Nat.le_of_ble_eq_true rfl) (Nat.le_of_ble_eq_true rfl) rfl hcl ?_
  refine gs_0 (pc' := 72) (L' := [some (.ref l0), some (.int x_5), some (.int x_10), some (.int x_15), some (.int x_20)]) (st' := [.int x_10, .int x_38, .ref l0]) cd_62_71 rfl rfl ?_
  refine gs_0 (pc' := if ¬ x_38 = x_10 then 79 else 75) (L' := [some (.ref l0), some (.int x_5), some (.int x_10), some (.int x_15), some (.int x_20)]) (st' := [.ref l0]) cd_62_72 rfl rfl ?_
  refine go_ite (fun hc => ?_) (fun hc => ?_)
  · rw [if_pos hc] at h
    refine gs_0 (pc' := 80) (L' := [some (.ref l0), some (.int x_5), some (.int x_10), some (.int x_15), some (.int x_20)]) (st' := [.int 0, .ref l0]) cd_62_79 rfl rfl ?_
    exact ok_62_80 h
  · rw [if_neg hc] at h
    refine gs_0 (pc' := 76) (L' := [some (.ref l0), some (.int x_5), some (.int x_10), some (.int x_15), some (.int x_20)]) (st' := [.int 1, .ref l0]) cd_62_75 rfl rfl ?_
    refine gs_0 (pc' := 80) (L' := [some (.ref l0), some (.int x_5), some (.int x_10), some (.int x_15), some (.int x_20)]) (st' := [.int 1, .ref l0]) cd_62_76 rfl rfl ?_
    exact ok_62_80 h
theorem cl_62 {K : Nat → Value} {k d : Nat} {l0 : Nat} {w : aW} {I : aI} {J : aJ} {R : aR} (h : f_62 K k d l0 w I J = some R) : Cl K (d + 1) 62 [.ref l0] w I J = some R := Cl_of (ok_62 h)
/-! ProvedMachine$Reader.readLevel(II)V -/
theorem gl_63 : gcd.lookup 63 = some gw_63 := rfl
theorem cd_63_0 : sm_cd 63 0 = some (.iload_n 1, 1, 1, 0, 0, 0, 0, 0, 0) := cd_of gl_63 rfl
theorem cd_63_1 : sm_cd 63 1 = some (.bipush 6, 2, 0, 0, 0, 0, 0, 6, 0) := cd_of gl_63 rfl
theorem cd_63_3 : sm_cd 63 3 = some (.if_icmp .lt 9, 3, 12, 0, 0, 0, 0, 0, 0) := cd_of gl_63 rfl
theorem cd_63_6 : sm_cd 63 6 = some (.aload_n 0, 1, 0, 0, 0, 0, 0, 0, 0) := cd_of gl_63 rfl
theorem cd_63_7 : sm_cd 63 7 = some (.iload_n 2, 1, 2, 0, 0, 0, 0, 0, 0) := cd_of gl_63 rfl
theorem cd_63_8 : sm_cd 63 8 = some (.invokevirtual 194, 3, 64, 0, 1, 7, 2, 0, 0) := cd_of gl_63 rfl
theorem cd_63_11 : sm_cd 63 11 = some (.return_, 1, 0, 0, 0, 0, 0, 0, 0) := cd_of gl_63 rfl
theorem cd_63_12 : sm_cd 63 12 = some (.iload_n 1, 1, 1, 0, 0, 0, 0, 0, 0) := cd_of gl_63 rfl
theorem cd_63_13 : sm_cd 63 13 = some (.ifCond .ne 7, 3, 20, 0, 0, 0, 0, 0, 0) := cd_of gl_63 rfl
theorem cd_63_16 : sm_cd 63 16 = some (.iconst 1, 1, 0, 0, 0, 0, 0, 1, 0) := cd_of gl_63 rfl
theorem cd_63_17 : sm_cd 63 17 = some (.goto 4, 3, 21, 0, 0, 0, 0, 0, 0) := cd_of gl_63 rfl
theorem cd_63_20 : sm_cd 63 20 = some (.iconst 0, 1, 0, 0, 0, 0, 0, 0, 0) := cd_of gl_63 rfl
theorem cd_63_21 : sm_cd 63 21 = some (.istore_n 3, 1, 3, 0, 0, 0, 0, 0, 0) := cd_of gl_63 rfl
theorem cd_63_22 : sm_cd 63 22 = some (.iload_n 3, 1, 3, 0, 0, 0, 0, 0, 0) := cd_of gl_63 rfl
theorem cd_63_23 : sm_cd 63 23 = some (.ifCond .eq 17, 3, 40, 0, 0, 0, 0, 0, 0) := cd_of gl_63 rfl
theorem cd_63_26 : sm_cd 63 26 = some (.iload_n 2, 1, 2, 0, 0, 0, 0, 0, 0) := cd_of gl_63 rfl
theorem cd_63_27 : sm_cd 63 27 = some (.bipush 8, 2, 0, 0, 0, 0, 0, 8, 0) := cd_of gl_63 rfl
theorem cd_63_29 : sm_cd 63 29 = some (.if_icmp .lt 11, 3, 40, 0, 0, 0, 0, 0, 0) := cd_of gl_63 rfl
theorem cd_63_32 : sm_cd 63 32 = some (.aload_n 0, 1, 0, 0, 0, 0, 0, 0, 0) := cd_of gl_63 rfl
theorem cd_63_33 : sm_cd 63 33 = some (.getfield 12, 3, 2, 0, 2, 0, 0, 0, 0) := cd_of gl_63 rfl
theorem cd_63_36 : sm_cd 63 36 = some (.invokevirtual 171, 3, 43, 0, 0, 1, 4, 0, 0) := cd_of gl_63 rfl
theorem cd_63_39 : sm_cd 63 39 = some (.return_, 1, 0, 0, 0, 0, 0, 0, 0) := cd_of gl_63 rfl
theorem cd_63_40 : sm_cd 63 40 = some (.iload_n 3, 1, 3, 0, 0, 0, 0, 0, 0) := cd_of gl_63 rfl
theorem cd_63_41 : sm_cd 63 41 = some (.ifCond .eq 9, 3, 50, 0, 0, 0, 0, 0, 0) := cd_of gl_63 rfl
theorem cd_63_44 : sm_cd 63 44 = some (.iload_n 2, 1, 2, 0, 0, 0, 0, 0, 0) := cd_of gl_63 rfl
theorem cd_63_45 : sm_cd 63 45 = some (.iconst 1, 1, 0, 0, 0, 0, 0, 1, 0) := cd_of gl_63 rfl
theorem cd_63_46 : sm_cd 63 46 = some (.iadd, 1, 0, 0, 0, 0, 0, 0, 0) := cd_of gl_63 rfl
theorem cd_63_47 : sm_cd 63 47 = some (.goto 4, 3, 51, 0, 0, 0, 0, 0, 0) := cd_of gl_63 rfl
theorem cd_63_50 : sm_cd 63 50 = some (.iload_n 2, 1, 2, 0, 0, 0, 0, 0, 0) := cd_of gl_63 rfl
theorem cd_63_51 : sm_cd 63 51 = some (.istore 4, 2, 4, 0, 0, 0, 0, 0, 0) := cd_of gl_63 rfl
theorem cd_63_53 : sm_cd 63 53 = some (.aload_n 0, 1, 0, 0, 0, 0, 0, 0, 0) := cd_of gl_63 rfl
theorem cd_63_54 : sm_cd 63 54 = some (.iload_n 1, 1, 1, 0, 0, 0, 0, 0, 0) := cd_of gl_63 rfl
theorem cd_63_55 : sm_cd 63 55 = some (.iconst 1, 1, 0, 0, 0, 0, 0, 1, 0) := cd_of gl_63 rfl
theorem cd_63_56 : sm_cd 63 56 = some (.iadd, 1, 0, 0, 0, 0, 0, 0, 0) := cd_of gl_63 rfl
theorem cd_63_57 : sm_cd 63 57 = some (.iload 4, 2, 4, 0, 0, 0, 0, 0, 0) := cd_of gl_63 rfl
theorem cd_63_59 : sm_cd 63 59 = some (.invokevirtual 177, 3, 63, 0, 2, 9, 2, 0, 0) := cd_of gl_63 rfl
theorem cd_63_62 : sm_cd 63 62 = some (.iload_n 3, 1, 3, 0, 0, 0, 0, 0, 0) := cd_of gl_63 rfl
theorem cd_63_63 : sm_cd 63 63 = some (.ifCond .ne 8, 3, 71, 0, 0, 0, 0, 0, 0) := cd_of gl_63 rfl
theorem cd_63_66 : sm_cd 63 66 = some (.iload_n 1, 1, 1, 0, 0, 0, 0, 0, 0) := cd_of gl_63 rfl
theorem cd_63_67 : sm_cd 63 67 = some (.iconst 3, 1, 0, 0, 0, 0, 0, 3, 0) := cd_of gl_63 rfl
theorem cd_63_68 : sm_cd 63 68 = some (.if_icmp .ne 7, 3, 75, 0, 0, 0, 0, 0, 0) := cd_of gl_63 rfl
theorem cd_63_71 : sm_cd 63 71 = some (.iconst 1, 1, 0, 0, 0, 0, 0, 1, 0) := cd_of gl_63 rfl
theorem cd_63_72 : sm_cd 63 72 = some (.goto 6, 3, 78, 0, 0, 0, 0, 0, 0) := cd_of gl_63 rfl
theorem cd_63_75 : sm_cd 63 75 = some (.sipush 240, 3, 0, 0, 0, 0, 0, 240, 0) := cd_of gl_63 rfl
theorem cd_63_78 : sm_cd 63 78 = some (.istore 5, 2, 5, 0, 0, 0, 0, 0, 0) := cd_of gl_63 rfl
theorem cd_63_80 : sm_cd 63 80 = some (.iconst 0, 1, 0, 0, 0, 0, 0, 0, 0) := cd_of gl_63 rfl
theorem cd_63_81 : sm_cd 63 81 = some (.istore 6, 2, 6, 0, 0, 0, 0, 0, 0) := cd_of gl_63 rfl
theorem cd_63_83 : sm_cd 63 83 = some (.iload 6, 2, 6, 0, 0, 0, 0, 0, 0) := cd_of gl_63 rfl
theorem cd_63_85 : sm_cd 63 85 = some (.iload 5, 2, 5, 0, 0, 0, 0, 0, 0) := cd_of gl_63 rfl
theorem cd_63_87 : sm_cd 63 87 = some (.if_icmp .ge 90, 3, 177, 0, 0, 0, 0, 0, 0) := cd_of gl_63 rfl
theorem cd_63_90 : sm_cd 63 90 = some (.aload_n 0, 1, 0, 0, 0, 0, 0, 0, 0) := cd_of gl_63 rfl
theorem cd_63_91 : sm_cd 63 91 = some (.getfield 12, 3, 2, 0, 2, 0, 0, 0, 0) := cd_of gl_63 rfl
theorem cd_63_94 : sm_cd 63 94 = some (.invokevirtual 93, 3, 37, 0, 0, 1, 4, 0, 0) := cd_of gl_63 rfl
theorem cd_63_97 : sm_cd 63 97 = some (.invokestatic 197, 3, 73, 1, 1, 1, 2, 0, 0) := cd_of gl_63 rfl
theorem cd_63_100 : sm_cd 63 100 = some (.istore 7, 2, 7, 0, 0, 0, 0, 0, 0) := cd_of gl_63 rfl
theorem cd_63_102 : sm_cd 63 102 = some (.iload 7, 2, 7, 0, 0, 0, 0, 0, 0) := cd_of gl_63 rfl
theorem cd_63_104 : sm_cd 63 104 = some (.bipush 12, 2, 0, 0, 0, 0, 0, 12, 0) := cd_of gl_63 rfl
theorem cd_63_106 : sm_cd 63 106 = some (.if_icmp .lt 23, 3, 129, 0, 0, 0, 0, 0, 0) := cd_of gl_63 rfl
theorem cd_63_109 : sm_cd 63 109 = some (.iload 7, 2, 7, 0, 0, 0, 0, 0, 0) := cd_of gl_63 rfl
theorem cd_63_111 : sm_cd 63 111 = some (.bipush 20, 2, 0, 0, 0, 0, 0, 20, 0) := cd_of gl_63 rfl
theorem cd_63_113 : sm_cd 63 113 = some (.if_icmp .gt 16, 3, 129, 0, 0, 0, 0, 0, 0) := cd_of gl_63 rfl
theorem cd_63_116 : sm_cd 63 116 = some (.getstatic 200, 3, 23, 0, 0, 0, 0, 0, 0) := cd_of gl_63 rfl
theorem cd_63_119 : sm_cd 63 119 = some (.iload 7, 2, 7, 0, 0, 0, 0, 0, 0) := cd_of gl_63 rfl
theorem cd_63_121 : sm_cd 63 121 = some (.bipush 12, 2, 0, 0, 0, 0, 0, 12, 0) := cd_of gl_63 rfl
theorem cd_63_123 : sm_cd 63 123 = some (.isub, 1, 0, 0, 0, 0, 0, 0, 0) := cd_of gl_63 rfl
theorem cd_63_124 : sm_cd 63 124 = some (.iaload, 1, 0, 0, 0, 0, 0, 0, 0) := cd_of gl_63 rfl
theorem cd_63_125 : sm_cd 63 125 = some (.iload_n 1, 1, 1, 0, 0, 0, 0, 0, 0) := cd_of gl_63 rfl
theorem cd_63_126 : sm_cd 63 126 = some (.if_icmp .eq 4, 3, 130, 0, 0, 0, 0, 0, 0) := cd_of gl_63 rfl
theorem cd_63_129 : sm_cd 63 129 = some (.return_, 1, 0, 0, 0, 0, 0, 0, 0) := cd_of gl_63 rfl
theorem cd_63_130 : sm_cd 63 130 = some (.aload_n 0, 1, 0, 0, 0, 0, 0, 0, 0) := cd_of gl_63 rfl
theorem cd_63_131 : sm_cd 63 131 = some (.getfield 12, 3, 2, 0, 2, 0, 0, 0, 0) := cd_of gl_63 rfl
theorem cd_63_134 : sm_cd 63 134 = some (.invokevirtual 78, 3, 44, 0, 0, 1, 4, 0, 0) := cd_of gl_63 rfl
theorem cd_63_137 : sm_cd 63 137 = some (.istore 8, 2, 8, 0, 0, 0, 0, 0, 0) := cd_of gl_63 rfl
theorem cd_63_139 : sm_cd 63 139 = some (.aload_n 0, 1, 0, 0, 0, 0, 0, 0, 0) := cd_of gl_63 rfl
theorem cd_63_140 : sm_cd 63 140 = some (.getfield 12, 3, 2, 0, 2, 0, 0, 0, 0) := cd_of gl_63 rfl
theorem cd_63_143 : sm_cd 63 143 = some (.invokevirtual 146, 3, 42, 0, 0, 1, 4, 0, 0) := cd_of gl_63 rfl
theorem cd_63_146 : sm_cd 63 146 = some (.aload_n 0, 1, 0, 0, 0, 0, 0, 0, 0) := cd_of gl_63 rfl
theorem cd_63_147 : sm_cd 63 147 = some (.iload_n 3, 1, 3, 0, 0, 0, 0, 0, 0) := cd_of gl_63 rfl
theorem cd_63_148 : sm_cd 63 148 = some (.ifCond .eq 7, 3, 155, 0, 0, 0, 0, 0, 0) := cd_of gl_63 rfl
theorem cd_63_151 : sm_cd 63 151 = some (.iconst 0, 1, 0, 0, 0, 0, 0, 0, 0) := cd_of gl_63 rfl
theorem cd_63_152 : sm_cd 63 152 = some (.goto 6, 3, 158, 0, 0, 0, 0, 0, 0) := cd_of gl_63 rfl
theorem cd_63_155 : sm_cd 63 155 = some (.iload_n 1, 1, 1, 0, 0, 0, 0, 0, 0) := cd_of gl_63 rfl
theorem cd_63_156 : sm_cd 63 156 = some (.iconst 1, 1, 0, 0, 0, 0, 0, 1, 0) := cd_of gl_63 rfl
theorem cd_63_157 : sm_cd 63 157 = some (.iadd, 1, 0, 0, 0, 0, 0, 0, 0) := cd_of gl_63 rfl
theorem cd_63_158 : sm_cd 63 158 = some (.iload 4, 2, 4, 0, 0, 0, 0, 0, 0) := cd_of gl_63 rfl
theorem cd_63_160 : sm_cd 63 160 = some (.invokevirtual 177, 3, 63, 0, 2, 9, 2, 0, 0) := cd_of gl_63 rfl
theorem cd_63_163 : sm_cd 63 163 = some (.aload_n 0, 1, 0, 0, 0, 0, 0, 0, 0) := cd_of gl_63 rfl
theorem cd_63_164 : sm_cd 63 164 = some (.iload 7, 2, 7, 0, 0, 0, 0, 0, 0) := cd_of gl_63 rfl
theorem cd_63_166 : sm_cd 63 166 = some (.iload 8, 2, 8, 0, 0, 0, 0, 0, 0) := cd_of gl_63 rfl
theorem cd_63_168 : sm_cd 63 168 = some (.invokevirtual 203, 3, 66, 0, 2, 6, 2, 0, 0) := cd_of gl_63 rfl
theorem cd_63_171 : sm_cd 63 171 = some (.iinc 6 1, 3, 6, 0, 0, 0, 0, 1, 0) := cd_of gl_63 rfl
theorem cd_63_174 : sm_cd 63 174 = some (.goto (-91), 3, 83, 0, 0, 0, 0, 0, 0) := cd_of gl_63 rfl
theorem cd_63_177 : sm_cd 63 177 = some (.return_, 1, 0, 0, 0, 0, 0, 0, 0) := cd_of gl_63 rfl
noncomputable def f_63_158 (K : Nat → Value) (k d : Nat) (r83 : Nat → Int32 → Int32 → Int32 → Int32 → Int32 → Int32 → aW → aI → aJ → Option aR) (l0 : Nat) (l1 : Int32) (l2 : Int32) (l3 : Int32) (l4 : Int32) (l5 : Int32) (l6 : Int32) (l7 : Int32) (l8 : Int32) (s0 : Nat) (s1 : Int32) (w : aW) (I : aI) (J : aJ) : Option aR :=
  gO w 2 s0 (
  cV (Cl K d 63 [.ref s0, .int s1, .int l4] w I J) fun w_1 I_2 J_3 =>
  gO w_1 2 l0 (
  cV (Cl K d 66 [.ref l0, .int l7, .int l8] w_1 I_2 J_3) fun w_4 I_5 J_6 =>
  lt_ (l6 + 1) fun x_7 =>
  r83 l0 l1 l2 l3 l4 l5 x_7 w_4 I_5 J_6))
theorem ok_63_158 {K : Nat → Value} {k d : Nat} {r83 : Nat → Int32 → Int32 → Int32 → Int32 → Int32 → Int32 → aW → aI → aJ → Option aR} (hr83 : ∀ (l0 : Nat) (l1 : Int32) (l2 : Int32) (l3 : Int32) (l4 : Int32) (l5 : Int32) (l6 : Int32) (w : aW) (I : aI) (J : aJ) (R : aR), r83 l0 l1 l2 l3 l4 l5 l6 w I J = some R → Go K (d + 1) 63 83 [some (.ref l0), some (.int l1), some (.int l2), some (.int l3), some (.int l4), some (.int l5), some (.int l6), none, none] [] w I J R) {l0 : Nat} {l1 : Int32} {l2 : Int32} {l3 : Int32} {l4 : Int32} {l5 : Int32} {l6 : Int32} {l7 : Int32} {l8 : Int32} {s0 : Nat} {s1 : Int32} {w : aW} {I : aI} {J : aJ} {R : aR} (h : f_63_158 K k d r83 l0 l1 l2 l3 l4 l5 l6 l7 l8 s0 s1 w I J = some R) : Go K (d + 1) 63 158 [some (.ref l0), some (.int l1), some (.int l2), some (.int l3), some (.int l4), some (.int l5), some (.int l6), some (.int l7), some (.int l8)] [.int s1, .ref s0] w I J R := by
  unfold f_63_158 at h
  refine gs_0 (pc' := 160) (L' := [some (.ref l0), some (.int l1), some (.int l2), some (.int l3), some (.int l4), some (.int l5), some (.int l6), some (.int l7), some (.int l8)]) (st' := [.int l4, .int s1, .ref s0]) cd_63_158 rfl rfl ?_
  obtain ⟨ht, h⟩ := gO_s h
  obtain ⟨w_1, I_2, J_3, hcl, h⟩ := cV_s h
  refine gs_call (as := [.ref s0, .int s1, .int l4]) (rest := []) cd_63_160 rfl (by decide) rfl (sm_rv_ok (by decide) ht) (Nat.le_of_ble_eq_true rfl) (Nat.le_of_ble_eq_true rfl) rfl hcl ?_
  refine gs_0 (pc' := 164) (L' := [some (.ref l0), some (.int l1), some (.int l2), some (.int l3), some (.int l4), some (.int l5), some (.int l6), some (.int l7), some (.int l8)]) (st' := [.ref l0]) cd_63_163 rfl rfl ?_
  refine gs_0 (pc' := 166) (L' := [some (.ref l0), some (.int l1), some (.int l2), some (.int l3), some (.int l4), some (.int l5), some (.int l6), some (.int l7), some (.int l8)]) (st' := [.int l7, .ref l0]) cd_63_164 rfl rfl ?_
  refine gs_0 (pc' := 168) (L' := [some (.ref l0), some (.int l1), some (.int l2), some (.int l3), some (.int l4), some (.int l5), some (.int l6), some (.int l7), some (.int l8)]) (st' := [.int l8, .int l7, .ref l0]) cd_63_166 rfl rfl ?_
  obtain ⟨ht, h⟩ := gO_s h
  obtain ⟨w_4, I_5, J_6, hcl, h⟩ := cV_s h
  refine gs_call (as := [.ref l0, .int l7, .int l8]) (rest := []) cd_63_168 rfl (by decide) rfl (sm_rv_ok (by decide) ht) (Nat.le_of_ble_eq_true rfl) (Nat.le_of_ble_eq_true rfl) rfl hcl ?_
  refine gs_0 (pc' := 174) (L' := [some (.ref l0), some (.int l1), some (.int l2), some (.int l3), some (.int l4), some (.int l5), some (.int (l6 + 1)), some (.int l7), some (.int l8)]) (st' := []) cd_63_171 rfl rfl ?_
  obtain ⟨x_7, hx, h⟩ := lt_s_ h
  rw [hx]
  clear hx
  refine gs_0 (pc' := 83) (L' := [some (.ref l0), some (.int l1), some (.int l2), some (.int l3), some (.int l4), some (.int l5), some (.int x_7), some (.int l7), some (.int l8)]) (st' := []) cd_63_174 rfl rfl ?_
  refine go_drop [some (.ref l0), some (.int l1), some (.int l2), some (.int l3), some (.int l4), some (.int l5), some (.int x_7), none, none] ⟨rfl, ⟨rfl, ⟨rfl, ⟨rfl, ⟨rfl, ⟨rfl, ⟨rfl, ⟨rfl, ⟨rfl, trivial⟩⟩⟩⟩⟩⟩⟩⟩⟩ ?_
  exact hr83 l0 l1 l2 l3 l4 l5 x_7 _ _ _ _ h
noncomputable def f_63_83 (K : Nat → Value) (k : Nat) (d : Nat) : Nat → Int32 → Int32 → Int32 → Int32 → Int32 → Int32 → aW → aI → aJ → Option aR :=
  match k with
  | 0 => fun _ _ _ _ _ _ _ _ _ _ => none
  | k + 1 => fun l0 l1 l2 l3 l4 l5 l6 w I J =>
  lt_ (f_63_83 K k d) fun r83 =>
  if l5 ≤ l6 then
    some (none, w, I, J)
  else
    gO w 2 l0 (
    gV w l0 0 fun q_1 =>
    gO w 4 q_1 (
    cI (Cl K d 37 [.ref q_1] w I J) fun x_5 w_2 I_3 J_4 =>
    cI (Cl K d 73 [.int x_5] w_2 I_3 J_4) fun x_9 w_6 I_7 J_8 =>
    if x_9 < 12 then
      some (none, w_6, I_7, J_8)
    else
      if 20 < x_9 then
        some (none, w_6, I_7, J_8)
      else
        kR (K 23) fun q_10 =>
        gA w_6 10 20 q_10 (x_9 - 12) (
        if (I_7 q_10 (x_9 - 12 : Int32).toNatClampNeg) = l1 then
          gO w_6 2 l0 (
          gV w_6 l0 0 fun q_11 =>
          gO w_6 4 q_11 (
          cI (Cl K d 44 [.ref q_11] w_6 I_7 J_8) fun x_15 w_12 I_13 J_14 =>
          gO w_12 2 l0 (
          gV w_12 l0 0 fun q_16 =>
          gO w_12 4 q_16 (
          cV (Cl K d 42 [.ref q_16] w_12 I_13 J_14) fun w_17 I_18 J_19 =>
          if l3 = 0 then
            f_63_158 K k d r83 l0 l1 l2 l3 l4 l5 l6 x_9 x_15 l0 (l1 + 1) w_17 I_18 J_19
          else
            f_63_158 K k d r83 l0 l1 l2 l3 l4 l5 l6 x_9 x_15 l0 0 w_17 I_18 J_19))))
        else
          some (none, w_6, I_7, J_8))))
theorem ok_63_83 {K : Nat → Value} {d : Nat} : ∀ {k : Nat} {l0 : Nat} {l1 : Int32} {l2 : Int32} {l3 : Int32} {l4 : Int32} {l5 : Int32} {l6 : Int32} {w : aW} {I : aI} {J : aJ} {R : aR}, f_63_83 K k d l0 l1 l2 l3 l4 l5 l6 w I J = some R → Go K (d + 1) 63 83 [some (.ref l0), some (.int l1), some (.int l2), some (.int l3), some (.int l4), some (.int l5), some (.int l6), none, none] [] w I J R := by
  intro k
  induction k with
  | zero => intro l0 l1 l2 l3 l4 l5 l6 w I J R h; cases h
  | succ k ih =>
    intro l0 l1 l2 l3 l4 l5 l6 w I J R h
    have hr83 : ∀ (l0 : Nat) (l1 : Int32) (l2 : Int32) (l3 : Int32) (l4 : Int32) (l5 : Int32) (l6 : Int32) (w : aW) (I : aI) (J : aJ) (R : aR), f_63_83 K k d l0 l1 l2 l3 l4 l5 l6 w I J = some R → Go K (d + 1) 63 83 [some (.ref l0), some (.int l1), some (.int l2), some (.int l3), some (.int l4), some (.int l5), some (.int l6), none, none] [] w I J R := fun l0 l1 l2 l3 l4 l5 l6 w I J R h => ih h
    rw [f_63_83] at h
    obtain ⟨r83, hx, h⟩ := lt_s_ h
    rw [hx] at hr83
    clear hx ih
    refine gs_0 (pc' := 85) (L' := [some (.ref l0), some (.int l1), some (.int l2), some (.int l3), some (.int l4), some (.int l5), some (.int l6), none, none]) (st' := [.int l6]) cd_63_83 rfl rfl ?_
    refine gs_0 (pc' := 87) (L' := [some (.ref l0), some (.int l1), some (.int l2), some (.int l3), some (.int l4), some (.int l5), some (.int l6), none, none]) (st' := [.int l5, .int l6]) cd_63_85 rfl rfl ?_
    refine gs_0 (pc' := if l5 ≤ l6 then 177 else 90) (L' := [some (.ref l0), some (.int l1), some (.int l2), some (.int l3), some (.int l4), some (.int l5), some (.int l6), none, none]) (st' := []) cd_63_87 rfl rfl ?_
    refine go_ite (fun hc => ?_) (fun hc => ?_)
    · rw [if_pos hc] at h
      cases h
      exact gsr cd_63_177 rfl rfl
    · rw [if_neg hc] at h
      refine gs_0 (pc' := 91) (L' := [some (.ref l0), some (.int l1), some (.int l2), some (.int l3), some (.int l4), some (.int l5), some (.int l6), none, none]) (st' := [.ref l0]) cd_63_90 rfl rfl ?_
      obtain ⟨ht, h⟩ := gO_s h
      obtain ⟨q_1, hv, h⟩ := gV_s h
      refine gs_gfR cd_63_91 (by decide) ht hv ?_
      obtain ⟨ht, h⟩ := gO_s h
      obtain ⟨x_5, w_2, I_3, J_4, hcl, h⟩ := cI_s h
      refine gs_call (as := [.ref q_1]) (rest := []) cd_63_94 rfl (by decide) rfl (sm_rv_ok (by decide) ht) (Nat.le_of_ble_eq_true rfl) (Nat.le_of_ble_eq_true rfl) rfl hcl ?_
      obtain ⟨x_9, w_6, I_7, J_8, hcl, h⟩ := cI_s h
      refine gs_call (as := [.int x_5]) (rest := []) cd_63_97 rfl (by decide) rfl rfl (Nat.le_of_ble_eq_true rfl) (Nat.le_of_ble_eq_true rfl) rfl hcl ?_
      refine gs_0 (pc' := 102) (L' := [some (.ref l0), some (.int l1), some (.int l2), some (.int l3), some (.int l4), some (.int l5), some (.int l6), some (.int x_9), none]) (st' := []) cd_63_100 rfl rfl ?_
      refine gs_0 (pc' := 104) (L' := [some (.ref l0), some (.int l1), some (.int l2), some (.int l3), some (.int l4), some (.int l5), some (.int l6), some (.int x_9), none]) (st' := [.int x_9]) cd_63_102 rfl rfl ?_
      refine gs_0 (pc' := 106) (L' := [some (.ref l0), some (.int l1), some (.int l2), some (.int l3), some (.int l4), some (.int l5), some (.int l6), some (.int x_9), none]) (st' := [.int 12, .int x_9]) cd_63_104 rfl rfl ?_
      refine gs_0 (pc' := if x_9 < 12 then 129 else 109) (L' := [some (.ref l0), some (.int l1), some (.int l2), some (.int l3), some (.int l4), some (.int l5), some (.int l6), some (.int x_9), none]) (st' := []) cd_63_106 rfl rfl ?_
      refine go_ite (fun hc => ?_) (fun hc => ?_)
      · rw [if_pos hc] at h
        cases h
        exact gsr cd_63_129 rfl rfl
      · rw [if_neg hc] at h
        refine gs_0 (pc' := 111) (L' := [some (.ref l0), some (.int l1), some (.int l2), some (.int l3), some (.int l4), some (.int l5), some (.int l6), some (.int x_9), none]) (st' := [.int x_9]) cd_63_109 rfl rfl ?_
        refine gs_0 (pc' := 113) (L' := [some (.ref l0), some (.int l1), some (.int l2), some (.int l3), some (.int l4), some (.int l5), some (.int l6), some (.int x_9), none]) (st' := [.int 20, .int x_9]) cd_63_111 rfl rfl ?_
        refine gs_0 (pc' := if 20 < x_9 then 129 else 116) (L' := [some (.ref l0), some (.int l1), some (.int l2), some (.int l3), some (.int l4), some (.int l5), some (.int l6), some (.int x_9), none]) (st' := []) cd_63_113 rfl rfl ?_
        refine go_ite (fun hc => ?_) (fun hc => ?_)
        · rw [if_pos hc] at h
          cases h
          exact gsr cd_63_129 rfl rfl
        · rw [if_neg hc] at h
          refine gs_0 (pc' := 119) (L' := [some (.ref l0), some (.int l1), some (.int l2), some (.int l3), some (.int l4), some (.int l5), some (.int l6), some (.int x_9), none]) (st' := [K 23]) cd_63_116 rfl rfl ?_
          obtain ⟨q_10, hq, h⟩ := kR_s h
          rw [hq]
          refine gs_0 (pc' := 121) (L' := [some (.ref l0), some (.int l1), some (.int l2), some (.int l3), some (.int l4), some (.int l5), some (.int l6), some (.int x_9), none]) (st' := [.int x_9, .ref q_10]) cd_63_119 rfl rfl ?_
          refine gs_0 (pc' := 123) (L' := [some (.ref l0), some (.int l1), some (.int l2), some (.int l3), some (.int l4), some (.int l5), some (.int l6), some (.int x_9), none]) (st' := [.int 12, .int x_9, .ref q_10]) cd_63_121 rfl rfl ?_
          refine gs_0 (pc' := 124) (L' := [some (.ref l0), some (.int l1), some (.int l2), some (.int l3), some (.int l4), some (.int l5), some (.int l6), some (.int x_9), none]) (st' := [.int (x_9 - 12), .ref q_10]) cd_63_123 rfl rfl ?_
          obtain ⟨ht, h⟩ := gA_s h
          refine gs_iald cd_63_124 ht ?_
          refine gs_0 (pc' := 126) (L' := [some (.ref l0), some (.int l1), some (.int l2), some (.int l3), some (.int l4), some (.int l5), some (.int l6), some (.int x_9), none]) (st' := [.int l1, .int (I_7 q_10 (x_9 - 12 : Int32).toNatClampNeg)]) cd_63_125 rfl rfl ?_
          refine gs_0 (pc' := if (I_7 q_10 (x_9 - 12 : Int32).toNatClampNeg) = l1 then 130 else 129) (L' := [some (.ref l0), some (.int l1), some (.int l2), some (.int l3), some (.int l4), some (.int l5), some (.int l6), some (.int x_9), none]) (st' := []) cd_63_126 rfl rfl ?_
          refine go_ite (fun hc => ?_) (fun hc => ?_)
          · rw [if_pos hc] at h
            refine gs_0 (pc' := 131) (L' := [some (.ref l0), some (.int l1), some (.int l2), some (.int l3), some (.int l4), some (.int l5), some (.int l6), some (.int x_9), none]) (st' := [.ref l0]) cd_63_130 rfl rfl ?_
            obtain ⟨ht, h⟩ := gO_s h
            obtain ⟨q_11, hv, h⟩ := gV_s h
            refine gs_gfR cd_63_131 (by decide) ht hv ?_
            obtain ⟨ht, h⟩ := gO_s h
            obtain ⟨x_15, w_12, I_13, J_14, hcl, h⟩ := cI_s h
            refine gs_call (as := [.ref q_11]) (rest := []) cd_63_134 rfl (by decide) rfl (sm_rv_ok (by decide) ht) (Nat.le_of_ble_eq_true rfl) (Nat.le_of_ble_eq_true rfl) rfl hcl ?_
            refine gs_0 (pc' := 139) (L' := [some (.ref l0), some (.int l1), some (.int l2), some (.int l3), some (.int l4), some (.int l5), some (.int l6), some (.int x_9), some (.int x_15)]) (st' := []) cd_63_137 rfl rfl ?_
            refine gs_0 (pc' := 140) (L' := [some (.ref l0), some (.int l1), some (.int l2), some (.int l3), some (.int l4), some (.int l5), some (.int l6), some (.int x_9), some (.int x_15)]) (st' := [.ref l0]) cd_63_139 rfl rfl ?_
            obtain ⟨ht, h⟩ := gO_s h
            obtain ⟨q_16, hv, h⟩ := gV_s h
            refine gs_gfR cd_63_140 (by decide) ht hv ?_
            obtain ⟨ht, h⟩ := gO_s h
            obtain ⟨w_17, I_18, J_19, hcl, h⟩ := cV_s h
            refine gs_call (as := [.ref q_16]) (rest := []) cd_63_143 rfl (by decide) rfl (sm_rv_ok (by decide) ht) (Nat.le_of_ble_eq_true rfl) (Nat.le_of_ble_eq_true rfl) rfl hcl ?_
            refine gs_0 (pc' := 147) (L' := [some (.ref l0), some (.int l1), some (.int l2), some (.int l3), some (.int l4), some (.int l5), some (.int l6), some (.int x_9), some (.int x_15)]) (st' := [.ref l0]) cd_63_146 rfl rfl ?_
            refine gs_0 (pc' := 148) (L' := [some (.ref l0), some (.int l1), some (.int l2), some (.int l3), some (.int l4), some (.int l5), some (.int l6), some (.int x_9), some (.int x_15)]) (st' := [.int l3, .ref l0]) cd_63_147 rfl rfl ?_
            refine gs_0 (pc' := if l3 = 0 then 155 else 151) (L' := [some (.ref l0), some (.int l1), some (.int l2), some (.int l3), some (.int l4), some (.int l5), some (.int l6), some (.int x_9), some (.int x_15)]) (st' := [.ref l0]) cd_63_148 rfl rfl ?_
            refine go_ite (fun hc => ?_) (fun hc => ?_)
            · rw [if_pos hc] at h
              refine gs_0 (pc' := 156) (L' := [some (.ref l0), some (.int l1), some (.int l2), some (.int l3), some (.int l4), some (.int l5), some (.int l6), some (.int x_9), some (.int x_15)]) (st' := [.int l1, .ref l0]) cd_63_155 rfl rfl ?_
              refine gs_0 (pc' := 157) (L' := [some (.ref l0), some (.int l1), some (.int l2), some (.int l3), some (.int l4), some (.int l5), some (.int l6), some (.int x_9), some (.int x_15)]) (st' := [.int 1, .int l1, .ref l0]) cd_63_156 rfl rfl ?_
              refine gs_0 (pc' := 158) (L' := [some (.ref l0), some (.int l1), some (.int l2), some (.int l3), some (.int l4), some (.int l5), some (.int l6), some (.int x_9), some (.int x_15)]) (st' := [.int (l1 + 1), .ref l0]) cd_63_157 rfl rfl ?_
              exact ok_63_158 hr83 h
            · rw [if_neg hc] at h
              refine gs_0 (pc' := 152) (L' := [some (.ref l0), some (.int l1), some (.int l2), some (.int l3), some (.int l4), some (.int l5), some (.int l6), some (.int x_9), some (.int x_15)]) (st' := [.int 0, .ref l0]) cd_63_151 rfl rfl ?_
              refine gs_0 (pc' := 158) (L' := [some (.ref l0), some (.int l1), some (.int l2), some (.int l3), some (.int l4), some (.int l5), some (.int l6), some (.int x_9), some (.int x_15)]) (st' := [.int 0, .ref l0]) cd_63_152 rfl rfl ?_
              exact ok_63_158 hr83 h
          · rw [if_neg hc] at h
            cases h
            exact gsr cd_63_129 rfl rfl
noncomputable def f_63_78 (K : Nat → Value) (k d : Nat) (l0 : Nat) (l1 : Int32) (l2 : Int32) (l3 : Int32) (l4 : Int32) (s0 : Int32) (w : aW) (I : aI) (J : aJ) : Option aR :=
  f_63_83 K k d l0 l1 l2 l3 l4 s0 0 w I J
theorem ok_63_78 {K : Nat → Value} {k d : Nat} {l0 : Nat} {l1 : Int32} {l2 : Int32} {l3 : Int32} {l4 : Int32} {s0 : Int32} {w : aW} {I : aI} {J : aJ} {R : aR} (h : f_63_78 K k d l0 l1 l2 l3 l4 s0 w I J = some R) : Go K (d + 1) 63 78 [some (.ref l0), some (.int l1), some (.int l2), some (.int l3), some (.int l4), none, none, none, none] [.int s0] w I J R := by
  unfold f_63_78 at h
  refine gs_0 (pc' := 80) (L' := [some (.ref l0), some (.int l1), some (.int l2), some (.int l3), some (.int l4), some (.int s0), none, none, none]) (st' := []) cd_63_78 rfl rfl ?_
  refine gs_0 (pc' := 81) (L' := [some (.ref l0), some (.int l1), some (.int l2), some (.int l3), some (.int l4), some (.int s0), none, none, none]) (st' := [.int 0]) cd_63_80 rfl rfl ?_
  refine gs_0 (pc' := 83) (L' := [some (.ref l0), some (.int l1), some (.int l2), some (.int l3), some (.int l4), some (.int s0), some (.int 0), none, none]) (st' := []) cd_63_81 rfl rfl ?_
  exact ok_63_83 h
noncomputable def f_63_71 (K : Nat → Value) (k d : Nat) (l0 : Nat) (l1 : Int32) (l2 : Int32) (l3 : Int32) (l4 : Int32) (w : aW) (I : aI) (J : aJ) : Option aR :=
  f_63_78 K k d l0 l1 l2 l3 l4 1 w I J
theorem ok_63_71 {K : Nat → Value} {k d : Nat} {l0 : Nat} {l1 : Int32} {l2 : Int32} {l3 : Int32} {l4 : Int32} {w : aW} {I : aI} {J : aJ} {R : aR} (h : f_63_71 K k d l0 l1 l2 l3 l4 w I J = some R) : Go K (d + 1) 63 71 [some (.ref l0), some (.int l1), some (.int l2), some (.int l3), some (.int l4), none, none, none, none] [] w I J R := by
  unfold f_63_71 at h
  refine gs_0 (pc' := 72) (L' := [some (.ref l0), some (.int l1), some (.int l2), some (.int l3), some (.int l4), none, none, none, none]) (st' := [.int 1]) cd_63_71 rfl rfl ?_
  refine gs_0 (pc' := 78) (L' := [some (.ref l0), some (.int l1), some (.int l2), some (.int l3), some (.int l4), none, none, none, none]) (st' := [.int 1]) cd_63_72 rfl rfl ?_
  exact ok_63_78 h
noncomputable def f_63_51 (K : Nat → Value) (k d : Nat) (l0 : Nat) (l1 : Int32) (l2 : Int32) (l3 : Int32) (s0 : Int32) (w : aW) (I : aI) (J : aJ) : Option aR :=
  gO w 2 l0 (
  cV (Cl K d 63 [.ref l0, .int (l1 + 1), .int s0] w I J) fun w_1 I_2 J_3 =>
  if ¬ l3 = 0 then
    f_63_71 K k d l0 l1 l2 l3 s0 w_1 I_2 J_3
  else
    if ¬ l1 = 3 then
      f_63_78 K k d l0 l1 l2 l3 s0 240 w_1 I_2 J_3
    else
      f_63_71 K k d l0 l1 l2 l3 s0 w_1 I_2 J_3)
theorem ok_63_51 {K : Nat → Value} {k d : Nat} {l0 : Nat} {l1 : Int32} {l2 : Int32} {l3 : Int32} {s0 : Int32} {w : aW} {I : aI} {J : aJ} {R : aR} (h : f_63_51 K k d l0 l1 l2 l3 s0 w I J = some R) : Go K (d + 1) 63 51 [some (.ref l0), some (.int l1), some (.int l2), some (.int l3), none, none, none, none, none] [.int s0] w I J R := by
  unfold f_63_51 at h
  refine gs_0 (pc' := 53) (L' := [some (.ref l0), some (.int l1), some (.int l2), some (.int l3), some (.int s0), none, none, none, none]) (st' := []) cd_63_51 rfl rfl ?_
  refine gs_0 (pc' := 54) (L' := [some (.ref l0), some (.int l1), some (.int l2), some (.int l3), some (.int s0), none, none, none, none]) (st' := [.ref l0]) cd_63_53 rfl rfl ?_
  refine gs_0 (pc' := 55) (L' := [some (.ref l0), some (.int l1), some (.int l2), some (.int l3), some (.int s0), none, none, none, none]) (st' := [.int l1, .ref l0]) cd_63_54 rfl rfl ?_
  refine gs_0 (pc' := 56) (L' := [some (.ref l0), some (.int l1), some (.int l2), some (.int l3), some (.int s0), none, none, none, none]) (st' := [.int 1, .int l1, .ref l0]) cd_63_55 rfl rfl ?_
  refine gs_0 (pc' := 57) (L' := [some (.ref l0), some (.int l1), some (.int l2), some (.int l3), some (.int s0), none, none, none, none]) (st' := [.int (l1 + 1), .ref l0]) cd_63_56 rfl rfl ?_
  refine gs_0 (pc' := 59) (L' := [some (.ref l0), some (.int l1), some (.int l2), some (.int l3), some (.int s0), none, none, none, none]) (st' := [.int s0, .int (l1 + 1), .ref l0]) cd_63_57 rfl rfl ?_
  obtain ⟨ht, h⟩ := gO_s h
  obtain ⟨w_1, I_2, J_3, hcl, h⟩ := cV_s h
  refine gs_call (as := [.ref l0, .int (l1 + 1), .int s0]) (rest := []) cd_63_59 rfl (by decide) rfl (sm_rv_ok (by decide) ht) (Nat.le_of_ble_eq_true rfl) (Nat.le_of_ble_eq_true rfl) rfl hcl ?_
  refine gs_0 (pc' := 63) (L' := [some (.ref l0), some (.int l1), some (.int l2), some (.int l3), some (.int s0), none, none, none, none]) (st' := [.int l3]) cd_63_62 rfl rfl ?_
  refine gs_0 (pc' := if ¬ l3 = 0 then 71 else 66) (L' := [some (.ref l0), some (.int l1), some (.int l2), some (.int l3), some (.int s0), none, none, none, none]) (st' := []) cd_63_63 rfl rfl ?_
  refine go_ite (fun hc => ?_) (fun hc => ?_)
  · rw [if_pos hc] at h
    exact ok_63_71 h
  · rw [if_neg hc] at h
    refine gs_0 (pc' := 67) (L' := [some (.ref l0), some (.int l1), some (.int l2), some (.int l3), some (.int s0), none, none, none, none]) (st' := [.int l1]) cd_63_66 rfl rfl ?_
    refine gs_0 (pc' := 68) (L' := [some (.ref l0), some (.int l1), some (.int l2), some (.int l3), some (.int s0), none, none, none, none]) (st' := [.int 3, .int l1]) cd_63_67 rfl rfl ?_
    refine gs_0 (pc' := if ¬ l1 = 3 then 75 else 71) (L' := [some (.ref l0), some (.int l1), some (.int l2), some (.int l3), some (.int s0), none, none, none, none]) (st' := []) cd_63_68 rfl rfl ?_
    refine go_ite (fun hc => ?_) (fun hc => ?_)
    · rw [if_pos hc] at h
      refine gs_0 (pc' := 78) (L' := [some (.ref l0), some (.int l1), some (.int l2), some (.int l3), some (.int s0), none, none, none, none]) (st' := [.int 240]) cd_63_75 rfl rfl ?_
      exact ok_63_78 h
    · rw [if_neg hc] at h
      exact ok_63_71 h
noncomputable def f_63_40 (K : Nat → Value) (k d : Nat) (l0 : Nat) (l1 : Int32) (l2 : Int32) (l3 : Int32) (w : aW) (I : aI) (J : aJ) : Option aR :=
  if l3 = 0 then
    f_63_51 K k d l0 l1 l2 l3 l2 w I J
  else
    f_63_51 K k d l0 l1 l2 l3 (l2 + 1) w I J
theorem ok_63_40 {K : Nat → Value} {k d : Nat} {l0 : Nat} {l1 : Int32} {l2 : Int32} {l3 : Int32} {w : aW} {I : aI} {J : aJ} {R : aR} (h : f_63_40 K k d l0 l1 l2 l3 w I J = some R) : Go K (d + 1) 63 40 [some (.ref l0), some (.int l1), some (.int l2), some (.int l3), none, none, none, none, none] [] w I J R := by
  unfold f_63_40 at h
  refine gs_0 (pc' := 41) (L' := [some (.ref l0), some (.int l1), some (.int l2), some (.int l3), none, none, none, none, none]) (st' := [.int l3]) cd_63_40 rfl rfl ?_
  refine gs_0 (pc' := if l3 = 0 then 50 else 44) (L' := [some (.ref l0), some (.int l1), some (.int l2), some (.int l3), none, none, none, none, none]) (st' := []) cd_63_41 rfl rfl ?_
  refine go_ite (fun hc => ?_) (fun hc => ?_)
  · rw [if_pos hc] at h
    refine gs_0 (pc' := 51) (L' := [some (.ref l0), some (.int l1), some (.int l2), some (.int l3), none, none, none, none, none]) (st' := [.int l2]) cd_63_50 rfl rfl ?_
    exact ok_63_51 h
  · rw [if_neg hc] at h
    refine gs_0 (pc' := 45) (L' := [some (.ref l0), some (.int l1), some (.int l2), some (.int l3), none, none, none, none, none]) (st' := [.int l2]) cd_63_44 rfl rfl ?_
    refine gs_0 (pc' := 46) (L' := [some (.ref l0), some (.int l1), some (.int l2), some (.int l3), none, none, none, none, none]) (st' := [.int 1, .int l2]) cd_63_45 rfl rfl ?_
    refine gs_0 (pc' := 47) (L' := [some (.ref l0), some (.int l1), some (.int l2), some (.int l3), none, none, none, none, none]) (st' := [.int (l2 + 1)]) cd_63_46 rfl rfl ?_
    refine gs_0 (pc' := 51) (L' := [some (.ref l0), some (.int l1), some (.int l2), some (.int l3), none, none, none, none, none]) (st' := [.int (l2 + 1)]) cd_63_47 rfl rfl ?_
    exact ok_63_51 h
noncomputable def f_63_21 (K : Nat → Value) (k d : Nat) (l0 : Nat) (l1 : Int32) (l2 : Int32) (s0 : Int32) (w : aW) (I : aI) (J : aJ) : Option aR :=
  if s0 = 0 then
    f_63_40 K k d l0 l1 l2 s0 w I J
  else
    if l2 < 8 then
      f_63_40 K k d l0 l1 l2 s0 w I J
    else
      gO w 2 l0 (
      gV w l0 0 fun q_1 =>
      gO w 4 q_1 (
      cV (Cl K d 43 [.ref q_1] w I J) fun w_2 I_3 J_4 =>
      some (none, w_2, I_3, J_4)))
theorem ok_63_21 {K : Nat → Value} {k d : Nat} {l0 : Nat} {l1 : Int32} {l2 : Int32} {s0 : Int32} {w : aW} {I : aI} {J : aJ} {R : aR} (h : f_63_21 K k d l0 l1 l2 s0 w I J = some R) : Go K (d + 1) 63 21 [some (.ref l0), some (.int l1), some (.int l2), none, none, none, none, none, none] [.int s0] w I J R := by
  unfold f_63_21 at h
  refine gs_0 (pc' := 22) (L' := [some (.ref l0), some (.int l1), some (.int l2), some (.int s0), none, none, none, none, none]) (st' := []) cd_63_21 rfl rfl ?_
  refine gs_0 (pc' := 23) (L' := [some (.ref l0), some (.int l1), some (.int l2), some (.int s0), none, none, none, none, none]) (st' := [.int s0]) cd_63_22 rfl rfl ?_
  refine gs_0 (pc' := if s0 = 0 then 40 else 26) (L' := [some (.ref l0), some (.int l1), some (.int l2), some (.int s0), none, none, none, none, none]) (st' := []) cd_63_23 rfl rfl ?_
  refine go_ite (fun hc => ?_) (fun hc => ?_)
  · rw [if_pos hc] at h
    exact ok_63_40 h
  · rw [if_neg hc] at h
    refine gs_0 (pc' := 27) (L' := [some (.ref l0), some (.int l1), some (.int l2), some (.int s0), none, none, none, none, none]) (st' := [.int l2]) cd_63_26 rfl rfl ?_
    refine gs_0 (pc' := 29) (L' := [some (.ref l0), some (.int l1), some (.int l2), some (.int s0), none, none, none, none, none]) (st' := [.int 8, .int l2]) cd_63_27 rfl rfl ?_
    refine gs_0 (pc' := if l2 < 8 then 40 else 32) (L' := [some (.ref l0), some (.int l1), some (.int l2), some (.int s0), none, none, none, none, none]) (st' := []) cd_63_29 rfl rfl ?_
    refine go_ite (fun hc => ?_) (fun hc => ?_)
    · rw [if_pos hc] at h
      exact ok_63_40 h
    · rw [if_neg hc] at h
      refine gs_0 (pc' := 33) (L' := [some (.ref l0), some (.int l1), some (.int l2), some (.int s0), none, none, none, none, none]) (st' := [.ref l0]) cd_63_32 rfl rfl ?_
      obtain ⟨ht, h⟩ := gO_s h
      obtain ⟨q_1, hv, h⟩ := gV_s h
      refine gs_gfR cd_63_33 (by decide) ht hv ?_
      obtain ⟨ht, h⟩ := gO_s h
      obtain ⟨w_2, I_3, J_4, hcl, h⟩ := cV_s h
      refine gs_call (as := [.ref q_1]) (rest := []) cd_63_36 rfl (by decide) rfl (sm_rv_ok (by decide) ht) (Nat.le_of_ble_eq_true rfl) (Nat.le_of_ble_eq_true rfl) rfl hcl ?_
      cases h
      exact gsr cd_63_39 rfl rfl
noncomputable def f_63 (K : Nat → Value) (k d : Nat) (l0 : Nat) (l1 : Int32) (l2 : Int32) (w : aW) (I : aI) (J : aJ) : Option aR :=
  if l1 < 6 then
    if ¬ l1 = 0 then
      f_63_21 K k d l0 l1 l2 0 w I J
    else
      f_63_21 K k d l0 l1 l2 1 w I J
  else
    gO w 2 l0 (
    cV (Cl K d 64 [.ref l0, .int l2] w I J) fun w_1 I_2 J_3 =>
    some (none, w_1, I_2, J_3))
theorem ok_63 {K : Nat → Value} {k d : Nat} {l0 : Nat} {l1 : Int32} {l2 : Int32} {w : aW} {I : aI} {J : aJ} {R : aR} (h : f_63 K k d l0 l1 l2 w I J = some R) : Go K (d + 1) 63 0 [some (.ref l0), some (.int l1), some (.int l2), none, none, none, none, none, none] [] w I J R := by
  unfold f_63 at h
  refine gs_0 (pc' := 1) (L' := [some (.ref l0), some (.int l1), some (.int l2), none, none, none, none, none, none]) (st' := [.int l1]) cd_63_0 rfl rfl ?_
  refine gs_0 (pc' := 3) (L' := [some (.ref l0), some (.int l1), some (.int l2), none, none, none, none, none, none]) (st' := [.int 6, .int l1]) cd_63_1 rfl rfl ?_
  refine gs_0 (pc' := if l1 < 6 then 12 else 6) (L' := [some (.ref l0), some (.int l1), some (.int l2), none, none, none, none, none, none]) (st' := []) cd_63_3 rfl rfl ?_
  refine go_ite (fun hc => ?_) (fun hc => ?_)
  · rw [if_pos hc] at h
    refine gs_0 (pc' := 13) (L' := [some (.ref l0), some (.int l1), some (.int l2), none, none, none, none, none, none]) (st' := [.int l1]) cd_63_12 rfl rfl ?_
    refine gs_0 (pc' := if ¬ l1 = 0 then 20 else 16) (L' := [some (.ref l0), some (.int l1), some (.int l2), none, none, none, none, none, none]) (st' := []) cd_63_13 rfl rfl ?_
    refine go_ite (fun hc => ?_) (fun hc => ?_)
    · rw [if_pos hc] at h
      refine gs_0 (pc' := 21) (L' := [some (.ref l0), some (.int l1), some (.int l2), none, none, none, none, none, none]) (st' := [.int 0]) cd_63_20 rfl rfl ?_
      exact ok_63_21 h
    · rw [if_neg hc] at h
      refine gs_0 (pc' := 17) (L' := [some (.ref l0), some (.int l1), some (.int l2), none, none, none, none, none, none]) (st' := [.int 1]) cd_63_16 rfl rfl ?_
      refine gs_0 (pc' := 21) (L' := [some (.ref l0), some (.int l1), some (.int l2), none, none, none, none, none, none]) (st' := [.int 1]) cd_63_17 rfl rfl ?_
      exact ok_63_21 h
  · rw [if_neg hc] at h
    refine gs_0 (pc' := 7) (L' := [some (.ref l0), some (.int l1), some (.int l2), none, none, none, none, none, none]) (st' := [.ref l0]) cd_63_6 rfl rfl ?_
    refine gs_0 (pc' := 8) (L' := [some (.ref l0), some (.int l1), some (.int l2), none, none, none, none, none, none]) (st' := [.int l2, .ref l0]) cd_63_7 rfl rfl ?_
    obtain ⟨ht, h⟩ := gO_s h
    obtain ⟨w_1, I_2, J_3, hcl, h⟩ := cV_s h
    refine gs_call (as := [.ref l0, .int l2]) (rest := []) cd_63_8 rfl (by decide) rfl (sm_rv_ok (by decide) ht) (Nat.le_of_ble_eq_true rfl) (Nat.le_of_ble_eq_true rfl) rfl hcl ?_
    cases h
    exact gsr cd_63_11 rfl rfl
theorem cl_63 {K : Nat → Value} {k d : Nat} {l0 : Nat} {l1 : Int32} {l2 : Int32} {w : aW} {I : aI} {J : aJ} {R : aR} (h : f_63 K k d l0 l1 l2 w I J = some R) : Cl K (d + 1) 63 [.ref l0, .int l1, .int l2] w I J = some R := Cl_of (ok_63 h)
/-! ProvedMachine$Reader.readUnder(I)V -/
theorem gl_64 : gcd.lookup 64 = some gw_64 := rfl
theorem cd_64_0 : sm_cd 64 0 = some (.iload_n 1, 1, 1, 0, 0, 0, 0, 0, 0) := cd_of gl_64 rfl
theorem cd_64_1 : sm_cd 64 1 = some (.bipush 8, 2, 0, 0, 0, 0, 0, 8, 0) := cd_of gl_64 rfl
theorem cd_64_3 : sm_cd 64 3 = some (.if_icmp .lt 11, 3, 14, 0, 0, 0, 0, 0, 0) := cd_of gl_64 rfl
theorem cd_64_6 : sm_cd 64 6 = some (.aload_n 0, 1, 0, 0, 0, 0, 0, 0, 0) := cd_of gl_64 rfl
theorem cd_64_7 : sm_cd 64 7 = some (.getfield 12, 3, 2, 0, 2, 0, 0, 0, 0) := cd_of gl_64 rfl
theorem cd_64_10 : sm_cd 64 10 = some (.invokevirtual 171, 3, 43, 0, 0, 1, 4, 0, 0) := cd_of gl_64 rfl
theorem cd_64_13 : sm_cd 64 13 = some (.return_, 1, 0, 0, 0, 0, 0, 0, 0) := cd_of gl_64 rfl
theorem cd_64_14 : sm_cd 64 14 = some (.aload_n 0, 1, 0, 0, 0, 0, 0, 0, 0) := cd_of gl_64 rfl
theorem cd_64_15 : sm_cd 64 15 = some (.getfield 12, 3, 2, 0, 2, 0, 0, 0, 0) := cd_of gl_64 rfl
theorem cd_64_18 : sm_cd 64 18 = some (.invokevirtual 78, 3, 44, 0, 0, 1, 4, 0, 0) := cd_of gl_64 rfl
theorem cd_64_21 : sm_cd 64 21 = some (.istore_n 2, 1, 2, 0, 0, 0, 0, 0, 0) := cd_of gl_64 rfl
theorem cd_64_22 : sm_cd 64 22 = some (.aload_n 0, 1, 0, 0, 0, 0, 0, 0, 0) := cd_of gl_64 rfl
theorem cd_64_23 : sm_cd 64 23 = some (.getfield 12, 3, 2, 0, 2, 0, 0, 0, 0) := cd_of gl_64 rfl
theorem cd_64_26 : sm_cd 64 26 = some (.invokevirtual 93, 3, 37, 0, 0, 1, 4, 0, 0) := cd_of gl_64 rfl
theorem cd_64_29 : sm_cd 64 29 = some (.istore_n 3, 1, 3, 0, 0, 0, 0, 0, 0) := cd_of gl_64 rfl
theorem cd_64_30 : sm_cd 64 30 = some (.iload_n 3, 1, 3, 0, 0, 0, 0, 0, 0) := cd_of gl_64 rfl
theorem cd_64_31 : sm_cd 64 31 = some (.invokestatic 206, 3, 65, 1, 1, 1, 2, 0, 0) := cd_of gl_64 rfl
theorem cd_64_34 : sm_cd 64 34 = some (.istore 4, 2, 4, 0, 0, 0, 0, 0, 0) := cd_of gl_64 rfl
theorem cd_64_36 : sm_cd 64 36 = some (.iload 4, 2, 4, 0, 0, 0, 0, 0, 0) := cd_of gl_64 rfl
theorem cd_64_38 : sm_cd 64 38 = some (.iconst (-1), 1, 0, 0, 0, 0, 0, (-1), 0) := cd_of gl_64 rfl
theorem cd_64_39 : sm_cd 64 39 = some (.if_icmp .eq 25, 3, 64, 0, 0, 0, 0, 0, 0) := cd_of gl_64 rfl
theorem cd_64_42 : sm_cd 64 42 = some (.aload_n 0, 1, 0, 0, 0, 0, 0, 0, 0) := cd_of gl_64 rfl
theorem cd_64_43 : sm_cd 64 43 = some (.getfield 12, 3, 2, 0, 2, 0, 0, 0, 0) := cd_of gl_64 rfl
theorem cd_64_46 : sm_cd 64 46 = some (.invokevirtual 146, 3, 42, 0, 0, 1, 4, 0, 0) := cd_of gl_64 rfl
theorem cd_64_49 : sm_cd 64 49 = some (.aload_n 0, 1, 0, 0, 0, 0, 0, 0, 0) := cd_of gl_64 rfl
theorem cd_64_50 : sm_cd 64 50 = some (.iload_n 1, 1, 1, 0, 0, 0, 0, 0, 0) := cd_of gl_64 rfl
theorem cd_64_51 : sm_cd 64 51 = some (.iconst 1, 1, 0, 0, 0, 0, 0, 1, 0) := cd_of gl_64 rfl
theorem cd_64_52 : sm_cd 64 52 = some (.iadd, 1, 0, 0, 0, 0, 0, 0, 0) := cd_of gl_64 rfl
theorem cd_64_53 : sm_cd 64 53 = some (.invokevirtual 194, 3, 64, 0, 1, 7, 2, 0, 0) := cd_of gl_64 rfl
theorem cd_64_56 : sm_cd 64 56 = some (.aload_n 0, 1, 0, 0, 0, 0, 0, 0, 0) := cd_of gl_64 rfl
theorem cd_64_57 : sm_cd 64 57 = some (.iload 4, 2, 4, 0, 0, 0, 0, 0, 0) := cd_of gl_64 rfl
theorem cd_64_59 : sm_cd 64 59 = some (.iload_n 2, 1, 2, 0, 0, 0, 0, 0, 0) := cd_of gl_64 rfl
theorem cd_64_60 : sm_cd 64 60 = some (.invokevirtual 203, 3, 66, 0, 2, 6, 2, 0, 0) := cd_of gl_64 rfl
theorem cd_64_63 : sm_cd 64 63 = some (.return_, 1, 0, 0, 0, 0, 0, 0, 0) := cd_of gl_64 rfl
theorem cd_64_64 : sm_cd 64 64 = some (.iload_n 3, 1, 3, 0, 0, 0, 0, 0, 0) := cd_of gl_64 rfl
theorem cd_64_65 : sm_cd 64 65 = some (.iconst 1, 1, 0, 0, 0, 0, 0, 1, 0) := cd_of gl_64 rfl
theorem cd_64_66 : sm_cd 64 66 = some (.if_icmp .ne 13, 3, 79, 0, 0, 0, 0, 0, 0) := cd_of gl_64 rfl
theorem cd_64_69 : sm_cd 64 69 = some (.aload_n 0, 1, 0, 0, 0, 0, 0, 0, 0) := cd_of gl_64 rfl
theorem cd_64_70 : sm_cd 64 70 = some (.iload_n 1, 1, 1, 0, 0, 0, 0, 0, 0) := cd_of gl_64 rfl
theorem cd_64_71 : sm_cd 64 71 = some (.iconst 1, 1, 0, 0, 0, 0, 0, 1, 0) := cd_of gl_64 rfl
theorem cd_64_72 : sm_cd 64 72 = some (.iadd, 1, 0, 0, 0, 0, 0, 0, 0) := cd_of gl_64 rfl
theorem cd_64_73 : sm_cd 64 73 = some (.invokevirtual 209, 3, 69, 0, 1, 6, 2, 0, 0) := cd_of gl_64 rfl
theorem cd_64_76 : sm_cd 64 76 = some (.goto 40, 3, 116, 0, 0, 0, 0, 0, 0) := cd_of gl_64 rfl
theorem cd_64_79 : sm_cd 64 79 = some (.iload_n 3, 1, 3, 0, 0, 0, 0, 0, 0) := cd_of gl_64 rfl
theorem cd_64_80 : sm_cd 64 80 = some (.bipush 40, 2, 0, 0, 0, 0, 0, 40, 0) := cd_of gl_64 rfl
theorem cd_64_82 : sm_cd 64 82 = some (.if_icmp .ne 30, 3, 112, 0, 0, 0, 0, 0, 0) := cd_of gl_64 rfl
theorem cd_64_85 : sm_cd 64 85 = some (.aload_n 0, 1, 0, 0, 0, 0, 0, 0, 0) := cd_of gl_64 rfl
theorem cd_64_86 : sm_cd 64 86 = some (.getfield 12, 3, 2, 0, 2, 0, 0, 0, 0) := cd_of gl_64 rfl
theorem cd_64_89 : sm_cd 64 89 = some (.invokevirtual 146, 3, 42, 0, 0, 1, 4, 0, 0) := cd_of gl_64 rfl
theorem cd_64_92 : sm_cd 64 92 = some (.aload_n 0, 1, 0, 0, 0, 0, 0, 0, 0) := cd_of gl_64 rfl
theorem cd_64_93 : sm_cd 64 93 = some (.iconst 0, 1, 0, 0, 0, 0, 0, 0, 0) := cd_of gl_64 rfl
theorem cd_64_94 : sm_cd 64 94 = some (.iload_n 1, 1, 1, 0, 0, 0, 0, 0, 0) := cd_of gl_64 rfl
theorem cd_64_95 : sm_cd 64 95 = some (.iconst 1, 1, 0, 0, 0, 0, 0, 1, 0) := cd_of gl_64 rfl
theorem cd_64_96 : sm_cd 64 96 = some (.iadd, 1, 0, 0, 0, 0, 0, 0, 0) := cd_of gl_64 rfl
theorem cd_64_97 : sm_cd 64 97 = some (.invokevirtual 177, 3, 63, 0, 2, 9, 2, 0, 0) := cd_of gl_64 rfl
theorem cd_64_100 : sm_cd 64 100 = some (.aload_n 0, 1, 0, 0, 0, 0, 0, 0, 0) := cd_of gl_64 rfl
theorem cd_64_101 : sm_cd 64 101 = some (.getfield 12, 3, 2, 0, 2, 0, 0, 0, 0) := cd_of gl_64 rfl
theorem cd_64_104 : sm_cd 64 104 = some (.bipush 41, 2, 0, 0, 0, 0, 0, 41, 0) := cd_of gl_64 rfl
theorem cd_64_106 : sm_cd 64 106 = some (.invokevirtual 116, 3, 41, 0, 1, 2, 4, 0, 0) := cd_of gl_64 rfl
theorem cd_64_109 : sm_cd 64 109 = some (.goto 7, 3, 116, 0, 0, 0, 0, 0, 0) := cd_of gl_64 rfl
theorem cd_64_112 : sm_cd 64 112 = some (.aload_n 0, 1, 0, 0, 0, 0, 0, 0, 0) := cd_of gl_64 rfl
theorem cd_64_113 : sm_cd 64 113 = some (.invokevirtual 212, 3, 72, 0, 0, 1, 2, 0, 0) := cd_of gl_64 rfl
theorem cd_64_116 : sm_cd 64 116 = some (.iconst 0, 1, 0, 0, 0, 0, 0, 0, 0) := cd_of gl_64 rfl
theorem cd_64_117 : sm_cd 64 117 = some (.istore 5, 2, 5, 0, 0, 0, 0, 0, 0) := cd_of gl_64 rfl
theorem cd_64_119 : sm_cd 64 119 = some (.iload 5, 2, 5, 0, 0, 0, 0, 0, 0) := cd_of gl_64 rfl
theorem cd_64_121 : sm_cd 64 121 = some (.sipush 240, 3, 0, 0, 0, 0, 0, 240, 0) := cd_of gl_64 rfl
theorem cd_64_124 : sm_cd 64 124 = some (.if_icmp .ge 62, 3, 186, 0, 0, 0, 0, 0, 0) := cd_of gl_64 rfl
theorem cd_64_127 : sm_cd 64 127 = some (.aload_n 0, 1, 0, 0, 0, 0, 0, 0, 0) := cd_of gl_64 rfl
theorem cd_64_128 : sm_cd 64 128 = some (.getfield 12, 3, 2, 0, 2, 0, 0, 0, 0) := cd_of gl_64 rfl
theorem cd_64_131 : sm_cd 64 131 = some (.invokevirtual 93, 3, 37, 0, 0, 1, 4, 0, 0) := cd_of gl_64 rfl
theorem cd_64_134 : sm_cd 64 134 = some (.bipush 91, 2, 0, 0, 0, 0, 0, 91, 0) := cd_of gl_64 rfl
theorem cd_64_136 : sm_cd 64 136 = some (.if_icmp .ne 50, 3, 186, 0, 0, 0, 0, 0, 0) := cd_of gl_64 rfl
theorem cd_64_139 : sm_cd 64 139 = some (.aload_n 0, 1, 0, 0, 0, 0, 0, 0, 0) := cd_of gl_64 rfl
theorem cd_64_140 : sm_cd 64 140 = some (.getfield 12, 3, 2, 0, 2, 0, 0, 0, 0) := cd_of gl_64 rfl
theorem cd_64_143 : sm_cd 64 143 = some (.invokevirtual 78, 3, 44, 0, 0, 1, 4, 0, 0) := cd_of gl_64 rfl
theorem cd_64_146 : sm_cd 64 146 = some (.istore 6, 2, 6, 0, 0, 0, 0, 0, 0) := cd_of gl_64 rfl
theorem cd_64_148 : sm_cd 64 148 = some (.aload_n 0, 1, 0, 0, 0, 0, 0, 0, 0) := cd_of gl_64 rfl
theorem cd_64_149 : sm_cd 64 149 = some (.getfield 12, 3, 2, 0, 2, 0, 0, 0, 0) := cd_of gl_64 rfl
theorem cd_64_152 : sm_cd 64 152 = some (.invokevirtual 146, 3, 42, 0, 0, 1, 4, 0, 0) := cd_of gl_64 rfl
theorem cd_64_155 : sm_cd 64 155 = some (.aload_n 0, 1, 0, 0, 0, 0, 0, 0, 0) := cd_of gl_64 rfl
theorem cd_64_156 : sm_cd 64 156 = some (.iconst 0, 1, 0, 0, 0, 0, 0, 0, 0) := cd_of gl_64 rfl
theorem cd_64_157 : sm_cd 64 157 = some (.iload_n 1, 1, 1, 0, 0, 0, 0, 0, 0) := cd_of gl_64 rfl
theorem cd_64_158 : sm_cd 64 158 = some (.iconst 1, 1, 0, 0, 0, 0, 0, 1, 0) := cd_of gl_64 rfl
theorem cd_64_159 : sm_cd 64 159 = some (.iadd, 1, 0, 0, 0, 0, 0, 0, 0) := cd_of gl_64 rfl
theorem cd_64_160 : sm_cd 64 160 = some (.invokevirtual 177, 3, 63, 0, 2, 9, 2, 0, 0) := cd_of gl_64 rfl
theorem cd_64_163 : sm_cd 64 163 = some (.aload_n 0, 1, 0, 0, 0, 0, 0, 0, 0) := cd_of gl_64 rfl
theorem cd_64_164 : sm_cd 64 164 = some (.getfield 12, 3, 2, 0, 2, 0, 0, 0, 0) := cd_of gl_64 rfl
theorem cd_64_167 : sm_cd 64 167 = some (.bipush 93, 2, 0, 0, 0, 0, 0, 93, 0) := cd_of gl_64 rfl
theorem cd_64_169 : sm_cd 64 169 = some (.invokevirtual 116, 3, 41, 0, 1, 2, 4, 0, 0) := cd_of gl_64 rfl
theorem cd_64_172 : sm_cd 64 172 = some (.aload_n 0, 1, 0, 0, 0, 0, 0, 0, 0) := cd_of gl_64 rfl
theorem cd_64_173 : sm_cd 64 173 = some (.bipush 11, 2, 0, 0, 0, 0, 0, 11, 0) := cd_of gl_64 rfl
theorem cd_64_175 : sm_cd 64 175 = some (.iload 6, 2, 6, 0, 0, 0, 0, 0, 0) := cd_of gl_64 rfl
theorem cd_64_177 : sm_cd 64 177 = some (.invokevirtual 203, 3, 66, 0, 2, 6, 2, 0, 0) := cd_of gl_64 rfl
theorem cd_64_180 : sm_cd 64 180 = some (.iinc 5 1, 3, 5, 0, 0, 0, 0, 1, 0) := cd_of gl_64 rfl
theorem cd_64_183 : sm_cd 64 183 = some (.goto (-64), 3, 119, 0, 0, 0, 0, 0, 0) := cd_of gl_64 rfl
theorem cd_64_186 : sm_cd 64 186 = some (.return_, 1, 0, 0, 0, 0, 0, 0, 0) := cd_of gl_64 rfl
noncomputable def f_64_119 (K : Nat → Value) (k : Nat) (d : Nat) : Nat → Int32 → Int32 → Int32 → Int32 → Int32 → aW → aI → aJ → Option aR :=
  match k with
  | 0 => fun _ _ _ _ _ _ _ _ _ => none
  | k + 1 => fun l0 l1 l2 l3 l4 l5 w I J =>
  lt_ (f_64_119 K k d) fun r119 =>
  if 240 ≤ l5 then
    some (none, w, I, J)
  else
    gO w 2 l0 (
    gV w l0 0 fun q_1 =>
    gO w 4 q_1 (
    cI (Cl K d 37 [.ref q_1] w I J) fun x_5 w_2 I_3 J_4 =>
    if ¬ x_5 = 91 then
      some (none, w_2, I_3, J_4)
    else
      gO w_2 2 l0 (
      gV w_2 l0 0 fun q_6 =>
      gO w_2 4 q_6 (
      cI (Cl K d 44 [.ref q_6] w_2 I_3 J_4) fun x_10 w_7 I_8 J_9 =>
      gO w_7 2 l0 (
      gV w_7 l0 0 fun q_11 =>
      gO w_7 4 q_11 (
      cV (Cl K d 42 [.ref q_11] w_7 I_8 J_9) fun w_12 I_13 J_14 =>
      gO w_12 2 l0 (
      cV (Cl K d 63 [.ref l0, .int 0, .int (l1 + 1)] w_12 I_13 J_14) fun w_15 I_16 J_17 =>
      gO w_15 2 l0 (
      gV w_15 l0 0 fun q_18 =>
      gO w_15 4 q_18 (
      cV (Cl K d 41 [.ref q_18, .int 93] w_15 I_16 J_17) fun w_19 I_20 J_21 =>
      gO w_19 2 l0 (
      cV (Cl K d 66 [.ref l0, .int 11, .int x_10] w_19 I_20 J_21) fun w_22 I_23 J_24 =>
      lt_ (l5 + 1) fun x_25 =>
      r119 l0 l1 l2 l3 l4 x_25 w_22 I_23 J_24))))))))))
theorem ok_64_119 {K : Nat → Value} {d : Nat} : ∀ {k : Nat} {l0 : Nat} {l1 : Int32} {l2 : Int32} {l3 : Int32} {l4 : Int32} {l5 : Int32} {w : aW} {I : aI} {J : aJ} {R : aR}, f_64_119 K k d l0 l1 l2 l3 l4 l5 w I J = some R → Go K (d + 1) 64 119 [some (.ref l0), some (.int l1), some (.int l2), some (.int l3), some (.int l4), some (.int l5), none] [] w I J R := by
  intro k
  induction k with
  | zero => intro l0 l1 l2 l3 l4 l5 w I J R h; cases h
  | succ k ih =>
    intro l0 l1 l2 l3 l4 l5 w I J R h
    have hr119 : ∀ (l0 : Nat) (l1 : Int32) (l2 : Int32) (l3 : Int32) (l4 : Int32) (l5 : Int32) (w : aW) (I : aI) (J : aJ) (R : aR), f_64_119 K k d l0 l1 l2 l3 l4 l5 w I J = some R → Go K (d + 1) 64 119 [some (.ref l0), some (.int l1), some (.int l2), some (.int l3), some (.int l4), some (.int l5), none] [] w I J R := fun l0 l1 l2 l3 l4 l5 w I J R h => ih h
    rw [f_64_119] at h
    obtain ⟨r119, hx, h⟩ := lt_s_ h
    rw [hx] at hr119
    clear hx ih
    refine gs_0 (pc' := 121) (L' := [some (.ref l0), some (.int l1), some (.int l2), some (.int l3), some (.int l4), some (.int l5), none]) (st' := [.int l5]) cd_64_119 rfl rfl ?_
    refine gs_0 (pc' := 124) (L' := [some (.ref l0), some (.int l1), some (.int l2), some (.int l3), some (.int l4), some (.int l5), none]) (st' := [.int 240, .int l5]) cd_64_121 rfl rfl ?_
    refine gs_0 (pc' := if 240 ≤ l5 then 186 else 127) (L' := [some (.ref l0), some (.int l1), some (.int l2), some (.int l3), some (.int l4), some (.int l5), none]) (st' := []) cd_64_124 rfl rfl ?_
    refine go_ite (fun hc => ?_) (fun hc => ?_)
    · rw [if_pos hc] at h
      cases h
      exact gsr cd_64_186 rfl rfl
    · rw [if_neg hc] at h
      refine gs_0 (pc' := 128) (L' := [some (.ref l0), some (.int l1), some (.int l2), some (.int l3), some (.int l4), some (.int l5), none]) (st' := [.ref l0]) cd_64_127 rfl rfl ?_
      obtain ⟨ht, h⟩ := gO_s h
      obtain ⟨q_1, hv, h⟩ := gV_s h
      refine gs_gfR cd_64_128 (by decide) ht hv ?_
      obtain ⟨ht, h⟩ := gO_s h
      obtain ⟨x_5, w_2, I_3, J_4, hcl, h⟩ := cI_s h
      refine gs_call (as := [.ref q_1]) (rest := []) cd_64_131 rfl (by decide) rfl (sm_rv_ok (by decide) ht) (Nat.le_of_ble_eq_true rfl) (Nat.le_of_ble_eq_true rfl) rfl hcl ?_
      refine gs_0 (pc' := 136) (L' := [some (.ref l0), some (.int l1), some (.int l2), some (.int l3), some (.int l4), some (.int l5), none]) (st' := [.int 91, .int x_5]) cd_64_134 rfl rfl ?_
      refine gs_0 (pc' := if ¬ x_5 = 91 then 186 else 139) (L' := [some (.ref l0), some (.int l1), some (.int l2), some (.int l3), some (.int l4), some (.int l5), none]) (st' := []) cd_64_136 rfl rfl ?_
      refine go_ite (fun hc => ?_) (fun hc => ?_)
      · rw [if_pos hc] at h
        cases h
        exact gsr cd_64_186 rfl rfl
      · rw [if_neg hc] at h
        refine gs_0 (pc' := 140) (L' := [some (.ref l0), some (.int l1), some (.int l2), some (.int l3), some (.int l4), some (.int l5), none]) (st' := [.ref l0]) cd_64_139 rfl rfl ?_
        obtain ⟨ht, h⟩ := gO_s h
        obtain ⟨q_6, hv, h⟩ := gV_s h
        refine gs_gfR cd_64_140 (by decide) ht hv ?_
        obtain ⟨ht, h⟩ := gO_s h
        obtain ⟨x_10, w_7, I_8, J_9, hcl, h⟩ := cI_s h
        refine gs_call (as := [.ref q_6]) (rest := []) cd_64_143 rfl (by decide) rfl (sm_rv_ok (by decide) ht) (Nat.le_of_ble_eq_true rfl) (Nat.le_of_ble_eq_true rfl) rfl hcl ?_
        refine gs_0 (pc' := 148) (L' := [some (.ref l0), some (.int l1), some (.int l2), some (.int l3), some (.int l4), some (.int l5), some (.int x_10)]) (st' := []) cd_64_146 rfl rfl ?_
        refine gs_0 (pc' := 149) (L' := [some (.ref l0), some (.int l1), some (.int l2), some (.int l3), some (.int l4), some (.int l5), some (.int x_10)]) (st' := [.ref l0]) cd_64_148 rfl rfl ?_
        obtain ⟨ht, h⟩ := gO_s h
        obtain ⟨q_11, hv, h⟩ := gV_s h
        refine gs_gfR cd_64_149 (by decide) ht hv ?_
        obtain ⟨ht, h⟩ := gO_s h
        obtain ⟨w_12, I_13, J_14, hcl, h⟩ := cV_s h
        refine gs_call (as := [.ref q_11]) (rest := []) cd_64_152 rfl (by decide) rfl (sm_rv_ok (by decide) ht) (Nat.le_of_ble_eq_true rfl) (Nat.le_of_ble_eq_true rfl) rfl hcl ?_
        refine gs_0 (pc' := 156) (L' := [some (.ref l0), some (.int l1), some (.int l2), some (.int l3), some (.int l4), some (.int l5), some (.int x_10)]) (st' := [.ref l0]) cd_64_155 rfl rfl ?_
        refine gs_0 (pc' := 157) (L' := [some (.ref l0), some (.int l1), some (.int l2), some (.int l3), some (.int l4), some (.int l5), some (.int x_10)]) (st' := [.int 0, .ref l0]) cd_64_156 rfl rfl ?_
        refine gs_0 (pc' := 158) (L' := [some (.ref l0), some (.int l1), some (.int l2), some (.int l3), some (.int l4), some (.int l5), some (.int x_10)]) (st' := [.int l1, .int 0, .ref l0]) cd_64_157 rfl rfl ?_
        refine gs_0 (pc' := 159) (L' := [some (.ref l0), some (.int l1), some (.int l2), some (.int l3), some (.int l4), some (.int l5), some (.int x_10)]) (st' := [.int 1, .int l1, .int 0, .ref l0]) cd_64_158 rfl rfl ?_
        refine gs_0 (pc' := 160) (L' := [some (.ref l0), some (.int l1), some (.int l2), some (.int l3), some (.int l4), some (.int l5), some (.int x_10)]) (st' := [.int (l1 + 1), .int 0, .ref l0]) cd_64_159 rfl rfl ?_
        obtain ⟨ht, h⟩ := gO_s h
        obtain ⟨w_15, I_16, J_17, hcl, h⟩ := cV_s h
        refine gs_call (as := [.ref l0, .int 0, .int (l1 + 1)]) (rest := []) cd_64_160 rfl (by decide) rfl (sm_rv_ok (by decide) ht) (Nat.le_of_ble_eq_true rfl) (Nat.le_of_ble_eq_true rfl) rfl hcl ?_
        refine gs_0 (pc' := 164) (L' := [some (.ref l0), some (.int l1), some (.int l2), some (.int l3), some (.int l4), some (.int l5), some (.int x_10)]) (st' := [.ref l0]) cd_64_163 rfl rfl ?_
        obtain ⟨ht, h⟩ := gO_s h
        obtain ⟨q_18, hv, h⟩ := gV_s h
        refine gs_gfR cd_64_164 (by decide) ht hv ?_
        refine gs_0 (pc' := 169) (L' := [some (.ref l0), some (.int l1), some (.int l2), some (.int l3), some (.int l4), some (.int l5), some (.int x_10)]) (st' := [.int 93, .ref q_18]) cd_64_167 rfl rfl ?_
        obtain ⟨ht, h⟩ := gO_s h
        obtain ⟨w_19, I_20, J_21, hcl, h⟩ := cV_s h
        refine gs_call (as := [.ref q_18, .int 93]) (rest := []) cd_64_169 rfl (by decide) rfl (sm_rv_ok (by decide) ht) (Nat.le_of_ble_eq_true rfl) (Nat.le_of_ble_eq_true rfl) rfl hcl ?_
        refine gs_0 (pc' := 173) (L' := [some (.ref l0), some (.int l1), some (.int l2), some (.int l3), some (.int l4), some (.int l5), some (.int x_10)]) (st' := [.ref l0]) cd_64_172 rfl rfl ?_
        refine gs_0 (pc' := 175) (L' := [some (.ref l0), some (.int l1), some (.int l2), some (.int l3), some (.int l4), some (.int l5), some (.int x_10)]) (st' := [.int 11, .ref l0]) cd_64_173 rfl rfl ?_
        refine gs_0 (pc' := 177) (L' := [some (.ref l0), some (.int l1), some (.int l2), some (.int l3), some (.int l4), some (.int l5), some (.int x_10)]) (st' := [.int x_10, .int 11, .ref l0]) cd_64_175 rfl rfl ?_
        obtain ⟨ht, h⟩ := gO_s h
        obtain ⟨w_22, I_23, J_24, hcl, h⟩ := cV_s h
        refine gs_call (as := [.ref l0, .int 11, .int x_10]) (rest := []) cd_64_177 rfl (by decide) rfl (sm_rv_ok (by decide) ht) (Nat.le_of_ble_eq_true rfl) (Nat.le_of_ble_eq_true rfl) rfl hcl ?_
        refine gs_0 (pc' := 183) (L' := [some (.ref l0), some (.int l1), some (.int l2), some (.int l3), some (.int l4), some (.int (l5 + 1)), some (.int x_10)]) (st' := []) cd_64_180 rfl rfl ?_
        obtain ⟨x_25, hx, h⟩ := lt_s_ h
        rw [hx]
        clear hx
        refine gs_0 (pc' := 119) (L' := [some (.ref l0), some (.int l1), some (.int l2), some (.int l3), some (.int l4), some (.int x_25), some (.int x_10)]) (st' := []) cd_64_183 rfl rfl ?_
        refine go_drop [some (.ref l0), some (.int l1), some (.int l2), some (.int l3), some (.int l4), some (.int x_25), none] ⟨rfl, ⟨rfl, ⟨rfl, ⟨rfl, ⟨rfl, ⟨rfl, ⟨rfl, trivial⟩⟩⟩⟩⟩⟩⟩ ?_
        exact hr119 l0 l1 l2 l3 l4 x_25 _ _ _ _ h
noncomputable def f_64_116 (K : Nat → Value) (k d : Nat) (l0 : Nat) (l1 : Int32) (l2 : Int32) (l3 : Int32) (l4 : Int32) (w : aW) (I : aI) (J : aJ) : Option aR :=
  f_64_119 K k d l0 l1 l2 l3 l4 0 w I J
theorem ok_64_116 {K : Nat → Value} {k d : Nat} {l0 : Nat} {l1 : Int32} {l2 : Int32} {l3 : Int32} {l4 : Int32} {w : aW} {I : aI} {J : aJ} {R : aR} (h : f_64_116 K k d l0 l1 l2 l3 l4 w I J = some R) : Go K (d + 1) 64 116 [some (.ref l0), some (.int l1), some (.int l2), some (.int l3), some (.int l4), none, none] [] w I J R := by
  unfold f_64_116 at h
  refine gs_0 (pc' := 117) (L' := [some (.ref l0), some (.int l1), some (.int l2), some (.int l3), some (.int l4), none, none]) (st' := [.int 0]) cd_64_116 rfl rfl ?_
  refine gs_0 (pc' := 119) (L' := [some (.ref l0), some (.int l1), some (.int l2), some (.int l3), some (.int l4), some (.int 0), none]) (st' := []) cd_64_117 rfl rfl ?_
  exact ok_64_119 h
noncomputable def f_64 (K : Nat → Value) (k d : Nat) (l0 : Nat) (l1 : Int32) (w : aW) (I : aI) (J : aJ) : Option aR :=
  if l1 < 8 then
    gO w 2 l0 (
    gV w l0 0 fun q_1 =>
    gO w 4 q_1 (
    cI (Cl K d 44 [.ref q_1] w I J) fun x_5 w_2 I_3 J_4 =>
    gO w_2 2 l0 (
    gV w_2 l0 0 fun q_6 =>
    gO w_2 4 q_6 (
    cI (Cl K d 37 [.ref q_6] w_2 I_3 J_4) fun x_10 w_7 I_8 J_9 =>
    cI (Cl K d 65 [.int x_10] w_7 I_8 J_9) fun x_14 w_11 I_12 J_13 =>
    if x_14 = (-1) then
      if ¬ x_10 = 1 then
        if ¬ x_10 = 40 then
          gO w_11 2 l0 (
          cV (Cl K d 72 [.ref l0] w_11 I_12 J_13) fun w_15 I_16 J_17 =>
          f_64_116 K k d l0 l1 x_5 x_10 x_14 w_15 I_16 J_17)
        else
          gO w_11 2 l0 (
          gV w_11 l0 0 fun q_18 =>
          gO w_11 4 q_18 (
          cV (Cl K d 42 [.ref q_18] w_11 I_12 J_13) fun w_19 I_20 J_21 =>
          gO w_19 2 l0 (
          cV (Cl K d 63 [.ref l0, .int 0, .int (l1 + 1)] w_19 I_20 J_21) fun w_22 I_23 J_24 =>
          gO w_22 2 l0 (
          gV w_22 l0 0 fun q_25 =>
          gO w_22 4 q_25 (
          cV (Cl K d 41 [.ref q_25, .int 41] w_22 I_23 J_24) fun w_26 I_27 J_28 =>
          f_64_116 K k d l0 l1 x_5 x_10 x_14 w_26 I_27 J_28)))))
      else
        gO w_11 2 l0 (
        cV (Cl K d 69 [.ref l0, .int (l1 + 1)] w_11 I_12 J_13) fun w_29 I_30 J_31 =>
        f_64_116 K k d l0 l1 x_5 x_10 x_14 w_29 I_30 J_31)
    else
      gO w_11 2 l0 (
      gV w_11 l0 0 fun q_32 =>
      gO w_11 4 q_32 (
      cV (Cl K d 42 [.ref q_32] w_11 I_12 J_13) fun w_33 I_34 J_35 =>
      gO w_33 2 l0 (
      cV (Cl K d 64 [.ref l0, .int (l1 + 1)] w_33 I_34 J_35) fun w_36 I_37 J_38 =>
      gO w_36 2 l0 (
      cV (Cl K d 66 [.ref l0, .int x_14, .int x_5] w_36 I_37 J_38) fun w_39 I_40 J_41 =>
      some (none, w_39, I_40, J_41)))))))))
  else
    gO w 2 l0 (
    gV w l0 0 fun q_42 =>
    gO w 4 q_42 (
    cV (Cl K d 43 [.ref q_42] w I J) fun w_43 I_44 J_45 =>
    some (none, w_43, I_44, J_45)))
theorem ok_64 {K : Nat → Value} {k d : Nat} {l0 : Nat} {l1 : Int32} {w : aW} {I : aI} {J : aJ} {R : aR} (h : f_64 K k d l0 l1 w I J = some R) : Go K (d + 1) 64 0 [some (.ref l0), some (.int l1), none, none, none, none, none] [] w I J R := by
  unfold f_64 at h
  refine gs_0 (pc' := 1) (L' := [some (.ref l0), some (.int l1), none, none, none, none, none]) (st' := [.int l1]) cd_64_0 rfl rfl ?_
  refine gs_0 (pc' := 3) (L' := [some (.ref l0), some (.int l1), none, none, none, none, none]) (st' := [.int 8, .int l1]) cd_64_1 rfl rfl ?_
  refine gs_0 (pc' := if l1 < 8 then 14 else 6) (L' := [some (.ref l0), some (.int l1), none, none, none, none, none]) (st' := []) cd_64_3 rfl rfl ?_
  refine go_ite (fun hc => ?_) (fun hc => ?_)
  · rw [if_pos hc] at h
    refine gs_0 (pc' := 15) (L' := [some (.ref l0), some (.int l1), none, none, none, none, none]) (st' := [.ref l0]) cd_64_14 rfl rfl ?_
    obtain ⟨ht, h⟩ := gO_s h
    obtain ⟨q_1, hv, h⟩ := gV_s h
    refine gs_gfR cd_64_15 (by decide) ht hv ?_
    obtain ⟨ht, h⟩ := gO_s h
    obtain ⟨x_5, w_2, I_3, J_4, hcl, h⟩ := cI_s h
    refine gs_call (as := [.ref q_1]) (rest := []) cd_64_18 rfl (by decide) rfl (sm_rv_ok (by decide) ht) (Nat.le_of_ble_eq_true rfl) (Nat.le_of_ble_eq_true rfl) rfl hcl ?_
    refine gs_0 (pc' := 22) (L' := [some (.ref l0), some (.int l1), some (.int x_5), none, none, none, none]) (st' := []) cd_64_21 rfl rfl ?_
    refine gs_0 (pc' := 23) (L' := [some (.ref l0), some (.int l1), some (.int x_5), none, none, none, none]) (st' := [.ref l0]) cd_64_22 rfl rfl ?_
    obtain ⟨ht, h⟩ := gO_s h
    obtain ⟨q_6, hv, h⟩ := gV_s h
    refine gs_gfR cd_64_23 (by decide) ht hv ?_
    obtain ⟨ht, h⟩ := gO_s h
    obtain ⟨x_10, w_7, I_8, J_9, hcl, h⟩ := cI_s h
    refine gs_call (as := [.ref q_6]) (rest := []) cd_64_26 rfl (by decide) rfl (sm_rv_ok (by decide) ht) (Nat.le_of_ble_eq_true rfl) (Nat.le_of_ble_eq_true rfl) rfl hcl ?_
    refine gs_0 (pc' := 30) (L' := [some (.ref l0), some (.int l1), some (.int x_5), some (.int x_10), none, none, none]) (st' := []) cd_64_29 rfl rfl ?_
    refine gs_0 (pc' := 31) (L' := [some (.ref l0), some (.int l1), some (.int x_5), some (.int x_10), none, none, none]) (st' := [.int x_10]) cd_64_30 rfl rfl ?_
    obtain ⟨x_14, w_11, I_12, J_13, hcl, h⟩ := cI_s h
    refine gs_call (as := [.int x_10]) (rest := []) cd_64_31 rfl (by decide) rfl rfl (Nat.le_of_ble_eq_true rfl) (Nat.le_of_ble_eq_true rfl) rfl hcl ?_
    refine gs_0 (pc' := 36) (L' := [some (.ref l0), some (.int l1), some (.int x_5), some (.int x_10), some (.int x_14), none, none]) (st' := []) cd_64_34 rfl rfl ?_
    refine gs_0 (pc' := 38) (L' := [some (.ref l0), some (.int l1), some (.int x_5), some (.int x_10), some (.int x_14), none, none]) (st' := [.int x_14]) cd_64_36 rfl rfl ?_
    refine gs_0 (pc' := 39) (L' := [some (.ref l0), some (.int l1), some (.int x_5), some (.int x_10), some (.int x_14), none, none]) (st' := [.int ((-1)), .int x_14]) cd_64_38 rfl rfl ?_
    refine gs_0 (pc' := if x_14 = (-1) then 64 else 42) (L' := [some (.ref l0), some (.int l1), some (.int x_5), some (.int x_10), some (.int x_14), none, none]) (st' := []) cd_64_39 rfl rfl ?_
    refine go_ite (fun hc => ?_) (fun hc => ?_)
    · rw [if_pos hc] at h
      refine gs_0 (pc' := 65) (L' := [some (.ref l0), some (.int l1), some (.int x_5), some (.int x_10), some (.int x_14), none, none]) (st' := [.int x_10]) cd_64_64 rfl rfl ?_
      refine gs_0 (pc' := 66) (L' := [some (.ref l0), some (.int l1), some (.int x_5), some (.int x_10), some (.int x_14), none, none]) (st' := [.int 1, .int x_10]) cd_64_65 rfl rfl ?_
      refine gs_0 (pc' := if ¬ x_10 = 1 then 79 else 69) (L' := [some (.ref l0), some (.int l1), some (.int x_5), some (.int x_10), some (.int x_14), none, none]) (st' := []) cd_64_66 rfl rfl ?_
      refine go_ite (fun hc => ?_) (fun hc => ?_)
      · rw [if_pos hc] at h
        refine gs_0 (pc' := 80) (L' := [some (.ref l0), some (.int l1), some (.int x_5), some (.int x_10), some (.int x_14), none, none]) (st' := [.int x_10]) cd_64_79 rfl rfl ?_
        refine gs_0 (pc' := 82) (L' := [some (.ref l0), some (.int l1), some (.int x_5), some (.int x_10), some (.int x_14), none, none]) (st' := [.int 40, .int x_10]) cd_64_80 rfl rfl ?_
        refine gs_0 (pc' := if ¬ x_10 = 40 then 112 else 85) (L' := [some (.ref l0), some (.int l1), some (.int x_5), some (.int x_10), some (.int x_14), none, none]) (st' := []) cd_64_82 rfl rfl ?_
        refine go_ite (fun hc => ?_) (fun hc => ?_)
        · rw [if_pos hc] at h
          refine gs_0 (pc' := 113) (L' := [some (.ref l0), some (.int l1), some (.int x_5), some (.int x_10), some (.int x_14), none, none]) (st' := [.ref l0]) cd_64_112 rfl rfl ?_
          obtain ⟨ht, h⟩ := gO_s h
          obtain ⟨w_15, I_16, J_17, hcl, h⟩ := cV_s h
          refine gs_call (as := [.ref l0]) (rest := []) cd_64_113 rfl (by decide) rfl (sm_rv_ok (by decide) ht) (Nat.le_of_ble_eq_true rfl) (Nat.le_of_ble_eq_true rfl) rfl hcl ?_
          exact ok_64_116 h
        · rw [if_neg hc] at h
          refine gs_0 (pc' := 86) (L' := [some (.ref l0), some (.int l1), some (.int x_5), some (.int x_10), some (.int x_14), none, none]) (st' := [.ref l0]) cd_64_85 rfl rfl ?_
          obtain ⟨ht, h⟩ := gO_s h
          obtain ⟨q_18, hv, h⟩ := gV_s h
          refine gs_gfR cd_64_86 (by decide) ht hv ?_
          obtain ⟨ht, h⟩ := gO_s h
          obtain ⟨w_19, I_20, J_21, hcl, h⟩ := cV_s h
          refine gs_call (as := [.ref q_18]) (rest := []) cd_64_89 rfl (by decide) rfl (sm_rv_ok (by decide) ht) (Nat.le_of_ble_eq_true rfl) (Nat.le_of_ble_eq_true rfl) rfl hcl ?_
          refine gs_0 (pc' := 93) (L' := [some (.ref l0), some (.int l1), some (.int x_5), some (.int x_10), some (.int x_14), none, none]) (st' := [.ref l0]) cd_64_92 rfl rfl ?_
          refine gs_0 (pc' := 94) (L' := [some (.ref l0), some (.int l1), some (.int x_5), some (.int x_10), some (.int x_14), none, none]) (st' := [.int 0, .ref l0]) cd_64_93 rfl rfl ?_
          refine gs_0 (pc' := 95) (L' := [some (.ref l0), some (.int l1), some (.int x_5), some (.int x_10), some (.int x_14), none, none]) (st' := [.int l1, .int 0, .ref l0]) cd_64_94 rfl rfl ?_
          refine gs_0 (pc' := 96) (L' := [some (.ref l0), some (.int l1), some (.int x_5), some (.int x_10), some (.int x_14), none, none]) (st' := [.int 1, .int l1, .int 0, .ref l0]) cd_64_95 rfl rfl ?_
          refine gs_0 (pc' := 97) (L' := [some (.ref l0), some (.int l1), some (.int x_5), some (.int x_10), some (.int x_14), none, none]) (st' := [.int (l1 + 1), .int 0, .ref l0]) cd_64_96 rfl rfl ?_
          obtain ⟨ht, h⟩ := gO_s h
          obtain ⟨w_22, I_23, J_24, hcl, h⟩ := cV_s h
          refine gs_call (as := [.ref l0, .int 0, .int (l1 + 1)]) (rest := []) cd_64_97 rfl (by decide) rfl (sm_rv_ok (by decide) ht) (Nat.le_of_ble_eq_true rfl) (Nat.le_of_ble_eq_true rfl) rfl hcl ?_
          refine gs_0 (pc' := 101) (L' := [some (.ref l0), some (.int l1), some (.int x_5), some (.int x_10), some (.int x_14), none, none]) (st' := [.ref l0]) cd_64_100 rfl rfl ?_
          obtain ⟨ht, h⟩ := gO_s h
          obtain ⟨q_25, hv, h⟩ := gV_s h
          refine gs_gfR cd_64_101 (by decide) ht hv ?_
          refine gs_0 (pc' := 106) (L' := [some (.ref l0), some (.int l1), some (.int x_5), some (.int x_10), some (.int x_14), none, none]) (st' := [.int 41, .ref q_25]) cd_64_104 rfl rfl ?_
          obtain ⟨ht, h⟩ := gO_s h
          obtain ⟨w_26, I_27, J_28, hcl, h⟩ := cV_s h
          refine gs_call (as := [.ref q_25, .int 41]) (rest := []) cd_64_106 rfl (by decide) rfl (sm_rv_ok (by decide) ht) (Nat.le_of_ble_eq_true rfl) (Nat.le_of_ble_eq_true rfl) rfl hcl ?_
          refine gs_0 (pc' := 116) (L' := [some (.ref l0), some (.int l1), some (.int x_5), some (.int x_10), some (.int x_14), none, none]) (st' := []) cd_64_109 rfl rfl ?_
          exact ok_64_116 h
      · rw [if_neg hc] at h
        refine gs_0 (pc' := 70) (L' := [some (.ref l0), some (.int l1), some (.int x_5), some (.int x_10), some (.int x_14), none, none]) (st' := [.ref l0]) cd_64_69 rfl rfl ?_
        refine gs_0 (pc' := 71) (L' := [some (.ref l0), some (.int l1), some (.int x_5), some (.int x_10), some (.int x_14), none, none]) (st' := [.int l1, .ref l0]) cd_64_70 rfl rfl ?_
        refine gs_0 (pc' := 72) (L' := [some (.ref l0), some (.int l1), some (.int x_5), some (.int x_10), some (.int x_14), none, none]) (st' := [.int 1, .int l1, .ref l0]) cd_64_71 rfl rfl ?_
        refine gs_0 (pc' := 73) (L' := [some (.ref l0), some (.int l1), some (.int x_5), some (.int x_10), some (.int x_14), none, none]) (st' := [.int (l1 + 1), .ref l0]) cd_64_72 rfl rfl ?_
        obtain ⟨ht, h⟩ := gO_s h
        obtain ⟨w_29, I_30, J_31, hcl, h⟩ := cV_s h
        refine gs_call (as := [.ref l0, .int (l1 + 1)]) (rest := []) cd_64_73 rfl (by decide) rfl (sm_rv_ok (by decide) ht) (Nat.le_of_ble_eq_true rfl) (Nat.le_of_ble_eq_true rfl) rfl hcl ?_
        refine gs_0 (pc' := 116) (L' := [some (.ref l0), some (.int l1), some (.int x_5), some (.int x_10), some (.int x_14), none, none]) (st' := []) cd_64_76 rfl rfl ?_
        exact ok_64_116 h
    · rw [if_neg hc] at h
      refine gs_0 (pc' := 43) (L' := [some (.ref l0), some (.int l1), some (.int x_5), some (.int x_10), some (.int x_14), none, none]) (st' := [.ref l0]) cd_64_42 rfl rfl ?_
      obtain ⟨ht, h⟩ := gO_s h
      obtain ⟨q_32, hv, h⟩ := gV_s h
      refine gs_gfR cd_64_43 (by decide) ht hv ?_
      obtain ⟨ht, h⟩ := gO_s h
      obtain ⟨w_33, I_34, J_35, hcl, h⟩ := cV_s h
      refine gs_call (as := [.ref q_32]) (rest := []) cd_64_46 rfl (by decide) rfl (sm_rv_ok (by decide) ht) (Nat.le_of_ble_eq_true rfl) (Nat.le_of_ble_eq_true rfl) rfl hcl ?_
      refine gs_0 (pc' := 50) (L' := [some (.ref l0), some (.int l1), some (.int x_5), some (.int x_10), some (.int x_14), none, none]) (st' := [.ref l0]) cd_64_49 rfl rfl ?_
      refine gs_0 (pc' := 51) (L' := [some (.ref l0), some (.int l1), some (.int x_5), some (.int x_10), some (.int x_14), none, none]) (st' := [.int l1, .ref l0]) cd_64_50 rfl rfl ?_
      refine gs_0 (pc' := 52) (L' := [some (.ref l0), some (.int l1), some (.int x_5), some (.int x_10), some (.int x_14), none, none]) (st' := [.int 1, .int l1, .ref l0]) cd_64_51 rfl rfl ?_
      refine gs_0 (pc' := 53) (L' := [some (.ref l0), some (.int l1), some (.int x_5), some (.int x_10), some (.int x_14), none, none]) (st' := [.int (l1 + 1), .ref l0]) cd_64_52 rfl rfl ?_
      obtain ⟨ht, h⟩ := gO_s h
      obtain ⟨w_36, I_37, J_38, hcl, h⟩ := cV_s h
      refine gs_call (as := [.ref l0, .int (l1 + 1)]) (rest := []) cd_64_53 rfl (by decide) rfl (sm_rv_ok (by decide) ht) (Nat.le_of_ble_eq_true rfl) (Nat.le_of_ble_eq_true rfl) rfl hcl ?_
      refine gs_0 (pc' := 57) (L' := [some (.ref l0), some (.int l1), some (.int x_5), some (.int x_10), some (.int x_14), none, none]) (st' := [.ref l0]) cd_64_56 rfl rfl ?_
      refine gs_0 (pc' := 59) (L' := [some (.ref l0), some (.int l1), some (.int x_5), some (.int x_10), some (.int x_14), none, none]) (st' := [.int x_14, .ref l0]) cd_64_57 rfl rfl ?_
      refine gs_0 (pc' := 60) (L' := [some (.ref l0), some (.int l1), some (.int x_5), some (.int x_10), some (.int x_14), none, none]) (st' := [.int x_5, .int x_14, .ref l0]) cd_64_59 rfl rfl ?_
      obtain ⟨ht, h⟩ := gO_s h
      obtain ⟨w_39, I_40, J_41, hcl, h⟩ := cV_s h
      refine gs_call (as := [.ref l0, .int x_14, .int x_5]) (rest := []) cd_64_60 rfl (by decide) rfl (sm_rv_ok (by decide) ht) (Nat.le_of_ble_eq_true rfl) (Nat.le_of_ble_eq_true rfl) rfl hcl ?_
      cases h
      exact gsr cd_64_63 rfl rfl
  · rw [if_neg hc] at h
    refine gs_0 (pc' := 7) (L' := [some (.ref l0), some (.int l1), none, none, none, none, none]) (st' := [.ref l0]) cd_64_6 rfl rfl ?_
    obtain ⟨ht, h⟩ := gO_s h
    obtain ⟨q_42, hv, h⟩ := gV_s h
    refine gs_gfR cd_64_7 (by decide) ht hv ?_
    obtain ⟨ht, h⟩ := gO_s h
    obtain ⟨w_43, I_44, J_45, hcl, h⟩ := cV_s h
    refine gs_call (as := [.ref q_42]) (rest := []) cd_64_10 rfl (by decide) rfl (sm_rv_ok (by decide) ht) (Nat.le_of_ble_eq_true rfl) (Nat.le_of_ble_eq_true rfl) rfl hcl ?_
    cases h
    exact gsr cd_64_13 rfl rfl
theorem cl_64 {K : Nat → Value} {k d : Nat} {l0 : Nat} {l1 : Int32} {w : aW} {I : aI} {J : aJ} {R : aR} (h : f_64 K k d l0 l1 w I J = some R) : Cl K (d + 1) 64 [.ref l0, .int l1] w I J = some R := Cl_of (ok_64 h)
/-! ProvedMachine$Reader.opAhead(I)I -/
theorem gl_65 : gcd.lookup 65 = some gw_65 := rfl
theorem cd_65_0 : sm_cd 65 0 = some (.iload_n 0, 1, 0, 0, 0, 0, 0, 0, 0) := cd_of gl_65 rfl
theorem cd_65_1 : sm_cd 65 1 = some (.lookupswitch 76 #[(45, 59), (269, 61), (272, 73), (273, 64), (274, 67), (275, 70)], 59, 0, 0, 0, 0, 0, 0, 0) := cd_of gl_65 rfl
theorem cd_65_60 : sm_cd 65 60 = some (.iconst 5, 1, 0, 0, 0, 0, 0, 5, 0) := cd_of gl_65 rfl
theorem cd_65_61 : sm_cd 65 61 = some (.ireturn, 1, 0, 0, 1, 0, 0, 0, 0) := cd_of gl_65 rfl
theorem cd_65_62 : sm_cd 65 62 = some (.bipush 6, 2, 0, 0, 0, 0, 0, 6, 0) := cd_of gl_65 rfl
theorem cd_65_64 : sm_cd 65 64 = some (.ireturn, 1, 0, 0, 1, 0, 0, 0, 0) := cd_of gl_65 rfl
theorem cd_65_65 : sm_cd 65 65 = some (.bipush 7, 2, 0, 0, 0, 0, 0, 7, 0) := cd_of gl_65 rfl
theorem cd_65_67 : sm_cd 65 67 = some (.ireturn, 1, 0, 0, 1, 0, 0, 0, 0) := cd_of gl_65 rfl
theorem cd_65_68 : sm_cd 65 68 = some (.bipush 8, 2, 0, 0, 0, 0, 0, 8, 0) := cd_of gl_65 rfl
theorem cd_65_70 : sm_cd 65 70 = some (.ireturn, 1, 0, 0, 1, 0, 0, 0, 0) := cd_of gl_65 rfl
theorem cd_65_71 : sm_cd 65 71 = some (.bipush 9, 2, 0, 0, 0, 0, 0, 9, 0) := cd_of gl_65 rfl
theorem cd_65_73 : sm_cd 65 73 = some (.ireturn, 1, 0, 0, 1, 0, 0, 0, 0) := cd_of gl_65 rfl
theorem cd_65_74 : sm_cd 65 74 = some (.bipush 10, 2, 0, 0, 0, 0, 0, 10, 0) := cd_of gl_65 rfl
theorem cd_65_76 : sm_cd 65 76 = some (.ireturn, 1, 0, 0, 1, 0, 0, 0, 0) := cd_of gl_65 rfl
theorem cd_65_77 : sm_cd 65 77 = some (.iconst (-1), 1, 0, 0, 0, 0, 0, (-1), 0) := cd_of gl_65 rfl
theorem cd_65_78 : sm_cd 65 78 = some (.ireturn, 1, 0, 0, 1, 0, 0, 0, 0) := cd_of gl_65 rfl
theorem sw_65_1_0 {K : Nat → Value} {L : aL} {st : List Value} {w : aW} {I : aI} {J : aJ} {x : Int32} (h : x = 45) : sm_stp K (.lookupswitch 76 #[(45, 59), (269, 61), (272, 73), (273, 64), (274, 67), (275, 70)], 59, 0, 0, 0, 0, 0, 0, 0) 1 L (.int x :: st) w I J = some (60, L, st, w, I, J) := by subst h; rfl
theorem sw_65_1_1 {K : Nat → Value} {L : aL} {st : List Value} {w : aW} {I : aI} {J : aJ} {x : Int32} (h : x = 269) : sm_stp K (.lookupswitch 76 #[(45, 59), (269, 61), (272, 73), (273, 64), (274, 67), (275, 70)], 59, 0, 0, 0, 0, 0, 0, 0) 1 L (.int x :: st) w I J = some (62, L, st, w, I, J) := by subst h; rfl
theorem sw_65_1_2 {K : Nat → Value} {L : aL} {st : List Value} {w : aW} {I : aI} {J : aJ} {x : Int32} (h : x = 272) : sm_stp K (.lookupswitch 76 #[(45, 59), (269, 61), (272, 73), (273, 64), (274, 67), (275, 70)], 59, 0, 0, 0, 0, 0, 0, 0) 1 L (.int x :: st) w I J = some (74, L, st, w, I, J) := by subst h; rfl
theorem sw_65_1_3 {K : Nat → Value} {L : aL} {st : List Value} {w : aW} {I : aI} {J : aJ} {x : Int32} (h : x = 273) : sm_stp K (.lookupswitch 76 #[(45, 59), (269, 61), (272, 73), (273, 64), (274, 67), (275, 70)], 59, 0, 0, 0, 0, 0, 0, 0) 1 L (.int x :: st) w I J = some (65, L, st, w, I, J) := by subst h; rfl
theorem sw_65_1_4 {K : Nat → Value} {L : aL} {st : List Value} {w : aW} {I : aI} {J : aJ} {x : Int32} (h : x = 274) : sm_stp K (.lookupswitch 76 #[(45, 59), (269, 61), (272, 73), (273, 64), (274, 67), (275, 70)], 59, 0, 0, 0, 0, 0, 0, 0) 1 L (.int x :: st) w I J = some (68, L, st, w, I, J) := by subst h; rfl
theorem sw_65_1_5 {K : Nat → Value} {L : aL} {st : List Value} {w : aW} {I : aI} {J : aJ} {x : Int32} (h : x = 275) : sm_stp K (.lookupswitch 76 #[(45, 59), (269, 61), (272, 73), (273, 64), (274, 67), (275, 70)], 59, 0, 0, 0, 0, 0, 0, 0) 1 L (.int x :: st) w I J = some (71, L, st, w, I, J) := by subst h; rfl
theorem sw_65_1_d {K : Nat → Value} {L : aL} {st : List Value} {w : aW} {I : aI} {J : aJ} {x : Int32} (h0 : ¬ x = 45) (h1 : ¬ x = 269) (h2 : ¬ x = 272) (h3 : ¬ x = 273) (h4 : ¬ x = 274) (h5 : ¬ x = 275) : sm_stp K (.lookupswitch 76 #[(45, 59), (269, 61), (272, 73), (273, 64), (274, 67), (275, 70)], 59, 0, 0, 0, 0, 0, 0, 0) 1 L (.int x :: st) w I J = some (77, L, st, w, I, J) := by
  have e : Op.lookupswitch.offset [(45, 59), (269, 61), (272, 73), (273, 64), (274, 67), (275, 70)] 76 x.toInt = 76 := by
    rw [lv_osw (k := 45) (a := 45) h0 (by decide), lv_osw (k := 269) (a := 269) h1 (by decide), lv_osw (k := 272) (a := 272) h2 (by decide), lv_osw (k := 273) (a := 273) h3 (by decide), lv_osw (k := 274) (a := 274) h4 (by decide), lv_osw (k := 275) (a := 275) h5 (by decide)]
    rfl
  have e2 : sm_swl 1 76 #[(45, 59), (269, 61), (272, 73), (273, 64), (274, 67), (275, 70)] x = some 77 := by
    unfold sm_swl
    rw [if_pos (by decide)]
    show sm_jmp 1 (Op.lookupswitch.offset [(45, 59), (269, 61), (272, 73), (273, 64), (274, 67), (275, 70)] 76 x.toInt) = _
    rw [e]
    rfl
  simp only [sm_stp, e2, sm_jm]
noncomputable def f_65 (K : Nat → Value) (k d : Nat) (l0 : Int32) (w : aW) (I : aI) (J : aJ) : Option aR :=
  if l0 = 45 then
    some (some (.int 5), w, I, J)
  else
  if l0 = 269 then
    some (some (.int 6), w, I, J)
  else
  if l0 = 272 then
    some (some (.int 10), w, I, J)
  else
  if l0 = 273 then
    some (some (.int 7), w, I, J)
  else
  if l0 = 274 then
    some (some (.int 8), w, I, J)
  else
  if l0 = 275 then
    some (some (.int 9), w, I, J)
  else
  some (some (.int (-1)), w, I, J)
theorem ok_65 {K : Nat → Value} {k d : Nat} {l0 : Int32} {w : aW} {I : aI} {J : aJ} {R : aR} (h : f_65 K k d l0 w I J = some R) : Go K (d + 1) 65 0 [some (.int l0)] [] w I J R := by
  unfold f_65 at h
  refine gs_0 (pc' := 1) (L' := [some (.int l0)]) (st' := [.int l0]) cd_65_0 rfl rfl ?_
  by_cases hc0 : l0 = 45
  · rw [if_pos hc0] at h
    refine gs_0 (pc' := 60) (L' := [some (.int l0)]) (st' := []) cd_65_1 rfl (sw_65_1_0 hc0) ?_
    refine gs_0 (pc' := 61) (L' := [some (.int l0)]) (st' := [.int 5]) cd_65_60 rfl rfl ?_
    cases h
    exact gs_ri cd_65_61 (Or.inl rfl)
  · rw [if_neg hc0] at h
    by_cases hc1 : l0 = 269
    · rw [if_pos hc1] at h
      refine gs_0 (pc' := 62) (L' := [some (.int l0)]) (st' := []) cd_65_1 rfl (sw_65_1_1 hc1) ?_
      refine gs_0 (pc' := 64) (L' := [some (.int l0)]) (st' := [.int 6]) cd_65_62 rfl rfl ?_
      cases h
      exact gs_ri cd_65_64 (Or.inl rfl)
    · rw [if_neg hc1] at h
      by_cases hc2 : l0 = 272
      · rw [if_pos hc2] at h
        refine gs_0 (pc' := 74) (L' := [some (.int l0)]) (st' := []) cd_65_1 rfl (sw_65_1_2 hc2) ?_
        refine gs_0 (pc' := 76) (L' := [some (.int l0)]) (st' := [.int 10]) cd_65_74 rfl rfl ?_
        cases h
        exact gs_ri cd_65_76 (Or.inl rfl)
      · rw [if_neg hc2] at h
        by_cases hc3 : l0 = 273
        · rw [if_pos hc3] at h
          refine gs_0 (pc' := 65) (L' := [some (.int l0)]) (st' := []) cd_65_1 rfl (sw_65_1_3 hc3) ?_
          refine gs_0 (pc' := 67) (L' := [some (.int l0)]) (st' := [.int 7]) cd_65_65 rfl rfl ?_
          cases h
          exact gs_ri cd_65_67 (Or.inl rfl)
        · rw [if_neg hc3] at h
          by_cases hc4 : l0 = 274
          · rw [if_pos hc4] at h
            refine gs_0 (pc' := 68) (L' := [some (.int l0)]) (st' := []) cd_65_1 rfl (sw_65_1_4 hc4) ?_
            refine gs_0 (pc' := 70) (L' := [some (.int l0)]) (st' := [.int 8]) cd_65_68 rfl rfl ?_
            cases h
            exact gs_ri cd_65_70 (Or.inl rfl)
          · rw [if_neg hc4] at h
            by_cases hc5 : l0 = 275
            · rw [if_pos hc5] at h
              refine gs_0 (pc' := 71) (L' := [some (.int l0)]) (st' := []) cd_65_1 rfl (sw_65_1_5 hc5) ?_
              refine gs_0 (pc' := 73) (L' := [some (.int l0)]) (st' := [.int 9]) cd_65_71 rfl rfl ?_
              cases h
              exact gs_ri cd_65_73 (Or.inl rfl)
            · rw [if_neg hc5] at h
              refine gs_0 (pc' := 77) (L' := [some (.int l0)]) (st' := []) cd_65_1 rfl (sw_65_1_d hc0 hc1 hc2 hc3 hc4 hc5) ?_
              refine gs_0 (pc' := 78) (L' := [some (.int l0)]) (st' := [.int ((-1))]) cd_65_77 rfl rfl ?_
              cases h
              exact gs_ri cd_65_78 (Or.inl rfl)
theorem cl_65 {K : Nat → Value} {k d : Nat} {l0 : Int32} {w : aW} {I : aI} {J : aJ} {R : aR} (h : f_65 K k d l0 w I J = some R) : Cl K (d + 1) 65 [.int l0] w I J = some R := Cl_of (ok_65 h)
/-! ProvedMachine$Reader.operate(II)V -/
theorem gl_66 : gcd.lookup 66 = some gw_66 := rfl
theorem cd_66_0 : sm_cd 66 0 = some (.iload_n 1, 1, 1, 0, 0, 0, 0, 0, 0) := cd_of gl_66 rfl
theorem cd_66_1 : sm_cd 66 1 = some (.iconst 5, 1, 0, 0, 0, 0, 0, 5, 0) := cd_of gl_66 rfl
theorem cd_66_2 : sm_cd 66 2 = some (.isub, 1, 0, 0, 0, 0, 0, 0, 0) := cd_of gl_66 rfl
theorem cd_66_3 : sm_cd 66 3 = some (.istore_n 3, 1, 3, 0, 0, 0, 0, 0, 0) := cd_of gl_66 rfl
theorem cd_66_4 : sm_cd 66 4 = some (.iload_n 3, 1, 3, 0, 0, 0, 0, 0, 0) := cd_of gl_66 rfl
theorem cd_66_5 : sm_cd 66 5 = some (.ifCond .lt 11, 3, 16, 0, 0, 0, 0, 0, 0) := cd_of gl_66 rfl
theorem cd_66_8 : sm_cd 66 8 = some (.iload_n 3, 1, 3, 0, 0, 0, 0, 0, 0) := cd_of gl_66 rfl
theorem cd_66_9 : sm_cd 66 9 = some (.getstatic 222, 3, 25, 0, 0, 0, 0, 0, 0) := cd_of gl_66 rfl
theorem cd_66_12 : sm_cd 66 12 = some (.arraylength, 1, 0, 0, 0, 0, 0, 0, 0) := cd_of gl_66 rfl
theorem cd_66_13 : sm_cd 66 13 = some (.if_icmp .lt 4, 3, 17, 0, 0, 0, 0, 0, 0) := cd_of gl_66 rfl
theorem cd_66_16 : sm_cd 66 16 = some (.return_, 1, 0, 0, 0, 0, 0, 0, 0) := cd_of gl_66 rfl
theorem cd_66_17 : sm_cd 66 17 = some (.aload_n 0, 1, 0, 0, 0, 0, 0, 0, 0) := cd_of gl_66 rfl
theorem cd_66_18 : sm_cd 66 18 = some (.iconst 1, 1, 0, 0, 0, 0, 0, 1, 0) := cd_of gl_66 rfl
theorem cd_66_19 : sm_cd 66 19 = some (.invokevirtual 181, 3, 67, 0, 1, 2, 2, 0, 0) := cd_of gl_66 rfl
theorem cd_66_22 : sm_cd 66 22 = some (.istore 4, 2, 4, 0, 0, 0, 0, 0, 0) := cd_of gl_66 rfl
theorem cd_66_24 : sm_cd 66 24 = some (.getstatic 225, 3, 24, 0, 0, 0, 0, 0, 0) := cd_of gl_66 rfl
theorem cd_66_27 : sm_cd 66 27 = some (.iload_n 3, 1, 3, 0, 0, 0, 0, 0, 0) := cd_of gl_66 rfl
theorem cd_66_28 : sm_cd 66 28 = some (.iaload, 1, 0, 0, 0, 0, 0, 0, 0) := cd_of gl_66 rfl
theorem cd_66_29 : sm_cd 66 29 = some (.ifCond .ge 7, 3, 36, 0, 0, 0, 0, 0, 0) := cd_of gl_66 rfl
theorem cd_66_32 : sm_cd 66 32 = some (.iconst (-1), 1, 0, 0, 0, 0, 0, (-1), 0) := cd_of gl_66 rfl
theorem cd_66_33 : sm_cd 66 33 = some (.goto 8, 3, 41, 0, 0, 0, 0, 0, 0) := cd_of gl_66 rfl
theorem cd_66_36 : sm_cd 66 36 = some (.aload_n 0, 1, 0, 0, 0, 0, 0, 0, 0) := cd_of gl_66 rfl
theorem cd_66_37 : sm_cd 66 37 = some (.iconst 2, 1, 0, 0, 0, 0, 0, 2, 0) := cd_of gl_66 rfl
theorem cd_66_38 : sm_cd 66 38 = some (.invokevirtual 181, 3, 67, 0, 1, 2, 2, 0, 0) := cd_of gl_66 rfl
theorem cd_66_41 : sm_cd 66 41 = some (.istore 5, 2, 5, 0, 0, 0, 0, 0, 0) := cd_of gl_66 rfl
theorem cd_66_43 : sm_cd 66 43 = some (.iload_n 1, 1, 1, 0, 0, 0, 0, 0, 0) := cd_of gl_66 rfl
theorem cd_66_44 : sm_cd 66 44 = some (.bipush 16, 2, 0, 0, 0, 0, 0, 16, 0) := cd_of gl_66 rfl
theorem cd_66_46 : sm_cd 66 46 = some (.if_icmp .ne 34, 3, 80, 0, 0, 0, 0, 0, 0) := cd_of gl_66 rfl
theorem cd_66_49 : sm_cd 66 49 = some (.aload_n 0, 1, 0, 0, 0, 0, 0, 0, 0) := cd_of gl_66 rfl
theorem cd_66_50 : sm_cd 66 50 = some (.iload 4, 2, 4, 0, 0, 0, 0, 0, 0) := cd_of gl_66 rfl
theorem cd_66_52 : sm_cd 66 52 = some (.iload 5, 2, 5, 0, 0, 0, 0, 0, 0) := cd_of gl_66 rfl
theorem cd_66_54 : sm_cd 66 54 = some (.if_icmp .ne 18, 3, 72, 0, 0, 0, 0, 0, 0) := cd_of gl_66 rfl
theorem cd_66_57 : sm_cd 66 57 = some (.iload 4, 2, 4, 0, 0, 0, 0, 0, 0) := cd_of gl_66 rfl
theorem cd_66_59 : sm_cd 66 59 = some (.ifCond .eq 9, 3, 68, 0, 0, 0, 0, 0, 0) := cd_of gl_66 rfl
theorem cd_66_62 : sm_cd 66 62 = some (.iload 4, 2, 4, 0, 0, 0, 0, 0, 0) := cd_of gl_66 rfl
theorem cd_66_64 : sm_cd 66 64 = some (.iconst 1, 1, 0, 0, 0, 0, 0, 1, 0) := cd_of gl_66 rfl
theorem cd_66_65 : sm_cd 66 65 = some (.if_icmp .ne 7, 3, 72, 0, 0, 0, 0, 0, 0) := cd_of gl_66 rfl
theorem cd_66_68 : sm_cd 66 68 = some (.iconst 1, 1, 0, 0, 0, 0, 0, 1, 0) := cd_of gl_66 rfl
theorem cd_66_69 : sm_cd 66 69 = some (.goto 4, 3, 73, 0, 0, 0, 0, 0, 0) := cd_of gl_66 rfl
theorem cd_66_72 : sm_cd 66 72 = some (.iconst 0, 1, 0, 0, 0, 0, 0, 0, 0) := cd_of gl_66 rfl
theorem cd_66_73 : sm_cd 66 73 = some (.iload_n 2, 1, 2, 0, 0, 0, 0, 0, 0) := cd_of gl_66 rfl
theorem cd_66_74 : sm_cd 66 74 = some (.invokevirtual 184, 3, 68, 0, 2, 3, 2, 0, 0) := cd_of gl_66 rfl
theorem cd_66_77 : sm_cd 66 77 = some (.goto 33, 3, 110, 0, 0, 0, 0, 0, 0) := cd_of gl_66 rfl
theorem cd_66_80 : sm_cd 66 80 = some (.aload_n 0, 1, 0, 0, 0, 0, 0, 0, 0) := cd_of gl_66 rfl
theorem cd_66_81 : sm_cd 66 81 = some (.iload 4, 2, 4, 0, 0, 0, 0, 0, 0) := cd_of gl_66 rfl
theorem cd_66_83 : sm_cd 66 83 = some (.getstatic 228, 3, 26, 0, 0, 0, 0, 0, 0) := cd_of gl_66 rfl
theorem cd_66_86 : sm_cd 66 86 = some (.iload_n 3, 1, 3, 0, 0, 0, 0, 0, 0) := cd_of gl_66 rfl
theorem cd_66_87 : sm_cd 66 87 = some (.iaload, 1, 0, 0, 0, 0, 0, 0, 0) := cd_of gl_66 rfl
theorem cd_66_88 : sm_cd 66 88 = some (.if_icmp .ne 17, 3, 105, 0, 0, 0, 0, 0, 0) := cd_of gl_66 rfl
theorem cd_66_91 : sm_cd 66 91 = some (.iload 5, 2, 5, 0, 0, 0, 0, 0, 0) := cd_of gl_66 rfl
theorem cd_66_93 : sm_cd 66 93 = some (.getstatic 225, 3, 24, 0, 0, 0, 0, 0, 0) := cd_of gl_66 rfl
theorem cd_66_96 : sm_cd 66 96 = some (.iload_n 3, 1, 3, 0, 0, 0, 0, 0, 0) := cd_of gl_66 rfl
theorem cd_66_97 : sm_cd 66 97 = some (.iaload, 1, 0, 0, 0, 0, 0, 0, 0) := cd_of gl_66 rfl
theorem cd_66_98 : sm_cd 66 98 = some (.if_icmp .ne 7, 3, 105, 0, 0, 0, 0, 0, 0) := cd_of gl_66 rfl
theorem cd_66_101 : sm_cd 66 101 = some (.iconst 1, 1, 0, 0, 0, 0, 0, 1, 0) := cd_of gl_66 rfl
theorem cd_66_102 : sm_cd 66 102 = some (.goto 4, 3, 106, 0, 0, 0, 0, 0, 0) := cd_of gl_66 rfl
theorem cd_66_105 : sm_cd 66 105 = some (.iconst 0, 1, 0, 0, 0, 0, 0, 0, 0) := cd_of gl_66 rfl
theorem cd_66_106 : sm_cd 66 106 = some (.iload_n 2, 1, 2, 0, 0, 0, 0, 0, 0) := cd_of gl_66 rfl
theorem cd_66_107 : sm_cd 66 107 = some (.invokevirtual 184, 3, 68, 0, 2, 3, 2, 0, 0) := cd_of gl_66 rfl
theorem cd_66_110 : sm_cd 66 110 = some (.aload_n 0, 1, 0, 0, 0, 0, 0, 0, 0) := cd_of gl_66 rfl
theorem cd_66_111 : sm_cd 66 111 = some (.iload_n 1, 1, 1, 0, 0, 0, 0, 0, 0) := cd_of gl_66 rfl
theorem cd_66_112 : sm_cd 66 112 = some (.iconst 0, 1, 0, 0, 0, 0, 0, 0, 0) := cd_of gl_66 rfl
theorem cd_66_113 : sm_cd 66 113 = some (.iload 5, 2, 5, 0, 0, 0, 0, 0, 0) := cd_of gl_66 rfl
theorem cd_66_115 : sm_cd 66 115 = some (.iconst (-1), 1, 0, 0, 0, 0, 0, (-1), 0) := cd_of gl_66 rfl
theorem cd_66_116 : sm_cd 66 116 = some (.if_icmp .ne 7, 3, 123, 0, 0, 0, 0, 0, 0) := cd_of gl_66 rfl
theorem cd_66_119 : sm_cd 66 119 = some (.iconst 1, 1, 0, 0, 0, 0, 0, 1, 0) := cd_of gl_66 rfl
theorem cd_66_120 : sm_cd 66 120 = some (.goto 4, 3, 124, 0, 0, 0, 0, 0, 0) := cd_of gl_66 rfl
theorem cd_66_123 : sm_cd 66 123 = some (.iconst 2, 1, 0, 0, 0, 0, 0, 2, 0) := cd_of gl_66 rfl
theorem cd_66_124 : sm_cd 66 124 = some (.getstatic 222, 3, 25, 0, 0, 0, 0, 0, 0) := cd_of gl_66 rfl
theorem cd_66_127 : sm_cd 66 127 = some (.iload_n 3, 1, 3, 0, 0, 0, 0, 0, 0) := cd_of gl_66 rfl
theorem cd_66_128 : sm_cd 66 128 = some (.iaload, 1, 0, 0, 0, 0, 0, 0, 0) := cd_of gl_66 rfl
theorem cd_66_129 : sm_cd 66 129 = some (.invokevirtual 149, 3, 58, 0, 4, 5, 2, 0, 0) := cd_of gl_66 rfl
theorem cd_66_132 : sm_cd 66 132 = some (.return_, 1, 0, 0, 0, 0, 0, 0, 0) := cd_of gl_66 rfl
noncomputable def f_66_124 (K : Nat → Value) (k d : Nat) (l0 : Nat) (l1 : Int32) (l2 : Int32) (l3 : Int32) (l4 : Int32) (l5 : Int32) (s0 : Nat) (s1 : Int32) (s2 : Int32) (s3 : Int32) (w : aW) (I : aI) (J : aJ) : Option aR :=
  kR (K 25) fun q_1 =>
  gA w 10 20 q_1 l3 (
  gO w 2 s0 (
  cV (Cl K d 58 [.ref s0, .int s1, .int s2, .int s3, .int (I q_1 (l3 : Int32).toNatClampNeg)] w I J) fun w_2 I_3 J_4 =>
  some (none, w_2, I_3, J_4)))
theorem ok_66_124 {K : Nat → Value} {k d : Nat} {l0 : Nat} {l1 : Int32} {l2 : Int32} {l3 : Int32} {l4 : Int32} {l5 : Int32} {s0 : Nat} {s1 : Int32} {s2 : Int32} {s3 : Int32} {w : aW} {I : aI} {J : aJ} {R : aR} (h : f_66_124 K k d l0 l1 l2 l3 l4 l5 s0 s1 s2 s3 w I J = some R) : Go K (d + 1) 66 124 [some (.ref l0), some (.int l1), some (.int l2), some (.int l3), some (.int l4), some (.int l5)] [.int s3, .int s2, .int s1, .ref s0] w I J R := by
  unfold f_66_124 at h
  refine gs_0 (pc' := 127) (L' := [some (.ref l0), some (.int l1), some (.int l2), some (.int l3), some (.int l4), some (.int l5)]) (st' := [K 25, .int s3, .int s2, .int s1, .ref s0]) cd_66_124 rfl rfl ?_
  obtain ⟨q_1, hq, h⟩ := kR_s h
  rw [hq]
  refine gs_0 (pc' := 128) (L' := [some (.ref l0), some (.int l1), some (.int l2), some (.int l3), some (.int l4), some (.int l5)]) (st' := [.int l3, .ref q_1, .int s3, .int s2, .int s1, .ref s0]) cd_66_127 rfl rfl ?_
  obtain ⟨ht, h⟩ := gA_s h
  refine gs_iald cd_66_128 ht ?_
  obtain ⟨ht, h⟩ := gO_s h
  obtain ⟨w_2, I_3, J_4, hcl, h⟩ := cV_s h
  refine gs_call (as := [.ref s0, .int s1, .int s2, .int s3, .int (I q_1 (l3 : Int32).toNatClampNeg)]) (rest := []) cd_66_129 rfl (by decide) rfl (sm_rv_ok (by decide) ht) (Nat.le_of_ble_eq_true rfl) (Nat.le_of_ble_eq_true rfl) rfl hcl ?_
  cases h
  exact gsr cd_66_132 rfl rfl
noncomputable def f_66_110 (K : Nat → Value) (k d : Nat) (l0 : Nat) (l1 : Int32) (l2 : Int32) (l3 : Int32) (l4 : Int32) (l5 : Int32) (w : aW) (I : aI) (J : aJ) : Option aR :=
  if ¬ l5 = (-1) then
    f_66_124 K k d l0 l1 l2 l3 l4 l5 l0 l1 0 2 w I J
  else
    f_66_124 K k d l0 l1 l2 l3 l4 l5 l0 l1 0 1 w I J
theorem ok_66_110 {K : Nat → Value} {k d : Nat} {l0 : Nat} {l1 : Int32} {l2 : Int32} {l3 : Int32} {l4 : Int32} {l5 : Int32} {w : aW} {I : aI} {J : aJ} {R : aR} (h : f_66_110 K k d l0 l1 l2 l3 l4 l5 w I J = some R) : Go K (d + 1) 66 110 [some (.ref l0), some (.int l1), some (.int l2), some (.int l3), some (.int l4), some (.int l5)] [] w I J R := by
  unfold f_66_110 at h
  refine gs_0 (pc' := 111) (L' := [some (.ref l0), some (.int l1), some (.int l2), some (.int l3), some (.int l4), some (.int l5)]) (st' := [.ref l0]) cd_66_110 rfl rfl ?_
  refine gs_0 (pc' := 112) (L' := [some (.ref l0), some (.int l1), some (.int l2), some (.int l3), some (.int l4), some (.int l5)]) (st' := [.int l1, .ref l0]) cd_66_111 rfl rfl ?_
  refine gs_0 (pc' := 113) (L' := [some (.ref l0), some (.int l1), some (.int l2), some (.int l3), some (.int l4), some (.int l5)]) (st' := [.int 0, .int l1, .ref l0]) cd_66_112 rfl rfl ?_
  refine gs_0 (pc' := 115) (L' := [some (.ref l0), some (.int l1), some (.int l2), some (.int l3), some (.int l4), some (.int l5)]) (st' := [.int l5, .int 0, .int l1, .ref l0]) cd_66_113 rfl rfl ?_
  refine gs_0 (pc' := 116) (L' := [some (.ref l0), some (.int l1), some (.int l2), some (.int l3), some (.int l4), some (.int l5)]) (st' := [.int ((-1)), .int l5, .int 0, .int l1, .ref l0]) cd_66_115 rfl rfl ?_
  refine gs_0 (pc' := if ¬ l5 = (-1) then 123 else 119) (L' := [some (.ref l0), some (.int l1), some (.int l2), some (.int l3), some (.int l4), some (.int l5)]) (st' := [.int 0, .int l1, .ref l0]) cd_66_116 rfl rfl ?_
  refine go_ite (fun hc => ?_) (fun hc => ?_)
  · rw [if_pos hc] at h
    refine gs_0 (pc' := 124) (L' := [some (.ref l0), some (.int l1), some (.int l2), some (.int l3), some (.int l4), some (.int l5)]) (st' := [.int 2, .int 0, .int l1, .ref l0]) cd_66_123 rfl rfl ?_
    exact ok_66_124 h
  · rw [if_neg hc] at h
    refine gs_0 (pc' := 120) (L' := [some (.ref l0), some (.int l1), some (.int l2), some (.int l3), some (.int l4), some (.int l5)]) (st' := [.int 1, .int 0, .int l1, .ref l0]) cd_66_119 rfl rfl ?_
    refine gs_0 (pc' := 124) (L' := [some (.ref l0), some (.int l1), some (.int l2), some (.int l3), some (.int l4), some (.int l5)]) (st' := [.int 1, .int 0, .int l1, .ref l0]) cd_66_120 rfl rfl ?_
    exact ok_66_124 h
noncomputable def f_66_106 (K : Nat → Value) (k d : Nat) (l0 : Nat) (l1 : Int32) (l2 : Int32) (l3 : Int32) (l4 : Int32) (l5 : Int32) (s0 : Nat) (s1 : Int32) (w : aW) (I : aI) (J : aJ) : Option aR :=
  gO w 2 s0 (
  cV (Cl K d 68 [.ref s0, .int s1, .int l2] w I J) fun w_1 I_2 J_3 =>
  f_66_110 K k d l0 l1 l2 l3 l4 l5 w_1 I_2 J_3)
theorem ok_66_106 {K : Nat → Value} {k d : Nat} {l0 : Nat} {l1 : Int32} {l2 : Int32} {l3 : Int32} {l4 : Int32} {l5 : Int32} {s0 : Nat} {s1 : Int32} {w : aW} {I : aI} {J : aJ} {R : aR} (h : f_66_106 K k d l0 l1 l2 l3 l4 l5 s0 s1 w I J = some R) : Go K (d + 1) 66 106 [some (.ref l0), some (.int l1), some (.int l2), some (.int l3), some (.int l4), some (.int l5)] [.int s1, .ref s0] w I J R := by
  unfold f_66_106 at h
  refine gs_0 (pc' := 107) (L' := [some (.ref l0), some (.int l1), some (.int l2), some (.int l3), some (.int l4), some (.int l5)]) (st' := [.int l2, .int s1, .ref s0]) cd_66_106 rfl rfl ?_
  obtain ⟨ht, h⟩ := gO_s h
  obtain ⟨w_1, I_2, J_3, hcl, h⟩ := cV_s h
  refine gs_call (as := [.ref s0, .int s1, .int l2]) (rest := []) cd_66_107 rfl (by decide) rfl (sm_rv_ok (by decide) ht) (Nat.le_of_ble_eq_true rfl) (Nat.le_of_ble_eq_true rfl) rfl hcl ?_
  exact ok_66_110 h
noncomputable def f_66_105 (K : Nat → Value) (k d : Nat) (l0 : Nat) (l1 : Int32) (l2 : Int32) (l3 : Int32) (l4 : Int32) (l5 : Int32) (s0 : Nat) (w : aW) (I : aI) (J : aJ) : Option aR :=
  f_66_106 K k d l0 l1 l2 l3 l4 l5 s0 0 w I J
theorem ok_66_105 {K : Nat → Value} {k d : Nat} {l0 : Nat} {l1 : Int32} {l2 : Int32} {l3 : Int32} {l4 : Int32} {l5 : Int32} {s0 : Nat} {w : aW} {I : aI} {J : aJ} {R : aR} (h : f_66_105 K k d l0 l1 l2 l3 l4 l5 s0 w I J = some R) : Go K (d + 1) 66 105 [some (.ref l0), some (.int l1), some (.int l2), some (.int l3), some (.int l4), some (.int l5)] [.ref s0] w I J R := by
  unfold f_66_105 at h
  refine gs_0 (pc' := 106) (L' := [some (.ref l0), some (.int l1), some (.int l2), some (.int l3), some (.int l4), some (.int l5)]) (st' := [.int 0, .ref s0]) cd_66_105 rfl rfl ?_
  exact ok_66_106 h
noncomputable def f_66_73 (K : Nat → Value) (k d : Nat) (l0 : Nat) (l1 : Int32) (l2 : Int32) (l3 : Int32) (l4 : Int32) (l5 : Int32) (s0 : Nat) (s1 : Int32) (w : aW) (I : aI) (J : aJ) : Option aR :=
  gO w 2 s0 (
  cV (Cl K d 68 [.ref s0, .int s1, .int l2] w I J) fun w_1 I_2 J_3 =>
  f_66_110 K k d l0 l1 l2 l3 l4 l5 w_1 I_2 J_3)
theorem ok_66_73 {K : Nat → Value} {k d : Nat} {l0 : Nat} {l1 : Int32} {l2 : Int32} {l3 : Int32} {l4 : Int32} {l5 : Int32} {s0 : Nat} {s1 : Int32} {w : aW} {I : aI} {J : aJ} {R : aR} (h : f_66_73 K k d l0 l1 l2 l3 l4 l5 s0 s1 w I J = some R) : Go K (d + 1) 66 73 [some (.ref l0), some (.int l1), some (.int l2), some (.int l3), some (.int l4), some (.int l5)] [.int s1, .ref s0] w I J R := by
  unfold f_66_73 at h
  refine gs_0 (pc' := 74) (L' := [some (.ref l0), some (.int l1), some (.int l2), some (.int l3), some (.int l4), some (.int l5)]) (st' := [.int l2, .int s1, .ref s0]) cd_66_73 rfl rfl ?_
  obtain ⟨ht, h⟩ := gO_s h
  obtain ⟨w_1, I_2, J_3, hcl, h⟩ := cV_s h
  refine gs_call (as := [.ref s0, .int s1, .int l2]) (rest := []) cd_66_74 rfl (by decide) rfl (sm_rv_ok (by decide) ht) (Nat.le_of_ble_eq_true rfl) (Nat.le_of_ble_eq_true rfl) rfl hcl ?_
  refine gs_0 (pc' := 110) (L' := [some (.ref l0), some (.int l1), some (.int l2), some (.int l3), some (.int l4), some (.int l5)]) (st' := []) cd_66_77 rfl rfl ?_
  exact ok_66_110 h
noncomputable def f_66_72 (K : Nat → Value) (k d : Nat) (l0 : Nat) (l1 : Int32) (l2 : Int32) (l3 : Int32) (l4 : Int32) (l5 : Int32) (s0 : Nat) (w : aW) (I : aI) (J : aJ) : Option aR :=
  f_66_73 K k d l0 l1 l2 l3 l4 l5 s0 0 w I J
theorem ok_66_72 {K : Nat → Value} {k d : Nat} {l0 : Nat} {l1 : Int32} {l2 : Int32} {l3 : Int32} {l4 : Int32} {l5 : Int32} {s0 : Nat} {w : aW} {I : aI} {J : aJ} {R : aR} (h : f_66_72 K k d l0 l1 l2 l3 l4 l5 s0 w I J = some R) : Go K (d + 1) 66 72 [some (.ref l0), some (.int l1), some (.int l2), some (.int l3), some (.int l4), some (.int l5)] [.ref s0] w I J R := by
  unfold f_66_72 at h
  refine gs_0 (pc' := 73) (L' := [some (.ref l0), some (.int l1), some (.int l2), some (.int l3), some (.int l4), some (.int l5)]) (st' := [.int 0, .ref s0]) cd_66_72 rfl rfl ?_
  exact ok_66_73 h
noncomputable def f_66_68 (K : Nat → Value) (k d : Nat) (l0 : Nat) (l1 : Int32) (l2 : Int32) (l3 : Int32) (l4 : Int32) (l5 : Int32) (s0 : Nat) (w : aW) (I : aI) (J : aJ) : Option aR :=
  f_66_73 K k d l0 l1 l2 l3 l4 l5 s0 1 w I J
theorem ok_66_68 {K : Nat → Value} {k d : Nat} {l0 : Nat} {l1 : Int32} {l2 : Int32} {l3 : Int32} {l4 : Int32} {l5 : Int32} {s0 : Nat} {w : aW} {I : aI} {J : aJ} {R : aR} (h : f_66_68 K k d l0 l1 l2 l3 l4 l5 s0 w I J = some R) : Go K (d + 1) 66 68 [some (.ref l0), some (.int l1), some (.int l2), some (.int l3), some (.int l4), some (.int l5)] [.ref s0] w I J R := by
  unfold f_66_68 at h
  refine gs_0 (pc' := 69) (L' := [some (.ref l0), some (.int l1), some (.int l2), some (.int l3), some (.int l4), some (.int l5)]) (st' := [.int 1, .ref s0]) cd_66_68 rfl rfl ?_
  refine gs_0 (pc' := 73) (L' := [some (.ref l0), some (.int l1), some (.int l2), some (.int l3), some (.int l4), some (.int l5)]) (st' := [.int 1, .ref s0]) cd_66_69 rfl rfl ?_
  exact ok_66_73 h
noncomputable def f_66_41 (K : Nat → Value) (k d : Nat) (l0 : Nat) (l1 : Int32) (l2 : Int32) (l3 : Int32) (l4 : Int32) (s0 : Int32) (w : aW) (I : aI) (J : aJ) : Option aR :=
  if ¬ l1 = 16 then
    kR (K 26) fun q_1 =>
    gA w 10 20 q_1 l3 (
    if ¬ l4 = (I q_1 (l3 : Int32).toNatClampNeg) then
      f_66_105 K k d l0 l1 l2 l3 l4 s0 l0 w I J
    else
      kR (K 24) fun q_2 =>
      gA w 10 20 q_2 l3 (
      if ¬ s0 = (I q_2 (l3 : Int32).toNatClampNeg) then
        f_66_105 K k d l0 l1 l2 l3 l4 s0 l0 w I J
      else
        f_66_106 K k d l0 l1 l2 l3 l4 s0 l0 1 w I J))
  else
    if ¬ l4 = s0 then
      f_66_72 K k d l0 l1 l2 l3 l4 s0 l0 w I J
    else
      if l4 = 0 then
        f_66_68 K k d l0 l1 l2 l3 l4 s0 l0 w I J
      else
        if ¬ l4 = 1 then
          f_66_72 K k d l0 l1 l2 l3 l4 s0 l0 w I J
        else
          f_66_68 K k d l0 l1 l2 l3 l4 s0 l0 w I J
theorem ok_66_41 {K : Nat → Value} {k d : Nat} {l0 : Nat} {l1 : Int32} {l2 : Int32} {l3 : Int32} {l4 : Int32} {s0 : Int32} {w : aW} {I : aI} {J : aJ} {R : aR} (h : f_66_41 K k d l0 l1 l2 l3 l4 s0 w I J = some R) : Go K (d + 1) 66 41 [some (.ref l0), some (.int l1), some (.int l2), some (.int l3), some (.int l4), none] [.int s0] w I J R := by
  unfold f_66_41 at h
  refine gs_0 (pc' := 43) (L' := [some (.ref l0), some (.int l1), some (.int l2), some (.int l3), some (.int l4), some (.int s0)]) (st' := []) cd_66_41 rfl rfl ?_
  refine gs_0 (pc' := 44) (L' := [some (.ref l0), some (.int l1), some (.int l2), some (.int l3), some (.int l4), some (.int s0)]) (st' := [.int l1]) cd_66_43 rfl rfl ?_
  refine gs_0 (pc' := 46) (L' := [some (.ref l0), some (.int l1), some (.int l2), some (.int l3), some (.int l4), some (.int s0)]) (st' := [.int 16, .int l1]) cd_66_44 rfl rfl ?_
  refine gs_0 (pc' := if ¬ l1 = 16 then 80 else 49) (L' := [some (.ref l0), some (.int l1), some (.int l2), some (.int l3), some (.int l4), some (.int s0)]) (st' := []) cd_66_46 rfl rfl ?_
  refine go_ite (fun hc => ?_) (fun hc => ?_)
  · rw [if_pos hc] at h
    refine gs_0 (pc' := 81) (L' := [some (.ref l0), some (.int l1), some (.int l2), some (.int l3), some (.int l4), some (.int s0)]) (st' := [.ref l0]) cd_66_80 rfl rfl ?_
    refine gs_0 (pc' := 83) (L' := [some (.ref l0), some (.int l1), some (.int l2), some (.int l3), some (.int l4), some (.int s0)]) (st' := [.int l4, .ref l0]) cd_66_81 rfl rfl ?_
    refine gs_0 (pc' := 86) (L' := [some (.ref l0), some (.int l1), some (.int l2), some (.int l3), some (.int l4), some (.int s0)]) (st' := [K 26, .int l4, .ref l0]) cd_66_83 rfl rfl ?_
    obtain ⟨q_1, hq, h⟩ := kR_s h
    rw [hq]
    refine gs_0 (pc' := 87) (L' := [some (.ref l0), some (.int l1), some (.int l2), some (.int l3), some (.int l4), some (.int s0)]) (st' := [.int l3, .ref q_1, .int l4, .ref l0]) cd_66_86 rfl rfl ?_
    obtain ⟨ht, h⟩ := gA_s h
    refine gs_iald cd_66_87 ht ?_
    refine gs_0 (pc' := if ¬ l4 = (I q_1 (l3 : Int32).toNatClampNeg) then 105 else 91) (L' := [some (.ref l0), some (.int l1), some (.int l2), some (.int l3), some (.int l4), some (.int s0)]) (st' := [.ref l0]) cd_66_88 rfl rfl ?_
    refine go_ite (fun hc => ?_) (fun hc => ?_)
    · rw [if_pos hc] at h
      exact ok_66_105 h
    · rw [if_neg hc] at h
      refine gs_0 (pc' := 93) (L' := [some (.ref l0), some (.int l1), some (.int l2), some (.int l3), some (.int l4), some (.int s0)]) (st' := [.int s0, .ref l0]) cd_66_91 rfl rfl ?_
      refine gs_0 (pc' := 96) (L' := [some (.ref l0), some (.int l1), some (.int l2), some (.int l3), some (.int l4), some (.int s0)]) (st' := [K 24, .int s0, .ref l0]) cd_66_93 rfl rfl ?_
      obtain ⟨q_2, hq, h⟩ := kR_s h
      rw [hq]
      refine gs_0 (pc' := 97) (L' := [some (.ref l0), some (.int l1), some (.int l2), some (.int l3), some (.int l4), some (.int s0)]) (st' := [.int l3, .ref q_2, .int s0, .ref l0]) cd_66_96 rfl rfl ?_
      obtain ⟨ht, h⟩ := gA_s h
      refine gs_iald cd_66_97 ht ?_
      refine gs_0 (pc' := if ¬ s0 = (I q_2 (l3 : Int32).toNatClampNeg) then 105 else 101) (L' := [some (.ref l0), some (.int l1), some (.int l2), some (.int l3), some (.int l4), some (.int s0)]) (st' := [.ref l0]) cd_66_98 rfl rfl ?_
      refine go_ite (fun hc => ?_) (fun hc => ?_)
      · rw [if_pos hc] at h
        exact ok_66_105 h
      · rw [if_neg hc] at h
        refine gs_0 (pc' := 102) (L' := [some (.ref l0), some (.int l1), some (.int l2), some (.int l3), some (.int l4), some (.int s0)]) (st' := [.int 1, .ref l0]) cd_66_101 rfl rfl ?_
        refine gs_0 (pc' := 106) (L' := [some (.ref l0), some (.int l1), some (.int l2), some (.int l3), some (.int l4), some (.int s0)]) (st' := [.int 1, .ref l0]) cd_66_102 rfl rfl ?_
        exact ok_66_106 h
  · rw [if_neg hc] at h
    refine gs_0 (pc' := 50) (L' := [some (.ref l0), some (.int l1), some (.int l2), some (.int l3), some (.int l4), some (.int s0)]) (st' := [.ref l0]) cd_66_49 rfl rfl ?_
    refine gs_0 (pc' := 52) (L' := [some (.ref l0), some (.int l1), some (.int l2), some (.int l3), some (.int l4), some (.int s0)]) (st' := [.int l4, .ref l0]) cd_66_50 rfl rfl ?_
    refine gs_0 (pc' := 54) (L' := [some (.ref l0), some (.int l1), some (.int l2), some (.int l3), some (.int l4), some (.int s0)]) (st' := [.int s0, .int l4, .ref l0]) cd_66_52 rfl rfl ?_
    refine gs_0 (pc' := if ¬ l4 = s0 then 72 else 57) (L' := [some (.ref l0), some (.int l1), some (.int l2), some (.int l3), some (.int l4), some (.int s0)]) (st' := [.ref l0]) cd_66_54 rfl rfl ?_
    refine go_ite (fun hc => ?_) (fun hc => ?_)
    · rw [if_pos hc] at h
      exact ok_66_72 h
    · rw [if_neg hc] at h
      refine gs_0 (pc' := 59) (L' := [some (.ref l0), some (.int l1), some (.int l2), some (.int l3), some (.int l4), some (.int s0)]) (st' := [.int l4, .ref l0]) cd_66_57 rfl rfl ?_
      refine gs_0 (pc' := if l4 = 0 then 68 else 62) (L' := [some (.ref l0), some (.int l1), some (.int l2), some (.int l3), some (.int l4), some (.int s0)]) (st' := [.ref l0]) cd_66_59 rfl rfl ?_
      refine go_ite (fun hc => ?_) (fun hc => ?_)
      · rw [if_pos hc] at h
        exact ok_66_68 h
      · rw [if_neg hc] at h
        refine gs_0 (pc' := 64) (L' := [some (.ref l0), some (.int l1), some (.int l2), some (.int l3), some (.int l4), some (.int s0)]) (st' := [.int l4, .ref l0]) cd_66_62 rfl rfl ?_
        refine gs_0 (pc' := 65) (L' := [some (.ref l0), some (.int l1), some (.int l2), some (.int l3), some (.int l4), some (.int s0)]) (st' := [.int 1, .int l4, .ref l0]) cd_66_64 rfl rfl ?_
        refine gs_0 (pc' := if ¬ l4 = 1 then 72 else 68) (L' := [some (.ref l0), some (.int l1), some (.int l2), some (.int l3), some (.int l4), some (.int s0)]) (st' := [.ref l0]) cd_66_65 rfl rfl ?_
        refine go_ite (fun hc => ?_) (fun hc => ?_)
        · rw [if_pos hc] at h
          exact ok_66_72 h
        · rw [if_neg hc] at h
          exact ok_66_68 h
noncomputable def f_66 (K : Nat → Value) (k d : Nat) (l0 : Nat) (l1 : Int32) (l2 : Int32) (w : aW) (I : aI) (J : aJ) : Option aR :=
  lt_ (l1 - 5) fun x_1 =>
  if x_1 < 0 then
    some (none, w, I, J)
  else
    kR (K 25) fun q_2 =>
    gL w q_2 fun n_3 =>
    if x_1 < n_3 then
      gO w 2 l0 (
      cI (Cl K d 67 [.ref l0, .int 1] w I J) fun x_7 w_4 I_5 J_6 =>
      kR (K 24) fun q_8 =>
      gA w_4 10 20 q_8 x_1 (
      if 0 ≤ (I_5 q_8 (x_1 : Int32).toNatClampNeg) then
        gO w_4 2 l0 (
        cI (Cl K d 67 [.ref l0, .int 2] w_4 I_5 J_6) fun x_12 w_9 I_10 J_11 =>
        f_66_41 K k d l0 l1 l2 x_1 x_7 x_12 w_9 I_10 J_11)
      else
        f_66_41 K k d l0 l1 l2 x_1 x_7 (-1) w_4 I_5 J_6))
    else
      some (none, w, I, J)
theorem ok_66 {K : Nat → Value} {k d : Nat} {l0 : Nat} {l1 : Int32} {l2 : Int32} {w : aW} {I : aI} {J : aJ} {R : aR} (h : f_66 K k d l0 l1 l2 w I J = some R) : Go K (d + 1) 66 0 [some (.ref l0), some (.int l1), some (.int l2), none, none, none] [] w I J R := by
  unfold f_66 at h
  refine gs_0 (pc' := 1) (L' := [some (.ref l0), some (.int l1), some (.int l2), none, none, none]) (st' := [.int l1]) cd_66_0 rfl rfl ?_
  refine gs_0 (pc' := 2) (L' := [some (.ref l0), some (.int l1), some (.int l2), none, none, none]) (st' := [.int 5, .int l1]) cd_66_1 rfl rfl ?_
  refine gs_0 (pc' := 3) (L' := [some (.ref l0), some (.int l1), some (.int l2), none, none, none]) (st' := [.int (l1 - 5)]) cd_66_2 rfl rfl ?_
  refine gs_0 (pc' := 4) (L' := [some (.ref l0), some (.int l1), some (.int l2), some (.int (l1 - 5)), none, none]) (st' := []) cd_66_3 rfl rfl ?_
  obtain ⟨x_1, hx, h⟩ := lt_s_ h
  rw [hx]
  clear hx
  refine gs_0 (pc' := 5) (L' := [some (.ref l0), some (.int l1), some (.int l2), some (.int x_1), none, none]) (st' := [.int x_1]) cd_66_4 rfl rfl ?_
  refine gs_0 (pc' := if x_1 < 0 then 16 else 8) (L' := [some (.ref l0), some (.int l1), some (.int l2), some (.int x_1), none, none]) (st' := []) cd_66_5 rfl rfl ?_
  refine go_ite (fun hc => ?_) (fun hc => ?_)
  · rw [if_pos hc] at h
    cases h
    exact gsr cd_66_16 rfl rfl
  · rw [if_neg hc] at h
    refine gs_0 (pc' := 9) (L' := [some (.ref l0), some (.int l1), some (.int l2), some (.int x_1), none, none]) (st' := [.int x_1]) cd_66_8 rfl rfl ?_
    refine gs_0 (pc' := 12) (L' := [some (.ref l0), some (.int l1), some (.int l2), some (.int x_1), none, none]) (st' := [K 25, .int x_1]) cd_66_9 rfl rfl ?_
    obtain ⟨q_2, hq, h⟩ := kR_s h
    rw [hq]
    obtain ⟨t0, n0, ht, ht2, h⟩ := gL_s h
    refine gs_alen cd_66_12 ht ht2 ?_
    generalize Int32.ofNat n0 = n_3 at h ⊢
    refine gs_0 (pc' := if x_1 < n_3 then 17 else 16) (L' := [some (.ref l0), some (.int l1), some (.int l2), some (.int x_1), none, none]) (st' := []) cd_66_13 rfl rfl ?_
    refine go_ite (fun hc => ?_) (fun hc => ?_)
    · rw [if_pos hc] at h
      refine gs_0 (pc' := 18) (L' := [some (.ref l0), some (.int l1), some (.int l2), some (.int x_1), none, none]) (st' := [.ref l0]) cd_66_17 rfl rfl ?_
      refine gs_0 (pc' := 19) (L' := [some (.ref l0), some (.int l1), some (.int l2), some (.int x_1), none, none]) (st' := [.int 1, .ref l0]) cd_66_18 rfl rfl ?_
      obtain ⟨ht, h⟩ := gO_s h
      obtain ⟨x_7, w_4, I_5, J_6, hcl, h⟩ := cI_s h
      refine gs_call (as := [.ref l0, .int 1]) (rest := []) cd_66_19 rfl (by decide) rfl (sm_rv_ok (by decide) ht) (Nat.le_of_ble_eq_true rfl) (Nat.le_of_ble_eq_true rfl) rfl hcl ?_
      refine gs_0 (pc' := 24) (L' := [some (.ref l0), some (.int l1), some (.int l2), some (.int x_1), some (.int x_7), none]) (st' := []) cd_66_22 rfl rfl ?_
      refine gs_0 (pc' := 27) (L' := [some (.ref l0), some (.int l1), some (.int l2), some (.int x_1), some (.int x_7), none]) (st' := [K 24]) cd_66_24 rfl rfl ?_
      obtain ⟨q_8, hq, h⟩ := kR_s h
      rw [hq]
      refine gs_0 (pc' := 28) (L' := [some (.ref l0), some (.int l1), some (.int l2), some (.int x_1), some (.int x_7), none]) (st' := [.int x_1, .ref q_8]) cd_66_27 rfl rfl ?_
      obtain ⟨ht, h⟩ := gA_s h
      refine gs_iald cd_66_28 ht ?_
      refine gs_0 (pc' := if 0 ≤ (I_5 q_8 (x_1 : Int32).toNatClampNeg) then 36 else 32) (L' := [some (.ref l0), some (.int l1), some (.int l2), some (.int x_1), some (.int x_7), none]) (st' := []) cd_66_29 rfl rfl ?_
      refine go_ite (fun hc => ?_) (fun hc => ?_)
      · rw [if_pos hc] at h
        refine gs_0 (pc' := 37) (L' := [some (.ref l0), some (.int l1), some (.int l2), some (.int x_1), some (.int x_7), none]) (st' := [.ref l0]) cd_66_36 rfl rfl ?_
        refine gs_0 (pc' := 38) (L' := [some (.ref l0), some (.int l1), some (.int l2), some (.int x_1), some (.int x_7), none]) (st' := [.int 2, .ref l0]) cd_66_37 rfl rfl ?_
        obtain ⟨ht, h⟩ := gO_s h
        obtain ⟨x_12, w_9, I_10, J_11, hcl, h⟩ := cI_s h
        refine gs_call (as := [.ref l0, .int 2]) (rest := []) cd_66_38 rfl (by decide) rfl (sm_rv_ok (by decide) ht) (Nat.le_of_ble_eq_true rfl) (Nat.le_of_ble_eq_true rfl) rfl hcl ?_
        exact ok_66_41 h
      · rw [if_neg hc] at h
        refine gs_0 (pc' := 33) (L' := [some (.ref l0), some (.int l1), some (.int l2), some (.int x_1), some (.int x_7), none]) (st' := [.int ((-1))]) cd_66_32 rfl rfl ?_
        refine gs_0 (pc' := 41) (L' := [some (.ref l0), some (.int l1), some (.int l2), some (.int x_1), some (.int x_7), none]) (st' := [.int ((-1))]) cd_66_33 rfl rfl ?_
        exact ok_66_41 h
    · rw [if_neg hc] at h
      cases h
      exact gsr cd_66_16 rfl rfl
theorem cl_66 {K : Nat → Value} {k d : Nat} {l0 : Nat} {l1 : Int32} {l2 : Int32} {w : aW} {I : aI} {J : aJ} {R : aR} (h : f_66 K k d l0 l1 l2 w I J = some R) : Cl K (d + 1) 66 [.ref l0, .int l1, .int l2] w I J = some R := Cl_of (ok_66 h)

/-! methods as functions, by own program (wip/whole/gen_f.py) -/
/-! ProvedMachine$Reader.typeFromTop(I)I -/
theorem gl_67 : gcd.lookup 67 = some gw_67 := rfl
theorem cd_67_0 : sm_cd 67 0 = some (.iload_n 1, 1, 1, 0, 0, 0, 0, 0, 0) := cd_of gl_67 rfl
theorem cd_67_1 : sm_cd 67 1 = some (.iconst 1, 1, 0, 0, 0, 0, 0, 1, 0) := cd_of gl_67 rfl
theorem cd_67_2 : sm_cd 67 2 = some (.if_icmp .lt 25, 3, 27, 0, 0, 0, 0, 0, 0) := cd_of gl_67 rfl
theorem cd_67_5 : sm_cd 67 5 = some (.iload_n 1, 1, 1, 0, 0, 0, 0, 0, 0) := cd_of gl_67 rfl
theorem cd_67_6 : sm_cd 67 6 = some (.aload_n 0, 1, 0, 0, 0, 0, 0, 0, 0) := cd_of gl_67 rfl
theorem cd_67_7 : sm_cd 67 7 = some (.getfield 45, 3, 2, 8, 0, 0, 0, 0, 0) := cd_of gl_67 rfl
theorem cd_67_10 : sm_cd 67 10 = some (.if_icmp .gt 17, 3, 27, 0, 0, 0, 0, 0, 0) := cd_of gl_67 rfl
theorem cd_67_13 : sm_cd 67 13 = some (.aload_n 0, 1, 0, 0, 0, 0, 0, 0, 0) := cd_of gl_67 rfl
theorem cd_67_14 : sm_cd 67 14 = some (.getfield 48, 3, 2, 9, 2, 0, 0, 0, 0) := cd_of gl_67 rfl
theorem cd_67_17 : sm_cd 67 17 = some (.aload_n 0, 1, 0, 0, 0, 0, 0, 0, 0) := cd_of gl_67 rfl
theorem cd_67_18 : sm_cd 67 18 = some (.getfield 45, 3, 2, 8, 0, 0, 0, 0, 0) := cd_of gl_67 rfl
theorem cd_67_21 : sm_cd 67 21 = some (.iload_n 1, 1, 1, 0, 0, 0, 0, 0, 0) := cd_of gl_67 rfl
theorem cd_67_22 : sm_cd 67 22 = some (.isub, 1, 0, 0, 0, 0, 0, 0, 0) := cd_of gl_67 rfl
theorem cd_67_23 : sm_cd 67 23 = some (.iaload, 1, 0, 0, 0, 0, 0, 0, 0) := cd_of gl_67 rfl
theorem cd_67_24 : sm_cd 67 24 = some (.goto 4, 3, 28, 0, 0, 0, 0, 0, 0) := cd_of gl_67 rfl
theorem cd_67_27 : sm_cd 67 27 = some (.iconst (-1), 1, 0, 0, 0, 0, 0, (-1), 0) := cd_of gl_67 rfl
theorem cd_67_28 : sm_cd 67 28 = some (.ireturn, 1, 0, 0, 1, 0, 0, 0, 0) := cd_of gl_67 rfl
noncomputable def f_67 (K : Nat → Value) (k d : Nat) (l0 : Nat) (l1 : Int32) (w : aW) (I : aI) (J : aJ) : Option aR :=
  if l1 < 1 then
    some (some (.int (-1)), w, I, J)
  else
    gO w 2 l0 (
    if (I l0 8) < l1 then
      some (some (.int (-1)), w, I, J)
    else
      gO w 2 l0 (
      gV w l0 9 fun q_1 =>
      gO w 2 l0 (
      gA w 10 20 q_1 ((I l0 8) - l1) (
      some (some (.int (I q_1 ((I l0 8) - l1 : Int32).toNatClampNeg)), w, I, J)))))
theorem ok_67 {K : Nat → Value} {k d : Nat} {l0 : Nat} {l1 : Int32} {w : aW} {I : aI} {J : aJ} {R : aR} (h : f_67 K k d l0 l1 w I J = some R) : Go K (d + 1) 67 0 [some (.ref l0), some (.int l1)] [] w I J R := by
  unfold f_67 at h
  refine gs_0 (pc' := 1) (L' := [some (.ref l0), some (.int l1)]) (st' := [.int l1]) cd_67_0 rfl rfl ?_
  refine gs_0 (pc' := 2) (L' := [some (.ref l0), some (.int l1)]) (st' := [.int 1, .int l1]) cd_67_1 rfl rfl ?_
  refine gs_0 (pc' := if l1 < 1 then 27 else 5) (L' := [some (.ref l0), some (.int l1)]) (st' := []) cd_67_2 rfl rfl ?_
  refine go_ite (fun hc => ?_) (fun hc => ?_)
  · rw [if_pos hc] at h
    refine gs_0 (pc' := 28) (L' := [some (.ref l0), some (.int l1)]) (st' := [.int ((-1))]) cd_67_27 rfl rfl ?_
    cases h
    exact gs_ri cd_67_28 (Or.inl rfl)
  · rw [if_neg hc] at h
    refine gs_0 (pc' := 6) (L' := [some (.ref l0), some (.int l1)]) (st' := [.int l1]) cd_67_5 rfl rfl ?_
    refine gs_0 (pc' := 7) (L' := [some (.ref l0), some (.int l1)]) (st' := [.ref l0, .int l1]) cd_67_6 rfl rfl ?_
    obtain ⟨ht, h⟩ := gO_s h
    refine gs_gfI cd_67_7 (by decide) (by decide) ht ?_
    refine gs_0 (pc' := if (I l0 8) < l1 then 27 else 13) (L' := [some (.ref l0), some (.int l1)]) (st' := []) cd_67_10 rfl rfl ?_
    refine go_ite (fun hc => ?_) (fun hc => ?_)
    · rw [if_pos hc] at h
      refine gs_0 (pc' := 28) (L' := [some (.ref l0), some (.int l1)]) (st' := [.int ((-1))]) cd_67_27 rfl rfl ?_
      cases h
      exact gs_ri cd_67_28 (Or.inl rfl)
    · rw [if_neg hc] at h
      refine gs_0 (pc' := 14) (L' := [some (.ref l0), some (.int l1)]) (st' := [.ref l0]) cd_67_13 rfl rfl ?_
      obtain ⟨ht, h⟩ := gO_s h
      obtain ⟨q_1, hv, h⟩ := gV_s h
      refine gs_gfR cd_67_14 (by decide) ht hv ?_
      refine gs_0 (pc' := 18) (L' := [some (.ref l0), some (.int l1)]) (st' := [.ref l0, .ref q_1]) cd_67_17 rfl rfl ?_
      obtain ⟨ht, h⟩ := gO_s h
      refine gs_gfI cd_67_18 (by decide) (by decide) ht ?_
      refine gs_0 (pc' := 22) (L' := [some (.ref l0), some (.int l1)]) (st' := [.int l1, .int (I l0 8), .ref q_1]) cd_67_21 rfl rfl ?_
      refine gs_0 (pc' := 23) (L' := [some (.ref l0), some (.int l1)]) (st' := [.int ((I l0 8) - l1), .ref q_1]) cd_67_22 rfl rfl ?_
      obtain ⟨ht, h⟩ := gA_s h
      refine gs_iald cd_67_23 ht ?_
      refine gs_0 (pc' := 28) (L' := [some (.ref l0), some (.int l1)]) (st' := [.int (I q_1 ((I l0 8) - l1 : Int32).toNatClampNeg)]) cd_67_24 rfl rfl ?_
      cases h
      exact gs_ri cd_67_28 (Or.inl rfl)
theorem cl_67 {K : Nat → Value} {k d : Nat} {l0 : Nat} {l1 : Int32} {w : aW} {I : aI} {J : aJ} {R : aR} (h : f_67 K k d l0 l1 w I J = some R) : Cl K (d + 1) 67 [.ref l0, .int l1] w I J = some R := Cl_of (ok_67 h)
/-! ProvedMachine$Reader.askType(ZI)V -/
theorem gl_68 : gcd.lookup 68 = some gw_68 := rfl
theorem cd_68_0 : sm_cd 68 0 = some (.iload_n 1, 1, 1, 0, 0, 0, 0, 0, 0) := cd_of gl_68 rfl
theorem cd_68_1 : sm_cd 68 1 = some (.ifCond .ne 15, 3, 16, 0, 0, 0, 0, 0, 0) := cd_of gl_68 rfl
theorem cd_68_4 : sm_cd 68 4 = some (.aload_n 0, 1, 0, 0, 0, 0, 0, 0, 0) := cd_of gl_68 rfl
theorem cd_68_5 : sm_cd 68 5 = some (.getfield 42, 3, 2, 7, 0, 0, 0, 0, 0) := cd_of gl_68 rfl
theorem cd_68_8 : sm_cd 68 8 = some (.ifCond .ge 8, 3, 16, 0, 0, 0, 0, 0, 0) := cd_of gl_68 rfl
theorem cd_68_11 : sm_cd 68 11 = some (.aload_n 0, 1, 0, 0, 0, 0, 0, 0, 0) := cd_of gl_68 rfl
theorem cd_68_12 : sm_cd 68 12 = some (.iload_n 2, 1, 2, 0, 0, 0, 0, 0, 0) := cd_of gl_68 rfl
theorem cd_68_13 : sm_cd 68 13 = some (.putfield 42, 3, 2, 7, 0, 0, 0, 0, 0) := cd_of gl_68 rfl
theorem cd_68_16 : sm_cd 68 16 = some (.return_, 1, 0, 0, 0, 0, 0, 0, 0) := cd_of gl_68 rfl
noncomputable def f_68 (K : Nat → Value) (k d : Nat) (l0 : Nat) (l1 : Int32) (l2 : Int32) (w : aW) (I : aI) (J : aJ) : Option aR :=
  if ¬ l1 = 0 then
    some (none, w, I, J)
  else
    gO w 2 l0 (
    if 0 ≤ (I l0 7) then
      some (none, w, I, J)
    else
      gO w 2 l0 (
      lt_ (sm_up2 I l0 7 l2) fun I_1 =>
      some (none, w, I_1, J)))
theorem ok_68 {K : Nat → Value} {k d : Nat} {l0 : Nat} {l1 : Int32} {l2 : Int32} {w : aW} {I : aI} {J : aJ} {R : aR} (h : f_68 K k d l0 l1 l2 w I J = some R) : Go K (d + 1) 68 0 [some (.ref l0), some (.int l1), some (.int l2)] [] w I J R := by
  unfold f_68 at h
  refine gs_0 (pc' := 1) (L' := [some (.ref l0), some (.int l1), some (.int l2)]) (st' := [.int l1]) cd_68_0 rfl rfl ?_
  refine gs_0 (pc' := if ¬ l1 = 0 then 16 else 4) (L' := [some (.ref l0), some (.int l1), some (.int l2)]) (st' := []) cd_68_1 rfl rfl ?_
  refine go_ite (fun hc => ?_) (fun hc => ?_)
  · rw [if_pos hc] at h
    cases h
    exact gsr cd_68_16 rfl rfl
  · rw [if_neg hc] at h
    refine gs_0 (pc' := 5) (L' := [some (.ref l0), some (.int l1), some (.int l2)]) (st' := [.ref l0]) cd_68_4 rfl rfl ?_
    obtain ⟨ht, h⟩ := gO_s h
    refine gs_gfI cd_68_5 (by decide) (by decide) ht ?_
    refine gs_0 (pc' := if 0 ≤ (I l0 7) then 16 else 11) (L' := [some (.ref l0), some (.int l1), some (.int l2)]) (st' := []) cd_68_8 rfl rfl ?_
    refine go_ite (fun hc => ?_) (fun hc => ?_)
    · rw [if_pos hc] at h
      cases h
      exact gsr cd_68_16 rfl rfl
    · rw [if_neg hc] at h
      refine gs_0 (pc' := 12) (L' := [some (.ref l0), some (.int l1), some (.int l2)]) (st' := [.ref l0]) cd_68_11 rfl rfl ?_
      refine gs_0 (pc' := 13) (L' := [some (.ref l0), some (.int l1), some (.int l2)]) (st' := [.int l2, .ref l0]) cd_68_12 rfl rfl ?_
      obtain ⟨ht, h⟩ := gO_s h
      refine gs_pfI cd_68_13 (by decide) (Or.inl rfl) ht ?_
      obtain ⟨I_1, hx, h⟩ := lt_s_ h
      rw [hx]
      cases h
      exact gsr cd_68_16 rfl rfl
theorem cl_68 {K : Nat → Value} {k d : Nat} {l0 : Nat} {l1 : Int32} {l2 : Int32} {w : aW} {I : aI} {J : aJ} {R : aR} (h : f_68 K k d l0 l1 l2 w I J = some R) : Cl K (d + 1) 68 [.ref l0, .int l1, .int l2] w I J = some R := Cl_of (ok_68 h)
/-! ProvedMachine$Reader.readName(I)V -/
theorem gl_69 : gcd.lookup 69 = some gw_69 := rfl
theorem cd_69_0 : sm_cd 69 0 = some (.aload_n 0, 1, 0, 0, 0, 0, 0, 0, 0) := cd_of gl_69 rfl
theorem cd_69_1 : sm_cd 69 1 = some (.getfield 12, 3, 2, 0, 2, 0, 0, 0, 0) := cd_of gl_69 rfl
theorem cd_69_4 : sm_cd 69 4 = some (.invokevirtual 78, 3, 44, 0, 0, 1, 4, 0, 0) := cd_of gl_69 rfl
theorem cd_69_7 : sm_cd 69 7 = some (.istore_n 2, 1, 2, 0, 0, 0, 0, 0, 0) := cd_of gl_69 rfl
theorem cd_69_8 : sm_cd 69 8 = some (.aload_n 0, 1, 0, 0, 0, 0, 0, 0, 0) := cd_of gl_69 rfl
theorem cd_69_9 : sm_cd 69 9 = some (.getfield 12, 3, 2, 0, 2, 0, 0, 0, 0) := cd_of gl_69 rfl
theorem cd_69_12 : sm_cd 69 12 = some (.invokevirtual 129, 3, 45, 0, 0, 2, 4, 0, 0) := cd_of gl_69 rfl
theorem cd_69_15 : sm_cd 69 15 = some (.istore_n 3, 1, 3, 0, 0, 0, 0, 0, 0) := cd_of gl_69 rfl
theorem cd_69_16 : sm_cd 69 16 = some (.aload_n 0, 1, 0, 0, 0, 0, 0, 0, 0) := cd_of gl_69 rfl
theorem cd_69_17 : sm_cd 69 17 = some (.getfield 12, 3, 2, 0, 2, 0, 0, 0, 0) := cd_of gl_69 rfl
theorem cd_69_20 : sm_cd 69 20 = some (.invokevirtual 93, 3, 37, 0, 0, 1, 4, 0, 0) := cd_of gl_69 rfl
theorem cd_69_23 : sm_cd 69 23 = some (.bipush 40, 2, 0, 0, 0, 0, 0, 40, 0) := cd_of gl_69 rfl
theorem cd_69_25 : sm_cd 69 25 = some (.if_icmp .eq 42, 3, 67, 0, 0, 0, 0, 0, 0) := cd_of gl_69 rfl
theorem cd_69_28 : sm_cd 69 28 = some (.aload_n 0, 1, 0, 0, 0, 0, 0, 0, 0) := cd_of gl_69 rfl
theorem cd_69_29 : sm_cd 69 29 = some (.iload_n 3, 1, 3, 0, 0, 0, 0, 0, 0) := cd_of gl_69 rfl
theorem cd_69_30 : sm_cd 69 30 = some (.invokevirtual 188, 3, 53, 0, 1, 2, 2, 0, 0) := cd_of gl_69 rfl
theorem cd_69_33 : sm_cd 69 33 = some (.istore 4, 2, 4, 0, 0, 0, 0, 0, 0) := cd_of gl_69 rfl
theorem cd_69_35 : sm_cd 69 35 = some (.iload 4, 2, 4, 0, 0, 0, 0, 0, 0) := cd_of gl_69 rfl
theorem cd_69_37 : sm_cd 69 37 = some (.ifCond .ge 8, 3, 45, 0, 0, 0, 0, 0, 0) := cd_of gl_69 rfl
theorem cd_69_40 : sm_cd 69 40 = some (.aload_n 0, 1, 0, 0, 0, 0, 0, 0, 0) := cd_of gl_69 rfl
theorem cd_69_41 : sm_cd 69 41 = some (.iload_n 2, 1, 2, 0, 0, 0, 0, 0, 0) := cd_of gl_69 rfl
theorem cd_69_42 : sm_cd 69 42 = some (.invokevirtual 113, 3, 48, 0, 1, 2, 2, 0, 0) := cd_of gl_69 rfl
theorem cd_69_45 : sm_cd 69 45 = some (.aload_n 0, 1, 0, 0, 0, 0, 0, 0, 0) := cd_of gl_69 rfl
theorem cd_69_46 : sm_cd 69 46 = some (.iconst 3, 1, 0, 0, 0, 0, 0, 3, 0) := cd_of gl_69 rfl
theorem cd_69_47 : sm_cd 69 47 = some (.iload 4, 2, 4, 0, 0, 0, 0, 0, 0) := cd_of gl_69 rfl
theorem cd_69_49 : sm_cd 69 49 = some (.iconst 0, 1, 0, 0, 0, 0, 0, 0, 0) := cd_of gl_69 rfl
theorem cd_69_50 : sm_cd 69 50 = some (.aload_n 0, 1, 0, 0, 0, 0, 0, 0, 0) := cd_of gl_69 rfl
theorem cd_69_51 : sm_cd 69 51 = some (.getfield 21, 3, 2, 1, 2, 0, 0, 0, 0) := cd_of gl_69 rfl
theorem cd_69_54 : sm_cd 69 54 = some (.aload_n 0, 1, 0, 0, 0, 0, 0, 0, 0) := cd_of gl_69 rfl
theorem cd_69_55 : sm_cd 69 55 = some (.getfield 25, 3, 2, 2, 0, 0, 0, 0, 0) := cd_of gl_69 rfl
theorem cd_69_58 : sm_cd 69 58 = some (.iload 4, 2, 4, 0, 0, 0, 0, 0, 0) := cd_of gl_69 rfl
theorem cd_69_60 : sm_cd 69 60 = some (.invokevirtual 191, 3, 70, 0, 2, 4, 1, 0, 0) := cd_of gl_69 rfl
theorem cd_69_63 : sm_cd 69 63 = some (.invokevirtual 149, 3, 58, 0, 4, 5, 2, 0, 0) := cd_of gl_69 rfl
theorem cd_69_66 : sm_cd 69 66 = some (.return_, 1, 0, 0, 0, 0, 0, 0, 0) := cd_of gl_69 rfl
theorem cd_69_67 : sm_cd 69 67 = some (.aload_n 0, 1, 0, 0, 0, 0, 0, 0, 0) := cd_of gl_69 rfl
theorem cd_69_68 : sm_cd 69 68 = some (.getfield 12, 3, 2, 0, 2, 0, 0, 0, 0) := cd_of gl_69 rfl
theorem cd_69_71 : sm_cd 69 71 = some (.invokevirtual 146, 3, 42, 0, 0, 1, 4, 0, 0) := cd_of gl_69 rfl
theorem cd_69_74 : sm_cd 69 74 = some (.iconst 0, 1, 0, 0, 0, 0, 0, 0, 0) := cd_of gl_69 rfl
theorem cd_69_75 : sm_cd 69 75 = some (.istore 4, 2, 4, 0, 0, 0, 0, 0, 0) := cd_of gl_69 rfl
theorem cd_69_77 : sm_cd 69 77 = some (.iload 4, 2, 4, 0, 0, 0, 0, 0, 0) := cd_of gl_69 rfl
theorem cd_69_79 : sm_cd 69 79 = some (.sipush 240, 3, 0, 0, 0, 0, 0, 240, 0) := cd_of gl_69 rfl
theorem cd_69_82 : sm_cd 69 82 = some (.if_icmp .ge 24, 3, 106, 0, 0, 0, 0, 0, 0) := cd_of gl_69 rfl
theorem cd_69_85 : sm_cd 69 85 = some (.aload_n 0, 1, 0, 0, 0, 0, 0, 0, 0) := cd_of gl_69 rfl
theorem cd_69_86 : sm_cd 69 86 = some (.iload 4, 2, 4, 0, 0, 0, 0, 0, 0) := cd_of gl_69 rfl
theorem cd_69_88 : sm_cd 69 88 = some (.invokevirtual 136, 3, 49, 0, 1, 2, 2, 0, 0) := cd_of gl_69 rfl
theorem cd_69_91 : sm_cd 69 91 = some (.ifCond .eq 15, 3, 106, 0, 0, 0, 0, 0, 0) := cd_of gl_69 rfl
theorem cd_69_94 : sm_cd 69 94 = some (.aload_n 0, 1, 0, 0, 0, 0, 0, 0, 0) := cd_of gl_69 rfl
theorem cd_69_95 : sm_cd 69 95 = some (.iconst 0, 1, 0, 0, 0, 0, 0, 0, 0) := cd_of gl_69 rfl
theorem cd_69_96 : sm_cd 69 96 = some (.iload_n 1, 1, 1, 0, 0, 0, 0, 0, 0) := cd_of gl_69 rfl
theorem cd_69_97 : sm_cd 69 97 = some (.invokevirtual 177, 3, 63, 0, 2, 9, 2, 0, 0) := cd_of gl_69 rfl
theorem cd_69_100 : sm_cd 69 100 = some (.iinc 4 1, 3, 4, 0, 0, 0, 0, 1, 0) := cd_of gl_69 rfl
theorem cd_69_103 : sm_cd 69 103 = some (.goto (-26), 3, 77, 0, 0, 0, 0, 0, 0) := cd_of gl_69 rfl
theorem cd_69_106 : sm_cd 69 106 = some (.aload_n 0, 1, 0, 0, 0, 0, 0, 0, 0) := cd_of gl_69 rfl
theorem cd_69_107 : sm_cd 69 107 = some (.getfield 12, 3, 2, 0, 2, 0, 0, 0, 0) := cd_of gl_69 rfl
theorem cd_69_110 : sm_cd 69 110 = some (.bipush 41, 2, 0, 0, 0, 0, 0, 41, 0) := cd_of gl_69 rfl
theorem cd_69_112 : sm_cd 69 112 = some (.invokevirtual 116, 3, 41, 0, 1, 2, 4, 0, 0) := cd_of gl_69 rfl
theorem cd_69_115 : sm_cd 69 115 = some (.aload_n 0, 1, 0, 0, 0, 0, 0, 0, 0) := cd_of gl_69 rfl
theorem cd_69_116 : sm_cd 69 116 = some (.iload_n 3, 1, 3, 0, 0, 0, 0, 0, 0) := cd_of gl_69 rfl
theorem cd_69_117 : sm_cd 69 117 = some (.invokevirtual 132, 3, 47, 0, 1, 2, 2, 0, 0) := cd_of gl_69 rfl
theorem cd_69_120 : sm_cd 69 120 = some (.istore 5, 2, 5, 0, 0, 0, 0, 0, 0) := cd_of gl_69 rfl
theorem cd_69_122 : sm_cd 69 122 = some (.iload 5, 2, 5, 0, 0, 0, 0, 0, 0) := cd_of gl_69 rfl
theorem cd_69_124 : sm_cd 69 124 = some (.ifCond .lt 18, 3, 142, 0, 0, 0, 0, 0, 0) := cd_of gl_69 rfl
theorem cd_69_127 : sm_cd 69 127 = some (.iload 4, 2, 4, 0, 0, 0, 0, 0, 0) := cd_of gl_69 rfl
theorem cd_69_129 : sm_cd 69 129 = some (.aload_n 0, 1, 0, 0, 0, 0, 0, 0, 0) := cd_of gl_69 rfl
theorem cd_69_130 : sm_cd 69 130 = some (.getfield 21, 3, 2, 1, 2, 0, 0, 0, 0) := cd_of gl_69 rfl
theorem cd_69_133 : sm_cd 69 133 = some (.iload 5, 2, 5, 0, 0, 0, 0, 0, 0) := cd_of gl_69 rfl
theorem cd_69_135 : sm_cd 69 135 = some (.iconst 1, 1, 0, 0, 0, 0, 0, 1, 0) := cd_of gl_69 rfl
theorem cd_69_136 : sm_cd 69 136 = some (.invokevirtual 109, 3, 52, 0, 2, 4, 1, 0, 0) := cd_of gl_69 rfl
theorem cd_69_139 : sm_cd 69 139 = some (.if_icmp .eq 8, 3, 147, 0, 0, 0, 0, 0, 0) := cd_of gl_69 rfl
theorem cd_69_142 : sm_cd 69 142 = some (.aload_n 0, 1, 0, 0, 0, 0, 0, 0, 0) := cd_of gl_69 rfl
theorem cd_69_143 : sm_cd 69 143 = some (.iload_n 2, 1, 2, 0, 0, 0, 0, 0, 0) := cd_of gl_69 rfl
theorem cd_69_144 : sm_cd 69 144 = some (.invokevirtual 113, 3, 48, 0, 1, 2, 2, 0, 0) := cd_of gl_69 rfl
theorem cd_69_147 : sm_cd 69 147 = some (.aload_n 0, 1, 0, 0, 0, 0, 0, 0, 0) := cd_of gl_69 rfl
theorem cd_69_148 : sm_cd 69 148 = some (.aload_n 0, 1, 0, 0, 0, 0, 0, 0, 0) := cd_of gl_69 rfl
theorem cd_69_149 : sm_cd 69 149 = some (.iload 5, 2, 5, 0, 0, 0, 0, 0, 0) := cd_of gl_69 rfl
theorem cd_69_151 : sm_cd 69 151 = some (.iload 4, 2, 4, 0, 0, 0, 0, 0, 0) := cd_of gl_69 rfl
theorem cd_69_153 : sm_cd 69 153 = some (.invokevirtual 218, 3, 71, 0, 2, 4, 2, 0, 0) := cd_of gl_69 rfl
theorem cd_69_156 : sm_cd 69 156 = some (.iload_n 2, 1, 2, 0, 0, 0, 0, 0, 0) := cd_of gl_69 rfl
theorem cd_69_157 : sm_cd 69 157 = some (.invokevirtual 184, 3, 68, 0, 2, 3, 2, 0, 0) := cd_of gl_69 rfl
theorem cd_69_160 : sm_cd 69 160 = some (.aload_n 0, 1, 0, 0, 0, 0, 0, 0, 0) := cd_of gl_69 rfl
theorem cd_69_161 : sm_cd 69 161 = some (.iconst 4, 1, 0, 0, 0, 0, 0, 4, 0) := cd_of gl_69 rfl
theorem cd_69_162 : sm_cd 69 162 = some (.iload 5, 2, 5, 0, 0, 0, 0, 0, 0) := cd_of gl_69 rfl
theorem cd_69_164 : sm_cd 69 164 = some (.iload 4, 2, 4, 0, 0, 0, 0, 0, 0) := cd_of gl_69 rfl
theorem cd_69_166 : sm_cd 69 166 = some (.aload_n 0, 1, 0, 0, 0, 0, 0, 0, 0) := cd_of gl_69 rfl
theorem cd_69_167 : sm_cd 69 167 = some (.getfield 21, 3, 2, 1, 2, 0, 0, 0, 0) := cd_of gl_69 rfl
theorem cd_69_170 : sm_cd 69 170 = some (.iload 5, 2, 5, 0, 0, 0, 0, 0, 0) := cd_of gl_69 rfl
theorem cd_69_172 : sm_cd 69 172 = some (.iconst 3, 1, 0, 0, 0, 0, 0, 3, 0) := cd_of gl_69 rfl
theorem cd_69_173 : sm_cd 69 173 = some (.invokevirtual 109, 3, 52, 0, 2, 4, 1, 0, 0) := cd_of gl_69 rfl
theorem cd_69_176 : sm_cd 69 176 = some (.invokevirtual 149, 3, 58, 0, 4, 5, 2, 0, 0) := cd_of gl_69 rfl
theorem cd_69_179 : sm_cd 69 179 = some (.return_, 1, 0, 0, 0, 0, 0, 0, 0) := cd_of gl_69 rfl
noncomputable def f_69_147 (K : Nat → Value) (k d : Nat) (l0 : Nat) (l1 : Int32) (l2 : Int32) (l3 : Int32) (l4 : Int32) (l5 : Int32) (w : aW) (I : aI) (J : aJ) : Option aR :=
  gO w 2 l0 (
  cI (Cl K d 71 [.ref l0, .int l5, .int l4] w I J) fun x_4 w_1 I_2 J_3 =>
  gO w_1 2 l0 (
  cV (Cl K d 68 [.ref l0, .int x_4, .int l2] w_1 I_2 J_3) fun w_5 I_6 J_7 =>
  gO w_5 2 l0 (
  gV w_5 l0 1 fun q_8 =>
  gO w_5 1 q_8 (
  cI (Cl K d 52 [.ref q_8, .int l5, .int 3] w_5 I_6 J_7) fun x_12 w_9 I_10 J_11 =>
  gO w_9 2 l0 (
  cV (Cl K d 58 [.ref l0, .int 4, .int l5, .int l4, .int x_12] w_9 I_10 J_11) fun w_13 I_14 J_15 =>
  some (none, w_13, I_14, J_15))))))
theorem ok_69_147 {K : Nat → Value} {k d : Nat} {l0 : Nat} {l1 : Int32} {l2 : Int32} {l3 : Int32} {l4 : Int32} {l5 : Int32} {w : aW} {I : aI} {J : aJ} {R : aR} (h : f_69_147 K k d l0 l1 l2 l3 l4 l5 w I J = some R) : Go K (d + 1) 69 147 [some (.ref l0), some (.int l1), some (.int l2), some (.int l3), some (.int l4), some (.int l5)] [] w I J R := by
  unfold f_69_147 at h
  refine gs_0 (pc' := 148) (L' := [some (.ref l0), some (.int l1), some (.int l2), some (.int l3), some (.int l4), some (.int l5)]) (st' := [.ref l0]) cd_69_147 rfl rfl ?_
  refine gs_0 (pc' := 149) (L' := [some (.ref l0), some (.int l1), some (.int l2), some (.int l3), some (.int l4), some (.int l5)]) (st' := [.ref l0, .ref l0]) cd_69_148 rfl rfl ?_
  refine gs_0 (pc' := 151) (L' := [some (.ref l0), some (.int l1), some (.int l2), some (.int l3), some (.int l4), some (.int l5)]) (st' := [.int l5, .ref l0, .ref l0]) cd_69_149 rfl rfl ?_
  refine gs_0 (pc' := 153) (L' := [some (.ref l0), some (.int l1), some (.int l2), some (.int l3), some (.int l4), some (.int l5)]) (st' := [.int l4, .int l5, .ref l0, .ref l0]) cd_69_151 rfl rfl ?_
  obtain ⟨ht, h⟩ := gO_s h
  obtain ⟨x_4, w_1, I_2, J_3, hcl, h⟩ := cI_s h
  refine gs_call (as := [.ref l0, .int l5, .int l4]) (rest := [.ref l0]) cd_69_153 rfl (by decide) rfl (sm_rv_ok (by decide) ht) (Nat.le_of_ble_eq_true rfl) (Nat.le_of_ble_eq_true rfl) rfl hcl ?_
  refine gs_0 (pc' := 157) (L' := [some (.ref l0), some (.int l1), some (.int l2), some (.int l3), some (.int l4), some (.int l5)]) (st' := [.int l2, .int x_4, .ref l0]) cd_69_156 rfl rfl ?_
  obtain ⟨ht, h⟩ := gO_s h
  obtain ⟨w_5, I_6, J_7, hcl, h⟩ := cV_s h
  refine gs_call (as := [.ref l0, .int x_4, .int l2]) (rest := []) cd_69_157 rfl (by decide) rfl (sm_rv_ok (by decide) ht) (Nat.le_of_ble_eq_true rfl) (Nat.le_of_ble_eq_true rfl) rfl hcl ?_
  refine gs_0 (pc' := 161) (L' := [some (.ref l0), some (.int l1), some (.int l2), some (.int l3), some (.int l4), some (.int l5)]) (st' := [.ref l0]) cd_69_160 rfl rfl ?_
  refine gs_0 (pc' := 162) (L' := [some (.ref l0), some (.int l1), some (.int l2), some (.int l3), some (.int l4), some (.int l5)]) (st' := [.int 4, .ref l0]) cd_69_161 rfl rfl ?_
  refine gs_0 (pc' := 164) (L' := [some (.ref l0), some (.int l1), some (.int l2), some (.int l3), some (.int l4), some (.int l5)]) (st' := [.int l5, .int 4, .ref l0]) cd_69_162 rfl rfl ?_
  refine gs_0 (pc' := 166) (L' := [some (.ref l0), some (.int l1), some (.int l2), some (.int l3), some (.int l4), some (.int l5)]) (st' := [.int l4, .int l5, .int 4, .ref l0]) cd_69_164 rfl rfl ?_
  refine gs_0 (pc' := 167) (L' := [some (.ref l0), some (.int l1), some (.int l2), some (.int l3), some (.int l4), some (.int l5)]) (st' := [.ref l0, .int l4, .int l5, .int 4, .ref l0]) cd_69_166 rfl rfl ?_
  obtain ⟨ht, h⟩ := gO_s h
  obtain ⟨q_8, hv, h⟩ := gV_s h
  refine gs_gfR cd_69_167 (by decide) ht hv ?_
  refine gs_0 (pc' := 172) (L' := [some (.ref l0), some (.int l1), some (.int l2), some (.int l3), some (.int l4), some (.int l5)]) (st' := [.int l5, .ref q_8, .int l4, .int l5, .int 4, .ref l0]) cd_69_170 rfl rfl ?_
  refine gs_0 (pc' := 173) (L' := [some (.ref l0), some (.int l1), some (.int l2), some (.int l3), some (.int l4), some (.int l5)]) (st' := [.int 3, .int l5, .ref q_8, .int l4, .int l5, .int 4, .ref l0]) cd_69_172 rfl rfl ?_
  obtain ⟨ht, h⟩ := gO_s h
  obtain ⟨x_12, w_9, I_10, J_11, hcl, h⟩ := cI_s h
  refine gs_call (as := [.ref q_8, .int l5, .int 3]) (rest := [.int l4, .int l5, .int 4, .ref l0]) cd_69_173 rfl (by decide) rfl (sm_rv_ok (by decide) ht) (Nat.le_of_ble_eq_true rfl) (Nat.le_of_ble_eq_true rfl) rfl hcl ?_
  obtain ⟨ht, h⟩ := gO_s h
  obtain ⟨w_13, I_14, J_15, hcl, h⟩ := cV_s h
  refine gs_call (as := [.ref l0, .int 4, .int l5, .int l4, .int x_12]) (rest := []) cd_69_176 rfl (by decide) rfl (sm_rv_ok (by decide) ht) (Nat.le_of_ble_eq_true rfl) (Nat.le_of_ble_eq_true rfl) rfl hcl ?_
  cases h
  exact gsr cd_69_179 rfl rfl
noncomputable def f_69_142 (K : Nat → Value) (k d : Nat) (l0 : Nat) (l1 : Int32) (l2 : Int32) (l3 : Int32) (l4 : Int32) (l5 : Int32) (w : aW) (I : aI) (J : aJ) : Option aR :=
  gO w 2 l0 (
  cV (Cl K d 48 [.ref l0, .int l2] w I J) fun w_1 I_2 J_3 =>
  f_69_147 K k d l0 l1 l2 l3 l4 l5 w_1 I_2 J_3)
theorem ok_69_142 {K : Nat → Value} {k d : Nat} {l0 : Nat} {l1 : Int32} {l2 : Int32} {l3 : Int32} {l4 : Int32} {l5 : Int32} {w : aW} {I : aI} {J : aJ} {R : aR} (h : f_69_142 K k d l0 l1 l2 l3 l4 l5 w I J = some R) : Go K (d + 1) 69 142 [some (.ref l0), some (.int l1), some (.int l2), some (.int l3), some (.int l4), some (.int l5)] [] w I J R := by
  unfold f_69_142 at h
  refine gs_0 (pc' := 143) (L' := [some (.ref l0), some (.int l1), some (.int l2), some (.int l3), some (.int l4), some (.int l5)]) (st' := [.ref l0]) cd_69_142 rfl rfl ?_
  refine gs_0 (pc' := 144) (L' := [some (.ref l0), some (.int l1), some (.int l2), some (.int l3), some (.int l4), some (.int l5)]) (st' := [.int l2, .ref l0]) cd_69_143 rfl rfl ?_
  obtain ⟨ht, h⟩ := gO_s h
  obtain ⟨w_1, I_2, J_3, hcl, h⟩ := cV_s h
  refine gs_call (as := [.ref l0, .int l2]) (rest := []) cd_69_144 rfl (by decide) rfl (sm_rv_ok (by decide) ht) (Nat.le_of_ble_eq_true rfl) (Nat.le_of_ble_eq_true rfl) rfl hcl ?_
  exact ok_69_147 h
noncomputable def f_69_106 (K : Nat → Value) (k d : Nat) (l0 : Nat) (l1 : Int32) (l2 : Int32) (l3 : Int32) (l4 : Int32) (w : aW) (I : aI) (J : aJ) : Option aR :=
  gO w 2 l0 (
  gV w l0 0 fun q_1 =>
  gO w 4 q_1 (
  cV (Cl K d 41 [.ref q_1, .int 41] w I J) fun w_2 I_3 J_4 =>
  gO w_2 2 l0 (
  cI (Cl K d 47 [.ref l0, .int l3] w_2 I_3 J_4) fun x_8 w_5 I_6 J_7 =>
  if x_8 < 0 then
    f_69_142 K k d l0 l1 l2 l3 l4 x_8 w_5 I_6 J_7
  else
    gO w_5 2 l0 (
    gV w_5 l0 1 fun q_9 =>
    gO w_5 1 q_9 (
    cI (Cl K d 52 [.ref q_9, .int x_8, .int 1] w_5 I_6 J_7) fun x_13 w_10 I_11 J_12 =>
    if l4 = x_13 then
      f_69_147 K k d l0 l1 l2 l3 l4 x_8 w_10 I_11 J_12
    else
      f_69_142 K k d l0 l1 l2 l3 l4 x_8 w_10 I_11 J_12)))))
theorem ok_69_106 {K : Nat → Value} {k d : Nat} {l0 : Nat} {l1 : Int32} {l2 : Int32} {l3 : Int32} {l4 : Int32} {w : aW} {I : aI} {J : aJ} {R : aR} (h : f_69_106 K k d l0 l1 l2 l3 l4 w I J = some R) : Go K (d + 1) 69 106 [some (.ref l0), some (.int l1), some (.int l2), some (.int l3), some (.int l4), none] [] w I J R := by
  unfold f_69_106 at h
  refine gs_0 (pc' := 107) (L' := [some (.ref l0), some (.int l1), some (.int l2), some (.int l3), some (.int l4), none]) (st' := [.ref l0]) cd_69_106 rfl rfl ?_
  obtain ⟨ht, h⟩ := gO_s h
  obtain ⟨q_1, hv, h⟩ := gV_s h
  refine gs_gfR cd_69_107 (by decide) ht hv ?_
  refine gs_0 (pc' := 112) (L' := [some (.ref l0), some (.int l1), some (.int l2), some (.int l3), some (.int l4), none]) (st' := [.int 41, .ref q_1]) cd_69_110 rfl rfl ?_
  obtain ⟨ht, h⟩ := gO_s h
  obtain ⟨w_2, I_3, J_4, hcl, h⟩ := cV_s h
  refine gs_call (as := [.ref q_1, .int 41]) (rest := []) cd_69_112 rfl (by decide) rfl (sm_rv_ok (by decide) ht) (Nat.le_of_ble_eq_true rfl) (Nat.le_of_ble_eq_true rfl) rfl hcl ?_
  refine gs_0 (pc' := 116) (L' := [some (.ref l0), some (.int l1), some (.int l2), some (.int l3), some (.int l4), none]) (st' := [.ref l0]) cd_69_115 rfl rfl ?_
  refine gs_0 (pc' := 117) (L' := [some (.ref l0), some (.int l1), some (.int l2), some (.int l3), some (.int l4), none]) (st' := [.int l3, .ref l0]) cd_69_116 rfl rfl ?_
  obtain ⟨ht, h⟩ := gO_s h
  obtain ⟨x_8, w_5, I_6, J_7, hcl, h⟩ := cI_s h
  refine gs_call (as := [.ref l0, .int l3]) (rest := []) cd_69_117 rfl (by decide) rfl (sm_rv_ok (by decide) ht) (Nat.le_of_ble_eq_true rfl) (Nat.le_of_ble_eq_true rfl) rfl hcl ?_
  refine gs_0 (pc' := 122) (L' := [some (.ref l0), some (.int l1), some (.int l2), some (.int l3), some (.int l4), some (.int x_8)]) (st' := []) cd_69_120 rfl rfl ?_
  refine gs_0 (pc' := 124) (L' := [some (.ref l0), some (.int l1), some (.int l2), some (.int l3), some (.int l4), some (.int x_8)]) (st' := [.int x_8]) cd_69_122 rfl rfl ?_
  refine gs_0 (pc' := if x_8 < 0 then 142 else 127) (L' := [some (.ref l0), some (.int l1), some (.int l2), some (.int l3), some (.int l4), some (.int x_8)]) (st' := []) cd_69_124 rfl rfl ?_
  refine go_ite (fun hc => ?_) (fun hc => ?_)
  · rw [if_pos hc] at h
    exact ok_69_142 h
  · rw [if_neg hc] at h
    refine gs_0 (pc' := 129) (L' := [some (.ref l0), some (.int l1), some (.int l2), some (.int l3), some (.int l4), some (.int x_8)]) (st' := [.int l4]) cd_69_127 rfl rfl ?_
    refine gs_0 (pc' := 130) (L' := [some (.ref l0), some (.int l1), some (.int l2), some (.int l3), some (.int l4), some (.int x_8)]) (st' := [.ref l0, .int l4]) cd_69_129 rfl rfl ?_
    obtain ⟨ht, h⟩ := gO_s h
    obtain ⟨q_9, hv, h⟩ := gV_s h
    refine gs_gfR cd_69_130 (by decide) ht hv ?_
    refine gs_0 (pc' := 135) (L' := [some (.ref l0), some (.int l1), some (.int l2), some (.int l3), some (.int l4), some (.int x_8)]) (st' := [.int x_8, .ref q_9, .int l4]) cd_69_133 rfl rfl ?_
    refine gs_0 (pc' := 136) (L' := [some (.ref l0), some (.int l1), some (.int l2), some (.int l3), some (.int l4), some (.int x_8)]) (st' := [.int 1, .int x_8, .ref q_9, .int l4]) cd_69_135 rfl rfl ?_
    obtain ⟨ht, h⟩ := gO_s h
    obtain ⟨x_13, w_10, I_11, J_12, hcl, h⟩ := cI_s h
    refine gs_call (as := [.ref q_9, .int x_8, .int 1]) (rest := [.int l4]) cd_69_136 rfl (by decide) rfl (sm_rv_ok (by decide) ht) (Nat.le_of_ble_eq_true rfl) (Nat.le_of_ble_eq_true rfl) rfl hcl ?_
    refine gs_0 (pc' := if l4 = x_13 then 147 else 142) (L' := [some (.ref l0), some (.int l1), some (.int l2), some (.int l3), some (.int l4), some (.int x_8)]) (st' := []) cd_69_139 rfl rfl ?_
    refine go_ite (fun hc => ?_) (fun hc => ?_)
    · rw [if_pos hc] at h
      exact ok_69_147 h
    · rw [if_neg hc] at h
      exact ok_69_142 h
noncomputable def f_69_77 (K : Nat → Value) (k : Nat) (d : Nat) : Nat → Int32 → Int32 → Int32 → Int32 → aW → aI → aJ → Option aR :=
  match k with
  | 0 => fun _ _ _ _ _ _ _ _ => none
  | k + 1 => fun l0 l1 l2 l3 l4 w I J =>
  lt_ (f_69_77 K k d) fun r77 =>
  if 240 ≤ l4 then
    f_69_106 K k d l0 l1 l2 l3 l4 w I J
  else
    gO w 2 l0 (
    cI (Cl K d 49 [.ref l0, .int l4] w I J) fun x_4 w_1 I_2 J_3 =>
    if x_4 = 0 then
      f_69_106 K k d l0 l1 l2 l3 l4 w_1 I_2 J_3
    else
      gO w_1 2 l0 (
      cV (Cl K d 63 [.ref l0, .int 0, .int l1] w_1 I_2 J_3) fun w_5 I_6 J_7 =>
      lt_ (l4 + 1) fun x_8 =>
      r77 l0 l1 l2 l3 x_8 w_5 I_6 J_7))
theorem ok_69_77 {K : Nat → Value} {d : Nat} : ∀ {k : Nat} {l0 : Nat} {l1 : Int32} {l2 : Int32} {l3 : Int32} {l4 : Int32} {w : aW} {I : aI} {J : aJ} {R : aR}, f_69_77 K k d l0 l1 l2 l3 l4 w I J = some R → Go K (d + 1) 69 77 [some (.ref l0), some (.int l1), some (.int l2), some (.int l3), some (.int l4), none] [] w I J R := by
  intro k
  induction k with
  | zero => intro l0 l1 l2 l3 l4 w I J R h; cases h
  | succ k ih =>
    intro l0 l1 l2 l3 l4 w I J R h
    have hr77 : ∀ (l0 : Nat) (l1 : Int32) (l2 : Int32) (l3 : Int32) (l4 : Int32) (w : aW) (I : aI) (J : aJ) (R : aR), f_69_77 K k d l0 l1 l2 l3 l4 w I J = some R → Go K (d + 1) 69 77 [some (.ref l0), some (.int l1), some (.int l2), some (.int l3), some (.int l4), none] [] w I J R := fun l0 l1 l2 l3 l4 w I J R h => ih h
    rw [f_69_77] at h
    obtain ⟨r77, hx, h⟩ := lt_s_ h
    rw [hx] at hr77
    clear hx ih
    refine gs_0 (pc' := 79) (L' := [some (.ref l0), some (.int l1), some (.int l2), some (.int l3), some (.int l4), none]) (st' := [.int l4]) cd_69_77 rfl rfl ?_
    refine gs_0 (pc' := 82) (L' := [some (.ref l0), some (.int l1), some (.int l2), some (.int l3), some (.int l4), none]) (st' := [.int 240, .int l4]) cd_69_79 rfl rfl ?_
    refine gs_0 (pc' := if 240 ≤ l4 then 106 else 85) (L' := [some (.ref l0), some (.int l1), some (.int l2), some (.int l3), some (.int l4), none]) (st' := []) cd_69_82 rfl rfl ?_
    refine go_ite (fun hc => ?_) (fun hc => ?_)
    · rw [if_pos hc] at h
      exact ok_69_106 h
    · rw [if_neg hc] at h
      refine gs_0 (pc' := 86) (L' := [some (.ref l0), some (.int l1), some (.int l2), some (.int l3), some (.int l4), none]) (st' := [.ref l0]) cd_69_85 rfl rfl ?_
      refine gs_0 (pc' := 88) (L' := [some (.ref l0), some (.int l1), some (.int l2), some (.int l3), some (.int l4), none]) (st' := [.int l4, .ref l0]) cd_69_86 rfl rfl ?_
      obtain ⟨ht, h⟩ := gO_s h
      obtain ⟨x_4, w_1, I_2, J_3, hcl, h⟩ := cI_s h
      refine gs_call (as := [.ref l0, .int l4]) (rest := []) cd_69_88 rfl (by decide) rfl (sm_rv_ok (by decide) ht) (Nat.le_of_ble_eq_true rfl) (Nat.le_of_ble_eq_true rfl) rfl hcl ?_
      refine gs_0 (pc' := if x_4 = 0 then 106 else 94) (L' := [some (.ref l0), some (.int l1), some (.int l2), some (.int l3), some (.int l4), none]) (st' := []) cd_69_91 rfl rfl ?_
      refine go_ite (fun hc => ?_) (fun hc => ?_)
      · rw [if_pos hc] at h
        exact ok_69_106 h
      · rw [if_neg hc] at h
        refine gs_0 (pc' := 95) (L' := [some (.ref l0), some (.int l1), some (.int l2), some (.int l3), some (.int l4), none]) (st' := [.ref l0]) cd_69_94 rfl rfl ?_
        refine gs_0 (pc' := 96) (L' := [some (.ref l0), some (.int l1), some (.int l2), some (.int l3), some (.int l4), none]) (st' := [.int 0, .ref l0]) cd_69_95 rfl rfl ?_
        refine gs_0 (pc' := 97) (L' := [some (.ref l0), some (.int l1), some (.int l2), some (.int l3), some (.int l4), none]) (st' := [.int l1, .int 0, .ref l0]) cd_69_96 rfl rfl ?_
        obtain ⟨ht, h⟩ := gO_s h
        obtain ⟨w_5, I_6, J_7, hcl, h⟩ := cV_s h
        refine gs_call (as := [.ref l0, .int 0, .int l1]) (rest := []) cd_69_97 rfl (by decide) rfl (sm_rv_ok (by decide) ht) (Nat.le_of_ble_eq_true rfl) (Nat.le_of_ble_eq_true rfl) rfl hcl ?_
        refine gs_0 (pc' := 103) (L' := [some (.ref l0), some (.int l1), some (.int l2), some (.int l3), some (.int (l4 + 1)), none]) (st' := []) cd_69_100 rfl rfl ?_
        obtain ⟨x_8, hx, h⟩ := lt_s_ h
        rw [hx]
        clear hx
        refine gs_0 (pc' := 77) (L' := [some (.ref l0), some (.int l1), some (.int l2), some (.int l3), some (.int x_8), none]) (st' := []) cd_69_103 rfl rfl ?_
        exact hr77 l0 l1 l2 l3 x_8 _ _ _ _ h
noncomputable def f_69_45 (K : Nat → Value) (k d : Nat) (l0 : Nat) (l1 : Int32) (l2 : Int32) (l3 : Int32) (l4 : Int32) (w : aW) (I : aI) (J : aJ) : Option aR :=
  gO w 2 l0 (
  gV w l0 1 fun q_1 =>
  gO w 2 l0 (
  gO w 1 q_1 (
  cI (Cl K d 70 [.ref q_1, .int (I l0 2), .int l4] w I J) fun x_5 w_2 I_3 J_4 =>
  gO w_2 2 l0 (
  cV (Cl K d 58 [.ref l0, .int 3, .int l4, .int 0, .int x_5] w_2 I_3 J_4) fun w_6 I_7 J_8 =>
  some (none, w_6, I_7, J_8)))))
theorem ok_69_45 {K : Nat → Value} {k d : Nat} {l0 : Nat} {l1 : Int32} {l2 : Int32} {l3 : Int32} {l4 : Int32} {w : aW} {I : aI} {J : aJ} {R : aR} (h : f_69_45 K k d l0 l1 l2 l3 l4 w I J = some R) : Go K (d + 1) 69 45 [some (.ref l0), some (.int l1), some (.int l2), some (.int l3), some (.int l4), none] [] w I J R := by
  unfold f_69_45 at h
  refine gs_0 (pc' := 46) (L' := [some (.ref l0), some (.int l1), some (.int l2), some (.int l3), some (.int l4), none]) (st' := [.ref l0]) cd_69_45 rfl rfl ?_
  refine gs_0 (pc' := 47) (L' := [some (.ref l0), some (.int l1), some (.int l2), some (.int l3), some (.int l4), none]) (st' := [.int 3, .ref l0]) cd_69_46 rfl rfl ?_
  refine gs_0 (pc' := 49) (L' := [some (.ref l0), some (.int l1), some (.int l2), some (.int l3), some (.int l4), none]) (st' := [.int l4, .int 3, .ref l0]) cd_69_47 rfl rfl ?_
  refine gs_0 (pc' := 50) (L' := [some (.ref l0), some (.int l1), some (.int l2), some (.int l3), some (.int l4), none]) (st' := [.int 0, .int l4, .int 3, .ref l0]) cd_69_49 rfl rfl ?_
  refine gs_0 (pc' := 51) (L' := [some (.ref l0), some (.int l1), some (.int l2), some (.int l3), some (.int l4), none]) (st' := [.ref l0, .int 0, .int l4, .int 3, .ref l0]) cd_69_50 rfl rfl ?_
  obtain ⟨ht, h⟩ := gO_s h
  obtain ⟨q_1, hv, h⟩ := gV_s h
  refine gs_gfR cd_69_51 (by decide) ht hv ?_
  refine gs_0 (pc' := 55) (L' := [some (.ref l0), some (.int l1), some (.int l2), some (.int l3), some (.int l4), none]) (st' := [.ref l0, .ref q_1, .int 0, .int l4, .int 3, .ref l0]) cd_69_54 rfl rfl ?_
  obtain ⟨ht, h⟩ := gO_s h
  refine gs_gfI cd_69_55 (by decide) (by decide) ht ?_
  refine gs_0 (pc' := 60) (L' := [some (.ref l0), some (.int l1), some (.int l2), some (.int l3), some (.int l4), none]) (st' := [.int l4, .int (I l0 2), .ref q_1, .int 0, .int l4, .int 3, .ref l0]) cd_69_58 rfl rfl ?_
  obtain ⟨ht, h⟩ := gO_s h
  obtain ⟨x_5, w_2, I_3, J_4, hcl, h⟩ := cI_s h
  refine gs_call (as := [.ref q_1, .int (I l0 2), .int l4]) (rest := [.int 0, .int l4, .int 3, .ref l0]) cd_69_60 rfl (by decide) rfl (sm_rv_ok (by decide) ht) (Nat.le_of_ble_eq_true rfl) (Nat.le_of_ble_eq_true rfl) rfl hcl ?_
  obtain ⟨ht, h⟩ := gO_s h
  obtain ⟨w_6, I_7, J_8, hcl, h⟩ := cV_s h
  refine gs_call (as := [.ref l0, .int 3, .int l4, .int 0, .int x_5]) (rest := []) cd_69_63 rfl (by decide) rfl (sm_rv_ok (by decide) ht) (Nat.le_of_ble_eq_true rfl) (Nat.le_of_ble_eq_true rfl) rfl hcl ?_
  cases h
  exact gsr cd_69_66 rfl rfl
noncomputable def f_69 (K : Nat → Value) (k d : Nat) (l0 : Nat) (l1 : Int32) (w : aW) (I : aI) (J : aJ) : Option aR :=
  gO w 2 l0 (
  gV w l0 0 fun q_1 =>
  gO w 4 q_1 (
  cI (Cl K d 44 [.ref q_1] w I J) fun x_5 w_2 I_3 J_4 =>
  gO w_2 2 l0 (
  gV w_2 l0 0 fun q_6 =>
  gO w_2 4 q_6 (
  cI (Cl K d 45 [.ref q_6] w_2 I_3 J_4) fun x_10 w_7 I_8 J_9 =>
  gO w_7 2 l0 (
  gV w_7 l0 0 fun q_11 =>
  gO w_7 4 q_11 (
  cI (Cl K d 37 [.ref q_11] w_7 I_8 J_9) fun x_15 w_12 I_13 J_14 =>
  if x_15 = 40 then
    gO w_12 2 l0 (
    gV w_12 l0 0 fun q_16 =>
    gO w_12 4 q_16 (
    cV (Cl K d 42 [.ref q_16] w_12 I_13 J_14) fun w_17 I_18 J_19 =>
    f_69_77 K k d l0 l1 x_5 x_10 0 w_17 I_18 J_19))
  else
    gO w_12 2 l0 (
    cI (Cl K d 53 [.ref l0, .int x_10] w_12 I_13 J_14) fun x_23 w_20 I_21 J_22 =>
    if 0 ≤ x_23 then
      f_69_45 K k d l0 l1 x_5 x_10 x_23 w_20 I_21 J_22
    else
      gO w_20 2 l0 (
      cV (Cl K d 48 [.ref l0, .int x_5] w_20 I_21 J_22) fun w_24 I_25 J_26 =>
      f_69_45 K k d l0 l1 x_5 x_10 x_23 w_24 I_25 J_26))))))))
theorem ok_69 {K : Nat → Value} {k d : Nat} {l0 : Nat} {l1 : Int32} {w : aW} {I : aI} {J : aJ} {R : aR} (h : f_69 K k d l0 l1 w I J = some R) : Go K (d + 1) 69 0 [some (.ref l0), some (.int l1), none, none, none, none] [] w I J R := by
  unfold f_69 at h
  refine gs_0 (pc' := 1) (L' := [some (.ref l0), some (.int l1), none, none, none, none]) (st' := [.ref l0]) cd_69_0 rfl rfl ?_
  obtain ⟨ht, h⟩ := gO_s h
  obtain ⟨q_1, hv, h⟩ := gV_s h
  refine gs_gfR cd_69_1 (by decide) ht hv ?_
  obtain ⟨ht, h⟩ := gO_s h
  obtain ⟨x_5, w_2, I_3, J_4, hcl, h⟩ := cI_s h
  refine gs_call (as := [.ref q_1]) (rest := []) cd_69_4 rfl (by decide) rfl (sm_rv_ok (by decide) ht) (Nat.le_of_ble_eq_true rfl) (Nat.le_of_ble_eq_true rfl) rfl hcl ?_
  refine gs_0 (pc' := 8) (L' := [some (.ref l0), some (.int l1), some (.int x_5), none, none, none]) (st' := []) cd_69_7 rfl rfl ?_
  refine gs_0 (pc' := 9) (L' := [some (.ref l0), some (.int l1), some (.int x_5), none, none, none]) (st' := [.ref l0]) cd_69_8 rfl rfl ?_
  obtain ⟨ht, h⟩ := gO_s h
  obtain ⟨q_6, hv, h⟩ := gV_s h
  refine gs_gfR cd_69_9 (by decide) ht hv ?_
  obtain ⟨ht, h⟩ := gO_s h
  obtain ⟨x_10, w_7, I_8, J_9, hcl, h⟩ := cI_s h
  refine gs_call (as := [.ref q_6]) (rest := []) cd_69_12 rfl (by decide) rfl (sm_rv_ok (by decide) ht) (Nat.le_of_ble_eq_true rfl) (Nat.le_of_ble_eq_true rfl) rfl hcl ?_
  refine gs_0 (pc' := 16) (L' := [some (.ref l0), some (.int l1), some (.int x_5), some (.int x_10), none, none]) (st' := []) cd_69_15 rfl rfl ?_
  refine gs_0 (pc' := 17) (L' := [some (.ref l0), some (.int l1), some (.int x_5), some (.int x_10), none, none]) (st' := [.ref l0]) cd_69_16 rfl rfl ?_
  obtain ⟨ht, h⟩ := gO_s h
  obtain ⟨q_11, hv, h⟩ := gV_s h
  refine gs_gfR cd_69_17 (by decide) ht hv ?_
  obtain ⟨ht, h⟩ := gO_s h
  obtain ⟨x_15, w_12, I_13, J_14, hcl, h⟩ := cI_s h
  refine gs_call (as := [.ref q_11]) (rest := []) cd_69_20 rfl (by decide) rfl (sm_rv_ok (by decide) ht) (Nat.le_of_ble_eq_true rfl) (Nat.le_of_ble_eq_true rfl) rfl hcl ?_
  refine gs_0 (pc' := 25) (L' := [some (.ref l0), some (.int l1), some (.int x_5), some (.int x_10), none, none]) (st' := [.int 40, .int x_15]) cd_69_23 rfl rfl ?_
  refine gs_0 (pc' := if x_15 = 40 then 67 else 28) (L' := [some (.ref l0), some (.int l1), some (.int x_5), some (.int x_10), none, none]) (st' := []) cd_69_25 rfl rfl ?_
  refine go_ite (fun hc => ?_) (fun hc => ?_)
  · rw [if_pos hc] at h
    refine gs_0 (pc' := 68) (L' := [some (.ref l0), some (.int l1), some (.int x_5), some (.int x_10), none, none]) (st' := [.ref l0]) cd_69_67 rfl rfl ?_
    obtain ⟨ht, h⟩ := gO_s h
    obtain ⟨q_16, hv, h⟩ := gV_s h
    refine gs_gfR cd_69_68 (by decide) ht hv ?_
    obtain ⟨ht, h⟩ := gO_s h
    obtain ⟨w_17, I_18, J_19, hcl, h⟩ := cV_s h
    refine gs_call (as := [.ref q_16]) (rest := []) cd_69_71 rfl (by decide) rfl (sm_rv_ok (by decide) ht) (Nat.le_of_ble_eq_true rfl) (Nat.le_of_ble_eq_true rfl) rfl hcl ?_
    refine gs_0 (pc' := 75) (L' := [some (.ref l0), some (.int l1), some (.int x_5), some (.int x_10), none, none]) (st' := [.int 0]) cd_69_74 rfl rfl ?_
    refine gs_0 (pc' := 77) (L' := [some (.ref l0), some (.int l1), some (.int x_5), some (.int x_10), some (.int 0), none]) (st' := []) cd_69_75 rfl rfl ?_
    exact ok_69_77 h
  · rw [if_neg hc] at h
    refine gs_0 (pc' := 29) (L' := [some (.ref l0), some (.int l1), some (.int x_5), some (.int x_10), none, none]) (st' := [.ref l0]) cd_69_28 rfl rfl ?_
    refine gs_0 (pc' := 30) (L' := [some (.ref l0), some (.int l1), some (.int x_5), some (.int x_10), none, none]) (st' := [.int x_10, .ref l0]) cd_69_29 rfl rfl ?_
    obtain ⟨ht, h⟩ := gO_s h
    obtain ⟨x_23, w_20, I_21, J_22, hcl, h⟩ := cI_s h
    refine gs_call (as := [.ref l0, .int x_10]) (rest := []) cd_69_30 rfl (by decide) rfl (sm_rv_ok (by decide) ht) (Nat.le_of_ble_eq_true rfl) (Nat.le_of_ble_eq_true rfl) rfl hcl ?_
    refine gs_0 (pc' := 35) (L' := [some (.ref l0), some (.int l1), some (.int x_5), some (.int x_10), some (.int x_23), none]) (st' := []) cd_69_33 rfl rfl ?_
    refine gs_0 (pc' := 37) (L' := [some (.ref l0), some (.int l1), some (.int x_5), some (.int x_10), some (.int x_23), none]) (st' := [.int x_23]) cd_69_35 rfl rfl ?_
    refine gs_0 (pc' := if 0 ≤ x_23 then 45 else 40) (L' := [some (.ref l0), some (.int l1), some (.int x_5), some (.int x_10), some (.int x_23), none]) (st' := []) cd_69_37 rfl rfl ?_
    refine go_ite (fun hc => ?_) (fun hc => ?_)
    · rw [if_pos hc] at h
      exact ok_69_45 h
    · rw [if_neg hc] at h
      refine gs_0 (pc' := 41) (L' := [some (.ref l0), some (.int l1), some (.int x_5), some (.int x_10), some (.int x_23), none]) (st' := [.ref l0]) cd_69_40 rfl rfl ?_
      refine gs_0 (pc' := 42) (L' := [some (.ref l0), some (.int l1), some (.int x_5), some (.int x_10), some (.int x_23), none]) (st' := [.int x_5, .ref l0]) cd_69_41 rfl rfl ?_
      obtain ⟨ht, h⟩ := gO_s h
      obtain ⟨w_24, I_25, J_26, hcl, h⟩ := cV_s h
      refine gs_call (as := [.ref l0, .int x_5]) (rest := []) cd_69_42 rfl (by decide) rfl (sm_rv_ok (by decide) ht) (Nat.le_of_ble_eq_true rfl) (Nat.le_of_ble_eq_true rfl) rfl hcl ?_
      exact ok_69_45 h
theorem cl_69 {K : Nat → Value} {k d : Nat} {l0 : Nat} {l1 : Int32} {w : aW} {I : aI} {J : aJ} {R : aR} (h : f_69 K k d l0 l1 w I J = some R) : Cl K (d + 1) 69 [.ref l0, .int l1] w I J = some R := Cl_of (ok_69 h)
/-! ProvedMachine$Program.variableType(II)I -/
theorem gl_70 : gcd.lookup 70 = some gw_70 := rfl
theorem cd_70_0 : sm_cd 70 0 = some (.iload_n 1, 1, 1, 0, 0, 0, 0, 0, 0) := cd_of gl_70 rfl
theorem cd_70_1 : sm_cd 70 1 = some (.bipush 6, 2, 0, 0, 0, 0, 0, 6, 0) := cd_of gl_70 rfl
theorem cd_70_3 : sm_cd 70 3 = some (.imul, 1, 0, 0, 0, 0, 0, 0, 0) := cd_of gl_70 rfl
theorem cd_70_4 : sm_cd 70 4 = some (.iload_n 2, 1, 2, 0, 0, 0, 0, 0, 0) := cd_of gl_70 rfl
theorem cd_70_5 : sm_cd 70 5 = some (.iadd, 1, 0, 0, 0, 0, 0, 0, 0) := cd_of gl_70 rfl
theorem cd_70_6 : sm_cd 70 6 = some (.istore_n 3, 1, 3, 0, 0, 0, 0, 0, 0) := cd_of gl_70 rfl
theorem cd_70_7 : sm_cd 70 7 = some (.iload_n 3, 1, 3, 0, 0, 0, 0, 0, 0) := cd_of gl_70 rfl
theorem cd_70_8 : sm_cd 70 8 = some (.ifCond .lt 21, 3, 29, 0, 0, 0, 0, 0, 0) := cd_of gl_70 rfl
theorem cd_70_11 : sm_cd 70 11 = some (.iload_n 3, 1, 3, 0, 0, 0, 0, 0, 0) := cd_of gl_70 rfl
theorem cd_70_12 : sm_cd 70 12 = some (.aload_n 0, 1, 0, 0, 0, 0, 0, 0, 0) := cd_of gl_70 rfl
theorem cd_70_13 : sm_cd 70 13 = some (.getfield 29, 3, 1, 5, 2, 0, 0, 0, 0) := cd_of gl_70 rfl
theorem cd_70_16 : sm_cd 70 16 = some (.arraylength, 1, 0, 0, 0, 0, 0, 0, 0) := cd_of gl_70 rfl
theorem cd_70_17 : sm_cd 70 17 = some (.if_icmp .ge 12, 3, 29, 0, 0, 0, 0, 0, 0) := cd_of gl_70 rfl
theorem cd_70_20 : sm_cd 70 20 = some (.aload_n 0, 1, 0, 0, 0, 0, 0, 0, 0) := cd_of gl_70 rfl
theorem cd_70_21 : sm_cd 70 21 = some (.getfield 29, 3, 1, 5, 2, 0, 0, 0, 0) := cd_of gl_70 rfl
theorem cd_70_24 : sm_cd 70 24 = some (.iload_n 3, 1, 3, 0, 0, 0, 0, 0, 0) := cd_of gl_70 rfl
theorem cd_70_25 : sm_cd 70 25 = some (.iaload, 1, 0, 0, 0, 0, 0, 0, 0) := cd_of gl_70 rfl
theorem cd_70_26 : sm_cd 70 26 = some (.goto 4, 3, 30, 0, 0, 0, 0, 0, 0) := cd_of gl_70 rfl
theorem cd_70_29 : sm_cd 70 29 = some (.iconst 0, 1, 0, 0, 0, 0, 0, 0, 0) := cd_of gl_70 rfl
theorem cd_70_30 : sm_cd 70 30 = some (.ireturn, 1, 0, 0, 1, 0, 0, 0, 0) := cd_of gl_70 rfl
noncomputable def f_70 (K : Nat → Value) (k d : Nat) (l0 : Nat) (l1 : Int32) (l2 : Int32) (w : aW) (I : aI) (J : aJ) : Option aR :=
  lt_ ((l1 * 6) + l2) fun x_1 =>
  if x_1 < 0 then
    some (some (.int 0), w, I, J)
  else
    gO w 1 l0 (
    gV w l0 5 fun q_2 =>
    gL w q_2 fun n_3 =>
    if n_3 ≤ x_1 then
      some (some (.int 0), w, I, J)
    else
      gO w 1 l0 (
      gV w l0 5 fun q_4 =>
      gA w 10 20 q_4 x_1 (
      some (some (.int (I q_4 (x_1 : Int32).toNatClampNeg)), w, I, J))))
theorem ok_70 {K : Nat → Value} {k d : Nat} {l0 : Nat} {l1 : Int32} {l2 : Int32} {w : aW} {I : aI} {J : aJ} {R : aR} (h : f_70 K k d l0 l1 l2 w I J = some R) : Go K (d + 1) 70 0 [some (.ref l0), some (.int l1), some (.int l2), none] [] w I J R := by
  unfold f_70 at h
  refine gs_0 (pc' := 1) (L' := [some (.ref l0), some (.int l1), some (.int l2), none]) (st' := [.int l1]) cd_70_0 rfl rfl ?_
  refine gs_0 (pc' := 3) (L' := [some (.ref l0), some (.int l1), some (.int l2), none]) (st' := [.int 6, .int l1]) cd_70_1 rfl rfl ?_
  refine gs_0 (pc' := 4) (L' := [some (.ref l0), some (.int l1), some (.int l2), none]) (st' := [.int (l1 * 6)]) cd_70_3 rfl rfl ?_
  refine gs_0 (pc' := 5) (L' := [some (.ref l0), some (.int l1), some (.int l2), none]) (st' := [.int l2, .int (l1 * 6)]) cd_70_4 rfl rfl ?_
  refine gs_0 (pc' := 6) (L' := [some (.ref l0), some (.int l1), some (.int l2), none]) (st' := [.int ((l1 * 6) + l2)]) cd_70_5 rfl rfl ?_
  refine gs_0 (pc' := 7) (L' := [some (.ref l0), some (.int l1), some (.int l2), some (.int ((l1 * 6) + l2))]) (st' := []) cd_70_6 rfl rfl ?_
  obtain ⟨x_1, hx, h⟩ := lt_s_ h
  rw [hx]
  clear hx
  refine gs_0 (pc' := 8) (L' := [some (.ref l0), some (.int l1), some (.int l2), some (.int x_1)]) (st' := [.int x_1]) cd_70_7 rfl rfl ?_
  refine gs_0 (pc' := if x_1 < 0 then 29 else 11) (L' := [some (.ref l0), some (.int l1), some (.int l2), some (.int x_1)]) (st' := []) cd_70_8 rfl rfl ?_
  refine go_ite (fun hc => ?_) (fun hc => ?_)
  · rw [if_pos hc] at h
    refine gs_0 (pc' := 30) (L' := [some (.ref l0), some (.int l1), some (.int l2), some (.int x_1)]) (st' := [.int 0]) cd_70_29 rfl rfl ?_
    cases h
    exact gs_ri cd_70_30 (Or.inl rfl)
  · rw [if_neg hc] at h
    refine gs_0 (pc' := 12) (L' := [some (.ref l0), some (.int l1), some (.int l2), some (.int x_1)]) (st' := [.int x_1]) cd_70_11 rfl rfl ?_
    refine gs_0 (pc' := 13) (L' := [some (.ref l0), some (.int l1), some (.int l2), some (.int x_1)]) (st' := [.ref l0, .int x_1]) cd_70_12 rfl rfl ?_
    obtain ⟨ht, h⟩ := gO_s h
    obtain ⟨q_2, hv, h⟩ := gV_s h
    refine gs_gfR cd_70_13 (by decide) ht hv ?_
    obtain ⟨t0, n0, ht, ht2, h⟩ := gL_s h
    refine gs_alen cd_70_16 ht ht2 ?_
    generalize Int32.ofNat n0 = n_3 at h ⊢
    refine gs_0 (pc' := if n_3 ≤ x_1 then 29 else 20) (L' := [some (.ref l0), some (.int l1), some (.int l2), some (.int x_1)]) (st' := []) cd_70_17 rfl rfl ?_
    refine go_ite (fun hc => ?_) (fun hc => ?_)
    · rw [if_pos hc] at h
      refine gs_0 (pc' := 30) (L' := [some (.ref l0), some (.int l1), some (.int l2), some (.int x_1)]) (st' := [.int 0]) cd_70_29 rfl rfl ?_
      cases h
      exact gs_ri cd_70_30 (Or.inl rfl)
    · rw [if_neg hc] at h
      refine gs_0 (pc' := 21) (L' := [some (.ref l0), some (.int l1), some (.int l2), some (.int x_1)]) (st' := [.ref l0]) cd_70_20 rfl rfl ?_
      obtain ⟨ht, h⟩ := gO_s h
      obtain ⟨q_4, hv, h⟩ := gV_s h
      refine gs_gfR cd_70_21 (by decide) ht hv ?_
      refine gs_0 (pc' := 25) (L' := [some (.ref l0), some (.int l1), some (.int l2), some (.int x_1)]) (st' := [.int x_1, .ref q_4]) cd_70_24 rfl rfl ?_
      obtain ⟨ht, h⟩ := gA_s h
      refine gs_iald cd_70_25 ht ?_
      refine gs_0 (pc' := 30) (L' := [some (.ref l0), some (.int l1), some (.int l2), some (.int x_1)]) (st' := [.int (I q_4 (x_1 : Int32).toNatClampNeg)]) cd_70_26 rfl rfl ?_
      cases h
      exact gs_ri cd_70_30 (Or.inl rfl)
theorem cl_70 {K : Nat → Value} {k d : Nat} {l0 : Nat} {l1 : Int32} {l2 : Int32} {w : aW} {I : aI} {J : aJ} {R : aR} (h : f_70 K k d l0 l1 l2 w I J = some R) : Cl K (d + 1) 70 [.ref l0, .int l1, .int l2] w I J = some R := Cl_of (ok_70 h)
/-! ProvedMachine$Reader.fitsParams(II)Z -/
theorem gl_71 : gcd.lookup 71 = some gw_71 := rfl
theorem cd_71_0 : sm_cd 71 0 = some (.iconst 0, 1, 0, 0, 0, 0, 0, 0, 0) := cd_of gl_71 rfl
theorem cd_71_1 : sm_cd 71 1 = some (.istore_n 3, 1, 3, 0, 0, 0, 0, 0, 0) := cd_of gl_71 rfl
theorem cd_71_2 : sm_cd 71 2 = some (.iload_n 3, 1, 3, 0, 0, 0, 0, 0, 0) := cd_of gl_71 rfl
theorem cd_71_3 : sm_cd 71 3 = some (.iload_n 2, 1, 2, 0, 0, 0, 0, 0, 0) := cd_of gl_71 rfl
theorem cd_71_4 : sm_cd 71 4 = some (.if_icmp .ge 30, 3, 34, 0, 0, 0, 0, 0, 0) := cd_of gl_71 rfl
theorem cd_71_7 : sm_cd 71 7 = some (.aload_n 0, 1, 0, 0, 0, 0, 0, 0, 0) := cd_of gl_71 rfl
theorem cd_71_8 : sm_cd 71 8 = some (.iload_n 2, 1, 2, 0, 0, 0, 0, 0, 0) := cd_of gl_71 rfl
theorem cd_71_9 : sm_cd 71 9 = some (.iload_n 3, 1, 3, 0, 0, 0, 0, 0, 0) := cd_of gl_71 rfl
theorem cd_71_10 : sm_cd 71 10 = some (.isub, 1, 0, 0, 0, 0, 0, 0, 0) := cd_of gl_71 rfl
theorem cd_71_11 : sm_cd 71 11 = some (.invokevirtual 181, 3, 67, 0, 1, 2, 2, 0, 0) := cd_of gl_71 rfl
theorem cd_71_14 : sm_cd 71 14 = some (.aload_n 0, 1, 0, 0, 0, 0, 0, 0, 0) := cd_of gl_71 rfl
theorem cd_71_15 : sm_cd 71 15 = some (.getfield 21, 3, 2, 1, 2, 0, 0, 0, 0) := cd_of gl_71 rfl
theorem cd_71_18 : sm_cd 71 18 = some (.iload_n 1, 1, 1, 0, 0, 0, 0, 0, 0) := cd_of gl_71 rfl
theorem cd_71_19 : sm_cd 71 19 = some (.iload_n 3, 1, 3, 0, 0, 0, 0, 0, 0) := cd_of gl_71 rfl
theorem cd_71_20 : sm_cd 71 20 = some (.invokevirtual 191, 3, 70, 0, 2, 4, 1, 0, 0) := cd_of gl_71 rfl
theorem cd_71_23 : sm_cd 71 23 = some (.if_icmp .eq 5, 3, 28, 0, 0, 0, 0, 0, 0) := cd_of gl_71 rfl
theorem cd_71_26 : sm_cd 71 26 = some (.iconst 0, 1, 0, 0, 0, 0, 0, 0, 0) := cd_of gl_71 rfl
theorem cd_71_27 : sm_cd 71 27 = some (.ireturn, 1, 0, 0, 2, 0, 0, 0, 0) := cd_of gl_71 rfl
theorem cd_71_28 : sm_cd 71 28 = some (.iinc 3 1, 3, 3, 0, 0, 0, 0, 1, 0) := cd_of gl_71 rfl
theorem cd_71_31 : sm_cd 71 31 = some (.goto (-29), 3, 2, 0, 0, 0, 0, 0, 0) := cd_of gl_71 rfl
theorem cd_71_34 : sm_cd 71 34 = some (.iconst 1, 1, 0, 0, 0, 0, 0, 1, 0) := cd_of gl_71 rfl
theorem cd_71_35 : sm_cd 71 35 = some (.ireturn, 1, 0, 0, 2, 0, 0, 0, 0) := cd_of gl_71 rfl
noncomputable def f_71_2 (K : Nat → Value) (k : Nat) (d : Nat) : Nat → Int32 → Int32 → Int32 → aW → aI → aJ → Option aR :=
  match k with
  | 0 => fun _ _ _ _ _ _ _ => none
  | k + 1 => fun l0 l1 l2 l3 w I J =>
  lt_ (f_71_2 K k d) fun r2 =>
  if l2 ≤ l3 then
    some (some (.int 1), w, I, J)
  else
    gO w 2 l0 (
    cI (Cl K d 67 [.ref l0, .int (l2 - l3)] w I J) fun x_4 w_1 I_2 J_3 =>
    gO w_1 2 l0 (
    gV w_1 l0 1 fun q_5 =>
    gO w_1 1 q_5 (
    cI (Cl K d 70 [.ref q_5, .int l1, .int l3] w_1 I_2 J_3) fun x_9 w_6 I_7 J_8 =>
    if x_4 = x_9 then
      lt_ (l3 + 1) fun x_10 =>
      r2 l0 l1 l2 x_10 w_6 I_7 J_8
    else
      some (some (.int 0), w_6, I_7, J_8))))
theorem ok_71_2 {K : Nat → Value} {d : Nat} : ∀ {k : Nat} {l0 : Nat} {l1 : Int32} {l2 : Int32} {l3 : Int32} {w : aW} {I : aI} {J : aJ} {R : aR}, f_71_2 K k d l0 l1 l2 l3 w I J = some R → Go K (d + 1) 71 2 [some (.ref l0), some (.int l1), some (.int l2), some (.int l3)] [] w I J R := by
  intro k
  induction k with
  | zero => intro l0 l1 l2 l3 w I J R h; cases h
  | succ k ih =>
    intro l0 l1 l2 l3 w I J R h
    have hr2 : ∀ (l0 : Nat) (l1 : Int32) (l2 : Int32) (l3 : Int32) (w : aW) (I : aI) (J : aJ) (R : aR), f_71_2 K k d l0 l1 l2 l3 w I J = some R → Go K (d + 1) 71 2 [some (.ref l0), some (.int l1), some (.int l2), some (.int l3)] [] w I J R := fun l0 l1 l2 l3 w I J R h => ih h
    rw [f_71_2] at h
    obtain ⟨r2, hx, h⟩ := lt_s_ h
    rw [hx] at hr2
    clear hx ih
    refine gs_0 (pc' := 3) (L' := [some (.ref l0), some (.int l1), some (.int l2), some (.int l3)]) (st' := [.int l3]) cd_71_2 rfl rfl ?_
    refine gs_0 (pc' := 4) (L' := [some (.ref l0), some (.int l1), some (.int l2), some (.int l3)]) (st' := [.int l2, .int l3]) cd_71_3 rfl rfl ?_
    refine gs_0 (pc' := if l2 ≤ l3 then 34 else 7) (L' := [some (.ref l0), some (.int l1), some (.int l2), some (.int l3)]) (st' := []) cd_71_4 rfl rfl ?_
    refine go_ite (fun hc => ?_) (fun hc => ?_)
    · rw [if_pos hc] at h
      refine gs_0 (pc' := 35) (L' := [some (.ref l0), some (.int l1), some (.int l2), some (.int l3)]) (st' := [.int 1]) cd_71_34 rfl rfl ?_
      cases h
      exact gs_ri cd_71_35 (Or.inr (Or.inl ⟨rfl, Or.inr rfl⟩))
    · rw [if_neg hc] at h
      refine gs_0 (pc' := 8) (L' := [some (.ref l0), some (.int l1), some (.int l2), some (.int l3)]) (st' := [.ref l0]) cd_71_7 rfl rfl ?_
      refine gs_0 (pc' := 9) (L' := [some (.ref l0), some (.int l1), some (.int l2), some (.int l3)]) (st' := [.int l2, .ref l0]) cd_71_8 rfl rfl ?_
      refine gs_0 (pc' := 10) (L' := [some (.ref l0), some (.int l1), some (.int l2), some (.int l3)]) (st' := [.int l3, .int l2, .ref l0]) cd_71_9 rfl rfl ?_
      refine gs_0 (pc' := 11) (L' := [some (.ref l0), some (.int l1), some (.int l2), some (.int l3)]) (st' := [.int (l2 - l3), .ref l0]) cd_71_10 rfl rfl ?_
      obtain ⟨ht, h⟩ := gO_s h
      obtain ⟨x_4, w_1, I_2, J_3, hcl, h⟩ := cI_s h
      refine gs_call (as := [.ref l0, .int (l2 - l3)]) (rest := []) cd_71_11 rfl (by decide) rfl (sm_rv_ok (by decide) ht) (Nat.le_of_ble_eq_true rfl) (Nat.le_of_ble_eq_true rfl) rfl hcl ?_
      refine gs_0 (pc' := 15) (L' := [some (.ref l0), some (.int l1), some (.int l2), some (.int l3)]) (st' := [.ref l0, .int x_4]) cd_71_14 rfl rfl ?_
      obtain ⟨ht, h⟩ := gO_s h
      obtain ⟨q_5, hv, h⟩ := gV_s h
      refine gs_gfR cd_71_15 (by decide) ht hv ?_
      refine gs_0 (pc' := 19) (L' := [some (.ref l0), some (.int l1), some (.int l2), some (.int l3)]) (st' := [.int l1, .ref q_5, .int x_4]) cd_71_18 rfl rfl ?_
      refine gs_0 (pc' := 20) (L' := [some (.ref l0), some (.int l1), some (.int l2), some (.int l3)]) (st' := [.int l3, .int l1, .ref q_5, .int x_4]) cd_71_19 rfl rfl ?_
      obtain ⟨ht, h⟩ := gO_s h
      obtain ⟨x_9, w_6, I_7, J_8, hcl, h⟩ := cI_s h
      refine gs_call (as := [.ref q_5, .int l1, .int l3]) (rest := [.int x_4]) cd_71_20 rfl (by decide) rfl (sm_rv_ok (by decide) ht) (Nat.le_of_ble_eq_true rfl) (Nat.le_of_ble_eq_true rfl) rfl hcl ?_
      refine gs_0 (pc' := if x_4 = x_9 then 28 else 26) (L' := [some (.ref l0), some (.int l1), some (.int l2), some (.int l3)]) (st' := []) cd_71_23 rfl rfl ?_
      refine go_ite (fun hc => ?_) (fun hc => ?_)
      · rw [if_pos hc] at h
        refine gs_0 (pc' := 31) (L' := [some (.ref l0), some (.int l1), some (.int l2), some (.int (l3 + 1))]) (st' := []) cd_71_28 rfl rfl ?_
        obtain ⟨x_10, hx, h⟩ := lt_s_ h
        rw [hx]
        clear hx
        refine gs_0 (pc' := 2) (L' := [some (.ref l0), some (.int l1), some (.int l2), some (.int x_10)]) (st' := []) cd_71_31 rfl rfl ?_
        exact hr2 l0 l1 l2 x_10 _ _ _ _ h
      · rw [if_neg hc] at h
        refine gs_0 (pc' := 27) (L' := [some (.ref l0), some (.int l1), some (.int l2), some (.int l3)]) (st' := [.int 0]) cd_71_26 rfl rfl ?_
        cases h
        exact gs_ri cd_71_27 (Or.inr (Or.inl ⟨rfl, Or.inl rfl⟩))
noncomputable def f_71 (K : Nat → Value) (k d : Nat) (l0 : Nat) (l1 : Int32) (l2 : Int32) (w : aW) (I : aI) (J : aJ) : Option aR :=
  f_71_2 K k d l0 l1 l2 0 w I J
theorem ok_71 {K : Nat → Value} {k d : Nat} {l0 : Nat} {l1 : Int32} {l2 : Int32} {w : aW} {I : aI} {J : aJ} {R : aR} (h : f_71 K k d l0 l1 l2 w I J = some R) : Go K (d + 1) 71 0 [some (.ref l0), some (.int l1), some (.int l2), none] [] w I J R := by
  unfold f_71 at h
  refine gs_0 (pc' := 1) (L' := [some (.ref l0), some (.int l1), some (.int l2), none]) (st' := [.int 0]) cd_71_0 rfl rfl ?_
  refine gs_0 (pc' := 2) (L' := [some (.ref l0), some (.int l1), some (.int l2), some (.int 0)]) (st' := []) cd_71_1 rfl rfl ?_
  exact ok_71_2 h
theorem cl_71 {K : Nat → Value} {k d : Nat} {l0 : Nat} {l1 : Int32} {l2 : Int32} {w : aW} {I : aI} {J : aJ} {R : aR} (h : f_71 K k d l0 l1 l2 w I J = some R) : Cl K (d + 1) 71 [.ref l0, .int l1, .int l2] w I J = some R := Cl_of (ok_71 h)
/-! ProvedMachine$Reader.readConstant()V -/
theorem gl_72 : gcd.lookup 72 = some gw_72 := rfl
theorem cd_72_0 : sm_cd 72 0 = some (.aload_n 0, 1, 0, 0, 0, 0, 0, 0, 0) := cd_of gl_72 rfl
theorem cd_72_1 : sm_cd 72 1 = some (.getfield 12, 3, 2, 0, 2, 0, 0, 0, 0) := cd_of gl_72 rfl
theorem cd_72_4 : sm_cd 72 4 = some (.invokevirtual 93, 3, 37, 0, 0, 1, 4, 0, 0) := cd_of gl_72 rfl
theorem cd_72_7 : sm_cd 72 7 = some (.lookupswitch 91 #[(2, 41), (266, 58), (267, 69), (268, 80)], 41, 0, 0, 0, 0, 0, 0, 0) := cd_of gl_72 rfl
theorem cd_72_48 : sm_cd 72 48 = some (.aload_n 0, 1, 0, 0, 0, 0, 0, 0, 0) := cd_of gl_72 rfl
theorem cd_72_49 : sm_cd 72 49 = some (.iconst 0, 1, 0, 0, 0, 0, 0, 0, 0) := cd_of gl_72 rfl
theorem cd_72_50 : sm_cd 72 50 = some (.aload_n 0, 1, 0, 0, 0, 0, 0, 0, 0) := cd_of gl_72 rfl
theorem cd_72_51 : sm_cd 72 51 = some (.getfield 12, 3, 2, 0, 2, 0, 0, 0, 0) := cd_of gl_72 rfl
theorem cd_72_54 : sm_cd 72 54 = some (.invokevirtual 215, 3, 46, 0, 0, 1, 4, 0, 0) := cd_of gl_72 rfl
theorem cd_72_57 : sm_cd 72 57 = some (.iconst 0, 1, 0, 0, 0, 0, 0, 0, 0) := cd_of gl_72 rfl
theorem cd_72_58 : sm_cd 72 58 = some (.iconst 0, 1, 0, 0, 0, 0, 0, 0, 0) := cd_of gl_72 rfl
theorem cd_72_59 : sm_cd 72 59 = some (.invokevirtual 149, 3, 58, 0, 4, 5, 2, 0, 0) := cd_of gl_72 rfl
theorem cd_72_62 : sm_cd 72 62 = some (.goto 43, 3, 105, 0, 0, 0, 0, 0, 0) := cd_of gl_72 rfl
theorem cd_72_65 : sm_cd 72 65 = some (.aload_n 0, 1, 0, 0, 0, 0, 0, 0, 0) := cd_of gl_72 rfl
theorem cd_72_66 : sm_cd 72 66 = some (.iconst 1, 1, 0, 0, 0, 0, 0, 1, 0) := cd_of gl_72 rfl
theorem cd_72_67 : sm_cd 72 67 = some (.iconst 1, 1, 0, 0, 0, 0, 0, 1, 0) := cd_of gl_72 rfl
theorem cd_72_68 : sm_cd 72 68 = some (.iconst 0, 1, 0, 0, 0, 0, 0, 0, 0) := cd_of gl_72 rfl
theorem cd_72_69 : sm_cd 72 69 = some (.iconst 1, 1, 0, 0, 0, 0, 0, 1, 0) := cd_of gl_72 rfl
theorem cd_72_70 : sm_cd 72 70 = some (.invokevirtual 149, 3, 58, 0, 4, 5, 2, 0, 0) := cd_of gl_72 rfl
theorem cd_72_73 : sm_cd 72 73 = some (.goto 32, 3, 105, 0, 0, 0, 0, 0, 0) := cd_of gl_72 rfl
theorem cd_72_76 : sm_cd 72 76 = some (.aload_n 0, 1, 0, 0, 0, 0, 0, 0, 0) := cd_of gl_72 rfl
theorem cd_72_77 : sm_cd 72 77 = some (.iconst 1, 1, 0, 0, 0, 0, 0, 1, 0) := cd_of gl_72 rfl
theorem cd_72_78 : sm_cd 72 78 = some (.iconst 0, 1, 0, 0, 0, 0, 0, 0, 0) := cd_of gl_72 rfl
theorem cd_72_79 : sm_cd 72 79 = some (.iconst 0, 1, 0, 0, 0, 0, 0, 0, 0) := cd_of gl_72 rfl
theorem cd_72_80 : sm_cd 72 80 = some (.iconst 1, 1, 0, 0, 0, 0, 0, 1, 0) := cd_of gl_72 rfl
theorem cd_72_81 : sm_cd 72 81 = some (.invokevirtual 149, 3, 58, 0, 4, 5, 2, 0, 0) := cd_of gl_72 rfl
theorem cd_72_84 : sm_cd 72 84 = some (.goto 21, 3, 105, 0, 0, 0, 0, 0, 0) := cd_of gl_72 rfl
theorem cd_72_87 : sm_cd 72 87 = some (.aload_n 0, 1, 0, 0, 0, 0, 0, 0, 0) := cd_of gl_72 rfl
theorem cd_72_88 : sm_cd 72 88 = some (.iconst 2, 1, 0, 0, 0, 0, 0, 2, 0) := cd_of gl_72 rfl
theorem cd_72_89 : sm_cd 72 89 = some (.iconst 0, 1, 0, 0, 0, 0, 0, 0, 0) := cd_of gl_72 rfl
theorem cd_72_90 : sm_cd 72 90 = some (.iconst 0, 1, 0, 0, 0, 0, 0, 0, 0) := cd_of gl_72 rfl
theorem cd_72_91 : sm_cd 72 91 = some (.iconst 3, 1, 0, 0, 0, 0, 0, 3, 0) := cd_of gl_72 rfl
theorem cd_72_92 : sm_cd 72 92 = some (.invokevirtual 149, 3, 58, 0, 4, 5, 2, 0, 0) := cd_of gl_72 rfl
theorem cd_72_95 : sm_cd 72 95 = some (.goto 10, 3, 105, 0, 0, 0, 0, 0, 0) := cd_of gl_72 rfl
theorem cd_72_98 : sm_cd 72 98 = some (.aload_n 0, 1, 0, 0, 0, 0, 0, 0, 0) := cd_of gl_72 rfl
theorem cd_72_99 : sm_cd 72 99 = some (.getfield 12, 3, 2, 0, 2, 0, 0, 0, 0) := cd_of gl_72 rfl
theorem cd_72_102 : sm_cd 72 102 = some (.invokevirtual 171, 3, 43, 0, 0, 1, 4, 0, 0) := cd_of gl_72 rfl
theorem cd_72_105 : sm_cd 72 105 = some (.aload_n 0, 1, 0, 0, 0, 0, 0, 0, 0) := cd_of gl_72 rfl
theorem cd_72_106 : sm_cd 72 106 = some (.getfield 12, 3, 2, 0, 2, 0, 0, 0, 0) := cd_of gl_72 rfl
theorem cd_72_109 : sm_cd 72 109 = some (.invokevirtual 146, 3, 42, 0, 0, 1, 4, 0, 0) := cd_of gl_72 rfl
theorem cd_72_112 : sm_cd 72 112 = some (.return_, 1, 0, 0, 0, 0, 0, 0, 0) := cd_of gl_72 rfl
theorem sw_72_7_0 {K : Nat → Value} {L : aL} {st : List Value} {w : aW} {I : aI} {J : aJ} {x : Int32} (h : x = 2) : sm_stp K (.lookupswitch 91 #[(2, 41), (266, 58), (267, 69), (268, 80)], 41, 0, 0, 0, 0, 0, 0, 0) 7 L (.int x :: st) w I J = some (48, L, st, w, I, J) := by subst h; rfl
theorem sw_72_7_1 {K : Nat → Value} {L : aL} {st : List Value} {w : aW} {I : aI} {J : aJ} {x : Int32} (h : x = 266) : sm_stp K (.lookupswitch 91 #[(2, 41), (266, 58), (267, 69), (268, 80)], 41, 0, 0, 0, 0, 0, 0, 0) 7 L (.int x :: st) w I J = some (65, L, st, w, I, J) := by subst h; rfl
theorem sw_72_7_2 {K : Nat → Value} {L : aL} {st : List Value} {w : aW} {I : aI} {J : aJ} {x : Int32} (h : x = 267) : sm_stp K (.lookupswitch 91 #[(2, 41), (266, 58), (267, 69), (268, 80)], 41, 0, 0, 0, 0, 0, 0, 0) 7 L (.int x :: st) w I J = some (76, L, st, w, I, J) := by subst h; rfl
theorem sw_72_7_3 {K : Nat → Value} {L : aL} {st : List Value} {w : aW} {I : aI} {J : aJ} {x : Int32} (h : x = 268) : sm_stp K (.lookupswitch 91 #[(2, 41), (266, 58), (267, 69), (268, 80)], 41, 0, 0, 0, 0, 0, 0, 0) 7 L (.int x :: st) w I J = some (87, L, st, w, I, J) := by subst h; rfl
theorem sw_72_7_d {K : Nat → Value} {L : aL} {st : List Value} {w : aW} {I : aI} {J : aJ} {x : Int32} (h0 : ¬ x = 2) (h1 : ¬ x = 266) (h2 : ¬ x = 267) (h3 : ¬ x = 268) : sm_stp K (.lookupswitch 91 #[(2, 41), (266, 58), (267, 69), (268, 80)], 41, 0, 0, 0, 0, 0, 0, 0) 7 L (.int x :: st) w I J = some (98, L, st, w, I, J) := by
  have e : Op.lookupswitch.offset [(2, 41), (266, 58), (267, 69), (268, 80)] 91 x.toInt = 91 := by
    rw [lv_osw (k := 2) (a := 2) h0 (by decide), lv_osw (k := 266) (a := 266) h1 (by decide), lv_osw (k := 267) (a := 267) h2 (by decide), lv_osw (k := 268) (a := 268) h3 (by decide)]
    rfl
  have e2 : sm_swl 7 91 #[(2, 41), (266, 58), (267, 69), (268, 80)] x = some 98 := by
    unfold sm_swl
    rw [if_pos (by decide)]
    show sm_jmp 7 (Op.lookupswitch.offset [(2, 41), (266, 58), (267, 69), (268, 80)] 91 x.toInt) = _
    rw [e]
    rfl
  simp only [sm_stp, e2, sm_jm]
noncomputable def f_72_105 (K : Nat → Value) (k d : Nat) (l0 : Nat) (w : aW) (I : aI) (J : aJ) : Option aR :=
  gO w 2 l0 (
  gV w l0 0 fun q_1 =>
  gO w 4 q_1 (
  cV (Cl K d 42 [.ref q_1] w I J) fun w_2 I_3 J_4 =>
  some (none, w_2, I_3, J_4)))
theorem ok_72_105 {K : Nat → Value} {k d : Nat} {l0 : Nat} {w : aW} {I : aI} {J : aJ} {R : aR} (h : f_72_105 K k d l0 w I J = some R) : Go K (d + 1) 72 105 [some (.ref l0)] [] w I J R := by
  unfold f_72_105 at h
  refine gs_0 (pc' := 106) (L' := [some (.ref l0)]) (st' := [.ref l0]) cd_72_105 rfl rfl ?_
  obtain ⟨ht, h⟩ := gO_s h
  obtain ⟨q_1, hv, h⟩ := gV_s h
  refine gs_gfR cd_72_106 (by decide) ht hv ?_
  obtain ⟨ht, h⟩ := gO_s h
  obtain ⟨w_2, I_3, J_4, hcl, h⟩ := cV_s h
  refine gs_call (as := [.ref q_1]) (rest := []) cd_72_109 rfl (by decide) rfl (sm_rv_ok (by decide) ht) (Nat.le_of_ble_eq_true rfl) (Nat.le_of_ble_eq_true rfl) rfl hcl ?_
  cases h
  exact gsr cd_72_112 rfl rfl
noncomputable def f_72 (K : Nat → Value) (k d : Nat) (l0 : Nat) (w : aW) (I : aI) (J : aJ) : Option aR :=
  gO w 2 l0 (
  gV w l0 0 fun q_1 =>
  gO w 4 q_1 (
  cI (Cl K d 37 [.ref q_1] w I J) fun x_5 w_2 I_3 J_4 =>
  if x_5 = 2 then
    gO w_2 2 l0 (
    gV w_2 l0 0 fun q_6 =>
    gO w_2 4 q_6 (
    cI (Cl K d 46 [.ref q_6] w_2 I_3 J_4) fun x_10 w_7 I_8 J_9 =>
    gO w_7 2 l0 (
    cV (Cl K d 58 [.ref l0, .int 0, .int x_10, .int 0, .int 0] w_7 I_8 J_9) fun w_11 I_12 J_13 =>
    f_72_105 K k d l0 w_11 I_12 J_13)))
  else
  if x_5 = 266 then
    gO w_2 2 l0 (
    cV (Cl K d 58 [.ref l0, .int 1, .int 1, .int 0, .int 1] w_2 I_3 J_4) fun w_14 I_15 J_16 =>
    f_72_105 K k d l0 w_14 I_15 J_16)
  else
  if x_5 = 267 then
    gO w_2 2 l0 (
    cV (Cl K d 58 [.ref l0, .int 1, .int 0, .int 0, .int 1] w_2 I_3 J_4) fun w_17 I_18 J_19 =>
    f_72_105 K k d l0 w_17 I_18 J_19)
  else
  if x_5 = 268 then
    gO w_2 2 l0 (
    cV (Cl K d 58 [.ref l0, .int 2, .int 0, .int 0, .int 3] w_2 I_3 J_4) fun w_20 I_21 J_22 =>
    f_72_105 K k d l0 w_20 I_21 J_22)
  else
  gO w_2 2 l0 (
  gV w_2 l0 0 fun q_23 =>
  gO w_2 4 q_23 (
  cV (Cl K d 43 [.ref q_23] w_2 I_3 J_4) fun w_24 I_25 J_26 =>
  f_72_105 K k d l0 w_24 I_25 J_26))))
theorem ok_72 {K : Nat → Value} {k d : Nat} {l0 : Nat} {w : aW} {I : aI} {J : aJ} {R : aR} (h : f_72 K k d l0 w I J = some R) : Go K (d + 1) 72 0 [some (.ref l0)] [] w I J R := by
  unfold f_72 at h
  refine gs_0 (pc' := 1) (L' := [some (.ref l0)]) (st' := [.ref l0]) cd_72_0 rfl rfl ?_
  obtain ⟨ht, h⟩ := gO_s h
  obtain ⟨q_1, hv, h⟩ := gV_s h
  refine gs_gfR cd_72_1 (by decide) ht hv ?_
  obtain ⟨ht, h⟩ := gO_s h
  obtain ⟨x_5, w_2, I_3, J_4, hcl, h⟩ := cI_s h
  refine gs_call (as := [.ref q_1]) (rest := []) cd_72_4 rfl (by decide) rfl (sm_rv_ok (by decide) ht) (Nat.le_of_ble_eq_true rfl) (Nat.le_of_ble_eq_true rfl) rfl hcl ?_
  by_cases hc0 : x_5 = 2
  · rw [if_pos hc0] at h
    refine gs_0 (pc' := 48) (L' := [some (.ref l0)]) (st' := []) cd_72_7 rfl (sw_72_7_0 hc0) ?_
    refine gs_0 (pc' := 49) (L' := [some (.ref l0)]) (st' := [.ref l0]) cd_72_48 rfl rfl ?_
    refine gs_0 (pc' := 50) (L' := [some (.ref l0)]) (st' := [.int 0, .ref l0]) cd_72_49 rfl rfl ?_
    refine gs_0 (pc' := 51) (L' := [some (.ref l0)]) (st' := [.ref l0, .int 0, .ref l0]) cd_72_50 rfl rfl ?_
    obtain ⟨ht, h⟩ := gO_s h
    obtain ⟨q_6, hv, h⟩ := gV_s h
    refine gs_gfR cd_72_51 (by decide) ht hv ?_
    obtain ⟨ht, h⟩ := gO_s h
    obtain ⟨x_10, w_7, I_8, J_9, hcl, h⟩ := cI_s h
    refine gs_call (as := [.ref q_6]) (rest := [.int 0, .ref l0]) cd_72_54 rfl (by decide) rfl (sm_rv_ok (by decide) ht) (Nat.le_of_ble_eq_true rfl) (Nat.le_of_ble_eq_true rfl) rfl hcl ?_
    refine gs_0 (pc' := 58) (L' := [some (.ref l0)]) (st' := [.int 0, .int x_10, .int 0, .ref l0]) cd_72_57 rfl rfl ?_
    refine gs_0 (pc' := 59) (L' := [some (.ref l0)]) (st' := [.int 0, .int 0, .int x_10, .int 0, .ref l0]) cd_72_58 rfl rfl ?_
    obtain ⟨ht, h⟩ := gO_s h
    obtain ⟨w_11, I_12, J_13, hcl, h⟩ := cV_s h
    refine gs_call (as := [.ref l0, .int 0, .int x_10, .int 0, .int 0]) (rest := []) cd_72_59 rfl (by decide) rfl (sm_rv_ok (by decide) ht) (Nat.le_of_ble_eq_true rfl) (Nat.le_of_ble_eq_true rfl) rfl hcl ?_
    refine gs_0 (pc' := 105) (L' := [some (.ref l0)]) (st' := []) cd_72_62 rfl rfl ?_
    exact ok_72_105 h
  · rw [if_neg hc0] at h
    by_cases hc1 : x_5 = 266
    · rw [if_pos hc1] at h
      refine gs_0 (pc' := 65) (L' := [some (.ref l0)]) (st' := []) cd_72_7 rfl (sw_72_7_1 hc1) ?_
      refine gs_0 (pc' := 66) (L' := [some (.ref l0)]) (st' := [.ref l0]) cd_72_65 rfl rfl ?_
      refine gs_0 (pc' := 67) (L' := [some (.ref l0)]) (st' := [.int 1, .ref l0]) cd_72_66 rfl rfl ?_
      refine gs_0 (pc' := 68) (L' := [some (.ref l0)]) (st' := [.int 1, .int 1, .ref l0]) cd_72_67 rfl rfl ?_
      refine gs_0 (pc' := 69) (L' := [some (.ref l0)]) (st' := [.int 0, .int 1, .int 1, .ref l0]) cd_72_68 rfl rfl ?_
      refine gs_0 (pc' := 70) (L' := [some (.ref l0)]) (st' := [.int 1, .int 0, .int 1, .int 1, .ref l0]) cd_72_69 rfl rfl ?_
      obtain ⟨ht, h⟩ := gO_s h
      obtain ⟨w_14, I_15, J_16, hcl, h⟩ := cV_s h
      refine gs_call (as := [.ref l0, .int 1, .int 1, .int 0, .int 1]) (rest := []) cd_72_70 rfl (by decide) rfl (sm_rv_ok (by decide) ht) (Nat.le_of_ble_eq_true rfl) (Nat.le_of_ble_eq_true rfl) rfl hcl ?_
      refine gs_0 (pc' := 105) (L' := [some (.ref l0)]) (st' := []) cd_72_73 rfl rfl ?_
      exact ok_72_105 h
    · rw [if_neg hc1] at h
      by_cases hc2 : x_5 = 267
      · rw [if_pos hc2] at h
        refine gs_0 (pc' := 76) (L' := [some (.ref l0)]) (st' := []) cd_72_7 rfl (sw_72_7_2 hc2) ?_
        refine gs_0 (pc' := 77) (L' := [some (.ref l0)]) (st' := [.ref l0]) cd_72_76 rfl rfl ?_
        refine gs_0 (pc' := 78) (L' := [some (.ref l0)]) (st' := [.int 1, .ref l0]) cd_72_77 rfl rfl ?_
        refine gs_0 (pc' := 79) (L' := [some (.ref l0)]) (st' := [.int 0, .int 1, .ref l0]) cd_72_78 rfl rfl ?_
        refine gs_0 (pc' := 80) (L' := [some (.ref l0)]) (st' := [.int 0, .int 0, .int 1, .ref l0]) cd_72_79 rfl rfl ?_
        refine gs_0 (pc' := 81) (L' := [some (.ref l0)]) (st' := [.int 1, .int 0, .int 0, .int 1, .ref l0]) cd_72_80 rfl rfl ?_
        obtain ⟨ht, h⟩ := gO_s h
        obtain ⟨w_17, I_18, J_19, hcl, h⟩ := cV_s h
        refine gs_call (as := [.ref l0, .int 1, .int 0, .int 0, .int 1]) (rest := []) cd_72_81 rfl (by decide) rfl (sm_rv_ok (by decide) ht) (Nat.le_of_ble_eq_true rfl) (Nat.le_of_ble_eq_true rfl) rfl hcl ?_
        refine gs_0 (pc' := 105) (L' := [some (.ref l0)]) (st' := []) cd_72_84 rfl rfl ?_
        exact ok_72_105 h
      · rw [if_neg hc2] at h
        by_cases hc3 : x_5 = 268
        · rw [if_pos hc3] at h
          refine gs_0 (pc' := 87) (L' := [some (.ref l0)]) (st' := []) cd_72_7 rfl (sw_72_7_3 hc3) ?_
          refine gs_0 (pc' := 88) (L' := [some (.ref l0)]) (st' := [.ref l0]) cd_72_87 rfl rfl ?_
          refine gs_0 (pc' := 89) (L' := [some (.ref l0)]) (st' := [.int 2, .ref l0]) cd_72_88 rfl rfl ?_
          refine gs_0 (pc' := 90) (L' := [some (.ref l0)]) (st' := [.int 0, .int 2, .ref l0]) cd_72_89 rfl rfl ?_
          refine gs_0 (pc' := 91) (L' := [some (.ref l0)]) (st' := [.int 0, .int 0, .int 2, .ref l0]) cd_72_90 rfl rfl ?_
          refine gs_0 (pc' := 92) (L' := [some (.ref l0)]) (st' := [.int 3, .int 0, .int 0, .int 2, .ref l0]) cd_72_91 rfl rfl ?_
          obtain ⟨ht, h⟩ := gO_s h
          obtain ⟨w_20, I_21, J_22, hcl, h⟩ := cV_s h
          refine gs_call (as := [.ref l0, .int 2, .int 0, .int 0, .int 3]) (rest := []) cd_72_92 rfl (by decide) rfl (sm_rv_ok (by decide) ht) (Nat.le_of_ble_eq_true rfl) (Nat.le_of_ble_eq_true rfl) rfl hcl ?_
          refine gs_0 (pc' := 105) (L' := [some (.ref l0)]) (st' := []) cd_72_95 rfl rfl ?_
          exact ok_72_105 h
        · rw [if_neg hc3] at h
          refine gs_0 (pc' := 98) (L' := [some (.ref l0)]) (st' := []) cd_72_7 rfl (sw_72_7_d hc0 hc1 hc2 hc3) ?_
          refine gs_0 (pc' := 99) (L' := [some (.ref l0)]) (st' := [.ref l0]) cd_72_98 rfl rfl ?_
          obtain ⟨ht, h⟩ := gO_s h
          obtain ⟨q_23, hv, h⟩ := gV_s h
          refine gs_gfR cd_72_99 (by decide) ht hv ?_
          obtain ⟨ht, h⟩ := gO_s h
          obtain ⟨w_24, I_25, J_26, hcl, h⟩ := cV_s h
          refine gs_call (as := [.ref q_23]) (rest := []) cd_72_102 rfl (by decide) rfl (sm_rv_ok (by decide) ht) (Nat.le_of_ble_eq_true rfl) (Nat.le_of_ble_eq_true rfl) rfl hcl ?_
          exact ok_72_105 h
theorem cl_72 {K : Nat → Value} {k d : Nat} {l0 : Nat} {w : aW} {I : aI} {J : aJ} {R : aR} (h : f_72 K k d l0 w I J = some R) : Cl K (d + 1) 72 [.ref l0] w I J = some R := Cl_of (ok_72 h)
/-! ProvedMachine$Reader.opBetween(I)I -/
theorem gl_73 : gcd.lookup 73 = some gw_73 := rfl
theorem cd_73_0 : sm_cd 73 0 = some (.iload_n 0, 1, 0, 0, 0, 0, 0, 0, 0) := cd_of gl_73 rfl
theorem cd_73_1 : sm_cd 73 1 = some (.lookupswitch 110 #[(42, 104), (43, 98), (45, 101), (47, 107), (58, 83), (60, 92), (61, 95), (270, 89), (271, 86)], 83, 0, 0, 0, 0, 0, 0, 0) := cd_of gl_73 rfl
theorem cd_73_84 : sm_cd 73 84 = some (.bipush 12, 2, 0, 0, 0, 0, 0, 12, 0) := cd_of gl_73 rfl
theorem cd_73_86 : sm_cd 73 86 = some (.ireturn, 1, 0, 0, 1, 0, 0, 0, 0) := cd_of gl_73 rfl
theorem cd_73_87 : sm_cd 73 87 = some (.bipush 13, 2, 0, 0, 0, 0, 0, 13, 0) := cd_of gl_73 rfl
theorem cd_73_89 : sm_cd 73 89 = some (.ireturn, 1, 0, 0, 1, 0, 0, 0, 0) := cd_of gl_73 rfl
theorem cd_73_90 : sm_cd 73 90 = some (.bipush 14, 2, 0, 0, 0, 0, 0, 14, 0) := cd_of gl_73 rfl
theorem cd_73_92 : sm_cd 73 92 = some (.ireturn, 1, 0, 0, 1, 0, 0, 0, 0) := cd_of gl_73 rfl
theorem cd_73_93 : sm_cd 73 93 = some (.bipush 15, 2, 0, 0, 0, 0, 0, 15, 0) := cd_of gl_73 rfl
theorem cd_73_95 : sm_cd 73 95 = some (.ireturn, 1, 0, 0, 1, 0, 0, 0, 0) := cd_of gl_73 rfl
theorem cd_73_96 : sm_cd 73 96 = some (.bipush 16, 2, 0, 0, 0, 0, 0, 16, 0) := cd_of gl_73 rfl
theorem cd_73_98 : sm_cd 73 98 = some (.ireturn, 1, 0, 0, 1, 0, 0, 0, 0) := cd_of gl_73 rfl
theorem cd_73_99 : sm_cd 73 99 = some (.bipush 17, 2, 0, 0, 0, 0, 0, 17, 0) := cd_of gl_73 rfl
theorem cd_73_101 : sm_cd 73 101 = some (.ireturn, 1, 0, 0, 1, 0, 0, 0, 0) := cd_of gl_73 rfl
theorem cd_73_102 : sm_cd 73 102 = some (.bipush 18, 2, 0, 0, 0, 0, 0, 18, 0) := cd_of gl_73 rfl
theorem cd_73_104 : sm_cd 73 104 = some (.ireturn, 1, 0, 0, 1, 0, 0, 0, 0) := cd_of gl_73 rfl
theorem cd_73_105 : sm_cd 73 105 = some (.bipush 19, 2, 0, 0, 0, 0, 0, 19, 0) := cd_of gl_73 rfl
theorem cd_73_107 : sm_cd 73 107 = some (.ireturn, 1, 0, 0, 1, 0, 0, 0, 0) := cd_of gl_73 rfl
theorem cd_73_108 : sm_cd 73 108 = some (.bipush 20, 2, 0, 0, 0, 0, 0, 20, 0) := cd_of gl_73 rfl
theorem cd_73_110 : sm_cd 73 110 = some (.ireturn, 1, 0, 0, 1, 0, 0, 0, 0) := cd_of gl_73 rfl
theorem cd_73_111 : sm_cd 73 111 = some (.iconst (-1), 1, 0, 0, 0, 0, 0, (-1), 0) := cd_of gl_73 rfl
theorem cd_73_112 : sm_cd 73 112 = some (.ireturn, 1, 0, 0, 1, 0, 0, 0, 0) := cd_of gl_73 rfl
theorem sw_73_1_0 {K : Nat → Value} {L : aL} {st : List Value} {w : aW} {I : aI} {J : aJ} {x : Int32} (h : x = 42) : sm_stp K (.lookupswitch 110 #[(42, 104), (43, 98), (45, 101), (47, 107), (58, 83), (60, 92), (61, 95), (270, 89), (271, 86)], 83, 0, 0, 0, 0, 0, 0, 0) 1 L (.int x :: st) w I J = some (105, L, st, w, I, J) := by subst h; rfl
theorem sw_73_1_1 {K : Nat → Value} {L : aL} {st : List Value} {w : aW} {I : aI} {J : aJ} {x : Int32} (h : x = 43) : sm_stp K (.lookupswitch 110 #[(42, 104), (43, 98), (45, 101), (47, 107), (58, 83), (60, 92), (61, 95), (270, 89), (271, 86)], 83, 0, 0, 0, 0, 0, 0, 0) 1 L (.int x :: st) w I J = some (99, L, st, w, I, J) := by subst h; rfl
theorem sw_73_1_2 {K : Nat → Value} {L : aL} {st : List Value} {w : aW} {I : aI} {J : aJ} {x : Int32} (h : x = 45) : sm_stp K (.lookupswitch 110 #[(42, 104), (43, 98), (45, 101), (47, 107), (58, 83), (60, 92), (61, 95), (270, 89), (271, 86)], 83, 0, 0, 0, 0, 0, 0, 0) 1 L (.int x :: st) w I J = some (102, L, st, w, I, J) := by subst h; rfl
theorem sw_73_1_3 {K : Nat → Value} {L : aL} {st : List Value} {w : aW} {I : aI} {J : aJ} {x : Int32} (h : x = 47) : sm_stp K (.lookupswitch 110 #[(42, 104), (43, 98), (45, 101), (47, 107), (58, 83), (60, 92), (61, 95), (270, 89), (271, 86)], 83, 0, 0, 0, 0, 0, 0, 0) 1 L (.int x :: st) w I J = some (108, L, st, w, I, J) := by subst h; rfl
theorem sw_73_1_4 {K : Nat → Value} {L : aL} {st : List Value} {w : aW} {I : aI} {J : aJ} {x : Int32} (h : x = 58) : sm_stp K (.lookupswitch 110 #[(42, 104), (43, 98), (45, 101), (47, 107), (58, 83), (60, 92), (61, 95), (270, 89), (271, 86)], 83, 0, 0, 0, 0, 0, 0, 0) 1 L (.int x :: st) w I J = some (84, L, st, w, I, J) := by subst h; rfl
theorem sw_73_1_5 {K : Nat → Value} {L : aL} {st : List Value} {w : aW} {I : aI} {J : aJ} {x : Int32} (h : x = 60) : sm_stp K (.lookupswitch 110 #[(42, 104), (43, 98), (45, 101), (47, 107), (58, 83), (60, 92), (61, 95), (270, 89), (271, 86)], 83, 0, 0, 0, 0, 0, 0, 0) 1 L (.int x :: st) w I J = some (93, L, st, w, I, J) := by subst h; rfl
theorem sw_73_1_6 {K : Nat → Value} {L : aL} {st : List Value} {w : aW} {I : aI} {J : aJ} {x : Int32} (h : x = 61) : sm_stp K (.lookupswitch 110 #[(42, 104), (43, 98), (45, 101), (47, 107), (58, 83), (60, 92), (61, 95), (270, 89), (271, 86)], 83, 0, 0, 0, 0, 0, 0, 0) 1 L (.int x :: st) w I J = some (96, L, st, w, I, J) := by subst h; rfl
theorem sw_73_1_7 {K : Nat → Value} {L : aL} {st : List Value} {w : aW} {I : aI} {J : aJ} {x : Int32} (h : x = 270) : sm_stp K (.lookupswitch 110 #[(42, 104), (43, 98), (45, 101), (47, 107), (58, 83), (60, 92), (61, 95), (270, 89), (271, 86)], 83, 0, 0, 0, 0, 0, 0, 0) 1 L (.int x :: st) w I J = some (90, L, st, w, I, J) := by subst h; rfl
theorem sw_73_1_8 {K : Nat → Value} {L : aL} {st : List Value} {w : aW} {I : aI} {J : aJ} {x : Int32} (h : x = 271) : sm_stp K (.lookupswitch 110 #[(42, 104), (43, 98), (45, 101), (47, 107), (58, 83), (60, 92), (61, 95), (270, 89), (271, 86)], 83, 0, 0, 0, 0, 0, 0, 0) 1 L (.int x :: st) w I J = some (87, L, st, w, I, J) := by subst h; rfl
theorem sw_73_1_d {K : Nat → Value} {L : aL} {st : List Value} {w : aW} {I : aI} {J : aJ} {x : Int32} (h0 : ¬ x = 42) (h1 : ¬ x = 43) (h2 : ¬ x = 45) (h3 : ¬ x = 47) (h4 : ¬ x = 58) (h5 : ¬ x = 60) (h6 : ¬ x = 61) (h7 : ¬ x = 270) (h8 : ¬ x = 271) : sm_stp K (.lookupswitch 110 #[(42, 104), (43, 98), (45, 101), (47, 107), (58, 83), (60, 92), (61, 95), (270, 89), (271, 86)], 83, 0, 0, 0, 0, 0, 0, 0) 1 L (.int x :: st) w I J = some (111, L, st, w, I, J) := by
  have e : Op.lookupswitch.offset [(42, 104), (43, 98), (45, 101), (47, 107), (58, 83), (60, 92), (61, 95), (270, 89), (271, 86)] 110 x.toInt = 110 := by
    rw [lv_osw (k := 42) (a := 42) h0 (by decide), lv_osw (k := 43) (a := 43) h1 (by decide), lv_osw (k := 45) (a := 45) h2 (by decide), lv_osw (k := 47) (a := 47) h3 (by decide), lv_osw (k := 58) (a := 58) h4 (by decide), lv_osw (k := 60) (a := 60) h5 (by decide), lv_osw (k := 61) (a := 61) h6 (by decide), lv_osw (k := 270) (a := 270) h7 (by decide), lv_osw (k := 271) (a := 271) h8 (by decide)]
    rfl
  have e2 : sm_swl 1 110 #[(42, 104), (43, 98), (45, 101), (47, 107), (58, 83), (60, 92), (61, 95), (270, 89), (271, 86)] x = some 111 := by
    unfold sm_swl
    rw [if_pos (by decide)]
    show sm_jmp 1 (Op.lookupswitch.offset [(42, 104), (43, 98), (45, 101), (47, 107), (58, 83), (60, 92), (61, 95), (270, 89), (271, 86)] 110 x.toInt) = _
    rw [e]
    rfl
  simp only [sm_stp, e2, sm_jm]
noncomputable def f_73 (K : Nat → Value) (k d : Nat) (l0 : Int32) (w : aW) (I : aI) (J : aJ) : Option aR :=
  if l0 = 42 then
    some (some (.int 19), w, I, J)
  else
  if l0 = 43 then
    some (some (.int 17), w, I, J)
  else
  if l0 = 45 then
    some (some (.int 18), w, I, J)
  else
  if l0 = 47 then
    some (some (.int 20), w, I, J)
  else
  if l0 = 58 then
    some (some (.int 12), w, I, J)
  else
  if l0 = 60 then
    some (some (.int 15), w, I, J)
  else
  if l0 = 61 then
    some (some (.int 16), w, I, J)
  else
  if l0 = 270 then
    some (some (.int 14), w, I, J)
  else
  if l0 = 271 then
    some (some (.int 13), w, I, J)
  else
  some (some (.int (-1)), w, I, J)
theorem ok_73 {K : Nat → Value} {k d : Nat} {l0 : Int32} {w : aW} {I : aI} {J : aJ} {R : aR} (h : f_73 K k d l0 w I J = some R) : Go K (d + 1) 73 0 [some (.int l0)] [] w I J R := by
  unfold f_73 at h
  refine gs_0 (pc' := 1) (L' := [some (.int l0)]) (st' := [.int l0]) cd_73_0 rfl rfl ?_
  by_cases hc0 : l0 = 42
  · rw [if_pos hc0] at h
    refine gs_0 (pc' := 105) (L' := [some (.int l0)]) (st' := []) cd_73_1 rfl (sw_73_1_0 hc0) ?_
    refine gs_0 (pc' := 107) (L' := [some (.int l0)]) (st' := [.int 19]) cd_73_105 rfl rfl ?_
    cases h
    exact gs_ri cd_73_107 (Or.inl rfl)
  · rw [if_neg hc0] at h
    by_cases hc1 : l0 = 43
    · rw [if_pos hc1] at h
      refine gs_0 (pc' := 99) (L' := [some (.int l0)]) (st' := []) cd_73_1 rfl (sw_73_1_1 hc1) ?_
      refine gs_0 (pc' := 101) (L' := [some (.int l0)]) (st' := [.int 17]) cd_73_99 rfl rfl ?_
      cases h
      exact gs_ri cd_73_101 (Or.inl rfl)
    · rw [if_neg hc1] at h
      by_cases hc2 : l0 = 45
      · rw [if_pos hc2] at h
        refine gs_0 (pc' := 102) (L' := [some (.int l0)]) (st' := []) cd_73_1 rfl (sw_73_1_2 hc2) ?_
        refine gs_0 (pc' := 104) (L' := [some (.int l0)]) (st' := [.int 18]) cd_73_102 rfl rfl ?_
        cases h
        exact gs_ri cd_73_104 (Or.inl rfl)
      · rw [if_neg hc2] at h
        by_cases hc3 : l0 = 47
        · rw [if_pos hc3] at h
          refine gs_0 (pc' := 108) (L' := [some (.int l0)]) (st' := []) cd_73_1 rfl (sw_73_1_3 hc3) ?_
          refine gs_0 (pc' := 110) (L' := [some (.int l0)]) (st' := [.int 20]) cd_73_108 rfl rfl ?_
          cases h
          exact gs_ri cd_73_110 (Or.inl rfl)
        · rw [if_neg hc3] at h
          by_cases hc4 : l0 = 58
          · rw [if_pos hc4] at h
            refine gs_0 (pc' := 84) (L' := [some (.int l0)]) (st' := []) cd_73_1 rfl (sw_73_1_4 hc4) ?_
            refine gs_0 (pc' := 86) (L' := [some (.int l0)]) (st' := [.int 12]) cd_73_84 rfl rfl ?_
            cases h
            exact gs_ri cd_73_86 (Or.inl rfl)
          · rw [if_neg hc4] at h
            by_cases hc5 : l0 = 60
            · rw [if_pos hc5] at h
              refine gs_0 (pc' := 93) (L' := [some (.int l0)]) (st' := []) cd_73_1 rfl (sw_73_1_5 hc5) ?_
              refine gs_0 (pc' := 95) (L' := [some (.int l0)]) (st' := [.int 15]) cd_73_93 rfl rfl ?_
              cases h
              exact gs_ri cd_73_95 (Or.inl rfl)
            · rw [if_neg hc5] at h
              by_cases hc6 : l0 = 61
              · rw [if_pos hc6] at h
                refine gs_0 (pc' := 96) (L' := [some (.int l0)]) (st' := []) cd_73_1 rfl (sw_73_1_6 hc6) ?_
                refine gs_0 (pc' := 98) (L' := [some (.int l0)]) (st' := [.int 16]) cd_73_96 rfl rfl ?_
                cases h
                exact gs_ri cd_73_98 (Or.inl rfl)
              · rw [if_neg hc6] at h
                by_cases hc7 : l0 = 270
                · rw [if_pos hc7] at h
                  refine gs_0 (pc' := 90) (L' := [some (.int l0)]) (st' := []) cd_73_1 rfl (sw_73_1_7 hc7) ?_
                  refine gs_0 (pc' := 92) (L' := [some (.int l0)]) (st' := [.int 14]) cd_73_90 rfl rfl ?_
                  cases h
                  exact gs_ri cd_73_92 (Or.inl rfl)
                · rw [if_neg hc7] at h
                  by_cases hc8 : l0 = 271
                  · rw [if_pos hc8] at h
                    refine gs_0 (pc' := 87) (L' := [some (.int l0)]) (st' := []) cd_73_1 rfl (sw_73_1_8 hc8) ?_
                    refine gs_0 (pc' := 89) (L' := [some (.int l0)]) (st' := [.int 13]) cd_73_87 rfl rfl ?_
                    cases h
                    exact gs_ri cd_73_89 (Or.inl rfl)
                  · rw [if_neg hc8] at h
                    refine gs_0 (pc' := 111) (L' := [some (.int l0)]) (st' := []) cd_73_1 rfl (sw_73_1_d hc0 hc1 hc2 hc3 hc4 hc5 hc6 hc7 hc8) ?_
                    refine gs_0 (pc' := 112) (L' := [some (.int l0)]) (st' := [.int ((-1))]) cd_73_111 rfl rfl ?_
                    cases h
                    exact gs_ri cd_73_112 (Or.inl rfl)
theorem cl_73 {K : Nat → Value} {k d : Nat} {l0 : Int32} {w : aW} {I : aI} {J : aJ} {R : aR} (h : f_73 K k d l0 w I J = some R) : Cl K (d + 1) 73 [.int l0] w I J = some R := Cl_of (ok_73 h)
/-! ProvedMachine$Reader.readAssignment()V -/
theorem gl_74 : gcd.lookup 74 = some gw_74 := rfl
set_option maxRecDepth 20000 in
theorem cd_74_0 : sm_cd 74 0 = some (.aload_n 0, 1, 0, 0, 0, 0, 0, 0, 0) := cd_of gl_74 rfl
set_option maxRecDepth 20000 in
theorem cd_74_1 : sm_cd 74 1 = some (.getfield 12, 3, 2, 0, 2, 0, 0, 0, 0) := cd_of gl_74 rfl
set_option maxRecDepth 20000 in
theorem cd_74_4 : sm_cd 74 4 = some (.invokevirtual 78, 3, 44, 0, 0, 1, 4, 0, 0) := cd_of gl_74 rfl
set_option maxRecDepth 20000 in
theorem cd_74_7 : sm_cd 74 7 = some (.istore_n 1, 1, 1, 0, 0, 0, 0, 0, 0) := cd_of gl_74 rfl
set_option maxRecDepth 20000 in
theorem cd_74_8 : sm_cd 74 8 = some (.aload_n 0, 1, 0, 0, 0, 0, 0, 0, 0) := cd_of gl_74 rfl
set_option maxRecDepth 20000 in
theorem cd_74_9 : sm_cd 74 9 = some (.aload_n 0, 1, 0, 0, 0, 0, 0, 0, 0) := cd_of gl_74 rfl
set_option maxRecDepth 20000 in
theorem cd_74_10 : sm_cd 74 10 = some (.getfield 12, 3, 2, 0, 2, 0, 0, 0, 0) := cd_of gl_74 rfl
set_option maxRecDepth 20000 in
theorem cd_74_13 : sm_cd 74 13 = some (.invokevirtual 129, 3, 45, 0, 0, 2, 4, 0, 0) := cd_of gl_74 rfl
set_option maxRecDepth 20000 in
theorem cd_74_16 : sm_cd 74 16 = some (.invokevirtual 188, 3, 53, 0, 1, 2, 2, 0, 0) := cd_of gl_74 rfl
set_option maxRecDepth 20000 in
theorem cd_74_19 : sm_cd 74 19 = some (.istore_n 2, 1, 2, 0, 0, 0, 0, 0, 0) := cd_of gl_74 rfl
set_option maxRecDepth 20000 in
theorem cd_74_20 : sm_cd 74 20 = some (.iload_n 2, 1, 2, 0, 0, 0, 0, 0, 0) := cd_of gl_74 rfl
set_option maxRecDepth 20000 in
theorem cd_74_21 : sm_cd 74 21 = some (.ifCond .ge 8, 3, 29, 0, 0, 0, 0, 0, 0) := cd_of gl_74 rfl
set_option maxRecDepth 20000 in
theorem cd_74_24 : sm_cd 74 24 = some (.aload_n 0, 1, 0, 0, 0, 0, 0, 0, 0) := cd_of gl_74 rfl
set_option maxRecDepth 20000 in
theorem cd_74_25 : sm_cd 74 25 = some (.iload_n 1, 1, 1, 0, 0, 0, 0, 0, 0) := cd_of gl_74 rfl
set_option maxRecDepth 20000 in
theorem cd_74_26 : sm_cd 74 26 = some (.invokevirtual 113, 3, 48, 0, 1, 2, 2, 0, 0) := cd_of gl_74 rfl
set_option maxRecDepth 20000 in
theorem cd_74_29 : sm_cd 74 29 = some (.aload_n 0, 1, 0, 0, 0, 0, 0, 0, 0) := cd_of gl_74 rfl
set_option maxRecDepth 20000 in
theorem cd_74_30 : sm_cd 74 30 = some (.getfield 21, 3, 2, 1, 2, 0, 0, 0, 0) := cd_of gl_74 rfl
set_option maxRecDepth 20000 in
theorem cd_74_33 : sm_cd 74 33 = some (.aload_n 0, 1, 0, 0, 0, 0, 0, 0, 0) := cd_of gl_74 rfl
set_option maxRecDepth 20000 in
theorem cd_74_34 : sm_cd 74 34 = some (.getfield 25, 3, 2, 2, 0, 0, 0, 0, 0) := cd_of gl_74 rfl
set_option maxRecDepth 20000 in
theorem cd_74_37 : sm_cd 74 37 = some (.iload_n 2, 1, 2, 0, 0, 0, 0, 0, 0) := cd_of gl_74 rfl
set_option maxRecDepth 20000 in
theorem cd_74_38 : sm_cd 74 38 = some (.invokevirtual 191, 3, 70, 0, 2, 4, 1, 0, 0) := cd_of gl_74 rfl
set_option maxRecDepth 20000 in
theorem cd_74_41 : sm_cd 74 41 = some (.istore_n 3, 1, 3, 0, 0, 0, 0, 0, 0) := cd_of gl_74 rfl
set_option maxRecDepth 20000 in
theorem cd_74_42 : sm_cd 74 42 = some (.aload_n 0, 1, 0, 0, 0, 0, 0, 0, 0) := cd_of gl_74 rfl
set_option maxRecDepth 20000 in
theorem cd_74_43 : sm_cd 74 43 = some (.getfield 12, 3, 2, 0, 2, 0, 0, 0, 0) := cd_of gl_74 rfl
set_option maxRecDepth 20000 in
theorem cd_74_46 : sm_cd 74 46 = some (.invokevirtual 93, 3, 37, 0, 0, 1, 4, 0, 0) := cd_of gl_74 rfl
set_option maxRecDepth 20000 in
theorem cd_74_49 : sm_cd 74 49 = some (.bipush 91, 2, 0, 0, 0, 0, 0, 91, 0) := cd_of gl_74 rfl
set_option maxRecDepth 20000 in
theorem cd_74_51 : sm_cd 74 51 = some (.if_icmp .ne 7, 3, 58, 0, 0, 0, 0, 0, 0) := cd_of gl_74 rfl
set_option maxRecDepth 20000 in
theorem cd_74_54 : sm_cd 74 54 = some (.iconst 1, 1, 0, 0, 0, 0, 0, 1, 0) := cd_of gl_74 rfl
set_option maxRecDepth 20000 in
theorem cd_74_55 : sm_cd 74 55 = some (.goto 4, 3, 59, 0, 0, 0, 0, 0, 0) := cd_of gl_74 rfl
set_option maxRecDepth 20000 in
theorem cd_74_58 : sm_cd 74 58 = some (.iconst 0, 1, 0, 0, 0, 0, 0, 0, 0) := cd_of gl_74 rfl
set_option maxRecDepth 20000 in
theorem cd_74_59 : sm_cd 74 59 = some (.istore 4, 2, 4, 0, 0, 0, 0, 0, 0) := cd_of gl_74 rfl
set_option maxRecDepth 20000 in
theorem cd_74_61 : sm_cd 74 61 = some (.iload 4, 2, 4, 0, 0, 0, 0, 0, 0) := cd_of gl_74 rfl
set_option maxRecDepth 20000 in
theorem cd_74_63 : sm_cd 74 63 = some (.ifCond .eq 33, 3, 96, 0, 0, 0, 0, 0, 0) := cd_of gl_74 rfl
set_option maxRecDepth 20000 in
theorem cd_74_66 : sm_cd 74 66 = some (.aload_n 0, 1, 0, 0, 0, 0, 0, 0, 0) := cd_of gl_74 rfl
set_option maxRecDepth 20000 in
theorem cd_74_67 : sm_cd 74 67 = some (.iconst 3, 1, 0, 0, 0, 0, 0, 3, 0) := cd_of gl_74 rfl
set_option maxRecDepth 20000 in
theorem cd_74_68 : sm_cd 74 68 = some (.iload_n 2, 1, 2, 0, 0, 0, 0, 0, 0) := cd_of gl_74 rfl
set_option maxRecDepth 20000 in
theorem cd_74_69 : sm_cd 74 69 = some (.iconst 0, 1, 0, 0, 0, 0, 0, 0, 0) := cd_of gl_74 rfl
set_option maxRecDepth 20000 in
theorem cd_74_70 : sm_cd 74 70 = some (.iload_n 3, 1, 3, 0, 0, 0, 0, 0, 0) := cd_of gl_74 rfl
set_option maxRecDepth 20000 in
theorem cd_74_71 : sm_cd 74 71 = some (.invokevirtual 149, 3, 58, 0, 4, 5, 2, 0, 0) := cd_of gl_74 rfl
set_option maxRecDepth 20000 in
theorem cd_74_74 : sm_cd 74 74 = some (.aload_n 0, 1, 0, 0, 0, 0, 0, 0, 0) := cd_of gl_74 rfl
set_option maxRecDepth 20000 in
theorem cd_74_75 : sm_cd 74 75 = some (.getfield 12, 3, 2, 0, 2, 0, 0, 0, 0) := cd_of gl_74 rfl
set_option maxRecDepth 20000 in
theorem cd_74_78 : sm_cd 74 78 = some (.invokevirtual 146, 3, 42, 0, 0, 1, 4, 0, 0) := cd_of gl_74 rfl
set_option maxRecDepth 20000 in
theorem cd_74_81 : sm_cd 74 81 = some (.aload_n 0, 1, 0, 0, 0, 0, 0, 0, 0) := cd_of gl_74 rfl
set_option maxRecDepth 20000 in
theorem cd_74_82 : sm_cd 74 82 = some (.iconst 0, 1, 0, 0, 0, 0, 0, 0, 0) := cd_of gl_74 rfl
set_option maxRecDepth 20000 in
theorem cd_74_83 : sm_cd 74 83 = some (.iconst 0, 1, 0, 0, 0, 0, 0, 0, 0) := cd_of gl_74 rfl
set_option maxRecDepth 20000 in
theorem cd_74_84 : sm_cd 74 84 = some (.invokevirtual 177, 3, 63, 0, 2, 9, 2, 0, 0) := cd_of gl_74 rfl
set_option maxRecDepth 20000 in
theorem cd_74_87 : sm_cd 74 87 = some (.aload_n 0, 1, 0, 0, 0, 0, 0, 0, 0) := cd_of gl_74 rfl
set_option maxRecDepth 20000 in
theorem cd_74_88 : sm_cd 74 88 = some (.getfield 12, 3, 2, 0, 2, 0, 0, 0, 0) := cd_of gl_74 rfl
set_option maxRecDepth 20000 in
theorem cd_74_91 : sm_cd 74 91 = some (.bipush 93, 2, 0, 0, 0, 0, 0, 93, 0) := cd_of gl_74 rfl
set_option maxRecDepth 20000 in
theorem cd_74_93 : sm_cd 74 93 = some (.invokevirtual 116, 3, 41, 0, 1, 2, 4, 0, 0) := cd_of gl_74 rfl
set_option maxRecDepth 20000 in
theorem cd_74_96 : sm_cd 74 96 = some (.aload_n 0, 1, 0, 0, 0, 0, 0, 0, 0) := cd_of gl_74 rfl
set_option maxRecDepth 20000 in
theorem cd_74_97 : sm_cd 74 97 = some (.getfield 12, 3, 2, 0, 2, 0, 0, 0, 0) := cd_of gl_74 rfl
set_option maxRecDepth 20000 in
theorem cd_74_100 : sm_cd 74 100 = some (.bipush 61, 2, 0, 0, 0, 0, 0, 61, 0) := cd_of gl_74 rfl
set_option maxRecDepth 20000 in
theorem cd_74_102 : sm_cd 74 102 = some (.invokevirtual 116, 3, 41, 0, 1, 2, 4, 0, 0) := cd_of gl_74 rfl
set_option maxRecDepth 20000 in
theorem cd_74_105 : sm_cd 74 105 = some (.aload_n 0, 1, 0, 0, 0, 0, 0, 0, 0) := cd_of gl_74 rfl
set_option maxRecDepth 20000 in
theorem cd_74_106 : sm_cd 74 106 = some (.iconst 0, 1, 0, 0, 0, 0, 0, 0, 0) := cd_of gl_74 rfl
set_option maxRecDepth 20000 in
theorem cd_74_107 : sm_cd 74 107 = some (.iconst 0, 1, 0, 0, 0, 0, 0, 0, 0) := cd_of gl_74 rfl
set_option maxRecDepth 20000 in
theorem cd_74_108 : sm_cd 74 108 = some (.invokevirtual 177, 3, 63, 0, 2, 9, 2, 0, 0) := cd_of gl_74 rfl
set_option maxRecDepth 20000 in
theorem cd_74_111 : sm_cd 74 111 = some (.aload_n 0, 1, 0, 0, 0, 0, 0, 0, 0) := cd_of gl_74 rfl
set_option maxRecDepth 20000 in
theorem cd_74_112 : sm_cd 74 112 = some (.getfield 12, 3, 2, 0, 2, 0, 0, 0, 0) := cd_of gl_74 rfl
set_option maxRecDepth 20000 in
theorem cd_74_115 : sm_cd 74 115 = some (.bipush 59, 2, 0, 0, 0, 0, 0, 59, 0) := cd_of gl_74 rfl
set_option maxRecDepth 20000 in
theorem cd_74_117 : sm_cd 74 117 = some (.invokevirtual 116, 3, 41, 0, 1, 2, 4, 0, 0) := cd_of gl_74 rfl
set_option maxRecDepth 20000 in
theorem cd_74_120 : sm_cd 74 120 = some (.iload 4, 2, 4, 0, 0, 0, 0, 0, 0) := cd_of gl_74 rfl
set_option maxRecDepth 20000 in
theorem cd_74_122 : sm_cd 74 122 = some (.ifCond .eq 50, 3, 172, 0, 0, 0, 0, 0, 0) := cd_of gl_74 rfl
set_option maxRecDepth 20000 in
theorem cd_74_125 : sm_cd 74 125 = some (.iload_n 3, 1, 3, 0, 0, 0, 0, 0, 0) := cd_of gl_74 rfl
set_option maxRecDepth 20000 in
theorem cd_74_126 : sm_cd 74 126 = some (.iconst 2, 1, 0, 0, 0, 0, 0, 2, 0) := cd_of gl_74 rfl
set_option maxRecDepth 20000 in
theorem cd_74_127 : sm_cd 74 127 = some (.if_icmp .ne 23, 3, 150, 0, 0, 0, 0, 0, 0) := cd_of gl_74 rfl
set_option maxRecDepth 20000 in
theorem cd_74_130 : sm_cd 74 130 = some (.aload_n 0, 1, 0, 0, 0, 0, 0, 0, 0) := cd_of gl_74 rfl
set_option maxRecDepth 20000 in
theorem cd_74_131 : sm_cd 74 131 = some (.iconst 2, 1, 0, 0, 0, 0, 0, 2, 0) := cd_of gl_74 rfl
set_option maxRecDepth 20000 in
theorem cd_74_132 : sm_cd 74 132 = some (.invokevirtual 181, 3, 67, 0, 1, 2, 2, 0, 0) := cd_of gl_74 rfl
set_option maxRecDepth 20000 in
theorem cd_74_135 : sm_cd 74 135 = some (.ifCond .ne 15, 3, 150, 0, 0, 0, 0, 0, 0) := cd_of gl_74 rfl
set_option maxRecDepth 20000 in
theorem cd_74_138 : sm_cd 74 138 = some (.aload_n 0, 1, 0, 0, 0, 0, 0, 0, 0) := cd_of gl_74 rfl
set_option maxRecDepth 20000 in
theorem cd_74_139 : sm_cd 74 139 = some (.iconst 1, 1, 0, 0, 0, 0, 0, 1, 0) := cd_of gl_74 rfl
set_option maxRecDepth 20000 in
theorem cd_74_140 : sm_cd 74 140 = some (.invokevirtual 181, 3, 67, 0, 1, 2, 2, 0, 0) := cd_of gl_74 rfl
set_option maxRecDepth 20000 in
theorem cd_74_143 : sm_cd 74 143 = some (.ifCond .ne 7, 3, 150, 0, 0, 0, 0, 0, 0) := cd_of gl_74 rfl
set_option maxRecDepth 20000 in
theorem cd_74_146 : sm_cd 74 146 = some (.iconst 1, 1, 0, 0, 0, 0, 0, 1, 0) := cd_of gl_74 rfl
set_option maxRecDepth 20000 in
theorem cd_74_147 : sm_cd 74 147 = some (.goto 4, 3, 151, 0, 0, 0, 0, 0, 0) := cd_of gl_74 rfl
set_option maxRecDepth 20000 in
theorem cd_74_150 : sm_cd 74 150 = some (.iconst 0, 1, 0, 0, 0, 0, 0, 0, 0) := cd_of gl_74 rfl
set_option maxRecDepth 20000 in
theorem cd_74_151 : sm_cd 74 151 = some (.istore 5, 2, 5, 0, 0, 0, 0, 0, 0) := cd_of gl_74 rfl
set_option maxRecDepth 20000 in
theorem cd_74_153 : sm_cd 74 153 = some (.aload_n 0, 1, 0, 0, 0, 0, 0, 0, 0) := cd_of gl_74 rfl
set_option maxRecDepth 20000 in
theorem cd_74_154 : sm_cd 74 154 = some (.iload 5, 2, 5, 0, 0, 0, 0, 0, 0) := cd_of gl_74 rfl
set_option maxRecDepth 20000 in
theorem cd_74_156 : sm_cd 74 156 = some (.iload_n 1, 1, 1, 0, 0, 0, 0, 0, 0) := cd_of gl_74 rfl
set_option maxRecDepth 20000 in
theorem cd_74_157 : sm_cd 74 157 = some (.invokevirtual 184, 3, 68, 0, 2, 3, 2, 0, 0) := cd_of gl_74 rfl
set_option maxRecDepth 20000 in
theorem cd_74_160 : sm_cd 74 160 = some (.aload_n 0, 1, 0, 0, 0, 0, 0, 0, 0) := cd_of gl_74 rfl
set_option maxRecDepth 20000 in
theorem cd_74_161 : sm_cd 74 161 = some (.bipush 22, 2, 0, 0, 0, 0, 0, 22, 0) := cd_of gl_74 rfl
set_option maxRecDepth 20000 in
theorem cd_74_163 : sm_cd 74 163 = some (.iconst 0, 1, 0, 0, 0, 0, 0, 0, 0) := cd_of gl_74 rfl
set_option maxRecDepth 20000 in
theorem cd_74_164 : sm_cd 74 164 = some (.iconst 3, 1, 0, 0, 0, 0, 0, 3, 0) := cd_of gl_74 rfl
set_option maxRecDepth 20000 in
theorem cd_74_165 : sm_cd 74 165 = some (.iconst (-1), 1, 0, 0, 0, 0, 0, (-1), 0) := cd_of gl_74 rfl
set_option maxRecDepth 20000 in
theorem cd_74_166 : sm_cd 74 166 = some (.invokevirtual 149, 3, 58, 0, 4, 5, 2, 0, 0) := cd_of gl_74 rfl
set_option maxRecDepth 20000 in
theorem cd_74_169 : sm_cd 74 169 = some (.goto 31, 3, 200, 0, 0, 0, 0, 0, 0) := cd_of gl_74 rfl
set_option maxRecDepth 20000 in
theorem cd_74_172 : sm_cd 74 172 = some (.aload_n 0, 1, 0, 0, 0, 0, 0, 0, 0) := cd_of gl_74 rfl
set_option maxRecDepth 20000 in
theorem cd_74_173 : sm_cd 74 173 = some (.aload_n 0, 1, 0, 0, 0, 0, 0, 0, 0) := cd_of gl_74 rfl
set_option maxRecDepth 20000 in
theorem cd_74_174 : sm_cd 74 174 = some (.iconst 1, 1, 0, 0, 0, 0, 0, 1, 0) := cd_of gl_74 rfl
set_option maxRecDepth 20000 in
theorem cd_74_175 : sm_cd 74 175 = some (.invokevirtual 181, 3, 67, 0, 1, 2, 2, 0, 0) := cd_of gl_74 rfl
set_option maxRecDepth 20000 in
theorem cd_74_178 : sm_cd 74 178 = some (.iload_n 3, 1, 3, 0, 0, 0, 0, 0, 0) := cd_of gl_74 rfl
set_option maxRecDepth 20000 in
theorem cd_74_179 : sm_cd 74 179 = some (.if_icmp .ne 7, 3, 186, 0, 0, 0, 0, 0, 0) := cd_of gl_74 rfl
set_option maxRecDepth 20000 in
theorem cd_74_182 : sm_cd 74 182 = some (.iconst 1, 1, 0, 0, 0, 0, 0, 1, 0) := cd_of gl_74 rfl
set_option maxRecDepth 20000 in
theorem cd_74_183 : sm_cd 74 183 = some (.goto 4, 3, 187, 0, 0, 0, 0, 0, 0) := cd_of gl_74 rfl
set_option maxRecDepth 20000 in
theorem cd_74_186 : sm_cd 74 186 = some (.iconst 0, 1, 0, 0, 0, 0, 0, 0, 0) := cd_of gl_74 rfl
set_option maxRecDepth 20000 in
theorem cd_74_187 : sm_cd 74 187 = some (.iload_n 1, 1, 1, 0, 0, 0, 0, 0, 0) := cd_of gl_74 rfl
set_option maxRecDepth 20000 in
theorem cd_74_188 : sm_cd 74 188 = some (.invokevirtual 184, 3, 68, 0, 2, 3, 2, 0, 0) := cd_of gl_74 rfl
set_option maxRecDepth 20000 in
theorem cd_74_191 : sm_cd 74 191 = some (.aload_n 0, 1, 0, 0, 0, 0, 0, 0, 0) := cd_of gl_74 rfl
set_option maxRecDepth 20000 in
theorem cd_74_192 : sm_cd 74 192 = some (.bipush 21, 2, 0, 0, 0, 0, 0, 21, 0) := cd_of gl_74 rfl
set_option maxRecDepth 20000 in
theorem cd_74_194 : sm_cd 74 194 = some (.iload_n 2, 1, 2, 0, 0, 0, 0, 0, 0) := cd_of gl_74 rfl
set_option maxRecDepth 20000 in
theorem cd_74_195 : sm_cd 74 195 = some (.iconst 1, 1, 0, 0, 0, 0, 0, 1, 0) := cd_of gl_74 rfl
set_option maxRecDepth 20000 in
theorem cd_74_196 : sm_cd 74 196 = some (.iconst (-1), 1, 0, 0, 0, 0, 0, (-1), 0) := cd_of gl_74 rfl
set_option maxRecDepth 20000 in
theorem cd_74_197 : sm_cd 74 197 = some (.invokevirtual 149, 3, 58, 0, 4, 5, 2, 0, 0) := cd_of gl_74 rfl
set_option maxRecDepth 20000 in
theorem cd_74_200 : sm_cd 74 200 = some (.return_, 1, 0, 0, 0, 0, 0, 0, 0) := cd_of gl_74 rfl
noncomputable def f_74_187 (K : Nat → Value) (k d : Nat) (l0 : Nat) (l1 : Int32) (l2 : Int32) (l3 : Int32) (l4 : Int32) (s0 : Nat) (s1 : Int32) (w : aW) (I : aI) (J : aJ) : Option aR :=
  gO w 2 s0 (
  cV (Cl K d 68 [.ref s0, .int s1, .int l1] w I J) fun w_1 I_2 J_3 =>
  gO w_1 2 l0 (
  cV (Cl K d 58 [.ref l0, .int 21, .int l2, .int 1, .int ((-1))] w_1 I_2 J_3) fun w_4 I_5 J_6 =>
  some (none, w_4, I_5, J_6)))
theorem ok_74_187 {K : Nat → Value} {k d : Nat} {l0 : Nat} {l1 : Int32} {l2 : Int32} {l3 : Int32} {l4 : Int32} {s0 : Nat} {s1 : Int32} {w : aW} {I : aI} {J : aJ} {R : aR} (h : f_74_187 K k d l0 l1 l2 l3 l4 s0 s1 w I J = some R) : Go K (d + 1) 74 187 [some (.ref l0), some (.int l1), some (.int l2), some (.int l3), some (.int l4), none] [.int s1, .ref s0] w I J R := by
  unfold f_74_187 at h
  refine gs_0 (pc' := 188) (L' := [some (.ref l0), some (.int l1), some (.int l2), some (.int l3), some (.int l4), none]) (st' := [.int l1, .int s1, .ref s0]) cd_74_187 rfl rfl ?_
  obtain ⟨ht, h⟩ := gO_s h
  obtain ⟨w_1, I_2, J_3, hcl, h⟩ := cV_s h
  refine gs_call (as := [.ref s0, .int s1, .int l1]) (rest := []) cd_74_188 rfl (by decide) rfl (sm_rv_ok (by decide) ht) (Nat.le_of_ble_eq_true rfl) (Nat.le_of_ble_eq_true rfl) rfl hcl ?_
  refine gs_0 (pc' := 192) (L' := [some (.ref l0), some (.int l1), some (.int l2), some (.int l3), some (.int l4), none]) (st' := [.ref l0]) cd_74_191 rfl rfl ?_
  refine gs_0 (pc' := 194) (L' := [some (.ref l0), some (.int l1), some (.int l2), some (.int l3), some (.int l4), none]) (st' := [.int 21, .ref l0]) cd_74_192 rfl rfl ?_
  refine gs_0 (pc' := 195) (L' := [some (.ref l0), some (.int l1), some (.int l2), some (.int l3), some (.int l4), none]) (st' := [.int l2, .int 21, .ref l0]) cd_74_194 rfl rfl ?_
  refine gs_0 (pc' := 196) (L' := [some (.ref l0), some (.int l1), some (.int l2), some (.int l3), some (.int l4), none]) (st' := [.int 1, .int l2, .int 21, .ref l0]) cd_74_195 rfl rfl ?_
  refine gs_0 (pc' := 197) (L' := [some (.ref l0), some (.int l1), some (.int l2), some (.int l3), some (.int l4), none]) (st' := [.int ((-1)), .int 1, .int l2, .int 21, .ref l0]) cd_74_196 rfl rfl ?_
  obtain ⟨ht, h⟩ := gO_s h
  obtain ⟨w_4, I_5, J_6, hcl, h⟩ := cV_s h
  refine gs_call (as := [.ref l0, .int 21, .int l2, .int 1, .int ((-1))]) (rest := []) cd_74_197 rfl (by decide) rfl (sm_rv_ok (by decide) ht) (Nat.le_of_ble_eq_true rfl) (Nat.le_of_ble_eq_true rfl) rfl hcl ?_
  cases h
  exact gsr cd_74_200 rfl rfl
noncomputable def f_74_151 (K : Nat → Value) (k d : Nat) (l0 : Nat) (l1 : Int32) (l2 : Int32) (l3 : Int32) (l4 : Int32) (s0 : Int32) (w : aW) (I : aI) (J : aJ) : Option aR :=
  gO w 2 l0 (
  cV (Cl K d 68 [.ref l0, .int s0, .int l1] w I J) fun w_1 I_2 J_3 =>
  gO w_1 2 l0 (
  cV (Cl K d 58 [.ref l0, .int 22, .int 0, .int 3, .int ((-1))] w_1 I_2 J_3) fun w_4 I_5 J_6 =>
  some (none, w_4, I_5, J_6)))
theorem ok_74_151 {K : Nat → Value} {k d : Nat} {l0 : Nat} {l1 : Int32} {l2 : Int32} {l3 : Int32} {l4 : Int32} {s0 : Int32} {w : aW} {I : aI} {J : aJ} {R : aR} (h : f_74_151 K k d l0 l1 l2 l3 l4 s0 w I J = some R) : Go K (d + 1) 74 151 [some (.ref l0), some (.int l1), some (.int l2), some (.int l3), some (.int l4), none] [.int s0] w I J R := by
  unfold f_74_151 at h
  refine gs_0 (pc' := 153) (L' := [some (.ref l0), some (.int l1), some (.int l2), some (.int l3), some (.int l4), some (.int s0)]) (st' := []) cd_74_151 rfl rfl ?_
  refine gs_0 (pc' := 154) (L' := [some (.ref l0), some (.int l1), some (.int l2), some (.int l3), some (.int l4), some (.int s0)]) (st' := [.ref l0]) cd_74_153 rfl rfl ?_
  refine gs_0 (pc' := 156) (L' := [some (.ref l0), some (.int l1), some (.int l2), some (.int l3), some (.int l4), some (.int s0)]) (st' := [.int s0, .ref l0]) cd_74_154 rfl rfl ?_
  refine gs_0 (pc' := 157) (L' := [some (.ref l0), some (.int l1), some (.int l2), some (.int l3), some (.int l4), some (.int s0)]) (st' := [.int l1, .int s0, .ref l0]) cd_74_156 rfl rfl ?_
  obtain ⟨ht, h⟩ := gO_s h
  obtain ⟨w_1, I_2, J_3, hcl, h⟩ := cV_s h
  refine gs_call (as := [.ref l0, .int s0, .int l1]) (rest := []) cd_74_157 rfl (by decide) rfl (sm_rv_ok (by decide) ht) (Nat.le_of_ble_eq_true rfl) (Nat.le_of_ble_eq_true rfl) rfl hcl ?_
  refine gs_0 (pc' := 161) (L' := [some (.ref l0), some (.int l1), some (.int l2), some (.int l3), some (.int l4), some (.int s0)]) (st' := [.ref l0]) cd_74_160 rfl rfl ?_
  refine gs_0 (pc' := 163) (L' := [some (.ref l0), some (.int l1), some (.int l2), some (.int l3), some (.int l4), some (.int s0)]) (st' := [.int 22, .ref l0]) cd_74_161 rfl rfl ?_
  refine gs_0 (pc' := 164) (L' := [some (.ref l0), some (.int l1), some (.int l2), some (.int l3), some (.int l4), some (.int s0)]) (st' := [.int 0, .int 22, .ref l0]) cd_74_163 rfl rfl ?_
  refine gs_0 (pc' := 165) (L' := [some (.ref l0), some (.int l1), some (.int l2), some (.int l3), some (.int l4), some (.int s0)]) (st' := [.int 3, .int 0, .int 22, .ref l0]) cd_74_164 rfl rfl ?_
  refine gs_0 (pc' := 166) (L' := [some (.ref l0), some (.int l1), some (.int l2), some (.int l3), some (.int l4), some (.int s0)]) (st' := [.int ((-1)), .int 3, .int 0, .int 22, .ref l0]) cd_74_165 rfl rfl ?_
  obtain ⟨ht, h⟩ := gO_s h
  obtain ⟨w_4, I_5, J_6, hcl, h⟩ := cV_s h
  refine gs_call (as := [.ref l0, .int 22, .int 0, .int 3, .int ((-1))]) (rest := []) cd_74_166 rfl (by decide) rfl (sm_rv_ok (by decide) ht) (Nat.le_of_ble_eq_true rfl) (Nat.le_of_ble_eq_true rfl) rfl hcl ?_
  refine gs_0 (pc' := 200) (L' := [some (.ref l0), some (.int l1), some (.int l2), some (.int l3), some (.int l4), some (.int s0)]) (st' := []) cd_74_169 rfl rfl ?_
  cases h
  exact gsr cd_74_200 rfl rfl
noncomputable def f_74_150 (K : Nat → Value) (k d : Nat) (l0 : Nat) (l1 : Int32) (l2 : Int32) (l3 : Int32) (l4 : Int32) (w : aW) (I : aI) (J : aJ) : Option aR :=
  f_74_151 K k d l0 l1 l2 l3 l4 0 w I J
theorem ok_74_150 {K : Nat → Value} {k d : Nat} {l0 : Nat} {l1 : Int32} {l2 : Int32} {l3 : Int32} {l4 : Int32} {w : aW} {I : aI} {J : aJ} {R : aR} (h : f_74_150 K k d l0 l1 l2 l3 l4 w I J = some R) : Go K (d + 1) 74 150 [some (.ref l0), some (.int l1), some (.int l2), some (.int l3), some (.int l4), none] [] w I J R := by
  unfold f_74_150 at h
  refine gs_0 (pc' := 151) (L' := [some (.ref l0), some (.int l1), some (.int l2), some (.int l3), some (.int l4), none]) (st' := [.int 0]) cd_74_150 rfl rfl ?_
  exact ok_74_151 h
noncomputable def f_74_96 (K : Nat → Value) (k d : Nat) (l0 : Nat) (l1 : Int32) (l2 : Int32) (l3 : Int32) (l4 : Int32) (w : aW) (I : aI) (J : aJ) : Option aR :=
  gO w 2 l0 (
  gV w l0 0 fun q_1 =>
  gO w 4 q_1 (
  cV (Cl K d 41 [.ref q_1, .int 61] w I J) fun w_2 I_3 J_4 =>
  gO w_2 2 l0 (
  cV (Cl K d 63 [.ref l0, .int 0, .int 0] w_2 I_3 J_4) fun w_5 I_6 J_7 =>
  gO w_5 2 l0 (
  gV w_5 l0 0 fun q_8 =>
  gO w_5 4 q_8 (
  cV (Cl K d 41 [.ref q_8, .int 59] w_5 I_6 J_7) fun w_9 I_10 J_11 =>
  if l4 = 0 then
    gO w_9 2 l0 (
    cI (Cl K d 67 [.ref l0, .int 1] w_9 I_10 J_11) fun x_15 w_12 I_13 J_14 =>
    if ¬ x_15 = l3 then
      f_74_187 K k d l0 l1 l2 l3 l4 l0 0 w_12 I_13 J_14
    else
      f_74_187 K k d l0 l1 l2 l3 l4 l0 1 w_12 I_13 J_14)
  else
    if ¬ l3 = 2 then
      f_74_150 K k d l0 l1 l2 l3 l4 w_9 I_10 J_11
    else
      gO w_9 2 l0 (
      cI (Cl K d 67 [.ref l0, .int 2] w_9 I_10 J_11) fun x_19 w_16 I_17 J_18 =>
      if ¬ x_19 = 0 then
        f_74_150 K k d l0 l1 l2 l3 l4 w_16 I_17 J_18
      else
        gO w_16 2 l0 (
        cI (Cl K d 67 [.ref l0, .int 1] w_16 I_17 J_18) fun x_23 w_20 I_21 J_22 =>
        if ¬ x_23 = 0 then
          f_74_150 K k d l0 l1 l2 l3 l4 w_20 I_21 J_22
        else
          f_74_151 K k d l0 l1 l2 l3 l4 1 w_20 I_21 J_22)))))))
theorem ok_74_96 {K : Nat → Value} {k d : Nat} {l0 : Nat} {l1 : Int32} {l2 : Int32} {l3 : Int32} {l4 : Int32} {w : aW} {I : aI} {J : aJ} {R : aR} (h : f_74_96 K k d l0 l1 l2 l3 l4 w I J = some R) : Go K (d + 1) 74 96 [some (.ref l0), some (.int l1), some (.int l2), some (.int l3), some (.int l4), none] [] w I J R := by
  unfold f_74_96 at h
  refine gs_0 (pc' := 97) (L' := [some (.ref l0), some (.int l1), some (.int l2), some (.int l3), some (.int l4), none]) (st' := [.ref l0]) cd_74_96 rfl rfl ?_
  obtain ⟨ht, h⟩ := gO_s h
  obtain ⟨q_1, hv, h⟩ := gV_s h
  refine gs_gfR cd_74_97 (by decide) ht hv ?_
  refine gs_0 (pc' := 102) (L' := [some (.ref l0), some (.int l1), some (.int l2), some (.int l3), some (.int l4), none]) (st' := [.int 61, .ref q_1]) cd_74_100 rfl rfl ?_
  obtain ⟨ht, h⟩ := gO_s h
  obtain ⟨w_2, I_3, J_4, hcl, h⟩ := cV_s h
  refine gs_call (as := [.ref q_1, .int 61]) (rest := []) cd_74_102 rfl (by decide) rfl (sm_rv_ok (by decide) ht) (Nat.le_of_ble_eq_true rfl) (Nat.le_of_ble_eq_true rfl) rfl hcl ?_
  refine gs_0 (pc' := 106) (L' := [some (.ref l0), some (.int l1), some (.int l2), some (.int l3), some (.int l4), none]) (st' := [.ref l0]) cd_74_105 rfl rfl ?_
  refine gs_0 (pc' := 107) (L' := [some (.ref l0), some (.int l1), some (.int l2), some (.int l3), some (.int l4), none]) (st' := [.int 0, .ref l0]) cd_74_106 rfl rfl ?_
  refine gs_0 (pc' := 108) (L' := [some (.ref l0), some (.int l1), some (.int l2), some (.int l3), some (.int l4), none]) (st' := [.int 0, .int 0, .ref l0]) cd_74_107 rfl rfl ?_
  obtain ⟨ht, h⟩ := gO_s h
  obtain ⟨w_5, I_6, J_7, hcl, h⟩ := cV_s h
  refine gs_call (as := [.ref l0, .int 0, .int 0]) (rest := []) cd_74_108 rfl (by decide) rfl (sm_rv_ok (by decide) ht) (Nat.le_of_ble_eq_true rfl) (Nat.le_of_ble_eq_true rfl) rfl hcl ?_
  refine gs_0 (pc' := 112) (L' := [some (.ref l0), some (.int l1), some (.int l2), some (.int l3), some (.int l4), none]) (st' := [.ref l0]) cd_74_111 rfl rfl ?_
  obtain ⟨ht, h⟩ := gO_s h
  obtain ⟨q_8, hv, h⟩ := gV_s h
  refine gs_gfR cd_74_112 (by decide) ht hv ?_
  refine gs_0 (pc' := 117) (L' := [some (.ref l0), some (.int l1), some (.int l2), some (.int l3), some (.int l4), none]) (st' := [.int 59, .ref q_8]) cd_74_115 rfl rfl ?_
  obtain ⟨ht, h⟩ := gO_s h
  obtain ⟨w_9, I_10, J_11, hcl, h⟩ := cV_s h
  refine gs_call (as := [.ref q_8, .int 59]) (rest := []) cd_74_117 rfl (by decide) rfl (sm_rv_ok (by decide) ht) (Nat.le_of_ble_eq_true rfl) (Nat.le_of_ble_eq_true rfl) rfl hcl ?_
  refine gs_0 (pc' := 122) (L' := [some (.ref l0), some (.int l1), some (.int l2), some (.int l3), some (.int l4), none]) (st' := [.int l4]) cd_74_120 rfl rfl ?_
  refine gs_0 (pc' := if l4 = 0 then 172 else 125) (L' := [some (.ref l0), some (.int l1), some (.int l2), some (.int l3), some (.int l4), none]) (st' := []) cd_74_122 rfl rfl ?_
  refine go_ite (fun hc => ?_) (fun hc => ?_)
  · rw [if_pos hc] at h
    refine gs_0 (pc' := 173) (L' := [some (.ref l0), some (.int l1), some (.int l2), some (.int l3), some (.int l4), none]) (st' := [.ref l0]) cd_74_172 rfl rfl ?_
    refine gs_0 (pc' := 174) (L' := [some (.ref l0), some (.int l1), some (.int l2), some (.int l3), some (.int l4), none]) (st' := [.ref l0, .ref l0]) cd_74_173 rfl rfl ?_
    refine gs_0 (pc' := 175) (L' := [some (.ref l0), some (.int l1), some (.int l2), some (.int l3), some (.int l4), none]) (st' := [.int 1, .ref l0, .ref l0]) cd_74_174 rfl rfl ?_
    obtain ⟨ht, h⟩ := gO_s h
    obtain ⟨x_15, w_12, I_13, J_14, hcl, h⟩ := cI_s h
    refine gs_call (as := [.ref l0, .int 1]) (rest := [.ref l0]) cd_74_175 rfl (by decide) rfl (sm_rv_ok (by decide) ht) (Nat.le_of_ble_eq_true rfl) (Nat.le_of_ble_eq_true rfl) rfl hcl ?_
    refine gs_0 (pc' := 179) (L' := [some (.ref l0), some (.int l1), some (.int l2), some (.int l3), some (.int l4), none]) (st' := [.int l3, .int x_15, .ref l0]) cd_74_178 rfl rfl ?_
    refine gs_0 (pc' := if ¬ x_15 = l3 then 186 else 182) (L' := [some (.ref l0), some (.int l1), some (.int l2), some (.int l3), some (.int l4), none]) (st' := [.ref l0]) cd_74_179 rfl rfl ?_
    refine go_ite (fun hc => ?_) (fun hc => ?_)
    · rw [if_pos hc] at h
      refine gs_0 (pc' := 187) (L' := [some (.ref l0), some (.int l1), some (.int l2), some (.int l3), some (.int l4), none]) (st' := [.int 0, .ref l0]) cd_74_186 rfl rfl ?_
      exact ok_74_187 h
    · rw [if_neg hc] at h
      refine gs_0 (pc' := 183) (L' := [some (.ref l0), some (.int l1), some (.int l2), some (.int l3), some (.int l4), none]) (st' := [.int 1, .ref l0]) cd_74_182 rfl rfl ?_
      refine gs_0 (pc' := 187) (L' := [some (.ref l0), some (.int l1), some (.int l2), some (.int l3), some (.int l4), none]) (st' := [.int 1, .ref l0]) cd_74_183 rfl rfl ?_
      exact ok_74_187 h
  · rw [if_neg hc] at h
    refine gs_0 (pc' := 126) (L' := [some (.ref l0), some (.int l1), some (.int l2), some (.int l3), some (.int l4), none]) (st' := [.int l3]) cd_74_125 rfl rfl ?_
    refine gs_0 (pc' := 127) (L' := [some (.ref l0), some (.int l1), some (.int l2), some (.int l3), some (.int l4), none]) (st' := [.int 2, .int l3]) cd_74_126 rfl rfl ?_
    refine gs_0 (pc' := if ¬ l3 = 2 then 150 else 130) (L' := [some (.ref l0), some (.int l1), some (.int l2), some (.int l3), some (.int l4), none]) (st' := []) cd_74_127 rfl rfl ?_
    refine go_ite (fun hc => ?_) (fun hc => ?_)
    · rw [if_pos hc] at h
      exact ok_74_150 h
    · rw [if_neg hc] at h
      refine gs_0 (pc' := 131) (L' := [some (.ref l0), some (.int l1), some (.int l2), some (.int l3), some (.int l4), none]) (st' := [.ref l0]) cd_74_130 rfl rfl ?_
      refine gs_0 (pc' := 132) (L' := [some (.ref l0), some (.int l1), some (.int l2), some (.int l3), some (.int l4), none]) (st' := [.int 2, .ref l0]) cd_74_131 rfl rfl ?_
      obtain ⟨ht, h⟩ := gO_s h
      obtain ⟨x_19, w_16, I_17, J_18, hcl, h⟩ := cI_s h
      refine gs_call (as := [.ref l0, .int 2]) (rest := []) cd_74_132 rfl (by decide) rfl (sm_rv_ok (by decide) ht) (Nat.le_of_ble_eq_true rfl) (Nat.le_of_ble_eq_true rfl) rfl hcl ?_
      refine gs_0 (pc' := if ¬ x_19 = 0 then 150 else 138) (L' := [some (.ref l0), some (.int l1), some (.int l2), some (.int l3), some (.int l4), none]) (st' := []) cd_74_135 rfl rfl ?_
      refine go_ite (fun hc => ?_) (fun hc => ?_)
      · rw [if_pos hc] at h
        exact ok_74_150 h
      · rw [if_neg hc] at h
        refine gs_0 (pc' := 139) (L' := [some (.ref l0), some (.int l1), some (.int l2), some (.int l3), some (.int l4), none]) (st' := [.ref l0]) cd_74_138 rfl rfl ?_
        refine gs_0 (pc' := 140) (L' := [some (.ref l0), some (.int l1), some (.int l2), some (.int l3), some (.int l4), none]) (st' := [.int 1, .ref l0]) cd_74_139 rfl rfl ?_
        obtain ⟨ht, h⟩ := gO_s h
        obtain ⟨x_23, w_20, I_21, J_22, hcl, h⟩ := cI_s h
        refine gs_call (as := [.ref l0, .int 1]) (rest := []) cd_74_140 rfl (by decide) rfl (sm_rv_ok (by decide) ht) (Nat.le_of_ble_eq_true rfl) (Nat.le_of_ble_eq_true rfl) rfl hcl ?_
        refine gs_0 (pc' := if ¬ x_23 = 0 then 150 else 146) (L' := [some (.ref l0), some (.int l1), some (.int l2), some (.int l3), some (.int l4), none]) (st' := []) cd_74_143 rfl rfl ?_
        refine go_ite (fun hc => ?_) (fun hc => ?_)
        · rw [if_pos hc] at h
          exact ok_74_150 h
        · rw [if_neg hc] at h
          refine gs_0 (pc' := 147) (L' := [some (.ref l0), some (.int l1), some (.int l2), some (.int l3), some (.int l4), none]) (st' := [.int 1]) cd_74_146 rfl rfl ?_
          refine gs_0 (pc' := 151) (L' := [some (.ref l0), some (.int l1), some (.int l2), some (.int l3), some (.int l4), none]) (st' := [.int 1]) cd_74_147 rfl rfl ?_
          exact ok_74_151 h
noncomputable def f_74_59 (K : Nat → Value) (k d : Nat) (l0 : Nat) (l1 : Int32) (l2 : Int32) (l3 : Int32) (s0 : Int32) (w : aW) (I : aI) (J : aJ) : Option aR :=
  if s0 = 0 then
    f_74_96 K k d l0 l1 l2 l3 s0 w I J
  else
    gO w 2 l0 (
    cV (Cl K d 58 [.ref l0, .int 3, .int l2, .int 0, .int l3] w I J) fun w_1 I_2 J_3 =>
    gO w_1 2 l0 (
    gV w_1 l0 0 fun q_4 =>
    gO w_1 4 q_4 (
    cV (Cl K d 42 [.ref q_4] w_1 I_2 J_3) fun w_5 I_6 J_7 =>
    gO w_5 2 l0 (
    cV (Cl K d 63 [.ref l0, .int 0, .int 0] w_5 I_6 J_7) fun w_8 I_9 J_10 =>
    gO w_8 2 l0 (
    gV w_8 l0 0 fun q_11 =>
    gO w_8 4 q_11 (
    cV (Cl K d 41 [.ref q_11, .int 93] w_8 I_9 J_10) fun w_12 I_13 J_14 =>
    f_74_96 K k d l0 l1 l2 l3 s0 w_12 I_13 J_14))))))
theorem ok_74_59 {K : Nat → Value} {k d : Nat} {l0 : Nat} {l1 : Int32} {l2 : Int32} {l3 : Int32} {s0 : Int32} {w : aW} {I : aI} {J : aJ} {R : aR} (h : f_74_59 K k d l0 l1 l2 l3 s0 w I J = some R) : Go K (d + 1) 74 59 [some (.ref l0), some (.int l1), some (.int l2), some (.int l3), none, none] [.int s0] w I J R := by
  unfold f_74_59 at h
  refine gs_0 (pc' := 61) (L' := [some (.ref l0), some (.int l1), some (.int l2), some (.int l3), some (.int s0), none]) (st' := []) cd_74_59 rfl rfl ?_
  refine gs_0 (pc' := 63) (L' := [some (.ref l0), some (.int l1), some (.int l2), some (.int l3), some (.int s0), none]) (st' := [.int s0]) cd_74_61 rfl rfl ?_
  refine gs_0 (pc' := if s0 = 0 then 96 else 66) (L' := [some (.ref l0), some (.int l1), some (.int l2), some (.int l3), some (.int s0), none]) (st' := []) cd_74_63 rfl rfl ?_
  refine go_ite (fun hc => ?_) (fun hc => ?_)
  · rw [if_pos hc] at h
    exact ok_74_96 h
  · rw [if_neg hc] at h
    refine gs_0 (pc' := 67) (L' := [some (.ref l0), some (.int l1), some (.int l2), some (.int l3), some (.int s0), none]) (st' := [.ref l0]) cd_74_66 rfl rfl ?_
    refine gs_0 (pc' := 68) (L' := [some (.ref l0), some (.int l1), some (.int l2), some (.int l3), some (.int s0), none]) (st' := [.int 3, .ref l0]) cd_74_67 rfl rfl ?_
    refine gs_0 (pc' := 69) (L' := [some (.ref l0), some (.int l1), some (.int l2), some (.int l3), some (.int s0), none]) (st' := [.int l2, .int 3, .ref l0]) cd_74_68 rfl rfl ?_
    refine gs_0 (pc' := 70) (L' := [some (.ref l0), some (.int l1), some (.int l2), some (.int l3), some (.int s0), none]) (st' := [.int 0, .int l2, .int 3, .ref l0]) cd_74_69 rfl rfl ?_
    refine gs_0 (pc' := 71) (L' := [some (.ref l0), some (.int l1), some (.int l2), some (.int l3), some (.int s0), none]) (st' := [.int l3, .int 0, .int l2, .int 3, .ref l0]) cd_74_70 rfl rfl ?_
    obtain ⟨ht, h⟩ := gO_s h
    obtain ⟨w_1, I_2, J_3, hcl, h⟩ := cV_s h
    refine gs_call (as := [.ref l0, .int 3, .int l2, .int 0, .int l3]) (rest := []) cd_74_71 rfl (by decide) rfl (sm_rv_ok (by decide) ht) (Nat.le_of_ble_eq_true rfl) (Nat.le_of_ble_eq_true rfl) rfl hcl ?_
    refine gs_0 (pc' := 75) (L' := [some (.ref l0), some (.int l1), some (.int l2), some (.int l3), some (.int s0), none]) (st' := [.ref l0]) cd_74_74 rfl rfl ?_
    obtain ⟨ht, h⟩ := gO_s h
    obtain ⟨q_4, hv, h⟩ := gV_s h
    refine gs_gfR cd_74_75 (by decide) ht hv ?_
    obtain ⟨ht, h⟩ := gO_s h
    obtain ⟨w_5, I_6, J_7, hcl, h⟩ := cV_s h
    refine gs_call (as := [.ref q_4]) (rest := []) cd_74_78 rfl (by decide) rfl (sm_rv_ok (by decide) ht) (Nat.le_of_ble_eq_true rfl) (Nat.le_of_ble_eq_true rfl) rfl hcl ?_
    refine gs_0 (pc' := 82) (L' := [some (.ref l0), some (.int l1), some (.int l2), some (.int l3), some (.int s0), none]) (st' := [.ref l0]) cd_74_81 rfl rfl ?_
    refine gs_0 (pc' := 83) (L' := [some (.ref l0), some (.int l1), some (.int l2), some (.int l3), some (.int s0), none]) (st' := [.int 0, .ref l0]) cd_74_82 rfl rfl ?_
    refine gs_0 (pc' := 84) (L' := [some (.ref l0), some (.int l1), some (.int l2), some (.int l3), some (.int s0), none]) (st' := [.int 0, .int 0, .ref l0]) cd_74_83 rfl rfl ?_
    obtain ⟨ht, h⟩ := gO_s h
    obtain ⟨w_8, I_9, J_10, hcl, h⟩ := cV_s h
    refine gs_call (as := [.ref l0, .int 0, .int 0]) (rest := []) cd_74_84 rfl (by decide) rfl (sm_rv_ok (by decide) ht) (Nat.le_of_ble_eq_true rfl) (Nat.le_of_ble_eq_true rfl) rfl hcl ?_
    refine gs_0 (pc' := 88) (L' := [some (.ref l0), some (.int l1), some (.int l2), some (.int l3), some (.int s0), none]) (st' := [.ref l0]) cd_74_87 rfl rfl ?_
    obtain ⟨ht, h⟩ := gO_s h
    obtain ⟨q_11, hv, h⟩ := gV_s h
    refine gs_gfR cd_74_88 (by decide) ht hv ?_
    refine gs_0 (pc' := 93) (L' := [some (.ref l0), some (.int l1), some (.int l2), some (.int l3), some (.int s0), none]) (st' := [.int 93, .ref q_11]) cd_74_91 rfl rfl ?_
    obtain ⟨ht, h⟩ := gO_s h
    obtain ⟨w_12, I_13, J_14, hcl, h⟩ := cV_s h
    refine gs_call (as := [.ref q_11, .int 93]) (rest := []) cd_74_93 rfl (by decide) rfl (sm_rv_ok (by decide) ht) (Nat.le_of_ble_eq_true rfl) (Nat.le_of_ble_eq_true rfl) rfl hcl ?_
    exact ok_74_96 h
noncomputable def f_74_29 (K : Nat → Value) (k d : Nat) (l0 : Nat) (l1 : Int32) (l2 : Int32) (w : aW) (I : aI) (J : aJ) : Option aR :=
  gO w 2 l0 (
  gV w l0 1 fun q_1 =>
  gO w 2 l0 (
  gO w 1 q_1 (
  cI (Cl K d 70 [.ref q_1, .int (I l0 2), .int l2] w I J) fun x_5 w_2 I_3 J_4 =>
  gO w_2 2 l0 (
  gV w_2 l0 0 fun q_6 =>
  gO w_2 4 q_6 (
  cI (Cl K d 37 [.ref q_6] w_2 I_3 J_4) fun x_10 w_7 I_8 J_9 =>
  if ¬ x_10 = 91 then
    f_74_59 K k d l0 l1 l2 x_5 0 w_7 I_8 J_9
  else
    f_74_59 K k d l0 l1 l2 x_5 1 w_7 I_8 J_9)))))
theorem ok_74_29 {K : Nat → Value} {k d : Nat} {l0 : Nat} {l1 : Int32} {l2 : Int32} {w : aW} {I : aI} {J : aJ} {R : aR} (h : f_74_29 K k d l0 l1 l2 w I J = some R) : Go K (d + 1) 74 29 [some (.ref l0), some (.int l1), some (.int l2), none, none, none] [] w I J R := by
  unfold f_74_29 at h
  refine gs_0 (pc' := 30) (L' := [some (.ref l0), some (.int l1), some (.int l2), none, none, none]) (st' := [.ref l0]) cd_74_29 rfl rfl ?_
  obtain ⟨ht, h⟩ := gO_s h
  obtain ⟨q_1, hv, h⟩ := gV_s h
  refine gs_gfR cd_74_30 (by decide) ht hv ?_
  refine gs_0 (pc' := 34) (L' := [some (.ref l0), some (.int l1), some (.int l2), none, none, none]) (st' := [.ref l0, .ref q_1]) cd_74_33 rfl rfl ?_
  obtain ⟨ht, h⟩ := gO_s h
  refine gs_gfI cd_74_34 (by decide) (by decide) ht ?_
  refine gs_0 (pc' := 38) (L' := [some (.ref l0), some (.int l1), some (.int l2), none, none, none]) (st' := [.int l2, .int (I l0 2), .ref q_1]) cd_74_37 rfl rfl ?_
  obtain ⟨ht, h⟩ := gO_s h
  obtain ⟨x_5, w_2, I_3, J_4, hcl, h⟩ := cI_s h
  refine gs_call (as := [.ref q_1, .int (I l0 2), .int l2]) (rest := []) cd_74_38 rfl (by decide) rfl (sm_rv_ok (by decide) ht) (Nat.le_of_ble_eq_true rfl) (Nat.le_of_ble_eq_true rfl) rfl hcl ?_
  refine gs_0 (pc' := 42) (L' := [some (.ref l0), some (.int l1), some (.int l2), some (.int x_5), none, none]) (st' := []) cd_74_41 rfl rfl ?_
  refine gs_0 (pc' := 43) (L' := [some (.ref l0), some (.int l1), some (.int l2), some (.int x_5), none, none]) (st' := [.ref l0]) cd_74_42 rfl rfl ?_
  obtain ⟨ht, h⟩ := gO_s h
  obtain ⟨q_6, hv, h⟩ := gV_s h
  refine gs_gfR cd_74_43 (by decide) ht hv ?_
  obtain ⟨ht, h⟩ := gO_s h
  obtain ⟨x_10, w_7, I_8, J_9, hcl, h⟩ := cI_s h
  refine gs_call (as := [.ref q_6]) (rest := []) cd_74_46 rfl (by decide) rfl (sm_rv_ok (by decide) ht) (Nat.le_of_ble_eq_true rfl) (Nat.le_of_ble_eq_true rfl) rfl hcl ?_
  refine gs_0 (pc' := 51) (L' := [some (.ref l0), some (.int l1), some (.int l2), some (.int x_5), none, none]) (st' := [.int 91, .int x_10]) cd_74_49 rfl rfl ?_
  refine gs_0 (pc' := if ¬ x_10 = 91 then 58 else 54) (L' := [some (.ref l0), some (.int l1), some (.int l2), some (.int x_5), none, none]) (st' := []) cd_74_51 rfl rfl ?_
  refine go_ite (fun hc => ?_) (fun hc => ?_)
  · rw [if_pos hc] at h
    refine gs_0 (pc' := 59) (L' := [some (.ref l0), some (.int l1), some (.int l2), some (.int x_5), none, none]) (st' := [.int 0]) cd_74_58 rfl rfl ?_
    exact ok_74_59 h
  · rw [if_neg hc] at h
    refine gs_0 (pc' := 55) (L' := [some (.ref l0), some (.int l1), some (.int l2), some (.int x_5), none, none]) (st' := [.int 1]) cd_74_54 rfl rfl ?_
    refine gs_0 (pc' := 59) (L' := [some (.ref l0), some (.int l1), some (.int l2), some (.int x_5), none, none]) (st' := [.int 1]) cd_74_55 rfl rfl ?_
    exact ok_74_59 h
noncomputable def f_74 (K : Nat → Value) (k d : Nat) (l0 : Nat) (w : aW) (I : aI) (J : aJ) : Option aR :=
  gO w 2 l0 (
  gV w l0 0 fun q_1 =>
  gO w 4 q_1 (
  cI (Cl K d 44 [.ref q_1] w I J) fun x_5 w_2 I_3 J_4 =>
  gO w_2 2 l0 (
  gV w_2 l0 0 fun q_6 =>
  gO w_2 4 q_6 (
  cI (Cl K d 45 [.ref q_6] w_2 I_3 J_4) fun x_10 w_7 I_8 J_9 =>
  gO w_7 2 l0 (
  cI (Cl K d 53 [.ref l0, .int x_10] w_7 I_8 J_9) fun x_14 w_11 I_12 J_13 =>
  if 0 ≤ x_14 then
    f_74_29 K k d l0 x_5 x_14 w_11 I_12 J_13
  else
    gO w_11 2 l0 (
    cV (Cl K d 48 [.ref l0, .int x_5] w_11 I_12 J_13) fun w_15 I_16 J_17 =>
    f_74_29 K k d l0 x_5 x_14 w_15 I_16 J_17))))))
theorem ok_74 {K : Nat → Value} {k d : Nat} {l0 : Nat} {w : aW} {I : aI} {J : aJ} {R : aR} (h : f_74 K k d l0 w I J = some R) : Go K (d + 1) 74 0 [some (.ref l0), none, none, none, none, none] [] w I J R := by
  unfold f_74 at h
  refine gs_0 (pc' := 1) (L' := [some (.ref l0), none, none, none, none, none]) (st' := [.ref l0]) cd_74_0 rfl rfl ?_
  obtain ⟨ht, h⟩ := gO_s h
  obtain ⟨q_1, hv, h⟩ := gV_s h
  refine gs_gfR cd_74_1 (by decide) ht hv ?_
  obtain ⟨ht, h⟩ := gO_s h
  obtain ⟨x_5, w_2, I_3, J_4, hcl, h⟩ := cI_s h
  refine gs_call (as := [.ref q_1]) (rest := []) cd_74_4 rfl (by decide) rfl (sm_rv_ok (by decide) ht) (Nat.le_of_ble_eq_true rfl) (Nat.le_of_ble_eq_true rfl) rfl hcl ?_
  refine gs_0 (pc' := 8) (L' := [some (.ref l0), some (.int x_5), none, none, none, none]) (st' := []) cd_74_7 rfl rfl ?_
  refine gs_0 (pc' := 9) (L' := [some (.ref l0), some (.int x_5), none, none, none, none]) (st' := [.ref l0]) cd_74_8 rfl rfl ?_
  refine gs_0 (pc' := 10) (L' := [some (.ref l0), some (.int x_5), none, none, none, none]) (st' := [.ref l0, .ref l0]) cd_74_9 rfl rfl ?_
  obtain ⟨ht, h⟩ := gO_s h
  obtain ⟨q_6, hv, h⟩ := gV_s h
  refine gs_gfR cd_74_10 (by decide) ht hv ?_
  obtain ⟨ht, h⟩ := gO_s h
  obtain ⟨x_10, w_7, I_8, J_9, hcl, h⟩ := cI_s h
  refine gs_call (as := [.ref q_6]) (rest := [.ref l0]) cd_74_13 rfl (by decide) rfl (sm_rv_ok (by decide) ht) (Nat.le_of_ble_eq_true rfl) (Nat.le_of_ble_eq_true rfl) rfl hcl ?_
  obtain ⟨ht, h⟩ := gO_s h
  obtain ⟨x_14, w_11, I_12, J_13, hcl, h⟩ := cI_s h
  refine gs_call (as := [.ref l0, .int x_10]) (rest := []) cd_74_16 rfl (by decide) rfl (sm_rv_ok (by decide) ht) (Nat.le_of_ble_eq_true rfl) (Nat.le_of_ble_eq_true rfl) rfl hcl ?_
  refine gs_0 (pc' := 20) (L' := [some (.ref l0), some (.int x_5), some (.int x_14), none, none, none]) (st' := []) cd_74_19 rfl rfl ?_
  refine gs_0 (pc' := 21) (L' := [some (.ref l0), some (.int x_5), some (.int x_14), none, none, none]) (st' := [.int x_14]) cd_74_20 rfl rfl ?_
  refine gs_0 (pc' := if 0 ≤ x_14 then 29 else 24) (L' := [some (.ref l0), some (.int x_5), some (.int x_14), none, none, none]) (st' := []) cd_74_21 rfl rfl ?_
  refine go_ite (fun hc => ?_) (fun hc => ?_)
  · rw [if_pos hc] at h
    exact ok_74_29 h
  · rw [if_neg hc] at h
    refine gs_0 (pc' := 25) (L' := [some (.ref l0), some (.int x_5), some (.int x_14), none, none, none]) (st' := [.ref l0]) cd_74_24 rfl rfl ?_
    refine gs_0 (pc' := 26) (L' := [some (.ref l0), some (.int x_5), some (.int x_14), none, none, none]) (st' := [.int x_5, .ref l0]) cd_74_25 rfl rfl ?_
    obtain ⟨ht, h⟩ := gO_s h
    obtain ⟨w_15, I_16, J_17, hcl, h⟩ := cV_s h
    refine gs_call (as := [.ref l0, .int x_5]) (rest := []) cd_74_26 rfl (by decide) rfl (sm_rv_ok (by decide) ht) (Nat.le_of_ble_eq_true rfl) (Nat.le_of_ble_eq_true rfl) rfl hcl ?_
    exact ok_74_29 h
theorem cl_74 {K : Nat → Value} {k d : Nat} {l0 : Nat} {w : aW} {I : aI} {J : aJ} {R : aR} (h : f_74 K k d l0 w I J = some R) : Cl K (d + 1) 74 [.ref l0] w I J = some R := Cl_of (ok_74 h)
/-! ProvedMachine$Reader.readCondition()V -/
theorem gl_75 : gcd.lookup 75 = some gw_75 := rfl
theorem cd_75_0 : sm_cd 75 0 = some (.aload_n 0, 1, 0, 0, 0, 0, 0, 0, 0) := cd_of gl_75 rfl
theorem cd_75_1 : sm_cd 75 1 = some (.getfield 12, 3, 2, 0, 2, 0, 0, 0, 0) := cd_of gl_75 rfl
theorem cd_75_4 : sm_cd 75 4 = some (.invokevirtual 78, 3, 44, 0, 0, 1, 4, 0, 0) := cd_of gl_75 rfl
theorem cd_75_7 : sm_cd 75 7 = some (.istore_n 1, 1, 1, 0, 0, 0, 0, 0, 0) := cd_of gl_75 rfl
theorem cd_75_8 : sm_cd 75 8 = some (.aload_n 0, 1, 0, 0, 0, 0, 0, 0, 0) := cd_of gl_75 rfl
theorem cd_75_9 : sm_cd 75 9 = some (.getfield 12, 3, 2, 0, 2, 0, 0, 0, 0) := cd_of gl_75 rfl
theorem cd_75_12 : sm_cd 75 12 = some (.invokevirtual 93, 3, 37, 0, 0, 1, 4, 0, 0) := cd_of gl_75 rfl
theorem cd_75_15 : sm_cd 75 15 = some (.sipush 259, 3, 0, 0, 0, 0, 0, 259, 0) := cd_of gl_75 rfl
theorem cd_75_18 : sm_cd 75 18 = some (.if_icmp .ne 7, 3, 25, 0, 0, 0, 0, 0, 0) := cd_of gl_75 rfl
theorem cd_75_21 : sm_cd 75 21 = some (.iconst 3, 1, 0, 0, 0, 0, 0, 3, 0) := cd_of gl_75 rfl
theorem cd_75_22 : sm_cd 75 22 = some (.goto 4, 3, 26, 0, 0, 0, 0, 0, 0) := cd_of gl_75 rfl
theorem cd_75_25 : sm_cd 75 25 = some (.iconst 1, 1, 0, 0, 0, 0, 0, 1, 0) := cd_of gl_75 rfl
theorem cd_75_26 : sm_cd 75 26 = some (.istore_n 2, 1, 2, 0, 0, 0, 0, 0, 0) := cd_of gl_75 rfl
theorem cd_75_27 : sm_cd 75 27 = some (.aload_n 0, 1, 0, 0, 0, 0, 0, 0, 0) := cd_of gl_75 rfl
theorem cd_75_28 : sm_cd 75 28 = some (.getfield 21, 3, 2, 1, 2, 0, 0, 0, 0) := cd_of gl_75 rfl
theorem cd_75_31 : sm_cd 75 31 = some (.getfield 71, 3, 1, 6, 0, 1, 0, 0, 0) := cd_of gl_75 rfl
theorem cd_75_34 : sm_cd 75 34 = some (.istore_n 3, 1, 3, 0, 0, 0, 0, 0, 0) := cd_of gl_75 rfl
theorem cd_75_35 : sm_cd 75 35 = some (.aload_n 0, 1, 0, 0, 0, 0, 0, 0, 0) := cd_of gl_75 rfl
theorem cd_75_36 : sm_cd 75 36 = some (.getfield 12, 3, 2, 0, 2, 0, 0, 0, 0) := cd_of gl_75 rfl
theorem cd_75_39 : sm_cd 75 39 = some (.invokevirtual 146, 3, 42, 0, 0, 1, 4, 0, 0) := cd_of gl_75 rfl
theorem cd_75_42 : sm_cd 75 42 = some (.aload_n 0, 1, 0, 0, 0, 0, 0, 0, 0) := cd_of gl_75 rfl
theorem cd_75_43 : sm_cd 75 43 = some (.iconst 0, 1, 0, 0, 0, 0, 0, 0, 0) := cd_of gl_75 rfl
theorem cd_75_44 : sm_cd 75 44 = some (.iconst 0, 1, 0, 0, 0, 0, 0, 0, 0) := cd_of gl_75 rfl
theorem cd_75_45 : sm_cd 75 45 = some (.invokevirtual 177, 3, 63, 0, 2, 9, 2, 0, 0) := cd_of gl_75 rfl
theorem cd_75_48 : sm_cd 75 48 = some (.aload_n 0, 1, 0, 0, 0, 0, 0, 0, 0) := cd_of gl_75 rfl
theorem cd_75_49 : sm_cd 75 49 = some (.aload_n 0, 1, 0, 0, 0, 0, 0, 0, 0) := cd_of gl_75 rfl
theorem cd_75_50 : sm_cd 75 50 = some (.iconst 1, 1, 0, 0, 0, 0, 0, 1, 0) := cd_of gl_75 rfl
theorem cd_75_51 : sm_cd 75 51 = some (.invokevirtual 181, 3, 67, 0, 1, 2, 2, 0, 0) := cd_of gl_75 rfl
theorem cd_75_54 : sm_cd 75 54 = some (.iconst 1, 1, 0, 0, 0, 0, 0, 1, 0) := cd_of gl_75 rfl
theorem cd_75_55 : sm_cd 75 55 = some (.if_icmp .ne 7, 3, 62, 0, 0, 0, 0, 0, 0) := cd_of gl_75 rfl
theorem cd_75_58 : sm_cd 75 58 = some (.iconst 1, 1, 0, 0, 0, 0, 0, 1, 0) := cd_of gl_75 rfl
theorem cd_75_59 : sm_cd 75 59 = some (.goto 4, 3, 63, 0, 0, 0, 0, 0, 0) := cd_of gl_75 rfl
theorem cd_75_62 : sm_cd 75 62 = some (.iconst 0, 1, 0, 0, 0, 0, 0, 0, 0) := cd_of gl_75 rfl
theorem cd_75_63 : sm_cd 75 63 = some (.iload_n 1, 1, 1, 0, 0, 0, 0, 0, 0) := cd_of gl_75 rfl
theorem cd_75_64 : sm_cd 75 64 = some (.invokevirtual 184, 3, 68, 0, 2, 3, 2, 0, 0) := cd_of gl_75 rfl
theorem cd_75_67 : sm_cd 75 67 = some (.aload_n 0, 1, 0, 0, 0, 0, 0, 0, 0) := cd_of gl_75 rfl
theorem cd_75_68 : sm_cd 75 68 = some (.getfield 21, 3, 2, 1, 2, 0, 0, 0, 0) := cd_of gl_75 rfl
theorem cd_75_71 : sm_cd 75 71 = some (.getfield 71, 3, 1, 6, 0, 1, 0, 0, 0) := cd_of gl_75 rfl
theorem cd_75_74 : sm_cd 75 74 = some (.istore 4, 2, 4, 0, 0, 0, 0, 0, 0) := cd_of gl_75 rfl
theorem cd_75_76 : sm_cd 75 76 = some (.aload_n 0, 1, 0, 0, 0, 0, 0, 0, 0) := cd_of gl_75 rfl
theorem cd_75_77 : sm_cd 75 77 = some (.bipush 23, 2, 0, 0, 0, 0, 0, 23, 0) := cd_of gl_75 rfl
theorem cd_75_79 : sm_cd 75 79 = some (.iconst 0, 1, 0, 0, 0, 0, 0, 0, 0) := cd_of gl_75 rfl
theorem cd_75_80 : sm_cd 75 80 = some (.iconst 1, 1, 0, 0, 0, 0, 0, 1, 0) := cd_of gl_75 rfl
theorem cd_75_81 : sm_cd 75 81 = some (.iconst (-1), 1, 0, 0, 0, 0, 0, (-1), 0) := cd_of gl_75 rfl
theorem cd_75_82 : sm_cd 75 82 = some (.invokevirtual 149, 3, 58, 0, 4, 5, 2, 0, 0) := cd_of gl_75 rfl
theorem cd_75_85 : sm_cd 75 85 = some (.aload_n 0, 1, 0, 0, 0, 0, 0, 0, 0) := cd_of gl_75 rfl
theorem cd_75_86 : sm_cd 75 86 = some (.iload_n 2, 1, 2, 0, 0, 0, 0, 0, 0) := cd_of gl_75 rfl
theorem cd_75_87 : sm_cd 75 87 = some (.iload 4, 2, 4, 0, 0, 0, 0, 0, 0) := cd_of gl_75 rfl
theorem cd_75_89 : sm_cd 75 89 = some (.iload_n 3, 1, 3, 0, 0, 0, 0, 0, 0) := cd_of gl_75 rfl
theorem cd_75_90 : sm_cd 75 90 = some (.invokevirtual 153, 3, 56, 0, 3, 4, 2, 0, 0) := cd_of gl_75 rfl
theorem cd_75_93 : sm_cd 75 93 = some (.return_, 1, 0, 0, 0, 0, 0, 0, 0) := cd_of gl_75 rfl
noncomputable def f_75_63 (K : Nat → Value) (k d : Nat) (l0 : Nat) (l1 : Int32) (l2 : Int32) (l3 : Int32) (s0 : Nat) (s1 : Int32) (w : aW) (I : aI) (J : aJ) : Option aR :=
  gO w 2 s0 (
  cV (Cl K d 68 [.ref s0, .int s1, .int l1] w I J) fun w_1 I_2 J_3 =>
  gO w_1 2 l0 (
  gV w_1 l0 1 fun q_4 =>
  gO w_1 1 q_4 (
  lt_ (I_2 q_4 6) fun x_5 =>
  gO w_1 2 l0 (
  cV (Cl K d 58 [.ref l0, .int 23, .int 0, .int 1, .int ((-1))] w_1 I_2 J_3) fun w_6 I_7 J_8 =>
  gO w_6 2 l0 (
  cV (Cl K d 56 [.ref l0, .int l2, .int x_5, .int l3] w_6 I_7 J_8) fun w_9 I_10 J_11 =>
  some (none, w_9, I_10, J_11))))))
theorem ok_75_63 {K : Nat → Value} {k d : Nat} {l0 : Nat} {l1 : Int32} {l2 : Int32} {l3 : Int32} {s0 : Nat} {s1 : Int32} {w : aW} {I : aI} {J : aJ} {R : aR} (h : f_75_63 K k d l0 l1 l2 l3 s0 s1 w I J = some R) : Go K (d + 1) 75 63 [some (.ref l0), some (.int l1), some (.int l2), some (.int l3), none] [.int s1, .ref s0] w I J R := by
  unfold f_75_63 at h
  refine gs_0 (pc' := 64) (L' := [some (.ref l0), some (.int l1), some (.int l2), some (.int l3), none]) (st' := [.int l1, .int s1, .ref s0]) cd_75_63 rfl rfl ?_
  obtain ⟨ht, h⟩ := gO_s h
  obtain ⟨w_1, I_2, J_3, hcl, h⟩ := cV_s h
  refine gs_call (as := [.ref s0, .int s1, .int l1]) (rest := []) cd_75_64 rfl (by decide) rfl (sm_rv_ok (by decide) ht) (Nat.le_of_ble_eq_true rfl) (Nat.le_of_ble_eq_true rfl) rfl hcl ?_
  refine gs_0 (pc' := 68) (L' := [some (.ref l0), some (.int l1), some (.int l2), some (.int l3), none]) (st' := [.ref l0]) cd_75_67 rfl rfl ?_
  obtain ⟨ht, h⟩ := gO_s h
  obtain ⟨q_4, hv, h⟩ := gV_s h
  refine gs_gfR cd_75_68 (by decide) ht hv ?_
  obtain ⟨ht, h⟩ := gO_s h
  refine gs_gfI cd_75_71 (by decide) (by decide) ht ?_
  refine gs_0 (pc' := 76) (L' := [some (.ref l0), some (.int l1), some (.int l2), some (.int l3), some (.int (I_2 q_4 6))]) (st' := []) cd_75_74 rfl rfl ?_
  obtain ⟨x_5, hx, h⟩ := lt_s_ h
  rw [hx]
  clear hx
  refine gs_0 (pc' := 77) (L' := [some (.ref l0), some (.int l1), some (.int l2), some (.int l3), some (.int x_5)]) (st' := [.ref l0]) cd_75_76 rfl rfl ?_
  refine gs_0 (pc' := 79) (L' := [some (.ref l0), some (.int l1), some (.int l2), some (.int l3), some (.int x_5)]) (st' := [.int 23, .ref l0]) cd_75_77 rfl rfl ?_
  refine gs_0 (pc' := 80) (L' := [some (.ref l0), some (.int l1), some (.int l2), some (.int l3), some (.int x_5)]) (st' := [.int 0, .int 23, .ref l0]) cd_75_79 rfl rfl ?_
  refine gs_0 (pc' := 81) (L' := [some (.ref l0), some (.int l1), some (.int l2), some (.int l3), some (.int x_5)]) (st' := [.int 1, .int 0, .int 23, .ref l0]) cd_75_80 rfl rfl ?_
  refine gs_0 (pc' := 82) (L' := [some (.ref l0), some (.int l1), some (.int l2), some (.int l3), some (.int x_5)]) (st' := [.int ((-1)), .int 1, .int 0, .int 23, .ref l0]) cd_75_81 rfl rfl ?_
  obtain ⟨ht, h⟩ := gO_s h
  obtain ⟨w_6, I_7, J_8, hcl, h⟩ := cV_s h
  refine gs_call (as := [.ref l0, .int 23, .int 0, .int 1, .int ((-1))]) (rest := []) cd_75_82 rfl (by decide) rfl (sm_rv_ok (by decide) ht) (Nat.le_of_ble_eq_true rfl) (Nat.le_of_ble_eq_true rfl) rfl hcl ?_
  refine gs_0 (pc' := 86) (L' := [some (.ref l0), some (.int l1), some (.int l2), some (.int l3), some (.int x_5)]) (st' := [.ref l0]) cd_75_85 rfl rfl ?_
  refine gs_0 (pc' := 87) (L' := [some (.ref l0), some (.int l1), some (.int l2), some (.int l3), some (.int x_5)]) (st' := [.int l2, .ref l0]) cd_75_86 rfl rfl ?_
  refine gs_0 (pc' := 89) (L' := [some (.ref l0), some (.int l1), some (.int l2), some (.int l3), some (.int x_5)]) (st' := [.int x_5, .int l2, .ref l0]) cd_75_87 rfl rfl ?_
  refine gs_0 (pc' := 90) (L' := [some (.ref l0), some (.int l1), some (.int l2), some (.int l3), some (.int x_5)]) (st' := [.int l3, .int x_5, .int l2, .ref l0]) cd_75_89 rfl rfl ?_
  obtain ⟨ht, h⟩ := gO_s h
  obtain ⟨w_9, I_10, J_11, hcl, h⟩ := cV_s h
  refine gs_call (as := [.ref l0, .int l2, .int x_5, .int l3]) (rest := []) cd_75_90 rfl (by decide) rfl (sm_rv_ok (by decide) ht) (Nat.le_of_ble_eq_true rfl) (Nat.le_of_ble_eq_true rfl) rfl hcl ?_
  cases h
  exact gsr cd_75_93 rfl rfl
noncomputable def f_75_26 (K : Nat → Value) (k d : Nat) (l0 : Nat) (l1 : Int32) (s0 : Int32) (w : aW) (I : aI) (J : aJ) : Option aR :=
  gO w 2 l0 (
  gV w l0 1 fun q_1 =>
  gO w 1 q_1 (
  lt_ (I q_1 6) fun x_2 =>
  gO w 2 l0 (
  gV w l0 0 fun q_3 =>
  gO w 4 q_3 (
  cV (Cl K d 42 [.ref q_3] w I J) fun w_4 I_5 J_6 =>
  gO w_4 2 l0 (
  cV (Cl K d 63 [.ref l0, .int 0, .int 0] w_4 I_5 J_6) fun w_7 I_8 J_9 =>
  gO w_7 2 l0 (
  cI (Cl K d 67 [.ref l0, .int 1] w_7 I_8 J_9) fun x_13 w_10 I_11 J_12 =>
  if ¬ x_13 = 1 then
    f_75_63 K k d l0 l1 s0 x_2 l0 0 w_10 I_11 J_12
  else
    f_75_63 K k d l0 l1 s0 x_2 l0 1 w_10 I_11 J_12))))))
theorem ok_75_26 {K : Nat → Value} {k d : Nat} {l0 : Nat} {l1 : Int32} {s0 : Int32} {w : aW} {I : aI} {J : aJ} {R : aR} (h : f_75_26 K k d l0 l1 s0 w I J = some R) : Go K (d + 1) 75 26 [some (.ref l0), some (.int l1), none, none, none] [.int s0] w I J R := by
  unfold f_75_26 at h
  refine gs_0 (pc' := 27) (L' := [some (.ref l0), some (.int l1), some (.int s0), none, none]) (st' := []) cd_75_26 rfl rfl ?_
  refine gs_0 (pc' := 28) (L' := [some (.ref l0), some (.int l1), some (.int s0), none, none]) (st' := [.ref l0]) cd_75_27 rfl rfl ?_
  obtain ⟨ht, h⟩ := gO_s h
  obtain ⟨q_1, hv, h⟩ := gV_s h
  refine gs_gfR cd_75_28 (by decide) ht hv ?_
  obtain ⟨ht, h⟩ := gO_s h
  refine gs_gfI cd_75_31 (by decide) (by decide) ht ?_
  refine gs_0 (pc' := 35) (L' := [some (.ref l0), some (.int l1), some (.int s0), some (.int (I q_1 6)), none]) (st' := []) cd_75_34 rfl rfl ?_
  obtain ⟨x_2, hx, h⟩ := lt_s_ h
  rw [hx]
  clear hx
  refine gs_0 (pc' := 36) (L' := [some (.ref l0), some (.int l1), some (.int s0), some (.int x_2), none]) (st' := [.ref l0]) cd_75_35 rfl rfl ?_
  obtain ⟨ht, h⟩ := gO_s h
  obtain ⟨q_3, hv, h⟩ := gV_s h
  refine gs_gfR cd_75_36 (by decide) ht hv ?_
  obtain ⟨ht, h⟩ := gO_s h
  obtain ⟨w_4, I_5, J_6, hcl, h⟩ := cV_s h
  refine gs_call (as := [.ref q_3]) (rest := []) cd_75_39 rfl (by decide) rfl (sm_rv_ok (by decide) ht) (Nat.le_of_ble_eq_true rfl) (Nat.le_of_ble_eq_true rfl) rfl hcl ?_
  refine gs_0 (pc' := 43) (L' := [some (.ref l0), some (.int l1), some (.int s0), some (.int x_2), none]) (st' := [.ref l0]) cd_75_42 rfl rfl ?_
  refine gs_0 (pc' := 44) (L' := [some (.ref l0), some (.int l1), some (.int s0), some (.int x_2), none]) (st' := [.int 0, .ref l0]) cd_75_43 rfl rfl ?_
  refine gs_0 (pc' := 45) (L' := [some (.ref l0), some (.int l1), some (.int s0), some (.int x_2), none]) (st' := [.int 0, .int 0, .ref l0]) cd_75_44 rfl rfl ?_
  obtain ⟨ht, h⟩ := gO_s h
  obtain ⟨w_7, I_8, J_9, hcl, h⟩ := cV_s h
  refine gs_call (as := [.ref l0, .int 0, .int 0]) (rest := []) cd_75_45 rfl (by decide) rfl (sm_rv_ok (by decide) ht) (Nat.le_of_ble_eq_true rfl) (Nat.le_of_ble_eq_true rfl) rfl hcl ?_
  refine gs_0 (pc' := 49) (L' := [some (.ref l0), some (.int l1), some (.int s0), some (.int x_2), none]) (st' := [.ref l0]) cd_75_48 rfl rfl ?_
  refine gs_0 (pc' := 50) (L' := [some (.ref l0), some (.int l1), some (.int s0), some (.int x_2), none]) (st' := [.ref l0, .ref l0]) cd_75_49 rfl rfl ?_
  refine gs_0 (pc' := 51) (L' := [some (.ref l0), some (.int l1), some (.int s0), some (.int x_2), none]) (st' := [.int 1, .ref l0, .ref l0]) cd_75_50 rfl rfl ?_
  obtain ⟨ht, h⟩ := gO_s h
  obtain ⟨x_13, w_10, I_11, J_12, hcl, h⟩ := cI_s h
  refine gs_call (as := [.ref l0, .int 1]) (rest := [.ref l0]) cd_75_51 rfl (by decide) rfl (sm_rv_ok (by decide) ht) (Nat.le_of_ble_eq_true rfl) (Nat.le_of_ble_eq_true rfl) rfl hcl ?_
  refine gs_0 (pc' := 55) (L' := [some (.ref l0), some (.int l1), some (.int s0), some (.int x_2), none]) (st' := [.int 1, .int x_13, .ref l0]) cd_75_54 rfl rfl ?_
  refine gs_0 (pc' := if ¬ x_13 = 1 then 62 else 58) (L' := [some (.ref l0), some (.int l1), some (.int s0), some (.int x_2), none]) (st' := [.ref l0]) cd_75_55 rfl rfl ?_
  refine go_ite (fun hc => ?_) (fun hc => ?_)
  · rw [if_pos hc] at h
    refine gs_0 (pc' := 63) (L' := [some (.ref l0), some (.int l1), some (.int s0), some (.int x_2), none]) (st' := [.int 0, .ref l0]) cd_75_62 rfl rfl ?_
    exact ok_75_63 h
  · rw [if_neg hc] at h
    refine gs_0 (pc' := 59) (L' := [some (.ref l0), some (.int l1), some (.int s0), some (.int x_2), none]) (st' := [.int 1, .ref l0]) cd_75_58 rfl rfl ?_
    refine gs_0 (pc' := 63) (L' := [some (.ref l0), some (.int l1), some (.int s0), some (.int x_2), none]) (st' := [.int 1, .ref l0]) cd_75_59 rfl rfl ?_
    exact ok_75_63 h
noncomputable def f_75 (K : Nat → Value) (k d : Nat) (l0 : Nat) (w : aW) (I : aI) (J : aJ) : Option aR :=
  gO w 2 l0 (
  gV w l0 0 fun q_1 =>
  gO w 4 q_1 (
  cI (Cl K d 44 [.ref q_1] w I J) fun x_5 w_2 I_3 J_4 =>
  gO w_2 2 l0 (
  gV w_2 l0 0 fun q_6 =>
  gO w_2 4 q_6 (
  cI (Cl K d 37 [.ref q_6] w_2 I_3 J_4) fun x_10 w_7 I_8 J_9 =>
  if ¬ x_10 = 259 then
    f_75_26 K k d l0 x_5 1 w_7 I_8 J_9
  else
    f_75_26 K k d l0 x_5 3 w_7 I_8 J_9))))
theorem ok_75 {K : Nat → Value} {k d : Nat} {l0 : Nat} {w : aW} {I : aI} {J : aJ} {R : aR} (h : f_75 K k d l0 w I J = some R) : Go K (d + 1) 75 0 [some (.ref l0), none, none, none, none] [] w I J R := by
  unfold f_75 at h
  refine gs_0 (pc' := 1) (L' := [some (.ref l0), none, none, none, none]) (st' := [.ref l0]) cd_75_0 rfl rfl ?_
  obtain ⟨ht, h⟩ := gO_s h
  obtain ⟨q_1, hv, h⟩ := gV_s h
  refine gs_gfR cd_75_1 (by decide) ht hv ?_
  obtain ⟨ht, h⟩ := gO_s h
  obtain ⟨x_5, w_2, I_3, J_4, hcl, h⟩ := cI_s h
  refine gs_call (as := [.ref q_1]) (rest := []) cd_75_4 rfl (by decide) rfl (sm_rv_ok (by decide) ht) (Nat.le_of_ble_eq_true rfl) (Nat.le_of_ble_eq_true rfl) rfl hcl ?_
  refine gs_0 (pc' := 8) (L' := [some (.ref l0), some (.int x_5), none, none, none]) (st' := []) cd_75_7 rfl rfl ?_
  refine gs_0 (pc' := 9) (L' := [some (.ref l0), some (.int x_5), none, none, none]) (st' := [.ref l0]) cd_75_8 rfl rfl ?_
  obtain ⟨ht, h⟩ := gO_s h
  obtain ⟨q_6, hv, h⟩ := gV_s h
  refine gs_gfR cd_75_9 (by decide) ht hv ?_
  obtain ⟨ht, h⟩ := gO_s h
  obtain ⟨x_10, w_7, I_8, J_9, hcl, h⟩ := cI_s h
  refine gs_call (as := [.ref q_6]) (rest := []) cd_75_12 rfl (by decide) rfl (sm_rv_ok (by decide) ht) (Nat.le_of_ble_eq_true rfl) (Nat.le_of_ble_eq_true rfl) rfl hcl ?_
  refine gs_0 (pc' := 18) (L' := [some (.ref l0), some (.int x_5), none, none, none]) (st' := [.int 259, .int x_10]) cd_75_15 rfl rfl ?_
  refine gs_0 (pc' := if ¬ x_10 = 259 then 25 else 21) (L' := [some (.ref l0), some (.int x_5), none, none, none]) (st' := []) cd_75_18 rfl rfl ?_
  refine go_ite (fun hc => ?_) (fun hc => ?_)
  · rw [if_pos hc] at h
    refine gs_0 (pc' := 26) (L' := [some (.ref l0), some (.int x_5), none, none, none]) (st' := [.int 1]) cd_75_25 rfl rfl ?_
    exact ok_75_26 h
  · rw [if_neg hc] at h
    refine gs_0 (pc' := 22) (L' := [some (.ref l0), some (.int x_5), none, none, none]) (st' := [.int 3]) cd_75_21 rfl rfl ?_
    refine gs_0 (pc' := 26) (L' := [some (.ref l0), some (.int x_5), none, none, none]) (st' := [.int 3]) cd_75_22 rfl rfl ?_
    exact ok_75_26 h
theorem cl_75 {K : Nat → Value} {k d : Nat} {l0 : Nat} {w : aW} {I : aI} {J : aJ} {R : aR} (h : f_75 K k d l0 w I J = some R) : Cl K (d + 1) 75 [.ref l0] w I J = some R := Cl_of (ok_75 h)
/-! ProvedMachine$Reader.readAnswer()V -/
theorem gl_76 : gcd.lookup 76 = some gw_76 := rfl
theorem cd_76_0 : sm_cd 76 0 = some (.aload_n 0, 1, 0, 0, 0, 0, 0, 0, 0) := cd_of gl_76 rfl
theorem cd_76_1 : sm_cd 76 1 = some (.getfield 12, 3, 2, 0, 2, 0, 0, 0, 0) := cd_of gl_76 rfl
theorem cd_76_4 : sm_cd 76 4 = some (.invokevirtual 78, 3, 44, 0, 0, 1, 4, 0, 0) := cd_of gl_76 rfl
theorem cd_76_7 : sm_cd 76 7 = some (.istore_n 1, 1, 1, 0, 0, 0, 0, 0, 0) := cd_of gl_76 rfl
theorem cd_76_8 : sm_cd 76 8 = some (.aload_n 0, 1, 0, 0, 0, 0, 0, 0, 0) := cd_of gl_76 rfl
theorem cd_76_9 : sm_cd 76 9 = some (.getfield 12, 3, 2, 0, 2, 0, 0, 0, 0) := cd_of gl_76 rfl
theorem cd_76_12 : sm_cd 76 12 = some (.invokevirtual 93, 3, 37, 0, 0, 1, 4, 0, 0) := cd_of gl_76 rfl
theorem cd_76_15 : sm_cd 76 15 = some (.sipush 260, 3, 0, 0, 0, 0, 0, 260, 0) := cd_of gl_76 rfl
theorem cd_76_18 : sm_cd 76 18 = some (.if_icmp .ne 7, 3, 25, 0, 0, 0, 0, 0, 0) := cd_of gl_76 rfl
theorem cd_76_21 : sm_cd 76 21 = some (.iconst 1, 1, 0, 0, 0, 0, 0, 1, 0) := cd_of gl_76 rfl
theorem cd_76_22 : sm_cd 76 22 = some (.goto 4, 3, 26, 0, 0, 0, 0, 0, 0) := cd_of gl_76 rfl
theorem cd_76_25 : sm_cd 76 25 = some (.iconst 0, 1, 0, 0, 0, 0, 0, 0, 0) := cd_of gl_76 rfl
theorem cd_76_26 : sm_cd 76 26 = some (.istore_n 2, 1, 2, 0, 0, 0, 0, 0, 0) := cd_of gl_76 rfl
theorem cd_76_27 : sm_cd 76 27 = some (.aload_n 0, 1, 0, 0, 0, 0, 0, 0, 0) := cd_of gl_76 rfl
theorem cd_76_28 : sm_cd 76 28 = some (.getfield 12, 3, 2, 0, 2, 0, 0, 0, 0) := cd_of gl_76 rfl
theorem cd_76_31 : sm_cd 76 31 = some (.invokevirtual 146, 3, 42, 0, 0, 1, 4, 0, 0) := cd_of gl_76 rfl
theorem cd_76_34 : sm_cd 76 34 = some (.aload_n 0, 1, 0, 0, 0, 0, 0, 0, 0) := cd_of gl_76 rfl
theorem cd_76_35 : sm_cd 76 35 = some (.iconst 0, 1, 0, 0, 0, 0, 0, 0, 0) := cd_of gl_76 rfl
theorem cd_76_36 : sm_cd 76 36 = some (.iconst 0, 1, 0, 0, 0, 0, 0, 0, 0) := cd_of gl_76 rfl
theorem cd_76_37 : sm_cd 76 37 = some (.invokevirtual 177, 3, 63, 0, 2, 9, 2, 0, 0) := cd_of gl_76 rfl
theorem cd_76_40 : sm_cd 76 40 = some (.aload_n 0, 1, 0, 0, 0, 0, 0, 0, 0) := cd_of gl_76 rfl
theorem cd_76_41 : sm_cd 76 41 = some (.getfield 12, 3, 2, 0, 2, 0, 0, 0, 0) := cd_of gl_76 rfl
theorem cd_76_44 : sm_cd 76 44 = some (.bipush 59, 2, 0, 0, 0, 0, 0, 59, 0) := cd_of gl_76 rfl
theorem cd_76_46 : sm_cd 76 46 = some (.invokevirtual 116, 3, 41, 0, 1, 2, 4, 0, 0) := cd_of gl_76 rfl
theorem cd_76_49 : sm_cd 76 49 = some (.aload_n 0, 1, 0, 0, 0, 0, 0, 0, 0) := cd_of gl_76 rfl
theorem cd_76_50 : sm_cd 76 50 = some (.iconst 1, 1, 0, 0, 0, 0, 0, 1, 0) := cd_of gl_76 rfl
theorem cd_76_51 : sm_cd 76 51 = some (.invokevirtual 181, 3, 67, 0, 1, 2, 2, 0, 0) := cd_of gl_76 rfl
theorem cd_76_54 : sm_cd 76 54 = some (.istore_n 3, 1, 3, 0, 0, 0, 0, 0, 0) := cd_of gl_76 rfl
theorem cd_76_55 : sm_cd 76 55 = some (.iload_n 2, 1, 2, 0, 0, 0, 0, 0, 0) := cd_of gl_76 rfl
theorem cd_76_56 : sm_cd 76 56 = some (.ifCond .eq 41, 3, 97, 0, 0, 0, 0, 0, 0) := cd_of gl_76 rfl
theorem cd_76_59 : sm_cd 76 59 = some (.aload_n 0, 1, 0, 0, 0, 0, 0, 0, 0) := cd_of gl_76 rfl
theorem cd_76_60 : sm_cd 76 60 = some (.iload_n 3, 1, 3, 0, 0, 0, 0, 0, 0) := cd_of gl_76 rfl
theorem cd_76_61 : sm_cd 76 61 = some (.aload_n 0, 1, 0, 0, 0, 0, 0, 0, 0) := cd_of gl_76 rfl
theorem cd_76_62 : sm_cd 76 62 = some (.getfield 21, 3, 2, 1, 2, 0, 0, 0, 0) := cd_of gl_76 rfl
theorem cd_76_65 : sm_cd 76 65 = some (.aload_n 0, 1, 0, 0, 0, 0, 0, 0, 0) := cd_of gl_76 rfl
theorem cd_76_66 : sm_cd 76 66 = some (.getfield 25, 3, 2, 2, 0, 0, 0, 0, 0) := cd_of gl_76 rfl
theorem cd_76_69 : sm_cd 76 69 = some (.iconst 3, 1, 0, 0, 0, 0, 0, 3, 0) := cd_of gl_76 rfl
theorem cd_76_70 : sm_cd 76 70 = some (.invokevirtual 109, 3, 52, 0, 2, 4, 1, 0, 0) := cd_of gl_76 rfl
theorem cd_76_73 : sm_cd 76 73 = some (.if_icmp .ne 7, 3, 80, 0, 0, 0, 0, 0, 0) := cd_of gl_76 rfl
theorem cd_76_76 : sm_cd 76 76 = some (.iconst 1, 1, 0, 0, 0, 0, 0, 1, 0) := cd_of gl_76 rfl
theorem cd_76_77 : sm_cd 76 77 = some (.goto 4, 3, 81, 0, 0, 0, 0, 0, 0) := cd_of gl_76 rfl
theorem cd_76_80 : sm_cd 76 80 = some (.iconst 0, 1, 0, 0, 0, 0, 0, 0, 0) := cd_of gl_76 rfl
theorem cd_76_81 : sm_cd 76 81 = some (.iload_n 1, 1, 1, 0, 0, 0, 0, 0, 0) := cd_of gl_76 rfl
theorem cd_76_82 : sm_cd 76 82 = some (.invokevirtual 184, 3, 68, 0, 2, 3, 2, 0, 0) := cd_of gl_76 rfl
theorem cd_76_85 : sm_cd 76 85 = some (.aload_n 0, 1, 0, 0, 0, 0, 0, 0, 0) := cd_of gl_76 rfl
theorem cd_76_86 : sm_cd 76 86 = some (.bipush 25, 2, 0, 0, 0, 0, 0, 25, 0) := cd_of gl_76 rfl
theorem cd_76_88 : sm_cd 76 88 = some (.iconst 0, 1, 0, 0, 0, 0, 0, 0, 0) := cd_of gl_76 rfl
theorem cd_76_89 : sm_cd 76 89 = some (.iconst 1, 1, 0, 0, 0, 0, 0, 1, 0) := cd_of gl_76 rfl
theorem cd_76_90 : sm_cd 76 90 = some (.iconst (-1), 1, 0, 0, 0, 0, 0, (-1), 0) := cd_of gl_76 rfl
theorem cd_76_91 : sm_cd 76 91 = some (.invokevirtual 149, 3, 58, 0, 4, 5, 2, 0, 0) := cd_of gl_76 rfl
theorem cd_76_94 : sm_cd 76 94 = some (.goto 31, 3, 125, 0, 0, 0, 0, 0, 0) := cd_of gl_76 rfl
theorem cd_76_97 : sm_cd 76 97 = some (.aload_n 0, 1, 0, 0, 0, 0, 0, 0, 0) := cd_of gl_76 rfl
theorem cd_76_98 : sm_cd 76 98 = some (.iload_n 3, 1, 3, 0, 0, 0, 0, 0, 0) := cd_of gl_76 rfl
theorem cd_76_99 : sm_cd 76 99 = some (.ifCond .eq 8, 3, 107, 0, 0, 0, 0, 0, 0) := cd_of gl_76 rfl
theorem cd_76_102 : sm_cd 76 102 = some (.iload_n 3, 1, 3, 0, 0, 0, 0, 0, 0) := cd_of gl_76 rfl
theorem cd_76_103 : sm_cd 76 103 = some (.iconst 1, 1, 0, 0, 0, 0, 0, 1, 0) := cd_of gl_76 rfl
theorem cd_76_104 : sm_cd 76 104 = some (.if_icmp .ne 7, 3, 111, 0, 0, 0, 0, 0, 0) := cd_of gl_76 rfl
theorem cd_76_107 : sm_cd 76 107 = some (.iconst 1, 1, 0, 0, 0, 0, 0, 1, 0) := cd_of gl_76 rfl
theorem cd_76_108 : sm_cd 76 108 = some (.goto 4, 3, 112, 0, 0, 0, 0, 0, 0) := cd_of gl_76 rfl
theorem cd_76_111 : sm_cd 76 111 = some (.iconst 0, 1, 0, 0, 0, 0, 0, 0, 0) := cd_of gl_76 rfl
theorem cd_76_112 : sm_cd 76 112 = some (.iload_n 1, 1, 1, 0, 0, 0, 0, 0, 0) := cd_of gl_76 rfl
theorem cd_76_113 : sm_cd 76 113 = some (.invokevirtual 184, 3, 68, 0, 2, 3, 2, 0, 0) := cd_of gl_76 rfl
theorem cd_76_116 : sm_cd 76 116 = some (.aload_n 0, 1, 0, 0, 0, 0, 0, 0, 0) := cd_of gl_76 rfl
theorem cd_76_117 : sm_cd 76 117 = some (.bipush 26, 2, 0, 0, 0, 0, 0, 26, 0) := cd_of gl_76 rfl
theorem cd_76_119 : sm_cd 76 119 = some (.iconst 0, 1, 0, 0, 0, 0, 0, 0, 0) := cd_of gl_76 rfl
theorem cd_76_120 : sm_cd 76 120 = some (.iconst 1, 1, 0, 0, 0, 0, 0, 1, 0) := cd_of gl_76 rfl
theorem cd_76_121 : sm_cd 76 121 = some (.iconst (-1), 1, 0, 0, 0, 0, 0, (-1), 0) := cd_of gl_76 rfl
theorem cd_76_122 : sm_cd 76 122 = some (.invokevirtual 149, 3, 58, 0, 4, 5, 2, 0, 0) := cd_of gl_76 rfl
theorem cd_76_125 : sm_cd 76 125 = some (.return_, 1, 0, 0, 0, 0, 0, 0, 0) := cd_of gl_76 rfl
noncomputable def f_76_112 (K : Nat → Value) (k d : Nat) (l0 : Nat) (l1 : Int32) (l2 : Int32) (l3 : Int32) (s0 : Nat) (s1 : Int32) (w : aW) (I : aI) (J : aJ) : Option aR :=
  gO w 2 s0 (
  cV (Cl K d 68 [.ref s0, .int s1, .int l1] w I J) fun w_1 I_2 J_3 =>
  gO w_1 2 l0 (
  cV (Cl K d 58 [.ref l0, .int 26, .int 0, .int 1, .int ((-1))] w_1 I_2 J_3) fun w_4 I_5 J_6 =>
  some (none, w_4, I_5, J_6)))
theorem ok_76_112 {K : Nat → Value} {k d : Nat} {l0 : Nat} {l1 : Int32} {l2 : Int32} {l3 : Int32} {s0 : Nat} {s1 : Int32} {w : aW} {I : aI} {J : aJ} {R : aR} (h : f_76_112 K k d l0 l1 l2 l3 s0 s1 w I J = some R) : Go K (d + 1) 76 112 [some (.ref l0), some (.int l1), some (.int l2), some (.int l3)] [.int s1, .ref s0] w I J R := by
  unfold f_76_112 at h
  refine gs_0 (pc' := 113) (L' := [some (.ref l0), some (.int l1), some (.int l2), some (.int l3)]) (st' := [.int l1, .int s1, .ref s0]) cd_76_112 rfl rfl ?_
  obtain ⟨ht, h⟩ := gO_s h
  obtain ⟨w_1, I_2, J_3, hcl, h⟩ := cV_s h
  refine gs_call (as := [.ref s0, .int s1, .int l1]) (rest := []) cd_76_113 rfl (by decide) rfl (sm_rv_ok (by decide) ht) (Nat.le_of_ble_eq_true rfl) (Nat.le_of_ble_eq_true rfl) rfl hcl ?_
  refine gs_0 (pc' := 117) (L' := [some (.ref l0), some (.int l1), some (.int l2), some (.int l3)]) (st' := [.ref l0]) cd_76_116 rfl rfl ?_
  refine gs_0 (pc' := 119) (L' := [some (.ref l0), some (.int l1), some (.int l2), some (.int l3)]) (st' := [.int 26, .ref l0]) cd_76_117 rfl rfl ?_
  refine gs_0 (pc' := 120) (L' := [some (.ref l0), some (.int l1), some (.int l2), some (.int l3)]) (st' := [.int 0, .int 26, .ref l0]) cd_76_119 rfl rfl ?_
  refine gs_0 (pc' := 121) (L' := [some (.ref l0), some (.int l1), some (.int l2), some (.int l3)]) (st' := [.int 1, .int 0, .int 26, .ref l0]) cd_76_120 rfl rfl ?_
  refine gs_0 (pc' := 122) (L' := [some (.ref l0), some (.int l1), some (.int l2), some (.int l3)]) (st' := [.int ((-1)), .int 1, .int 0, .int 26, .ref l0]) cd_76_121 rfl rfl ?_
  obtain ⟨ht, h⟩ := gO_s h
  obtain ⟨w_4, I_5, J_6, hcl, h⟩ := cV_s h
  refine gs_call (as := [.ref l0, .int 26, .int 0, .int 1, .int ((-1))]) (rest := []) cd_76_122 rfl (by decide) rfl (sm_rv_ok (by decide) ht) (Nat.le_of_ble_eq_true rfl) (Nat.le_of_ble_eq_true rfl) rfl hcl ?_
  cases h
  exact gsr cd_76_125 rfl rfl
noncomputable def f_76_107 (K : Nat → Value) (k d : Nat) (l0 : Nat) (l1 : Int32) (l2 : Int32) (l3 : Int32) (s0 : Nat) (w : aW) (I : aI) (J : aJ) : Option aR :=
  f_76_112 K k d l0 l1 l2 l3 s0 1 w I J
theorem ok_76_107 {K : Nat → Value} {k d : Nat} {l0 : Nat} {l1 : Int32} {l2 : Int32} {l3 : Int32} {s0 : Nat} {w : aW} {I : aI} {J : aJ} {R : aR} (h : f_76_107 K k d l0 l1 l2 l3 s0 w I J = some R) : Go K (d + 1) 76 107 [some (.ref l0), some (.int l1), some (.int l2), some (.int l3)] [.ref s0] w I J R := by
  unfold f_76_107 at h
  refine gs_0 (pc' := 108) (L' := [some (.ref l0), some (.int l1), some (.int l2), some (.int l3)]) (st' := [.int 1, .ref s0]) cd_76_107 rfl rfl ?_
  refine gs_0 (pc' := 112) (L' := [some (.ref l0), some (.int l1), some (.int l2), some (.int l3)]) (st' := [.int 1, .ref s0]) cd_76_108 rfl rfl ?_
  exact ok_76_112 h
noncomputable def f_76_81 (K : Nat → Value) (k d : Nat) (l0 : Nat) (l1 : Int32) (l2 : Int32) (l3 : Int32) (s0 : Nat) (s1 : Int32) (w : aW) (I : aI) (J : aJ) : Option aR :=
  gO w 2 s0 (
  cV (Cl K d 68 [.ref s0, .int s1, .int l1] w I J) fun w_1 I_2 J_3 =>
  gO w_1 2 l0 (
  cV (Cl K d 58 [.ref l0, .int 25, .int 0, .int 1, .int ((-1))] w_1 I_2 J_3) fun w_4 I_5 J_6 =>
  some (none, w_4, I_5, J_6)))
theorem ok_76_81 {K : Nat → Value} {k d : Nat} {l0 : Nat} {l1 : Int32} {l2 : Int32} {l3 : Int32} {s0 : Nat} {s1 : Int32} {w : aW} {I : aI} {J : aJ} {R : aR} (h : f_76_81 K k d l0 l1 l2 l3 s0 s1 w I J = some R) : Go K (d + 1) 76 81 [some (.ref l0), some (.int l1), some (.int l2), some (.int l3)] [.int s1, .ref s0] w I J R := by
  unfold f_76_81 at h
  refine gs_0 (pc' := 82) (L' := [some (.ref l0), some (.int l1), some (.int l2), some (.int l3)]) (st' := [.int l1, .int s1, .ref s0]) cd_76_81 rfl rfl ?_
  obtain ⟨ht, h⟩ := gO_s h
  obtain ⟨w_1, I_2, J_3, hcl, h⟩ := cV_s h
  refine gs_call (as := [.ref s0, .int s1, .int l1]) (rest := []) cd_76_82 rfl (by decide) rfl (sm_rv_ok (by decide) ht) (Nat.le_of_ble_eq_true rfl) (Nat.le_of_ble_eq_true rfl) rfl hcl ?_
  refine gs_0 (pc' := 86) (L' := [some (.ref l0), some (.int l1), some (.int l2), some (.int l3)]) (st' := [.ref l0]) cd_76_85 rfl rfl ?_
  refine gs_0 (pc' := 88) (L' := [some (.ref l0), some (.int l1), some (.int l2), some (.int l3)]) (st' := [.int 25, .ref l0]) cd_76_86 rfl rfl ?_
  refine gs_0 (pc' := 89) (L' := [some (.ref l0), some (.int l1), some (.int l2), some (.int l3)]) (st' := [.int 0, .int 25, .ref l0]) cd_76_88 rfl rfl ?_
  refine gs_0 (pc' := 90) (L' := [some (.ref l0), some (.int l1), some (.int l2), some (.int l3)]) (st' := [.int 1, .int 0, .int 25, .ref l0]) cd_76_89 rfl rfl ?_
  refine gs_0 (pc' := 91) (L' := [some (.ref l0), some (.int l1), some (.int l2), some (.int l3)]) (st' := [.int ((-1)), .int 1, .int 0, .int 25, .ref l0]) cd_76_90 rfl rfl ?_
  obtain ⟨ht, h⟩ := gO_s h
  obtain ⟨w_4, I_5, J_6, hcl, h⟩ := cV_s h
  refine gs_call (as := [.ref l0, .int 25, .int 0, .int 1, .int ((-1))]) (rest := []) cd_76_91 rfl (by decide) rfl (sm_rv_ok (by decide) ht) (Nat.le_of_ble_eq_true rfl) (Nat.le_of_ble_eq_true rfl) rfl hcl ?_
  refine gs_0 (pc' := 125) (L' := [some (.ref l0), some (.int l1), some (.int l2), some (.int l3)]) (st' := []) cd_76_94 rfl rfl ?_
  cases h
  exact gsr cd_76_125 rfl rfl
noncomputable def f_76_26 (K : Nat → Value) (k d : Nat) (l0 : Nat) (l1 : Int32) (s0 : Int32) (w : aW) (I : aI) (J : aJ) : Option aR :=
  gO w 2 l0 (
  gV w l0 0 fun q_1 =>
  gO w 4 q_1 (
  cV (Cl K d 42 [.ref q_1] w I J) fun w_2 I_3 J_4 =>
  gO w_2 2 l0 (
  cV (Cl K d 63 [.ref l0, .int 0, .int 0] w_2 I_3 J_4) fun w_5 I_6 J_7 =>
  gO w_5 2 l0 (
  gV w_5 l0 0 fun q_8 =>
  gO w_5 4 q_8 (
  cV (Cl K d 41 [.ref q_8, .int 59] w_5 I_6 J_7) fun w_9 I_10 J_11 =>
  gO w_9 2 l0 (
  cI (Cl K d 67 [.ref l0, .int 1] w_9 I_10 J_11) fun x_15 w_12 I_13 J_14 =>
  if s0 = 0 then
    if x_15 = 0 then
      f_76_107 K k d l0 l1 s0 x_15 l0 w_12 I_13 J_14
    else
      if ¬ x_15 = 1 then
        f_76_112 K k d l0 l1 s0 x_15 l0 0 w_12 I_13 J_14
      else
        f_76_107 K k d l0 l1 s0 x_15 l0 w_12 I_13 J_14
  else
    gO w_12 2 l0 (
    gV w_12 l0 1 fun q_16 =>
    gO w_12 2 l0 (
    gO w_12 1 q_16 (
    cI (Cl K d 52 [.ref q_16, .int (I_13 l0 2), .int 3] w_12 I_13 J_14) fun x_20 w_17 I_18 J_19 =>
    if ¬ x_15 = x_20 then
      f_76_81 K k d l0 l1 s0 x_15 l0 0 w_17 I_18 J_19
    else
      f_76_81 K k d l0 l1 s0 x_15 l0 1 w_17 I_18 J_19)))))))))
theorem ok_76_26 {K : Nat → Value} {k d : Nat} {l0 : Nat} {l1 : Int32} {s0 : Int32} {w : aW} {I : aI} {J : aJ} {R : aR} (h : f_76_26 K k d l0 l1 s0 w I J = some R) : Go K (d + 1) 76 26 [some (.ref l0), some (.int l1), none, none] [.int s0] w I J R := by
  unfold f_76_26 at h
  refine gs_0 (pc' := 27) (L' := [some (.ref l0), some (.int l1), some (.int s0), none]) (st' := []) cd_76_26 rfl rfl ?_
  refine gs_0 (pc' := 28) (L' := [some (.ref l0), some (.int l1), some (.int s0), none]) (st' := [.ref l0]) cd_76_27 rfl rfl ?_
  obtain ⟨ht, h⟩ := gO_s h
  obtain ⟨q_1, hv, h⟩ := gV_s h
  refine gs_gfR cd_76_28 (by decide) ht hv ?_
  obtain ⟨ht, h⟩ := gO_s h
  obtain ⟨w_2, I_3, J_4, hcl, h⟩ := cV_s h
  refine gs_call (as := [.ref q_1]) (rest := []) cd_76_31 rfl (by decide) rfl (sm_rv_ok (by decide) ht) (Nat.le_of_ble_eq_true rfl) (Nat.le_of_ble_eq_true rfl) rfl hcl ?_
  refine gs_0 (pc' := 35) (L' := [some (.ref l0), some (.int l1), some (.int s0), none]) (st' := [.ref l0]) cd_76_34 rfl rfl ?_
  refine gs_0 (pc' := 36) (L' := [some (.ref l0), some (.int l1), some (.int s0), none]) (st' := [.int 0, .ref l0]) cd_76_35 rfl rfl ?_
  refine gs_0 (pc' := 37) (L' := [some (.ref l0), some (.int l1), some (.int s0), none]) (st' := [.int 0, .int 0, .ref l0]) cd_76_36 rfl rfl ?_
  obtain ⟨ht, h⟩ := gO_s h
  obtain ⟨w_5, I_6, J_7, hcl, h⟩ := cV_s h
  refine gs_call (as := [.ref l0, .int 0, .int 0]) (rest := []) cd_76_37 rfl (by decide) rfl (sm_rv_ok (by decide) ht) (Nat.le_of_ble_eq_true rfl) (Nat.le_of_ble_eq_true rfl) rfl hcl ?_
  refine gs_0 (pc' := 41) (L' := [some (.ref l0), some (.int l1), some (.int s0), none]) (st' := [.ref l0]) cd_76_40 rfl rfl ?_
  obtain ⟨ht, h⟩ := gO_s h
  obtain ⟨q_8, hv, h⟩ := gV_s h
  refine gs_gfR cd_76_41 (by decide) ht hv ?_
  refine gs_0 (pc' := 46) (L' := [some (.ref l0), some (.int l1), some (.int s0), none]) (st' := [.int 59, .ref q_8]) cd_76_44 rfl rfl ?_
  obtain ⟨ht, h⟩ := gO_s h
  obtain ⟨w_9, I_10, J_11, hcl, h⟩ := cV_s h
  refine gs_call (as := [.ref q_8, .int 59]) (rest := []) cd_76_46 rfl (by decide) rfl (sm_rv_ok (by decide) ht) (Nat.le_of_ble_eq_true rfl) (Nat.le_of_ble_eq_true rfl) rfl hcl ?_
  refine gs_0 (pc' := 50) (L' := [some (.ref l0), some (.int l1), some (.int s0), none]) (st' := [.ref l0]) cd_76_49 rfl rfl ?_
  refine gs_0 (pc' := 51) (L' := [some (.ref l0), some (.int l1), some (.int s0), none]) (st' := [.int 1, .ref l0]) cd_76_50 rfl rfl ?_
  obtain ⟨ht, h⟩ := gO_s h
  obtain ⟨x_15, w_12, I_13, J_14, hcl, h⟩ := cI_s h
  refine gs_call (as := [.ref l0, .int 1]) (rest := []) cd_76_51 rfl (by decide) rfl (sm_rv_ok (by decide) ht) (Nat.le_of_ble_eq_true rfl) (Nat.le_of_ble_eq_true rfl) rfl hcl ?_
  refine gs_0 (pc' := 55) (L' := [some (.ref l0), some (.int l1), some (.int s0), some (.int x_15)]) (st' := []) cd_76_54 rfl rfl ?_
  refine gs_0 (pc' := 56) (L' := [some (.ref l0), some (.int l1), some (.int s0), some (.int x_15)]) (st' := [.int s0]) cd_76_55 rfl rfl ?_
  refine gs_0 (pc' := if s0 = 0 then 97 else 59) (L' := [some (.ref l0), some (.int l1), some (.int s0), some (.int x_15)]) (st' := []) cd_76_56 rfl rfl ?_
  refine go_ite (fun hc => ?_) (fun hc => ?_)
  · rw [if_pos hc] at h
    refine gs_0 (pc' := 98) (L' := [some (.ref l0), some (.int l1), some (.int s0), some (.int x_15)]) (st' := [.ref l0]) cd_76_97 rfl rfl ?_
    refine gs_0 (pc' := 99) (L' := [some (.ref l0), some (.int l1), some (.int s0), some (.int x_15)]) (st' := [.int x_15, .ref l0]) cd_76_98 rfl rfl ?_
    refine gs_0 (pc' := if x_15 = 0 then 107 else 102) (L' := [some (.ref l0), some (.int l1), some (.int s0), some (.int x_15)]) (st' := [.ref l0]) cd_76_99 rfl rfl ?_
    refine go_ite (fun hc => ?_) (fun hc => ?_)
    · rw [if_pos hc] at h
      exact ok_76_107 h
    · rw [if_neg hc] at h
      refine gs_0 (pc' := 103) (L' := [some (.ref l0), some (.int l1), some (.int s0), some (.int x_15)]) (st' := [.int x_15, .ref l0]) cd_76_102 rfl rfl ?_
      refine gs_0 (pc' := 104) (L' := [some (.ref l0), some (.int l1), some (.int s0), some (.int x_15)]) (st' := [.int 1, .int x_15, .ref l0]) cd_76_103 rfl rfl ?_
      refine gs_0 (pc' := if ¬ x_15 = 1 then 111 else 107) (L' := [some (.ref l0), some (.int l1), some (.int s0), some (.int x_15)]) (st' := [.ref l0]) cd_76_104 rfl rfl ?_
      refine go_ite (fun hc => ?_) (fun hc => ?_)
      · rw [if_pos hc] at h
        refine gs_0 (pc' := 112) (L' := [some (.ref l0), some (.int l1), some (.int s0), some (.int x_15)]) (st' := [.int 0, .ref l0]) cd_76_111 rfl rfl ?_
        exact ok_76_112 h
      · rw [if_neg hc] at h
        exact ok_76_107 h
  · rw [if_neg hc] at h
    refine gs_0 (pc' := 60) (L' := [some (.ref l0), some (.int l1), some (.int s0), some (.int x_15)]) (st' := [.ref l0]) cd_76_59 rfl rfl ?_
    refine gs_0 (pc' := 61) (L' := [some (.ref l0), some (.int l1), some (.int s0), some (.int x_15)]) (st' := [.int x_15, .ref l0]) cd_76_60 rfl rfl ?_
    refine gs_0 (pc' := 62) (L' := [some (.ref l0), some (.int l1), some (.int s0), some (.int x_15)]) (st' := [.ref l0, .int x_15, .ref l0]) cd_76_61 rfl rfl ?_
    obtain ⟨ht, h⟩ := gO_s h
    obtain ⟨q_16, hv, h⟩ := gV_s h
    refine gs_gfR cd_76_62 (by decide) ht hv ?_
    refine gs_0 (pc' := 66) (L' := [some (.ref l0), some (.int l1), some (.int s0), some (.int x_15)]) (st' := [.ref l0, .ref q_16, .int x_15, .ref l0]) cd_76_65 rfl rfl ?_
    obtain ⟨ht, h⟩ := gO_s h
    refine gs_gfI cd_76_66 (by decide) (by decide) ht ?_
    refine gs_0 (pc' := 70) (L' := [some (.ref l0), some (.int l1), some (.int s0), some (.int x_15)]) (st' := [.int 3, .int (I_13 l0 2), .ref q_16, .int x_15, .ref l0]) cd_76_69 rfl rfl ?_
    obtain ⟨ht, h⟩ := gO_s h
    obtain ⟨x_20, w_17, I_18, J_19, hcl, h⟩ := cI_s h
    refine gs_call (as := [.ref q_16, .int (I_13 l0 2), .int 3]) (rest := [.int x_15, .ref l0]) cd_76_70 rfl (by decide) rfl (sm_rv_ok (by decide) ht) (Nat.le_of_ble_eq_true rfl) (Nat.le_of_ble_eq_true rfl) rfl hcl ?_
    refine gs_0 (pc' := if ¬ x_15 = x_20 then 80 else 76) (L' := [some (.ref l0), some (.int l1), some (.int s0), some (.int x_15)]) (st' := [.ref l0]) cd_76_73 rfl rfl ?_
    refine go_ite (fun hc => ?_) (fun hc => ?_)
    · rw [if_pos hc] at h
      refine gs_0 (pc' := 81) (L' := [some (.ref l0), some (.int l1), some (.int s0), some (.int x_15)]) (st' := [.int 0, .ref l0]) cd_76_80 rfl rfl ?_
      exact ok_76_81 h
    · rw [if_neg hc] at h
      refine gs_0 (pc' := 77) (L' := [some (.ref l0), some (.int l1), some (.int s0), some (.int x_15)]) (st' := [.int 1, .ref l0]) cd_76_76 rfl rfl ?_
      refine gs_0 (pc' := 81) (L' := [some (.ref l0), some (.int l1), some (.int s0), some (.int x_15)]) (st' := [.int 1, .ref l0]) cd_76_77 rfl rfl ?_
      exact ok_76_81 h
noncomputable def f_76 (K : Nat → Value) (k d : Nat) (l0 : Nat) (w : aW) (I : aI) (J : aJ) : Option aR :=
  gO w 2 l0 (
  gV w l0 0 fun q_1 =>
  gO w 4 q_1 (
  cI (Cl K d 44 [.ref q_1] w I J) fun x_5 w_2 I_3 J_4 =>
  gO w_2 2 l0 (
  gV w_2 l0 0 fun q_6 =>
  gO w_2 4 q_6 (
  cI (Cl K d 37 [.ref q_6] w_2 I_3 J_4) fun x_10 w_7 I_8 J_9 =>
  if ¬ x_10 = 260 then
    f_76_26 K k d l0 x_5 0 w_7 I_8 J_9
  else
    f_76_26 K k d l0 x_5 1 w_7 I_8 J_9))))
theorem ok_76 {K : Nat → Value} {k d : Nat} {l0 : Nat} {w : aW} {I : aI} {J : aJ} {R : aR} (h : f_76 K k d l0 w I J = some R) : Go K (d + 1) 76 0 [some (.ref l0), none, none, none] [] w I J R := by
  unfold f_76 at h
  refine gs_0 (pc' := 1) (L' := [some (.ref l0), none, none, none]) (st' := [.ref l0]) cd_76_0 rfl rfl ?_
  obtain ⟨ht, h⟩ := gO_s h
  obtain ⟨q_1, hv, h⟩ := gV_s h
  refine gs_gfR cd_76_1 (by decide) ht hv ?_
  obtain ⟨ht, h⟩ := gO_s h
  obtain ⟨x_5, w_2, I_3, J_4, hcl, h⟩ := cI_s h
  refine gs_call (as := [.ref q_1]) (rest := []) cd_76_4 rfl (by decide) rfl (sm_rv_ok (by decide) ht) (Nat.le_of_ble_eq_true rfl) (Nat.le_of_ble_eq_true rfl) rfl hcl ?_
  refine gs_0 (pc' := 8) (L' := [some (.ref l0), some (.int x_5), none, none]) (st' := []) cd_76_7 rfl rfl ?_
  refine gs_0 (pc' := 9) (L' := [some (.ref l0), some (.int x_5), none, none]) (st' := [.ref l0]) cd_76_8 rfl rfl ?_
  obtain ⟨ht, h⟩ := gO_s h
  obtain ⟨q_6, hv, h⟩ := gV_s h
  refine gs_gfR cd_76_9 (by decide) ht hv ?_
  obtain ⟨ht, h⟩ := gO_s h
  obtain ⟨x_10, w_7, I_8, J_9, hcl, h⟩ := cI_s h
  refine gs_call (as := [.ref q_6]) (rest := []) cd_76_12 rfl (by decide) rfl (sm_rv_ok (by decide) ht) (Nat.le_of_ble_eq_true rfl) (Nat.le_of_ble_eq_true rfl) rfl hcl ?_
  refine gs_0 (pc' := 18) (L' := [some (.ref l0), some (.int x_5), none, none]) (st' := [.int 260, .int x_10]) cd_76_15 rfl rfl ?_
  refine gs_0 (pc' := if ¬ x_10 = 260 then 25 else 21) (L' := [some (.ref l0), some (.int x_5), none, none]) (st' := []) cd_76_18 rfl rfl ?_
  refine go_ite (fun hc => ?_) (fun hc => ?_)
  · rw [if_pos hc] at h
    refine gs_0 (pc' := 26) (L' := [some (.ref l0), some (.int x_5), none, none]) (st' := [.int 0]) cd_76_25 rfl rfl ?_
    exact ok_76_26 h
  · rw [if_neg hc] at h
    refine gs_0 (pc' := 22) (L' := [some (.ref l0), some (.int x_5), none, none]) (st' := [.int 1]) cd_76_21 rfl rfl ?_
    refine gs_0 (pc' := 26) (L' := [some (.ref l0), some (.int x_5), none, none]) (st' := [.int 1]) cd_76_22 rfl rfl ?_
    exact ok_76_26 h
theorem cl_76 {K : Nat → Value} {k d : Nat} {l0 : Nat} {w : aW} {I : aI} {J : aJ} {R : aR} (h : f_76 K k d l0 w I J = some R) : Cl K (d + 1) 76 [.ref l0] w I J = some R := Cl_of (ok_76 h)
/-! ProvedMachine$Reader.endFun()V -/
theorem gl_77 : gcd.lookup 77 = some gw_77 := rfl
theorem cd_77_0 : sm_cd 77 0 = some (.aload_n 0, 1, 0, 0, 0, 0, 0, 0, 0) := cd_of gl_77 rfl
theorem cd_77_1 : sm_cd 77 1 = some (.getfield 21, 3, 2, 1, 2, 0, 0, 0, 0) := cd_of gl_77 rfl
theorem cd_77_4 : sm_cd 77 4 = some (.aload_n 0, 1, 0, 0, 0, 0, 0, 0, 0) := cd_of gl_77 rfl
theorem cd_77_5 : sm_cd 77 5 = some (.getfield 25, 3, 2, 2, 0, 0, 0, 0, 0) := cd_of gl_77 rfl
theorem cd_77_8 : sm_cd 77 8 = some (.iconst 3, 1, 0, 0, 0, 0, 0, 3, 0) := cd_of gl_77 rfl
theorem cd_77_9 : sm_cd 77 9 = some (.invokevirtual 109, 3, 52, 0, 2, 4, 1, 0, 0) := cd_of gl_77 rfl
theorem cd_77_12 : sm_cd 77 12 = some (.istore_n 1, 1, 1, 0, 0, 0, 0, 0, 0) := cd_of gl_77 rfl
theorem cd_77_13 : sm_cd 77 13 = some (.aload_n 0, 1, 0, 0, 0, 0, 0, 0, 0) := cd_of gl_77 rfl
theorem cd_77_14 : sm_cd 77 14 = some (.bipush 27, 2, 0, 0, 0, 0, 0, 27, 0) := cd_of gl_77 rfl
theorem cd_77_16 : sm_cd 77 16 = some (.iload_n 1, 1, 1, 0, 0, 0, 0, 0, 0) := cd_of gl_77 rfl
theorem cd_77_17 : sm_cd 77 17 = some (.iconst 0, 1, 0, 0, 0, 0, 0, 0, 0) := cd_of gl_77 rfl
theorem cd_77_18 : sm_cd 77 18 = some (.iload_n 1, 1, 1, 0, 0, 0, 0, 0, 0) := cd_of gl_77 rfl
theorem cd_77_19 : sm_cd 77 19 = some (.invokevirtual 149, 3, 58, 0, 4, 5, 2, 0, 0) := cd_of gl_77 rfl
theorem cd_77_22 : sm_cd 77 22 = some (.aload_n 0, 1, 0, 0, 0, 0, 0, 0, 0) := cd_of gl_77 rfl
theorem cd_77_23 : sm_cd 77 23 = some (.bipush 25, 2, 0, 0, 0, 0, 0, 25, 0) := cd_of gl_77 rfl
theorem cd_77_25 : sm_cd 77 25 = some (.iconst 0, 1, 0, 0, 0, 0, 0, 0, 0) := cd_of gl_77 rfl
theorem cd_77_26 : sm_cd 77 26 = some (.iconst 1, 1, 0, 0, 0, 0, 0, 1, 0) := cd_of gl_77 rfl
theorem cd_77_27 : sm_cd 77 27 = some (.iconst (-1), 1, 0, 0, 0, 0, 0, (-1), 0) := cd_of gl_77 rfl
theorem cd_77_28 : sm_cd 77 28 = some (.invokevirtual 149, 3, 58, 0, 4, 5, 2, 0, 0) := cd_of gl_77 rfl
theorem cd_77_31 : sm_cd 77 31 = some (.return_, 1, 0, 0, 0, 0, 0, 0, 0) := cd_of gl_77 rfl
noncomputable def f_77 (K : Nat → Value) (k d : Nat) (l0 : Nat) (w : aW) (I : aI) (J : aJ) : Option aR :=
  gO w 2 l0 (
  gV w l0 1 fun q_1 =>
  gO w 2 l0 (
  gO w 1 q_1 (
  cI (Cl K d 52 [.ref q_1, .int (I l0 2), .int 3] w I J) fun x_5 w_2 I_3 J_4 =>
  gO w_2 2 l0 (
  cV (Cl K d 58 [.ref l0, .int 27, .int x_5, .int 0, .int x_5] w_2 I_3 J_4) fun w_6 I_7 J_8 =>
  gO w_6 2 l0 (
  cV (Cl K d 58 [.ref l0, .int 25, .int 0, .int 1, .int ((-1))] w_6 I_7 J_8) fun w_9 I_10 J_11 =>
  some (none, w_9, I_10, J_11))))))
theorem ok_77 {K : Nat → Value} {k d : Nat} {l0 : Nat} {w : aW} {I : aI} {J : aJ} {R : aR} (h : f_77 K k d l0 w I J = some R) : Go K (d + 1) 77 0 [some (.ref l0), none] [] w I J R := by
  unfold f_77 at h
  refine gs_0 (pc' := 1) (L' := [some (.ref l0), none]) (st' := [.ref l0]) cd_77_0 rfl rfl ?_
  obtain ⟨ht, h⟩ := gO_s h
  obtain ⟨q_1, hv, h⟩ := gV_s h
  refine gs_gfR cd_77_1 (by decide) ht hv ?_
  refine gs_0 (pc' := 5) (L' := [some (.ref l0), none]) (st' := [.ref l0, .ref q_1]) cd_77_4 rfl rfl ?_
  obtain ⟨ht, h⟩ := gO_s h
  refine gs_gfI cd_77_5 (by decide) (by decide) ht ?_
  refine gs_0 (pc' := 9) (L' := [some (.ref l0), none]) (st' := [.int 3, .int (I l0 2), .ref q_1]) cd_77_8 rfl rfl ?_
  obtain ⟨ht, h⟩ := gO_s h
  obtain ⟨x_5, w_2, I_3, J_4, hcl, h⟩ := cI_s h
  refine gs_call (as := [.ref q_1, .int (I l0 2), .int 3]) (rest := []) cd_77_9 rfl (by decide) rfl (sm_rv_ok (by decide) ht) (Nat.le_of_ble_eq_true rfl) (Nat.le_of_ble_eq_true rfl) rfl hcl ?_
  refine gs_0 (pc' := 13) (L' := [some (.ref l0), some (.int x_5)]) (st' := []) cd_77_12 rfl rfl ?_
  refine gs_0 (pc' := 14) (L' := [some (.ref l0), some (.int x_5)]) (st' := [.ref l0]) cd_77_13 rfl rfl ?_
  refine gs_0 (pc' := 16) (L' := [some (.ref l0), some (.int x_5)]) (st' := [.int 27, .ref l0]) cd_77_14 rfl rfl ?_
  refine gs_0 (pc' := 17) (L' := [some (.ref l0), some (.int x_5)]) (st' := [.int x_5, .int 27, .ref l0]) cd_77_16 rfl rfl ?_
  refine gs_0 (pc' := 18) (L' := [some (.ref l0), some (.int x_5)]) (st' := [.int 0, .int x_5, .int 27, .ref l0]) cd_77_17 rfl rfl ?_
  refine gs_0 (pc' := 19) (L' := [some (.ref l0), some (.int x_5)]) (st' := [.int x_5, .int 0, .int x_5, .int 27, .ref l0]) cd_77_18 rfl rfl ?_
  obtain ⟨ht, h⟩ := gO_s h
  obtain ⟨w_6, I_7, J_8, hcl, h⟩ := cV_s h
  refine gs_call (as := [.ref l0, .int 27, .int x_5, .int 0, .int x_5]) (rest := []) cd_77_19 rfl (by decide) rfl (sm_rv_ok (by decide) ht) (Nat.le_of_ble_eq_true rfl) (Nat.le_of_ble_eq_true rfl) rfl hcl ?_
  refine gs_0 (pc' := 23) (L' := [some (.ref l0), some (.int x_5)]) (st' := [.ref l0]) cd_77_22 rfl rfl ?_
  refine gs_0 (pc' := 25) (L' := [some (.ref l0), some (.int x_5)]) (st' := [.int 25, .ref l0]) cd_77_23 rfl rfl ?_
  refine gs_0 (pc' := 26) (L' := [some (.ref l0), some (.int x_5)]) (st' := [.int 0, .int 25, .ref l0]) cd_77_25 rfl rfl ?_
  refine gs_0 (pc' := 27) (L' := [some (.ref l0), some (.int x_5)]) (st' := [.int 1, .int 0, .int 25, .ref l0]) cd_77_26 rfl rfl ?_
  refine gs_0 (pc' := 28) (L' := [some (.ref l0), some (.int x_5)]) (st' := [.int ((-1)), .int 1, .int 0, .int 25, .ref l0]) cd_77_27 rfl rfl ?_
  obtain ⟨ht, h⟩ := gO_s h
  obtain ⟨w_9, I_10, J_11, hcl, h⟩ := cV_s h
  refine gs_call (as := [.ref l0, .int 25, .int 0, .int 1, .int ((-1))]) (rest := []) cd_77_28 rfl (by decide) rfl (sm_rv_ok (by decide) ht) (Nat.le_of_ble_eq_true rfl) (Nat.le_of_ble_eq_true rfl) rfl hcl ?_
  cases h
  exact gsr cd_77_31 rfl rfl
theorem cl_77 {K : Nat → Value} {k d : Nat} {l0 : Nat} {w : aW} {I : aI} {J : aJ} {R : aR} (h : f_77 K k d l0 w I J = some R) : Cl K (d + 1) 77 [.ref l0] w I J = some R := Cl_of (ok_77 h)
/-! ProvedMachine$Program.markWhatNoWayLeadsTo()V -/
theorem gl_78 : gcd.lookup 78 = some gw_78 := rfl
theorem cd_78_0 : sm_cd 78 0 = some (.iconst 0, 1, 0, 0, 0, 0, 0, 0, 0) := cd_of gl_78 rfl
theorem cd_78_1 : sm_cd 78 1 = some (.istore_n 1, 1, 1, 0, 0, 0, 0, 0, 0) := cd_of gl_78 rfl
theorem cd_78_2 : sm_cd 78 2 = some (.iload_n 1, 1, 1, 0, 0, 0, 0, 0, 0) := cd_of gl_78 rfl
theorem cd_78_3 : sm_cd 78 3 = some (.sipush 200, 3, 0, 0, 0, 0, 0, 200, 0) := cd_of gl_78 rfl
theorem cd_78_6 : sm_cd 78 6 = some (.if_icmp .ge 16, 3, 22, 0, 0, 0, 0, 0, 0) := cd_of gl_78 rfl
theorem cd_78_9 : sm_cd 78 9 = some (.aload_n 0, 1, 0, 0, 0, 0, 0, 0, 0) := cd_of gl_78 rfl
theorem cd_78_10 : sm_cd 78 10 = some (.getfield 22, 3, 1, 3, 2, 0, 0, 0, 0) := cd_of gl_78 rfl
theorem cd_78_13 : sm_cd 78 13 = some (.iload_n 1, 1, 1, 0, 0, 0, 0, 0, 0) := cd_of gl_78 rfl
theorem cd_78_14 : sm_cd 78 14 = some (.iconst 0, 1, 0, 0, 0, 0, 0, 0, 0) := cd_of gl_78 rfl
theorem cd_78_15 : sm_cd 78 15 = some (.bastore, 1, 0, 0, 0, 0, 0, 0, 0) := cd_of gl_78 rfl
theorem cd_78_16 : sm_cd 78 16 = some (.iinc 1 1, 3, 1, 0, 0, 0, 0, 1, 0) := cd_of gl_78 rfl
theorem cd_78_19 : sm_cd 78 19 = some (.goto (-17), 3, 2, 0, 0, 0, 0, 0, 0) := cd_of gl_78 rfl
theorem cd_78_22 : sm_cd 78 22 = some (.iconst 0, 1, 0, 0, 0, 0, 0, 0, 0) := cd_of gl_78 rfl
theorem cd_78_23 : sm_cd 78 23 = some (.istore_n 1, 1, 1, 0, 0, 0, 0, 0, 0) := cd_of gl_78 rfl
theorem cd_78_24 : sm_cd 78 24 = some (.iload_n 1, 1, 1, 0, 0, 0, 0, 0, 0) := cd_of gl_78 rfl
theorem cd_78_25 : sm_cd 78 25 = some (.aload_n 0, 1, 0, 0, 0, 0, 0, 0, 0) := cd_of gl_78 rfl
theorem cd_78_26 : sm_cd 78 26 = some (.getfield 36, 3, 1, 7, 0, 0, 0, 0, 0) := cd_of gl_78 rfl
theorem cd_78_29 : sm_cd 78 29 = some (.if_icmp .ge 19, 3, 48, 0, 0, 0, 0, 0, 0) := cd_of gl_78 rfl
theorem cd_78_32 : sm_cd 78 32 = some (.aload_n 0, 1, 0, 0, 0, 0, 0, 0, 0) := cd_of gl_78 rfl
theorem cd_78_33 : sm_cd 78 33 = some (.aload_n 0, 1, 0, 0, 0, 0, 0, 0, 0) := cd_of gl_78 rfl
theorem cd_78_34 : sm_cd 78 34 = some (.iload_n 1, 1, 1, 0, 0, 0, 0, 0, 0) := cd_of gl_78 rfl
theorem cd_78_35 : sm_cd 78 35 = some (.iconst 0, 1, 0, 0, 0, 0, 0, 0, 0) := cd_of gl_78 rfl
theorem cd_78_36 : sm_cd 78 36 = some (.invokevirtual 51, 3, 52, 0, 2, 4, 1, 0, 0) := cd_of gl_78 rfl
theorem cd_78_39 : sm_cd 78 39 = some (.invokevirtual 55, 3, 79, 0, 1, 2, 1, 0, 0) := cd_of gl_78 rfl
theorem cd_78_42 : sm_cd 78 42 = some (.iinc 1 1, 3, 1, 0, 0, 0, 0, 1, 0) := cd_of gl_78 rfl
theorem cd_78_45 : sm_cd 78 45 = some (.goto (-21), 3, 24, 0, 0, 0, 0, 0, 0) := cd_of gl_78 rfl
theorem cd_78_48 : sm_cd 78 48 = some (.iconst 0, 1, 0, 0, 0, 0, 0, 0, 0) := cd_of gl_78 rfl
theorem cd_78_49 : sm_cd 78 49 = some (.istore_n 1, 1, 1, 0, 0, 0, 0, 0, 0) := cd_of gl_78 rfl
theorem cd_78_50 : sm_cd 78 50 = some (.iload_n 1, 1, 1, 0, 0, 0, 0, 0, 0) := cd_of gl_78 rfl
theorem cd_78_51 : sm_cd 78 51 = some (.aload_n 0, 1, 0, 0, 0, 0, 0, 0, 0) := cd_of gl_78 rfl
theorem cd_78_52 : sm_cd 78 52 = some (.getfield 32, 3, 1, 6, 0, 0, 0, 0, 0) := cd_of gl_78 rfl
theorem cd_78_55 : sm_cd 78 55 = some (.if_icmp .ge 85, 3, 140, 0, 0, 0, 0, 0, 0) := cd_of gl_78 rfl
theorem cd_78_58 : sm_cd 78 58 = some (.iload_n 1, 1, 1, 0, 0, 0, 0, 0, 0) := cd_of gl_78 rfl
theorem cd_78_59 : sm_cd 78 59 = some (.sipush 200, 3, 0, 0, 0, 0, 0, 200, 0) := cd_of gl_78 rfl
theorem cd_78_62 : sm_cd 78 62 = some (.if_icmp .ge 78, 3, 140, 0, 0, 0, 0, 0, 0) := cd_of gl_78 rfl
theorem cd_78_65 : sm_cd 78 65 = some (.aload_n 0, 1, 0, 0, 0, 0, 0, 0, 0) := cd_of gl_78 rfl
theorem cd_78_66 : sm_cd 78 66 = some (.getfield 22, 3, 1, 3, 2, 0, 0, 0, 0) := cd_of gl_78 rfl
theorem cd_78_69 : sm_cd 78 69 = some (.iload_n 1, 1, 1, 0, 0, 0, 0, 0, 0) := cd_of gl_78 rfl
theorem cd_78_70 : sm_cd 78 70 = some (.baload, 1, 0, 0, 0, 0, 0, 0, 0) := cd_of gl_78 rfl
theorem cd_78_71 : sm_cd 78 71 = some (.ifCond .ne 15, 3, 86, 0, 0, 0, 0, 0, 0) := cd_of gl_78 rfl
theorem cd_78_74 : sm_cd 78 74 = some (.aload_n 0, 1, 0, 0, 0, 0, 0, 0, 0) := cd_of gl_78 rfl
theorem cd_78_75 : sm_cd 78 75 = some (.getfield 18, 3, 1, 2, 2, 0, 0, 0, 0) := cd_of gl_78 rfl
theorem cd_78_78 : sm_cd 78 78 = some (.iload_n 1, 1, 1, 0, 0, 0, 0, 0, 0) := cd_of gl_78 rfl
theorem cd_78_79 : sm_cd 78 79 = some (.ldc2_w 49, 3, 0, 0, 0, 0, 0, 0, 3125) := cd_of gl_78 rfl
theorem cd_78_82 : sm_cd 78 82 = some (.lastore, 1, 0, 0, 0, 0, 0, 0, 0) := cd_of gl_78 rfl
theorem cd_78_83 : sm_cd 78 83 = some (.goto 51, 3, 134, 0, 0, 0, 0, 0, 0) := cd_of gl_78 rfl
theorem cd_78_86 : sm_cd 78 86 = some (.aload_n 0, 1, 0, 0, 0, 0, 0, 0, 0) := cd_of gl_78 rfl
theorem cd_78_87 : sm_cd 78 87 = some (.getfield 11, 3, 1, 0, 2, 0, 0, 0, 0) := cd_of gl_78 rfl
theorem cd_78_90 : sm_cd 78 90 = some (.iload_n 1, 1, 1, 0, 0, 0, 0, 0, 0) := cd_of gl_78 rfl
theorem cd_78_91 : sm_cd 78 91 = some (.iaload, 1, 0, 0, 0, 0, 0, 0, 0) := cd_of gl_78 rfl
theorem cd_78_92 : sm_cd 78 92 = some (.istore_n 2, 1, 2, 0, 0, 0, 0, 0, 0) := cd_of gl_78 rfl
theorem cd_78_93 : sm_cd 78 93 = some (.iload_n 2, 1, 2, 0, 0, 0, 0, 0, 0) := cd_of gl_78 rfl
theorem cd_78_94 : sm_cd 78 94 = some (.bipush 23, 2, 0, 0, 0, 0, 0, 23, 0) := cd_of gl_78 rfl
theorem cd_78_96 : sm_cd 78 96 = some (.if_icmp .eq 9, 3, 105, 0, 0, 0, 0, 0, 0) := cd_of gl_78 rfl
theorem cd_78_99 : sm_cd 78 99 = some (.iload_n 2, 1, 2, 0, 0, 0, 0, 0, 0) := cd_of gl_78 rfl
theorem cd_78_100 : sm_cd 78 100 = some (.bipush 24, 2, 0, 0, 0, 0, 0, 24, 0) := cd_of gl_78 rfl
theorem cd_78_102 : sm_cd 78 102 = some (.if_icmp .ne 13, 3, 115, 0, 0, 0, 0, 0, 0) := cd_of gl_78 rfl
theorem cd_78_105 : sm_cd 78 105 = some (.aload_n 0, 1, 0, 0, 0, 0, 0, 0, 0) := cd_of gl_78 rfl
theorem cd_78_106 : sm_cd 78 106 = some (.aload_n 0, 1, 0, 0, 0, 0, 0, 0, 0) := cd_of gl_78 rfl
theorem cd_78_107 : sm_cd 78 107 = some (.getfield 15, 3, 1, 1, 2, 0, 0, 0, 0) := cd_of gl_78 rfl
theorem cd_78_110 : sm_cd 78 110 = some (.iload_n 1, 1, 1, 0, 0, 0, 0, 0, 0) := cd_of gl_78 rfl
theorem cd_78_111 : sm_cd 78 111 = some (.iaload, 1, 0, 0, 0, 0, 0, 0, 0) := cd_of gl_78 rfl
theorem cd_78_112 : sm_cd 78 112 = some (.invokevirtual 55, 3, 79, 0, 1, 2, 1, 0, 0) := cd_of gl_78 rfl
theorem cd_78_115 : sm_cd 78 115 = some (.iload_n 2, 1, 2, 0, 0, 0, 0, 0, 0) := cd_of gl_78 rfl
theorem cd_78_116 : sm_cd 78 116 = some (.bipush 24, 2, 0, 0, 0, 0, 0, 24, 0) := cd_of gl_78 rfl
theorem cd_78_118 : sm_cd 78 118 = some (.if_icmp .eq 16, 3, 134, 0, 0, 0, 0, 0, 0) := cd_of gl_78 rfl
theorem cd_78_121 : sm_cd 78 121 = some (.iload_n 2, 1, 2, 0, 0, 0, 0, 0, 0) := cd_of gl_78 rfl
theorem cd_78_122 : sm_cd 78 122 = some (.bipush 25, 2, 0, 0, 0, 0, 0, 25, 0) := cd_of gl_78 rfl
theorem cd_78_124 : sm_cd 78 124 = some (.if_icmp .eq 10, 3, 134, 0, 0, 0, 0, 0, 0) := cd_of gl_78 rfl
theorem cd_78_127 : sm_cd 78 127 = some (.aload_n 0, 1, 0, 0, 0, 0, 0, 0, 0) := cd_of gl_78 rfl
theorem cd_78_128 : sm_cd 78 128 = some (.iload_n 1, 1, 1, 0, 0, 0, 0, 0, 0) := cd_of gl_78 rfl
theorem cd_78_129 : sm_cd 78 129 = some (.iconst 1, 1, 0, 0, 0, 0, 0, 1, 0) := cd_of gl_78 rfl
theorem cd_78_130 : sm_cd 78 130 = some (.iadd, 1, 0, 0, 0, 0, 0, 0, 0) := cd_of gl_78 rfl
theorem cd_78_131 : sm_cd 78 131 = some (.invokevirtual 55, 3, 79, 0, 1, 2, 1, 0, 0) := cd_of gl_78 rfl
theorem cd_78_134 : sm_cd 78 134 = some (.iinc 1 1, 3, 1, 0, 0, 0, 0, 1, 0) := cd_of gl_78 rfl
theorem cd_78_137 : sm_cd 78 137 = some (.goto (-87), 3, 50, 0, 0, 0, 0, 0, 0) := cd_of gl_78 rfl
theorem cd_78_140 : sm_cd 78 140 = some (.return_, 1, 0, 0, 0, 0, 0, 0, 0) := cd_of gl_78 rfl
noncomputable def f_78_134 (K : Nat → Value) (k d : Nat) (r50 : Nat → Int32 → aW → aI → aJ → Option aR) (l0 : Nat) (l1 : Int32) (w : aW) (I : aI) (J : aJ) : Option aR :=
  lt_ (l1 + 1) fun x_1 =>
  r50 l0 x_1 w I J
theorem ok_78_134 {K : Nat → Value} {k d : Nat} {r50 : Nat → Int32 → aW → aI → aJ → Option aR} (hr50 : ∀ (l0 : Nat) (l1 : Int32) (w : aW) (I : aI) (J : aJ) (R : aR), r50 l0 l1 w I J = some R → Go K (d + 1) 78 50 [some (.ref l0), some (.int l1), none] [] w I J R) {l0 : Nat} {l1 : Int32} {w : aW} {I : aI} {J : aJ} {R : aR} (h : f_78_134 K k d r50 l0 l1 w I J = some R) : Go K (d + 1) 78 134 [some (.ref l0), some (.int l1), none] [] w I J R := by
  unfold f_78_134 at h
  refine gs_0 (pc' := 137) (L' := [some (.ref l0), some (.int (l1 + 1)), none]) (st' := []) cd_78_134 rfl rfl ?_
  obtain ⟨x_1, hx, h⟩ := lt_s_ h
  rw [hx]
  clear hx
  refine gs_0 (pc' := 50) (L' := [some (.ref l0), some (.int x_1), none]) (st' := []) cd_78_137 rfl rfl ?_
  exact hr50 l0 x_1 _ _ _ _ h
noncomputable def f_78_115 (K : Nat → Value) (k d : Nat) (r50 : Nat → Int32 → aW → aI → aJ → Option aR) (l0 : Nat) (l1 : Int32) (l2 : Int32) (w : aW) (I : aI) (J : aJ) : Option aR :=
  if l2 = 24 then
    f_78_134 K k d r50 l0 l1 w I J
  else
    if l2 = 25 then
      f_78_134 K k d r50 l0 l1 w I J
    else
      gO w 1 l0 (
      cV (Cl K d 79 [.ref l0, .int (l1 + 1)] w I J) fun w_1 I_2 J_3 =>
      f_78_134 K k d r50 l0 l1 w_1 I_2 J_3)
theorem ok_78_115 {K : Nat → Value} {k d : Nat} {r50 : Nat → Int32 → aW → aI → aJ → Option aR} (hr50 : ∀ (l0 : Nat) (l1 : Int32) (w : aW) (I : aI) (J : aJ) (R : aR), r50 l0 l1 w I J = some R → Go K (d + 1) 78 50 [some (.ref l0), some (.int l1), none] [] w I J R) {l0 : Nat} {l1 : Int32} {l2 : Int32} {w : aW} {I : aI} {J : aJ} {R : aR} (h : f_78_115 K k d r50 l0 l1 l2 w I J = some R) : Go K (d + 1) 78 115 [some (.ref l0), some (.int l1), some (.int l2)] [] w I J R := by
  unfold f_78_115 at h
  refine gs_0 (pc' := 116) (L' := [some (.ref l0), some (.int l1), some (.int l2)]) (st' := [.int l2]) cd_78_115 rfl rfl ?_
  refine gs_0 (pc' := 118) (L' := [some (.ref l0), some (.int l1), some (.int l2)]) (st' := [.int 24, .int l2]) cd_78_116 rfl rfl ?_
  refine gs_0 (pc' := if l2 = 24 then 134 else 121) (L' := [some (.ref l0), some (.int l1), some (.int l2)]) (st' := []) cd_78_118 rfl rfl ?_
  refine go_ite (fun hc => ?_) (fun hc => ?_)
  · rw [if_pos hc] at h
    refine go_drop [some (.ref l0), some (.int l1), none] ⟨rfl, ⟨rfl, ⟨rfl, trivial⟩⟩⟩ ?_
    exact ok_78_134 hr50 h
  · rw [if_neg hc] at h
    refine gs_0 (pc' := 122) (L' := [some (.ref l0), some (.int l1), some (.int l2)]) (st' := [.int l2]) cd_78_121 rfl rfl ?_
    refine gs_0 (pc' := 124) (L' := [some (.ref l0), some (.int l1), some (.int l2)]) (st' := [.int 25, .int l2]) cd_78_122 rfl rfl ?_
    refine gs_0 (pc' := if l2 = 25 then 134 else 127) (L' := [some (.ref l0), some (.int l1), some (.int l2)]) (st' := []) cd_78_124 rfl rfl ?_
    refine go_ite (fun hc => ?_) (fun hc => ?_)
    · rw [if_pos hc] at h
      refine go_drop [some (.ref l0), some (.int l1), none] ⟨rfl, ⟨rfl, ⟨rfl, trivial⟩⟩⟩ ?_
      exact ok_78_134 hr50 h
    · rw [if_neg hc] at h
      refine gs_0 (pc' := 128) (L' := [some (.ref l0), some (.int l1), some (.int l2)]) (st' := [.ref l0]) cd_78_127 rfl rfl ?_
      refine gs_0 (pc' := 129) (L' := [some (.ref l0), some (.int l1), some (.int l2)]) (st' := [.int l1, .ref l0]) cd_78_128 rfl rfl ?_
      refine gs_0 (pc' := 130) (L' := [some (.ref l0), some (.int l1), some (.int l2)]) (st' := [.int 1, .int l1, .ref l0]) cd_78_129 rfl rfl ?_
      refine gs_0 (pc' := 131) (L' := [some (.ref l0), some (.int l1), some (.int l2)]) (st' := [.int (l1 + 1), .ref l0]) cd_78_130 rfl rfl ?_
      obtain ⟨ht, h⟩ := gO_s h
      obtain ⟨w_1, I_2, J_3, hcl, h⟩ := cV_s h
      refine gs_call (as := [.ref l0, .int (l1 + 1)]) (rest := []) cd_78_131 rfl (by decide) rfl (sm_rv_ok (by decide) ht) (Nat.le_of_ble_eq_true rfl) (Nat.le_of_ble_eq_true rfl) rfl hcl ?_
      refine go_drop [some (.ref l0), some (.int l1), none] ⟨rfl, ⟨rfl, ⟨rfl, trivial⟩⟩⟩ ?_
      exact ok_78_134 hr50 h
noncomputable def f_78_105 (K : Nat → Value) (k d : Nat) (r50 : Nat → Int32 → aW → aI → aJ → Option aR) (l0 : Nat) (l1 : Int32) (l2 : Int32) (w : aW) (I : aI) (J : aJ) : Option aR :=
  gO w 1 l0 (
  gV w l0 1 fun q_1 =>
  gA w 10 20 q_1 l1 (
  gO w 1 l0 (
  cV (Cl K d 79 [.ref l0, .int (I q_1 (l1 : Int32).toNatClampNeg)] w I J) fun w_2 I_3 J_4 =>
  f_78_115 K k d r50 l0 l1 l2 w_2 I_3 J_4)))
theorem ok_78_105 {K : Nat → Value} {k d : Nat} {r50 : Nat → Int32 → aW → aI → aJ → Option aR} (hr50 : ∀ (l0 : Nat) (l1 : Int32) (w : aW) (I : aI) (J : aJ) (R : aR), r50 l0 l1 w I J = some R → Go K (d + 1) 78 50 [some (.ref l0), some (.int l1), none] [] w I J R) {l0 : Nat} {l1 : Int32} {l2 : Int32} {w : aW} {I : aI} {J : aJ} {R : aR} (h : f_78_105 K k d r50 l0 l1 l2 w I J = some R) : Go K (d + 1) 78 105 [some (.ref l0), some (.int l1), some (.int l2)] [] w I J R := by
  unfold f_78_105 at h
  refine gs_0 (pc' := 106) (L' := [some (.ref l0), some (.int l1), some (.int l2)]) (st' := [.ref l0]) cd_78_105 rfl rfl ?_
  refine gs_0 (pc' := 107) (L' := [some (.ref l0), some (.int l1), some (.int l2)]) (st' := [.ref l0, .ref l0]) cd_78_106 rfl rfl ?_
  obtain ⟨ht, h⟩ := gO_s h
  obtain ⟨q_1, hv, h⟩ := gV_s h
  refine gs_gfR cd_78_107 (by decide) ht hv ?_
  refine gs_0 (pc' := 111) (L' := [some (.ref l0), some (.int l1), some (.int l2)]) (st' := [.int l1, .ref q_1, .ref l0]) cd_78_110 rfl rfl ?_
  obtain ⟨ht, h⟩ := gA_s h
  refine gs_iald cd_78_111 ht ?_
  obtain ⟨ht, h⟩ := gO_s h
  obtain ⟨w_2, I_3, J_4, hcl, h⟩ := cV_s h
  refine gs_call (as := [.ref l0, .int (I q_1 (l1 : Int32).toNatClampNeg)]) (rest := []) cd_78_112 rfl (by decide) rfl (sm_rv_ok (by decide) ht) (Nat.le_of_ble_eq_true rfl) (Nat.le_of_ble_eq_true rfl) rfl hcl ?_
  exact ok_78_115 hr50 h
noncomputable def f_78_50 (K : Nat → Value) (k : Nat) (d : Nat) : Nat → Int32 → aW → aI → aJ → Option aR :=
  match k with
  | 0 => fun _ _ _ _ _ => none
  | k + 1 => fun l0 l1 w I J =>
  lt_ (f_78_50 K k d) fun r50 =>
  gO w 1 l0 (
  if (I l0 6) ≤ l1 then
    some (none, w, I, J)
  else
    if 200 ≤ l1 then
      some (none, w, I, J)
    else
      gO w 1 l0 (
      gV w l0 3 fun q_1 =>
      gA w 12 21 q_1 l1 (
      if ¬ (I q_1 (l1 : Int32).toNatClampNeg) = 0 then
        gO w 1 l0 (
        gV w l0 0 fun q_2 =>
        gA w 10 20 q_2 l1 (
        lt_ (I q_2 (l1 : Int32).toNatClampNeg) fun x_3 =>
        if x_3 = 23 then
          f_78_105 K k d r50 l0 l1 x_3 w I J
        else
          if ¬ x_3 = 24 then
            f_78_115 K k d r50 l0 l1 x_3 w I J
          else
            f_78_105 K k d r50 l0 l1 x_3 w I J))
      else
        gO w 1 l0 (
        gV w l0 2 fun q_4 =>
        gA w 11 11 q_4 l1 (
        lt_ (sm_up2 J q_4 (l1 : Int32).toNatClampNeg 3125) fun J_5 =>
        f_78_134 K k d r50 l0 l1 w I J_5)))))
theorem ok_78_50 {K : Nat → Value} {d : Nat} : ∀ {k : Nat} {l0 : Nat} {l1 : Int32} {w : aW} {I : aI} {J : aJ} {R : aR}, f_78_50 K k d l0 l1 w I J = some R → Go K (d + 1) 78 50 [some (.ref l0), some (.int l1), none] [] w I J R := by
  intro k
  induction k with
  | zero => intro l0 l1 w I J R h; cases h
  | succ k ih =>
    intro l0 l1 w I J R h
    have hr50 : ∀ (l0 : Nat) (l1 : Int32) (w : aW) (I : aI) (J : aJ) (R : aR), f_78_50 K k d l0 l1 w I J = some R → Go K (d + 1) 78 50 [some (.ref l0), some (.int l1), none] [] w I J R := fun l0 l1 w I J R h => ih h
    rw [f_78_50] at h
    obtain ⟨r50, hx, h⟩ := lt_s_ h
    rw [hx] at hr50
    clear hx ih
    refine gs_0 (pc' := 51) (L' := [some (.ref l0), some (.int l1), none]) (st' := [.int l1]) cd_78_50 rfl rfl ?_
    refine gs_0 (pc' := 52) (L' := [some (.ref l0), some (.int l1), none]) (st' := [.ref l0, .int l1]) cd_78_51 rfl rfl ?_
    obtain ⟨ht, h⟩ := gO_s h
    refine gs_gfI cd_78_52 (by decide) (by decide) ht ?_
    refine gs_0 (pc' := if (I l0 6) ≤ l1 then 140 else 58) (L' := [some (.ref l0), some (.int l1), none]) (st' := []) cd_78_55 rfl rfl ?_
    refine go_ite (fun hc => ?_) (fun hc => ?_)
    · rw [if_pos hc] at h
      cases h
      exact gsr cd_78_140 rfl rfl
    · rw [if_neg hc] at h
      refine gs_0 (pc' := 59) (L' := [some (.ref l0), some (.int l1), none]) (st' := [.int l1]) cd_78_58 rfl rfl ?_
      refine gs_0 (pc' := 62) (L' := [some (.ref l0), some (.int l1), none]) (st' := [.int 200, .int l1]) cd_78_59 rfl rfl ?_
      refine gs_0 (pc' := if 200 ≤ l1 then 140 else 65) (L' := [some (.ref l0), some (.int l1), none]) (st' := []) cd_78_62 rfl rfl ?_
      refine go_ite (fun hc => ?_) (fun hc => ?_)
      · rw [if_pos hc] at h
        cases h
        exact gsr cd_78_140 rfl rfl
      · rw [if_neg hc] at h
        refine gs_0 (pc' := 66) (L' := [some (.ref l0), some (.int l1), none]) (st' := [.ref l0]) cd_78_65 rfl rfl ?_
        obtain ⟨ht, h⟩ := gO_s h
        obtain ⟨q_1, hv, h⟩ := gV_s h
        refine gs_gfR cd_78_66 (by decide) ht hv ?_
        refine gs_0 (pc' := 70) (L' := [some (.ref l0), some (.int l1), none]) (st' := [.int l1, .ref q_1]) cd_78_69 rfl rfl ?_
        obtain ⟨ht, h⟩ := gA_s h
        refine gs_bald cd_78_70 ht ?_
        refine gs_0 (pc' := if ¬ (I q_1 (l1 : Int32).toNatClampNeg) = 0 then 86 else 74) (L' := [some (.ref l0), some (.int l1), none]) (st' := []) cd_78_71 rfl rfl ?_
        refine go_ite (fun hc => ?_) (fun hc => ?_)
        · rw [if_pos hc] at h
          refine gs_0 (pc' := 87) (L' := [some (.ref l0), some (.int l1), none]) (st' := [.ref l0]) cd_78_86 rfl rfl ?_
          obtain ⟨ht, h⟩ := gO_s h
          obtain ⟨q_2, hv, h⟩ := gV_s h
          refine gs_gfR cd_78_87 (by decide) ht hv ?_
          refine gs_0 (pc' := 91) (L' := [some (.ref l0), some (.int l1), none]) (st' := [.int l1, .ref q_2]) cd_78_90 rfl rfl ?_
          obtain ⟨ht, h⟩ := gA_s h
          refine gs_iald cd_78_91 ht ?_
          refine gs_0 (pc' := 93) (L' := [some (.ref l0), some (.int l1), some (.int (I q_2 (l1 : Int32).toNatClampNeg))]) (st' := []) cd_78_92 rfl rfl ?_
          obtain ⟨x_3, hx, h⟩ := lt_s_ h
          rw [hx]
          clear hx
          refine gs_0 (pc' := 94) (L' := [some (.ref l0), some (.int l1), some (.int x_3)]) (st' := [.int x_3]) cd_78_93 rfl rfl ?_
          refine gs_0 (pc' := 96) (L' := [some (.ref l0), some (.int l1), some (.int x_3)]) (st' := [.int 23, .int x_3]) cd_78_94 rfl rfl ?_
          refine gs_0 (pc' := if x_3 = 23 then 105 else 99) (L' := [some (.ref l0), some (.int l1), some (.int x_3)]) (st' := []) cd_78_96 rfl rfl ?_
          refine go_ite (fun hc => ?_) (fun hc => ?_)
          · rw [if_pos hc] at h
            exact ok_78_105 hr50 h
          · rw [if_neg hc] at h
            refine gs_0 (pc' := 100) (L' := [some (.ref l0), some (.int l1), some (.int x_3)]) (st' := [.int x_3]) cd_78_99 rfl rfl ?_
            refine gs_0 (pc' := 102) (L' := [some (.ref l0), some (.int l1), some (.int x_3)]) (st' := [.int 24, .int x_3]) cd_78_100 rfl rfl ?_
            refine gs_0 (pc' := if ¬ x_3 = 24 then 115 else 105) (L' := [some (.ref l0), some (.int l1), some (.int x_3)]) (st' := []) cd_78_102 rfl rfl ?_
            refine go_ite (fun hc => ?_) (fun hc => ?_)
            · rw [if_pos hc] at h
              exact ok_78_115 hr50 h
            · rw [if_neg hc] at h
              exact ok_78_105 hr50 h
        · rw [if_neg hc] at h
          refine gs_0 (pc' := 75) (L' := [some (.ref l0), some (.int l1), none]) (st' := [.ref l0]) cd_78_74 rfl rfl ?_
          obtain ⟨ht, h⟩ := gO_s h
          obtain ⟨q_4, hv, h⟩ := gV_s h
          refine gs_gfR cd_78_75 (by decide) ht hv ?_
          refine gs_0 (pc' := 79) (L' := [some (.ref l0), some (.int l1), none]) (st' := [.int l1, .ref q_4]) cd_78_78 rfl rfl ?_
          refine gs_0 (pc' := 82) (L' := [some (.ref l0), some (.int l1), none]) (st' := [.long 3125, .int l1, .ref q_4]) cd_78_79 rfl rfl ?_
          obtain ⟨ht, h⟩ := gA_s h
          refine gs_last cd_78_82 ht ?_
          obtain ⟨J_5, hx, h⟩ := lt_s_ h
          rw [hx]
          refine gs_0 (pc' := 134) (L' := [some (.ref l0), some (.int l1), none]) (st' := []) cd_78_83 rfl rfl ?_
          exact ok_78_134 hr50 h
noncomputable def f_78_24 (K : Nat → Value) (k : Nat) (d : Nat) : Nat → Int32 → aW → aI → aJ → Option aR :=
  match k with
  | 0 => fun _ _ _ _ _ => none
  | k + 1 => fun l0 l1 w I J =>
  lt_ (f_78_24 K k d) fun r24 =>
  gO w 1 l0 (
  if (I l0 7) ≤ l1 then
    f_78_50 K k d l0 0 w I J
  else
    gO w 1 l0 (
    cI (Cl K d 52 [.ref l0, .int l1, .int 0] w I J) fun x_4 w_1 I_2 J_3 =>
    gO w_1 1 l0 (
    cV (Cl K d 79 [.ref l0, .int x_4] w_1 I_2 J_3) fun w_5 I_6 J_7 =>
    lt_ (l1 + 1) fun x_8 =>
    r24 l0 x_8 w_5 I_6 J_7)))
theorem ok_78_24 {K : Nat → Value} {d : Nat} : ∀ {k : Nat} {l0 : Nat} {l1 : Int32} {w : aW} {I : aI} {J : aJ} {R : aR}, f_78_24 K k d l0 l1 w I J = some R → Go K (d + 1) 78 24 [some (.ref l0), some (.int l1), none] [] w I J R := by
  intro k
  induction k with
  | zero => intro l0 l1 w I J R h; cases h
  | succ k ih =>
    intro l0 l1 w I J R h
    have hr24 : ∀ (l0 : Nat) (l1 : Int32) (w : aW) (I : aI) (J : aJ) (R : aR), f_78_24 K k d l0 l1 w I J = some R → Go K (d + 1) 78 24 [some (.ref l0), some (.int l1), none] [] w I J R := fun l0 l1 w I J R h => ih h
    rw [f_78_24] at h
    obtain ⟨r24, hx, h⟩ := lt_s_ h
    rw [hx] at hr24
    clear hx ih
    refine gs_0 (pc' := 25) (L' := [some (.ref l0), some (.int l1), none]) (st' := [.int l1]) cd_78_24 rfl rfl ?_
    refine gs_0 (pc' := 26) (L' := [some (.ref l0), some (.int l1), none]) (st' := [.ref l0, .int l1]) cd_78_25 rfl rfl ?_
    obtain ⟨ht, h⟩ := gO_s h
    refine gs_gfI cd_78_26 (by decide) (by decide) ht ?_
    refine gs_0 (pc' := if (I l0 7) ≤ l1 then 48 else 32) (L' := [some (.ref l0), some (.int l1), none]) (st' := []) cd_78_29 rfl rfl ?_
    refine go_ite (fun hc => ?_) (fun hc => ?_)
    · rw [if_pos hc] at h
      refine gs_0 (pc' := 49) (L' := [some (.ref l0), some (.int l1), none]) (st' := [.int 0]) cd_78_48 rfl rfl ?_
      refine gs_0 (pc' := 50) (L' := [some (.ref l0), some (.int 0), none]) (st' := []) cd_78_49 rfl rfl ?_
      exact ok_78_50 h
    · rw [if_neg hc] at h
      refine gs_0 (pc' := 33) (L' := [some (.ref l0), some (.int l1), none]) (st' := [.ref l0]) cd_78_32 rfl rfl ?_
      refine gs_0 (pc' := 34) (L' := [some (.ref l0), some (.int l1), none]) (st' := [.ref l0, .ref l0]) cd_78_33 rfl rfl ?_
      refine gs_0 (pc' := 35) (L' := [some (.ref l0), some (.int l1), none]) (st' := [.int l1, .ref l0, .ref l0]) cd_78_34 rfl rfl ?_
      refine gs_0 (pc' := 36) (L' := [some (.ref l0), some (.int l1), none]) (st' := [.int 0, .int l1, .ref l0, .ref l0]) cd_78_35 rfl rfl ?_
      obtain ⟨ht, h⟩ := gO_s h
      obtain ⟨x_4, w_1, I_2, J_3, hcl, h⟩ := cI_s h
      refine gs_call (as := [.ref l0, .int l1, .int 0]) (rest := [.ref l0]) cd_78_36 rfl (by decide) rfl (sm_rv_ok (by decide) ht) (Nat.le_of_ble_eq_true rfl) (Nat.le_of_ble_eq_true rfl) rfl hcl ?_
      obtain ⟨ht, h⟩ := gO_s h
      obtain ⟨w_5, I_6, J_7, hcl, h⟩ := cV_s h
      refine gs_call (as := [.ref l0, .int x_4]) (rest := []) cd_78_39 rfl (by decide) rfl (sm_rv_ok (by decide) ht) (Nat.le_of_ble_eq_true rfl) (Nat.le_of_ble_eq_true rfl) rfl hcl ?_
      refine gs_0 (pc' := 45) (L' := [some (.ref l0), some (.int (l1 + 1)), none]) (st' := []) cd_78_42 rfl rfl ?_
      obtain ⟨x_8, hx, h⟩ := lt_s_ h
      rw [hx]
      clear hx
      refine gs_0 (pc' := 24) (L' := [some (.ref l0), some (.int x_8), none]) (st' := []) cd_78_45 rfl rfl ?_
      exact hr24 l0 x_8 _ _ _ _ h
noncomputable def f_78_2 (K : Nat → Value) (k : Nat) (d : Nat) : Nat → Int32 → aW → aI → aJ → Option aR :=
  match k with
  | 0 => fun _ _ _ _ _ => none
  | k + 1 => fun l0 l1 w I J =>
  lt_ (f_78_2 K k d) fun r2 =>
  if 200 ≤ l1 then
    f_78_24 K k d l0 0 w I J
  else
    gO w 1 l0 (
    gV w l0 3 fun q_1 =>
    gA w 12 12 q_1 l1 (
    lt_ (sm_up2 I q_1 (l1 : Int32).toNatClampNeg 0) fun I_2 =>
    lt_ (l1 + 1) fun x_3 =>
    r2 l0 x_3 w I_2 J))
theorem ok_78_2 {K : Nat → Value} {d : Nat} : ∀ {k : Nat} {l0 : Nat} {l1 : Int32} {w : aW} {I : aI} {J : aJ} {R : aR}, f_78_2 K k d l0 l1 w I J = some R → Go K (d + 1) 78 2 [some (.ref l0), some (.int l1), none] [] w I J R := by
  intro k
  induction k with
  | zero => intro l0 l1 w I J R h; cases h
  | succ k ih =>
    intro l0 l1 w I J R h
    have hr2 : ∀ (l0 : Nat) (l1 : Int32) (w : aW) (I : aI) (J : aJ) (R : aR), f_78_2 K k d l0 l1 w I J = some R → Go K (d + 1) 78 2 [some (.ref l0), some (.int l1), none] [] w I J R := fun l0 l1 w I J R h => ih h
    rw [f_78_2] at h
    obtain ⟨r2, hx, h⟩ := lt_s_ h
    rw [hx] at hr2
    clear hx ih
    refine gs_0 (pc' := 3) (L' := [some (.ref l0), some (.int l1), none]) (st' := [.int l1]) cd_78_2 rfl rfl ?_
    refine gs_0 (pc' := 6) (L' := [some (.ref l0), some (.int l1), none]) (st' := [.int 200, .int l1]) cd_78_3 rfl rfl ?_
    refine gs_0 (pc' := if 200 ≤ l1 then 22 else 9) (L' := [some (.ref l0), some (.int l1), none]) (st' := []) cd_78_6 rfl rfl ?_
    refine go_ite (fun hc => ?_) (fun hc => ?_)
    · rw [if_pos hc] at h
      refine gs_0 (pc' := 23) (L' := [some (.ref l0), some (.int l1), none]) (st' := [.int 0]) cd_78_22 rfl rfl ?_
      refine gs_0 (pc' := 24) (L' := [some (.ref l0), some (.int 0), none]) (st' := []) cd_78_23 rfl rfl ?_
      exact ok_78_24 h
    · rw [if_neg hc] at h
      refine gs_0 (pc' := 10) (L' := [some (.ref l0), some (.int l1), none]) (st' := [.ref l0]) cd_78_9 rfl rfl ?_
      obtain ⟨ht, h⟩ := gO_s h
      obtain ⟨q_1, hv, h⟩ := gV_s h
      refine gs_gfR cd_78_10 (by decide) ht hv ?_
      refine gs_0 (pc' := 14) (L' := [some (.ref l0), some (.int l1), none]) (st' := [.int l1, .ref q_1]) cd_78_13 rfl rfl ?_
      refine gs_0 (pc' := 15) (L' := [some (.ref l0), some (.int l1), none]) (st' := [.int 0, .int l1, .ref q_1]) cd_78_14 rfl rfl ?_
      obtain ⟨ht, h⟩ := gA_s h
      refine gs_zast cd_78_15 (Or.inl rfl) ht ?_
      obtain ⟨I_2, hx, h⟩ := lt_s_ h
      rw [hx]
      refine gs_0 (pc' := 19) (L' := [some (.ref l0), some (.int (l1 + 1)), none]) (st' := []) cd_78_16 rfl rfl ?_
      obtain ⟨x_3, hx, h⟩ := lt_s_ h
      rw [hx]
      clear hx
      refine gs_0 (pc' := 2) (L' := [some (.ref l0), some (.int x_3), none]) (st' := []) cd_78_19 rfl rfl ?_
      exact hr2 l0 x_3 _ _ _ _ h
noncomputable def f_78 (K : Nat → Value) (k d : Nat) (l0 : Nat) (w : aW) (I : aI) (J : aJ) : Option aR :=
  f_78_2 K k d l0 0 w I J
theorem ok_78 {K : Nat → Value} {k d : Nat} {l0 : Nat} {w : aW} {I : aI} {J : aJ} {R : aR} (h : f_78 K k d l0 w I J = some R) : Go K (d + 1) 78 0 [some (.ref l0), none, none] [] w I J R := by
  unfold f_78 at h
  refine gs_0 (pc' := 1) (L' := [some (.ref l0), none, none]) (st' := [.int 0]) cd_78_0 rfl rfl ?_
  refine gs_0 (pc' := 2) (L' := [some (.ref l0), some (.int 0), none]) (st' := []) cd_78_1 rfl rfl ?_
  exact ok_78_2 h
theorem cl_78 {K : Nat → Value} {k d : Nat} {l0 : Nat} {w : aW} {I : aI} {J : aJ} {R : aR} (h : f_78 K k d l0 w I J = some R) : Cl K (d + 1) 78 [.ref l0] w I J = some R := Cl_of (ok_78 h)
/-! ProvedMachine$Program.reach(I)V -/
theorem gl_79 : gcd.lookup 79 = some gw_79 := rfl
theorem cd_79_0 : sm_cd 79 0 = some (.aload_n 0, 1, 0, 0, 0, 0, 0, 0, 0) := cd_of gl_79 rfl
theorem cd_79_1 : sm_cd 79 1 = some (.iload_n 1, 1, 1, 0, 0, 0, 0, 0, 0) := cd_of gl_79 rfl
theorem cd_79_2 : sm_cd 79 2 = some (.invokevirtual 45, 3, 61, 0, 1, 2, 1, 0, 0) := cd_of gl_79 rfl
theorem cd_79_5 : sm_cd 79 5 = some (.ifCond .eq 10, 3, 15, 0, 0, 0, 0, 0, 0) := cd_of gl_79 rfl
theorem cd_79_8 : sm_cd 79 8 = some (.aload_n 0, 1, 0, 0, 0, 0, 0, 0, 0) := cd_of gl_79 rfl
theorem cd_79_9 : sm_cd 79 9 = some (.getfield 22, 3, 1, 3, 2, 0, 0, 0, 0) := cd_of gl_79 rfl
theorem cd_79_12 : sm_cd 79 12 = some (.iload_n 1, 1, 1, 0, 0, 0, 0, 0, 0) := cd_of gl_79 rfl
theorem cd_79_13 : sm_cd 79 13 = some (.iconst 1, 1, 0, 0, 0, 0, 0, 1, 0) := cd_of gl_79 rfl
theorem cd_79_14 : sm_cd 79 14 = some (.bastore, 1, 0, 0, 0, 0, 0, 0, 0) := cd_of gl_79 rfl
theorem cd_79_15 : sm_cd 79 15 = some (.return_, 1, 0, 0, 0, 0, 0, 0, 0) := cd_of gl_79 rfl
noncomputable def f_79 (K : Nat → Value) (k d : Nat) (l0 : Nat) (l1 : Int32) (w : aW) (I : aI) (J : aJ) : Option aR :=
  gO w 1 l0 (
  cI (Cl K d 61 [.ref l0, .int l1] w I J) fun x_4 w_1 I_2 J_3 =>
  if x_4 = 0 then
    some (none, w_1, I_2, J_3)
  else
    gO w_1 1 l0 (
    gV w_1 l0 3 fun q_5 =>
    gA w_1 12 12 q_5 l1 (
    lt_ (sm_up2 I_2 q_5 (l1 : Int32).toNatClampNeg 1) fun I_6 =>
    some (none, w_1, I_6, J_3))))
theorem ok_79 {K : Nat → Value} {k d : Nat} {l0 : Nat} {l1 : Int32} {w : aW} {I : aI} {J : aJ} {R : aR} (h : f_79 K k d l0 l1 w I J = some R) : Go K (d + 1) 79 0 [some (.ref l0), some (.int l1)] [] w I J R := by
  unfold f_79 at h
  refine gs_0 (pc' := 1) (L' := [some (.ref l0), some (.int l1)]) (st' := [.ref l0]) cd_79_0 rfl rfl ?_
  refine gs_0 (pc' := 2) (L' := [some (.ref l0), some (.int l1)]) (st' := [.int l1, .ref l0]) cd_79_1 rfl rfl ?_
  obtain ⟨ht, h⟩ := gO_s h
  obtain ⟨x_4, w_1, I_2, J_3, hcl, h⟩ := cI_s h
  refine gs_call (as := [.ref l0, .int l1]) (rest := []) cd_79_2 rfl (by decide) rfl (sm_rv_ok (by decide) ht) (Nat.le_of_ble_eq_true rfl) (Nat.le_of_ble_eq_true rfl) rfl hcl ?_
  refine gs_0 (pc' := if x_4 = 0 then 15 else 8) (L' := [some (.ref l0), some (.int l1)]) (st' := []) cd_79_5 rfl rfl ?_
  refine go_ite (fun hc => ?_) (fun hc => ?_)
  · rw [if_pos hc] at h
    cases h
    exact gsr cd_79_15 rfl rfl
  · rw [if_neg hc] at h
    refine gs_0 (pc' := 9) (L' := [some (.ref l0), some (.int l1)]) (st' := [.ref l0]) cd_79_8 rfl rfl ?_
    obtain ⟨ht, h⟩ := gO_s h
    obtain ⟨q_5, hv, h⟩ := gV_s h
    refine gs_gfR cd_79_9 (by decide) ht hv ?_
    refine gs_0 (pc' := 13) (L' := [some (.ref l0), some (.int l1)]) (st' := [.int l1, .ref q_5]) cd_79_12 rfl rfl ?_
    refine gs_0 (pc' := 14) (L' := [some (.ref l0), some (.int l1)]) (st' := [.int 1, .int l1, .ref q_5]) cd_79_13 rfl rfl ?_
    obtain ⟨ht, h⟩ := gA_s h
    refine gs_zast cd_79_14 (Or.inr rfl) ht ?_
    obtain ⟨I_6, hx, h⟩ := lt_s_ h
    rw [hx]
    cases h
    exact gsr cd_79_15 rfl rfl
theorem cl_79 {K : Nat → Value} {k d : Nat} {l0 : Nat} {l1 : Int32} {w : aW} {I : aI} {J : aJ} {R : aR} (h : f_79 K k d l0 l1 w I J = some R) : Cl K (d + 1) 79 [.ref l0, .int l1] w I J = some R := Cl_of (ok_79 h)
/-! ProvedMachine$Reader.faultKind()I -/
theorem gl_80 : gcd.lookup 80 = some gw_80 := rfl
theorem cd_80_0 : sm_cd 80 0 = some (.aload_n 0, 1, 0, 0, 0, 0, 0, 0, 0) := cd_of gl_80 rfl
theorem cd_80_1 : sm_cd 80 1 = some (.getfield 12, 3, 2, 0, 2, 0, 0, 0, 0) := cd_of gl_80 rfl
theorem cd_80_4 : sm_cd 80 4 = some (.getfield 67, 3, 4, 6, 1, 1, 0, 0, 0) := cd_of gl_80 rfl
theorem cd_80_7 : sm_cd 80 7 = some (.ifCond .eq 5, 3, 12, 0, 0, 0, 0, 0, 0) := cd_of gl_80 rfl
theorem cd_80_10 : sm_cd 80 10 = some (.iconst 1, 1, 0, 0, 0, 0, 0, 1, 0) := cd_of gl_80 rfl
theorem cd_80_11 : sm_cd 80 11 = some (.ireturn, 1, 0, 0, 1, 0, 0, 0, 0) := cd_of gl_80 rfl
theorem cd_80_12 : sm_cd 80 12 = some (.aload_n 0, 1, 0, 0, 0, 0, 0, 0, 0) := cd_of gl_80 rfl
theorem cd_80_13 : sm_cd 80 13 = some (.getfield 39, 3, 2, 6, 0, 0, 0, 0, 0) := cd_of gl_80 rfl
theorem cd_80_16 : sm_cd 80 16 = some (.ifCond .lt 5, 3, 21, 0, 0, 0, 0, 0, 0) := cd_of gl_80 rfl
theorem cd_80_19 : sm_cd 80 19 = some (.iconst 2, 1, 0, 0, 0, 0, 0, 2, 0) := cd_of gl_80 rfl
theorem cd_80_20 : sm_cd 80 20 = some (.ireturn, 1, 0, 0, 1, 0, 0, 0, 0) := cd_of gl_80 rfl
theorem cd_80_21 : sm_cd 80 21 = some (.aload_n 0, 1, 0, 0, 0, 0, 0, 0, 0) := cd_of gl_80 rfl
theorem cd_80_22 : sm_cd 80 22 = some (.getfield 42, 3, 2, 7, 0, 0, 0, 0, 0) := cd_of gl_80 rfl
theorem cd_80_25 : sm_cd 80 25 = some (.ifCond .lt 5, 3, 30, 0, 0, 0, 0, 0, 0) := cd_of gl_80 rfl
theorem cd_80_28 : sm_cd 80 28 = some (.iconst 3, 1, 0, 0, 0, 0, 0, 3, 0) := cd_of gl_80 rfl
theorem cd_80_29 : sm_cd 80 29 = some (.ireturn, 1, 0, 0, 1, 0, 0, 0, 0) := cd_of gl_80 rfl
theorem cd_80_30 : sm_cd 80 30 = some (.aload_n 0, 1, 0, 0, 0, 0, 0, 0, 0) := cd_of gl_80 rfl
theorem cd_80_31 : sm_cd 80 31 = some (.getfield 21, 3, 2, 1, 2, 0, 0, 0, 0) := cd_of gl_80 rfl
theorem cd_80_34 : sm_cd 80 34 = some (.getfield 71, 3, 1, 6, 0, 1, 0, 0, 0) := cd_of gl_80 rfl
theorem cd_80_37 : sm_cd 80 37 = some (.sipush 200, 3, 0, 0, 0, 0, 0, 200, 0) := cd_of gl_80 rfl
theorem cd_80_40 : sm_cd 80 40 = some (.if_icmp .le 7, 3, 47, 0, 0, 0, 0, 0, 0) := cd_of gl_80 rfl
theorem cd_80_43 : sm_cd 80 43 = some (.iconst 4, 1, 0, 0, 0, 0, 0, 4, 0) := cd_of gl_80 rfl
theorem cd_80_44 : sm_cd 80 44 = some (.goto 4, 3, 48, 0, 0, 0, 0, 0, 0) := cd_of gl_80 rfl
theorem cd_80_47 : sm_cd 80 47 = some (.iconst 0, 1, 0, 0, 0, 0, 0, 0, 0) := cd_of gl_80 rfl
theorem cd_80_48 : sm_cd 80 48 = some (.ireturn, 1, 0, 0, 1, 0, 0, 0, 0) := cd_of gl_80 rfl
noncomputable def f_80 (K : Nat → Value) (k d : Nat) (l0 : Nat) (w : aW) (I : aI) (J : aJ) : Option aR :=
  gO w 2 l0 (
  gV w l0 0 fun q_1 =>
  gO w 4 q_1 (
  if (I q_1 6) = 0 then
    gO w 2 l0 (
    if (I l0 6) < 0 then
      gO w 2 l0 (
      if (I l0 7) < 0 then
        gO w 2 l0 (
        gV w l0 1 fun q_2 =>
        gO w 1 q_2 (
        if (I q_2 6) ≤ 200 then
          some (some (.int 0), w, I, J)
        else
          some (some (.int 4), w, I, J)))
      else
        some (some (.int 3), w, I, J))
    else
      some (some (.int 2), w, I, J))
  else
    some (some (.int 1), w, I, J)))
theorem ok_80 {K : Nat → Value} {k d : Nat} {l0 : Nat} {w : aW} {I : aI} {J : aJ} {R : aR} (h : f_80 K k d l0 w I J = some R) : Go K (d + 1) 80 0 [some (.ref l0)] [] w I J R := by
  unfold f_80 at h
  refine gs_0 (pc' := 1) (L' := [some (.ref l0)]) (st' := [.ref l0]) cd_80_0 rfl rfl ?_
  obtain ⟨ht, h⟩ := gO_s h
  obtain ⟨q_1, hv, h⟩ := gV_s h
  refine gs_gfR cd_80_1 (by decide) ht hv ?_
  obtain ⟨ht, h⟩ := gO_s h
  refine gs_gfI cd_80_4 (by decide) (by decide) ht ?_
  refine gs_0 (pc' := if (I q_1 6) = 0 then 12 else 10) (L' := [some (.ref l0)]) (st' := []) cd_80_7 rfl rfl ?_
  refine go_ite (fun hc => ?_) (fun hc => ?_)
  · rw [if_pos hc] at h
    refine gs_0 (pc' := 13) (L' := [some (.ref l0)]) (st' := [.ref l0]) cd_80_12 rfl rfl ?_
    obtain ⟨ht, h⟩ := gO_s h
    refine gs_gfI cd_80_13 (by decide) (by decide) ht ?_
    refine gs_0 (pc' := if (I l0 6) < 0 then 21 else 19) (L' := [some (.ref l0)]) (st' := []) cd_80_16 rfl rfl ?_
    refine go_ite (fun hc => ?_) (fun hc => ?_)
    · rw [if_pos hc] at h
      refine gs_0 (pc' := 22) (L' := [some (.ref l0)]) (st' := [.ref l0]) cd_80_21 rfl rfl ?_
      obtain ⟨ht, h⟩ := gO_s h
      refine gs_gfI cd_80_22 (by decide) (by decide) ht ?_
      refine gs_0 (pc' := if (I l0 7) < 0 then 30 else 28) (L' := [some (.ref l0)]) (st' := []) cd_80_25 rfl rfl ?_
      refine go_ite (fun hc => ?_) (fun hc => ?_)
      · rw [if_pos hc] at h
        refine gs_0 (pc' := 31) (L' := [some (.ref l0)]) (st' := [.ref l0]) cd_80_30 rfl rfl ?_
        obtain ⟨ht, h⟩ := gO_s h
        obtain ⟨q_2, hv, h⟩ := gV_s h
        refine gs_gfR cd_80_31 (by decide) ht hv ?_
        obtain ⟨ht, h⟩ := gO_s h
        refine gs_gfI cd_80_34 (by decide) (by decide) ht ?_
        refine gs_0 (pc' := 40) (L' := [some (.ref l0)]) (st' := [.int 200, .int (I q_2 6)]) cd_80_37 rfl rfl ?_
        refine gs_0 (pc' := if (I q_2 6) ≤ 200 then 47 else 43) (L' := [some (.ref l0)]) (st' := []) cd_80_40 rfl rfl ?_
        refine go_ite (fun hc => ?_) (fun hc => ?_)
        · rw [if_pos hc] at h
          refine gs_0 (pc' := 48) (L' := [some (.ref l0)]) (st' := [.int 0]) cd_80_47 rfl rfl ?_
          cases h
          exact gs_ri cd_80_48 (Or.inl rfl)
        · rw [if_neg hc] at h
          refine gs_0 (pc' := 44) (L' := [some (.ref l0)]) (st' := [.int 4]) cd_80_43 rfl rfl ?_
          refine gs_0 (pc' := 48) (L' := [some (.ref l0)]) (st' := [.int 4]) cd_80_44 rfl rfl ?_
          cases h
          exact gs_ri cd_80_48 (Or.inl rfl)
      · rw [if_neg hc] at h
        refine gs_0 (pc' := 29) (L' := [some (.ref l0)]) (st' := [.int 3]) cd_80_28 rfl rfl ?_
        cases h
        exact gs_ri cd_80_29 (Or.inl rfl)
    · rw [if_neg hc] at h
      refine gs_0 (pc' := 20) (L' := [some (.ref l0)]) (st' := [.int 2]) cd_80_19 rfl rfl ?_
      cases h
      exact gs_ri cd_80_20 (Or.inl rfl)
  · rw [if_neg hc] at h
    refine gs_0 (pc' := 11) (L' := [some (.ref l0)]) (st' := [.int 1]) cd_80_10 rfl rfl ?_
    cases h
    exact gs_ri cd_80_11 (Or.inl rfl)
theorem cl_80 {K : Nat → Value} {k d : Nat} {l0 : Nat} {w : aW} {I : aI} {J : aJ} {R : aR} (h : f_80 K k d l0 w I J = some R) : Cl K (d + 1) 80 [.ref l0] w I J = some R := Cl_of (ok_80 h)
/-! ProvedMachine$Reader.faultPlace(I)I -/
theorem gl_81 : gcd.lookup 81 = some gw_81 := rfl
theorem cd_81_0 : sm_cd 81 0 = some (.aload_n 0, 1, 0, 0, 0, 0, 0, 0, 0) := cd_of gl_81 rfl
theorem cd_81_1 : sm_cd 81 1 = some (.invokevirtual 74, 3, 80, 0, 0, 1, 2, 0, 0) := cd_of gl_81 rfl
theorem cd_81_4 : sm_cd 81 4 = some (.tableswitch 52 0 3 #[32, 34, 42, 47], 32, 0, 0, 0, 0, 0, 0, 0) := cd_of gl_81 rfl
theorem cd_81_36 : sm_cd 81 36 = some (.iconst (-1), 1, 0, 0, 0, 0, 0, (-1), 0) := cd_of gl_81 rfl
theorem cd_81_37 : sm_cd 81 37 = some (.ireturn, 1, 0, 0, 1, 0, 0, 0, 0) := cd_of gl_81 rfl
theorem cd_81_38 : sm_cd 81 38 = some (.aload_n 0, 1, 0, 0, 0, 0, 0, 0, 0) := cd_of gl_81 rfl
theorem cd_81_39 : sm_cd 81 39 = some (.getfield 12, 3, 2, 0, 2, 0, 0, 0, 0) := cd_of gl_81 rfl
theorem cd_81_42 : sm_cd 81 42 = some (.invokevirtual 78, 3, 44, 0, 0, 1, 4, 0, 0) := cd_of gl_81 rfl
theorem cd_81_45 : sm_cd 81 45 = some (.ireturn, 1, 0, 0, 1, 0, 0, 0, 0) := cd_of gl_81 rfl
theorem cd_81_46 : sm_cd 81 46 = some (.aload_n 0, 1, 0, 0, 0, 0, 0, 0, 0) := cd_of gl_81 rfl
theorem cd_81_47 : sm_cd 81 47 = some (.getfield 39, 3, 2, 6, 0, 0, 0, 0, 0) := cd_of gl_81 rfl
theorem cd_81_50 : sm_cd 81 50 = some (.ireturn, 1, 0, 0, 1, 0, 0, 0, 0) := cd_of gl_81 rfl
theorem cd_81_51 : sm_cd 81 51 = some (.aload_n 0, 1, 0, 0, 0, 0, 0, 0, 0) := cd_of gl_81 rfl
theorem cd_81_52 : sm_cd 81 52 = some (.getfield 42, 3, 2, 7, 0, 0, 0, 0, 0) := cd_of gl_81 rfl
theorem cd_81_55 : sm_cd 81 55 = some (.ireturn, 1, 0, 0, 1, 0, 0, 0, 0) := cd_of gl_81 rfl
theorem cd_81_56 : sm_cd 81 56 = some (.iload_n 1, 1, 1, 0, 0, 0, 0, 0, 0) := cd_of gl_81 rfl
theorem cd_81_57 : sm_cd 81 57 = some (.ireturn, 1, 0, 0, 1, 0, 0, 0, 0) := cd_of gl_81 rfl
theorem sw_81_4_0 {K : Nat → Value} {L : aL} {st : List Value} {w : aW} {I : aI} {J : aJ} {x : Int32} (h : x = 0) : sm_stp K (.tableswitch 52 0 3 #[32, 34, 42, 47], 32, 0, 0, 0, 0, 0, 0, 0) 4 L (.int x :: st) w I J = some (36, L, st, w, I, J) := by subst h; rfl
theorem sw_81_4_1 {K : Nat → Value} {L : aL} {st : List Value} {w : aW} {I : aI} {J : aJ} {x : Int32} (h : x = 1) : sm_stp K (.tableswitch 52 0 3 #[32, 34, 42, 47], 32, 0, 0, 0, 0, 0, 0, 0) 4 L (.int x :: st) w I J = some (38, L, st, w, I, J) := by subst h; rfl
theorem sw_81_4_2 {K : Nat → Value} {L : aL} {st : List Value} {w : aW} {I : aI} {J : aJ} {x : Int32} (h : x = 2) : sm_stp K (.tableswitch 52 0 3 #[32, 34, 42, 47], 32, 0, 0, 0, 0, 0, 0, 0) 4 L (.int x :: st) w I J = some (46, L, st, w, I, J) := by subst h; rfl
theorem sw_81_4_3 {K : Nat → Value} {L : aL} {st : List Value} {w : aW} {I : aI} {J : aJ} {x : Int32} (h : x = 3) : sm_stp K (.tableswitch 52 0 3 #[32, 34, 42, 47], 32, 0, 0, 0, 0, 0, 0, 0) 4 L (.int x :: st) w I J = some (51, L, st, w, I, J) := by subst h; rfl
theorem sw_81_4_d {K : Nat → Value} {L : aL} {st : List Value} {w : aW} {I : aI} {J : aJ} {x : Int32} (h0 : ¬ x = 0) (h1 : ¬ x = 1) (h2 : ¬ x = 2) (h3 : ¬ x = 3) : sm_stp K (.tableswitch 52 0 3 #[32, 34, 42, 47], 32, 0, 0, 0, 0, 0, 0, 0) 4 L (.int x :: st) w I J = some (56, L, st, w, I, J) := by
  have e : sm_swt 4 52 0 3 #[32, 34, 42, 47] x = some 56 := by
    unfold sm_swt
    split
    · rfl
    · rename_i hn
      exfalso
      have ha : ¬ x.toInt < 0 := fun q => hn (Or.inl q)
      have hb : ¬ 3 < x.toInt := fun q => hn (Or.inr q)
      have g0 : ¬ x.toInt = 0 := fun q => h0 (Int32.toInt_inj.mp q)
      have g1 : ¬ x.toInt = 1 := fun q => h1 (Int32.toInt_inj.mp q)
      have g2 : ¬ x.toInt = 2 := fun q => h2 (Int32.toInt_inj.mp q)
      have g3 : ¬ x.toInt = 3 := fun q => h3 (Int32.toInt_inj.mp q)
      omega
  simp only [sm_stp, e, sm_jm]
noncomputable def f_81 (K : Nat → Value) (k d : Nat) (l0 : Nat) (l1 : Int32) (w : aW) (I : aI) (J : aJ) : Option aR :=
  gO w 2 l0 (
  cI (Cl K d 80 [.ref l0] w I J) fun x_4 w_1 I_2 J_3 =>
  if x_4 = 0 then
    some (some (.int (-1)), w_1, I_2, J_3)
  else
  if x_4 = 1 then
    gO w_1 2 l0 (
    gV w_1 l0 0 fun q_5 =>
    gO w_1 4 q_5 (
    cI (Cl K d 44 [.ref q_5] w_1 I_2 J_3) fun x_9 w_6 I_7 J_8 =>
    some (some (.int x_9), w_6, I_7, J_8)))
  else
  if x_4 = 2 then
    gO w_1 2 l0 (
    some (some (.int (I_2 l0 6)), w_1, I_2, J_3))
  else
  if x_4 = 3 then
    gO w_1 2 l0 (
    some (some (.int (I_2 l0 7)), w_1, I_2, J_3))
  else
  some (some (.int l1), w_1, I_2, J_3))
theorem ok_81 {K : Nat → Value} {k d : Nat} {l0 : Nat} {l1 : Int32} {w : aW} {I : aI} {J : aJ} {R : aR} (h : f_81 K k d l0 l1 w I J = some R) : Go K (d + 1) 81 0 [some (.ref l0), some (.int l1)] [] w I J R := by
  unfold f_81 at h
  refine gs_0 (pc' := 1) (L' := [some (.ref l0), some (.int l1)]) (st' := [.ref l0]) cd_81_0 rfl rfl ?_
  obtain ⟨ht, h⟩ := gO_s h
  obtain ⟨x_4, w_1, I_2, J_3, hcl, h⟩ := cI_s h
  refine gs_call (as := [.ref l0]) (rest := []) cd_81_1 rfl (by decide) rfl (sm_rv_ok (by decide) ht) (Nat.le_of_ble_eq_true rfl) (Nat.le_of_ble_eq_true rfl) rfl hcl ?_
  by_cases hc0 : x_4 = 0
  · rw [if_pos hc0] at h
    refine gs_0 (pc' := 36) (L' := [some (.ref l0), some (.int l1)]) (st' := []) cd_81_4 rfl (sw_81_4_0 hc0) ?_
    refine gs_0 (pc' := 37) (L' := [some (.ref l0), some (.int l1)]) (st' := [.int ((-1))]) cd_81_36 rfl rfl ?_
    cases h
    exact gs_ri cd_81_37 (Or.inl rfl)
  · rw [if_neg hc0] at h
    by_cases hc1 : x_4 = 1
    · rw [if_pos hc1] at h
      refine gs_0 (pc' := 38) (L' := [some (.ref l0), some (.int l1)]) (st' := []) cd_81_4 rfl (sw_81_4_1 hc1) ?_
      refine gs_0 (pc' := 39) (L' := [some (.ref l0), some (.int l1)]) (st' := [.ref l0]) cd_81_38 rfl rfl ?_
      obtain ⟨ht, h⟩ := gO_s h
      obtain ⟨q_5, hv, h⟩ := gV_s h
      refine gs_gfR cd_81_39 (by decide) ht hv ?_
      obtain ⟨ht, h⟩ := gO_s h
      obtain ⟨x_9, w_6, I_7, J_8, hcl, h⟩ := cI_s h
      refine gs_call (as := [.ref q_5]) (rest := []) cd_81_42 rfl (by decide) rfl (sm_rv_ok (by decide) ht) (Nat.le_of_ble_eq_true rfl) (Nat.le_of_ble_eq_true rfl) rfl hcl ?_
      cases h
      exact gs_ri cd_81_45 (Or.inl rfl)
    · rw [if_neg hc1] at h
      by_cases hc2 : x_4 = 2
      · rw [if_pos hc2] at h
        refine gs_0 (pc' := 46) (L' := [some (.ref l0), some (.int l1)]) (st' := []) cd_81_4 rfl (sw_81_4_2 hc2) ?_
        refine gs_0 (pc' := 47) (L' := [some (.ref l0), some (.int l1)]) (st' := [.ref l0]) cd_81_46 rfl rfl ?_
        obtain ⟨ht, h⟩ := gO_s h
        refine gs_gfI cd_81_47 (by decide) (by decide) ht ?_
        cases h
        exact gs_ri cd_81_50 (Or.inl rfl)
      · rw [if_neg hc2] at h
        by_cases hc3 : x_4 = 3
        · rw [if_pos hc3] at h
          refine gs_0 (pc' := 51) (L' := [some (.ref l0), some (.int l1)]) (st' := []) cd_81_4 rfl (sw_81_4_3 hc3) ?_
          refine gs_0 (pc' := 52) (L' := [some (.ref l0), some (.int l1)]) (st' := [.ref l0]) cd_81_51 rfl rfl ?_
          obtain ⟨ht, h⟩ := gO_s h
          refine gs_gfI cd_81_52 (by decide) (by decide) ht ?_
          cases h
          exact gs_ri cd_81_55 (Or.inl rfl)
        · rw [if_neg hc3] at h
          refine gs_0 (pc' := 56) (L' := [some (.ref l0), some (.int l1)]) (st' := []) cd_81_4 rfl (sw_81_4_d hc0 hc1 hc2 hc3) ?_
          refine gs_0 (pc' := 57) (L' := [some (.ref l0), some (.int l1)]) (st' := [.int l1]) cd_81_56 rfl rfl ?_
          cases h
          exact gs_ri cd_81_57 (Or.inl rfl)
theorem cl_81 {K : Nat → Value} {k d : Nat} {l0 : Nat} {l1 : Int32} {w : aW} {I : aI} {J : aJ} {R : aR} (h : f_81 K k d l0 l1 w I J = some R) : Cl K (d + 1) 81 [.ref l0, .int l1] w I J = some R := Cl_of (ok_81 h)
/-! ProvedMachine$Reader.exchange(LProvedMachine$Program;)LProvedMachine$Program; -/
theorem gl_82 : gcd.lookup 82 = some gw_82 := rfl
theorem cd_82_0 : sm_cd 82 0 = some (.aload_n 0, 1, 0, 0, 0, 0, 0, 0, 0) := cd_of gl_82 rfl
theorem cd_82_1 : sm_cd 82 1 = some (.getfield 21, 3, 2, 1, 2, 0, 0, 0, 0) := cd_of gl_82 rfl
theorem cd_82_4 : sm_cd 82 4 = some (.astore_n 2, 1, 2, 0, 0, 0, 0, 0, 0) := cd_of gl_82 rfl
theorem cd_82_5 : sm_cd 82 5 = some (.aload_n 0, 1, 0, 0, 0, 0, 0, 0, 0) := cd_of gl_82 rfl
theorem cd_82_6 : sm_cd 82 6 = some (.aload_n 1, 1, 1, 0, 0, 0, 0, 0, 0) := cd_of gl_82 rfl
theorem cd_82_7 : sm_cd 82 7 = some (.putfield 21, 3, 2, 1, 2, 0, 0, 0, 0) := cd_of gl_82 rfl
theorem cd_82_10 : sm_cd 82 10 = some (.aload_n 2, 1, 2, 0, 0, 0, 0, 0, 0) := cd_of gl_82 rfl
theorem cd_82_11 : sm_cd 82 11 = some (.areturn, 1, 0, 0, 0, 0, 0, 0, 0) := cd_of gl_82 rfl
noncomputable def f_82 (K : Nat → Value) (k d : Nat) (l0 : Nat) (l1 : Nat) (w : aW) (I : aI) (J : aJ) : Option aR :=
  gO w 2 l0 (
  gV w l0 1 fun q_1 =>
  gO w 2 l0 (
  lt_ (w.1, sm_up2 w.2.1 l0 1 (some l1), w.2.2) fun w_2 =>
  some (some (.ref q_1), w_2, I, J)))
theorem ok_82 {K : Nat → Value} {k d : Nat} {l0 : Nat} {l1 : Nat} {w : aW} {I : aI} {J : aJ} {R : aR} (h : f_82 K k d l0 l1 w I J = some R) : Go K (d + 1) 82 0 [some (.ref l0), some (.ref l1), none] [] w I J R := by
  unfold f_82 at h
  refine gs_0 (pc' := 1) (L' := [some (.ref l0), some (.ref l1), none]) (st' := [.ref l0]) cd_82_0 rfl rfl ?_
  obtain ⟨ht, h⟩ := gO_s h
  obtain ⟨q_1, hv, h⟩ := gV_s h
  refine gs_gfR cd_82_1 (by decide) ht hv ?_
  refine gs_0 (pc' := 5) (L' := [some (.ref l0), some (.ref l1), some (.ref q_1)]) (st' := []) cd_82_4 rfl rfl ?_
  refine gs_0 (pc' := 6) (L' := [some (.ref l0), some (.ref l1), some (.ref q_1)]) (st' := [.ref l0]) cd_82_5 rfl rfl ?_
  refine gs_0 (pc' := 7) (L' := [some (.ref l0), some (.ref l1), some (.ref q_1)]) (st' := [.ref l1, .ref l0]) cd_82_6 rfl rfl ?_
  obtain ⟨ht, h⟩ := gO_s h
  refine gs_pfR cd_82_7 (by decide) ht ?_
  obtain ⟨w_2, hx, h⟩ := lt_s_ h
  rw [hx]
  refine gs_0 (pc' := 11) (L' := [some (.ref l0), some (.ref l1), some (.ref q_1)]) (st' := [.ref q_1]) cd_82_10 rfl rfl ?_
  cases h
  exact gsr cd_82_11 rfl rfl
theorem cl_82 {K : Nat → Value} {k d : Nat} {l0 : Nat} {l1 : Nat} {w : aW} {I : aI} {J : aJ} {R : aR} (h : f_82 K k d l0 l1 w I J = some R) : Cl K (d + 1) 82 [.ref l0, .ref l1] w I J = some R := Cl_of (ok_82 h)
/-! ProvedMachineModel.text()J -/
theorem gl_83 : gcd.lookup 83 = some gw_83 := rfl
set_option maxRecDepth 20000 in
theorem cd_83_0 : sm_cd 83 0 = some (.aload_n 0, 1, 0, 0, 0, 0, 0, 0, 0) := cd_of gl_83 rfl
set_option maxRecDepth 20000 in
theorem cd_83_1 : sm_cd 83 1 = some (.iconst 0, 1, 0, 0, 0, 0, 0, 0, 0) := cd_of gl_83 rfl
set_option maxRecDepth 20000 in
theorem cd_83_2 : sm_cd 83 2 = some (.putfield 157, 3, 6, 23, 0, 0, 0, 0, 0) := cd_of gl_83 rfl
set_option maxRecDepth 20000 in
theorem cd_83_5 : sm_cd 83 5 = some (.aload_n 0, 1, 0, 0, 0, 0, 0, 0, 0) := cd_of gl_83 rfl
set_option maxRecDepth 20000 in
theorem cd_83_6 : sm_cd 83 6 = some (.iconst 0, 1, 0, 0, 0, 0, 0, 0, 0) := cd_of gl_83 rfl
set_option maxRecDepth 20000 in
theorem cd_83_7 : sm_cd 83 7 = some (.putfield 193, 3, 6, 26, 1, 0, 0, 0, 0) := cd_of gl_83 rfl
set_option maxRecDepth 20000 in
theorem cd_83_10 : sm_cd 83 10 = some (.aload_n 0, 1, 0, 0, 0, 0, 0, 0, 0) := cd_of gl_83 rfl
set_option maxRecDepth 20000 in
theorem cd_83_11 : sm_cd 83 11 = some (.iconst (-1), 1, 0, 0, 0, 0, 0, (-1), 0) := cd_of gl_83 rfl
set_option maxRecDepth 20000 in
theorem cd_83_12 : sm_cd 83 12 = some (.putfield 207, 3, 6, 27, 0, 0, 0, 0, 0) := cd_of gl_83 rfl
set_option maxRecDepth 20000 in
theorem cd_83_15 : sm_cd 83 15 = some (.aload_n 0, 1, 0, 0, 0, 0, 0, 0, 0) := cd_of gl_83 rfl
set_option maxRecDepth 20000 in
theorem cd_83_16 : sm_cd 83 16 = some (.iconst (-1), 1, 0, 0, 0, 0, 0, (-1), 0) := cd_of gl_83 rfl
set_option maxRecDepth 20000 in
theorem cd_83_17 : sm_cd 83 17 = some (.putfield 210, 3, 6, 28, 0, 0, 0, 0, 0) := cd_of gl_83 rfl
set_option maxRecDepth 20000 in
theorem cd_83_20 : sm_cd 83 20 = some (.aload_n 0, 1, 0, 0, 0, 0, 0, 0, 0) := cd_of gl_83 rfl
set_option maxRecDepth 20000 in
theorem cd_83_21 : sm_cd 83 21 = some (.iconst 0, 1, 0, 0, 0, 0, 0, 0, 0) := cd_of gl_83 rfl
set_option maxRecDepth 20000 in
theorem cd_83_22 : sm_cd 83 22 = some (.putfield 231, 3, 6, 29, 0, 0, 0, 0, 0) := cd_of gl_83 rfl
set_option maxRecDepth 20000 in
theorem cd_83_25 : sm_cd 83 25 = some (.aload_n 0, 1, 0, 0, 0, 0, 0, 0, 0) := cd_of gl_83 rfl
set_option maxRecDepth 20000 in
theorem cd_83_26 : sm_cd 83 26 = some (.iconst 0, 1, 0, 0, 0, 0, 0, 0, 0) := cd_of gl_83 rfl
set_option maxRecDepth 20000 in
theorem cd_83_27 : sm_cd 83 27 = some (.putfield 313, 3, 6, 5, 0, 0, 0, 0, 0) := cd_of gl_83 rfl
set_option maxRecDepth 20000 in
theorem cd_83_30 : sm_cd 83 30 = some (.aload_n 0, 1, 0, 0, 0, 0, 0, 0, 0) := cd_of gl_83 rfl
set_option maxRecDepth 20000 in
theorem cd_83_31 : sm_cd 83 31 = some (.iconst 0, 1, 0, 0, 0, 0, 0, 0, 0) := cd_of gl_83 rfl
set_option maxRecDepth 20000 in
theorem cd_83_32 : sm_cd 83 32 = some (.putfield 213, 3, 6, 13, 0, 0, 0, 0, 0) := cd_of gl_83 rfl
set_option maxRecDepth 20000 in
theorem cd_83_35 : sm_cd 83 35 = some (.aload_n 0, 1, 0, 0, 0, 0, 0, 0, 0) := cd_of gl_83 rfl
set_option maxRecDepth 20000 in
theorem cd_83_36 : sm_cd 83 36 = some (.invokevirtual 197, 3, 84, 0, 0, 1, 6, 0, 0) := cd_of gl_83 rfl
set_option maxRecDepth 20000 in
theorem cd_83_39 : sm_cd 83 39 = some (.aload_n 0, 1, 0, 0, 0, 0, 0, 0, 0) := cd_of gl_83 rfl
set_option maxRecDepth 20000 in
theorem cd_83_40 : sm_cd 83 40 = some (.invokevirtual 319, 3, 88, 0, 0, 6, 6, 0, 0) := cd_of gl_83 rfl
set_option maxRecDepth 20000 in
theorem cd_83_43 : sm_cd 83 43 = some (.aload_n 0, 1, 0, 0, 0, 0, 0, 0, 0) := cd_of gl_83 rfl
set_option maxRecDepth 20000 in
theorem cd_83_44 : sm_cd 83 44 = some (.getfield 193, 3, 6, 26, 1, 0, 0, 0, 0) := cd_of gl_83 rfl
set_option maxRecDepth 20000 in
theorem cd_83_47 : sm_cd 83 47 = some (.ifCond .ne 17, 3, 64, 0, 0, 0, 0, 0, 0) := cd_of gl_83 rfl
set_option maxRecDepth 20000 in
theorem cd_83_50 : sm_cd 83 50 = some (.aload_n 0, 1, 0, 0, 0, 0, 0, 0, 0) := cd_of gl_83 rfl
set_option maxRecDepth 20000 in
theorem cd_83_51 : sm_cd 83 51 = some (.getfield 174, 3, 6, 24, 0, 0, 0, 0, 0) := cd_of gl_83 rfl
set_option maxRecDepth 20000 in
theorem cd_83_54 : sm_cd 83 54 = some (.ifCond .eq 10, 3, 64, 0, 0, 0, 0, 0, 0) := cd_of gl_83 rfl
set_option maxRecDepth 20000 in
theorem cd_83_57 : sm_cd 83 57 = some (.aload_n 0, 1, 0, 0, 0, 0, 0, 0, 0) := cd_of gl_83 rfl
set_option maxRecDepth 20000 in
theorem cd_83_58 : sm_cd 83 58 = some (.invokevirtual 319, 3, 88, 0, 0, 6, 6, 0, 0) := cd_of gl_83 rfl
set_option maxRecDepth 20000 in
theorem cd_83_61 : sm_cd 83 61 = some (.goto (-18), 3, 43, 0, 0, 0, 0, 0, 0) := cd_of gl_83 rfl
set_option maxRecDepth 20000 in
theorem cd_83_64 : sm_cd 83 64 = some (.aload_n 0, 1, 0, 0, 0, 0, 0, 0, 0) := cd_of gl_83 rfl
set_option maxRecDepth 20000 in
theorem cd_83_65 : sm_cd 83 65 = some (.getfield 193, 3, 6, 26, 1, 0, 0, 0, 0) := cd_of gl_83 rfl
set_option maxRecDepth 20000 in
theorem cd_83_68 : sm_cd 83 68 = some (.ifCond .ne 30, 3, 98, 0, 0, 0, 0, 0, 0) := cd_of gl_83 rfl
set_option maxRecDepth 20000 in
theorem cd_83_71 : sm_cd 83 71 = some (.aload_n 0, 1, 0, 0, 0, 0, 0, 0, 0) := cd_of gl_83 rfl
set_option maxRecDepth 20000 in
theorem cd_83_72 : sm_cd 83 72 = some (.aload_n 0, 1, 0, 0, 0, 0, 0, 0, 0) := cd_of gl_83 rfl
set_option maxRecDepth 20000 in
theorem cd_83_73 : sm_cd 83 73 = some (.getfield 26, 3, 6, 8, 2, 0, 0, 0, 0) := cd_of gl_83 rfl
set_option maxRecDepth 20000 in
theorem cd_83_76 : sm_cd 83 76 = some (.aload_n 0, 1, 0, 0, 0, 0, 0, 0, 0) := cd_of gl_83 rfl
set_option maxRecDepth 20000 in
theorem cd_83_77 : sm_cd 83 77 = some (.getfield 313, 3, 6, 5, 0, 0, 0, 0, 0) := cd_of gl_83 rfl
set_option maxRecDepth 20000 in
theorem cd_83_80 : sm_cd 83 80 = some (.iconst 1, 1, 0, 0, 0, 0, 0, 1, 0) := cd_of gl_83 rfl
set_option maxRecDepth 20000 in
theorem cd_83_81 : sm_cd 83 81 = some (.isub, 1, 0, 0, 0, 0, 0, 0, 0) := cd_of gl_83 rfl
set_option maxRecDepth 20000 in
theorem cd_83_82 : sm_cd 83 82 = some (.iaload, 1, 0, 0, 0, 0, 0, 0, 0) := cd_of gl_83 rfl
set_option maxRecDepth 20000 in
theorem cd_83_83 : sm_cd 83 83 = some (.ifCond .ne 7, 3, 90, 0, 0, 0, 0, 0, 0) := cd_of gl_83 rfl
set_option maxRecDepth 20000 in
theorem cd_83_86 : sm_cd 83 86 = some (.iconst 1, 1, 0, 0, 0, 0, 0, 1, 0) := cd_of gl_83 rfl
set_option maxRecDepth 20000 in
theorem cd_83_87 : sm_cd 83 87 = some (.goto 4, 3, 91, 0, 0, 0, 0, 0, 0) := cd_of gl_83 rfl
set_option maxRecDepth 20000 in
theorem cd_83_90 : sm_cd 83 90 = some (.iconst 0, 1, 0, 0, 0, 0, 0, 0, 0) := cd_of gl_83 rfl
set_option maxRecDepth 20000 in
theorem cd_83_91 : sm_cd 83 91 = some (.aload_n 0, 1, 0, 0, 0, 0, 0, 0, 0) := cd_of gl_83 rfl
set_option maxRecDepth 20000 in
theorem cd_83_92 : sm_cd 83 92 = some (.getfield 316, 3, 6, 31, 0, 0, 0, 0, 0) := cd_of gl_83 rfl
set_option maxRecDepth 20000 in
theorem cd_83_95 : sm_cd 83 95 = some (.invokevirtual 221, 3, 92, 0, 2, 3, 6, 0, 0) := cd_of gl_83 rfl
set_option maxRecDepth 20000 in
theorem cd_83_98 : sm_cd 83 98 = some (.aload_n 0, 1, 0, 0, 0, 0, 0, 0, 0) := cd_of gl_83 rfl
set_option maxRecDepth 20000 in
theorem cd_83_99 : sm_cd 83 99 = some (.aload_n 0, 1, 0, 0, 0, 0, 0, 0, 0) := cd_of gl_83 rfl
set_option maxRecDepth 20000 in
theorem cd_83_100 : sm_cd 83 100 = some (.getfield 193, 3, 6, 26, 1, 0, 0, 0, 0) := cd_of gl_83 rfl
set_option maxRecDepth 20000 in
theorem cd_83_103 : sm_cd 83 103 = some (.ifCond .eq 7, 3, 110, 0, 0, 0, 0, 0, 0) := cd_of gl_83 rfl
set_option maxRecDepth 20000 in
theorem cd_83_106 : sm_cd 83 106 = some (.iconst 1, 1, 0, 0, 0, 0, 0, 1, 0) := cd_of gl_83 rfl
set_option maxRecDepth 20000 in
theorem cd_83_107 : sm_cd 83 107 = some (.goto 40, 3, 147, 0, 0, 0, 0, 0, 0) := cd_of gl_83 rfl
set_option maxRecDepth 20000 in
theorem cd_83_110 : sm_cd 83 110 = some (.aload_n 0, 1, 0, 0, 0, 0, 0, 0, 0) := cd_of gl_83 rfl
set_option maxRecDepth 20000 in
theorem cd_83_111 : sm_cd 83 111 = some (.getfield 207, 3, 6, 27, 0, 0, 0, 0, 0) := cd_of gl_83 rfl
set_option maxRecDepth 20000 in
theorem cd_83_114 : sm_cd 83 114 = some (.ifCond .lt 7, 3, 121, 0, 0, 0, 0, 0, 0) := cd_of gl_83 rfl
set_option maxRecDepth 20000 in
theorem cd_83_117 : sm_cd 83 117 = some (.iconst 2, 1, 0, 0, 0, 0, 0, 2, 0) := cd_of gl_83 rfl
set_option maxRecDepth 20000 in
theorem cd_83_118 : sm_cd 83 118 = some (.goto 29, 3, 147, 0, 0, 0, 0, 0, 0) := cd_of gl_83 rfl
set_option maxRecDepth 20000 in
theorem cd_83_121 : sm_cd 83 121 = some (.aload_n 0, 1, 0, 0, 0, 0, 0, 0, 0) := cd_of gl_83 rfl
set_option maxRecDepth 20000 in
theorem cd_83_122 : sm_cd 83 122 = some (.getfield 210, 3, 6, 28, 0, 0, 0, 0, 0) := cd_of gl_83 rfl
set_option maxRecDepth 20000 in
theorem cd_83_125 : sm_cd 83 125 = some (.ifCond .lt 7, 3, 132, 0, 0, 0, 0, 0, 0) := cd_of gl_83 rfl
set_option maxRecDepth 20000 in
theorem cd_83_128 : sm_cd 83 128 = some (.iconst 3, 1, 0, 0, 0, 0, 0, 3, 0) := cd_of gl_83 rfl
set_option maxRecDepth 20000 in
theorem cd_83_129 : sm_cd 83 129 = some (.goto 18, 3, 147, 0, 0, 0, 0, 0, 0) := cd_of gl_83 rfl
set_option maxRecDepth 20000 in
theorem cd_83_132 : sm_cd 83 132 = some (.aload_n 0, 1, 0, 0, 0, 0, 0, 0, 0) := cd_of gl_83 rfl
set_option maxRecDepth 20000 in
theorem cd_83_133 : sm_cd 83 133 = some (.getfield 213, 3, 6, 13, 0, 0, 0, 0, 0) := cd_of gl_83 rfl
set_option maxRecDepth 20000 in
theorem cd_83_136 : sm_cd 83 136 = some (.sipush 200, 3, 0, 0, 0, 0, 0, 200, 0) := cd_of gl_83 rfl
set_option maxRecDepth 20000 in
theorem cd_83_139 : sm_cd 83 139 = some (.if_icmp .le 7, 3, 146, 0, 0, 0, 0, 0, 0) := cd_of gl_83 rfl
set_option maxRecDepth 20000 in
theorem cd_83_142 : sm_cd 83 142 = some (.iconst 4, 1, 0, 0, 0, 0, 0, 4, 0) := cd_of gl_83 rfl
set_option maxRecDepth 20000 in
theorem cd_83_143 : sm_cd 83 143 = some (.goto 4, 3, 147, 0, 0, 0, 0, 0, 0) := cd_of gl_83 rfl
set_option maxRecDepth 20000 in
theorem cd_83_146 : sm_cd 83 146 = some (.iconst 0, 1, 0, 0, 0, 0, 0, 0, 0) := cd_of gl_83 rfl
set_option maxRecDepth 20000 in
theorem cd_83_147 : sm_cd 83 147 = some (.putfield 322, 3, 6, 3, 0, 0, 0, 0, 0) := cd_of gl_83 rfl
set_option maxRecDepth 20000 in
theorem cd_83_150 : sm_cd 83 150 = some (.aload_n 0, 1, 0, 0, 0, 0, 0, 0, 0) := cd_of gl_83 rfl
set_option maxRecDepth 20000 in
theorem cd_83_151 : sm_cd 83 151 = some (.aload_n 0, 1, 0, 0, 0, 0, 0, 0, 0) := cd_of gl_83 rfl
set_option maxRecDepth 20000 in
theorem cd_83_152 : sm_cd 83 152 = some (.getfield 322, 3, 6, 3, 0, 0, 0, 0, 0) := cd_of gl_83 rfl
set_option maxRecDepth 20000 in
theorem cd_83_155 : sm_cd 83 155 = some (.iconst 1, 1, 0, 0, 0, 0, 0, 1, 0) := cd_of gl_83 rfl
set_option maxRecDepth 20000 in
theorem cd_83_156 : sm_cd 83 156 = some (.if_icmp .ne 10, 3, 166, 0, 0, 0, 0, 0, 0) := cd_of gl_83 rfl
set_option maxRecDepth 20000 in
theorem cd_83_159 : sm_cd 83 159 = some (.aload_n 0, 1, 0, 0, 0, 0, 0, 0, 0) := cd_of gl_83 rfl
set_option maxRecDepth 20000 in
theorem cd_83_160 : sm_cd 83 160 = some (.getfield 160, 3, 6, 22, 0, 0, 0, 0, 0) := cd_of gl_83 rfl
set_option maxRecDepth 20000 in
theorem cd_83_163 : sm_cd 83 163 = some (.goto 49, 3, 212, 0, 0, 0, 0, 0, 0) := cd_of gl_83 rfl
set_option maxRecDepth 20000 in
theorem cd_83_166 : sm_cd 83 166 = some (.aload_n 0, 1, 0, 0, 0, 0, 0, 0, 0) := cd_of gl_83 rfl
set_option maxRecDepth 20000 in
theorem cd_83_167 : sm_cd 83 167 = some (.getfield 322, 3, 6, 3, 0, 0, 0, 0, 0) := cd_of gl_83 rfl
set_option maxRecDepth 20000 in
theorem cd_83_170 : sm_cd 83 170 = some (.iconst 2, 1, 0, 0, 0, 0, 0, 2, 0) := cd_of gl_83 rfl
set_option maxRecDepth 20000 in
theorem cd_83_171 : sm_cd 83 171 = some (.if_icmp .ne 10, 3, 181, 0, 0, 0, 0, 0, 0) := cd_of gl_83 rfl
set_option maxRecDepth 20000 in
theorem cd_83_174 : sm_cd 83 174 = some (.aload_n 0, 1, 0, 0, 0, 0, 0, 0, 0) := cd_of gl_83 rfl
set_option maxRecDepth 20000 in
theorem cd_83_175 : sm_cd 83 175 = some (.getfield 207, 3, 6, 27, 0, 0, 0, 0, 0) := cd_of gl_83 rfl
set_option maxRecDepth 20000 in
theorem cd_83_178 : sm_cd 83 178 = some (.goto 34, 3, 212, 0, 0, 0, 0, 0, 0) := cd_of gl_83 rfl
set_option maxRecDepth 20000 in
theorem cd_83_181 : sm_cd 83 181 = some (.aload_n 0, 1, 0, 0, 0, 0, 0, 0, 0) := cd_of gl_83 rfl
set_option maxRecDepth 20000 in
theorem cd_83_182 : sm_cd 83 182 = some (.getfield 322, 3, 6, 3, 0, 0, 0, 0, 0) := cd_of gl_83 rfl
set_option maxRecDepth 20000 in
theorem cd_83_185 : sm_cd 83 185 = some (.iconst 3, 1, 0, 0, 0, 0, 0, 3, 0) := cd_of gl_83 rfl
set_option maxRecDepth 20000 in
theorem cd_83_186 : sm_cd 83 186 = some (.if_icmp .ne 10, 3, 196, 0, 0, 0, 0, 0, 0) := cd_of gl_83 rfl
set_option maxRecDepth 20000 in
theorem cd_83_189 : sm_cd 83 189 = some (.aload_n 0, 1, 0, 0, 0, 0, 0, 0, 0) := cd_of gl_83 rfl
set_option maxRecDepth 20000 in
theorem cd_83_190 : sm_cd 83 190 = some (.getfield 210, 3, 6, 28, 0, 0, 0, 0, 0) := cd_of gl_83 rfl
set_option maxRecDepth 20000 in
theorem cd_83_193 : sm_cd 83 193 = some (.goto 19, 3, 212, 0, 0, 0, 0, 0, 0) := cd_of gl_83 rfl
set_option maxRecDepth 20000 in
theorem cd_83_196 : sm_cd 83 196 = some (.aload_n 0, 1, 0, 0, 0, 0, 0, 0, 0) := cd_of gl_83 rfl
set_option maxRecDepth 20000 in
theorem cd_83_197 : sm_cd 83 197 = some (.getfield 322, 3, 6, 3, 0, 0, 0, 0, 0) := cd_of gl_83 rfl
set_option maxRecDepth 20000 in
theorem cd_83_200 : sm_cd 83 200 = some (.iconst 4, 1, 0, 0, 0, 0, 0, 4, 0) := cd_of gl_83 rfl
set_option maxRecDepth 20000 in
theorem cd_83_201 : sm_cd 83 201 = some (.if_icmp .ne 10, 3, 211, 0, 0, 0, 0, 0, 0) := cd_of gl_83 rfl
set_option maxRecDepth 20000 in
theorem cd_83_204 : sm_cd 83 204 = some (.aload_n 0, 1, 0, 0, 0, 0, 0, 0, 0) := cd_of gl_83 rfl
set_option maxRecDepth 20000 in
theorem cd_83_205 : sm_cd 83 205 = some (.getfield 152, 3, 6, 2, 0, 0, 0, 0, 0) := cd_of gl_83 rfl
set_option maxRecDepth 20000 in
theorem cd_83_208 : sm_cd 83 208 = some (.goto 4, 3, 212, 0, 0, 0, 0, 0, 0) := cd_of gl_83 rfl
set_option maxRecDepth 20000 in
theorem cd_83_211 : sm_cd 83 211 = some (.iconst (-1), 1, 0, 0, 0, 0, 0, (-1), 0) := cd_of gl_83 rfl
set_option maxRecDepth 20000 in
theorem cd_83_212 : sm_cd 83 212 = some (.putfield 16, 3, 6, 4, 0, 0, 0, 0, 0) := cd_of gl_83 rfl
set_option maxRecDepth 20000 in
theorem cd_83_215 : sm_cd 83 215 = some (.aload_n 0, 1, 0, 0, 0, 0, 0, 0, 0) := cd_of gl_83 rfl
set_option maxRecDepth 20000 in
theorem cd_83_216 : sm_cd 83 216 = some (.iconst 0, 1, 0, 0, 0, 0, 0, 0, 0) := cd_of gl_83 rfl
set_option maxRecDepth 20000 in
theorem cd_83_217 : sm_cd 83 217 = some (.putfield 152, 3, 6, 2, 0, 0, 0, 0, 0) := cd_of gl_83 rfl
set_option maxRecDepth 20000 in
theorem cd_83_220 : sm_cd 83 220 = some (.aload_n 0, 1, 0, 0, 0, 0, 0, 0, 0) := cd_of gl_83 rfl
set_option maxRecDepth 20000 in
theorem cd_83_221 : sm_cd 83 221 = some (.getfield 322, 3, 6, 3, 0, 0, 0, 0, 0) := cd_of gl_83 rfl
set_option maxRecDepth 20000 in
theorem cd_83_224 : sm_cd 83 224 = some (.ifCond .le 7, 3, 231, 0, 0, 0, 0, 0, 0) := cd_of gl_83 rfl
set_option maxRecDepth 20000 in
theorem cd_83_227 : sm_cd 83 227 = some (.ldc2_w 325, 3, 0, 0, 0, 0, 0, 0, (-1)) := cd_of gl_83 rfl
set_option maxRecDepth 20000 in
theorem cd_83_230 : sm_cd 83 230 = some (.lreturn, 1, 0, 0, 0, 0, 0, 0, 0) := cd_of gl_83 rfl
set_option maxRecDepth 20000 in
theorem cd_83_231 : sm_cd 83 231 = some (.aload_n 0, 1, 0, 0, 0, 0, 0, 0, 0) := cd_of gl_83 rfl
set_option maxRecDepth 20000 in
theorem cd_83_232 : sm_cd 83 232 = some (.aload_n 0, 1, 0, 0, 0, 0, 0, 0, 0) := cd_of gl_83 rfl
set_option maxRecDepth 20000 in
theorem cd_83_233 : sm_cd 83 233 = some (.getfield 313, 3, 6, 5, 0, 0, 0, 0, 0) := cd_of gl_83 rfl
set_option maxRecDepth 20000 in
theorem cd_83_236 : sm_cd 83 236 = some (.putfield 327, 3, 6, 16, 0, 0, 0, 0, 0) := cd_of gl_83 rfl
set_option maxRecDepth 20000 in
theorem cd_83_239 : sm_cd 83 239 = some (.aload_n 0, 1, 0, 0, 0, 0, 0, 0, 0) := cd_of gl_83 rfl
set_option maxRecDepth 20000 in
theorem cd_83_240 : sm_cd 83 240 = some (.aload_n 0, 1, 0, 0, 0, 0, 0, 0, 0) := cd_of gl_83 rfl
set_option maxRecDepth 20000 in
theorem cd_83_241 : sm_cd 83 241 = some (.getfield 213, 3, 6, 13, 0, 0, 0, 0, 0) := cd_of gl_83 rfl
set_option maxRecDepth 20000 in
theorem cd_83_244 : sm_cd 83 244 = some (.putfield 330, 3, 6, 17, 0, 0, 0, 0, 0) := cd_of gl_83 rfl
set_option maxRecDepth 20000 in
theorem cd_83_247 : sm_cd 83 247 = some (.iconst 0, 1, 0, 0, 0, 0, 0, 0, 0) := cd_of gl_83 rfl
set_option maxRecDepth 20000 in
theorem cd_83_248 : sm_cd 83 248 = some (.istore_n 1, 1, 1, 0, 0, 0, 0, 0, 0) := cd_of gl_83 rfl
set_option maxRecDepth 20000 in
theorem cd_83_249 : sm_cd 83 249 = some (.iload_n 1, 1, 1, 0, 0, 0, 0, 0, 0) := cd_of gl_83 rfl
set_option maxRecDepth 20000 in
theorem cd_83_250 : sm_cd 83 250 = some (.aload_n 0, 1, 0, 0, 0, 0, 0, 0, 0) := cd_of gl_83 rfl
set_option maxRecDepth 20000 in
theorem cd_83_251 : sm_cd 83 251 = some (.getfield 213, 3, 6, 13, 0, 0, 0, 0, 0) := cd_of gl_83 rfl
set_option maxRecDepth 20000 in
theorem cd_83_254 : sm_cd 83 254 = some (.if_icmp .ge 33, 3, 287, 0, 0, 0, 0, 0, 0) := cd_of gl_83 rfl
set_option maxRecDepth 20000 in
theorem cd_83_257 : sm_cd 83 257 = some (.aload_n 0, 1, 0, 0, 0, 0, 0, 0, 0) := cd_of gl_83 rfl
set_option maxRecDepth 20000 in
theorem cd_83_258 : sm_cd 83 258 = some (.getfield 50, 3, 6, 19, 2, 0, 0, 0, 0) := cd_of gl_83 rfl
set_option maxRecDepth 20000 in
theorem cd_83_261 : sm_cd 83 261 = some (.iload_n 1, 1, 1, 0, 0, 0, 0, 0, 0) := cd_of gl_83 rfl
set_option maxRecDepth 20000 in
theorem cd_83_262 : sm_cd 83 262 = some (.aload_n 0, 1, 0, 0, 0, 0, 0, 0, 0) := cd_of gl_83 rfl
set_option maxRecDepth 20000 in
theorem cd_83_263 : sm_cd 83 263 = some (.getfield 41, 3, 6, 14, 2, 0, 0, 0, 0) := cd_of gl_83 rfl
set_option maxRecDepth 20000 in
theorem cd_83_266 : sm_cd 83 266 = some (.iload_n 1, 1, 1, 0, 0, 0, 0, 0, 0) := cd_of gl_83 rfl
set_option maxRecDepth 20000 in
theorem cd_83_267 : sm_cd 83 267 = some (.iaload, 1, 0, 0, 0, 0, 0, 0, 0) := cd_of gl_83 rfl
set_option maxRecDepth 20000 in
theorem cd_83_268 : sm_cd 83 268 = some (.iastore, 1, 0, 0, 0, 0, 0, 0, 0) := cd_of gl_83 rfl
set_option maxRecDepth 20000 in
theorem cd_83_269 : sm_cd 83 269 = some (.aload_n 0, 1, 0, 0, 0, 0, 0, 0, 0) := cd_of gl_83 rfl
set_option maxRecDepth 20000 in
theorem cd_83_270 : sm_cd 83 270 = some (.getfield 53, 3, 6, 20, 2, 0, 0, 0, 0) := cd_of gl_83 rfl
set_option maxRecDepth 20000 in
theorem cd_83_273 : sm_cd 83 273 = some (.iload_n 1, 1, 1, 0, 0, 0, 0, 0, 0) := cd_of gl_83 rfl
set_option maxRecDepth 20000 in
theorem cd_83_274 : sm_cd 83 274 = some (.aload_n 0, 1, 0, 0, 0, 0, 0, 0, 0) := cd_of gl_83 rfl
set_option maxRecDepth 20000 in
theorem cd_83_275 : sm_cd 83 275 = some (.getfield 44, 3, 6, 15, 2, 0, 0, 0, 0) := cd_of gl_83 rfl
set_option maxRecDepth 20000 in
theorem cd_83_278 : sm_cd 83 278 = some (.iload_n 1, 1, 1, 0, 0, 0, 0, 0, 0) := cd_of gl_83 rfl
set_option maxRecDepth 20000 in
theorem cd_83_279 : sm_cd 83 279 = some (.iaload, 1, 0, 0, 0, 0, 0, 0, 0) := cd_of gl_83 rfl
set_option maxRecDepth 20000 in
theorem cd_83_280 : sm_cd 83 280 = some (.iastore, 1, 0, 0, 0, 0, 0, 0, 0) := cd_of gl_83 rfl
set_option maxRecDepth 20000 in
theorem cd_83_281 : sm_cd 83 281 = some (.iinc 1 1, 3, 1, 0, 0, 0, 0, 1, 0) := cd_of gl_83 rfl
set_option maxRecDepth 20000 in
theorem cd_83_284 : sm_cd 83 284 = some (.goto (-35), 3, 249, 0, 0, 0, 0, 0, 0) := cd_of gl_83 rfl
set_option maxRecDepth 20000 in
theorem cd_83_287 : sm_cd 83 287 = some (.iconst 0, 1, 0, 0, 0, 0, 0, 0, 0) := cd_of gl_83 rfl
set_option maxRecDepth 20000 in
theorem cd_83_288 : sm_cd 83 288 = some (.istore_n 1, 1, 1, 0, 0, 0, 0, 0, 0) := cd_of gl_83 rfl
set_option maxRecDepth 20000 in
theorem cd_83_289 : sm_cd 83 289 = some (.iload_n 1, 1, 1, 0, 0, 0, 0, 0, 0) := cd_of gl_83 rfl
set_option maxRecDepth 20000 in
theorem cd_83_290 : sm_cd 83 290 = some (.aload_n 0, 1, 0, 0, 0, 0, 0, 0, 0) := cd_of gl_83 rfl
set_option maxRecDepth 20000 in
theorem cd_83_291 : sm_cd 83 291 = some (.getfield 313, 3, 6, 5, 0, 0, 0, 0, 0) := cd_of gl_83 rfl
set_option maxRecDepth 20000 in
theorem cd_83_294 : sm_cd 83 294 = some (.if_icmp .ge 113, 3, 407, 0, 0, 0, 0, 0, 0) := cd_of gl_83 rfl
set_option maxRecDepth 20000 in
theorem cd_83_297 : sm_cd 83 297 = some (.aload_n 0, 1, 0, 0, 0, 0, 0, 0, 0) := cd_of gl_83 rfl
set_option maxRecDepth 20000 in
theorem cd_83_298 : sm_cd 83 298 = some (.getfield 47, 3, 6, 18, 2, 0, 0, 0, 0) := cd_of gl_83 rfl
set_option maxRecDepth 20000 in
theorem cd_83_301 : sm_cd 83 301 = some (.bipush 10, 2, 0, 0, 0, 0, 0, 10, 0) := cd_of gl_83 rfl
set_option maxRecDepth 20000 in
theorem cd_83_303 : sm_cd 83 303 = some (.iload_n 1, 1, 1, 0, 0, 0, 0, 0, 0) := cd_of gl_83 rfl
set_option maxRecDepth 20000 in
theorem cd_83_304 : sm_cd 83 304 = some (.imul, 1, 0, 0, 0, 0, 0, 0, 0) := cd_of gl_83 rfl
set_option maxRecDepth 20000 in
theorem cd_83_305 : sm_cd 83 305 = some (.aload_n 0, 1, 0, 0, 0, 0, 0, 0, 0) := cd_of gl_83 rfl
set_option maxRecDepth 20000 in
theorem cd_83_306 : sm_cd 83 306 = some (.getfield 23, 3, 6, 7, 2, 0, 0, 0, 0) := cd_of gl_83 rfl
set_option maxRecDepth 20000 in
theorem cd_83_309 : sm_cd 83 309 = some (.iload_n 1, 1, 1, 0, 0, 0, 0, 0, 0) := cd_of gl_83 rfl
set_option maxRecDepth 20000 in
theorem cd_83_310 : sm_cd 83 310 = some (.iaload, 1, 0, 0, 0, 0, 0, 0, 0) := cd_of gl_83 rfl
set_option maxRecDepth 20000 in
theorem cd_83_311 : sm_cd 83 311 = some (.iastore, 1, 0, 0, 0, 0, 0, 0, 0) := cd_of gl_83 rfl
set_option maxRecDepth 20000 in
theorem cd_83_312 : sm_cd 83 312 = some (.aload_n 0, 1, 0, 0, 0, 0, 0, 0, 0) := cd_of gl_83 rfl
set_option maxRecDepth 20000 in
theorem cd_83_313 : sm_cd 83 313 = some (.getfield 47, 3, 6, 18, 2, 0, 0, 0, 0) := cd_of gl_83 rfl
set_option maxRecDepth 20000 in
theorem cd_83_316 : sm_cd 83 316 = some (.bipush 10, 2, 0, 0, 0, 0, 0, 10, 0) := cd_of gl_83 rfl
set_option maxRecDepth 20000 in
theorem cd_83_318 : sm_cd 83 318 = some (.iload_n 1, 1, 1, 0, 0, 0, 0, 0, 0) := cd_of gl_83 rfl
set_option maxRecDepth 20000 in
theorem cd_83_319 : sm_cd 83 319 = some (.imul, 1, 0, 0, 0, 0, 0, 0, 0) := cd_of gl_83 rfl
set_option maxRecDepth 20000 in
theorem cd_83_320 : sm_cd 83 320 = some (.iconst 1, 1, 0, 0, 0, 0, 0, 1, 0) := cd_of gl_83 rfl
set_option maxRecDepth 20000 in
theorem cd_83_321 : sm_cd 83 321 = some (.iadd, 1, 0, 0, 0, 0, 0, 0, 0) := cd_of gl_83 rfl
set_option maxRecDepth 20000 in
theorem cd_83_322 : sm_cd 83 322 = some (.aload_n 0, 1, 0, 0, 0, 0, 0, 0, 0) := cd_of gl_83 rfl
set_option maxRecDepth 20000 in
theorem cd_83_323 : sm_cd 83 323 = some (.getfield 26, 3, 6, 8, 2, 0, 0, 0, 0) := cd_of gl_83 rfl
set_option maxRecDepth 20000 in
theorem cd_83_326 : sm_cd 83 326 = some (.iload_n 1, 1, 1, 0, 0, 0, 0, 0, 0) := cd_of gl_83 rfl
set_option maxRecDepth 20000 in
theorem cd_83_327 : sm_cd 83 327 = some (.iaload, 1, 0, 0, 0, 0, 0, 0, 0) := cd_of gl_83 rfl
set_option maxRecDepth 20000 in
theorem cd_83_328 : sm_cd 83 328 = some (.iastore, 1, 0, 0, 0, 0, 0, 0, 0) := cd_of gl_83 rfl
set_option maxRecDepth 20000 in
theorem cd_83_329 : sm_cd 83 329 = some (.aload_n 0, 1, 0, 0, 0, 0, 0, 0, 0) := cd_of gl_83 rfl
set_option maxRecDepth 20000 in
theorem cd_83_330 : sm_cd 83 330 = some (.getfield 47, 3, 6, 18, 2, 0, 0, 0, 0) := cd_of gl_83 rfl
set_option maxRecDepth 20000 in
theorem cd_83_333 : sm_cd 83 333 = some (.bipush 10, 2, 0, 0, 0, 0, 0, 10, 0) := cd_of gl_83 rfl
set_option maxRecDepth 20000 in
theorem cd_83_335 : sm_cd 83 335 = some (.iload_n 1, 1, 1, 0, 0, 0, 0, 0, 0) := cd_of gl_83 rfl
set_option maxRecDepth 20000 in
theorem cd_83_336 : sm_cd 83 336 = some (.imul, 1, 0, 0, 0, 0, 0, 0, 0) := cd_of gl_83 rfl
set_option maxRecDepth 20000 in
theorem cd_83_337 : sm_cd 83 337 = some (.iconst 2, 1, 0, 0, 0, 0, 0, 2, 0) := cd_of gl_83 rfl
set_option maxRecDepth 20000 in
theorem cd_83_338 : sm_cd 83 338 = some (.iadd, 1, 0, 0, 0, 0, 0, 0, 0) := cd_of gl_83 rfl
set_option maxRecDepth 20000 in
theorem cd_83_339 : sm_cd 83 339 = some (.aload_n 0, 1, 0, 0, 0, 0, 0, 0, 0) := cd_of gl_83 rfl
set_option maxRecDepth 20000 in
theorem cd_83_340 : sm_cd 83 340 = some (.getfield 29, 3, 6, 9, 2, 0, 0, 0, 0) := cd_of gl_83 rfl
set_option maxRecDepth 20000 in
theorem cd_83_343 : sm_cd 83 343 = some (.iload_n 1, 1, 1, 0, 0, 0, 0, 0, 0) := cd_of gl_83 rfl
set_option maxRecDepth 20000 in
theorem cd_83_344 : sm_cd 83 344 = some (.iaload, 1, 0, 0, 0, 0, 0, 0, 0) := cd_of gl_83 rfl
set_option maxRecDepth 20000 in
theorem cd_83_345 : sm_cd 83 345 = some (.iastore, 1, 0, 0, 0, 0, 0, 0, 0) := cd_of gl_83 rfl
set_option maxRecDepth 20000 in
theorem cd_83_346 : sm_cd 83 346 = some (.aload_n 0, 1, 0, 0, 0, 0, 0, 0, 0) := cd_of gl_83 rfl
set_option maxRecDepth 20000 in
theorem cd_83_347 : sm_cd 83 347 = some (.getfield 47, 3, 6, 18, 2, 0, 0, 0, 0) := cd_of gl_83 rfl
set_option maxRecDepth 20000 in
theorem cd_83_350 : sm_cd 83 350 = some (.bipush 10, 2, 0, 0, 0, 0, 0, 10, 0) := cd_of gl_83 rfl
set_option maxRecDepth 20000 in
theorem cd_83_352 : sm_cd 83 352 = some (.iload_n 1, 1, 1, 0, 0, 0, 0, 0, 0) := cd_of gl_83 rfl
set_option maxRecDepth 20000 in
theorem cd_83_353 : sm_cd 83 353 = some (.imul, 1, 0, 0, 0, 0, 0, 0, 0) := cd_of gl_83 rfl
set_option maxRecDepth 20000 in
theorem cd_83_354 : sm_cd 83 354 = some (.iconst 3, 1, 0, 0, 0, 0, 0, 3, 0) := cd_of gl_83 rfl
set_option maxRecDepth 20000 in
theorem cd_83_355 : sm_cd 83 355 = some (.iadd, 1, 0, 0, 0, 0, 0, 0, 0) := cd_of gl_83 rfl
set_option maxRecDepth 20000 in
theorem cd_83_356 : sm_cd 83 356 = some (.aload_n 0, 1, 0, 0, 0, 0, 0, 0, 0) := cd_of gl_83 rfl
set_option maxRecDepth 20000 in
theorem cd_83_357 : sm_cd 83 357 = some (.getfield 32, 3, 6, 10, 2, 0, 0, 0, 0) := cd_of gl_83 rfl
set_option maxRecDepth 20000 in
theorem cd_83_360 : sm_cd 83 360 = some (.iload_n 1, 1, 1, 0, 0, 0, 0, 0, 0) := cd_of gl_83 rfl
set_option maxRecDepth 20000 in
theorem cd_83_361 : sm_cd 83 361 = some (.iaload, 1, 0, 0, 0, 0, 0, 0, 0) := cd_of gl_83 rfl
set_option maxRecDepth 20000 in
theorem cd_83_362 : sm_cd 83 362 = some (.iastore, 1, 0, 0, 0, 0, 0, 0, 0) := cd_of gl_83 rfl
set_option maxRecDepth 20000 in
theorem cd_83_363 : sm_cd 83 363 = some (.iconst 0, 1, 0, 0, 0, 0, 0, 0, 0) := cd_of gl_83 rfl
set_option maxRecDepth 20000 in
theorem cd_83_364 : sm_cd 83 364 = some (.istore_n 2, 1, 2, 0, 0, 0, 0, 0, 0) := cd_of gl_83 rfl
set_option maxRecDepth 20000 in
theorem cd_83_365 : sm_cd 83 365 = some (.iload_n 2, 1, 2, 0, 0, 0, 0, 0, 0) := cd_of gl_83 rfl
set_option maxRecDepth 20000 in
theorem cd_83_366 : sm_cd 83 366 = some (.bipush 6, 2, 0, 0, 0, 0, 0, 6, 0) := cd_of gl_83 rfl
set_option maxRecDepth 20000 in
theorem cd_83_368 : sm_cd 83 368 = some (.if_icmp .ge 33, 3, 401, 0, 0, 0, 0, 0, 0) := cd_of gl_83 rfl
set_option maxRecDepth 20000 in
theorem cd_83_371 : sm_cd 83 371 = some (.aload_n 0, 1, 0, 0, 0, 0, 0, 0, 0) := cd_of gl_83 rfl
set_option maxRecDepth 20000 in
theorem cd_83_372 : sm_cd 83 372 = some (.getfield 47, 3, 6, 18, 2, 0, 0, 0, 0) := cd_of gl_83 rfl
set_option maxRecDepth 20000 in
theorem cd_83_375 : sm_cd 83 375 = some (.bipush 10, 2, 0, 0, 0, 0, 0, 10, 0) := cd_of gl_83 rfl
set_option maxRecDepth 20000 in
theorem cd_83_377 : sm_cd 83 377 = some (.iload_n 1, 1, 1, 0, 0, 0, 0, 0, 0) := cd_of gl_83 rfl
set_option maxRecDepth 20000 in
theorem cd_83_378 : sm_cd 83 378 = some (.imul, 1, 0, 0, 0, 0, 0, 0, 0) := cd_of gl_83 rfl
set_option maxRecDepth 20000 in
theorem cd_83_379 : sm_cd 83 379 = some (.iconst 4, 1, 0, 0, 0, 0, 0, 4, 0) := cd_of gl_83 rfl
set_option maxRecDepth 20000 in
theorem cd_83_380 : sm_cd 83 380 = some (.iadd, 1, 0, 0, 0, 0, 0, 0, 0) := cd_of gl_83 rfl
set_option maxRecDepth 20000 in
theorem cd_83_381 : sm_cd 83 381 = some (.iload_n 2, 1, 2, 0, 0, 0, 0, 0, 0) := cd_of gl_83 rfl
set_option maxRecDepth 20000 in
theorem cd_83_382 : sm_cd 83 382 = some (.iadd, 1, 0, 0, 0, 0, 0, 0, 0) := cd_of gl_83 rfl
set_option maxRecDepth 20000 in
theorem cd_83_383 : sm_cd 83 383 = some (.aload_n 0, 1, 0, 0, 0, 0, 0, 0, 0) := cd_of gl_83 rfl
set_option maxRecDepth 20000 in
theorem cd_83_384 : sm_cd 83 384 = some (.getfield 38, 3, 6, 12, 2, 0, 0, 0, 0) := cd_of gl_83 rfl
set_option maxRecDepth 20000 in
theorem cd_83_387 : sm_cd 83 387 = some (.bipush 6, 2, 0, 0, 0, 0, 0, 6, 0) := cd_of gl_83 rfl
set_option maxRecDepth 20000 in
theorem cd_83_389 : sm_cd 83 389 = some (.iload_n 1, 1, 1, 0, 0, 0, 0, 0, 0) := cd_of gl_83 rfl
set_option maxRecDepth 20000 in
theorem cd_83_390 : sm_cd 83 390 = some (.imul, 1, 0, 0, 0, 0, 0, 0, 0) := cd_of gl_83 rfl
set_option maxRecDepth 20000 in
theorem cd_83_391 : sm_cd 83 391 = some (.iload_n 2, 1, 2, 0, 0, 0, 0, 0, 0) := cd_of gl_83 rfl
set_option maxRecDepth 20000 in
theorem cd_83_392 : sm_cd 83 392 = some (.iadd, 1, 0, 0, 0, 0, 0, 0, 0) := cd_of gl_83 rfl
set_option maxRecDepth 20000 in
theorem cd_83_393 : sm_cd 83 393 = some (.iaload, 1, 0, 0, 0, 0, 0, 0, 0) := cd_of gl_83 rfl
set_option maxRecDepth 20000 in
theorem cd_83_394 : sm_cd 83 394 = some (.iastore, 1, 0, 0, 0, 0, 0, 0, 0) := cd_of gl_83 rfl
set_option maxRecDepth 20000 in
theorem cd_83_395 : sm_cd 83 395 = some (.iinc 2 1, 3, 2, 0, 0, 0, 0, 1, 0) := cd_of gl_83 rfl
set_option maxRecDepth 20000 in
theorem cd_83_398 : sm_cd 83 398 = some (.goto (-33), 3, 365, 0, 0, 0, 0, 0, 0) := cd_of gl_83 rfl
set_option maxRecDepth 20000 in
theorem cd_83_401 : sm_cd 83 401 = some (.iinc 1 1, 3, 1, 0, 0, 0, 0, 1, 0) := cd_of gl_83 rfl
set_option maxRecDepth 20000 in
theorem cd_83_404 : sm_cd 83 404 = some (.goto (-115), 3, 289, 0, 0, 0, 0, 0, 0) := cd_of gl_83 rfl
set_option maxRecDepth 20000 in
theorem cd_83_407 : sm_cd 83 407 = some (.aload_n 0, 1, 0, 0, 0, 0, 0, 0, 0) := cd_of gl_83 rfl
set_option maxRecDepth 20000 in
theorem cd_83_408 : sm_cd 83 408 = some (.iconst 0, 1, 0, 0, 0, 0, 0, 0, 0) := cd_of gl_83 rfl
set_option maxRecDepth 20000 in
theorem cd_83_409 : sm_cd 83 409 = some (.putfield 333, 3, 6, 42, 1, 0, 0, 0, 0) := cd_of gl_83 rfl
set_option maxRecDepth 20000 in
theorem cd_83_412 : sm_cd 83 412 = some (.aload_n 0, 1, 0, 0, 0, 0, 0, 0, 0) := cd_of gl_83 rfl
set_option maxRecDepth 20000 in
theorem cd_83_413 : sm_cd 83 413 = some (.invokevirtual 336, 3, 118, 0, 0, 6, 6, 0, 0) := cd_of gl_83 rfl
set_option maxRecDepth 20000 in
theorem cd_83_416 : sm_cd 83 416 = some (.aload_n 0, 1, 0, 0, 0, 0, 0, 0, 0) := cd_of gl_83 rfl
set_option maxRecDepth 20000 in
theorem cd_83_417 : sm_cd 83 417 = some (.getfield 330, 3, 6, 17, 0, 0, 0, 0, 0) := cd_of gl_83 rfl
set_option maxRecDepth 20000 in
theorem cd_83_420 : sm_cd 83 420 = some (.i2l, 1, 0, 0, 0, 0, 0, 0, 0) := cd_of gl_83 rfl
set_option maxRecDepth 20000 in
theorem cd_83_421 : sm_cd 83 421 = some (.lreturn, 1, 0, 0, 0, 0, 0, 0, 0) := cd_of gl_83 rfl
noncomputable def f_83_365 (K : Nat → Value) (k : Nat) (d : Nat) (r289 : Nat → Int32 → aW → aI → aJ → Option aR) : Nat → Int32 → Int32 → aW → aI → aJ → Option aR :=
  match k with
  | 0 => fun _ _ _ _ _ _ => none
  | k + 1 => fun l0 l1 l2 w I J =>
  lt_ (f_83_365 K k d r289) fun r365 =>
  if 6 ≤ l2 then
    lt_ (l1 + 1) fun x_1 =>
    r289 l0 x_1 w I J
  else
    gO w 6 l0 (
    gV w l0 18 fun q_2 =>
    gO w 6 l0 (
    gV w l0 12 fun q_3 =>
    gA w 10 20 q_3 ((6 * l1) + l2) (
    gA w 10 10 q_2 (((10 * l1) + 4) + l2) (
    lt_ (sm_up2 I q_2 (((10 * l1) + 4) + l2 : Int32).toNatClampNeg (I q_3 ((6 * l1) + l2 : Int32).toNatClampNeg)) fun I_4 =>
    lt_ (l2 + 1) fun x_5 =>
    r365 l0 l1 x_5 w I_4 J))))
theorem ok_83_365 {K : Nat → Value} {d : Nat} {r289 : Nat → Int32 → aW → aI → aJ → Option aR} (hr289 : ∀ (l0 : Nat) (l1 : Int32) (w : aW) (I : aI) (J : aJ) (R : aR), r289 l0 l1 w I J = some R → Go K (d + 1) 83 289 [some (.ref l0), some (.int l1), none] [] w I J R) : ∀ {k : Nat} {l0 : Nat} {l1 : Int32} {l2 : Int32} {w : aW} {I : aI} {J : aJ} {R : aR}, f_83_365 K k d r289 l0 l1 l2 w I J = some R → Go K (d + 1) 83 365 [some (.ref l0), some (.int l1), some (.int l2)] [] w I J R := by
  intro k
  induction k with
  | zero => intro l0 l1 l2 w I J R h; cases h
  | succ k ih =>
    intro l0 l1 l2 w I J R h
    have hr365 : ∀ (l0 : Nat) (l1 : Int32) (l2 : Int32) (w : aW) (I : aI) (J : aJ) (R : aR), f_83_365 K k d r289 l0 l1 l2 w I J = some R → Go K (d + 1) 83 365 [some (.ref l0), some (.int l1), some (.int l2)] [] w I J R := fun l0 l1 l2 w I J R h => ih h
    rw [f_83_365] at h
    obtain ⟨r365, hx, h⟩ := lt_s_ h
    rw [hx] at hr365
    clear hx ih
    refine gs_0 (pc' := 366) (L' := [some (.ref l0), some (.int l1), some (.int l2)]) (st' := [.int l2]) cd_83_365 rfl rfl ?_
    refine gs_0 (pc' := 368) (L' := [some (.ref l0), some (.int l1), some (.int l2)]) (st' := [.int 6, .int l2]) cd_83_366 rfl rfl ?_
    refine gs_0 (pc' := if 6 ≤ l2 then 401 else 371) (L' := [some (.ref l0), some (.int l1), some (.int l2)]) (st' := []) cd_83_368 rfl rfl ?_
    refine go_ite (fun hc => ?_) (fun hc => ?_)
    · rw [if_pos hc] at h
      refine gs_0 (pc' := 404) (L' := [some (.ref l0), some (.int (l1 + 1)), some (.int l2)]) (st' := []) cd_83_401 rfl rfl ?_
      obtain ⟨x_1, hx, h⟩ := lt_s_ h
      rw [hx]
      clear hx
      refine gs_0 (pc' := 289) (L' := [some (.ref l0), some (.int x_1), some (.int l2)]) (st' := []) cd_83_404 rfl rfl ?_
      refine go_drop [some (.ref l0), some (.int x_1), none] ⟨rfl, ⟨rfl, ⟨rfl, trivial⟩⟩⟩ ?_
      exact hr289 l0 x_1 _ _ _ _ h
    · rw [if_neg hc] at h
      refine gs_0 (pc' := 372) (L' := [some (.ref l0), some (.int l1), some (.int l2)]) (st' := [.ref l0]) cd_83_371 rfl rfl ?_
      obtain ⟨ht, h⟩ := gO_s h
      obtain ⟨q_2, hv, h⟩ := gV_s h
      refine gs_gfR cd_83_372 (by decide) ht hv ?_
      refine gs_0 (pc' := 377) (L' := [some (.ref l0), some (.int l1), some (.int l2)]) (st' := [.int 10, .ref q_2]) cd_83_375 rfl rfl ?_
      refine gs_0 (pc' := 378) (L' := [some (.ref l0), some (.int l1), some (.int l2)]) (st' := [.int l1, .int 10, .ref q_2]) cd_83_377 rfl rfl ?_
      refine gs_0 (pc' := 379) (L' := [some (.ref l0), some (.int l1), some (.int l2)]) (st' := [.int (10 * l1), .ref q_2]) cd_83_378 rfl rfl ?_
      refine gs_0 (pc' := 380) (L' := [some (.ref l0), some (.int l1), some (.int l2)]) (st' := [.int 4, .int (10 * l1), .ref q_2]) cd_83_379 rfl rfl ?_
      refine gs_0 (pc' := 381) (L' := [some (.ref l0), some (.int l1), some (.int l2)]) (st' := [.int ((10 * l1) + 4), .ref q_2]) cd_83_380 rfl rfl ?_
      refine gs_0 (pc' := 382) (L' := [some (.ref l0), some (.int l1), some (.int l2)]) (st' := [.int l2, .int ((10 * l1) + 4), .ref q_2]) cd_83_381 rfl rfl ?_
      refine gs_0 (pc' := 383) (L' := [some (.ref l0), some (.int l1), some (.int l2)]) (st' := [.int (((10 * l1) + 4) + l2), .ref q_2]) cd_83_382 rfl rfl ?_
      refine gs_0 (pc' := 384) (L' := [some (.ref l0), some (.int l1), some (.int l2)]) (st' := [.ref l0, .int (((10 * l1) + 4) + l2), .ref q_2]) cd_83_383 rfl rfl ?_
      obtain ⟨ht, h⟩ := gO_s h
      obtain ⟨q_3, hv, h⟩ := gV_s h
      refine gs_gfR cd_83_384 (by decide) ht hv ?_
      refine gs_0 (pc' := 389) (L' := [some (.ref l0), some (.int l1), some (.int l2)]) (st' := [.int 6, .ref q_3, .int (((10 * l1) + 4) + l2), .ref q_2]) cd_83_387 rfl rfl ?_
      refine gs_0 (pc' := 390) (L' := [some (.ref l0), some (.int l1), some (.int l2)]) (st' := [.int l1, .int 6, .ref q_3, .int (((10 * l1) + 4) + l2), .ref q_2]) cd_83_389 rfl rfl ?_
      refine gs_0 (pc' := 391) (L' := [some (.ref l0), some (.int l1), some (.int l2)]) (st' := [.int (6 * l1), .ref q_3, .int (((10 * l1) + 4) + l2), .ref q_2]) cd_83_390 rfl rfl ?_
      refine gs_0 (pc' := 392) (L' := [some (.ref l0), some (.int l1), some (.int l2)]) (st' := [.int l2, .int (6 * l1), .ref q_3, .int (((10 * l1) + 4) + l2), .ref q_2]) cd_83_391 rfl rfl ?_
      refine gs_0 (pc' := 393) (L' := [some (.ref l0), some (.int l1), some (.int l2)]) (st' := [.int ((6 * l1) + l2), .ref q_3, .int (((10 * l1) + 4) + l2), .ref q_2]) cd_83_392 rfl rfl ?_
      obtain ⟨ht, h⟩ := gA_s h
      refine gs_iald cd_83_393 ht ?_
      obtain ⟨ht, h⟩ := gA_s h
      refine gs_iast cd_83_394 ht ?_
      obtain ⟨I_4, hx, h⟩ := lt_s_ h
      rw [hx]
      refine gs_0 (pc' := 398) (L' := [some (.ref l0), some (.int l1), some (.int (l2 + 1))]) (st' := []) cd_83_395 rfl rfl ?_
      obtain ⟨x_5, hx, h⟩ := lt_s_ h
      rw [hx]
      clear hx
      refine gs_0 (pc' := 365) (L' := [some (.ref l0), some (.int l1), some (.int x_5)]) (st' := []) cd_83_398 rfl rfl ?_
      exact hr365 l0 l1 x_5 _ _ _ _ h
noncomputable def f_83_289 (K : Nat → Value) (k : Nat) (d : Nat) : Nat → Int32 → aW → aI → aJ → Option aR :=
  match k with
  | 0 => fun _ _ _ _ _ => none
  | k + 1 => fun l0 l1 w I J =>
  lt_ (f_83_289 K k d) fun r289 =>
  gO w 6 l0 (
  if (I l0 5) ≤ l1 then
    gO w 6 l0 (
    lt_ (sm_up2 I l0 42 0) fun I_1 =>
    gO w 6 l0 (
    cV (Cl K d 118 [.ref l0] w I_1 J) fun w_2 I_3 J_4 =>
    gO w_2 6 l0 (
    some (some (.long ((I_3 l0 17 : Int32).toInt64)), w_2, I_3, J_4))))
  else
    gO w 6 l0 (
    gV w l0 18 fun q_5 =>
    gO w 6 l0 (
    gV w l0 7 fun q_6 =>
    gA w 10 20 q_6 l1 (
    gA w 10 10 q_5 (10 * l1) (
    lt_ (sm_up2 I q_5 (10 * l1 : Int32).toNatClampNeg (I q_6 (l1 : Int32).toNatClampNeg)) fun I_7 =>
    gO w 6 l0 (
    gV w l0 18 fun q_8 =>
    gO w 6 l0 (
    gV w l0 8 fun q_9 =>
    gA w 10 20 q_9 l1 (
    gA w 10 10 q_8 ((10 * l1) + 1) (
    lt_ (sm_up2 I_7 q_8 ((10 * l1) + 1 : Int32).toNatClampNeg (I_7 q_9 (l1 : Int32).toNatClampNeg)) fun I_10 =>
    gO w 6 l0 (
    gV w l0 18 fun q_11 =>
    gO w 6 l0 (
    gV w l0 9 fun q_12 =>
    gA w 10 20 q_12 l1 (
    gA w 10 10 q_11 ((10 * l1) + 2) (
    lt_ (sm_up2 I_10 q_11 ((10 * l1) + 2 : Int32).toNatClampNeg (I_10 q_12 (l1 : Int32).toNatClampNeg)) fun I_13 =>
    gO w 6 l0 (
    gV w l0 18 fun q_14 =>
    gO w 6 l0 (
    gV w l0 10 fun q_15 =>
    gA w 10 20 q_15 l1 (
    gA w 10 10 q_14 ((10 * l1) + 3) (
    lt_ (sm_up2 I_13 q_14 ((10 * l1) + 3 : Int32).toNatClampNeg (I_13 q_15 (l1 : Int32).toNatClampNeg)) fun I_16 =>
    f_83_365 K k d r289 l0 l1 0 w I_16 J)))))))))))))))))
theorem ok_83_289 {K : Nat → Value} {d : Nat} : ∀ {k : Nat} {l0 : Nat} {l1 : Int32} {w : aW} {I : aI} {J : aJ} {R : aR}, f_83_289 K k d l0 l1 w I J = some R → Go K (d + 1) 83 289 [some (.ref l0), some (.int l1), none] [] w I J R := by
  intro k
  induction k with
  | zero => intro l0 l1 w I J R h; cases h
  | succ k ih =>
    intro l0 l1 w I J R h
    have hr289 : ∀ (l0 : Nat) (l1 : Int32) (w : aW) (I : aI) (J : aJ) (R : aR), f_83_289 K k d l0 l1 w I J = some R → Go K (d + 1) 83 289 [some (.ref l0), some (.int l1), none] [] w I J R := fun l0 l1 w I J R h => ih h
    rw [f_83_289] at h
    obtain ⟨r289, hx, h⟩ := lt_s_ h
    rw [hx] at hr289
    clear hx ih
    refine gs_0 (pc' := 290) (L' := [some (.ref l0), some (.int l1), none]) (st' := [.int l1]) cd_83_289 rfl rfl ?_
    refine gs_0 (pc' := 291) (L' := [some (.ref l0), some (.int l1), none]) (st' := [.ref l0, .int l1]) cd_83_290 rfl rfl ?_
    obtain ⟨ht, h⟩ := gO_s h
    refine gs_gfI cd_83_291 (by decide) (by decide) ht ?_
    refine gs_0 (pc' := if (I l0 5) ≤ l1 then 407 else 297) (L' := [some (.ref l0), some (.int l1), none]) (st' := []) cd_83_294 rfl rfl ?_
    refine go_ite (fun hc => ?_) (fun hc => ?_)
    · rw [if_pos hc] at h
      refine gs_0 (pc' := 408) (L' := [some (.ref l0), some (.int l1), none]) (st' := [.ref l0]) cd_83_407 rfl rfl ?_
      refine gs_0 (pc' := 409) (L' := [some (.ref l0), some (.int l1), none]) (st' := [.int 0, .ref l0]) cd_83_408 rfl rfl ?_
      obtain ⟨ht, h⟩ := gO_s h
      refine gs_pfI cd_83_409 (by decide) (Or.inr ⟨rfl, Or.inl rfl⟩) ht ?_
      obtain ⟨I_1, hx, h⟩ := lt_s_ h
      rw [hx]
      refine gs_0 (pc' := 413) (L' := [some (.ref l0), some (.int l1), none]) (st' := [.ref l0]) cd_83_412 rfl rfl ?_
      obtain ⟨ht, h⟩ := gO_s h
      obtain ⟨w_2, I_3, J_4, hcl, h⟩ := cV_s h
      refine gs_call (as := [.ref l0]) (rest := []) cd_83_413 rfl (by decide) rfl (sm_rv_ok (by decide) ht) (Nat.le_of_ble_eq_true rfl) (Nat.le_of_ble_eq_true rfl) rfl hcl ?_
      refine gs_0 (pc' := 417) (L' := [some (.ref l0), some (.int l1), none]) (st' := [.ref l0]) cd_83_416 rfl rfl ?_
      obtain ⟨ht, h⟩ := gO_s h
      refine gs_gfI cd_83_417 (by decide) (by decide) ht ?_
      refine gs_0 (pc' := 421) (L' := [some (.ref l0), some (.int l1), none]) (st' := [.long ((I_3 l0 17 : Int32).toInt64)]) cd_83_420 rfl rfl ?_
      cases h
      exact gsr cd_83_421 rfl rfl
    · rw [if_neg hc] at h
      refine gs_0 (pc' := 298) (L' := [some (.ref l0), some (.int l1), none]) (st' := [.ref l0]) cd_83_297 rfl rfl ?_
      obtain ⟨ht, h⟩ := gO_s h
      obtain ⟨q_5, hv, h⟩ := gV_s h
      refine gs_gfR cd_83_298 (by decide) ht hv ?_
      refine gs_0 (pc' := 303) (L' := [some (.ref l0), some (.int l1), none]) (st' := [.int 10, .ref q_5]) cd_83_301 rfl rfl ?_
      refine gs_0 (pc' := 304) (L' := [some (.ref l0), some (.int l1), none]) (st' := [.int l1, .int 10, .ref q_5]) cd_83_303 rfl rfl ?_
      refine gs_0 (pc' := 305) (L' := [some (.ref l0), some (.int l1), none]) (st' := [.int (10 * l1), .ref q_5]) cd_83_304 rfl rfl ?_
      refine gs_0 (pc' := 306) (L' := [some (.ref l0), some (.int l1), none]) (st' := [.ref l0, .int (10 * l1), .ref q_5]) cd_83_305 rfl rfl ?_
      obtain ⟨ht, h⟩ := gO_s h
      obtain ⟨q_6, hv, h⟩ := gV_s h
      refine gs_gfR cd_83_306 (by decide) ht hv ?_
      refine gs_0 (pc' := 310) (L' := [some (.ref l0), some (.int l1), none]) (st' := [.int l1, .ref q_6, .int (10 * l1), .ref q_5]) cd_83_309 rfl rfl ?_
      obtain ⟨ht, h⟩ := gA_s h
      refine gs_iald cd_83_310 ht ?_
      obtain ⟨ht, h⟩ := gA_s h
      refine gs_iast cd_83_311 ht ?_
      obtain ⟨I_7, hx, h⟩ := lt_s_ h
      rw [hx]
      refine gs_0 (pc' := 313) (L' := [some (.ref l0), some (.int l1), none]) (st' := [.ref l0]) cd_83_312 rfl rfl ?_
      obtain ⟨ht, h⟩ := gO_s h
      obtain ⟨q_8, hv, h⟩ := gV_s h
      refine gs_gfR cd_83_313 (by decide) ht hv ?_
      refine gs_0 (pc' := 318) (L' := [some (.ref l0), some (.int l1), none]) (st' := [.int 10, .ref q_8]) cd_83_316 rfl rfl ?_
      refine gs_0 (pc' := 319) (L' := [some (.ref l0), some (.int l1), none]) (st' := [.int l1, .int 10, .ref q_8]) cd_83_318 rfl rfl ?_
      refine gs_0 (pc' := 320) (L' := [some (.ref l0), some (.int l1), none]) (st' := [.int (10 * l1), .ref q_8]) cd_83_319 rfl rfl ?_
      refine gs_0 (pc' := 321) (L' := [some (.ref l0), some (.int l1), none]) (st' := [.int 1, .int (10 * l1), .ref q_8]) cd_83_320 rfl rfl ?_
      refine gs_0 (pc' := 322) (L' := [some (.ref l0), some (.int l1), none]) (st' := [.int ((10 * l1) + 1), .ref q_8]) cd_83_321 rfl rfl ?_
      refine gs_0 (pc' := 323) (L' := [some (.ref l0), some (.int l1), none]) (st' := [.ref l0, .int ((10 * l1) + 1), .ref q_8]) cd_83_322 rfl rfl ?_
      obtain ⟨ht, h⟩ := gO_s h
      obtain ⟨q_9, hv, h⟩ := gV_s h
      refine gs_gfR cd_83_323 (by decide) ht hv ?_
      refine gs_0 (pc' := 327) (L' := [some (.ref l0), some (.int l1), none]) (st' := [.int l1, .ref q_9, .int ((10 * l1) + 1), .ref q_8]) cd_83_326 rfl rfl ?_
      obtain ⟨ht, h⟩ := gA_s h
      refine gs_iald cd_83_327 ht ?_
      obtain ⟨ht, h⟩ := gA_s h
      refine gs_iast cd_83_328 ht ?_
      obtain ⟨I_10, hx, h⟩ := lt_s_ h
      rw [hx]
      refine gs_0 (pc' := 330) (L' := [some (.ref l0), some (.int l1), none]) (st' := [.ref l0]) cd_83_329 rfl rfl ?_
      obtain ⟨ht, h⟩ := gO_s h
      obtain ⟨q_11, hv, h⟩ := gV_s h
      refine gs_gfR cd_83_330 (by decide) ht hv ?_
      refine gs_0 (pc' := 335) (L' := [some (.ref l0), some (.int l1), none]) (st' := [.int 10, .ref q_11]) cd_83_333 rfl rfl ?_
      refine gs_0 (pc' := 336) (L' := [some (.ref l0), some (.int l1), none]) (st' := [.int l1, .int 10, .ref q_11]) cd_83_335 rfl rfl ?_
      refine gs_0 (pc' := 337) (L' := [some (.ref l0), some (.int l1), none]) (st' := [.int (10 * l1), .ref q_11]) cd_83_336 rfl rfl ?_
      refine gs_0 (pc' := 338) (L' := [some (.ref l0), some (.int l1), none]) (st' := [.int 2, .int (10 * l1), .ref q_11]) cd_83_337 rfl rfl ?_
      refine gs_0 (pc' := 339) (L' := [some (.ref l0), some (.int l1), none]) (st' := [.int ((10 * l1) + 2), .ref q_11]) cd_83_338 rfl rfl ?_
      refine gs_0 (pc' := 340) (L' := [some (.ref l0), some (.int l1), none]) (st' := [.ref l0, .int ((10 * l1) + 2), .ref q_11]) cd_83_339 rfl rfl ?_
      obtain ⟨ht, h⟩ := gO_s h
      obtain ⟨q_12, hv, h⟩ := gV_s h
      refine gs_gfR cd_83_340 (by decide) ht hv ?_
      refine gs_0 (pc' := 344) (L' := [some (.ref l0), some (.int l1), none]) (st' := [.int l1, .ref q_12, .int ((10 * l1) + 2), .ref q_11]) cd_83_343 rfl rfl ?_
      obtain ⟨ht, h⟩ := gA_s h
      refine gs_iald cd_83_344 ht ?_
      obtain ⟨ht, h⟩ := gA_s h
      refine gs_iast cd_83_345 ht ?_
      obtain ⟨I_13, hx, h⟩ := lt_s_ h
      rw [hx]
      refine gs_0 (pc' := 347) (L' := [some (.ref l0), some (.int l1), none]) (st' := [.ref l0]) cd_83_346 rfl rfl ?_
      obtain ⟨ht, h⟩ := gO_s h
      obtain ⟨q_14, hv, h⟩ := gV_s h
      refine gs_gfR cd_83_347 (by decide) ht hv ?_
      refine gs_0 (pc' := 352) (L' := [some (.ref l0), some (.int l1), none]) (st' := [.int 10, .ref q_14]) cd_83_350 rfl rfl ?_
      refine gs_0 (pc' := 353) (L' := [some (.ref l0), some (.int l1), none]) (st' := [.int l1, .int 10, .ref q_14]) cd_83_352 rfl rfl ?_
      refine gs_0 (pc' := 354) (L' := [some (.ref l0), some (.int l1), none]) (st' := [.int (10 * l1), .ref q_14]) cd_83_353 rfl rfl ?_
      refine gs_0 (pc' := 355) (L' := [some (.ref l0), some (.int l1), none]) (st' := [.int 3, .int (10 * l1), .ref q_14]) cd_83_354 rfl rfl ?_
      refine gs_0 (pc' := 356) (L' := [some (.ref l0), some (.int l1), none]) (st' := [.int ((10 * l1) + 3), .ref q_14]) cd_83_355 rfl rfl ?_
      refine gs_0 (pc' := 357) (L' := [some (.ref l0), some (.int l1), none]) (st' := [.ref l0, .int ((10 * l1) + 3), .ref q_14]) cd_83_356 rfl rfl ?_
      obtain ⟨ht, h⟩ := gO_s h
      obtain ⟨q_15, hv, h⟩ := gV_s h
      refine gs_gfR cd_83_357 (by decide) ht hv ?_
      refine gs_0 (pc' := 361) (L' := [some (.ref l0), some (.int l1), none]) (st' := [.int l1, .ref q_15, .int ((10 * l1) + 3), .ref q_14]) cd_83_360 rfl rfl ?_
      obtain ⟨ht, h⟩ := gA_s h
      refine gs_iald cd_83_361 ht ?_
      obtain ⟨ht, h⟩ := gA_s h
      refine gs_iast cd_83_362 ht ?_
      obtain ⟨I_16, hx, h⟩ := lt_s_ h
      rw [hx]
      refine gs_0 (pc' := 364) (L' := [some (.ref l0), some (.int l1), none]) (st' := [.int 0]) cd_83_363 rfl rfl ?_
      refine gs_0 (pc' := 365) (L' := [some (.ref l0), some (.int l1), some (.int 0)]) (st' := []) cd_83_364 rfl rfl ?_
      exact ok_83_365 hr289 h
noncomputable def f_83_249 (K : Nat → Value) (k : Nat) (d : Nat) : Nat → Int32 → aW → aI → aJ → Option aR :=
  match k with
  | 0 => fun _ _ _ _ _ => none
  | k + 1 => fun l0 l1 w I J =>
  lt_ (f_83_249 K k d) fun r249 =>
  gO w 6 l0 (
  if (I l0 13) ≤ l1 then
    f_83_289 K k d l0 0 w I J
  else
    gO w 6 l0 (
    gV w l0 19 fun q_1 =>
    gO w 6 l0 (
    gV w l0 14 fun q_2 =>
    gA w 10 20 q_2 l1 (
    gA w 10 10 q_1 l1 (
    lt_ (sm_up2 I q_1 (l1 : Int32).toNatClampNeg (I q_2 (l1 : Int32).toNatClampNeg)) fun I_3 =>
    gO w 6 l0 (
    gV w l0 20 fun q_4 =>
    gO w 6 l0 (
    gV w l0 15 fun q_5 =>
    gA w 10 20 q_5 l1 (
    gA w 10 10 q_4 l1 (
    lt_ (sm_up2 I_3 q_4 (l1 : Int32).toNatClampNeg (I_3 q_5 (l1 : Int32).toNatClampNeg)) fun I_6 =>
    lt_ (l1 + 1) fun x_7 =>
    r249 l0 x_7 w I_6 J)))))))))
theorem ok_83_249 {K : Nat → Value} {d : Nat} : ∀ {k : Nat} {l0 : Nat} {l1 : Int32} {w : aW} {I : aI} {J : aJ} {R : aR}, f_83_249 K k d l0 l1 w I J = some R → Go K (d + 1) 83 249 [some (.ref l0), some (.int l1), none] [] w I J R := by
  intro k
  induction k with
  | zero => intro l0 l1 w I J R h; cases h
  | succ k ih =>
    intro l0 l1 w I J R h
    have hr249 : ∀ (l0 : Nat) (l1 : Int32) (w : aW) (I : aI) (J : aJ) (R : aR), f_83_249 K k d l0 l1 w I J = some R → Go K (d + 1) 83 249 [some (.ref l0), some (.int l1), none] [] w I J R := fun l0 l1 w I J R h => ih h
    rw [f_83_249] at h
    obtain ⟨r249, hx, h⟩ := lt_s_ h
    rw [hx] at hr249
    clear hx ih
    refine gs_0 (pc' := 250) (L' := [some (.ref l0), some (.int l1), none]) (st' := [.int l1]) cd_83_249 rfl rfl ?_
    refine gs_0 (pc' := 251) (L' := [some (.ref l0), some (.int l1), none]) (st' := [.ref l0, .int l1]) cd_83_250 rfl rfl ?_
    obtain ⟨ht, h⟩ := gO_s h
    refine gs_gfI cd_83_251 (by decide) (by decide) ht ?_
    refine gs_0 (pc' := if (I l0 13) ≤ l1 then 287 else 257) (L' := [some (.ref l0), some (.int l1), none]) (st' := []) cd_83_254 rfl rfl ?_
    refine go_ite (fun hc => ?_) (fun hc => ?_)
    · rw [if_pos hc] at h
      refine gs_0 (pc' := 288) (L' := [some (.ref l0), some (.int l1), none]) (st' := [.int 0]) cd_83_287 rfl rfl ?_
      refine gs_0 (pc' := 289) (L' := [some (.ref l0), some (.int 0), none]) (st' := []) cd_83_288 rfl rfl ?_
      exact ok_83_289 h
    · rw [if_neg hc] at h
      refine gs_0 (pc' := 258) (L' := [some (.ref l0), some (.int l1), none]) (st' := [.ref l0]) cd_83_257 rfl rfl ?_
      obtain ⟨ht, h⟩ := gO_s h
      obtain ⟨q_1, hv, h⟩ := gV_s h
      refine gs_gfR cd_83_258 (by decide) ht hv ?_
      refine gs_0 (pc' := 262) (L' := [some (.ref l0), some (.int l1), none]) (st' := [.int l1, .ref q_1]) cd_83_261 rfl rfl ?_
      refine gs_0 (pc' := 263) (L' := [some (.ref l0), some (.int l1), none]) (st' := [.ref l0, .int l1, .ref q_1]) cd_83_262 rfl rfl ?_
      obtain ⟨ht, h⟩ := gO_s h
      obtain ⟨q_2, hv, h⟩ := gV_s h
      refine gs_gfR cd_83_263 (by decide) ht hv ?_
      refine gs_0 (pc' := 267) (L' := [some (.ref l0), some (.int l1), none]) (st' := [.int l1, .ref q_2, .int l1, .ref q_1]) cd_83_266 rfl rfl ?_
      obtain ⟨ht, h⟩ := gA_s h
      refine gs_iald cd_83_267 ht ?_
      obtain ⟨ht, h⟩ := gA_s h
      refine gs_iast cd_83_268 ht ?_
      obtain ⟨I_3, hx, h⟩ := lt_s_ h
      rw [hx]
      refine gs_0 (pc' := 270) (L' := [some (.ref l0), some (.int l1), none]) (st' := [.ref l0]) cd_83_269 rfl rfl ?_
      obtain ⟨ht, h⟩ := gO_s h
      obtain ⟨q_4, hv, h⟩ := gV_s h
      refine gs_gfR cd_83_270 (by decide) ht hv ?_
      refine gs_0 (pc' := 274) (L' := [some (.ref l0), some (.int l1), none]) (st' := [.int l1, .ref q_4]) cd_83_273 rfl rfl ?_
      refine gs_0 (pc' := 275) (L' := [some (.ref l0), some (.int l1), none]) (st' := [.ref l0, .int l1, .ref q_4]) cd_83_274 rfl rfl ?_
      obtain ⟨ht, h⟩ := gO_s h
      obtain ⟨q_5, hv, h⟩ := gV_s h
      refine gs_gfR cd_83_275 (by decide) ht hv ?_
      refine gs_0 (pc' := 279) (L' := [some (.ref l0), some (.int l1), none]) (st' := [.int l1, .ref q_5, .int l1, .ref q_4]) cd_83_278 rfl rfl ?_
      obtain ⟨ht, h⟩ := gA_s h
      refine gs_iald cd_83_279 ht ?_
      obtain ⟨ht, h⟩ := gA_s h
      refine gs_iast cd_83_280 ht ?_
      obtain ⟨I_6, hx, h⟩ := lt_s_ h
      rw [hx]
      refine gs_0 (pc' := 284) (L' := [some (.ref l0), some (.int (l1 + 1)), none]) (st' := []) cd_83_281 rfl rfl ?_
      obtain ⟨x_7, hx, h⟩ := lt_s_ h
      rw [hx]
      clear hx
      refine gs_0 (pc' := 249) (L' := [some (.ref l0), some (.int x_7), none]) (st' := []) cd_83_284 rfl rfl ?_
      exact hr249 l0 x_7 _ _ _ _ h
noncomputable def f_83_212 (K : Nat → Value) (k d : Nat) (l0 : Nat) (s0 : Nat) (s1 : Int32) (w : aW) (I : aI) (J : aJ) : Option aR :=
  gO w 6 s0 (
  lt_ (sm_up2 I s0 4 s1) fun I_1 =>
  gO w 6 l0 (
  lt_ (sm_up2 I_1 l0 2 0) fun I_2 =>
  gO w 6 l0 (
  if (I_2 l0 3) ≤ 0 then
    gO w 6 l0 (
    gO w 6 l0 (
    lt_ (sm_up2 I_2 l0 16 (I_2 l0 5)) fun I_3 =>
    gO w 6 l0 (
    gO w 6 l0 (
    lt_ (sm_up2 I_3 l0 17 (I_3 l0 13)) fun I_4 =>
    f_83_249 K k d l0 0 w I_4 J))))
  else
    some (some (.long ((-1))), w, I_2, J))))
theorem ok_83_212 {K : Nat → Value} {k d : Nat} {l0 : Nat} {s0 : Nat} {s1 : Int32} {w : aW} {I : aI} {J : aJ} {R : aR} (h : f_83_212 K k d l0 s0 s1 w I J = some R) : Go K (d + 1) 83 212 [some (.ref l0), none, none] [.int s1, .ref s0] w I J R := by
  unfold f_83_212 at h
  obtain ⟨ht, h⟩ := gO_s h
  refine gs_pfI cd_83_212 (by decide) (Or.inl rfl) ht ?_
  obtain ⟨I_1, hx, h⟩ := lt_s_ h
  rw [hx]
  refine gs_0 (pc' := 216) (L' := [some (.ref l0), none, none]) (st' := [.ref l0]) cd_83_215 rfl rfl ?_
  refine gs_0 (pc' := 217) (L' := [some (.ref l0), none, none]) (st' := [.int 0, .ref l0]) cd_83_216 rfl rfl ?_
  obtain ⟨ht, h⟩ := gO_s h
  refine gs_pfI cd_83_217 (by decide) (Or.inl rfl) ht ?_
  obtain ⟨I_2, hx, h⟩ := lt_s_ h
  rw [hx]
  refine gs_0 (pc' := 221) (L' := [some (.ref l0), none, none]) (st' := [.ref l0]) cd_83_220 rfl rfl ?_
  obtain ⟨ht, h⟩ := gO_s h
  refine gs_gfI cd_83_221 (by decide) (by decide) ht ?_
  refine gs_0 (pc' := if (I_2 l0 3) ≤ 0 then 231 else 227) (L' := [some (.ref l0), none, none]) (st' := []) cd_83_224 rfl rfl ?_
  refine go_ite (fun hc => ?_) (fun hc => ?_)
  · rw [if_pos hc] at h
    refine gs_0 (pc' := 232) (L' := [some (.ref l0), none, none]) (st' := [.ref l0]) cd_83_231 rfl rfl ?_
    refine gs_0 (pc' := 233) (L' := [some (.ref l0), none, none]) (st' := [.ref l0, .ref l0]) cd_83_232 rfl rfl ?_
    obtain ⟨ht, h⟩ := gO_s h
    refine gs_gfI cd_83_233 (by decide) (by decide) ht ?_
    obtain ⟨ht, h⟩ := gO_s h
    refine gs_pfI cd_83_236 (by decide) (Or.inl rfl) ht ?_
    obtain ⟨I_3, hx, h⟩ := lt_s_ h
    rw [hx]
    refine gs_0 (pc' := 240) (L' := [some (.ref l0), none, none]) (st' := [.ref l0]) cd_83_239 rfl rfl ?_
    refine gs_0 (pc' := 241) (L' := [some (.ref l0), none, none]) (st' := [.ref l0, .ref l0]) cd_83_240 rfl rfl ?_
    obtain ⟨ht, h⟩ := gO_s h
    refine gs_gfI cd_83_241 (by decide) (by decide) ht ?_
    obtain ⟨ht, h⟩ := gO_s h
    refine gs_pfI cd_83_244 (by decide) (Or.inl rfl) ht ?_
    obtain ⟨I_4, hx, h⟩ := lt_s_ h
    rw [hx]
    refine gs_0 (pc' := 248) (L' := [some (.ref l0), none, none]) (st' := [.int 0]) cd_83_247 rfl rfl ?_
    refine gs_0 (pc' := 249) (L' := [some (.ref l0), some (.int 0), none]) (st' := []) cd_83_248 rfl rfl ?_
    exact ok_83_249 h
  · rw [if_neg hc] at h
    refine gs_0 (pc' := 230) (L' := [some (.ref l0), none, none]) (st' := [.long ((-1))]) cd_83_227 rfl rfl ?_
    cases h
    exact gsr cd_83_230 rfl rfl
noncomputable def f_83_147 (K : Nat → Value) (k d : Nat) (l0 : Nat) (s0 : Nat) (s1 : Int32) (w : aW) (I : aI) (J : aJ) : Option aR :=
  gO w 6 s0 (
  lt_ (sm_up2 I s0 3 s1) fun I_1 =>
  gO w 6 l0 (
  if ¬ (I_1 l0 3) = 1 then
    gO w 6 l0 (
    if ¬ (I_1 l0 3) = 2 then
      gO w 6 l0 (
      if ¬ (I_1 l0 3) = 3 then
        gO w 6 l0 (
        if ¬ (I_1 l0 3) = 4 then
          f_83_212 K k d l0 l0 (-1) w I_1 J
        else
          gO w 6 l0 (
          f_83_212 K k d l0 l0 (I_1 l0 2) w I_1 J))
      else
        gO w 6 l0 (
        f_83_212 K k d l0 l0 (I_1 l0 28) w I_1 J))
    else
      gO w 6 l0 (
      f_83_212 K k d l0 l0 (I_1 l0 27) w I_1 J))
  else
    gO w 6 l0 (
    f_83_212 K k d l0 l0 (I_1 l0 22) w I_1 J)))
theorem ok_83_147 {K : Nat → Value} {k d : Nat} {l0 : Nat} {s0 : Nat} {s1 : Int32} {w : aW} {I : aI} {J : aJ} {R : aR} (h : f_83_147 K k d l0 s0 s1 w I J = some R) : Go K (d + 1) 83 147 [some (.ref l0), none, none] [.int s1, .ref s0] w I J R := by
  unfold f_83_147 at h
  obtain ⟨ht, h⟩ := gO_s h
  refine gs_pfI cd_83_147 (by decide) (Or.inl rfl) ht ?_
  obtain ⟨I_1, hx, h⟩ := lt_s_ h
  rw [hx]
  refine gs_0 (pc' := 151) (L' := [some (.ref l0), none, none]) (st' := [.ref l0]) cd_83_150 rfl rfl ?_
  refine gs_0 (pc' := 152) (L' := [some (.ref l0), none, none]) (st' := [.ref l0, .ref l0]) cd_83_151 rfl rfl ?_
  obtain ⟨ht, h⟩ := gO_s h
  refine gs_gfI cd_83_152 (by decide) (by decide) ht ?_
  refine gs_0 (pc' := 156) (L' := [some (.ref l0), none, none]) (st' := [.int 1, .int (I_1 l0 3), .ref l0]) cd_83_155 rfl rfl ?_
  refine gs_0 (pc' := if ¬ (I_1 l0 3) = 1 then 166 else 159) (L' := [some (.ref l0), none, none]) (st' := [.ref l0]) cd_83_156 rfl rfl ?_
  refine go_ite (fun hc => ?_) (fun hc => ?_)
  · rw [if_pos hc] at h
    refine gs_0 (pc' := 167) (L' := [some (.ref l0), none, none]) (st' := [.ref l0, .ref l0]) cd_83_166 rfl rfl ?_
    obtain ⟨ht, h⟩ := gO_s h
    refine gs_gfI cd_83_167 (by decide) (by decide) ht ?_
    refine gs_0 (pc' := 171) (L' := [some (.ref l0), none, none]) (st' := [.int 2, .int (I_1 l0 3), .ref l0]) cd_83_170 rfl rfl ?_
    refine gs_0 (pc' := if ¬ (I_1 l0 3) = 2 then 181 else 174) (L' := [some (.ref l0), none, none]) (st' := [.ref l0]) cd_83_171 rfl rfl ?_
    refine go_ite (fun hc => ?_) (fun hc => ?_)
    · rw [if_pos hc] at h
      refine gs_0 (pc' := 182) (L' := [some (.ref l0), none, none]) (st' := [.ref l0, .ref l0]) cd_83_181 rfl rfl ?_
      obtain ⟨ht, h⟩ := gO_s h
      refine gs_gfI cd_83_182 (by decide) (by decide) ht ?_
      refine gs_0 (pc' := 186) (L' := [some (.ref l0), none, none]) (st' := [.int 3, .int (I_1 l0 3), .ref l0]) cd_83_185 rfl rfl ?_
      refine gs_0 (pc' := if ¬ (I_1 l0 3) = 3 then 196 else 189) (L' := [some (.ref l0), none, none]) (st' := [.ref l0]) cd_83_186 rfl rfl ?_
      refine go_ite (fun hc => ?_) (fun hc => ?_)
      · rw [if_pos hc] at h
        refine gs_0 (pc' := 197) (L' := [some (.ref l0), none, none]) (st' := [.ref l0, .ref l0]) cd_83_196 rfl rfl ?_
        obtain ⟨ht, h⟩ := gO_s h
        refine gs_gfI cd_83_197 (by decide) (by decide) ht ?_
        refine gs_0 (pc' := 201) (L' := [some (.ref l0), none, none]) (st' := [.int 4, .int (I_1 l0 3), .ref l0]) cd_83_200 rfl rfl ?_
        refine gs_0 (pc' := if ¬ (I_1 l0 3) = 4 then 211 else 204) (L' := [some (.ref l0), none, none]) (st' := [.ref l0]) cd_83_201 rfl rfl ?_
        refine go_ite (fun hc => ?_) (fun hc => ?_)
        · rw [if_pos hc] at h
          refine gs_0 (pc' := 212) (L' := [some (.ref l0), none, none]) (st' := [.int ((-1)), .ref l0]) cd_83_211 rfl rfl ?_
          exact ok_83_212 h
        · rw [if_neg hc] at h
          refine gs_0 (pc' := 205) (L' := [some (.ref l0), none, none]) (st' := [.ref l0, .ref l0]) cd_83_204 rfl rfl ?_
          obtain ⟨ht, h⟩ := gO_s h
          refine gs_gfI cd_83_205 (by decide) (by decide) ht ?_
          refine gs_0 (pc' := 212) (L' := [some (.ref l0), none, none]) (st' := [.int (I_1 l0 2), .ref l0]) cd_83_208 rfl rfl ?_
          exact ok_83_212 h
      · rw [if_neg hc] at h
        refine gs_0 (pc' := 190) (L' := [some (.ref l0), none, none]) (st' := [.ref l0, .ref l0]) cd_83_189 rfl rfl ?_
        obtain ⟨ht, h⟩ := gO_s h
        refine gs_gfI cd_83_190 (by decide) (by decide) ht ?_
        refine gs_0 (pc' := 212) (L' := [some (.ref l0), none, none]) (st' := [.int (I_1 l0 28), .ref l0]) cd_83_193 rfl rfl ?_
        exact ok_83_212 h
    · rw [if_neg hc] at h
      refine gs_0 (pc' := 175) (L' := [some (.ref l0), none, none]) (st' := [.ref l0, .ref l0]) cd_83_174 rfl rfl ?_
      obtain ⟨ht, h⟩ := gO_s h
      refine gs_gfI cd_83_175 (by decide) (by decide) ht ?_
      refine gs_0 (pc' := 212) (L' := [some (.ref l0), none, none]) (st' := [.int (I_1 l0 27), .ref l0]) cd_83_178 rfl rfl ?_
      exact ok_83_212 h
  · rw [if_neg hc] at h
    refine gs_0 (pc' := 160) (L' := [some (.ref l0), none, none]) (st' := [.ref l0, .ref l0]) cd_83_159 rfl rfl ?_
    obtain ⟨ht, h⟩ := gO_s h
    refine gs_gfI cd_83_160 (by decide) (by decide) ht ?_
    refine gs_0 (pc' := 212) (L' := [some (.ref l0), none, none]) (st' := [.int (I_1 l0 22), .ref l0]) cd_83_163 rfl rfl ?_
    exact ok_83_212 h
noncomputable def f_83_98 (K : Nat → Value) (k d : Nat) (l0 : Nat) (w : aW) (I : aI) (J : aJ) : Option aR :=
  gO w 6 l0 (
  if (I l0 26) = 0 then
    gO w 6 l0 (
    if (I l0 27) < 0 then
      gO w 6 l0 (
      if (I l0 28) < 0 then
        gO w 6 l0 (
        if (I l0 13) ≤ 200 then
          f_83_147 K k d l0 l0 0 w I J
        else
          f_83_147 K k d l0 l0 4 w I J)
      else
        f_83_147 K k d l0 l0 3 w I J)
    else
      f_83_147 K k d l0 l0 2 w I J)
  else
    f_83_147 K k d l0 l0 1 w I J)
theorem ok_83_98 {K : Nat → Value} {k d : Nat} {l0 : Nat} {w : aW} {I : aI} {J : aJ} {R : aR} (h : f_83_98 K k d l0 w I J = some R) : Go K (d + 1) 83 98 [some (.ref l0), none, none] [] w I J R := by
  unfold f_83_98 at h
  refine gs_0 (pc' := 99) (L' := [some (.ref l0), none, none]) (st' := [.ref l0]) cd_83_98 rfl rfl ?_
  refine gs_0 (pc' := 100) (L' := [some (.ref l0), none, none]) (st' := [.ref l0, .ref l0]) cd_83_99 rfl rfl ?_
  obtain ⟨ht, h⟩ := gO_s h
  refine gs_gfI cd_83_100 (by decide) (by decide) ht ?_
  refine gs_0 (pc' := if (I l0 26) = 0 then 110 else 106) (L' := [some (.ref l0), none, none]) (st' := [.ref l0]) cd_83_103 rfl rfl ?_
  refine go_ite (fun hc => ?_) (fun hc => ?_)
  · rw [if_pos hc] at h
    refine gs_0 (pc' := 111) (L' := [some (.ref l0), none, none]) (st' := [.ref l0, .ref l0]) cd_83_110 rfl rfl ?_
    obtain ⟨ht, h⟩ := gO_s h
    refine gs_gfI cd_83_111 (by decide) (by decide) ht ?_
    refine gs_0 (pc' := if (I l0 27) < 0 then 121 else 117) (L' := [some (.ref l0), none, none]) (st' := [.ref l0]) cd_83_114 rfl rfl ?_
    refine go_ite (fun hc => ?_) (fun hc => ?_)
    · rw [if_pos hc] at h
      refine gs_0 (pc' := 122) (L' := [some (.ref l0), none, none]) (st' := [.ref l0, .ref l0]) cd_83_121 rfl rfl ?_
      obtain ⟨ht, h⟩ := gO_s h
      refine gs_gfI cd_83_122 (by decide) (by decide) ht ?_
      refine gs_0 (pc' := if (I l0 28) < 0 then 132 else 128) (L' := [some (.ref l0), none, none]) (st' := [.ref l0]) cd_83_125 rfl rfl ?_
      refine go_ite (fun hc => ?_) (fun hc => ?_)
      · rw [if_pos hc] at h
        refine gs_0 (pc' := 133) (L' := [some (.ref l0), none, none]) (st' := [.ref l0, .ref l0]) cd_83_132 rfl rfl ?_
        obtain ⟨ht, h⟩ := gO_s h
        refine gs_gfI cd_83_133 (by decide) (by decide) ht ?_
        refine gs_0 (pc' := 139) (L' := [some (.ref l0), none, none]) (st' := [.int 200, .int (I l0 13), .ref l0]) cd_83_136 rfl rfl ?_
        refine gs_0 (pc' := if (I l0 13) ≤ 200 then 146 else 142) (L' := [some (.ref l0), none, none]) (st' := [.ref l0]) cd_83_139 rfl rfl ?_
        refine go_ite (fun hc => ?_) (fun hc => ?_)
        · rw [if_pos hc] at h
          refine gs_0 (pc' := 147) (L' := [some (.ref l0), none, none]) (st' := [.int 0, .ref l0]) cd_83_146 rfl rfl ?_
          exact ok_83_147 h
        · rw [if_neg hc] at h
          refine gs_0 (pc' := 143) (L' := [some (.ref l0), none, none]) (st' := [.int 4, .ref l0]) cd_83_142 rfl rfl ?_
          refine gs_0 (pc' := 147) (L' := [some (.ref l0), none, none]) (st' := [.int 4, .ref l0]) cd_83_143 rfl rfl ?_
          exact ok_83_147 h
      · rw [if_neg hc] at h
        refine gs_0 (pc' := 129) (L' := [some (.ref l0), none, none]) (st' := [.int 3, .ref l0]) cd_83_128 rfl rfl ?_
        refine gs_0 (pc' := 147) (L' := [some (.ref l0), none, none]) (st' := [.int 3, .ref l0]) cd_83_129 rfl rfl ?_
        exact ok_83_147 h
    · rw [if_neg hc] at h
      refine gs_0 (pc' := 118) (L' := [some (.ref l0), none, none]) (st' := [.int 2, .ref l0]) cd_83_117 rfl rfl ?_
      refine gs_0 (pc' := 147) (L' := [some (.ref l0), none, none]) (st' := [.int 2, .ref l0]) cd_83_118 rfl rfl ?_
      exact ok_83_147 h
  · rw [if_neg hc] at h
    refine gs_0 (pc' := 107) (L' := [some (.ref l0), none, none]) (st' := [.int 1, .ref l0]) cd_83_106 rfl rfl ?_
    refine gs_0 (pc' := 147) (L' := [some (.ref l0), none, none]) (st' := [.int 1, .ref l0]) cd_83_107 rfl rfl ?_
    exact ok_83_147 h
noncomputable def f_83_91 (K : Nat → Value) (k d : Nat) (l0 : Nat) (s0 : Nat) (s1 : Int32) (w : aW) (I : aI) (J : aJ) : Option aR :=
  gO w 6 l0 (
  gO w 6 s0 (
  cV (Cl K d 92 [.ref s0, .int s1, .int (I l0 31)] w I J) fun w_1 I_2 J_3 =>
  f_83_98 K k d l0 w_1 I_2 J_3))
theorem ok_83_91 {K : Nat → Value} {k d : Nat} {l0 : Nat} {s0 : Nat} {s1 : Int32} {w : aW} {I : aI} {J : aJ} {R : aR} (h : f_83_91 K k d l0 s0 s1 w I J = some R) : Go K (d + 1) 83 91 [some (.ref l0), none, none] [.int s1, .ref s0] w I J R := by
  unfold f_83_91 at h
  refine gs_0 (pc' := 92) (L' := [some (.ref l0), none, none]) (st' := [.ref l0, .int s1, .ref s0]) cd_83_91 rfl rfl ?_
  obtain ⟨ht, h⟩ := gO_s h
  refine gs_gfI cd_83_92 (by decide) (by decide) ht ?_
  obtain ⟨ht, h⟩ := gO_s h
  obtain ⟨w_1, I_2, J_3, hcl, h⟩ := cV_s h
  refine gs_call (as := [.ref s0, .int s1, .int (I l0 31)]) (rest := []) cd_83_95 rfl (by decide) rfl (sm_rv_ok (by decide) ht) (Nat.le_of_ble_eq_true rfl) (Nat.le_of_ble_eq_true rfl) rfl hcl ?_
  exact ok_83_98 h
noncomputable def f_83_64 (K : Nat → Value) (k d : Nat) (l0 : Nat) (w : aW) (I : aI) (J : aJ) : Option aR :=
  gO w 6 l0 (
  if ¬ (I l0 26) = 0 then
    f_83_98 K k d l0 w I J
  else
    gO w 6 l0 (
    gV w l0 8 fun q_1 =>
    gO w 6 l0 (
    gA w 10 20 q_1 ((I l0 5) - 1) (
    if ¬ (I q_1 ((I l0 5) - 1 : Int32).toNatClampNeg) = 0 then
      f_83_91 K k d l0 l0 0 w I J
    else
      f_83_91 K k d l0 l0 1 w I J))))
theorem ok_83_64 {K : Nat → Value} {k d : Nat} {l0 : Nat} {w : aW} {I : aI} {J : aJ} {R : aR} (h : f_83_64 K k d l0 w I J = some R) : Go K (d + 1) 83 64 [some (.ref l0), none, none] [] w I J R := by
  unfold f_83_64 at h
  refine gs_0 (pc' := 65) (L' := [some (.ref l0), none, none]) (st' := [.ref l0]) cd_83_64 rfl rfl ?_
  obtain ⟨ht, h⟩ := gO_s h
  refine gs_gfI cd_83_65 (by decide) (by decide) ht ?_
  refine gs_0 (pc' := if ¬ (I l0 26) = 0 then 98 else 71) (L' := [some (.ref l0), none, none]) (st' := []) cd_83_68 rfl rfl ?_
  refine go_ite (fun hc => ?_) (fun hc => ?_)
  · rw [if_pos hc] at h
    exact ok_83_98 h
  · rw [if_neg hc] at h
    refine gs_0 (pc' := 72) (L' := [some (.ref l0), none, none]) (st' := [.ref l0]) cd_83_71 rfl rfl ?_
    refine gs_0 (pc' := 73) (L' := [some (.ref l0), none, none]) (st' := [.ref l0, .ref l0]) cd_83_72 rfl rfl ?_
    obtain ⟨ht, h⟩ := gO_s h
    obtain ⟨q_1, hv, h⟩ := gV_s h
    refine gs_gfR cd_83_73 (by decide) ht hv ?_
    refine gs_0 (pc' := 77) (L' := [some (.ref l0), none, none]) (st' := [.ref l0, .ref q_1, .ref l0]) cd_83_76 rfl rfl ?_
    obtain ⟨ht, h⟩ := gO_s h
    refine gs_gfI cd_83_77 (by decide) (by decide) ht ?_
    refine gs_0 (pc' := 81) (L' := [some (.ref l0), none, none]) (st' := [.int 1, .int (I l0 5), .ref q_1, .ref l0]) cd_83_80 rfl rfl ?_
    refine gs_0 (pc' := 82) (L' := [some (.ref l0), none, none]) (st' := [.int ((I l0 5) - 1), .ref q_1, .ref l0]) cd_83_81 rfl rfl ?_
    obtain ⟨ht, h⟩ := gA_s h
    refine gs_iald cd_83_82 ht ?_
    refine gs_0 (pc' := if ¬ (I q_1 ((I l0 5) - 1 : Int32).toNatClampNeg) = 0 then 90 else 86) (L' := [some (.ref l0), none, none]) (st' := [.ref l0]) cd_83_83 rfl rfl ?_
    refine go_ite (fun hc => ?_) (fun hc => ?_)
    · rw [if_pos hc] at h
      refine gs_0 (pc' := 91) (L' := [some (.ref l0), none, none]) (st' := [.int 0, .ref l0]) cd_83_90 rfl rfl ?_
      exact ok_83_91 h
    · rw [if_neg hc] at h
      refine gs_0 (pc' := 87) (L' := [some (.ref l0), none, none]) (st' := [.int 1, .ref l0]) cd_83_86 rfl rfl ?_
      refine gs_0 (pc' := 91) (L' := [some (.ref l0), none, none]) (st' := [.int 1, .ref l0]) cd_83_87 rfl rfl ?_
      exact ok_83_91 h
noncomputable def f_83_43 (K : Nat → Value) (k : Nat) (d : Nat) : Nat → aW → aI → aJ → Option aR :=
  match k with
  | 0 => fun _ _ _ _ => none
  | k + 1 => fun l0 w I J =>
  lt_ (f_83_43 K k d) fun r43 =>
  gO w 6 l0 (
  if ¬ (I l0 26) = 0 then
    f_83_64 K k d l0 w I J
  else
    gO w 6 l0 (
    if (I l0 24) = 0 then
      f_83_64 K k d l0 w I J
    else
      gO w 6 l0 (
      cV (Cl K d 88 [.ref l0] w I J) fun w_1 I_2 J_3 =>
      r43 l0 w_1 I_2 J_3)))
theorem ok_83_43 {K : Nat → Value} {d : Nat} : ∀ {k : Nat} {l0 : Nat} {w : aW} {I : aI} {J : aJ} {R : aR}, f_83_43 K k d l0 w I J = some R → Go K (d + 1) 83 43 [some (.ref l0), none, none] [] w I J R := by
  intro k
  induction k with
  | zero => intro l0 w I J R h; cases h
  | succ k ih =>
    intro l0 w I J R h
    have hr43 : ∀ (l0 : Nat) (w : aW) (I : aI) (J : aJ) (R : aR), f_83_43 K k d l0 w I J = some R → Go K (d + 1) 83 43 [some (.ref l0), none, none] [] w I J R := fun l0 w I J R h => ih h
    rw [f_83_43] at h
    obtain ⟨r43, hx, h⟩ := lt_s_ h
    rw [hx] at hr43
    clear hx ih
    refine gs_0 (pc' := 44) (L' := [some (.ref l0), none, none]) (st' := [.ref l0]) cd_83_43 rfl rfl ?_
    obtain ⟨ht, h⟩ := gO_s h
    refine gs_gfI cd_83_44 (by decide) (by decide) ht ?_
    refine gs_0 (pc' := if ¬ (I l0 26) = 0 then 64 else 50) (L' := [some (.ref l0), none, none]) (st' := []) cd_83_47 rfl rfl ?_
    refine go_ite (fun hc => ?_) (fun hc => ?_)
    · rw [if_pos hc] at h
      exact ok_83_64 h
    · rw [if_neg hc] at h
      refine gs_0 (pc' := 51) (L' := [some (.ref l0), none, none]) (st' := [.ref l0]) cd_83_50 rfl rfl ?_
      obtain ⟨ht, h⟩ := gO_s h
      refine gs_gfI cd_83_51 (by decide) (by decide) ht ?_
      refine gs_0 (pc' := if (I l0 24) = 0 then 64 else 57) (L' := [some (.ref l0), none, none]) (st' := []) cd_83_54 rfl rfl ?_
      refine go_ite (fun hc => ?_) (fun hc => ?_)
      · rw [if_pos hc] at h
        exact ok_83_64 h
      · rw [if_neg hc] at h
        refine gs_0 (pc' := 58) (L' := [some (.ref l0), none, none]) (st' := [.ref l0]) cd_83_57 rfl rfl ?_
        obtain ⟨ht, h⟩ := gO_s h
        obtain ⟨w_1, I_2, J_3, hcl, h⟩ := cV_s h
        refine gs_call (as := [.ref l0]) (rest := []) cd_83_58 rfl (by decide) rfl (sm_rv_ok (by decide) ht) (Nat.le_of_ble_eq_true rfl) (Nat.le_of_ble_eq_true rfl) rfl hcl ?_
        refine gs_0 (pc' := 43) (L' := [some (.ref l0), none, none]) (st' := []) cd_83_61 rfl rfl ?_
        exact hr43 l0 _ _ _ _ h
noncomputable def f_83 (K : Nat → Value) (k d : Nat) (l0 : Nat) (w : aW) (I : aI) (J : aJ) : Option aR :=
  gO w 6 l0 (
  lt_ (sm_up2 I l0 23 0) fun I_1 =>
  gO w 6 l0 (
  lt_ (sm_up2 I_1 l0 26 0) fun I_2 =>
  gO w 6 l0 (
  lt_ (sm_up2 I_2 l0 27 (-1)) fun I_3 =>
  gO w 6 l0 (
  lt_ (sm_up2 I_3 l0 28 (-1)) fun I_4 =>
  gO w 6 l0 (
  lt_ (sm_up2 I_4 l0 29 0) fun I_5 =>
  gO w 6 l0 (
  lt_ (sm_up2 I_5 l0 5 0) fun I_6 =>
  gO w 6 l0 (
  lt_ (sm_up2 I_6 l0 13 0) fun I_7 =>
  gO w 6 l0 (
  cV (Cl K d 84 [.ref l0] w I_7 J) fun w_8 I_9 J_10 =>
  gO w_8 6 l0 (
  cV (Cl K d 88 [.ref l0] w_8 I_9 J_10) fun w_11 I_12 J_13 =>
  f_83_43 K k d l0 w_11 I_12 J_13)))))))))
theorem ok_83 {K : Nat → Value} {k d : Nat} {l0 : Nat} {w : aW} {I : aI} {J : aJ} {R : aR} (h : f_83 K k d l0 w I J = some R) : Go K (d + 1) 83 0 [some (.ref l0), none, none] [] w I J R := by
  unfold f_83 at h
  refine gs_0 (pc' := 1) (L' := [some (.ref l0), none, none]) (st' := [.ref l0]) cd_83_0 rfl rfl ?_
  refine gs_0 (pc' := 2) (L' := [some (.ref l0), none, none]) (st' := [.int 0, .ref l0]) cd_83_1 rfl rfl ?_
  obtain ⟨ht, h⟩ := gO_s h
  refine gs_pfI cd_83_2 (by decide) (Or.inl rfl) ht ?_
  obtain ⟨I_1, hx, h⟩ := lt_s_ h
  rw [hx]
  refine gs_0 (pc' := 6) (L' := [some (.ref l0), none, none]) (st' := [.ref l0]) cd_83_5 rfl rfl ?_
  refine gs_0 (pc' := 7) (L' := [some (.ref l0), none, none]) (st' := [.int 0, .ref l0]) cd_83_6 rfl rfl ?_
  obtain ⟨ht, h⟩ := gO_s h
  refine gs_pfI cd_83_7 (by decide) (Or.inr ⟨rfl, Or.inl rfl⟩) ht ?_
  obtain ⟨I_2, hx, h⟩ := lt_s_ h
  rw [hx]
  refine gs_0 (pc' := 11) (L' := [some (.ref l0), none, none]) (st' := [.ref l0]) cd_83_10 rfl rfl ?_
  refine gs_0 (pc' := 12) (L' := [some (.ref l0), none, none]) (st' := [.int ((-1)), .ref l0]) cd_83_11 rfl rfl ?_
  obtain ⟨ht, h⟩ := gO_s h
  refine gs_pfI cd_83_12 (by decide) (Or.inl rfl) ht ?_
  obtain ⟨I_3, hx, h⟩ := lt_s_ h
  rw [hx]
  refine gs_0 (pc' := 16) (L' := [some (.ref l0), none, none]) (st' := [.ref l0]) cd_83_15 rfl rfl ?_
  refine gs_0 (pc' := 17) (L' := [some (.ref l0), none, none]) (st' := [.int ((-1)), .ref l0]) cd_83_16 rfl rfl ?_
  obtain ⟨ht, h⟩ := gO_s h
  refine gs_pfI cd_83_17 (by decide) (Or.inl rfl) ht ?_
  obtain ⟨I_4, hx, h⟩ := lt_s_ h
  rw [hx]
  refine gs_0 (pc' := 21) (L' := [some (.ref l0), none, none]) (st' := [.ref l0]) cd_83_20 rfl rfl ?_
  refine gs_0 (pc' := 22) (L' := [some (.ref l0), none, none]) (st' := [.int 0, .ref l0]) cd_83_21 rfl rfl ?_
  obtain ⟨ht, h⟩ := gO_s h
  refine gs_pfI cd_83_22 (by decide) (Or.inl rfl) ht ?_
  obtain ⟨I_5, hx, h⟩ := lt_s_ h
  rw [hx]
  refine gs_0 (pc' := 26) (L' := [some (.ref l0), none, none]) (st' := [.ref l0]) cd_83_25 rfl rfl ?_
  refine gs_0 (pc' := 27) (L' := [some (.ref l0), none, none]) (st' := [.int 0, .ref l0]) cd_83_26 rfl rfl ?_
  obtain ⟨ht, h⟩ := gO_s h
  refine gs_pfI cd_83_27 (by decide) (Or.inl rfl) ht ?_
  obtain ⟨I_6, hx, h⟩ := lt_s_ h
  rw [hx]
  refine gs_0 (pc' := 31) (L' := [some (.ref l0), none, none]) (st' := [.ref l0]) cd_83_30 rfl rfl ?_
  refine gs_0 (pc' := 32) (L' := [some (.ref l0), none, none]) (st' := [.int 0, .ref l0]) cd_83_31 rfl rfl ?_
  obtain ⟨ht, h⟩ := gO_s h
  refine gs_pfI cd_83_32 (by decide) (Or.inl rfl) ht ?_
  obtain ⟨I_7, hx, h⟩ := lt_s_ h
  rw [hx]
  refine gs_0 (pc' := 36) (L' := [some (.ref l0), none, none]) (st' := [.ref l0]) cd_83_35 rfl rfl ?_
  obtain ⟨ht, h⟩ := gO_s h
  obtain ⟨w_8, I_9, J_10, hcl, h⟩ := cV_s h
  refine gs_call (as := [.ref l0]) (rest := []) cd_83_36 rfl (by decide) rfl (sm_rv_ok (by decide) ht) (Nat.le_of_ble_eq_true rfl) (Nat.le_of_ble_eq_true rfl) rfl hcl ?_
  refine gs_0 (pc' := 40) (L' := [some (.ref l0), none, none]) (st' := [.ref l0]) cd_83_39 rfl rfl ?_
  obtain ⟨ht, h⟩ := gO_s h
  obtain ⟨w_11, I_12, J_13, hcl, h⟩ := cV_s h
  refine gs_call (as := [.ref l0]) (rest := []) cd_83_40 rfl (by decide) rfl (sm_rv_ok (by decide) ht) (Nat.le_of_ble_eq_true rfl) (Nat.le_of_ble_eq_true rfl) rfl hcl ?_
  exact ok_83_43 h
theorem cl_83 {K : Nat → Value} {k d : Nat} {l0 : Nat} {w : aW} {I : aI} {J : aJ} {R : aR} (h : f_83 K k d l0 w I J = some R) : Cl K (d + 1) 83 [.ref l0] w I J = some R := Cl_of (ok_83 h)
/-! ProvedMachineModel.next()V -/
theorem gl_84 : gcd.lookup 84 = some gw_84 := rfl
set_option maxRecDepth 20000 in
theorem cd_84_0 : sm_cd 84 0 = some (.aload_n 0, 1, 0, 0, 0, 0, 0, 0, 0) := cd_of gl_84 rfl
set_option maxRecDepth 20000 in
theorem cd_84_1 : sm_cd 84 1 = some (.getfield 157, 3, 6, 23, 0, 0, 0, 0, 0) := cd_of gl_84 rfl
set_option maxRecDepth 20000 in
theorem cd_84_4 : sm_cd 84 4 = some (.aload_n 0, 1, 0, 0, 0, 0, 0, 0, 0) := cd_of gl_84 rfl
set_option maxRecDepth 20000 in
theorem cd_84_5 : sm_cd 84 5 = some (.getfield 152, 3, 6, 2, 0, 0, 0, 0, 0) := cd_of gl_84 rfl
set_option maxRecDepth 20000 in
theorem cd_84_8 : sm_cd 84 8 = some (.if_icmp .ge 44, 3, 52, 0, 0, 0, 0, 0, 0) := cd_of gl_84 rfl
set_option maxRecDepth 20000 in
theorem cd_84_11 : sm_cd 84 11 = some (.aload_n 0, 1, 0, 0, 0, 0, 0, 0, 0) := cd_of gl_84 rfl
set_option maxRecDepth 20000 in
theorem cd_84_12 : sm_cd 84 12 = some (.getfield 13, 3, 6, 1, 2, 0, 0, 0, 0) := cd_of gl_84 rfl
set_option maxRecDepth 20000 in
theorem cd_84_15 : sm_cd 84 15 = some (.aload_n 0, 1, 0, 0, 0, 0, 0, 0, 0) := cd_of gl_84 rfl
set_option maxRecDepth 20000 in
theorem cd_84_16 : sm_cd 84 16 = some (.getfield 157, 3, 6, 23, 0, 0, 0, 0, 0) := cd_of gl_84 rfl
set_option maxRecDepth 20000 in
theorem cd_84_19 : sm_cd 84 19 = some (.iaload, 1, 0, 0, 0, 0, 0, 0, 0) := cd_of gl_84 rfl
set_option maxRecDepth 20000 in
theorem cd_84_20 : sm_cd 84 20 = some (.bipush 32, 2, 0, 0, 0, 0, 0, 32, 0) := cd_of gl_84 rfl
set_option maxRecDepth 20000 in
theorem cd_84_22 : sm_cd 84 22 = some (.if_icmp .eq 17, 3, 39, 0, 0, 0, 0, 0, 0) := cd_of gl_84 rfl
set_option maxRecDepth 20000 in
theorem cd_84_25 : sm_cd 84 25 = some (.aload_n 0, 1, 0, 0, 0, 0, 0, 0, 0) := cd_of gl_84 rfl
set_option maxRecDepth 20000 in
theorem cd_84_26 : sm_cd 84 26 = some (.getfield 13, 3, 6, 1, 2, 0, 0, 0, 0) := cd_of gl_84 rfl
set_option maxRecDepth 20000 in
theorem cd_84_29 : sm_cd 84 29 = some (.aload_n 0, 1, 0, 0, 0, 0, 0, 0, 0) := cd_of gl_84 rfl
set_option maxRecDepth 20000 in
theorem cd_84_30 : sm_cd 84 30 = some (.getfield 157, 3, 6, 23, 0, 0, 0, 0, 0) := cd_of gl_84 rfl
set_option maxRecDepth 20000 in
theorem cd_84_33 : sm_cd 84 33 = some (.iaload, 1, 0, 0, 0, 0, 0, 0, 0) := cd_of gl_84 rfl
set_option maxRecDepth 20000 in
theorem cd_84_34 : sm_cd 84 34 = some (.bipush 10, 2, 0, 0, 0, 0, 0, 10, 0) := cd_of gl_84 rfl
set_option maxRecDepth 20000 in
theorem cd_84_36 : sm_cd 84 36 = some (.if_icmp .ne 16, 3, 52, 0, 0, 0, 0, 0, 0) := cd_of gl_84 rfl
set_option maxRecDepth 20000 in
theorem cd_84_39 : sm_cd 84 39 = some (.aload_n 0, 1, 0, 0, 0, 0, 0, 0, 0) := cd_of gl_84 rfl
set_option maxRecDepth 20000 in
theorem cd_84_40 : sm_cd 84 40 = some (.dup, 1, 0, 0, 0, 0, 0, 0, 0) := cd_of gl_84 rfl
set_option maxRecDepth 20000 in
theorem cd_84_41 : sm_cd 84 41 = some (.getfield 157, 3, 6, 23, 0, 0, 0, 0, 0) := cd_of gl_84 rfl
set_option maxRecDepth 20000 in
theorem cd_84_44 : sm_cd 84 44 = some (.iconst 1, 1, 0, 0, 0, 0, 0, 1, 0) := cd_of gl_84 rfl
set_option maxRecDepth 20000 in
theorem cd_84_45 : sm_cd 84 45 = some (.iadd, 1, 0, 0, 0, 0, 0, 0, 0) := cd_of gl_84 rfl
set_option maxRecDepth 20000 in
theorem cd_84_46 : sm_cd 84 46 = some (.putfield 157, 3, 6, 23, 0, 0, 0, 0, 0) := cd_of gl_84 rfl
set_option maxRecDepth 20000 in
theorem cd_84_49 : sm_cd 84 49 = some (.goto (-49), 3, 0, 0, 0, 0, 0, 0, 0) := cd_of gl_84 rfl
set_option maxRecDepth 20000 in
theorem cd_84_52 : sm_cd 84 52 = some (.aload_n 0, 1, 0, 0, 0, 0, 0, 0, 0) := cd_of gl_84 rfl
set_option maxRecDepth 20000 in
theorem cd_84_53 : sm_cd 84 53 = some (.aload_n 0, 1, 0, 0, 0, 0, 0, 0, 0) := cd_of gl_84 rfl
set_option maxRecDepth 20000 in
theorem cd_84_54 : sm_cd 84 54 = some (.getfield 157, 3, 6, 23, 0, 0, 0, 0, 0) := cd_of gl_84 rfl
set_option maxRecDepth 20000 in
theorem cd_84_57 : sm_cd 84 57 = some (.putfield 160, 3, 6, 22, 0, 0, 0, 0, 0) := cd_of gl_84 rfl
set_option maxRecDepth 20000 in
theorem cd_84_60 : sm_cd 84 60 = some (.aload_n 0, 1, 0, 0, 0, 0, 0, 0, 0) := cd_of gl_84 rfl
set_option maxRecDepth 20000 in
theorem cd_84_61 : sm_cd 84 61 = some (.iconst (-1), 1, 0, 0, 0, 0, 0, (-1), 0) := cd_of gl_84 rfl
set_option maxRecDepth 20000 in
theorem cd_84_62 : sm_cd 84 62 = some (.putfield 171, 3, 6, 25, 0, 0, 0, 0, 0) := cd_of gl_84 rfl
set_option maxRecDepth 20000 in
theorem cd_84_65 : sm_cd 84 65 = some (.aload_n 0, 1, 0, 0, 0, 0, 0, 0, 0) := cd_of gl_84 rfl
set_option maxRecDepth 20000 in
theorem cd_84_66 : sm_cd 84 66 = some (.getfield 160, 3, 6, 22, 0, 0, 0, 0, 0) := cd_of gl_84 rfl
set_option maxRecDepth 20000 in
theorem cd_84_69 : sm_cd 84 69 = some (.aload_n 0, 1, 0, 0, 0, 0, 0, 0, 0) := cd_of gl_84 rfl
set_option maxRecDepth 20000 in
theorem cd_84_70 : sm_cd 84 70 = some (.getfield 152, 3, 6, 2, 0, 0, 0, 0, 0) := cd_of gl_84 rfl
set_option maxRecDepth 20000 in
theorem cd_84_73 : sm_cd 84 73 = some (.if_icmp .ne 11, 3, 84, 0, 0, 0, 0, 0, 0) := cd_of gl_84 rfl
set_option maxRecDepth 20000 in
theorem cd_84_76 : sm_cd 84 76 = some (.aload_n 0, 1, 0, 0, 0, 0, 0, 0, 0) := cd_of gl_84 rfl
set_option maxRecDepth 20000 in
theorem cd_84_77 : sm_cd 84 77 = some (.iconst 0, 1, 0, 0, 0, 0, 0, 0, 0) := cd_of gl_84 rfl
set_option maxRecDepth 20000 in
theorem cd_84_78 : sm_cd 84 78 = some (.putfield 174, 3, 6, 24, 0, 0, 0, 0, 0) := cd_of gl_84 rfl
set_option maxRecDepth 20000 in
theorem cd_84_81 : sm_cd 84 81 = some (.goto 178, 3, 259, 0, 0, 0, 0, 0, 0) := cd_of gl_84 rfl
set_option maxRecDepth 20000 in
theorem cd_84_84 : sm_cd 84 84 = some (.aload_n 0, 1, 0, 0, 0, 0, 0, 0, 0) := cd_of gl_84 rfl
set_option maxRecDepth 20000 in
theorem cd_84_85 : sm_cd 84 85 = some (.aload_n 0, 1, 0, 0, 0, 0, 0, 0, 0) := cd_of gl_84 rfl
set_option maxRecDepth 20000 in
theorem cd_84_86 : sm_cd 84 86 = some (.getfield 160, 3, 6, 22, 0, 0, 0, 0, 0) := cd_of gl_84 rfl
set_option maxRecDepth 20000 in
theorem cd_84_89 : sm_cd 84 89 = some (.invokevirtual 177, 3, 85, 0, 1, 2, 6, 0, 0) := cd_of gl_84 rfl
set_option maxRecDepth 20000 in
theorem cd_84_92 : sm_cd 84 92 = some (.ifCond .eq 71, 3, 163, 0, 0, 0, 0, 0, 0) := cd_of gl_84 rfl
set_option maxRecDepth 20000 in
theorem cd_84_95 : sm_cd 84 95 = some (.aload_n 0, 1, 0, 0, 0, 0, 0, 0, 0) := cd_of gl_84 rfl
set_option maxRecDepth 20000 in
theorem cd_84_96 : sm_cd 84 96 = some (.aload_n 0, 1, 0, 0, 0, 0, 0, 0, 0) := cd_of gl_84 rfl
set_option maxRecDepth 20000 in
theorem cd_84_97 : sm_cd 84 97 = some (.getfield 157, 3, 6, 23, 0, 0, 0, 0, 0) := cd_of gl_84 rfl
set_option maxRecDepth 20000 in
theorem cd_84_100 : sm_cd 84 100 = some (.invokevirtual 177, 3, 85, 0, 1, 2, 6, 0, 0) := cd_of gl_84 rfl
set_option maxRecDepth 20000 in
theorem cd_84_103 : sm_cd 84 103 = some (.ifCond .eq 16, 3, 119, 0, 0, 0, 0, 0, 0) := cd_of gl_84 rfl
set_option maxRecDepth 20000 in
theorem cd_84_106 : sm_cd 84 106 = some (.aload_n 0, 1, 0, 0, 0, 0, 0, 0, 0) := cd_of gl_84 rfl
set_option maxRecDepth 20000 in
theorem cd_84_107 : sm_cd 84 107 = some (.dup, 1, 0, 0, 0, 0, 0, 0, 0) := cd_of gl_84 rfl
set_option maxRecDepth 20000 in
theorem cd_84_108 : sm_cd 84 108 = some (.getfield 157, 3, 6, 23, 0, 0, 0, 0, 0) := cd_of gl_84 rfl
set_option maxRecDepth 20000 in
theorem cd_84_111 : sm_cd 84 111 = some (.iconst 1, 1, 0, 0, 0, 0, 0, 1, 0) := cd_of gl_84 rfl
set_option maxRecDepth 20000 in
theorem cd_84_112 : sm_cd 84 112 = some (.iadd, 1, 0, 0, 0, 0, 0, 0, 0) := cd_of gl_84 rfl
set_option maxRecDepth 20000 in
theorem cd_84_113 : sm_cd 84 113 = some (.putfield 157, 3, 6, 23, 0, 0, 0, 0, 0) := cd_of gl_84 rfl
set_option maxRecDepth 20000 in
theorem cd_84_116 : sm_cd 84 116 = some (.goto (-21), 3, 95, 0, 0, 0, 0, 0, 0) := cd_of gl_84 rfl
set_option maxRecDepth 20000 in
theorem cd_84_119 : sm_cd 84 119 = some (.aload_n 0, 1, 0, 0, 0, 0, 0, 0, 0) := cd_of gl_84 rfl
set_option maxRecDepth 20000 in
theorem cd_84_120 : sm_cd 84 120 = some (.aload_n 0, 1, 0, 0, 0, 0, 0, 0, 0) := cd_of gl_84 rfl
set_option maxRecDepth 20000 in
theorem cd_84_121 : sm_cd 84 121 = some (.invokevirtual 181, 3, 86, 0, 0, 5, 6, 0, 0) := cd_of gl_84 rfl
set_option maxRecDepth 20000 in
theorem cd_84_124 : sm_cd 84 124 = some (.putfield 171, 3, 6, 25, 0, 0, 0, 0, 0) := cd_of gl_84 rfl
set_option maxRecDepth 20000 in
theorem cd_84_127 : sm_cd 84 127 = some (.aload_n 0, 1, 0, 0, 0, 0, 0, 0, 0) := cd_of gl_84 rfl
set_option maxRecDepth 20000 in
theorem cd_84_128 : sm_cd 84 128 = some (.aload_n 0, 1, 0, 0, 0, 0, 0, 0, 0) := cd_of gl_84 rfl
set_option maxRecDepth 20000 in
theorem cd_84_129 : sm_cd 84 129 = some (.getfield 157, 3, 6, 23, 0, 0, 0, 0, 0) := cd_of gl_84 rfl
set_option maxRecDepth 20000 in
theorem cd_84_132 : sm_cd 84 132 = some (.aload_n 0, 1, 0, 0, 0, 0, 0, 0, 0) := cd_of gl_84 rfl
set_option maxRecDepth 20000 in
theorem cd_84_133 : sm_cd 84 133 = some (.getfield 160, 3, 6, 22, 0, 0, 0, 0, 0) := cd_of gl_84 rfl
set_option maxRecDepth 20000 in
theorem cd_84_136 : sm_cd 84 136 = some (.isub, 1, 0, 0, 0, 0, 0, 0, 0) := cd_of gl_84 rfl
set_option maxRecDepth 20000 in
theorem cd_84_137 : sm_cd 84 137 = some (.iconst 1, 1, 0, 0, 0, 0, 0, 1, 0) := cd_of gl_84 rfl
set_option maxRecDepth 20000 in
theorem cd_84_138 : sm_cd 84 138 = some (.if_icmp .ne 7, 3, 145, 0, 0, 0, 0, 0, 0) := cd_of gl_84 rfl
set_option maxRecDepth 20000 in
theorem cd_84_141 : sm_cd 84 141 = some (.iconst 1, 1, 0, 0, 0, 0, 0, 1, 0) := cd_of gl_84 rfl
set_option maxRecDepth 20000 in
theorem cd_84_142 : sm_cd 84 142 = some (.goto 15, 3, 157, 0, 0, 0, 0, 0, 0) := cd_of gl_84 rfl
set_option maxRecDepth 20000 in
theorem cd_84_145 : sm_cd 84 145 = some (.aload_n 0, 1, 0, 0, 0, 0, 0, 0, 0) := cd_of gl_84 rfl
set_option maxRecDepth 20000 in
theorem cd_84_146 : sm_cd 84 146 = some (.getfield 171, 3, 6, 25, 0, 0, 0, 0, 0) := cd_of gl_84 rfl
set_option maxRecDepth 20000 in
theorem cd_84_149 : sm_cd 84 149 = some (.ifCond .lt 7, 3, 156, 0, 0, 0, 0, 0, 0) := cd_of gl_84 rfl
set_option maxRecDepth 20000 in
theorem cd_84_152 : sm_cd 84 152 = some (.iconst 2, 1, 0, 0, 0, 0, 0, 2, 0) := cd_of gl_84 rfl
set_option maxRecDepth 20000 in
theorem cd_84_153 : sm_cd 84 153 = some (.goto 4, 3, 157, 0, 0, 0, 0, 0, 0) := cd_of gl_84 rfl
set_option maxRecDepth 20000 in
theorem cd_84_156 : sm_cd 84 156 = some (.iconst 5, 1, 0, 0, 0, 0, 0, 5, 0) := cd_of gl_84 rfl
set_option maxRecDepth 20000 in
theorem cd_84_157 : sm_cd 84 157 = some (.putfield 174, 3, 6, 24, 0, 0, 0, 0, 0) := cd_of gl_84 rfl
set_option maxRecDepth 20000 in
theorem cd_84_160 : sm_cd 84 160 = some (.goto 99, 3, 259, 0, 0, 0, 0, 0, 0) := cd_of gl_84 rfl
set_option maxRecDepth 20000 in
theorem cd_84_163 : sm_cd 84 163 = some (.aload_n 0, 1, 0, 0, 0, 0, 0, 0, 0) := cd_of gl_84 rfl
set_option maxRecDepth 20000 in
theorem cd_84_164 : sm_cd 84 164 = some (.aload_n 0, 1, 0, 0, 0, 0, 0, 0, 0) := cd_of gl_84 rfl
set_option maxRecDepth 20000 in
theorem cd_84_165 : sm_cd 84 165 = some (.getfield 160, 3, 6, 22, 0, 0, 0, 0, 0) := cd_of gl_84 rfl
set_option maxRecDepth 20000 in
theorem cd_84_168 : sm_cd 84 168 = some (.invokevirtual 184, 3, 87, 0, 1, 2, 6, 0, 0) := cd_of gl_84 rfl
set_option maxRecDepth 20000 in
theorem cd_84_171 : sm_cd 84 171 = some (.ifCond .eq 52, 3, 223, 0, 0, 0, 0, 0, 0) := cd_of gl_84 rfl
set_option maxRecDepth 20000 in
theorem cd_84_174 : sm_cd 84 174 = some (.aload_n 0, 1, 0, 0, 0, 0, 0, 0, 0) := cd_of gl_84 rfl
set_option maxRecDepth 20000 in
theorem cd_84_175 : sm_cd 84 175 = some (.aload_n 0, 1, 0, 0, 0, 0, 0, 0, 0) := cd_of gl_84 rfl
set_option maxRecDepth 20000 in
theorem cd_84_176 : sm_cd 84 176 = some (.getfield 157, 3, 6, 23, 0, 0, 0, 0, 0) := cd_of gl_84 rfl
set_option maxRecDepth 20000 in
theorem cd_84_179 : sm_cd 84 179 = some (.invokevirtual 184, 3, 87, 0, 1, 2, 6, 0, 0) := cd_of gl_84 rfl
set_option maxRecDepth 20000 in
theorem cd_84_182 : sm_cd 84 182 = some (.ifCond .eq 16, 3, 198, 0, 0, 0, 0, 0, 0) := cd_of gl_84 rfl
set_option maxRecDepth 20000 in
theorem cd_84_185 : sm_cd 84 185 = some (.aload_n 0, 1, 0, 0, 0, 0, 0, 0, 0) := cd_of gl_84 rfl
set_option maxRecDepth 20000 in
theorem cd_84_186 : sm_cd 84 186 = some (.dup, 1, 0, 0, 0, 0, 0, 0, 0) := cd_of gl_84 rfl
set_option maxRecDepth 20000 in
theorem cd_84_187 : sm_cd 84 187 = some (.getfield 157, 3, 6, 23, 0, 0, 0, 0, 0) := cd_of gl_84 rfl
set_option maxRecDepth 20000 in
theorem cd_84_190 : sm_cd 84 190 = some (.iconst 1, 1, 0, 0, 0, 0, 0, 1, 0) := cd_of gl_84 rfl
set_option maxRecDepth 20000 in
theorem cd_84_191 : sm_cd 84 191 = some (.iadd, 1, 0, 0, 0, 0, 0, 0, 0) := cd_of gl_84 rfl
set_option maxRecDepth 20000 in
theorem cd_84_192 : sm_cd 84 192 = some (.putfield 157, 3, 6, 23, 0, 0, 0, 0, 0) := cd_of gl_84 rfl
set_option maxRecDepth 20000 in
theorem cd_84_195 : sm_cd 84 195 = some (.goto (-21), 3, 174, 0, 0, 0, 0, 0, 0) := cd_of gl_84 rfl
set_option maxRecDepth 20000 in
theorem cd_84_198 : sm_cd 84 198 = some (.aload_n 0, 1, 0, 0, 0, 0, 0, 0, 0) := cd_of gl_84 rfl
set_option maxRecDepth 20000 in
theorem cd_84_199 : sm_cd 84 199 = some (.aload_n 0, 1, 0, 0, 0, 0, 0, 0, 0) := cd_of gl_84 rfl
set_option maxRecDepth 20000 in
theorem cd_84_200 : sm_cd 84 200 = some (.getfield 157, 3, 6, 23, 0, 0, 0, 0, 0) := cd_of gl_84 rfl
set_option maxRecDepth 20000 in
theorem cd_84_203 : sm_cd 84 203 = some (.aload_n 0, 1, 0, 0, 0, 0, 0, 0, 0) := cd_of gl_84 rfl
set_option maxRecDepth 20000 in
theorem cd_84_204 : sm_cd 84 204 = some (.getfield 160, 3, 6, 22, 0, 0, 0, 0, 0) := cd_of gl_84 rfl
set_option maxRecDepth 20000 in
theorem cd_84_207 : sm_cd 84 207 = some (.isub, 1, 0, 0, 0, 0, 0, 0, 0) := cd_of gl_84 rfl
set_option maxRecDepth 20000 in
theorem cd_84_208 : sm_cd 84 208 = some (.iconst 5, 1, 0, 0, 0, 0, 0, 5, 0) := cd_of gl_84 rfl
set_option maxRecDepth 20000 in
theorem cd_84_209 : sm_cd 84 209 = some (.if_icmp .le 7, 3, 216, 0, 0, 0, 0, 0, 0) := cd_of gl_84 rfl
set_option maxRecDepth 20000 in
theorem cd_84_212 : sm_cd 84 212 = some (.iconst 5, 1, 0, 0, 0, 0, 0, 5, 0) := cd_of gl_84 rfl
set_option maxRecDepth 20000 in
theorem cd_84_213 : sm_cd 84 213 = some (.goto 4, 3, 217, 0, 0, 0, 0, 0, 0) := cd_of gl_84 rfl
set_option maxRecDepth 20000 in
theorem cd_84_216 : sm_cd 84 216 = some (.iconst 3, 1, 0, 0, 0, 0, 0, 3, 0) := cd_of gl_84 rfl
set_option maxRecDepth 20000 in
theorem cd_84_217 : sm_cd 84 217 = some (.putfield 174, 3, 6, 24, 0, 0, 0, 0, 0) := cd_of gl_84 rfl
set_option maxRecDepth 20000 in
theorem cd_84_220 : sm_cd 84 220 = some (.goto 39, 3, 259, 0, 0, 0, 0, 0, 0) := cd_of gl_84 rfl
set_option maxRecDepth 20000 in
theorem cd_84_223 : sm_cd 84 223 = some (.aload_n 0, 1, 0, 0, 0, 0, 0, 0, 0) := cd_of gl_84 rfl
set_option maxRecDepth 20000 in
theorem cd_84_224 : sm_cd 84 224 = some (.dup, 1, 0, 0, 0, 0, 0, 0, 0) := cd_of gl_84 rfl
set_option maxRecDepth 20000 in
theorem cd_84_225 : sm_cd 84 225 = some (.getfield 157, 3, 6, 23, 0, 0, 0, 0, 0) := cd_of gl_84 rfl
set_option maxRecDepth 20000 in
theorem cd_84_228 : sm_cd 84 228 = some (.iconst 1, 1, 0, 0, 0, 0, 0, 1, 0) := cd_of gl_84 rfl
set_option maxRecDepth 20000 in
theorem cd_84_229 : sm_cd 84 229 = some (.iadd, 1, 0, 0, 0, 0, 0, 0, 0) := cd_of gl_84 rfl
set_option maxRecDepth 20000 in
theorem cd_84_230 : sm_cd 84 230 = some (.putfield 157, 3, 6, 23, 0, 0, 0, 0, 0) := cd_of gl_84 rfl
set_option maxRecDepth 20000 in
theorem cd_84_233 : sm_cd 84 233 = some (.aload_n 0, 1, 0, 0, 0, 0, 0, 0, 0) := cd_of gl_84 rfl
set_option maxRecDepth 20000 in
theorem cd_84_234 : sm_cd 84 234 = some (.ldc 187, 2, 22, 1, 0, 0, 0, 0, 0) := cd_of gl_84 rfl
set_option maxRecDepth 20000 in
theorem cd_84_236 : sm_cd 84 236 = some (.aload_n 0, 1, 0, 0, 0, 0, 0, 0, 0) := cd_of gl_84 rfl
set_option maxRecDepth 20000 in
theorem cd_84_237 : sm_cd 84 237 = some (.getfield 13, 3, 6, 1, 2, 0, 0, 0, 0) := cd_of gl_84 rfl
set_option maxRecDepth 20000 in
theorem cd_84_240 : sm_cd 84 240 = some (.aload_n 0, 1, 0, 0, 0, 0, 0, 0, 0) := cd_of gl_84 rfl
set_option maxRecDepth 20000 in
theorem cd_84_241 : sm_cd 84 241 = some (.getfield 160, 3, 6, 22, 0, 0, 0, 0, 0) := cd_of gl_84 rfl
set_option maxRecDepth 20000 in
theorem cd_84_244 : sm_cd 84 244 = some (.iaload, 1, 0, 0, 0, 0, 0, 0, 0) := cd_of gl_84 rfl
set_option maxRecDepth 20000 in
theorem cd_84_245 : sm_cd 84 245 = some (.invokevirtual 189, 3, 30, 0, 1, 2, 7, 0, 0) := cd_of gl_84 rfl
set_option maxRecDepth 20000 in
theorem cd_84_248 : sm_cd 84 248 = some (.ifCond .lt 7, 3, 255, 0, 0, 0, 0, 0, 0) := cd_of gl_84 rfl
set_option maxRecDepth 20000 in
theorem cd_84_251 : sm_cd 84 251 = some (.iconst 4, 1, 0, 0, 0, 0, 0, 4, 0) := cd_of gl_84 rfl
set_option maxRecDepth 20000 in
theorem cd_84_252 : sm_cd 84 252 = some (.goto 4, 3, 256, 0, 0, 0, 0, 0, 0) := cd_of gl_84 rfl
set_option maxRecDepth 20000 in
theorem cd_84_255 : sm_cd 84 255 = some (.iconst 5, 1, 0, 0, 0, 0, 0, 5, 0) := cd_of gl_84 rfl
set_option maxRecDepth 20000 in
theorem cd_84_256 : sm_cd 84 256 = some (.putfield 174, 3, 6, 24, 0, 0, 0, 0, 0) := cd_of gl_84 rfl
set_option maxRecDepth 20000 in
theorem cd_84_259 : sm_cd 84 259 = some (.return_, 1, 0, 0, 0, 0, 0, 0, 0) := cd_of gl_84 rfl
noncomputable def f_84_256 (K : Nat → Value) (k d : Nat) (l0 : Nat) (s0 : Nat) (s1 : Int32) (w : aW) (I : aI) (J : aJ) : Option aR :=
  gO w 6 s0 (
  lt_ (sm_up2 I s0 24 s1) fun I_1 =>
  some (none, w, I_1, J))
theorem ok_84_256 {K : Nat → Value} {k d : Nat} {l0 : Nat} {s0 : Nat} {s1 : Int32} {w : aW} {I : aI} {J : aJ} {R : aR} (h : f_84_256 K k d l0 s0 s1 w I J = some R) : Go K (d + 1) 84 256 [some (.ref l0)] [.int s1, .ref s0] w I J R := by
  unfold f_84_256 at h
  obtain ⟨ht, h⟩ := gO_s h
  refine gs_pfI cd_84_256 (by decide) (Or.inl rfl) ht ?_
  obtain ⟨I_1, hx, h⟩ := lt_s_ h
  rw [hx]
  cases h
  exact gsr cd_84_259 rfl rfl
noncomputable def f_84_217 (K : Nat → Value) (k d : Nat) (l0 : Nat) (s0 : Nat) (s1 : Int32) (w : aW) (I : aI) (J : aJ) : Option aR :=
  gO w 6 s0 (
  lt_ (sm_up2 I s0 24 s1) fun I_1 =>
  some (none, w, I_1, J))
theorem ok_84_217 {K : Nat → Value} {k d : Nat} {l0 : Nat} {s0 : Nat} {s1 : Int32} {w : aW} {I : aI} {J : aJ} {R : aR} (h : f_84_217 K k d l0 s0 s1 w I J = some R) : Go K (d + 1) 84 217 [some (.ref l0)] [.int s1, .ref s0] w I J R := by
  unfold f_84_217 at h
  obtain ⟨ht, h⟩ := gO_s h
  refine gs_pfI cd_84_217 (by decide) (Or.inl rfl) ht ?_
  obtain ⟨I_1, hx, h⟩ := lt_s_ h
  rw [hx]
  refine gs_0 (pc' := 259) (L' := [some (.ref l0)]) (st' := []) cd_84_220 rfl rfl ?_
  cases h
  exact gsr cd_84_259 rfl rfl
noncomputable def f_84_174 (K : Nat → Value) (k : Nat) (d : Nat) : Nat → aW → aI → aJ → Option aR :=
  match k with
  | 0 => fun _ _ _ _ => none
  | k + 1 => fun l0 w I J =>
  lt_ (f_84_174 K k d) fun r174 =>
  gO w 6 l0 (
  gO w 6 l0 (
  cI (Cl K d 87 [.ref l0, .int (I l0 23)] w I J) fun x_4 w_1 I_2 J_3 =>
  if x_4 = 0 then
    gO w_1 6 l0 (
    gO w_1 6 l0 (
    if ((I_2 l0 23) - (I_2 l0 22)) ≤ 5 then
      f_84_217 K k d l0 l0 3 w_1 I_2 J_3
    else
      f_84_217 K k d l0 l0 5 w_1 I_2 J_3))
  else
    gO w_1 6 l0 (
    gO w_1 6 l0 (
    lt_ (sm_up2 I_2 l0 23 ((I_2 l0 23) + 1)) fun I_5 =>
    r174 l0 w_1 I_5 J_3))))
theorem ok_84_174 {K : Nat → Value} {d : Nat} : ∀ {k : Nat} {l0 : Nat} {w : aW} {I : aI} {J : aJ} {R : aR}, f_84_174 K k d l0 w I J = some R → Go K (d + 1) 84 174 [some (.ref l0)] [] w I J R := by
  intro k
  induction k with
  | zero => intro l0 w I J R h; cases h
  | succ k ih =>
    intro l0 w I J R h
    have hr174 : ∀ (l0 : Nat) (w : aW) (I : aI) (J : aJ) (R : aR), f_84_174 K k d l0 w I J = some R → Go K (d + 1) 84 174 [some (.ref l0)] [] w I J R := fun l0 w I J R h => ih h
    rw [f_84_174] at h
    obtain ⟨r174, hx, h⟩ := lt_s_ h
    rw [hx] at hr174
    clear hx ih
    refine gs_0 (pc' := 175) (L' := [some (.ref l0)]) (st' := [.ref l0]) cd_84_174 rfl rfl ?_
    refine gs_0 (pc' := 176) (L' := [some (.ref l0)]) (st' := [.ref l0, .ref l0]) cd_84_175 rfl rfl ?_
    obtain ⟨ht, h⟩ := gO_s h
    refine gs_gfI cd_84_176 (by decide) (by decide) ht ?_
    obtain ⟨ht, h⟩ := gO_s h
    obtain ⟨x_4, w_1, I_2, J_3, hcl, h⟩ := cI_s h
    refine gs_call (as := [.ref l0, .int (I l0 23)]) (rest := []) cd_84_179 rfl (by decide) rfl (sm_rv_ok (by decide) ht) (Nat.le_of_ble_eq_true rfl) (Nat.le_of_ble_eq_true rfl) rfl hcl ?_
    refine gs_0 (pc' := if x_4 = 0 then 198 else 185) (L' := [some (.ref l0)]) (st' := []) cd_84_182 rfl rfl ?_
    refine go_ite (fun hc => ?_) (fun hc => ?_)
    · rw [if_pos hc] at h
      refine gs_0 (pc' := 199) (L' := [some (.ref l0)]) (st' := [.ref l0]) cd_84_198 rfl rfl ?_
      refine gs_0 (pc' := 200) (L' := [some (.ref l0)]) (st' := [.ref l0, .ref l0]) cd_84_199 rfl rfl ?_
      obtain ⟨ht, h⟩ := gO_s h
      refine gs_gfI cd_84_200 (by decide) (by decide) ht ?_
      refine gs_0 (pc' := 204) (L' := [some (.ref l0)]) (st' := [.ref l0, .int (I_2 l0 23), .ref l0]) cd_84_203 rfl rfl ?_
      obtain ⟨ht, h⟩ := gO_s h
      refine gs_gfI cd_84_204 (by decide) (by decide) ht ?_
      refine gs_0 (pc' := 208) (L' := [some (.ref l0)]) (st' := [.int ((I_2 l0 23) - (I_2 l0 22)), .ref l0]) cd_84_207 rfl rfl ?_
      refine gs_0 (pc' := 209) (L' := [some (.ref l0)]) (st' := [.int 5, .int ((I_2 l0 23) - (I_2 l0 22)), .ref l0]) cd_84_208 rfl rfl ?_
      refine gs_0 (pc' := if ((I_2 l0 23) - (I_2 l0 22)) ≤ 5 then 216 else 212) (L' := [some (.ref l0)]) (st' := [.ref l0]) cd_84_209 rfl rfl ?_
      refine go_ite (fun hc => ?_) (fun hc => ?_)
      · rw [if_pos hc] at h
        refine gs_0 (pc' := 217) (L' := [some (.ref l0)]) (st' := [.int 3, .ref l0]) cd_84_216 rfl rfl ?_
        exact ok_84_217 h
      · rw [if_neg hc] at h
        refine gs_0 (pc' := 213) (L' := [some (.ref l0)]) (st' := [.int 5, .ref l0]) cd_84_212 rfl rfl ?_
        refine gs_0 (pc' := 217) (L' := [some (.ref l0)]) (st' := [.int 5, .ref l0]) cd_84_213 rfl rfl ?_
        exact ok_84_217 h
    · rw [if_neg hc] at h
      refine gs_0 (pc' := 186) (L' := [some (.ref l0)]) (st' := [.ref l0]) cd_84_185 rfl rfl ?_
      refine gs_0 (pc' := 187) (L' := [some (.ref l0)]) (st' := [.ref l0, .ref l0]) cd_84_186 rfl rfl ?_
      obtain ⟨ht, h⟩ := gO_s h
      refine gs_gfI cd_84_187 (by decide) (by decide) ht ?_
      refine gs_0 (pc' := 191) (L' := [some (.ref l0)]) (st' := [.int 1, .int (I_2 l0 23), .ref l0]) cd_84_190 rfl rfl ?_
      refine gs_0 (pc' := 192) (L' := [some (.ref l0)]) (st' := [.int ((I_2 l0 23) + 1), .ref l0]) cd_84_191 rfl rfl ?_
      obtain ⟨ht, h⟩ := gO_s h
      refine gs_pfI cd_84_192 (by decide) (Or.inl rfl) ht ?_
      obtain ⟨I_5, hx, h⟩ := lt_s_ h
      rw [hx]
      refine gs_0 (pc' := 174) (L' := [some (.ref l0)]) (st' := []) cd_84_195 rfl rfl ?_
      exact hr174 l0 _ _ _ _ h
noncomputable def f_84_157 (K : Nat → Value) (k d : Nat) (l0 : Nat) (s0 : Nat) (s1 : Int32) (w : aW) (I : aI) (J : aJ) : Option aR :=
  gO w 6 s0 (
  lt_ (sm_up2 I s0 24 s1) fun I_1 =>
  some (none, w, I_1, J))
theorem ok_84_157 {K : Nat → Value} {k d : Nat} {l0 : Nat} {s0 : Nat} {s1 : Int32} {w : aW} {I : aI} {J : aJ} {R : aR} (h : f_84_157 K k d l0 s0 s1 w I J = some R) : Go K (d + 1) 84 157 [some (.ref l0)] [.int s1, .ref s0] w I J R := by
  unfold f_84_157 at h
  obtain ⟨ht, h⟩ := gO_s h
  refine gs_pfI cd_84_157 (by decide) (Or.inl rfl) ht ?_
  obtain ⟨I_1, hx, h⟩ := lt_s_ h
  rw [hx]
  refine gs_0 (pc' := 259) (L' := [some (.ref l0)]) (st' := []) cd_84_160 rfl rfl ?_
  cases h
  exact gsr cd_84_259 rfl rfl
noncomputable def f_84_95 (K : Nat → Value) (k : Nat) (d : Nat) : Nat → aW → aI → aJ → Option aR :=
  match k with
  | 0 => fun _ _ _ _ => none
  | k + 1 => fun l0 w I J =>
  lt_ (f_84_95 K k d) fun r95 =>
  gO w 6 l0 (
  gO w 6 l0 (
  cI (Cl K d 85 [.ref l0, .int (I l0 23)] w I J) fun x_4 w_1 I_2 J_3 =>
  if x_4 = 0 then
    gO w_1 6 l0 (
    cI (Cl K d 86 [.ref l0] w_1 I_2 J_3) fun x_8 w_5 I_6 J_7 =>
    gO w_5 6 l0 (
    lt_ (sm_up2 I_6 l0 25 x_8) fun I_9 =>
    gO w_5 6 l0 (
    gO w_5 6 l0 (
    if ¬ ((I_9 l0 23) - (I_9 l0 22)) = 1 then
      gO w_5 6 l0 (
      if (I_9 l0 25) < 0 then
        f_84_157 K k d l0 l0 5 w_5 I_9 J_7
      else
        f_84_157 K k d l0 l0 2 w_5 I_9 J_7)
    else
      f_84_157 K k d l0 l0 1 w_5 I_9 J_7))))
  else
    gO w_1 6 l0 (
    gO w_1 6 l0 (
    lt_ (sm_up2 I_2 l0 23 ((I_2 l0 23) + 1)) fun I_10 =>
    r95 l0 w_1 I_10 J_3))))
theorem ok_84_95 {K : Nat → Value} {d : Nat} : ∀ {k : Nat} {l0 : Nat} {w : aW} {I : aI} {J : aJ} {R : aR}, f_84_95 K k d l0 w I J = some R → Go K (d + 1) 84 95 [some (.ref l0)] [] w I J R := by
  intro k
  induction k with
  | zero => intro l0 w I J R h; cases h
  | succ k ih =>
    intro l0 w I J R h
    have hr95 : ∀ (l0 : Nat) (w : aW) (I : aI) (J : aJ) (R : aR), f_84_95 K k d l0 w I J = some R → Go K (d + 1) 84 95 [some (.ref l0)] [] w I J R := fun l0 w I J R h => ih h
    rw [f_84_95] at h
    obtain ⟨r95, hx, h⟩ := lt_s_ h
    rw [hx] at hr95
    clear hx ih
    refine gs_0 (pc' := 96) (L' := [some (.ref l0)]) (st' := [.ref l0]) cd_84_95 rfl rfl ?_
    refine gs_0 (pc' := 97) (L' := [some (.ref l0)]) (st' := [.ref l0, .ref l0]) cd_84_96 rfl rfl ?_
    obtain ⟨ht, h⟩ := gO_s h
    refine gs_gfI cd_84_97 (by decide) (by decide) ht ?_
    obtain ⟨ht, h⟩ := gO_s h
    obtain ⟨x_4, w_1, I_2, J_3, hcl, h⟩ := cI_s h
    refine gs_call (as := [.ref l0, .int (I l0 23)]) (rest := []) cd_84_100 rfl (by decide) rfl (sm_rv_ok (by decide) ht) (Nat.le_of_ble_eq_true rfl) (Nat.le_of_ble_eq_true rfl) rfl hcl ?_
    refine gs_0 (pc' := if x_4 = 0 then 119 else 106) (L' := [some (.ref l0)]) (st' := []) cd_84_103 rfl rfl ?_
    refine go_ite (fun hc => ?_) (fun hc => ?_)
    · rw [if_pos hc] at h
      refine gs_0 (pc' := 120) (L' := [some (.ref l0)]) (st' := [.ref l0]) cd_84_119 rfl rfl ?_
      refine gs_0 (pc' := 121) (L' := [some (.ref l0)]) (st' := [.ref l0, .ref l0]) cd_84_120 rfl rfl ?_
      obtain ⟨ht, h⟩ := gO_s h
      obtain ⟨x_8, w_5, I_6, J_7, hcl, h⟩ := cI_s h
      refine gs_call (as := [.ref l0]) (rest := [.ref l0]) cd_84_121 rfl (by decide) rfl (sm_rv_ok (by decide) ht) (Nat.le_of_ble_eq_true rfl) (Nat.le_of_ble_eq_true rfl) rfl hcl ?_
      obtain ⟨ht, h⟩ := gO_s h
      refine gs_pfI cd_84_124 (by decide) (Or.inl rfl) ht ?_
      obtain ⟨I_9, hx, h⟩ := lt_s_ h
      rw [hx]
      refine gs_0 (pc' := 128) (L' := [some (.ref l0)]) (st' := [.ref l0]) cd_84_127 rfl rfl ?_
      refine gs_0 (pc' := 129) (L' := [some (.ref l0)]) (st' := [.ref l0, .ref l0]) cd_84_128 rfl rfl ?_
      obtain ⟨ht, h⟩ := gO_s h
      refine gs_gfI cd_84_129 (by decide) (by decide) ht ?_
      refine gs_0 (pc' := 133) (L' := [some (.ref l0)]) (st' := [.ref l0, .int (I_9 l0 23), .ref l0]) cd_84_132 rfl rfl ?_
      obtain ⟨ht, h⟩ := gO_s h
      refine gs_gfI cd_84_133 (by decide) (by decide) ht ?_
      refine gs_0 (pc' := 137) (L' := [some (.ref l0)]) (st' := [.int ((I_9 l0 23) - (I_9 l0 22)), .ref l0]) cd_84_136 rfl rfl ?_
      refine gs_0 (pc' := 138) (L' := [some (.ref l0)]) (st' := [.int 1, .int ((I_9 l0 23) - (I_9 l0 22)), .ref l0]) cd_84_137 rfl rfl ?_
      refine gs_0 (pc' := if ¬ ((I_9 l0 23) - (I_9 l0 22)) = 1 then 145 else 141) (L' := [some (.ref l0)]) (st' := [.ref l0]) cd_84_138 rfl rfl ?_
      refine go_ite (fun hc => ?_) (fun hc => ?_)
      · rw [if_pos hc] at h
        refine gs_0 (pc' := 146) (L' := [some (.ref l0)]) (st' := [.ref l0, .ref l0]) cd_84_145 rfl rfl ?_
        obtain ⟨ht, h⟩ := gO_s h
        refine gs_gfI cd_84_146 (by decide) (by decide) ht ?_
        refine gs_0 (pc' := if (I_9 l0 25) < 0 then 156 else 152) (L' := [some (.ref l0)]) (st' := [.ref l0]) cd_84_149 rfl rfl ?_
        refine go_ite (fun hc => ?_) (fun hc => ?_)
        · rw [if_pos hc] at h
          refine gs_0 (pc' := 157) (L' := [some (.ref l0)]) (st' := [.int 5, .ref l0]) cd_84_156 rfl rfl ?_
          exact ok_84_157 h
        · rw [if_neg hc] at h
          refine gs_0 (pc' := 153) (L' := [some (.ref l0)]) (st' := [.int 2, .ref l0]) cd_84_152 rfl rfl ?_
          refine gs_0 (pc' := 157) (L' := [some (.ref l0)]) (st' := [.int 2, .ref l0]) cd_84_153 rfl rfl ?_
          exact ok_84_157 h
      · rw [if_neg hc] at h
        refine gs_0 (pc' := 142) (L' := [some (.ref l0)]) (st' := [.int 1, .ref l0]) cd_84_141 rfl rfl ?_
        refine gs_0 (pc' := 157) (L' := [some (.ref l0)]) (st' := [.int 1, .ref l0]) cd_84_142 rfl rfl ?_
        exact ok_84_157 h
    · rw [if_neg hc] at h
      refine gs_0 (pc' := 107) (L' := [some (.ref l0)]) (st' := [.ref l0]) cd_84_106 rfl rfl ?_
      refine gs_0 (pc' := 108) (L' := [some (.ref l0)]) (st' := [.ref l0, .ref l0]) cd_84_107 rfl rfl ?_
      obtain ⟨ht, h⟩ := gO_s h
      refine gs_gfI cd_84_108 (by decide) (by decide) ht ?_
      refine gs_0 (pc' := 112) (L' := [some (.ref l0)]) (st' := [.int 1, .int (I_2 l0 23), .ref l0]) cd_84_111 rfl rfl ?_
      refine gs_0 (pc' := 113) (L' := [some (.ref l0)]) (st' := [.int ((I_2 l0 23) + 1), .ref l0]) cd_84_112 rfl rfl ?_
      obtain ⟨ht, h⟩ := gO_s h
      refine gs_pfI cd_84_113 (by decide) (Or.inl rfl) ht ?_
      obtain ⟨I_10, hx, h⟩ := lt_s_ h
      rw [hx]
      refine gs_0 (pc' := 95) (L' := [some (.ref l0)]) (st' := []) cd_84_116 rfl rfl ?_
      exact hr95 l0 _ _ _ _ h
noncomputable def f_84_52 (K : Nat → Value) (k d : Nat) (l0 : Nat) (w : aW) (I : aI) (J : aJ) : Option aR :=
  gO w 6 l0 (
  gO w 6 l0 (
  lt_ (sm_up2 I l0 22 (I l0 23)) fun I_1 =>
  gO w 6 l0 (
  lt_ (sm_up2 I_1 l0 25 (-1)) fun I_2 =>
  gO w 6 l0 (
  gO w 6 l0 (
  if ¬ (I_2 l0 22) = (I_2 l0 2) then
    gO w 6 l0 (
    gO w 6 l0 (
    cI (Cl K d 85 [.ref l0, .int (I_2 l0 22)] w I_2 J) fun x_6 w_3 I_4 J_5 =>
    if x_6 = 0 then
      gO w_3 6 l0 (
      gO w_3 6 l0 (
      cI (Cl K d 87 [.ref l0, .int (I_4 l0 22)] w_3 I_4 J_5) fun x_10 w_7 I_8 J_9 =>
      if x_10 = 0 then
        gO w_7 6 l0 (
        gO w_7 6 l0 (
        lt_ (sm_up2 I_8 l0 23 ((I_8 l0 23) + 1)) fun I_11 =>
        kR (K 22) fun q_12 =>
        gO w_7 6 l0 (
        gV w_7 l0 1 fun q_13 =>
        gO w_7 6 l0 (
        gA w_7 10 20 q_13 (I_11 l0 22) (
        gC (sm_isS K q_12 = true) (
        cI (Cl K d 30 [.ref q_12, .int (I_11 q_13 (I_11 l0 22 : Int32).toNatClampNeg)] w_7 I_11 J_9) fun x_17 w_14 I_15 J_16 =>
        if x_17 < 0 then
          f_84_256 K k d l0 l0 5 w_14 I_15 J_16
        else
          f_84_256 K k d l0 l0 4 w_14 I_15 J_16))))))
      else
        f_84_174 K k d l0 w_7 I_8 J_9))
    else
      f_84_95 K k d l0 w_3 I_4 J_5))
  else
    gO w 6 l0 (
    lt_ (sm_up2 I_2 l0 24 0) fun I_18 =>
    some (none, w, I_18, J)))))))
theorem ok_84_52 {K : Nat → Value} {k d : Nat} {l0 : Nat} {w : aW} {I : aI} {J : aJ} {R : aR} (h : f_84_52 K k d l0 w I J = some R) : Go K (d + 1) 84 52 [some (.ref l0)] [] w I J R := by
  unfold f_84_52 at h
  refine gs_0 (pc' := 53) (L' := [some (.ref l0)]) (st' := [.ref l0]) cd_84_52 rfl rfl ?_
  refine gs_0 (pc' := 54) (L' := [some (.ref l0)]) (st' := [.ref l0, .ref l0]) cd_84_53 rfl rfl ?_
  obtain ⟨ht, h⟩ := gO_s h
  refine gs_gfI cd_84_54 (by decide) (by decide) ht ?_
  obtain ⟨ht, h⟩ := gO_s h
  refine gs_pfI cd_84_57 (by decide) (Or.inl rfl) ht ?_
  obtain ⟨I_1, hx, h⟩ := lt_s_ h
  rw [hx]
  refine gs_0 (pc' := 61) (L' := [some (.ref l0)]) (st' := [.ref l0]) cd_84_60 rfl rfl ?_
  refine gs_0 (pc' := 62) (L' := [some (.ref l0)]) (st' := [.int ((-1)), .ref l0]) cd_84_61 rfl rfl ?_
  obtain ⟨ht, h⟩ := gO_s h
  refine gs_pfI cd_84_62 (by decide) (Or.inl rfl) ht ?_
  obtain ⟨I_2, hx, h⟩ := lt_s_ h
  rw [hx]
  refine gs_0 (pc' := 66) (L' := [some (.ref l0)]) (st' := [.ref l0]) cd_84_65 rfl rfl ?_
  obtain ⟨ht, h⟩ := gO_s h
  refine gs_gfI cd_84_66 (by decide) (by decide) ht ?_
  refine gs_0 (pc' := 70) (L' := [some (.ref l0)]) (st' := [.ref l0, .int (I_2 l0 22)]) cd_84_69 rfl rfl ?_
  obtain ⟨ht, h⟩ := gO_s h
  refine gs_gfI cd_84_70 (by decide) (by decide) ht ?_
  refine gs_0 (pc' := if ¬ (I_2 l0 22) = (I_2 l0 2) then 84 else 76) (L' := [some (.ref l0)]) (st' := []) cd_84_73 rfl rfl ?_
  refine go_ite (fun hc => ?_) (fun hc => ?_)
  · rw [if_pos hc] at h
    refine gs_0 (pc' := 85) (L' := [some (.ref l0)]) (st' := [.ref l0]) cd_84_84 rfl rfl ?_
    refine gs_0 (pc' := 86) (L' := [some (.ref l0)]) (st' := [.ref l0, .ref l0]) cd_84_85 rfl rfl ?_
    obtain ⟨ht, h⟩ := gO_s h
    refine gs_gfI cd_84_86 (by decide) (by decide) ht ?_
    obtain ⟨ht, h⟩ := gO_s h
    obtain ⟨x_6, w_3, I_4, J_5, hcl, h⟩ := cI_s h
    refine gs_call (as := [.ref l0, .int (I_2 l0 22)]) (rest := []) cd_84_89 rfl (by decide) rfl (sm_rv_ok (by decide) ht) (Nat.le_of_ble_eq_true rfl) (Nat.le_of_ble_eq_true rfl) rfl hcl ?_
    refine gs_0 (pc' := if x_6 = 0 then 163 else 95) (L' := [some (.ref l0)]) (st' := []) cd_84_92 rfl rfl ?_
    refine go_ite (fun hc => ?_) (fun hc => ?_)
    · rw [if_pos hc] at h
      refine gs_0 (pc' := 164) (L' := [some (.ref l0)]) (st' := [.ref l0]) cd_84_163 rfl rfl ?_
      refine gs_0 (pc' := 165) (L' := [some (.ref l0)]) (st' := [.ref l0, .ref l0]) cd_84_164 rfl rfl ?_
      obtain ⟨ht, h⟩ := gO_s h
      refine gs_gfI cd_84_165 (by decide) (by decide) ht ?_
      obtain ⟨ht, h⟩ := gO_s h
      obtain ⟨x_10, w_7, I_8, J_9, hcl, h⟩ := cI_s h
      refine gs_call (as := [.ref l0, .int (I_4 l0 22)]) (rest := []) cd_84_168 rfl (by decide) rfl (sm_rv_ok (by decide) ht) (Nat.le_of_ble_eq_true rfl) (Nat.le_of_ble_eq_true rfl) rfl hcl ?_
      refine gs_0 (pc' := if x_10 = 0 then 223 else 174) (L' := [some (.ref l0)]) (st' := []) cd_84_171 rfl rfl ?_
      refine go_ite (fun hc => ?_) (fun hc => ?_)
      · rw [if_pos hc] at h
        refine gs_0 (pc' := 224) (L' := [some (.ref l0)]) (st' := [.ref l0]) cd_84_223 rfl rfl ?_
        refine gs_0 (pc' := 225) (L' := [some (.ref l0)]) (st' := [.ref l0, .ref l0]) cd_84_224 rfl rfl ?_
        obtain ⟨ht, h⟩ := gO_s h
        refine gs_gfI cd_84_225 (by decide) (by decide) ht ?_
        refine gs_0 (pc' := 229) (L' := [some (.ref l0)]) (st' := [.int 1, .int (I_8 l0 23), .ref l0]) cd_84_228 rfl rfl ?_
        refine gs_0 (pc' := 230) (L' := [some (.ref l0)]) (st' := [.int ((I_8 l0 23) + 1), .ref l0]) cd_84_229 rfl rfl ?_
        obtain ⟨ht, h⟩ := gO_s h
        refine gs_pfI cd_84_230 (by decide) (Or.inl rfl) ht ?_
        obtain ⟨I_11, hx, h⟩ := lt_s_ h
        rw [hx]
        refine gs_0 (pc' := 234) (L' := [some (.ref l0)]) (st' := [.ref l0]) cd_84_233 rfl rfl ?_
        refine gs_0 (pc' := 236) (L' := [some (.ref l0)]) (st' := [K 22, .ref l0]) cd_84_234 rfl rfl ?_
        obtain ⟨q_12, hq, h⟩ := kR_s h
        rw [hq]
        refine gs_0 (pc' := 237) (L' := [some (.ref l0)]) (st' := [.ref l0, .ref q_12, .ref l0]) cd_84_236 rfl rfl ?_
        obtain ⟨ht, h⟩ := gO_s h
        obtain ⟨q_13, hv, h⟩ := gV_s h
        refine gs_gfR cd_84_237 (by decide) ht hv ?_
        refine gs_0 (pc' := 241) (L' := [some (.ref l0)]) (st' := [.ref l0, .ref q_13, .ref q_12, .ref l0]) cd_84_240 rfl rfl ?_
        obtain ⟨ht, h⟩ := gO_s h
        refine gs_gfI cd_84_241 (by decide) (by decide) ht ?_
        obtain ⟨ht, h⟩ := gA_s h
        refine gs_iald cd_84_244 ht ?_
        obtain ⟨hS, h⟩ := gC_s h
        obtain ⟨x_17, w_14, I_15, J_16, hcl, h⟩ := cI_s h
        refine gs_call (as := [.ref q_12, .int (I_11 q_13 (I_11 l0 22 : Int32).toNatClampNeg)]) (rest := [.ref l0]) cd_84_245 rfl (by decide) rfl (sm_rv_S hS) (Nat.le_of_ble_eq_true rfl) (Nat.le_of_ble_eq_true rfl) rfl hcl ?_
        refine gs_0 (pc' := if x_17 < 0 then 255 else 251) (L' := [some (.ref l0)]) (st' := [.ref l0]) cd_84_248 rfl rfl ?_
        refine go_ite (fun hc => ?_) (fun hc => ?_)
        · rw [if_pos hc] at h
          refine gs_0 (pc' := 256) (L' := [some (.ref l0)]) (st' := [.int 5, .ref l0]) cd_84_255 rfl rfl ?_
          exact ok_84_256 h
        · rw [if_neg hc] at h
          refine gs_0 (pc' := 252) (L' := [some (.ref l0)]) (st' := [.int 4, .ref l0]) cd_84_251 rfl rfl ?_
          refine gs_0 (pc' := 256) (L' := [some (.ref l0)]) (st' := [.int 4, .ref l0]) cd_84_252 rfl rfl ?_
          exact ok_84_256 h
      · rw [if_neg hc] at h
        exact ok_84_174 h
    · rw [if_neg hc] at h
      exact ok_84_95 h
  · rw [if_neg hc] at h
    refine gs_0 (pc' := 77) (L' := [some (.ref l0)]) (st' := [.ref l0]) cd_84_76 rfl rfl ?_
    refine gs_0 (pc' := 78) (L' := [some (.ref l0)]) (st' := [.int 0, .ref l0]) cd_84_77 rfl rfl ?_
    obtain ⟨ht, h⟩ := gO_s h
    refine gs_pfI cd_84_78 (by decide) (Or.inl rfl) ht ?_
    obtain ⟨I_18, hx, h⟩ := lt_s_ h
    rw [hx]
    refine gs_0 (pc' := 259) (L' := [some (.ref l0)]) (st' := []) cd_84_81 rfl rfl ?_
    cases h
    exact gsr cd_84_259 rfl rfl
noncomputable def f_84_39 (K : Nat → Value) (k d : Nat) (r0 : Nat → aW → aI → aJ → Option aR) (l0 : Nat) (w : aW) (I : aI) (J : aJ) : Option aR :=
  gO w 6 l0 (
  gO w 6 l0 (
  lt_ (sm_up2 I l0 23 ((I l0 23) + 1)) fun I_1 =>
  r0 l0 w I_1 J))
theorem ok_84_39 {K : Nat → Value} {k d : Nat} {r0 : Nat → aW → aI → aJ → Option aR} (hr0 : ∀ (l0 : Nat) (w : aW) (I : aI) (J : aJ) (R : aR), r0 l0 w I J = some R → Go K (d + 1) 84 0 [some (.ref l0)] [] w I J R) {l0 : Nat} {w : aW} {I : aI} {J : aJ} {R : aR} (h : f_84_39 K k d r0 l0 w I J = some R) : Go K (d + 1) 84 39 [some (.ref l0)] [] w I J R := by
  unfold f_84_39 at h
  refine gs_0 (pc' := 40) (L' := [some (.ref l0)]) (st' := [.ref l0]) cd_84_39 rfl rfl ?_
  refine gs_0 (pc' := 41) (L' := [some (.ref l0)]) (st' := [.ref l0, .ref l0]) cd_84_40 rfl rfl ?_
  obtain ⟨ht, h⟩ := gO_s h
  refine gs_gfI cd_84_41 (by decide) (by decide) ht ?_
  refine gs_0 (pc' := 45) (L' := [some (.ref l0)]) (st' := [.int 1, .int (I l0 23), .ref l0]) cd_84_44 rfl rfl ?_
  refine gs_0 (pc' := 46) (L' := [some (.ref l0)]) (st' := [.int ((I l0 23) + 1), .ref l0]) cd_84_45 rfl rfl ?_
  obtain ⟨ht, h⟩ := gO_s h
  refine gs_pfI cd_84_46 (by decide) (Or.inl rfl) ht ?_
  obtain ⟨I_1, hx, h⟩ := lt_s_ h
  rw [hx]
  refine gs_0 (pc' := 0) (L' := [some (.ref l0)]) (st' := []) cd_84_49 rfl rfl ?_
  exact hr0 l0 _ _ _ _ h
noncomputable def f_84 (K : Nat → Value) (k : Nat) (d : Nat) : Nat → aW → aI → aJ → Option aR :=
  match k with
  | 0 => fun _ _ _ _ => none
  | k + 1 => fun l0 w I J =>
  lt_ (f_84 K k d) fun r0 =>
  gO w 6 l0 (
  gO w 6 l0 (
  if (I l0 2) ≤ (I l0 23) then
    f_84_52 K k d l0 w I J
  else
    gO w 6 l0 (
    gV w l0 1 fun q_1 =>
    gO w 6 l0 (
    gA w 10 20 q_1 (I l0 23) (
    if (I q_1 (I l0 23 : Int32).toNatClampNeg) = 32 then
      f_84_39 K k d r0 l0 w I J
    else
      gO w 6 l0 (
      gV w l0 1 fun q_2 =>
      gO w 6 l0 (
      gA w 10 20 q_2 (I l0 23) (
      if ¬ (I q_2 (I l0 23 : Int32).toNatClampNeg) = 10 then
        f_84_52 K k d l0 w I J
      else
        f_84_39 K k d r0 l0 w I J))))))))
theorem ok_84 {K : Nat → Value} {d : Nat} : ∀ {k : Nat} {l0 : Nat} {w : aW} {I : aI} {J : aJ} {R : aR}, f_84 K k d l0 w I J = some R → Go K (d + 1) 84 0 [some (.ref l0)] [] w I J R := by
  intro k
  induction k with
  | zero => intro l0 w I J R h; cases h
  | succ k ih =>
    intro l0 w I J R h
    have hr0 : ∀ (l0 : Nat) (w : aW) (I : aI) (J : aJ) (R : aR), f_84 K k d l0 w I J = some R → Go K (d + 1) 84 0 [some (.ref l0)] [] w I J R := fun l0 w I J R h => ih h
    rw [f_84] at h
    obtain ⟨r0, hx, h⟩ := lt_s_ h
    rw [hx] at hr0
    clear hx ih
    refine gs_0 (pc' := 1) (L' := [some (.ref l0)]) (st' := [.ref l0]) cd_84_0 rfl rfl ?_
    obtain ⟨ht, h⟩ := gO_s h
    refine gs_gfI cd_84_1 (by decide) (by decide) ht ?_
    refine gs_0 (pc' := 5) (L' := [some (.ref l0)]) (st' := [.ref l0, .int (I l0 23)]) cd_84_4 rfl rfl ?_
    obtain ⟨ht, h⟩ := gO_s h
    refine gs_gfI cd_84_5 (by decide) (by decide) ht ?_
    refine gs_0 (pc' := if (I l0 2) ≤ (I l0 23) then 52 else 11) (L' := [some (.ref l0)]) (st' := []) cd_84_8 rfl rfl ?_
    refine go_ite (fun hc => ?_) (fun hc => ?_)
    · rw [if_pos hc] at h
      exact ok_84_52 h
    · rw [if_neg hc] at h
      refine gs_0 (pc' := 12) (L' := [some (.ref l0)]) (st' := [.ref l0]) cd_84_11 rfl rfl ?_
      obtain ⟨ht, h⟩ := gO_s h
      obtain ⟨q_1, hv, h⟩ := gV_s h
      refine gs_gfR cd_84_12 (by decide) ht hv ?_
      refine gs_0 (pc' := 16) (L' := [some (.ref l0)]) (st' := [.ref l0, .ref q_1]) cd_84_15 rfl rfl ?_
      obtain ⟨ht, h⟩ := gO_s h
      refine gs_gfI cd_84_16 (by decide) (by decide) ht ?_
      obtain ⟨ht, h⟩ := gA_s h
      refine gs_iald cd_84_19 ht ?_
      refine gs_0 (pc' := 22) (L' := [some (.ref l0)]) (st' := [.int 32, .int (I q_1 (I l0 23 : Int32).toNatClampNeg)]) cd_84_20 rfl rfl ?_
      refine gs_0 (pc' := if (I q_1 (I l0 23 : Int32).toNatClampNeg) = 32 then 39 else 25) (L' := [some (.ref l0)]) (st' := []) cd_84_22 rfl rfl ?_
      refine go_ite (fun hc => ?_) (fun hc => ?_)
      · rw [if_pos hc] at h
        exact ok_84_39 hr0 h
      · rw [if_neg hc] at h
        refine gs_0 (pc' := 26) (L' := [some (.ref l0)]) (st' := [.ref l0]) cd_84_25 rfl rfl ?_
        obtain ⟨ht, h⟩ := gO_s h
        obtain ⟨q_2, hv, h⟩ := gV_s h
        refine gs_gfR cd_84_26 (by decide) ht hv ?_
        refine gs_0 (pc' := 30) (L' := [some (.ref l0)]) (st' := [.ref l0, .ref q_2]) cd_84_29 rfl rfl ?_
        obtain ⟨ht, h⟩ := gO_s h
        refine gs_gfI cd_84_30 (by decide) (by decide) ht ?_
        obtain ⟨ht, h⟩ := gA_s h
        refine gs_iald cd_84_33 ht ?_
        refine gs_0 (pc' := 36) (L' := [some (.ref l0)]) (st' := [.int 10, .int (I q_2 (I l0 23 : Int32).toNatClampNeg)]) cd_84_34 rfl rfl ?_
        refine gs_0 (pc' := if ¬ (I q_2 (I l0 23 : Int32).toNatClampNeg) = 10 then 52 else 39) (L' := [some (.ref l0)]) (st' := []) cd_84_36 rfl rfl ?_
        refine go_ite (fun hc => ?_) (fun hc => ?_)
        · rw [if_pos hc] at h
          exact ok_84_52 h
        · rw [if_neg hc] at h
          exact ok_84_39 hr0 h
theorem cl_84 {K : Nat → Value} {k d : Nat} {l0 : Nat} {w : aW} {I : aI} {J : aJ} {R : aR} (h : f_84 K k d l0 w I J = some R) : Cl K (d + 1) 84 [.ref l0] w I J = some R := Cl_of (ok_84 h)

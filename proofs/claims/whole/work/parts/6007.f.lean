/-! methods as functions, by own program (wip/whole/gen_f.py) -/
/-! ProvedMachine$Machine.putOne(II)I -/
set_option maxRecDepth 20000 in
theorem gl_160 : gcd.lookup 160 = some gw_160 := rfl
theorem cd_160_0 : sm_cd 160 0 = some (.aload_n 0, 1, 0, 0, 0, 0, 0, 0, 0) := cd_of gl_160 rfl
theorem cd_160_1 : sm_cd 160 1 = some (.getfield 13, 3, 0, 1, 2, 0, 0, 0, 0) := cd_of gl_160 rfl
theorem cd_160_4 : sm_cd 160 4 = some (.iconst 3, 1, 0, 0, 0, 0, 0, 3, 0) := cd_of gl_160 rfl
theorem cd_160_5 : sm_cd 160 5 = some (.iaload, 1, 0, 0, 0, 0, 0, 0, 0) := cd_of gl_160 rfl
theorem cd_160_6 : sm_cd 160 6 = some (.bipush 30, 2, 0, 0, 0, 0, 0, 30, 0) := cd_of gl_160 rfl
theorem cd_160_8 : sm_cd 160 8 = some (.if_icmp .lt 6, 3, 14, 0, 0, 0, 0, 0, 0) := cd_of gl_160 rfl
theorem cd_160_11 : sm_cd 160 11 = some (.bipush 7, 2, 0, 0, 0, 0, 0, 7, 0) := cd_of gl_160 rfl
theorem cd_160_13 : sm_cd 160 13 = some (.ireturn, 1, 0, 0, 1, 0, 0, 0, 0) := cd_of gl_160 rfl
theorem cd_160_14 : sm_cd 160 14 = some (.aload_n 0, 1, 0, 0, 0, 0, 0, 0, 0) := cd_of gl_160 rfl
theorem cd_160_15 : sm_cd 160 15 = some (.getfield 13, 3, 0, 1, 2, 0, 0, 0, 0) := cd_of gl_160 rfl
theorem cd_160_18 : sm_cd 160 18 = some (.iconst 4, 1, 0, 0, 0, 0, 0, 4, 0) := cd_of gl_160 rfl
theorem cd_160_19 : sm_cd 160 19 = some (.iaload, 1, 0, 0, 0, 0, 0, 0, 0) := cd_of gl_160 rfl
theorem cd_160_20 : sm_cd 160 20 = some (.iconst 1, 1, 0, 0, 0, 0, 0, 1, 0) := cd_of gl_160 rfl
theorem cd_160_21 : sm_cd 160 21 = some (.isub, 1, 0, 0, 0, 0, 0, 0, 0) := cd_of gl_160 rfl
theorem cd_160_22 : sm_cd 160 22 = some (.istore_n 3, 1, 3, 0, 0, 0, 0, 0, 0) := cd_of gl_160 rfl
theorem cd_160_23 : sm_cd 160 23 = some (.iload_n 1, 1, 1, 0, 0, 0, 0, 0, 0) := cd_of gl_160 rfl
theorem cd_160_24 : sm_cd 160 24 = some (.tableswitch 74 0 3 #[32, 40, 48, 56], 32, 0, 0, 0, 0, 0, 0, 0) := cd_of gl_160 rfl
theorem cd_160_56 : sm_cd 160 56 = some (.aload_n 0, 1, 0, 0, 0, 0, 0, 0, 0) := cd_of gl_160 rfl
theorem cd_160_57 : sm_cd 160 57 = some (.iconst 0, 1, 0, 0, 0, 0, 0, 0, 0) := cd_of gl_160 rfl
theorem cd_160_58 : sm_cd 160 58 = some (.iload_n 2, 1, 2, 0, 0, 0, 0, 0, 0) := cd_of gl_160 rfl
theorem cd_160_59 : sm_cd 160 59 = some (.iconst 0, 1, 0, 0, 0, 0, 0, 0, 0) := cd_of gl_160 rfl
theorem cd_160_60 : sm_cd 160 60 = some (.invokevirtual 153, 3, 161, 0, 3, 5, 0, 0, 0) := cd_of gl_160 rfl
theorem cd_160_63 : sm_cd 160 63 = some (.ireturn, 1, 0, 0, 1, 0, 0, 0, 0) := cd_of gl_160 rfl
theorem cd_160_64 : sm_cd 160 64 = some (.aload_n 0, 1, 0, 0, 0, 0, 0, 0, 0) := cd_of gl_160 rfl
theorem cd_160_65 : sm_cd 160 65 = some (.iconst 0, 1, 0, 0, 0, 0, 0, 0, 0) := cd_of gl_160 rfl
theorem cd_160_66 : sm_cd 160 66 = some (.iload_n 2, 1, 2, 0, 0, 0, 0, 0, 0) := cd_of gl_160 rfl
theorem cd_160_67 : sm_cd 160 67 = some (.iconst 1, 1, 0, 0, 0, 0, 0, 1, 0) := cd_of gl_160 rfl
theorem cd_160_68 : sm_cd 160 68 = some (.invokevirtual 153, 3, 161, 0, 3, 5, 0, 0, 0) := cd_of gl_160 rfl
theorem cd_160_71 : sm_cd 160 71 = some (.ireturn, 1, 0, 0, 1, 0, 0, 0, 0) := cd_of gl_160 rfl
theorem cd_160_72 : sm_cd 160 72 = some (.aload_n 0, 1, 0, 0, 0, 0, 0, 0, 0) := cd_of gl_160 rfl
theorem cd_160_73 : sm_cd 160 73 = some (.iconst 0, 1, 0, 0, 0, 0, 0, 0, 0) := cd_of gl_160 rfl
theorem cd_160_74 : sm_cd 160 74 = some (.iconst 0, 1, 0, 0, 0, 0, 0, 0, 0) := cd_of gl_160 rfl
theorem cd_160_75 : sm_cd 160 75 = some (.iconst 3, 1, 0, 0, 0, 0, 0, 3, 0) := cd_of gl_160 rfl
theorem cd_160_76 : sm_cd 160 76 = some (.invokevirtual 153, 3, 161, 0, 3, 5, 0, 0, 0) := cd_of gl_160 rfl
theorem cd_160_79 : sm_cd 160 79 = some (.ireturn, 1, 0, 0, 1, 0, 0, 0, 0) := cd_of gl_160 rfl
theorem cd_160_80 : sm_cd 160 80 = some (.aload_n 0, 1, 0, 0, 0, 0, 0, 0, 0) := cd_of gl_160 rfl
theorem cd_160_81 : sm_cd 160 81 = some (.iconst 0, 1, 0, 0, 0, 0, 0, 0, 0) := cd_of gl_160 rfl
theorem cd_160_82 : sm_cd 160 82 = some (.aload_n 0, 1, 0, 0, 0, 0, 0, 0, 0) := cd_of gl_160 rfl
theorem cd_160_83 : sm_cd 160 83 = some (.iload_n 3, 1, 3, 0, 0, 0, 0, 0, 0) := cd_of gl_160 rfl
theorem cd_160_84 : sm_cd 160 84 = some (.iload_n 2, 1, 2, 0, 0, 0, 0, 0, 0) := cd_of gl_160 rfl
theorem cd_160_85 : sm_cd 160 85 = some (.invokevirtual 157, 3, 158, 0, 2, 3, 0, 0, 0) := cd_of gl_160 rfl
theorem cd_160_88 : sm_cd 160 88 = some (.aload_n 0, 1, 0, 0, 0, 0, 0, 0, 0) := cd_of gl_160 rfl
theorem cd_160_89 : sm_cd 160 89 = some (.iload_n 3, 1, 3, 0, 0, 0, 0, 0, 0) := cd_of gl_160 rfl
theorem cd_160_90 : sm_cd 160 90 = some (.iload_n 2, 1, 2, 0, 0, 0, 0, 0, 0) := cd_of gl_160 rfl
theorem cd_160_91 : sm_cd 160 91 = some (.invokevirtual 160, 3, 157, 0, 2, 3, 0, 0, 0) := cd_of gl_160 rfl
theorem cd_160_94 : sm_cd 160 94 = some (.invokevirtual 153, 3, 161, 0, 3, 5, 0, 0, 0) := cd_of gl_160 rfl
theorem cd_160_97 : sm_cd 160 97 = some (.ireturn, 1, 0, 0, 1, 0, 0, 0, 0) := cd_of gl_160 rfl
theorem cd_160_98 : sm_cd 160 98 = some (.aload_n 0, 1, 0, 0, 0, 0, 0, 0, 0) := cd_of gl_160 rfl
theorem cd_160_99 : sm_cd 160 99 = some (.iconst 0, 1, 0, 0, 0, 0, 0, 0, 0) := cd_of gl_160 rfl
theorem cd_160_100 : sm_cd 160 100 = some (.iconst 0, 1, 0, 0, 0, 0, 0, 0, 0) := cd_of gl_160 rfl
theorem cd_160_101 : sm_cd 160 101 = some (.iload_n 2, 1, 2, 0, 0, 0, 0, 0, 0) := cd_of gl_160 rfl
theorem cd_160_102 : sm_cd 160 102 = some (.invokevirtual 153, 3, 161, 0, 3, 5, 0, 0, 0) := cd_of gl_160 rfl
theorem cd_160_105 : sm_cd 160 105 = some (.ireturn, 1, 0, 0, 1, 0, 0, 0, 0) := cd_of gl_160 rfl
theorem sw_160_24_0 {K : Nat → Value} {L : aL} {st : List Value} {w : aW} {I : aI} {J : aJ} {x : Int32} (h : x = 0) : sm_stp K (.tableswitch 74 0 3 #[32, 40, 48, 56], 32, 0, 0, 0, 0, 0, 0, 0) 24 L (.int x :: st) w I J = some (56, L, st, w, I, J) := by subst h; rfl
theorem sw_160_24_1 {K : Nat → Value} {L : aL} {st : List Value} {w : aW} {I : aI} {J : aJ} {x : Int32} (h : x = 1) : sm_stp K (.tableswitch 74 0 3 #[32, 40, 48, 56], 32, 0, 0, 0, 0, 0, 0, 0) 24 L (.int x :: st) w I J = some (64, L, st, w, I, J) := by subst h; rfl
theorem sw_160_24_2 {K : Nat → Value} {L : aL} {st : List Value} {w : aW} {I : aI} {J : aJ} {x : Int32} (h : x = 2) : sm_stp K (.tableswitch 74 0 3 #[32, 40, 48, 56], 32, 0, 0, 0, 0, 0, 0, 0) 24 L (.int x :: st) w I J = some (72, L, st, w, I, J) := by subst h; rfl
theorem sw_160_24_3 {K : Nat → Value} {L : aL} {st : List Value} {w : aW} {I : aI} {J : aJ} {x : Int32} (h : x = 3) : sm_stp K (.tableswitch 74 0 3 #[32, 40, 48, 56], 32, 0, 0, 0, 0, 0, 0, 0) 24 L (.int x :: st) w I J = some (80, L, st, w, I, J) := by subst h; rfl
theorem sw_160_24_d {K : Nat → Value} {L : aL} {st : List Value} {w : aW} {I : aI} {J : aJ} {x : Int32} (h0 : ¬ x = 0) (h1 : ¬ x = 1) (h2 : ¬ x = 2) (h3 : ¬ x = 3) : sm_stp K (.tableswitch 74 0 3 #[32, 40, 48, 56], 32, 0, 0, 0, 0, 0, 0, 0) 24 L (.int x :: st) w I J = some (98, L, st, w, I, J) := by
  have e : sm_swt 24 74 0 3 #[32, 40, 48, 56] x = some 98 := by
    unfold sm_swt
    split
    · rfl
    · rename_i hn
      exfalso
      have ha : ¬ x.toInt < 0 := fun q => hn (Or.inl q)
      have hb : ¬ 3 < x.toInt := fun q => hn (Or.inr q)
      have g0 : ¬ x.toInt = 0 := fun q => h0 (Int32.toInt_inj.mp q)
      have g1 : ¬ x.toInt = 1 := fun q => h1 (Int32.toInt_inj.mp q)
      have g2 : ¬ x.toInt = 2 := fun q => h2 (Int32.toInt_inj.mp q)
      have g3 : ¬ x.toInt = 3 := fun q => h3 (Int32.toInt_inj.mp q)
      omega
  simp only [sm_stp, e, sm_jm]
noncomputable def f_160 (K : Nat → Value) (k d : Nat) (l0 : Nat) (l1 : Int32) (l2 : Int32) (w : aW) (I : aI) (J : aJ) : Option aR :=
  gO w 0 l0 (
  gV w l0 1 fun q_1 =>
  gA w 10 20 q_1 3 (
  if (I q_1 (3 : Int32).toNatClampNeg) < 30 then
    gO w 0 l0 (
    gV w l0 1 fun q_2 =>
    gA w 10 20 q_2 4 (
    lt_ ((I q_2 (4 : Int32).toNatClampNeg) - 1) fun x_3 =>
    if l1 = 0 then
      gO w 0 l0 (
      cI (Cl K d 161 [.ref l0, .int 0, .int l2, .int 0] w I J) fun x_7 w_4 I_5 J_6 =>
      some (some (.int x_7), w_4, I_5, J_6))
    else
    if l1 = 1 then
      gO w 0 l0 (
      cI (Cl K d 161 [.ref l0, .int 0, .int l2, .int 1] w I J) fun x_11 w_8 I_9 J_10 =>
      some (some (.int x_11), w_8, I_9, J_10))
    else
    if l1 = 2 then
      gO w 0 l0 (
      cI (Cl K d 161 [.ref l0, .int 0, .int 0, .int 3] w I J) fun x_15 w_12 I_13 J_14 =>
      some (some (.int x_15), w_12, I_13, J_14))
    else
    if l1 = 3 then
      gO w 0 l0 (
      cI (Cl K d 158 [.ref l0, .int x_3, .int l2] w I J) fun x_19 w_16 I_17 J_18 =>
      gO w_16 0 l0 (
      cI (Cl K d 157 [.ref l0, .int x_3, .int l2] w_16 I_17 J_18) fun x_23 w_20 I_21 J_22 =>
      gO w_20 0 l0 (
      cI (Cl K d 161 [.ref l0, .int 0, .int x_19, .int x_23] w_20 I_21 J_22) fun x_27 w_24 I_25 J_26 =>
      some (some (.int x_27), w_24, I_25, J_26))))
    else
    gO w 0 l0 (
    cI (Cl K d 161 [.ref l0, .int 0, .int 0, .int l2] w I J) fun x_31 w_28 I_29 J_30 =>
    some (some (.int x_31), w_28, I_29, J_30))))
  else
    some (some (.int 7), w, I, J)))
theorem ok_160 {K : Nat → Value} {k d : Nat} {l0 : Nat} {l1 : Int32} {l2 : Int32} {w : aW} {I : aI} {J : aJ} {R : aR} (h : f_160 K k d l0 l1 l2 w I J = some R) : Go K (d + 1) 160 0 [some (.ref l0), some (.int l1), some (.int l2), none] [] w I J R := by
  unfold f_160 at h
  refine gs_0 (pc' := 1) (L' := [some (.ref l0), some (.int l1), some (.int l2), none]) (st' := [.ref l0]) cd_160_0 rfl rfl ?_
  obtain ⟨ht, h⟩ := gO_s h
  obtain ⟨q_1, hv, h⟩ := gV_s h
  refine gs_gfR cd_160_1 (by decide) ht hv ?_
  refine gs_0 (pc' := 5) (L' := [some (.ref l0), some (.int l1), some (.int l2), none]) (st' := [.int 3, .ref q_1]) cd_160_4 rfl rfl ?_
  obtain ⟨ht, h⟩ := gA_s h
  refine gs_iald cd_160_5 ht ?_
  refine gs_0 (pc' := 8) (L' := [some (.ref l0), some (.int l1), some (.int l2), none]) (st' := [.int 30, .int (I q_1 (3 : Int32).toNatClampNeg)]) cd_160_6 rfl rfl ?_
  refine gs_0 (pc' := if (I q_1 (3 : Int32).toNatClampNeg) < 30 then 14 else 11) (L' := [some (.ref l0), some (.int l1), some (.int l2), none]) (st' := []) cd_160_8 rfl rfl ?_
  refine go_ite (fun hc => ?_) (fun hc => ?_)
  · rw [if_pos hc] at h
    refine gs_0 (pc' := 15) (L' := [some (.ref l0), some (.int l1), some (.int l2), none]) (st' := [.ref l0]) cd_160_14 rfl rfl ?_
    obtain ⟨ht, h⟩ := gO_s h
    obtain ⟨q_2, hv, h⟩ := gV_s h
    refine gs_gfR cd_160_15 (by decide) ht hv ?_
    refine gs_0 (pc' := 19) (L' := [some (.ref l0), some (.int l1), some (.int l2), none]) (st' := [.int 4, .ref q_2]) cd_160_18 rfl rfl ?_
    obtain ⟨ht, h⟩ := gA_s h
    refine gs_iald cd_160_19 ht ?_
    refine gs_0 (pc' := 21) (L' := [some (.ref l0), some (.int l1), some (.int l2), none]) (st' := [.int 1, .int (I q_2 (4 : Int32).toNatClampNeg)]) cd_160_20 rfl rfl ?_
    refine gs_0 (pc' := 22) (L' := [some (.ref l0), some (.int l1), some (.int l2), none]) (st' := [.int ((I q_2 (4 : Int32).toNatClampNeg) - 1)]) cd_160_21 rfl rfl ?_
    refine gs_0 (pc' := 23) (L' := [some (.ref l0), some (.int l1), some (.int l2), some (.int ((I q_2 (4 : Int32).toNatClampNeg) - 1))]) (st' := []) cd_160_22 rfl rfl ?_
    obtain ⟨x_3, hx, h⟩ := lt_s_ h
    rw [hx]
    clear hx
    refine gs_0 (pc' := 24) (L' := [some (.ref l0), some (.int l1), some (.int l2), some (.int x_3)]) (st' := [.int l1]) cd_160_23 rfl rfl ?_
    by_cases hc0 : l1 = 0
    · rw [if_pos hc0] at h
      refine gs_0 (pc' := 56) (L' := [some (.ref l0), some (.int l1), some (.int l2), some (.int x_3)]) (st' := []) cd_160_24 rfl (sw_160_24_0 hc0) ?_
      refine gs_0 (pc' := 57) (L' := [some (.ref l0), some (.int l1), some (.int l2), some (.int x_3)]) (st' := [.ref l0]) cd_160_56 rfl rfl ?_
      refine gs_0 (pc' := 58) (L' := [some (.ref l0), some (.int l1), some (.int l2), some (.int x_3)]) (st' := [.int 0, .ref l0]) cd_160_57 rfl rfl ?_
      refine gs_0 (pc' := 59) (L' := [some (.ref l0), some (.int l1), some (.int l2), some (.int x_3)]) (st' := [.int l2, .int 0, .ref l0]) cd_160_58 rfl rfl ?_
      refine gs_0 (pc' := 60) (L' := [some (.ref l0), some (.int l1), some (.int l2), some (.int x_3)]) (st' := [.int 0, .int l2, .int 0, .ref l0]) cd_160_59 rfl rfl ?_
      obtain ⟨ht, h⟩ := gO_s h
      obtain ⟨x_7, w_4, I_5, J_6, hcl, h⟩ := cI_s h
      refine gs_call (as := [.ref l0, .int 0, .int l2, .int 0]) (rest := []) cd_160_60 rfl (by decide) rfl (sm_rv_ok (by decide) ht) (Nat.le_of_ble_eq_true rfl) (Nat.le_of_ble_eq_true rfl) rfl hcl ?_
      cases h
      exact gs_ri cd_160_63 (Or.inl rfl)
    · rw [if_neg hc0] at h
      by_cases hc1 : l1 = 1
      · rw [if_pos hc1] at h
        refine gs_0 (pc' := 64) (L' := [some (.ref l0), some (.int l1), some (.int l2), some (.int x_3)]) (st' := []) cd_160_24 rfl (sw_160_24_1 hc1) ?_
        refine gs_0 (pc' := 65) (L' := [some (.ref l0), some (.int l1), some (.int l2), some (.int x_3)]) (st' := [.ref l0]) cd_160_64 rfl rfl ?_
        refine gs_0 (pc' := 66) (L' := [some (.ref l0), some (.int l1), some (.int l2), some (.int x_3)]) (st' := [.int 0, .ref l0]) cd_160_65 rfl rfl ?_
        refine gs_0 (pc' := 67) (L' := [some (.ref l0), some (.int l1), some (.int l2), some (.int x_3)]) (st' := [.int l2, .int 0, .ref l0]) cd_160_66 rfl rfl ?_
        refine gs_0 (pc' := 68) (L' := [some (.ref l0), some (.int l1), some (.int l2), some (.int x_3)]) (st' := [.int 1, .int l2, .int 0, .ref l0]) cd_160_67 rfl rfl ?_
        obtain ⟨ht, h⟩ := gO_s h
        obtain ⟨x_11, w_8, I_9, J_10, hcl, h⟩ := cI_s h
        refine gs_call (as := [.ref l0, .int 0, .int l2, .int 1]) (rest := []) cd_160_68 rfl (by decide) rfl (sm_rv_ok (by decide) ht) (Nat.le_of_ble_eq_true rfl) (Nat.le_of_ble_eq_true rfl) rfl hcl ?_
        cases h
        exact gs_ri cd_160_71 (Or.inl rfl)
      · rw [if_neg hc1] at h
        by_cases hc2 : l1 = 2
        · rw [if_pos hc2] at h
          refine gs_0 (pc' := 72) (L' := [some (.ref l0), some (.int l1), some (.int l2), some (.int x_3)]) (st' := []) cd_160_24 rfl (sw_160_24_2 hc2) ?_
          refine gs_0 (pc' := 73) (L' := [some (.ref l0), some (.int l1), some (.int l2), some (.int x_3)]) (st' := [.ref l0]) cd_160_72 rfl rfl ?_
          refine gs_0 (pc' := 74) (L' := [some (.ref l0), some (.int l1), some (.int l2), some (.int x_3)]) (st' := [.int 0, .ref l0]) cd_160_73 rfl rfl ?_
          refine gs_0 (pc' := 75) (L' := [some (.ref l0), some (.int l1), some (.int l2), some (.int x_3)]) (st' := [.int 0, .int 0, .ref l0]) cd_160_74 rfl rfl ?_
          refine gs_0 (pc' := 76) (L' := [some (.ref l0), some (.int l1), some (.int l2), some (.int x_3)]) (st' := [.int 3, .int 0, .int 0, .ref l0]) cd_160_75 rfl rfl ?_
          obtain ⟨ht, h⟩ := gO_s h
          obtain ⟨x_15, w_12, I_13, J_14, hcl, h⟩ := cI_s h
          refine gs_call (as := [.ref l0, .int 0, .int 0, .int 3]) (rest := []) cd_160_76 rfl (by decide) rfl (sm_rv_ok (by decide) ht) (Nat.le_of_ble_eq_true rfl) (Nat.le_of_ble_eq_true rfl) rfl hcl ?_
          cases h
          exact gs_ri cd_160_79 (Or.inl rfl)
        · rw [if_neg hc2] at h
          by_cases hc3 : l1 = 3
          · rw [if_pos hc3] at h
            refine gs_0 (pc' := 80) (L' := [some (.ref l0), some (.int l1), some (.int l2), some (.int x_3)]) (st' := []) cd_160_24 rfl (sw_160_24_3 hc3) ?_
            refine gs_0 (pc' := 81) (L' := [some (.ref l0), some (.int l1), some (.int l2), some (.int x_3)]) (st' := [.ref l0]) cd_160_80 rfl rfl ?_
            refine gs_0 (pc' := 82) (L' := [some (.ref l0), some (.int l1), some (.int l2), some (.int x_3)]) (st' := [.int 0, .ref l0]) cd_160_81 rfl rfl ?_
            refine gs_0 (pc' := 83) (L' := [some (.ref l0), some (.int l1), some (.int l2), some (.int x_3)]) (st' := [.ref l0, .int 0, .ref l0]) cd_160_82 rfl rfl ?_
            refine gs_0 (pc' := 84) (L' := [some (.ref l0), some (.int l1), some (.int l2), some (.int x_3)]) (st' := [.int x_3, .ref l0, .int 0, .ref l0]) cd_160_83 rfl rfl ?_
            refine gs_0 (pc' := 85) (L' := [some (.ref l0), some (.int l1), some (.int l2), some (.int x_3)]) (st' := [.int l2, .int x_3, .ref l0, .int 0, .ref l0]) cd_160_84 rfl rfl ?_
            obtain ⟨ht, h⟩ := gO_s h
            obtain ⟨x_19, w_16, I_17, J_18, hcl, h⟩ := cI_s h
            refine gs_call (as := [.ref l0, .int x_3, .int l2]) (rest := [.int 0, .ref l0]) cd_160_85 rfl (by decide) rfl (sm_rv_ok (by decide) ht) (Nat.le_of_ble_eq_true rfl) (Nat.le_of_ble_eq_true rfl) rfl hcl ?_
            refine gs_0 (pc' := 89) (L' := [some (.ref l0), some (.int l1), some (.int l2), some (.int x_3)]) (st' := [.ref l0, .int x_19, .int 0, .ref l0]) cd_160_88 rfl rfl ?_
            refine gs_0 (pc' := 90) (L' := [some (.ref l0), some (.int l1), some (.int l2), some (.int x_3)]) (st' := [.int x_3, .ref l0, .int x_19, .int 0, .ref l0]) cd_160_89 rfl rfl ?_
            refine gs_0 (pc' := 91) (L' := [some (.ref l0), some (.int l1), some (.int l2), some (.int x_3)]) (st' := [.int l2, .int x_3, .ref l0, .int x_19, .int 0, .ref l0]) cd_160_90 rfl rfl ?_
            obtain ⟨ht, h⟩ := gO_s h
            obtain ⟨x_23, w_20, I_21, J_22, hcl, h⟩ := cI_s h
            refine gs_call (as := [.ref l0, .int x_3, .int l2]) (rest := [.int x_19, .int 0, .ref l0]) cd_160_91 rfl (by decide) rfl (sm_rv_ok (by decide) ht) (Nat.le_of_ble_eq_true rfl) (Nat.le_of_ble_eq_true rfl) rfl hcl ?_
            obtain ⟨ht, h⟩ := gO_s h
            obtain ⟨x_27, w_24, I_25, J_26, hcl, h⟩ := cI_s h
            refine gs_call (as := [.ref l0, .int 0, .int x_19, .int x_23]) (rest := []) cd_160_94 rfl (by decide) rfl (sm_rv_ok (by decide) ht) (Nat.le_of_ble_eq_true rfl) (Nat.le_of_ble_eq_true rfl) rfl hcl ?_
            cases h
            exact gs_ri cd_160_97 (Or.inl rfl)
          · rw [if_neg hc3] at h
            refine gs_0 (pc' := 98) (L' := [some (.ref l0), some (.int l1), some (.int l2), some (.int x_3)]) (st' := []) cd_160_24 rfl (sw_160_24_d hc0 hc1 hc2 hc3) ?_
            refine gs_0 (pc' := 99) (L' := [some (.ref l0), some (.int l1), some (.int l2), some (.int x_3)]) (st' := [.ref l0]) cd_160_98 rfl rfl ?_
            refine gs_0 (pc' := 100) (L' := [some (.ref l0), some (.int l1), some (.int l2), some (.int x_3)]) (st' := [.int 0, .ref l0]) cd_160_99 rfl rfl ?_
            refine gs_0 (pc' := 101) (L' := [some (.ref l0), some (.int l1), some (.int l2), some (.int x_3)]) (st' := [.int 0, .int 0, .ref l0]) cd_160_100 rfl rfl ?_
            refine gs_0 (pc' := 102) (L' := [some (.ref l0), some (.int l1), some (.int l2), some (.int x_3)]) (st' := [.int l2, .int 0, .int 0, .ref l0]) cd_160_101 rfl rfl ?_
            obtain ⟨ht, h⟩ := gO_s h
            obtain ⟨x_31, w_28, I_29, J_30, hcl, h⟩ := cI_s h
            refine gs_call (as := [.ref l0, .int 0, .int 0, .int l2]) (rest := []) cd_160_102 rfl (by decide) rfl (sm_rv_ok (by decide) ht) (Nat.le_of_ble_eq_true rfl) (Nat.le_of_ble_eq_true rfl) rfl hcl ?_
            cases h
            exact gs_ri cd_160_105 (Or.inl rfl)
  · rw [if_neg hc] at h
    refine gs_0 (pc' := 13) (L' := [some (.ref l0), some (.int l1), some (.int l2), none]) (st' := [.int 7]) cd_160_11 rfl rfl ?_
    cases h
    exact gs_ri cd_160_13 (Or.inl rfl)
theorem cl_160 {K : Nat → Value} {k d : Nat} {l0 : Nat} {l1 : Int32} {l2 : Int32} {w : aW} {I : aI} {J : aJ} {R : aR} (h : f_160 K k d l0 l1 l2 w I J = some R) : Cl K (d + 1) 160 [.ref l0, .int l1, .int l2] w I J = some R := Cl_of (ok_160 h)
/-! ProvedMachine$Machine.replace(III)I -/
set_option maxRecDepth 20000 in
theorem gl_161 : gcd.lookup 161 = some gw_161 := rfl
theorem cd_161_0 : sm_cd 161 0 = some (.aload_n 0, 1, 0, 0, 0, 0, 0, 0, 0) := cd_of gl_161 rfl
theorem cd_161_1 : sm_cd 161 1 = some (.getfield 13, 3, 0, 1, 2, 0, 0, 0, 0) := cd_of gl_161 rfl
theorem cd_161_4 : sm_cd 161 4 = some (.iconst 3, 1, 0, 0, 0, 0, 0, 3, 0) := cd_of gl_161 rfl
theorem cd_161_5 : sm_cd 161 5 = some (.iaload, 1, 0, 0, 0, 0, 0, 0, 0) := cd_of gl_161 rfl
theorem cd_161_6 : sm_cd 161 6 = some (.iload_n 1, 1, 1, 0, 0, 0, 0, 0, 0) := cd_of gl_161 rfl
theorem cd_161_7 : sm_cd 161 7 = some (.isub, 1, 0, 0, 0, 0, 0, 0, 0) := cd_of gl_161 rfl
theorem cd_161_8 : sm_cd 161 8 = some (.istore 4, 2, 4, 0, 0, 0, 0, 0, 0) := cd_of gl_161 rfl
theorem cd_161_10 : sm_cd 161 10 = some (.aload_n 0, 1, 0, 0, 0, 0, 0, 0, 0) := cd_of gl_161 rfl
theorem cd_161_11 : sm_cd 161 11 = some (.bipush 7, 2, 0, 0, 0, 0, 0, 7, 0) := cd_of gl_161 rfl
theorem cd_161_13 : sm_cd 161 13 = some (.iload 4, 2, 4, 0, 0, 0, 0, 0, 0) := cd_of gl_161 rfl
theorem cd_161_15 : sm_cd 161 15 = some (.iadd, 1, 0, 0, 0, 0, 0, 0, 0) := cd_of gl_161 rfl
theorem cd_161_16 : sm_cd 161 16 = some (.iload_n 2, 1, 2, 0, 0, 0, 0, 0, 0) := cd_of gl_161 rfl
theorem cd_161_17 : sm_cd 161 17 = some (.invokevirtual 60, 3, 144, 0, 2, 5, 0, 0, 0) := cd_of gl_161 rfl
theorem cd_161_20 : sm_cd 161 20 = some (.aload_n 0, 1, 0, 0, 0, 0, 0, 0, 0) := cd_of gl_161 rfl
theorem cd_161_21 : sm_cd 161 21 = some (.bipush 37, 2, 0, 0, 0, 0, 0, 37, 0) := cd_of gl_161 rfl
theorem cd_161_23 : sm_cd 161 23 = some (.iload 4, 2, 4, 0, 0, 0, 0, 0, 0) := cd_of gl_161 rfl
theorem cd_161_25 : sm_cd 161 25 = some (.iadd, 1, 0, 0, 0, 0, 0, 0, 0) := cd_of gl_161 rfl
theorem cd_161_26 : sm_cd 161 26 = some (.iload_n 3, 1, 3, 0, 0, 0, 0, 0, 0) := cd_of gl_161 rfl
theorem cd_161_27 : sm_cd 161 27 = some (.invokevirtual 60, 3, 144, 0, 2, 5, 0, 0, 0) := cd_of gl_161 rfl
theorem cd_161_30 : sm_cd 161 30 = some (.aload_n 0, 1, 0, 0, 0, 0, 0, 0, 0) := cd_of gl_161 rfl
theorem cd_161_31 : sm_cd 161 31 = some (.iconst 3, 1, 0, 0, 0, 0, 0, 3, 0) := cd_of gl_161 rfl
theorem cd_161_32 : sm_cd 161 32 = some (.iload 4, 2, 4, 0, 0, 0, 0, 0, 0) := cd_of gl_161 rfl
theorem cd_161_34 : sm_cd 161 34 = some (.iconst 1, 1, 0, 0, 0, 0, 0, 1, 0) := cd_of gl_161 rfl
theorem cd_161_35 : sm_cd 161 35 = some (.iadd, 1, 0, 0, 0, 0, 0, 0, 0) := cd_of gl_161 rfl
theorem cd_161_36 : sm_cd 161 36 = some (.invokevirtual 60, 3, 144, 0, 2, 5, 0, 0, 0) := cd_of gl_161 rfl
theorem cd_161_39 : sm_cd 161 39 = some (.aload_n 0, 1, 0, 0, 0, 0, 0, 0, 0) := cd_of gl_161 rfl
theorem cd_161_40 : sm_cd 161 40 = some (.aload_n 0, 1, 0, 0, 0, 0, 0, 0, 0) := cd_of gl_161 rfl
theorem cd_161_41 : sm_cd 161 41 = some (.invokevirtual 64, 3, 145, 0, 0, 1, 0, 0, 0) := cd_of gl_161 rfl
theorem cd_161_44 : sm_cd 161 44 = some (.iconst 1, 1, 0, 0, 0, 0, 0, 1, 0) := cd_of gl_161 rfl
theorem cd_161_45 : sm_cd 161 45 = some (.iadd, 1, 0, 0, 0, 0, 0, 0, 0) := cd_of gl_161 rfl
theorem cd_161_46 : sm_cd 161 46 = some (.invokevirtual 138, 3, 162, 0, 1, 2, 0, 0, 0) := cd_of gl_161 rfl
theorem cd_161_49 : sm_cd 161 49 = some (.ireturn, 1, 0, 0, 1, 0, 0, 0, 0) := cd_of gl_161 rfl
noncomputable def f_161 (K : Nat → Value) (k d : Nat) (l0 : Nat) (l1 : Int32) (l2 : Int32) (l3 : Int32) (w : aW) (I : aI) (J : aJ) : Option aR :=
  gO w 0 l0 (
  gV w l0 1 fun q_1 =>
  gA w 10 20 q_1 3 (
  lt_ ((I q_1 (3 : Int32).toNatClampNeg) - l1) fun x_2 =>
  gO w 0 l0 (
  cV (Cl K d 144 [.ref l0, .int (7 + x_2), .int l2] w I J) fun w_3 I_4 J_5 =>
  gO w_3 0 l0 (
  cV (Cl K d 144 [.ref l0, .int (37 + x_2), .int l3] w_3 I_4 J_5) fun w_6 I_7 J_8 =>
  gO w_6 0 l0 (
  cV (Cl K d 144 [.ref l0, .int 3, .int (x_2 + 1)] w_6 I_7 J_8) fun w_9 I_10 J_11 =>
  gO w_9 0 l0 (
  cI (Cl K d 145 [.ref l0] w_9 I_10 J_11) fun x_15 w_12 I_13 J_14 =>
  gO w_12 0 l0 (
  cI (Cl K d 162 [.ref l0, .int (x_15 + 1)] w_12 I_13 J_14) fun x_19 w_16 I_17 J_18 =>
  some (some (.int x_19), w_16, I_17, J_18))))))))
theorem ok_161 {K : Nat → Value} {k d : Nat} {l0 : Nat} {l1 : Int32} {l2 : Int32} {l3 : Int32} {w : aW} {I : aI} {J : aJ} {R : aR} (h : f_161 K k d l0 l1 l2 l3 w I J = some R) : Go K (d + 1) 161 0 [some (.ref l0), some (.int l1), some (.int l2), some (.int l3), none] [] w I J R := by
  unfold f_161 at h
  refine gs_0 (pc' := 1) (L' := [some (.ref l0), some (.int l1), some (.int l2), some (.int l3), none]) (st' := [.ref l0]) cd_161_0 rfl rfl ?_
  obtain ⟨ht, h⟩ := gO_s h
  obtain ⟨q_1, hv, h⟩ := gV_s h
  refine gs_gfR cd_161_1 (by decide) ht hv ?_
  refine gs_0 (pc' := 5) (L' := [some (.ref l0), some (.int l1), some (.int l2), some (.int l3), none]) (st' := [.int 3, .ref q_1]) cd_161_4 rfl rfl ?_
  obtain ⟨ht, h⟩ := gA_s h
  refine gs_iald cd_161_5 ht ?_
  refine gs_0 (pc' := 7) (L' := [some (.ref l0), some (.int l1), some (.int l2), some (.int l3), none]) (st' := [.int l1, .int (I q_1 (3 : Int32).toNatClampNeg)]) cd_161_6 rfl rfl ?_
  refine gs_0 (pc' := 8) (L' := [some (.ref l0), some (.int l1), some (.int l2), some (.int l3), none]) (st' := [.int ((I q_1 (3 : Int32).toNatClampNeg) - l1)]) cd_161_7 rfl rfl ?_
  refine gs_0 (pc' := 10) (L' := [some (.ref l0), some (.int l1), some (.int l2), some (.int l3), some (.int ((I q_1 (3 : Int32).toNatClampNeg) - l1))]) (st' := []) cd_161_8 rfl rfl ?_
  obtain ⟨x_2, hx, h⟩ := lt_s_ h
  rw [hx]
  clear hx
  refine gs_0 (pc' := 11) (L' := [some (.ref l0), some (.int l1), some (.int l2), some (.int l3), some (.int x_2)]) (st' := [.ref l0]) cd_161_10 rfl rfl ?_
  refine gs_0 (pc' := 13) (L' := [some (.ref l0), some (.int l1), some (.int l2), some (.int l3), some (.int x_2)]) (st' := [.int 7, .ref l0]) cd_161_11 rfl rfl ?_
  refine gs_0 (pc' := 15) (L' := [some (.ref l0), some (.int l1), some (.int l2), some (.int l3), some (.int x_2)]) (st' := [.int x_2, .int 7, .ref l0]) cd_161_13 rfl rfl ?_
  refine gs_0 (pc' := 16) (L' := [some (.ref l0), some (.int l1), some (.int l2), some (.int l3), some (.int x_2)]) (st' := [.int (7 + x_2), .ref l0]) cd_161_15 rfl rfl ?_
  refine gs_0 (pc' := 17) (L' := [some (.ref l0), some (.int l1), some (.int l2), some (.int l3), some (.int x_2)]) (st' := [.int l2, .int (7 + x_2), .ref l0]) cd_161_16 rfl rfl ?_
  obtain ⟨ht, h⟩ := gO_s h
  obtain ⟨w_3, I_4, J_5, hcl, h⟩ := cV_s h
  refine gs_call (as := [.ref l0, .int (7 + x_2), .int l2]) (rest := []) cd_161_17 rfl (by decide) rfl (sm_rv_ok (by decide) ht) (Nat.le_of_ble_eq_true rfl) (Nat.le_of_ble_eq_true rfl) rfl hcl ?_
  refine gs_0 (pc' := 21) (L' := [some (.ref l0), some (.int l1), some (.int l2), some (.int l3), some (.int x_2)]) (st' := [.ref l0]) cd_161_20 rfl rfl ?_
  refine gs_0 (pc' := 23) (L' := [some (.ref l0), some (.int l1), some (.int l2), some (.int l3), some (.int x_2)]) (st' := [.int 37, .ref l0]) cd_161_21 rfl rfl ?_
  refine gs_0 (pc' := 25) (L' := [some (.ref l0), some (.int l1), some (.int l2), some (.int l3), some (.int x_2)]) (st' := [.int x_2, .int 37, .ref l0]) cd_161_23 rfl rfl ?_
  refine gs_0 (pc' := 26) (L' := [some (.ref l0), some (.int l1), some (.int l2), some (.int l3), some (.int x_2)]) (st' := [.int (37 + x_2), .ref l0]) cd_161_25 rfl rfl ?_
  refine gs_0 (pc' := 27) (L' := [some (.ref l0), some (.int l1), some (.int l2), some (.int l3), some (.int x_2)]) (st' := [.int l3, .int (37 + x_2), .ref l0]) cd_161_26 rfl rfl ?_
  obtain ⟨ht, h⟩ := gO_s h
  obtain ⟨w_6, I_7, J_8, hcl, h⟩ := cV_s h
  refine gs_call (as := [.ref l0, .int (37 + x_2), .int l3]) (rest := []) cd_161_27 rfl (by decide) rfl (sm_rv_ok (by decide) ht) (Nat.le_of_ble_eq_true rfl) (Nat.le_of_ble_eq_true rfl) rfl hcl ?_
  refine gs_0 (pc' := 31) (L' := [some (.ref l0), some (.int l1), some (.int l2), some (.int l3), some (.int x_2)]) (st' := [.ref l0]) cd_161_30 rfl rfl ?_
  refine gs_0 (pc' := 32) (L' := [some (.ref l0), some (.int l1), some (.int l2), some (.int l3), some (.int x_2)]) (st' := [.int 3, .ref l0]) cd_161_31 rfl rfl ?_
  refine gs_0 (pc' := 34) (L' := [some (.ref l0), some (.int l1), some (.int l2), some (.int l3), some (.int x_2)]) (st' := [.int x_2, .int 3, .ref l0]) cd_161_32 rfl rfl ?_
  refine gs_0 (pc' := 35) (L' := [some (.ref l0), some (.int l1), some (.int l2), some (.int l3), some (.int x_2)]) (st' := [.int 1, .int x_2, .int 3, .ref l0]) cd_161_34 rfl rfl ?_
  refine gs_0 (pc' := 36) (L' := [some (.ref l0), some (.int l1), some (.int l2), some (.int l3), some (.int x_2)]) (st' := [.int (x_2 + 1), .int 3, .ref l0]) cd_161_35 rfl rfl ?_
  obtain ⟨ht, h⟩ := gO_s h
  obtain ⟨w_9, I_10, J_11, hcl, h⟩ := cV_s h
  refine gs_call (as := [.ref l0, .int 3, .int (x_2 + 1)]) (rest := []) cd_161_36 rfl (by decide) rfl (sm_rv_ok (by decide) ht) (Nat.le_of_ble_eq_true rfl) (Nat.le_of_ble_eq_true rfl) rfl hcl ?_
  refine gs_0 (pc' := 40) (L' := [some (.ref l0), some (.int l1), some (.int l2), some (.int l3), some (.int x_2)]) (st' := [.ref l0]) cd_161_39 rfl rfl ?_
  refine gs_0 (pc' := 41) (L' := [some (.ref l0), some (.int l1), some (.int l2), some (.int l3), some (.int x_2)]) (st' := [.ref l0, .ref l0]) cd_161_40 rfl rfl ?_
  obtain ⟨ht, h⟩ := gO_s h
  obtain ⟨x_15, w_12, I_13, J_14, hcl, h⟩ := cI_s h
  refine gs_call (as := [.ref l0]) (rest := [.ref l0]) cd_161_41 rfl (by decide) rfl (sm_rv_ok (by decide) ht) (Nat.le_of_ble_eq_true rfl) (Nat.le_of_ble_eq_true rfl) rfl hcl ?_
  refine gs_0 (pc' := 45) (L' := [some (.ref l0), some (.int l1), some (.int l2), some (.int l3), some (.int x_2)]) (st' := [.int 1, .int x_15, .ref l0]) cd_161_44 rfl rfl ?_
  refine gs_0 (pc' := 46) (L' := [some (.ref l0), some (.int l1), some (.int l2), some (.int l3), some (.int x_2)]) (st' := [.int (x_15 + 1), .ref l0]) cd_161_45 rfl rfl ?_
  obtain ⟨ht, h⟩ := gO_s h
  obtain ⟨x_19, w_16, I_17, J_18, hcl, h⟩ := cI_s h
  refine gs_call (as := [.ref l0, .int (x_15 + 1)]) (rest := []) cd_161_46 rfl (by decide) rfl (sm_rv_ok (by decide) ht) (Nat.le_of_ble_eq_true rfl) (Nat.le_of_ble_eq_true rfl) rfl hcl ?_
  cases h
  exact gs_ri cd_161_49 (Or.inl rfl)
theorem cl_161 {K : Nat → Value} {k d : Nat} {l0 : Nat} {l1 : Int32} {l2 : Int32} {l3 : Int32} {w : aW} {I : aI} {J : aJ} {R : aR} (h : f_161 K k d l0 l1 l2 l3 w I J = some R) : Cl K (d + 1) 161 [.ref l0, .int l1, .int l2, .int l3] w I J = some R := Cl_of (ok_161 h)
/-! ProvedMachine$Machine.goTo(I)I -/
set_option maxRecDepth 20000 in
theorem gl_162 : gcd.lookup 162 = some gw_162 := rfl
theorem cd_162_0 : sm_cd 162 0 = some (.aload_n 0, 1, 0, 0, 0, 0, 0, 0, 0) := cd_of gl_162 rfl
theorem cd_162_1 : sm_cd 162 1 = some (.aload_n 0, 1, 0, 0, 0, 0, 0, 0, 0) := cd_of gl_162 rfl
theorem cd_162_2 : sm_cd 162 2 = some (.getfield 13, 3, 0, 1, 2, 0, 0, 0, 0) := cd_of gl_162 rfl
theorem cd_162_5 : sm_cd 162 5 = some (.iconst 4, 1, 0, 0, 0, 0, 0, 4, 0) := cd_of gl_162 rfl
theorem cd_162_6 : sm_cd 162 6 = some (.iaload, 1, 0, 0, 0, 0, 0, 0, 0) := cd_of gl_162 rfl
theorem cd_162_7 : sm_cd 162 7 = some (.iconst 1, 1, 0, 0, 0, 0, 0, 1, 0) := cd_of gl_162 rfl
theorem cd_162_8 : sm_cd 162 8 = some (.isub, 1, 0, 0, 0, 0, 0, 0, 0) := cd_of gl_162 rfl
theorem cd_162_9 : sm_cd 162 9 = some (.invokestatic 102, 3, 146, 1, 1, 1, 0, 0, 0) := cd_of gl_162 rfl
theorem cd_162_12 : sm_cd 162 12 = some (.iconst 1, 1, 0, 0, 0, 0, 0, 1, 0) := cd_of gl_162 rfl
theorem cd_162_13 : sm_cd 162 13 = some (.iadd, 1, 0, 0, 0, 0, 0, 0, 0) := cd_of gl_162 rfl
theorem cd_162_14 : sm_cd 162 14 = some (.iload_n 1, 1, 1, 0, 0, 0, 0, 0, 0) := cd_of gl_162 rfl
theorem cd_162_15 : sm_cd 162 15 = some (.invokevirtual 60, 3, 144, 0, 2, 5, 0, 0, 0) := cd_of gl_162 rfl
theorem cd_162_18 : sm_cd 162 18 = some (.iconst 0, 1, 0, 0, 0, 0, 0, 0, 0) := cd_of gl_162 rfl
theorem cd_162_19 : sm_cd 162 19 = some (.ireturn, 1, 0, 0, 1, 0, 0, 0, 0) := cd_of gl_162 rfl
noncomputable def f_162 (K : Nat → Value) (k d : Nat) (l0 : Nat) (l1 : Int32) (w : aW) (I : aI) (J : aJ) : Option aR :=
  gO w 0 l0 (
  gV w l0 1 fun q_1 =>
  gA w 10 20 q_1 4 (
  cI (Cl K d 146 [.int ((I q_1 (4 : Int32).toNatClampNeg) - 1)] w I J) fun x_5 w_2 I_3 J_4 =>
  gO w_2 0 l0 (
  cV (Cl K d 144 [.ref l0, .int (x_5 + 1), .int l1] w_2 I_3 J_4) fun w_6 I_7 J_8 =>
  some (some (.int 0), w_6, I_7, J_8))))
theorem ok_162 {K : Nat → Value} {k d : Nat} {l0 : Nat} {l1 : Int32} {w : aW} {I : aI} {J : aJ} {R : aR} (h : f_162 K k d l0 l1 w I J = some R) : Go K (d + 1) 162 0 [some (.ref l0), some (.int l1)] [] w I J R := by
  unfold f_162 at h
  refine gs_0 (pc' := 1) (L' := [some (.ref l0), some (.int l1)]) (st' := [.ref l0]) cd_162_0 rfl rfl ?_
  refine gs_0 (pc' := 2) (L' := [some (.ref l0), some (.int l1)]) (st' := [.ref l0, .ref l0]) cd_162_1 rfl rfl ?_
  obtain ⟨ht, h⟩ := gO_s h
  obtain ⟨q_1, hv, h⟩ := gV_s h
  refine gs_gfR cd_162_2 (by decide) ht hv ?_
  refine gs_0 (pc' := 6) (L' := [some (.ref l0), some (.int l1)]) (st' := [.int 4, .ref q_1, .ref l0]) cd_162_5 rfl rfl ?_
  obtain ⟨ht, h⟩ := gA_s h
  refine gs_iald cd_162_6 ht ?_
  refine gs_0 (pc' := 8) (L' := [some (.ref l0), some (.int l1)]) (st' := [.int 1, .int (I q_1 (4 : Int32).toNatClampNeg), .ref l0]) cd_162_7 rfl rfl ?_
  refine gs_0 (pc' := 9) (L' := [some (.ref l0), some (.int l1)]) (st' := [.int ((I q_1 (4 : Int32).toNatClampNeg) - 1), .ref l0]) cd_162_8 rfl rfl ?_
  obtain ⟨x_5, w_2, I_3, J_4, hcl, h⟩ := cI_s h
  refine gs_call (as := [.int ((I q_1 (4 : Int32).toNatClampNeg) - 1)]) (rest := [.ref l0]) cd_162_9 rfl (by decide) rfl rfl (Nat.le_of_ble_eq_true rfl) (Nat.le_of_ble_eq_true rfl) rfl hcl ?_
  refine gs_0 (pc' := 13) (L' := [some (.ref l0), some (.int l1)]) (st' := [.int 1, .int x_5, .ref l0]) cd_162_12 rfl rfl ?_
  refine gs_0 (pc' := 14) (L' := [some (.ref l0), some (.int l1)]) (st' := [.int (x_5 + 1), .ref l0]) cd_162_13 rfl rfl ?_
  refine gs_0 (pc' := 15) (L' := [some (.ref l0), some (.int l1)]) (st' := [.int l1, .int (x_5 + 1), .ref l0]) cd_162_14 rfl rfl ?_
  obtain ⟨ht, h⟩ := gO_s h
  obtain ⟨w_6, I_7, J_8, hcl, h⟩ := cV_s h
  refine gs_call (as := [.ref l0, .int (x_5 + 1), .int l1]) (rest := []) cd_162_15 rfl (by decide) rfl (sm_rv_ok (by decide) ht) (Nat.le_of_ble_eq_true rfl) (Nat.le_of_ble_eq_true rfl) rfl hcl ?_
  refine gs_0 (pc' := 19) (L' := [some (.ref l0), some (.int l1)]) (st' := [.int 0]) cd_162_18 rfl rfl ?_
  cases h
  exact gs_ri cd_162_19 (Or.inl rfl)
theorem cl_162 {K : Nat → Value} {k d : Nat} {l0 : Nat} {l1 : Int32} {w : aW} {I : aI} {J : aJ} {R : aR} (h : f_162 K k d l0 l1 w I J = some R) : Cl K (d + 1) 162 [.ref l0, .int l1] w I J = some R := Cl_of (ok_162 h)
/-! ProvedMachine$Machine.enter(I)I -/
set_option maxRecDepth 20000 in
theorem gl_163 : gcd.lookup 163 = some gw_163 := rfl
theorem cd_163_0 : sm_cd 163 0 = some (.aload_n 0, 1, 0, 0, 0, 0, 0, 0, 0) := cd_of gl_163 rfl
theorem cd_163_1 : sm_cd 163 1 = some (.getfield 13, 3, 0, 1, 2, 0, 0, 0, 0) := cd_of gl_163 rfl
theorem cd_163_4 : sm_cd 163 4 = some (.iconst 4, 1, 0, 0, 0, 0, 0, 4, 0) := cd_of gl_163 rfl
theorem cd_163_5 : sm_cd 163 5 = some (.iaload, 1, 0, 0, 0, 0, 0, 0, 0) := cd_of gl_163 rfl
theorem cd_163_6 : sm_cd 163 6 = some (.istore_n 2, 1, 2, 0, 0, 0, 0, 0, 0) := cd_of gl_163 rfl
theorem cd_163_7 : sm_cd 163 7 = some (.iload_n 2, 1, 2, 0, 0, 0, 0, 0, 0) := cd_of gl_163 rfl
theorem cd_163_8 : sm_cd 163 8 = some (.bipush 8, 2, 0, 0, 0, 0, 0, 8, 0) := cd_of gl_163 rfl
theorem cd_163_10 : sm_cd 163 10 = some (.if_icmp .lt 6, 3, 16, 0, 0, 0, 0, 0, 0) := cd_of gl_163 rfl
theorem cd_163_13 : sm_cd 163 13 = some (.bipush 7, 2, 0, 0, 0, 0, 0, 7, 0) := cd_of gl_163 rfl
theorem cd_163_15 : sm_cd 163 15 = some (.ireturn, 1, 0, 0, 1, 0, 0, 0, 0) := cd_of gl_163 rfl
theorem cd_163_16 : sm_cd 163 16 = some (.aload_n 0, 1, 0, 0, 0, 0, 0, 0, 0) := cd_of gl_163 rfl
theorem cd_163_17 : sm_cd 163 17 = some (.getfield 39, 3, 0, 0, 2, 0, 0, 0, 0) := cd_of gl_163 rfl
theorem cd_163_20 : sm_cd 163 20 = some (.iload_n 1, 1, 1, 0, 0, 0, 0, 0, 0) := cd_of gl_163 rfl
theorem cd_163_21 : sm_cd 163 21 = some (.iconst 1, 1, 0, 0, 0, 0, 0, 1, 0) := cd_of gl_163 rfl
theorem cd_163_22 : sm_cd 163 22 = some (.invokevirtual 52, 3, 52, 0, 2, 4, 1, 0, 0) := cd_of gl_163 rfl
theorem cd_163_25 : sm_cd 163 25 = some (.istore_n 3, 1, 3, 0, 0, 0, 0, 0, 0) := cd_of gl_163 rfl
theorem cd_163_26 : sm_cd 163 26 = some (.aload_n 0, 1, 0, 0, 0, 0, 0, 0, 0) := cd_of gl_163 rfl
theorem cd_163_27 : sm_cd 163 27 = some (.iload_n 3, 1, 3, 0, 0, 0, 0, 0, 0) := cd_of gl_163 rfl
theorem cd_163_28 : sm_cd 163 28 = some (.invokevirtual 129, 3, 164, 0, 1, 2, 0, 0, 0) := cd_of gl_163 rfl
theorem cd_163_31 : sm_cd 163 31 = some (.pop, 1, 0, 0, 0, 0, 0, 0, 0) := cd_of gl_163 rfl
theorem cd_163_32 : sm_cd 163 32 = some (.iload_n 2, 1, 2, 0, 0, 0, 0, 0, 0) := cd_of gl_163 rfl
theorem cd_163_33 : sm_cd 163 33 = some (.invokestatic 102, 3, 146, 1, 1, 1, 0, 0, 0) := cd_of gl_163 rfl
theorem cd_163_36 : sm_cd 163 36 = some (.istore 4, 2, 4, 0, 0, 0, 0, 0, 0) := cd_of gl_163 rfl
theorem cd_163_38 : sm_cd 163 38 = some (.aload_n 0, 1, 0, 0, 0, 0, 0, 0, 0) := cd_of gl_163 rfl
theorem cd_163_39 : sm_cd 163 39 = some (.iload 4, 2, 4, 0, 0, 0, 0, 0, 0) := cd_of gl_163 rfl
theorem cd_163_41 : sm_cd 163 41 = some (.iload_n 1, 1, 1, 0, 0, 0, 0, 0, 0) := cd_of gl_163 rfl
theorem cd_163_42 : sm_cd 163 42 = some (.invokevirtual 60, 3, 144, 0, 2, 5, 0, 0, 0) := cd_of gl_163 rfl
theorem cd_163_45 : sm_cd 163 45 = some (.aload_n 0, 1, 0, 0, 0, 0, 0, 0, 0) := cd_of gl_163 rfl
theorem cd_163_46 : sm_cd 163 46 = some (.iload 4, 2, 4, 0, 0, 0, 0, 0, 0) := cd_of gl_163 rfl
theorem cd_163_48 : sm_cd 163 48 = some (.iconst 1, 1, 0, 0, 0, 0, 0, 1, 0) := cd_of gl_163 rfl
theorem cd_163_49 : sm_cd 163 49 = some (.iadd, 1, 0, 0, 0, 0, 0, 0, 0) := cd_of gl_163 rfl
theorem cd_163_50 : sm_cd 163 50 = some (.aload_n 0, 1, 0, 0, 0, 0, 0, 0, 0) := cd_of gl_163 rfl
theorem cd_163_51 : sm_cd 163 51 = some (.getfield 39, 3, 0, 0, 2, 0, 0, 0, 0) := cd_of gl_163 rfl
theorem cd_163_54 : sm_cd 163 54 = some (.iload_n 1, 1, 1, 0, 0, 0, 0, 0, 0) := cd_of gl_163 rfl
theorem cd_163_55 : sm_cd 163 55 = some (.iconst 0, 1, 0, 0, 0, 0, 0, 0, 0) := cd_of gl_163 rfl
theorem cd_163_56 : sm_cd 163 56 = some (.invokevirtual 52, 3, 52, 0, 2, 4, 1, 0, 0) := cd_of gl_163 rfl
theorem cd_163_59 : sm_cd 163 59 = some (.invokevirtual 60, 3, 144, 0, 2, 5, 0, 0, 0) := cd_of gl_163 rfl
theorem cd_163_62 : sm_cd 163 62 = some (.iconst 0, 1, 0, 0, 0, 0, 0, 0, 0) := cd_of gl_163 rfl
theorem cd_163_63 : sm_cd 163 63 = some (.istore 5, 2, 5, 0, 0, 0, 0, 0, 0) := cd_of gl_163 rfl
theorem cd_163_65 : sm_cd 163 65 = some (.iload 5, 2, 5, 0, 0, 0, 0, 0, 0) := cd_of gl_163 rfl
theorem cd_163_67 : sm_cd 163 67 = some (.aload_n 0, 1, 0, 0, 0, 0, 0, 0, 0) := cd_of gl_163 rfl
theorem cd_163_68 : sm_cd 163 68 = some (.getfield 39, 3, 0, 0, 2, 0, 0, 0, 0) := cd_of gl_163 rfl
theorem cd_163_71 : sm_cd 163 71 = some (.iload_n 1, 1, 1, 0, 0, 0, 0, 0, 0) := cd_of gl_163 rfl
theorem cd_163_72 : sm_cd 163 72 = some (.iconst 2, 1, 0, 0, 0, 0, 0, 2, 0) := cd_of gl_163 rfl
theorem cd_163_73 : sm_cd 163 73 = some (.invokevirtual 52, 3, 52, 0, 2, 4, 1, 0, 0) := cd_of gl_163 rfl
theorem cd_163_76 : sm_cd 163 76 = some (.if_icmp .ge 46, 3, 122, 0, 0, 0, 0, 0, 0) := cd_of gl_163 rfl
theorem cd_163_79 : sm_cd 163 79 = some (.aload_n 0, 1, 0, 0, 0, 0, 0, 0, 0) := cd_of gl_163 rfl
theorem cd_163_80 : sm_cd 163 80 = some (.iload 4, 2, 4, 0, 0, 0, 0, 0, 0) := cd_of gl_163 rfl
theorem cd_163_82 : sm_cd 163 82 = some (.iconst 2, 1, 0, 0, 0, 0, 0, 2, 0) := cd_of gl_163 rfl
theorem cd_163_83 : sm_cd 163 83 = some (.iadd, 1, 0, 0, 0, 0, 0, 0, 0) := cd_of gl_163 rfl
theorem cd_163_84 : sm_cd 163 84 = some (.iload 5, 2, 5, 0, 0, 0, 0, 0, 0) := cd_of gl_163 rfl
theorem cd_163_86 : sm_cd 163 86 = some (.iadd, 1, 0, 0, 0, 0, 0, 0, 0) := cd_of gl_163 rfl
theorem cd_163_87 : sm_cd 163 87 = some (.iload 5, 2, 5, 0, 0, 0, 0, 0, 0) := cd_of gl_163 rfl
theorem cd_163_89 : sm_cd 163 89 = some (.iload_n 3, 1, 3, 0, 0, 0, 0, 0, 0) := cd_of gl_163 rfl
theorem cd_163_90 : sm_cd 163 90 = some (.if_icmp .ge 22, 3, 112, 0, 0, 0, 0, 0, 0) := cd_of gl_163 rfl
theorem cd_163_93 : sm_cd 163 93 = some (.aload_n 0, 1, 0, 0, 0, 0, 0, 0, 0) := cd_of gl_163 rfl
theorem cd_163_94 : sm_cd 163 94 = some (.bipush 7, 2, 0, 0, 0, 0, 0, 7, 0) := cd_of gl_163 rfl
theorem cd_163_96 : sm_cd 163 96 = some (.aload_n 0, 1, 0, 0, 0, 0, 0, 0, 0) := cd_of gl_163 rfl
theorem cd_163_97 : sm_cd 163 97 = some (.getfield 13, 3, 0, 1, 2, 0, 0, 0, 0) := cd_of gl_163 rfl
theorem cd_163_100 : sm_cd 163 100 = some (.iconst 3, 1, 0, 0, 0, 0, 0, 3, 0) := cd_of gl_163 rfl
theorem cd_163_101 : sm_cd 163 101 = some (.iaload, 1, 0, 0, 0, 0, 0, 0, 0) := cd_of gl_163 rfl
theorem cd_163_102 : sm_cd 163 102 = some (.iadd, 1, 0, 0, 0, 0, 0, 0, 0) := cd_of gl_163 rfl
theorem cd_163_103 : sm_cd 163 103 = some (.iload 5, 2, 5, 0, 0, 0, 0, 0, 0) := cd_of gl_163 rfl
theorem cd_163_105 : sm_cd 163 105 = some (.iadd, 1, 0, 0, 0, 0, 0, 0, 0) := cd_of gl_163 rfl
theorem cd_163_106 : sm_cd 163 106 = some (.invokevirtual 105, 3, 147, 0, 1, 2, 0, 0, 0) := cd_of gl_163 rfl
theorem cd_163_109 : sm_cd 163 109 = some (.goto 4, 3, 113, 0, 0, 0, 0, 0, 0) := cd_of gl_163 rfl
theorem cd_163_112 : sm_cd 163 112 = some (.iconst 0, 1, 0, 0, 0, 0, 0, 0, 0) := cd_of gl_163 rfl
theorem cd_163_113 : sm_cd 163 113 = some (.invokevirtual 60, 3, 144, 0, 2, 5, 0, 0, 0) := cd_of gl_163 rfl
theorem cd_163_116 : sm_cd 163 116 = some (.iinc 5 1, 3, 5, 0, 0, 0, 0, 1, 0) := cd_of gl_163 rfl
theorem cd_163_119 : sm_cd 163 119 = some (.goto (-54), 3, 65, 0, 0, 0, 0, 0, 0) := cd_of gl_163 rfl
theorem cd_163_122 : sm_cd 163 122 = some (.aload_n 0, 1, 0, 0, 0, 0, 0, 0, 0) := cd_of gl_163 rfl
theorem cd_163_123 : sm_cd 163 123 = some (.iconst 4, 1, 0, 0, 0, 0, 0, 4, 0) := cd_of gl_163 rfl
theorem cd_163_124 : sm_cd 163 124 = some (.iload_n 2, 1, 2, 0, 0, 0, 0, 0, 0) := cd_of gl_163 rfl
theorem cd_163_125 : sm_cd 163 125 = some (.iconst 1, 1, 0, 0, 0, 0, 0, 1, 0) := cd_of gl_163 rfl
theorem cd_163_126 : sm_cd 163 126 = some (.iadd, 1, 0, 0, 0, 0, 0, 0, 0) := cd_of gl_163 rfl
theorem cd_163_127 : sm_cd 163 127 = some (.invokevirtual 60, 3, 144, 0, 2, 5, 0, 0, 0) := cd_of gl_163 rfl
theorem cd_163_130 : sm_cd 163 130 = some (.iconst 0, 1, 0, 0, 0, 0, 0, 0, 0) := cd_of gl_163 rfl
theorem cd_163_131 : sm_cd 163 131 = some (.ireturn, 1, 0, 0, 1, 0, 0, 0, 0) := cd_of gl_163 rfl
noncomputable def f_163_113 (K : Nat → Value) (k d : Nat) (r65 : Nat → Int32 → Int32 → Int32 → Int32 → Int32 → aW → aI → aJ → Option aR) (l0 : Nat) (l1 : Int32) (l2 : Int32) (l3 : Int32) (l4 : Int32) (l5 : Int32) (s0 : Nat) (s1 : Int32) (s2 : Int32) (w : aW) (I : aI) (J : aJ) : Option aR :=
  gO w 0 s0 (
  cV (Cl K d 144 [.ref s0, .int s1, .int s2] w I J) fun w_1 I_2 J_3 =>
  lt_ (l5 + 1) fun x_4 =>
  r65 l0 l1 l2 l3 l4 x_4 w_1 I_2 J_3)
theorem ok_163_113 {K : Nat → Value} {k d : Nat} {r65 : Nat → Int32 → Int32 → Int32 → Int32 → Int32 → aW → aI → aJ → Option aR} (hr65 : ∀ (l0 : Nat) (l1 : Int32) (l2 : Int32) (l3 : Int32) (l4 : Int32) (l5 : Int32) (w : aW) (I : aI) (J : aJ) (R : aR), r65 l0 l1 l2 l3 l4 l5 w I J = some R → Go K (d + 1) 163 65 [some (.ref l0), some (.int l1), some (.int l2), some (.int l3), some (.int l4), some (.int l5)] [] w I J R) {l0 : Nat} {l1 : Int32} {l2 : Int32} {l3 : Int32} {l4 : Int32} {l5 : Int32} {s0 : Nat} {s1 : Int32} {s2 : Int32} {w : aW} {I : aI} {J : aJ} {R : aR} (h : f_163_113 K k d r65 l0 l1 l2 l3 l4 l5 s0 s1 s2 w I J = some R) : Go K (d + 1) 163 113 [some (.ref l0), some (.int l1), some (.int l2), some (.int l3), some (.int l4), some (.int l5)] [.int s2, .int s1, .ref s0] w I J R := by
  unfold f_163_113 at h
  obtain ⟨ht, h⟩ := gO_s h
  obtain ⟨w_1, I_2, J_3, hcl, h⟩ := cV_s h
  refine gs_call (as := [.ref s0, .int s1, .int s2]) (rest := []) cd_163_113 rfl (by decide) rfl (sm_rv_ok (by decide) ht) (Nat.le_of_ble_eq_true rfl) (Nat.le_of_ble_eq_true rfl) rfl hcl ?_
  refine gs_0 (pc' := 119) (L' := [some (.ref l0), some (.int l1), some (.int l2), some (.int l3), some (.int l4), some (.int (l5 + 1))]) (st' := []) cd_163_116 rfl rfl ?_
  obtain ⟨x_4, hx, h⟩ := lt_s_ h
  rw [hx]
  clear hx
  refine gs_0 (pc' := 65) (L' := [some (.ref l0), some (.int l1), some (.int l2), some (.int l3), some (.int l4), some (.int x_4)]) (st' := []) cd_163_119 rfl rfl ?_
  exact hr65 l0 l1 l2 l3 l4 x_4 _ _ _ _ h
noncomputable def f_163_65 (K : Nat → Value) (k : Nat) (d : Nat) : Nat → Int32 → Int32 → Int32 → Int32 → Int32 → aW → aI → aJ → Option aR :=
  match k with
  | 0 => fun _ _ _ _ _ _ _ _ _ => none
  | k + 1 => fun l0 l1 l2 l3 l4 l5 w I J =>
  lt_ (f_163_65 K k d) fun r65 =>
  gO w 0 l0 (
  gV w l0 0 fun q_1 =>
  gO w 1 q_1 (
  cI (Cl K d 52 [.ref q_1, .int l1, .int 2] w I J) fun x_5 w_2 I_3 J_4 =>
  if x_5 ≤ l5 then
    gO w_2 0 l0 (
    cV (Cl K d 144 [.ref l0, .int 4, .int (l2 + 1)] w_2 I_3 J_4) fun w_6 I_7 J_8 =>
    some (some (.int 0), w_6, I_7, J_8))
  else
    if l3 ≤ l5 then
      f_163_113 K k d r65 l0 l1 l2 l3 l4 l5 l0 ((l4 + 2) + l5) 0 w_2 I_3 J_4
    else
      gO w_2 0 l0 (
      gV w_2 l0 1 fun q_9 =>
      gA w_2 10 20 q_9 3 (
      gO w_2 0 l0 (
      cI (Cl K d 147 [.ref l0, .int ((7 + (I_3 q_9 (3 : Int32).toNatClampNeg)) + l5)] w_2 I_3 J_4) fun x_13 w_10 I_11 J_12 =>
      f_163_113 K k d r65 l0 l1 l2 l3 l4 l5 l0 ((l4 + 2) + l5) x_13 w_10 I_11 J_12)))))
theorem ok_163_65 {K : Nat → Value} {d : Nat} : ∀ {k : Nat} {l0 : Nat} {l1 : Int32} {l2 : Int32} {l3 : Int32} {l4 : Int32} {l5 : Int32} {w : aW} {I : aI} {J : aJ} {R : aR}, f_163_65 K k d l0 l1 l2 l3 l4 l5 w I J = some R → Go K (d + 1) 163 65 [some (.ref l0), some (.int l1), some (.int l2), some (.int l3), some (.int l4), some (.int l5)] [] w I J R := by
  intro k
  induction k with
  | zero => intro l0 l1 l2 l3 l4 l5 w I J R h; cases h
  | succ k ih =>
    intro l0 l1 l2 l3 l4 l5 w I J R h
    have hr65 : ∀ (l0 : Nat) (l1 : Int32) (l2 : Int32) (l3 : Int32) (l4 : Int32) (l5 : Int32) (w : aW) (I : aI) (J : aJ) (R : aR), f_163_65 K k d l0 l1 l2 l3 l4 l5 w I J = some R → Go K (d + 1) 163 65 [some (.ref l0), some (.int l1), some (.int l2), some (.int l3), some (.int l4), some (.int l5)] [] w I J R := fun l0 l1 l2 l3 l4 l5 w I J R h => ih h
    rw [f_163_65] at h
    obtain ⟨r65, hx, h⟩ := lt_s_ h
    rw [hx] at hr65
    clear hx ih
    refine gs_0 (pc' := 67) (L' := [some (.ref l0), some (.int l1), some (.int l2), some (.int l3), some (.int l4), some (.int l5)]) (st' := [.int l5]) cd_163_65 rfl rfl ?_
    refine gs_0 (pc' := 68) (L' := [some (.ref l0), some (.int l1), some (.int l2), some (.int l3), some (.int l4), some (.int l5)]) (st' := [.ref l0, .int l5]) cd_163_67 rfl rfl ?_
    obtain ⟨ht, h⟩ := gO_s h
    obtain ⟨q_1, hv, h⟩ := gV_s h
    refine gs_gfR cd_163_68 (by decide) ht hv ?_
    refine gs_0 (pc' := 72) (L' := [some (.ref l0), some (.int l1), some (.int l2), some (.int l3), some (.int l4), some (.int l5)]) (st' := [.int l1, .ref q_1, .int l5]) cd_163_71 rfl rfl ?_
    refine gs_0 (pc' := 73) (L' := [some (.ref l0), some (.int l1), some (.int l2), some (.int l3), some (.int l4), some (.int l5)]) (st' := [.int 2, .int l1, .ref q_1, .int l5]) cd_163_72 rfl rfl ?_
    obtain ⟨ht, h⟩ := gO_s h
    obtain ⟨x_5, w_2, I_3, J_4, hcl, h⟩ := cI_s h
    refine gs_call (as := [.ref q_1, .int l1, .int 2]) (rest := [.int l5]) cd_163_73 rfl (by decide) rfl (sm_rv_ok (by decide) ht) (Nat.le_of_ble_eq_true rfl) (Nat.le_of_ble_eq_true rfl) rfl hcl ?_
    refine gs_0 (pc' := if x_5 ≤ l5 then 122 else 79) (L' := [some (.ref l0), some (.int l1), some (.int l2), some (.int l3), some (.int l4), some (.int l5)]) (st' := []) cd_163_76 rfl rfl ?_
    refine go_ite (fun hc => ?_) (fun hc => ?_)
    · rw [if_pos hc] at h
      refine gs_0 (pc' := 123) (L' := [some (.ref l0), some (.int l1), some (.int l2), some (.int l3), some (.int l4), some (.int l5)]) (st' := [.ref l0]) cd_163_122 rfl rfl ?_
      refine gs_0 (pc' := 124) (L' := [some (.ref l0), some (.int l1), some (.int l2), some (.int l3), some (.int l4), some (.int l5)]) (st' := [.int 4, .ref l0]) cd_163_123 rfl rfl ?_
      refine gs_0 (pc' := 125) (L' := [some (.ref l0), some (.int l1), some (.int l2), some (.int l3), some (.int l4), some (.int l5)]) (st' := [.int l2, .int 4, .ref l0]) cd_163_124 rfl rfl ?_
      refine gs_0 (pc' := 126) (L' := [some (.ref l0), some (.int l1), some (.int l2), some (.int l3), some (.int l4), some (.int l5)]) (st' := [.int 1, .int l2, .int 4, .ref l0]) cd_163_125 rfl rfl ?_
      refine gs_0 (pc' := 127) (L' := [some (.ref l0), some (.int l1), some (.int l2), some (.int l3), some (.int l4), some (.int l5)]) (st' := [.int (l2 + 1), .int 4, .ref l0]) cd_163_126 rfl rfl ?_
      obtain ⟨ht, h⟩ := gO_s h
      obtain ⟨w_6, I_7, J_8, hcl, h⟩ := cV_s h
      refine gs_call (as := [.ref l0, .int 4, .int (l2 + 1)]) (rest := []) cd_163_127 rfl (by decide) rfl (sm_rv_ok (by decide) ht) (Nat.le_of_ble_eq_true rfl) (Nat.le_of_ble_eq_true rfl) rfl hcl ?_
      refine gs_0 (pc' := 131) (L' := [some (.ref l0), some (.int l1), some (.int l2), some (.int l3), some (.int l4), some (.int l5)]) (st' := [.int 0]) cd_163_130 rfl rfl ?_
      cases h
      exact gs_ri cd_163_131 (Or.inl rfl)
    · rw [if_neg hc] at h
      refine gs_0 (pc' := 80) (L' := [some (.ref l0), some (.int l1), some (.int l2), some (.int l3), some (.int l4), some (.int l5)]) (st' := [.ref l0]) cd_163_79 rfl rfl ?_
      refine gs_0 (pc' := 82) (L' := [some (.ref l0), some (.int l1), some (.int l2), some (.int l3), some (.int l4), some (.int l5)]) (st' := [.int l4, .ref l0]) cd_163_80 rfl rfl ?_
      refine gs_0 (pc' := 83) (L' := [some (.ref l0), some (.int l1), some (.int l2), some (.int l3), some (.int l4), some (.int l5)]) (st' := [.int 2, .int l4, .ref l0]) cd_163_82 rfl rfl ?_
      refine gs_0 (pc' := 84) (L' := [some (.ref l0), some (.int l1), some (.int l2), some (.int l3), some (.int l4), some (.int l5)]) (st' := [.int (l4 + 2), .ref l0]) cd_163_83 rfl rfl ?_
      refine gs_0 (pc' := 86) (L' := [some (.ref l0), some (.int l1), some (.int l2), some (.int l3), some (.int l4), some (.int l5)]) (st' := [.int l5, .int (l4 + 2), .ref l0]) cd_163_84 rfl rfl ?_
      refine gs_0 (pc' := 87) (L' := [some (.ref l0), some (.int l1), some (.int l2), some (.int l3), some (.int l4), some (.int l5)]) (st' := [.int ((l4 + 2) + l5), .ref l0]) cd_163_86 rfl rfl ?_
      refine gs_0 (pc' := 89) (L' := [some (.ref l0), some (.int l1), some (.int l2), some (.int l3), some (.int l4), some (.int l5)]) (st' := [.int l5, .int ((l4 + 2) + l5), .ref l0]) cd_163_87 rfl rfl ?_
      refine gs_0 (pc' := 90) (L' := [some (.ref l0), some (.int l1), some (.int l2), some (.int l3), some (.int l4), some (.int l5)]) (st' := [.int l3, .int l5, .int ((l4 + 2) + l5), .ref l0]) cd_163_89 rfl rfl ?_
      refine gs_0 (pc' := if l3 ≤ l5 then 112 else 93) (L' := [some (.ref l0), some (.int l1), some (.int l2), some (.int l3), some (.int l4), some (.int l5)]) (st' := [.int ((l4 + 2) + l5), .ref l0]) cd_163_90 rfl rfl ?_
      refine go_ite (fun hc => ?_) (fun hc => ?_)
      · rw [if_pos hc] at h
        refine gs_0 (pc' := 113) (L' := [some (.ref l0), some (.int l1), some (.int l2), some (.int l3), some (.int l4), some (.int l5)]) (st' := [.int 0, .int ((l4 + 2) + l5), .ref l0]) cd_163_112 rfl rfl ?_
        exact ok_163_113 hr65 h
      · rw [if_neg hc] at h
        refine gs_0 (pc' := 94) (L' := [some (.ref l0), some (.int l1), some (.int l2), some (.int l3), some (.int l4), some (.int l5)]) (st' := [.ref l0, .int ((l4 + 2) + l5), .ref l0]) cd_163_93 rfl rfl ?_
        refine gs_0 (pc' := 96) (L' := [some (.ref l0), some (.int l1), some (.int l2), some (.int l3), some (.int l4), some (.int l5)]) (st' := [.int 7, .ref l0, .int ((l4 + 2) + l5), .ref l0]) cd_163_94 rfl rfl ?_
        refine gs_0 (pc' := 97) (L' := [some (.ref l0), some (.int l1), some (.int l2), some (.int l3), some (.int l4), some (.int l5)]) (st' := [.ref l0, .int 7, .ref l0, .int ((l4 + 2) + l5), .ref l0]) cd_163_96 rfl rfl ?_
        obtain ⟨ht, h⟩ := gO_s h
        obtain ⟨q_9, hv, h⟩ := gV_s h
        refine gs_gfR cd_163_97 (by decide) ht hv ?_
        refine gs_0 (pc' := 101) (L' := [some (.ref l0), some (.int l1), some (.int l2), some (.int l3), some (.int l4), some (.int l5)]) (st' := [.int 3, .ref q_9, .int 7, .ref l0, .int ((l4 + 2) + l5), .ref l0]) cd_163_100 rfl rfl ?_
        obtain ⟨ht, h⟩ := gA_s h
        refine gs_iald cd_163_101 ht ?_
        refine gs_0 (pc' := 103) (L' := [some (.ref l0), some (.int l1), some (.int l2), some (.int l3), some (.int l4), some (.int l5)]) (st' := [.int (7 + (I_3 q_9 (3 : Int32).toNatClampNeg)), .ref l0, .int ((l4 + 2) + l5), .ref l0]) cd_163_102 rfl rfl ?_
        refine gs_0 (pc' := 105) (L' := [some (.ref l0), some (.int l1), some (.int l2), some (.int l3), some (.int l4), some (.int l5)]) (st' := [.int l5, .int (7 + (I_3 q_9 (3 : Int32).toNatClampNeg)), .ref l0, .int ((l4 + 2) + l5), .ref l0]) cd_163_103 rfl rfl ?_
        refine gs_0 (pc' := 106) (L' := [some (.ref l0), some (.int l1), some (.int l2), some (.int l3), some (.int l4), some (.int l5)]) (st' := [.int ((7 + (I_3 q_9 (3 : Int32).toNatClampNeg)) + l5), .ref l0, .int ((l4 + 2) + l5), .ref l0]) cd_163_105 rfl rfl ?_
        obtain ⟨ht, h⟩ := gO_s h
        obtain ⟨x_13, w_10, I_11, J_12, hcl, h⟩ := cI_s h
        refine gs_call (as := [.ref l0, .int ((7 + (I_3 q_9 (3 : Int32).toNatClampNeg)) + l5)]) (rest := [.int ((l4 + 2) + l5), .ref l0]) cd_163_106 rfl (by decide) rfl (sm_rv_ok (by decide) ht) (Nat.le_of_ble_eq_true rfl) (Nat.le_of_ble_eq_true rfl) rfl hcl ?_
        refine gs_0 (pc' := 113) (L' := [some (.ref l0), some (.int l1), some (.int l2), some (.int l3), some (.int l4), some (.int l5)]) (st' := [.int x_13, .int ((l4 + 2) + l5), .ref l0]) cd_163_109 rfl rfl ?_
        exact ok_163_113 hr65 h
noncomputable def f_163 (K : Nat → Value) (k d : Nat) (l0 : Nat) (l1 : Int32) (w : aW) (I : aI) (J : aJ) : Option aR :=
  gO w 0 l0 (
  gV w l0 1 fun q_1 =>
  gA w 10 20 q_1 4 (
  lt_ (I q_1 (4 : Int32).toNatClampNeg) fun x_2 =>
  if x_2 < 8 then
    gO w 0 l0 (
    gV w l0 0 fun q_3 =>
    gO w 1 q_3 (
    cI (Cl K d 52 [.ref q_3, .int l1, .int 1] w I J) fun x_7 w_4 I_5 J_6 =>
    gO w_4 0 l0 (
    cI (Cl K d 164 [.ref l0, .int x_7] w_4 I_5 J_6) fun x_11 w_8 I_9 J_10 =>
    cI (Cl K d 146 [.int x_2] w_8 I_9 J_10) fun x_15 w_12 I_13 J_14 =>
    gO w_12 0 l0 (
    cV (Cl K d 144 [.ref l0, .int x_15, .int l1] w_12 I_13 J_14) fun w_16 I_17 J_18 =>
    gO w_16 0 l0 (
    gV w_16 l0 0 fun q_19 =>
    gO w_16 1 q_19 (
    cI (Cl K d 52 [.ref q_19, .int l1, .int 0] w_16 I_17 J_18) fun x_23 w_20 I_21 J_22 =>
    gO w_20 0 l0 (
    cV (Cl K d 144 [.ref l0, .int (x_15 + 1), .int x_23] w_20 I_21 J_22) fun w_24 I_25 J_26 =>
    f_163_65 K k d l0 l1 x_2 x_7 x_15 0 w_24 I_25 J_26)))))))
  else
    some (some (.int 7), w, I, J)))
theorem ok_163 {K : Nat → Value} {k d : Nat} {l0 : Nat} {l1 : Int32} {w : aW} {I : aI} {J : aJ} {R : aR} (h : f_163 K k d l0 l1 w I J = some R) : Go K (d + 1) 163 0 [some (.ref l0), some (.int l1), none, none, none, none] [] w I J R := by
  unfold f_163 at h
  refine gs_0 (pc' := 1) (L' := [some (.ref l0), some (.int l1), none, none, none, none]) (st' := [.ref l0]) cd_163_0 rfl rfl ?_
  obtain ⟨ht, h⟩ := gO_s h
  obtain ⟨q_1, hv, h⟩ := gV_s h
  refine gs_gfR cd_163_1 (by decide) ht hv ?_
  refine gs_0 (pc' := 5) (L' := [some (.ref l0), some (.int l1), none, none, none, none]) (st' := [.int 4, .ref q_1]) cd_163_4 rfl rfl ?_
  obtain ⟨ht, h⟩ := gA_s h
  refine gs_iald cd_163_5 ht ?_
  refine gs_0 (pc' := 7) (L' := [some (.ref l0), some (.int l1), some (.int (I q_1 (4 : Int32).toNatClampNeg)), none, none, none]) (st' := []) cd_163_6 rfl rfl ?_
  obtain ⟨x_2, hx, h⟩ := lt_s_ h
  rw [hx]
  clear hx
  refine gs_0 (pc' := 8) (L' := [some (.ref l0), some (.int l1), some (.int x_2), none, none, none]) (st' := [.int x_2]) cd_163_7 rfl rfl ?_
  refine gs_0 (pc' := 10) (L' := [some (.ref l0), some (.int l1), some (.int x_2), none, none, none]) (st' := [.int 8, .int x_2]) cd_163_8 rfl rfl ?_
  refine gs_0 (pc' := if x_2 < 8 then 16 else 13) (L' := [some (.ref l0), some (.int l1), some (.int x_2), none, none, none]) (st' := []) cd_163_10 rfl rfl ?_
  refine go_ite (fun hc => ?_) (fun hc => ?_)
  · rw [if_pos hc] at h
    refine gs_0 (pc' := 17) (L' := [some (.ref l0), some (.int l1), some (.int x_2), none, none, none]) (st' := [.ref l0]) cd_163_16 rfl rfl ?_
    obtain ⟨ht, h⟩ := gO_s h
    obtain ⟨q_3, hv, h⟩ := gV_s h
    refine gs_gfR cd_163_17 (by decide) ht hv ?_
    refine gs_0 (pc' := 21) (L' := [some (.ref l0), some (.int l1), some (.int x_2), none, none, none]) (st' := [.int l1, .ref q_3]) cd_163_20 rfl rfl ?_
    refine gs_0 (pc' := 22) (L' := [some (.ref l0), some (.int l1), some (.int x_2), none, none, none]) (st' := [.int 1, .int l1, .ref q_3]) cd_163_21 rfl rfl ?_
    obtain ⟨ht, h⟩ := gO_s h
    obtain ⟨x_7, w_4, I_5, J_6, hcl, h⟩ := cI_s h
    refine gs_call (as := [.ref q_3, .int l1, .int 1]) (rest := []) cd_163_22 rfl (by decide) rfl (sm_rv_ok (by decide) ht) (Nat.le_of_ble_eq_true rfl) (Nat.le_of_ble_eq_true rfl) rfl hcl ?_
    refine gs_0 (pc' := 26) (L' := [some (.ref l0), some (.int l1), some (.int x_2), some (.int x_7), none, none]) (st' := []) cd_163_25 rfl rfl ?_
    refine gs_0 (pc' := 27) (L' := [some (.ref l0), some (.int l1), some (.int x_2), some (.int x_7), none, none]) (st' := [.ref l0]) cd_163_26 rfl rfl ?_
    refine gs_0 (pc' := 28) (L' := [some (.ref l0), some (.int l1), some (.int x_2), some (.int x_7), none, none]) (st' := [.int x_7, .ref l0]) cd_163_27 rfl rfl ?_
    obtain ⟨ht, h⟩ := gO_s h
    obtain ⟨x_11, w_8, I_9, J_10, hcl, h⟩ := cI_s h
    refine gs_call (as := [.ref l0, .int x_7]) (rest := []) cd_163_28 rfl (by decide) rfl (sm_rv_ok (by decide) ht) (Nat.le_of_ble_eq_true rfl) (Nat.le_of_ble_eq_true rfl) rfl hcl ?_
    refine gs_0 (pc' := 32) (L' := [some (.ref l0), some (.int l1), some (.int x_2), some (.int x_7), none, none]) (st' := []) cd_163_31 rfl rfl ?_
    refine gs_0 (pc' := 33) (L' := [some (.ref l0), some (.int l1), some (.int x_2), some (.int x_7), none, none]) (st' := [.int x_2]) cd_163_32 rfl rfl ?_
    obtain ⟨x_15, w_12, I_13, J_14, hcl, h⟩ := cI_s h
    refine gs_call (as := [.int x_2]) (rest := []) cd_163_33 rfl (by decide) rfl rfl (Nat.le_of_ble_eq_true rfl) (Nat.le_of_ble_eq_true rfl) rfl hcl ?_
    refine gs_0 (pc' := 38) (L' := [some (.ref l0), some (.int l1), some (.int x_2), some (.int x_7), some (.int x_15), none]) (st' := []) cd_163_36 rfl rfl ?_
    refine gs_0 (pc' := 39) (L' := [some (.ref l0), some (.int l1), some (.int x_2), some (.int x_7), some (.int x_15), none]) (st' := [.ref l0]) cd_163_38 rfl rfl ?_
    refine gs_0 (pc' := 41) (L' := [some (.ref l0), some (.int l1), some (.int x_2), some (.int x_7), some (.int x_15), none]) (st' := [.int x_15, .ref l0]) cd_163_39 rfl rfl ?_
    refine gs_0 (pc' := 42) (L' := [some (.ref l0), some (.int l1), some (.int x_2), some (.int x_7), some (.int x_15), none]) (st' := [.int l1, .int x_15, .ref l0]) cd_163_41 rfl rfl ?_
    obtain ⟨ht, h⟩ := gO_s h
    obtain ⟨w_16, I_17, J_18, hcl, h⟩ := cV_s h
    refine gs_call (as := [.ref l0, .int x_15, .int l1]) (rest := []) cd_163_42 rfl (by decide) rfl (sm_rv_ok (by decide) ht) (Nat.le_of_ble_eq_true rfl) (Nat.le_of_ble_eq_true rfl) rfl hcl ?_
    refine gs_0 (pc' := 46) (L' := [some (.ref l0), some (.int l1), some (.int x_2), some (.int x_7), some (.int x_15), none]) (st' := [.ref l0]) cd_163_45 rfl rfl ?_
    refine gs_0 (pc' := 48) (L' := [some (.ref l0), some (.int l1), some (.int x_2), some (.int x_7), some (.int x_15), none]) (st' := [.int x_15, .ref l0]) cd_163_46 rfl rfl ?_
    refine gs_0 (pc' := 49) (L' := [some (.ref l0), some (.int l1), some (.int x_2), some (.int x_7), some (.int x_15), none]) (st' := [.int 1, .int x_15, .ref l0]) cd_163_48 rfl rfl ?_
    refine gs_0 (pc' := 50) (L' := [some (.ref l0), some (.int l1), some (.int x_2), some (.int x_7), some (.int x_15), none]) (st' := [.int (x_15 + 1), .ref l0]) cd_163_49 rfl rfl ?_
    refine gs_0 (pc' := 51) (L' := [some (.ref l0), some (.int l1), some (.int x_2), some (.int x_7), some (.int x_15), none]) (st' := [.ref l0, .int (x_15 + 1), .ref l0]) cd_163_50 rfl rfl ?_
    obtain ⟨ht, h⟩ := gO_s h
    obtain ⟨q_19, hv, h⟩ := gV_s h
    refine gs_gfR cd_163_51 (by decide) ht hv ?_
    refine gs_0 (pc' := 55) (L' := [some (.ref l0), some (.int l1), some (.int x_2), some (.int x_7), some (.int x_15), none]) (st' := [.int l1, .ref q_19, .int (x_15 + 1), .ref l0]) cd_163_54 rfl rfl ?_
    refine gs_0 (pc' := 56) (L' := [some (.ref l0), some (.int l1), some (.int x_2), some (.int x_7), some (.int x_15), none]) (st' := [.int 0, .int l1, .ref q_19, .int (x_15 + 1), .ref l0]) cd_163_55 rfl rfl ?_
    obtain ⟨ht, h⟩ := gO_s h
    obtain ⟨x_23, w_20, I_21, J_22, hcl, h⟩ := cI_s h
    refine gs_call (as := [.ref q_19, .int l1, .int 0]) (rest := [.int (x_15 + 1), .ref l0]) cd_163_56 rfl (by decide) rfl (sm_rv_ok (by decide) ht) (Nat.le_of_ble_eq_true rfl) (Nat.le_of_ble_eq_true rfl) rfl hcl ?_
    obtain ⟨ht, h⟩ := gO_s h
    obtain ⟨w_24, I_25, J_26, hcl, h⟩ := cV_s h
    refine gs_call (as := [.ref l0, .int (x_15 + 1), .int x_23]) (rest := []) cd_163_59 rfl (by decide) rfl (sm_rv_ok (by decide) ht) (Nat.le_of_ble_eq_true rfl) (Nat.le_of_ble_eq_true rfl) rfl hcl ?_
    refine gs_0 (pc' := 63) (L' := [some (.ref l0), some (.int l1), some (.int x_2), some (.int x_7), some (.int x_15), none]) (st' := [.int 0]) cd_163_62 rfl rfl ?_
    refine gs_0 (pc' := 65) (L' := [some (.ref l0), some (.int l1), some (.int x_2), some (.int x_7), some (.int x_15), some (.int 0)]) (st' := []) cd_163_63 rfl rfl ?_
    exact ok_163_65 h
  · rw [if_neg hc] at h
    refine gs_0 (pc' := 15) (L' := [some (.ref l0), some (.int l1), some (.int x_2), none, none, none]) (st' := [.int 7]) cd_163_13 rfl rfl ?_
    cases h
    exact gs_ri cd_163_15 (Or.inl rfl)
theorem cl_163 {K : Nat → Value} {k d : Nat} {l0 : Nat} {l1 : Int32} {w : aW} {I : aI} {J : aJ} {R : aR} (h : f_163 K k d l0 l1 w I J = some R) : Cl K (d + 1) 163 [.ref l0, .int l1] w I J = some R := Cl_of (ok_163 h)
/-! ProvedMachine$Machine.drop(I)I -/
set_option maxRecDepth 20000 in
theorem gl_164 : gcd.lookup 164 = some gw_164 := rfl
theorem cd_164_0 : sm_cd 164 0 = some (.aload_n 0, 1, 0, 0, 0, 0, 0, 0, 0) := cd_of gl_164 rfl
theorem cd_164_1 : sm_cd 164 1 = some (.iconst 3, 1, 0, 0, 0, 0, 0, 3, 0) := cd_of gl_164 rfl
theorem cd_164_2 : sm_cd 164 2 = some (.aload_n 0, 1, 0, 0, 0, 0, 0, 0, 0) := cd_of gl_164 rfl
theorem cd_164_3 : sm_cd 164 3 = some (.getfield 13, 3, 0, 1, 2, 0, 0, 0, 0) := cd_of gl_164 rfl
theorem cd_164_6 : sm_cd 164 6 = some (.iconst 3, 1, 0, 0, 0, 0, 0, 3, 0) := cd_of gl_164 rfl
theorem cd_164_7 : sm_cd 164 7 = some (.iaload, 1, 0, 0, 0, 0, 0, 0, 0) := cd_of gl_164 rfl
theorem cd_164_8 : sm_cd 164 8 = some (.iload_n 1, 1, 1, 0, 0, 0, 0, 0, 0) := cd_of gl_164 rfl
theorem cd_164_9 : sm_cd 164 9 = some (.isub, 1, 0, 0, 0, 0, 0, 0, 0) := cd_of gl_164 rfl
theorem cd_164_10 : sm_cd 164 10 = some (.invokevirtual 60, 3, 144, 0, 2, 5, 0, 0, 0) := cd_of gl_164 rfl
theorem cd_164_13 : sm_cd 164 13 = some (.aload_n 0, 1, 0, 0, 0, 0, 0, 0, 0) := cd_of gl_164 rfl
theorem cd_164_14 : sm_cd 164 14 = some (.aload_n 0, 1, 0, 0, 0, 0, 0, 0, 0) := cd_of gl_164 rfl
theorem cd_164_15 : sm_cd 164 15 = some (.invokevirtual 64, 3, 145, 0, 0, 1, 0, 0, 0) := cd_of gl_164 rfl
theorem cd_164_18 : sm_cd 164 18 = some (.iconst 1, 1, 0, 0, 0, 0, 0, 1, 0) := cd_of gl_164 rfl
theorem cd_164_19 : sm_cd 164 19 = some (.iadd, 1, 0, 0, 0, 0, 0, 0, 0) := cd_of gl_164 rfl
theorem cd_164_20 : sm_cd 164 20 = some (.invokevirtual 138, 3, 162, 0, 1, 2, 0, 0, 0) := cd_of gl_164 rfl
theorem cd_164_23 : sm_cd 164 23 = some (.ireturn, 1, 0, 0, 1, 0, 0, 0, 0) := cd_of gl_164 rfl
noncomputable def f_164 (K : Nat → Value) (k d : Nat) (l0 : Nat) (l1 : Int32) (w : aW) (I : aI) (J : aJ) : Option aR :=
  gO w 0 l0 (
  gV w l0 1 fun q_1 =>
  gA w 10 20 q_1 3 (
  gO w 0 l0 (
  cV (Cl K d 144 [.ref l0, .int 3, .int ((I q_1 (3 : Int32).toNatClampNeg) - l1)] w I J) fun w_2 I_3 J_4 =>
  gO w_2 0 l0 (
  cI (Cl K d 145 [.ref l0] w_2 I_3 J_4) fun x_8 w_5 I_6 J_7 =>
  gO w_5 0 l0 (
  cI (Cl K d 162 [.ref l0, .int (x_8 + 1)] w_5 I_6 J_7) fun x_12 w_9 I_10 J_11 =>
  some (some (.int x_12), w_9, I_10, J_11))))))
theorem ok_164 {K : Nat → Value} {k d : Nat} {l0 : Nat} {l1 : Int32} {w : aW} {I : aI} {J : aJ} {R : aR} (h : f_164 K k d l0 l1 w I J = some R) : Go K (d + 1) 164 0 [some (.ref l0), some (.int l1)] [] w I J R := by
  unfold f_164 at h
  refine gs_0 (pc' := 1) (L' := [some (.ref l0), some (.int l1)]) (st' := [.ref l0]) cd_164_0 rfl rfl ?_
  refine gs_0 (pc' := 2) (L' := [some (.ref l0), some (.int l1)]) (st' := [.int 3, .ref l0]) cd_164_1 rfl rfl ?_
  refine gs_0 (pc' := 3) (L' := [some (.ref l0), some (.int l1)]) (st' := [.ref l0, .int 3, .ref l0]) cd_164_2 rfl rfl ?_
  obtain ⟨ht, h⟩ := gO_s h
  obtain ⟨q_1, hv, h⟩ := gV_s h
  refine gs_gfR cd_164_3 (by decide) ht hv ?_
  refine gs_0 (pc' := 7) (L' := [some (.ref l0), some (.int l1)]) (st' := [.int 3, .ref q_1, .int 3, .ref l0]) cd_164_6 rfl rfl ?_
  obtain ⟨ht, h⟩ := gA_s h
  refine gs_iald cd_164_7 ht ?_
  refine gs_0 (pc' := 9) (L' := [some (.ref l0), some (.int l1)]) (st' := [.int l1, .int (I q_1 (3 : Int32).toNatClampNeg), .int 3, .ref l0]) cd_164_8 rfl rfl ?_
  refine gs_0 (pc' := 10) (L' := [some (.ref l0), some (.int l1)]) (st' := [.int ((I q_1 (3 : Int32).toNatClampNeg) - l1), .int 3, .ref l0]) cd_164_9 rfl rfl ?_
  obtain ⟨ht, h⟩ := gO_s h
  obtain ⟨w_2, I_3, J_4, hcl, h⟩ := cV_s h
  refine gs_call (as := [.ref l0, .int 3, .int ((I q_1 (3 : Int32).toNatClampNeg) - l1)]) (rest := []) cd_164_10 rfl (by decide) rfl (sm_rv_ok (by decide) ht) (Nat.le_of_ble_eq_true rfl) (Nat.le_of_ble_eq_true rfl) rfl hcl ?_
  refine gs_0 (pc' := 14) (L' := [some (.ref l0), some (.int l1)]) (st' := [.ref l0]) cd_164_13 rfl rfl ?_
  refine gs_0 (pc' := 15) (L' := [some (.ref l0), some (.int l1)]) (st' := [.ref l0, .ref l0]) cd_164_14 rfl rfl ?_
  obtain ⟨ht, h⟩ := gO_s h
  obtain ⟨x_8, w_5, I_6, J_7, hcl, h⟩ := cI_s h
  refine gs_call (as := [.ref l0]) (rest := [.ref l0]) cd_164_15 rfl (by decide) rfl (sm_rv_ok (by decide) ht) (Nat.le_of_ble_eq_true rfl) (Nat.le_of_ble_eq_true rfl) rfl hcl ?_
  refine gs_0 (pc' := 19) (L' := [some (.ref l0), some (.int l1)]) (st' := [.int 1, .int x_8, .ref l0]) cd_164_18 rfl rfl ?_
  refine gs_0 (pc' := 20) (L' := [some (.ref l0), some (.int l1)]) (st' := [.int (x_8 + 1), .ref l0]) cd_164_19 rfl rfl ?_
  obtain ⟨ht, h⟩ := gO_s h
  obtain ⟨x_12, w_9, I_10, J_11, hcl, h⟩ := cI_s h
  refine gs_call (as := [.ref l0, .int (x_8 + 1)]) (rest := []) cd_164_20 rfl (by decide) rfl (sm_rv_ok (by decide) ht) (Nat.le_of_ble_eq_true rfl) (Nat.le_of_ble_eq_true rfl) rfl hcl ?_
  cases h
  exact gs_ri cd_164_23 (Or.inl rfl)
theorem cl_164 {K : Nat → Value} {k d : Nat} {l0 : Nat} {l1 : Int32} {w : aW} {I : aI} {J : aJ} {R : aR} (h : f_164 K k d l0 l1 w I J = some R) : Cl K (d + 1) 164 [.ref l0, .int l1] w I J = some R := Cl_of (ok_164 h)
/-! ProvedMachine$Machine.makeRow()I -/
set_option maxRecDepth 20000 in
theorem gl_165 : gcd.lookup 165 = some gw_165 := rfl
theorem cd_165_0 : sm_cd 165 0 = some (.aload_n 0, 1, 0, 0, 0, 0, 0, 0, 0) := cd_of gl_165 rfl
theorem cd_165_1 : sm_cd 165 1 = some (.iconst 1, 1, 0, 0, 0, 0, 0, 1, 0) := cd_of gl_165 rfl
theorem cd_165_2 : sm_cd 165 2 = some (.invokevirtual 88, 3, 149, 0, 1, 2, 0, 0, 0) := cd_of gl_165 rfl
theorem cd_165_5 : sm_cd 165 5 = some (.istore_n 1, 1, 1, 0, 0, 0, 0, 0, 0) := cd_of gl_165 rfl
theorem cd_165_6 : sm_cd 165 6 = some (.iload_n 1, 1, 1, 0, 0, 0, 0, 0, 0) := cd_of gl_165 rfl
theorem cd_165_7 : sm_cd 165 7 = some (.invokestatic 164, 3, 150, 1, 1, 1, 0, 0, 0) := cd_of gl_165 rfl
theorem cd_165_10 : sm_cd 165 10 = some (.ifCond .ne 5, 3, 15, 0, 0, 0, 0, 0, 0) := cd_of gl_165 rfl
theorem cd_165_13 : sm_cd 165 13 = some (.iconst 5, 1, 0, 0, 0, 0, 0, 5, 0) := cd_of gl_165 rfl
theorem cd_165_14 : sm_cd 165 14 = some (.ireturn, 1, 0, 0, 1, 0, 0, 0, 0) := cd_of gl_165 rfl
theorem cd_165_15 : sm_cd 165 15 = some (.aload_n 0, 1, 0, 0, 0, 0, 0, 0, 0) := cd_of gl_165 rfl
theorem cd_165_16 : sm_cd 165 16 = some (.invokevirtual 76, 3, 151, 0, 0, 2, 0, 0, 0) := cd_of gl_165 rfl
theorem cd_165_19 : sm_cd 165 19 = some (.istore_n 2, 1, 2, 0, 0, 0, 0, 0, 0) := cd_of gl_165 rfl
theorem cd_165_20 : sm_cd 165 20 = some (.iload_n 2, 1, 2, 0, 0, 0, 0, 0, 0) := cd_of gl_165 rfl
theorem cd_165_21 : sm_cd 165 21 = some (.ifCond .ne 6, 3, 27, 0, 0, 0, 0, 0, 0) := cd_of gl_165 rfl
theorem cd_165_24 : sm_cd 165 24 = some (.bipush 6, 2, 0, 0, 0, 0, 0, 6, 0) := cd_of gl_165 rfl
theorem cd_165_26 : sm_cd 165 26 = some (.ireturn, 1, 0, 0, 1, 0, 0, 0, 0) := cd_of gl_165 rfl
theorem cd_165_27 : sm_cd 165 27 = some (.aload_n 0, 1, 0, 0, 0, 0, 0, 0, 0) := cd_of gl_165 rfl
theorem cd_165_28 : sm_cd 165 28 = some (.iload_n 2, 1, 2, 0, 0, 0, 0, 0, 0) := cd_of gl_165 rfl
theorem cd_165_29 : sm_cd 165 29 = some (.invokestatic 111, 3, 152, 1, 1, 1, 0, 0, 0) := cd_of gl_165 rfl
theorem cd_165_32 : sm_cd 165 32 = some (.iconst 1, 1, 0, 0, 0, 0, 0, 1, 0) := cd_of gl_165 rfl
theorem cd_165_33 : sm_cd 165 33 = some (.invokevirtual 60, 3, 144, 0, 2, 5, 0, 0, 0) := cd_of gl_165 rfl
theorem cd_165_36 : sm_cd 165 36 = some (.aload_n 0, 1, 0, 0, 0, 0, 0, 0, 0) := cd_of gl_165 rfl
theorem cd_165_37 : sm_cd 165 37 = some (.iload_n 2, 1, 2, 0, 0, 0, 0, 0, 0) := cd_of gl_165 rfl
theorem cd_165_38 : sm_cd 165 38 = some (.invokestatic 111, 3, 152, 1, 1, 1, 0, 0, 0) := cd_of gl_165 rfl
theorem cd_165_41 : sm_cd 165 41 = some (.iconst 1, 1, 0, 0, 0, 0, 0, 1, 0) := cd_of gl_165 rfl
theorem cd_165_42 : sm_cd 165 42 = some (.iadd, 1, 0, 0, 0, 0, 0, 0, 0) := cd_of gl_165 rfl
theorem cd_165_43 : sm_cd 165 43 = some (.iload_n 1, 1, 1, 0, 0, 0, 0, 0, 0) := cd_of gl_165 rfl
theorem cd_165_44 : sm_cd 165 44 = some (.invokevirtual 60, 3, 144, 0, 2, 5, 0, 0, 0) := cd_of gl_165 rfl
theorem cd_165_47 : sm_cd 165 47 = some (.iconst 0, 1, 0, 0, 0, 0, 0, 0, 0) := cd_of gl_165 rfl
theorem cd_165_48 : sm_cd 165 48 = some (.istore_n 3, 1, 3, 0, 0, 0, 0, 0, 0) := cd_of gl_165 rfl
theorem cd_165_49 : sm_cd 165 49 = some (.iload_n 3, 1, 3, 0, 0, 0, 0, 0, 0) := cd_of gl_165 rfl
theorem cd_165_50 : sm_cd 165 50 = some (.iload_n 1, 1, 1, 0, 0, 0, 0, 0, 0) := cd_of gl_165 rfl
theorem cd_165_51 : sm_cd 165 51 = some (.if_icmp .ge 22, 3, 73, 0, 0, 0, 0, 0, 0) := cd_of gl_165 rfl
theorem cd_165_54 : sm_cd 165 54 = some (.aload_n 0, 1, 0, 0, 0, 0, 0, 0, 0) := cd_of gl_165 rfl
theorem cd_165_55 : sm_cd 165 55 = some (.iload_n 2, 1, 2, 0, 0, 0, 0, 0, 0) := cd_of gl_165 rfl
theorem cd_165_56 : sm_cd 165 56 = some (.invokestatic 111, 3, 152, 1, 1, 1, 0, 0, 0) := cd_of gl_165 rfl
theorem cd_165_59 : sm_cd 165 59 = some (.iconst 2, 1, 0, 0, 0, 0, 0, 2, 0) := cd_of gl_165 rfl
theorem cd_165_60 : sm_cd 165 60 = some (.iadd, 1, 0, 0, 0, 0, 0, 0, 0) := cd_of gl_165 rfl
theorem cd_165_61 : sm_cd 165 61 = some (.iload_n 3, 1, 3, 0, 0, 0, 0, 0, 0) := cd_of gl_165 rfl
theorem cd_165_62 : sm_cd 165 62 = some (.iadd, 1, 0, 0, 0, 0, 0, 0, 0) := cd_of gl_165 rfl
theorem cd_165_63 : sm_cd 165 63 = some (.iconst 0, 1, 0, 0, 0, 0, 0, 0, 0) := cd_of gl_165 rfl
theorem cd_165_64 : sm_cd 165 64 = some (.invokevirtual 60, 3, 144, 0, 2, 5, 0, 0, 0) := cd_of gl_165 rfl
theorem cd_165_67 : sm_cd 165 67 = some (.iinc 3 1, 3, 3, 0, 0, 0, 0, 1, 0) := cd_of gl_165 rfl
theorem cd_165_70 : sm_cd 165 70 = some (.goto (-21), 3, 49, 0, 0, 0, 0, 0, 0) := cd_of gl_165 rfl
theorem cd_165_73 : sm_cd 165 73 = some (.aload_n 0, 1, 0, 0, 0, 0, 0, 0, 0) := cd_of gl_165 rfl
theorem cd_165_74 : sm_cd 165 74 = some (.iconst 1, 1, 0, 0, 0, 0, 0, 1, 0) := cd_of gl_165 rfl
theorem cd_165_75 : sm_cd 165 75 = some (.iload_n 2, 1, 2, 0, 0, 0, 0, 0, 0) := cd_of gl_165 rfl
theorem cd_165_76 : sm_cd 165 76 = some (.iconst 2, 1, 0, 0, 0, 0, 0, 2, 0) := cd_of gl_165 rfl
theorem cd_165_77 : sm_cd 165 77 = some (.invokevirtual 153, 3, 161, 0, 3, 5, 0, 0, 0) := cd_of gl_165 rfl
theorem cd_165_80 : sm_cd 165 80 = some (.ireturn, 1, 0, 0, 1, 0, 0, 0, 0) := cd_of gl_165 rfl
noncomputable def f_165_49 (K : Nat → Value) (k : Nat) (d : Nat) : Nat → Int32 → Int32 → Int32 → aW → aI → aJ → Option aR :=
  match k with
  | 0 => fun _ _ _ _ _ _ _ => none
  | k + 1 => fun l0 l1 l2 l3 w I J =>
  lt_ (f_165_49 K k d) fun r49 =>
  if l1 ≤ l3 then
    gO w 0 l0 (
    cI (Cl K d 161 [.ref l0, .int 1, .int l2, .int 2] w I J) fun x_4 w_1 I_2 J_3 =>
    some (some (.int x_4), w_1, I_2, J_3))
  else
    cI (Cl K d 152 [.int l2] w I J) fun x_8 w_5 I_6 J_7 =>
    gO w_5 0 l0 (
    cV (Cl K d 144 [.ref l0, .int ((x_8 + 2) + l3), .int 0] w_5 I_6 J_7) fun w_9 I_10 J_11 =>
    lt_ (l3 + 1) fun x_12 =>
    r49 l0 l1 l2 x_12 w_9 I_10 J_11)
theorem ok_165_49 {K : Nat → Value} {d : Nat} : ∀ {k : Nat} {l0 : Nat} {l1 : Int32} {l2 : Int32} {l3 : Int32} {w : aW} {I : aI} {J : aJ} {R : aR}, f_165_49 K k d l0 l1 l2 l3 w I J = some R → Go K (d + 1) 165 49 [some (.ref l0), some (.int l1), some (.int l2), some (.int l3)] [] w I J R := by
  intro k
  induction k with
  | zero => intro l0 l1 l2 l3 w I J R h; cases h
  | succ k ih =>
    intro l0 l1 l2 l3 w I J R h
    have hr49 : ∀ (l0 : Nat) (l1 : Int32) (l2 : Int32) (l3 : Int32) (w : aW) (I : aI) (J : aJ) (R : aR), f_165_49 K k d l0 l1 l2 l3 w I J = some R → Go K (d + 1) 165 49 [some (.ref l0), some (.int l1), some (.int l2), some (.int l3)] [] w I J R := fun l0 l1 l2 l3 w I J R h => ih h
    rw [f_165_49] at h
    obtain ⟨r49, hx, h⟩ := lt_s_ h
    rw [hx] at hr49
    clear hx ih
    refine gs_0 (pc' := 50) (L' := [some (.ref l0), some (.int l1), some (.int l2), some (.int l3)]) (st' := [.int l3]) cd_165_49 rfl rfl ?_
    refine gs_0 (pc' := 51) (L' := [some (.ref l0), some (.int l1), some (.int l2), some (.int l3)]) (st' := [.int l1, .int l3]) cd_165_50 rfl rfl ?_
    refine gs_0 (pc' := if l1 ≤ l3 then 73 else 54) (L' := [some (.ref l0), some (.int l1), some (.int l2), some (.int l3)]) (st' := []) cd_165_51 rfl rfl ?_
    refine go_ite (fun hc => ?_) (fun hc => ?_)
    · rw [if_pos hc] at h
      refine gs_0 (pc' := 74) (L' := [some (.ref l0), some (.int l1), some (.int l2), some (.int l3)]) (st' := [.ref l0]) cd_165_73 rfl rfl ?_
      refine gs_0 (pc' := 75) (L' := [some (.ref l0), some (.int l1), some (.int l2), some (.int l3)]) (st' := [.int 1, .ref l0]) cd_165_74 rfl rfl ?_
      refine gs_0 (pc' := 76) (L' := [some (.ref l0), some (.int l1), some (.int l2), some (.int l3)]) (st' := [.int l2, .int 1, .ref l0]) cd_165_75 rfl rfl ?_
      refine gs_0 (pc' := 77) (L' := [some (.ref l0), some (.int l1), some (.int l2), some (.int l3)]) (st' := [.int 2, .int l2, .int 1, .ref l0]) cd_165_76 rfl rfl ?_
      obtain ⟨ht, h⟩ := gO_s h
      obtain ⟨x_4, w_1, I_2, J_3, hcl, h⟩ := cI_s h
      refine gs_call (as := [.ref l0, .int 1, .int l2, .int 2]) (rest := []) cd_165_77 rfl (by decide) rfl (sm_rv_ok (by decide) ht) (Nat.le_of_ble_eq_true rfl) (Nat.le_of_ble_eq_true rfl) rfl hcl ?_
      cases h
      exact gs_ri cd_165_80 (Or.inl rfl)
    · rw [if_neg hc] at h
      refine gs_0 (pc' := 55) (L' := [some (.ref l0), some (.int l1), some (.int l2), some (.int l3)]) (st' := [.ref l0]) cd_165_54 rfl rfl ?_
      refine gs_0 (pc' := 56) (L' := [some (.ref l0), some (.int l1), some (.int l2), some (.int l3)]) (st' := [.int l2, .ref l0]) cd_165_55 rfl rfl ?_
      obtain ⟨x_8, w_5, I_6, J_7, hcl, h⟩ := cI_s h
      refine gs_call (as := [.int l2]) (rest := [.ref l0]) cd_165_56 rfl (by decide) rfl rfl (Nat.le_of_ble_eq_true rfl) (Nat.le_of_ble_eq_true rfl) rfl hcl ?_
      refine gs_0 (pc' := 60) (L' := [some (.ref l0), some (.int l1), some (.int l2), some (.int l3)]) (st' := [.int 2, .int x_8, .ref l0]) cd_165_59 rfl rfl ?_
      refine gs_0 (pc' := 61) (L' := [some (.ref l0), some (.int l1), some (.int l2), some (.int l3)]) (st' := [.int (x_8 + 2), .ref l0]) cd_165_60 rfl rfl ?_
      refine gs_0 (pc' := 62) (L' := [some (.ref l0), some (.int l1), some (.int l2), some (.int l3)]) (st' := [.int l3, .int (x_8 + 2), .ref l0]) cd_165_61 rfl rfl ?_
      refine gs_0 (pc' := 63) (L' := [some (.ref l0), some (.int l1), some (.int l2), some (.int l3)]) (st' := [.int ((x_8 + 2) + l3), .ref l0]) cd_165_62 rfl rfl ?_
      refine gs_0 (pc' := 64) (L' := [some (.ref l0), some (.int l1), some (.int l2), some (.int l3)]) (st' := [.int 0, .int ((x_8 + 2) + l3), .ref l0]) cd_165_63 rfl rfl ?_
      obtain ⟨ht, h⟩ := gO_s h
      obtain ⟨w_9, I_10, J_11, hcl, h⟩ := cV_s h
      refine gs_call (as := [.ref l0, .int ((x_8 + 2) + l3), .int 0]) (rest := []) cd_165_64 rfl (by decide) rfl (sm_rv_ok (by decide) ht) (Nat.le_of_ble_eq_true rfl) (Nat.le_of_ble_eq_true rfl) rfl hcl ?_
      refine gs_0 (pc' := 70) (L' := [some (.ref l0), some (.int l1), some (.int l2), some (.int (l3 + 1))]) (st' := []) cd_165_67 rfl rfl ?_
      obtain ⟨x_12, hx, h⟩ := lt_s_ h
      rw [hx]
      clear hx
      refine gs_0 (pc' := 49) (L' := [some (.ref l0), some (.int l1), some (.int l2), some (.int x_12)]) (st' := []) cd_165_70 rfl rfl ?_
      exact hr49 l0 l1 l2 x_12 _ _ _ _ h
noncomputable def f_165 (K : Nat → Value) (k d : Nat) (l0 : Nat) (w : aW) (I : aI) (J : aJ) : Option aR :=
  gO w 0 l0 (
  cI (Cl K d 149 [.ref l0, .int 1] w I J) fun x_4 w_1 I_2 J_3 =>
  cI (Cl K d 150 [.int x_4] w_1 I_2 J_3) fun x_8 w_5 I_6 J_7 =>
  if ¬ x_8 = 0 then
    gO w_5 0 l0 (
    cI (Cl K d 151 [.ref l0] w_5 I_6 J_7) fun x_12 w_9 I_10 J_11 =>
    if ¬ x_12 = 0 then
      cI (Cl K d 152 [.int x_12] w_9 I_10 J_11) fun x_16 w_13 I_14 J_15 =>
      gO w_13 0 l0 (
      cV (Cl K d 144 [.ref l0, .int x_16, .int 1] w_13 I_14 J_15) fun w_17 I_18 J_19 =>
      cI (Cl K d 152 [.int x_12] w_17 I_18 J_19) fun x_23 w_20 I_21 J_22 =>
      gO w_20 0 l0 (
      cV (Cl K d 144 [.ref l0, .int (x_23 + 1), .int x_4] w_20 I_21 J_22) fun w_24 I_25 J_26 =>
      f_165_49 K k d l0 x_4 x_12 0 w_24 I_25 J_26))
    else
      some (some (.int 6), w_9, I_10, J_11))
  else
    some (some (.int 5), w_5, I_6, J_7))
theorem ok_165 {K : Nat → Value} {k d : Nat} {l0 : Nat} {w : aW} {I : aI} {J : aJ} {R : aR} (h : f_165 K k d l0 w I J = some R) : Go K (d + 1) 165 0 [some (.ref l0), none, none, none] [] w I J R := by
  unfold f_165 at h
  refine gs_0 (pc' := 1) (L' := [some (.ref l0), none, none, none]) (st' := [.ref l0]) cd_165_0 rfl rfl ?_
  refine gs_0 (pc' := 2) (L' := [some (.ref l0), none, none, none]) (st' := [.int 1, .ref l0]) cd_165_1 rfl rfl ?_
  obtain ⟨ht, h⟩ := gO_s h
  obtain ⟨x_4, w_1, I_2, J_3, hcl, h⟩ := cI_s h
  refine gs_call (as := [.ref l0, .int 1]) (rest := []) cd_165_2 rfl (by decide) rfl (sm_rv_ok (by decide) ht) (Nat.le_of_ble_eq_true rfl) (Nat.le_of_ble_eq_true rfl) rfl hcl ?_
  refine gs_0 (pc' := 6) (L' := [some (.ref l0), some (.int x_4), none, none]) (st' := []) cd_165_5 rfl rfl ?_
  refine gs_0 (pc' := 7) (L' := [some (.ref l0), some (.int x_4), none, none]) (st' := [.int x_4]) cd_165_6 rfl rfl ?_
  obtain ⟨x_8, w_5, I_6, J_7, hcl, h⟩ := cI_s h
  refine gs_call (as := [.int x_4]) (rest := []) cd_165_7 rfl (by decide) rfl rfl (Nat.le_of_ble_eq_true rfl) (Nat.le_of_ble_eq_true rfl) rfl hcl ?_
  refine gs_0 (pc' := if ¬ x_8 = 0 then 15 else 13) (L' := [some (.ref l0), some (.int x_4), none, none]) (st' := []) cd_165_10 rfl rfl ?_
  refine go_ite (fun hc => ?_) (fun hc => ?_)
  · rw [if_pos hc] at h
    refine gs_0 (pc' := 16) (L' := [some (.ref l0), some (.int x_4), none, none]) (st' := [.ref l0]) cd_165_15 rfl rfl ?_
    obtain ⟨ht, h⟩ := gO_s h
    obtain ⟨x_12, w_9, I_10, J_11, hcl, h⟩ := cI_s h
    refine gs_call (as := [.ref l0]) (rest := []) cd_165_16 rfl (by decide) rfl (sm_rv_ok (by decide) ht) (Nat.le_of_ble_eq_true rfl) (Nat.le_of_ble_eq_true rfl) rfl hcl ?_
    refine gs_0 (pc' := 20) (L' := [some (.ref l0), some (.int x_4), some (.int x_12), none]) (st' := []) cd_165_19 rfl rfl ?_
    refine gs_0 (pc' := 21) (L' := [some (.ref l0), some (.int x_4), some (.int x_12), none]) (st' := [.int x_12]) cd_165_20 rfl rfl ?_
    refine gs_0 (pc' := if ¬ x_12 = 0 then 27 else 24) (L' := [some (.ref l0), some (.int x_4), some (.int x_12), none]) (st' := []) cd_165_21 rfl rfl ?_
    refine go_ite (fun hc => ?_) (fun hc => ?_)
    · rw [if_pos hc] at h
      refine gs_0 (pc' := 28) (L' := [some (.ref l0), some (.int x_4), some (.int x_12), none]) (st' := [.ref l0]) cd_165_27 rfl rfl ?_
      refine gs_0 (pc' := 29) (L' := [some (.ref l0), some (.int x_4), some (.int x_12), none]) (st' := [.int x_12, .ref l0]) cd_165_28 rfl rfl ?_
      obtain ⟨x_16, w_13, I_14, J_15, hcl, h⟩ := cI_s h
      refine gs_call (as := [.int x_12]) (rest := [.ref l0]) cd_165_29 rfl (by decide) rfl rfl (Nat.le_of_ble_eq_true rfl) (Nat.le_of_ble_eq_true rfl) rfl hcl ?_
      refine gs_0 (pc' := 33) (L' := [some (.ref l0), some (.int x_4), some (.int x_12), none]) (st' := [.int 1, .int x_16, .ref l0]) cd_165_32 rfl rfl ?_
      obtain ⟨ht, h⟩ := gO_s h
      obtain ⟨w_17, I_18, J_19, hcl, h⟩ := cV_s h
      refine gs_call (as := [.ref l0, .int x_16, .int 1]) (rest := []) cd_165_33 rfl (by decide) rfl (sm_rv_ok (by decide) ht) (Nat.le_of_ble_eq_true rfl) (Nat.le_of_ble_eq_true rfl) rfl hcl ?_
      refine gs_0 (pc' := 37) (L' := [some (.ref l0), some (.int x_4), some (.int x_12), none]) (st' := [.ref l0]) cd_165_36 rfl rfl ?_
      refine gs_0 (pc' := 38) (L' := [some (.ref l0), some (.int x_4), some (.int x_12), none]) (st' := [.int x_12, .ref l0]) cd_165_37 rfl rfl ?_
      obtain ⟨x_23, w_20, I_21, J_22, hcl, h⟩ := cI_s h
      refine gs_call (as := [.int x_12]) (rest := [.ref l0]) cd_165_38 rfl (by decide) rfl rfl (Nat.le_of_ble_eq_true rfl) (Nat.le_of_ble_eq_true rfl) rfl hcl ?_
      refine gs_0 (pc' := 42) (L' := [some (.ref l0), some (.int x_4), some (.int x_12), none]) (st' := [.int 1, .int x_23, .ref l0]) cd_165_41 rfl rfl ?_
      refine gs_0 (pc' := 43) (L' := [some (.ref l0), some (.int x_4), some (.int x_12), none]) (st' := [.int (x_23 + 1), .ref l0]) cd_165_42 rfl rfl ?_
      refine gs_0 (pc' := 44) (L' := [some (.ref l0), some (.int x_4), some (.int x_12), none]) (st' := [.int x_4, .int (x_23 + 1), .ref l0]) cd_165_43 rfl rfl ?_
      obtain ⟨ht, h⟩ := gO_s h
      obtain ⟨w_24, I_25, J_26, hcl, h⟩ := cV_s h
      refine gs_call (as := [.ref l0, .int (x_23 + 1), .int x_4]) (rest := []) cd_165_44 rfl (by decide) rfl (sm_rv_ok (by decide) ht) (Nat.le_of_ble_eq_true rfl) (Nat.le_of_ble_eq_true rfl) rfl hcl ?_
      refine gs_0 (pc' := 48) (L' := [some (.ref l0), some (.int x_4), some (.int x_12), none]) (st' := [.int 0]) cd_165_47 rfl rfl ?_
      refine gs_0 (pc' := 49) (L' := [some (.ref l0), some (.int x_4), some (.int x_12), some (.int 0)]) (st' := []) cd_165_48 rfl rfl ?_
      exact ok_165_49 h
    · rw [if_neg hc] at h
      refine gs_0 (pc' := 26) (L' := [some (.ref l0), some (.int x_4), some (.int x_12), none]) (st' := [.int 6]) cd_165_24 rfl rfl ?_
      cases h
      exact gs_ri cd_165_26 (Or.inl rfl)
  · rw [if_neg hc] at h
    refine gs_0 (pc' := 14) (L' := [some (.ref l0), some (.int x_4), none, none]) (st' := [.int 5]) cd_165_13 rfl rfl ?_
    cases h
    exact gs_ri cd_165_14 (Or.inl rfl)
theorem cl_165 {K : Nat → Value} {k d : Nat} {l0 : Nat} {w : aW} {I : aI} {J : aJ} {R : aR} (h : f_165 K k d l0 w I J = some R) : Cl K (d + 1) 165 [.ref l0] w I J = some R := Cl_of (ok_165 h)
/-! ProvedMachine$Machine.makePair()I -/
set_option maxRecDepth 20000 in
theorem gl_166 : gcd.lookup 166 = some gw_166 := rfl
theorem cd_166_0 : sm_cd 166 0 = some (.aload_n 0, 1, 0, 0, 0, 0, 0, 0, 0) := cd_of gl_166 rfl
theorem cd_166_1 : sm_cd 166 1 = some (.invokevirtual 76, 3, 151, 0, 0, 2, 0, 0, 0) := cd_of gl_166 rfl
theorem cd_166_4 : sm_cd 166 4 = some (.istore_n 1, 1, 1, 0, 0, 0, 0, 0, 0) := cd_of gl_166 rfl
theorem cd_166_5 : sm_cd 166 5 = some (.iload_n 1, 1, 1, 0, 0, 0, 0, 0, 0) := cd_of gl_166 rfl
theorem cd_166_6 : sm_cd 166 6 = some (.ifCond .ne 6, 3, 12, 0, 0, 0, 0, 0, 0) := cd_of gl_166 rfl
theorem cd_166_9 : sm_cd 166 9 = some (.bipush 6, 2, 0, 0, 0, 0, 0, 6, 0) := cd_of gl_166 rfl
theorem cd_166_11 : sm_cd 166 11 = some (.ireturn, 1, 0, 0, 1, 0, 0, 0, 0) := cd_of gl_166 rfl
theorem cd_166_12 : sm_cd 166 12 = some (.aload_n 0, 1, 0, 0, 0, 0, 0, 0, 0) := cd_of gl_166 rfl
theorem cd_166_13 : sm_cd 166 13 = some (.iload_n 1, 1, 1, 0, 0, 0, 0, 0, 0) := cd_of gl_166 rfl
theorem cd_166_14 : sm_cd 166 14 = some (.invokestatic 111, 3, 152, 1, 1, 1, 0, 0, 0) := cd_of gl_166 rfl
theorem cd_166_17 : sm_cd 166 17 = some (.iconst 2, 1, 0, 0, 0, 0, 0, 2, 0) := cd_of gl_166 rfl
theorem cd_166_18 : sm_cd 166 18 = some (.invokevirtual 60, 3, 144, 0, 2, 5, 0, 0, 0) := cd_of gl_166 rfl
theorem cd_166_21 : sm_cd 166 21 = some (.aload_n 0, 1, 0, 0, 0, 0, 0, 0, 0) := cd_of gl_166 rfl
theorem cd_166_22 : sm_cd 166 22 = some (.iload_n 1, 1, 1, 0, 0, 0, 0, 0, 0) := cd_of gl_166 rfl
theorem cd_166_23 : sm_cd 166 23 = some (.invokestatic 111, 3, 152, 1, 1, 1, 0, 0, 0) := cd_of gl_166 rfl
theorem cd_166_26 : sm_cd 166 26 = some (.iconst 1, 1, 0, 0, 0, 0, 0, 1, 0) := cd_of gl_166 rfl
theorem cd_166_27 : sm_cd 166 27 = some (.iadd, 1, 0, 0, 0, 0, 0, 0, 0) := cd_of gl_166 rfl
theorem cd_166_28 : sm_cd 166 28 = some (.aload_n 0, 1, 0, 0, 0, 0, 0, 0, 0) := cd_of gl_166 rfl
theorem cd_166_29 : sm_cd 166 29 = some (.iconst 2, 1, 0, 0, 0, 0, 0, 2, 0) := cd_of gl_166 rfl
theorem cd_166_30 : sm_cd 166 30 = some (.invokevirtual 88, 3, 149, 0, 1, 2, 0, 0, 0) := cd_of gl_166 rfl
theorem cd_166_33 : sm_cd 166 33 = some (.invokevirtual 60, 3, 144, 0, 2, 5, 0, 0, 0) := cd_of gl_166 rfl
theorem cd_166_36 : sm_cd 166 36 = some (.aload_n 0, 1, 0, 0, 0, 0, 0, 0, 0) := cd_of gl_166 rfl
theorem cd_166_37 : sm_cd 166 37 = some (.iload_n 1, 1, 1, 0, 0, 0, 0, 0, 0) := cd_of gl_166 rfl
theorem cd_166_38 : sm_cd 166 38 = some (.invokestatic 111, 3, 152, 1, 1, 1, 0, 0, 0) := cd_of gl_166 rfl
theorem cd_166_41 : sm_cd 166 41 = some (.iconst 2, 1, 0, 0, 0, 0, 0, 2, 0) := cd_of gl_166 rfl
theorem cd_166_42 : sm_cd 166 42 = some (.iadd, 1, 0, 0, 0, 0, 0, 0, 0) := cd_of gl_166 rfl
theorem cd_166_43 : sm_cd 166 43 = some (.aload_n 0, 1, 0, 0, 0, 0, 0, 0, 0) := cd_of gl_166 rfl
theorem cd_166_44 : sm_cd 166 44 = some (.iconst 1, 1, 0, 0, 0, 0, 0, 1, 0) := cd_of gl_166 rfl
theorem cd_166_45 : sm_cd 166 45 = some (.invokevirtual 88, 3, 149, 0, 1, 2, 0, 0, 0) := cd_of gl_166 rfl
theorem cd_166_48 : sm_cd 166 48 = some (.invokevirtual 60, 3, 144, 0, 2, 5, 0, 0, 0) := cd_of gl_166 rfl
theorem cd_166_51 : sm_cd 166 51 = some (.aload_n 0, 1, 0, 0, 0, 0, 0, 0, 0) := cd_of gl_166 rfl
theorem cd_166_52 : sm_cd 166 52 = some (.iconst 2, 1, 0, 0, 0, 0, 0, 2, 0) := cd_of gl_166 rfl
theorem cd_166_53 : sm_cd 166 53 = some (.iload_n 1, 1, 1, 0, 0, 0, 0, 0, 0) := cd_of gl_166 rfl
theorem cd_166_54 : sm_cd 166 54 = some (.iconst 3, 1, 0, 0, 0, 0, 0, 3, 0) := cd_of gl_166 rfl
theorem cd_166_55 : sm_cd 166 55 = some (.invokevirtual 153, 3, 161, 0, 3, 5, 0, 0, 0) := cd_of gl_166 rfl
theorem cd_166_58 : sm_cd 166 58 = some (.ireturn, 1, 0, 0, 1, 0, 0, 0, 0) := cd_of gl_166 rfl
noncomputable def f_166 (K : Nat → Value) (k d : Nat) (l0 : Nat) (w : aW) (I : aI) (J : aJ) : Option aR :=
  gO w 0 l0 (
  cI (Cl K d 151 [.ref l0] w I J) fun x_4 w_1 I_2 J_3 =>
  if ¬ x_4 = 0 then
    cI (Cl K d 152 [.int x_4] w_1 I_2 J_3) fun x_8 w_5 I_6 J_7 =>
    gO w_5 0 l0 (
    cV (Cl K d 144 [.ref l0, .int x_8, .int 2] w_5 I_6 J_7) fun w_9 I_10 J_11 =>
    cI (Cl K d 152 [.int x_4] w_9 I_10 J_11) fun x_15 w_12 I_13 J_14 =>
    gO w_12 0 l0 (
    cI (Cl K d 149 [.ref l0, .int 2] w_12 I_13 J_14) fun x_19 w_16 I_17 J_18 =>
    gO w_16 0 l0 (
    cV (Cl K d 144 [.ref l0, .int (x_15 + 1), .int x_19] w_16 I_17 J_18) fun w_20 I_21 J_22 =>
    cI (Cl K d 152 [.int x_4] w_20 I_21 J_22) fun x_26 w_23 I_24 J_25 =>
    gO w_23 0 l0 (
    cI (Cl K d 149 [.ref l0, .int 1] w_23 I_24 J_25) fun x_30 w_27 I_28 J_29 =>
    gO w_27 0 l0 (
    cV (Cl K d 144 [.ref l0, .int (x_26 + 2), .int x_30] w_27 I_28 J_29) fun w_31 I_32 J_33 =>
    gO w_31 0 l0 (
    cI (Cl K d 161 [.ref l0, .int 2, .int x_4, .int 3] w_31 I_32 J_33) fun x_37 w_34 I_35 J_36 =>
    some (some (.int x_37), w_34, I_35, J_36)))))))
  else
    some (some (.int 6), w_1, I_2, J_3))
theorem ok_166 {K : Nat → Value} {k d : Nat} {l0 : Nat} {w : aW} {I : aI} {J : aJ} {R : aR} (h : f_166 K k d l0 w I J = some R) : Go K (d + 1) 166 0 [some (.ref l0), none] [] w I J R := by
  unfold f_166 at h
  refine gs_0 (pc' := 1) (L' := [some (.ref l0), none]) (st' := [.ref l0]) cd_166_0 rfl rfl ?_
  obtain ⟨ht, h⟩ := gO_s h
  obtain ⟨x_4, w_1, I_2, J_3, hcl, h⟩ := cI_s h
  refine gs_call (as := [.ref l0]) (rest := []) cd_166_1 rfl (by decide) rfl (sm_rv_ok (by decide) ht) (Nat.le_of_ble_eq_true rfl) (Nat.le_of_ble_eq_true rfl) rfl hcl ?_
  refine gs_0 (pc' := 5) (L' := [some (.ref l0), some (.int x_4)]) (st' := []) cd_166_4 rfl rfl ?_
  refine gs_0 (pc' := 6) (L' := [some (.ref l0), some (.int x_4)]) (st' := [.int x_4]) cd_166_5 rfl rfl ?_
  refine gs_0 (pc' := if ¬ x_4 = 0 then 12 else 9) (L' := [some (.ref l0), some (.int x_4)]) (st' := []) cd_166_6 rfl rfl ?_
  refine go_ite (fun hc => ?_) (fun hc => ?_)
  · rw [if_pos hc] at h
    refine gs_0 (pc' := 13) (L' := [some (.ref l0), some (.int x_4)]) (st' := [.ref l0]) cd_166_12 rfl rfl ?_
    refine gs_0 (pc' := 14) (L' := [some (.ref l0), some (.int x_4)]) (st' := [.int x_4, .ref l0]) cd_166_13 rfl rfl ?_
    obtain ⟨x_8, w_5, I_6, J_7, hcl, h⟩ := cI_s h
    refine gs_call (as := [.int x_4]) (rest := [.ref l0]) cd_166_14 rfl (by decide) rfl rfl (Nat.le_of_ble_eq_true rfl) (Nat.le_of_ble_eq_true rfl) rfl hcl ?_
    refine gs_0 (pc' := 18) (L' := [some (.ref l0), some (.int x_4)]) (st' := [.int 2, .int x_8, .ref l0]) cd_166_17 rfl rfl ?_
    obtain ⟨ht, h⟩ := gO_s h
    obtain ⟨w_9, I_10, J_11, hcl, h⟩ := cV_s h
    refine gs_call (as := [.ref l0, .int x_8, .int 2]) (rest := []) cd_166_18 rfl (by decide) rfl (sm_rv_ok (by decide) ht) (Nat.le_of_ble_eq_true rfl) (Nat.le_of_ble_eq_true rfl) rfl hcl ?_
    refine gs_0 (pc' := 22) (L' := [some (.ref l0), some (.int x_4)]) (st' := [.ref l0]) cd_166_21 rfl rfl ?_
    refine gs_0 (pc' := 23) (L' := [some (.ref l0), some (.int x_4)]) (st' := [.int x_4, .ref l0]) cd_166_22 rfl rfl ?_
    obtain ⟨x_15, w_12, I_13, J_14, hcl, h⟩ := cI_s h
    refine gs_call (as := [.int x_4]) (rest := [.ref l0]) cd_166_23 rfl (by decide) rfl rfl (Nat.le_of_ble_eq_true rfl) (Nat.le_of_ble_eq_true rfl) rfl hcl ?_
    refine gs_0 (pc' := 27) (L' := [some (.ref l0), some (.int x_4)]) (st' := [.int 1, .int x_15, .ref l0]) cd_166_26 rfl rfl ?_
    refine gs_0 (pc' := 28) (L' := [some (.ref l0), some (.int x_4)]) (st' := [.int (x_15 + 1), .ref l0]) cd_166_27 rfl rfl ?_
    refine gs_0 (pc' := 29) (L' := [some (.ref l0), some (.int x_4)]) (st' := [.ref l0, .int (x_15 + 1), .ref l0]) cd_166_28 rfl rfl ?_
    refine gs_0 (pc' := 30) (L' := [some (.ref l0), some (.int x_4)]) (st' := [.int 2, .ref l0, .int (x_15 + 1), .ref l0]) cd_166_29 rfl rfl ?_
    obtain ⟨ht, h⟩ := gO_s h
    obtain ⟨x_19, w_16, I_17, J_18, hcl, h⟩ := cI_s h
    refine gs_call (as := [.ref l0, .int 2]) (rest := [.int (x_15 + 1), .ref l0]) cd_166_30 rfl (by decide) rfl (sm_rv_ok (by decide) ht) (Nat.le_of_ble_eq_true rfl) (Nat.le_of_ble_eq_true rfl) rfl hcl ?_
    obtain ⟨ht, h⟩ := gO_s h
    obtain ⟨w_20, I_21, J_22, hcl, h⟩ := cV_s h
    refine gs_call (as := [.ref l0, .int (x_15 + 1), .int x_19]) (rest := []) cd_166_33 rfl (by decide) rfl (sm_rv_ok (by decide) ht) (Nat.le_of_ble_eq_true rfl) (Nat.le_of_ble_eq_true rfl) rfl hcl ?_
    refine gs_0 (pc' := 37) (L' := [some (.ref l0), some (.int x_4)]) (st' := [.ref l0]) cd_166_36 rfl rfl ?_
    refine gs_0 (pc' := 38) (L' := [some (.ref l0), some (.int x_4)]) (st' := [.int x_4, .ref l0]) cd_166_37 rfl rfl ?_
    obtain ⟨x_26, w_23, I_24, J_25, hcl, h⟩ := cI_s h
    refine gs_call (as := [.int x_4]) (rest := [.ref l0]) cd_166_38 rfl (by decide) rfl rfl (Nat.le_of_ble_eq_true rfl) (Nat.le_of_ble_eq_true rfl) rfl hcl ?_
    refine gs_0 (pc' := 42) (L' := [some (.ref l0), some (.int x_4)]) (st' := [.int 2, .int x_26, .ref l0]) cd_166_41 rfl rfl ?_
    refine gs_0 (pc' := 43) (L' := [some (.ref l0), some (.int x_4)]) (st' := [.int (x_26 + 2), .ref l0]) cd_166_42 rfl rfl ?_
    refine gs_0 (pc' := 44) (L' := [some (.ref l0), some (.int x_4)]) (st' := [.ref l0, .int (x_26 + 2), .ref l0]) cd_166_43 rfl rfl ?_
    refine gs_0 (pc' := 45) (L' := [some (.ref l0), some (.int x_4)]) (st' := [.int 1, .ref l0, .int (x_26 + 2), .ref l0]) cd_166_44 rfl rfl ?_
    obtain ⟨ht, h⟩ := gO_s h
    obtain ⟨x_30, w_27, I_28, J_29, hcl, h⟩ := cI_s h
    refine gs_call (as := [.ref l0, .int 1]) (rest := [.int (x_26 + 2), .ref l0]) cd_166_45 rfl (by decide) rfl (sm_rv_ok (by decide) ht) (Nat.le_of_ble_eq_true rfl) (Nat.le_of_ble_eq_true rfl) rfl hcl ?_
    obtain ⟨ht, h⟩ := gO_s h
    obtain ⟨w_31, I_32, J_33, hcl, h⟩ := cV_s h
    refine gs_call (as := [.ref l0, .int (x_26 + 2), .int x_30]) (rest := []) cd_166_48 rfl (by decide) rfl (sm_rv_ok (by decide) ht) (Nat.le_of_ble_eq_true rfl) (Nat.le_of_ble_eq_true rfl) rfl hcl ?_
    refine gs_0 (pc' := 52) (L' := [some (.ref l0), some (.int x_4)]) (st' := [.ref l0]) cd_166_51 rfl rfl ?_
    refine gs_0 (pc' := 53) (L' := [some (.ref l0), some (.int x_4)]) (st' := [.int 2, .ref l0]) cd_166_52 rfl rfl ?_
    refine gs_0 (pc' := 54) (L' := [some (.ref l0), some (.int x_4)]) (st' := [.int x_4, .int 2, .ref l0]) cd_166_53 rfl rfl ?_
    refine gs_0 (pc' := 55) (L' := [some (.ref l0), some (.int x_4)]) (st' := [.int 3, .int x_4, .int 2, .ref l0]) cd_166_54 rfl rfl ?_
    obtain ⟨ht, h⟩ := gO_s h
    obtain ⟨x_37, w_34, I_35, J_36, hcl, h⟩ := cI_s h
    refine gs_call (as := [.ref l0, .int 2, .int x_4, .int 3]) (rest := []) cd_166_55 rfl (by decide) rfl (sm_rv_ok (by decide) ht) (Nat.le_of_ble_eq_true rfl) (Nat.le_of_ble_eq_true rfl) rfl hcl ?_
    cases h
    exact gs_ri cd_166_58 (Or.inl rfl)
  · rw [if_neg hc] at h
    refine gs_0 (pc' := 11) (L' := [some (.ref l0), some (.int x_4)]) (st' := [.int 6]) cd_166_9 rfl rfl ?_
    cases h
    exact gs_ri cd_166_11 (Or.inl rfl)
theorem cl_166 {K : Nat → Value} {k d : Nat} {l0 : Nat} {w : aW} {I : aI} {J : aJ} {R : aR} (h : f_166 K k d l0 w I J = some R) : Cl K (d + 1) 166 [.ref l0] w I J = some R := Cl_of (ok_166 h)
/-! ProvedMachine$Machine.index()I -/
set_option maxRecDepth 20000 in
theorem gl_167 : gcd.lookup 167 = some gw_167 := rfl
theorem cd_167_0 : sm_cd 167 0 = some (.aload_n 0, 1, 0, 0, 0, 0, 0, 0, 0) := cd_of gl_167 rfl
theorem cd_167_1 : sm_cd 167 1 = some (.iconst 2, 1, 0, 0, 0, 0, 0, 2, 0) := cd_of gl_167 rfl
theorem cd_167_2 : sm_cd 167 2 = some (.invokevirtual 88, 3, 149, 0, 1, 2, 0, 0, 0) := cd_of gl_167 rfl
theorem cd_167_5 : sm_cd 167 5 = some (.istore_n 1, 1, 1, 0, 0, 0, 0, 0, 0) := cd_of gl_167 rfl
theorem cd_167_6 : sm_cd 167 6 = some (.aload_n 0, 1, 0, 0, 0, 0, 0, 0, 0) := cd_of gl_167 rfl
theorem cd_167_7 : sm_cd 167 7 = some (.iconst 1, 1, 0, 0, 0, 0, 0, 1, 0) := cd_of gl_167 rfl
theorem cd_167_8 : sm_cd 167 8 = some (.invokevirtual 88, 3, 149, 0, 1, 2, 0, 0, 0) := cd_of gl_167 rfl
theorem cd_167_11 : sm_cd 167 11 = some (.istore_n 2, 1, 2, 0, 0, 0, 0, 0, 0) := cd_of gl_167 rfl
theorem cd_167_12 : sm_cd 167 12 = some (.aload_n 0, 1, 0, 0, 0, 0, 0, 0, 0) := cd_of gl_167 rfl
theorem cd_167_13 : sm_cd 167 13 = some (.iload_n 1, 1, 1, 0, 0, 0, 0, 0, 0) := cd_of gl_167 rfl
theorem cd_167_14 : sm_cd 167 14 = some (.iload_n 2, 1, 2, 0, 0, 0, 0, 0, 0) := cd_of gl_167 rfl
theorem cd_167_15 : sm_cd 167 15 = some (.invokevirtual 161, 3, 168, 0, 2, 3, 0, 0, 0) := cd_of gl_167 rfl
theorem cd_167_18 : sm_cd 167 18 = some (.istore_n 3, 1, 3, 0, 0, 0, 0, 0, 0) := cd_of gl_167 rfl
theorem cd_167_19 : sm_cd 167 19 = some (.iload_n 3, 1, 3, 0, 0, 0, 0, 0, 0) := cd_of gl_167 rfl
theorem cd_167_20 : sm_cd 167 20 = some (.ifCond .eq 7, 3, 27, 0, 0, 0, 0, 0, 0) := cd_of gl_167 rfl
theorem cd_167_23 : sm_cd 167 23 = some (.iload_n 3, 1, 3, 0, 0, 0, 0, 0, 0) := cd_of gl_167 rfl
theorem cd_167_24 : sm_cd 167 24 = some (.goto 21, 3, 45, 0, 0, 0, 0, 0, 0) := cd_of gl_167 rfl
theorem cd_167_27 : sm_cd 167 27 = some (.aload_n 0, 1, 0, 0, 0, 0, 0, 0, 0) := cd_of gl_167 rfl
theorem cd_167_28 : sm_cd 167 28 = some (.iconst 2, 1, 0, 0, 0, 0, 0, 2, 0) := cd_of gl_167 rfl
theorem cd_167_29 : sm_cd 167 29 = some (.aload_n 0, 1, 0, 0, 0, 0, 0, 0, 0) := cd_of gl_167 rfl
theorem cd_167_30 : sm_cd 167 30 = some (.iload_n 1, 1, 1, 0, 0, 0, 0, 0, 0) := cd_of gl_167 rfl
theorem cd_167_31 : sm_cd 167 31 = some (.invokestatic 111, 3, 152, 1, 1, 1, 0, 0, 0) := cd_of gl_167 rfl
theorem cd_167_34 : sm_cd 167 34 = some (.iconst 2, 1, 0, 0, 0, 0, 0, 2, 0) := cd_of gl_167 rfl
theorem cd_167_35 : sm_cd 167 35 = some (.iadd, 1, 0, 0, 0, 0, 0, 0, 0) := cd_of gl_167 rfl
theorem cd_167_36 : sm_cd 167 36 = some (.iload_n 2, 1, 2, 0, 0, 0, 0, 0, 0) := cd_of gl_167 rfl
theorem cd_167_37 : sm_cd 167 37 = some (.iadd, 1, 0, 0, 0, 0, 0, 0, 0) := cd_of gl_167 rfl
theorem cd_167_38 : sm_cd 167 38 = some (.invokevirtual 105, 3, 147, 0, 1, 2, 0, 0, 0) := cd_of gl_167 rfl
theorem cd_167_41 : sm_cd 167 41 = some (.iconst 0, 1, 0, 0, 0, 0, 0, 0, 0) := cd_of gl_167 rfl
theorem cd_167_42 : sm_cd 167 42 = some (.invokevirtual 153, 3, 161, 0, 3, 5, 0, 0, 0) := cd_of gl_167 rfl
theorem cd_167_45 : sm_cd 167 45 = some (.ireturn, 1, 0, 0, 1, 0, 0, 0, 0) := cd_of gl_167 rfl
noncomputable def f_167 (K : Nat → Value) (k d : Nat) (l0 : Nat) (w : aW) (I : aI) (J : aJ) : Option aR :=
  gO w 0 l0 (
  cI (Cl K d 149 [.ref l0, .int 2] w I J) fun x_4 w_1 I_2 J_3 =>
  gO w_1 0 l0 (
  cI (Cl K d 149 [.ref l0, .int 1] w_1 I_2 J_3) fun x_8 w_5 I_6 J_7 =>
  gO w_5 0 l0 (
  cI (Cl K d 168 [.ref l0, .int x_4, .int x_8] w_5 I_6 J_7) fun x_12 w_9 I_10 J_11 =>
  if x_12 = 0 then
    cI (Cl K d 152 [.int x_4] w_9 I_10 J_11) fun x_16 w_13 I_14 J_15 =>
    gO w_13 0 l0 (
    cI (Cl K d 147 [.ref l0, .int ((x_16 + 2) + x_8)] w_13 I_14 J_15) fun x_20 w_17 I_18 J_19 =>
    gO w_17 0 l0 (
    cI (Cl K d 161 [.ref l0, .int 2, .int x_20, .int 0] w_17 I_18 J_19) fun x_24 w_21 I_22 J_23 =>
    some (some (.int x_24), w_21, I_22, J_23)))
  else
    some (some (.int x_12), w_9, I_10, J_11))))
theorem ok_167 {K : Nat → Value} {k d : Nat} {l0 : Nat} {w : aW} {I : aI} {J : aJ} {R : aR} (h : f_167 K k d l0 w I J = some R) : Go K (d + 1) 167 0 [some (.ref l0), none, none, none] [] w I J R := by
  unfold f_167 at h
  refine gs_0 (pc' := 1) (L' := [some (.ref l0), none, none, none]) (st' := [.ref l0]) cd_167_0 rfl rfl ?_
  refine gs_0 (pc' := 2) (L' := [some (.ref l0), none, none, none]) (st' := [.int 2, .ref l0]) cd_167_1 rfl rfl ?_
  obtain ⟨ht, h⟩ := gO_s h
  obtain ⟨x_4, w_1, I_2, J_3, hcl, h⟩ := cI_s h
  refine gs_call (as := [.ref l0, .int 2]) (rest := []) cd_167_2 rfl (by decide) rfl (sm_rv_ok (by decide) ht) (Nat.le_of_ble_eq_true rfl) (Nat.le_of_ble_eq_true rfl) rfl hcl ?_
  refine gs_0 (pc' := 6) (L' := [some (.ref l0), some (.int x_4), none, none]) (st' := []) cd_167_5 rfl rfl ?_
  refine gs_0 (pc' := 7) (L' := [some (.ref l0), some (.int x_4), none, none]) (st' := [.ref l0]) cd_167_6 rfl rfl ?_
  refine gs_0 (pc' := 8) (L' := [some (.ref l0), some (.int x_4), none, none]) (st' := [.int 1, .ref l0]) cd_167_7 rfl rfl ?_
  obtain ⟨ht, h⟩ := gO_s h
  obtain ⟨x_8, w_5, I_6, J_7, hcl, h⟩ := cI_s h
  refine gs_call (as := [.ref l0, .int 1]) (rest := []) cd_167_8 rfl (by decide) rfl (sm_rv_ok (by decide) ht) (Nat.le_of_ble_eq_true rfl) (Nat.le_of_ble_eq_true rfl) rfl hcl ?_
  refine gs_0 (pc' := 12) (L' := [some (.ref l0), some (.int x_4), some (.int x_8), none]) (st' := []) cd_167_11 rfl rfl ?_
  refine gs_0 (pc' := 13) (L' := [some (.ref l0), some (.int x_4), some (.int x_8), none]) (st' := [.ref l0]) cd_167_12 rfl rfl ?_
  refine gs_0 (pc' := 14) (L' := [some (.ref l0), some (.int x_4), some (.int x_8), none]) (st' := [.int x_4, .ref l0]) cd_167_13 rfl rfl ?_
  refine gs_0 (pc' := 15) (L' := [some (.ref l0), some (.int x_4), some (.int x_8), none]) (st' := [.int x_8, .int x_4, .ref l0]) cd_167_14 rfl rfl ?_
  obtain ⟨ht, h⟩ := gO_s h
  obtain ⟨x_12, w_9, I_10, J_11, hcl, h⟩ := cI_s h
  refine gs_call (as := [.ref l0, .int x_4, .int x_8]) (rest := []) cd_167_15 rfl (by decide) rfl (sm_rv_ok (by decide) ht) (Nat.le_of_ble_eq_true rfl) (Nat.le_of_ble_eq_true rfl) rfl hcl ?_
  refine gs_0 (pc' := 19) (L' := [some (.ref l0), some (.int x_4), some (.int x_8), some (.int x_12)]) (st' := []) cd_167_18 rfl rfl ?_
  refine gs_0 (pc' := 20) (L' := [some (.ref l0), some (.int x_4), some (.int x_8), some (.int x_12)]) (st' := [.int x_12]) cd_167_19 rfl rfl ?_
  refine gs_0 (pc' := if x_12 = 0 then 27 else 23) (L' := [some (.ref l0), some (.int x_4), some (.int x_8), some (.int x_12)]) (st' := []) cd_167_20 rfl rfl ?_
  refine go_ite (fun hc => ?_) (fun hc => ?_)
  · rw [if_pos hc] at h
    refine gs_0 (pc' := 28) (L' := [some (.ref l0), some (.int x_4), some (.int x_8), some (.int x_12)]) (st' := [.ref l0]) cd_167_27 rfl rfl ?_
    refine gs_0 (pc' := 29) (L' := [some (.ref l0), some (.int x_4), some (.int x_8), some (.int x_12)]) (st' := [.int 2, .ref l0]) cd_167_28 rfl rfl ?_
    refine gs_0 (pc' := 30) (L' := [some (.ref l0), some (.int x_4), some (.int x_8), some (.int x_12)]) (st' := [.ref l0, .int 2, .ref l0]) cd_167_29 rfl rfl ?_
    refine gs_0 (pc' := 31) (L' := [some (.ref l0), some (.int x_4), some (.int x_8), some (.int x_12)]) (st' := [.int x_4, .ref l0, .int 2, .ref l0]) cd_167_30 rfl rfl ?_
    obtain ⟨x_16, w_13, I_14, J_15, hcl, h⟩ := cI_s h
    refine gs_call (as := [.int x_4]) (rest := [.ref l0, .int 2, .ref l0]) cd_167_31 rfl (by decide) rfl rfl (Nat.le_of_ble_eq_true rfl) (Nat.le_of_ble_eq_true rfl) rfl hcl ?_
    refine gs_0 (pc' := 35) (L' := [some (.ref l0), some (.int x_4), some (.int x_8), some (.int x_12)]) (st' := [.int 2, .int x_16, .ref l0, .int 2, .ref l0]) cd_167_34 rfl rfl ?_
    refine gs_0 (pc' := 36) (L' := [some (.ref l0), some (.int x_4), some (.int x_8), some (.int x_12)]) (st' := [.int (x_16 + 2), .ref l0, .int 2, .ref l0]) cd_167_35 rfl rfl ?_
    refine gs_0 (pc' := 37) (L' := [some (.ref l0), some (.int x_4), some (.int x_8), some (.int x_12)]) (st' := [.int x_8, .int (x_16 + 2), .ref l0, .int 2, .ref l0]) cd_167_36 rfl rfl ?_
    refine gs_0 (pc' := 38) (L' := [some (.ref l0), some (.int x_4), some (.int x_8), some (.int x_12)]) (st' := [.int ((x_16 + 2) + x_8), .ref l0, .int 2, .ref l0]) cd_167_37 rfl rfl ?_
    obtain ⟨ht, h⟩ := gO_s h
    obtain ⟨x_20, w_17, I_18, J_19, hcl, h⟩ := cI_s h
    refine gs_call (as := [.ref l0, .int ((x_16 + 2) + x_8)]) (rest := [.int 2, .ref l0]) cd_167_38 rfl (by decide) rfl (sm_rv_ok (by decide) ht) (Nat.le_of_ble_eq_true rfl) (Nat.le_of_ble_eq_true rfl) rfl hcl ?_
    refine gs_0 (pc' := 42) (L' := [some (.ref l0), some (.int x_4), some (.int x_8), some (.int x_12)]) (st' := [.int 0, .int x_20, .int 2, .ref l0]) cd_167_41 rfl rfl ?_
    obtain ⟨ht, h⟩ := gO_s h
    obtain ⟨x_24, w_21, I_22, J_23, hcl, h⟩ := cI_s h
    refine gs_call (as := [.ref l0, .int 2, .int x_20, .int 0]) (rest := []) cd_167_42 rfl (by decide) rfl (sm_rv_ok (by decide) ht) (Nat.le_of_ble_eq_true rfl) (Nat.le_of_ble_eq_true rfl) rfl hcl ?_
    cases h
    exact gs_ri cd_167_45 (Or.inl rfl)
  · rw [if_neg hc] at h
    refine gs_0 (pc' := 24) (L' := [some (.ref l0), some (.int x_4), some (.int x_8), some (.int x_12)]) (st' := [.int x_12]) cd_167_23 rfl rfl ?_
    refine gs_0 (pc' := 45) (L' := [some (.ref l0), some (.int x_4), some (.int x_8), some (.int x_12)]) (st' := [.int x_12]) cd_167_24 rfl rfl ?_
    cases h
    exact gs_ri cd_167_45 (Or.inl rfl)
theorem cl_167 {K : Nat → Value} {k d : Nat} {l0 : Nat} {w : aW} {I : aI} {J : aJ} {R : aR} (h : f_167 K k d l0 w I J = some R) : Cl K (d + 1) 167 [.ref l0] w I J = some R := Cl_of (ok_167 h)
/-! ProvedMachine$Machine.noSuchNumber(II)I -/
set_option maxRecDepth 20000 in
theorem gl_168 : gcd.lookup 168 = some gw_168 := rfl
theorem cd_168_0 : sm_cd 168 0 = some (.iload_n 1, 1, 1, 0, 0, 0, 0, 0, 0) := cd_of gl_168 rfl
theorem cd_168_1 : sm_cd 168 1 = some (.ifCond .ne 5, 3, 6, 0, 0, 0, 0, 0, 0) := cd_of gl_168 rfl
theorem cd_168_4 : sm_cd 168 4 = some (.iconst 4, 1, 0, 0, 0, 0, 0, 4, 0) := cd_of gl_168 rfl
theorem cd_168_5 : sm_cd 168 5 = some (.ireturn, 1, 0, 0, 1, 0, 0, 0, 0) := cd_of gl_168 rfl
theorem cd_168_6 : sm_cd 168 6 = some (.iload_n 2, 1, 2, 0, 0, 0, 0, 0, 0) := cd_of gl_168 rfl
theorem cd_168_7 : sm_cd 168 7 = some (.ifCond .lt 17, 3, 24, 0, 0, 0, 0, 0, 0) := cd_of gl_168 rfl
theorem cd_168_10 : sm_cd 168 10 = some (.iload_n 2, 1, 2, 0, 0, 0, 0, 0, 0) := cd_of gl_168 rfl
theorem cd_168_11 : sm_cd 168 11 = some (.aload_n 0, 1, 0, 0, 0, 0, 0, 0, 0) := cd_of gl_168 rfl
theorem cd_168_12 : sm_cd 168 12 = some (.iload_n 1, 1, 1, 0, 0, 0, 0, 0, 0) := cd_of gl_168 rfl
theorem cd_168_13 : sm_cd 168 13 = some (.invokestatic 111, 3, 152, 1, 1, 1, 0, 0, 0) := cd_of gl_168 rfl
theorem cd_168_16 : sm_cd 168 16 = some (.iconst 1, 1, 0, 0, 0, 0, 0, 1, 0) := cd_of gl_168 rfl
theorem cd_168_17 : sm_cd 168 17 = some (.iadd, 1, 0, 0, 0, 0, 0, 0, 0) := cd_of gl_168 rfl
theorem cd_168_18 : sm_cd 168 18 = some (.invokevirtual 105, 3, 147, 0, 1, 2, 0, 0, 0) := cd_of gl_168 rfl
theorem cd_168_21 : sm_cd 168 21 = some (.if_icmp .lt 7, 3, 28, 0, 0, 0, 0, 0, 0) := cd_of gl_168 rfl
theorem cd_168_24 : sm_cd 168 24 = some (.iconst 3, 1, 0, 0, 0, 0, 0, 3, 0) := cd_of gl_168 rfl
theorem cd_168_25 : sm_cd 168 25 = some (.goto 4, 3, 29, 0, 0, 0, 0, 0, 0) := cd_of gl_168 rfl
theorem cd_168_28 : sm_cd 168 28 = some (.iconst 0, 1, 0, 0, 0, 0, 0, 0, 0) := cd_of gl_168 rfl
theorem cd_168_29 : sm_cd 168 29 = some (.ireturn, 1, 0, 0, 1, 0, 0, 0, 0) := cd_of gl_168 rfl
noncomputable def f_168 (K : Nat → Value) (k d : Nat) (l0 : Nat) (l1 : Int32) (l2 : Int32) (w : aW) (I : aI) (J : aJ) : Option aR :=
  if ¬ l1 = 0 then
    if l2 < 0 then
      some (some (.int 3), w, I, J)
    else
      cI (Cl K d 152 [.int l1] w I J) fun x_4 w_1 I_2 J_3 =>
      gO w_1 0 l0 (
      cI (Cl K d 147 [.ref l0, .int (x_4 + 1)] w_1 I_2 J_3) fun x_8 w_5 I_6 J_7 =>
      if l2 < x_8 then
        some (some (.int 0), w_5, I_6, J_7)
      else
        some (some (.int 3), w_5, I_6, J_7))
  else
    some (some (.int 4), w, I, J)
theorem ok_168 {K : Nat → Value} {k d : Nat} {l0 : Nat} {l1 : Int32} {l2 : Int32} {w : aW} {I : aI} {J : aJ} {R : aR} (h : f_168 K k d l0 l1 l2 w I J = some R) : Go K (d + 1) 168 0 [some (.ref l0), some (.int l1), some (.int l2)] [] w I J R := by
  unfold f_168 at h
  refine gs_0 (pc' := 1) (L' := [some (.ref l0), some (.int l1), some (.int l2)]) (st' := [.int l1]) cd_168_0 rfl rfl ?_
  refine gs_0 (pc' := if ¬ l1 = 0 then 6 else 4) (L' := [some (.ref l0), some (.int l1), some (.int l2)]) (st' := []) cd_168_1 rfl rfl ?_
  refine go_ite (fun hc => ?_) (fun hc => ?_)
  · rw [if_pos hc] at h
    refine gs_0 (pc' := 7) (L' := [some (.ref l0), some (.int l1), some (.int l2)]) (st' := [.int l2]) cd_168_6 rfl rfl ?_
    refine gs_0 (pc' := if l2 < 0 then 24 else 10) (L' := [some (.ref l0), some (.int l1), some (.int l2)]) (st' := []) cd_168_7 rfl rfl ?_
    refine go_ite (fun hc => ?_) (fun hc => ?_)
    · rw [if_pos hc] at h
      refine gs_0 (pc' := 25) (L' := [some (.ref l0), some (.int l1), some (.int l2)]) (st' := [.int 3]) cd_168_24 rfl rfl ?_
      refine gs_0 (pc' := 29) (L' := [some (.ref l0), some (.int l1), some (.int l2)]) (st' := [.int 3]) cd_168_25 rfl rfl ?_
      cases h
      exact gs_ri cd_168_29 (Or.inl rfl)
    · rw [if_neg hc] at h
      refine gs_0 (pc' := 11) (L' := [some (.ref l0), some (.int l1), some (.int l2)]) (st' := [.int l2]) cd_168_10 rfl rfl ?_
      refine gs_0 (pc' := 12) (L' := [some (.ref l0), some (.int l1), some (.int l2)]) (st' := [.ref l0, .int l2]) cd_168_11 rfl rfl ?_
      refine gs_0 (pc' := 13) (L' := [some (.ref l0), some (.int l1), some (.int l2)]) (st' := [.int l1, .ref l0, .int l2]) cd_168_12 rfl rfl ?_
      obtain ⟨x_4, w_1, I_2, J_3, hcl, h⟩ := cI_s h
      refine gs_call (as := [.int l1]) (rest := [.ref l0, .int l2]) cd_168_13 rfl (by decide) rfl rfl (Nat.le_of_ble_eq_true rfl) (Nat.le_of_ble_eq_true rfl) rfl hcl ?_
      refine gs_0 (pc' := 17) (L' := [some (.ref l0), some (.int l1), some (.int l2)]) (st' := [.int 1, .int x_4, .ref l0, .int l2]) cd_168_16 rfl rfl ?_
      refine gs_0 (pc' := 18) (L' := [some (.ref l0), some (.int l1), some (.int l2)]) (st' := [.int (x_4 + 1), .ref l0, .int l2]) cd_168_17 rfl rfl ?_
      obtain ⟨ht, h⟩ := gO_s h
      obtain ⟨x_8, w_5, I_6, J_7, hcl, h⟩ := cI_s h
      refine gs_call (as := [.ref l0, .int (x_4 + 1)]) (rest := [.int l2]) cd_168_18 rfl (by decide) rfl (sm_rv_ok (by decide) ht) (Nat.le_of_ble_eq_true rfl) (Nat.le_of_ble_eq_true rfl) rfl hcl ?_
      refine gs_0 (pc' := if l2 < x_8 then 28 else 24) (L' := [some (.ref l0), some (.int l1), some (.int l2)]) (st' := []) cd_168_21 rfl rfl ?_
      refine go_ite (fun hc => ?_) (fun hc => ?_)
      · rw [if_pos hc] at h
        refine gs_0 (pc' := 29) (L' := [some (.ref l0), some (.int l1), some (.int l2)]) (st' := [.int 0]) cd_168_28 rfl rfl ?_
        cases h
        exact gs_ri cd_168_29 (Or.inl rfl)
      · rw [if_neg hc] at h
        refine gs_0 (pc' := 25) (L' := [some (.ref l0), some (.int l1), some (.int l2)]) (st' := [.int 3]) cd_168_24 rfl rfl ?_
        refine gs_0 (pc' := 29) (L' := [some (.ref l0), some (.int l1), some (.int l2)]) (st' := [.int 3]) cd_168_25 rfl rfl ?_
        cases h
        exact gs_ri cd_168_29 (Or.inl rfl)
  · rw [if_neg hc] at h
    refine gs_0 (pc' := 5) (L' := [some (.ref l0), some (.int l1), some (.int l2)]) (st' := [.int 4]) cd_168_4 rfl rfl ?_
    cases h
    exact gs_ri cd_168_5 (Or.inl rfl)
theorem cl_168 {K : Nat → Value} {k d : Nat} {l0 : Nat} {l1 : Int32} {l2 : Int32} {w : aW} {I : aI} {J : aJ} {R : aR} (h : f_168 K k d l0 l1 l2 w I J = some R) : Cl K (d + 1) 168 [.ref l0, .int l1, .int l2] w I J = some R := Cl_of (ok_168 h)
/-! ProvedMachine$Machine.storeInRow()I -/
set_option maxRecDepth 20000 in
theorem gl_169 : gcd.lookup 169 = some gw_169 := rfl
theorem cd_169_0 : sm_cd 169 0 = some (.aload_n 0, 1, 0, 0, 0, 0, 0, 0, 0) := cd_of gl_169 rfl
theorem cd_169_1 : sm_cd 169 1 = some (.iconst 3, 1, 0, 0, 0, 0, 0, 3, 0) := cd_of gl_169 rfl
theorem cd_169_2 : sm_cd 169 2 = some (.invokevirtual 88, 3, 149, 0, 1, 2, 0, 0, 0) := cd_of gl_169 rfl
theorem cd_169_5 : sm_cd 169 5 = some (.istore_n 1, 1, 1, 0, 0, 0, 0, 0, 0) := cd_of gl_169 rfl
theorem cd_169_6 : sm_cd 169 6 = some (.aload_n 0, 1, 0, 0, 0, 0, 0, 0, 0) := cd_of gl_169 rfl
theorem cd_169_7 : sm_cd 169 7 = some (.iconst 2, 1, 0, 0, 0, 0, 0, 2, 0) := cd_of gl_169 rfl
theorem cd_169_8 : sm_cd 169 8 = some (.invokevirtual 88, 3, 149, 0, 1, 2, 0, 0, 0) := cd_of gl_169 rfl
theorem cd_169_11 : sm_cd 169 11 = some (.istore_n 2, 1, 2, 0, 0, 0, 0, 0, 0) := cd_of gl_169 rfl
theorem cd_169_12 : sm_cd 169 12 = some (.aload_n 0, 1, 0, 0, 0, 0, 0, 0, 0) := cd_of gl_169 rfl
theorem cd_169_13 : sm_cd 169 13 = some (.iload_n 1, 1, 1, 0, 0, 0, 0, 0, 0) := cd_of gl_169 rfl
theorem cd_169_14 : sm_cd 169 14 = some (.iload_n 2, 1, 2, 0, 0, 0, 0, 0, 0) := cd_of gl_169 rfl
theorem cd_169_15 : sm_cd 169 15 = some (.invokevirtual 161, 3, 168, 0, 2, 3, 0, 0, 0) := cd_of gl_169 rfl
theorem cd_169_18 : sm_cd 169 18 = some (.istore_n 3, 1, 3, 0, 0, 0, 0, 0, 0) := cd_of gl_169 rfl
theorem cd_169_19 : sm_cd 169 19 = some (.iload_n 3, 1, 3, 0, 0, 0, 0, 0, 0) := cd_of gl_169 rfl
theorem cd_169_20 : sm_cd 169 20 = some (.ifCond .eq 5, 3, 25, 0, 0, 0, 0, 0, 0) := cd_of gl_169 rfl
theorem cd_169_23 : sm_cd 169 23 = some (.iload_n 3, 1, 3, 0, 0, 0, 0, 0, 0) := cd_of gl_169 rfl
theorem cd_169_24 : sm_cd 169 24 = some (.ireturn, 1, 0, 0, 1, 0, 0, 0, 0) := cd_of gl_169 rfl
theorem cd_169_25 : sm_cd 169 25 = some (.aload_n 0, 1, 0, 0, 0, 0, 0, 0, 0) := cd_of gl_169 rfl
theorem cd_169_26 : sm_cd 169 26 = some (.iload_n 1, 1, 1, 0, 0, 0, 0, 0, 0) := cd_of gl_169 rfl
theorem cd_169_27 : sm_cd 169 27 = some (.invokestatic 111, 3, 152, 1, 1, 1, 0, 0, 0) := cd_of gl_169 rfl
theorem cd_169_30 : sm_cd 169 30 = some (.iconst 2, 1, 0, 0, 0, 0, 0, 2, 0) := cd_of gl_169 rfl
theorem cd_169_31 : sm_cd 169 31 = some (.iadd, 1, 0, 0, 0, 0, 0, 0, 0) := cd_of gl_169 rfl
theorem cd_169_32 : sm_cd 169 32 = some (.iload_n 2, 1, 2, 0, 0, 0, 0, 0, 0) := cd_of gl_169 rfl
theorem cd_169_33 : sm_cd 169 33 = some (.iadd, 1, 0, 0, 0, 0, 0, 0, 0) := cd_of gl_169 rfl
theorem cd_169_34 : sm_cd 169 34 = some (.aload_n 0, 1, 0, 0, 0, 0, 0, 0, 0) := cd_of gl_169 rfl
theorem cd_169_35 : sm_cd 169 35 = some (.iconst 1, 1, 0, 0, 0, 0, 0, 1, 0) := cd_of gl_169 rfl
theorem cd_169_36 : sm_cd 169 36 = some (.invokevirtual 88, 3, 149, 0, 1, 2, 0, 0, 0) := cd_of gl_169 rfl
theorem cd_169_39 : sm_cd 169 39 = some (.invokevirtual 60, 3, 144, 0, 2, 5, 0, 0, 0) := cd_of gl_169 rfl
theorem cd_169_42 : sm_cd 169 42 = some (.aload_n 0, 1, 0, 0, 0, 0, 0, 0, 0) := cd_of gl_169 rfl
theorem cd_169_43 : sm_cd 169 43 = some (.iconst 3, 1, 0, 0, 0, 0, 0, 3, 0) := cd_of gl_169 rfl
theorem cd_169_44 : sm_cd 169 44 = some (.invokevirtual 129, 3, 164, 0, 1, 2, 0, 0, 0) := cd_of gl_169 rfl
theorem cd_169_47 : sm_cd 169 47 = some (.ireturn, 1, 0, 0, 1, 0, 0, 0, 0) := cd_of gl_169 rfl
noncomputable def f_169 (K : Nat → Value) (k d : Nat) (l0 : Nat) (w : aW) (I : aI) (J : aJ) : Option aR :=
  gO w 0 l0 (
  cI (Cl K d 149 [.ref l0, .int 3] w I J) fun x_4 w_1 I_2 J_3 =>
  gO w_1 0 l0 (
  cI (Cl K d 149 [.ref l0, .int 2] w_1 I_2 J_3) fun x_8 w_5 I_6 J_7 =>
  gO w_5 0 l0 (
  cI (Cl K d 168 [.ref l0, .int x_4, .int x_8] w_5 I_6 J_7) fun x_12 w_9 I_10 J_11 =>
  if x_12 = 0 then
    cI (Cl K d 152 [.int x_4] w_9 I_10 J_11) fun x_16 w_13 I_14 J_15 =>
    gO w_13 0 l0 (
    cI (Cl K d 149 [.ref l0, .int 1] w_13 I_14 J_15) fun x_20 w_17 I_18 J_19 =>
    gO w_17 0 l0 (
    cV (Cl K d 144 [.ref l0, .int ((x_16 + 2) + x_8), .int x_20] w_17 I_18 J_19) fun w_21 I_22 J_23 =>
    gO w_21 0 l0 (
    cI (Cl K d 164 [.ref l0, .int 3] w_21 I_22 J_23) fun x_27 w_24 I_25 J_26 =>
    some (some (.int x_27), w_24, I_25, J_26))))
  else
    some (some (.int x_12), w_9, I_10, J_11))))
theorem ok_169 {K : Nat → Value} {k d : Nat} {l0 : Nat} {w : aW} {I : aI} {J : aJ} {R : aR} (h : f_169 K k d l0 w I J = some R) : Go K (d + 1) 169 0 [some (.ref l0), none, none, none] [] w I J R := by
  unfold f_169 at h
  refine gs_0 (pc' := 1) (L' := [some (.ref l0), none, none, none]) (st' := [.ref l0]) cd_169_0 rfl rfl ?_
  refine gs_0 (pc' := 2) (L' := [some (.ref l0), none, none, none]) (st' := [.int 3, .ref l0]) cd_169_1 rfl rfl ?_
  obtain ⟨ht, h⟩ := gO_s h
  obtain ⟨x_4, w_1, I_2, J_3, hcl, h⟩ := cI_s h
  refine gs_call (as := [.ref l0, .int 3]) (rest := []) cd_169_2 rfl (by decide) rfl (sm_rv_ok (by decide) ht) (Nat.le_of_ble_eq_true rfl) (Nat.le_of_ble_eq_true rfl) rfl hcl ?_
  refine gs_0 (pc' := 6) (L' := [some (.ref l0), some (.int x_4), none, none]) (st' := []) cd_169_5 rfl rfl ?_
  refine gs_0 (pc' := 7) (L' := [some (.ref l0), some (.int x_4), none, none]) (st' := [.ref l0]) cd_169_6 rfl rfl ?_
  refine gs_0 (pc' := 8) (L' := [some (.ref l0), some (.int x_4), none, none]) (st' := [.int 2, .ref l0]) cd_169_7 rfl rfl ?_
  obtain ⟨ht, h⟩ := gO_s h
  obtain ⟨x_8, w_5, I_6, J_7, hcl, h⟩ := cI_s h
  refine gs_call (as := [.ref l0, .int 2]) (rest := []) cd_169_8 rfl (by decide) rfl (sm_rv_ok (by decide) ht) (Nat.le_of_ble_eq_true rfl) (Nat.le_of_ble_eq_true rfl) rfl hcl ?_
  refine gs_0 (pc' := 12) (L' := [some (.ref l0), some (.int x_4), some (.int x_8), none]) (st' := []) cd_169_11 rfl rfl ?_
  refine gs_0 (pc' := 13) (L' := [some (.ref l0), some (.int x_4), some (.int x_8), none]) (st' := [.ref l0]) cd_169_12 rfl rfl ?_
  refine gs_0 (pc' := 14) (L' := [some (.ref l0), some (.int x_4), some (.int x_8), none]) (st' := [.int x_4, .ref l0]) cd_169_13 rfl rfl ?_
  refine gs_0 (pc' := 15) (L' := [some (.ref l0), some (.int x_4), some (.int x_8), none]) (st' := [.int x_8, .int x_4, .ref l0]) cd_169_14 rfl rfl ?_
  obtain ⟨ht, h⟩ := gO_s h
  obtain ⟨x_12, w_9, I_10, J_11, hcl, h⟩ := cI_s h
  refine gs_call (as := [.ref l0, .int x_4, .int x_8]) (rest := []) cd_169_15 rfl (by decide) rfl (sm_rv_ok (by decide) ht) (Nat.le_of_ble_eq_true rfl) (Nat.le_of_ble_eq_true rfl) rfl hcl ?_
  refine gs_0 (pc' := 19) (L' := [some (.ref l0), some (.int x_4), some (.int x_8), some (.int x_12)]) (st' := []) cd_169_18 rfl rfl ?_
  refine gs_0 (pc' := 20) (L' := [some (.ref l0), some (.int x_4), some (.int x_8), some (.int x_12)]) (st' := [.int x_12]) cd_169_19 rfl rfl ?_
  refine gs_0 (pc' := if x_12 = 0 then 25 else 23) (L' := [some (.ref l0), some (.int x_4), some (.int x_8), some (.int x_12)]) (st' := []) cd_169_20 rfl rfl ?_
  refine go_ite (fun hc => ?_) (fun hc => ?_)
  · rw [if_pos hc] at h
    refine gs_0 (pc' := 26) (L' := [some (.ref l0), some (.int x_4), some (.int x_8), some (.int x_12)]) (st' := [.ref l0]) cd_169_25 rfl rfl ?_
    refine gs_0 (pc' := 27) (L' := [some (.ref l0), some (.int x_4), some (.int x_8), some (.int x_12)]) (st' := [.int x_4, .ref l0]) cd_169_26 rfl rfl ?_
    obtain ⟨x_16, w_13, I_14, J_15, hcl, h⟩ := cI_s h
    refine gs_call (as := [.int x_4]) (rest := [.ref l0]) cd_169_27 rfl (by decide) rfl rfl (Nat.le_of_ble_eq_true rfl) (Nat.le_of_ble_eq_true rfl) rfl hcl ?_
    refine gs_0 (pc' := 31) (L' := [some (.ref l0), some (.int x_4), some (.int x_8), some (.int x_12)]) (st' := [.int 2, .int x_16, .ref l0]) cd_169_30 rfl rfl ?_
    refine gs_0 (pc' := 32) (L' := [some (.ref l0), some (.int x_4), some (.int x_8), some (.int x_12)]) (st' := [.int (x_16 + 2), .ref l0]) cd_169_31 rfl rfl ?_
    refine gs_0 (pc' := 33) (L' := [some (.ref l0), some (.int x_4), some (.int x_8), some (.int x_12)]) (st' := [.int x_8, .int (x_16 + 2), .ref l0]) cd_169_32 rfl rfl ?_
    refine gs_0 (pc' := 34) (L' := [some (.ref l0), some (.int x_4), some (.int x_8), some (.int x_12)]) (st' := [.int ((x_16 + 2) + x_8), .ref l0]) cd_169_33 rfl rfl ?_
    refine gs_0 (pc' := 35) (L' := [some (.ref l0), some (.int x_4), some (.int x_8), some (.int x_12)]) (st' := [.ref l0, .int ((x_16 + 2) + x_8), .ref l0]) cd_169_34 rfl rfl ?_
    refine gs_0 (pc' := 36) (L' := [some (.ref l0), some (.int x_4), some (.int x_8), some (.int x_12)]) (st' := [.int 1, .ref l0, .int ((x_16 + 2) + x_8), .ref l0]) cd_169_35 rfl rfl ?_
    obtain ⟨ht, h⟩ := gO_s h
    obtain ⟨x_20, w_17, I_18, J_19, hcl, h⟩ := cI_s h
    refine gs_call (as := [.ref l0, .int 1]) (rest := [.int ((x_16 + 2) + x_8), .ref l0]) cd_169_36 rfl (by decide) rfl (sm_rv_ok (by decide) ht) (Nat.le_of_ble_eq_true rfl) (Nat.le_of_ble_eq_true rfl) rfl hcl ?_
    obtain ⟨ht, h⟩ := gO_s h
    obtain ⟨w_21, I_22, J_23, hcl, h⟩ := cV_s h
    refine gs_call (as := [.ref l0, .int ((x_16 + 2) + x_8), .int x_20]) (rest := []) cd_169_39 rfl (by decide) rfl (sm_rv_ok (by decide) ht) (Nat.le_of_ble_eq_true rfl) (Nat.le_of_ble_eq_true rfl) rfl hcl ?_
    refine gs_0 (pc' := 43) (L' := [some (.ref l0), some (.int x_4), some (.int x_8), some (.int x_12)]) (st' := [.ref l0]) cd_169_42 rfl rfl ?_
    refine gs_0 (pc' := 44) (L' := [some (.ref l0), some (.int x_4), some (.int x_8), some (.int x_12)]) (st' := [.int 3, .ref l0]) cd_169_43 rfl rfl ?_
    obtain ⟨ht, h⟩ := gO_s h
    obtain ⟨x_27, w_24, I_25, J_26, hcl, h⟩ := cI_s h
    refine gs_call (as := [.ref l0, .int 3]) (rest := []) cd_169_44 rfl (by decide) rfl (sm_rv_ok (by decide) ht) (Nat.le_of_ble_eq_true rfl) (Nat.le_of_ble_eq_true rfl) rfl hcl ?_
    cases h
    exact gs_ri cd_169_47 (Or.inl rfl)
  · rw [if_neg hc] at h
    refine gs_0 (pc' := 24) (L' := [some (.ref l0), some (.int x_4), some (.int x_8), some (.int x_12)]) (st' := [.int x_12]) cd_169_23 rfl rfl ?_
    cases h
    exact gs_ri cd_169_24 (Or.inl rfl)
theorem cl_169 {K : Nat → Value} {k d : Nat} {l0 : Nat} {w : aW} {I : aI} {J : aJ} {R : aR} (h : f_169 K k d l0 w I J = some R) : Cl K (d + 1) 169 [.ref l0] w I J = some R := Cl_of (ok_169 h)
/-! ProvedMachine$Machine.branch(I)I -/
set_option maxRecDepth 20000 in
theorem gl_170 : gcd.lookup 170 = some gw_170 := rfl
theorem cd_170_0 : sm_cd 170 0 = some (.aload_n 0, 1, 0, 0, 0, 0, 0, 0, 0) := cd_of gl_170 rfl
theorem cd_170_1 : sm_cd 170 1 = some (.iconst 1, 1, 0, 0, 0, 0, 0, 1, 0) := cd_of gl_170 rfl
theorem cd_170_2 : sm_cd 170 2 = some (.invokevirtual 88, 3, 149, 0, 1, 2, 0, 0, 0) := cd_of gl_170 rfl
theorem cd_170_5 : sm_cd 170 5 = some (.ifCond .eq 7, 3, 12, 0, 0, 0, 0, 0, 0) := cd_of gl_170 rfl
theorem cd_170_8 : sm_cd 170 8 = some (.iconst 1, 1, 0, 0, 0, 0, 0, 1, 0) := cd_of gl_170 rfl
theorem cd_170_9 : sm_cd 170 9 = some (.goto 4, 3, 13, 0, 0, 0, 0, 0, 0) := cd_of gl_170 rfl
theorem cd_170_12 : sm_cd 170 12 = some (.iconst 0, 1, 0, 0, 0, 0, 0, 0, 0) := cd_of gl_170 rfl
theorem cd_170_13 : sm_cd 170 13 = some (.istore_n 2, 1, 2, 0, 0, 0, 0, 0, 0) := cd_of gl_170 rfl
theorem cd_170_14 : sm_cd 170 14 = some (.aload_n 0, 1, 0, 0, 0, 0, 0, 0, 0) := cd_of gl_170 rfl
theorem cd_170_15 : sm_cd 170 15 = some (.iconst 1, 1, 0, 0, 0, 0, 0, 1, 0) := cd_of gl_170 rfl
theorem cd_170_16 : sm_cd 170 16 = some (.invokevirtual 129, 3, 164, 0, 1, 2, 0, 0, 0) := cd_of gl_170 rfl
theorem cd_170_19 : sm_cd 170 19 = some (.pop, 1, 0, 0, 0, 0, 0, 0, 0) := cd_of gl_170 rfl
theorem cd_170_20 : sm_cd 170 20 = some (.iload_n 2, 1, 2, 0, 0, 0, 0, 0, 0) := cd_of gl_170 rfl
theorem cd_170_21 : sm_cd 170 21 = some (.ifCond .eq 7, 3, 28, 0, 0, 0, 0, 0, 0) := cd_of gl_170 rfl
theorem cd_170_24 : sm_cd 170 24 = some (.iconst 0, 1, 0, 0, 0, 0, 0, 0, 0) := cd_of gl_170 rfl
theorem cd_170_25 : sm_cd 170 25 = some (.goto 8, 3, 33, 0, 0, 0, 0, 0, 0) := cd_of gl_170 rfl
theorem cd_170_28 : sm_cd 170 28 = some (.aload_n 0, 1, 0, 0, 0, 0, 0, 0, 0) := cd_of gl_170 rfl
theorem cd_170_29 : sm_cd 170 29 = some (.iload_n 1, 1, 1, 0, 0, 0, 0, 0, 0) := cd_of gl_170 rfl
theorem cd_170_30 : sm_cd 170 30 = some (.invokevirtual 138, 3, 162, 0, 1, 2, 0, 0, 0) := cd_of gl_170 rfl
theorem cd_170_33 : sm_cd 170 33 = some (.ireturn, 1, 0, 0, 1, 0, 0, 0, 0) := cd_of gl_170 rfl
noncomputable def f_170_13 (K : Nat → Value) (k d : Nat) (l0 : Nat) (l1 : Int32) (s0 : Int32) (w : aW) (I : aI) (J : aJ) : Option aR :=
  gO w 0 l0 (
  cI (Cl K d 164 [.ref l0, .int 1] w I J) fun x_4 w_1 I_2 J_3 =>
  if s0 = 0 then
    gO w_1 0 l0 (
    cI (Cl K d 162 [.ref l0, .int l1] w_1 I_2 J_3) fun x_8 w_5 I_6 J_7 =>
    some (some (.int x_8), w_5, I_6, J_7))
  else
    some (some (.int 0), w_1, I_2, J_3))
theorem ok_170_13 {K : Nat → Value} {k d : Nat} {l0 : Nat} {l1 : Int32} {s0 : Int32} {w : aW} {I : aI} {J : aJ} {R : aR} (h : f_170_13 K k d l0 l1 s0 w I J = some R) : Go K (d + 1) 170 13 [some (.ref l0), some (.int l1), none] [.int s0] w I J R := by
  unfold f_170_13 at h
  refine gs_0 (pc' := 14) (L' := [some (.ref l0), some (.int l1), some (.int s0)]) (st' := []) cd_170_13 rfl rfl ?_
  refine gs_0 (pc' := 15) (L' := [some (.ref l0), some (.int l1), some (.int s0)]) (st' := [.ref l0]) cd_170_14 rfl rfl ?_
  refine gs_0 (pc' := 16) (L' := [some (.ref l0), some (.int l1), some (.int s0)]) (st' := [.int 1, .ref l0]) cd_170_15 rfl rfl ?_
  obtain ⟨ht, h⟩ := gO_s h
  obtain ⟨x_4, w_1, I_2, J_3, hcl, h⟩ := cI_s h
  refine gs_call (as := [.ref l0, .int 1]) (rest := []) cd_170_16 rfl (by decide) rfl (sm_rv_ok (by decide) ht) (Nat.le_of_ble_eq_true rfl) (Nat.le_of_ble_eq_true rfl) rfl hcl ?_
  refine gs_0 (pc' := 20) (L' := [some (.ref l0), some (.int l1), some (.int s0)]) (st' := []) cd_170_19 rfl rfl ?_
  refine gs_0 (pc' := 21) (L' := [some (.ref l0), some (.int l1), some (.int s0)]) (st' := [.int s0]) cd_170_20 rfl rfl ?_
  refine gs_0 (pc' := if s0 = 0 then 28 else 24) (L' := [some (.ref l0), some (.int l1), some (.int s0)]) (st' := []) cd_170_21 rfl rfl ?_
  refine go_ite (fun hc => ?_) (fun hc => ?_)
  · rw [if_pos hc] at h
    refine gs_0 (pc' := 29) (L' := [some (.ref l0), some (.int l1), some (.int s0)]) (st' := [.ref l0]) cd_170_28 rfl rfl ?_
    refine gs_0 (pc' := 30) (L' := [some (.ref l0), some (.int l1), some (.int s0)]) (st' := [.int l1, .ref l0]) cd_170_29 rfl rfl ?_
    obtain ⟨ht, h⟩ := gO_s h
    obtain ⟨x_8, w_5, I_6, J_7, hcl, h⟩ := cI_s h
    refine gs_call (as := [.ref l0, .int l1]) (rest := []) cd_170_30 rfl (by decide) rfl (sm_rv_ok (by decide) ht) (Nat.le_of_ble_eq_true rfl) (Nat.le_of_ble_eq_true rfl) rfl hcl ?_
    cases h
    exact gs_ri cd_170_33 (Or.inl rfl)
  · rw [if_neg hc] at h
    refine gs_0 (pc' := 25) (L' := [some (.ref l0), some (.int l1), some (.int s0)]) (st' := [.int 0]) cd_170_24 rfl rfl ?_
    refine gs_0 (pc' := 33) (L' := [some (.ref l0), some (.int l1), some (.int s0)]) (st' := [.int 0]) cd_170_25 rfl rfl ?_
    cases h
    exact gs_ri cd_170_33 (Or.inl rfl)
noncomputable def f_170 (K : Nat → Value) (k d : Nat) (l0 : Nat) (l1 : Int32) (w : aW) (I : aI) (J : aJ) : Option aR :=
  gO w 0 l0 (
  cI (Cl K d 149 [.ref l0, .int 1] w I J) fun x_4 w_1 I_2 J_3 =>
  if x_4 = 0 then
    f_170_13 K k d l0 l1 0 w_1 I_2 J_3
  else
    f_170_13 K k d l0 l1 1 w_1 I_2 J_3)
theorem ok_170 {K : Nat → Value} {k d : Nat} {l0 : Nat} {l1 : Int32} {w : aW} {I : aI} {J : aJ} {R : aR} (h : f_170 K k d l0 l1 w I J = some R) : Go K (d + 1) 170 0 [some (.ref l0), some (.int l1), none] [] w I J R := by
  unfold f_170 at h
  refine gs_0 (pc' := 1) (L' := [some (.ref l0), some (.int l1), none]) (st' := [.ref l0]) cd_170_0 rfl rfl ?_
  refine gs_0 (pc' := 2) (L' := [some (.ref l0), some (.int l1), none]) (st' := [.int 1, .ref l0]) cd_170_1 rfl rfl ?_
  obtain ⟨ht, h⟩ := gO_s h
  obtain ⟨x_4, w_1, I_2, J_3, hcl, h⟩ := cI_s h
  refine gs_call (as := [.ref l0, .int 1]) (rest := []) cd_170_2 rfl (by decide) rfl (sm_rv_ok (by decide) ht) (Nat.le_of_ble_eq_true rfl) (Nat.le_of_ble_eq_true rfl) rfl hcl ?_
  refine gs_0 (pc' := if x_4 = 0 then 12 else 8) (L' := [some (.ref l0), some (.int l1), none]) (st' := []) cd_170_5 rfl rfl ?_
  refine go_ite (fun hc => ?_) (fun hc => ?_)
  · rw [if_pos hc] at h
    refine gs_0 (pc' := 13) (L' := [some (.ref l0), some (.int l1), none]) (st' := [.int 0]) cd_170_12 rfl rfl ?_
    exact ok_170_13 h
  · rw [if_neg hc] at h
    refine gs_0 (pc' := 9) (L' := [some (.ref l0), some (.int l1), none]) (st' := [.int 1]) cd_170_8 rfl rfl ?_
    refine gs_0 (pc' := 13) (L' := [some (.ref l0), some (.int l1), none]) (st' := [.int 1]) cd_170_9 rfl rfl ?_
    exact ok_170_13 h
theorem cl_170 {K : Nat → Value} {k d : Nat} {l0 : Nat} {l1 : Int32} {w : aW} {I : aI} {J : aJ} {R : aR} (h : f_170 K k d l0 l1 w I J = some R) : Cl K (d + 1) 170 [.ref l0, .int l1] w I J = some R := Cl_of (ok_170 h)
/-! ProvedMachine$Machine.leave()I -/
set_option maxRecDepth 20000 in
theorem gl_171 : gcd.lookup 171 = some gw_171 := rfl
theorem cd_171_0 : sm_cd 171 0 = some (.aload_n 0, 1, 0, 0, 0, 0, 0, 0, 0) := cd_of gl_171 rfl
theorem cd_171_1 : sm_cd 171 1 = some (.iconst 4, 1, 0, 0, 0, 0, 0, 4, 0) := cd_of gl_171 rfl
theorem cd_171_2 : sm_cd 171 2 = some (.aload_n 0, 1, 0, 0, 0, 0, 0, 0, 0) := cd_of gl_171 rfl
theorem cd_171_3 : sm_cd 171 3 = some (.getfield 13, 3, 0, 1, 2, 0, 0, 0, 0) := cd_of gl_171 rfl
theorem cd_171_6 : sm_cd 171 6 = some (.iconst 4, 1, 0, 0, 0, 0, 0, 4, 0) := cd_of gl_171 rfl
theorem cd_171_7 : sm_cd 171 7 = some (.iaload, 1, 0, 0, 0, 0, 0, 0, 0) := cd_of gl_171 rfl
theorem cd_171_8 : sm_cd 171 8 = some (.iconst 1, 1, 0, 0, 0, 0, 0, 1, 0) := cd_of gl_171 rfl
theorem cd_171_9 : sm_cd 171 9 = some (.isub, 1, 0, 0, 0, 0, 0, 0, 0) := cd_of gl_171 rfl
theorem cd_171_10 : sm_cd 171 10 = some (.invokevirtual 60, 3, 144, 0, 2, 5, 0, 0, 0) := cd_of gl_171 rfl
theorem cd_171_13 : sm_cd 171 13 = some (.aload_n 0, 1, 0, 0, 0, 0, 0, 0, 0) := cd_of gl_171 rfl
theorem cd_171_14 : sm_cd 171 14 = some (.getfield 13, 3, 0, 1, 2, 0, 0, 0, 0) := cd_of gl_171 rfl
theorem cd_171_17 : sm_cd 171 17 = some (.iconst 4, 1, 0, 0, 0, 0, 0, 4, 0) := cd_of gl_171 rfl
theorem cd_171_18 : sm_cd 171 18 = some (.iaload, 1, 0, 0, 0, 0, 0, 0, 0) := cd_of gl_171 rfl
theorem cd_171_19 : sm_cd 171 19 = some (.ifCond .ne 33, 3, 52, 0, 0, 0, 0, 0, 0) := cd_of gl_171 rfl
theorem cd_171_22 : sm_cd 171 22 = some (.aload_n 0, 1, 0, 0, 0, 0, 0, 0, 0) := cd_of gl_171 rfl
theorem cd_171_23 : sm_cd 171 23 = some (.bipush 6, 2, 0, 0, 0, 0, 0, 6, 0) := cd_of gl_171 rfl
theorem cd_171_25 : sm_cd 171 25 = some (.aload_n 0, 1, 0, 0, 0, 0, 0, 0, 0) := cd_of gl_171 rfl
theorem cd_171_26 : sm_cd 171 26 = some (.iconst 1, 1, 0, 0, 0, 0, 0, 1, 0) := cd_of gl_171 rfl
theorem cd_171_27 : sm_cd 171 27 = some (.invokevirtual 88, 3, 149, 0, 1, 2, 0, 0, 0) := cd_of gl_171 rfl
theorem cd_171_30 : sm_cd 171 30 = some (.invokevirtual 60, 3, 144, 0, 2, 5, 0, 0, 0) := cd_of gl_171 rfl
theorem cd_171_33 : sm_cd 171 33 = some (.aload_n 0, 1, 0, 0, 0, 0, 0, 0, 0) := cd_of gl_171 rfl
theorem cd_171_34 : sm_cd 171 34 = some (.iconst 3, 1, 0, 0, 0, 0, 0, 3, 0) := cd_of gl_171 rfl
theorem cd_171_35 : sm_cd 171 35 = some (.aload_n 0, 1, 0, 0, 0, 0, 0, 0, 0) := cd_of gl_171 rfl
theorem cd_171_36 : sm_cd 171 36 = some (.getfield 13, 3, 0, 1, 2, 0, 0, 0, 0) := cd_of gl_171 rfl
theorem cd_171_39 : sm_cd 171 39 = some (.iconst 3, 1, 0, 0, 0, 0, 0, 3, 0) := cd_of gl_171 rfl
theorem cd_171_40 : sm_cd 171 40 = some (.iaload, 1, 0, 0, 0, 0, 0, 0, 0) := cd_of gl_171 rfl
theorem cd_171_41 : sm_cd 171 41 = some (.iconst 1, 1, 0, 0, 0, 0, 0, 1, 0) := cd_of gl_171 rfl
theorem cd_171_42 : sm_cd 171 42 = some (.isub, 1, 0, 0, 0, 0, 0, 0, 0) := cd_of gl_171 rfl
theorem cd_171_43 : sm_cd 171 43 = some (.invokevirtual 60, 3, 144, 0, 2, 5, 0, 0, 0) := cd_of gl_171 rfl
theorem cd_171_46 : sm_cd 171 46 = some (.aload_n 0, 1, 0, 0, 0, 0, 0, 0, 0) := cd_of gl_171 rfl
theorem cd_171_47 : sm_cd 171 47 = some (.iconst 0, 1, 0, 0, 0, 0, 0, 0, 0) := cd_of gl_171 rfl
theorem cd_171_48 : sm_cd 171 48 = some (.iconst 1, 1, 0, 0, 0, 0, 0, 1, 0) := cd_of gl_171 rfl
theorem cd_171_49 : sm_cd 171 49 = some (.invokevirtual 60, 3, 144, 0, 2, 5, 0, 0, 0) := cd_of gl_171 rfl
theorem cd_171_52 : sm_cd 171 52 = some (.iconst 0, 1, 0, 0, 0, 0, 0, 0, 0) := cd_of gl_171 rfl
theorem cd_171_53 : sm_cd 171 53 = some (.ireturn, 1, 0, 0, 1, 0, 0, 0, 0) := cd_of gl_171 rfl
noncomputable def f_171 (K : Nat → Value) (k d : Nat) (l0 : Nat) (w : aW) (I : aI) (J : aJ) : Option aR :=
  gO w 0 l0 (
  gV w l0 1 fun q_1 =>
  gA w 10 20 q_1 4 (
  gO w 0 l0 (
  cV (Cl K d 144 [.ref l0, .int 4, .int ((I q_1 (4 : Int32).toNatClampNeg) - 1)] w I J) fun w_2 I_3 J_4 =>
  gO w_2 0 l0 (
  gV w_2 l0 1 fun q_5 =>
  gA w_2 10 20 q_5 4 (
  if ¬ (I_3 q_5 (4 : Int32).toNatClampNeg) = 0 then
    some (some (.int 0), w_2, I_3, J_4)
  else
    gO w_2 0 l0 (
    cI (Cl K d 149 [.ref l0, .int 1] w_2 I_3 J_4) fun x_9 w_6 I_7 J_8 =>
    gO w_6 0 l0 (
    cV (Cl K d 144 [.ref l0, .int 6, .int x_9] w_6 I_7 J_8) fun w_10 I_11 J_12 =>
    gO w_10 0 l0 (
    gV w_10 l0 1 fun q_13 =>
    gA w_10 10 20 q_13 3 (
    gO w_10 0 l0 (
    cV (Cl K d 144 [.ref l0, .int 3, .int ((I_11 q_13 (3 : Int32).toNatClampNeg) - 1)] w_10 I_11 J_12) fun w_14 I_15 J_16 =>
    gO w_14 0 l0 (
    cV (Cl K d 144 [.ref l0, .int 0, .int 1] w_14 I_15 J_16) fun w_17 I_18 J_19 =>
    some (some (.int 0), w_17, I_18, J_19))))))))))))
theorem ok_171 {K : Nat → Value} {k d : Nat} {l0 : Nat} {w : aW} {I : aI} {J : aJ} {R : aR} (h : f_171 K k d l0 w I J = some R) : Go K (d + 1) 171 0 [some (.ref l0)] [] w I J R := by
  unfold f_171 at h
  refine gs_0 (pc' := 1) (L' := [some (.ref l0)]) (st' := [.ref l0]) cd_171_0 rfl rfl ?_
  refine gs_0 (pc' := 2) (L' := [some (.ref l0)]) (st' := [.int 4, .ref l0]) cd_171_1 rfl rfl ?_
  refine gs_0 (pc' := 3) (L' := [some (.ref l0)]) (st' := [.ref l0, .int 4, .ref l0]) cd_171_2 rfl rfl ?_
  obtain ⟨ht, h⟩ := gO_s h
  obtain ⟨q_1, hv, h⟩ := gV_s h
  refine gs_gfR cd_171_3 (by decide) ht hv ?_
  refine gs_0 (pc' := 7) (L' := [some (.ref l0)]) (st' := [.int 4, .ref q_1, .int 4, .ref l0]) cd_171_6 rfl rfl ?_
  obtain ⟨ht, h⟩ := gA_s h
  refine gs_iald cd_171_7 ht ?_
  refine gs_0 (pc' := 9) (L' := [some (.ref l0)]) (st' := [.int 1, .int (I q_1 (4 : Int32).toNatClampNeg), .int 4, .ref l0]) cd_171_8 rfl rfl ?_
  refine gs_0 (pc' := 10) (L' := [some (.ref l0)]) (st' := [.int ((I q_1 (4 : Int32).toNatClampNeg) - 1), .int 4, .ref l0]) cd_171_9 rfl rfl ?_
  obtain ⟨ht, h⟩ := gO_s h
  obtain ⟨w_2, I_3, J_4, hcl, h⟩ := cV_s h
  refine gs_call (as := [.ref l0, .int 4, .int ((I q_1 (4 : Int32).toNatClampNeg) - 1)]) (rest := []) cd_171_10 rfl (by decide) rfl (sm_rv_ok (by decide) ht) (Nat.le_of_ble_eq_true rfl) (Nat.le_of_ble_eq_true rfl) rfl hcl ?_
  refine gs_0 (pc' := 14) (L' := [some (.ref l0)]) (st' := [.ref l0]) cd_171_13 rfl rfl ?_
  obtain ⟨ht, h⟩ := gO_s h
  obtain ⟨q_5, hv, h⟩ := gV_s h
  refine gs_gfR cd_171_14 (by decide) ht hv ?_
  refine gs_0 (pc' := 18) (L' := [some (.ref l0)]) (st' := [.int 4, .ref q_5]) cd_171_17 rfl rfl ?_
  obtain ⟨ht, h⟩ := gA_s h
  refine gs_iald cd_171_18 ht ?_
  refine gs_0 (pc' := if ¬ (I_3 q_5 (4 : Int32).toNatClampNeg) = 0 then 52 else 22) (L' := [some (.ref l0)]) (st' := []) cd_171_19 rfl rfl ?_
  refine go_ite (fun hc => ?_) (fun hc => ?_)
  · rw [if_pos hc] at h
    refine gs_0 (pc' := 53) (L' := [some (.ref l0)]) (st' := [.int 0]) cd_171_52 rfl rfl ?_
    cases h
    exact gs_ri cd_171_53 (Or.inl rfl)
  · rw [if_neg hc] at h
    refine gs_0 (pc' := 23) (L' := [some (.ref l0)]) (st' := [.ref l0]) cd_171_22 rfl rfl ?_
    refine gs_0 (pc' := 25) (L' := [some (.ref l0)]) (st' := [.int 6, .ref l0]) cd_171_23 rfl rfl ?_
    refine gs_0 (pc' := 26) (L' := [some (.ref l0)]) (st' := [.ref l0, .int 6, .ref l0]) cd_171_25 rfl rfl ?_
    refine gs_0 (pc' := 27) (L' := [some (.ref l0)]) (st' := [.int 1, .ref l0, .int 6, .ref l0]) cd_171_26 rfl rfl ?_
    obtain ⟨ht, h⟩ := gO_s h
    obtain ⟨x_9, w_6, I_7, J_8, hcl, h⟩ := cI_s h
    refine gs_call (as := [.ref l0, .int 1]) (rest := [.int 6, .ref l0]) cd_171_27 rfl (by decide) rfl (sm_rv_ok (by decide) ht) (Nat.le_of_ble_eq_true rfl) (Nat.le_of_ble_eq_true rfl) rfl hcl ?_
    obtain ⟨ht, h⟩ := gO_s h
    obtain ⟨w_10, I_11, J_12, hcl, h⟩ := cV_s h
    refine gs_call (as := [.ref l0, .int 6, .int x_9]) (rest := []) cd_171_30 rfl (by decide) rfl (sm_rv_ok (by decide) ht) (Nat.le_of_ble_eq_true rfl) (Nat.le_of_ble_eq_true rfl) rfl hcl ?_
    refine gs_0 (pc' := 34) (L' := [some (.ref l0)]) (st' := [.ref l0]) cd_171_33 rfl rfl ?_
    refine gs_0 (pc' := 35) (L' := [some (.ref l0)]) (st' := [.int 3, .ref l0]) cd_171_34 rfl rfl ?_
    refine gs_0 (pc' := 36) (L' := [some (.ref l0)]) (st' := [.ref l0, .int 3, .ref l0]) cd_171_35 rfl rfl ?_
    obtain ⟨ht, h⟩ := gO_s h
    obtain ⟨q_13, hv, h⟩ := gV_s h
    refine gs_gfR cd_171_36 (by decide) ht hv ?_
    refine gs_0 (pc' := 40) (L' := [some (.ref l0)]) (st' := [.int 3, .ref q_13, .int 3, .ref l0]) cd_171_39 rfl rfl ?_
    obtain ⟨ht, h⟩ := gA_s h
    refine gs_iald cd_171_40 ht ?_
    refine gs_0 (pc' := 42) (L' := [some (.ref l0)]) (st' := [.int 1, .int (I_11 q_13 (3 : Int32).toNatClampNeg), .int 3, .ref l0]) cd_171_41 rfl rfl ?_
    refine gs_0 (pc' := 43) (L' := [some (.ref l0)]) (st' := [.int ((I_11 q_13 (3 : Int32).toNatClampNeg) - 1), .int 3, .ref l0]) cd_171_42 rfl rfl ?_
    obtain ⟨ht, h⟩ := gO_s h
    obtain ⟨w_14, I_15, J_16, hcl, h⟩ := cV_s h
    refine gs_call (as := [.ref l0, .int 3, .int ((I_11 q_13 (3 : Int32).toNatClampNeg) - 1)]) (rest := []) cd_171_43 rfl (by decide) rfl (sm_rv_ok (by decide) ht) (Nat.le_of_ble_eq_true rfl) (Nat.le_of_ble_eq_true rfl) rfl hcl ?_
    refine gs_0 (pc' := 47) (L' := [some (.ref l0)]) (st' := [.ref l0]) cd_171_46 rfl rfl ?_
    refine gs_0 (pc' := 48) (L' := [some (.ref l0)]) (st' := [.int 0, .ref l0]) cd_171_47 rfl rfl ?_
    refine gs_0 (pc' := 49) (L' := [some (.ref l0)]) (st' := [.int 1, .int 0, .ref l0]) cd_171_48 rfl rfl ?_
    obtain ⟨ht, h⟩ := gO_s h
    obtain ⟨w_17, I_18, J_19, hcl, h⟩ := cV_s h
    refine gs_call (as := [.ref l0, .int 0, .int 1]) (rest := []) cd_171_49 rfl (by decide) rfl (sm_rv_ok (by decide) ht) (Nat.le_of_ble_eq_true rfl) (Nat.le_of_ble_eq_true rfl) rfl hcl ?_
    refine gs_0 (pc' := 53) (L' := [some (.ref l0)]) (st' := [.int 0]) cd_171_52 rfl rfl ?_
    cases h
    exact gs_ri cd_171_53 (Or.inl rfl)
theorem cl_171 {K : Nat → Value} {k d : Nat} {l0 : Nat} {w : aW} {I : aI} {J : aJ} {R : aR} (h : f_171 K k d l0 w I J = some R) : Cl K (d + 1) 171 [.ref l0] w I J = some R := Cl_of (ok_171 h)
/-! ProvedMachine$Machine.print()I -/
set_option maxRecDepth 20000 in
theorem gl_172 : gcd.lookup 172 = some gw_172 := rfl
theorem cd_172_0 : sm_cd 172 0 = some (.aload_n 0, 1, 0, 0, 0, 0, 0, 0, 0) := cd_of gl_172 rfl
theorem cd_172_1 : sm_cd 172 1 = some (.getfield 13, 3, 0, 1, 2, 0, 0, 0, 0) := cd_of gl_172 rfl
theorem cd_172_4 : sm_cd 172 4 = some (.iconst 5, 1, 0, 0, 0, 0, 0, 5, 0) := cd_of gl_172 rfl
theorem cd_172_5 : sm_cd 172 5 = some (.iaload, 1, 0, 0, 0, 0, 0, 0, 0) := cd_of gl_172 rfl
theorem cd_172_6 : sm_cd 172 6 = some (.istore_n 1, 1, 1, 0, 0, 0, 0, 0, 0) := cd_of gl_172 rfl
theorem cd_172_7 : sm_cd 172 7 = some (.iload_n 1, 1, 1, 0, 0, 0, 0, 0, 0) := cd_of gl_172 rfl
theorem cd_172_8 : sm_cd 172 8 = some (.bipush 20, 2, 0, 0, 0, 0, 0, 20, 0) := cd_of gl_172 rfl
theorem cd_172_10 : sm_cd 172 10 = some (.if_icmp .lt 6, 3, 16, 0, 0, 0, 0, 0, 0) := cd_of gl_172 rfl
theorem cd_172_13 : sm_cd 172 13 = some (.bipush 8, 2, 0, 0, 0, 0, 0, 8, 0) := cd_of gl_172 rfl
theorem cd_172_15 : sm_cd 172 15 = some (.ireturn, 1, 0, 0, 1, 0, 0, 0, 0) := cd_of gl_172 rfl
theorem cd_172_16 : sm_cd 172 16 = some (.aload_n 0, 1, 0, 0, 0, 0, 0, 0, 0) := cd_of gl_172 rfl
theorem cd_172_17 : sm_cd 172 17 = some (.bipush 67, 2, 0, 0, 0, 0, 0, 67, 0) := cd_of gl_172 rfl
theorem cd_172_19 : sm_cd 172 19 = some (.iload_n 1, 1, 1, 0, 0, 0, 0, 0, 0) := cd_of gl_172 rfl
theorem cd_172_20 : sm_cd 172 20 = some (.iadd, 1, 0, 0, 0, 0, 0, 0, 0) := cd_of gl_172 rfl
theorem cd_172_21 : sm_cd 172 21 = some (.aload_n 0, 1, 0, 0, 0, 0, 0, 0, 0) := cd_of gl_172 rfl
theorem cd_172_22 : sm_cd 172 22 = some (.iconst 1, 1, 0, 0, 0, 0, 0, 1, 0) := cd_of gl_172 rfl
theorem cd_172_23 : sm_cd 172 23 = some (.invokevirtual 88, 3, 149, 0, 1, 2, 0, 0, 0) := cd_of gl_172 rfl
theorem cd_172_26 : sm_cd 172 26 = some (.invokevirtual 60, 3, 144, 0, 2, 5, 0, 0, 0) := cd_of gl_172 rfl
theorem cd_172_29 : sm_cd 172 29 = some (.aload_n 0, 1, 0, 0, 0, 0, 0, 0, 0) := cd_of gl_172 rfl
theorem cd_172_30 : sm_cd 172 30 = some (.iconst 5, 1, 0, 0, 0, 0, 0, 5, 0) := cd_of gl_172 rfl
theorem cd_172_31 : sm_cd 172 31 = some (.iload_n 1, 1, 1, 0, 0, 0, 0, 0, 0) := cd_of gl_172 rfl
theorem cd_172_32 : sm_cd 172 32 = some (.iconst 1, 1, 0, 0, 0, 0, 0, 1, 0) := cd_of gl_172 rfl
theorem cd_172_33 : sm_cd 172 33 = some (.iadd, 1, 0, 0, 0, 0, 0, 0, 0) := cd_of gl_172 rfl
theorem cd_172_34 : sm_cd 172 34 = some (.invokevirtual 60, 3, 144, 0, 2, 5, 0, 0, 0) := cd_of gl_172 rfl
theorem cd_172_37 : sm_cd 172 37 = some (.aload_n 0, 1, 0, 0, 0, 0, 0, 0, 0) := cd_of gl_172 rfl
theorem cd_172_38 : sm_cd 172 38 = some (.iconst 1, 1, 0, 0, 0, 0, 0, 1, 0) := cd_of gl_172 rfl
theorem cd_172_39 : sm_cd 172 39 = some (.invokevirtual 129, 3, 164, 0, 1, 2, 0, 0, 0) := cd_of gl_172 rfl
theorem cd_172_42 : sm_cd 172 42 = some (.ireturn, 1, 0, 0, 1, 0, 0, 0, 0) := cd_of gl_172 rfl
noncomputable def f_172 (K : Nat → Value) (k d : Nat) (l0 : Nat) (w : aW) (I : aI) (J : aJ) : Option aR :=
  gO w 0 l0 (
  gV w l0 1 fun q_1 =>
  gA w 10 20 q_1 5 (
  lt_ (I q_1 (5 : Int32).toNatClampNeg) fun x_2 =>
  if x_2 < 20 then
    gO w 0 l0 (
    cI (Cl K d 149 [.ref l0, .int 1] w I J) fun x_6 w_3 I_4 J_5 =>
    gO w_3 0 l0 (
    cV (Cl K d 144 [.ref l0, .int (67 + x_2), .int x_6] w_3 I_4 J_5) fun w_7 I_8 J_9 =>
    gO w_7 0 l0 (
    cV (Cl K d 144 [.ref l0, .int 5, .int (x_2 + 1)] w_7 I_8 J_9) fun w_10 I_11 J_12 =>
    gO w_10 0 l0 (
    cI (Cl K d 164 [.ref l0, .int 1] w_10 I_11 J_12) fun x_16 w_13 I_14 J_15 =>
    some (some (.int x_16), w_13, I_14, J_15)))))
  else
    some (some (.int 8), w, I, J)))
theorem ok_172 {K : Nat → Value} {k d : Nat} {l0 : Nat} {w : aW} {I : aI} {J : aJ} {R : aR} (h : f_172 K k d l0 w I J = some R) : Go K (d + 1) 172 0 [some (.ref l0), none] [] w I J R := by
  unfold f_172 at h
  refine gs_0 (pc' := 1) (L' := [some (.ref l0), none]) (st' := [.ref l0]) cd_172_0 rfl rfl ?_
  obtain ⟨ht, h⟩ := gO_s h
  obtain ⟨q_1, hv, h⟩ := gV_s h
  refine gs_gfR cd_172_1 (by decide) ht hv ?_
  refine gs_0 (pc' := 5) (L' := [some (.ref l0), none]) (st' := [.int 5, .ref q_1]) cd_172_4 rfl rfl ?_
  obtain ⟨ht, h⟩ := gA_s h
  refine gs_iald cd_172_5 ht ?_
  refine gs_0 (pc' := 7) (L' := [some (.ref l0), some (.int (I q_1 (5 : Int32).toNatClampNeg))]) (st' := []) cd_172_6 rfl rfl ?_
  obtain ⟨x_2, hx, h⟩ := lt_s_ h
  rw [hx]
  clear hx
  refine gs_0 (pc' := 8) (L' := [some (.ref l0), some (.int x_2)]) (st' := [.int x_2]) cd_172_7 rfl rfl ?_
  refine gs_0 (pc' := 10) (L' := [some (.ref l0), some (.int x_2)]) (st' := [.int 20, .int x_2]) cd_172_8 rfl rfl ?_
  refine gs_0 (pc' := if x_2 < 20 then 16 else 13) (L' := [some (.ref l0), some (.int x_2)]) (st' := []) cd_172_10 rfl rfl ?_
  refine go_ite (fun hc => ?_) (fun hc => ?_)
  · rw [if_pos hc] at h
    refine gs_0 (pc' := 17) (L' := [some (.ref l0), some (.int x_2)]) (st' := [.ref l0]) cd_172_16 rfl rfl ?_
    refine gs_0 (pc' := 19) (L' := [some (.ref l0), some (.int x_2)]) (st' := [.int 67, .ref l0]) cd_172_17 rfl rfl ?_
    refine gs_0 (pc' := 20) (L' := [some (.ref l0), some (.int x_2)]) (st' := [.int x_2, .int 67, .ref l0]) cd_172_19 rfl rfl ?_
    refine gs_0 (pc' := 21) (L' := [some (.ref l0), some (.int x_2)]) (st' := [.int (67 + x_2), .ref l0]) cd_172_20 rfl rfl ?_
    refine gs_0 (pc' := 22) (L' := [some (.ref l0), some (.int x_2)]) (st' := [.ref l0, .int (67 + x_2), .ref l0]) cd_172_21 rfl rfl ?_
    refine gs_0 (pc' := 23) (L' := [some (.ref l0), some (.int x_2)]) (st' := [.int 1, .ref l0, .int (67 + x_2), .ref l0]) cd_172_22 rfl rfl ?_
    obtain ⟨ht, h⟩ := gO_s h
    obtain ⟨x_6, w_3, I_4, J_5, hcl, h⟩ := cI_s h
    refine gs_call (as := [.ref l0, .int 1]) (rest := [.int (67 + x_2), .ref l0]) cd_172_23 rfl (by decide) rfl (sm_rv_ok (by decide) ht) (Nat.le_of_ble_eq_true rfl) (Nat.le_of_ble_eq_true rfl) rfl hcl ?_
    obtain ⟨ht, h⟩ := gO_s h
    obtain ⟨w_7, I_8, J_9, hcl, h⟩ := cV_s h
    refine gs_call (as := [.ref l0, .int (67 + x_2), .int x_6]) (rest := []) cd_172_26 rfl (by decide) rfl (sm_rv_ok (by decide) ht) (Nat.le_of_ble_eq_true rfl) (Nat.le_of_ble_eq_true rfl) rfl hcl ?_
    refine gs_0 (pc' := 30) (L' := [some (.ref l0), some (.int x_2)]) (st' := [.ref l0]) cd_172_29 rfl rfl ?_
    refine gs_0 (pc' := 31) (L' := [some (.ref l0), some (.int x_2)]) (st' := [.int 5, .ref l0]) cd_172_30 rfl rfl ?_
    refine gs_0 (pc' := 32) (L' := [some (.ref l0), some (.int x_2)]) (st' := [.int x_2, .int 5, .ref l0]) cd_172_31 rfl rfl ?_
    refine gs_0 (pc' := 33) (L' := [some (.ref l0), some (.int x_2)]) (st' := [.int 1, .int x_2, .int 5, .ref l0]) cd_172_32 rfl rfl ?_
    refine gs_0 (pc' := 34) (L' := [some (.ref l0), some (.int x_2)]) (st' := [.int (x_2 + 1), .int 5, .ref l0]) cd_172_33 rfl rfl ?_
    obtain ⟨ht, h⟩ := gO_s h
    obtain ⟨w_10, I_11, J_12, hcl, h⟩ := cV_s h
    refine gs_call (as := [.ref l0, .int 5, .int (x_2 + 1)]) (rest := []) cd_172_34 rfl (by decide) rfl (sm_rv_ok (by decide) ht) (Nat.le_of_ble_eq_true rfl) (Nat.le_of_ble_eq_true rfl) rfl hcl ?_
    refine gs_0 (pc' := 38) (L' := [some (.ref l0), some (.int x_2)]) (st' := [.ref l0]) cd_172_37 rfl rfl ?_
    refine gs_0 (pc' := 39) (L' := [some (.ref l0), some (.int x_2)]) (st' := [.int 1, .ref l0]) cd_172_38 rfl rfl ?_
    obtain ⟨ht, h⟩ := gO_s h
    obtain ⟨x_16, w_13, I_14, J_15, hcl, h⟩ := cI_s h
    refine gs_call (as := [.ref l0, .int 1]) (rest := []) cd_172_39 rfl (by decide) rfl (sm_rv_ok (by decide) ht) (Nat.le_of_ble_eq_true rfl) (Nat.le_of_ble_eq_true rfl) rfl hcl ?_
    cases h
    exact gs_ri cd_172_42 (Or.inl rfl)
  · rw [if_neg hc] at h
    refine gs_0 (pc' := 15) (L' := [some (.ref l0), some (.int x_2)]) (st' := [.int 8]) cd_172_13 rfl rfl ?_
    cases h
    exact gs_ri cd_172_15 (Or.inl rfl)
theorem cl_172 {K : Nat → Value} {k d : Nat} {l0 : Nat} {w : aW} {I : aI} {J : aJ} {R : aR} (h : f_172 K k d l0 w I J = some R) : Cl K (d + 1) 172 [.ref l0] w I J = some R := Cl_of (ok_172 h)
/-! ProvedMachine$Machine.ofOne(I)I -/
set_option maxRecDepth 20000 in
theorem gl_173 : gcd.lookup 173 = some gw_173 := rfl
theorem cd_173_0 : sm_cd 173 0 = some (.aload_n 0, 1, 0, 0, 0, 0, 0, 0, 0) := cd_of gl_173 rfl
theorem cd_173_1 : sm_cd 173 1 = some (.iconst 1, 1, 0, 0, 0, 0, 0, 1, 0) := cd_of gl_173 rfl
theorem cd_173_2 : sm_cd 173 2 = some (.invokevirtual 88, 3, 149, 0, 1, 2, 0, 0, 0) := cd_of gl_173 rfl
theorem cd_173_5 : sm_cd 173 5 = some (.istore_n 2, 1, 2, 0, 0, 0, 0, 0, 0) := cd_of gl_173 rfl
theorem cd_173_6 : sm_cd 173 6 = some (.iload_n 1, 1, 1, 0, 0, 0, 0, 0, 0) := cd_of gl_173 rfl
theorem cd_173_7 : sm_cd 173 7 = some (.iconst 5, 1, 0, 0, 0, 0, 0, 5, 0) := cd_of gl_173 rfl
theorem cd_173_8 : sm_cd 173 8 = some (.if_icmp .ne 12, 3, 20, 0, 0, 0, 0, 0, 0) := cd_of gl_173 rfl
theorem cd_173_11 : sm_cd 173 11 = some (.aload_n 0, 1, 0, 0, 0, 0, 0, 0, 0) := cd_of gl_173 rfl
theorem cd_173_12 : sm_cd 173 12 = some (.iconst 1, 1, 0, 0, 0, 0, 0, 1, 0) := cd_of gl_173 rfl
theorem cd_173_13 : sm_cd 173 13 = some (.iload_n 2, 1, 2, 0, 0, 0, 0, 0, 0) := cd_of gl_173 rfl
theorem cd_173_14 : sm_cd 173 14 = some (.ineg, 1, 0, 0, 0, 0, 0, 0, 0) := cd_of gl_173 rfl
theorem cd_173_15 : sm_cd 173 15 = some (.iconst 0, 1, 0, 0, 0, 0, 0, 0, 0) := cd_of gl_173 rfl
theorem cd_173_16 : sm_cd 173 16 = some (.invokevirtual 153, 3, 161, 0, 3, 5, 0, 0, 0) := cd_of gl_173 rfl
theorem cd_173_19 : sm_cd 173 19 = some (.ireturn, 1, 0, 0, 1, 0, 0, 0, 0) := cd_of gl_173 rfl
theorem cd_173_20 : sm_cd 173 20 = some (.iload_n 1, 1, 1, 0, 0, 0, 0, 0, 0) := cd_of gl_173 rfl
theorem cd_173_21 : sm_cd 173 21 = some (.bipush 6, 2, 0, 0, 0, 0, 0, 6, 0) := cd_of gl_173 rfl
theorem cd_173_23 : sm_cd 173 23 = some (.if_icmp .ne 13, 3, 36, 0, 0, 0, 0, 0, 0) := cd_of gl_173 rfl
theorem cd_173_26 : sm_cd 173 26 = some (.aload_n 0, 1, 0, 0, 0, 0, 0, 0, 0) := cd_of gl_173 rfl
theorem cd_173_27 : sm_cd 173 27 = some (.iconst 1, 1, 0, 0, 0, 0, 0, 1, 0) := cd_of gl_173 rfl
theorem cd_173_28 : sm_cd 173 28 = some (.iconst 1, 1, 0, 0, 0, 0, 0, 1, 0) := cd_of gl_173 rfl
theorem cd_173_29 : sm_cd 173 29 = some (.iload_n 2, 1, 2, 0, 0, 0, 0, 0, 0) := cd_of gl_173 rfl
theorem cd_173_30 : sm_cd 173 30 = some (.isub, 1, 0, 0, 0, 0, 0, 0, 0) := cd_of gl_173 rfl
theorem cd_173_31 : sm_cd 173 31 = some (.iconst 1, 1, 0, 0, 0, 0, 0, 1, 0) := cd_of gl_173 rfl
theorem cd_173_32 : sm_cd 173 32 = some (.invokevirtual 153, 3, 161, 0, 3, 5, 0, 0, 0) := cd_of gl_173 rfl
theorem cd_173_35 : sm_cd 173 35 = some (.ireturn, 1, 0, 0, 1, 0, 0, 0, 0) := cd_of gl_173 rfl
theorem cd_173_36 : sm_cd 173 36 = some (.iload_n 2, 1, 2, 0, 0, 0, 0, 0, 0) := cd_of gl_173 rfl
theorem cd_173_37 : sm_cd 173 37 = some (.ifCond .ne 5, 3, 42, 0, 0, 0, 0, 0, 0) := cd_of gl_173 rfl
theorem cd_173_40 : sm_cd 173 40 = some (.iconst 4, 1, 0, 0, 0, 0, 0, 4, 0) := cd_of gl_173 rfl
theorem cd_173_41 : sm_cd 173 41 = some (.ireturn, 1, 0, 0, 1, 0, 0, 0, 0) := cd_of gl_173 rfl
theorem cd_173_42 : sm_cd 173 42 = some (.iload_n 1, 1, 1, 0, 0, 0, 0, 0, 0) := cd_of gl_173 rfl
theorem cd_173_43 : sm_cd 173 43 = some (.bipush 9, 2, 0, 0, 0, 0, 0, 9, 0) := cd_of gl_173 rfl
theorem cd_173_45 : sm_cd 173 45 = some (.if_icmp .ne 20, 3, 65, 0, 0, 0, 0, 0, 0) := cd_of gl_173 rfl
theorem cd_173_48 : sm_cd 173 48 = some (.aload_n 0, 1, 0, 0, 0, 0, 0, 0, 0) := cd_of gl_173 rfl
theorem cd_173_49 : sm_cd 173 49 = some (.iconst 1, 1, 0, 0, 0, 0, 0, 1, 0) := cd_of gl_173 rfl
theorem cd_173_50 : sm_cd 173 50 = some (.aload_n 0, 1, 0, 0, 0, 0, 0, 0, 0) := cd_of gl_173 rfl
theorem cd_173_51 : sm_cd 173 51 = some (.iload_n 2, 1, 2, 0, 0, 0, 0, 0, 0) := cd_of gl_173 rfl
theorem cd_173_52 : sm_cd 173 52 = some (.invokestatic 111, 3, 152, 1, 1, 1, 0, 0, 0) := cd_of gl_173 rfl
theorem cd_173_55 : sm_cd 173 55 = some (.iconst 2, 1, 0, 0, 0, 0, 0, 2, 0) := cd_of gl_173 rfl
theorem cd_173_56 : sm_cd 173 56 = some (.iadd, 1, 0, 0, 0, 0, 0, 0, 0) := cd_of gl_173 rfl
theorem cd_173_57 : sm_cd 173 57 = some (.invokevirtual 105, 3, 147, 0, 1, 2, 0, 0, 0) := cd_of gl_173 rfl
theorem cd_173_60 : sm_cd 173 60 = some (.iconst 3, 1, 0, 0, 0, 0, 0, 3, 0) := cd_of gl_173 rfl
theorem cd_173_61 : sm_cd 173 61 = some (.invokevirtual 153, 3, 161, 0, 3, 5, 0, 0, 0) := cd_of gl_173 rfl
theorem cd_173_64 : sm_cd 173 64 = some (.ireturn, 1, 0, 0, 1, 0, 0, 0, 0) := cd_of gl_173 rfl
theorem cd_173_65 : sm_cd 173 65 = some (.aload_n 0, 1, 0, 0, 0, 0, 0, 0, 0) := cd_of gl_173 rfl
theorem cd_173_66 : sm_cd 173 66 = some (.iconst 1, 1, 0, 0, 0, 0, 0, 1, 0) := cd_of gl_173 rfl
theorem cd_173_67 : sm_cd 173 67 = some (.aload_n 0, 1, 0, 0, 0, 0, 0, 0, 0) := cd_of gl_173 rfl
theorem cd_173_68 : sm_cd 173 68 = some (.iload_n 2, 1, 2, 0, 0, 0, 0, 0, 0) := cd_of gl_173 rfl
theorem cd_173_69 : sm_cd 173 69 = some (.invokestatic 111, 3, 152, 1, 1, 1, 0, 0, 0) := cd_of gl_173 rfl
theorem cd_173_72 : sm_cd 173 72 = some (.iconst 1, 1, 0, 0, 0, 0, 0, 1, 0) := cd_of gl_173 rfl
theorem cd_173_73 : sm_cd 173 73 = some (.iadd, 1, 0, 0, 0, 0, 0, 0, 0) := cd_of gl_173 rfl
theorem cd_173_74 : sm_cd 173 74 = some (.invokevirtual 105, 3, 147, 0, 1, 2, 0, 0, 0) := cd_of gl_173 rfl
theorem cd_173_77 : sm_cd 173 77 = some (.iconst 0, 1, 0, 0, 0, 0, 0, 0, 0) := cd_of gl_173 rfl
theorem cd_173_78 : sm_cd 173 78 = some (.invokevirtual 153, 3, 161, 0, 3, 5, 0, 0, 0) := cd_of gl_173 rfl
theorem cd_173_81 : sm_cd 173 81 = some (.ireturn, 1, 0, 0, 1, 0, 0, 0, 0) := cd_of gl_173 rfl
noncomputable def f_173 (K : Nat → Value) (k d : Nat) (l0 : Nat) (l1 : Int32) (w : aW) (I : aI) (J : aJ) : Option aR :=
  gO w 0 l0 (
  cI (Cl K d 149 [.ref l0, .int 1] w I J) fun x_4 w_1 I_2 J_3 =>
  if ¬ l1 = 5 then
    if ¬ l1 = 6 then
      if ¬ x_4 = 0 then
        if ¬ l1 = 9 then
          cI (Cl K d 152 [.int x_4] w_1 I_2 J_3) fun x_8 w_5 I_6 J_7 =>
          gO w_5 0 l0 (
          cI (Cl K d 147 [.ref l0, .int (x_8 + 1)] w_5 I_6 J_7) fun x_12 w_9 I_10 J_11 =>
          gO w_9 0 l0 (
          cI (Cl K d 161 [.ref l0, .int 1, .int x_12, .int 0] w_9 I_10 J_11) fun x_16 w_13 I_14 J_15 =>
          some (some (.int x_16), w_13, I_14, J_15)))
        else
          cI (Cl K d 152 [.int x_4] w_1 I_2 J_3) fun x_20 w_17 I_18 J_19 =>
          gO w_17 0 l0 (
          cI (Cl K d 147 [.ref l0, .int (x_20 + 2)] w_17 I_18 J_19) fun x_24 w_21 I_22 J_23 =>
          gO w_21 0 l0 (
          cI (Cl K d 161 [.ref l0, .int 1, .int x_24, .int 3] w_21 I_22 J_23) fun x_28 w_25 I_26 J_27 =>
          some (some (.int x_28), w_25, I_26, J_27)))
      else
        some (some (.int 4), w_1, I_2, J_3)
    else
      gO w_1 0 l0 (
      cI (Cl K d 161 [.ref l0, .int 1, .int (1 - x_4), .int 1] w_1 I_2 J_3) fun x_32 w_29 I_30 J_31 =>
      some (some (.int x_32), w_29, I_30, J_31))
  else
    gO w_1 0 l0 (
    cI (Cl K d 161 [.ref l0, .int 1, .int (-x_4), .int 0] w_1 I_2 J_3) fun x_36 w_33 I_34 J_35 =>
    some (some (.int x_36), w_33, I_34, J_35)))
theorem ok_173 {K : Nat → Value} {k d : Nat} {l0 : Nat} {l1 : Int32} {w : aW} {I : aI} {J : aJ} {R : aR} (h : f_173 K k d l0 l1 w I J = some R) : Go K (d + 1) 173 0 [some (.ref l0), some (.int l1), none] [] w I J R := by
  unfold f_173 at h
  refine gs_0 (pc' := 1) (L' := [some (.ref l0), some (.int l1), none]) (st' := [.ref l0]) cd_173_0 rfl rfl ?_
  refine gs_0 (pc' := 2) (L' := [some (.ref l0), some (.int l1), none]) (st' := [.int 1, .ref l0]) cd_173_1 rfl rfl ?_
  obtain ⟨ht, h⟩ := gO_s h
  obtain ⟨x_4, w_1, I_2, J_3, hcl, h⟩ := cI_s h
  refine gs_call (as := [.ref l0, .int 1]) (rest := []) cd_173_2 rfl (by decide) rfl (sm_rv_ok (by decide) ht) (Nat.le_of_ble_eq_true rfl) (Nat.le_of_ble_eq_true rfl) rfl hcl ?_
  refine gs_0 (pc' := 6) (L' := [some (.ref l0), some (.int l1), some (.int x_4)]) (st' := []) cd_173_5 rfl rfl ?_
  refine gs_0 (pc' := 7) (L' := [some (.ref l0), some (.int l1), some (.int x_4)]) (st' := [.int l1]) cd_173_6 rfl rfl ?_
  refine gs_0 (pc' := 8) (L' := [some (.ref l0), some (.int l1), some (.int x_4)]) (st' := [.int 5, .int l1]) cd_173_7 rfl rfl ?_
  refine gs_0 (pc' := if ¬ l1 = 5 then 20 else 11) (L' := [some (.ref l0), some (.int l1), some (.int x_4)]) (st' := []) cd_173_8 rfl rfl ?_
  refine go_ite (fun hc => ?_) (fun hc => ?_)
  · rw [if_pos hc] at h
    refine gs_0 (pc' := 21) (L' := [some (.ref l0), some (.int l1), some (.int x_4)]) (st' := [.int l1]) cd_173_20 rfl rfl ?_
    refine gs_0 (pc' := 23) (L' := [some (.ref l0), some (.int l1), some (.int x_4)]) (st' := [.int 6, .int l1]) cd_173_21 rfl rfl ?_
    refine gs_0 (pc' := if ¬ l1 = 6 then 36 else 26) (L' := [some (.ref l0), some (.int l1), some (.int x_4)]) (st' := []) cd_173_23 rfl rfl ?_
    refine go_ite (fun hc => ?_) (fun hc => ?_)
    · rw [if_pos hc] at h
      refine gs_0 (pc' := 37) (L' := [some (.ref l0), some (.int l1), some (.int x_4)]) (st' := [.int x_4]) cd_173_36 rfl rfl ?_
      refine gs_0 (pc' := if ¬ x_4 = 0 then 42 else 40) (L' := [some (.ref l0), some (.int l1), some (.int x_4)]) (st' := []) cd_173_37 rfl rfl ?_
      refine go_ite (fun hc => ?_) (fun hc => ?_)
      · rw [if_pos hc] at h
        refine gs_0 (pc' := 43) (L' := [some (.ref l0), some (.int l1), some (.int x_4)]) (st' := [.int l1]) cd_173_42 rfl rfl ?_
        refine gs_0 (pc' := 45) (L' := [some (.ref l0), some (.int l1), some (.int x_4)]) (st' := [.int 9, .int l1]) cd_173_43 rfl rfl ?_
        refine gs_0 (pc' := if ¬ l1 = 9 then 65 else 48) (L' := [some (.ref l0), some (.int l1), some (.int x_4)]) (st' := []) cd_173_45 rfl rfl ?_
        refine go_ite (fun hc => ?_) (fun hc => ?_)
        · rw [if_pos hc] at h
          refine gs_0 (pc' := 66) (L' := [some (.ref l0), some (.int l1), some (.int x_4)]) (st' := [.ref l0]) cd_173_65 rfl rfl ?_
          refine gs_0 (pc' := 67) (L' := [some (.ref l0), some (.int l1), some (.int x_4)]) (st' := [.int 1, .ref l0]) cd_173_66 rfl rfl ?_
          refine gs_0 (pc' := 68) (L' := [some (.ref l0), some (.int l1), some (.int x_4)]) (st' := [.ref l0, .int 1, .ref l0]) cd_173_67 rfl rfl ?_
          refine gs_0 (pc' := 69) (L' := [some (.ref l0), some (.int l1), some (.int x_4)]) (st' := [.int x_4, .ref l0, .int 1, .ref l0]) cd_173_68 rfl rfl ?_
          obtain ⟨x_8, w_5, I_6, J_7, hcl, h⟩ := cI_s h
          refine gs_call (as := [.int x_4]) (rest := [.ref l0, .int 1, .ref l0]) cd_173_69 rfl (by decide) rfl rfl (Nat.le_of_ble_eq_true rfl) (Nat.le_of_ble_eq_true rfl) rfl hcl ?_
          refine gs_0 (pc' := 73) (L' := [some (.ref l0), some (.int l1), some (.int x_4)]) (st' := [.int 1, .int x_8, .ref l0, .int 1, .ref l0]) cd_173_72 rfl rfl ?_
          refine gs_0 (pc' := 74) (L' := [some (.ref l0), some (.int l1), some (.int x_4)]) (st' := [.int (x_8 + 1), .ref l0, .int 1, .ref l0]) cd_173_73 rfl rfl ?_
          obtain ⟨ht, h⟩ := gO_s h
          obtain ⟨x_12, w_9, I_10, J_11, hcl, h⟩ := cI_s h
          refine gs_call (as := [.ref l0, .int (x_8 + 1)]) (rest := [.int 1, .ref l0]) cd_173_74 rfl (by decide) rfl (sm_rv_ok (by decide) ht) (Nat.le_of_ble_eq_true rfl) (Nat.le_of_ble_eq_true rfl) rfl hcl ?_
          refine gs_0 (pc' := 78) (L' := [some (.ref l0), some (.int l1), some (.int x_4)]) (st' := [.int 0, .int x_12, .int 1, .ref l0]) cd_173_77 rfl rfl ?_
          obtain ⟨ht, h⟩ := gO_s h
          obtain ⟨x_16, w_13, I_14, J_15, hcl, h⟩ := cI_s h
          refine gs_call (as := [.ref l0, .int 1, .int x_12, .int 0]) (rest := []) cd_173_78 rfl (by decide) rfl (sm_rv_ok (by decide) ht) (Nat.le_of_ble_eq_true rfl) (Nat.le_of_ble_eq_true rfl) rfl hcl ?_
          cases h
          exact gs_ri cd_173_81 (Or.inl rfl)
        · rw [if_neg hc] at h
          refine gs_0 (pc' := 49) (L' := [some (.ref l0), some (.int l1), some (.int x_4)]) (st' := [.ref l0]) cd_173_48 rfl rfl ?_
          refine gs_0 (pc' := 50) (L' := [some (.ref l0), some (.int l1), some (.int x_4)]) (st' := [.int 1, .ref l0]) cd_173_49 rfl rfl ?_
          refine gs_0 (pc' := 51) (L' := [some (.ref l0), some (.int l1), some (.int x_4)]) (st' := [.ref l0, .int 1, .ref l0]) cd_173_50 rfl rfl ?_
          refine gs_0 (pc' := 52) (L' := [some (.ref l0), some (.int l1), some (.int x_4)]) (st' := [.int x_4, .ref l0, .int 1, .ref l0]) cd_173_51 rfl rfl ?_
          obtain ⟨x_20, w_17, I_18, J_19, hcl, h⟩ := cI_s h
          refine gs_call (as := [.int x_4]) (rest := [.ref l0, .int 1, .ref l0]) cd_173_52 rfl (by decide) rfl rfl (Nat.le_of_ble_eq_true rfl) (Nat.le_of_ble_eq_true rfl) rfl hcl ?_
          refine gs_0 (pc' := 56) (L' := [some (.ref l0), some (.int l1), some (.int x_4)]) (st' := [.int 2, .int x_20, .ref l0, .int 1, .ref l0]) cd_173_55 rfl rfl ?_
          refine gs_0 (pc' := 57) (L' := [some (.ref l0), some (.int l1), some (.int x_4)]) (st' := [.int (x_20 + 2), .ref l0, .int 1, .ref l0]) cd_173_56 rfl rfl ?_
          obtain ⟨ht, h⟩ := gO_s h
          obtain ⟨x_24, w_21, I_22, J_23, hcl, h⟩ := cI_s h
          refine gs_call (as := [.ref l0, .int (x_20 + 2)]) (rest := [.int 1, .ref l0]) cd_173_57 rfl (by decide) rfl (sm_rv_ok (by decide) ht) (Nat.le_of_ble_eq_true rfl) (Nat.le_of_ble_eq_true rfl) rfl hcl ?_
          refine gs_0 (pc' := 61) (L' := [some (.ref l0), some (.int l1), some (.int x_4)]) (st' := [.int 3, .int x_24, .int 1, .ref l0]) cd_173_60 rfl rfl ?_
          obtain ⟨ht, h⟩ := gO_s h
          obtain ⟨x_28, w_25, I_26, J_27, hcl, h⟩ := cI_s h
          refine gs_call (as := [.ref l0, .int 1, .int x_24, .int 3]) (rest := []) cd_173_61 rfl (by decide) rfl (sm_rv_ok (by decide) ht) (Nat.le_of_ble_eq_true rfl) (Nat.le_of_ble_eq_true rfl) rfl hcl ?_
          cases h
          exact gs_ri cd_173_64 (Or.inl rfl)
      · rw [if_neg hc] at h
        refine gs_0 (pc' := 41) (L' := [some (.ref l0), some (.int l1), some (.int x_4)]) (st' := [.int 4]) cd_173_40 rfl rfl ?_
        cases h
        exact gs_ri cd_173_41 (Or.inl rfl)
    · rw [if_neg hc] at h
      refine gs_0 (pc' := 27) (L' := [some (.ref l0), some (.int l1), some (.int x_4)]) (st' := [.ref l0]) cd_173_26 rfl rfl ?_
      refine gs_0 (pc' := 28) (L' := [some (.ref l0), some (.int l1), some (.int x_4)]) (st' := [.int 1, .ref l0]) cd_173_27 rfl rfl ?_
      refine gs_0 (pc' := 29) (L' := [some (.ref l0), some (.int l1), some (.int x_4)]) (st' := [.int 1, .int 1, .ref l0]) cd_173_28 rfl rfl ?_
      refine gs_0 (pc' := 30) (L' := [some (.ref l0), some (.int l1), some (.int x_4)]) (st' := [.int x_4, .int 1, .int 1, .ref l0]) cd_173_29 rfl rfl ?_
      refine gs_0 (pc' := 31) (L' := [some (.ref l0), some (.int l1), some (.int x_4)]) (st' := [.int (1 - x_4), .int 1, .ref l0]) cd_173_30 rfl rfl ?_
      refine gs_0 (pc' := 32) (L' := [some (.ref l0), some (.int l1), some (.int x_4)]) (st' := [.int 1, .int (1 - x_4), .int 1, .ref l0]) cd_173_31 rfl rfl ?_
      obtain ⟨ht, h⟩ := gO_s h
      obtain ⟨x_32, w_29, I_30, J_31, hcl, h⟩ := cI_s h
      refine gs_call (as := [.ref l0, .int 1, .int (1 - x_4), .int 1]) (rest := []) cd_173_32 rfl (by decide) rfl (sm_rv_ok (by decide) ht) (Nat.le_of_ble_eq_true rfl) (Nat.le_of_ble_eq_true rfl) rfl hcl ?_
      cases h
      exact gs_ri cd_173_35 (Or.inl rfl)
  · rw [if_neg hc] at h
    refine gs_0 (pc' := 12) (L' := [some (.ref l0), some (.int l1), some (.int x_4)]) (st' := [.ref l0]) cd_173_11 rfl rfl ?_
    refine gs_0 (pc' := 13) (L' := [some (.ref l0), some (.int l1), some (.int x_4)]) (st' := [.int 1, .ref l0]) cd_173_12 rfl rfl ?_
    refine gs_0 (pc' := 14) (L' := [some (.ref l0), some (.int l1), some (.int x_4)]) (st' := [.int x_4, .int 1, .ref l0]) cd_173_13 rfl rfl ?_
    refine gs_0 (pc' := 15) (L' := [some (.ref l0), some (.int l1), some (.int x_4)]) (st' := [.int (-x_4), .int 1, .ref l0]) cd_173_14 rfl rfl ?_
    refine gs_0 (pc' := 16) (L' := [some (.ref l0), some (.int l1), some (.int x_4)]) (st' := [.int 0, .int (-x_4), .int 1, .ref l0]) cd_173_15 rfl rfl ?_
    obtain ⟨ht, h⟩ := gO_s h
    obtain ⟨x_36, w_33, I_34, J_35, hcl, h⟩ := cI_s h
    refine gs_call (as := [.ref l0, .int 1, .int (-x_4), .int 0]) (rest := []) cd_173_16 rfl (by decide) rfl (sm_rv_ok (by decide) ht) (Nat.le_of_ble_eq_true rfl) (Nat.le_of_ble_eq_true rfl) rfl hcl ?_
    cases h
    exact gs_ri cd_173_19 (Or.inl rfl)
theorem cl_173 {K : Nat → Value} {k d : Nat} {l0 : Nat} {l1 : Int32} {w : aW} {I : aI} {J : aJ} {R : aR} (h : f_173 K k d l0 l1 w I J = some R) : Cl K (d + 1) 173 [.ref l0, .int l1] w I J = some R := Cl_of (ok_173 h)
/-! ProvedMachine$Machine.ofTwo(I)I -/
set_option maxRecDepth 20000 in
theorem gl_174 : gcd.lookup 174 = some gw_174 := rfl
theorem cd_174_0 : sm_cd 174 0 = some (.aload_n 0, 1, 0, 0, 0, 0, 0, 0, 0) := cd_of gl_174 rfl
theorem cd_174_1 : sm_cd 174 1 = some (.iconst 2, 1, 0, 0, 0, 0, 0, 2, 0) := cd_of gl_174 rfl
theorem cd_174_2 : sm_cd 174 2 = some (.invokevirtual 88, 3, 149, 0, 1, 2, 0, 0, 0) := cd_of gl_174 rfl
theorem cd_174_5 : sm_cd 174 5 = some (.istore_n 2, 1, 2, 0, 0, 0, 0, 0, 0) := cd_of gl_174 rfl
theorem cd_174_6 : sm_cd 174 6 = some (.aload_n 0, 1, 0, 0, 0, 0, 0, 0, 0) := cd_of gl_174 rfl
theorem cd_174_7 : sm_cd 174 7 = some (.iconst 1, 1, 0, 0, 0, 0, 0, 1, 0) := cd_of gl_174 rfl
theorem cd_174_8 : sm_cd 174 8 = some (.invokevirtual 88, 3, 149, 0, 1, 2, 0, 0, 0) := cd_of gl_174 rfl
theorem cd_174_11 : sm_cd 174 11 = some (.istore_n 3, 1, 3, 0, 0, 0, 0, 0, 0) := cd_of gl_174 rfl
theorem cd_174_12 : sm_cd 174 12 = some (.iload_n 1, 1, 1, 0, 0, 0, 0, 0, 0) := cd_of gl_174 rfl
theorem cd_174_13 : sm_cd 174 13 = some (.tableswitch 127 13 19 #[43, 53, 63, 80, 97, 107, 117], 43, 0, 0, 0, 0, 0, 0, 0) := cd_of gl_174 rfl
theorem cd_174_56 : sm_cd 174 56 = some (.aload_n 0, 1, 0, 0, 0, 0, 0, 0, 0) := cd_of gl_174 rfl
theorem cd_174_57 : sm_cd 174 57 = some (.iconst 2, 1, 0, 0, 0, 0, 0, 2, 0) := cd_of gl_174 rfl
theorem cd_174_58 : sm_cd 174 58 = some (.iload_n 2, 1, 2, 0, 0, 0, 0, 0, 0) := cd_of gl_174 rfl
theorem cd_174_59 : sm_cd 174 59 = some (.iload_n 3, 1, 3, 0, 0, 0, 0, 0, 0) := cd_of gl_174 rfl
theorem cd_174_60 : sm_cd 174 60 = some (.ior, 1, 0, 0, 0, 0, 0, 0, 0) := cd_of gl_174 rfl
theorem cd_174_61 : sm_cd 174 61 = some (.iconst 1, 1, 0, 0, 0, 0, 0, 1, 0) := cd_of gl_174 rfl
theorem cd_174_62 : sm_cd 174 62 = some (.invokevirtual 153, 3, 161, 0, 3, 5, 0, 0, 0) := cd_of gl_174 rfl
theorem cd_174_65 : sm_cd 174 65 = some (.ireturn, 1, 0, 0, 1, 0, 0, 0, 0) := cd_of gl_174 rfl
theorem cd_174_66 : sm_cd 174 66 = some (.aload_n 0, 1, 0, 0, 0, 0, 0, 0, 0) := cd_of gl_174 rfl
theorem cd_174_67 : sm_cd 174 67 = some (.iconst 2, 1, 0, 0, 0, 0, 0, 2, 0) := cd_of gl_174 rfl
theorem cd_174_68 : sm_cd 174 68 = some (.iload_n 2, 1, 2, 0, 0, 0, 0, 0, 0) := cd_of gl_174 rfl
theorem cd_174_69 : sm_cd 174 69 = some (.iload_n 3, 1, 3, 0, 0, 0, 0, 0, 0) := cd_of gl_174 rfl
theorem cd_174_70 : sm_cd 174 70 = some (.iand, 1, 0, 0, 0, 0, 0, 0, 0) := cd_of gl_174 rfl
theorem cd_174_71 : sm_cd 174 71 = some (.iconst 1, 1, 0, 0, 0, 0, 0, 1, 0) := cd_of gl_174 rfl
theorem cd_174_72 : sm_cd 174 72 = some (.invokevirtual 153, 3, 161, 0, 3, 5, 0, 0, 0) := cd_of gl_174 rfl
theorem cd_174_75 : sm_cd 174 75 = some (.ireturn, 1, 0, 0, 1, 0, 0, 0, 0) := cd_of gl_174 rfl
theorem cd_174_76 : sm_cd 174 76 = some (.aload_n 0, 1, 0, 0, 0, 0, 0, 0, 0) := cd_of gl_174 rfl
theorem cd_174_77 : sm_cd 174 77 = some (.iconst 2, 1, 0, 0, 0, 0, 0, 2, 0) := cd_of gl_174 rfl
theorem cd_174_78 : sm_cd 174 78 = some (.iload_n 2, 1, 2, 0, 0, 0, 0, 0, 0) := cd_of gl_174 rfl
theorem cd_174_79 : sm_cd 174 79 = some (.iload_n 3, 1, 3, 0, 0, 0, 0, 0, 0) := cd_of gl_174 rfl
theorem cd_174_80 : sm_cd 174 80 = some (.if_icmp .ge 7, 3, 87, 0, 0, 0, 0, 0, 0) := cd_of gl_174 rfl
theorem cd_174_83 : sm_cd 174 83 = some (.iconst 1, 1, 0, 0, 0, 0, 0, 1, 0) := cd_of gl_174 rfl
theorem cd_174_84 : sm_cd 174 84 = some (.goto 4, 3, 88, 0, 0, 0, 0, 0, 0) := cd_of gl_174 rfl
theorem cd_174_87 : sm_cd 174 87 = some (.iconst 0, 1, 0, 0, 0, 0, 0, 0, 0) := cd_of gl_174 rfl
theorem cd_174_88 : sm_cd 174 88 = some (.iconst 1, 1, 0, 0, 0, 0, 0, 1, 0) := cd_of gl_174 rfl
theorem cd_174_89 : sm_cd 174 89 = some (.invokevirtual 153, 3, 161, 0, 3, 5, 0, 0, 0) := cd_of gl_174 rfl
theorem cd_174_92 : sm_cd 174 92 = some (.ireturn, 1, 0, 0, 1, 0, 0, 0, 0) := cd_of gl_174 rfl
theorem cd_174_93 : sm_cd 174 93 = some (.aload_n 0, 1, 0, 0, 0, 0, 0, 0, 0) := cd_of gl_174 rfl
theorem cd_174_94 : sm_cd 174 94 = some (.iconst 2, 1, 0, 0, 0, 0, 0, 2, 0) := cd_of gl_174 rfl
theorem cd_174_95 : sm_cd 174 95 = some (.iload_n 2, 1, 2, 0, 0, 0, 0, 0, 0) := cd_of gl_174 rfl
theorem cd_174_96 : sm_cd 174 96 = some (.iload_n 3, 1, 3, 0, 0, 0, 0, 0, 0) := cd_of gl_174 rfl
theorem cd_174_97 : sm_cd 174 97 = some (.if_icmp .ne 7, 3, 104, 0, 0, 0, 0, 0, 0) := cd_of gl_174 rfl
theorem cd_174_100 : sm_cd 174 100 = some (.iconst 1, 1, 0, 0, 0, 0, 0, 1, 0) := cd_of gl_174 rfl
theorem cd_174_101 : sm_cd 174 101 = some (.goto 4, 3, 105, 0, 0, 0, 0, 0, 0) := cd_of gl_174 rfl
theorem cd_174_104 : sm_cd 174 104 = some (.iconst 0, 1, 0, 0, 0, 0, 0, 0, 0) := cd_of gl_174 rfl
theorem cd_174_105 : sm_cd 174 105 = some (.iconst 1, 1, 0, 0, 0, 0, 0, 1, 0) := cd_of gl_174 rfl
theorem cd_174_106 : sm_cd 174 106 = some (.invokevirtual 153, 3, 161, 0, 3, 5, 0, 0, 0) := cd_of gl_174 rfl
theorem cd_174_109 : sm_cd 174 109 = some (.ireturn, 1, 0, 0, 1, 0, 0, 0, 0) := cd_of gl_174 rfl
theorem cd_174_110 : sm_cd 174 110 = some (.aload_n 0, 1, 0, 0, 0, 0, 0, 0, 0) := cd_of gl_174 rfl
theorem cd_174_111 : sm_cd 174 111 = some (.iconst 2, 1, 0, 0, 0, 0, 0, 2, 0) := cd_of gl_174 rfl
theorem cd_174_112 : sm_cd 174 112 = some (.iload_n 2, 1, 2, 0, 0, 0, 0, 0, 0) := cd_of gl_174 rfl
theorem cd_174_113 : sm_cd 174 113 = some (.iload_n 3, 1, 3, 0, 0, 0, 0, 0, 0) := cd_of gl_174 rfl
theorem cd_174_114 : sm_cd 174 114 = some (.iadd, 1, 0, 0, 0, 0, 0, 0, 0) := cd_of gl_174 rfl
theorem cd_174_115 : sm_cd 174 115 = some (.iconst 0, 1, 0, 0, 0, 0, 0, 0, 0) := cd_of gl_174 rfl
theorem cd_174_116 : sm_cd 174 116 = some (.invokevirtual 153, 3, 161, 0, 3, 5, 0, 0, 0) := cd_of gl_174 rfl
theorem cd_174_119 : sm_cd 174 119 = some (.ireturn, 1, 0, 0, 1, 0, 0, 0, 0) := cd_of gl_174 rfl
theorem cd_174_120 : sm_cd 174 120 = some (.aload_n 0, 1, 0, 0, 0, 0, 0, 0, 0) := cd_of gl_174 rfl
theorem cd_174_121 : sm_cd 174 121 = some (.iconst 2, 1, 0, 0, 0, 0, 0, 2, 0) := cd_of gl_174 rfl
theorem cd_174_122 : sm_cd 174 122 = some (.iload_n 2, 1, 2, 0, 0, 0, 0, 0, 0) := cd_of gl_174 rfl
theorem cd_174_123 : sm_cd 174 123 = some (.iload_n 3, 1, 3, 0, 0, 0, 0, 0, 0) := cd_of gl_174 rfl
theorem cd_174_124 : sm_cd 174 124 = some (.isub, 1, 0, 0, 0, 0, 0, 0, 0) := cd_of gl_174 rfl
theorem cd_174_125 : sm_cd 174 125 = some (.iconst 0, 1, 0, 0, 0, 0, 0, 0, 0) := cd_of gl_174 rfl
theorem cd_174_126 : sm_cd 174 126 = some (.invokevirtual 153, 3, 161, 0, 3, 5, 0, 0, 0) := cd_of gl_174 rfl
theorem cd_174_129 : sm_cd 174 129 = some (.ireturn, 1, 0, 0, 1, 0, 0, 0, 0) := cd_of gl_174 rfl
theorem cd_174_130 : sm_cd 174 130 = some (.aload_n 0, 1, 0, 0, 0, 0, 0, 0, 0) := cd_of gl_174 rfl
theorem cd_174_131 : sm_cd 174 131 = some (.iconst 2, 1, 0, 0, 0, 0, 0, 2, 0) := cd_of gl_174 rfl
theorem cd_174_132 : sm_cd 174 132 = some (.iload_n 2, 1, 2, 0, 0, 0, 0, 0, 0) := cd_of gl_174 rfl
theorem cd_174_133 : sm_cd 174 133 = some (.iload_n 3, 1, 3, 0, 0, 0, 0, 0, 0) := cd_of gl_174 rfl
theorem cd_174_134 : sm_cd 174 134 = some (.imul, 1, 0, 0, 0, 0, 0, 0, 0) := cd_of gl_174 rfl
theorem cd_174_135 : sm_cd 174 135 = some (.iconst 0, 1, 0, 0, 0, 0, 0, 0, 0) := cd_of gl_174 rfl
theorem cd_174_136 : sm_cd 174 136 = some (.invokevirtual 153, 3, 161, 0, 3, 5, 0, 0, 0) := cd_of gl_174 rfl
theorem cd_174_139 : sm_cd 174 139 = some (.ireturn, 1, 0, 0, 1, 0, 0, 0, 0) := cd_of gl_174 rfl
theorem cd_174_140 : sm_cd 174 140 = some (.iload_n 3, 1, 3, 0, 0, 0, 0, 0, 0) := cd_of gl_174 rfl
theorem cd_174_141 : sm_cd 174 141 = some (.ifCond .ne 5, 3, 146, 0, 0, 0, 0, 0, 0) := cd_of gl_174 rfl
theorem cd_174_144 : sm_cd 174 144 = some (.iconst 2, 1, 0, 0, 0, 0, 0, 2, 0) := cd_of gl_174 rfl
theorem cd_174_145 : sm_cd 174 145 = some (.ireturn, 1, 0, 0, 1, 0, 0, 0, 0) := cd_of gl_174 rfl
theorem cd_174_146 : sm_cd 174 146 = some (.aload_n 0, 1, 0, 0, 0, 0, 0, 0, 0) := cd_of gl_174 rfl
theorem cd_174_147 : sm_cd 174 147 = some (.iconst 2, 1, 0, 0, 0, 0, 0, 2, 0) := cd_of gl_174 rfl
theorem cd_174_148 : sm_cd 174 148 = some (.iload_n 3, 1, 3, 0, 0, 0, 0, 0, 0) := cd_of gl_174 rfl
theorem cd_174_149 : sm_cd 174 149 = some (.iconst (-1), 1, 0, 0, 0, 0, 0, (-1), 0) := cd_of gl_174 rfl
theorem cd_174_150 : sm_cd 174 150 = some (.if_icmp .ne 8, 3, 158, 0, 0, 0, 0, 0, 0) := cd_of gl_174 rfl
theorem cd_174_153 : sm_cd 174 153 = some (.iload_n 2, 1, 2, 0, 0, 0, 0, 0, 0) := cd_of gl_174 rfl
theorem cd_174_154 : sm_cd 174 154 = some (.ineg, 1, 0, 0, 0, 0, 0, 0, 0) := cd_of gl_174 rfl
theorem cd_174_155 : sm_cd 174 155 = some (.goto 6, 3, 161, 0, 0, 0, 0, 0, 0) := cd_of gl_174 rfl
theorem cd_174_158 : sm_cd 174 158 = some (.iload_n 2, 1, 2, 0, 0, 0, 0, 0, 0) := cd_of gl_174 rfl
theorem cd_174_159 : sm_cd 174 159 = some (.iload_n 3, 1, 3, 0, 0, 0, 0, 0, 0) := cd_of gl_174 rfl
theorem cd_174_160 : sm_cd 174 160 = some (.idiv, 1, 0, 0, 0, 0, 0, 0, 0) := cd_of gl_174 rfl
theorem cd_174_161 : sm_cd 174 161 = some (.iconst 0, 1, 0, 0, 0, 0, 0, 0, 0) := cd_of gl_174 rfl
theorem cd_174_162 : sm_cd 174 162 = some (.invokevirtual 153, 3, 161, 0, 3, 5, 0, 0, 0) := cd_of gl_174 rfl
theorem cd_174_165 : sm_cd 174 165 = some (.ireturn, 1, 0, 0, 1, 0, 0, 0, 0) := cd_of gl_174 rfl
theorem sw_174_13_0 {K : Nat → Value} {L : aL} {st : List Value} {w : aW} {I : aI} {J : aJ} {x : Int32} (h : x = 13) : sm_stp K (.tableswitch 127 13 19 #[43, 53, 63, 80, 97, 107, 117], 43, 0, 0, 0, 0, 0, 0, 0) 13 L (.int x :: st) w I J = some (56, L, st, w, I, J) := by subst h; rfl
theorem sw_174_13_1 {K : Nat → Value} {L : aL} {st : List Value} {w : aW} {I : aI} {J : aJ} {x : Int32} (h : x = 14) : sm_stp K (.tableswitch 127 13 19 #[43, 53, 63, 80, 97, 107, 117], 43, 0, 0, 0, 0, 0, 0, 0) 13 L (.int x :: st) w I J = some (66, L, st, w, I, J) := by subst h; rfl
theorem sw_174_13_2 {K : Nat → Value} {L : aL} {st : List Value} {w : aW} {I : aI} {J : aJ} {x : Int32} (h : x = 15) : sm_stp K (.tableswitch 127 13 19 #[43, 53, 63, 80, 97, 107, 117], 43, 0, 0, 0, 0, 0, 0, 0) 13 L (.int x :: st) w I J = some (76, L, st, w, I, J) := by subst h; rfl
theorem sw_174_13_3 {K : Nat → Value} {L : aL} {st : List Value} {w : aW} {I : aI} {J : aJ} {x : Int32} (h : x = 16) : sm_stp K (.tableswitch 127 13 19 #[43, 53, 63, 80, 97, 107, 117], 43, 0, 0, 0, 0, 0, 0, 0) 13 L (.int x :: st) w I J = some (93, L, st, w, I, J) := by subst h; rfl
theorem sw_174_13_4 {K : Nat → Value} {L : aL} {st : List Value} {w : aW} {I : aI} {J : aJ} {x : Int32} (h : x = 17) : sm_stp K (.tableswitch 127 13 19 #[43, 53, 63, 80, 97, 107, 117], 43, 0, 0, 0, 0, 0, 0, 0) 13 L (.int x :: st) w I J = some (110, L, st, w, I, J) := by subst h; rfl
theorem sw_174_13_5 {K : Nat → Value} {L : aL} {st : List Value} {w : aW} {I : aI} {J : aJ} {x : Int32} (h : x = 18) : sm_stp K (.tableswitch 127 13 19 #[43, 53, 63, 80, 97, 107, 117], 43, 0, 0, 0, 0, 0, 0, 0) 13 L (.int x :: st) w I J = some (120, L, st, w, I, J) := by subst h; rfl
theorem sw_174_13_6 {K : Nat → Value} {L : aL} {st : List Value} {w : aW} {I : aI} {J : aJ} {x : Int32} (h : x = 19) : sm_stp K (.tableswitch 127 13 19 #[43, 53, 63, 80, 97, 107, 117], 43, 0, 0, 0, 0, 0, 0, 0) 13 L (.int x :: st) w I J = some (130, L, st, w, I, J) := by subst h; rfl
theorem sw_174_13_d {K : Nat → Value} {L : aL} {st : List Value} {w : aW} {I : aI} {J : aJ} {x : Int32} (h0 : ¬ x = 13) (h1 : ¬ x = 14) (h2 : ¬ x = 15) (h3 : ¬ x = 16) (h4 : ¬ x = 17) (h5 : ¬ x = 18) (h6 : ¬ x = 19) : sm_stp K (.tableswitch 127 13 19 #[43, 53, 63, 80, 97, 107, 117], 43, 0, 0, 0, 0, 0, 0, 0) 13 L (.int x :: st) w I J = some (140, L, st, w, I, J) := by
  have e : sm_swt 13 127 13 19 #[43, 53, 63, 80, 97, 107, 117] x = some 140 := by
    unfold sm_swt
    split
    · rfl
    · rename_i hn
      exfalso
      have ha : ¬ x.toInt < 13 := fun q => hn (Or.inl q)
      have hb : ¬ 19 < x.toInt := fun q => hn (Or.inr q)
      have g0 : ¬ x.toInt = 13 := fun q => h0 (Int32.toInt_inj.mp q)
      have g1 : ¬ x.toInt = 14 := fun q => h1 (Int32.toInt_inj.mp q)
      have g2 : ¬ x.toInt = 15 := fun q => h2 (Int32.toInt_inj.mp q)
      have g3 : ¬ x.toInt = 16 := fun q => h3 (Int32.toInt_inj.mp q)
      have g4 : ¬ x.toInt = 17 := fun q => h4 (Int32.toInt_inj.mp q)
      have g5 : ¬ x.toInt = 18 := fun q => h5 (Int32.toInt_inj.mp q)
      have g6 : ¬ x.toInt = 19 := fun q => h6 (Int32.toInt_inj.mp q)
      omega
  simp only [sm_stp, e, sm_jm]
noncomputable def f_174_161 (K : Nat → Value) (k d : Nat) (l0 : Nat) (l1 : Int32) (l2 : Int32) (l3 : Int32) (s0 : Nat) (s1 : Int32) (s2 : Int32) (w : aW) (I : aI) (J : aJ) : Option aR :=
  gO w 0 s0 (
  cI (Cl K d 161 [.ref s0, .int s1, .int s2, .int 0] w I J) fun x_4 w_1 I_2 J_3 =>
  some (some (.int x_4), w_1, I_2, J_3))
theorem ok_174_161 {K : Nat → Value} {k d : Nat} {l0 : Nat} {l1 : Int32} {l2 : Int32} {l3 : Int32} {s0 : Nat} {s1 : Int32} {s2 : Int32} {w : aW} {I : aI} {J : aJ} {R : aR} (h : f_174_161 K k d l0 l1 l2 l3 s0 s1 s2 w I J = some R) : Go K (d + 1) 174 161 [some (.ref l0), some (.int l1), some (.int l2), some (.int l3)] [.int s2, .int s1, .ref s0] w I J R := by
  unfold f_174_161 at h
  refine gs_0 (pc' := 162) (L' := [some (.ref l0), some (.int l1), some (.int l2), some (.int l3)]) (st' := [.int 0, .int s2, .int s1, .ref s0]) cd_174_161 rfl rfl ?_
  obtain ⟨ht, h⟩ := gO_s h
  obtain ⟨x_4, w_1, I_2, J_3, hcl, h⟩ := cI_s h
  refine gs_call (as := [.ref s0, .int s1, .int s2, .int 0]) (rest := []) cd_174_162 rfl (by decide) rfl (sm_rv_ok (by decide) ht) (Nat.le_of_ble_eq_true rfl) (Nat.le_of_ble_eq_true rfl) rfl hcl ?_
  cases h
  exact gs_ri cd_174_165 (Or.inl rfl)
noncomputable def f_174_105 (K : Nat → Value) (k d : Nat) (l0 : Nat) (l1 : Int32) (l2 : Int32) (l3 : Int32) (s0 : Nat) (s1 : Int32) (s2 : Int32) (w : aW) (I : aI) (J : aJ) : Option aR :=
  gO w 0 s0 (
  cI (Cl K d 161 [.ref s0, .int s1, .int s2, .int 1] w I J) fun x_4 w_1 I_2 J_3 =>
  some (some (.int x_4), w_1, I_2, J_3))
theorem ok_174_105 {K : Nat → Value} {k d : Nat} {l0 : Nat} {l1 : Int32} {l2 : Int32} {l3 : Int32} {s0 : Nat} {s1 : Int32} {s2 : Int32} {w : aW} {I : aI} {J : aJ} {R : aR} (h : f_174_105 K k d l0 l1 l2 l3 s0 s1 s2 w I J = some R) : Go K (d + 1) 174 105 [some (.ref l0), some (.int l1), some (.int l2), some (.int l3)] [.int s2, .int s1, .ref s0] w I J R := by
  unfold f_174_105 at h
  refine gs_0 (pc' := 106) (L' := [some (.ref l0), some (.int l1), some (.int l2), some (.int l3)]) (st' := [.int 1, .int s2, .int s1, .ref s0]) cd_174_105 rfl rfl ?_
  obtain ⟨ht, h⟩ := gO_s h
  obtain ⟨x_4, w_1, I_2, J_3, hcl, h⟩ := cI_s h
  refine gs_call (as := [.ref s0, .int s1, .int s2, .int 1]) (rest := []) cd_174_106 rfl (by decide) rfl (sm_rv_ok (by decide) ht) (Nat.le_of_ble_eq_true rfl) (Nat.le_of_ble_eq_true rfl) rfl hcl ?_
  cases h
  exact gs_ri cd_174_109 (Or.inl rfl)
noncomputable def f_174_88 (K : Nat → Value) (k d : Nat) (l0 : Nat) (l1 : Int32) (l2 : Int32) (l3 : Int32) (s0 : Nat) (s1 : Int32) (s2 : Int32) (w : aW) (I : aI) (J : aJ) : Option aR :=
  gO w 0 s0 (
  cI (Cl K d 161 [.ref s0, .int s1, .int s2, .int 1] w I J) fun x_4 w_1 I_2 J_3 =>
  some (some (.int x_4), w_1, I_2, J_3))
theorem ok_174_88 {K : Nat → Value} {k d : Nat} {l0 : Nat} {l1 : Int32} {l2 : Int32} {l3 : Int32} {s0 : Nat} {s1 : Int32} {s2 : Int32} {w : aW} {I : aI} {J : aJ} {R : aR} (h : f_174_88 K k d l0 l1 l2 l3 s0 s1 s2 w I J = some R) : Go K (d + 1) 174 88 [some (.ref l0), some (.int l1), some (.int l2), some (.int l3)] [.int s2, .int s1, .ref s0] w I J R := by
  unfold f_174_88 at h
  refine gs_0 (pc' := 89) (L' := [some (.ref l0), some (.int l1), some (.int l2), some (.int l3)]) (st' := [.int 1, .int s2, .int s1, .ref s0]) cd_174_88 rfl rfl ?_
  obtain ⟨ht, h⟩ := gO_s h
  obtain ⟨x_4, w_1, I_2, J_3, hcl, h⟩ := cI_s h
  refine gs_call (as := [.ref s0, .int s1, .int s2, .int 1]) (rest := []) cd_174_89 rfl (by decide) rfl (sm_rv_ok (by decide) ht) (Nat.le_of_ble_eq_true rfl) (Nat.le_of_ble_eq_true rfl) rfl hcl ?_
  cases h
  exact gs_ri cd_174_92 (Or.inl rfl)
noncomputable def f_174 (K : Nat → Value) (k d : Nat) (l0 : Nat) (l1 : Int32) (w : aW) (I : aI) (J : aJ) : Option aR :=
  gO w 0 l0 (
  cI (Cl K d 149 [.ref l0, .int 2] w I J) fun x_4 w_1 I_2 J_3 =>
  gO w_1 0 l0 (
  cI (Cl K d 149 [.ref l0, .int 1] w_1 I_2 J_3) fun x_8 w_5 I_6 J_7 =>
  if l1 = 13 then
    gO w_5 0 l0 (
    cI (Cl K d 161 [.ref l0, .int 2, .int (x_4 ||| x_8), .int 1] w_5 I_6 J_7) fun x_12 w_9 I_10 J_11 =>
    some (some (.int x_12), w_9, I_10, J_11))
  else
  if l1 = 14 then
    gO w_5 0 l0 (
    cI (Cl K d 161 [.ref l0, .int 2, .int (x_4 &&& x_8), .int 1] w_5 I_6 J_7) fun x_16 w_13 I_14 J_15 =>
    some (some (.int x_16), w_13, I_14, J_15))
  else
  if l1 = 15 then
    if x_8 ≤ x_4 then
      f_174_88 K k d l0 l1 x_4 x_8 l0 2 0 w_5 I_6 J_7
    else
      f_174_88 K k d l0 l1 x_4 x_8 l0 2 1 w_5 I_6 J_7
  else
  if l1 = 16 then
    if ¬ x_4 = x_8 then
      f_174_105 K k d l0 l1 x_4 x_8 l0 2 0 w_5 I_6 J_7
    else
      f_174_105 K k d l0 l1 x_4 x_8 l0 2 1 w_5 I_6 J_7
  else
  if l1 = 17 then
    gO w_5 0 l0 (
    cI (Cl K d 161 [.ref l0, .int 2, .int (x_4 + x_8), .int 0] w_5 I_6 J_7) fun x_20 w_17 I_18 J_19 =>
    some (some (.int x_20), w_17, I_18, J_19))
  else
  if l1 = 18 then
    gO w_5 0 l0 (
    cI (Cl K d 161 [.ref l0, .int 2, .int (x_4 - x_8), .int 0] w_5 I_6 J_7) fun x_24 w_21 I_22 J_23 =>
    some (some (.int x_24), w_21, I_22, J_23))
  else
  if l1 = 19 then
    gO w_5 0 l0 (
    cI (Cl K d 161 [.ref l0, .int 2, .int (x_4 * x_8), .int 0] w_5 I_6 J_7) fun x_28 w_25 I_26 J_27 =>
    some (some (.int x_28), w_25, I_26, J_27))
  else
  if ¬ x_8 = 0 then
    if ¬ x_8 = (-1) then
      gC (¬ x_8 = 0) (
      f_174_161 K k d l0 l1 x_4 x_8 l0 2 (x_4 / x_8) w_5 I_6 J_7)
    else
      f_174_161 K k d l0 l1 x_4 x_8 l0 2 (-x_4) w_5 I_6 J_7
  else
    some (some (.int 2), w_5, I_6, J_7)))
theorem ok_174 {K : Nat → Value} {k d : Nat} {l0 : Nat} {l1 : Int32} {w : aW} {I : aI} {J : aJ} {R : aR} (h : f_174 K k d l0 l1 w I J = some R) : Go K (d + 1) 174 0 [some (.ref l0), some (.int l1), none, none] [] w I J R := by
  unfold f_174 at h
  refine gs_0 (pc' := 1) (L' := [some (.ref l0), some (.int l1), none, none]) (st' := [.ref l0]) cd_174_0 rfl rfl ?_
  refine gs_0 (pc' := 2) (L' := [some (.ref l0), some (.int l1), none, none]) (st' := [.int 2, .ref l0]) cd_174_1 rfl rfl ?_
  obtain ⟨ht, h⟩ := gO_s h
  obtain ⟨x_4, w_1, I_2, J_3, hcl, h⟩ := cI_s h
  refine gs_call (as := [.ref l0, .int 2]) (rest := []) cd_174_2 rfl (by decide) rfl (sm_rv_ok (by decide) ht) (Nat.le_of_ble_eq_true rfl) (Nat.le_of_ble_eq_true rfl) rfl hcl ?_
  refine gs_0 (pc' := 6) (L' := [some (.ref l0), some (.int l1), some (.int x_4), none]) (st' := []) cd_174_5 rfl rfl ?_
  refine gs_0 (pc' := 7) (L' := [some (.ref l0), some (.int l1), some (.int x_4), none]) (st' := [.ref l0]) cd_174_6 rfl rfl ?_
  refine gs_0 (pc' := 8) (L' := [some (.ref l0), some (.int l1), some (.int x_4), none]) (st' := [.int 1, .ref l0]) cd_174_7 rfl rfl ?_
  obtain ⟨ht, h⟩ := gO_s h
  obtain ⟨x_8, w_5, I_6, J_7, hcl, h⟩ := cI_s h
  refine gs_call (as := [.ref l0, .int 1]) (rest := []) cd_174_8 rfl (by decide) rfl (sm_rv_ok (by decide) ht) (Nat.le_of_ble_eq_true rfl) (Nat.le_of_ble_eq_true rfl) rfl hcl ?_
  refine gs_0 (pc' := 12) (L' := [some (.ref l0), some (.int l1), some (.int x_4), some (.int x_8)]) (st' := []) cd_174_11 rfl rfl ?_
  refine gs_0 (pc' := 13) (L' := [some (.ref l0), some (.int l1), some (.int x_4), some (.int x_8)]) (st' := [.int l1]) cd_174_12 rfl rfl ?_
  by_cases hc0 : l1 = 13
  · rw [if_pos hc0] at h
    refine gs_0 (pc' := 56) (L' := [some (.ref l0), some (.int l1), some (.int x_4), some (.int x_8)]) (st' := []) cd_174_13 rfl (sw_174_13_0 hc0) ?_
    refine gs_0 (pc' := 57) (L' := [some (.ref l0), some (.int l1), some (.int x_4), some (.int x_8)]) (st' := [.ref l0]) cd_174_56 rfl rfl ?_
    refine gs_0 (pc' := 58) (L' := [some (.ref l0), some (.int l1), some (.int x_4), some (.int x_8)]) (st' := [.int 2, .ref l0]) cd_174_57 rfl rfl ?_
    refine gs_0 (pc' := 59) (L' := [some (.ref l0), some (.int l1), some (.int x_4), some (.int x_8)]) (st' := [.int x_4, .int 2, .ref l0]) cd_174_58 rfl rfl ?_
    refine gs_0 (pc' := 60) (L' := [some (.ref l0), some (.int l1), some (.int x_4), some (.int x_8)]) (st' := [.int x_8, .int x_4, .int 2, .ref l0]) cd_174_59 rfl rfl ?_
    refine gs_0 (pc' := 61) (L' := [some (.ref l0), some (.int l1), some (.int x_4), some (.int x_8)]) (st' := [.int (x_4 ||| x_8), .int 2, .ref l0]) cd_174_60 rfl rfl ?_
    refine gs_0 (pc' := 62) (L' := [some (.ref l0), some (.int l1), some (.int x_4), some (.int x_8)]) (st' := [.int 1, .int (x_4 ||| x_8), .int 2, .ref l0]) cd_174_61 rfl rfl ?_
    obtain ⟨ht, h⟩ := gO_s h
    obtain ⟨x_12, w_9, I_10, J_11, hcl, h⟩ := cI_s h
    refine gs_call (as := [.ref l0, .int 2, .int (x_4 ||| x_8), .int 1]) (rest := []) cd_174_62 rfl (by decide) rfl (sm_rv_ok (by decide) ht) (Nat.le_of_ble_eq_true rfl) (Nat.le_of_ble_eq_true rfl) rfl hcl ?_
    cases h
    exact gs_ri cd_174_65 (Or.inl rfl)
  · rw [if_neg hc0] at h
    by_cases hc1 : l1 = 14
    · rw [if_pos hc1] at h
      refine gs_0 (pc' := 66) (L' := [some (.ref l0), some (.int l1), some (.int x_4), some (.int x_8)]) (st' := []) cd_174_13 rfl (sw_174_13_1 hc1) ?_
      refine gs_0 (pc' := 67) (L' := [some (.ref l0), some (.int l1), some (.int x_4), some (.int x_8)]) (st' := [.ref l0]) cd_174_66 rfl rfl ?_
      refine gs_0 (pc' := 68) (L' := [some (.ref l0), some (.int l1), some (.int x_4), some (.int x_8)]) (st' := [.int 2, .ref l0]) cd_174_67 rfl rfl ?_
      refine gs_0 (pc' := 69) (L' := [some (.ref l0), some (.int l1), some (.int x_4), some (.int x_8)]) (st' := [.int x_4, .int 2, .ref l0]) cd_174_68 rfl rfl ?_
      refine gs_0 (pc' := 70) (L' := [some (.ref l0), some (.int l1), some (.int x_4), some (.int x_8)]) (st' := [.int x_8, .int x_4, .int 2, .ref l0]) cd_174_69 rfl rfl ?_
      refine gs_0 (pc' := 71) (L' := [some (.ref l0), some (.int l1), some (.int x_4), some (.int x_8)]) (st' := [.int (x_4 &&& x_8), .int 2, .ref l0]) cd_174_70 rfl rfl ?_
      refine gs_0 (pc' := 72) (L' := [some (.ref l0), some (.int l1), some (.int x_4), some (.int x_8)]) (st' := [.int 1, .int (x_4 &&& x_8), .int 2, .ref l0]) cd_174_71 rfl rfl ?_
      obtain ⟨ht, h⟩ := gO_s h
      obtain ⟨x_16, w_13, I_14, J_15, hcl, h⟩ := cI_s h
      refine gs_call (as := [.ref l0, .int 2, .int (x_4 &&& x_8), .int 1]) (rest := []) cd_174_72 rfl (by decide) rfl (sm_rv_ok (by decide) ht) (Nat.le_of_ble_eq_true rfl) (Nat.le_of_ble_eq_true rfl) rfl hcl ?_
      cases h
      exact gs_ri cd_174_75 (Or.inl rfl)
    · rw [if_neg hc1] at h
      by_cases hc2 : l1 = 15
      · rw [if_pos hc2] at h
        refine gs_0 (pc' := 76) (L' := [some (.ref l0), some (.int l1), some (.int x_4), some (.int x_8)]) (st' := []) cd_174_13 rfl (sw_174_13_2 hc2) ?_
        refine gs_0 (pc' := 77) (L' := [some (.ref l0), some (.int l1), some (.int x_4), some (.int x_8)]) (st' := [.ref l0]) cd_174_76 rfl rfl ?_
        refine gs_0 (pc' := 78) (L' := [some (.ref l0), some (.int l1), some (.int x_4), some (.int x_8)]) (st' := [.int 2, .ref l0]) cd_174_77 rfl rfl ?_
        refine gs_0 (pc' := 79) (L' := [some (.ref l0), some (.int l1), some (.int x_4), some (.int x_8)]) (st' := [.int x_4, .int 2, .ref l0]) cd_174_78 rfl rfl ?_
        refine gs_0 (pc' := 80) (L' := [some (.ref l0), some (.int l1), some (.int x_4), some (.int x_8)]) (st' := [.int x_8, .int x_4, .int 2, .ref l0]) cd_174_79 rfl rfl ?_
        refine gs_0 (pc' := if x_8 ≤ x_4 then 87 else 83) (L' := [some (.ref l0), some (.int l1), some (.int x_4), some (.int x_8)]) (st' := [.int 2, .ref l0]) cd_174_80 rfl rfl ?_
        refine go_ite (fun hc => ?_) (fun hc => ?_)
        · rw [if_pos hc] at h
          refine gs_0 (pc' := 88) (L' := [some (.ref l0), some (.int l1), some (.int x_4), some (.int x_8)]) (st' := [.int 0, .int 2, .ref l0]) cd_174_87 rfl rfl ?_
          exact ok_174_88 h
        · rw [if_neg hc] at h
          refine gs_0 (pc' := 84) (L' := [some (.ref l0), some (.int l1), some (.int x_4), some (.int x_8)]) (st' := [.int 1, .int 2, .ref l0]) cd_174_83 rfl rfl ?_
          refine gs_0 (pc' := 88) (L' := [some (.ref l0), some (.int l1), some (.int x_4), some (.int x_8)]) (st' := [.int 1, .int 2, .ref l0]) cd_174_84 rfl rfl ?_
          exact ok_174_88 h
      · rw [if_neg hc2] at h
        by_cases hc3 : l1 = 16
        · rw [if_pos hc3] at h
          refine gs_0 (pc' := 93) (L' := [some (.ref l0), some (.int l1), some (.int x_4), some (.int x_8)]) (st' := []) cd_174_13 rfl (sw_174_13_3 hc3) ?_
          refine gs_0 (pc' := 94) (L' := [some (.ref l0), some (.int l1), some (.int x_4), some (.int x_8)]) (st' := [.ref l0]) cd_174_93 rfl rfl ?_
          refine gs_0 (pc' := 95) (L' := [some (.ref l0), some (.int l1), some (.int x_4), some (.int x_8)]) (st' := [.int 2, .ref l0]) cd_174_94 rfl rfl ?_
          refine gs_0 (pc' := 96) (L' := [some (.ref l0), some (.int l1), some (.int x_4), some (.int x_8)]) (st' := [.int x_4, .int 2, .ref l0]) cd_174_95 rfl rfl ?_
          refine gs_0 (pc' := 97) (L' := [some (.ref l0), some (.int l1), some (.int x_4), some (.int x_8)]) (st' := [.int x_8, .int x_4, .int 2, .ref l0]) cd_174_96 rfl rfl ?_
          refine gs_0 (pc' := if ¬ x_4 = x_8 then 104 else 100) (L' := [some (.ref l0), some (.int l1), some (.int x_4), some (.int x_8)]) (st' := [.int 2, .ref l0]) cd_174_97 rfl rfl ?_
          refine go_ite (fun hc => ?_) (fun hc => ?_)
          · rw [if_pos hc] at h
            refine gs_0 (pc' := 105) (L' := [some (.ref l0), some (.int l1), some (.int x_4), some (.int x_8)]) (st' := [.int 0, .int 2, .ref l0]) cd_174_104 rfl rfl ?_
            exact ok_174_105 h
          · rw [if_neg hc] at h
            refine gs_0 (pc' := 101) (L' := [some (.ref l0), some (.int l1), some (.int x_4), some (.int x_8)]) (st' := [.int 1, .int 2, .ref l0]) cd_174_100 rfl rfl ?_
            refine gs_0 (pc' := 105) (L' := [some (.ref l0), some (.int l1), some (.int x_4), some (.int x_8)]) (st' := [.int 1, .int 2, .ref l0]) cd_174_101 rfl rfl ?_
            exact ok_174_105 h
        · rw [if_neg hc3] at h
          by_cases hc4 : l1 = 17
          · rw [if_pos hc4] at h
            refine gs_0 (pc' := 110) (L' := [some (.ref l0), some (.int l1), some (.int x_4), some (.int x_8)]) (st' := []) cd_174_13 rfl (sw_174_13_4 hc4) ?_
            refine gs_0 (pc' := 111) (L' := [some (.ref l0), some (.int l1), some (.int x_4), some (.int x_8)]) (st' := [.ref l0]) cd_174_110 rfl rfl ?_
            refine gs_0 (pc' := 112) (L' := [some (.ref l0), some (.int l1), some (.int x_4), some (.int x_8)]) (st' := [.int 2, .ref l0]) cd_174_111 rfl rfl ?_
            refine gs_0 (pc' := 113) (L' := [some (.ref l0), some (.int l1), some (.int x_4), some (.int x_8)]) (st' := [.int x_4, .int 2, .ref l0]) cd_174_112 rfl rfl ?_
            refine gs_0 (pc' := 114) (L' := [some (.ref l0), some (.int l1), some (.int x_4), some (.int x_8)]) (st' := [.int x_8, .int x_4, .int 2, .ref l0]) cd_174_113 rfl rfl ?_
            refine gs_0 (pc' := 115) (L' := [some (.ref l0), some (.int l1), some (.int x_4), some (.int x_8)]) (st' := [.int (x_4 + x_8), .int 2, .ref l0]) cd_174_114 rfl rfl ?_
            refine gs_0 (pc' := 116) (L' := [some (.ref l0), some (.int l1), some (.int x_4), some (.int x_8)]) (st' := [.int 0, .int (x_4 + x_8), .int 2, .ref l0]) cd_174_115 rfl rfl ?_
            obtain ⟨ht, h⟩ := gO_s h
            obtain ⟨x_20, w_17, I_18, J_19, hcl, h⟩ := cI_s h
            refine gs_call (as := [.ref l0, .int 2, .int (x_4 + x_8), .int 0]) (rest := []) cd_174_116 rfl (by decide) rfl (sm_rv_ok (by decide) ht) (Nat.le_of_ble_eq_true rfl) (Nat.le_of_ble_eq_true rfl) rfl hcl ?_
            cases h
            exact gs_ri cd_174_119 (Or.inl rfl)
          · rw [if_neg hc4] at h
            by_cases hc5 : l1 = 18
            · rw [if_pos hc5] at h
              refine gs_0 (pc' := 120) (L' := [some (.ref l0), some (.int l1), some (.int x_4), some (.int x_8)]) (st' := []) cd_174_13 rfl (sw_174_13_5 hc5) ?_
              refine gs_0 (pc' := 121) (L' := [some (.ref l0), some (.int l1), some (.int x_4), some (.int x_8)]) (st' := [.ref l0]) cd_174_120 rfl rfl ?_
              refine gs_0 (pc' := 122) (L' := [some (.ref l0), some (.int l1), some (.int x_4), some (.int x_8)]) (st' := [.int 2, .ref l0]) cd_174_121 rfl rfl ?_
              refine gs_0 (pc' := 123) (L' := [some (.ref l0), some (.int l1), some (.int x_4), some (.int x_8)]) (st' := [.int x_4, .int 2, .ref l0]) cd_174_122 rfl rfl ?_
              refine gs_0 (pc' := 124) (L' := [some (.ref l0), some (.int l1), some (.int x_4), some (.int x_8)]) (st' := [.int x_8, .int x_4, .int 2, .ref l0]) cd_174_123 rfl rfl ?_
              refine gs_0 (pc' := 125) (L' := [some (.ref l0), some (.int l1), some (.int x_4), some (.int x_8)]) (st' := [.int (x_4 - x_8), .int 2, .ref l0]) cd_174_124 rfl rfl ?_
              refine gs_0 (pc' := 126) (L' := [some (.ref l0), some (.int l1), some (.int x_4), some (.int x_8)]) (st' := [.int 0, .int (x_4 - x_8), .int 2, .ref l0]) cd_174_125 rfl rfl ?_
              obtain ⟨ht, h⟩ := gO_s h
              obtain ⟨x_24, w_21, I_22, J_23, hcl, h⟩ := cI_s h
              refine gs_call (as := [.ref l0, .int 2, .int (x_4 - x_8), .int 0]) (rest := []) cd_174_126 rfl (by decide) rfl (sm_rv_ok (by decide) ht) (Nat.le_of_ble_eq_true rfl) (Nat.le_of_ble_eq_true rfl) rfl hcl ?_
              cases h
              exact gs_ri cd_174_129 (Or.inl rfl)
            · rw [if_neg hc5] at h
              by_cases hc6 : l1 = 19
              · rw [if_pos hc6] at h
                refine gs_0 (pc' := 130) (L' := [some (.ref l0), some (.int l1), some (.int x_4), some (.int x_8)]) (st' := []) cd_174_13 rfl (sw_174_13_6 hc6) ?_
                refine gs_0 (pc' := 131) (L' := [some (.ref l0), some (.int l1), some (.int x_4), some (.int x_8)]) (st' := [.ref l0]) cd_174_130 rfl rfl ?_
                refine gs_0 (pc' := 132) (L' := [some (.ref l0), some (.int l1), some (.int x_4), some (.int x_8)]) (st' := [.int 2, .ref l0]) cd_174_131 rfl rfl ?_
                refine gs_0 (pc' := 133) (L' := [some (.ref l0), some (.int l1), some (.int x_4), some (.int x_8)]) (st' := [.int x_4, .int 2, .ref l0]) cd_174_132 rfl rfl ?_
                refine gs_0 (pc' := 134) (L' := [some (.ref l0), some (.int l1), some (.int x_4), some (.int x_8)]) (st' := [.int x_8, .int x_4, .int 2, .ref l0]) cd_174_133 rfl rfl ?_
                refine gs_0 (pc' := 135) (L' := [some (.ref l0), some (.int l1), some (.int x_4), some (.int x_8)]) (st' := [.int (x_4 * x_8), .int 2, .ref l0]) cd_174_134 rfl rfl ?_
                refine gs_0 (pc' := 136) (L' := [some (.ref l0), some (.int l1), some (.int x_4), some (.int x_8)]) (st' := [.int 0, .int (x_4 * x_8), .int 2, .ref l0]) cd_174_135 rfl rfl ?_
                obtain ⟨ht, h⟩ := gO_s h
                obtain ⟨x_28, w_25, I_26, J_27, hcl, h⟩ := cI_s h
                refine gs_call (as := [.ref l0, .int 2, .int (x_4 * x_8), .int 0]) (rest := []) cd_174_136 rfl (by decide) rfl (sm_rv_ok (by decide) ht) (Nat.le_of_ble_eq_true rfl) (Nat.le_of_ble_eq_true rfl) rfl hcl ?_
                cases h
                exact gs_ri cd_174_139 (Or.inl rfl)
              · rw [if_neg hc6] at h
                refine gs_0 (pc' := 140) (L' := [some (.ref l0), some (.int l1), some (.int x_4), some (.int x_8)]) (st' := []) cd_174_13 rfl (sw_174_13_d hc0 hc1 hc2 hc3 hc4 hc5 hc6) ?_
                refine gs_0 (pc' := 141) (L' := [some (.ref l0), some (.int l1), some (.int x_4), some (.int x_8)]) (st' := [.int x_8]) cd_174_140 rfl rfl ?_
                refine gs_0 (pc' := if ¬ x_8 = 0 then 146 else 144) (L' := [some (.ref l0), some (.int l1), some (.int x_4), some (.int x_8)]) (st' := []) cd_174_141 rfl rfl ?_
                refine go_ite (fun hc => ?_) (fun hc => ?_)
                · rw [if_pos hc] at h
                  refine gs_0 (pc' := 147) (L' := [some (.ref l0), some (.int l1), some (.int x_4), some (.int x_8)]) (st' := [.ref l0]) cd_174_146 rfl rfl ?_
                  refine gs_0 (pc' := 148) (L' := [some (.ref l0), some (.int l1), some (.int x_4), some (.int x_8)]) (st' := [.int 2, .ref l0]) cd_174_147 rfl rfl ?_
                  refine gs_0 (pc' := 149) (L' := [some (.ref l0), some (.int l1), some (.int x_4), some (.int x_8)]) (st' := [.int x_8, .int 2, .ref l0]) cd_174_148 rfl rfl ?_
                  refine gs_0 (pc' := 150) (L' := [some (.ref l0), some (.int l1), some (.int x_4), some (.int x_8)]) (st' := [.int ((-1)), .int x_8, .int 2, .ref l0]) cd_174_149 rfl rfl ?_
                  refine gs_0 (pc' := if ¬ x_8 = (-1) then 158 else 153) (L' := [some (.ref l0), some (.int l1), some (.int x_4), some (.int x_8)]) (st' := [.int 2, .ref l0]) cd_174_150 rfl rfl ?_
                  refine go_ite (fun hc => ?_) (fun hc => ?_)
                  · rw [if_pos hc] at h
                    refine gs_0 (pc' := 159) (L' := [some (.ref l0), some (.int l1), some (.int x_4), some (.int x_8)]) (st' := [.int x_4, .int 2, .ref l0]) cd_174_158 rfl rfl ?_
                    refine gs_0 (pc' := 160) (L' := [some (.ref l0), some (.int l1), some (.int x_4), some (.int x_8)]) (st' := [.int x_8, .int x_4, .int 2, .ref l0]) cd_174_159 rfl rfl ?_
                    obtain ⟨hc, h⟩ := gC_s h
                    refine gs_div cd_174_160 hc ?_
                    exact ok_174_161 h
                  · rw [if_neg hc] at h
                    refine gs_0 (pc' := 154) (L' := [some (.ref l0), some (.int l1), some (.int x_4), some (.int x_8)]) (st' := [.int x_4, .int 2, .ref l0]) cd_174_153 rfl rfl ?_
                    refine gs_0 (pc' := 155) (L' := [some (.ref l0), some (.int l1), some (.int x_4), some (.int x_8)]) (st' := [.int (-x_4), .int 2, .ref l0]) cd_174_154 rfl rfl ?_
                    refine gs_0 (pc' := 161) (L' := [some (.ref l0), some (.int l1), some (.int x_4), some (.int x_8)]) (st' := [.int (-x_4), .int 2, .ref l0]) cd_174_155 rfl rfl ?_
                    exact ok_174_161 h
                · rw [if_neg hc] at h
                  refine gs_0 (pc' := 145) (L' := [some (.ref l0), some (.int l1), some (.int x_4), some (.int x_8)]) (st' := [.int 2]) cd_174_144 rfl rfl ?_
                  cases h
                  exact gs_ri cd_174_145 (Or.inl rfl)
theorem cl_174 {K : Nat → Value} {k d : Nat} {l0 : Nat} {l1 : Int32} {w : aW} {I : aI} {J : aJ} {R : aR} (h : f_174 K k d l0 l1 w I J = some R) : Cl K (d + 1) 174 [.ref l0, .int l1] w I J = some R := Cl_of (ok_174 h)
/-! ProvedMachine$Machine.keep()V -/
set_option maxRecDepth 20000 in
theorem gl_175 : gcd.lookup 175 = some gw_175 := rfl
theorem cd_175_0 : sm_cd 175 0 = some (.aload_n 0, 1, 0, 0, 0, 0, 0, 0, 0) := cd_of gl_175 rfl
theorem cd_175_1 : sm_cd 175 1 = some (.aload_n 0, 1, 0, 0, 0, 0, 0, 0, 0) := cd_of gl_175 rfl
theorem cd_175_2 : sm_cd 175 2 = some (.getfield 32, 3, 0, 7, 0, 0, 0, 0, 0) := cd_of gl_175 rfl
theorem cd_175_5 : sm_cd 175 5 = some (.iconst 1, 1, 0, 0, 0, 0, 0, 1, 0) := cd_of gl_175 rfl
theorem cd_175_6 : sm_cd 175 6 = some (.iadd, 1, 0, 0, 0, 0, 0, 0, 0) := cd_of gl_175 rfl
theorem cd_175_7 : sm_cd 175 7 = some (.bipush 31, 2, 0, 0, 0, 0, 0, 31, 0) := cd_of gl_175 rfl
theorem cd_175_9 : sm_cd 175 9 = some (.iand, 1, 0, 0, 0, 0, 0, 0, 0) := cd_of gl_175 rfl
theorem cd_175_10 : sm_cd 175 10 = some (.putfield 32, 3, 0, 7, 0, 0, 0, 0, 0) := cd_of gl_175 rfl
theorem cd_175_13 : sm_cd 175 13 = some (.aload_n 0, 1, 0, 0, 0, 0, 0, 0, 0) := cd_of gl_175 rfl
theorem cd_175_14 : sm_cd 175 14 = some (.aload_n 0, 1, 0, 0, 0, 0, 0, 0, 0) := cd_of gl_175 rfl
theorem cd_175_15 : sm_cd 175 15 = some (.getfield 36, 3, 0, 8, 0, 0, 0, 0, 0) := cd_of gl_175 rfl
theorem cd_175_18 : sm_cd 175 18 = some (.iconst 1, 1, 0, 0, 0, 0, 0, 1, 0) := cd_of gl_175 rfl
theorem cd_175_19 : sm_cd 175 19 = some (.iadd, 1, 0, 0, 0, 0, 0, 0, 0) := cd_of gl_175 rfl
theorem cd_175_20 : sm_cd 175 20 = some (.bipush 30, 2, 0, 0, 0, 0, 0, 30, 0) := cd_of gl_175 rfl
theorem cd_175_22 : sm_cd 175 22 = some (.invokestatic 91, 3, 0, 6, 0, 0, 0, 0, 0) := cd_of gl_175 rfl
theorem cd_175_25 : sm_cd 175 25 = some (.putfield 36, 3, 0, 8, 0, 0, 0, 0, 0) := cd_of gl_175 rfl
theorem cd_175_28 : sm_cd 175 28 = some (.return_, 1, 0, 0, 0, 0, 0, 0, 0) := cd_of gl_175 rfl
noncomputable def f_175 (K : Nat → Value) (k d : Nat) (l0 : Nat) (w : aW) (I : aI) (J : aJ) : Option aR :=
  gO w 0 l0 (
  gO w 0 l0 (
  lt_ (sm_up2 I l0 7 (((I l0 7) + 1) &&& 31)) fun I_1 =>
  gO w 0 l0 (
  gO w 0 l0 (
  lt_ (sm_up2 I_1 l0 8 ((if (30 : Int32) < ((I_1 l0 8) + 1 : Int32) then (30 : Int32) else ((I_1 l0 8) + 1 : Int32)))) fun I_2 =>
  some (none, w, I_2, J)))))
theorem ok_175 {K : Nat → Value} {k d : Nat} {l0 : Nat} {w : aW} {I : aI} {J : aJ} {R : aR} (h : f_175 K k d l0 w I J = some R) : Go K (d + 1) 175 0 [some (.ref l0)] [] w I J R := by
  unfold f_175 at h
  refine gs_0 (pc' := 1) (L' := [some (.ref l0)]) (st' := [.ref l0]) cd_175_0 rfl rfl ?_
  refine gs_0 (pc' := 2) (L' := [some (.ref l0)]) (st' := [.ref l0, .ref l0]) cd_175_1 rfl rfl ?_
  obtain ⟨ht, h⟩ := gO_s h
  refine gs_gfI cd_175_2 (by decide) (by decide) ht ?_
  refine gs_0 (pc' := 6) (L' := [some (.ref l0)]) (st' := [.int 1, .int (I l0 7), .ref l0]) cd_175_5 rfl rfl ?_
  refine gs_0 (pc' := 7) (L' := [some (.ref l0)]) (st' := [.int ((I l0 7) + 1), .ref l0]) cd_175_6 rfl rfl ?_
  refine gs_0 (pc' := 9) (L' := [some (.ref l0)]) (st' := [.int 31, .int ((I l0 7) + 1), .ref l0]) cd_175_7 rfl rfl ?_
  refine gs_0 (pc' := 10) (L' := [some (.ref l0)]) (st' := [.int (((I l0 7) + 1) &&& 31), .ref l0]) cd_175_9 rfl rfl ?_
  obtain ⟨ht, h⟩ := gO_s h
  refine gs_pfI cd_175_10 (by decide) (Or.inl rfl) ht ?_
  obtain ⟨I_1, hx, h⟩ := lt_s_ h
  rw [hx]
  refine gs_0 (pc' := 14) (L' := [some (.ref l0)]) (st' := [.ref l0]) cd_175_13 rfl rfl ?_
  refine gs_0 (pc' := 15) (L' := [some (.ref l0)]) (st' := [.ref l0, .ref l0]) cd_175_14 rfl rfl ?_
  obtain ⟨ht, h⟩ := gO_s h
  refine gs_gfI cd_175_15 (by decide) (by decide) ht ?_
  refine gs_0 (pc' := 19) (L' := [some (.ref l0)]) (st' := [.int 1, .int (I_1 l0 8), .ref l0]) cd_175_18 rfl rfl ?_
  refine gs_0 (pc' := 20) (L' := [some (.ref l0)]) (st' := [.int ((I_1 l0 8) + 1), .ref l0]) cd_175_19 rfl rfl ?_
  refine gs_0 (pc' := 22) (L' := [some (.ref l0)]) (st' := [.int 30, .int ((I_1 l0 8) + 1), .ref l0]) cd_175_20 rfl rfl ?_
  refine gsp (pc' := 25) (L' := [some (.ref l0)]) (st' := [.int ((if (30 : Int32) < ((I_1 l0 8) + 1 : Int32) then (30 : Int32) else ((I_1 l0 8) + 1 : Int32))), .ref l0]) cd_175_22 rfl (by decide) rfl ?_
  obtain ⟨ht, h⟩ := gO_s h
  refine gs_pfI cd_175_25 (by decide) (Or.inl rfl) ht ?_
  obtain ⟨I_2, hx, h⟩ := lt_s_ h
  rw [hx]
  cases h
  exact gsr cd_175_28 rfl rfl
theorem cl_175 {K : Nat → Value} {k d : Nat} {l0 : Nat} {w : aW} {I : aI} {J : aJ} {R : aR} (h : f_175 K k d l0 w I J = some R) : Cl K (d + 1) 175 [.ref l0] w I J = some R := Cl_of (ok_175 h)
/-! ProvedMachineModel.step(I)J -/
set_option maxRecDepth 20000 in
theorem gl_176 : gcd.lookup 176 = some gw_176 := rfl
theorem cd_176_0 : sm_cd 176 0 = some (.iload_n 1, 1, 1, 0, 0, 0, 0, 0, 0) := cd_of gl_176 rfl
theorem cd_176_1 : sm_cd 176 1 = some (.iconst 1, 1, 0, 0, 0, 0, 0, 1, 0) := cd_of gl_176 rfl
theorem cd_176_2 : sm_cd 176 2 = some (.sipush 400, 3, 0, 0, 0, 0, 0, 400, 0) := cd_of gl_176 rfl
theorem cd_176_5 : sm_cd 176 5 = some (.invokestatic 144, 3, 19, 1, 3, 3, 6, 0, 0) := cd_of gl_176 rfl
theorem cd_176_8 : sm_cd 176 8 = some (.ifCond .ne 9, 3, 17, 0, 0, 0, 0, 0, 0) := cd_of gl_176 rfl
theorem cd_176_11 : sm_cd 176 11 = some (.aload_n 0, 1, 0, 0, 0, 0, 0, 0, 0) := cd_of gl_176 rfl
theorem cd_176_12 : sm_cd 176 12 = some (.iconst 1, 1, 0, 0, 0, 0, 0, 1, 0) := cd_of gl_176 rfl
theorem cd_176_13 : sm_cd 176 13 = some (.invokevirtual 148, 3, 20, 0, 1, 2, 6, 0, 0) := cd_of gl_176 rfl
theorem cd_176_16 : sm_cd 176 16 = some (.lreturn, 1, 0, 0, 0, 0, 0, 0, 0) := cd_of gl_176 rfl
theorem cd_176_17 : sm_cd 176 17 = some (.aload_n 0, 1, 0, 0, 0, 0, 0, 0, 0) := cd_of gl_176 rfl
theorem cd_176_18 : sm_cd 176 18 = some (.getfield 333, 3, 6, 42, 1, 0, 0, 0, 0) := cd_of gl_176 rfl
theorem cd_176_21 : sm_cd 176 21 = some (.ifCond .ne 10, 3, 31, 0, 0, 0, 0, 0, 0) := cd_of gl_176 rfl
theorem cd_176_24 : sm_cd 176 24 = some (.aload_n 0, 1, 0, 0, 0, 0, 0, 0, 0) := cd_of gl_176 rfl
theorem cd_176_25 : sm_cd 176 25 = some (.bipush 6, 2, 0, 0, 0, 0, 0, 6, 0) := cd_of gl_176 rfl
theorem cd_176_27 : sm_cd 176 27 = some (.invokevirtual 148, 3, 20, 0, 1, 2, 6, 0, 0) := cd_of gl_176 rfl
theorem cd_176_30 : sm_cd 176 30 = some (.lreturn, 1, 0, 0, 0, 0, 0, 0, 0) := cd_of gl_176 rfl
theorem cd_176_31 : sm_cd 176 31 = some (.aload_n 0, 1, 0, 0, 0, 0, 0, 0, 0) := cd_of gl_176 rfl
theorem cd_176_32 : sm_cd 176 32 = some (.getfield 111, 3, 6, 36, 2, 0, 0, 0, 0) := cd_of gl_176 rfl
theorem cd_176_35 : sm_cd 176 35 = some (.iconst 0, 1, 0, 0, 0, 0, 0, 0, 0) := cd_of gl_176 rfl
theorem cd_176_36 : sm_cd 176 36 = some (.iaload, 1, 0, 0, 0, 0, 0, 0, 0) := cd_of gl_176 rfl
theorem cd_176_37 : sm_cd 176 37 = some (.ifCond .eq 10, 3, 47, 0, 0, 0, 0, 0, 0) := cd_of gl_176 rfl
theorem cd_176_40 : sm_cd 176 40 = some (.aload_n 0, 1, 0, 0, 0, 0, 0, 0, 0) := cd_of gl_176 rfl
theorem cd_176_41 : sm_cd 176 41 = some (.bipush 7, 2, 0, 0, 0, 0, 0, 7, 0) := cd_of gl_176 rfl
theorem cd_176_43 : sm_cd 176 43 = some (.invokevirtual 148, 3, 20, 0, 1, 2, 6, 0, 0) := cd_of gl_176 rfl
theorem cd_176_46 : sm_cd 176 46 = some (.lreturn, 1, 0, 0, 0, 0, 0, 0, 0) := cd_of gl_176 rfl
theorem cd_176_47 : sm_cd 176 47 = some (.iconst 0, 1, 0, 0, 0, 0, 0, 0, 0) := cd_of gl_176 rfl
theorem cd_176_48 : sm_cd 176 48 = some (.istore_n 2, 1, 2, 0, 0, 0, 0, 0, 0) := cd_of gl_176 rfl
theorem cd_176_49 : sm_cd 176 49 = some (.iload_n 2, 1, 2, 0, 0, 0, 0, 0, 0) := cd_of gl_176 rfl
theorem cd_176_50 : sm_cd 176 50 = some (.iload_n 1, 1, 1, 0, 0, 0, 0, 0, 0) := cd_of gl_176 rfl
theorem cd_176_51 : sm_cd 176 51 = some (.if_icmp .ge 45, 3, 96, 0, 0, 0, 0, 0, 0) := cd_of gl_176 rfl
theorem cd_176_54 : sm_cd 176 54 = some (.aload_n 0, 1, 0, 0, 0, 0, 0, 0, 0) := cd_of gl_176 rfl
theorem cd_176_55 : sm_cd 176 55 = some (.getfield 111, 3, 6, 36, 2, 0, 0, 0, 0) := cd_of gl_176 rfl
theorem cd_176_58 : sm_cd 176 58 = some (.iconst 0, 1, 0, 0, 0, 0, 0, 0, 0) := cd_of gl_176 rfl
theorem cd_176_59 : sm_cd 176 59 = some (.iaload, 1, 0, 0, 0, 0, 0, 0, 0) := cd_of gl_176 rfl
theorem cd_176_60 : sm_cd 176 60 = some (.ifCond .ne 36, 3, 96, 0, 0, 0, 0, 0, 0) := cd_of gl_176 rfl
theorem cd_176_63 : sm_cd 176 63 = some (.aload_n 0, 1, 0, 0, 0, 0, 0, 0, 0) := cd_of gl_176 rfl
theorem cd_176_64 : sm_cd 176 64 = some (.getfield 111, 3, 6, 36, 2, 0, 0, 0, 0) := cd_of gl_176 rfl
theorem cd_176_67 : sm_cd 176 67 = some (.iconst 0, 1, 0, 0, 0, 0, 0, 0, 0) := cd_of gl_176 rfl
theorem cd_176_68 : sm_cd 176 68 = some (.aload_n 0, 1, 0, 0, 0, 0, 0, 0, 0) := cd_of gl_176 rfl
theorem cd_176_69 : sm_cd 176 69 = some (.getfield 114, 3, 6, 37, 2, 0, 0, 0, 0) := cd_of gl_176 rfl
theorem cd_176_72 : sm_cd 176 72 = some (.iconst 0, 1, 0, 0, 0, 0, 0, 0, 0) := cd_of gl_176 rfl
theorem cd_176_73 : sm_cd 176 73 = some (.sipush 360, 3, 0, 0, 0, 0, 0, 360, 0) := cd_of gl_176 rfl
theorem cd_176_76 : sm_cd 176 76 = some (.invokestatic 418, 3, 177, 1, 5, 6, 6, 0, 0) := cd_of gl_176 rfl
theorem cd_176_79 : sm_cd 176 79 = some (.aload_n 0, 1, 0, 0, 0, 0, 0, 0, 0) := cd_of gl_176 rfl
theorem cd_176_80 : sm_cd 176 80 = some (.invokevirtual 422, 3, 178, 0, 0, 7, 6, 0, 0) := cd_of gl_176 rfl
theorem cd_176_83 : sm_cd 176 83 = some (.ifCond .eq (-34), 3, 49, 0, 0, 0, 0, 0, 0) := cd_of gl_176 rfl
theorem cd_176_86 : sm_cd 176 86 = some (.aload_n 0, 1, 0, 0, 0, 0, 0, 0, 0) := cd_of gl_176 rfl
theorem cd_176_87 : sm_cd 176 87 = some (.invokevirtual 425, 3, 196, 0, 0, 1, 6, 0, 0) := cd_of gl_176 rfl
theorem cd_176_90 : sm_cd 176 90 = some (.iinc 2 1, 3, 2, 0, 0, 0, 0, 1, 0) := cd_of gl_176 rfl
theorem cd_176_93 : sm_cd 176 93 = some (.goto (-44), 3, 49, 0, 0, 0, 0, 0, 0) := cd_of gl_176 rfl
theorem cd_176_96 : sm_cd 176 96 = some (.iload_n 2, 1, 2, 0, 0, 0, 0, 0, 0) := cd_of gl_176 rfl
theorem cd_176_97 : sm_cd 176 97 = some (.i2l, 1, 0, 0, 0, 0, 0, 0, 0) := cd_of gl_176 rfl
theorem cd_176_98 : sm_cd 176 98 = some (.lreturn, 1, 0, 0, 0, 0, 0, 0, 0) := cd_of gl_176 rfl
noncomputable def f_176_96 (K : Nat → Value) (k d : Nat) (l0 : Nat) (l1 : Int32) (l2 : Int32) (w : aW) (I : aI) (J : aJ) : Option aR :=
  some (some (.long ((l2 : Int32).toInt64)), w, I, J)
theorem ok_176_96 {K : Nat → Value} {k d : Nat} {l0 : Nat} {l1 : Int32} {l2 : Int32} {w : aW} {I : aI} {J : aJ} {R : aR} (h : f_176_96 K k d l0 l1 l2 w I J = some R) : Go K (d + 1) 176 96 [some (.ref l0), some (.int l1), some (.int l2)] [] w I J R := by
  unfold f_176_96 at h
  refine gs_0 (pc' := 97) (L' := [some (.ref l0), some (.int l1), some (.int l2)]) (st' := [.int l2]) cd_176_96 rfl rfl ?_
  refine gs_0 (pc' := 98) (L' := [some (.ref l0), some (.int l1), some (.int l2)]) (st' := [.long ((l2 : Int32).toInt64)]) cd_176_97 rfl rfl ?_
  cases h
  exact gsr cd_176_98 rfl rfl
noncomputable def f_176_49 (K : Nat → Value) (k : Nat) (d : Nat) : Nat → Int32 → Int32 → aW → aI → aJ → Option aR :=
  match k with
  | 0 => fun _ _ _ _ _ _ => none
  | k + 1 => fun l0 l1 l2 w I J =>
  lt_ (f_176_49 K k d) fun r49 =>
  if l1 ≤ l2 then
    f_176_96 K k d l0 l1 l2 w I J
  else
    gO w 6 l0 (
    gV w l0 36 fun q_1 =>
    gA w 10 20 q_1 0 (
    if ¬ (I q_1 (0 : Int32).toNatClampNeg) = 0 then
      f_176_96 K k d l0 l1 l2 w I J
    else
      gO w 6 l0 (
      gV w l0 36 fun q_2 =>
      gO w 6 l0 (
      gV w l0 37 fun q_3 =>
      cV (Cl K d 177 [.ref q_2, .int 0, .ref q_3, .int 0, .int 360] w I J) fun w_4 I_5 J_6 =>
      gO w_4 6 l0 (
      cI (Cl K d 178 [.ref l0] w_4 I_5 J_6) fun x_10 w_7 I_8 J_9 =>
      if x_10 = 0 then
        r49 l0 l1 l2 w_7 I_8 J_9
      else
        gO w_7 6 l0 (
        cV (Cl K d 196 [.ref l0] w_7 I_8 J_9) fun w_11 I_12 J_13 =>
        lt_ (l2 + 1) fun x_14 =>
        r49 l0 l1 x_14 w_11 I_12 J_13))))))
theorem ok_176_49 {K : Nat → Value} {d : Nat} : ∀ {k : Nat} {l0 : Nat} {l1 : Int32} {l2 : Int32} {w : aW} {I : aI} {J : aJ} {R : aR}, f_176_49 K k d l0 l1 l2 w I J = some R → Go K (d + 1) 176 49 [some (.ref l0), some (.int l1), some (.int l2)] [] w I J R := by
  intro k
  induction k with
  | zero => intro l0 l1 l2 w I J R h; cases h
  | succ k ih =>
    intro l0 l1 l2 w I J R h
    have hr49 : ∀ (l0 : Nat) (l1 : Int32) (l2 : Int32) (w : aW) (I : aI) (J : aJ) (R : aR), f_176_49 K k d l0 l1 l2 w I J = some R → Go K (d + 1) 176 49 [some (.ref l0), some (.int l1), some (.int l2)] [] w I J R := fun l0 l1 l2 w I J R h => ih h
    rw [f_176_49] at h
    obtain ⟨r49, hx, h⟩ := lt_s_ h
    rw [hx] at hr49
    clear hx ih
    refine gs_0 (pc' := 50) (L' := [some (.ref l0), some (.int l1), some (.int l2)]) (st' := [.int l2]) cd_176_49 rfl rfl ?_
    refine gs_0 (pc' := 51) (L' := [some (.ref l0), some (.int l1), some (.int l2)]) (st' := [.int l1, .int l2]) cd_176_50 rfl rfl ?_
    refine gs_0 (pc' := if l1 ≤ l2 then 96 else 54) (L' := [some (.ref l0), some (.int l1), some (.int l2)]) (st' := []) cd_176_51 rfl rfl ?_
    refine go_ite (fun hc => ?_) (fun hc => ?_)
    · rw [if_pos hc] at h
      exact ok_176_96 h
    · rw [if_neg hc] at h
      refine gs_0 (pc' := 55) (L' := [some (.ref l0), some (.int l1), some (.int l2)]) (st' := [.ref l0]) cd_176_54 rfl rfl ?_
      obtain ⟨ht, h⟩ := gO_s h
      obtain ⟨q_1, hv, h⟩ := gV_s h
      refine gs_gfR cd_176_55 (by decide) ht hv ?_
      refine gs_0 (pc' := 59) (L' := [some (.ref l0), some (.int l1), some (.int l2)]) (st' := [.int 0, .ref q_1]) cd_176_58 rfl rfl ?_
      obtain ⟨ht, h⟩ := gA_s h
      refine gs_iald cd_176_59 ht ?_
      refine gs_0 (pc' := if ¬ (I q_1 (0 : Int32).toNatClampNeg) = 0 then 96 else 63) (L' := [some (.ref l0), some (.int l1), some (.int l2)]) (st' := []) cd_176_60 rfl rfl ?_
      refine go_ite (fun hc => ?_) (fun hc => ?_)
      · rw [if_pos hc] at h
        exact ok_176_96 h
      · rw [if_neg hc] at h
        refine gs_0 (pc' := 64) (L' := [some (.ref l0), some (.int l1), some (.int l2)]) (st' := [.ref l0]) cd_176_63 rfl rfl ?_
        obtain ⟨ht, h⟩ := gO_s h
        obtain ⟨q_2, hv, h⟩ := gV_s h
        refine gs_gfR cd_176_64 (by decide) ht hv ?_
        refine gs_0 (pc' := 68) (L' := [some (.ref l0), some (.int l1), some (.int l2)]) (st' := [.int 0, .ref q_2]) cd_176_67 rfl rfl ?_
        refine gs_0 (pc' := 69) (L' := [some (.ref l0), some (.int l1), some (.int l2)]) (st' := [.ref l0, .int 0, .ref q_2]) cd_176_68 rfl rfl ?_
        obtain ⟨ht, h⟩ := gO_s h
        obtain ⟨q_3, hv, h⟩ := gV_s h
        refine gs_gfR cd_176_69 (by decide) ht hv ?_
        refine gs_0 (pc' := 73) (L' := [some (.ref l0), some (.int l1), some (.int l2)]) (st' := [.int 0, .ref q_3, .int 0, .ref q_2]) cd_176_72 rfl rfl ?_
        refine gs_0 (pc' := 76) (L' := [some (.ref l0), some (.int l1), some (.int l2)]) (st' := [.int 360, .int 0, .ref q_3, .int 0, .ref q_2]) cd_176_73 rfl rfl ?_
        obtain ⟨w_4, I_5, J_6, hcl, h⟩ := cV_s h
        refine gs_call (as := [.ref q_2, .int 0, .ref q_3, .int 0, .int 360]) (rest := []) cd_176_76 rfl (by decide) rfl rfl (Nat.le_of_ble_eq_true rfl) (Nat.le_of_ble_eq_true rfl) rfl hcl ?_
        refine gs_0 (pc' := 80) (L' := [some (.ref l0), some (.int l1), some (.int l2)]) (st' := [.ref l0]) cd_176_79 rfl rfl ?_
        obtain ⟨ht, h⟩ := gO_s h
        obtain ⟨x_10, w_7, I_8, J_9, hcl, h⟩ := cI_s h
        refine gs_call (as := [.ref l0]) (rest := []) cd_176_80 rfl (by decide) rfl (sm_rv_ok (by decide) ht) (Nat.le_of_ble_eq_true rfl) (Nat.le_of_ble_eq_true rfl) rfl hcl ?_
        refine gs_0 (pc' := if x_10 = 0 then 49 else 86) (L' := [some (.ref l0), some (.int l1), some (.int l2)]) (st' := []) cd_176_83 rfl rfl ?_
        refine go_ite (fun hc => ?_) (fun hc => ?_)
        · rw [if_pos hc] at h
          exact hr49 l0 l1 l2 _ _ _ _ h
        · rw [if_neg hc] at h
          refine gs_0 (pc' := 87) (L' := [some (.ref l0), some (.int l1), some (.int l2)]) (st' := [.ref l0]) cd_176_86 rfl rfl ?_
          obtain ⟨ht, h⟩ := gO_s h
          obtain ⟨w_11, I_12, J_13, hcl, h⟩ := cV_s h
          refine gs_call (as := [.ref l0]) (rest := []) cd_176_87 rfl (by decide) rfl (sm_rv_ok (by decide) ht) (Nat.le_of_ble_eq_true rfl) (Nat.le_of_ble_eq_true rfl) rfl hcl ?_
          refine gs_0 (pc' := 93) (L' := [some (.ref l0), some (.int l1), some (.int (l2 + 1))]) (st' := []) cd_176_90 rfl rfl ?_
          obtain ⟨x_14, hx, h⟩ := lt_s_ h
          rw [hx]
          clear hx
          refine gs_0 (pc' := 49) (L' := [some (.ref l0), some (.int l1), some (.int x_14)]) (st' := []) cd_176_93 rfl rfl ?_
          exact hr49 l0 l1 x_14 _ _ _ _ h
noncomputable def f_176 (K : Nat → Value) (k d : Nat) (l0 : Nat) (l1 : Int32) (w : aW) (I : aI) (J : aJ) : Option aR :=
  cI (Cl K d 19 [.int l1, .int 1, .int 400] w I J) fun x_4 w_1 I_2 J_3 =>
  if ¬ x_4 = 0 then
    gO w_1 6 l0 (
    if ¬ (I_2 l0 42) = 0 then
      gO w_1 6 l0 (
      gV w_1 l0 36 fun q_5 =>
      gA w_1 10 20 q_5 0 (
      if (I_2 q_5 (0 : Int32).toNatClampNeg) = 0 then
        f_176_49 K k d l0 l1 0 w_1 I_2 J_3
      else
        gO w_1 6 l0 (
        cJ (Cl K d 20 [.ref l0, .int 7] w_1 I_2 J_3) fun v_9 w_6 I_7 J_8 =>
        some (some (.long v_9), w_6, I_7, J_8))))
    else
      gO w_1 6 l0 (
      cJ (Cl K d 20 [.ref l0, .int 6] w_1 I_2 J_3) fun v_13 w_10 I_11 J_12 =>
      some (some (.long v_13), w_10, I_11, J_12)))
  else
    gO w_1 6 l0 (
    cJ (Cl K d 20 [.ref l0, .int 1] w_1 I_2 J_3) fun v_17 w_14 I_15 J_16 =>
    some (some (.long v_17), w_14, I_15, J_16))
theorem ok_176 {K : Nat → Value} {k d : Nat} {l0 : Nat} {l1 : Int32} {w : aW} {I : aI} {J : aJ} {R : aR} (h : f_176 K k d l0 l1 w I J = some R) : Go K (d + 1) 176 0 [some (.ref l0), some (.int l1), none] [] w I J R := by
  unfold f_176 at h
  refine gs_0 (pc' := 1) (L' := [some (.ref l0), some (.int l1), none]) (st' := [.int l1]) cd_176_0 rfl rfl ?_
  refine gs_0 (pc' := 2) (L' := [some (.ref l0), some (.int l1), none]) (st' := [.int 1, .int l1]) cd_176_1 rfl rfl ?_
  refine gs_0 (pc' := 5) (L' := [some (.ref l0), some (.int l1), none]) (st' := [.int 400, .int 1, .int l1]) cd_176_2 rfl rfl ?_
  obtain ⟨x_4, w_1, I_2, J_3, hcl, h⟩ := cI_s h
  refine gs_call (as := [.int l1, .int 1, .int 400]) (rest := []) cd_176_5 rfl (by decide) rfl rfl (Nat.le_of_ble_eq_true rfl) (Nat.le_of_ble_eq_true rfl) rfl hcl ?_
  refine gs_0 (pc' := if ¬ x_4 = 0 then 17 else 11) (L' := [some (.ref l0), some (.int l1), none]) (st' := []) cd_176_8 rfl rfl ?_
  refine go_ite (fun hc => ?_) (fun hc => ?_)
  · rw [if_pos hc] at h
    refine gs_0 (pc' := 18) (L' := [some (.ref l0), some (.int l1), none]) (st' := [.ref l0]) cd_176_17 rfl rfl ?_
    obtain ⟨ht, h⟩ := gO_s h
    refine gs_gfI cd_176_18 (by decide) (by decide) ht ?_
    refine gs_0 (pc' := if ¬ (I_2 l0 42) = 0 then 31 else 24) (L' := [some (.ref l0), some (.int l1), none]) (st' := []) cd_176_21 rfl rfl ?_
    refine go_ite (fun hc => ?_) (fun hc => ?_)
    · rw [if_pos hc] at h
      refine gs_0 (pc' := 32) (L' := [some (.ref l0), some (.int l1), none]) (st' := [.ref l0]) cd_176_31 rfl rfl ?_
      obtain ⟨ht, h⟩ := gO_s h
      obtain ⟨q_5, hv, h⟩ := gV_s h
      refine gs_gfR cd_176_32 (by decide) ht hv ?_
      refine gs_0 (pc' := 36) (L' := [some (.ref l0), some (.int l1), none]) (st' := [.int 0, .ref q_5]) cd_176_35 rfl rfl ?_
      obtain ⟨ht, h⟩ := gA_s h
      refine gs_iald cd_176_36 ht ?_
      refine gs_0 (pc' := if (I_2 q_5 (0 : Int32).toNatClampNeg) = 0 then 47 else 40) (L' := [some (.ref l0), some (.int l1), none]) (st' := []) cd_176_37 rfl rfl ?_
      refine go_ite (fun hc => ?_) (fun hc => ?_)
      · rw [if_pos hc] at h
        refine gs_0 (pc' := 48) (L' := [some (.ref l0), some (.int l1), none]) (st' := [.int 0]) cd_176_47 rfl rfl ?_
        refine gs_0 (pc' := 49) (L' := [some (.ref l0), some (.int l1), some (.int 0)]) (st' := []) cd_176_48 rfl rfl ?_
        exact ok_176_49 h
      · rw [if_neg hc] at h
        refine gs_0 (pc' := 41) (L' := [some (.ref l0), some (.int l1), none]) (st' := [.ref l0]) cd_176_40 rfl rfl ?_
        refine gs_0 (pc' := 43) (L' := [some (.ref l0), some (.int l1), none]) (st' := [.int 7, .ref l0]) cd_176_41 rfl rfl ?_
        obtain ⟨ht, h⟩ := gO_s h
        obtain ⟨v_9, w_6, I_7, J_8, hcl, h⟩ := cJ_s h
        refine gs_call (as := [.ref l0, .int 7]) (rest := []) cd_176_43 rfl (by decide) rfl (sm_rv_ok (by decide) ht) (Nat.le_of_ble_eq_true rfl) (Nat.le_of_ble_eq_true rfl) rfl hcl ?_
        cases h
        exact gsr cd_176_46 rfl rfl
    · rw [if_neg hc] at h
      refine gs_0 (pc' := 25) (L' := [some (.ref l0), some (.int l1), none]) (st' := [.ref l0]) cd_176_24 rfl rfl ?_
      refine gs_0 (pc' := 27) (L' := [some (.ref l0), some (.int l1), none]) (st' := [.int 6, .ref l0]) cd_176_25 rfl rfl ?_
      obtain ⟨ht, h⟩ := gO_s h
      obtain ⟨v_13, w_10, I_11, J_12, hcl, h⟩ := cJ_s h
      refine gs_call (as := [.ref l0, .int 6]) (rest := []) cd_176_27 rfl (by decide) rfl (sm_rv_ok (by decide) ht) (Nat.le_of_ble_eq_true rfl) (Nat.le_of_ble_eq_true rfl) rfl hcl ?_
      cases h
      exact gsr cd_176_30 rfl rfl
  · rw [if_neg hc] at h
    refine gs_0 (pc' := 12) (L' := [some (.ref l0), some (.int l1), none]) (st' := [.ref l0]) cd_176_11 rfl rfl ?_
    refine gs_0 (pc' := 13) (L' := [some (.ref l0), some (.int l1), none]) (st' := [.int 1, .ref l0]) cd_176_12 rfl rfl ?_
    obtain ⟨ht, h⟩ := gO_s h
    obtain ⟨v_17, w_14, I_15, J_16, hcl, h⟩ := cJ_s h
    refine gs_call (as := [.ref l0, .int 1]) (rest := []) cd_176_13 rfl (by decide) rfl (sm_rv_ok (by decide) ht) (Nat.le_of_ble_eq_true rfl) (Nat.le_of_ble_eq_true rfl) rfl hcl ?_
    cases h
    exact gsr cd_176_16 rfl rfl
theorem cl_176 {K : Nat → Value} {k d : Nat} {l0 : Nat} {l1 : Int32} {w : aW} {I : aI} {J : aJ} {R : aR} (h : f_176 K k d l0 l1 w I J = some R) : Cl K (d + 1) 176 [.ref l0, .int l1] w I J = some R := Cl_of (ok_176 h)
/-! ProvedMachineModel.copyRow([II[III)V -/
set_option maxRecDepth 20000 in
theorem gl_177 : gcd.lookup 177 = some gw_177 := rfl
theorem cd_177_0 : sm_cd 177 0 = some (.iconst 0, 1, 0, 0, 0, 0, 0, 0, 0) := cd_of gl_177 rfl
theorem cd_177_1 : sm_cd 177 1 = some (.istore 5, 2, 5, 0, 0, 0, 0, 0, 0) := cd_of gl_177 rfl
theorem cd_177_3 : sm_cd 177 3 = some (.iload 5, 2, 5, 0, 0, 0, 0, 0, 0) := cd_of gl_177 rfl
theorem cd_177_5 : sm_cd 177 5 = some (.iload 4, 2, 4, 0, 0, 0, 0, 0, 0) := cd_of gl_177 rfl
theorem cd_177_7 : sm_cd 177 7 = some (.if_icmp .ge 21, 3, 28, 0, 0, 0, 0, 0, 0) := cd_of gl_177 rfl
theorem cd_177_10 : sm_cd 177 10 = some (.aload_n 2, 1, 2, 0, 0, 0, 0, 0, 0) := cd_of gl_177 rfl
theorem cd_177_11 : sm_cd 177 11 = some (.iload_n 3, 1, 3, 0, 0, 0, 0, 0, 0) := cd_of gl_177 rfl
theorem cd_177_12 : sm_cd 177 12 = some (.iload 5, 2, 5, 0, 0, 0, 0, 0, 0) := cd_of gl_177 rfl
theorem cd_177_14 : sm_cd 177 14 = some (.iadd, 1, 0, 0, 0, 0, 0, 0, 0) := cd_of gl_177 rfl
theorem cd_177_15 : sm_cd 177 15 = some (.aload_n 0, 1, 0, 0, 0, 0, 0, 0, 0) := cd_of gl_177 rfl
theorem cd_177_16 : sm_cd 177 16 = some (.iload_n 1, 1, 1, 0, 0, 0, 0, 0, 0) := cd_of gl_177 rfl
theorem cd_177_17 : sm_cd 177 17 = some (.iload 5, 2, 5, 0, 0, 0, 0, 0, 0) := cd_of gl_177 rfl
theorem cd_177_19 : sm_cd 177 19 = some (.iadd, 1, 0, 0, 0, 0, 0, 0, 0) := cd_of gl_177 rfl
theorem cd_177_20 : sm_cd 177 20 = some (.iaload, 1, 0, 0, 0, 0, 0, 0, 0) := cd_of gl_177 rfl
theorem cd_177_21 : sm_cd 177 21 = some (.iastore, 1, 0, 0, 0, 0, 0, 0, 0) := cd_of gl_177 rfl
theorem cd_177_22 : sm_cd 177 22 = some (.iinc 5 1, 3, 5, 0, 0, 0, 0, 1, 0) := cd_of gl_177 rfl
theorem cd_177_25 : sm_cd 177 25 = some (.goto (-22), 3, 3, 0, 0, 0, 0, 0, 0) := cd_of gl_177 rfl
theorem cd_177_28 : sm_cd 177 28 = some (.return_, 1, 0, 0, 0, 0, 0, 0, 0) := cd_of gl_177 rfl
noncomputable def f_177_3 (K : Nat → Value) (k : Nat) (d : Nat) : Nat → Int32 → Nat → Int32 → Int32 → Int32 → aW → aI → aJ → Option aR :=
  match k with
  | 0 => fun _ _ _ _ _ _ _ _ _ => none
  | k + 1 => fun l0 l1 l2 l3 l4 l5 w I J =>
  lt_ (f_177_3 K k d) fun r3 =>
  if l4 ≤ l5 then
    some (none, w, I, J)
  else
    gA w 10 20 l0 (l1 + l5) (
    gA w 10 10 l2 (l3 + l5) (
    lt_ (sm_up2 I l2 (l3 + l5 : Int32).toNatClampNeg (I l0 (l1 + l5 : Int32).toNatClampNeg)) fun I_1 =>
    lt_ (l5 + 1) fun x_2 =>
    r3 l0 l1 l2 l3 l4 x_2 w I_1 J))
theorem ok_177_3 {K : Nat → Value} {d : Nat} : ∀ {k : Nat} {l0 : Nat} {l1 : Int32} {l2 : Nat} {l3 : Int32} {l4 : Int32} {l5 : Int32} {w : aW} {I : aI} {J : aJ} {R : aR}, f_177_3 K k d l0 l1 l2 l3 l4 l5 w I J = some R → Go K (d + 1) 177 3 [some (.ref l0), some (.int l1), some (.ref l2), some (.int l3), some (.int l4), some (.int l5)] [] w I J R := by
  intro k
  induction k with
  | zero => intro l0 l1 l2 l3 l4 l5 w I J R h; cases h
  | succ k ih =>
    intro l0 l1 l2 l3 l4 l5 w I J R h
    have hr3 : ∀ (l0 : Nat) (l1 : Int32) (l2 : Nat) (l3 : Int32) (l4 : Int32) (l5 : Int32) (w : aW) (I : aI) (J : aJ) (R : aR), f_177_3 K k d l0 l1 l2 l3 l4 l5 w I J = some R → Go K (d + 1) 177 3 [some (.ref l0), some (.int l1), some (.ref l2), some (.int l3), some (.int l4), some (.int l5)] [] w I J R := fun l0 l1 l2 l3 l4 l5 w I J R h => ih h
    rw [f_177_3] at h
    obtain ⟨r3, hx, h⟩ := lt_s_ h
    rw [hx] at hr3
    clear hx ih
    refine gs_0 (pc' := 5) (L' := [some (.ref l0), some (.int l1), some (.ref l2), some (.int l3), some (.int l4), some (.int l5)]) (st' := [.int l5]) cd_177_3 rfl rfl ?_
    refine gs_0 (pc' := 7) (L' := [some (.ref l0), some (.int l1), some (.ref l2), some (.int l3), some (.int l4), some (.int l5)]) (st' := [.int l4, .int l5]) cd_177_5 rfl rfl ?_
    refine gs_0 (pc' := if l4 ≤ l5 then 28 else 10) (L' := [some (.ref l0), some (.int l1), some (.ref l2), some (.int l3), some (.int l4), some (.int l5)]) (st' := []) cd_177_7 rfl rfl ?_
    refine go_ite (fun hc => ?_) (fun hc => ?_)
    · rw [if_pos hc] at h
      cases h
      exact gsr cd_177_28 rfl rfl
    · rw [if_neg hc] at h
      refine gs_0 (pc' := 11) (L' := [some (.ref l0), some (.int l1), some (.ref l2), some (.int l3), some (.int l4), some (.int l5)]) (st' := [.ref l2]) cd_177_10 rfl rfl ?_
      refine gs_0 (pc' := 12) (L' := [some (.ref l0), some (.int l1), some (.ref l2), some (.int l3), some (.int l4), some (.int l5)]) (st' := [.int l3, .ref l2]) cd_177_11 rfl rfl ?_
      refine gs_0 (pc' := 14) (L' := [some (.ref l0), some (.int l1), some (.ref l2), some (.int l3), some (.int l4), some (.int l5)]) (st' := [.int l5, .int l3, .ref l2]) cd_177_12 rfl rfl ?_
      refine gs_0 (pc' := 15) (L' := [some (.ref l0), some (.int l1), some (.ref l2), some (.int l3), some (.int l4), some (.int l5)]) (st' := [.int (l3 + l5), .ref l2]) cd_177_14 rfl rfl ?_
      refine gs_0 (pc' := 16) (L' := [some (.ref l0), some (.int l1), some (.ref l2), some (.int l3), some (.int l4), some (.int l5)]) (st' := [.ref l0, .int (l3 + l5), .ref l2]) cd_177_15 rfl rfl ?_
      refine gs_0 (pc' := 17) (L' := [some (.ref l0), some (.int l1), some (.ref l2), some (.int l3), some (.int l4), some (.int l5)]) (st' := [.int l1, .ref l0, .int (l3 + l5), .ref l2]) cd_177_16 rfl rfl ?_
      refine gs_0 (pc' := 19) (L' := [some (.ref l0), some (.int l1), some (.ref l2), some (.int l3), some (.int l4), some (.int l5)]) (st' := [.int l5, .int l1, .ref l0, .int (l3 + l5), .ref l2]) cd_177_17 rfl rfl ?_
      refine gs_0 (pc' := 20) (L' := [some (.ref l0), some (.int l1), some (.ref l2), some (.int l3), some (.int l4), some (.int l5)]) (st' := [.int (l1 + l5), .ref l0, .int (l3 + l5), .ref l2]) cd_177_19 rfl rfl ?_
      obtain ⟨ht, h⟩ := gA_s h
      refine gs_iald cd_177_20 ht ?_
      obtain ⟨ht, h⟩ := gA_s h
      refine gs_iast cd_177_21 ht ?_
      obtain ⟨I_1, hx, h⟩ := lt_s_ h
      rw [hx]
      refine gs_0 (pc' := 25) (L' := [some (.ref l0), some (.int l1), some (.ref l2), some (.int l3), some (.int l4), some (.int (l5 + 1))]) (st' := []) cd_177_22 rfl rfl ?_
      obtain ⟨x_2, hx, h⟩ := lt_s_ h
      rw [hx]
      clear hx
      refine gs_0 (pc' := 3) (L' := [some (.ref l0), some (.int l1), some (.ref l2), some (.int l3), some (.int l4), some (.int x_2)]) (st' := []) cd_177_25 rfl rfl ?_
      exact hr3 l0 l1 l2 l3 l4 x_2 _ _ _ _ h
noncomputable def f_177 (K : Nat → Value) (k d : Nat) (l0 : Nat) (l1 : Int32) (l2 : Nat) (l3 : Int32) (l4 : Int32) (w : aW) (I : aI) (J : aJ) : Option aR :=
  f_177_3 K k d l0 l1 l2 l3 l4 0 w I J
theorem ok_177 {K : Nat → Value} {k d : Nat} {l0 : Nat} {l1 : Int32} {l2 : Nat} {l3 : Int32} {l4 : Int32} {w : aW} {I : aI} {J : aJ} {R : aR} (h : f_177 K k d l0 l1 l2 l3 l4 w I J = some R) : Go K (d + 1) 177 0 [some (.ref l0), some (.int l1), some (.ref l2), some (.int l3), some (.int l4), none] [] w I J R := by
  unfold f_177 at h
  refine gs_0 (pc' := 1) (L' := [some (.ref l0), some (.int l1), some (.ref l2), some (.int l3), some (.int l4), none]) (st' := [.int 0]) cd_177_0 rfl rfl ?_
  refine gs_0 (pc' := 3) (L' := [some (.ref l0), some (.int l1), some (.ref l2), some (.int l3), some (.int l4), some (.int 0)]) (st' := []) cd_177_1 rfl rfl ?_
  exact ok_177_3 h
theorem cl_177 {K : Nat → Value} {k d : Nat} {l0 : Nat} {l1 : Int32} {l2 : Nat} {l3 : Int32} {l4 : Int32} {w : aW} {I : aI} {J : aJ} {R : aR} (h : f_177 K k d l0 l1 l2 l3 l4 w I J = some R) : Cl K (d + 1) 177 [.ref l0, .int l1, .ref l2, .int l3, .int l4] w I J = some R := Cl_of (ok_177 h)
/-! ProvedMachineModel.does()Z -/
set_option maxRecDepth 20000 in
theorem gl_178 : gcd.lookup 178 = some gw_178 := rfl
set_option maxRecDepth 20000 in
theorem cd_178_0 : sm_cd 178 0 = some (.aload_n 0, 1, 0, 0, 0, 0, 0, 0, 0) := cd_of gl_178 rfl
set_option maxRecDepth 20000 in
theorem cd_178_1 : sm_cd 178 1 = some (.invokevirtual 394, 3, 179, 0, 0, 1, 6, 0, 0) := cd_of gl_178 rfl
set_option maxRecDepth 20000 in
theorem cd_178_4 : sm_cd 178 4 = some (.istore_n 1, 1, 1, 0, 0, 0, 0, 0, 0) := cd_of gl_178 rfl
set_option maxRecDepth 20000 in
theorem cd_178_5 : sm_cd 178 5 = some (.aload_n 0, 1, 0, 0, 0, 0, 0, 0, 0) := cd_of gl_178 rfl
set_option maxRecDepth 20000 in
theorem cd_178_6 : sm_cd 178 6 = some (.getfield 111, 3, 6, 36, 2, 0, 0, 0, 0) := cd_of gl_178 rfl
set_option maxRecDepth 20000 in
theorem cd_178_9 : sm_cd 178 9 = some (.iload_n 1, 1, 1, 0, 0, 0, 0, 0, 0) := cd_of gl_178 rfl
set_option maxRecDepth 20000 in
theorem cd_178_10 : sm_cd 178 10 = some (.iconst 1, 1, 0, 0, 0, 0, 0, 1, 0) := cd_of gl_178 rfl
set_option maxRecDepth 20000 in
theorem cd_178_11 : sm_cd 178 11 = some (.iadd, 1, 0, 0, 0, 0, 0, 0, 0) := cd_of gl_178 rfl
set_option maxRecDepth 20000 in
theorem cd_178_12 : sm_cd 178 12 = some (.iaload, 1, 0, 0, 0, 0, 0, 0, 0) := cd_of gl_178 rfl
set_option maxRecDepth 20000 in
theorem cd_178_13 : sm_cd 178 13 = some (.istore_n 2, 1, 2, 0, 0, 0, 0, 0, 0) := cd_of gl_178 rfl
set_option maxRecDepth 20000 in
theorem cd_178_14 : sm_cd 178 14 = some (.aload_n 0, 1, 0, 0, 0, 0, 0, 0, 0) := cd_of gl_178 rfl
set_option maxRecDepth 20000 in
theorem cd_178_15 : sm_cd 178 15 = some (.getfield 50, 3, 6, 19, 2, 0, 0, 0, 0) := cd_of gl_178 rfl
set_option maxRecDepth 20000 in
theorem cd_178_18 : sm_cd 178 18 = some (.iload_n 2, 1, 2, 0, 0, 0, 0, 0, 0) := cd_of gl_178 rfl
set_option maxRecDepth 20000 in
theorem cd_178_19 : sm_cd 178 19 = some (.iaload, 1, 0, 0, 0, 0, 0, 0, 0) := cd_of gl_178 rfl
set_option maxRecDepth 20000 in
theorem cd_178_20 : sm_cd 178 20 = some (.istore_n 3, 1, 3, 0, 0, 0, 0, 0, 0) := cd_of gl_178 rfl
set_option maxRecDepth 20000 in
theorem cd_178_21 : sm_cd 178 21 = some (.aload_n 0, 1, 0, 0, 0, 0, 0, 0, 0) := cd_of gl_178 rfl
set_option maxRecDepth 20000 in
theorem cd_178_22 : sm_cd 178 22 = some (.getfield 53, 3, 6, 20, 2, 0, 0, 0, 0) := cd_of gl_178 rfl
set_option maxRecDepth 20000 in
theorem cd_178_25 : sm_cd 178 25 = some (.iload_n 2, 1, 2, 0, 0, 0, 0, 0, 0) := cd_of gl_178 rfl
set_option maxRecDepth 20000 in
theorem cd_178_26 : sm_cd 178 26 = some (.iaload, 1, 0, 0, 0, 0, 0, 0, 0) := cd_of gl_178 rfl
set_option maxRecDepth 20000 in
theorem cd_178_27 : sm_cd 178 27 = some (.istore 4, 2, 4, 0, 0, 0, 0, 0, 0) := cd_of gl_178 rfl
set_option maxRecDepth 20000 in
theorem cd_178_29 : sm_cd 178 29 = some (.aload_n 0, 1, 0, 0, 0, 0, 0, 0, 0) := cd_of gl_178 rfl
set_option maxRecDepth 20000 in
theorem cd_178_30 : sm_cd 178 30 = some (.iload_n 3, 1, 3, 0, 0, 0, 0, 0, 0) := cd_of gl_178 rfl
set_option maxRecDepth 20000 in
theorem cd_178_31 : sm_cd 178 31 = some (.invokevirtual 397, 3, 180, 0, 1, 2, 6, 0, 0) := cd_of gl_178 rfl
set_option maxRecDepth 20000 in
theorem cd_178_34 : sm_cd 178 34 = some (.istore 5, 2, 5, 0, 0, 0, 0, 0, 0) := cd_of gl_178 rfl
set_option maxRecDepth 20000 in
theorem cd_178_36 : sm_cd 178 36 = some (.iload 5, 2, 5, 0, 0, 0, 0, 0, 0) := cd_of gl_178 rfl
set_option maxRecDepth 20000 in
theorem cd_178_38 : sm_cd 178 38 = some (.ifCond .ne 41, 3, 79, 0, 0, 0, 0, 0, 0) := cd_of gl_178 rfl
set_option maxRecDepth 20000 in
theorem cd_178_41 : sm_cd 178 41 = some (.iload_n 3, 1, 3, 0, 0, 0, 0, 0, 0) := cd_of gl_178 rfl
set_option maxRecDepth 20000 in
theorem cd_178_42 : sm_cd 178 42 = some (.bipush 10, 2, 0, 0, 0, 0, 0, 10, 0) := cd_of gl_178 rfl
set_option maxRecDepth 20000 in
theorem cd_178_44 : sm_cd 178 44 = some (.if_icmp .eq 9, 3, 53, 0, 0, 0, 0, 0, 0) := cd_of gl_178 rfl
set_option maxRecDepth 20000 in
theorem cd_178_47 : sm_cd 178 47 = some (.iload_n 3, 1, 3, 0, 0, 0, 0, 0, 0) := cd_of gl_178 rfl
set_option maxRecDepth 20000 in
theorem cd_178_48 : sm_cd 178 48 = some (.bipush 12, 2, 0, 0, 0, 0, 0, 12, 0) := cd_of gl_178 rfl
set_option maxRecDepth 20000 in
theorem cd_178_50 : sm_cd 178 50 = some (.if_icmp .ne 29, 3, 79, 0, 0, 0, 0, 0, 0) := cd_of gl_178 rfl
set_option maxRecDepth 20000 in
theorem cd_178_53 : sm_cd 178 53 = some (.aload_n 0, 1, 0, 0, 0, 0, 0, 0, 0) := cd_of gl_178 rfl
set_option maxRecDepth 20000 in
theorem cd_178_54 : sm_cd 178 54 = some (.invokevirtual 381, 3, 184, 0, 0, 2, 6, 0, 0) := cd_of gl_178 rfl
set_option maxRecDepth 20000 in
theorem cd_178_57 : sm_cd 178 57 = some (.ifCond .ne 22, 3, 79, 0, 0, 0, 0, 0, 0) := cd_of gl_178 rfl
set_option maxRecDepth 20000 in
theorem cd_178_60 : sm_cd 178 60 = some (.aload_n 0, 1, 0, 0, 0, 0, 0, 0, 0) := cd_of gl_178 rfl
set_option maxRecDepth 20000 in
theorem cd_178_61 : sm_cd 178 61 = some (.invokevirtual 400, 3, 185, 0, 0, 5, 6, 0, 0) := cd_of gl_178 rfl
set_option maxRecDepth 20000 in
theorem cd_178_64 : sm_cd 178 64 = some (.istore 6, 2, 6, 0, 0, 0, 0, 0, 0) := cd_of gl_178 rfl
set_option maxRecDepth 20000 in
theorem cd_178_66 : sm_cd 178 66 = some (.iload 6, 2, 6, 0, 0, 0, 0, 0, 0) := cd_of gl_178 rfl
set_option maxRecDepth 20000 in
theorem cd_178_68 : sm_cd 178 68 = some (.ifCond .ne 8, 3, 76, 0, 0, 0, 0, 0, 0) := cd_of gl_178 rfl
set_option maxRecDepth 20000 in
theorem cd_178_71 : sm_cd 178 71 = some (.bipush 6, 2, 0, 0, 0, 0, 0, 6, 0) := cd_of gl_178 rfl
set_option maxRecDepth 20000 in
theorem cd_178_73 : sm_cd 178 73 = some (.goto 4, 3, 77, 0, 0, 0, 0, 0, 0) := cd_of gl_178 rfl
set_option maxRecDepth 20000 in
theorem cd_178_76 : sm_cd 178 76 = some (.iconst 0, 1, 0, 0, 0, 0, 0, 0, 0) := cd_of gl_178 rfl
set_option maxRecDepth 20000 in
theorem cd_178_77 : sm_cd 178 77 = some (.istore 5, 2, 5, 0, 0, 0, 0, 0, 0) := cd_of gl_178 rfl
set_option maxRecDepth 20000 in
theorem cd_178_79 : sm_cd 178 79 = some (.iload 5, 2, 5, 0, 0, 0, 0, 0, 0) := cd_of gl_178 rfl
set_option maxRecDepth 20000 in
theorem cd_178_81 : sm_cd 178 81 = some (.ifCond .eq 13, 3, 94, 0, 0, 0, 0, 0, 0) := cd_of gl_178 rfl
set_option maxRecDepth 20000 in
theorem cd_178_84 : sm_cd 178 84 = some (.aload_n 0, 1, 0, 0, 0, 0, 0, 0, 0) := cd_of gl_178 rfl
set_option maxRecDepth 20000 in
theorem cd_178_85 : sm_cd 178 85 = some (.getfield 111, 3, 6, 36, 2, 0, 0, 0, 0) := cd_of gl_178 rfl
set_option maxRecDepth 20000 in
theorem cd_178_88 : sm_cd 178 88 = some (.iconst 0, 1, 0, 0, 0, 0, 0, 0, 0) := cd_of gl_178 rfl
set_option maxRecDepth 20000 in
theorem cd_178_89 : sm_cd 178 89 = some (.iload 5, 2, 5, 0, 0, 0, 0, 0, 0) := cd_of gl_178 rfl
set_option maxRecDepth 20000 in
theorem cd_178_91 : sm_cd 178 91 = some (.iastore, 1, 0, 0, 0, 0, 0, 0, 0) := cd_of gl_178 rfl
set_option maxRecDepth 20000 in
theorem cd_178_92 : sm_cd 178 92 = some (.iconst 0, 1, 0, 0, 0, 0, 0, 0, 0) := cd_of gl_178 rfl
set_option maxRecDepth 20000 in
theorem cd_178_93 : sm_cd 178 93 = some (.ireturn, 1, 0, 0, 2, 0, 0, 0, 0) := cd_of gl_178 rfl
set_option maxRecDepth 20000 in
theorem cd_178_94 : sm_cd 178 94 = some (.aload_n 0, 1, 0, 0, 0, 0, 0, 0, 0) := cd_of gl_178 rfl
set_option maxRecDepth 20000 in
theorem cd_178_95 : sm_cd 178 95 = some (.getfield 123, 3, 6, 40, 2, 0, 0, 0, 0) := cd_of gl_178 rfl
set_option maxRecDepth 20000 in
theorem cd_178_98 : sm_cd 178 98 = some (.iconst 0, 1, 0, 0, 0, 0, 0, 0, 0) := cd_of gl_178 rfl
set_option maxRecDepth 20000 in
theorem cd_178_99 : sm_cd 178 99 = some (.iload_n 2, 1, 2, 0, 0, 0, 0, 0, 0) := cd_of gl_178 rfl
set_option maxRecDepth 20000 in
theorem cd_178_100 : sm_cd 178 100 = some (.iastore, 1, 0, 0, 0, 0, 0, 0, 0) := cd_of gl_178 rfl
set_option maxRecDepth 20000 in
theorem cd_178_101 : sm_cd 178 101 = some (.aload_n 0, 1, 0, 0, 0, 0, 0, 0, 0) := cd_of gl_178 rfl
set_option maxRecDepth 20000 in
theorem cd_178_102 : sm_cd 178 102 = some (.getfield 123, 3, 6, 40, 2, 0, 0, 0, 0) := cd_of gl_178 rfl
set_option maxRecDepth 20000 in
theorem cd_178_105 : sm_cd 178 105 = some (.iconst 1, 1, 0, 0, 0, 0, 0, 1, 0) := cd_of gl_178 rfl
set_option maxRecDepth 20000 in
theorem cd_178_106 : sm_cd 178 106 = some (.aload_n 0, 1, 0, 0, 0, 0, 0, 0, 0) := cd_of gl_178 rfl
set_option maxRecDepth 20000 in
theorem cd_178_107 : sm_cd 178 107 = some (.getfield 111, 3, 6, 36, 2, 0, 0, 0, 0) := cd_of gl_178 rfl
set_option maxRecDepth 20000 in
theorem cd_178_110 : sm_cd 178 110 = some (.iconst 2, 1, 0, 0, 0, 0, 0, 2, 0) := cd_of gl_178 rfl
set_option maxRecDepth 20000 in
theorem cd_178_111 : sm_cd 178 111 = some (.iaload, 1, 0, 0, 0, 0, 0, 0, 0) := cd_of gl_178 rfl
set_option maxRecDepth 20000 in
theorem cd_178_112 : sm_cd 178 112 = some (.iastore, 1, 0, 0, 0, 0, 0, 0, 0) := cd_of gl_178 rfl
set_option maxRecDepth 20000 in
theorem cd_178_113 : sm_cd 178 113 = some (.aload_n 0, 1, 0, 0, 0, 0, 0, 0, 0) := cd_of gl_178 rfl
set_option maxRecDepth 20000 in
theorem cd_178_114 : sm_cd 178 114 = some (.iload_n 3, 1, 3, 0, 0, 0, 0, 0, 0) := cd_of gl_178 rfl
set_option maxRecDepth 20000 in
theorem cd_178_115 : sm_cd 178 115 = some (.iload 4, 2, 4, 0, 0, 0, 0, 0, 0) := cd_of gl_178 rfl
set_option maxRecDepth 20000 in
theorem cd_178_117 : sm_cd 178 117 = some (.iload_n 1, 1, 1, 0, 0, 0, 0, 0, 0) := cd_of gl_178 rfl
set_option maxRecDepth 20000 in
theorem cd_178_118 : sm_cd 178 118 = some (.invokevirtual 403, 3, 188, 0, 3, 7, 6, 0, 0) := cd_of gl_178 rfl
set_option maxRecDepth 20000 in
theorem cd_178_121 : sm_cd 178 121 = some (.aload_n 0, 1, 0, 0, 0, 0, 0, 0, 0) := cd_of gl_178 rfl
set_option maxRecDepth 20000 in
theorem cd_178_122 : sm_cd 178 122 = some (.getfield 111, 3, 6, 36, 2, 0, 0, 0, 0) := cd_of gl_178 rfl
set_option maxRecDepth 20000 in
theorem cd_178_125 : sm_cd 178 125 = some (.iconst 4, 1, 0, 0, 0, 0, 0, 4, 0) := cd_of gl_178 rfl
set_option maxRecDepth 20000 in
theorem cd_178_126 : sm_cd 178 126 = some (.dup2, 1, 0, 0, 0, 0, 0, 0, 0) := cd_of gl_178 rfl
set_option maxRecDepth 20000 in
theorem cd_178_127 : sm_cd 178 127 = some (.iaload, 1, 0, 0, 0, 0, 0, 0, 0) := cd_of gl_178 rfl
set_option maxRecDepth 20000 in
theorem cd_178_128 : sm_cd 178 128 = some (.iconst 1, 1, 0, 0, 0, 0, 0, 1, 0) := cd_of gl_178 rfl
set_option maxRecDepth 20000 in
theorem cd_178_129 : sm_cd 178 129 = some (.iadd, 1, 0, 0, 0, 0, 0, 0, 0) := cd_of gl_178 rfl
set_option maxRecDepth 20000 in
theorem cd_178_130 : sm_cd 178 130 = some (.iastore, 1, 0, 0, 0, 0, 0, 0, 0) := cd_of gl_178 rfl
set_option maxRecDepth 20000 in
theorem cd_178_131 : sm_cd 178 131 = some (.aload_n 0, 1, 0, 0, 0, 0, 0, 0, 0) := cd_of gl_178 rfl
set_option maxRecDepth 20000 in
theorem cd_178_132 : sm_cd 178 132 = some (.getfield 123, 3, 6, 40, 2, 0, 0, 0, 0) := cd_of gl_178 rfl
set_option maxRecDepth 20000 in
theorem cd_178_135 : sm_cd 178 135 = some (.iconst 2, 1, 0, 0, 0, 0, 0, 2, 0) := cd_of gl_178 rfl
set_option maxRecDepth 20000 in
theorem cd_178_136 : sm_cd 178 136 = some (.aload_n 0, 1, 0, 0, 0, 0, 0, 0, 0) := cd_of gl_178 rfl
set_option maxRecDepth 20000 in
theorem cd_178_137 : sm_cd 178 137 = some (.getfield 111, 3, 6, 36, 2, 0, 0, 0, 0) := cd_of gl_178 rfl
set_option maxRecDepth 20000 in
theorem cd_178_140 : sm_cd 178 140 = some (.iconst 2, 1, 0, 0, 0, 0, 0, 2, 0) := cd_of gl_178 rfl
set_option maxRecDepth 20000 in
theorem cd_178_141 : sm_cd 178 141 = some (.iaload, 1, 0, 0, 0, 0, 0, 0, 0) := cd_of gl_178 rfl
set_option maxRecDepth 20000 in
theorem cd_178_142 : sm_cd 178 142 = some (.iastore, 1, 0, 0, 0, 0, 0, 0, 0) := cd_of gl_178 rfl
set_option maxRecDepth 20000 in
theorem cd_178_143 : sm_cd 178 143 = some (.aload_n 0, 1, 0, 0, 0, 0, 0, 0, 0) := cd_of gl_178 rfl
set_option maxRecDepth 20000 in
theorem cd_178_144 : sm_cd 178 144 = some (.getfield 123, 3, 6, 40, 2, 0, 0, 0, 0) := cd_of gl_178 rfl
set_option maxRecDepth 20000 in
theorem cd_178_147 : sm_cd 178 147 = some (.iconst 3, 1, 0, 0, 0, 0, 0, 3, 0) := cd_of gl_178 rfl
set_option maxRecDepth 20000 in
theorem cd_178_148 : sm_cd 178 148 = some (.aload_n 0, 1, 0, 0, 0, 0, 0, 0, 0) := cd_of gl_178 rfl
set_option maxRecDepth 20000 in
theorem cd_178_149 : sm_cd 178 149 = some (.getfield 111, 3, 6, 36, 2, 0, 0, 0, 0) := cd_of gl_178 rfl
set_option maxRecDepth 20000 in
theorem cd_178_152 : sm_cd 178 152 = some (.iconst 2, 1, 0, 0, 0, 0, 0, 2, 0) := cd_of gl_178 rfl
set_option maxRecDepth 20000 in
theorem cd_178_153 : sm_cd 178 153 = some (.iaload, 1, 0, 0, 0, 0, 0, 0, 0) := cd_of gl_178 rfl
set_option maxRecDepth 20000 in
theorem cd_178_154 : sm_cd 178 154 = some (.ifCond .ne 7, 3, 161, 0, 0, 0, 0, 0, 0) := cd_of gl_178 rfl
set_option maxRecDepth 20000 in
theorem cd_178_157 : sm_cd 178 157 = some (.iconst 0, 1, 0, 0, 0, 0, 0, 0, 0) := cd_of gl_178 rfl
set_option maxRecDepth 20000 in
theorem cd_178_158 : sm_cd 178 158 = some (.goto 8, 3, 166, 0, 0, 0, 0, 0, 0) := cd_of gl_178 rfl
set_option maxRecDepth 20000 in
theorem cd_178_161 : sm_cd 178 161 = some (.aload_n 0, 1, 0, 0, 0, 0, 0, 0, 0) := cd_of gl_178 rfl
set_option maxRecDepth 20000 in
theorem cd_178_162 : sm_cd 178 162 = some (.iconst 1, 1, 0, 0, 0, 0, 0, 1, 0) := cd_of gl_178 rfl
set_option maxRecDepth 20000 in
theorem cd_178_163 : sm_cd 178 163 = some (.invokevirtual 375, 3, 181, 0, 1, 2, 6, 0, 0) := cd_of gl_178 rfl
set_option maxRecDepth 20000 in
theorem cd_178_166 : sm_cd 178 166 = some (.iastore, 1, 0, 0, 0, 0, 0, 0, 0) := cd_of gl_178 rfl
set_option maxRecDepth 20000 in
theorem cd_178_167 : sm_cd 178 167 = some (.iconst 1, 1, 0, 0, 0, 0, 0, 1, 0) := cd_of gl_178 rfl
set_option maxRecDepth 20000 in
theorem cd_178_168 : sm_cd 178 168 = some (.ireturn, 1, 0, 0, 2, 0, 0, 0, 0) := cd_of gl_178 rfl
noncomputable def f_178_166 (K : Nat → Value) (k d : Nat) (l0 : Nat) (l1 : Int32) (l2 : Int32) (l3 : Int32) (l4 : Int32) (l5 : Int32) (s0 : Nat) (s1 : Int32) (s2 : Int32) (w : aW) (I : aI) (J : aJ) : Option aR :=
  gA w 10 10 s0 s1 (
  lt_ (sm_up2 I s0 (s1 : Int32).toNatClampNeg s2) fun I_1 =>
  some (some (.int 1), w, I_1, J))
theorem ok_178_166 {K : Nat → Value} {k d : Nat} {l0 : Nat} {l1 : Int32} {l2 : Int32} {l3 : Int32} {l4 : Int32} {l5 : Int32} {s0 : Nat} {s1 : Int32} {s2 : Int32} {w : aW} {I : aI} {J : aJ} {R : aR} (h : f_178_166 K k d l0 l1 l2 l3 l4 l5 s0 s1 s2 w I J = some R) : Go K (d + 1) 178 166 [some (.ref l0), some (.int l1), some (.int l2), some (.int l3), some (.int l4), some (.int l5), none] [.int s2, .int s1, .ref s0] w I J R := by
  unfold f_178_166 at h
  obtain ⟨ht, h⟩ := gA_s h
  refine gs_iast cd_178_166 ht ?_
  obtain ⟨I_1, hx, h⟩ := lt_s_ h
  rw [hx]
  refine gs_0 (pc' := 168) (L' := [some (.ref l0), some (.int l1), some (.int l2), some (.int l3), some (.int l4), some (.int l5), none]) (st' := [.int 1]) cd_178_167 rfl rfl ?_
  cases h
  exact gs_ri cd_178_168 (Or.inr (Or.inl ⟨rfl, Or.inr rfl⟩))
noncomputable def f_178_79 (K : Nat → Value) (k d : Nat) (l0 : Nat) (l1 : Int32) (l2 : Int32) (l3 : Int32) (l4 : Int32) (l5 : Int32) (w : aW) (I : aI) (J : aJ) : Option aR :=
  if l5 = 0 then
    gO w 6 l0 (
    gV w l0 40 fun q_1 =>
    gA w 10 10 q_1 0 (
    lt_ (sm_up2 I q_1 (0 : Int32).toNatClampNeg l2) fun I_2 =>
    gO w 6 l0 (
    gV w l0 40 fun q_3 =>
    gO w 6 l0 (
    gV w l0 36 fun q_4 =>
    gA w 10 20 q_4 2 (
    gA w 10 10 q_3 1 (
    lt_ (sm_up2 I_2 q_3 (1 : Int32).toNatClampNeg (I_2 q_4 (2 : Int32).toNatClampNeg)) fun I_5 =>
    gO w 6 l0 (
    cV (Cl K d 188 [.ref l0, .int l3, .int l4, .int l1] w I_5 J) fun w_6 I_7 J_8 =>
    gO w_6 6 l0 (
    gV w_6 l0 36 fun q_9 =>
    gA w_6 10 20 q_9 4 (
    gA w_6 10 10 q_9 4 (
    lt_ (sm_up2 I_7 q_9 (4 : Int32).toNatClampNeg ((I_7 q_9 (4 : Int32).toNatClampNeg) + 1)) fun I_10 =>
    gO w_6 6 l0 (
    gV w_6 l0 40 fun q_11 =>
    gO w_6 6 l0 (
    gV w_6 l0 36 fun q_12 =>
    gA w_6 10 20 q_12 2 (
    gA w_6 10 10 q_11 2 (
    lt_ (sm_up2 I_10 q_11 (2 : Int32).toNatClampNeg (I_10 q_12 (2 : Int32).toNatClampNeg)) fun I_13 =>
    gO w_6 6 l0 (
    gV w_6 l0 40 fun q_14 =>
    gO w_6 6 l0 (
    gV w_6 l0 36 fun q_15 =>
    gA w_6 10 20 q_15 2 (
    if ¬ (I_13 q_15 (2 : Int32).toNatClampNeg) = 0 then
      gO w_6 6 l0 (
      cI (Cl K d 181 [.ref l0, .int 1] w_6 I_13 J_8) fun x_19 w_16 I_17 J_18 =>
      f_178_166 K k d l0 l1 l2 l3 l4 l5 q_14 3 x_19 w_16 I_17 J_18)
    else
      f_178_166 K k d l0 l1 l2 l3 l4 l5 q_14 3 0 w_6 I_13 J_8)))))))))))))))))
  else
    gO w 6 l0 (
    gV w l0 36 fun q_20 =>
    gA w 10 10 q_20 0 (
    lt_ (sm_up2 I q_20 (0 : Int32).toNatClampNeg l5) fun I_21 =>
    some (some (.int 0), w, I_21, J)))
theorem ok_178_79 {K : Nat → Value} {k d : Nat} {l0 : Nat} {l1 : Int32} {l2 : Int32} {l3 : Int32} {l4 : Int32} {l5 : Int32} {w : aW} {I : aI} {J : aJ} {R : aR} (h : f_178_79 K k d l0 l1 l2 l3 l4 l5 w I J = some R) : Go K (d + 1) 178 79 [some (.ref l0), some (.int l1), some (.int l2), some (.int l3), some (.int l4), some (.int l5), none] [] w I J R := by
  unfold f_178_79 at h
  refine gs_0 (pc' := 81) (L' := [some (.ref l0), some (.int l1), some (.int l2), some (.int l3), some (.int l4), some (.int l5), none]) (st' := [.int l5]) cd_178_79 rfl rfl ?_
  refine gs_0 (pc' := if l5 = 0 then 94 else 84) (L' := [some (.ref l0), some (.int l1), some (.int l2), some (.int l3), some (.int l4), some (.int l5), none]) (st' := []) cd_178_81 rfl rfl ?_
  refine go_ite (fun hc => ?_) (fun hc => ?_)
  · rw [if_pos hc] at h
    refine gs_0 (pc' := 95) (L' := [some (.ref l0), some (.int l1), some (.int l2), some (.int l3), some (.int l4), some (.int l5), none]) (st' := [.ref l0]) cd_178_94 rfl rfl ?_
    obtain ⟨ht, h⟩ := gO_s h
    obtain ⟨q_1, hv, h⟩ := gV_s h
    refine gs_gfR cd_178_95 (by decide) ht hv ?_
    refine gs_0 (pc' := 99) (L' := [some (.ref l0), some (.int l1), some (.int l2), some (.int l3), some (.int l4), some (.int l5), none]) (st' := [.int 0, .ref q_1]) cd_178_98 rfl rfl ?_
    refine gs_0 (pc' := 100) (L' := [some (.ref l0), some (.int l1), some (.int l2), some (.int l3), some (.int l4), some (.int l5), none]) (st' := [.int l2, .int 0, .ref q_1]) cd_178_99 rfl rfl ?_
    obtain ⟨ht, h⟩ := gA_s h
    refine gs_iast cd_178_100 ht ?_
    obtain ⟨I_2, hx, h⟩ := lt_s_ h
    rw [hx]
    refine gs_0 (pc' := 102) (L' := [some (.ref l0), some (.int l1), some (.int l2), some (.int l3), some (.int l4), some (.int l5), none]) (st' := [.ref l0]) cd_178_101 rfl rfl ?_
    obtain ⟨ht, h⟩ := gO_s h
    obtain ⟨q_3, hv, h⟩ := gV_s h
    refine gs_gfR cd_178_102 (by decide) ht hv ?_
    refine gs_0 (pc' := 106) (L' := [some (.ref l0), some (.int l1), some (.int l2), some (.int l3), some (.int l4), some (.int l5), none]) (st' := [.int 1, .ref q_3]) cd_178_105 rfl rfl ?_
    refine gs_0 (pc' := 107) (L' := [some (.ref l0), some (.int l1), some (.int l2), some (.int l3), some (.int l4), some (.int l5), none]) (st' := [.ref l0, .int 1, .ref q_3]) cd_178_106 rfl rfl ?_
    obtain ⟨ht, h⟩ := gO_s h
    obtain ⟨q_4, hv, h⟩ := gV_s h
    refine gs_gfR cd_178_107 (by decide) ht hv ?_
    refine gs_0 (pc' := 111) (L' := [some (.ref l0), some (.int l1), some (.int l2), some (.int l3), some (.int l4), some (.int l5), none]) (st' := [.int 2, .ref q_4, .int 1, .ref q_3]) cd_178_110 rfl rfl ?_
    obtain ⟨ht, h⟩ := gA_s h
    refine gs_iald cd_178_111 ht ?_
    obtain ⟨ht, h⟩ := gA_s h
    refine gs_iast cd_178_112 ht ?_
    obtain ⟨I_5, hx, h⟩ := lt_s_ h
    rw [hx]
    refine gs_0 (pc' := 114) (L' := [some (.ref l0), some (.int l1), some (.int l2), some (.int l3), some (.int l4), some (.int l5), none]) (st' := [.ref l0]) cd_178_113 rfl rfl ?_
    refine gs_0 (pc' := 115) (L' := [some (.ref l0), some (.int l1), some (.int l2), some (.int l3), some (.int l4), some (.int l5), none]) (st' := [.int l3, .ref l0]) cd_178_114 rfl rfl ?_
    refine gs_0 (pc' := 117) (L' := [some (.ref l0), some (.int l1), some (.int l2), some (.int l3), some (.int l4), some (.int l5), none]) (st' := [.int l4, .int l3, .ref l0]) cd_178_115 rfl rfl ?_
    refine gs_0 (pc' := 118) (L' := [some (.ref l0), some (.int l1), some (.int l2), some (.int l3), some (.int l4), some (.int l5), none]) (st' := [.int l1, .int l4, .int l3, .ref l0]) cd_178_117 rfl rfl ?_
    obtain ⟨ht, h⟩ := gO_s h
    obtain ⟨w_6, I_7, J_8, hcl, h⟩ := cV_s h
    refine gs_call (as := [.ref l0, .int l3, .int l4, .int l1]) (rest := []) cd_178_118 rfl (by decide) rfl (sm_rv_ok (by decide) ht) (Nat.le_of_ble_eq_true rfl) (Nat.le_of_ble_eq_true rfl) rfl hcl ?_
    refine gs_0 (pc' := 122) (L' := [some (.ref l0), some (.int l1), some (.int l2), some (.int l3), some (.int l4), some (.int l5), none]) (st' := [.ref l0]) cd_178_121 rfl rfl ?_
    obtain ⟨ht, h⟩ := gO_s h
    obtain ⟨q_9, hv, h⟩ := gV_s h
    refine gs_gfR cd_178_122 (by decide) ht hv ?_
    refine gs_0 (pc' := 126) (L' := [some (.ref l0), some (.int l1), some (.int l2), some (.int l3), some (.int l4), some (.int l5), none]) (st' := [.int 4, .ref q_9]) cd_178_125 rfl rfl ?_
    refine gs_0 (pc' := 127) (L' := [some (.ref l0), some (.int l1), some (.int l2), some (.int l3), some (.int l4), some (.int l5), none]) (st' := [.int 4, .ref q_9, .int 4, .ref q_9]) cd_178_126 rfl rfl ?_
    obtain ⟨ht, h⟩ := gA_s h
    refine gs_iald cd_178_127 ht ?_
    refine gs_0 (pc' := 129) (L' := [some (.ref l0), some (.int l1), some (.int l2), some (.int l3), some (.int l4), some (.int l5), none]) (st' := [.int 1, .int (I_7 q_9 (4 : Int32).toNatClampNeg), .int 4, .ref q_9]) cd_178_128 rfl rfl ?_
    refine gs_0 (pc' := 130) (L' := [some (.ref l0), some (.int l1), some (.int l2), some (.int l3), some (.int l4), some (.int l5), none]) (st' := [.int ((I_7 q_9 (4 : Int32).toNatClampNeg) + 1), .int 4, .ref q_9]) cd_178_129 rfl rfl ?_
    obtain ⟨ht, h⟩ := gA_s h
    refine gs_iast cd_178_130 ht ?_
    obtain ⟨I_10, hx, h⟩ := lt_s_ h
    rw [hx]
    refine gs_0 (pc' := 132) (L' := [some (.ref l0), some (.int l1), some (.int l2), some (.int l3), some (.int l4), some (.int l5), none]) (st' := [.ref l0]) cd_178_131 rfl rfl ?_
    obtain ⟨ht, h⟩ := gO_s h
    obtain ⟨q_11, hv, h⟩ := gV_s h
    refine gs_gfR cd_178_132 (by decide) ht hv ?_
    refine gs_0 (pc' := 136) (L' := [some (.ref l0), some (.int l1), some (.int l2), some (.int l3), some (.int l4), some (.int l5), none]) (st' := [.int 2, .ref q_11]) cd_178_135 rfl rfl ?_
    refine gs_0 (pc' := 137) (L' := [some (.ref l0), some (.int l1), some (.int l2), some (.int l3), some (.int l4), some (.int l5), none]) (st' := [.ref l0, .int 2, .ref q_11]) cd_178_136 rfl rfl ?_
    obtain ⟨ht, h⟩ := gO_s h
    obtain ⟨q_12, hv, h⟩ := gV_s h
    refine gs_gfR cd_178_137 (by decide) ht hv ?_
    refine gs_0 (pc' := 141) (L' := [some (.ref l0), some (.int l1), some (.int l2), some (.int l3), some (.int l4), some (.int l5), none]) (st' := [.int 2, .ref q_12, .int 2, .ref q_11]) cd_178_140 rfl rfl ?_
    obtain ⟨ht, h⟩ := gA_s h
    refine gs_iald cd_178_141 ht ?_
    obtain ⟨ht, h⟩ := gA_s h
    refine gs_iast cd_178_142 ht ?_
    obtain ⟨I_13, hx, h⟩ := lt_s_ h
    rw [hx]
    refine gs_0 (pc' := 144) (L' := [some (.ref l0), some (.int l1), some (.int l2), some (.int l3), some (.int l4), some (.int l5), none]) (st' := [.ref l0]) cd_178_143 rfl rfl ?_
    obtain ⟨ht, h⟩ := gO_s h
    obtain ⟨q_14, hv, h⟩ := gV_s h
    refine gs_gfR cd_178_144 (by decide) ht hv ?_
    refine gs_0 (pc' := 148) (L' := [some (.ref l0), some (.int l1), some (.int l2), some (.int l3), some (.int l4), some (.int l5), none]) (st' := [.int 3, .ref q_14]) cd_178_147 rfl rfl ?_
    refine gs_0 (pc' := 149) (L' := [some (.ref l0), some (.int l1), some (.int l2), some (.int l3), some (.int l4), some (.int l5), none]) (st' := [.ref l0, .int 3, .ref q_14]) cd_178_148 rfl rfl ?_
    obtain ⟨ht, h⟩ := gO_s h
    obtain ⟨q_15, hv, h⟩ := gV_s h
    refine gs_gfR cd_178_149 (by decide) ht hv ?_
    refine gs_0 (pc' := 153) (L' := [some (.ref l0), some (.int l1), some (.int l2), some (.int l3), some (.int l4), some (.int l5), none]) (st' := [.int 2, .ref q_15, .int 3, .ref q_14]) cd_178_152 rfl rfl ?_
    obtain ⟨ht, h⟩ := gA_s h
    refine gs_iald cd_178_153 ht ?_
    refine gs_0 (pc' := if ¬ (I_13 q_15 (2 : Int32).toNatClampNeg) = 0 then 161 else 157) (L' := [some (.ref l0), some (.int l1), some (.int l2), some (.int l3), some (.int l4), some (.int l5), none]) (st' := [.int 3, .ref q_14]) cd_178_154 rfl rfl ?_
    refine go_ite (fun hc => ?_) (fun hc => ?_)
    · rw [if_pos hc] at h
      refine gs_0 (pc' := 162) (L' := [some (.ref l0), some (.int l1), some (.int l2), some (.int l3), some (.int l4), some (.int l5), none]) (st' := [.ref l0, .int 3, .ref q_14]) cd_178_161 rfl rfl ?_
      refine gs_0 (pc' := 163) (L' := [some (.ref l0), some (.int l1), some (.int l2), some (.int l3), some (.int l4), some (.int l5), none]) (st' := [.int 1, .ref l0, .int 3, .ref q_14]) cd_178_162 rfl rfl ?_
      obtain ⟨ht, h⟩ := gO_s h
      obtain ⟨x_19, w_16, I_17, J_18, hcl, h⟩ := cI_s h
      refine gs_call (as := [.ref l0, .int 1]) (rest := [.int 3, .ref q_14]) cd_178_163 rfl (by decide) rfl (sm_rv_ok (by decide) ht) (Nat.le_of_ble_eq_true rfl) (Nat.le_of_ble_eq_true rfl) rfl hcl ?_
      exact ok_178_166 h
    · rw [if_neg hc] at h
      refine gs_0 (pc' := 158) (L' := [some (.ref l0), some (.int l1), some (.int l2), some (.int l3), some (.int l4), some (.int l5), none]) (st' := [.int 0, .int 3, .ref q_14]) cd_178_157 rfl rfl ?_
      refine gs_0 (pc' := 166) (L' := [some (.ref l0), some (.int l1), some (.int l2), some (.int l3), some (.int l4), some (.int l5), none]) (st' := [.int 0, .int 3, .ref q_14]) cd_178_158 rfl rfl ?_
      exact ok_178_166 h
  · rw [if_neg hc] at h
    refine gs_0 (pc' := 85) (L' := [some (.ref l0), some (.int l1), some (.int l2), some (.int l3), some (.int l4), some (.int l5), none]) (st' := [.ref l0]) cd_178_84 rfl rfl ?_
    obtain ⟨ht, h⟩ := gO_s h
    obtain ⟨q_20, hv, h⟩ := gV_s h
    refine gs_gfR cd_178_85 (by decide) ht hv ?_
    refine gs_0 (pc' := 89) (L' := [some (.ref l0), some (.int l1), some (.int l2), some (.int l3), some (.int l4), some (.int l5), none]) (st' := [.int 0, .ref q_20]) cd_178_88 rfl rfl ?_
    refine gs_0 (pc' := 91) (L' := [some (.ref l0), some (.int l1), some (.int l2), some (.int l3), some (.int l4), some (.int l5), none]) (st' := [.int l5, .int 0, .ref q_20]) cd_178_89 rfl rfl ?_
    obtain ⟨ht, h⟩ := gA_s h
    refine gs_iast cd_178_91 ht ?_
    obtain ⟨I_21, hx, h⟩ := lt_s_ h
    rw [hx]
    refine gs_0 (pc' := 93) (L' := [some (.ref l0), some (.int l1), some (.int l2), some (.int l3), some (.int l4), some (.int l5), none]) (st' := [.int 0]) cd_178_92 rfl rfl ?_
    cases h
    exact gs_ri cd_178_93 (Or.inr (Or.inl ⟨rfl, Or.inl rfl⟩))
noncomputable def f_178_77 (K : Nat → Value) (k d : Nat) (l0 : Nat) (l1 : Int32) (l2 : Int32) (l3 : Int32) (l4 : Int32) (l5 : Int32) (l6 : Int32) (s0 : Int32) (w : aW) (I : aI) (J : aJ) : Option aR :=
  f_178_79 K k d l0 l1 l2 l3 l4 s0 w I J
theorem ok_178_77 {K : Nat → Value} {k d : Nat} {l0 : Nat} {l1 : Int32} {l2 : Int32} {l3 : Int32} {l4 : Int32} {l5 : Int32} {l6 : Int32} {s0 : Int32} {w : aW} {I : aI} {J : aJ} {R : aR} (h : f_178_77 K k d l0 l1 l2 l3 l4 l5 l6 s0 w I J = some R) : Go K (d + 1) 178 77 [some (.ref l0), some (.int l1), some (.int l2), some (.int l3), some (.int l4), some (.int l5), some (.int l6)] [.int s0] w I J R := by
  unfold f_178_77 at h
  refine gs_0 (pc' := 79) (L' := [some (.ref l0), some (.int l1), some (.int l2), some (.int l3), some (.int l4), some (.int s0), some (.int l6)]) (st' := []) cd_178_77 rfl rfl ?_
  refine go_drop [some (.ref l0), some (.int l1), some (.int l2), some (.int l3), some (.int l4), some (.int s0), none] ⟨rfl, ⟨rfl, ⟨rfl, ⟨rfl, ⟨rfl, ⟨rfl, ⟨rfl, trivial⟩⟩⟩⟩⟩⟩⟩ ?_
  exact ok_178_79 h
noncomputable def f_178_53 (K : Nat → Value) (k d : Nat) (l0 : Nat) (l1 : Int32) (l2 : Int32) (l3 : Int32) (l4 : Int32) (l5 : Int32) (w : aW) (I : aI) (J : aJ) : Option aR :=
  gO w 6 l0 (
  cI (Cl K d 184 [.ref l0] w I J) fun x_4 w_1 I_2 J_3 =>
  if ¬ x_4 = 0 then
    f_178_79 K k d l0 l1 l2 l3 l4 l5 w_1 I_2 J_3
  else
    gO w_1 6 l0 (
    cI (Cl K d 185 [.ref l0] w_1 I_2 J_3) fun x_8 w_5 I_6 J_7 =>
    if ¬ x_8 = 0 then
      f_178_77 K k d l0 l1 l2 l3 l4 l5 x_8 0 w_5 I_6 J_7
    else
      f_178_77 K k d l0 l1 l2 l3 l4 l5 x_8 6 w_5 I_6 J_7))
theorem ok_178_53 {K : Nat → Value} {k d : Nat} {l0 : Nat} {l1 : Int32} {l2 : Int32} {l3 : Int32} {l4 : Int32} {l5 : Int32} {w : aW} {I : aI} {J : aJ} {R : aR} (h : f_178_53 K k d l0 l1 l2 l3 l4 l5 w I J = some R) : Go K (d + 1) 178 53 [some (.ref l0), some (.int l1), some (.int l2), some (.int l3), some (.int l4), some (.int l5), none] [] w I J R := by
  unfold f_178_53 at h
  refine gs_0 (pc' := 54) (L' := [some (.ref l0), some (.int l1), some (.int l2), some (.int l3), some (.int l4), some (.int l5), none]) (st' := [.ref l0]) cd_178_53 rfl rfl ?_
  obtain ⟨ht, h⟩ := gO_s h
  obtain ⟨x_4, w_1, I_2, J_3, hcl, h⟩ := cI_s h
  refine gs_call (as := [.ref l0]) (rest := []) cd_178_54 rfl (by decide) rfl (sm_rv_ok (by decide) ht) (Nat.le_of_ble_eq_true rfl) (Nat.le_of_ble_eq_true rfl) rfl hcl ?_
  refine gs_0 (pc' := if ¬ x_4 = 0 then 79 else 60) (L' := [some (.ref l0), some (.int l1), some (.int l2), some (.int l3), some (.int l4), some (.int l5), none]) (st' := []) cd_178_57 rfl rfl ?_
  refine go_ite (fun hc => ?_) (fun hc => ?_)
  · rw [if_pos hc] at h
    exact ok_178_79 h
  · rw [if_neg hc] at h
    refine gs_0 (pc' := 61) (L' := [some (.ref l0), some (.int l1), some (.int l2), some (.int l3), some (.int l4), some (.int l5), none]) (st' := [.ref l0]) cd_178_60 rfl rfl ?_
    obtain ⟨ht, h⟩ := gO_s h
    obtain ⟨x_8, w_5, I_6, J_7, hcl, h⟩ := cI_s h
    refine gs_call (as := [.ref l0]) (rest := []) cd_178_61 rfl (by decide) rfl (sm_rv_ok (by decide) ht) (Nat.le_of_ble_eq_true rfl) (Nat.le_of_ble_eq_true rfl) rfl hcl ?_
    refine gs_0 (pc' := 66) (L' := [some (.ref l0), some (.int l1), some (.int l2), some (.int l3), some (.int l4), some (.int l5), some (.int x_8)]) (st' := []) cd_178_64 rfl rfl ?_
    refine gs_0 (pc' := 68) (L' := [some (.ref l0), some (.int l1), some (.int l2), some (.int l3), some (.int l4), some (.int l5), some (.int x_8)]) (st' := [.int x_8]) cd_178_66 rfl rfl ?_
    refine gs_0 (pc' := if ¬ x_8 = 0 then 76 else 71) (L' := [some (.ref l0), some (.int l1), some (.int l2), some (.int l3), some (.int l4), some (.int l5), some (.int x_8)]) (st' := []) cd_178_68 rfl rfl ?_
    refine go_ite (fun hc => ?_) (fun hc => ?_)
    · rw [if_pos hc] at h
      refine gs_0 (pc' := 77) (L' := [some (.ref l0), some (.int l1), some (.int l2), some (.int l3), some (.int l4), some (.int l5), some (.int x_8)]) (st' := [.int 0]) cd_178_76 rfl rfl ?_
      exact ok_178_77 h
    · rw [if_neg hc] at h
      refine gs_0 (pc' := 73) (L' := [some (.ref l0), some (.int l1), some (.int l2), some (.int l3), some (.int l4), some (.int l5), some (.int x_8)]) (st' := [.int 6]) cd_178_71 rfl rfl ?_
      refine gs_0 (pc' := 77) (L' := [some (.ref l0), some (.int l1), some (.int l2), some (.int l3), some (.int l4), some (.int l5), some (.int x_8)]) (st' := [.int 6]) cd_178_73 rfl rfl ?_
      exact ok_178_77 h
noncomputable def f_178 (K : Nat → Value) (k d : Nat) (l0 : Nat) (w : aW) (I : aI) (J : aJ) : Option aR :=
  gO w 6 l0 (
  cI (Cl K d 179 [.ref l0] w I J) fun x_4 w_1 I_2 J_3 =>
  gO w_1 6 l0 (
  gV w_1 l0 36 fun q_5 =>
  gA w_1 10 20 q_5 (x_4 + 1) (
  lt_ (I_2 q_5 (x_4 + 1 : Int32).toNatClampNeg) fun x_6 =>
  gO w_1 6 l0 (
  gV w_1 l0 19 fun q_7 =>
  gA w_1 10 20 q_7 x_6 (
  lt_ (I_2 q_7 (x_6 : Int32).toNatClampNeg) fun x_8 =>
  gO w_1 6 l0 (
  gV w_1 l0 20 fun q_9 =>
  gA w_1 10 20 q_9 x_6 (
  lt_ (I_2 q_9 (x_6 : Int32).toNatClampNeg) fun x_10 =>
  gO w_1 6 l0 (
  cI (Cl K d 180 [.ref l0, .int x_8] w_1 I_2 J_3) fun x_14 w_11 I_12 J_13 =>
  if ¬ x_14 = 0 then
    f_178_79 K k d l0 x_4 x_6 x_8 x_10 x_14 w_11 I_12 J_13
  else
    if x_8 = 10 then
      f_178_53 K k d l0 x_4 x_6 x_8 x_10 x_14 w_11 I_12 J_13
    else
      if ¬ x_8 = 12 then
        f_178_79 K k d l0 x_4 x_6 x_8 x_10 x_14 w_11 I_12 J_13
      else
        f_178_53 K k d l0 x_4 x_6 x_8 x_10 x_14 w_11 I_12 J_13))))))))
theorem ok_178 {K : Nat → Value} {k d : Nat} {l0 : Nat} {w : aW} {I : aI} {J : aJ} {R : aR} (h : f_178 K k d l0 w I J = some R) : Go K (d + 1) 178 0 [some (.ref l0), none, none, none, none, none, none] [] w I J R := by
  unfold f_178 at h
  refine gs_0 (pc' := 1) (L' := [some (.ref l0), none, none, none, none, none, none]) (st' := [.ref l0]) cd_178_0 rfl rfl ?_
  obtain ⟨ht, h⟩ := gO_s h
  obtain ⟨x_4, w_1, I_2, J_3, hcl, h⟩ := cI_s h
  refine gs_call (as := [.ref l0]) (rest := []) cd_178_1 rfl (by decide) rfl (sm_rv_ok (by decide) ht) (Nat.le_of_ble_eq_true rfl) (Nat.le_of_ble_eq_true rfl) rfl hcl ?_
  refine gs_0 (pc' := 5) (L' := [some (.ref l0), some (.int x_4), none, none, none, none, none]) (st' := []) cd_178_4 rfl rfl ?_
  refine gs_0 (pc' := 6) (L' := [some (.ref l0), some (.int x_4), none, none, none, none, none]) (st' := [.ref l0]) cd_178_5 rfl rfl ?_
  obtain ⟨ht, h⟩ := gO_s h
  obtain ⟨q_5, hv, h⟩ := gV_s h
  refine gs_gfR cd_178_6 (by decide) ht hv ?_
  refine gs_0 (pc' := 10) (L' := [some (.ref l0), some (.int x_4), none, none, none, none, none]) (st' := [.int x_4, .ref q_5]) cd_178_9 rfl rfl ?_
  refine gs_0 (pc' := 11) (L' := [some (.ref l0), some (.int x_4), none, none, none, none, none]) (st' := [.int 1, .int x_4, .ref q_5]) cd_178_10 rfl rfl ?_
  refine gs_0 (pc' := 12) (L' := [some (.ref l0), some (.int x_4), none, none, none, none, none]) (st' := [.int (x_4 + 1), .ref q_5]) cd_178_11 rfl rfl ?_
  obtain ⟨ht, h⟩ := gA_s h
  refine gs_iald cd_178_12 ht ?_
  refine gs_0 (pc' := 14) (L' := [some (.ref l0), some (.int x_4), some (.int (I_2 q_5 (x_4 + 1 : Int32).toNatClampNeg)), none, none, none, none]) (st' := []) cd_178_13 rfl rfl ?_
  obtain ⟨x_6, hx, h⟩ := lt_s_ h
  rw [hx]
  clear hx
  refine gs_0 (pc' := 15) (L' := [some (.ref l0), some (.int x_4), some (.int x_6), none, none, none, none]) (st' := [.ref l0]) cd_178_14 rfl rfl ?_
  obtain ⟨ht, h⟩ := gO_s h
  obtain ⟨q_7, hv, h⟩ := gV_s h
  refine gs_gfR cd_178_15 (by decide) ht hv ?_
  refine gs_0 (pc' := 19) (L' := [some (.ref l0), some (.int x_4), some (.int x_6), none, none, none, none]) (st' := [.int x_6, .ref q_7]) cd_178_18 rfl rfl ?_
  obtain ⟨ht, h⟩ := gA_s h
  refine gs_iald cd_178_19 ht ?_
  refine gs_0 (pc' := 21) (L' := [some (.ref l0), some (.int x_4), some (.int x_6), some (.int (I_2 q_7 (x_6 : Int32).toNatClampNeg)), none, none, none]) (st' := []) cd_178_20 rfl rfl ?_
  obtain ⟨x_8, hx, h⟩ := lt_s_ h
  rw [hx]
  clear hx
  refine gs_0 (pc' := 22) (L' := [some (.ref l0), some (.int x_4), some (.int x_6), some (.int x_8), none, none, none]) (st' := [.ref l0]) cd_178_21 rfl rfl ?_
  obtain ⟨ht, h⟩ := gO_s h
  obtain ⟨q_9, hv, h⟩ := gV_s h
  refine gs_gfR cd_178_22 (by decide) ht hv ?_
  refine gs_0 (pc' := 26) (L' := [some (.ref l0), some (.int x_4), some (.int x_6), some (.int x_8), none, none, none]) (st' := [.int x_6, .ref q_9]) cd_178_25 rfl rfl ?_
  obtain ⟨ht, h⟩ := gA_s h
  refine gs_iald cd_178_26 ht ?_
  refine gs_0 (pc' := 29) (L' := [some (.ref l0), some (.int x_4), some (.int x_6), some (.int x_8), some (.int (I_2 q_9 (x_6 : Int32).toNatClampNeg)), none, none]) (st' := []) cd_178_27 rfl rfl ?_
  obtain ⟨x_10, hx, h⟩ := lt_s_ h
  rw [hx]
  clear hx
  refine gs_0 (pc' := 30) (L' := [some (.ref l0), some (.int x_4), some (.int x_6), some (.int x_8), some (.int x_10), none, none]) (st' := [.ref l0]) cd_178_29 rfl rfl ?_
  refine gs_0 (pc' := 31) (L' := [some (.ref l0), some (.int x_4), some (.int x_6), some (.int x_8), some (.int x_10), none, none]) (st' := [.int x_8, .ref l0]) cd_178_30 rfl rfl ?_
  obtain ⟨ht, h⟩ := gO_s h
  obtain ⟨x_14, w_11, I_12, J_13, hcl, h⟩ := cI_s h
  refine gs_call (as := [.ref l0, .int x_8]) (rest := []) cd_178_31 rfl (by decide) rfl (sm_rv_ok (by decide) ht) (Nat.le_of_ble_eq_true rfl) (Nat.le_of_ble_eq_true rfl) rfl hcl ?_
  refine gs_0 (pc' := 36) (L' := [some (.ref l0), some (.int x_4), some (.int x_6), some (.int x_8), some (.int x_10), some (.int x_14), none]) (st' := []) cd_178_34 rfl rfl ?_
  refine gs_0 (pc' := 38) (L' := [some (.ref l0), some (.int x_4), some (.int x_6), some (.int x_8), some (.int x_10), some (.int x_14), none]) (st' := [.int x_14]) cd_178_36 rfl rfl ?_
  refine gs_0 (pc' := if ¬ x_14 = 0 then 79 else 41) (L' := [some (.ref l0), some (.int x_4), some (.int x_6), some (.int x_8), some (.int x_10), some (.int x_14), none]) (st' := []) cd_178_38 rfl rfl ?_
  refine go_ite (fun hc => ?_) (fun hc => ?_)
  · rw [if_pos hc] at h
    exact ok_178_79 h
  · rw [if_neg hc] at h
    refine gs_0 (pc' := 42) (L' := [some (.ref l0), some (.int x_4), some (.int x_6), some (.int x_8), some (.int x_10), some (.int x_14), none]) (st' := [.int x_8]) cd_178_41 rfl rfl ?_
    refine gs_0 (pc' := 44) (L' := [some (.ref l0), some (.int x_4), some (.int x_6), some (.int x_8), some (.int x_10), some (.int x_14), none]) (st' := [.int 10, .int x_8]) cd_178_42 rfl rfl ?_
    refine gs_0 (pc' := if x_8 = 10 then 53 else 47) (L' := [some (.ref l0), some (.int x_4), some (.int x_6), some (.int x_8), some (.int x_10), some (.int x_14), none]) (st' := []) cd_178_44 rfl rfl ?_
    refine go_ite (fun hc => ?_) (fun hc => ?_)
    · rw [if_pos hc] at h
      exact ok_178_53 h
    · rw [if_neg hc] at h
      refine gs_0 (pc' := 48) (L' := [some (.ref l0), some (.int x_4), some (.int x_6), some (.int x_8), some (.int x_10), some (.int x_14), none]) (st' := [.int x_8]) cd_178_47 rfl rfl ?_
      refine gs_0 (pc' := 50) (L' := [some (.ref l0), some (.int x_4), some (.int x_6), some (.int x_8), some (.int x_10), some (.int x_14), none]) (st' := [.int 12, .int x_8]) cd_178_48 rfl rfl ?_
      refine gs_0 (pc' := if ¬ x_8 = 12 then 79 else 53) (L' := [some (.ref l0), some (.int x_4), some (.int x_6), some (.int x_8), some (.int x_10), some (.int x_14), none]) (st' := []) cd_178_50 rfl rfl ?_
      refine go_ite (fun hc => ?_) (fun hc => ?_)
      · rw [if_pos hc] at h
        exact ok_178_79 h
      · rw [if_neg hc] at h
        exact ok_178_53 h
theorem cl_178 {K : Nat → Value} {k d : Nat} {l0 : Nat} {w : aW} {I : aI} {J : aJ} {R : aR} (h : f_178 K k d l0 w I J = some R) : Cl K (d + 1) 178 [.ref l0] w I J = some R := Cl_of (ok_178 h)
/-! ProvedMachineModel.latest()I -/
set_option maxRecDepth 20000 in
theorem gl_179 : gcd.lookup 179 = some gw_179 := rfl
theorem cd_179_0 : sm_cd 179 0 = some (.bipush 70, 2, 0, 0, 0, 0, 0, 70, 0) := cd_of gl_179 rfl
theorem cd_179_2 : sm_cd 179 2 = some (.bipush 8, 2, 0, 0, 0, 0, 0, 8, 0) := cd_of gl_179 rfl
theorem cd_179_4 : sm_cd 179 4 = some (.aload_n 0, 1, 0, 0, 0, 0, 0, 0, 0) := cd_of gl_179 rfl
theorem cd_179_5 : sm_cd 179 5 = some (.getfield 111, 3, 6, 36, 2, 0, 0, 0, 0) := cd_of gl_179 rfl
theorem cd_179_8 : sm_cd 179 8 = some (.iconst 1, 1, 0, 0, 0, 0, 0, 1, 0) := cd_of gl_179 rfl
theorem cd_179_9 : sm_cd 179 9 = some (.iaload, 1, 0, 0, 0, 0, 0, 0, 0) := cd_of gl_179 rfl
theorem cd_179_10 : sm_cd 179 10 = some (.iconst 1, 1, 0, 0, 0, 0, 0, 1, 0) := cd_of gl_179 rfl
theorem cd_179_11 : sm_cd 179 11 = some (.isub, 1, 0, 0, 0, 0, 0, 0, 0) := cd_of gl_179 rfl
theorem cd_179_12 : sm_cd 179 12 = some (.imul, 1, 0, 0, 0, 0, 0, 0, 0) := cd_of gl_179 rfl
theorem cd_179_13 : sm_cd 179 13 = some (.iadd, 1, 0, 0, 0, 0, 0, 0, 0) := cd_of gl_179 rfl
theorem cd_179_14 : sm_cd 179 14 = some (.ireturn, 1, 0, 0, 1, 0, 0, 0, 0) := cd_of gl_179 rfl
noncomputable def f_179 (K : Nat → Value) (k d : Nat) (l0 : Nat) (w : aW) (I : aI) (J : aJ) : Option aR :=
  gO w 6 l0 (
  gV w l0 36 fun q_1 =>
  gA w 10 20 q_1 1 (
  some (some (.int (70 + (8 * ((I q_1 (1 : Int32).toNatClampNeg) - 1)))), w, I, J)))
theorem ok_179 {K : Nat → Value} {k d : Nat} {l0 : Nat} {w : aW} {I : aI} {J : aJ} {R : aR} (h : f_179 K k d l0 w I J = some R) : Go K (d + 1) 179 0 [some (.ref l0)] [] w I J R := by
  unfold f_179 at h
  refine gs_0 (pc' := 2) (L' := [some (.ref l0)]) (st' := [.int 70]) cd_179_0 rfl rfl ?_
  refine gs_0 (pc' := 4) (L' := [some (.ref l0)]) (st' := [.int 8, .int 70]) cd_179_2 rfl rfl ?_
  refine gs_0 (pc' := 5) (L' := [some (.ref l0)]) (st' := [.ref l0, .int 8, .int 70]) cd_179_4 rfl rfl ?_
  obtain ⟨ht, h⟩ := gO_s h
  obtain ⟨q_1, hv, h⟩ := gV_s h
  refine gs_gfR cd_179_5 (by decide) ht hv ?_
  refine gs_0 (pc' := 9) (L' := [some (.ref l0)]) (st' := [.int 1, .ref q_1, .int 8, .int 70]) cd_179_8 rfl rfl ?_
  obtain ⟨ht, h⟩ := gA_s h
  refine gs_iald cd_179_9 ht ?_
  refine gs_0 (pc' := 11) (L' := [some (.ref l0)]) (st' := [.int 1, .int (I q_1 (1 : Int32).toNatClampNeg), .int 8, .int 70]) cd_179_10 rfl rfl ?_
  refine gs_0 (pc' := 12) (L' := [some (.ref l0)]) (st' := [.int ((I q_1 (1 : Int32).toNatClampNeg) - 1), .int 8, .int 70]) cd_179_11 rfl rfl ?_
  refine gs_0 (pc' := 13) (L' := [some (.ref l0)]) (st' := [.int (8 * ((I q_1 (1 : Int32).toNatClampNeg) - 1)), .int 70]) cd_179_12 rfl rfl ?_
  refine gs_0 (pc' := 14) (L' := [some (.ref l0)]) (st' := [.int (70 + (8 * ((I q_1 (1 : Int32).toNatClampNeg) - 1)))]) cd_179_13 rfl rfl ?_
  cases h
  exact gs_ri cd_179_14 (Or.inl rfl)
theorem cl_179 {K : Nat → Value} {k d : Nat} {l0 : Nat} {w : aW} {I : aI} {J : aJ} {R : aR} (h : f_179 K k d l0 w I J = some R) : Cl K (d + 1) 179 [.ref l0] w I J = some R := Cl_of (ok_179 h)
/-! ProvedMachineModel.whyNot(I)I -/
set_option maxRecDepth 20000 in
theorem gl_180 : gcd.lookup 180 = some gw_180 := rfl
theorem cd_180_0 : sm_cd 180 0 = some (.iload_n 1, 1, 1, 0, 0, 0, 0, 0, 0) := cd_of gl_180 rfl
theorem cd_180_1 : sm_cd 180 1 = some (.tableswitch 259 0 27 #[127, 127, 127, 127, 145, 259, 259, 163, 163, 163, 177, 197, 259, 259, 259, 259, 259, 259, 259, 259, 212, 259, 226, 259, 259, 259, 241, 127], 127, 0, 0, 0, 0, 0, 0, 0) := cd_of gl_180 rfl
theorem cd_180_128 : sm_cd 180 128 = some (.aload_n 0, 1, 0, 0, 0, 0, 0, 0, 0) := cd_of gl_180 rfl
theorem cd_180_129 : sm_cd 180 129 = some (.getfield 111, 3, 6, 36, 2, 0, 0, 0, 0) := cd_of gl_180 rfl
theorem cd_180_132 : sm_cd 180 132 = some (.iconst 2, 1, 0, 0, 0, 0, 0, 2, 0) := cd_of gl_180 rfl
theorem cd_180_133 : sm_cd 180 133 = some (.iaload, 1, 0, 0, 0, 0, 0, 0, 0) := cd_of gl_180 rfl
theorem cd_180_134 : sm_cd 180 134 = some (.bipush 30, 2, 0, 0, 0, 0, 0, 30, 0) := cd_of gl_180 rfl
theorem cd_180_136 : sm_cd 180 136 = some (.if_icmp .ne 8, 3, 144, 0, 0, 0, 0, 0, 0) := cd_of gl_180 rfl
theorem cd_180_139 : sm_cd 180 139 = some (.bipush 7, 2, 0, 0, 0, 0, 0, 7, 0) := cd_of gl_180 rfl
theorem cd_180_141 : sm_cd 180 141 = some (.goto 4, 3, 145, 0, 0, 0, 0, 0, 0) := cd_of gl_180 rfl
theorem cd_180_144 : sm_cd 180 144 = some (.iconst 0, 1, 0, 0, 0, 0, 0, 0, 0) := cd_of gl_180 rfl
theorem cd_180_145 : sm_cd 180 145 = some (.ireturn, 1, 0, 0, 1, 0, 0, 0, 0) := cd_of gl_180 rfl
theorem cd_180_146 : sm_cd 180 146 = some (.aload_n 0, 1, 0, 0, 0, 0, 0, 0, 0) := cd_of gl_180 rfl
theorem cd_180_147 : sm_cd 180 147 = some (.getfield 111, 3, 6, 36, 2, 0, 0, 0, 0) := cd_of gl_180 rfl
theorem cd_180_150 : sm_cd 180 150 = some (.iconst 1, 1, 0, 0, 0, 0, 0, 1, 0) := cd_of gl_180 rfl
theorem cd_180_151 : sm_cd 180 151 = some (.iaload, 1, 0, 0, 0, 0, 0, 0, 0) := cd_of gl_180 rfl
theorem cd_180_152 : sm_cd 180 152 = some (.bipush 8, 2, 0, 0, 0, 0, 0, 8, 0) := cd_of gl_180 rfl
theorem cd_180_154 : sm_cd 180 154 = some (.if_icmp .ne 8, 3, 162, 0, 0, 0, 0, 0, 0) := cd_of gl_180 rfl
theorem cd_180_157 : sm_cd 180 157 = some (.bipush 7, 2, 0, 0, 0, 0, 0, 7, 0) := cd_of gl_180 rfl
theorem cd_180_159 : sm_cd 180 159 = some (.goto 4, 3, 163, 0, 0, 0, 0, 0, 0) := cd_of gl_180 rfl
theorem cd_180_162 : sm_cd 180 162 = some (.iconst 0, 1, 0, 0, 0, 0, 0, 0, 0) := cd_of gl_180 rfl
theorem cd_180_163 : sm_cd 180 163 = some (.ireturn, 1, 0, 0, 1, 0, 0, 0, 0) := cd_of gl_180 rfl
theorem cd_180_164 : sm_cd 180 164 = some (.aload_n 0, 1, 0, 0, 0, 0, 0, 0, 0) := cd_of gl_180 rfl
theorem cd_180_165 : sm_cd 180 165 = some (.iconst 1, 1, 0, 0, 0, 0, 0, 1, 0) := cd_of gl_180 rfl
theorem cd_180_166 : sm_cd 180 166 = some (.invokevirtual 375, 3, 181, 0, 1, 2, 6, 0, 0) := cd_of gl_180 rfl
theorem cd_180_169 : sm_cd 180 169 = some (.ifCond .ne 7, 3, 176, 0, 0, 0, 0, 0, 0) := cd_of gl_180 rfl
theorem cd_180_172 : sm_cd 180 172 = some (.iconst 4, 1, 0, 0, 0, 0, 0, 4, 0) := cd_of gl_180 rfl
theorem cd_180_173 : sm_cd 180 173 = some (.goto 4, 3, 177, 0, 0, 0, 0, 0, 0) := cd_of gl_180 rfl
theorem cd_180_176 : sm_cd 180 176 = some (.iconst 0, 1, 0, 0, 0, 0, 0, 0, 0) := cd_of gl_180 rfl
theorem cd_180_177 : sm_cd 180 177 = some (.ireturn, 1, 0, 0, 1, 0, 0, 0, 0) := cd_of gl_180 rfl
theorem cd_180_178 : sm_cd 180 178 = some (.aload_n 0, 1, 0, 0, 0, 0, 0, 0, 0) := cd_of gl_180 rfl
theorem cd_180_179 : sm_cd 180 179 = some (.iconst 1, 1, 0, 0, 0, 0, 0, 1, 0) := cd_of gl_180 rfl
theorem cd_180_180 : sm_cd 180 180 = some (.invokevirtual 375, 3, 181, 0, 1, 2, 6, 0, 0) := cd_of gl_180 rfl
theorem cd_180_183 : sm_cd 180 183 = some (.iconst 0, 1, 0, 0, 0, 0, 0, 0, 0) := cd_of gl_180 rfl
theorem cd_180_184 : sm_cd 180 184 = some (.bipush 9, 2, 0, 0, 0, 0, 0, 9, 0) := cd_of gl_180 rfl
theorem cd_180_186 : sm_cd 180 186 = some (.invokestatic 144, 3, 19, 1, 3, 3, 6, 0, 0) := cd_of gl_180 rfl
theorem cd_180_189 : sm_cd 180 189 = some (.ifCond .eq 7, 3, 196, 0, 0, 0, 0, 0, 0) := cd_of gl_180 rfl
theorem cd_180_192 : sm_cd 180 192 = some (.iconst 0, 1, 0, 0, 0, 0, 0, 0, 0) := cd_of gl_180 rfl
theorem cd_180_193 : sm_cd 180 193 = some (.goto 4, 3, 197, 0, 0, 0, 0, 0, 0) := cd_of gl_180 rfl
theorem cd_180_196 : sm_cd 180 196 = some (.iconst 5, 1, 0, 0, 0, 0, 0, 5, 0) := cd_of gl_180 rfl
theorem cd_180_197 : sm_cd 180 197 = some (.ireturn, 1, 0, 0, 1, 0, 0, 0, 0) := cd_of gl_180 rfl
theorem cd_180_198 : sm_cd 180 198 = some (.aload_n 0, 1, 0, 0, 0, 0, 0, 0, 0) := cd_of gl_180 rfl
theorem cd_180_199 : sm_cd 180 199 = some (.aload_n 0, 1, 0, 0, 0, 0, 0, 0, 0) := cd_of gl_180 rfl
theorem cd_180_200 : sm_cd 180 200 = some (.iconst 2, 1, 0, 0, 0, 0, 0, 2, 0) := cd_of gl_180 rfl
theorem cd_180_201 : sm_cd 180 201 = some (.invokevirtual 375, 3, 181, 0, 1, 2, 6, 0, 0) := cd_of gl_180 rfl
theorem cd_180_204 : sm_cd 180 204 = some (.aload_n 0, 1, 0, 0, 0, 0, 0, 0, 0) := cd_of gl_180 rfl
theorem cd_180_205 : sm_cd 180 205 = some (.iconst 1, 1, 0, 0, 0, 0, 0, 1, 0) := cd_of gl_180 rfl
theorem cd_180_206 : sm_cd 180 206 = some (.invokevirtual 375, 3, 181, 0, 1, 2, 6, 0, 0) := cd_of gl_180 rfl
theorem cd_180_209 : sm_cd 180 209 = some (.invokevirtual 378, 3, 182, 0, 2, 3, 6, 0, 0) := cd_of gl_180 rfl
theorem cd_180_212 : sm_cd 180 212 = some (.ireturn, 1, 0, 0, 1, 0, 0, 0, 0) := cd_of gl_180 rfl
theorem cd_180_213 : sm_cd 180 213 = some (.aload_n 0, 1, 0, 0, 0, 0, 0, 0, 0) := cd_of gl_180 rfl
theorem cd_180_214 : sm_cd 180 214 = some (.iconst 1, 1, 0, 0, 0, 0, 0, 1, 0) := cd_of gl_180 rfl
theorem cd_180_215 : sm_cd 180 215 = some (.invokevirtual 375, 3, 181, 0, 1, 2, 6, 0, 0) := cd_of gl_180 rfl
theorem cd_180_218 : sm_cd 180 218 = some (.ifCond .ne 7, 3, 225, 0, 0, 0, 0, 0, 0) := cd_of gl_180 rfl
theorem cd_180_221 : sm_cd 180 221 = some (.iconst 2, 1, 0, 0, 0, 0, 0, 2, 0) := cd_of gl_180 rfl
theorem cd_180_222 : sm_cd 180 222 = some (.goto 4, 3, 226, 0, 0, 0, 0, 0, 0) := cd_of gl_180 rfl
theorem cd_180_225 : sm_cd 180 225 = some (.iconst 0, 1, 0, 0, 0, 0, 0, 0, 0) := cd_of gl_180 rfl
theorem cd_180_226 : sm_cd 180 226 = some (.ireturn, 1, 0, 0, 1, 0, 0, 0, 0) := cd_of gl_180 rfl
theorem cd_180_227 : sm_cd 180 227 = some (.aload_n 0, 1, 0, 0, 0, 0, 0, 0, 0) := cd_of gl_180 rfl
theorem cd_180_228 : sm_cd 180 228 = some (.aload_n 0, 1, 0, 0, 0, 0, 0, 0, 0) := cd_of gl_180 rfl
theorem cd_180_229 : sm_cd 180 229 = some (.iconst 3, 1, 0, 0, 0, 0, 0, 3, 0) := cd_of gl_180 rfl
theorem cd_180_230 : sm_cd 180 230 = some (.invokevirtual 375, 3, 181, 0, 1, 2, 6, 0, 0) := cd_of gl_180 rfl
theorem cd_180_233 : sm_cd 180 233 = some (.aload_n 0, 1, 0, 0, 0, 0, 0, 0, 0) := cd_of gl_180 rfl
theorem cd_180_234 : sm_cd 180 234 = some (.iconst 2, 1, 0, 0, 0, 0, 0, 2, 0) := cd_of gl_180 rfl
theorem cd_180_235 : sm_cd 180 235 = some (.invokevirtual 375, 3, 181, 0, 1, 2, 6, 0, 0) := cd_of gl_180 rfl
theorem cd_180_238 : sm_cd 180 238 = some (.invokevirtual 378, 3, 182, 0, 2, 3, 6, 0, 0) := cd_of gl_180 rfl
theorem cd_180_241 : sm_cd 180 241 = some (.ireturn, 1, 0, 0, 1, 0, 0, 0, 0) := cd_of gl_180 rfl
theorem cd_180_242 : sm_cd 180 242 = some (.aload_n 0, 1, 0, 0, 0, 0, 0, 0, 0) := cd_of gl_180 rfl
theorem cd_180_243 : sm_cd 180 243 = some (.getfield 111, 3, 6, 36, 2, 0, 0, 0, 0) := cd_of gl_180 rfl
theorem cd_180_246 : sm_cd 180 246 = some (.iconst 3, 1, 0, 0, 0, 0, 0, 3, 0) := cd_of gl_180 rfl
theorem cd_180_247 : sm_cd 180 247 = some (.iaload, 1, 0, 0, 0, 0, 0, 0, 0) := cd_of gl_180 rfl
theorem cd_180_248 : sm_cd 180 248 = some (.bipush 20, 2, 0, 0, 0, 0, 0, 20, 0) := cd_of gl_180 rfl
theorem cd_180_250 : sm_cd 180 250 = some (.if_icmp .ne 8, 3, 258, 0, 0, 0, 0, 0, 0) := cd_of gl_180 rfl
theorem cd_180_253 : sm_cd 180 253 = some (.bipush 8, 2, 0, 0, 0, 0, 0, 8, 0) := cd_of gl_180 rfl
theorem cd_180_255 : sm_cd 180 255 = some (.goto 4, 3, 259, 0, 0, 0, 0, 0, 0) := cd_of gl_180 rfl
theorem cd_180_258 : sm_cd 180 258 = some (.iconst 0, 1, 0, 0, 0, 0, 0, 0, 0) := cd_of gl_180 rfl
theorem cd_180_259 : sm_cd 180 259 = some (.ireturn, 1, 0, 0, 1, 0, 0, 0, 0) := cd_of gl_180 rfl
theorem cd_180_260 : sm_cd 180 260 = some (.iconst 0, 1, 0, 0, 0, 0, 0, 0, 0) := cd_of gl_180 rfl
theorem cd_180_261 : sm_cd 180 261 = some (.ireturn, 1, 0, 0, 1, 0, 0, 0, 0) := cd_of gl_180 rfl
theorem sw_180_1_0 {K : Nat → Value} {L : aL} {st : List Value} {w : aW} {I : aI} {J : aJ} {x : Int32} (h : x = 0) : sm_stp K (.tableswitch 259 0 27 #[127, 127, 127, 127, 145, 259, 259, 163, 163, 163, 177, 197, 259, 259, 259, 259, 259, 259, 259, 259, 212, 259, 226, 259, 259, 259, 241, 127], 127, 0, 0, 0, 0, 0, 0, 0) 1 L (.int x :: st) w I J = some (128, L, st, w, I, J) := by subst h; rfl
theorem sw_180_1_1 {K : Nat → Value} {L : aL} {st : List Value} {w : aW} {I : aI} {J : aJ} {x : Int32} (h : x = 1) : sm_stp K (.tableswitch 259 0 27 #[127, 127, 127, 127, 145, 259, 259, 163, 163, 163, 177, 197, 259, 259, 259, 259, 259, 259, 259, 259, 212, 259, 226, 259, 259, 259, 241, 127], 127, 0, 0, 0, 0, 0, 0, 0) 1 L (.int x :: st) w I J = some (128, L, st, w, I, J) := by subst h; rfl
theorem sw_180_1_2 {K : Nat → Value} {L : aL} {st : List Value} {w : aW} {I : aI} {J : aJ} {x : Int32} (h : x = 2) : sm_stp K (.tableswitch 259 0 27 #[127, 127, 127, 127, 145, 259, 259, 163, 163, 163, 177, 197, 259, 259, 259, 259, 259, 259, 259, 259, 212, 259, 226, 259, 259, 259, 241, 127], 127, 0, 0, 0, 0, 0, 0, 0) 1 L (.int x :: st) w I J = some (128, L, st, w, I, J) := by subst h; rfl
theorem sw_180_1_3 {K : Nat → Value} {L : aL} {st : List Value} {w : aW} {I : aI} {J : aJ} {x : Int32} (h : x = 3) : sm_stp K (.tableswitch 259 0 27 #[127, 127, 127, 127, 145, 259, 259, 163, 163, 163, 177, 197, 259, 259, 259, 259, 259, 259, 259, 259, 212, 259, 226, 259, 259, 259, 241, 127], 127, 0, 0, 0, 0, 0, 0, 0) 1 L (.int x :: st) w I J = some (128, L, st, w, I, J) := by subst h; rfl
theorem sw_180_1_4 {K : Nat → Value} {L : aL} {st : List Value} {w : aW} {I : aI} {J : aJ} {x : Int32} (h : x = 4) : sm_stp K (.tableswitch 259 0 27 #[127, 127, 127, 127, 145, 259, 259, 163, 163, 163, 177, 197, 259, 259, 259, 259, 259, 259, 259, 259, 212, 259, 226, 259, 259, 259, 241, 127], 127, 0, 0, 0, 0, 0, 0, 0) 1 L (.int x :: st) w I J = some (146, L, st, w, I, J) := by subst h; rfl
theorem sw_180_1_5 {K : Nat → Value} {L : aL} {st : List Value} {w : aW} {I : aI} {J : aJ} {x : Int32} (h : x = 7) : sm_stp K (.tableswitch 259 0 27 #[127, 127, 127, 127, 145, 259, 259, 163, 163, 163, 177, 197, 259, 259, 259, 259, 259, 259, 259, 259, 212, 259, 226, 259, 259, 259, 241, 127], 127, 0, 0, 0, 0, 0, 0, 0) 1 L (.int x :: st) w I J = some (164, L, st, w, I, J) := by subst h; rfl
theorem sw_180_1_6 {K : Nat → Value} {L : aL} {st : List Value} {w : aW} {I : aI} {J : aJ} {x : Int32} (h : x = 8) : sm_stp K (.tableswitch 259 0 27 #[127, 127, 127, 127, 145, 259, 259, 163, 163, 163, 177, 197, 259, 259, 259, 259, 259, 259, 259, 259, 212, 259, 226, 259, 259, 259, 241, 127], 127, 0, 0, 0, 0, 0, 0, 0) 1 L (.int x :: st) w I J = some (164, L, st, w, I, J) := by subst h; rfl
theorem sw_180_1_7 {K : Nat → Value} {L : aL} {st : List Value} {w : aW} {I : aI} {J : aJ} {x : Int32} (h : x = 9) : sm_stp K (.tableswitch 259 0 27 #[127, 127, 127, 127, 145, 259, 259, 163, 163, 163, 177, 197, 259, 259, 259, 259, 259, 259, 259, 259, 212, 259, 226, 259, 259, 259, 241, 127], 127, 0, 0, 0, 0, 0, 0, 0) 1 L (.int x :: st) w I J = some (164, L, st, w, I, J) := by subst h; rfl
theorem sw_180_1_8 {K : Nat → Value} {L : aL} {st : List Value} {w : aW} {I : aI} {J : aJ} {x : Int32} (h : x = 10) : sm_stp K (.tableswitch 259 0 27 #[127, 127, 127, 127, 145, 259, 259, 163, 163, 163, 177, 197, 259, 259, 259, 259, 259, 259, 259, 259, 212, 259, 226, 259, 259, 259, 241, 127], 127, 0, 0, 0, 0, 0, 0, 0) 1 L (.int x :: st) w I J = some (178, L, st, w, I, J) := by subst h; rfl
theorem sw_180_1_9 {K : Nat → Value} {L : aL} {st : List Value} {w : aW} {I : aI} {J : aJ} {x : Int32} (h : x = 11) : sm_stp K (.tableswitch 259 0 27 #[127, 127, 127, 127, 145, 259, 259, 163, 163, 163, 177, 197, 259, 259, 259, 259, 259, 259, 259, 259, 212, 259, 226, 259, 259, 259, 241, 127], 127, 0, 0, 0, 0, 0, 0, 0) 1 L (.int x :: st) w I J = some (198, L, st, w, I, J) := by subst h; rfl
theorem sw_180_1_10 {K : Nat → Value} {L : aL} {st : List Value} {w : aW} {I : aI} {J : aJ} {x : Int32} (h : x = 20) : sm_stp K (.tableswitch 259 0 27 #[127, 127, 127, 127, 145, 259, 259, 163, 163, 163, 177, 197, 259, 259, 259, 259, 259, 259, 259, 259, 212, 259, 226, 259, 259, 259, 241, 127], 127, 0, 0, 0, 0, 0, 0, 0) 1 L (.int x :: st) w I J = some (213, L, st, w, I, J) := by subst h; rfl
theorem sw_180_1_11 {K : Nat → Value} {L : aL} {st : List Value} {w : aW} {I : aI} {J : aJ} {x : Int32} (h : x = 22) : sm_stp K (.tableswitch 259 0 27 #[127, 127, 127, 127, 145, 259, 259, 163, 163, 163, 177, 197, 259, 259, 259, 259, 259, 259, 259, 259, 212, 259, 226, 259, 259, 259, 241, 127], 127, 0, 0, 0, 0, 0, 0, 0) 1 L (.int x :: st) w I J = some (227, L, st, w, I, J) := by subst h; rfl
theorem sw_180_1_12 {K : Nat → Value} {L : aL} {st : List Value} {w : aW} {I : aI} {J : aJ} {x : Int32} (h : x = 26) : sm_stp K (.tableswitch 259 0 27 #[127, 127, 127, 127, 145, 259, 259, 163, 163, 163, 177, 197, 259, 259, 259, 259, 259, 259, 259, 259, 212, 259, 226, 259, 259, 259, 241, 127], 127, 0, 0, 0, 0, 0, 0, 0) 1 L (.int x :: st) w I J = some (242, L, st, w, I, J) := by subst h; rfl
theorem sw_180_1_13 {K : Nat → Value} {L : aL} {st : List Value} {w : aW} {I : aI} {J : aJ} {x : Int32} (h : x = 27) : sm_stp K (.tableswitch 259 0 27 #[127, 127, 127, 127, 145, 259, 259, 163, 163, 163, 177, 197, 259, 259, 259, 259, 259, 259, 259, 259, 212, 259, 226, 259, 259, 259, 241, 127], 127, 0, 0, 0, 0, 0, 0, 0) 1 L (.int x :: st) w I J = some (128, L, st, w, I, J) := by subst h; rfl
theorem sw_180_1_d {K : Nat → Value} {L : aL} {st : List Value} {w : aW} {I : aI} {J : aJ} {x : Int32} (h0 : ¬ x = 0) (h1 : ¬ x = 1) (h2 : ¬ x = 2) (h3 : ¬ x = 3) (h4 : ¬ x = 4) (h5 : ¬ x = 7) (h6 : ¬ x = 8) (h7 : ¬ x = 9) (h8 : ¬ x = 10) (h9 : ¬ x = 11) (h10 : ¬ x = 20) (h11 : ¬ x = 22) (h12 : ¬ x = 26) (h13 : ¬ x = 27) : sm_stp K (.tableswitch 259 0 27 #[127, 127, 127, 127, 145, 259, 259, 163, 163, 163, 177, 197, 259, 259, 259, 259, 259, 259, 259, 259, 212, 259, 226, 259, 259, 259, 241, 127], 127, 0, 0, 0, 0, 0, 0, 0) 1 L (.int x :: st) w I J = some (260, L, st, w, I, J) := by
  have e : sm_swt 1 259 0 27 #[127, 127, 127, 127, 145, 259, 259, 163, 163, 163, 177, 197, 259, 259, 259, 259, 259, 259, 259, 259, 212, 259, 226, 259, 259, 259, 241, 127] x = some 260 := by
    unfold sm_swt
    split
    · rfl
    · rename_i hn
      have hx : x = 0 ∨ x = 1 ∨ x = 2 ∨ x = 3 ∨ x = 4 ∨ x = 5 ∨ x = 6 ∨ x = 7 ∨ x = 8 ∨ x = 9 ∨ x = 10 ∨ x = 11 ∨ x = 12 ∨ x = 13 ∨ x = 14 ∨ x = 15 ∨ x = 16 ∨ x = 17 ∨ x = 18 ∨ x = 19 ∨ x = 20 ∨ x = 21 ∨ x = 22 ∨ x = 23 ∨ x = 24 ∨ x = 25 ∨ x = 26 ∨ x = 27 := by
        have ha : ¬ x.toInt < 0 := fun q => hn (Or.inl q)
        have hb : ¬ 27 < x.toInt := fun q => hn (Or.inr q)
        have h3 : x.toInt = 0 ∨ x.toInt = 1 ∨ x.toInt = 2 ∨ x.toInt = 3 ∨ x.toInt = 4 ∨ x.toInt = 5 ∨ x.toInt = 6 ∨ x.toInt = 7 ∨ x.toInt = 8 ∨ x.toInt = 9 ∨ x.toInt = 10 ∨ x.toInt = 11 ∨ x.toInt = 12 ∨ x.toInt = 13 ∨ x.toInt = 14 ∨ x.toInt = 15 ∨ x.toInt = 16 ∨ x.toInt = 17 ∨ x.toInt = 18 ∨ x.toInt = 19 ∨ x.toInt = 20 ∨ x.toInt = 21 ∨ x.toInt = 22 ∨ x.toInt = 23 ∨ x.toInt = 24 ∨ x.toInt = 25 ∨ x.toInt = 26 ∨ x.toInt = 27 := by omega
        rcases h3 with q | q | q | q | q | q | q | q | q | q | q | q | q | q | q | q | q | q | q | q | q | q | q | q | q | q | q | q
        · exact Or.inl (Int32.toInt_inj.mp q)
        · exact Or.inr (Or.inl (Int32.toInt_inj.mp q))
        · exact Or.inr (Or.inr (Or.inl (Int32.toInt_inj.mp q)))
        · exact Or.inr (Or.inr (Or.inr (Or.inl (Int32.toInt_inj.mp q))))
        · exact Or.inr (Or.inr (Or.inr (Or.inr (Or.inl (Int32.toInt_inj.mp q)))))
        · exact Or.inr (Or.inr (Or.inr (Or.inr (Or.inr (Or.inl (Int32.toInt_inj.mp q))))))
        · exact Or.inr (Or.inr (Or.inr (Or.inr (Or.inr (Or.inr (Or.inl (Int32.toInt_inj.mp q)))))))
        · exact Or.inr (Or.inr (Or.inr (Or.inr (Or.inr (Or.inr (Or.inr (Or.inl (Int32.toInt_inj.mp q))))))))
        · exact Or.inr (Or.inr (Or.inr (Or.inr (Or.inr (Or.inr (Or.inr (Or.inr (Or.inl (Int32.toInt_inj.mp q)))))))))
        · exact Or.inr (Or.inr (Or.inr (Or.inr (Or.inr (Or.inr (Or.inr (Or.inr (Or.inr (Or.inl (Int32.toInt_inj.mp q))))))))))
        · exact Or.inr (Or.inr (Or.inr (Or.inr (Or.inr (Or.inr (Or.inr (Or.inr (Or.inr (Or.inr (Or.inl (Int32.toInt_inj.mp q)))))))))))
        · exact Or.inr (Or.inr (Or.inr (Or.inr (Or.inr (Or.inr (Or.inr (Or.inr (Or.inr (Or.inr (Or.inr (Or.inl (Int32.toInt_inj.mp q))))))))))))
        · exact Or.inr (Or.inr (Or.inr (Or.inr (Or.inr (Or.inr (Or.inr (Or.inr (Or.inr (Or.inr (Or.inr (Or.inr (Or.inl (Int32.toInt_inj.mp q)))))))))))))
        · exact Or.inr (Or.inr (Or.inr (Or.inr (Or.inr (Or.inr (Or.inr (Or.inr (Or.inr (Or.inr (Or.inr (Or.inr (Or.inr (Or.inl (Int32.toInt_inj.mp q))))))))))))))
        · exact Or.inr (Or.inr (Or.inr (Or.inr (Or.inr (Or.inr (Or.inr (Or.inr (Or.inr (Or.inr (Or.inr (Or.inr (Or.inr (Or.inr (Or.inl (Int32.toInt_inj.mp q)))))))))))))))
        · exact Or.inr (Or.inr (Or.inr (Or.inr (Or.inr (Or.inr (Or.inr (Or.inr (Or.inr (Or.inr (Or.inr (Or.inr (Or.inr (Or.inr (Or.inr (Or.inl (Int32.toInt_inj.mp q))))))))))))))))
        · exact Or.inr (Or.inr (Or.inr (Or.inr (Or.inr (Or.inr (Or.inr (Or.inr (Or.inr (Or.inr (Or.inr (Or.inr (Or.inr (Or.inr (Or.inr (Or.inr (Or.inl (Int32.toInt_inj.mp q)))))))))))))))))
        · exact Or.inr (Or.inr (Or.inr (Or.inr (Or.inr (Or.inr (Or.inr (Or.inr (Or.inr (Or.inr (Or.inr (Or.inr (Or.inr (Or.inr (Or.inr (Or.inr (Or.inr (Or.inl (Int32.toInt_inj.mp q))))))))))))))))))
        · exact Or.inr (Or.inr (Or.inr (Or.inr (Or.inr (Or.inr (Or.inr (Or.inr (Or.inr (Or.inr (Or.inr (Or.inr (Or.inr (Or.inr (Or.inr (Or.inr (Or.inr (Or.inr (Or.inl (Int32.toInt_inj.mp q)))))))))))))))))))
        · exact Or.inr (Or.inr (Or.inr (Or.inr (Or.inr (Or.inr (Or.inr (Or.inr (Or.inr (Or.inr (Or.inr (Or.inr (Or.inr (Or.inr (Or.inr (Or.inr (Or.inr (Or.inr (Or.inr (Or.inl (Int32.toInt_inj.mp q))))))))))))))))))))
        · exact Or.inr (Or.inr (Or.inr (Or.inr (Or.inr (Or.inr (Or.inr (Or.inr (Or.inr (Or.inr (Or.inr (Or.inr (Or.inr (Or.inr (Or.inr (Or.inr (Or.inr (Or.inr (Or.inr (Or.inr (Or.inl (Int32.toInt_inj.mp q)))))))))))))))))))))
        · exact Or.inr (Or.inr (Or.inr (Or.inr (Or.inr (Or.inr (Or.inr (Or.inr (Or.inr (Or.inr (Or.inr (Or.inr (Or.inr (Or.inr (Or.inr (Or.inr (Or.inr (Or.inr (Or.inr (Or.inr (Or.inr (Or.inl (Int32.toInt_inj.mp q))))))))))))))))))))))
        · exact Or.inr (Or.inr (Or.inr (Or.inr (Or.inr (Or.inr (Or.inr (Or.inr (Or.inr (Or.inr (Or.inr (Or.inr (Or.inr (Or.inr (Or.inr (Or.inr (Or.inr (Or.inr (Or.inr (Or.inr (Or.inr (Or.inr (Or.inl (Int32.toInt_inj.mp q)))))))))))))))))))))))
        · exact Or.inr (Or.inr (Or.inr (Or.inr (Or.inr (Or.inr (Or.inr (Or.inr (Or.inr (Or.inr (Or.inr (Or.inr (Or.inr (Or.inr (Or.inr (Or.inr (Or.inr (Or.inr (Or.inr (Or.inr (Or.inr (Or.inr (Or.inr (Or.inl (Int32.toInt_inj.mp q))))))))))))))))))))))))
        · exact Or.inr (Or.inr (Or.inr (Or.inr (Or.inr (Or.inr (Or.inr (Or.inr (Or.inr (Or.inr (Or.inr (Or.inr (Or.inr (Or.inr (Or.inr (Or.inr (Or.inr (Or.inr (Or.inr (Or.inr (Or.inr (Or.inr (Or.inr (Or.inr (Or.inl (Int32.toInt_inj.mp q)))))))))))))))))))))))))
        · exact Or.inr (Or.inr (Or.inr (Or.inr (Or.inr (Or.inr (Or.inr (Or.inr (Or.inr (Or.inr (Or.inr (Or.inr (Or.inr (Or.inr (Or.inr (Or.inr (Or.inr (Or.inr (Or.inr (Or.inr (Or.inr (Or.inr (Or.inr (Or.inr (Or.inr (Or.inl (Int32.toInt_inj.mp q))))))))))))))))))))))))))
        · exact Or.inr (Or.inr (Or.inr (Or.inr (Or.inr (Or.inr (Or.inr (Or.inr (Or.inr (Or.inr (Or.inr (Or.inr (Or.inr (Or.inr (Or.inr (Or.inr (Or.inr (Or.inr (Or.inr (Or.inr (Or.inr (Or.inr (Or.inr (Or.inr (Or.inr (Or.inr (Or.inl (Int32.toInt_inj.mp q)))))))))))))))))))))))))))
        · exact Or.inr (Or.inr (Or.inr (Or.inr (Or.inr (Or.inr (Or.inr (Or.inr (Or.inr (Or.inr (Or.inr (Or.inr (Or.inr (Or.inr (Or.inr (Or.inr (Or.inr (Or.inr (Or.inr (Or.inr (Or.inr (Or.inr (Or.inr (Or.inr (Or.inr (Or.inr (Or.inr ((Int32.toInt_inj.mp q))))))))))))))))))))))))))))
      rcases hx with rfl | rfl | rfl | rfl | rfl | rfl | rfl | rfl | rfl | rfl | rfl | rfl | rfl | rfl | rfl | rfl | rfl | rfl | rfl | rfl | rfl | rfl | rfl | rfl | rfl | rfl | rfl | rfl
      · exact absurd rfl h0
      · exact absurd rfl h1
      · exact absurd rfl h2
      · exact absurd rfl h3
      · exact absurd rfl h4
      · rfl
      · rfl
      · exact absurd rfl h5
      · exact absurd rfl h6
      · exact absurd rfl h7
      · exact absurd rfl h8
      · exact absurd rfl h9
      · rfl
      · rfl
      · rfl
      · rfl
      · rfl
      · rfl
      · rfl
      · rfl
      · exact absurd rfl h10
      · rfl
      · exact absurd rfl h11
      · rfl
      · rfl
      · rfl
      · exact absurd rfl h12
      · exact absurd rfl h13
  simp only [sm_stp, e, sm_jm]
noncomputable def f_180 (K : Nat → Value) (k d : Nat) (l0 : Nat) (l1 : Int32) (w : aW) (I : aI) (J : aJ) : Option aR :=
  if l1 = 0 then
    gO w 6 l0 (
    gV w l0 36 fun q_1 =>
    gA w 10 20 q_1 2 (
    if ¬ (I q_1 (2 : Int32).toNatClampNeg) = 30 then
      some (some (.int 0), w, I, J)
    else
      some (some (.int 7), w, I, J)))
  else
  if l1 = 1 then
    gO w 6 l0 (
    gV w l0 36 fun q_2 =>
    gA w 10 20 q_2 2 (
    if ¬ (I q_2 (2 : Int32).toNatClampNeg) = 30 then
      some (some (.int 0), w, I, J)
    else
      some (some (.int 7), w, I, J)))
  else
  if l1 = 2 then
    gO w 6 l0 (
    gV w l0 36 fun q_3 =>
    gA w 10 20 q_3 2 (
    if ¬ (I q_3 (2 : Int32).toNatClampNeg) = 30 then
      some (some (.int 0), w, I, J)
    else
      some (some (.int 7), w, I, J)))
  else
  if l1 = 3 then
    gO w 6 l0 (
    gV w l0 36 fun q_4 =>
    gA w 10 20 q_4 2 (
    if ¬ (I q_4 (2 : Int32).toNatClampNeg) = 30 then
      some (some (.int 0), w, I, J)
    else
      some (some (.int 7), w, I, J)))
  else
  if l1 = 4 then
    gO w 6 l0 (
    gV w l0 36 fun q_5 =>
    gA w 10 20 q_5 1 (
    if ¬ (I q_5 (1 : Int32).toNatClampNeg) = 8 then
      some (some (.int 0), w, I, J)
    else
      some (some (.int 7), w, I, J)))
  else
  if l1 = 7 then
    gO w 6 l0 (
    cI (Cl K d 181 [.ref l0, .int 1] w I J) fun x_9 w_6 I_7 J_8 =>
    if ¬ x_9 = 0 then
      some (some (.int 0), w_6, I_7, J_8)
    else
      some (some (.int 4), w_6, I_7, J_8))
  else
  if l1 = 8 then
    gO w 6 l0 (
    cI (Cl K d 181 [.ref l0, .int 1] w I J) fun x_13 w_10 I_11 J_12 =>
    if ¬ x_13 = 0 then
      some (some (.int 0), w_10, I_11, J_12)
    else
      some (some (.int 4), w_10, I_11, J_12))
  else
  if l1 = 9 then
    gO w 6 l0 (
    cI (Cl K d 181 [.ref l0, .int 1] w I J) fun x_17 w_14 I_15 J_16 =>
    if ¬ x_17 = 0 then
      some (some (.int 0), w_14, I_15, J_16)
    else
      some (some (.int 4), w_14, I_15, J_16))
  else
  if l1 = 10 then
    gO w 6 l0 (
    cI (Cl K d 181 [.ref l0, .int 1] w I J) fun x_21 w_18 I_19 J_20 =>
    cI (Cl K d 19 [.int x_21, .int 0, .int 9] w_18 I_19 J_20) fun x_25 w_22 I_23 J_24 =>
    if x_25 = 0 then
      some (some (.int 5), w_22, I_23, J_24)
    else
      some (some (.int 0), w_22, I_23, J_24))
  else
  if l1 = 11 then
    gO w 6 l0 (
    cI (Cl K d 181 [.ref l0, .int 2] w I J) fun x_29 w_26 I_27 J_28 =>
    gO w_26 6 l0 (
    cI (Cl K d 181 [.ref l0, .int 1] w_26 I_27 J_28) fun x_33 w_30 I_31 J_32 =>
    gO w_30 6 l0 (
    cI (Cl K d 182 [.ref l0, .int x_29, .int x_33] w_30 I_31 J_32) fun x_37 w_34 I_35 J_36 =>
    some (some (.int x_37), w_34, I_35, J_36))))
  else
  if l1 = 20 then
    gO w 6 l0 (
    cI (Cl K d 181 [.ref l0, .int 1] w I J) fun x_41 w_38 I_39 J_40 =>
    if ¬ x_41 = 0 then
      some (some (.int 0), w_38, I_39, J_40)
    else
      some (some (.int 2), w_38, I_39, J_40))
  else
  if l1 = 22 then
    gO w 6 l0 (
    cI (Cl K d 181 [.ref l0, .int 3] w I J) fun x_45 w_42 I_43 J_44 =>
    gO w_42 6 l0 (
    cI (Cl K d 181 [.ref l0, .int 2] w_42 I_43 J_44) fun x_49 w_46 I_47 J_48 =>
    gO w_46 6 l0 (
    cI (Cl K d 182 [.ref l0, .int x_45, .int x_49] w_46 I_47 J_48) fun x_53 w_50 I_51 J_52 =>
    some (some (.int x_53), w_50, I_51, J_52))))
  else
  if l1 = 26 then
    gO w 6 l0 (
    gV w l0 36 fun q_54 =>
    gA w 10 20 q_54 3 (
    if ¬ (I q_54 (3 : Int32).toNatClampNeg) = 20 then
      some (some (.int 0), w, I, J)
    else
      some (some (.int 8), w, I, J)))
  else
  if l1 = 27 then
    gO w 6 l0 (
    gV w l0 36 fun q_55 =>
    gA w 10 20 q_55 2 (
    if ¬ (I q_55 (2 : Int32).toNatClampNeg) = 30 then
      some (some (.int 0), w, I, J)
    else
      some (some (.int 7), w, I, J)))
  else
  some (some (.int 0), w, I, J)
theorem ok_180 {K : Nat → Value} {k d : Nat} {l0 : Nat} {l1 : Int32} {w : aW} {I : aI} {J : aJ} {R : aR} (h : f_180 K k d l0 l1 w I J = some R) : Go K (d + 1) 180 0 [some (.ref l0), some (.int l1)] [] w I J R := by
  unfold f_180 at h
  refine gs_0 (pc' := 1) (L' := [some (.ref l0), some (.int l1)]) (st' := [.int l1]) cd_180_0 rfl rfl ?_
  by_cases hc0 : l1 = 0
  · rw [if_pos hc0] at h
    refine gs_0 (pc' := 128) (L' := [some (.ref l0), some (.int l1)]) (st' := []) cd_180_1 rfl (sw_180_1_0 hc0) ?_
    refine gs_0 (pc' := 129) (L' := [some (.ref l0), some (.int l1)]) (st' := [.ref l0]) cd_180_128 rfl rfl ?_
    obtain ⟨ht, h⟩ := gO_s h
    obtain ⟨q_1, hv, h⟩ := gV_s h
    refine gs_gfR cd_180_129 (by decide) ht hv ?_
    refine gs_0 (pc' := 133) (L' := [some (.ref l0), some (.int l1)]) (st' := [.int 2, .ref q_1]) cd_180_132 rfl rfl ?_
    obtain ⟨ht, h⟩ := gA_s h
    refine gs_iald cd_180_133 ht ?_
    refine gs_0 (pc' := 136) (L' := [some (.ref l0), some (.int l1)]) (st' := [.int 30, .int (I q_1 (2 : Int32).toNatClampNeg)]) cd_180_134 rfl rfl ?_
    refine gs_0 (pc' := if ¬ (I q_1 (2 : Int32).toNatClampNeg) = 30 then 144 else 139) (L' := [some (.ref l0), some (.int l1)]) (st' := []) cd_180_136 rfl rfl ?_
    refine go_ite (fun hc => ?_) (fun hc => ?_)
    · rw [if_pos hc] at h
      refine gs_0 (pc' := 145) (L' := [some (.ref l0), some (.int l1)]) (st' := [.int 0]) cd_180_144 rfl rfl ?_
      cases h
      exact gs_ri cd_180_145 (Or.inl rfl)
    · rw [if_neg hc] at h
      refine gs_0 (pc' := 141) (L' := [some (.ref l0), some (.int l1)]) (st' := [.int 7]) cd_180_139 rfl rfl ?_
      refine gs_0 (pc' := 145) (L' := [some (.ref l0), some (.int l1)]) (st' := [.int 7]) cd_180_141 rfl rfl ?_
      cases h
      exact gs_ri cd_180_145 (Or.inl rfl)
  · rw [if_neg hc0] at h
    by_cases hc1 : l1 = 1
    · rw [if_pos hc1] at h
      refine gs_0 (pc' := 128) (L' := [some (.ref l0), some (.int l1)]) (st' := []) cd_180_1 rfl (sw_180_1_1 hc1) ?_
      refine gs_0 (pc' := 129) (L' := [some (.ref l0), some (.int l1)]) (st' := [.ref l0]) cd_180_128 rfl rfl ?_
      obtain ⟨ht, h⟩ := gO_s h
      obtain ⟨q_2, hv, h⟩ := gV_s h
      refine gs_gfR cd_180_129 (by decide) ht hv ?_
      refine gs_0 (pc' := 133) (L' := [some (.ref l0), some (.int l1)]) (st' := [.int 2, .ref q_2]) cd_180_132 rfl rfl ?_
      obtain ⟨ht, h⟩ := gA_s h
      refine gs_iald cd_180_133 ht ?_
      refine gs_0 (pc' := 136) (L' := [some (.ref l0), some (.int l1)]) (st' := [.int 30, .int (I q_2 (2 : Int32).toNatClampNeg)]) cd_180_134 rfl rfl ?_
      refine gs_0 (pc' := if ¬ (I q_2 (2 : Int32).toNatClampNeg) = 30 then 144 else 139) (L' := [some (.ref l0), some (.int l1)]) (st' := []) cd_180_136 rfl rfl ?_
      refine go_ite (fun hc => ?_) (fun hc => ?_)
      · rw [if_pos hc] at h
        refine gs_0 (pc' := 145) (L' := [some (.ref l0), some (.int l1)]) (st' := [.int 0]) cd_180_144 rfl rfl ?_
        cases h
        exact gs_ri cd_180_145 (Or.inl rfl)
      · rw [if_neg hc] at h
        refine gs_0 (pc' := 141) (L' := [some (.ref l0), some (.int l1)]) (st' := [.int 7]) cd_180_139 rfl rfl ?_
        refine gs_0 (pc' := 145) (L' := [some (.ref l0), some (.int l1)]) (st' := [.int 7]) cd_180_141 rfl rfl ?_
        cases h
        exact gs_ri cd_180_145 (Or.inl rfl)
    · rw [if_neg hc1] at h
      by_cases hc2 : l1 = 2
      · rw [if_pos hc2] at h
        refine gs_0 (pc' := 128) (L' := [some (.ref l0), some (.int l1)]) (st' := []) cd_180_1 rfl (sw_180_1_2 hc2) ?_
        refine gs_0 (pc' := 129) (L' := [some (.ref l0), some (.int l1)]) (st' := [.ref l0]) cd_180_128 rfl rfl ?_
        obtain ⟨ht, h⟩ := gO_s h
        obtain ⟨q_3, hv, h⟩ := gV_s h
        refine gs_gfR cd_180_129 (by decide) ht hv ?_
        refine gs_0 (pc' := 133) (L' := [some (.ref l0), some (.int l1)]) (st' := [.int 2, .ref q_3]) cd_180_132 rfl rfl ?_
        obtain ⟨ht, h⟩ := gA_s h
        refine gs_iald cd_180_133 ht ?_
        refine gs_0 (pc' := 136) (L' := [some (.ref l0), some (.int l1)]) (st' := [.int 30, .int (I q_3 (2 : Int32).toNatClampNeg)]) cd_180_134 rfl rfl ?_
        refine gs_0 (pc' := if ¬ (I q_3 (2 : Int32).toNatClampNeg) = 30 then 144 else 139) (L' := [some (.ref l0), some (.int l1)]) (st' := []) cd_180_136 rfl rfl ?_
        refine go_ite (fun hc => ?_) (fun hc => ?_)
        · rw [if_pos hc] at h
          refine gs_0 (pc' := 145) (L' := [some (.ref l0), some (.int l1)]) (st' := [.int 0]) cd_180_144 rfl rfl ?_
          cases h
          exact gs_ri cd_180_145 (Or.inl rfl)
        · rw [if_neg hc] at h
          refine gs_0 (pc' := 141) (L' := [some (.ref l0), some (.int l1)]) (st' := [.int 7]) cd_180_139 rfl rfl ?_
          refine gs_0 (pc' := 145) (L' := [some (.ref l0), some (.int l1)]) (st' := [.int 7]) cd_180_141 rfl rfl ?_
          cases h
          exact gs_ri cd_180_145 (Or.inl rfl)
      · rw [if_neg hc2] at h
        by_cases hc3 : l1 = 3
        · rw [if_pos hc3] at h
          refine gs_0 (pc' := 128) (L' := [some (.ref l0), some (.int l1)]) (st' := []) cd_180_1 rfl (sw_180_1_3 hc3) ?_
          refine gs_0 (pc' := 129) (L' := [some (.ref l0), some (.int l1)]) (st' := [.ref l0]) cd_180_128 rfl rfl ?_
          obtain ⟨ht, h⟩ := gO_s h
          obtain ⟨q_4, hv, h⟩ := gV_s h
          refine gs_gfR cd_180_129 (by decide) ht hv ?_
          refine gs_0 (pc' := 133) (L' := [some (.ref l0), some (.int l1)]) (st' := [.int 2, .ref q_4]) cd_180_132 rfl rfl ?_
          obtain ⟨ht, h⟩ := gA_s h
          refine gs_iald cd_180_133 ht ?_
          refine gs_0 (pc' := 136) (L' := [some (.ref l0), some (.int l1)]) (st' := [.int 30, .int (I q_4 (2 : Int32).toNatClampNeg)]) cd_180_134 rfl rfl ?_
          refine gs_0 (pc' := if ¬ (I q_4 (2 : Int32).toNatClampNeg) = 30 then 144 else 139) (L' := [some (.ref l0), some (.int l1)]) (st' := []) cd_180_136 rfl rfl ?_
          refine go_ite (fun hc => ?_) (fun hc => ?_)
          · rw [if_pos hc] at h
            refine gs_0 (pc' := 145) (L' := [some (.ref l0), some (.int l1)]) (st' := [.int 0]) cd_180_144 rfl rfl ?_
            cases h
            exact gs_ri cd_180_145 (Or.inl rfl)
          · rw [if_neg hc] at h
            refine gs_0 (pc' := 141) (L' := [some (.ref l0), some (.int l1)]) (st' := [.int 7]) cd_180_139 rfl rfl ?_
            refine gs_0 (pc' := 145) (L' := [some (.ref l0), some (.int l1)]) (st' := [.int 7]) cd_180_141 rfl rfl ?_
            cases h
            exact gs_ri cd_180_145 (Or.inl rfl)
        · rw [if_neg hc3] at h
          by_cases hc4 : l1 = 4
          · rw [if_pos hc4] at h
            refine gs_0 (pc' := 146) (L' := [some (.ref l0), some (.int l1)]) (st' := []) cd_180_1 rfl (sw_180_1_4 hc4) ?_
            refine gs_0 (pc' := 147) (L' := [some (.ref l0), some (.int l1)]) (st' := [.ref l0]) cd_180_146 rfl rfl ?_
            obtain ⟨ht, h⟩ := gO_s h
            obtain ⟨q_5, hv, h⟩ := gV_s h
            refine gs_gfR cd_180_147 (by decide) ht hv ?_
            refine gs_0 (pc' := 151) (L' := [some (.ref l0), some (.int l1)]) (st' := [.int 1, .ref q_5]) cd_180_150 rfl rfl ?_
            obtain ⟨ht, h⟩ := gA_s h
            refine gs_iald cd_180_151 ht ?_
            refine gs_0 (pc' := 154) (L' := [some (.ref l0), some (.int l1)]) (st' := [.int 8, .int (I q_5 (1 : Int32).toNatClampNeg)]) cd_180_152 rfl rfl ?_
            refine gs_0 (pc' := if ¬ (I q_5 (1 : Int32).toNatClampNeg) = 8 then 162 else 157) (L' := [some (.ref l0), some (.int l1)]) (st' := []) cd_180_154 rfl rfl ?_
            refine go_ite (fun hc => ?_) (fun hc => ?_)
            · rw [if_pos hc] at h
              refine gs_0 (pc' := 163) (L' := [some (.ref l0), some (.int l1)]) (st' := [.int 0]) cd_180_162 rfl rfl ?_
              cases h
              exact gs_ri cd_180_163 (Or.inl rfl)
            · rw [if_neg hc] at h
              refine gs_0 (pc' := 159) (L' := [some (.ref l0), some (.int l1)]) (st' := [.int 7]) cd_180_157 rfl rfl ?_
              refine gs_0 (pc' := 163) (L' := [some (.ref l0), some (.int l1)]) (st' := [.int 7]) cd_180_159 rfl rfl ?_
              cases h
              exact gs_ri cd_180_163 (Or.inl rfl)
          · rw [if_neg hc4] at h
            by_cases hc5 : l1 = 7
            · rw [if_pos hc5] at h
              refine gs_0 (pc' := 164) (L' := [some (.ref l0), some (.int l1)]) (st' := []) cd_180_1 rfl (sw_180_1_5 hc5) ?_
              refine gs_0 (pc' := 165) (L' := [some (.ref l0), some (.int l1)]) (st' := [.ref l0]) cd_180_164 rfl rfl ?_
              refine gs_0 (pc' := 166) (L' := [some (.ref l0), some (.int l1)]) (st' := [.int 1, .ref l0]) cd_180_165 rfl rfl ?_
              obtain ⟨ht, h⟩ := gO_s h
              obtain ⟨x_9, w_6, I_7, J_8, hcl, h⟩ := cI_s h
              refine gs_call (as := [.ref l0, .int 1]) (rest := []) cd_180_166 rfl (by decide) rfl (sm_rv_ok (by decide) ht) (Nat.le_of_ble_eq_true rfl) (Nat.le_of_ble_eq_true rfl) rfl hcl ?_
              refine gs_0 (pc' := if ¬ x_9 = 0 then 176 else 172) (L' := [some (.ref l0), some (.int l1)]) (st' := []) cd_180_169 rfl rfl ?_
              refine go_ite (fun hc => ?_) (fun hc => ?_)
              · rw [if_pos hc] at h
                refine gs_0 (pc' := 177) (L' := [some (.ref l0), some (.int l1)]) (st' := [.int 0]) cd_180_176 rfl rfl ?_
                cases h
                exact gs_ri cd_180_177 (Or.inl rfl)
              · rw [if_neg hc] at h
                refine gs_0 (pc' := 173) (L' := [some (.ref l0), some (.int l1)]) (st' := [.int 4]) cd_180_172 rfl rfl ?_
                refine gs_0 (pc' := 177) (L' := [some (.ref l0), some (.int l1)]) (st' := [.int 4]) cd_180_173 rfl rfl ?_
                cases h
                exact gs_ri cd_180_177 (Or.inl rfl)
            · rw [if_neg hc5] at h
              by_cases hc6 : l1 = 8
              · rw [if_pos hc6] at h
                refine gs_0 (pc' := 164) (L' := [some (.ref l0), some (.int l1)]) (st' := []) cd_180_1 rfl (sw_180_1_6 hc6) ?_
                refine gs_0 (pc' := 165) (L' := [some (.ref l0), some (.int l1)]) (st' := [.ref l0]) cd_180_164 rfl rfl ?_
                refine gs_0 (pc' := 166) (L' := [some (.ref l0), some (.int l1)]) (st' := [.int 1, .ref l0]) cd_180_165 rfl rfl ?_
                obtain ⟨ht, h⟩ := gO_s h
                obtain ⟨x_13, w_10, I_11, J_12, hcl, h⟩ := cI_s h
                refine gs_call (as := [.ref l0, .int 1]) (rest := []) cd_180_166 rfl (by decide) rfl (sm_rv_ok (by decide) ht) (Nat.le_of_ble_eq_true rfl) (Nat.le_of_ble_eq_true rfl) rfl hcl ?_
                refine gs_0 (pc' := if ¬ x_13 = 0 then 176 else 172) (L' := [some (.ref l0), some (.int l1)]) (st' := []) cd_180_169 rfl rfl ?_
                refine go_ite (fun hc => ?_) (fun hc => ?_)
                · rw [if_pos hc] at h
                  refine gs_0 (pc' := 177) (L' := [some (.ref l0), some (.int l1)]) (st' := [.int 0]) cd_180_176 rfl rfl ?_
                  cases h
                  exact gs_ri cd_180_177 (Or.inl rfl)
                · rw [if_neg hc] at h
                  refine gs_0 (pc' := 173) (L' := [some (.ref l0), some (.int l1)]) (st' := [.int 4]) cd_180_172 rfl rfl ?_
                  refine gs_0 (pc' := 177) (L' := [some (.ref l0), some (.int l1)]) (st' := [.int 4]) cd_180_173 rfl rfl ?_
                  cases h
                  exact gs_ri cd_180_177 (Or.inl rfl)
              · rw [if_neg hc6] at h
                by_cases hc7 : l1 = 9
                · rw [if_pos hc7] at h
                  refine gs_0 (pc' := 164) (L' := [some (.ref l0), some (.int l1)]) (st' := []) cd_180_1 rfl (sw_180_1_7 hc7) ?_
                  refine gs_0 (pc' := 165) (L' := [some (.ref l0), some (.int l1)]) (st' := [.ref l0]) cd_180_164 rfl rfl ?_
                  refine gs_0 (pc' := 166) (L' := [some (.ref l0), some (.int l1)]) (st' := [.int 1, .ref l0]) cd_180_165 rfl rfl ?_
                  obtain ⟨ht, h⟩ := gO_s h
                  obtain ⟨x_17, w_14, I_15, J_16, hcl, h⟩ := cI_s h
                  refine gs_call (as := [.ref l0, .int 1]) (rest := []) cd_180_166 rfl (by decide) rfl (sm_rv_ok (by decide) ht) (Nat.le_of_ble_eq_true rfl) (Nat.le_of_ble_eq_true rfl) rfl hcl ?_
                  refine gs_0 (pc' := if ¬ x_17 = 0 then 176 else 172) (L' := [some (.ref l0), some (.int l1)]) (st' := []) cd_180_169 rfl rfl ?_
                  refine go_ite (fun hc => ?_) (fun hc => ?_)
                  · rw [if_pos hc] at h
                    refine gs_0 (pc' := 177) (L' := [some (.ref l0), some (.int l1)]) (st' := [.int 0]) cd_180_176 rfl rfl ?_
                    cases h
                    exact gs_ri cd_180_177 (Or.inl rfl)
                  · rw [if_neg hc] at h
                    refine gs_0 (pc' := 173) (L' := [some (.ref l0), some (.int l1)]) (st' := [.int 4]) cd_180_172 rfl rfl ?_
                    refine gs_0 (pc' := 177) (L' := [some (.ref l0), some (.int l1)]) (st' := [.int 4]) cd_180_173 rfl rfl ?_
                    cases h
                    exact gs_ri cd_180_177 (Or.inl rfl)
                · rw [if_neg hc7] at h
                  by_cases hc8 : l1 = 10
                  · rw [if_pos hc8] at h
                    refine gs_0 (pc' := 178) (L' := [some (.ref l0), some (.int l1)]) (st' := []) cd_180_1 rfl (sw_180_1_8 hc8) ?_
                    refine gs_0 (pc' := 179) (L' := [some (.ref l0), some (.int l1)]) (st' := [.ref l0]) cd_180_178 rfl rfl ?_
                    refine gs_0 (pc' := 180) (L' := [some (.ref l0), some (.int l1)]) (st' := [.int 1, .ref l0]) cd_180_179 rfl rfl ?_
                    obtain ⟨ht, h⟩ := gO_s h
                    obtain ⟨x_21, w_18, I_19, J_20, hcl, h⟩ := cI_s h
                    refine gs_call (as := [.ref l0, .int 1]) (rest := []) cd_180_180 rfl (by decide) rfl (sm_rv_ok (by decide) ht) (Nat.le_of_ble_eq_true rfl) (Nat.le_of_ble_eq_true rfl) rfl hcl ?_
                    refine gs_0 (pc' := 184) (L' := [some (.ref l0), some (.int l1)]) (st' := [.int 0, .int x_21]) cd_180_183 rfl rfl ?_
                    refine gs_0 (pc' := 186) (L' := [some (.ref l0), some (.int l1)]) (st' := [.int 9, .int 0, .int x_21]) cd_180_184 rfl rfl ?_
                    obtain ⟨x_25, w_22, I_23, J_24, hcl, h⟩ := cI_s h
                    refine gs_call (as := [.int x_21, .int 0, .int 9]) (rest := []) cd_180_186 rfl (by decide) rfl rfl (Nat.le_of_ble_eq_true rfl) (Nat.le_of_ble_eq_true rfl) rfl hcl ?_
                    refine gs_0 (pc' := if x_25 = 0 then 196 else 192) (L' := [some (.ref l0), some (.int l1)]) (st' := []) cd_180_189 rfl rfl ?_
                    refine go_ite (fun hc => ?_) (fun hc => ?_)
                    · rw [if_pos hc] at h
                      refine gs_0 (pc' := 197) (L' := [some (.ref l0), some (.int l1)]) (st' := [.int 5]) cd_180_196 rfl rfl ?_
                      cases h
                      exact gs_ri cd_180_197 (Or.inl rfl)
                    · rw [if_neg hc] at h
                      refine gs_0 (pc' := 193) (L' := [some (.ref l0), some (.int l1)]) (st' := [.int 0]) cd_180_192 rfl rfl ?_
                      refine gs_0 (pc' := 197) (L' := [some (.ref l0), some (.int l1)]) (st' := [.int 0]) cd_180_193 rfl rfl ?_
                      cases h
                      exact gs_ri cd_180_197 (Or.inl rfl)
                  · rw [if_neg hc8] at h
                    by_cases hc9 : l1 = 11
                    · rw [if_pos hc9] at h
                      refine gs_0 (pc' := 198) (L' := [some (.ref l0), some (.int l1)]) (st' := []) cd_180_1 rfl (sw_180_1_9 hc9) ?_
                      refine gs_0 (pc' := 199) (L' := [some (.ref l0), some (.int l1)]) (st' := [.ref l0]) cd_180_198 rfl rfl ?_
                      refine gs_0 (pc' := 200) (L' := [some (.ref l0), some (.int l1)]) (st' := [.ref l0, .ref l0]) cd_180_199 rfl rfl ?_
                      refine gs_0 (pc' := 201) (L' := [some (.ref l0), some (.int l1)]) (st' := [.int 2, .ref l0, .ref l0]) cd_180_200 rfl rfl ?_
                      obtain ⟨ht, h⟩ := gO_s h
                      obtain ⟨x_29, w_26, I_27, J_28, hcl, h⟩ := cI_s h
                      refine gs_call (as := [.ref l0, .int 2]) (rest := [.ref l0]) cd_180_201 rfl (by decide) rfl (sm_rv_ok (by decide) ht) (Nat.le_of_ble_eq_true rfl) (Nat.le_of_ble_eq_true rfl) rfl hcl ?_
                      refine gs_0 (pc' := 205) (L' := [some (.ref l0), some (.int l1)]) (st' := [.ref l0, .int x_29, .ref l0]) cd_180_204 rfl rfl ?_
                      refine gs_0 (pc' := 206) (L' := [some (.ref l0), some (.int l1)]) (st' := [.int 1, .ref l0, .int x_29, .ref l0]) cd_180_205 rfl rfl ?_
                      obtain ⟨ht, h⟩ := gO_s h
                      obtain ⟨x_33, w_30, I_31, J_32, hcl, h⟩ := cI_s h
                      refine gs_call (as := [.ref l0, .int 1]) (rest := [.int x_29, .ref l0]) cd_180_206 rfl (by decide) rfl (sm_rv_ok (by decide) ht) (Nat.le_of_ble_eq_true rfl) (Nat.le_of_ble_eq_true rfl) rfl hcl ?_
                      obtain ⟨ht, h⟩ := gO_s h
                      obtain ⟨x_37, w_34, I_35, J_36, hcl, h⟩ := cI_s h
                      refine gs_call (as := [.ref l0, .int x_29, .int x_33]) (rest := []) cd_180_209 rfl (by decide) rfl (sm_rv_ok (by decide) ht) (Nat.le_of_ble_eq_true rfl) (Nat.le_of_ble_eq_true rfl) rfl hcl ?_
                      cases h
                      exact gs_ri cd_180_212 (Or.inl rfl)
                    · rw [if_neg hc9] at h
                      by_cases hc10 : l1 = 20
                      · rw [if_pos hc10] at h
                        refine gs_0 (pc' := 213) (L' := [some (.ref l0), some (.int l1)]) (st' := []) cd_180_1 rfl (sw_180_1_10 hc10) ?_
                        refine gs_0 (pc' := 214) (L' := [some (.ref l0), some (.int l1)]) (st' := [.ref l0]) cd_180_213 rfl rfl ?_
                        refine gs_0 (pc' := 215) (L' := [some (.ref l0), some (.int l1)]) (st' := [.int 1, .ref l0]) cd_180_214 rfl rfl ?_
                        obtain ⟨ht, h⟩ := gO_s h
                        obtain ⟨x_41, w_38, I_39, J_40, hcl, h⟩ := cI_s h
                        refine gs_call (as := [.ref l0, .int 1]) (rest := []) cd_180_215 rfl (by decide) rfl (sm_rv_ok (by decide) ht) (Nat.le_of_ble_eq_true rfl) (Nat.le_of_ble_eq_true rfl) rfl hcl ?_
                        refine gs_0 (pc' := if ¬ x_41 = 0 then 225 else 221) (L' := [some (.ref l0), some (.int l1)]) (st' := []) cd_180_218 rfl rfl ?_
                        refine go_ite (fun hc => ?_) (fun hc => ?_)
                        · rw [if_pos hc] at h
                          refine gs_0 (pc' := 226) (L' := [some (.ref l0), some (.int l1)]) (st' := [.int 0]) cd_180_225 rfl rfl ?_
                          cases h
                          exact gs_ri cd_180_226 (Or.inl rfl)
                        · rw [if_neg hc] at h
                          refine gs_0 (pc' := 222) (L' := [some (.ref l0), some (.int l1)]) (st' := [.int 2]) cd_180_221 rfl rfl ?_
                          refine gs_0 (pc' := 226) (L' := [some (.ref l0), some (.int l1)]) (st' := [.int 2]) cd_180_222 rfl rfl ?_
                          cases h
                          exact gs_ri cd_180_226 (Or.inl rfl)
                      · rw [if_neg hc10] at h
                        by_cases hc11 : l1 = 22
                        · rw [if_pos hc11] at h
                          refine gs_0 (pc' := 227) (L' := [some (.ref l0), some (.int l1)]) (st' := []) cd_180_1 rfl (sw_180_1_11 hc11) ?_
                          refine gs_0 (pc' := 228) (L' := [some (.ref l0), some (.int l1)]) (st' := [.ref l0]) cd_180_227 rfl rfl ?_
                          refine gs_0 (pc' := 229) (L' := [some (.ref l0), some (.int l1)]) (st' := [.ref l0, .ref l0]) cd_180_228 rfl rfl ?_
                          refine gs_0 (pc' := 230) (L' := [some (.ref l0), some (.int l1)]) (st' := [.int 3, .ref l0, .ref l0]) cd_180_229 rfl rfl ?_
                          obtain ⟨ht, h⟩ := gO_s h
                          obtain ⟨x_45, w_42, I_43, J_44, hcl, h⟩ := cI_s h
                          refine gs_call (as := [.ref l0, .int 3]) (rest := [.ref l0]) cd_180_230 rfl (by decide) rfl (sm_rv_ok (by decide) ht) (Nat.le_of_ble_eq_true rfl) (Nat.le_of_ble_eq_true rfl) rfl hcl ?_
                          refine gs_0 (pc' := 234) (L' := [some (.ref l0), some (.int l1)]) (st' := [.ref l0, .int x_45, .ref l0]) cd_180_233 rfl rfl ?_
                          refine gs_0 (pc' := 235) (L' := [some (.ref l0), some (.int l1)]) (st' := [.int 2, .ref l0, .int x_45, .ref l0]) cd_180_234 rfl rfl ?_
                          obtain ⟨ht, h⟩ := gO_s h
                          obtain ⟨x_49, w_46, I_47, J_48, hcl, h⟩ := cI_s h
                          refine gs_call (as := [.ref l0, .int 2]) (rest := [.int x_45, .ref l0]) cd_180_235 rfl (by decide) rfl (sm_rv_ok (by decide) ht) (Nat.le_of_ble_eq_true rfl) (Nat.le_of_ble_eq_true rfl) rfl hcl ?_
                          obtain ⟨ht, h⟩ := gO_s h
                          obtain ⟨x_53, w_50, I_51, J_52, hcl, h⟩ := cI_s h
                          refine gs_call (as := [.ref l0, .int x_45, .int x_49]) (rest := []) cd_180_238 rfl (by decide) rfl (sm_rv_ok (by decide) ht) (Nat.le_of_ble_eq_true rfl) (Nat.le_of_ble_eq_true rfl) rfl hcl ?_
                          cases h
                          exact gs_ri cd_180_241 (Or.inl rfl)
                        · rw [if_neg hc11] at h
                          by_cases hc12 : l1 = 26
                          · rw [if_pos hc12] at h
                            refine gs_0 (pc' := 242) (L' := [some (.ref l0), some (.int l1)]) (st' := []) cd_180_1 rfl (sw_180_1_12 hc12) ?_
                            refine gs_0 (pc' := 243) (L' := [some (.ref l0), some (.int l1)]) (st' := [.ref l0]) cd_180_242 rfl rfl ?_
                            obtain ⟨ht, h⟩ := gO_s h
                            obtain ⟨q_54, hv, h⟩ := gV_s h
                            refine gs_gfR cd_180_243 (by decide) ht hv ?_
                            refine gs_0 (pc' := 247) (L' := [some (.ref l0), some (.int l1)]) (st' := [.int 3, .ref q_54]) cd_180_246 rfl rfl ?_
                            obtain ⟨ht, h⟩ := gA_s h
                            refine gs_iald cd_180_247 ht ?_
                            refine gs_0 (pc' := 250) (L' := [some (.ref l0), some (.int l1)]) (st' := [.int 20, .int (I q_54 (3 : Int32).toNatClampNeg)]) cd_180_248 rfl rfl ?_
                            refine gs_0 (pc' := if ¬ (I q_54 (3 : Int32).toNatClampNeg) = 20 then 258 else 253) (L' := [some (.ref l0), some (.int l1)]) (st' := []) cd_180_250 rfl rfl ?_
                            refine go_ite (fun hc => ?_) (fun hc => ?_)
                            · rw [if_pos hc] at h
                              refine gs_0 (pc' := 259) (L' := [some (.ref l0), some (.int l1)]) (st' := [.int 0]) cd_180_258 rfl rfl ?_
                              cases h
                              exact gs_ri cd_180_259 (Or.inl rfl)
                            · rw [if_neg hc] at h
                              refine gs_0 (pc' := 255) (L' := [some (.ref l0), some (.int l1)]) (st' := [.int 8]) cd_180_253 rfl rfl ?_
                              refine gs_0 (pc' := 259) (L' := [some (.ref l0), some (.int l1)]) (st' := [.int 8]) cd_180_255 rfl rfl ?_
                              cases h
                              exact gs_ri cd_180_259 (Or.inl rfl)
                          · rw [if_neg hc12] at h
                            by_cases hc13 : l1 = 27
                            · rw [if_pos hc13] at h
                              refine gs_0 (pc' := 128) (L' := [some (.ref l0), some (.int l1)]) (st' := []) cd_180_1 rfl (sw_180_1_13 hc13) ?_
                              refine gs_0 (pc' := 129) (L' := [some (.ref l0), some (.int l1)]) (st' := [.ref l0]) cd_180_128 rfl rfl ?_
                              obtain ⟨ht, h⟩ := gO_s h
                              obtain ⟨q_55, hv, h⟩ := gV_s h
                              refine gs_gfR cd_180_129 (by decide) ht hv ?_
                              refine gs_0 (pc' := 133) (L' := [some (.ref l0), some (.int l1)]) (st' := [.int 2, .ref q_55]) cd_180_132 rfl rfl ?_
                              obtain ⟨ht, h⟩ := gA_s h
                              refine gs_iald cd_180_133 ht ?_
                              refine gs_0 (pc' := 136) (L' := [some (.ref l0), some (.int l1)]) (st' := [.int 30, .int (I q_55 (2 : Int32).toNatClampNeg)]) cd_180_134 rfl rfl ?_
                              refine gs_0 (pc' := if ¬ (I q_55 (2 : Int32).toNatClampNeg) = 30 then 144 else 139) (L' := [some (.ref l0), some (.int l1)]) (st' := []) cd_180_136 rfl rfl ?_
                              refine go_ite (fun hc => ?_) (fun hc => ?_)
                              · rw [if_pos hc] at h
                                refine gs_0 (pc' := 145) (L' := [some (.ref l0), some (.int l1)]) (st' := [.int 0]) cd_180_144 rfl rfl ?_
                                cases h
                                exact gs_ri cd_180_145 (Or.inl rfl)
                              · rw [if_neg hc] at h
                                refine gs_0 (pc' := 141) (L' := [some (.ref l0), some (.int l1)]) (st' := [.int 7]) cd_180_139 rfl rfl ?_
                                refine gs_0 (pc' := 145) (L' := [some (.ref l0), some (.int l1)]) (st' := [.int 7]) cd_180_141 rfl rfl ?_
                                cases h
                                exact gs_ri cd_180_145 (Or.inl rfl)
                            · rw [if_neg hc13] at h
                              refine gs_0 (pc' := 260) (L' := [some (.ref l0), some (.int l1)]) (st' := []) cd_180_1 rfl (sw_180_1_d hc0 hc1 hc2 hc3 hc4 hc5 hc6 hc7 hc8 hc9 hc10 hc11 hc12 hc13) ?_
                              refine gs_0 (pc' := 261) (L' := [some (.ref l0), some (.int l1)]) (st' := [.int 0]) cd_180_260 rfl rfl ?_
                              cases h
                              exact gs_ri cd_180_261 (Or.inl rfl)
theorem cl_180 {K : Nat → Value} {k d : Nat} {l0 : Nat} {l1 : Int32} {w : aW} {I : aI} {J : aJ} {R : aR} (h : f_180 K k d l0 l1 w I J = some R) : Cl K (d + 1) 180 [.ref l0, .int l1] w I J = some R := Cl_of (ok_180 h)
/-! ProvedMachineModel.value(I)I -/
set_option maxRecDepth 20000 in
theorem gl_181 : gcd.lookup 181 = some gw_181 := rfl
theorem cd_181_0 : sm_cd 181 0 = some (.aload_n 0, 1, 0, 0, 0, 0, 0, 0, 0) := cd_of gl_181 rfl
theorem cd_181_1 : sm_cd 181 1 = some (.getfield 111, 3, 6, 36, 2, 0, 0, 0, 0) := cd_of gl_181 rfl
theorem cd_181_4 : sm_cd 181 4 = some (.bipush 10, 2, 0, 0, 0, 0, 0, 10, 0) := cd_of gl_181 rfl
theorem cd_181_6 : sm_cd 181 6 = some (.aload_n 0, 1, 0, 0, 0, 0, 0, 0, 0) := cd_of gl_181 rfl
theorem cd_181_7 : sm_cd 181 7 = some (.getfield 111, 3, 6, 36, 2, 0, 0, 0, 0) := cd_of gl_181 rfl
theorem cd_181_10 : sm_cd 181 10 = some (.iconst 2, 1, 0, 0, 0, 0, 0, 2, 0) := cd_of gl_181 rfl
theorem cd_181_11 : sm_cd 181 11 = some (.iaload, 1, 0, 0, 0, 0, 0, 0, 0) := cd_of gl_181 rfl
theorem cd_181_12 : sm_cd 181 12 = some (.iadd, 1, 0, 0, 0, 0, 0, 0, 0) := cd_of gl_181 rfl
theorem cd_181_13 : sm_cd 181 13 = some (.iload_n 1, 1, 1, 0, 0, 0, 0, 0, 0) := cd_of gl_181 rfl
theorem cd_181_14 : sm_cd 181 14 = some (.isub, 1, 0, 0, 0, 0, 0, 0, 0) := cd_of gl_181 rfl
theorem cd_181_15 : sm_cd 181 15 = some (.iaload, 1, 0, 0, 0, 0, 0, 0, 0) := cd_of gl_181 rfl
theorem cd_181_16 : sm_cd 181 16 = some (.ireturn, 1, 0, 0, 1, 0, 0, 0, 0) := cd_of gl_181 rfl
noncomputable def f_181 (K : Nat → Value) (k d : Nat) (l0 : Nat) (l1 : Int32) (w : aW) (I : aI) (J : aJ) : Option aR :=
  gO w 6 l0 (
  gV w l0 36 fun q_1 =>
  gO w 6 l0 (
  gV w l0 36 fun q_2 =>
  gA w 10 20 q_2 2 (
  gA w 10 20 q_1 ((10 + (I q_2 (2 : Int32).toNatClampNeg)) - l1) (
  some (some (.int (I q_1 ((10 + (I q_2 (2 : Int32).toNatClampNeg)) - l1 : Int32).toNatClampNeg)), w, I, J)))))
theorem ok_181 {K : Nat → Value} {k d : Nat} {l0 : Nat} {l1 : Int32} {w : aW} {I : aI} {J : aJ} {R : aR} (h : f_181 K k d l0 l1 w I J = some R) : Go K (d + 1) 181 0 [some (.ref l0), some (.int l1)] [] w I J R := by
  unfold f_181 at h
  refine gs_0 (pc' := 1) (L' := [some (.ref l0), some (.int l1)]) (st' := [.ref l0]) cd_181_0 rfl rfl ?_
  obtain ⟨ht, h⟩ := gO_s h
  obtain ⟨q_1, hv, h⟩ := gV_s h
  refine gs_gfR cd_181_1 (by decide) ht hv ?_
  refine gs_0 (pc' := 6) (L' := [some (.ref l0), some (.int l1)]) (st' := [.int 10, .ref q_1]) cd_181_4 rfl rfl ?_
  refine gs_0 (pc' := 7) (L' := [some (.ref l0), some (.int l1)]) (st' := [.ref l0, .int 10, .ref q_1]) cd_181_6 rfl rfl ?_
  obtain ⟨ht, h⟩ := gO_s h
  obtain ⟨q_2, hv, h⟩ := gV_s h
  refine gs_gfR cd_181_7 (by decide) ht hv ?_
  refine gs_0 (pc' := 11) (L' := [some (.ref l0), some (.int l1)]) (st' := [.int 2, .ref q_2, .int 10, .ref q_1]) cd_181_10 rfl rfl ?_
  obtain ⟨ht, h⟩ := gA_s h
  refine gs_iald cd_181_11 ht ?_
  refine gs_0 (pc' := 13) (L' := [some (.ref l0), some (.int l1)]) (st' := [.int (10 + (I q_2 (2 : Int32).toNatClampNeg)), .ref q_1]) cd_181_12 rfl rfl ?_
  refine gs_0 (pc' := 14) (L' := [some (.ref l0), some (.int l1)]) (st' := [.int l1, .int (10 + (I q_2 (2 : Int32).toNatClampNeg)), .ref q_1]) cd_181_13 rfl rfl ?_
  refine gs_0 (pc' := 15) (L' := [some (.ref l0), some (.int l1)]) (st' := [.int ((10 + (I q_2 (2 : Int32).toNatClampNeg)) - l1), .ref q_1]) cd_181_14 rfl rfl ?_
  obtain ⟨ht, h⟩ := gA_s h
  refine gs_iald cd_181_15 ht ?_
  cases h
  exact gs_ri cd_181_16 (Or.inl rfl)
theorem cl_181 {K : Nat → Value} {k d : Nat} {l0 : Nat} {l1 : Int32} {w : aW} {I : aI} {J : aJ} {R : aR} (h : f_181 K k d l0 l1 w I J = some R) : Cl K (d + 1) 181 [.ref l0, .int l1] w I J = some R := Cl_of (ok_181 h)
/-! ProvedMachineModel.noPlace(II)I -/
set_option maxRecDepth 20000 in
theorem gl_182 : gcd.lookup 182 = some gw_182 := rfl
theorem cd_182_0 : sm_cd 182 0 = some (.iload_n 1, 1, 1, 0, 0, 0, 0, 0, 0) := cd_of gl_182 rfl
theorem cd_182_1 : sm_cd 182 1 = some (.ifCond .ne 7, 3, 8, 0, 0, 0, 0, 0, 0) := cd_of gl_182 rfl
theorem cd_182_4 : sm_cd 182 4 = some (.iconst 4, 1, 0, 0, 0, 0, 0, 4, 0) := cd_of gl_182 rfl
theorem cd_182_5 : sm_cd 182 5 = some (.goto 28, 3, 33, 0, 0, 0, 0, 0, 0) := cd_of gl_182 rfl
theorem cd_182_8 : sm_cd 182 8 = some (.iload_n 2, 1, 2, 0, 0, 0, 0, 0, 0) := cd_of gl_182 rfl
theorem cd_182_9 : sm_cd 182 9 = some (.iconst 0, 1, 0, 0, 0, 0, 0, 0, 0) := cd_of gl_182 rfl
theorem cd_182_10 : sm_cd 182 10 = some (.aload_n 0, 1, 0, 0, 0, 0, 0, 0, 0) := cd_of gl_182 rfl
theorem cd_182_11 : sm_cd 182 11 = some (.getfield 111, 3, 6, 36, 2, 0, 0, 0, 0) := cd_of gl_182 rfl
theorem cd_182_14 : sm_cd 182 14 = some (.iload_n 1, 1, 1, 0, 0, 0, 0, 0, 0) := cd_of gl_182 rfl
theorem cd_182_15 : sm_cd 182 15 = some (.iconst 1, 1, 0, 0, 0, 0, 0, 1, 0) := cd_of gl_182 rfl
theorem cd_182_16 : sm_cd 182 16 = some (.invokestatic 366, 3, 183, 1, 2, 2, 6, 0, 0) := cd_of gl_182 rfl
theorem cd_182_19 : sm_cd 182 19 = some (.iaload, 1, 0, 0, 0, 0, 0, 0, 0) := cd_of gl_182 rfl
theorem cd_182_20 : sm_cd 182 20 = some (.iconst 1, 1, 0, 0, 0, 0, 0, 1, 0) := cd_of gl_182 rfl
theorem cd_182_21 : sm_cd 182 21 = some (.isub, 1, 0, 0, 0, 0, 0, 0, 0) := cd_of gl_182 rfl
theorem cd_182_22 : sm_cd 182 22 = some (.invokestatic 144, 3, 19, 1, 3, 3, 6, 0, 0) := cd_of gl_182 rfl
theorem cd_182_25 : sm_cd 182 25 = some (.ifCond .eq 7, 3, 32, 0, 0, 0, 0, 0, 0) := cd_of gl_182 rfl
theorem cd_182_28 : sm_cd 182 28 = some (.iconst 0, 1, 0, 0, 0, 0, 0, 0, 0) := cd_of gl_182 rfl
theorem cd_182_29 : sm_cd 182 29 = some (.goto 4, 3, 33, 0, 0, 0, 0, 0, 0) := cd_of gl_182 rfl
theorem cd_182_32 : sm_cd 182 32 = some (.iconst 3, 1, 0, 0, 0, 0, 0, 3, 0) := cd_of gl_182 rfl
theorem cd_182_33 : sm_cd 182 33 = some (.ireturn, 1, 0, 0, 1, 0, 0, 0, 0) := cd_of gl_182 rfl
noncomputable def f_182 (K : Nat → Value) (k d : Nat) (l0 : Nat) (l1 : Int32) (l2 : Int32) (w : aW) (I : aI) (J : aJ) : Option aR :=
  if ¬ l1 = 0 then
    gO w 6 l0 (
    gV w l0 36 fun q_1 =>
    cI (Cl K d 183 [.int l1, .int 1] w I J) fun x_5 w_2 I_3 J_4 =>
    gA w_2 10 20 q_1 x_5 (
    cI (Cl K d 19 [.int l2, .int 0, .int ((I_3 q_1 (x_5 : Int32).toNatClampNeg) - 1)] w_2 I_3 J_4) fun x_9 w_6 I_7 J_8 =>
    if x_9 = 0 then
      some (some (.int 3), w_6, I_7, J_8)
    else
      some (some (.int 0), w_6, I_7, J_8)))
  else
    some (some (.int 4), w, I, J)
theorem ok_182 {K : Nat → Value} {k d : Nat} {l0 : Nat} {l1 : Int32} {l2 : Int32} {w : aW} {I : aI} {J : aJ} {R : aR} (h : f_182 K k d l0 l1 l2 w I J = some R) : Go K (d + 1) 182 0 [some (.ref l0), some (.int l1), some (.int l2)] [] w I J R := by
  unfold f_182 at h
  refine gs_0 (pc' := 1) (L' := [some (.ref l0), some (.int l1), some (.int l2)]) (st' := [.int l1]) cd_182_0 rfl rfl ?_
  refine gs_0 (pc' := if ¬ l1 = 0 then 8 else 4) (L' := [some (.ref l0), some (.int l1), some (.int l2)]) (st' := []) cd_182_1 rfl rfl ?_
  refine go_ite (fun hc => ?_) (fun hc => ?_)
  · rw [if_pos hc] at h
    refine gs_0 (pc' := 9) (L' := [some (.ref l0), some (.int l1), some (.int l2)]) (st' := [.int l2]) cd_182_8 rfl rfl ?_
    refine gs_0 (pc' := 10) (L' := [some (.ref l0), some (.int l1), some (.int l2)]) (st' := [.int 0, .int l2]) cd_182_9 rfl rfl ?_
    refine gs_0 (pc' := 11) (L' := [some (.ref l0), some (.int l1), some (.int l2)]) (st' := [.ref l0, .int 0, .int l2]) cd_182_10 rfl rfl ?_
    obtain ⟨ht, h⟩ := gO_s h
    obtain ⟨q_1, hv, h⟩ := gV_s h
    refine gs_gfR cd_182_11 (by decide) ht hv ?_
    refine gs_0 (pc' := 15) (L' := [some (.ref l0), some (.int l1), some (.int l2)]) (st' := [.int l1, .ref q_1, .int 0, .int l2]) cd_182_14 rfl rfl ?_
    refine gs_0 (pc' := 16) (L' := [some (.ref l0), some (.int l1), some (.int l2)]) (st' := [.int 1, .int l1, .ref q_1, .int 0, .int l2]) cd_182_15 rfl rfl ?_
    obtain ⟨x_5, w_2, I_3, J_4, hcl, h⟩ := cI_s h
    refine gs_call (as := [.int l1, .int 1]) (rest := [.ref q_1, .int 0, .int l2]) cd_182_16 rfl (by decide) rfl rfl (Nat.le_of_ble_eq_true rfl) (Nat.le_of_ble_eq_true rfl) rfl hcl ?_
    obtain ⟨ht, h⟩ := gA_s h
    refine gs_iald cd_182_19 ht ?_
    refine gs_0 (pc' := 21) (L' := [some (.ref l0), some (.int l1), some (.int l2)]) (st' := [.int 1, .int (I_3 q_1 (x_5 : Int32).toNatClampNeg), .int 0, .int l2]) cd_182_20 rfl rfl ?_
    refine gs_0 (pc' := 22) (L' := [some (.ref l0), some (.int l1), some (.int l2)]) (st' := [.int ((I_3 q_1 (x_5 : Int32).toNatClampNeg) - 1), .int 0, .int l2]) cd_182_21 rfl rfl ?_
    obtain ⟨x_9, w_6, I_7, J_8, hcl, h⟩ := cI_s h
    refine gs_call (as := [.int l2, .int 0, .int ((I_3 q_1 (x_5 : Int32).toNatClampNeg) - 1)]) (rest := []) cd_182_22 rfl (by decide) rfl rfl (Nat.le_of_ble_eq_true rfl) (Nat.le_of_ble_eq_true rfl) rfl hcl ?_
    refine gs_0 (pc' := if x_9 = 0 then 32 else 28) (L' := [some (.ref l0), some (.int l1), some (.int l2)]) (st' := []) cd_182_25 rfl rfl ?_
    refine go_ite (fun hc => ?_) (fun hc => ?_)
    · rw [if_pos hc] at h
      refine gs_0 (pc' := 33) (L' := [some (.ref l0), some (.int l1), some (.int l2)]) (st' := [.int 3]) cd_182_32 rfl rfl ?_
      cases h
      exact gs_ri cd_182_33 (Or.inl rfl)
    · rw [if_neg hc] at h
      refine gs_0 (pc' := 29) (L' := [some (.ref l0), some (.int l1), some (.int l2)]) (st' := [.int 0]) cd_182_28 rfl rfl ?_
      refine gs_0 (pc' := 33) (L' := [some (.ref l0), some (.int l1), some (.int l2)]) (st' := [.int 0]) cd_182_29 rfl rfl ?_
      cases h
      exact gs_ri cd_182_33 (Or.inl rfl)
  · rw [if_neg hc] at h
    refine gs_0 (pc' := 5) (L' := [some (.ref l0), some (.int l1), some (.int l2)]) (st' := [.int 4]) cd_182_4 rfl rfl ?_
    refine gs_0 (pc' := 33) (L' := [some (.ref l0), some (.int l1), some (.int l2)]) (st' := [.int 4]) cd_182_5 rfl rfl ?_
    cases h
    exact gs_ri cd_182_33 (Or.inl rfl)
theorem cl_182 {K : Nat → Value} {k d : Nat} {l0 : Nat} {l1 : Int32} {l2 : Int32} {w : aW} {I : aI} {J : aJ} {R : aR} (h : f_182 K k d l0 l1 l2 w I J = some R) : Cl K (d + 1) 182 [.ref l0, .int l1, .int l2] w I J = some R := Cl_of (ok_182 h)
/-! ProvedMachineModel.ofObject(II)I -/
set_option maxRecDepth 20000 in
theorem gl_183 : gcd.lookup 183 = some gw_183 := rfl
theorem cd_183_0 : sm_cd 183 0 = some (.sipush 154, 3, 0, 0, 0, 0, 0, 154, 0) := cd_of gl_183 rfl
theorem cd_183_3 : sm_cd 183 3 = some (.bipush 12, 2, 0, 0, 0, 0, 0, 12, 0) := cd_of gl_183 rfl
theorem cd_183_5 : sm_cd 183 5 = some (.iload_n 0, 1, 0, 0, 0, 0, 0, 0, 0) := cd_of gl_183 rfl
theorem cd_183_6 : sm_cd 183 6 = some (.imul, 1, 0, 0, 0, 0, 0, 0, 0) := cd_of gl_183 rfl
theorem cd_183_7 : sm_cd 183 7 = some (.iadd, 1, 0, 0, 0, 0, 0, 0, 0) := cd_of gl_183 rfl
theorem cd_183_8 : sm_cd 183 8 = some (.iload_n 1, 1, 1, 0, 0, 0, 0, 0, 0) := cd_of gl_183 rfl
theorem cd_183_9 : sm_cd 183 9 = some (.iadd, 1, 0, 0, 0, 0, 0, 0, 0) := cd_of gl_183 rfl
theorem cd_183_10 : sm_cd 183 10 = some (.ireturn, 1, 0, 0, 1, 0, 0, 0, 0) := cd_of gl_183 rfl
noncomputable def f_183 (K : Nat → Value) (k d : Nat) (l0 : Int32) (l1 : Int32) (w : aW) (I : aI) (J : aJ) : Option aR :=
  some (some (.int ((154 + (12 * l0)) + l1)), w, I, J)
theorem ok_183 {K : Nat → Value} {k d : Nat} {l0 : Int32} {l1 : Int32} {w : aW} {I : aI} {J : aJ} {R : aR} (h : f_183 K k d l0 l1 w I J = some R) : Go K (d + 1) 183 0 [some (.int l0), some (.int l1)] [] w I J R := by
  unfold f_183 at h
  refine gs_0 (pc' := 3) (L' := [some (.int l0), some (.int l1)]) (st' := [.int 154]) cd_183_0 rfl rfl ?_
  refine gs_0 (pc' := 5) (L' := [some (.int l0), some (.int l1)]) (st' := [.int 12, .int 154]) cd_183_3 rfl rfl ?_
  refine gs_0 (pc' := 6) (L' := [some (.int l0), some (.int l1)]) (st' := [.int l0, .int 12, .int 154]) cd_183_5 rfl rfl ?_
  refine gs_0 (pc' := 7) (L' := [some (.int l0), some (.int l1)]) (st' := [.int (12 * l0), .int 154]) cd_183_6 rfl rfl ?_
  refine gs_0 (pc' := 8) (L' := [some (.int l0), some (.int l1)]) (st' := [.int (154 + (12 * l0))]) cd_183_7 rfl rfl ?_
  refine gs_0 (pc' := 9) (L' := [some (.int l0), some (.int l1)]) (st' := [.int l1, .int (154 + (12 * l0))]) cd_183_8 rfl rfl ?_
  refine gs_0 (pc' := 10) (L' := [some (.int l0), some (.int l1)]) (st' := [.int ((154 + (12 * l0)) + l1)]) cd_183_9 rfl rfl ?_
  cases h
  exact gs_ri cd_183_10 (Or.inl rfl)
theorem cl_183 {K : Nat → Value} {k d : Nat} {l0 : Int32} {l1 : Int32} {w : aW} {I : aI} {J : aJ} {R : aR} (h : f_183 K k d l0 l1 w I J = some R) : Cl K (d + 1) 183 [.int l0, .int l1] w I J = some R := Cl_of (ok_183 h)

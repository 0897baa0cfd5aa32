/-! methods as functions, by own program (wip/whole/gen_f.py) -/
/-! ProvedMachine$Program.argumentAt(I)I -/
set_option maxRecDepth 20000 in
theorem gl_126 : gcd.lookup 126 = some gw_126 := rfl
theorem cd_126_0 : sm_cd 126 0 = some (.aload_n 0, 1, 0, 0, 0, 0, 0, 0, 0) := cd_of gl_126 rfl
theorem cd_126_1 : sm_cd 126 1 = some (.iload_n 1, 1, 1, 0, 0, 0, 0, 0, 0) := cd_of gl_126 rfl
theorem cd_126_2 : sm_cd 126 2 = some (.invokevirtual 45, 3, 61, 0, 1, 2, 1, 0, 0) := cd_of gl_126 rfl
theorem cd_126_5 : sm_cd 126 5 = some (.ifCond .eq 12, 3, 17, 0, 0, 0, 0, 0, 0) := cd_of gl_126 rfl
theorem cd_126_8 : sm_cd 126 8 = some (.aload_n 0, 1, 0, 0, 0, 0, 0, 0, 0) := cd_of gl_126 rfl
theorem cd_126_9 : sm_cd 126 9 = some (.getfield 15, 3, 1, 1, 2, 0, 0, 0, 0) := cd_of gl_126 rfl
theorem cd_126_12 : sm_cd 126 12 = some (.iload_n 1, 1, 1, 0, 0, 0, 0, 0, 0) := cd_of gl_126 rfl
theorem cd_126_13 : sm_cd 126 13 = some (.iaload, 1, 0, 0, 0, 0, 0, 0, 0) := cd_of gl_126 rfl
theorem cd_126_14 : sm_cd 126 14 = some (.goto 4, 3, 18, 0, 0, 0, 0, 0, 0) := cd_of gl_126 rfl
theorem cd_126_17 : sm_cd 126 17 = some (.iconst 0, 1, 0, 0, 0, 0, 0, 0, 0) := cd_of gl_126 rfl
theorem cd_126_18 : sm_cd 126 18 = some (.ireturn, 1, 0, 0, 1, 0, 0, 0, 0) := cd_of gl_126 rfl
noncomputable def f_126 (K : Nat → Value) (k d : Nat) (l0 : Nat) (l1 : Int32) (w : aW) (I : aI) (J : aJ) : Option aR :=
  gO w 1 l0 (
  cI (Cl K d 61 [.ref l0, .int l1] w I J) fun x_4 w_1 I_2 J_3 =>
  if x_4 = 0 then
    some (some (.int 0), w_1, I_2, J_3)
  else
    gO w_1 1 l0 (
    gV w_1 l0 1 fun q_5 =>
    gA w_1 10 20 q_5 l1 (
    some (some (.int (I_2 q_5 (l1 : Int32).toNatClampNeg)), w_1, I_2, J_3))))
theorem ok_126 {K : Nat → Value} {k d : Nat} {l0 : Nat} {l1 : Int32} {w : aW} {I : aI} {J : aJ} {R : aR} (h : f_126 K k d l0 l1 w I J = some R) : Go K (d + 1) 126 0 [some (.ref l0), some (.int l1)] [] w I J R := by
  unfold f_126 at h
  refine gs_0 (pc' := 1) (L' := [some (.ref l0), some (.int l1)]) (st' := [.ref l0]) cd_126_0 rfl rfl ?_
  refine gs_0 (pc' := 2) (L' := [some (.ref l0), some (.int l1)]) (st' := [.int l1, .ref l0]) cd_126_1 rfl rfl ?_
  obtain ⟨ht, h⟩ := gO_s h
  obtain ⟨x_4, w_1, I_2, J_3, hcl, h⟩ := cI_s h
  refine gs_call (as := [.ref l0, .int l1]) (rest := []) cd_126_2 rfl (by decide) rfl (sm_rv_ok (by decide) ht) (Nat.le_of_ble_eq_true rfl) (Nat.le_of_ble_eq_true rfl) rfl hcl ?_
  refine gs_0 (pc' := if x_4 = 0 then 17 else 8) (L' := [some (.ref l0), some (.int l1)]) (st' := []) cd_126_5 rfl rfl ?_
  refine go_ite (fun hc => ?_) (fun hc => ?_)
  · rw [if_pos hc] at h
    refine gs_0 (pc' := 18) (L' := [some (.ref l0), some (.int l1)]) (st' := [.int 0]) cd_126_17 rfl rfl ?_
    cases h
    exact gs_ri cd_126_18 (Or.inl rfl)
  · rw [if_neg hc] at h
    refine gs_0 (pc' := 9) (L' := [some (.ref l0), some (.int l1)]) (st' := [.ref l0]) cd_126_8 rfl rfl ?_
    obtain ⟨ht, h⟩ := gO_s h
    obtain ⟨q_5, hv, h⟩ := gV_s h
    refine gs_gfR cd_126_9 (by decide) ht hv ?_
    refine gs_0 (pc' := 13) (L' := [some (.ref l0), some (.int l1)]) (st' := [.int l1, .ref q_5]) cd_126_12 rfl rfl ?_
    obtain ⟨ht, h⟩ := gA_s h
    refine gs_iald cd_126_13 ht ?_
    refine gs_0 (pc' := 18) (L' := [some (.ref l0), some (.int l1)]) (st' := [.int (I_2 q_5 (l1 : Int32).toNatClampNeg)]) cd_126_14 rfl rfl ?_
    cases h
    exact gs_ri cd_126_18 (Or.inl rfl)
theorem cl_126 {K : Nat → Value} {k d : Nat} {l0 : Nat} {l1 : Int32} {w : aW} {I : aI} {J : aJ} {R : aR} (h : f_126 K k d l0 l1 w I J = some R) : Cl K (d + 1) 126 [.ref l0, .int l1] w I J = some R := Cl_of (ok_126 h)
/-! ProvedMachine$Program.opAt(I)I -/
set_option maxRecDepth 20000 in
theorem gl_127 : gcd.lookup 127 = some gw_127 := rfl
theorem cd_127_0 : sm_cd 127 0 = some (.aload_n 0, 1, 0, 0, 0, 0, 0, 0, 0) := cd_of gl_127 rfl
theorem cd_127_1 : sm_cd 127 1 = some (.iload_n 1, 1, 1, 0, 0, 0, 0, 0, 0) := cd_of gl_127 rfl
theorem cd_127_2 : sm_cd 127 2 = some (.invokevirtual 45, 3, 61, 0, 1, 2, 1, 0, 0) := cd_of gl_127 rfl
theorem cd_127_5 : sm_cd 127 5 = some (.ifCond .eq 12, 3, 17, 0, 0, 0, 0, 0, 0) := cd_of gl_127 rfl
theorem cd_127_8 : sm_cd 127 8 = some (.aload_n 0, 1, 0, 0, 0, 0, 0, 0, 0) := cd_of gl_127 rfl
theorem cd_127_9 : sm_cd 127 9 = some (.getfield 11, 3, 1, 0, 2, 0, 0, 0, 0) := cd_of gl_127 rfl
theorem cd_127_12 : sm_cd 127 12 = some (.iload_n 1, 1, 1, 0, 0, 0, 0, 0, 0) := cd_of gl_127 rfl
theorem cd_127_13 : sm_cd 127 13 = some (.iaload, 1, 0, 0, 0, 0, 0, 0, 0) := cd_of gl_127 rfl
theorem cd_127_14 : sm_cd 127 14 = some (.goto 4, 3, 18, 0, 0, 0, 0, 0, 0) := cd_of gl_127 rfl
theorem cd_127_17 : sm_cd 127 17 = some (.iconst (-1), 1, 0, 0, 0, 0, 0, (-1), 0) := cd_of gl_127 rfl
theorem cd_127_18 : sm_cd 127 18 = some (.ireturn, 1, 0, 0, 1, 0, 0, 0, 0) := cd_of gl_127 rfl
noncomputable def f_127 (K : Nat → Value) (k d : Nat) (l0 : Nat) (l1 : Int32) (w : aW) (I : aI) (J : aJ) : Option aR :=
  gO w 1 l0 (
  cI (Cl K d 61 [.ref l0, .int l1] w I J) fun x_4 w_1 I_2 J_3 =>
  if x_4 = 0 then
    some (some (.int (-1)), w_1, I_2, J_3)
  else
    gO w_1 1 l0 (
    gV w_1 l0 0 fun q_5 =>
    gA w_1 10 20 q_5 l1 (
    some (some (.int (I_2 q_5 (l1 : Int32).toNatClampNeg)), w_1, I_2, J_3))))
theorem ok_127 {K : Nat → Value} {k d : Nat} {l0 : Nat} {l1 : Int32} {w : aW} {I : aI} {J : aJ} {R : aR} (h : f_127 K k d l0 l1 w I J = some R) : Go K (d + 1) 127 0 [some (.ref l0), some (.int l1)] [] w I J R := by
  unfold f_127 at h
  refine gs_0 (pc' := 1) (L' := [some (.ref l0), some (.int l1)]) (st' := [.ref l0]) cd_127_0 rfl rfl ?_
  refine gs_0 (pc' := 2) (L' := [some (.ref l0), some (.int l1)]) (st' := [.int l1, .ref l0]) cd_127_1 rfl rfl ?_
  obtain ⟨ht, h⟩ := gO_s h
  obtain ⟨x_4, w_1, I_2, J_3, hcl, h⟩ := cI_s h
  refine gs_call (as := [.ref l0, .int l1]) (rest := []) cd_127_2 rfl (by decide) rfl (sm_rv_ok (by decide) ht) (Nat.le_of_ble_eq_true rfl) (Nat.le_of_ble_eq_true rfl) rfl hcl ?_
  refine gs_0 (pc' := if x_4 = 0 then 17 else 8) (L' := [some (.ref l0), some (.int l1)]) (st' := []) cd_127_5 rfl rfl ?_
  refine go_ite (fun hc => ?_) (fun hc => ?_)
  · rw [if_pos hc] at h
    refine gs_0 (pc' := 18) (L' := [some (.ref l0), some (.int l1)]) (st' := [.int ((-1))]) cd_127_17 rfl rfl ?_
    cases h
    exact gs_ri cd_127_18 (Or.inl rfl)
  · rw [if_neg hc] at h
    refine gs_0 (pc' := 9) (L' := [some (.ref l0), some (.int l1)]) (st' := [.ref l0]) cd_127_8 rfl rfl ?_
    obtain ⟨ht, h⟩ := gO_s h
    obtain ⟨q_5, hv, h⟩ := gV_s h
    refine gs_gfR cd_127_9 (by decide) ht hv ?_
    refine gs_0 (pc' := 13) (L' := [some (.ref l0), some (.int l1)]) (st' := [.int l1, .ref q_5]) cd_127_12 rfl rfl ?_
    obtain ⟨ht, h⟩ := gA_s h
    refine gs_iald cd_127_13 ht ?_
    refine gs_0 (pc' := 18) (L' := [some (.ref l0), some (.int l1)]) (st' := [.int (I_2 q_5 (l1 : Int32).toNatClampNeg)]) cd_127_14 rfl rfl ?_
    cases h
    exact gs_ri cd_127_18 (Or.inl rfl)
theorem cl_127 {K : Nat → Value} {k d : Nat} {l0 : Nat} {l1 : Int32} {w : aW} {I : aI} {J : aJ} {R : aR} (h : f_127 K k d l0 l1 w I J = some R) : Cl K (d + 1) 127 [.ref l0, .int l1] w I J = some R := Cl_of (ok_127 h)
/-! ProvedMachineModel.code(IZ)J -/
set_option maxRecDepth 20000 in
theorem gl_128 : gcd.lookup 128 = some gw_128 := rfl
theorem cd_128_0 : sm_cd 128 0 = some (.aload_n 0, 1, 0, 0, 0, 0, 0, 0, 0) := cd_of gl_128 rfl
theorem cd_128_1 : sm_cd 128 1 = some (.iload_n 1, 1, 1, 0, 0, 0, 0, 0, 0) := cd_of gl_128 rfl
theorem cd_128_2 : sm_cd 128 2 = some (.invokevirtual 339, 3, 129, 0, 1, 2, 6, 0, 0) := cd_of gl_128 rfl
theorem cd_128_5 : sm_cd 128 5 = some (.ifCond .ne 9, 3, 14, 0, 0, 0, 0, 0, 0) := cd_of gl_128 rfl
theorem cd_128_8 : sm_cd 128 8 = some (.aload_n 0, 1, 0, 0, 0, 0, 0, 0, 0) := cd_of gl_128 rfl
theorem cd_128_9 : sm_cd 128 9 = some (.iconst 1, 1, 0, 0, 0, 0, 0, 1, 0) := cd_of gl_128 rfl
theorem cd_128_10 : sm_cd 128 10 = some (.invokevirtual 148, 3, 20, 0, 1, 2, 6, 0, 0) := cd_of gl_128 rfl
theorem cd_128_13 : sm_cd 128 13 = some (.lreturn, 1, 0, 0, 0, 0, 0, 0, 0) := cd_of gl_128 rfl
theorem cd_128_14 : sm_cd 128 14 = some (.iload_n 2, 1, 2, 0, 0, 0, 0, 0, 0) := cd_of gl_128 rfl
theorem cd_128_15 : sm_cd 128 15 = some (.ifCond .eq 13, 3, 28, 0, 0, 0, 0, 0, 0) := cd_of gl_128 rfl
theorem cd_128_18 : sm_cd 128 18 = some (.aload_n 0, 1, 0, 0, 0, 0, 0, 0, 0) := cd_of gl_128 rfl
theorem cd_128_19 : sm_cd 128 19 = some (.getfield 53, 3, 6, 20, 2, 0, 0, 0, 0) := cd_of gl_128 rfl
theorem cd_128_22 : sm_cd 128 22 = some (.iload_n 1, 1, 1, 0, 0, 0, 0, 0, 0) := cd_of gl_128 rfl
theorem cd_128_23 : sm_cd 128 23 = some (.iaload, 1, 0, 0, 0, 0, 0, 0, 0) := cd_of gl_128 rfl
theorem cd_128_24 : sm_cd 128 24 = some (.i2l, 1, 0, 0, 0, 0, 0, 0, 0) := cd_of gl_128 rfl
theorem cd_128_25 : sm_cd 128 25 = some (.goto 10, 3, 35, 0, 0, 0, 0, 0, 0) := cd_of gl_128 rfl
theorem cd_128_28 : sm_cd 128 28 = some (.aload_n 0, 1, 0, 0, 0, 0, 0, 0, 0) := cd_of gl_128 rfl
theorem cd_128_29 : sm_cd 128 29 = some (.getfield 50, 3, 6, 19, 2, 0, 0, 0, 0) := cd_of gl_128 rfl
theorem cd_128_32 : sm_cd 128 32 = some (.iload_n 1, 1, 1, 0, 0, 0, 0, 0, 0) := cd_of gl_128 rfl
theorem cd_128_33 : sm_cd 128 33 = some (.iaload, 1, 0, 0, 0, 0, 0, 0, 0) := cd_of gl_128 rfl
theorem cd_128_34 : sm_cd 128 34 = some (.i2l, 1, 0, 0, 0, 0, 0, 0, 0) := cd_of gl_128 rfl
theorem cd_128_35 : sm_cd 128 35 = some (.lreturn, 1, 0, 0, 0, 0, 0, 0, 0) := cd_of gl_128 rfl
noncomputable def f_128 (K : Nat → Value) (k d : Nat) (l0 : Nat) (l1 : Int32) (l2 : Int32) (w : aW) (I : aI) (J : aJ) : Option aR :=
  gO w 6 l0 (
  cI (Cl K d 129 [.ref l0, .int l1] w I J) fun x_4 w_1 I_2 J_3 =>
  if ¬ x_4 = 0 then
    if l2 = 0 then
      gO w_1 6 l0 (
      gV w_1 l0 19 fun q_5 =>
      gA w_1 10 20 q_5 l1 (
      some (some (.long ((I_2 q_5 (l1 : Int32).toNatClampNeg : Int32).toInt64)), w_1, I_2, J_3)))
    else
      gO w_1 6 l0 (
      gV w_1 l0 20 fun q_6 =>
      gA w_1 10 20 q_6 l1 (
      some (some (.long ((I_2 q_6 (l1 : Int32).toNatClampNeg : Int32).toInt64)), w_1, I_2, J_3)))
  else
    gO w_1 6 l0 (
    cJ (Cl K d 20 [.ref l0, .int 1] w_1 I_2 J_3) fun v_10 w_7 I_8 J_9 =>
    some (some (.long v_10), w_7, I_8, J_9)))
theorem ok_128 {K : Nat → Value} {k d : Nat} {l0 : Nat} {l1 : Int32} {l2 : Int32} {w : aW} {I : aI} {J : aJ} {R : aR} (h : f_128 K k d l0 l1 l2 w I J = some R) : Go K (d + 1) 128 0 [some (.ref l0), some (.int l1), some (.int l2)] [] w I J R := by
  unfold f_128 at h
  refine gs_0 (pc' := 1) (L' := [some (.ref l0), some (.int l1), some (.int l2)]) (st' := [.ref l0]) cd_128_0 rfl rfl ?_
  refine gs_0 (pc' := 2) (L' := [some (.ref l0), some (.int l1), some (.int l2)]) (st' := [.int l1, .ref l0]) cd_128_1 rfl rfl ?_
  obtain ⟨ht, h⟩ := gO_s h
  obtain ⟨x_4, w_1, I_2, J_3, hcl, h⟩ := cI_s h
  refine gs_call (as := [.ref l0, .int l1]) (rest := []) cd_128_2 rfl (by decide) rfl (sm_rv_ok (by decide) ht) (Nat.le_of_ble_eq_true rfl) (Nat.le_of_ble_eq_true rfl) rfl hcl ?_
  refine gs_0 (pc' := if ¬ x_4 = 0 then 14 else 8) (L' := [some (.ref l0), some (.int l1), some (.int l2)]) (st' := []) cd_128_5 rfl rfl ?_
  refine go_ite (fun hc => ?_) (fun hc => ?_)
  · rw [if_pos hc] at h
    refine gs_0 (pc' := 15) (L' := [some (.ref l0), some (.int l1), some (.int l2)]) (st' := [.int l2]) cd_128_14 rfl rfl ?_
    refine gs_0 (pc' := if l2 = 0 then 28 else 18) (L' := [some (.ref l0), some (.int l1), some (.int l2)]) (st' := []) cd_128_15 rfl rfl ?_
    refine go_ite (fun hc => ?_) (fun hc => ?_)
    · rw [if_pos hc] at h
      refine gs_0 (pc' := 29) (L' := [some (.ref l0), some (.int l1), some (.int l2)]) (st' := [.ref l0]) cd_128_28 rfl rfl ?_
      obtain ⟨ht, h⟩ := gO_s h
      obtain ⟨q_5, hv, h⟩ := gV_s h
      refine gs_gfR cd_128_29 (by decide) ht hv ?_
      refine gs_0 (pc' := 33) (L' := [some (.ref l0), some (.int l1), some (.int l2)]) (st' := [.int l1, .ref q_5]) cd_128_32 rfl rfl ?_
      obtain ⟨ht, h⟩ := gA_s h
      refine gs_iald cd_128_33 ht ?_
      refine gs_0 (pc' := 35) (L' := [some (.ref l0), some (.int l1), some (.int l2)]) (st' := [.long ((I_2 q_5 (l1 : Int32).toNatClampNeg : Int32).toInt64)]) cd_128_34 rfl rfl ?_
      cases h
      exact gsr cd_128_35 rfl rfl
    · rw [if_neg hc] at h
      refine gs_0 (pc' := 19) (L' := [some (.ref l0), some (.int l1), some (.int l2)]) (st' := [.ref l0]) cd_128_18 rfl rfl ?_
      obtain ⟨ht, h⟩ := gO_s h
      obtain ⟨q_6, hv, h⟩ := gV_s h
      refine gs_gfR cd_128_19 (by decide) ht hv ?_
      refine gs_0 (pc' := 23) (L' := [some (.ref l0), some (.int l1), some (.int l2)]) (st' := [.int l1, .ref q_6]) cd_128_22 rfl rfl ?_
      obtain ⟨ht, h⟩ := gA_s h
      refine gs_iald cd_128_23 ht ?_
      refine gs_0 (pc' := 25) (L' := [some (.ref l0), some (.int l1), some (.int l2)]) (st' := [.long ((I_2 q_6 (l1 : Int32).toNatClampNeg : Int32).toInt64)]) cd_128_24 rfl rfl ?_
      refine gs_0 (pc' := 35) (L' := [some (.ref l0), some (.int l1), some (.int l2)]) (st' := [.long ((I_2 q_6 (l1 : Int32).toNatClampNeg : Int32).toInt64)]) cd_128_25 rfl rfl ?_
      cases h
      exact gsr cd_128_35 rfl rfl
  · rw [if_neg hc] at h
    refine gs_0 (pc' := 9) (L' := [some (.ref l0), some (.int l1), some (.int l2)]) (st' := [.ref l0]) cd_128_8 rfl rfl ?_
    refine gs_0 (pc' := 10) (L' := [some (.ref l0), some (.int l1), some (.int l2)]) (st' := [.int 1, .ref l0]) cd_128_9 rfl rfl ?_
    obtain ⟨ht, h⟩ := gO_s h
    obtain ⟨v_10, w_7, I_8, J_9, hcl, h⟩ := cJ_s h
    refine gs_call (as := [.ref l0, .int 1]) (rest := []) cd_128_10 rfl (by decide) rfl (sm_rv_ok (by decide) ht) (Nat.le_of_ble_eq_true rfl) (Nat.le_of_ble_eq_true rfl) rfl hcl ?_
    cases h
    exact gsr cd_128_13 rfl rfl
theorem cl_128 {K : Nat → Value} {k d : Nat} {l0 : Nat} {l1 : Int32} {l2 : Int32} {w : aW} {I : aI} {J : aJ} {R : aR} (h : f_128 K k d l0 l1 l2 w I J = some R) : Cl K (d + 1) 128 [.ref l0, .int l1, .int l2] w I J = some R := Cl_of (ok_128 h)
/-! ProvedMachineModel.isPlace(I)Z -/
set_option maxRecDepth 20000 in
theorem gl_129 : gcd.lookup 129 = some gw_129 := rfl
theorem cd_129_0 : sm_cd 129 0 = some (.iload_n 1, 1, 1, 0, 0, 0, 0, 0, 0) := cd_of gl_129 rfl
theorem cd_129_1 : sm_cd 129 1 = some (.iconst 0, 1, 0, 0, 0, 0, 0, 0, 0) := cd_of gl_129 rfl
theorem cd_129_2 : sm_cd 129 2 = some (.aload_n 0, 1, 0, 0, 0, 0, 0, 0, 0) := cd_of gl_129 rfl
theorem cd_129_3 : sm_cd 129 3 = some (.getfield 330, 3, 6, 17, 0, 0, 0, 0, 0) := cd_of gl_129 rfl
theorem cd_129_6 : sm_cd 129 6 = some (.iconst 1, 1, 0, 0, 0, 0, 0, 1, 0) := cd_of gl_129 rfl
theorem cd_129_7 : sm_cd 129 7 = some (.isub, 1, 0, 0, 0, 0, 0, 0, 0) := cd_of gl_129 rfl
theorem cd_129_8 : sm_cd 129 8 = some (.invokestatic 144, 3, 19, 1, 3, 3, 6, 0, 0) := cd_of gl_129 rfl
theorem cd_129_11 : sm_cd 129 11 = some (.ireturn, 1, 0, 0, 2, 0, 0, 0, 0) := cd_of gl_129 rfl
noncomputable def f_129 (K : Nat → Value) (k d : Nat) (l0 : Nat) (l1 : Int32) (w : aW) (I : aI) (J : aJ) : Option aR :=
  gO w 6 l0 (
  cI (Cl K d 19 [.int l1, .int 0, .int ((I l0 17) - 1)] w I J) fun x_4 w_1 I_2 J_3 =>
  gC (x_4 = 0 ∨ x_4 = 1) (
  some (some (.int x_4), w_1, I_2, J_3)))
theorem ok_129 {K : Nat → Value} {k d : Nat} {l0 : Nat} {l1 : Int32} {w : aW} {I : aI} {J : aJ} {R : aR} (h : f_129 K k d l0 l1 w I J = some R) : Go K (d + 1) 129 0 [some (.ref l0), some (.int l1)] [] w I J R := by
  unfold f_129 at h
  refine gs_0 (pc' := 1) (L' := [some (.ref l0), some (.int l1)]) (st' := [.int l1]) cd_129_0 rfl rfl ?_
  refine gs_0 (pc' := 2) (L' := [some (.ref l0), some (.int l1)]) (st' := [.int 0, .int l1]) cd_129_1 rfl rfl ?_
  refine gs_0 (pc' := 3) (L' := [some (.ref l0), some (.int l1)]) (st' := [.ref l0, .int 0, .int l1]) cd_129_2 rfl rfl ?_
  obtain ⟨ht, h⟩ := gO_s h
  refine gs_gfI cd_129_3 (by decide) (by decide) ht ?_
  refine gs_0 (pc' := 7) (L' := [some (.ref l0), some (.int l1)]) (st' := [.int 1, .int (I l0 17), .int 0, .int l1]) cd_129_6 rfl rfl ?_
  refine gs_0 (pc' := 8) (L' := [some (.ref l0), some (.int l1)]) (st' := [.int ((I l0 17) - 1), .int 0, .int l1]) cd_129_7 rfl rfl ?_
  obtain ⟨x_4, w_1, I_2, J_3, hcl, h⟩ := cI_s h
  refine gs_call (as := [.int l1, .int 0, .int ((I l0 17) - 1)]) (rest := []) cd_129_8 rfl (by decide) rfl rfl (Nat.le_of_ble_eq_true rfl) (Nat.le_of_ble_eq_true rfl) rfl hcl ?_
  obtain ⟨hc, h⟩ := gC_s h
  cases h
  exact gs_ri cd_129_11 (Or.inr (Or.inl ⟨rfl, hc⟩))
theorem cl_129 {K : Nat → Value} {k d : Nat} {l0 : Nat} {l1 : Int32} {w : aW} {I : aI} {J : aJ} {R : aR} (h : f_129 K k d l0 l1 w I J = some R) : Cl K (d + 1) 129 [.ref l0, .int l1] w I J = some R := Cl_of (ok_129 h)
/-! ProvedMachine.as(II)J -/
set_option maxRecDepth 20000 in
theorem gl_130 : gcd.lookup 130 = some gw_130 := rfl
theorem cd_130_0 : sm_cd 130 0 = some (.aload_n 0, 1, 0, 0, 0, 0, 0, 0, 0) := cd_of gl_130 rfl
theorem cd_130_1 : sm_cd 130 1 = some (.getfield 27, 3, 5, 3, 2, 0, 0, 0, 0) := cd_of gl_130 rfl
theorem cd_130_4 : sm_cd 130 4 = some (.iload_n 1, 1, 1, 0, 0, 0, 0, 0, 0) := cd_of gl_130 rfl
theorem cd_130_5 : sm_cd 130 5 = some (.invokevirtual 83, 3, 61, 0, 1, 2, 1, 0, 0) := cd_of gl_130 rfl
theorem cd_130_8 : sm_cd 130 8 = some (.ifCond .eq 12, 3, 20, 0, 0, 0, 0, 0, 0) := cd_of gl_130 rfl
theorem cd_130_11 : sm_cd 130 11 = some (.iload_n 2, 1, 2, 0, 0, 0, 0, 0, 0) := cd_of gl_130 rfl
theorem cd_130_12 : sm_cd 130 12 = some (.ifCond .lt 8, 3, 20, 0, 0, 0, 0, 0, 0) := cd_of gl_130 rfl
theorem cd_130_15 : sm_cd 130 15 = some (.iload_n 2, 1, 2, 0, 0, 0, 0, 0, 0) := cd_of gl_130 rfl
theorem cd_130_16 : sm_cd 130 16 = some (.iconst 3, 1, 0, 0, 0, 0, 0, 3, 0) := cd_of gl_130 rfl
theorem cd_130_17 : sm_cd 130 17 = some (.if_icmp .le 9, 3, 26, 0, 0, 0, 0, 0, 0) := cd_of gl_130 rfl
theorem cd_130_20 : sm_cd 130 20 = some (.aload_n 0, 1, 0, 0, 0, 0, 0, 0, 0) := cd_of gl_130 rfl
theorem cd_130_21 : sm_cd 130 21 = some (.iconst 1, 1, 0, 0, 0, 0, 0, 1, 0) := cd_of gl_130 rfl
theorem cd_130_22 : sm_cd 130 22 = some (.invokevirtual 60, 3, 17, 0, 1, 2, 5, 0, 0) := cd_of gl_130 rfl
theorem cd_130_25 : sm_cd 130 25 = some (.lreturn, 1, 0, 0, 0, 0, 0, 0, 0) := cd_of gl_130 rfl
theorem cd_130_26 : sm_cd 130 26 = some (.aload_n 0, 1, 0, 0, 0, 0, 0, 0, 0) := cd_of gl_130 rfl
theorem cd_130_27 : sm_cd 130 27 = some (.getfield 27, 3, 5, 3, 2, 0, 0, 0, 0) := cd_of gl_130 rfl
theorem cd_130_30 : sm_cd 130 30 = some (.iload_n 1, 1, 1, 0, 0, 0, 0, 0, 0) := cd_of gl_130 rfl
theorem cd_130_31 : sm_cd 130 31 = some (.invokevirtual 90, 3, 127, 0, 1, 2, 1, 0, 0) := cd_of gl_130 rfl
theorem cd_130_34 : sm_cd 130 34 = some (.istore_n 3, 1, 3, 0, 0, 0, 0, 0, 0) := cd_of gl_130 rfl
theorem cd_130_35 : sm_cd 130 35 = some (.iload_n 3, 1, 3, 0, 0, 0, 0, 0, 0) := cd_of gl_130 rfl
theorem cd_130_36 : sm_cd 130 36 = some (.iload_n 2, 1, 2, 0, 0, 0, 0, 0, 0) := cd_of gl_130 rfl
theorem cd_130_37 : sm_cd 130 37 = some (.invokestatic 93, 3, 131, 1, 2, 2, 5, 0, 0) := cd_of gl_130 rfl
theorem cd_130_40 : sm_cd 130 40 = some (.ifCond .eq 8, 3, 48, 0, 0, 0, 0, 0, 0) := cd_of gl_130 rfl
theorem cd_130_43 : sm_cd 130 43 = some (.iload_n 3, 1, 3, 0, 0, 0, 0, 0, 0) := cd_of gl_130 rfl
theorem cd_130_44 : sm_cd 130 44 = some (.i2l, 1, 0, 0, 0, 0, 0, 0, 0) := cd_of gl_130 rfl
theorem cd_130_45 : sm_cd 130 45 = some (.goto 8, 3, 53, 0, 0, 0, 0, 0, 0) := cd_of gl_130 rfl
theorem cd_130_48 : sm_cd 130 48 = some (.aload_n 0, 1, 0, 0, 0, 0, 0, 0, 0) := cd_of gl_130 rfl
theorem cd_130_49 : sm_cd 130 49 = some (.iconst 4, 1, 0, 0, 0, 0, 0, 4, 0) := cd_of gl_130 rfl
theorem cd_130_50 : sm_cd 130 50 = some (.invokevirtual 60, 3, 17, 0, 1, 2, 5, 0, 0) := cd_of gl_130 rfl
theorem cd_130_53 : sm_cd 130 53 = some (.lreturn, 1, 0, 0, 0, 0, 0, 0, 0) := cd_of gl_130 rfl
noncomputable def f_130_20 (K : Nat → Value) (k d : Nat) (l0 : Nat) (l1 : Int32) (l2 : Int32) (w : aW) (I : aI) (J : aJ) : Option aR :=
  gO w 5 l0 (
  cJ (Cl K d 17 [.ref l0, .int 1] w I J) fun v_4 w_1 I_2 J_3 =>
  some (some (.long v_4), w_1, I_2, J_3))
theorem ok_130_20 {K : Nat → Value} {k d : Nat} {l0 : Nat} {l1 : Int32} {l2 : Int32} {w : aW} {I : aI} {J : aJ} {R : aR} (h : f_130_20 K k d l0 l1 l2 w I J = some R) : Go K (d + 1) 130 20 [some (.ref l0), some (.int l1), some (.int l2), none] [] w I J R := by
  unfold f_130_20 at h
  refine gs_0 (pc' := 21) (L' := [some (.ref l0), some (.int l1), some (.int l2), none]) (st' := [.ref l0]) cd_130_20 rfl rfl ?_
  refine gs_0 (pc' := 22) (L' := [some (.ref l0), some (.int l1), some (.int l2), none]) (st' := [.int 1, .ref l0]) cd_130_21 rfl rfl ?_
  obtain ⟨ht, h⟩ := gO_s h
  obtain ⟨v_4, w_1, I_2, J_3, hcl, h⟩ := cJ_s h
  refine gs_call (as := [.ref l0, .int 1]) (rest := []) cd_130_22 rfl (by decide) rfl (sm_rv_ok (by decide) ht) (Nat.le_of_ble_eq_true rfl) (Nat.le_of_ble_eq_true rfl) rfl hcl ?_
  cases h
  exact gsr cd_130_25 rfl rfl
noncomputable def f_130 (K : Nat → Value) (k d : Nat) (l0 : Nat) (l1 : Int32) (l2 : Int32) (w : aW) (I : aI) (J : aJ) : Option aR :=
  gO w 5 l0 (
  gV w l0 3 fun q_1 =>
  gO w 1 q_1 (
  cI (Cl K d 61 [.ref q_1, .int l1] w I J) fun x_5 w_2 I_3 J_4 =>
  if x_5 = 0 then
    f_130_20 K k d l0 l1 l2 w_2 I_3 J_4
  else
    if l2 < 0 then
      f_130_20 K k d l0 l1 l2 w_2 I_3 J_4
    else
      if l2 ≤ 3 then
        gO w_2 5 l0 (
        gV w_2 l0 3 fun q_6 =>
        gO w_2 1 q_6 (
        cI (Cl K d 127 [.ref q_6, .int l1] w_2 I_3 J_4) fun x_10 w_7 I_8 J_9 =>
        cI (Cl K d 131 [.int x_10, .int l2] w_7 I_8 J_9) fun x_14 w_11 I_12 J_13 =>
        if x_14 = 0 then
          gO w_11 5 l0 (
          cJ (Cl K d 17 [.ref l0, .int 4] w_11 I_12 J_13) fun v_18 w_15 I_16 J_17 =>
          some (some (.long v_18), w_15, I_16, J_17))
        else
          some (some (.long ((x_10 : Int32).toInt64)), w_11, I_12, J_13)))
      else
        f_130_20 K k d l0 l1 l2 w_2 I_3 J_4))
theorem ok_130 {K : Nat → Value} {k d : Nat} {l0 : Nat} {l1 : Int32} {l2 : Int32} {w : aW} {I : aI} {J : aJ} {R : aR} (h : f_130 K k d l0 l1 l2 w I J = some R) : Go K (d + 1) 130 0 [some (.ref l0), some (.int l1), some (.int l2), none] [] w I J R := by
  unfold f_130 at h
  refine gs_0 (pc' := 1) (L' := [some (.ref l0), some (.int l1), some (.int l2), none]) (st' := [.ref l0]) cd_130_0 rfl rfl ?_
  obtain ⟨ht, h⟩ := gO_s h
  obtain ⟨q_1, hv, h⟩ := gV_s h
  refine gs_gfR cd_130_1 (by decide) ht hv ?_
  refine gs_0 (pc' := 5) (L' := [some (.ref l0), some (.int l1), some (.int l2), none]) (st' := [.int l1, .ref q_1]) cd_130_4 rfl rfl ?_
  obtain ⟨ht, h⟩ := gO_s h
  obtain ⟨x_5, w_2, I_3, J_4, hcl, h⟩ := cI_s h
  refine gs_call (as := [.ref q_1, .int l1]) (rest := []) cd_130_5 rfl (by decide) rfl (sm_rv_ok (by decide) ht) (Nat.le_of_ble_eq_true rfl) (Nat.le_of_ble_eq_true rfl) rfl hcl ?_
  refine gs_0 (pc' := if x_5 = 0 then 20 else 11) (L' := [some (.ref l0), some (.int l1), some (.int l2), none]) (st' := []) cd_130_8 rfl rfl ?_
  refine go_ite (fun hc => ?_) (fun hc => ?_)
  · rw [if_pos hc] at h
    exact ok_130_20 h
  · rw [if_neg hc] at h
    refine gs_0 (pc' := 12) (L' := [some (.ref l0), some (.int l1), some (.int l2), none]) (st' := [.int l2]) cd_130_11 rfl rfl ?_
    refine gs_0 (pc' := if l2 < 0 then 20 else 15) (L' := [some (.ref l0), some (.int l1), some (.int l2), none]) (st' := []) cd_130_12 rfl rfl ?_
    refine go_ite (fun hc => ?_) (fun hc => ?_)
    · rw [if_pos hc] at h
      exact ok_130_20 h
    · rw [if_neg hc] at h
      refine gs_0 (pc' := 16) (L' := [some (.ref l0), some (.int l1), some (.int l2), none]) (st' := [.int l2]) cd_130_15 rfl rfl ?_
      refine gs_0 (pc' := 17) (L' := [some (.ref l0), some (.int l1), some (.int l2), none]) (st' := [.int 3, .int l2]) cd_130_16 rfl rfl ?_
      refine gs_0 (pc' := if l2 ≤ 3 then 26 else 20) (L' := [some (.ref l0), some (.int l1), some (.int l2), none]) (st' := []) cd_130_17 rfl rfl ?_
      refine go_ite (fun hc => ?_) (fun hc => ?_)
      · rw [if_pos hc] at h
        refine gs_0 (pc' := 27) (L' := [some (.ref l0), some (.int l1), some (.int l2), none]) (st' := [.ref l0]) cd_130_26 rfl rfl ?_
        obtain ⟨ht, h⟩ := gO_s h
        obtain ⟨q_6, hv, h⟩ := gV_s h
        refine gs_gfR cd_130_27 (by decide) ht hv ?_
        refine gs_0 (pc' := 31) (L' := [some (.ref l0), some (.int l1), some (.int l2), none]) (st' := [.int l1, .ref q_6]) cd_130_30 rfl rfl ?_
        obtain ⟨ht, h⟩ := gO_s h
        obtain ⟨x_10, w_7, I_8, J_9, hcl, h⟩ := cI_s h
        refine gs_call (as := [.ref q_6, .int l1]) (rest := []) cd_130_31 rfl (by decide) rfl (sm_rv_ok (by decide) ht) (Nat.le_of_ble_eq_true rfl) (Nat.le_of_ble_eq_true rfl) rfl hcl ?_
        refine gs_0 (pc' := 35) (L' := [some (.ref l0), some (.int l1), some (.int l2), some (.int x_10)]) (st' := []) cd_130_34 rfl rfl ?_
        refine gs_0 (pc' := 36) (L' := [some (.ref l0), some (.int l1), some (.int l2), some (.int x_10)]) (st' := [.int x_10]) cd_130_35 rfl rfl ?_
        refine gs_0 (pc' := 37) (L' := [some (.ref l0), some (.int l1), some (.int l2), some (.int x_10)]) (st' := [.int l2, .int x_10]) cd_130_36 rfl rfl ?_
        obtain ⟨x_14, w_11, I_12, J_13, hcl, h⟩ := cI_s h
        refine gs_call (as := [.int x_10, .int l2]) (rest := []) cd_130_37 rfl (by decide) rfl rfl (Nat.le_of_ble_eq_true rfl) (Nat.le_of_ble_eq_true rfl) rfl hcl ?_
        refine gs_0 (pc' := if x_14 = 0 then 48 else 43) (L' := [some (.ref l0), some (.int l1), some (.int l2), some (.int x_10)]) (st' := []) cd_130_40 rfl rfl ?_
        refine go_ite (fun hc => ?_) (fun hc => ?_)
        · rw [if_pos hc] at h
          refine gs_0 (pc' := 49) (L' := [some (.ref l0), some (.int l1), some (.int l2), some (.int x_10)]) (st' := [.ref l0]) cd_130_48 rfl rfl ?_
          refine gs_0 (pc' := 50) (L' := [some (.ref l0), some (.int l1), some (.int l2), some (.int x_10)]) (st' := [.int 4, .ref l0]) cd_130_49 rfl rfl ?_
          obtain ⟨ht, h⟩ := gO_s h
          obtain ⟨v_18, w_15, I_16, J_17, hcl, h⟩ := cJ_s h
          refine gs_call (as := [.ref l0, .int 4]) (rest := []) cd_130_50 rfl (by decide) rfl (sm_rv_ok (by decide) ht) (Nat.le_of_ble_eq_true rfl) (Nat.le_of_ble_eq_true rfl) rfl hcl ?_
          cases h
          exact gsr cd_130_53 rfl rfl
        · rw [if_neg hc] at h
          refine gs_0 (pc' := 44) (L' := [some (.ref l0), some (.int l1), some (.int l2), some (.int x_10)]) (st' := [.int x_10]) cd_130_43 rfl rfl ?_
          refine gs_0 (pc' := 45) (L' := [some (.ref l0), some (.int l1), some (.int l2), some (.int x_10)]) (st' := [.long ((x_10 : Int32).toInt64)]) cd_130_44 rfl rfl ?_
          refine gs_0 (pc' := 53) (L' := [some (.ref l0), some (.int l1), some (.int l2), some (.int x_10)]) (st' := [.long ((x_10 : Int32).toInt64)]) cd_130_45 rfl rfl ?_
          cases h
          exact gsr cd_130_53 rfl rfl
      · rw [if_neg hc] at h
        exact ok_130_20 h
theorem cl_130 {K : Nat → Value} {k d : Nat} {l0 : Nat} {l1 : Int32} {l2 : Int32} {w : aW} {I : aI} {J : aJ} {R : aR} (h : f_130 K k d l0 l1 l2 w I J = some R) : Cl K (d + 1) 130 [.ref l0, .int l1, .int l2] w I J = some R := Cl_of (ok_130 h)
/-! ProvedMachine.isOfKind(II)Z -/
set_option maxRecDepth 20000 in
theorem gl_131 : gcd.lookup 131 = some gw_131 := rfl
theorem cd_131_0 : sm_cd 131 0 = some (.iload_n 1, 1, 1, 0, 0, 0, 0, 0, 0) := cd_of gl_131 rfl
theorem cd_131_1 : sm_cd 131 1 = some (.tableswitch 64 0 2 #[27, 29, 47], 27, 0, 0, 0, 0, 0, 0, 0) := cd_of gl_131 rfl
theorem cd_131_28 : sm_cd 131 28 = some (.iconst 1, 1, 0, 0, 0, 0, 0, 1, 0) := cd_of gl_131 rfl
theorem cd_131_29 : sm_cd 131 29 = some (.ireturn, 1, 0, 0, 2, 0, 0, 0, 0) := cd_of gl_131 rfl
theorem cd_131_30 : sm_cd 131 30 = some (.iload_n 0, 1, 0, 0, 0, 0, 0, 0, 0) := cd_of gl_131 rfl
theorem cd_131_31 : sm_cd 131 31 = some (.bipush 23, 2, 0, 0, 0, 0, 0, 23, 0) := cd_of gl_131 rfl
theorem cd_131_33 : sm_cd 131 33 = some (.if_icmp .eq 9, 3, 42, 0, 0, 0, 0, 0, 0) := cd_of gl_131 rfl
theorem cd_131_36 : sm_cd 131 36 = some (.iload_n 0, 1, 0, 0, 0, 0, 0, 0, 0) := cd_of gl_131 rfl
theorem cd_131_37 : sm_cd 131 37 = some (.bipush 24, 2, 0, 0, 0, 0, 0, 24, 0) := cd_of gl_131 rfl
theorem cd_131_39 : sm_cd 131 39 = some (.if_icmp .ne 7, 3, 46, 0, 0, 0, 0, 0, 0) := cd_of gl_131 rfl
theorem cd_131_42 : sm_cd 131 42 = some (.iconst 1, 1, 0, 0, 0, 0, 0, 1, 0) := cd_of gl_131 rfl
theorem cd_131_43 : sm_cd 131 43 = some (.goto 4, 3, 47, 0, 0, 0, 0, 0, 0) := cd_of gl_131 rfl
theorem cd_131_46 : sm_cd 131 46 = some (.iconst 0, 1, 0, 0, 0, 0, 0, 0, 0) := cd_of gl_131 rfl
theorem cd_131_47 : sm_cd 131 47 = some (.ireturn, 1, 0, 0, 2, 0, 0, 0, 0) := cd_of gl_131 rfl
theorem cd_131_48 : sm_cd 131 48 = some (.iload_n 0, 1, 0, 0, 0, 0, 0, 0, 0) := cd_of gl_131 rfl
theorem cd_131_49 : sm_cd 131 49 = some (.iconst 4, 1, 0, 0, 0, 0, 0, 4, 0) := cd_of gl_131 rfl
theorem cd_131_50 : sm_cd 131 50 = some (.if_icmp .lt 13, 3, 63, 0, 0, 0, 0, 0, 0) := cd_of gl_131 rfl
theorem cd_131_53 : sm_cd 131 53 = some (.iload_n 0, 1, 0, 0, 0, 0, 0, 0, 0) := cd_of gl_131 rfl
theorem cd_131_54 : sm_cd 131 54 = some (.bipush 20, 2, 0, 0, 0, 0, 0, 20, 0) := cd_of gl_131 rfl
theorem cd_131_56 : sm_cd 131 56 = some (.if_icmp .gt 7, 3, 63, 0, 0, 0, 0, 0, 0) := cd_of gl_131 rfl
theorem cd_131_59 : sm_cd 131 59 = some (.iconst 1, 1, 0, 0, 0, 0, 0, 1, 0) := cd_of gl_131 rfl
theorem cd_131_60 : sm_cd 131 60 = some (.goto 4, 3, 64, 0, 0, 0, 0, 0, 0) := cd_of gl_131 rfl
theorem cd_131_63 : sm_cd 131 63 = some (.iconst 0, 1, 0, 0, 0, 0, 0, 0, 0) := cd_of gl_131 rfl
theorem cd_131_64 : sm_cd 131 64 = some (.ireturn, 1, 0, 0, 2, 0, 0, 0, 0) := cd_of gl_131 rfl
theorem cd_131_65 : sm_cd 131 65 = some (.iload_n 0, 1, 0, 0, 0, 0, 0, 0, 0) := cd_of gl_131 rfl
theorem cd_131_66 : sm_cd 131 66 = some (.iconst 4, 1, 0, 0, 0, 0, 0, 4, 0) := cd_of gl_131 rfl
theorem cd_131_67 : sm_cd 131 67 = some (.if_icmp .ne 7, 3, 74, 0, 0, 0, 0, 0, 0) := cd_of gl_131 rfl
theorem cd_131_70 : sm_cd 131 70 = some (.iconst 1, 1, 0, 0, 0, 0, 0, 1, 0) := cd_of gl_131 rfl
theorem cd_131_71 : sm_cd 131 71 = some (.goto 4, 3, 75, 0, 0, 0, 0, 0, 0) := cd_of gl_131 rfl
theorem cd_131_74 : sm_cd 131 74 = some (.iconst 0, 1, 0, 0, 0, 0, 0, 0, 0) := cd_of gl_131 rfl
theorem cd_131_75 : sm_cd 131 75 = some (.ireturn, 1, 0, 0, 2, 0, 0, 0, 0) := cd_of gl_131 rfl
theorem sw_131_1_0 {K : Nat → Value} {L : aL} {st : List Value} {w : aW} {I : aI} {J : aJ} {x : Int32} (h : x = 0) : sm_stp K (.tableswitch 64 0 2 #[27, 29, 47], 27, 0, 0, 0, 0, 0, 0, 0) 1 L (.int x :: st) w I J = some (28, L, st, w, I, J) := by subst h; rfl
theorem sw_131_1_1 {K : Nat → Value} {L : aL} {st : List Value} {w : aW} {I : aI} {J : aJ} {x : Int32} (h : x = 1) : sm_stp K (.tableswitch 64 0 2 #[27, 29, 47], 27, 0, 0, 0, 0, 0, 0, 0) 1 L (.int x :: st) w I J = some (30, L, st, w, I, J) := by subst h; rfl
theorem sw_131_1_2 {K : Nat → Value} {L : aL} {st : List Value} {w : aW} {I : aI} {J : aJ} {x : Int32} (h : x = 2) : sm_stp K (.tableswitch 64 0 2 #[27, 29, 47], 27, 0, 0, 0, 0, 0, 0, 0) 1 L (.int x :: st) w I J = some (48, L, st, w, I, J) := by subst h; rfl
theorem sw_131_1_d {K : Nat → Value} {L : aL} {st : List Value} {w : aW} {I : aI} {J : aJ} {x : Int32} (h0 : ¬ x = 0) (h1 : ¬ x = 1) (h2 : ¬ x = 2) : sm_stp K (.tableswitch 64 0 2 #[27, 29, 47], 27, 0, 0, 0, 0, 0, 0, 0) 1 L (.int x :: st) w I J = some (65, L, st, w, I, J) := by
  have e : sm_swt 1 64 0 2 #[27, 29, 47] x = some 65 := by
    unfold sm_swt
    split
    · rfl
    · rename_i hn
      exfalso
      have ha : ¬ x.toInt < 0 := fun q => hn (Or.inl q)
      have hb : ¬ 2 < x.toInt := fun q => hn (Or.inr q)
      have g0 : ¬ x.toInt = 0 := fun q => h0 (Int32.toInt_inj.mp q)
      have g1 : ¬ x.toInt = 1 := fun q => h1 (Int32.toInt_inj.mp q)
      have g2 : ¬ x.toInt = 2 := fun q => h2 (Int32.toInt_inj.mp q)
      omega
  simp only [sm_stp, e, sm_jm]
noncomputable def f_131 (K : Nat → Value) (k d : Nat) (l0 : Int32) (l1 : Int32) (w : aW) (I : aI) (J : aJ) : Option aR :=
  if l1 = 0 then
    some (some (.int 1), w, I, J)
  else
  if l1 = 1 then
    if l0 = 23 then
      some (some (.int 1), w, I, J)
    else
      if ¬ l0 = 24 then
        some (some (.int 0), w, I, J)
      else
        some (some (.int 1), w, I, J)
  else
  if l1 = 2 then
    if l0 < 4 then
      some (some (.int 0), w, I, J)
    else
      if 20 < l0 then
        some (some (.int 0), w, I, J)
      else
        some (some (.int 1), w, I, J)
  else
  if ¬ l0 = 4 then
    some (some (.int 0), w, I, J)
  else
    some (some (.int 1), w, I, J)
theorem ok_131 {K : Nat → Value} {k d : Nat} {l0 : Int32} {l1 : Int32} {w : aW} {I : aI} {J : aJ} {R : aR} (h : f_131 K k d l0 l1 w I J = some R) : Go K (d + 1) 131 0 [some (.int l0), some (.int l1)] [] w I J R := by
  unfold f_131 at h
  refine gs_0 (pc' := 1) (L' := [some (.int l0), some (.int l1)]) (st' := [.int l1]) cd_131_0 rfl rfl ?_
  by_cases hc0 : l1 = 0
  · rw [if_pos hc0] at h
    refine gs_0 (pc' := 28) (L' := [some (.int l0), some (.int l1)]) (st' := []) cd_131_1 rfl (sw_131_1_0 hc0) ?_
    refine gs_0 (pc' := 29) (L' := [some (.int l0), some (.int l1)]) (st' := [.int 1]) cd_131_28 rfl rfl ?_
    cases h
    exact gs_ri cd_131_29 (Or.inr (Or.inl ⟨rfl, Or.inr rfl⟩))
  · rw [if_neg hc0] at h
    by_cases hc1 : l1 = 1
    · rw [if_pos hc1] at h
      refine gs_0 (pc' := 30) (L' := [some (.int l0), some (.int l1)]) (st' := []) cd_131_1 rfl (sw_131_1_1 hc1) ?_
      refine gs_0 (pc' := 31) (L' := [some (.int l0), some (.int l1)]) (st' := [.int l0]) cd_131_30 rfl rfl ?_
      refine gs_0 (pc' := 33) (L' := [some (.int l0), some (.int l1)]) (st' := [.int 23, .int l0]) cd_131_31 rfl rfl ?_
      refine gs_0 (pc' := if l0 = 23 then 42 else 36) (L' := [some (.int l0), some (.int l1)]) (st' := []) cd_131_33 rfl rfl ?_
      refine go_ite (fun hc => ?_) (fun hc => ?_)
      · rw [if_pos hc] at h
        refine gs_0 (pc' := 43) (L' := [some (.int l0), some (.int l1)]) (st' := [.int 1]) cd_131_42 rfl rfl ?_
        refine gs_0 (pc' := 47) (L' := [some (.int l0), some (.int l1)]) (st' := [.int 1]) cd_131_43 rfl rfl ?_
        cases h
        exact gs_ri cd_131_47 (Or.inr (Or.inl ⟨rfl, Or.inr rfl⟩))
      · rw [if_neg hc] at h
        refine gs_0 (pc' := 37) (L' := [some (.int l0), some (.int l1)]) (st' := [.int l0]) cd_131_36 rfl rfl ?_
        refine gs_0 (pc' := 39) (L' := [some (.int l0), some (.int l1)]) (st' := [.int 24, .int l0]) cd_131_37 rfl rfl ?_
        refine gs_0 (pc' := if ¬ l0 = 24 then 46 else 42) (L' := [some (.int l0), some (.int l1)]) (st' := []) cd_131_39 rfl rfl ?_
        refine go_ite (fun hc => ?_) (fun hc => ?_)
        · rw [if_pos hc] at h
          refine gs_0 (pc' := 47) (L' := [some (.int l0), some (.int l1)]) (st' := [.int 0]) cd_131_46 rfl rfl ?_
          cases h
          exact gs_ri cd_131_47 (Or.inr (Or.inl ⟨rfl, Or.inl rfl⟩))
        · rw [if_neg hc] at h
          refine gs_0 (pc' := 43) (L' := [some (.int l0), some (.int l1)]) (st' := [.int 1]) cd_131_42 rfl rfl ?_
          refine gs_0 (pc' := 47) (L' := [some (.int l0), some (.int l1)]) (st' := [.int 1]) cd_131_43 rfl rfl ?_
          cases h
          exact gs_ri cd_131_47 (Or.inr (Or.inl ⟨rfl, Or.inr rfl⟩))
    · rw [if_neg hc1] at h
      by_cases hc2 : l1 = 2
      · rw [if_pos hc2] at h
        refine gs_0 (pc' := 48) (L' := [some (.int l0), some (.int l1)]) (st' := []) cd_131_1 rfl (sw_131_1_2 hc2) ?_
        refine gs_0 (pc' := 49) (L' := [some (.int l0), some (.int l1)]) (st' := [.int l0]) cd_131_48 rfl rfl ?_
        refine gs_0 (pc' := 50) (L' := [some (.int l0), some (.int l1)]) (st' := [.int 4, .int l0]) cd_131_49 rfl rfl ?_
        refine gs_0 (pc' := if l0 < 4 then 63 else 53) (L' := [some (.int l0), some (.int l1)]) (st' := []) cd_131_50 rfl rfl ?_
        refine go_ite (fun hc => ?_) (fun hc => ?_)
        · rw [if_pos hc] at h
          refine gs_0 (pc' := 64) (L' := [some (.int l0), some (.int l1)]) (st' := [.int 0]) cd_131_63 rfl rfl ?_
          cases h
          exact gs_ri cd_131_64 (Or.inr (Or.inl ⟨rfl, Or.inl rfl⟩))
        · rw [if_neg hc] at h
          refine gs_0 (pc' := 54) (L' := [some (.int l0), some (.int l1)]) (st' := [.int l0]) cd_131_53 rfl rfl ?_
          refine gs_0 (pc' := 56) (L' := [some (.int l0), some (.int l1)]) (st' := [.int 20, .int l0]) cd_131_54 rfl rfl ?_
          refine gs_0 (pc' := if 20 < l0 then 63 else 59) (L' := [some (.int l0), some (.int l1)]) (st' := []) cd_131_56 rfl rfl ?_
          refine go_ite (fun hc => ?_) (fun hc => ?_)
          · rw [if_pos hc] at h
            refine gs_0 (pc' := 64) (L' := [some (.int l0), some (.int l1)]) (st' := [.int 0]) cd_131_63 rfl rfl ?_
            cases h
            exact gs_ri cd_131_64 (Or.inr (Or.inl ⟨rfl, Or.inl rfl⟩))
          · rw [if_neg hc] at h
            refine gs_0 (pc' := 60) (L' := [some (.int l0), some (.int l1)]) (st' := [.int 1]) cd_131_59 rfl rfl ?_
            refine gs_0 (pc' := 64) (L' := [some (.int l0), some (.int l1)]) (st' := [.int 1]) cd_131_60 rfl rfl ?_
            cases h
            exact gs_ri cd_131_64 (Or.inr (Or.inl ⟨rfl, Or.inr rfl⟩))
      · rw [if_neg hc2] at h
        refine gs_0 (pc' := 65) (L' := [some (.int l0), some (.int l1)]) (st' := []) cd_131_1 rfl (sw_131_1_d hc0 hc1 hc2) ?_
        refine gs_0 (pc' := 66) (L' := [some (.int l0), some (.int l1)]) (st' := [.int l0]) cd_131_65 rfl rfl ?_
        refine gs_0 (pc' := 67) (L' := [some (.int l0), some (.int l1)]) (st' := [.int 4, .int l0]) cd_131_66 rfl rfl ?_
        refine gs_0 (pc' := if ¬ l0 = 4 then 74 else 70) (L' := [some (.int l0), some (.int l1)]) (st' := []) cd_131_67 rfl rfl ?_
        refine go_ite (fun hc => ?_) (fun hc => ?_)
        · rw [if_pos hc] at h
          refine gs_0 (pc' := 75) (L' := [some (.int l0), some (.int l1)]) (st' := [.int 0]) cd_131_74 rfl rfl ?_
          cases h
          exact gs_ri cd_131_75 (Or.inr (Or.inl ⟨rfl, Or.inl rfl⟩))
        · rw [if_neg hc] at h
          refine gs_0 (pc' := 71) (L' := [some (.int l0), some (.int l1)]) (st' := [.int 1]) cd_131_70 rfl rfl ?_
          refine gs_0 (pc' := 75) (L' := [some (.int l0), some (.int l1)]) (st' := [.int 1]) cd_131_71 rfl rfl ?_
          cases h
          exact gs_ri cd_131_75 (Or.inr (Or.inl ⟨rfl, Or.inr rfl⟩))
theorem cl_131 {K : Nat → Value} {k d : Nat} {l0 : Int32} {l1 : Int32} {w : aW} {I : aI} {J : aJ} {R : aR} (h : f_131 K k d l0 l1 w I J = some R) : Cl K (d + 1) 131 [.int l0, .int l1] w I J = some R := Cl_of (ok_131 h)
/-! ProvedMachineModel.as(II)J -/
set_option maxRecDepth 20000 in
theorem gl_132 : gcd.lookup 132 = some gw_132 := rfl
theorem cd_132_0 : sm_cd 132 0 = some (.aload_n 0, 1, 0, 0, 0, 0, 0, 0, 0) := cd_of gl_132 rfl
theorem cd_132_1 : sm_cd 132 1 = some (.iload_n 1, 1, 1, 0, 0, 0, 0, 0, 0) := cd_of gl_132 rfl
theorem cd_132_2 : sm_cd 132 2 = some (.invokevirtual 339, 3, 129, 0, 1, 2, 6, 0, 0) := cd_of gl_132 rfl
theorem cd_132_5 : sm_cd 132 5 = some (.ifCond .eq 12, 3, 17, 0, 0, 0, 0, 0, 0) := cd_of gl_132 rfl
theorem cd_132_8 : sm_cd 132 8 = some (.iload_n 2, 1, 2, 0, 0, 0, 0, 0, 0) := cd_of gl_132 rfl
theorem cd_132_9 : sm_cd 132 9 = some (.iconst 0, 1, 0, 0, 0, 0, 0, 0, 0) := cd_of gl_132 rfl
theorem cd_132_10 : sm_cd 132 10 = some (.iconst 3, 1, 0, 0, 0, 0, 0, 3, 0) := cd_of gl_132 rfl
theorem cd_132_11 : sm_cd 132 11 = some (.invokestatic 144, 3, 19, 1, 3, 3, 6, 0, 0) := cd_of gl_132 rfl
theorem cd_132_14 : sm_cd 132 14 = some (.ifCond .ne 9, 3, 23, 0, 0, 0, 0, 0, 0) := cd_of gl_132 rfl
theorem cd_132_17 : sm_cd 132 17 = some (.aload_n 0, 1, 0, 0, 0, 0, 0, 0, 0) := cd_of gl_132 rfl
theorem cd_132_18 : sm_cd 132 18 = some (.iconst 1, 1, 0, 0, 0, 0, 0, 1, 0) := cd_of gl_132 rfl
theorem cd_132_19 : sm_cd 132 19 = some (.invokevirtual 148, 3, 20, 0, 1, 2, 6, 0, 0) := cd_of gl_132 rfl
theorem cd_132_22 : sm_cd 132 22 = some (.lreturn, 1, 0, 0, 0, 0, 0, 0, 0) := cd_of gl_132 rfl
theorem cd_132_23 : sm_cd 132 23 = some (.aload_n 0, 1, 0, 0, 0, 0, 0, 0, 0) := cd_of gl_132 rfl
theorem cd_132_24 : sm_cd 132 24 = some (.getfield 50, 3, 6, 19, 2, 0, 0, 0, 0) := cd_of gl_132 rfl
theorem cd_132_27 : sm_cd 132 27 = some (.iload_n 1, 1, 1, 0, 0, 0, 0, 0, 0) := cd_of gl_132 rfl
theorem cd_132_28 : sm_cd 132 28 = some (.iaload, 1, 0, 0, 0, 0, 0, 0, 0) := cd_of gl_132 rfl
theorem cd_132_29 : sm_cd 132 29 = some (.istore_n 3, 1, 3, 0, 0, 0, 0, 0, 0) := cd_of gl_132 rfl
theorem cd_132_30 : sm_cd 132 30 = some (.iload_n 2, 1, 2, 0, 0, 0, 0, 0, 0) := cd_of gl_132 rfl
theorem cd_132_31 : sm_cd 132 31 = some (.ifCond .eq 44, 3, 75, 0, 0, 0, 0, 0, 0) := cd_of gl_132 rfl
theorem cd_132_34 : sm_cd 132 34 = some (.iload_n 2, 1, 2, 0, 0, 0, 0, 0, 0) := cd_of gl_132 rfl
theorem cd_132_35 : sm_cd 132 35 = some (.iconst 1, 1, 0, 0, 0, 0, 0, 1, 0) := cd_of gl_132 rfl
theorem cd_132_36 : sm_cd 132 36 = some (.if_icmp .ne 14, 3, 50, 0, 0, 0, 0, 0, 0) := cd_of gl_132 rfl
theorem cd_132_39 : sm_cd 132 39 = some (.iload_n 3, 1, 3, 0, 0, 0, 0, 0, 0) := cd_of gl_132 rfl
theorem cd_132_40 : sm_cd 132 40 = some (.bipush 23, 2, 0, 0, 0, 0, 0, 23, 0) := cd_of gl_132 rfl
theorem cd_132_42 : sm_cd 132 42 = some (.bipush 24, 2, 0, 0, 0, 0, 0, 24, 0) := cd_of gl_132 rfl
theorem cd_132_44 : sm_cd 132 44 = some (.invokestatic 144, 3, 19, 1, 3, 3, 6, 0, 0) := cd_of gl_132 rfl
theorem cd_132_47 : sm_cd 132 47 = some (.ifCond .ne 28, 3, 75, 0, 0, 0, 0, 0, 0) := cd_of gl_132 rfl
theorem cd_132_50 : sm_cd 132 50 = some (.iload_n 2, 1, 2, 0, 0, 0, 0, 0, 0) := cd_of gl_132 rfl
theorem cd_132_51 : sm_cd 132 51 = some (.iconst 2, 1, 0, 0, 0, 0, 0, 2, 0) := cd_of gl_132 rfl
theorem cd_132_52 : sm_cd 132 52 = some (.if_icmp .ne 13, 3, 65, 0, 0, 0, 0, 0, 0) := cd_of gl_132 rfl
theorem cd_132_55 : sm_cd 132 55 = some (.iload_n 3, 1, 3, 0, 0, 0, 0, 0, 0) := cd_of gl_132 rfl
theorem cd_132_56 : sm_cd 132 56 = some (.iconst 4, 1, 0, 0, 0, 0, 0, 4, 0) := cd_of gl_132 rfl
theorem cd_132_57 : sm_cd 132 57 = some (.bipush 20, 2, 0, 0, 0, 0, 0, 20, 0) := cd_of gl_132 rfl
theorem cd_132_59 : sm_cd 132 59 = some (.invokestatic 144, 3, 19, 1, 3, 3, 6, 0, 0) := cd_of gl_132 rfl
theorem cd_132_62 : sm_cd 132 62 = some (.ifCond .ne 13, 3, 75, 0, 0, 0, 0, 0, 0) := cd_of gl_132 rfl
theorem cd_132_65 : sm_cd 132 65 = some (.iload_n 2, 1, 2, 0, 0, 0, 0, 0, 0) := cd_of gl_132 rfl
theorem cd_132_66 : sm_cd 132 66 = some (.iconst 3, 1, 0, 0, 0, 0, 0, 3, 0) := cd_of gl_132 rfl
theorem cd_132_67 : sm_cd 132 67 = some (.if_icmp .ne 12, 3, 79, 0, 0, 0, 0, 0, 0) := cd_of gl_132 rfl
theorem cd_132_70 : sm_cd 132 70 = some (.iload_n 3, 1, 3, 0, 0, 0, 0, 0, 0) := cd_of gl_132 rfl
theorem cd_132_71 : sm_cd 132 71 = some (.iconst 4, 1, 0, 0, 0, 0, 0, 4, 0) := cd_of gl_132 rfl
theorem cd_132_72 : sm_cd 132 72 = some (.if_icmp .ne 7, 3, 79, 0, 0, 0, 0, 0, 0) := cd_of gl_132 rfl
theorem cd_132_75 : sm_cd 132 75 = some (.iconst 1, 1, 0, 0, 0, 0, 0, 1, 0) := cd_of gl_132 rfl
theorem cd_132_76 : sm_cd 132 76 = some (.goto 4, 3, 80, 0, 0, 0, 0, 0, 0) := cd_of gl_132 rfl
theorem cd_132_79 : sm_cd 132 79 = some (.iconst 0, 1, 0, 0, 0, 0, 0, 0, 0) := cd_of gl_132 rfl
theorem cd_132_80 : sm_cd 132 80 = some (.istore 4, 2, 4, 0, 0, 0, 0, 0, 0) := cd_of gl_132 rfl
theorem cd_132_82 : sm_cd 132 82 = some (.iload 4, 2, 4, 0, 0, 0, 0, 0, 0) := cd_of gl_132 rfl
theorem cd_132_84 : sm_cd 132 84 = some (.ifCond .eq 8, 3, 92, 0, 0, 0, 0, 0, 0) := cd_of gl_132 rfl
theorem cd_132_87 : sm_cd 132 87 = some (.iload_n 3, 1, 3, 0, 0, 0, 0, 0, 0) := cd_of gl_132 rfl
theorem cd_132_88 : sm_cd 132 88 = some (.i2l, 1, 0, 0, 0, 0, 0, 0, 0) := cd_of gl_132 rfl
theorem cd_132_89 : sm_cd 132 89 = some (.goto 8, 3, 97, 0, 0, 0, 0, 0, 0) := cd_of gl_132 rfl
theorem cd_132_92 : sm_cd 132 92 = some (.aload_n 0, 1, 0, 0, 0, 0, 0, 0, 0) := cd_of gl_132 rfl
theorem cd_132_93 : sm_cd 132 93 = some (.iconst 4, 1, 0, 0, 0, 0, 0, 4, 0) := cd_of gl_132 rfl
theorem cd_132_94 : sm_cd 132 94 = some (.invokevirtual 148, 3, 20, 0, 1, 2, 6, 0, 0) := cd_of gl_132 rfl
theorem cd_132_97 : sm_cd 132 97 = some (.lreturn, 1, 0, 0, 0, 0, 0, 0, 0) := cd_of gl_132 rfl
noncomputable def f_132_80 (K : Nat → Value) (k d : Nat) (l0 : Nat) (l1 : Int32) (l2 : Int32) (l3 : Int32) (s0 : Int32) (w : aW) (I : aI) (J : aJ) : Option aR :=
  if s0 = 0 then
    gO w 6 l0 (
    cJ (Cl K d 20 [.ref l0, .int 4] w I J) fun v_4 w_1 I_2 J_3 =>
    some (some (.long v_4), w_1, I_2, J_3))
  else
    some (some (.long ((l3 : Int32).toInt64)), w, I, J)
theorem ok_132_80 {K : Nat → Value} {k d : Nat} {l0 : Nat} {l1 : Int32} {l2 : Int32} {l3 : Int32} {s0 : Int32} {w : aW} {I : aI} {J : aJ} {R : aR} (h : f_132_80 K k d l0 l1 l2 l3 s0 w I J = some R) : Go K (d + 1) 132 80 [some (.ref l0), some (.int l1), some (.int l2), some (.int l3), none] [.int s0] w I J R := by
  unfold f_132_80 at h
  refine gs_0 (pc' := 82) (L' := [some (.ref l0), some (.int l1), some (.int l2), some (.int l3), some (.int s0)]) (st' := []) cd_132_80 rfl rfl ?_
  refine gs_0 (pc' := 84) (L' := [some (.ref l0), some (.int l1), some (.int l2), some (.int l3), some (.int s0)]) (st' := [.int s0]) cd_132_82 rfl rfl ?_
  refine gs_0 (pc' := if s0 = 0 then 92 else 87) (L' := [some (.ref l0), some (.int l1), some (.int l2), some (.int l3), some (.int s0)]) (st' := []) cd_132_84 rfl rfl ?_
  refine go_ite (fun hc => ?_) (fun hc => ?_)
  · rw [if_pos hc] at h
    refine gs_0 (pc' := 93) (L' := [some (.ref l0), some (.int l1), some (.int l2), some (.int l3), some (.int s0)]) (st' := [.ref l0]) cd_132_92 rfl rfl ?_
    refine gs_0 (pc' := 94) (L' := [some (.ref l0), some (.int l1), some (.int l2), some (.int l3), some (.int s0)]) (st' := [.int 4, .ref l0]) cd_132_93 rfl rfl ?_
    obtain ⟨ht, h⟩ := gO_s h
    obtain ⟨v_4, w_1, I_2, J_3, hcl, h⟩ := cJ_s h
    refine gs_call (as := [.ref l0, .int 4]) (rest := []) cd_132_94 rfl (by decide) rfl (sm_rv_ok (by decide) ht) (Nat.le_of_ble_eq_true rfl) (Nat.le_of_ble_eq_true rfl) rfl hcl ?_
    cases h
    exact gsr cd_132_97 rfl rfl
  · rw [if_neg hc] at h
    refine gs_0 (pc' := 88) (L' := [some (.ref l0), some (.int l1), some (.int l2), some (.int l3), some (.int s0)]) (st' := [.int l3]) cd_132_87 rfl rfl ?_
    refine gs_0 (pc' := 89) (L' := [some (.ref l0), some (.int l1), some (.int l2), some (.int l3), some (.int s0)]) (st' := [.long ((l3 : Int32).toInt64)]) cd_132_88 rfl rfl ?_
    refine gs_0 (pc' := 97) (L' := [some (.ref l0), some (.int l1), some (.int l2), some (.int l3), some (.int s0)]) (st' := [.long ((l3 : Int32).toInt64)]) cd_132_89 rfl rfl ?_
    cases h
    exact gsr cd_132_97 rfl rfl
noncomputable def f_132_79 (K : Nat → Value) (k d : Nat) (l0 : Nat) (l1 : Int32) (l2 : Int32) (l3 : Int32) (w : aW) (I : aI) (J : aJ) : Option aR :=
  f_132_80 K k d l0 l1 l2 l3 0 w I J
theorem ok_132_79 {K : Nat → Value} {k d : Nat} {l0 : Nat} {l1 : Int32} {l2 : Int32} {l3 : Int32} {w : aW} {I : aI} {J : aJ} {R : aR} (h : f_132_79 K k d l0 l1 l2 l3 w I J = some R) : Go K (d + 1) 132 79 [some (.ref l0), some (.int l1), some (.int l2), some (.int l3), none] [] w I J R := by
  unfold f_132_79 at h
  refine gs_0 (pc' := 80) (L' := [some (.ref l0), some (.int l1), some (.int l2), some (.int l3), none]) (st' := [.int 0]) cd_132_79 rfl rfl ?_
  exact ok_132_80 h
noncomputable def f_132_75 (K : Nat → Value) (k d : Nat) (l0 : Nat) (l1 : Int32) (l2 : Int32) (l3 : Int32) (w : aW) (I : aI) (J : aJ) : Option aR :=
  f_132_80 K k d l0 l1 l2 l3 1 w I J
theorem ok_132_75 {K : Nat → Value} {k d : Nat} {l0 : Nat} {l1 : Int32} {l2 : Int32} {l3 : Int32} {w : aW} {I : aI} {J : aJ} {R : aR} (h : f_132_75 K k d l0 l1 l2 l3 w I J = some R) : Go K (d + 1) 132 75 [some (.ref l0), some (.int l1), some (.int l2), some (.int l3), none] [] w I J R := by
  unfold f_132_75 at h
  refine gs_0 (pc' := 76) (L' := [some (.ref l0), some (.int l1), some (.int l2), some (.int l3), none]) (st' := [.int 1]) cd_132_75 rfl rfl ?_
  refine gs_0 (pc' := 80) (L' := [some (.ref l0), some (.int l1), some (.int l2), some (.int l3), none]) (st' := [.int 1]) cd_132_76 rfl rfl ?_
  exact ok_132_80 h
noncomputable def f_132_65 (K : Nat → Value) (k d : Nat) (l0 : Nat) (l1 : Int32) (l2 : Int32) (l3 : Int32) (w : aW) (I : aI) (J : aJ) : Option aR :=
  if ¬ l2 = 3 then
    f_132_79 K k d l0 l1 l2 l3 w I J
  else
    if ¬ l3 = 4 then
      f_132_79 K k d l0 l1 l2 l3 w I J
    else
      f_132_75 K k d l0 l1 l2 l3 w I J
theorem ok_132_65 {K : Nat → Value} {k d : Nat} {l0 : Nat} {l1 : Int32} {l2 : Int32} {l3 : Int32} {w : aW} {I : aI} {J : aJ} {R : aR} (h : f_132_65 K k d l0 l1 l2 l3 w I J = some R) : Go K (d + 1) 132 65 [some (.ref l0), some (.int l1), some (.int l2), some (.int l3), none] [] w I J R := by
  unfold f_132_65 at h
  refine gs_0 (pc' := 66) (L' := [some (.ref l0), some (.int l1), some (.int l2), some (.int l3), none]) (st' := [.int l2]) cd_132_65 rfl rfl ?_
  refine gs_0 (pc' := 67) (L' := [some (.ref l0), some (.int l1), some (.int l2), some (.int l3), none]) (st' := [.int 3, .int l2]) cd_132_66 rfl rfl ?_
  refine gs_0 (pc' := if ¬ l2 = 3 then 79 else 70) (L' := [some (.ref l0), some (.int l1), some (.int l2), some (.int l3), none]) (st' := []) cd_132_67 rfl rfl ?_
  refine go_ite (fun hc => ?_) (fun hc => ?_)
  · rw [if_pos hc] at h
    exact ok_132_79 h
  · rw [if_neg hc] at h
    refine gs_0 (pc' := 71) (L' := [some (.ref l0), some (.int l1), some (.int l2), some (.int l3), none]) (st' := [.int l3]) cd_132_70 rfl rfl ?_
    refine gs_0 (pc' := 72) (L' := [some (.ref l0), some (.int l1), some (.int l2), some (.int l3), none]) (st' := [.int 4, .int l3]) cd_132_71 rfl rfl ?_
    refine gs_0 (pc' := if ¬ l3 = 4 then 79 else 75) (L' := [some (.ref l0), some (.int l1), some (.int l2), some (.int l3), none]) (st' := []) cd_132_72 rfl rfl ?_
    refine go_ite (fun hc => ?_) (fun hc => ?_)
    · rw [if_pos hc] at h
      exact ok_132_79 h
    · rw [if_neg hc] at h
      exact ok_132_75 h
noncomputable def f_132_50 (K : Nat → Value) (k d : Nat) (l0 : Nat) (l1 : Int32) (l2 : Int32) (l3 : Int32) (w : aW) (I : aI) (J : aJ) : Option aR :=
  if ¬ l2 = 2 then
    f_132_65 K k d l0 l1 l2 l3 w I J
  else
    cI (Cl K d 19 [.int l3, .int 4, .int 20] w I J) fun x_4 w_1 I_2 J_3 =>
    if ¬ x_4 = 0 then
      f_132_75 K k d l0 l1 l2 l3 w_1 I_2 J_3
    else
      f_132_65 K k d l0 l1 l2 l3 w_1 I_2 J_3
theorem ok_132_50 {K : Nat → Value} {k d : Nat} {l0 : Nat} {l1 : Int32} {l2 : Int32} {l3 : Int32} {w : aW} {I : aI} {J : aJ} {R : aR} (h : f_132_50 K k d l0 l1 l2 l3 w I J = some R) : Go K (d + 1) 132 50 [some (.ref l0), some (.int l1), some (.int l2), some (.int l3), none] [] w I J R := by
  unfold f_132_50 at h
  refine gs_0 (pc' := 51) (L' := [some (.ref l0), some (.int l1), some (.int l2), some (.int l3), none]) (st' := [.int l2]) cd_132_50 rfl rfl ?_
  refine gs_0 (pc' := 52) (L' := [some (.ref l0), some (.int l1), some (.int l2), some (.int l3), none]) (st' := [.int 2, .int l2]) cd_132_51 rfl rfl ?_
  refine gs_0 (pc' := if ¬ l2 = 2 then 65 else 55) (L' := [some (.ref l0), some (.int l1), some (.int l2), some (.int l3), none]) (st' := []) cd_132_52 rfl rfl ?_
  refine go_ite (fun hc => ?_) (fun hc => ?_)
  · rw [if_pos hc] at h
    exact ok_132_65 h
  · rw [if_neg hc] at h
    refine gs_0 (pc' := 56) (L' := [some (.ref l0), some (.int l1), some (.int l2), some (.int l3), none]) (st' := [.int l3]) cd_132_55 rfl rfl ?_
    refine gs_0 (pc' := 57) (L' := [some (.ref l0), some (.int l1), some (.int l2), some (.int l3), none]) (st' := [.int 4, .int l3]) cd_132_56 rfl rfl ?_
    refine gs_0 (pc' := 59) (L' := [some (.ref l0), some (.int l1), some (.int l2), some (.int l3), none]) (st' := [.int 20, .int 4, .int l3]) cd_132_57 rfl rfl ?_
    obtain ⟨x_4, w_1, I_2, J_3, hcl, h⟩ := cI_s h
    refine gs_call (as := [.int l3, .int 4, .int 20]) (rest := []) cd_132_59 rfl (by decide) rfl rfl (Nat.le_of_ble_eq_true rfl) (Nat.le_of_ble_eq_true rfl) rfl hcl ?_
    refine gs_0 (pc' := if ¬ x_4 = 0 then 75 else 65) (L' := [some (.ref l0), some (.int l1), some (.int l2), some (.int l3), none]) (st' := []) cd_132_62 rfl rfl ?_
    refine go_ite (fun hc => ?_) (fun hc => ?_)
    · rw [if_pos hc] at h
      exact ok_132_75 h
    · rw [if_neg hc] at h
      exact ok_132_65 h
noncomputable def f_132_17 (K : Nat → Value) (k d : Nat) (l0 : Nat) (l1 : Int32) (l2 : Int32) (w : aW) (I : aI) (J : aJ) : Option aR :=
  gO w 6 l0 (
  cJ (Cl K d 20 [.ref l0, .int 1] w I J) fun v_4 w_1 I_2 J_3 =>
  some (some (.long v_4), w_1, I_2, J_3))
theorem ok_132_17 {K : Nat → Value} {k d : Nat} {l0 : Nat} {l1 : Int32} {l2 : Int32} {w : aW} {I : aI} {J : aJ} {R : aR} (h : f_132_17 K k d l0 l1 l2 w I J = some R) : Go K (d + 1) 132 17 [some (.ref l0), some (.int l1), some (.int l2), none, none] [] w I J R := by
  unfold f_132_17 at h
  refine gs_0 (pc' := 18) (L' := [some (.ref l0), some (.int l1), some (.int l2), none, none]) (st' := [.ref l0]) cd_132_17 rfl rfl ?_
  refine gs_0 (pc' := 19) (L' := [some (.ref l0), some (.int l1), some (.int l2), none, none]) (st' := [.int 1, .ref l0]) cd_132_18 rfl rfl ?_
  obtain ⟨ht, h⟩ := gO_s h
  obtain ⟨v_4, w_1, I_2, J_3, hcl, h⟩ := cJ_s h
  refine gs_call (as := [.ref l0, .int 1]) (rest := []) cd_132_19 rfl (by decide) rfl (sm_rv_ok (by decide) ht) (Nat.le_of_ble_eq_true rfl) (Nat.le_of_ble_eq_true rfl) rfl hcl ?_
  cases h
  exact gsr cd_132_22 rfl rfl
noncomputable def f_132 (K : Nat → Value) (k d : Nat) (l0 : Nat) (l1 : Int32) (l2 : Int32) (w : aW) (I : aI) (J : aJ) : Option aR :=
  gO w 6 l0 (
  cI (Cl K d 129 [.ref l0, .int l1] w I J) fun x_4 w_1 I_2 J_3 =>
  if x_4 = 0 then
    f_132_17 K k d l0 l1 l2 w_1 I_2 J_3
  else
    cI (Cl K d 19 [.int l2, .int 0, .int 3] w_1 I_2 J_3) fun x_8 w_5 I_6 J_7 =>
    if ¬ x_8 = 0 then
      gO w_5 6 l0 (
      gV w_5 l0 19 fun q_9 =>
      gA w_5 10 20 q_9 l1 (
      lt_ (I_6 q_9 (l1 : Int32).toNatClampNeg) fun x_10 =>
      if l2 = 0 then
        f_132_75 K k d l0 l1 l2 x_10 w_5 I_6 J_7
      else
        if ¬ l2 = 1 then
          f_132_50 K k d l0 l1 l2 x_10 w_5 I_6 J_7
        else
          cI (Cl K d 19 [.int x_10, .int 23, .int 24] w_5 I_6 J_7) fun x_14 w_11 I_12 J_13 =>
          if ¬ x_14 = 0 then
            f_132_75 K k d l0 l1 l2 x_10 w_11 I_12 J_13
          else
            f_132_50 K k d l0 l1 l2 x_10 w_11 I_12 J_13))
    else
      f_132_17 K k d l0 l1 l2 w_5 I_6 J_7)
theorem ok_132 {K : Nat → Value} {k d : Nat} {l0 : Nat} {l1 : Int32} {l2 : Int32} {w : aW} {I : aI} {J : aJ} {R : aR} (h : f_132 K k d l0 l1 l2 w I J = some R) : Go K (d + 1) 132 0 [some (.ref l0), some (.int l1), some (.int l2), none, none] [] w I J R := by
  unfold f_132 at h
  refine gs_0 (pc' := 1) (L' := [some (.ref l0), some (.int l1), some (.int l2), none, none]) (st' := [.ref l0]) cd_132_0 rfl rfl ?_
  refine gs_0 (pc' := 2) (L' := [some (.ref l0), some (.int l1), some (.int l2), none, none]) (st' := [.int l1, .ref l0]) cd_132_1 rfl rfl ?_
  obtain ⟨ht, h⟩ := gO_s h
  obtain ⟨x_4, w_1, I_2, J_3, hcl, h⟩ := cI_s h
  refine gs_call (as := [.ref l0, .int l1]) (rest := []) cd_132_2 rfl (by decide) rfl (sm_rv_ok (by decide) ht) (Nat.le_of_ble_eq_true rfl) (Nat.le_of_ble_eq_true rfl) rfl hcl ?_
  refine gs_0 (pc' := if x_4 = 0 then 17 else 8) (L' := [some (.ref l0), some (.int l1), some (.int l2), none, none]) (st' := []) cd_132_5 rfl rfl ?_
  refine go_ite (fun hc => ?_) (fun hc => ?_)
  · rw [if_pos hc] at h
    exact ok_132_17 h
  · rw [if_neg hc] at h
    refine gs_0 (pc' := 9) (L' := [some (.ref l0), some (.int l1), some (.int l2), none, none]) (st' := [.int l2]) cd_132_8 rfl rfl ?_
    refine gs_0 (pc' := 10) (L' := [some (.ref l0), some (.int l1), some (.int l2), none, none]) (st' := [.int 0, .int l2]) cd_132_9 rfl rfl ?_
    refine gs_0 (pc' := 11) (L' := [some (.ref l0), some (.int l1), some (.int l2), none, none]) (st' := [.int 3, .int 0, .int l2]) cd_132_10 rfl rfl ?_
    obtain ⟨x_8, w_5, I_6, J_7, hcl, h⟩ := cI_s h
    refine gs_call (as := [.int l2, .int 0, .int 3]) (rest := []) cd_132_11 rfl (by decide) rfl rfl (Nat.le_of_ble_eq_true rfl) (Nat.le_of_ble_eq_true rfl) rfl hcl ?_
    refine gs_0 (pc' := if ¬ x_8 = 0 then 23 else 17) (L' := [some (.ref l0), some (.int l1), some (.int l2), none, none]) (st' := []) cd_132_14 rfl rfl ?_
    refine go_ite (fun hc => ?_) (fun hc => ?_)
    · rw [if_pos hc] at h
      refine gs_0 (pc' := 24) (L' := [some (.ref l0), some (.int l1), some (.int l2), none, none]) (st' := [.ref l0]) cd_132_23 rfl rfl ?_
      obtain ⟨ht, h⟩ := gO_s h
      obtain ⟨q_9, hv, h⟩ := gV_s h
      refine gs_gfR cd_132_24 (by decide) ht hv ?_
      refine gs_0 (pc' := 28) (L' := [some (.ref l0), some (.int l1), some (.int l2), none, none]) (st' := [.int l1, .ref q_9]) cd_132_27 rfl rfl ?_
      obtain ⟨ht, h⟩ := gA_s h
      refine gs_iald cd_132_28 ht ?_
      refine gs_0 (pc' := 30) (L' := [some (.ref l0), some (.int l1), some (.int l2), some (.int (I_6 q_9 (l1 : Int32).toNatClampNeg)), none]) (st' := []) cd_132_29 rfl rfl ?_
      obtain ⟨x_10, hx, h⟩ := lt_s_ h
      rw [hx]
      clear hx
      refine gs_0 (pc' := 31) (L' := [some (.ref l0), some (.int l1), some (.int l2), some (.int x_10), none]) (st' := [.int l2]) cd_132_30 rfl rfl ?_
      refine gs_0 (pc' := if l2 = 0 then 75 else 34) (L' := [some (.ref l0), some (.int l1), some (.int l2), some (.int x_10), none]) (st' := []) cd_132_31 rfl rfl ?_
      refine go_ite (fun hc => ?_) (fun hc => ?_)
      · rw [if_pos hc] at h
        exact ok_132_75 h
      · rw [if_neg hc] at h
        refine gs_0 (pc' := 35) (L' := [some (.ref l0), some (.int l1), some (.int l2), some (.int x_10), none]) (st' := [.int l2]) cd_132_34 rfl rfl ?_
        refine gs_0 (pc' := 36) (L' := [some (.ref l0), some (.int l1), some (.int l2), some (.int x_10), none]) (st' := [.int 1, .int l2]) cd_132_35 rfl rfl ?_
        refine gs_0 (pc' := if ¬ l2 = 1 then 50 else 39) (L' := [some (.ref l0), some (.int l1), some (.int l2), some (.int x_10), none]) (st' := []) cd_132_36 rfl rfl ?_
        refine go_ite (fun hc => ?_) (fun hc => ?_)
        · rw [if_pos hc] at h
          exact ok_132_50 h
        · rw [if_neg hc] at h
          refine gs_0 (pc' := 40) (L' := [some (.ref l0), some (.int l1), some (.int l2), some (.int x_10), none]) (st' := [.int x_10]) cd_132_39 rfl rfl ?_
          refine gs_0 (pc' := 42) (L' := [some (.ref l0), some (.int l1), some (.int l2), some (.int x_10), none]) (st' := [.int 23, .int x_10]) cd_132_40 rfl rfl ?_
          refine gs_0 (pc' := 44) (L' := [some (.ref l0), some (.int l1), some (.int l2), some (.int x_10), none]) (st' := [.int 24, .int 23, .int x_10]) cd_132_42 rfl rfl ?_
          obtain ⟨x_14, w_11, I_12, J_13, hcl, h⟩ := cI_s h
          refine gs_call (as := [.int x_10, .int 23, .int 24]) (rest := []) cd_132_44 rfl (by decide) rfl rfl (Nat.le_of_ble_eq_true rfl) (Nat.le_of_ble_eq_true rfl) rfl hcl ?_
          refine gs_0 (pc' := if ¬ x_14 = 0 then 75 else 50) (L' := [some (.ref l0), some (.int l1), some (.int l2), some (.int x_10), none]) (st' := []) cd_132_47 rfl rfl ?_
          refine go_ite (fun hc => ?_) (fun hc => ?_)
          · rw [if_pos hc] at h
            exact ok_132_75 h
          · rw [if_neg hc] at h
            exact ok_132_50 h
    · rw [if_neg hc] at h
      exact ok_132_17 h
theorem cl_132 {K : Nat → Value} {k d : Nat} {l0 : Nat} {l1 : Int32} {l2 : Int32} {w : aW} {I : aI} {J : aJ} {R : aR} (h : f_132 K k d l0 l1 l2 w I J = some R) : Cl K (d + 1) 132 [.ref l0, .int l1, .int l2] w I J = some R := Cl_of (ok_132 h)
/-! ProvedMachine.shape(I)J -/
set_option maxRecDepth 20000 in
theorem gl_133 : gcd.lookup 133 = some gw_133 := rfl
theorem cd_133_0 : sm_cd 133 0 = some (.aload_n 0, 1, 0, 0, 0, 0, 0, 0, 0) := cd_of gl_133 rfl
theorem cd_133_1 : sm_cd 133 1 = some (.getfield 27, 3, 5, 3, 2, 0, 0, 0, 0) := cd_of gl_133 rfl
theorem cd_133_4 : sm_cd 133 4 = some (.iload_n 1, 1, 1, 0, 0, 0, 0, 0, 0) := cd_of gl_133 rfl
theorem cd_133_5 : sm_cd 133 5 = some (.invokevirtual 83, 3, 61, 0, 1, 2, 1, 0, 0) := cd_of gl_133 rfl
theorem cd_133_8 : sm_cd 133 8 = some (.ifCond .eq 14, 3, 22, 0, 0, 0, 0, 0, 0) := cd_of gl_133 rfl
theorem cd_133_11 : sm_cd 133 11 = some (.aload_n 0, 1, 0, 0, 0, 0, 0, 0, 0) := cd_of gl_133 rfl
theorem cd_133_12 : sm_cd 133 12 = some (.getfield 27, 3, 5, 3, 2, 0, 0, 0, 0) := cd_of gl_133 rfl
theorem cd_133_15 : sm_cd 133 15 = some (.iload_n 1, 1, 1, 0, 0, 0, 0, 0, 0) := cd_of gl_133 rfl
theorem cd_133_16 : sm_cd 133 16 = some (.invokevirtual 97, 3, 134, 0, 1, 2, 1, 0, 0) := cd_of gl_133 rfl
theorem cd_133_19 : sm_cd 133 19 = some (.goto 8, 3, 27, 0, 0, 0, 0, 0, 0) := cd_of gl_133 rfl
theorem cd_133_22 : sm_cd 133 22 = some (.aload_n 0, 1, 0, 0, 0, 0, 0, 0, 0) := cd_of gl_133 rfl
theorem cd_133_23 : sm_cd 133 23 = some (.iconst 1, 1, 0, 0, 0, 0, 0, 1, 0) := cd_of gl_133 rfl
theorem cd_133_24 : sm_cd 133 24 = some (.invokevirtual 60, 3, 17, 0, 1, 2, 5, 0, 0) := cd_of gl_133 rfl
theorem cd_133_27 : sm_cd 133 27 = some (.lreturn, 1, 0, 0, 0, 0, 0, 0, 0) := cd_of gl_133 rfl
noncomputable def f_133 (K : Nat → Value) (k d : Nat) (l0 : Nat) (l1 : Int32) (w : aW) (I : aI) (J : aJ) : Option aR :=
  gO w 5 l0 (
  gV w l0 3 fun q_1 =>
  gO w 1 q_1 (
  cI (Cl K d 61 [.ref q_1, .int l1] w I J) fun x_5 w_2 I_3 J_4 =>
  if x_5 = 0 then
    gO w_2 5 l0 (
    cJ (Cl K d 17 [.ref l0, .int 1] w_2 I_3 J_4) fun v_9 w_6 I_7 J_8 =>
    some (some (.long v_9), w_6, I_7, J_8))
  else
    gO w_2 5 l0 (
    gV w_2 l0 3 fun q_10 =>
    gO w_2 1 q_10 (
    cJ (Cl K d 134 [.ref q_10, .int l1] w_2 I_3 J_4) fun v_14 w_11 I_12 J_13 =>
    some (some (.long v_14), w_11, I_12, J_13)))))
theorem ok_133 {K : Nat → Value} {k d : Nat} {l0 : Nat} {l1 : Int32} {w : aW} {I : aI} {J : aJ} {R : aR} (h : f_133 K k d l0 l1 w I J = some R) : Go K (d + 1) 133 0 [some (.ref l0), some (.int l1)] [] w I J R := by
  unfold f_133 at h
  refine gs_0 (pc' := 1) (L' := [some (.ref l0), some (.int l1)]) (st' := [.ref l0]) cd_133_0 rfl rfl ?_
  obtain ⟨ht, h⟩ := gO_s h
  obtain ⟨q_1, hv, h⟩ := gV_s h
  refine gs_gfR cd_133_1 (by decide) ht hv ?_
  refine gs_0 (pc' := 5) (L' := [some (.ref l0), some (.int l1)]) (st' := [.int l1, .ref q_1]) cd_133_4 rfl rfl ?_
  obtain ⟨ht, h⟩ := gO_s h
  obtain ⟨x_5, w_2, I_3, J_4, hcl, h⟩ := cI_s h
  refine gs_call (as := [.ref q_1, .int l1]) (rest := []) cd_133_5 rfl (by decide) rfl (sm_rv_ok (by decide) ht) (Nat.le_of_ble_eq_true rfl) (Nat.le_of_ble_eq_true rfl) rfl hcl ?_
  refine gs_0 (pc' := if x_5 = 0 then 22 else 11) (L' := [some (.ref l0), some (.int l1)]) (st' := []) cd_133_8 rfl rfl ?_
  refine go_ite (fun hc => ?_) (fun hc => ?_)
  · rw [if_pos hc] at h
    refine gs_0 (pc' := 23) (L' := [some (.ref l0), some (.int l1)]) (st' := [.ref l0]) cd_133_22 rfl rfl ?_
    refine gs_0 (pc' := 24) (L' := [some (.ref l0), some (.int l1)]) (st' := [.int 1, .ref l0]) cd_133_23 rfl rfl ?_
    obtain ⟨ht, h⟩ := gO_s h
    obtain ⟨v_9, w_6, I_7, J_8, hcl, h⟩ := cJ_s h
    refine gs_call (as := [.ref l0, .int 1]) (rest := []) cd_133_24 rfl (by decide) rfl (sm_rv_ok (by decide) ht) (Nat.le_of_ble_eq_true rfl) (Nat.le_of_ble_eq_true rfl) rfl hcl ?_
    cases h
    exact gsr cd_133_27 rfl rfl
  · rw [if_neg hc] at h
    refine gs_0 (pc' := 12) (L' := [some (.ref l0), some (.int l1)]) (st' := [.ref l0]) cd_133_11 rfl rfl ?_
    obtain ⟨ht, h⟩ := gO_s h
    obtain ⟨q_10, hv, h⟩ := gV_s h
    refine gs_gfR cd_133_12 (by decide) ht hv ?_
    refine gs_0 (pc' := 16) (L' := [some (.ref l0), some (.int l1)]) (st' := [.int l1, .ref q_10]) cd_133_15 rfl rfl ?_
    obtain ⟨ht, h⟩ := gO_s h
    obtain ⟨v_14, w_11, I_12, J_13, hcl, h⟩ := cJ_s h
    refine gs_call (as := [.ref q_10, .int l1]) (rest := []) cd_133_16 rfl (by decide) rfl (sm_rv_ok (by decide) ht) (Nat.le_of_ble_eq_true rfl) (Nat.le_of_ble_eq_true rfl) rfl hcl ?_
    refine gs_0 (pc' := 27) (L' := [some (.ref l0), some (.int l1)]) (st' := [.long v_14]) cd_133_19 rfl rfl ?_
    cases h
    exact gsr cd_133_27 rfl rfl
theorem cl_133 {K : Nat → Value} {k d : Nat} {l0 : Nat} {l1 : Int32} {w : aW} {I : aI} {J : aJ} {R : aR} (h : f_133 K k d l0 l1 w I J = some R) : Cl K (d + 1) 133 [.ref l0, .int l1] w I J = some R := Cl_of (ok_133 h)
/-! ProvedMachine$Program.shapeAt(I)J -/
set_option maxRecDepth 20000 in
theorem gl_134 : gcd.lookup 134 = some gw_134 := rfl
theorem cd_134_0 : sm_cd 134 0 = some (.aload_n 0, 1, 0, 0, 0, 0, 0, 0, 0) := cd_of gl_134 rfl
theorem cd_134_1 : sm_cd 134 1 = some (.iload_n 1, 1, 1, 0, 0, 0, 0, 0, 0) := cd_of gl_134 rfl
theorem cd_134_2 : sm_cd 134 2 = some (.invokevirtual 45, 3, 61, 0, 1, 2, 1, 0, 0) := cd_of gl_134 rfl
theorem cd_134_5 : sm_cd 134 5 = some (.ifCond .eq 12, 3, 17, 0, 0, 0, 0, 0, 0) := cd_of gl_134 rfl
theorem cd_134_8 : sm_cd 134 8 = some (.aload_n 0, 1, 0, 0, 0, 0, 0, 0, 0) := cd_of gl_134 rfl
theorem cd_134_9 : sm_cd 134 9 = some (.getfield 18, 3, 1, 2, 2, 0, 0, 0, 0) := cd_of gl_134 rfl
theorem cd_134_12 : sm_cd 134 12 = some (.iload_n 1, 1, 1, 0, 0, 0, 0, 0, 0) := cd_of gl_134 rfl
theorem cd_134_13 : sm_cd 134 13 = some (.laload, 1, 0, 0, 0, 0, 0, 0, 0) := cd_of gl_134 rfl
theorem cd_134_14 : sm_cd 134 14 = some (.goto 6, 3, 20, 0, 0, 0, 0, 0, 0) := cd_of gl_134 rfl
theorem cd_134_17 : sm_cd 134 17 = some (.ldc2_w 49, 3, 0, 0, 0, 0, 0, 0, 3125) := cd_of gl_134 rfl
theorem cd_134_20 : sm_cd 134 20 = some (.lreturn, 1, 0, 0, 0, 0, 0, 0, 0) := cd_of gl_134 rfl
noncomputable def f_134 (K : Nat → Value) (k d : Nat) (l0 : Nat) (l1 : Int32) (w : aW) (I : aI) (J : aJ) : Option aR :=
  gO w 1 l0 (
  cI (Cl K d 61 [.ref l0, .int l1] w I J) fun x_4 w_1 I_2 J_3 =>
  if x_4 = 0 then
    some (some (.long 3125), w_1, I_2, J_3)
  else
    gO w_1 1 l0 (
    gV w_1 l0 2 fun q_5 =>
    gA w_1 11 11 q_5 l1 (
    some (some (.long (J_3 q_5 (l1 : Int32).toNatClampNeg)), w_1, I_2, J_3))))
theorem ok_134 {K : Nat → Value} {k d : Nat} {l0 : Nat} {l1 : Int32} {w : aW} {I : aI} {J : aJ} {R : aR} (h : f_134 K k d l0 l1 w I J = some R) : Go K (d + 1) 134 0 [some (.ref l0), some (.int l1)] [] w I J R := by
  unfold f_134 at h
  refine gs_0 (pc' := 1) (L' := [some (.ref l0), some (.int l1)]) (st' := [.ref l0]) cd_134_0 rfl rfl ?_
  refine gs_0 (pc' := 2) (L' := [some (.ref l0), some (.int l1)]) (st' := [.int l1, .ref l0]) cd_134_1 rfl rfl ?_
  obtain ⟨ht, h⟩ := gO_s h
  obtain ⟨x_4, w_1, I_2, J_3, hcl, h⟩ := cI_s h
  refine gs_call (as := [.ref l0, .int l1]) (rest := []) cd_134_2 rfl (by decide) rfl (sm_rv_ok (by decide) ht) (Nat.le_of_ble_eq_true rfl) (Nat.le_of_ble_eq_true rfl) rfl hcl ?_
  refine gs_0 (pc' := if x_4 = 0 then 17 else 8) (L' := [some (.ref l0), some (.int l1)]) (st' := []) cd_134_5 rfl rfl ?_
  refine go_ite (fun hc => ?_) (fun hc => ?_)
  · rw [if_pos hc] at h
    refine gs_0 (pc' := 20) (L' := [some (.ref l0), some (.int l1)]) (st' := [.long 3125]) cd_134_17 rfl rfl ?_
    cases h
    exact gsr cd_134_20 rfl rfl
  · rw [if_neg hc] at h
    refine gs_0 (pc' := 9) (L' := [some (.ref l0), some (.int l1)]) (st' := [.ref l0]) cd_134_8 rfl rfl ?_
    obtain ⟨ht, h⟩ := gO_s h
    obtain ⟨q_5, hv, h⟩ := gV_s h
    refine gs_gfR cd_134_9 (by decide) ht hv ?_
    refine gs_0 (pc' := 13) (L' := [some (.ref l0), some (.int l1)]) (st' := [.int l1, .ref q_5]) cd_134_12 rfl rfl ?_
    obtain ⟨ht, h⟩ := gA_s h
    refine gs_lald cd_134_13 ht ?_
    refine gs_0 (pc' := 20) (L' := [some (.ref l0), some (.int l1)]) (st' := [.long (J_3 q_5 (l1 : Int32).toNatClampNeg)]) cd_134_14 rfl rfl ?_
    cases h
    exact gsr cd_134_20 rfl rfl
theorem cl_134 {K : Nat → Value} {k d : Nat} {l0 : Nat} {l1 : Int32} {w : aW} {I : aI} {J : aJ} {R : aR} (h : f_134 K k d l0 l1 w I J = some R) : Cl K (d + 1) 134 [.ref l0, .int l1] w I J = some R := Cl_of (ok_134 h)
/-! ProvedMachineModel.shape(I)J -/
set_option maxRecDepth 20000 in
theorem gl_135 : gcd.lookup 135 = some gw_135 := rfl
theorem cd_135_0 : sm_cd 135 0 = some (.aload_n 0, 1, 0, 0, 0, 0, 0, 0, 0) := cd_of gl_135 rfl
theorem cd_135_1 : sm_cd 135 1 = some (.iload_n 1, 1, 1, 0, 0, 0, 0, 0, 0) := cd_of gl_135 rfl
theorem cd_135_2 : sm_cd 135 2 = some (.invokevirtual 339, 3, 129, 0, 1, 2, 6, 0, 0) := cd_of gl_135 rfl
theorem cd_135_5 : sm_cd 135 5 = some (.ifCond .ne 9, 3, 14, 0, 0, 0, 0, 0, 0) := cd_of gl_135 rfl
theorem cd_135_8 : sm_cd 135 8 = some (.aload_n 0, 1, 0, 0, 0, 0, 0, 0, 0) := cd_of gl_135 rfl
theorem cd_135_9 : sm_cd 135 9 = some (.iconst 1, 1, 0, 0, 0, 0, 0, 1, 0) := cd_of gl_135 rfl
theorem cd_135_10 : sm_cd 135 10 = some (.invokevirtual 148, 3, 20, 0, 1, 2, 6, 0, 0) := cd_of gl_135 rfl
theorem cd_135_13 : sm_cd 135 13 = some (.lreturn, 1, 0, 0, 0, 0, 0, 0, 0) := cd_of gl_135 rfl
theorem cd_135_14 : sm_cd 135 14 = some (.aload_n 0, 1, 0, 0, 0, 0, 0, 0, 0) := cd_of gl_135 rfl
theorem cd_135_15 : sm_cd 135 15 = some (.getfield 102, 3, 6, 32, 2, 0, 0, 0, 0) := cd_of gl_135 rfl
theorem cd_135_18 : sm_cd 135 18 = some (.iload_n 1, 1, 1, 0, 0, 0, 0, 0, 0) := cd_of gl_135 rfl
theorem cd_135_19 : sm_cd 135 19 = some (.iaload, 1, 0, 0, 0, 0, 0, 0, 0) := cd_of gl_135 rfl
theorem cd_135_20 : sm_cd 135 20 = some (.ifCond .ge 7, 3, 27, 0, 0, 0, 0, 0, 0) := cd_of gl_135 rfl
theorem cd_135_23 : sm_cd 135 23 = some (.ldc2_w 359, 3, 0, 0, 0, 0, 0, 0, 3125) := cd_of gl_135 rfl
theorem cd_135_26 : sm_cd 135 26 = some (.lreturn, 1, 0, 0, 0, 0, 0, 0, 0) := cd_of gl_135 rfl
theorem cd_135_27 : sm_cd 135 27 = some (.lconst 0, 1, 0, 0, 0, 0, 0, 0, 0) := cd_of gl_135 rfl
theorem cd_135_28 : sm_cd 135 28 = some (.lstore_n 2, 1, 2, 0, 0, 0, 0, 0, 0) := cd_of gl_135 rfl
theorem cd_135_29 : sm_cd 135 29 = some (.iconst 0, 1, 0, 0, 0, 0, 0, 0, 0) := cd_of gl_135 rfl
theorem cd_135_30 : sm_cd 135 30 = some (.istore 4, 2, 4, 0, 0, 0, 0, 0, 0) := cd_of gl_135 rfl
theorem cd_135_32 : sm_cd 135 32 = some (.iload 4, 2, 4, 0, 0, 0, 0, 0, 0) := cd_of gl_135 rfl
theorem cd_135_34 : sm_cd 135 34 = some (.aload_n 0, 1, 0, 0, 0, 0, 0, 0, 0) := cd_of gl_135 rfl
theorem cd_135_35 : sm_cd 135 35 = some (.getfield 102, 3, 6, 32, 2, 0, 0, 0, 0) := cd_of gl_135 rfl
theorem cd_135_38 : sm_cd 135 38 = some (.iload_n 1, 1, 1, 0, 0, 0, 0, 0, 0) := cd_of gl_135 rfl
theorem cd_135_39 : sm_cd 135 39 = some (.iaload, 1, 0, 0, 0, 0, 0, 0, 0) := cd_of gl_135 rfl
theorem cd_135_40 : sm_cd 135 40 = some (.if_icmp .ge 31, 3, 71, 0, 0, 0, 0, 0, 0) := cd_of gl_135 rfl
theorem cd_135_43 : sm_cd 135 43 = some (.ldc2_w 361, 3, 0, 0, 0, 0, 0, 0, 5) := cd_of gl_135 rfl
theorem cd_135_46 : sm_cd 135 46 = some (.lload_n 2, 1, 2, 0, 0, 0, 0, 0, 0) := cd_of gl_135 rfl
theorem cd_135_47 : sm_cd 135 47 = some (.lmul, 1, 0, 0, 0, 0, 0, 0, 0) := cd_of gl_135 rfl
theorem cd_135_48 : sm_cd 135 48 = some (.aload_n 0, 1, 0, 0, 0, 0, 0, 0, 0) := cd_of gl_135 rfl
theorem cd_135_49 : sm_cd 135 49 = some (.getfield 105, 3, 6, 33, 2, 0, 0, 0, 0) := cd_of gl_135 rfl
theorem cd_135_52 : sm_cd 135 52 = some (.bipush 64, 2, 0, 0, 0, 0, 0, 64, 0) := cd_of gl_135 rfl
theorem cd_135_54 : sm_cd 135 54 = some (.iload_n 1, 1, 1, 0, 0, 0, 0, 0, 0) := cd_of gl_135 rfl
theorem cd_135_55 : sm_cd 135 55 = some (.imul, 1, 0, 0, 0, 0, 0, 0, 0) := cd_of gl_135 rfl
theorem cd_135_56 : sm_cd 135 56 = some (.iload 4, 2, 4, 0, 0, 0, 0, 0, 0) := cd_of gl_135 rfl
theorem cd_135_58 : sm_cd 135 58 = some (.iadd, 1, 0, 0, 0, 0, 0, 0, 0) := cd_of gl_135 rfl
theorem cd_135_59 : sm_cd 135 59 = some (.iaload, 1, 0, 0, 0, 0, 0, 0, 0) := cd_of gl_135 rfl
theorem cd_135_60 : sm_cd 135 60 = some (.i2l, 1, 0, 0, 0, 0, 0, 0, 0) := cd_of gl_135 rfl
theorem cd_135_61 : sm_cd 135 61 = some (.ladd, 1, 0, 0, 0, 0, 0, 0, 0) := cd_of gl_135 rfl
theorem cd_135_62 : sm_cd 135 62 = some (.lconst 1, 1, 0, 0, 0, 0, 0, 0, 1) := cd_of gl_135 rfl
theorem cd_135_63 : sm_cd 135 63 = some (.ladd, 1, 0, 0, 0, 0, 0, 0, 0) := cd_of gl_135 rfl
theorem cd_135_64 : sm_cd 135 64 = some (.lstore_n 2, 1, 2, 0, 0, 0, 0, 0, 0) := cd_of gl_135 rfl
theorem cd_135_65 : sm_cd 135 65 = some (.iinc 4 1, 3, 4, 0, 0, 0, 0, 1, 0) := cd_of gl_135 rfl
theorem cd_135_68 : sm_cd 135 68 = some (.goto (-36), 3, 32, 0, 0, 0, 0, 0, 0) := cd_of gl_135 rfl
theorem cd_135_71 : sm_cd 135 71 = some (.lload_n 2, 1, 2, 0, 0, 0, 0, 0, 0) := cd_of gl_135 rfl
theorem cd_135_72 : sm_cd 135 72 = some (.lreturn, 1, 0, 0, 0, 0, 0, 0, 0) := cd_of gl_135 rfl
noncomputable def f_135_32 (K : Nat → Value) (k : Nat) (d : Nat) : Nat → Int32 → Int64 → Int32 → aW → aI → aJ → Option aR :=
  match k with
  | 0 => fun _ _ _ _ _ _ _ => none
  | k + 1 => fun l0 l1 l2 l4 w I J =>
  lt_ (f_135_32 K k d) fun r32 =>
  gO w 6 l0 (
  gV w l0 32 fun q_1 =>
  gA w 10 20 q_1 l1 (
  if (I q_1 (l1 : Int32).toNatClampNeg) ≤ l4 then
    some (some (.long l2), w, I, J)
  else
    gO w 6 l0 (
    gV w l0 33 fun q_2 =>
    gA w 10 20 q_2 ((64 * l1) + l4) (
    lt_ (((5 * l2) + ((I q_2 ((64 * l1) + l4 : Int32).toNatClampNeg : Int32).toInt64)) + 1) fun x_3 =>
    lt_ (l4 + 1) fun x_4 =>
    r32 l0 l1 x_3 x_4 w I J))))
theorem ok_135_32 {K : Nat → Value} {d : Nat} : ∀ {k : Nat} {l0 : Nat} {l1 : Int32} {l2 : Int64} {l4 : Int32} {w : aW} {I : aI} {J : aJ} {R : aR}, f_135_32 K k d l0 l1 l2 l4 w I J = some R → Go K (d + 1) 135 32 [some (.ref l0), some (.int l1), some (.long l2), none, some (.int l4)] [] w I J R := by
  intro k
  induction k with
  | zero => intro l0 l1 l2 l4 w I J R h; cases h
  | succ k ih =>
    intro l0 l1 l2 l4 w I J R h
    have hr32 : ∀ (l0 : Nat) (l1 : Int32) (l2 : Int64) (l4 : Int32) (w : aW) (I : aI) (J : aJ) (R : aR), f_135_32 K k d l0 l1 l2 l4 w I J = some R → Go K (d + 1) 135 32 [some (.ref l0), some (.int l1), some (.long l2), none, some (.int l4)] [] w I J R := fun l0 l1 l2 l4 w I J R h => ih h
    rw [f_135_32] at h
    obtain ⟨r32, hx, h⟩ := lt_s_ h
    rw [hx] at hr32
    clear hx ih
    refine gs_0 (pc' := 34) (L' := [some (.ref l0), some (.int l1), some (.long l2), none, some (.int l4)]) (st' := [.int l4]) cd_135_32 rfl rfl ?_
    refine gs_0 (pc' := 35) (L' := [some (.ref l0), some (.int l1), some (.long l2), none, some (.int l4)]) (st' := [.ref l0, .int l4]) cd_135_34 rfl rfl ?_
    obtain ⟨ht, h⟩ := gO_s h
    obtain ⟨q_1, hv, h⟩ := gV_s h
    refine gs_gfR cd_135_35 (by decide) ht hv ?_
    refine gs_0 (pc' := 39) (L' := [some (.ref l0), some (.int l1), some (.long l2), none, some (.int l4)]) (st' := [.int l1, .ref q_1, .int l4]) cd_135_38 rfl rfl ?_
    obtain ⟨ht, h⟩ := gA_s h
    refine gs_iald cd_135_39 ht ?_
    refine gs_0 (pc' := if (I q_1 (l1 : Int32).toNatClampNeg) ≤ l4 then 71 else 43) (L' := [some (.ref l0), some (.int l1), some (.long l2), none, some (.int l4)]) (st' := []) cd_135_40 rfl rfl ?_
    refine go_ite (fun hc => ?_) (fun hc => ?_)
    · rw [if_pos hc] at h
      refine gs_0 (pc' := 72) (L' := [some (.ref l0), some (.int l1), some (.long l2), none, some (.int l4)]) (st' := [.long l2]) cd_135_71 rfl rfl ?_
      cases h
      exact gsr cd_135_72 rfl rfl
    · rw [if_neg hc] at h
      refine gs_0 (pc' := 46) (L' := [some (.ref l0), some (.int l1), some (.long l2), none, some (.int l4)]) (st' := [.long 5]) cd_135_43 rfl rfl ?_
      refine gs_0 (pc' := 47) (L' := [some (.ref l0), some (.int l1), some (.long l2), none, some (.int l4)]) (st' := [.long l2, .long 5]) cd_135_46 rfl rfl ?_
      refine gs_0 (pc' := 48) (L' := [some (.ref l0), some (.int l1), some (.long l2), none, some (.int l4)]) (st' := [.long (5 * l2)]) cd_135_47 rfl rfl ?_
      refine gs_0 (pc' := 49) (L' := [some (.ref l0), some (.int l1), some (.long l2), none, some (.int l4)]) (st' := [.ref l0, .long (5 * l2)]) cd_135_48 rfl rfl ?_
      obtain ⟨ht, h⟩ := gO_s h
      obtain ⟨q_2, hv, h⟩ := gV_s h
      refine gs_gfR cd_135_49 (by decide) ht hv ?_
      refine gs_0 (pc' := 54) (L' := [some (.ref l0), some (.int l1), some (.long l2), none, some (.int l4)]) (st' := [.int 64, .ref q_2, .long (5 * l2)]) cd_135_52 rfl rfl ?_
      refine gs_0 (pc' := 55) (L' := [some (.ref l0), some (.int l1), some (.long l2), none, some (.int l4)]) (st' := [.int l1, .int 64, .ref q_2, .long (5 * l2)]) cd_135_54 rfl rfl ?_
      refine gs_0 (pc' := 56) (L' := [some (.ref l0), some (.int l1), some (.long l2), none, some (.int l4)]) (st' := [.int (64 * l1), .ref q_2, .long (5 * l2)]) cd_135_55 rfl rfl ?_
      refine gs_0 (pc' := 58) (L' := [some (.ref l0), some (.int l1), some (.long l2), none, some (.int l4)]) (st' := [.int l4, .int (64 * l1), .ref q_2, .long (5 * l2)]) cd_135_56 rfl rfl ?_
      refine gs_0 (pc' := 59) (L' := [some (.ref l0), some (.int l1), some (.long l2), none, some (.int l4)]) (st' := [.int ((64 * l1) + l4), .ref q_2, .long (5 * l2)]) cd_135_58 rfl rfl ?_
      obtain ⟨ht, h⟩ := gA_s h
      refine gs_iald cd_135_59 ht ?_
      refine gs_0 (pc' := 61) (L' := [some (.ref l0), some (.int l1), some (.long l2), none, some (.int l4)]) (st' := [.long ((I q_2 ((64 * l1) + l4 : Int32).toNatClampNeg : Int32).toInt64), .long (5 * l2)]) cd_135_60 rfl rfl ?_
      refine gs_0 (pc' := 62) (L' := [some (.ref l0), some (.int l1), some (.long l2), none, some (.int l4)]) (st' := [.long ((5 * l2) + ((I q_2 ((64 * l1) + l4 : Int32).toNatClampNeg : Int32).toInt64))]) cd_135_61 rfl rfl ?_
      refine gs_0 (pc' := 63) (L' := [some (.ref l0), some (.int l1), some (.long l2), none, some (.int l4)]) (st' := [.long 1, .long ((5 * l2) + ((I q_2 ((64 * l1) + l4 : Int32).toNatClampNeg : Int32).toInt64))]) cd_135_62 rfl rfl ?_
      refine gs_0 (pc' := 64) (L' := [some (.ref l0), some (.int l1), some (.long l2), none, some (.int l4)]) (st' := [.long (((5 * l2) + ((I q_2 ((64 * l1) + l4 : Int32).toNatClampNeg : Int32).toInt64)) + 1)]) cd_135_63 rfl rfl ?_
      refine gs_0 (pc' := 65) (L' := [some (.ref l0), some (.int l1), some (.long (((5 * l2) + ((I q_2 ((64 * l1) + l4 : Int32).toNatClampNeg : Int32).toInt64)) + 1)), none, some (.int l4)]) (st' := []) cd_135_64 rfl rfl ?_
      obtain ⟨x_3, hx, h⟩ := lt_s_ h
      rw [hx]
      clear hx
      refine gs_0 (pc' := 68) (L' := [some (.ref l0), some (.int l1), some (.long x_3), none, some (.int (l4 + 1))]) (st' := []) cd_135_65 rfl rfl ?_
      obtain ⟨x_4, hx, h⟩ := lt_s_ h
      rw [hx]
      clear hx
      refine gs_0 (pc' := 32) (L' := [some (.ref l0), some (.int l1), some (.long x_3), none, some (.int x_4)]) (st' := []) cd_135_68 rfl rfl ?_
      exact hr32 l0 l1 x_3 x_4 _ _ _ _ h
noncomputable def f_135 (K : Nat → Value) (k d : Nat) (l0 : Nat) (l1 : Int32) (w : aW) (I : aI) (J : aJ) : Option aR :=
  gO w 6 l0 (
  cI (Cl K d 129 [.ref l0, .int l1] w I J) fun x_4 w_1 I_2 J_3 =>
  if ¬ x_4 = 0 then
    gO w_1 6 l0 (
    gV w_1 l0 32 fun q_5 =>
    gA w_1 10 20 q_5 l1 (
    if 0 ≤ (I_2 q_5 (l1 : Int32).toNatClampNeg) then
      f_135_32 K k d l0 l1 0 0 w_1 I_2 J_3
    else
      some (some (.long 3125), w_1, I_2, J_3)))
  else
    gO w_1 6 l0 (
    cJ (Cl K d 20 [.ref l0, .int 1] w_1 I_2 J_3) fun v_9 w_6 I_7 J_8 =>
    some (some (.long v_9), w_6, I_7, J_8)))
theorem ok_135 {K : Nat → Value} {k d : Nat} {l0 : Nat} {l1 : Int32} {w : aW} {I : aI} {J : aJ} {R : aR} (h : f_135 K k d l0 l1 w I J = some R) : Go K (d + 1) 135 0 [some (.ref l0), some (.int l1), none, none, none] [] w I J R := by
  unfold f_135 at h
  refine gs_0 (pc' := 1) (L' := [some (.ref l0), some (.int l1), none, none, none]) (st' := [.ref l0]) cd_135_0 rfl rfl ?_
  refine gs_0 (pc' := 2) (L' := [some (.ref l0), some (.int l1), none, none, none]) (st' := [.int l1, .ref l0]) cd_135_1 rfl rfl ?_
  obtain ⟨ht, h⟩ := gO_s h
  obtain ⟨x_4, w_1, I_2, J_3, hcl, h⟩ := cI_s h
  refine gs_call (as := [.ref l0, .int l1]) (rest := []) cd_135_2 rfl (by decide) rfl (sm_rv_ok (by decide) ht) (Nat.le_of_ble_eq_true rfl) (Nat.le_of_ble_eq_true rfl) rfl hcl ?_
  refine gs_0 (pc' := if ¬ x_4 = 0 then 14 else 8) (L' := [some (.ref l0), some (.int l1), none, none, none]) (st' := []) cd_135_5 rfl rfl ?_
  refine go_ite (fun hc => ?_) (fun hc => ?_)
  · rw [if_pos hc] at h
    refine gs_0 (pc' := 15) (L' := [some (.ref l0), some (.int l1), none, none, none]) (st' := [.ref l0]) cd_135_14 rfl rfl ?_
    obtain ⟨ht, h⟩ := gO_s h
    obtain ⟨q_5, hv, h⟩ := gV_s h
    refine gs_gfR cd_135_15 (by decide) ht hv ?_
    refine gs_0 (pc' := 19) (L' := [some (.ref l0), some (.int l1), none, none, none]) (st' := [.int l1, .ref q_5]) cd_135_18 rfl rfl ?_
    obtain ⟨ht, h⟩ := gA_s h
    refine gs_iald cd_135_19 ht ?_
    refine gs_0 (pc' := if 0 ≤ (I_2 q_5 (l1 : Int32).toNatClampNeg) then 27 else 23) (L' := [some (.ref l0), some (.int l1), none, none, none]) (st' := []) cd_135_20 rfl rfl ?_
    refine go_ite (fun hc => ?_) (fun hc => ?_)
    · rw [if_pos hc] at h
      refine gs_0 (pc' := 28) (L' := [some (.ref l0), some (.int l1), none, none, none]) (st' := [.long 0]) cd_135_27 rfl rfl ?_
      refine gs_0 (pc' := 29) (L' := [some (.ref l0), some (.int l1), some (.long 0), none, none]) (st' := []) cd_135_28 rfl rfl ?_
      refine gs_0 (pc' := 30) (L' := [some (.ref l0), some (.int l1), some (.long 0), none, none]) (st' := [.int 0]) cd_135_29 rfl rfl ?_
      refine gs_0 (pc' := 32) (L' := [some (.ref l0), some (.int l1), some (.long 0), none, some (.int 0)]) (st' := []) cd_135_30 rfl rfl ?_
      exact ok_135_32 h
    · rw [if_neg hc] at h
      refine gs_0 (pc' := 26) (L' := [some (.ref l0), some (.int l1), none, none, none]) (st' := [.long 3125]) cd_135_23 rfl rfl ?_
      cases h
      exact gsr cd_135_26 rfl rfl
  · rw [if_neg hc] at h
    refine gs_0 (pc' := 9) (L' := [some (.ref l0), some (.int l1), none, none, none]) (st' := [.ref l0]) cd_135_8 rfl rfl ?_
    refine gs_0 (pc' := 10) (L' := [some (.ref l0), some (.int l1), none, none, none]) (st' := [.int 1, .ref l0]) cd_135_9 rfl rfl ?_
    obtain ⟨ht, h⟩ := gO_s h
    obtain ⟨v_9, w_6, I_7, J_8, hcl, h⟩ := cJ_s h
    refine gs_call (as := [.ref l0, .int 1]) (rest := []) cd_135_10 rfl (by decide) rfl (sm_rv_ok (by decide) ht) (Nat.le_of_ble_eq_true rfl) (Nat.le_of_ble_eq_true rfl) rfl hcl ?_
    cases h
    exact gsr cd_135_13 rfl rfl
theorem cl_135 {K : Nat → Value} {k d : Nat} {l0 : Nat} {l1 : Int32} {w : aW} {I : aI} {J : aJ} {R : aR} (h : f_135 K k d l0 l1 w I J = some R) : Cl K (d + 1) 135 [.ref l0, .int l1] w I J = some R := Cl_of (ok_135 h)
/-! ProvedMachine.fun(II)J -/
set_option maxRecDepth 20000 in
theorem gl_136 : gcd.lookup 136 = some gw_136 := rfl
theorem cd_136_0 : sm_cd 136 0 = some (.iload_n 1, 1, 1, 0, 0, 0, 0, 0, 0) := cd_of gl_136 rfl
theorem cd_136_1 : sm_cd 136 1 = some (.ifCond .lt 23, 3, 24, 0, 0, 0, 0, 0, 0) := cd_of gl_136 rfl
theorem cd_136_4 : sm_cd 136 4 = some (.iload_n 1, 1, 1, 0, 0, 0, 0, 0, 0) := cd_of gl_136 rfl
theorem cd_136_5 : sm_cd 136 5 = some (.aload_n 0, 1, 0, 0, 0, 0, 0, 0, 0) := cd_of gl_136 rfl
theorem cd_136_6 : sm_cd 136 6 = some (.getfield 27, 3, 5, 3, 2, 0, 0, 0, 0) := cd_of gl_136 rfl
theorem cd_136_9 : sm_cd 136 9 = some (.getfield 100, 3, 1, 7, 0, 1, 0, 0, 0) := cd_of gl_136 rfl
theorem cd_136_12 : sm_cd 136 12 = some (.if_icmp .ge 12, 3, 24, 0, 0, 0, 0, 0, 0) := cd_of gl_136 rfl
theorem cd_136_15 : sm_cd 136 15 = some (.iload_n 2, 1, 2, 0, 0, 0, 0, 0, 0) := cd_of gl_136 rfl
theorem cd_136_16 : sm_cd 136 16 = some (.ifCond .lt 8, 3, 24, 0, 0, 0, 0, 0, 0) := cd_of gl_136 rfl
theorem cd_136_19 : sm_cd 136 19 = some (.iload_n 2, 1, 2, 0, 0, 0, 0, 0, 0) := cd_of gl_136 rfl
theorem cd_136_20 : sm_cd 136 20 = some (.iconst 4, 1, 0, 0, 0, 0, 0, 4, 0) := cd_of gl_136 rfl
theorem cd_136_21 : sm_cd 136 21 = some (.if_icmp .lt 9, 3, 30, 0, 0, 0, 0, 0, 0) := cd_of gl_136 rfl
theorem cd_136_24 : sm_cd 136 24 = some (.aload_n 0, 1, 0, 0, 0, 0, 0, 0, 0) := cd_of gl_136 rfl
theorem cd_136_25 : sm_cd 136 25 = some (.iconst 1, 1, 0, 0, 0, 0, 0, 1, 0) := cd_of gl_136 rfl
theorem cd_136_26 : sm_cd 136 26 = some (.invokevirtual 60, 3, 17, 0, 1, 2, 5, 0, 0) := cd_of gl_136 rfl
theorem cd_136_29 : sm_cd 136 29 = some (.lreturn, 1, 0, 0, 0, 0, 0, 0, 0) := cd_of gl_136 rfl
theorem cd_136_30 : sm_cd 136 30 = some (.aload_n 0, 1, 0, 0, 0, 0, 0, 0, 0) := cd_of gl_136 rfl
theorem cd_136_31 : sm_cd 136 31 = some (.getfield 27, 3, 5, 3, 2, 0, 0, 0, 0) := cd_of gl_136 rfl
theorem cd_136_34 : sm_cd 136 34 = some (.iload_n 1, 1, 1, 0, 0, 0, 0, 0, 0) := cd_of gl_136 rfl
theorem cd_136_35 : sm_cd 136 35 = some (.iload_n 2, 1, 2, 0, 0, 0, 0, 0, 0) := cd_of gl_136 rfl
theorem cd_136_36 : sm_cd 136 36 = some (.invokevirtual 103, 3, 52, 0, 2, 4, 1, 0, 0) := cd_of gl_136 rfl
theorem cd_136_39 : sm_cd 136 39 = some (.i2l, 1, 0, 0, 0, 0, 0, 0, 0) := cd_of gl_136 rfl
theorem cd_136_40 : sm_cd 136 40 = some (.lreturn, 1, 0, 0, 0, 0, 0, 0, 0) := cd_of gl_136 rfl
noncomputable def f_136_24 (K : Nat → Value) (k d : Nat) (l0 : Nat) (l1 : Int32) (l2 : Int32) (w : aW) (I : aI) (J : aJ) : Option aR :=
  gO w 5 l0 (
  cJ (Cl K d 17 [.ref l0, .int 1] w I J) fun v_4 w_1 I_2 J_3 =>
  some (some (.long v_4), w_1, I_2, J_3))
theorem ok_136_24 {K : Nat → Value} {k d : Nat} {l0 : Nat} {l1 : Int32} {l2 : Int32} {w : aW} {I : aI} {J : aJ} {R : aR} (h : f_136_24 K k d l0 l1 l2 w I J = some R) : Go K (d + 1) 136 24 [some (.ref l0), some (.int l1), some (.int l2)] [] w I J R := by
  unfold f_136_24 at h
  refine gs_0 (pc' := 25) (L' := [some (.ref l0), some (.int l1), some (.int l2)]) (st' := [.ref l0]) cd_136_24 rfl rfl ?_
  refine gs_0 (pc' := 26) (L' := [some (.ref l0), some (.int l1), some (.int l2)]) (st' := [.int 1, .ref l0]) cd_136_25 rfl rfl ?_
  obtain ⟨ht, h⟩ := gO_s h
  obtain ⟨v_4, w_1, I_2, J_3, hcl, h⟩ := cJ_s h
  refine gs_call (as := [.ref l0, .int 1]) (rest := []) cd_136_26 rfl (by decide) rfl (sm_rv_ok (by decide) ht) (Nat.le_of_ble_eq_true rfl) (Nat.le_of_ble_eq_true rfl) rfl hcl ?_
  cases h
  exact gsr cd_136_29 rfl rfl
noncomputable def f_136 (K : Nat → Value) (k d : Nat) (l0 : Nat) (l1 : Int32) (l2 : Int32) (w : aW) (I : aI) (J : aJ) : Option aR :=
  if l1 < 0 then
    f_136_24 K k d l0 l1 l2 w I J
  else
    gO w 5 l0 (
    gV w l0 3 fun q_1 =>
    gO w 1 q_1 (
    if (I q_1 7) ≤ l1 then
      f_136_24 K k d l0 l1 l2 w I J
    else
      if l2 < 0 then
        f_136_24 K k d l0 l1 l2 w I J
      else
        if l2 < 4 then
          gO w 5 l0 (
          gV w l0 3 fun q_2 =>
          gO w 1 q_2 (
          cI (Cl K d 52 [.ref q_2, .int l1, .int l2] w I J) fun x_6 w_3 I_4 J_5 =>
          some (some (.long ((x_6 : Int32).toInt64)), w_3, I_4, J_5)))
        else
          f_136_24 K k d l0 l1 l2 w I J))
theorem ok_136 {K : Nat → Value} {k d : Nat} {l0 : Nat} {l1 : Int32} {l2 : Int32} {w : aW} {I : aI} {J : aJ} {R : aR} (h : f_136 K k d l0 l1 l2 w I J = some R) : Go K (d + 1) 136 0 [some (.ref l0), some (.int l1), some (.int l2)] [] w I J R := by
  unfold f_136 at h
  refine gs_0 (pc' := 1) (L' := [some (.ref l0), some (.int l1), some (.int l2)]) (st' := [.int l1]) cd_136_0 rfl rfl ?_
  refine gs_0 (pc' := if l1 < 0 then 24 else 4) (L' := [some (.ref l0), some (.int l1), some (.int l2)]) (st' := []) cd_136_1 rfl rfl ?_
  refine go_ite (fun hc => ?_) (fun hc => ?_)
  · rw [if_pos hc] at h
    exact ok_136_24 h
  · rw [if_neg hc] at h
    refine gs_0 (pc' := 5) (L' := [some (.ref l0), some (.int l1), some (.int l2)]) (st' := [.int l1]) cd_136_4 rfl rfl ?_
    refine gs_0 (pc' := 6) (L' := [some (.ref l0), some (.int l1), some (.int l2)]) (st' := [.ref l0, .int l1]) cd_136_5 rfl rfl ?_
    obtain ⟨ht, h⟩ := gO_s h
    obtain ⟨q_1, hv, h⟩ := gV_s h
    refine gs_gfR cd_136_6 (by decide) ht hv ?_
    obtain ⟨ht, h⟩ := gO_s h
    refine gs_gfI cd_136_9 (by decide) (by decide) ht ?_
    refine gs_0 (pc' := if (I q_1 7) ≤ l1 then 24 else 15) (L' := [some (.ref l0), some (.int l1), some (.int l2)]) (st' := []) cd_136_12 rfl rfl ?_
    refine go_ite (fun hc => ?_) (fun hc => ?_)
    · rw [if_pos hc] at h
      exact ok_136_24 h
    · rw [if_neg hc] at h
      refine gs_0 (pc' := 16) (L' := [some (.ref l0), some (.int l1), some (.int l2)]) (st' := [.int l2]) cd_136_15 rfl rfl ?_
      refine gs_0 (pc' := if l2 < 0 then 24 else 19) (L' := [some (.ref l0), some (.int l1), some (.int l2)]) (st' := []) cd_136_16 rfl rfl ?_
      refine go_ite (fun hc => ?_) (fun hc => ?_)
      · rw [if_pos hc] at h
        exact ok_136_24 h
      · rw [if_neg hc] at h
        refine gs_0 (pc' := 20) (L' := [some (.ref l0), some (.int l1), some (.int l2)]) (st' := [.int l2]) cd_136_19 rfl rfl ?_
        refine gs_0 (pc' := 21) (L' := [some (.ref l0), some (.int l1), some (.int l2)]) (st' := [.int 4, .int l2]) cd_136_20 rfl rfl ?_
        refine gs_0 (pc' := if l2 < 4 then 30 else 24) (L' := [some (.ref l0), some (.int l1), some (.int l2)]) (st' := []) cd_136_21 rfl rfl ?_
        refine go_ite (fun hc => ?_) (fun hc => ?_)
        · rw [if_pos hc] at h
          refine gs_0 (pc' := 31) (L' := [some (.ref l0), some (.int l1), some (.int l2)]) (st' := [.ref l0]) cd_136_30 rfl rfl ?_
          obtain ⟨ht, h⟩ := gO_s h
          obtain ⟨q_2, hv, h⟩ := gV_s h
          refine gs_gfR cd_136_31 (by decide) ht hv ?_
          refine gs_0 (pc' := 35) (L' := [some (.ref l0), some (.int l1), some (.int l2)]) (st' := [.int l1, .ref q_2]) cd_136_34 rfl rfl ?_
          refine gs_0 (pc' := 36) (L' := [some (.ref l0), some (.int l1), some (.int l2)]) (st' := [.int l2, .int l1, .ref q_2]) cd_136_35 rfl rfl ?_
          obtain ⟨ht, h⟩ := gO_s h
          obtain ⟨x_6, w_3, I_4, J_5, hcl, h⟩ := cI_s h
          refine gs_call (as := [.ref q_2, .int l1, .int l2]) (rest := []) cd_136_36 rfl (by decide) rfl (sm_rv_ok (by decide) ht) (Nat.le_of_ble_eq_true rfl) (Nat.le_of_ble_eq_true rfl) rfl hcl ?_
          refine gs_0 (pc' := 40) (L' := [some (.ref l0), some (.int l1), some (.int l2)]) (st' := [.long ((x_6 : Int32).toInt64)]) cd_136_39 rfl rfl ?_
          cases h
          exact gsr cd_136_40 rfl rfl
        · rw [if_neg hc] at h
          exact ok_136_24 h
theorem cl_136 {K : Nat → Value} {k d : Nat} {l0 : Nat} {l1 : Int32} {l2 : Int32} {w : aW} {I : aI} {J : aJ} {R : aR} (h : f_136 K k d l0 l1 l2 w I J = some R) : Cl K (d + 1) 136 [.ref l0, .int l1, .int l2] w I J = some R := Cl_of (ok_136 h)
/-! ProvedMachineModel.fun(II)J -/
set_option maxRecDepth 20000 in
theorem gl_137 : gcd.lookup 137 = some gw_137 := rfl
theorem cd_137_0 : sm_cd 137 0 = some (.iload_n 1, 1, 1, 0, 0, 0, 0, 0, 0) := cd_of gl_137 rfl
theorem cd_137_1 : sm_cd 137 1 = some (.iconst 0, 1, 0, 0, 0, 0, 0, 0, 0) := cd_of gl_137 rfl
theorem cd_137_2 : sm_cd 137 2 = some (.aload_n 0, 1, 0, 0, 0, 0, 0, 0, 0) := cd_of gl_137 rfl
theorem cd_137_3 : sm_cd 137 3 = some (.getfield 327, 3, 6, 16, 0, 0, 0, 0, 0) := cd_of gl_137 rfl
theorem cd_137_6 : sm_cd 137 6 = some (.iconst 1, 1, 0, 0, 0, 0, 0, 1, 0) := cd_of gl_137 rfl
theorem cd_137_7 : sm_cd 137 7 = some (.isub, 1, 0, 0, 0, 0, 0, 0, 0) := cd_of gl_137 rfl
theorem cd_137_8 : sm_cd 137 8 = some (.invokestatic 144, 3, 19, 1, 3, 3, 6, 0, 0) := cd_of gl_137 rfl
theorem cd_137_11 : sm_cd 137 11 = some (.ifCond .eq 12, 3, 23, 0, 0, 0, 0, 0, 0) := cd_of gl_137 rfl
theorem cd_137_14 : sm_cd 137 14 = some (.iload_n 2, 1, 2, 0, 0, 0, 0, 0, 0) := cd_of gl_137 rfl
theorem cd_137_15 : sm_cd 137 15 = some (.iconst 0, 1, 0, 0, 0, 0, 0, 0, 0) := cd_of gl_137 rfl
theorem cd_137_16 : sm_cd 137 16 = some (.iconst 3, 1, 0, 0, 0, 0, 0, 3, 0) := cd_of gl_137 rfl
theorem cd_137_17 : sm_cd 137 17 = some (.invokestatic 144, 3, 19, 1, 3, 3, 6, 0, 0) := cd_of gl_137 rfl
theorem cd_137_20 : sm_cd 137 20 = some (.ifCond .ne 9, 3, 29, 0, 0, 0, 0, 0, 0) := cd_of gl_137 rfl
theorem cd_137_23 : sm_cd 137 23 = some (.aload_n 0, 1, 0, 0, 0, 0, 0, 0, 0) := cd_of gl_137 rfl
theorem cd_137_24 : sm_cd 137 24 = some (.iconst 1, 1, 0, 0, 0, 0, 0, 1, 0) := cd_of gl_137 rfl
theorem cd_137_25 : sm_cd 137 25 = some (.invokevirtual 148, 3, 20, 0, 1, 2, 6, 0, 0) := cd_of gl_137 rfl
theorem cd_137_28 : sm_cd 137 28 = some (.lreturn, 1, 0, 0, 0, 0, 0, 0, 0) := cd_of gl_137 rfl
theorem cd_137_29 : sm_cd 137 29 = some (.aload_n 0, 1, 0, 0, 0, 0, 0, 0, 0) := cd_of gl_137 rfl
theorem cd_137_30 : sm_cd 137 30 = some (.getfield 47, 3, 6, 18, 2, 0, 0, 0, 0) := cd_of gl_137 rfl
theorem cd_137_33 : sm_cd 137 33 = some (.bipush 10, 2, 0, 0, 0, 0, 0, 10, 0) := cd_of gl_137 rfl
theorem cd_137_35 : sm_cd 137 35 = some (.iload_n 1, 1, 1, 0, 0, 0, 0, 0, 0) := cd_of gl_137 rfl
theorem cd_137_36 : sm_cd 137 36 = some (.imul, 1, 0, 0, 0, 0, 0, 0, 0) := cd_of gl_137 rfl
theorem cd_137_37 : sm_cd 137 37 = some (.iload_n 2, 1, 2, 0, 0, 0, 0, 0, 0) := cd_of gl_137 rfl
theorem cd_137_38 : sm_cd 137 38 = some (.iadd, 1, 0, 0, 0, 0, 0, 0, 0) := cd_of gl_137 rfl
theorem cd_137_39 : sm_cd 137 39 = some (.iaload, 1, 0, 0, 0, 0, 0, 0, 0) := cd_of gl_137 rfl
theorem cd_137_40 : sm_cd 137 40 = some (.i2l, 1, 0, 0, 0, 0, 0, 0, 0) := cd_of gl_137 rfl
theorem cd_137_41 : sm_cd 137 41 = some (.lreturn, 1, 0, 0, 0, 0, 0, 0, 0) := cd_of gl_137 rfl
noncomputable def f_137_23 (K : Nat → Value) (k d : Nat) (l0 : Nat) (l1 : Int32) (l2 : Int32) (w : aW) (I : aI) (J : aJ) : Option aR :=
  gO w 6 l0 (
  cJ (Cl K d 20 [.ref l0, .int 1] w I J) fun v_4 w_1 I_2 J_3 =>
  some (some (.long v_4), w_1, I_2, J_3))
theorem ok_137_23 {K : Nat → Value} {k d : Nat} {l0 : Nat} {l1 : Int32} {l2 : Int32} {w : aW} {I : aI} {J : aJ} {R : aR} (h : f_137_23 K k d l0 l1 l2 w I J = some R) : Go K (d + 1) 137 23 [some (.ref l0), some (.int l1), some (.int l2)] [] w I J R := by
  unfold f_137_23 at h
  refine gs_0 (pc' := 24) (L' := [some (.ref l0), some (.int l1), some (.int l2)]) (st' := [.ref l0]) cd_137_23 rfl rfl ?_
  refine gs_0 (pc' := 25) (L' := [some (.ref l0), some (.int l1), some (.int l2)]) (st' := [.int 1, .ref l0]) cd_137_24 rfl rfl ?_
  obtain ⟨ht, h⟩ := gO_s h
  obtain ⟨v_4, w_1, I_2, J_3, hcl, h⟩ := cJ_s h
  refine gs_call (as := [.ref l0, .int 1]) (rest := []) cd_137_25 rfl (by decide) rfl (sm_rv_ok (by decide) ht) (Nat.le_of_ble_eq_true rfl) (Nat.le_of_ble_eq_true rfl) rfl hcl ?_
  cases h
  exact gsr cd_137_28 rfl rfl
noncomputable def f_137 (K : Nat → Value) (k d : Nat) (l0 : Nat) (l1 : Int32) (l2 : Int32) (w : aW) (I : aI) (J : aJ) : Option aR :=
  gO w 6 l0 (
  cI (Cl K d 19 [.int l1, .int 0, .int ((I l0 16) - 1)] w I J) fun x_4 w_1 I_2 J_3 =>
  if x_4 = 0 then
    f_137_23 K k d l0 l1 l2 w_1 I_2 J_3
  else
    cI (Cl K d 19 [.int l2, .int 0, .int 3] w_1 I_2 J_3) fun x_8 w_5 I_6 J_7 =>
    if ¬ x_8 = 0 then
      gO w_5 6 l0 (
      gV w_5 l0 18 fun q_9 =>
      gA w_5 10 20 q_9 ((10 * l1) + l2) (
      some (some (.long ((I_6 q_9 ((10 * l1) + l2 : Int32).toNatClampNeg : Int32).toInt64)), w_5, I_6, J_7)))
    else
      f_137_23 K k d l0 l1 l2 w_5 I_6 J_7)
theorem ok_137 {K : Nat → Value} {k d : Nat} {l0 : Nat} {l1 : Int32} {l2 : Int32} {w : aW} {I : aI} {J : aJ} {R : aR} (h : f_137 K k d l0 l1 l2 w I J = some R) : Go K (d + 1) 137 0 [some (.ref l0), some (.int l1), some (.int l2)] [] w I J R := by
  unfold f_137 at h
  refine gs_0 (pc' := 1) (L' := [some (.ref l0), some (.int l1), some (.int l2)]) (st' := [.int l1]) cd_137_0 rfl rfl ?_
  refine gs_0 (pc' := 2) (L' := [some (.ref l0), some (.int l1), some (.int l2)]) (st' := [.int 0, .int l1]) cd_137_1 rfl rfl ?_
  refine gs_0 (pc' := 3) (L' := [some (.ref l0), some (.int l1), some (.int l2)]) (st' := [.ref l0, .int 0, .int l1]) cd_137_2 rfl rfl ?_
  obtain ⟨ht, h⟩ := gO_s h
  refine gs_gfI cd_137_3 (by decide) (by decide) ht ?_
  refine gs_0 (pc' := 7) (L' := [some (.ref l0), some (.int l1), some (.int l2)]) (st' := [.int 1, .int (I l0 16), .int 0, .int l1]) cd_137_6 rfl rfl ?_
  refine gs_0 (pc' := 8) (L' := [some (.ref l0), some (.int l1), some (.int l2)]) (st' := [.int ((I l0 16) - 1), .int 0, .int l1]) cd_137_7 rfl rfl ?_
  obtain ⟨x_4, w_1, I_2, J_3, hcl, h⟩ := cI_s h
  refine gs_call (as := [.int l1, .int 0, .int ((I l0 16) - 1)]) (rest := []) cd_137_8 rfl (by decide) rfl rfl (Nat.le_of_ble_eq_true rfl) (Nat.le_of_ble_eq_true rfl) rfl hcl ?_
  refine gs_0 (pc' := if x_4 = 0 then 23 else 14) (L' := [some (.ref l0), some (.int l1), some (.int l2)]) (st' := []) cd_137_11 rfl rfl ?_
  refine go_ite (fun hc => ?_) (fun hc => ?_)
  · rw [if_pos hc] at h
    exact ok_137_23 h
  · rw [if_neg hc] at h
    refine gs_0 (pc' := 15) (L' := [some (.ref l0), some (.int l1), some (.int l2)]) (st' := [.int l2]) cd_137_14 rfl rfl ?_
    refine gs_0 (pc' := 16) (L' := [some (.ref l0), some (.int l1), some (.int l2)]) (st' := [.int 0, .int l2]) cd_137_15 rfl rfl ?_
    refine gs_0 (pc' := 17) (L' := [some (.ref l0), some (.int l1), some (.int l2)]) (st' := [.int 3, .int 0, .int l2]) cd_137_16 rfl rfl ?_
    obtain ⟨x_8, w_5, I_6, J_7, hcl, h⟩ := cI_s h
    refine gs_call (as := [.int l2, .int 0, .int 3]) (rest := []) cd_137_17 rfl (by decide) rfl rfl (Nat.le_of_ble_eq_true rfl) (Nat.le_of_ble_eq_true rfl) rfl hcl ?_
    refine gs_0 (pc' := if ¬ x_8 = 0 then 29 else 23) (L' := [some (.ref l0), some (.int l1), some (.int l2)]) (st' := []) cd_137_20 rfl rfl ?_
    refine go_ite (fun hc => ?_) (fun hc => ?_)
    · rw [if_pos hc] at h
      refine gs_0 (pc' := 30) (L' := [some (.ref l0), some (.int l1), some (.int l2)]) (st' := [.ref l0]) cd_137_29 rfl rfl ?_
      obtain ⟨ht, h⟩ := gO_s h
      obtain ⟨q_9, hv, h⟩ := gV_s h
      refine gs_gfR cd_137_30 (by decide) ht hv ?_
      refine gs_0 (pc' := 35) (L' := [some (.ref l0), some (.int l1), some (.int l2)]) (st' := [.int 10, .ref q_9]) cd_137_33 rfl rfl ?_
      refine gs_0 (pc' := 36) (L' := [some (.ref l0), some (.int l1), some (.int l2)]) (st' := [.int l1, .int 10, .ref q_9]) cd_137_35 rfl rfl ?_
      refine gs_0 (pc' := 37) (L' := [some (.ref l0), some (.int l1), some (.int l2)]) (st' := [.int (10 * l1), .ref q_9]) cd_137_36 rfl rfl ?_
      refine gs_0 (pc' := 38) (L' := [some (.ref l0), some (.int l1), some (.int l2)]) (st' := [.int l2, .int (10 * l1), .ref q_9]) cd_137_37 rfl rfl ?_
      refine gs_0 (pc' := 39) (L' := [some (.ref l0), some (.int l1), some (.int l2)]) (st' := [.int ((10 * l1) + l2), .ref q_9]) cd_137_38 rfl rfl ?_
      obtain ⟨ht, h⟩ := gA_s h
      refine gs_iald cd_137_39 ht ?_
      refine gs_0 (pc' := 41) (L' := [some (.ref l0), some (.int l1), some (.int l2)]) (st' := [.long ((I_6 q_9 ((10 * l1) + l2 : Int32).toNatClampNeg : Int32).toInt64)]) cd_137_40 rfl rfl ?_
      cases h
      exact gsr cd_137_41 rfl rfl
    · rw [if_neg hc] at h
      exact ok_137_23 h
theorem cl_137 {K : Nat → Value} {k d : Nat} {l0 : Nat} {l1 : Int32} {l2 : Int32} {w : aW} {I : aI} {J : aJ} {R : aR} (h : f_137 K k d l0 l1 l2 w I J = some R) : Cl K (d + 1) 137 [.ref l0, .int l1, .int l2] w I J = some R := Cl_of (ok_137 h)
/-! ProvedMachine.start()J -/
set_option maxRecDepth 20000 in
theorem gl_138 : gcd.lookup 138 = some gw_138 := rfl
theorem cd_138_0 : sm_cd 138 0 = some (.aload_n 0, 1, 0, 0, 0, 0, 0, 0, 0) := cd_of gl_138 rfl
theorem cd_138_1 : sm_cd 138 1 = some (.getfield 27, 3, 5, 3, 2, 0, 0, 0, 0) := cd_of gl_138 rfl
theorem cd_138_4 : sm_cd 138 4 = some (.getfield 80, 3, 1, 6, 0, 1, 0, 0, 0) := cd_of gl_138 rfl
theorem cd_138_7 : sm_cd 138 7 = some (.ifCond .ne 10, 3, 17, 0, 0, 0, 0, 0, 0) := cd_of gl_138 rfl
theorem cd_138_10 : sm_cd 138 10 = some (.aload_n 0, 1, 0, 0, 0, 0, 0, 0, 0) := cd_of gl_138 rfl
theorem cd_138_11 : sm_cd 138 11 = some (.bipush 6, 2, 0, 0, 0, 0, 0, 6, 0) := cd_of gl_138 rfl
theorem cd_138_13 : sm_cd 138 13 = some (.invokevirtual 60, 3, 17, 0, 1, 2, 5, 0, 0) := cd_of gl_138 rfl
theorem cd_138_16 : sm_cd 138 16 = some (.lreturn, 1, 0, 0, 0, 0, 0, 0, 0) := cd_of gl_138 rfl
theorem cd_138_17 : sm_cd 138 17 = some (.aload_n 0, 1, 0, 0, 0, 0, 0, 0, 0) := cd_of gl_138 rfl
theorem cd_138_18 : sm_cd 138 18 = some (.getfield 36, 3, 5, 4, 2, 0, 0, 0, 0) := cd_of gl_138 rfl
theorem cd_138_21 : sm_cd 138 21 = some (.aload_n 0, 1, 0, 0, 0, 0, 0, 0, 0) := cd_of gl_138 rfl
theorem cd_138_22 : sm_cd 138 22 = some (.getfield 27, 3, 5, 3, 2, 0, 0, 0, 0) := cd_of gl_138 rfl
theorem cd_138_25 : sm_cd 138 25 = some (.invokevirtual 107, 3, 139, 0, 1, 3, 0, 0, 0) := cd_of gl_138 rfl
theorem cd_138_28 : sm_cd 138 28 = some (.aload_n 0, 1, 0, 0, 0, 0, 0, 0, 0) := cd_of gl_138 rfl
theorem cd_138_29 : sm_cd 138 29 = some (.iconst 1, 1, 0, 0, 0, 0, 0, 1, 0) := cd_of gl_138 rfl
theorem cd_138_30 : sm_cd 138 30 = some (.putfield 40, 3, 5, 5, 1, 0, 0, 0, 0) := cd_of gl_138 rfl
theorem cd_138_33 : sm_cd 138 33 = some (.aload_n 0, 1, 0, 0, 0, 0, 0, 0, 0) := cd_of gl_138 rfl
theorem cd_138_34 : sm_cd 138 34 = some (.getfield 27, 3, 5, 3, 2, 0, 0, 0, 0) := cd_of gl_138 rfl
theorem cd_138_37 : sm_cd 138 37 = some (.getfield 80, 3, 1, 6, 0, 1, 0, 0, 0) := cd_of gl_138 rfl
theorem cd_138_40 : sm_cd 138 40 = some (.i2l, 1, 0, 0, 0, 0, 0, 0, 0) := cd_of gl_138 rfl
theorem cd_138_41 : sm_cd 138 41 = some (.lreturn, 1, 0, 0, 0, 0, 0, 0, 0) := cd_of gl_138 rfl
noncomputable def f_138 (K : Nat → Value) (k d : Nat) (l0 : Nat) (w : aW) (I : aI) (J : aJ) : Option aR :=
  gO w 5 l0 (
  gV w l0 3 fun q_1 =>
  gO w 1 q_1 (
  if ¬ (I q_1 6) = 0 then
    gO w 5 l0 (
    gV w l0 4 fun q_2 =>
    gO w 5 l0 (
    gV w l0 3 fun q_3 =>
    gO w 0 q_2 (
    cV (Cl K d 139 [.ref q_2, .ref q_3] w I J) fun w_4 I_5 J_6 =>
    gO w_4 5 l0 (
    lt_ (sm_up2 I_5 l0 5 1) fun I_7 =>
    gO w_4 5 l0 (
    gV w_4 l0 3 fun q_8 =>
    gO w_4 1 q_8 (
    some (some (.long ((I_7 q_8 6 : Int32).toInt64)), w_4, I_7, J_6)))))))
  else
    gO w 5 l0 (
    cJ (Cl K d 17 [.ref l0, .int 6] w I J) fun v_12 w_9 I_10 J_11 =>
    some (some (.long v_12), w_9, I_10, J_11))))
theorem ok_138 {K : Nat → Value} {k d : Nat} {l0 : Nat} {w : aW} {I : aI} {J : aJ} {R : aR} (h : f_138 K k d l0 w I J = some R) : Go K (d + 1) 138 0 [some (.ref l0)] [] w I J R := by
  unfold f_138 at h
  refine gs_0 (pc' := 1) (L' := [some (.ref l0)]) (st' := [.ref l0]) cd_138_0 rfl rfl ?_
  obtain ⟨ht, h⟩ := gO_s h
  obtain ⟨q_1, hv, h⟩ := gV_s h
  refine gs_gfR cd_138_1 (by decide) ht hv ?_
  obtain ⟨ht, h⟩ := gO_s h
  refine gs_gfI cd_138_4 (by decide) (by decide) ht ?_
  refine gs_0 (pc' := if ¬ (I q_1 6) = 0 then 17 else 10) (L' := [some (.ref l0)]) (st' := []) cd_138_7 rfl rfl ?_
  refine go_ite (fun hc => ?_) (fun hc => ?_)
  · rw [if_pos hc] at h
    refine gs_0 (pc' := 18) (L' := [some (.ref l0)]) (st' := [.ref l0]) cd_138_17 rfl rfl ?_
    obtain ⟨ht, h⟩ := gO_s h
    obtain ⟨q_2, hv, h⟩ := gV_s h
    refine gs_gfR cd_138_18 (by decide) ht hv ?_
    refine gs_0 (pc' := 22) (L' := [some (.ref l0)]) (st' := [.ref l0, .ref q_2]) cd_138_21 rfl rfl ?_
    obtain ⟨ht, h⟩ := gO_s h
    obtain ⟨q_3, hv, h⟩ := gV_s h
    refine gs_gfR cd_138_22 (by decide) ht hv ?_
    obtain ⟨ht, h⟩ := gO_s h
    obtain ⟨w_4, I_5, J_6, hcl, h⟩ := cV_s h
    refine gs_call (as := [.ref q_2, .ref q_3]) (rest := []) cd_138_25 rfl (by decide) rfl (sm_rv_ok (by decide) ht) (Nat.le_of_ble_eq_true rfl) (Nat.le_of_ble_eq_true rfl) rfl hcl ?_
    refine gs_0 (pc' := 29) (L' := [some (.ref l0)]) (st' := [.ref l0]) cd_138_28 rfl rfl ?_
    refine gs_0 (pc' := 30) (L' := [some (.ref l0)]) (st' := [.int 1, .ref l0]) cd_138_29 rfl rfl ?_
    obtain ⟨ht, h⟩ := gO_s h
    refine gs_pfI cd_138_30 (by decide) (Or.inr ⟨rfl, Or.inr rfl⟩) ht ?_
    obtain ⟨I_7, hx, h⟩ := lt_s_ h
    rw [hx]
    refine gs_0 (pc' := 34) (L' := [some (.ref l0)]) (st' := [.ref l0]) cd_138_33 rfl rfl ?_
    obtain ⟨ht, h⟩ := gO_s h
    obtain ⟨q_8, hv, h⟩ := gV_s h
    refine gs_gfR cd_138_34 (by decide) ht hv ?_
    obtain ⟨ht, h⟩ := gO_s h
    refine gs_gfI cd_138_37 (by decide) (by decide) ht ?_
    refine gs_0 (pc' := 41) (L' := [some (.ref l0)]) (st' := [.long ((I_7 q_8 6 : Int32).toInt64)]) cd_138_40 rfl rfl ?_
    cases h
    exact gsr cd_138_41 rfl rfl
  · rw [if_neg hc] at h
    refine gs_0 (pc' := 11) (L' := [some (.ref l0)]) (st' := [.ref l0]) cd_138_10 rfl rfl ?_
    refine gs_0 (pc' := 13) (L' := [some (.ref l0)]) (st' := [.int 6, .ref l0]) cd_138_11 rfl rfl ?_
    obtain ⟨ht, h⟩ := gO_s h
    obtain ⟨v_12, w_9, I_10, J_11, hcl, h⟩ := cJ_s h
    refine gs_call (as := [.ref l0, .int 6]) (rest := []) cd_138_13 rfl (by decide) rfl (sm_rv_ok (by decide) ht) (Nat.le_of_ble_eq_true rfl) (Nat.le_of_ble_eq_true rfl) rfl hcl ?_
    cases h
    exact gsr cd_138_16 rfl rfl
theorem cl_138 {K : Nat → Value} {k d : Nat} {l0 : Nat} {w : aW} {I : aI} {J : aJ} {R : aR} (h : f_138 K k d l0 w I J = some R) : Cl K (d + 1) 138 [.ref l0] w I J = some R := Cl_of (ok_138 h)
/-! ProvedMachine$Machine.begin(LProvedMachine$Program;)V -/
set_option maxRecDepth 20000 in
theorem gl_139 : gcd.lookup 139 = some gw_139 := rfl
theorem cd_139_0 : sm_cd 139 0 = some (.aload_n 0, 1, 0, 0, 0, 0, 0, 0, 0) := cd_of gl_139 rfl
theorem cd_139_1 : sm_cd 139 1 = some (.aload_n 1, 1, 1, 0, 0, 0, 0, 0, 0) := cd_of gl_139 rfl
theorem cd_139_2 : sm_cd 139 2 = some (.putfield 39, 3, 0, 0, 2, 0, 0, 0, 0) := cd_of gl_139 rfl
theorem cd_139_5 : sm_cd 139 5 = some (.aload_n 0, 1, 0, 0, 0, 0, 0, 0, 0) := cd_of gl_139 rfl
theorem cd_139_6 : sm_cd 139 6 = some (.getfield 13, 3, 0, 1, 2, 0, 0, 0, 0) := cd_of gl_139 rfl
theorem cd_139_9 : sm_cd 139 9 = some (.iconst 0, 1, 0, 0, 0, 0, 0, 0, 0) := cd_of gl_139 rfl
theorem cd_139_10 : sm_cd 139 10 = some (.invokestatic 43, 3, 36, 1, 2, 4, 10, 0, 0) := cd_of gl_139 rfl
theorem cd_139_13 : sm_cd 139 13 = some (.aload_n 0, 1, 0, 0, 0, 0, 0, 0, 0) := cd_of gl_139 rfl
theorem cd_139_14 : sm_cd 139 14 = some (.iconst 0, 1, 0, 0, 0, 0, 0, 0, 0) := cd_of gl_139 rfl
theorem cd_139_15 : sm_cd 139 15 = some (.putfield 36, 3, 0, 8, 0, 0, 0, 0, 0) := cd_of gl_139 rfl
theorem cd_139_18 : sm_cd 139 18 = some (.aload_n 0, 1, 0, 0, 0, 0, 0, 0, 0) := cd_of gl_139 rfl
theorem cd_139_19 : sm_cd 139 19 = some (.getfield 39, 3, 0, 0, 2, 0, 0, 0, 0) := cd_of gl_139 rfl
theorem cd_139_22 : sm_cd 139 22 = some (.getfield 49, 3, 1, 7, 0, 1, 0, 0, 0) := cd_of gl_139 rfl
theorem cd_139_25 : sm_cd 139 25 = some (.iconst 1, 1, 0, 0, 0, 0, 0, 1, 0) := cd_of gl_139 rfl
theorem cd_139_26 : sm_cd 139 26 = some (.isub, 1, 0, 0, 0, 0, 0, 0, 0) := cd_of gl_139 rfl
theorem cd_139_27 : sm_cd 139 27 = some (.istore_n 2, 1, 2, 0, 0, 0, 0, 0, 0) := cd_of gl_139 rfl
theorem cd_139_28 : sm_cd 139 28 = some (.aload_n 0, 1, 0, 0, 0, 0, 0, 0, 0) := cd_of gl_139 rfl
theorem cd_139_29 : sm_cd 139 29 = some (.getfield 13, 3, 0, 1, 2, 0, 0, 0, 0) := cd_of gl_139 rfl
theorem cd_139_32 : sm_cd 139 32 = some (.iconst 4, 1, 0, 0, 0, 0, 0, 4, 0) := cd_of gl_139 rfl
theorem cd_139_33 : sm_cd 139 33 = some (.iconst 1, 1, 0, 0, 0, 0, 0, 1, 0) := cd_of gl_139 rfl
theorem cd_139_34 : sm_cd 139 34 = some (.iastore, 1, 0, 0, 0, 0, 0, 0, 0) := cd_of gl_139 rfl
theorem cd_139_35 : sm_cd 139 35 = some (.aload_n 0, 1, 0, 0, 0, 0, 0, 0, 0) := cd_of gl_139 rfl
theorem cd_139_36 : sm_cd 139 36 = some (.getfield 13, 3, 0, 1, 2, 0, 0, 0, 0) := cd_of gl_139 rfl
theorem cd_139_39 : sm_cd 139 39 = some (.bipush 87, 2, 0, 0, 0, 0, 0, 87, 0) := cd_of gl_139 rfl
theorem cd_139_41 : sm_cd 139 41 = some (.iload_n 2, 1, 2, 0, 0, 0, 0, 0, 0) := cd_of gl_139 rfl
theorem cd_139_42 : sm_cd 139 42 = some (.iastore, 1, 0, 0, 0, 0, 0, 0, 0) := cd_of gl_139 rfl
theorem cd_139_43 : sm_cd 139 43 = some (.aload_n 0, 1, 0, 0, 0, 0, 0, 0, 0) := cd_of gl_139 rfl
theorem cd_139_44 : sm_cd 139 44 = some (.getfield 13, 3, 0, 1, 2, 0, 0, 0, 0) := cd_of gl_139 rfl
theorem cd_139_47 : sm_cd 139 47 = some (.bipush 88, 2, 0, 0, 0, 0, 0, 88, 0) := cd_of gl_139 rfl
theorem cd_139_49 : sm_cd 139 49 = some (.aload_n 0, 1, 0, 0, 0, 0, 0, 0, 0) := cd_of gl_139 rfl
theorem cd_139_50 : sm_cd 139 50 = some (.getfield 39, 3, 0, 0, 2, 0, 0, 0, 0) := cd_of gl_139 rfl
theorem cd_139_53 : sm_cd 139 53 = some (.iload_n 2, 1, 2, 0, 0, 0, 0, 0, 0) := cd_of gl_139 rfl
theorem cd_139_54 : sm_cd 139 54 = some (.iconst 0, 1, 0, 0, 0, 0, 0, 0, 0) := cd_of gl_139 rfl
theorem cd_139_55 : sm_cd 139 55 = some (.invokevirtual 52, 3, 52, 0, 2, 4, 1, 0, 0) := cd_of gl_139 rfl
theorem cd_139_58 : sm_cd 139 58 = some (.iastore, 1, 0, 0, 0, 0, 0, 0, 0) := cd_of gl_139 rfl
theorem cd_139_59 : sm_cd 139 59 = some (.return_, 1, 0, 0, 0, 0, 0, 0, 0) := cd_of gl_139 rfl
noncomputable def f_139 (K : Nat → Value) (k d : Nat) (l0 : Nat) (l1 : Nat) (w : aW) (I : aI) (J : aJ) : Option aR :=
  gO w 0 l0 (
  lt_ (w.1, sm_up2 w.2.1 l0 0 (some l1), w.2.2) fun w_1 =>
  gO w_1 0 l0 (
  gV w_1 l0 1 fun q_2 =>
  cV (Cl K d 36 [.ref q_2, .int 0] w_1 I J) fun w_3 I_4 J_5 =>
  gO w_3 0 l0 (
  lt_ (sm_up2 I_4 l0 8 0) fun I_6 =>
  gO w_3 0 l0 (
  gV w_3 l0 0 fun q_7 =>
  gO w_3 1 q_7 (
  lt_ ((I_6 q_7 7) - 1) fun x_8 =>
  gO w_3 0 l0 (
  gV w_3 l0 1 fun q_9 =>
  gA w_3 10 10 q_9 4 (
  lt_ (sm_up2 I_6 q_9 (4 : Int32).toNatClampNeg 1) fun I_10 =>
  gO w_3 0 l0 (
  gV w_3 l0 1 fun q_11 =>
  gA w_3 10 10 q_11 87 (
  lt_ (sm_up2 I_10 q_11 (87 : Int32).toNatClampNeg x_8) fun I_12 =>
  gO w_3 0 l0 (
  gV w_3 l0 1 fun q_13 =>
  gO w_3 0 l0 (
  gV w_3 l0 0 fun q_14 =>
  gO w_3 1 q_14 (
  cI (Cl K d 52 [.ref q_14, .int x_8, .int 0] w_3 I_12 J_5) fun x_18 w_15 I_16 J_17 =>
  gA w_15 10 10 q_13 88 (
  lt_ (sm_up2 I_16 q_13 (88 : Int32).toNatClampNeg x_18) fun I_19 =>
  some (none, w_15, I_19, J_17))))))))))))))
theorem ok_139 {K : Nat → Value} {k d : Nat} {l0 : Nat} {l1 : Nat} {w : aW} {I : aI} {J : aJ} {R : aR} (h : f_139 K k d l0 l1 w I J = some R) : Go K (d + 1) 139 0 [some (.ref l0), some (.ref l1), none] [] w I J R := by
  unfold f_139 at h
  refine gs_0 (pc' := 1) (L' := [some (.ref l0), some (.ref l1), none]) (st' := [.ref l0]) cd_139_0 rfl rfl ?_
  refine gs_0 (pc' := 2) (L' := [some (.ref l0), some (.ref l1), none]) (st' := [.ref l1, .ref l0]) cd_139_1 rfl rfl ?_
  obtain ⟨ht, h⟩ := gO_s h
  refine gs_pfR cd_139_2 (by decide) ht ?_
  obtain ⟨w_1, hx, h⟩ := lt_s_ h
  rw [hx]
  refine gs_0 (pc' := 6) (L' := [some (.ref l0), some (.ref l1), none]) (st' := [.ref l0]) cd_139_5 rfl rfl ?_
  obtain ⟨ht, h⟩ := gO_s h
  obtain ⟨q_2, hv, h⟩ := gV_s h
  refine gs_gfR cd_139_6 (by decide) ht hv ?_
  refine gs_0 (pc' := 10) (L' := [some (.ref l0), some (.ref l1), none]) (st' := [.int 0, .ref q_2]) cd_139_9 rfl rfl ?_
  obtain ⟨w_3, I_4, J_5, hcl, h⟩ := cV_s h
  refine gs_call (as := [.ref q_2, .int 0]) (rest := []) cd_139_10 rfl (by decide) rfl rfl (Nat.le_of_ble_eq_true rfl) (Nat.le_of_ble_eq_true rfl) rfl hcl ?_
  refine gs_0 (pc' := 14) (L' := [some (.ref l0), some (.ref l1), none]) (st' := [.ref l0]) cd_139_13 rfl rfl ?_
  refine gs_0 (pc' := 15) (L' := [some (.ref l0), some (.ref l1), none]) (st' := [.int 0, .ref l0]) cd_139_14 rfl rfl ?_
  obtain ⟨ht, h⟩ := gO_s h
  refine gs_pfI cd_139_15 (by decide) (Or.inl rfl) ht ?_
  obtain ⟨I_6, hx, h⟩ := lt_s_ h
  rw [hx]
  refine gs_0 (pc' := 19) (L' := [some (.ref l0), some (.ref l1), none]) (st' := [.ref l0]) cd_139_18 rfl rfl ?_
  obtain ⟨ht, h⟩ := gO_s h
  obtain ⟨q_7, hv, h⟩ := gV_s h
  refine gs_gfR cd_139_19 (by decide) ht hv ?_
  obtain ⟨ht, h⟩ := gO_s h
  refine gs_gfI cd_139_22 (by decide) (by decide) ht ?_
  refine gs_0 (pc' := 26) (L' := [some (.ref l0), some (.ref l1), none]) (st' := [.int 1, .int (I_6 q_7 7)]) cd_139_25 rfl rfl ?_
  refine gs_0 (pc' := 27) (L' := [some (.ref l0), some (.ref l1), none]) (st' := [.int ((I_6 q_7 7) - 1)]) cd_139_26 rfl rfl ?_
  refine gs_0 (pc' := 28) (L' := [some (.ref l0), some (.ref l1), some (.int ((I_6 q_7 7) - 1))]) (st' := []) cd_139_27 rfl rfl ?_
  obtain ⟨x_8, hx, h⟩ := lt_s_ h
  rw [hx]
  clear hx
  refine gs_0 (pc' := 29) (L' := [some (.ref l0), some (.ref l1), some (.int x_8)]) (st' := [.ref l0]) cd_139_28 rfl rfl ?_
  obtain ⟨ht, h⟩ := gO_s h
  obtain ⟨q_9, hv, h⟩ := gV_s h
  refine gs_gfR cd_139_29 (by decide) ht hv ?_
  refine gs_0 (pc' := 33) (L' := [some (.ref l0), some (.ref l1), some (.int x_8)]) (st' := [.int 4, .ref q_9]) cd_139_32 rfl rfl ?_
  refine gs_0 (pc' := 34) (L' := [some (.ref l0), some (.ref l1), some (.int x_8)]) (st' := [.int 1, .int 4, .ref q_9]) cd_139_33 rfl rfl ?_
  obtain ⟨ht, h⟩ := gA_s h
  refine gs_iast cd_139_34 ht ?_
  obtain ⟨I_10, hx, h⟩ := lt_s_ h
  rw [hx]
  refine gs_0 (pc' := 36) (L' := [some (.ref l0), some (.ref l1), some (.int x_8)]) (st' := [.ref l0]) cd_139_35 rfl rfl ?_
  obtain ⟨ht, h⟩ := gO_s h
  obtain ⟨q_11, hv, h⟩ := gV_s h
  refine gs_gfR cd_139_36 (by decide) ht hv ?_
  refine gs_0 (pc' := 41) (L' := [some (.ref l0), some (.ref l1), some (.int x_8)]) (st' := [.int 87, .ref q_11]) cd_139_39 rfl rfl ?_
  refine gs_0 (pc' := 42) (L' := [some (.ref l0), some (.ref l1), some (.int x_8)]) (st' := [.int x_8, .int 87, .ref q_11]) cd_139_41 rfl rfl ?_
  obtain ⟨ht, h⟩ := gA_s h
  refine gs_iast cd_139_42 ht ?_
  obtain ⟨I_12, hx, h⟩ := lt_s_ h
  rw [hx]
  refine gs_0 (pc' := 44) (L' := [some (.ref l0), some (.ref l1), some (.int x_8)]) (st' := [.ref l0]) cd_139_43 rfl rfl ?_
  obtain ⟨ht, h⟩ := gO_s h
  obtain ⟨q_13, hv, h⟩ := gV_s h
  refine gs_gfR cd_139_44 (by decide) ht hv ?_
  refine gs_0 (pc' := 49) (L' := [some (.ref l0), some (.ref l1), some (.int x_8)]) (st' := [.int 88, .ref q_13]) cd_139_47 rfl rfl ?_
  refine gs_0 (pc' := 50) (L' := [some (.ref l0), some (.ref l1), some (.int x_8)]) (st' := [.ref l0, .int 88, .ref q_13]) cd_139_49 rfl rfl ?_
  obtain ⟨ht, h⟩ := gO_s h
  obtain ⟨q_14, hv, h⟩ := gV_s h
  refine gs_gfR cd_139_50 (by decide) ht hv ?_
  refine gs_0 (pc' := 54) (L' := [some (.ref l0), some (.ref l1), some (.int x_8)]) (st' := [.int x_8, .ref q_14, .int 88, .ref q_13]) cd_139_53 rfl rfl ?_
  refine gs_0 (pc' := 55) (L' := [some (.ref l0), some (.ref l1), some (.int x_8)]) (st' := [.int 0, .int x_8, .ref q_14, .int 88, .ref q_13]) cd_139_54 rfl rfl ?_
  obtain ⟨ht, h⟩ := gO_s h
  obtain ⟨x_18, w_15, I_16, J_17, hcl, h⟩ := cI_s h
  refine gs_call (as := [.ref q_14, .int x_8, .int 0]) (rest := [.int 88, .ref q_13]) cd_139_55 rfl (by decide) rfl (sm_rv_ok (by decide) ht) (Nat.le_of_ble_eq_true rfl) (Nat.le_of_ble_eq_true rfl) rfl hcl ?_
  obtain ⟨ht, h⟩ := gA_s h
  refine gs_iast cd_139_58 ht ?_
  obtain ⟨I_19, hx, h⟩ := lt_s_ h
  rw [hx]
  cases h
  exact gsr cd_139_59 rfl rfl
theorem cl_139 {K : Nat → Value} {k d : Nat} {l0 : Nat} {l1 : Nat} {w : aW} {I : aI} {J : aJ} {R : aR} (h : f_139 K k d l0 l1 w I J = some R) : Cl K (d + 1) 139 [.ref l0, .ref l1] w I J = some R := Cl_of (ok_139 h)
/-! ProvedMachineModel.start()J -/
set_option maxRecDepth 20000 in
theorem gl_140 : gcd.lookup 140 = some gw_140 := rfl
theorem cd_140_0 : sm_cd 140 0 = some (.aload_n 0, 1, 0, 0, 0, 0, 0, 0, 0) := cd_of gl_140 rfl
theorem cd_140_1 : sm_cd 140 1 = some (.getfield 330, 3, 6, 17, 0, 0, 0, 0, 0) := cd_of gl_140 rfl
theorem cd_140_4 : sm_cd 140 4 = some (.ifCond .ne 10, 3, 14, 0, 0, 0, 0, 0, 0) := cd_of gl_140 rfl
theorem cd_140_7 : sm_cd 140 7 = some (.aload_n 0, 1, 0, 0, 0, 0, 0, 0, 0) := cd_of gl_140 rfl
theorem cd_140_8 : sm_cd 140 8 = some (.bipush 6, 2, 0, 0, 0, 0, 0, 6, 0) := cd_of gl_140 rfl
theorem cd_140_10 : sm_cd 140 10 = some (.invokevirtual 148, 3, 20, 0, 1, 2, 6, 0, 0) := cd_of gl_140 rfl
theorem cd_140_13 : sm_cd 140 13 = some (.lreturn, 1, 0, 0, 0, 0, 0, 0, 0) := cd_of gl_140 rfl
theorem cd_140_14 : sm_cd 140 14 = some (.iconst 0, 1, 0, 0, 0, 0, 0, 0, 0) := cd_of gl_140 rfl
theorem cd_140_15 : sm_cd 140 15 = some (.istore_n 1, 1, 1, 0, 0, 0, 0, 0, 0) := cd_of gl_140 rfl
theorem cd_140_16 : sm_cd 140 16 = some (.iload_n 1, 1, 1, 0, 0, 0, 0, 0, 0) := cd_of gl_140 rfl
theorem cd_140_17 : sm_cd 140 17 = some (.sipush 360, 3, 0, 0, 0, 0, 0, 360, 0) := cd_of gl_140 rfl
theorem cd_140_20 : sm_cd 140 20 = some (.if_icmp .ge 16, 3, 36, 0, 0, 0, 0, 0, 0) := cd_of gl_140 rfl
theorem cd_140_23 : sm_cd 140 23 = some (.aload_n 0, 1, 0, 0, 0, 0, 0, 0, 0) := cd_of gl_140 rfl
theorem cd_140_24 : sm_cd 140 24 = some (.getfield 111, 3, 6, 36, 2, 0, 0, 0, 0) := cd_of gl_140 rfl
theorem cd_140_27 : sm_cd 140 27 = some (.iload_n 1, 1, 1, 0, 0, 0, 0, 0, 0) := cd_of gl_140 rfl
theorem cd_140_28 : sm_cd 140 28 = some (.iconst 0, 1, 0, 0, 0, 0, 0, 0, 0) := cd_of gl_140 rfl
theorem cd_140_29 : sm_cd 140 29 = some (.iastore, 1, 0, 0, 0, 0, 0, 0, 0) := cd_of gl_140 rfl
theorem cd_140_30 : sm_cd 140 30 = some (.iinc 1 1, 3, 1, 0, 0, 0, 0, 1, 0) := cd_of gl_140 rfl
theorem cd_140_33 : sm_cd 140 33 = some (.goto (-17), 3, 16, 0, 0, 0, 0, 0, 0) := cd_of gl_140 rfl
theorem cd_140_36 : sm_cd 140 36 = some (.aload_n 0, 1, 0, 0, 0, 0, 0, 0, 0) := cd_of gl_140 rfl
theorem cd_140_37 : sm_cd 140 37 = some (.getfield 111, 3, 6, 36, 2, 0, 0, 0, 0) := cd_of gl_140 rfl
theorem cd_140_40 : sm_cd 140 40 = some (.iconst 1, 1, 0, 0, 0, 0, 0, 1, 0) := cd_of gl_140 rfl
theorem cd_140_41 : sm_cd 140 41 = some (.iconst 1, 1, 0, 0, 0, 0, 0, 1, 0) := cd_of gl_140 rfl
theorem cd_140_42 : sm_cd 140 42 = some (.iastore, 1, 0, 0, 0, 0, 0, 0, 0) := cd_of gl_140 rfl
theorem cd_140_43 : sm_cd 140 43 = some (.aload_n 0, 1, 0, 0, 0, 0, 0, 0, 0) := cd_of gl_140 rfl
theorem cd_140_44 : sm_cd 140 44 = some (.getfield 111, 3, 6, 36, 2, 0, 0, 0, 0) := cd_of gl_140 rfl
theorem cd_140_47 : sm_cd 140 47 = some (.bipush 70, 2, 0, 0, 0, 0, 0, 70, 0) := cd_of gl_140 rfl
theorem cd_140_49 : sm_cd 140 49 = some (.aload_n 0, 1, 0, 0, 0, 0, 0, 0, 0) := cd_of gl_140 rfl
theorem cd_140_50 : sm_cd 140 50 = some (.getfield 327, 3, 6, 16, 0, 0, 0, 0, 0) := cd_of gl_140 rfl
theorem cd_140_53 : sm_cd 140 53 = some (.iconst 1, 1, 0, 0, 0, 0, 0, 1, 0) := cd_of gl_140 rfl
theorem cd_140_54 : sm_cd 140 54 = some (.isub, 1, 0, 0, 0, 0, 0, 0, 0) := cd_of gl_140 rfl
theorem cd_140_55 : sm_cd 140 55 = some (.iastore, 1, 0, 0, 0, 0, 0, 0, 0) := cd_of gl_140 rfl
theorem cd_140_56 : sm_cd 140 56 = some (.aload_n 0, 1, 0, 0, 0, 0, 0, 0, 0) := cd_of gl_140 rfl
theorem cd_140_57 : sm_cd 140 57 = some (.getfield 111, 3, 6, 36, 2, 0, 0, 0, 0) := cd_of gl_140 rfl
theorem cd_140_60 : sm_cd 140 60 = some (.bipush 71, 2, 0, 0, 0, 0, 0, 71, 0) := cd_of gl_140 rfl
theorem cd_140_62 : sm_cd 140 62 = some (.aload_n 0, 1, 0, 0, 0, 0, 0, 0, 0) := cd_of gl_140 rfl
theorem cd_140_63 : sm_cd 140 63 = some (.getfield 47, 3, 6, 18, 2, 0, 0, 0, 0) := cd_of gl_140 rfl
theorem cd_140_66 : sm_cd 140 66 = some (.bipush 10, 2, 0, 0, 0, 0, 0, 10, 0) := cd_of gl_140 rfl
theorem cd_140_68 : sm_cd 140 68 = some (.aload_n 0, 1, 0, 0, 0, 0, 0, 0, 0) := cd_of gl_140 rfl
theorem cd_140_69 : sm_cd 140 69 = some (.getfield 327, 3, 6, 16, 0, 0, 0, 0, 0) := cd_of gl_140 rfl
theorem cd_140_72 : sm_cd 140 72 = some (.iconst 1, 1, 0, 0, 0, 0, 0, 1, 0) := cd_of gl_140 rfl
theorem cd_140_73 : sm_cd 140 73 = some (.isub, 1, 0, 0, 0, 0, 0, 0, 0) := cd_of gl_140 rfl
theorem cd_140_74 : sm_cd 140 74 = some (.imul, 1, 0, 0, 0, 0, 0, 0, 0) := cd_of gl_140 rfl
theorem cd_140_75 : sm_cd 140 75 = some (.iaload, 1, 0, 0, 0, 0, 0, 0, 0) := cd_of gl_140 rfl
theorem cd_140_76 : sm_cd 140 76 = some (.iastore, 1, 0, 0, 0, 0, 0, 0, 0) := cd_of gl_140 rfl
theorem cd_140_77 : sm_cd 140 77 = some (.aload_n 0, 1, 0, 0, 0, 0, 0, 0, 0) := cd_of gl_140 rfl
theorem cd_140_78 : sm_cd 140 78 = some (.iconst 0, 1, 0, 0, 0, 0, 0, 0, 0) := cd_of gl_140 rfl
theorem cd_140_79 : sm_cd 140 79 = some (.putfield 363, 3, 6, 41, 0, 0, 0, 0, 0) := cd_of gl_140 rfl
theorem cd_140_82 : sm_cd 140 82 = some (.aload_n 0, 1, 0, 0, 0, 0, 0, 0, 0) := cd_of gl_140 rfl
theorem cd_140_83 : sm_cd 140 83 = some (.iconst 1, 1, 0, 0, 0, 0, 0, 1, 0) := cd_of gl_140 rfl
theorem cd_140_84 : sm_cd 140 84 = some (.putfield 333, 3, 6, 42, 1, 0, 0, 0, 0) := cd_of gl_140 rfl
theorem cd_140_87 : sm_cd 140 87 = some (.aload_n 0, 1, 0, 0, 0, 0, 0, 0, 0) := cd_of gl_140 rfl
theorem cd_140_88 : sm_cd 140 88 = some (.getfield 330, 3, 6, 17, 0, 0, 0, 0, 0) := cd_of gl_140 rfl
theorem cd_140_91 : sm_cd 140 91 = some (.i2l, 1, 0, 0, 0, 0, 0, 0, 0) := cd_of gl_140 rfl
theorem cd_140_92 : sm_cd 140 92 = some (.lreturn, 1, 0, 0, 0, 0, 0, 0, 0) := cd_of gl_140 rfl
noncomputable def f_140_16 (K : Nat → Value) (k : Nat) (d : Nat) : Nat → Int32 → aW → aI → aJ → Option aR :=
  match k with
  | 0 => fun _ _ _ _ _ => none
  | k + 1 => fun l0 l1 w I J =>
  lt_ (f_140_16 K k d) fun r16 =>
  if 360 ≤ l1 then
    gO w 6 l0 (
    gV w l0 36 fun q_1 =>
    gA w 10 10 q_1 1 (
    lt_ (sm_up2 I q_1 (1 : Int32).toNatClampNeg 1) fun I_2 =>
    gO w 6 l0 (
    gV w l0 36 fun q_3 =>
    gO w 6 l0 (
    gA w 10 10 q_3 70 (
    lt_ (sm_up2 I_2 q_3 (70 : Int32).toNatClampNeg ((I_2 l0 16) - 1)) fun I_4 =>
    gO w 6 l0 (
    gV w l0 36 fun q_5 =>
    gO w 6 l0 (
    gV w l0 18 fun q_6 =>
    gO w 6 l0 (
    gA w 10 20 q_6 (10 * ((I_4 l0 16) - 1)) (
    gA w 10 10 q_5 71 (
    lt_ (sm_up2 I_4 q_5 (71 : Int32).toNatClampNeg (I_4 q_6 (10 * ((I_4 l0 16) - 1) : Int32).toNatClampNeg)) fun I_7 =>
    gO w 6 l0 (
    lt_ (sm_up2 I_7 l0 41 0) fun I_8 =>
    gO w 6 l0 (
    lt_ (sm_up2 I_8 l0 42 1) fun I_9 =>
    gO w 6 l0 (
    some (some (.long ((I_9 l0 17 : Int32).toInt64)), w, I_9, J))))))))))))))
  else
    gO w 6 l0 (
    gV w l0 36 fun q_10 =>
    gA w 10 10 q_10 l1 (
    lt_ (sm_up2 I q_10 (l1 : Int32).toNatClampNeg 0) fun I_11 =>
    lt_ (l1 + 1) fun x_12 =>
    r16 l0 x_12 w I_11 J))
theorem ok_140_16 {K : Nat → Value} {d : Nat} : ∀ {k : Nat} {l0 : Nat} {l1 : Int32} {w : aW} {I : aI} {J : aJ} {R : aR}, f_140_16 K k d l0 l1 w I J = some R → Go K (d + 1) 140 16 [some (.ref l0), some (.int l1)] [] w I J R := by
  intro k
  induction k with
  | zero => intro l0 l1 w I J R h; cases h
  | succ k ih =>
    intro l0 l1 w I J R h
    have hr16 : ∀ (l0 : Nat) (l1 : Int32) (w : aW) (I : aI) (J : aJ) (R : aR), f_140_16 K k d l0 l1 w I J = some R → Go K (d + 1) 140 16 [some (.ref l0), some (.int l1)] [] w I J R := fun l0 l1 w I J R h => ih h
    rw [f_140_16] at h
    obtain ⟨r16, hx, h⟩ := lt_s_ h
    rw [hx] at hr16
    clear hx ih
    refine gs_0 (pc' := 17) (L' := [some (.ref l0), some (.int l1)]) (st' := [.int l1]) cd_140_16 rfl rfl ?_
    refine gs_0 (pc' := 20) (L' := [some (.ref l0), some (.int l1)]) (st' := [.int 360, .int l1]) cd_140_17 rfl rfl ?_
    refine gs_0 (pc' := if 360 ≤ l1 then 36 else 23) (L' := [some (.ref l0), some (.int l1)]) (st' := []) cd_140_20 rfl rfl ?_
    refine go_ite (fun hc => ?_) (fun hc => ?_)
    · rw [if_pos hc] at h
      refine gs_0 (pc' := 37) (L' := [some (.ref l0), some (.int l1)]) (st' := [.ref l0]) cd_140_36 rfl rfl ?_
      obtain ⟨ht, h⟩ := gO_s h
      obtain ⟨q_1, hv, h⟩ := gV_s h
      refine gs_gfR cd_140_37 (by decide) ht hv ?_
      refine gs_0 (pc' := 41) (L' := [some (.ref l0), some (.int l1)]) (st' := [.int 1, .ref q_1]) cd_140_40 rfl rfl ?_
      refine gs_0 (pc' := 42) (L' := [some (.ref l0), some (.int l1)]) (st' := [.int 1, .int 1, .ref q_1]) cd_140_41 rfl rfl ?_
      obtain ⟨ht, h⟩ := gA_s h
      refine gs_iast cd_140_42 ht ?_
      obtain ⟨I_2, hx, h⟩ := lt_s_ h
      rw [hx]
      refine gs_0 (pc' := 44) (L' := [some (.ref l0), some (.int l1)]) (st' := [.ref l0]) cd_140_43 rfl rfl ?_
      obtain ⟨ht, h⟩ := gO_s h
      obtain ⟨q_3, hv, h⟩ := gV_s h
      refine gs_gfR cd_140_44 (by decide) ht hv ?_
      refine gs_0 (pc' := 49) (L' := [some (.ref l0), some (.int l1)]) (st' := [.int 70, .ref q_3]) cd_140_47 rfl rfl ?_
      refine gs_0 (pc' := 50) (L' := [some (.ref l0), some (.int l1)]) (st' := [.ref l0, .int 70, .ref q_3]) cd_140_49 rfl rfl ?_
      obtain ⟨ht, h⟩ := gO_s h
      refine gs_gfI cd_140_50 (by decide) (by decide) ht ?_
      refine gs_0 (pc' := 54) (L' := [some (.ref l0), some (.int l1)]) (st' := [.int 1, .int (I_2 l0 16), .int 70, .ref q_3]) cd_140_53 rfl rfl ?_
      refine gs_0 (pc' := 55) (L' := [some (.ref l0), some (.int l1)]) (st' := [.int ((I_2 l0 16) - 1), .int 70, .ref q_3]) cd_140_54 rfl rfl ?_
      obtain ⟨ht, h⟩ := gA_s h
      refine gs_iast cd_140_55 ht ?_
      obtain ⟨I_4, hx, h⟩ := lt_s_ h
      rw [hx]
      refine gs_0 (pc' := 57) (L' := [some (.ref l0), some (.int l1)]) (st' := [.ref l0]) cd_140_56 rfl rfl ?_
      obtain ⟨ht, h⟩ := gO_s h
      obtain ⟨q_5, hv, h⟩ := gV_s h
      refine gs_gfR cd_140_57 (by decide) ht hv ?_
      refine gs_0 (pc' := 62) (L' := [some (.ref l0), some (.int l1)]) (st' := [.int 71, .ref q_5]) cd_140_60 rfl rfl ?_
      refine gs_0 (pc' := 63) (L' := [some (.ref l0), some (.int l1)]) (st' := [.ref l0, .int 71, .ref q_5]) cd_140_62 rfl rfl ?_
      obtain ⟨ht, h⟩ := gO_s h
      obtain ⟨q_6, hv, h⟩ := gV_s h
      refine gs_gfR cd_140_63 (by decide) ht hv ?_
      refine gs_0 (pc' := 68) (L' := [some (.ref l0), some (.int l1)]) (st' := [.int 10, .ref q_6, .int 71, .ref q_5]) cd_140_66 rfl rfl ?_
      refine gs_0 (pc' := 69) (L' := [some (.ref l0), some (.int l1)]) (st' := [.ref l0, .int 10, .ref q_6, .int 71, .ref q_5]) cd_140_68 rfl rfl ?_
      obtain ⟨ht, h⟩ := gO_s h
      refine gs_gfI cd_140_69 (by decide) (by decide) ht ?_
      refine gs_0 (pc' := 73) (L' := [some (.ref l0), some (.int l1)]) (st' := [.int 1, .int (I_4 l0 16), .int 10, .ref q_6, .int 71, .ref q_5]) cd_140_72 rfl rfl ?_
      refine gs_0 (pc' := 74) (L' := [some (.ref l0), some (.int l1)]) (st' := [.int ((I_4 l0 16) - 1), .int 10, .ref q_6, .int 71, .ref q_5]) cd_140_73 rfl rfl ?_
      refine gs_0 (pc' := 75) (L' := [some (.ref l0), some (.int l1)]) (st' := [.int (10 * ((I_4 l0 16) - 1)), .ref q_6, .int 71, .ref q_5]) cd_140_74 rfl rfl ?_
      obtain ⟨ht, h⟩ := gA_s h
      refine gs_iald cd_140_75 ht ?_
      obtain ⟨ht, h⟩ := gA_s h
      refine gs_iast cd_140_76 ht ?_
      obtain ⟨I_7, hx, h⟩ := lt_s_ h
      rw [hx]
      refine gs_0 (pc' := 78) (L' := [some (.ref l0), some (.int l1)]) (st' := [.ref l0]) cd_140_77 rfl rfl ?_
      refine gs_0 (pc' := 79) (L' := [some (.ref l0), some (.int l1)]) (st' := [.int 0, .ref l0]) cd_140_78 rfl rfl ?_
      obtain ⟨ht, h⟩ := gO_s h
      refine gs_pfI cd_140_79 (by decide) (Or.inl rfl) ht ?_
      obtain ⟨I_8, hx, h⟩ := lt_s_ h
      rw [hx]
      refine gs_0 (pc' := 83) (L' := [some (.ref l0), some (.int l1)]) (st' := [.ref l0]) cd_140_82 rfl rfl ?_
      refine gs_0 (pc' := 84) (L' := [some (.ref l0), some (.int l1)]) (st' := [.int 1, .ref l0]) cd_140_83 rfl rfl ?_
      obtain ⟨ht, h⟩ := gO_s h
      refine gs_pfI cd_140_84 (by decide) (Or.inr ⟨rfl, Or.inr rfl⟩) ht ?_
      obtain ⟨I_9, hx, h⟩ := lt_s_ h
      rw [hx]
      refine gs_0 (pc' := 88) (L' := [some (.ref l0), some (.int l1)]) (st' := [.ref l0]) cd_140_87 rfl rfl ?_
      obtain ⟨ht, h⟩ := gO_s h
      refine gs_gfI cd_140_88 (by decide) (by decide) ht ?_
      refine gs_0 (pc' := 92) (L' := [some (.ref l0), some (.int l1)]) (st' := [.long ((I_9 l0 17 : Int32).toInt64)]) cd_140_91 rfl rfl ?_
      cases h
      exact gsr cd_140_92 rfl rfl
    · rw [if_neg hc] at h
      refine gs_0 (pc' := 24) (L' := [some (.ref l0), some (.int l1)]) (st' := [.ref l0]) cd_140_23 rfl rfl ?_
      obtain ⟨ht, h⟩ := gO_s h
      obtain ⟨q_10, hv, h⟩ := gV_s h
      refine gs_gfR cd_140_24 (by decide) ht hv ?_
      refine gs_0 (pc' := 28) (L' := [some (.ref l0), some (.int l1)]) (st' := [.int l1, .ref q_10]) cd_140_27 rfl rfl ?_
      refine gs_0 (pc' := 29) (L' := [some (.ref l0), some (.int l1)]) (st' := [.int 0, .int l1, .ref q_10]) cd_140_28 rfl rfl ?_
      obtain ⟨ht, h⟩ := gA_s h
      refine gs_iast cd_140_29 ht ?_
      obtain ⟨I_11, hx, h⟩ := lt_s_ h
      rw [hx]
      refine gs_0 (pc' := 33) (L' := [some (.ref l0), some (.int (l1 + 1))]) (st' := []) cd_140_30 rfl rfl ?_
      obtain ⟨x_12, hx, h⟩ := lt_s_ h
      rw [hx]
      clear hx
      refine gs_0 (pc' := 16) (L' := [some (.ref l0), some (.int x_12)]) (st' := []) cd_140_33 rfl rfl ?_
      exact hr16 l0 x_12 _ _ _ _ h
noncomputable def f_140 (K : Nat → Value) (k d : Nat) (l0 : Nat) (w : aW) (I : aI) (J : aJ) : Option aR :=
  gO w 6 l0 (
  if ¬ (I l0 17) = 0 then
    f_140_16 K k d l0 0 w I J
  else
    gO w 6 l0 (
    cJ (Cl K d 20 [.ref l0, .int 6] w I J) fun v_4 w_1 I_2 J_3 =>
    some (some (.long v_4), w_1, I_2, J_3)))
theorem ok_140 {K : Nat → Value} {k d : Nat} {l0 : Nat} {w : aW} {I : aI} {J : aJ} {R : aR} (h : f_140 K k d l0 w I J = some R) : Go K (d + 1) 140 0 [some (.ref l0), none] [] w I J R := by
  unfold f_140 at h
  refine gs_0 (pc' := 1) (L' := [some (.ref l0), none]) (st' := [.ref l0]) cd_140_0 rfl rfl ?_
  obtain ⟨ht, h⟩ := gO_s h
  refine gs_gfI cd_140_1 (by decide) (by decide) ht ?_
  refine gs_0 (pc' := if ¬ (I l0 17) = 0 then 14 else 7) (L' := [some (.ref l0), none]) (st' := []) cd_140_4 rfl rfl ?_
  refine go_ite (fun hc => ?_) (fun hc => ?_)
  · rw [if_pos hc] at h
    refine gs_0 (pc' := 15) (L' := [some (.ref l0), none]) (st' := [.int 0]) cd_140_14 rfl rfl ?_
    refine gs_0 (pc' := 16) (L' := [some (.ref l0), some (.int 0)]) (st' := []) cd_140_15 rfl rfl ?_
    exact ok_140_16 h
  · rw [if_neg hc] at h
    refine gs_0 (pc' := 8) (L' := [some (.ref l0), none]) (st' := [.ref l0]) cd_140_7 rfl rfl ?_
    refine gs_0 (pc' := 10) (L' := [some (.ref l0), none]) (st' := [.int 6, .ref l0]) cd_140_8 rfl rfl ?_
    obtain ⟨ht, h⟩ := gO_s h
    obtain ⟨v_4, w_1, I_2, J_3, hcl, h⟩ := cJ_s h
    refine gs_call (as := [.ref l0, .int 6]) (rest := []) cd_140_10 rfl (by decide) rfl (sm_rv_ok (by decide) ht) (Nat.le_of_ble_eq_true rfl) (Nat.le_of_ble_eq_true rfl) rfl hcl ?_
    cases h
    exact gsr cd_140_13 rfl rfl
theorem cl_140 {K : Nat → Value} {k d : Nat} {l0 : Nat} {w : aW} {I : aI} {J : aJ} {R : aR} (h : f_140 K k d l0 w I J = some R) : Cl K (d + 1) 140 [.ref l0] w I J = some R := Cl_of (ok_140 h)
/-! ProvedMachine.step(I)J -/
set_option maxRecDepth 20000 in
theorem gl_141 : gcd.lookup 141 = some gw_141 := rfl
theorem cd_141_0 : sm_cd 141 0 = some (.iload_n 1, 1, 1, 0, 0, 0, 0, 0, 0) := cd_of gl_141 rfl
theorem cd_141_1 : sm_cd 141 1 = some (.iconst 1, 1, 0, 0, 0, 0, 0, 1, 0) := cd_of gl_141 rfl
theorem cd_141_2 : sm_cd 141 2 = some (.if_icmp .lt 10, 3, 12, 0, 0, 0, 0, 0, 0) := cd_of gl_141 rfl
theorem cd_141_5 : sm_cd 141 5 = some (.iload_n 1, 1, 1, 0, 0, 0, 0, 0, 0) := cd_of gl_141 rfl
theorem cd_141_6 : sm_cd 141 6 = some (.sipush 400, 3, 0, 0, 0, 0, 0, 400, 0) := cd_of gl_141 rfl
theorem cd_141_9 : sm_cd 141 9 = some (.if_icmp .le 9, 3, 18, 0, 0, 0, 0, 0, 0) := cd_of gl_141 rfl
theorem cd_141_12 : sm_cd 141 12 = some (.aload_n 0, 1, 0, 0, 0, 0, 0, 0, 0) := cd_of gl_141 rfl
theorem cd_141_13 : sm_cd 141 13 = some (.iconst 1, 1, 0, 0, 0, 0, 0, 1, 0) := cd_of gl_141 rfl
theorem cd_141_14 : sm_cd 141 14 = some (.invokevirtual 60, 3, 17, 0, 1, 2, 5, 0, 0) := cd_of gl_141 rfl
theorem cd_141_17 : sm_cd 141 17 = some (.lreturn, 1, 0, 0, 0, 0, 0, 0, 0) := cd_of gl_141 rfl
theorem cd_141_18 : sm_cd 141 18 = some (.aload_n 0, 1, 0, 0, 0, 0, 0, 0, 0) := cd_of gl_141 rfl
theorem cd_141_19 : sm_cd 141 19 = some (.getfield 40, 3, 5, 5, 1, 0, 0, 0, 0) := cd_of gl_141 rfl
theorem cd_141_22 : sm_cd 141 22 = some (.ifCond .ne 10, 3, 32, 0, 0, 0, 0, 0, 0) := cd_of gl_141 rfl
theorem cd_141_25 : sm_cd 141 25 = some (.aload_n 0, 1, 0, 0, 0, 0, 0, 0, 0) := cd_of gl_141 rfl
theorem cd_141_26 : sm_cd 141 26 = some (.bipush 6, 2, 0, 0, 0, 0, 0, 6, 0) := cd_of gl_141 rfl
theorem cd_141_28 : sm_cd 141 28 = some (.invokevirtual 60, 3, 17, 0, 1, 2, 5, 0, 0) := cd_of gl_141 rfl
theorem cd_141_31 : sm_cd 141 31 = some (.lreturn, 1, 0, 0, 0, 0, 0, 0, 0) := cd_of gl_141 rfl
theorem cd_141_32 : sm_cd 141 32 = some (.aload_n 0, 1, 0, 0, 0, 0, 0, 0, 0) := cd_of gl_141 rfl
theorem cd_141_33 : sm_cd 141 33 = some (.getfield 36, 3, 5, 4, 2, 0, 0, 0, 0) := cd_of gl_141 rfl
theorem cd_141_36 : sm_cd 141 36 = some (.invokevirtual 110, 3, 142, 0, 0, 1, 0, 0, 0) := cd_of gl_141 rfl
theorem cd_141_39 : sm_cd 141 39 = some (.ifCond .eq 10, 3, 49, 0, 0, 0, 0, 0, 0) := cd_of gl_141 rfl
theorem cd_141_42 : sm_cd 141 42 = some (.aload_n 0, 1, 0, 0, 0, 0, 0, 0, 0) := cd_of gl_141 rfl
theorem cd_141_43 : sm_cd 141 43 = some (.bipush 7, 2, 0, 0, 0, 0, 0, 7, 0) := cd_of gl_141 rfl
theorem cd_141_45 : sm_cd 141 45 = some (.invokevirtual 60, 3, 17, 0, 1, 2, 5, 0, 0) := cd_of gl_141 rfl
theorem cd_141_48 : sm_cd 141 48 = some (.lreturn, 1, 0, 0, 0, 0, 0, 0, 0) := cd_of gl_141 rfl
theorem cd_141_49 : sm_cd 141 49 = some (.iconst 0, 1, 0, 0, 0, 0, 0, 0, 0) := cd_of gl_141 rfl
theorem cd_141_50 : sm_cd 141 50 = some (.istore_n 2, 1, 2, 0, 0, 0, 0, 0, 0) := cd_of gl_141 rfl
theorem cd_141_51 : sm_cd 141 51 = some (.iload_n 2, 1, 2, 0, 0, 0, 0, 0, 0) := cd_of gl_141 rfl
theorem cd_141_52 : sm_cd 141 52 = some (.iload_n 1, 1, 1, 0, 0, 0, 0, 0, 0) := cd_of gl_141 rfl
theorem cd_141_53 : sm_cd 141 53 = some (.if_icmp .ge 26, 3, 79, 0, 0, 0, 0, 0, 0) := cd_of gl_141 rfl
theorem cd_141_56 : sm_cd 141 56 = some (.aload_n 0, 1, 0, 0, 0, 0, 0, 0, 0) := cd_of gl_141 rfl
theorem cd_141_57 : sm_cd 141 57 = some (.getfield 36, 3, 5, 4, 2, 0, 0, 0, 0) := cd_of gl_141 rfl
theorem cd_141_60 : sm_cd 141 60 = some (.invokevirtual 114, 3, 143, 0, 0, 7, 0, 0, 0) := cd_of gl_141 rfl
theorem cd_141_63 : sm_cd 141 63 = some (.ifCond .eq 16, 3, 79, 0, 0, 0, 0, 0, 0) := cd_of gl_141 rfl
theorem cd_141_66 : sm_cd 141 66 = some (.aload_n 0, 1, 0, 0, 0, 0, 0, 0, 0) := cd_of gl_141 rfl
theorem cd_141_67 : sm_cd 141 67 = some (.getfield 36, 3, 5, 4, 2, 0, 0, 0, 0) := cd_of gl_141 rfl
theorem cd_141_70 : sm_cd 141 70 = some (.invokevirtual 117, 3, 175, 0, 0, 1, 0, 0, 0) := cd_of gl_141 rfl
theorem cd_141_73 : sm_cd 141 73 = some (.iinc 2 1, 3, 2, 0, 0, 0, 0, 1, 0) := cd_of gl_141 rfl
theorem cd_141_76 : sm_cd 141 76 = some (.goto (-25), 3, 51, 0, 0, 0, 0, 0, 0) := cd_of gl_141 rfl
theorem cd_141_79 : sm_cd 141 79 = some (.iload_n 2, 1, 2, 0, 0, 0, 0, 0, 0) := cd_of gl_141 rfl
theorem cd_141_80 : sm_cd 141 80 = some (.i2l, 1, 0, 0, 0, 0, 0, 0, 0) := cd_of gl_141 rfl
theorem cd_141_81 : sm_cd 141 81 = some (.lreturn, 1, 0, 0, 0, 0, 0, 0, 0) := cd_of gl_141 rfl
noncomputable def f_141_79 (K : Nat → Value) (k d : Nat) (l0 : Nat) (l1 : Int32) (l2 : Int32) (w : aW) (I : aI) (J : aJ) : Option aR :=
  some (some (.long ((l2 : Int32).toInt64)), w, I, J)
theorem ok_141_79 {K : Nat → Value} {k d : Nat} {l0 : Nat} {l1 : Int32} {l2 : Int32} {w : aW} {I : aI} {J : aJ} {R : aR} (h : f_141_79 K k d l0 l1 l2 w I J = some R) : Go K (d + 1) 141 79 [some (.ref l0), some (.int l1), some (.int l2)] [] w I J R := by
  unfold f_141_79 at h
  refine gs_0 (pc' := 80) (L' := [some (.ref l0), some (.int l1), some (.int l2)]) (st' := [.int l2]) cd_141_79 rfl rfl ?_
  refine gs_0 (pc' := 81) (L' := [some (.ref l0), some (.int l1), some (.int l2)]) (st' := [.long ((l2 : Int32).toInt64)]) cd_141_80 rfl rfl ?_
  cases h
  exact gsr cd_141_81 rfl rfl
noncomputable def f_141_51 (K : Nat → Value) (k : Nat) (d : Nat) : Nat → Int32 → Int32 → aW → aI → aJ → Option aR :=
  match k with
  | 0 => fun _ _ _ _ _ _ => none
  | k + 1 => fun l0 l1 l2 w I J =>
  lt_ (f_141_51 K k d) fun r51 =>
  if l1 ≤ l2 then
    f_141_79 K k d l0 l1 l2 w I J
  else
    gO w 5 l0 (
    gV w l0 4 fun q_1 =>
    gO w 0 q_1 (
    cI (Cl K d 143 [.ref q_1] w I J) fun x_5 w_2 I_3 J_4 =>
    if x_5 = 0 then
      f_141_79 K k d l0 l1 l2 w_2 I_3 J_4
    else
      gO w_2 5 l0 (
      gV w_2 l0 4 fun q_6 =>
      gO w_2 0 q_6 (
      cV (Cl K d 175 [.ref q_6] w_2 I_3 J_4) fun w_7 I_8 J_9 =>
      lt_ (l2 + 1) fun x_10 =>
      r51 l0 l1 x_10 w_7 I_8 J_9))))
theorem ok_141_51 {K : Nat → Value} {d : Nat} : ∀ {k : Nat} {l0 : Nat} {l1 : Int32} {l2 : Int32} {w : aW} {I : aI} {J : aJ} {R : aR}, f_141_51 K k d l0 l1 l2 w I J = some R → Go K (d + 1) 141 51 [some (.ref l0), some (.int l1), some (.int l2)] [] w I J R := by
  intro k
  induction k with
  | zero => intro l0 l1 l2 w I J R h; cases h
  | succ k ih =>
    intro l0 l1 l2 w I J R h
    have hr51 : ∀ (l0 : Nat) (l1 : Int32) (l2 : Int32) (w : aW) (I : aI) (J : aJ) (R : aR), f_141_51 K k d l0 l1 l2 w I J = some R → Go K (d + 1) 141 51 [some (.ref l0), some (.int l1), some (.int l2)] [] w I J R := fun l0 l1 l2 w I J R h => ih h
    rw [f_141_51] at h
    obtain ⟨r51, hx, h⟩ := lt_s_ h
    rw [hx] at hr51
    clear hx ih
    refine gs_0 (pc' := 52) (L' := [some (.ref l0), some (.int l1), some (.int l2)]) (st' := [.int l2]) cd_141_51 rfl rfl ?_
    refine gs_0 (pc' := 53) (L' := [some (.ref l0), some (.int l1), some (.int l2)]) (st' := [.int l1, .int l2]) cd_141_52 rfl rfl ?_
    refine gs_0 (pc' := if l1 ≤ l2 then 79 else 56) (L' := [some (.ref l0), some (.int l1), some (.int l2)]) (st' := []) cd_141_53 rfl rfl ?_
    refine go_ite (fun hc => ?_) (fun hc => ?_)
    · rw [if_pos hc] at h
      exact ok_141_79 h
    · rw [if_neg hc] at h
      refine gs_0 (pc' := 57) (L' := [some (.ref l0), some (.int l1), some (.int l2)]) (st' := [.ref l0]) cd_141_56 rfl rfl ?_
      obtain ⟨ht, h⟩ := gO_s h
      obtain ⟨q_1, hv, h⟩ := gV_s h
      refine gs_gfR cd_141_57 (by decide) ht hv ?_
      obtain ⟨ht, h⟩ := gO_s h
      obtain ⟨x_5, w_2, I_3, J_4, hcl, h⟩ := cI_s h
      refine gs_call (as := [.ref q_1]) (rest := []) cd_141_60 rfl (by decide) rfl (sm_rv_ok (by decide) ht) (Nat.le_of_ble_eq_true rfl) (Nat.le_of_ble_eq_true rfl) rfl hcl ?_
      refine gs_0 (pc' := if x_5 = 0 then 79 else 66) (L' := [some (.ref l0), some (.int l1), some (.int l2)]) (st' := []) cd_141_63 rfl rfl ?_
      refine go_ite (fun hc => ?_) (fun hc => ?_)
      · rw [if_pos hc] at h
        exact ok_141_79 h
      · rw [if_neg hc] at h
        refine gs_0 (pc' := 67) (L' := [some (.ref l0), some (.int l1), some (.int l2)]) (st' := [.ref l0]) cd_141_66 rfl rfl ?_
        obtain ⟨ht, h⟩ := gO_s h
        obtain ⟨q_6, hv, h⟩ := gV_s h
        refine gs_gfR cd_141_67 (by decide) ht hv ?_
        obtain ⟨ht, h⟩ := gO_s h
        obtain ⟨w_7, I_8, J_9, hcl, h⟩ := cV_s h
        refine gs_call (as := [.ref q_6]) (rest := []) cd_141_70 rfl (by decide) rfl (sm_rv_ok (by decide) ht) (Nat.le_of_ble_eq_true rfl) (Nat.le_of_ble_eq_true rfl) rfl hcl ?_
        refine gs_0 (pc' := 76) (L' := [some (.ref l0), some (.int l1), some (.int (l2 + 1))]) (st' := []) cd_141_73 rfl rfl ?_
        obtain ⟨x_10, hx, h⟩ := lt_s_ h
        rw [hx]
        clear hx
        refine gs_0 (pc' := 51) (L' := [some (.ref l0), some (.int l1), some (.int x_10)]) (st' := []) cd_141_76 rfl rfl ?_
        exact hr51 l0 l1 x_10 _ _ _ _ h
noncomputable def f_141_12 (K : Nat → Value) (k d : Nat) (l0 : Nat) (l1 : Int32) (w : aW) (I : aI) (J : aJ) : Option aR :=
  gO w 5 l0 (
  cJ (Cl K d 17 [.ref l0, .int 1] w I J) fun v_4 w_1 I_2 J_3 =>
  some (some (.long v_4), w_1, I_2, J_3))
theorem ok_141_12 {K : Nat → Value} {k d : Nat} {l0 : Nat} {l1 : Int32} {w : aW} {I : aI} {J : aJ} {R : aR} (h : f_141_12 K k d l0 l1 w I J = some R) : Go K (d + 1) 141 12 [some (.ref l0), some (.int l1), none] [] w I J R := by
  unfold f_141_12 at h
  refine gs_0 (pc' := 13) (L' := [some (.ref l0), some (.int l1), none]) (st' := [.ref l0]) cd_141_12 rfl rfl ?_
  refine gs_0 (pc' := 14) (L' := [some (.ref l0), some (.int l1), none]) (st' := [.int 1, .ref l0]) cd_141_13 rfl rfl ?_
  obtain ⟨ht, h⟩ := gO_s h
  obtain ⟨v_4, w_1, I_2, J_3, hcl, h⟩ := cJ_s h
  refine gs_call (as := [.ref l0, .int 1]) (rest := []) cd_141_14 rfl (by decide) rfl (sm_rv_ok (by decide) ht) (Nat.le_of_ble_eq_true rfl) (Nat.le_of_ble_eq_true rfl) rfl hcl ?_
  cases h
  exact gsr cd_141_17 rfl rfl
noncomputable def f_141 (K : Nat → Value) (k d : Nat) (l0 : Nat) (l1 : Int32) (w : aW) (I : aI) (J : aJ) : Option aR :=
  if l1 < 1 then
    f_141_12 K k d l0 l1 w I J
  else
    if l1 ≤ 400 then
      gO w 5 l0 (
      if ¬ (I l0 5) = 0 then
        gO w 5 l0 (
        gV w l0 4 fun q_1 =>
        gO w 0 q_1 (
        cI (Cl K d 142 [.ref q_1] w I J) fun x_5 w_2 I_3 J_4 =>
        if x_5 = 0 then
          f_141_51 K k d l0 l1 0 w_2 I_3 J_4
        else
          gO w_2 5 l0 (
          cJ (Cl K d 17 [.ref l0, .int 7] w_2 I_3 J_4) fun v_9 w_6 I_7 J_8 =>
          some (some (.long v_9), w_6, I_7, J_8))))
      else
        gO w 5 l0 (
        cJ (Cl K d 17 [.ref l0, .int 6] w I J) fun v_13 w_10 I_11 J_12 =>
        some (some (.long v_13), w_10, I_11, J_12)))
    else
      f_141_12 K k d l0 l1 w I J
theorem ok_141 {K : Nat → Value} {k d : Nat} {l0 : Nat} {l1 : Int32} {w : aW} {I : aI} {J : aJ} {R : aR} (h : f_141 K k d l0 l1 w I J = some R) : Go K (d + 1) 141 0 [some (.ref l0), some (.int l1), none] [] w I J R := by
  unfold f_141 at h
  refine gs_0 (pc' := 1) (L' := [some (.ref l0), some (.int l1), none]) (st' := [.int l1]) cd_141_0 rfl rfl ?_
  refine gs_0 (pc' := 2) (L' := [some (.ref l0), some (.int l1), none]) (st' := [.int 1, .int l1]) cd_141_1 rfl rfl ?_
  refine gs_0 (pc' := if l1 < 1 then 12 else 5) (L' := [some (.ref l0), some (.int l1), none]) (st' := []) cd_141_2 rfl rfl ?_
  refine go_ite (fun hc => ?_) (fun hc => ?_)
  · rw [if_pos hc] at h
    exact ok_141_12 h
  · rw [if_neg hc] at h
    refine gs_0 (pc' := 6) (L' := [some (.ref l0), some (.int l1), none]) (st' := [.int l1]) cd_141_5 rfl rfl ?_
    refine gs_0 (pc' := 9) (L' := [some (.ref l0), some (.int l1), none]) (st' := [.int 400, .int l1]) cd_141_6 rfl rfl ?_
    refine gs_0 (pc' := if l1 ≤ 400 then 18 else 12) (L' := [some (.ref l0), some (.int l1), none]) (st' := []) cd_141_9 rfl rfl ?_
    refine go_ite (fun hc => ?_) (fun hc => ?_)
    · rw [if_pos hc] at h
      refine gs_0 (pc' := 19) (L' := [some (.ref l0), some (.int l1), none]) (st' := [.ref l0]) cd_141_18 rfl rfl ?_
      obtain ⟨ht, h⟩ := gO_s h
      refine gs_gfI cd_141_19 (by decide) (by decide) ht ?_
      refine gs_0 (pc' := if ¬ (I l0 5) = 0 then 32 else 25) (L' := [some (.ref l0), some (.int l1), none]) (st' := []) cd_141_22 rfl rfl ?_
      refine go_ite (fun hc => ?_) (fun hc => ?_)
      · rw [if_pos hc] at h
        refine gs_0 (pc' := 33) (L' := [some (.ref l0), some (.int l1), none]) (st' := [.ref l0]) cd_141_32 rfl rfl ?_
        obtain ⟨ht, h⟩ := gO_s h
        obtain ⟨q_1, hv, h⟩ := gV_s h
        refine gs_gfR cd_141_33 (by decide) ht hv ?_
        obtain ⟨ht, h⟩ := gO_s h
        obtain ⟨x_5, w_2, I_3, J_4, hcl, h⟩ := cI_s h
        refine gs_call (as := [.ref q_1]) (rest := []) cd_141_36 rfl (by decide) rfl (sm_rv_ok (by decide) ht) (Nat.le_of_ble_eq_true rfl) (Nat.le_of_ble_eq_true rfl) rfl hcl ?_
        refine gs_0 (pc' := if x_5 = 0 then 49 else 42) (L' := [some (.ref l0), some (.int l1), none]) (st' := []) cd_141_39 rfl rfl ?_
        refine go_ite (fun hc => ?_) (fun hc => ?_)
        · rw [if_pos hc] at h
          refine gs_0 (pc' := 50) (L' := [some (.ref l0), some (.int l1), none]) (st' := [.int 0]) cd_141_49 rfl rfl ?_
          refine gs_0 (pc' := 51) (L' := [some (.ref l0), some (.int l1), some (.int 0)]) (st' := []) cd_141_50 rfl rfl ?_
          exact ok_141_51 h
        · rw [if_neg hc] at h
          refine gs_0 (pc' := 43) (L' := [some (.ref l0), some (.int l1), none]) (st' := [.ref l0]) cd_141_42 rfl rfl ?_
          refine gs_0 (pc' := 45) (L' := [some (.ref l0), some (.int l1), none]) (st' := [.int 7, .ref l0]) cd_141_43 rfl rfl ?_
          obtain ⟨ht, h⟩ := gO_s h
          obtain ⟨v_9, w_6, I_7, J_8, hcl, h⟩ := cJ_s h
          refine gs_call (as := [.ref l0, .int 7]) (rest := []) cd_141_45 rfl (by decide) rfl (sm_rv_ok (by decide) ht) (Nat.le_of_ble_eq_true rfl) (Nat.le_of_ble_eq_true rfl) rfl hcl ?_
          cases h
          exact gsr cd_141_48 rfl rfl
      · rw [if_neg hc] at h
        refine gs_0 (pc' := 26) (L' := [some (.ref l0), some (.int l1), none]) (st' := [.ref l0]) cd_141_25 rfl rfl ?_
        refine gs_0 (pc' := 28) (L' := [some (.ref l0), some (.int l1), none]) (st' := [.int 6, .ref l0]) cd_141_26 rfl rfl ?_
        obtain ⟨ht, h⟩ := gO_s h
        obtain ⟨v_13, w_10, I_11, J_12, hcl, h⟩ := cJ_s h
        refine gs_call (as := [.ref l0, .int 6]) (rest := []) cd_141_28 rfl (by decide) rfl (sm_rv_ok (by decide) ht) (Nat.le_of_ble_eq_true rfl) (Nat.le_of_ble_eq_true rfl) rfl hcl ?_
        cases h
        exact gsr cd_141_31 rfl rfl
    · rw [if_neg hc] at h
      exact ok_141_12 h
theorem cl_141 {K : Nat → Value} {k d : Nat} {l0 : Nat} {l1 : Int32} {w : aW} {I : aI} {J : aJ} {R : aR} (h : f_141 K k d l0 l1 w I J = some R) : Cl K (d + 1) 141 [.ref l0, .int l1] w I J = some R := Cl_of (ok_141 h)
/-! ProvedMachine$Machine.isHalted()Z -/
set_option maxRecDepth 20000 in
theorem gl_142 : gcd.lookup 142 = some gw_142 := rfl
theorem cd_142_0 : sm_cd 142 0 = some (.aload_n 0, 1, 0, 0, 0, 0, 0, 0, 0) := cd_of gl_142 rfl
theorem cd_142_1 : sm_cd 142 1 = some (.getfield 13, 3, 0, 1, 2, 0, 0, 0, 0) := cd_of gl_142 rfl
theorem cd_142_4 : sm_cd 142 4 = some (.iconst 0, 1, 0, 0, 0, 0, 0, 0, 0) := cd_of gl_142 rfl
theorem cd_142_5 : sm_cd 142 5 = some (.iaload, 1, 0, 0, 0, 0, 0, 0, 0) := cd_of gl_142 rfl
theorem cd_142_6 : sm_cd 142 6 = some (.ifCond .eq 7, 3, 13, 0, 0, 0, 0, 0, 0) := cd_of gl_142 rfl
theorem cd_142_9 : sm_cd 142 9 = some (.iconst 1, 1, 0, 0, 0, 0, 0, 1, 0) := cd_of gl_142 rfl
theorem cd_142_10 : sm_cd 142 10 = some (.goto 4, 3, 14, 0, 0, 0, 0, 0, 0) := cd_of gl_142 rfl
theorem cd_142_13 : sm_cd 142 13 = some (.iconst 0, 1, 0, 0, 0, 0, 0, 0, 0) := cd_of gl_142 rfl
theorem cd_142_14 : sm_cd 142 14 = some (.ireturn, 1, 0, 0, 2, 0, 0, 0, 0) := cd_of gl_142 rfl
noncomputable def f_142 (K : Nat → Value) (k d : Nat) (l0 : Nat) (w : aW) (I : aI) (J : aJ) : Option aR :=
  gO w 0 l0 (
  gV w l0 1 fun q_1 =>
  gA w 10 20 q_1 0 (
  if (I q_1 (0 : Int32).toNatClampNeg) = 0 then
    some (some (.int 0), w, I, J)
  else
    some (some (.int 1), w, I, J)))
theorem ok_142 {K : Nat → Value} {k d : Nat} {l0 : Nat} {w : aW} {I : aI} {J : aJ} {R : aR} (h : f_142 K k d l0 w I J = some R) : Go K (d + 1) 142 0 [some (.ref l0)] [] w I J R := by
  unfold f_142 at h
  refine gs_0 (pc' := 1) (L' := [some (.ref l0)]) (st' := [.ref l0]) cd_142_0 rfl rfl ?_
  obtain ⟨ht, h⟩ := gO_s h
  obtain ⟨q_1, hv, h⟩ := gV_s h
  refine gs_gfR cd_142_1 (by decide) ht hv ?_
  refine gs_0 (pc' := 5) (L' := [some (.ref l0)]) (st' := [.int 0, .ref q_1]) cd_142_4 rfl rfl ?_
  obtain ⟨ht, h⟩ := gA_s h
  refine gs_iald cd_142_5 ht ?_
  refine gs_0 (pc' := if (I q_1 (0 : Int32).toNatClampNeg) = 0 then 13 else 9) (L' := [some (.ref l0)]) (st' := []) cd_142_6 rfl rfl ?_
  refine go_ite (fun hc => ?_) (fun hc => ?_)
  · rw [if_pos hc] at h
    refine gs_0 (pc' := 14) (L' := [some (.ref l0)]) (st' := [.int 0]) cd_142_13 rfl rfl ?_
    cases h
    exact gs_ri cd_142_14 (Or.inr (Or.inl ⟨rfl, Or.inl rfl⟩))
  · rw [if_neg hc] at h
    refine gs_0 (pc' := 10) (L' := [some (.ref l0)]) (st' := [.int 1]) cd_142_9 rfl rfl ?_
    refine gs_0 (pc' := 14) (L' := [some (.ref l0)]) (st' := [.int 1]) cd_142_10 rfl rfl ?_
    cases h
    exact gs_ri cd_142_14 (Or.inr (Or.inl ⟨rfl, Or.inr rfl⟩))
theorem cl_142 {K : Nat → Value} {k d : Nat} {l0 : Nat} {w : aW} {I : aI} {J : aJ} {R : aR} (h : f_142 K k d l0 w I J = some R) : Cl K (d + 1) 142 [.ref l0] w I J = some R := Cl_of (ok_142 h)
/-! ProvedMachine$Machine.attempt()Z -/
set_option maxRecDepth 20000 in
theorem gl_143 : gcd.lookup 143 = some gw_143 := rfl
set_option maxRecDepth 20000 in
theorem cd_143_0 : sm_cd 143 0 = some (.aload_n 0, 1, 0, 0, 0, 0, 0, 0, 0) := cd_of gl_143 rfl
set_option maxRecDepth 20000 in
theorem cd_143_1 : sm_cd 143 1 = some (.invokevirtual 56, 3, 142, 0, 0, 1, 0, 0, 0) := cd_of gl_143 rfl
set_option maxRecDepth 20000 in
theorem cd_143_4 : sm_cd 143 4 = some (.ifCond .eq 5, 3, 9, 0, 0, 0, 0, 0, 0) := cd_of gl_143 rfl
set_option maxRecDepth 20000 in
theorem cd_143_7 : sm_cd 143 7 = some (.iconst 0, 1, 0, 0, 0, 0, 0, 0, 0) := cd_of gl_143 rfl
set_option maxRecDepth 20000 in
theorem cd_143_8 : sm_cd 143 8 = some (.ireturn, 1, 0, 0, 2, 0, 0, 0, 0) := cd_of gl_143 rfl
set_option maxRecDepth 20000 in
theorem cd_143_9 : sm_cd 143 9 = some (.aload_n 0, 1, 0, 0, 0, 0, 0, 0, 0) := cd_of gl_143 rfl
set_option maxRecDepth 20000 in
theorem cd_143_10 : sm_cd 143 10 = some (.getfield 20, 3, 0, 3, 2, 0, 0, 0, 0) := cd_of gl_143 rfl
set_option maxRecDepth 20000 in
theorem cd_143_13 : sm_cd 143 13 = some (.aload_n 0, 1, 0, 0, 0, 0, 0, 0, 0) := cd_of gl_143 rfl
set_option maxRecDepth 20000 in
theorem cd_143_14 : sm_cd 143 14 = some (.getfield 32, 3, 0, 7, 0, 0, 0, 0, 0) := cd_of gl_143 rfl
set_option maxRecDepth 20000 in
theorem cd_143_17 : sm_cd 143 17 = some (.bipush 31, 2, 0, 0, 0, 0, 0, 31, 0) := cd_of gl_143 rfl
set_option maxRecDepth 20000 in
theorem cd_143_19 : sm_cd 143 19 = some (.iand, 1, 0, 0, 0, 0, 0, 0, 0) := cd_of gl_143 rfl
set_option maxRecDepth 20000 in
theorem cd_143_20 : sm_cd 143 20 = some (.iconst 0, 1, 0, 0, 0, 0, 0, 0, 0) := cd_of gl_143 rfl
set_option maxRecDepth 20000 in
theorem cd_143_21 : sm_cd 143 21 = some (.iastore, 1, 0, 0, 0, 0, 0, 0, 0) := cd_of gl_143 rfl
set_option maxRecDepth 20000 in
theorem cd_143_22 : sm_cd 143 22 = some (.aload_n 0, 1, 0, 0, 0, 0, 0, 0, 0) := cd_of gl_143 rfl
set_option maxRecDepth 20000 in
theorem cd_143_23 : sm_cd 143 23 = some (.iconst 2, 1, 0, 0, 0, 0, 0, 2, 0) := cd_of gl_143 rfl
set_option maxRecDepth 20000 in
theorem cd_143_24 : sm_cd 143 24 = some (.aload_n 0, 1, 0, 0, 0, 0, 0, 0, 0) := cd_of gl_143 rfl
set_option maxRecDepth 20000 in
theorem cd_143_25 : sm_cd 143 25 = some (.getfield 13, 3, 0, 1, 2, 0, 0, 0, 0) := cd_of gl_143 rfl
set_option maxRecDepth 20000 in
theorem cd_143_28 : sm_cd 143 28 = some (.iconst 2, 1, 0, 0, 0, 0, 0, 2, 0) := cd_of gl_143 rfl
set_option maxRecDepth 20000 in
theorem cd_143_29 : sm_cd 143 29 = some (.iaload, 1, 0, 0, 0, 0, 0, 0, 0) := cd_of gl_143 rfl
set_option maxRecDepth 20000 in
theorem cd_143_30 : sm_cd 143 30 = some (.invokevirtual 60, 3, 144, 0, 2, 5, 0, 0, 0) := cd_of gl_143 rfl
set_option maxRecDepth 20000 in
theorem cd_143_33 : sm_cd 143 33 = some (.aload_n 0, 1, 0, 0, 0, 0, 0, 0, 0) := cd_of gl_143 rfl
set_option maxRecDepth 20000 in
theorem cd_143_34 : sm_cd 143 34 = some (.getfield 13, 3, 0, 1, 2, 0, 0, 0, 0) := cd_of gl_143 rfl
set_option maxRecDepth 20000 in
theorem cd_143_37 : sm_cd 143 37 = some (.iconst 3, 1, 0, 0, 0, 0, 0, 3, 0) := cd_of gl_143 rfl
set_option maxRecDepth 20000 in
theorem cd_143_38 : sm_cd 143 38 = some (.iaload, 1, 0, 0, 0, 0, 0, 0, 0) := cd_of gl_143 rfl
set_option maxRecDepth 20000 in
theorem cd_143_39 : sm_cd 143 39 = some (.istore_n 1, 1, 1, 0, 0, 0, 0, 0, 0) := cd_of gl_143 rfl
set_option maxRecDepth 20000 in
theorem cd_143_40 : sm_cd 143 40 = some (.aload_n 0, 1, 0, 0, 0, 0, 0, 0, 0) := cd_of gl_143 rfl
set_option maxRecDepth 20000 in
theorem cd_143_41 : sm_cd 143 41 = some (.invokevirtual 64, 3, 145, 0, 0, 1, 0, 0, 0) := cd_of gl_143 rfl
set_option maxRecDepth 20000 in
theorem cd_143_44 : sm_cd 143 44 = some (.istore_n 2, 1, 2, 0, 0, 0, 0, 0, 0) := cd_of gl_143 rfl
set_option maxRecDepth 20000 in
theorem cd_143_45 : sm_cd 143 45 = some (.aload_n 0, 1, 0, 0, 0, 0, 0, 0, 0) := cd_of gl_143 rfl
set_option maxRecDepth 20000 in
theorem cd_143_46 : sm_cd 143 46 = some (.getfield 39, 3, 0, 0, 2, 0, 0, 0, 0) := cd_of gl_143 rfl
set_option maxRecDepth 20000 in
theorem cd_143_49 : sm_cd 143 49 = some (.iload_n 2, 1, 2, 0, 0, 0, 0, 0, 0) := cd_of gl_143 rfl
set_option maxRecDepth 20000 in
theorem cd_143_50 : sm_cd 143 50 = some (.invokevirtual 68, 3, 127, 0, 1, 2, 1, 0, 0) := cd_of gl_143 rfl
set_option maxRecDepth 20000 in
theorem cd_143_53 : sm_cd 143 53 = some (.istore_n 3, 1, 3, 0, 0, 0, 0, 0, 0) := cd_of gl_143 rfl
set_option maxRecDepth 20000 in
theorem cd_143_54 : sm_cd 143 54 = some (.aload_n 0, 1, 0, 0, 0, 0, 0, 0, 0) := cd_of gl_143 rfl
set_option maxRecDepth 20000 in
theorem cd_143_55 : sm_cd 143 55 = some (.iload_n 3, 1, 3, 0, 0, 0, 0, 0, 0) := cd_of gl_143 rfl
set_option maxRecDepth 20000 in
theorem cd_143_56 : sm_cd 143 56 = some (.invokevirtual 72, 3, 148, 0, 1, 2, 0, 0, 0) := cd_of gl_143 rfl
set_option maxRecDepth 20000 in
theorem cd_143_59 : sm_cd 143 59 = some (.ifCond .eq 15, 3, 74, 0, 0, 0, 0, 0, 0) := cd_of gl_143 rfl
set_option maxRecDepth 20000 in
theorem cd_143_62 : sm_cd 143 62 = some (.aload_n 0, 1, 0, 0, 0, 0, 0, 0, 0) := cd_of gl_143 rfl
set_option maxRecDepth 20000 in
theorem cd_143_63 : sm_cd 143 63 = some (.invokevirtual 76, 3, 151, 0, 0, 2, 0, 0, 0) := cd_of gl_143 rfl
set_option maxRecDepth 20000 in
theorem cd_143_66 : sm_cd 143 66 = some (.ifCond .ne 8, 3, 74, 0, 0, 0, 0, 0, 0) := cd_of gl_143 rfl
set_option maxRecDepth 20000 in
theorem cd_143_69 : sm_cd 143 69 = some (.aload_n 0, 1, 0, 0, 0, 0, 0, 0, 0) := cd_of gl_143 rfl
set_option maxRecDepth 20000 in
theorem cd_143_70 : sm_cd 143 70 = some (.invokevirtual 79, 3, 153, 0, 0, 4, 0, 0, 0) := cd_of gl_143 rfl
set_option maxRecDepth 20000 in
theorem cd_143_73 : sm_cd 143 73 = some (.pop, 1, 0, 0, 0, 0, 0, 0, 0) := cd_of gl_143 rfl
set_option maxRecDepth 20000 in
theorem cd_143_74 : sm_cd 143 74 = some (.aload_n 0, 1, 0, 0, 0, 0, 0, 0, 0) := cd_of gl_143 rfl
set_option maxRecDepth 20000 in
theorem cd_143_75 : sm_cd 143 75 = some (.iload_n 3, 1, 3, 0, 0, 0, 0, 0, 0) := cd_of gl_143 rfl
set_option maxRecDepth 20000 in
theorem cd_143_76 : sm_cd 143 76 = some (.aload_n 0, 1, 0, 0, 0, 0, 0, 0, 0) := cd_of gl_143 rfl
set_option maxRecDepth 20000 in
theorem cd_143_77 : sm_cd 143 77 = some (.getfield 39, 3, 0, 0, 2, 0, 0, 0, 0) := cd_of gl_143 rfl
set_option maxRecDepth 20000 in
theorem cd_143_80 : sm_cd 143 80 = some (.iload_n 2, 1, 2, 0, 0, 0, 0, 0, 0) := cd_of gl_143 rfl
set_option maxRecDepth 20000 in
theorem cd_143_81 : sm_cd 143 81 = some (.invokevirtual 82, 3, 126, 0, 1, 2, 1, 0, 0) := cd_of gl_143 rfl
set_option maxRecDepth 20000 in
theorem cd_143_84 : sm_cd 143 84 = some (.invokevirtual 85, 3, 159, 0, 2, 3, 0, 0, 0) := cd_of gl_143 rfl
set_option maxRecDepth 20000 in
theorem cd_143_87 : sm_cd 143 87 = some (.istore 4, 2, 4, 0, 0, 0, 0, 0, 0) := cd_of gl_143 rfl
set_option maxRecDepth 20000 in
theorem cd_143_89 : sm_cd 143 89 = some (.iload 4, 2, 4, 0, 0, 0, 0, 0, 0) := cd_of gl_143 rfl
set_option maxRecDepth 20000 in
theorem cd_143_91 : sm_cd 143 91 = some (.ifCond .eq 13, 3, 104, 0, 0, 0, 0, 0, 0) := cd_of gl_143 rfl
set_option maxRecDepth 20000 in
theorem cd_143_94 : sm_cd 143 94 = some (.aload_n 0, 1, 0, 0, 0, 0, 0, 0, 0) := cd_of gl_143 rfl
set_option maxRecDepth 20000 in
theorem cd_143_95 : sm_cd 143 95 = some (.getfield 13, 3, 0, 1, 2, 0, 0, 0, 0) := cd_of gl_143 rfl
set_option maxRecDepth 20000 in
theorem cd_143_98 : sm_cd 143 98 = some (.iconst 0, 1, 0, 0, 0, 0, 0, 0, 0) := cd_of gl_143 rfl
set_option maxRecDepth 20000 in
theorem cd_143_99 : sm_cd 143 99 = some (.iload 4, 2, 4, 0, 0, 0, 0, 0, 0) := cd_of gl_143 rfl
set_option maxRecDepth 20000 in
theorem cd_143_101 : sm_cd 143 101 = some (.iastore, 1, 0, 0, 0, 0, 0, 0, 0) := cd_of gl_143 rfl
set_option maxRecDepth 20000 in
theorem cd_143_102 : sm_cd 143 102 = some (.iconst 0, 1, 0, 0, 0, 0, 0, 0, 0) := cd_of gl_143 rfl
set_option maxRecDepth 20000 in
theorem cd_143_103 : sm_cd 143 103 = some (.ireturn, 1, 0, 0, 2, 0, 0, 0, 0) := cd_of gl_143 rfl
set_option maxRecDepth 20000 in
theorem cd_143_104 : sm_cd 143 104 = some (.aload_n 0, 1, 0, 0, 0, 0, 0, 0, 0) := cd_of gl_143 rfl
set_option maxRecDepth 20000 in
theorem cd_143_105 : sm_cd 143 105 = some (.iconst 1, 1, 0, 0, 0, 0, 0, 1, 0) := cd_of gl_143 rfl
set_option maxRecDepth 20000 in
theorem cd_143_106 : sm_cd 143 106 = some (.aload_n 0, 1, 0, 0, 0, 0, 0, 0, 0) := cd_of gl_143 rfl
set_option maxRecDepth 20000 in
theorem cd_143_107 : sm_cd 143 107 = some (.getfield 13, 3, 0, 1, 2, 0, 0, 0, 0) := cd_of gl_143 rfl
set_option maxRecDepth 20000 in
theorem cd_143_110 : sm_cd 143 110 = some (.iconst 1, 1, 0, 0, 0, 0, 0, 1, 0) := cd_of gl_143 rfl
set_option maxRecDepth 20000 in
theorem cd_143_111 : sm_cd 143 111 = some (.iaload, 1, 0, 0, 0, 0, 0, 0, 0) := cd_of gl_143 rfl
set_option maxRecDepth 20000 in
theorem cd_143_112 : sm_cd 143 112 = some (.iconst 1, 1, 0, 0, 0, 0, 0, 1, 0) := cd_of gl_143 rfl
set_option maxRecDepth 20000 in
theorem cd_143_113 : sm_cd 143 113 = some (.iadd, 1, 0, 0, 0, 0, 0, 0, 0) := cd_of gl_143 rfl
set_option maxRecDepth 20000 in
theorem cd_143_114 : sm_cd 143 114 = some (.invokevirtual 60, 3, 144, 0, 2, 5, 0, 0, 0) := cd_of gl_143 rfl
set_option maxRecDepth 20000 in
theorem cd_143_117 : sm_cd 143 117 = some (.aload_n 0, 1, 0, 0, 0, 0, 0, 0, 0) := cd_of gl_143 rfl
set_option maxRecDepth 20000 in
theorem cd_143_118 : sm_cd 143 118 = some (.getfield 13, 3, 0, 1, 2, 0, 0, 0, 0) := cd_of gl_143 rfl
set_option maxRecDepth 20000 in
theorem cd_143_121 : sm_cd 143 121 = some (.iconst 3, 1, 0, 0, 0, 0, 0, 3, 0) := cd_of gl_143 rfl
set_option maxRecDepth 20000 in
theorem cd_143_122 : sm_cd 143 122 = some (.iaload, 1, 0, 0, 0, 0, 0, 0, 0) := cd_of gl_143 rfl
set_option maxRecDepth 20000 in
theorem cd_143_123 : sm_cd 143 123 = some (.istore 5, 2, 5, 0, 0, 0, 0, 0, 0) := cd_of gl_143 rfl
set_option maxRecDepth 20000 in
theorem cd_143_125 : sm_cd 143 125 = some (.aload_n 0, 1, 0, 0, 0, 0, 0, 0, 0) := cd_of gl_143 rfl
set_option maxRecDepth 20000 in
theorem cd_143_126 : sm_cd 143 126 = some (.getfield 32, 3, 0, 7, 0, 0, 0, 0, 0) := cd_of gl_143 rfl
set_option maxRecDepth 20000 in
theorem cd_143_129 : sm_cd 143 129 = some (.bipush 31, 2, 0, 0, 0, 0, 0, 31, 0) := cd_of gl_143 rfl
set_option maxRecDepth 20000 in
theorem cd_143_131 : sm_cd 143 131 = some (.iand, 1, 0, 0, 0, 0, 0, 0, 0) := cd_of gl_143 rfl
set_option maxRecDepth 20000 in
theorem cd_143_132 : sm_cd 143 132 = some (.iconst 4, 1, 0, 0, 0, 0, 0, 4, 0) := cd_of gl_143 rfl
set_option maxRecDepth 20000 in
theorem cd_143_133 : sm_cd 143 133 = some (.imul, 1, 0, 0, 0, 0, 0, 0, 0) := cd_of gl_143 rfl
set_option maxRecDepth 20000 in
theorem cd_143_134 : sm_cd 143 134 = some (.istore 6, 2, 6, 0, 0, 0, 0, 0, 0) := cd_of gl_143 rfl
set_option maxRecDepth 20000 in
theorem cd_143_136 : sm_cd 143 136 = some (.aload_n 0, 1, 0, 0, 0, 0, 0, 0, 0) := cd_of gl_143 rfl
set_option maxRecDepth 20000 in
theorem cd_143_137 : sm_cd 143 137 = some (.getfield 29, 3, 0, 6, 2, 0, 0, 0, 0) := cd_of gl_143 rfl
set_option maxRecDepth 20000 in
theorem cd_143_140 : sm_cd 143 140 = some (.iload 6, 2, 6, 0, 0, 0, 0, 0, 0) := cd_of gl_143 rfl
set_option maxRecDepth 20000 in
theorem cd_143_142 : sm_cd 143 142 = some (.iload_n 2, 1, 2, 0, 0, 0, 0, 0, 0) := cd_of gl_143 rfl
set_option maxRecDepth 20000 in
theorem cd_143_143 : sm_cd 143 143 = some (.iastore, 1, 0, 0, 0, 0, 0, 0, 0) := cd_of gl_143 rfl
set_option maxRecDepth 20000 in
theorem cd_143_144 : sm_cd 143 144 = some (.aload_n 0, 1, 0, 0, 0, 0, 0, 0, 0) := cd_of gl_143 rfl
set_option maxRecDepth 20000 in
theorem cd_143_145 : sm_cd 143 145 = some (.getfield 29, 3, 0, 6, 2, 0, 0, 0, 0) := cd_of gl_143 rfl
set_option maxRecDepth 20000 in
theorem cd_143_148 : sm_cd 143 148 = some (.iload 6, 2, 6, 0, 0, 0, 0, 0, 0) := cd_of gl_143 rfl
set_option maxRecDepth 20000 in
theorem cd_143_150 : sm_cd 143 150 = some (.iconst 1, 1, 0, 0, 0, 0, 0, 1, 0) := cd_of gl_143 rfl
set_option maxRecDepth 20000 in
theorem cd_143_151 : sm_cd 143 151 = some (.iadd, 1, 0, 0, 0, 0, 0, 0, 0) := cd_of gl_143 rfl
set_option maxRecDepth 20000 in
theorem cd_143_152 : sm_cd 143 152 = some (.iload_n 1, 1, 1, 0, 0, 0, 0, 0, 0) := cd_of gl_143 rfl
set_option maxRecDepth 20000 in
theorem cd_143_153 : sm_cd 143 153 = some (.iastore, 1, 0, 0, 0, 0, 0, 0, 0) := cd_of gl_143 rfl
set_option maxRecDepth 20000 in
theorem cd_143_154 : sm_cd 143 154 = some (.aload_n 0, 1, 0, 0, 0, 0, 0, 0, 0) := cd_of gl_143 rfl
set_option maxRecDepth 20000 in
theorem cd_143_155 : sm_cd 143 155 = some (.getfield 29, 3, 0, 6, 2, 0, 0, 0, 0) := cd_of gl_143 rfl
set_option maxRecDepth 20000 in
theorem cd_143_158 : sm_cd 143 158 = some (.iload 6, 2, 6, 0, 0, 0, 0, 0, 0) := cd_of gl_143 rfl
set_option maxRecDepth 20000 in
theorem cd_143_160 : sm_cd 143 160 = some (.iconst 2, 1, 0, 0, 0, 0, 0, 2, 0) := cd_of gl_143 rfl
set_option maxRecDepth 20000 in
theorem cd_143_161 : sm_cd 143 161 = some (.iadd, 1, 0, 0, 0, 0, 0, 0, 0) := cd_of gl_143 rfl
set_option maxRecDepth 20000 in
theorem cd_143_162 : sm_cd 143 162 = some (.iload 5, 2, 5, 0, 0, 0, 0, 0, 0) := cd_of gl_143 rfl
set_option maxRecDepth 20000 in
theorem cd_143_164 : sm_cd 143 164 = some (.iastore, 1, 0, 0, 0, 0, 0, 0, 0) := cd_of gl_143 rfl
set_option maxRecDepth 20000 in
theorem cd_143_165 : sm_cd 143 165 = some (.aload_n 0, 1, 0, 0, 0, 0, 0, 0, 0) := cd_of gl_143 rfl
set_option maxRecDepth 20000 in
theorem cd_143_166 : sm_cd 143 166 = some (.getfield 29, 3, 0, 6, 2, 0, 0, 0, 0) := cd_of gl_143 rfl
set_option maxRecDepth 20000 in
theorem cd_143_169 : sm_cd 143 169 = some (.iload 6, 2, 6, 0, 0, 0, 0, 0, 0) := cd_of gl_143 rfl
set_option maxRecDepth 20000 in
theorem cd_143_171 : sm_cd 143 171 = some (.iconst 3, 1, 0, 0, 0, 0, 0, 3, 0) := cd_of gl_143 rfl
set_option maxRecDepth 20000 in
theorem cd_143_172 : sm_cd 143 172 = some (.iadd, 1, 0, 0, 0, 0, 0, 0, 0) := cd_of gl_143 rfl
set_option maxRecDepth 20000 in
theorem cd_143_173 : sm_cd 143 173 = some (.iload 5, 2, 5, 0, 0, 0, 0, 0, 0) := cd_of gl_143 rfl
set_option maxRecDepth 20000 in
theorem cd_143_175 : sm_cd 143 175 = some (.ifCond .le 11, 3, 186, 0, 0, 0, 0, 0, 0) := cd_of gl_143 rfl
set_option maxRecDepth 20000 in
theorem cd_143_178 : sm_cd 143 178 = some (.aload_n 0, 1, 0, 0, 0, 0, 0, 0, 0) := cd_of gl_143 rfl
set_option maxRecDepth 20000 in
theorem cd_143_179 : sm_cd 143 179 = some (.iconst 1, 1, 0, 0, 0, 0, 0, 1, 0) := cd_of gl_143 rfl
set_option maxRecDepth 20000 in
theorem cd_143_180 : sm_cd 143 180 = some (.invokevirtual 88, 3, 149, 0, 1, 2, 0, 0, 0) := cd_of gl_143 rfl
set_option maxRecDepth 20000 in
theorem cd_143_183 : sm_cd 143 183 = some (.goto 4, 3, 187, 0, 0, 0, 0, 0, 0) := cd_of gl_143 rfl
set_option maxRecDepth 20000 in
theorem cd_143_186 : sm_cd 143 186 = some (.iconst 0, 1, 0, 0, 0, 0, 0, 0, 0) := cd_of gl_143 rfl
set_option maxRecDepth 20000 in
theorem cd_143_187 : sm_cd 143 187 = some (.iastore, 1, 0, 0, 0, 0, 0, 0, 0) := cd_of gl_143 rfl
set_option maxRecDepth 20000 in
theorem cd_143_188 : sm_cd 143 188 = some (.iconst 1, 1, 0, 0, 0, 0, 0, 1, 0) := cd_of gl_143 rfl
set_option maxRecDepth 20000 in
theorem cd_143_189 : sm_cd 143 189 = some (.ireturn, 1, 0, 0, 2, 0, 0, 0, 0) := cd_of gl_143 rfl
noncomputable def f_143_187 (K : Nat → Value) (k d : Nat) (l0 : Nat) (l1 : Int32) (l2 : Int32) (l3 : Int32) (l4 : Int32) (l5 : Int32) (l6 : Int32) (s0 : Nat) (s1 : Int32) (s2 : Int32) (w : aW) (I : aI) (J : aJ) : Option aR :=
  gA w 10 10 s0 s1 (
  lt_ (sm_up2 I s0 (s1 : Int32).toNatClampNeg s2) fun I_1 =>
  some (some (.int 1), w, I_1, J))
theorem ok_143_187 {K : Nat → Value} {k d : Nat} {l0 : Nat} {l1 : Int32} {l2 : Int32} {l3 : Int32} {l4 : Int32} {l5 : Int32} {l6 : Int32} {s0 : Nat} {s1 : Int32} {s2 : Int32} {w : aW} {I : aI} {J : aJ} {R : aR} (h : f_143_187 K k d l0 l1 l2 l3 l4 l5 l6 s0 s1 s2 w I J = some R) : Go K (d + 1) 143 187 [some (.ref l0), some (.int l1), some (.int l2), some (.int l3), some (.int l4), some (.int l5), some (.int l6)] [.int s2, .int s1, .ref s0] w I J R := by
  unfold f_143_187 at h
  obtain ⟨ht, h⟩ := gA_s h
  refine gs_iast cd_143_187 ht ?_
  obtain ⟨I_1, hx, h⟩ := lt_s_ h
  rw [hx]
  refine gs_0 (pc' := 189) (L' := [some (.ref l0), some (.int l1), some (.int l2), some (.int l3), some (.int l4), some (.int l5), some (.int l6)]) (st' := [.int 1]) cd_143_188 rfl rfl ?_
  cases h
  exact gs_ri cd_143_189 (Or.inr (Or.inl ⟨rfl, Or.inr rfl⟩))
noncomputable def f_143_74 (K : Nat → Value) (k d : Nat) (l0 : Nat) (l1 : Int32) (l2 : Int32) (l3 : Int32) (w : aW) (I : aI) (J : aJ) : Option aR :=
  gO w 0 l0 (
  gV w l0 0 fun q_1 =>
  gO w 1 q_1 (
  cI (Cl K d 126 [.ref q_1, .int l2] w I J) fun x_5 w_2 I_3 J_4 =>
  gO w_2 0 l0 (
  cI (Cl K d 159 [.ref l0, .int l3, .int x_5] w_2 I_3 J_4) fun x_9 w_6 I_7 J_8 =>
  if x_9 = 0 then
    gO w_6 0 l0 (
    gV w_6 l0 1 fun q_10 =>
    gA w_6 10 20 q_10 1 (
    gO w_6 0 l0 (
    cV (Cl K d 144 [.ref l0, .int 1, .int ((I_7 q_10 (1 : Int32).toNatClampNeg) + 1)] w_6 I_7 J_8) fun w_11 I_12 J_13 =>
    gO w_11 0 l0 (
    gV w_11 l0 1 fun q_14 =>
    gA w_11 10 20 q_14 3 (
    lt_ (I_12 q_14 (3 : Int32).toNatClampNeg) fun x_15 =>
    gO w_11 0 l0 (
    lt_ (((I_12 l0 7) &&& 31) * 4) fun x_16 =>
    gO w_11 0 l0 (
    gV w_11 l0 6 fun q_17 =>
    gA w_11 10 10 q_17 x_16 (
    lt_ (sm_up2 I_12 q_17 (x_16 : Int32).toNatClampNeg l2) fun I_18 =>
    gO w_11 0 l0 (
    gV w_11 l0 6 fun q_19 =>
    gA w_11 10 10 q_19 (x_16 + 1) (
    lt_ (sm_up2 I_18 q_19 (x_16 + 1 : Int32).toNatClampNeg l1) fun I_20 =>
    gO w_11 0 l0 (
    gV w_11 l0 6 fun q_21 =>
    gA w_11 10 10 q_21 (x_16 + 2) (
    lt_ (sm_up2 I_20 q_21 (x_16 + 2 : Int32).toNatClampNeg x_15) fun I_22 =>
    gO w_11 0 l0 (
    gV w_11 l0 6 fun q_23 =>
    if x_15 ≤ 0 then
      f_143_187 K k d l0 l1 l2 l3 x_9 x_15 x_16 q_23 (x_16 + 3) 0 w_11 I_22 J_13
    else
      gO w_11 0 l0 (
      cI (Cl K d 149 [.ref l0, .int 1] w_11 I_22 J_13) fun x_27 w_24 I_25 J_26 =>
      f_143_187 K k d l0 l1 l2 l3 x_9 x_15 x_16 q_23 (x_16 + 3) x_27 w_24 I_25 J_26))))))))))))))
  else
    gO w_6 0 l0 (
    gV w_6 l0 1 fun q_28 =>
    gA w_6 10 10 q_28 0 (
    lt_ (sm_up2 I_7 q_28 (0 : Int32).toNatClampNeg x_9) fun I_29 =>
    some (some (.int 0), w_6, I_29, J_8))))))
theorem ok_143_74 {K : Nat → Value} {k d : Nat} {l0 : Nat} {l1 : Int32} {l2 : Int32} {l3 : Int32} {w : aW} {I : aI} {J : aJ} {R : aR} (h : f_143_74 K k d l0 l1 l2 l3 w I J = some R) : Go K (d + 1) 143 74 [some (.ref l0), some (.int l1), some (.int l2), some (.int l3), none, none, none] [] w I J R := by
  unfold f_143_74 at h
  refine gs_0 (pc' := 75) (L' := [some (.ref l0), some (.int l1), some (.int l2), some (.int l3), none, none, none]) (st' := [.ref l0]) cd_143_74 rfl rfl ?_
  refine gs_0 (pc' := 76) (L' := [some (.ref l0), some (.int l1), some (.int l2), some (.int l3), none, none, none]) (st' := [.int l3, .ref l0]) cd_143_75 rfl rfl ?_
  refine gs_0 (pc' := 77) (L' := [some (.ref l0), some (.int l1), some (.int l2), some (.int l3), none, none, none]) (st' := [.ref l0, .int l3, .ref l0]) cd_143_76 rfl rfl ?_
  obtain ⟨ht, h⟩ := gO_s h
  obtain ⟨q_1, hv, h⟩ := gV_s h
  refine gs_gfR cd_143_77 (by decide) ht hv ?_
  refine gs_0 (pc' := 81) (L' := [some (.ref l0), some (.int l1), some (.int l2), some (.int l3), none, none, none]) (st' := [.int l2, .ref q_1, .int l3, .ref l0]) cd_143_80 rfl rfl ?_
  obtain ⟨ht, h⟩ := gO_s h
  obtain ⟨x_5, w_2, I_3, J_4, hcl, h⟩ := cI_s h
  refine gs_call (as := [.ref q_1, .int l2]) (rest := [.int l3, .ref l0]) cd_143_81 rfl (by decide) rfl (sm_rv_ok (by decide) ht) (Nat.le_of_ble_eq_true rfl) (Nat.le_of_ble_eq_true rfl) rfl hcl ?_
  obtain ⟨ht, h⟩ := gO_s h
  obtain ⟨x_9, w_6, I_7, J_8, hcl, h⟩ := cI_s h
  refine gs_call (as := [.ref l0, .int l3, .int x_5]) (rest := []) cd_143_84 rfl (by decide) rfl (sm_rv_ok (by decide) ht) (Nat.le_of_ble_eq_true rfl) (Nat.le_of_ble_eq_true rfl) rfl hcl ?_
  refine gs_0 (pc' := 89) (L' := [some (.ref l0), some (.int l1), some (.int l2), some (.int l3), some (.int x_9), none, none]) (st' := []) cd_143_87 rfl rfl ?_
  refine gs_0 (pc' := 91) (L' := [some (.ref l0), some (.int l1), some (.int l2), some (.int l3), some (.int x_9), none, none]) (st' := [.int x_9]) cd_143_89 rfl rfl ?_
  refine gs_0 (pc' := if x_9 = 0 then 104 else 94) (L' := [some (.ref l0), some (.int l1), some (.int l2), some (.int l3), some (.int x_9), none, none]) (st' := []) cd_143_91 rfl rfl ?_
  refine go_ite (fun hc => ?_) (fun hc => ?_)
  · rw [if_pos hc] at h
    refine gs_0 (pc' := 105) (L' := [some (.ref l0), some (.int l1), some (.int l2), some (.int l3), some (.int x_9), none, none]) (st' := [.ref l0]) cd_143_104 rfl rfl ?_
    refine gs_0 (pc' := 106) (L' := [some (.ref l0), some (.int l1), some (.int l2), some (.int l3), some (.int x_9), none, none]) (st' := [.int 1, .ref l0]) cd_143_105 rfl rfl ?_
    refine gs_0 (pc' := 107) (L' := [some (.ref l0), some (.int l1), some (.int l2), some (.int l3), some (.int x_9), none, none]) (st' := [.ref l0, .int 1, .ref l0]) cd_143_106 rfl rfl ?_
    obtain ⟨ht, h⟩ := gO_s h
    obtain ⟨q_10, hv, h⟩ := gV_s h
    refine gs_gfR cd_143_107 (by decide) ht hv ?_
    refine gs_0 (pc' := 111) (L' := [some (.ref l0), some (.int l1), some (.int l2), some (.int l3), some (.int x_9), none, none]) (st' := [.int 1, .ref q_10, .int 1, .ref l0]) cd_143_110 rfl rfl ?_
    obtain ⟨ht, h⟩ := gA_s h
    refine gs_iald cd_143_111 ht ?_
    refine gs_0 (pc' := 113) (L' := [some (.ref l0), some (.int l1), some (.int l2), some (.int l3), some (.int x_9), none, none]) (st' := [.int 1, .int (I_7 q_10 (1 : Int32).toNatClampNeg), .int 1, .ref l0]) cd_143_112 rfl rfl ?_
    refine gs_0 (pc' := 114) (L' := [some (.ref l0), some (.int l1), some (.int l2), some (.int l3), some (.int x_9), none, none]) (st' := [.int ((I_7 q_10 (1 : Int32).toNatClampNeg) + 1), .int 1, .ref l0]) cd_143_113 rfl rfl ?_
    obtain ⟨ht, h⟩ := gO_s h
    obtain ⟨w_11, I_12, J_13, hcl, h⟩ := cV_s h
    refine gs_call (as := [.ref l0, .int 1, .int ((I_7 q_10 (1 : Int32).toNatClampNeg) + 1)]) (rest := []) cd_143_114 rfl (by decide) rfl (sm_rv_ok (by decide) ht) (Nat.le_of_ble_eq_true rfl) (Nat.le_of_ble_eq_true rfl) rfl hcl ?_
    refine gs_0 (pc' := 118) (L' := [some (.ref l0), some (.int l1), some (.int l2), some (.int l3), some (.int x_9), none, none]) (st' := [.ref l0]) cd_143_117 rfl rfl ?_
    obtain ⟨ht, h⟩ := gO_s h
    obtain ⟨q_14, hv, h⟩ := gV_s h
    refine gs_gfR cd_143_118 (by decide) ht hv ?_
    refine gs_0 (pc' := 122) (L' := [some (.ref l0), some (.int l1), some (.int l2), some (.int l3), some (.int x_9), none, none]) (st' := [.int 3, .ref q_14]) cd_143_121 rfl rfl ?_
    obtain ⟨ht, h⟩ := gA_s h
    refine gs_iald cd_143_122 ht ?_
    refine gs_0 (pc' := 125) (L' := [some (.ref l0), some (.int l1), some (.int l2), some (.int l3), some (.int x_9), some (.int (I_12 q_14 (3 : Int32).toNatClampNeg)), none]) (st' := []) cd_143_123 rfl rfl ?_
    obtain ⟨x_15, hx, h⟩ := lt_s_ h
    rw [hx]
    clear hx
    refine gs_0 (pc' := 126) (L' := [some (.ref l0), some (.int l1), some (.int l2), some (.int l3), some (.int x_9), some (.int x_15), none]) (st' := [.ref l0]) cd_143_125 rfl rfl ?_
    obtain ⟨ht, h⟩ := gO_s h
    refine gs_gfI cd_143_126 (by decide) (by decide) ht ?_
    refine gs_0 (pc' := 131) (L' := [some (.ref l0), some (.int l1), some (.int l2), some (.int l3), some (.int x_9), some (.int x_15), none]) (st' := [.int 31, .int (I_12 l0 7)]) cd_143_129 rfl rfl ?_
    refine gs_0 (pc' := 132) (L' := [some (.ref l0), some (.int l1), some (.int l2), some (.int l3), some (.int x_9), some (.int x_15), none]) (st' := [.int ((I_12 l0 7) &&& 31)]) cd_143_131 rfl rfl ?_
    refine gs_0 (pc' := 133) (L' := [some (.ref l0), some (.int l1), some (.int l2), some (.int l3), some (.int x_9), some (.int x_15), none]) (st' := [.int 4, .int ((I_12 l0 7) &&& 31)]) cd_143_132 rfl rfl ?_
    refine gs_0 (pc' := 134) (L' := [some (.ref l0), some (.int l1), some (.int l2), some (.int l3), some (.int x_9), some (.int x_15), none]) (st' := [.int (((I_12 l0 7) &&& 31) * 4)]) cd_143_133 rfl rfl ?_
    refine gs_0 (pc' := 136) (L' := [some (.ref l0), some (.int l1), some (.int l2), some (.int l3), some (.int x_9), some (.int x_15), some (.int (((I_12 l0 7) &&& 31) * 4))]) (st' := []) cd_143_134 rfl rfl ?_
    obtain ⟨x_16, hx, h⟩ := lt_s_ h
    rw [hx]
    clear hx
    refine gs_0 (pc' := 137) (L' := [some (.ref l0), some (.int l1), some (.int l2), some (.int l3), some (.int x_9), some (.int x_15), some (.int x_16)]) (st' := [.ref l0]) cd_143_136 rfl rfl ?_
    obtain ⟨ht, h⟩ := gO_s h
    obtain ⟨q_17, hv, h⟩ := gV_s h
    refine gs_gfR cd_143_137 (by decide) ht hv ?_
    refine gs_0 (pc' := 142) (L' := [some (.ref l0), some (.int l1), some (.int l2), some (.int l3), some (.int x_9), some (.int x_15), some (.int x_16)]) (st' := [.int x_16, .ref q_17]) cd_143_140 rfl rfl ?_
    refine gs_0 (pc' := 143) (L' := [some (.ref l0), some (.int l1), some (.int l2), some (.int l3), some (.int x_9), some (.int x_15), some (.int x_16)]) (st' := [.int l2, .int x_16, .ref q_17]) cd_143_142 rfl rfl ?_
    obtain ⟨ht, h⟩ := gA_s h
    refine gs_iast cd_143_143 ht ?_
    obtain ⟨I_18, hx, h⟩ := lt_s_ h
    rw [hx]
    refine gs_0 (pc' := 145) (L' := [some (.ref l0), some (.int l1), some (.int l2), some (.int l3), some (.int x_9), some (.int x_15), some (.int x_16)]) (st' := [.ref l0]) cd_143_144 rfl rfl ?_
    obtain ⟨ht, h⟩ := gO_s h
    obtain ⟨q_19, hv, h⟩ := gV_s h
    refine gs_gfR cd_143_145 (by decide) ht hv ?_
    refine gs_0 (pc' := 150) (L' := [some (.ref l0), some (.int l1), some (.int l2), some (.int l3), some (.int x_9), some (.int x_15), some (.int x_16)]) (st' := [.int x_16, .ref q_19]) cd_143_148 rfl rfl ?_
    refine gs_0 (pc' := 151) (L' := [some (.ref l0), some (.int l1), some (.int l2), some (.int l3), some (.int x_9), some (.int x_15), some (.int x_16)]) (st' := [.int 1, .int x_16, .ref q_19]) cd_143_150 rfl rfl ?_
    refine gs_0 (pc' := 152) (L' := [some (.ref l0), some (.int l1), some (.int l2), some (.int l3), some (.int x_9), some (.int x_15), some (.int x_16)]) (st' := [.int (x_16 + 1), .ref q_19]) cd_143_151 rfl rfl ?_
    refine gs_0 (pc' := 153) (L' := [some (.ref l0), some (.int l1), some (.int l2), some (.int l3), some (.int x_9), some (.int x_15), some (.int x_16)]) (st' := [.int l1, .int (x_16 + 1), .ref q_19]) cd_143_152 rfl rfl ?_
    obtain ⟨ht, h⟩ := gA_s h
    refine gs_iast cd_143_153 ht ?_
    obtain ⟨I_20, hx, h⟩ := lt_s_ h
    rw [hx]
    refine gs_0 (pc' := 155) (L' := [some (.ref l0), some (.int l1), some (.int l2), some (.int l3), some (.int x_9), some (.int x_15), some (.int x_16)]) (st' := [.ref l0]) cd_143_154 rfl rfl ?_
    obtain ⟨ht, h⟩ := gO_s h
    obtain ⟨q_21, hv, h⟩ := gV_s h
    refine gs_gfR cd_143_155 (by decide) ht hv ?_
    refine gs_0 (pc' := 160) (L' := [some (.ref l0), some (.int l1), some (.int l2), some (.int l3), some (.int x_9), some (.int x_15), some (.int x_16)]) (st' := [.int x_16, .ref q_21]) cd_143_158 rfl rfl ?_
    refine gs_0 (pc' := 161) (L' := [some (.ref l0), some (.int l1), some (.int l2), some (.int l3), some (.int x_9), some (.int x_15), some (.int x_16)]) (st' := [.int 2, .int x_16, .ref q_21]) cd_143_160 rfl rfl ?_
    refine gs_0 (pc' := 162) (L' := [some (.ref l0), some (.int l1), some (.int l2), some (.int l3), some (.int x_9), some (.int x_15), some (.int x_16)]) (st' := [.int (x_16 + 2), .ref q_21]) cd_143_161 rfl rfl ?_
    refine gs_0 (pc' := 164) (L' := [some (.ref l0), some (.int l1), some (.int l2), some (.int l3), some (.int x_9), some (.int x_15), some (.int x_16)]) (st' := [.int x_15, .int (x_16 + 2), .ref q_21]) cd_143_162 rfl rfl ?_
    obtain ⟨ht, h⟩ := gA_s h
    refine gs_iast cd_143_164 ht ?_
    obtain ⟨I_22, hx, h⟩ := lt_s_ h
    rw [hx]
    refine gs_0 (pc' := 166) (L' := [some (.ref l0), some (.int l1), some (.int l2), some (.int l3), some (.int x_9), some (.int x_15), some (.int x_16)]) (st' := [.ref l0]) cd_143_165 rfl rfl ?_
    obtain ⟨ht, h⟩ := gO_s h
    obtain ⟨q_23, hv, h⟩ := gV_s h
    refine gs_gfR cd_143_166 (by decide) ht hv ?_
    refine gs_0 (pc' := 171) (L' := [some (.ref l0), some (.int l1), some (.int l2), some (.int l3), some (.int x_9), some (.int x_15), some (.int x_16)]) (st' := [.int x_16, .ref q_23]) cd_143_169 rfl rfl ?_
    refine gs_0 (pc' := 172) (L' := [some (.ref l0), some (.int l1), some (.int l2), some (.int l3), some (.int x_9), some (.int x_15), some (.int x_16)]) (st' := [.int 3, .int x_16, .ref q_23]) cd_143_171 rfl rfl ?_
    refine gs_0 (pc' := 173) (L' := [some (.ref l0), some (.int l1), some (.int l2), some (.int l3), some (.int x_9), some (.int x_15), some (.int x_16)]) (st' := [.int (x_16 + 3), .ref q_23]) cd_143_172 rfl rfl ?_
    refine gs_0 (pc' := 175) (L' := [some (.ref l0), some (.int l1), some (.int l2), some (.int l3), some (.int x_9), some (.int x_15), some (.int x_16)]) (st' := [.int x_15, .int (x_16 + 3), .ref q_23]) cd_143_173 rfl rfl ?_
    refine gs_0 (pc' := if x_15 ≤ 0 then 186 else 178) (L' := [some (.ref l0), some (.int l1), some (.int l2), some (.int l3), some (.int x_9), some (.int x_15), some (.int x_16)]) (st' := [.int (x_16 + 3), .ref q_23]) cd_143_175 rfl rfl ?_
    refine go_ite (fun hc => ?_) (fun hc => ?_)
    · rw [if_pos hc] at h
      refine gs_0 (pc' := 187) (L' := [some (.ref l0), some (.int l1), some (.int l2), some (.int l3), some (.int x_9), some (.int x_15), some (.int x_16)]) (st' := [.int 0, .int (x_16 + 3), .ref q_23]) cd_143_186 rfl rfl ?_
      exact ok_143_187 h
    · rw [if_neg hc] at h
      refine gs_0 (pc' := 179) (L' := [some (.ref l0), some (.int l1), some (.int l2), some (.int l3), some (.int x_9), some (.int x_15), some (.int x_16)]) (st' := [.ref l0, .int (x_16 + 3), .ref q_23]) cd_143_178 rfl rfl ?_
      refine gs_0 (pc' := 180) (L' := [some (.ref l0), some (.int l1), some (.int l2), some (.int l3), some (.int x_9), some (.int x_15), some (.int x_16)]) (st' := [.int 1, .ref l0, .int (x_16 + 3), .ref q_23]) cd_143_179 rfl rfl ?_
      obtain ⟨ht, h⟩ := gO_s h
      obtain ⟨x_27, w_24, I_25, J_26, hcl, h⟩ := cI_s h
      refine gs_call (as := [.ref l0, .int 1]) (rest := [.int (x_16 + 3), .ref q_23]) cd_143_180 rfl (by decide) rfl (sm_rv_ok (by decide) ht) (Nat.le_of_ble_eq_true rfl) (Nat.le_of_ble_eq_true rfl) rfl hcl ?_
      refine gs_0 (pc' := 187) (L' := [some (.ref l0), some (.int l1), some (.int l2), some (.int l3), some (.int x_9), some (.int x_15), some (.int x_16)]) (st' := [.int x_27, .int (x_16 + 3), .ref q_23]) cd_143_183 rfl rfl ?_
      exact ok_143_187 h
  · rw [if_neg hc] at h
    refine gs_0 (pc' := 95) (L' := [some (.ref l0), some (.int l1), some (.int l2), some (.int l3), some (.int x_9), none, none]) (st' := [.ref l0]) cd_143_94 rfl rfl ?_
    obtain ⟨ht, h⟩ := gO_s h
    obtain ⟨q_28, hv, h⟩ := gV_s h
    refine gs_gfR cd_143_95 (by decide) ht hv ?_
    refine gs_0 (pc' := 99) (L' := [some (.ref l0), some (.int l1), some (.int l2), some (.int l3), some (.int x_9), none, none]) (st' := [.int 0, .ref q_28]) cd_143_98 rfl rfl ?_
    refine gs_0 (pc' := 101) (L' := [some (.ref l0), some (.int l1), some (.int l2), some (.int l3), some (.int x_9), none, none]) (st' := [.int x_9, .int 0, .ref q_28]) cd_143_99 rfl rfl ?_
    obtain ⟨ht, h⟩ := gA_s h
    refine gs_iast cd_143_101 ht ?_
    obtain ⟨I_29, hx, h⟩ := lt_s_ h
    rw [hx]
    refine gs_0 (pc' := 103) (L' := [some (.ref l0), some (.int l1), some (.int l2), some (.int l3), some (.int x_9), none, none]) (st' := [.int 0]) cd_143_102 rfl rfl ?_
    cases h
    exact gs_ri cd_143_103 (Or.inr (Or.inl ⟨rfl, Or.inl rfl⟩))
noncomputable def f_143 (K : Nat → Value) (k d : Nat) (l0 : Nat) (w : aW) (I : aI) (J : aJ) : Option aR :=
  gO w 0 l0 (
  cI (Cl K d 142 [.ref l0] w I J) fun x_4 w_1 I_2 J_3 =>
  if x_4 = 0 then
    gO w_1 0 l0 (
    gV w_1 l0 3 fun q_5 =>
    gO w_1 0 l0 (
    gA w_1 10 10 q_5 ((I_2 l0 7) &&& 31) (
    lt_ (sm_up2 I_2 q_5 ((I_2 l0 7) &&& 31 : Int32).toNatClampNeg 0) fun I_6 =>
    gO w_1 0 l0 (
    gV w_1 l0 1 fun q_7 =>
    gA w_1 10 20 q_7 2 (
    gO w_1 0 l0 (
    cV (Cl K d 144 [.ref l0, .int 2, .int (I_6 q_7 (2 : Int32).toNatClampNeg)] w_1 I_6 J_3) fun w_8 I_9 J_10 =>
    gO w_8 0 l0 (
    gV w_8 l0 1 fun q_11 =>
    gA w_8 10 20 q_11 3 (
    lt_ (I_9 q_11 (3 : Int32).toNatClampNeg) fun x_12 =>
    gO w_8 0 l0 (
    cI (Cl K d 145 [.ref l0] w_8 I_9 J_10) fun x_16 w_13 I_14 J_15 =>
    gO w_13 0 l0 (
    gV w_13 l0 0 fun q_17 =>
    gO w_13 1 q_17 (
    cI (Cl K d 127 [.ref q_17, .int x_16] w_13 I_14 J_15) fun x_21 w_18 I_19 J_20 =>
    gO w_18 0 l0 (
    cI (Cl K d 148 [.ref l0, .int x_21] w_18 I_19 J_20) fun x_25 w_22 I_23 J_24 =>
    if x_25 = 0 then
      f_143_74 K k d l0 x_12 x_16 x_21 w_22 I_23 J_24
    else
      gO w_22 0 l0 (
      cI (Cl K d 151 [.ref l0] w_22 I_23 J_24) fun x_29 w_26 I_27 J_28 =>
      if ¬ x_29 = 0 then
        f_143_74 K k d l0 x_12 x_16 x_21 w_26 I_27 J_28
      else
        gO w_26 0 l0 (
        cI (Cl K d 153 [.ref l0] w_26 I_27 J_28) fun x_33 w_30 I_31 J_32 =>
        f_143_74 K k d l0 x_12 x_16 x_21 w_30 I_31 J_32))))))))))))))
  else
    some (some (.int 0), w_1, I_2, J_3))
theorem ok_143 {K : Nat → Value} {k d : Nat} {l0 : Nat} {w : aW} {I : aI} {J : aJ} {R : aR} (h : f_143 K k d l0 w I J = some R) : Go K (d + 1) 143 0 [some (.ref l0), none, none, none, none, none, none] [] w I J R := by
  unfold f_143 at h
  refine gs_0 (pc' := 1) (L' := [some (.ref l0), none, none, none, none, none, none]) (st' := [.ref l0]) cd_143_0 rfl rfl ?_
  obtain ⟨ht, h⟩ := gO_s h
  obtain ⟨x_4, w_1, I_2, J_3, hcl, h⟩ := cI_s h
  refine gs_call (as := [.ref l0]) (rest := []) cd_143_1 rfl (by decide) rfl (sm_rv_ok (by decide) ht) (Nat.le_of_ble_eq_true rfl) (Nat.le_of_ble_eq_true rfl) rfl hcl ?_
  refine gs_0 (pc' := if x_4 = 0 then 9 else 7) (L' := [some (.ref l0), none, none, none, none, none, none]) (st' := []) cd_143_4 rfl rfl ?_
  refine go_ite (fun hc => ?_) (fun hc => ?_)
  · rw [if_pos hc] at h
    refine gs_0 (pc' := 10) (L' := [some (.ref l0), none, none, none, none, none, none]) (st' := [.ref l0]) cd_143_9 rfl rfl ?_
    obtain ⟨ht, h⟩ := gO_s h
    obtain ⟨q_5, hv, h⟩ := gV_s h
    refine gs_gfR cd_143_10 (by decide) ht hv ?_
    refine gs_0 (pc' := 14) (L' := [some (.ref l0), none, none, none, none, none, none]) (st' := [.ref l0, .ref q_5]) cd_143_13 rfl rfl ?_
    obtain ⟨ht, h⟩ := gO_s h
    refine gs_gfI cd_143_14 (by decide) (by decide) ht ?_
    refine gs_0 (pc' := 19) (L' := [some (.ref l0), none, none, none, none, none, none]) (st' := [.int 31, .int (I_2 l0 7), .ref q_5]) cd_143_17 rfl rfl ?_
    refine gs_0 (pc' := 20) (L' := [some (.ref l0), none, none, none, none, none, none]) (st' := [.int ((I_2 l0 7) &&& 31), .ref q_5]) cd_143_19 rfl rfl ?_
    refine gs_0 (pc' := 21) (L' := [some (.ref l0), none, none, none, none, none, none]) (st' := [.int 0, .int ((I_2 l0 7) &&& 31), .ref q_5]) cd_143_20 rfl rfl ?_
    obtain ⟨ht, h⟩ := gA_s h
    refine gs_iast cd_143_21 ht ?_
    obtain ⟨I_6, hx, h⟩ := lt_s_ h
    rw [hx]
    refine gs_0 (pc' := 23) (L' := [some (.ref l0), none, none, none, none, none, none]) (st' := [.ref l0]) cd_143_22 rfl rfl ?_
    refine gs_0 (pc' := 24) (L' := [some (.ref l0), none, none, none, none, none, none]) (st' := [.int 2, .ref l0]) cd_143_23 rfl rfl ?_
    refine gs_0 (pc' := 25) (L' := [some (.ref l0), none, none, none, none, none, none]) (st' := [.ref l0, .int 2, .ref l0]) cd_143_24 rfl rfl ?_
    obtain ⟨ht, h⟩ := gO_s h
    obtain ⟨q_7, hv, h⟩ := gV_s h
    refine gs_gfR cd_143_25 (by decide) ht hv ?_
    refine gs_0 (pc' := 29) (L' := [some (.ref l0), none, none, none, none, none, none]) (st' := [.int 2, .ref q_7, .int 2, .ref l0]) cd_143_28 rfl rfl ?_
    obtain ⟨ht, h⟩ := gA_s h
    refine gs_iald cd_143_29 ht ?_
    obtain ⟨ht, h⟩ := gO_s h
    obtain ⟨w_8, I_9, J_10, hcl, h⟩ := cV_s h
    refine gs_call (as := [.ref l0, .int 2, .int (I_6 q_7 (2 : Int32).toNatClampNeg)]) (rest := []) cd_143_30 rfl (by decide) rfl (sm_rv_ok (by decide) ht) (Nat.le_of_ble_eq_true rfl) (Nat.le_of_ble_eq_true rfl) rfl hcl ?_
    refine gs_0 (pc' := 34) (L' := [some (.ref l0), none, none, none, none, none, none]) (st' := [.ref l0]) cd_143_33 rfl rfl ?_
    obtain ⟨ht, h⟩ := gO_s h
    obtain ⟨q_11, hv, h⟩ := gV_s h
    refine gs_gfR cd_143_34 (by decide) ht hv ?_
    refine gs_0 (pc' := 38) (L' := [some (.ref l0), none, none, none, none, none, none]) (st' := [.int 3, .ref q_11]) cd_143_37 rfl rfl ?_
    obtain ⟨ht, h⟩ := gA_s h
    refine gs_iald cd_143_38 ht ?_
    refine gs_0 (pc' := 40) (L' := [some (.ref l0), some (.int (I_9 q_11 (3 : Int32).toNatClampNeg)), none, none, none, none, none]) (st' := []) cd_143_39 rfl rfl ?_
    obtain ⟨x_12, hx, h⟩ := lt_s_ h
    rw [hx]
    clear hx
    refine gs_0 (pc' := 41) (L' := [some (.ref l0), some (.int x_12), none, none, none, none, none]) (st' := [.ref l0]) cd_143_40 rfl rfl ?_
    obtain ⟨ht, h⟩ := gO_s h
    obtain ⟨x_16, w_13, I_14, J_15, hcl, h⟩ := cI_s h
    refine gs_call (as := [.ref l0]) (rest := []) cd_143_41 rfl (by decide) rfl (sm_rv_ok (by decide) ht) (Nat.le_of_ble_eq_true rfl) (Nat.le_of_ble_eq_true rfl) rfl hcl ?_
    refine gs_0 (pc' := 45) (L' := [some (.ref l0), some (.int x_12), some (.int x_16), none, none, none, none]) (st' := []) cd_143_44 rfl rfl ?_
    refine gs_0 (pc' := 46) (L' := [some (.ref l0), some (.int x_12), some (.int x_16), none, none, none, none]) (st' := [.ref l0]) cd_143_45 rfl rfl ?_
    obtain ⟨ht, h⟩ := gO_s h
    obtain ⟨q_17, hv, h⟩ := gV_s h
    refine gs_gfR cd_143_46 (by decide) ht hv ?_
    refine gs_0 (pc' := 50) (L' := [some (.ref l0), some (.int x_12), some (.int x_16), none, none, none, none]) (st' := [.int x_16, .ref q_17]) cd_143_49 rfl rfl ?_
    obtain ⟨ht, h⟩ := gO_s h
    obtain ⟨x_21, w_18, I_19, J_20, hcl, h⟩ := cI_s h
    refine gs_call (as := [.ref q_17, .int x_16]) (rest := []) cd_143_50 rfl (by decide) rfl (sm_rv_ok (by decide) ht) (Nat.le_of_ble_eq_true rfl) (Nat.le_of_ble_eq_true rfl) rfl hcl ?_
    refine gs_0 (pc' := 54) (L' := [some (.ref l0), some (.int x_12), some (.int x_16), some (.int x_21), none, none, none]) (st' := []) cd_143_53 rfl rfl ?_
    refine gs_0 (pc' := 55) (L' := [some (.ref l0), some (.int x_12), some (.int x_16), some (.int x_21), none, none, none]) (st' := [.ref l0]) cd_143_54 rfl rfl ?_
    refine gs_0 (pc' := 56) (L' := [some (.ref l0), some (.int x_12), some (.int x_16), some (.int x_21), none, none, none]) (st' := [.int x_21, .ref l0]) cd_143_55 rfl rfl ?_
    obtain ⟨ht, h⟩ := gO_s h
    obtain ⟨x_25, w_22, I_23, J_24, hcl, h⟩ := cI_s h
    refine gs_call (as := [.ref l0, .int x_21]) (rest := []) cd_143_56 rfl (by decide) rfl (sm_rv_ok (by decide) ht) (Nat.le_of_ble_eq_true rfl) (Nat.le_of_ble_eq_true rfl) rfl hcl ?_
    refine gs_0 (pc' := if x_25 = 0 then 74 else 62) (L' := [some (.ref l0), some (.int x_12), some (.int x_16), some (.int x_21), none, none, none]) (st' := []) cd_143_59 rfl rfl ?_
    refine go_ite (fun hc => ?_) (fun hc => ?_)
    · rw [if_pos hc] at h
      exact ok_143_74 h
    · rw [if_neg hc] at h
      refine gs_0 (pc' := 63) (L' := [some (.ref l0), some (.int x_12), some (.int x_16), some (.int x_21), none, none, none]) (st' := [.ref l0]) cd_143_62 rfl rfl ?_
      obtain ⟨ht, h⟩ := gO_s h
      obtain ⟨x_29, w_26, I_27, J_28, hcl, h⟩ := cI_s h
      refine gs_call (as := [.ref l0]) (rest := []) cd_143_63 rfl (by decide) rfl (sm_rv_ok (by decide) ht) (Nat.le_of_ble_eq_true rfl) (Nat.le_of_ble_eq_true rfl) rfl hcl ?_
      refine gs_0 (pc' := if ¬ x_29 = 0 then 74 else 69) (L' := [some (.ref l0), some (.int x_12), some (.int x_16), some (.int x_21), none, none, none]) (st' := []) cd_143_66 rfl rfl ?_
      refine go_ite (fun hc => ?_) (fun hc => ?_)
      · rw [if_pos hc] at h
        exact ok_143_74 h
      · rw [if_neg hc] at h
        refine gs_0 (pc' := 70) (L' := [some (.ref l0), some (.int x_12), some (.int x_16), some (.int x_21), none, none, none]) (st' := [.ref l0]) cd_143_69 rfl rfl ?_
        obtain ⟨ht, h⟩ := gO_s h
        obtain ⟨x_33, w_30, I_31, J_32, hcl, h⟩ := cI_s h
        refine gs_call (as := [.ref l0]) (rest := []) cd_143_70 rfl (by decide) rfl (sm_rv_ok (by decide) ht) (Nat.le_of_ble_eq_true rfl) (Nat.le_of_ble_eq_true rfl) rfl hcl ?_
        refine gs_0 (pc' := 74) (L' := [some (.ref l0), some (.int x_12), some (.int x_16), some (.int x_21), none, none, none]) (st' := []) cd_143_73 rfl rfl ?_
        exact ok_143_74 h
  · rw [if_neg hc] at h
    refine gs_0 (pc' := 8) (L' := [some (.ref l0), none, none, none, none, none, none]) (st' := [.int 0]) cd_143_7 rfl rfl ?_
    cases h
    exact gs_ri cd_143_8 (Or.inr (Or.inl ⟨rfl, Or.inl rfl⟩))
theorem cl_143 {K : Nat → Value} {k d : Nat} {l0 : Nat} {w : aW} {I : aI} {J : aJ} {R : aR} (h : f_143 K k d l0 w I J = some R) : Cl K (d + 1) 143 [.ref l0] w I J = some R := Cl_of (ok_143 h)
/-! ProvedMachine$Machine.write(II)V -/
set_option maxRecDepth 20000 in
theorem gl_144 : gcd.lookup 144 = some gw_144 := rfl
theorem cd_144_0 : sm_cd 144 0 = some (.iload_n 1, 1, 1, 0, 0, 0, 0, 0, 0) := cd_of gl_144 rfl
theorem cd_144_1 : sm_cd 144 1 = some (.ifCond .lt 10, 3, 11, 0, 0, 0, 0, 0, 0) := cd_of gl_144 rfl
theorem cd_144_4 : sm_cd 144 4 = some (.iload_n 1, 1, 1, 0, 0, 0, 0, 0, 0) := cd_of gl_144 rfl
theorem cd_144_5 : sm_cd 144 5 = some (.sipush 327, 3, 0, 0, 0, 0, 0, 327, 0) := cd_of gl_144 rfl
theorem cd_144_8 : sm_cd 144 8 = some (.if_icmp .lt 4, 3, 12, 0, 0, 0, 0, 0, 0) := cd_of gl_144 rfl
theorem cd_144_11 : sm_cd 144 11 = some (.return_, 1, 0, 0, 0, 0, 0, 0, 0) := cd_of gl_144 rfl
theorem cd_144_12 : sm_cd 144 12 = some (.aload_n 0, 1, 0, 0, 0, 0, 0, 0, 0) := cd_of gl_144 rfl
theorem cd_144_13 : sm_cd 144 13 = some (.getfield 20, 3, 0, 3, 2, 0, 0, 0, 0) := cd_of gl_144 rfl
theorem cd_144_16 : sm_cd 144 16 = some (.aload_n 0, 1, 0, 0, 0, 0, 0, 0, 0) := cd_of gl_144 rfl
theorem cd_144_17 : sm_cd 144 17 = some (.getfield 32, 3, 0, 7, 0, 0, 0, 0, 0) := cd_of gl_144 rfl
theorem cd_144_20 : sm_cd 144 20 = some (.bipush 31, 2, 0, 0, 0, 0, 0, 31, 0) := cd_of gl_144 rfl
theorem cd_144_22 : sm_cd 144 22 = some (.iand, 1, 0, 0, 0, 0, 0, 0, 0) := cd_of gl_144 rfl
theorem cd_144_23 : sm_cd 144 23 = some (.iaload, 1, 0, 0, 0, 0, 0, 0, 0) := cd_of gl_144 rfl
theorem cd_144_24 : sm_cd 144 24 = some (.istore_n 3, 1, 3, 0, 0, 0, 0, 0, 0) := cd_of gl_144 rfl
theorem cd_144_25 : sm_cd 144 25 = some (.iload_n 3, 1, 3, 0, 0, 0, 0, 0, 0) := cd_of gl_144 rfl
theorem cd_144_26 : sm_cd 144 26 = some (.ifCond .lt 59, 3, 85, 0, 0, 0, 0, 0, 0) := cd_of gl_144 rfl
theorem cd_144_29 : sm_cd 144 29 = some (.iload_n 3, 1, 3, 0, 0, 0, 0, 0, 0) := cd_of gl_144 rfl
theorem cd_144_30 : sm_cd 144 30 = some (.bipush 36, 2, 0, 0, 0, 0, 0, 36, 0) := cd_of gl_144 rfl
theorem cd_144_32 : sm_cd 144 32 = some (.if_icmp .ge 53, 3, 85, 0, 0, 0, 0, 0, 0) := cd_of gl_144 rfl
theorem cd_144_35 : sm_cd 144 35 = some (.aload_n 0, 1, 0, 0, 0, 0, 0, 0, 0) := cd_of gl_144 rfl
theorem cd_144_36 : sm_cd 144 36 = some (.getfield 32, 3, 0, 7, 0, 0, 0, 0, 0) := cd_of gl_144 rfl
theorem cd_144_39 : sm_cd 144 39 = some (.bipush 31, 2, 0, 0, 0, 0, 0, 31, 0) := cd_of gl_144 rfl
theorem cd_144_41 : sm_cd 144 41 = some (.iand, 1, 0, 0, 0, 0, 0, 0, 0) := cd_of gl_144 rfl
theorem cd_144_42 : sm_cd 144 42 = some (.bipush 36, 2, 0, 0, 0, 0, 0, 36, 0) := cd_of gl_144 rfl
theorem cd_144_44 : sm_cd 144 44 = some (.imul, 1, 0, 0, 0, 0, 0, 0, 0) := cd_of gl_144 rfl
theorem cd_144_45 : sm_cd 144 45 = some (.iload_n 3, 1, 3, 0, 0, 0, 0, 0, 0) := cd_of gl_144 rfl
theorem cd_144_46 : sm_cd 144 46 = some (.iadd, 1, 0, 0, 0, 0, 0, 0, 0) := cd_of gl_144 rfl
theorem cd_144_47 : sm_cd 144 47 = some (.istore 4, 2, 4, 0, 0, 0, 0, 0, 0) := cd_of gl_144 rfl
theorem cd_144_49 : sm_cd 144 49 = some (.aload_n 0, 1, 0, 0, 0, 0, 0, 0, 0) := cd_of gl_144 rfl
theorem cd_144_50 : sm_cd 144 50 = some (.getfield 23, 3, 0, 4, 2, 0, 0, 0, 0) := cd_of gl_144 rfl
theorem cd_144_53 : sm_cd 144 53 = some (.iload 4, 2, 4, 0, 0, 0, 0, 0, 0) := cd_of gl_144 rfl
theorem cd_144_55 : sm_cd 144 55 = some (.iload_n 1, 1, 1, 0, 0, 0, 0, 0, 0) := cd_of gl_144 rfl
theorem cd_144_56 : sm_cd 144 56 = some (.iastore, 1, 0, 0, 0, 0, 0, 0, 0) := cd_of gl_144 rfl
theorem cd_144_57 : sm_cd 144 57 = some (.aload_n 0, 1, 0, 0, 0, 0, 0, 0, 0) := cd_of gl_144 rfl
theorem cd_144_58 : sm_cd 144 58 = some (.getfield 26, 3, 0, 5, 2, 0, 0, 0, 0) := cd_of gl_144 rfl
theorem cd_144_61 : sm_cd 144 61 = some (.iload 4, 2, 4, 0, 0, 0, 0, 0, 0) := cd_of gl_144 rfl
theorem cd_144_63 : sm_cd 144 63 = some (.aload_n 0, 1, 0, 0, 0, 0, 0, 0, 0) := cd_of gl_144 rfl
theorem cd_144_64 : sm_cd 144 64 = some (.getfield 13, 3, 0, 1, 2, 0, 0, 0, 0) := cd_of gl_144 rfl
theorem cd_144_67 : sm_cd 144 67 = some (.iload_n 1, 1, 1, 0, 0, 0, 0, 0, 0) := cd_of gl_144 rfl
theorem cd_144_68 : sm_cd 144 68 = some (.iaload, 1, 0, 0, 0, 0, 0, 0, 0) := cd_of gl_144 rfl
theorem cd_144_69 : sm_cd 144 69 = some (.iastore, 1, 0, 0, 0, 0, 0, 0, 0) := cd_of gl_144 rfl
theorem cd_144_70 : sm_cd 144 70 = some (.aload_n 0, 1, 0, 0, 0, 0, 0, 0, 0) := cd_of gl_144 rfl
theorem cd_144_71 : sm_cd 144 71 = some (.getfield 20, 3, 0, 3, 2, 0, 0, 0, 0) := cd_of gl_144 rfl
theorem cd_144_74 : sm_cd 144 74 = some (.aload_n 0, 1, 0, 0, 0, 0, 0, 0, 0) := cd_of gl_144 rfl
theorem cd_144_75 : sm_cd 144 75 = some (.getfield 32, 3, 0, 7, 0, 0, 0, 0, 0) := cd_of gl_144 rfl
theorem cd_144_78 : sm_cd 144 78 = some (.bipush 31, 2, 0, 0, 0, 0, 0, 31, 0) := cd_of gl_144 rfl
theorem cd_144_80 : sm_cd 144 80 = some (.iand, 1, 0, 0, 0, 0, 0, 0, 0) := cd_of gl_144 rfl
theorem cd_144_81 : sm_cd 144 81 = some (.iload_n 3, 1, 3, 0, 0, 0, 0, 0, 0) := cd_of gl_144 rfl
theorem cd_144_82 : sm_cd 144 82 = some (.iconst 1, 1, 0, 0, 0, 0, 0, 1, 0) := cd_of gl_144 rfl
theorem cd_144_83 : sm_cd 144 83 = some (.iadd, 1, 0, 0, 0, 0, 0, 0, 0) := cd_of gl_144 rfl
theorem cd_144_84 : sm_cd 144 84 = some (.iastore, 1, 0, 0, 0, 0, 0, 0, 0) := cd_of gl_144 rfl
theorem cd_144_85 : sm_cd 144 85 = some (.aload_n 0, 1, 0, 0, 0, 0, 0, 0, 0) := cd_of gl_144 rfl
theorem cd_144_86 : sm_cd 144 86 = some (.getfield 13, 3, 0, 1, 2, 0, 0, 0, 0) := cd_of gl_144 rfl
theorem cd_144_89 : sm_cd 144 89 = some (.iload_n 1, 1, 1, 0, 0, 0, 0, 0, 0) := cd_of gl_144 rfl
theorem cd_144_90 : sm_cd 144 90 = some (.iload_n 2, 1, 2, 0, 0, 0, 0, 0, 0) := cd_of gl_144 rfl
theorem cd_144_91 : sm_cd 144 91 = some (.iastore, 1, 0, 0, 0, 0, 0, 0, 0) := cd_of gl_144 rfl
theorem cd_144_92 : sm_cd 144 92 = some (.return_, 1, 0, 0, 0, 0, 0, 0, 0) := cd_of gl_144 rfl
noncomputable def f_144_85 (K : Nat → Value) (k d : Nat) (l0 : Nat) (l1 : Int32) (l2 : Int32) (l3 : Int32) (w : aW) (I : aI) (J : aJ) : Option aR :=
  gO w 0 l0 (
  gV w l0 1 fun q_1 =>
  gA w 10 10 q_1 l1 (
  lt_ (sm_up2 I q_1 (l1 : Int32).toNatClampNeg l2) fun I_2 =>
  some (none, w, I_2, J)))
theorem ok_144_85 {K : Nat → Value} {k d : Nat} {l0 : Nat} {l1 : Int32} {l2 : Int32} {l3 : Int32} {w : aW} {I : aI} {J : aJ} {R : aR} (h : f_144_85 K k d l0 l1 l2 l3 w I J = some R) : Go K (d + 1) 144 85 [some (.ref l0), some (.int l1), some (.int l2), some (.int l3), none] [] w I J R := by
  unfold f_144_85 at h
  refine gs_0 (pc' := 86) (L' := [some (.ref l0), some (.int l1), some (.int l2), some (.int l3), none]) (st' := [.ref l0]) cd_144_85 rfl rfl ?_
  obtain ⟨ht, h⟩ := gO_s h
  obtain ⟨q_1, hv, h⟩ := gV_s h
  refine gs_gfR cd_144_86 (by decide) ht hv ?_
  refine gs_0 (pc' := 90) (L' := [some (.ref l0), some (.int l1), some (.int l2), some (.int l3), none]) (st' := [.int l1, .ref q_1]) cd_144_89 rfl rfl ?_
  refine gs_0 (pc' := 91) (L' := [some (.ref l0), some (.int l1), some (.int l2), some (.int l3), none]) (st' := [.int l2, .int l1, .ref q_1]) cd_144_90 rfl rfl ?_
  obtain ⟨ht, h⟩ := gA_s h
  refine gs_iast cd_144_91 ht ?_
  obtain ⟨I_2, hx, h⟩ := lt_s_ h
  rw [hx]
  cases h
  exact gsr cd_144_92 rfl rfl
noncomputable def f_144 (K : Nat → Value) (k d : Nat) (l0 : Nat) (l1 : Int32) (l2 : Int32) (w : aW) (I : aI) (J : aJ) : Option aR :=
  if l1 < 0 then
    some (none, w, I, J)
  else
    if l1 < 327 then
      gO w 0 l0 (
      gV w l0 3 fun q_1 =>
      gO w 0 l0 (
      gA w 10 20 q_1 ((I l0 7) &&& 31) (
      lt_ (I q_1 ((I l0 7) &&& 31 : Int32).toNatClampNeg) fun x_2 =>
      if x_2 < 0 then
        f_144_85 K k d l0 l1 l2 x_2 w I J
      else
        if 36 ≤ x_2 then
          f_144_85 K k d l0 l1 l2 x_2 w I J
        else
          gO w 0 l0 (
          lt_ ((((I l0 7) &&& 31) * 36) + x_2) fun x_3 =>
          gO w 0 l0 (
          gV w l0 4 fun q_4 =>
          gA w 10 10 q_4 x_3 (
          lt_ (sm_up2 I q_4 (x_3 : Int32).toNatClampNeg l1) fun I_5 =>
          gO w 0 l0 (
          gV w l0 5 fun q_6 =>
          gO w 0 l0 (
          gV w l0 1 fun q_7 =>
          gA w 10 20 q_7 l1 (
          gA w 10 10 q_6 x_3 (
          lt_ (sm_up2 I_5 q_6 (x_3 : Int32).toNatClampNeg (I_5 q_7 (l1 : Int32).toNatClampNeg)) fun I_8 =>
          gO w 0 l0 (
          gV w l0 3 fun q_9 =>
          gO w 0 l0 (
          gA w 10 10 q_9 ((I_8 l0 7) &&& 31) (
          lt_ (sm_up2 I_8 q_9 ((I_8 l0 7) &&& 31 : Int32).toNatClampNeg (x_2 + 1)) fun I_10 =>
          f_144_85 K k d l0 l1 l2 x_2 w I_10 J)))))))))))))
    else
      some (none, w, I, J)
theorem ok_144 {K : Nat → Value} {k d : Nat} {l0 : Nat} {l1 : Int32} {l2 : Int32} {w : aW} {I : aI} {J : aJ} {R : aR} (h : f_144 K k d l0 l1 l2 w I J = some R) : Go K (d + 1) 144 0 [some (.ref l0), some (.int l1), some (.int l2), none, none] [] w I J R := by
  unfold f_144 at h
  refine gs_0 (pc' := 1) (L' := [some (.ref l0), some (.int l1), some (.int l2), none, none]) (st' := [.int l1]) cd_144_0 rfl rfl ?_
  refine gs_0 (pc' := if l1 < 0 then 11 else 4) (L' := [some (.ref l0), some (.int l1), some (.int l2), none, none]) (st' := []) cd_144_1 rfl rfl ?_
  refine go_ite (fun hc => ?_) (fun hc => ?_)
  · rw [if_pos hc] at h
    cases h
    exact gsr cd_144_11 rfl rfl
  · rw [if_neg hc] at h
    refine gs_0 (pc' := 5) (L' := [some (.ref l0), some (.int l1), some (.int l2), none, none]) (st' := [.int l1]) cd_144_4 rfl rfl ?_
    refine gs_0 (pc' := 8) (L' := [some (.ref l0), some (.int l1), some (.int l2), none, none]) (st' := [.int 327, .int l1]) cd_144_5 rfl rfl ?_
    refine gs_0 (pc' := if l1 < 327 then 12 else 11) (L' := [some (.ref l0), some (.int l1), some (.int l2), none, none]) (st' := []) cd_144_8 rfl rfl ?_
    refine go_ite (fun hc => ?_) (fun hc => ?_)
    · rw [if_pos hc] at h
      refine gs_0 (pc' := 13) (L' := [some (.ref l0), some (.int l1), some (.int l2), none, none]) (st' := [.ref l0]) cd_144_12 rfl rfl ?_
      obtain ⟨ht, h⟩ := gO_s h
      obtain ⟨q_1, hv, h⟩ := gV_s h
      refine gs_gfR cd_144_13 (by decide) ht hv ?_
      refine gs_0 (pc' := 17) (L' := [some (.ref l0), some (.int l1), some (.int l2), none, none]) (st' := [.ref l0, .ref q_1]) cd_144_16 rfl rfl ?_
      obtain ⟨ht, h⟩ := gO_s h
      refine gs_gfI cd_144_17 (by decide) (by decide) ht ?_
      refine gs_0 (pc' := 22) (L' := [some (.ref l0), some (.int l1), some (.int l2), none, none]) (st' := [.int 31, .int (I l0 7), .ref q_1]) cd_144_20 rfl rfl ?_
      refine gs_0 (pc' := 23) (L' := [some (.ref l0), some (.int l1), some (.int l2), none, none]) (st' := [.int ((I l0 7) &&& 31), .ref q_1]) cd_144_22 rfl rfl ?_
      obtain ⟨ht, h⟩ := gA_s h
      refine gs_iald cd_144_23 ht ?_
      refine gs_0 (pc' := 25) (L' := [some (.ref l0), some (.int l1), some (.int l2), some (.int (I q_1 ((I l0 7) &&& 31 : Int32).toNatClampNeg)), none]) (st' := []) cd_144_24 rfl rfl ?_
      obtain ⟨x_2, hx, h⟩ := lt_s_ h
      rw [hx]
      clear hx
      refine gs_0 (pc' := 26) (L' := [some (.ref l0), some (.int l1), some (.int l2), some (.int x_2), none]) (st' := [.int x_2]) cd_144_25 rfl rfl ?_
      refine gs_0 (pc' := if x_2 < 0 then 85 else 29) (L' := [some (.ref l0), some (.int l1), some (.int l2), some (.int x_2), none]) (st' := []) cd_144_26 rfl rfl ?_
      refine go_ite (fun hc => ?_) (fun hc => ?_)
      · rw [if_pos hc] at h
        exact ok_144_85 h
      · rw [if_neg hc] at h
        refine gs_0 (pc' := 30) (L' := [some (.ref l0), some (.int l1), some (.int l2), some (.int x_2), none]) (st' := [.int x_2]) cd_144_29 rfl rfl ?_
        refine gs_0 (pc' := 32) (L' := [some (.ref l0), some (.int l1), some (.int l2), some (.int x_2), none]) (st' := [.int 36, .int x_2]) cd_144_30 rfl rfl ?_
        refine gs_0 (pc' := if 36 ≤ x_2 then 85 else 35) (L' := [some (.ref l0), some (.int l1), some (.int l2), some (.int x_2), none]) (st' := []) cd_144_32 rfl rfl ?_
        refine go_ite (fun hc => ?_) (fun hc => ?_)
        · rw [if_pos hc] at h
          exact ok_144_85 h
        · rw [if_neg hc] at h
          refine gs_0 (pc' := 36) (L' := [some (.ref l0), some (.int l1), some (.int l2), some (.int x_2), none]) (st' := [.ref l0]) cd_144_35 rfl rfl ?_
          obtain ⟨ht, h⟩ := gO_s h
          refine gs_gfI cd_144_36 (by decide) (by decide) ht ?_
          refine gs_0 (pc' := 41) (L' := [some (.ref l0), some (.int l1), some (.int l2), some (.int x_2), none]) (st' := [.int 31, .int (I l0 7)]) cd_144_39 rfl rfl ?_
          refine gs_0 (pc' := 42) (L' := [some (.ref l0), some (.int l1), some (.int l2), some (.int x_2), none]) (st' := [.int ((I l0 7) &&& 31)]) cd_144_41 rfl rfl ?_
          refine gs_0 (pc' := 44) (L' := [some (.ref l0), some (.int l1), some (.int l2), some (.int x_2), none]) (st' := [.int 36, .int ((I l0 7) &&& 31)]) cd_144_42 rfl rfl ?_
          refine gs_0 (pc' := 45) (L' := [some (.ref l0), some (.int l1), some (.int l2), some (.int x_2), none]) (st' := [.int (((I l0 7) &&& 31) * 36)]) cd_144_44 rfl rfl ?_
          refine gs_0 (pc' := 46) (L' := [some (.ref l0), some (.int l1), some (.int l2), some (.int x_2), none]) (st' := [.int x_2, .int (((I l0 7) &&& 31) * 36)]) cd_144_45 rfl rfl ?_
          refine gs_0 (pc' := 47) (L' := [some (.ref l0), some (.int l1), some (.int l2), some (.int x_2), none]) (st' := [.int ((((I l0 7) &&& 31) * 36) + x_2)]) cd_144_46 rfl rfl ?_
          refine gs_0 (pc' := 49) (L' := [some (.ref l0), some (.int l1), some (.int l2), some (.int x_2), some (.int ((((I l0 7) &&& 31) * 36) + x_2))]) (st' := []) cd_144_47 rfl rfl ?_
          obtain ⟨x_3, hx, h⟩ := lt_s_ h
          rw [hx]
          clear hx
          refine gs_0 (pc' := 50) (L' := [some (.ref l0), some (.int l1), some (.int l2), some (.int x_2), some (.int x_3)]) (st' := [.ref l0]) cd_144_49 rfl rfl ?_
          obtain ⟨ht, h⟩ := gO_s h
          obtain ⟨q_4, hv, h⟩ := gV_s h
          refine gs_gfR cd_144_50 (by decide) ht hv ?_
          refine gs_0 (pc' := 55) (L' := [some (.ref l0), some (.int l1), some (.int l2), some (.int x_2), some (.int x_3)]) (st' := [.int x_3, .ref q_4]) cd_144_53 rfl rfl ?_
          refine gs_0 (pc' := 56) (L' := [some (.ref l0), some (.int l1), some (.int l2), some (.int x_2), some (.int x_3)]) (st' := [.int l1, .int x_3, .ref q_4]) cd_144_55 rfl rfl ?_
          obtain ⟨ht, h⟩ := gA_s h
          refine gs_iast cd_144_56 ht ?_
          obtain ⟨I_5, hx, h⟩ := lt_s_ h
          rw [hx]
          refine gs_0 (pc' := 58) (L' := [some (.ref l0), some (.int l1), some (.int l2), some (.int x_2), some (.int x_3)]) (st' := [.ref l0]) cd_144_57 rfl rfl ?_
          obtain ⟨ht, h⟩ := gO_s h
          obtain ⟨q_6, hv, h⟩ := gV_s h
          refine gs_gfR cd_144_58 (by decide) ht hv ?_
          refine gs_0 (pc' := 63) (L' := [some (.ref l0), some (.int l1), some (.int l2), some (.int x_2), some (.int x_3)]) (st' := [.int x_3, .ref q_6]) cd_144_61 rfl rfl ?_
          refine gs_0 (pc' := 64) (L' := [some (.ref l0), some (.int l1), some (.int l2), some (.int x_2), some (.int x_3)]) (st' := [.ref l0, .int x_3, .ref q_6]) cd_144_63 rfl rfl ?_
          obtain ⟨ht, h⟩ := gO_s h
          obtain ⟨q_7, hv, h⟩ := gV_s h
          refine gs_gfR cd_144_64 (by decide) ht hv ?_
          refine gs_0 (pc' := 68) (L' := [some (.ref l0), some (.int l1), some (.int l2), some (.int x_2), some (.int x_3)]) (st' := [.int l1, .ref q_7, .int x_3, .ref q_6]) cd_144_67 rfl rfl ?_
          obtain ⟨ht, h⟩ := gA_s h
          refine gs_iald cd_144_68 ht ?_
          obtain ⟨ht, h⟩ := gA_s h
          refine gs_iast cd_144_69 ht ?_
          obtain ⟨I_8, hx, h⟩ := lt_s_ h
          rw [hx]
          refine gs_0 (pc' := 71) (L' := [some (.ref l0), some (.int l1), some (.int l2), some (.int x_2), some (.int x_3)]) (st' := [.ref l0]) cd_144_70 rfl rfl ?_
          obtain ⟨ht, h⟩ := gO_s h
          obtain ⟨q_9, hv, h⟩ := gV_s h
          refine gs_gfR cd_144_71 (by decide) ht hv ?_
          refine gs_0 (pc' := 75) (L' := [some (.ref l0), some (.int l1), some (.int l2), some (.int x_2), some (.int x_3)]) (st' := [.ref l0, .ref q_9]) cd_144_74 rfl rfl ?_
          obtain ⟨ht, h⟩ := gO_s h
          refine gs_gfI cd_144_75 (by decide) (by decide) ht ?_
          refine gs_0 (pc' := 80) (L' := [some (.ref l0), some (.int l1), some (.int l2), some (.int x_2), some (.int x_3)]) (st' := [.int 31, .int (I_8 l0 7), .ref q_9]) cd_144_78 rfl rfl ?_
          refine gs_0 (pc' := 81) (L' := [some (.ref l0), some (.int l1), some (.int l2), some (.int x_2), some (.int x_3)]) (st' := [.int ((I_8 l0 7) &&& 31), .ref q_9]) cd_144_80 rfl rfl ?_
          refine gs_0 (pc' := 82) (L' := [some (.ref l0), some (.int l1), some (.int l2), some (.int x_2), some (.int x_3)]) (st' := [.int x_2, .int ((I_8 l0 7) &&& 31), .ref q_9]) cd_144_81 rfl rfl ?_
          refine gs_0 (pc' := 83) (L' := [some (.ref l0), some (.int l1), some (.int l2), some (.int x_2), some (.int x_3)]) (st' := [.int 1, .int x_2, .int ((I_8 l0 7) &&& 31), .ref q_9]) cd_144_82 rfl rfl ?_
          refine gs_0 (pc' := 84) (L' := [some (.ref l0), some (.int l1), some (.int l2), some (.int x_2), some (.int x_3)]) (st' := [.int (x_2 + 1), .int ((I_8 l0 7) &&& 31), .ref q_9]) cd_144_83 rfl rfl ?_
          obtain ⟨ht, h⟩ := gA_s h
          refine gs_iast cd_144_84 ht ?_
          obtain ⟨I_10, hx, h⟩ := lt_s_ h
          rw [hx]
          refine go_drop [some (.ref l0), some (.int l1), some (.int l2), some (.int x_2), none] ⟨rfl, ⟨rfl, ⟨rfl, ⟨rfl, ⟨rfl, trivial⟩⟩⟩⟩⟩ ?_
          exact ok_144_85 h
    · rw [if_neg hc] at h
      cases h
      exact gsr cd_144_11 rfl rfl
theorem cl_144 {K : Nat → Value} {k d : Nat} {l0 : Nat} {l1 : Int32} {l2 : Int32} {w : aW} {I : aI} {J : aJ} {R : aR} (h : f_144 K k d l0 l1 l2 w I J = some R) : Cl K (d + 1) 144 [.ref l0, .int l1, .int l2] w I J = some R := Cl_of (ok_144 h)
/-! ProvedMachine$Machine.place()I -/
set_option maxRecDepth 20000 in
theorem gl_145 : gcd.lookup 145 = some gw_145 := rfl
theorem cd_145_0 : sm_cd 145 0 = some (.aload_n 0, 1, 0, 0, 0, 0, 0, 0, 0) := cd_of gl_145 rfl
theorem cd_145_1 : sm_cd 145 1 = some (.aload_n 0, 1, 0, 0, 0, 0, 0, 0, 0) := cd_of gl_145 rfl
theorem cd_145_2 : sm_cd 145 2 = some (.getfield 13, 3, 0, 1, 2, 0, 0, 0, 0) := cd_of gl_145 rfl
theorem cd_145_5 : sm_cd 145 5 = some (.iconst 4, 1, 0, 0, 0, 0, 0, 4, 0) := cd_of gl_145 rfl
theorem cd_145_6 : sm_cd 145 6 = some (.iaload, 1, 0, 0, 0, 0, 0, 0, 0) := cd_of gl_145 rfl
theorem cd_145_7 : sm_cd 145 7 = some (.iconst 1, 1, 0, 0, 0, 0, 0, 1, 0) := cd_of gl_145 rfl
theorem cd_145_8 : sm_cd 145 8 = some (.isub, 1, 0, 0, 0, 0, 0, 0, 0) := cd_of gl_145 rfl
theorem cd_145_9 : sm_cd 145 9 = some (.invokestatic 102, 3, 146, 1, 1, 1, 0, 0, 0) := cd_of gl_145 rfl
theorem cd_145_12 : sm_cd 145 12 = some (.iconst 1, 1, 0, 0, 0, 0, 0, 1, 0) := cd_of gl_145 rfl
theorem cd_145_13 : sm_cd 145 13 = some (.iadd, 1, 0, 0, 0, 0, 0, 0, 0) := cd_of gl_145 rfl
theorem cd_145_14 : sm_cd 145 14 = some (.invokevirtual 105, 3, 147, 0, 1, 2, 0, 0, 0) := cd_of gl_145 rfl
theorem cd_145_17 : sm_cd 145 17 = some (.ireturn, 1, 0, 0, 1, 0, 0, 0, 0) := cd_of gl_145 rfl
noncomputable def f_145 (K : Nat → Value) (k d : Nat) (l0 : Nat) (w : aW) (I : aI) (J : aJ) : Option aR :=
  gO w 0 l0 (
  gV w l0 1 fun q_1 =>
  gA w 10 20 q_1 4 (
  cI (Cl K d 146 [.int ((I q_1 (4 : Int32).toNatClampNeg) - 1)] w I J) fun x_5 w_2 I_3 J_4 =>
  gO w_2 0 l0 (
  cI (Cl K d 147 [.ref l0, .int (x_5 + 1)] w_2 I_3 J_4) fun x_9 w_6 I_7 J_8 =>
  some (some (.int x_9), w_6, I_7, J_8))))
theorem ok_145 {K : Nat → Value} {k d : Nat} {l0 : Nat} {w : aW} {I : aI} {J : aJ} {R : aR} (h : f_145 K k d l0 w I J = some R) : Go K (d + 1) 145 0 [some (.ref l0)] [] w I J R := by
  unfold f_145 at h
  refine gs_0 (pc' := 1) (L' := [some (.ref l0)]) (st' := [.ref l0]) cd_145_0 rfl rfl ?_
  refine gs_0 (pc' := 2) (L' := [some (.ref l0)]) (st' := [.ref l0, .ref l0]) cd_145_1 rfl rfl ?_
  obtain ⟨ht, h⟩ := gO_s h
  obtain ⟨q_1, hv, h⟩ := gV_s h
  refine gs_gfR cd_145_2 (by decide) ht hv ?_
  refine gs_0 (pc' := 6) (L' := [some (.ref l0)]) (st' := [.int 4, .ref q_1, .ref l0]) cd_145_5 rfl rfl ?_
  obtain ⟨ht, h⟩ := gA_s h
  refine gs_iald cd_145_6 ht ?_
  refine gs_0 (pc' := 8) (L' := [some (.ref l0)]) (st' := [.int 1, .int (I q_1 (4 : Int32).toNatClampNeg), .ref l0]) cd_145_7 rfl rfl ?_
  refine gs_0 (pc' := 9) (L' := [some (.ref l0)]) (st' := [.int ((I q_1 (4 : Int32).toNatClampNeg) - 1), .ref l0]) cd_145_8 rfl rfl ?_
  obtain ⟨x_5, w_2, I_3, J_4, hcl, h⟩ := cI_s h
  refine gs_call (as := [.int ((I q_1 (4 : Int32).toNatClampNeg) - 1)]) (rest := [.ref l0]) cd_145_9 rfl (by decide) rfl rfl (Nat.le_of_ble_eq_true rfl) (Nat.le_of_ble_eq_true rfl) rfl hcl ?_
  refine gs_0 (pc' := 13) (L' := [some (.ref l0)]) (st' := [.int 1, .int x_5, .ref l0]) cd_145_12 rfl rfl ?_
  refine gs_0 (pc' := 14) (L' := [some (.ref l0)]) (st' := [.int (x_5 + 1), .ref l0]) cd_145_13 rfl rfl ?_
  obtain ⟨ht, h⟩ := gO_s h
  obtain ⟨x_9, w_6, I_7, J_8, hcl, h⟩ := cI_s h
  refine gs_call (as := [.ref l0, .int (x_5 + 1)]) (rest := []) cd_145_14 rfl (by decide) rfl (sm_rv_ok (by decide) ht) (Nat.le_of_ble_eq_true rfl) (Nat.le_of_ble_eq_true rfl) rfl hcl ?_
  cases h
  exact gs_ri cd_145_17 (Or.inl rfl)
theorem cl_145 {K : Nat → Value} {k d : Nat} {l0 : Nat} {w : aW} {I : aI} {J : aJ} {R : aR} (h : f_145 K k d l0 w I J = some R) : Cl K (d + 1) 145 [.ref l0] w I J = some R := Cl_of (ok_145 h)
/-! ProvedMachine$Machine.frameCell(I)I -/
set_option maxRecDepth 20000 in
theorem gl_146 : gcd.lookup 146 = some gw_146 := rfl
theorem cd_146_0 : sm_cd 146 0 = some (.bipush 87, 2, 0, 0, 0, 0, 0, 87, 0) := cd_of gl_146 rfl
theorem cd_146_2 : sm_cd 146 2 = some (.iload_n 0, 1, 0, 0, 0, 0, 0, 0, 0) := cd_of gl_146 rfl
theorem cd_146_3 : sm_cd 146 3 = some (.bipush 8, 2, 0, 0, 0, 0, 0, 8, 0) := cd_of gl_146 rfl
theorem cd_146_5 : sm_cd 146 5 = some (.imul, 1, 0, 0, 0, 0, 0, 0, 0) := cd_of gl_146 rfl
theorem cd_146_6 : sm_cd 146 6 = some (.iadd, 1, 0, 0, 0, 0, 0, 0, 0) := cd_of gl_146 rfl
theorem cd_146_7 : sm_cd 146 7 = some (.ireturn, 1, 0, 0, 1, 0, 0, 0, 0) := cd_of gl_146 rfl
noncomputable def f_146 (K : Nat → Value) (k d : Nat) (l0 : Int32) (w : aW) (I : aI) (J : aJ) : Option aR :=
  some (some (.int (87 + (l0 * 8))), w, I, J)
theorem ok_146 {K : Nat → Value} {k d : Nat} {l0 : Int32} {w : aW} {I : aI} {J : aJ} {R : aR} (h : f_146 K k d l0 w I J = some R) : Go K (d + 1) 146 0 [some (.int l0)] [] w I J R := by
  unfold f_146 at h
  refine gs_0 (pc' := 2) (L' := [some (.int l0)]) (st' := [.int 87]) cd_146_0 rfl rfl ?_
  refine gs_0 (pc' := 3) (L' := [some (.int l0)]) (st' := [.int l0, .int 87]) cd_146_2 rfl rfl ?_
  refine gs_0 (pc' := 5) (L' := [some (.int l0)]) (st' := [.int 8, .int l0, .int 87]) cd_146_3 rfl rfl ?_
  refine gs_0 (pc' := 6) (L' := [some (.int l0)]) (st' := [.int (l0 * 8), .int 87]) cd_146_5 rfl rfl ?_
  refine gs_0 (pc' := 7) (L' := [some (.int l0)]) (st' := [.int (87 + (l0 * 8))]) cd_146_6 rfl rfl ?_
  cases h
  exact gs_ri cd_146_7 (Or.inl rfl)
theorem cl_146 {K : Nat → Value} {k d : Nat} {l0 : Int32} {w : aW} {I : aI} {J : aJ} {R : aR} (h : f_146 K k d l0 w I J = some R) : Cl K (d + 1) 146 [.int l0] w I J = some R := Cl_of (ok_146 h)
/-! ProvedMachine$Machine.read(I)I -/
set_option maxRecDepth 20000 in
theorem gl_147 : gcd.lookup 147 = some gw_147 := rfl
theorem cd_147_0 : sm_cd 147 0 = some (.iload_n 1, 1, 1, 0, 0, 0, 0, 0, 0) := cd_of gl_147 rfl
theorem cd_147_1 : sm_cd 147 1 = some (.ifCond .lt 19, 3, 20, 0, 0, 0, 0, 0, 0) := cd_of gl_147 rfl
theorem cd_147_4 : sm_cd 147 4 = some (.iload_n 1, 1, 1, 0, 0, 0, 0, 0, 0) := cd_of gl_147 rfl
theorem cd_147_5 : sm_cd 147 5 = some (.sipush 327, 3, 0, 0, 0, 0, 0, 327, 0) := cd_of gl_147 rfl
theorem cd_147_8 : sm_cd 147 8 = some (.if_icmp .ge 12, 3, 20, 0, 0, 0, 0, 0, 0) := cd_of gl_147 rfl
theorem cd_147_11 : sm_cd 147 11 = some (.aload_n 0, 1, 0, 0, 0, 0, 0, 0, 0) := cd_of gl_147 rfl
theorem cd_147_12 : sm_cd 147 12 = some (.getfield 13, 3, 0, 1, 2, 0, 0, 0, 0) := cd_of gl_147 rfl
theorem cd_147_15 : sm_cd 147 15 = some (.iload_n 1, 1, 1, 0, 0, 0, 0, 0, 0) := cd_of gl_147 rfl
theorem cd_147_16 : sm_cd 147 16 = some (.iaload, 1, 0, 0, 0, 0, 0, 0, 0) := cd_of gl_147 rfl
theorem cd_147_17 : sm_cd 147 17 = some (.goto 4, 3, 21, 0, 0, 0, 0, 0, 0) := cd_of gl_147 rfl
theorem cd_147_20 : sm_cd 147 20 = some (.iconst 0, 1, 0, 0, 0, 0, 0, 0, 0) := cd_of gl_147 rfl
theorem cd_147_21 : sm_cd 147 21 = some (.ireturn, 1, 0, 0, 1, 0, 0, 0, 0) := cd_of gl_147 rfl
noncomputable def f_147 (K : Nat → Value) (k d : Nat) (l0 : Nat) (l1 : Int32) (w : aW) (I : aI) (J : aJ) : Option aR :=
  if l1 < 0 then
    some (some (.int 0), w, I, J)
  else
    if 327 ≤ l1 then
      some (some (.int 0), w, I, J)
    else
      gO w 0 l0 (
      gV w l0 1 fun q_1 =>
      gA w 10 20 q_1 l1 (
      some (some (.int (I q_1 (l1 : Int32).toNatClampNeg)), w, I, J)))
theorem ok_147 {K : Nat → Value} {k d : Nat} {l0 : Nat} {l1 : Int32} {w : aW} {I : aI} {J : aJ} {R : aR} (h : f_147 K k d l0 l1 w I J = some R) : Go K (d + 1) 147 0 [some (.ref l0), some (.int l1)] [] w I J R := by
  unfold f_147 at h
  refine gs_0 (pc' := 1) (L' := [some (.ref l0), some (.int l1)]) (st' := [.int l1]) cd_147_0 rfl rfl ?_
  refine gs_0 (pc' := if l1 < 0 then 20 else 4) (L' := [some (.ref l0), some (.int l1)]) (st' := []) cd_147_1 rfl rfl ?_
  refine go_ite (fun hc => ?_) (fun hc => ?_)
  · rw [if_pos hc] at h
    refine gs_0 (pc' := 21) (L' := [some (.ref l0), some (.int l1)]) (st' := [.int 0]) cd_147_20 rfl rfl ?_
    cases h
    exact gs_ri cd_147_21 (Or.inl rfl)
  · rw [if_neg hc] at h
    refine gs_0 (pc' := 5) (L' := [some (.ref l0), some (.int l1)]) (st' := [.int l1]) cd_147_4 rfl rfl ?_
    refine gs_0 (pc' := 8) (L' := [some (.ref l0), some (.int l1)]) (st' := [.int 327, .int l1]) cd_147_5 rfl rfl ?_
    refine gs_0 (pc' := if 327 ≤ l1 then 20 else 11) (L' := [some (.ref l0), some (.int l1)]) (st' := []) cd_147_8 rfl rfl ?_
    refine go_ite (fun hc => ?_) (fun hc => ?_)
    · rw [if_pos hc] at h
      refine gs_0 (pc' := 21) (L' := [some (.ref l0), some (.int l1)]) (st' := [.int 0]) cd_147_20 rfl rfl ?_
      cases h
      exact gs_ri cd_147_21 (Or.inl rfl)
    · rw [if_neg hc] at h
      refine gs_0 (pc' := 12) (L' := [some (.ref l0), some (.int l1)]) (st' := [.ref l0]) cd_147_11 rfl rfl ?_
      obtain ⟨ht, h⟩ := gO_s h
      obtain ⟨q_1, hv, h⟩ := gV_s h
      refine gs_gfR cd_147_12 (by decide) ht hv ?_
      refine gs_0 (pc' := 16) (L' := [some (.ref l0), some (.int l1)]) (st' := [.int l1, .ref q_1]) cd_147_15 rfl rfl ?_
      obtain ⟨ht, h⟩ := gA_s h
      refine gs_iald cd_147_16 ht ?_
      refine gs_0 (pc' := 21) (L' := [some (.ref l0), some (.int l1)]) (st' := [.int (I q_1 (l1 : Int32).toNatClampNeg)]) cd_147_17 rfl rfl ?_
      cases h
      exact gs_ri cd_147_21 (Or.inl rfl)
theorem cl_147 {K : Nat → Value} {k d : Nat} {l0 : Nat} {l1 : Int32} {w : aW} {I : aI} {J : aJ} {R : aR} (h : f_147 K k d l0 l1 w I J = some R) : Cl K (d + 1) 147 [.ref l0, .int l1] w I J = some R := Cl_of (ok_147 h)
/-! ProvedMachine$Machine.needsObject(I)Z -/
set_option maxRecDepth 20000 in
theorem gl_148 : gcd.lookup 148 = some gw_148 := rfl
theorem cd_148_0 : sm_cd 148 0 = some (.iload_n 1, 1, 1, 0, 0, 0, 0, 0, 0) := cd_of gl_148 rfl
theorem cd_148_1 : sm_cd 148 1 = some (.bipush 12, 2, 0, 0, 0, 0, 0, 12, 0) := cd_of gl_148 rfl
theorem cd_148_3 : sm_cd 148 3 = some (.if_icmp .eq 20, 3, 23, 0, 0, 0, 0, 0, 0) := cd_of gl_148 rfl
theorem cd_148_6 : sm_cd 148 6 = some (.iload_n 1, 1, 1, 0, 0, 0, 0, 0, 0) := cd_of gl_148 rfl
theorem cd_148_7 : sm_cd 148 7 = some (.bipush 10, 2, 0, 0, 0, 0, 0, 10, 0) := cd_of gl_148 rfl
theorem cd_148_9 : sm_cd 148 9 = some (.if_icmp .ne 18, 3, 27, 0, 0, 0, 0, 0, 0) := cd_of gl_148 rfl
theorem cd_148_12 : sm_cd 148 12 = some (.aload_n 0, 1, 0, 0, 0, 0, 0, 0, 0) := cd_of gl_148 rfl
theorem cd_148_13 : sm_cd 148 13 = some (.iconst 1, 1, 0, 0, 0, 0, 0, 1, 0) := cd_of gl_148 rfl
theorem cd_148_14 : sm_cd 148 14 = some (.invokevirtual 88, 3, 149, 0, 1, 2, 0, 0, 0) := cd_of gl_148 rfl
theorem cd_148_17 : sm_cd 148 17 = some (.invokestatic 164, 3, 150, 1, 1, 1, 0, 0, 0) := cd_of gl_148 rfl
theorem cd_148_20 : sm_cd 148 20 = some (.ifCond .eq 7, 3, 27, 0, 0, 0, 0, 0, 0) := cd_of gl_148 rfl
theorem cd_148_23 : sm_cd 148 23 = some (.iconst 1, 1, 0, 0, 0, 0, 0, 1, 0) := cd_of gl_148 rfl
theorem cd_148_24 : sm_cd 148 24 = some (.goto 4, 3, 28, 0, 0, 0, 0, 0, 0) := cd_of gl_148 rfl
theorem cd_148_27 : sm_cd 148 27 = some (.iconst 0, 1, 0, 0, 0, 0, 0, 0, 0) := cd_of gl_148 rfl
theorem cd_148_28 : sm_cd 148 28 = some (.ireturn, 1, 0, 0, 2, 0, 0, 0, 0) := cd_of gl_148 rfl
noncomputable def f_148 (K : Nat → Value) (k d : Nat) (l0 : Nat) (l1 : Int32) (w : aW) (I : aI) (J : aJ) : Option aR :=
  if l1 = 12 then
    some (some (.int 1), w, I, J)
  else
    if ¬ l1 = 10 then
      some (some (.int 0), w, I, J)
    else
      gO w 0 l0 (
      cI (Cl K d 149 [.ref l0, .int 1] w I J) fun x_4 w_1 I_2 J_3 =>
      cI (Cl K d 150 [.int x_4] w_1 I_2 J_3) fun x_8 w_5 I_6 J_7 =>
      if x_8 = 0 then
        some (some (.int 0), w_5, I_6, J_7)
      else
        some (some (.int 1), w_5, I_6, J_7))
theorem ok_148 {K : Nat → Value} {k d : Nat} {l0 : Nat} {l1 : Int32} {w : aW} {I : aI} {J : aJ} {R : aR} (h : f_148 K k d l0 l1 w I J = some R) : Go K (d + 1) 148 0 [some (.ref l0), some (.int l1)] [] w I J R := by
  unfold f_148 at h
  refine gs_0 (pc' := 1) (L' := [some (.ref l0), some (.int l1)]) (st' := [.int l1]) cd_148_0 rfl rfl ?_
  refine gs_0 (pc' := 3) (L' := [some (.ref l0), some (.int l1)]) (st' := [.int 12, .int l1]) cd_148_1 rfl rfl ?_
  refine gs_0 (pc' := if l1 = 12 then 23 else 6) (L' := [some (.ref l0), some (.int l1)]) (st' := []) cd_148_3 rfl rfl ?_
  refine go_ite (fun hc => ?_) (fun hc => ?_)
  · rw [if_pos hc] at h
    refine gs_0 (pc' := 24) (L' := [some (.ref l0), some (.int l1)]) (st' := [.int 1]) cd_148_23 rfl rfl ?_
    refine gs_0 (pc' := 28) (L' := [some (.ref l0), some (.int l1)]) (st' := [.int 1]) cd_148_24 rfl rfl ?_
    cases h
    exact gs_ri cd_148_28 (Or.inr (Or.inl ⟨rfl, Or.inr rfl⟩))
  · rw [if_neg hc] at h
    refine gs_0 (pc' := 7) (L' := [some (.ref l0), some (.int l1)]) (st' := [.int l1]) cd_148_6 rfl rfl ?_
    refine gs_0 (pc' := 9) (L' := [some (.ref l0), some (.int l1)]) (st' := [.int 10, .int l1]) cd_148_7 rfl rfl ?_
    refine gs_0 (pc' := if ¬ l1 = 10 then 27 else 12) (L' := [some (.ref l0), some (.int l1)]) (st' := []) cd_148_9 rfl rfl ?_
    refine go_ite (fun hc => ?_) (fun hc => ?_)
    · rw [if_pos hc] at h
      refine gs_0 (pc' := 28) (L' := [some (.ref l0), some (.int l1)]) (st' := [.int 0]) cd_148_27 rfl rfl ?_
      cases h
      exact gs_ri cd_148_28 (Or.inr (Or.inl ⟨rfl, Or.inl rfl⟩))
    · rw [if_neg hc] at h
      refine gs_0 (pc' := 13) (L' := [some (.ref l0), some (.int l1)]) (st' := [.ref l0]) cd_148_12 rfl rfl ?_
      refine gs_0 (pc' := 14) (L' := [some (.ref l0), some (.int l1)]) (st' := [.int 1, .ref l0]) cd_148_13 rfl rfl ?_
      obtain ⟨ht, h⟩ := gO_s h
      obtain ⟨x_4, w_1, I_2, J_3, hcl, h⟩ := cI_s h
      refine gs_call (as := [.ref l0, .int 1]) (rest := []) cd_148_14 rfl (by decide) rfl (sm_rv_ok (by decide) ht) (Nat.le_of_ble_eq_true rfl) (Nat.le_of_ble_eq_true rfl) rfl hcl ?_
      obtain ⟨x_8, w_5, I_6, J_7, hcl, h⟩ := cI_s h
      refine gs_call (as := [.int x_4]) (rest := []) cd_148_17 rfl (by decide) rfl rfl (Nat.le_of_ble_eq_true rfl) (Nat.le_of_ble_eq_true rfl) rfl hcl ?_
      refine gs_0 (pc' := if x_8 = 0 then 27 else 23) (L' := [some (.ref l0), some (.int l1)]) (st' := []) cd_148_20 rfl rfl ?_
      refine go_ite (fun hc => ?_) (fun hc => ?_)
      · rw [if_pos hc] at h
        refine gs_0 (pc' := 28) (L' := [some (.ref l0), some (.int l1)]) (st' := [.int 0]) cd_148_27 rfl rfl ?_
        cases h
        exact gs_ri cd_148_28 (Or.inr (Or.inl ⟨rfl, Or.inl rfl⟩))
      · rw [if_neg hc] at h
        refine gs_0 (pc' := 24) (L' := [some (.ref l0), some (.int l1)]) (st' := [.int 1]) cd_148_23 rfl rfl ?_
        refine gs_0 (pc' := 28) (L' := [some (.ref l0), some (.int l1)]) (st' := [.int 1]) cd_148_24 rfl rfl ?_
        cases h
        exact gs_ri cd_148_28 (Or.inr (Or.inl ⟨rfl, Or.inr rfl⟩))
theorem cl_148 {K : Nat → Value} {k d : Nat} {l0 : Nat} {l1 : Int32} {w : aW} {I : aI} {J : aJ} {R : aR} (h : f_148 K k d l0 l1 w I J = some R) : Cl K (d + 1) 148 [.ref l0, .int l1] w I J = some R := Cl_of (ok_148 h)
/-! ProvedMachine$Machine.fromTop(I)I -/
set_option maxRecDepth 20000 in
theorem gl_149 : gcd.lookup 149 = some gw_149 := rfl
theorem cd_149_0 : sm_cd 149 0 = some (.aload_n 0, 1, 0, 0, 0, 0, 0, 0, 0) := cd_of gl_149 rfl
theorem cd_149_1 : sm_cd 149 1 = some (.bipush 7, 2, 0, 0, 0, 0, 0, 7, 0) := cd_of gl_149 rfl
theorem cd_149_3 : sm_cd 149 3 = some (.aload_n 0, 1, 0, 0, 0, 0, 0, 0, 0) := cd_of gl_149 rfl
theorem cd_149_4 : sm_cd 149 4 = some (.getfield 13, 3, 0, 1, 2, 0, 0, 0, 0) := cd_of gl_149 rfl
theorem cd_149_7 : sm_cd 149 7 = some (.iconst 3, 1, 0, 0, 0, 0, 0, 3, 0) := cd_of gl_149 rfl
theorem cd_149_8 : sm_cd 149 8 = some (.iaload, 1, 0, 0, 0, 0, 0, 0, 0) := cd_of gl_149 rfl
theorem cd_149_9 : sm_cd 149 9 = some (.iadd, 1, 0, 0, 0, 0, 0, 0, 0) := cd_of gl_149 rfl
theorem cd_149_10 : sm_cd 149 10 = some (.iload_n 1, 1, 1, 0, 0, 0, 0, 0, 0) := cd_of gl_149 rfl
theorem cd_149_11 : sm_cd 149 11 = some (.isub, 1, 0, 0, 0, 0, 0, 0, 0) := cd_of gl_149 rfl
theorem cd_149_12 : sm_cd 149 12 = some (.invokevirtual 105, 3, 147, 0, 1, 2, 0, 0, 0) := cd_of gl_149 rfl
theorem cd_149_15 : sm_cd 149 15 = some (.ireturn, 1, 0, 0, 1, 0, 0, 0, 0) := cd_of gl_149 rfl
noncomputable def f_149 (K : Nat → Value) (k d : Nat) (l0 : Nat) (l1 : Int32) (w : aW) (I : aI) (J : aJ) : Option aR :=
  gO w 0 l0 (
  gV w l0 1 fun q_1 =>
  gA w 10 20 q_1 3 (
  gO w 0 l0 (
  cI (Cl K d 147 [.ref l0, .int ((7 + (I q_1 (3 : Int32).toNatClampNeg)) - l1)] w I J) fun x_5 w_2 I_3 J_4 =>
  some (some (.int x_5), w_2, I_3, J_4))))
theorem ok_149 {K : Nat → Value} {k d : Nat} {l0 : Nat} {l1 : Int32} {w : aW} {I : aI} {J : aJ} {R : aR} (h : f_149 K k d l0 l1 w I J = some R) : Go K (d + 1) 149 0 [some (.ref l0), some (.int l1)] [] w I J R := by
  unfold f_149 at h
  refine gs_0 (pc' := 1) (L' := [some (.ref l0), some (.int l1)]) (st' := [.ref l0]) cd_149_0 rfl rfl ?_
  refine gs_0 (pc' := 3) (L' := [some (.ref l0), some (.int l1)]) (st' := [.int 7, .ref l0]) cd_149_1 rfl rfl ?_
  refine gs_0 (pc' := 4) (L' := [some (.ref l0), some (.int l1)]) (st' := [.ref l0, .int 7, .ref l0]) cd_149_3 rfl rfl ?_
  obtain ⟨ht, h⟩ := gO_s h
  obtain ⟨q_1, hv, h⟩ := gV_s h
  refine gs_gfR cd_149_4 (by decide) ht hv ?_
  refine gs_0 (pc' := 8) (L' := [some (.ref l0), some (.int l1)]) (st' := [.int 3, .ref q_1, .int 7, .ref l0]) cd_149_7 rfl rfl ?_
  obtain ⟨ht, h⟩ := gA_s h
  refine gs_iald cd_149_8 ht ?_
  refine gs_0 (pc' := 10) (L' := [some (.ref l0), some (.int l1)]) (st' := [.int (7 + (I q_1 (3 : Int32).toNatClampNeg)), .ref l0]) cd_149_9 rfl rfl ?_
  refine gs_0 (pc' := 11) (L' := [some (.ref l0), some (.int l1)]) (st' := [.int l1, .int (7 + (I q_1 (3 : Int32).toNatClampNeg)), .ref l0]) cd_149_10 rfl rfl ?_
  refine gs_0 (pc' := 12) (L' := [some (.ref l0), some (.int l1)]) (st' := [.int ((7 + (I q_1 (3 : Int32).toNatClampNeg)) - l1), .ref l0]) cd_149_11 rfl rfl ?_
  obtain ⟨ht, h⟩ := gO_s h
  obtain ⟨x_5, w_2, I_3, J_4, hcl, h⟩ := cI_s h
  refine gs_call (as := [.ref l0, .int ((7 + (I q_1 (3 : Int32).toNatClampNeg)) - l1)]) (rest := []) cd_149_12 rfl (by decide) rfl (sm_rv_ok (by decide) ht) (Nat.le_of_ble_eq_true rfl) (Nat.le_of_ble_eq_true rfl) rfl hcl ?_
  cases h
  exact gs_ri cd_149_15 (Or.inl rfl)
theorem cl_149 {K : Nat → Value} {k d : Nat} {l0 : Nat} {l1 : Int32} {w : aW} {I : aI} {J : aJ} {R : aR} (h : f_149 K k d l0 l1 w I J = some R) : Cl K (d + 1) 149 [.ref l0, .int l1] w I J = some R := Cl_of (ok_149 h)
/-! ProvedMachine$Machine.isRowSize(I)Z -/
set_option maxRecDepth 20000 in
theorem gl_150 : gcd.lookup 150 = some gw_150 := rfl
theorem cd_150_0 : sm_cd 150 0 = some (.iload_n 0, 1, 0, 0, 0, 0, 0, 0, 0) := cd_of gl_150 rfl
theorem cd_150_1 : sm_cd 150 1 = some (.ifCond .lt 13, 3, 14, 0, 0, 0, 0, 0, 0) := cd_of gl_150 rfl
theorem cd_150_4 : sm_cd 150 4 = some (.iload_n 0, 1, 0, 0, 0, 0, 0, 0, 0) := cd_of gl_150 rfl
theorem cd_150_5 : sm_cd 150 5 = some (.bipush 9, 2, 0, 0, 0, 0, 0, 9, 0) := cd_of gl_150 rfl
theorem cd_150_7 : sm_cd 150 7 = some (.if_icmp .gt 7, 3, 14, 0, 0, 0, 0, 0, 0) := cd_of gl_150 rfl
theorem cd_150_10 : sm_cd 150 10 = some (.iconst 1, 1, 0, 0, 0, 0, 0, 1, 0) := cd_of gl_150 rfl
theorem cd_150_11 : sm_cd 150 11 = some (.goto 4, 3, 15, 0, 0, 0, 0, 0, 0) := cd_of gl_150 rfl
theorem cd_150_14 : sm_cd 150 14 = some (.iconst 0, 1, 0, 0, 0, 0, 0, 0, 0) := cd_of gl_150 rfl
theorem cd_150_15 : sm_cd 150 15 = some (.ireturn, 1, 0, 0, 2, 0, 0, 0, 0) := cd_of gl_150 rfl
noncomputable def f_150 (K : Nat → Value) (k d : Nat) (l0 : Int32) (w : aW) (I : aI) (J : aJ) : Option aR :=
  if l0 < 0 then
    some (some (.int 0), w, I, J)
  else
    if 9 < l0 then
      some (some (.int 0), w, I, J)
    else
      some (some (.int 1), w, I, J)
theorem ok_150 {K : Nat → Value} {k d : Nat} {l0 : Int32} {w : aW} {I : aI} {J : aJ} {R : aR} (h : f_150 K k d l0 w I J = some R) : Go K (d + 1) 150 0 [some (.int l0)] [] w I J R := by
  unfold f_150 at h
  refine gs_0 (pc' := 1) (L' := [some (.int l0)]) (st' := [.int l0]) cd_150_0 rfl rfl ?_
  refine gs_0 (pc' := if l0 < 0 then 14 else 4) (L' := [some (.int l0)]) (st' := []) cd_150_1 rfl rfl ?_
  refine go_ite (fun hc => ?_) (fun hc => ?_)
  · rw [if_pos hc] at h
    refine gs_0 (pc' := 15) (L' := [some (.int l0)]) (st' := [.int 0]) cd_150_14 rfl rfl ?_
    cases h
    exact gs_ri cd_150_15 (Or.inr (Or.inl ⟨rfl, Or.inl rfl⟩))
  · rw [if_neg hc] at h
    refine gs_0 (pc' := 5) (L' := [some (.int l0)]) (st' := [.int l0]) cd_150_4 rfl rfl ?_
    refine gs_0 (pc' := 7) (L' := [some (.int l0)]) (st' := [.int 9, .int l0]) cd_150_5 rfl rfl ?_
    refine gs_0 (pc' := if 9 < l0 then 14 else 10) (L' := [some (.int l0)]) (st' := []) cd_150_7 rfl rfl ?_
    refine go_ite (fun hc => ?_) (fun hc => ?_)
    · rw [if_pos hc] at h
      refine gs_0 (pc' := 15) (L' := [some (.int l0)]) (st' := [.int 0]) cd_150_14 rfl rfl ?_
      cases h
      exact gs_ri cd_150_15 (Or.inr (Or.inl ⟨rfl, Or.inl rfl⟩))
    · rw [if_neg hc] at h
      refine gs_0 (pc' := 11) (L' := [some (.int l0)]) (st' := [.int 1]) cd_150_10 rfl rfl ?_
      refine gs_0 (pc' := 15) (L' := [some (.int l0)]) (st' := [.int 1]) cd_150_11 rfl rfl ?_
      cases h
      exact gs_ri cd_150_15 (Or.inr (Or.inl ⟨rfl, Or.inr rfl⟩))
theorem cl_150 {K : Nat → Value} {k d : Nat} {l0 : Int32} {w : aW} {I : aI} {J : aJ} {R : aR} (h : f_150 K k d l0 w I J = some R) : Cl K (d + 1) 150 [.int l0] w I J = some R := Cl_of (ok_150 h)
/-! ProvedMachine$Machine.leastFree()I -/
set_option maxRecDepth 20000 in
theorem gl_151 : gcd.lookup 151 = some gw_151 := rfl
theorem cd_151_0 : sm_cd 151 0 = some (.iconst 1, 1, 0, 0, 0, 0, 0, 1, 0) := cd_of gl_151 rfl
theorem cd_151_1 : sm_cd 151 1 = some (.istore_n 1, 1, 1, 0, 0, 0, 0, 0, 0) := cd_of gl_151 rfl
theorem cd_151_2 : sm_cd 151 2 = some (.iload_n 1, 1, 1, 0, 0, 0, 0, 0, 0) := cd_of gl_151 rfl
theorem cd_151_3 : sm_cd 151 3 = some (.bipush 16, 2, 0, 0, 0, 0, 0, 16, 0) := cd_of gl_151 rfl
theorem cd_151_5 : sm_cd 151 5 = some (.if_icmp .gt 23, 3, 28, 0, 0, 0, 0, 0, 0) := cd_of gl_151 rfl
theorem cd_151_8 : sm_cd 151 8 = some (.aload_n 0, 1, 0, 0, 0, 0, 0, 0, 0) := cd_of gl_151 rfl
theorem cd_151_9 : sm_cd 151 9 = some (.getfield 13, 3, 0, 1, 2, 0, 0, 0, 0) := cd_of gl_151 rfl
theorem cd_151_12 : sm_cd 151 12 = some (.iload_n 1, 1, 1, 0, 0, 0, 0, 0, 0) := cd_of gl_151 rfl
theorem cd_151_13 : sm_cd 151 13 = some (.invokestatic 111, 3, 152, 1, 1, 1, 0, 0, 0) := cd_of gl_151 rfl
theorem cd_151_16 : sm_cd 151 16 = some (.iaload, 1, 0, 0, 0, 0, 0, 0, 0) := cd_of gl_151 rfl
theorem cd_151_17 : sm_cd 151 17 = some (.ifCond .ne 5, 3, 22, 0, 0, 0, 0, 0, 0) := cd_of gl_151 rfl
theorem cd_151_20 : sm_cd 151 20 = some (.iload_n 1, 1, 1, 0, 0, 0, 0, 0, 0) := cd_of gl_151 rfl
theorem cd_151_21 : sm_cd 151 21 = some (.ireturn, 1, 0, 0, 1, 0, 0, 0, 0) := cd_of gl_151 rfl
theorem cd_151_22 : sm_cd 151 22 = some (.iinc 1 1, 3, 1, 0, 0, 0, 0, 1, 0) := cd_of gl_151 rfl
theorem cd_151_25 : sm_cd 151 25 = some (.goto (-23), 3, 2, 0, 0, 0, 0, 0, 0) := cd_of gl_151 rfl
theorem cd_151_28 : sm_cd 151 28 = some (.iconst 0, 1, 0, 0, 0, 0, 0, 0, 0) := cd_of gl_151 rfl
theorem cd_151_29 : sm_cd 151 29 = some (.ireturn, 1, 0, 0, 1, 0, 0, 0, 0) := cd_of gl_151 rfl
noncomputable def f_151_2 (K : Nat → Value) (k : Nat) (d : Nat) : Nat → Int32 → aW → aI → aJ → Option aR :=
  match k with
  | 0 => fun _ _ _ _ _ => none
  | k + 1 => fun l0 l1 w I J =>
  lt_ (f_151_2 K k d) fun r2 =>
  if 16 < l1 then
    some (some (.int 0), w, I, J)
  else
    gO w 0 l0 (
    gV w l0 1 fun q_1 =>
    cI (Cl K d 152 [.int l1] w I J) fun x_5 w_2 I_3 J_4 =>
    gA w_2 10 20 q_1 x_5 (
    if ¬ (I_3 q_1 (x_5 : Int32).toNatClampNeg) = 0 then
      lt_ (l1 + 1) fun x_6 =>
      r2 l0 x_6 w_2 I_3 J_4
    else
      some (some (.int l1), w_2, I_3, J_4)))
theorem ok_151_2 {K : Nat → Value} {d : Nat} : ∀ {k : Nat} {l0 : Nat} {l1 : Int32} {w : aW} {I : aI} {J : aJ} {R : aR}, f_151_2 K k d l0 l1 w I J = some R → Go K (d + 1) 151 2 [some (.ref l0), some (.int l1)] [] w I J R := by
  intro k
  induction k with
  | zero => intro l0 l1 w I J R h; cases h
  | succ k ih =>
    intro l0 l1 w I J R h
    have hr2 : ∀ (l0 : Nat) (l1 : Int32) (w : aW) (I : aI) (J : aJ) (R : aR), f_151_2 K k d l0 l1 w I J = some R → Go K (d + 1) 151 2 [some (.ref l0), some (.int l1)] [] w I J R := fun l0 l1 w I J R h => ih h
    rw [f_151_2] at h
    obtain ⟨r2, hx, h⟩ := lt_s_ h
    rw [hx] at hr2
    clear hx ih
    refine gs_0 (pc' := 3) (L' := [some (.ref l0), some (.int l1)]) (st' := [.int l1]) cd_151_2 rfl rfl ?_
    refine gs_0 (pc' := 5) (L' := [some (.ref l0), some (.int l1)]) (st' := [.int 16, .int l1]) cd_151_3 rfl rfl ?_
    refine gs_0 (pc' := if 16 < l1 then 28 else 8) (L' := [some (.ref l0), some (.int l1)]) (st' := []) cd_151_5 rfl rfl ?_
    refine go_ite (fun hc => ?_) (fun hc => ?_)
    · rw [if_pos hc] at h
      refine gs_0 (pc' := 29) (L' := [some (.ref l0), some (.int l1)]) (st' := [.int 0]) cd_151_28 rfl rfl ?_
      cases h
      exact gs_ri cd_151_29 (Or.inl rfl)
    · rw [if_neg hc] at h
      refine gs_0 (pc' := 9) (L' := [some (.ref l0), some (.int l1)]) (st' := [.ref l0]) cd_151_8 rfl rfl ?_
      obtain ⟨ht, h⟩ := gO_s h
      obtain ⟨q_1, hv, h⟩ := gV_s h
      refine gs_gfR cd_151_9 (by decide) ht hv ?_
      refine gs_0 (pc' := 13) (L' := [some (.ref l0), some (.int l1)]) (st' := [.int l1, .ref q_1]) cd_151_12 rfl rfl ?_
      obtain ⟨x_5, w_2, I_3, J_4, hcl, h⟩ := cI_s h
      refine gs_call (as := [.int l1]) (rest := [.ref q_1]) cd_151_13 rfl (by decide) rfl rfl (Nat.le_of_ble_eq_true rfl) (Nat.le_of_ble_eq_true rfl) rfl hcl ?_
      obtain ⟨ht, h⟩ := gA_s h
      refine gs_iald cd_151_16 ht ?_
      refine gs_0 (pc' := if ¬ (I_3 q_1 (x_5 : Int32).toNatClampNeg) = 0 then 22 else 20) (L' := [some (.ref l0), some (.int l1)]) (st' := []) cd_151_17 rfl rfl ?_
      refine go_ite (fun hc => ?_) (fun hc => ?_)
      · rw [if_pos hc] at h
        refine gs_0 (pc' := 25) (L' := [some (.ref l0), some (.int (l1 + 1))]) (st' := []) cd_151_22 rfl rfl ?_
        obtain ⟨x_6, hx, h⟩ := lt_s_ h
        rw [hx]
        clear hx
        refine gs_0 (pc' := 2) (L' := [some (.ref l0), some (.int x_6)]) (st' := []) cd_151_25 rfl rfl ?_
        exact hr2 l0 x_6 _ _ _ _ h
      · rw [if_neg hc] at h
        refine gs_0 (pc' := 21) (L' := [some (.ref l0), some (.int l1)]) (st' := [.int l1]) cd_151_20 rfl rfl ?_
        cases h
        exact gs_ri cd_151_21 (Or.inl rfl)
noncomputable def f_151 (K : Nat → Value) (k d : Nat) (l0 : Nat) (w : aW) (I : aI) (J : aJ) : Option aR :=
  f_151_2 K k d l0 1 w I J
theorem ok_151 {K : Nat → Value} {k d : Nat} {l0 : Nat} {w : aW} {I : aI} {J : aJ} {R : aR} (h : f_151 K k d l0 w I J = some R) : Go K (d + 1) 151 0 [some (.ref l0), none] [] w I J R := by
  unfold f_151 at h
  refine gs_0 (pc' := 1) (L' := [some (.ref l0), none]) (st' := [.int 1]) cd_151_0 rfl rfl ?_
  refine gs_0 (pc' := 2) (L' := [some (.ref l0), some (.int 1)]) (st' := []) cd_151_1 rfl rfl ?_
  exact ok_151_2 h
theorem cl_151 {K : Nat → Value} {k d : Nat} {l0 : Nat} {w : aW} {I : aI} {J : aJ} {R : aR} (h : f_151 K k d l0 w I J = some R) : Cl K (d + 1) 151 [.ref l0] w I J = some R := Cl_of (ok_151 h)
/-! ProvedMachine$Machine.objectCell(I)I -/
set_option maxRecDepth 20000 in
theorem gl_152 : gcd.lookup 152 = some gw_152 := rfl
theorem cd_152_0 : sm_cd 152 0 = some (.sipush 151, 3, 0, 0, 0, 0, 0, 151, 0) := cd_of gl_152 rfl
theorem cd_152_3 : sm_cd 152 3 = some (.iload_n 0, 1, 0, 0, 0, 0, 0, 0, 0) := cd_of gl_152 rfl
theorem cd_152_4 : sm_cd 152 4 = some (.iconst 1, 1, 0, 0, 0, 0, 0, 1, 0) := cd_of gl_152 rfl
theorem cd_152_5 : sm_cd 152 5 = some (.isub, 1, 0, 0, 0, 0, 0, 0, 0) := cd_of gl_152 rfl
theorem cd_152_6 : sm_cd 152 6 = some (.bipush 11, 2, 0, 0, 0, 0, 0, 11, 0) := cd_of gl_152 rfl
theorem cd_152_8 : sm_cd 152 8 = some (.imul, 1, 0, 0, 0, 0, 0, 0, 0) := cd_of gl_152 rfl
theorem cd_152_9 : sm_cd 152 9 = some (.iadd, 1, 0, 0, 0, 0, 0, 0, 0) := cd_of gl_152 rfl
theorem cd_152_10 : sm_cd 152 10 = some (.ireturn, 1, 0, 0, 1, 0, 0, 0, 0) := cd_of gl_152 rfl
noncomputable def f_152 (K : Nat → Value) (k d : Nat) (l0 : Int32) (w : aW) (I : aI) (J : aJ) : Option aR :=
  some (some (.int (151 + ((l0 - 1) * 11))), w, I, J)
theorem ok_152 {K : Nat → Value} {k d : Nat} {l0 : Int32} {w : aW} {I : aI} {J : aJ} {R : aR} (h : f_152 K k d l0 w I J = some R) : Go K (d + 1) 152 0 [some (.int l0)] [] w I J R := by
  unfold f_152 at h
  refine gs_0 (pc' := 3) (L' := [some (.int l0)]) (st' := [.int 151]) cd_152_0 rfl rfl ?_
  refine gs_0 (pc' := 4) (L' := [some (.int l0)]) (st' := [.int l0, .int 151]) cd_152_3 rfl rfl ?_
  refine gs_0 (pc' := 5) (L' := [some (.int l0)]) (st' := [.int 1, .int l0, .int 151]) cd_152_4 rfl rfl ?_
  refine gs_0 (pc' := 6) (L' := [some (.int l0)]) (st' := [.int (l0 - 1), .int 151]) cd_152_5 rfl rfl ?_
  refine gs_0 (pc' := 8) (L' := [some (.int l0)]) (st' := [.int 11, .int (l0 - 1), .int 151]) cd_152_6 rfl rfl ?_
  refine gs_0 (pc' := 9) (L' := [some (.int l0)]) (st' := [.int ((l0 - 1) * 11), .int 151]) cd_152_8 rfl rfl ?_
  refine gs_0 (pc' := 10) (L' := [some (.int l0)]) (st' := [.int (151 + ((l0 - 1) * 11))]) cd_152_9 rfl rfl ?_
  cases h
  exact gs_ri cd_152_10 (Or.inl rfl)
theorem cl_152 {K : Nat → Value} {k d : Nat} {l0 : Int32} {w : aW} {I : aI} {J : aJ} {R : aR} (h : f_152 K k d l0 w I J = some R) : Cl K (d + 1) 152 [.int l0] w I J = some R := Cl_of (ok_152 h)
/-! ProvedMachine$Machine.clearHeap()I -/
set_option maxRecDepth 20000 in
theorem gl_153 : gcd.lookup 153 = some gw_153 := rfl
theorem cd_153_0 : sm_cd 153 0 = some (.aload_n 0, 1, 0, 0, 0, 0, 0, 0, 0) := cd_of gl_153 rfl
theorem cd_153_1 : sm_cd 153 1 = some (.invokevirtual 167, 3, 154, 0, 0, 4, 0, 0, 0) := cd_of gl_153 rfl
theorem cd_153_4 : sm_cd 153 4 = some (.istore_n 1, 1, 1, 0, 0, 0, 0, 0, 0) := cd_of gl_153 rfl
theorem cd_153_5 : sm_cd 153 5 = some (.iconst 0, 1, 0, 0, 0, 0, 0, 0, 0) := cd_of gl_153 rfl
theorem cd_153_6 : sm_cd 153 6 = some (.istore_n 2, 1, 2, 0, 0, 0, 0, 0, 0) := cd_of gl_153 rfl
theorem cd_153_7 : sm_cd 153 7 = some (.iconst 1, 1, 0, 0, 0, 0, 0, 1, 0) := cd_of gl_153 rfl
theorem cd_153_8 : sm_cd 153 8 = some (.istore_n 3, 1, 3, 0, 0, 0, 0, 0, 0) := cd_of gl_153 rfl
theorem cd_153_9 : sm_cd 153 9 = some (.iload_n 3, 1, 3, 0, 0, 0, 0, 0, 0) := cd_of gl_153 rfl
theorem cd_153_10 : sm_cd 153 10 = some (.bipush 16, 2, 0, 0, 0, 0, 0, 16, 0) := cd_of gl_153 rfl
theorem cd_153_12 : sm_cd 153 12 = some (.if_icmp .gt 41, 3, 53, 0, 0, 0, 0, 0, 0) := cd_of gl_153 rfl
theorem cd_153_15 : sm_cd 153 15 = some (.iload_n 1, 1, 1, 0, 0, 0, 0, 0, 0) := cd_of gl_153 rfl
theorem cd_153_16 : sm_cd 153 16 = some (.iload_n 3, 1, 3, 0, 0, 0, 0, 0, 0) := cd_of gl_153 rfl
theorem cd_153_17 : sm_cd 153 17 = some (.ishr, 1, 0, 0, 0, 0, 0, 0, 0) := cd_of gl_153 rfl
theorem cd_153_18 : sm_cd 153 18 = some (.iconst 1, 1, 0, 0, 0, 0, 0, 1, 0) := cd_of gl_153 rfl
theorem cd_153_19 : sm_cd 153 19 = some (.iand, 1, 0, 0, 0, 0, 0, 0, 0) := cd_of gl_153 rfl
theorem cd_153_20 : sm_cd 153 20 = some (.ifCond .ne 27, 3, 47, 0, 0, 0, 0, 0, 0) := cd_of gl_153 rfl
theorem cd_153_23 : sm_cd 153 23 = some (.aload_n 0, 1, 0, 0, 0, 0, 0, 0, 0) := cd_of gl_153 rfl
theorem cd_153_24 : sm_cd 153 24 = some (.getfield 13, 3, 0, 1, 2, 0, 0, 0, 0) := cd_of gl_153 rfl
theorem cd_153_27 : sm_cd 153 27 = some (.iload_n 3, 1, 3, 0, 0, 0, 0, 0, 0) := cd_of gl_153 rfl
theorem cd_153_28 : sm_cd 153 28 = some (.invokestatic 111, 3, 152, 1, 1, 1, 0, 0, 0) := cd_of gl_153 rfl
theorem cd_153_31 : sm_cd 153 31 = some (.iaload, 1, 0, 0, 0, 0, 0, 0, 0) := cd_of gl_153 rfl
theorem cd_153_32 : sm_cd 153 32 = some (.ifCond .eq 15, 3, 47, 0, 0, 0, 0, 0, 0) := cd_of gl_153 rfl
theorem cd_153_35 : sm_cd 153 35 = some (.aload_n 0, 1, 0, 0, 0, 0, 0, 0, 0) := cd_of gl_153 rfl
theorem cd_153_36 : sm_cd 153 36 = some (.iload_n 3, 1, 3, 0, 0, 0, 0, 0, 0) := cd_of gl_153 rfl
theorem cd_153_37 : sm_cd 153 37 = some (.invokestatic 111, 3, 152, 1, 1, 1, 0, 0, 0) := cd_of gl_153 rfl
theorem cd_153_40 : sm_cd 153 40 = some (.iconst 0, 1, 0, 0, 0, 0, 0, 0, 0) := cd_of gl_153 rfl
theorem cd_153_41 : sm_cd 153 41 = some (.invokevirtual 60, 3, 144, 0, 2, 5, 0, 0, 0) := cd_of gl_153 rfl
theorem cd_153_44 : sm_cd 153 44 = some (.iinc 2 1, 3, 2, 0, 0, 0, 0, 1, 0) := cd_of gl_153 rfl
theorem cd_153_47 : sm_cd 153 47 = some (.iinc 3 1, 3, 3, 0, 0, 0, 0, 1, 0) := cd_of gl_153 rfl
theorem cd_153_50 : sm_cd 153 50 = some (.goto (-41), 3, 9, 0, 0, 0, 0, 0, 0) := cd_of gl_153 rfl
theorem cd_153_53 : sm_cd 153 53 = some (.aload_n 0, 1, 0, 0, 0, 0, 0, 0, 0) := cd_of gl_153 rfl
theorem cd_153_54 : sm_cd 153 54 = some (.iconst 2, 1, 0, 0, 0, 0, 0, 2, 0) := cd_of gl_153 rfl
theorem cd_153_55 : sm_cd 153 55 = some (.aload_n 0, 1, 0, 0, 0, 0, 0, 0, 0) := cd_of gl_153 rfl
theorem cd_153_56 : sm_cd 153 56 = some (.getfield 13, 3, 0, 1, 2, 0, 0, 0, 0) := cd_of gl_153 rfl
theorem cd_153_59 : sm_cd 153 59 = some (.iconst 2, 1, 0, 0, 0, 0, 0, 2, 0) := cd_of gl_153 rfl
theorem cd_153_60 : sm_cd 153 60 = some (.iaload, 1, 0, 0, 0, 0, 0, 0, 0) := cd_of gl_153 rfl
theorem cd_153_61 : sm_cd 153 61 = some (.iconst 1, 1, 0, 0, 0, 0, 0, 1, 0) := cd_of gl_153 rfl
theorem cd_153_62 : sm_cd 153 62 = some (.iadd, 1, 0, 0, 0, 0, 0, 0, 0) := cd_of gl_153 rfl
theorem cd_153_63 : sm_cd 153 63 = some (.invokevirtual 60, 3, 144, 0, 2, 5, 0, 0, 0) := cd_of gl_153 rfl
theorem cd_153_66 : sm_cd 153 66 = some (.iload_n 2, 1, 2, 0, 0, 0, 0, 0, 0) := cd_of gl_153 rfl
theorem cd_153_67 : sm_cd 153 67 = some (.ireturn, 1, 0, 0, 1, 0, 0, 0, 0) := cd_of gl_153 rfl
noncomputable def f_153_47 (K : Nat → Value) (k d : Nat) (r9 : Nat → Int32 → Int32 → Int32 → aW → aI → aJ → Option aR) (l0 : Nat) (l1 : Int32) (l2 : Int32) (l3 : Int32) (w : aW) (I : aI) (J : aJ) : Option aR :=
  lt_ (l3 + 1) fun x_1 =>
  r9 l0 l1 l2 x_1 w I J
theorem ok_153_47 {K : Nat → Value} {k d : Nat} {r9 : Nat → Int32 → Int32 → Int32 → aW → aI → aJ → Option aR} (hr9 : ∀ (l0 : Nat) (l1 : Int32) (l2 : Int32) (l3 : Int32) (w : aW) (I : aI) (J : aJ) (R : aR), r9 l0 l1 l2 l3 w I J = some R → Go K (d + 1) 153 9 [some (.ref l0), some (.int l1), some (.int l2), some (.int l3)] [] w I J R) {l0 : Nat} {l1 : Int32} {l2 : Int32} {l3 : Int32} {w : aW} {I : aI} {J : aJ} {R : aR} (h : f_153_47 K k d r9 l0 l1 l2 l3 w I J = some R) : Go K (d + 1) 153 47 [some (.ref l0), some (.int l1), some (.int l2), some (.int l3)] [] w I J R := by
  unfold f_153_47 at h
  refine gs_0 (pc' := 50) (L' := [some (.ref l0), some (.int l1), some (.int l2), some (.int (l3 + 1))]) (st' := []) cd_153_47 rfl rfl ?_
  obtain ⟨x_1, hx, h⟩ := lt_s_ h
  rw [hx]
  clear hx
  refine gs_0 (pc' := 9) (L' := [some (.ref l0), some (.int l1), some (.int l2), some (.int x_1)]) (st' := []) cd_153_50 rfl rfl ?_
  exact hr9 l0 l1 l2 x_1 _ _ _ _ h
noncomputable def f_153_9 (K : Nat → Value) (k : Nat) (d : Nat) : Nat → Int32 → Int32 → Int32 → aW → aI → aJ → Option aR :=
  match k with
  | 0 => fun _ _ _ _ _ _ _ => none
  | k + 1 => fun l0 l1 l2 l3 w I J =>
  lt_ (f_153_9 K k d) fun r9 =>
  if 16 < l3 then
    gO w 0 l0 (
    gV w l0 1 fun q_1 =>
    gA w 10 20 q_1 2 (
    gO w 0 l0 (
    cV (Cl K d 144 [.ref l0, .int 2, .int ((I q_1 (2 : Int32).toNatClampNeg) + 1)] w I J) fun w_2 I_3 J_4 =>
    some (some (.int l2), w_2, I_3, J_4))))
  else
    if ¬ ((l1 >>> (l3 &&& 31)) &&& 1) = 0 then
      f_153_47 K k d r9 l0 l1 l2 l3 w I J
    else
      gO w 0 l0 (
      gV w l0 1 fun q_5 =>
      cI (Cl K d 152 [.int l3] w I J) fun x_9 w_6 I_7 J_8 =>
      gA w_6 10 20 q_5 x_9 (
      if (I_7 q_5 (x_9 : Int32).toNatClampNeg) = 0 then
        f_153_47 K k d r9 l0 l1 l2 l3 w_6 I_7 J_8
      else
        cI (Cl K d 152 [.int l3] w_6 I_7 J_8) fun x_13 w_10 I_11 J_12 =>
        gO w_10 0 l0 (
        cV (Cl K d 144 [.ref l0, .int x_13, .int 0] w_10 I_11 J_12) fun w_14 I_15 J_16 =>
        lt_ (l2 + 1) fun x_17 =>
        f_153_47 K k d r9 l0 l1 x_17 l3 w_14 I_15 J_16)))
theorem ok_153_9 {K : Nat → Value} {d : Nat} : ∀ {k : Nat} {l0 : Nat} {l1 : Int32} {l2 : Int32} {l3 : Int32} {w : aW} {I : aI} {J : aJ} {R : aR}, f_153_9 K k d l0 l1 l2 l3 w I J = some R → Go K (d + 1) 153 9 [some (.ref l0), some (.int l1), some (.int l2), some (.int l3)] [] w I J R := by
  intro k
  induction k with
  | zero => intro l0 l1 l2 l3 w I J R h; cases h
  | succ k ih =>
    intro l0 l1 l2 l3 w I J R h
    have hr9 : ∀ (l0 : Nat) (l1 : Int32) (l2 : Int32) (l3 : Int32) (w : aW) (I : aI) (J : aJ) (R : aR), f_153_9 K k d l0 l1 l2 l3 w I J = some R → Go K (d + 1) 153 9 [some (.ref l0), some (.int l1), some (.int l2), some (.int l3)] [] w I J R := fun l0 l1 l2 l3 w I J R h => ih h
    rw [f_153_9] at h
    obtain ⟨r9, hx, h⟩ := lt_s_ h
    rw [hx] at hr9
    clear hx ih
    refine gs_0 (pc' := 10) (L' := [some (.ref l0), some (.int l1), some (.int l2), some (.int l3)]) (st' := [.int l3]) cd_153_9 rfl rfl ?_
    refine gs_0 (pc' := 12) (L' := [some (.ref l0), some (.int l1), some (.int l2), some (.int l3)]) (st' := [.int 16, .int l3]) cd_153_10 rfl rfl ?_
    refine gs_0 (pc' := if 16 < l3 then 53 else 15) (L' := [some (.ref l0), some (.int l1), some (.int l2), some (.int l3)]) (st' := []) cd_153_12 rfl rfl ?_
    refine go_ite (fun hc => ?_) (fun hc => ?_)
    · rw [if_pos hc] at h
      refine gs_0 (pc' := 54) (L' := [some (.ref l0), some (.int l1), some (.int l2), some (.int l3)]) (st' := [.ref l0]) cd_153_53 rfl rfl ?_
      refine gs_0 (pc' := 55) (L' := [some (.ref l0), some (.int l1), some (.int l2), some (.int l3)]) (st' := [.int 2, .ref l0]) cd_153_54 rfl rfl ?_
      refine gs_0 (pc' := 56) (L' := [some (.ref l0), some (.int l1), some (.int l2), some (.int l3)]) (st' := [.ref l0, .int 2, .ref l0]) cd_153_55 rfl rfl ?_
      obtain ⟨ht, h⟩ := gO_s h
      obtain ⟨q_1, hv, h⟩ := gV_s h
      refine gs_gfR cd_153_56 (by decide) ht hv ?_
      refine gs_0 (pc' := 60) (L' := [some (.ref l0), some (.int l1), some (.int l2), some (.int l3)]) (st' := [.int 2, .ref q_1, .int 2, .ref l0]) cd_153_59 rfl rfl ?_
      obtain ⟨ht, h⟩ := gA_s h
      refine gs_iald cd_153_60 ht ?_
      refine gs_0 (pc' := 62) (L' := [some (.ref l0), some (.int l1), some (.int l2), some (.int l3)]) (st' := [.int 1, .int (I q_1 (2 : Int32).toNatClampNeg), .int 2, .ref l0]) cd_153_61 rfl rfl ?_
      refine gs_0 (pc' := 63) (L' := [some (.ref l0), some (.int l1), some (.int l2), some (.int l3)]) (st' := [.int ((I q_1 (2 : Int32).toNatClampNeg) + 1), .int 2, .ref l0]) cd_153_62 rfl rfl ?_
      obtain ⟨ht, h⟩ := gO_s h
      obtain ⟨w_2, I_3, J_4, hcl, h⟩ := cV_s h
      refine gs_call (as := [.ref l0, .int 2, .int ((I q_1 (2 : Int32).toNatClampNeg) + 1)]) (rest := []) cd_153_63 rfl (by decide) rfl (sm_rv_ok (by decide) ht) (Nat.le_of_ble_eq_true rfl) (Nat.le_of_ble_eq_true rfl) rfl hcl ?_
      refine gs_0 (pc' := 67) (L' := [some (.ref l0), some (.int l1), some (.int l2), some (.int l3)]) (st' := [.int l2]) cd_153_66 rfl rfl ?_
      cases h
      exact gs_ri cd_153_67 (Or.inl rfl)
    · rw [if_neg hc] at h
      refine gs_0 (pc' := 16) (L' := [some (.ref l0), some (.int l1), some (.int l2), some (.int l3)]) (st' := [.int l1]) cd_153_15 rfl rfl ?_
      refine gs_0 (pc' := 17) (L' := [some (.ref l0), some (.int l1), some (.int l2), some (.int l3)]) (st' := [.int l3, .int l1]) cd_153_16 rfl rfl ?_
      refine gs_0 (pc' := 18) (L' := [some (.ref l0), some (.int l1), some (.int l2), some (.int l3)]) (st' := [.int (l1 >>> (l3 &&& 31))]) cd_153_17 rfl rfl ?_
      refine gs_0 (pc' := 19) (L' := [some (.ref l0), some (.int l1), some (.int l2), some (.int l3)]) (st' := [.int 1, .int (l1 >>> (l3 &&& 31))]) cd_153_18 rfl rfl ?_
      refine gs_0 (pc' := 20) (L' := [some (.ref l0), some (.int l1), some (.int l2), some (.int l3)]) (st' := [.int ((l1 >>> (l3 &&& 31)) &&& 1)]) cd_153_19 rfl rfl ?_
      refine gs_0 (pc' := if ¬ ((l1 >>> (l3 &&& 31)) &&& 1) = 0 then 47 else 23) (L' := [some (.ref l0), some (.int l1), some (.int l2), some (.int l3)]) (st' := []) cd_153_20 rfl rfl ?_
      refine go_ite (fun hc => ?_) (fun hc => ?_)
      · rw [if_pos hc] at h
        exact ok_153_47 hr9 h
      · rw [if_neg hc] at h
        refine gs_0 (pc' := 24) (L' := [some (.ref l0), some (.int l1), some (.int l2), some (.int l3)]) (st' := [.ref l0]) cd_153_23 rfl rfl ?_
        obtain ⟨ht, h⟩ := gO_s h
        obtain ⟨q_5, hv, h⟩ := gV_s h
        refine gs_gfR cd_153_24 (by decide) ht hv ?_
        refine gs_0 (pc' := 28) (L' := [some (.ref l0), some (.int l1), some (.int l2), some (.int l3)]) (st' := [.int l3, .ref q_5]) cd_153_27 rfl rfl ?_
        obtain ⟨x_9, w_6, I_7, J_8, hcl, h⟩ := cI_s h
        refine gs_call (as := [.int l3]) (rest := [.ref q_5]) cd_153_28 rfl (by decide) rfl rfl (Nat.le_of_ble_eq_true rfl) (Nat.le_of_ble_eq_true rfl) rfl hcl ?_
        obtain ⟨ht, h⟩ := gA_s h
        refine gs_iald cd_153_31 ht ?_
        refine gs_0 (pc' := if (I_7 q_5 (x_9 : Int32).toNatClampNeg) = 0 then 47 else 35) (L' := [some (.ref l0), some (.int l1), some (.int l2), some (.int l3)]) (st' := []) cd_153_32 rfl rfl ?_
        refine go_ite (fun hc => ?_) (fun hc => ?_)
        · rw [if_pos hc] at h
          exact ok_153_47 hr9 h
        · rw [if_neg hc] at h
          refine gs_0 (pc' := 36) (L' := [some (.ref l0), some (.int l1), some (.int l2), some (.int l3)]) (st' := [.ref l0]) cd_153_35 rfl rfl ?_
          refine gs_0 (pc' := 37) (L' := [some (.ref l0), some (.int l1), some (.int l2), some (.int l3)]) (st' := [.int l3, .ref l0]) cd_153_36 rfl rfl ?_
          obtain ⟨x_13, w_10, I_11, J_12, hcl, h⟩ := cI_s h
          refine gs_call (as := [.int l3]) (rest := [.ref l0]) cd_153_37 rfl (by decide) rfl rfl (Nat.le_of_ble_eq_true rfl) (Nat.le_of_ble_eq_true rfl) rfl hcl ?_
          refine gs_0 (pc' := 41) (L' := [some (.ref l0), some (.int l1), some (.int l2), some (.int l3)]) (st' := [.int 0, .int x_13, .ref l0]) cd_153_40 rfl rfl ?_
          obtain ⟨ht, h⟩ := gO_s h
          obtain ⟨w_14, I_15, J_16, hcl, h⟩ := cV_s h
          refine gs_call (as := [.ref l0, .int x_13, .int 0]) (rest := []) cd_153_41 rfl (by decide) rfl (sm_rv_ok (by decide) ht) (Nat.le_of_ble_eq_true rfl) (Nat.le_of_ble_eq_true rfl) rfl hcl ?_
          refine gs_0 (pc' := 47) (L' := [some (.ref l0), some (.int l1), some (.int (l2 + 1)), some (.int l3)]) (st' := []) cd_153_44 rfl rfl ?_
          obtain ⟨x_17, hx, h⟩ := lt_s_ h
          rw [hx]
          clear hx
          exact ok_153_47 hr9 h
noncomputable def f_153 (K : Nat → Value) (k d : Nat) (l0 : Nat) (w : aW) (I : aI) (J : aJ) : Option aR :=
  gO w 0 l0 (
  cI (Cl K d 154 [.ref l0] w I J) fun x_4 w_1 I_2 J_3 =>
  f_153_9 K k d l0 x_4 0 1 w_1 I_2 J_3)
theorem ok_153 {K : Nat → Value} {k d : Nat} {l0 : Nat} {w : aW} {I : aI} {J : aJ} {R : aR} (h : f_153 K k d l0 w I J = some R) : Go K (d + 1) 153 0 [some (.ref l0), none, none, none] [] w I J R := by
  unfold f_153 at h
  refine gs_0 (pc' := 1) (L' := [some (.ref l0), none, none, none]) (st' := [.ref l0]) cd_153_0 rfl rfl ?_
  obtain ⟨ht, h⟩ := gO_s h
  obtain ⟨x_4, w_1, I_2, J_3, hcl, h⟩ := cI_s h
  refine gs_call (as := [.ref l0]) (rest := []) cd_153_1 rfl (by decide) rfl (sm_rv_ok (by decide) ht) (Nat.le_of_ble_eq_true rfl) (Nat.le_of_ble_eq_true rfl) rfl hcl ?_
  refine gs_0 (pc' := 5) (L' := [some (.ref l0), some (.int x_4), none, none]) (st' := []) cd_153_4 rfl rfl ?_
  refine gs_0 (pc' := 6) (L' := [some (.ref l0), some (.int x_4), none, none]) (st' := [.int 0]) cd_153_5 rfl rfl ?_
  refine gs_0 (pc' := 7) (L' := [some (.ref l0), some (.int x_4), some (.int 0), none]) (st' := []) cd_153_6 rfl rfl ?_
  refine gs_0 (pc' := 8) (L' := [some (.ref l0), some (.int x_4), some (.int 0), none]) (st' := [.int 1]) cd_153_7 rfl rfl ?_
  refine gs_0 (pc' := 9) (L' := [some (.ref l0), some (.int x_4), some (.int 0), some (.int 1)]) (st' := []) cd_153_8 rfl rfl ?_
  exact ok_153_9 h
theorem cl_153 {K : Nat → Value} {k d : Nat} {l0 : Nat} {w : aW} {I : aI} {J : aJ} {R : aR} (h : f_153 K k d l0 w I J = some R) : Cl K (d + 1) 153 [.ref l0] w I J = some R := Cl_of (ok_153 h)
/-! ProvedMachine$Machine.held()I -/
set_option maxRecDepth 20000 in
theorem gl_154 : gcd.lookup 154 = some gw_154 := rfl
theorem cd_154_0 : sm_cd 154 0 = some (.iconst 0, 1, 0, 0, 0, 0, 0, 0, 0) := cd_of gl_154 rfl
theorem cd_154_1 : sm_cd 154 1 = some (.istore_n 1, 1, 1, 0, 0, 0, 0, 0, 0) := cd_of gl_154 rfl
theorem cd_154_2 : sm_cd 154 2 = some (.iconst 0, 1, 0, 0, 0, 0, 0, 0, 0) := cd_of gl_154 rfl
theorem cd_154_3 : sm_cd 154 3 = some (.istore_n 2, 1, 2, 0, 0, 0, 0, 0, 0) := cd_of gl_154 rfl
theorem cd_154_4 : sm_cd 154 4 = some (.iload_n 2, 1, 2, 0, 0, 0, 0, 0, 0) := cd_of gl_154 rfl
theorem cd_154_5 : sm_cd 154 5 = some (.aload_n 0, 1, 0, 0, 0, 0, 0, 0, 0) := cd_of gl_154 rfl
theorem cd_154_6 : sm_cd 154 6 = some (.getfield 13, 3, 0, 1, 2, 0, 0, 0, 0) := cd_of gl_154 rfl
theorem cd_154_9 : sm_cd 154 9 = some (.iconst 3, 1, 0, 0, 0, 0, 0, 3, 0) := cd_of gl_154 rfl
theorem cd_154_10 : sm_cd 154 10 = some (.iaload, 1, 0, 0, 0, 0, 0, 0, 0) := cd_of gl_154 rfl
theorem cd_154_11 : sm_cd 154 11 = some (.if_icmp .ge 36, 3, 47, 0, 0, 0, 0, 0, 0) := cd_of gl_154 rfl
theorem cd_154_14 : sm_cd 154 14 = some (.aload_n 0, 1, 0, 0, 0, 0, 0, 0, 0) := cd_of gl_154 rfl
theorem cd_154_15 : sm_cd 154 15 = some (.bipush 37, 2, 0, 0, 0, 0, 0, 37, 0) := cd_of gl_154 rfl
theorem cd_154_17 : sm_cd 154 17 = some (.iload_n 2, 1, 2, 0, 0, 0, 0, 0, 0) := cd_of gl_154 rfl
theorem cd_154_18 : sm_cd 154 18 = some (.iadd, 1, 0, 0, 0, 0, 0, 0, 0) := cd_of gl_154 rfl
theorem cd_154_19 : sm_cd 154 19 = some (.invokevirtual 105, 3, 147, 0, 1, 2, 0, 0, 0) := cd_of gl_154 rfl
theorem cd_154_22 : sm_cd 154 22 = some (.iconst 2, 1, 0, 0, 0, 0, 0, 2, 0) := cd_of gl_154 rfl
theorem cd_154_23 : sm_cd 154 23 = some (.if_icmp .lt 18, 3, 41, 0, 0, 0, 0, 0, 0) := cd_of gl_154 rfl
theorem cd_154_26 : sm_cd 154 26 = some (.iload_n 1, 1, 1, 0, 0, 0, 0, 0, 0) := cd_of gl_154 rfl
theorem cd_154_27 : sm_cd 154 27 = some (.aload_n 0, 1, 0, 0, 0, 0, 0, 0, 0) := cd_of gl_154 rfl
theorem cd_154_28 : sm_cd 154 28 = some (.aload_n 0, 1, 0, 0, 0, 0, 0, 0, 0) := cd_of gl_154 rfl
theorem cd_154_29 : sm_cd 154 29 = some (.bipush 7, 2, 0, 0, 0, 0, 0, 7, 0) := cd_of gl_154 rfl
theorem cd_154_31 : sm_cd 154 31 = some (.iload_n 2, 1, 2, 0, 0, 0, 0, 0, 0) := cd_of gl_154 rfl
theorem cd_154_32 : sm_cd 154 32 = some (.iadd, 1, 0, 0, 0, 0, 0, 0, 0) := cd_of gl_154 rfl
theorem cd_154_33 : sm_cd 154 33 = some (.invokevirtual 105, 3, 147, 0, 1, 2, 0, 0, 0) := cd_of gl_154 rfl
theorem cd_154_36 : sm_cd 154 36 = some (.invokevirtual 170, 3, 155, 0, 1, 5, 0, 0, 0) := cd_of gl_154 rfl
theorem cd_154_39 : sm_cd 154 39 = some (.ior, 1, 0, 0, 0, 0, 0, 0, 0) := cd_of gl_154 rfl
theorem cd_154_40 : sm_cd 154 40 = some (.istore_n 1, 1, 1, 0, 0, 0, 0, 0, 0) := cd_of gl_154 rfl
theorem cd_154_41 : sm_cd 154 41 = some (.iinc 2 1, 3, 2, 0, 0, 0, 0, 1, 0) := cd_of gl_154 rfl
theorem cd_154_44 : sm_cd 154 44 = some (.goto (-40), 3, 4, 0, 0, 0, 0, 0, 0) := cd_of gl_154 rfl
theorem cd_154_47 : sm_cd 154 47 = some (.iconst 0, 1, 0, 0, 0, 0, 0, 0, 0) := cd_of gl_154 rfl
theorem cd_154_48 : sm_cd 154 48 = some (.istore_n 2, 1, 2, 0, 0, 0, 0, 0, 0) := cd_of gl_154 rfl
theorem cd_154_49 : sm_cd 154 49 = some (.iload_n 2, 1, 2, 0, 0, 0, 0, 0, 0) := cd_of gl_154 rfl
theorem cd_154_50 : sm_cd 154 50 = some (.aload_n 0, 1, 0, 0, 0, 0, 0, 0, 0) := cd_of gl_154 rfl
theorem cd_154_51 : sm_cd 154 51 = some (.getfield 13, 3, 0, 1, 2, 0, 0, 0, 0) := cd_of gl_154 rfl
theorem cd_154_54 : sm_cd 154 54 = some (.iconst 4, 1, 0, 0, 0, 0, 0, 4, 0) := cd_of gl_154 rfl
theorem cd_154_55 : sm_cd 154 55 = some (.iaload, 1, 0, 0, 0, 0, 0, 0, 0) := cd_of gl_154 rfl
theorem cd_154_56 : sm_cd 154 56 = some (.if_icmp .ge 49, 3, 105, 0, 0, 0, 0, 0, 0) := cd_of gl_154 rfl
theorem cd_154_59 : sm_cd 154 59 = some (.iconst 0, 1, 0, 0, 0, 0, 0, 0, 0) := cd_of gl_154 rfl
theorem cd_154_60 : sm_cd 154 60 = some (.istore_n 3, 1, 3, 0, 0, 0, 0, 0, 0) := cd_of gl_154 rfl
theorem cd_154_61 : sm_cd 154 61 = some (.iload_n 3, 1, 3, 0, 0, 0, 0, 0, 0) := cd_of gl_154 rfl
theorem cd_154_62 : sm_cd 154 62 = some (.aload_n 0, 1, 0, 0, 0, 0, 0, 0, 0) := cd_of gl_154 rfl
theorem cd_154_63 : sm_cd 154 63 = some (.iload_n 2, 1, 2, 0, 0, 0, 0, 0, 0) := cd_of gl_154 rfl
theorem cd_154_64 : sm_cd 154 64 = some (.invokevirtual 173, 3, 156, 0, 1, 2, 0, 0, 0) := cd_of gl_154 rfl
theorem cd_154_67 : sm_cd 154 67 = some (.if_icmp .ge 32, 3, 99, 0, 0, 0, 0, 0, 0) := cd_of gl_154 rfl
theorem cd_154_70 : sm_cd 154 70 = some (.aload_n 0, 1, 0, 0, 0, 0, 0, 0, 0) := cd_of gl_154 rfl
theorem cd_154_71 : sm_cd 154 71 = some (.iload_n 2, 1, 2, 0, 0, 0, 0, 0, 0) := cd_of gl_154 rfl
theorem cd_154_72 : sm_cd 154 72 = some (.iload_n 3, 1, 3, 0, 0, 0, 0, 0, 0) := cd_of gl_154 rfl
theorem cd_154_73 : sm_cd 154 73 = some (.invokevirtual 160, 3, 157, 0, 2, 3, 0, 0, 0) := cd_of gl_154 rfl
theorem cd_154_76 : sm_cd 154 76 = some (.iconst 2, 1, 0, 0, 0, 0, 0, 2, 0) := cd_of gl_154 rfl
theorem cd_154_77 : sm_cd 154 77 = some (.if_icmp .lt 16, 3, 93, 0, 0, 0, 0, 0, 0) := cd_of gl_154 rfl
theorem cd_154_80 : sm_cd 154 80 = some (.iload_n 1, 1, 1, 0, 0, 0, 0, 0, 0) := cd_of gl_154 rfl
theorem cd_154_81 : sm_cd 154 81 = some (.aload_n 0, 1, 0, 0, 0, 0, 0, 0, 0) := cd_of gl_154 rfl
theorem cd_154_82 : sm_cd 154 82 = some (.aload_n 0, 1, 0, 0, 0, 0, 0, 0, 0) := cd_of gl_154 rfl
theorem cd_154_83 : sm_cd 154 83 = some (.iload_n 2, 1, 2, 0, 0, 0, 0, 0, 0) := cd_of gl_154 rfl
theorem cd_154_84 : sm_cd 154 84 = some (.iload_n 3, 1, 3, 0, 0, 0, 0, 0, 0) := cd_of gl_154 rfl
theorem cd_154_85 : sm_cd 154 85 = some (.invokevirtual 157, 3, 158, 0, 2, 3, 0, 0, 0) := cd_of gl_154 rfl
theorem cd_154_88 : sm_cd 154 88 = some (.invokevirtual 170, 3, 155, 0, 1, 5, 0, 0, 0) := cd_of gl_154 rfl
theorem cd_154_91 : sm_cd 154 91 = some (.ior, 1, 0, 0, 0, 0, 0, 0, 0) := cd_of gl_154 rfl
theorem cd_154_92 : sm_cd 154 92 = some (.istore_n 1, 1, 1, 0, 0, 0, 0, 0, 0) := cd_of gl_154 rfl
theorem cd_154_93 : sm_cd 154 93 = some (.iinc 3 1, 3, 3, 0, 0, 0, 0, 1, 0) := cd_of gl_154 rfl
theorem cd_154_96 : sm_cd 154 96 = some (.goto (-35), 3, 61, 0, 0, 0, 0, 0, 0) := cd_of gl_154 rfl
theorem cd_154_99 : sm_cd 154 99 = some (.iinc 2 1, 3, 2, 0, 0, 0, 0, 1, 0) := cd_of gl_154 rfl
theorem cd_154_102 : sm_cd 154 102 = some (.goto (-53), 3, 49, 0, 0, 0, 0, 0, 0) := cd_of gl_154 rfl
theorem cd_154_105 : sm_cd 154 105 = some (.iload_n 1, 1, 1, 0, 0, 0, 0, 0, 0) := cd_of gl_154 rfl
theorem cd_154_106 : sm_cd 154 106 = some (.ireturn, 1, 0, 0, 1, 0, 0, 0, 0) := cd_of gl_154 rfl
noncomputable def f_154_93 (K : Nat → Value) (k d : Nat) (r49 : Nat → Int32 → Int32 → aW → aI → aJ → Option aR) (r61 : Nat → Int32 → Int32 → Int32 → aW → aI → aJ → Option aR) (l0 : Nat) (l1 : Int32) (l2 : Int32) (l3 : Int32) (w : aW) (I : aI) (J : aJ) : Option aR :=
  lt_ (l3 + 1) fun x_1 =>
  r61 l0 l1 l2 x_1 w I J
theorem ok_154_93 {K : Nat → Value} {k d : Nat} {r49 : Nat → Int32 → Int32 → aW → aI → aJ → Option aR} {r61 : Nat → Int32 → Int32 → Int32 → aW → aI → aJ → Option aR} (hr49 : ∀ (l0 : Nat) (l1 : Int32) (l2 : Int32) (w : aW) (I : aI) (J : aJ) (R : aR), r49 l0 l1 l2 w I J = some R → Go K (d + 1) 154 49 [some (.ref l0), some (.int l1), some (.int l2), none] [] w I J R) (hr61 : ∀ (l0 : Nat) (l1 : Int32) (l2 : Int32) (l3 : Int32) (w : aW) (I : aI) (J : aJ) (R : aR), r61 l0 l1 l2 l3 w I J = some R → Go K (d + 1) 154 61 [some (.ref l0), some (.int l1), some (.int l2), some (.int l3)] [] w I J R) {l0 : Nat} {l1 : Int32} {l2 : Int32} {l3 : Int32} {w : aW} {I : aI} {J : aJ} {R : aR} (h : f_154_93 K k d r49 r61 l0 l1 l2 l3 w I J = some R) : Go K (d + 1) 154 93 [some (.ref l0), some (.int l1), some (.int l2), some (.int l3)] [] w I J R := by
  unfold f_154_93 at h
  refine gs_0 (pc' := 96) (L' := [some (.ref l0), some (.int l1), some (.int l2), some (.int (l3 + 1))]) (st' := []) cd_154_93 rfl rfl ?_
  obtain ⟨x_1, hx, h⟩ := lt_s_ h
  rw [hx]
  clear hx
  refine gs_0 (pc' := 61) (L' := [some (.ref l0), some (.int l1), some (.int l2), some (.int x_1)]) (st' := []) cd_154_96 rfl rfl ?_
  exact hr61 l0 l1 l2 x_1 _ _ _ _ h
noncomputable def f_154_61 (K : Nat → Value) (k : Nat) (d : Nat) (r49 : Nat → Int32 → Int32 → aW → aI → aJ → Option aR) : Nat → Int32 → Int32 → Int32 → aW → aI → aJ → Option aR :=
  match k with
  | 0 => fun _ _ _ _ _ _ _ => none
  | k + 1 => fun l0 l1 l2 l3 w I J =>
  lt_ (f_154_61 K k d r49) fun r61 =>
  gO w 0 l0 (
  cI (Cl K d 156 [.ref l0, .int l2] w I J) fun x_4 w_1 I_2 J_3 =>
  if x_4 ≤ l3 then
    lt_ (l2 + 1) fun x_5 =>
    r49 l0 l1 x_5 w_1 I_2 J_3
  else
    gO w_1 0 l0 (
    cI (Cl K d 157 [.ref l0, .int l2, .int l3] w_1 I_2 J_3) fun x_9 w_6 I_7 J_8 =>
    if x_9 < 2 then
      f_154_93 K k d r49 r61 l0 l1 l2 l3 w_6 I_7 J_8
    else
      gO w_6 0 l0 (
      cI (Cl K d 158 [.ref l0, .int l2, .int l3] w_6 I_7 J_8) fun x_13 w_10 I_11 J_12 =>
      gO w_10 0 l0 (
      cI (Cl K d 155 [.ref l0, .int x_13] w_10 I_11 J_12) fun x_17 w_14 I_15 J_16 =>
      lt_ (l1 ||| x_17) fun x_18 =>
      f_154_93 K k d r49 r61 l0 x_18 l2 l3 w_14 I_15 J_16))))
theorem ok_154_61 {K : Nat → Value} {d : Nat} {r49 : Nat → Int32 → Int32 → aW → aI → aJ → Option aR} (hr49 : ∀ (l0 : Nat) (l1 : Int32) (l2 : Int32) (w : aW) (I : aI) (J : aJ) (R : aR), r49 l0 l1 l2 w I J = some R → Go K (d + 1) 154 49 [some (.ref l0), some (.int l1), some (.int l2), none] [] w I J R) : ∀ {k : Nat} {l0 : Nat} {l1 : Int32} {l2 : Int32} {l3 : Int32} {w : aW} {I : aI} {J : aJ} {R : aR}, f_154_61 K k d r49 l0 l1 l2 l3 w I J = some R → Go K (d + 1) 154 61 [some (.ref l0), some (.int l1), some (.int l2), some (.int l3)] [] w I J R := by
  intro k
  induction k with
  | zero => intro l0 l1 l2 l3 w I J R h; cases h
  | succ k ih =>
    intro l0 l1 l2 l3 w I J R h
    have hr61 : ∀ (l0 : Nat) (l1 : Int32) (l2 : Int32) (l3 : Int32) (w : aW) (I : aI) (J : aJ) (R : aR), f_154_61 K k d r49 l0 l1 l2 l3 w I J = some R → Go K (d + 1) 154 61 [some (.ref l0), some (.int l1), some (.int l2), some (.int l3)] [] w I J R := fun l0 l1 l2 l3 w I J R h => ih h
    rw [f_154_61] at h
    obtain ⟨r61, hx, h⟩ := lt_s_ h
    rw [hx] at hr61
    clear hx ih
    refine gs_0 (pc' := 62) (L' := [some (.ref l0), some (.int l1), some (.int l2), some (.int l3)]) (st' := [.int l3]) cd_154_61 rfl rfl ?_
    refine gs_0 (pc' := 63) (L' := [some (.ref l0), some (.int l1), some (.int l2), some (.int l3)]) (st' := [.ref l0, .int l3]) cd_154_62 rfl rfl ?_
    refine gs_0 (pc' := 64) (L' := [some (.ref l0), some (.int l1), some (.int l2), some (.int l3)]) (st' := [.int l2, .ref l0, .int l3]) cd_154_63 rfl rfl ?_
    obtain ⟨ht, h⟩ := gO_s h
    obtain ⟨x_4, w_1, I_2, J_3, hcl, h⟩ := cI_s h
    refine gs_call (as := [.ref l0, .int l2]) (rest := [.int l3]) cd_154_64 rfl (by decide) rfl (sm_rv_ok (by decide) ht) (Nat.le_of_ble_eq_true rfl) (Nat.le_of_ble_eq_true rfl) rfl hcl ?_
    refine gs_0 (pc' := if x_4 ≤ l3 then 99 else 70) (L' := [some (.ref l0), some (.int l1), some (.int l2), some (.int l3)]) (st' := []) cd_154_67 rfl rfl ?_
    refine go_ite (fun hc => ?_) (fun hc => ?_)
    · rw [if_pos hc] at h
      refine gs_0 (pc' := 102) (L' := [some (.ref l0), some (.int l1), some (.int (l2 + 1)), some (.int l3)]) (st' := []) cd_154_99 rfl rfl ?_
      obtain ⟨x_5, hx, h⟩ := lt_s_ h
      rw [hx]
      clear hx
      refine gs_0 (pc' := 49) (L' := [some (.ref l0), some (.int l1), some (.int x_5), some (.int l3)]) (st' := []) cd_154_102 rfl rfl ?_
      refine go_drop [some (.ref l0), some (.int l1), some (.int x_5), none] ⟨rfl, ⟨rfl, ⟨rfl, ⟨rfl, trivial⟩⟩⟩⟩ ?_
      exact hr49 l0 l1 x_5 _ _ _ _ h
    · rw [if_neg hc] at h
      refine gs_0 (pc' := 71) (L' := [some (.ref l0), some (.int l1), some (.int l2), some (.int l3)]) (st' := [.ref l0]) cd_154_70 rfl rfl ?_
      refine gs_0 (pc' := 72) (L' := [some (.ref l0), some (.int l1), some (.int l2), some (.int l3)]) (st' := [.int l2, .ref l0]) cd_154_71 rfl rfl ?_
      refine gs_0 (pc' := 73) (L' := [some (.ref l0), some (.int l1), some (.int l2), some (.int l3)]) (st' := [.int l3, .int l2, .ref l0]) cd_154_72 rfl rfl ?_
      obtain ⟨ht, h⟩ := gO_s h
      obtain ⟨x_9, w_6, I_7, J_8, hcl, h⟩ := cI_s h
      refine gs_call (as := [.ref l0, .int l2, .int l3]) (rest := []) cd_154_73 rfl (by decide) rfl (sm_rv_ok (by decide) ht) (Nat.le_of_ble_eq_true rfl) (Nat.le_of_ble_eq_true rfl) rfl hcl ?_
      refine gs_0 (pc' := 77) (L' := [some (.ref l0), some (.int l1), some (.int l2), some (.int l3)]) (st' := [.int 2, .int x_9]) cd_154_76 rfl rfl ?_
      refine gs_0 (pc' := if x_9 < 2 then 93 else 80) (L' := [some (.ref l0), some (.int l1), some (.int l2), some (.int l3)]) (st' := []) cd_154_77 rfl rfl ?_
      refine go_ite (fun hc => ?_) (fun hc => ?_)
      · rw [if_pos hc] at h
        exact ok_154_93 hr49 hr61 h
      · rw [if_neg hc] at h
        refine gs_0 (pc' := 81) (L' := [some (.ref l0), some (.int l1), some (.int l2), some (.int l3)]) (st' := [.int l1]) cd_154_80 rfl rfl ?_
        refine gs_0 (pc' := 82) (L' := [some (.ref l0), some (.int l1), some (.int l2), some (.int l3)]) (st' := [.ref l0, .int l1]) cd_154_81 rfl rfl ?_
        refine gs_0 (pc' := 83) (L' := [some (.ref l0), some (.int l1), some (.int l2), some (.int l3)]) (st' := [.ref l0, .ref l0, .int l1]) cd_154_82 rfl rfl ?_
        refine gs_0 (pc' := 84) (L' := [some (.ref l0), some (.int l1), some (.int l2), some (.int l3)]) (st' := [.int l2, .ref l0, .ref l0, .int l1]) cd_154_83 rfl rfl ?_
        refine gs_0 (pc' := 85) (L' := [some (.ref l0), some (.int l1), some (.int l2), some (.int l3)]) (st' := [.int l3, .int l2, .ref l0, .ref l0, .int l1]) cd_154_84 rfl rfl ?_
        obtain ⟨ht, h⟩ := gO_s h
        obtain ⟨x_13, w_10, I_11, J_12, hcl, h⟩ := cI_s h
        refine gs_call (as := [.ref l0, .int l2, .int l3]) (rest := [.ref l0, .int l1]) cd_154_85 rfl (by decide) rfl (sm_rv_ok (by decide) ht) (Nat.le_of_ble_eq_true rfl) (Nat.le_of_ble_eq_true rfl) rfl hcl ?_
        obtain ⟨ht, h⟩ := gO_s h
        obtain ⟨x_17, w_14, I_15, J_16, hcl, h⟩ := cI_s h
        refine gs_call (as := [.ref l0, .int x_13]) (rest := [.int l1]) cd_154_88 rfl (by decide) rfl (sm_rv_ok (by decide) ht) (Nat.le_of_ble_eq_true rfl) (Nat.le_of_ble_eq_true rfl) rfl hcl ?_
        refine gs_0 (pc' := 92) (L' := [some (.ref l0), some (.int l1), some (.int l2), some (.int l3)]) (st' := [.int (l1 ||| x_17)]) cd_154_91 rfl rfl ?_
        refine gs_0 (pc' := 93) (L' := [some (.ref l0), some (.int (l1 ||| x_17)), some (.int l2), some (.int l3)]) (st' := []) cd_154_92 rfl rfl ?_
        obtain ⟨x_18, hx, h⟩ := lt_s_ h
        rw [hx]
        clear hx
        exact ok_154_93 hr49 hr61 h
noncomputable def f_154_49 (K : Nat → Value) (k : Nat) (d : Nat) : Nat → Int32 → Int32 → aW → aI → aJ → Option aR :=
  match k with
  | 0 => fun _ _ _ _ _ _ => none
  | k + 1 => fun l0 l1 l2 w I J =>
  lt_ (f_154_49 K k d) fun r49 =>
  gO w 0 l0 (
  gV w l0 1 fun q_1 =>
  gA w 10 20 q_1 4 (
  if (I q_1 (4 : Int32).toNatClampNeg) ≤ l2 then
    some (some (.int l1), w, I, J)
  else
    f_154_61 K k d r49 l0 l1 l2 0 w I J))
theorem ok_154_49 {K : Nat → Value} {d : Nat} : ∀ {k : Nat} {l0 : Nat} {l1 : Int32} {l2 : Int32} {w : aW} {I : aI} {J : aJ} {R : aR}, f_154_49 K k d l0 l1 l2 w I J = some R → Go K (d + 1) 154 49 [some (.ref l0), some (.int l1), some (.int l2), none] [] w I J R := by
  intro k
  induction k with
  | zero => intro l0 l1 l2 w I J R h; cases h
  | succ k ih =>
    intro l0 l1 l2 w I J R h
    have hr49 : ∀ (l0 : Nat) (l1 : Int32) (l2 : Int32) (w : aW) (I : aI) (J : aJ) (R : aR), f_154_49 K k d l0 l1 l2 w I J = some R → Go K (d + 1) 154 49 [some (.ref l0), some (.int l1), some (.int l2), none] [] w I J R := fun l0 l1 l2 w I J R h => ih h
    rw [f_154_49] at h
    obtain ⟨r49, hx, h⟩ := lt_s_ h
    rw [hx] at hr49
    clear hx ih
    refine gs_0 (pc' := 50) (L' := [some (.ref l0), some (.int l1), some (.int l2), none]) (st' := [.int l2]) cd_154_49 rfl rfl ?_
    refine gs_0 (pc' := 51) (L' := [some (.ref l0), some (.int l1), some (.int l2), none]) (st' := [.ref l0, .int l2]) cd_154_50 rfl rfl ?_
    obtain ⟨ht, h⟩ := gO_s h
    obtain ⟨q_1, hv, h⟩ := gV_s h
    refine gs_gfR cd_154_51 (by decide) ht hv ?_
    refine gs_0 (pc' := 55) (L' := [some (.ref l0), some (.int l1), some (.int l2), none]) (st' := [.int 4, .ref q_1, .int l2]) cd_154_54 rfl rfl ?_
    obtain ⟨ht, h⟩ := gA_s h
    refine gs_iald cd_154_55 ht ?_
    refine gs_0 (pc' := if (I q_1 (4 : Int32).toNatClampNeg) ≤ l2 then 105 else 59) (L' := [some (.ref l0), some (.int l1), some (.int l2), none]) (st' := []) cd_154_56 rfl rfl ?_
    refine go_ite (fun hc => ?_) (fun hc => ?_)
    · rw [if_pos hc] at h
      refine gs_0 (pc' := 106) (L' := [some (.ref l0), some (.int l1), some (.int l2), none]) (st' := [.int l1]) cd_154_105 rfl rfl ?_
      cases h
      exact gs_ri cd_154_106 (Or.inl rfl)
    · rw [if_neg hc] at h
      refine gs_0 (pc' := 60) (L' := [some (.ref l0), some (.int l1), some (.int l2), none]) (st' := [.int 0]) cd_154_59 rfl rfl ?_
      refine gs_0 (pc' := 61) (L' := [some (.ref l0), some (.int l1), some (.int l2), some (.int 0)]) (st' := []) cd_154_60 rfl rfl ?_
      exact ok_154_61 hr49 h
noncomputable def f_154_41 (K : Nat → Value) (k d : Nat) (r4 : Nat → Int32 → Int32 → aW → aI → aJ → Option aR) (l0 : Nat) (l1 : Int32) (l2 : Int32) (w : aW) (I : aI) (J : aJ) : Option aR :=
  lt_ (l2 + 1) fun x_1 =>
  r4 l0 l1 x_1 w I J
theorem ok_154_41 {K : Nat → Value} {k d : Nat} {r4 : Nat → Int32 → Int32 → aW → aI → aJ → Option aR} (hr4 : ∀ (l0 : Nat) (l1 : Int32) (l2 : Int32) (w : aW) (I : aI) (J : aJ) (R : aR), r4 l0 l1 l2 w I J = some R → Go K (d + 1) 154 4 [some (.ref l0), some (.int l1), some (.int l2), none] [] w I J R) {l0 : Nat} {l1 : Int32} {l2 : Int32} {w : aW} {I : aI} {J : aJ} {R : aR} (h : f_154_41 K k d r4 l0 l1 l2 w I J = some R) : Go K (d + 1) 154 41 [some (.ref l0), some (.int l1), some (.int l2), none] [] w I J R := by
  unfold f_154_41 at h
  refine gs_0 (pc' := 44) (L' := [some (.ref l0), some (.int l1), some (.int (l2 + 1)), none]) (st' := []) cd_154_41 rfl rfl ?_
  obtain ⟨x_1, hx, h⟩ := lt_s_ h
  rw [hx]
  clear hx
  refine gs_0 (pc' := 4) (L' := [some (.ref l0), some (.int l1), some (.int x_1), none]) (st' := []) cd_154_44 rfl rfl ?_
  exact hr4 l0 l1 x_1 _ _ _ _ h
noncomputable def f_154_4 (K : Nat → Value) (k : Nat) (d : Nat) : Nat → Int32 → Int32 → aW → aI → aJ → Option aR :=
  match k with
  | 0 => fun _ _ _ _ _ _ => none
  | k + 1 => fun l0 l1 l2 w I J =>
  lt_ (f_154_4 K k d) fun r4 =>
  gO w 0 l0 (
  gV w l0 1 fun q_1 =>
  gA w 10 20 q_1 3 (
  if (I q_1 (3 : Int32).toNatClampNeg) ≤ l2 then
    f_154_49 K k d l0 l1 0 w I J
  else
    gO w 0 l0 (
    cI (Cl K d 147 [.ref l0, .int (37 + l2)] w I J) fun x_5 w_2 I_3 J_4 =>
    if x_5 < 2 then
      f_154_41 K k d r4 l0 l1 l2 w_2 I_3 J_4
    else
      gO w_2 0 l0 (
      cI (Cl K d 147 [.ref l0, .int (7 + l2)] w_2 I_3 J_4) fun x_9 w_6 I_7 J_8 =>
      gO w_6 0 l0 (
      cI (Cl K d 155 [.ref l0, .int x_9] w_6 I_7 J_8) fun x_13 w_10 I_11 J_12 =>
      lt_ (l1 ||| x_13) fun x_14 =>
      f_154_41 K k d r4 l0 x_14 l2 w_10 I_11 J_12)))))
theorem ok_154_4 {K : Nat → Value} {d : Nat} : ∀ {k : Nat} {l0 : Nat} {l1 : Int32} {l2 : Int32} {w : aW} {I : aI} {J : aJ} {R : aR}, f_154_4 K k d l0 l1 l2 w I J = some R → Go K (d + 1) 154 4 [some (.ref l0), some (.int l1), some (.int l2), none] [] w I J R := by
  intro k
  induction k with
  | zero => intro l0 l1 l2 w I J R h; cases h
  | succ k ih =>
    intro l0 l1 l2 w I J R h
    have hr4 : ∀ (l0 : Nat) (l1 : Int32) (l2 : Int32) (w : aW) (I : aI) (J : aJ) (R : aR), f_154_4 K k d l0 l1 l2 w I J = some R → Go K (d + 1) 154 4 [some (.ref l0), some (.int l1), some (.int l2), none] [] w I J R := fun l0 l1 l2 w I J R h => ih h
    rw [f_154_4] at h
    obtain ⟨r4, hx, h⟩ := lt_s_ h
    rw [hx] at hr4
    clear hx ih
    refine gs_0 (pc' := 5) (L' := [some (.ref l0), some (.int l1), some (.int l2), none]) (st' := [.int l2]) cd_154_4 rfl rfl ?_
    refine gs_0 (pc' := 6) (L' := [some (.ref l0), some (.int l1), some (.int l2), none]) (st' := [.ref l0, .int l2]) cd_154_5 rfl rfl ?_
    obtain ⟨ht, h⟩ := gO_s h
    obtain ⟨q_1, hv, h⟩ := gV_s h
    refine gs_gfR cd_154_6 (by decide) ht hv ?_
    refine gs_0 (pc' := 10) (L' := [some (.ref l0), some (.int l1), some (.int l2), none]) (st' := [.int 3, .ref q_1, .int l2]) cd_154_9 rfl rfl ?_
    obtain ⟨ht, h⟩ := gA_s h
    refine gs_iald cd_154_10 ht ?_
    refine gs_0 (pc' := if (I q_1 (3 : Int32).toNatClampNeg) ≤ l2 then 47 else 14) (L' := [some (.ref l0), some (.int l1), some (.int l2), none]) (st' := []) cd_154_11 rfl rfl ?_
    refine go_ite (fun hc => ?_) (fun hc => ?_)
    · rw [if_pos hc] at h
      refine gs_0 (pc' := 48) (L' := [some (.ref l0), some (.int l1), some (.int l2), none]) (st' := [.int 0]) cd_154_47 rfl rfl ?_
      refine gs_0 (pc' := 49) (L' := [some (.ref l0), some (.int l1), some (.int 0), none]) (st' := []) cd_154_48 rfl rfl ?_
      exact ok_154_49 h
    · rw [if_neg hc] at h
      refine gs_0 (pc' := 15) (L' := [some (.ref l0), some (.int l1), some (.int l2), none]) (st' := [.ref l0]) cd_154_14 rfl rfl ?_
      refine gs_0 (pc' := 17) (L' := [some (.ref l0), some (.int l1), some (.int l2), none]) (st' := [.int 37, .ref l0]) cd_154_15 rfl rfl ?_
      refine gs_0 (pc' := 18) (L' := [some (.ref l0), some (.int l1), some (.int l2), none]) (st' := [.int l2, .int 37, .ref l0]) cd_154_17 rfl rfl ?_
      refine gs_0 (pc' := 19) (L' := [some (.ref l0), some (.int l1), some (.int l2), none]) (st' := [.int (37 + l2), .ref l0]) cd_154_18 rfl rfl ?_
      obtain ⟨ht, h⟩ := gO_s h
      obtain ⟨x_5, w_2, I_3, J_4, hcl, h⟩ := cI_s h
      refine gs_call (as := [.ref l0, .int (37 + l2)]) (rest := []) cd_154_19 rfl (by decide) rfl (sm_rv_ok (by decide) ht) (Nat.le_of_ble_eq_true rfl) (Nat.le_of_ble_eq_true rfl) rfl hcl ?_
      refine gs_0 (pc' := 23) (L' := [some (.ref l0), some (.int l1), some (.int l2), none]) (st' := [.int 2, .int x_5]) cd_154_22 rfl rfl ?_
      refine gs_0 (pc' := if x_5 < 2 then 41 else 26) (L' := [some (.ref l0), some (.int l1), some (.int l2), none]) (st' := []) cd_154_23 rfl rfl ?_
      refine go_ite (fun hc => ?_) (fun hc => ?_)
      · rw [if_pos hc] at h
        exact ok_154_41 hr4 h
      · rw [if_neg hc] at h
        refine gs_0 (pc' := 27) (L' := [some (.ref l0), some (.int l1), some (.int l2), none]) (st' := [.int l1]) cd_154_26 rfl rfl ?_
        refine gs_0 (pc' := 28) (L' := [some (.ref l0), some (.int l1), some (.int l2), none]) (st' := [.ref l0, .int l1]) cd_154_27 rfl rfl ?_
        refine gs_0 (pc' := 29) (L' := [some (.ref l0), some (.int l1), some (.int l2), none]) (st' := [.ref l0, .ref l0, .int l1]) cd_154_28 rfl rfl ?_
        refine gs_0 (pc' := 31) (L' := [some (.ref l0), some (.int l1), some (.int l2), none]) (st' := [.int 7, .ref l0, .ref l0, .int l1]) cd_154_29 rfl rfl ?_
        refine gs_0 (pc' := 32) (L' := [some (.ref l0), some (.int l1), some (.int l2), none]) (st' := [.int l2, .int 7, .ref l0, .ref l0, .int l1]) cd_154_31 rfl rfl ?_
        refine gs_0 (pc' := 33) (L' := [some (.ref l0), some (.int l1), some (.int l2), none]) (st' := [.int (7 + l2), .ref l0, .ref l0, .int l1]) cd_154_32 rfl rfl ?_
        obtain ⟨ht, h⟩ := gO_s h
        obtain ⟨x_9, w_6, I_7, J_8, hcl, h⟩ := cI_s h
        refine gs_call (as := [.ref l0, .int (7 + l2)]) (rest := [.ref l0, .int l1]) cd_154_33 rfl (by decide) rfl (sm_rv_ok (by decide) ht) (Nat.le_of_ble_eq_true rfl) (Nat.le_of_ble_eq_true rfl) rfl hcl ?_
        obtain ⟨ht, h⟩ := gO_s h
        obtain ⟨x_13, w_10, I_11, J_12, hcl, h⟩ := cI_s h
        refine gs_call (as := [.ref l0, .int x_9]) (rest := [.int l1]) cd_154_36 rfl (by decide) rfl (sm_rv_ok (by decide) ht) (Nat.le_of_ble_eq_true rfl) (Nat.le_of_ble_eq_true rfl) rfl hcl ?_
        refine gs_0 (pc' := 40) (L' := [some (.ref l0), some (.int l1), some (.int l2), none]) (st' := [.int (l1 ||| x_13)]) cd_154_39 rfl rfl ?_
        refine gs_0 (pc' := 41) (L' := [some (.ref l0), some (.int (l1 ||| x_13)), some (.int l2), none]) (st' := []) cd_154_40 rfl rfl ?_
        obtain ⟨x_14, hx, h⟩ := lt_s_ h
        rw [hx]
        clear hx
        exact ok_154_41 hr4 h
noncomputable def f_154 (K : Nat → Value) (k d : Nat) (l0 : Nat) (w : aW) (I : aI) (J : aJ) : Option aR :=
  f_154_4 K k d l0 0 0 w I J
theorem ok_154 {K : Nat → Value} {k d : Nat} {l0 : Nat} {w : aW} {I : aI} {J : aJ} {R : aR} (h : f_154 K k d l0 w I J = some R) : Go K (d + 1) 154 0 [some (.ref l0), none, none, none] [] w I J R := by
  unfold f_154 at h
  refine gs_0 (pc' := 1) (L' := [some (.ref l0), none, none, none]) (st' := [.int 0]) cd_154_0 rfl rfl ?_
  refine gs_0 (pc' := 2) (L' := [some (.ref l0), some (.int 0), none, none]) (st' := []) cd_154_1 rfl rfl ?_
  refine gs_0 (pc' := 3) (L' := [some (.ref l0), some (.int 0), none, none]) (st' := [.int 0]) cd_154_2 rfl rfl ?_
  refine gs_0 (pc' := 4) (L' := [some (.ref l0), some (.int 0), some (.int 0), none]) (st' := []) cd_154_3 rfl rfl ?_
  exact ok_154_4 h
theorem cl_154 {K : Nat → Value} {k d : Nat} {l0 : Nat} {w : aW} {I : aI} {J : aJ} {R : aR} (h : f_154 K k d l0 w I J = some R) : Cl K (d + 1) 154 [.ref l0] w I J = some R := Cl_of (ok_154 h)
/-! ProvedMachine$Machine.chain(I)I -/
set_option maxRecDepth 20000 in
theorem gl_155 : gcd.lookup 155 = some gw_155 := rfl
theorem cd_155_0 : sm_cd 155 0 = some (.iconst 0, 1, 0, 0, 0, 0, 0, 0, 0) := cd_of gl_155 rfl
theorem cd_155_1 : sm_cd 155 1 = some (.istore_n 2, 1, 2, 0, 0, 0, 0, 0, 0) := cd_of gl_155 rfl
theorem cd_155_2 : sm_cd 155 2 = some (.iload_n 1, 1, 1, 0, 0, 0, 0, 0, 0) := cd_of gl_155 rfl
theorem cd_155_3 : sm_cd 155 3 = some (.istore_n 3, 1, 3, 0, 0, 0, 0, 0, 0) := cd_of gl_155 rfl
theorem cd_155_4 : sm_cd 155 4 = some (.iconst 0, 1, 0, 0, 0, 0, 0, 0, 0) := cd_of gl_155 rfl
theorem cd_155_5 : sm_cd 155 5 = some (.istore 4, 2, 4, 0, 0, 0, 0, 0, 0) := cd_of gl_155 rfl
theorem cd_155_7 : sm_cd 155 7 = some (.iload 4, 2, 4, 0, 0, 0, 0, 0, 0) := cd_of gl_155 rfl
theorem cd_155_9 : sm_cd 155 9 = some (.bipush 16, 2, 0, 0, 0, 0, 0, 16, 0) := cd_of gl_155 rfl
theorem cd_155_11 : sm_cd 155 11 = some (.if_icmp .ge 55, 3, 66, 0, 0, 0, 0, 0, 0) := cd_of gl_155 rfl
theorem cd_155_14 : sm_cd 155 14 = some (.iload_n 3, 1, 3, 0, 0, 0, 0, 0, 0) := cd_of gl_155 rfl
theorem cd_155_15 : sm_cd 155 15 = some (.iconst 1, 1, 0, 0, 0, 0, 0, 1, 0) := cd_of gl_155 rfl
theorem cd_155_16 : sm_cd 155 16 = some (.if_icmp .lt 50, 3, 66, 0, 0, 0, 0, 0, 0) := cd_of gl_155 rfl
theorem cd_155_19 : sm_cd 155 19 = some (.iload_n 3, 1, 3, 0, 0, 0, 0, 0, 0) := cd_of gl_155 rfl
theorem cd_155_20 : sm_cd 155 20 = some (.bipush 16, 2, 0, 0, 0, 0, 0, 16, 0) := cd_of gl_155 rfl
theorem cd_155_22 : sm_cd 155 22 = some (.if_icmp .gt 44, 3, 66, 0, 0, 0, 0, 0, 0) := cd_of gl_155 rfl
theorem cd_155_25 : sm_cd 155 25 = some (.iload_n 2, 1, 2, 0, 0, 0, 0, 0, 0) := cd_of gl_155 rfl
theorem cd_155_26 : sm_cd 155 26 = some (.iconst 1, 1, 0, 0, 0, 0, 0, 1, 0) := cd_of gl_155 rfl
theorem cd_155_27 : sm_cd 155 27 = some (.iload_n 3, 1, 3, 0, 0, 0, 0, 0, 0) := cd_of gl_155 rfl
theorem cd_155_28 : sm_cd 155 28 = some (.ishl, 1, 0, 0, 0, 0, 0, 0, 0) := cd_of gl_155 rfl
theorem cd_155_29 : sm_cd 155 29 = some (.ior, 1, 0, 0, 0, 0, 0, 0, 0) := cd_of gl_155 rfl
theorem cd_155_30 : sm_cd 155 30 = some (.istore_n 2, 1, 2, 0, 0, 0, 0, 0, 0) := cd_of gl_155 rfl
theorem cd_155_31 : sm_cd 155 31 = some (.aload_n 0, 1, 0, 0, 0, 0, 0, 0, 0) := cd_of gl_155 rfl
theorem cd_155_32 : sm_cd 155 32 = some (.getfield 13, 3, 0, 1, 2, 0, 0, 0, 0) := cd_of gl_155 rfl
theorem cd_155_35 : sm_cd 155 35 = some (.iload_n 3, 1, 3, 0, 0, 0, 0, 0, 0) := cd_of gl_155 rfl
theorem cd_155_36 : sm_cd 155 36 = some (.invokestatic 111, 3, 152, 1, 1, 1, 0, 0, 0) := cd_of gl_155 rfl
theorem cd_155_39 : sm_cd 155 39 = some (.iaload, 1, 0, 0, 0, 0, 0, 0, 0) := cd_of gl_155 rfl
theorem cd_155_40 : sm_cd 155 40 = some (.iconst 2, 1, 0, 0, 0, 0, 0, 2, 0) := cd_of gl_155 rfl
theorem cd_155_41 : sm_cd 155 41 = some (.if_icmp .ne 17, 3, 58, 0, 0, 0, 0, 0, 0) := cd_of gl_155 rfl
theorem cd_155_44 : sm_cd 155 44 = some (.aload_n 0, 1, 0, 0, 0, 0, 0, 0, 0) := cd_of gl_155 rfl
theorem cd_155_45 : sm_cd 155 45 = some (.getfield 13, 3, 0, 1, 2, 0, 0, 0, 0) := cd_of gl_155 rfl
theorem cd_155_48 : sm_cd 155 48 = some (.iload_n 3, 1, 3, 0, 0, 0, 0, 0, 0) := cd_of gl_155 rfl
theorem cd_155_49 : sm_cd 155 49 = some (.invokestatic 111, 3, 152, 1, 1, 1, 0, 0, 0) := cd_of gl_155 rfl
theorem cd_155_52 : sm_cd 155 52 = some (.iconst 2, 1, 0, 0, 0, 0, 0, 2, 0) := cd_of gl_155 rfl
theorem cd_155_53 : sm_cd 155 53 = some (.iadd, 1, 0, 0, 0, 0, 0, 0, 0) := cd_of gl_155 rfl
theorem cd_155_54 : sm_cd 155 54 = some (.iaload, 1, 0, 0, 0, 0, 0, 0, 0) := cd_of gl_155 rfl
theorem cd_155_55 : sm_cd 155 55 = some (.goto 4, 3, 59, 0, 0, 0, 0, 0, 0) := cd_of gl_155 rfl
theorem cd_155_58 : sm_cd 155 58 = some (.iconst 0, 1, 0, 0, 0, 0, 0, 0, 0) := cd_of gl_155 rfl
theorem cd_155_59 : sm_cd 155 59 = some (.istore_n 3, 1, 3, 0, 0, 0, 0, 0, 0) := cd_of gl_155 rfl
theorem cd_155_60 : sm_cd 155 60 = some (.iinc 4 1, 3, 4, 0, 0, 0, 0, 1, 0) := cd_of gl_155 rfl
theorem cd_155_63 : sm_cd 155 63 = some (.goto (-56), 3, 7, 0, 0, 0, 0, 0, 0) := cd_of gl_155 rfl
theorem cd_155_66 : sm_cd 155 66 = some (.iload_n 2, 1, 2, 0, 0, 0, 0, 0, 0) := cd_of gl_155 rfl
theorem cd_155_67 : sm_cd 155 67 = some (.ireturn, 1, 0, 0, 1, 0, 0, 0, 0) := cd_of gl_155 rfl
noncomputable def f_155_66 (K : Nat → Value) (k d : Nat) (l0 : Nat) (l1 : Int32) (l2 : Int32) (l3 : Int32) (l4 : Int32) (w : aW) (I : aI) (J : aJ) : Option aR :=
  some (some (.int l2), w, I, J)
theorem ok_155_66 {K : Nat → Value} {k d : Nat} {l0 : Nat} {l1 : Int32} {l2 : Int32} {l3 : Int32} {l4 : Int32} {w : aW} {I : aI} {J : aJ} {R : aR} (h : f_155_66 K k d l0 l1 l2 l3 l4 w I J = some R) : Go K (d + 1) 155 66 [some (.ref l0), some (.int l1), some (.int l2), some (.int l3), some (.int l4)] [] w I J R := by
  unfold f_155_66 at h
  refine gs_0 (pc' := 67) (L' := [some (.ref l0), some (.int l1), some (.int l2), some (.int l3), some (.int l4)]) (st' := [.int l2]) cd_155_66 rfl rfl ?_
  cases h
  exact gs_ri cd_155_67 (Or.inl rfl)
noncomputable def f_155_59 (K : Nat → Value) (k d : Nat) (r7 : Nat → Int32 → Int32 → Int32 → Int32 → aW → aI → aJ → Option aR) (l0 : Nat) (l1 : Int32) (l2 : Int32) (l3 : Int32) (l4 : Int32) (s0 : Int32) (w : aW) (I : aI) (J : aJ) : Option aR :=
  lt_ (l4 + 1) fun x_1 =>
  r7 l0 l1 l2 s0 x_1 w I J
theorem ok_155_59 {K : Nat → Value} {k d : Nat} {r7 : Nat → Int32 → Int32 → Int32 → Int32 → aW → aI → aJ → Option aR} (hr7 : ∀ (l0 : Nat) (l1 : Int32) (l2 : Int32) (l3 : Int32) (l4 : Int32) (w : aW) (I : aI) (J : aJ) (R : aR), r7 l0 l1 l2 l3 l4 w I J = some R → Go K (d + 1) 155 7 [some (.ref l0), some (.int l1), some (.int l2), some (.int l3), some (.int l4)] [] w I J R) {l0 : Nat} {l1 : Int32} {l2 : Int32} {l3 : Int32} {l4 : Int32} {s0 : Int32} {w : aW} {I : aI} {J : aJ} {R : aR} (h : f_155_59 K k d r7 l0 l1 l2 l3 l4 s0 w I J = some R) : Go K (d + 1) 155 59 [some (.ref l0), some (.int l1), some (.int l2), some (.int l3), some (.int l4)] [.int s0] w I J R := by
  unfold f_155_59 at h
  refine gs_0 (pc' := 60) (L' := [some (.ref l0), some (.int l1), some (.int l2), some (.int s0), some (.int l4)]) (st' := []) cd_155_59 rfl rfl ?_
  refine gs_0 (pc' := 63) (L' := [some (.ref l0), some (.int l1), some (.int l2), some (.int s0), some (.int (l4 + 1))]) (st' := []) cd_155_60 rfl rfl ?_
  obtain ⟨x_1, hx, h⟩ := lt_s_ h
  rw [hx]
  clear hx
  refine gs_0 (pc' := 7) (L' := [some (.ref l0), some (.int l1), some (.int l2), some (.int s0), some (.int x_1)]) (st' := []) cd_155_63 rfl rfl ?_
  exact hr7 l0 l1 l2 s0 x_1 _ _ _ _ h
noncomputable def f_155_7 (K : Nat → Value) (k : Nat) (d : Nat) : Nat → Int32 → Int32 → Int32 → Int32 → aW → aI → aJ → Option aR :=
  match k with
  | 0 => fun _ _ _ _ _ _ _ _ => none
  | k + 1 => fun l0 l1 l2 l3 l4 w I J =>
  lt_ (f_155_7 K k d) fun r7 =>
  if 16 ≤ l4 then
    f_155_66 K k d l0 l1 l2 l3 l4 w I J
  else
    if l3 < 1 then
      f_155_66 K k d l0 l1 l2 l3 l4 w I J
    else
      if 16 < l3 then
        f_155_66 K k d l0 l1 l2 l3 l4 w I J
      else
        lt_ (l2 ||| (1 <<< (l3 &&& 31))) fun x_1 =>
        gO w 0 l0 (
        gV w l0 1 fun q_2 =>
        cI (Cl K d 152 [.int l3] w I J) fun x_6 w_3 I_4 J_5 =>
        gA w_3 10 20 q_2 x_6 (
        if ¬ (I_4 q_2 (x_6 : Int32).toNatClampNeg) = 2 then
          f_155_59 K k d r7 l0 l1 x_1 l3 l4 0 w_3 I_4 J_5
        else
          gO w_3 0 l0 (
          gV w_3 l0 1 fun q_7 =>
          cI (Cl K d 152 [.int l3] w_3 I_4 J_5) fun x_11 w_8 I_9 J_10 =>
          gA w_8 10 20 q_7 (x_11 + 2) (
          f_155_59 K k d r7 l0 l1 x_1 l3 l4 (I_9 q_7 (x_11 + 2 : Int32).toNatClampNeg) w_8 I_9 J_10))))
theorem ok_155_7 {K : Nat → Value} {d : Nat} : ∀ {k : Nat} {l0 : Nat} {l1 : Int32} {l2 : Int32} {l3 : Int32} {l4 : Int32} {w : aW} {I : aI} {J : aJ} {R : aR}, f_155_7 K k d l0 l1 l2 l3 l4 w I J = some R → Go K (d + 1) 155 7 [some (.ref l0), some (.int l1), some (.int l2), some (.int l3), some (.int l4)] [] w I J R := by
  intro k
  induction k with
  | zero => intro l0 l1 l2 l3 l4 w I J R h; cases h
  | succ k ih =>
    intro l0 l1 l2 l3 l4 w I J R h
    have hr7 : ∀ (l0 : Nat) (l1 : Int32) (l2 : Int32) (l3 : Int32) (l4 : Int32) (w : aW) (I : aI) (J : aJ) (R : aR), f_155_7 K k d l0 l1 l2 l3 l4 w I J = some R → Go K (d + 1) 155 7 [some (.ref l0), some (.int l1), some (.int l2), some (.int l3), some (.int l4)] [] w I J R := fun l0 l1 l2 l3 l4 w I J R h => ih h
    rw [f_155_7] at h
    obtain ⟨r7, hx, h⟩ := lt_s_ h
    rw [hx] at hr7
    clear hx ih
    refine gs_0 (pc' := 9) (L' := [some (.ref l0), some (.int l1), some (.int l2), some (.int l3), some (.int l4)]) (st' := [.int l4]) cd_155_7 rfl rfl ?_
    refine gs_0 (pc' := 11) (L' := [some (.ref l0), some (.int l1), some (.int l2), some (.int l3), some (.int l4)]) (st' := [.int 16, .int l4]) cd_155_9 rfl rfl ?_
    refine gs_0 (pc' := if 16 ≤ l4 then 66 else 14) (L' := [some (.ref l0), some (.int l1), some (.int l2), some (.int l3), some (.int l4)]) (st' := []) cd_155_11 rfl rfl ?_
    refine go_ite (fun hc => ?_) (fun hc => ?_)
    · rw [if_pos hc] at h
      exact ok_155_66 h
    · rw [if_neg hc] at h
      refine gs_0 (pc' := 15) (L' := [some (.ref l0), some (.int l1), some (.int l2), some (.int l3), some (.int l4)]) (st' := [.int l3]) cd_155_14 rfl rfl ?_
      refine gs_0 (pc' := 16) (L' := [some (.ref l0), some (.int l1), some (.int l2), some (.int l3), some (.int l4)]) (st' := [.int 1, .int l3]) cd_155_15 rfl rfl ?_
      refine gs_0 (pc' := if l3 < 1 then 66 else 19) (L' := [some (.ref l0), some (.int l1), some (.int l2), some (.int l3), some (.int l4)]) (st' := []) cd_155_16 rfl rfl ?_
      refine go_ite (fun hc => ?_) (fun hc => ?_)
      · rw [if_pos hc] at h
        exact ok_155_66 h
      · rw [if_neg hc] at h
        refine gs_0 (pc' := 20) (L' := [some (.ref l0), some (.int l1), some (.int l2), some (.int l3), some (.int l4)]) (st' := [.int l3]) cd_155_19 rfl rfl ?_
        refine gs_0 (pc' := 22) (L' := [some (.ref l0), some (.int l1), some (.int l2), some (.int l3), some (.int l4)]) (st' := [.int 16, .int l3]) cd_155_20 rfl rfl ?_
        refine gs_0 (pc' := if 16 < l3 then 66 else 25) (L' := [some (.ref l0), some (.int l1), some (.int l2), some (.int l3), some (.int l4)]) (st' := []) cd_155_22 rfl rfl ?_
        refine go_ite (fun hc => ?_) (fun hc => ?_)
        · rw [if_pos hc] at h
          exact ok_155_66 h
        · rw [if_neg hc] at h
          refine gs_0 (pc' := 26) (L' := [some (.ref l0), some (.int l1), some (.int l2), some (.int l3), some (.int l4)]) (st' := [.int l2]) cd_155_25 rfl rfl ?_
          refine gs_0 (pc' := 27) (L' := [some (.ref l0), some (.int l1), some (.int l2), some (.int l3), some (.int l4)]) (st' := [.int 1, .int l2]) cd_155_26 rfl rfl ?_
          refine gs_0 (pc' := 28) (L' := [some (.ref l0), some (.int l1), some (.int l2), some (.int l3), some (.int l4)]) (st' := [.int l3, .int 1, .int l2]) cd_155_27 rfl rfl ?_
          refine gs_0 (pc' := 29) (L' := [some (.ref l0), some (.int l1), some (.int l2), some (.int l3), some (.int l4)]) (st' := [.int (1 <<< (l3 &&& 31)), .int l2]) cd_155_28 rfl rfl ?_
          refine gs_0 (pc' := 30) (L' := [some (.ref l0), some (.int l1), some (.int l2), some (.int l3), some (.int l4)]) (st' := [.int (l2 ||| (1 <<< (l3 &&& 31)))]) cd_155_29 rfl rfl ?_
          refine gs_0 (pc' := 31) (L' := [some (.ref l0), some (.int l1), some (.int (l2 ||| (1 <<< (l3 &&& 31)))), some (.int l3), some (.int l4)]) (st' := []) cd_155_30 rfl rfl ?_
          obtain ⟨x_1, hx, h⟩ := lt_s_ h
          rw [hx]
          clear hx
          refine gs_0 (pc' := 32) (L' := [some (.ref l0), some (.int l1), some (.int x_1), some (.int l3), some (.int l4)]) (st' := [.ref l0]) cd_155_31 rfl rfl ?_
          obtain ⟨ht, h⟩ := gO_s h
          obtain ⟨q_2, hv, h⟩ := gV_s h
          refine gs_gfR cd_155_32 (by decide) ht hv ?_
          refine gs_0 (pc' := 36) (L' := [some (.ref l0), some (.int l1), some (.int x_1), some (.int l3), some (.int l4)]) (st' := [.int l3, .ref q_2]) cd_155_35 rfl rfl ?_
          obtain ⟨x_6, w_3, I_4, J_5, hcl, h⟩ := cI_s h
          refine gs_call (as := [.int l3]) (rest := [.ref q_2]) cd_155_36 rfl (by decide) rfl rfl (Nat.le_of_ble_eq_true rfl) (Nat.le_of_ble_eq_true rfl) rfl hcl ?_
          obtain ⟨ht, h⟩ := gA_s h
          refine gs_iald cd_155_39 ht ?_
          refine gs_0 (pc' := 41) (L' := [some (.ref l0), some (.int l1), some (.int x_1), some (.int l3), some (.int l4)]) (st' := [.int 2, .int (I_4 q_2 (x_6 : Int32).toNatClampNeg)]) cd_155_40 rfl rfl ?_
          refine gs_0 (pc' := if ¬ (I_4 q_2 (x_6 : Int32).toNatClampNeg) = 2 then 58 else 44) (L' := [some (.ref l0), some (.int l1), some (.int x_1), some (.int l3), some (.int l4)]) (st' := []) cd_155_41 rfl rfl ?_
          refine go_ite (fun hc => ?_) (fun hc => ?_)
          · rw [if_pos hc] at h
            refine gs_0 (pc' := 59) (L' := [some (.ref l0), some (.int l1), some (.int x_1), some (.int l3), some (.int l4)]) (st' := [.int 0]) cd_155_58 rfl rfl ?_
            exact ok_155_59 hr7 h
          · rw [if_neg hc] at h
            refine gs_0 (pc' := 45) (L' := [some (.ref l0), some (.int l1), some (.int x_1), some (.int l3), some (.int l4)]) (st' := [.ref l0]) cd_155_44 rfl rfl ?_
            obtain ⟨ht, h⟩ := gO_s h
            obtain ⟨q_7, hv, h⟩ := gV_s h
            refine gs_gfR cd_155_45 (by decide) ht hv ?_
            refine gs_0 (pc' := 49) (L' := [some (.ref l0), some (.int l1), some (.int x_1), some (.int l3), some (.int l4)]) (st' := [.int l3, .ref q_7]) cd_155_48 rfl rfl ?_
            obtain ⟨x_11, w_8, I_9, J_10, hcl, h⟩ := cI_s h
            refine gs_call (as := [.int l3]) (rest := [.ref q_7]) cd_155_49 rfl (by decide) rfl rfl (Nat.le_of_ble_eq_true rfl) (Nat.le_of_ble_eq_true rfl) rfl hcl ?_
            refine gs_0 (pc' := 53) (L' := [some (.ref l0), some (.int l1), some (.int x_1), some (.int l3), some (.int l4)]) (st' := [.int 2, .int x_11, .ref q_7]) cd_155_52 rfl rfl ?_
            refine gs_0 (pc' := 54) (L' := [some (.ref l0), some (.int l1), some (.int x_1), some (.int l3), some (.int l4)]) (st' := [.int (x_11 + 2), .ref q_7]) cd_155_53 rfl rfl ?_
            obtain ⟨ht, h⟩ := gA_s h
            refine gs_iald cd_155_54 ht ?_
            refine gs_0 (pc' := 59) (L' := [some (.ref l0), some (.int l1), some (.int x_1), some (.int l3), some (.int l4)]) (st' := [.int (I_9 q_7 (x_11 + 2 : Int32).toNatClampNeg)]) cd_155_55 rfl rfl ?_
            exact ok_155_59 hr7 h
noncomputable def f_155 (K : Nat → Value) (k d : Nat) (l0 : Nat) (l1 : Int32) (w : aW) (I : aI) (J : aJ) : Option aR :=
  f_155_7 K k d l0 l1 0 l1 0 w I J
theorem ok_155 {K : Nat → Value} {k d : Nat} {l0 : Nat} {l1 : Int32} {w : aW} {I : aI} {J : aJ} {R : aR} (h : f_155 K k d l0 l1 w I J = some R) : Go K (d + 1) 155 0 [some (.ref l0), some (.int l1), none, none, none] [] w I J R := by
  unfold f_155 at h
  refine gs_0 (pc' := 1) (L' := [some (.ref l0), some (.int l1), none, none, none]) (st' := [.int 0]) cd_155_0 rfl rfl ?_
  refine gs_0 (pc' := 2) (L' := [some (.ref l0), some (.int l1), some (.int 0), none, none]) (st' := []) cd_155_1 rfl rfl ?_
  refine gs_0 (pc' := 3) (L' := [some (.ref l0), some (.int l1), some (.int 0), none, none]) (st' := [.int l1]) cd_155_2 rfl rfl ?_
  refine gs_0 (pc' := 4) (L' := [some (.ref l0), some (.int l1), some (.int 0), some (.int l1), none]) (st' := []) cd_155_3 rfl rfl ?_
  refine gs_0 (pc' := 5) (L' := [some (.ref l0), some (.int l1), some (.int 0), some (.int l1), none]) (st' := [.int 0]) cd_155_4 rfl rfl ?_
  refine gs_0 (pc' := 7) (L' := [some (.ref l0), some (.int l1), some (.int 0), some (.int l1), some (.int 0)]) (st' := []) cd_155_5 rfl rfl ?_
  exact ok_155_7 h
theorem cl_155 {K : Nat → Value} {k d : Nat} {l0 : Nat} {l1 : Int32} {w : aW} {I : aI} {J : aJ} {R : aR} (h : f_155 K k d l0 l1 w I J = some R) : Cl K (d + 1) 155 [.ref l0, .int l1] w I J = some R := Cl_of (ok_155 h)
/-! ProvedMachine$Machine.variablesOf(I)I -/
set_option maxRecDepth 20000 in
theorem gl_156 : gcd.lookup 156 = some gw_156 := rfl
theorem cd_156_0 : sm_cd 156 0 = some (.aload_n 0, 1, 0, 0, 0, 0, 0, 0, 0) := cd_of gl_156 rfl
theorem cd_156_1 : sm_cd 156 1 = some (.getfield 39, 3, 0, 0, 2, 0, 0, 0, 0) := cd_of gl_156 rfl
theorem cd_156_4 : sm_cd 156 4 = some (.aload_n 0, 1, 0, 0, 0, 0, 0, 0, 0) := cd_of gl_156 rfl
theorem cd_156_5 : sm_cd 156 5 = some (.iload_n 1, 1, 1, 0, 0, 0, 0, 0, 0) := cd_of gl_156 rfl
theorem cd_156_6 : sm_cd 156 6 = some (.invokestatic 102, 3, 146, 1, 1, 1, 0, 0, 0) := cd_of gl_156 rfl
theorem cd_156_9 : sm_cd 156 9 = some (.invokevirtual 105, 3, 147, 0, 1, 2, 0, 0, 0) := cd_of gl_156 rfl
theorem cd_156_12 : sm_cd 156 12 = some (.iconst 2, 1, 0, 0, 0, 0, 0, 2, 0) := cd_of gl_156 rfl
theorem cd_156_13 : sm_cd 156 13 = some (.invokevirtual 52, 3, 52, 0, 2, 4, 1, 0, 0) := cd_of gl_156 rfl
theorem cd_156_16 : sm_cd 156 16 = some (.ireturn, 1, 0, 0, 1, 0, 0, 0, 0) := cd_of gl_156 rfl
noncomputable def f_156 (K : Nat → Value) (k d : Nat) (l0 : Nat) (l1 : Int32) (w : aW) (I : aI) (J : aJ) : Option aR :=
  gO w 0 l0 (
  gV w l0 0 fun q_1 =>
  cI (Cl K d 146 [.int l1] w I J) fun x_5 w_2 I_3 J_4 =>
  gO w_2 0 l0 (
  cI (Cl K d 147 [.ref l0, .int x_5] w_2 I_3 J_4) fun x_9 w_6 I_7 J_8 =>
  gO w_6 1 q_1 (
  cI (Cl K d 52 [.ref q_1, .int x_9, .int 2] w_6 I_7 J_8) fun x_13 w_10 I_11 J_12 =>
  some (some (.int x_13), w_10, I_11, J_12))))
theorem ok_156 {K : Nat → Value} {k d : Nat} {l0 : Nat} {l1 : Int32} {w : aW} {I : aI} {J : aJ} {R : aR} (h : f_156 K k d l0 l1 w I J = some R) : Go K (d + 1) 156 0 [some (.ref l0), some (.int l1)] [] w I J R := by
  unfold f_156 at h
  refine gs_0 (pc' := 1) (L' := [some (.ref l0), some (.int l1)]) (st' := [.ref l0]) cd_156_0 rfl rfl ?_
  obtain ⟨ht, h⟩ := gO_s h
  obtain ⟨q_1, hv, h⟩ := gV_s h
  refine gs_gfR cd_156_1 (by decide) ht hv ?_
  refine gs_0 (pc' := 5) (L' := [some (.ref l0), some (.int l1)]) (st' := [.ref l0, .ref q_1]) cd_156_4 rfl rfl ?_
  refine gs_0 (pc' := 6) (L' := [some (.ref l0), some (.int l1)]) (st' := [.int l1, .ref l0, .ref q_1]) cd_156_5 rfl rfl ?_
  obtain ⟨x_5, w_2, I_3, J_4, hcl, h⟩ := cI_s h
  refine gs_call (as := [.int l1]) (rest := [.ref l0, .ref q_1]) cd_156_6 rfl (by decide) rfl rfl (Nat.le_of_ble_eq_true rfl) (Nat.le_of_ble_eq_true rfl) rfl hcl ?_
  obtain ⟨ht, h⟩ := gO_s h
  obtain ⟨x_9, w_6, I_7, J_8, hcl, h⟩ := cI_s h
  refine gs_call (as := [.ref l0, .int x_5]) (rest := [.ref q_1]) cd_156_9 rfl (by decide) rfl (sm_rv_ok (by decide) ht) (Nat.le_of_ble_eq_true rfl) (Nat.le_of_ble_eq_true rfl) rfl hcl ?_
  refine gs_0 (pc' := 13) (L' := [some (.ref l0), some (.int l1)]) (st' := [.int 2, .int x_9, .ref q_1]) cd_156_12 rfl rfl ?_
  obtain ⟨ht, h⟩ := gO_s h
  obtain ⟨x_13, w_10, I_11, J_12, hcl, h⟩ := cI_s h
  refine gs_call (as := [.ref q_1, .int x_9, .int 2]) (rest := []) cd_156_13 rfl (by decide) rfl (sm_rv_ok (by decide) ht) (Nat.le_of_ble_eq_true rfl) (Nat.le_of_ble_eq_true rfl) rfl hcl ?_
  cases h
  exact gs_ri cd_156_16 (Or.inl rfl)
theorem cl_156 {K : Nat → Value} {k d : Nat} {l0 : Nat} {l1 : Int32} {w : aW} {I : aI} {J : aJ} {R : aR} (h : f_156 K k d l0 l1 w I J = some R) : Cl K (d + 1) 156 [.ref l0, .int l1] w I J = some R := Cl_of (ok_156 h)
/-! ProvedMachine$Machine.variableType(II)I -/
set_option maxRecDepth 20000 in
theorem gl_157 : gcd.lookup 157 = some gw_157 := rfl
theorem cd_157_0 : sm_cd 157 0 = some (.aload_n 0, 1, 0, 0, 0, 0, 0, 0, 0) := cd_of gl_157 rfl
theorem cd_157_1 : sm_cd 157 1 = some (.getfield 39, 3, 0, 0, 2, 0, 0, 0, 0) := cd_of gl_157 rfl
theorem cd_157_4 : sm_cd 157 4 = some (.aload_n 0, 1, 0, 0, 0, 0, 0, 0, 0) := cd_of gl_157 rfl
theorem cd_157_5 : sm_cd 157 5 = some (.iload_n 1, 1, 1, 0, 0, 0, 0, 0, 0) := cd_of gl_157 rfl
theorem cd_157_6 : sm_cd 157 6 = some (.invokestatic 102, 3, 146, 1, 1, 1, 0, 0, 0) := cd_of gl_157 rfl
theorem cd_157_9 : sm_cd 157 9 = some (.invokevirtual 105, 3, 147, 0, 1, 2, 0, 0, 0) := cd_of gl_157 rfl
theorem cd_157_12 : sm_cd 157 12 = some (.iload_n 2, 1, 2, 0, 0, 0, 0, 0, 0) := cd_of gl_157 rfl
theorem cd_157_13 : sm_cd 157 13 = some (.invokevirtual 108, 3, 70, 0, 2, 4, 1, 0, 0) := cd_of gl_157 rfl
theorem cd_157_16 : sm_cd 157 16 = some (.ireturn, 1, 0, 0, 1, 0, 0, 0, 0) := cd_of gl_157 rfl
noncomputable def f_157 (K : Nat → Value) (k d : Nat) (l0 : Nat) (l1 : Int32) (l2 : Int32) (w : aW) (I : aI) (J : aJ) : Option aR :=
  gO w 0 l0 (
  gV w l0 0 fun q_1 =>
  cI (Cl K d 146 [.int l1] w I J) fun x_5 w_2 I_3 J_4 =>
  gO w_2 0 l0 (
  cI (Cl K d 147 [.ref l0, .int x_5] w_2 I_3 J_4) fun x_9 w_6 I_7 J_8 =>
  gO w_6 1 q_1 (
  cI (Cl K d 70 [.ref q_1, .int x_9, .int l2] w_6 I_7 J_8) fun x_13 w_10 I_11 J_12 =>
  some (some (.int x_13), w_10, I_11, J_12))))
theorem ok_157 {K : Nat → Value} {k d : Nat} {l0 : Nat} {l1 : Int32} {l2 : Int32} {w : aW} {I : aI} {J : aJ} {R : aR} (h : f_157 K k d l0 l1 l2 w I J = some R) : Go K (d + 1) 157 0 [some (.ref l0), some (.int l1), some (.int l2)] [] w I J R := by
  unfold f_157 at h
  refine gs_0 (pc' := 1) (L' := [some (.ref l0), some (.int l1), some (.int l2)]) (st' := [.ref l0]) cd_157_0 rfl rfl ?_
  obtain ⟨ht, h⟩ := gO_s h
  obtain ⟨q_1, hv, h⟩ := gV_s h
  refine gs_gfR cd_157_1 (by decide) ht hv ?_
  refine gs_0 (pc' := 5) (L' := [some (.ref l0), some (.int l1), some (.int l2)]) (st' := [.ref l0, .ref q_1]) cd_157_4 rfl rfl ?_
  refine gs_0 (pc' := 6) (L' := [some (.ref l0), some (.int l1), some (.int l2)]) (st' := [.int l1, .ref l0, .ref q_1]) cd_157_5 rfl rfl ?_
  obtain ⟨x_5, w_2, I_3, J_4, hcl, h⟩ := cI_s h
  refine gs_call (as := [.int l1]) (rest := [.ref l0, .ref q_1]) cd_157_6 rfl (by decide) rfl rfl (Nat.le_of_ble_eq_true rfl) (Nat.le_of_ble_eq_true rfl) rfl hcl ?_
  obtain ⟨ht, h⟩ := gO_s h
  obtain ⟨x_9, w_6, I_7, J_8, hcl, h⟩ := cI_s h
  refine gs_call (as := [.ref l0, .int x_5]) (rest := [.ref q_1]) cd_157_9 rfl (by decide) rfl (sm_rv_ok (by decide) ht) (Nat.le_of_ble_eq_true rfl) (Nat.le_of_ble_eq_true rfl) rfl hcl ?_
  refine gs_0 (pc' := 13) (L' := [some (.ref l0), some (.int l1), some (.int l2)]) (st' := [.int l2, .int x_9, .ref q_1]) cd_157_12 rfl rfl ?_
  obtain ⟨ht, h⟩ := gO_s h
  obtain ⟨x_13, w_10, I_11, J_12, hcl, h⟩ := cI_s h
  refine gs_call (as := [.ref q_1, .int x_9, .int l2]) (rest := []) cd_157_13 rfl (by decide) rfl (sm_rv_ok (by decide) ht) (Nat.le_of_ble_eq_true rfl) (Nat.le_of_ble_eq_true rfl) rfl hcl ?_
  cases h
  exact gs_ri cd_157_16 (Or.inl rfl)
theorem cl_157 {K : Nat → Value} {k d : Nat} {l0 : Nat} {l1 : Int32} {l2 : Int32} {w : aW} {I : aI} {J : aJ} {R : aR} (h : f_157 K k d l0 l1 l2 w I J = some R) : Cl K (d + 1) 157 [.ref l0, .int l1, .int l2] w I J = some R := Cl_of (ok_157 h)
/-! ProvedMachine$Machine.variableOf(II)I -/
set_option maxRecDepth 20000 in
theorem gl_158 : gcd.lookup 158 = some gw_158 := rfl
theorem cd_158_0 : sm_cd 158 0 = some (.aload_n 0, 1, 0, 0, 0, 0, 0, 0, 0) := cd_of gl_158 rfl
theorem cd_158_1 : sm_cd 158 1 = some (.iload_n 1, 1, 1, 0, 0, 0, 0, 0, 0) := cd_of gl_158 rfl
theorem cd_158_2 : sm_cd 158 2 = some (.invokestatic 102, 3, 146, 1, 1, 1, 0, 0, 0) := cd_of gl_158 rfl
theorem cd_158_5 : sm_cd 158 5 = some (.iconst 2, 1, 0, 0, 0, 0, 0, 2, 0) := cd_of gl_158 rfl
theorem cd_158_6 : sm_cd 158 6 = some (.iadd, 1, 0, 0, 0, 0, 0, 0, 0) := cd_of gl_158 rfl
theorem cd_158_7 : sm_cd 158 7 = some (.iload_n 2, 1, 2, 0, 0, 0, 0, 0, 0) := cd_of gl_158 rfl
theorem cd_158_8 : sm_cd 158 8 = some (.iadd, 1, 0, 0, 0, 0, 0, 0, 0) := cd_of gl_158 rfl
theorem cd_158_9 : sm_cd 158 9 = some (.invokevirtual 105, 3, 147, 0, 1, 2, 0, 0, 0) := cd_of gl_158 rfl
theorem cd_158_12 : sm_cd 158 12 = some (.ireturn, 1, 0, 0, 1, 0, 0, 0, 0) := cd_of gl_158 rfl
noncomputable def f_158 (K : Nat → Value) (k d : Nat) (l0 : Nat) (l1 : Int32) (l2 : Int32) (w : aW) (I : aI) (J : aJ) : Option aR :=
  cI (Cl K d 146 [.int l1] w I J) fun x_4 w_1 I_2 J_3 =>
  gO w_1 0 l0 (
  cI (Cl K d 147 [.ref l0, .int ((x_4 + 2) + l2)] w_1 I_2 J_3) fun x_8 w_5 I_6 J_7 =>
  some (some (.int x_8), w_5, I_6, J_7))
theorem ok_158 {K : Nat → Value} {k d : Nat} {l0 : Nat} {l1 : Int32} {l2 : Int32} {w : aW} {I : aI} {J : aJ} {R : aR} (h : f_158 K k d l0 l1 l2 w I J = some R) : Go K (d + 1) 158 0 [some (.ref l0), some (.int l1), some (.int l2)] [] w I J R := by
  unfold f_158 at h
  refine gs_0 (pc' := 1) (L' := [some (.ref l0), some (.int l1), some (.int l2)]) (st' := [.ref l0]) cd_158_0 rfl rfl ?_
  refine gs_0 (pc' := 2) (L' := [some (.ref l0), some (.int l1), some (.int l2)]) (st' := [.int l1, .ref l0]) cd_158_1 rfl rfl ?_
  obtain ⟨x_4, w_1, I_2, J_3, hcl, h⟩ := cI_s h
  refine gs_call (as := [.int l1]) (rest := [.ref l0]) cd_158_2 rfl (by decide) rfl rfl (Nat.le_of_ble_eq_true rfl) (Nat.le_of_ble_eq_true rfl) rfl hcl ?_
  refine gs_0 (pc' := 6) (L' := [some (.ref l0), some (.int l1), some (.int l2)]) (st' := [.int 2, .int x_4, .ref l0]) cd_158_5 rfl rfl ?_
  refine gs_0 (pc' := 7) (L' := [some (.ref l0), some (.int l1), some (.int l2)]) (st' := [.int (x_4 + 2), .ref l0]) cd_158_6 rfl rfl ?_
  refine gs_0 (pc' := 8) (L' := [some (.ref l0), some (.int l1), some (.int l2)]) (st' := [.int l2, .int (x_4 + 2), .ref l0]) cd_158_7 rfl rfl ?_
  refine gs_0 (pc' := 9) (L' := [some (.ref l0), some (.int l1), some (.int l2)]) (st' := [.int ((x_4 + 2) + l2), .ref l0]) cd_158_8 rfl rfl ?_
  obtain ⟨ht, h⟩ := gO_s h
  obtain ⟨x_8, w_5, I_6, J_7, hcl, h⟩ := cI_s h
  refine gs_call (as := [.ref l0, .int ((x_4 + 2) + l2)]) (rest := []) cd_158_9 rfl (by decide) rfl (sm_rv_ok (by decide) ht) (Nat.le_of_ble_eq_true rfl) (Nat.le_of_ble_eq_true rfl) rfl hcl ?_
  cases h
  exact gs_ri cd_158_12 (Or.inl rfl)
theorem cl_158 {K : Nat → Value} {k d : Nat} {l0 : Nat} {l1 : Int32} {l2 : Int32} {w : aW} {I : aI} {J : aJ} {R : aR} (h : f_158 K k d l0 l1 l2 w I J = some R) : Cl K (d + 1) 158 [.ref l0, .int l1, .int l2] w I J = some R := Cl_of (ok_158 h)
/-! ProvedMachine$Machine.perform(II)I -/
set_option maxRecDepth 20000 in
theorem gl_159 : gcd.lookup 159 = some gw_159 := rfl
theorem cd_159_0 : sm_cd 159 0 = some (.iload_n 1, 1, 1, 0, 0, 0, 0, 0, 0) := cd_of gl_159 rfl
theorem cd_159_1 : sm_cd 159 1 = some (.tableswitch 212 0 27 #[127, 127, 127, 127, 134, 212, 212, 212, 212, 212, 140, 150, 145, 212, 212, 212, 212, 212, 212, 212, 212, 155, 185, 190, 196, 202, 207, 127], 127, 0, 0, 0, 0, 0, 0, 0) := cd_of gl_159 rfl
theorem cd_159_128 : sm_cd 159 128 = some (.aload_n 0, 1, 0, 0, 0, 0, 0, 0, 0) := cd_of gl_159 rfl
theorem cd_159_129 : sm_cd 159 129 = some (.iload_n 1, 1, 1, 0, 0, 0, 0, 0, 0) := cd_of gl_159 rfl
theorem cd_159_130 : sm_cd 159 130 = some (.iload_n 2, 1, 2, 0, 0, 0, 0, 0, 0) := cd_of gl_159 rfl
theorem cd_159_131 : sm_cd 159 131 = some (.invokevirtual 114, 3, 160, 0, 2, 4, 0, 0, 0) := cd_of gl_159 rfl
theorem cd_159_134 : sm_cd 159 134 = some (.ireturn, 1, 0, 0, 1, 0, 0, 0, 0) := cd_of gl_159 rfl
theorem cd_159_135 : sm_cd 159 135 = some (.aload_n 0, 1, 0, 0, 0, 0, 0, 0, 0) := cd_of gl_159 rfl
theorem cd_159_136 : sm_cd 159 136 = some (.iload_n 2, 1, 2, 0, 0, 0, 0, 0, 0) := cd_of gl_159 rfl
theorem cd_159_137 : sm_cd 159 137 = some (.invokevirtual 117, 3, 163, 0, 1, 6, 0, 0, 0) := cd_of gl_159 rfl
theorem cd_159_140 : sm_cd 159 140 = some (.ireturn, 1, 0, 0, 1, 0, 0, 0, 0) := cd_of gl_159 rfl
theorem cd_159_141 : sm_cd 159 141 = some (.aload_n 0, 1, 0, 0, 0, 0, 0, 0, 0) := cd_of gl_159 rfl
theorem cd_159_142 : sm_cd 159 142 = some (.invokevirtual 120, 3, 165, 0, 0, 4, 0, 0, 0) := cd_of gl_159 rfl
theorem cd_159_145 : sm_cd 159 145 = some (.ireturn, 1, 0, 0, 1, 0, 0, 0, 0) := cd_of gl_159 rfl
theorem cd_159_146 : sm_cd 159 146 = some (.aload_n 0, 1, 0, 0, 0, 0, 0, 0, 0) := cd_of gl_159 rfl
theorem cd_159_147 : sm_cd 159 147 = some (.invokevirtual 123, 3, 166, 0, 0, 2, 0, 0, 0) := cd_of gl_159 rfl
theorem cd_159_150 : sm_cd 159 150 = some (.ireturn, 1, 0, 0, 1, 0, 0, 0, 0) := cd_of gl_159 rfl
theorem cd_159_151 : sm_cd 159 151 = some (.aload_n 0, 1, 0, 0, 0, 0, 0, 0, 0) := cd_of gl_159 rfl
theorem cd_159_152 : sm_cd 159 152 = some (.invokevirtual 126, 3, 167, 0, 0, 4, 0, 0, 0) := cd_of gl_159 rfl
theorem cd_159_155 : sm_cd 159 155 = some (.ireturn, 1, 0, 0, 1, 0, 0, 0, 0) := cd_of gl_159 rfl
theorem cd_159_156 : sm_cd 159 156 = some (.aload_n 0, 1, 0, 0, 0, 0, 0, 0, 0) := cd_of gl_159 rfl
theorem cd_159_157 : sm_cd 159 157 = some (.aload_n 0, 1, 0, 0, 0, 0, 0, 0, 0) := cd_of gl_159 rfl
theorem cd_159_158 : sm_cd 159 158 = some (.getfield 13, 3, 0, 1, 2, 0, 0, 0, 0) := cd_of gl_159 rfl
theorem cd_159_161 : sm_cd 159 161 = some (.iconst 4, 1, 0, 0, 0, 0, 0, 4, 0) := cd_of gl_159 rfl
theorem cd_159_162 : sm_cd 159 162 = some (.iaload, 1, 0, 0, 0, 0, 0, 0, 0) := cd_of gl_159 rfl
theorem cd_159_163 : sm_cd 159 163 = some (.iconst 1, 1, 0, 0, 0, 0, 0, 1, 0) := cd_of gl_159 rfl
theorem cd_159_164 : sm_cd 159 164 = some (.isub, 1, 0, 0, 0, 0, 0, 0, 0) := cd_of gl_159 rfl
theorem cd_159_165 : sm_cd 159 165 = some (.invokestatic 102, 3, 146, 1, 1, 1, 0, 0, 0) := cd_of gl_159 rfl
theorem cd_159_168 : sm_cd 159 168 = some (.iconst 2, 1, 0, 0, 0, 0, 0, 2, 0) := cd_of gl_159 rfl
theorem cd_159_169 : sm_cd 159 169 = some (.iadd, 1, 0, 0, 0, 0, 0, 0, 0) := cd_of gl_159 rfl
theorem cd_159_170 : sm_cd 159 170 = some (.iload_n 2, 1, 2, 0, 0, 0, 0, 0, 0) := cd_of gl_159 rfl
theorem cd_159_171 : sm_cd 159 171 = some (.iadd, 1, 0, 0, 0, 0, 0, 0, 0) := cd_of gl_159 rfl
theorem cd_159_172 : sm_cd 159 172 = some (.aload_n 0, 1, 0, 0, 0, 0, 0, 0, 0) := cd_of gl_159 rfl
theorem cd_159_173 : sm_cd 159 173 = some (.iconst 1, 1, 0, 0, 0, 0, 0, 1, 0) := cd_of gl_159 rfl
theorem cd_159_174 : sm_cd 159 174 = some (.invokevirtual 88, 3, 149, 0, 1, 2, 0, 0, 0) := cd_of gl_159 rfl
theorem cd_159_177 : sm_cd 159 177 = some (.invokevirtual 60, 3, 144, 0, 2, 5, 0, 0, 0) := cd_of gl_159 rfl
theorem cd_159_180 : sm_cd 159 180 = some (.aload_n 0, 1, 0, 0, 0, 0, 0, 0, 0) := cd_of gl_159 rfl
theorem cd_159_181 : sm_cd 159 181 = some (.iconst 1, 1, 0, 0, 0, 0, 0, 1, 0) := cd_of gl_159 rfl
theorem cd_159_182 : sm_cd 159 182 = some (.invokevirtual 129, 3, 164, 0, 1, 2, 0, 0, 0) := cd_of gl_159 rfl
theorem cd_159_185 : sm_cd 159 185 = some (.ireturn, 1, 0, 0, 1, 0, 0, 0, 0) := cd_of gl_159 rfl
theorem cd_159_186 : sm_cd 159 186 = some (.aload_n 0, 1, 0, 0, 0, 0, 0, 0, 0) := cd_of gl_159 rfl
theorem cd_159_187 : sm_cd 159 187 = some (.invokevirtual 132, 3, 169, 0, 0, 4, 0, 0, 0) := cd_of gl_159 rfl
theorem cd_159_190 : sm_cd 159 190 = some (.ireturn, 1, 0, 0, 1, 0, 0, 0, 0) := cd_of gl_159 rfl
theorem cd_159_191 : sm_cd 159 191 = some (.aload_n 0, 1, 0, 0, 0, 0, 0, 0, 0) := cd_of gl_159 rfl
theorem cd_159_192 : sm_cd 159 192 = some (.iload_n 2, 1, 2, 0, 0, 0, 0, 0, 0) := cd_of gl_159 rfl
theorem cd_159_193 : sm_cd 159 193 = some (.invokevirtual 135, 3, 170, 0, 1, 3, 0, 0, 0) := cd_of gl_159 rfl
theorem cd_159_196 : sm_cd 159 196 = some (.ireturn, 1, 0, 0, 1, 0, 0, 0, 0) := cd_of gl_159 rfl
theorem cd_159_197 : sm_cd 159 197 = some (.aload_n 0, 1, 0, 0, 0, 0, 0, 0, 0) := cd_of gl_159 rfl
theorem cd_159_198 : sm_cd 159 198 = some (.iload_n 2, 1, 2, 0, 0, 0, 0, 0, 0) := cd_of gl_159 rfl
theorem cd_159_199 : sm_cd 159 199 = some (.invokevirtual 138, 3, 162, 0, 1, 2, 0, 0, 0) := cd_of gl_159 rfl
theorem cd_159_202 : sm_cd 159 202 = some (.ireturn, 1, 0, 0, 1, 0, 0, 0, 0) := cd_of gl_159 rfl
theorem cd_159_203 : sm_cd 159 203 = some (.aload_n 0, 1, 0, 0, 0, 0, 0, 0, 0) := cd_of gl_159 rfl
theorem cd_159_204 : sm_cd 159 204 = some (.invokevirtual 141, 3, 171, 0, 0, 1, 0, 0, 0) := cd_of gl_159 rfl
theorem cd_159_207 : sm_cd 159 207 = some (.ireturn, 1, 0, 0, 1, 0, 0, 0, 0) := cd_of gl_159 rfl
theorem cd_159_208 : sm_cd 159 208 = some (.aload_n 0, 1, 0, 0, 0, 0, 0, 0, 0) := cd_of gl_159 rfl
theorem cd_159_209 : sm_cd 159 209 = some (.invokevirtual 144, 3, 172, 0, 0, 2, 0, 0, 0) := cd_of gl_159 rfl
theorem cd_159_212 : sm_cd 159 212 = some (.ireturn, 1, 0, 0, 1, 0, 0, 0, 0) := cd_of gl_159 rfl
theorem cd_159_213 : sm_cd 159 213 = some (.iload_n 1, 1, 1, 0, 0, 0, 0, 0, 0) := cd_of gl_159 rfl
theorem cd_159_214 : sm_cd 159 214 = some (.bipush 9, 2, 0, 0, 0, 0, 0, 9, 0) := cd_of gl_159 rfl
theorem cd_159_216 : sm_cd 159 216 = some (.if_icmp .gt 11, 3, 227, 0, 0, 0, 0, 0, 0) := cd_of gl_159 rfl
theorem cd_159_219 : sm_cd 159 219 = some (.aload_n 0, 1, 0, 0, 0, 0, 0, 0, 0) := cd_of gl_159 rfl
theorem cd_159_220 : sm_cd 159 220 = some (.iload_n 1, 1, 1, 0, 0, 0, 0, 0, 0) := cd_of gl_159 rfl
theorem cd_159_221 : sm_cd 159 221 = some (.invokevirtual 147, 3, 173, 0, 1, 3, 0, 0, 0) := cd_of gl_159 rfl
theorem cd_159_224 : sm_cd 159 224 = some (.goto 8, 3, 232, 0, 0, 0, 0, 0, 0) := cd_of gl_159 rfl
theorem cd_159_227 : sm_cd 159 227 = some (.aload_n 0, 1, 0, 0, 0, 0, 0, 0, 0) := cd_of gl_159 rfl
theorem cd_159_228 : sm_cd 159 228 = some (.iload_n 1, 1, 1, 0, 0, 0, 0, 0, 0) := cd_of gl_159 rfl
theorem cd_159_229 : sm_cd 159 229 = some (.invokevirtual 150, 3, 174, 0, 1, 4, 0, 0, 0) := cd_of gl_159 rfl
theorem cd_159_232 : sm_cd 159 232 = some (.ireturn, 1, 0, 0, 1, 0, 0, 0, 0) := cd_of gl_159 rfl
theorem sw_159_1_0 {K : Nat → Value} {L : aL} {st : List Value} {w : aW} {I : aI} {J : aJ} {x : Int32} (h : x = 0) : sm_stp K (.tableswitch 212 0 27 #[127, 127, 127, 127, 134, 212, 212, 212, 212, 212, 140, 150, 145, 212, 212, 212, 212, 212, 212, 212, 212, 155, 185, 190, 196, 202, 207, 127], 127, 0, 0, 0, 0, 0, 0, 0) 1 L (.int x :: st) w I J = some (128, L, st, w, I, J) := by subst h; rfl
theorem sw_159_1_1 {K : Nat → Value} {L : aL} {st : List Value} {w : aW} {I : aI} {J : aJ} {x : Int32} (h : x = 1) : sm_stp K (.tableswitch 212 0 27 #[127, 127, 127, 127, 134, 212, 212, 212, 212, 212, 140, 150, 145, 212, 212, 212, 212, 212, 212, 212, 212, 155, 185, 190, 196, 202, 207, 127], 127, 0, 0, 0, 0, 0, 0, 0) 1 L (.int x :: st) w I J = some (128, L, st, w, I, J) := by subst h; rfl
theorem sw_159_1_2 {K : Nat → Value} {L : aL} {st : List Value} {w : aW} {I : aI} {J : aJ} {x : Int32} (h : x = 2) : sm_stp K (.tableswitch 212 0 27 #[127, 127, 127, 127, 134, 212, 212, 212, 212, 212, 140, 150, 145, 212, 212, 212, 212, 212, 212, 212, 212, 155, 185, 190, 196, 202, 207, 127], 127, 0, 0, 0, 0, 0, 0, 0) 1 L (.int x :: st) w I J = some (128, L, st, w, I, J) := by subst h; rfl
theorem sw_159_1_3 {K : Nat → Value} {L : aL} {st : List Value} {w : aW} {I : aI} {J : aJ} {x : Int32} (h : x = 3) : sm_stp K (.tableswitch 212 0 27 #[127, 127, 127, 127, 134, 212, 212, 212, 212, 212, 140, 150, 145, 212, 212, 212, 212, 212, 212, 212, 212, 155, 185, 190, 196, 202, 207, 127], 127, 0, 0, 0, 0, 0, 0, 0) 1 L (.int x :: st) w I J = some (128, L, st, w, I, J) := by subst h; rfl
theorem sw_159_1_4 {K : Nat → Value} {L : aL} {st : List Value} {w : aW} {I : aI} {J : aJ} {x : Int32} (h : x = 4) : sm_stp K (.tableswitch 212 0 27 #[127, 127, 127, 127, 134, 212, 212, 212, 212, 212, 140, 150, 145, 212, 212, 212, 212, 212, 212, 212, 212, 155, 185, 190, 196, 202, 207, 127], 127, 0, 0, 0, 0, 0, 0, 0) 1 L (.int x :: st) w I J = some (135, L, st, w, I, J) := by subst h; rfl
theorem sw_159_1_5 {K : Nat → Value} {L : aL} {st : List Value} {w : aW} {I : aI} {J : aJ} {x : Int32} (h : x = 10) : sm_stp K (.tableswitch 212 0 27 #[127, 127, 127, 127, 134, 212, 212, 212, 212, 212, 140, 150, 145, 212, 212, 212, 212, 212, 212, 212, 212, 155, 185, 190, 196, 202, 207, 127], 127, 0, 0, 0, 0, 0, 0, 0) 1 L (.int x :: st) w I J = some (141, L, st, w, I, J) := by subst h; rfl
theorem sw_159_1_6 {K : Nat → Value} {L : aL} {st : List Value} {w : aW} {I : aI} {J : aJ} {x : Int32} (h : x = 11) : sm_stp K (.tableswitch 212 0 27 #[127, 127, 127, 127, 134, 212, 212, 212, 212, 212, 140, 150, 145, 212, 212, 212, 212, 212, 212, 212, 212, 155, 185, 190, 196, 202, 207, 127], 127, 0, 0, 0, 0, 0, 0, 0) 1 L (.int x :: st) w I J = some (151, L, st, w, I, J) := by subst h; rfl
theorem sw_159_1_7 {K : Nat → Value} {L : aL} {st : List Value} {w : aW} {I : aI} {J : aJ} {x : Int32} (h : x = 12) : sm_stp K (.tableswitch 212 0 27 #[127, 127, 127, 127, 134, 212, 212, 212, 212, 212, 140, 150, 145, 212, 212, 212, 212, 212, 212, 212, 212, 155, 185, 190, 196, 202, 207, 127], 127, 0, 0, 0, 0, 0, 0, 0) 1 L (.int x :: st) w I J = some (146, L, st, w, I, J) := by subst h; rfl
theorem sw_159_1_8 {K : Nat → Value} {L : aL} {st : List Value} {w : aW} {I : aI} {J : aJ} {x : Int32} (h : x = 21) : sm_stp K (.tableswitch 212 0 27 #[127, 127, 127, 127, 134, 212, 212, 212, 212, 212, 140, 150, 145, 212, 212, 212, 212, 212, 212, 212, 212, 155, 185, 190, 196, 202, 207, 127], 127, 0, 0, 0, 0, 0, 0, 0) 1 L (.int x :: st) w I J = some (156, L, st, w, I, J) := by subst h; rfl
theorem sw_159_1_9 {K : Nat → Value} {L : aL} {st : List Value} {w : aW} {I : aI} {J : aJ} {x : Int32} (h : x = 22) : sm_stp K (.tableswitch 212 0 27 #[127, 127, 127, 127, 134, 212, 212, 212, 212, 212, 140, 150, 145, 212, 212, 212, 212, 212, 212, 212, 212, 155, 185, 190, 196, 202, 207, 127], 127, 0, 0, 0, 0, 0, 0, 0) 1 L (.int x :: st) w I J = some (186, L, st, w, I, J) := by subst h; rfl
theorem sw_159_1_10 {K : Nat → Value} {L : aL} {st : List Value} {w : aW} {I : aI} {J : aJ} {x : Int32} (h : x = 23) : sm_stp K (.tableswitch 212 0 27 #[127, 127, 127, 127, 134, 212, 212, 212, 212, 212, 140, 150, 145, 212, 212, 212, 212, 212, 212, 212, 212, 155, 185, 190, 196, 202, 207, 127], 127, 0, 0, 0, 0, 0, 0, 0) 1 L (.int x :: st) w I J = some (191, L, st, w, I, J) := by subst h; rfl
theorem sw_159_1_11 {K : Nat → Value} {L : aL} {st : List Value} {w : aW} {I : aI} {J : aJ} {x : Int32} (h : x = 24) : sm_stp K (.tableswitch 212 0 27 #[127, 127, 127, 127, 134, 212, 212, 212, 212, 212, 140, 150, 145, 212, 212, 212, 212, 212, 212, 212, 212, 155, 185, 190, 196, 202, 207, 127], 127, 0, 0, 0, 0, 0, 0, 0) 1 L (.int x :: st) w I J = some (197, L, st, w, I, J) := by subst h; rfl
theorem sw_159_1_12 {K : Nat → Value} {L : aL} {st : List Value} {w : aW} {I : aI} {J : aJ} {x : Int32} (h : x = 25) : sm_stp K (.tableswitch 212 0 27 #[127, 127, 127, 127, 134, 212, 212, 212, 212, 212, 140, 150, 145, 212, 212, 212, 212, 212, 212, 212, 212, 155, 185, 190, 196, 202, 207, 127], 127, 0, 0, 0, 0, 0, 0, 0) 1 L (.int x :: st) w I J = some (203, L, st, w, I, J) := by subst h; rfl
theorem sw_159_1_13 {K : Nat → Value} {L : aL} {st : List Value} {w : aW} {I : aI} {J : aJ} {x : Int32} (h : x = 26) : sm_stp K (.tableswitch 212 0 27 #[127, 127, 127, 127, 134, 212, 212, 212, 212, 212, 140, 150, 145, 212, 212, 212, 212, 212, 212, 212, 212, 155, 185, 190, 196, 202, 207, 127], 127, 0, 0, 0, 0, 0, 0, 0) 1 L (.int x :: st) w I J = some (208, L, st, w, I, J) := by subst h; rfl
theorem sw_159_1_14 {K : Nat → Value} {L : aL} {st : List Value} {w : aW} {I : aI} {J : aJ} {x : Int32} (h : x = 27) : sm_stp K (.tableswitch 212 0 27 #[127, 127, 127, 127, 134, 212, 212, 212, 212, 212, 140, 150, 145, 212, 212, 212, 212, 212, 212, 212, 212, 155, 185, 190, 196, 202, 207, 127], 127, 0, 0, 0, 0, 0, 0, 0) 1 L (.int x :: st) w I J = some (128, L, st, w, I, J) := by subst h; rfl
theorem sw_159_1_d {K : Nat → Value} {L : aL} {st : List Value} {w : aW} {I : aI} {J : aJ} {x : Int32} (h0 : ¬ x = 0) (h1 : ¬ x = 1) (h2 : ¬ x = 2) (h3 : ¬ x = 3) (h4 : ¬ x = 4) (h5 : ¬ x = 10) (h6 : ¬ x = 11) (h7 : ¬ x = 12) (h8 : ¬ x = 21) (h9 : ¬ x = 22) (h10 : ¬ x = 23) (h11 : ¬ x = 24) (h12 : ¬ x = 25) (h13 : ¬ x = 26) (h14 : ¬ x = 27) : sm_stp K (.tableswitch 212 0 27 #[127, 127, 127, 127, 134, 212, 212, 212, 212, 212, 140, 150, 145, 212, 212, 212, 212, 212, 212, 212, 212, 155, 185, 190, 196, 202, 207, 127], 127, 0, 0, 0, 0, 0, 0, 0) 1 L (.int x :: st) w I J = some (213, L, st, w, I, J) := by
  have e : sm_swt 1 212 0 27 #[127, 127, 127, 127, 134, 212, 212, 212, 212, 212, 140, 150, 145, 212, 212, 212, 212, 212, 212, 212, 212, 155, 185, 190, 196, 202, 207, 127] x = some 213 := by
    unfold sm_swt
    split
    · rfl
    · rename_i hn
      have hx : x = 0 ∨ x = 1 ∨ x = 2 ∨ x = 3 ∨ x = 4 ∨ x = 5 ∨ x = 6 ∨ x = 7 ∨ x = 8 ∨ x = 9 ∨ x = 10 ∨ x = 11 ∨ x = 12 ∨ x = 13 ∨ x = 14 ∨ x = 15 ∨ x = 16 ∨ x = 17 ∨ x = 18 ∨ x = 19 ∨ x = 20 ∨ x = 21 ∨ x = 22 ∨ x = 23 ∨ x = 24 ∨ x = 25 ∨ x = 26 ∨ x = 27 := by
        have ha : ¬ x.toInt < 0 := fun q => hn (Or.inl q)
        have hb : ¬ 27 < x.toInt := fun q => hn (Or.inr q)
        have h3 : x.toInt = 0 ∨ x.toInt = 1 ∨ x.toInt = 2 ∨ x.toInt = 3 ∨ x.toInt = 4 ∨ x.toInt = 5 ∨ x.toInt = 6 ∨ x.toInt = 7 ∨ x.toInt = 8 ∨ x.toInt = 9 ∨ x.toInt = 10 ∨ x.toInt = 11 ∨ x.toInt = 12 ∨ x.toInt = 13 ∨ x.toInt = 14 ∨ x.toInt = 15 ∨ x.toInt = 16 ∨ x.toInt = 17 ∨ x.toInt = 18 ∨ x.toInt = 19 ∨ x.toInt = 20 ∨ x.toInt = 21 ∨ x.toInt = 22 ∨ x.toInt = 23 ∨ x.toInt = 24 ∨ x.toInt = 25 ∨ x.toInt = 26 ∨ x.toInt = 27 := by omega
        rcases h3 with q | q | q | q | q | q | q | q | q | q | q | q | q | q | q | q | q | q | q | q | q | q | q | q | q | q | q | q
        · exact Or.inl (Int32.toInt_inj.mp q)
        · exact Or.inr (Or.inl (Int32.toInt_inj.mp q))
        · exact Or.inr (Or.inr (Or.inl (Int32.toInt_inj.mp q)))
        · exact Or.inr (Or.inr (Or.inr (Or.inl (Int32.toInt_inj.mp q))))
        · exact Or.inr (Or.inr (Or.inr (Or.inr (Or.inl (Int32.toInt_inj.mp q)))))
        · exact Or.inr (Or.inr (Or.inr (Or.inr (Or.inr (Or.inl (Int32.toInt_inj.mp q))))))
        · exact Or.inr (Or.inr (Or.inr (Or.inr (Or.inr (Or.inr (Or.inl (Int32.toInt_inj.mp q)))))))
        · exact Or.inr (Or.inr (Or.inr (Or.inr (Or.inr (Or.inr (Or.inr (Or.inl (Int32.toInt_inj.mp q))))))))
        · exact Or.inr (Or.inr (Or.inr (Or.inr (Or.inr (Or.inr (Or.inr (Or.inr (Or.inl (Int32.toInt_inj.mp q)))))))))
        · exact Or.inr (Or.inr (Or.inr (Or.inr (Or.inr (Or.inr (Or.inr (Or.inr (Or.inr (Or.inl (Int32.toInt_inj.mp q))))))))))
        · exact Or.inr (Or.inr (Or.inr (Or.inr (Or.inr (Or.inr (Or.inr (Or.inr (Or.inr (Or.inr (Or.inl (Int32.toInt_inj.mp q)))))))))))
        · exact Or.inr (Or.inr (Or.inr (Or.inr (Or.inr (Or.inr (Or.inr (Or.inr (Or.inr (Or.inr (Or.inr (Or.inl (Int32.toInt_inj.mp q))))))))))))
        · exact Or.inr (Or.inr (Or.inr (Or.inr (Or.inr (Or.inr (Or.inr (Or.inr (Or.inr (Or.inr (Or.inr (Or.inr (Or.inl (Int32.toInt_inj.mp q)))))))))))))
        · exact Or.inr (Or.inr (Or.inr (Or.inr (Or.inr (Or.inr (Or.inr (Or.inr (Or.inr (Or.inr (Or.inr (Or.inr (Or.inr (Or.inl (Int32.toInt_inj.mp q))))))))))))))
        · exact Or.inr (Or.inr (Or.inr (Or.inr (Or.inr (Or.inr (Or.inr (Or.inr (Or.inr (Or.inr (Or.inr (Or.inr (Or.inr (Or.inr (Or.inl (Int32.toInt_inj.mp q)))))))))))))))
        · exact Or.inr (Or.inr (Or.inr (Or.inr (Or.inr (Or.inr (Or.inr (Or.inr (Or.inr (Or.inr (Or.inr (Or.inr (Or.inr (Or.inr (Or.inr (Or.inl (Int32.toInt_inj.mp q))))))))))))))))
        · exact Or.inr (Or.inr (Or.inr (Or.inr (Or.inr (Or.inr (Or.inr (Or.inr (Or.inr (Or.inr (Or.inr (Or.inr (Or.inr (Or.inr (Or.inr (Or.inr (Or.inl (Int32.toInt_inj.mp q)))))))))))))))))
        · exact Or.inr (Or.inr (Or.inr (Or.inr (Or.inr (Or.inr (Or.inr (Or.inr (Or.inr (Or.inr (Or.inr (Or.inr (Or.inr (Or.inr (Or.inr (Or.inr (Or.inr (Or.inl (Int32.toInt_inj.mp q))))))))))))))))))
        · exact Or.inr (Or.inr (Or.inr (Or.inr (Or.inr (Or.inr (Or.inr (Or.inr (Or.inr (Or.inr (Or.inr (Or.inr (Or.inr (Or.inr (Or.inr (Or.inr (Or.inr (Or.inr (Or.inl (Int32.toInt_inj.mp q)))))))))))))))))))
        · exact Or.inr (Or.inr (Or.inr (Or.inr (Or.inr (Or.inr (Or.inr (Or.inr (Or.inr (Or.inr (Or.inr (Or.inr (Or.inr (Or.inr (Or.inr (Or.inr (Or.inr (Or.inr (Or.inr (Or.inl (Int32.toInt_inj.mp q))))))))))))))))))))
        · exact Or.inr (Or.inr (Or.inr (Or.inr (Or.inr (Or.inr (Or.inr (Or.inr (Or.inr (Or.inr (Or.inr (Or.inr (Or.inr (Or.inr (Or.inr (Or.inr (Or.inr (Or.inr (Or.inr (Or.inr (Or.inl (Int32.toInt_inj.mp q)))))))))))))))))))))
        · exact Or.inr (Or.inr (Or.inr (Or.inr (Or.inr (Or.inr (Or.inr (Or.inr (Or.inr (Or.inr (Or.inr (Or.inr (Or.inr (Or.inr (Or.inr (Or.inr (Or.inr (Or.inr (Or.inr (Or.inr (Or.inr (Or.inl (Int32.toInt_inj.mp q))))))))))))))))))))))
        · exact Or.inr (Or.inr (Or.inr (Or.inr (Or.inr (Or.inr (Or.inr (Or.inr (Or.inr (Or.inr (Or.inr (Or.inr (Or.inr (Or.inr (Or.inr (Or.inr (Or.inr (Or.inr (Or.inr (Or.inr (Or.inr (Or.inr (Or.inl (Int32.toInt_inj.mp q)))))))))))))))))))))))
        · exact Or.inr (Or.inr (Or.inr (Or.inr (Or.inr (Or.inr (Or.inr (Or.inr (Or.inr (Or.inr (Or.inr (Or.inr (Or.inr (Or.inr (Or.inr (Or.inr (Or.inr (Or.inr (Or.inr (Or.inr (Or.inr (Or.inr (Or.inr (Or.inl (Int32.toInt_inj.mp q))))))))))))))))))))))))
        · exact Or.inr (Or.inr (Or.inr (Or.inr (Or.inr (Or.inr (Or.inr (Or.inr (Or.inr (Or.inr (Or.inr (Or.inr (Or.inr (Or.inr (Or.inr (Or.inr (Or.inr (Or.inr (Or.inr (Or.inr (Or.inr (Or.inr (Or.inr (Or.inr (Or.inl (Int32.toInt_inj.mp q)))))))))))))))))))))))))
        · exact Or.inr (Or.inr (Or.inr (Or.inr (Or.inr (Or.inr (Or.inr (Or.inr (Or.inr (Or.inr (Or.inr (Or.inr (Or.inr (Or.inr (Or.inr (Or.inr (Or.inr (Or.inr (Or.inr (Or.inr (Or.inr (Or.inr (Or.inr (Or.inr (Or.inr (Or.inl (Int32.toInt_inj.mp q))))))))))))))))))))))))))
        · exact Or.inr (Or.inr (Or.inr (Or.inr (Or.inr (Or.inr (Or.inr (Or.inr (Or.inr (Or.inr (Or.inr (Or.inr (Or.inr (Or.inr (Or.inr (Or.inr (Or.inr (Or.inr (Or.inr (Or.inr (Or.inr (Or.inr (Or.inr (Or.inr (Or.inr (Or.inr (Or.inl (Int32.toInt_inj.mp q)))))))))))))))))))))))))))
        · exact Or.inr (Or.inr (Or.inr (Or.inr (Or.inr (Or.inr (Or.inr (Or.inr (Or.inr (Or.inr (Or.inr (Or.inr (Or.inr (Or.inr (Or.inr (Or.inr (Or.inr (Or.inr (Or.inr (Or.inr (Or.inr (Or.inr (Or.inr (Or.inr (Or.inr (Or.inr (Or.inr ((Int32.toInt_inj.mp q))))))))))))))))))))))))))))
      rcases hx with rfl | rfl | rfl | rfl | rfl | rfl | rfl | rfl | rfl | rfl | rfl | rfl | rfl | rfl | rfl | rfl | rfl | rfl | rfl | rfl | rfl | rfl | rfl | rfl | rfl | rfl | rfl | rfl
      · exact absurd rfl h0
      · exact absurd rfl h1
      · exact absurd rfl h2
      · exact absurd rfl h3
      · exact absurd rfl h4
      · rfl
      · rfl
      · rfl
      · rfl
      · rfl
      · exact absurd rfl h5
      · exact absurd rfl h6
      · exact absurd rfl h7
      · rfl
      · rfl
      · rfl
      · rfl
      · rfl
      · rfl
      · rfl
      · rfl
      · exact absurd rfl h8
      · exact absurd rfl h9
      · exact absurd rfl h10
      · exact absurd rfl h11
      · exact absurd rfl h12
      · exact absurd rfl h13
      · exact absurd rfl h14
  simp only [sm_stp, e, sm_jm]
noncomputable def f_159 (K : Nat → Value) (k d : Nat) (l0 : Nat) (l1 : Int32) (l2 : Int32) (w : aW) (I : aI) (J : aJ) : Option aR :=
  if l1 = 0 then
    gO w 0 l0 (
    cI (Cl K d 160 [.ref l0, .int l1, .int l2] w I J) fun x_4 w_1 I_2 J_3 =>
    some (some (.int x_4), w_1, I_2, J_3))
  else
  if l1 = 1 then
    gO w 0 l0 (
    cI (Cl K d 160 [.ref l0, .int l1, .int l2] w I J) fun x_8 w_5 I_6 J_7 =>
    some (some (.int x_8), w_5, I_6, J_7))
  else
  if l1 = 2 then
    gO w 0 l0 (
    cI (Cl K d 160 [.ref l0, .int l1, .int l2] w I J) fun x_12 w_9 I_10 J_11 =>
    some (some (.int x_12), w_9, I_10, J_11))
  else
  if l1 = 3 then
    gO w 0 l0 (
    cI (Cl K d 160 [.ref l0, .int l1, .int l2] w I J) fun x_16 w_13 I_14 J_15 =>
    some (some (.int x_16), w_13, I_14, J_15))
  else
  if l1 = 4 then
    gO w 0 l0 (
    cI (Cl K d 163 [.ref l0, .int l2] w I J) fun x_20 w_17 I_18 J_19 =>
    some (some (.int x_20), w_17, I_18, J_19))
  else
  if l1 = 10 then
    gO w 0 l0 (
    cI (Cl K d 165 [.ref l0] w I J) fun x_24 w_21 I_22 J_23 =>
    some (some (.int x_24), w_21, I_22, J_23))
  else
  if l1 = 11 then
    gO w 0 l0 (
    cI (Cl K d 167 [.ref l0] w I J) fun x_28 w_25 I_26 J_27 =>
    some (some (.int x_28), w_25, I_26, J_27))
  else
  if l1 = 12 then
    gO w 0 l0 (
    cI (Cl K d 166 [.ref l0] w I J) fun x_32 w_29 I_30 J_31 =>
    some (some (.int x_32), w_29, I_30, J_31))
  else
  if l1 = 21 then
    gO w 0 l0 (
    gV w l0 1 fun q_33 =>
    gA w 10 20 q_33 4 (
    cI (Cl K d 146 [.int ((I q_33 (4 : Int32).toNatClampNeg) - 1)] w I J) fun x_37 w_34 I_35 J_36 =>
    gO w_34 0 l0 (
    cI (Cl K d 149 [.ref l0, .int 1] w_34 I_35 J_36) fun x_41 w_38 I_39 J_40 =>
    gO w_38 0 l0 (
    cV (Cl K d 144 [.ref l0, .int ((x_37 + 2) + l2), .int x_41] w_38 I_39 J_40) fun w_42 I_43 J_44 =>
    gO w_42 0 l0 (
    cI (Cl K d 164 [.ref l0, .int 1] w_42 I_43 J_44) fun x_48 w_45 I_46 J_47 =>
    some (some (.int x_48), w_45, I_46, J_47))))))
  else
  if l1 = 22 then
    gO w 0 l0 (
    cI (Cl K d 169 [.ref l0] w I J) fun x_52 w_49 I_50 J_51 =>
    some (some (.int x_52), w_49, I_50, J_51))
  else
  if l1 = 23 then
    gO w 0 l0 (
    cI (Cl K d 170 [.ref l0, .int l2] w I J) fun x_56 w_53 I_54 J_55 =>
    some (some (.int x_56), w_53, I_54, J_55))
  else
  if l1 = 24 then
    gO w 0 l0 (
    cI (Cl K d 162 [.ref l0, .int l2] w I J) fun x_60 w_57 I_58 J_59 =>
    some (some (.int x_60), w_57, I_58, J_59))
  else
  if l1 = 25 then
    gO w 0 l0 (
    cI (Cl K d 171 [.ref l0] w I J) fun x_64 w_61 I_62 J_63 =>
    some (some (.int x_64), w_61, I_62, J_63))
  else
  if l1 = 26 then
    gO w 0 l0 (
    cI (Cl K d 172 [.ref l0] w I J) fun x_68 w_65 I_66 J_67 =>
    some (some (.int x_68), w_65, I_66, J_67))
  else
  if l1 = 27 then
    gO w 0 l0 (
    cI (Cl K d 160 [.ref l0, .int l1, .int l2] w I J) fun x_72 w_69 I_70 J_71 =>
    some (some (.int x_72), w_69, I_70, J_71))
  else
  if 9 < l1 then
    gO w 0 l0 (
    cI (Cl K d 174 [.ref l0, .int l1] w I J) fun x_76 w_73 I_74 J_75 =>
    some (some (.int x_76), w_73, I_74, J_75))
  else
    gO w 0 l0 (
    cI (Cl K d 173 [.ref l0, .int l1] w I J) fun x_80 w_77 I_78 J_79 =>
    some (some (.int x_80), w_77, I_78, J_79))
theorem ok_159 {K : Nat → Value} {k d : Nat} {l0 : Nat} {l1 : Int32} {l2 : Int32} {w : aW} {I : aI} {J : aJ} {R : aR} (h : f_159 K k d l0 l1 l2 w I J = some R) : Go K (d + 1) 159 0 [some (.ref l0), some (.int l1), some (.int l2)] [] w I J R := by
  unfold f_159 at h
  refine gs_0 (pc' := 1) (L' := [some (.ref l0), some (.int l1), some (.int l2)]) (st' := [.int l1]) cd_159_0 rfl rfl ?_
  by_cases hc0 : l1 = 0
  · rw [if_pos hc0] at h
    refine gs_0 (pc' := 128) (L' := [some (.ref l0), some (.int l1), some (.int l2)]) (st' := []) cd_159_1 rfl (sw_159_1_0 hc0) ?_
    refine gs_0 (pc' := 129) (L' := [some (.ref l0), some (.int l1), some (.int l2)]) (st' := [.ref l0]) cd_159_128 rfl rfl ?_
    refine gs_0 (pc' := 130) (L' := [some (.ref l0), some (.int l1), some (.int l2)]) (st' := [.int l1, .ref l0]) cd_159_129 rfl rfl ?_
    refine gs_0 (pc' := 131) (L' := [some (.ref l0), some (.int l1), some (.int l2)]) (st' := [.int l2, .int l1, .ref l0]) cd_159_130 rfl rfl ?_
    obtain ⟨ht, h⟩ := gO_s h
    obtain ⟨x_4, w_1, I_2, J_3, hcl, h⟩ := cI_s h
    refine gs_call (as := [.ref l0, .int l1, .int l2]) (rest := []) cd_159_131 rfl (by decide) rfl (sm_rv_ok (by decide) ht) (Nat.le_of_ble_eq_true rfl) (Nat.le_of_ble_eq_true rfl) rfl hcl ?_
    cases h
    exact gs_ri cd_159_134 (Or.inl rfl)
  · rw [if_neg hc0] at h
    by_cases hc1 : l1 = 1
    · rw [if_pos hc1] at h
      refine gs_0 (pc' := 128) (L' := [some (.ref l0), some (.int l1), some (.int l2)]) (st' := []) cd_159_1 rfl (sw_159_1_1 hc1) ?_
      refine gs_0 (pc' := 129) (L' := [some (.ref l0), some (.int l1), some (.int l2)]) (st' := [.ref l0]) cd_159_128 rfl rfl ?_
      refine gs_0 (pc' := 130) (L' := [some (.ref l0), some (.int l1), some (.int l2)]) (st' := [.int l1, .ref l0]) cd_159_129 rfl rfl ?_
      refine gs_0 (pc' := 131) (L' := [some (.ref l0), some (.int l1), some (.int l2)]) (st' := [.int l2, .int l1, .ref l0]) cd_159_130 rfl rfl ?_
      obtain ⟨ht, h⟩ := gO_s h
      obtain ⟨x_8, w_5, I_6, J_7, hcl, h⟩ := cI_s h
      refine gs_call (as := [.ref l0, .int l1, .int l2]) (rest := []) cd_159_131 rfl (by decide) rfl (sm_rv_ok (by decide) ht) (Nat.le_of_ble_eq_true rfl) (Nat.le_of_ble_eq_true rfl) rfl hcl ?_
      cases h
      exact gs_ri cd_159_134 (Or.inl rfl)
    · rw [if_neg hc1] at h
      by_cases hc2 : l1 = 2
      · rw [if_pos hc2] at h
        refine gs_0 (pc' := 128) (L' := [some (.ref l0), some (.int l1), some (.int l2)]) (st' := []) cd_159_1 rfl (sw_159_1_2 hc2) ?_
        refine gs_0 (pc' := 129) (L' := [some (.ref l0), some (.int l1), some (.int l2)]) (st' := [.ref l0]) cd_159_128 rfl rfl ?_
        refine gs_0 (pc' := 130) (L' := [some (.ref l0), some (.int l1), some (.int l2)]) (st' := [.int l1, .ref l0]) cd_159_129 rfl rfl ?_
        refine gs_0 (pc' := 131) (L' := [some (.ref l0), some (.int l1), some (.int l2)]) (st' := [.int l2, .int l1, .ref l0]) cd_159_130 rfl rfl ?_
        obtain ⟨ht, h⟩ := gO_s h
        obtain ⟨x_12, w_9, I_10, J_11, hcl, h⟩ := cI_s h
        refine gs_call (as := [.ref l0, .int l1, .int l2]) (rest := []) cd_159_131 rfl (by decide) rfl (sm_rv_ok (by decide) ht) (Nat.le_of_ble_eq_true rfl) (Nat.le_of_ble_eq_true rfl) rfl hcl ?_
        cases h
        exact gs_ri cd_159_134 (Or.inl rfl)
      · rw [if_neg hc2] at h
        by_cases hc3 : l1 = 3
        · rw [if_pos hc3] at h
          refine gs_0 (pc' := 128) (L' := [some (.ref l0), some (.int l1), some (.int l2)]) (st' := []) cd_159_1 rfl (sw_159_1_3 hc3) ?_
          refine gs_0 (pc' := 129) (L' := [some (.ref l0), some (.int l1), some (.int l2)]) (st' := [.ref l0]) cd_159_128 rfl rfl ?_
          refine gs_0 (pc' := 130) (L' := [some (.ref l0), some (.int l1), some (.int l2)]) (st' := [.int l1, .ref l0]) cd_159_129 rfl rfl ?_
          refine gs_0 (pc' := 131) (L' := [some (.ref l0), some (.int l1), some (.int l2)]) (st' := [.int l2, .int l1, .ref l0]) cd_159_130 rfl rfl ?_
          obtain ⟨ht, h⟩ := gO_s h
          obtain ⟨x_16, w_13, I_14, J_15, hcl, h⟩ := cI_s h
          refine gs_call (as := [.ref l0, .int l1, .int l2]) (rest := []) cd_159_131 rfl (by decide) rfl (sm_rv_ok (by decide) ht) (Nat.le_of_ble_eq_true rfl) (Nat.le_of_ble_eq_true rfl) rfl hcl ?_
          cases h
          exact gs_ri cd_159_134 (Or.inl rfl)
        · rw [if_neg hc3] at h
          by_cases hc4 : l1 = 4
          · rw [if_pos hc4] at h
            refine gs_0 (pc' := 135) (L' := [some (.ref l0), some (.int l1), some (.int l2)]) (st' := []) cd_159_1 rfl (sw_159_1_4 hc4) ?_
            refine gs_0 (pc' := 136) (L' := [some (.ref l0), some (.int l1), some (.int l2)]) (st' := [.ref l0]) cd_159_135 rfl rfl ?_
            refine gs_0 (pc' := 137) (L' := [some (.ref l0), some (.int l1), some (.int l2)]) (st' := [.int l2, .ref l0]) cd_159_136 rfl rfl ?_
            obtain ⟨ht, h⟩ := gO_s h
            obtain ⟨x_20, w_17, I_18, J_19, hcl, h⟩ := cI_s h
            refine gs_call (as := [.ref l0, .int l2]) (rest := []) cd_159_137 rfl (by decide) rfl (sm_rv_ok (by decide) ht) (Nat.le_of_ble_eq_true rfl) (Nat.le_of_ble_eq_true rfl) rfl hcl ?_
            cases h
            exact gs_ri cd_159_140 (Or.inl rfl)
          · rw [if_neg hc4] at h
            by_cases hc5 : l1 = 10
            · rw [if_pos hc5] at h
              refine gs_0 (pc' := 141) (L' := [some (.ref l0), some (.int l1), some (.int l2)]) (st' := []) cd_159_1 rfl (sw_159_1_5 hc5) ?_
              refine gs_0 (pc' := 142) (L' := [some (.ref l0), some (.int l1), some (.int l2)]) (st' := [.ref l0]) cd_159_141 rfl rfl ?_
              obtain ⟨ht, h⟩ := gO_s h
              obtain ⟨x_24, w_21, I_22, J_23, hcl, h⟩ := cI_s h
              refine gs_call (as := [.ref l0]) (rest := []) cd_159_142 rfl (by decide) rfl (sm_rv_ok (by decide) ht) (Nat.le_of_ble_eq_true rfl) (Nat.le_of_ble_eq_true rfl) rfl hcl ?_
              cases h
              exact gs_ri cd_159_145 (Or.inl rfl)
            · rw [if_neg hc5] at h
              by_cases hc6 : l1 = 11
              · rw [if_pos hc6] at h
                refine gs_0 (pc' := 151) (L' := [some (.ref l0), some (.int l1), some (.int l2)]) (st' := []) cd_159_1 rfl (sw_159_1_6 hc6) ?_
                refine gs_0 (pc' := 152) (L' := [some (.ref l0), some (.int l1), some (.int l2)]) (st' := [.ref l0]) cd_159_151 rfl rfl ?_
                obtain ⟨ht, h⟩ := gO_s h
                obtain ⟨x_28, w_25, I_26, J_27, hcl, h⟩ := cI_s h
                refine gs_call (as := [.ref l0]) (rest := []) cd_159_152 rfl (by decide) rfl (sm_rv_ok (by decide) ht) (Nat.le_of_ble_eq_true rfl) (Nat.le_of_ble_eq_true rfl) rfl hcl ?_
                cases h
                exact gs_ri cd_159_155 (Or.inl rfl)
              · rw [if_neg hc6] at h
                by_cases hc7 : l1 = 12
                · rw [if_pos hc7] at h
                  refine gs_0 (pc' := 146) (L' := [some (.ref l0), some (.int l1), some (.int l2)]) (st' := []) cd_159_1 rfl (sw_159_1_7 hc7) ?_
                  refine gs_0 (pc' := 147) (L' := [some (.ref l0), some (.int l1), some (.int l2)]) (st' := [.ref l0]) cd_159_146 rfl rfl ?_
                  obtain ⟨ht, h⟩ := gO_s h
                  obtain ⟨x_32, w_29, I_30, J_31, hcl, h⟩ := cI_s h
                  refine gs_call (as := [.ref l0]) (rest := []) cd_159_147 rfl (by decide) rfl (sm_rv_ok (by decide) ht) (Nat.le_of_ble_eq_true rfl) (Nat.le_of_ble_eq_true rfl) rfl hcl ?_
                  cases h
                  exact gs_ri cd_159_150 (Or.inl rfl)
                · rw [if_neg hc7] at h
                  by_cases hc8 : l1 = 21
                  · rw [if_pos hc8] at h
                    refine gs_0 (pc' := 156) (L' := [some (.ref l0), some (.int l1), some (.int l2)]) (st' := []) cd_159_1 rfl (sw_159_1_8 hc8) ?_
                    refine gs_0 (pc' := 157) (L' := [some (.ref l0), some (.int l1), some (.int l2)]) (st' := [.ref l0]) cd_159_156 rfl rfl ?_
                    refine gs_0 (pc' := 158) (L' := [some (.ref l0), some (.int l1), some (.int l2)]) (st' := [.ref l0, .ref l0]) cd_159_157 rfl rfl ?_
                    obtain ⟨ht, h⟩ := gO_s h
                    obtain ⟨q_33, hv, h⟩ := gV_s h
                    refine gs_gfR cd_159_158 (by decide) ht hv ?_
                    refine gs_0 (pc' := 162) (L' := [some (.ref l0), some (.int l1), some (.int l2)]) (st' := [.int 4, .ref q_33, .ref l0]) cd_159_161 rfl rfl ?_
                    obtain ⟨ht, h⟩ := gA_s h
                    refine gs_iald cd_159_162 ht ?_
                    refine gs_0 (pc' := 164) (L' := [some (.ref l0), some (.int l1), some (.int l2)]) (st' := [.int 1, .int (I q_33 (4 : Int32).toNatClampNeg), .ref l0]) cd_159_163 rfl rfl ?_
                    refine gs_0 (pc' := 165) (L' := [some (.ref l0), some (.int l1), some (.int l2)]) (st' := [.int ((I q_33 (4 : Int32).toNatClampNeg) - 1), .ref l0]) cd_159_164 rfl rfl ?_
                    obtain ⟨x_37, w_34, I_35, J_36, hcl, h⟩ := cI_s h
                    refine gs_call (as := [.int ((I q_33 (4 : Int32).toNatClampNeg) - 1)]) (rest := [.ref l0]) cd_159_165 rfl (by decide) rfl rfl (Nat.le_of_ble_eq_true rfl) (Nat.le_of_ble_eq_true rfl) rfl hcl ?_
                    refine gs_0 (pc' := 169) (L' := [some (.ref l0), some (.int l1), some (.int l2)]) (st' := [.int 2, .int x_37, .ref l0]) cd_159_168 rfl rfl ?_
                    refine gs_0 (pc' := 170) (L' := [some (.ref l0), some (.int l1), some (.int l2)]) (st' := [.int (x_37 + 2), .ref l0]) cd_159_169 rfl rfl ?_
                    refine gs_0 (pc' := 171) (L' := [some (.ref l0), some (.int l1), some (.int l2)]) (st' := [.int l2, .int (x_37 + 2), .ref l0]) cd_159_170 rfl rfl ?_
                    refine gs_0 (pc' := 172) (L' := [some (.ref l0), some (.int l1), some (.int l2)]) (st' := [.int ((x_37 + 2) + l2), .ref l0]) cd_159_171 rfl rfl ?_
                    refine gs_0 (pc' := 173) (L' := [some (.ref l0), some (.int l1), some (.int l2)]) (st' := [.ref l0, .int ((x_37 + 2) + l2), .ref l0]) cd_159_172 rfl rfl ?_
                    refine gs_0 (pc' := 174) (L' := [some (.ref l0), some (.int l1), some (.int l2)]) (st' := [.int 1, .ref l0, .int ((x_37 + 2) + l2), .ref l0]) cd_159_173 rfl rfl ?_
                    obtain ⟨ht, h⟩ := gO_s h
                    obtain ⟨x_41, w_38, I_39, J_40, hcl, h⟩ := cI_s h
                    refine gs_call (as := [.ref l0, .int 1]) (rest := [.int ((x_37 + 2) + l2), .ref l0]) cd_159_174 rfl (by decide) rfl (sm_rv_ok (by decide) ht) (Nat.le_of_ble_eq_true rfl) (Nat.le_of_ble_eq_true rfl) rfl hcl ?_
                    obtain ⟨ht, h⟩ := gO_s h
                    obtain ⟨w_42, I_43, J_44, hcl, h⟩ := cV_s h
                    refine gs_call (as := [.ref l0, .int ((x_37 + 2) + l2), .int x_41]) (rest := []) cd_159_177 rfl (by decide) rfl (sm_rv_ok (by decide) ht) (Nat.le_of_ble_eq_true rfl) (Nat.le_of_ble_eq_true rfl) rfl hcl ?_
                    refine gs_0 (pc' := 181) (L' := [some (.ref l0), some (.int l1), some (.int l2)]) (st' := [.ref l0]) cd_159_180 rfl rfl ?_
                    refine gs_0 (pc' := 182) (L' := [some (.ref l0), some (.int l1), some (.int l2)]) (st' := [.int 1, .ref l0]) cd_159_181 rfl rfl ?_
                    obtain ⟨ht, h⟩ := gO_s h
                    obtain ⟨x_48, w_45, I_46, J_47, hcl, h⟩ := cI_s h
                    refine gs_call (as := [.ref l0, .int 1]) (rest := []) cd_159_182 rfl (by decide) rfl (sm_rv_ok (by decide) ht) (Nat.le_of_ble_eq_true rfl) (Nat.le_of_ble_eq_true rfl) rfl hcl ?_
                    cases h
                    exact gs_ri cd_159_185 (Or.inl rfl)
                  · rw [if_neg hc8] at h
                    by_cases hc9 : l1 = 22
                    · rw [if_pos hc9] at h
                      refine gs_0 (pc' := 186) (L' := [some (.ref l0), some (.int l1), some (.int l2)]) (st' := []) cd_159_1 rfl (sw_159_1_9 hc9) ?_
                      refine gs_0 (pc' := 187) (L' := [some (.ref l0), some (.int l1), some (.int l2)]) (st' := [.ref l0]) cd_159_186 rfl rfl ?_
                      obtain ⟨ht, h⟩ := gO_s h
                      obtain ⟨x_52, w_49, I_50, J_51, hcl, h⟩ := cI_s h
                      refine gs_call (as := [.ref l0]) (rest := []) cd_159_187 rfl (by decide) rfl (sm_rv_ok (by decide) ht) (Nat.le_of_ble_eq_true rfl) (Nat.le_of_ble_eq_true rfl) rfl hcl ?_
                      cases h
                      exact gs_ri cd_159_190 (Or.inl rfl)
                    · rw [if_neg hc9] at h
                      by_cases hc10 : l1 = 23
                      · rw [if_pos hc10] at h
                        refine gs_0 (pc' := 191) (L' := [some (.ref l0), some (.int l1), some (.int l2)]) (st' := []) cd_159_1 rfl (sw_159_1_10 hc10) ?_
                        refine gs_0 (pc' := 192) (L' := [some (.ref l0), some (.int l1), some (.int l2)]) (st' := [.ref l0]) cd_159_191 rfl rfl ?_
                        refine gs_0 (pc' := 193) (L' := [some (.ref l0), some (.int l1), some (.int l2)]) (st' := [.int l2, .ref l0]) cd_159_192 rfl rfl ?_
                        obtain ⟨ht, h⟩ := gO_s h
                        obtain ⟨x_56, w_53, I_54, J_55, hcl, h⟩ := cI_s h
                        refine gs_call (as := [.ref l0, .int l2]) (rest := []) cd_159_193 rfl (by decide) rfl (sm_rv_ok (by decide) ht) (Nat.le_of_ble_eq_true rfl) (Nat.le_of_ble_eq_true rfl) rfl hcl ?_
                        cases h
                        exact gs_ri cd_159_196 (Or.inl rfl)
                      · rw [if_neg hc10] at h
                        by_cases hc11 : l1 = 24
                        · rw [if_pos hc11] at h
                          refine gs_0 (pc' := 197) (L' := [some (.ref l0), some (.int l1), some (.int l2)]) (st' := []) cd_159_1 rfl (sw_159_1_11 hc11) ?_
                          refine gs_0 (pc' := 198) (L' := [some (.ref l0), some (.int l1), some (.int l2)]) (st' := [.ref l0]) cd_159_197 rfl rfl ?_
                          refine gs_0 (pc' := 199) (L' := [some (.ref l0), some (.int l1), some (.int l2)]) (st' := [.int l2, .ref l0]) cd_159_198 rfl rfl ?_
                          obtain ⟨ht, h⟩ := gO_s h
                          obtain ⟨x_60, w_57, I_58, J_59, hcl, h⟩ := cI_s h
                          refine gs_call (as := [.ref l0, .int l2]) (rest := []) cd_159_199 rfl (by decide) rfl (sm_rv_ok (by decide) ht) (Nat.le_of_ble_eq_true rfl) (Nat.le_of_ble_eq_true rfl) rfl hcl ?_
                          cases h
                          exact gs_ri cd_159_202 (Or.inl rfl)
                        · rw [if_neg hc11] at h
                          by_cases hc12 : l1 = 25
                          · rw [if_pos hc12] at h
                            refine gs_0 (pc' := 203) (L' := [some (.ref l0), some (.int l1), some (.int l2)]) (st' := []) cd_159_1 rfl (sw_159_1_12 hc12) ?_
                            refine gs_0 (pc' := 204) (L' := [some (.ref l0), some (.int l1), some (.int l2)]) (st' := [.ref l0]) cd_159_203 rfl rfl ?_
                            obtain ⟨ht, h⟩ := gO_s h
                            obtain ⟨x_64, w_61, I_62, J_63, hcl, h⟩ := cI_s h
                            refine gs_call (as := [.ref l0]) (rest := []) cd_159_204 rfl (by decide) rfl (sm_rv_ok (by decide) ht) (Nat.le_of_ble_eq_true rfl) (Nat.le_of_ble_eq_true rfl) rfl hcl ?_
                            cases h
                            exact gs_ri cd_159_207 (Or.inl rfl)
                          · rw [if_neg hc12] at h
                            by_cases hc13 : l1 = 26
                            · rw [if_pos hc13] at h
                              refine gs_0 (pc' := 208) (L' := [some (.ref l0), some (.int l1), some (.int l2)]) (st' := []) cd_159_1 rfl (sw_159_1_13 hc13) ?_
                              refine gs_0 (pc' := 209) (L' := [some (.ref l0), some (.int l1), some (.int l2)]) (st' := [.ref l0]) cd_159_208 rfl rfl ?_
                              obtain ⟨ht, h⟩ := gO_s h
                              obtain ⟨x_68, w_65, I_66, J_67, hcl, h⟩ := cI_s h
                              refine gs_call (as := [.ref l0]) (rest := []) cd_159_209 rfl (by decide) rfl (sm_rv_ok (by decide) ht) (Nat.le_of_ble_eq_true rfl) (Nat.le_of_ble_eq_true rfl) rfl hcl ?_
                              cases h
                              exact gs_ri cd_159_212 (Or.inl rfl)
                            · rw [if_neg hc13] at h
                              by_cases hc14 : l1 = 27
                              · rw [if_pos hc14] at h
                                refine gs_0 (pc' := 128) (L' := [some (.ref l0), some (.int l1), some (.int l2)]) (st' := []) cd_159_1 rfl (sw_159_1_14 hc14) ?_
                                refine gs_0 (pc' := 129) (L' := [some (.ref l0), some (.int l1), some (.int l2)]) (st' := [.ref l0]) cd_159_128 rfl rfl ?_
                                refine gs_0 (pc' := 130) (L' := [some (.ref l0), some (.int l1), some (.int l2)]) (st' := [.int l1, .ref l0]) cd_159_129 rfl rfl ?_
                                refine gs_0 (pc' := 131) (L' := [some (.ref l0), some (.int l1), some (.int l2)]) (st' := [.int l2, .int l1, .ref l0]) cd_159_130 rfl rfl ?_
                                obtain ⟨ht, h⟩ := gO_s h
                                obtain ⟨x_72, w_69, I_70, J_71, hcl, h⟩ := cI_s h
                                refine gs_call (as := [.ref l0, .int l1, .int l2]) (rest := []) cd_159_131 rfl (by decide) rfl (sm_rv_ok (by decide) ht) (Nat.le_of_ble_eq_true rfl) (Nat.le_of_ble_eq_true rfl) rfl hcl ?_
                                cases h
                                exact gs_ri cd_159_134 (Or.inl rfl)
                              · rw [if_neg hc14] at h
                                refine gs_0 (pc' := 213) (L' := [some (.ref l0), some (.int l1), some (.int l2)]) (st' := []) cd_159_1 rfl (sw_159_1_d hc0 hc1 hc2 hc3 hc4 hc5 hc6 hc7 hc8 hc9 hc10 hc11 hc12 hc13 hc14) ?_
                                refine gs_0 (pc' := 214) (L' := [some (.ref l0), some (.int l1), some (.int l2)]) (st' := [.int l1]) cd_159_213 rfl rfl ?_
                                refine gs_0 (pc' := 216) (L' := [some (.ref l0), some (.int l1), some (.int l2)]) (st' := [.int 9, .int l1]) cd_159_214 rfl rfl ?_
                                refine gs_0 (pc' := if 9 < l1 then 227 else 219) (L' := [some (.ref l0), some (.int l1), some (.int l2)]) (st' := []) cd_159_216 rfl rfl ?_
                                refine go_ite (fun hc => ?_) (fun hc => ?_)
                                · rw [if_pos hc] at h
                                  refine gs_0 (pc' := 228) (L' := [some (.ref l0), some (.int l1), some (.int l2)]) (st' := [.ref l0]) cd_159_227 rfl rfl ?_
                                  refine gs_0 (pc' := 229) (L' := [some (.ref l0), some (.int l1), some (.int l2)]) (st' := [.int l1, .ref l0]) cd_159_228 rfl rfl ?_
                                  obtain ⟨ht, h⟩ := gO_s h
                                  obtain ⟨x_76, w_73, I_74, J_75, hcl, h⟩ := cI_s h
                                  refine gs_call (as := [.ref l0, .int l1]) (rest := []) cd_159_229 rfl (by decide) rfl (sm_rv_ok (by decide) ht) (Nat.le_of_ble_eq_true rfl) (Nat.le_of_ble_eq_true rfl) rfl hcl ?_
                                  cases h
                                  exact gs_ri cd_159_232 (Or.inl rfl)
                                · rw [if_neg hc] at h
                                  refine gs_0 (pc' := 220) (L' := [some (.ref l0), some (.int l1), some (.int l2)]) (st' := [.ref l0]) cd_159_219 rfl rfl ?_
                                  refine gs_0 (pc' := 221) (L' := [some (.ref l0), some (.int l1), some (.int l2)]) (st' := [.int l1, .ref l0]) cd_159_220 rfl rfl ?_
                                  obtain ⟨ht, h⟩ := gO_s h
                                  obtain ⟨x_80, w_77, I_78, J_79, hcl, h⟩ := cI_s h
                                  refine gs_call (as := [.ref l0, .int l1]) (rest := []) cd_159_221 rfl (by decide) rfl (sm_rv_ok (by decide) ht) (Nat.le_of_ble_eq_true rfl) (Nat.le_of_ble_eq_true rfl) rfl hcl ?_
                                  refine gs_0 (pc' := 232) (L' := [some (.ref l0), some (.int l1), some (.int l2)]) (st' := [.int x_80]) cd_159_224 rfl rfl ?_
                                  cases h
                                  exact gs_ri cd_159_232 (Or.inl rfl)
theorem cl_159 {K : Nat → Value} {k d : Nat} {l0 : Nat} {l1 : Int32} {l2 : Int32} {w : aW} {I : aI} {J : aJ} {R : aR} (h : f_159 K k d l0 l1 l2 w I J = some R) : Cl K (d + 1) 159 [.ref l0, .int l1, .int l2] w I J = some R := Cl_of (ok_159 h)

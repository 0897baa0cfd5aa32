/-! methods as functions, by own program (wip/whole/gen_f.py) -/
/-! ProvedMachine.finding(I)J -/
theorem gl_17 : gcd.lookup 17 = some gw_17 := rfl
theorem cd_17_0 : sm_cd 17 0 = some (.iload_n 1, 1, 1, 0, 0, 0, 0, 0, 0) := cd_of gl_17 rfl
theorem cd_17_1 : sm_cd 17 1 = some (.ifCond .lt 22, 3, 23, 0, 0, 0, 0, 0, 0) := cd_of gl_17 rfl
theorem cd_17_4 : sm_cd 17 4 = some (.iload_n 1, 1, 1, 0, 0, 0, 0, 0, 0) := cd_of gl_17 rfl
theorem cd_17_5 : sm_cd 17 5 = some (.aload_n 0, 1, 0, 0, 0, 0, 0, 0, 0) := cd_of gl_17 rfl
theorem cd_17_6 : sm_cd 17 6 = some (.getfield 48, 3, 5, 7, 2, 0, 0, 0, 0) := cd_of gl_17 rfl
theorem cd_17_9 : sm_cd 17 9 = some (.arraylength, 1, 0, 0, 0, 0, 0, 0, 0) := cd_of gl_17 rfl
theorem cd_17_10 : sm_cd 17 10 = some (.if_icmp .ge 13, 3, 23, 0, 0, 0, 0, 0, 0) := cd_of gl_17 rfl
theorem cd_17_13 : sm_cd 17 13 = some (.aload_n 0, 1, 0, 0, 0, 0, 0, 0, 0) := cd_of gl_17 rfl
theorem cd_17_14 : sm_cd 17 14 = some (.getfield 48, 3, 5, 7, 2, 0, 0, 0, 0) := cd_of gl_17 rfl
theorem cd_17_17 : sm_cd 17 17 = some (.iload_n 1, 1, 1, 0, 0, 0, 0, 0, 0) := cd_of gl_17 rfl
theorem cd_17_18 : sm_cd 17 18 = some (.dup2, 1, 0, 0, 0, 0, 0, 0, 0) := cd_of gl_17 rfl
theorem cd_17_19 : sm_cd 17 19 = some (.iaload, 1, 0, 0, 0, 0, 0, 0, 0) := cd_of gl_17 rfl
theorem cd_17_20 : sm_cd 17 20 = some (.iconst 1, 1, 0, 0, 0, 0, 0, 1, 0) := cd_of gl_17 rfl
theorem cd_17_21 : sm_cd 17 21 = some (.iadd, 1, 0, 0, 0, 0, 0, 0, 0) := cd_of gl_17 rfl
theorem cd_17_22 : sm_cd 17 22 = some (.iastore, 1, 0, 0, 0, 0, 0, 0, 0) := cd_of gl_17 rfl
theorem cd_17_23 : sm_cd 17 23 = some (.ldc2_w 193, 3, 0, 0, 0, 0, 0, 0, (-9000000000000000)) := cd_of gl_17 rfl
theorem cd_17_26 : sm_cd 17 26 = some (.iload_n 1, 1, 1, 0, 0, 0, 0, 0, 0) := cd_of gl_17 rfl
theorem cd_17_27 : sm_cd 17 27 = some (.i2l, 1, 0, 0, 0, 0, 0, 0, 0) := cd_of gl_17 rfl
theorem cd_17_28 : sm_cd 17 28 = some (.lsub, 1, 0, 0, 0, 0, 0, 0, 0) := cd_of gl_17 rfl
theorem cd_17_29 : sm_cd 17 29 = some (.lreturn, 1, 0, 0, 0, 0, 0, 0, 0) := cd_of gl_17 rfl
noncomputable def f_17_23 (K : Nat → Value) (k d : Nat) (l0 : Nat) (l1 : Int32) (w : aW) (I : aI) (J : aJ) : Option aR :=
  some (some (.long ((-9000000000000000) - ((l1 : Int32).toInt64))), w, I, J)
theorem ok_17_23 {K : Nat → Value} {k d : Nat} {l0 : Nat} {l1 : Int32} {w : aW} {I : aI} {J : aJ} {R : aR} (h : f_17_23 K k d l0 l1 w I J = some R) : Go K (d + 1) 17 23 [some (.ref l0), some (.int l1)] [] w I J R := by
  unfold f_17_23 at h
  refine gs_0 (pc' := 26) (L' := [some (.ref l0), some (.int l1)]) (st' := [.long ((-9000000000000000))]) cd_17_23 rfl rfl ?_
  refine gs_0 (pc' := 27) (L' := [some (.ref l0), some (.int l1)]) (st' := [.int l1, .long ((-9000000000000000))]) cd_17_26 rfl rfl ?_
  refine gs_0 (pc' := 28) (L' := [some (.ref l0), some (.int l1)]) (st' := [.long ((l1 : Int32).toInt64), .long ((-9000000000000000))]) cd_17_27 rfl rfl ?_
  refine gs_0 (pc' := 29) (L' := [some (.ref l0), some (.int l1)]) (st' := [.long ((-9000000000000000) - ((l1 : Int32).toInt64))]) cd_17_28 rfl rfl ?_
  cases h
  exact gsr cd_17_29 rfl rfl
noncomputable def f_17 (K : Nat → Value) (k d : Nat) (l0 : Nat) (l1 : Int32) (w : aW) (I : aI) (J : aJ) : Option aR :=
  if l1 < 0 then
    f_17_23 K k d l0 l1 w I J
  else
    gO w 5 l0 (
    gV w l0 7 fun q_1 =>
    gL w q_1 fun n_2 =>
    if n_2 ≤ l1 then
      f_17_23 K k d l0 l1 w I J
    else
      gO w 5 l0 (
      gV w l0 7 fun q_3 =>
      gA w 10 20 q_3 l1 (
      gA w 10 10 q_3 l1 (
      lt_ (sm_up2 I q_3 (l1 : Int32).toNatClampNeg ((I q_3 (l1 : Int32).toNatClampNeg) + 1)) fun I_4 =>
      f_17_23 K k d l0 l1 w I_4 J))))
theorem ok_17 {K : Nat → Value} {k d : Nat} {l0 : Nat} {l1 : Int32} {w : aW} {I : aI} {J : aJ} {R : aR} (h : f_17 K k d l0 l1 w I J = some R) : Go K (d + 1) 17 0 [some (.ref l0), some (.int l1)] [] w I J R := by
  unfold f_17 at h
  refine gs_0 (pc' := 1) (L' := [some (.ref l0), some (.int l1)]) (st' := [.int l1]) cd_17_0 rfl rfl ?_
  refine gs_0 (pc' := if l1 < 0 then 23 else 4) (L' := [some (.ref l0), some (.int l1)]) (st' := []) cd_17_1 rfl rfl ?_
  refine go_ite (fun hc => ?_) (fun hc => ?_)
  · rw [if_pos hc] at h
    exact ok_17_23 h
  · rw [if_neg hc] at h
    refine gs_0 (pc' := 5) (L' := [some (.ref l0), some (.int l1)]) (st' := [.int l1]) cd_17_4 rfl rfl ?_
    refine gs_0 (pc' := 6) (L' := [some (.ref l0), some (.int l1)]) (st' := [.ref l0, .int l1]) cd_17_5 rfl rfl ?_
    obtain ⟨ht, h⟩ := gO_s h
    obtain ⟨q_1, hv, h⟩ := gV_s h
    refine gs_gfR cd_17_6 ht hv ?_
    obtain ⟨t0, n0, ht, ht2, h⟩ := gL_s h
    refine gs_alen cd_17_9 ht ht2 ?_
    generalize Int32.ofNat n0 = n_2 at h ⊢
    refine gs_0 (pc' := if n_2 ≤ l1 then 23 else 13) (L' := [some (.ref l0), some (.int l1)]) (st' := []) cd_17_10 rfl rfl ?_
    refine go_ite (fun hc => ?_) (fun hc => ?_)
    · rw [if_pos hc] at h
      exact ok_17_23 h
    · rw [if_neg hc] at h
      refine gs_0 (pc' := 14) (L' := [some (.ref l0), some (.int l1)]) (st' := [.ref l0]) cd_17_13 rfl rfl ?_
      obtain ⟨ht, h⟩ := gO_s h
      obtain ⟨q_3, hv, h⟩ := gV_s h
      refine gs_gfR cd_17_14 ht hv ?_
      refine gs_0 (pc' := 18) (L' := [some (.ref l0), some (.int l1)]) (st' := [.int l1, .ref q_3]) cd_17_17 rfl rfl ?_
      refine gs_0 (pc' := 19) (L' := [some (.ref l0), some (.int l1)]) (st' := [.int l1, .ref q_3, .int l1, .ref q_3]) cd_17_18 rfl rfl ?_
      obtain ⟨ht, h⟩ := gA_s h
      refine gs_iald cd_17_19 ht ?_
      refine gs_0 (pc' := 21) (L' := [some (.ref l0), some (.int l1)]) (st' := [.int 1, .int (I q_3 (l1 : Int32).toNatClampNeg), .int l1, .ref q_3]) cd_17_20 rfl rfl ?_
      refine gs_0 (pc' := 22) (L' := [some (.ref l0), some (.int l1)]) (st' := [.int ((I q_3 (l1 : Int32).toNatClampNeg) + 1), .int l1, .ref q_3]) cd_17_21 rfl rfl ?_
      obtain ⟨ht, h⟩ := gA_s h
      refine gs_iast cd_17_22 ht ?_
      obtain ⟨I_4, hx, h⟩ := lt_s_ h
      rw [hx]
      exact ok_17_23 h
theorem cl_17 {K : Nat → Value} {k d : Nat} {l0 : Nat} {l1 : Int32} {w : aW} {I : aI} {J : aJ} {R : aR} (h : f_17 K k d l0 l1 w I J = some R) : Cl K (d + 1) 17 [.ref l0, .int l1] w I J = some R := Cl_of (ok_17 h)
/-! ProvedMachineModel.within(III)Z -/
theorem gl_19 : gcd.lookup 19 = some gw_19 := rfl
theorem cd_19_0 : sm_cd 19 0 = some (.iload_n 0, 1, 0, 0, 0, 0, 0, 0, 0) := cd_of gl_19 rfl
theorem cd_19_1 : sm_cd 19 1 = some (.iload_n 1, 1, 1, 0, 0, 0, 0, 0, 0) := cd_of gl_19 rfl
theorem cd_19_2 : sm_cd 19 2 = some (.if_icmp .lt 12, 3, 14, 0, 0, 0, 0, 0, 0) := cd_of gl_19 rfl
theorem cd_19_5 : sm_cd 19 5 = some (.iload_n 0, 1, 0, 0, 0, 0, 0, 0, 0) := cd_of gl_19 rfl
theorem cd_19_6 : sm_cd 19 6 = some (.iload_n 2, 1, 2, 0, 0, 0, 0, 0, 0) := cd_of gl_19 rfl
theorem cd_19_7 : sm_cd 19 7 = some (.if_icmp .gt 7, 3, 14, 0, 0, 0, 0, 0, 0) := cd_of gl_19 rfl
theorem cd_19_10 : sm_cd 19 10 = some (.iconst 1, 1, 0, 0, 0, 0, 0, 1, 0) := cd_of gl_19 rfl
theorem cd_19_11 : sm_cd 19 11 = some (.goto 4, 3, 15, 0, 0, 0, 0, 0, 0) := cd_of gl_19 rfl
theorem cd_19_14 : sm_cd 19 14 = some (.iconst 0, 1, 0, 0, 0, 0, 0, 0, 0) := cd_of gl_19 rfl
theorem cd_19_15 : sm_cd 19 15 = some (.ireturn, 1, 0, 0, 2, 0, 0, 0, 0) := cd_of gl_19 rfl
noncomputable def f_19 (K : Nat → Value) (k d : Nat) (l0 : Int32) (l1 : Int32) (l2 : Int32) (w : aW) (I : aI) (J : aJ) : Option aR :=
  if l0 < l1 then
    some (some (.int 0), w, I, J)
  else
    if l2 < l0 then
      some (some (.int 0), w, I, J)
    else
      some (some (.int 1), w, I, J)
theorem ok_19 {K : Nat → Value} {k d : Nat} {l0 : Int32} {l1 : Int32} {l2 : Int32} {w : aW} {I : aI} {J : aJ} {R : aR} (h : f_19 K k d l0 l1 l2 w I J = some R) : Go K (d + 1) 19 0 [some (.int l0), some (.int l1), some (.int l2)] [] w I J R := by
  unfold f_19 at h
  refine gs_0 (pc' := 1) (L' := [some (.int l0), some (.int l1), some (.int l2)]) (st' := [.int l0]) cd_19_0 rfl rfl ?_
  refine gs_0 (pc' := 2) (L' := [some (.int l0), some (.int l1), some (.int l2)]) (st' := [.int l1, .int l0]) cd_19_1 rfl rfl ?_
  refine gs_0 (pc' := if l0 < l1 then 14 else 5) (L' := [some (.int l0), some (.int l1), some (.int l2)]) (st' := []) cd_19_2 rfl rfl ?_
  refine go_ite (fun hc => ?_) (fun hc => ?_)
  · rw [if_pos hc] at h
    refine gs_0 (pc' := 15) (L' := [some (.int l0), some (.int l1), some (.int l2)]) (st' := [.int 0]) cd_19_14 rfl rfl ?_
    cases h
    exact gs_ri cd_19_15 (Or.inr (Or.inl ⟨rfl, Or.inl rfl⟩))
  · rw [if_neg hc] at h
    refine gs_0 (pc' := 6) (L' := [some (.int l0), some (.int l1), some (.int l2)]) (st' := [.int l0]) cd_19_5 rfl rfl ?_
    refine gs_0 (pc' := 7) (L' := [some (.int l0), some (.int l1), some (.int l2)]) (st' := [.int l2, .int l0]) cd_19_6 rfl rfl ?_
    refine gs_0 (pc' := if l2 < l0 then 14 else 10) (L' := [some (.int l0), some (.int l1), some (.int l2)]) (st' := []) cd_19_7 rfl rfl ?_
    refine go_ite (fun hc => ?_) (fun hc => ?_)
    · rw [if_pos hc] at h
      refine gs_0 (pc' := 15) (L' := [some (.int l0), some (.int l1), some (.int l2)]) (st' := [.int 0]) cd_19_14 rfl rfl ?_
      cases h
      exact gs_ri cd_19_15 (Or.inr (Or.inl ⟨rfl, Or.inl rfl⟩))
    · rw [if_neg hc] at h
      refine gs_0 (pc' := 11) (L' := [some (.int l0), some (.int l1), some (.int l2)]) (st' := [.int 1]) cd_19_10 rfl rfl ?_
      refine gs_0 (pc' := 15) (L' := [some (.int l0), some (.int l1), some (.int l2)]) (st' := [.int 1]) cd_19_11 rfl rfl ?_
      cases h
      exact gs_ri cd_19_15 (Or.inr (Or.inl ⟨rfl, Or.inr rfl⟩))
theorem cl_19 {K : Nat → Value} {k d : Nat} {l0 : Int32} {l1 : Int32} {l2 : Int32} {w : aW} {I : aI} {J : aJ} {R : aR} (h : f_19 K k d l0 l1 l2 w I J = some R) : Cl K (d + 1) 19 [.int l0, .int l1, .int l2] w I J = some R := Cl_of (ok_19 h)
/-! ProvedMachineModel.finding(I)J -/
theorem gl_20 : gcd.lookup 20 = some gw_20 := rfl
theorem cd_20_0 : sm_cd 20 0 = some (.aload_n 0, 1, 0, 0, 0, 0, 0, 0, 0) := cd_of gl_20 rfl
theorem cd_20_1 : sm_cd 20 1 = some (.getfield 7, 3, 6, 0, 2, 0, 0, 0, 0) := cd_of gl_20 rfl
theorem cd_20_4 : sm_cd 20 4 = some (.iload_n 1, 1, 1, 0, 0, 0, 0, 0, 0) := cd_of gl_20 rfl
theorem cd_20_5 : sm_cd 20 5 = some (.dup2, 1, 0, 0, 0, 0, 0, 0, 0) := cd_of gl_20 rfl
theorem cd_20_6 : sm_cd 20 6 = some (.iaload, 1, 0, 0, 0, 0, 0, 0, 0) := cd_of gl_20 rfl
theorem cd_20_7 : sm_cd 20 7 = some (.iconst 1, 1, 0, 0, 0, 0, 0, 1, 0) := cd_of gl_20 rfl
theorem cd_20_8 : sm_cd 20 8 = some (.iadd, 1, 0, 0, 0, 0, 0, 0, 0) := cd_of gl_20 rfl
theorem cd_20_9 : sm_cd 20 9 = some (.iastore, 1, 0, 0, 0, 0, 0, 0, 0) := cd_of gl_20 rfl
theorem cd_20_10 : sm_cd 20 10 = some (.ldc2_w 142, 3, 0, 0, 0, 0, 0, 0, (-9000000000000000)) := cd_of gl_20 rfl
theorem cd_20_13 : sm_cd 20 13 = some (.iload_n 1, 1, 1, 0, 0, 0, 0, 0, 0) := cd_of gl_20 rfl
theorem cd_20_14 : sm_cd 20 14 = some (.i2l, 1, 0, 0, 0, 0, 0, 0, 0) := cd_of gl_20 rfl
theorem cd_20_15 : sm_cd 20 15 = some (.lsub, 1, 0, 0, 0, 0, 0, 0, 0) := cd_of gl_20 rfl
theorem cd_20_16 : sm_cd 20 16 = some (.lreturn, 1, 0, 0, 0, 0, 0, 0, 0) := cd_of gl_20 rfl
noncomputable def f_20 (K : Nat → Value) (k d : Nat) (l0 : Nat) (l1 : Int32) (w : aW) (I : aI) (J : aJ) : Option aR :=
  gO w 6 l0 (
  gV w l0 0 fun q_1 =>
  gA w 10 20 q_1 l1 (
  gA w 10 10 q_1 l1 (
  lt_ (sm_up2 I q_1 (l1 : Int32).toNatClampNeg ((I q_1 (l1 : Int32).toNatClampNeg) + 1)) fun I_2 =>
  some (some (.long ((-9000000000000000) - ((l1 : Int32).toInt64))), w, I_2, J))))
theorem ok_20 {K : Nat → Value} {k d : Nat} {l0 : Nat} {l1 : Int32} {w : aW} {I : aI} {J : aJ} {R : aR} (h : f_20 K k d l0 l1 w I J = some R) : Go K (d + 1) 20 0 [some (.ref l0), some (.int l1)] [] w I J R := by
  unfold f_20 at h
  refine gs_0 (pc' := 1) (L' := [some (.ref l0), some (.int l1)]) (st' := [.ref l0]) cd_20_0 rfl rfl ?_
  obtain ⟨ht, h⟩ := gO_s h
  obtain ⟨q_1, hv, h⟩ := gV_s h
  refine gs_gfR cd_20_1 ht hv ?_
  refine gs_0 (pc' := 5) (L' := [some (.ref l0), some (.int l1)]) (st' := [.int l1, .ref q_1]) cd_20_4 rfl rfl ?_
  refine gs_0 (pc' := 6) (L' := [some (.ref l0), some (.int l1)]) (st' := [.int l1, .ref q_1, .int l1, .ref q_1]) cd_20_5 rfl rfl ?_
  obtain ⟨ht, h⟩ := gA_s h
  refine gs_iald cd_20_6 ht ?_
  refine gs_0 (pc' := 8) (L' := [some (.ref l0), some (.int l1)]) (st' := [.int 1, .int (I q_1 (l1 : Int32).toNatClampNeg), .int l1, .ref q_1]) cd_20_7 rfl rfl ?_
  refine gs_0 (pc' := 9) (L' := [some (.ref l0), some (.int l1)]) (st' := [.int ((I q_1 (l1 : Int32).toNatClampNeg) + 1), .int l1, .ref q_1]) cd_20_8 rfl rfl ?_
  obtain ⟨ht, h⟩ := gA_s h
  refine gs_iast cd_20_9 ht ?_
  obtain ⟨I_2, hx, h⟩ := lt_s_ h
  rw [hx]
  refine gs_0 (pc' := 13) (L' := [some (.ref l0), some (.int l1)]) (st' := [.long ((-9000000000000000))]) cd_20_10 rfl rfl ?_
  refine gs_0 (pc' := 14) (L' := [some (.ref l0), some (.int l1)]) (st' := [.int l1, .long ((-9000000000000000))]) cd_20_13 rfl rfl ?_
  refine gs_0 (pc' := 15) (L' := [some (.ref l0), some (.int l1)]) (st' := [.long ((l1 : Int32).toInt64), .long ((-9000000000000000))]) cd_20_14 rfl rfl ?_
  refine gs_0 (pc' := 16) (L' := [some (.ref l0), some (.int l1)]) (st' := [.long ((-9000000000000000) - ((l1 : Int32).toInt64))]) cd_20_15 rfl rfl ?_
  cases h
  exact gsr cd_20_16 rfl rfl
theorem cl_20 {K : Nat → Value} {k d : Nat} {l0 : Nat} {l1 : Int32} {w : aW} {I : aI} {J : aJ} {R : aR} (h : f_20 K k d l0 l1 w I J = some R) : Cl K (d + 1) 20 [.ref l0, .int l1] w I J = some R := Cl_of (ok_20 h)
/-! ProvedMachineModel.copyRow([II[III)V -/
theorem gl_177 : gcd.lookup 177 = some gw_177 := rfl
theorem cd_177_0 : sm_cd 177 0 = some (.iconst 0, 1, 0, 0, 0, 0, 0, 0, 0) := cd_of gl_177 rfl
theorem cd_177_1 : sm_cd 177 1 = some (.istore 5, 2, 5, 0, 0, 0, 0, 0, 0) := cd_of gl_177 rfl
theorem cd_177_3 : sm_cd 177 3 = some (.iload 5, 2, 5, 0, 0, 0, 0, 0, 0) := cd_of gl_177 rfl
theorem cd_177_5 : sm_cd 177 5 = some (.iload 4, 2, 4, 0, 0, 0, 0, 0, 0) := cd_of gl_177 rfl
theorem cd_177_7 : sm_cd 177 7 = some (.if_icmp .ge 21, 3, 28, 0, 0, 0, 0, 0, 0) := cd_of gl_177 rfl
theorem cd_177_10 : sm_cd 177 10 = some (.aload_n 2, 1, 2, 0, 0, 0, 0, 0, 0) := cd_of gl_177 rfl
theorem cd_177_11 : sm_cd 177 11 = some (.iload_n 3, 1, 3, 0, 0, 0, 0, 0, 0) := cd_of gl_177 rfl
theorem cd_177_12 : sm_cd 177 12 = some (.iload 5, 2, 5, 0, 0, 0, 0, 0, 0) := cd_of gl_177 rfl
theorem cd_177_14 : sm_cd 177 14 = some (.iadd, 1, 0, 0, 0, 0, 0, 0, 0) := cd_of gl_177 rfl
theorem cd_177_15 : sm_cd 177 15 = some (.aload_n 0, 1, 0, 0, 0, 0, 0, 0, 0) := cd_of gl_177 rfl
theorem cd_177_16 : sm_cd 177 16 = some (.iload_n 1, 1, 1, 0, 0, 0, 0, 0, 0) := cd_of gl_177 rfl
theorem cd_177_17 : sm_cd 177 17 = some (.iload 5, 2, 5, 0, 0, 0, 0, 0, 0) := cd_of gl_177 rfl
theorem cd_177_19 : sm_cd 177 19 = some (.iadd, 1, 0, 0, 0, 0, 0, 0, 0) := cd_of gl_177 rfl
theorem cd_177_20 : sm_cd 177 20 = some (.iaload, 1, 0, 0, 0, 0, 0, 0, 0) := cd_of gl_177 rfl
theorem cd_177_21 : sm_cd 177 21 = some (.iastore, 1, 0, 0, 0, 0, 0, 0, 0) := cd_of gl_177 rfl
theorem cd_177_22 : sm_cd 177 22 = some (.iinc 5 1, 3, 5, 0, 0, 0, 0, 1, 0) := cd_of gl_177 rfl
theorem cd_177_25 : sm_cd 177 25 = some (.goto (-22), 3, 3, 0, 0, 0, 0, 0, 0) := cd_of gl_177 rfl
theorem cd_177_28 : sm_cd 177 28 = some (.return_, 1, 0, 0, 0, 0, 0, 0, 0) := cd_of gl_177 rfl
noncomputable def f_177_3 (K : Nat → Value) (k : Nat) (d : Nat) : Nat → Int32 → Nat → Int32 → Int32 → Int32 → aW → aI → aJ → Option aR :=
  match k with
  | 0 => fun _ _ _ _ _ _ _ _ _ => none
  | k + 1 => fun l0 l1 l2 l3 l4 l5 w I J =>
  lt_ (f_177_3 K k d) fun r3 =>
  if l4 ≤ l5 then
    some (none, w, I, J)
  else
    gA w 10 20 l0 (l1 + l5) (
    gA w 10 10 l2 (l3 + l5) (
    lt_ (sm_up2 I l2 (l3 + l5 : Int32).toNatClampNeg (I l0 (l1 + l5 : Int32).toNatClampNeg)) fun I_1 =>
    lt_ (l5 + 1) fun x_2 =>
    r3 l0 l1 l2 l3 l4 x_2 w I_1 J))
theorem ok_177_3 {K : Nat → Value} {d : Nat} : ∀ {k : Nat} {l0 : Nat} {l1 : Int32} {l2 : Nat} {l3 : Int32} {l4 : Int32} {l5 : Int32} {w : aW} {I : aI} {J : aJ} {R : aR}, f_177_3 K k d l0 l1 l2 l3 l4 l5 w I J = some R → Go K (d + 1) 177 3 [some (.ref l0), some (.int l1), some (.ref l2), some (.int l3), some (.int l4), some (.int l5)] [] w I J R := by
  intro k
  induction k with
  | zero => intro l0 l1 l2 l3 l4 l5 w I J R h; cases h
  | succ k ih =>
    intro l0 l1 l2 l3 l4 l5 w I J R h
    have hr3 : ∀ (l0 : Nat) (l1 : Int32) (l2 : Nat) (l3 : Int32) (l4 : Int32) (l5 : Int32) (w : aW) (I : aI) (J : aJ) (R : aR), f_177_3 K k d l0 l1 l2 l3 l4 l5 w I J = some R → Go K (d + 1) 177 3 [some (.ref l0), some (.int l1), some (.ref l2), some (.int l3), some (.int l4), some (.int l5)] [] w I J R := fun l0 l1 l2 l3 l4 l5 w I J R h => ih h
    rw [f_177_3] at h
    obtain ⟨r3, hx, h⟩ := lt_s_ h
    rw [hx] at hr3
    clear hx ih
    refine gs_0 (pc' := 5) (L' := [some (.ref l0), some (.int l1), some (.ref l2), some (.int l3), some (.int l4), some (.int l5)]) (st' := [.int l5]) cd_177_3 rfl rfl ?_
    refine gs_0 (pc' := 7) (L' := [some (.ref l0), some (.int l1), some (.ref l2), some (.int l3), some (.int l4), some (.int l5)]) (st' := [.int l4, .int l5]) cd_177_5 rfl rfl ?_
    refine gs_0 (pc' := if l4 ≤ l5 then 28 else 10) (L' := [some (.ref l0), some (.int l1), some (.ref l2), some (.int l3), some (.int l4), some (.int l5)]) (st' := []) cd_177_7 rfl rfl ?_
    refine go_ite (fun hc => ?_) (fun hc => ?_)
    · rw [if_pos hc] at h
      cases h
      exact gsr cd_177_28 rfl rfl
    · rw [if_neg hc] at h
      refine gs_0 (pc' := 11) (L' := [some (.ref l0), some (.int l1), some (.ref l2), some (.int l3), some (.int l4), some (.int l5)]) (st' := [.ref l2]) cd_177_10 rfl rfl ?_
      refine gs_0 (pc' := 12) (L' := [some (.ref l0), some (.int l1), some (.ref l2), some (.int l3), some (.int l4), some (.int l5)]) (st' := [.int l3, .ref l2]) cd_177_11 rfl rfl ?_
      refine gs_0 (pc' := 14) (L' := [some (.ref l0), some (.int l1), some (.ref l2), some (.int l3), some (.int l4), some (.int l5)]) (st' := [.int l5, .int l3, .ref l2]) cd_177_12 rfl rfl ?_
      refine gs_0 (pc' := 15) (L' := [some (.ref l0), some (.int l1), some (.ref l2), some (.int l3), some (.int l4), some (.int l5)]) (st' := [.int (l3 + l5), .ref l2]) cd_177_14 rfl rfl ?_
      refine gs_0 (pc' := 16) (L' := [some (.ref l0), some (.int l1), some (.ref l2), some (.int l3), some (.int l4), some (.int l5)]) (st' := [.ref l0, .int (l3 + l5), .ref l2]) cd_177_15 rfl rfl ?_
      refine gs_0 (pc' := 17) (L' := [some (.ref l0), some (.int l1), some (.ref l2), some (.int l3), some (.int l4), some (.int l5)]) (st' := [.int l1, .ref l0, .int (l3 + l5), .ref l2]) cd_177_16 rfl rfl ?_
      refine gs_0 (pc' := 19) (L' := [some (.ref l0), some (.int l1), some (.ref l2), some (.int l3), some (.int l4), some (.int l5)]) (st' := [.int l5, .int l1, .ref l0, .int (l3 + l5), .ref l2]) cd_177_17 rfl rfl ?_
      refine gs_0 (pc' := 20) (L' := [some (.ref l0), some (.int l1), some (.ref l2), some (.int l3), some (.int l4), some (.int l5)]) (st' := [.int (l1 + l5), .ref l0, .int (l3 + l5), .ref l2]) cd_177_19 rfl rfl ?_
      obtain ⟨ht, h⟩ := gA_s h
      refine gs_iald cd_177_20 ht ?_
      obtain ⟨ht, h⟩ := gA_s h
      refine gs_iast cd_177_21 ht ?_
      obtain ⟨I_1, hx, h⟩ := lt_s_ h
      rw [hx]
      refine gs_0 (pc' := 25) (L' := [some (.ref l0), some (.int l1), some (.ref l2), some (.int l3), some (.int l4), some (.int (l5 + 1))]) (st' := []) cd_177_22 rfl rfl ?_
      obtain ⟨x_2, hx, h⟩ := lt_s_ h
      rw [hx]
      clear hx
      refine gs_0 (pc' := 3) (L' := [some (.ref l0), some (.int l1), some (.ref l2), some (.int l3), some (.int l4), some (.int x_2)]) (st' := []) cd_177_25 rfl rfl ?_
      exact hr3 l0 l1 l2 l3 l4 x_2 _ _ _ _ h
noncomputable def f_177 (K : Nat → Value) (k d : Nat) (l0 : Nat) (l1 : Int32) (l2 : Nat) (l3 : Int32) (l4 : Int32) (w : aW) (I : aI) (J : aJ) : Option aR :=
  f_177_3 K k d l0 l1 l2 l3 l4 0 w I J
theorem ok_177 {K : Nat → Value} {k d : Nat} {l0 : Nat} {l1 : Int32} {l2 : Nat} {l3 : Int32} {l4 : Int32} {w : aW} {I : aI} {J : aJ} {R : aR} (h : f_177 K k d l0 l1 l2 l3 l4 w I J = some R) : Go K (d + 1) 177 0 [some (.ref l0), some (.int l1), some (.ref l2), some (.int l3), some (.int l4), none] [] w I J R := by
  unfold f_177 at h
  refine gs_0 (pc' := 1) (L' := [some (.ref l0), some (.int l1), some (.ref l2), some (.int l3), some (.int l4), none]) (st' := [.int 0]) cd_177_0 rfl rfl ?_
  refine gs_0 (pc' := 3) (L' := [some (.ref l0), some (.int l1), some (.ref l2), some (.int l3), some (.int l4), some (.int 0)]) (st' := []) cd_177_1 rfl rfl ?_
  exact ok_177_3 h
theorem cl_177 {K : Nat → Value} {k d : Nat} {l0 : Nat} {l1 : Int32} {l2 : Nat} {l3 : Int32} {l4 : Int32} {w : aW} {I : aI} {J : aJ} {R : aR} (h : f_177 K k d l0 l1 l2 l3 l4 w I J = some R) : Cl K (d + 1) 177 [.ref l0, .int l1, .ref l2, .int l3, .int l4] w I J = some R := Cl_of (ok_177 h)
/-! ProvedMachine.feed(IJ)J -/
theorem gl_16 : gcd.lookup 16 = some gw_16 := rfl
theorem cd_16_0 : sm_cd 16 0 = some (.iload_n 1, 1, 1, 0, 0, 0, 0, 0, 0) := cd_of gl_16 rfl
theorem cd_16_1 : sm_cd 16 1 = some (.iconst 1, 1, 0, 0, 0, 0, 0, 1, 0) := cd_of gl_16 rfl
theorem cd_16_2 : sm_cd 16 2 = some (.if_icmp .lt 9, 3, 11, 0, 0, 0, 0, 0, 0) := cd_of gl_16 rfl
theorem cd_16_5 : sm_cd 16 5 = some (.iload_n 1, 1, 1, 0, 0, 0, 0, 0, 0) := cd_of gl_16 rfl
theorem cd_16_6 : sm_cd 16 6 = some (.bipush 8, 2, 0, 0, 0, 0, 0, 8, 0) := cd_of gl_16 rfl
theorem cd_16_8 : sm_cd 16 8 = some (.if_icmp .le 9, 3, 17, 0, 0, 0, 0, 0, 0) := cd_of gl_16 rfl
theorem cd_16_11 : sm_cd 16 11 = some (.aload_n 0, 1, 0, 0, 0, 0, 0, 0, 0) := cd_of gl_16 rfl
theorem cd_16_12 : sm_cd 16 12 = some (.iconst 1, 1, 0, 0, 0, 0, 0, 1, 0) := cd_of gl_16 rfl
theorem cd_16_13 : sm_cd 16 13 = some (.invokevirtual 58, 3, 17, 0, 1, 2, 5, 0, 0) := cd_of gl_16 rfl
theorem cd_16_16 : sm_cd 16 16 = some (.lreturn, 1, 0, 0, 0, 0, 0, 0, 0) := cd_of gl_16 rfl
theorem cd_16_17 : sm_cd 16 17 = some (.aload_n 0, 1, 0, 0, 0, 0, 0, 0, 0) := cd_of gl_16 rfl
theorem cd_16_18 : sm_cd 16 18 = some (.getfield 13, 3, 5, 1, 0, 0, 0, 0, 0) := cd_of gl_16 rfl
theorem cd_16_21 : sm_cd 16 21 = some (.iload_n 1, 1, 1, 0, 0, 0, 0, 0, 0) := cd_of gl_16 rfl
theorem cd_16_22 : sm_cd 16 22 = some (.iadd, 1, 0, 0, 0, 0, 0, 0, 0) := cd_of gl_16 rfl
theorem cd_16_23 : sm_cd 16 23 = some (.sipush 240, 3, 0, 0, 0, 0, 0, 240, 0) := cd_of gl_16 rfl
theorem cd_16_26 : sm_cd 16 26 = some (.if_icmp .le 9, 3, 35, 0, 0, 0, 0, 0, 0) := cd_of gl_16 rfl
theorem cd_16_29 : sm_cd 16 29 = some (.aload_n 0, 1, 0, 0, 0, 0, 0, 0, 0) := cd_of gl_16 rfl
theorem cd_16_30 : sm_cd 16 30 = some (.iconst 5, 1, 0, 0, 0, 0, 0, 5, 0) := cd_of gl_16 rfl
theorem cd_16_31 : sm_cd 16 31 = some (.invokevirtual 58, 3, 17, 0, 1, 2, 5, 0, 0) := cd_of gl_16 rfl
theorem cd_16_34 : sm_cd 16 34 = some (.lreturn, 1, 0, 0, 0, 0, 0, 0, 0) := cd_of gl_16 rfl
theorem cd_16_35 : sm_cd 16 35 = some (.iconst 0, 1, 0, 0, 0, 0, 0, 0, 0) := cd_of gl_16 rfl
theorem cd_16_36 : sm_cd 16 36 = some (.istore 4, 2, 4, 0, 0, 0, 0, 0, 0) := cd_of gl_16 rfl
theorem cd_16_38 : sm_cd 16 38 = some (.iload 4, 2, 4, 0, 0, 0, 0, 0, 0) := cd_of gl_16 rfl
theorem cd_16_40 : sm_cd 16 40 = some (.iload_n 1, 1, 1, 0, 0, 0, 0, 0, 0) := cd_of gl_16 rfl
theorem cd_16_41 : sm_cd 16 41 = some (.if_icmp .ge 33, 3, 74, 0, 0, 0, 0, 0, 0) := cd_of gl_16 rfl
theorem cd_16_44 : sm_cd 16 44 = some (.aload_n 0, 1, 0, 0, 0, 0, 0, 0, 0) := cd_of gl_16 rfl
theorem cd_16_45 : sm_cd 16 45 = some (.getfield 9, 3, 5, 0, 2, 0, 0, 0, 0) := cd_of gl_16 rfl
theorem cd_16_48 : sm_cd 16 48 = some (.aload_n 0, 1, 0, 0, 0, 0, 0, 0, 0) := cd_of gl_16 rfl
theorem cd_16_49 : sm_cd 16 49 = some (.getfield 13, 3, 5, 1, 0, 0, 0, 0, 0) := cd_of gl_16 rfl
theorem cd_16_52 : sm_cd 16 52 = some (.iload 4, 2, 4, 0, 0, 0, 0, 0, 0) := cd_of gl_16 rfl
theorem cd_16_54 : sm_cd 16 54 = some (.iadd, 1, 0, 0, 0, 0, 0, 0, 0) := cd_of gl_16 rfl
theorem cd_16_55 : sm_cd 16 55 = some (.lload_n 2, 1, 2, 0, 0, 0, 0, 0, 0) := cd_of gl_16 rfl
theorem cd_16_56 : sm_cd 16 56 = some (.bipush 8, 2, 0, 0, 0, 0, 0, 8, 0) := cd_of gl_16 rfl
theorem cd_16_58 : sm_cd 16 58 = some (.iload 4, 2, 4, 0, 0, 0, 0, 0, 0) := cd_of gl_16 rfl
theorem cd_16_60 : sm_cd 16 60 = some (.imul, 1, 0, 0, 0, 0, 0, 0, 0) := cd_of gl_16 rfl
theorem cd_16_61 : sm_cd 16 61 = some (.lushr, 1, 0, 0, 0, 0, 0, 0, 0) := cd_of gl_16 rfl
theorem cd_16_62 : sm_cd 16 62 = some (.l2i, 1, 0, 0, 0, 0, 0, 0, 0) := cd_of gl_16 rfl
theorem cd_16_63 : sm_cd 16 63 = some (.sipush 255, 3, 0, 0, 0, 0, 0, 255, 0) := cd_of gl_16 rfl
theorem cd_16_66 : sm_cd 16 66 = some (.iand, 1, 0, 0, 0, 0, 0, 0, 0) := cd_of gl_16 rfl
theorem cd_16_67 : sm_cd 16 67 = some (.iastore, 1, 0, 0, 0, 0, 0, 0, 0) := cd_of gl_16 rfl
theorem cd_16_68 : sm_cd 16 68 = some (.iinc 4 1, 3, 4, 0, 0, 0, 0, 1, 0) := cd_of gl_16 rfl
theorem cd_16_71 : sm_cd 16 71 = some (.goto (-33), 3, 38, 0, 0, 0, 0, 0, 0) := cd_of gl_16 rfl
theorem cd_16_74 : sm_cd 16 74 = some (.aload_n 0, 1, 0, 0, 0, 0, 0, 0, 0) := cd_of gl_16 rfl
theorem cd_16_75 : sm_cd 16 75 = some (.dup, 1, 0, 0, 0, 0, 0, 0, 0) := cd_of gl_16 rfl
theorem cd_16_76 : sm_cd 16 76 = some (.getfield 13, 3, 5, 1, 0, 0, 0, 0, 0) := cd_of gl_16 rfl
theorem cd_16_79 : sm_cd 16 79 = some (.iload_n 1, 1, 1, 0, 0, 0, 0, 0, 0) := cd_of gl_16 rfl
theorem cd_16_80 : sm_cd 16 80 = some (.iadd, 1, 0, 0, 0, 0, 0, 0, 0) := cd_of gl_16 rfl
theorem cd_16_81 : sm_cd 16 81 = some (.putfield 13, 3, 5, 1, 0, 0, 0, 0, 0) := cd_of gl_16 rfl
theorem cd_16_84 : sm_cd 16 84 = some (.aload_n 0, 1, 0, 0, 0, 0, 0, 0, 0) := cd_of gl_16 rfl
theorem cd_16_85 : sm_cd 16 85 = some (.getfield 13, 3, 5, 1, 0, 0, 0, 0, 0) := cd_of gl_16 rfl
theorem cd_16_88 : sm_cd 16 88 = some (.i2l, 1, 0, 0, 0, 0, 0, 0, 0) := cd_of gl_16 rfl
theorem cd_16_89 : sm_cd 16 89 = some (.lreturn, 1, 0, 0, 0, 0, 0, 0, 0) := cd_of gl_16 rfl
noncomputable def f_16_38 (K : Nat → Value) (k : Nat) (d : Nat) : Nat → Int32 → Int64 → Int32 → aW → aI → aJ → Option aR :=
  match k with
  | 0 => fun _ _ _ _ _ _ _ => none
  | k + 1 => fun l0 l1 l2 l4 w I J =>
  lt_ (f_16_38 K k d) fun r38 =>
  if l1 ≤ l4 then
    gO w 5 l0 (
    gO w 5 l0 (
    lt_ (sm_up2 I l0 1 ((I l0 1) + l1)) fun I_1 =>
    gO w 5 l0 (
    some (some (.long ((I_1 l0 1 : Int32).toInt64)), w, I_1, J))))
  else
    gO w 5 l0 (
    gV w l0 0 fun q_2 =>
    gO w 5 l0 (
    gA w 10 10 q_2 ((I l0 1) + l4) (
    lt_ (sm_up2 I q_2 ((I l0 1) + l4 : Int32).toNatClampNeg (((((l2 : Int64).toUInt64 >>> ((8 * l4 : Int32).toInt64.toUInt64 &&& Int64.toUInt64 63)).toInt64 : Int64).toInt32) &&& 255)) fun I_3 =>
    lt_ (l4 + 1) fun x_4 =>
    r38 l0 l1 l2 x_4 w I_3 J)))
theorem ok_16_38 {K : Nat → Value} {d : Nat} : ∀ {k : Nat} {l0 : Nat} {l1 : Int32} {l2 : Int64} {l4 : Int32} {w : aW} {I : aI} {J : aJ} {R : aR}, f_16_38 K k d l0 l1 l2 l4 w I J = some R → Go K (d + 1) 16 38 [some (.ref l0), some (.int l1), some (.long l2), none, some (.int l4)] [] w I J R := by
  intro k
  induction k with
  | zero => intro l0 l1 l2 l4 w I J R h; cases h
  | succ k ih =>
    intro l0 l1 l2 l4 w I J R h
    have hr38 : ∀ (l0 : Nat) (l1 : Int32) (l2 : Int64) (l4 : Int32) (w : aW) (I : aI) (J : aJ) (R : aR), f_16_38 K k d l0 l1 l2 l4 w I J = some R → Go K (d + 1) 16 38 [some (.ref l0), some (.int l1), some (.long l2), none, some (.int l4)] [] w I J R := fun l0 l1 l2 l4 w I J R h => ih h
    rw [f_16_38] at h
    obtain ⟨r38, hx, h⟩ := lt_s_ h
    rw [hx] at hr38
    clear hx ih
    refine gs_0 (pc' := 40) (L' := [some (.ref l0), some (.int l1), some (.long l2), none, some (.int l4)]) (st' := [.int l4]) cd_16_38 rfl rfl ?_
    refine gs_0 (pc' := 41) (L' := [some (.ref l0), some (.int l1), some (.long l2), none, some (.int l4)]) (st' := [.int l1, .int l4]) cd_16_40 rfl rfl ?_
    refine gs_0 (pc' := if l1 ≤ l4 then 74 else 44) (L' := [some (.ref l0), some (.int l1), some (.long l2), none, some (.int l4)]) (st' := []) cd_16_41 rfl rfl ?_
    refine go_ite (fun hc => ?_) (fun hc => ?_)
    · rw [if_pos hc] at h
      refine gs_0 (pc' := 75) (L' := [some (.ref l0), some (.int l1), some (.long l2), none, some (.int l4)]) (st' := [.ref l0]) cd_16_74 rfl rfl ?_
      refine gs_0 (pc' := 76) (L' := [some (.ref l0), some (.int l1), some (.long l2), none, some (.int l4)]) (st' := [.ref l0, .ref l0]) cd_16_75 rfl rfl ?_
      obtain ⟨ht, h⟩ := gO_s h
      refine gs_gfI cd_16_76 (by decide) ht ?_
      refine gs_0 (pc' := 80) (L' := [some (.ref l0), some (.int l1), some (.long l2), none, some (.int l4)]) (st' := [.int l1, .int (I l0 1), .ref l0]) cd_16_79 rfl rfl ?_
      refine gs_0 (pc' := 81) (L' := [some (.ref l0), some (.int l1), some (.long l2), none, some (.int l4)]) (st' := [.int ((I l0 1) + l1), .ref l0]) cd_16_80 rfl rfl ?_
      obtain ⟨ht, h⟩ := gO_s h
      refine gs_pfI cd_16_81 (by decide) (Or.inl rfl) ht ?_
      obtain ⟨I_1, hx, h⟩ := lt_s_ h
      rw [hx]
      refine gs_0 (pc' := 85) (L' := [some (.ref l0), some (.int l1), some (.long l2), none, some (.int l4)]) (st' := [.ref l0]) cd_16_84 rfl rfl ?_
      obtain ⟨ht, h⟩ := gO_s h
      refine gs_gfI cd_16_85 (by decide) ht ?_
      refine gs_0 (pc' := 89) (L' := [some (.ref l0), some (.int l1), some (.long l2), none, some (.int l4)]) (st' := [.long ((I_1 l0 1 : Int32).toInt64)]) cd_16_88 rfl rfl ?_
      cases h
      exact gsr cd_16_89 rfl rfl
    · rw [if_neg hc] at h
      refine gs_0 (pc' := 45) (L' := [some (.ref l0), some (.int l1), some (.long l2), none, some (.int l4)]) (st' := [.ref l0]) cd_16_44 rfl rfl ?_
      obtain ⟨ht, h⟩ := gO_s h
      obtain ⟨q_2, hv, h⟩ := gV_s h
      refine gs_gfR cd_16_45 ht hv ?_
      refine gs_0 (pc' := 49) (L' := [some (.ref l0), some (.int l1), some (.long l2), none, some (.int l4)]) (st' := [.ref l0, .ref q_2]) cd_16_48 rfl rfl ?_
      obtain ⟨ht, h⟩ := gO_s h
      refine gs_gfI cd_16_49 (by decide) ht ?_
      refine gs_0 (pc' := 54) (L' := [some (.ref l0), some (.int l1), some (.long l2), none, some (.int l4)]) (st' := [.int l4, .int (I l0 1), .ref q_2]) cd_16_52 rfl rfl ?_
      refine gs_0 (pc' := 55) (L' := [some (.ref l0), some (.int l1), some (.long l2), none, some (.int l4)]) (st' := [.int ((I l0 1) + l4), .ref q_2]) cd_16_54 rfl rfl ?_
      refine gs_0 (pc' := 56) (L' := [some (.ref l0), some (.int l1), some (.long l2), none, some (.int l4)]) (st' := [.long l2, .int ((I l0 1) + l4), .ref q_2]) cd_16_55 rfl rfl ?_
      refine gs_0 (pc' := 58) (L' := [some (.ref l0), some (.int l1), some (.long l2), none, some (.int l4)]) (st' := [.int 8, .long l2, .int ((I l0 1) + l4), .ref q_2]) cd_16_56 rfl rfl ?_
      refine gs_0 (pc' := 60) (L' := [some (.ref l0), some (.int l1), some (.long l2), none, some (.int l4)]) (st' := [.int l4, .int 8, .long l2, .int ((I l0 1) + l4), .ref q_2]) cd_16_58 rfl rfl ?_
      refine gs_0 (pc' := 61) (L' := [some (.ref l0), some (.int l1), some (.long l2), none, some (.int l4)]) (st' := [.int (8 * l4), .long l2, .int ((I l0 1) + l4), .ref q_2]) cd_16_60 rfl rfl ?_
      refine gs_0 (pc' := 62) (L' := [some (.ref l0), some (.int l1), some (.long l2), none, some (.int l4)]) (st' := [.long (((l2 : Int64).toUInt64 >>> ((8 * l4 : Int32).toInt64.toUInt64 &&& Int64.toUInt64 63)).toInt64), .int ((I l0 1) + l4), .ref q_2]) cd_16_61 rfl rfl ?_
      refine gs_0 (pc' := 63) (L' := [some (.ref l0), some (.int l1), some (.long l2), none, some (.int l4)]) (st' := [.int ((((l2 : Int64).toUInt64 >>> ((8 * l4 : Int32).toInt64.toUInt64 &&& Int64.toUInt64 63)).toInt64 : Int64).toInt32), .int ((I l0 1) + l4), .ref q_2]) cd_16_62 rfl rfl ?_
      refine gs_0 (pc' := 66) (L' := [some (.ref l0), some (.int l1), some (.long l2), none, some (.int l4)]) (st' := [.int 255, .int ((((l2 : Int64).toUInt64 >>> ((8 * l4 : Int32).toInt64.toUInt64 &&& Int64.toUInt64 63)).toInt64 : Int64).toInt32), .int ((I l0 1) + l4), .ref q_2]) cd_16_63 rfl rfl ?_
      refine gs_0 (pc' := 67) (L' := [some (.ref l0), some (.int l1), some (.long l2), none, some (.int l4)]) (st' := [.int (((((l2 : Int64).toUInt64 >>> ((8 * l4 : Int32).toInt64.toUInt64 &&& Int64.toUInt64 63)).toInt64 : Int64).toInt32) &&& 255), .int ((I l0 1) + l4), .ref q_2]) cd_16_66 rfl rfl ?_
      obtain ⟨ht, h⟩ := gA_s h
      refine gs_iast cd_16_67 ht ?_
      obtain ⟨I_3, hx, h⟩ := lt_s_ h
      rw [hx]
      refine gs_0 (pc' := 71) (L' := [some (.ref l0), some (.int l1), some (.long l2), none, some (.int (l4 + 1))]) (st' := []) cd_16_68 rfl rfl ?_
      obtain ⟨x_4, hx, h⟩ := lt_s_ h
      rw [hx]
      clear hx
      refine gs_0 (pc' := 38) (L' := [some (.ref l0), some (.int l1), some (.long l2), none, some (.int x_4)]) (st' := []) cd_16_71 rfl rfl ?_
      exact hr38 l0 l1 l2 x_4 _ _ _ _ h
noncomputable def f_16_11 (K : Nat → Value) (k d : Nat) (l0 : Nat) (l1 : Int32) (l2 : Int64) (w : aW) (I : aI) (J : aJ) : Option aR :=
  gO w 5 l0 (
  cJ (Cl K d 17 [.ref l0, .int 1] w I J) fun v_4 w_1 I_2 J_3 =>
  some (some (.long v_4), w_1, I_2, J_3))
theorem ok_16_11 {K : Nat → Value} {k d : Nat} {l0 : Nat} {l1 : Int32} {l2 : Int64} {w : aW} {I : aI} {J : aJ} {R : aR} (h : f_16_11 K k d l0 l1 l2 w I J = some R) : Go K (d + 1) 16 11 [some (.ref l0), some (.int l1), some (.long l2), none, none] [] w I J R := by
  unfold f_16_11 at h
  refine gs_0 (pc' := 12) (L' := [some (.ref l0), some (.int l1), some (.long l2), none, none]) (st' := [.ref l0]) cd_16_11 rfl rfl ?_
  refine gs_0 (pc' := 13) (L' := [some (.ref l0), some (.int l1), some (.long l2), none, none]) (st' := [.int 1, .ref l0]) cd_16_12 rfl rfl ?_
  obtain ⟨ht, h⟩ := gO_s h
  obtain ⟨v_4, w_1, I_2, J_3, hcl, h⟩ := cJ_s h
  refine gs_call (as := [.ref l0, .int 1]) (rest := []) cd_16_13 rfl (by decide) rfl (sm_rv_ok ht) (Nat.le_of_ble_eq_true rfl) (Nat.le_of_ble_eq_true rfl) rfl hcl ?_
  cases h
  exact gsr cd_16_16 rfl rfl
noncomputable def f_16 (K : Nat → Value) (k d : Nat) (l0 : Nat) (l1 : Int32) (l2 : Int64) (w : aW) (I : aI) (J : aJ) : Option aR :=
  if l1 < 1 then
    f_16_11 K k d l0 l1 l2 w I J
  else
    if l1 ≤ 8 then
      gO w 5 l0 (
      if ((I l0 1) + l1) ≤ 240 then
        f_16_38 K k d l0 l1 l2 0 w I J
      else
        gO w 5 l0 (
        cJ (Cl K d 17 [.ref l0, .int 5] w I J) fun v_4 w_1 I_2 J_3 =>
        some (some (.long v_4), w_1, I_2, J_3)))
    else
      f_16_11 K k d l0 l1 l2 w I J
theorem ok_16 {K : Nat → Value} {k d : Nat} {l0 : Nat} {l1 : Int32} {l2 : Int64} {w : aW} {I : aI} {J : aJ} {R : aR} (h : f_16 K k d l0 l1 l2 w I J = some R) : Go K (d + 1) 16 0 [some (.ref l0), some (.int l1), some (.long l2), none, none] [] w I J R := by
  unfold f_16 at h
  refine gs_0 (pc' := 1) (L' := [some (.ref l0), some (.int l1), some (.long l2), none, none]) (st' := [.int l1]) cd_16_0 rfl rfl ?_
  refine gs_0 (pc' := 2) (L' := [some (.ref l0), some (.int l1), some (.long l2), none, none]) (st' := [.int 1, .int l1]) cd_16_1 rfl rfl ?_
  refine gs_0 (pc' := if l1 < 1 then 11 else 5) (L' := [some (.ref l0), some (.int l1), some (.long l2), none, none]) (st' := []) cd_16_2 rfl rfl ?_
  refine go_ite (fun hc => ?_) (fun hc => ?_)
  · rw [if_pos hc] at h
    exact ok_16_11 h
  · rw [if_neg hc] at h
    refine gs_0 (pc' := 6) (L' := [some (.ref l0), some (.int l1), some (.long l2), none, none]) (st' := [.int l1]) cd_16_5 rfl rfl ?_
    refine gs_0 (pc' := 8) (L' := [some (.ref l0), some (.int l1), some (.long l2), none, none]) (st' := [.int 8, .int l1]) cd_16_6 rfl rfl ?_
    refine gs_0 (pc' := if l1 ≤ 8 then 17 else 11) (L' := [some (.ref l0), some (.int l1), some (.long l2), none, none]) (st' := []) cd_16_8 rfl rfl ?_
    refine go_ite (fun hc => ?_) (fun hc => ?_)
    · rw [if_pos hc] at h
      refine gs_0 (pc' := 18) (L' := [some (.ref l0), some (.int l1), some (.long l2), none, none]) (st' := [.ref l0]) cd_16_17 rfl rfl ?_
      obtain ⟨ht, h⟩ := gO_s h
      refine gs_gfI cd_16_18 (by decide) ht ?_
      refine gs_0 (pc' := 22) (L' := [some (.ref l0), some (.int l1), some (.long l2), none, none]) (st' := [.int l1, .int (I l0 1)]) cd_16_21 rfl rfl ?_
      refine gs_0 (pc' := 23) (L' := [some (.ref l0), some (.int l1), some (.long l2), none, none]) (st' := [.int ((I l0 1) + l1)]) cd_16_22 rfl rfl ?_
      refine gs_0 (pc' := 26) (L' := [some (.ref l0), some (.int l1), some (.long l2), none, none]) (st' := [.int 240, .int ((I l0 1) + l1)]) cd_16_23 rfl rfl ?_
      refine gs_0 (pc' := if ((I l0 1) + l1) ≤ 240 then 35 else 29) (L' := [some (.ref l0), some (.int l1), some (.long l2), none, none]) (st' := []) cd_16_26 rfl rfl ?_
      refine go_ite (fun hc => ?_) (fun hc => ?_)
      · rw [if_pos hc] at h
        refine gs_0 (pc' := 36) (L' := [some (.ref l0), some (.int l1), some (.long l2), none, none]) (st' := [.int 0]) cd_16_35 rfl rfl ?_
        refine gs_0 (pc' := 38) (L' := [some (.ref l0), some (.int l1), some (.long l2), none, some (.int 0)]) (st' := []) cd_16_36 rfl rfl ?_
        exact ok_16_38 h
      · rw [if_neg hc] at h
        refine gs_0 (pc' := 30) (L' := [some (.ref l0), some (.int l1), some (.long l2), none, none]) (st' := [.ref l0]) cd_16_29 rfl rfl ?_
        refine gs_0 (pc' := 31) (L' := [some (.ref l0), some (.int l1), some (.long l2), none, none]) (st' := [.int 5, .ref l0]) cd_16_30 rfl rfl ?_
        obtain ⟨ht, h⟩ := gO_s h
        obtain ⟨v_4, w_1, I_2, J_3, hcl, h⟩ := cJ_s h
        refine gs_call (as := [.ref l0, .int 5]) (rest := []) cd_16_31 rfl (by decide) rfl (sm_rv_ok ht) (Nat.le_of_ble_eq_true rfl) (Nat.le_of_ble_eq_true rfl) rfl hcl ?_
        cases h
        exact gsr cd_16_34 rfl rfl
    · rw [if_neg hc] at h
      exact ok_16_11 h
theorem cl_16 {K : Nat → Value} {k d : Nat} {l0 : Nat} {l1 : Int32} {l2 : Int64} {w : aW} {I : aI} {J : aJ} {R : aR} (h : f_16 K k d l0 l1 l2 w I J = some R) : Cl K (d + 1) 16 [.ref l0, .int l1, .long l2] w I J = some R := Cl_of (ok_16 h)
/-! ProvedMachine$Tokens.joined(II)I -/
theorem gl_11 : gcd.lookup 11 = some gw_11 := rfl
theorem cd_11_0 : sm_cd 11 0 = some (.iload_n 0, 1, 0, 0, 0, 0, 0, 0, 0) := cd_of gl_11 rfl
theorem cd_11_1 : sm_cd 11 1 = some (.bipush 32, 2, 0, 0, 0, 0, 0, 32, 0) := cd_of gl_11 rfl
theorem cd_11_3 : sm_cd 11 3 = some (.imul, 1, 0, 0, 0, 0, 0, 0, 0) := cd_of gl_11 rfl
theorem cd_11_4 : sm_cd 11 4 = some (.iload_n 1, 1, 1, 0, 0, 0, 0, 0, 0) := cd_of gl_11 rfl
theorem cd_11_5 : sm_cd 11 5 = some (.iadd, 1, 0, 0, 0, 0, 0, 0, 0) := cd_of gl_11 rfl
theorem cd_11_6 : sm_cd 11 6 = some (.bipush 97, 2, 0, 0, 0, 0, 0, 97, 0) := cd_of gl_11 rfl
theorem cd_11_8 : sm_cd 11 8 = some (.isub, 1, 0, 0, 0, 0, 0, 0, 0) := cd_of gl_11 rfl
theorem cd_11_9 : sm_cd 11 9 = some (.iconst 1, 1, 0, 0, 0, 0, 0, 1, 0) := cd_of gl_11 rfl
theorem cd_11_10 : sm_cd 11 10 = some (.iadd, 1, 0, 0, 0, 0, 0, 0, 0) := cd_of gl_11 rfl
theorem cd_11_11 : sm_cd 11 11 = some (.ireturn, 1, 0, 0, 1, 0, 0, 0, 0) := cd_of gl_11 rfl
noncomputable def f_11 (K : Nat → Value) (k d : Nat) (l0 : Int32) (l1 : Int32) (w : aW) (I : aI) (J : aJ) : Option aR :=
  some (some (.int ((((l0 * 32) + l1) - 97) + 1)), w, I, J)
theorem ok_11 {K : Nat → Value} {k d : Nat} {l0 : Int32} {l1 : Int32} {w : aW} {I : aI} {J : aJ} {R : aR} (h : f_11 K k d l0 l1 w I J = some R) : Go K (d + 1) 11 0 [some (.int l0), some (.int l1)] [] w I J R := by
  unfold f_11 at h
  refine gs_0 (pc' := 1) (L' := [some (.int l0), some (.int l1)]) (st' := [.int l0]) cd_11_0 rfl rfl ?_
  refine gs_0 (pc' := 3) (L' := [some (.int l0), some (.int l1)]) (st' := [.int 32, .int l0]) cd_11_1 rfl rfl ?_
  refine gs_0 (pc' := 4) (L' := [some (.int l0), some (.int l1)]) (st' := [.int (l0 * 32)]) cd_11_3 rfl rfl ?_
  refine gs_0 (pc' := 5) (L' := [some (.int l0), some (.int l1)]) (st' := [.int l1, .int (l0 * 32)]) cd_11_4 rfl rfl ?_
  refine gs_0 (pc' := 6) (L' := [some (.int l0), some (.int l1)]) (st' := [.int ((l0 * 32) + l1)]) cd_11_5 rfl rfl ?_
  refine gs_0 (pc' := 8) (L' := [some (.int l0), some (.int l1)]) (st' := [.int 97, .int ((l0 * 32) + l1)]) cd_11_6 rfl rfl ?_
  refine gs_0 (pc' := 9) (L' := [some (.int l0), some (.int l1)]) (st' := [.int (((l0 * 32) + l1) - 97)]) cd_11_8 rfl rfl ?_
  refine gs_0 (pc' := 10) (L' := [some (.int l0), some (.int l1)]) (st' := [.int 1, .int (((l0 * 32) + l1) - 97)]) cd_11_9 rfl rfl ?_
  refine gs_0 (pc' := 11) (L' := [some (.int l0), some (.int l1)]) (st' := [.int ((((l0 * 32) + l1) - 97) + 1)]) cd_11_10 rfl rfl ?_
  cases h
  exact gs_ri cd_11_11 (Or.inl rfl)
theorem cl_11 {K : Nat → Value} {k d : Nat} {l0 : Int32} {l1 : Int32} {w : aW} {I : aI} {J : aJ} {R : aR} (h : f_11 K k d l0 l1 w I J = some R) : Cl K (d + 1) 11 [.int l0, .int l1] w I J = some R := Cl_of (ok_11 h)
/-! java/util/Arrays.fill([II)V -/
theorem gl_36 : gcd.lookup 36 = some gw_36 := rfl
theorem cd_36_0 : sm_cd 36 0 = some (.iconst 0, 1, 0, 0, 0, 0, 0, 0, 0) := cd_of gl_36 rfl
theorem cd_36_1 : sm_cd 36 1 = some (.istore_n 2, 1, 2, 0, 0, 0, 0, 0, 0) := cd_of gl_36 rfl
theorem cd_36_2 : sm_cd 36 2 = some (.aload_n 0, 1, 0, 0, 0, 0, 0, 0, 0) := cd_of gl_36 rfl
theorem cd_36_3 : sm_cd 36 3 = some (.arraylength, 1, 0, 0, 0, 0, 0, 0, 0) := cd_of gl_36 rfl
theorem cd_36_4 : sm_cd 36 4 = some (.istore_n 3, 1, 3, 0, 0, 0, 0, 0, 0) := cd_of gl_36 rfl
theorem cd_36_5 : sm_cd 36 5 = some (.iload_n 2, 1, 2, 0, 0, 0, 0, 0, 0) := cd_of gl_36 rfl
theorem cd_36_6 : sm_cd 36 6 = some (.iload_n 3, 1, 3, 0, 0, 0, 0, 0, 0) := cd_of gl_36 rfl
theorem cd_36_7 : sm_cd 36 7 = some (.if_icmp .ge 13, 3, 20, 0, 0, 0, 0, 0, 0) := cd_of gl_36 rfl
theorem cd_36_10 : sm_cd 36 10 = some (.aload_n 0, 1, 0, 0, 0, 0, 0, 0, 0) := cd_of gl_36 rfl
theorem cd_36_11 : sm_cd 36 11 = some (.iload_n 2, 1, 2, 0, 0, 0, 0, 0, 0) := cd_of gl_36 rfl
theorem cd_36_12 : sm_cd 36 12 = some (.iload_n 1, 1, 1, 0, 0, 0, 0, 0, 0) := cd_of gl_36 rfl
theorem cd_36_13 : sm_cd 36 13 = some (.iastore, 1, 0, 0, 0, 0, 0, 0, 0) := cd_of gl_36 rfl
theorem cd_36_14 : sm_cd 36 14 = some (.iinc 2 1, 3, 2, 0, 0, 0, 0, 1, 0) := cd_of gl_36 rfl
theorem cd_36_17 : sm_cd 36 17 = some (.goto (-12), 3, 5, 0, 0, 0, 0, 0, 0) := cd_of gl_36 rfl
theorem cd_36_20 : sm_cd 36 20 = some (.return_, 1, 0, 0, 0, 0, 0, 0, 0) := cd_of gl_36 rfl
noncomputable def f_36_5 (K : Nat → Value) (k : Nat) (d : Nat) : Nat → Int32 → Int32 → Int32 → aW → aI → aJ → Option aR :=
  match k with
  | 0 => fun _ _ _ _ _ _ _ => none
  | k + 1 => fun l0 l1 l2 l3 w I J =>
  lt_ (f_36_5 K k d) fun r5 =>
  if l3 ≤ l2 then
    some (none, w, I, J)
  else
    gA w 10 10 l0 l2 (
    lt_ (sm_up2 I l0 (l2 : Int32).toNatClampNeg l1) fun I_1 =>
    lt_ (l2 + 1) fun x_2 =>
    r5 l0 l1 x_2 l3 w I_1 J)
theorem ok_36_5 {K : Nat → Value} {d : Nat} : ∀ {k : Nat} {l0 : Nat} {l1 : Int32} {l2 : Int32} {l3 : Int32} {w : aW} {I : aI} {J : aJ} {R : aR}, f_36_5 K k d l0 l1 l2 l3 w I J = some R → Go K (d + 1) 36 5 [some (.ref l0), some (.int l1), some (.int l2), some (.int l3)] [] w I J R := by
  intro k
  induction k with
  | zero => intro l0 l1 l2 l3 w I J R h; cases h
  | succ k ih =>
    intro l0 l1 l2 l3 w I J R h
    have hr5 : ∀ (l0 : Nat) (l1 : Int32) (l2 : Int32) (l3 : Int32) (w : aW) (I : aI) (J : aJ) (R : aR), f_36_5 K k d l0 l1 l2 l3 w I J = some R → Go K (d + 1) 36 5 [some (.ref l0), some (.int l1), some (.int l2), some (.int l3)] [] w I J R := fun l0 l1 l2 l3 w I J R h => ih h
    rw [f_36_5] at h
    obtain ⟨r5, hx, h⟩ := lt_s_ h
    rw [hx] at hr5
    clear hx ih
    refine gs_0 (pc' := 6) (L' := [some (.ref l0), some (.int l1), some (.int l2), some (.int l3)]) (st' := [.int l2]) cd_36_5 rfl rfl ?_
    refine gs_0 (pc' := 7) (L' := [some (.ref l0), some (.int l1), some (.int l2), some (.int l3)]) (st' := [.int l3, .int l2]) cd_36_6 rfl rfl ?_
    refine gs_0 (pc' := if l3 ≤ l2 then 20 else 10) (L' := [some (.ref l0), some (.int l1), some (.int l2), some (.int l3)]) (st' := []) cd_36_7 rfl rfl ?_
    refine go_ite (fun hc => ?_) (fun hc => ?_)
    · rw [if_pos hc] at h
      cases h
      exact gsr cd_36_20 rfl rfl
    · rw [if_neg hc] at h
      refine gs_0 (pc' := 11) (L' := [some (.ref l0), some (.int l1), some (.int l2), some (.int l3)]) (st' := [.ref l0]) cd_36_10 rfl rfl ?_
      refine gs_0 (pc' := 12) (L' := [some (.ref l0), some (.int l1), some (.int l2), some (.int l3)]) (st' := [.int l2, .ref l0]) cd_36_11 rfl rfl ?_
      refine gs_0 (pc' := 13) (L' := [some (.ref l0), some (.int l1), some (.int l2), some (.int l3)]) (st' := [.int l1, .int l2, .ref l0]) cd_36_12 rfl rfl ?_
      obtain ⟨ht, h⟩ := gA_s h
      refine gs_iast cd_36_13 ht ?_
      obtain ⟨I_1, hx, h⟩ := lt_s_ h
      rw [hx]
      refine gs_0 (pc' := 17) (L' := [some (.ref l0), some (.int l1), some (.int (l2 + 1)), some (.int l3)]) (st' := []) cd_36_14 rfl rfl ?_
      obtain ⟨x_2, hx, h⟩ := lt_s_ h
      rw [hx]
      clear hx
      refine gs_0 (pc' := 5) (L' := [some (.ref l0), some (.int l1), some (.int x_2), some (.int l3)]) (st' := []) cd_36_17 rfl rfl ?_
      exact hr5 l0 l1 x_2 l3 _ _ _ _ h
noncomputable def f_36 (K : Nat → Value) (k d : Nat) (l0 : Nat) (l1 : Int32) (w : aW) (I : aI) (J : aJ) : Option aR :=
  gL w l0 fun n_1 =>
  f_36_5 K k d l0 l1 0 n_1 w I J
theorem ok_36 {K : Nat → Value} {k d : Nat} {l0 : Nat} {l1 : Int32} {w : aW} {I : aI} {J : aJ} {R : aR} (h : f_36 K k d l0 l1 w I J = some R) : Go K (d + 1) 36 0 [some (.ref l0), some (.int l1), none, none] [] w I J R := by
  unfold f_36 at h
  refine gs_0 (pc' := 1) (L' := [some (.ref l0), some (.int l1), none, none]) (st' := [.int 0]) cd_36_0 rfl rfl ?_
  refine gs_0 (pc' := 2) (L' := [some (.ref l0), some (.int l1), some (.int 0), none]) (st' := []) cd_36_1 rfl rfl ?_
  refine gs_0 (pc' := 3) (L' := [some (.ref l0), some (.int l1), some (.int 0), none]) (st' := [.ref l0]) cd_36_2 rfl rfl ?_
  obtain ⟨t0, n0, ht, ht2, h⟩ := gL_s h
  refine gs_alen cd_36_3 ht ht2 ?_
  generalize Int32.ofNat n0 = n_1 at h ⊢
  refine gs_0 (pc' := 5) (L' := [some (.ref l0), some (.int l1), some (.int 0), some (.int n_1)]) (st' := []) cd_36_4 rfl rfl ?_
  exact ok_36_5 h
theorem cl_36 {K : Nat → Value} {k d : Nat} {l0 : Nat} {l1 : Int32} {w : aW} {I : aI} {J : aJ} {R : aR} (h : f_36 K k d l0 l1 w I J = some R) : Cl K (d + 1) 36 [.ref l0, .int l1] w I J = some R := Cl_of (ok_36 h)
/-! ProvedMachine$Tokens.kind()I -/
theorem gl_37 : gcd.lookup 37 = some gw_37 := rfl
theorem cd_37_0 : sm_cd 37 0 = some (.aload_n 0, 1, 0, 0, 0, 0, 0, 0, 0) := cd_of gl_37 rfl
theorem cd_37_1 : sm_cd 37 1 = some (.getfield 31, 3, 4, 6, 1, 0, 0, 0, 0) := cd_of gl_37 rfl
theorem cd_37_4 : sm_cd 37 4 = some (.ifCond .ne 26, 3, 30, 0, 0, 0, 0, 0, 0) := cd_of gl_37 rfl
theorem cd_37_7 : sm_cd 37 7 = some (.aload_n 0, 1, 0, 0, 0, 0, 0, 0, 0) := cd_of gl_37 rfl
theorem cd_37_8 : sm_cd 37 8 = some (.getfield 28, 3, 4, 5, 0, 0, 0, 0, 0) := cd_of gl_37 rfl
theorem cd_37_11 : sm_cd 37 11 = some (.aload_n 0, 1, 0, 0, 0, 0, 0, 0, 0) := cd_of gl_37 rfl
theorem cd_37_12 : sm_cd 37 12 = some (.getfield 24, 3, 4, 4, 0, 0, 0, 0, 0) := cd_of gl_37 rfl
theorem cd_37_15 : sm_cd 37 15 = some (.if_icmp .ge 15, 3, 30, 0, 0, 0, 0, 0, 0) := cd_of gl_37 rfl
theorem cd_37_18 : sm_cd 37 18 = some (.aload_n 0, 1, 0, 0, 0, 0, 0, 0, 0) := cd_of gl_37 rfl
theorem cd_37_19 : sm_cd 37 19 = some (.getfield 9, 3, 4, 0, 2, 0, 0, 0, 0) := cd_of gl_37 rfl
theorem cd_37_22 : sm_cd 37 22 = some (.aload_n 0, 1, 0, 0, 0, 0, 0, 0, 0) := cd_of gl_37 rfl
theorem cd_37_23 : sm_cd 37 23 = some (.getfield 28, 3, 4, 5, 0, 0, 0, 0, 0) := cd_of gl_37 rfl
theorem cd_37_26 : sm_cd 37 26 = some (.iaload, 1, 0, 0, 0, 0, 0, 0, 0) := cd_of gl_37 rfl
theorem cd_37_27 : sm_cd 37 27 = some (.goto 4, 3, 31, 0, 0, 0, 0, 0, 0) := cd_of gl_37 rfl
theorem cd_37_30 : sm_cd 37 30 = some (.iconst 3, 1, 0, 0, 0, 0, 0, 3, 0) := cd_of gl_37 rfl
theorem cd_37_31 : sm_cd 37 31 = some (.ireturn, 1, 0, 0, 1, 0, 0, 0, 0) := cd_of gl_37 rfl
noncomputable def f_37 (K : Nat → Value) (k d : Nat) (l0 : Nat) (w : aW) (I : aI) (J : aJ) : Option aR :=
  gO w 4 l0 (
  if ¬ (I l0 6) = 0 then
    some (some (.int 3), w, I, J)
  else
    gO w 4 l0 (
    gO w 4 l0 (
    if (I l0 4) ≤ (I l0 5) then
      some (some (.int 3), w, I, J)
    else
      gO w 4 l0 (
      gV w l0 0 fun q_1 =>
      gO w 4 l0 (
      gA w 10 20 q_1 (I l0 5) (
      some (some (.int (I q_1 (I l0 5 : Int32).toNatClampNeg)), w, I, J)))))))
theorem ok_37 {K : Nat → Value} {k d : Nat} {l0 : Nat} {w : aW} {I : aI} {J : aJ} {R : aR} (h : f_37 K k d l0 w I J = some R) : Go K (d + 1) 37 0 [some (.ref l0)] [] w I J R := by
  unfold f_37 at h
  refine gs_0 (pc' := 1) (L' := [some (.ref l0)]) (st' := [.ref l0]) cd_37_0 rfl rfl ?_
  obtain ⟨ht, h⟩ := gO_s h
  refine gs_gfI cd_37_1 (by decide) ht ?_
  refine gs_0 (pc' := if ¬ (I l0 6) = 0 then 30 else 7) (L' := [some (.ref l0)]) (st' := []) cd_37_4 rfl rfl ?_
  refine go_ite (fun hc => ?_) (fun hc => ?_)
  · rw [if_pos hc] at h
    refine gs_0 (pc' := 31) (L' := [some (.ref l0)]) (st' := [.int 3]) cd_37_30 rfl rfl ?_
    cases h
    exact gs_ri cd_37_31 (Or.inl rfl)
  · rw [if_neg hc] at h
    refine gs_0 (pc' := 8) (L' := [some (.ref l0)]) (st' := [.ref l0]) cd_37_7 rfl rfl ?_
    obtain ⟨ht, h⟩ := gO_s h
    refine gs_gfI cd_37_8 (by decide) ht ?_
    refine gs_0 (pc' := 12) (L' := [some (.ref l0)]) (st' := [.ref l0, .int (I l0 5)]) cd_37_11 rfl rfl ?_
    obtain ⟨ht, h⟩ := gO_s h
    refine gs_gfI cd_37_12 (by decide) ht ?_
    refine gs_0 (pc' := if (I l0 4) ≤ (I l0 5) then 30 else 18) (L' := [some (.ref l0)]) (st' := []) cd_37_15 rfl rfl ?_
    refine go_ite (fun hc => ?_) (fun hc => ?_)
    · rw [if_pos hc] at h
      refine gs_0 (pc' := 31) (L' := [some (.ref l0)]) (st' := [.int 3]) cd_37_30 rfl rfl ?_
      cases h
      exact gs_ri cd_37_31 (Or.inl rfl)
    · rw [if_neg hc] at h
      refine gs_0 (pc' := 19) (L' := [some (.ref l0)]) (st' := [.ref l0]) cd_37_18 rfl rfl ?_
      obtain ⟨ht, h⟩ := gO_s h
      obtain ⟨q_1, hv, h⟩ := gV_s h
      refine gs_gfR cd_37_19 ht hv ?_
      refine gs_0 (pc' := 23) (L' := [some (.ref l0)]) (st' := [.ref l0, .ref q_1]) cd_37_22 rfl rfl ?_
      obtain ⟨ht, h⟩ := gO_s h
      refine gs_gfI cd_37_23 (by decide) ht ?_
      obtain ⟨ht, h⟩ := gA_s h
      refine gs_iald cd_37_26 ht ?_
      refine gs_0 (pc' := 31) (L' := [some (.ref l0)]) (st' := [.int (I q_1 (I l0 5 : Int32).toNatClampNeg)]) cd_37_27 rfl rfl ?_
      cases h
      exact gs_ri cd_37_31 (Or.inl rfl)
theorem cl_37 {K : Nat → Value} {k d : Nat} {l0 : Nat} {w : aW} {I : aI} {J : aJ} {R : aR} (h : f_37 K k d l0 w I J = some R) : Cl K (d + 1) 37 [.ref l0] w I J = some R := Cl_of (ok_37 h)
/-! ProvedMachineModel.keyHere()I -/
theorem gl_86 : gcd.lookup 86 = some gw_86 := rfl
theorem cd_86_0 : sm_cd 86 0 = some (.iconst (-1), 1, 0, 0, 0, 0, 0, (-1), 0) := cd_of gl_86 rfl
theorem cd_86_1 : sm_cd 86 1 = some (.istore_n 1, 1, 1, 0, 0, 0, 0, 0, 0) := cd_of gl_86 rfl
theorem cd_86_2 : sm_cd 86 2 = some (.iconst 0, 1, 0, 0, 0, 0, 0, 0, 0) := cd_of gl_86 rfl
theorem cd_86_3 : sm_cd 86 3 = some (.istore_n 2, 1, 2, 0, 0, 0, 0, 0, 0) := cd_of gl_86 rfl
theorem cd_86_4 : sm_cd 86 4 = some (.iload_n 2, 1, 2, 0, 0, 0, 0, 0, 0) := cd_of gl_86 rfl
theorem cd_86_5 : sm_cd 86 5 = some (.aload_n 0, 1, 0, 0, 0, 0, 0, 0, 0) := cd_of gl_86 rfl
theorem cd_86_6 : sm_cd 86 6 = some (.getfield 98, 3, 6, 21, 2, 0, 0, 0, 0) := cd_of gl_86 rfl
theorem cd_86_9 : sm_cd 86 9 = some (.arraylength, 1, 0, 0, 0, 0, 0, 0, 0) := cd_of gl_86 rfl
theorem cd_86_10 : sm_cd 86 10 = some (.if_icmp .ge 105, 3, 115, 0, 0, 0, 0, 0, 0) := cd_of gl_86 rfl
theorem cd_86_13 : sm_cd 86 13 = some (.aload_n 0, 1, 0, 0, 0, 0, 0, 0, 0) := cd_of gl_86 rfl
theorem cd_86_14 : sm_cd 86 14 = some (.getfield 157, 3, 6, 23, 0, 0, 0, 0, 0) := cd_of gl_86 rfl
theorem cd_86_17 : sm_cd 86 17 = some (.aload_n 0, 1, 0, 0, 0, 0, 0, 0, 0) := cd_of gl_86 rfl
theorem cd_86_18 : sm_cd 86 18 = some (.getfield 160, 3, 6, 22, 0, 0, 0, 0, 0) := cd_of gl_86 rfl
theorem cd_86_21 : sm_cd 86 21 = some (.isub, 1, 0, 0, 0, 0, 0, 0, 0) := cd_of gl_86 rfl
theorem cd_86_22 : sm_cd 86 22 = some (.aload_n 0, 1, 0, 0, 0, 0, 0, 0, 0) := cd_of gl_86 rfl
theorem cd_86_23 : sm_cd 86 23 = some (.getfield 98, 3, 6, 21, 2, 0, 0, 0, 0) := cd_of gl_86 rfl
theorem cd_86_26 : sm_cd 86 26 = some (.iload_n 2, 1, 2, 0, 0, 0, 0, 0, 0) := cd_of gl_86 rfl
theorem cd_86_27 : sm_cd 86 27 = some (.aaload, 1, 0, 0, 0, 0, 0, 0, 0) := cd_of gl_86 rfl
theorem cd_86_28 : sm_cd 86 28 = some (.invokevirtual 163, 3, 4, 0, 0, 1, 7, 0, 0) := cd_of gl_86 rfl
theorem cd_86_31 : sm_cd 86 31 = some (.if_icmp .ne 7, 3, 38, 0, 0, 0, 0, 0, 0) := cd_of gl_86 rfl
theorem cd_86_34 : sm_cd 86 34 = some (.iconst 1, 1, 0, 0, 0, 0, 0, 1, 0) := cd_of gl_86 rfl
theorem cd_86_35 : sm_cd 86 35 = some (.goto 4, 3, 39, 0, 0, 0, 0, 0, 0) := cd_of gl_86 rfl
theorem cd_86_38 : sm_cd 86 38 = some (.iconst 0, 1, 0, 0, 0, 0, 0, 0, 0) := cd_of gl_86 rfl
theorem cd_86_39 : sm_cd 86 39 = some (.istore_n 3, 1, 3, 0, 0, 0, 0, 0, 0) := cd_of gl_86 rfl
theorem cd_86_40 : sm_cd 86 40 = some (.iconst 0, 1, 0, 0, 0, 0, 0, 0, 0) := cd_of gl_86 rfl
theorem cd_86_41 : sm_cd 86 41 = some (.istore 4, 2, 4, 0, 0, 0, 0, 0, 0) := cd_of gl_86 rfl
theorem cd_86_43 : sm_cd 86 43 = some (.iload_n 3, 1, 3, 0, 0, 0, 0, 0, 0) := cd_of gl_86 rfl
theorem cd_86_44 : sm_cd 86 44 = some (.ifCond .eq 55, 3, 99, 0, 0, 0, 0, 0, 0) := cd_of gl_86 rfl
theorem cd_86_47 : sm_cd 86 47 = some (.iload 4, 2, 4, 0, 0, 0, 0, 0, 0) := cd_of gl_86 rfl
theorem cd_86_49 : sm_cd 86 49 = some (.aload_n 0, 1, 0, 0, 0, 0, 0, 0, 0) := cd_of gl_86 rfl
theorem cd_86_50 : sm_cd 86 50 = some (.getfield 157, 3, 6, 23, 0, 0, 0, 0, 0) := cd_of gl_86 rfl
theorem cd_86_53 : sm_cd 86 53 = some (.aload_n 0, 1, 0, 0, 0, 0, 0, 0, 0) := cd_of gl_86 rfl
theorem cd_86_54 : sm_cd 86 54 = some (.getfield 160, 3, 6, 22, 0, 0, 0, 0, 0) := cd_of gl_86 rfl
theorem cd_86_57 : sm_cd 86 57 = some (.isub, 1, 0, 0, 0, 0, 0, 0, 0) := cd_of gl_86 rfl
theorem cd_86_58 : sm_cd 86 58 = some (.if_icmp .ge 41, 3, 99, 0, 0, 0, 0, 0, 0) := cd_of gl_86 rfl
theorem cd_86_61 : sm_cd 86 61 = some (.aload_n 0, 1, 0, 0, 0, 0, 0, 0, 0) := cd_of gl_86 rfl
theorem cd_86_62 : sm_cd 86 62 = some (.getfield 13, 3, 6, 1, 2, 0, 0, 0, 0) := cd_of gl_86 rfl
theorem cd_86_65 : sm_cd 86 65 = some (.aload_n 0, 1, 0, 0, 0, 0, 0, 0, 0) := cd_of gl_86 rfl
theorem cd_86_66 : sm_cd 86 66 = some (.getfield 160, 3, 6, 22, 0, 0, 0, 0, 0) := cd_of gl_86 rfl
theorem cd_86_69 : sm_cd 86 69 = some (.iload 4, 2, 4, 0, 0, 0, 0, 0, 0) := cd_of gl_86 rfl
theorem cd_86_71 : sm_cd 86 71 = some (.iadd, 1, 0, 0, 0, 0, 0, 0, 0) := cd_of gl_86 rfl
theorem cd_86_72 : sm_cd 86 72 = some (.iaload, 1, 0, 0, 0, 0, 0, 0, 0) := cd_of gl_86 rfl
theorem cd_86_73 : sm_cd 86 73 = some (.aload_n 0, 1, 0, 0, 0, 0, 0, 0, 0) := cd_of gl_86 rfl
theorem cd_86_74 : sm_cd 86 74 = some (.getfield 98, 3, 6, 21, 2, 0, 0, 0, 0) := cd_of gl_86 rfl
theorem cd_86_77 : sm_cd 86 77 = some (.iload_n 2, 1, 2, 0, 0, 0, 0, 0, 0) := cd_of gl_86 rfl
theorem cd_86_78 : sm_cd 86 78 = some (.aaload, 1, 0, 0, 0, 0, 0, 0, 0) := cd_of gl_86 rfl
theorem cd_86_79 : sm_cd 86 79 = some (.iload 4, 2, 4, 0, 0, 0, 0, 0, 0) := cd_of gl_86 rfl
theorem cd_86_81 : sm_cd 86 81 = some (.invokevirtual 167, 3, 6, 0, 1, 2, 7, 0, 0) := cd_of gl_86 rfl
theorem cd_86_84 : sm_cd 86 84 = some (.if_icmp .ne 7, 3, 91, 0, 0, 0, 0, 0, 0) := cd_of gl_86 rfl
theorem cd_86_87 : sm_cd 86 87 = some (.iconst 1, 1, 0, 0, 0, 0, 0, 1, 0) := cd_of gl_86 rfl
theorem cd_86_88 : sm_cd 86 88 = some (.goto 4, 3, 92, 0, 0, 0, 0, 0, 0) := cd_of gl_86 rfl
theorem cd_86_91 : sm_cd 86 91 = some (.iconst 0, 1, 0, 0, 0, 0, 0, 0, 0) := cd_of gl_86 rfl
theorem cd_86_92 : sm_cd 86 92 = some (.istore_n 3, 1, 3, 0, 0, 0, 0, 0, 0) := cd_of gl_86 rfl
theorem cd_86_93 : sm_cd 86 93 = some (.iinc 4 1, 3, 4, 0, 0, 0, 0, 1, 0) := cd_of gl_86 rfl
theorem cd_86_96 : sm_cd 86 96 = some (.goto (-53), 3, 43, 0, 0, 0, 0, 0, 0) := cd_of gl_86 rfl
theorem cd_86_99 : sm_cd 86 99 = some (.iload_n 3, 1, 3, 0, 0, 0, 0, 0, 0) := cd_of gl_86 rfl
theorem cd_86_100 : sm_cd 86 100 = some (.ifCond .eq 7, 3, 107, 0, 0, 0, 0, 0, 0) := cd_of gl_86 rfl
theorem cd_86_103 : sm_cd 86 103 = some (.iload_n 2, 1, 2, 0, 0, 0, 0, 0, 0) := cd_of gl_86 rfl
theorem cd_86_104 : sm_cd 86 104 = some (.goto 4, 3, 108, 0, 0, 0, 0, 0, 0) := cd_of gl_86 rfl
theorem cd_86_107 : sm_cd 86 107 = some (.iload_n 1, 1, 1, 0, 0, 0, 0, 0, 0) := cd_of gl_86 rfl
theorem cd_86_108 : sm_cd 86 108 = some (.istore_n 1, 1, 1, 0, 0, 0, 0, 0, 0) := cd_of gl_86 rfl
theorem cd_86_109 : sm_cd 86 109 = some (.iinc 2 1, 3, 2, 0, 0, 0, 0, 1, 0) := cd_of gl_86 rfl
theorem cd_86_112 : sm_cd 86 112 = some (.goto (-108), 3, 4, 0, 0, 0, 0, 0, 0) := cd_of gl_86 rfl
theorem cd_86_115 : sm_cd 86 115 = some (.iload_n 1, 1, 1, 0, 0, 0, 0, 0, 0) := cd_of gl_86 rfl
theorem cd_86_116 : sm_cd 86 116 = some (.ireturn, 1, 0, 0, 1, 0, 0, 0, 0) := cd_of gl_86 rfl
noncomputable def f_86_108 (K : Nat → Value) (k d : Nat) (r4 : Nat → Int32 → Int32 → aW → aI → aJ → Option aR) (l0 : Nat) (l1 : Int32) (l2 : Int32) (l3 : Int32) (l4 : Int32) (s0 : Int32) (w : aW) (I : aI) (J : aJ) : Option aR :=
  lt_ (l2 + 1) fun x_1 =>
  r4 l0 s0 x_1 w I J
theorem ok_86_108 {K : Nat → Value} {k d : Nat} {r4 : Nat → Int32 → Int32 → aW → aI → aJ → Option aR} (hr4 : ∀ (l0 : Nat) (l1 : Int32) (l2 : Int32) (w : aW) (I : aI) (J : aJ) (R : aR), r4 l0 l1 l2 w I J = some R → Go K (d + 1) 86 4 [some (.ref l0), some (.int l1), some (.int l2), none, none] [] w I J R) {l0 : Nat} {l1 : Int32} {l2 : Int32} {l3 : Int32} {l4 : Int32} {s0 : Int32} {w : aW} {I : aI} {J : aJ} {R : aR} (h : f_86_108 K k d r4 l0 l1 l2 l3 l4 s0 w I J = some R) : Go K (d + 1) 86 108 [some (.ref l0), some (.int l1), some (.int l2), some (.int l3), some (.int l4)] [.int s0] w I J R := by
  unfold f_86_108 at h
  refine gs_0 (pc' := 109) (L' := [some (.ref l0), some (.int s0), some (.int l2), some (.int l3), some (.int l4)]) (st' := []) cd_86_108 rfl rfl ?_
  refine gs_0 (pc' := 112) (L' := [some (.ref l0), some (.int s0), some (.int (l2 + 1)), some (.int l3), some (.int l4)]) (st' := []) cd_86_109 rfl rfl ?_
  obtain ⟨x_1, hx, h⟩ := lt_s_ h
  rw [hx]
  clear hx
  refine gs_0 (pc' := 4) (L' := [some (.ref l0), some (.int s0), some (.int x_1), some (.int l3), some (.int l4)]) (st' := []) cd_86_112 rfl rfl ?_
  refine go_drop [some (.ref l0), some (.int s0), some (.int x_1), none, none] ⟨rfl, ⟨rfl, ⟨rfl, ⟨rfl, ⟨rfl, trivial⟩⟩⟩⟩⟩ ?_
  exact hr4 l0 s0 x_1 _ _ _ _ h
noncomputable def f_86_99 (K : Nat → Value) (k d : Nat) (r4 : Nat → Int32 → Int32 → aW → aI → aJ → Option aR) (l0 : Nat) (l1 : Int32) (l2 : Int32) (l3 : Int32) (l4 : Int32) (w : aW) (I : aI) (J : aJ) : Option aR :=
  if l3 = 0 then
    f_86_108 K k d r4 l0 l1 l2 l3 l4 l1 w I J
  else
    f_86_108 K k d r4 l0 l1 l2 l3 l4 l2 w I J
theorem ok_86_99 {K : Nat → Value} {k d : Nat} {r4 : Nat → Int32 → Int32 → aW → aI → aJ → Option aR} (hr4 : ∀ (l0 : Nat) (l1 : Int32) (l2 : Int32) (w : aW) (I : aI) (J : aJ) (R : aR), r4 l0 l1 l2 w I J = some R → Go K (d + 1) 86 4 [some (.ref l0), some (.int l1), some (.int l2), none, none] [] w I J R) {l0 : Nat} {l1 : Int32} {l2 : Int32} {l3 : Int32} {l4 : Int32} {w : aW} {I : aI} {J : aJ} {R : aR} (h : f_86_99 K k d r4 l0 l1 l2 l3 l4 w I J = some R) : Go K (d + 1) 86 99 [some (.ref l0), some (.int l1), some (.int l2), some (.int l3), some (.int l4)] [] w I J R := by
  unfold f_86_99 at h
  refine gs_0 (pc' := 100) (L' := [some (.ref l0), some (.int l1), some (.int l2), some (.int l3), some (.int l4)]) (st' := [.int l3]) cd_86_99 rfl rfl ?_
  refine gs_0 (pc' := if l3 = 0 then 107 else 103) (L' := [some (.ref l0), some (.int l1), some (.int l2), some (.int l3), some (.int l4)]) (st' := []) cd_86_100 rfl rfl ?_
  refine go_ite (fun hc => ?_) (fun hc => ?_)
  · rw [if_pos hc] at h
    refine gs_0 (pc' := 108) (L' := [some (.ref l0), some (.int l1), some (.int l2), some (.int l3), some (.int l4)]) (st' := [.int l1]) cd_86_107 rfl rfl ?_
    exact ok_86_108 hr4 h
  · rw [if_neg hc] at h
    refine gs_0 (pc' := 104) (L' := [some (.ref l0), some (.int l1), some (.int l2), some (.int l3), some (.int l4)]) (st' := [.int l2]) cd_86_103 rfl rfl ?_
    refine gs_0 (pc' := 108) (L' := [some (.ref l0), some (.int l1), some (.int l2), some (.int l3), some (.int l4)]) (st' := [.int l2]) cd_86_104 rfl rfl ?_
    exact ok_86_108 hr4 h
noncomputable def f_86_92 (K : Nat → Value) (k d : Nat) (r4 : Nat → Int32 → Int32 → aW → aI → aJ → Option aR) (r43 : Nat → Int32 → Int32 → Int32 → Int32 → aW → aI → aJ → Option aR) (l0 : Nat) (l1 : Int32) (l2 : Int32) (l3 : Int32) (l4 : Int32) (s0 : Int32) (w : aW) (I : aI) (J : aJ) : Option aR :=
  lt_ (l4 + 1) fun x_1 =>
  r43 l0 l1 l2 s0 x_1 w I J
theorem ok_86_92 {K : Nat → Value} {k d : Nat} {r4 : Nat → Int32 → Int32 → aW → aI → aJ → Option aR} {r43 : Nat → Int32 → Int32 → Int32 → Int32 → aW → aI → aJ → Option aR} (hr4 : ∀ (l0 : Nat) (l1 : Int32) (l2 : Int32) (w : aW) (I : aI) (J : aJ) (R : aR), r4 l0 l1 l2 w I J = some R → Go K (d + 1) 86 4 [some (.ref l0), some (.int l1), some (.int l2), none, none] [] w I J R) (hr43 : ∀ (l0 : Nat) (l1 : Int32) (l2 : Int32) (l3 : Int32) (l4 : Int32) (w : aW) (I : aI) (J : aJ) (R : aR), r43 l0 l1 l2 l3 l4 w I J = some R → Go K (d + 1) 86 43 [some (.ref l0), some (.int l1), some (.int l2), some (.int l3), some (.int l4)] [] w I J R) {l0 : Nat} {l1 : Int32} {l2 : Int32} {l3 : Int32} {l4 : Int32} {s0 : Int32} {w : aW} {I : aI} {J : aJ} {R : aR} (h : f_86_92 K k d r4 r43 l0 l1 l2 l3 l4 s0 w I J = some R) : Go K (d + 1) 86 92 [some (.ref l0), some (.int l1), some (.int l2), some (.int l3), some (.int l4)] [.int s0] w I J R := by
  unfold f_86_92 at h
  refine gs_0 (pc' := 93) (L' := [some (.ref l0), some (.int l1), some (.int l2), some (.int s0), some (.int l4)]) (st' := []) cd_86_92 rfl rfl ?_
  refine gs_0 (pc' := 96) (L' := [some (.ref l0), some (.int l1), some (.int l2), some (.int s0), some (.int (l4 + 1))]) (st' := []) cd_86_93 rfl rfl ?_
  obtain ⟨x_1, hx, h⟩ := lt_s_ h
  rw [hx]
  clear hx
  refine gs_0 (pc' := 43) (L' := [some (.ref l0), some (.int l1), some (.int l2), some (.int s0), some (.int x_1)]) (st' := []) cd_86_96 rfl rfl ?_
  exact hr43 l0 l1 l2 s0 x_1 _ _ _ _ h
noncomputable def f_86_43 (K : Nat → Value) (k : Nat) (d : Nat) (r4 : Nat → Int32 → Int32 → aW → aI → aJ → Option aR) : Nat → Int32 → Int32 → Int32 → Int32 → aW → aI → aJ → Option aR :=
  match k with
  | 0 => fun _ _ _ _ _ _ _ _ => none
  | k + 1 => fun l0 l1 l2 l3 l4 w I J =>
  lt_ (f_86_43 K k d r4) fun r43 =>
  if l3 = 0 then
    f_86_99 K k d r4 l0 l1 l2 l3 l4 w I J
  else
    gO w 6 l0 (
    gO w 6 l0 (
    if ((I l0 23) - (I l0 22)) ≤ l4 then
      f_86_99 K k d r4 l0 l1 l2 l3 l4 w I J
    else
      gO w 6 l0 (
      gV w l0 1 fun q_1 =>
      gO w 6 l0 (
      gA w 10 20 q_1 ((I l0 22) + l4) (
      gO w 6 l0 (
      gV w l0 21 fun q_2 =>
      gA w 14 15 q_2 l2 (
      gV w q_2 (l2 : Int32).toNatClampNeg fun q_3 =>
      gO w 7 q_3 (
      cI (Cl K d 6 [.ref q_3, .int l4] w I J) fun x_7 w_4 I_5 J_6 =>
      if ¬ (I q_1 ((I l0 22) + l4 : Int32).toNatClampNeg) = x_7 then
        f_86_92 K k d r4 r43 l0 l1 l2 l3 l4 0 w_4 I_5 J_6
      else
        f_86_92 K k d r4 r43 l0 l1 l2 l3 l4 1 w_4 I_5 J_6))))))))
theorem ok_86_43 {K : Nat → Value} {d : Nat} {r4 : Nat → Int32 → Int32 → aW → aI → aJ → Option aR} (hr4 : ∀ (l0 : Nat) (l1 : Int32) (l2 : Int32) (w : aW) (I : aI) (J : aJ) (R : aR), r4 l0 l1 l2 w I J = some R → Go K (d + 1) 86 4 [some (.ref l0), some (.int l1), some (.int l2), none, none] [] w I J R) : ∀ {k : Nat} {l0 : Nat} {l1 : Int32} {l2 : Int32} {l3 : Int32} {l4 : Int32} {w : aW} {I : aI} {J : aJ} {R : aR}, f_86_43 K k d r4 l0 l1 l2 l3 l4 w I J = some R → Go K (d + 1) 86 43 [some (.ref l0), some (.int l1), some (.int l2), some (.int l3), some (.int l4)] [] w I J R := by
  intro k
  induction k with
  | zero => intro l0 l1 l2 l3 l4 w I J R h; cases h
  | succ k ih =>
    intro l0 l1 l2 l3 l4 w I J R h
    have hr43 : ∀ (l0 : Nat) (l1 : Int32) (l2 : Int32) (l3 : Int32) (l4 : Int32) (w : aW) (I : aI) (J : aJ) (R : aR), f_86_43 K k d r4 l0 l1 l2 l3 l4 w I J = some R → Go K (d + 1) 86 43 [some (.ref l0), some (.int l1), some (.int l2), some (.int l3), some (.int l4)] [] w I J R := fun l0 l1 l2 l3 l4 w I J R h => ih h
    rw [f_86_43] at h
    obtain ⟨r43, hx, h⟩ := lt_s_ h
    rw [hx] at hr43
    clear hx ih
    refine gs_0 (pc' := 44) (L' := [some (.ref l0), some (.int l1), some (.int l2), some (.int l3), some (.int l4)]) (st' := [.int l3]) cd_86_43 rfl rfl ?_
    refine gs_0 (pc' := if l3 = 0 then 99 else 47) (L' := [some (.ref l0), some (.int l1), some (.int l2), some (.int l3), some (.int l4)]) (st' := []) cd_86_44 rfl rfl ?_
    refine go_ite (fun hc => ?_) (fun hc => ?_)
    · rw [if_pos hc] at h
      exact ok_86_99 hr4 h
    · rw [if_neg hc] at h
      refine gs_0 (pc' := 49) (L' := [some (.ref l0), some (.int l1), some (.int l2), some (.int l3), some (.int l4)]) (st' := [.int l4]) cd_86_47 rfl rfl ?_
      refine gs_0 (pc' := 50) (L' := [some (.ref l0), some (.int l1), some (.int l2), some (.int l3), some (.int l4)]) (st' := [.ref l0, .int l4]) cd_86_49 rfl rfl ?_
      obtain ⟨ht, h⟩ := gO_s h
      refine gs_gfI cd_86_50 (by decide) ht ?_
      refine gs_0 (pc' := 54) (L' := [some (.ref l0), some (.int l1), some (.int l2), some (.int l3), some (.int l4)]) (st' := [.ref l0, .int (I l0 23), .int l4]) cd_86_53 rfl rfl ?_
      obtain ⟨ht, h⟩ := gO_s h
      refine gs_gfI cd_86_54 (by decide) ht ?_
      refine gs_0 (pc' := 58) (L' := [some (.ref l0), some (.int l1), some (.int l2), some (.int l3), some (.int l4)]) (st' := [.int ((I l0 23) - (I l0 22)), .int l4]) cd_86_57 rfl rfl ?_
      refine gs_0 (pc' := if ((I l0 23) - (I l0 22)) ≤ l4 then 99 else 61) (L' := [some (.ref l0), some (.int l1), some (.int l2), some (.int l3), some (.int l4)]) (st' := []) cd_86_58 rfl rfl ?_
      refine go_ite (fun hc => ?_) (fun hc => ?_)
      · rw [if_pos hc] at h
        exact ok_86_99 hr4 h
      · rw [if_neg hc] at h
        refine gs_0 (pc' := 62) (L' := [some (.ref l0), some (.int l1), some (.int l2), some (.int l3), some (.int l4)]) (st' := [.ref l0]) cd_86_61 rfl rfl ?_
        obtain ⟨ht, h⟩ := gO_s h
        obtain ⟨q_1, hv, h⟩ := gV_s h
        refine gs_gfR cd_86_62 ht hv ?_
        refine gs_0 (pc' := 66) (L' := [some (.ref l0), some (.int l1), some (.int l2), some (.int l3), some (.int l4)]) (st' := [.ref l0, .ref q_1]) cd_86_65 rfl rfl ?_
        obtain ⟨ht, h⟩ := gO_s h
        refine gs_gfI cd_86_66 (by decide) ht ?_
        refine gs_0 (pc' := 71) (L' := [some (.ref l0), some (.int l1), some (.int l2), some (.int l3), some (.int l4)]) (st' := [.int l4, .int (I l0 22), .ref q_1]) cd_86_69 rfl rfl ?_
        refine gs_0 (pc' := 72) (L' := [some (.ref l0), some (.int l1), some (.int l2), some (.int l3), some (.int l4)]) (st' := [.int ((I l0 22) + l4), .ref q_1]) cd_86_71 rfl rfl ?_
        obtain ⟨ht, h⟩ := gA_s h
        refine gs_iald cd_86_72 ht ?_
        refine gs_0 (pc' := 74) (L' := [some (.ref l0), some (.int l1), some (.int l2), some (.int l3), some (.int l4)]) (st' := [.ref l0, .int (I q_1 ((I l0 22) + l4 : Int32).toNatClampNeg)]) cd_86_73 rfl rfl ?_
        obtain ⟨ht, h⟩ := gO_s h
        obtain ⟨q_2, hv, h⟩ := gV_s h
        refine gs_gfR cd_86_74 ht hv ?_
        refine gs_0 (pc' := 78) (L' := [some (.ref l0), some (.int l1), some (.int l2), some (.int l3), some (.int l4)]) (st' := [.int l2, .ref q_2, .int (I q_1 ((I l0 22) + l4 : Int32).toNatClampNeg)]) cd_86_77 rfl rfl ?_
        obtain ⟨ht, h⟩ := gA_s h
        obtain ⟨q_3, hv, h⟩ := gV_s h
        refine gs_rald cd_86_78 ht hv ?_
        refine gs_0 (pc' := 81) (L' := [some (.ref l0), some (.int l1), some (.int l2), some (.int l3), some (.int l4)]) (st' := [.int l4, .ref q_3, .int (I q_1 ((I l0 22) + l4 : Int32).toNatClampNeg)]) cd_86_79 rfl rfl ?_
        obtain ⟨ht, h⟩ := gO_s h
        obtain ⟨x_7, w_4, I_5, J_6, hcl, h⟩ := cI_s h
        refine gs_call (as := [.ref q_3, .int l4]) (rest := [.int (I q_1 ((I l0 22) + l4 : Int32).toNatClampNeg)]) cd_86_81 rfl (by decide) rfl (sm_rv_ok ht) (Nat.le_of_ble_eq_true rfl) (Nat.le_of_ble_eq_true rfl) rfl hcl ?_
        refine gs_0 (pc' := if ¬ (I q_1 ((I l0 22) + l4 : Int32).toNatClampNeg) = x_7 then 91 else 87) (L' := [some (.ref l0), some (.int l1), some (.int l2), some (.int l3), some (.int l4)]) (st' := []) cd_86_84 rfl rfl ?_
        refine go_ite (fun hc => ?_) (fun hc => ?_)
        · rw [if_pos hc] at h
          refine gs_0 (pc' := 92) (L' := [some (.ref l0), some (.int l1), some (.int l2), some (.int l3), some (.int l4)]) (st' := [.int 0]) cd_86_91 rfl rfl ?_
          exact ok_86_92 hr4 hr43 h
        · rw [if_neg hc] at h
          refine gs_0 (pc' := 88) (L' := [some (.ref l0), some (.int l1), some (.int l2), some (.int l3), some (.int l4)]) (st' := [.int 1]) cd_86_87 rfl rfl ?_
          refine gs_0 (pc' := 92) (L' := [some (.ref l0), some (.int l1), some (.int l2), some (.int l3), some (.int l4)]) (st' := [.int 1]) cd_86_88 rfl rfl ?_
          exact ok_86_92 hr4 hr43 h
noncomputable def f_86_39 (K : Nat → Value) (k d : Nat) (r4 : Nat → Int32 → Int32 → aW → aI → aJ → Option aR) (l0 : Nat) (l1 : Int32) (l2 : Int32) (s0 : Int32) (w : aW) (I : aI) (J : aJ) : Option aR :=
  f_86_43 K k d r4 l0 l1 l2 s0 0 w I J
theorem ok_86_39 {K : Nat → Value} {k d : Nat} {r4 : Nat → Int32 → Int32 → aW → aI → aJ → Option aR} (hr4 : ∀ (l0 : Nat) (l1 : Int32) (l2 : Int32) (w : aW) (I : aI) (J : aJ) (R : aR), r4 l0 l1 l2 w I J = some R → Go K (d + 1) 86 4 [some (.ref l0), some (.int l1), some (.int l2), none, none] [] w I J R) {l0 : Nat} {l1 : Int32} {l2 : Int32} {s0 : Int32} {w : aW} {I : aI} {J : aJ} {R : aR} (h : f_86_39 K k d r4 l0 l1 l2 s0 w I J = some R) : Go K (d + 1) 86 39 [some (.ref l0), some (.int l1), some (.int l2), none, none] [.int s0] w I J R := by
  unfold f_86_39 at h
  refine gs_0 (pc' := 40) (L' := [some (.ref l0), some (.int l1), some (.int l2), some (.int s0), none]) (st' := []) cd_86_39 rfl rfl ?_
  refine gs_0 (pc' := 41) (L' := [some (.ref l0), some (.int l1), some (.int l2), some (.int s0), none]) (st' := [.int 0]) cd_86_40 rfl rfl ?_
  refine gs_0 (pc' := 43) (L' := [some (.ref l0), some (.int l1), some (.int l2), some (.int s0), some (.int 0)]) (st' := []) cd_86_41 rfl rfl ?_
  exact ok_86_43 hr4 h
noncomputable def f_86_4 (K : Nat → Value) (k : Nat) (d : Nat) : Nat → Int32 → Int32 → aW → aI → aJ → Option aR :=
  match k with
  | 0 => fun _ _ _ _ _ _ => none
  | k + 1 => fun l0 l1 l2 w I J =>
  lt_ (f_86_4 K k d) fun r4 =>
  gO w 6 l0 (
  gV w l0 21 fun q_1 =>
  gL w q_1 fun n_2 =>
  if n_2 ≤ l2 then
    some (some (.int l1), w, I, J)
  else
    gO w 6 l0 (
    gO w 6 l0 (
    gO w 6 l0 (
    gV w l0 21 fun q_3 =>
    gA w 14 15 q_3 l2 (
    gV w q_3 (l2 : Int32).toNatClampNeg fun q_4 =>
    gO w 7 q_4 (
    cI (Cl K d 4 [.ref q_4] w I J) fun x_8 w_5 I_6 J_7 =>
    if ¬ ((I l0 23) - (I l0 22)) = x_8 then
      f_86_39 K k d r4 l0 l1 l2 0 w_5 I_6 J_7
    else
      f_86_39 K k d r4 l0 l1 l2 1 w_5 I_6 J_7))))))
theorem ok_86_4 {K : Nat → Value} {d : Nat} : ∀ {k : Nat} {l0 : Nat} {l1 : Int32} {l2 : Int32} {w : aW} {I : aI} {J : aJ} {R : aR}, f_86_4 K k d l0 l1 l2 w I J = some R → Go K (d + 1) 86 4 [some (.ref l0), some (.int l1), some (.int l2), none, none] [] w I J R := by
  intro k
  induction k with
  | zero => intro l0 l1 l2 w I J R h; cases h
  | succ k ih =>
    intro l0 l1 l2 w I J R h
    have hr4 : ∀ (l0 : Nat) (l1 : Int32) (l2 : Int32) (w : aW) (I : aI) (J : aJ) (R : aR), f_86_4 K k d l0 l1 l2 w I J = some R → Go K (d + 1) 86 4 [some (.ref l0), some (.int l1), some (.int l2), none, none] [] w I J R := fun l0 l1 l2 w I J R h => ih h
    rw [f_86_4] at h
    obtain ⟨r4, hx, h⟩ := lt_s_ h
    rw [hx] at hr4
    clear hx ih
    refine gs_0 (pc' := 5) (L' := [some (.ref l0), some (.int l1), some (.int l2), none, none]) (st' := [.int l2]) cd_86_4 rfl rfl ?_
    refine gs_0 (pc' := 6) (L' := [some (.ref l0), some (.int l1), some (.int l2), none, none]) (st' := [.ref l0, .int l2]) cd_86_5 rfl rfl ?_
    obtain ⟨ht, h⟩ := gO_s h
    obtain ⟨q_1, hv, h⟩ := gV_s h
    refine gs_gfR cd_86_6 ht hv ?_
    obtain ⟨t0, n0, ht, ht2, h⟩ := gL_s h
    refine gs_alen cd_86_9 ht ht2 ?_
    generalize Int32.ofNat n0 = n_2 at h ⊢
    refine gs_0 (pc' := if n_2 ≤ l2 then 115 else 13) (L' := [some (.ref l0), some (.int l1), some (.int l2), none, none]) (st' := []) cd_86_10 rfl rfl ?_
    refine go_ite (fun hc => ?_) (fun hc => ?_)
    · rw [if_pos hc] at h
      refine gs_0 (pc' := 116) (L' := [some (.ref l0), some (.int l1), some (.int l2), none, none]) (st' := [.int l1]) cd_86_115 rfl rfl ?_
      cases h
      exact gs_ri cd_86_116 (Or.inl rfl)
    · rw [if_neg hc] at h
      refine gs_0 (pc' := 14) (L' := [some (.ref l0), some (.int l1), some (.int l2), none, none]) (st' := [.ref l0]) cd_86_13 rfl rfl ?_
      obtain ⟨ht, h⟩ := gO_s h
      refine gs_gfI cd_86_14 (by decide) ht ?_
      refine gs_0 (pc' := 18) (L' := [some (.ref l0), some (.int l1), some (.int l2), none, none]) (st' := [.ref l0, .int (I l0 23)]) cd_86_17 rfl rfl ?_
      obtain ⟨ht, h⟩ := gO_s h
      refine gs_gfI cd_86_18 (by decide) ht ?_
      refine gs_0 (pc' := 22) (L' := [some (.ref l0), some (.int l1), some (.int l2), none, none]) (st' := [.int ((I l0 23) - (I l0 22))]) cd_86_21 rfl rfl ?_
      refine gs_0 (pc' := 23) (L' := [some (.ref l0), some (.int l1), some (.int l2), none, none]) (st' := [.ref l0, .int ((I l0 23) - (I l0 22))]) cd_86_22 rfl rfl ?_
      obtain ⟨ht, h⟩ := gO_s h
      obtain ⟨q_3, hv, h⟩ := gV_s h
      refine gs_gfR cd_86_23 ht hv ?_
      refine gs_0 (pc' := 27) (L' := [some (.ref l0), some (.int l1), some (.int l2), none, none]) (st' := [.int l2, .ref q_3, .int ((I l0 23) - (I l0 22))]) cd_86_26 rfl rfl ?_
      obtain ⟨ht, h⟩ := gA_s h
      obtain ⟨q_4, hv, h⟩ := gV_s h
      refine gs_rald cd_86_27 ht hv ?_
      obtain ⟨ht, h⟩ := gO_s h
      obtain ⟨x_8, w_5, I_6, J_7, hcl, h⟩ := cI_s h
      refine gs_call (as := [.ref q_4]) (rest := [.int ((I l0 23) - (I l0 22))]) cd_86_28 rfl (by decide) rfl (sm_rv_ok ht) (Nat.le_of_ble_eq_true rfl) (Nat.le_of_ble_eq_true rfl) rfl hcl ?_
      refine gs_0 (pc' := if ¬ ((I l0 23) - (I l0 22)) = x_8 then 38 else 34) (L' := [some (.ref l0), some (.int l1), some (.int l2), none, none]) (st' := []) cd_86_31 rfl rfl ?_
      refine go_ite (fun hc => ?_) (fun hc => ?_)
      · rw [if_pos hc] at h
        refine gs_0 (pc' := 39) (L' := [some (.ref l0), some (.int l1), some (.int l2), none, none]) (st' := [.int 0]) cd_86_38 rfl rfl ?_
        exact ok_86_39 hr4 h
      · rw [if_neg hc] at h
        refine gs_0 (pc' := 35) (L' := [some (.ref l0), some (.int l1), some (.int l2), none, none]) (st' := [.int 1]) cd_86_34 rfl rfl ?_
        refine gs_0 (pc' := 39) (L' := [some (.ref l0), some (.int l1), some (.int l2), none, none]) (st' := [.int 1]) cd_86_35 rfl rfl ?_
        exact ok_86_39 hr4 h
noncomputable def f_86 (K : Nat → Value) (k d : Nat) (l0 : Nat) (w : aW) (I : aI) (J : aJ) : Option aR :=
  f_86_4 K k d l0 (-1) 0 w I J
theorem ok_86 {K : Nat → Value} {k d : Nat} {l0 : Nat} {w : aW} {I : aI} {J : aJ} {R : aR} (h : f_86 K k d l0 w I J = some R) : Go K (d + 1) 86 0 [some (.ref l0), none, none, none, none] [] w I J R := by
  unfold f_86 at h
  refine gs_0 (pc' := 1) (L' := [some (.ref l0), none, none, none, none]) (st' := [.int ((-1))]) cd_86_0 rfl rfl ?_
  refine gs_0 (pc' := 2) (L' := [some (.ref l0), some (.int ((-1))), none, none, none]) (st' := []) cd_86_1 rfl rfl ?_
  refine gs_0 (pc' := 3) (L' := [some (.ref l0), some (.int ((-1))), none, none, none]) (st' := [.int 0]) cd_86_2 rfl rfl ?_
  refine gs_0 (pc' := 4) (L' := [some (.ref l0), some (.int ((-1))), some (.int 0), none, none]) (st' := []) cd_86_3 rfl rfl ?_
  exact ok_86_4 h
theorem cl_86 {K : Nat → Value} {k d : Nat} {l0 : Nat} {w : aW} {I : aI} {J : aJ} {R : aR} (h : f_86 K k d l0 w I J = some R) : Cl K (d + 1) 86 [.ref l0] w I J = some R := Cl_of (ok_86 h)
/-! ProvedMachine$Machine.write(II)V -/
theorem gl_144 : gcd.lookup 144 = some gw_144 := rfl
theorem cd_144_0 : sm_cd 144 0 = some (.iload_n 1, 1, 1, 0, 0, 0, 0, 0, 0) := cd_of gl_144 rfl
theorem cd_144_1 : sm_cd 144 1 = some (.ifCond .lt 10, 3, 11, 0, 0, 0, 0, 0, 0) := cd_of gl_144 rfl
theorem cd_144_4 : sm_cd 144 4 = some (.iload_n 1, 1, 1, 0, 0, 0, 0, 0, 0) := cd_of gl_144 rfl
theorem cd_144_5 : sm_cd 144 5 = some (.sipush 327, 3, 0, 0, 0, 0, 0, 327, 0) := cd_of gl_144 rfl
theorem cd_144_8 : sm_cd 144 8 = some (.if_icmp .lt 4, 3, 12, 0, 0, 0, 0, 0, 0) := cd_of gl_144 rfl
theorem cd_144_11 : sm_cd 144 11 = some (.return_, 1, 0, 0, 0, 0, 0, 0, 0) := cd_of gl_144 rfl
theorem cd_144_12 : sm_cd 144 12 = some (.aload_n 0, 1, 0, 0, 0, 0, 0, 0, 0) := cd_of gl_144 rfl
theorem cd_144_13 : sm_cd 144 13 = some (.getfield 25, 3, 0, 3, 2, 0, 0, 0, 0) := cd_of gl_144 rfl
theorem cd_144_16 : sm_cd 144 16 = some (.aload_n 0, 1, 0, 0, 0, 0, 0, 0, 0) := cd_of gl_144 rfl
theorem cd_144_17 : sm_cd 144 17 = some (.getfield 37, 3, 0, 7, 0, 0, 0, 0, 0) := cd_of gl_144 rfl
theorem cd_144_20 : sm_cd 144 20 = some (.bipush 31, 2, 0, 0, 0, 0, 0, 31, 0) := cd_of gl_144 rfl
theorem cd_144_22 : sm_cd 144 22 = some (.iand, 1, 0, 0, 0, 0, 0, 0, 0) := cd_of gl_144 rfl
theorem cd_144_23 : sm_cd 144 23 = some (.iaload, 1, 0, 0, 0, 0, 0, 0, 0) := cd_of gl_144 rfl
theorem cd_144_24 : sm_cd 144 24 = some (.istore_n 3, 1, 3, 0, 0, 0, 0, 0, 0) := cd_of gl_144 rfl
theorem cd_144_25 : sm_cd 144 25 = some (.iload_n 3, 1, 3, 0, 0, 0, 0, 0, 0) := cd_of gl_144 rfl
theorem cd_144_26 : sm_cd 144 26 = some (.ifCond .lt 59, 3, 85, 0, 0, 0, 0, 0, 0) := cd_of gl_144 rfl
theorem cd_144_29 : sm_cd 144 29 = some (.iload_n 3, 1, 3, 0, 0, 0, 0, 0, 0) := cd_of gl_144 rfl
theorem cd_144_30 : sm_cd 144 30 = some (.bipush 36, 2, 0, 0, 0, 0, 0, 36, 0) := cd_of gl_144 rfl
theorem cd_144_32 : sm_cd 144 32 = some (.if_icmp .ge 53, 3, 85, 0, 0, 0, 0, 0, 0) := cd_of gl_144 rfl
theorem cd_144_35 : sm_cd 144 35 = some (.aload_n 0, 1, 0, 0, 0, 0, 0, 0, 0) := cd_of gl_144 rfl
theorem cd_144_36 : sm_cd 144 36 = some (.getfield 37, 3, 0, 7, 0, 0, 0, 0, 0) := cd_of gl_144 rfl
theorem cd_144_39 : sm_cd 144 39 = some (.bipush 31, 2, 0, 0, 0, 0, 0, 31, 0) := cd_of gl_144 rfl
theorem cd_144_41 : sm_cd 144 41 = some (.iand, 1, 0, 0, 0, 0, 0, 0, 0) := cd_of gl_144 rfl
theorem cd_144_42 : sm_cd 144 42 = some (.bipush 36, 2, 0, 0, 0, 0, 0, 36, 0) := cd_of gl_144 rfl
theorem cd_144_44 : sm_cd 144 44 = some (.imul, 1, 0, 0, 0, 0, 0, 0, 0) := cd_of gl_144 rfl
theorem cd_144_45 : sm_cd 144 45 = some (.iload_n 3, 1, 3, 0, 0, 0, 0, 0, 0) := cd_of gl_144 rfl
theorem cd_144_46 : sm_cd 144 46 = some (.iadd, 1, 0, 0, 0, 0, 0, 0, 0) := cd_of gl_144 rfl
theorem cd_144_47 : sm_cd 144 47 = some (.istore 4, 2, 4, 0, 0, 0, 0, 0, 0) := cd_of gl_144 rfl
theorem cd_144_49 : sm_cd 144 49 = some (.aload_n 0, 1, 0, 0, 0, 0, 0, 0, 0) := cd_of gl_144 rfl
theorem cd_144_50 : sm_cd 144 50 = some (.getfield 28, 3, 0, 4, 2, 0, 0, 0, 0) := cd_of gl_144 rfl
theorem cd_144_53 : sm_cd 144 53 = some (.iload 4, 2, 4, 0, 0, 0, 0, 0, 0) := cd_of gl_144 rfl
theorem cd_144_55 : sm_cd 144 55 = some (.iload_n 1, 1, 1, 0, 0, 0, 0, 0, 0) := cd_of gl_144 rfl
theorem cd_144_56 : sm_cd 144 56 = some (.iastore, 1, 0, 0, 0, 0, 0, 0, 0) := cd_of gl_144 rfl
theorem cd_144_57 : sm_cd 144 57 = some (.aload_n 0, 1, 0, 0, 0, 0, 0, 0, 0) := cd_of gl_144 rfl
theorem cd_144_58 : sm_cd 144 58 = some (.getfield 31, 3, 0, 5, 2, 0, 0, 0, 0) := cd_of gl_144 rfl
theorem cd_144_61 : sm_cd 144 61 = some (.iload 4, 2, 4, 0, 0, 0, 0, 0, 0) := cd_of gl_144 rfl
theorem cd_144_63 : sm_cd 144 63 = some (.aload_n 0, 1, 0, 0, 0, 0, 0, 0, 0) := cd_of gl_144 rfl
theorem cd_144_64 : sm_cd 144 64 = some (.getfield 18, 3, 0, 1, 2, 0, 0, 0, 0) := cd_of gl_144 rfl
theorem cd_144_67 : sm_cd 144 67 = some (.iload_n 1, 1, 1, 0, 0, 0, 0, 0, 0) := cd_of gl_144 rfl
theorem cd_144_68 : sm_cd 144 68 = some (.iaload, 1, 0, 0, 0, 0, 0, 0, 0) := cd_of gl_144 rfl
theorem cd_144_69 : sm_cd 144 69 = some (.iastore, 1, 0, 0, 0, 0, 0, 0, 0) := cd_of gl_144 rfl
theorem cd_144_70 : sm_cd 144 70 = some (.aload_n 0, 1, 0, 0, 0, 0, 0, 0, 0) := cd_of gl_144 rfl
theorem cd_144_71 : sm_cd 144 71 = some (.getfield 25, 3, 0, 3, 2, 0, 0, 0, 0) := cd_of gl_144 rfl
theorem cd_144_74 : sm_cd 144 74 = some (.aload_n 0, 1, 0, 0, 0, 0, 0, 0, 0) := cd_of gl_144 rfl
theorem cd_144_75 : sm_cd 144 75 = some (.getfield 37, 3, 0, 7, 0, 0, 0, 0, 0) := cd_of gl_144 rfl
theorem cd_144_78 : sm_cd 144 78 = some (.bipush 31, 2, 0, 0, 0, 0, 0, 31, 0) := cd_of gl_144 rfl
theorem cd_144_80 : sm_cd 144 80 = some (.iand, 1, 0, 0, 0, 0, 0, 0, 0) := cd_of gl_144 rfl
theorem cd_144_81 : sm_cd 144 81 = some (.iload_n 3, 1, 3, 0, 0, 0, 0, 0, 0) := cd_of gl_144 rfl
theorem cd_144_82 : sm_cd 144 82 = some (.iconst 1, 1, 0, 0, 0, 0, 0, 1, 0) := cd_of gl_144 rfl
theorem cd_144_83 : sm_cd 144 83 = some (.iadd, 1, 0, 0, 0, 0, 0, 0, 0) := cd_of gl_144 rfl
theorem cd_144_84 : sm_cd 144 84 = some (.iastore, 1, 0, 0, 0, 0, 0, 0, 0) := cd_of gl_144 rfl
theorem cd_144_85 : sm_cd 144 85 = some (.aload_n 0, 1, 0, 0, 0, 0, 0, 0, 0) := cd_of gl_144 rfl
theorem cd_144_86 : sm_cd 144 86 = some (.getfield 18, 3, 0, 1, 2, 0, 0, 0, 0) := cd_of gl_144 rfl
theorem cd_144_89 : sm_cd 144 89 = some (.iload_n 1, 1, 1, 0, 0, 0, 0, 0, 0) := cd_of gl_144 rfl
theorem cd_144_90 : sm_cd 144 90 = some (.iload_n 2, 1, 2, 0, 0, 0, 0, 0, 0) := cd_of gl_144 rfl
theorem cd_144_91 : sm_cd 144 91 = some (.iastore, 1, 0, 0, 0, 0, 0, 0, 0) := cd_of gl_144 rfl
theorem cd_144_92 : sm_cd 144 92 = some (.return_, 1, 0, 0, 0, 0, 0, 0, 0) := cd_of gl_144 rfl
noncomputable def f_144_85 (K : Nat → Value) (k d : Nat) (l0 : Nat) (l1 : Int32) (l2 : Int32) (l3 : Int32) (w : aW) (I : aI) (J : aJ) : Option aR :=
  gO w 0 l0 (
  gV w l0 1 fun q_1 =>
  gA w 10 10 q_1 l1 (
  lt_ (sm_up2 I q_1 (l1 : Int32).toNatClampNeg l2) fun I_2 =>
  some (none, w, I_2, J)))
theorem ok_144_85 {K : Nat → Value} {k d : Nat} {l0 : Nat} {l1 : Int32} {l2 : Int32} {l3 : Int32} {w : aW} {I : aI} {J : aJ} {R : aR} (h : f_144_85 K k d l0 l1 l2 l3 w I J = some R) : Go K (d + 1) 144 85 [some (.ref l0), some (.int l1), some (.int l2), some (.int l3), none] [] w I J R := by
  unfold f_144_85 at h
  refine gs_0 (pc' := 86) (L' := [some (.ref l0), some (.int l1), some (.int l2), some (.int l3), none]) (st' := [.ref l0]) cd_144_85 rfl rfl ?_
  obtain ⟨ht, h⟩ := gO_s h
  obtain ⟨q_1, hv, h⟩ := gV_s h
  refine gs_gfR cd_144_86 ht hv ?_
  refine gs_0 (pc' := 90) (L' := [some (.ref l0), some (.int l1), some (.int l2), some (.int l3), none]) (st' := [.int l1, .ref q_1]) cd_144_89 rfl rfl ?_
  refine gs_0 (pc' := 91) (L' := [some (.ref l0), some (.int l1), some (.int l2), some (.int l3), none]) (st' := [.int l2, .int l1, .ref q_1]) cd_144_90 rfl rfl ?_
  obtain ⟨ht, h⟩ := gA_s h
  refine gs_iast cd_144_91 ht ?_
  obtain ⟨I_2, hx, h⟩ := lt_s_ h
  rw [hx]
  cases h
  exact gsr cd_144_92 rfl rfl
noncomputable def f_144 (K : Nat → Value) (k d : Nat) (l0 : Nat) (l1 : Int32) (l2 : Int32) (w : aW) (I : aI) (J : aJ) : Option aR :=
  if l1 < 0 then
    some (none, w, I, J)
  else
    if l1 < 327 then
      gO w 0 l0 (
      gV w l0 3 fun q_1 =>
      gO w 0 l0 (
      gA w 10 20 q_1 ((I l0 7) &&& 31) (
      lt_ (I q_1 ((I l0 7) &&& 31 : Int32).toNatClampNeg) fun x_2 =>
      if x_2 < 0 then
        f_144_85 K k d l0 l1 l2 x_2 w I J
      else
        if 36 ≤ x_2 then
          f_144_85 K k d l0 l1 l2 x_2 w I J
        else
          gO w 0 l0 (
          lt_ ((((I l0 7) &&& 31) * 36) + x_2) fun x_3 =>
          gO w 0 l0 (
          gV w l0 4 fun q_4 =>
          gA w 10 10 q_4 x_3 (
          lt_ (sm_up2 I q_4 (x_3 : Int32).toNatClampNeg l1) fun I_5 =>
          gO w 0 l0 (
          gV w l0 5 fun q_6 =>
          gO w 0 l0 (
          gV w l0 1 fun q_7 =>
          gA w 10 20 q_7 l1 (
          gA w 10 10 q_6 x_3 (
          lt_ (sm_up2 I_5 q_6 (x_3 : Int32).toNatClampNeg (I_5 q_7 (l1 : Int32).toNatClampNeg)) fun I_8 =>
          gO w 0 l0 (
          gV w l0 3 fun q_9 =>
          gO w 0 l0 (
          gA w 10 10 q_9 ((I_8 l0 7) &&& 31) (
          lt_ (sm_up2 I_8 q_9 ((I_8 l0 7) &&& 31 : Int32).toNatClampNeg (x_2 + 1)) fun I_10 =>
          f_144_85 K k d l0 l1 l2 x_2 w I_10 J)))))))))))))
    else
      some (none, w, I, J)
theorem ok_144 {K : Nat → Value} {k d : Nat} {l0 : Nat} {l1 : Int32} {l2 : Int32} {w : aW} {I : aI} {J : aJ} {R : aR} (h : f_144 K k d l0 l1 l2 w I J = some R) : Go K (d + 1) 144 0 [some (.ref l0), some (.int l1), some (.int l2), none, none] [] w I J R := by
  unfold f_144 at h
  refine gs_0 (pc' := 1) (L' := [some (.ref l0), some (.int l1), some (.int l2), none, none]) (st' := [.int l1]) cd_144_0 rfl rfl ?_
  refine gs_0 (pc' := if l1 < 0 then 11 else 4) (L' := [some (.ref l0), some (.int l1), some (.int l2), none, none]) (st' := []) cd_144_1 rfl rfl ?_
  refine go_ite (fun hc => ?_) (fun hc => ?_)
  · rw [if_pos hc] at h
    cases h
    exact gsr cd_144_11 rfl rfl
  · rw [if_neg hc] at h
    refine gs_0 (pc' := 5) (L' := [some (.ref l0), some (.int l1), some (.int l2), none, none]) (st' := [.int l1]) cd_144_4 rfl rfl ?_
    refine gs_0 (pc' := 8) (L' := [some (.ref l0), some (.int l1), some (.int l2), none, none]) (st' := [.int 327, .int l1]) cd_144_5 rfl rfl ?_
    refine gs_0 (pc' := if l1 < 327 then 12 else 11) (L' := [some (.ref l0), some (.int l1), some (.int l2), none, none]) (st' := []) cd_144_8 rfl rfl ?_
    refine go_ite (fun hc => ?_) (fun hc => ?_)
    · rw [if_pos hc] at h
      refine gs_0 (pc' := 13) (L' := [some (.ref l0), some (.int l1), some (.int l2), none, none]) (st' := [.ref l0]) cd_144_12 rfl rfl ?_
      obtain ⟨ht, h⟩ := gO_s h
      obtain ⟨q_1, hv, h⟩ := gV_s h
      refine gs_gfR cd_144_13 ht hv ?_
      refine gs_0 (pc' := 17) (L' := [some (.ref l0), some (.int l1), some (.int l2), none, none]) (st' := [.ref l0, .ref q_1]) cd_144_16 rfl rfl ?_
      obtain ⟨ht, h⟩ := gO_s h
      refine gs_gfI cd_144_17 (by decide) ht ?_
      refine gs_0 (pc' := 22) (L' := [some (.ref l0), some (.int l1), some (.int l2), none, none]) (st' := [.int 31, .int (I l0 7), .ref q_1]) cd_144_20 rfl rfl ?_
      refine gs_0 (pc' := 23) (L' := [some (.ref l0), some (.int l1), some (.int l2), none, none]) (st' := [.int ((I l0 7) &&& 31), .ref q_1]) cd_144_22 rfl rfl ?_
      obtain ⟨ht, h⟩ := gA_s h
      refine gs_iald cd_144_23 ht ?_
      refine gs_0 (pc' := 25) (L' := [some (.ref l0), some (.int l1), some (.int l2), some (.int (I q_1 ((I l0 7) &&& 31 : Int32).toNatClampNeg)), none]) (st' := []) cd_144_24 rfl rfl ?_
      obtain ⟨x_2, hx, h⟩ := lt_s_ h
      rw [hx]
      clear hx
      refine gs_0 (pc' := 26) (L' := [some (.ref l0), some (.int l1), some (.int l2), some (.int x_2), none]) (st' := [.int x_2]) cd_144_25 rfl rfl ?_
      refine gs_0 (pc' := if x_2 < 0 then 85 else 29) (L' := [some (.ref l0), some (.int l1), some (.int l2), some (.int x_2), none]) (st' := []) cd_144_26 rfl rfl ?_
      refine go_ite (fun hc => ?_) (fun hc => ?_)
      · rw [if_pos hc] at h
        exact ok_144_85 h
      · rw [if_neg hc] at h
        refine gs_0 (pc' := 30) (L' := [some (.ref l0), some (.int l1), some (.int l2), some (.int x_2), none]) (st' := [.int x_2]) cd_144_29 rfl rfl ?_
        refine gs_0 (pc' := 32) (L' := [some (.ref l0), some (.int l1), some (.int l2), some (.int x_2), none]) (st' := [.int 36, .int x_2]) cd_144_30 rfl rfl ?_
        refine gs_0 (pc' := if 36 ≤ x_2 then 85 else 35) (L' := [some (.ref l0), some (.int l1), some (.int l2), some (.int x_2), none]) (st' := []) cd_144_32 rfl rfl ?_
        refine go_ite (fun hc => ?_) (fun hc => ?_)
        · rw [if_pos hc] at h
          exact ok_144_85 h
        · rw [if_neg hc] at h
          refine gs_0 (pc' := 36) (L' := [some (.ref l0), some (.int l1), some (.int l2), some (.int x_2), none]) (st' := [.ref l0]) cd_144_35 rfl rfl ?_
          obtain ⟨ht, h⟩ := gO_s h
          refine gs_gfI cd_144_36 (by decide) ht ?_
          refine gs_0 (pc' := 41) (L' := [some (.ref l0), some (.int l1), some (.int l2), some (.int x_2), none]) (st' := [.int 31, .int (I l0 7)]) cd_144_39 rfl rfl ?_
          refine gs_0 (pc' := 42) (L' := [some (.ref l0), some (.int l1), some (.int l2), some (.int x_2), none]) (st' := [.int ((I l0 7) &&& 31)]) cd_144_41 rfl rfl ?_
          refine gs_0 (pc' := 44) (L' := [some (.ref l0), some (.int l1), some (.int l2), some (.int x_2), none]) (st' := [.int 36, .int ((I l0 7) &&& 31)]) cd_144_42 rfl rfl ?_
          refine gs_0 (pc' := 45) (L' := [some (.ref l0), some (.int l1), some (.int l2), some (.int x_2), none]) (st' := [.int (((I l0 7) &&& 31) * 36)]) cd_144_44 rfl rfl ?_
          refine gs_0 (pc' := 46) (L' := [some (.ref l0), some (.int l1), some (.int l2), some (.int x_2), none]) (st' := [.int x_2, .int (((I l0 7) &&& 31) * 36)]) cd_144_45 rfl rfl ?_
          refine gs_0 (pc' := 47) (L' := [some (.ref l0), some (.int l1), some (.int l2), some (.int x_2), none]) (st' := [.int ((((I l0 7) &&& 31) * 36) + x_2)]) cd_144_46 rfl rfl ?_
          refine gs_0 (pc' := 49) (L' := [some (.ref l0), some (.int l1), some (.int l2), some (.int x_2), some (.int ((((I l0 7) &&& 31) * 36) + x_2))]) (st' := []) cd_144_47 rfl rfl ?_
          obtain ⟨x_3, hx, h⟩ := lt_s_ h
          rw [hx]
          clear hx
          refine gs_0 (pc' := 50) (L' := [some (.ref l0), some (.int l1), some (.int l2), some (.int x_2), some (.int x_3)]) (st' := [.ref l0]) cd_144_49 rfl rfl ?_
          obtain ⟨ht, h⟩ := gO_s h
          obtain ⟨q_4, hv, h⟩ := gV_s h
          refine gs_gfR cd_144_50 ht hv ?_
          refine gs_0 (pc' := 55) (L' := [some (.ref l0), some (.int l1), some (.int l2), some (.int x_2), some (.int x_3)]) (st' := [.int x_3, .ref q_4]) cd_144_53 rfl rfl ?_
          refine gs_0 (pc' := 56) (L' := [some (.ref l0), some (.int l1), some (.int l2), some (.int x_2), some (.int x_3)]) (st' := [.int l1, .int x_3, .ref q_4]) cd_144_55 rfl rfl ?_
          obtain ⟨ht, h⟩ := gA_s h
          refine gs_iast cd_144_56 ht ?_
          obtain ⟨I_5, hx, h⟩ := lt_s_ h
          rw [hx]
          refine gs_0 (pc' := 58) (L' := [some (.ref l0), some (.int l1), some (.int l2), some (.int x_2), some (.int x_3)]) (st' := [.ref l0]) cd_144_57 rfl rfl ?_
          obtain ⟨ht, h⟩ := gO_s h
          obtain ⟨q_6, hv, h⟩ := gV_s h
          refine gs_gfR cd_144_58 ht hv ?_
          refine gs_0 (pc' := 63) (L' := [some (.ref l0), some (.int l1), some (.int l2), some (.int x_2), some (.int x_3)]) (st' := [.int x_3, .ref q_6]) cd_144_61 rfl rfl ?_
          refine gs_0 (pc' := 64) (L' := [some (.ref l0), some (.int l1), some (.int l2), some (.int x_2), some (.int x_3)]) (st' := [.ref l0, .int x_3, .ref q_6]) cd_144_63 rfl rfl ?_
          obtain ⟨ht, h⟩ := gO_s h
          obtain ⟨q_7, hv, h⟩ := gV_s h
          refine gs_gfR cd_144_64 ht hv ?_
          refine gs_0 (pc' := 68) (L' := [some (.ref l0), some (.int l1), some (.int l2), some (.int x_2), some (.int x_3)]) (st' := [.int l1, .ref q_7, .int x_3, .ref q_6]) cd_144_67 rfl rfl ?_
          obtain ⟨ht, h⟩ := gA_s h
          refine gs_iald cd_144_68 ht ?_
          obtain ⟨ht, h⟩ := gA_s h
          refine gs_iast cd_144_69 ht ?_
          obtain ⟨I_8, hx, h⟩ := lt_s_ h
          rw [hx]
          refine gs_0 (pc' := 71) (L' := [some (.ref l0), some (.int l1), some (.int l2), some (.int x_2), some (.int x_3)]) (st' := [.ref l0]) cd_144_70 rfl rfl ?_
          obtain ⟨ht, h⟩ := gO_s h
          obtain ⟨q_9, hv, h⟩ := gV_s h
          refine gs_gfR cd_144_71 ht hv ?_
          refine gs_0 (pc' := 75) (L' := [some (.ref l0), some (.int l1), some (.int l2), some (.int x_2), some (.int x_3)]) (st' := [.ref l0, .ref q_9]) cd_144_74 rfl rfl ?_
          obtain ⟨ht, h⟩ := gO_s h
          refine gs_gfI cd_144_75 (by decide) ht ?_
          refine gs_0 (pc' := 80) (L' := [some (.ref l0), some (.int l1), some (.int l2), some (.int x_2), some (.int x_3)]) (st' := [.int 31, .int (I_8 l0 7), .ref q_9]) cd_144_78 rfl rfl ?_
          refine gs_0 (pc' := 81) (L' := [some (.ref l0), some (.int l1), some (.int l2), some (.int x_2), some (.int x_3)]) (st' := [.int ((I_8 l0 7) &&& 31), .ref q_9]) cd_144_80 rfl rfl ?_
          refine gs_0 (pc' := 82) (L' := [some (.ref l0), some (.int l1), some (.int l2), some (.int x_2), some (.int x_3)]) (st' := [.int x_2, .int ((I_8 l0 7) &&& 31), .ref q_9]) cd_144_81 rfl rfl ?_
          refine gs_0 (pc' := 83) (L' := [some (.ref l0), some (.int l1), some (.int l2), some (.int x_2), some (.int x_3)]) (st' := [.int 1, .int x_2, .int ((I_8 l0 7) &&& 31), .ref q_9]) cd_144_82 rfl rfl ?_
          refine gs_0 (pc' := 84) (L' := [some (.ref l0), some (.int l1), some (.int l2), some (.int x_2), some (.int x_3)]) (st' := [.int (x_2 + 1), .int ((I_8 l0 7) &&& 31), .ref q_9]) cd_144_83 rfl rfl ?_
          obtain ⟨ht, h⟩ := gA_s h
          refine gs_iast cd_144_84 ht ?_
          obtain ⟨I_10, hx, h⟩ := lt_s_ h
          rw [hx]
          refine go_drop [some (.ref l0), some (.int l1), some (.int l2), some (.int x_2), none] ⟨rfl, ⟨rfl, ⟨rfl, ⟨rfl, ⟨rfl, trivial⟩⟩⟩⟩⟩ ?_
          exact ok_144_85 h
    · rw [if_neg hc] at h
      cases h
      exact gsr cd_144_11 rfl rfl
theorem cl_144 {K : Nat → Value} {k d : Nat} {l0 : Nat} {l1 : Int32} {l2 : Int32} {w : aW} {I : aI} {J : aJ} {R : aR} (h : f_144 K k d l0 l1 l2 w I J = some R) : Cl K (d + 1) 144 [.ref l0, .int l1, .int l2] w I J = some R := Cl_of (ok_144 h)
/-! ProvedMachine$Machine.chain(I)I -/
theorem gl_155 : gcd.lookup 155 = some gw_155 := rfl
theorem cd_155_0 : sm_cd 155 0 = some (.iconst 0, 1, 0, 0, 0, 0, 0, 0, 0) := cd_of gl_155 rfl
theorem cd_155_1 : sm_cd 155 1 = some (.istore_n 2, 1, 2, 0, 0, 0, 0, 0, 0) := cd_of gl_155 rfl
theorem cd_155_2 : sm_cd 155 2 = some (.iload_n 1, 1, 1, 0, 0, 0, 0, 0, 0) := cd_of gl_155 rfl
theorem cd_155_3 : sm_cd 155 3 = some (.istore_n 3, 1, 3, 0, 0, 0, 0, 0, 0) := cd_of gl_155 rfl
theorem cd_155_4 : sm_cd 155 4 = some (.iconst 0, 1, 0, 0, 0, 0, 0, 0, 0) := cd_of gl_155 rfl
theorem cd_155_5 : sm_cd 155 5 = some (.istore 4, 2, 4, 0, 0, 0, 0, 0, 0) := cd_of gl_155 rfl
theorem cd_155_7 : sm_cd 155 7 = some (.iload 4, 2, 4, 0, 0, 0, 0, 0, 0) := cd_of gl_155 rfl
theorem cd_155_9 : sm_cd 155 9 = some (.bipush 16, 2, 0, 0, 0, 0, 0, 16, 0) := cd_of gl_155 rfl
theorem cd_155_11 : sm_cd 155 11 = some (.if_icmp .ge 55, 3, 66, 0, 0, 0, 0, 0, 0) := cd_of gl_155 rfl
theorem cd_155_14 : sm_cd 155 14 = some (.iload_n 3, 1, 3, 0, 0, 0, 0, 0, 0) := cd_of gl_155 rfl
theorem cd_155_15 : sm_cd 155 15 = some (.iconst 1, 1, 0, 0, 0, 0, 0, 1, 0) := cd_of gl_155 rfl
theorem cd_155_16 : sm_cd 155 16 = some (.if_icmp .lt 50, 3, 66, 0, 0, 0, 0, 0, 0) := cd_of gl_155 rfl
theorem cd_155_19 : sm_cd 155 19 = some (.iload_n 3, 1, 3, 0, 0, 0, 0, 0, 0) := cd_of gl_155 rfl
theorem cd_155_20 : sm_cd 155 20 = some (.bipush 16, 2, 0, 0, 0, 0, 0, 16, 0) := cd_of gl_155 rfl
theorem cd_155_22 : sm_cd 155 22 = some (.if_icmp .gt 44, 3, 66, 0, 0, 0, 0, 0, 0) := cd_of gl_155 rfl
theorem cd_155_25 : sm_cd 155 25 = some (.iload_n 2, 1, 2, 0, 0, 0, 0, 0, 0) := cd_of gl_155 rfl
theorem cd_155_26 : sm_cd 155 26 = some (.iconst 1, 1, 0, 0, 0, 0, 0, 1, 0) := cd_of gl_155 rfl
theorem cd_155_27 : sm_cd 155 27 = some (.iload_n 3, 1, 3, 0, 0, 0, 0, 0, 0) := cd_of gl_155 rfl
theorem cd_155_28 : sm_cd 155 28 = some (.ishl, 1, 0, 0, 0, 0, 0, 0, 0) := cd_of gl_155 rfl
theorem cd_155_29 : sm_cd 155 29 = some (.ior, 1, 0, 0, 0, 0, 0, 0, 0) := cd_of gl_155 rfl
theorem cd_155_30 : sm_cd 155 30 = some (.istore_n 2, 1, 2, 0, 0, 0, 0, 0, 0) := cd_of gl_155 rfl
theorem cd_155_31 : sm_cd 155 31 = some (.aload_n 0, 1, 0, 0, 0, 0, 0, 0, 0) := cd_of gl_155 rfl
theorem cd_155_32 : sm_cd 155 32 = some (.getfield 18, 3, 0, 1, 2, 0, 0, 0, 0) := cd_of gl_155 rfl
theorem cd_155_35 : sm_cd 155 35 = some (.iload_n 3, 1, 3, 0, 0, 0, 0, 0, 0) := cd_of gl_155 rfl
theorem cd_155_36 : sm_cd 155 36 = some (.invokestatic 112, 3, 152, 1, 1, 1, 0, 0, 0) := cd_of gl_155 rfl
theorem cd_155_39 : sm_cd 155 39 = some (.iaload, 1, 0, 0, 0, 0, 0, 0, 0) := cd_of gl_155 rfl
theorem cd_155_40 : sm_cd 155 40 = some (.iconst 2, 1, 0, 0, 0, 0, 0, 2, 0) := cd_of gl_155 rfl
theorem cd_155_41 : sm_cd 155 41 = some (.if_icmp .ne 17, 3, 58, 0, 0, 0, 0, 0, 0) := cd_of gl_155 rfl
theorem cd_155_44 : sm_cd 155 44 = some (.aload_n 0, 1, 0, 0, 0, 0, 0, 0, 0) := cd_of gl_155 rfl
theorem cd_155_45 : sm_cd 155 45 = some (.getfield 18, 3, 0, 1, 2, 0, 0, 0, 0) := cd_of gl_155 rfl
theorem cd_155_48 : sm_cd 155 48 = some (.iload_n 3, 1, 3, 0, 0, 0, 0, 0, 0) := cd_of gl_155 rfl
theorem cd_155_49 : sm_cd 155 49 = some (.invokestatic 112, 3, 152, 1, 1, 1, 0, 0, 0) := cd_of gl_155 rfl
theorem cd_155_52 : sm_cd 155 52 = some (.iconst 2, 1, 0, 0, 0, 0, 0, 2, 0) := cd_of gl_155 rfl
theorem cd_155_53 : sm_cd 155 53 = some (.iadd, 1, 0, 0, 0, 0, 0, 0, 0) := cd_of gl_155 rfl
theorem cd_155_54 : sm_cd 155 54 = some (.iaload, 1, 0, 0, 0, 0, 0, 0, 0) := cd_of gl_155 rfl
theorem cd_155_55 : sm_cd 155 55 = some (.goto 4, 3, 59, 0, 0, 0, 0, 0, 0) := cd_of gl_155 rfl
theorem cd_155_58 : sm_cd 155 58 = some (.iconst 0, 1, 0, 0, 0, 0, 0, 0, 0) := cd_of gl_155 rfl
theorem cd_155_59 : sm_cd 155 59 = some (.istore_n 3, 1, 3, 0, 0, 0, 0, 0, 0) := cd_of gl_155 rfl
theorem cd_155_60 : sm_cd 155 60 = some (.iinc 4 1, 3, 4, 0, 0, 0, 0, 1, 0) := cd_of gl_155 rfl
theorem cd_155_63 : sm_cd 155 63 = some (.goto (-56), 3, 7, 0, 0, 0, 0, 0, 0) := cd_of gl_155 rfl
theorem cd_155_66 : sm_cd 155 66 = some (.iload_n 2, 1, 2, 0, 0, 0, 0, 0, 0) := cd_of gl_155 rfl
theorem cd_155_67 : sm_cd 155 67 = some (.ireturn, 1, 0, 0, 1, 0, 0, 0, 0) := cd_of gl_155 rfl
noncomputable def f_155_66 (K : Nat → Value) (k d : Nat) (l0 : Nat) (l1 : Int32) (l2 : Int32) (l3 : Int32) (l4 : Int32) (w : aW) (I : aI) (J : aJ) : Option aR :=
  some (some (.int l2), w, I, J)
theorem ok_155_66 {K : Nat → Value} {k d : Nat} {l0 : Nat} {l1 : Int32} {l2 : Int32} {l3 : Int32} {l4 : Int32} {w : aW} {I : aI} {J : aJ} {R : aR} (h : f_155_66 K k d l0 l1 l2 l3 l4 w I J = some R) : Go K (d + 1) 155 66 [some (.ref l0), some (.int l1), some (.int l2), some (.int l3), some (.int l4)] [] w I J R := by
  unfold f_155_66 at h
  refine gs_0 (pc' := 67) (L' := [some (.ref l0), some (.int l1), some (.int l2), some (.int l3), some (.int l4)]) (st' := [.int l2]) cd_155_66 rfl rfl ?_
  cases h
  exact gs_ri cd_155_67 (Or.inl rfl)
noncomputable def f_155_59 (K : Nat → Value) (k d : Nat) (r7 : Nat → Int32 → Int32 → Int32 → Int32 → aW → aI → aJ → Option aR) (l0 : Nat) (l1 : Int32) (l2 : Int32) (l3 : Int32) (l4 : Int32) (s0 : Int32) (w : aW) (I : aI) (J : aJ) : Option aR :=
  lt_ (l4 + 1) fun x_1 =>
  r7 l0 l1 l2 s0 x_1 w I J
theorem ok_155_59 {K : Nat → Value} {k d : Nat} {r7 : Nat → Int32 → Int32 → Int32 → Int32 → aW → aI → aJ → Option aR} (hr7 : ∀ (l0 : Nat) (l1 : Int32) (l2 : Int32) (l3 : Int32) (l4 : Int32) (w : aW) (I : aI) (J : aJ) (R : aR), r7 l0 l1 l2 l3 l4 w I J = some R → Go K (d + 1) 155 7 [some (.ref l0), some (.int l1), some (.int l2), some (.int l3), some (.int l4)] [] w I J R) {l0 : Nat} {l1 : Int32} {l2 : Int32} {l3 : Int32} {l4 : Int32} {s0 : Int32} {w : aW} {I : aI} {J : aJ} {R : aR} (h : f_155_59 K k d r7 l0 l1 l2 l3 l4 s0 w I J = some R) : Go K (d + 1) 155 59 [some (.ref l0), some (.int l1), some (.int l2), some (.int l3), some (.int l4)] [.int s0] w I J R := by
  unfold f_155_59 at h
  refine gs_0 (pc' := 60) (L' := [some (.ref l0), some (.int l1), some (.int l2), some (.int s0), some (.int l4)]) (st' := []) cd_155_59 rfl rfl ?_
  refine gs_0 (pc' := 63) (L' := [some (.ref l0), some (.int l1), some (.int l2), some (.int s0), some (.int (l4 + 1))]) (st' := []) cd_155_60 rfl rfl ?_
  obtain ⟨x_1, hx, h⟩ := lt_s_ h
  rw [hx]
  clear hx
  refine gs_0 (pc' := 7) (L' := [some (.ref l0), some (.int l1), some (.int l2), some (.int s0), some (.int x_1)]) (st' := []) cd_155_63 rfl rfl ?_
  exact hr7 l0 l1 l2 s0 x_1 _ _ _ _ h
noncomputable def f_155_7 (K : Nat → Value) (k : Nat) (d : Nat) : Nat → Int32 → Int32 → Int32 → Int32 → aW → aI → aJ → Option aR :=
  match k with
  | 0 => fun _ _ _ _ _ _ _ _ => none
  | k + 1 => fun l0 l1 l2 l3 l4 w I J =>
  lt_ (f_155_7 K k d) fun r7 =>
  if 16 ≤ l4 then
    f_155_66 K k d l0 l1 l2 l3 l4 w I J
  else
    if l3 < 1 then
      f_155_66 K k d l0 l1 l2 l3 l4 w I J
    else
      if 16 < l3 then
        f_155_66 K k d l0 l1 l2 l3 l4 w I J
      else
        lt_ (l2 ||| (1 <<< (l3 &&& 31))) fun x_1 =>
        gO w 0 l0 (
        gV w l0 1 fun q_2 =>
        cI (Cl K d 152 [.int l3] w I J) fun x_6 w_3 I_4 J_5 =>
        gA w_3 10 20 q_2 x_6 (
        if ¬ (I_4 q_2 (x_6 : Int32).toNatClampNeg) = 2 then
          f_155_59 K k d r7 l0 l1 x_1 l3 l4 0 w_3 I_4 J_5
        else
          gO w_3 0 l0 (
          gV w_3 l0 1 fun q_7 =>
          cI (Cl K d 152 [.int l3] w_3 I_4 J_5) fun x_11 w_8 I_9 J_10 =>
          gA w_8 10 20 q_7 (x_11 + 2) (
          f_155_59 K k d r7 l0 l1 x_1 l3 l4 (I_9 q_7 (x_11 + 2 : Int32).toNatClampNeg) w_8 I_9 J_10))))
theorem ok_155_7 {K : Nat → Value} {d : Nat} : ∀ {k : Nat} {l0 : Nat} {l1 : Int32} {l2 : Int32} {l3 : Int32} {l4 : Int32} {w : aW} {I : aI} {J : aJ} {R : aR}, f_155_7 K k d l0 l1 l2 l3 l4 w I J = some R → Go K (d + 1) 155 7 [some (.ref l0), some (.int l1), some (.int l2), some (.int l3), some (.int l4)] [] w I J R := by
  intro k
  induction k with
  | zero => intro l0 l1 l2 l3 l4 w I J R h; cases h
  | succ k ih =>
    intro l0 l1 l2 l3 l4 w I J R h
    have hr7 : ∀ (l0 : Nat) (l1 : Int32) (l2 : Int32) (l3 : Int32) (l4 : Int32) (w : aW) (I : aI) (J : aJ) (R : aR), f_155_7 K k d l0 l1 l2 l3 l4 w I J = some R → Go K (d + 1) 155 7 [some (.ref l0), some (.int l1), some (.int l2), some (.int l3), some (.int l4)] [] w I J R := fun l0 l1 l2 l3 l4 w I J R h => ih h
    rw [f_155_7] at h
    obtain ⟨r7, hx, h⟩ := lt_s_ h
    rw [hx] at hr7
    clear hx ih
    refine gs_0 (pc' := 9) (L' := [some (.ref l0), some (.int l1), some (.int l2), some (.int l3), some (.int l4)]) (st' := [.int l4]) cd_155_7 rfl rfl ?_
    refine gs_0 (pc' := 11) (L' := [some (.ref l0), some (.int l1), some (.int l2), some (.int l3), some (.int l4)]) (st' := [.int 16, .int l4]) cd_155_9 rfl rfl ?_
    refine gs_0 (pc' := if 16 ≤ l4 then 66 else 14) (L' := [some (.ref l0), some (.int l1), some (.int l2), some (.int l3), some (.int l4)]) (st' := []) cd_155_11 rfl rfl ?_
    refine go_ite (fun hc => ?_) (fun hc => ?_)
    · rw [if_pos hc] at h
      exact ok_155_66 h
    · rw [if_neg hc] at h
      refine gs_0 (pc' := 15) (L' := [some (.ref l0), some (.int l1), some (.int l2), some (.int l3), some (.int l4)]) (st' := [.int l3]) cd_155_14 rfl rfl ?_
      refine gs_0 (pc' := 16) (L' := [some (.ref l0), some (.int l1), some (.int l2), some (.int l3), some (.int l4)]) (st' := [.int 1, .int l3]) cd_155_15 rfl rfl ?_
      refine gs_0 (pc' := if l3 < 1 then 66 else 19) (L' := [some (.ref l0), some (.int l1), some (.int l2), some (.int l3), some (.int l4)]) (st' := []) cd_155_16 rfl rfl ?_
      refine go_ite (fun hc => ?_) (fun hc => ?_)
      · rw [if_pos hc] at h
        exact ok_155_66 h
      · rw [if_neg hc] at h
        refine gs_0 (pc' := 20) (L' := [some (.ref l0), some (.int l1), some (.int l2), some (.int l3), some (.int l4)]) (st' := [.int l3]) cd_155_19 rfl rfl ?_
        refine gs_0 (pc' := 22) (L' := [some (.ref l0), some (.int l1), some (.int l2), some (.int l3), some (.int l4)]) (st' := [.int 16, .int l3]) cd_155_20 rfl rfl ?_
        refine gs_0 (pc' := if 16 < l3 then 66 else 25) (L' := [some (.ref l0), some (.int l1), some (.int l2), some (.int l3), some (.int l4)]) (st' := []) cd_155_22 rfl rfl ?_
        refine go_ite (fun hc => ?_) (fun hc => ?_)
        · rw [if_pos hc] at h
          exact ok_155_66 h
        · rw [if_neg hc] at h
          refine gs_0 (pc' := 26) (L' := [some (.ref l0), some (.int l1), some (.int l2), some (.int l3), some (.int l4)]) (st' := [.int l2]) cd_155_25 rfl rfl ?_
          refine gs_0 (pc' := 27) (L' := [some (.ref l0), some (.int l1), some (.int l2), some (.int l3), some (.int l4)]) (st' := [.int 1, .int l2]) cd_155_26 rfl rfl ?_
          refine gs_0 (pc' := 28) (L' := [some (.ref l0), some (.int l1), some (.int l2), some (.int l3), some (.int l4)]) (st' := [.int l3, .int 1, .int l2]) cd_155_27 rfl rfl ?_
          refine gs_0 (pc' := 29) (L' := [some (.ref l0), some (.int l1), some (.int l2), some (.int l3), some (.int l4)]) (st' := [.int (1 <<< (l3 &&& 31)), .int l2]) cd_155_28 rfl rfl ?_
          refine gs_0 (pc' := 30) (L' := [some (.ref l0), some (.int l1), some (.int l2), some (.int l3), some (.int l4)]) (st' := [.int (l2 ||| (1 <<< (l3 &&& 31)))]) cd_155_29 rfl rfl ?_
          refine gs_0 (pc' := 31) (L' := [some (.ref l0), some (.int l1), some (.int (l2 ||| (1 <<< (l3 &&& 31)))), some (.int l3), some (.int l4)]) (st' := []) cd_155_30 rfl rfl ?_
          obtain ⟨x_1, hx, h⟩ := lt_s_ h
          rw [hx]
          clear hx
          refine gs_0 (pc' := 32) (L' := [some (.ref l0), some (.int l1), some (.int x_1), some (.int l3), some (.int l4)]) (st' := [.ref l0]) cd_155_31 rfl rfl ?_
          obtain ⟨ht, h⟩ := gO_s h
          obtain ⟨q_2, hv, h⟩ := gV_s h
          refine gs_gfR cd_155_32 ht hv ?_
          refine gs_0 (pc' := 36) (L' := [some (.ref l0), some (.int l1), some (.int x_1), some (.int l3), some (.int l4)]) (st' := [.int l3, .ref q_2]) cd_155_35 rfl rfl ?_
          obtain ⟨x_6, w_3, I_4, J_5, hcl, h⟩ := cI_s h
          refine gs_call (as := [.int l3]) (rest := [.ref q_2]) cd_155_36 rfl (by decide) rfl rfl (Nat.le_of_ble_eq_true rfl) (Nat.le_of_ble_eq_true rfl) rfl hcl ?_
          obtain ⟨ht, h⟩ := gA_s h
          refine gs_iald cd_155_39 ht ?_
          refine gs_0 (pc' := 41) (L' := [some (.ref l0), some (.int l1), some (.int x_1), some (.int l3), some (.int l4)]) (st' := [.int 2, .int (I_4 q_2 (x_6 : Int32).toNatClampNeg)]) cd_155_40 rfl rfl ?_
          refine gs_0 (pc' := if ¬ (I_4 q_2 (x_6 : Int32).toNatClampNeg) = 2 then 58 else 44) (L' := [some (.ref l0), some (.int l1), some (.int x_1), some (.int l3), some (.int l4)]) (st' := []) cd_155_41 rfl rfl ?_
          refine go_ite (fun hc => ?_) (fun hc => ?_)
          · rw [if_pos hc] at h
            refine gs_0 (pc' := 59) (L' := [some (.ref l0), some (.int l1), some (.int x_1), some (.int l3), some (.int l4)]) (st' := [.int 0]) cd_155_58 rfl rfl ?_
            exact ok_155_59 hr7 h
          · rw [if_neg hc] at h
            refine gs_0 (pc' := 45) (L' := [some (.ref l0), some (.int l1), some (.int x_1), some (.int l3), some (.int l4)]) (st' := [.ref l0]) cd_155_44 rfl rfl ?_
            obtain ⟨ht, h⟩ := gO_s h
            obtain ⟨q_7, hv, h⟩ := gV_s h
            refine gs_gfR cd_155_45 ht hv ?_
            refine gs_0 (pc' := 49) (L' := [some (.ref l0), some (.int l1), some (.int x_1), some (.int l3), some (.int l4)]) (st' := [.int l3, .ref q_7]) cd_155_48 rfl rfl ?_
            obtain ⟨x_11, w_8, I_9, J_10, hcl, h⟩ := cI_s h
            refine gs_call (as := [.int l3]) (rest := [.ref q_7]) cd_155_49 rfl (by decide) rfl rfl (Nat.le_of_ble_eq_true rfl) (Nat.le_of_ble_eq_true rfl) rfl hcl ?_
            refine gs_0 (pc' := 53) (L' := [some (.ref l0), some (.int l1), some (.int x_1), some (.int l3), some (.int l4)]) (st' := [.int 2, .int x_11, .ref q_7]) cd_155_52 rfl rfl ?_
            refine gs_0 (pc' := 54) (L' := [some (.ref l0), some (.int l1), some (.int x_1), some (.int l3), some (.int l4)]) (st' := [.int (x_11 + 2), .ref q_7]) cd_155_53 rfl rfl ?_
            obtain ⟨ht, h⟩ := gA_s h
            refine gs_iald cd_155_54 ht ?_
            refine gs_0 (pc' := 59) (L' := [some (.ref l0), some (.int l1), some (.int x_1), some (.int l3), some (.int l4)]) (st' := [.int (I_9 q_7 (x_11 + 2 : Int32).toNatClampNeg)]) cd_155_55 rfl rfl ?_
            exact ok_155_59 hr7 h
noncomputable def f_155 (K : Nat → Value) (k d : Nat) (l0 : Nat) (l1 : Int32) (w : aW) (I : aI) (J : aJ) : Option aR :=
  f_155_7 K k d l0 l1 0 l1 0 w I J
theorem ok_155 {K : Nat → Value} {k d : Nat} {l0 : Nat} {l1 : Int32} {w : aW} {I : aI} {J : aJ} {R : aR} (h : f_155 K k d l0 l1 w I J = some R) : Go K (d + 1) 155 0 [some (.ref l0), some (.int l1), none, none, none] [] w I J R := by
  unfold f_155 at h
  refine gs_0 (pc' := 1) (L' := [some (.ref l0), some (.int l1), none, none, none]) (st' := [.int 0]) cd_155_0 rfl rfl ?_
  refine gs_0 (pc' := 2) (L' := [some (.ref l0), some (.int l1), some (.int 0), none, none]) (st' := []) cd_155_1 rfl rfl ?_
  refine gs_0 (pc' := 3) (L' := [some (.ref l0), some (.int l1), some (.int 0), none, none]) (st' := [.int l1]) cd_155_2 rfl rfl ?_
  refine gs_0 (pc' := 4) (L' := [some (.ref l0), some (.int l1), some (.int 0), some (.int l1), none]) (st' := []) cd_155_3 rfl rfl ?_
  refine gs_0 (pc' := 5) (L' := [some (.ref l0), some (.int l1), some (.int 0), some (.int l1), none]) (st' := [.int 0]) cd_155_4 rfl rfl ?_
  refine gs_0 (pc' := 7) (L' := [some (.ref l0), some (.int l1), some (.int 0), some (.int l1), some (.int 0)]) (st' := []) cd_155_5 rfl rfl ?_
  exact ok_155_7 h
theorem cl_155 {K : Nat → Value} {k d : Nat} {l0 : Nat} {l1 : Int32} {w : aW} {I : aI} {J : aJ} {R : aR} (h : f_155 K k d l0 l1 w I J = some R) : Cl K (d + 1) 155 [.ref l0, .int l1] w I J = some R := Cl_of (ok_155 h)

/-! methods as functions, by own program (wip/whole/gen_f.py) -/
/-! ProvedMachine$Machine.<init>(LProvedMachine$Program;)V -/
theorem gl_13 : gcd.lookup 13 = some gw_13 := rfl
theorem cd_13_0 : sm_cd 13 0 = some (.aload_n 0, 1, 0, 0, 0, 0, 0, 0, 0) := cd_of gl_13 rfl
theorem cd_13_1 : sm_cd 13 1 = some (.invokespecial 7, 3, 0, 3, 0, 0, 0, 0, 0) := cd_of gl_13 rfl
theorem cd_13_4 : sm_cd 13 4 = some (.aload_n 0, 1, 0, 0, 0, 0, 0, 0, 0) := cd_of gl_13 rfl
theorem cd_13_5 : sm_cd 13 5 = some (.sipush 327, 3, 0, 0, 0, 0, 0, 327, 0) := cd_of gl_13 rfl
theorem cd_13_8 : sm_cd 13 8 = some (.newarray .int, 2, 10, 0, 0, 0, 0, 0, 0) := cd_of gl_13 rfl
theorem cd_13_10 : sm_cd 13 10 = some (.putfield 13, 3, 0, 1, 2, 0, 0, 0, 0) := cd_of gl_13 rfl
theorem cd_13_13 : sm_cd 13 13 = some (.aload_n 0, 1, 0, 0, 0, 0, 0, 0, 0) := cd_of gl_13 rfl
theorem cd_13_14 : sm_cd 13 14 = some (.sipush 327, 3, 0, 0, 0, 0, 0, 327, 0) := cd_of gl_13 rfl
theorem cd_13_17 : sm_cd 13 17 = some (.newarray .int, 2, 10, 0, 0, 0, 0, 0, 0) := cd_of gl_13 rfl
theorem cd_13_19 : sm_cd 13 19 = some (.putfield 17, 3, 0, 2, 2, 0, 0, 0, 0) := cd_of gl_13 rfl
theorem cd_13_22 : sm_cd 13 22 = some (.aload_n 0, 1, 0, 0, 0, 0, 0, 0, 0) := cd_of gl_13 rfl
theorem cd_13_23 : sm_cd 13 23 = some (.bipush 32, 2, 0, 0, 0, 0, 0, 32, 0) := cd_of gl_13 rfl
theorem cd_13_25 : sm_cd 13 25 = some (.newarray .int, 2, 10, 0, 0, 0, 0, 0, 0) := cd_of gl_13 rfl
theorem cd_13_27 : sm_cd 13 27 = some (.putfield 20, 3, 0, 3, 2, 0, 0, 0, 0) := cd_of gl_13 rfl
theorem cd_13_30 : sm_cd 13 30 = some (.aload_n 0, 1, 0, 0, 0, 0, 0, 0, 0) := cd_of gl_13 rfl
theorem cd_13_31 : sm_cd 13 31 = some (.sipush 1152, 3, 0, 0, 0, 0, 0, 1152, 0) := cd_of gl_13 rfl
theorem cd_13_34 : sm_cd 13 34 = some (.newarray .int, 2, 10, 0, 0, 0, 0, 0, 0) := cd_of gl_13 rfl
theorem cd_13_36 : sm_cd 13 36 = some (.putfield 23, 3, 0, 4, 2, 0, 0, 0, 0) := cd_of gl_13 rfl
theorem cd_13_39 : sm_cd 13 39 = some (.aload_n 0, 1, 0, 0, 0, 0, 0, 0, 0) := cd_of gl_13 rfl
theorem cd_13_40 : sm_cd 13 40 = some (.sipush 1152, 3, 0, 0, 0, 0, 0, 1152, 0) := cd_of gl_13 rfl
theorem cd_13_43 : sm_cd 13 43 = some (.newarray .int, 2, 10, 0, 0, 0, 0, 0, 0) := cd_of gl_13 rfl
theorem cd_13_45 : sm_cd 13 45 = some (.putfield 26, 3, 0, 5, 2, 0, 0, 0, 0) := cd_of gl_13 rfl
theorem cd_13_48 : sm_cd 13 48 = some (.aload_n 0, 1, 0, 0, 0, 0, 0, 0, 0) := cd_of gl_13 rfl
theorem cd_13_49 : sm_cd 13 49 = some (.sipush 128, 3, 0, 0, 0, 0, 0, 128, 0) := cd_of gl_13 rfl
theorem cd_13_52 : sm_cd 13 52 = some (.newarray .int, 2, 10, 0, 0, 0, 0, 0, 0) := cd_of gl_13 rfl
theorem cd_13_54 : sm_cd 13 54 = some (.putfield 29, 3, 0, 6, 2, 0, 0, 0, 0) := cd_of gl_13 rfl
theorem cd_13_57 : sm_cd 13 57 = some (.aload_n 0, 1, 0, 0, 0, 0, 0, 0, 0) := cd_of gl_13 rfl
theorem cd_13_58 : sm_cd 13 58 = some (.iconst 0, 1, 0, 0, 0, 0, 0, 0, 0) := cd_of gl_13 rfl
theorem cd_13_59 : sm_cd 13 59 = some (.putfield 32, 3, 0, 7, 0, 0, 0, 0, 0) := cd_of gl_13 rfl
theorem cd_13_62 : sm_cd 13 62 = some (.aload_n 0, 1, 0, 0, 0, 0, 0, 0, 0) := cd_of gl_13 rfl
theorem cd_13_63 : sm_cd 13 63 = some (.iconst 0, 1, 0, 0, 0, 0, 0, 0, 0) := cd_of gl_13 rfl
theorem cd_13_64 : sm_cd 13 64 = some (.putfield 36, 3, 0, 8, 0, 0, 0, 0, 0) := cd_of gl_13 rfl
theorem cd_13_67 : sm_cd 13 67 = some (.aload_n 0, 1, 0, 0, 0, 0, 0, 0, 0) := cd_of gl_13 rfl
theorem cd_13_68 : sm_cd 13 68 = some (.aload_n 1, 1, 1, 0, 0, 0, 0, 0, 0) := cd_of gl_13 rfl
theorem cd_13_69 : sm_cd 13 69 = some (.putfield 39, 3, 0, 0, 2, 0, 0, 0, 0) := cd_of gl_13 rfl
theorem cd_13_72 : sm_cd 13 72 = some (.return_, 1, 0, 0, 0, 0, 0, 0, 0) := cd_of gl_13 rfl
noncomputable def f_13 (K : Nat → Value) (k d : Nat) (l0 : Nat) (l1 : Nat) (w : aW) (I : aI) (J : aJ) : Option aR :=
  gC (¬ (327 : Int32) < 0 ∧ (327 : Int32).toNatClampNeg ≤ 1000000) (
  lt_ w.2.2.1 fun q_1 => lt_ (sm_alc w 10 (327 : Int32).toNatClampNeg (327 : Int32).toNatClampNeg) fun w_2 => lt_ (sm_up1 I q_1 (fun _ => 0)) fun I_3 => lt_ (sm_up1 J q_1 (fun _ => 0)) fun J_4 =>
  gO w_2 0 l0 (
  lt_ (w_2.1, sm_up2 w_2.2.1 l0 1 (some q_1), w_2.2.2) fun w_5 =>
  gC (¬ (327 : Int32) < 0 ∧ (327 : Int32).toNatClampNeg ≤ 1000000) (
  lt_ w_5.2.2.1 fun q_6 => lt_ (sm_alc w_5 10 (327 : Int32).toNatClampNeg (327 : Int32).toNatClampNeg) fun w_7 => lt_ (sm_up1 I_3 q_6 (fun _ => 0)) fun I_8 => lt_ (sm_up1 J_4 q_6 (fun _ => 0)) fun J_9 =>
  gO w_7 0 l0 (
  lt_ (w_7.1, sm_up2 w_7.2.1 l0 2 (some q_6), w_7.2.2) fun w_10 =>
  gC (¬ (32 : Int32) < 0 ∧ (32 : Int32).toNatClampNeg ≤ 1000000) (
  lt_ w_10.2.2.1 fun q_11 => lt_ (sm_alc w_10 10 (32 : Int32).toNatClampNeg (32 : Int32).toNatClampNeg) fun w_12 => lt_ (sm_up1 I_8 q_11 (fun _ => 0)) fun I_13 => lt_ (sm_up1 J_9 q_11 (fun _ => 0)) fun J_14 =>
  gO w_12 0 l0 (
  lt_ (w_12.1, sm_up2 w_12.2.1 l0 3 (some q_11), w_12.2.2) fun w_15 =>
  gC (¬ (1152 : Int32) < 0 ∧ (1152 : Int32).toNatClampNeg ≤ 1000000) (
  lt_ w_15.2.2.1 fun q_16 => lt_ (sm_alc w_15 10 (1152 : Int32).toNatClampNeg (1152 : Int32).toNatClampNeg) fun w_17 => lt_ (sm_up1 I_13 q_16 (fun _ => 0)) fun I_18 => lt_ (sm_up1 J_14 q_16 (fun _ => 0)) fun J_19 =>
  gO w_17 0 l0 (
  lt_ (w_17.1, sm_up2 w_17.2.1 l0 4 (some q_16), w_17.2.2) fun w_20 =>
  gC (¬ (1152 : Int32) < 0 ∧ (1152 : Int32).toNatClampNeg ≤ 1000000) (
  lt_ w_20.2.2.1 fun q_21 => lt_ (sm_alc w_20 10 (1152 : Int32).toNatClampNeg (1152 : Int32).toNatClampNeg) fun w_22 => lt_ (sm_up1 I_18 q_21 (fun _ => 0)) fun I_23 => lt_ (sm_up1 J_19 q_21 (fun _ => 0)) fun J_24 =>
  gO w_22 0 l0 (
  lt_ (w_22.1, sm_up2 w_22.2.1 l0 5 (some q_21), w_22.2.2) fun w_25 =>
  gC (¬ (128 : Int32) < 0 ∧ (128 : Int32).toNatClampNeg ≤ 1000000) (
  lt_ w_25.2.2.1 fun q_26 => lt_ (sm_alc w_25 10 (128 : Int32).toNatClampNeg (128 : Int32).toNatClampNeg) fun w_27 => lt_ (sm_up1 I_23 q_26 (fun _ => 0)) fun I_28 => lt_ (sm_up1 J_24 q_26 (fun _ => 0)) fun J_29 =>
  gO w_27 0 l0 (
  lt_ (w_27.1, sm_up2 w_27.2.1 l0 6 (some q_26), w_27.2.2) fun w_30 =>
  gO w_30 0 l0 (
  lt_ (sm_up2 I_28 l0 7 0) fun I_31 =>
  gO w_30 0 l0 (
  lt_ (sm_up2 I_31 l0 8 0) fun I_32 =>
  gO w_30 0 l0 (
  lt_ (w_30.1, sm_up2 w_30.2.1 l0 0 (some l1), w_30.2.2) fun w_33 =>
  some (none, w_33, I_32, J_29))))))))))))))))
theorem ok_13 {K : Nat → Value} {k d : Nat} {l0 : Nat} {l1 : Nat} {w : aW} {I : aI} {J : aJ} {R : aR} (h : f_13 K k d l0 l1 w I J = some R) : Go K (d + 1) 13 0 [some (.ref l0), some (.ref l1)] [] w I J R := by
  unfold f_13 at h
  refine gs_0 (pc' := 1) (L' := [some (.ref l0), some (.ref l1)]) (st' := [.ref l0]) cd_13_0 rfl rfl ?_
  refine gsp (pc' := 4) (L' := [some (.ref l0), some (.ref l1)]) (st' := []) cd_13_1 rfl (Or.inl rfl) rfl ?_
  refine gs_0 (pc' := 5) (L' := [some (.ref l0), some (.ref l1)]) (st' := [.ref l0]) cd_13_4 rfl rfl ?_
  refine gs_0 (pc' := 8) (L' := [some (.ref l0), some (.ref l1)]) (st' := [.int 327, .ref l0]) cd_13_5 rfl rfl ?_
  obtain ⟨hc, h⟩ := gC_s h
  refine gs_newa cd_13_8 hc ?_
  obtain ⟨q_1, hq, h⟩ := lt_s_ h
  obtain ⟨w_2, hx, h⟩ := lt_s_ h
  obtain ⟨I_3, hx1, h⟩ := lt_s_ h
  obtain ⟨J_4, hx2, h⟩ := lt_s_ h
  rw [hq, hx, hx1, hx2]
  obtain ⟨ht, h⟩ := gO_s h
  refine gs_pfR cd_13_10 (by decide) ht ?_
  obtain ⟨w_5, hx, h⟩ := lt_s_ h
  rw [hx]
  refine gs_0 (pc' := 14) (L' := [some (.ref l0), some (.ref l1)]) (st' := [.ref l0]) cd_13_13 rfl rfl ?_
  refine gs_0 (pc' := 17) (L' := [some (.ref l0), some (.ref l1)]) (st' := [.int 327, .ref l0]) cd_13_14 rfl rfl ?_
  obtain ⟨hc, h⟩ := gC_s h
  refine gs_newa cd_13_17 hc ?_
  obtain ⟨q_6, hq, h⟩ := lt_s_ h
  obtain ⟨w_7, hx, h⟩ := lt_s_ h
  obtain ⟨I_8, hx1, h⟩ := lt_s_ h
  obtain ⟨J_9, hx2, h⟩ := lt_s_ h
  rw [hq, hx, hx1, hx2]
  obtain ⟨ht, h⟩ := gO_s h
  refine gs_pfR cd_13_19 (by decide) ht ?_
  obtain ⟨w_10, hx, h⟩ := lt_s_ h
  rw [hx]
  refine gs_0 (pc' := 23) (L' := [some (.ref l0), some (.ref l1)]) (st' := [.ref l0]) cd_13_22 rfl rfl ?_
  refine gs_0 (pc' := 25) (L' := [some (.ref l0), some (.ref l1)]) (st' := [.int 32, .ref l0]) cd_13_23 rfl rfl ?_
  obtain ⟨hc, h⟩ := gC_s h
  refine gs_newa cd_13_25 hc ?_
  obtain ⟨q_11, hq, h⟩ := lt_s_ h
  obtain ⟨w_12, hx, h⟩ := lt_s_ h
  obtain ⟨I_13, hx1, h⟩ := lt_s_ h
  obtain ⟨J_14, hx2, h⟩ := lt_s_ h
  rw [hq, hx, hx1, hx2]
  obtain ⟨ht, h⟩ := gO_s h
  refine gs_pfR cd_13_27 (by decide) ht ?_
  obtain ⟨w_15, hx, h⟩ := lt_s_ h
  rw [hx]
  refine gs_0 (pc' := 31) (L' := [some (.ref l0), some (.ref l1)]) (st' := [.ref l0]) cd_13_30 rfl rfl ?_
  refine gs_0 (pc' := 34) (L' := [some (.ref l0), some (.ref l1)]) (st' := [.int 1152, .ref l0]) cd_13_31 rfl rfl ?_
  obtain ⟨hc, h⟩ := gC_s h
  refine gs_newa cd_13_34 hc ?_
  obtain ⟨q_16, hq, h⟩ := lt_s_ h
  obtain ⟨w_17, hx, h⟩ := lt_s_ h
  obtain ⟨I_18, hx1, h⟩ := lt_s_ h
  obtain ⟨J_19, hx2, h⟩ := lt_s_ h
  rw [hq, hx, hx1, hx2]
  obtain ⟨ht, h⟩ := gO_s h
  refine gs_pfR cd_13_36 (by decide) ht ?_
  obtain ⟨w_20, hx, h⟩ := lt_s_ h
  rw [hx]
  refine gs_0 (pc' := 40) (L' := [some (.ref l0), some (.ref l1)]) (st' := [.ref l0]) cd_13_39 rfl rfl ?_
  refine gs_0 (pc' := 43) (L' := [some (.ref l0), some (.ref l1)]) (st' := [.int 1152, .ref l0]) cd_13_40 rfl rfl ?_
  obtain ⟨hc, h⟩ := gC_s h
  refine gs_newa cd_13_43 hc ?_
  obtain ⟨q_21, hq, h⟩ := lt_s_ h
  obtain ⟨w_22, hx, h⟩ := lt_s_ h
  obtain ⟨I_23, hx1, h⟩ := lt_s_ h
  obtain ⟨J_24, hx2, h⟩ := lt_s_ h
  rw [hq, hx, hx1, hx2]
  obtain ⟨ht, h⟩ := gO_s h
  refine gs_pfR cd_13_45 (by decide) ht ?_
  obtain ⟨w_25, hx, h⟩ := lt_s_ h
  rw [hx]
  refine gs_0 (pc' := 49) (L' := [some (.ref l0), some (.ref l1)]) (st' := [.ref l0]) cd_13_48 rfl rfl ?_
  refine gs_0 (pc' := 52) (L' := [some (.ref l0), some (.ref l1)]) (st' := [.int 128, .ref l0]) cd_13_49 rfl rfl ?_
  obtain ⟨hc, h⟩ := gC_s h
  refine gs_newa cd_13_52 hc ?_
  obtain ⟨q_26, hq, h⟩ := lt_s_ h
  obtain ⟨w_27, hx, h⟩ := lt_s_ h
  obtain ⟨I_28, hx1, h⟩ := lt_s_ h
  obtain ⟨J_29, hx2, h⟩ := lt_s_ h
  rw [hq, hx, hx1, hx2]
  obtain ⟨ht, h⟩ := gO_s h
  refine gs_pfR cd_13_54 (by decide) ht ?_
  obtain ⟨w_30, hx, h⟩ := lt_s_ h
  rw [hx]
  refine gs_0 (pc' := 58) (L' := [some (.ref l0), some (.ref l1)]) (st' := [.ref l0]) cd_13_57 rfl rfl ?_
  refine gs_0 (pc' := 59) (L' := [some (.ref l0), some (.ref l1)]) (st' := [.int 0, .ref l0]) cd_13_58 rfl rfl ?_
  obtain ⟨ht, h⟩ := gO_s h
  refine gs_pfI cd_13_59 (by decide) (Or.inl rfl) ht ?_
  obtain ⟨I_31, hx, h⟩ := lt_s_ h
  rw [hx]
  refine gs_0 (pc' := 63) (L' := [some (.ref l0), some (.ref l1)]) (st' := [.ref l0]) cd_13_62 rfl rfl ?_
  refine gs_0 (pc' := 64) (L' := [some (.ref l0), some (.ref l1)]) (st' := [.int 0, .ref l0]) cd_13_63 rfl rfl ?_
  obtain ⟨ht, h⟩ := gO_s h
  refine gs_pfI cd_13_64 (by decide) (Or.inl rfl) ht ?_
  obtain ⟨I_32, hx, h⟩ := lt_s_ h
  rw [hx]
  refine gs_0 (pc' := 68) (L' := [some (.ref l0), some (.ref l1)]) (st' := [.ref l0]) cd_13_67 rfl rfl ?_
  refine gs_0 (pc' := 69) (L' := [some (.ref l0), some (.ref l1)]) (st' := [.ref l1, .ref l0]) cd_13_68 rfl rfl ?_
  obtain ⟨ht, h⟩ := gO_s h
  refine gs_pfR cd_13_69 (by decide) ht ?_
  obtain ⟨w_33, hx, h⟩ := lt_s_ h
  rw [hx]
  cases h
  exact gsr cd_13_72 rfl rfl
theorem cl_13 {K : Nat → Value} {k d : Nat} {l0 : Nat} {l1 : Nat} {w : aW} {I : aI} {J : aJ} {R : aR} (h : f_13 K k d l0 l1 w I J = some R) : Cl K (d + 1) 13 [.ref l0, .ref l1] w I J = some R := Cl_of (ok_13 h)
/-! ProvedMachine$Sheet.<init>()V -/
theorem gl_14 : gcd.lookup 14 = some gw_14 := rfl
theorem cd_14_0 : sm_cd 14 0 = some (.aload_n 0, 1, 0, 0, 0, 0, 0, 0, 0) := cd_of gl_14 rfl
theorem cd_14_1 : sm_cd 14 1 = some (.invokespecial 1, 3, 0, 3, 0, 0, 0, 0, 0) := cd_of gl_14 rfl
theorem cd_14_4 : sm_cd 14 4 = some (.aload_n 0, 1, 0, 0, 0, 0, 0, 0, 0) := cd_of gl_14 rfl
theorem cd_14_5 : sm_cd 14 5 = some (.bipush 40, 2, 0, 0, 0, 0, 0, 40, 0) := cd_of gl_14 rfl
theorem cd_14_7 : sm_cd 14 7 = some (.newarray .int, 2, 10, 0, 0, 0, 0, 0, 0) := cd_of gl_14 rfl
theorem cd_14_9 : sm_cd 14 9 = some (.putfield 9, 3, 3, 0, 2, 0, 0, 0, 0) := cd_of gl_14 rfl
theorem cd_14_12 : sm_cd 14 12 = some (.aload_n 0, 1, 0, 0, 0, 0, 0, 0, 0) := cd_of gl_14 rfl
theorem cd_14_13 : sm_cd 14 13 = some (.iconst 0, 1, 0, 0, 0, 0, 0, 0, 0) := cd_of gl_14 rfl
theorem cd_14_14 : sm_cd 14 14 = some (.putfield 13, 3, 3, 1, 0, 0, 0, 0, 0) := cd_of gl_14 rfl
theorem cd_14_17 : sm_cd 14 17 = some (.aload_n 0, 1, 0, 0, 0, 0, 0, 0, 0) := cd_of gl_14 rfl
theorem cd_14_18 : sm_cd 14 18 = some (.iconst 0, 1, 0, 0, 0, 0, 0, 0, 0) := cd_of gl_14 rfl
theorem cd_14_19 : sm_cd 14 19 = some (.putfield 17, 3, 3, 2, 0, 0, 0, 0, 0) := cd_of gl_14 rfl
theorem cd_14_22 : sm_cd 14 22 = some (.return_, 1, 0, 0, 0, 0, 0, 0, 0) := cd_of gl_14 rfl
noncomputable def f_14 (K : Nat → Value) (k d : Nat) (l0 : Nat) (w : aW) (I : aI) (J : aJ) : Option aR :=
  gC (¬ (40 : Int32) < 0 ∧ (40 : Int32).toNatClampNeg ≤ 1000000) (
  lt_ w.2.2.1 fun q_1 => lt_ (sm_alc w 10 (40 : Int32).toNatClampNeg (40 : Int32).toNatClampNeg) fun w_2 => lt_ (sm_up1 I q_1 (fun _ => 0)) fun I_3 => lt_ (sm_up1 J q_1 (fun _ => 0)) fun J_4 =>
  gO w_2 3 l0 (
  lt_ (w_2.1, sm_up2 w_2.2.1 l0 0 (some q_1), w_2.2.2) fun w_5 =>
  gO w_5 3 l0 (
  lt_ (sm_up2 I_3 l0 1 0) fun I_6 =>
  gO w_5 3 l0 (
  lt_ (sm_up2 I_6 l0 2 0) fun I_7 =>
  some (none, w_5, I_7, J_4)))))
theorem ok_14 {K : Nat → Value} {k d : Nat} {l0 : Nat} {w : aW} {I : aI} {J : aJ} {R : aR} (h : f_14 K k d l0 w I J = some R) : Go K (d + 1) 14 0 [some (.ref l0)] [] w I J R := by
  unfold f_14 at h
  refine gs_0 (pc' := 1) (L' := [some (.ref l0)]) (st' := [.ref l0]) cd_14_0 rfl rfl ?_
  refine gsp (pc' := 4) (L' := [some (.ref l0)]) (st' := []) cd_14_1 rfl (Or.inl rfl) rfl ?_
  refine gs_0 (pc' := 5) (L' := [some (.ref l0)]) (st' := [.ref l0]) cd_14_4 rfl rfl ?_
  refine gs_0 (pc' := 7) (L' := [some (.ref l0)]) (st' := [.int 40, .ref l0]) cd_14_5 rfl rfl ?_
  obtain ⟨hc, h⟩ := gC_s h
  refine gs_newa cd_14_7 hc ?_
  obtain ⟨q_1, hq, h⟩ := lt_s_ h
  obtain ⟨w_2, hx, h⟩ := lt_s_ h
  obtain ⟨I_3, hx1, h⟩ := lt_s_ h
  obtain ⟨J_4, hx2, h⟩ := lt_s_ h
  rw [hq, hx, hx1, hx2]
  obtain ⟨ht, h⟩ := gO_s h
  refine gs_pfR cd_14_9 (by decide) ht ?_
  obtain ⟨w_5, hx, h⟩ := lt_s_ h
  rw [hx]
  refine gs_0 (pc' := 13) (L' := [some (.ref l0)]) (st' := [.ref l0]) cd_14_12 rfl rfl ?_
  refine gs_0 (pc' := 14) (L' := [some (.ref l0)]) (st' := [.int 0, .ref l0]) cd_14_13 rfl rfl ?_
  obtain ⟨ht, h⟩ := gO_s h
  refine gs_pfI cd_14_14 (by decide) (Or.inl rfl) ht ?_
  obtain ⟨I_6, hx, h⟩ := lt_s_ h
  rw [hx]
  refine gs_0 (pc' := 18) (L' := [some (.ref l0)]) (st' := [.ref l0]) cd_14_17 rfl rfl ?_
  refine gs_0 (pc' := 19) (L' := [some (.ref l0)]) (st' := [.int 0, .ref l0]) cd_14_18 rfl rfl ?_
  obtain ⟨ht, h⟩ := gO_s h
  refine gs_pfI cd_14_19 (by decide) (Or.inl rfl) ht ?_
  obtain ⟨I_7, hx, h⟩ := lt_s_ h
  rw [hx]
  cases h
  exact gsr cd_14_22 rfl rfl
theorem cl_14 {K : Nat → Value} {k d : Nat} {l0 : Nat} {w : aW} {I : aI} {J : aJ} {R : aR} (h : f_14 K k d l0 w I J = some R) : Cl K (d + 1) 14 [.ref l0] w I J = some R := Cl_of (ok_14 h)
/-! ProvedMachineModel.<init>()V -/
theorem gl_15 : gcd.lookup 15 = some gw_15 := rfl
set_option maxRecDepth 20000 in
theorem cd_15_0 : sm_cd 15 0 = some (.aload_n 0, 1, 0, 0, 0, 0, 0, 0, 0) := cd_of gl_15 rfl
set_option maxRecDepth 20000 in
theorem cd_15_1 : sm_cd 15 1 = some (.invokespecial 1, 3, 0, 3, 0, 0, 0, 0, 0) := cd_of gl_15 rfl
set_option maxRecDepth 20000 in
theorem cd_15_4 : sm_cd 15 4 = some (.aload_n 0, 1, 0, 0, 0, 0, 0, 0, 0) := cd_of gl_15 rfl
set_option maxRecDepth 20000 in
theorem cd_15_5 : sm_cd 15 5 = some (.bipush 8, 2, 0, 0, 0, 0, 0, 8, 0) := cd_of gl_15 rfl
set_option maxRecDepth 20000 in
theorem cd_15_7 : sm_cd 15 7 = some (.newarray .int, 2, 10, 0, 0, 0, 0, 0, 0) := cd_of gl_15 rfl
set_option maxRecDepth 20000 in
theorem cd_15_9 : sm_cd 15 9 = some (.putfield 7, 3, 6, 0, 2, 0, 0, 0, 0) := cd_of gl_15 rfl
set_option maxRecDepth 20000 in
theorem cd_15_12 : sm_cd 15 12 = some (.aload_n 0, 1, 0, 0, 0, 0, 0, 0, 0) := cd_of gl_15 rfl
set_option maxRecDepth 20000 in
theorem cd_15_13 : sm_cd 15 13 = some (.sipush 240, 3, 0, 0, 0, 0, 0, 240, 0) := cd_of gl_15 rfl
set_option maxRecDepth 20000 in
theorem cd_15_16 : sm_cd 15 16 = some (.newarray .int, 2, 10, 0, 0, 0, 0, 0, 0) := cd_of gl_15 rfl
set_option maxRecDepth 20000 in
theorem cd_15_18 : sm_cd 15 18 = some (.putfield 13, 3, 6, 1, 2, 0, 0, 0, 0) := cd_of gl_15 rfl
set_option maxRecDepth 20000 in
theorem cd_15_21 : sm_cd 15 21 = some (.aload_n 0, 1, 0, 0, 0, 0, 0, 0, 0) := cd_of gl_15 rfl
set_option maxRecDepth 20000 in
theorem cd_15_22 : sm_cd 15 22 = some (.iconst (-1), 1, 0, 0, 0, 0, 0, (-1), 0) := cd_of gl_15 rfl
set_option maxRecDepth 20000 in
theorem cd_15_23 : sm_cd 15 23 = some (.putfield 16, 3, 6, 4, 0, 0, 0, 0, 0) := cd_of gl_15 rfl
set_option maxRecDepth 20000 in
theorem cd_15_26 : sm_cd 15 26 = some (.aload_n 0, 1, 0, 0, 0, 0, 0, 0, 0) := cd_of gl_15 rfl
set_option maxRecDepth 20000 in
theorem cd_15_27 : sm_cd 15 27 = some (.bipush 6, 2, 0, 0, 0, 0, 0, 6, 0) := cd_of gl_15 rfl
set_option maxRecDepth 20000 in
theorem cd_15_29 : sm_cd 15 29 = some (.newarray .int, 2, 10, 0, 0, 0, 0, 0, 0) := cd_of gl_15 rfl
set_option maxRecDepth 20000 in
theorem cd_15_31 : sm_cd 15 31 = some (.putfield 20, 3, 6, 6, 2, 0, 0, 0, 0) := cd_of gl_15 rfl
set_option maxRecDepth 20000 in
theorem cd_15_34 : sm_cd 15 34 = some (.aload_n 0, 1, 0, 0, 0, 0, 0, 0, 0) := cd_of gl_15 rfl
set_option maxRecDepth 20000 in
theorem cd_15_35 : sm_cd 15 35 = some (.bipush 6, 2, 0, 0, 0, 0, 0, 6, 0) := cd_of gl_15 rfl
set_option maxRecDepth 20000 in
theorem cd_15_37 : sm_cd 15 37 = some (.newarray .int, 2, 10, 0, 0, 0, 0, 0, 0) := cd_of gl_15 rfl
set_option maxRecDepth 20000 in
theorem cd_15_39 : sm_cd 15 39 = some (.putfield 23, 3, 6, 7, 2, 0, 0, 0, 0) := cd_of gl_15 rfl
set_option maxRecDepth 20000 in
theorem cd_15_42 : sm_cd 15 42 = some (.aload_n 0, 1, 0, 0, 0, 0, 0, 0, 0) := cd_of gl_15 rfl
set_option maxRecDepth 20000 in
theorem cd_15_43 : sm_cd 15 43 = some (.bipush 6, 2, 0, 0, 0, 0, 0, 6, 0) := cd_of gl_15 rfl
set_option maxRecDepth 20000 in
theorem cd_15_45 : sm_cd 15 45 = some (.newarray .int, 2, 10, 0, 0, 0, 0, 0, 0) := cd_of gl_15 rfl
set_option maxRecDepth 20000 in
theorem cd_15_47 : sm_cd 15 47 = some (.putfield 26, 3, 6, 8, 2, 0, 0, 0, 0) := cd_of gl_15 rfl
set_option maxRecDepth 20000 in
theorem cd_15_50 : sm_cd 15 50 = some (.aload_n 0, 1, 0, 0, 0, 0, 0, 0, 0) := cd_of gl_15 rfl
set_option maxRecDepth 20000 in
theorem cd_15_51 : sm_cd 15 51 = some (.bipush 6, 2, 0, 0, 0, 0, 0, 6, 0) := cd_of gl_15 rfl
set_option maxRecDepth 20000 in
theorem cd_15_53 : sm_cd 15 53 = some (.newarray .int, 2, 10, 0, 0, 0, 0, 0, 0) := cd_of gl_15 rfl
set_option maxRecDepth 20000 in
theorem cd_15_55 : sm_cd 15 55 = some (.putfield 29, 3, 6, 9, 2, 0, 0, 0, 0) := cd_of gl_15 rfl
set_option maxRecDepth 20000 in
theorem cd_15_58 : sm_cd 15 58 = some (.aload_n 0, 1, 0, 0, 0, 0, 0, 0, 0) := cd_of gl_15 rfl
set_option maxRecDepth 20000 in
theorem cd_15_59 : sm_cd 15 59 = some (.bipush 6, 2, 0, 0, 0, 0, 0, 6, 0) := cd_of gl_15 rfl
set_option maxRecDepth 20000 in
theorem cd_15_61 : sm_cd 15 61 = some (.newarray .int, 2, 10, 0, 0, 0, 0, 0, 0) := cd_of gl_15 rfl
set_option maxRecDepth 20000 in
theorem cd_15_63 : sm_cd 15 63 = some (.putfield 32, 3, 6, 10, 2, 0, 0, 0, 0) := cd_of gl_15 rfl
set_option maxRecDepth 20000 in
theorem cd_15_66 : sm_cd 15 66 = some (.aload_n 0, 1, 0, 0, 0, 0, 0, 0, 0) := cd_of gl_15 rfl
set_option maxRecDepth 20000 in
theorem cd_15_67 : sm_cd 15 67 = some (.bipush 36, 2, 0, 0, 0, 0, 0, 36, 0) := cd_of gl_15 rfl
set_option maxRecDepth 20000 in
theorem cd_15_69 : sm_cd 15 69 = some (.newarray .int, 2, 10, 0, 0, 0, 0, 0, 0) := cd_of gl_15 rfl
set_option maxRecDepth 20000 in
theorem cd_15_71 : sm_cd 15 71 = some (.putfield 35, 3, 6, 11, 2, 0, 0, 0, 0) := cd_of gl_15 rfl
set_option maxRecDepth 20000 in
theorem cd_15_74 : sm_cd 15 74 = some (.aload_n 0, 1, 0, 0, 0, 0, 0, 0, 0) := cd_of gl_15 rfl
set_option maxRecDepth 20000 in
theorem cd_15_75 : sm_cd 15 75 = some (.bipush 36, 2, 0, 0, 0, 0, 0, 36, 0) := cd_of gl_15 rfl
set_option maxRecDepth 20000 in
theorem cd_15_77 : sm_cd 15 77 = some (.newarray .int, 2, 10, 0, 0, 0, 0, 0, 0) := cd_of gl_15 rfl
set_option maxRecDepth 20000 in
theorem cd_15_79 : sm_cd 15 79 = some (.putfield 38, 3, 6, 12, 2, 0, 0, 0, 0) := cd_of gl_15 rfl
set_option maxRecDepth 20000 in
theorem cd_15_82 : sm_cd 15 82 = some (.aload_n 0, 1, 0, 0, 0, 0, 0, 0, 0) := cd_of gl_15 rfl
set_option maxRecDepth 20000 in
theorem cd_15_83 : sm_cd 15 83 = some (.sipush 300, 3, 0, 0, 0, 0, 0, 300, 0) := cd_of gl_15 rfl
set_option maxRecDepth 20000 in
theorem cd_15_86 : sm_cd 15 86 = some (.newarray .int, 2, 10, 0, 0, 0, 0, 0, 0) := cd_of gl_15 rfl
set_option maxRecDepth 20000 in
theorem cd_15_88 : sm_cd 15 88 = some (.putfield 41, 3, 6, 14, 2, 0, 0, 0, 0) := cd_of gl_15 rfl
set_option maxRecDepth 20000 in
theorem cd_15_91 : sm_cd 15 91 = some (.aload_n 0, 1, 0, 0, 0, 0, 0, 0, 0) := cd_of gl_15 rfl
set_option maxRecDepth 20000 in
theorem cd_15_92 : sm_cd 15 92 = some (.sipush 300, 3, 0, 0, 0, 0, 0, 300, 0) := cd_of gl_15 rfl
set_option maxRecDepth 20000 in
theorem cd_15_95 : sm_cd 15 95 = some (.newarray .int, 2, 10, 0, 0, 0, 0, 0, 0) := cd_of gl_15 rfl
set_option maxRecDepth 20000 in
theorem cd_15_97 : sm_cd 15 97 = some (.putfield 44, 3, 6, 15, 2, 0, 0, 0, 0) := cd_of gl_15 rfl
set_option maxRecDepth 20000 in
theorem cd_15_100 : sm_cd 15 100 = some (.aload_n 0, 1, 0, 0, 0, 0, 0, 0, 0) := cd_of gl_15 rfl
set_option maxRecDepth 20000 in
theorem cd_15_101 : sm_cd 15 101 = some (.bipush 50, 2, 0, 0, 0, 0, 0, 50, 0) := cd_of gl_15 rfl
set_option maxRecDepth 20000 in
theorem cd_15_103 : sm_cd 15 103 = some (.newarray .int, 2, 10, 0, 0, 0, 0, 0, 0) := cd_of gl_15 rfl
set_option maxRecDepth 20000 in
theorem cd_15_105 : sm_cd 15 105 = some (.putfield 47, 3, 6, 18, 2, 0, 0, 0, 0) := cd_of gl_15 rfl
set_option maxRecDepth 20000 in
theorem cd_15_108 : sm_cd 15 108 = some (.aload_n 0, 1, 0, 0, 0, 0, 0, 0, 0) := cd_of gl_15 rfl
set_option maxRecDepth 20000 in
theorem cd_15_109 : sm_cd 15 109 = some (.sipush 200, 3, 0, 0, 0, 0, 0, 200, 0) := cd_of gl_15 rfl
set_option maxRecDepth 20000 in
theorem cd_15_112 : sm_cd 15 112 = some (.newarray .int, 2, 10, 0, 0, 0, 0, 0, 0) := cd_of gl_15 rfl
set_option maxRecDepth 20000 in
theorem cd_15_114 : sm_cd 15 114 = some (.putfield 50, 3, 6, 19, 2, 0, 0, 0, 0) := cd_of gl_15 rfl
set_option maxRecDepth 20000 in
theorem cd_15_117 : sm_cd 15 117 = some (.aload_n 0, 1, 0, 0, 0, 0, 0, 0, 0) := cd_of gl_15 rfl
set_option maxRecDepth 20000 in
theorem cd_15_118 : sm_cd 15 118 = some (.sipush 200, 3, 0, 0, 0, 0, 0, 200, 0) := cd_of gl_15 rfl
set_option maxRecDepth 20000 in
theorem cd_15_121 : sm_cd 15 121 = some (.newarray .int, 2, 10, 0, 0, 0, 0, 0, 0) := cd_of gl_15 rfl
set_option maxRecDepth 20000 in
theorem cd_15_123 : sm_cd 15 123 = some (.putfield 53, 3, 6, 20, 2, 0, 0, 0, 0) := cd_of gl_15 rfl
set_option maxRecDepth 20000 in
theorem cd_15_126 : sm_cd 15 126 = some (.aload_n 0, 1, 0, 0, 0, 0, 0, 0, 0) := cd_of gl_15 rfl
set_option maxRecDepth 20000 in
theorem cd_15_127 : sm_cd 15 127 = some (.bipush 20, 2, 0, 0, 0, 0, 0, 20, 0) := cd_of gl_15 rfl
set_option maxRecDepth 20000 in
theorem cd_15_129 : sm_cd 15 129 = some (.anewarray 56, 3, 15, 0, 0, 0, 0, 0, 0) := cd_of gl_15 rfl
set_option maxRecDepth 20000 in
theorem cd_15_132 : sm_cd 15 132 = some (.dup, 1, 0, 0, 0, 0, 0, 0, 0) := cd_of gl_15 rfl
set_option maxRecDepth 20000 in
theorem cd_15_133 : sm_cd 15 133 = some (.iconst 0, 1, 0, 0, 0, 0, 0, 0, 0) := cd_of gl_15 rfl
set_option maxRecDepth 20000 in
theorem cd_15_134 : sm_cd 15 134 = some (.ldc 58, 2, 2, 1, 0, 0, 0, 0, 0) := cd_of gl_15 rfl
set_option maxRecDepth 20000 in
theorem cd_15_136 : sm_cd 15 136 = some (.aastore, 1, 0, 0, 0, 0, 0, 0, 0) := cd_of gl_15 rfl
set_option maxRecDepth 20000 in
theorem cd_15_137 : sm_cd 15 137 = some (.dup, 1, 0, 0, 0, 0, 0, 0, 0) := cd_of gl_15 rfl
set_option maxRecDepth 20000 in
theorem cd_15_138 : sm_cd 15 138 = some (.iconst 1, 1, 0, 0, 0, 0, 0, 1, 0) := cd_of gl_15 rfl
set_option maxRecDepth 20000 in
theorem cd_15_139 : sm_cd 15 139 = some (.ldc 60, 2, 3, 1, 0, 0, 0, 0, 0) := cd_of gl_15 rfl
set_option maxRecDepth 20000 in
theorem cd_15_141 : sm_cd 15 141 = some (.aastore, 1, 0, 0, 0, 0, 0, 0, 0) := cd_of gl_15 rfl
set_option maxRecDepth 20000 in
theorem cd_15_142 : sm_cd 15 142 = some (.dup, 1, 0, 0, 0, 0, 0, 0, 0) := cd_of gl_15 rfl
set_option maxRecDepth 20000 in
theorem cd_15_143 : sm_cd 15 143 = some (.iconst 2, 1, 0, 0, 0, 0, 0, 2, 0) := cd_of gl_15 rfl
set_option maxRecDepth 20000 in
theorem cd_15_144 : sm_cd 15 144 = some (.ldc 62, 2, 4, 1, 0, 0, 0, 0, 0) := cd_of gl_15 rfl
set_option maxRecDepth 20000 in
theorem cd_15_146 : sm_cd 15 146 = some (.aastore, 1, 0, 0, 0, 0, 0, 0, 0) := cd_of gl_15 rfl
set_option maxRecDepth 20000 in
theorem cd_15_147 : sm_cd 15 147 = some (.dup, 1, 0, 0, 0, 0, 0, 0, 0) := cd_of gl_15 rfl
set_option maxRecDepth 20000 in
theorem cd_15_148 : sm_cd 15 148 = some (.iconst 3, 1, 0, 0, 0, 0, 0, 3, 0) := cd_of gl_15 rfl
set_option maxRecDepth 20000 in
theorem cd_15_149 : sm_cd 15 149 = some (.ldc 64, 2, 5, 1, 0, 0, 0, 0, 0) := cd_of gl_15 rfl
set_option maxRecDepth 20000 in
theorem cd_15_151 : sm_cd 15 151 = some (.aastore, 1, 0, 0, 0, 0, 0, 0, 0) := cd_of gl_15 rfl
set_option maxRecDepth 20000 in
theorem cd_15_152 : sm_cd 15 152 = some (.dup, 1, 0, 0, 0, 0, 0, 0, 0) := cd_of gl_15 rfl
set_option maxRecDepth 20000 in
theorem cd_15_153 : sm_cd 15 153 = some (.iconst 4, 1, 0, 0, 0, 0, 0, 4, 0) := cd_of gl_15 rfl
set_option maxRecDepth 20000 in
theorem cd_15_154 : sm_cd 15 154 = some (.ldc 66, 2, 6, 1, 0, 0, 0, 0, 0) := cd_of gl_15 rfl
set_option maxRecDepth 20000 in
theorem cd_15_156 : sm_cd 15 156 = some (.aastore, 1, 0, 0, 0, 0, 0, 0, 0) := cd_of gl_15 rfl
set_option maxRecDepth 20000 in
theorem cd_15_157 : sm_cd 15 157 = some (.dup, 1, 0, 0, 0, 0, 0, 0, 0) := cd_of gl_15 rfl
set_option maxRecDepth 20000 in
theorem cd_15_158 : sm_cd 15 158 = some (.iconst 5, 1, 0, 0, 0, 0, 0, 5, 0) := cd_of gl_15 rfl
set_option maxRecDepth 20000 in
theorem cd_15_159 : sm_cd 15 159 = some (.ldc 68, 2, 7, 1, 0, 0, 0, 0, 0) := cd_of gl_15 rfl
set_option maxRecDepth 20000 in
theorem cd_15_161 : sm_cd 15 161 = some (.aastore, 1, 0, 0, 0, 0, 0, 0, 0) := cd_of gl_15 rfl
set_option maxRecDepth 20000 in
theorem cd_15_162 : sm_cd 15 162 = some (.dup, 1, 0, 0, 0, 0, 0, 0, 0) := cd_of gl_15 rfl
set_option maxRecDepth 20000 in
theorem cd_15_163 : sm_cd 15 163 = some (.bipush 6, 2, 0, 0, 0, 0, 0, 6, 0) := cd_of gl_15 rfl
set_option maxRecDepth 20000 in
theorem cd_15_165 : sm_cd 15 165 = some (.ldc 70, 2, 8, 1, 0, 0, 0, 0, 0) := cd_of gl_15 rfl
set_option maxRecDepth 20000 in
theorem cd_15_167 : sm_cd 15 167 = some (.aastore, 1, 0, 0, 0, 0, 0, 0, 0) := cd_of gl_15 rfl
set_option maxRecDepth 20000 in
theorem cd_15_168 : sm_cd 15 168 = some (.dup, 1, 0, 0, 0, 0, 0, 0, 0) := cd_of gl_15 rfl
set_option maxRecDepth 20000 in
theorem cd_15_169 : sm_cd 15 169 = some (.bipush 7, 2, 0, 0, 0, 0, 0, 7, 0) := cd_of gl_15 rfl
set_option maxRecDepth 20000 in
theorem cd_15_171 : sm_cd 15 171 = some (.ldc 72, 2, 9, 1, 0, 0, 0, 0, 0) := cd_of gl_15 rfl
set_option maxRecDepth 20000 in
theorem cd_15_173 : sm_cd 15 173 = some (.aastore, 1, 0, 0, 0, 0, 0, 0, 0) := cd_of gl_15 rfl
set_option maxRecDepth 20000 in
theorem cd_15_174 : sm_cd 15 174 = some (.dup, 1, 0, 0, 0, 0, 0, 0, 0) := cd_of gl_15 rfl
set_option maxRecDepth 20000 in
theorem cd_15_175 : sm_cd 15 175 = some (.bipush 8, 2, 0, 0, 0, 0, 0, 8, 0) := cd_of gl_15 rfl
set_option maxRecDepth 20000 in
theorem cd_15_177 : sm_cd 15 177 = some (.ldc 74, 2, 10, 1, 0, 0, 0, 0, 0) := cd_of gl_15 rfl
set_option maxRecDepth 20000 in
theorem cd_15_179 : sm_cd 15 179 = some (.aastore, 1, 0, 0, 0, 0, 0, 0, 0) := cd_of gl_15 rfl
set_option maxRecDepth 20000 in
theorem cd_15_180 : sm_cd 15 180 = some (.dup, 1, 0, 0, 0, 0, 0, 0, 0) := cd_of gl_15 rfl
set_option maxRecDepth 20000 in
theorem cd_15_181 : sm_cd 15 181 = some (.bipush 9, 2, 0, 0, 0, 0, 0, 9, 0) := cd_of gl_15 rfl
set_option maxRecDepth 20000 in
theorem cd_15_183 : sm_cd 15 183 = some (.ldc 76, 2, 11, 1, 0, 0, 0, 0, 0) := cd_of gl_15 rfl
set_option maxRecDepth 20000 in
theorem cd_15_185 : sm_cd 15 185 = some (.aastore, 1, 0, 0, 0, 0, 0, 0, 0) := cd_of gl_15 rfl
set_option maxRecDepth 20000 in
theorem cd_15_186 : sm_cd 15 186 = some (.dup, 1, 0, 0, 0, 0, 0, 0, 0) := cd_of gl_15 rfl
set_option maxRecDepth 20000 in
theorem cd_15_187 : sm_cd 15 187 = some (.bipush 10, 2, 0, 0, 0, 0, 0, 10, 0) := cd_of gl_15 rfl
set_option maxRecDepth 20000 in
theorem cd_15_189 : sm_cd 15 189 = some (.ldc 78, 2, 12, 1, 0, 0, 0, 0, 0) := cd_of gl_15 rfl
set_option maxRecDepth 20000 in
theorem cd_15_191 : sm_cd 15 191 = some (.aastore, 1, 0, 0, 0, 0, 0, 0, 0) := cd_of gl_15 rfl
set_option maxRecDepth 20000 in
theorem cd_15_192 : sm_cd 15 192 = some (.dup, 1, 0, 0, 0, 0, 0, 0, 0) := cd_of gl_15 rfl
set_option maxRecDepth 20000 in
theorem cd_15_193 : sm_cd 15 193 = some (.bipush 11, 2, 0, 0, 0, 0, 0, 11, 0) := cd_of gl_15 rfl
set_option maxRecDepth 20000 in
theorem cd_15_195 : sm_cd 15 195 = some (.ldc 80, 2, 13, 1, 0, 0, 0, 0, 0) := cd_of gl_15 rfl
set_option maxRecDepth 20000 in
theorem cd_15_197 : sm_cd 15 197 = some (.aastore, 1, 0, 0, 0, 0, 0, 0, 0) := cd_of gl_15 rfl
set_option maxRecDepth 20000 in
theorem cd_15_198 : sm_cd 15 198 = some (.dup, 1, 0, 0, 0, 0, 0, 0, 0) := cd_of gl_15 rfl
set_option maxRecDepth 20000 in
theorem cd_15_199 : sm_cd 15 199 = some (.bipush 12, 2, 0, 0, 0, 0, 0, 12, 0) := cd_of gl_15 rfl
set_option maxRecDepth 20000 in
theorem cd_15_201 : sm_cd 15 201 = some (.ldc 82, 2, 14, 1, 0, 0, 0, 0, 0) := cd_of gl_15 rfl
set_option maxRecDepth 20000 in
theorem cd_15_203 : sm_cd 15 203 = some (.aastore, 1, 0, 0, 0, 0, 0, 0, 0) := cd_of gl_15 rfl
set_option maxRecDepth 20000 in
theorem cd_15_204 : sm_cd 15 204 = some (.dup, 1, 0, 0, 0, 0, 0, 0, 0) := cd_of gl_15 rfl
set_option maxRecDepth 20000 in
theorem cd_15_205 : sm_cd 15 205 = some (.bipush 13, 2, 0, 0, 0, 0, 0, 13, 0) := cd_of gl_15 rfl
set_option maxRecDepth 20000 in
theorem cd_15_207 : sm_cd 15 207 = some (.ldc 84, 2, 15, 1, 0, 0, 0, 0, 0) := cd_of gl_15 rfl
set_option maxRecDepth 20000 in
theorem cd_15_209 : sm_cd 15 209 = some (.aastore, 1, 0, 0, 0, 0, 0, 0, 0) := cd_of gl_15 rfl
set_option maxRecDepth 20000 in
theorem cd_15_210 : sm_cd 15 210 = some (.dup, 1, 0, 0, 0, 0, 0, 0, 0) := cd_of gl_15 rfl
set_option maxRecDepth 20000 in
theorem cd_15_211 : sm_cd 15 211 = some (.bipush 14, 2, 0, 0, 0, 0, 0, 14, 0) := cd_of gl_15 rfl
set_option maxRecDepth 20000 in
theorem cd_15_213 : sm_cd 15 213 = some (.ldc 86, 2, 16, 1, 0, 0, 0, 0, 0) := cd_of gl_15 rfl
set_option maxRecDepth 20000 in
theorem cd_15_215 : sm_cd 15 215 = some (.aastore, 1, 0, 0, 0, 0, 0, 0, 0) := cd_of gl_15 rfl
set_option maxRecDepth 20000 in
theorem cd_15_216 : sm_cd 15 216 = some (.dup, 1, 0, 0, 0, 0, 0, 0, 0) := cd_of gl_15 rfl
set_option maxRecDepth 20000 in
theorem cd_15_217 : sm_cd 15 217 = some (.bipush 15, 2, 0, 0, 0, 0, 0, 15, 0) := cd_of gl_15 rfl
set_option maxRecDepth 20000 in
theorem cd_15_219 : sm_cd 15 219 = some (.ldc 88, 2, 17, 1, 0, 0, 0, 0, 0) := cd_of gl_15 rfl
set_option maxRecDepth 20000 in
theorem cd_15_221 : sm_cd 15 221 = some (.aastore, 1, 0, 0, 0, 0, 0, 0, 0) := cd_of gl_15 rfl
set_option maxRecDepth 20000 in
theorem cd_15_222 : sm_cd 15 222 = some (.dup, 1, 0, 0, 0, 0, 0, 0, 0) := cd_of gl_15 rfl
set_option maxRecDepth 20000 in
theorem cd_15_223 : sm_cd 15 223 = some (.bipush 16, 2, 0, 0, 0, 0, 0, 16, 0) := cd_of gl_15 rfl
set_option maxRecDepth 20000 in
theorem cd_15_225 : sm_cd 15 225 = some (.ldc 90, 2, 18, 1, 0, 0, 0, 0, 0) := cd_of gl_15 rfl
set_option maxRecDepth 20000 in
theorem cd_15_227 : sm_cd 15 227 = some (.aastore, 1, 0, 0, 0, 0, 0, 0, 0) := cd_of gl_15 rfl
set_option maxRecDepth 20000 in
theorem cd_15_228 : sm_cd 15 228 = some (.dup, 1, 0, 0, 0, 0, 0, 0, 0) := cd_of gl_15 rfl
set_option maxRecDepth 20000 in
theorem cd_15_229 : sm_cd 15 229 = some (.bipush 17, 2, 0, 0, 0, 0, 0, 17, 0) := cd_of gl_15 rfl
set_option maxRecDepth 20000 in
theorem cd_15_231 : sm_cd 15 231 = some (.ldc 92, 2, 19, 1, 0, 0, 0, 0, 0) := cd_of gl_15 rfl
set_option maxRecDepth 20000 in
theorem cd_15_233 : sm_cd 15 233 = some (.aastore, 1, 0, 0, 0, 0, 0, 0, 0) := cd_of gl_15 rfl
set_option maxRecDepth 20000 in
theorem cd_15_234 : sm_cd 15 234 = some (.dup, 1, 0, 0, 0, 0, 0, 0, 0) := cd_of gl_15 rfl
set_option maxRecDepth 20000 in
theorem cd_15_235 : sm_cd 15 235 = some (.bipush 18, 2, 0, 0, 0, 0, 0, 18, 0) := cd_of gl_15 rfl
set_option maxRecDepth 20000 in
theorem cd_15_237 : sm_cd 15 237 = some (.ldc 94, 2, 20, 1, 0, 0, 0, 0, 0) := cd_of gl_15 rfl
set_option maxRecDepth 20000 in
theorem cd_15_239 : sm_cd 15 239 = some (.aastore, 1, 0, 0, 0, 0, 0, 0, 0) := cd_of gl_15 rfl
set_option maxRecDepth 20000 in
theorem cd_15_240 : sm_cd 15 240 = some (.dup, 1, 0, 0, 0, 0, 0, 0, 0) := cd_of gl_15 rfl
set_option maxRecDepth 20000 in
theorem cd_15_241 : sm_cd 15 241 = some (.bipush 19, 2, 0, 0, 0, 0, 0, 19, 0) := cd_of gl_15 rfl
set_option maxRecDepth 20000 in
theorem cd_15_243 : sm_cd 15 243 = some (.ldc 96, 2, 21, 1, 0, 0, 0, 0, 0) := cd_of gl_15 rfl
set_option maxRecDepth 20000 in
theorem cd_15_245 : sm_cd 15 245 = some (.aastore, 1, 0, 0, 0, 0, 0, 0, 0) := cd_of gl_15 rfl
set_option maxRecDepth 20000 in
theorem cd_15_246 : sm_cd 15 246 = some (.putfield 98, 3, 6, 21, 2, 0, 0, 0, 0) := cd_of gl_15 rfl
set_option maxRecDepth 20000 in
theorem cd_15_249 : sm_cd 15 249 = some (.aload_n 0, 1, 0, 0, 0, 0, 0, 0, 0) := cd_of gl_15 rfl
set_option maxRecDepth 20000 in
theorem cd_15_250 : sm_cd 15 250 = some (.sipush 200, 3, 0, 0, 0, 0, 0, 200, 0) := cd_of gl_15 rfl
set_option maxRecDepth 20000 in
theorem cd_15_253 : sm_cd 15 253 = some (.newarray .int, 2, 10, 0, 0, 0, 0, 0, 0) := cd_of gl_15 rfl
set_option maxRecDepth 20000 in
theorem cd_15_255 : sm_cd 15 255 = some (.putfield 102, 3, 6, 32, 2, 0, 0, 0, 0) := cd_of gl_15 rfl
set_option maxRecDepth 20000 in
theorem cd_15_258 : sm_cd 15 258 = some (.aload_n 0, 1, 0, 0, 0, 0, 0, 0, 0) := cd_of gl_15 rfl
set_option maxRecDepth 20000 in
theorem cd_15_259 : sm_cd 15 259 = some (.sipush 12800, 3, 0, 0, 0, 0, 0, 12800, 0) := cd_of gl_15 rfl
set_option maxRecDepth 20000 in
theorem cd_15_262 : sm_cd 15 262 = some (.newarray .int, 2, 10, 0, 0, 0, 0, 0, 0) := cd_of gl_15 rfl
set_option maxRecDepth 20000 in
theorem cd_15_264 : sm_cd 15 264 = some (.putfield 105, 3, 6, 33, 2, 0, 0, 0, 0) := cd_of gl_15 rfl
set_option maxRecDepth 20000 in
theorem cd_15_267 : sm_cd 15 267 = some (.aload_n 0, 1, 0, 0, 0, 0, 0, 0, 0) := cd_of gl_15 rfl
set_option maxRecDepth 20000 in
theorem cd_15_268 : sm_cd 15 268 = some (.sipush 200, 3, 0, 0, 0, 0, 0, 200, 0) := cd_of gl_15 rfl
set_option maxRecDepth 20000 in
theorem cd_15_271 : sm_cd 15 271 = some (.newarray .int, 2, 10, 0, 0, 0, 0, 0, 0) := cd_of gl_15 rfl
set_option maxRecDepth 20000 in
theorem cd_15_273 : sm_cd 15 273 = some (.putfield 108, 3, 6, 34, 2, 0, 0, 0, 0) := cd_of gl_15 rfl
set_option maxRecDepth 20000 in
theorem cd_15_276 : sm_cd 15 276 = some (.aload_n 0, 1, 0, 0, 0, 0, 0, 0, 0) := cd_of gl_15 rfl
set_option maxRecDepth 20000 in
theorem cd_15_277 : sm_cd 15 277 = some (.sipush 360, 3, 0, 0, 0, 0, 0, 360, 0) := cd_of gl_15 rfl
set_option maxRecDepth 20000 in
theorem cd_15_280 : sm_cd 15 280 = some (.newarray .int, 2, 10, 0, 0, 0, 0, 0, 0) := cd_of gl_15 rfl
set_option maxRecDepth 20000 in
theorem cd_15_282 : sm_cd 15 282 = some (.putfield 111, 3, 6, 36, 2, 0, 0, 0, 0) := cd_of gl_15 rfl
set_option maxRecDepth 20000 in
theorem cd_15_285 : sm_cd 15 285 = some (.aload_n 0, 1, 0, 0, 0, 0, 0, 0, 0) := cd_of gl_15 rfl
set_option maxRecDepth 20000 in
theorem cd_15_286 : sm_cd 15 286 = some (.sipush 360, 3, 0, 0, 0, 0, 0, 360, 0) := cd_of gl_15 rfl
set_option maxRecDepth 20000 in
theorem cd_15_289 : sm_cd 15 289 = some (.newarray .int, 2, 10, 0, 0, 0, 0, 0, 0) := cd_of gl_15 rfl
set_option maxRecDepth 20000 in
theorem cd_15_291 : sm_cd 15 291 = some (.putfield 114, 3, 6, 37, 2, 0, 0, 0, 0) := cd_of gl_15 rfl
set_option maxRecDepth 20000 in
theorem cd_15_294 : sm_cd 15 294 = some (.aload_n 0, 1, 0, 0, 0, 0, 0, 0, 0) := cd_of gl_15 rfl
set_option maxRecDepth 20000 in
theorem cd_15_295 : sm_cd 15 295 = some (.sipush 10800, 3, 0, 0, 0, 0, 0, 10800, 0) := cd_of gl_15 rfl
set_option maxRecDepth 20000 in
theorem cd_15_298 : sm_cd 15 298 = some (.newarray .int, 2, 10, 0, 0, 0, 0, 0, 0) := cd_of gl_15 rfl
set_option maxRecDepth 20000 in
theorem cd_15_300 : sm_cd 15 300 = some (.putfield 117, 3, 6, 38, 2, 0, 0, 0, 0) := cd_of gl_15 rfl
set_option maxRecDepth 20000 in
theorem cd_15_303 : sm_cd 15 303 = some (.aload_n 0, 1, 0, 0, 0, 0, 0, 0, 0) := cd_of gl_15 rfl
set_option maxRecDepth 20000 in
theorem cd_15_304 : sm_cd 15 304 = some (.bipush 120, 2, 0, 0, 0, 0, 0, 120, 0) := cd_of gl_15 rfl
set_option maxRecDepth 20000 in
theorem cd_15_306 : sm_cd 15 306 = some (.newarray .int, 2, 10, 0, 0, 0, 0, 0, 0) := cd_of gl_15 rfl
set_option maxRecDepth 20000 in
theorem cd_15_308 : sm_cd 15 308 = some (.putfield 120, 3, 6, 39, 2, 0, 0, 0, 0) := cd_of gl_15 rfl
set_option maxRecDepth 20000 in
theorem cd_15_311 : sm_cd 15 311 = some (.aload_n 0, 1, 0, 0, 0, 0, 0, 0, 0) := cd_of gl_15 rfl
set_option maxRecDepth 20000 in
theorem cd_15_312 : sm_cd 15 312 = some (.iconst 4, 1, 0, 0, 0, 0, 0, 4, 0) := cd_of gl_15 rfl
set_option maxRecDepth 20000 in
theorem cd_15_313 : sm_cd 15 313 = some (.newarray .int, 2, 10, 0, 0, 0, 0, 0, 0) := cd_of gl_15 rfl
set_option maxRecDepth 20000 in
theorem cd_15_315 : sm_cd 15 315 = some (.putfield 123, 3, 6, 40, 2, 0, 0, 0, 0) := cd_of gl_15 rfl
set_option maxRecDepth 20000 in
theorem cd_15_318 : sm_cd 15 318 = some (.aload_n 0, 1, 0, 0, 0, 0, 0, 0, 0) := cd_of gl_15 rfl
set_option maxRecDepth 20000 in
theorem cd_15_319 : sm_cd 15 319 = some (.bipush 17, 2, 0, 0, 0, 0, 0, 17, 0) := cd_of gl_15 rfl
set_option maxRecDepth 20000 in
theorem cd_15_321 : sm_cd 15 321 = some (.newarray .boolean, 2, 12, 0, 0, 0, 0, 0, 0) := cd_of gl_15 rfl
set_option maxRecDepth 20000 in
theorem cd_15_323 : sm_cd 15 323 = some (.putfield 126, 3, 6, 43, 2, 0, 0, 0, 0) := cd_of gl_15 rfl
set_option maxRecDepth 20000 in
theorem cd_15_326 : sm_cd 15 326 = some (.aload_n 0, 1, 0, 0, 0, 0, 0, 0, 0) := cd_of gl_15 rfl
set_option maxRecDepth 20000 in
theorem cd_15_327 : sm_cd 15 327 = some (.iconst 4, 1, 0, 0, 0, 0, 0, 4, 0) := cd_of gl_15 rfl
set_option maxRecDepth 20000 in
theorem cd_15_328 : sm_cd 15 328 = some (.newarray .int, 2, 10, 0, 0, 0, 0, 0, 0) := cd_of gl_15 rfl
set_option maxRecDepth 20000 in
theorem cd_15_330 : sm_cd 15 330 = some (.putfield 130, 3, 6, 44, 2, 0, 0, 0, 0) := cd_of gl_15 rfl
set_option maxRecDepth 20000 in
theorem cd_15_333 : sm_cd 15 333 = some (.aload_n 0, 1, 0, 0, 0, 0, 0, 0, 0) := cd_of gl_15 rfl
set_option maxRecDepth 20000 in
theorem cd_15_334 : sm_cd 15 334 = some (.iconst 4, 1, 0, 0, 0, 0, 0, 4, 0) := cd_of gl_15 rfl
set_option maxRecDepth 20000 in
theorem cd_15_335 : sm_cd 15 335 = some (.newarray .int, 2, 10, 0, 0, 0, 0, 0, 0) := cd_of gl_15 rfl
set_option maxRecDepth 20000 in
theorem cd_15_337 : sm_cd 15 337 = some (.putfield 133, 3, 6, 45, 2, 0, 0, 0, 0) := cd_of gl_15 rfl
set_option maxRecDepth 20000 in
theorem cd_15_340 : sm_cd 15 340 = some (.aload_n 0, 1, 0, 0, 0, 0, 0, 0, 0) := cd_of gl_15 rfl
set_option maxRecDepth 20000 in
theorem cd_15_341 : sm_cd 15 341 = some (.sipush 160, 3, 0, 0, 0, 0, 0, 160, 0) := cd_of gl_15 rfl
set_option maxRecDepth 20000 in
theorem cd_15_344 : sm_cd 15 344 = some (.newarray .int, 2, 10, 0, 0, 0, 0, 0, 0) := cd_of gl_15 rfl
set_option maxRecDepth 20000 in
theorem cd_15_346 : sm_cd 15 346 = some (.putfield 136, 3, 6, 46, 2, 0, 0, 0, 0) := cd_of gl_15 rfl
set_option maxRecDepth 20000 in
theorem cd_15_349 : sm_cd 15 349 = some (.aload_n 0, 1, 0, 0, 0, 0, 0, 0, 0) := cd_of gl_15 rfl
set_option maxRecDepth 20000 in
theorem cd_15_350 : sm_cd 15 350 = some (.bipush 40, 2, 0, 0, 0, 0, 0, 40, 0) := cd_of gl_15 rfl
set_option maxRecDepth 20000 in
theorem cd_15_352 : sm_cd 15 352 = some (.newarray .int, 2, 10, 0, 0, 0, 0, 0, 0) := cd_of gl_15 rfl
set_option maxRecDepth 20000 in
theorem cd_15_354 : sm_cd 15 354 = some (.putfield 139, 3, 6, 47, 2, 0, 0, 0, 0) := cd_of gl_15 rfl
set_option maxRecDepth 20000 in
theorem cd_15_357 : sm_cd 15 357 = some (.return_, 1, 0, 0, 0, 0, 0, 0, 0) := cd_of gl_15 rfl
set_option maxRecDepth 20000 in
noncomputable def f_15 (K : Nat → Value) (k d : Nat) (l0 : Nat) (w : aW) (I : aI) (J : aJ) : Option aR :=
  gC (¬ (8 : Int32) < 0 ∧ (8 : Int32).toNatClampNeg ≤ 1000000) (
  lt_ w.2.2.1 fun q_1 => lt_ (sm_alc w 10 (8 : Int32).toNatClampNeg (8 : Int32).toNatClampNeg) fun w_2 => lt_ (sm_up1 I q_1 (fun _ => 0)) fun I_3 => lt_ (sm_up1 J q_1 (fun _ => 0)) fun J_4 =>
  gO w_2 6 l0 (
  lt_ (w_2.1, sm_up2 w_2.2.1 l0 0 (some q_1), w_2.2.2) fun w_5 =>
  gC (¬ (240 : Int32) < 0 ∧ (240 : Int32).toNatClampNeg ≤ 1000000) (
  lt_ w_5.2.2.1 fun q_6 => lt_ (sm_alc w_5 10 (240 : Int32).toNatClampNeg (240 : Int32).toNatClampNeg) fun w_7 => lt_ (sm_up1 I_3 q_6 (fun _ => 0)) fun I_8 => lt_ (sm_up1 J_4 q_6 (fun _ => 0)) fun J_9 =>
  gO w_7 6 l0 (
  lt_ (w_7.1, sm_up2 w_7.2.1 l0 1 (some q_6), w_7.2.2) fun w_10 =>
  gO w_10 6 l0 (
  lt_ (sm_up2 I_8 l0 4 (-1)) fun I_11 =>
  gC (¬ (6 : Int32) < 0 ∧ (6 : Int32).toNatClampNeg ≤ 1000000) (
  lt_ w_10.2.2.1 fun q_12 => lt_ (sm_alc w_10 10 (6 : Int32).toNatClampNeg (6 : Int32).toNatClampNeg) fun w_13 => lt_ (sm_up1 I_11 q_12 (fun _ => 0)) fun I_14 => lt_ (sm_up1 J_9 q_12 (fun _ => 0)) fun J_15 =>
  gO w_13 6 l0 (
  lt_ (w_13.1, sm_up2 w_13.2.1 l0 6 (some q_12), w_13.2.2) fun w_16 =>
  gC (¬ (6 : Int32) < 0 ∧ (6 : Int32).toNatClampNeg ≤ 1000000) (
  lt_ w_16.2.2.1 fun q_17 => lt_ (sm_alc w_16 10 (6 : Int32).toNatClampNeg (6 : Int32).toNatClampNeg) fun w_18 => lt_ (sm_up1 I_14 q_17 (fun _ => 0)) fun I_19 => lt_ (sm_up1 J_15 q_17 (fun _ => 0)) fun J_20 =>
  gO w_18 6 l0 (
  lt_ (w_18.1, sm_up2 w_18.2.1 l0 7 (some q_17), w_18.2.2) fun w_21 =>
  gC (¬ (6 : Int32) < 0 ∧ (6 : Int32).toNatClampNeg ≤ 1000000) (
  lt_ w_21.2.2.1 fun q_22 => lt_ (sm_alc w_21 10 (6 : Int32).toNatClampNeg (6 : Int32).toNatClampNeg) fun w_23 => lt_ (sm_up1 I_19 q_22 (fun _ => 0)) fun I_24 => lt_ (sm_up1 J_20 q_22 (fun _ => 0)) fun J_25 =>
  gO w_23 6 l0 (
  lt_ (w_23.1, sm_up2 w_23.2.1 l0 8 (some q_22), w_23.2.2) fun w_26 =>
  gC (¬ (6 : Int32) < 0 ∧ (6 : Int32).toNatClampNeg ≤ 1000000) (
  lt_ w_26.2.2.1 fun q_27 => lt_ (sm_alc w_26 10 (6 : Int32).toNatClampNeg (6 : Int32).toNatClampNeg) fun w_28 => lt_ (sm_up1 I_24 q_27 (fun _ => 0)) fun I_29 => lt_ (sm_up1 J_25 q_27 (fun _ => 0)) fun J_30 =>
  gO w_28 6 l0 (
  lt_ (w_28.1, sm_up2 w_28.2.1 l0 9 (some q_27), w_28.2.2) fun w_31 =>
  gC (¬ (6 : Int32) < 0 ∧ (6 : Int32).toNatClampNeg ≤ 1000000) (
  lt_ w_31.2.2.1 fun q_32 => lt_ (sm_alc w_31 10 (6 : Int32).toNatClampNeg (6 : Int32).toNatClampNeg) fun w_33 => lt_ (sm_up1 I_29 q_32 (fun _ => 0)) fun I_34 => lt_ (sm_up1 J_30 q_32 (fun _ => 0)) fun J_35 =>
  gO w_33 6 l0 (
  lt_ (w_33.1, sm_up2 w_33.2.1 l0 10 (some q_32), w_33.2.2) fun w_36 =>
  gC (¬ (36 : Int32) < 0 ∧ (36 : Int32).toNatClampNeg ≤ 1000000) (
  lt_ w_36.2.2.1 fun q_37 => lt_ (sm_alc w_36 10 (36 : Int32).toNatClampNeg (36 : Int32).toNatClampNeg) fun w_38 => lt_ (sm_up1 I_34 q_37 (fun _ => 0)) fun I_39 => lt_ (sm_up1 J_35 q_37 (fun _ => 0)) fun J_40 =>
  gO w_38 6 l0 (
  lt_ (w_38.1, sm_up2 w_38.2.1 l0 11 (some q_37), w_38.2.2) fun w_41 =>
  gC (¬ (36 : Int32) < 0 ∧ (36 : Int32).toNatClampNeg ≤ 1000000) (
  lt_ w_41.2.2.1 fun q_42 => lt_ (sm_alc w_41 10 (36 : Int32).toNatClampNeg (36 : Int32).toNatClampNeg) fun w_43 => lt_ (sm_up1 I_39 q_42 (fun _ => 0)) fun I_44 => lt_ (sm_up1 J_40 q_42 (fun _ => 0)) fun J_45 =>
  gO w_43 6 l0 (
  lt_ (w_43.1, sm_up2 w_43.2.1 l0 12 (some q_42), w_43.2.2) fun w_46 =>
  gC (¬ (300 : Int32) < 0 ∧ (300 : Int32).toNatClampNeg ≤ 1000000) (
  lt_ w_46.2.2.1 fun q_47 => lt_ (sm_alc w_46 10 (300 : Int32).toNatClampNeg (300 : Int32).toNatClampNeg) fun w_48 => lt_ (sm_up1 I_44 q_47 (fun _ => 0)) fun I_49 => lt_ (sm_up1 J_45 q_47 (fun _ => 0)) fun J_50 =>
  gO w_48 6 l0 (
  lt_ (w_48.1, sm_up2 w_48.2.1 l0 14 (some q_47), w_48.2.2) fun w_51 =>
  gC (¬ (300 : Int32) < 0 ∧ (300 : Int32).toNatClampNeg ≤ 1000000) (
  lt_ w_51.2.2.1 fun q_52 => lt_ (sm_alc w_51 10 (300 : Int32).toNatClampNeg (300 : Int32).toNatClampNeg) fun w_53 => lt_ (sm_up1 I_49 q_52 (fun _ => 0)) fun I_54 => lt_ (sm_up1 J_50 q_52 (fun _ => 0)) fun J_55 =>
  gO w_53 6 l0 (
  lt_ (w_53.1, sm_up2 w_53.2.1 l0 15 (some q_52), w_53.2.2) fun w_56 =>
  gC (¬ (50 : Int32) < 0 ∧ (50 : Int32).toNatClampNeg ≤ 1000000) (
  lt_ w_56.2.2.1 fun q_57 => lt_ (sm_alc w_56 10 (50 : Int32).toNatClampNeg (50 : Int32).toNatClampNeg) fun w_58 => lt_ (sm_up1 I_54 q_57 (fun _ => 0)) fun I_59 => lt_ (sm_up1 J_55 q_57 (fun _ => 0)) fun J_60 =>
  gO w_58 6 l0 (
  lt_ (w_58.1, sm_up2 w_58.2.1 l0 18 (some q_57), w_58.2.2) fun w_61 =>
  gC (¬ (200 : Int32) < 0 ∧ (200 : Int32).toNatClampNeg ≤ 1000000) (
  lt_ w_61.2.2.1 fun q_62 => lt_ (sm_alc w_61 10 (200 : Int32).toNatClampNeg (200 : Int32).toNatClampNeg) fun w_63 => lt_ (sm_up1 I_59 q_62 (fun _ => 0)) fun I_64 => lt_ (sm_up1 J_60 q_62 (fun _ => 0)) fun J_65 =>
  gO w_63 6 l0 (
  lt_ (w_63.1, sm_up2 w_63.2.1 l0 19 (some q_62), w_63.2.2) fun w_66 =>
  gC (¬ (200 : Int32) < 0 ∧ (200 : Int32).toNatClampNeg ≤ 1000000) (
  lt_ w_66.2.2.1 fun q_67 => lt_ (sm_alc w_66 10 (200 : Int32).toNatClampNeg (200 : Int32).toNatClampNeg) fun w_68 => lt_ (sm_up1 I_64 q_67 (fun _ => 0)) fun I_69 => lt_ (sm_up1 J_65 q_67 (fun _ => 0)) fun J_70 =>
  gO w_68 6 l0 (
  lt_ (w_68.1, sm_up2 w_68.2.1 l0 20 (some q_67), w_68.2.2) fun w_71 =>
  gC (¬ (20 : Int32) < 0 ∧ (20 : Int32).toNatClampNeg ≤ 1000000) (
  lt_ w_71.2.2.1 fun q_72 => lt_ (sm_alc w_71 15 (20 : Int32).toNatClampNeg (20 : Int32).toNatClampNeg) fun w_73 => lt_ (sm_up1 I_69 q_72 (fun _ => 0)) fun I_74 => lt_ (sm_up1 J_70 q_72 (fun _ => 0)) fun J_75 =>
  kR (K 2) fun q_76 =>
  gC (sm_isE K w_73 15 q_76 = true) (
  gA w_73 15 15 q_72 0 (
  lt_ (w_73.1, sm_up2 w_73.2.1 q_72 (0 : Int32).toNatClampNeg (some q_76), w_73.2.2) fun w_77 =>
  kR (K 3) fun q_78 =>
  gC (sm_isE K w_77 15 q_78 = true) (
  gA w_77 15 15 q_72 1 (
  lt_ (w_77.1, sm_up2 w_77.2.1 q_72 (1 : Int32).toNatClampNeg (some q_78), w_77.2.2) fun w_79 =>
  kR (K 4) fun q_80 =>
  gC (sm_isE K w_79 15 q_80 = true) (
  gA w_79 15 15 q_72 2 (
  lt_ (w_79.1, sm_up2 w_79.2.1 q_72 (2 : Int32).toNatClampNeg (some q_80), w_79.2.2) fun w_81 =>
  kR (K 5) fun q_82 =>
  gC (sm_isE K w_81 15 q_82 = true) (
  gA w_81 15 15 q_72 3 (
  lt_ (w_81.1, sm_up2 w_81.2.1 q_72 (3 : Int32).toNatClampNeg (some q_82), w_81.2.2) fun w_83 =>
  kR (K 6) fun q_84 =>
  gC (sm_isE K w_83 15 q_84 = true) (
  gA w_83 15 15 q_72 4 (
  lt_ (w_83.1, sm_up2 w_83.2.1 q_72 (4 : Int32).toNatClampNeg (some q_84), w_83.2.2) fun w_85 =>
  kR (K 7) fun q_86 =>
  gC (sm_isE K w_85 15 q_86 = true) (
  gA w_85 15 15 q_72 5 (
  lt_ (w_85.1, sm_up2 w_85.2.1 q_72 (5 : Int32).toNatClampNeg (some q_86), w_85.2.2) fun w_87 =>
  kR (K 8) fun q_88 =>
  gC (sm_isE K w_87 15 q_88 = true) (
  gA w_87 15 15 q_72 6 (
  lt_ (w_87.1, sm_up2 w_87.2.1 q_72 (6 : Int32).toNatClampNeg (some q_88), w_87.2.2) fun w_89 =>
  kR (K 9) fun q_90 =>
  gC (sm_isE K w_89 15 q_90 = true) (
  gA w_89 15 15 q_72 7 (
  lt_ (w_89.1, sm_up2 w_89.2.1 q_72 (7 : Int32).toNatClampNeg (some q_90), w_89.2.2) fun w_91 =>
  kR (K 10) fun q_92 =>
  gC (sm_isE K w_91 15 q_92 = true) (
  gA w_91 15 15 q_72 8 (
  lt_ (w_91.1, sm_up2 w_91.2.1 q_72 (8 : Int32).toNatClampNeg (some q_92), w_91.2.2) fun w_93 =>
  kR (K 11) fun q_94 =>
  gC (sm_isE K w_93 15 q_94 = true) (
  gA w_93 15 15 q_72 9 (
  lt_ (w_93.1, sm_up2 w_93.2.1 q_72 (9 : Int32).toNatClampNeg (some q_94), w_93.2.2) fun w_95 =>
  kR (K 12) fun q_96 =>
  gC (sm_isE K w_95 15 q_96 = true) (
  gA w_95 15 15 q_72 10 (
  lt_ (w_95.1, sm_up2 w_95.2.1 q_72 (10 : Int32).toNatClampNeg (some q_96), w_95.2.2) fun w_97 =>
  kR (K 13) fun q_98 =>
  gC (sm_isE K w_97 15 q_98 = true) (
  gA w_97 15 15 q_72 11 (
  lt_ (w_97.1, sm_up2 w_97.2.1 q_72 (11 : Int32).toNatClampNeg (some q_98), w_97.2.2) fun w_99 =>
  kR (K 14) fun q_100 =>
  gC (sm_isE K w_99 15 q_100 = true) (
  gA w_99 15 15 q_72 12 (
  lt_ (w_99.1, sm_up2 w_99.2.1 q_72 (12 : Int32).toNatClampNeg (some q_100), w_99.2.2) fun w_101 =>
  kR (K 15) fun q_102 =>
  gC (sm_isE K w_101 15 q_102 = true) (
  gA w_101 15 15 q_72 13 (
  lt_ (w_101.1, sm_up2 w_101.2.1 q_72 (13 : Int32).toNatClampNeg (some q_102), w_101.2.2) fun w_103 =>
  kR (K 16) fun q_104 =>
  gC (sm_isE K w_103 15 q_104 = true) (
  gA w_103 15 15 q_72 14 (
  lt_ (w_103.1, sm_up2 w_103.2.1 q_72 (14 : Int32).toNatClampNeg (some q_104), w_103.2.2) fun w_105 =>
  kR (K 17) fun q_106 =>
  gC (sm_isE K w_105 15 q_106 = true) (
  gA w_105 15 15 q_72 15 (
  lt_ (w_105.1, sm_up2 w_105.2.1 q_72 (15 : Int32).toNatClampNeg (some q_106), w_105.2.2) fun w_107 =>
  kR (K 18) fun q_108 =>
  gC (sm_isE K w_107 15 q_108 = true) (
  gA w_107 15 15 q_72 16 (
  lt_ (w_107.1, sm_up2 w_107.2.1 q_72 (16 : Int32).toNatClampNeg (some q_108), w_107.2.2) fun w_109 =>
  kR (K 19) fun q_110 =>
  gC (sm_isE K w_109 15 q_110 = true) (
  gA w_109 15 15 q_72 17 (
  lt_ (w_109.1, sm_up2 w_109.2.1 q_72 (17 : Int32).toNatClampNeg (some q_110), w_109.2.2) fun w_111 =>
  kR (K 20) fun q_112 =>
  gC (sm_isE K w_111 15 q_112 = true) (
  gA w_111 15 15 q_72 18 (
  lt_ (w_111.1, sm_up2 w_111.2.1 q_72 (18 : Int32).toNatClampNeg (some q_112), w_111.2.2) fun w_113 =>
  kR (K 21) fun q_114 =>
  gC (sm_isE K w_113 15 q_114 = true) (
  gA w_113 15 15 q_72 19 (
  lt_ (w_113.1, sm_up2 w_113.2.1 q_72 (19 : Int32).toNatClampNeg (some q_114), w_113.2.2) fun w_115 =>
  gO w_115 6 l0 (
  lt_ (w_115.1, sm_up2 w_115.2.1 l0 21 (some q_72), w_115.2.2) fun w_116 =>
  gC (¬ (200 : Int32) < 0 ∧ (200 : Int32).toNatClampNeg ≤ 1000000) (
  lt_ w_116.2.2.1 fun q_117 => lt_ (sm_alc w_116 10 (200 : Int32).toNatClampNeg (200 : Int32).toNatClampNeg) fun w_118 => lt_ (sm_up1 I_74 q_117 (fun _ => 0)) fun I_119 => lt_ (sm_up1 J_75 q_117 (fun _ => 0)) fun J_120 =>
  gO w_118 6 l0 (
  lt_ (w_118.1, sm_up2 w_118.2.1 l0 32 (some q_117), w_118.2.2) fun w_121 =>
  gC (¬ (12800 : Int32) < 0 ∧ (12800 : Int32).toNatClampNeg ≤ 1000000) (
  lt_ w_121.2.2.1 fun q_122 => lt_ (sm_alc w_121 10 (12800 : Int32).toNatClampNeg (12800 : Int32).toNatClampNeg) fun w_123 => lt_ (sm_up1 I_119 q_122 (fun _ => 0)) fun I_124 => lt_ (sm_up1 J_120 q_122 (fun _ => 0)) fun J_125 =>
  gO w_123 6 l0 (
  lt_ (w_123.1, sm_up2 w_123.2.1 l0 33 (some q_122), w_123.2.2) fun w_126 =>
  gC (¬ (200 : Int32) < 0 ∧ (200 : Int32).toNatClampNeg ≤ 1000000) (
  lt_ w_126.2.2.1 fun q_127 => lt_ (sm_alc w_126 10 (200 : Int32).toNatClampNeg (200 : Int32).toNatClampNeg) fun w_128 => lt_ (sm_up1 I_124 q_127 (fun _ => 0)) fun I_129 => lt_ (sm_up1 J_125 q_127 (fun _ => 0)) fun J_130 =>
  gO w_128 6 l0 (
  lt_ (w_128.1, sm_up2 w_128.2.1 l0 34 (some q_127), w_128.2.2) fun w_131 =>
  gC (¬ (360 : Int32) < 0 ∧ (360 : Int32).toNatClampNeg ≤ 1000000) (
  lt_ w_131.2.2.1 fun q_132 => lt_ (sm_alc w_131 10 (360 : Int32).toNatClampNeg (360 : Int32).toNatClampNeg) fun w_133 => lt_ (sm_up1 I_129 q_132 (fun _ => 0)) fun I_134 => lt_ (sm_up1 J_130 q_132 (fun _ => 0)) fun J_135 =>
  gO w_133 6 l0 (
  lt_ (w_133.1, sm_up2 w_133.2.1 l0 36 (some q_132), w_133.2.2) fun w_136 =>
  gC (¬ (360 : Int32) < 0 ∧ (360 : Int32).toNatClampNeg ≤ 1000000) (
  lt_ w_136.2.2.1 fun q_137 => lt_ (sm_alc w_136 10 (360 : Int32).toNatClampNeg (360 : Int32).toNatClampNeg) fun w_138 => lt_ (sm_up1 I_134 q_137 (fun _ => 0)) fun I_139 => lt_ (sm_up1 J_135 q_137 (fun _ => 0)) fun J_140 =>
  gO w_138 6 l0 (
  lt_ (w_138.1, sm_up2 w_138.2.1 l0 37 (some q_137), w_138.2.2) fun w_141 =>
  gC (¬ (10800 : Int32) < 0 ∧ (10800 : Int32).toNatClampNeg ≤ 1000000) (
  lt_ w_141.2.2.1 fun q_142 => lt_ (sm_alc w_141 10 (10800 : Int32).toNatClampNeg (10800 : Int32).toNatClampNeg) fun w_143 => lt_ (sm_up1 I_139 q_142 (fun _ => 0)) fun I_144 => lt_ (sm_up1 J_140 q_142 (fun _ => 0)) fun J_145 =>
  gO w_143 6 l0 (
  lt_ (w_143.1, sm_up2 w_143.2.1 l0 38 (some q_142), w_143.2.2) fun w_146 =>
  gC (¬ (120 : Int32) < 0 ∧ (120 : Int32).toNatClampNeg ≤ 1000000) (
  lt_ w_146.2.2.1 fun q_147 => lt_ (sm_alc w_146 10 (120 : Int32).toNatClampNeg (120 : Int32).toNatClampNeg) fun w_148 => lt_ (sm_up1 I_144 q_147 (fun _ => 0)) fun I_149 => lt_ (sm_up1 J_145 q_147 (fun _ => 0)) fun J_150 =>
  gO w_148 6 l0 (
  lt_ (w_148.1, sm_up2 w_148.2.1 l0 39 (some q_147), w_148.2.2) fun w_151 =>
  gC (¬ (4 : Int32) < 0 ∧ (4 : Int32).toNatClampNeg ≤ 1000000) (
  lt_ w_151.2.2.1 fun q_152 => lt_ (sm_alc w_151 10 (4 : Int32).toNatClampNeg (4 : Int32).toNatClampNeg) fun w_153 => lt_ (sm_up1 I_149 q_152 (fun _ => 0)) fun I_154 => lt_ (sm_up1 J_150 q_152 (fun _ => 0)) fun J_155 =>
  gO w_153 6 l0 (
  lt_ (w_153.1, sm_up2 w_153.2.1 l0 40 (some q_152), w_153.2.2) fun w_156 =>
  gC (¬ (17 : Int32) < 0 ∧ (17 : Int32).toNatClampNeg ≤ 1000000) (
  lt_ w_156.2.2.1 fun q_157 => lt_ (sm_alc w_156 12 (17 : Int32).toNatClampNeg (17 : Int32).toNatClampNeg) fun w_158 => lt_ (sm_up1 I_154 q_157 (fun _ => 0)) fun I_159 => lt_ (sm_up1 J_155 q_157 (fun _ => 0)) fun J_160 =>
  gO w_158 6 l0 (
  lt_ (w_158.1, sm_up2 w_158.2.1 l0 43 (some q_157), w_158.2.2) fun w_161 =>
  gC (¬ (4 : Int32) < 0 ∧ (4 : Int32).toNatClampNeg ≤ 1000000) (
  lt_ w_161.2.2.1 fun q_162 => lt_ (sm_alc w_161 10 (4 : Int32).toNatClampNeg (4 : Int32).toNatClampNeg) fun w_163 => lt_ (sm_up1 I_159 q_162 (fun _ => 0)) fun I_164 => lt_ (sm_up1 J_160 q_162 (fun _ => 0)) fun J_165 =>
  gO w_163 6 l0 (
  lt_ (w_163.1, sm_up2 w_163.2.1 l0 44 (some q_162), w_163.2.2) fun w_166 =>
  gC (¬ (4 : Int32) < 0 ∧ (4 : Int32).toNatClampNeg ≤ 1000000) (
  lt_ w_166.2.2.1 fun q_167 => lt_ (sm_alc w_166 10 (4 : Int32).toNatClampNeg (4 : Int32).toNatClampNeg) fun w_168 => lt_ (sm_up1 I_164 q_167 (fun _ => 0)) fun I_169 => lt_ (sm_up1 J_165 q_167 (fun _ => 0)) fun J_170 =>
  gO w_168 6 l0 (
  lt_ (w_168.1, sm_up2 w_168.2.1 l0 45 (some q_167), w_168.2.2) fun w_171 =>
  gC (¬ (160 : Int32) < 0 ∧ (160 : Int32).toNatClampNeg ≤ 1000000) (
  lt_ w_171.2.2.1 fun q_172 => lt_ (sm_alc w_171 10 (160 : Int32).toNatClampNeg (160 : Int32).toNatClampNeg) fun w_173 => lt_ (sm_up1 I_169 q_172 (fun _ => 0)) fun I_174 => lt_ (sm_up1 J_170 q_172 (fun _ => 0)) fun J_175 =>
  gO w_173 6 l0 (
  lt_ (w_173.1, sm_up2 w_173.2.1 l0 46 (some q_172), w_173.2.2) fun w_176 =>
  gC (¬ (40 : Int32) < 0 ∧ (40 : Int32).toNatClampNeg ≤ 1000000) (
  lt_ w_176.2.2.1 fun q_177 => lt_ (sm_alc w_176 10 (40 : Int32).toNatClampNeg (40 : Int32).toNatClampNeg) fun w_178 => lt_ (sm_up1 I_174 q_177 (fun _ => 0)) fun I_179 => lt_ (sm_up1 J_175 q_177 (fun _ => 0)) fun J_180 =>
  gO w_178 6 l0 (
  lt_ (w_178.1, sm_up2 w_178.2.1 l0 47 (some q_177), w_178.2.2) fun w_181 =>
  some (none, w_181, I_179, J_180))))))))))))))))))))))))))))))))))))))))))))))))))))))))))))))))))))))))))))))))))))))))))))))))))
set_option maxRecDepth 20000 in
theorem ok_15 {K : Nat → Value} {k d : Nat} {l0 : Nat} {w : aW} {I : aI} {J : aJ} {R : aR} (h : f_15 K k d l0 w I J = some R) : Go K (d + 1) 15 0 [some (.ref l0)] [] w I J R := by
  unfold f_15 at h
  refine gs_0 (pc' := 1) (L' := [some (.ref l0)]) (st' := [.ref l0]) cd_15_0 rfl rfl ?_
  refine gsp (pc' := 4) (L' := [some (.ref l0)]) (st' := []) cd_15_1 rfl (Or.inl rfl) rfl ?_
  refine gs_0 (pc' := 5) (L' := [some (.ref l0)]) (st' := [.ref l0]) cd_15_4 rfl rfl ?_
  refine gs_0 (pc' := 7) (L' := [some (.ref l0)]) (st' := [.int 8, .ref l0]) cd_15_5 rfl rfl ?_
  obtain ⟨hc, h⟩ := gC_s h
  refine gs_newa cd_15_7 hc ?_
  obtain ⟨q_1, hq, h⟩ := lt_s_ h
  obtain ⟨w_2, hx, h⟩ := lt_s_ h
  obtain ⟨I_3, hx1, h⟩ := lt_s_ h
  obtain ⟨J_4, hx2, h⟩ := lt_s_ h
  rw [hq, hx, hx1, hx2]
  obtain ⟨ht, h⟩ := gO_s h
  refine gs_pfR cd_15_9 (by decide) ht ?_
  obtain ⟨w_5, hx, h⟩ := lt_s_ h
  rw [hx]
  refine gs_0 (pc' := 13) (L' := [some (.ref l0)]) (st' := [.ref l0]) cd_15_12 rfl rfl ?_
  refine gs_0 (pc' := 16) (L' := [some (.ref l0)]) (st' := [.int 240, .ref l0]) cd_15_13 rfl rfl ?_
  obtain ⟨hc, h⟩ := gC_s h
  refine gs_newa cd_15_16 hc ?_
  obtain ⟨q_6, hq, h⟩ := lt_s_ h
  obtain ⟨w_7, hx, h⟩ := lt_s_ h
  obtain ⟨I_8, hx1, h⟩ := lt_s_ h
  obtain ⟨J_9, hx2, h⟩ := lt_s_ h
  rw [hq, hx, hx1, hx2]
  obtain ⟨ht, h⟩ := gO_s h
  refine gs_pfR cd_15_18 (by decide) ht ?_
  obtain ⟨w_10, hx, h⟩ := lt_s_ h
  rw [hx]
  refine gs_0 (pc' := 22) (L' := [some (.ref l0)]) (st' := [.ref l0]) cd_15_21 rfl rfl ?_
  refine gs_0 (pc' := 23) (L' := [some (.ref l0)]) (st' := [.int ((-1)), .ref l0]) cd_15_22 rfl rfl ?_
  obtain ⟨ht, h⟩ := gO_s h
  refine gs_pfI cd_15_23 (by decide) (Or.inl rfl) ht ?_
  obtain ⟨I_11, hx, h⟩ := lt_s_ h
  rw [hx]
  refine gs_0 (pc' := 27) (L' := [some (.ref l0)]) (st' := [.ref l0]) cd_15_26 rfl rfl ?_
  refine gs_0 (pc' := 29) (L' := [some (.ref l0)]) (st' := [.int 6, .ref l0]) cd_15_27 rfl rfl ?_
  obtain ⟨hc, h⟩ := gC_s h
  refine gs_newa cd_15_29 hc ?_
  obtain ⟨q_12, hq, h⟩ := lt_s_ h
  obtain ⟨w_13, hx, h⟩ := lt_s_ h
  obtain ⟨I_14, hx1, h⟩ := lt_s_ h
  obtain ⟨J_15, hx2, h⟩ := lt_s_ h
  rw [hq, hx, hx1, hx2]
  obtain ⟨ht, h⟩ := gO_s h
  refine gs_pfR cd_15_31 (by decide) ht ?_
  obtain ⟨w_16, hx, h⟩ := lt_s_ h
  rw [hx]
  refine gs_0 (pc' := 35) (L' := [some (.ref l0)]) (st' := [.ref l0]) cd_15_34 rfl rfl ?_
  refine gs_0 (pc' := 37) (L' := [some (.ref l0)]) (st' := [.int 6, .ref l0]) cd_15_35 rfl rfl ?_
  obtain ⟨hc, h⟩ := gC_s h
  refine gs_newa cd_15_37 hc ?_
  obtain ⟨q_17, hq, h⟩ := lt_s_ h
  obtain ⟨w_18, hx, h⟩ := lt_s_ h
  obtain ⟨I_19, hx1, h⟩ := lt_s_ h
  obtain ⟨J_20, hx2, h⟩ := lt_s_ h
  rw [hq, hx, hx1, hx2]
  obtain ⟨ht, h⟩ := gO_s h
  refine gs_pfR cd_15_39 (by decide) ht ?_
  obtain ⟨w_21, hx, h⟩ := lt_s_ h
  rw [hx]
  refine gs_0 (pc' := 43) (L' := [some (.ref l0)]) (st' := [.ref l0]) cd_15_42 rfl rfl ?_
  refine gs_0 (pc' := 45) (L' := [some (.ref l0)]) (st' := [.int 6, .ref l0]) cd_15_43 rfl rfl ?_
  obtain ⟨hc, h⟩ := gC_s h
  refine gs_newa cd_15_45 hc ?_
  obtain ⟨q_22, hq, h⟩ := lt_s_ h
  obtain ⟨w_23, hx, h⟩ := lt_s_ h
  obtain ⟨I_24, hx1, h⟩ := lt_s_ h
  obtain ⟨J_25, hx2, h⟩ := lt_s_ h
  rw [hq, hx, hx1, hx2]
  obtain ⟨ht, h⟩ := gO_s h
  refine gs_pfR cd_15_47 (by decide) ht ?_
  obtain ⟨w_26, hx, h⟩ := lt_s_ h
  rw [hx]
  refine gs_0 (pc' := 51) (L' := [some (.ref l0)]) (st' := [.ref l0]) cd_15_50 rfl rfl ?_
  refine gs_0 (pc' := 53) (L' := [some (.ref l0)]) (st' := [.int 6, .ref l0]) cd_15_51 rfl rfl ?_
  obtain ⟨hc, h⟩ := gC_s h
  refine gs_newa cd_15_53 hc ?_
  obtain ⟨q_27, hq, h⟩ := lt_s_ h
  obtain ⟨w_28, hx, h⟩ := lt_s_ h
  obtain ⟨I_29, hx1, h⟩ := lt_s_ h
  obtain ⟨J_30, hx2, h⟩ := lt_s_ h
  rw [hq, hx, hx1, hx2]
  obtain ⟨ht, h⟩ := gO_s h
  refine gs_pfR cd_15_55 (by decide) ht ?_
  obtain ⟨w_31, hx, h⟩ := lt_s_ h
  rw [hx]
  refine gs_0 (pc' := 59) (L' := [some (.ref l0)]) (st' := [.ref l0]) cd_15_58 rfl rfl ?_
  refine gs_0 (pc' := 61) (L' := [some (.ref l0)]) (st' := [.int 6, .ref l0]) cd_15_59 rfl rfl ?_
  obtain ⟨hc, h⟩ := gC_s h
  refine gs_newa cd_15_61 hc ?_
  obtain ⟨q_32, hq, h⟩ := lt_s_ h
  obtain ⟨w_33, hx, h⟩ := lt_s_ h
  obtain ⟨I_34, hx1, h⟩ := lt_s_ h
  obtain ⟨J_35, hx2, h⟩ := lt_s_ h
  rw [hq, hx, hx1, hx2]
  obtain ⟨ht, h⟩ := gO_s h
  refine gs_pfR cd_15_63 (by decide) ht ?_
  obtain ⟨w_36, hx, h⟩ := lt_s_ h
  rw [hx]
  refine gs_0 (pc' := 67) (L' := [some (.ref l0)]) (st' := [.ref l0]) cd_15_66 rfl rfl ?_
  refine gs_0 (pc' := 69) (L' := [some (.ref l0)]) (st' := [.int 36, .ref l0]) cd_15_67 rfl rfl ?_
  obtain ⟨hc, h⟩ := gC_s h
  refine gs_newa cd_15_69 hc ?_
  obtain ⟨q_37, hq, h⟩ := lt_s_ h
  obtain ⟨w_38, hx, h⟩ := lt_s_ h
  obtain ⟨I_39, hx1, h⟩ := lt_s_ h
  obtain ⟨J_40, hx2, h⟩ := lt_s_ h
  rw [hq, hx, hx1, hx2]
  obtain ⟨ht, h⟩ := gO_s h
  refine gs_pfR cd_15_71 (by decide) ht ?_
  obtain ⟨w_41, hx, h⟩ := lt_s_ h
  rw [hx]
  refine gs_0 (pc' := 75) (L' := [some (.ref l0)]) (st' := [.ref l0]) cd_15_74 rfl rfl ?_
  refine gs_0 (pc' := 77) (L' := [some (.ref l0)]) (st' := [.int 36, .ref l0]) cd_15_75 rfl rfl ?_
  obtain ⟨hc, h⟩ := gC_s h
  refine gs_newa cd_15_77 hc ?_
  obtain ⟨q_42, hq, h⟩ := lt_s_ h
  obtain ⟨w_43, hx, h⟩ := lt_s_ h
  obtain ⟨I_44, hx1, h⟩ := lt_s_ h
  obtain ⟨J_45, hx2, h⟩ := lt_s_ h
  rw [hq, hx, hx1, hx2]
  obtain ⟨ht, h⟩ := gO_s h
  refine gs_pfR cd_15_79 (by decide) ht ?_
  obtain ⟨w_46, hx, h⟩ := lt_s_ h
  rw [hx]
  refine gs_0 (pc' := 83) (L' := [some (.ref l0)]) (st' := [.ref l0]) cd_15_82 rfl rfl ?_
  refine gs_0 (pc' := 86) (L' := [some (.ref l0)]) (st' := [.int 300, .ref l0]) cd_15_83 rfl rfl ?_
  obtain ⟨hc, h⟩ := gC_s h
  refine gs_newa cd_15_86 hc ?_
  obtain ⟨q_47, hq, h⟩ := lt_s_ h
  obtain ⟨w_48, hx, h⟩ := lt_s_ h
  obtain ⟨I_49, hx1, h⟩ := lt_s_ h
  obtain ⟨J_50, hx2, h⟩ := lt_s_ h
  rw [hq, hx, hx1, hx2]
  obtain ⟨ht, h⟩ := gO_s h
  refine gs_pfR cd_15_88 (by decide) ht ?_
  obtain ⟨w_51, hx, h⟩ := lt_s_ h
  rw [hx]
  refine gs_0 (pc' := 92) (L' := [some (.ref l0)]) (st' := [.ref l0]) cd_15_91 rfl rfl ?_
  refine gs_0 (pc' := 95) (L' := [some (.ref l0)]) (st' := [.int 300, .ref l0]) cd_15_92 rfl rfl ?_
  obtain ⟨hc, h⟩ := gC_s h
  refine gs_newa cd_15_95 hc ?_
  obtain ⟨q_52, hq, h⟩ := lt_s_ h
  obtain ⟨w_53, hx, h⟩ := lt_s_ h
  obtain ⟨I_54, hx1, h⟩ := lt_s_ h
  obtain ⟨J_55, hx2, h⟩ := lt_s_ h
  rw [hq, hx, hx1, hx2]
  obtain ⟨ht, h⟩ := gO_s h
  refine gs_pfR cd_15_97 (by decide) ht ?_
  obtain ⟨w_56, hx, h⟩ := lt_s_ h
  rw [hx]
  refine gs_0 (pc' := 101) (L' := [some (.ref l0)]) (st' := [.ref l0]) cd_15_100 rfl rfl ?_
  refine gs_0 (pc' := 103) (L' := [some (.ref l0)]) (st' := [.int 50, .ref l0]) cd_15_101 rfl rfl ?_
  obtain ⟨hc, h⟩ := gC_s h
  refine gs_newa cd_15_103 hc ?_
  obtain ⟨q_57, hq, h⟩ := lt_s_ h
  obtain ⟨w_58, hx, h⟩ := lt_s_ h
  obtain ⟨I_59, hx1, h⟩ := lt_s_ h
  obtain ⟨J_60, hx2, h⟩ := lt_s_ h
  rw [hq, hx, hx1, hx2]
  obtain ⟨ht, h⟩ := gO_s h
  refine gs_pfR cd_15_105 (by decide) ht ?_
  obtain ⟨w_61, hx, h⟩ := lt_s_ h
  rw [hx]
  refine gs_0 (pc' := 109) (L' := [some (.ref l0)]) (st' := [.ref l0]) cd_15_108 rfl rfl ?_
  refine gs_0 (pc' := 112) (L' := [some (.ref l0)]) (st' := [.int 200, .ref l0]) cd_15_109 rfl rfl ?_
  obtain ⟨hc, h⟩ := gC_s h
  refine gs_newa cd_15_112 hc ?_
  obtain ⟨q_62, hq, h⟩ := lt_s_ h
  obtain ⟨w_63, hx, h⟩ := lt_s_ h
  obtain ⟨I_64, hx1, h⟩ := lt_s_ h
  obtain ⟨J_65, hx2, h⟩ := lt_s_ h
  rw [hq, hx, hx1, hx2]
  obtain ⟨ht, h⟩ := gO_s h
  refine gs_pfR cd_15_114 (by decide) ht ?_
  obtain ⟨w_66, hx, h⟩ := lt_s_ h
  rw [hx]
  refine gs_0 (pc' := 118) (L' := [some (.ref l0)]) (st' := [.ref l0]) cd_15_117 rfl rfl ?_
  refine gs_0 (pc' := 121) (L' := [some (.ref l0)]) (st' := [.int 200, .ref l0]) cd_15_118 rfl rfl ?_
  obtain ⟨hc, h⟩ := gC_s h
  refine gs_newa cd_15_121 hc ?_
  obtain ⟨q_67, hq, h⟩ := lt_s_ h
  obtain ⟨w_68, hx, h⟩ := lt_s_ h
  obtain ⟨I_69, hx1, h⟩ := lt_s_ h
  obtain ⟨J_70, hx2, h⟩ := lt_s_ h
  rw [hq, hx, hx1, hx2]
  obtain ⟨ht, h⟩ := gO_s h
  refine gs_pfR cd_15_123 (by decide) ht ?_
  obtain ⟨w_71, hx, h⟩ := lt_s_ h
  rw [hx]
  refine gs_0 (pc' := 127) (L' := [some (.ref l0)]) (st' := [.ref l0]) cd_15_126 rfl rfl ?_
  refine gs_0 (pc' := 129) (L' := [some (.ref l0)]) (st' := [.int 20, .ref l0]) cd_15_127 rfl rfl ?_
  obtain ⟨hc, h⟩ := gC_s h
  refine gs_newr cd_15_129 hc ?_
  obtain ⟨q_72, hq, h⟩ := lt_s_ h
  obtain ⟨w_73, hx, h⟩ := lt_s_ h
  obtain ⟨I_74, hx1, h⟩ := lt_s_ h
  obtain ⟨J_75, hx2, h⟩ := lt_s_ h
  rw [hq, hx, hx1, hx2]
  refine gs_0 (pc' := 133) (L' := [some (.ref l0)]) (st' := [.ref q_72, .ref q_72, .ref l0]) cd_15_132 rfl rfl ?_
  refine gs_0 (pc' := 134) (L' := [some (.ref l0)]) (st' := [.int 0, .ref q_72, .ref q_72, .ref l0]) cd_15_133 rfl rfl ?_
  refine gs_0 (pc' := 136) (L' := [some (.ref l0)]) (st' := [K 2, .int 0, .ref q_72, .ref q_72, .ref l0]) cd_15_134 rfl rfl ?_
  obtain ⟨q_76, hq, h⟩ := kR_s h
  rw [hq]
  obtain ⟨ht1, h⟩ := gC_s h
  obtain ⟨ht, h⟩ := gA_s h
  refine gs_rast cd_15_136 ht1 ht ?_
  obtain ⟨w_77, hx, h⟩ := lt_s_ h
  rw [hx]
  refine gs_0 (pc' := 138) (L' := [some (.ref l0)]) (st' := [.ref q_72, .ref q_72, .ref l0]) cd_15_137 rfl rfl ?_
  refine gs_0 (pc' := 139) (L' := [some (.ref l0)]) (st' := [.int 1, .ref q_72, .ref q_72, .ref l0]) cd_15_138 rfl rfl ?_
  refine gs_0 (pc' := 141) (L' := [some (.ref l0)]) (st' := [K 3, .int 1, .ref q_72, .ref q_72, .ref l0]) cd_15_139 rfl rfl ?_
  obtain ⟨q_78, hq, h⟩ := kR_s h
  rw [hq]
  obtain ⟨ht1, h⟩ := gC_s h
  obtain ⟨ht, h⟩ := gA_s h
  refine gs_rast cd_15_141 ht1 ht ?_
  obtain ⟨w_79, hx, h⟩ := lt_s_ h
  rw [hx]
  refine gs_0 (pc' := 143) (L' := [some (.ref l0)]) (st' := [.ref q_72, .ref q_72, .ref l0]) cd_15_142 rfl rfl ?_
  refine gs_0 (pc' := 144) (L' := [some (.ref l0)]) (st' := [.int 2, .ref q_72, .ref q_72, .ref l0]) cd_15_143 rfl rfl ?_
  refine gs_0 (pc' := 146) (L' := [some (.ref l0)]) (st' := [K 4, .int 2, .ref q_72, .ref q_72, .ref l0]) cd_15_144 rfl rfl ?_
  obtain ⟨q_80, hq, h⟩ := kR_s h
  rw [hq]
  obtain ⟨ht1, h⟩ := gC_s h
  obtain ⟨ht, h⟩ := gA_s h
  refine gs_rast cd_15_146 ht1 ht ?_
  obtain ⟨w_81, hx, h⟩ := lt_s_ h
  rw [hx]
  refine gs_0 (pc' := 148) (L' := [some (.ref l0)]) (st' := [.ref q_72, .ref q_72, .ref l0]) cd_15_147 rfl rfl ?_
  refine gs_0 (pc' := 149) (L' := [some (.ref l0)]) (st' := [.int 3, .ref q_72, .ref q_72, .ref l0]) cd_15_148 rfl rfl ?_
  refine gs_0 (pc' := 151) (L' := [some (.ref l0)]) (st' := [K 5, .int 3, .ref q_72, .ref q_72, .ref l0]) cd_15_149 rfl rfl ?_
  obtain ⟨q_82, hq, h⟩ := kR_s h
  rw [hq]
  obtain ⟨ht1, h⟩ := gC_s h
  obtain ⟨ht, h⟩ := gA_s h
  refine gs_rast cd_15_151 ht1 ht ?_
  obtain ⟨w_83, hx, h⟩ := lt_s_ h
  rw [hx]
  refine gs_0 (pc' := 153) (L' := [some (.ref l0)]) (st' := [.ref q_72, .ref q_72, .ref l0]) cd_15_152 rfl rfl ?_
  refine gs_0 (pc' := 154) (L' := [some (.ref l0)]) (st' := [.int 4, .ref q_72, .ref q_72, .ref l0]) cd_15_153 rfl rfl ?_
  refine gs_0 (pc' := 156) (L' := [some (.ref l0)]) (st' := [K 6, .int 4, .ref q_72, .ref q_72, .ref l0]) cd_15_154 rfl rfl ?_
  obtain ⟨q_84, hq, h⟩ := kR_s h
  rw [hq]
  obtain ⟨ht1, h⟩ := gC_s h
  obtain ⟨ht, h⟩ := gA_s h
  refine gs_rast cd_15_156 ht1 ht ?_
  obtain ⟨w_85, hx, h⟩ := lt_s_ h
  rw [hx]
  refine gs_0 (pc' := 158) (L' := [some (.ref l0)]) (st' := [.ref q_72, .ref q_72, .ref l0]) cd_15_157 rfl rfl ?_
  refine gs_0 (pc' := 159) (L' := [some (.ref l0)]) (st' := [.int 5, .ref q_72, .ref q_72, .ref l0]) cd_15_158 rfl rfl ?_
  refine gs_0 (pc' := 161) (L' := [some (.ref l0)]) (st' := [K 7, .int 5, .ref q_72, .ref q_72, .ref l0]) cd_15_159 rfl rfl ?_
  obtain ⟨q_86, hq, h⟩ := kR_s h
  rw [hq]
  obtain ⟨ht1, h⟩ := gC_s h
  obtain ⟨ht, h⟩ := gA_s h
  refine gs_rast cd_15_161 ht1 ht ?_
  obtain ⟨w_87, hx, h⟩ := lt_s_ h
  rw [hx]
  refine gs_0 (pc' := 163) (L' := [some (.ref l0)]) (st' := [.ref q_72, .ref q_72, .ref l0]) cd_15_162 rfl rfl ?_
  refine gs_0 (pc' := 165) (L' := [some (.ref l0)]) (st' := [.int 6, .ref q_72, .ref q_72, .ref l0]) cd_15_163 rfl rfl ?_
  refine gs_0 (pc' := 167) (L' := [some (.ref l0)]) (st' := [K 8, .int 6, .ref q_72, .ref q_72, .ref l0]) cd_15_165 rfl rfl ?_
  obtain ⟨q_88, hq, h⟩ := kR_s h
  rw [hq]
  obtain ⟨ht1, h⟩ := gC_s h
  obtain ⟨ht, h⟩ := gA_s h
  refine gs_rast cd_15_167 ht1 ht ?_
  obtain ⟨w_89, hx, h⟩ := lt_s_ h
  rw [hx]
  refine gs_0 (pc' := 169) (L' := [some (.ref l0)]) (st' := [.ref q_72, .ref q_72, .ref l0]) cd_15_168 rfl rfl ?_
  refine gs_0 (pc' := 171) (L' := [some (.ref l0)]) (st' := [.int 7, .ref q_72, .ref q_72, .ref l0]) cd_15_169 rfl rfl ?_
  refine gs_0 (pc' := 173) (L' := [some (.ref l0)]) (st' := [K 9, .int 7, .ref q_72, .ref q_72, .ref l0]) cd_15_171 rfl rfl ?_
  obtain ⟨q_90, hq, h⟩ := kR_s h
  rw [hq]
  obtain ⟨ht1, h⟩ := gC_s h
  obtain ⟨ht, h⟩ := gA_s h
  refine gs_rast cd_15_173 ht1 ht ?_
  obtain ⟨w_91, hx, h⟩ := lt_s_ h
  rw [hx]
  refine gs_0 (pc' := 175) (L' := [some (.ref l0)]) (st' := [.ref q_72, .ref q_72, .ref l0]) cd_15_174 rfl rfl ?_
  refine gs_0 (pc' := 177) (L' := [some (.ref l0)]) (st' := [.int 8, .ref q_72, .ref q_72, .ref l0]) cd_15_175 rfl rfl ?_
  refine gs_0 (pc' := 179) (L' := [some (.ref l0)]) (st' := [K 10, .int 8, .ref q_72, .ref q_72, .ref l0]) cd_15_177 rfl rfl ?_
  obtain ⟨q_92, hq, h⟩ := kR_s h
  rw [hq]
  obtain ⟨ht1, h⟩ := gC_s h
  obtain ⟨ht, h⟩ := gA_s h
  refine gs_rast cd_15_179 ht1 ht ?_
  obtain ⟨w_93, hx, h⟩ := lt_s_ h
  rw [hx]
  refine gs_0 (pc' := 181) (L' := [some (.ref l0)]) (st' := [.ref q_72, .ref q_72, .ref l0]) cd_15_180 rfl rfl ?_
  refine gs_0 (pc' := 183) (L' := [some (.ref l0)]) (st' := [.int 9, .ref q_72, .ref q_72, .ref l0]) cd_15_181 rfl rfl ?_
  refine gs_0 (pc' := 185) (L' := [some (.ref l0)]) (st' := [K 11, .int 9, .ref q_72, .ref q_72, .ref l0]) cd_15_183 rfl rfl ?_
  obtain ⟨q_94, hq, h⟩ := kR_s h
  rw [hq]
  obtain ⟨ht1, h⟩ := gC_s h
  obtain ⟨ht, h⟩ := gA_s h
  refine gs_rast cd_15_185 ht1 ht ?_
  obtain ⟨w_95, hx, h⟩ := lt_s_ h
  rw [hx]
  refine gs_0 (pc' := 187) (L' := [some (.ref l0)]) (st' := [.ref q_72, .ref q_72, .ref l0]) cd_15_186 rfl rfl ?_
  refine gs_0 (pc' := 189) (L' := [some (.ref l0)]) (st' := [.int 10, .ref q_72, .ref q_72, .ref l0]) cd_15_187 rfl rfl ?_
  refine gs_0 (pc' := 191) (L' := [some (.ref l0)]) (st' := [K 12, .int 10, .ref q_72, .ref q_72, .ref l0]) cd_15_189 rfl rfl ?_
  obtain ⟨q_96, hq, h⟩ := kR_s h
  rw [hq]
  obtain ⟨ht1, h⟩ := gC_s h
  obtain ⟨ht, h⟩ := gA_s h
  refine gs_rast cd_15_191 ht1 ht ?_
  obtain ⟨w_97, hx, h⟩ := lt_s_ h
  rw [hx]
  refine gs_0 (pc' := 193) (L' := [some (.ref l0)]) (st' := [.ref q_72, .ref q_72, .ref l0]) cd_15_192 rfl rfl ?_
  refine gs_0 (pc' := 195) (L' := [some (.ref l0)]) (st' := [.int 11, .ref q_72, .ref q_72, .ref l0]) cd_15_193 rfl rfl ?_
  refine gs_0 (pc' := 197) (L' := [some (.ref l0)]) (st' := [K 13, .int 11, .ref q_72, .ref q_72, .ref l0]) cd_15_195 rfl rfl ?_
  obtain ⟨q_98, hq, h⟩ := kR_s h
  rw [hq]
  obtain ⟨ht1, h⟩ := gC_s h
  obtain ⟨ht, h⟩ := gA_s h
  refine gs_rast cd_15_197 ht1 ht ?_
  obtain ⟨w_99, hx, h⟩ := lt_s_ h
  rw [hx]
  refine gs_0 (pc' := 199) (L' := [some (.ref l0)]) (st' := [.ref q_72, .ref q_72, .ref l0]) cd_15_198 rfl rfl ?_
  refine gs_0 (pc' := 201) (L' := [some (.ref l0)]) (st' := [.int 12, .ref q_72, .ref q_72, .ref l0]) cd_15_199 rfl rfl ?_
  refine gs_0 (pc' := 203) (L' := [some (.ref l0)]) (st' := [K 14, .int 12, .ref q_72, .ref q_72, .ref l0]) cd_15_201 rfl rfl ?_
  obtain ⟨q_100, hq, h⟩ := kR_s h
  rw [hq]
  obtain ⟨ht1, h⟩ := gC_s h
  obtain ⟨ht, h⟩ := gA_s h
  refine gs_rast cd_15_203 ht1 ht ?_
  obtain ⟨w_101, hx, h⟩ := lt_s_ h
  rw [hx]
  refine gs_0 (pc' := 205) (L' := [some (.ref l0)]) (st' := [.ref q_72, .ref q_72, .ref l0]) cd_15_204 rfl rfl ?_
  refine gs_0 (pc' := 207) (L' := [some (.ref l0)]) (st' := [.int 13, .ref q_72, .ref q_72, .ref l0]) cd_15_205 rfl rfl ?_
  refine gs_0 (pc' := 209) (L' := [some (.ref l0)]) (st' := [K 15, .int 13, .ref q_72, .ref q_72, .ref l0]) cd_15_207 rfl rfl ?_
  obtain ⟨q_102, hq, h⟩ := kR_s h
  rw [hq]
  obtain ⟨ht1, h⟩ := gC_s h
  obtain ⟨ht, h⟩ := gA_s h
  refine gs_rast cd_15_209 ht1 ht ?_
  obtain ⟨w_103, hx, h⟩ := lt_s_ h
  rw [hx]
  refine gs_0 (pc' := 211) (L' := [some (.ref l0)]) (st' := [.ref q_72, .ref q_72, .ref l0]) cd_15_210 rfl rfl ?_
  refine gs_0 (pc' := 213) (L' := [some (.ref l0)]) (st' := [.int 14, .ref q_72, .ref q_72, .ref l0]) cd_15_211 rfl rfl ?_
  refine gs_0 (pc' := 215) (L' := [some (.ref l0)]) (st' := [K 16, .int 14, .ref q_72, .ref q_72, .ref l0]) cd_15_213 rfl rfl ?_
  obtain ⟨q_104, hq, h⟩ := kR_s h
  rw [hq]
  obtain ⟨ht1, h⟩ := gC_s h
  obtain ⟨ht, h⟩ := gA_s h
  refine gs_rast cd_15_215 ht1 ht ?_
  obtain ⟨w_105, hx, h⟩ := lt_s_ h
  rw [hx]
  refine gs_0 (pc' := 217) (L' := [some (.ref l0)]) (st' := [.ref q_72, .ref q_72, .ref l0]) cd_15_216 rfl rfl ?_
  refine gs_0 (pc' := 219) (L' := [some (.ref l0)]) (st' := [.int 15, .ref q_72, .ref q_72, .ref l0]) cd_15_217 rfl rfl ?_
  refine gs_0 (pc' := 221) (L' := [some (.ref l0)]) (st' := [K 17, .int 15, .ref q_72, .ref q_72, .ref l0]) cd_15_219 rfl rfl ?_
  obtain ⟨q_106, hq, h⟩ := kR_s h
  rw [hq]
  obtain ⟨ht1, h⟩ := gC_s h
  obtain ⟨ht, h⟩ := gA_s h
  refine gs_rast cd_15_221 ht1 ht ?_
  obtain ⟨w_107, hx, h⟩ := lt_s_ h
  rw [hx]
  refine gs_0 (pc' := 223) (L' := [some (.ref l0)]) (st' := [.ref q_72, .ref q_72, .ref l0]) cd_15_222 rfl rfl ?_
  refine gs_0 (pc' := 225) (L' := [some (.ref l0)]) (st' := [.int 16, .ref q_72, .ref q_72, .ref l0]) cd_15_223 rfl rfl ?_
  refine gs_0 (pc' := 227) (L' := [some (.ref l0)]) (st' := [K 18, .int 16, .ref q_72, .ref q_72, .ref l0]) cd_15_225 rfl rfl ?_
  obtain ⟨q_108, hq, h⟩ := kR_s h
  rw [hq]
  obtain ⟨ht1, h⟩ := gC_s h
  obtain ⟨ht, h⟩ := gA_s h
  refine gs_rast cd_15_227 ht1 ht ?_
  obtain ⟨w_109, hx, h⟩ := lt_s_ h
  rw [hx]
  refine gs_0 (pc' := 229) (L' := [some (.ref l0)]) (st' := [.ref q_72, .ref q_72, .ref l0]) cd_15_228 rfl rfl ?_
  refine gs_0 (pc' := 231) (L' := [some (.ref l0)]) (st' := [.int 17, .ref q_72, .ref q_72, .ref l0]) cd_15_229 rfl rfl ?_
  refine gs_0 (pc' := 233) (L' := [some (.ref l0)]) (st' := [K 19, .int 17, .ref q_72, .ref q_72, .ref l0]) cd_15_231 rfl rfl ?_
  obtain ⟨q_110, hq, h⟩ := kR_s h
  rw [hq]
  obtain ⟨ht1, h⟩ := gC_s h
  obtain ⟨ht, h⟩ := gA_s h
  refine gs_rast cd_15_233 ht1 ht ?_
  obtain ⟨w_111, hx, h⟩ := lt_s_ h
  rw [hx]
  refine gs_0 (pc' := 235) (L' := [some (.ref l0)]) (st' := [.ref q_72, .ref q_72, .ref l0]) cd_15_234 rfl rfl ?_
  refine gs_0 (pc' := 237) (L' := [some (.ref l0)]) (st' := [.int 18, .ref q_72, .ref q_72, .ref l0]) cd_15_235 rfl rfl ?_
  refine gs_0 (pc' := 239) (L' := [some (.ref l0)]) (st' := [K 20, .int 18, .ref q_72, .ref q_72, .ref l0]) cd_15_237 rfl rfl ?_
  obtain ⟨q_112, hq, h⟩ := kR_s h
  rw [hq]
  obtain ⟨ht1, h⟩ := gC_s h
  obtain ⟨ht, h⟩ := gA_s h
  refine gs_rast cd_15_239 ht1 ht ?_
  obtain ⟨w_113, hx, h⟩ := lt_s_ h
  rw [hx]
  refine gs_0 (pc' := 241) (L' := [some (.ref l0)]) (st' := [.ref q_72, .ref q_72, .ref l0]) cd_15_240 rfl rfl ?_
  refine gs_0 (pc' := 243) (L' := [some (.ref l0)]) (st' := [.int 19, .ref q_72, .ref q_72, .ref l0]) cd_15_241 rfl rfl ?_
  refine gs_0 (pc' := 245) (L' := [some (.ref l0)]) (st' := [K 21, .int 19, .ref q_72, .ref q_72, .ref l0]) cd_15_243 rfl rfl ?_
  obtain ⟨q_114, hq, h⟩ := kR_s h
  rw [hq]
  obtain ⟨ht1, h⟩ := gC_s h
  obtain ⟨ht, h⟩ := gA_s h
  refine gs_rast cd_15_245 ht1 ht ?_
  obtain ⟨w_115, hx, h⟩ := lt_s_ h
  rw [hx]
  obtain ⟨ht, h⟩ := gO_s h
  refine gs_pfR cd_15_246 (by decide) ht ?_
  obtain ⟨w_116, hx, h⟩ := lt_s_ h
  rw [hx]
  refine gs_0 (pc' := 250) (L' := [some (.ref l0)]) (st' := [.ref l0]) cd_15_249 rfl rfl ?_
  refine gs_0 (pc' := 253) (L' := [some (.ref l0)]) (st' := [.int 200, .ref l0]) cd_15_250 rfl rfl ?_
  obtain ⟨hc, h⟩ := gC_s h
  refine gs_newa cd_15_253 hc ?_
  obtain ⟨q_117, hq, h⟩ := lt_s_ h
  obtain ⟨w_118, hx, h⟩ := lt_s_ h
  obtain ⟨I_119, hx1, h⟩ := lt_s_ h
  obtain ⟨J_120, hx2, h⟩ := lt_s_ h
  rw [hq, hx, hx1, hx2]
  obtain ⟨ht, h⟩ := gO_s h
  refine gs_pfR cd_15_255 (by decide) ht ?_
  obtain ⟨w_121, hx, h⟩ := lt_s_ h
  rw [hx]
  refine gs_0 (pc' := 259) (L' := [some (.ref l0)]) (st' := [.ref l0]) cd_15_258 rfl rfl ?_
  refine gs_0 (pc' := 262) (L' := [some (.ref l0)]) (st' := [.int 12800, .ref l0]) cd_15_259 rfl rfl ?_
  obtain ⟨hc, h⟩ := gC_s h
  refine gs_newa cd_15_262 hc ?_
  obtain ⟨q_122, hq, h⟩ := lt_s_ h
  obtain ⟨w_123, hx, h⟩ := lt_s_ h
  obtain ⟨I_124, hx1, h⟩ := lt_s_ h
  obtain ⟨J_125, hx2, h⟩ := lt_s_ h
  rw [hq, hx, hx1, hx2]
  obtain ⟨ht, h⟩ := gO_s h
  refine gs_pfR cd_15_264 (by decide) ht ?_
  obtain ⟨w_126, hx, h⟩ := lt_s_ h
  rw [hx]
  refine gs_0 (pc' := 268) (L' := [some (.ref l0)]) (st' := [.ref l0]) cd_15_267 rfl rfl ?_
  refine gs_0 (pc' := 271) (L' := [some (.ref l0)]) (st' := [.int 200, .ref l0]) cd_15_268 rfl rfl ?_
  obtain ⟨hc, h⟩ := gC_s h
  refine gs_newa cd_15_271 hc ?_
  obtain ⟨q_127, hq, h⟩ := lt_s_ h
  obtain ⟨w_128, hx, h⟩ := lt_s_ h
  obtain ⟨I_129, hx1, h⟩ := lt_s_ h
  obtain ⟨J_130, hx2, h⟩ := lt_s_ h
  rw [hq, hx, hx1, hx2]
  obtain ⟨ht, h⟩ := gO_s h
  refine gs_pfR cd_15_273 (by decide) ht ?_
  obtain ⟨w_131, hx, h⟩ := lt_s_ h
  rw [hx]
  refine gs_0 (pc' := 277) (L' := [some (.ref l0)]) (st' := [.ref l0]) cd_15_276 rfl rfl ?_
  refine gs_0 (pc' := 280) (L' := [some (.ref l0)]) (st' := [.int 360, .ref l0]) cd_15_277 rfl rfl ?_
  obtain ⟨hc, h⟩ := gC_s h
  refine gs_newa cd_15_280 hc ?_
  obtain ⟨q_132, hq, h⟩ := lt_s_ h
  obtain ⟨w_133, hx, h⟩ := lt_s_ h
  obtain ⟨I_134, hx1, h⟩ := lt_s_ h
  obtain ⟨J_135, hx2, h⟩ := lt_s_ h
  rw [hq, hx, hx1, hx2]
  obtain ⟨ht, h⟩ := gO_s h
  refine gs_pfR cd_15_282 (by decide) ht ?_
  obtain ⟨w_136, hx, h⟩ := lt_s_ h
  rw [hx]
  refine gs_0 (pc' := 286) (L' := [some (.ref l0)]) (st' := [.ref l0]) cd_15_285 rfl rfl ?_
  refine gs_0 (pc' := 289) (L' := [some (.ref l0)]) (st' := [.int 360, .ref l0]) cd_15_286 rfl rfl ?_
  obtain ⟨hc, h⟩ := gC_s h
  refine gs_newa cd_15_289 hc ?_
  obtain ⟨q_137, hq, h⟩ := lt_s_ h
  obtain ⟨w_138, hx, h⟩ := lt_s_ h
  obtain ⟨I_139, hx1, h⟩ := lt_s_ h
  obtain ⟨J_140, hx2, h⟩ := lt_s_ h
  rw [hq, hx, hx1, hx2]
  obtain ⟨ht, h⟩ := gO_s h
  refine gs_pfR cd_15_291 (by decide) ht ?_
  obtain ⟨w_141, hx, h⟩ := lt_s_ h
  rw [hx]
  refine gs_0 (pc' := 295) (L' := [some (.ref l0)]) (st' := [.ref l0]) cd_15_294 rfl rfl ?_
  refine gs_0 (pc' := 298) (L' := [some (.ref l0)]) (st' := [.int 10800, .ref l0]) cd_15_295 rfl rfl ?_
  obtain ⟨hc, h⟩ := gC_s h
  refine gs_newa cd_15_298 hc ?_
  obtain ⟨q_142, hq, h⟩ := lt_s_ h
  obtain ⟨w_143, hx, h⟩ := lt_s_ h
  obtain ⟨I_144, hx1, h⟩ := lt_s_ h
  obtain ⟨J_145, hx2, h⟩ := lt_s_ h
  rw [hq, hx, hx1, hx2]
  obtain ⟨ht, h⟩ := gO_s h
  refine gs_pfR cd_15_300 (by decide) ht ?_
  obtain ⟨w_146, hx, h⟩ := lt_s_ h
  rw [hx]
  refine gs_0 (pc' := 304) (L' := [some (.ref l0)]) (st' := [.ref l0]) cd_15_303 rfl rfl ?_
  refine gs_0 (pc' := 306) (L' := [some (.ref l0)]) (st' := [.int 120, .ref l0]) cd_15_304 rfl rfl ?_
  obtain ⟨hc, h⟩ := gC_s h
  refine gs_newa cd_15_306 hc ?_
  obtain ⟨q_147, hq, h⟩ := lt_s_ h
  obtain ⟨w_148, hx, h⟩ := lt_s_ h
  obtain ⟨I_149, hx1, h⟩ := lt_s_ h
  obtain ⟨J_150, hx2, h⟩ := lt_s_ h
  rw [hq, hx, hx1, hx2]
  obtain ⟨ht, h⟩ := gO_s h
  refine gs_pfR cd_15_308 (by decide) ht ?_
  obtain ⟨w_151, hx, h⟩ := lt_s_ h
  rw [hx]
  refine gs_0 (pc' := 312) (L' := [some (.ref l0)]) (st' := [.ref l0]) cd_15_311 rfl rfl ?_
  refine gs_0 (pc' := 313) (L' := [some (.ref l0)]) (st' := [.int 4, .ref l0]) cd_15_312 rfl rfl ?_
  obtain ⟨hc, h⟩ := gC_s h
  refine gs_newa cd_15_313 hc ?_
  obtain ⟨q_152, hq, h⟩ := lt_s_ h
  obtain ⟨w_153, hx, h⟩ := lt_s_ h
  obtain ⟨I_154, hx1, h⟩ := lt_s_ h
  obtain ⟨J_155, hx2, h⟩ := lt_s_ h
  rw [hq, hx, hx1, hx2]
  obtain ⟨ht, h⟩ := gO_s h
  refine gs_pfR cd_15_315 (by decide) ht ?_
  obtain ⟨w_156, hx, h⟩ := lt_s_ h
  rw [hx]
  refine gs_0 (pc' := 319) (L' := [some (.ref l0)]) (st' := [.ref l0]) cd_15_318 rfl rfl ?_
  refine gs_0 (pc' := 321) (L' := [some (.ref l0)]) (st' := [.int 17, .ref l0]) cd_15_319 rfl rfl ?_
  obtain ⟨hc, h⟩ := gC_s h
  refine gs_newz cd_15_321 hc ?_
  obtain ⟨q_157, hq, h⟩ := lt_s_ h
  obtain ⟨w_158, hx, h⟩ := lt_s_ h
  obtain ⟨I_159, hx1, h⟩ := lt_s_ h
  obtain ⟨J_160, hx2, h⟩ := lt_s_ h
  rw [hq, hx, hx1, hx2]
  obtain ⟨ht, h⟩ := gO_s h
  refine gs_pfR cd_15_323 (by decide) ht ?_
  obtain ⟨w_161, hx, h⟩ := lt_s_ h
  rw [hx]
  refine gs_0 (pc' := 327) (L' := [some (.ref l0)]) (st' := [.ref l0]) cd_15_326 rfl rfl ?_
  refine gs_0 (pc' := 328) (L' := [some (.ref l0)]) (st' := [.int 4, .ref l0]) cd_15_327 rfl rfl ?_
  obtain ⟨hc, h⟩ := gC_s h
  refine gs_newa cd_15_328 hc ?_
  obtain ⟨q_162, hq, h⟩ := lt_s_ h
  obtain ⟨w_163, hx, h⟩ := lt_s_ h
  obtain ⟨I_164, hx1, h⟩ := lt_s_ h
  obtain ⟨J_165, hx2, h⟩ := lt_s_ h
  rw [hq, hx, hx1, hx2]
  obtain ⟨ht, h⟩ := gO_s h
  refine gs_pfR cd_15_330 (by decide) ht ?_
  obtain ⟨w_166, hx, h⟩ := lt_s_ h
  rw [hx]
  refine gs_0 (pc' := 334) (L' := [some (.ref l0)]) (st' := [.ref l0]) cd_15_333 rfl rfl ?_
  refine gs_0 (pc' := 335) (L' := [some (.ref l0)]) (st' := [.int 4, .ref l0]) cd_15_334 rfl rfl ?_
  obtain ⟨hc, h⟩ := gC_s h
  refine gs_newa cd_15_335 hc ?_
  obtain ⟨q_167, hq, h⟩ := lt_s_ h
  obtain ⟨w_168, hx, h⟩ := lt_s_ h
  obtain ⟨I_169, hx1, h⟩ := lt_s_ h
  obtain ⟨J_170, hx2, h⟩ := lt_s_ h
  rw [hq, hx, hx1, hx2]
  obtain ⟨ht, h⟩ := gO_s h
  refine gs_pfR cd_15_337 (by decide) ht ?_
  obtain ⟨w_171, hx, h⟩ := lt_s_ h
  rw [hx]
  refine gs_0 (pc' := 341) (L' := [some (.ref l0)]) (st' := [.ref l0]) cd_15_340 rfl rfl ?_
  refine gs_0 (pc' := 344) (L' := [some (.ref l0)]) (st' := [.int 160, .ref l0]) cd_15_341 rfl rfl ?_
  obtain ⟨hc, h⟩ := gC_s h
  refine gs_newa cd_15_344 hc ?_
  obtain ⟨q_172, hq, h⟩ := lt_s_ h
  obtain ⟨w_173, hx, h⟩ := lt_s_ h
  obtain ⟨I_174, hx1, h⟩ := lt_s_ h
  obtain ⟨J_175, hx2, h⟩ := lt_s_ h
  rw [hq, hx, hx1, hx2]
  obtain ⟨ht, h⟩ := gO_s h
  refine gs_pfR cd_15_346 (by decide) ht ?_
  obtain ⟨w_176, hx, h⟩ := lt_s_ h
  rw [hx]
  refine gs_0 (pc' := 350) (L' := [some (.ref l0)]) (st' := [.ref l0]) cd_15_349 rfl rfl ?_
  refine gs_0 (pc' := 352) (L' := [some (.ref l0)]) (st' := [.int 40, .ref l0]) cd_15_350 rfl rfl ?_
  obtain ⟨hc, h⟩ := gC_s h
  refine gs_newa cd_15_352 hc ?_
  obtain ⟨q_177, hq, h⟩ := lt_s_ h
  obtain ⟨w_178, hx, h⟩ := lt_s_ h
  obtain ⟨I_179, hx1, h⟩ := lt_s_ h
  obtain ⟨J_180, hx2, h⟩ := lt_s_ h
  rw [hq, hx, hx1, hx2]
  obtain ⟨ht, h⟩ := gO_s h
  refine gs_pfR cd_15_354 (by decide) ht ?_
  obtain ⟨w_181, hx, h⟩ := lt_s_ h
  rw [hx]
  cases h
  exact gsr cd_15_357 rfl rfl
theorem cl_15 {K : Nat → Value} {k d : Nat} {l0 : Nat} {w : aW} {I : aI} {J : aJ} {R : aR} (h : f_15 K k d l0 w I J = some R) : Cl K (d + 1) 15 [.ref l0] w I J = some R := Cl_of (ok_15 h)
/-! ProvedMachine.feed(IJ)J -/
theorem gl_16 : gcd.lookup 16 = some gw_16 := rfl
theorem cd_16_0 : sm_cd 16 0 = some (.iload_n 1, 1, 1, 0, 0, 0, 0, 0, 0) := cd_of gl_16 rfl
theorem cd_16_1 : sm_cd 16 1 = some (.iconst 1, 1, 0, 0, 0, 0, 0, 1, 0) := cd_of gl_16 rfl
theorem cd_16_2 : sm_cd 16 2 = some (.if_icmp .lt 9, 3, 11, 0, 0, 0, 0, 0, 0) := cd_of gl_16 rfl
theorem cd_16_5 : sm_cd 16 5 = some (.iload_n 1, 1, 1, 0, 0, 0, 0, 0, 0) := cd_of gl_16 rfl
theorem cd_16_6 : sm_cd 16 6 = some (.bipush 8, 2, 0, 0, 0, 0, 0, 8, 0) := cd_of gl_16 rfl
theorem cd_16_8 : sm_cd 16 8 = some (.if_icmp .le 9, 3, 17, 0, 0, 0, 0, 0, 0) := cd_of gl_16 rfl
theorem cd_16_11 : sm_cd 16 11 = some (.aload_n 0, 1, 0, 0, 0, 0, 0, 0, 0) := cd_of gl_16 rfl
theorem cd_16_12 : sm_cd 16 12 = some (.iconst 1, 1, 0, 0, 0, 0, 0, 1, 0) := cd_of gl_16 rfl
theorem cd_16_13 : sm_cd 16 13 = some (.invokevirtual 60, 3, 17, 0, 1, 2, 5, 0, 0) := cd_of gl_16 rfl
theorem cd_16_16 : sm_cd 16 16 = some (.lreturn, 1, 0, 0, 0, 0, 0, 0, 0) := cd_of gl_16 rfl
theorem cd_16_17 : sm_cd 16 17 = some (.aload_n 0, 1, 0, 0, 0, 0, 0, 0, 0) := cd_of gl_16 rfl
theorem cd_16_18 : sm_cd 16 18 = some (.getfield 13, 3, 5, 1, 0, 0, 0, 0, 0) := cd_of gl_16 rfl
theorem cd_16_21 : sm_cd 16 21 = some (.iload_n 1, 1, 1, 0, 0, 0, 0, 0, 0) := cd_of gl_16 rfl
theorem cd_16_22 : sm_cd 16 22 = some (.iadd, 1, 0, 0, 0, 0, 0, 0, 0) := cd_of gl_16 rfl
theorem cd_16_23 : sm_cd 16 23 = some (.sipush 240, 3, 0, 0, 0, 0, 0, 240, 0) := cd_of gl_16 rfl
theorem cd_16_26 : sm_cd 16 26 = some (.if_icmp .le 9, 3, 35, 0, 0, 0, 0, 0, 0) := cd_of gl_16 rfl
theorem cd_16_29 : sm_cd 16 29 = some (.aload_n 0, 1, 0, 0, 0, 0, 0, 0, 0) := cd_of gl_16 rfl
theorem cd_16_30 : sm_cd 16 30 = some (.iconst 5, 1, 0, 0, 0, 0, 0, 5, 0) := cd_of gl_16 rfl
theorem cd_16_31 : sm_cd 16 31 = some (.invokevirtual 60, 3, 17, 0, 1, 2, 5, 0, 0) := cd_of gl_16 rfl
theorem cd_16_34 : sm_cd 16 34 = some (.lreturn, 1, 0, 0, 0, 0, 0, 0, 0) := cd_of gl_16 rfl
theorem cd_16_35 : sm_cd 16 35 = some (.iconst 0, 1, 0, 0, 0, 0, 0, 0, 0) := cd_of gl_16 rfl
theorem cd_16_36 : sm_cd 16 36 = some (.istore 4, 2, 4, 0, 0, 0, 0, 0, 0) := cd_of gl_16 rfl
theorem cd_16_38 : sm_cd 16 38 = some (.iload 4, 2, 4, 0, 0, 0, 0, 0, 0) := cd_of gl_16 rfl
theorem cd_16_40 : sm_cd 16 40 = some (.iload_n 1, 1, 1, 0, 0, 0, 0, 0, 0) := cd_of gl_16 rfl
theorem cd_16_41 : sm_cd 16 41 = some (.if_icmp .ge 33, 3, 74, 0, 0, 0, 0, 0, 0) := cd_of gl_16 rfl
theorem cd_16_44 : sm_cd 16 44 = some (.aload_n 0, 1, 0, 0, 0, 0, 0, 0, 0) := cd_of gl_16 rfl
theorem cd_16_45 : sm_cd 16 45 = some (.getfield 9, 3, 5, 0, 2, 0, 0, 0, 0) := cd_of gl_16 rfl
theorem cd_16_48 : sm_cd 16 48 = some (.aload_n 0, 1, 0, 0, 0, 0, 0, 0, 0) := cd_of gl_16 rfl
theorem cd_16_49 : sm_cd 16 49 = some (.getfield 13, 3, 5, 1, 0, 0, 0, 0, 0) := cd_of gl_16 rfl
theorem cd_16_52 : sm_cd 16 52 = some (.iload 4, 2, 4, 0, 0, 0, 0, 0, 0) := cd_of gl_16 rfl
theorem cd_16_54 : sm_cd 16 54 = some (.iadd, 1, 0, 0, 0, 0, 0, 0, 0) := cd_of gl_16 rfl
theorem cd_16_55 : sm_cd 16 55 = some (.lload_n 2, 1, 2, 0, 0, 0, 0, 0, 0) := cd_of gl_16 rfl
theorem cd_16_56 : sm_cd 16 56 = some (.bipush 8, 2, 0, 0, 0, 0, 0, 8, 0) := cd_of gl_16 rfl
theorem cd_16_58 : sm_cd 16 58 = some (.iload 4, 2, 4, 0, 0, 0, 0, 0, 0) := cd_of gl_16 rfl
theorem cd_16_60 : sm_cd 16 60 = some (.imul, 1, 0, 0, 0, 0, 0, 0, 0) := cd_of gl_16 rfl
theorem cd_16_61 : sm_cd 16 61 = some (.lushr, 1, 0, 0, 0, 0, 0, 0, 0) := cd_of gl_16 rfl
theorem cd_16_62 : sm_cd 16 62 = some (.l2i, 1, 0, 0, 0, 0, 0, 0, 0) := cd_of gl_16 rfl
theorem cd_16_63 : sm_cd 16 63 = some (.sipush 255, 3, 0, 0, 0, 0, 0, 255, 0) := cd_of gl_16 rfl
theorem cd_16_66 : sm_cd 16 66 = some (.iand, 1, 0, 0, 0, 0, 0, 0, 0) := cd_of gl_16 rfl
theorem cd_16_67 : sm_cd 16 67 = some (.iastore, 1, 0, 0, 0, 0, 0, 0, 0) := cd_of gl_16 rfl
theorem cd_16_68 : sm_cd 16 68 = some (.iinc 4 1, 3, 4, 0, 0, 0, 0, 1, 0) := cd_of gl_16 rfl
theorem cd_16_71 : sm_cd 16 71 = some (.goto (-33), 3, 38, 0, 0, 0, 0, 0, 0) := cd_of gl_16 rfl
theorem cd_16_74 : sm_cd 16 74 = some (.aload_n 0, 1, 0, 0, 0, 0, 0, 0, 0) := cd_of gl_16 rfl
theorem cd_16_75 : sm_cd 16 75 = some (.dup, 1, 0, 0, 0, 0, 0, 0, 0) := cd_of gl_16 rfl
theorem cd_16_76 : sm_cd 16 76 = some (.getfield 13, 3, 5, 1, 0, 0, 0, 0, 0) := cd_of gl_16 rfl
theorem cd_16_79 : sm_cd 16 79 = some (.iload_n 1, 1, 1, 0, 0, 0, 0, 0, 0) := cd_of gl_16 rfl
theorem cd_16_80 : sm_cd 16 80 = some (.iadd, 1, 0, 0, 0, 0, 0, 0, 0) := cd_of gl_16 rfl
theorem cd_16_81 : sm_cd 16 81 = some (.putfield 13, 3, 5, 1, 0, 0, 0, 0, 0) := cd_of gl_16 rfl
theorem cd_16_84 : sm_cd 16 84 = some (.aload_n 0, 1, 0, 0, 0, 0, 0, 0, 0) := cd_of gl_16 rfl
theorem cd_16_85 : sm_cd 16 85 = some (.getfield 13, 3, 5, 1, 0, 0, 0, 0, 0) := cd_of gl_16 rfl
theorem cd_16_88 : sm_cd 16 88 = some (.i2l, 1, 0, 0, 0, 0, 0, 0, 0) := cd_of gl_16 rfl
theorem cd_16_89 : sm_cd 16 89 = some (.lreturn, 1, 0, 0, 0, 0, 0, 0, 0) := cd_of gl_16 rfl
noncomputable def f_16_38 (K : Nat → Value) (k : Nat) (d : Nat) : Nat → Int32 → Int64 → Int32 → aW → aI → aJ → Option aR :=
  match k with
  | 0 => fun _ _ _ _ _ _ _ => none
  | k + 1 => fun l0 l1 l2 l4 w I J =>
  lt_ (f_16_38 K k d) fun r38 =>
  if l1 ≤ l4 then
    gO w 5 l0 (
    gO w 5 l0 (
    lt_ (sm_up2 I l0 1 ((I l0 1) + l1)) fun I_1 =>
    gO w 5 l0 (
    some (some (.long ((I_1 l0 1 : Int32).toInt64)), w, I_1, J))))
  else
    gO w 5 l0 (
    gV w l0 0 fun q_2 =>
    gO w 5 l0 (
    gA w 10 10 q_2 ((I l0 1) + l4) (
    lt_ (sm_up2 I q_2 ((I l0 1) + l4 : Int32).toNatClampNeg (((((l2 : Int64).toUInt64 >>> ((8 * l4 : Int32).toInt64.toUInt64 &&& Int64.toUInt64 63)).toInt64 : Int64).toInt32) &&& 255)) fun I_3 =>
    lt_ (l4 + 1) fun x_4 =>
    r38 l0 l1 l2 x_4 w I_3 J)))
theorem ok_16_38 {K : Nat → Value} {d : Nat} : ∀ {k : Nat} {l0 : Nat} {l1 : Int32} {l2 : Int64} {l4 : Int32} {w : aW} {I : aI} {J : aJ} {R : aR}, f_16_38 K k d l0 l1 l2 l4 w I J = some R → Go K (d + 1) 16 38 [some (.ref l0), some (.int l1), some (.long l2), none, some (.int l4)] [] w I J R := by
  intro k
  induction k with
  | zero => intro l0 l1 l2 l4 w I J R h; cases h
  | succ k ih =>
    intro l0 l1 l2 l4 w I J R h
    have hr38 : ∀ (l0 : Nat) (l1 : Int32) (l2 : Int64) (l4 : Int32) (w : aW) (I : aI) (J : aJ) (R : aR), f_16_38 K k d l0 l1 l2 l4 w I J = some R → Go K (d + 1) 16 38 [some (.ref l0), some (.int l1), some (.long l2), none, some (.int l4)] [] w I J R := fun l0 l1 l2 l4 w I J R h => ih h
    rw [f_16_38] at h
    obtain ⟨r38, hx, h⟩ := lt_s_ h
    rw [hx] at hr38
    clear hx ih
    refine gs_0 (pc' := 40) (L' := [some (.ref l0), some (.int l1), some (.long l2), none, some (.int l4)]) (st' := [.int l4]) cd_16_38 rfl rfl ?_
    refine gs_0 (pc' := 41) (L' := [some (.ref l0), some (.int l1), some (.long l2), none, some (.int l4)]) (st' := [.int l1, .int l4]) cd_16_40 rfl rfl ?_
    refine gs_0 (pc' := if l1 ≤ l4 then 74 else 44) (L' := [some (.ref l0), some (.int l1), some (.long l2), none, some (.int l4)]) (st' := []) cd_16_41 rfl rfl ?_
    refine go_ite (fun hc => ?_) (fun hc => ?_)
    · rw [if_pos hc] at h
      refine gs_0 (pc' := 75) (L' := [some (.ref l0), some (.int l1), some (.long l2), none, some (.int l4)]) (st' := [.ref l0]) cd_16_74 rfl rfl ?_
      refine gs_0 (pc' := 76) (L' := [some (.ref l0), some (.int l1), some (.long l2), none, some (.int l4)]) (st' := [.ref l0, .ref l0]) cd_16_75 rfl rfl ?_
      obtain ⟨ht, h⟩ := gO_s h
      refine gs_gfI cd_16_76 (by decide) (by decide) ht ?_
      refine gs_0 (pc' := 80) (L' := [some (.ref l0), some (.int l1), some (.long l2), none, some (.int l4)]) (st' := [.int l1, .int (I l0 1), .ref l0]) cd_16_79 rfl rfl ?_
      refine gs_0 (pc' := 81) (L' := [some (.ref l0), some (.int l1), some (.long l2), none, some (.int l4)]) (st' := [.int ((I l0 1) + l1), .ref l0]) cd_16_80 rfl rfl ?_
      obtain ⟨ht, h⟩ := gO_s h
      refine gs_pfI cd_16_81 (by decide) (Or.inl rfl) ht ?_
      obtain ⟨I_1, hx, h⟩ := lt_s_ h
      rw [hx]
      refine gs_0 (pc' := 85) (L' := [some (.ref l0), some (.int l1), some (.long l2), none, some (.int l4)]) (st' := [.ref l0]) cd_16_84 rfl rfl ?_
      obtain ⟨ht, h⟩ := gO_s h
      refine gs_gfI cd_16_85 (by decide) (by decide) ht ?_
      refine gs_0 (pc' := 89) (L' := [some (.ref l0), some (.int l1), some (.long l2), none, some (.int l4)]) (st' := [.long ((I_1 l0 1 : Int32).toInt64)]) cd_16_88 rfl rfl ?_
      cases h
      exact gsr cd_16_89 rfl rfl
    · rw [if_neg hc] at h
      refine gs_0 (pc' := 45) (L' := [some (.ref l0), some (.int l1), some (.long l2), none, some (.int l4)]) (st' := [.ref l0]) cd_16_44 rfl rfl ?_
      obtain ⟨ht, h⟩ := gO_s h
      obtain ⟨q_2, hv, h⟩ := gV_s h
      refine gs_gfR cd_16_45 (by decide) ht hv ?_
      refine gs_0 (pc' := 49) (L' := [some (.ref l0), some (.int l1), some (.long l2), none, some (.int l4)]) (st' := [.ref l0, .ref q_2]) cd_16_48 rfl rfl ?_
      obtain ⟨ht, h⟩ := gO_s h
      refine gs_gfI cd_16_49 (by decide) (by decide) ht ?_
      refine gs_0 (pc' := 54) (L' := [some (.ref l0), some (.int l1), some (.long l2), none, some (.int l4)]) (st' := [.int l4, .int (I l0 1), .ref q_2]) cd_16_52 rfl rfl ?_
      refine gs_0 (pc' := 55) (L' := [some (.ref l0), some (.int l1), some (.long l2), none, some (.int l4)]) (st' := [.int ((I l0 1) + l4), .ref q_2]) cd_16_54 rfl rfl ?_
      refine gs_0 (pc' := 56) (L' := [some (.ref l0), some (.int l1), some (.long l2), none, some (.int l4)]) (st' := [.long l2, .int ((I l0 1) + l4), .ref q_2]) cd_16_55 rfl rfl ?_
      refine gs_0 (pc' := 58) (L' := [some (.ref l0), some (.int l1), some (.long l2), none, some (.int l4)]) (st' := [.int 8, .long l2, .int ((I l0 1) + l4), .ref q_2]) cd_16_56 rfl rfl ?_
      refine gs_0 (pc' := 60) (L' := [some (.ref l0), some (.int l1), some (.long l2), none, some (.int l4)]) (st' := [.int l4, .int 8, .long l2, .int ((I l0 1) + l4), .ref q_2]) cd_16_58 rfl rfl ?_
      refine gs_0 (pc' := 61) (L' := [some (.ref l0), some (.int l1), some (.long l2), none, some (.int l4)]) (st' := [.int (8 * l4), .long l2, .int ((I l0 1) + l4), .ref q_2]) cd_16_60 rfl rfl ?_
      refine gs_0 (pc' := 62) (L' := [some (.ref l0), some (.int l1), some (.long l2), none, some (.int l4)]) (st' := [.long (((l2 : Int64).toUInt64 >>> ((8 * l4 : Int32).toInt64.toUInt64 &&& Int64.toUInt64 63)).toInt64), .int ((I l0 1) + l4), .ref q_2]) cd_16_61 rfl rfl ?_
      refine gs_0 (pc' := 63) (L' := [some (.ref l0), some (.int l1), some (.long l2), none, some (.int l4)]) (st' := [.int ((((l2 : Int64).toUInt64 >>> ((8 * l4 : Int32).toInt64.toUInt64 &&& Int64.toUInt64 63)).toInt64 : Int64).toInt32), .int ((I l0 1) + l4), .ref q_2]) cd_16_62 rfl rfl ?_
      refine gs_0 (pc' := 66) (L' := [some (.ref l0), some (.int l1), some (.long l2), none, some (.int l4)]) (st' := [.int 255, .int ((((l2 : Int64).toUInt64 >>> ((8 * l4 : Int32).toInt64.toUInt64 &&& Int64.toUInt64 63)).toInt64 : Int64).toInt32), .int ((I l0 1) + l4), .ref q_2]) cd_16_63 rfl rfl ?_
      refine gs_0 (pc' := 67) (L' := [some (.ref l0), some (.int l1), some (.long l2), none, some (.int l4)]) (st' := [.int (((((l2 : Int64).toUInt64 >>> ((8 * l4 : Int32).toInt64.toUInt64 &&& Int64.toUInt64 63)).toInt64 : Int64).toInt32) &&& 255), .int ((I l0 1) + l4), .ref q_2]) cd_16_66 rfl rfl ?_
      obtain ⟨ht, h⟩ := gA_s h
      refine gs_iast cd_16_67 ht ?_
      obtain ⟨I_3, hx, h⟩ := lt_s_ h
      rw [hx]
      refine gs_0 (pc' := 71) (L' := [some (.ref l0), some (.int l1), some (.long l2), none, some (.int (l4 + 1))]) (st' := []) cd_16_68 rfl rfl ?_
      obtain ⟨x_4, hx, h⟩ := lt_s_ h
      rw [hx]
      clear hx
      refine gs_0 (pc' := 38) (L' := [some (.ref l0), some (.int l1), some (.long l2), none, some (.int x_4)]) (st' := []) cd_16_71 rfl rfl ?_
      exact hr38 l0 l1 l2 x_4 _ _ _ _ h
noncomputable def f_16_11 (K : Nat → Value) (k d : Nat) (l0 : Nat) (l1 : Int32) (l2 : Int64) (w : aW) (I : aI) (J : aJ) : Option aR :=
  gO w 5 l0 (
  cJ (Cl K d 17 [.ref l0, .int 1] w I J) fun v_4 w_1 I_2 J_3 =>
  some (some (.long v_4), w_1, I_2, J_3))
theorem ok_16_11 {K : Nat → Value} {k d : Nat} {l0 : Nat} {l1 : Int32} {l2 : Int64} {w : aW} {I : aI} {J : aJ} {R : aR} (h : f_16_11 K k d l0 l1 l2 w I J = some R) : Go K (d + 1) 16 11 [some (.ref l0), some (.int l1), some (.long l2), none, none] [] w I J R := by
  unfold f_16_11 at h
  refine gs_0 (pc' := 12) (L' := [some (.ref l0), some (.int l1), some (.long l2), none, none]) (st' := [.ref l0]) cd_16_11 rfl rfl ?_
  refine gs_0 (pc' := 13) (L' := [some (.ref l0), some (.int l1), some (.long l2), none, none]) (st' := [.int 1, .ref l0]) cd_16_12 rfl rfl ?_
  obtain ⟨ht, h⟩ := gO_s h
  obtain ⟨v_4, w_1, I_2, J_3, hcl, h⟩ := cJ_s h
  refine gs_call (as := [.ref l0, .int 1]) (rest := []) cd_16_13 rfl (by decide) rfl (sm_rv_ok (by decide) ht) (Nat.le_of_ble_eq_true rfl) (Nat.le_of_ble_eq_true rfl) rfl hcl ?_
  cases h
  exact gsr cd_16_16 rfl rfl
noncomputable def f_16 (K : Nat → Value) (k d : Nat) (l0 : Nat) (l1 : Int32) (l2 : Int64) (w : aW) (I : aI) (J : aJ) : Option aR :=
  if l1 < 1 then
    f_16_11 K k d l0 l1 l2 w I J
  else
    if l1 ≤ 8 then
      gO w 5 l0 (
      if ((I l0 1) + l1) ≤ 240 then
        f_16_38 K k d l0 l1 l2 0 w I J
      else
        gO w 5 l0 (
        cJ (Cl K d 17 [.ref l0, .int 5] w I J) fun v_4 w_1 I_2 J_3 =>
        some (some (.long v_4), w_1, I_2, J_3)))
    else
      f_16_11 K k d l0 l1 l2 w I J
theorem ok_16 {K : Nat → Value} {k d : Nat} {l0 : Nat} {l1 : Int32} {l2 : Int64} {w : aW} {I : aI} {J : aJ} {R : aR} (h : f_16 K k d l0 l1 l2 w I J = some R) : Go K (d + 1) 16 0 [some (.ref l0), some (.int l1), some (.long l2), none, none] [] w I J R := by
  unfold f_16 at h
  refine gs_0 (pc' := 1) (L' := [some (.ref l0), some (.int l1), some (.long l2), none, none]) (st' := [.int l1]) cd_16_0 rfl rfl ?_
  refine gs_0 (pc' := 2) (L' := [some (.ref l0), some (.int l1), some (.long l2), none, none]) (st' := [.int 1, .int l1]) cd_16_1 rfl rfl ?_
  refine gs_0 (pc' := if l1 < 1 then 11 else 5) (L' := [some (.ref l0), some (.int l1), some (.long l2), none, none]) (st' := []) cd_16_2 rfl rfl ?_
  refine go_ite (fun hc => ?_) (fun hc => ?_)
  · rw [if_pos hc] at h
    exact ok_16_11 h
  · rw [if_neg hc] at h
    refine gs_0 (pc' := 6) (L' := [some (.ref l0), some (.int l1), some (.long l2), none, none]) (st' := [.int l1]) cd_16_5 rfl rfl ?_
    refine gs_0 (pc' := 8) (L' := [some (.ref l0), some (.int l1), some (.long l2), none, none]) (st' := [.int 8, .int l1]) cd_16_6 rfl rfl ?_
    refine gs_0 (pc' := if l1 ≤ 8 then 17 else 11) (L' := [some (.ref l0), some (.int l1), some (.long l2), none, none]) (st' := []) cd_16_8 rfl rfl ?_
    refine go_ite (fun hc => ?_) (fun hc => ?_)
    · rw [if_pos hc] at h
      refine gs_0 (pc' := 18) (L' := [some (.ref l0), some (.int l1), some (.long l2), none, none]) (st' := [.ref l0]) cd_16_17 rfl rfl ?_
      obtain ⟨ht, h⟩ := gO_s h
      refine gs_gfI cd_16_18 (by decide) (by decide) ht ?_
      refine gs_0 (pc' := 22) (L' := [some (.ref l0), some (.int l1), some (.long l2), none, none]) (st' := [.int l1, .int (I l0 1)]) cd_16_21 rfl rfl ?_
      refine gs_0 (pc' := 23) (L' := [some (.ref l0), some (.int l1), some (.long l2), none, none]) (st' := [.int ((I l0 1) + l1)]) cd_16_22 rfl rfl ?_
      refine gs_0 (pc' := 26) (L' := [some (.ref l0), some (.int l1), some (.long l2), none, none]) (st' := [.int 240, .int ((I l0 1) + l1)]) cd_16_23 rfl rfl ?_
      refine gs_0 (pc' := if ((I l0 1) + l1) ≤ 240 then 35 else 29) (L' := [some (.ref l0), some (.int l1), some (.long l2), none, none]) (st' := []) cd_16_26 rfl rfl ?_
      refine go_ite (fun hc => ?_) (fun hc => ?_)
      · rw [if_pos hc] at h
        refine gs_0 (pc' := 36) (L' := [some (.ref l0), some (.int l1), some (.long l2), none, none]) (st' := [.int 0]) cd_16_35 rfl rfl ?_
        refine gs_0 (pc' := 38) (L' := [some (.ref l0), some (.int l1), some (.long l2), none, some (.int 0)]) (st' := []) cd_16_36 rfl rfl ?_
        exact ok_16_38 h
      · rw [if_neg hc] at h
        refine gs_0 (pc' := 30) (L' := [some (.ref l0), some (.int l1), some (.long l2), none, none]) (st' := [.ref l0]) cd_16_29 rfl rfl ?_
        refine gs_0 (pc' := 31) (L' := [some (.ref l0), some (.int l1), some (.long l2), none, none]) (st' := [.int 5, .ref l0]) cd_16_30 rfl rfl ?_
        obtain ⟨ht, h⟩ := gO_s h
        obtain ⟨v_4, w_1, I_2, J_3, hcl, h⟩ := cJ_s h
        refine gs_call (as := [.ref l0, .int 5]) (rest := []) cd_16_31 rfl (by decide) rfl (sm_rv_ok (by decide) ht) (Nat.le_of_ble_eq_true rfl) (Nat.le_of_ble_eq_true rfl) rfl hcl ?_
        cases h
        exact gsr cd_16_34 rfl rfl
    · rw [if_neg hc] at h
      exact ok_16_11 h
theorem cl_16 {K : Nat → Value} {k d : Nat} {l0 : Nat} {l1 : Int32} {l2 : Int64} {w : aW} {I : aI} {J : aJ} {R : aR} (h : f_16 K k d l0 l1 l2 w I J = some R) : Cl K (d + 1) 16 [.ref l0, .int l1, .long l2] w I J = some R := Cl_of (ok_16 h)
/-! ProvedMachine.finding(I)J -/
theorem gl_17 : gcd.lookup 17 = some gw_17 := rfl
theorem cd_17_0 : sm_cd 17 0 = some (.iload_n 1, 1, 1, 0, 0, 0, 0, 0, 0) := cd_of gl_17 rfl
theorem cd_17_1 : sm_cd 17 1 = some (.ifCond .lt 22, 3, 23, 0, 0, 0, 0, 0, 0) := cd_of gl_17 rfl
theorem cd_17_4 : sm_cd 17 4 = some (.iload_n 1, 1, 1, 0, 0, 0, 0, 0, 0) := cd_of gl_17 rfl
theorem cd_17_5 : sm_cd 17 5 = some (.aload_n 0, 1, 0, 0, 0, 0, 0, 0, 0) := cd_of gl_17 rfl
theorem cd_17_6 : sm_cd 17 6 = some (.getfield 50, 3, 5, 7, 2, 0, 0, 0, 0) := cd_of gl_17 rfl
theorem cd_17_9 : sm_cd 17 9 = some (.arraylength, 1, 0, 0, 0, 0, 0, 0, 0) := cd_of gl_17 rfl
theorem cd_17_10 : sm_cd 17 10 = some (.if_icmp .ge 13, 3, 23, 0, 0, 0, 0, 0, 0) := cd_of gl_17 rfl
theorem cd_17_13 : sm_cd 17 13 = some (.aload_n 0, 1, 0, 0, 0, 0, 0, 0, 0) := cd_of gl_17 rfl
theorem cd_17_14 : sm_cd 17 14 = some (.getfield 50, 3, 5, 7, 2, 0, 0, 0, 0) := cd_of gl_17 rfl
theorem cd_17_17 : sm_cd 17 17 = some (.iload_n 1, 1, 1, 0, 0, 0, 0, 0, 0) := cd_of gl_17 rfl
theorem cd_17_18 : sm_cd 17 18 = some (.dup2, 1, 0, 0, 0, 0, 0, 0, 0) := cd_of gl_17 rfl
theorem cd_17_19 : sm_cd 17 19 = some (.iaload, 1, 0, 0, 0, 0, 0, 0, 0) := cd_of gl_17 rfl
theorem cd_17_20 : sm_cd 17 20 = some (.iconst 1, 1, 0, 0, 0, 0, 0, 1, 0) := cd_of gl_17 rfl
theorem cd_17_21 : sm_cd 17 21 = some (.iadd, 1, 0, 0, 0, 0, 0, 0, 0) := cd_of gl_17 rfl
theorem cd_17_22 : sm_cd 17 22 = some (.iastore, 1, 0, 0, 0, 0, 0, 0, 0) := cd_of gl_17 rfl
theorem cd_17_23 : sm_cd 17 23 = some (.ldc2_w 194, 3, 0, 0, 0, 0, 0, 0, (-9000000000000000)) := cd_of gl_17 rfl
theorem cd_17_26 : sm_cd 17 26 = some (.iload_n 1, 1, 1, 0, 0, 0, 0, 0, 0) := cd_of gl_17 rfl
theorem cd_17_27 : sm_cd 17 27 = some (.i2l, 1, 0, 0, 0, 0, 0, 0, 0) := cd_of gl_17 rfl
theorem cd_17_28 : sm_cd 17 28 = some (.lsub, 1, 0, 0, 0, 0, 0, 0, 0) := cd_of gl_17 rfl
theorem cd_17_29 : sm_cd 17 29 = some (.lreturn, 1, 0, 0, 0, 0, 0, 0, 0) := cd_of gl_17 rfl
noncomputable def f_17_23 (K : Nat → Value) (k d : Nat) (l0 : Nat) (l1 : Int32) (w : aW) (I : aI) (J : aJ) : Option aR :=
  some (some (.long ((-9000000000000000) - ((l1 : Int32).toInt64))), w, I, J)
theorem ok_17_23 {K : Nat → Value} {k d : Nat} {l0 : Nat} {l1 : Int32} {w : aW} {I : aI} {J : aJ} {R : aR} (h : f_17_23 K k d l0 l1 w I J = some R) : Go K (d + 1) 17 23 [some (.ref l0), some (.int l1)] [] w I J R := by
  unfold f_17_23 at h
  refine gs_0 (pc' := 26) (L' := [some (.ref l0), some (.int l1)]) (st' := [.long ((-9000000000000000))]) cd_17_23 rfl rfl ?_
  refine gs_0 (pc' := 27) (L' := [some (.ref l0), some (.int l1)]) (st' := [.int l1, .long ((-9000000000000000))]) cd_17_26 rfl rfl ?_
  refine gs_0 (pc' := 28) (L' := [some (.ref l0), some (.int l1)]) (st' := [.long ((l1 : Int32).toInt64), .long ((-9000000000000000))]) cd_17_27 rfl rfl ?_
  refine gs_0 (pc' := 29) (L' := [some (.ref l0), some (.int l1)]) (st' := [.long ((-9000000000000000) - ((l1 : Int32).toInt64))]) cd_17_28 rfl rfl ?_
  cases h
  exact gsr cd_17_29 rfl rfl
noncomputable def f_17 (K : Nat → Value) (k d : Nat) (l0 : Nat) (l1 : Int32) (w : aW) (I : aI) (J : aJ) : Option aR :=
  if l1 < 0 then
    f_17_23 K k d l0 l1 w I J
  else
    gO w 5 l0 (
    gV w l0 7 fun q_1 =>
    gL w q_1 fun n_2 =>
    if n_2 ≤ l1 then
      f_17_23 K k d l0 l1 w I J
    else
      gO w 5 l0 (
      gV w l0 7 fun q_3 =>
      gA w 10 20 q_3 l1 (
      gA w 10 10 q_3 l1 (
      lt_ (sm_up2 I q_3 (l1 : Int32).toNatClampNeg ((I q_3 (l1 : Int32).toNatClampNeg) + 1)) fun I_4 =>
      f_17_23 K k d l0 l1 w I_4 J))))
theorem ok_17 {K : Nat → Value} {k d : Nat} {l0 : Nat} {l1 : Int32} {w : aW} {I : aI} {J : aJ} {R : aR} (h : f_17 K k d l0 l1 w I J = some R) : Go K (d + 1) 17 0 [some (.ref l0), some (.int l1)] [] w I J R := by
  unfold f_17 at h
  refine gs_0 (pc' := 1) (L' := [some (.ref l0), some (.int l1)]) (st' := [.int l1]) cd_17_0 rfl rfl ?_
  refine gs_0 (pc' := if l1 < 0 then 23 else 4) (L' := [some (.ref l0), some (.int l1)]) (st' := []) cd_17_1 rfl rfl ?_
  refine go_ite (fun hc => ?_) (fun hc => ?_)
  · rw [if_pos hc] at h
    exact ok_17_23 h
  · rw [if_neg hc] at h
    refine gs_0 (pc' := 5) (L' := [some (.ref l0), some (.int l1)]) (st' := [.int l1]) cd_17_4 rfl rfl ?_
    refine gs_0 (pc' := 6) (L' := [some (.ref l0), some (.int l1)]) (st' := [.ref l0, .int l1]) cd_17_5 rfl rfl ?_
    obtain ⟨ht, h⟩ := gO_s h
    obtain ⟨q_1, hv, h⟩ := gV_s h
    refine gs_gfR cd_17_6 (by decide) ht hv ?_
    obtain ⟨t0, n0, ht, ht2, h⟩ := gL_s h
    refine gs_alen cd_17_9 ht ht2 ?_
    generalize Int32.ofNat n0 = n_2 at h ⊢
    refine gs_0 (pc' := if n_2 ≤ l1 then 23 else 13) (L' := [some (.ref l0), some (.int l1)]) (st' := []) cd_17_10 rfl rfl ?_
    refine go_ite (fun hc => ?_) (fun hc => ?_)
    · rw [if_pos hc] at h
      exact ok_17_23 h
    · rw [if_neg hc] at h
      refine gs_0 (pc' := 14) (L' := [some (.ref l0), some (.int l1)]) (st' := [.ref l0]) cd_17_13 rfl rfl ?_
      obtain ⟨ht, h⟩ := gO_s h
      obtain ⟨q_3, hv, h⟩ := gV_s h
      refine gs_gfR cd_17_14 (by decide) ht hv ?_
      refine gs_0 (pc' := 18) (L' := [some (.ref l0), some (.int l1)]) (st' := [.int l1, .ref q_3]) cd_17_17 rfl rfl ?_
      refine gs_0 (pc' := 19) (L' := [some (.ref l0), some (.int l1)]) (st' := [.int l1, .ref q_3, .int l1, .ref q_3]) cd_17_18 rfl rfl ?_
      obtain ⟨ht, h⟩ := gA_s h
      refine gs_iald cd_17_19 ht ?_
      refine gs_0 (pc' := 21) (L' := [some (.ref l0), some (.int l1)]) (st' := [.int 1, .int (I q_3 (l1 : Int32).toNatClampNeg), .int l1, .ref q_3]) cd_17_20 rfl rfl ?_
      refine gs_0 (pc' := 22) (L' := [some (.ref l0), some (.int l1)]) (st' := [.int ((I q_3 (l1 : Int32).toNatClampNeg) + 1), .int l1, .ref q_3]) cd_17_21 rfl rfl ?_
      obtain ⟨ht, h⟩ := gA_s h
      refine gs_iast cd_17_22 ht ?_
      obtain ⟨I_4, hx, h⟩ := lt_s_ h
      rw [hx]
      exact ok_17_23 h
theorem cl_17 {K : Nat → Value} {k d : Nat} {l0 : Nat} {l1 : Int32} {w : aW} {I : aI} {J : aJ} {R : aR} (h : f_17 K k d l0 l1 w I J = some R) : Cl K (d + 1) 17 [.ref l0, .int l1] w I J = some R := Cl_of (ok_17 h)
/-! ProvedMachineModel.feed(IJ)J -/
theorem gl_18 : gcd.lookup 18 = some gw_18 := rfl
theorem cd_18_0 : sm_cd 18 0 = some (.iload_n 1, 1, 1, 0, 0, 0, 0, 0, 0) := cd_of gl_18 rfl
theorem cd_18_1 : sm_cd 18 1 = some (.iconst 1, 1, 0, 0, 0, 0, 0, 1, 0) := cd_of gl_18 rfl
theorem cd_18_2 : sm_cd 18 2 = some (.bipush 8, 2, 0, 0, 0, 0, 0, 8, 0) := cd_of gl_18 rfl
theorem cd_18_4 : sm_cd 18 4 = some (.invokestatic 144, 3, 19, 1, 3, 3, 6, 0, 0) := cd_of gl_18 rfl
theorem cd_18_7 : sm_cd 18 7 = some (.ifCond .ne 9, 3, 16, 0, 0, 0, 0, 0, 0) := cd_of gl_18 rfl
theorem cd_18_10 : sm_cd 18 10 = some (.aload_n 0, 1, 0, 0, 0, 0, 0, 0, 0) := cd_of gl_18 rfl
theorem cd_18_11 : sm_cd 18 11 = some (.iconst 1, 1, 0, 0, 0, 0, 0, 1, 0) := cd_of gl_18 rfl
theorem cd_18_12 : sm_cd 18 12 = some (.invokevirtual 148, 3, 20, 0, 1, 2, 6, 0, 0) := cd_of gl_18 rfl
theorem cd_18_15 : sm_cd 18 15 = some (.lreturn, 1, 0, 0, 0, 0, 0, 0, 0) := cd_of gl_18 rfl
theorem cd_18_16 : sm_cd 18 16 = some (.aload_n 0, 1, 0, 0, 0, 0, 0, 0, 0) := cd_of gl_18 rfl
theorem cd_18_17 : sm_cd 18 17 = some (.getfield 152, 3, 6, 2, 0, 0, 0, 0, 0) := cd_of gl_18 rfl
theorem cd_18_20 : sm_cd 18 20 = some (.iload_n 1, 1, 1, 0, 0, 0, 0, 0, 0) := cd_of gl_18 rfl
theorem cd_18_21 : sm_cd 18 21 = some (.iadd, 1, 0, 0, 0, 0, 0, 0, 0) := cd_of gl_18 rfl
theorem cd_18_22 : sm_cd 18 22 = some (.sipush 240, 3, 0, 0, 0, 0, 0, 240, 0) := cd_of gl_18 rfl
theorem cd_18_25 : sm_cd 18 25 = some (.if_icmp .le 9, 3, 34, 0, 0, 0, 0, 0, 0) := cd_of gl_18 rfl
theorem cd_18_28 : sm_cd 18 28 = some (.aload_n 0, 1, 0, 0, 0, 0, 0, 0, 0) := cd_of gl_18 rfl
theorem cd_18_29 : sm_cd 18 29 = some (.iconst 5, 1, 0, 0, 0, 0, 0, 5, 0) := cd_of gl_18 rfl
theorem cd_18_30 : sm_cd 18 30 = some (.invokevirtual 148, 3, 20, 0, 1, 2, 6, 0, 0) := cd_of gl_18 rfl
theorem cd_18_33 : sm_cd 18 33 = some (.lreturn, 1, 0, 0, 0, 0, 0, 0, 0) := cd_of gl_18 rfl
theorem cd_18_34 : sm_cd 18 34 = some (.iconst 0, 1, 0, 0, 0, 0, 0, 0, 0) := cd_of gl_18 rfl
theorem cd_18_35 : sm_cd 18 35 = some (.istore 4, 2, 4, 0, 0, 0, 0, 0, 0) := cd_of gl_18 rfl
theorem cd_18_37 : sm_cd 18 37 = some (.iload 4, 2, 4, 0, 0, 0, 0, 0, 0) := cd_of gl_18 rfl
theorem cd_18_39 : sm_cd 18 39 = some (.iload_n 1, 1, 1, 0, 0, 0, 0, 0, 0) := cd_of gl_18 rfl
theorem cd_18_40 : sm_cd 18 40 = some (.if_icmp .ge 40, 3, 80, 0, 0, 0, 0, 0, 0) := cd_of gl_18 rfl
theorem cd_18_43 : sm_cd 18 43 = some (.aload_n 0, 1, 0, 0, 0, 0, 0, 0, 0) := cd_of gl_18 rfl
theorem cd_18_44 : sm_cd 18 44 = some (.getfield 13, 3, 6, 1, 2, 0, 0, 0, 0) := cd_of gl_18 rfl
theorem cd_18_47 : sm_cd 18 47 = some (.aload_n 0, 1, 0, 0, 0, 0, 0, 0, 0) := cd_of gl_18 rfl
theorem cd_18_48 : sm_cd 18 48 = some (.getfield 152, 3, 6, 2, 0, 0, 0, 0, 0) := cd_of gl_18 rfl
theorem cd_18_51 : sm_cd 18 51 = some (.lload_n 2, 1, 2, 0, 0, 0, 0, 0, 0) := cd_of gl_18 rfl
theorem cd_18_52 : sm_cd 18 52 = some (.bipush 8, 2, 0, 0, 0, 0, 0, 8, 0) := cd_of gl_18 rfl
theorem cd_18_54 : sm_cd 18 54 = some (.iload 4, 2, 4, 0, 0, 0, 0, 0, 0) := cd_of gl_18 rfl
theorem cd_18_56 : sm_cd 18 56 = some (.imul, 1, 0, 0, 0, 0, 0, 0, 0) := cd_of gl_18 rfl
theorem cd_18_57 : sm_cd 18 57 = some (.lshr, 1, 0, 0, 0, 0, 0, 0, 0) := cd_of gl_18 rfl
theorem cd_18_58 : sm_cd 18 58 = some (.ldc2_w 155, 3, 0, 0, 0, 0, 0, 0, 255) := cd_of gl_18 rfl
theorem cd_18_61 : sm_cd 18 61 = some (.land, 1, 0, 0, 0, 0, 0, 0, 0) := cd_of gl_18 rfl
theorem cd_18_62 : sm_cd 18 62 = some (.l2i, 1, 0, 0, 0, 0, 0, 0, 0) := cd_of gl_18 rfl
theorem cd_18_63 : sm_cd 18 63 = some (.iastore, 1, 0, 0, 0, 0, 0, 0, 0) := cd_of gl_18 rfl
theorem cd_18_64 : sm_cd 18 64 = some (.aload_n 0, 1, 0, 0, 0, 0, 0, 0, 0) := cd_of gl_18 rfl
theorem cd_18_65 : sm_cd 18 65 = some (.dup, 1, 0, 0, 0, 0, 0, 0, 0) := cd_of gl_18 rfl
theorem cd_18_66 : sm_cd 18 66 = some (.getfield 152, 3, 6, 2, 0, 0, 0, 0, 0) := cd_of gl_18 rfl
theorem cd_18_69 : sm_cd 18 69 = some (.iconst 1, 1, 0, 0, 0, 0, 0, 1, 0) := cd_of gl_18 rfl
theorem cd_18_70 : sm_cd 18 70 = some (.iadd, 1, 0, 0, 0, 0, 0, 0, 0) := cd_of gl_18 rfl
theorem cd_18_71 : sm_cd 18 71 = some (.putfield 152, 3, 6, 2, 0, 0, 0, 0, 0) := cd_of gl_18 rfl
theorem cd_18_74 : sm_cd 18 74 = some (.iinc 4 1, 3, 4, 0, 0, 0, 0, 1, 0) := cd_of gl_18 rfl
theorem cd_18_77 : sm_cd 18 77 = some (.goto (-40), 3, 37, 0, 0, 0, 0, 0, 0) := cd_of gl_18 rfl
theorem cd_18_80 : sm_cd 18 80 = some (.aload_n 0, 1, 0, 0, 0, 0, 0, 0, 0) := cd_of gl_18 rfl
theorem cd_18_81 : sm_cd 18 81 = some (.getfield 152, 3, 6, 2, 0, 0, 0, 0, 0) := cd_of gl_18 rfl
theorem cd_18_84 : sm_cd 18 84 = some (.i2l, 1, 0, 0, 0, 0, 0, 0, 0) := cd_of gl_18 rfl
theorem cd_18_85 : sm_cd 18 85 = some (.lreturn, 1, 0, 0, 0, 0, 0, 0, 0) := cd_of gl_18 rfl
noncomputable def f_18_37 (K : Nat → Value) (k : Nat) (d : Nat) : Nat → Int32 → Int64 → Int32 → aW → aI → aJ → Option aR :=
  match k with
  | 0 => fun _ _ _ _ _ _ _ => none
  | k + 1 => fun l0 l1 l2 l4 w I J =>
  lt_ (f_18_37 K k d) fun r37 =>
  if l1 ≤ l4 then
    gO w 6 l0 (
    some (some (.long ((I l0 2 : Int32).toInt64)), w, I, J))
  else
    gO w 6 l0 (
    gV w l0 1 fun q_1 =>
    gO w 6 l0 (
    gA w 10 10 q_1 (I l0 2) (
    lt_ (sm_up2 I q_1 (I l0 2 : Int32).toNatClampNeg (((l2 >>> ((8 * l4 : Int32).toInt64 &&& 63)) &&& 255 : Int64).toInt32)) fun I_2 =>
    gO w 6 l0 (
    gO w 6 l0 (
    lt_ (sm_up2 I_2 l0 2 ((I_2 l0 2) + 1)) fun I_3 =>
    lt_ (l4 + 1) fun x_4 =>
    r37 l0 l1 l2 x_4 w I_3 J)))))
theorem ok_18_37 {K : Nat → Value} {d : Nat} : ∀ {k : Nat} {l0 : Nat} {l1 : Int32} {l2 : Int64} {l4 : Int32} {w : aW} {I : aI} {J : aJ} {R : aR}, f_18_37 K k d l0 l1 l2 l4 w I J = some R → Go K (d + 1) 18 37 [some (.ref l0), some (.int l1), some (.long l2), none, some (.int l4)] [] w I J R := by
  intro k
  induction k with
  | zero => intro l0 l1 l2 l4 w I J R h; cases h
  | succ k ih =>
    intro l0 l1 l2 l4 w I J R h
    have hr37 : ∀ (l0 : Nat) (l1 : Int32) (l2 : Int64) (l4 : Int32) (w : aW) (I : aI) (J : aJ) (R : aR), f_18_37 K k d l0 l1 l2 l4 w I J = some R → Go K (d + 1) 18 37 [some (.ref l0), some (.int l1), some (.long l2), none, some (.int l4)] [] w I J R := fun l0 l1 l2 l4 w I J R h => ih h
    rw [f_18_37] at h
    obtain ⟨r37, hx, h⟩ := lt_s_ h
    rw [hx] at hr37
    clear hx ih
    refine gs_0 (pc' := 39) (L' := [some (.ref l0), some (.int l1), some (.long l2), none, some (.int l4)]) (st' := [.int l4]) cd_18_37 rfl rfl ?_
    refine gs_0 (pc' := 40) (L' := [some (.ref l0), some (.int l1), some (.long l2), none, some (.int l4)]) (st' := [.int l1, .int l4]) cd_18_39 rfl rfl ?_
    refine gs_0 (pc' := if l1 ≤ l4 then 80 else 43) (L' := [some (.ref l0), some (.int l1), some (.long l2), none, some (.int l4)]) (st' := []) cd_18_40 rfl rfl ?_
    refine go_ite (fun hc => ?_) (fun hc => ?_)
    · rw [if_pos hc] at h
      refine gs_0 (pc' := 81) (L' := [some (.ref l0), some (.int l1), some (.long l2), none, some (.int l4)]) (st' := [.ref l0]) cd_18_80 rfl rfl ?_
      obtain ⟨ht, h⟩ := gO_s h
      refine gs_gfI cd_18_81 (by decide) (by decide) ht ?_
      refine gs_0 (pc' := 85) (L' := [some (.ref l0), some (.int l1), some (.long l2), none, some (.int l4)]) (st' := [.long ((I l0 2 : Int32).toInt64)]) cd_18_84 rfl rfl ?_
      cases h
      exact gsr cd_18_85 rfl rfl
    · rw [if_neg hc] at h
      refine gs_0 (pc' := 44) (L' := [some (.ref l0), some (.int l1), some (.long l2), none, some (.int l4)]) (st' := [.ref l0]) cd_18_43 rfl rfl ?_
      obtain ⟨ht, h⟩ := gO_s h
      obtain ⟨q_1, hv, h⟩ := gV_s h
      refine gs_gfR cd_18_44 (by decide) ht hv ?_
      refine gs_0 (pc' := 48) (L' := [some (.ref l0), some (.int l1), some (.long l2), none, some (.int l4)]) (st' := [.ref l0, .ref q_1]) cd_18_47 rfl rfl ?_
      obtain ⟨ht, h⟩ := gO_s h
      refine gs_gfI cd_18_48 (by decide) (by decide) ht ?_
      refine gs_0 (pc' := 52) (L' := [some (.ref l0), some (.int l1), some (.long l2), none, some (.int l4)]) (st' := [.long l2, .int (I l0 2), .ref q_1]) cd_18_51 rfl rfl ?_
      refine gs_0 (pc' := 54) (L' := [some (.ref l0), some (.int l1), some (.long l2), none, some (.int l4)]) (st' := [.int 8, .long l2, .int (I l0 2), .ref q_1]) cd_18_52 rfl rfl ?_
      refine gs_0 (pc' := 56) (L' := [some (.ref l0), some (.int l1), some (.long l2), none, some (.int l4)]) (st' := [.int l4, .int 8, .long l2, .int (I l0 2), .ref q_1]) cd_18_54 rfl rfl ?_
      refine gs_0 (pc' := 57) (L' := [some (.ref l0), some (.int l1), some (.long l2), none, some (.int l4)]) (st' := [.int (8 * l4), .long l2, .int (I l0 2), .ref q_1]) cd_18_56 rfl rfl ?_
      refine gs_0 (pc' := 58) (L' := [some (.ref l0), some (.int l1), some (.long l2), none, some (.int l4)]) (st' := [.long (l2 >>> ((8 * l4 : Int32).toInt64 &&& 63)), .int (I l0 2), .ref q_1]) cd_18_57 rfl rfl ?_
      refine gs_0 (pc' := 61) (L' := [some (.ref l0), some (.int l1), some (.long l2), none, some (.int l4)]) (st' := [.long 255, .long (l2 >>> ((8 * l4 : Int32).toInt64 &&& 63)), .int (I l0 2), .ref q_1]) cd_18_58 rfl rfl ?_
      refine gs_0 (pc' := 62) (L' := [some (.ref l0), some (.int l1), some (.long l2), none, some (.int l4)]) (st' := [.long ((l2 >>> ((8 * l4 : Int32).toInt64 &&& 63)) &&& 255), .int (I l0 2), .ref q_1]) cd_18_61 rfl rfl ?_
      refine gs_0 (pc' := 63) (L' := [some (.ref l0), some (.int l1), some (.long l2), none, some (.int l4)]) (st' := [.int (((l2 >>> ((8 * l4 : Int32).toInt64 &&& 63)) &&& 255 : Int64).toInt32), .int (I l0 2), .ref q_1]) cd_18_62 rfl rfl ?_
      obtain ⟨ht, h⟩ := gA_s h
      refine gs_iast cd_18_63 ht ?_
      obtain ⟨I_2, hx, h⟩ := lt_s_ h
      rw [hx]
      refine gs_0 (pc' := 65) (L' := [some (.ref l0), some (.int l1), some (.long l2), none, some (.int l4)]) (st' := [.ref l0]) cd_18_64 rfl rfl ?_
      refine gs_0 (pc' := 66) (L' := [some (.ref l0), some (.int l1), some (.long l2), none, some (.int l4)]) (st' := [.ref l0, .ref l0]) cd_18_65 rfl rfl ?_
      obtain ⟨ht, h⟩ := gO_s h
      refine gs_gfI cd_18_66 (by decide) (by decide) ht ?_
      refine gs_0 (pc' := 70) (L' := [some (.ref l0), some (.int l1), some (.long l2), none, some (.int l4)]) (st' := [.int 1, .int (I_2 l0 2), .ref l0]) cd_18_69 rfl rfl ?_
      refine gs_0 (pc' := 71) (L' := [some (.ref l0), some (.int l1), some (.long l2), none, some (.int l4)]) (st' := [.int ((I_2 l0 2) + 1), .ref l0]) cd_18_70 rfl rfl ?_
      obtain ⟨ht, h⟩ := gO_s h
      refine gs_pfI cd_18_71 (by decide) (Or.inl rfl) ht ?_
      obtain ⟨I_3, hx, h⟩ := lt_s_ h
      rw [hx]
      refine gs_0 (pc' := 77) (L' := [some (.ref l0), some (.int l1), some (.long l2), none, some (.int (l4 + 1))]) (st' := []) cd_18_74 rfl rfl ?_
      obtain ⟨x_4, hx, h⟩ := lt_s_ h
      rw [hx]
      clear hx
      refine gs_0 (pc' := 37) (L' := [some (.ref l0), some (.int l1), some (.long l2), none, some (.int x_4)]) (st' := []) cd_18_77 rfl rfl ?_
      exact hr37 l0 l1 l2 x_4 _ _ _ _ h
noncomputable def f_18 (K : Nat → Value) (k d : Nat) (l0 : Nat) (l1 : Int32) (l2 : Int64) (w : aW) (I : aI) (J : aJ) : Option aR :=
  cI (Cl K d 19 [.int l1, .int 1, .int 8] w I J) fun x_4 w_1 I_2 J_3 =>
  if ¬ x_4 = 0 then
    gO w_1 6 l0 (
    if ((I_2 l0 2) + l1) ≤ 240 then
      f_18_37 K k d l0 l1 l2 0 w_1 I_2 J_3
    else
      gO w_1 6 l0 (
      cJ (Cl K d 20 [.ref l0, .int 5] w_1 I_2 J_3) fun v_8 w_5 I_6 J_7 =>
      some (some (.long v_8), w_5, I_6, J_7)))
  else
    gO w_1 6 l0 (
    cJ (Cl K d 20 [.ref l0, .int 1] w_1 I_2 J_3) fun v_12 w_9 I_10 J_11 =>
    some (some (.long v_12), w_9, I_10, J_11))
theorem ok_18 {K : Nat → Value} {k d : Nat} {l0 : Nat} {l1 : Int32} {l2 : Int64} {w : aW} {I : aI} {J : aJ} {R : aR} (h : f_18 K k d l0 l1 l2 w I J = some R) : Go K (d + 1) 18 0 [some (.ref l0), some (.int l1), some (.long l2), none, none] [] w I J R := by
  unfold f_18 at h
  refine gs_0 (pc' := 1) (L' := [some (.ref l0), some (.int l1), some (.long l2), none, none]) (st' := [.int l1]) cd_18_0 rfl rfl ?_
  refine gs_0 (pc' := 2) (L' := [some (.ref l0), some (.int l1), some (.long l2), none, none]) (st' := [.int 1, .int l1]) cd_18_1 rfl rfl ?_
  refine gs_0 (pc' := 4) (L' := [some (.ref l0), some (.int l1), some (.long l2), none, none]) (st' := [.int 8, .int 1, .int l1]) cd_18_2 rfl rfl ?_
  obtain ⟨x_4, w_1, I_2, J_3, hcl, h⟩ := cI_s h
  refine gs_call (as := [.int l1, .int 1, .int 8]) (rest := []) cd_18_4 rfl (by decide) rfl rfl (Nat.le_of_ble_eq_true rfl) (Nat.le_of_ble_eq_true rfl) rfl hcl ?_
  refine gs_0 (pc' := if ¬ x_4 = 0 then 16 else 10) (L' := [some (.ref l0), some (.int l1), some (.long l2), none, none]) (st' := []) cd_18_7 rfl rfl ?_
  refine go_ite (fun hc => ?_) (fun hc => ?_)
  · rw [if_pos hc] at h
    refine gs_0 (pc' := 17) (L' := [some (.ref l0), some (.int l1), some (.long l2), none, none]) (st' := [.ref l0]) cd_18_16 rfl rfl ?_
    obtain ⟨ht, h⟩ := gO_s h
    refine gs_gfI cd_18_17 (by decide) (by decide) ht ?_
    refine gs_0 (pc' := 21) (L' := [some (.ref l0), some (.int l1), some (.long l2), none, none]) (st' := [.int l1, .int (I_2 l0 2)]) cd_18_20 rfl rfl ?_
    refine gs_0 (pc' := 22) (L' := [some (.ref l0), some (.int l1), some (.long l2), none, none]) (st' := [.int ((I_2 l0 2) + l1)]) cd_18_21 rfl rfl ?_
    refine gs_0 (pc' := 25) (L' := [some (.ref l0), some (.int l1), some (.long l2), none, none]) (st' := [.int 240, .int ((I_2 l0 2) + l1)]) cd_18_22 rfl rfl ?_
    refine gs_0 (pc' := if ((I_2 l0 2) + l1) ≤ 240 then 34 else 28) (L' := [some (.ref l0), some (.int l1), some (.long l2), none, none]) (st' := []) cd_18_25 rfl rfl ?_
    refine go_ite (fun hc => ?_) (fun hc => ?_)
    · rw [if_pos hc] at h
      refine gs_0 (pc' := 35) (L' := [some (.ref l0), some (.int l1), some (.long l2), none, none]) (st' := [.int 0]) cd_18_34 rfl rfl ?_
      refine gs_0 (pc' := 37) (L' := [some (.ref l0), some (.int l1), some (.long l2), none, some (.int 0)]) (st' := []) cd_18_35 rfl rfl ?_
      exact ok_18_37 h
    · rw [if_neg hc] at h
      refine gs_0 (pc' := 29) (L' := [some (.ref l0), some (.int l1), some (.long l2), none, none]) (st' := [.ref l0]) cd_18_28 rfl rfl ?_
      refine gs_0 (pc' := 30) (L' := [some (.ref l0), some (.int l1), some (.long l2), none, none]) (st' := [.int 5, .ref l0]) cd_18_29 rfl rfl ?_
      obtain ⟨ht, h⟩ := gO_s h
      obtain ⟨v_8, w_5, I_6, J_7, hcl, h⟩ := cJ_s h
      refine gs_call (as := [.ref l0, .int 5]) (rest := []) cd_18_30 rfl (by decide) rfl (sm_rv_ok (by decide) ht) (Nat.le_of_ble_eq_true rfl) (Nat.le_of_ble_eq_true rfl) rfl hcl ?_
      cases h
      exact gsr cd_18_33 rfl rfl
  · rw [if_neg hc] at h
    refine gs_0 (pc' := 11) (L' := [some (.ref l0), some (.int l1), some (.long l2), none, none]) (st' := [.ref l0]) cd_18_10 rfl rfl ?_
    refine gs_0 (pc' := 12) (L' := [some (.ref l0), some (.int l1), some (.long l2), none, none]) (st' := [.int 1, .ref l0]) cd_18_11 rfl rfl ?_
    obtain ⟨ht, h⟩ := gO_s h
    obtain ⟨v_12, w_9, I_10, J_11, hcl, h⟩ := cJ_s h
    refine gs_call (as := [.ref l0, .int 1]) (rest := []) cd_18_12 rfl (by decide) rfl (sm_rv_ok (by decide) ht) (Nat.le_of_ble_eq_true rfl) (Nat.le_of_ble_eq_true rfl) rfl hcl ?_
    cases h
    exact gsr cd_18_15 rfl rfl
theorem cl_18 {K : Nat → Value} {k d : Nat} {l0 : Nat} {l1 : Int32} {l2 : Int64} {w : aW} {I : aI} {J : aJ} {R : aR} (h : f_18 K k d l0 l1 l2 w I J = some R) : Cl K (d + 1) 18 [.ref l0, .int l1, .long l2] w I J = some R := Cl_of (ok_18 h)
/-! ProvedMachineModel.within(III)Z -/
theorem gl_19 : gcd.lookup 19 = some gw_19 := rfl
theorem cd_19_0 : sm_cd 19 0 = some (.iload_n 0, 1, 0, 0, 0, 0, 0, 0, 0) := cd_of gl_19 rfl
theorem cd_19_1 : sm_cd 19 1 = some (.iload_n 1, 1, 1, 0, 0, 0, 0, 0, 0) := cd_of gl_19 rfl
theorem cd_19_2 : sm_cd 19 2 = some (.if_icmp .lt 12, 3, 14, 0, 0, 0, 0, 0, 0) := cd_of gl_19 rfl
theorem cd_19_5 : sm_cd 19 5 = some (.iload_n 0, 1, 0, 0, 0, 0, 0, 0, 0) := cd_of gl_19 rfl
theorem cd_19_6 : sm_cd 19 6 = some (.iload_n 2, 1, 2, 0, 0, 0, 0, 0, 0) := cd_of gl_19 rfl
theorem cd_19_7 : sm_cd 19 7 = some (.if_icmp .gt 7, 3, 14, 0, 0, 0, 0, 0, 0) := cd_of gl_19 rfl
theorem cd_19_10 : sm_cd 19 10 = some (.iconst 1, 1, 0, 0, 0, 0, 0, 1, 0) := cd_of gl_19 rfl
theorem cd_19_11 : sm_cd 19 11 = some (.goto 4, 3, 15, 0, 0, 0, 0, 0, 0) := cd_of gl_19 rfl
theorem cd_19_14 : sm_cd 19 14 = some (.iconst 0, 1, 0, 0, 0, 0, 0, 0, 0) := cd_of gl_19 rfl
theorem cd_19_15 : sm_cd 19 15 = some (.ireturn, 1, 0, 0, 2, 0, 0, 0, 0) := cd_of gl_19 rfl
noncomputable def f_19 (K : Nat → Value) (k d : Nat) (l0 : Int32) (l1 : Int32) (l2 : Int32) (w : aW) (I : aI) (J : aJ) : Option aR :=
  if l0 < l1 then
    some (some (.int 0), w, I, J)
  else
    if l2 < l0 then
      some (some (.int 0), w, I, J)
    else
      some (some (.int 1), w, I, J)
theorem ok_19 {K : Nat → Value} {k d : Nat} {l0 : Int32} {l1 : Int32} {l2 : Int32} {w : aW} {I : aI} {J : aJ} {R : aR} (h : f_19 K k d l0 l1 l2 w I J = some R) : Go K (d + 1) 19 0 [some (.int l0), some (.int l1), some (.int l2)] [] w I J R := by
  unfold f_19 at h
  refine gs_0 (pc' := 1) (L' := [some (.int l0), some (.int l1), some (.int l2)]) (st' := [.int l0]) cd_19_0 rfl rfl ?_
  refine gs_0 (pc' := 2) (L' := [some (.int l0), some (.int l1), some (.int l2)]) (st' := [.int l1, .int l0]) cd_19_1 rfl rfl ?_
  refine gs_0 (pc' := if l0 < l1 then 14 else 5) (L' := [some (.int l0), some (.int l1), some (.int l2)]) (st' := []) cd_19_2 rfl rfl ?_
  refine go_ite (fun hc => ?_) (fun hc => ?_)
  · rw [if_pos hc] at h
    refine gs_0 (pc' := 15) (L' := [some (.int l0), some (.int l1), some (.int l2)]) (st' := [.int 0]) cd_19_14 rfl rfl ?_
    cases h
    exact gs_ri cd_19_15 (Or.inr (Or.inl ⟨rfl, Or.inl rfl⟩))
  · rw [if_neg hc] at h
    refine gs_0 (pc' := 6) (L' := [some (.int l0), some (.int l1), some (.int l2)]) (st' := [.int l0]) cd_19_5 rfl rfl ?_
    refine gs_0 (pc' := 7) (L' := [some (.int l0), some (.int l1), some (.int l2)]) (st' := [.int l2, .int l0]) cd_19_6 rfl rfl ?_
    refine gs_0 (pc' := if l2 < l0 then 14 else 10) (L' := [some (.int l0), some (.int l1), some (.int l2)]) (st' := []) cd_19_7 rfl rfl ?_
    refine go_ite (fun hc => ?_) (fun hc => ?_)
    · rw [if_pos hc] at h
      refine gs_0 (pc' := 15) (L' := [some (.int l0), some (.int l1), some (.int l2)]) (st' := [.int 0]) cd_19_14 rfl rfl ?_
      cases h
      exact gs_ri cd_19_15 (Or.inr (Or.inl ⟨rfl, Or.inl rfl⟩))
    · rw [if_neg hc] at h
      refine gs_0 (pc' := 11) (L' := [some (.int l0), some (.int l1), some (.int l2)]) (st' := [.int 1]) cd_19_10 rfl rfl ?_
      refine gs_0 (pc' := 15) (L' := [some (.int l0), some (.int l1), some (.int l2)]) (st' := [.int 1]) cd_19_11 rfl rfl ?_
      cases h
      exact gs_ri cd_19_15 (Or.inr (Or.inl ⟨rfl, Or.inr rfl⟩))
theorem cl_19 {K : Nat → Value} {k d : Nat} {l0 : Int32} {l1 : Int32} {l2 : Int32} {w : aW} {I : aI} {J : aJ} {R : aR} (h : f_19 K k d l0 l1 l2 w I J = some R) : Cl K (d + 1) 19 [.int l0, .int l1, .int l2] w I J = some R := Cl_of (ok_19 h)
/-! ProvedMachineModel.finding(I)J -/
theorem gl_20 : gcd.lookup 20 = some gw_20 := rfl
theorem cd_20_0 : sm_cd 20 0 = some (.aload_n 0, 1, 0, 0, 0, 0, 0, 0, 0) := cd_of gl_20 rfl
theorem cd_20_1 : sm_cd 20 1 = some (.getfield 7, 3, 6, 0, 2, 0, 0, 0, 0) := cd_of gl_20 rfl
theorem cd_20_4 : sm_cd 20 4 = some (.iload_n 1, 1, 1, 0, 0, 0, 0, 0, 0) := cd_of gl_20 rfl
theorem cd_20_5 : sm_cd 20 5 = some (.dup2, 1, 0, 0, 0, 0, 0, 0, 0) := cd_of gl_20 rfl
theorem cd_20_6 : sm_cd 20 6 = some (.iaload, 1, 0, 0, 0, 0, 0, 0, 0) := cd_of gl_20 rfl
theorem cd_20_7 : sm_cd 20 7 = some (.iconst 1, 1, 0, 0, 0, 0, 0, 1, 0) := cd_of gl_20 rfl
theorem cd_20_8 : sm_cd 20 8 = some (.iadd, 1, 0, 0, 0, 0, 0, 0, 0) := cd_of gl_20 rfl
theorem cd_20_9 : sm_cd 20 9 = some (.iastore, 1, 0, 0, 0, 0, 0, 0, 0) := cd_of gl_20 rfl
theorem cd_20_10 : sm_cd 20 10 = some (.ldc2_w 142, 3, 0, 0, 0, 0, 0, 0, (-9000000000000000)) := cd_of gl_20 rfl
theorem cd_20_13 : sm_cd 20 13 = some (.iload_n 1, 1, 1, 0, 0, 0, 0, 0, 0) := cd_of gl_20 rfl
theorem cd_20_14 : sm_cd 20 14 = some (.i2l, 1, 0, 0, 0, 0, 0, 0, 0) := cd_of gl_20 rfl
theorem cd_20_15 : sm_cd 20 15 = some (.lsub, 1, 0, 0, 0, 0, 0, 0, 0) := cd_of gl_20 rfl
theorem cd_20_16 : sm_cd 20 16 = some (.lreturn, 1, 0, 0, 0, 0, 0, 0, 0) := cd_of gl_20 rfl
noncomputable def f_20 (K : Nat → Value) (k d : Nat) (l0 : Nat) (l1 : Int32) (w : aW) (I : aI) (J : aJ) : Option aR :=
  gO w 6 l0 (
  gV w l0 0 fun q_1 =>
  gA w 10 20 q_1 l1 (
  gA w 10 10 q_1 l1 (
  lt_ (sm_up2 I q_1 (l1 : Int32).toNatClampNeg ((I q_1 (l1 : Int32).toNatClampNeg) + 1)) fun I_2 =>
  some (some (.long ((-9000000000000000) - ((l1 : Int32).toInt64))), w, I_2, J))))
theorem ok_20 {K : Nat → Value} {k d : Nat} {l0 : Nat} {l1 : Int32} {w : aW} {I : aI} {J : aJ} {R : aR} (h : f_20 K k d l0 l1 w I J = some R) : Go K (d + 1) 20 0 [some (.ref l0), some (.int l1)] [] w I J R := by
  unfold f_20 at h
  refine gs_0 (pc' := 1) (L' := [some (.ref l0), some (.int l1)]) (st' := [.ref l0]) cd_20_0 rfl rfl ?_
  obtain ⟨ht, h⟩ := gO_s h
  obtain ⟨q_1, hv, h⟩ := gV_s h
  refine gs_gfR cd_20_1 (by decide) ht hv ?_
  refine gs_0 (pc' := 5) (L' := [some (.ref l0), some (.int l1)]) (st' := [.int l1, .ref q_1]) cd_20_4 rfl rfl ?_
  refine gs_0 (pc' := 6) (L' := [some (.ref l0), some (.int l1)]) (st' := [.int l1, .ref q_1, .int l1, .ref q_1]) cd_20_5 rfl rfl ?_
  obtain ⟨ht, h⟩ := gA_s h
  refine gs_iald cd_20_6 ht ?_
  refine gs_0 (pc' := 8) (L' := [some (.ref l0), some (.int l1)]) (st' := [.int 1, .int (I q_1 (l1 : Int32).toNatClampNeg), .int l1, .ref q_1]) cd_20_7 rfl rfl ?_
  refine gs_0 (pc' := 9) (L' := [some (.ref l0), some (.int l1)]) (st' := [.int ((I q_1 (l1 : Int32).toNatClampNeg) + 1), .int l1, .ref q_1]) cd_20_8 rfl rfl ?_
  obtain ⟨ht, h⟩ := gA_s h
  refine gs_iast cd_20_9 ht ?_
  obtain ⟨I_2, hx, h⟩ := lt_s_ h
  rw [hx]
  refine gs_0 (pc' := 13) (L' := [some (.ref l0), some (.int l1)]) (st' := [.long ((-9000000000000000))]) cd_20_10 rfl rfl ?_
  refine gs_0 (pc' := 14) (L' := [some (.ref l0), some (.int l1)]) (st' := [.int l1, .long ((-9000000000000000))]) cd_20_13 rfl rfl ?_
  refine gs_0 (pc' := 15) (L' := [some (.ref l0), some (.int l1)]) (st' := [.long ((l1 : Int32).toInt64), .long ((-9000000000000000))]) cd_20_14 rfl rfl ?_
  refine gs_0 (pc' := 16) (L' := [some (.ref l0), some (.int l1)]) (st' := [.long ((-9000000000000000) - ((l1 : Int32).toInt64))]) cd_20_15 rfl rfl ?_
  cases h
  exact gsr cd_20_16 rfl rfl
theorem cl_20 {K : Nat → Value} {k d : Nat} {l0 : Nat} {l1 : Int32} {w : aW} {I : aI} {J : aJ} {R : aR} (h : f_20 K k d l0 l1 w I J = some R) : Cl K (d + 1) 20 [.ref l0, .int l1] w I J = some R := Cl_of (ok_20 h)
/-! ProvedMachine.text()J -/
theorem gl_21 : gcd.lookup 21 = some gw_21 := rfl
theorem cd_21_0 : sm_cd 21 0 = some (.aload_n 0, 1, 0, 0, 0, 0, 0, 0, 0) := cd_of gl_21 rfl
theorem cd_21_1 : sm_cd 21 1 = some (.getfield 20, 3, 5, 2, 2, 0, 0, 0, 0) := cd_of gl_21 rfl
theorem cd_21_4 : sm_cd 21 4 = some (.aload_n 0, 1, 0, 0, 0, 0, 0, 0, 0) := cd_of gl_21 rfl
theorem cd_21_5 : sm_cd 21 5 = some (.getfield 9, 3, 5, 0, 2, 0, 0, 0, 0) := cd_of gl_21 rfl
theorem cd_21_8 : sm_cd 21 8 = some (.aload_n 0, 1, 0, 0, 0, 0, 0, 0, 0) := cd_of gl_21 rfl
theorem cd_21_9 : sm_cd 21 9 = some (.getfield 13, 3, 5, 1, 0, 0, 0, 0, 0) := cd_of gl_21 rfl
theorem cd_21_12 : sm_cd 21 12 = some (.invokevirtual 64, 3, 22, 0, 2, 4, 2, 0, 0) := cd_of gl_21 rfl
theorem cd_21_15 : sm_cd 21 15 = some (.aload_n 0, 1, 0, 0, 0, 0, 0, 0, 0) := cd_of gl_21 rfl
theorem cd_21_16 : sm_cd 21 16 = some (.aload_n 0, 1, 0, 0, 0, 0, 0, 0, 0) := cd_of gl_21 rfl
theorem cd_21_17 : sm_cd 21 17 = some (.getfield 20, 3, 5, 2, 2, 0, 0, 0, 0) := cd_of gl_21 rfl
theorem cd_21_20 : sm_cd 21 20 = some (.invokevirtual 68, 3, 80, 0, 0, 1, 2, 0, 0) := cd_of gl_21 rfl
theorem cd_21_23 : sm_cd 21 23 = some (.putfield 53, 3, 5, 8, 0, 0, 0, 0, 0) := cd_of gl_21 rfl
theorem cd_21_26 : sm_cd 21 26 = some (.aload_n 0, 1, 0, 0, 0, 0, 0, 0, 0) := cd_of gl_21 rfl
theorem cd_21_27 : sm_cd 21 27 = some (.aload_n 0, 1, 0, 0, 0, 0, 0, 0, 0) := cd_of gl_21 rfl
theorem cd_21_28 : sm_cd 21 28 = some (.getfield 20, 3, 5, 2, 2, 0, 0, 0, 0) := cd_of gl_21 rfl
theorem cd_21_31 : sm_cd 21 31 = some (.aload_n 0, 1, 0, 0, 0, 0, 0, 0, 0) := cd_of gl_21 rfl
theorem cd_21_32 : sm_cd 21 32 = some (.getfield 13, 3, 5, 1, 0, 0, 0, 0, 0) := cd_of gl_21 rfl
theorem cd_21_35 : sm_cd 21 35 = some (.invokevirtual 71, 3, 81, 0, 1, 2, 2, 0, 0) := cd_of gl_21 rfl
theorem cd_21_38 : sm_cd 21 38 = some (.putfield 56, 3, 5, 9, 0, 0, 0, 0, 0) := cd_of gl_21 rfl
theorem cd_21_41 : sm_cd 21 41 = some (.aload_n 0, 1, 0, 0, 0, 0, 0, 0, 0) := cd_of gl_21 rfl
theorem cd_21_42 : sm_cd 21 42 = some (.iconst 0, 1, 0, 0, 0, 0, 0, 0, 0) := cd_of gl_21 rfl
theorem cd_21_43 : sm_cd 21 43 = some (.putfield 13, 3, 5, 1, 0, 0, 0, 0, 0) := cd_of gl_21 rfl
theorem cd_21_46 : sm_cd 21 46 = some (.aload_n 0, 1, 0, 0, 0, 0, 0, 0, 0) := cd_of gl_21 rfl
theorem cd_21_47 : sm_cd 21 47 = some (.getfield 53, 3, 5, 8, 0, 0, 0, 0, 0) := cd_of gl_21 rfl
theorem cd_21_50 : sm_cd 21 50 = some (.ifCond .eq 7, 3, 57, 0, 0, 0, 0, 0, 0) := cd_of gl_21 rfl
theorem cd_21_53 : sm_cd 21 53 = some (.ldc2_w 74, 3, 0, 0, 0, 0, 0, 0, (-1)) := cd_of gl_21 rfl
theorem cd_21_56 : sm_cd 21 56 = some (.lreturn, 1, 0, 0, 0, 0, 0, 0, 0) := cd_of gl_21 rfl
theorem cd_21_57 : sm_cd 21 57 = some (.aload_n 0, 1, 0, 0, 0, 0, 0, 0, 0) := cd_of gl_21 rfl
theorem cd_21_58 : sm_cd 21 58 = some (.aload_n 0, 1, 0, 0, 0, 0, 0, 0, 0) := cd_of gl_21 rfl
theorem cd_21_59 : sm_cd 21 59 = some (.getfield 20, 3, 5, 2, 2, 0, 0, 0, 0) := cd_of gl_21 rfl
theorem cd_21_62 : sm_cd 21 62 = some (.aload_n 0, 1, 0, 0, 0, 0, 0, 0, 0) := cd_of gl_21 rfl
theorem cd_21_63 : sm_cd 21 63 = some (.getfield 27, 3, 5, 3, 2, 0, 0, 0, 0) := cd_of gl_21 rfl
theorem cd_21_66 : sm_cd 21 66 = some (.invokevirtual 76, 3, 82, 0, 1, 3, 2, 0, 0) := cd_of gl_21 rfl
theorem cd_21_69 : sm_cd 21 69 = some (.putfield 27, 3, 5, 3, 2, 0, 0, 0, 0) := cd_of gl_21 rfl
theorem cd_21_72 : sm_cd 21 72 = some (.aload_n 0, 1, 0, 0, 0, 0, 0, 0, 0) := cd_of gl_21 rfl
theorem cd_21_73 : sm_cd 21 73 = some (.iconst 0, 1, 0, 0, 0, 0, 0, 0, 0) := cd_of gl_21 rfl
theorem cd_21_74 : sm_cd 21 74 = some (.putfield 40, 3, 5, 5, 1, 0, 0, 0, 0) := cd_of gl_21 rfl
theorem cd_21_77 : sm_cd 21 77 = some (.aload_n 0, 1, 0, 0, 0, 0, 0, 0, 0) := cd_of gl_21 rfl
theorem cd_21_78 : sm_cd 21 78 = some (.getfield 27, 3, 5, 3, 2, 0, 0, 0, 0) := cd_of gl_21 rfl
theorem cd_21_81 : sm_cd 21 81 = some (.getfield 80, 3, 1, 6, 0, 1, 0, 0, 0) := cd_of gl_21 rfl
theorem cd_21_84 : sm_cd 21 84 = some (.i2l, 1, 0, 0, 0, 0, 0, 0, 0) := cd_of gl_21 rfl
theorem cd_21_85 : sm_cd 21 85 = some (.lreturn, 1, 0, 0, 0, 0, 0, 0, 0) := cd_of gl_21 rfl
noncomputable def f_21 (K : Nat → Value) (k d : Nat) (l0 : Nat) (w : aW) (I : aI) (J : aJ) : Option aR :=
  gO w 5 l0 (
  gV w l0 2 fun q_1 =>
  gO w 5 l0 (
  gV w l0 0 fun q_2 =>
  gO w 5 l0 (
  gO w 2 q_1 (
  cV (Cl K d 22 [.ref q_1, .ref q_2, .int (I l0 1)] w I J) fun w_3 I_4 J_5 =>
  gO w_3 5 l0 (
  gV w_3 l0 2 fun q_6 =>
  gO w_3 2 q_6 (
  cI (Cl K d 80 [.ref q_6] w_3 I_4 J_5) fun x_10 w_7 I_8 J_9 =>
  gO w_7 5 l0 (
  lt_ (sm_up2 I_8 l0 8 x_10) fun I_11 =>
  gO w_7 5 l0 (
  gV w_7 l0 2 fun q_12 =>
  gO w_7 5 l0 (
  gO w_7 2 q_12 (
  cI (Cl K d 81 [.ref q_12, .int (I_11 l0 1)] w_7 I_11 J_9) fun x_16 w_13 I_14 J_15 =>
  gO w_13 5 l0 (
  lt_ (sm_up2 I_14 l0 9 x_16) fun I_17 =>
  gO w_13 5 l0 (
  lt_ (sm_up2 I_17 l0 1 0) fun I_18 =>
  gO w_13 5 l0 (
  if (I_18 l0 8) = 0 then
    gO w_13 5 l0 (
    gV w_13 l0 2 fun q_19 =>
    gO w_13 5 l0 (
    gV w_13 l0 3 fun q_20 =>
    gO w_13 2 q_19 (
    cA (Cl K d 82 [.ref q_19, .ref q_20] w_13 I_18 J_15) fun q_24 w_21 I_22 J_23 =>
    gO w_21 5 l0 (
    lt_ (w_21.1, sm_up2 w_21.2.1 l0 3 (some q_24), w_21.2.2) fun w_25 =>
    gO w_25 5 l0 (
    lt_ (sm_up2 I_22 l0 5 0) fun I_26 =>
    gO w_25 5 l0 (
    gV w_25 l0 3 fun q_27 =>
    gO w_25 1 q_27 (
    some (some (.long ((I_26 q_27 6 : Int32).toInt64)), w_25, I_26, J_23))))))))
  else
    some (some (.long ((-1))), w_13, I_18, J_15))))))))))))))
theorem ok_21 {K : Nat → Value} {k d : Nat} {l0 : Nat} {w : aW} {I : aI} {J : aJ} {R : aR} (h : f_21 K k d l0 w I J = some R) : Go K (d + 1) 21 0 [some (.ref l0)] [] w I J R := by
  unfold f_21 at h
  refine gs_0 (pc' := 1) (L' := [some (.ref l0)]) (st' := [.ref l0]) cd_21_0 rfl rfl ?_
  obtain ⟨ht, h⟩ := gO_s h
  obtain ⟨q_1, hv, h⟩ := gV_s h
  refine gs_gfR cd_21_1 (by decide) ht hv ?_
  refine gs_0 (pc' := 5) (L' := [some (.ref l0)]) (st' := [.ref l0, .ref q_1]) cd_21_4 rfl rfl ?_
  obtain ⟨ht, h⟩ := gO_s h
  obtain ⟨q_2, hv, h⟩ := gV_s h
  refine gs_gfR cd_21_5 (by decide) ht hv ?_
  refine gs_0 (pc' := 9) (L' := [some (.ref l0)]) (st' := [.ref l0, .ref q_2, .ref q_1]) cd_21_8 rfl rfl ?_
  obtain ⟨ht, h⟩ := gO_s h
  refine gs_gfI cd_21_9 (by decide) (by decide) ht ?_
  obtain ⟨ht, h⟩ := gO_s h
  obtain ⟨w_3, I_4, J_5, hcl, h⟩ := cV_s h
  refine gs_call (as := [.ref q_1, .ref q_2, .int (I l0 1)]) (rest := []) cd_21_12 rfl (by decide) rfl (sm_rv_ok (by decide) ht) (Nat.le_of_ble_eq_true rfl) (Nat.le_of_ble_eq_true rfl) rfl hcl ?_
  refine gs_0 (pc' := 16) (L' := [some (.ref l0)]) (st' := [.ref l0]) cd_21_15 rfl rfl ?_
  refine gs_0 (pc' := 17) (L' := [some (.ref l0)]) (st' := [.ref l0, .ref l0]) cd_21_16 rfl rfl ?_
  obtain ⟨ht, h⟩ := gO_s h
  obtain ⟨q_6, hv, h⟩ := gV_s h
  refine gs_gfR cd_21_17 (by decide) ht hv ?_
  obtain ⟨ht, h⟩ := gO_s h
  obtain ⟨x_10, w_7, I_8, J_9, hcl, h⟩ := cI_s h
  refine gs_call (as := [.ref q_6]) (rest := [.ref l0]) cd_21_20 rfl (by decide) rfl (sm_rv_ok (by decide) ht) (Nat.le_of_ble_eq_true rfl) (Nat.le_of_ble_eq_true rfl) rfl hcl ?_
  obtain ⟨ht, h⟩ := gO_s h
  refine gs_pfI cd_21_23 (by decide) (Or.inl rfl) ht ?_
  obtain ⟨I_11, hx, h⟩ := lt_s_ h
  rw [hx]
  refine gs_0 (pc' := 27) (L' := [some (.ref l0)]) (st' := [.ref l0]) cd_21_26 rfl rfl ?_
  refine gs_0 (pc' := 28) (L' := [some (.ref l0)]) (st' := [.ref l0, .ref l0]) cd_21_27 rfl rfl ?_
  obtain ⟨ht, h⟩ := gO_s h
  obtain ⟨q_12, hv, h⟩ := gV_s h
  refine gs_gfR cd_21_28 (by decide) ht hv ?_
  refine gs_0 (pc' := 32) (L' := [some (.ref l0)]) (st' := [.ref l0, .ref q_12, .ref l0]) cd_21_31 rfl rfl ?_
  obtain ⟨ht, h⟩ := gO_s h
  refine gs_gfI cd_21_32 (by decide) (by decide) ht ?_
  obtain ⟨ht, h⟩ := gO_s h
  obtain ⟨x_16, w_13, I_14, J_15, hcl, h⟩ := cI_s h
  refine gs_call (as := [.ref q_12, .int (I_11 l0 1)]) (rest := [.ref l0]) cd_21_35 rfl (by decide) rfl (sm_rv_ok (by decide) ht) (Nat.le_of_ble_eq_true rfl) (Nat.le_of_ble_eq_true rfl) rfl hcl ?_
  obtain ⟨ht, h⟩ := gO_s h
  refine gs_pfI cd_21_38 (by decide) (Or.inl rfl) ht ?_
  obtain ⟨I_17, hx, h⟩ := lt_s_ h
  rw [hx]
  refine gs_0 (pc' := 42) (L' := [some (.ref l0)]) (st' := [.ref l0]) cd_21_41 rfl rfl ?_
  refine gs_0 (pc' := 43) (L' := [some (.ref l0)]) (st' := [.int 0, .ref l0]) cd_21_42 rfl rfl ?_
  obtain ⟨ht, h⟩ := gO_s h
  refine gs_pfI cd_21_43 (by decide) (Or.inl rfl) ht ?_
  obtain ⟨I_18, hx, h⟩ := lt_s_ h
  rw [hx]
  refine gs_0 (pc' := 47) (L' := [some (.ref l0)]) (st' := [.ref l0]) cd_21_46 rfl rfl ?_
  obtain ⟨ht, h⟩ := gO_s h
  refine gs_gfI cd_21_47 (by decide) (by decide) ht ?_
  refine gs_0 (pc' := if (I_18 l0 8) = 0 then 57 else 53) (L' := [some (.ref l0)]) (st' := []) cd_21_50 rfl rfl ?_
  refine go_ite (fun hc => ?_) (fun hc => ?_)
  · rw [if_pos hc] at h
    refine gs_0 (pc' := 58) (L' := [some (.ref l0)]) (st' := [.ref l0]) cd_21_57 rfl rfl ?_
    refine gs_0 (pc' := 59) (L' := [some (.ref l0)]) (st' := [.ref l0, .ref l0]) cd_21_58 rfl rfl ?_
    obtain ⟨ht, h⟩ := gO_s h
    obtain ⟨q_19, hv, h⟩ := gV_s h
    refine gs_gfR cd_21_59 (by decide) ht hv ?_
    refine gs_0 (pc' := 63) (L' := [some (.ref l0)]) (st' := [.ref l0, .ref q_19, .ref l0]) cd_21_62 rfl rfl ?_
    obtain ⟨ht, h⟩ := gO_s h
    obtain ⟨q_20, hv, h⟩ := gV_s h
    refine gs_gfR cd_21_63 (by decide) ht hv ?_
    obtain ⟨ht, h⟩ := gO_s h
    obtain ⟨q_24, w_21, I_22, J_23, hcl, h⟩ := cA_s h
    refine gs_call (as := [.ref q_19, .ref q_20]) (rest := [.ref l0]) cd_21_66 rfl (by decide) rfl (sm_rv_ok (by decide) ht) (Nat.le_of_ble_eq_true rfl) (Nat.le_of_ble_eq_true rfl) rfl hcl ?_
    obtain ⟨ht, h⟩ := gO_s h
    refine gs_pfR cd_21_69 (by decide) ht ?_
    obtain ⟨w_25, hx, h⟩ := lt_s_ h
    rw [hx]
    refine gs_0 (pc' := 73) (L' := [some (.ref l0)]) (st' := [.ref l0]) cd_21_72 rfl rfl ?_
    refine gs_0 (pc' := 74) (L' := [some (.ref l0)]) (st' := [.int 0, .ref l0]) cd_21_73 rfl rfl ?_
    obtain ⟨ht, h⟩ := gO_s h
    refine gs_pfI cd_21_74 (by decide) (Or.inr ⟨rfl, Or.inl rfl⟩) ht ?_
    obtain ⟨I_26, hx, h⟩ := lt_s_ h
    rw [hx]
    refine gs_0 (pc' := 78) (L' := [some (.ref l0)]) (st' := [.ref l0]) cd_21_77 rfl rfl ?_
    obtain ⟨ht, h⟩ := gO_s h
    obtain ⟨q_27, hv, h⟩ := gV_s h
    refine gs_gfR cd_21_78 (by decide) ht hv ?_
    obtain ⟨ht, h⟩ := gO_s h
    refine gs_gfI cd_21_81 (by decide) (by decide) ht ?_
    refine gs_0 (pc' := 85) (L' := [some (.ref l0)]) (st' := [.long ((I_26 q_27 6 : Int32).toInt64)]) cd_21_84 rfl rfl ?_
    cases h
    exact gsr cd_21_85 rfl rfl
  · rw [if_neg hc] at h
    refine gs_0 (pc' := 56) (L' := [some (.ref l0)]) (st' := [.long ((-1))]) cd_21_53 rfl rfl ?_
    cases h
    exact gsr cd_21_56 rfl rfl
theorem cl_21 {K : Nat → Value} {k d : Nat} {l0 : Nat} {w : aW} {I : aI} {J : aJ} {R : aR} (h : f_21 K k d l0 w I J = some R) : Cl K (d + 1) 21 [.ref l0] w I J = some R := Cl_of (ok_21 h)
/-! ProvedMachine$Reader.read([II)V -/
theorem gl_22 : gcd.lookup 22 = some gw_22 := rfl
theorem cd_22_0 : sm_cd 22 0 = some (.aload_n 0, 1, 0, 0, 0, 0, 0, 0, 0) := cd_of gl_22 rfl
theorem cd_22_1 : sm_cd 22 1 = some (.getfield 12, 3, 2, 0, 2, 0, 0, 0, 0) := cd_of gl_22 rfl
theorem cd_22_4 : sm_cd 22 4 = some (.aload_n 1, 1, 1, 0, 0, 0, 0, 0, 0) := cd_of gl_22 rfl
theorem cd_22_5 : sm_cd 22 5 = some (.iload_n 2, 1, 2, 0, 0, 0, 0, 0, 0) := cd_of gl_22 rfl
theorem cd_22_6 : sm_cd 22 6 = some (.invokevirtual 81, 3, 23, 0, 2, 7, 4, 0, 0) := cd_of gl_22 rfl
theorem cd_22_9 : sm_cd 22 9 = some (.aload_n 0, 1, 0, 0, 0, 0, 0, 0, 0) := cd_of gl_22 rfl
theorem cd_22_10 : sm_cd 22 10 = some (.getfield 21, 3, 2, 1, 2, 0, 0, 0, 0) := cd_of gl_22 rfl
theorem cd_22_13 : sm_cd 22 13 = some (.invokevirtual 85, 3, 35, 0, 0, 1, 1, 0, 0) := cd_of gl_22 rfl
theorem cd_22_16 : sm_cd 22 16 = some (.aload_n 0, 1, 0, 0, 0, 0, 0, 0, 0) := cd_of gl_22 rfl
theorem cd_22_17 : sm_cd 22 17 = some (.iconst (-1), 1, 0, 0, 0, 0, 0, (-1), 0) := cd_of gl_22 rfl
theorem cd_22_18 : sm_cd 22 18 = some (.putfield 39, 3, 2, 6, 0, 0, 0, 0, 0) := cd_of gl_22 rfl
theorem cd_22_21 : sm_cd 22 21 = some (.aload_n 0, 1, 0, 0, 0, 0, 0, 0, 0) := cd_of gl_22 rfl
theorem cd_22_22 : sm_cd 22 22 = some (.iconst (-1), 1, 0, 0, 0, 0, 0, (-1), 0) := cd_of gl_22 rfl
theorem cd_22_23 : sm_cd 22 23 = some (.putfield 42, 3, 2, 7, 0, 0, 0, 0, 0) := cd_of gl_22 rfl
theorem cd_22_26 : sm_cd 22 26 = some (.aload_n 0, 1, 0, 0, 0, 0, 0, 0, 0) := cd_of gl_22 rfl
theorem cd_22_27 : sm_cd 22 27 = some (.getfield 32, 3, 2, 4, 2, 0, 0, 0, 0) := cd_of gl_22 rfl
theorem cd_22_30 : sm_cd 22 30 = some (.iconst (-1), 1, 0, 0, 0, 0, 0, (-1), 0) := cd_of gl_22 rfl
theorem cd_22_31 : sm_cd 22 31 = some (.invokestatic 88, 3, 36, 1, 2, 4, 10, 0, 0) := cd_of gl_22 rfl
theorem cd_22_34 : sm_cd 22 34 = some (.iconst 0, 1, 0, 0, 0, 0, 0, 0, 0) := cd_of gl_22 rfl
theorem cd_22_35 : sm_cd 22 35 = some (.istore_n 3, 1, 3, 0, 0, 0, 0, 0, 0) := cd_of gl_22 rfl
theorem cd_22_36 : sm_cd 22 36 = some (.iload_n 3, 1, 3, 0, 0, 0, 0, 0, 0) := cd_of gl_22 rfl
theorem cd_22_37 : sm_cd 22 37 = some (.iconst 5, 1, 0, 0, 0, 0, 0, 5, 0) := cd_of gl_22 rfl
theorem cd_22_38 : sm_cd 22 38 = some (.if_icmp .ge 43, 3, 81, 0, 0, 0, 0, 0, 0) := cd_of gl_22 rfl
theorem cd_22_41 : sm_cd 22 41 = some (.iload_n 3, 1, 3, 0, 0, 0, 0, 0, 0) := cd_of gl_22 rfl
theorem cd_22_42 : sm_cd 22 42 = some (.ifCond .eq 16, 3, 58, 0, 0, 0, 0, 0, 0) := cd_of gl_22 rfl
theorem cd_22_45 : sm_cd 22 45 = some (.aload_n 0, 1, 0, 0, 0, 0, 0, 0, 0) := cd_of gl_22 rfl
theorem cd_22_46 : sm_cd 22 46 = some (.getfield 12, 3, 2, 0, 2, 0, 0, 0, 0) := cd_of gl_22 rfl
theorem cd_22_49 : sm_cd 22 49 = some (.invokevirtual 93, 3, 37, 0, 0, 1, 4, 0, 0) := cd_of gl_22 rfl
theorem cd_22_52 : sm_cd 22 52 = some (.sipush 256, 3, 0, 0, 0, 0, 0, 256, 0) := cd_of gl_22 rfl
theorem cd_22_55 : sm_cd 22 55 = some (.if_icmp .ne 26, 3, 81, 0, 0, 0, 0, 0, 0) := cd_of gl_22 rfl
theorem cd_22_58 : sm_cd 22 58 = some (.aload_n 0, 1, 0, 0, 0, 0, 0, 0, 0) := cd_of gl_22 rfl
theorem cd_22_59 : sm_cd 22 59 = some (.iload_n 3, 1, 3, 0, 0, 0, 0, 0, 0) := cd_of gl_22 rfl
theorem cd_22_60 : sm_cd 22 60 = some (.invokevirtual 96, 3, 38, 0, 1, 2, 2, 0, 0) := cd_of gl_22 rfl
theorem cd_22_63 : sm_cd 22 63 = some (.aload_n 0, 1, 0, 0, 0, 0, 0, 0, 0) := cd_of gl_22 rfl
theorem cd_22_64 : sm_cd 22 64 = some (.invokevirtual 100, 3, 40, 0, 0, 5, 2, 0, 0) := cd_of gl_22 rfl
theorem cd_22_67 : sm_cd 22 67 = some (.aload_n 0, 1, 0, 0, 0, 0, 0, 0, 0) := cd_of gl_22 rfl
theorem cd_22_68 : sm_cd 22 68 = some (.invokevirtual 103, 3, 55, 0, 0, 2, 2, 0, 0) := cd_of gl_22 rfl
theorem cd_22_71 : sm_cd 22 71 = some (.aload_n 0, 1, 0, 0, 0, 0, 0, 0, 0) := cd_of gl_22 rfl
theorem cd_22_72 : sm_cd 22 72 = some (.invokevirtual 106, 3, 77, 0, 0, 2, 2, 0, 0) := cd_of gl_22 rfl
theorem cd_22_75 : sm_cd 22 75 = some (.iinc 3 1, 3, 3, 0, 0, 0, 0, 1, 0) := cd_of gl_22 rfl
theorem cd_22_78 : sm_cd 22 78 = some (.goto (-42), 3, 36, 0, 0, 0, 0, 0, 0) := cd_of gl_22 rfl
theorem cd_22_81 : sm_cd 22 81 = some (.aload_n 0, 1, 0, 0, 0, 0, 0, 0, 0) := cd_of gl_22 rfl
theorem cd_22_82 : sm_cd 22 82 = some (.getfield 21, 3, 2, 1, 2, 0, 0, 0, 0) := cd_of gl_22 rfl
theorem cd_22_85 : sm_cd 22 85 = some (.aload_n 0, 1, 0, 0, 0, 0, 0, 0, 0) := cd_of gl_22 rfl
theorem cd_22_86 : sm_cd 22 86 = some (.getfield 25, 3, 2, 2, 0, 0, 0, 0, 0) := cd_of gl_22 rfl
theorem cd_22_89 : sm_cd 22 89 = some (.iconst 1, 1, 0, 0, 0, 0, 0, 1, 0) := cd_of gl_22 rfl
theorem cd_22_90 : sm_cd 22 90 = some (.invokevirtual 109, 3, 52, 0, 2, 4, 1, 0, 0) := cd_of gl_22 rfl
theorem cd_22_93 : sm_cd 22 93 = some (.ifCond .le 11, 3, 104, 0, 0, 0, 0, 0, 0) := cd_of gl_22 rfl
theorem cd_22_96 : sm_cd 22 96 = some (.aload_n 0, 1, 0, 0, 0, 0, 0, 0, 0) := cd_of gl_22 rfl
theorem cd_22_97 : sm_cd 22 97 = some (.aload_n 0, 1, 0, 0, 0, 0, 0, 0, 0) := cd_of gl_22 rfl
theorem cd_22_98 : sm_cd 22 98 = some (.getfield 29, 3, 2, 3, 0, 0, 0, 0, 0) := cd_of gl_22 rfl
theorem cd_22_101 : sm_cd 22 101 = some (.invokevirtual 113, 3, 48, 0, 1, 2, 2, 0, 0) := cd_of gl_22 rfl
theorem cd_22_104 : sm_cd 22 104 = some (.aload_n 0, 1, 0, 0, 0, 0, 0, 0, 0) := cd_of gl_22 rfl
theorem cd_22_105 : sm_cd 22 105 = some (.getfield 12, 3, 2, 0, 2, 0, 0, 0, 0) := cd_of gl_22 rfl
theorem cd_22_108 : sm_cd 22 108 = some (.iconst 0, 1, 0, 0, 0, 0, 0, 0, 0) := cd_of gl_22 rfl
theorem cd_22_109 : sm_cd 22 109 = some (.invokevirtual 116, 3, 41, 0, 1, 2, 4, 0, 0) := cd_of gl_22 rfl
theorem cd_22_112 : sm_cd 22 112 = some (.aload_n 0, 1, 0, 0, 0, 0, 0, 0, 0) := cd_of gl_22 rfl
theorem cd_22_113 : sm_cd 22 113 = some (.getfield 21, 3, 2, 1, 2, 0, 0, 0, 0) := cd_of gl_22 rfl
theorem cd_22_116 : sm_cd 22 116 = some (.invokevirtual 119, 3, 78, 0, 0, 3, 1, 0, 0) := cd_of gl_22 rfl
theorem cd_22_119 : sm_cd 22 119 = some (.return_, 1, 0, 0, 0, 0, 0, 0, 0) := cd_of gl_22 rfl
noncomputable def f_22_104 (K : Nat → Value) (k d : Nat) (l0 : Nat) (l1 : Nat) (l2 : Int32) (l3 : Int32) (w : aW) (I : aI) (J : aJ) : Option aR :=
  gO w 2 l0 (
  gV w l0 0 fun q_1 =>
  gO w 4 q_1 (
  cV (Cl K d 41 [.ref q_1, .int 0] w I J) fun w_2 I_3 J_4 =>
  gO w_2 2 l0 (
  gV w_2 l0 1 fun q_5 =>
  gO w_2 1 q_5 (
  cV (Cl K d 78 [.ref q_5] w_2 I_3 J_4) fun w_6 I_7 J_8 =>
  some (none, w_6, I_7, J_8)))))
theorem ok_22_104 {K : Nat → Value} {k d : Nat} {l0 : Nat} {l1 : Nat} {l2 : Int32} {l3 : Int32} {w : aW} {I : aI} {J : aJ} {R : aR} (h : f_22_104 K k d l0 l1 l2 l3 w I J = some R) : Go K (d + 1) 22 104 [some (.ref l0), some (.ref l1), some (.int l2), some (.int l3)] [] w I J R := by
  unfold f_22_104 at h
  refine gs_0 (pc' := 105) (L' := [some (.ref l0), some (.ref l1), some (.int l2), some (.int l3)]) (st' := [.ref l0]) cd_22_104 rfl rfl ?_
  obtain ⟨ht, h⟩ := gO_s h
  obtain ⟨q_1, hv, h⟩ := gV_s h
  refine gs_gfR cd_22_105 (by decide) ht hv ?_
  refine gs_0 (pc' := 109) (L' := [some (.ref l0), some (.ref l1), some (.int l2), some (.int l3)]) (st' := [.int 0, .ref q_1]) cd_22_108 rfl rfl ?_
  obtain ⟨ht, h⟩ := gO_s h
  obtain ⟨w_2, I_3, J_4, hcl, h⟩ := cV_s h
  refine gs_call (as := [.ref q_1, .int 0]) (rest := []) cd_22_109 rfl (by decide) rfl (sm_rv_ok (by decide) ht) (Nat.le_of_ble_eq_true rfl) (Nat.le_of_ble_eq_true rfl) rfl hcl ?_
  refine gs_0 (pc' := 113) (L' := [some (.ref l0), some (.ref l1), some (.int l2), some (.int l3)]) (st' := [.ref l0]) cd_22_112 rfl rfl ?_
  obtain ⟨ht, h⟩ := gO_s h
  obtain ⟨q_5, hv, h⟩ := gV_s h
  refine gs_gfR cd_22_113 (by decide) ht hv ?_
  obtain ⟨ht, h⟩ := gO_s h
  obtain ⟨w_6, I_7, J_8, hcl, h⟩ := cV_s h
  refine gs_call (as := [.ref q_5]) (rest := []) cd_22_116 rfl (by decide) rfl (sm_rv_ok (by decide) ht) (Nat.le_of_ble_eq_true rfl) (Nat.le_of_ble_eq_true rfl) rfl hcl ?_
  cases h
  exact gsr cd_22_119 rfl rfl
noncomputable def f_22_81 (K : Nat → Value) (k d : Nat) (l0 : Nat) (l1 : Nat) (l2 : Int32) (l3 : Int32) (w : aW) (I : aI) (J : aJ) : Option aR :=
  gO w 2 l0 (
  gV w l0 1 fun q_1 =>
  gO w 2 l0 (
  gO w 1 q_1 (
  cI (Cl K d 52 [.ref q_1, .int (I l0 2), .int 1] w I J) fun x_5 w_2 I_3 J_4 =>
  if x_5 ≤ 0 then
    f_22_104 K k d l0 l1 l2 l3 w_2 I_3 J_4
  else
    gO w_2 2 l0 (
    gO w_2 2 l0 (
    cV (Cl K d 48 [.ref l0, .int (I_3 l0 3)] w_2 I_3 J_4) fun w_6 I_7 J_8 =>
    f_22_104 K k d l0 l1 l2 l3 w_6 I_7 J_8)))))
theorem ok_22_81 {K : Nat → Value} {k d : Nat} {l0 : Nat} {l1 : Nat} {l2 : Int32} {l3 : Int32} {w : aW} {I : aI} {J : aJ} {R : aR} (h : f_22_81 K k d l0 l1 l2 l3 w I J = some R) : Go K (d + 1) 22 81 [some (.ref l0), some (.ref l1), some (.int l2), some (.int l3)] [] w I J R := by
  unfold f_22_81 at h
  refine gs_0 (pc' := 82) (L' := [some (.ref l0), some (.ref l1), some (.int l2), some (.int l3)]) (st' := [.ref l0]) cd_22_81 rfl rfl ?_
  obtain ⟨ht, h⟩ := gO_s h
  obtain ⟨q_1, hv, h⟩ := gV_s h
  refine gs_gfR cd_22_82 (by decide) ht hv ?_
  refine gs_0 (pc' := 86) (L' := [some (.ref l0), some (.ref l1), some (.int l2), some (.int l3)]) (st' := [.ref l0, .ref q_1]) cd_22_85 rfl rfl ?_
  obtain ⟨ht, h⟩ := gO_s h
  refine gs_gfI cd_22_86 (by decide) (by decide) ht ?_
  refine gs_0 (pc' := 90) (L' := [some (.ref l0), some (.ref l1), some (.int l2), some (.int l3)]) (st' := [.int 1, .int (I l0 2), .ref q_1]) cd_22_89 rfl rfl ?_
  obtain ⟨ht, h⟩ := gO_s h
  obtain ⟨x_5, w_2, I_3, J_4, hcl, h⟩ := cI_s h
  refine gs_call (as := [.ref q_1, .int (I l0 2), .int 1]) (rest := []) cd_22_90 rfl (by decide) rfl (sm_rv_ok (by decide) ht) (Nat.le_of_ble_eq_true rfl) (Nat.le_of_ble_eq_true rfl) rfl hcl ?_
  refine gs_0 (pc' := if x_5 ≤ 0 then 104 else 96) (L' := [some (.ref l0), some (.ref l1), some (.int l2), some (.int l3)]) (st' := []) cd_22_93 rfl rfl ?_
  refine go_ite (fun hc => ?_) (fun hc => ?_)
  · rw [if_pos hc] at h
    exact ok_22_104 h
  · rw [if_neg hc] at h
    refine gs_0 (pc' := 97) (L' := [some (.ref l0), some (.ref l1), some (.int l2), some (.int l3)]) (st' := [.ref l0]) cd_22_96 rfl rfl ?_
    refine gs_0 (pc' := 98) (L' := [some (.ref l0), some (.ref l1), some (.int l2), some (.int l3)]) (st' := [.ref l0, .ref l0]) cd_22_97 rfl rfl ?_
    obtain ⟨ht, h⟩ := gO_s h
    refine gs_gfI cd_22_98 (by decide) (by decide) ht ?_
    obtain ⟨ht, h⟩ := gO_s h
    obtain ⟨w_6, I_7, J_8, hcl, h⟩ := cV_s h
    refine gs_call (as := [.ref l0, .int (I_3 l0 3)]) (rest := []) cd_22_101 rfl (by decide) rfl (sm_rv_ok (by decide) ht) (Nat.le_of_ble_eq_true rfl) (Nat.le_of_ble_eq_true rfl) rfl hcl ?_
    exact ok_22_104 h
noncomputable def f_22_58 (K : Nat → Value) (k d : Nat) (r36 : Nat → Nat → Int32 → Int32 → aW → aI → aJ → Option aR) (l0 : Nat) (l1 : Nat) (l2 : Int32) (l3 : Int32) (w : aW) (I : aI) (J : aJ) : Option aR :=
  gO w 2 l0 (
  cV (Cl K d 38 [.ref l0, .int l3] w I J) fun w_1 I_2 J_3 =>
  gO w_1 2 l0 (
  cV (Cl K d 40 [.ref l0] w_1 I_2 J_3) fun w_4 I_5 J_6 =>
  gO w_4 2 l0 (
  cV (Cl K d 55 [.ref l0] w_4 I_5 J_6) fun w_7 I_8 J_9 =>
  gO w_7 2 l0 (
  cV (Cl K d 77 [.ref l0] w_7 I_8 J_9) fun w_10 I_11 J_12 =>
  lt_ (l3 + 1) fun x_13 =>
  r36 l0 l1 l2 x_13 w_10 I_11 J_12))))
theorem ok_22_58 {K : Nat → Value} {k d : Nat} {r36 : Nat → Nat → Int32 → Int32 → aW → aI → aJ → Option aR} (hr36 : ∀ (l0 : Nat) (l1 : Nat) (l2 : Int32) (l3 : Int32) (w : aW) (I : aI) (J : aJ) (R : aR), r36 l0 l1 l2 l3 w I J = some R → Go K (d + 1) 22 36 [some (.ref l0), some (.ref l1), some (.int l2), some (.int l3)] [] w I J R) {l0 : Nat} {l1 : Nat} {l2 : Int32} {l3 : Int32} {w : aW} {I : aI} {J : aJ} {R : aR} (h : f_22_58 K k d r36 l0 l1 l2 l3 w I J = some R) : Go K (d + 1) 22 58 [some (.ref l0), some (.ref l1), some (.int l2), some (.int l3)] [] w I J R := by
  unfold f_22_58 at h
  refine gs_0 (pc' := 59) (L' := [some (.ref l0), some (.ref l1), some (.int l2), some (.int l3)]) (st' := [.ref l0]) cd_22_58 rfl rfl ?_
  refine gs_0 (pc' := 60) (L' := [some (.ref l0), some (.ref l1), some (.int l2), some (.int l3)]) (st' := [.int l3, .ref l0]) cd_22_59 rfl rfl ?_
  obtain ⟨ht, h⟩ := gO_s h
  obtain ⟨w_1, I_2, J_3, hcl, h⟩ := cV_s h
  refine gs_call (as := [.ref l0, .int l3]) (rest := []) cd_22_60 rfl (by decide) rfl (sm_rv_ok (by decide) ht) (Nat.le_of_ble_eq_true rfl) (Nat.le_of_ble_eq_true rfl) rfl hcl ?_
  refine gs_0 (pc' := 64) (L' := [some (.ref l0), some (.ref l1), some (.int l2), some (.int l3)]) (st' := [.ref l0]) cd_22_63 rfl rfl ?_
  obtain ⟨ht, h⟩ := gO_s h
  obtain ⟨w_4, I_5, J_6, hcl, h⟩ := cV_s h
  refine gs_call (as := [.ref l0]) (rest := []) cd_22_64 rfl (by decide) rfl (sm_rv_ok (by decide) ht) (Nat.le_of_ble_eq_true rfl) (Nat.le_of_ble_eq_true rfl) rfl hcl ?_
  refine gs_0 (pc' := 68) (L' := [some (.ref l0), some (.ref l1), some (.int l2), some (.int l3)]) (st' := [.ref l0]) cd_22_67 rfl rfl ?_
  obtain ⟨ht, h⟩ := gO_s h
  obtain ⟨w_7, I_8, J_9, hcl, h⟩ := cV_s h
  refine gs_call (as := [.ref l0]) (rest := []) cd_22_68 rfl (by decide) rfl (sm_rv_ok (by decide) ht) (Nat.le_of_ble_eq_true rfl) (Nat.le_of_ble_eq_true rfl) rfl hcl ?_
  refine gs_0 (pc' := 72) (L' := [some (.ref l0), some (.ref l1), some (.int l2), some (.int l3)]) (st' := [.ref l0]) cd_22_71 rfl rfl ?_
  obtain ⟨ht, h⟩ := gO_s h
  obtain ⟨w_10, I_11, J_12, hcl, h⟩ := cV_s h
  refine gs_call (as := [.ref l0]) (rest := []) cd_22_72 rfl (by decide) rfl (sm_rv_ok (by decide) ht) (Nat.le_of_ble_eq_true rfl) (Nat.le_of_ble_eq_true rfl) rfl hcl ?_
  refine gs_0 (pc' := 78) (L' := [some (.ref l0), some (.ref l1), some (.int l2), some (.int (l3 + 1))]) (st' := []) cd_22_75 rfl rfl ?_
  obtain ⟨x_13, hx, h⟩ := lt_s_ h
  rw [hx]
  clear hx
  refine gs_0 (pc' := 36) (L' := [some (.ref l0), some (.ref l1), some (.int l2), some (.int x_13)]) (st' := []) cd_22_78 rfl rfl ?_
  exact hr36 l0 l1 l2 x_13 _ _ _ _ h
noncomputable def f_22_36 (K : Nat → Value) (k : Nat) (d : Nat) : Nat → Nat → Int32 → Int32 → aW → aI → aJ → Option aR :=
  match k with
  | 0 => fun _ _ _ _ _ _ _ => none
  | k + 1 => fun l0 l1 l2 l3 w I J =>
  lt_ (f_22_36 K k d) fun r36 =>
  if 5 ≤ l3 then
    f_22_81 K k d l0 l1 l2 l3 w I J
  else
    if l3 = 0 then
      f_22_58 K k d r36 l0 l1 l2 l3 w I J
    else
      gO w 2 l0 (
      gV w l0 0 fun q_1 =>
      gO w 4 q_1 (
      cI (Cl K d 37 [.ref q_1] w I J) fun x_5 w_2 I_3 J_4 =>
      if ¬ x_5 = 256 then
        f_22_81 K k d l0 l1 l2 l3 w_2 I_3 J_4
      else
        f_22_58 K k d r36 l0 l1 l2 l3 w_2 I_3 J_4))
theorem ok_22_36 {K : Nat → Value} {d : Nat} : ∀ {k : Nat} {l0 : Nat} {l1 : Nat} {l2 : Int32} {l3 : Int32} {w : aW} {I : aI} {J : aJ} {R : aR}, f_22_36 K k d l0 l1 l2 l3 w I J = some R → Go K (d + 1) 22 36 [some (.ref l0), some (.ref l1), some (.int l2), some (.int l3)] [] w I J R := by
  intro k
  induction k with
  | zero => intro l0 l1 l2 l3 w I J R h; cases h
  | succ k ih =>
    intro l0 l1 l2 l3 w I J R h
    have hr36 : ∀ (l0 : Nat) (l1 : Nat) (l2 : Int32) (l3 : Int32) (w : aW) (I : aI) (J : aJ) (R : aR), f_22_36 K k d l0 l1 l2 l3 w I J = some R → Go K (d + 1) 22 36 [some (.ref l0), some (.ref l1), some (.int l2), some (.int l3)] [] w I J R := fun l0 l1 l2 l3 w I J R h => ih h
    rw [f_22_36] at h
    obtain ⟨r36, hx, h⟩ := lt_s_ h
    rw [hx] at hr36
    clear hx ih
    refine gs_0 (pc' := 37) (L' := [some (.ref l0), some (.ref l1), some (.int l2), some (.int l3)]) (st' := [.int l3]) cd_22_36 rfl rfl ?_
    refine gs_0 (pc' := 38) (L' := [some (.ref l0), some (.ref l1), some (.int l2), some (.int l3)]) (st' := [.int 5, .int l3]) cd_22_37 rfl rfl ?_
    refine gs_0 (pc' := if 5 ≤ l3 then 81 else 41) (L' := [some (.ref l0), some (.ref l1), some (.int l2), some (.int l3)]) (st' := []) cd_22_38 rfl rfl ?_
    refine go_ite (fun hc => ?_) (fun hc => ?_)
    · rw [if_pos hc] at h
      exact ok_22_81 h
    · rw [if_neg hc] at h
      refine gs_0 (pc' := 42) (L' := [some (.ref l0), some (.ref l1), some (.int l2), some (.int l3)]) (st' := [.int l3]) cd_22_41 rfl rfl ?_
      refine gs_0 (pc' := if l3 = 0 then 58 else 45) (L' := [some (.ref l0), some (.ref l1), some (.int l2), some (.int l3)]) (st' := []) cd_22_42 rfl rfl ?_
      refine go_ite (fun hc => ?_) (fun hc => ?_)
      · rw [if_pos hc] at h
        exact ok_22_58 hr36 h
      · rw [if_neg hc] at h
        refine gs_0 (pc' := 46) (L' := [some (.ref l0), some (.ref l1), some (.int l2), some (.int l3)]) (st' := [.ref l0]) cd_22_45 rfl rfl ?_
        obtain ⟨ht, h⟩ := gO_s h
        obtain ⟨q_1, hv, h⟩ := gV_s h
        refine gs_gfR cd_22_46 (by decide) ht hv ?_
        obtain ⟨ht, h⟩ := gO_s h
        obtain ⟨x_5, w_2, I_3, J_4, hcl, h⟩ := cI_s h
        refine gs_call (as := [.ref q_1]) (rest := []) cd_22_49 rfl (by decide) rfl (sm_rv_ok (by decide) ht) (Nat.le_of_ble_eq_true rfl) (Nat.le_of_ble_eq_true rfl) rfl hcl ?_
        refine gs_0 (pc' := 55) (L' := [some (.ref l0), some (.ref l1), some (.int l2), some (.int l3)]) (st' := [.int 256, .int x_5]) cd_22_52 rfl rfl ?_
        refine gs_0 (pc' := if ¬ x_5 = 256 then 81 else 58) (L' := [some (.ref l0), some (.ref l1), some (.int l2), some (.int l3)]) (st' := []) cd_22_55 rfl rfl ?_
        refine go_ite (fun hc => ?_) (fun hc => ?_)
        · rw [if_pos hc] at h
          exact ok_22_81 h
        · rw [if_neg hc] at h
          exact ok_22_58 hr36 h
noncomputable def f_22 (K : Nat → Value) (k d : Nat) (l0 : Nat) (l1 : Nat) (l2 : Int32) (w : aW) (I : aI) (J : aJ) : Option aR :=
  gO w 2 l0 (
  gV w l0 0 fun q_1 =>
  gO w 4 q_1 (
  cV (Cl K d 23 [.ref q_1, .ref l1, .int l2] w I J) fun w_2 I_3 J_4 =>
  gO w_2 2 l0 (
  gV w_2 l0 1 fun q_5 =>
  gO w_2 1 q_5 (
  cV (Cl K d 35 [.ref q_5] w_2 I_3 J_4) fun w_6 I_7 J_8 =>
  gO w_6 2 l0 (
  lt_ (sm_up2 I_7 l0 6 (-1)) fun I_9 =>
  gO w_6 2 l0 (
  lt_ (sm_up2 I_9 l0 7 (-1)) fun I_10 =>
  gO w_6 2 l0 (
  gV w_6 l0 4 fun q_11 =>
  cV (Cl K d 36 [.ref q_11, .int ((-1))] w_6 I_10 J_8) fun w_12 I_13 J_14 =>
  f_22_36 K k d l0 l1 l2 0 w_12 I_13 J_14)))))))
theorem ok_22 {K : Nat → Value} {k d : Nat} {l0 : Nat} {l1 : Nat} {l2 : Int32} {w : aW} {I : aI} {J : aJ} {R : aR} (h : f_22 K k d l0 l1 l2 w I J = some R) : Go K (d + 1) 22 0 [some (.ref l0), some (.ref l1), some (.int l2), none] [] w I J R := by
  unfold f_22 at h
  refine gs_0 (pc' := 1) (L' := [some (.ref l0), some (.ref l1), some (.int l2), none]) (st' := [.ref l0]) cd_22_0 rfl rfl ?_
  obtain ⟨ht, h⟩ := gO_s h
  obtain ⟨q_1, hv, h⟩ := gV_s h
  refine gs_gfR cd_22_1 (by decide) ht hv ?_
  refine gs_0 (pc' := 5) (L' := [some (.ref l0), some (.ref l1), some (.int l2), none]) (st' := [.ref l1, .ref q_1]) cd_22_4 rfl rfl ?_
  refine gs_0 (pc' := 6) (L' := [some (.ref l0), some (.ref l1), some (.int l2), none]) (st' := [.int l2, .ref l1, .ref q_1]) cd_22_5 rfl rfl ?_
  obtain ⟨ht, h⟩ := gO_s h
  obtain ⟨w_2, I_3, J_4, hcl, h⟩ := cV_s h
  refine gs_call (as := [.ref q_1, .ref l1, .int l2]) (rest := []) cd_22_6 rfl (by decide) rfl (sm_rv_ok (by decide) ht) (Nat.le_of_ble_eq_true rfl) (Nat.le_of_ble_eq_true rfl) rfl hcl ?_
  refine gs_0 (pc' := 10) (L' := [some (.ref l0), some (.ref l1), some (.int l2), none]) (st' := [.ref l0]) cd_22_9 rfl rfl ?_
  obtain ⟨ht, h⟩ := gO_s h
  obtain ⟨q_5, hv, h⟩ := gV_s h
  refine gs_gfR cd_22_10 (by decide) ht hv ?_
  obtain ⟨ht, h⟩ := gO_s h
  obtain ⟨w_6, I_7, J_8, hcl, h⟩ := cV_s h
  refine gs_call (as := [.ref q_5]) (rest := []) cd_22_13 rfl (by decide) rfl (sm_rv_ok (by decide) ht) (Nat.le_of_ble_eq_true rfl) (Nat.le_of_ble_eq_true rfl) rfl hcl ?_
  refine gs_0 (pc' := 17) (L' := [some (.ref l0), some (.ref l1), some (.int l2), none]) (st' := [.ref l0]) cd_22_16 rfl rfl ?_
  refine gs_0 (pc' := 18) (L' := [some (.ref l0), some (.ref l1), some (.int l2), none]) (st' := [.int ((-1)), .ref l0]) cd_22_17 rfl rfl ?_
  obtain ⟨ht, h⟩ := gO_s h
  refine gs_pfI cd_22_18 (by decide) (Or.inl rfl) ht ?_
  obtain ⟨I_9, hx, h⟩ := lt_s_ h
  rw [hx]
  refine gs_0 (pc' := 22) (L' := [some (.ref l0), some (.ref l1), some (.int l2), none]) (st' := [.ref l0]) cd_22_21 rfl rfl ?_
  refine gs_0 (pc' := 23) (L' := [some (.ref l0), some (.ref l1), some (.int l2), none]) (st' := [.int ((-1)), .ref l0]) cd_22_22 rfl rfl ?_
  obtain ⟨ht, h⟩ := gO_s h
  refine gs_pfI cd_22_23 (by decide) (Or.inl rfl) ht ?_
  obtain ⟨I_10, hx, h⟩ := lt_s_ h
  rw [hx]
  refine gs_0 (pc' := 27) (L' := [some (.ref l0), some (.ref l1), some (.int l2), none]) (st' := [.ref l0]) cd_22_26 rfl rfl ?_
  obtain ⟨ht, h⟩ := gO_s h
  obtain ⟨q_11, hv, h⟩ := gV_s h
  refine gs_gfR cd_22_27 (by decide) ht hv ?_
  refine gs_0 (pc' := 31) (L' := [some (.ref l0), some (.ref l1), some (.int l2), none]) (st' := [.int ((-1)), .ref q_11]) cd_22_30 rfl rfl ?_
  obtain ⟨w_12, I_13, J_14, hcl, h⟩ := cV_s h
  refine gs_call (as := [.ref q_11, .int ((-1))]) (rest := []) cd_22_31 rfl (by decide) rfl rfl (Nat.le_of_ble_eq_true rfl) (Nat.le_of_ble_eq_true rfl) rfl hcl ?_
  refine gs_0 (pc' := 35) (L' := [some (.ref l0), some (.ref l1), some (.int l2), none]) (st' := [.int 0]) cd_22_34 rfl rfl ?_
  refine gs_0 (pc' := 36) (L' := [some (.ref l0), some (.ref l1), some (.int l2), some (.int 0)]) (st' := []) cd_22_35 rfl rfl ?_
  exact ok_22_36 h
theorem cl_22 {K : Nat → Value} {k d : Nat} {l0 : Nat} {l1 : Nat} {l2 : Int32} {w : aW} {I : aI} {J : aJ} {R : aR} (h : f_22 K k d l0 l1 l2 w I J = some R) : Cl K (d + 1) 22 [.ref l0, .ref l1, .int l2] w I J = some R := Cl_of (ok_22 h)
/-! ProvedMachine$Tokens.scan([II)V -/
theorem gl_23 : gcd.lookup 23 = some gw_23 := rfl
theorem cd_23_0 : sm_cd 23 0 = some (.aload_n 0, 1, 0, 0, 0, 0, 0, 0, 0) := cd_of gl_23 rfl
theorem cd_23_1 : sm_cd 23 1 = some (.iconst 0, 1, 0, 0, 0, 0, 0, 0, 0) := cd_of gl_23 rfl
theorem cd_23_2 : sm_cd 23 2 = some (.putfield 24, 3, 4, 4, 0, 0, 0, 0, 0) := cd_of gl_23 rfl
theorem cd_23_5 : sm_cd 23 5 = some (.aload_n 0, 1, 0, 0, 0, 0, 0, 0, 0) := cd_of gl_23 rfl
theorem cd_23_6 : sm_cd 23 6 = some (.iconst 0, 1, 0, 0, 0, 0, 0, 0, 0) := cd_of gl_23 rfl
theorem cd_23_7 : sm_cd 23 7 = some (.putfield 28, 3, 4, 5, 0, 0, 0, 0, 0) := cd_of gl_23 rfl
theorem cd_23_10 : sm_cd 23 10 = some (.aload_n 0, 1, 0, 0, 0, 0, 0, 0, 0) := cd_of gl_23 rfl
theorem cd_23_11 : sm_cd 23 11 = some (.iconst 0, 1, 0, 0, 0, 0, 0, 0, 0) := cd_of gl_23 rfl
theorem cd_23_12 : sm_cd 23 12 = some (.putfield 31, 3, 4, 6, 1, 0, 0, 0, 0) := cd_of gl_23 rfl
theorem cd_23_15 : sm_cd 23 15 = some (.iload_n 2, 1, 2, 0, 0, 0, 0, 0, 0) := cd_of gl_23 rfl
theorem cd_23_16 : sm_cd 23 16 = some (.aload_n 1, 1, 1, 0, 0, 0, 0, 0, 0) := cd_of gl_23 rfl
theorem cd_23_17 : sm_cd 23 17 = some (.arraylength, 1, 0, 0, 0, 0, 0, 0, 0) := cd_of gl_23 rfl
theorem cd_23_18 : sm_cd 23 18 = some (.sipush 240, 3, 0, 0, 0, 0, 0, 240, 0) := cd_of gl_23 rfl
theorem cd_23_21 : sm_cd 23 21 = some (.invokestatic 51, 3, 0, 6, 0, 0, 0, 0, 0) := cd_of gl_23 rfl
theorem cd_23_24 : sm_cd 23 24 = some (.invokestatic 51, 3, 0, 6, 0, 0, 0, 0, 0) := cd_of gl_23 rfl
theorem cd_23_27 : sm_cd 23 27 = some (.istore_n 3, 1, 3, 0, 0, 0, 0, 0, 0) := cd_of gl_23 rfl
theorem cd_23_28 : sm_cd 23 28 = some (.iconst 0, 1, 0, 0, 0, 0, 0, 0, 0) := cd_of gl_23 rfl
theorem cd_23_29 : sm_cd 23 29 = some (.istore 4, 2, 4, 0, 0, 0, 0, 0, 0) := cd_of gl_23 rfl
theorem cd_23_31 : sm_cd 23 31 = some (.iconst 0, 1, 0, 0, 0, 0, 0, 0, 0) := cd_of gl_23 rfl
theorem cd_23_32 : sm_cd 23 32 = some (.istore 5, 2, 5, 0, 0, 0, 0, 0, 0) := cd_of gl_23 rfl
theorem cd_23_34 : sm_cd 23 34 = some (.iload 5, 2, 5, 0, 0, 0, 0, 0, 0) := cd_of gl_23 rfl
theorem cd_23_36 : sm_cd 23 36 = some (.sipush 240, 3, 0, 0, 0, 0, 0, 240, 0) := cd_of gl_23 rfl
theorem cd_23_39 : sm_cd 23 39 = some (.if_icmp .ge 104, 3, 143, 0, 0, 0, 0, 0, 0) := cd_of gl_23 rfl
theorem cd_23_42 : sm_cd 23 42 = some (.iload 4, 2, 4, 0, 0, 0, 0, 0, 0) := cd_of gl_23 rfl
theorem cd_23_44 : sm_cd 23 44 = some (.iload_n 3, 1, 3, 0, 0, 0, 0, 0, 0) := cd_of gl_23 rfl
theorem cd_23_45 : sm_cd 23 45 = some (.if_icmp .ge 98, 3, 143, 0, 0, 0, 0, 0, 0) := cd_of gl_23 rfl
theorem cd_23_48 : sm_cd 23 48 = some (.aload_n 1, 1, 1, 0, 0, 0, 0, 0, 0) := cd_of gl_23 rfl
theorem cd_23_49 : sm_cd 23 49 = some (.iload 4, 2, 4, 0, 0, 0, 0, 0, 0) := cd_of gl_23 rfl
theorem cd_23_51 : sm_cd 23 51 = some (.iaload, 1, 0, 0, 0, 0, 0, 0, 0) := cd_of gl_23 rfl
theorem cd_23_52 : sm_cd 23 52 = some (.istore 6, 2, 6, 0, 0, 0, 0, 0, 0) := cd_of gl_23 rfl
theorem cd_23_54 : sm_cd 23 54 = some (.iload 6, 2, 6, 0, 0, 0, 0, 0, 0) := cd_of gl_23 rfl
theorem cd_23_56 : sm_cd 23 56 = some (.invokestatic 56, 3, 24, 1, 1, 1, 4, 0, 0) := cd_of gl_23 rfl
theorem cd_23_59 : sm_cd 23 59 = some (.ifCond .eq 16, 3, 75, 0, 0, 0, 0, 0, 0) := cd_of gl_23 rfl
theorem cd_23_62 : sm_cd 23 62 = some (.aload_n 0, 1, 0, 0, 0, 0, 0, 0, 0) := cd_of gl_23 rfl
theorem cd_23_63 : sm_cd 23 63 = some (.aload_n 1, 1, 1, 0, 0, 0, 0, 0, 0) := cd_of gl_23 rfl
theorem cd_23_64 : sm_cd 23 64 = some (.iload 4, 2, 4, 0, 0, 0, 0, 0, 0) := cd_of gl_23 rfl
theorem cd_23_66 : sm_cd 23 66 = some (.iload_n 3, 1, 3, 0, 0, 0, 0, 0, 0) := cd_of gl_23 rfl
theorem cd_23_67 : sm_cd 23 67 = some (.invokevirtual 60, 3, 25, 0, 3, 6, 4, 0, 0) := cd_of gl_23 rfl
theorem cd_23_70 : sm_cd 23 70 = some (.istore 4, 2, 4, 0, 0, 0, 0, 0, 0) := cd_of gl_23 rfl
theorem cd_23_72 : sm_cd 23 72 = some (.goto 65, 3, 137, 0, 0, 0, 0, 0, 0) := cd_of gl_23 rfl
theorem cd_23_75 : sm_cd 23 75 = some (.iload 6, 2, 6, 0, 0, 0, 0, 0, 0) := cd_of gl_23 rfl
theorem cd_23_77 : sm_cd 23 77 = some (.invokestatic 64, 3, 28, 1, 1, 1, 4, 0, 0) := cd_of gl_23 rfl
theorem cd_23_80 : sm_cd 23 80 = some (.ifCond .eq 16, 3, 96, 0, 0, 0, 0, 0, 0) := cd_of gl_23 rfl
theorem cd_23_83 : sm_cd 23 83 = some (.aload_n 0, 1, 0, 0, 0, 0, 0, 0, 0) := cd_of gl_23 rfl
theorem cd_23_84 : sm_cd 23 84 = some (.aload_n 1, 1, 1, 0, 0, 0, 0, 0, 0) := cd_of gl_23 rfl
theorem cd_23_85 : sm_cd 23 85 = some (.iload 4, 2, 4, 0, 0, 0, 0, 0, 0) := cd_of gl_23 rfl
theorem cd_23_87 : sm_cd 23 87 = some (.iload_n 3, 1, 3, 0, 0, 0, 0, 0, 0) := cd_of gl_23 rfl
theorem cd_23_88 : sm_cd 23 88 = some (.invokevirtual 67, 3, 29, 0, 3, 6, 4, 0, 0) := cd_of gl_23 rfl
theorem cd_23_91 : sm_cd 23 91 = some (.istore 4, 2, 4, 0, 0, 0, 0, 0, 0) := cd_of gl_23 rfl
theorem cd_23_93 : sm_cd 23 93 = some (.goto 44, 3, 137, 0, 0, 0, 0, 0, 0) := cd_of gl_23 rfl
theorem cd_23_96 : sm_cd 23 96 = some (.iload 6, 2, 6, 0, 0, 0, 0, 0, 0) := cd_of gl_23 rfl
theorem cd_23_98 : sm_cd 23 98 = some (.bipush 32, 2, 0, 0, 0, 0, 0, 32, 0) := cd_of gl_23 rfl
theorem cd_23_100 : sm_cd 23 100 = some (.if_icmp .eq 34, 3, 134, 0, 0, 0, 0, 0, 0) := cd_of gl_23 rfl
theorem cd_23_103 : sm_cd 23 103 = some (.iload 6, 2, 6, 0, 0, 0, 0, 0, 0) := cd_of gl_23 rfl
theorem cd_23_105 : sm_cd 23 105 = some (.bipush 10, 2, 0, 0, 0, 0, 0, 10, 0) := cd_of gl_23 rfl
theorem cd_23_107 : sm_cd 23 107 = some (.if_icmp .eq 27, 3, 134, 0, 0, 0, 0, 0, 0) := cd_of gl_23 rfl
theorem cd_23_110 : sm_cd 23 110 = some (.aload_n 0, 1, 0, 0, 0, 0, 0, 0, 0) := cd_of gl_23 rfl
theorem cd_23_111 : sm_cd 23 111 = some (.ldc 70, 2, 1, 1, 0, 0, 0, 0, 0) := cd_of gl_23 rfl
theorem cd_23_113 : sm_cd 23 113 = some (.iload 6, 2, 6, 0, 0, 0, 0, 0, 0) := cd_of gl_23 rfl
theorem cd_23_115 : sm_cd 23 115 = some (.i2c, 1, 0, 0, 0, 0, 0, 0, 0) := cd_of gl_23 rfl
theorem cd_23_116 : sm_cd 23 116 = some (.invokevirtual 72, 3, 30, 0, 1, 2, 7, 0, 0) := cd_of gl_23 rfl
theorem cd_23_119 : sm_cd 23 119 = some (.ifCond .lt 8, 3, 127, 0, 0, 0, 0, 0, 0) := cd_of gl_23 rfl
theorem cd_23_122 : sm_cd 23 122 = some (.iload 6, 2, 6, 0, 0, 0, 0, 0, 0) := cd_of gl_23 rfl
theorem cd_23_124 : sm_cd 23 124 = some (.goto 4, 3, 128, 0, 0, 0, 0, 0, 0) := cd_of gl_23 rfl
theorem cd_23_127 : sm_cd 23 127 = some (.iconst 3, 1, 0, 0, 0, 0, 0, 3, 0) := cd_of gl_23 rfl
theorem cd_23_128 : sm_cd 23 128 = some (.iload 4, 2, 4, 0, 0, 0, 0, 0, 0) := cd_of gl_23 rfl
theorem cd_23_130 : sm_cd 23 130 = some (.iconst 0, 1, 0, 0, 0, 0, 0, 0, 0) := cd_of gl_23 rfl
theorem cd_23_131 : sm_cd 23 131 = some (.invokevirtual 76, 3, 26, 0, 3, 4, 4, 0, 0) := cd_of gl_23 rfl
theorem cd_23_134 : sm_cd 23 134 = some (.iinc 4 1, 3, 4, 0, 0, 0, 0, 1, 0) := cd_of gl_23 rfl
theorem cd_23_137 : sm_cd 23 137 = some (.iinc 5 1, 3, 5, 0, 0, 0, 0, 1, 0) := cd_of gl_23 rfl
theorem cd_23_140 : sm_cd 23 140 = some (.goto (-106), 3, 34, 0, 0, 0, 0, 0, 0) := cd_of gl_23 rfl
theorem cd_23_143 : sm_cd 23 143 = some (.aload_n 0, 1, 0, 0, 0, 0, 0, 0, 0) := cd_of gl_23 rfl
theorem cd_23_144 : sm_cd 23 144 = some (.iconst 0, 1, 0, 0, 0, 0, 0, 0, 0) := cd_of gl_23 rfl
theorem cd_23_145 : sm_cd 23 145 = some (.iload_n 3, 1, 3, 0, 0, 0, 0, 0, 0) := cd_of gl_23 rfl
theorem cd_23_146 : sm_cd 23 146 = some (.iconst 0, 1, 0, 0, 0, 0, 0, 0, 0) := cd_of gl_23 rfl
theorem cd_23_147 : sm_cd 23 147 = some (.invokevirtual 76, 3, 26, 0, 3, 4, 4, 0, 0) := cd_of gl_23 rfl
theorem cd_23_150 : sm_cd 23 150 = some (.return_, 1, 0, 0, 0, 0, 0, 0, 0) := cd_of gl_23 rfl
noncomputable def f_23_143 (K : Nat → Value) (k d : Nat) (l0 : Nat) (l1 : Nat) (l2 : Int32) (l3 : Int32) (l4 : Int32) (l5 : Int32) (w : aW) (I : aI) (J : aJ) : Option aR :=
  gO w 4 l0 (
  cV (Cl K d 26 [.ref l0, .int 0, .int l3, .int 0] w I J) fun w_1 I_2 J_3 =>
  some (none, w_1, I_2, J_3))
theorem ok_23_143 {K : Nat → Value} {k d : Nat} {l0 : Nat} {l1 : Nat} {l2 : Int32} {l3 : Int32} {l4 : Int32} {l5 : Int32} {w : aW} {I : aI} {J : aJ} {R : aR} (h : f_23_143 K k d l0 l1 l2 l3 l4 l5 w I J = some R) : Go K (d + 1) 23 143 [some (.ref l0), some (.ref l1), some (.int l2), some (.int l3), some (.int l4), some (.int l5), none] [] w I J R := by
  unfold f_23_143 at h
  refine gs_0 (pc' := 144) (L' := [some (.ref l0), some (.ref l1), some (.int l2), some (.int l3), some (.int l4), some (.int l5), none]) (st' := [.ref l0]) cd_23_143 rfl rfl ?_
  refine gs_0 (pc' := 145) (L' := [some (.ref l0), some (.ref l1), some (.int l2), some (.int l3), some (.int l4), some (.int l5), none]) (st' := [.int 0, .ref l0]) cd_23_144 rfl rfl ?_
  refine gs_0 (pc' := 146) (L' := [some (.ref l0), some (.ref l1), some (.int l2), some (.int l3), some (.int l4), some (.int l5), none]) (st' := [.int l3, .int 0, .ref l0]) cd_23_145 rfl rfl ?_
  refine gs_0 (pc' := 147) (L' := [some (.ref l0), some (.ref l1), some (.int l2), some (.int l3), some (.int l4), some (.int l5), none]) (st' := [.int 0, .int l3, .int 0, .ref l0]) cd_23_146 rfl rfl ?_
  obtain ⟨ht, h⟩ := gO_s h
  obtain ⟨w_1, I_2, J_3, hcl, h⟩ := cV_s h
  refine gs_call (as := [.ref l0, .int 0, .int l3, .int 0]) (rest := []) cd_23_147 rfl (by decide) rfl (sm_rv_ok (by decide) ht) (Nat.le_of_ble_eq_true rfl) (Nat.le_of_ble_eq_true rfl) rfl hcl ?_
  cases h
  exact gsr cd_23_150 rfl rfl
noncomputable def f_23_137 (K : Nat → Value) (k d : Nat) (r34 : Nat → Nat → Int32 → Int32 → Int32 → Int32 → aW → aI → aJ → Option aR) (l0 : Nat) (l1 : Nat) (l2 : Int32) (l3 : Int32) (l4 : Int32) (l5 : Int32) (l6 : Int32) (w : aW) (I : aI) (J : aJ) : Option aR :=
  lt_ (l5 + 1) fun x_1 =>
  r34 l0 l1 l2 l3 l4 x_1 w I J
theorem ok_23_137 {K : Nat → Value} {k d : Nat} {r34 : Nat → Nat → Int32 → Int32 → Int32 → Int32 → aW → aI → aJ → Option aR} (hr34 : ∀ (l0 : Nat) (l1 : Nat) (l2 : Int32) (l3 : Int32) (l4 : Int32) (l5 : Int32) (w : aW) (I : aI) (J : aJ) (R : aR), r34 l0 l1 l2 l3 l4 l5 w I J = some R → Go K (d + 1) 23 34 [some (.ref l0), some (.ref l1), some (.int l2), some (.int l3), some (.int l4), some (.int l5), none] [] w I J R) {l0 : Nat} {l1 : Nat} {l2 : Int32} {l3 : Int32} {l4 : Int32} {l5 : Int32} {l6 : Int32} {w : aW} {I : aI} {J : aJ} {R : aR} (h : f_23_137 K k d r34 l0 l1 l2 l3 l4 l5 l6 w I J = some R) : Go K (d + 1) 23 137 [some (.ref l0), some (.ref l1), some (.int l2), some (.int l3), some (.int l4), some (.int l5), some (.int l6)] [] w I J R := by
  unfold f_23_137 at h
  refine gs_0 (pc' := 140) (L' := [some (.ref l0), some (.ref l1), some (.int l2), some (.int l3), some (.int l4), some (.int (l5 + 1)), some (.int l6)]) (st' := []) cd_23_137 rfl rfl ?_
  obtain ⟨x_1, hx, h⟩ := lt_s_ h
  rw [hx]
  clear hx
  refine gs_0 (pc' := 34) (L' := [some (.ref l0), some (.ref l1), some (.int l2), some (.int l3), some (.int l4), some (.int x_1), some (.int l6)]) (st' := []) cd_23_140 rfl rfl ?_
  refine go_drop [some (.ref l0), some (.ref l1), some (.int l2), some (.int l3), some (.int l4), some (.int x_1), none] ⟨rfl, ⟨rfl, ⟨rfl, ⟨rfl, ⟨rfl, ⟨rfl, ⟨rfl, trivial⟩⟩⟩⟩⟩⟩⟩ ?_
  exact hr34 l0 l1 l2 l3 l4 x_1 _ _ _ _ h
noncomputable def f_23_134 (K : Nat → Value) (k d : Nat) (r34 : Nat → Nat → Int32 → Int32 → Int32 → Int32 → aW → aI → aJ → Option aR) (l0 : Nat) (l1 : Nat) (l2 : Int32) (l3 : Int32) (l4 : Int32) (l5 : Int32) (l6 : Int32) (w : aW) (I : aI) (J : aJ) : Option aR :=
  lt_ (l4 + 1) fun x_1 =>
  f_23_137 K k d r34 l0 l1 l2 l3 x_1 l5 l6 w I J
theorem ok_23_134 {K : Nat → Value} {k d : Nat} {r34 : Nat → Nat → Int32 → Int32 → Int32 → Int32 → aW → aI → aJ → Option aR} (hr34 : ∀ (l0 : Nat) (l1 : Nat) (l2 : Int32) (l3 : Int32) (l4 : Int32) (l5 : Int32) (w : aW) (I : aI) (J : aJ) (R : aR), r34 l0 l1 l2 l3 l4 l5 w I J = some R → Go K (d + 1) 23 34 [some (.ref l0), some (.ref l1), some (.int l2), some (.int l3), some (.int l4), some (.int l5), none] [] w I J R) {l0 : Nat} {l1 : Nat} {l2 : Int32} {l3 : Int32} {l4 : Int32} {l5 : Int32} {l6 : Int32} {w : aW} {I : aI} {J : aJ} {R : aR} (h : f_23_134 K k d r34 l0 l1 l2 l3 l4 l5 l6 w I J = some R) : Go K (d + 1) 23 134 [some (.ref l0), some (.ref l1), some (.int l2), some (.int l3), some (.int l4), some (.int l5), some (.int l6)] [] w I J R := by
  unfold f_23_134 at h
  refine gs_0 (pc' := 137) (L' := [some (.ref l0), some (.ref l1), some (.int l2), some (.int l3), some (.int (l4 + 1)), some (.int l5), some (.int l6)]) (st' := []) cd_23_134 rfl rfl ?_
  obtain ⟨x_1, hx, h⟩ := lt_s_ h
  rw [hx]
  clear hx
  exact ok_23_137 hr34 h
noncomputable def f_23_128 (K : Nat → Value) (k d : Nat) (r34 : Nat → Nat → Int32 → Int32 → Int32 → Int32 → aW → aI → aJ → Option aR) (l0 : Nat) (l1 : Nat) (l2 : Int32) (l3 : Int32) (l4 : Int32) (l5 : Int32) (l6 : Int32) (s0 : Nat) (s1 : Int32) (w : aW) (I : aI) (J : aJ) : Option aR :=
  gO w 4 s0 (
  cV (Cl K d 26 [.ref s0, .int s1, .int l4, .int 0] w I J) fun w_1 I_2 J_3 =>
  f_23_134 K k d r34 l0 l1 l2 l3 l4 l5 l6 w_1 I_2 J_3)
theorem ok_23_128 {K : Nat → Value} {k d : Nat} {r34 : Nat → Nat → Int32 → Int32 → Int32 → Int32 → aW → aI → aJ → Option aR} (hr34 : ∀ (l0 : Nat) (l1 : Nat) (l2 : Int32) (l3 : Int32) (l4 : Int32) (l5 : Int32) (w : aW) (I : aI) (J : aJ) (R : aR), r34 l0 l1 l2 l3 l4 l5 w I J = some R → Go K (d + 1) 23 34 [some (.ref l0), some (.ref l1), some (.int l2), some (.int l3), some (.int l4), some (.int l5), none] [] w I J R) {l0 : Nat} {l1 : Nat} {l2 : Int32} {l3 : Int32} {l4 : Int32} {l5 : Int32} {l6 : Int32} {s0 : Nat} {s1 : Int32} {w : aW} {I : aI} {J : aJ} {R : aR} (h : f_23_128 K k d r34 l0 l1 l2 l3 l4 l5 l6 s0 s1 w I J = some R) : Go K (d + 1) 23 128 [some (.ref l0), some (.ref l1), some (.int l2), some (.int l3), some (.int l4), some (.int l5), some (.int l6)] [.int s1, .ref s0] w I J R := by
  unfold f_23_128 at h
  refine gs_0 (pc' := 130) (L' := [some (.ref l0), some (.ref l1), some (.int l2), some (.int l3), some (.int l4), some (.int l5), some (.int l6)]) (st' := [.int l4, .int s1, .ref s0]) cd_23_128 rfl rfl ?_
  refine gs_0 (pc' := 131) (L' := [some (.ref l0), some (.ref l1), some (.int l2), some (.int l3), some (.int l4), some (.int l5), some (.int l6)]) (st' := [.int 0, .int l4, .int s1, .ref s0]) cd_23_130 rfl rfl ?_
  obtain ⟨ht, h⟩ := gO_s h
  obtain ⟨w_1, I_2, J_3, hcl, h⟩ := cV_s h
  refine gs_call (as := [.ref s0, .int s1, .int l4, .int 0]) (rest := []) cd_23_131 rfl (by decide) rfl (sm_rv_ok (by decide) ht) (Nat.le_of_ble_eq_true rfl) (Nat.le_of_ble_eq_true rfl) rfl hcl ?_
  exact ok_23_134 hr34 h
noncomputable def f_23_34 (K : Nat → Value) (k : Nat) (d : Nat) : Nat → Nat → Int32 → Int32 → Int32 → Int32 → aW → aI → aJ → Option aR :=
  match k with
  | 0 => fun _ _ _ _ _ _ _ _ _ => none
  | k + 1 => fun l0 l1 l2 l3 l4 l5 w I J =>
  lt_ (f_23_34 K k d) fun r34 =>
  if 240 ≤ l5 then
    f_23_143 K k d l0 l1 l2 l3 l4 l5 w I J
  else
    if l3 ≤ l4 then
      f_23_143 K k d l0 l1 l2 l3 l4 l5 w I J
    else
      gA w 10 20 l1 l4 (
      lt_ (I l1 (l4 : Int32).toNatClampNeg) fun x_1 =>
      cI (Cl K d 24 [.int x_1] w I J) fun x_5 w_2 I_3 J_4 =>
      if x_5 = 0 then
        cI (Cl K d 28 [.int x_1] w_2 I_3 J_4) fun x_9 w_6 I_7 J_8 =>
        if x_9 = 0 then
          if x_1 = 32 then
            f_23_134 K k d r34 l0 l1 l2 l3 l4 l5 x_1 w_6 I_7 J_8
          else
            if x_1 = 10 then
              f_23_134 K k d r34 l0 l1 l2 l3 l4 l5 x_1 w_6 I_7 J_8
            else
              kR (K 1) fun q_10 =>
              gC (sm_isS K q_10 = true) (
              cI (Cl K d 30 [.ref q_10, .int ((x_1.toUInt32 % 65536).toInt32)] w_6 I_7 J_8) fun x_14 w_11 I_12 J_13 =>
              if x_14 < 0 then
                f_23_128 K k d r34 l0 l1 l2 l3 l4 l5 x_1 l0 3 w_11 I_12 J_13
              else
                f_23_128 K k d r34 l0 l1 l2 l3 l4 l5 x_1 l0 x_1 w_11 I_12 J_13)
        else
          gO w_6 4 l0 (
          cI (Cl K d 29 [.ref l0, .ref l1, .int l4, .int l3] w_6 I_7 J_8) fun x_18 w_15 I_16 J_17 =>
          f_23_137 K k d r34 l0 l1 l2 l3 x_18 l5 x_1 w_15 I_16 J_17)
      else
        gO w_2 4 l0 (
        cI (Cl K d 25 [.ref l0, .ref l1, .int l4, .int l3] w_2 I_3 J_4) fun x_22 w_19 I_20 J_21 =>
        f_23_137 K k d r34 l0 l1 l2 l3 x_22 l5 x_1 w_19 I_20 J_21))
theorem ok_23_34 {K : Nat → Value} {d : Nat} : ∀ {k : Nat} {l0 : Nat} {l1 : Nat} {l2 : Int32} {l3 : Int32} {l4 : Int32} {l5 : Int32} {w : aW} {I : aI} {J : aJ} {R : aR}, f_23_34 K k d l0 l1 l2 l3 l4 l5 w I J = some R → Go K (d + 1) 23 34 [some (.ref l0), some (.ref l1), some (.int l2), some (.int l3), some (.int l4), some (.int l5), none] [] w I J R := by
  intro k
  induction k with
  | zero => intro l0 l1 l2 l3 l4 l5 w I J R h; cases h
  | succ k ih =>
    intro l0 l1 l2 l3 l4 l5 w I J R h
    have hr34 : ∀ (l0 : Nat) (l1 : Nat) (l2 : Int32) (l3 : Int32) (l4 : Int32) (l5 : Int32) (w : aW) (I : aI) (J : aJ) (R : aR), f_23_34 K k d l0 l1 l2 l3 l4 l5 w I J = some R → Go K (d + 1) 23 34 [some (.ref l0), some (.ref l1), some (.int l2), some (.int l3), some (.int l4), some (.int l5), none] [] w I J R := fun l0 l1 l2 l3 l4 l5 w I J R h => ih h
    rw [f_23_34] at h
    obtain ⟨r34, hx, h⟩ := lt_s_ h
    rw [hx] at hr34
    clear hx ih
    refine gs_0 (pc' := 36) (L' := [some (.ref l0), some (.ref l1), some (.int l2), some (.int l3), some (.int l4), some (.int l5), none]) (st' := [.int l5]) cd_23_34 rfl rfl ?_
    refine gs_0 (pc' := 39) (L' := [some (.ref l0), some (.ref l1), some (.int l2), some (.int l3), some (.int l4), some (.int l5), none]) (st' := [.int 240, .int l5]) cd_23_36 rfl rfl ?_
    refine gs_0 (pc' := if 240 ≤ l5 then 143 else 42) (L' := [some (.ref l0), some (.ref l1), some (.int l2), some (.int l3), some (.int l4), some (.int l5), none]) (st' := []) cd_23_39 rfl rfl ?_
    refine go_ite (fun hc => ?_) (fun hc => ?_)
    · rw [if_pos hc] at h
      exact ok_23_143 h
    · rw [if_neg hc] at h
      refine gs_0 (pc' := 44) (L' := [some (.ref l0), some (.ref l1), some (.int l2), some (.int l3), some (.int l4), some (.int l5), none]) (st' := [.int l4]) cd_23_42 rfl rfl ?_
      refine gs_0 (pc' := 45) (L' := [some (.ref l0), some (.ref l1), some (.int l2), some (.int l3), some (.int l4), some (.int l5), none]) (st' := [.int l3, .int l4]) cd_23_44 rfl rfl ?_
      refine gs_0 (pc' := if l3 ≤ l4 then 143 else 48) (L' := [some (.ref l0), some (.ref l1), some (.int l2), some (.int l3), some (.int l4), some (.int l5), none]) (st' := []) cd_23_45 rfl rfl ?_
      refine go_ite (fun hc => ?_) (fun hc => ?_)
      · rw [if_pos hc] at h
        exact ok_23_143 h
      · rw [if_neg hc] at h
        refine gs_0 (pc' := 49) (L' := [some (.ref l0), some (.ref l1), some (.int l2), some (.int l3), some (.int l4), some (.int l5), none]) (st' := [.ref l1]) cd_23_48 rfl rfl ?_
        refine gs_0 (pc' := 51) (L' := [some (.ref l0), some (.ref l1), some (.int l2), some (.int l3), some (.int l4), some (.int l5), none]) (st' := [.int l4, .ref l1]) cd_23_49 rfl rfl ?_
        obtain ⟨ht, h⟩ := gA_s h
        refine gs_iald cd_23_51 ht ?_
        refine gs_0 (pc' := 54) (L' := [some (.ref l0), some (.ref l1), some (.int l2), some (.int l3), some (.int l4), some (.int l5), some (.int (I l1 (l4 : Int32).toNatClampNeg))]) (st' := []) cd_23_52 rfl rfl ?_
        obtain ⟨x_1, hx, h⟩ := lt_s_ h
        rw [hx]
        clear hx
        refine gs_0 (pc' := 56) (L' := [some (.ref l0), some (.ref l1), some (.int l2), some (.int l3), some (.int l4), some (.int l5), some (.int x_1)]) (st' := [.int x_1]) cd_23_54 rfl rfl ?_
        obtain ⟨x_5, w_2, I_3, J_4, hcl, h⟩ := cI_s h
        refine gs_call (as := [.int x_1]) (rest := []) cd_23_56 rfl (by decide) rfl rfl (Nat.le_of_ble_eq_true rfl) (Nat.le_of_ble_eq_true rfl) rfl hcl ?_
        refine gs_0 (pc' := if x_5 = 0 then 75 else 62) (L' := [some (.ref l0), some (.ref l1), some (.int l2), some (.int l3), some (.int l4), some (.int l5), some (.int x_1)]) (st' := []) cd_23_59 rfl rfl ?_
        refine go_ite (fun hc => ?_) (fun hc => ?_)
        · rw [if_pos hc] at h
          refine gs_0 (pc' := 77) (L' := [some (.ref l0), some (.ref l1), some (.int l2), some (.int l3), some (.int l4), some (.int l5), some (.int x_1)]) (st' := [.int x_1]) cd_23_75 rfl rfl ?_
          obtain ⟨x_9, w_6, I_7, J_8, hcl, h⟩ := cI_s h
          refine gs_call (as := [.int x_1]) (rest := []) cd_23_77 rfl (by decide) rfl rfl (Nat.le_of_ble_eq_true rfl) (Nat.le_of_ble_eq_true rfl) rfl hcl ?_
          refine gs_0 (pc' := if x_9 = 0 then 96 else 83) (L' := [some (.ref l0), some (.ref l1), some (.int l2), some (.int l3), some (.int l4), some (.int l5), some (.int x_1)]) (st' := []) cd_23_80 rfl rfl ?_
          refine go_ite (fun hc => ?_) (fun hc => ?_)
          · rw [if_pos hc] at h
            refine gs_0 (pc' := 98) (L' := [some (.ref l0), some (.ref l1), some (.int l2), some (.int l3), some (.int l4), some (.int l5), some (.int x_1)]) (st' := [.int x_1]) cd_23_96 rfl rfl ?_
            refine gs_0 (pc' := 100) (L' := [some (.ref l0), some (.ref l1), some (.int l2), some (.int l3), some (.int l4), some (.int l5), some (.int x_1)]) (st' := [.int 32, .int x_1]) cd_23_98 rfl rfl ?_
            refine gs_0 (pc' := if x_1 = 32 then 134 else 103) (L' := [some (.ref l0), some (.ref l1), some (.int l2), some (.int l3), some (.int l4), some (.int l5), some (.int x_1)]) (st' := []) cd_23_100 rfl rfl ?_
            refine go_ite (fun hc => ?_) (fun hc => ?_)
            · rw [if_pos hc] at h
              exact ok_23_134 hr34 h
            · rw [if_neg hc] at h
              refine gs_0 (pc' := 105) (L' := [some (.ref l0), some (.ref l1), some (.int l2), some (.int l3), some (.int l4), some (.int l5), some (.int x_1)]) (st' := [.int x_1]) cd_23_103 rfl rfl ?_
              refine gs_0 (pc' := 107) (L' := [some (.ref l0), some (.ref l1), some (.int l2), some (.int l3), some (.int l4), some (.int l5), some (.int x_1)]) (st' := [.int 10, .int x_1]) cd_23_105 rfl rfl ?_
              refine gs_0 (pc' := if x_1 = 10 then 134 else 110) (L' := [some (.ref l0), some (.ref l1), some (.int l2), some (.int l3), some (.int l4), some (.int l5), some (.int x_1)]) (st' := []) cd_23_107 rfl rfl ?_
              refine go_ite (fun hc => ?_) (fun hc => ?_)
              · rw [if_pos hc] at h
                exact ok_23_134 hr34 h
              · rw [if_neg hc] at h
                refine gs_0 (pc' := 111) (L' := [some (.ref l0), some (.ref l1), some (.int l2), some (.int l3), some (.int l4), some (.int l5), some (.int x_1)]) (st' := [.ref l0]) cd_23_110 rfl rfl ?_
                refine gs_0 (pc' := 113) (L' := [some (.ref l0), some (.ref l1), some (.int l2), some (.int l3), some (.int l4), some (.int l5), some (.int x_1)]) (st' := [K 1, .ref l0]) cd_23_111 rfl rfl ?_
                obtain ⟨q_10, hq, h⟩ := kR_s h
                rw [hq]
                refine gs_0 (pc' := 115) (L' := [some (.ref l0), some (.ref l1), some (.int l2), some (.int l3), some (.int l4), some (.int l5), some (.int x_1)]) (st' := [.int x_1, .ref q_10, .ref l0]) cd_23_113 rfl rfl ?_
                refine gs_0 (pc' := 116) (L' := [some (.ref l0), some (.ref l1), some (.int l2), some (.int l3), some (.int l4), some (.int l5), some (.int x_1)]) (st' := [.int ((x_1.toUInt32 % 65536).toInt32), .ref q_10, .ref l0]) cd_23_115 rfl rfl ?_
                obtain ⟨hS, h⟩ := gC_s h
                obtain ⟨x_14, w_11, I_12, J_13, hcl, h⟩ := cI_s h
                refine gs_call (as := [.ref q_10, .int ((x_1.toUInt32 % 65536).toInt32)]) (rest := [.ref l0]) cd_23_116 rfl (by decide) rfl (sm_rv_S hS) (Nat.le_of_ble_eq_true rfl) (Nat.le_of_ble_eq_true rfl) rfl hcl ?_
                refine gs_0 (pc' := if x_14 < 0 then 127 else 122) (L' := [some (.ref l0), some (.ref l1), some (.int l2), some (.int l3), some (.int l4), some (.int l5), some (.int x_1)]) (st' := [.ref l0]) cd_23_119 rfl rfl ?_
                refine go_ite (fun hc => ?_) (fun hc => ?_)
                · rw [if_pos hc] at h
                  refine gs_0 (pc' := 128) (L' := [some (.ref l0), some (.ref l1), some (.int l2), some (.int l3), some (.int l4), some (.int l5), some (.int x_1)]) (st' := [.int 3, .ref l0]) cd_23_127 rfl rfl ?_
                  exact ok_23_128 hr34 h
                · rw [if_neg hc] at h
                  refine gs_0 (pc' := 124) (L' := [some (.ref l0), some (.ref l1), some (.int l2), some (.int l3), some (.int l4), some (.int l5), some (.int x_1)]) (st' := [.int x_1, .ref l0]) cd_23_122 rfl rfl ?_
                  refine gs_0 (pc' := 128) (L' := [some (.ref l0), some (.ref l1), some (.int l2), some (.int l3), some (.int l4), some (.int l5), some (.int x_1)]) (st' := [.int x_1, .ref l0]) cd_23_124 rfl rfl ?_
                  exact ok_23_128 hr34 h
          · rw [if_neg hc] at h
            refine gs_0 (pc' := 84) (L' := [some (.ref l0), some (.ref l1), some (.int l2), some (.int l3), some (.int l4), some (.int l5), some (.int x_1)]) (st' := [.ref l0]) cd_23_83 rfl rfl ?_
            refine gs_0 (pc' := 85) (L' := [some (.ref l0), some (.ref l1), some (.int l2), some (.int l3), some (.int l4), some (.int l5), some (.int x_1)]) (st' := [.ref l1, .ref l0]) cd_23_84 rfl rfl ?_
            refine gs_0 (pc' := 87) (L' := [some (.ref l0), some (.ref l1), some (.int l2), some (.int l3), some (.int l4), some (.int l5), some (.int x_1)]) (st' := [.int l4, .ref l1, .ref l0]) cd_23_85 rfl rfl ?_
            refine gs_0 (pc' := 88) (L' := [some (.ref l0), some (.ref l1), some (.int l2), some (.int l3), some (.int l4), some (.int l5), some (.int x_1)]) (st' := [.int l3, .int l4, .ref l1, .ref l0]) cd_23_87 rfl rfl ?_
            obtain ⟨ht, h⟩ := gO_s h
            obtain ⟨x_18, w_15, I_16, J_17, hcl, h⟩ := cI_s h
            refine gs_call (as := [.ref l0, .ref l1, .int l4, .int l3]) (rest := []) cd_23_88 rfl (by decide) rfl (sm_rv_ok (by decide) ht) (Nat.le_of_ble_eq_true rfl) (Nat.le_of_ble_eq_true rfl) rfl hcl ?_
            refine gs_0 (pc' := 93) (L' := [some (.ref l0), some (.ref l1), some (.int l2), some (.int l3), some (.int x_18), some (.int l5), some (.int x_1)]) (st' := []) cd_23_91 rfl rfl ?_
            refine gs_0 (pc' := 137) (L' := [some (.ref l0), some (.ref l1), some (.int l2), some (.int l3), some (.int x_18), some (.int l5), some (.int x_1)]) (st' := []) cd_23_93 rfl rfl ?_
            exact ok_23_137 hr34 h
        · rw [if_neg hc] at h
          refine gs_0 (pc' := 63) (L' := [some (.ref l0), some (.ref l1), some (.int l2), some (.int l3), some (.int l4), some (.int l5), some (.int x_1)]) (st' := [.ref l0]) cd_23_62 rfl rfl ?_
          refine gs_0 (pc' := 64) (L' := [some (.ref l0), some (.ref l1), some (.int l2), some (.int l3), some (.int l4), some (.int l5), some (.int x_1)]) (st' := [.ref l1, .ref l0]) cd_23_63 rfl rfl ?_
          refine gs_0 (pc' := 66) (L' := [some (.ref l0), some (.ref l1), some (.int l2), some (.int l3), some (.int l4), some (.int l5), some (.int x_1)]) (st' := [.int l4, .ref l1, .ref l0]) cd_23_64 rfl rfl ?_
          refine gs_0 (pc' := 67) (L' := [some (.ref l0), some (.ref l1), some (.int l2), some (.int l3), some (.int l4), some (.int l5), some (.int x_1)]) (st' := [.int l3, .int l4, .ref l1, .ref l0]) cd_23_66 rfl rfl ?_
          obtain ⟨ht, h⟩ := gO_s h
          obtain ⟨x_22, w_19, I_20, J_21, hcl, h⟩ := cI_s h
          refine gs_call (as := [.ref l0, .ref l1, .int l4, .int l3]) (rest := []) cd_23_67 rfl (by decide) rfl (sm_rv_ok (by decide) ht) (Nat.le_of_ble_eq_true rfl) (Nat.le_of_ble_eq_true rfl) rfl hcl ?_
          refine gs_0 (pc' := 72) (L' := [some (.ref l0), some (.ref l1), some (.int l2), some (.int l3), some (.int x_22), some (.int l5), some (.int x_1)]) (st' := []) cd_23_70 rfl rfl ?_
          refine gs_0 (pc' := 137) (L' := [some (.ref l0), some (.ref l1), some (.int l2), some (.int l3), some (.int x_22), some (.int l5), some (.int x_1)]) (st' := []) cd_23_72 rfl rfl ?_
          exact ok_23_137 hr34 h
noncomputable def f_23 (K : Nat → Value) (k d : Nat) (l0 : Nat) (l1 : Nat) (l2 : Int32) (w : aW) (I : aI) (J : aJ) : Option aR :=
  gO w 4 l0 (
  lt_ (sm_up2 I l0 4 0) fun I_1 =>
  gO w 4 l0 (
  lt_ (sm_up2 I_1 l0 5 0) fun I_2 =>
  gO w 4 l0 (
  lt_ (sm_up2 I_2 l0 6 0) fun I_3 =>
  gL w l1 fun n_4 =>
  lt_ ((if ((if (240 : Int32) < (n_4 : Int32) then (240 : Int32) else (n_4 : Int32)) : Int32) < (l2 : Int32) then ((if (240 : Int32) < (n_4 : Int32) then (240 : Int32) else (n_4 : Int32)) : Int32) else (l2 : Int32))) fun x_5 =>
  f_23_34 K k d l0 l1 l2 x_5 0 0 w I_3 J)))
theorem ok_23 {K : Nat → Value} {k d : Nat} {l0 : Nat} {l1 : Nat} {l2 : Int32} {w : aW} {I : aI} {J : aJ} {R : aR} (h : f_23 K k d l0 l1 l2 w I J = some R) : Go K (d + 1) 23 0 [some (.ref l0), some (.ref l1), some (.int l2), none, none, none, none] [] w I J R := by
  unfold f_23 at h
  refine gs_0 (pc' := 1) (L' := [some (.ref l0), some (.ref l1), some (.int l2), none, none, none, none]) (st' := [.ref l0]) cd_23_0 rfl rfl ?_
  refine gs_0 (pc' := 2) (L' := [some (.ref l0), some (.ref l1), some (.int l2), none, none, none, none]) (st' := [.int 0, .ref l0]) cd_23_1 rfl rfl ?_
  obtain ⟨ht, h⟩ := gO_s h
  refine gs_pfI cd_23_2 (by decide) (Or.inl rfl) ht ?_
  obtain ⟨I_1, hx, h⟩ := lt_s_ h
  rw [hx]
  refine gs_0 (pc' := 6) (L' := [some (.ref l0), some (.ref l1), some (.int l2), none, none, none, none]) (st' := [.ref l0]) cd_23_5 rfl rfl ?_
  refine gs_0 (pc' := 7) (L' := [some (.ref l0), some (.ref l1), some (.int l2), none, none, none, none]) (st' := [.int 0, .ref l0]) cd_23_6 rfl rfl ?_
  obtain ⟨ht, h⟩ := gO_s h
  refine gs_pfI cd_23_7 (by decide) (Or.inl rfl) ht ?_
  obtain ⟨I_2, hx, h⟩ := lt_s_ h
  rw [hx]
  refine gs_0 (pc' := 11) (L' := [some (.ref l0), some (.ref l1), some (.int l2), none, none, none, none]) (st' := [.ref l0]) cd_23_10 rfl rfl ?_
  refine gs_0 (pc' := 12) (L' := [some (.ref l0), some (.ref l1), some (.int l2), none, none, none, none]) (st' := [.int 0, .ref l0]) cd_23_11 rfl rfl ?_
  obtain ⟨ht, h⟩ := gO_s h
  refine gs_pfI cd_23_12 (by decide) (Or.inr ⟨rfl, Or.inl rfl⟩) ht ?_
  obtain ⟨I_3, hx, h⟩ := lt_s_ h
  rw [hx]
  refine gs_0 (pc' := 16) (L' := [some (.ref l0), some (.ref l1), some (.int l2), none, none, none, none]) (st' := [.int l2]) cd_23_15 rfl rfl ?_
  refine gs_0 (pc' := 17) (L' := [some (.ref l0), some (.ref l1), some (.int l2), none, none, none, none]) (st' := [.ref l1, .int l2]) cd_23_16 rfl rfl ?_
  obtain ⟨t0, n0, ht, ht2, h⟩ := gL_s h
  refine gs_alen cd_23_17 ht ht2 ?_
  generalize Int32.ofNat n0 = n_4 at h ⊢
  refine gs_0 (pc' := 21) (L' := [some (.ref l0), some (.ref l1), some (.int l2), none, none, none, none]) (st' := [.int 240, .int n_4, .int l2]) cd_23_18 rfl rfl ?_
  refine gsp (pc' := 24) (L' := [some (.ref l0), some (.ref l1), some (.int l2), none, none, none, none]) (st' := [.int ((if (240 : Int32) < (n_4 : Int32) then (240 : Int32) else (n_4 : Int32))), .int l2]) cd_23_21 rfl (by decide) rfl ?_
  refine gsp (pc' := 27) (L' := [some (.ref l0), some (.ref l1), some (.int l2), none, none, none, none]) (st' := [.int ((if ((if (240 : Int32) < (n_4 : Int32) then (240 : Int32) else (n_4 : Int32)) : Int32) < (l2 : Int32) then ((if (240 : Int32) < (n_4 : Int32) then (240 : Int32) else (n_4 : Int32)) : Int32) else (l2 : Int32)))]) cd_23_24 rfl (by decide) rfl ?_
  refine gs_0 (pc' := 28) (L' := [some (.ref l0), some (.ref l1), some (.int l2), some (.int ((if ((if (240 : Int32) < (n_4 : Int32) then (240 : Int32) else (n_4 : Int32)) : Int32) < (l2 : Int32) then ((if (240 : Int32) < (n_4 : Int32) then (240 : Int32) else (n_4 : Int32)) : Int32) else (l2 : Int32)))), none, none, none]) (st' := []) cd_23_27 rfl rfl ?_
  obtain ⟨x_5, hx, h⟩ := lt_s_ h
  rw [hx]
  clear hx
  refine gs_0 (pc' := 29) (L' := [some (.ref l0), some (.ref l1), some (.int l2), some (.int x_5), none, none, none]) (st' := [.int 0]) cd_23_28 rfl rfl ?_
  refine gs_0 (pc' := 31) (L' := [some (.ref l0), some (.ref l1), some (.int l2), some (.int x_5), some (.int 0), none, none]) (st' := []) cd_23_29 rfl rfl ?_
  refine gs_0 (pc' := 32) (L' := [some (.ref l0), some (.ref l1), some (.int l2), some (.int x_5), some (.int 0), none, none]) (st' := [.int 0]) cd_23_31 rfl rfl ?_
  refine gs_0 (pc' := 34) (L' := [some (.ref l0), some (.ref l1), some (.int l2), some (.int x_5), some (.int 0), some (.int 0), none]) (st' := []) cd_23_32 rfl rfl ?_
  exact ok_23_34 h
theorem cl_23 {K : Nat → Value} {k d : Nat} {l0 : Nat} {l1 : Nat} {l2 : Int32} {w : aW} {I : aI} {J : aJ} {R : aR} (h : f_23 K k d l0 l1 l2 w I J = some R) : Cl K (d + 1) 23 [.ref l0, .ref l1, .int l2] w I J = some R := Cl_of (ok_23 h)
/-! ProvedMachine$Tokens.isLetter(I)Z -/
theorem gl_24 : gcd.lookup 24 = some gw_24 := rfl
theorem cd_24_0 : sm_cd 24 0 = some (.iload_n 0, 1, 0, 0, 0, 0, 0, 0, 0) := cd_of gl_24 rfl
theorem cd_24_1 : sm_cd 24 1 = some (.bipush 97, 2, 0, 0, 0, 0, 0, 97, 0) := cd_of gl_24 rfl
theorem cd_24_3 : sm_cd 24 3 = some (.if_icmp .lt 13, 3, 16, 0, 0, 0, 0, 0, 0) := cd_of gl_24 rfl
theorem cd_24_6 : sm_cd 24 6 = some (.iload_n 0, 1, 0, 0, 0, 0, 0, 0, 0) := cd_of gl_24 rfl
theorem cd_24_7 : sm_cd 24 7 = some (.bipush 122, 2, 0, 0, 0, 0, 0, 122, 0) := cd_of gl_24 rfl
theorem cd_24_9 : sm_cd 24 9 = some (.if_icmp .gt 7, 3, 16, 0, 0, 0, 0, 0, 0) := cd_of gl_24 rfl
theorem cd_24_12 : sm_cd 24 12 = some (.iconst 1, 1, 0, 0, 0, 0, 0, 1, 0) := cd_of gl_24 rfl
theorem cd_24_13 : sm_cd 24 13 = some (.goto 4, 3, 17, 0, 0, 0, 0, 0, 0) := cd_of gl_24 rfl
theorem cd_24_16 : sm_cd 24 16 = some (.iconst 0, 1, 0, 0, 0, 0, 0, 0, 0) := cd_of gl_24 rfl
theorem cd_24_17 : sm_cd 24 17 = some (.ireturn, 1, 0, 0, 2, 0, 0, 0, 0) := cd_of gl_24 rfl
noncomputable def f_24 (K : Nat → Value) (k d : Nat) (l0 : Int32) (w : aW) (I : aI) (J : aJ) : Option aR :=
  if l0 < 97 then
    some (some (.int 0), w, I, J)
  else
    if 122 < l0 then
      some (some (.int 0), w, I, J)
    else
      some (some (.int 1), w, I, J)
theorem ok_24 {K : Nat → Value} {k d : Nat} {l0 : Int32} {w : aW} {I : aI} {J : aJ} {R : aR} (h : f_24 K k d l0 w I J = some R) : Go K (d + 1) 24 0 [some (.int l0)] [] w I J R := by
  unfold f_24 at h
  refine gs_0 (pc' := 1) (L' := [some (.int l0)]) (st' := [.int l0]) cd_24_0 rfl rfl ?_
  refine gs_0 (pc' := 3) (L' := [some (.int l0)]) (st' := [.int 97, .int l0]) cd_24_1 rfl rfl ?_
  refine gs_0 (pc' := if l0 < 97 then 16 else 6) (L' := [some (.int l0)]) (st' := []) cd_24_3 rfl rfl ?_
  refine go_ite (fun hc => ?_) (fun hc => ?_)
  · rw [if_pos hc] at h
    refine gs_0 (pc' := 17) (L' := [some (.int l0)]) (st' := [.int 0]) cd_24_16 rfl rfl ?_
    cases h
    exact gs_ri cd_24_17 (Or.inr (Or.inl ⟨rfl, Or.inl rfl⟩))
  · rw [if_neg hc] at h
    refine gs_0 (pc' := 7) (L' := [some (.int l0)]) (st' := [.int l0]) cd_24_6 rfl rfl ?_
    refine gs_0 (pc' := 9) (L' := [some (.int l0)]) (st' := [.int 122, .int l0]) cd_24_7 rfl rfl ?_
    refine gs_0 (pc' := if 122 < l0 then 16 else 12) (L' := [some (.int l0)]) (st' := []) cd_24_9 rfl rfl ?_
    refine go_ite (fun hc => ?_) (fun hc => ?_)
    · rw [if_pos hc] at h
      refine gs_0 (pc' := 17) (L' := [some (.int l0)]) (st' := [.int 0]) cd_24_16 rfl rfl ?_
      cases h
      exact gs_ri cd_24_17 (Or.inr (Or.inl ⟨rfl, Or.inl rfl⟩))
    · rw [if_neg hc] at h
      refine gs_0 (pc' := 13) (L' := [some (.int l0)]) (st' := [.int 1]) cd_24_12 rfl rfl ?_
      refine gs_0 (pc' := 17) (L' := [some (.int l0)]) (st' := [.int 1]) cd_24_13 rfl rfl ?_
      cases h
      exact gs_ri cd_24_17 (Or.inr (Or.inl ⟨rfl, Or.inr rfl⟩))
theorem cl_24 {K : Nat → Value} {k d : Nat} {l0 : Int32} {w : aW} {I : aI} {J : aJ} {R : aR} (h : f_24 K k d l0 w I J = some R) : Cl K (d + 1) 24 [.int l0] w I J = some R := Cl_of (ok_24 h)
/-! ProvedMachine$Tokens.scanWord([III)I -/
theorem gl_25 : gcd.lookup 25 = some gw_25 := rfl
theorem cd_25_0 : sm_cd 25 0 = some (.iload_n 2, 1, 2, 0, 0, 0, 0, 0, 0) := cd_of gl_25 rfl
theorem cd_25_1 : sm_cd 25 1 = some (.istore 4, 2, 4, 0, 0, 0, 0, 0, 0) := cd_of gl_25 rfl
theorem cd_25_3 : sm_cd 25 3 = some (.iconst 0, 1, 0, 0, 0, 0, 0, 0, 0) := cd_of gl_25 rfl
theorem cd_25_4 : sm_cd 25 4 = some (.istore 5, 2, 5, 0, 0, 0, 0, 0, 0) := cd_of gl_25 rfl
theorem cd_25_6 : sm_cd 25 6 = some (.iload 4, 2, 4, 0, 0, 0, 0, 0, 0) := cd_of gl_25 rfl
theorem cd_25_8 : sm_cd 25 8 = some (.iload_n 3, 1, 3, 0, 0, 0, 0, 0, 0) := cd_of gl_25 rfl
theorem cd_25_9 : sm_cd 25 9 = some (.if_icmp .ge 43, 3, 52, 0, 0, 0, 0, 0, 0) := cd_of gl_25 rfl
theorem cd_25_12 : sm_cd 25 12 = some (.aload_n 1, 1, 1, 0, 0, 0, 0, 0, 0) := cd_of gl_25 rfl
theorem cd_25_13 : sm_cd 25 13 = some (.iload 4, 2, 4, 0, 0, 0, 0, 0, 0) := cd_of gl_25 rfl
theorem cd_25_15 : sm_cd 25 15 = some (.iaload, 1, 0, 0, 0, 0, 0, 0, 0) := cd_of gl_25 rfl
theorem cd_25_16 : sm_cd 25 16 = some (.invokestatic 56, 3, 24, 1, 1, 1, 4, 0, 0) := cd_of gl_25 rfl
theorem cd_25_19 : sm_cd 25 19 = some (.ifCond .eq 33, 3, 52, 0, 0, 0, 0, 0, 0) := cd_of gl_25 rfl
theorem cd_25_22 : sm_cd 25 22 = some (.iload 4, 2, 4, 0, 0, 0, 0, 0, 0) := cd_of gl_25 rfl
theorem cd_25_24 : sm_cd 25 24 = some (.iload_n 2, 1, 2, 0, 0, 0, 0, 0, 0) := cd_of gl_25 rfl
theorem cd_25_25 : sm_cd 25 25 = some (.isub, 1, 0, 0, 0, 0, 0, 0, 0) := cd_of gl_25 rfl
theorem cd_25_26 : sm_cd 25 26 = some (.bipush 6, 2, 0, 0, 0, 0, 0, 6, 0) := cd_of gl_25 rfl
theorem cd_25_28 : sm_cd 25 28 = some (.if_icmp .ge 15, 3, 43, 0, 0, 0, 0, 0, 0) := cd_of gl_25 rfl
theorem cd_25_31 : sm_cd 25 31 = some (.iload 5, 2, 5, 0, 0, 0, 0, 0, 0) := cd_of gl_25 rfl
theorem cd_25_33 : sm_cd 25 33 = some (.aload_n 1, 1, 1, 0, 0, 0, 0, 0, 0) := cd_of gl_25 rfl
theorem cd_25_34 : sm_cd 25 34 = some (.iload 4, 2, 4, 0, 0, 0, 0, 0, 0) := cd_of gl_25 rfl
theorem cd_25_36 : sm_cd 25 36 = some (.iaload, 1, 0, 0, 0, 0, 0, 0, 0) := cd_of gl_25 rfl
theorem cd_25_37 : sm_cd 25 37 = some (.invokestatic 47, 3, 11, 1, 2, 2, 4, 0, 0) := cd_of gl_25 rfl
theorem cd_25_40 : sm_cd 25 40 = some (.goto 4, 3, 44, 0, 0, 0, 0, 0, 0) := cd_of gl_25 rfl
theorem cd_25_43 : sm_cd 25 43 = some (.iconst (-1), 1, 0, 0, 0, 0, 0, (-1), 0) := cd_of gl_25 rfl
theorem cd_25_44 : sm_cd 25 44 = some (.istore 5, 2, 5, 0, 0, 0, 0, 0, 0) := cd_of gl_25 rfl
theorem cd_25_46 : sm_cd 25 46 = some (.iinc 4 1, 3, 4, 0, 0, 0, 0, 1, 0) := cd_of gl_25 rfl
theorem cd_25_49 : sm_cd 25 49 = some (.goto (-43), 3, 6, 0, 0, 0, 0, 0, 0) := cd_of gl_25 rfl
theorem cd_25_52 : sm_cd 25 52 = some (.iload 4, 2, 4, 0, 0, 0, 0, 0, 0) := cd_of gl_25 rfl
theorem cd_25_54 : sm_cd 25 54 = some (.iload_n 2, 1, 2, 0, 0, 0, 0, 0, 0) := cd_of gl_25 rfl
theorem cd_25_55 : sm_cd 25 55 = some (.isub, 1, 0, 0, 0, 0, 0, 0, 0) := cd_of gl_25 rfl
theorem cd_25_56 : sm_cd 25 56 = some (.iconst 1, 1, 0, 0, 0, 0, 0, 1, 0) := cd_of gl_25 rfl
theorem cd_25_57 : sm_cd 25 57 = some (.if_icmp .ne 18, 3, 75, 0, 0, 0, 0, 0, 0) := cd_of gl_25 rfl
theorem cd_25_60 : sm_cd 25 60 = some (.aload_n 0, 1, 0, 0, 0, 0, 0, 0, 0) := cd_of gl_25 rfl
theorem cd_25_61 : sm_cd 25 61 = some (.iconst 1, 1, 0, 0, 0, 0, 0, 1, 0) := cd_of gl_25 rfl
theorem cd_25_62 : sm_cd 25 62 = some (.iload_n 2, 1, 2, 0, 0, 0, 0, 0, 0) := cd_of gl_25 rfl
theorem cd_25_63 : sm_cd 25 63 = some (.aload_n 1, 1, 1, 0, 0, 0, 0, 0, 0) := cd_of gl_25 rfl
theorem cd_25_64 : sm_cd 25 64 = some (.iload_n 2, 1, 2, 0, 0, 0, 0, 0, 0) := cd_of gl_25 rfl
theorem cd_25_65 : sm_cd 25 65 = some (.iaload, 1, 0, 0, 0, 0, 0, 0, 0) := cd_of gl_25 rfl
theorem cd_25_66 : sm_cd 25 66 = some (.bipush 97, 2, 0, 0, 0, 0, 0, 97, 0) := cd_of gl_25 rfl
theorem cd_25_68 : sm_cd 25 68 = some (.isub, 1, 0, 0, 0, 0, 0, 0, 0) := cd_of gl_25 rfl
theorem cd_25_69 : sm_cd 25 69 = some (.invokevirtual 76, 3, 26, 0, 3, 4, 4, 0, 0) := cd_of gl_25 rfl
theorem cd_25_72 : sm_cd 25 72 = some (.goto 15, 3, 87, 0, 0, 0, 0, 0, 0) := cd_of gl_25 rfl
theorem cd_25_75 : sm_cd 25 75 = some (.aload_n 0, 1, 0, 0, 0, 0, 0, 0, 0) := cd_of gl_25 rfl
theorem cd_25_76 : sm_cd 25 76 = some (.aload_n 0, 1, 0, 0, 0, 0, 0, 0, 0) := cd_of gl_25 rfl
theorem cd_25_77 : sm_cd 25 77 = some (.iload 5, 2, 5, 0, 0, 0, 0, 0, 0) := cd_of gl_25 rfl
theorem cd_25_79 : sm_cd 25 79 = some (.invokevirtual 80, 3, 27, 0, 1, 3, 4, 0, 0) := cd_of gl_25 rfl
theorem cd_25_82 : sm_cd 25 82 = some (.iload_n 2, 1, 2, 0, 0, 0, 0, 0, 0) := cd_of gl_25 rfl
theorem cd_25_83 : sm_cd 25 83 = some (.iconst 0, 1, 0, 0, 0, 0, 0, 0, 0) := cd_of gl_25 rfl
theorem cd_25_84 : sm_cd 25 84 = some (.invokevirtual 76, 3, 26, 0, 3, 4, 4, 0, 0) := cd_of gl_25 rfl
theorem cd_25_87 : sm_cd 25 87 = some (.iload 4, 2, 4, 0, 0, 0, 0, 0, 0) := cd_of gl_25 rfl
theorem cd_25_89 : sm_cd 25 89 = some (.ireturn, 1, 0, 0, 1, 0, 0, 0, 0) := cd_of gl_25 rfl
noncomputable def f_25_87 (K : Nat → Value) (k d : Nat) (l0 : Nat) (l1 : Nat) (l2 : Int32) (l3 : Int32) (l4 : Int32) (l5 : Int32) (w : aW) (I : aI) (J : aJ) : Option aR :=
  some (some (.int l4), w, I, J)
theorem ok_25_87 {K : Nat → Value} {k d : Nat} {l0 : Nat} {l1 : Nat} {l2 : Int32} {l3 : Int32} {l4 : Int32} {l5 : Int32} {w : aW} {I : aI} {J : aJ} {R : aR} (h : f_25_87 K k d l0 l1 l2 l3 l4 l5 w I J = some R) : Go K (d + 1) 25 87 [some (.ref l0), some (.ref l1), some (.int l2), some (.int l3), some (.int l4), some (.int l5)] [] w I J R := by
  unfold f_25_87 at h
  refine gs_0 (pc' := 89) (L' := [some (.ref l0), some (.ref l1), some (.int l2), some (.int l3), some (.int l4), some (.int l5)]) (st' := [.int l4]) cd_25_87 rfl rfl ?_
  cases h
  exact gs_ri cd_25_89 (Or.inl rfl)
noncomputable def f_25_52 (K : Nat → Value) (k d : Nat) (l0 : Nat) (l1 : Nat) (l2 : Int32) (l3 : Int32) (l4 : Int32) (l5 : Int32) (w : aW) (I : aI) (J : aJ) : Option aR :=
  if ¬ (l4 - l2) = 1 then
    gO w 4 l0 (
    cI (Cl K d 27 [.ref l0, .int l5] w I J) fun x_4 w_1 I_2 J_3 =>
    gO w_1 4 l0 (
    cV (Cl K d 26 [.ref l0, .int x_4, .int l2, .int 0] w_1 I_2 J_3) fun w_5 I_6 J_7 =>
    f_25_87 K k d l0 l1 l2 l3 l4 l5 w_5 I_6 J_7))
  else
    gA w 10 20 l1 l2 (
    gO w 4 l0 (
    cV (Cl K d 26 [.ref l0, .int 1, .int l2, .int ((I l1 (l2 : Int32).toNatClampNeg) - 97)] w I J) fun w_8 I_9 J_10 =>
    f_25_87 K k d l0 l1 l2 l3 l4 l5 w_8 I_9 J_10))
theorem ok_25_52 {K : Nat → Value} {k d : Nat} {l0 : Nat} {l1 : Nat} {l2 : Int32} {l3 : Int32} {l4 : Int32} {l5 : Int32} {w : aW} {I : aI} {J : aJ} {R : aR} (h : f_25_52 K k d l0 l1 l2 l3 l4 l5 w I J = some R) : Go K (d + 1) 25 52 [some (.ref l0), some (.ref l1), some (.int l2), some (.int l3), some (.int l4), some (.int l5)] [] w I J R := by
  unfold f_25_52 at h
  refine gs_0 (pc' := 54) (L' := [some (.ref l0), some (.ref l1), some (.int l2), some (.int l3), some (.int l4), some (.int l5)]) (st' := [.int l4]) cd_25_52 rfl rfl ?_
  refine gs_0 (pc' := 55) (L' := [some (.ref l0), some (.ref l1), some (.int l2), some (.int l3), some (.int l4), some (.int l5)]) (st' := [.int l2, .int l4]) cd_25_54 rfl rfl ?_
  refine gs_0 (pc' := 56) (L' := [some (.ref l0), some (.ref l1), some (.int l2), some (.int l3), some (.int l4), some (.int l5)]) (st' := [.int (l4 - l2)]) cd_25_55 rfl rfl ?_
  refine gs_0 (pc' := 57) (L' := [some (.ref l0), some (.ref l1), some (.int l2), some (.int l3), some (.int l4), some (.int l5)]) (st' := [.int 1, .int (l4 - l2)]) cd_25_56 rfl rfl ?_
  refine gs_0 (pc' := if ¬ (l4 - l2) = 1 then 75 else 60) (L' := [some (.ref l0), some (.ref l1), some (.int l2), some (.int l3), some (.int l4), some (.int l5)]) (st' := []) cd_25_57 rfl rfl ?_
  refine go_ite (fun hc => ?_) (fun hc => ?_)
  · rw [if_pos hc] at h
    refine gs_0 (pc' := 76) (L' := [some (.ref l0), some (.ref l1), some (.int l2), some (.int l3), some (.int l4), some (.int l5)]) (st' := [.ref l0]) cd_25_75 rfl rfl ?_
    refine gs_0 (pc' := 77) (L' := [some (.ref l0), some (.ref l1), some (.int l2), some (.int l3), some (.int l4), some (.int l5)]) (st' := [.ref l0, .ref l0]) cd_25_76 rfl rfl ?_
    refine gs_0 (pc' := 79) (L' := [some (.ref l0), some (.ref l1), some (.int l2), some (.int l3), some (.int l4), some (.int l5)]) (st' := [.int l5, .ref l0, .ref l0]) cd_25_77 rfl rfl ?_
    obtain ⟨ht, h⟩ := gO_s h
    obtain ⟨x_4, w_1, I_2, J_3, hcl, h⟩ := cI_s h
    refine gs_call (as := [.ref l0, .int l5]) (rest := [.ref l0]) cd_25_79 rfl (by decide) rfl (sm_rv_ok (by decide) ht) (Nat.le_of_ble_eq_true rfl) (Nat.le_of_ble_eq_true rfl) rfl hcl ?_
    refine gs_0 (pc' := 83) (L' := [some (.ref l0), some (.ref l1), some (.int l2), some (.int l3), some (.int l4), some (.int l5)]) (st' := [.int l2, .int x_4, .ref l0]) cd_25_82 rfl rfl ?_
    refine gs_0 (pc' := 84) (L' := [some (.ref l0), some (.ref l1), some (.int l2), some (.int l3), some (.int l4), some (.int l5)]) (st' := [.int 0, .int l2, .int x_4, .ref l0]) cd_25_83 rfl rfl ?_
    obtain ⟨ht, h⟩ := gO_s h
    obtain ⟨w_5, I_6, J_7, hcl, h⟩ := cV_s h
    refine gs_call (as := [.ref l0, .int x_4, .int l2, .int 0]) (rest := []) cd_25_84 rfl (by decide) rfl (sm_rv_ok (by decide) ht) (Nat.le_of_ble_eq_true rfl) (Nat.le_of_ble_eq_true rfl) rfl hcl ?_
    exact ok_25_87 h
  · rw [if_neg hc] at h
    refine gs_0 (pc' := 61) (L' := [some (.ref l0), some (.ref l1), some (.int l2), some (.int l3), some (.int l4), some (.int l5)]) (st' := [.ref l0]) cd_25_60 rfl rfl ?_
    refine gs_0 (pc' := 62) (L' := [some (.ref l0), some (.ref l1), some (.int l2), some (.int l3), some (.int l4), some (.int l5)]) (st' := [.int 1, .ref l0]) cd_25_61 rfl rfl ?_
    refine gs_0 (pc' := 63) (L' := [some (.ref l0), some (.ref l1), some (.int l2), some (.int l3), some (.int l4), some (.int l5)]) (st' := [.int l2, .int 1, .ref l0]) cd_25_62 rfl rfl ?_
    refine gs_0 (pc' := 64) (L' := [some (.ref l0), some (.ref l1), some (.int l2), some (.int l3), some (.int l4), some (.int l5)]) (st' := [.ref l1, .int l2, .int 1, .ref l0]) cd_25_63 rfl rfl ?_
    refine gs_0 (pc' := 65) (L' := [some (.ref l0), some (.ref l1), some (.int l2), some (.int l3), some (.int l4), some (.int l5)]) (st' := [.int l2, .ref l1, .int l2, .int 1, .ref l0]) cd_25_64 rfl rfl ?_
    obtain ⟨ht, h⟩ := gA_s h
    refine gs_iald cd_25_65 ht ?_
    refine gs_0 (pc' := 68) (L' := [some (.ref l0), some (.ref l1), some (.int l2), some (.int l3), some (.int l4), some (.int l5)]) (st' := [.int 97, .int (I l1 (l2 : Int32).toNatClampNeg), .int l2, .int 1, .ref l0]) cd_25_66 rfl rfl ?_
    refine gs_0 (pc' := 69) (L' := [some (.ref l0), some (.ref l1), some (.int l2), some (.int l3), some (.int l4), some (.int l5)]) (st' := [.int ((I l1 (l2 : Int32).toNatClampNeg) - 97), .int l2, .int 1, .ref l0]) cd_25_68 rfl rfl ?_
    obtain ⟨ht, h⟩ := gO_s h
    obtain ⟨w_8, I_9, J_10, hcl, h⟩ := cV_s h
    refine gs_call (as := [.ref l0, .int 1, .int l2, .int ((I l1 (l2 : Int32).toNatClampNeg) - 97)]) (rest := []) cd_25_69 rfl (by decide) rfl (sm_rv_ok (by decide) ht) (Nat.le_of_ble_eq_true rfl) (Nat.le_of_ble_eq_true rfl) rfl hcl ?_
    refine gs_0 (pc' := 87) (L' := [some (.ref l0), some (.ref l1), some (.int l2), some (.int l3), some (.int l4), some (.int l5)]) (st' := []) cd_25_72 rfl rfl ?_
    exact ok_25_87 h
noncomputable def f_25_44 (K : Nat → Value) (k d : Nat) (r6 : Nat → Nat → Int32 → Int32 → Int32 → Int32 → aW → aI → aJ → Option aR) (l0 : Nat) (l1 : Nat) (l2 : Int32) (l3 : Int32) (l4 : Int32) (l5 : Int32) (s0 : Int32) (w : aW) (I : aI) (J : aJ) : Option aR :=
  lt_ (l4 + 1) fun x_1 =>
  r6 l0 l1 l2 l3 x_1 s0 w I J
theorem ok_25_44 {K : Nat → Value} {k d : Nat} {r6 : Nat → Nat → Int32 → Int32 → Int32 → Int32 → aW → aI → aJ → Option aR} (hr6 : ∀ (l0 : Nat) (l1 : Nat) (l2 : Int32) (l3 : Int32) (l4 : Int32) (l5 : Int32) (w : aW) (I : aI) (J : aJ) (R : aR), r6 l0 l1 l2 l3 l4 l5 w I J = some R → Go K (d + 1) 25 6 [some (.ref l0), some (.ref l1), some (.int l2), some (.int l3), some (.int l4), some (.int l5)] [] w I J R) {l0 : Nat} {l1 : Nat} {l2 : Int32} {l3 : Int32} {l4 : Int32} {l5 : Int32} {s0 : Int32} {w : aW} {I : aI} {J : aJ} {R : aR} (h : f_25_44 K k d r6 l0 l1 l2 l3 l4 l5 s0 w I J = some R) : Go K (d + 1) 25 44 [some (.ref l0), some (.ref l1), some (.int l2), some (.int l3), some (.int l4), some (.int l5)] [.int s0] w I J R := by
  unfold f_25_44 at h
  refine gs_0 (pc' := 46) (L' := [some (.ref l0), some (.ref l1), some (.int l2), some (.int l3), some (.int l4), some (.int s0)]) (st' := []) cd_25_44 rfl rfl ?_
  refine gs_0 (pc' := 49) (L' := [some (.ref l0), some (.ref l1), some (.int l2), some (.int l3), some (.int (l4 + 1)), some (.int s0)]) (st' := []) cd_25_46 rfl rfl ?_
  obtain ⟨x_1, hx, h⟩ := lt_s_ h
  rw [hx]
  clear hx
  refine gs_0 (pc' := 6) (L' := [some (.ref l0), some (.ref l1), some (.int l2), some (.int l3), some (.int x_1), some (.int s0)]) (st' := []) cd_25_49 rfl rfl ?_
  exact hr6 l0 l1 l2 l3 x_1 s0 _ _ _ _ h
noncomputable def f_25_6 (K : Nat → Value) (k : Nat) (d : Nat) : Nat → Nat → Int32 → Int32 → Int32 → Int32 → aW → aI → aJ → Option aR :=
  match k with
  | 0 => fun _ _ _ _ _ _ _ _ _ => none
  | k + 1 => fun l0 l1 l2 l3 l4 l5 w I J =>
  lt_ (f_25_6 K k d) fun r6 =>
  if l3 ≤ l4 then
    f_25_52 K k d l0 l1 l2 l3 l4 l5 w I J
  else
    gA w 10 20 l1 l4 (
    cI (Cl K d 24 [.int (I l1 (l4 : Int32).toNatClampNeg)] w I J) fun x_4 w_1 I_2 J_3 =>
    if x_4 = 0 then
      f_25_52 K k d l0 l1 l2 l3 l4 l5 w_1 I_2 J_3
    else
      if 6 ≤ (l4 - l2) then
        f_25_44 K k d r6 l0 l1 l2 l3 l4 l5 (-1) w_1 I_2 J_3
      else
        gA w_1 10 20 l1 l4 (
        cI (Cl K d 11 [.int l5, .int (I_2 l1 (l4 : Int32).toNatClampNeg)] w_1 I_2 J_3) fun x_8 w_5 I_6 J_7 =>
        f_25_44 K k d r6 l0 l1 l2 l3 l4 l5 x_8 w_5 I_6 J_7))
theorem ok_25_6 {K : Nat → Value} {d : Nat} : ∀ {k : Nat} {l0 : Nat} {l1 : Nat} {l2 : Int32} {l3 : Int32} {l4 : Int32} {l5 : Int32} {w : aW} {I : aI} {J : aJ} {R : aR}, f_25_6 K k d l0 l1 l2 l3 l4 l5 w I J = some R → Go K (d + 1) 25 6 [some (.ref l0), some (.ref l1), some (.int l2), some (.int l3), some (.int l4), some (.int l5)] [] w I J R := by
  intro k
  induction k with
  | zero => intro l0 l1 l2 l3 l4 l5 w I J R h; cases h
  | succ k ih =>
    intro l0 l1 l2 l3 l4 l5 w I J R h
    have hr6 : ∀ (l0 : Nat) (l1 : Nat) (l2 : Int32) (l3 : Int32) (l4 : Int32) (l5 : Int32) (w : aW) (I : aI) (J : aJ) (R : aR), f_25_6 K k d l0 l1 l2 l3 l4 l5 w I J = some R → Go K (d + 1) 25 6 [some (.ref l0), some (.ref l1), some (.int l2), some (.int l3), some (.int l4), some (.int l5)] [] w I J R := fun l0 l1 l2 l3 l4 l5 w I J R h => ih h
    rw [f_25_6] at h
    obtain ⟨r6, hx, h⟩ := lt_s_ h
    rw [hx] at hr6
    clear hx ih
    refine gs_0 (pc' := 8) (L' := [some (.ref l0), some (.ref l1), some (.int l2), some (.int l3), some (.int l4), some (.int l5)]) (st' := [.int l4]) cd_25_6 rfl rfl ?_
    refine gs_0 (pc' := 9) (L' := [some (.ref l0), some (.ref l1), some (.int l2), some (.int l3), some (.int l4), some (.int l5)]) (st' := [.int l3, .int l4]) cd_25_8 rfl rfl ?_
    refine gs_0 (pc' := if l3 ≤ l4 then 52 else 12) (L' := [some (.ref l0), some (.ref l1), some (.int l2), some (.int l3), some (.int l4), some (.int l5)]) (st' := []) cd_25_9 rfl rfl ?_
    refine go_ite (fun hc => ?_) (fun hc => ?_)
    · rw [if_pos hc] at h
      exact ok_25_52 h
    · rw [if_neg hc] at h
      refine gs_0 (pc' := 13) (L' := [some (.ref l0), some (.ref l1), some (.int l2), some (.int l3), some (.int l4), some (.int l5)]) (st' := [.ref l1]) cd_25_12 rfl rfl ?_
      refine gs_0 (pc' := 15) (L' := [some (.ref l0), some (.ref l1), some (.int l2), some (.int l3), some (.int l4), some (.int l5)]) (st' := [.int l4, .ref l1]) cd_25_13 rfl rfl ?_
      obtain ⟨ht, h⟩ := gA_s h
      refine gs_iald cd_25_15 ht ?_
      obtain ⟨x_4, w_1, I_2, J_3, hcl, h⟩ := cI_s h
      refine gs_call (as := [.int (I l1 (l4 : Int32).toNatClampNeg)]) (rest := []) cd_25_16 rfl (by decide) rfl rfl (Nat.le_of_ble_eq_true rfl) (Nat.le_of_ble_eq_true rfl) rfl hcl ?_
      refine gs_0 (pc' := if x_4 = 0 then 52 else 22) (L' := [some (.ref l0), some (.ref l1), some (.int l2), some (.int l3), some (.int l4), some (.int l5)]) (st' := []) cd_25_19 rfl rfl ?_
      refine go_ite (fun hc => ?_) (fun hc => ?_)
      · rw [if_pos hc] at h
        exact ok_25_52 h
      · rw [if_neg hc] at h
        refine gs_0 (pc' := 24) (L' := [some (.ref l0), some (.ref l1), some (.int l2), some (.int l3), some (.int l4), some (.int l5)]) (st' := [.int l4]) cd_25_22 rfl rfl ?_
        refine gs_0 (pc' := 25) (L' := [some (.ref l0), some (.ref l1), some (.int l2), some (.int l3), some (.int l4), some (.int l5)]) (st' := [.int l2, .int l4]) cd_25_24 rfl rfl ?_
        refine gs_0 (pc' := 26) (L' := [some (.ref l0), some (.ref l1), some (.int l2), some (.int l3), some (.int l4), some (.int l5)]) (st' := [.int (l4 - l2)]) cd_25_25 rfl rfl ?_
        refine gs_0 (pc' := 28) (L' := [some (.ref l0), some (.ref l1), some (.int l2), some (.int l3), some (.int l4), some (.int l5)]) (st' := [.int 6, .int (l4 - l2)]) cd_25_26 rfl rfl ?_
        refine gs_0 (pc' := if 6 ≤ (l4 - l2) then 43 else 31) (L' := [some (.ref l0), some (.ref l1), some (.int l2), some (.int l3), some (.int l4), some (.int l5)]) (st' := []) cd_25_28 rfl rfl ?_
        refine go_ite (fun hc => ?_) (fun hc => ?_)
        · rw [if_pos hc] at h
          refine gs_0 (pc' := 44) (L' := [some (.ref l0), some (.ref l1), some (.int l2), some (.int l3), some (.int l4), some (.int l5)]) (st' := [.int ((-1))]) cd_25_43 rfl rfl ?_
          exact ok_25_44 hr6 h
        · rw [if_neg hc] at h
          refine gs_0 (pc' := 33) (L' := [some (.ref l0), some (.ref l1), some (.int l2), some (.int l3), some (.int l4), some (.int l5)]) (st' := [.int l5]) cd_25_31 rfl rfl ?_
          refine gs_0 (pc' := 34) (L' := [some (.ref l0), some (.ref l1), some (.int l2), some (.int l3), some (.int l4), some (.int l5)]) (st' := [.ref l1, .int l5]) cd_25_33 rfl rfl ?_
          refine gs_0 (pc' := 36) (L' := [some (.ref l0), some (.ref l1), some (.int l2), some (.int l3), some (.int l4), some (.int l5)]) (st' := [.int l4, .ref l1, .int l5]) cd_25_34 rfl rfl ?_
          obtain ⟨ht, h⟩ := gA_s h
          refine gs_iald cd_25_36 ht ?_
          obtain ⟨x_8, w_5, I_6, J_7, hcl, h⟩ := cI_s h
          refine gs_call (as := [.int l5, .int (I_2 l1 (l4 : Int32).toNatClampNeg)]) (rest := []) cd_25_37 rfl (by decide) rfl rfl (Nat.le_of_ble_eq_true rfl) (Nat.le_of_ble_eq_true rfl) rfl hcl ?_
          refine gs_0 (pc' := 44) (L' := [some (.ref l0), some (.ref l1), some (.int l2), some (.int l3), some (.int l4), some (.int l5)]) (st' := [.int x_8]) cd_25_40 rfl rfl ?_
          exact ok_25_44 hr6 h
noncomputable def f_25 (K : Nat → Value) (k d : Nat) (l0 : Nat) (l1 : Nat) (l2 : Int32) (l3 : Int32) (w : aW) (I : aI) (J : aJ) : Option aR :=
  f_25_6 K k d l0 l1 l2 l3 l2 0 w I J
theorem ok_25 {K : Nat → Value} {k d : Nat} {l0 : Nat} {l1 : Nat} {l2 : Int32} {l3 : Int32} {w : aW} {I : aI} {J : aJ} {R : aR} (h : f_25 K k d l0 l1 l2 l3 w I J = some R) : Go K (d + 1) 25 0 [some (.ref l0), some (.ref l1), some (.int l2), some (.int l3), none, none] [] w I J R := by
  unfold f_25 at h
  refine gs_0 (pc' := 1) (L' := [some (.ref l0), some (.ref l1), some (.int l2), some (.int l3), none, none]) (st' := [.int l2]) cd_25_0 rfl rfl ?_
  refine gs_0 (pc' := 3) (L' := [some (.ref l0), some (.ref l1), some (.int l2), some (.int l3), some (.int l2), none]) (st' := []) cd_25_1 rfl rfl ?_
  refine gs_0 (pc' := 4) (L' := [some (.ref l0), some (.ref l1), some (.int l2), some (.int l3), some (.int l2), none]) (st' := [.int 0]) cd_25_3 rfl rfl ?_
  refine gs_0 (pc' := 6) (L' := [some (.ref l0), some (.ref l1), some (.int l2), some (.int l3), some (.int l2), some (.int 0)]) (st' := []) cd_25_4 rfl rfl ?_
  exact ok_25_6 h
theorem cl_25 {K : Nat → Value} {k d : Nat} {l0 : Nat} {l1 : Nat} {l2 : Int32} {l3 : Int32} {w : aW} {I : aI} {J : aJ} {R : aR} (h : f_25 K k d l0 l1 l2 l3 w I J = some R) : Cl K (d + 1) 25 [.ref l0, .ref l1, .int l2, .int l3] w I J = some R := Cl_of (ok_25 h)
/-! ProvedMachine$Tokens.add(III)V -/
theorem gl_26 : gcd.lookup 26 = some gw_26 := rfl
theorem cd_26_0 : sm_cd 26 0 = some (.aload_n 0, 1, 0, 0, 0, 0, 0, 0, 0) := cd_of gl_26 rfl
theorem cd_26_1 : sm_cd 26 1 = some (.getfield 24, 3, 4, 4, 0, 0, 0, 0, 0) := cd_of gl_26 rfl
theorem cd_26_4 : sm_cd 26 4 = some (.aload_n 0, 1, 0, 0, 0, 0, 0, 0, 0) := cd_of gl_26 rfl
theorem cd_26_5 : sm_cd 26 5 = some (.getfield 9, 3, 4, 0, 2, 0, 0, 0, 0) := cd_of gl_26 rfl
theorem cd_26_8 : sm_cd 26 8 = some (.arraylength, 1, 0, 0, 0, 0, 0, 0, 0) := cd_of gl_26 rfl
theorem cd_26_9 : sm_cd 26 9 = some (.if_icmp .ge 43, 3, 52, 0, 0, 0, 0, 0, 0) := cd_of gl_26 rfl
theorem cd_26_12 : sm_cd 26 12 = some (.aload_n 0, 1, 0, 0, 0, 0, 0, 0, 0) := cd_of gl_26 rfl
theorem cd_26_13 : sm_cd 26 13 = some (.getfield 9, 3, 4, 0, 2, 0, 0, 0, 0) := cd_of gl_26 rfl
theorem cd_26_16 : sm_cd 26 16 = some (.aload_n 0, 1, 0, 0, 0, 0, 0, 0, 0) := cd_of gl_26 rfl
theorem cd_26_17 : sm_cd 26 17 = some (.getfield 24, 3, 4, 4, 0, 0, 0, 0, 0) := cd_of gl_26 rfl
theorem cd_26_20 : sm_cd 26 20 = some (.iload_n 1, 1, 1, 0, 0, 0, 0, 0, 0) := cd_of gl_26 rfl
theorem cd_26_21 : sm_cd 26 21 = some (.iastore, 1, 0, 0, 0, 0, 0, 0, 0) := cd_of gl_26 rfl
theorem cd_26_22 : sm_cd 26 22 = some (.aload_n 0, 1, 0, 0, 0, 0, 0, 0, 0) := cd_of gl_26 rfl
theorem cd_26_23 : sm_cd 26 23 = some (.getfield 15, 3, 4, 1, 2, 0, 0, 0, 0) := cd_of gl_26 rfl
theorem cd_26_26 : sm_cd 26 26 = some (.aload_n 0, 1, 0, 0, 0, 0, 0, 0, 0) := cd_of gl_26 rfl
theorem cd_26_27 : sm_cd 26 27 = some (.getfield 24, 3, 4, 4, 0, 0, 0, 0, 0) := cd_of gl_26 rfl
theorem cd_26_30 : sm_cd 26 30 = some (.iload_n 2, 1, 2, 0, 0, 0, 0, 0, 0) := cd_of gl_26 rfl
theorem cd_26_31 : sm_cd 26 31 = some (.iastore, 1, 0, 0, 0, 0, 0, 0, 0) := cd_of gl_26 rfl
theorem cd_26_32 : sm_cd 26 32 = some (.aload_n 0, 1, 0, 0, 0, 0, 0, 0, 0) := cd_of gl_26 rfl
theorem cd_26_33 : sm_cd 26 33 = some (.getfield 18, 3, 4, 2, 2, 0, 0, 0, 0) := cd_of gl_26 rfl
theorem cd_26_36 : sm_cd 26 36 = some (.aload_n 0, 1, 0, 0, 0, 0, 0, 0, 0) := cd_of gl_26 rfl
theorem cd_26_37 : sm_cd 26 37 = some (.getfield 24, 3, 4, 4, 0, 0, 0, 0, 0) := cd_of gl_26 rfl
theorem cd_26_40 : sm_cd 26 40 = some (.iload_n 3, 1, 3, 0, 0, 0, 0, 0, 0) := cd_of gl_26 rfl
theorem cd_26_41 : sm_cd 26 41 = some (.iastore, 1, 0, 0, 0, 0, 0, 0, 0) := cd_of gl_26 rfl
theorem cd_26_42 : sm_cd 26 42 = some (.aload_n 0, 1, 0, 0, 0, 0, 0, 0, 0) := cd_of gl_26 rfl
theorem cd_26_43 : sm_cd 26 43 = some (.dup, 1, 0, 0, 0, 0, 0, 0, 0) := cd_of gl_26 rfl
theorem cd_26_44 : sm_cd 26 44 = some (.getfield 24, 3, 4, 4, 0, 0, 0, 0, 0) := cd_of gl_26 rfl
theorem cd_26_47 : sm_cd 26 47 = some (.iconst 1, 1, 0, 0, 0, 0, 0, 1, 0) := cd_of gl_26 rfl
theorem cd_26_48 : sm_cd 26 48 = some (.iadd, 1, 0, 0, 0, 0, 0, 0, 0) := cd_of gl_26 rfl
theorem cd_26_49 : sm_cd 26 49 = some (.putfield 24, 3, 4, 4, 0, 0, 0, 0, 0) := cd_of gl_26 rfl
theorem cd_26_52 : sm_cd 26 52 = some (.return_, 1, 0, 0, 0, 0, 0, 0, 0) := cd_of gl_26 rfl
noncomputable def f_26 (K : Nat → Value) (k d : Nat) (l0 : Nat) (l1 : Int32) (l2 : Int32) (l3 : Int32) (w : aW) (I : aI) (J : aJ) : Option aR :=
  gO w 4 l0 (
  gO w 4 l0 (
  gV w l0 0 fun q_1 =>
  gL w q_1 fun n_2 =>
  if n_2 ≤ (I l0 4) then
    some (none, w, I, J)
  else
    gO w 4 l0 (
    gV w l0 0 fun q_3 =>
    gO w 4 l0 (
    gA w 10 10 q_3 (I l0 4) (
    lt_ (sm_up2 I q_3 (I l0 4 : Int32).toNatClampNeg l1) fun I_4 =>
    gO w 4 l0 (
    gV w l0 1 fun q_5 =>
    gO w 4 l0 (
    gA w 10 10 q_5 (I_4 l0 4) (
    lt_ (sm_up2 I_4 q_5 (I_4 l0 4 : Int32).toNatClampNeg l2) fun I_6 =>
    gO w 4 l0 (
    gV w l0 2 fun q_7 =>
    gO w 4 l0 (
    gA w 10 10 q_7 (I_6 l0 4) (
    lt_ (sm_up2 I_6 q_7 (I_6 l0 4 : Int32).toNatClampNeg l3) fun I_8 =>
    gO w 4 l0 (
    gO w 4 l0 (
    lt_ (sm_up2 I_8 l0 4 ((I_8 l0 4) + 1)) fun I_9 =>
    some (none, w, I_9, J))))))))))))))
theorem ok_26 {K : Nat → Value} {k d : Nat} {l0 : Nat} {l1 : Int32} {l2 : Int32} {l3 : Int32} {w : aW} {I : aI} {J : aJ} {R : aR} (h : f_26 K k d l0 l1 l2 l3 w I J = some R) : Go K (d + 1) 26 0 [some (.ref l0), some (.int l1), some (.int l2), some (.int l3)] [] w I J R := by
  unfold f_26 at h
  refine gs_0 (pc' := 1) (L' := [some (.ref l0), some (.int l1), some (.int l2), some (.int l3)]) (st' := [.ref l0]) cd_26_0 rfl rfl ?_
  obtain ⟨ht, h⟩ := gO_s h
  refine gs_gfI cd_26_1 (by decide) (by decide) ht ?_
  refine gs_0 (pc' := 5) (L' := [some (.ref l0), some (.int l1), some (.int l2), some (.int l3)]) (st' := [.ref l0, .int (I l0 4)]) cd_26_4 rfl rfl ?_
  obtain ⟨ht, h⟩ := gO_s h
  obtain ⟨q_1, hv, h⟩ := gV_s h
  refine gs_gfR cd_26_5 (by decide) ht hv ?_
  obtain ⟨t0, n0, ht, ht2, h⟩ := gL_s h
  refine gs_alen cd_26_8 ht ht2 ?_
  generalize Int32.ofNat n0 = n_2 at h ⊢
  refine gs_0 (pc' := if n_2 ≤ (I l0 4) then 52 else 12) (L' := [some (.ref l0), some (.int l1), some (.int l2), some (.int l3)]) (st' := []) cd_26_9 rfl rfl ?_
  refine go_ite (fun hc => ?_) (fun hc => ?_)
  · rw [if_pos hc] at h
    cases h
    exact gsr cd_26_52 rfl rfl
  · rw [if_neg hc] at h
    refine gs_0 (pc' := 13) (L' := [some (.ref l0), some (.int l1), some (.int l2), some (.int l3)]) (st' := [.ref l0]) cd_26_12 rfl rfl ?_
    obtain ⟨ht, h⟩ := gO_s h
    obtain ⟨q_3, hv, h⟩ := gV_s h
    refine gs_gfR cd_26_13 (by decide) ht hv ?_
    refine gs_0 (pc' := 17) (L' := [some (.ref l0), some (.int l1), some (.int l2), some (.int l3)]) (st' := [.ref l0, .ref q_3]) cd_26_16 rfl rfl ?_
    obtain ⟨ht, h⟩ := gO_s h
    refine gs_gfI cd_26_17 (by decide) (by decide) ht ?_
    refine gs_0 (pc' := 21) (L' := [some (.ref l0), some (.int l1), some (.int l2), some (.int l3)]) (st' := [.int l1, .int (I l0 4), .ref q_3]) cd_26_20 rfl rfl ?_
    obtain ⟨ht, h⟩ := gA_s h
    refine gs_iast cd_26_21 ht ?_
    obtain ⟨I_4, hx, h⟩ := lt_s_ h
    rw [hx]
    refine gs_0 (pc' := 23) (L' := [some (.ref l0), some (.int l1), some (.int l2), some (.int l3)]) (st' := [.ref l0]) cd_26_22 rfl rfl ?_
    obtain ⟨ht, h⟩ := gO_s h
    obtain ⟨q_5, hv, h⟩ := gV_s h
    refine gs_gfR cd_26_23 (by decide) ht hv ?_
    refine gs_0 (pc' := 27) (L' := [some (.ref l0), some (.int l1), some (.int l2), some (.int l3)]) (st' := [.ref l0, .ref q_5]) cd_26_26 rfl rfl ?_
    obtain ⟨ht, h⟩ := gO_s h
    refine gs_gfI cd_26_27 (by decide) (by decide) ht ?_
    refine gs_0 (pc' := 31) (L' := [some (.ref l0), some (.int l1), some (.int l2), some (.int l3)]) (st' := [.int l2, .int (I_4 l0 4), .ref q_5]) cd_26_30 rfl rfl ?_
    obtain ⟨ht, h⟩ := gA_s h
    refine gs_iast cd_26_31 ht ?_
    obtain ⟨I_6, hx, h⟩ := lt_s_ h
    rw [hx]
    refine gs_0 (pc' := 33) (L' := [some (.ref l0), some (.int l1), some (.int l2), some (.int l3)]) (st' := [.ref l0]) cd_26_32 rfl rfl ?_
    obtain ⟨ht, h⟩ := gO_s h
    obtain ⟨q_7, hv, h⟩ := gV_s h
    refine gs_gfR cd_26_33 (by decide) ht hv ?_
    refine gs_0 (pc' := 37) (L' := [some (.ref l0), some (.int l1), some (.int l2), some (.int l3)]) (st' := [.ref l0, .ref q_7]) cd_26_36 rfl rfl ?_
    obtain ⟨ht, h⟩ := gO_s h
    refine gs_gfI cd_26_37 (by decide) (by decide) ht ?_
    refine gs_0 (pc' := 41) (L' := [some (.ref l0), some (.int l1), some (.int l2), some (.int l3)]) (st' := [.int l3, .int (I_6 l0 4), .ref q_7]) cd_26_40 rfl rfl ?_
    obtain ⟨ht, h⟩ := gA_s h
    refine gs_iast cd_26_41 ht ?_
    obtain ⟨I_8, hx, h⟩ := lt_s_ h
    rw [hx]
    refine gs_0 (pc' := 43) (L' := [some (.ref l0), some (.int l1), some (.int l2), some (.int l3)]) (st' := [.ref l0]) cd_26_42 rfl rfl ?_
    refine gs_0 (pc' := 44) (L' := [some (.ref l0), some (.int l1), some (.int l2), some (.int l3)]) (st' := [.ref l0, .ref l0]) cd_26_43 rfl rfl ?_
    obtain ⟨ht, h⟩ := gO_s h
    refine gs_gfI cd_26_44 (by decide) (by decide) ht ?_
    refine gs_0 (pc' := 48) (L' := [some (.ref l0), some (.int l1), some (.int l2), some (.int l3)]) (st' := [.int 1, .int (I_8 l0 4), .ref l0]) cd_26_47 rfl rfl ?_
    refine gs_0 (pc' := 49) (L' := [some (.ref l0), some (.int l1), some (.int l2), some (.int l3)]) (st' := [.int ((I_8 l0 4) + 1), .ref l0]) cd_26_48 rfl rfl ?_
    obtain ⟨ht, h⟩ := gO_s h
    refine gs_pfI cd_26_49 (by decide) (Or.inl rfl) ht ?_
    obtain ⟨I_9, hx, h⟩ := lt_s_ h
    rw [hx]
    cases h
    exact gsr cd_26_52 rfl rfl
theorem cl_26 {K : Nat → Value} {k d : Nat} {l0 : Nat} {l1 : Int32} {l2 : Int32} {l3 : Int32} {w : aW} {I : aI} {J : aJ} {R : aR} (h : f_26 K k d l0 l1 l2 l3 w I J = some R) : Cl K (d + 1) 26 [.ref l0, .int l1, .int l2, .int l3] w I J = some R := Cl_of (ok_26 h)
/-! ProvedMachine$Tokens.keyOf(I)I -/
theorem gl_27 : gcd.lookup 27 = some gw_27 := rfl
theorem cd_27_0 : sm_cd 27 0 = some (.iconst 0, 1, 0, 0, 0, 0, 0, 0, 0) := cd_of gl_27 rfl
theorem cd_27_1 : sm_cd 27 1 = some (.istore_n 2, 1, 2, 0, 0, 0, 0, 0, 0) := cd_of gl_27 rfl
theorem cd_27_2 : sm_cd 27 2 = some (.iload_n 2, 1, 2, 0, 0, 0, 0, 0, 0) := cd_of gl_27 rfl
theorem cd_27_3 : sm_cd 27 3 = some (.bipush 20, 2, 0, 0, 0, 0, 0, 20, 0) := cd_of gl_27 rfl
theorem cd_27_5 : sm_cd 27 5 = some (.if_icmp .ge 25, 3, 30, 0, 0, 0, 0, 0, 0) := cd_of gl_27 rfl
theorem cd_27_8 : sm_cd 27 8 = some (.aload_n 0, 1, 0, 0, 0, 0, 0, 0, 0) := cd_of gl_27 rfl
theorem cd_27_9 : sm_cd 27 9 = some (.getfield 21, 3, 4, 3, 2, 0, 0, 0, 0) := cd_of gl_27 rfl
theorem cd_27_12 : sm_cd 27 12 = some (.iload_n 2, 1, 2, 0, 0, 0, 0, 0, 0) := cd_of gl_27 rfl
theorem cd_27_13 : sm_cd 27 13 = some (.iaload, 1, 0, 0, 0, 0, 0, 0, 0) := cd_of gl_27 rfl
theorem cd_27_14 : sm_cd 27 14 = some (.iload_n 1, 1, 1, 0, 0, 0, 0, 0, 0) := cd_of gl_27 rfl
theorem cd_27_15 : sm_cd 27 15 = some (.if_icmp .ne 9, 3, 24, 0, 0, 0, 0, 0, 0) := cd_of gl_27 rfl
theorem cd_27_18 : sm_cd 27 18 = some (.sipush 256, 3, 0, 0, 0, 0, 0, 256, 0) := cd_of gl_27 rfl
theorem cd_27_21 : sm_cd 27 21 = some (.iload_n 2, 1, 2, 0, 0, 0, 0, 0, 0) := cd_of gl_27 rfl
theorem cd_27_22 : sm_cd 27 22 = some (.iadd, 1, 0, 0, 0, 0, 0, 0, 0) := cd_of gl_27 rfl
theorem cd_27_23 : sm_cd 27 23 = some (.ireturn, 1, 0, 0, 1, 0, 0, 0, 0) := cd_of gl_27 rfl
theorem cd_27_24 : sm_cd 27 24 = some (.iinc 2 1, 3, 2, 0, 0, 0, 0, 1, 0) := cd_of gl_27 rfl
theorem cd_27_27 : sm_cd 27 27 = some (.goto (-25), 3, 2, 0, 0, 0, 0, 0, 0) := cd_of gl_27 rfl
theorem cd_27_30 : sm_cd 27 30 = some (.iconst 3, 1, 0, 0, 0, 0, 0, 3, 0) := cd_of gl_27 rfl
theorem cd_27_31 : sm_cd 27 31 = some (.ireturn, 1, 0, 0, 1, 0, 0, 0, 0) := cd_of gl_27 rfl
noncomputable def f_27_2 (K : Nat → Value) (k : Nat) (d : Nat) : Nat → Int32 → Int32 → aW → aI → aJ → Option aR :=
  match k with
  | 0 => fun _ _ _ _ _ _ => none
  | k + 1 => fun l0 l1 l2 w I J =>
  lt_ (f_27_2 K k d) fun r2 =>
  if 20 ≤ l2 then
    some (some (.int 3), w, I, J)
  else
    gO w 4 l0 (
    gV w l0 3 fun q_1 =>
    gA w 10 20 q_1 l2 (
    if ¬ (I q_1 (l2 : Int32).toNatClampNeg) = l1 then
      lt_ (l2 + 1) fun x_2 =>
      r2 l0 l1 x_2 w I J
    else
      some (some (.int (256 + l2)), w, I, J)))
theorem ok_27_2 {K : Nat → Value} {d : Nat} : ∀ {k : Nat} {l0 : Nat} {l1 : Int32} {l2 : Int32} {w : aW} {I : aI} {J : aJ} {R : aR}, f_27_2 K k d l0 l1 l2 w I J = some R → Go K (d + 1) 27 2 [some (.ref l0), some (.int l1), some (.int l2)] [] w I J R := by
  intro k
  induction k with
  | zero => intro l0 l1 l2 w I J R h; cases h
  | succ k ih =>
    intro l0 l1 l2 w I J R h
    have hr2 : ∀ (l0 : Nat) (l1 : Int32) (l2 : Int32) (w : aW) (I : aI) (J : aJ) (R : aR), f_27_2 K k d l0 l1 l2 w I J = some R → Go K (d + 1) 27 2 [some (.ref l0), some (.int l1), some (.int l2)] [] w I J R := fun l0 l1 l2 w I J R h => ih h
    rw [f_27_2] at h
    obtain ⟨r2, hx, h⟩ := lt_s_ h
    rw [hx] at hr2
    clear hx ih
    refine gs_0 (pc' := 3) (L' := [some (.ref l0), some (.int l1), some (.int l2)]) (st' := [.int l2]) cd_27_2 rfl rfl ?_
    refine gs_0 (pc' := 5) (L' := [some (.ref l0), some (.int l1), some (.int l2)]) (st' := [.int 20, .int l2]) cd_27_3 rfl rfl ?_
    refine gs_0 (pc' := if 20 ≤ l2 then 30 else 8) (L' := [some (.ref l0), some (.int l1), some (.int l2)]) (st' := []) cd_27_5 rfl rfl ?_
    refine go_ite (fun hc => ?_) (fun hc => ?_)
    · rw [if_pos hc] at h
      refine gs_0 (pc' := 31) (L' := [some (.ref l0), some (.int l1), some (.int l2)]) (st' := [.int 3]) cd_27_30 rfl rfl ?_
      cases h
      exact gs_ri cd_27_31 (Or.inl rfl)
    · rw [if_neg hc] at h
      refine gs_0 (pc' := 9) (L' := [some (.ref l0), some (.int l1), some (.int l2)]) (st' := [.ref l0]) cd_27_8 rfl rfl ?_
      obtain ⟨ht, h⟩ := gO_s h
      obtain ⟨q_1, hv, h⟩ := gV_s h
      refine gs_gfR cd_27_9 (by decide) ht hv ?_
      refine gs_0 (pc' := 13) (L' := [some (.ref l0), some (.int l1), some (.int l2)]) (st' := [.int l2, .ref q_1]) cd_27_12 rfl rfl ?_
      obtain ⟨ht, h⟩ := gA_s h
      refine gs_iald cd_27_13 ht ?_
      refine gs_0 (pc' := 15) (L' := [some (.ref l0), some (.int l1), some (.int l2)]) (st' := [.int l1, .int (I q_1 (l2 : Int32).toNatClampNeg)]) cd_27_14 rfl rfl ?_
      refine gs_0 (pc' := if ¬ (I q_1 (l2 : Int32).toNatClampNeg) = l1 then 24 else 18) (L' := [some (.ref l0), some (.int l1), some (.int l2)]) (st' := []) cd_27_15 rfl rfl ?_
      refine go_ite (fun hc => ?_) (fun hc => ?_)
      · rw [if_pos hc] at h
        refine gs_0 (pc' := 27) (L' := [some (.ref l0), some (.int l1), some (.int (l2 + 1))]) (st' := []) cd_27_24 rfl rfl ?_
        obtain ⟨x_2, hx, h⟩ := lt_s_ h
        rw [hx]
        clear hx
        refine gs_0 (pc' := 2) (L' := [some (.ref l0), some (.int l1), some (.int x_2)]) (st' := []) cd_27_27 rfl rfl ?_
        exact hr2 l0 l1 x_2 _ _ _ _ h
      · rw [if_neg hc] at h
        refine gs_0 (pc' := 21) (L' := [some (.ref l0), some (.int l1), some (.int l2)]) (st' := [.int 256]) cd_27_18 rfl rfl ?_
        refine gs_0 (pc' := 22) (L' := [some (.ref l0), some (.int l1), some (.int l2)]) (st' := [.int l2, .int 256]) cd_27_21 rfl rfl ?_
        refine gs_0 (pc' := 23) (L' := [some (.ref l0), some (.int l1), some (.int l2)]) (st' := [.int (256 + l2)]) cd_27_22 rfl rfl ?_
        cases h
        exact gs_ri cd_27_23 (Or.inl rfl)
noncomputable def f_27 (K : Nat → Value) (k d : Nat) (l0 : Nat) (l1 : Int32) (w : aW) (I : aI) (J : aJ) : Option aR :=
  f_27_2 K k d l0 l1 0 w I J
theorem ok_27 {K : Nat → Value} {k d : Nat} {l0 : Nat} {l1 : Int32} {w : aW} {I : aI} {J : aJ} {R : aR} (h : f_27 K k d l0 l1 w I J = some R) : Go K (d + 1) 27 0 [some (.ref l0), some (.int l1), none] [] w I J R := by
  unfold f_27 at h
  refine gs_0 (pc' := 1) (L' := [some (.ref l0), some (.int l1), none]) (st' := [.int 0]) cd_27_0 rfl rfl ?_
  refine gs_0 (pc' := 2) (L' := [some (.ref l0), some (.int l1), some (.int 0)]) (st' := []) cd_27_1 rfl rfl ?_
  exact ok_27_2 h
theorem cl_27 {K : Nat → Value} {k d : Nat} {l0 : Nat} {l1 : Int32} {w : aW} {I : aI} {J : aJ} {R : aR} (h : f_27 K k d l0 l1 w I J = some R) : Cl K (d + 1) 27 [.ref l0, .int l1] w I J = some R := Cl_of (ok_27 h)
/-! ProvedMachine$Tokens.isDigit(I)Z -/
theorem gl_28 : gcd.lookup 28 = some gw_28 := rfl
theorem cd_28_0 : sm_cd 28 0 = some (.iload_n 0, 1, 0, 0, 0, 0, 0, 0, 0) := cd_of gl_28 rfl
theorem cd_28_1 : sm_cd 28 1 = some (.bipush 48, 2, 0, 0, 0, 0, 0, 48, 0) := cd_of gl_28 rfl
theorem cd_28_3 : sm_cd 28 3 = some (.if_icmp .lt 13, 3, 16, 0, 0, 0, 0, 0, 0) := cd_of gl_28 rfl
theorem cd_28_6 : sm_cd 28 6 = some (.iload_n 0, 1, 0, 0, 0, 0, 0, 0, 0) := cd_of gl_28 rfl
theorem cd_28_7 : sm_cd 28 7 = some (.bipush 57, 2, 0, 0, 0, 0, 0, 57, 0) := cd_of gl_28 rfl
theorem cd_28_9 : sm_cd 28 9 = some (.if_icmp .gt 7, 3, 16, 0, 0, 0, 0, 0, 0) := cd_of gl_28 rfl
theorem cd_28_12 : sm_cd 28 12 = some (.iconst 1, 1, 0, 0, 0, 0, 0, 1, 0) := cd_of gl_28 rfl
theorem cd_28_13 : sm_cd 28 13 = some (.goto 4, 3, 17, 0, 0, 0, 0, 0, 0) := cd_of gl_28 rfl
theorem cd_28_16 : sm_cd 28 16 = some (.iconst 0, 1, 0, 0, 0, 0, 0, 0, 0) := cd_of gl_28 rfl
theorem cd_28_17 : sm_cd 28 17 = some (.ireturn, 1, 0, 0, 2, 0, 0, 0, 0) := cd_of gl_28 rfl
noncomputable def f_28 (K : Nat → Value) (k d : Nat) (l0 : Int32) (w : aW) (I : aI) (J : aJ) : Option aR :=
  if l0 < 48 then
    some (some (.int 0), w, I, J)
  else
    if 57 < l0 then
      some (some (.int 0), w, I, J)
    else
      some (some (.int 1), w, I, J)
theorem ok_28 {K : Nat → Value} {k d : Nat} {l0 : Int32} {w : aW} {I : aI} {J : aJ} {R : aR} (h : f_28 K k d l0 w I J = some R) : Go K (d + 1) 28 0 [some (.int l0)] [] w I J R := by
  unfold f_28 at h
  refine gs_0 (pc' := 1) (L' := [some (.int l0)]) (st' := [.int l0]) cd_28_0 rfl rfl ?_
  refine gs_0 (pc' := 3) (L' := [some (.int l0)]) (st' := [.int 48, .int l0]) cd_28_1 rfl rfl ?_
  refine gs_0 (pc' := if l0 < 48 then 16 else 6) (L' := [some (.int l0)]) (st' := []) cd_28_3 rfl rfl ?_
  refine go_ite (fun hc => ?_) (fun hc => ?_)
  · rw [if_pos hc] at h
    refine gs_0 (pc' := 17) (L' := [some (.int l0)]) (st' := [.int 0]) cd_28_16 rfl rfl ?_
    cases h
    exact gs_ri cd_28_17 (Or.inr (Or.inl ⟨rfl, Or.inl rfl⟩))
  · rw [if_neg hc] at h
    refine gs_0 (pc' := 7) (L' := [some (.int l0)]) (st' := [.int l0]) cd_28_6 rfl rfl ?_
    refine gs_0 (pc' := 9) (L' := [some (.int l0)]) (st' := [.int 57, .int l0]) cd_28_7 rfl rfl ?_
    refine gs_0 (pc' := if 57 < l0 then 16 else 12) (L' := [some (.int l0)]) (st' := []) cd_28_9 rfl rfl ?_
    refine go_ite (fun hc => ?_) (fun hc => ?_)
    · rw [if_pos hc] at h
      refine gs_0 (pc' := 17) (L' := [some (.int l0)]) (st' := [.int 0]) cd_28_16 rfl rfl ?_
      cases h
      exact gs_ri cd_28_17 (Or.inr (Or.inl ⟨rfl, Or.inl rfl⟩))
    · rw [if_neg hc] at h
      refine gs_0 (pc' := 13) (L' := [some (.int l0)]) (st' := [.int 1]) cd_28_12 rfl rfl ?_
      refine gs_0 (pc' := 17) (L' := [some (.int l0)]) (st' := [.int 1]) cd_28_13 rfl rfl ?_
      cases h
      exact gs_ri cd_28_17 (Or.inr (Or.inl ⟨rfl, Or.inr rfl⟩))
theorem cl_28 {K : Nat → Value} {k d : Nat} {l0 : Int32} {w : aW} {I : aI} {J : aJ} {R : aR} (h : f_28 K k d l0 w I J = some R) : Cl K (d + 1) 28 [.int l0] w I J = some R := Cl_of (ok_28 h)
/-! ProvedMachine$Tokens.scanNumber([III)I -/
theorem gl_29 : gcd.lookup 29 = some gw_29 := rfl
theorem cd_29_0 : sm_cd 29 0 = some (.iload_n 2, 1, 2, 0, 0, 0, 0, 0, 0) := cd_of gl_29 rfl
theorem cd_29_1 : sm_cd 29 1 = some (.istore 4, 2, 4, 0, 0, 0, 0, 0, 0) := cd_of gl_29 rfl
theorem cd_29_3 : sm_cd 29 3 = some (.iconst 0, 1, 0, 0, 0, 0, 0, 0, 0) := cd_of gl_29 rfl
theorem cd_29_4 : sm_cd 29 4 = some (.istore 5, 2, 5, 0, 0, 0, 0, 0, 0) := cd_of gl_29 rfl
theorem cd_29_6 : sm_cd 29 6 = some (.iload 4, 2, 4, 0, 0, 0, 0, 0, 0) := cd_of gl_29 rfl
theorem cd_29_8 : sm_cd 29 8 = some (.iload_n 3, 1, 3, 0, 0, 0, 0, 0, 0) := cd_of gl_29 rfl
theorem cd_29_9 : sm_cd 29 9 = some (.if_icmp .ge 46, 3, 55, 0, 0, 0, 0, 0, 0) := cd_of gl_29 rfl
theorem cd_29_12 : sm_cd 29 12 = some (.aload_n 1, 1, 1, 0, 0, 0, 0, 0, 0) := cd_of gl_29 rfl
theorem cd_29_13 : sm_cd 29 13 = some (.iload 4, 2, 4, 0, 0, 0, 0, 0, 0) := cd_of gl_29 rfl
theorem cd_29_15 : sm_cd 29 15 = some (.iaload, 1, 0, 0, 0, 0, 0, 0, 0) := cd_of gl_29 rfl
theorem cd_29_16 : sm_cd 29 16 = some (.invokestatic 64, 3, 28, 1, 1, 1, 4, 0, 0) := cd_of gl_29 rfl
theorem cd_29_19 : sm_cd 29 19 = some (.ifCond .eq 36, 3, 55, 0, 0, 0, 0, 0, 0) := cd_of gl_29 rfl
theorem cd_29_22 : sm_cd 29 22 = some (.iload 4, 2, 4, 0, 0, 0, 0, 0, 0) := cd_of gl_29 rfl
theorem cd_29_24 : sm_cd 29 24 = some (.iload_n 2, 1, 2, 0, 0, 0, 0, 0, 0) := cd_of gl_29 rfl
theorem cd_29_25 : sm_cd 29 25 = some (.isub, 1, 0, 0, 0, 0, 0, 0, 0) := cd_of gl_29 rfl
theorem cd_29_26 : sm_cd 29 26 = some (.iconst 5, 1, 0, 0, 0, 0, 0, 5, 0) := cd_of gl_29 rfl
theorem cd_29_27 : sm_cd 29 27 = some (.if_icmp .ge 19, 3, 46, 0, 0, 0, 0, 0, 0) := cd_of gl_29 rfl
theorem cd_29_30 : sm_cd 29 30 = some (.iload 5, 2, 5, 0, 0, 0, 0, 0, 0) := cd_of gl_29 rfl
theorem cd_29_32 : sm_cd 29 32 = some (.bipush 10, 2, 0, 0, 0, 0, 0, 10, 0) := cd_of gl_29 rfl
theorem cd_29_34 : sm_cd 29 34 = some (.imul, 1, 0, 0, 0, 0, 0, 0, 0) := cd_of gl_29 rfl
theorem cd_29_35 : sm_cd 29 35 = some (.aload_n 1, 1, 1, 0, 0, 0, 0, 0, 0) := cd_of gl_29 rfl
theorem cd_29_36 : sm_cd 29 36 = some (.iload 4, 2, 4, 0, 0, 0, 0, 0, 0) := cd_of gl_29 rfl
theorem cd_29_38 : sm_cd 29 38 = some (.iaload, 1, 0, 0, 0, 0, 0, 0, 0) := cd_of gl_29 rfl
theorem cd_29_39 : sm_cd 29 39 = some (.iadd, 1, 0, 0, 0, 0, 0, 0, 0) := cd_of gl_29 rfl
theorem cd_29_40 : sm_cd 29 40 = some (.bipush 48, 2, 0, 0, 0, 0, 0, 48, 0) := cd_of gl_29 rfl
theorem cd_29_42 : sm_cd 29 42 = some (.isub, 1, 0, 0, 0, 0, 0, 0, 0) := cd_of gl_29 rfl
theorem cd_29_43 : sm_cd 29 43 = some (.goto 4, 3, 47, 0, 0, 0, 0, 0, 0) := cd_of gl_29 rfl
theorem cd_29_46 : sm_cd 29 46 = some (.iconst 0, 1, 0, 0, 0, 0, 0, 0, 0) := cd_of gl_29 rfl
theorem cd_29_47 : sm_cd 29 47 = some (.istore 5, 2, 5, 0, 0, 0, 0, 0, 0) := cd_of gl_29 rfl
theorem cd_29_49 : sm_cd 29 49 = some (.iinc 4 1, 3, 4, 0, 0, 0, 0, 1, 0) := cd_of gl_29 rfl
theorem cd_29_52 : sm_cd 29 52 = some (.goto (-46), 3, 6, 0, 0, 0, 0, 0, 0) := cd_of gl_29 rfl
theorem cd_29_55 : sm_cd 29 55 = some (.aload_n 0, 1, 0, 0, 0, 0, 0, 0, 0) := cd_of gl_29 rfl
theorem cd_29_56 : sm_cd 29 56 = some (.iload 4, 2, 4, 0, 0, 0, 0, 0, 0) := cd_of gl_29 rfl
theorem cd_29_58 : sm_cd 29 58 = some (.iload_n 2, 1, 2, 0, 0, 0, 0, 0, 0) := cd_of gl_29 rfl
theorem cd_29_59 : sm_cd 29 59 = some (.isub, 1, 0, 0, 0, 0, 0, 0, 0) := cd_of gl_29 rfl
theorem cd_29_60 : sm_cd 29 60 = some (.iconst 5, 1, 0, 0, 0, 0, 0, 5, 0) := cd_of gl_29 rfl
theorem cd_29_61 : sm_cd 29 61 = some (.if_icmp .le 7, 3, 68, 0, 0, 0, 0, 0, 0) := cd_of gl_29 rfl
theorem cd_29_64 : sm_cd 29 64 = some (.iconst 3, 1, 0, 0, 0, 0, 0, 3, 0) := cd_of gl_29 rfl
theorem cd_29_65 : sm_cd 29 65 = some (.goto 4, 3, 69, 0, 0, 0, 0, 0, 0) := cd_of gl_29 rfl
theorem cd_29_68 : sm_cd 29 68 = some (.iconst 2, 1, 0, 0, 0, 0, 0, 2, 0) := cd_of gl_29 rfl
theorem cd_29_69 : sm_cd 29 69 = some (.iload_n 2, 1, 2, 0, 0, 0, 0, 0, 0) := cd_of gl_29 rfl
theorem cd_29_70 : sm_cd 29 70 = some (.iload 5, 2, 5, 0, 0, 0, 0, 0, 0) := cd_of gl_29 rfl
theorem cd_29_72 : sm_cd 29 72 = some (.invokevirtual 76, 3, 26, 0, 3, 4, 4, 0, 0) := cd_of gl_29 rfl
theorem cd_29_75 : sm_cd 29 75 = some (.iload 4, 2, 4, 0, 0, 0, 0, 0, 0) := cd_of gl_29 rfl
theorem cd_29_77 : sm_cd 29 77 = some (.ireturn, 1, 0, 0, 1, 0, 0, 0, 0) := cd_of gl_29 rfl
noncomputable def f_29_69 (K : Nat → Value) (k d : Nat) (l0 : Nat) (l1 : Nat) (l2 : Int32) (l3 : Int32) (l4 : Int32) (l5 : Int32) (s0 : Nat) (s1 : Int32) (w : aW) (I : aI) (J : aJ) : Option aR :=
  gO w 4 s0 (
  cV (Cl K d 26 [.ref s0, .int s1, .int l2, .int l5] w I J) fun w_1 I_2 J_3 =>
  some (some (.int l4), w_1, I_2, J_3))
theorem ok_29_69 {K : Nat → Value} {k d : Nat} {l0 : Nat} {l1 : Nat} {l2 : Int32} {l3 : Int32} {l4 : Int32} {l5 : Int32} {s0 : Nat} {s1 : Int32} {w : aW} {I : aI} {J : aJ} {R : aR} (h : f_29_69 K k d l0 l1 l2 l3 l4 l5 s0 s1 w I J = some R) : Go K (d + 1) 29 69 [some (.ref l0), some (.ref l1), some (.int l2), some (.int l3), some (.int l4), some (.int l5)] [.int s1, .ref s0] w I J R := by
  unfold f_29_69 at h
  refine gs_0 (pc' := 70) (L' := [some (.ref l0), some (.ref l1), some (.int l2), some (.int l3), some (.int l4), some (.int l5)]) (st' := [.int l2, .int s1, .ref s0]) cd_29_69 rfl rfl ?_
  refine gs_0 (pc' := 72) (L' := [some (.ref l0), some (.ref l1), some (.int l2), some (.int l3), some (.int l4), some (.int l5)]) (st' := [.int l5, .int l2, .int s1, .ref s0]) cd_29_70 rfl rfl ?_
  obtain ⟨ht, h⟩ := gO_s h
  obtain ⟨w_1, I_2, J_3, hcl, h⟩ := cV_s h
  refine gs_call (as := [.ref s0, .int s1, .int l2, .int l5]) (rest := []) cd_29_72 rfl (by decide) rfl (sm_rv_ok (by decide) ht) (Nat.le_of_ble_eq_true rfl) (Nat.le_of_ble_eq_true rfl) rfl hcl ?_
  refine gs_0 (pc' := 77) (L' := [some (.ref l0), some (.ref l1), some (.int l2), some (.int l3), some (.int l4), some (.int l5)]) (st' := [.int l4]) cd_29_75 rfl rfl ?_
  cases h
  exact gs_ri cd_29_77 (Or.inl rfl)
noncomputable def f_29_55 (K : Nat → Value) (k d : Nat) (l0 : Nat) (l1 : Nat) (l2 : Int32) (l3 : Int32) (l4 : Int32) (l5 : Int32) (w : aW) (I : aI) (J : aJ) : Option aR :=
  if (l4 - l2) ≤ 5 then
    f_29_69 K k d l0 l1 l2 l3 l4 l5 l0 2 w I J
  else
    f_29_69 K k d l0 l1 l2 l3 l4 l5 l0 3 w I J
theorem ok_29_55 {K : Nat → Value} {k d : Nat} {l0 : Nat} {l1 : Nat} {l2 : Int32} {l3 : Int32} {l4 : Int32} {l5 : Int32} {w : aW} {I : aI} {J : aJ} {R : aR} (h : f_29_55 K k d l0 l1 l2 l3 l4 l5 w I J = some R) : Go K (d + 1) 29 55 [some (.ref l0), some (.ref l1), some (.int l2), some (.int l3), some (.int l4), some (.int l5)] [] w I J R := by
  unfold f_29_55 at h
  refine gs_0 (pc' := 56) (L' := [some (.ref l0), some (.ref l1), some (.int l2), some (.int l3), some (.int l4), some (.int l5)]) (st' := [.ref l0]) cd_29_55 rfl rfl ?_
  refine gs_0 (pc' := 58) (L' := [some (.ref l0), some (.ref l1), some (.int l2), some (.int l3), some (.int l4), some (.int l5)]) (st' := [.int l4, .ref l0]) cd_29_56 rfl rfl ?_
  refine gs_0 (pc' := 59) (L' := [some (.ref l0), some (.ref l1), some (.int l2), some (.int l3), some (.int l4), some (.int l5)]) (st' := [.int l2, .int l4, .ref l0]) cd_29_58 rfl rfl ?_
  refine gs_0 (pc' := 60) (L' := [some (.ref l0), some (.ref l1), some (.int l2), some (.int l3), some (.int l4), some (.int l5)]) (st' := [.int (l4 - l2), .ref l0]) cd_29_59 rfl rfl ?_
  refine gs_0 (pc' := 61) (L' := [some (.ref l0), some (.ref l1), some (.int l2), some (.int l3), some (.int l4), some (.int l5)]) (st' := [.int 5, .int (l4 - l2), .ref l0]) cd_29_60 rfl rfl ?_
  refine gs_0 (pc' := if (l4 - l2) ≤ 5 then 68 else 64) (L' := [some (.ref l0), some (.ref l1), some (.int l2), some (.int l3), some (.int l4), some (.int l5)]) (st' := [.ref l0]) cd_29_61 rfl rfl ?_
  refine go_ite (fun hc => ?_) (fun hc => ?_)
  · rw [if_pos hc] at h
    refine gs_0 (pc' := 69) (L' := [some (.ref l0), some (.ref l1), some (.int l2), some (.int l3), some (.int l4), some (.int l5)]) (st' := [.int 2, .ref l0]) cd_29_68 rfl rfl ?_
    exact ok_29_69 h
  · rw [if_neg hc] at h
    refine gs_0 (pc' := 65) (L' := [some (.ref l0), some (.ref l1), some (.int l2), some (.int l3), some (.int l4), some (.int l5)]) (st' := [.int 3, .ref l0]) cd_29_64 rfl rfl ?_
    refine gs_0 (pc' := 69) (L' := [some (.ref l0), some (.ref l1), some (.int l2), some (.int l3), some (.int l4), some (.int l5)]) (st' := [.int 3, .ref l0]) cd_29_65 rfl rfl ?_
    exact ok_29_69 h
noncomputable def f_29_47 (K : Nat → Value) (k d : Nat) (r6 : Nat → Nat → Int32 → Int32 → Int32 → Int32 → aW → aI → aJ → Option aR) (l0 : Nat) (l1 : Nat) (l2 : Int32) (l3 : Int32) (l4 : Int32) (l5 : Int32) (s0 : Int32) (w : aW) (I : aI) (J : aJ) : Option aR :=
  lt_ (l4 + 1) fun x_1 =>
  r6 l0 l1 l2 l3 x_1 s0 w I J
theorem ok_29_47 {K : Nat → Value} {k d : Nat} {r6 : Nat → Nat → Int32 → Int32 → Int32 → Int32 → aW → aI → aJ → Option aR} (hr6 : ∀ (l0 : Nat) (l1 : Nat) (l2 : Int32) (l3 : Int32) (l4 : Int32) (l5 : Int32) (w : aW) (I : aI) (J : aJ) (R : aR), r6 l0 l1 l2 l3 l4 l5 w I J = some R → Go K (d + 1) 29 6 [some (.ref l0), some (.ref l1), some (.int l2), some (.int l3), some (.int l4), some (.int l5)] [] w I J R) {l0 : Nat} {l1 : Nat} {l2 : Int32} {l3 : Int32} {l4 : Int32} {l5 : Int32} {s0 : Int32} {w : aW} {I : aI} {J : aJ} {R : aR} (h : f_29_47 K k d r6 l0 l1 l2 l3 l4 l5 s0 w I J = some R) : Go K (d + 1) 29 47 [some (.ref l0), some (.ref l1), some (.int l2), some (.int l3), some (.int l4), some (.int l5)] [.int s0] w I J R := by
  unfold f_29_47 at h
  refine gs_0 (pc' := 49) (L' := [some (.ref l0), some (.ref l1), some (.int l2), some (.int l3), some (.int l4), some (.int s0)]) (st' := []) cd_29_47 rfl rfl ?_
  refine gs_0 (pc' := 52) (L' := [some (.ref l0), some (.ref l1), some (.int l2), some (.int l3), some (.int (l4 + 1)), some (.int s0)]) (st' := []) cd_29_49 rfl rfl ?_
  obtain ⟨x_1, hx, h⟩ := lt_s_ h
  rw [hx]
  clear hx
  refine gs_0 (pc' := 6) (L' := [some (.ref l0), some (.ref l1), some (.int l2), some (.int l3), some (.int x_1), some (.int s0)]) (st' := []) cd_29_52 rfl rfl ?_
  exact hr6 l0 l1 l2 l3 x_1 s0 _ _ _ _ h
noncomputable def f_29_6 (K : Nat → Value) (k : Nat) (d : Nat) : Nat → Nat → Int32 → Int32 → Int32 → Int32 → aW → aI → aJ → Option aR :=
  match k with
  | 0 => fun _ _ _ _ _ _ _ _ _ => none
  | k + 1 => fun l0 l1 l2 l3 l4 l5 w I J =>
  lt_ (f_29_6 K k d) fun r6 =>
  if l3 ≤ l4 then
    f_29_55 K k d l0 l1 l2 l3 l4 l5 w I J
  else
    gA w 10 20 l1 l4 (
    cI (Cl K d 28 [.int (I l1 (l4 : Int32).toNatClampNeg)] w I J) fun x_4 w_1 I_2 J_3 =>
    if x_4 = 0 then
      f_29_55 K k d l0 l1 l2 l3 l4 l5 w_1 I_2 J_3
    else
      if 5 ≤ (l4 - l2) then
        f_29_47 K k d r6 l0 l1 l2 l3 l4 l5 0 w_1 I_2 J_3
      else
        gA w_1 10 20 l1 l4 (
        f_29_47 K k d r6 l0 l1 l2 l3 l4 l5 (((l5 * 10) + (I_2 l1 (l4 : Int32).toNatClampNeg)) - 48) w_1 I_2 J_3))
theorem ok_29_6 {K : Nat → Value} {d : Nat} : ∀ {k : Nat} {l0 : Nat} {l1 : Nat} {l2 : Int32} {l3 : Int32} {l4 : Int32} {l5 : Int32} {w : aW} {I : aI} {J : aJ} {R : aR}, f_29_6 K k d l0 l1 l2 l3 l4 l5 w I J = some R → Go K (d + 1) 29 6 [some (.ref l0), some (.ref l1), some (.int l2), some (.int l3), some (.int l4), some (.int l5)] [] w I J R := by
  intro k
  induction k with
  | zero => intro l0 l1 l2 l3 l4 l5 w I J R h; cases h
  | succ k ih =>
    intro l0 l1 l2 l3 l4 l5 w I J R h
    have hr6 : ∀ (l0 : Nat) (l1 : Nat) (l2 : Int32) (l3 : Int32) (l4 : Int32) (l5 : Int32) (w : aW) (I : aI) (J : aJ) (R : aR), f_29_6 K k d l0 l1 l2 l3 l4 l5 w I J = some R → Go K (d + 1) 29 6 [some (.ref l0), some (.ref l1), some (.int l2), some (.int l3), some (.int l4), some (.int l5)] [] w I J R := fun l0 l1 l2 l3 l4 l5 w I J R h => ih h
    rw [f_29_6] at h
    obtain ⟨r6, hx, h⟩ := lt_s_ h
    rw [hx] at hr6
    clear hx ih
    refine gs_0 (pc' := 8) (L' := [some (.ref l0), some (.ref l1), some (.int l2), some (.int l3), some (.int l4), some (.int l5)]) (st' := [.int l4]) cd_29_6 rfl rfl ?_
    refine gs_0 (pc' := 9) (L' := [some (.ref l0), some (.ref l1), some (.int l2), some (.int l3), some (.int l4), some (.int l5)]) (st' := [.int l3, .int l4]) cd_29_8 rfl rfl ?_
    refine gs_0 (pc' := if l3 ≤ l4 then 55 else 12) (L' := [some (.ref l0), some (.ref l1), some (.int l2), some (.int l3), some (.int l4), some (.int l5)]) (st' := []) cd_29_9 rfl rfl ?_
    refine go_ite (fun hc => ?_) (fun hc => ?_)
    · rw [if_pos hc] at h
      exact ok_29_55 h
    · rw [if_neg hc] at h
      refine gs_0 (pc' := 13) (L' := [some (.ref l0), some (.ref l1), some (.int l2), some (.int l3), some (.int l4), some (.int l5)]) (st' := [.ref l1]) cd_29_12 rfl rfl ?_
      refine gs_0 (pc' := 15) (L' := [some (.ref l0), some (.ref l1), some (.int l2), some (.int l3), some (.int l4), some (.int l5)]) (st' := [.int l4, .ref l1]) cd_29_13 rfl rfl ?_
      obtain ⟨ht, h⟩ := gA_s h
      refine gs_iald cd_29_15 ht ?_
      obtain ⟨x_4, w_1, I_2, J_3, hcl, h⟩ := cI_s h
      refine gs_call (as := [.int (I l1 (l4 : Int32).toNatClampNeg)]) (rest := []) cd_29_16 rfl (by decide) rfl rfl (Nat.le_of_ble_eq_true rfl) (Nat.le_of_ble_eq_true rfl) rfl hcl ?_
      refine gs_0 (pc' := if x_4 = 0 then 55 else 22) (L' := [some (.ref l0), some (.ref l1), some (.int l2), some (.int l3), some (.int l4), some (.int l5)]) (st' := []) cd_29_19 rfl rfl ?_
      refine go_ite (fun hc => ?_) (fun hc => ?_)
      · rw [if_pos hc] at h
        exact ok_29_55 h
      · rw [if_neg hc] at h
        refine gs_0 (pc' := 24) (L' := [some (.ref l0), some (.ref l1), some (.int l2), some (.int l3), some (.int l4), some (.int l5)]) (st' := [.int l4]) cd_29_22 rfl rfl ?_
        refine gs_0 (pc' := 25) (L' := [some (.ref l0), some (.ref l1), some (.int l2), some (.int l3), some (.int l4), some (.int l5)]) (st' := [.int l2, .int l4]) cd_29_24 rfl rfl ?_
        refine gs_0 (pc' := 26) (L' := [some (.ref l0), some (.ref l1), some (.int l2), some (.int l3), some (.int l4), some (.int l5)]) (st' := [.int (l4 - l2)]) cd_29_25 rfl rfl ?_
        refine gs_0 (pc' := 27) (L' := [some (.ref l0), some (.ref l1), some (.int l2), some (.int l3), some (.int l4), some (.int l5)]) (st' := [.int 5, .int (l4 - l2)]) cd_29_26 rfl rfl ?_
        refine gs_0 (pc' := if 5 ≤ (l4 - l2) then 46 else 30) (L' := [some (.ref l0), some (.ref l1), some (.int l2), some (.int l3), some (.int l4), some (.int l5)]) (st' := []) cd_29_27 rfl rfl ?_
        refine go_ite (fun hc => ?_) (fun hc => ?_)
        · rw [if_pos hc] at h
          refine gs_0 (pc' := 47) (L' := [some (.ref l0), some (.ref l1), some (.int l2), some (.int l3), some (.int l4), some (.int l5)]) (st' := [.int 0]) cd_29_46 rfl rfl ?_
          exact ok_29_47 hr6 h
        · rw [if_neg hc] at h
          refine gs_0 (pc' := 32) (L' := [some (.ref l0), some (.ref l1), some (.int l2), some (.int l3), some (.int l4), some (.int l5)]) (st' := [.int l5]) cd_29_30 rfl rfl ?_
          refine gs_0 (pc' := 34) (L' := [some (.ref l0), some (.ref l1), some (.int l2), some (.int l3), some (.int l4), some (.int l5)]) (st' := [.int 10, .int l5]) cd_29_32 rfl rfl ?_
          refine gs_0 (pc' := 35) (L' := [some (.ref l0), some (.ref l1), some (.int l2), some (.int l3), some (.int l4), some (.int l5)]) (st' := [.int (l5 * 10)]) cd_29_34 rfl rfl ?_
          refine gs_0 (pc' := 36) (L' := [some (.ref l0), some (.ref l1), some (.int l2), some (.int l3), some (.int l4), some (.int l5)]) (st' := [.ref l1, .int (l5 * 10)]) cd_29_35 rfl rfl ?_
          refine gs_0 (pc' := 38) (L' := [some (.ref l0), some (.ref l1), some (.int l2), some (.int l3), some (.int l4), some (.int l5)]) (st' := [.int l4, .ref l1, .int (l5 * 10)]) cd_29_36 rfl rfl ?_
          obtain ⟨ht, h⟩ := gA_s h
          refine gs_iald cd_29_38 ht ?_
          refine gs_0 (pc' := 40) (L' := [some (.ref l0), some (.ref l1), some (.int l2), some (.int l3), some (.int l4), some (.int l5)]) (st' := [.int ((l5 * 10) + (I_2 l1 (l4 : Int32).toNatClampNeg))]) cd_29_39 rfl rfl ?_
          refine gs_0 (pc' := 42) (L' := [some (.ref l0), some (.ref l1), some (.int l2), some (.int l3), some (.int l4), some (.int l5)]) (st' := [.int 48, .int ((l5 * 10) + (I_2 l1 (l4 : Int32).toNatClampNeg))]) cd_29_40 rfl rfl ?_
          refine gs_0 (pc' := 43) (L' := [some (.ref l0), some (.ref l1), some (.int l2), some (.int l3), some (.int l4), some (.int l5)]) (st' := [.int (((l5 * 10) + (I_2 l1 (l4 : Int32).toNatClampNeg)) - 48)]) cd_29_42 rfl rfl ?_
          refine gs_0 (pc' := 47) (L' := [some (.ref l0), some (.ref l1), some (.int l2), some (.int l3), some (.int l4), some (.int l5)]) (st' := [.int (((l5 * 10) + (I_2 l1 (l4 : Int32).toNatClampNeg)) - 48)]) cd_29_43 rfl rfl ?_
          exact ok_29_47 hr6 h
noncomputable def f_29 (K : Nat → Value) (k d : Nat) (l0 : Nat) (l1 : Nat) (l2 : Int32) (l3 : Int32) (w : aW) (I : aI) (J : aJ) : Option aR :=
  f_29_6 K k d l0 l1 l2 l3 l2 0 w I J
theorem ok_29 {K : Nat → Value} {k d : Nat} {l0 : Nat} {l1 : Nat} {l2 : Int32} {l3 : Int32} {w : aW} {I : aI} {J : aJ} {R : aR} (h : f_29 K k d l0 l1 l2 l3 w I J = some R) : Go K (d + 1) 29 0 [some (.ref l0), some (.ref l1), some (.int l2), some (.int l3), none, none] [] w I J R := by
  unfold f_29 at h
  refine gs_0 (pc' := 1) (L' := [some (.ref l0), some (.ref l1), some (.int l2), some (.int l3), none, none]) (st' := [.int l2]) cd_29_0 rfl rfl ?_
  refine gs_0 (pc' := 3) (L' := [some (.ref l0), some (.ref l1), some (.int l2), some (.int l3), some (.int l2), none]) (st' := []) cd_29_1 rfl rfl ?_
  refine gs_0 (pc' := 4) (L' := [some (.ref l0), some (.ref l1), some (.int l2), some (.int l3), some (.int l2), none]) (st' := [.int 0]) cd_29_3 rfl rfl ?_
  refine gs_0 (pc' := 6) (L' := [some (.ref l0), some (.ref l1), some (.int l2), some (.int l3), some (.int l2), some (.int 0)]) (st' := []) cd_29_4 rfl rfl ?_
  exact ok_29_6 h
theorem cl_29 {K : Nat → Value} {k d : Nat} {l0 : Nat} {l1 : Nat} {l2 : Int32} {l3 : Int32} {w : aW} {I : aI} {J : aJ} {R : aR} (h : f_29 K k d l0 l1 l2 l3 w I J = some R) : Cl K (d + 1) 29 [.ref l0, .ref l1, .int l2, .int l3] w I J = some R := Cl_of (ok_29 h)
/-! java/lang/String.indexOf(I)I -/
theorem gl_30 : gcd.lookup 30 = some gw_30 := rfl
theorem cd_30_0 : sm_cd 30 0 = some (.aload_n 0, 1, 0, 0, 0, 0, 0, 0, 0) := cd_of gl_30 rfl
theorem cd_30_1 : sm_cd 30 1 = some (.iload_n 1, 1, 1, 0, 0, 0, 0, 0, 0) := cd_of gl_30 rfl
theorem cd_30_2 : sm_cd 30 2 = some (.iconst 0, 1, 0, 0, 0, 0, 0, 0, 0) := cd_of gl_30 rfl
theorem cd_30_3 : sm_cd 30 3 = some (.invokevirtual 633, 3, 31, 0, 2, 3, 7, 0, 0) := cd_of gl_30 rfl
theorem cd_30_6 : sm_cd 30 6 = some (.ireturn, 1, 0, 0, 1, 0, 0, 0, 0) := cd_of gl_30 rfl
noncomputable def f_30 (K : Nat → Value) (k d : Nat) (l0 : Nat) (l1 : Int32) (w : aW) (I : aI) (J : aJ) : Option aR :=
  gC (sm_isS K l0 = true) (
  cI (Cl K d 31 [.ref l0, .int l1, .int 0] w I J) fun x_4 w_1 I_2 J_3 =>
  some (some (.int x_4), w_1, I_2, J_3))
theorem ok_30 {K : Nat → Value} {k d : Nat} {l0 : Nat} {l1 : Int32} {w : aW} {I : aI} {J : aJ} {R : aR} (h : f_30 K k d l0 l1 w I J = some R) : Go K (d + 1) 30 0 [some (.ref l0), some (.int l1)] [] w I J R := by
  unfold f_30 at h
  refine gs_0 (pc' := 1) (L' := [some (.ref l0), some (.int l1)]) (st' := [.ref l0]) cd_30_0 rfl rfl ?_
  refine gs_0 (pc' := 2) (L' := [some (.ref l0), some (.int l1)]) (st' := [.int l1, .ref l0]) cd_30_1 rfl rfl ?_
  refine gs_0 (pc' := 3) (L' := [some (.ref l0), some (.int l1)]) (st' := [.int 0, .int l1, .ref l0]) cd_30_2 rfl rfl ?_
  obtain ⟨hS, h⟩ := gC_s h
  obtain ⟨x_4, w_1, I_2, J_3, hcl, h⟩ := cI_s h
  refine gs_call (as := [.ref l0, .int l1, .int 0]) (rest := []) cd_30_3 rfl (by decide) rfl (sm_rv_S hS) (Nat.le_of_ble_eq_true rfl) (Nat.le_of_ble_eq_true rfl) rfl hcl ?_
  cases h
  exact gs_ri cd_30_6 (Or.inl rfl)
theorem cl_30 {K : Nat → Value} {k d : Nat} {l0 : Nat} {l1 : Int32} {w : aW} {I : aI} {J : aJ} {R : aR} (h : f_30 K k d l0 l1 w I J = some R) : Cl K (d + 1) 30 [.ref l0, .int l1] w I J = some R := Cl_of (ok_30 h)
/-! java/lang/String.indexOf(II)I -/
theorem gl_31 : gcd.lookup 31 = some gw_31 := rfl
theorem cd_31_0 : sm_cd 31 0 = some (.aload_n 0, 1, 0, 0, 0, 0, 0, 0, 0) := cd_of gl_31 rfl
theorem cd_31_1 : sm_cd 31 1 = some (.invokevirtual 492, 3, 7, 0, 0, 1, 7, 0, 0) := cd_of gl_31 rfl
theorem cd_31_4 : sm_cd 31 4 = some (.ifCond .eq 19, 3, 23, 0, 0, 0, 0, 0, 0) := cd_of gl_31 rfl
theorem cd_31_7 : sm_cd 31 7 = some (.aload_n 0, 1, 0, 0, 0, 0, 0, 0, 0) := cd_of gl_31 rfl
theorem cd_31_8 : sm_cd 31 8 = some (.getfield 9, 3, 7, 0, 2, 0, 0, 0, 0) := cd_of gl_31 rfl
theorem cd_31_11 : sm_cd 31 11 = some (.iload_n 1, 1, 1, 0, 0, 0, 0, 0, 0) := cd_of gl_31 rfl
theorem cd_31_12 : sm_cd 31 12 = some (.iload_n 2, 1, 2, 0, 0, 0, 0, 0, 0) := cd_of gl_31 rfl
theorem cd_31_13 : sm_cd 31 13 = some (.aload_n 0, 1, 0, 0, 0, 0, 0, 0, 0) := cd_of gl_31 rfl
theorem cd_31_14 : sm_cd 31 14 = some (.invokevirtual 505, 3, 4, 0, 0, 1, 7, 0, 0) := cd_of gl_31 rfl
theorem cd_31_17 : sm_cd 31 17 = some (.invokestatic 637, 3, 32, 1, 4, 4, 11, 0, 0) := cd_of gl_31 rfl
theorem cd_31_20 : sm_cd 31 20 = some (.goto 16, 3, 36, 0, 0, 0, 0, 0, 0) := cd_of gl_31 rfl
theorem cd_31_23 : sm_cd 31 23 = some (.aload_n 0, 1, 0, 0, 0, 0, 0, 0, 0) := cd_of gl_31 rfl
theorem cd_31_24 : sm_cd 31 24 = some (.getfield 9, 3, 7, 0, 2, 0, 0, 0, 0) := cd_of gl_31 rfl
theorem cd_31_27 : sm_cd 31 27 = some (.iload_n 1, 1, 1, 0, 0, 0, 0, 0, 0) := cd_of gl_31 rfl
theorem cd_31_28 : sm_cd 31 28 = some (.iload_n 2, 1, 2, 0, 0, 0, 0, 0, 0) := cd_of gl_31 rfl
theorem cd_31_29 : sm_cd 31 29 = some (.aload_n 0, 1, 0, 0, 0, 0, 0, 0, 0) := cd_of gl_31 rfl
theorem cd_31_30 : sm_cd 31 30 = some (.invokevirtual 505, 3, 4, 0, 0, 1, 7, 0, 0) := cd_of gl_31 rfl
theorem cd_31_36 : sm_cd 31 36 = some (.ireturn, 1, 0, 0, 1, 0, 0, 0, 0) := cd_of gl_31 rfl
noncomputable def f_31 (K : Nat → Value) (k d : Nat) (l0 : Nat) (l1 : Int32) (l2 : Int32) (w : aW) (I : aI) (J : aJ) : Option aR :=
  gC (sm_isS K l0 = true) (
  cI (Cl K d 7 [.ref l0] w I J) fun x_4 w_1 I_2 J_3 =>
  if x_4 = 0 then
    gC (sm_isS K l0 = true) (
    gV w_1 l0 0 fun q_5 =>
    gC (sm_isS K l0 = true) (
    cI (Cl K d 4 [.ref l0] w_1 I_2 J_3) fun x_9 w_6 I_7 J_8 =>
    none))
  else
    gC (sm_isS K l0 = true) (
    gV w_1 l0 0 fun q_10 =>
    gC (sm_isS K l0 = true) (
    cI (Cl K d 4 [.ref l0] w_1 I_2 J_3) fun x_14 w_11 I_12 J_13 =>
    cI (Cl K d 32 [.ref q_10, .int l1, .int l2, .int x_14] w_11 I_12 J_13) fun x_18 w_15 I_16 J_17 =>
    some (some (.int x_18), w_15, I_16, J_17))))
theorem ok_31 {K : Nat → Value} {k d : Nat} {l0 : Nat} {l1 : Int32} {l2 : Int32} {w : aW} {I : aI} {J : aJ} {R : aR} (h : f_31 K k d l0 l1 l2 w I J = some R) : Go K (d + 1) 31 0 [some (.ref l0), some (.int l1), some (.int l2)] [] w I J R := by
  unfold f_31 at h
  refine gs_0 (pc' := 1) (L' := [some (.ref l0), some (.int l1), some (.int l2)]) (st' := [.ref l0]) cd_31_0 rfl rfl ?_
  obtain ⟨hS, h⟩ := gC_s h
  obtain ⟨x_4, w_1, I_2, J_3, hcl, h⟩ := cI_s h
  refine gs_call (as := [.ref l0]) (rest := []) cd_31_1 rfl (by decide) rfl (sm_rv_S hS) (Nat.le_of_ble_eq_true rfl) (Nat.le_of_ble_eq_true rfl) rfl hcl ?_
  refine gs_0 (pc' := if x_4 = 0 then 23 else 7) (L' := [some (.ref l0), some (.int l1), some (.int l2)]) (st' := []) cd_31_4 rfl rfl ?_
  refine go_ite (fun hc => ?_) (fun hc => ?_)
  · rw [if_pos hc] at h
    refine gs_0 (pc' := 24) (L' := [some (.ref l0), some (.int l1), some (.int l2)]) (st' := [.ref l0]) cd_31_23 rfl rfl ?_
    obtain ⟨hS, h⟩ := gC_s h
    obtain ⟨q_5, hv, h⟩ := gV_s h
    refine gs_gfS0 cd_31_24 hS hv ?_
    refine gs_0 (pc' := 28) (L' := [some (.ref l0), some (.int l1), some (.int l2)]) (st' := [.int l1, .ref q_5]) cd_31_27 rfl rfl ?_
    refine gs_0 (pc' := 29) (L' := [some (.ref l0), some (.int l1), some (.int l2)]) (st' := [.int l2, .int l1, .ref q_5]) cd_31_28 rfl rfl ?_
    refine gs_0 (pc' := 30) (L' := [some (.ref l0), some (.int l1), some (.int l2)]) (st' := [.ref l0, .int l2, .int l1, .ref q_5]) cd_31_29 rfl rfl ?_
    obtain ⟨hS, h⟩ := gC_s h
    obtain ⟨x_9, w_6, I_7, J_8, hcl, h⟩ := cI_s h
    refine gs_call (as := [.ref l0]) (rest := [.int l2, .int l1, .ref q_5]) cd_31_30 rfl (by decide) rfl (sm_rv_S hS) (Nat.le_of_ble_eq_true rfl) (Nat.le_of_ble_eq_true rfl) rfl hcl ?_
    cases h
  · rw [if_neg hc] at h
    refine gs_0 (pc' := 8) (L' := [some (.ref l0), some (.int l1), some (.int l2)]) (st' := [.ref l0]) cd_31_7 rfl rfl ?_
    obtain ⟨hS, h⟩ := gC_s h
    obtain ⟨q_10, hv, h⟩ := gV_s h
    refine gs_gfS0 cd_31_8 hS hv ?_
    refine gs_0 (pc' := 12) (L' := [some (.ref l0), some (.int l1), some (.int l2)]) (st' := [.int l1, .ref q_10]) cd_31_11 rfl rfl ?_
    refine gs_0 (pc' := 13) (L' := [some (.ref l0), some (.int l1), some (.int l2)]) (st' := [.int l2, .int l1, .ref q_10]) cd_31_12 rfl rfl ?_
    refine gs_0 (pc' := 14) (L' := [some (.ref l0), some (.int l1), some (.int l2)]) (st' := [.ref l0, .int l2, .int l1, .ref q_10]) cd_31_13 rfl rfl ?_
    obtain ⟨hS, h⟩ := gC_s h
    obtain ⟨x_14, w_11, I_12, J_13, hcl, h⟩ := cI_s h
    refine gs_call (as := [.ref l0]) (rest := [.int l2, .int l1, .ref q_10]) cd_31_14 rfl (by decide) rfl (sm_rv_S hS) (Nat.le_of_ble_eq_true rfl) (Nat.le_of_ble_eq_true rfl) rfl hcl ?_
    obtain ⟨x_18, w_15, I_16, J_17, hcl, h⟩ := cI_s h
    refine gs_call (as := [.ref q_10, .int l1, .int l2, .int x_14]) (rest := []) cd_31_17 rfl (by decide) rfl rfl (Nat.le_of_ble_eq_true rfl) (Nat.le_of_ble_eq_true rfl) rfl hcl ?_
    refine gs_0 (pc' := 36) (L' := [some (.ref l0), some (.int l1), some (.int l2)]) (st' := [.int x_18]) cd_31_20 rfl rfl ?_
    cases h
    exact gs_ri cd_31_36 (Or.inl rfl)
theorem cl_31 {K : Nat → Value} {k d : Nat} {l0 : Nat} {l1 : Int32} {l2 : Int32} {w : aW} {I : aI} {J : aJ} {R : aR} (h : f_31 K k d l0 l1 l2 w I J = some R) : Cl K (d + 1) 31 [.ref l0, .int l1, .int l2] w I J = some R := Cl_of (ok_31 h)
/-! java/lang/StringLatin1.indexOf([BIII)I -/
theorem gl_32 : gcd.lookup 32 = some gw_32 := rfl
theorem cd_32_0 : sm_cd 32 0 = some (.iload_n 1, 1, 1, 0, 0, 0, 0, 0, 0) := cd_of gl_32 rfl
theorem cd_32_1 : sm_cd 32 1 = some (.invokestatic 88, 3, 33, 1, 1, 1, 11, 0, 0) := cd_of gl_32 rfl
theorem cd_32_4 : sm_cd 32 4 = some (.ifCond .ne 5, 3, 9, 0, 0, 0, 0, 0, 0) := cd_of gl_32 rfl
theorem cd_32_7 : sm_cd 32 7 = some (.iconst (-1), 1, 0, 0, 0, 0, 0, (-1), 0) := cd_of gl_32 rfl
theorem cd_32_8 : sm_cd 32 8 = some (.ireturn, 1, 0, 0, 1, 0, 0, 0, 0) := cd_of gl_32 rfl
theorem cd_32_9 : sm_cd 32 9 = some (.iload_n 2, 1, 2, 0, 0, 0, 0, 0, 0) := cd_of gl_32 rfl
theorem cd_32_10 : sm_cd 32 10 = some (.iconst 0, 1, 0, 0, 0, 0, 0, 0, 0) := cd_of gl_32 rfl
theorem cd_32_11 : sm_cd 32 11 = some (.invokestatic 92, 3, 0, 7, 0, 0, 0, 0, 0) := cd_of gl_32 rfl
theorem cd_32_14 : sm_cd 32 14 = some (.istore_n 2, 1, 2, 0, 0, 0, 0, 0, 0) := cd_of gl_32 rfl
theorem cd_32_15 : sm_cd 32 15 = some (.iload_n 3, 1, 3, 0, 0, 0, 0, 0, 0) := cd_of gl_32 rfl
theorem cd_32_16 : sm_cd 32 16 = some (.aload_n 0, 1, 0, 0, 0, 0, 0, 0, 0) := cd_of gl_32 rfl
theorem cd_32_17 : sm_cd 32 17 = some (.arraylength, 1, 0, 0, 0, 0, 0, 0, 0) := cd_of gl_32 rfl
theorem cd_32_18 : sm_cd 32 18 = some (.invokestatic 38, 3, 0, 6, 0, 0, 0, 0, 0) := cd_of gl_32 rfl
theorem cd_32_21 : sm_cd 32 21 = some (.istore_n 3, 1, 3, 0, 0, 0, 0, 0, 0) := cd_of gl_32 rfl
theorem cd_32_22 : sm_cd 32 22 = some (.iload_n 2, 1, 2, 0, 0, 0, 0, 0, 0) := cd_of gl_32 rfl
theorem cd_32_23 : sm_cd 32 23 = some (.iload_n 3, 1, 3, 0, 0, 0, 0, 0, 0) := cd_of gl_32 rfl
theorem cd_32_24 : sm_cd 32 24 = some (.if_icmp .lt 5, 3, 29, 0, 0, 0, 0, 0, 0) := cd_of gl_32 rfl
theorem cd_32_27 : sm_cd 32 27 = some (.iconst (-1), 1, 0, 0, 0, 0, 0, (-1), 0) := cd_of gl_32 rfl
theorem cd_32_28 : sm_cd 32 28 = some (.ireturn, 1, 0, 0, 1, 0, 0, 0, 0) := cd_of gl_32 rfl
theorem cd_32_29 : sm_cd 32 29 = some (.aload_n 0, 1, 0, 0, 0, 0, 0, 0, 0) := cd_of gl_32 rfl
theorem cd_32_30 : sm_cd 32 30 = some (.iload_n 1, 1, 1, 0, 0, 0, 0, 0, 0) := cd_of gl_32 rfl
theorem cd_32_31 : sm_cd 32 31 = some (.iload_n 2, 1, 2, 0, 0, 0, 0, 0, 0) := cd_of gl_32 rfl
theorem cd_32_32 : sm_cd 32 32 = some (.iload_n 3, 1, 3, 0, 0, 0, 0, 0, 0) := cd_of gl_32 rfl
theorem cd_32_33 : sm_cd 32 33 = some (.invokestatic 95, 3, 34, 1, 4, 6, 11, 0, 0) := cd_of gl_32 rfl
theorem cd_32_36 : sm_cd 32 36 = some (.ireturn, 1, 0, 0, 1, 0, 0, 0, 0) := cd_of gl_32 rfl
noncomputable def f_32 (K : Nat → Value) (k d : Nat) (l0 : Nat) (l1 : Int32) (l2 : Int32) (l3 : Int32) (w : aW) (I : aI) (J : aJ) : Option aR :=
  cI (Cl K d 33 [.int l1] w I J) fun x_4 w_1 I_2 J_3 =>
  if ¬ x_4 = 0 then
    lt_ ((if (l2 : Int32) < (0 : Int32) then (0 : Int32) else (l2 : Int32))) fun x_5 =>
    gL w_1 l0 fun n_6 =>
    lt_ ((if (n_6 : Int32) < (l3 : Int32) then (n_6 : Int32) else (l3 : Int32))) fun x_7 =>
    if x_5 < x_7 then
      cI (Cl K d 34 [.ref l0, .int l1, .int x_5, .int x_7] w_1 I_2 J_3) fun x_11 w_8 I_9 J_10 =>
      some (some (.int x_11), w_8, I_9, J_10)
    else
      some (some (.int (-1)), w_1, I_2, J_3)
  else
    some (some (.int (-1)), w_1, I_2, J_3)
theorem ok_32 {K : Nat → Value} {k d : Nat} {l0 : Nat} {l1 : Int32} {l2 : Int32} {l3 : Int32} {w : aW} {I : aI} {J : aJ} {R : aR} (h : f_32 K k d l0 l1 l2 l3 w I J = some R) : Go K (d + 1) 32 0 [some (.ref l0), some (.int l1), some (.int l2), some (.int l3)] [] w I J R := by
  unfold f_32 at h
  refine gs_0 (pc' := 1) (L' := [some (.ref l0), some (.int l1), some (.int l2), some (.int l3)]) (st' := [.int l1]) cd_32_0 rfl rfl ?_
  obtain ⟨x_4, w_1, I_2, J_3, hcl, h⟩ := cI_s h
  refine gs_call (as := [.int l1]) (rest := []) cd_32_1 rfl (by decide) rfl rfl (Nat.le_of_ble_eq_true rfl) (Nat.le_of_ble_eq_true rfl) rfl hcl ?_
  refine gs_0 (pc' := if ¬ x_4 = 0 then 9 else 7) (L' := [some (.ref l0), some (.int l1), some (.int l2), some (.int l3)]) (st' := []) cd_32_4 rfl rfl ?_
  refine go_ite (fun hc => ?_) (fun hc => ?_)
  · rw [if_pos hc] at h
    refine gs_0 (pc' := 10) (L' := [some (.ref l0), some (.int l1), some (.int l2), some (.int l3)]) (st' := [.int l2]) cd_32_9 rfl rfl ?_
    refine gs_0 (pc' := 11) (L' := [some (.ref l0), some (.int l1), some (.int l2), some (.int l3)]) (st' := [.int 0, .int l2]) cd_32_10 rfl rfl ?_
    refine gsp (pc' := 14) (L' := [some (.ref l0), some (.int l1), some (.int l2), some (.int l3)]) (st' := [.int ((if (l2 : Int32) < (0 : Int32) then (0 : Int32) else (l2 : Int32)))]) cd_32_11 rfl (by decide) rfl ?_
    refine gs_0 (pc' := 15) (L' := [some (.ref l0), some (.int l1), some (.int ((if (l2 : Int32) < (0 : Int32) then (0 : Int32) else (l2 : Int32)))), some (.int l3)]) (st' := []) cd_32_14 rfl rfl ?_
    obtain ⟨x_5, hx, h⟩ := lt_s_ h
    rw [hx]
    clear hx
    refine gs_0 (pc' := 16) (L' := [some (.ref l0), some (.int l1), some (.int x_5), some (.int l3)]) (st' := [.int l3]) cd_32_15 rfl rfl ?_
    refine gs_0 (pc' := 17) (L' := [some (.ref l0), some (.int l1), some (.int x_5), some (.int l3)]) (st' := [.ref l0, .int l3]) cd_32_16 rfl rfl ?_
    obtain ⟨t0, n0, ht, ht2, h⟩ := gL_s h
    refine gs_alen cd_32_17 ht ht2 ?_
    generalize Int32.ofNat n0 = n_6 at h ⊢
    refine gsp (pc' := 21) (L' := [some (.ref l0), some (.int l1), some (.int x_5), some (.int l3)]) (st' := [.int ((if (n_6 : Int32) < (l3 : Int32) then (n_6 : Int32) else (l3 : Int32)))]) cd_32_18 rfl (by decide) rfl ?_
    refine gs_0 (pc' := 22) (L' := [some (.ref l0), some (.int l1), some (.int x_5), some (.int ((if (n_6 : Int32) < (l3 : Int32) then (n_6 : Int32) else (l3 : Int32))))]) (st' := []) cd_32_21 rfl rfl ?_
    obtain ⟨x_7, hx, h⟩ := lt_s_ h
    rw [hx]
    clear hx
    refine gs_0 (pc' := 23) (L' := [some (.ref l0), some (.int l1), some (.int x_5), some (.int x_7)]) (st' := [.int x_5]) cd_32_22 rfl rfl ?_
    refine gs_0 (pc' := 24) (L' := [some (.ref l0), some (.int l1), some (.int x_5), some (.int x_7)]) (st' := [.int x_7, .int x_5]) cd_32_23 rfl rfl ?_
    refine gs_0 (pc' := if x_5 < x_7 then 29 else 27) (L' := [some (.ref l0), some (.int l1), some (.int x_5), some (.int x_7)]) (st' := []) cd_32_24 rfl rfl ?_
    refine go_ite (fun hc => ?_) (fun hc => ?_)
    · rw [if_pos hc] at h
      refine gs_0 (pc' := 30) (L' := [some (.ref l0), some (.int l1), some (.int x_5), some (.int x_7)]) (st' := [.ref l0]) cd_32_29 rfl rfl ?_
      refine gs_0 (pc' := 31) (L' := [some (.ref l0), some (.int l1), some (.int x_5), some (.int x_7)]) (st' := [.int l1, .ref l0]) cd_32_30 rfl rfl ?_
      refine gs_0 (pc' := 32) (L' := [some (.ref l0), some (.int l1), some (.int x_5), some (.int x_7)]) (st' := [.int x_5, .int l1, .ref l0]) cd_32_31 rfl rfl ?_
      refine gs_0 (pc' := 33) (L' := [some (.ref l0), some (.int l1), some (.int x_5), some (.int x_7)]) (st' := [.int x_7, .int x_5, .int l1, .ref l0]) cd_32_32 rfl rfl ?_
      obtain ⟨x_11, w_8, I_9, J_10, hcl, h⟩ := cI_s h
      refine gs_call (as := [.ref l0, .int l1, .int x_5, .int x_7]) (rest := []) cd_32_33 rfl (by decide) rfl rfl (Nat.le_of_ble_eq_true rfl) (Nat.le_of_ble_eq_true rfl) rfl hcl ?_
      cases h
      exact gs_ri cd_32_36 (Or.inl rfl)
    · rw [if_neg hc] at h
      refine gs_0 (pc' := 28) (L' := [some (.ref l0), some (.int l1), some (.int x_5), some (.int x_7)]) (st' := [.int ((-1))]) cd_32_27 rfl rfl ?_
      cases h
      exact gs_ri cd_32_28 (Or.inl rfl)
  · rw [if_neg hc] at h
    refine gs_0 (pc' := 8) (L' := [some (.ref l0), some (.int l1), some (.int l2), some (.int l3)]) (st' := [.int ((-1))]) cd_32_7 rfl rfl ?_
    cases h
    exact gs_ri cd_32_8 (Or.inl rfl)
theorem cl_32 {K : Nat → Value} {k d : Nat} {l0 : Nat} {l1 : Int32} {l2 : Int32} {l3 : Int32} {w : aW} {I : aI} {J : aJ} {R : aR} (h : f_32 K k d l0 l1 l2 l3 w I J = some R) : Cl K (d + 1) 32 [.ref l0, .int l1, .int l2, .int l3] w I J = some R := Cl_of (ok_32 h)
/-! java/lang/StringLatin1.canEncode(I)Z -/
theorem gl_33 : gcd.lookup 33 = some gw_33 := rfl
theorem cd_33_0 : sm_cd 33 0 = some (.iload_n 0, 1, 0, 0, 0, 0, 0, 0, 0) := cd_of gl_33 rfl
theorem cd_33_1 : sm_cd 33 1 = some (.ifCond .lt 14, 3, 15, 0, 0, 0, 0, 0, 0) := cd_of gl_33 rfl
theorem cd_33_4 : sm_cd 33 4 = some (.iload_n 0, 1, 0, 0, 0, 0, 0, 0, 0) := cd_of gl_33 rfl
theorem cd_33_5 : sm_cd 33 5 = some (.sipush 255, 3, 0, 0, 0, 0, 0, 255, 0) := cd_of gl_33 rfl
theorem cd_33_8 : sm_cd 33 8 = some (.if_icmp .gt 7, 3, 15, 0, 0, 0, 0, 0, 0) := cd_of gl_33 rfl
theorem cd_33_11 : sm_cd 33 11 = some (.iconst 1, 1, 0, 0, 0, 0, 0, 1, 0) := cd_of gl_33 rfl
theorem cd_33_12 : sm_cd 33 12 = some (.goto 4, 3, 16, 0, 0, 0, 0, 0, 0) := cd_of gl_33 rfl
theorem cd_33_15 : sm_cd 33 15 = some (.iconst 0, 1, 0, 0, 0, 0, 0, 0, 0) := cd_of gl_33 rfl
theorem cd_33_16 : sm_cd 33 16 = some (.ireturn, 1, 0, 0, 2, 0, 0, 0, 0) := cd_of gl_33 rfl
noncomputable def f_33 (K : Nat → Value) (k d : Nat) (l0 : Int32) (w : aW) (I : aI) (J : aJ) : Option aR :=
  if l0 < 0 then
    some (some (.int 0), w, I, J)
  else
    if 255 < l0 then
      some (some (.int 0), w, I, J)
    else
      some (some (.int 1), w, I, J)
theorem ok_33 {K : Nat → Value} {k d : Nat} {l0 : Int32} {w : aW} {I : aI} {J : aJ} {R : aR} (h : f_33 K k d l0 w I J = some R) : Go K (d + 1) 33 0 [some (.int l0)] [] w I J R := by
  unfold f_33 at h
  refine gs_0 (pc' := 1) (L' := [some (.int l0)]) (st' := [.int l0]) cd_33_0 rfl rfl ?_
  refine gs_0 (pc' := if l0 < 0 then 15 else 4) (L' := [some (.int l0)]) (st' := []) cd_33_1 rfl rfl ?_
  refine go_ite (fun hc => ?_) (fun hc => ?_)
  · rw [if_pos hc] at h
    refine gs_0 (pc' := 16) (L' := [some (.int l0)]) (st' := [.int 0]) cd_33_15 rfl rfl ?_
    cases h
    exact gs_ri cd_33_16 (Or.inr (Or.inl ⟨rfl, Or.inl rfl⟩))
  · rw [if_neg hc] at h
    refine gs_0 (pc' := 5) (L' := [some (.int l0)]) (st' := [.int l0]) cd_33_4 rfl rfl ?_
    refine gs_0 (pc' := 8) (L' := [some (.int l0)]) (st' := [.int 255, .int l0]) cd_33_5 rfl rfl ?_
    refine gs_0 (pc' := if 255 < l0 then 15 else 11) (L' := [some (.int l0)]) (st' := []) cd_33_8 rfl rfl ?_
    refine go_ite (fun hc => ?_) (fun hc => ?_)
    · rw [if_pos hc] at h
      refine gs_0 (pc' := 16) (L' := [some (.int l0)]) (st' := [.int 0]) cd_33_15 rfl rfl ?_
      cases h
      exact gs_ri cd_33_16 (Or.inr (Or.inl ⟨rfl, Or.inl rfl⟩))
    · rw [if_neg hc] at h
      refine gs_0 (pc' := 12) (L' := [some (.int l0)]) (st' := [.int 1]) cd_33_11 rfl rfl ?_
      refine gs_0 (pc' := 16) (L' := [some (.int l0)]) (st' := [.int 1]) cd_33_12 rfl rfl ?_
      cases h
      exact gs_ri cd_33_16 (Or.inr (Or.inl ⟨rfl, Or.inr rfl⟩))
theorem cl_33 {K : Nat → Value} {k d : Nat} {l0 : Int32} {w : aW} {I : aI} {J : aJ} {R : aR} (h : f_33 K k d l0 w I J = some R) : Cl K (d + 1) 33 [.int l0] w I J = some R := Cl_of (ok_33 h)
/-! java/lang/StringLatin1.indexOfChar([BIII)I -/
theorem gl_34 : gcd.lookup 34 = some gw_34 := rfl
theorem cd_34_0 : sm_cd 34 0 = some (.iload_n 1, 1, 1, 0, 0, 0, 0, 0, 0) := cd_of gl_34 rfl
theorem cd_34_1 : sm_cd 34 1 = some (.i2b, 1, 0, 0, 0, 0, 0, 0, 0) := cd_of gl_34 rfl
theorem cd_34_2 : sm_cd 34 2 = some (.istore 4, 2, 4, 0, 0, 0, 0, 0, 0) := cd_of gl_34 rfl
theorem cd_34_4 : sm_cd 34 4 = some (.iload_n 2, 1, 2, 0, 0, 0, 0, 0, 0) := cd_of gl_34 rfl
theorem cd_34_5 : sm_cd 34 5 = some (.istore 5, 2, 5, 0, 0, 0, 0, 0, 0) := cd_of gl_34 rfl
theorem cd_34_7 : sm_cd 34 7 = some (.iload 5, 2, 5, 0, 0, 0, 0, 0, 0) := cd_of gl_34 rfl
theorem cd_34_9 : sm_cd 34 9 = some (.iload_n 3, 1, 3, 0, 0, 0, 0, 0, 0) := cd_of gl_34 rfl
theorem cd_34_10 : sm_cd 34 10 = some (.if_icmp .ge 21, 3, 31, 0, 0, 0, 0, 0, 0) := cd_of gl_34 rfl
theorem cd_34_13 : sm_cd 34 13 = some (.aload_n 0, 1, 0, 0, 0, 0, 0, 0, 0) := cd_of gl_34 rfl
theorem cd_34_14 : sm_cd 34 14 = some (.iload 5, 2, 5, 0, 0, 0, 0, 0, 0) := cd_of gl_34 rfl
theorem cd_34_16 : sm_cd 34 16 = some (.baload, 1, 0, 0, 0, 0, 0, 0, 0) := cd_of gl_34 rfl
theorem cd_34_17 : sm_cd 34 17 = some (.iload 4, 2, 4, 0, 0, 0, 0, 0, 0) := cd_of gl_34 rfl
theorem cd_34_19 : sm_cd 34 19 = some (.if_icmp .ne 6, 3, 25, 0, 0, 0, 0, 0, 0) := cd_of gl_34 rfl
theorem cd_34_22 : sm_cd 34 22 = some (.iload 5, 2, 5, 0, 0, 0, 0, 0, 0) := cd_of gl_34 rfl
theorem cd_34_24 : sm_cd 34 24 = some (.ireturn, 1, 0, 0, 1, 0, 0, 0, 0) := cd_of gl_34 rfl
theorem cd_34_25 : sm_cd 34 25 = some (.iinc 5 1, 3, 5, 0, 0, 0, 0, 1, 0) := cd_of gl_34 rfl
theorem cd_34_28 : sm_cd 34 28 = some (.goto (-21), 3, 7, 0, 0, 0, 0, 0, 0) := cd_of gl_34 rfl
theorem cd_34_31 : sm_cd 34 31 = some (.iconst (-1), 1, 0, 0, 0, 0, 0, (-1), 0) := cd_of gl_34 rfl
theorem cd_34_32 : sm_cd 34 32 = some (.ireturn, 1, 0, 0, 1, 0, 0, 0, 0) := cd_of gl_34 rfl
noncomputable def f_34_7 (K : Nat → Value) (k : Nat) (d : Nat) : Nat → Int32 → Int32 → Int32 → Int32 → Int32 → aW → aI → aJ → Option aR :=
  match k with
  | 0 => fun _ _ _ _ _ _ _ _ _ => none
  | k + 1 => fun l0 l1 l2 l3 l4 l5 w I J =>
  lt_ (f_34_7 K k d) fun r7 =>
  if l3 ≤ l5 then
    some (some (.int (-1)), w, I, J)
  else
    gA w 12 21 l0 l5 (
    if ¬ (I l0 (l5 : Int32).toNatClampNeg) = l4 then
      lt_ (l5 + 1) fun x_1 =>
      r7 l0 l1 l2 l3 l4 x_1 w I J
    else
      some (some (.int l5), w, I, J))
theorem ok_34_7 {K : Nat → Value} {d : Nat} : ∀ {k : Nat} {l0 : Nat} {l1 : Int32} {l2 : Int32} {l3 : Int32} {l4 : Int32} {l5 : Int32} {w : aW} {I : aI} {J : aJ} {R : aR}, f_34_7 K k d l0 l1 l2 l3 l4 l5 w I J = some R → Go K (d + 1) 34 7 [some (.ref l0), some (.int l1), some (.int l2), some (.int l3), some (.int l4), some (.int l5)] [] w I J R := by
  intro k
  induction k with
  | zero => intro l0 l1 l2 l3 l4 l5 w I J R h; cases h
  | succ k ih =>
    intro l0 l1 l2 l3 l4 l5 w I J R h
    have hr7 : ∀ (l0 : Nat) (l1 : Int32) (l2 : Int32) (l3 : Int32) (l4 : Int32) (l5 : Int32) (w : aW) (I : aI) (J : aJ) (R : aR), f_34_7 K k d l0 l1 l2 l3 l4 l5 w I J = some R → Go K (d + 1) 34 7 [some (.ref l0), some (.int l1), some (.int l2), some (.int l3), some (.int l4), some (.int l5)] [] w I J R := fun l0 l1 l2 l3 l4 l5 w I J R h => ih h
    rw [f_34_7] at h
    obtain ⟨r7, hx, h⟩ := lt_s_ h
    rw [hx] at hr7
    clear hx ih
    refine gs_0 (pc' := 9) (L' := [some (.ref l0), some (.int l1), some (.int l2), some (.int l3), some (.int l4), some (.int l5)]) (st' := [.int l5]) cd_34_7 rfl rfl ?_
    refine gs_0 (pc' := 10) (L' := [some (.ref l0), some (.int l1), some (.int l2), some (.int l3), some (.int l4), some (.int l5)]) (st' := [.int l3, .int l5]) cd_34_9 rfl rfl ?_
    refine gs_0 (pc' := if l3 ≤ l5 then 31 else 13) (L' := [some (.ref l0), some (.int l1), some (.int l2), some (.int l3), some (.int l4), some (.int l5)]) (st' := []) cd_34_10 rfl rfl ?_
    refine go_ite (fun hc => ?_) (fun hc => ?_)
    · rw [if_pos hc] at h
      refine gs_0 (pc' := 32) (L' := [some (.ref l0), some (.int l1), some (.int l2), some (.int l3), some (.int l4), some (.int l5)]) (st' := [.int ((-1))]) cd_34_31 rfl rfl ?_
      cases h
      exact gs_ri cd_34_32 (Or.inl rfl)
    · rw [if_neg hc] at h
      refine gs_0 (pc' := 14) (L' := [some (.ref l0), some (.int l1), some (.int l2), some (.int l3), some (.int l4), some (.int l5)]) (st' := [.ref l0]) cd_34_13 rfl rfl ?_
      refine gs_0 (pc' := 16) (L' := [some (.ref l0), some (.int l1), some (.int l2), some (.int l3), some (.int l4), some (.int l5)]) (st' := [.int l5, .ref l0]) cd_34_14 rfl rfl ?_
      obtain ⟨ht, h⟩ := gA_s h
      refine gs_bald cd_34_16 ht ?_
      refine gs_0 (pc' := 19) (L' := [some (.ref l0), some (.int l1), some (.int l2), some (.int l3), some (.int l4), some (.int l5)]) (st' := [.int l4, .int (I l0 (l5 : Int32).toNatClampNeg)]) cd_34_17 rfl rfl ?_
      refine gs_0 (pc' := if ¬ (I l0 (l5 : Int32).toNatClampNeg) = l4 then 25 else 22) (L' := [some (.ref l0), some (.int l1), some (.int l2), some (.int l3), some (.int l4), some (.int l5)]) (st' := []) cd_34_19 rfl rfl ?_
      refine go_ite (fun hc => ?_) (fun hc => ?_)
      · rw [if_pos hc] at h
        refine gs_0 (pc' := 28) (L' := [some (.ref l0), some (.int l1), some (.int l2), some (.int l3), some (.int l4), some (.int (l5 + 1))]) (st' := []) cd_34_25 rfl rfl ?_
        obtain ⟨x_1, hx, h⟩ := lt_s_ h
        rw [hx]
        clear hx
        refine gs_0 (pc' := 7) (L' := [some (.ref l0), some (.int l1), some (.int l2), some (.int l3), some (.int l4), some (.int x_1)]) (st' := []) cd_34_28 rfl rfl ?_
        exact hr7 l0 l1 l2 l3 l4 x_1 _ _ _ _ h
      · rw [if_neg hc] at h
        refine gs_0 (pc' := 24) (L' := [some (.ref l0), some (.int l1), some (.int l2), some (.int l3), some (.int l4), some (.int l5)]) (st' := [.int l5]) cd_34_22 rfl rfl ?_
        cases h
        exact gs_ri cd_34_24 (Or.inl rfl)
noncomputable def f_34 (K : Nat → Value) (k d : Nat) (l0 : Nat) (l1 : Int32) (l2 : Int32) (l3 : Int32) (w : aW) (I : aI) (J : aJ) : Option aR :=
  lt_ (l1.toInt8.toInt32) fun x_1 =>
  f_34_7 K k d l0 l1 l2 l3 x_1 l2 w I J
theorem ok_34 {K : Nat → Value} {k d : Nat} {l0 : Nat} {l1 : Int32} {l2 : Int32} {l3 : Int32} {w : aW} {I : aI} {J : aJ} {R : aR} (h : f_34 K k d l0 l1 l2 l3 w I J = some R) : Go K (d + 1) 34 0 [some (.ref l0), some (.int l1), some (.int l2), some (.int l3), none, none] [] w I J R := by
  unfold f_34 at h
  refine gs_0 (pc' := 1) (L' := [some (.ref l0), some (.int l1), some (.int l2), some (.int l3), none, none]) (st' := [.int l1]) cd_34_0 rfl rfl ?_
  refine gs_0 (pc' := 2) (L' := [some (.ref l0), some (.int l1), some (.int l2), some (.int l3), none, none]) (st' := [.int (l1.toInt8.toInt32)]) cd_34_1 rfl rfl ?_
  refine gs_0 (pc' := 4) (L' := [some (.ref l0), some (.int l1), some (.int l2), some (.int l3), some (.int (l1.toInt8.toInt32)), none]) (st' := []) cd_34_2 rfl rfl ?_
  obtain ⟨x_1, hx, h⟩ := lt_s_ h
  rw [hx]
  clear hx
  refine gs_0 (pc' := 5) (L' := [some (.ref l0), some (.int l1), some (.int l2), some (.int l3), some (.int x_1), none]) (st' := [.int l2]) cd_34_4 rfl rfl ?_
  refine gs_0 (pc' := 7) (L' := [some (.ref l0), some (.int l1), some (.int l2), some (.int l3), some (.int x_1), some (.int l2)]) (st' := []) cd_34_5 rfl rfl ?_
  exact ok_34_7 h
theorem cl_34 {K : Nat → Value} {k d : Nat} {l0 : Nat} {l1 : Int32} {l2 : Int32} {l3 : Int32} {w : aW} {I : aI} {J : aJ} {R : aR} (h : f_34 K k d l0 l1 l2 l3 w I J = some R) : Cl K (d + 1) 34 [.ref l0, .int l1, .int l2, .int l3] w I J = some R := Cl_of (ok_34 h)
/-! ProvedMachine$Program.forget()V -/
theorem gl_35 : gcd.lookup 35 = some gw_35 := rfl
theorem cd_35_0 : sm_cd 35 0 = some (.aload_n 0, 1, 0, 0, 0, 0, 0, 0, 0) := cd_of gl_35 rfl
theorem cd_35_1 : sm_cd 35 1 = some (.iconst 0, 1, 0, 0, 0, 0, 0, 0, 0) := cd_of gl_35 rfl
theorem cd_35_2 : sm_cd 35 2 = some (.putfield 32, 3, 1, 6, 0, 0, 0, 0, 0) := cd_of gl_35 rfl
theorem cd_35_5 : sm_cd 35 5 = some (.aload_n 0, 1, 0, 0, 0, 0, 0, 0, 0) := cd_of gl_35 rfl
theorem cd_35_6 : sm_cd 35 6 = some (.iconst 0, 1, 0, 0, 0, 0, 0, 0, 0) := cd_of gl_35 rfl
theorem cd_35_7 : sm_cd 35 7 = some (.putfield 36, 3, 1, 7, 0, 0, 0, 0, 0) := cd_of gl_35 rfl
theorem cd_35_10 : sm_cd 35 10 = some (.aload_n 0, 1, 0, 0, 0, 0, 0, 0, 0) := cd_of gl_35 rfl
theorem cd_35_11 : sm_cd 35 11 = some (.getfield 26, 3, 1, 4, 2, 0, 0, 0, 0) := cd_of gl_35 rfl
theorem cd_35_14 : sm_cd 35 14 = some (.iconst 0, 1, 0, 0, 0, 0, 0, 0, 0) := cd_of gl_35 rfl
theorem cd_35_15 : sm_cd 35 15 = some (.invokestatic 39, 3, 36, 1, 2, 4, 10, 0, 0) := cd_of gl_35 rfl
theorem cd_35_18 : sm_cd 35 18 = some (.return_, 1, 0, 0, 0, 0, 0, 0, 0) := cd_of gl_35 rfl
noncomputable def f_35 (K : Nat → Value) (k d : Nat) (l0 : Nat) (w : aW) (I : aI) (J : aJ) : Option aR :=
  gO w 1 l0 (
  lt_ (sm_up2 I l0 6 0) fun I_1 =>
  gO w 1 l0 (
  lt_ (sm_up2 I_1 l0 7 0) fun I_2 =>
  gO w 1 l0 (
  gV w l0 4 fun q_3 =>
  cV (Cl K d 36 [.ref q_3, .int 0] w I_2 J) fun w_4 I_5 J_6 =>
  some (none, w_4, I_5, J_6))))
theorem ok_35 {K : Nat → Value} {k d : Nat} {l0 : Nat} {w : aW} {I : aI} {J : aJ} {R : aR} (h : f_35 K k d l0 w I J = some R) : Go K (d + 1) 35 0 [some (.ref l0)] [] w I J R := by
  unfold f_35 at h
  refine gs_0 (pc' := 1) (L' := [some (.ref l0)]) (st' := [.ref l0]) cd_35_0 rfl rfl ?_
  refine gs_0 (pc' := 2) (L' := [some (.ref l0)]) (st' := [.int 0, .ref l0]) cd_35_1 rfl rfl ?_
  obtain ⟨ht, h⟩ := gO_s h
  refine gs_pfI cd_35_2 (by decide) (Or.inl rfl) ht ?_
  obtain ⟨I_1, hx, h⟩ := lt_s_ h
  rw [hx]
  refine gs_0 (pc' := 6) (L' := [some (.ref l0)]) (st' := [.ref l0]) cd_35_5 rfl rfl ?_
  refine gs_0 (pc' := 7) (L' := [some (.ref l0)]) (st' := [.int 0, .ref l0]) cd_35_6 rfl rfl ?_
  obtain ⟨ht, h⟩ := gO_s h
  refine gs_pfI cd_35_7 (by decide) (Or.inl rfl) ht ?_
  obtain ⟨I_2, hx, h⟩ := lt_s_ h
  rw [hx]
  refine gs_0 (pc' := 11) (L' := [some (.ref l0)]) (st' := [.ref l0]) cd_35_10 rfl rfl ?_
  obtain ⟨ht, h⟩ := gO_s h
  obtain ⟨q_3, hv, h⟩ := gV_s h
  refine gs_gfR cd_35_11 (by decide) ht hv ?_
  refine gs_0 (pc' := 15) (L' := [some (.ref l0)]) (st' := [.int 0, .ref q_3]) cd_35_14 rfl rfl ?_
  obtain ⟨w_4, I_5, J_6, hcl, h⟩ := cV_s h
  refine gs_call (as := [.ref q_3, .int 0]) (rest := []) cd_35_15 rfl (by decide) rfl rfl (Nat.le_of_ble_eq_true rfl) (Nat.le_of_ble_eq_true rfl) rfl hcl ?_
  cases h
  exact gsr cd_35_18 rfl rfl
theorem cl_35 {K : Nat → Value} {k d : Nat} {l0 : Nat} {w : aW} {I : aI} {J : aJ} {R : aR} (h : f_35 K k d l0 w I J = some R) : Cl K (d + 1) 35 [.ref l0] w I J = some R := Cl_of (ok_35 h)
/-! java/util/Arrays.fill([II)V -/
theorem gl_36 : gcd.lookup 36 = some gw_36 := rfl
theorem cd_36_0 : sm_cd 36 0 = some (.iconst 0, 1, 0, 0, 0, 0, 0, 0, 0) := cd_of gl_36 rfl
theorem cd_36_1 : sm_cd 36 1 = some (.istore_n 2, 1, 2, 0, 0, 0, 0, 0, 0) := cd_of gl_36 rfl
theorem cd_36_2 : sm_cd 36 2 = some (.aload_n 0, 1, 0, 0, 0, 0, 0, 0, 0) := cd_of gl_36 rfl
theorem cd_36_3 : sm_cd 36 3 = some (.arraylength, 1, 0, 0, 0, 0, 0, 0, 0) := cd_of gl_36 rfl
theorem cd_36_4 : sm_cd 36 4 = some (.istore_n 3, 1, 3, 0, 0, 0, 0, 0, 0) := cd_of gl_36 rfl
theorem cd_36_5 : sm_cd 36 5 = some (.iload_n 2, 1, 2, 0, 0, 0, 0, 0, 0) := cd_of gl_36 rfl
theorem cd_36_6 : sm_cd 36 6 = some (.iload_n 3, 1, 3, 0, 0, 0, 0, 0, 0) := cd_of gl_36 rfl
theorem cd_36_7 : sm_cd 36 7 = some (.if_icmp .ge 13, 3, 20, 0, 0, 0, 0, 0, 0) := cd_of gl_36 rfl
theorem cd_36_10 : sm_cd 36 10 = some (.aload_n 0, 1, 0, 0, 0, 0, 0, 0, 0) := cd_of gl_36 rfl
theorem cd_36_11 : sm_cd 36 11 = some (.iload_n 2, 1, 2, 0, 0, 0, 0, 0, 0) := cd_of gl_36 rfl
theorem cd_36_12 : sm_cd 36 12 = some (.iload_n 1, 1, 1, 0, 0, 0, 0, 0, 0) := cd_of gl_36 rfl
theorem cd_36_13 : sm_cd 36 13 = some (.iastore, 1, 0, 0, 0, 0, 0, 0, 0) := cd_of gl_36 rfl
theorem cd_36_14 : sm_cd 36 14 = some (.iinc 2 1, 3, 2, 0, 0, 0, 0, 1, 0) := cd_of gl_36 rfl
theorem cd_36_17 : sm_cd 36 17 = some (.goto (-12), 3, 5, 0, 0, 0, 0, 0, 0) := cd_of gl_36 rfl
theorem cd_36_20 : sm_cd 36 20 = some (.return_, 1, 0, 0, 0, 0, 0, 0, 0) := cd_of gl_36 rfl
noncomputable def f_36_5 (K : Nat → Value) (k : Nat) (d : Nat) : Nat → Int32 → Int32 → Int32 → aW → aI → aJ → Option aR :=
  match k with
  | 0 => fun _ _ _ _ _ _ _ => none
  | k + 1 => fun l0 l1 l2 l3 w I J =>
  lt_ (f_36_5 K k d) fun r5 =>
  if l3 ≤ l2 then
    some (none, w, I, J)
  else
    gA w 10 10 l0 l2 (
    lt_ (sm_up2 I l0 (l2 : Int32).toNatClampNeg l1) fun I_1 =>
    lt_ (l2 + 1) fun x_2 =>
    r5 l0 l1 x_2 l3 w I_1 J)
theorem ok_36_5 {K : Nat → Value} {d : Nat} : ∀ {k : Nat} {l0 : Nat} {l1 : Int32} {l2 : Int32} {l3 : Int32} {w : aW} {I : aI} {J : aJ} {R : aR}, f_36_5 K k d l0 l1 l2 l3 w I J = some R → Go K (d + 1) 36 5 [some (.ref l0), some (.int l1), some (.int l2), some (.int l3)] [] w I J R := by
  intro k
  induction k with
  | zero => intro l0 l1 l2 l3 w I J R h; cases h
  | succ k ih =>
    intro l0 l1 l2 l3 w I J R h
    have hr5 : ∀ (l0 : Nat) (l1 : Int32) (l2 : Int32) (l3 : Int32) (w : aW) (I : aI) (J : aJ) (R : aR), f_36_5 K k d l0 l1 l2 l3 w I J = some R → Go K (d + 1) 36 5 [some (.ref l0), some (.int l1), some (.int l2), some (.int l3)] [] w I J R := fun l0 l1 l2 l3 w I J R h => ih h
    rw [f_36_5] at h
    obtain ⟨r5, hx, h⟩ := lt_s_ h
    rw [hx] at hr5
    clear hx ih
    refine gs_0 (pc' := 6) (L' := [some (.ref l0), some (.int l1), some (.int l2), some (.int l3)]) (st' := [.int l2]) cd_36_5 rfl rfl ?_
    refine gs_0 (pc' := 7) (L' := [some (.ref l0), some (.int l1), some (.int l2), some (.int l3)]) (st' := [.int l3, .int l2]) cd_36_6 rfl rfl ?_
    refine gs_0 (pc' := if l3 ≤ l2 then 20 else 10) (L' := [some (.ref l0), some (.int l1), some (.int l2), some (.int l3)]) (st' := []) cd_36_7 rfl rfl ?_
    refine go_ite (fun hc => ?_) (fun hc => ?_)
    · rw [if_pos hc] at h
      cases h
      exact gsr cd_36_20 rfl rfl
    · rw [if_neg hc] at h
      refine gs_0 (pc' := 11) (L' := [some (.ref l0), some (.int l1), some (.int l2), some (.int l3)]) (st' := [.ref l0]) cd_36_10 rfl rfl ?_
      refine gs_0 (pc' := 12) (L' := [some (.ref l0), some (.int l1), some (.int l2), some (.int l3)]) (st' := [.int l2, .ref l0]) cd_36_11 rfl rfl ?_
      refine gs_0 (pc' := 13) (L' := [some (.ref l0), some (.int l1), some (.int l2), some (.int l3)]) (st' := [.int l1, .int l2, .ref l0]) cd_36_12 rfl rfl ?_
      obtain ⟨ht, h⟩ := gA_s h
      refine gs_iast cd_36_13 ht ?_
      obtain ⟨I_1, hx, h⟩ := lt_s_ h
      rw [hx]
      refine gs_0 (pc' := 17) (L' := [some (.ref l0), some (.int l1), some (.int (l2 + 1)), some (.int l3)]) (st' := []) cd_36_14 rfl rfl ?_
      obtain ⟨x_2, hx, h⟩ := lt_s_ h
      rw [hx]
      clear hx
      refine gs_0 (pc' := 5) (L' := [some (.ref l0), some (.int l1), some (.int x_2), some (.int l3)]) (st' := []) cd_36_17 rfl rfl ?_
      exact hr5 l0 l1 x_2 l3 _ _ _ _ h
noncomputable def f_36 (K : Nat → Value) (k d : Nat) (l0 : Nat) (l1 : Int32) (w : aW) (I : aI) (J : aJ) : Option aR :=
  gL w l0 fun n_1 =>
  f_36_5 K k d l0 l1 0 n_1 w I J
theorem ok_36 {K : Nat → Value} {k d : Nat} {l0 : Nat} {l1 : Int32} {w : aW} {I : aI} {J : aJ} {R : aR} (h : f_36 K k d l0 l1 w I J = some R) : Go K (d + 1) 36 0 [some (.ref l0), some (.int l1), none, none] [] w I J R := by
  unfold f_36 at h
  refine gs_0 (pc' := 1) (L' := [some (.ref l0), some (.int l1), none, none]) (st' := [.int 0]) cd_36_0 rfl rfl ?_
  refine gs_0 (pc' := 2) (L' := [some (.ref l0), some (.int l1), some (.int 0), none]) (st' := []) cd_36_1 rfl rfl ?_
  refine gs_0 (pc' := 3) (L' := [some (.ref l0), some (.int l1), some (.int 0), none]) (st' := [.ref l0]) cd_36_2 rfl rfl ?_
  obtain ⟨t0, n0, ht, ht2, h⟩ := gL_s h
  refine gs_alen cd_36_3 ht ht2 ?_
  generalize Int32.ofNat n0 = n_1 at h ⊢
  refine gs_0 (pc' := 5) (L' := [some (.ref l0), some (.int l1), some (.int 0), some (.int n_1)]) (st' := []) cd_36_4 rfl rfl ?_
  exact ok_36_5 h
theorem cl_36 {K : Nat → Value} {k d : Nat} {l0 : Nat} {l1 : Int32} {w : aW} {I : aI} {J : aJ} {R : aR} (h : f_36 K k d l0 l1 w I J = some R) : Cl K (d + 1) 36 [.ref l0, .int l1] w I J = some R := Cl_of (ok_36 h)
/-! ProvedMachine$Tokens.kind()I -/
theorem gl_37 : gcd.lookup 37 = some gw_37 := rfl
theorem cd_37_0 : sm_cd 37 0 = some (.aload_n 0, 1, 0, 0, 0, 0, 0, 0, 0) := cd_of gl_37 rfl
theorem cd_37_1 : sm_cd 37 1 = some (.getfield 31, 3, 4, 6, 1, 0, 0, 0, 0) := cd_of gl_37 rfl
theorem cd_37_4 : sm_cd 37 4 = some (.ifCond .ne 26, 3, 30, 0, 0, 0, 0, 0, 0) := cd_of gl_37 rfl
theorem cd_37_7 : sm_cd 37 7 = some (.aload_n 0, 1, 0, 0, 0, 0, 0, 0, 0) := cd_of gl_37 rfl
theorem cd_37_8 : sm_cd 37 8 = some (.getfield 28, 3, 4, 5, 0, 0, 0, 0, 0) := cd_of gl_37 rfl
theorem cd_37_11 : sm_cd 37 11 = some (.aload_n 0, 1, 0, 0, 0, 0, 0, 0, 0) := cd_of gl_37 rfl
theorem cd_37_12 : sm_cd 37 12 = some (.getfield 24, 3, 4, 4, 0, 0, 0, 0, 0) := cd_of gl_37 rfl
theorem cd_37_15 : sm_cd 37 15 = some (.if_icmp .ge 15, 3, 30, 0, 0, 0, 0, 0, 0) := cd_of gl_37 rfl
theorem cd_37_18 : sm_cd 37 18 = some (.aload_n 0, 1, 0, 0, 0, 0, 0, 0, 0) := cd_of gl_37 rfl
theorem cd_37_19 : sm_cd 37 19 = some (.getfield 9, 3, 4, 0, 2, 0, 0, 0, 0) := cd_of gl_37 rfl
theorem cd_37_22 : sm_cd 37 22 = some (.aload_n 0, 1, 0, 0, 0, 0, 0, 0, 0) := cd_of gl_37 rfl
theorem cd_37_23 : sm_cd 37 23 = some (.getfield 28, 3, 4, 5, 0, 0, 0, 0, 0) := cd_of gl_37 rfl
theorem cd_37_26 : sm_cd 37 26 = some (.iaload, 1, 0, 0, 0, 0, 0, 0, 0) := cd_of gl_37 rfl
theorem cd_37_27 : sm_cd 37 27 = some (.goto 4, 3, 31, 0, 0, 0, 0, 0, 0) := cd_of gl_37 rfl
theorem cd_37_30 : sm_cd 37 30 = some (.iconst 3, 1, 0, 0, 0, 0, 0, 3, 0) := cd_of gl_37 rfl
theorem cd_37_31 : sm_cd 37 31 = some (.ireturn, 1, 0, 0, 1, 0, 0, 0, 0) := cd_of gl_37 rfl
noncomputable def f_37 (K : Nat → Value) (k d : Nat) (l0 : Nat) (w : aW) (I : aI) (J : aJ) : Option aR :=
  gO w 4 l0 (
  if ¬ (I l0 6) = 0 then
    some (some (.int 3), w, I, J)
  else
    gO w 4 l0 (
    gO w 4 l0 (
    if (I l0 4) ≤ (I l0 5) then
      some (some (.int 3), w, I, J)
    else
      gO w 4 l0 (
      gV w l0 0 fun q_1 =>
      gO w 4 l0 (
      gA w 10 20 q_1 (I l0 5) (
      some (some (.int (I q_1 (I l0 5 : Int32).toNatClampNeg)), w, I, J)))))))
theorem ok_37 {K : Nat → Value} {k d : Nat} {l0 : Nat} {w : aW} {I : aI} {J : aJ} {R : aR} (h : f_37 K k d l0 w I J = some R) : Go K (d + 1) 37 0 [some (.ref l0)] [] w I J R := by
  unfold f_37 at h
  refine gs_0 (pc' := 1) (L' := [some (.ref l0)]) (st' := [.ref l0]) cd_37_0 rfl rfl ?_
  obtain ⟨ht, h⟩ := gO_s h
  refine gs_gfI cd_37_1 (by decide) (by decide) ht ?_
  refine gs_0 (pc' := if ¬ (I l0 6) = 0 then 30 else 7) (L' := [some (.ref l0)]) (st' := []) cd_37_4 rfl rfl ?_
  refine go_ite (fun hc => ?_) (fun hc => ?_)
  · rw [if_pos hc] at h
    refine gs_0 (pc' := 31) (L' := [some (.ref l0)]) (st' := [.int 3]) cd_37_30 rfl rfl ?_
    cases h
    exact gs_ri cd_37_31 (Or.inl rfl)
  · rw [if_neg hc] at h
    refine gs_0 (pc' := 8) (L' := [some (.ref l0)]) (st' := [.ref l0]) cd_37_7 rfl rfl ?_
    obtain ⟨ht, h⟩ := gO_s h
    refine gs_gfI cd_37_8 (by decide) (by decide) ht ?_
    refine gs_0 (pc' := 12) (L' := [some (.ref l0)]) (st' := [.ref l0, .int (I l0 5)]) cd_37_11 rfl rfl ?_
    obtain ⟨ht, h⟩ := gO_s h
    refine gs_gfI cd_37_12 (by decide) (by decide) ht ?_
    refine gs_0 (pc' := if (I l0 4) ≤ (I l0 5) then 30 else 18) (L' := [some (.ref l0)]) (st' := []) cd_37_15 rfl rfl ?_
    refine go_ite (fun hc => ?_) (fun hc => ?_)
    · rw [if_pos hc] at h
      refine gs_0 (pc' := 31) (L' := [some (.ref l0)]) (st' := [.int 3]) cd_37_30 rfl rfl ?_
      cases h
      exact gs_ri cd_37_31 (Or.inl rfl)
    · rw [if_neg hc] at h
      refine gs_0 (pc' := 19) (L' := [some (.ref l0)]) (st' := [.ref l0]) cd_37_18 rfl rfl ?_
      obtain ⟨ht, h⟩ := gO_s h
      obtain ⟨q_1, hv, h⟩ := gV_s h
      refine gs_gfR cd_37_19 (by decide) ht hv ?_
      refine gs_0 (pc' := 23) (L' := [some (.ref l0)]) (st' := [.ref l0, .ref q_1]) cd_37_22 rfl rfl ?_
      obtain ⟨ht, h⟩ := gO_s h
      refine gs_gfI cd_37_23 (by decide) (by decide) ht ?_
      obtain ⟨ht, h⟩ := gA_s h
      refine gs_iald cd_37_26 ht ?_
      refine gs_0 (pc' := 31) (L' := [some (.ref l0)]) (st' := [.int (I q_1 (I l0 5 : Int32).toNatClampNeg)]) cd_37_27 rfl rfl ?_
      cases h
      exact gs_ri cd_37_31 (Or.inl rfl)
theorem cl_37 {K : Nat → Value} {k d : Nat} {l0 : Nat} {w : aW} {I : aI} {J : aJ} {R : aR} (h : f_37 K k d l0 w I J = some R) : Cl K (d + 1) 37 [.ref l0] w I J = some R := Cl_of (ok_37 h)
/-! ProvedMachine$Reader.beginFun(I)V -/
theorem gl_38 : gcd.lookup 38 = some gw_38 := rfl
theorem cd_38_0 : sm_cd 38 0 = some (.aload_n 0, 1, 0, 0, 0, 0, 0, 0, 0) := cd_of gl_38 rfl
theorem cd_38_1 : sm_cd 38 1 = some (.iload_n 1, 1, 1, 0, 0, 0, 0, 0, 0) := cd_of gl_38 rfl
theorem cd_38_2 : sm_cd 38 2 = some (.putfield 25, 3, 2, 2, 0, 0, 0, 0, 0) := cd_of gl_38 rfl
theorem cd_38_5 : sm_cd 38 5 = some (.aload_n 0, 1, 0, 0, 0, 0, 0, 0, 0) := cd_of gl_38 rfl
theorem cd_38_6 : sm_cd 38 6 = some (.getfield 21, 3, 2, 1, 2, 0, 0, 0, 0) := cd_of gl_38 rfl
theorem cd_38_9 : sm_cd 38 9 = some (.iload_n 1, 1, 1, 0, 0, 0, 0, 0, 0) := cd_of gl_38 rfl
theorem cd_38_10 : sm_cd 38 10 = some (.iconst 1, 1, 0, 0, 0, 0, 0, 1, 0) := cd_of gl_38 rfl
theorem cd_38_11 : sm_cd 38 11 = some (.iadd, 1, 0, 0, 0, 0, 0, 0, 0) := cd_of gl_38 rfl
theorem cd_38_12 : sm_cd 38 12 = some (.putfield 122, 3, 1, 7, 0, 1, 0, 0, 0) := cd_of gl_38 rfl
theorem cd_38_15 : sm_cd 38 15 = some (.aload_n 0, 1, 0, 0, 0, 0, 0, 0, 0) := cd_of gl_38 rfl
theorem cd_38_16 : sm_cd 38 16 = some (.getfield 21, 3, 2, 1, 2, 0, 0, 0, 0) := cd_of gl_38 rfl
theorem cd_38_19 : sm_cd 38 19 = some (.iload_n 1, 1, 1, 0, 0, 0, 0, 0, 0) := cd_of gl_38 rfl
theorem cd_38_20 : sm_cd 38 20 = some (.iconst 0, 1, 0, 0, 0, 0, 0, 0, 0) := cd_of gl_38 rfl
theorem cd_38_21 : sm_cd 38 21 = some (.aload_n 0, 1, 0, 0, 0, 0, 0, 0, 0) := cd_of gl_38 rfl
theorem cd_38_22 : sm_cd 38 22 = some (.getfield 21, 3, 2, 1, 2, 0, 0, 0, 0) := cd_of gl_38 rfl
theorem cd_38_25 : sm_cd 38 25 = some (.getfield 71, 3, 1, 6, 0, 1, 0, 0, 0) := cd_of gl_38 rfl
theorem cd_38_28 : sm_cd 38 28 = some (.invokevirtual 125, 3, 39, 0, 3, 5, 1, 0, 0) := cd_of gl_38 rfl
theorem cd_38_31 : sm_cd 38 31 = some (.aload_n 0, 1, 0, 0, 0, 0, 0, 0, 0) := cd_of gl_38 rfl
theorem cd_38_32 : sm_cd 38 32 = some (.getfield 36, 3, 2, 5, 2, 0, 0, 0, 0) := cd_of gl_38 rfl
theorem cd_38_35 : sm_cd 38 35 = some (.iconst (-1), 1, 0, 0, 0, 0, 0, (-1), 0) := cd_of gl_38 rfl
theorem cd_38_36 : sm_cd 38 36 = some (.invokestatic 88, 3, 36, 1, 2, 4, 10, 0, 0) := cd_of gl_38 rfl
theorem cd_38_39 : sm_cd 38 39 = some (.aload_n 0, 1, 0, 0, 0, 0, 0, 0, 0) := cd_of gl_38 rfl
theorem cd_38_40 : sm_cd 38 40 = some (.iconst 0, 1, 0, 0, 0, 0, 0, 0, 0) := cd_of gl_38 rfl
theorem cd_38_41 : sm_cd 38 41 = some (.putfield 45, 3, 2, 8, 0, 0, 0, 0, 0) := cd_of gl_38 rfl
theorem cd_38_44 : sm_cd 38 44 = some (.aload_n 0, 1, 0, 0, 0, 0, 0, 0, 0) := cd_of gl_38 rfl
theorem cd_38_45 : sm_cd 38 45 = some (.iconst 0, 1, 0, 0, 0, 0, 0, 0, 0) := cd_of gl_38 rfl
theorem cd_38_46 : sm_cd 38 46 = some (.putfield 55, 3, 2, 11, 0, 0, 0, 0, 0) := cd_of gl_38 rfl
theorem cd_38_49 : sm_cd 38 49 = some (.return_, 1, 0, 0, 0, 0, 0, 0, 0) := cd_of gl_38 rfl
noncomputable def f_38 (K : Nat → Value) (k d : Nat) (l0 : Nat) (l1 : Int32) (w : aW) (I : aI) (J : aJ) : Option aR :=
  gO w 2 l0 (
  lt_ (sm_up2 I l0 2 l1) fun I_1 =>
  gO w 2 l0 (
  gV w l0 1 fun q_2 =>
  gO w 1 q_2 (
  lt_ (sm_up2 I_1 q_2 7 (l1 + 1)) fun I_3 =>
  gO w 2 l0 (
  gV w l0 1 fun q_4 =>
  gO w 2 l0 (
  gV w l0 1 fun q_5 =>
  gO w 1 q_5 (
  gO w 1 q_4 (
  cV (Cl K d 39 [.ref q_4, .int l1, .int 0, .int (I_3 q_5 6)] w I_3 J) fun w_6 I_7 J_8 =>
  gO w_6 2 l0 (
  gV w_6 l0 5 fun q_9 =>
  cV (Cl K d 36 [.ref q_9, .int ((-1))] w_6 I_7 J_8) fun w_10 I_11 J_12 =>
  gO w_10 2 l0 (
  lt_ (sm_up2 I_11 l0 8 0) fun I_13 =>
  gO w_10 2 l0 (
  lt_ (sm_up2 I_13 l0 11 0) fun I_14 =>
  some (none, w_10, I_14, J_12)))))))))))
theorem ok_38 {K : Nat → Value} {k d : Nat} {l0 : Nat} {l1 : Int32} {w : aW} {I : aI} {J : aJ} {R : aR} (h : f_38 K k d l0 l1 w I J = some R) : Go K (d + 1) 38 0 [some (.ref l0), some (.int l1)] [] w I J R := by
  unfold f_38 at h
  refine gs_0 (pc' := 1) (L' := [some (.ref l0), some (.int l1)]) (st' := [.ref l0]) cd_38_0 rfl rfl ?_
  refine gs_0 (pc' := 2) (L' := [some (.ref l0), some (.int l1)]) (st' := [.int l1, .ref l0]) cd_38_1 rfl rfl ?_
  obtain ⟨ht, h⟩ := gO_s h
  refine gs_pfI cd_38_2 (by decide) (Or.inl rfl) ht ?_
  obtain ⟨I_1, hx, h⟩ := lt_s_ h
  rw [hx]
  refine gs_0 (pc' := 6) (L' := [some (.ref l0), some (.int l1)]) (st' := [.ref l0]) cd_38_5 rfl rfl ?_
  obtain ⟨ht, h⟩ := gO_s h
  obtain ⟨q_2, hv, h⟩ := gV_s h
  refine gs_gfR cd_38_6 (by decide) ht hv ?_
  refine gs_0 (pc' := 10) (L' := [some (.ref l0), some (.int l1)]) (st' := [.int l1, .ref q_2]) cd_38_9 rfl rfl ?_
  refine gs_0 (pc' := 11) (L' := [some (.ref l0), some (.int l1)]) (st' := [.int 1, .int l1, .ref q_2]) cd_38_10 rfl rfl ?_
  refine gs_0 (pc' := 12) (L' := [some (.ref l0), some (.int l1)]) (st' := [.int (l1 + 1), .ref q_2]) cd_38_11 rfl rfl ?_
  obtain ⟨ht, h⟩ := gO_s h
  refine gs_pfI cd_38_12 (by decide) (Or.inl rfl) ht ?_
  obtain ⟨I_3, hx, h⟩ := lt_s_ h
  rw [hx]
  refine gs_0 (pc' := 16) (L' := [some (.ref l0), some (.int l1)]) (st' := [.ref l0]) cd_38_15 rfl rfl ?_
  obtain ⟨ht, h⟩ := gO_s h
  obtain ⟨q_4, hv, h⟩ := gV_s h
  refine gs_gfR cd_38_16 (by decide) ht hv ?_
  refine gs_0 (pc' := 20) (L' := [some (.ref l0), some (.int l1)]) (st' := [.int l1, .ref q_4]) cd_38_19 rfl rfl ?_
  refine gs_0 (pc' := 21) (L' := [some (.ref l0), some (.int l1)]) (st' := [.int 0, .int l1, .ref q_4]) cd_38_20 rfl rfl ?_
  refine gs_0 (pc' := 22) (L' := [some (.ref l0), some (.int l1)]) (st' := [.ref l0, .int 0, .int l1, .ref q_4]) cd_38_21 rfl rfl ?_
  obtain ⟨ht, h⟩ := gO_s h
  obtain ⟨q_5, hv, h⟩ := gV_s h
  refine gs_gfR cd_38_22 (by decide) ht hv ?_
  obtain ⟨ht, h⟩ := gO_s h
  refine gs_gfI cd_38_25 (by decide) (by decide) ht ?_
  obtain ⟨ht, h⟩ := gO_s h
  obtain ⟨w_6, I_7, J_8, hcl, h⟩ := cV_s h
  refine gs_call (as := [.ref q_4, .int l1, .int 0, .int (I_3 q_5 6)]) (rest := []) cd_38_28 rfl (by decide) rfl (sm_rv_ok (by decide) ht) (Nat.le_of_ble_eq_true rfl) (Nat.le_of_ble_eq_true rfl) rfl hcl ?_
  refine gs_0 (pc' := 32) (L' := [some (.ref l0), some (.int l1)]) (st' := [.ref l0]) cd_38_31 rfl rfl ?_
  obtain ⟨ht, h⟩ := gO_s h
  obtain ⟨q_9, hv, h⟩ := gV_s h
  refine gs_gfR cd_38_32 (by decide) ht hv ?_
  refine gs_0 (pc' := 36) (L' := [some (.ref l0), some (.int l1)]) (st' := [.int ((-1)), .ref q_9]) cd_38_35 rfl rfl ?_
  obtain ⟨w_10, I_11, J_12, hcl, h⟩ := cV_s h
  refine gs_call (as := [.ref q_9, .int ((-1))]) (rest := []) cd_38_36 rfl (by decide) rfl rfl (Nat.le_of_ble_eq_true rfl) (Nat.le_of_ble_eq_true rfl) rfl hcl ?_
  refine gs_0 (pc' := 40) (L' := [some (.ref l0), some (.int l1)]) (st' := [.ref l0]) cd_38_39 rfl rfl ?_
  refine gs_0 (pc' := 41) (L' := [some (.ref l0), some (.int l1)]) (st' := [.int 0, .ref l0]) cd_38_40 rfl rfl ?_
  obtain ⟨ht, h⟩ := gO_s h
  refine gs_pfI cd_38_41 (by decide) (Or.inl rfl) ht ?_
  obtain ⟨I_13, hx, h⟩ := lt_s_ h
  rw [hx]
  refine gs_0 (pc' := 45) (L' := [some (.ref l0), some (.int l1)]) (st' := [.ref l0]) cd_38_44 rfl rfl ?_
  refine gs_0 (pc' := 46) (L' := [some (.ref l0), some (.int l1)]) (st' := [.int 0, .ref l0]) cd_38_45 rfl rfl ?_
  obtain ⟨ht, h⟩ := gO_s h
  refine gs_pfI cd_38_46 (by decide) (Or.inl rfl) ht ?_
  obtain ⟨I_14, hx, h⟩ := lt_s_ h
  rw [hx]
  cases h
  exact gsr cd_38_49 rfl rfl
theorem cl_38 {K : Nat → Value} {k d : Nat} {l0 : Nat} {l1 : Int32} {w : aW} {I : aI} {J : aJ} {R : aR} (h : f_38 K k d l0 l1 w I J = some R) : Cl K (d + 1) 38 [.ref l0, .int l1] w I J = some R := Cl_of (ok_38 h)
/-! ProvedMachine$Program.setHead(III)V -/
theorem gl_39 : gcd.lookup 39 = some gw_39 := rfl
theorem cd_39_0 : sm_cd 39 0 = some (.iload_n 1, 1, 1, 0, 0, 0, 0, 0, 0) := cd_of gl_39 rfl
theorem cd_39_1 : sm_cd 39 1 = some (.iconst 4, 1, 0, 0, 0, 0, 0, 4, 0) := cd_of gl_39 rfl
theorem cd_39_2 : sm_cd 39 2 = some (.imul, 1, 0, 0, 0, 0, 0, 0, 0) := cd_of gl_39 rfl
theorem cd_39_3 : sm_cd 39 3 = some (.iload_n 2, 1, 2, 0, 0, 0, 0, 0, 0) := cd_of gl_39 rfl
theorem cd_39_4 : sm_cd 39 4 = some (.iadd, 1, 0, 0, 0, 0, 0, 0, 0) := cd_of gl_39 rfl
theorem cd_39_5 : sm_cd 39 5 = some (.istore 4, 2, 4, 0, 0, 0, 0, 0, 0) := cd_of gl_39 rfl
theorem cd_39_7 : sm_cd 39 7 = some (.iload 4, 2, 4, 0, 0, 0, 0, 0, 0) := cd_of gl_39 rfl
theorem cd_39_9 : sm_cd 39 9 = some (.ifCond .lt 21, 3, 30, 0, 0, 0, 0, 0, 0) := cd_of gl_39 rfl
theorem cd_39_12 : sm_cd 39 12 = some (.iload 4, 2, 4, 0, 0, 0, 0, 0, 0) := cd_of gl_39 rfl
theorem cd_39_14 : sm_cd 39 14 = some (.aload_n 0, 1, 0, 0, 0, 0, 0, 0, 0) := cd_of gl_39 rfl
theorem cd_39_15 : sm_cd 39 15 = some (.getfield 26, 3, 1, 4, 2, 0, 0, 0, 0) := cd_of gl_39 rfl
theorem cd_39_18 : sm_cd 39 18 = some (.arraylength, 1, 0, 0, 0, 0, 0, 0, 0) := cd_of gl_39 rfl
theorem cd_39_19 : sm_cd 39 19 = some (.if_icmp .ge 11, 3, 30, 0, 0, 0, 0, 0, 0) := cd_of gl_39 rfl
theorem cd_39_22 : sm_cd 39 22 = some (.aload_n 0, 1, 0, 0, 0, 0, 0, 0, 0) := cd_of gl_39 rfl
theorem cd_39_23 : sm_cd 39 23 = some (.getfield 26, 3, 1, 4, 2, 0, 0, 0, 0) := cd_of gl_39 rfl
theorem cd_39_26 : sm_cd 39 26 = some (.iload 4, 2, 4, 0, 0, 0, 0, 0, 0) := cd_of gl_39 rfl
theorem cd_39_28 : sm_cd 39 28 = some (.iload_n 3, 1, 3, 0, 0, 0, 0, 0, 0) := cd_of gl_39 rfl
theorem cd_39_29 : sm_cd 39 29 = some (.iastore, 1, 0, 0, 0, 0, 0, 0, 0) := cd_of gl_39 rfl
theorem cd_39_30 : sm_cd 39 30 = some (.return_, 1, 0, 0, 0, 0, 0, 0, 0) := cd_of gl_39 rfl
noncomputable def f_39 (K : Nat → Value) (k d : Nat) (l0 : Nat) (l1 : Int32) (l2 : Int32) (l3 : Int32) (w : aW) (I : aI) (J : aJ) : Option aR :=
  lt_ ((l1 * 4) + l2) fun x_1 =>
  if x_1 < 0 then
    some (none, w, I, J)
  else
    gO w 1 l0 (
    gV w l0 4 fun q_2 =>
    gL w q_2 fun n_3 =>
    if n_3 ≤ x_1 then
      some (none, w, I, J)
    else
      gO w 1 l0 (
      gV w l0 4 fun q_4 =>
      gA w 10 10 q_4 x_1 (
      lt_ (sm_up2 I q_4 (x_1 : Int32).toNatClampNeg l3) fun I_5 =>
      some (none, w, I_5, J))))
theorem ok_39 {K : Nat → Value} {k d : Nat} {l0 : Nat} {l1 : Int32} {l2 : Int32} {l3 : Int32} {w : aW} {I : aI} {J : aJ} {R : aR} (h : f_39 K k d l0 l1 l2 l3 w I J = some R) : Go K (d + 1) 39 0 [some (.ref l0), some (.int l1), some (.int l2), some (.int l3), none] [] w I J R := by
  unfold f_39 at h
  refine gs_0 (pc' := 1) (L' := [some (.ref l0), some (.int l1), some (.int l2), some (.int l3), none]) (st' := [.int l1]) cd_39_0 rfl rfl ?_
  refine gs_0 (pc' := 2) (L' := [some (.ref l0), some (.int l1), some (.int l2), some (.int l3), none]) (st' := [.int 4, .int l1]) cd_39_1 rfl rfl ?_
  refine gs_0 (pc' := 3) (L' := [some (.ref l0), some (.int l1), some (.int l2), some (.int l3), none]) (st' := [.int (l1 * 4)]) cd_39_2 rfl rfl ?_
  refine gs_0 (pc' := 4) (L' := [some (.ref l0), some (.int l1), some (.int l2), some (.int l3), none]) (st' := [.int l2, .int (l1 * 4)]) cd_39_3 rfl rfl ?_
  refine gs_0 (pc' := 5) (L' := [some (.ref l0), some (.int l1), some (.int l2), some (.int l3), none]) (st' := [.int ((l1 * 4) + l2)]) cd_39_4 rfl rfl ?_
  refine gs_0 (pc' := 7) (L' := [some (.ref l0), some (.int l1), some (.int l2), some (.int l3), some (.int ((l1 * 4) + l2))]) (st' := []) cd_39_5 rfl rfl ?_
  obtain ⟨x_1, hx, h⟩ := lt_s_ h
  rw [hx]
  clear hx
  refine gs_0 (pc' := 9) (L' := [some (.ref l0), some (.int l1), some (.int l2), some (.int l3), some (.int x_1)]) (st' := [.int x_1]) cd_39_7 rfl rfl ?_
  refine gs_0 (pc' := if x_1 < 0 then 30 else 12) (L' := [some (.ref l0), some (.int l1), some (.int l2), some (.int l3), some (.int x_1)]) (st' := []) cd_39_9 rfl rfl ?_
  refine go_ite (fun hc => ?_) (fun hc => ?_)
  · rw [if_pos hc] at h
    cases h
    exact gsr cd_39_30 rfl rfl
  · rw [if_neg hc] at h
    refine gs_0 (pc' := 14) (L' := [some (.ref l0), some (.int l1), some (.int l2), some (.int l3), some (.int x_1)]) (st' := [.int x_1]) cd_39_12 rfl rfl ?_
    refine gs_0 (pc' := 15) (L' := [some (.ref l0), some (.int l1), some (.int l2), some (.int l3), some (.int x_1)]) (st' := [.ref l0, .int x_1]) cd_39_14 rfl rfl ?_
    obtain ⟨ht, h⟩ := gO_s h
    obtain ⟨q_2, hv, h⟩ := gV_s h
    refine gs_gfR cd_39_15 (by decide) ht hv ?_
    obtain ⟨t0, n0, ht, ht2, h⟩ := gL_s h
    refine gs_alen cd_39_18 ht ht2 ?_
    generalize Int32.ofNat n0 = n_3 at h ⊢
    refine gs_0 (pc' := if n_3 ≤ x_1 then 30 else 22) (L' := [some (.ref l0), some (.int l1), some (.int l2), some (.int l3), some (.int x_1)]) (st' := []) cd_39_19 rfl rfl ?_
    refine go_ite (fun hc => ?_) (fun hc => ?_)
    · rw [if_pos hc] at h
      cases h
      exact gsr cd_39_30 rfl rfl
    · rw [if_neg hc] at h
      refine gs_0 (pc' := 23) (L' := [some (.ref l0), some (.int l1), some (.int l2), some (.int l3), some (.int x_1)]) (st' := [.ref l0]) cd_39_22 rfl rfl ?_
      obtain ⟨ht, h⟩ := gO_s h
      obtain ⟨q_4, hv, h⟩ := gV_s h
      refine gs_gfR cd_39_23 (by decide) ht hv ?_
      refine gs_0 (pc' := 28) (L' := [some (.ref l0), some (.int l1), some (.int l2), some (.int l3), some (.int x_1)]) (st' := [.int x_1, .ref q_4]) cd_39_26 rfl rfl ?_
      refine gs_0 (pc' := 29) (L' := [some (.ref l0), some (.int l1), some (.int l2), some (.int l3), some (.int x_1)]) (st' := [.int l3, .int x_1, .ref q_4]) cd_39_28 rfl rfl ?_
      obtain ⟨ht, h⟩ := gA_s h
      refine gs_iast cd_39_29 ht ?_
      obtain ⟨I_5, hx, h⟩ := lt_s_ h
      rw [hx]
      cases h
      exact gsr cd_39_30 rfl rfl
theorem cl_39 {K : Nat → Value} {k d : Nat} {l0 : Nat} {l1 : Int32} {l2 : Int32} {l3 : Int32} {w : aW} {I : aI} {J : aJ} {R : aR} (h : f_39 K k d l0 l1 l2 l3 w I J = some R) : Cl K (d + 1) 39 [.ref l0, .int l1, .int l2, .int l3] w I J = some R := Cl_of (ok_39 h)

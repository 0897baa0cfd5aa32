/-! methods as functions, by own program (wip/whole/gen_f.py) -/
/-! ProvedMachineModel.term()I -/
set_option maxRecDepth 20000 in
theorem gl_107 : gcd.lookup 107 = some gw_107 := rfl
theorem cd_107_0 : sm_cd 107 0 = some (.aload_n 0, 1, 0, 0, 0, 0, 0, 0, 0) := cd_of gl_107 rfl
theorem cd_107_1 : sm_cd 107 1 = some (.invokevirtual 266, 3, 108, 0, 0, 5, 6, 0, 0) := cd_of gl_107 rfl
theorem cd_107_4 : sm_cd 107 4 = some (.istore_n 1, 1, 1, 0, 0, 0, 0, 0, 0) := cd_of gl_107 rfl
theorem cd_107_5 : sm_cd 107 5 = some (.aload_n 0, 1, 0, 0, 0, 0, 0, 0, 0) := cd_of gl_107 rfl
theorem cd_107_6 : sm_cd 107 6 = some (.bipush 42, 2, 0, 0, 0, 0, 0, 42, 0) := cd_of gl_107 rfl
theorem cd_107_8 : sm_cd 107 8 = some (.invokevirtual 200, 3, 94, 0, 1, 2, 6, 0, 0) := cd_of gl_107 rfl
theorem cd_107_11 : sm_cd 107 11 = some (.ifCond .ne 12, 3, 23, 0, 0, 0, 0, 0, 0) := cd_of gl_107 rfl
theorem cd_107_14 : sm_cd 107 14 = some (.aload_n 0, 1, 0, 0, 0, 0, 0, 0, 0) := cd_of gl_107 rfl
theorem cd_107_15 : sm_cd 107 15 = some (.bipush 47, 2, 0, 0, 0, 0, 0, 47, 0) := cd_of gl_107 rfl
theorem cd_107_17 : sm_cd 107 17 = some (.invokevirtual 200, 3, 94, 0, 1, 2, 6, 0, 0) := cd_of gl_107 rfl
theorem cd_107_20 : sm_cd 107 20 = some (.ifCond .eq 65, 3, 85, 0, 0, 0, 0, 0, 0) := cd_of gl_107 rfl
theorem cd_107_23 : sm_cd 107 23 = some (.aload_n 0, 1, 0, 0, 0, 0, 0, 0, 0) := cd_of gl_107 rfl
theorem cd_107_24 : sm_cd 107 24 = some (.bipush 42, 2, 0, 0, 0, 0, 0, 42, 0) := cd_of gl_107 rfl
theorem cd_107_26 : sm_cd 107 26 = some (.invokevirtual 200, 3, 94, 0, 1, 2, 6, 0, 0) := cd_of gl_107 rfl
theorem cd_107_29 : sm_cd 107 29 = some (.istore_n 2, 1, 2, 0, 0, 0, 0, 0, 0) := cd_of gl_107 rfl
theorem cd_107_30 : sm_cd 107 30 = some (.aload_n 0, 1, 0, 0, 0, 0, 0, 0, 0) := cd_of gl_107 rfl
theorem cd_107_31 : sm_cd 107 31 = some (.getfield 160, 3, 6, 22, 0, 0, 0, 0, 0) := cd_of gl_107 rfl
theorem cd_107_34 : sm_cd 107 34 = some (.istore_n 3, 1, 3, 0, 0, 0, 0, 0, 0) := cd_of gl_107 rfl
theorem cd_107_35 : sm_cd 107 35 = some (.aload_n 0, 1, 0, 0, 0, 0, 0, 0, 0) := cd_of gl_107 rfl
theorem cd_107_36 : sm_cd 107 36 = some (.invokevirtual 197, 3, 84, 0, 0, 1, 6, 0, 0) := cd_of gl_107 rfl
theorem cd_107_39 : sm_cd 107 39 = some (.aload_n 0, 1, 0, 0, 0, 0, 0, 0, 0) := cd_of gl_107 rfl
theorem cd_107_40 : sm_cd 107 40 = some (.invokevirtual 266, 3, 108, 0, 0, 5, 6, 0, 0) := cd_of gl_107 rfl
theorem cd_107_43 : sm_cd 107 43 = some (.istore 4, 2, 4, 0, 0, 0, 0, 0, 0) := cd_of gl_107 rfl
theorem cd_107_45 : sm_cd 107 45 = some (.aload_n 0, 1, 0, 0, 0, 0, 0, 0, 0) := cd_of gl_107 rfl
theorem cd_107_46 : sm_cd 107 46 = some (.iload_n 1, 1, 1, 0, 0, 0, 0, 0, 0) := cd_of gl_107 rfl
theorem cd_107_47 : sm_cd 107 47 = some (.ifCond .ne 12, 3, 59, 0, 0, 0, 0, 0, 0) := cd_of gl_107 rfl
theorem cd_107_50 : sm_cd 107 50 = some (.iload 4, 2, 4, 0, 0, 0, 0, 0, 0) := cd_of gl_107 rfl
theorem cd_107_52 : sm_cd 107 52 = some (.ifCond .ne 7, 3, 59, 0, 0, 0, 0, 0, 0) := cd_of gl_107 rfl
theorem cd_107_55 : sm_cd 107 55 = some (.iconst 1, 1, 0, 0, 0, 0, 0, 1, 0) := cd_of gl_107 rfl
theorem cd_107_56 : sm_cd 107 56 = some (.goto 4, 3, 60, 0, 0, 0, 0, 0, 0) := cd_of gl_107 rfl
theorem cd_107_59 : sm_cd 107 59 = some (.iconst 0, 1, 0, 0, 0, 0, 0, 0, 0) := cd_of gl_107 rfl
theorem cd_107_60 : sm_cd 107 60 = some (.iload_n 3, 1, 3, 0, 0, 0, 0, 0, 0) := cd_of gl_107 rfl
theorem cd_107_61 : sm_cd 107 61 = some (.invokevirtual 244, 3, 110, 0, 2, 3, 6, 0, 0) := cd_of gl_107 rfl
theorem cd_107_64 : sm_cd 107 64 = some (.aload_n 0, 1, 0, 0, 0, 0, 0, 0, 0) := cd_of gl_107 rfl
theorem cd_107_65 : sm_cd 107 65 = some (.iload_n 2, 1, 2, 0, 0, 0, 0, 0, 0) := cd_of gl_107 rfl
theorem cd_107_66 : sm_cd 107 66 = some (.ifCond .eq 8, 3, 74, 0, 0, 0, 0, 0, 0) := cd_of gl_107 rfl
theorem cd_107_69 : sm_cd 107 69 = some (.bipush 19, 2, 0, 0, 0, 0, 0, 19, 0) := cd_of gl_107 rfl
theorem cd_107_71 : sm_cd 107 71 = some (.goto 5, 3, 76, 0, 0, 0, 0, 0, 0) := cd_of gl_107 rfl
theorem cd_107_74 : sm_cd 107 74 = some (.bipush 20, 2, 0, 0, 0, 0, 0, 20, 0) := cd_of gl_107 rfl
theorem cd_107_76 : sm_cd 107 76 = some (.iconst 0, 1, 0, 0, 0, 0, 0, 0, 0) := cd_of gl_107 rfl
theorem cd_107_77 : sm_cd 107 77 = some (.invokevirtual 247, 3, 111, 0, 2, 3, 6, 0, 0) := cd_of gl_107 rfl
theorem cd_107_80 : sm_cd 107 80 = some (.iconst 0, 1, 0, 0, 0, 0, 0, 0, 0) := cd_of gl_107 rfl
theorem cd_107_81 : sm_cd 107 81 = some (.istore_n 1, 1, 1, 0, 0, 0, 0, 0, 0) := cd_of gl_107 rfl
theorem cd_107_82 : sm_cd 107 82 = some (.goto (-77), 3, 5, 0, 0, 0, 0, 0, 0) := cd_of gl_107 rfl
theorem cd_107_85 : sm_cd 107 85 = some (.iload_n 1, 1, 1, 0, 0, 0, 0, 0, 0) := cd_of gl_107 rfl
theorem cd_107_86 : sm_cd 107 86 = some (.ireturn, 1, 0, 0, 1, 0, 0, 0, 0) := cd_of gl_107 rfl
noncomputable def f_107_76 (K : Nat → Value) (k d : Nat) (r5 : Nat → Int32 → aW → aI → aJ → Option aR) (l0 : Nat) (l1 : Int32) (l2 : Int32) (l3 : Int32) (l4 : Int32) (s0 : Nat) (s1 : Int32) (w : aW) (I : aI) (J : aJ) : Option aR :=
  gO w 6 s0 (
  cV (Cl K d 111 [.ref s0, .int s1, .int 0] w I J) fun w_1 I_2 J_3 =>
  r5 l0 0 w_1 I_2 J_3)
theorem ok_107_76 {K : Nat → Value} {k d : Nat} {r5 : Nat → Int32 → aW → aI → aJ → Option aR} (hr5 : ∀ (l0 : Nat) (l1 : Int32) (w : aW) (I : aI) (J : aJ) (R : aR), r5 l0 l1 w I J = some R → Go K (d + 1) 107 5 [some (.ref l0), some (.int l1), none, none, none] [] w I J R) {l0 : Nat} {l1 : Int32} {l2 : Int32} {l3 : Int32} {l4 : Int32} {s0 : Nat} {s1 : Int32} {w : aW} {I : aI} {J : aJ} {R : aR} (h : f_107_76 K k d r5 l0 l1 l2 l3 l4 s0 s1 w I J = some R) : Go K (d + 1) 107 76 [some (.ref l0), some (.int l1), some (.int l2), some (.int l3), some (.int l4)] [.int s1, .ref s0] w I J R := by
  unfold f_107_76 at h
  refine gs_0 (pc' := 77) (L' := [some (.ref l0), some (.int l1), some (.int l2), some (.int l3), some (.int l4)]) (st' := [.int 0, .int s1, .ref s0]) cd_107_76 rfl rfl ?_
  obtain ⟨ht, h⟩ := gO_s h
  obtain ⟨w_1, I_2, J_3, hcl, h⟩ := cV_s h
  refine gs_call (as := [.ref s0, .int s1, .int 0]) (rest := []) cd_107_77 rfl (by decide) rfl (sm_rv_ok (by decide) ht) (Nat.le_of_ble_eq_true rfl) (Nat.le_of_ble_eq_true rfl) rfl hcl ?_
  refine gs_0 (pc' := 81) (L' := [some (.ref l0), some (.int l1), some (.int l2), some (.int l3), some (.int l4)]) (st' := [.int 0]) cd_107_80 rfl rfl ?_
  refine gs_0 (pc' := 82) (L' := [some (.ref l0), some (.int 0), some (.int l2), some (.int l3), some (.int l4)]) (st' := []) cd_107_81 rfl rfl ?_
  refine gs_0 (pc' := 5) (L' := [some (.ref l0), some (.int 0), some (.int l2), some (.int l3), some (.int l4)]) (st' := []) cd_107_82 rfl rfl ?_
  refine go_drop [some (.ref l0), some (.int 0), none, none, none] ⟨rfl, ⟨rfl, ⟨rfl, ⟨rfl, ⟨rfl, trivial⟩⟩⟩⟩⟩ ?_
  exact hr5 l0 0 _ _ _ _ h
noncomputable def f_107_60 (K : Nat → Value) (k d : Nat) (r5 : Nat → Int32 → aW → aI → aJ → Option aR) (l0 : Nat) (l1 : Int32) (l2 : Int32) (l3 : Int32) (l4 : Int32) (s0 : Nat) (s1 : Int32) (w : aW) (I : aI) (J : aJ) : Option aR :=
  gO w 6 s0 (
  cV (Cl K d 110 [.ref s0, .int s1, .int l3] w I J) fun w_1 I_2 J_3 =>
  if l2 = 0 then
    f_107_76 K k d r5 l0 l1 l2 l3 l4 l0 20 w_1 I_2 J_3
  else
    f_107_76 K k d r5 l0 l1 l2 l3 l4 l0 19 w_1 I_2 J_3)
theorem ok_107_60 {K : Nat → Value} {k d : Nat} {r5 : Nat → Int32 → aW → aI → aJ → Option aR} (hr5 : ∀ (l0 : Nat) (l1 : Int32) (w : aW) (I : aI) (J : aJ) (R : aR), r5 l0 l1 w I J = some R → Go K (d + 1) 107 5 [some (.ref l0), some (.int l1), none, none, none] [] w I J R) {l0 : Nat} {l1 : Int32} {l2 : Int32} {l3 : Int32} {l4 : Int32} {s0 : Nat} {s1 : Int32} {w : aW} {I : aI} {J : aJ} {R : aR} (h : f_107_60 K k d r5 l0 l1 l2 l3 l4 s0 s1 w I J = some R) : Go K (d + 1) 107 60 [some (.ref l0), some (.int l1), some (.int l2), some (.int l3), some (.int l4)] [.int s1, .ref s0] w I J R := by
  unfold f_107_60 at h
  refine gs_0 (pc' := 61) (L' := [some (.ref l0), some (.int l1), some (.int l2), some (.int l3), some (.int l4)]) (st' := [.int l3, .int s1, .ref s0]) cd_107_60 rfl rfl ?_
  obtain ⟨ht, h⟩ := gO_s h
  obtain ⟨w_1, I_2, J_3, hcl, h⟩ := cV_s h
  refine gs_call (as := [.ref s0, .int s1, .int l3]) (rest := []) cd_107_61 rfl (by decide) rfl (sm_rv_ok (by decide) ht) (Nat.le_of_ble_eq_true rfl) (Nat.le_of_ble_eq_true rfl) rfl hcl ?_
  refine gs_0 (pc' := 65) (L' := [some (.ref l0), some (.int l1), some (.int l2), some (.int l3), some (.int l4)]) (st' := [.ref l0]) cd_107_64 rfl rfl ?_
  refine gs_0 (pc' := 66) (L' := [some (.ref l0), some (.int l1), some (.int l2), some (.int l3), some (.int l4)]) (st' := [.int l2, .ref l0]) cd_107_65 rfl rfl ?_
  refine gs_0 (pc' := if l2 = 0 then 74 else 69) (L' := [some (.ref l0), some (.int l1), some (.int l2), some (.int l3), some (.int l4)]) (st' := [.ref l0]) cd_107_66 rfl rfl ?_
  refine go_ite (fun hc => ?_) (fun hc => ?_)
  · rw [if_pos hc] at h
    refine gs_0 (pc' := 76) (L' := [some (.ref l0), some (.int l1), some (.int l2), some (.int l3), some (.int l4)]) (st' := [.int 20, .ref l0]) cd_107_74 rfl rfl ?_
    exact ok_107_76 hr5 h
  · rw [if_neg hc] at h
    refine gs_0 (pc' := 71) (L' := [some (.ref l0), some (.int l1), some (.int l2), some (.int l3), some (.int l4)]) (st' := [.int 19, .ref l0]) cd_107_69 rfl rfl ?_
    refine gs_0 (pc' := 76) (L' := [some (.ref l0), some (.int l1), some (.int l2), some (.int l3), some (.int l4)]) (st' := [.int 19, .ref l0]) cd_107_71 rfl rfl ?_
    exact ok_107_76 hr5 h
noncomputable def f_107_59 (K : Nat → Value) (k d : Nat) (r5 : Nat → Int32 → aW → aI → aJ → Option aR) (l0 : Nat) (l1 : Int32) (l2 : Int32) (l3 : Int32) (l4 : Int32) (s0 : Nat) (w : aW) (I : aI) (J : aJ) : Option aR :=
  f_107_60 K k d r5 l0 l1 l2 l3 l4 s0 0 w I J
theorem ok_107_59 {K : Nat → Value} {k d : Nat} {r5 : Nat → Int32 → aW → aI → aJ → Option aR} (hr5 : ∀ (l0 : Nat) (l1 : Int32) (w : aW) (I : aI) (J : aJ) (R : aR), r5 l0 l1 w I J = some R → Go K (d + 1) 107 5 [some (.ref l0), some (.int l1), none, none, none] [] w I J R) {l0 : Nat} {l1 : Int32} {l2 : Int32} {l3 : Int32} {l4 : Int32} {s0 : Nat} {w : aW} {I : aI} {J : aJ} {R : aR} (h : f_107_59 K k d r5 l0 l1 l2 l3 l4 s0 w I J = some R) : Go K (d + 1) 107 59 [some (.ref l0), some (.int l1), some (.int l2), some (.int l3), some (.int l4)] [.ref s0] w I J R := by
  unfold f_107_59 at h
  refine gs_0 (pc' := 60) (L' := [some (.ref l0), some (.int l1), some (.int l2), some (.int l3), some (.int l4)]) (st' := [.int 0, .ref s0]) cd_107_59 rfl rfl ?_
  exact ok_107_60 hr5 h
noncomputable def f_107_23 (K : Nat → Value) (k d : Nat) (r5 : Nat → Int32 → aW → aI → aJ → Option aR) (l0 : Nat) (l1 : Int32) (w : aW) (I : aI) (J : aJ) : Option aR :=
  gO w 6 l0 (
  cI (Cl K d 94 [.ref l0, .int 42] w I J) fun x_4 w_1 I_2 J_3 =>
  gO w_1 6 l0 (
  lt_ (I_2 l0 22) fun x_5 =>
  gO w_1 6 l0 (
  cV (Cl K d 84 [.ref l0] w_1 I_2 J_3) fun w_6 I_7 J_8 =>
  gO w_6 6 l0 (
  cI (Cl K d 108 [.ref l0] w_6 I_7 J_8) fun x_12 w_9 I_10 J_11 =>
  if ¬ l1 = 0 then
    f_107_59 K k d r5 l0 l1 x_4 x_5 x_12 l0 w_9 I_10 J_11
  else
    if ¬ x_12 = 0 then
      f_107_59 K k d r5 l0 l1 x_4 x_5 x_12 l0 w_9 I_10 J_11
    else
      f_107_60 K k d r5 l0 l1 x_4 x_5 x_12 l0 1 w_9 I_10 J_11))))
theorem ok_107_23 {K : Nat → Value} {k d : Nat} {r5 : Nat → Int32 → aW → aI → aJ → Option aR} (hr5 : ∀ (l0 : Nat) (l1 : Int32) (w : aW) (I : aI) (J : aJ) (R : aR), r5 l0 l1 w I J = some R → Go K (d + 1) 107 5 [some (.ref l0), some (.int l1), none, none, none] [] w I J R) {l0 : Nat} {l1 : Int32} {w : aW} {I : aI} {J : aJ} {R : aR} (h : f_107_23 K k d r5 l0 l1 w I J = some R) : Go K (d + 1) 107 23 [some (.ref l0), some (.int l1), none, none, none] [] w I J R := by
  unfold f_107_23 at h
  refine gs_0 (pc' := 24) (L' := [some (.ref l0), some (.int l1), none, none, none]) (st' := [.ref l0]) cd_107_23 rfl rfl ?_
  refine gs_0 (pc' := 26) (L' := [some (.ref l0), some (.int l1), none, none, none]) (st' := [.int 42, .ref l0]) cd_107_24 rfl rfl ?_
  obtain ⟨ht, h⟩ := gO_s h
  obtain ⟨x_4, w_1, I_2, J_3, hcl, h⟩ := cI_s h
  refine gs_call (as := [.ref l0, .int 42]) (rest := []) cd_107_26 rfl (by decide) rfl (sm_rv_ok (by decide) ht) (Nat.le_of_ble_eq_true rfl) (Nat.le_of_ble_eq_true rfl) rfl hcl ?_
  refine gs_0 (pc' := 30) (L' := [some (.ref l0), some (.int l1), some (.int x_4), none, none]) (st' := []) cd_107_29 rfl rfl ?_
  refine gs_0 (pc' := 31) (L' := [some (.ref l0), some (.int l1), some (.int x_4), none, none]) (st' := [.ref l0]) cd_107_30 rfl rfl ?_
  obtain ⟨ht, h⟩ := gO_s h
  refine gs_gfI cd_107_31 (by decide) (by decide) ht ?_
  refine gs_0 (pc' := 35) (L' := [some (.ref l0), some (.int l1), some (.int x_4), some (.int (I_2 l0 22)), none]) (st' := []) cd_107_34 rfl rfl ?_
  obtain ⟨x_5, hx, h⟩ := lt_s_ h
  rw [hx]
  clear hx
  refine gs_0 (pc' := 36) (L' := [some (.ref l0), some (.int l1), some (.int x_4), some (.int x_5), none]) (st' := [.ref l0]) cd_107_35 rfl rfl ?_
  obtain ⟨ht, h⟩ := gO_s h
  obtain ⟨w_6, I_7, J_8, hcl, h⟩ := cV_s h
  refine gs_call (as := [.ref l0]) (rest := []) cd_107_36 rfl (by decide) rfl (sm_rv_ok (by decide) ht) (Nat.le_of_ble_eq_true rfl) (Nat.le_of_ble_eq_true rfl) rfl hcl ?_
  refine gs_0 (pc' := 40) (L' := [some (.ref l0), some (.int l1), some (.int x_4), some (.int x_5), none]) (st' := [.ref l0]) cd_107_39 rfl rfl ?_
  obtain ⟨ht, h⟩ := gO_s h
  obtain ⟨x_12, w_9, I_10, J_11, hcl, h⟩ := cI_s h
  refine gs_call (as := [.ref l0]) (rest := []) cd_107_40 rfl (by decide) rfl (sm_rv_ok (by decide) ht) (Nat.le_of_ble_eq_true rfl) (Nat.le_of_ble_eq_true rfl) rfl hcl ?_
  refine gs_0 (pc' := 45) (L' := [some (.ref l0), some (.int l1), some (.int x_4), some (.int x_5), some (.int x_12)]) (st' := []) cd_107_43 rfl rfl ?_
  refine gs_0 (pc' := 46) (L' := [some (.ref l0), some (.int l1), some (.int x_4), some (.int x_5), some (.int x_12)]) (st' := [.ref l0]) cd_107_45 rfl rfl ?_
  refine gs_0 (pc' := 47) (L' := [some (.ref l0), some (.int l1), some (.int x_4), some (.int x_5), some (.int x_12)]) (st' := [.int l1, .ref l0]) cd_107_46 rfl rfl ?_
  refine gs_0 (pc' := if ¬ l1 = 0 then 59 else 50) (L' := [some (.ref l0), some (.int l1), some (.int x_4), some (.int x_5), some (.int x_12)]) (st' := [.ref l0]) cd_107_47 rfl rfl ?_
  refine go_ite (fun hc => ?_) (fun hc => ?_)
  · rw [if_pos hc] at h
    exact ok_107_59 hr5 h
  · rw [if_neg hc] at h
    refine gs_0 (pc' := 52) (L' := [some (.ref l0), some (.int l1), some (.int x_4), some (.int x_5), some (.int x_12)]) (st' := [.int x_12, .ref l0]) cd_107_50 rfl rfl ?_
    refine gs_0 (pc' := if ¬ x_12 = 0 then 59 else 55) (L' := [some (.ref l0), some (.int l1), some (.int x_4), some (.int x_5), some (.int x_12)]) (st' := [.ref l0]) cd_107_52 rfl rfl ?_
    refine go_ite (fun hc => ?_) (fun hc => ?_)
    · rw [if_pos hc] at h
      exact ok_107_59 hr5 h
    · rw [if_neg hc] at h
      refine gs_0 (pc' := 56) (L' := [some (.ref l0), some (.int l1), some (.int x_4), some (.int x_5), some (.int x_12)]) (st' := [.int 1, .ref l0]) cd_107_55 rfl rfl ?_
      refine gs_0 (pc' := 60) (L' := [some (.ref l0), some (.int l1), some (.int x_4), some (.int x_5), some (.int x_12)]) (st' := [.int 1, .ref l0]) cd_107_56 rfl rfl ?_
      exact ok_107_60 hr5 h
noncomputable def f_107_5 (K : Nat → Value) (k : Nat) (d : Nat) : Nat → Int32 → aW → aI → aJ → Option aR :=
  match k with
  | 0 => fun _ _ _ _ _ => none
  | k + 1 => fun l0 l1 w I J =>
  lt_ (f_107_5 K k d) fun r5 =>
  gO w 6 l0 (
  cI (Cl K d 94 [.ref l0, .int 42] w I J) fun x_4 w_1 I_2 J_3 =>
  if ¬ x_4 = 0 then
    f_107_23 K k d r5 l0 l1 w_1 I_2 J_3
  else
    gO w_1 6 l0 (
    cI (Cl K d 94 [.ref l0, .int 47] w_1 I_2 J_3) fun x_8 w_5 I_6 J_7 =>
    if x_8 = 0 then
      some (some (.int l1), w_5, I_6, J_7)
    else
      f_107_23 K k d r5 l0 l1 w_5 I_6 J_7))
theorem ok_107_5 {K : Nat → Value} {d : Nat} : ∀ {k : Nat} {l0 : Nat} {l1 : Int32} {w : aW} {I : aI} {J : aJ} {R : aR}, f_107_5 K k d l0 l1 w I J = some R → Go K (d + 1) 107 5 [some (.ref l0), some (.int l1), none, none, none] [] w I J R := by
  intro k
  induction k with
  | zero => intro l0 l1 w I J R h; cases h
  | succ k ih =>
    intro l0 l1 w I J R h
    have hr5 : ∀ (l0 : Nat) (l1 : Int32) (w : aW) (I : aI) (J : aJ) (R : aR), f_107_5 K k d l0 l1 w I J = some R → Go K (d + 1) 107 5 [some (.ref l0), some (.int l1), none, none, none] [] w I J R := fun l0 l1 w I J R h => ih h
    rw [f_107_5] at h
    obtain ⟨r5, hx, h⟩ := lt_s_ h
    rw [hx] at hr5
    clear hx ih
    refine gs_0 (pc' := 6) (L' := [some (.ref l0), some (.int l1), none, none, none]) (st' := [.ref l0]) cd_107_5 rfl rfl ?_
    refine gs_0 (pc' := 8) (L' := [some (.ref l0), some (.int l1), none, none, none]) (st' := [.int 42, .ref l0]) cd_107_6 rfl rfl ?_
    obtain ⟨ht, h⟩ := gO_s h
    obtain ⟨x_4, w_1, I_2, J_3, hcl, h⟩ := cI_s h
    refine gs_call (as := [.ref l0, .int 42]) (rest := []) cd_107_8 rfl (by decide) rfl (sm_rv_ok (by decide) ht) (Nat.le_of_ble_eq_true rfl) (Nat.le_of_ble_eq_true rfl) rfl hcl ?_
    refine gs_0 (pc' := if ¬ x_4 = 0 then 23 else 14) (L' := [some (.ref l0), some (.int l1), none, none, none]) (st' := []) cd_107_11 rfl rfl ?_
    refine go_ite (fun hc => ?_) (fun hc => ?_)
    · rw [if_pos hc] at h
      exact ok_107_23 hr5 h
    · rw [if_neg hc] at h
      refine gs_0 (pc' := 15) (L' := [some (.ref l0), some (.int l1), none, none, none]) (st' := [.ref l0]) cd_107_14 rfl rfl ?_
      refine gs_0 (pc' := 17) (L' := [some (.ref l0), some (.int l1), none, none, none]) (st' := [.int 47, .ref l0]) cd_107_15 rfl rfl ?_
      obtain ⟨ht, h⟩ := gO_s h
      obtain ⟨x_8, w_5, I_6, J_7, hcl, h⟩ := cI_s h
      refine gs_call (as := [.ref l0, .int 47]) (rest := []) cd_107_17 rfl (by decide) rfl (sm_rv_ok (by decide) ht) (Nat.le_of_ble_eq_true rfl) (Nat.le_of_ble_eq_true rfl) rfl hcl ?_
      refine gs_0 (pc' := if x_8 = 0 then 85 else 23) (L' := [some (.ref l0), some (.int l1), none, none, none]) (st' := []) cd_107_20 rfl rfl ?_
      refine go_ite (fun hc => ?_) (fun hc => ?_)
      · rw [if_pos hc] at h
        refine gs_0 (pc' := 86) (L' := [some (.ref l0), some (.int l1), none, none, none]) (st' := [.int l1]) cd_107_85 rfl rfl ?_
        cases h
        exact gs_ri cd_107_86 (Or.inl rfl)
      · rw [if_neg hc] at h
        exact ok_107_23 hr5 h
noncomputable def f_107 (K : Nat → Value) (k d : Nat) (l0 : Nat) (w : aW) (I : aI) (J : aJ) : Option aR :=
  gO w 6 l0 (
  cI (Cl K d 108 [.ref l0] w I J) fun x_4 w_1 I_2 J_3 =>
  f_107_5 K k d l0 x_4 w_1 I_2 J_3)
theorem ok_107 {K : Nat → Value} {k d : Nat} {l0 : Nat} {w : aW} {I : aI} {J : aJ} {R : aR} (h : f_107 K k d l0 w I J = some R) : Go K (d + 1) 107 0 [some (.ref l0), none, none, none, none] [] w I J R := by
  unfold f_107 at h
  refine gs_0 (pc' := 1) (L' := [some (.ref l0), none, none, none, none]) (st' := [.ref l0]) cd_107_0 rfl rfl ?_
  obtain ⟨ht, h⟩ := gO_s h
  obtain ⟨x_4, w_1, I_2, J_3, hcl, h⟩ := cI_s h
  refine gs_call (as := [.ref l0]) (rest := []) cd_107_1 rfl (by decide) rfl (sm_rv_ok (by decide) ht) (Nat.le_of_ble_eq_true rfl) (Nat.le_of_ble_eq_true rfl) rfl hcl ?_
  refine gs_0 (pc' := 5) (L' := [some (.ref l0), some (.int x_4), none, none, none]) (st' := []) cd_107_4 rfl rfl ?_
  exact ok_107_5 h
theorem cl_107 {K : Nat → Value} {k d : Nat} {l0 : Nat} {w : aW} {I : aI} {J : aJ} {R : aR} (h : f_107 K k d l0 w I J = some R) : Cl K (d + 1) 107 [.ref l0] w I J = some R := Cl_of (ok_107 h)
/-! ProvedMachineModel.under()I -/
set_option maxRecDepth 20000 in
theorem gl_108 : gcd.lookup 108 = some gw_108 := rfl
set_option maxRecDepth 20000 in
theorem cd_108_0 : sm_cd 108 0 = some (.aload_n 0, 1, 0, 0, 0, 0, 0, 0, 0) := cd_of gl_108 rfl
set_option maxRecDepth 20000 in
theorem cd_108_1 : sm_cd 108 1 = some (.invokevirtual 234, 3, 102, 0, 0, 1, 6, 0, 0) := cd_of gl_108 rfl
set_option maxRecDepth 20000 in
theorem cd_108_4 : sm_cd 108 4 = some (.ifCond .eq 5, 3, 9, 0, 0, 0, 0, 0, 0) := cd_of gl_108 rfl
set_option maxRecDepth 20000 in
theorem cd_108_7 : sm_cd 108 7 = some (.iconst 0, 1, 0, 0, 0, 0, 0, 0, 0) := cd_of gl_108 rfl
set_option maxRecDepth 20000 in
theorem cd_108_8 : sm_cd 108 8 = some (.ireturn, 1, 0, 0, 1, 0, 0, 0, 0) := cd_of gl_108 rfl
set_option maxRecDepth 20000 in
theorem cd_108_9 : sm_cd 108 9 = some (.aload_n 0, 1, 0, 0, 0, 0, 0, 0, 0) := cd_of gl_108 rfl
set_option maxRecDepth 20000 in
theorem cd_108_10 : sm_cd 108 10 = some (.dup, 1, 0, 0, 0, 0, 0, 0, 0) := cd_of gl_108 rfl
set_option maxRecDepth 20000 in
theorem cd_108_11 : sm_cd 108 11 = some (.getfield 231, 3, 6, 29, 0, 0, 0, 0, 0) := cd_of gl_108 rfl
set_option maxRecDepth 20000 in
theorem cd_108_14 : sm_cd 108 14 = some (.iconst 1, 1, 0, 0, 0, 0, 0, 1, 0) := cd_of gl_108 rfl
set_option maxRecDepth 20000 in
theorem cd_108_15 : sm_cd 108 15 = some (.iadd, 1, 0, 0, 0, 0, 0, 0, 0) := cd_of gl_108 rfl
set_option maxRecDepth 20000 in
theorem cd_108_16 : sm_cd 108 16 = some (.putfield 231, 3, 6, 29, 0, 0, 0, 0, 0) := cd_of gl_108 rfl
set_option maxRecDepth 20000 in
theorem cd_108_19 : sm_cd 108 19 = some (.aload_n 0, 1, 0, 0, 0, 0, 0, 0, 0) := cd_of gl_108 rfl
set_option maxRecDepth 20000 in
theorem cd_108_20 : sm_cd 108 20 = some (.invokevirtual 269, 3, 109, 0, 0, 1, 6, 0, 0) := cd_of gl_108 rfl
set_option maxRecDepth 20000 in
theorem cd_108_23 : sm_cd 108 23 = some (.istore_n 1, 1, 1, 0, 0, 0, 0, 0, 0) := cd_of gl_108 rfl
set_option maxRecDepth 20000 in
theorem cd_108_24 : sm_cd 108 24 = some (.iload_n 1, 1, 1, 0, 0, 0, 0, 0, 0) := cd_of gl_108 rfl
set_option maxRecDepth 20000 in
theorem cd_108_25 : sm_cd 108 25 = some (.ifCond .le 111, 3, 136, 0, 0, 0, 0, 0, 0) := cd_of gl_108 rfl
set_option maxRecDepth 20000 in
theorem cd_108_28 : sm_cd 108 28 = some (.aload_n 0, 1, 0, 0, 0, 0, 0, 0, 0) := cd_of gl_108 rfl
set_option maxRecDepth 20000 in
theorem cd_108_29 : sm_cd 108 29 = some (.getfield 160, 3, 6, 22, 0, 0, 0, 0, 0) := cd_of gl_108 rfl
set_option maxRecDepth 20000 in
theorem cd_108_32 : sm_cd 108 32 = some (.istore_n 3, 1, 3, 0, 0, 0, 0, 0, 0) := cd_of gl_108 rfl
set_option maxRecDepth 20000 in
theorem cd_108_33 : sm_cd 108 33 = some (.aload_n 0, 1, 0, 0, 0, 0, 0, 0, 0) := cd_of gl_108 rfl
set_option maxRecDepth 20000 in
theorem cd_108_34 : sm_cd 108 34 = some (.invokevirtual 197, 3, 84, 0, 0, 1, 6, 0, 0) := cd_of gl_108 rfl
set_option maxRecDepth 20000 in
theorem cd_108_37 : sm_cd 108 37 = some (.aload_n 0, 1, 0, 0, 0, 0, 0, 0, 0) := cd_of gl_108 rfl
set_option maxRecDepth 20000 in
theorem cd_108_38 : sm_cd 108 38 = some (.invokevirtual 266, 3, 108, 0, 0, 5, 6, 0, 0) := cd_of gl_108 rfl
set_option maxRecDepth 20000 in
theorem cd_108_41 : sm_cd 108 41 = some (.istore 4, 2, 4, 0, 0, 0, 0, 0, 0) := cd_of gl_108 rfl
set_option maxRecDepth 20000 in
theorem cd_108_43 : sm_cd 108 43 = some (.aload_n 0, 1, 0, 0, 0, 0, 0, 0, 0) := cd_of gl_108 rfl
set_option maxRecDepth 20000 in
theorem cd_108_44 : sm_cd 108 44 = some (.iload 4, 2, 4, 0, 0, 0, 0, 0, 0) := cd_of gl_108 rfl
set_option maxRecDepth 20000 in
theorem cd_108_46 : sm_cd 108 46 = some (.iload_n 1, 1, 1, 0, 0, 0, 0, 0, 0) := cd_of gl_108 rfl
set_option maxRecDepth 20000 in
theorem cd_108_47 : sm_cd 108 47 = some (.bipush 6, 2, 0, 0, 0, 0, 0, 6, 0) := cd_of gl_108 rfl
set_option maxRecDepth 20000 in
theorem cd_108_49 : sm_cd 108 49 = some (.if_icmp .ne 7, 3, 56, 0, 0, 0, 0, 0, 0) := cd_of gl_108 rfl
set_option maxRecDepth 20000 in
theorem cd_108_52 : sm_cd 108 52 = some (.iconst 1, 1, 0, 0, 0, 0, 0, 1, 0) := cd_of gl_108 rfl
set_option maxRecDepth 20000 in
theorem cd_108_53 : sm_cd 108 53 = some (.goto 30, 3, 83, 0, 0, 0, 0, 0, 0) := cd_of gl_108 rfl
set_option maxRecDepth 20000 in
theorem cd_108_56 : sm_cd 108 56 = some (.iload_n 1, 1, 1, 0, 0, 0, 0, 0, 0) := cd_of gl_108 rfl
set_option maxRecDepth 20000 in
theorem cd_108_57 : sm_cd 108 57 = some (.bipush 7, 2, 0, 0, 0, 0, 0, 7, 0) := cd_of gl_108 rfl
set_option maxRecDepth 20000 in
theorem cd_108_59 : sm_cd 108 59 = some (.if_icmp .ne 7, 3, 66, 0, 0, 0, 0, 0, 0) := cd_of gl_108 rfl
set_option maxRecDepth 20000 in
theorem cd_108_62 : sm_cd 108 62 = some (.iconst 2, 1, 0, 0, 0, 0, 0, 2, 0) := cd_of gl_108 rfl
set_option maxRecDepth 20000 in
theorem cd_108_63 : sm_cd 108 63 = some (.goto 20, 3, 83, 0, 0, 0, 0, 0, 0) := cd_of gl_108 rfl
set_option maxRecDepth 20000 in
theorem cd_108_66 : sm_cd 108 66 = some (.iload_n 1, 1, 1, 0, 0, 0, 0, 0, 0) := cd_of gl_108 rfl
set_option maxRecDepth 20000 in
theorem cd_108_67 : sm_cd 108 67 = some (.bipush 8, 2, 0, 0, 0, 0, 0, 8, 0) := cd_of gl_108 rfl
set_option maxRecDepth 20000 in
theorem cd_108_69 : sm_cd 108 69 = some (.if_icmp .eq 9, 3, 78, 0, 0, 0, 0, 0, 0) := cd_of gl_108 rfl
set_option maxRecDepth 20000 in
theorem cd_108_72 : sm_cd 108 72 = some (.iload_n 1, 1, 1, 0, 0, 0, 0, 0, 0) := cd_of gl_108 rfl
set_option maxRecDepth 20000 in
theorem cd_108_73 : sm_cd 108 73 = some (.bipush 9, 2, 0, 0, 0, 0, 0, 9, 0) := cd_of gl_108 rfl
set_option maxRecDepth 20000 in
theorem cd_108_75 : sm_cd 108 75 = some (.if_icmp .ne 7, 3, 82, 0, 0, 0, 0, 0, 0) := cd_of gl_108 rfl
set_option maxRecDepth 20000 in
theorem cd_108_78 : sm_cd 108 78 = some (.iconst 3, 1, 0, 0, 0, 0, 0, 3, 0) := cd_of gl_108 rfl
set_option maxRecDepth 20000 in
theorem cd_108_79 : sm_cd 108 79 = some (.goto 4, 3, 83, 0, 0, 0, 0, 0, 0) := cd_of gl_108 rfl
set_option maxRecDepth 20000 in
theorem cd_108_82 : sm_cd 108 82 = some (.iconst 0, 1, 0, 0, 0, 0, 0, 0, 0) := cd_of gl_108 rfl
set_option maxRecDepth 20000 in
theorem cd_108_83 : sm_cd 108 83 = some (.if_icmp .ne 7, 3, 90, 0, 0, 0, 0, 0, 0) := cd_of gl_108 rfl
set_option maxRecDepth 20000 in
theorem cd_108_86 : sm_cd 108 86 = some (.iconst 1, 1, 0, 0, 0, 0, 0, 1, 0) := cd_of gl_108 rfl
set_option maxRecDepth 20000 in
theorem cd_108_87 : sm_cd 108 87 = some (.goto 4, 3, 91, 0, 0, 0, 0, 0, 0) := cd_of gl_108 rfl
set_option maxRecDepth 20000 in
theorem cd_108_90 : sm_cd 108 90 = some (.iconst 0, 1, 0, 0, 0, 0, 0, 0, 0) := cd_of gl_108 rfl
set_option maxRecDepth 20000 in
theorem cd_108_91 : sm_cd 108 91 = some (.iload_n 3, 1, 3, 0, 0, 0, 0, 0, 0) := cd_of gl_108 rfl
set_option maxRecDepth 20000 in
theorem cd_108_92 : sm_cd 108 92 = some (.invokevirtual 244, 3, 110, 0, 2, 3, 6, 0, 0) := cd_of gl_108 rfl
set_option maxRecDepth 20000 in
theorem cd_108_95 : sm_cd 108 95 = some (.aload_n 0, 1, 0, 0, 0, 0, 0, 0, 0) := cd_of gl_108 rfl
set_option maxRecDepth 20000 in
theorem cd_108_96 : sm_cd 108 96 = some (.iload_n 1, 1, 1, 0, 0, 0, 0, 0, 0) := cd_of gl_108 rfl
set_option maxRecDepth 20000 in
theorem cd_108_97 : sm_cd 108 97 = some (.iconst 0, 1, 0, 0, 0, 0, 0, 0, 0) := cd_of gl_108 rfl
set_option maxRecDepth 20000 in
theorem cd_108_98 : sm_cd 108 98 = some (.invokevirtual 247, 3, 111, 0, 2, 3, 6, 0, 0) := cd_of gl_108 rfl
set_option maxRecDepth 20000 in
theorem cd_108_101 : sm_cd 108 101 = some (.iload_n 1, 1, 1, 0, 0, 0, 0, 0, 0) := cd_of gl_108 rfl
set_option maxRecDepth 20000 in
theorem cd_108_102 : sm_cd 108 102 = some (.bipush 6, 2, 0, 0, 0, 0, 0, 6, 0) := cd_of gl_108 rfl
set_option maxRecDepth 20000 in
theorem cd_108_104 : sm_cd 108 104 = some (.if_icmp .ne 7, 3, 111, 0, 0, 0, 0, 0, 0) := cd_of gl_108 rfl
set_option maxRecDepth 20000 in
theorem cd_108_107 : sm_cd 108 107 = some (.iconst 1, 1, 0, 0, 0, 0, 0, 1, 0) := cd_of gl_108 rfl
set_option maxRecDepth 20000 in
theorem cd_108_108 : sm_cd 108 108 = some (.goto 24, 3, 132, 0, 0, 0, 0, 0, 0) := cd_of gl_108 rfl
set_option maxRecDepth 20000 in
theorem cd_108_111 : sm_cd 108 111 = some (.iload_n 1, 1, 1, 0, 0, 0, 0, 0, 0) := cd_of gl_108 rfl
set_option maxRecDepth 20000 in
theorem cd_108_112 : sm_cd 108 112 = some (.bipush 9, 2, 0, 0, 0, 0, 0, 9, 0) := cd_of gl_108 rfl
set_option maxRecDepth 20000 in
theorem cd_108_114 : sm_cd 108 114 = some (.if_icmp .ne 7, 3, 121, 0, 0, 0, 0, 0, 0) := cd_of gl_108 rfl
set_option maxRecDepth 20000 in
theorem cd_108_117 : sm_cd 108 117 = some (.iconst 3, 1, 0, 0, 0, 0, 0, 3, 0) := cd_of gl_108 rfl
set_option maxRecDepth 20000 in
theorem cd_108_118 : sm_cd 108 118 = some (.goto 14, 3, 132, 0, 0, 0, 0, 0, 0) := cd_of gl_108 rfl
set_option maxRecDepth 20000 in
theorem cd_108_121 : sm_cd 108 121 = some (.iload_n 1, 1, 1, 0, 0, 0, 0, 0, 0) := cd_of gl_108 rfl
set_option maxRecDepth 20000 in
theorem cd_108_122 : sm_cd 108 122 = some (.bipush 10, 2, 0, 0, 0, 0, 0, 10, 0) := cd_of gl_108 rfl
set_option maxRecDepth 20000 in
theorem cd_108_124 : sm_cd 108 124 = some (.if_icmp .ne 7, 3, 131, 0, 0, 0, 0, 0, 0) := cd_of gl_108 rfl
set_option maxRecDepth 20000 in
theorem cd_108_127 : sm_cd 108 127 = some (.iconst 2, 1, 0, 0, 0, 0, 0, 2, 0) := cd_of gl_108 rfl
set_option maxRecDepth 20000 in
theorem cd_108_128 : sm_cd 108 128 = some (.goto 4, 3, 132, 0, 0, 0, 0, 0, 0) := cd_of gl_108 rfl
set_option maxRecDepth 20000 in
theorem cd_108_131 : sm_cd 108 131 = some (.iconst 0, 1, 0, 0, 0, 0, 0, 0, 0) := cd_of gl_108 rfl
set_option maxRecDepth 20000 in
theorem cd_108_132 : sm_cd 108 132 = some (.istore_n 2, 1, 2, 0, 0, 0, 0, 0, 0) := cd_of gl_108 rfl
set_option maxRecDepth 20000 in
theorem cd_108_133 : sm_cd 108 133 = some (.goto 70, 3, 203, 0, 0, 0, 0, 0, 0) := cd_of gl_108 rfl
set_option maxRecDepth 20000 in
theorem cd_108_136 : sm_cd 108 136 = some (.aload_n 0, 1, 0, 0, 0, 0, 0, 0, 0) := cd_of gl_108 rfl
set_option maxRecDepth 20000 in
theorem cd_108_137 : sm_cd 108 137 = some (.invokevirtual 272, 3, 112, 0, 0, 4, 6, 0, 0) := cd_of gl_108 rfl
set_option maxRecDepth 20000 in
theorem cd_108_140 : sm_cd 108 140 = some (.istore_n 2, 1, 2, 0, 0, 0, 0, 0, 0) := cd_of gl_108 rfl
set_option maxRecDepth 20000 in
theorem cd_108_141 : sm_cd 108 141 = some (.aload_n 0, 1, 0, 0, 0, 0, 0, 0, 0) := cd_of gl_108 rfl
set_option maxRecDepth 20000 in
theorem cd_108_142 : sm_cd 108 142 = some (.bipush 91, 2, 0, 0, 0, 0, 0, 91, 0) := cd_of gl_108 rfl
set_option maxRecDepth 20000 in
theorem cd_108_144 : sm_cd 108 144 = some (.invokevirtual 200, 3, 94, 0, 1, 2, 6, 0, 0) := cd_of gl_108 rfl
set_option maxRecDepth 20000 in
theorem cd_108_147 : sm_cd 108 147 = some (.ifCond .eq 56, 3, 203, 0, 0, 0, 0, 0, 0) := cd_of gl_108 rfl
set_option maxRecDepth 20000 in
theorem cd_108_150 : sm_cd 108 150 = some (.aload_n 0, 1, 0, 0, 0, 0, 0, 0, 0) := cd_of gl_108 rfl
set_option maxRecDepth 20000 in
theorem cd_108_151 : sm_cd 108 151 = some (.getfield 160, 3, 6, 22, 0, 0, 0, 0, 0) := cd_of gl_108 rfl
set_option maxRecDepth 20000 in
theorem cd_108_154 : sm_cd 108 154 = some (.istore_n 3, 1, 3, 0, 0, 0, 0, 0, 0) := cd_of gl_108 rfl
set_option maxRecDepth 20000 in
theorem cd_108_155 : sm_cd 108 155 = some (.aload_n 0, 1, 0, 0, 0, 0, 0, 0, 0) := cd_of gl_108 rfl
set_option maxRecDepth 20000 in
theorem cd_108_156 : sm_cd 108 156 = some (.invokevirtual 197, 3, 84, 0, 0, 1, 6, 0, 0) := cd_of gl_108 rfl
set_option maxRecDepth 20000 in
theorem cd_108_159 : sm_cd 108 159 = some (.aload_n 0, 1, 0, 0, 0, 0, 0, 0, 0) := cd_of gl_108 rfl
set_option maxRecDepth 20000 in
theorem cd_108_160 : sm_cd 108 160 = some (.invokevirtual 241, 3, 101, 0, 0, 4, 6, 0, 0) := cd_of gl_108 rfl
set_option maxRecDepth 20000 in
theorem cd_108_163 : sm_cd 108 163 = some (.istore 4, 2, 4, 0, 0, 0, 0, 0, 0) := cd_of gl_108 rfl
set_option maxRecDepth 20000 in
theorem cd_108_165 : sm_cd 108 165 = some (.aload_n 0, 1, 0, 0, 0, 0, 0, 0, 0) := cd_of gl_108 rfl
set_option maxRecDepth 20000 in
theorem cd_108_166 : sm_cd 108 166 = some (.bipush 93, 2, 0, 0, 0, 0, 0, 93, 0) := cd_of gl_108 rfl
set_option maxRecDepth 20000 in
theorem cd_108_168 : sm_cd 108 168 = some (.invokevirtual 275, 3, 93, 0, 1, 2, 6, 0, 0) := cd_of gl_108 rfl
set_option maxRecDepth 20000 in
theorem cd_108_171 : sm_cd 108 171 = some (.aload_n 0, 1, 0, 0, 0, 0, 0, 0, 0) := cd_of gl_108 rfl
set_option maxRecDepth 20000 in
theorem cd_108_172 : sm_cd 108 172 = some (.iload_n 2, 1, 2, 0, 0, 0, 0, 0, 0) := cd_of gl_108 rfl
set_option maxRecDepth 20000 in
theorem cd_108_173 : sm_cd 108 173 = some (.iconst 2, 1, 0, 0, 0, 0, 0, 2, 0) := cd_of gl_108 rfl
set_option maxRecDepth 20000 in
theorem cd_108_174 : sm_cd 108 174 = some (.if_icmp .ne 12, 3, 186, 0, 0, 0, 0, 0, 0) := cd_of gl_108 rfl
set_option maxRecDepth 20000 in
theorem cd_108_177 : sm_cd 108 177 = some (.iload 4, 2, 4, 0, 0, 0, 0, 0, 0) := cd_of gl_108 rfl
set_option maxRecDepth 20000 in
theorem cd_108_179 : sm_cd 108 179 = some (.ifCond .ne 7, 3, 186, 0, 0, 0, 0, 0, 0) := cd_of gl_108 rfl
set_option maxRecDepth 20000 in
theorem cd_108_182 : sm_cd 108 182 = some (.iconst 1, 1, 0, 0, 0, 0, 0, 1, 0) := cd_of gl_108 rfl
set_option maxRecDepth 20000 in
theorem cd_108_183 : sm_cd 108 183 = some (.goto 4, 3, 187, 0, 0, 0, 0, 0, 0) := cd_of gl_108 rfl
set_option maxRecDepth 20000 in
theorem cd_108_186 : sm_cd 108 186 = some (.iconst 0, 1, 0, 0, 0, 0, 0, 0, 0) := cd_of gl_108 rfl
set_option maxRecDepth 20000 in
theorem cd_108_187 : sm_cd 108 187 = some (.iload_n 3, 1, 3, 0, 0, 0, 0, 0, 0) := cd_of gl_108 rfl
set_option maxRecDepth 20000 in
theorem cd_108_188 : sm_cd 108 188 = some (.invokevirtual 244, 3, 110, 0, 2, 3, 6, 0, 0) := cd_of gl_108 rfl
set_option maxRecDepth 20000 in
theorem cd_108_191 : sm_cd 108 191 = some (.aload_n 0, 1, 0, 0, 0, 0, 0, 0, 0) := cd_of gl_108 rfl
set_option maxRecDepth 20000 in
theorem cd_108_192 : sm_cd 108 192 = some (.bipush 11, 2, 0, 0, 0, 0, 0, 11, 0) := cd_of gl_108 rfl
set_option maxRecDepth 20000 in
theorem cd_108_194 : sm_cd 108 194 = some (.iconst 0, 1, 0, 0, 0, 0, 0, 0, 0) := cd_of gl_108 rfl
set_option maxRecDepth 20000 in
theorem cd_108_195 : sm_cd 108 195 = some (.invokevirtual 247, 3, 111, 0, 2, 3, 6, 0, 0) := cd_of gl_108 rfl
set_option maxRecDepth 20000 in
theorem cd_108_198 : sm_cd 108 198 = some (.iconst 0, 1, 0, 0, 0, 0, 0, 0, 0) := cd_of gl_108 rfl
set_option maxRecDepth 20000 in
theorem cd_108_199 : sm_cd 108 199 = some (.istore_n 2, 1, 2, 0, 0, 0, 0, 0, 0) := cd_of gl_108 rfl
set_option maxRecDepth 20000 in
theorem cd_108_200 : sm_cd 108 200 = some (.goto (-59), 3, 141, 0, 0, 0, 0, 0, 0) := cd_of gl_108 rfl
set_option maxRecDepth 20000 in
theorem cd_108_203 : sm_cd 108 203 = some (.aload_n 0, 1, 0, 0, 0, 0, 0, 0, 0) := cd_of gl_108 rfl
set_option maxRecDepth 20000 in
theorem cd_108_204 : sm_cd 108 204 = some (.dup, 1, 0, 0, 0, 0, 0, 0, 0) := cd_of gl_108 rfl
set_option maxRecDepth 20000 in
theorem cd_108_205 : sm_cd 108 205 = some (.getfield 231, 3, 6, 29, 0, 0, 0, 0, 0) := cd_of gl_108 rfl
set_option maxRecDepth 20000 in
theorem cd_108_208 : sm_cd 108 208 = some (.iconst 1, 1, 0, 0, 0, 0, 0, 1, 0) := cd_of gl_108 rfl
set_option maxRecDepth 20000 in
theorem cd_108_209 : sm_cd 108 209 = some (.isub, 1, 0, 0, 0, 0, 0, 0, 0) := cd_of gl_108 rfl
set_option maxRecDepth 20000 in
theorem cd_108_210 : sm_cd 108 210 = some (.putfield 231, 3, 6, 29, 0, 0, 0, 0, 0) := cd_of gl_108 rfl
set_option maxRecDepth 20000 in
theorem cd_108_213 : sm_cd 108 213 = some (.iload_n 2, 1, 2, 0, 0, 0, 0, 0, 0) := cd_of gl_108 rfl
set_option maxRecDepth 20000 in
theorem cd_108_214 : sm_cd 108 214 = some (.ireturn, 1, 0, 0, 1, 0, 0, 0, 0) := cd_of gl_108 rfl
noncomputable def f_108_203 (K : Nat → Value) (k d : Nat) (l0 : Nat) (l1 : Int32) (l2 : Int32) (w : aW) (I : aI) (J : aJ) : Option aR :=
  gO w 6 l0 (
  gO w 6 l0 (
  lt_ (sm_up2 I l0 29 ((I l0 29) - 1)) fun I_1 =>
  some (some (.int l2), w, I_1, J)))
theorem ok_108_203 {K : Nat → Value} {k d : Nat} {l0 : Nat} {l1 : Int32} {l2 : Int32} {w : aW} {I : aI} {J : aJ} {R : aR} (h : f_108_203 K k d l0 l1 l2 w I J = some R) : Go K (d + 1) 108 203 [some (.ref l0), some (.int l1), some (.int l2), none, none] [] w I J R := by
  unfold f_108_203 at h
  refine gs_0 (pc' := 204) (L' := [some (.ref l0), some (.int l1), some (.int l2), none, none]) (st' := [.ref l0]) cd_108_203 rfl rfl ?_
  refine gs_0 (pc' := 205) (L' := [some (.ref l0), some (.int l1), some (.int l2), none, none]) (st' := [.ref l0, .ref l0]) cd_108_204 rfl rfl ?_
  obtain ⟨ht, h⟩ := gO_s h
  refine gs_gfI cd_108_205 (by decide) (by decide) ht ?_
  refine gs_0 (pc' := 209) (L' := [some (.ref l0), some (.int l1), some (.int l2), none, none]) (st' := [.int 1, .int (I l0 29), .ref l0]) cd_108_208 rfl rfl ?_
  refine gs_0 (pc' := 210) (L' := [some (.ref l0), some (.int l1), some (.int l2), none, none]) (st' := [.int ((I l0 29) - 1), .ref l0]) cd_108_209 rfl rfl ?_
  obtain ⟨ht, h⟩ := gO_s h
  refine gs_pfI cd_108_210 (by decide) (Or.inl rfl) ht ?_
  obtain ⟨I_1, hx, h⟩ := lt_s_ h
  rw [hx]
  refine gs_0 (pc' := 214) (L' := [some (.ref l0), some (.int l1), some (.int l2), none, none]) (st' := [.int l2]) cd_108_213 rfl rfl ?_
  cases h
  exact gs_ri cd_108_214 (Or.inl rfl)
noncomputable def f_108_187 (K : Nat → Value) (k d : Nat) (r141 : Nat → Int32 → Int32 → aW → aI → aJ → Option aR) (l0 : Nat) (l1 : Int32) (l2 : Int32) (l3 : Int32) (l4 : Int32) (s0 : Nat) (s1 : Int32) (w : aW) (I : aI) (J : aJ) : Option aR :=
  gO w 6 s0 (
  cV (Cl K d 110 [.ref s0, .int s1, .int l3] w I J) fun w_1 I_2 J_3 =>
  gO w_1 6 l0 (
  cV (Cl K d 111 [.ref l0, .int 11, .int 0] w_1 I_2 J_3) fun w_4 I_5 J_6 =>
  r141 l0 l1 0 w_4 I_5 J_6))
theorem ok_108_187 {K : Nat → Value} {k d : Nat} {r141 : Nat → Int32 → Int32 → aW → aI → aJ → Option aR} (hr141 : ∀ (l0 : Nat) (l1 : Int32) (l2 : Int32) (w : aW) (I : aI) (J : aJ) (R : aR), r141 l0 l1 l2 w I J = some R → Go K (d + 1) 108 141 [some (.ref l0), some (.int l1), some (.int l2), none, none] [] w I J R) {l0 : Nat} {l1 : Int32} {l2 : Int32} {l3 : Int32} {l4 : Int32} {s0 : Nat} {s1 : Int32} {w : aW} {I : aI} {J : aJ} {R : aR} (h : f_108_187 K k d r141 l0 l1 l2 l3 l4 s0 s1 w I J = some R) : Go K (d + 1) 108 187 [some (.ref l0), some (.int l1), some (.int l2), some (.int l3), some (.int l4)] [.int s1, .ref s0] w I J R := by
  unfold f_108_187 at h
  refine gs_0 (pc' := 188) (L' := [some (.ref l0), some (.int l1), some (.int l2), some (.int l3), some (.int l4)]) (st' := [.int l3, .int s1, .ref s0]) cd_108_187 rfl rfl ?_
  obtain ⟨ht, h⟩ := gO_s h
  obtain ⟨w_1, I_2, J_3, hcl, h⟩ := cV_s h
  refine gs_call (as := [.ref s0, .int s1, .int l3]) (rest := []) cd_108_188 rfl (by decide) rfl (sm_rv_ok (by decide) ht) (Nat.le_of_ble_eq_true rfl) (Nat.le_of_ble_eq_true rfl) rfl hcl ?_
  refine gs_0 (pc' := 192) (L' := [some (.ref l0), some (.int l1), some (.int l2), some (.int l3), some (.int l4)]) (st' := [.ref l0]) cd_108_191 rfl rfl ?_
  refine gs_0 (pc' := 194) (L' := [some (.ref l0), some (.int l1), some (.int l2), some (.int l3), some (.int l4)]) (st' := [.int 11, .ref l0]) cd_108_192 rfl rfl ?_
  refine gs_0 (pc' := 195) (L' := [some (.ref l0), some (.int l1), some (.int l2), some (.int l3), some (.int l4)]) (st' := [.int 0, .int 11, .ref l0]) cd_108_194 rfl rfl ?_
  obtain ⟨ht, h⟩ := gO_s h
  obtain ⟨w_4, I_5, J_6, hcl, h⟩ := cV_s h
  refine gs_call (as := [.ref l0, .int 11, .int 0]) (rest := []) cd_108_195 rfl (by decide) rfl (sm_rv_ok (by decide) ht) (Nat.le_of_ble_eq_true rfl) (Nat.le_of_ble_eq_true rfl) rfl hcl ?_
  refine gs_0 (pc' := 199) (L' := [some (.ref l0), some (.int l1), some (.int l2), some (.int l3), some (.int l4)]) (st' := [.int 0]) cd_108_198 rfl rfl ?_
  refine gs_0 (pc' := 200) (L' := [some (.ref l0), some (.int l1), some (.int 0), some (.int l3), some (.int l4)]) (st' := []) cd_108_199 rfl rfl ?_
  refine gs_0 (pc' := 141) (L' := [some (.ref l0), some (.int l1), some (.int 0), some (.int l3), some (.int l4)]) (st' := []) cd_108_200 rfl rfl ?_
  refine go_drop [some (.ref l0), some (.int l1), some (.int 0), none, none] ⟨rfl, ⟨rfl, ⟨rfl, ⟨rfl, ⟨rfl, trivial⟩⟩⟩⟩⟩ ?_
  exact hr141 l0 l1 0 _ _ _ _ h
noncomputable def f_108_186 (K : Nat → Value) (k d : Nat) (r141 : Nat → Int32 → Int32 → aW → aI → aJ → Option aR) (l0 : Nat) (l1 : Int32) (l2 : Int32) (l3 : Int32) (l4 : Int32) (s0 : Nat) (w : aW) (I : aI) (J : aJ) : Option aR :=
  f_108_187 K k d r141 l0 l1 l2 l3 l4 s0 0 w I J
theorem ok_108_186 {K : Nat → Value} {k d : Nat} {r141 : Nat → Int32 → Int32 → aW → aI → aJ → Option aR} (hr141 : ∀ (l0 : Nat) (l1 : Int32) (l2 : Int32) (w : aW) (I : aI) (J : aJ) (R : aR), r141 l0 l1 l2 w I J = some R → Go K (d + 1) 108 141 [some (.ref l0), some (.int l1), some (.int l2), none, none] [] w I J R) {l0 : Nat} {l1 : Int32} {l2 : Int32} {l3 : Int32} {l4 : Int32} {s0 : Nat} {w : aW} {I : aI} {J : aJ} {R : aR} (h : f_108_186 K k d r141 l0 l1 l2 l3 l4 s0 w I J = some R) : Go K (d + 1) 108 186 [some (.ref l0), some (.int l1), some (.int l2), some (.int l3), some (.int l4)] [.ref s0] w I J R := by
  unfold f_108_186 at h
  refine gs_0 (pc' := 187) (L' := [some (.ref l0), some (.int l1), some (.int l2), some (.int l3), some (.int l4)]) (st' := [.int 0, .ref s0]) cd_108_186 rfl rfl ?_
  exact ok_108_187 hr141 h
noncomputable def f_108_141 (K : Nat → Value) (k : Nat) (d : Nat) : Nat → Int32 → Int32 → aW → aI → aJ → Option aR :=
  match k with
  | 0 => fun _ _ _ _ _ _ => none
  | k + 1 => fun l0 l1 l2 w I J =>
  lt_ (f_108_141 K k d) fun r141 =>
  gO w 6 l0 (
  cI (Cl K d 94 [.ref l0, .int 91] w I J) fun x_4 w_1 I_2 J_3 =>
  if x_4 = 0 then
    f_108_203 K k d l0 l1 l2 w_1 I_2 J_3
  else
    gO w_1 6 l0 (
    lt_ (I_2 l0 22) fun x_5 =>
    gO w_1 6 l0 (
    cV (Cl K d 84 [.ref l0] w_1 I_2 J_3) fun w_6 I_7 J_8 =>
    gO w_6 6 l0 (
    cI (Cl K d 101 [.ref l0] w_6 I_7 J_8) fun x_12 w_9 I_10 J_11 =>
    gO w_9 6 l0 (
    cV (Cl K d 93 [.ref l0, .int 93] w_9 I_10 J_11) fun w_13 I_14 J_15 =>
    if ¬ l2 = 2 then
      f_108_186 K k d r141 l0 l1 l2 x_5 x_12 l0 w_13 I_14 J_15
    else
      if ¬ x_12 = 0 then
        f_108_186 K k d r141 l0 l1 l2 x_5 x_12 l0 w_13 I_14 J_15
      else
        f_108_187 K k d r141 l0 l1 l2 x_5 x_12 l0 1 w_13 I_14 J_15)))))
theorem ok_108_141 {K : Nat → Value} {d : Nat} : ∀ {k : Nat} {l0 : Nat} {l1 : Int32} {l2 : Int32} {w : aW} {I : aI} {J : aJ} {R : aR}, f_108_141 K k d l0 l1 l2 w I J = some R → Go K (d + 1) 108 141 [some (.ref l0), some (.int l1), some (.int l2), none, none] [] w I J R := by
  intro k
  induction k with
  | zero => intro l0 l1 l2 w I J R h; cases h
  | succ k ih =>
    intro l0 l1 l2 w I J R h
    have hr141 : ∀ (l0 : Nat) (l1 : Int32) (l2 : Int32) (w : aW) (I : aI) (J : aJ) (R : aR), f_108_141 K k d l0 l1 l2 w I J = some R → Go K (d + 1) 108 141 [some (.ref l0), some (.int l1), some (.int l2), none, none] [] w I J R := fun l0 l1 l2 w I J R h => ih h
    rw [f_108_141] at h
    obtain ⟨r141, hx, h⟩ := lt_s_ h
    rw [hx] at hr141
    clear hx ih
    refine gs_0 (pc' := 142) (L' := [some (.ref l0), some (.int l1), some (.int l2), none, none]) (st' := [.ref l0]) cd_108_141 rfl rfl ?_
    refine gs_0 (pc' := 144) (L' := [some (.ref l0), some (.int l1), some (.int l2), none, none]) (st' := [.int 91, .ref l0]) cd_108_142 rfl rfl ?_
    obtain ⟨ht, h⟩ := gO_s h
    obtain ⟨x_4, w_1, I_2, J_3, hcl, h⟩ := cI_s h
    refine gs_call (as := [.ref l0, .int 91]) (rest := []) cd_108_144 rfl (by decide) rfl (sm_rv_ok (by decide) ht) (Nat.le_of_ble_eq_true rfl) (Nat.le_of_ble_eq_true rfl) rfl hcl ?_
    refine gs_0 (pc' := if x_4 = 0 then 203 else 150) (L' := [some (.ref l0), some (.int l1), some (.int l2), none, none]) (st' := []) cd_108_147 rfl rfl ?_
    refine go_ite (fun hc => ?_) (fun hc => ?_)
    · rw [if_pos hc] at h
      exact ok_108_203 h
    · rw [if_neg hc] at h
      refine gs_0 (pc' := 151) (L' := [some (.ref l0), some (.int l1), some (.int l2), none, none]) (st' := [.ref l0]) cd_108_150 rfl rfl ?_
      obtain ⟨ht, h⟩ := gO_s h
      refine gs_gfI cd_108_151 (by decide) (by decide) ht ?_
      refine gs_0 (pc' := 155) (L' := [some (.ref l0), some (.int l1), some (.int l2), some (.int (I_2 l0 22)), none]) (st' := []) cd_108_154 rfl rfl ?_
      obtain ⟨x_5, hx, h⟩ := lt_s_ h
      rw [hx]
      clear hx
      refine gs_0 (pc' := 156) (L' := [some (.ref l0), some (.int l1), some (.int l2), some (.int x_5), none]) (st' := [.ref l0]) cd_108_155 rfl rfl ?_
      obtain ⟨ht, h⟩ := gO_s h
      obtain ⟨w_6, I_7, J_8, hcl, h⟩ := cV_s h
      refine gs_call (as := [.ref l0]) (rest := []) cd_108_156 rfl (by decide) rfl (sm_rv_ok (by decide) ht) (Nat.le_of_ble_eq_true rfl) (Nat.le_of_ble_eq_true rfl) rfl hcl ?_
      refine gs_0 (pc' := 160) (L' := [some (.ref l0), some (.int l1), some (.int l2), some (.int x_5), none]) (st' := [.ref l0]) cd_108_159 rfl rfl ?_
      obtain ⟨ht, h⟩ := gO_s h
      obtain ⟨x_12, w_9, I_10, J_11, hcl, h⟩ := cI_s h
      refine gs_call (as := [.ref l0]) (rest := []) cd_108_160 rfl (by decide) rfl (sm_rv_ok (by decide) ht) (Nat.le_of_ble_eq_true rfl) (Nat.le_of_ble_eq_true rfl) rfl hcl ?_
      refine gs_0 (pc' := 165) (L' := [some (.ref l0), some (.int l1), some (.int l2), some (.int x_5), some (.int x_12)]) (st' := []) cd_108_163 rfl rfl ?_
      refine gs_0 (pc' := 166) (L' := [some (.ref l0), some (.int l1), some (.int l2), some (.int x_5), some (.int x_12)]) (st' := [.ref l0]) cd_108_165 rfl rfl ?_
      refine gs_0 (pc' := 168) (L' := [some (.ref l0), some (.int l1), some (.int l2), some (.int x_5), some (.int x_12)]) (st' := [.int 93, .ref l0]) cd_108_166 rfl rfl ?_
      obtain ⟨ht, h⟩ := gO_s h
      obtain ⟨w_13, I_14, J_15, hcl, h⟩ := cV_s h
      refine gs_call (as := [.ref l0, .int 93]) (rest := []) cd_108_168 rfl (by decide) rfl (sm_rv_ok (by decide) ht) (Nat.le_of_ble_eq_true rfl) (Nat.le_of_ble_eq_true rfl) rfl hcl ?_
      refine gs_0 (pc' := 172) (L' := [some (.ref l0), some (.int l1), some (.int l2), some (.int x_5), some (.int x_12)]) (st' := [.ref l0]) cd_108_171 rfl rfl ?_
      refine gs_0 (pc' := 173) (L' := [some (.ref l0), some (.int l1), some (.int l2), some (.int x_5), some (.int x_12)]) (st' := [.int l2, .ref l0]) cd_108_172 rfl rfl ?_
      refine gs_0 (pc' := 174) (L' := [some (.ref l0), some (.int l1), some (.int l2), some (.int x_5), some (.int x_12)]) (st' := [.int 2, .int l2, .ref l0]) cd_108_173 rfl rfl ?_
      refine gs_0 (pc' := if ¬ l2 = 2 then 186 else 177) (L' := [some (.ref l0), some (.int l1), some (.int l2), some (.int x_5), some (.int x_12)]) (st' := [.ref l0]) cd_108_174 rfl rfl ?_
      refine go_ite (fun hc => ?_) (fun hc => ?_)
      · rw [if_pos hc] at h
        exact ok_108_186 hr141 h
      · rw [if_neg hc] at h
        refine gs_0 (pc' := 179) (L' := [some (.ref l0), some (.int l1), some (.int l2), some (.int x_5), some (.int x_12)]) (st' := [.int x_12, .ref l0]) cd_108_177 rfl rfl ?_
        refine gs_0 (pc' := if ¬ x_12 = 0 then 186 else 182) (L' := [some (.ref l0), some (.int l1), some (.int l2), some (.int x_5), some (.int x_12)]) (st' := [.ref l0]) cd_108_179 rfl rfl ?_
        refine go_ite (fun hc => ?_) (fun hc => ?_)
        · rw [if_pos hc] at h
          exact ok_108_186 hr141 h
        · rw [if_neg hc] at h
          refine gs_0 (pc' := 183) (L' := [some (.ref l0), some (.int l1), some (.int l2), some (.int x_5), some (.int x_12)]) (st' := [.int 1, .ref l0]) cd_108_182 rfl rfl ?_
          refine gs_0 (pc' := 187) (L' := [some (.ref l0), some (.int l1), some (.int l2), some (.int x_5), some (.int x_12)]) (st' := [.int 1, .ref l0]) cd_108_183 rfl rfl ?_
          exact ok_108_187 hr141 h
noncomputable def f_108_132 (K : Nat → Value) (k d : Nat) (l0 : Nat) (l1 : Int32) (l3 : Int32) (l4 : Int32) (s0 : Int32) (w : aW) (I : aI) (J : aJ) : Option aR :=
  f_108_203 K k d l0 l1 s0 w I J
theorem ok_108_132 {K : Nat → Value} {k d : Nat} {l0 : Nat} {l1 : Int32} {l3 : Int32} {l4 : Int32} {s0 : Int32} {w : aW} {I : aI} {J : aJ} {R : aR} (h : f_108_132 K k d l0 l1 l3 l4 s0 w I J = some R) : Go K (d + 1) 108 132 [some (.ref l0), some (.int l1), none, some (.int l3), some (.int l4)] [.int s0] w I J R := by
  unfold f_108_132 at h
  refine gs_0 (pc' := 133) (L' := [some (.ref l0), some (.int l1), some (.int s0), some (.int l3), some (.int l4)]) (st' := []) cd_108_132 rfl rfl ?_
  refine gs_0 (pc' := 203) (L' := [some (.ref l0), some (.int l1), some (.int s0), some (.int l3), some (.int l4)]) (st' := []) cd_108_133 rfl rfl ?_
  refine go_drop [some (.ref l0), some (.int l1), some (.int s0), none, none] ⟨rfl, ⟨rfl, ⟨rfl, ⟨rfl, ⟨rfl, trivial⟩⟩⟩⟩⟩ ?_
  exact ok_108_203 h
noncomputable def f_108_91 (K : Nat → Value) (k d : Nat) (l0 : Nat) (l1 : Int32) (l3 : Int32) (l4 : Int32) (s0 : Nat) (s1 : Int32) (w : aW) (I : aI) (J : aJ) : Option aR :=
  gO w 6 s0 (
  cV (Cl K d 110 [.ref s0, .int s1, .int l3] w I J) fun w_1 I_2 J_3 =>
  gO w_1 6 l0 (
  cV (Cl K d 111 [.ref l0, .int l1, .int 0] w_1 I_2 J_3) fun w_4 I_5 J_6 =>
  if ¬ l1 = 6 then
    if ¬ l1 = 9 then
      if ¬ l1 = 10 then
        f_108_132 K k d l0 l1 l3 l4 0 w_4 I_5 J_6
      else
        f_108_132 K k d l0 l1 l3 l4 2 w_4 I_5 J_6
    else
      f_108_132 K k d l0 l1 l3 l4 3 w_4 I_5 J_6
  else
    f_108_132 K k d l0 l1 l3 l4 1 w_4 I_5 J_6))
theorem ok_108_91 {K : Nat → Value} {k d : Nat} {l0 : Nat} {l1 : Int32} {l3 : Int32} {l4 : Int32} {s0 : Nat} {s1 : Int32} {w : aW} {I : aI} {J : aJ} {R : aR} (h : f_108_91 K k d l0 l1 l3 l4 s0 s1 w I J = some R) : Go K (d + 1) 108 91 [some (.ref l0), some (.int l1), none, some (.int l3), some (.int l4)] [.int s1, .ref s0] w I J R := by
  unfold f_108_91 at h
  refine gs_0 (pc' := 92) (L' := [some (.ref l0), some (.int l1), none, some (.int l3), some (.int l4)]) (st' := [.int l3, .int s1, .ref s0]) cd_108_91 rfl rfl ?_
  obtain ⟨ht, h⟩ := gO_s h
  obtain ⟨w_1, I_2, J_3, hcl, h⟩ := cV_s h
  refine gs_call (as := [.ref s0, .int s1, .int l3]) (rest := []) cd_108_92 rfl (by decide) rfl (sm_rv_ok (by decide) ht) (Nat.le_of_ble_eq_true rfl) (Nat.le_of_ble_eq_true rfl) rfl hcl ?_
  refine gs_0 (pc' := 96) (L' := [some (.ref l0), some (.int l1), none, some (.int l3), some (.int l4)]) (st' := [.ref l0]) cd_108_95 rfl rfl ?_
  refine gs_0 (pc' := 97) (L' := [some (.ref l0), some (.int l1), none, some (.int l3), some (.int l4)]) (st' := [.int l1, .ref l0]) cd_108_96 rfl rfl ?_
  refine gs_0 (pc' := 98) (L' := [some (.ref l0), some (.int l1), none, some (.int l3), some (.int l4)]) (st' := [.int 0, .int l1, .ref l0]) cd_108_97 rfl rfl ?_
  obtain ⟨ht, h⟩ := gO_s h
  obtain ⟨w_4, I_5, J_6, hcl, h⟩ := cV_s h
  refine gs_call (as := [.ref l0, .int l1, .int 0]) (rest := []) cd_108_98 rfl (by decide) rfl (sm_rv_ok (by decide) ht) (Nat.le_of_ble_eq_true rfl) (Nat.le_of_ble_eq_true rfl) rfl hcl ?_
  refine gs_0 (pc' := 102) (L' := [some (.ref l0), some (.int l1), none, some (.int l3), some (.int l4)]) (st' := [.int l1]) cd_108_101 rfl rfl ?_
  refine gs_0 (pc' := 104) (L' := [some (.ref l0), some (.int l1), none, some (.int l3), some (.int l4)]) (st' := [.int 6, .int l1]) cd_108_102 rfl rfl ?_
  refine gs_0 (pc' := if ¬ l1 = 6 then 111 else 107) (L' := [some (.ref l0), some (.int l1), none, some (.int l3), some (.int l4)]) (st' := []) cd_108_104 rfl rfl ?_
  refine go_ite (fun hc => ?_) (fun hc => ?_)
  · rw [if_pos hc] at h
    refine gs_0 (pc' := 112) (L' := [some (.ref l0), some (.int l1), none, some (.int l3), some (.int l4)]) (st' := [.int l1]) cd_108_111 rfl rfl ?_
    refine gs_0 (pc' := 114) (L' := [some (.ref l0), some (.int l1), none, some (.int l3), some (.int l4)]) (st' := [.int 9, .int l1]) cd_108_112 rfl rfl ?_
    refine gs_0 (pc' := if ¬ l1 = 9 then 121 else 117) (L' := [some (.ref l0), some (.int l1), none, some (.int l3), some (.int l4)]) (st' := []) cd_108_114 rfl rfl ?_
    refine go_ite (fun hc => ?_) (fun hc => ?_)
    · rw [if_pos hc] at h
      refine gs_0 (pc' := 122) (L' := [some (.ref l0), some (.int l1), none, some (.int l3), some (.int l4)]) (st' := [.int l1]) cd_108_121 rfl rfl ?_
      refine gs_0 (pc' := 124) (L' := [some (.ref l0), some (.int l1), none, some (.int l3), some (.int l4)]) (st' := [.int 10, .int l1]) cd_108_122 rfl rfl ?_
      refine gs_0 (pc' := if ¬ l1 = 10 then 131 else 127) (L' := [some (.ref l0), some (.int l1), none, some (.int l3), some (.int l4)]) (st' := []) cd_108_124 rfl rfl ?_
      refine go_ite (fun hc => ?_) (fun hc => ?_)
      · rw [if_pos hc] at h
        refine gs_0 (pc' := 132) (L' := [some (.ref l0), some (.int l1), none, some (.int l3), some (.int l4)]) (st' := [.int 0]) cd_108_131 rfl rfl ?_
        exact ok_108_132 h
      · rw [if_neg hc] at h
        refine gs_0 (pc' := 128) (L' := [some (.ref l0), some (.int l1), none, some (.int l3), some (.int l4)]) (st' := [.int 2]) cd_108_127 rfl rfl ?_
        refine gs_0 (pc' := 132) (L' := [some (.ref l0), some (.int l1), none, some (.int l3), some (.int l4)]) (st' := [.int 2]) cd_108_128 rfl rfl ?_
        exact ok_108_132 h
    · rw [if_neg hc] at h
      refine gs_0 (pc' := 118) (L' := [some (.ref l0), some (.int l1), none, some (.int l3), some (.int l4)]) (st' := [.int 3]) cd_108_117 rfl rfl ?_
      refine gs_0 (pc' := 132) (L' := [some (.ref l0), some (.int l1), none, some (.int l3), some (.int l4)]) (st' := [.int 3]) cd_108_118 rfl rfl ?_
      exact ok_108_132 h
  · rw [if_neg hc] at h
    refine gs_0 (pc' := 108) (L' := [some (.ref l0), some (.int l1), none, some (.int l3), some (.int l4)]) (st' := [.int 1]) cd_108_107 rfl rfl ?_
    refine gs_0 (pc' := 132) (L' := [some (.ref l0), some (.int l1), none, some (.int l3), some (.int l4)]) (st' := [.int 1]) cd_108_108 rfl rfl ?_
    exact ok_108_132 h
noncomputable def f_108_83 (K : Nat → Value) (k d : Nat) (l0 : Nat) (l1 : Int32) (l3 : Int32) (l4 : Int32) (s0 : Nat) (s1 : Int32) (s2 : Int32) (w : aW) (I : aI) (J : aJ) : Option aR :=
  if ¬ s1 = s2 then
    f_108_91 K k d l0 l1 l3 l4 s0 0 w I J
  else
    f_108_91 K k d l0 l1 l3 l4 s0 1 w I J
theorem ok_108_83 {K : Nat → Value} {k d : Nat} {l0 : Nat} {l1 : Int32} {l3 : Int32} {l4 : Int32} {s0 : Nat} {s1 : Int32} {s2 : Int32} {w : aW} {I : aI} {J : aJ} {R : aR} (h : f_108_83 K k d l0 l1 l3 l4 s0 s1 s2 w I J = some R) : Go K (d + 1) 108 83 [some (.ref l0), some (.int l1), none, some (.int l3), some (.int l4)] [.int s2, .int s1, .ref s0] w I J R := by
  unfold f_108_83 at h
  refine gs_0 (pc' := if ¬ s1 = s2 then 90 else 86) (L' := [some (.ref l0), some (.int l1), none, some (.int l3), some (.int l4)]) (st' := [.ref s0]) cd_108_83 rfl rfl ?_
  refine go_ite (fun hc => ?_) (fun hc => ?_)
  · rw [if_pos hc] at h
    refine gs_0 (pc' := 91) (L' := [some (.ref l0), some (.int l1), none, some (.int l3), some (.int l4)]) (st' := [.int 0, .ref s0]) cd_108_90 rfl rfl ?_
    exact ok_108_91 h
  · rw [if_neg hc] at h
    refine gs_0 (pc' := 87) (L' := [some (.ref l0), some (.int l1), none, some (.int l3), some (.int l4)]) (st' := [.int 1, .ref s0]) cd_108_86 rfl rfl ?_
    refine gs_0 (pc' := 91) (L' := [some (.ref l0), some (.int l1), none, some (.int l3), some (.int l4)]) (st' := [.int 1, .ref s0]) cd_108_87 rfl rfl ?_
    exact ok_108_91 h
noncomputable def f_108_78 (K : Nat → Value) (k d : Nat) (l0 : Nat) (l1 : Int32) (l3 : Int32) (l4 : Int32) (s0 : Nat) (s1 : Int32) (w : aW) (I : aI) (J : aJ) : Option aR :=
  f_108_83 K k d l0 l1 l3 l4 s0 s1 3 w I J
theorem ok_108_78 {K : Nat → Value} {k d : Nat} {l0 : Nat} {l1 : Int32} {l3 : Int32} {l4 : Int32} {s0 : Nat} {s1 : Int32} {w : aW} {I : aI} {J : aJ} {R : aR} (h : f_108_78 K k d l0 l1 l3 l4 s0 s1 w I J = some R) : Go K (d + 1) 108 78 [some (.ref l0), some (.int l1), none, some (.int l3), some (.int l4)] [.int s1, .ref s0] w I J R := by
  unfold f_108_78 at h
  refine gs_0 (pc' := 79) (L' := [some (.ref l0), some (.int l1), none, some (.int l3), some (.int l4)]) (st' := [.int 3, .int s1, .ref s0]) cd_108_78 rfl rfl ?_
  refine gs_0 (pc' := 83) (L' := [some (.ref l0), some (.int l1), none, some (.int l3), some (.int l4)]) (st' := [.int 3, .int s1, .ref s0]) cd_108_79 rfl rfl ?_
  exact ok_108_83 h
noncomputable def f_108 (K : Nat → Value) (k d : Nat) (l0 : Nat) (w : aW) (I : aI) (J : aJ) : Option aR :=
  gO w 6 l0 (
  cI (Cl K d 102 [.ref l0] w I J) fun x_4 w_1 I_2 J_3 =>
  if x_4 = 0 then
    gO w_1 6 l0 (
    gO w_1 6 l0 (
    lt_ (sm_up2 I_2 l0 29 ((I_2 l0 29) + 1)) fun I_5 =>
    gO w_1 6 l0 (
    cI (Cl K d 109 [.ref l0] w_1 I_5 J_3) fun x_9 w_6 I_7 J_8 =>
    if x_9 ≤ 0 then
      gO w_6 6 l0 (
      cI (Cl K d 112 [.ref l0] w_6 I_7 J_8) fun x_13 w_10 I_11 J_12 =>
      f_108_141 K k d l0 x_9 x_13 w_10 I_11 J_12)
    else
      gO w_6 6 l0 (
      lt_ (I_7 l0 22) fun x_14 =>
      gO w_6 6 l0 (
      cV (Cl K d 84 [.ref l0] w_6 I_7 J_8) fun w_15 I_16 J_17 =>
      gO w_15 6 l0 (
      cI (Cl K d 108 [.ref l0] w_15 I_16 J_17) fun x_21 w_18 I_19 J_20 =>
      if ¬ x_9 = 6 then
        if ¬ x_9 = 7 then
          if x_9 = 8 then
            f_108_78 K k d l0 x_9 x_14 x_21 l0 x_21 w_18 I_19 J_20
          else
            if ¬ x_9 = 9 then
              f_108_83 K k d l0 x_9 x_14 x_21 l0 x_21 0 w_18 I_19 J_20
            else
              f_108_78 K k d l0 x_9 x_14 x_21 l0 x_21 w_18 I_19 J_20
        else
          f_108_83 K k d l0 x_9 x_14 x_21 l0 x_21 2 w_18 I_19 J_20
      else
        f_108_83 K k d l0 x_9 x_14 x_21 l0 x_21 1 w_18 I_19 J_20))))))
  else
    some (some (.int 0), w_1, I_2, J_3))
theorem ok_108 {K : Nat → Value} {k d : Nat} {l0 : Nat} {w : aW} {I : aI} {J : aJ} {R : aR} (h : f_108 K k d l0 w I J = some R) : Go K (d + 1) 108 0 [some (.ref l0), none, none, none, none] [] w I J R := by
  unfold f_108 at h
  refine gs_0 (pc' := 1) (L' := [some (.ref l0), none, none, none, none]) (st' := [.ref l0]) cd_108_0 rfl rfl ?_
  obtain ⟨ht, h⟩ := gO_s h
  obtain ⟨x_4, w_1, I_2, J_3, hcl, h⟩ := cI_s h
  refine gs_call (as := [.ref l0]) (rest := []) cd_108_1 rfl (by decide) rfl (sm_rv_ok (by decide) ht) (Nat.le_of_ble_eq_true rfl) (Nat.le_of_ble_eq_true rfl) rfl hcl ?_
  refine gs_0 (pc' := if x_4 = 0 then 9 else 7) (L' := [some (.ref l0), none, none, none, none]) (st' := []) cd_108_4 rfl rfl ?_
  refine go_ite (fun hc => ?_) (fun hc => ?_)
  · rw [if_pos hc] at h
    refine gs_0 (pc' := 10) (L' := [some (.ref l0), none, none, none, none]) (st' := [.ref l0]) cd_108_9 rfl rfl ?_
    refine gs_0 (pc' := 11) (L' := [some (.ref l0), none, none, none, none]) (st' := [.ref l0, .ref l0]) cd_108_10 rfl rfl ?_
    obtain ⟨ht, h⟩ := gO_s h
    refine gs_gfI cd_108_11 (by decide) (by decide) ht ?_
    refine gs_0 (pc' := 15) (L' := [some (.ref l0), none, none, none, none]) (st' := [.int 1, .int (I_2 l0 29), .ref l0]) cd_108_14 rfl rfl ?_
    refine gs_0 (pc' := 16) (L' := [some (.ref l0), none, none, none, none]) (st' := [.int ((I_2 l0 29) + 1), .ref l0]) cd_108_15 rfl rfl ?_
    obtain ⟨ht, h⟩ := gO_s h
    refine gs_pfI cd_108_16 (by decide) (Or.inl rfl) ht ?_
    obtain ⟨I_5, hx, h⟩ := lt_s_ h
    rw [hx]
    refine gs_0 (pc' := 20) (L' := [some (.ref l0), none, none, none, none]) (st' := [.ref l0]) cd_108_19 rfl rfl ?_
    obtain ⟨ht, h⟩ := gO_s h
    obtain ⟨x_9, w_6, I_7, J_8, hcl, h⟩ := cI_s h
    refine gs_call (as := [.ref l0]) (rest := []) cd_108_20 rfl (by decide) rfl (sm_rv_ok (by decide) ht) (Nat.le_of_ble_eq_true rfl) (Nat.le_of_ble_eq_true rfl) rfl hcl ?_
    refine gs_0 (pc' := 24) (L' := [some (.ref l0), some (.int x_9), none, none, none]) (st' := []) cd_108_23 rfl rfl ?_
    refine gs_0 (pc' := 25) (L' := [some (.ref l0), some (.int x_9), none, none, none]) (st' := [.int x_9]) cd_108_24 rfl rfl ?_
    refine gs_0 (pc' := if x_9 ≤ 0 then 136 else 28) (L' := [some (.ref l0), some (.int x_9), none, none, none]) (st' := []) cd_108_25 rfl rfl ?_
    refine go_ite (fun hc => ?_) (fun hc => ?_)
    · rw [if_pos hc] at h
      refine gs_0 (pc' := 137) (L' := [some (.ref l0), some (.int x_9), none, none, none]) (st' := [.ref l0]) cd_108_136 rfl rfl ?_
      obtain ⟨ht, h⟩ := gO_s h
      obtain ⟨x_13, w_10, I_11, J_12, hcl, h⟩ := cI_s h
      refine gs_call (as := [.ref l0]) (rest := []) cd_108_137 rfl (by decide) rfl (sm_rv_ok (by decide) ht) (Nat.le_of_ble_eq_true rfl) (Nat.le_of_ble_eq_true rfl) rfl hcl ?_
      refine gs_0 (pc' := 141) (L' := [some (.ref l0), some (.int x_9), some (.int x_13), none, none]) (st' := []) cd_108_140 rfl rfl ?_
      exact ok_108_141 h
    · rw [if_neg hc] at h
      refine gs_0 (pc' := 29) (L' := [some (.ref l0), some (.int x_9), none, none, none]) (st' := [.ref l0]) cd_108_28 rfl rfl ?_
      obtain ⟨ht, h⟩ := gO_s h
      refine gs_gfI cd_108_29 (by decide) (by decide) ht ?_
      refine gs_0 (pc' := 33) (L' := [some (.ref l0), some (.int x_9), none, some (.int (I_7 l0 22)), none]) (st' := []) cd_108_32 rfl rfl ?_
      obtain ⟨x_14, hx, h⟩ := lt_s_ h
      rw [hx]
      clear hx
      refine gs_0 (pc' := 34) (L' := [some (.ref l0), some (.int x_9), none, some (.int x_14), none]) (st' := [.ref l0]) cd_108_33 rfl rfl ?_
      obtain ⟨ht, h⟩ := gO_s h
      obtain ⟨w_15, I_16, J_17, hcl, h⟩ := cV_s h
      refine gs_call (as := [.ref l0]) (rest := []) cd_108_34 rfl (by decide) rfl (sm_rv_ok (by decide) ht) (Nat.le_of_ble_eq_true rfl) (Nat.le_of_ble_eq_true rfl) rfl hcl ?_
      refine gs_0 (pc' := 38) (L' := [some (.ref l0), some (.int x_9), none, some (.int x_14), none]) (st' := [.ref l0]) cd_108_37 rfl rfl ?_
      obtain ⟨ht, h⟩ := gO_s h
      obtain ⟨x_21, w_18, I_19, J_20, hcl, h⟩ := cI_s h
      refine gs_call (as := [.ref l0]) (rest := []) cd_108_38 rfl (by decide) rfl (sm_rv_ok (by decide) ht) (Nat.le_of_ble_eq_true rfl) (Nat.le_of_ble_eq_true rfl) rfl hcl ?_
      refine gs_0 (pc' := 43) (L' := [some (.ref l0), some (.int x_9), none, some (.int x_14), some (.int x_21)]) (st' := []) cd_108_41 rfl rfl ?_
      refine gs_0 (pc' := 44) (L' := [some (.ref l0), some (.int x_9), none, some (.int x_14), some (.int x_21)]) (st' := [.ref l0]) cd_108_43 rfl rfl ?_
      refine gs_0 (pc' := 46) (L' := [some (.ref l0), some (.int x_9), none, some (.int x_14), some (.int x_21)]) (st' := [.int x_21, .ref l0]) cd_108_44 rfl rfl ?_
      refine gs_0 (pc' := 47) (L' := [some (.ref l0), some (.int x_9), none, some (.int x_14), some (.int x_21)]) (st' := [.int x_9, .int x_21, .ref l0]) cd_108_46 rfl rfl ?_
      refine gs_0 (pc' := 49) (L' := [some (.ref l0), some (.int x_9), none, some (.int x_14), some (.int x_21)]) (st' := [.int 6, .int x_9, .int x_21, .ref l0]) cd_108_47 rfl rfl ?_
      refine gs_0 (pc' := if ¬ x_9 = 6 then 56 else 52) (L' := [some (.ref l0), some (.int x_9), none, some (.int x_14), some (.int x_21)]) (st' := [.int x_21, .ref l0]) cd_108_49 rfl rfl ?_
      refine go_ite (fun hc => ?_) (fun hc => ?_)
      · rw [if_pos hc] at h
        refine gs_0 (pc' := 57) (L' := [some (.ref l0), some (.int x_9), none, some (.int x_14), some (.int x_21)]) (st' := [.int x_9, .int x_21, .ref l0]) cd_108_56 rfl rfl ?_
        refine gs_0 (pc' := 59) (L' := [some (.ref l0), some (.int x_9), none, some (.int x_14), some (.int x_21)]) (st' := [.int 7, .int x_9, .int x_21, .ref l0]) cd_108_57 rfl rfl ?_
        refine gs_0 (pc' := if ¬ x_9 = 7 then 66 else 62) (L' := [some (.ref l0), some (.int x_9), none, some (.int x_14), some (.int x_21)]) (st' := [.int x_21, .ref l0]) cd_108_59 rfl rfl ?_
        refine go_ite (fun hc => ?_) (fun hc => ?_)
        · rw [if_pos hc] at h
          refine gs_0 (pc' := 67) (L' := [some (.ref l0), some (.int x_9), none, some (.int x_14), some (.int x_21)]) (st' := [.int x_9, .int x_21, .ref l0]) cd_108_66 rfl rfl ?_
          refine gs_0 (pc' := 69) (L' := [some (.ref l0), some (.int x_9), none, some (.int x_14), some (.int x_21)]) (st' := [.int 8, .int x_9, .int x_21, .ref l0]) cd_108_67 rfl rfl ?_
          refine gs_0 (pc' := if x_9 = 8 then 78 else 72) (L' := [some (.ref l0), some (.int x_9), none, some (.int x_14), some (.int x_21)]) (st' := [.int x_21, .ref l0]) cd_108_69 rfl rfl ?_
          refine go_ite (fun hc => ?_) (fun hc => ?_)
          · rw [if_pos hc] at h
            exact ok_108_78 h
          · rw [if_neg hc] at h
            refine gs_0 (pc' := 73) (L' := [some (.ref l0), some (.int x_9), none, some (.int x_14), some (.int x_21)]) (st' := [.int x_9, .int x_21, .ref l0]) cd_108_72 rfl rfl ?_
            refine gs_0 (pc' := 75) (L' := [some (.ref l0), some (.int x_9), none, some (.int x_14), some (.int x_21)]) (st' := [.int 9, .int x_9, .int x_21, .ref l0]) cd_108_73 rfl rfl ?_
            refine gs_0 (pc' := if ¬ x_9 = 9 then 82 else 78) (L' := [some (.ref l0), some (.int x_9), none, some (.int x_14), some (.int x_21)]) (st' := [.int x_21, .ref l0]) cd_108_75 rfl rfl ?_
            refine go_ite (fun hc => ?_) (fun hc => ?_)
            · rw [if_pos hc] at h
              refine gs_0 (pc' := 83) (L' := [some (.ref l0), some (.int x_9), none, some (.int x_14), some (.int x_21)]) (st' := [.int 0, .int x_21, .ref l0]) cd_108_82 rfl rfl ?_
              exact ok_108_83 h
            · rw [if_neg hc] at h
              exact ok_108_78 h
        · rw [if_neg hc] at h
          refine gs_0 (pc' := 63) (L' := [some (.ref l0), some (.int x_9), none, some (.int x_14), some (.int x_21)]) (st' := [.int 2, .int x_21, .ref l0]) cd_108_62 rfl rfl ?_
          refine gs_0 (pc' := 83) (L' := [some (.ref l0), some (.int x_9), none, some (.int x_14), some (.int x_21)]) (st' := [.int 2, .int x_21, .ref l0]) cd_108_63 rfl rfl ?_
          exact ok_108_83 h
      · rw [if_neg hc] at h
        refine gs_0 (pc' := 53) (L' := [some (.ref l0), some (.int x_9), none, some (.int x_14), some (.int x_21)]) (st' := [.int 1, .int x_21, .ref l0]) cd_108_52 rfl rfl ?_
        refine gs_0 (pc' := 83) (L' := [some (.ref l0), some (.int x_9), none, some (.int x_14), some (.int x_21)]) (st' := [.int 1, .int x_21, .ref l0]) cd_108_53 rfl rfl ?_
        exact ok_108_83 h
  · rw [if_neg hc] at h
    refine gs_0 (pc' := 8) (L' := [some (.ref l0), none, none, none, none]) (st' := [.int 0]) cd_108_7 rfl rfl ?_
    cases h
    exact gs_ri cd_108_8 (Or.inl rfl)
theorem cl_108 {K : Nat → Value} {k d : Nat} {l0 : Nat} {w : aW} {I : aI} {J : aJ} {R : aR} (h : f_108 K k d l0 w I J = some R) : Cl K (d + 1) 108 [.ref l0] w I J = some R := Cl_of (ok_108 h)
/-! ProvedMachineModel.singleHere()I -/
set_option maxRecDepth 20000 in
theorem gl_109 : gcd.lookup 109 = some gw_109 := rfl
theorem cd_109_0 : sm_cd 109 0 = some (.aload_n 0, 1, 0, 0, 0, 0, 0, 0, 0) := cd_of gl_109 rfl
theorem cd_109_1 : sm_cd 109 1 = some (.bipush 45, 2, 0, 0, 0, 0, 0, 45, 0) := cd_of gl_109 rfl
theorem cd_109_3 : sm_cd 109 3 = some (.invokevirtual 200, 3, 94, 0, 1, 2, 6, 0, 0) := cd_of gl_109 rfl
theorem cd_109_6 : sm_cd 109 6 = some (.ifCond .eq 7, 3, 13, 0, 0, 0, 0, 0, 0) := cd_of gl_109 rfl
theorem cd_109_9 : sm_cd 109 9 = some (.iconst 5, 1, 0, 0, 0, 0, 0, 5, 0) := cd_of gl_109 rfl
theorem cd_109_10 : sm_cd 109 10 = some (.goto 74, 3, 84, 0, 0, 0, 0, 0, 0) := cd_of gl_109 rfl
theorem cd_109_13 : sm_cd 109 13 = some (.aload_n 0, 1, 0, 0, 0, 0, 0, 0, 0) := cd_of gl_109 rfl
theorem cd_109_14 : sm_cd 109 14 = some (.bipush 13, 2, 0, 0, 0, 0, 0, 13, 0) := cd_of gl_109 rfl
theorem cd_109_16 : sm_cd 109 16 = some (.invokevirtual 254, 3, 89, 0, 1, 2, 6, 0, 0) := cd_of gl_109 rfl
theorem cd_109_19 : sm_cd 109 19 = some (.ifCond .eq 8, 3, 27, 0, 0, 0, 0, 0, 0) := cd_of gl_109 rfl
theorem cd_109_22 : sm_cd 109 22 = some (.bipush 6, 2, 0, 0, 0, 0, 0, 6, 0) := cd_of gl_109 rfl
theorem cd_109_24 : sm_cd 109 24 = some (.goto 60, 3, 84, 0, 0, 0, 0, 0, 0) := cd_of gl_109 rfl
theorem cd_109_27 : sm_cd 109 27 = some (.aload_n 0, 1, 0, 0, 0, 0, 0, 0, 0) := cd_of gl_109 rfl
theorem cd_109_28 : sm_cd 109 28 = some (.bipush 17, 2, 0, 0, 0, 0, 0, 17, 0) := cd_of gl_109 rfl
theorem cd_109_30 : sm_cd 109 30 = some (.invokevirtual 254, 3, 89, 0, 1, 2, 6, 0, 0) := cd_of gl_109 rfl
theorem cd_109_33 : sm_cd 109 33 = some (.ifCond .eq 8, 3, 41, 0, 0, 0, 0, 0, 0) := cd_of gl_109 rfl
theorem cd_109_36 : sm_cd 109 36 = some (.bipush 7, 2, 0, 0, 0, 0, 0, 7, 0) := cd_of gl_109 rfl
theorem cd_109_38 : sm_cd 109 38 = some (.goto 46, 3, 84, 0, 0, 0, 0, 0, 0) := cd_of gl_109 rfl
theorem cd_109_41 : sm_cd 109 41 = some (.aload_n 0, 1, 0, 0, 0, 0, 0, 0, 0) := cd_of gl_109 rfl
theorem cd_109_42 : sm_cd 109 42 = some (.bipush 18, 2, 0, 0, 0, 0, 0, 18, 0) := cd_of gl_109 rfl
theorem cd_109_44 : sm_cd 109 44 = some (.invokevirtual 254, 3, 89, 0, 1, 2, 6, 0, 0) := cd_of gl_109 rfl
theorem cd_109_47 : sm_cd 109 47 = some (.ifCond .eq 8, 3, 55, 0, 0, 0, 0, 0, 0) := cd_of gl_109 rfl
theorem cd_109_50 : sm_cd 109 50 = some (.bipush 8, 2, 0, 0, 0, 0, 0, 8, 0) := cd_of gl_109 rfl
theorem cd_109_52 : sm_cd 109 52 = some (.goto 32, 3, 84, 0, 0, 0, 0, 0, 0) := cd_of gl_109 rfl
theorem cd_109_55 : sm_cd 109 55 = some (.aload_n 0, 1, 0, 0, 0, 0, 0, 0, 0) := cd_of gl_109 rfl
theorem cd_109_56 : sm_cd 109 56 = some (.bipush 19, 2, 0, 0, 0, 0, 0, 19, 0) := cd_of gl_109 rfl
theorem cd_109_58 : sm_cd 109 58 = some (.invokevirtual 254, 3, 89, 0, 1, 2, 6, 0, 0) := cd_of gl_109 rfl
theorem cd_109_61 : sm_cd 109 61 = some (.ifCond .eq 8, 3, 69, 0, 0, 0, 0, 0, 0) := cd_of gl_109 rfl
theorem cd_109_64 : sm_cd 109 64 = some (.bipush 9, 2, 0, 0, 0, 0, 0, 9, 0) := cd_of gl_109 rfl
theorem cd_109_66 : sm_cd 109 66 = some (.goto 18, 3, 84, 0, 0, 0, 0, 0, 0) := cd_of gl_109 rfl
theorem cd_109_69 : sm_cd 109 69 = some (.aload_n 0, 1, 0, 0, 0, 0, 0, 0, 0) := cd_of gl_109 rfl
theorem cd_109_70 : sm_cd 109 70 = some (.bipush 16, 2, 0, 0, 0, 0, 0, 16, 0) := cd_of gl_109 rfl
theorem cd_109_72 : sm_cd 109 72 = some (.invokevirtual 254, 3, 89, 0, 1, 2, 6, 0, 0) := cd_of gl_109 rfl
theorem cd_109_75 : sm_cd 109 75 = some (.ifCond .eq 8, 3, 83, 0, 0, 0, 0, 0, 0) := cd_of gl_109 rfl
theorem cd_109_78 : sm_cd 109 78 = some (.bipush 10, 2, 0, 0, 0, 0, 0, 10, 0) := cd_of gl_109 rfl
theorem cd_109_80 : sm_cd 109 80 = some (.goto 4, 3, 84, 0, 0, 0, 0, 0, 0) := cd_of gl_109 rfl
theorem cd_109_83 : sm_cd 109 83 = some (.iconst 0, 1, 0, 0, 0, 0, 0, 0, 0) := cd_of gl_109 rfl
theorem cd_109_84 : sm_cd 109 84 = some (.ireturn, 1, 0, 0, 1, 0, 0, 0, 0) := cd_of gl_109 rfl
noncomputable def f_109 (K : Nat → Value) (k d : Nat) (l0 : Nat) (w : aW) (I : aI) (J : aJ) : Option aR :=
  gO w 6 l0 (
  cI (Cl K d 94 [.ref l0, .int 45] w I J) fun x_4 w_1 I_2 J_3 =>
  if x_4 = 0 then
    gO w_1 6 l0 (
    cI (Cl K d 89 [.ref l0, .int 13] w_1 I_2 J_3) fun x_8 w_5 I_6 J_7 =>
    if x_8 = 0 then
      gO w_5 6 l0 (
      cI (Cl K d 89 [.ref l0, .int 17] w_5 I_6 J_7) fun x_12 w_9 I_10 J_11 =>
      if x_12 = 0 then
        gO w_9 6 l0 (
        cI (Cl K d 89 [.ref l0, .int 18] w_9 I_10 J_11) fun x_16 w_13 I_14 J_15 =>
        if x_16 = 0 then
          gO w_13 6 l0 (
          cI (Cl K d 89 [.ref l0, .int 19] w_13 I_14 J_15) fun x_20 w_17 I_18 J_19 =>
          if x_20 = 0 then
            gO w_17 6 l0 (
            cI (Cl K d 89 [.ref l0, .int 16] w_17 I_18 J_19) fun x_24 w_21 I_22 J_23 =>
            if x_24 = 0 then
              some (some (.int 0), w_21, I_22, J_23)
            else
              some (some (.int 10), w_21, I_22, J_23))
          else
            some (some (.int 9), w_17, I_18, J_19))
        else
          some (some (.int 8), w_13, I_14, J_15))
      else
        some (some (.int 7), w_9, I_10, J_11))
    else
      some (some (.int 6), w_5, I_6, J_7))
  else
    some (some (.int 5), w_1, I_2, J_3))
theorem ok_109 {K : Nat → Value} {k d : Nat} {l0 : Nat} {w : aW} {I : aI} {J : aJ} {R : aR} (h : f_109 K k d l0 w I J = some R) : Go K (d + 1) 109 0 [some (.ref l0)] [] w I J R := by
  unfold f_109 at h
  refine gs_0 (pc' := 1) (L' := [some (.ref l0)]) (st' := [.ref l0]) cd_109_0 rfl rfl ?_
  refine gs_0 (pc' := 3) (L' := [some (.ref l0)]) (st' := [.int 45, .ref l0]) cd_109_1 rfl rfl ?_
  obtain ⟨ht, h⟩ := gO_s h
  obtain ⟨x_4, w_1, I_2, J_3, hcl, h⟩ := cI_s h
  refine gs_call (as := [.ref l0, .int 45]) (rest := []) cd_109_3 rfl (by decide) rfl (sm_rv_ok (by decide) ht) (Nat.le_of_ble_eq_true rfl) (Nat.le_of_ble_eq_true rfl) rfl hcl ?_
  refine gs_0 (pc' := if x_4 = 0 then 13 else 9) (L' := [some (.ref l0)]) (st' := []) cd_109_6 rfl rfl ?_
  refine go_ite (fun hc => ?_) (fun hc => ?_)
  · rw [if_pos hc] at h
    refine gs_0 (pc' := 14) (L' := [some (.ref l0)]) (st' := [.ref l0]) cd_109_13 rfl rfl ?_
    refine gs_0 (pc' := 16) (L' := [some (.ref l0)]) (st' := [.int 13, .ref l0]) cd_109_14 rfl rfl ?_
    obtain ⟨ht, h⟩ := gO_s h
    obtain ⟨x_8, w_5, I_6, J_7, hcl, h⟩ := cI_s h
    refine gs_call (as := [.ref l0, .int 13]) (rest := []) cd_109_16 rfl (by decide) rfl (sm_rv_ok (by decide) ht) (Nat.le_of_ble_eq_true rfl) (Nat.le_of_ble_eq_true rfl) rfl hcl ?_
    refine gs_0 (pc' := if x_8 = 0 then 27 else 22) (L' := [some (.ref l0)]) (st' := []) cd_109_19 rfl rfl ?_
    refine go_ite (fun hc => ?_) (fun hc => ?_)
    · rw [if_pos hc] at h
      refine gs_0 (pc' := 28) (L' := [some (.ref l0)]) (st' := [.ref l0]) cd_109_27 rfl rfl ?_
      refine gs_0 (pc' := 30) (L' := [some (.ref l0)]) (st' := [.int 17, .ref l0]) cd_109_28 rfl rfl ?_
      obtain ⟨ht, h⟩ := gO_s h
      obtain ⟨x_12, w_9, I_10, J_11, hcl, h⟩ := cI_s h
      refine gs_call (as := [.ref l0, .int 17]) (rest := []) cd_109_30 rfl (by decide) rfl (sm_rv_ok (by decide) ht) (Nat.le_of_ble_eq_true rfl) (Nat.le_of_ble_eq_true rfl) rfl hcl ?_
      refine gs_0 (pc' := if x_12 = 0 then 41 else 36) (L' := [some (.ref l0)]) (st' := []) cd_109_33 rfl rfl ?_
      refine go_ite (fun hc => ?_) (fun hc => ?_)
      · rw [if_pos hc] at h
        refine gs_0 (pc' := 42) (L' := [some (.ref l0)]) (st' := [.ref l0]) cd_109_41 rfl rfl ?_
        refine gs_0 (pc' := 44) (L' := [some (.ref l0)]) (st' := [.int 18, .ref l0]) cd_109_42 rfl rfl ?_
        obtain ⟨ht, h⟩ := gO_s h
        obtain ⟨x_16, w_13, I_14, J_15, hcl, h⟩ := cI_s h
        refine gs_call (as := [.ref l0, .int 18]) (rest := []) cd_109_44 rfl (by decide) rfl (sm_rv_ok (by decide) ht) (Nat.le_of_ble_eq_true rfl) (Nat.le_of_ble_eq_true rfl) rfl hcl ?_
        refine gs_0 (pc' := if x_16 = 0 then 55 else 50) (L' := [some (.ref l0)]) (st' := []) cd_109_47 rfl rfl ?_
        refine go_ite (fun hc => ?_) (fun hc => ?_)
        · rw [if_pos hc] at h
          refine gs_0 (pc' := 56) (L' := [some (.ref l0)]) (st' := [.ref l0]) cd_109_55 rfl rfl ?_
          refine gs_0 (pc' := 58) (L' := [some (.ref l0)]) (st' := [.int 19, .ref l0]) cd_109_56 rfl rfl ?_
          obtain ⟨ht, h⟩ := gO_s h
          obtain ⟨x_20, w_17, I_18, J_19, hcl, h⟩ := cI_s h
          refine gs_call (as := [.ref l0, .int 19]) (rest := []) cd_109_58 rfl (by decide) rfl (sm_rv_ok (by decide) ht) (Nat.le_of_ble_eq_true rfl) (Nat.le_of_ble_eq_true rfl) rfl hcl ?_
          refine gs_0 (pc' := if x_20 = 0 then 69 else 64) (L' := [some (.ref l0)]) (st' := []) cd_109_61 rfl rfl ?_
          refine go_ite (fun hc => ?_) (fun hc => ?_)
          · rw [if_pos hc] at h
            refine gs_0 (pc' := 70) (L' := [some (.ref l0)]) (st' := [.ref l0]) cd_109_69 rfl rfl ?_
            refine gs_0 (pc' := 72) (L' := [some (.ref l0)]) (st' := [.int 16, .ref l0]) cd_109_70 rfl rfl ?_
            obtain ⟨ht, h⟩ := gO_s h
            obtain ⟨x_24, w_21, I_22, J_23, hcl, h⟩ := cI_s h
            refine gs_call (as := [.ref l0, .int 16]) (rest := []) cd_109_72 rfl (by decide) rfl (sm_rv_ok (by decide) ht) (Nat.le_of_ble_eq_true rfl) (Nat.le_of_ble_eq_true rfl) rfl hcl ?_
            refine gs_0 (pc' := if x_24 = 0 then 83 else 78) (L' := [some (.ref l0)]) (st' := []) cd_109_75 rfl rfl ?_
            refine go_ite (fun hc => ?_) (fun hc => ?_)
            · rw [if_pos hc] at h
              refine gs_0 (pc' := 84) (L' := [some (.ref l0)]) (st' := [.int 0]) cd_109_83 rfl rfl ?_
              cases h
              exact gs_ri cd_109_84 (Or.inl rfl)
            · rw [if_neg hc] at h
              refine gs_0 (pc' := 80) (L' := [some (.ref l0)]) (st' := [.int 10]) cd_109_78 rfl rfl ?_
              refine gs_0 (pc' := 84) (L' := [some (.ref l0)]) (st' := [.int 10]) cd_109_80 rfl rfl ?_
              cases h
              exact gs_ri cd_109_84 (Or.inl rfl)
          · rw [if_neg hc] at h
            refine gs_0 (pc' := 66) (L' := [some (.ref l0)]) (st' := [.int 9]) cd_109_64 rfl rfl ?_
            refine gs_0 (pc' := 84) (L' := [some (.ref l0)]) (st' := [.int 9]) cd_109_66 rfl rfl ?_
            cases h
            exact gs_ri cd_109_84 (Or.inl rfl)
        · rw [if_neg hc] at h
          refine gs_0 (pc' := 52) (L' := [some (.ref l0)]) (st' := [.int 8]) cd_109_50 rfl rfl ?_
          refine gs_0 (pc' := 84) (L' := [some (.ref l0)]) (st' := [.int 8]) cd_109_52 rfl rfl ?_
          cases h
          exact gs_ri cd_109_84 (Or.inl rfl)
      · rw [if_neg hc] at h
        refine gs_0 (pc' := 38) (L' := [some (.ref l0)]) (st' := [.int 7]) cd_109_36 rfl rfl ?_
        refine gs_0 (pc' := 84) (L' := [some (.ref l0)]) (st' := [.int 7]) cd_109_38 rfl rfl ?_
        cases h
        exact gs_ri cd_109_84 (Or.inl rfl)
    · rw [if_neg hc] at h
      refine gs_0 (pc' := 24) (L' := [some (.ref l0)]) (st' := [.int 6]) cd_109_22 rfl rfl ?_
      refine gs_0 (pc' := 84) (L' := [some (.ref l0)]) (st' := [.int 6]) cd_109_24 rfl rfl ?_
      cases h
      exact gs_ri cd_109_84 (Or.inl rfl)
  · rw [if_neg hc] at h
    refine gs_0 (pc' := 10) (L' := [some (.ref l0)]) (st' := [.int 5]) cd_109_9 rfl rfl ?_
    refine gs_0 (pc' := 84) (L' := [some (.ref l0)]) (st' := [.int 5]) cd_109_10 rfl rfl ?_
    cases h
    exact gs_ri cd_109_84 (Or.inl rfl)
theorem cl_109 {K : Nat → Value} {k d : Nat} {l0 : Nat} {w : aW} {I : aI} {J : aJ} {R : aR} (h : f_109 K k d l0 w I J = some R) : Cl K (d + 1) 109 [.ref l0] w I J = some R := Cl_of (ok_109 h)
/-! ProvedMachineModel.ofTypes(ZI)V -/
set_option maxRecDepth 20000 in
theorem gl_110 : gcd.lookup 110 = some gw_110 := rfl
theorem cd_110_0 : sm_cd 110 0 = some (.aload_n 0, 1, 0, 0, 0, 0, 0, 0, 0) := cd_of gl_110 rfl
theorem cd_110_1 : sm_cd 110 1 = some (.getfield 193, 3, 6, 26, 1, 0, 0, 0, 0) := cd_of gl_110 rfl
theorem cd_110_4 : sm_cd 110 4 = some (.ifCond .ne 19, 3, 23, 0, 0, 0, 0, 0, 0) := cd_of gl_110 rfl
theorem cd_110_7 : sm_cd 110 7 = some (.iload_n 1, 1, 1, 0, 0, 0, 0, 0, 0) := cd_of gl_110 rfl
theorem cd_110_8 : sm_cd 110 8 = some (.ifCond .ne 15, 3, 23, 0, 0, 0, 0, 0, 0) := cd_of gl_110 rfl
theorem cd_110_11 : sm_cd 110 11 = some (.aload_n 0, 1, 0, 0, 0, 0, 0, 0, 0) := cd_of gl_110 rfl
theorem cd_110_12 : sm_cd 110 12 = some (.getfield 210, 3, 6, 28, 0, 0, 0, 0, 0) := cd_of gl_110 rfl
theorem cd_110_15 : sm_cd 110 15 = some (.ifCond .ge 8, 3, 23, 0, 0, 0, 0, 0, 0) := cd_of gl_110 rfl
theorem cd_110_18 : sm_cd 110 18 = some (.aload_n 0, 1, 0, 0, 0, 0, 0, 0, 0) := cd_of gl_110 rfl
theorem cd_110_19 : sm_cd 110 19 = some (.iload_n 2, 1, 2, 0, 0, 0, 0, 0, 0) := cd_of gl_110 rfl
theorem cd_110_20 : sm_cd 110 20 = some (.putfield 210, 3, 6, 28, 0, 0, 0, 0, 0) := cd_of gl_110 rfl
theorem cd_110_23 : sm_cd 110 23 = some (.return_, 1, 0, 0, 0, 0, 0, 0, 0) := cd_of gl_110 rfl
noncomputable def f_110 (K : Nat → Value) (k d : Nat) (l0 : Nat) (l1 : Int32) (l2 : Int32) (w : aW) (I : aI) (J : aJ) : Option aR :=
  gO w 6 l0 (
  if ¬ (I l0 26) = 0 then
    some (none, w, I, J)
  else
    if ¬ l1 = 0 then
      some (none, w, I, J)
    else
      gO w 6 l0 (
      if 0 ≤ (I l0 28) then
        some (none, w, I, J)
      else
        gO w 6 l0 (
        lt_ (sm_up2 I l0 28 l2) fun I_1 =>
        some (none, w, I_1, J))))
theorem ok_110 {K : Nat → Value} {k d : Nat} {l0 : Nat} {l1 : Int32} {l2 : Int32} {w : aW} {I : aI} {J : aJ} {R : aR} (h : f_110 K k d l0 l1 l2 w I J = some R) : Go K (d + 1) 110 0 [some (.ref l0), some (.int l1), some (.int l2)] [] w I J R := by
  unfold f_110 at h
  refine gs_0 (pc' := 1) (L' := [some (.ref l0), some (.int l1), some (.int l2)]) (st' := [.ref l0]) cd_110_0 rfl rfl ?_
  obtain ⟨ht, h⟩ := gO_s h
  refine gs_gfI cd_110_1 (by decide) (by decide) ht ?_
  refine gs_0 (pc' := if ¬ (I l0 26) = 0 then 23 else 7) (L' := [some (.ref l0), some (.int l1), some (.int l2)]) (st' := []) cd_110_4 rfl rfl ?_
  refine go_ite (fun hc => ?_) (fun hc => ?_)
  · rw [if_pos hc] at h
    cases h
    exact gsr cd_110_23 rfl rfl
  · rw [if_neg hc] at h
    refine gs_0 (pc' := 8) (L' := [some (.ref l0), some (.int l1), some (.int l2)]) (st' := [.int l1]) cd_110_7 rfl rfl ?_
    refine gs_0 (pc' := if ¬ l1 = 0 then 23 else 11) (L' := [some (.ref l0), some (.int l1), some (.int l2)]) (st' := []) cd_110_8 rfl rfl ?_
    refine go_ite (fun hc => ?_) (fun hc => ?_)
    · rw [if_pos hc] at h
      cases h
      exact gsr cd_110_23 rfl rfl
    · rw [if_neg hc] at h
      refine gs_0 (pc' := 12) (L' := [some (.ref l0), some (.int l1), some (.int l2)]) (st' := [.ref l0]) cd_110_11 rfl rfl ?_
      obtain ⟨ht, h⟩ := gO_s h
      refine gs_gfI cd_110_12 (by decide) (by decide) ht ?_
      refine gs_0 (pc' := if 0 ≤ (I l0 28) then 23 else 18) (L' := [some (.ref l0), some (.int l1), some (.int l2)]) (st' := []) cd_110_15 rfl rfl ?_
      refine go_ite (fun hc => ?_) (fun hc => ?_)
      · rw [if_pos hc] at h
        cases h
        exact gsr cd_110_23 rfl rfl
      · rw [if_neg hc] at h
        refine gs_0 (pc' := 19) (L' := [some (.ref l0), some (.int l1), some (.int l2)]) (st' := [.ref l0]) cd_110_18 rfl rfl ?_
        refine gs_0 (pc' := 20) (L' := [some (.ref l0), some (.int l1), some (.int l2)]) (st' := [.int l2, .ref l0]) cd_110_19 rfl rfl ?_
        obtain ⟨ht, h⟩ := gO_s h
        refine gs_pfI cd_110_20 (by decide) (Or.inl rfl) ht ?_
        obtain ⟨I_1, hx, h⟩ := lt_s_ h
        rw [hx]
        cases h
        exact gsr cd_110_23 rfl rfl
theorem cl_110 {K : Nat → Value} {k d : Nat} {l0 : Nat} {l1 : Int32} {l2 : Int32} {w : aW} {I : aI} {J : aJ} {R : aR} (h : f_110 K k d l0 l1 l2 w I J = some R) : Cl K (d + 1) 110 [.ref l0, .int l1, .int l2] w I J = some R := Cl_of (ok_110 h)
/-! ProvedMachineModel.emit(II)V -/
set_option maxRecDepth 20000 in
theorem gl_111 : gcd.lookup 111 = some gw_111 := rfl
theorem cd_111_0 : sm_cd 111 0 = some (.aload_n 0, 1, 0, 0, 0, 0, 0, 0, 0) := cd_of gl_111 rfl
theorem cd_111_1 : sm_cd 111 1 = some (.getfield 213, 3, 6, 13, 0, 0, 0, 0, 0) := cd_of gl_111 rfl
theorem cd_111_4 : sm_cd 111 4 = some (.sipush 300, 3, 0, 0, 0, 0, 0, 300, 0) := cd_of gl_111 rfl
theorem cd_111_7 : sm_cd 111 7 = some (.if_icmp .ge 23, 3, 30, 0, 0, 0, 0, 0, 0) := cd_of gl_111 rfl
theorem cd_111_10 : sm_cd 111 10 = some (.aload_n 0, 1, 0, 0, 0, 0, 0, 0, 0) := cd_of gl_111 rfl
theorem cd_111_11 : sm_cd 111 11 = some (.getfield 41, 3, 6, 14, 2, 0, 0, 0, 0) := cd_of gl_111 rfl
theorem cd_111_14 : sm_cd 111 14 = some (.aload_n 0, 1, 0, 0, 0, 0, 0, 0, 0) := cd_of gl_111 rfl
theorem cd_111_15 : sm_cd 111 15 = some (.getfield 213, 3, 6, 13, 0, 0, 0, 0, 0) := cd_of gl_111 rfl
theorem cd_111_18 : sm_cd 111 18 = some (.iload_n 1, 1, 1, 0, 0, 0, 0, 0, 0) := cd_of gl_111 rfl
theorem cd_111_19 : sm_cd 111 19 = some (.iastore, 1, 0, 0, 0, 0, 0, 0, 0) := cd_of gl_111 rfl
theorem cd_111_20 : sm_cd 111 20 = some (.aload_n 0, 1, 0, 0, 0, 0, 0, 0, 0) := cd_of gl_111 rfl
theorem cd_111_21 : sm_cd 111 21 = some (.getfield 44, 3, 6, 15, 2, 0, 0, 0, 0) := cd_of gl_111 rfl
theorem cd_111_24 : sm_cd 111 24 = some (.aload_n 0, 1, 0, 0, 0, 0, 0, 0, 0) := cd_of gl_111 rfl
theorem cd_111_25 : sm_cd 111 25 = some (.getfield 213, 3, 6, 13, 0, 0, 0, 0, 0) := cd_of gl_111 rfl
theorem cd_111_28 : sm_cd 111 28 = some (.iload_n 2, 1, 2, 0, 0, 0, 0, 0, 0) := cd_of gl_111 rfl
theorem cd_111_29 : sm_cd 111 29 = some (.iastore, 1, 0, 0, 0, 0, 0, 0, 0) := cd_of gl_111 rfl
theorem cd_111_30 : sm_cd 111 30 = some (.aload_n 0, 1, 0, 0, 0, 0, 0, 0, 0) := cd_of gl_111 rfl
theorem cd_111_31 : sm_cd 111 31 = some (.dup, 1, 0, 0, 0, 0, 0, 0, 0) := cd_of gl_111 rfl
theorem cd_111_32 : sm_cd 111 32 = some (.getfield 213, 3, 6, 13, 0, 0, 0, 0, 0) := cd_of gl_111 rfl
theorem cd_111_35 : sm_cd 111 35 = some (.iconst 1, 1, 0, 0, 0, 0, 0, 1, 0) := cd_of gl_111 rfl
theorem cd_111_36 : sm_cd 111 36 = some (.iadd, 1, 0, 0, 0, 0, 0, 0, 0) := cd_of gl_111 rfl
theorem cd_111_37 : sm_cd 111 37 = some (.putfield 213, 3, 6, 13, 0, 0, 0, 0, 0) := cd_of gl_111 rfl
theorem cd_111_40 : sm_cd 111 40 = some (.return_, 1, 0, 0, 0, 0, 0, 0, 0) := cd_of gl_111 rfl
noncomputable def f_111_30 (K : Nat → Value) (k d : Nat) (l0 : Nat) (l1 : Int32) (l2 : Int32) (w : aW) (I : aI) (J : aJ) : Option aR :=
  gO w 6 l0 (
  gO w 6 l0 (
  lt_ (sm_up2 I l0 13 ((I l0 13) + 1)) fun I_1 =>
  some (none, w, I_1, J)))
theorem ok_111_30 {K : Nat → Value} {k d : Nat} {l0 : Nat} {l1 : Int32} {l2 : Int32} {w : aW} {I : aI} {J : aJ} {R : aR} (h : f_111_30 K k d l0 l1 l2 w I J = some R) : Go K (d + 1) 111 30 [some (.ref l0), some (.int l1), some (.int l2)] [] w I J R := by
  unfold f_111_30 at h
  refine gs_0 (pc' := 31) (L' := [some (.ref l0), some (.int l1), some (.int l2)]) (st' := [.ref l0]) cd_111_30 rfl rfl ?_
  refine gs_0 (pc' := 32) (L' := [some (.ref l0), some (.int l1), some (.int l2)]) (st' := [.ref l0, .ref l0]) cd_111_31 rfl rfl ?_
  obtain ⟨ht, h⟩ := gO_s h
  refine gs_gfI cd_111_32 (by decide) (by decide) ht ?_
  refine gs_0 (pc' := 36) (L' := [some (.ref l0), some (.int l1), some (.int l2)]) (st' := [.int 1, .int (I l0 13), .ref l0]) cd_111_35 rfl rfl ?_
  refine gs_0 (pc' := 37) (L' := [some (.ref l0), some (.int l1), some (.int l2)]) (st' := [.int ((I l0 13) + 1), .ref l0]) cd_111_36 rfl rfl ?_
  obtain ⟨ht, h⟩ := gO_s h
  refine gs_pfI cd_111_37 (by decide) (Or.inl rfl) ht ?_
  obtain ⟨I_1, hx, h⟩ := lt_s_ h
  rw [hx]
  cases h
  exact gsr cd_111_40 rfl rfl
noncomputable def f_111 (K : Nat → Value) (k d : Nat) (l0 : Nat) (l1 : Int32) (l2 : Int32) (w : aW) (I : aI) (J : aJ) : Option aR :=
  gO w 6 l0 (
  if 300 ≤ (I l0 13) then
    f_111_30 K k d l0 l1 l2 w I J
  else
    gO w 6 l0 (
    gV w l0 14 fun q_1 =>
    gO w 6 l0 (
    gA w 10 10 q_1 (I l0 13) (
    lt_ (sm_up2 I q_1 (I l0 13 : Int32).toNatClampNeg l1) fun I_2 =>
    gO w 6 l0 (
    gV w l0 15 fun q_3 =>
    gO w 6 l0 (
    gA w 10 10 q_3 (I_2 l0 13) (
    lt_ (sm_up2 I_2 q_3 (I_2 l0 13 : Int32).toNatClampNeg l2) fun I_4 =>
    f_111_30 K k d l0 l1 l2 w I_4 J)))))))
theorem ok_111 {K : Nat → Value} {k d : Nat} {l0 : Nat} {l1 : Int32} {l2 : Int32} {w : aW} {I : aI} {J : aJ} {R : aR} (h : f_111 K k d l0 l1 l2 w I J = some R) : Go K (d + 1) 111 0 [some (.ref l0), some (.int l1), some (.int l2)] [] w I J R := by
  unfold f_111 at h
  refine gs_0 (pc' := 1) (L' := [some (.ref l0), some (.int l1), some (.int l2)]) (st' := [.ref l0]) cd_111_0 rfl rfl ?_
  obtain ⟨ht, h⟩ := gO_s h
  refine gs_gfI cd_111_1 (by decide) (by decide) ht ?_
  refine gs_0 (pc' := 7) (L' := [some (.ref l0), some (.int l1), some (.int l2)]) (st' := [.int 300, .int (I l0 13)]) cd_111_4 rfl rfl ?_
  refine gs_0 (pc' := if 300 ≤ (I l0 13) then 30 else 10) (L' := [some (.ref l0), some (.int l1), some (.int l2)]) (st' := []) cd_111_7 rfl rfl ?_
  refine go_ite (fun hc => ?_) (fun hc => ?_)
  · rw [if_pos hc] at h
    exact ok_111_30 h
  · rw [if_neg hc] at h
    refine gs_0 (pc' := 11) (L' := [some (.ref l0), some (.int l1), some (.int l2)]) (st' := [.ref l0]) cd_111_10 rfl rfl ?_
    obtain ⟨ht, h⟩ := gO_s h
    obtain ⟨q_1, hv, h⟩ := gV_s h
    refine gs_gfR cd_111_11 (by decide) ht hv ?_
    refine gs_0 (pc' := 15) (L' := [some (.ref l0), some (.int l1), some (.int l2)]) (st' := [.ref l0, .ref q_1]) cd_111_14 rfl rfl ?_
    obtain ⟨ht, h⟩ := gO_s h
    refine gs_gfI cd_111_15 (by decide) (by decide) ht ?_
    refine gs_0 (pc' := 19) (L' := [some (.ref l0), some (.int l1), some (.int l2)]) (st' := [.int l1, .int (I l0 13), .ref q_1]) cd_111_18 rfl rfl ?_
    obtain ⟨ht, h⟩ := gA_s h
    refine gs_iast cd_111_19 ht ?_
    obtain ⟨I_2, hx, h⟩ := lt_s_ h
    rw [hx]
    refine gs_0 (pc' := 21) (L' := [some (.ref l0), some (.int l1), some (.int l2)]) (st' := [.ref l0]) cd_111_20 rfl rfl ?_
    obtain ⟨ht, h⟩ := gO_s h
    obtain ⟨q_3, hv, h⟩ := gV_s h
    refine gs_gfR cd_111_21 (by decide) ht hv ?_
    refine gs_0 (pc' := 25) (L' := [some (.ref l0), some (.int l1), some (.int l2)]) (st' := [.ref l0, .ref q_3]) cd_111_24 rfl rfl ?_
    obtain ⟨ht, h⟩ := gO_s h
    refine gs_gfI cd_111_25 (by decide) (by decide) ht ?_
    refine gs_0 (pc' := 29) (L' := [some (.ref l0), some (.int l1), some (.int l2)]) (st' := [.int l2, .int (I_2 l0 13), .ref q_3]) cd_111_28 rfl rfl ?_
    obtain ⟨ht, h⟩ := gA_s h
    refine gs_iast cd_111_29 ht ?_
    obtain ⟨I_4, hx, h⟩ := lt_s_ h
    rw [hx]
    exact ok_111_30 h
theorem cl_111 {K : Nat → Value} {k d : Nat} {l0 : Nat} {l1 : Int32} {l2 : Int32} {w : aW} {I : aI} {J : aJ} {R : aR} (h : f_111 K k d l0 l1 l2 w I J = some R) : Cl K (d + 1) 111 [.ref l0, .int l1, .int l2] w I J = some R := Cl_of (ok_111 h)
/-! ProvedMachineModel.one()I -/
set_option maxRecDepth 20000 in
theorem gl_112 : gcd.lookup 112 = some gw_112 := rfl
set_option maxRecDepth 20000 in
theorem cd_112_0 : sm_cd 112 0 = some (.aload_n 0, 1, 0, 0, 0, 0, 0, 0, 0) := cd_of gl_112 rfl
set_option maxRecDepth 20000 in
theorem cd_112_1 : sm_cd 112 1 = some (.getfield 193, 3, 6, 26, 1, 0, 0, 0, 0) := cd_of gl_112 rfl
set_option maxRecDepth 20000 in
theorem cd_112_4 : sm_cd 112 4 = some (.ifCond .ne 59, 3, 63, 0, 0, 0, 0, 0, 0) := cd_of gl_112 rfl
set_option maxRecDepth 20000 in
theorem cd_112_7 : sm_cd 112 7 = some (.aload_n 0, 1, 0, 0, 0, 0, 0, 0, 0) := cd_of gl_112 rfl
set_option maxRecDepth 20000 in
theorem cd_112_8 : sm_cd 112 8 = some (.getfield 174, 3, 6, 24, 0, 0, 0, 0, 0) := cd_of gl_112 rfl
set_option maxRecDepth 20000 in
theorem cd_112_11 : sm_cd 112 11 = some (.iconst 3, 1, 0, 0, 0, 0, 0, 3, 0) := cd_of gl_112 rfl
set_option maxRecDepth 20000 in
theorem cd_112_12 : sm_cd 112 12 = some (.if_icmp .ne 51, 3, 63, 0, 0, 0, 0, 0, 0) := cd_of gl_112 rfl
set_option maxRecDepth 20000 in
theorem cd_112_15 : sm_cd 112 15 = some (.iconst 0, 1, 0, 0, 0, 0, 0, 0, 0) := cd_of gl_112 rfl
set_option maxRecDepth 20000 in
theorem cd_112_16 : sm_cd 112 16 = some (.istore_n 1, 1, 1, 0, 0, 0, 0, 0, 0) := cd_of gl_112 rfl
set_option maxRecDepth 20000 in
theorem cd_112_17 : sm_cd 112 17 = some (.aload_n 0, 1, 0, 0, 0, 0, 0, 0, 0) := cd_of gl_112 rfl
set_option maxRecDepth 20000 in
theorem cd_112_18 : sm_cd 112 18 = some (.getfield 160, 3, 6, 22, 0, 0, 0, 0, 0) := cd_of gl_112 rfl
set_option maxRecDepth 20000 in
theorem cd_112_21 : sm_cd 112 21 = some (.istore_n 2, 1, 2, 0, 0, 0, 0, 0, 0) := cd_of gl_112 rfl
set_option maxRecDepth 20000 in
theorem cd_112_22 : sm_cd 112 22 = some (.iload_n 2, 1, 2, 0, 0, 0, 0, 0, 0) := cd_of gl_112 rfl
set_option maxRecDepth 20000 in
theorem cd_112_23 : sm_cd 112 23 = some (.aload_n 0, 1, 0, 0, 0, 0, 0, 0, 0) := cd_of gl_112 rfl
set_option maxRecDepth 20000 in
theorem cd_112_24 : sm_cd 112 24 = some (.getfield 157, 3, 6, 23, 0, 0, 0, 0, 0) := cd_of gl_112 rfl
set_option maxRecDepth 20000 in
theorem cd_112_27 : sm_cd 112 27 = some (.if_icmp .ge 24, 3, 51, 0, 0, 0, 0, 0, 0) := cd_of gl_112 rfl
set_option maxRecDepth 20000 in
theorem cd_112_30 : sm_cd 112 30 = some (.bipush 10, 2, 0, 0, 0, 0, 0, 10, 0) := cd_of gl_112 rfl
set_option maxRecDepth 20000 in
theorem cd_112_32 : sm_cd 112 32 = some (.iload_n 1, 1, 1, 0, 0, 0, 0, 0, 0) := cd_of gl_112 rfl
set_option maxRecDepth 20000 in
theorem cd_112_33 : sm_cd 112 33 = some (.imul, 1, 0, 0, 0, 0, 0, 0, 0) := cd_of gl_112 rfl
set_option maxRecDepth 20000 in
theorem cd_112_34 : sm_cd 112 34 = some (.aload_n 0, 1, 0, 0, 0, 0, 0, 0, 0) := cd_of gl_112 rfl
set_option maxRecDepth 20000 in
theorem cd_112_35 : sm_cd 112 35 = some (.getfield 13, 3, 6, 1, 2, 0, 0, 0, 0) := cd_of gl_112 rfl
set_option maxRecDepth 20000 in
theorem cd_112_38 : sm_cd 112 38 = some (.iload_n 2, 1, 2, 0, 0, 0, 0, 0, 0) := cd_of gl_112 rfl
set_option maxRecDepth 20000 in
theorem cd_112_39 : sm_cd 112 39 = some (.iaload, 1, 0, 0, 0, 0, 0, 0, 0) := cd_of gl_112 rfl
set_option maxRecDepth 20000 in
theorem cd_112_40 : sm_cd 112 40 = some (.iadd, 1, 0, 0, 0, 0, 0, 0, 0) := cd_of gl_112 rfl
set_option maxRecDepth 20000 in
theorem cd_112_41 : sm_cd 112 41 = some (.bipush 48, 2, 0, 0, 0, 0, 0, 48, 0) := cd_of gl_112 rfl
set_option maxRecDepth 20000 in
theorem cd_112_43 : sm_cd 112 43 = some (.isub, 1, 0, 0, 0, 0, 0, 0, 0) := cd_of gl_112 rfl
set_option maxRecDepth 20000 in
theorem cd_112_44 : sm_cd 112 44 = some (.istore_n 1, 1, 1, 0, 0, 0, 0, 0, 0) := cd_of gl_112 rfl
set_option maxRecDepth 20000 in
theorem cd_112_45 : sm_cd 112 45 = some (.iinc 2 1, 3, 2, 0, 0, 0, 0, 1, 0) := cd_of gl_112 rfl
set_option maxRecDepth 20000 in
theorem cd_112_48 : sm_cd 112 48 = some (.goto (-26), 3, 22, 0, 0, 0, 0, 0, 0) := cd_of gl_112 rfl
set_option maxRecDepth 20000 in
theorem cd_112_51 : sm_cd 112 51 = some (.aload_n 0, 1, 0, 0, 0, 0, 0, 0, 0) := cd_of gl_112 rfl
set_option maxRecDepth 20000 in
theorem cd_112_52 : sm_cd 112 52 = some (.invokevirtual 197, 3, 84, 0, 0, 1, 6, 0, 0) := cd_of gl_112 rfl
set_option maxRecDepth 20000 in
theorem cd_112_55 : sm_cd 112 55 = some (.aload_n 0, 1, 0, 0, 0, 0, 0, 0, 0) := cd_of gl_112 rfl
set_option maxRecDepth 20000 in
theorem cd_112_56 : sm_cd 112 56 = some (.iconst 0, 1, 0, 0, 0, 0, 0, 0, 0) := cd_of gl_112 rfl
set_option maxRecDepth 20000 in
theorem cd_112_57 : sm_cd 112 57 = some (.iload_n 1, 1, 1, 0, 0, 0, 0, 0, 0) := cd_of gl_112 rfl
set_option maxRecDepth 20000 in
theorem cd_112_58 : sm_cd 112 58 = some (.invokevirtual 247, 3, 111, 0, 2, 3, 6, 0, 0) := cd_of gl_112 rfl
set_option maxRecDepth 20000 in
theorem cd_112_61 : sm_cd 112 61 = some (.iconst 0, 1, 0, 0, 0, 0, 0, 0, 0) := cd_of gl_112 rfl
set_option maxRecDepth 20000 in
theorem cd_112_62 : sm_cd 112 62 = some (.ireturn, 1, 0, 0, 1, 0, 0, 0, 0) := cd_of gl_112 rfl
set_option maxRecDepth 20000 in
theorem cd_112_63 : sm_cd 112 63 = some (.aload_n 0, 1, 0, 0, 0, 0, 0, 0, 0) := cd_of gl_112 rfl
set_option maxRecDepth 20000 in
theorem cd_112_64 : sm_cd 112 64 = some (.bipush 10, 2, 0, 0, 0, 0, 0, 10, 0) := cd_of gl_112 rfl
set_option maxRecDepth 20000 in
theorem cd_112_66 : sm_cd 112 66 = some (.invokevirtual 254, 3, 89, 0, 1, 2, 6, 0, 0) := cd_of gl_112 rfl
set_option maxRecDepth 20000 in
theorem cd_112_69 : sm_cd 112 69 = some (.ifCond .ne 12, 3, 81, 0, 0, 0, 0, 0, 0) := cd_of gl_112 rfl
set_option maxRecDepth 20000 in
theorem cd_112_72 : sm_cd 112 72 = some (.aload_n 0, 1, 0, 0, 0, 0, 0, 0, 0) := cd_of gl_112 rfl
set_option maxRecDepth 20000 in
theorem cd_112_73 : sm_cd 112 73 = some (.bipush 11, 2, 0, 0, 0, 0, 0, 11, 0) := cd_of gl_112 rfl
set_option maxRecDepth 20000 in
theorem cd_112_75 : sm_cd 112 75 = some (.invokevirtual 254, 3, 89, 0, 1, 2, 6, 0, 0) := cd_of gl_112 rfl
set_option maxRecDepth 20000 in
theorem cd_112_78 : sm_cd 112 78 = some (.ifCond .eq 28, 3, 106, 0, 0, 0, 0, 0, 0) := cd_of gl_112 rfl
set_option maxRecDepth 20000 in
theorem cd_112_81 : sm_cd 112 81 = some (.aload_n 0, 1, 0, 0, 0, 0, 0, 0, 0) := cd_of gl_112 rfl
set_option maxRecDepth 20000 in
theorem cd_112_82 : sm_cd 112 82 = some (.iconst 1, 1, 0, 0, 0, 0, 0, 1, 0) := cd_of gl_112 rfl
set_option maxRecDepth 20000 in
theorem cd_112_83 : sm_cd 112 83 = some (.aload_n 0, 1, 0, 0, 0, 0, 0, 0, 0) := cd_of gl_112 rfl
set_option maxRecDepth 20000 in
theorem cd_112_84 : sm_cd 112 84 = some (.bipush 10, 2, 0, 0, 0, 0, 0, 10, 0) := cd_of gl_112 rfl
set_option maxRecDepth 20000 in
theorem cd_112_86 : sm_cd 112 86 = some (.invokevirtual 254, 3, 89, 0, 1, 2, 6, 0, 0) := cd_of gl_112 rfl
set_option maxRecDepth 20000 in
theorem cd_112_89 : sm_cd 112 89 = some (.ifCond .eq 7, 3, 96, 0, 0, 0, 0, 0, 0) := cd_of gl_112 rfl
set_option maxRecDepth 20000 in
theorem cd_112_92 : sm_cd 112 92 = some (.iconst 1, 1, 0, 0, 0, 0, 0, 1, 0) := cd_of gl_112 rfl
set_option maxRecDepth 20000 in
theorem cd_112_93 : sm_cd 112 93 = some (.goto 4, 3, 97, 0, 0, 0, 0, 0, 0) := cd_of gl_112 rfl
set_option maxRecDepth 20000 in
theorem cd_112_96 : sm_cd 112 96 = some (.iconst 0, 1, 0, 0, 0, 0, 0, 0, 0) := cd_of gl_112 rfl
set_option maxRecDepth 20000 in
theorem cd_112_97 : sm_cd 112 97 = some (.invokevirtual 247, 3, 111, 0, 2, 3, 6, 0, 0) := cd_of gl_112 rfl
set_option maxRecDepth 20000 in
theorem cd_112_100 : sm_cd 112 100 = some (.aload_n 0, 1, 0, 0, 0, 0, 0, 0, 0) := cd_of gl_112 rfl
set_option maxRecDepth 20000 in
theorem cd_112_101 : sm_cd 112 101 = some (.invokevirtual 197, 3, 84, 0, 0, 1, 6, 0, 0) := cd_of gl_112 rfl
set_option maxRecDepth 20000 in
theorem cd_112_104 : sm_cd 112 104 = some (.iconst 1, 1, 0, 0, 0, 0, 0, 1, 0) := cd_of gl_112 rfl
set_option maxRecDepth 20000 in
theorem cd_112_105 : sm_cd 112 105 = some (.ireturn, 1, 0, 0, 1, 0, 0, 0, 0) := cd_of gl_112 rfl
set_option maxRecDepth 20000 in
theorem cd_112_106 : sm_cd 112 106 = some (.aload_n 0, 1, 0, 0, 0, 0, 0, 0, 0) := cd_of gl_112 rfl
set_option maxRecDepth 20000 in
theorem cd_112_107 : sm_cd 112 107 = some (.bipush 12, 2, 0, 0, 0, 0, 0, 12, 0) := cd_of gl_112 rfl
set_option maxRecDepth 20000 in
theorem cd_112_109 : sm_cd 112 109 = some (.invokevirtual 254, 3, 89, 0, 1, 2, 6, 0, 0) := cd_of gl_112 rfl
set_option maxRecDepth 20000 in
theorem cd_112_112 : sm_cd 112 112 = some (.ifCond .eq 15, 3, 127, 0, 0, 0, 0, 0, 0) := cd_of gl_112 rfl
set_option maxRecDepth 20000 in
theorem cd_112_115 : sm_cd 112 115 = some (.aload_n 0, 1, 0, 0, 0, 0, 0, 0, 0) := cd_of gl_112 rfl
set_option maxRecDepth 20000 in
theorem cd_112_116 : sm_cd 112 116 = some (.iconst 2, 1, 0, 0, 0, 0, 0, 2, 0) := cd_of gl_112 rfl
set_option maxRecDepth 20000 in
theorem cd_112_117 : sm_cd 112 117 = some (.iconst 0, 1, 0, 0, 0, 0, 0, 0, 0) := cd_of gl_112 rfl
set_option maxRecDepth 20000 in
theorem cd_112_118 : sm_cd 112 118 = some (.invokevirtual 247, 3, 111, 0, 2, 3, 6, 0, 0) := cd_of gl_112 rfl
set_option maxRecDepth 20000 in
theorem cd_112_121 : sm_cd 112 121 = some (.aload_n 0, 1, 0, 0, 0, 0, 0, 0, 0) := cd_of gl_112 rfl
set_option maxRecDepth 20000 in
theorem cd_112_122 : sm_cd 112 122 = some (.invokevirtual 197, 3, 84, 0, 0, 1, 6, 0, 0) := cd_of gl_112 rfl
set_option maxRecDepth 20000 in
theorem cd_112_125 : sm_cd 112 125 = some (.iconst 3, 1, 0, 0, 0, 0, 0, 3, 0) := cd_of gl_112 rfl
set_option maxRecDepth 20000 in
theorem cd_112_126 : sm_cd 112 126 = some (.ireturn, 1, 0, 0, 1, 0, 0, 0, 0) := cd_of gl_112 rfl
set_option maxRecDepth 20000 in
theorem cd_112_127 : sm_cd 112 127 = some (.aload_n 0, 1, 0, 0, 0, 0, 0, 0, 0) := cd_of gl_112 rfl
set_option maxRecDepth 20000 in
theorem cd_112_128 : sm_cd 112 128 = some (.bipush 40, 2, 0, 0, 0, 0, 0, 40, 0) := cd_of gl_112 rfl
set_option maxRecDepth 20000 in
theorem cd_112_130 : sm_cd 112 130 = some (.invokevirtual 200, 3, 94, 0, 1, 2, 6, 0, 0) := cd_of gl_112 rfl
set_option maxRecDepth 20000 in
theorem cd_112_133 : sm_cd 112 133 = some (.ifCond .eq 20, 3, 153, 0, 0, 0, 0, 0, 0) := cd_of gl_112 rfl
set_option maxRecDepth 20000 in
theorem cd_112_136 : sm_cd 112 136 = some (.aload_n 0, 1, 0, 0, 0, 0, 0, 0, 0) := cd_of gl_112 rfl
set_option maxRecDepth 20000 in
theorem cd_112_137 : sm_cd 112 137 = some (.invokevirtual 197, 3, 84, 0, 0, 1, 6, 0, 0) := cd_of gl_112 rfl
set_option maxRecDepth 20000 in
theorem cd_112_140 : sm_cd 112 140 = some (.aload_n 0, 1, 0, 0, 0, 0, 0, 0, 0) := cd_of gl_112 rfl
set_option maxRecDepth 20000 in
theorem cd_112_141 : sm_cd 112 141 = some (.invokevirtual 241, 3, 101, 0, 0, 4, 6, 0, 0) := cd_of gl_112 rfl
set_option maxRecDepth 20000 in
theorem cd_112_144 : sm_cd 112 144 = some (.istore_n 1, 1, 1, 0, 0, 0, 0, 0, 0) := cd_of gl_112 rfl
set_option maxRecDepth 20000 in
theorem cd_112_145 : sm_cd 112 145 = some (.aload_n 0, 1, 0, 0, 0, 0, 0, 0, 0) := cd_of gl_112 rfl
set_option maxRecDepth 20000 in
theorem cd_112_146 : sm_cd 112 146 = some (.bipush 41, 2, 0, 0, 0, 0, 0, 41, 0) := cd_of gl_112 rfl
set_option maxRecDepth 20000 in
theorem cd_112_148 : sm_cd 112 148 = some (.invokevirtual 275, 3, 93, 0, 1, 2, 6, 0, 0) := cd_of gl_112 rfl
set_option maxRecDepth 20000 in
theorem cd_112_151 : sm_cd 112 151 = some (.iload_n 1, 1, 1, 0, 0, 0, 0, 0, 0) := cd_of gl_112 rfl
set_option maxRecDepth 20000 in
theorem cd_112_152 : sm_cd 112 152 = some (.ireturn, 1, 0, 0, 1, 0, 0, 0, 0) := cd_of gl_112 rfl
set_option maxRecDepth 20000 in
theorem cd_112_153 : sm_cd 112 153 = some (.aload_n 0, 1, 0, 0, 0, 0, 0, 0, 0) := cd_of gl_112 rfl
set_option maxRecDepth 20000 in
theorem cd_112_154 : sm_cd 112 154 = some (.getfield 160, 3, 6, 22, 0, 0, 0, 0, 0) := cd_of gl_112 rfl
set_option maxRecDepth 20000 in
theorem cd_112_157 : sm_cd 112 157 = some (.istore_n 1, 1, 1, 0, 0, 0, 0, 0, 0) := cd_of gl_112 rfl
set_option maxRecDepth 20000 in
theorem cd_112_158 : sm_cd 112 158 = some (.aload_n 0, 1, 0, 0, 0, 0, 0, 0, 0) := cd_of gl_112 rfl
set_option maxRecDepth 20000 in
theorem cd_112_159 : sm_cd 112 159 = some (.invokevirtual 279, 3, 91, 0, 0, 3, 6, 0, 0) := cd_of gl_112 rfl
set_option maxRecDepth 20000 in
theorem cd_112_162 : sm_cd 112 162 = some (.istore_n 2, 1, 2, 0, 0, 0, 0, 0, 0) := cd_of gl_112 rfl
set_option maxRecDepth 20000 in
theorem cd_112_163 : sm_cd 112 163 = some (.aload_n 0, 1, 0, 0, 0, 0, 0, 0, 0) := cd_of gl_112 rfl
set_option maxRecDepth 20000 in
theorem cd_112_164 : sm_cd 112 164 = some (.bipush 40, 2, 0, 0, 0, 0, 0, 40, 0) := cd_of gl_112 rfl
set_option maxRecDepth 20000 in
theorem cd_112_166 : sm_cd 112 166 = some (.invokevirtual 200, 3, 94, 0, 1, 2, 6, 0, 0) := cd_of gl_112 rfl
set_option maxRecDepth 20000 in
theorem cd_112_169 : sm_cd 112 169 = some (.ifCond .eq 10, 3, 179, 0, 0, 0, 0, 0, 0) := cd_of gl_112 rfl
set_option maxRecDepth 20000 in
theorem cd_112_172 : sm_cd 112 172 = some (.aload_n 0, 1, 0, 0, 0, 0, 0, 0, 0) := cd_of gl_112 rfl
set_option maxRecDepth 20000 in
theorem cd_112_173 : sm_cd 112 173 = some (.iload_n 2, 1, 2, 0, 0, 0, 0, 0, 0) := cd_of gl_112 rfl
set_option maxRecDepth 20000 in
theorem cd_112_174 : sm_cd 112 174 = some (.iload_n 1, 1, 1, 0, 0, 0, 0, 0, 0) := cd_of gl_112 rfl
set_option maxRecDepth 20000 in
theorem cd_112_175 : sm_cd 112 175 = some (.invokevirtual 282, 3, 113, 0, 2, 9, 6, 0, 0) := cd_of gl_112 rfl
set_option maxRecDepth 20000 in
theorem cd_112_178 : sm_cd 112 178 = some (.ireturn, 1, 0, 0, 1, 0, 0, 0, 0) := cd_of gl_112 rfl
set_option maxRecDepth 20000 in
theorem cd_112_179 : sm_cd 112 179 = some (.aload_n 0, 1, 0, 0, 0, 0, 0, 0, 0) := cd_of gl_112 rfl
set_option maxRecDepth 20000 in
theorem cd_112_180 : sm_cd 112 180 = some (.getfield 193, 3, 6, 26, 1, 0, 0, 0, 0) := cd_of gl_112 rfl
set_option maxRecDepth 20000 in
theorem cd_112_183 : sm_cd 112 183 = some (.ifCond .eq 5, 3, 188, 0, 0, 0, 0, 0, 0) := cd_of gl_112 rfl
set_option maxRecDepth 20000 in
theorem cd_112_186 : sm_cd 112 186 = some (.iconst 0, 1, 0, 0, 0, 0, 0, 0, 0) := cd_of gl_112 rfl
set_option maxRecDepth 20000 in
theorem cd_112_187 : sm_cd 112 187 = some (.ireturn, 1, 0, 0, 1, 0, 0, 0, 0) := cd_of gl_112 rfl
set_option maxRecDepth 20000 in
theorem cd_112_188 : sm_cd 112 188 = some (.aload_n 0, 1, 0, 0, 0, 0, 0, 0, 0) := cd_of gl_112 rfl
set_option maxRecDepth 20000 in
theorem cd_112_189 : sm_cd 112 189 = some (.iload_n 2, 1, 2, 0, 0, 0, 0, 0, 0) := cd_of gl_112 rfl
set_option maxRecDepth 20000 in
theorem cd_112_190 : sm_cd 112 190 = some (.iload_n 1, 1, 1, 0, 0, 0, 0, 0, 0) := cd_of gl_112 rfl
set_option maxRecDepth 20000 in
theorem cd_112_191 : sm_cd 112 191 = some (.invokevirtual 285, 3, 114, 0, 2, 4, 6, 0, 0) := cd_of gl_112 rfl
set_option maxRecDepth 20000 in
theorem cd_112_194 : sm_cd 112 194 = some (.istore_n 3, 1, 3, 0, 0, 0, 0, 0, 0) := cd_of gl_112 rfl
set_option maxRecDepth 20000 in
theorem cd_112_195 : sm_cd 112 195 = some (.aload_n 0, 1, 0, 0, 0, 0, 0, 0, 0) := cd_of gl_112 rfl
set_option maxRecDepth 20000 in
theorem cd_112_196 : sm_cd 112 196 = some (.iconst 3, 1, 0, 0, 0, 0, 0, 3, 0) := cd_of gl_112 rfl
set_option maxRecDepth 20000 in
theorem cd_112_197 : sm_cd 112 197 = some (.iload_n 3, 1, 3, 0, 0, 0, 0, 0, 0) := cd_of gl_112 rfl
set_option maxRecDepth 20000 in
theorem cd_112_198 : sm_cd 112 198 = some (.invokevirtual 247, 3, 111, 0, 2, 3, 6, 0, 0) := cd_of gl_112 rfl
set_option maxRecDepth 20000 in
theorem cd_112_201 : sm_cd 112 201 = some (.aload_n 0, 1, 0, 0, 0, 0, 0, 0, 0) := cd_of gl_112 rfl
set_option maxRecDepth 20000 in
theorem cd_112_202 : sm_cd 112 202 = some (.iload_n 3, 1, 3, 0, 0, 0, 0, 0, 0) := cd_of gl_112 rfl
set_option maxRecDepth 20000 in
theorem cd_112_203 : sm_cd 112 203 = some (.invokevirtual 288, 3, 115, 0, 1, 2, 6, 0, 0) := cd_of gl_112 rfl
set_option maxRecDepth 20000 in
theorem cd_112_206 : sm_cd 112 206 = some (.ireturn, 1, 0, 0, 1, 0, 0, 0, 0) := cd_of gl_112 rfl
noncomputable def f_112_97 (K : Nat → Value) (k d : Nat) (l0 : Nat) (s0 : Nat) (s1 : Int32) (s2 : Int32) (w : aW) (I : aI) (J : aJ) : Option aR :=
  gO w 6 s0 (
  cV (Cl K d 111 [.ref s0, .int s1, .int s2] w I J) fun w_1 I_2 J_3 =>
  gO w_1 6 l0 (
  cV (Cl K d 84 [.ref l0] w_1 I_2 J_3) fun w_4 I_5 J_6 =>
  some (some (.int 1), w_4, I_5, J_6)))
theorem ok_112_97 {K : Nat → Value} {k d : Nat} {l0 : Nat} {s0 : Nat} {s1 : Int32} {s2 : Int32} {w : aW} {I : aI} {J : aJ} {R : aR} (h : f_112_97 K k d l0 s0 s1 s2 w I J = some R) : Go K (d + 1) 112 97 [some (.ref l0), none, none, none] [.int s2, .int s1, .ref s0] w I J R := by
  unfold f_112_97 at h
  obtain ⟨ht, h⟩ := gO_s h
  obtain ⟨w_1, I_2, J_3, hcl, h⟩ := cV_s h
  refine gs_call (as := [.ref s0, .int s1, .int s2]) (rest := []) cd_112_97 rfl (by decide) rfl (sm_rv_ok (by decide) ht) (Nat.le_of_ble_eq_true rfl) (Nat.le_of_ble_eq_true rfl) rfl hcl ?_
  refine gs_0 (pc' := 101) (L' := [some (.ref l0), none, none, none]) (st' := [.ref l0]) cd_112_100 rfl rfl ?_
  obtain ⟨ht, h⟩ := gO_s h
  obtain ⟨w_4, I_5, J_6, hcl, h⟩ := cV_s h
  refine gs_call (as := [.ref l0]) (rest := []) cd_112_101 rfl (by decide) rfl (sm_rv_ok (by decide) ht) (Nat.le_of_ble_eq_true rfl) (Nat.le_of_ble_eq_true rfl) rfl hcl ?_
  refine gs_0 (pc' := 105) (L' := [some (.ref l0), none, none, none]) (st' := [.int 1]) cd_112_104 rfl rfl ?_
  cases h
  exact gs_ri cd_112_105 (Or.inl rfl)
noncomputable def f_112_81 (K : Nat → Value) (k d : Nat) (l0 : Nat) (w : aW) (I : aI) (J : aJ) : Option aR :=
  gO w 6 l0 (
  cI (Cl K d 89 [.ref l0, .int 10] w I J) fun x_4 w_1 I_2 J_3 =>
  if x_4 = 0 then
    f_112_97 K k d l0 l0 1 0 w_1 I_2 J_3
  else
    f_112_97 K k d l0 l0 1 1 w_1 I_2 J_3)
theorem ok_112_81 {K : Nat → Value} {k d : Nat} {l0 : Nat} {w : aW} {I : aI} {J : aJ} {R : aR} (h : f_112_81 K k d l0 w I J = some R) : Go K (d + 1) 112 81 [some (.ref l0), none, none, none] [] w I J R := by
  unfold f_112_81 at h
  refine gs_0 (pc' := 82) (L' := [some (.ref l0), none, none, none]) (st' := [.ref l0]) cd_112_81 rfl rfl ?_
  refine gs_0 (pc' := 83) (L' := [some (.ref l0), none, none, none]) (st' := [.int 1, .ref l0]) cd_112_82 rfl rfl ?_
  refine gs_0 (pc' := 84) (L' := [some (.ref l0), none, none, none]) (st' := [.ref l0, .int 1, .ref l0]) cd_112_83 rfl rfl ?_
  refine gs_0 (pc' := 86) (L' := [some (.ref l0), none, none, none]) (st' := [.int 10, .ref l0, .int 1, .ref l0]) cd_112_84 rfl rfl ?_
  obtain ⟨ht, h⟩ := gO_s h
  obtain ⟨x_4, w_1, I_2, J_3, hcl, h⟩ := cI_s h
  refine gs_call (as := [.ref l0, .int 10]) (rest := [.int 1, .ref l0]) cd_112_86 rfl (by decide) rfl (sm_rv_ok (by decide) ht) (Nat.le_of_ble_eq_true rfl) (Nat.le_of_ble_eq_true rfl) rfl hcl ?_
  refine gs_0 (pc' := if x_4 = 0 then 96 else 92) (L' := [some (.ref l0), none, none, none]) (st' := [.int 1, .ref l0]) cd_112_89 rfl rfl ?_
  refine go_ite (fun hc => ?_) (fun hc => ?_)
  · rw [if_pos hc] at h
    refine gs_0 (pc' := 97) (L' := [some (.ref l0), none, none, none]) (st' := [.int 0, .int 1, .ref l0]) cd_112_96 rfl rfl ?_
    exact ok_112_97 h
  · rw [if_neg hc] at h
    refine gs_0 (pc' := 93) (L' := [some (.ref l0), none, none, none]) (st' := [.int 1, .int 1, .ref l0]) cd_112_92 rfl rfl ?_
    refine gs_0 (pc' := 97) (L' := [some (.ref l0), none, none, none]) (st' := [.int 1, .int 1, .ref l0]) cd_112_93 rfl rfl ?_
    exact ok_112_97 h
noncomputable def f_112_63 (K : Nat → Value) (k d : Nat) (l0 : Nat) (w : aW) (I : aI) (J : aJ) : Option aR :=
  gO w 6 l0 (
  cI (Cl K d 89 [.ref l0, .int 10] w I J) fun x_4 w_1 I_2 J_3 =>
  if ¬ x_4 = 0 then
    f_112_81 K k d l0 w_1 I_2 J_3
  else
    gO w_1 6 l0 (
    cI (Cl K d 89 [.ref l0, .int 11] w_1 I_2 J_3) fun x_8 w_5 I_6 J_7 =>
    if x_8 = 0 then
      gO w_5 6 l0 (
      cI (Cl K d 89 [.ref l0, .int 12] w_5 I_6 J_7) fun x_12 w_9 I_10 J_11 =>
      if x_12 = 0 then
        gO w_9 6 l0 (
        cI (Cl K d 94 [.ref l0, .int 40] w_9 I_10 J_11) fun x_16 w_13 I_14 J_15 =>
        if x_16 = 0 then
          gO w_13 6 l0 (
          lt_ (I_14 l0 22) fun x_17 =>
          gO w_13 6 l0 (
          cI (Cl K d 91 [.ref l0] w_13 I_14 J_15) fun x_21 w_18 I_19 J_20 =>
          gO w_18 6 l0 (
          cI (Cl K d 94 [.ref l0, .int 40] w_18 I_19 J_20) fun x_25 w_22 I_23 J_24 =>
          if x_25 = 0 then
            gO w_22 6 l0 (
            if (I_23 l0 26) = 0 then
              gO w_22 6 l0 (
              cI (Cl K d 114 [.ref l0, .int x_21, .int x_17] w_22 I_23 J_24) fun x_29 w_26 I_27 J_28 =>
              gO w_26 6 l0 (
              cV (Cl K d 111 [.ref l0, .int 3, .int x_29] w_26 I_27 J_28) fun w_30 I_31 J_32 =>
              gO w_30 6 l0 (
              cI (Cl K d 115 [.ref l0, .int x_29] w_30 I_31 J_32) fun x_36 w_33 I_34 J_35 =>
              some (some (.int x_36), w_33, I_34, J_35))))
            else
              some (some (.int 0), w_22, I_23, J_24))
          else
            gO w_22 6 l0 (
            cI (Cl K d 113 [.ref l0, .int x_21, .int x_17] w_22 I_23 J_24) fun x_40 w_37 I_38 J_39 =>
            some (some (.int x_40), w_37, I_38, J_39)))))
        else
          gO w_13 6 l0 (
          cV (Cl K d 84 [.ref l0] w_13 I_14 J_15) fun w_41 I_42 J_43 =>
          gO w_41 6 l0 (
          cI (Cl K d 101 [.ref l0] w_41 I_42 J_43) fun x_47 w_44 I_45 J_46 =>
          gO w_44 6 l0 (
          cV (Cl K d 93 [.ref l0, .int 41] w_44 I_45 J_46) fun w_48 I_49 J_50 =>
          some (some (.int x_47), w_48, I_49, J_50)))))
      else
        gO w_9 6 l0 (
        cV (Cl K d 111 [.ref l0, .int 2, .int 0] w_9 I_10 J_11) fun w_51 I_52 J_53 =>
        gO w_51 6 l0 (
        cV (Cl K d 84 [.ref l0] w_51 I_52 J_53) fun w_54 I_55 J_56 =>
        some (some (.int 3), w_54, I_55, J_56))))
    else
      f_112_81 K k d l0 w_5 I_6 J_7))
theorem ok_112_63 {K : Nat → Value} {k d : Nat} {l0 : Nat} {w : aW} {I : aI} {J : aJ} {R : aR} (h : f_112_63 K k d l0 w I J = some R) : Go K (d + 1) 112 63 [some (.ref l0), none, none, none] [] w I J R := by
  unfold f_112_63 at h
  refine gs_0 (pc' := 64) (L' := [some (.ref l0), none, none, none]) (st' := [.ref l0]) cd_112_63 rfl rfl ?_
  refine gs_0 (pc' := 66) (L' := [some (.ref l0), none, none, none]) (st' := [.int 10, .ref l0]) cd_112_64 rfl rfl ?_
  obtain ⟨ht, h⟩ := gO_s h
  obtain ⟨x_4, w_1, I_2, J_3, hcl, h⟩ := cI_s h
  refine gs_call (as := [.ref l0, .int 10]) (rest := []) cd_112_66 rfl (by decide) rfl (sm_rv_ok (by decide) ht) (Nat.le_of_ble_eq_true rfl) (Nat.le_of_ble_eq_true rfl) rfl hcl ?_
  refine gs_0 (pc' := if ¬ x_4 = 0 then 81 else 72) (L' := [some (.ref l0), none, none, none]) (st' := []) cd_112_69 rfl rfl ?_
  refine go_ite (fun hc => ?_) (fun hc => ?_)
  · rw [if_pos hc] at h
    exact ok_112_81 h
  · rw [if_neg hc] at h
    refine gs_0 (pc' := 73) (L' := [some (.ref l0), none, none, none]) (st' := [.ref l0]) cd_112_72 rfl rfl ?_
    refine gs_0 (pc' := 75) (L' := [some (.ref l0), none, none, none]) (st' := [.int 11, .ref l0]) cd_112_73 rfl rfl ?_
    obtain ⟨ht, h⟩ := gO_s h
    obtain ⟨x_8, w_5, I_6, J_7, hcl, h⟩ := cI_s h
    refine gs_call (as := [.ref l0, .int 11]) (rest := []) cd_112_75 rfl (by decide) rfl (sm_rv_ok (by decide) ht) (Nat.le_of_ble_eq_true rfl) (Nat.le_of_ble_eq_true rfl) rfl hcl ?_
    refine gs_0 (pc' := if x_8 = 0 then 106 else 81) (L' := [some (.ref l0), none, none, none]) (st' := []) cd_112_78 rfl rfl ?_
    refine go_ite (fun hc => ?_) (fun hc => ?_)
    · rw [if_pos hc] at h
      refine gs_0 (pc' := 107) (L' := [some (.ref l0), none, none, none]) (st' := [.ref l0]) cd_112_106 rfl rfl ?_
      refine gs_0 (pc' := 109) (L' := [some (.ref l0), none, none, none]) (st' := [.int 12, .ref l0]) cd_112_107 rfl rfl ?_
      obtain ⟨ht, h⟩ := gO_s h
      obtain ⟨x_12, w_9, I_10, J_11, hcl, h⟩ := cI_s h
      refine gs_call (as := [.ref l0, .int 12]) (rest := []) cd_112_109 rfl (by decide) rfl (sm_rv_ok (by decide) ht) (Nat.le_of_ble_eq_true rfl) (Nat.le_of_ble_eq_true rfl) rfl hcl ?_
      refine gs_0 (pc' := if x_12 = 0 then 127 else 115) (L' := [some (.ref l0), none, none, none]) (st' := []) cd_112_112 rfl rfl ?_
      refine go_ite (fun hc => ?_) (fun hc => ?_)
      · rw [if_pos hc] at h
        refine gs_0 (pc' := 128) (L' := [some (.ref l0), none, none, none]) (st' := [.ref l0]) cd_112_127 rfl rfl ?_
        refine gs_0 (pc' := 130) (L' := [some (.ref l0), none, none, none]) (st' := [.int 40, .ref l0]) cd_112_128 rfl rfl ?_
        obtain ⟨ht, h⟩ := gO_s h
        obtain ⟨x_16, w_13, I_14, J_15, hcl, h⟩ := cI_s h
        refine gs_call (as := [.ref l0, .int 40]) (rest := []) cd_112_130 rfl (by decide) rfl (sm_rv_ok (by decide) ht) (Nat.le_of_ble_eq_true rfl) (Nat.le_of_ble_eq_true rfl) rfl hcl ?_
        refine gs_0 (pc' := if x_16 = 0 then 153 else 136) (L' := [some (.ref l0), none, none, none]) (st' := []) cd_112_133 rfl rfl ?_
        refine go_ite (fun hc => ?_) (fun hc => ?_)
        · rw [if_pos hc] at h
          refine gs_0 (pc' := 154) (L' := [some (.ref l0), none, none, none]) (st' := [.ref l0]) cd_112_153 rfl rfl ?_
          obtain ⟨ht, h⟩ := gO_s h
          refine gs_gfI cd_112_154 (by decide) (by decide) ht ?_
          refine gs_0 (pc' := 158) (L' := [some (.ref l0), some (.int (I_14 l0 22)), none, none]) (st' := []) cd_112_157 rfl rfl ?_
          obtain ⟨x_17, hx, h⟩ := lt_s_ h
          rw [hx]
          clear hx
          refine gs_0 (pc' := 159) (L' := [some (.ref l0), some (.int x_17), none, none]) (st' := [.ref l0]) cd_112_158 rfl rfl ?_
          obtain ⟨ht, h⟩ := gO_s h
          obtain ⟨x_21, w_18, I_19, J_20, hcl, h⟩ := cI_s h
          refine gs_call (as := [.ref l0]) (rest := []) cd_112_159 rfl (by decide) rfl (sm_rv_ok (by decide) ht) (Nat.le_of_ble_eq_true rfl) (Nat.le_of_ble_eq_true rfl) rfl hcl ?_
          refine gs_0 (pc' := 163) (L' := [some (.ref l0), some (.int x_17), some (.int x_21), none]) (st' := []) cd_112_162 rfl rfl ?_
          refine gs_0 (pc' := 164) (L' := [some (.ref l0), some (.int x_17), some (.int x_21), none]) (st' := [.ref l0]) cd_112_163 rfl rfl ?_
          refine gs_0 (pc' := 166) (L' := [some (.ref l0), some (.int x_17), some (.int x_21), none]) (st' := [.int 40, .ref l0]) cd_112_164 rfl rfl ?_
          obtain ⟨ht, h⟩ := gO_s h
          obtain ⟨x_25, w_22, I_23, J_24, hcl, h⟩ := cI_s h
          refine gs_call (as := [.ref l0, .int 40]) (rest := []) cd_112_166 rfl (by decide) rfl (sm_rv_ok (by decide) ht) (Nat.le_of_ble_eq_true rfl) (Nat.le_of_ble_eq_true rfl) rfl hcl ?_
          refine gs_0 (pc' := if x_25 = 0 then 179 else 172) (L' := [some (.ref l0), some (.int x_17), some (.int x_21), none]) (st' := []) cd_112_169 rfl rfl ?_
          refine go_ite (fun hc => ?_) (fun hc => ?_)
          · rw [if_pos hc] at h
            refine gs_0 (pc' := 180) (L' := [some (.ref l0), some (.int x_17), some (.int x_21), none]) (st' := [.ref l0]) cd_112_179 rfl rfl ?_
            obtain ⟨ht, h⟩ := gO_s h
            refine gs_gfI cd_112_180 (by decide) (by decide) ht ?_
            refine gs_0 (pc' := if (I_23 l0 26) = 0 then 188 else 186) (L' := [some (.ref l0), some (.int x_17), some (.int x_21), none]) (st' := []) cd_112_183 rfl rfl ?_
            refine go_ite (fun hc => ?_) (fun hc => ?_)
            · rw [if_pos hc] at h
              refine gs_0 (pc' := 189) (L' := [some (.ref l0), some (.int x_17), some (.int x_21), none]) (st' := [.ref l0]) cd_112_188 rfl rfl ?_
              refine gs_0 (pc' := 190) (L' := [some (.ref l0), some (.int x_17), some (.int x_21), none]) (st' := [.int x_21, .ref l0]) cd_112_189 rfl rfl ?_
              refine gs_0 (pc' := 191) (L' := [some (.ref l0), some (.int x_17), some (.int x_21), none]) (st' := [.int x_17, .int x_21, .ref l0]) cd_112_190 rfl rfl ?_
              obtain ⟨ht, h⟩ := gO_s h
              obtain ⟨x_29, w_26, I_27, J_28, hcl, h⟩ := cI_s h
              refine gs_call (as := [.ref l0, .int x_21, .int x_17]) (rest := []) cd_112_191 rfl (by decide) rfl (sm_rv_ok (by decide) ht) (Nat.le_of_ble_eq_true rfl) (Nat.le_of_ble_eq_true rfl) rfl hcl ?_
              refine gs_0 (pc' := 195) (L' := [some (.ref l0), some (.int x_17), some (.int x_21), some (.int x_29)]) (st' := []) cd_112_194 rfl rfl ?_
              refine gs_0 (pc' := 196) (L' := [some (.ref l0), some (.int x_17), some (.int x_21), some (.int x_29)]) (st' := [.ref l0]) cd_112_195 rfl rfl ?_
              refine gs_0 (pc' := 197) (L' := [some (.ref l0), some (.int x_17), some (.int x_21), some (.int x_29)]) (st' := [.int 3, .ref l0]) cd_112_196 rfl rfl ?_
              refine gs_0 (pc' := 198) (L' := [some (.ref l0), some (.int x_17), some (.int x_21), some (.int x_29)]) (st' := [.int x_29, .int 3, .ref l0]) cd_112_197 rfl rfl ?_
              obtain ⟨ht, h⟩ := gO_s h
              obtain ⟨w_30, I_31, J_32, hcl, h⟩ := cV_s h
              refine gs_call (as := [.ref l0, .int 3, .int x_29]) (rest := []) cd_112_198 rfl (by decide) rfl (sm_rv_ok (by decide) ht) (Nat.le_of_ble_eq_true rfl) (Nat.le_of_ble_eq_true rfl) rfl hcl ?_
              refine gs_0 (pc' := 202) (L' := [some (.ref l0), some (.int x_17), some (.int x_21), some (.int x_29)]) (st' := [.ref l0]) cd_112_201 rfl rfl ?_
              refine gs_0 (pc' := 203) (L' := [some (.ref l0), some (.int x_17), some (.int x_21), some (.int x_29)]) (st' := [.int x_29, .ref l0]) cd_112_202 rfl rfl ?_
              obtain ⟨ht, h⟩ := gO_s h
              obtain ⟨x_36, w_33, I_34, J_35, hcl, h⟩ := cI_s h
              refine gs_call (as := [.ref l0, .int x_29]) (rest := []) cd_112_203 rfl (by decide) rfl (sm_rv_ok (by decide) ht) (Nat.le_of_ble_eq_true rfl) (Nat.le_of_ble_eq_true rfl) rfl hcl ?_
              cases h
              exact gs_ri cd_112_206 (Or.inl rfl)
            · rw [if_neg hc] at h
              refine gs_0 (pc' := 187) (L' := [some (.ref l0), some (.int x_17), some (.int x_21), none]) (st' := [.int 0]) cd_112_186 rfl rfl ?_
              cases h
              exact gs_ri cd_112_187 (Or.inl rfl)
          · rw [if_neg hc] at h
            refine gs_0 (pc' := 173) (L' := [some (.ref l0), some (.int x_17), some (.int x_21), none]) (st' := [.ref l0]) cd_112_172 rfl rfl ?_
            refine gs_0 (pc' := 174) (L' := [some (.ref l0), some (.int x_17), some (.int x_21), none]) (st' := [.int x_21, .ref l0]) cd_112_173 rfl rfl ?_
            refine gs_0 (pc' := 175) (L' := [some (.ref l0), some (.int x_17), some (.int x_21), none]) (st' := [.int x_17, .int x_21, .ref l0]) cd_112_174 rfl rfl ?_
            obtain ⟨ht, h⟩ := gO_s h
            obtain ⟨x_40, w_37, I_38, J_39, hcl, h⟩ := cI_s h
            refine gs_call (as := [.ref l0, .int x_21, .int x_17]) (rest := []) cd_112_175 rfl (by decide) rfl (sm_rv_ok (by decide) ht) (Nat.le_of_ble_eq_true rfl) (Nat.le_of_ble_eq_true rfl) rfl hcl ?_
            cases h
            exact gs_ri cd_112_178 (Or.inl rfl)
        · rw [if_neg hc] at h
          refine gs_0 (pc' := 137) (L' := [some (.ref l0), none, none, none]) (st' := [.ref l0]) cd_112_136 rfl rfl ?_
          obtain ⟨ht, h⟩ := gO_s h
          obtain ⟨w_41, I_42, J_43, hcl, h⟩ := cV_s h
          refine gs_call (as := [.ref l0]) (rest := []) cd_112_137 rfl (by decide) rfl (sm_rv_ok (by decide) ht) (Nat.le_of_ble_eq_true rfl) (Nat.le_of_ble_eq_true rfl) rfl hcl ?_
          refine gs_0 (pc' := 141) (L' := [some (.ref l0), none, none, none]) (st' := [.ref l0]) cd_112_140 rfl rfl ?_
          obtain ⟨ht, h⟩ := gO_s h
          obtain ⟨x_47, w_44, I_45, J_46, hcl, h⟩ := cI_s h
          refine gs_call (as := [.ref l0]) (rest := []) cd_112_141 rfl (by decide) rfl (sm_rv_ok (by decide) ht) (Nat.le_of_ble_eq_true rfl) (Nat.le_of_ble_eq_true rfl) rfl hcl ?_
          refine gs_0 (pc' := 145) (L' := [some (.ref l0), some (.int x_47), none, none]) (st' := []) cd_112_144 rfl rfl ?_
          refine gs_0 (pc' := 146) (L' := [some (.ref l0), some (.int x_47), none, none]) (st' := [.ref l0]) cd_112_145 rfl rfl ?_
          refine gs_0 (pc' := 148) (L' := [some (.ref l0), some (.int x_47), none, none]) (st' := [.int 41, .ref l0]) cd_112_146 rfl rfl ?_
          obtain ⟨ht, h⟩ := gO_s h
          obtain ⟨w_48, I_49, J_50, hcl, h⟩ := cV_s h
          refine gs_call (as := [.ref l0, .int 41]) (rest := []) cd_112_148 rfl (by decide) rfl (sm_rv_ok (by decide) ht) (Nat.le_of_ble_eq_true rfl) (Nat.le_of_ble_eq_true rfl) rfl hcl ?_
          refine gs_0 (pc' := 152) (L' := [some (.ref l0), some (.int x_47), none, none]) (st' := [.int x_47]) cd_112_151 rfl rfl ?_
          cases h
          exact gs_ri cd_112_152 (Or.inl rfl)
      · rw [if_neg hc] at h
        refine gs_0 (pc' := 116) (L' := [some (.ref l0), none, none, none]) (st' := [.ref l0]) cd_112_115 rfl rfl ?_
        refine gs_0 (pc' := 117) (L' := [some (.ref l0), none, none, none]) (st' := [.int 2, .ref l0]) cd_112_116 rfl rfl ?_
        refine gs_0 (pc' := 118) (L' := [some (.ref l0), none, none, none]) (st' := [.int 0, .int 2, .ref l0]) cd_112_117 rfl rfl ?_
        obtain ⟨ht, h⟩ := gO_s h
        obtain ⟨w_51, I_52, J_53, hcl, h⟩ := cV_s h
        refine gs_call (as := [.ref l0, .int 2, .int 0]) (rest := []) cd_112_118 rfl (by decide) rfl (sm_rv_ok (by decide) ht) (Nat.le_of_ble_eq_true rfl) (Nat.le_of_ble_eq_true rfl) rfl hcl ?_
        refine gs_0 (pc' := 122) (L' := [some (.ref l0), none, none, none]) (st' := [.ref l0]) cd_112_121 rfl rfl ?_
        obtain ⟨ht, h⟩ := gO_s h
        obtain ⟨w_54, I_55, J_56, hcl, h⟩ := cV_s h
        refine gs_call (as := [.ref l0]) (rest := []) cd_112_122 rfl (by decide) rfl (sm_rv_ok (by decide) ht) (Nat.le_of_ble_eq_true rfl) (Nat.le_of_ble_eq_true rfl) rfl hcl ?_
        refine gs_0 (pc' := 126) (L' := [some (.ref l0), none, none, none]) (st' := [.int 3]) cd_112_125 rfl rfl ?_
        cases h
        exact gs_ri cd_112_126 (Or.inl rfl)
    · rw [if_neg hc] at h
      exact ok_112_81 h
noncomputable def f_112_22 (K : Nat → Value) (k : Nat) (d : Nat) : Nat → Int32 → Int32 → aW → aI → aJ → Option aR :=
  match k with
  | 0 => fun _ _ _ _ _ _ => none
  | k + 1 => fun l0 l1 l2 w I J =>
  lt_ (f_112_22 K k d) fun r22 =>
  gO w 6 l0 (
  if (I l0 23) ≤ l2 then
    gO w 6 l0 (
    cV (Cl K d 84 [.ref l0] w I J) fun w_1 I_2 J_3 =>
    gO w_1 6 l0 (
    cV (Cl K d 111 [.ref l0, .int 0, .int l1] w_1 I_2 J_3) fun w_4 I_5 J_6 =>
    some (some (.int 0), w_4, I_5, J_6)))
  else
    gO w 6 l0 (
    gV w l0 1 fun q_7 =>
    gA w 10 20 q_7 l2 (
    lt_ (((10 * l1) + (I q_7 (l2 : Int32).toNatClampNeg)) - 48) fun x_8 =>
    lt_ (l2 + 1) fun x_9 =>
    r22 l0 x_8 x_9 w I J)))
theorem ok_112_22 {K : Nat → Value} {d : Nat} : ∀ {k : Nat} {l0 : Nat} {l1 : Int32} {l2 : Int32} {w : aW} {I : aI} {J : aJ} {R : aR}, f_112_22 K k d l0 l1 l2 w I J = some R → Go K (d + 1) 112 22 [some (.ref l0), some (.int l1), some (.int l2), none] [] w I J R := by
  intro k
  induction k with
  | zero => intro l0 l1 l2 w I J R h; cases h
  | succ k ih =>
    intro l0 l1 l2 w I J R h
    have hr22 : ∀ (l0 : Nat) (l1 : Int32) (l2 : Int32) (w : aW) (I : aI) (J : aJ) (R : aR), f_112_22 K k d l0 l1 l2 w I J = some R → Go K (d + 1) 112 22 [some (.ref l0), some (.int l1), some (.int l2), none] [] w I J R := fun l0 l1 l2 w I J R h => ih h
    rw [f_112_22] at h
    obtain ⟨r22, hx, h⟩ := lt_s_ h
    rw [hx] at hr22
    clear hx ih
    refine gs_0 (pc' := 23) (L' := [some (.ref l0), some (.int l1), some (.int l2), none]) (st' := [.int l2]) cd_112_22 rfl rfl ?_
    refine gs_0 (pc' := 24) (L' := [some (.ref l0), some (.int l1), some (.int l2), none]) (st' := [.ref l0, .int l2]) cd_112_23 rfl rfl ?_
    obtain ⟨ht, h⟩ := gO_s h
    refine gs_gfI cd_112_24 (by decide) (by decide) ht ?_
    refine gs_0 (pc' := if (I l0 23) ≤ l2 then 51 else 30) (L' := [some (.ref l0), some (.int l1), some (.int l2), none]) (st' := []) cd_112_27 rfl rfl ?_
    refine go_ite (fun hc => ?_) (fun hc => ?_)
    · rw [if_pos hc] at h
      refine gs_0 (pc' := 52) (L' := [some (.ref l0), some (.int l1), some (.int l2), none]) (st' := [.ref l0]) cd_112_51 rfl rfl ?_
      obtain ⟨ht, h⟩ := gO_s h
      obtain ⟨w_1, I_2, J_3, hcl, h⟩ := cV_s h
      refine gs_call (as := [.ref l0]) (rest := []) cd_112_52 rfl (by decide) rfl (sm_rv_ok (by decide) ht) (Nat.le_of_ble_eq_true rfl) (Nat.le_of_ble_eq_true rfl) rfl hcl ?_
      refine gs_0 (pc' := 56) (L' := [some (.ref l0), some (.int l1), some (.int l2), none]) (st' := [.ref l0]) cd_112_55 rfl rfl ?_
      refine gs_0 (pc' := 57) (L' := [some (.ref l0), some (.int l1), some (.int l2), none]) (st' := [.int 0, .ref l0]) cd_112_56 rfl rfl ?_
      refine gs_0 (pc' := 58) (L' := [some (.ref l0), some (.int l1), some (.int l2), none]) (st' := [.int l1, .int 0, .ref l0]) cd_112_57 rfl rfl ?_
      obtain ⟨ht, h⟩ := gO_s h
      obtain ⟨w_4, I_5, J_6, hcl, h⟩ := cV_s h
      refine gs_call (as := [.ref l0, .int 0, .int l1]) (rest := []) cd_112_58 rfl (by decide) rfl (sm_rv_ok (by decide) ht) (Nat.le_of_ble_eq_true rfl) (Nat.le_of_ble_eq_true rfl) rfl hcl ?_
      refine gs_0 (pc' := 62) (L' := [some (.ref l0), some (.int l1), some (.int l2), none]) (st' := [.int 0]) cd_112_61 rfl rfl ?_
      cases h
      exact gs_ri cd_112_62 (Or.inl rfl)
    · rw [if_neg hc] at h
      refine gs_0 (pc' := 32) (L' := [some (.ref l0), some (.int l1), some (.int l2), none]) (st' := [.int 10]) cd_112_30 rfl rfl ?_
      refine gs_0 (pc' := 33) (L' := [some (.ref l0), some (.int l1), some (.int l2), none]) (st' := [.int l1, .int 10]) cd_112_32 rfl rfl ?_
      refine gs_0 (pc' := 34) (L' := [some (.ref l0), some (.int l1), some (.int l2), none]) (st' := [.int (10 * l1)]) cd_112_33 rfl rfl ?_
      refine gs_0 (pc' := 35) (L' := [some (.ref l0), some (.int l1), some (.int l2), none]) (st' := [.ref l0, .int (10 * l1)]) cd_112_34 rfl rfl ?_
      obtain ⟨ht, h⟩ := gO_s h
      obtain ⟨q_7, hv, h⟩ := gV_s h
      refine gs_gfR cd_112_35 (by decide) ht hv ?_
      refine gs_0 (pc' := 39) (L' := [some (.ref l0), some (.int l1), some (.int l2), none]) (st' := [.int l2, .ref q_7, .int (10 * l1)]) cd_112_38 rfl rfl ?_
      obtain ⟨ht, h⟩ := gA_s h
      refine gs_iald cd_112_39 ht ?_
      refine gs_0 (pc' := 41) (L' := [some (.ref l0), some (.int l1), some (.int l2), none]) (st' := [.int ((10 * l1) + (I q_7 (l2 : Int32).toNatClampNeg))]) cd_112_40 rfl rfl ?_
      refine gs_0 (pc' := 43) (L' := [some (.ref l0), some (.int l1), some (.int l2), none]) (st' := [.int 48, .int ((10 * l1) + (I q_7 (l2 : Int32).toNatClampNeg))]) cd_112_41 rfl rfl ?_
      refine gs_0 (pc' := 44) (L' := [some (.ref l0), some (.int l1), some (.int l2), none]) (st' := [.int (((10 * l1) + (I q_7 (l2 : Int32).toNatClampNeg)) - 48)]) cd_112_43 rfl rfl ?_
      refine gs_0 (pc' := 45) (L' := [some (.ref l0), some (.int (((10 * l1) + (I q_7 (l2 : Int32).toNatClampNeg)) - 48)), some (.int l2), none]) (st' := []) cd_112_44 rfl rfl ?_
      obtain ⟨x_8, hx, h⟩ := lt_s_ h
      rw [hx]
      clear hx
      refine gs_0 (pc' := 48) (L' := [some (.ref l0), some (.int x_8), some (.int (l2 + 1)), none]) (st' := []) cd_112_45 rfl rfl ?_
      obtain ⟨x_9, hx, h⟩ := lt_s_ h
      rw [hx]
      clear hx
      refine gs_0 (pc' := 22) (L' := [some (.ref l0), some (.int x_8), some (.int x_9), none]) (st' := []) cd_112_48 rfl rfl ?_
      exact hr22 l0 x_8 x_9 _ _ _ _ h
noncomputable def f_112 (K : Nat → Value) (k d : Nat) (l0 : Nat) (w : aW) (I : aI) (J : aJ) : Option aR :=
  gO w 6 l0 (
  if ¬ (I l0 26) = 0 then
    f_112_63 K k d l0 w I J
  else
    gO w 6 l0 (
    if ¬ (I l0 24) = 3 then
      f_112_63 K k d l0 w I J
    else
      gO w 6 l0 (
      lt_ (I l0 22) fun x_1 =>
      f_112_22 K k d l0 0 x_1 w I J)))
theorem ok_112 {K : Nat → Value} {k d : Nat} {l0 : Nat} {w : aW} {I : aI} {J : aJ} {R : aR} (h : f_112 K k d l0 w I J = some R) : Go K (d + 1) 112 0 [some (.ref l0), none, none, none] [] w I J R := by
  unfold f_112 at h
  refine gs_0 (pc' := 1) (L' := [some (.ref l0), none, none, none]) (st' := [.ref l0]) cd_112_0 rfl rfl ?_
  obtain ⟨ht, h⟩ := gO_s h
  refine gs_gfI cd_112_1 (by decide) (by decide) ht ?_
  refine gs_0 (pc' := if ¬ (I l0 26) = 0 then 63 else 7) (L' := [some (.ref l0), none, none, none]) (st' := []) cd_112_4 rfl rfl ?_
  refine go_ite (fun hc => ?_) (fun hc => ?_)
  · rw [if_pos hc] at h
    exact ok_112_63 h
  · rw [if_neg hc] at h
    refine gs_0 (pc' := 8) (L' := [some (.ref l0), none, none, none]) (st' := [.ref l0]) cd_112_7 rfl rfl ?_
    obtain ⟨ht, h⟩ := gO_s h
    refine gs_gfI cd_112_8 (by decide) (by decide) ht ?_
    refine gs_0 (pc' := 12) (L' := [some (.ref l0), none, none, none]) (st' := [.int 3, .int (I l0 24)]) cd_112_11 rfl rfl ?_
    refine gs_0 (pc' := if ¬ (I l0 24) = 3 then 63 else 15) (L' := [some (.ref l0), none, none, none]) (st' := []) cd_112_12 rfl rfl ?_
    refine go_ite (fun hc => ?_) (fun hc => ?_)
    · rw [if_pos hc] at h
      exact ok_112_63 h
    · rw [if_neg hc] at h
      refine gs_0 (pc' := 16) (L' := [some (.ref l0), none, none, none]) (st' := [.int 0]) cd_112_15 rfl rfl ?_
      refine gs_0 (pc' := 17) (L' := [some (.ref l0), some (.int 0), none, none]) (st' := []) cd_112_16 rfl rfl ?_
      refine gs_0 (pc' := 18) (L' := [some (.ref l0), some (.int 0), none, none]) (st' := [.ref l0]) cd_112_17 rfl rfl ?_
      obtain ⟨ht, h⟩ := gO_s h
      refine gs_gfI cd_112_18 (by decide) (by decide) ht ?_
      refine gs_0 (pc' := 22) (L' := [some (.ref l0), some (.int 0), some (.int (I l0 22)), none]) (st' := []) cd_112_21 rfl rfl ?_
      obtain ⟨x_1, hx, h⟩ := lt_s_ h
      rw [hx]
      clear hx
      exact ok_112_22 h
theorem cl_112 {K : Nat → Value} {k d : Nat} {l0 : Nat} {w : aW} {I : aI} {J : aJ} {R : aR} (h : f_112 K k d l0 w I J = some R) : Cl K (d + 1) 112 [.ref l0] w I J = some R := Cl_of (ok_112 h)
/-! ProvedMachineModel.call(II)I -/
set_option maxRecDepth 20000 in
theorem gl_113 : gcd.lookup 113 = some gw_113 := rfl
set_option maxRecDepth 20000 in
theorem cd_113_0 : sm_cd 113 0 = some (.bipush 6, 2, 0, 0, 0, 0, 0, 6, 0) := cd_of gl_113 rfl
set_option maxRecDepth 20000 in
theorem cd_113_2 : sm_cd 113 2 = some (.newarray .int, 2, 10, 0, 0, 0, 0, 0, 0) := cd_of gl_113 rfl
set_option maxRecDepth 20000 in
theorem cd_113_4 : sm_cd 113 4 = some (.astore_n 3, 1, 3, 0, 0, 0, 0, 0, 0) := cd_of gl_113 rfl
set_option maxRecDepth 20000 in
theorem cd_113_5 : sm_cd 113 5 = some (.iconst 0, 1, 0, 0, 0, 0, 0, 0, 0) := cd_of gl_113 rfl
set_option maxRecDepth 20000 in
theorem cd_113_6 : sm_cd 113 6 = some (.istore 4, 2, 4, 0, 0, 0, 0, 0, 0) := cd_of gl_113 rfl
set_option maxRecDepth 20000 in
theorem cd_113_8 : sm_cd 113 8 = some (.aload_n 0, 1, 0, 0, 0, 0, 0, 0, 0) := cd_of gl_113 rfl
set_option maxRecDepth 20000 in
theorem cd_113_9 : sm_cd 113 9 = some (.invokevirtual 197, 3, 84, 0, 0, 1, 6, 0, 0) := cd_of gl_113 rfl
set_option maxRecDepth 20000 in
theorem cd_113_12 : sm_cd 113 12 = some (.aload_n 0, 1, 0, 0, 0, 0, 0, 0, 0) := cd_of gl_113 rfl
set_option maxRecDepth 20000 in
theorem cd_113_13 : sm_cd 113 13 = some (.bipush 41, 2, 0, 0, 0, 0, 0, 41, 0) := cd_of gl_113 rfl
set_option maxRecDepth 20000 in
theorem cd_113_15 : sm_cd 113 15 = some (.invokevirtual 200, 3, 94, 0, 1, 2, 6, 0, 0) := cd_of gl_113 rfl
set_option maxRecDepth 20000 in
theorem cd_113_18 : sm_cd 113 18 = some (.ifCond .ne 7, 3, 25, 0, 0, 0, 0, 0, 0) := cd_of gl_113 rfl
set_option maxRecDepth 20000 in
theorem cd_113_21 : sm_cd 113 21 = some (.iconst 1, 1, 0, 0, 0, 0, 0, 1, 0) := cd_of gl_113 rfl
set_option maxRecDepth 20000 in
theorem cd_113_22 : sm_cd 113 22 = some (.goto 4, 3, 26, 0, 0, 0, 0, 0, 0) := cd_of gl_113 rfl
set_option maxRecDepth 20000 in
theorem cd_113_25 : sm_cd 113 25 = some (.iconst 0, 1, 0, 0, 0, 0, 0, 0, 0) := cd_of gl_113 rfl
set_option maxRecDepth 20000 in
theorem cd_113_26 : sm_cd 113 26 = some (.istore 5, 2, 5, 0, 0, 0, 0, 0, 0) := cd_of gl_113 rfl
set_option maxRecDepth 20000 in
theorem cd_113_28 : sm_cd 113 28 = some (.iload 5, 2, 5, 0, 0, 0, 0, 0, 0) := cd_of gl_113 rfl
set_option maxRecDepth 20000 in
theorem cd_113_30 : sm_cd 113 30 = some (.ifCond .eq 45, 3, 75, 0, 0, 0, 0, 0, 0) := cd_of gl_113 rfl
set_option maxRecDepth 20000 in
theorem cd_113_33 : sm_cd 113 33 = some (.aload_n 0, 1, 0, 0, 0, 0, 0, 0, 0) := cd_of gl_113 rfl
set_option maxRecDepth 20000 in
theorem cd_113_34 : sm_cd 113 34 = some (.invokevirtual 241, 3, 101, 0, 0, 4, 6, 0, 0) := cd_of gl_113 rfl
set_option maxRecDepth 20000 in
theorem cd_113_37 : sm_cd 113 37 = some (.istore 6, 2, 6, 0, 0, 0, 0, 0, 0) := cd_of gl_113 rfl
set_option maxRecDepth 20000 in
theorem cd_113_39 : sm_cd 113 39 = some (.iload 4, 2, 4, 0, 0, 0, 0, 0, 0) := cd_of gl_113 rfl
set_option maxRecDepth 20000 in
theorem cd_113_41 : sm_cd 113 41 = some (.bipush 6, 2, 0, 0, 0, 0, 0, 6, 0) := cd_of gl_113 rfl
set_option maxRecDepth 20000 in
theorem cd_113_43 : sm_cd 113 43 = some (.if_icmp .ge 9, 3, 52, 0, 0, 0, 0, 0, 0) := cd_of gl_113 rfl
set_option maxRecDepth 20000 in
theorem cd_113_46 : sm_cd 113 46 = some (.aload_n 3, 1, 3, 0, 0, 0, 0, 0, 0) := cd_of gl_113 rfl
set_option maxRecDepth 20000 in
theorem cd_113_47 : sm_cd 113 47 = some (.iload 4, 2, 4, 0, 0, 0, 0, 0, 0) := cd_of gl_113 rfl
set_option maxRecDepth 20000 in
theorem cd_113_49 : sm_cd 113 49 = some (.iload 6, 2, 6, 0, 0, 0, 0, 0, 0) := cd_of gl_113 rfl
set_option maxRecDepth 20000 in
theorem cd_113_51 : sm_cd 113 51 = some (.iastore, 1, 0, 0, 0, 0, 0, 0, 0) := cd_of gl_113 rfl
set_option maxRecDepth 20000 in
theorem cd_113_52 : sm_cd 113 52 = some (.iinc 4 1, 3, 4, 0, 0, 0, 0, 1, 0) := cd_of gl_113 rfl
set_option maxRecDepth 20000 in
theorem cd_113_55 : sm_cd 113 55 = some (.aload_n 0, 1, 0, 0, 0, 0, 0, 0, 0) := cd_of gl_113 rfl
set_option maxRecDepth 20000 in
theorem cd_113_56 : sm_cd 113 56 = some (.bipush 44, 2, 0, 0, 0, 0, 0, 44, 0) := cd_of gl_113 rfl
set_option maxRecDepth 20000 in
theorem cd_113_58 : sm_cd 113 58 = some (.invokevirtual 200, 3, 94, 0, 1, 2, 6, 0, 0) := cd_of gl_113 rfl
set_option maxRecDepth 20000 in
theorem cd_113_61 : sm_cd 113 61 = some (.istore 5, 2, 5, 0, 0, 0, 0, 0, 0) := cd_of gl_113 rfl
set_option maxRecDepth 20000 in
theorem cd_113_63 : sm_cd 113 63 = some (.iload 5, 2, 5, 0, 0, 0, 0, 0, 0) := cd_of gl_113 rfl
set_option maxRecDepth 20000 in
theorem cd_113_65 : sm_cd 113 65 = some (.ifCond .eq 7, 3, 72, 0, 0, 0, 0, 0, 0) := cd_of gl_113 rfl
set_option maxRecDepth 20000 in
theorem cd_113_68 : sm_cd 113 68 = some (.aload_n 0, 1, 0, 0, 0, 0, 0, 0, 0) := cd_of gl_113 rfl
set_option maxRecDepth 20000 in
theorem cd_113_69 : sm_cd 113 69 = some (.invokevirtual 197, 3, 84, 0, 0, 1, 6, 0, 0) := cd_of gl_113 rfl
set_option maxRecDepth 20000 in
theorem cd_113_72 : sm_cd 113 72 = some (.goto (-44), 3, 28, 0, 0, 0, 0, 0, 0) := cd_of gl_113 rfl
set_option maxRecDepth 20000 in
theorem cd_113_75 : sm_cd 113 75 = some (.aload_n 0, 1, 0, 0, 0, 0, 0, 0, 0) := cd_of gl_113 rfl
set_option maxRecDepth 20000 in
theorem cd_113_76 : sm_cd 113 76 = some (.bipush 41, 2, 0, 0, 0, 0, 0, 41, 0) := cd_of gl_113 rfl
set_option maxRecDepth 20000 in
theorem cd_113_78 : sm_cd 113 78 = some (.invokevirtual 275, 3, 93, 0, 1, 2, 6, 0, 0) := cd_of gl_113 rfl
set_option maxRecDepth 20000 in
theorem cd_113_81 : sm_cd 113 81 = some (.aload_n 0, 1, 0, 0, 0, 0, 0, 0, 0) := cd_of gl_113 rfl
set_option maxRecDepth 20000 in
theorem cd_113_82 : sm_cd 113 82 = some (.getfield 216, 3, 6, 30, 0, 0, 0, 0, 0) := cd_of gl_113 rfl
set_option maxRecDepth 20000 in
theorem cd_113_85 : sm_cd 113 85 = some (.istore 6, 2, 6, 0, 0, 0, 0, 0, 0) := cd_of gl_113 rfl
set_option maxRecDepth 20000 in
theorem cd_113_87 : sm_cd 113 87 = some (.iload 6, 2, 6, 0, 0, 0, 0, 0, 0) := cd_of gl_113 rfl
set_option maxRecDepth 20000 in
theorem cd_113_89 : sm_cd 113 89 = some (.ifCond .lt 20, 3, 109, 0, 0, 0, 0, 0, 0) := cd_of gl_113 rfl
set_option maxRecDepth 20000 in
theorem cd_113_92 : sm_cd 113 92 = some (.aload_n 0, 1, 0, 0, 0, 0, 0, 0, 0) := cd_of gl_113 rfl
set_option maxRecDepth 20000 in
theorem cd_113_93 : sm_cd 113 93 = some (.getfield 20, 3, 6, 6, 2, 0, 0, 0, 0) := cd_of gl_113 rfl
set_option maxRecDepth 20000 in
theorem cd_113_96 : sm_cd 113 96 = some (.iload 6, 2, 6, 0, 0, 0, 0, 0, 0) := cd_of gl_113 rfl
set_option maxRecDepth 20000 in
theorem cd_113_98 : sm_cd 113 98 = some (.iaload, 1, 0, 0, 0, 0, 0, 0, 0) := cd_of gl_113 rfl
set_option maxRecDepth 20000 in
theorem cd_113_99 : sm_cd 113 99 = some (.iload_n 1, 1, 1, 0, 0, 0, 0, 0, 0) := cd_of gl_113 rfl
set_option maxRecDepth 20000 in
theorem cd_113_100 : sm_cd 113 100 = some (.if_icmp .eq 9, 3, 109, 0, 0, 0, 0, 0, 0) := cd_of gl_113 rfl
set_option maxRecDepth 20000 in
theorem cd_113_103 : sm_cd 113 103 = some (.iinc 6 (-1), 3, 6, 0, 0, 0, 0, (-1), 0) := cd_of gl_113 rfl
set_option maxRecDepth 20000 in
theorem cd_113_106 : sm_cd 113 106 = some (.goto (-19), 3, 87, 0, 0, 0, 0, 0, 0) := cd_of gl_113 rfl
set_option maxRecDepth 20000 in
theorem cd_113_109 : sm_cd 113 109 = some (.aload_n 0, 1, 0, 0, 0, 0, 0, 0, 0) := cd_of gl_113 rfl
set_option maxRecDepth 20000 in
theorem cd_113_110 : sm_cd 113 110 = some (.iload 6, 2, 6, 0, 0, 0, 0, 0, 0) := cd_of gl_113 rfl
set_option maxRecDepth 20000 in
theorem cd_113_112 : sm_cd 113 112 = some (.ifCond .lt 19, 3, 131, 0, 0, 0, 0, 0, 0) := cd_of gl_113 rfl
set_option maxRecDepth 20000 in
theorem cd_113_115 : sm_cd 113 115 = some (.iload 4, 2, 4, 0, 0, 0, 0, 0, 0) := cd_of gl_113 rfl
set_option maxRecDepth 20000 in
theorem cd_113_117 : sm_cd 113 117 = some (.aload_n 0, 1, 0, 0, 0, 0, 0, 0, 0) := cd_of gl_113 rfl
set_option maxRecDepth 20000 in
theorem cd_113_118 : sm_cd 113 118 = some (.getfield 26, 3, 6, 8, 2, 0, 0, 0, 0) := cd_of gl_113 rfl
set_option maxRecDepth 20000 in
theorem cd_113_121 : sm_cd 113 121 = some (.iload 6, 2, 6, 0, 0, 0, 0, 0, 0) := cd_of gl_113 rfl
set_option maxRecDepth 20000 in
theorem cd_113_123 : sm_cd 113 123 = some (.iaload, 1, 0, 0, 0, 0, 0, 0, 0) := cd_of gl_113 rfl
set_option maxRecDepth 20000 in
theorem cd_113_124 : sm_cd 113 124 = some (.if_icmp .ne 7, 3, 131, 0, 0, 0, 0, 0, 0) := cd_of gl_113 rfl
set_option maxRecDepth 20000 in
theorem cd_113_127 : sm_cd 113 127 = some (.iconst 1, 1, 0, 0, 0, 0, 0, 1, 0) := cd_of gl_113 rfl
set_option maxRecDepth 20000 in
theorem cd_113_128 : sm_cd 113 128 = some (.goto 4, 3, 132, 0, 0, 0, 0, 0, 0) := cd_of gl_113 rfl
set_option maxRecDepth 20000 in
theorem cd_113_131 : sm_cd 113 131 = some (.iconst 0, 1, 0, 0, 0, 0, 0, 0, 0) := cd_of gl_113 rfl
set_option maxRecDepth 20000 in
theorem cd_113_132 : sm_cd 113 132 = some (.iload_n 2, 1, 2, 0, 0, 0, 0, 0, 0) := cd_of gl_113 rfl
set_option maxRecDepth 20000 in
theorem cd_113_133 : sm_cd 113 133 = some (.invokevirtual 221, 3, 92, 0, 2, 3, 6, 0, 0) := cd_of gl_113 rfl
set_option maxRecDepth 20000 in
theorem cd_113_136 : sm_cd 113 136 = some (.iload 6, 2, 6, 0, 0, 0, 0, 0, 0) := cd_of gl_113 rfl
set_option maxRecDepth 20000 in
theorem cd_113_138 : sm_cd 113 138 = some (.ifCond .ge 5, 3, 143, 0, 0, 0, 0, 0, 0) := cd_of gl_113 rfl
set_option maxRecDepth 20000 in
theorem cd_113_141 : sm_cd 113 141 = some (.iconst 0, 1, 0, 0, 0, 0, 0, 0, 0) := cd_of gl_113 rfl
set_option maxRecDepth 20000 in
theorem cd_113_142 : sm_cd 113 142 = some (.ireturn, 1, 0, 0, 1, 0, 0, 0, 0) := cd_of gl_113 rfl
set_option maxRecDepth 20000 in
theorem cd_113_143 : sm_cd 113 143 = some (.iconst 1, 1, 0, 0, 0, 0, 0, 1, 0) := cd_of gl_113 rfl
set_option maxRecDepth 20000 in
theorem cd_113_144 : sm_cd 113 144 = some (.istore 7, 2, 7, 0, 0, 0, 0, 0, 0) := cd_of gl_113 rfl
set_option maxRecDepth 20000 in
theorem cd_113_146 : sm_cd 113 146 = some (.iconst 0, 1, 0, 0, 0, 0, 0, 0, 0) := cd_of gl_113 rfl
set_option maxRecDepth 20000 in
theorem cd_113_147 : sm_cd 113 147 = some (.istore 8, 2, 8, 0, 0, 0, 0, 0, 0) := cd_of gl_113 rfl
set_option maxRecDepth 20000 in
theorem cd_113_149 : sm_cd 113 149 = some (.iload 8, 2, 8, 0, 0, 0, 0, 0, 0) := cd_of gl_113 rfl
set_option maxRecDepth 20000 in
theorem cd_113_151 : sm_cd 113 151 = some (.iload 4, 2, 4, 0, 0, 0, 0, 0, 0) := cd_of gl_113 rfl
set_option maxRecDepth 20000 in
theorem cd_113_153 : sm_cd 113 153 = some (.if_icmp .ge 72, 3, 225, 0, 0, 0, 0, 0, 0) := cd_of gl_113 rfl
set_option maxRecDepth 20000 in
theorem cd_113_156 : sm_cd 113 156 = some (.iload 8, 2, 8, 0, 0, 0, 0, 0, 0) := cd_of gl_113 rfl
set_option maxRecDepth 20000 in
theorem cd_113_158 : sm_cd 113 158 = some (.aload_n 0, 1, 0, 0, 0, 0, 0, 0, 0) := cd_of gl_113 rfl
set_option maxRecDepth 20000 in
theorem cd_113_159 : sm_cd 113 159 = some (.getfield 29, 3, 6, 9, 2, 0, 0, 0, 0) := cd_of gl_113 rfl
set_option maxRecDepth 20000 in
theorem cd_113_162 : sm_cd 113 162 = some (.iload 6, 2, 6, 0, 0, 0, 0, 0, 0) := cd_of gl_113 rfl
set_option maxRecDepth 20000 in
theorem cd_113_164 : sm_cd 113 164 = some (.iaload, 1, 0, 0, 0, 0, 0, 0, 0) := cd_of gl_113 rfl
set_option maxRecDepth 20000 in
theorem cd_113_165 : sm_cd 113 165 = some (.if_icmp .ge 60, 3, 225, 0, 0, 0, 0, 0, 0) := cd_of gl_113 rfl
set_option maxRecDepth 20000 in
theorem cd_113_168 : sm_cd 113 168 = some (.iload 8, 2, 8, 0, 0, 0, 0, 0, 0) := cd_of gl_113 rfl
set_option maxRecDepth 20000 in
theorem cd_113_170 : sm_cd 113 170 = some (.bipush 6, 2, 0, 0, 0, 0, 0, 6, 0) := cd_of gl_113 rfl
set_option maxRecDepth 20000 in
theorem cd_113_172 : sm_cd 113 172 = some (.if_icmp .ge 53, 3, 225, 0, 0, 0, 0, 0, 0) := cd_of gl_113 rfl
set_option maxRecDepth 20000 in
theorem cd_113_175 : sm_cd 113 175 = some (.iload 7, 2, 7, 0, 0, 0, 0, 0, 0) := cd_of gl_113 rfl
set_option maxRecDepth 20000 in
theorem cd_113_177 : sm_cd 113 177 = some (.ifCond .eq 39, 3, 216, 0, 0, 0, 0, 0, 0) := cd_of gl_113 rfl
set_option maxRecDepth 20000 in
theorem cd_113_180 : sm_cd 113 180 = some (.iload 8, 2, 8, 0, 0, 0, 0, 0, 0) := cd_of gl_113 rfl
set_option maxRecDepth 20000 in
theorem cd_113_182 : sm_cd 113 182 = some (.aload_n 0, 1, 0, 0, 0, 0, 0, 0, 0) := cd_of gl_113 rfl
set_option maxRecDepth 20000 in
theorem cd_113_183 : sm_cd 113 183 = some (.getfield 26, 3, 6, 8, 2, 0, 0, 0, 0) := cd_of gl_113 rfl
set_option maxRecDepth 20000 in
theorem cd_113_186 : sm_cd 113 186 = some (.iload 6, 2, 6, 0, 0, 0, 0, 0, 0) := cd_of gl_113 rfl
set_option maxRecDepth 20000 in
theorem cd_113_188 : sm_cd 113 188 = some (.iaload, 1, 0, 0, 0, 0, 0, 0, 0) := cd_of gl_113 rfl
set_option maxRecDepth 20000 in
theorem cd_113_189 : sm_cd 113 189 = some (.if_icmp .ge 23, 3, 212, 0, 0, 0, 0, 0, 0) := cd_of gl_113 rfl
set_option maxRecDepth 20000 in
theorem cd_113_192 : sm_cd 113 192 = some (.aload_n 3, 1, 3, 0, 0, 0, 0, 0, 0) := cd_of gl_113 rfl
set_option maxRecDepth 20000 in
theorem cd_113_193 : sm_cd 113 193 = some (.iload 8, 2, 8, 0, 0, 0, 0, 0, 0) := cd_of gl_113 rfl
set_option maxRecDepth 20000 in
theorem cd_113_195 : sm_cd 113 195 = some (.iaload, 1, 0, 0, 0, 0, 0, 0, 0) := cd_of gl_113 rfl
set_option maxRecDepth 20000 in
theorem cd_113_196 : sm_cd 113 196 = some (.aload_n 0, 1, 0, 0, 0, 0, 0, 0, 0) := cd_of gl_113 rfl
set_option maxRecDepth 20000 in
theorem cd_113_197 : sm_cd 113 197 = some (.getfield 38, 3, 6, 12, 2, 0, 0, 0, 0) := cd_of gl_113 rfl
set_option maxRecDepth 20000 in
theorem cd_113_200 : sm_cd 113 200 = some (.bipush 6, 2, 0, 0, 0, 0, 0, 6, 0) := cd_of gl_113 rfl
set_option maxRecDepth 20000 in
theorem cd_113_202 : sm_cd 113 202 = some (.iload 6, 2, 6, 0, 0, 0, 0, 0, 0) := cd_of gl_113 rfl
set_option maxRecDepth 20000 in
theorem cd_113_204 : sm_cd 113 204 = some (.imul, 1, 0, 0, 0, 0, 0, 0, 0) := cd_of gl_113 rfl
set_option maxRecDepth 20000 in
theorem cd_113_205 : sm_cd 113 205 = some (.iload 8, 2, 8, 0, 0, 0, 0, 0, 0) := cd_of gl_113 rfl
set_option maxRecDepth 20000 in
theorem cd_113_207 : sm_cd 113 207 = some (.iadd, 1, 0, 0, 0, 0, 0, 0, 0) := cd_of gl_113 rfl
set_option maxRecDepth 20000 in
theorem cd_113_208 : sm_cd 113 208 = some (.iaload, 1, 0, 0, 0, 0, 0, 0, 0) := cd_of gl_113 rfl
set_option maxRecDepth 20000 in
theorem cd_113_209 : sm_cd 113 209 = some (.if_icmp .ne 7, 3, 216, 0, 0, 0, 0, 0, 0) := cd_of gl_113 rfl
set_option maxRecDepth 20000 in
theorem cd_113_212 : sm_cd 113 212 = some (.iconst 1, 1, 0, 0, 0, 0, 0, 1, 0) := cd_of gl_113 rfl
set_option maxRecDepth 20000 in
theorem cd_113_213 : sm_cd 113 213 = some (.goto 4, 3, 217, 0, 0, 0, 0, 0, 0) := cd_of gl_113 rfl
set_option maxRecDepth 20000 in
theorem cd_113_216 : sm_cd 113 216 = some (.iconst 0, 1, 0, 0, 0, 0, 0, 0, 0) := cd_of gl_113 rfl
set_option maxRecDepth 20000 in
theorem cd_113_217 : sm_cd 113 217 = some (.istore 7, 2, 7, 0, 0, 0, 0, 0, 0) := cd_of gl_113 rfl
set_option maxRecDepth 20000 in
theorem cd_113_219 : sm_cd 113 219 = some (.iinc 8 1, 3, 8, 0, 0, 0, 0, 1, 0) := cd_of gl_113 rfl
set_option maxRecDepth 20000 in
theorem cd_113_222 : sm_cd 113 222 = some (.goto (-73), 3, 149, 0, 0, 0, 0, 0, 0) := cd_of gl_113 rfl
set_option maxRecDepth 20000 in
theorem cd_113_225 : sm_cd 113 225 = some (.aload_n 0, 1, 0, 0, 0, 0, 0, 0, 0) := cd_of gl_113 rfl
set_option maxRecDepth 20000 in
theorem cd_113_226 : sm_cd 113 226 = some (.iload 7, 2, 7, 0, 0, 0, 0, 0, 0) := cd_of gl_113 rfl
set_option maxRecDepth 20000 in
theorem cd_113_228 : sm_cd 113 228 = some (.iload_n 2, 1, 2, 0, 0, 0, 0, 0, 0) := cd_of gl_113 rfl
set_option maxRecDepth 20000 in
theorem cd_113_229 : sm_cd 113 229 = some (.invokevirtual 244, 3, 110, 0, 2, 3, 6, 0, 0) := cd_of gl_113 rfl
set_option maxRecDepth 20000 in
theorem cd_113_232 : sm_cd 113 232 = some (.aload_n 0, 1, 0, 0, 0, 0, 0, 0, 0) := cd_of gl_113 rfl
set_option maxRecDepth 20000 in
theorem cd_113_233 : sm_cd 113 233 = some (.iconst 4, 1, 0, 0, 0, 0, 0, 4, 0) := cd_of gl_113 rfl
set_option maxRecDepth 20000 in
theorem cd_113_234 : sm_cd 113 234 = some (.iload 6, 2, 6, 0, 0, 0, 0, 0, 0) := cd_of gl_113 rfl
set_option maxRecDepth 20000 in
theorem cd_113_236 : sm_cd 113 236 = some (.invokevirtual 247, 3, 111, 0, 2, 3, 6, 0, 0) := cd_of gl_113 rfl
set_option maxRecDepth 20000 in
theorem cd_113_239 : sm_cd 113 239 = some (.aload_n 0, 1, 0, 0, 0, 0, 0, 0, 0) := cd_of gl_113 rfl
set_option maxRecDepth 20000 in
theorem cd_113_240 : sm_cd 113 240 = some (.getfield 32, 3, 6, 10, 2, 0, 0, 0, 0) := cd_of gl_113 rfl
set_option maxRecDepth 20000 in
theorem cd_113_243 : sm_cd 113 243 = some (.iload 6, 2, 6, 0, 0, 0, 0, 0, 0) := cd_of gl_113 rfl
set_option maxRecDepth 20000 in
theorem cd_113_245 : sm_cd 113 245 = some (.iaload, 1, 0, 0, 0, 0, 0, 0, 0) := cd_of gl_113 rfl
set_option maxRecDepth 20000 in
theorem cd_113_246 : sm_cd 113 246 = some (.ireturn, 1, 0, 0, 1, 0, 0, 0, 0) := cd_of gl_113 rfl
noncomputable def f_113_225 (K : Nat → Value) (k d : Nat) (l0 : Nat) (l1 : Int32) (l2 : Int32) (l3 : Nat) (l4 : Int32) (l5 : Int32) (l6 : Int32) (l7 : Int32) (l8 : Int32) (w : aW) (I : aI) (J : aJ) : Option aR :=
  gO w 6 l0 (
  cV (Cl K d 110 [.ref l0, .int l7, .int l2] w I J) fun w_1 I_2 J_3 =>
  gO w_1 6 l0 (
  cV (Cl K d 111 [.ref l0, .int 4, .int l6] w_1 I_2 J_3) fun w_4 I_5 J_6 =>
  gO w_4 6 l0 (
  gV w_4 l0 10 fun q_7 =>
  gA w_4 10 20 q_7 l6 (
  some (some (.int (I_5 q_7 (l6 : Int32).toNatClampNeg)), w_4, I_5, J_6)))))
theorem ok_113_225 {K : Nat → Value} {k d : Nat} {l0 : Nat} {l1 : Int32} {l2 : Int32} {l3 : Nat} {l4 : Int32} {l5 : Int32} {l6 : Int32} {l7 : Int32} {l8 : Int32} {w : aW} {I : aI} {J : aJ} {R : aR} (h : f_113_225 K k d l0 l1 l2 l3 l4 l5 l6 l7 l8 w I J = some R) : Go K (d + 1) 113 225 [some (.ref l0), some (.int l1), some (.int l2), some (.ref l3), some (.int l4), some (.int l5), some (.int l6), some (.int l7), some (.int l8)] [] w I J R := by
  unfold f_113_225 at h
  refine gs_0 (pc' := 226) (L' := [some (.ref l0), some (.int l1), some (.int l2), some (.ref l3), some (.int l4), some (.int l5), some (.int l6), some (.int l7), some (.int l8)]) (st' := [.ref l0]) cd_113_225 rfl rfl ?_
  refine gs_0 (pc' := 228) (L' := [some (.ref l0), some (.int l1), some (.int l2), some (.ref l3), some (.int l4), some (.int l5), some (.int l6), some (.int l7), some (.int l8)]) (st' := [.int l7, .ref l0]) cd_113_226 rfl rfl ?_
  refine gs_0 (pc' := 229) (L' := [some (.ref l0), some (.int l1), some (.int l2), some (.ref l3), some (.int l4), some (.int l5), some (.int l6), some (.int l7), some (.int l8)]) (st' := [.int l2, .int l7, .ref l0]) cd_113_228 rfl rfl ?_
  obtain ⟨ht, h⟩ := gO_s h
  obtain ⟨w_1, I_2, J_3, hcl, h⟩ := cV_s h
  refine gs_call (as := [.ref l0, .int l7, .int l2]) (rest := []) cd_113_229 rfl (by decide) rfl (sm_rv_ok (by decide) ht) (Nat.le_of_ble_eq_true rfl) (Nat.le_of_ble_eq_true rfl) rfl hcl ?_
  refine gs_0 (pc' := 233) (L' := [some (.ref l0), some (.int l1), some (.int l2), some (.ref l3), some (.int l4), some (.int l5), some (.int l6), some (.int l7), some (.int l8)]) (st' := [.ref l0]) cd_113_232 rfl rfl ?_
  refine gs_0 (pc' := 234) (L' := [some (.ref l0), some (.int l1), some (.int l2), some (.ref l3), some (.int l4), some (.int l5), some (.int l6), some (.int l7), some (.int l8)]) (st' := [.int 4, .ref l0]) cd_113_233 rfl rfl ?_
  refine gs_0 (pc' := 236) (L' := [some (.ref l0), some (.int l1), some (.int l2), some (.ref l3), some (.int l4), some (.int l5), some (.int l6), some (.int l7), some (.int l8)]) (st' := [.int l6, .int 4, .ref l0]) cd_113_234 rfl rfl ?_
  obtain ⟨ht, h⟩ := gO_s h
  obtain ⟨w_4, I_5, J_6, hcl, h⟩ := cV_s h
  refine gs_call (as := [.ref l0, .int 4, .int l6]) (rest := []) cd_113_236 rfl (by decide) rfl (sm_rv_ok (by decide) ht) (Nat.le_of_ble_eq_true rfl) (Nat.le_of_ble_eq_true rfl) rfl hcl ?_
  refine gs_0 (pc' := 240) (L' := [some (.ref l0), some (.int l1), some (.int l2), some (.ref l3), some (.int l4), some (.int l5), some (.int l6), some (.int l7), some (.int l8)]) (st' := [.ref l0]) cd_113_239 rfl rfl ?_
  obtain ⟨ht, h⟩ := gO_s h
  obtain ⟨q_7, hv, h⟩ := gV_s h
  refine gs_gfR cd_113_240 (by decide) ht hv ?_
  refine gs_0 (pc' := 245) (L' := [some (.ref l0), some (.int l1), some (.int l2), some (.ref l3), some (.int l4), some (.int l5), some (.int l6), some (.int l7), some (.int l8)]) (st' := [.int l6, .ref q_7]) cd_113_243 rfl rfl ?_
  obtain ⟨ht, h⟩ := gA_s h
  refine gs_iald cd_113_245 ht ?_
  cases h
  exact gs_ri cd_113_246 (Or.inl rfl)
noncomputable def f_113_217 (K : Nat → Value) (k d : Nat) (r149 : Nat → Int32 → Int32 → Nat → Int32 → Int32 → Int32 → Int32 → Int32 → aW → aI → aJ → Option aR) (l0 : Nat) (l1 : Int32) (l2 : Int32) (l3 : Nat) (l4 : Int32) (l5 : Int32) (l6 : Int32) (l7 : Int32) (l8 : Int32) (s0 : Int32) (w : aW) (I : aI) (J : aJ) : Option aR :=
  lt_ (l8 + 1) fun x_1 =>
  r149 l0 l1 l2 l3 l4 l5 l6 s0 x_1 w I J
theorem ok_113_217 {K : Nat → Value} {k d : Nat} {r149 : Nat → Int32 → Int32 → Nat → Int32 → Int32 → Int32 → Int32 → Int32 → aW → aI → aJ → Option aR} (hr149 : ∀ (l0 : Nat) (l1 : Int32) (l2 : Int32) (l3 : Nat) (l4 : Int32) (l5 : Int32) (l6 : Int32) (l7 : Int32) (l8 : Int32) (w : aW) (I : aI) (J : aJ) (R : aR), r149 l0 l1 l2 l3 l4 l5 l6 l7 l8 w I J = some R → Go K (d + 1) 113 149 [some (.ref l0), some (.int l1), some (.int l2), some (.ref l3), some (.int l4), some (.int l5), some (.int l6), some (.int l7), some (.int l8)] [] w I J R) {l0 : Nat} {l1 : Int32} {l2 : Int32} {l3 : Nat} {l4 : Int32} {l5 : Int32} {l6 : Int32} {l7 : Int32} {l8 : Int32} {s0 : Int32} {w : aW} {I : aI} {J : aJ} {R : aR} (h : f_113_217 K k d r149 l0 l1 l2 l3 l4 l5 l6 l7 l8 s0 w I J = some R) : Go K (d + 1) 113 217 [some (.ref l0), some (.int l1), some (.int l2), some (.ref l3), some (.int l4), some (.int l5), some (.int l6), some (.int l7), some (.int l8)] [.int s0] w I J R := by
  unfold f_113_217 at h
  refine gs_0 (pc' := 219) (L' := [some (.ref l0), some (.int l1), some (.int l2), some (.ref l3), some (.int l4), some (.int l5), some (.int l6), some (.int s0), some (.int l8)]) (st' := []) cd_113_217 rfl rfl ?_
  refine gs_0 (pc' := 222) (L' := [some (.ref l0), some (.int l1), some (.int l2), some (.ref l3), some (.int l4), some (.int l5), some (.int l6), some (.int s0), some (.int (l8 + 1))]) (st' := []) cd_113_219 rfl rfl ?_
  obtain ⟨x_1, hx, h⟩ := lt_s_ h
  rw [hx]
  clear hx
  refine gs_0 (pc' := 149) (L' := [some (.ref l0), some (.int l1), some (.int l2), some (.ref l3), some (.int l4), some (.int l5), some (.int l6), some (.int s0), some (.int x_1)]) (st' := []) cd_113_222 rfl rfl ?_
  exact hr149 l0 l1 l2 l3 l4 l5 l6 s0 x_1 _ _ _ _ h
noncomputable def f_113_216 (K : Nat → Value) (k d : Nat) (r149 : Nat → Int32 → Int32 → Nat → Int32 → Int32 → Int32 → Int32 → Int32 → aW → aI → aJ → Option aR) (l0 : Nat) (l1 : Int32) (l2 : Int32) (l3 : Nat) (l4 : Int32) (l5 : Int32) (l6 : Int32) (l7 : Int32) (l8 : Int32) (w : aW) (I : aI) (J : aJ) : Option aR :=
  f_113_217 K k d r149 l0 l1 l2 l3 l4 l5 l6 l7 l8 0 w I J
theorem ok_113_216 {K : Nat → Value} {k d : Nat} {r149 : Nat → Int32 → Int32 → Nat → Int32 → Int32 → Int32 → Int32 → Int32 → aW → aI → aJ → Option aR} (hr149 : ∀ (l0 : Nat) (l1 : Int32) (l2 : Int32) (l3 : Nat) (l4 : Int32) (l5 : Int32) (l6 : Int32) (l7 : Int32) (l8 : Int32) (w : aW) (I : aI) (J : aJ) (R : aR), r149 l0 l1 l2 l3 l4 l5 l6 l7 l8 w I J = some R → Go K (d + 1) 113 149 [some (.ref l0), some (.int l1), some (.int l2), some (.ref l3), some (.int l4), some (.int l5), some (.int l6), some (.int l7), some (.int l8)] [] w I J R) {l0 : Nat} {l1 : Int32} {l2 : Int32} {l3 : Nat} {l4 : Int32} {l5 : Int32} {l6 : Int32} {l7 : Int32} {l8 : Int32} {w : aW} {I : aI} {J : aJ} {R : aR} (h : f_113_216 K k d r149 l0 l1 l2 l3 l4 l5 l6 l7 l8 w I J = some R) : Go K (d + 1) 113 216 [some (.ref l0), some (.int l1), some (.int l2), some (.ref l3), some (.int l4), some (.int l5), some (.int l6), some (.int l7), some (.int l8)] [] w I J R := by
  unfold f_113_216 at h
  refine gs_0 (pc' := 217) (L' := [some (.ref l0), some (.int l1), some (.int l2), some (.ref l3), some (.int l4), some (.int l5), some (.int l6), some (.int l7), some (.int l8)]) (st' := [.int 0]) cd_113_216 rfl rfl ?_
  exact ok_113_217 hr149 h
noncomputable def f_113_212 (K : Nat → Value) (k d : Nat) (r149 : Nat → Int32 → Int32 → Nat → Int32 → Int32 → Int32 → Int32 → Int32 → aW → aI → aJ → Option aR) (l0 : Nat) (l1 : Int32) (l2 : Int32) (l3 : Nat) (l4 : Int32) (l5 : Int32) (l6 : Int32) (l7 : Int32) (l8 : Int32) (w : aW) (I : aI) (J : aJ) : Option aR :=
  f_113_217 K k d r149 l0 l1 l2 l3 l4 l5 l6 l7 l8 1 w I J
theorem ok_113_212 {K : Nat → Value} {k d : Nat} {r149 : Nat → Int32 → Int32 → Nat → Int32 → Int32 → Int32 → Int32 → Int32 → aW → aI → aJ → Option aR} (hr149 : ∀ (l0 : Nat) (l1 : Int32) (l2 : Int32) (l3 : Nat) (l4 : Int32) (l5 : Int32) (l6 : Int32) (l7 : Int32) (l8 : Int32) (w : aW) (I : aI) (J : aJ) (R : aR), r149 l0 l1 l2 l3 l4 l5 l6 l7 l8 w I J = some R → Go K (d + 1) 113 149 [some (.ref l0), some (.int l1), some (.int l2), some (.ref l3), some (.int l4), some (.int l5), some (.int l6), some (.int l7), some (.int l8)] [] w I J R) {l0 : Nat} {l1 : Int32} {l2 : Int32} {l3 : Nat} {l4 : Int32} {l5 : Int32} {l6 : Int32} {l7 : Int32} {l8 : Int32} {w : aW} {I : aI} {J : aJ} {R : aR} (h : f_113_212 K k d r149 l0 l1 l2 l3 l4 l5 l6 l7 l8 w I J = some R) : Go K (d + 1) 113 212 [some (.ref l0), some (.int l1), some (.int l2), some (.ref l3), some (.int l4), some (.int l5), some (.int l6), some (.int l7), some (.int l8)] [] w I J R := by
  unfold f_113_212 at h
  refine gs_0 (pc' := 213) (L' := [some (.ref l0), some (.int l1), some (.int l2), some (.ref l3), some (.int l4), some (.int l5), some (.int l6), some (.int l7), some (.int l8)]) (st' := [.int 1]) cd_113_212 rfl rfl ?_
  refine gs_0 (pc' := 217) (L' := [some (.ref l0), some (.int l1), some (.int l2), some (.ref l3), some (.int l4), some (.int l5), some (.int l6), some (.int l7), some (.int l8)]) (st' := [.int 1]) cd_113_213 rfl rfl ?_
  exact ok_113_217 hr149 h
noncomputable def f_113_149 (K : Nat → Value) (k : Nat) (d : Nat) : Nat → Int32 → Int32 → Nat → Int32 → Int32 → Int32 → Int32 → Int32 → aW → aI → aJ → Option aR :=
  match k with
  | 0 => fun _ _ _ _ _ _ _ _ _ _ _ _ => none
  | k + 1 => fun l0 l1 l2 l3 l4 l5 l6 l7 l8 w I J =>
  lt_ (f_113_149 K k d) fun r149 =>
  if l4 ≤ l8 then
    f_113_225 K k d l0 l1 l2 l3 l4 l5 l6 l7 l8 w I J
  else
    gO w 6 l0 (
    gV w l0 9 fun q_1 =>
    gA w 10 20 q_1 l6 (
    if (I q_1 (l6 : Int32).toNatClampNeg) ≤ l8 then
      f_113_225 K k d l0 l1 l2 l3 l4 l5 l6 l7 l8 w I J
    else
      if 6 ≤ l8 then
        f_113_225 K k d l0 l1 l2 l3 l4 l5 l6 l7 l8 w I J
      else
        if l7 = 0 then
          f_113_216 K k d r149 l0 l1 l2 l3 l4 l5 l6 l7 l8 w I J
        else
          gO w 6 l0 (
          gV w l0 8 fun q_2 =>
          gA w 10 20 q_2 l6 (
          if (I q_2 (l6 : Int32).toNatClampNeg) ≤ l8 then
            f_113_212 K k d r149 l0 l1 l2 l3 l4 l5 l6 l7 l8 w I J
          else
            gA w 10 20 l3 l8 (
            gO w 6 l0 (
            gV w l0 12 fun q_3 =>
            gA w 10 20 q_3 ((6 * l6) + l8) (
            if ¬ (I l3 (l8 : Int32).toNatClampNeg) = (I q_3 ((6 * l6) + l8 : Int32).toNatClampNeg) then
              f_113_216 K k d r149 l0 l1 l2 l3 l4 l5 l6 l7 l8 w I J
            else
              f_113_212 K k d r149 l0 l1 l2 l3 l4 l5 l6 l7 l8 w I J)))))))
theorem ok_113_149 {K : Nat → Value} {d : Nat} : ∀ {k : Nat} {l0 : Nat} {l1 : Int32} {l2 : Int32} {l3 : Nat} {l4 : Int32} {l5 : Int32} {l6 : Int32} {l7 : Int32} {l8 : Int32} {w : aW} {I : aI} {J : aJ} {R : aR}, f_113_149 K k d l0 l1 l2 l3 l4 l5 l6 l7 l8 w I J = some R → Go K (d + 1) 113 149 [some (.ref l0), some (.int l1), some (.int l2), some (.ref l3), some (.int l4), some (.int l5), some (.int l6), some (.int l7), some (.int l8)] [] w I J R := by
  intro k
  induction k with
  | zero => intro l0 l1 l2 l3 l4 l5 l6 l7 l8 w I J R h; cases h
  | succ k ih =>
    intro l0 l1 l2 l3 l4 l5 l6 l7 l8 w I J R h
    have hr149 : ∀ (l0 : Nat) (l1 : Int32) (l2 : Int32) (l3 : Nat) (l4 : Int32) (l5 : Int32) (l6 : Int32) (l7 : Int32) (l8 : Int32) (w : aW) (I : aI) (J : aJ) (R : aR), f_113_149 K k d l0 l1 l2 l3 l4 l5 l6 l7 l8 w I J = some R → Go K (d + 1) 113 149 [some (.ref l0), some (.int l1), some (.int l2), some (.ref l3), some (.int l4), some (.int l5), some (.int l6), some (.int l7), some (.int l8)] [] w I J R := fun l0 l1 l2 l3 l4 l5 l6 l7 l8 w I J R h => ih h
    rw [f_113_149] at h
    obtain ⟨r149, hx, h⟩ := lt_s_ h
    rw [hx] at hr149
    clear hx ih
    refine gs_0 (pc' := 151) (L' := [some (.ref l0), some (.int l1), some (.int l2), some (.ref l3), some (.int l4), some (.int l5), some (.int l6), some (.int l7), some (.int l8)]) (st' := [.int l8]) cd_113_149 rfl rfl ?_
    refine gs_0 (pc' := 153) (L' := [some (.ref l0), some (.int l1), some (.int l2), some (.ref l3), some (.int l4), some (.int l5), some (.int l6), some (.int l7), some (.int l8)]) (st' := [.int l4, .int l8]) cd_113_151 rfl rfl ?_
    refine gs_0 (pc' := if l4 ≤ l8 then 225 else 156) (L' := [some (.ref l0), some (.int l1), some (.int l2), some (.ref l3), some (.int l4), some (.int l5), some (.int l6), some (.int l7), some (.int l8)]) (st' := []) cd_113_153 rfl rfl ?_
    refine go_ite (fun hc => ?_) (fun hc => ?_)
    · rw [if_pos hc] at h
      exact ok_113_225 h
    · rw [if_neg hc] at h
      refine gs_0 (pc' := 158) (L' := [some (.ref l0), some (.int l1), some (.int l2), some (.ref l3), some (.int l4), some (.int l5), some (.int l6), some (.int l7), some (.int l8)]) (st' := [.int l8]) cd_113_156 rfl rfl ?_
      refine gs_0 (pc' := 159) (L' := [some (.ref l0), some (.int l1), some (.int l2), some (.ref l3), some (.int l4), some (.int l5), some (.int l6), some (.int l7), some (.int l8)]) (st' := [.ref l0, .int l8]) cd_113_158 rfl rfl ?_
      obtain ⟨ht, h⟩ := gO_s h
      obtain ⟨q_1, hv, h⟩ := gV_s h
      refine gs_gfR cd_113_159 (by decide) ht hv ?_
      refine gs_0 (pc' := 164) (L' := [some (.ref l0), some (.int l1), some (.int l2), some (.ref l3), some (.int l4), some (.int l5), some (.int l6), some (.int l7), some (.int l8)]) (st' := [.int l6, .ref q_1, .int l8]) cd_113_162 rfl rfl ?_
      obtain ⟨ht, h⟩ := gA_s h
      refine gs_iald cd_113_164 ht ?_
      refine gs_0 (pc' := if (I q_1 (l6 : Int32).toNatClampNeg) ≤ l8 then 225 else 168) (L' := [some (.ref l0), some (.int l1), some (.int l2), some (.ref l3), some (.int l4), some (.int l5), some (.int l6), some (.int l7), some (.int l8)]) (st' := []) cd_113_165 rfl rfl ?_
      refine go_ite (fun hc => ?_) (fun hc => ?_)
      · rw [if_pos hc] at h
        exact ok_113_225 h
      · rw [if_neg hc] at h
        refine gs_0 (pc' := 170) (L' := [some (.ref l0), some (.int l1), some (.int l2), some (.ref l3), some (.int l4), some (.int l5), some (.int l6), some (.int l7), some (.int l8)]) (st' := [.int l8]) cd_113_168 rfl rfl ?_
        refine gs_0 (pc' := 172) (L' := [some (.ref l0), some (.int l1), some (.int l2), some (.ref l3), some (.int l4), some (.int l5), some (.int l6), some (.int l7), some (.int l8)]) (st' := [.int 6, .int l8]) cd_113_170 rfl rfl ?_
        refine gs_0 (pc' := if 6 ≤ l8 then 225 else 175) (L' := [some (.ref l0), some (.int l1), some (.int l2), some (.ref l3), some (.int l4), some (.int l5), some (.int l6), some (.int l7), some (.int l8)]) (st' := []) cd_113_172 rfl rfl ?_
        refine go_ite (fun hc => ?_) (fun hc => ?_)
        · rw [if_pos hc] at h
          exact ok_113_225 h
        · rw [if_neg hc] at h
          refine gs_0 (pc' := 177) (L' := [some (.ref l0), some (.int l1), some (.int l2), some (.ref l3), some (.int l4), some (.int l5), some (.int l6), some (.int l7), some (.int l8)]) (st' := [.int l7]) cd_113_175 rfl rfl ?_
          refine gs_0 (pc' := if l7 = 0 then 216 else 180) (L' := [some (.ref l0), some (.int l1), some (.int l2), some (.ref l3), some (.int l4), some (.int l5), some (.int l6), some (.int l7), some (.int l8)]) (st' := []) cd_113_177 rfl rfl ?_
          refine go_ite (fun hc => ?_) (fun hc => ?_)
          · rw [if_pos hc] at h
            exact ok_113_216 hr149 h
          · rw [if_neg hc] at h
            refine gs_0 (pc' := 182) (L' := [some (.ref l0), some (.int l1), some (.int l2), some (.ref l3), some (.int l4), some (.int l5), some (.int l6), some (.int l7), some (.int l8)]) (st' := [.int l8]) cd_113_180 rfl rfl ?_
            refine gs_0 (pc' := 183) (L' := [some (.ref l0), some (.int l1), some (.int l2), some (.ref l3), some (.int l4), some (.int l5), some (.int l6), some (.int l7), some (.int l8)]) (st' := [.ref l0, .int l8]) cd_113_182 rfl rfl ?_
            obtain ⟨ht, h⟩ := gO_s h
            obtain ⟨q_2, hv, h⟩ := gV_s h
            refine gs_gfR cd_113_183 (by decide) ht hv ?_
            refine gs_0 (pc' := 188) (L' := [some (.ref l0), some (.int l1), some (.int l2), some (.ref l3), some (.int l4), some (.int l5), some (.int l6), some (.int l7), some (.int l8)]) (st' := [.int l6, .ref q_2, .int l8]) cd_113_186 rfl rfl ?_
            obtain ⟨ht, h⟩ := gA_s h
            refine gs_iald cd_113_188 ht ?_
            refine gs_0 (pc' := if (I q_2 (l6 : Int32).toNatClampNeg) ≤ l8 then 212 else 192) (L' := [some (.ref l0), some (.int l1), some (.int l2), some (.ref l3), some (.int l4), some (.int l5), some (.int l6), some (.int l7), some (.int l8)]) (st' := []) cd_113_189 rfl rfl ?_
            refine go_ite (fun hc => ?_) (fun hc => ?_)
            · rw [if_pos hc] at h
              exact ok_113_212 hr149 h
            · rw [if_neg hc] at h
              refine gs_0 (pc' := 193) (L' := [some (.ref l0), some (.int l1), some (.int l2), some (.ref l3), some (.int l4), some (.int l5), some (.int l6), some (.int l7), some (.int l8)]) (st' := [.ref l3]) cd_113_192 rfl rfl ?_
              refine gs_0 (pc' := 195) (L' := [some (.ref l0), some (.int l1), some (.int l2), some (.ref l3), some (.int l4), some (.int l5), some (.int l6), some (.int l7), some (.int l8)]) (st' := [.int l8, .ref l3]) cd_113_193 rfl rfl ?_
              obtain ⟨ht, h⟩ := gA_s h
              refine gs_iald cd_113_195 ht ?_
              refine gs_0 (pc' := 197) (L' := [some (.ref l0), some (.int l1), some (.int l2), some (.ref l3), some (.int l4), some (.int l5), some (.int l6), some (.int l7), some (.int l8)]) (st' := [.ref l0, .int (I l3 (l8 : Int32).toNatClampNeg)]) cd_113_196 rfl rfl ?_
              obtain ⟨ht, h⟩ := gO_s h
              obtain ⟨q_3, hv, h⟩ := gV_s h
              refine gs_gfR cd_113_197 (by decide) ht hv ?_
              refine gs_0 (pc' := 202) (L' := [some (.ref l0), some (.int l1), some (.int l2), some (.ref l3), some (.int l4), some (.int l5), some (.int l6), some (.int l7), some (.int l8)]) (st' := [.int 6, .ref q_3, .int (I l3 (l8 : Int32).toNatClampNeg)]) cd_113_200 rfl rfl ?_
              refine gs_0 (pc' := 204) (L' := [some (.ref l0), some (.int l1), some (.int l2), some (.ref l3), some (.int l4), some (.int l5), some (.int l6), some (.int l7), some (.int l8)]) (st' := [.int l6, .int 6, .ref q_3, .int (I l3 (l8 : Int32).toNatClampNeg)]) cd_113_202 rfl rfl ?_
              refine gs_0 (pc' := 205) (L' := [some (.ref l0), some (.int l1), some (.int l2), some (.ref l3), some (.int l4), some (.int l5), some (.int l6), some (.int l7), some (.int l8)]) (st' := [.int (6 * l6), .ref q_3, .int (I l3 (l8 : Int32).toNatClampNeg)]) cd_113_204 rfl rfl ?_
              refine gs_0 (pc' := 207) (L' := [some (.ref l0), some (.int l1), some (.int l2), some (.ref l3), some (.int l4), some (.int l5), some (.int l6), some (.int l7), some (.int l8)]) (st' := [.int l8, .int (6 * l6), .ref q_3, .int (I l3 (l8 : Int32).toNatClampNeg)]) cd_113_205 rfl rfl ?_
              refine gs_0 (pc' := 208) (L' := [some (.ref l0), some (.int l1), some (.int l2), some (.ref l3), some (.int l4), some (.int l5), some (.int l6), some (.int l7), some (.int l8)]) (st' := [.int ((6 * l6) + l8), .ref q_3, .int (I l3 (l8 : Int32).toNatClampNeg)]) cd_113_207 rfl rfl ?_
              obtain ⟨ht, h⟩ := gA_s h
              refine gs_iald cd_113_208 ht ?_
              refine gs_0 (pc' := if ¬ (I l3 (l8 : Int32).toNatClampNeg) = (I q_3 ((6 * l6) + l8 : Int32).toNatClampNeg) then 216 else 212) (L' := [some (.ref l0), some (.int l1), some (.int l2), some (.ref l3), some (.int l4), some (.int l5), some (.int l6), some (.int l7), some (.int l8)]) (st' := []) cd_113_209 rfl rfl ?_
              refine go_ite (fun hc => ?_) (fun hc => ?_)
              · rw [if_pos hc] at h
                exact ok_113_216 hr149 h
              · rw [if_neg hc] at h
                exact ok_113_212 hr149 h
noncomputable def f_113_132 (K : Nat → Value) (k d : Nat) (l0 : Nat) (l1 : Int32) (l2 : Int32) (l3 : Nat) (l4 : Int32) (l5 : Int32) (l6 : Int32) (s0 : Nat) (s1 : Int32) (w : aW) (I : aI) (J : aJ) : Option aR :=
  gO w 6 s0 (
  cV (Cl K d 92 [.ref s0, .int s1, .int l2] w I J) fun w_1 I_2 J_3 =>
  if 0 ≤ l6 then
    f_113_149 K k d l0 l1 l2 l3 l4 l5 l6 1 0 w_1 I_2 J_3
  else
    some (some (.int 0), w_1, I_2, J_3))
theorem ok_113_132 {K : Nat → Value} {k d : Nat} {l0 : Nat} {l1 : Int32} {l2 : Int32} {l3 : Nat} {l4 : Int32} {l5 : Int32} {l6 : Int32} {s0 : Nat} {s1 : Int32} {w : aW} {I : aI} {J : aJ} {R : aR} (h : f_113_132 K k d l0 l1 l2 l3 l4 l5 l6 s0 s1 w I J = some R) : Go K (d + 1) 113 132 [some (.ref l0), some (.int l1), some (.int l2), some (.ref l3), some (.int l4), some (.int l5), some (.int l6), none, none] [.int s1, .ref s0] w I J R := by
  unfold f_113_132 at h
  refine gs_0 (pc' := 133) (L' := [some (.ref l0), some (.int l1), some (.int l2), some (.ref l3), some (.int l4), some (.int l5), some (.int l6), none, none]) (st' := [.int l2, .int s1, .ref s0]) cd_113_132 rfl rfl ?_
  obtain ⟨ht, h⟩ := gO_s h
  obtain ⟨w_1, I_2, J_3, hcl, h⟩ := cV_s h
  refine gs_call (as := [.ref s0, .int s1, .int l2]) (rest := []) cd_113_133 rfl (by decide) rfl (sm_rv_ok (by decide) ht) (Nat.le_of_ble_eq_true rfl) (Nat.le_of_ble_eq_true rfl) rfl hcl ?_
  refine gs_0 (pc' := 138) (L' := [some (.ref l0), some (.int l1), some (.int l2), some (.ref l3), some (.int l4), some (.int l5), some (.int l6), none, none]) (st' := [.int l6]) cd_113_136 rfl rfl ?_
  refine gs_0 (pc' := if 0 ≤ l6 then 143 else 141) (L' := [some (.ref l0), some (.int l1), some (.int l2), some (.ref l3), some (.int l4), some (.int l5), some (.int l6), none, none]) (st' := []) cd_113_138 rfl rfl ?_
  refine go_ite (fun hc => ?_) (fun hc => ?_)
  · rw [if_pos hc] at h
    refine gs_0 (pc' := 144) (L' := [some (.ref l0), some (.int l1), some (.int l2), some (.ref l3), some (.int l4), some (.int l5), some (.int l6), none, none]) (st' := [.int 1]) cd_113_143 rfl rfl ?_
    refine gs_0 (pc' := 146) (L' := [some (.ref l0), some (.int l1), some (.int l2), some (.ref l3), some (.int l4), some (.int l5), some (.int l6), some (.int 1), none]) (st' := []) cd_113_144 rfl rfl ?_
    refine gs_0 (pc' := 147) (L' := [some (.ref l0), some (.int l1), some (.int l2), some (.ref l3), some (.int l4), some (.int l5), some (.int l6), some (.int 1), none]) (st' := [.int 0]) cd_113_146 rfl rfl ?_
    refine gs_0 (pc' := 149) (L' := [some (.ref l0), some (.int l1), some (.int l2), some (.ref l3), some (.int l4), some (.int l5), some (.int l6), some (.int 1), some (.int 0)]) (st' := []) cd_113_147 rfl rfl ?_
    exact ok_113_149 h
  · rw [if_neg hc] at h
    refine gs_0 (pc' := 142) (L' := [some (.ref l0), some (.int l1), some (.int l2), some (.ref l3), some (.int l4), some (.int l5), some (.int l6), none, none]) (st' := [.int 0]) cd_113_141 rfl rfl ?_
    cases h
    exact gs_ri cd_113_142 (Or.inl rfl)
noncomputable def f_113_131 (K : Nat → Value) (k d : Nat) (l0 : Nat) (l1 : Int32) (l2 : Int32) (l3 : Nat) (l4 : Int32) (l5 : Int32) (l6 : Int32) (s0 : Nat) (w : aW) (I : aI) (J : aJ) : Option aR :=
  f_113_132 K k d l0 l1 l2 l3 l4 l5 l6 s0 0 w I J
theorem ok_113_131 {K : Nat → Value} {k d : Nat} {l0 : Nat} {l1 : Int32} {l2 : Int32} {l3 : Nat} {l4 : Int32} {l5 : Int32} {l6 : Int32} {s0 : Nat} {w : aW} {I : aI} {J : aJ} {R : aR} (h : f_113_131 K k d l0 l1 l2 l3 l4 l5 l6 s0 w I J = some R) : Go K (d + 1) 113 131 [some (.ref l0), some (.int l1), some (.int l2), some (.ref l3), some (.int l4), some (.int l5), some (.int l6), none, none] [.ref s0] w I J R := by
  unfold f_113_131 at h
  refine gs_0 (pc' := 132) (L' := [some (.ref l0), some (.int l1), some (.int l2), some (.ref l3), some (.int l4), some (.int l5), some (.int l6), none, none]) (st' := [.int 0, .ref s0]) cd_113_131 rfl rfl ?_
  exact ok_113_132 h
noncomputable def f_113_109 (K : Nat → Value) (k d : Nat) (l0 : Nat) (l1 : Int32) (l2 : Int32) (l3 : Nat) (l4 : Int32) (l5 : Int32) (l6 : Int32) (w : aW) (I : aI) (J : aJ) : Option aR :=
  if l6 < 0 then
    f_113_131 K k d l0 l1 l2 l3 l4 l5 l6 l0 w I J
  else
    gO w 6 l0 (
    gV w l0 8 fun q_1 =>
    gA w 10 20 q_1 l6 (
    if ¬ l4 = (I q_1 (l6 : Int32).toNatClampNeg) then
      f_113_131 K k d l0 l1 l2 l3 l4 l5 l6 l0 w I J
    else
      f_113_132 K k d l0 l1 l2 l3 l4 l5 l6 l0 1 w I J))
theorem ok_113_109 {K : Nat → Value} {k d : Nat} {l0 : Nat} {l1 : Int32} {l2 : Int32} {l3 : Nat} {l4 : Int32} {l5 : Int32} {l6 : Int32} {w : aW} {I : aI} {J : aJ} {R : aR} (h : f_113_109 K k d l0 l1 l2 l3 l4 l5 l6 w I J = some R) : Go K (d + 1) 113 109 [some (.ref l0), some (.int l1), some (.int l2), some (.ref l3), some (.int l4), some (.int l5), some (.int l6), none, none] [] w I J R := by
  unfold f_113_109 at h
  refine gs_0 (pc' := 110) (L' := [some (.ref l0), some (.int l1), some (.int l2), some (.ref l3), some (.int l4), some (.int l5), some (.int l6), none, none]) (st' := [.ref l0]) cd_113_109 rfl rfl ?_
  refine gs_0 (pc' := 112) (L' := [some (.ref l0), some (.int l1), some (.int l2), some (.ref l3), some (.int l4), some (.int l5), some (.int l6), none, none]) (st' := [.int l6, .ref l0]) cd_113_110 rfl rfl ?_
  refine gs_0 (pc' := if l6 < 0 then 131 else 115) (L' := [some (.ref l0), some (.int l1), some (.int l2), some (.ref l3), some (.int l4), some (.int l5), some (.int l6), none, none]) (st' := [.ref l0]) cd_113_112 rfl rfl ?_
  refine go_ite (fun hc => ?_) (fun hc => ?_)
  · rw [if_pos hc] at h
    exact ok_113_131 h
  · rw [if_neg hc] at h
    refine gs_0 (pc' := 117) (L' := [some (.ref l0), some (.int l1), some (.int l2), some (.ref l3), some (.int l4), some (.int l5), some (.int l6), none, none]) (st' := [.int l4, .ref l0]) cd_113_115 rfl rfl ?_
    refine gs_0 (pc' := 118) (L' := [some (.ref l0), some (.int l1), some (.int l2), some (.ref l3), some (.int l4), some (.int l5), some (.int l6), none, none]) (st' := [.ref l0, .int l4, .ref l0]) cd_113_117 rfl rfl ?_
    obtain ⟨ht, h⟩ := gO_s h
    obtain ⟨q_1, hv, h⟩ := gV_s h
    refine gs_gfR cd_113_118 (by decide) ht hv ?_
    refine gs_0 (pc' := 123) (L' := [some (.ref l0), some (.int l1), some (.int l2), some (.ref l3), some (.int l4), some (.int l5), some (.int l6), none, none]) (st' := [.int l6, .ref q_1, .int l4, .ref l0]) cd_113_121 rfl rfl ?_
    obtain ⟨ht, h⟩ := gA_s h
    refine gs_iald cd_113_123 ht ?_
    refine gs_0 (pc' := if ¬ l4 = (I q_1 (l6 : Int32).toNatClampNeg) then 131 else 127) (L' := [some (.ref l0), some (.int l1), some (.int l2), some (.ref l3), some (.int l4), some (.int l5), some (.int l6), none, none]) (st' := [.ref l0]) cd_113_124 rfl rfl ?_
    refine go_ite (fun hc => ?_) (fun hc => ?_)
    · rw [if_pos hc] at h
      exact ok_113_131 h
    · rw [if_neg hc] at h
      refine gs_0 (pc' := 128) (L' := [some (.ref l0), some (.int l1), some (.int l2), some (.ref l3), some (.int l4), some (.int l5), some (.int l6), none, none]) (st' := [.int 1, .ref l0]) cd_113_127 rfl rfl ?_
      refine gs_0 (pc' := 132) (L' := [some (.ref l0), some (.int l1), some (.int l2), some (.ref l3), some (.int l4), some (.int l5), some (.int l6), none, none]) (st' := [.int 1, .ref l0]) cd_113_128 rfl rfl ?_
      exact ok_113_132 h
noncomputable def f_113_87 (K : Nat → Value) (k : Nat) (d : Nat) : Nat → Int32 → Int32 → Nat → Int32 → Int32 → Int32 → aW → aI → aJ → Option aR :=
  match k with
  | 0 => fun _ _ _ _ _ _ _ _ _ _ => none
  | k + 1 => fun l0 l1 l2 l3 l4 l5 l6 w I J =>
  lt_ (f_113_87 K k d) fun r87 =>
  if l6 < 0 then
    f_113_109 K k d l0 l1 l2 l3 l4 l5 l6 w I J
  else
    gO w 6 l0 (
    gV w l0 6 fun q_1 =>
    gA w 10 20 q_1 l6 (
    if (I q_1 (l6 : Int32).toNatClampNeg) = l1 then
      f_113_109 K k d l0 l1 l2 l3 l4 l5 l6 w I J
    else
      lt_ (l6 + (-1)) fun x_2 =>
      r87 l0 l1 l2 l3 l4 l5 x_2 w I J))
theorem ok_113_87 {K : Nat → Value} {d : Nat} : ∀ {k : Nat} {l0 : Nat} {l1 : Int32} {l2 : Int32} {l3 : Nat} {l4 : Int32} {l5 : Int32} {l6 : Int32} {w : aW} {I : aI} {J : aJ} {R : aR}, f_113_87 K k d l0 l1 l2 l3 l4 l5 l6 w I J = some R → Go K (d + 1) 113 87 [some (.ref l0), some (.int l1), some (.int l2), some (.ref l3), some (.int l4), some (.int l5), some (.int l6), none, none] [] w I J R := by
  intro k
  induction k with
  | zero => intro l0 l1 l2 l3 l4 l5 l6 w I J R h; cases h
  | succ k ih =>
    intro l0 l1 l2 l3 l4 l5 l6 w I J R h
    have hr87 : ∀ (l0 : Nat) (l1 : Int32) (l2 : Int32) (l3 : Nat) (l4 : Int32) (l5 : Int32) (l6 : Int32) (w : aW) (I : aI) (J : aJ) (R : aR), f_113_87 K k d l0 l1 l2 l3 l4 l5 l6 w I J = some R → Go K (d + 1) 113 87 [some (.ref l0), some (.int l1), some (.int l2), some (.ref l3), some (.int l4), some (.int l5), some (.int l6), none, none] [] w I J R := fun l0 l1 l2 l3 l4 l5 l6 w I J R h => ih h
    rw [f_113_87] at h
    obtain ⟨r87, hx, h⟩ := lt_s_ h
    rw [hx] at hr87
    clear hx ih
    refine gs_0 (pc' := 89) (L' := [some (.ref l0), some (.int l1), some (.int l2), some (.ref l3), some (.int l4), some (.int l5), some (.int l6), none, none]) (st' := [.int l6]) cd_113_87 rfl rfl ?_
    refine gs_0 (pc' := if l6 < 0 then 109 else 92) (L' := [some (.ref l0), some (.int l1), some (.int l2), some (.ref l3), some (.int l4), some (.int l5), some (.int l6), none, none]) (st' := []) cd_113_89 rfl rfl ?_
    refine go_ite (fun hc => ?_) (fun hc => ?_)
    · rw [if_pos hc] at h
      exact ok_113_109 h
    · rw [if_neg hc] at h
      refine gs_0 (pc' := 93) (L' := [some (.ref l0), some (.int l1), some (.int l2), some (.ref l3), some (.int l4), some (.int l5), some (.int l6), none, none]) (st' := [.ref l0]) cd_113_92 rfl rfl ?_
      obtain ⟨ht, h⟩ := gO_s h
      obtain ⟨q_1, hv, h⟩ := gV_s h
      refine gs_gfR cd_113_93 (by decide) ht hv ?_
      refine gs_0 (pc' := 98) (L' := [some (.ref l0), some (.int l1), some (.int l2), some (.ref l3), some (.int l4), some (.int l5), some (.int l6), none, none]) (st' := [.int l6, .ref q_1]) cd_113_96 rfl rfl ?_
      obtain ⟨ht, h⟩ := gA_s h
      refine gs_iald cd_113_98 ht ?_
      refine gs_0 (pc' := 100) (L' := [some (.ref l0), some (.int l1), some (.int l2), some (.ref l3), some (.int l4), some (.int l5), some (.int l6), none, none]) (st' := [.int l1, .int (I q_1 (l6 : Int32).toNatClampNeg)]) cd_113_99 rfl rfl ?_
      refine gs_0 (pc' := if (I q_1 (l6 : Int32).toNatClampNeg) = l1 then 109 else 103) (L' := [some (.ref l0), some (.int l1), some (.int l2), some (.ref l3), some (.int l4), some (.int l5), some (.int l6), none, none]) (st' := []) cd_113_100 rfl rfl ?_
      refine go_ite (fun hc => ?_) (fun hc => ?_)
      · rw [if_pos hc] at h
        exact ok_113_109 h
      · rw [if_neg hc] at h
        refine gs_0 (pc' := 106) (L' := [some (.ref l0), some (.int l1), some (.int l2), some (.ref l3), some (.int l4), some (.int l5), some (.int (l6 + (-1))), none, none]) (st' := []) cd_113_103 rfl rfl ?_
        obtain ⟨x_2, hx, h⟩ := lt_s_ h
        rw [hx]
        clear hx
        refine gs_0 (pc' := 87) (L' := [some (.ref l0), some (.int l1), some (.int l2), some (.ref l3), some (.int l4), some (.int l5), some (.int x_2), none, none]) (st' := []) cd_113_106 rfl rfl ?_
        exact hr87 l0 l1 l2 l3 l4 l5 x_2 _ _ _ _ h
noncomputable def f_113_72 (K : Nat → Value) (k d : Nat) (r28 : Nat → Int32 → Int32 → Nat → Int32 → Int32 → aW → aI → aJ → Option aR) (l0 : Nat) (l1 : Int32) (l2 : Int32) (l3 : Nat) (l4 : Int32) (l5 : Int32) (l6 : Int32) (w : aW) (I : aI) (J : aJ) : Option aR :=
  r28 l0 l1 l2 l3 l4 l5 w I J
theorem ok_113_72 {K : Nat → Value} {k d : Nat} {r28 : Nat → Int32 → Int32 → Nat → Int32 → Int32 → aW → aI → aJ → Option aR} (hr28 : ∀ (l0 : Nat) (l1 : Int32) (l2 : Int32) (l3 : Nat) (l4 : Int32) (l5 : Int32) (w : aW) (I : aI) (J : aJ) (R : aR), r28 l0 l1 l2 l3 l4 l5 w I J = some R → Go K (d + 1) 113 28 [some (.ref l0), some (.int l1), some (.int l2), some (.ref l3), some (.int l4), some (.int l5), none, none, none] [] w I J R) {l0 : Nat} {l1 : Int32} {l2 : Int32} {l3 : Nat} {l4 : Int32} {l5 : Int32} {l6 : Int32} {w : aW} {I : aI} {J : aJ} {R : aR} (h : f_113_72 K k d r28 l0 l1 l2 l3 l4 l5 l6 w I J = some R) : Go K (d + 1) 113 72 [some (.ref l0), some (.int l1), some (.int l2), some (.ref l3), some (.int l4), some (.int l5), some (.int l6), none, none] [] w I J R := by
  unfold f_113_72 at h
  refine gs_0 (pc' := 28) (L' := [some (.ref l0), some (.int l1), some (.int l2), some (.ref l3), some (.int l4), some (.int l5), some (.int l6), none, none]) (st' := []) cd_113_72 rfl rfl ?_
  refine go_drop [some (.ref l0), some (.int l1), some (.int l2), some (.ref l3), some (.int l4), some (.int l5), none, none, none] ⟨rfl, ⟨rfl, ⟨rfl, ⟨rfl, ⟨rfl, ⟨rfl, ⟨rfl, trivial⟩⟩⟩⟩⟩⟩⟩ ?_
  exact hr28 l0 l1 l2 l3 l4 l5 _ _ _ _ h
noncomputable def f_113_52 (K : Nat → Value) (k d : Nat) (r28 : Nat → Int32 → Int32 → Nat → Int32 → Int32 → aW → aI → aJ → Option aR) (l0 : Nat) (l1 : Int32) (l2 : Int32) (l3 : Nat) (l4 : Int32) (l5 : Int32) (l6 : Int32) (w : aW) (I : aI) (J : aJ) : Option aR :=
  lt_ (l4 + 1) fun x_1 =>
  gO w 6 l0 (
  cI (Cl K d 94 [.ref l0, .int 44] w I J) fun x_5 w_2 I_3 J_4 =>
  if x_5 = 0 then
    f_113_72 K k d r28 l0 l1 l2 l3 x_1 x_5 l6 w_2 I_3 J_4
  else
    gO w_2 6 l0 (
    cV (Cl K d 84 [.ref l0] w_2 I_3 J_4) fun w_6 I_7 J_8 =>
    f_113_72 K k d r28 l0 l1 l2 l3 x_1 x_5 l6 w_6 I_7 J_8))
theorem ok_113_52 {K : Nat → Value} {k d : Nat} {r28 : Nat → Int32 → Int32 → Nat → Int32 → Int32 → aW → aI → aJ → Option aR} (hr28 : ∀ (l0 : Nat) (l1 : Int32) (l2 : Int32) (l3 : Nat) (l4 : Int32) (l5 : Int32) (w : aW) (I : aI) (J : aJ) (R : aR), r28 l0 l1 l2 l3 l4 l5 w I J = some R → Go K (d + 1) 113 28 [some (.ref l0), some (.int l1), some (.int l2), some (.ref l3), some (.int l4), some (.int l5), none, none, none] [] w I J R) {l0 : Nat} {l1 : Int32} {l2 : Int32} {l3 : Nat} {l4 : Int32} {l5 : Int32} {l6 : Int32} {w : aW} {I : aI} {J : aJ} {R : aR} (h : f_113_52 K k d r28 l0 l1 l2 l3 l4 l5 l6 w I J = some R) : Go K (d + 1) 113 52 [some (.ref l0), some (.int l1), some (.int l2), some (.ref l3), some (.int l4), some (.int l5), some (.int l6), none, none] [] w I J R := by
  unfold f_113_52 at h
  refine gs_0 (pc' := 55) (L' := [some (.ref l0), some (.int l1), some (.int l2), some (.ref l3), some (.int (l4 + 1)), some (.int l5), some (.int l6), none, none]) (st' := []) cd_113_52 rfl rfl ?_
  obtain ⟨x_1, hx, h⟩ := lt_s_ h
  rw [hx]
  clear hx
  refine gs_0 (pc' := 56) (L' := [some (.ref l0), some (.int l1), some (.int l2), some (.ref l3), some (.int x_1), some (.int l5), some (.int l6), none, none]) (st' := [.ref l0]) cd_113_55 rfl rfl ?_
  refine gs_0 (pc' := 58) (L' := [some (.ref l0), some (.int l1), some (.int l2), some (.ref l3), some (.int x_1), some (.int l5), some (.int l6), none, none]) (st' := [.int 44, .ref l0]) cd_113_56 rfl rfl ?_
  obtain ⟨ht, h⟩ := gO_s h
  obtain ⟨x_5, w_2, I_3, J_4, hcl, h⟩ := cI_s h
  refine gs_call (as := [.ref l0, .int 44]) (rest := []) cd_113_58 rfl (by decide) rfl (sm_rv_ok (by decide) ht) (Nat.le_of_ble_eq_true rfl) (Nat.le_of_ble_eq_true rfl) rfl hcl ?_
  refine gs_0 (pc' := 63) (L' := [some (.ref l0), some (.int l1), some (.int l2), some (.ref l3), some (.int x_1), some (.int x_5), some (.int l6), none, none]) (st' := []) cd_113_61 rfl rfl ?_
  refine gs_0 (pc' := 65) (L' := [some (.ref l0), some (.int l1), some (.int l2), some (.ref l3), some (.int x_1), some (.int x_5), some (.int l6), none, none]) (st' := [.int x_5]) cd_113_63 rfl rfl ?_
  refine gs_0 (pc' := if x_5 = 0 then 72 else 68) (L' := [some (.ref l0), some (.int l1), some (.int l2), some (.ref l3), some (.int x_1), some (.int x_5), some (.int l6), none, none]) (st' := []) cd_113_65 rfl rfl ?_
  refine go_ite (fun hc => ?_) (fun hc => ?_)
  · rw [if_pos hc] at h
    exact ok_113_72 hr28 h
  · rw [if_neg hc] at h
    refine gs_0 (pc' := 69) (L' := [some (.ref l0), some (.int l1), some (.int l2), some (.ref l3), some (.int x_1), some (.int x_5), some (.int l6), none, none]) (st' := [.ref l0]) cd_113_68 rfl rfl ?_
    obtain ⟨ht, h⟩ := gO_s h
    obtain ⟨w_6, I_7, J_8, hcl, h⟩ := cV_s h
    refine gs_call (as := [.ref l0]) (rest := []) cd_113_69 rfl (by decide) rfl (sm_rv_ok (by decide) ht) (Nat.le_of_ble_eq_true rfl) (Nat.le_of_ble_eq_true rfl) rfl hcl ?_
    exact ok_113_72 hr28 h
noncomputable def f_113_28 (K : Nat → Value) (k : Nat) (d : Nat) : Nat → Int32 → Int32 → Nat → Int32 → Int32 → aW → aI → aJ → Option aR :=
  match k with
  | 0 => fun _ _ _ _ _ _ _ _ _ => none
  | k + 1 => fun l0 l1 l2 l3 l4 l5 w I J =>
  lt_ (f_113_28 K k d) fun r28 =>
  if l5 = 0 then
    gO w 6 l0 (
    cV (Cl K d 93 [.ref l0, .int 41] w I J) fun w_1 I_2 J_3 =>
    gO w_1 6 l0 (
    lt_ (I_2 l0 30) fun x_4 =>
    f_113_87 K k d l0 l1 l2 l3 l4 l5 x_4 w_1 I_2 J_3))
  else
    gO w 6 l0 (
    cI (Cl K d 101 [.ref l0] w I J) fun x_8 w_5 I_6 J_7 =>
    if 6 ≤ l4 then
      f_113_52 K k d r28 l0 l1 l2 l3 l4 l5 x_8 w_5 I_6 J_7
    else
      gA w_5 10 10 l3 l4 (
      lt_ (sm_up2 I_6 l3 (l4 : Int32).toNatClampNeg x_8) fun I_9 =>
      f_113_52 K k d r28 l0 l1 l2 l3 l4 l5 x_8 w_5 I_9 J_7))
theorem ok_113_28 {K : Nat → Value} {d : Nat} : ∀ {k : Nat} {l0 : Nat} {l1 : Int32} {l2 : Int32} {l3 : Nat} {l4 : Int32} {l5 : Int32} {w : aW} {I : aI} {J : aJ} {R : aR}, f_113_28 K k d l0 l1 l2 l3 l4 l5 w I J = some R → Go K (d + 1) 113 28 [some (.ref l0), some (.int l1), some (.int l2), some (.ref l3), some (.int l4), some (.int l5), none, none, none] [] w I J R := by
  intro k
  induction k with
  | zero => intro l0 l1 l2 l3 l4 l5 w I J R h; cases h
  | succ k ih =>
    intro l0 l1 l2 l3 l4 l5 w I J R h
    have hr28 : ∀ (l0 : Nat) (l1 : Int32) (l2 : Int32) (l3 : Nat) (l4 : Int32) (l5 : Int32) (w : aW) (I : aI) (J : aJ) (R : aR), f_113_28 K k d l0 l1 l2 l3 l4 l5 w I J = some R → Go K (d + 1) 113 28 [some (.ref l0), some (.int l1), some (.int l2), some (.ref l3), some (.int l4), some (.int l5), none, none, none] [] w I J R := fun l0 l1 l2 l3 l4 l5 w I J R h => ih h
    rw [f_113_28] at h
    obtain ⟨r28, hx, h⟩ := lt_s_ h
    rw [hx] at hr28
    clear hx ih
    refine gs_0 (pc' := 30) (L' := [some (.ref l0), some (.int l1), some (.int l2), some (.ref l3), some (.int l4), some (.int l5), none, none, none]) (st' := [.int l5]) cd_113_28 rfl rfl ?_
    refine gs_0 (pc' := if l5 = 0 then 75 else 33) (L' := [some (.ref l0), some (.int l1), some (.int l2), some (.ref l3), some (.int l4), some (.int l5), none, none, none]) (st' := []) cd_113_30 rfl rfl ?_
    refine go_ite (fun hc => ?_) (fun hc => ?_)
    · rw [if_pos hc] at h
      refine gs_0 (pc' := 76) (L' := [some (.ref l0), some (.int l1), some (.int l2), some (.ref l3), some (.int l4), some (.int l5), none, none, none]) (st' := [.ref l0]) cd_113_75 rfl rfl ?_
      refine gs_0 (pc' := 78) (L' := [some (.ref l0), some (.int l1), some (.int l2), some (.ref l3), some (.int l4), some (.int l5), none, none, none]) (st' := [.int 41, .ref l0]) cd_113_76 rfl rfl ?_
      obtain ⟨ht, h⟩ := gO_s h
      obtain ⟨w_1, I_2, J_3, hcl, h⟩ := cV_s h
      refine gs_call (as := [.ref l0, .int 41]) (rest := []) cd_113_78 rfl (by decide) rfl (sm_rv_ok (by decide) ht) (Nat.le_of_ble_eq_true rfl) (Nat.le_of_ble_eq_true rfl) rfl hcl ?_
      refine gs_0 (pc' := 82) (L' := [some (.ref l0), some (.int l1), some (.int l2), some (.ref l3), some (.int l4), some (.int l5), none, none, none]) (st' := [.ref l0]) cd_113_81 rfl rfl ?_
      obtain ⟨ht, h⟩ := gO_s h
      refine gs_gfI cd_113_82 (by decide) (by decide) ht ?_
      refine gs_0 (pc' := 87) (L' := [some (.ref l0), some (.int l1), some (.int l2), some (.ref l3), some (.int l4), some (.int l5), some (.int (I_2 l0 30)), none, none]) (st' := []) cd_113_85 rfl rfl ?_
      obtain ⟨x_4, hx, h⟩ := lt_s_ h
      rw [hx]
      clear hx
      exact ok_113_87 h
    · rw [if_neg hc] at h
      refine gs_0 (pc' := 34) (L' := [some (.ref l0), some (.int l1), some (.int l2), some (.ref l3), some (.int l4), some (.int l5), none, none, none]) (st' := [.ref l0]) cd_113_33 rfl rfl ?_
      obtain ⟨ht, h⟩ := gO_s h
      obtain ⟨x_8, w_5, I_6, J_7, hcl, h⟩ := cI_s h
      refine gs_call (as := [.ref l0]) (rest := []) cd_113_34 rfl (by decide) rfl (sm_rv_ok (by decide) ht) (Nat.le_of_ble_eq_true rfl) (Nat.le_of_ble_eq_true rfl) rfl hcl ?_
      refine gs_0 (pc' := 39) (L' := [some (.ref l0), some (.int l1), some (.int l2), some (.ref l3), some (.int l4), some (.int l5), some (.int x_8), none, none]) (st' := []) cd_113_37 rfl rfl ?_
      refine gs_0 (pc' := 41) (L' := [some (.ref l0), some (.int l1), some (.int l2), some (.ref l3), some (.int l4), some (.int l5), some (.int x_8), none, none]) (st' := [.int l4]) cd_113_39 rfl rfl ?_
      refine gs_0 (pc' := 43) (L' := [some (.ref l0), some (.int l1), some (.int l2), some (.ref l3), some (.int l4), some (.int l5), some (.int x_8), none, none]) (st' := [.int 6, .int l4]) cd_113_41 rfl rfl ?_
      refine gs_0 (pc' := if 6 ≤ l4 then 52 else 46) (L' := [some (.ref l0), some (.int l1), some (.int l2), some (.ref l3), some (.int l4), some (.int l5), some (.int x_8), none, none]) (st' := []) cd_113_43 rfl rfl ?_
      refine go_ite (fun hc => ?_) (fun hc => ?_)
      · rw [if_pos hc] at h
        exact ok_113_52 hr28 h
      · rw [if_neg hc] at h
        refine gs_0 (pc' := 47) (L' := [some (.ref l0), some (.int l1), some (.int l2), some (.ref l3), some (.int l4), some (.int l5), some (.int x_8), none, none]) (st' := [.ref l3]) cd_113_46 rfl rfl ?_
        refine gs_0 (pc' := 49) (L' := [some (.ref l0), some (.int l1), some (.int l2), some (.ref l3), some (.int l4), some (.int l5), some (.int x_8), none, none]) (st' := [.int l4, .ref l3]) cd_113_47 rfl rfl ?_
        refine gs_0 (pc' := 51) (L' := [some (.ref l0), some (.int l1), some (.int l2), some (.ref l3), some (.int l4), some (.int l5), some (.int x_8), none, none]) (st' := [.int x_8, .int l4, .ref l3]) cd_113_49 rfl rfl ?_
        obtain ⟨ht, h⟩ := gA_s h
        refine gs_iast cd_113_51 ht ?_
        obtain ⟨I_9, hx, h⟩ := lt_s_ h
        rw [hx]
        exact ok_113_52 hr28 h
noncomputable def f_113_26 (K : Nat → Value) (k d : Nat) (l0 : Nat) (l1 : Int32) (l2 : Int32) (l3 : Nat) (l4 : Int32) (s0 : Int32) (w : aW) (I : aI) (J : aJ) : Option aR :=
  f_113_28 K k d l0 l1 l2 l3 l4 s0 w I J
theorem ok_113_26 {K : Nat → Value} {k d : Nat} {l0 : Nat} {l1 : Int32} {l2 : Int32} {l3 : Nat} {l4 : Int32} {s0 : Int32} {w : aW} {I : aI} {J : aJ} {R : aR} (h : f_113_26 K k d l0 l1 l2 l3 l4 s0 w I J = some R) : Go K (d + 1) 113 26 [some (.ref l0), some (.int l1), some (.int l2), some (.ref l3), some (.int l4), none, none, none, none] [.int s0] w I J R := by
  unfold f_113_26 at h
  refine gs_0 (pc' := 28) (L' := [some (.ref l0), some (.int l1), some (.int l2), some (.ref l3), some (.int l4), some (.int s0), none, none, none]) (st' := []) cd_113_26 rfl rfl ?_
  exact ok_113_28 h
noncomputable def f_113 (K : Nat → Value) (k d : Nat) (l0 : Nat) (l1 : Int32) (l2 : Int32) (w : aW) (I : aI) (J : aJ) : Option aR :=
  gC (¬ (6 : Int32) < 0 ∧ (6 : Int32).toNatClampNeg ≤ 1000000) (
  lt_ w.2.2.1 fun q_1 => lt_ (sm_alc w 10 (6 : Int32).toNatClampNeg (6 : Int32).toNatClampNeg) fun w_2 => lt_ (sm_up1 I q_1 (fun _ => 0)) fun I_3 => lt_ (sm_up1 J q_1 (fun _ => 0)) fun J_4 =>
  gO w_2 6 l0 (
  cV (Cl K d 84 [.ref l0] w_2 I_3 J_4) fun w_5 I_6 J_7 =>
  gO w_5 6 l0 (
  cI (Cl K d 94 [.ref l0, .int 41] w_5 I_6 J_7) fun x_11 w_8 I_9 J_10 =>
  if ¬ x_11 = 0 then
    f_113_26 K k d l0 l1 l2 q_1 0 0 w_8 I_9 J_10
  else
    f_113_26 K k d l0 l1 l2 q_1 0 1 w_8 I_9 J_10)))
theorem ok_113 {K : Nat → Value} {k d : Nat} {l0 : Nat} {l1 : Int32} {l2 : Int32} {w : aW} {I : aI} {J : aJ} {R : aR} (h : f_113 K k d l0 l1 l2 w I J = some R) : Go K (d + 1) 113 0 [some (.ref l0), some (.int l1), some (.int l2), none, none, none, none, none, none] [] w I J R := by
  unfold f_113 at h
  refine gs_0 (pc' := 2) (L' := [some (.ref l0), some (.int l1), some (.int l2), none, none, none, none, none, none]) (st' := [.int 6]) cd_113_0 rfl rfl ?_
  obtain ⟨hc, h⟩ := gC_s h
  refine gs_newa cd_113_2 hc ?_
  obtain ⟨q_1, hq, h⟩ := lt_s_ h
  obtain ⟨w_2, hx, h⟩ := lt_s_ h
  obtain ⟨I_3, hx1, h⟩ := lt_s_ h
  obtain ⟨J_4, hx2, h⟩ := lt_s_ h
  rw [hq, hx, hx1, hx2]
  refine gs_0 (pc' := 5) (L' := [some (.ref l0), some (.int l1), some (.int l2), some (.ref q_1), none, none, none, none, none]) (st' := []) cd_113_4 rfl rfl ?_
  refine gs_0 (pc' := 6) (L' := [some (.ref l0), some (.int l1), some (.int l2), some (.ref q_1), none, none, none, none, none]) (st' := [.int 0]) cd_113_5 rfl rfl ?_
  refine gs_0 (pc' := 8) (L' := [some (.ref l0), some (.int l1), some (.int l2), some (.ref q_1), some (.int 0), none, none, none, none]) (st' := []) cd_113_6 rfl rfl ?_
  refine gs_0 (pc' := 9) (L' := [some (.ref l0), some (.int l1), some (.int l2), some (.ref q_1), some (.int 0), none, none, none, none]) (st' := [.ref l0]) cd_113_8 rfl rfl ?_
  obtain ⟨ht, h⟩ := gO_s h
  obtain ⟨w_5, I_6, J_7, hcl, h⟩ := cV_s h
  refine gs_call (as := [.ref l0]) (rest := []) cd_113_9 rfl (by decide) rfl (sm_rv_ok (by decide) ht) (Nat.le_of_ble_eq_true rfl) (Nat.le_of_ble_eq_true rfl) rfl hcl ?_
  refine gs_0 (pc' := 13) (L' := [some (.ref l0), some (.int l1), some (.int l2), some (.ref q_1), some (.int 0), none, none, none, none]) (st' := [.ref l0]) cd_113_12 rfl rfl ?_
  refine gs_0 (pc' := 15) (L' := [some (.ref l0), some (.int l1), some (.int l2), some (.ref q_1), some (.int 0), none, none, none, none]) (st' := [.int 41, .ref l0]) cd_113_13 rfl rfl ?_
  obtain ⟨ht, h⟩ := gO_s h
  obtain ⟨x_11, w_8, I_9, J_10, hcl, h⟩ := cI_s h
  refine gs_call (as := [.ref l0, .int 41]) (rest := []) cd_113_15 rfl (by decide) rfl (sm_rv_ok (by decide) ht) (Nat.le_of_ble_eq_true rfl) (Nat.le_of_ble_eq_true rfl) rfl hcl ?_
  refine gs_0 (pc' := if ¬ x_11 = 0 then 25 else 21) (L' := [some (.ref l0), some (.int l1), some (.int l2), some (.ref q_1), some (.int 0), none, none, none, none]) (st' := []) cd_113_18 rfl rfl ?_
  refine go_ite (fun hc => ?_) (fun hc => ?_)
  · rw [if_pos hc] at h
    refine gs_0 (pc' := 26) (L' := [some (.ref l0), some (.int l1), some (.int l2), some (.ref q_1), some (.int 0), none, none, none, none]) (st' := [.int 0]) cd_113_25 rfl rfl ?_
    exact ok_113_26 h
  · rw [if_neg hc] at h
    refine gs_0 (pc' := 22) (L' := [some (.ref l0), some (.int l1), some (.int l2), some (.ref q_1), some (.int 0), none, none, none, none]) (st' := [.int 1]) cd_113_21 rfl rfl ?_
    refine gs_0 (pc' := 26) (L' := [some (.ref l0), some (.int l1), some (.int l2), some (.ref q_1), some (.int 0), none, none, none, none]) (st' := [.int 1]) cd_113_22 rfl rfl ?_
    exact ok_113_26 h
theorem cl_113 {K : Nat → Value} {k d : Nat} {l0 : Nat} {l1 : Int32} {l2 : Int32} {w : aW} {I : aI} {J : aJ} {R : aR} (h : f_113 K k d l0 l1 l2 w I J = some R) : Cl K (d + 1) 113 [.ref l0, .int l1, .int l2] w I J = some R := Cl_of (ok_113 h)
/-! ProvedMachineModel.known(II)I -/
set_option maxRecDepth 20000 in
theorem gl_114 : gcd.lookup 114 = some gw_114 := rfl
theorem cd_114_0 : sm_cd 114 0 = some (.aload_n 0, 1, 0, 0, 0, 0, 0, 0, 0) := cd_of gl_114 rfl
theorem cd_114_1 : sm_cd 114 1 = some (.iload_n 1, 1, 1, 0, 0, 0, 0, 0, 0) := cd_of gl_114 rfl
theorem cd_114_2 : sm_cd 114 2 = some (.invokevirtual 218, 3, 97, 0, 1, 3, 6, 0, 0) := cd_of gl_114 rfl
theorem cd_114_5 : sm_cd 114 5 = some (.istore_n 3, 1, 3, 0, 0, 0, 0, 0, 0) := cd_of gl_114 rfl
theorem cd_114_6 : sm_cd 114 6 = some (.aload_n 0, 1, 0, 0, 0, 0, 0, 0, 0) := cd_of gl_114 rfl
theorem cd_114_7 : sm_cd 114 7 = some (.iload_n 3, 1, 3, 0, 0, 0, 0, 0, 0) := cd_of gl_114 rfl
theorem cd_114_8 : sm_cd 114 8 = some (.ifCond .lt 7, 3, 15, 0, 0, 0, 0, 0, 0) := cd_of gl_114 rfl
theorem cd_114_11 : sm_cd 114 11 = some (.iconst 1, 1, 0, 0, 0, 0, 0, 1, 0) := cd_of gl_114 rfl
theorem cd_114_12 : sm_cd 114 12 = some (.goto 4, 3, 16, 0, 0, 0, 0, 0, 0) := cd_of gl_114 rfl
theorem cd_114_15 : sm_cd 114 15 = some (.iconst 0, 1, 0, 0, 0, 0, 0, 0, 0) := cd_of gl_114 rfl
theorem cd_114_16 : sm_cd 114 16 = some (.iload_n 2, 1, 2, 0, 0, 0, 0, 0, 0) := cd_of gl_114 rfl
theorem cd_114_17 : sm_cd 114 17 = some (.invokevirtual 221, 3, 92, 0, 2, 3, 6, 0, 0) := cd_of gl_114 rfl
theorem cd_114_20 : sm_cd 114 20 = some (.iconst 0, 1, 0, 0, 0, 0, 0, 0, 0) := cd_of gl_114 rfl
theorem cd_114_21 : sm_cd 114 21 = some (.iload_n 3, 1, 3, 0, 0, 0, 0, 0, 0) := cd_of gl_114 rfl
theorem cd_114_22 : sm_cd 114 22 = some (.invokestatic 225, 3, 0, 7, 0, 0, 0, 0, 0) := cd_of gl_114 rfl
theorem cd_114_25 : sm_cd 114 25 = some (.ireturn, 1, 0, 0, 1, 0, 0, 0, 0) := cd_of gl_114 rfl
noncomputable def f_114_16 (K : Nat → Value) (k d : Nat) (l0 : Nat) (l1 : Int32) (l2 : Int32) (l3 : Int32) (s0 : Nat) (s1 : Int32) (w : aW) (I : aI) (J : aJ) : Option aR :=
  gO w 6 s0 (
  cV (Cl K d 92 [.ref s0, .int s1, .int l2] w I J) fun w_1 I_2 J_3 =>
  some (some (.int ((if (0 : Int32) < (l3 : Int32) then (l3 : Int32) else (0 : Int32)))), w_1, I_2, J_3))
theorem ok_114_16 {K : Nat → Value} {k d : Nat} {l0 : Nat} {l1 : Int32} {l2 : Int32} {l3 : Int32} {s0 : Nat} {s1 : Int32} {w : aW} {I : aI} {J : aJ} {R : aR} (h : f_114_16 K k d l0 l1 l2 l3 s0 s1 w I J = some R) : Go K (d + 1) 114 16 [some (.ref l0), some (.int l1), some (.int l2), some (.int l3)] [.int s1, .ref s0] w I J R := by
  unfold f_114_16 at h
  refine gs_0 (pc' := 17) (L' := [some (.ref l0), some (.int l1), some (.int l2), some (.int l3)]) (st' := [.int l2, .int s1, .ref s0]) cd_114_16 rfl rfl ?_
  obtain ⟨ht, h⟩ := gO_s h
  obtain ⟨w_1, I_2, J_3, hcl, h⟩ := cV_s h
  refine gs_call (as := [.ref s0, .int s1, .int l2]) (rest := []) cd_114_17 rfl (by decide) rfl (sm_rv_ok (by decide) ht) (Nat.le_of_ble_eq_true rfl) (Nat.le_of_ble_eq_true rfl) rfl hcl ?_
  refine gs_0 (pc' := 21) (L' := [some (.ref l0), some (.int l1), some (.int l2), some (.int l3)]) (st' := [.int 0]) cd_114_20 rfl rfl ?_
  refine gs_0 (pc' := 22) (L' := [some (.ref l0), some (.int l1), some (.int l2), some (.int l3)]) (st' := [.int l3, .int 0]) cd_114_21 rfl rfl ?_
  refine gsp (pc' := 25) (L' := [some (.ref l0), some (.int l1), some (.int l2), some (.int l3)]) (st' := [.int ((if (0 : Int32) < (l3 : Int32) then (l3 : Int32) else (0 : Int32)))]) cd_114_22 rfl (by decide) rfl ?_
  cases h
  exact gs_ri cd_114_25 (Or.inl rfl)
noncomputable def f_114 (K : Nat → Value) (k d : Nat) (l0 : Nat) (l1 : Int32) (l2 : Int32) (w : aW) (I : aI) (J : aJ) : Option aR :=
  gO w 6 l0 (
  cI (Cl K d 97 [.ref l0, .int l1] w I J) fun x_4 w_1 I_2 J_3 =>
  if x_4 < 0 then
    f_114_16 K k d l0 l1 l2 x_4 l0 0 w_1 I_2 J_3
  else
    f_114_16 K k d l0 l1 l2 x_4 l0 1 w_1 I_2 J_3)
theorem ok_114 {K : Nat → Value} {k d : Nat} {l0 : Nat} {l1 : Int32} {l2 : Int32} {w : aW} {I : aI} {J : aJ} {R : aR} (h : f_114 K k d l0 l1 l2 w I J = some R) : Go K (d + 1) 114 0 [some (.ref l0), some (.int l1), some (.int l2), none] [] w I J R := by
  unfold f_114 at h
  refine gs_0 (pc' := 1) (L' := [some (.ref l0), some (.int l1), some (.int l2), none]) (st' := [.ref l0]) cd_114_0 rfl rfl ?_
  refine gs_0 (pc' := 2) (L' := [some (.ref l0), some (.int l1), some (.int l2), none]) (st' := [.int l1, .ref l0]) cd_114_1 rfl rfl ?_
  obtain ⟨ht, h⟩ := gO_s h
  obtain ⟨x_4, w_1, I_2, J_3, hcl, h⟩ := cI_s h
  refine gs_call (as := [.ref l0, .int l1]) (rest := []) cd_114_2 rfl (by decide) rfl (sm_rv_ok (by decide) ht) (Nat.le_of_ble_eq_true rfl) (Nat.le_of_ble_eq_true rfl) rfl hcl ?_
  refine gs_0 (pc' := 6) (L' := [some (.ref l0), some (.int l1), some (.int l2), some (.int x_4)]) (st' := []) cd_114_5 rfl rfl ?_
  refine gs_0 (pc' := 7) (L' := [some (.ref l0), some (.int l1), some (.int l2), some (.int x_4)]) (st' := [.ref l0]) cd_114_6 rfl rfl ?_
  refine gs_0 (pc' := 8) (L' := [some (.ref l0), some (.int l1), some (.int l2), some (.int x_4)]) (st' := [.int x_4, .ref l0]) cd_114_7 rfl rfl ?_
  refine gs_0 (pc' := if x_4 < 0 then 15 else 11) (L' := [some (.ref l0), some (.int l1), some (.int l2), some (.int x_4)]) (st' := [.ref l0]) cd_114_8 rfl rfl ?_
  refine go_ite (fun hc => ?_) (fun hc => ?_)
  · rw [if_pos hc] at h
    refine gs_0 (pc' := 16) (L' := [some (.ref l0), some (.int l1), some (.int l2), some (.int x_4)]) (st' := [.int 0, .ref l0]) cd_114_15 rfl rfl ?_
    exact ok_114_16 h
  · rw [if_neg hc] at h
    refine gs_0 (pc' := 12) (L' := [some (.ref l0), some (.int l1), some (.int l2), some (.int x_4)]) (st' := [.int 1, .ref l0]) cd_114_11 rfl rfl ?_
    refine gs_0 (pc' := 16) (L' := [some (.ref l0), some (.int l1), some (.int l2), some (.int x_4)]) (st' := [.int 1, .ref l0]) cd_114_12 rfl rfl ?_
    exact ok_114_16 h
theorem cl_114 {K : Nat → Value} {k d : Nat} {l0 : Nat} {l1 : Int32} {l2 : Int32} {w : aW} {I : aI} {J : aJ} {R : aR} (h : f_114 K k d l0 l1 l2 w I J = some R) : Cl K (d + 1) 114 [.ref l0, .int l1, .int l2] w I J = some R := Cl_of (ok_114 h)
/-! ProvedMachineModel.typeOf(I)I -/
set_option maxRecDepth 20000 in
theorem gl_115 : gcd.lookup 115 = some gw_115 := rfl
theorem cd_115_0 : sm_cd 115 0 = some (.aload_n 0, 1, 0, 0, 0, 0, 0, 0, 0) := cd_of gl_115 rfl
theorem cd_115_1 : sm_cd 115 1 = some (.getfield 38, 3, 6, 12, 2, 0, 0, 0, 0) := cd_of gl_115 rfl
theorem cd_115_4 : sm_cd 115 4 = some (.bipush 6, 2, 0, 0, 0, 0, 0, 6, 0) := cd_of gl_115 rfl
theorem cd_115_6 : sm_cd 115 6 = some (.aload_n 0, 1, 0, 0, 0, 0, 0, 0, 0) := cd_of gl_115 rfl
theorem cd_115_7 : sm_cd 115 7 = some (.getfield 216, 3, 6, 30, 0, 0, 0, 0, 0) := cd_of gl_115 rfl
theorem cd_115_10 : sm_cd 115 10 = some (.imul, 1, 0, 0, 0, 0, 0, 0, 0) := cd_of gl_115 rfl
theorem cd_115_11 : sm_cd 115 11 = some (.iload_n 1, 1, 1, 0, 0, 0, 0, 0, 0) := cd_of gl_115 rfl
theorem cd_115_12 : sm_cd 115 12 = some (.iadd, 1, 0, 0, 0, 0, 0, 0, 0) := cd_of gl_115 rfl
theorem cd_115_13 : sm_cd 115 13 = some (.iaload, 1, 0, 0, 0, 0, 0, 0, 0) := cd_of gl_115 rfl
theorem cd_115_14 : sm_cd 115 14 = some (.ireturn, 1, 0, 0, 1, 0, 0, 0, 0) := cd_of gl_115 rfl
noncomputable def f_115 (K : Nat → Value) (k d : Nat) (l0 : Nat) (l1 : Int32) (w : aW) (I : aI) (J : aJ) : Option aR :=
  gO w 6 l0 (
  gV w l0 12 fun q_1 =>
  gO w 6 l0 (
  gA w 10 20 q_1 ((6 * (I l0 30)) + l1) (
  some (some (.int (I q_1 ((6 * (I l0 30)) + l1 : Int32).toNatClampNeg)), w, I, J))))
theorem ok_115 {K : Nat → Value} {k d : Nat} {l0 : Nat} {l1 : Int32} {w : aW} {I : aI} {J : aJ} {R : aR} (h : f_115 K k d l0 l1 w I J = some R) : Go K (d + 1) 115 0 [some (.ref l0), some (.int l1)] [] w I J R := by
  unfold f_115 at h
  refine gs_0 (pc' := 1) (L' := [some (.ref l0), some (.int l1)]) (st' := [.ref l0]) cd_115_0 rfl rfl ?_
  obtain ⟨ht, h⟩ := gO_s h
  obtain ⟨q_1, hv, h⟩ := gV_s h
  refine gs_gfR cd_115_1 (by decide) ht hv ?_
  refine gs_0 (pc' := 6) (L' := [some (.ref l0), some (.int l1)]) (st' := [.int 6, .ref q_1]) cd_115_4 rfl rfl ?_
  refine gs_0 (pc' := 7) (L' := [some (.ref l0), some (.int l1)]) (st' := [.ref l0, .int 6, .ref q_1]) cd_115_6 rfl rfl ?_
  obtain ⟨ht, h⟩ := gO_s h
  refine gs_gfI cd_115_7 (by decide) (by decide) ht ?_
  refine gs_0 (pc' := 11) (L' := [some (.ref l0), some (.int l1)]) (st' := [.int (6 * (I l0 30)), .ref q_1]) cd_115_10 rfl rfl ?_
  refine gs_0 (pc' := 12) (L' := [some (.ref l0), some (.int l1)]) (st' := [.int l1, .int (6 * (I l0 30)), .ref q_1]) cd_115_11 rfl rfl ?_
  refine gs_0 (pc' := 13) (L' := [some (.ref l0), some (.int l1)]) (st' := [.int ((6 * (I l0 30)) + l1), .ref q_1]) cd_115_12 rfl rfl ?_
  obtain ⟨ht, h⟩ := gA_s h
  refine gs_iald cd_115_13 ht ?_
  cases h
  exact gs_ri cd_115_14 (Or.inl rfl)
theorem cl_115 {K : Nat → Value} {k d : Nat} {l0 : Nat} {l1 : Int32} {w : aW} {I : aI} {J : aJ} {R : aR} (h : f_115 K k d l0 l1 w I J = some R) : Cl K (d + 1) 115 [.ref l0, .int l1] w I J = some R := Cl_of (ok_115 h)
/-! ProvedMachineModel.becomes(I)V -/
set_option maxRecDepth 20000 in
theorem gl_116 : gcd.lookup 116 = some gw_116 := rfl
theorem cd_116_0 : sm_cd 116 0 = some (.aload_n 0, 1, 0, 0, 0, 0, 0, 0, 0) := cd_of gl_116 rfl
theorem cd_116_1 : sm_cd 116 1 = some (.invokevirtual 279, 3, 91, 0, 0, 3, 6, 0, 0) := cd_of gl_116 rfl
theorem cd_116_4 : sm_cd 116 4 = some (.istore_n 2, 1, 2, 0, 0, 0, 0, 0, 0) := cd_of gl_116 rfl
theorem cd_116_5 : sm_cd 116 5 = some (.aload_n 0, 1, 0, 0, 0, 0, 0, 0, 0) := cd_of gl_116 rfl
theorem cd_116_6 : sm_cd 116 6 = some (.iload_n 2, 1, 2, 0, 0, 0, 0, 0, 0) := cd_of gl_116 rfl
theorem cd_116_7 : sm_cd 116 7 = some (.iload_n 1, 1, 1, 0, 0, 0, 0, 0, 0) := cd_of gl_116 rfl
theorem cd_116_8 : sm_cd 116 8 = some (.invokevirtual 285, 3, 114, 0, 2, 4, 6, 0, 0) := cd_of gl_116 rfl
theorem cd_116_11 : sm_cd 116 11 = some (.istore_n 3, 1, 3, 0, 0, 0, 0, 0, 0) := cd_of gl_116 rfl
theorem cd_116_12 : sm_cd 116 12 = some (.aload_n 0, 1, 0, 0, 0, 0, 0, 0, 0) := cd_of gl_116 rfl
theorem cd_116_13 : sm_cd 116 13 = some (.bipush 91, 2, 0, 0, 0, 0, 0, 91, 0) := cd_of gl_116 rfl
theorem cd_116_15 : sm_cd 116 15 = some (.invokevirtual 200, 3, 94, 0, 1, 2, 6, 0, 0) := cd_of gl_116 rfl
theorem cd_116_18 : sm_cd 116 18 = some (.ifCond .eq 82, 3, 100, 0, 0, 0, 0, 0, 0) := cd_of gl_116 rfl
theorem cd_116_21 : sm_cd 116 21 = some (.aload_n 0, 1, 0, 0, 0, 0, 0, 0, 0) := cd_of gl_116 rfl
theorem cd_116_22 : sm_cd 116 22 = some (.iconst 3, 1, 0, 0, 0, 0, 0, 3, 0) := cd_of gl_116 rfl
theorem cd_116_23 : sm_cd 116 23 = some (.iload_n 3, 1, 3, 0, 0, 0, 0, 0, 0) := cd_of gl_116 rfl
theorem cd_116_24 : sm_cd 116 24 = some (.invokevirtual 247, 3, 111, 0, 2, 3, 6, 0, 0) := cd_of gl_116 rfl
theorem cd_116_27 : sm_cd 116 27 = some (.aload_n 0, 1, 0, 0, 0, 0, 0, 0, 0) := cd_of gl_116 rfl
theorem cd_116_28 : sm_cd 116 28 = some (.invokevirtual 197, 3, 84, 0, 0, 1, 6, 0, 0) := cd_of gl_116 rfl
theorem cd_116_31 : sm_cd 116 31 = some (.aload_n 0, 1, 0, 0, 0, 0, 0, 0, 0) := cd_of gl_116 rfl
theorem cd_116_32 : sm_cd 116 32 = some (.invokevirtual 241, 3, 101, 0, 0, 4, 6, 0, 0) := cd_of gl_116 rfl
theorem cd_116_35 : sm_cd 116 35 = some (.istore 4, 2, 4, 0, 0, 0, 0, 0, 0) := cd_of gl_116 rfl
theorem cd_116_37 : sm_cd 116 37 = some (.aload_n 0, 1, 0, 0, 0, 0, 0, 0, 0) := cd_of gl_116 rfl
theorem cd_116_38 : sm_cd 116 38 = some (.bipush 93, 2, 0, 0, 0, 0, 0, 93, 0) := cd_of gl_116 rfl
theorem cd_116_40 : sm_cd 116 40 = some (.invokevirtual 275, 3, 93, 0, 1, 2, 6, 0, 0) := cd_of gl_116 rfl
theorem cd_116_43 : sm_cd 116 43 = some (.aload_n 0, 1, 0, 0, 0, 0, 0, 0, 0) := cd_of gl_116 rfl
theorem cd_116_44 : sm_cd 116 44 = some (.bipush 61, 2, 0, 0, 0, 0, 0, 61, 0) := cd_of gl_116 rfl
theorem cd_116_46 : sm_cd 116 46 = some (.invokevirtual 275, 3, 93, 0, 1, 2, 6, 0, 0) := cd_of gl_116 rfl
theorem cd_116_49 : sm_cd 116 49 = some (.aload_n 0, 1, 0, 0, 0, 0, 0, 0, 0) := cd_of gl_116 rfl
theorem cd_116_50 : sm_cd 116 50 = some (.invokevirtual 241, 3, 101, 0, 0, 4, 6, 0, 0) := cd_of gl_116 rfl
theorem cd_116_53 : sm_cd 116 53 = some (.istore 5, 2, 5, 0, 0, 0, 0, 0, 0) := cd_of gl_116 rfl
theorem cd_116_55 : sm_cd 116 55 = some (.aload_n 0, 1, 0, 0, 0, 0, 0, 0, 0) := cd_of gl_116 rfl
theorem cd_116_56 : sm_cd 116 56 = some (.bipush 59, 2, 0, 0, 0, 0, 0, 59, 0) := cd_of gl_116 rfl
theorem cd_116_58 : sm_cd 116 58 = some (.invokevirtual 275, 3, 93, 0, 1, 2, 6, 0, 0) := cd_of gl_116 rfl
theorem cd_116_61 : sm_cd 116 61 = some (.aload_n 0, 1, 0, 0, 0, 0, 0, 0, 0) := cd_of gl_116 rfl
theorem cd_116_62 : sm_cd 116 62 = some (.aload_n 0, 1, 0, 0, 0, 0, 0, 0, 0) := cd_of gl_116 rfl
theorem cd_116_63 : sm_cd 116 63 = some (.iload_n 3, 1, 3, 0, 0, 0, 0, 0, 0) := cd_of gl_116 rfl
theorem cd_116_64 : sm_cd 116 64 = some (.invokevirtual 288, 3, 115, 0, 1, 2, 6, 0, 0) := cd_of gl_116 rfl
theorem cd_116_67 : sm_cd 116 67 = some (.iconst 2, 1, 0, 0, 0, 0, 0, 2, 0) := cd_of gl_116 rfl
theorem cd_116_68 : sm_cd 116 68 = some (.if_icmp .ne 17, 3, 85, 0, 0, 0, 0, 0, 0) := cd_of gl_116 rfl
theorem cd_116_71 : sm_cd 116 71 = some (.iload 4, 2, 4, 0, 0, 0, 0, 0, 0) := cd_of gl_116 rfl
theorem cd_116_73 : sm_cd 116 73 = some (.ifCond .ne 12, 3, 85, 0, 0, 0, 0, 0, 0) := cd_of gl_116 rfl
theorem cd_116_76 : sm_cd 116 76 = some (.iload 5, 2, 5, 0, 0, 0, 0, 0, 0) := cd_of gl_116 rfl
theorem cd_116_78 : sm_cd 116 78 = some (.ifCond .ne 7, 3, 85, 0, 0, 0, 0, 0, 0) := cd_of gl_116 rfl
theorem cd_116_81 : sm_cd 116 81 = some (.iconst 1, 1, 0, 0, 0, 0, 0, 1, 0) := cd_of gl_116 rfl
theorem cd_116_82 : sm_cd 116 82 = some (.goto 4, 3, 86, 0, 0, 0, 0, 0, 0) := cd_of gl_116 rfl
theorem cd_116_85 : sm_cd 116 85 = some (.iconst 0, 1, 0, 0, 0, 0, 0, 0, 0) := cd_of gl_116 rfl
theorem cd_116_86 : sm_cd 116 86 = some (.iload_n 1, 1, 1, 0, 0, 0, 0, 0, 0) := cd_of gl_116 rfl
theorem cd_116_87 : sm_cd 116 87 = some (.invokevirtual 244, 3, 110, 0, 2, 3, 6, 0, 0) := cd_of gl_116 rfl
theorem cd_116_90 : sm_cd 116 90 = some (.aload_n 0, 1, 0, 0, 0, 0, 0, 0, 0) := cd_of gl_116 rfl
theorem cd_116_91 : sm_cd 116 91 = some (.bipush 22, 2, 0, 0, 0, 0, 0, 22, 0) := cd_of gl_116 rfl
theorem cd_116_93 : sm_cd 116 93 = some (.iconst 0, 1, 0, 0, 0, 0, 0, 0, 0) := cd_of gl_116 rfl
theorem cd_116_94 : sm_cd 116 94 = some (.invokevirtual 247, 3, 111, 0, 2, 3, 6, 0, 0) := cd_of gl_116 rfl
theorem cd_116_97 : sm_cd 116 97 = some (.goto 48, 3, 145, 0, 0, 0, 0, 0, 0) := cd_of gl_116 rfl
theorem cd_116_100 : sm_cd 116 100 = some (.aload_n 0, 1, 0, 0, 0, 0, 0, 0, 0) := cd_of gl_116 rfl
theorem cd_116_101 : sm_cd 116 101 = some (.bipush 61, 2, 0, 0, 0, 0, 0, 61, 0) := cd_of gl_116 rfl
theorem cd_116_103 : sm_cd 116 103 = some (.invokevirtual 275, 3, 93, 0, 1, 2, 6, 0, 0) := cd_of gl_116 rfl
theorem cd_116_106 : sm_cd 116 106 = some (.aload_n 0, 1, 0, 0, 0, 0, 0, 0, 0) := cd_of gl_116 rfl
theorem cd_116_107 : sm_cd 116 107 = some (.invokevirtual 241, 3, 101, 0, 0, 4, 6, 0, 0) := cd_of gl_116 rfl
theorem cd_116_110 : sm_cd 116 110 = some (.istore 4, 2, 4, 0, 0, 0, 0, 0, 0) := cd_of gl_116 rfl
theorem cd_116_112 : sm_cd 116 112 = some (.aload_n 0, 1, 0, 0, 0, 0, 0, 0, 0) := cd_of gl_116 rfl
theorem cd_116_113 : sm_cd 116 113 = some (.bipush 59, 2, 0, 0, 0, 0, 0, 59, 0) := cd_of gl_116 rfl
theorem cd_116_115 : sm_cd 116 115 = some (.invokevirtual 275, 3, 93, 0, 1, 2, 6, 0, 0) := cd_of gl_116 rfl
theorem cd_116_118 : sm_cd 116 118 = some (.aload_n 0, 1, 0, 0, 0, 0, 0, 0, 0) := cd_of gl_116 rfl
theorem cd_116_119 : sm_cd 116 119 = some (.iload 4, 2, 4, 0, 0, 0, 0, 0, 0) := cd_of gl_116 rfl
theorem cd_116_121 : sm_cd 116 121 = some (.aload_n 0, 1, 0, 0, 0, 0, 0, 0, 0) := cd_of gl_116 rfl
theorem cd_116_122 : sm_cd 116 122 = some (.iload_n 3, 1, 3, 0, 0, 0, 0, 0, 0) := cd_of gl_116 rfl
theorem cd_116_123 : sm_cd 116 123 = some (.invokevirtual 288, 3, 115, 0, 1, 2, 6, 0, 0) := cd_of gl_116 rfl
theorem cd_116_126 : sm_cd 116 126 = some (.if_icmp .ne 7, 3, 133, 0, 0, 0, 0, 0, 0) := cd_of gl_116 rfl
theorem cd_116_129 : sm_cd 116 129 = some (.iconst 1, 1, 0, 0, 0, 0, 0, 1, 0) := cd_of gl_116 rfl
theorem cd_116_130 : sm_cd 116 130 = some (.goto 4, 3, 134, 0, 0, 0, 0, 0, 0) := cd_of gl_116 rfl
theorem cd_116_133 : sm_cd 116 133 = some (.iconst 0, 1, 0, 0, 0, 0, 0, 0, 0) := cd_of gl_116 rfl
theorem cd_116_134 : sm_cd 116 134 = some (.iload_n 1, 1, 1, 0, 0, 0, 0, 0, 0) := cd_of gl_116 rfl
theorem cd_116_135 : sm_cd 116 135 = some (.invokevirtual 244, 3, 110, 0, 2, 3, 6, 0, 0) := cd_of gl_116 rfl
theorem cd_116_138 : sm_cd 116 138 = some (.aload_n 0, 1, 0, 0, 0, 0, 0, 0, 0) := cd_of gl_116 rfl
theorem cd_116_139 : sm_cd 116 139 = some (.bipush 21, 2, 0, 0, 0, 0, 0, 21, 0) := cd_of gl_116 rfl
theorem cd_116_141 : sm_cd 116 141 = some (.iload_n 3, 1, 3, 0, 0, 0, 0, 0, 0) := cd_of gl_116 rfl
theorem cd_116_142 : sm_cd 116 142 = some (.invokevirtual 247, 3, 111, 0, 2, 3, 6, 0, 0) := cd_of gl_116 rfl
theorem cd_116_145 : sm_cd 116 145 = some (.return_, 1, 0, 0, 0, 0, 0, 0, 0) := cd_of gl_116 rfl
noncomputable def f_116_134 (K : Nat → Value) (k d : Nat) (l0 : Nat) (l1 : Int32) (l2 : Int32) (l3 : Int32) (l4 : Int32) (s0 : Nat) (s1 : Int32) (w : aW) (I : aI) (J : aJ) : Option aR :=
  gO w 6 s0 (
  cV (Cl K d 110 [.ref s0, .int s1, .int l1] w I J) fun w_1 I_2 J_3 =>
  gO w_1 6 l0 (
  cV (Cl K d 111 [.ref l0, .int 21, .int l3] w_1 I_2 J_3) fun w_4 I_5 J_6 =>
  some (none, w_4, I_5, J_6)))
theorem ok_116_134 {K : Nat → Value} {k d : Nat} {l0 : Nat} {l1 : Int32} {l2 : Int32} {l3 : Int32} {l4 : Int32} {s0 : Nat} {s1 : Int32} {w : aW} {I : aI} {J : aJ} {R : aR} (h : f_116_134 K k d l0 l1 l2 l3 l4 s0 s1 w I J = some R) : Go K (d + 1) 116 134 [some (.ref l0), some (.int l1), some (.int l2), some (.int l3), some (.int l4), none] [.int s1, .ref s0] w I J R := by
  unfold f_116_134 at h
  refine gs_0 (pc' := 135) (L' := [some (.ref l0), some (.int l1), some (.int l2), some (.int l3), some (.int l4), none]) (st' := [.int l1, .int s1, .ref s0]) cd_116_134 rfl rfl ?_
  obtain ⟨ht, h⟩ := gO_s h
  obtain ⟨w_1, I_2, J_3, hcl, h⟩ := cV_s h
  refine gs_call (as := [.ref s0, .int s1, .int l1]) (rest := []) cd_116_135 rfl (by decide) rfl (sm_rv_ok (by decide) ht) (Nat.le_of_ble_eq_true rfl) (Nat.le_of_ble_eq_true rfl) rfl hcl ?_
  refine gs_0 (pc' := 139) (L' := [some (.ref l0), some (.int l1), some (.int l2), some (.int l3), some (.int l4), none]) (st' := [.ref l0]) cd_116_138 rfl rfl ?_
  refine gs_0 (pc' := 141) (L' := [some (.ref l0), some (.int l1), some (.int l2), some (.int l3), some (.int l4), none]) (st' := [.int 21, .ref l0]) cd_116_139 rfl rfl ?_
  refine gs_0 (pc' := 142) (L' := [some (.ref l0), some (.int l1), some (.int l2), some (.int l3), some (.int l4), none]) (st' := [.int l3, .int 21, .ref l0]) cd_116_141 rfl rfl ?_
  obtain ⟨ht, h⟩ := gO_s h
  obtain ⟨w_4, I_5, J_6, hcl, h⟩ := cV_s h
  refine gs_call (as := [.ref l0, .int 21, .int l3]) (rest := []) cd_116_142 rfl (by decide) rfl (sm_rv_ok (by decide) ht) (Nat.le_of_ble_eq_true rfl) (Nat.le_of_ble_eq_true rfl) rfl hcl ?_
  cases h
  exact gsr cd_116_145 rfl rfl
noncomputable def f_116_86 (K : Nat → Value) (k d : Nat) (l0 : Nat) (l1 : Int32) (l2 : Int32) (l3 : Int32) (l4 : Int32) (l5 : Int32) (s0 : Nat) (s1 : Int32) (w : aW) (I : aI) (J : aJ) : Option aR :=
  gO w 6 s0 (
  cV (Cl K d 110 [.ref s0, .int s1, .int l1] w I J) fun w_1 I_2 J_3 =>
  gO w_1 6 l0 (
  cV (Cl K d 111 [.ref l0, .int 22, .int 0] w_1 I_2 J_3) fun w_4 I_5 J_6 =>
  some (none, w_4, I_5, J_6)))
theorem ok_116_86 {K : Nat → Value} {k d : Nat} {l0 : Nat} {l1 : Int32} {l2 : Int32} {l3 : Int32} {l4 : Int32} {l5 : Int32} {s0 : Nat} {s1 : Int32} {w : aW} {I : aI} {J : aJ} {R : aR} (h : f_116_86 K k d l0 l1 l2 l3 l4 l5 s0 s1 w I J = some R) : Go K (d + 1) 116 86 [some (.ref l0), some (.int l1), some (.int l2), some (.int l3), some (.int l4), some (.int l5)] [.int s1, .ref s0] w I J R := by
  unfold f_116_86 at h
  refine gs_0 (pc' := 87) (L' := [some (.ref l0), some (.int l1), some (.int l2), some (.int l3), some (.int l4), some (.int l5)]) (st' := [.int l1, .int s1, .ref s0]) cd_116_86 rfl rfl ?_
  obtain ⟨ht, h⟩ := gO_s h
  obtain ⟨w_1, I_2, J_3, hcl, h⟩ := cV_s h
  refine gs_call (as := [.ref s0, .int s1, .int l1]) (rest := []) cd_116_87 rfl (by decide) rfl (sm_rv_ok (by decide) ht) (Nat.le_of_ble_eq_true rfl) (Nat.le_of_ble_eq_true rfl) rfl hcl ?_
  refine gs_0 (pc' := 91) (L' := [some (.ref l0), some (.int l1), some (.int l2), some (.int l3), some (.int l4), some (.int l5)]) (st' := [.ref l0]) cd_116_90 rfl rfl ?_
  refine gs_0 (pc' := 93) (L' := [some (.ref l0), some (.int l1), some (.int l2), some (.int l3), some (.int l4), some (.int l5)]) (st' := [.int 22, .ref l0]) cd_116_91 rfl rfl ?_
  refine gs_0 (pc' := 94) (L' := [some (.ref l0), some (.int l1), some (.int l2), some (.int l3), some (.int l4), some (.int l5)]) (st' := [.int 0, .int 22, .ref l0]) cd_116_93 rfl rfl ?_
  obtain ⟨ht, h⟩ := gO_s h
  obtain ⟨w_4, I_5, J_6, hcl, h⟩ := cV_s h
  refine gs_call (as := [.ref l0, .int 22, .int 0]) (rest := []) cd_116_94 rfl (by decide) rfl (sm_rv_ok (by decide) ht) (Nat.le_of_ble_eq_true rfl) (Nat.le_of_ble_eq_true rfl) rfl hcl ?_
  refine gs_0 (pc' := 145) (L' := [some (.ref l0), some (.int l1), some (.int l2), some (.int l3), some (.int l4), some (.int l5)]) (st' := []) cd_116_97 rfl rfl ?_
  cases h
  exact gsr cd_116_145 rfl rfl
noncomputable def f_116_85 (K : Nat → Value) (k d : Nat) (l0 : Nat) (l1 : Int32) (l2 : Int32) (l3 : Int32) (l4 : Int32) (l5 : Int32) (s0 : Nat) (w : aW) (I : aI) (J : aJ) : Option aR :=
  f_116_86 K k d l0 l1 l2 l3 l4 l5 s0 0 w I J
theorem ok_116_85 {K : Nat → Value} {k d : Nat} {l0 : Nat} {l1 : Int32} {l2 : Int32} {l3 : Int32} {l4 : Int32} {l5 : Int32} {s0 : Nat} {w : aW} {I : aI} {J : aJ} {R : aR} (h : f_116_85 K k d l0 l1 l2 l3 l4 l5 s0 w I J = some R) : Go K (d + 1) 116 85 [some (.ref l0), some (.int l1), some (.int l2), some (.int l3), some (.int l4), some (.int l5)] [.ref s0] w I J R := by
  unfold f_116_85 at h
  refine gs_0 (pc' := 86) (L' := [some (.ref l0), some (.int l1), some (.int l2), some (.int l3), some (.int l4), some (.int l5)]) (st' := [.int 0, .ref s0]) cd_116_85 rfl rfl ?_
  exact ok_116_86 h
noncomputable def f_116 (K : Nat → Value) (k d : Nat) (l0 : Nat) (l1 : Int32) (w : aW) (I : aI) (J : aJ) : Option aR :=
  gO w 6 l0 (
  cI (Cl K d 91 [.ref l0] w I J) fun x_4 w_1 I_2 J_3 =>
  gO w_1 6 l0 (
  cI (Cl K d 114 [.ref l0, .int x_4, .int l1] w_1 I_2 J_3) fun x_8 w_5 I_6 J_7 =>
  gO w_5 6 l0 (
  cI (Cl K d 94 [.ref l0, .int 91] w_5 I_6 J_7) fun x_12 w_9 I_10 J_11 =>
  if x_12 = 0 then
    gO w_9 6 l0 (
    cV (Cl K d 93 [.ref l0, .int 61] w_9 I_10 J_11) fun w_13 I_14 J_15 =>
    gO w_13 6 l0 (
    cI (Cl K d 101 [.ref l0] w_13 I_14 J_15) fun x_19 w_16 I_17 J_18 =>
    gO w_16 6 l0 (
    cV (Cl K d 93 [.ref l0, .int 59] w_16 I_17 J_18) fun w_20 I_21 J_22 =>
    gO w_20 6 l0 (
    cI (Cl K d 115 [.ref l0, .int x_8] w_20 I_21 J_22) fun x_26 w_23 I_24 J_25 =>
    if ¬ x_19 = x_26 then
      f_116_134 K k d l0 l1 x_4 x_8 x_19 l0 0 w_23 I_24 J_25
    else
      f_116_134 K k d l0 l1 x_4 x_8 x_19 l0 1 w_23 I_24 J_25))))
  else
    gO w_9 6 l0 (
    cV (Cl K d 111 [.ref l0, .int 3, .int x_8] w_9 I_10 J_11) fun w_27 I_28 J_29 =>
    gO w_27 6 l0 (
    cV (Cl K d 84 [.ref l0] w_27 I_28 J_29) fun w_30 I_31 J_32 =>
    gO w_30 6 l0 (
    cI (Cl K d 101 [.ref l0] w_30 I_31 J_32) fun x_36 w_33 I_34 J_35 =>
    gO w_33 6 l0 (
    cV (Cl K d 93 [.ref l0, .int 93] w_33 I_34 J_35) fun w_37 I_38 J_39 =>
    gO w_37 6 l0 (
    cV (Cl K d 93 [.ref l0, .int 61] w_37 I_38 J_39) fun w_40 I_41 J_42 =>
    gO w_40 6 l0 (
    cI (Cl K d 101 [.ref l0] w_40 I_41 J_42) fun x_46 w_43 I_44 J_45 =>
    gO w_43 6 l0 (
    cV (Cl K d 93 [.ref l0, .int 59] w_43 I_44 J_45) fun w_47 I_48 J_49 =>
    gO w_47 6 l0 (
    cI (Cl K d 115 [.ref l0, .int x_8] w_47 I_48 J_49) fun x_53 w_50 I_51 J_52 =>
    if ¬ x_53 = 2 then
      f_116_85 K k d l0 l1 x_4 x_8 x_36 x_46 l0 w_50 I_51 J_52
    else
      if ¬ x_36 = 0 then
        f_116_85 K k d l0 l1 x_4 x_8 x_36 x_46 l0 w_50 I_51 J_52
      else
        if ¬ x_46 = 0 then
          f_116_85 K k d l0 l1 x_4 x_8 x_36 x_46 l0 w_50 I_51 J_52
        else
          f_116_86 K k d l0 l1 x_4 x_8 x_36 x_46 l0 1 w_50 I_51 J_52)))))))))))
theorem ok_116 {K : Nat → Value} {k d : Nat} {l0 : Nat} {l1 : Int32} {w : aW} {I : aI} {J : aJ} {R : aR} (h : f_116 K k d l0 l1 w I J = some R) : Go K (d + 1) 116 0 [some (.ref l0), some (.int l1), none, none, none, none] [] w I J R := by
  unfold f_116 at h
  refine gs_0 (pc' := 1) (L' := [some (.ref l0), some (.int l1), none, none, none, none]) (st' := [.ref l0]) cd_116_0 rfl rfl ?_
  obtain ⟨ht, h⟩ := gO_s h
  obtain ⟨x_4, w_1, I_2, J_3, hcl, h⟩ := cI_s h
  refine gs_call (as := [.ref l0]) (rest := []) cd_116_1 rfl (by decide) rfl (sm_rv_ok (by decide) ht) (Nat.le_of_ble_eq_true rfl) (Nat.le_of_ble_eq_true rfl) rfl hcl ?_
  refine gs_0 (pc' := 5) (L' := [some (.ref l0), some (.int l1), some (.int x_4), none, none, none]) (st' := []) cd_116_4 rfl rfl ?_
  refine gs_0 (pc' := 6) (L' := [some (.ref l0), some (.int l1), some (.int x_4), none, none, none]) (st' := [.ref l0]) cd_116_5 rfl rfl ?_
  refine gs_0 (pc' := 7) (L' := [some (.ref l0), some (.int l1), some (.int x_4), none, none, none]) (st' := [.int x_4, .ref l0]) cd_116_6 rfl rfl ?_
  refine gs_0 (pc' := 8) (L' := [some (.ref l0), some (.int l1), some (.int x_4), none, none, none]) (st' := [.int l1, .int x_4, .ref l0]) cd_116_7 rfl rfl ?_
  obtain ⟨ht, h⟩ := gO_s h
  obtain ⟨x_8, w_5, I_6, J_7, hcl, h⟩ := cI_s h
  refine gs_call (as := [.ref l0, .int x_4, .int l1]) (rest := []) cd_116_8 rfl (by decide) rfl (sm_rv_ok (by decide) ht) (Nat.le_of_ble_eq_true rfl) (Nat.le_of_ble_eq_true rfl) rfl hcl ?_
  refine gs_0 (pc' := 12) (L' := [some (.ref l0), some (.int l1), some (.int x_4), some (.int x_8), none, none]) (st' := []) cd_116_11 rfl rfl ?_
  refine gs_0 (pc' := 13) (L' := [some (.ref l0), some (.int l1), some (.int x_4), some (.int x_8), none, none]) (st' := [.ref l0]) cd_116_12 rfl rfl ?_
  refine gs_0 (pc' := 15) (L' := [some (.ref l0), some (.int l1), some (.int x_4), some (.int x_8), none, none]) (st' := [.int 91, .ref l0]) cd_116_13 rfl rfl ?_
  obtain ⟨ht, h⟩ := gO_s h
  obtain ⟨x_12, w_9, I_10, J_11, hcl, h⟩ := cI_s h
  refine gs_call (as := [.ref l0, .int 91]) (rest := []) cd_116_15 rfl (by decide) rfl (sm_rv_ok (by decide) ht) (Nat.le_of_ble_eq_true rfl) (Nat.le_of_ble_eq_true rfl) rfl hcl ?_
  refine gs_0 (pc' := if x_12 = 0 then 100 else 21) (L' := [some (.ref l0), some (.int l1), some (.int x_4), some (.int x_8), none, none]) (st' := []) cd_116_18 rfl rfl ?_
  refine go_ite (fun hc => ?_) (fun hc => ?_)
  · rw [if_pos hc] at h
    refine gs_0 (pc' := 101) (L' := [some (.ref l0), some (.int l1), some (.int x_4), some (.int x_8), none, none]) (st' := [.ref l0]) cd_116_100 rfl rfl ?_
    refine gs_0 (pc' := 103) (L' := [some (.ref l0), some (.int l1), some (.int x_4), some (.int x_8), none, none]) (st' := [.int 61, .ref l0]) cd_116_101 rfl rfl ?_
    obtain ⟨ht, h⟩ := gO_s h
    obtain ⟨w_13, I_14, J_15, hcl, h⟩ := cV_s h
    refine gs_call (as := [.ref l0, .int 61]) (rest := []) cd_116_103 rfl (by decide) rfl (sm_rv_ok (by decide) ht) (Nat.le_of_ble_eq_true rfl) (Nat.le_of_ble_eq_true rfl) rfl hcl ?_
    refine gs_0 (pc' := 107) (L' := [some (.ref l0), some (.int l1), some (.int x_4), some (.int x_8), none, none]) (st' := [.ref l0]) cd_116_106 rfl rfl ?_
    obtain ⟨ht, h⟩ := gO_s h
    obtain ⟨x_19, w_16, I_17, J_18, hcl, h⟩ := cI_s h
    refine gs_call (as := [.ref l0]) (rest := []) cd_116_107 rfl (by decide) rfl (sm_rv_ok (by decide) ht) (Nat.le_of_ble_eq_true rfl) (Nat.le_of_ble_eq_true rfl) rfl hcl ?_
    refine gs_0 (pc' := 112) (L' := [some (.ref l0), some (.int l1), some (.int x_4), some (.int x_8), some (.int x_19), none]) (st' := []) cd_116_110 rfl rfl ?_
    refine gs_0 (pc' := 113) (L' := [some (.ref l0), some (.int l1), some (.int x_4), some (.int x_8), some (.int x_19), none]) (st' := [.ref l0]) cd_116_112 rfl rfl ?_
    refine gs_0 (pc' := 115) (L' := [some (.ref l0), some (.int l1), some (.int x_4), some (.int x_8), some (.int x_19), none]) (st' := [.int 59, .ref l0]) cd_116_113 rfl rfl ?_
    obtain ⟨ht, h⟩ := gO_s h
    obtain ⟨w_20, I_21, J_22, hcl, h⟩ := cV_s h
    refine gs_call (as := [.ref l0, .int 59]) (rest := []) cd_116_115 rfl (by decide) rfl (sm_rv_ok (by decide) ht) (Nat.le_of_ble_eq_true rfl) (Nat.le_of_ble_eq_true rfl) rfl hcl ?_
    refine gs_0 (pc' := 119) (L' := [some (.ref l0), some (.int l1), some (.int x_4), some (.int x_8), some (.int x_19), none]) (st' := [.ref l0]) cd_116_118 rfl rfl ?_
    refine gs_0 (pc' := 121) (L' := [some (.ref l0), some (.int l1), some (.int x_4), some (.int x_8), some (.int x_19), none]) (st' := [.int x_19, .ref l0]) cd_116_119 rfl rfl ?_
    refine gs_0 (pc' := 122) (L' := [some (.ref l0), some (.int l1), some (.int x_4), some (.int x_8), some (.int x_19), none]) (st' := [.ref l0, .int x_19, .ref l0]) cd_116_121 rfl rfl ?_
    refine gs_0 (pc' := 123) (L' := [some (.ref l0), some (.int l1), some (.int x_4), some (.int x_8), some (.int x_19), none]) (st' := [.int x_8, .ref l0, .int x_19, .ref l0]) cd_116_122 rfl rfl ?_
    obtain ⟨ht, h⟩ := gO_s h
    obtain ⟨x_26, w_23, I_24, J_25, hcl, h⟩ := cI_s h
    refine gs_call (as := [.ref l0, .int x_8]) (rest := [.int x_19, .ref l0]) cd_116_123 rfl (by decide) rfl (sm_rv_ok (by decide) ht) (Nat.le_of_ble_eq_true rfl) (Nat.le_of_ble_eq_true rfl) rfl hcl ?_
    refine gs_0 (pc' := if ¬ x_19 = x_26 then 133 else 129) (L' := [some (.ref l0), some (.int l1), some (.int x_4), some (.int x_8), some (.int x_19), none]) (st' := [.ref l0]) cd_116_126 rfl rfl ?_
    refine go_ite (fun hc => ?_) (fun hc => ?_)
    · rw [if_pos hc] at h
      refine gs_0 (pc' := 134) (L' := [some (.ref l0), some (.int l1), some (.int x_4), some (.int x_8), some (.int x_19), none]) (st' := [.int 0, .ref l0]) cd_116_133 rfl rfl ?_
      exact ok_116_134 h
    · rw [if_neg hc] at h
      refine gs_0 (pc' := 130) (L' := [some (.ref l0), some (.int l1), some (.int x_4), some (.int x_8), some (.int x_19), none]) (st' := [.int 1, .ref l0]) cd_116_129 rfl rfl ?_
      refine gs_0 (pc' := 134) (L' := [some (.ref l0), some (.int l1), some (.int x_4), some (.int x_8), some (.int x_19), none]) (st' := [.int 1, .ref l0]) cd_116_130 rfl rfl ?_
      exact ok_116_134 h
  · rw [if_neg hc] at h
    refine gs_0 (pc' := 22) (L' := [some (.ref l0), some (.int l1), some (.int x_4), some (.int x_8), none, none]) (st' := [.ref l0]) cd_116_21 rfl rfl ?_
    refine gs_0 (pc' := 23) (L' := [some (.ref l0), some (.int l1), some (.int x_4), some (.int x_8), none, none]) (st' := [.int 3, .ref l0]) cd_116_22 rfl rfl ?_
    refine gs_0 (pc' := 24) (L' := [some (.ref l0), some (.int l1), some (.int x_4), some (.int x_8), none, none]) (st' := [.int x_8, .int 3, .ref l0]) cd_116_23 rfl rfl ?_
    obtain ⟨ht, h⟩ := gO_s h
    obtain ⟨w_27, I_28, J_29, hcl, h⟩ := cV_s h
    refine gs_call (as := [.ref l0, .int 3, .int x_8]) (rest := []) cd_116_24 rfl (by decide) rfl (sm_rv_ok (by decide) ht) (Nat.le_of_ble_eq_true rfl) (Nat.le_of_ble_eq_true rfl) rfl hcl ?_
    refine gs_0 (pc' := 28) (L' := [some (.ref l0), some (.int l1), some (.int x_4), some (.int x_8), none, none]) (st' := [.ref l0]) cd_116_27 rfl rfl ?_
    obtain ⟨ht, h⟩ := gO_s h
    obtain ⟨w_30, I_31, J_32, hcl, h⟩ := cV_s h
    refine gs_call (as := [.ref l0]) (rest := []) cd_116_28 rfl (by decide) rfl (sm_rv_ok (by decide) ht) (Nat.le_of_ble_eq_true rfl) (Nat.le_of_ble_eq_true rfl) rfl hcl ?_
    refine gs_0 (pc' := 32) (L' := [some (.ref l0), some (.int l1), some (.int x_4), some (.int x_8), none, none]) (st' := [.ref l0]) cd_116_31 rfl rfl ?_
    obtain ⟨ht, h⟩ := gO_s h
    obtain ⟨x_36, w_33, I_34, J_35, hcl, h⟩ := cI_s h
    refine gs_call (as := [.ref l0]) (rest := []) cd_116_32 rfl (by decide) rfl (sm_rv_ok (by decide) ht) (Nat.le_of_ble_eq_true rfl) (Nat.le_of_ble_eq_true rfl) rfl hcl ?_
    refine gs_0 (pc' := 37) (L' := [some (.ref l0), some (.int l1), some (.int x_4), some (.int x_8), some (.int x_36), none]) (st' := []) cd_116_35 rfl rfl ?_
    refine gs_0 (pc' := 38) (L' := [some (.ref l0), some (.int l1), some (.int x_4), some (.int x_8), some (.int x_36), none]) (st' := [.ref l0]) cd_116_37 rfl rfl ?_
    refine gs_0 (pc' := 40) (L' := [some (.ref l0), some (.int l1), some (.int x_4), some (.int x_8), some (.int x_36), none]) (st' := [.int 93, .ref l0]) cd_116_38 rfl rfl ?_
    obtain ⟨ht, h⟩ := gO_s h
    obtain ⟨w_37, I_38, J_39, hcl, h⟩ := cV_s h
    refine gs_call (as := [.ref l0, .int 93]) (rest := []) cd_116_40 rfl (by decide) rfl (sm_rv_ok (by decide) ht) (Nat.le_of_ble_eq_true rfl) (Nat.le_of_ble_eq_true rfl) rfl hcl ?_
    refine gs_0 (pc' := 44) (L' := [some (.ref l0), some (.int l1), some (.int x_4), some (.int x_8), some (.int x_36), none]) (st' := [.ref l0]) cd_116_43 rfl rfl ?_
    refine gs_0 (pc' := 46) (L' := [some (.ref l0), some (.int l1), some (.int x_4), some (.int x_8), some (.int x_36), none]) (st' := [.int 61, .ref l0]) cd_116_44 rfl rfl ?_
    obtain ⟨ht, h⟩ := gO_s h
    obtain ⟨w_40, I_41, J_42, hcl, h⟩ := cV_s h
    refine gs_call (as := [.ref l0, .int 61]) (rest := []) cd_116_46 rfl (by decide) rfl (sm_rv_ok (by decide) ht) (Nat.le_of_ble_eq_true rfl) (Nat.le_of_ble_eq_true rfl) rfl hcl ?_
    refine gs_0 (pc' := 50) (L' := [some (.ref l0), some (.int l1), some (.int x_4), some (.int x_8), some (.int x_36), none]) (st' := [.ref l0]) cd_116_49 rfl rfl ?_
    obtain ⟨ht, h⟩ := gO_s h
    obtain ⟨x_46, w_43, I_44, J_45, hcl, h⟩ := cI_s h
    refine gs_call (as := [.ref l0]) (rest := []) cd_116_50 rfl (by decide) rfl (sm_rv_ok (by decide) ht) (Nat.le_of_ble_eq_true rfl) (Nat.le_of_ble_eq_true rfl) rfl hcl ?_
    refine gs_0 (pc' := 55) (L' := [some (.ref l0), some (.int l1), some (.int x_4), some (.int x_8), some (.int x_36), some (.int x_46)]) (st' := []) cd_116_53 rfl rfl ?_
    refine gs_0 (pc' := 56) (L' := [some (.ref l0), some (.int l1), some (.int x_4), some (.int x_8), some (.int x_36), some (.int x_46)]) (st' := [.ref l0]) cd_116_55 rfl rfl ?_
    refine gs_0 (pc' := 58) (L' := [some (.ref l0), some (.int l1), some (.int x_4), some (.int x_8), some (.int x_36), some (.int x_46)]) (st' := [.int 59, .ref l0]) cd_116_56 rfl rfl ?_
    obtain ⟨ht, h⟩ := gO_s h
    obtain ⟨w_47, I_48, J_49, hcl, h⟩ := cV_s h
    refine gs_call (as := [.ref l0, .int 59]) (rest := []) cd_116_58 rfl (by decide) rfl (sm_rv_ok (by decide) ht) (Nat.le_of_ble_eq_true rfl) (Nat.le_of_ble_eq_true rfl) rfl hcl ?_
    refine gs_0 (pc' := 62) (L' := [some (.ref l0), some (.int l1), some (.int x_4), some (.int x_8), some (.int x_36), some (.int x_46)]) (st' := [.ref l0]) cd_116_61 rfl rfl ?_
    refine gs_0 (pc' := 63) (L' := [some (.ref l0), some (.int l1), some (.int x_4), some (.int x_8), some (.int x_36), some (.int x_46)]) (st' := [.ref l0, .ref l0]) cd_116_62 rfl rfl ?_
    refine gs_0 (pc' := 64) (L' := [some (.ref l0), some (.int l1), some (.int x_4), some (.int x_8), some (.int x_36), some (.int x_46)]) (st' := [.int x_8, .ref l0, .ref l0]) cd_116_63 rfl rfl ?_
    obtain ⟨ht, h⟩ := gO_s h
    obtain ⟨x_53, w_50, I_51, J_52, hcl, h⟩ := cI_s h
    refine gs_call (as := [.ref l0, .int x_8]) (rest := [.ref l0]) cd_116_64 rfl (by decide) rfl (sm_rv_ok (by decide) ht) (Nat.le_of_ble_eq_true rfl) (Nat.le_of_ble_eq_true rfl) rfl hcl ?_
    refine gs_0 (pc' := 68) (L' := [some (.ref l0), some (.int l1), some (.int x_4), some (.int x_8), some (.int x_36), some (.int x_46)]) (st' := [.int 2, .int x_53, .ref l0]) cd_116_67 rfl rfl ?_
    refine gs_0 (pc' := if ¬ x_53 = 2 then 85 else 71) (L' := [some (.ref l0), some (.int l1), some (.int x_4), some (.int x_8), some (.int x_36), some (.int x_46)]) (st' := [.ref l0]) cd_116_68 rfl rfl ?_
    refine go_ite (fun hc => ?_) (fun hc => ?_)
    · rw [if_pos hc] at h
      exact ok_116_85 h
    · rw [if_neg hc] at h
      refine gs_0 (pc' := 73) (L' := [some (.ref l0), some (.int l1), some (.int x_4), some (.int x_8), some (.int x_36), some (.int x_46)]) (st' := [.int x_36, .ref l0]) cd_116_71 rfl rfl ?_
      refine gs_0 (pc' := if ¬ x_36 = 0 then 85 else 76) (L' := [some (.ref l0), some (.int l1), some (.int x_4), some (.int x_8), some (.int x_36), some (.int x_46)]) (st' := [.ref l0]) cd_116_73 rfl rfl ?_
      refine go_ite (fun hc => ?_) (fun hc => ?_)
      · rw [if_pos hc] at h
        exact ok_116_85 h
      · rw [if_neg hc] at h
        refine gs_0 (pc' := 78) (L' := [some (.ref l0), some (.int l1), some (.int x_4), some (.int x_8), some (.int x_36), some (.int x_46)]) (st' := [.int x_46, .ref l0]) cd_116_76 rfl rfl ?_
        refine gs_0 (pc' := if ¬ x_46 = 0 then 85 else 81) (L' := [some (.ref l0), some (.int l1), some (.int x_4), some (.int x_8), some (.int x_36), some (.int x_46)]) (st' := [.ref l0]) cd_116_78 rfl rfl ?_
        refine go_ite (fun hc => ?_) (fun hc => ?_)
        · rw [if_pos hc] at h
          exact ok_116_85 h
        · rw [if_neg hc] at h
          refine gs_0 (pc' := 82) (L' := [some (.ref l0), some (.int l1), some (.int x_4), some (.int x_8), some (.int x_36), some (.int x_46)]) (st' := [.int 1, .ref l0]) cd_116_81 rfl rfl ?_
          refine gs_0 (pc' := 86) (L' := [some (.ref l0), some (.int l1), some (.int x_4), some (.int x_8), some (.int x_36), some (.int x_46)]) (st' := [.int 1, .ref l0]) cd_116_82 rfl rfl ?_
          exact ok_116_86 h
theorem cl_116 {K : Nat → Value} {k d : Nat} {l0 : Nat} {l1 : Int32} {w : aW} {I : aI} {J : aJ} {R : aR} (h : f_116 K k d l0 l1 w I J = some R) : Cl K (d + 1) 116 [.ref l0, .int l1] w I J = some R := Cl_of (ok_116 h)
/-! ProvedMachineModel.lead(I)V -/
set_option maxRecDepth 20000 in
theorem gl_117 : gcd.lookup 117 = some gw_117 := rfl
theorem cd_117_0 : sm_cd 117 0 = some (.iload_n 1, 1, 1, 0, 0, 0, 0, 0, 0) := cd_of gl_117 rfl
theorem cd_117_1 : sm_cd 117 1 = some (.sipush 300, 3, 0, 0, 0, 0, 0, 300, 0) := cd_of gl_117 rfl
theorem cd_117_4 : sm_cd 117 4 = some (.if_icmp .ge 13, 3, 17, 0, 0, 0, 0, 0, 0) := cd_of gl_117 rfl
theorem cd_117_7 : sm_cd 117 7 = some (.aload_n 0, 1, 0, 0, 0, 0, 0, 0, 0) := cd_of gl_117 rfl
theorem cd_117_8 : sm_cd 117 8 = some (.getfield 44, 3, 6, 15, 2, 0, 0, 0, 0) := cd_of gl_117 rfl
theorem cd_117_11 : sm_cd 117 11 = some (.iload_n 1, 1, 1, 0, 0, 0, 0, 0, 0) := cd_of gl_117 rfl
theorem cd_117_12 : sm_cd 117 12 = some (.aload_n 0, 1, 0, 0, 0, 0, 0, 0, 0) := cd_of gl_117 rfl
theorem cd_117_13 : sm_cd 117 13 = some (.getfield 213, 3, 6, 13, 0, 0, 0, 0, 0) := cd_of gl_117 rfl
theorem cd_117_16 : sm_cd 117 16 = some (.iastore, 1, 0, 0, 0, 0, 0, 0, 0) := cd_of gl_117 rfl
theorem cd_117_17 : sm_cd 117 17 = some (.return_, 1, 0, 0, 0, 0, 0, 0, 0) := cd_of gl_117 rfl
noncomputable def f_117 (K : Nat → Value) (k d : Nat) (l0 : Nat) (l1 : Int32) (w : aW) (I : aI) (J : aJ) : Option aR :=
  if 300 ≤ l1 then
    some (none, w, I, J)
  else
    gO w 6 l0 (
    gV w l0 15 fun q_1 =>
    gO w 6 l0 (
    gA w 10 10 q_1 l1 (
    lt_ (sm_up2 I q_1 (l1 : Int32).toNatClampNeg (I l0 13)) fun I_2 =>
    some (none, w, I_2, J))))
theorem ok_117 {K : Nat → Value} {k d : Nat} {l0 : Nat} {l1 : Int32} {w : aW} {I : aI} {J : aJ} {R : aR} (h : f_117 K k d l0 l1 w I J = some R) : Go K (d + 1) 117 0 [some (.ref l0), some (.int l1)] [] w I J R := by
  unfold f_117 at h
  refine gs_0 (pc' := 1) (L' := [some (.ref l0), some (.int l1)]) (st' := [.int l1]) cd_117_0 rfl rfl ?_
  refine gs_0 (pc' := 4) (L' := [some (.ref l0), some (.int l1)]) (st' := [.int 300, .int l1]) cd_117_1 rfl rfl ?_
  refine gs_0 (pc' := if 300 ≤ l1 then 17 else 7) (L' := [some (.ref l0), some (.int l1)]) (st' := []) cd_117_4 rfl rfl ?_
  refine go_ite (fun hc => ?_) (fun hc => ?_)
  · rw [if_pos hc] at h
    cases h
    exact gsr cd_117_17 rfl rfl
  · rw [if_neg hc] at h
    refine gs_0 (pc' := 8) (L' := [some (.ref l0), some (.int l1)]) (st' := [.ref l0]) cd_117_7 rfl rfl ?_
    obtain ⟨ht, h⟩ := gO_s h
    obtain ⟨q_1, hv, h⟩ := gV_s h
    refine gs_gfR cd_117_8 (by decide) ht hv ?_
    refine gs_0 (pc' := 12) (L' := [some (.ref l0), some (.int l1)]) (st' := [.int l1, .ref q_1]) cd_117_11 rfl rfl ?_
    refine gs_0 (pc' := 13) (L' := [some (.ref l0), some (.int l1)]) (st' := [.ref l0, .int l1, .ref q_1]) cd_117_12 rfl rfl ?_
    obtain ⟨ht, h⟩ := gO_s h
    refine gs_gfI cd_117_13 (by decide) (by decide) ht ?_
    obtain ⟨ht, h⟩ := gA_s h
    refine gs_iast cd_117_16 ht ?_
    obtain ⟨I_2, hx, h⟩ := lt_s_ h
    rw [hx]
    cases h
    exact gsr cd_117_17 rfl rfl
theorem cl_117 {K : Nat → Value} {k d : Nat} {l0 : Nat} {l1 : Int32} {w : aW} {I : aI} {J : aJ} {R : aR} (h : f_117 K k d l0 l1 w I J = some R) : Cl K (d + 1) 117 [.ref l0, .int l1] w I J = some R := Cl_of (ok_117 h)
/-! ProvedMachineModel.findShapes()V -/
set_option maxRecDepth 20000 in
theorem gl_118 : gcd.lookup 118 = some gw_118 := rfl
set_option maxRecDepth 20000 in
theorem cd_118_0 : sm_cd 118 0 = some (.iconst 0, 1, 0, 0, 0, 0, 0, 0, 0) := cd_of gl_118 rfl
set_option maxRecDepth 20000 in
theorem cd_118_1 : sm_cd 118 1 = some (.istore_n 1, 1, 1, 0, 0, 0, 0, 0, 0) := cd_of gl_118 rfl
set_option maxRecDepth 20000 in
theorem cd_118_2 : sm_cd 118 2 = some (.iload_n 1, 1, 1, 0, 0, 0, 0, 0, 0) := cd_of gl_118 rfl
set_option maxRecDepth 20000 in
theorem cd_118_3 : sm_cd 118 3 = some (.aload_n 0, 1, 0, 0, 0, 0, 0, 0, 0) := cd_of gl_118 rfl
set_option maxRecDepth 20000 in
theorem cd_118_4 : sm_cd 118 4 = some (.getfield 330, 3, 6, 17, 0, 0, 0, 0, 0) := cd_of gl_118 rfl
set_option maxRecDepth 20000 in
theorem cd_118_7 : sm_cd 118 7 = some (.if_icmp .ge 16, 3, 23, 0, 0, 0, 0, 0, 0) := cd_of gl_118 rfl
set_option maxRecDepth 20000 in
theorem cd_118_10 : sm_cd 118 10 = some (.aload_n 0, 1, 0, 0, 0, 0, 0, 0, 0) := cd_of gl_118 rfl
set_option maxRecDepth 20000 in
theorem cd_118_11 : sm_cd 118 11 = some (.getfield 102, 3, 6, 32, 2, 0, 0, 0, 0) := cd_of gl_118 rfl
set_option maxRecDepth 20000 in
theorem cd_118_14 : sm_cd 118 14 = some (.iload_n 1, 1, 1, 0, 0, 0, 0, 0, 0) := cd_of gl_118 rfl
set_option maxRecDepth 20000 in
theorem cd_118_15 : sm_cd 118 15 = some (.iconst (-1), 1, 0, 0, 0, 0, 0, (-1), 0) := cd_of gl_118 rfl
set_option maxRecDepth 20000 in
theorem cd_118_16 : sm_cd 118 16 = some (.iastore, 1, 0, 0, 0, 0, 0, 0, 0) := cd_of gl_118 rfl
set_option maxRecDepth 20000 in
theorem cd_118_17 : sm_cd 118 17 = some (.iinc 1 1, 3, 1, 0, 0, 0, 0, 1, 0) := cd_of gl_118 rfl
set_option maxRecDepth 20000 in
theorem cd_118_20 : sm_cd 118 20 = some (.goto (-18), 3, 2, 0, 0, 0, 0, 0, 0) := cd_of gl_118 rfl
set_option maxRecDepth 20000 in
theorem cd_118_23 : sm_cd 118 23 = some (.aload_n 0, 1, 0, 0, 0, 0, 0, 0, 0) := cd_of gl_118 rfl
set_option maxRecDepth 20000 in
theorem cd_118_24 : sm_cd 118 24 = some (.iconst 0, 1, 0, 0, 0, 0, 0, 0, 0) := cd_of gl_118 rfl
set_option maxRecDepth 20000 in
theorem cd_118_25 : sm_cd 118 25 = some (.putfield 342, 3, 6, 35, 0, 0, 0, 0, 0) := cd_of gl_118 rfl
set_option maxRecDepth 20000 in
theorem cd_118_28 : sm_cd 118 28 = some (.iconst 0, 1, 0, 0, 0, 0, 0, 0, 0) := cd_of gl_118 rfl
set_option maxRecDepth 20000 in
theorem cd_118_29 : sm_cd 118 29 = some (.istore_n 1, 1, 1, 0, 0, 0, 0, 0, 0) := cd_of gl_118 rfl
set_option maxRecDepth 20000 in
theorem cd_118_30 : sm_cd 118 30 = some (.iload_n 1, 1, 1, 0, 0, 0, 0, 0, 0) := cd_of gl_118 rfl
set_option maxRecDepth 20000 in
theorem cd_118_31 : sm_cd 118 31 = some (.aload_n 0, 1, 0, 0, 0, 0, 0, 0, 0) := cd_of gl_118 rfl
set_option maxRecDepth 20000 in
theorem cd_118_32 : sm_cd 118 32 = some (.getfield 327, 3, 6, 16, 0, 0, 0, 0, 0) := cd_of gl_118 rfl
set_option maxRecDepth 20000 in
theorem cd_118_35 : sm_cd 118 35 = some (.if_icmp .ge 25, 3, 60, 0, 0, 0, 0, 0, 0) := cd_of gl_118 rfl
set_option maxRecDepth 20000 in
theorem cd_118_38 : sm_cd 118 38 = some (.aload_n 0, 1, 0, 0, 0, 0, 0, 0, 0) := cd_of gl_118 rfl
set_option maxRecDepth 20000 in
theorem cd_118_39 : sm_cd 118 39 = some (.aload_n 0, 1, 0, 0, 0, 0, 0, 0, 0) := cd_of gl_118 rfl
set_option maxRecDepth 20000 in
theorem cd_118_40 : sm_cd 118 40 = some (.getfield 47, 3, 6, 18, 2, 0, 0, 0, 0) := cd_of gl_118 rfl
set_option maxRecDepth 20000 in
theorem cd_118_43 : sm_cd 118 43 = some (.bipush 10, 2, 0, 0, 0, 0, 0, 10, 0) := cd_of gl_118 rfl
set_option maxRecDepth 20000 in
theorem cd_118_45 : sm_cd 118 45 = some (.iload_n 1, 1, 1, 0, 0, 0, 0, 0, 0) := cd_of gl_118 rfl
set_option maxRecDepth 20000 in
theorem cd_118_46 : sm_cd 118 46 = some (.imul, 1, 0, 0, 0, 0, 0, 0, 0) := cd_of gl_118 rfl
set_option maxRecDepth 20000 in
theorem cd_118_47 : sm_cd 118 47 = some (.iaload, 1, 0, 0, 0, 0, 0, 0, 0) := cd_of gl_118 rfl
set_option maxRecDepth 20000 in
theorem cd_118_48 : sm_cd 118 48 = some (.iconst 0, 1, 0, 0, 0, 0, 0, 0, 0) := cd_of gl_118 rfl
set_option maxRecDepth 20000 in
theorem cd_118_49 : sm_cd 118 49 = some (.iconst 0, 1, 0, 0, 0, 0, 0, 0, 0) := cd_of gl_118 rfl
set_option maxRecDepth 20000 in
theorem cd_118_50 : sm_cd 118 50 = some (.iconst (-1), 1, 0, 0, 0, 0, 0, (-1), 0) := cd_of gl_118 rfl
set_option maxRecDepth 20000 in
theorem cd_118_51 : sm_cd 118 51 = some (.invokevirtual 345, 3, 119, 0, 4, 6, 6, 0, 0) := cd_of gl_118 rfl
set_option maxRecDepth 20000 in
theorem cd_118_54 : sm_cd 118 54 = some (.iinc 1 1, 3, 1, 0, 0, 0, 0, 1, 0) := cd_of gl_118 rfl
set_option maxRecDepth 20000 in
theorem cd_118_57 : sm_cd 118 57 = some (.goto (-27), 3, 30, 0, 0, 0, 0, 0, 0) := cd_of gl_118 rfl
set_option maxRecDepth 20000 in
theorem cd_118_60 : sm_cd 118 60 = some (.aload_n 0, 1, 0, 0, 0, 0, 0, 0, 0) := cd_of gl_118 rfl
set_option maxRecDepth 20000 in
theorem cd_118_61 : sm_cd 118 61 = some (.getfield 342, 3, 6, 35, 0, 0, 0, 0, 0) := cd_of gl_118 rfl
set_option maxRecDepth 20000 in
theorem cd_118_64 : sm_cd 118 64 = some (.ifCond .le 113, 3, 177, 0, 0, 0, 0, 0, 0) := cd_of gl_118 rfl
set_option maxRecDepth 20000 in
theorem cd_118_67 : sm_cd 118 67 = some (.aload_n 0, 1, 0, 0, 0, 0, 0, 0, 0) := cd_of gl_118 rfl
set_option maxRecDepth 20000 in
theorem cd_118_68 : sm_cd 118 68 = some (.dup, 1, 0, 0, 0, 0, 0, 0, 0) := cd_of gl_118 rfl
set_option maxRecDepth 20000 in
theorem cd_118_69 : sm_cd 118 69 = some (.getfield 342, 3, 6, 35, 0, 0, 0, 0, 0) := cd_of gl_118 rfl
set_option maxRecDepth 20000 in
theorem cd_118_72 : sm_cd 118 72 = some (.iconst 1, 1, 0, 0, 0, 0, 0, 1, 0) := cd_of gl_118 rfl
set_option maxRecDepth 20000 in
theorem cd_118_73 : sm_cd 118 73 = some (.isub, 1, 0, 0, 0, 0, 0, 0, 0) := cd_of gl_118 rfl
set_option maxRecDepth 20000 in
theorem cd_118_74 : sm_cd 118 74 = some (.putfield 342, 3, 6, 35, 0, 0, 0, 0, 0) := cd_of gl_118 rfl
set_option maxRecDepth 20000 in
theorem cd_118_77 : sm_cd 118 77 = some (.aload_n 0, 1, 0, 0, 0, 0, 0, 0, 0) := cd_of gl_118 rfl
set_option maxRecDepth 20000 in
theorem cd_118_78 : sm_cd 118 78 = some (.getfield 108, 3, 6, 34, 2, 0, 0, 0, 0) := cd_of gl_118 rfl
set_option maxRecDepth 20000 in
theorem cd_118_81 : sm_cd 118 81 = some (.aload_n 0, 1, 0, 0, 0, 0, 0, 0, 0) := cd_of gl_118 rfl
set_option maxRecDepth 20000 in
theorem cd_118_82 : sm_cd 118 82 = some (.getfield 342, 3, 6, 35, 0, 0, 0, 0, 0) := cd_of gl_118 rfl
set_option maxRecDepth 20000 in
theorem cd_118_85 : sm_cd 118 85 = some (.iaload, 1, 0, 0, 0, 0, 0, 0, 0) := cd_of gl_118 rfl
set_option maxRecDepth 20000 in
theorem cd_118_86 : sm_cd 118 86 = some (.istore_n 1, 1, 1, 0, 0, 0, 0, 0, 0) := cd_of gl_118 rfl
set_option maxRecDepth 20000 in
theorem cd_118_87 : sm_cd 118 87 = some (.aload_n 0, 1, 0, 0, 0, 0, 0, 0, 0) := cd_of gl_118 rfl
set_option maxRecDepth 20000 in
theorem cd_118_88 : sm_cd 118 88 = some (.getfield 50, 3, 6, 19, 2, 0, 0, 0, 0) := cd_of gl_118 rfl
set_option maxRecDepth 20000 in
theorem cd_118_91 : sm_cd 118 91 = some (.iload_n 1, 1, 1, 0, 0, 0, 0, 0, 0) := cd_of gl_118 rfl
set_option maxRecDepth 20000 in
theorem cd_118_92 : sm_cd 118 92 = some (.iaload, 1, 0, 0, 0, 0, 0, 0, 0) := cd_of gl_118 rfl
set_option maxRecDepth 20000 in
theorem cd_118_93 : sm_cd 118 93 = some (.istore_n 2, 1, 2, 0, 0, 0, 0, 0, 0) := cd_of gl_118 rfl
set_option maxRecDepth 20000 in
theorem cd_118_94 : sm_cd 118 94 = some (.aload_n 0, 1, 0, 0, 0, 0, 0, 0, 0) := cd_of gl_118 rfl
set_option maxRecDepth 20000 in
theorem cd_118_95 : sm_cd 118 95 = some (.getfield 53, 3, 6, 20, 2, 0, 0, 0, 0) := cd_of gl_118 rfl
set_option maxRecDepth 20000 in
theorem cd_118_98 : sm_cd 118 98 = some (.iload_n 1, 1, 1, 0, 0, 0, 0, 0, 0) := cd_of gl_118 rfl
set_option maxRecDepth 20000 in
theorem cd_118_99 : sm_cd 118 99 = some (.iaload, 1, 0, 0, 0, 0, 0, 0, 0) := cd_of gl_118 rfl
set_option maxRecDepth 20000 in
theorem cd_118_100 : sm_cd 118 100 = some (.istore_n 3, 1, 3, 0, 0, 0, 0, 0, 0) := cd_of gl_118 rfl
set_option maxRecDepth 20000 in
theorem cd_118_101 : sm_cd 118 101 = some (.aload_n 0, 1, 0, 0, 0, 0, 0, 0, 0) := cd_of gl_118 rfl
set_option maxRecDepth 20000 in
theorem cd_118_102 : sm_cd 118 102 = some (.getfield 102, 3, 6, 32, 2, 0, 0, 0, 0) := cd_of gl_118 rfl
set_option maxRecDepth 20000 in
theorem cd_118_105 : sm_cd 118 105 = some (.iload_n 1, 1, 1, 0, 0, 0, 0, 0, 0) := cd_of gl_118 rfl
set_option maxRecDepth 20000 in
theorem cd_118_106 : sm_cd 118 106 = some (.iaload, 1, 0, 0, 0, 0, 0, 0, 0) := cd_of gl_118 rfl
set_option maxRecDepth 20000 in
theorem cd_118_107 : sm_cd 118 107 = some (.aload_n 0, 1, 0, 0, 0, 0, 0, 0, 0) := cd_of gl_118 rfl
set_option maxRecDepth 20000 in
theorem cd_118_108 : sm_cd 118 108 = some (.iload_n 2, 1, 2, 0, 0, 0, 0, 0, 0) := cd_of gl_118 rfl
set_option maxRecDepth 20000 in
theorem cd_118_109 : sm_cd 118 109 = some (.iload_n 3, 1, 3, 0, 0, 0, 0, 0, 0) := cd_of gl_118 rfl
set_option maxRecDepth 20000 in
theorem cd_118_110 : sm_cd 118 110 = some (.invokevirtual 349, 3, 120, 0, 2, 3, 6, 0, 0) := cd_of gl_118 rfl
set_option maxRecDepth 20000 in
theorem cd_118_113 : sm_cd 118 113 = some (.isub, 1, 0, 0, 0, 0, 0, 0, 0) := cd_of gl_118 rfl
set_option maxRecDepth 20000 in
theorem cd_118_114 : sm_cd 118 114 = some (.istore 4, 2, 4, 0, 0, 0, 0, 0, 0) := cd_of gl_118 rfl
set_option maxRecDepth 20000 in
theorem cd_118_116 : sm_cd 118 116 = some (.aload_n 0, 1, 0, 0, 0, 0, 0, 0, 0) := cd_of gl_118 rfl
set_option maxRecDepth 20000 in
theorem cd_118_117 : sm_cd 118 117 = some (.iload_n 2, 1, 2, 0, 0, 0, 0, 0, 0) := cd_of gl_118 rfl
set_option maxRecDepth 20000 in
theorem cd_118_118 : sm_cd 118 118 = some (.iload_n 3, 1, 3, 0, 0, 0, 0, 0, 0) := cd_of gl_118 rfl
set_option maxRecDepth 20000 in
theorem cd_118_119 : sm_cd 118 119 = some (.aload_n 0, 1, 0, 0, 0, 0, 0, 0, 0) := cd_of gl_118 rfl
set_option maxRecDepth 20000 in
theorem cd_118_120 : sm_cd 118 120 = some (.iload_n 1, 1, 1, 0, 0, 0, 0, 0, 0) := cd_of gl_118 rfl
set_option maxRecDepth 20000 in
theorem cd_118_121 : sm_cd 118 121 = some (.invokevirtual 352, 3, 121, 0, 1, 3, 6, 0, 0) := cd_of gl_118 rfl
set_option maxRecDepth 20000 in
theorem cd_118_124 : sm_cd 118 124 = some (.invokevirtual 355, 3, 122, 0, 3, 4, 6, 0, 0) := cd_of gl_118 rfl
set_option maxRecDepth 20000 in
theorem cd_118_127 : sm_cd 118 127 = some (.istore 5, 2, 5, 0, 0, 0, 0, 0, 0) := cd_of gl_118 rfl
set_option maxRecDepth 20000 in
theorem cd_118_129 : sm_cd 118 129 = some (.iload_n 2, 1, 2, 0, 0, 0, 0, 0, 0) := cd_of gl_118 rfl
set_option maxRecDepth 20000 in
theorem cd_118_130 : sm_cd 118 130 = some (.bipush 24, 2, 0, 0, 0, 0, 0, 24, 0) := cd_of gl_118 rfl
set_option maxRecDepth 20000 in
theorem cd_118_132 : sm_cd 118 132 = some (.if_icmp .eq 21, 3, 153, 0, 0, 0, 0, 0, 0) := cd_of gl_118 rfl
set_option maxRecDepth 20000 in
theorem cd_118_135 : sm_cd 118 135 = some (.iload_n 2, 1, 2, 0, 0, 0, 0, 0, 0) := cd_of gl_118 rfl
set_option maxRecDepth 20000 in
theorem cd_118_136 : sm_cd 118 136 = some (.bipush 25, 2, 0, 0, 0, 0, 0, 25, 0) := cd_of gl_118 rfl
set_option maxRecDepth 20000 in
theorem cd_118_138 : sm_cd 118 138 = some (.if_icmp .eq 15, 3, 153, 0, 0, 0, 0, 0, 0) := cd_of gl_118 rfl
set_option maxRecDepth 20000 in
theorem cd_118_141 : sm_cd 118 141 = some (.aload_n 0, 1, 0, 0, 0, 0, 0, 0, 0) := cd_of gl_118 rfl
set_option maxRecDepth 20000 in
theorem cd_118_142 : sm_cd 118 142 = some (.iload_n 1, 1, 1, 0, 0, 0, 0, 0, 0) := cd_of gl_118 rfl
set_option maxRecDepth 20000 in
theorem cd_118_143 : sm_cd 118 143 = some (.iconst 1, 1, 0, 0, 0, 0, 0, 1, 0) := cd_of gl_118 rfl
set_option maxRecDepth 20000 in
theorem cd_118_144 : sm_cd 118 144 = some (.iadd, 1, 0, 0, 0, 0, 0, 0, 0) := cd_of gl_118 rfl
set_option maxRecDepth 20000 in
theorem cd_118_145 : sm_cd 118 145 = some (.iload_n 1, 1, 1, 0, 0, 0, 0, 0, 0) := cd_of gl_118 rfl
set_option maxRecDepth 20000 in
theorem cd_118_146 : sm_cd 118 146 = some (.iload 4, 2, 4, 0, 0, 0, 0, 0, 0) := cd_of gl_118 rfl
set_option maxRecDepth 20000 in
theorem cd_118_148 : sm_cd 118 148 = some (.iload 5, 2, 5, 0, 0, 0, 0, 0, 0) := cd_of gl_118 rfl
set_option maxRecDepth 20000 in
theorem cd_118_150 : sm_cd 118 150 = some (.invokevirtual 345, 3, 119, 0, 4, 6, 6, 0, 0) := cd_of gl_118 rfl
set_option maxRecDepth 20000 in
theorem cd_118_153 : sm_cd 118 153 = some (.iload_n 2, 1, 2, 0, 0, 0, 0, 0, 0) := cd_of gl_118 rfl
set_option maxRecDepth 20000 in
theorem cd_118_154 : sm_cd 118 154 = some (.bipush 23, 2, 0, 0, 0, 0, 0, 23, 0) := cd_of gl_118 rfl
set_option maxRecDepth 20000 in
theorem cd_118_156 : sm_cd 118 156 = some (.if_icmp .eq 9, 3, 165, 0, 0, 0, 0, 0, 0) := cd_of gl_118 rfl
set_option maxRecDepth 20000 in
theorem cd_118_159 : sm_cd 118 159 = some (.iload_n 2, 1, 2, 0, 0, 0, 0, 0, 0) := cd_of gl_118 rfl
set_option maxRecDepth 20000 in
theorem cd_118_160 : sm_cd 118 160 = some (.bipush 24, 2, 0, 0, 0, 0, 0, 24, 0) := cd_of gl_118 rfl
set_option maxRecDepth 20000 in
theorem cd_118_162 : sm_cd 118 162 = some (.if_icmp .ne 12, 3, 174, 0, 0, 0, 0, 0, 0) := cd_of gl_118 rfl
set_option maxRecDepth 20000 in
theorem cd_118_165 : sm_cd 118 165 = some (.aload_n 0, 1, 0, 0, 0, 0, 0, 0, 0) := cd_of gl_118 rfl
set_option maxRecDepth 20000 in
theorem cd_118_166 : sm_cd 118 166 = some (.iload_n 3, 1, 3, 0, 0, 0, 0, 0, 0) := cd_of gl_118 rfl
set_option maxRecDepth 20000 in
theorem cd_118_167 : sm_cd 118 167 = some (.iload_n 1, 1, 1, 0, 0, 0, 0, 0, 0) := cd_of gl_118 rfl
set_option maxRecDepth 20000 in
theorem cd_118_168 : sm_cd 118 168 = some (.iload 4, 2, 4, 0, 0, 0, 0, 0, 0) := cd_of gl_118 rfl
set_option maxRecDepth 20000 in
theorem cd_118_170 : sm_cd 118 170 = some (.iconst (-1), 1, 0, 0, 0, 0, 0, (-1), 0) := cd_of gl_118 rfl
set_option maxRecDepth 20000 in
theorem cd_118_171 : sm_cd 118 171 = some (.invokevirtual 345, 3, 119, 0, 4, 6, 6, 0, 0) := cd_of gl_118 rfl
set_option maxRecDepth 20000 in
theorem cd_118_174 : sm_cd 118 174 = some (.goto (-114), 3, 60, 0, 0, 0, 0, 0, 0) := cd_of gl_118 rfl
set_option maxRecDepth 20000 in
theorem cd_118_177 : sm_cd 118 177 = some (.return_, 1, 0, 0, 0, 0, 0, 0, 0) := cd_of gl_118 rfl
noncomputable def f_118_174 (K : Nat → Value) (k d : Nat) (r60 : Nat → Int32 → aW → aI → aJ → Option aR) (l0 : Nat) (l1 : Int32) (l2 : Int32) (l3 : Int32) (l4 : Int32) (l5 : Int32) (w : aW) (I : aI) (J : aJ) : Option aR :=
  r60 l0 l1 w I J
theorem ok_118_174 {K : Nat → Value} {k d : Nat} {r60 : Nat → Int32 → aW → aI → aJ → Option aR} (hr60 : ∀ (l0 : Nat) (l1 : Int32) (w : aW) (I : aI) (J : aJ) (R : aR), r60 l0 l1 w I J = some R → Go K (d + 1) 118 60 [some (.ref l0), some (.int l1), none, none, none, none] [] w I J R) {l0 : Nat} {l1 : Int32} {l2 : Int32} {l3 : Int32} {l4 : Int32} {l5 : Int32} {w : aW} {I : aI} {J : aJ} {R : aR} (h : f_118_174 K k d r60 l0 l1 l2 l3 l4 l5 w I J = some R) : Go K (d + 1) 118 174 [some (.ref l0), some (.int l1), some (.int l2), some (.int l3), some (.int l4), some (.int l5)] [] w I J R := by
  unfold f_118_174 at h
  refine gs_0 (pc' := 60) (L' := [some (.ref l0), some (.int l1), some (.int l2), some (.int l3), some (.int l4), some (.int l5)]) (st' := []) cd_118_174 rfl rfl ?_
  refine go_drop [some (.ref l0), some (.int l1), none, none, none, none] ⟨rfl, ⟨rfl, ⟨rfl, ⟨rfl, ⟨rfl, ⟨rfl, trivial⟩⟩⟩⟩⟩⟩ ?_
  exact hr60 l0 l1 _ _ _ _ h
noncomputable def f_118_165 (K : Nat → Value) (k d : Nat) (r60 : Nat → Int32 → aW → aI → aJ → Option aR) (l0 : Nat) (l1 : Int32) (l2 : Int32) (l3 : Int32) (l4 : Int32) (l5 : Int32) (w : aW) (I : aI) (J : aJ) : Option aR :=
  gO w 6 l0 (
  cV (Cl K d 119 [.ref l0, .int l3, .int l1, .int l4, .int ((-1))] w I J) fun w_1 I_2 J_3 =>
  f_118_174 K k d r60 l0 l1 l2 l3 l4 l5 w_1 I_2 J_3)
theorem ok_118_165 {K : Nat → Value} {k d : Nat} {r60 : Nat → Int32 → aW → aI → aJ → Option aR} (hr60 : ∀ (l0 : Nat) (l1 : Int32) (w : aW) (I : aI) (J : aJ) (R : aR), r60 l0 l1 w I J = some R → Go K (d + 1) 118 60 [some (.ref l0), some (.int l1), none, none, none, none] [] w I J R) {l0 : Nat} {l1 : Int32} {l2 : Int32} {l3 : Int32} {l4 : Int32} {l5 : Int32} {w : aW} {I : aI} {J : aJ} {R : aR} (h : f_118_165 K k d r60 l0 l1 l2 l3 l4 l5 w I J = some R) : Go K (d + 1) 118 165 [some (.ref l0), some (.int l1), some (.int l2), some (.int l3), some (.int l4), some (.int l5)] [] w I J R := by
  unfold f_118_165 at h
  refine gs_0 (pc' := 166) (L' := [some (.ref l0), some (.int l1), some (.int l2), some (.int l3), some (.int l4), some (.int l5)]) (st' := [.ref l0]) cd_118_165 rfl rfl ?_
  refine gs_0 (pc' := 167) (L' := [some (.ref l0), some (.int l1), some (.int l2), some (.int l3), some (.int l4), some (.int l5)]) (st' := [.int l3, .ref l0]) cd_118_166 rfl rfl ?_
  refine gs_0 (pc' := 168) (L' := [some (.ref l0), some (.int l1), some (.int l2), some (.int l3), some (.int l4), some (.int l5)]) (st' := [.int l1, .int l3, .ref l0]) cd_118_167 rfl rfl ?_
  refine gs_0 (pc' := 170) (L' := [some (.ref l0), some (.int l1), some (.int l2), some (.int l3), some (.int l4), some (.int l5)]) (st' := [.int l4, .int l1, .int l3, .ref l0]) cd_118_168 rfl rfl ?_
  refine gs_0 (pc' := 171) (L' := [some (.ref l0), some (.int l1), some (.int l2), some (.int l3), some (.int l4), some (.int l5)]) (st' := [.int ((-1)), .int l4, .int l1, .int l3, .ref l0]) cd_118_170 rfl rfl ?_
  obtain ⟨ht, h⟩ := gO_s h
  obtain ⟨w_1, I_2, J_3, hcl, h⟩ := cV_s h
  refine gs_call (as := [.ref l0, .int l3, .int l1, .int l4, .int ((-1))]) (rest := []) cd_118_171 rfl (by decide) rfl (sm_rv_ok (by decide) ht) (Nat.le_of_ble_eq_true rfl) (Nat.le_of_ble_eq_true rfl) rfl hcl ?_
  exact ok_118_174 hr60 h
noncomputable def f_118_153 (K : Nat → Value) (k d : Nat) (r60 : Nat → Int32 → aW → aI → aJ → Option aR) (l0 : Nat) (l1 : Int32) (l2 : Int32) (l3 : Int32) (l4 : Int32) (l5 : Int32) (w : aW) (I : aI) (J : aJ) : Option aR :=
  if l2 = 23 then
    f_118_165 K k d r60 l0 l1 l2 l3 l4 l5 w I J
  else
    if ¬ l2 = 24 then
      f_118_174 K k d r60 l0 l1 l2 l3 l4 l5 w I J
    else
      f_118_165 K k d r60 l0 l1 l2 l3 l4 l5 w I J
theorem ok_118_153 {K : Nat → Value} {k d : Nat} {r60 : Nat → Int32 → aW → aI → aJ → Option aR} (hr60 : ∀ (l0 : Nat) (l1 : Int32) (w : aW) (I : aI) (J : aJ) (R : aR), r60 l0 l1 w I J = some R → Go K (d + 1) 118 60 [some (.ref l0), some (.int l1), none, none, none, none] [] w I J R) {l0 : Nat} {l1 : Int32} {l2 : Int32} {l3 : Int32} {l4 : Int32} {l5 : Int32} {w : aW} {I : aI} {J : aJ} {R : aR} (h : f_118_153 K k d r60 l0 l1 l2 l3 l4 l5 w I J = some R) : Go K (d + 1) 118 153 [some (.ref l0), some (.int l1), some (.int l2), some (.int l3), some (.int l4), some (.int l5)] [] w I J R := by
  unfold f_118_153 at h
  refine gs_0 (pc' := 154) (L' := [some (.ref l0), some (.int l1), some (.int l2), some (.int l3), some (.int l4), some (.int l5)]) (st' := [.int l2]) cd_118_153 rfl rfl ?_
  refine gs_0 (pc' := 156) (L' := [some (.ref l0), some (.int l1), some (.int l2), some (.int l3), some (.int l4), some (.int l5)]) (st' := [.int 23, .int l2]) cd_118_154 rfl rfl ?_
  refine gs_0 (pc' := if l2 = 23 then 165 else 159) (L' := [some (.ref l0), some (.int l1), some (.int l2), some (.int l3), some (.int l4), some (.int l5)]) (st' := []) cd_118_156 rfl rfl ?_
  refine go_ite (fun hc => ?_) (fun hc => ?_)
  · rw [if_pos hc] at h
    exact ok_118_165 hr60 h
  · rw [if_neg hc] at h
    refine gs_0 (pc' := 160) (L' := [some (.ref l0), some (.int l1), some (.int l2), some (.int l3), some (.int l4), some (.int l5)]) (st' := [.int l2]) cd_118_159 rfl rfl ?_
    refine gs_0 (pc' := 162) (L' := [some (.ref l0), some (.int l1), some (.int l2), some (.int l3), some (.int l4), some (.int l5)]) (st' := [.int 24, .int l2]) cd_118_160 rfl rfl ?_
    refine gs_0 (pc' := if ¬ l2 = 24 then 174 else 165) (L' := [some (.ref l0), some (.int l1), some (.int l2), some (.int l3), some (.int l4), some (.int l5)]) (st' := []) cd_118_162 rfl rfl ?_
    refine go_ite (fun hc => ?_) (fun hc => ?_)
    · rw [if_pos hc] at h
      exact ok_118_174 hr60 h
    · rw [if_neg hc] at h
      exact ok_118_165 hr60 h
noncomputable def f_118_60 (K : Nat → Value) (k : Nat) (d : Nat) : Nat → Int32 → aW → aI → aJ → Option aR :=
  match k with
  | 0 => fun _ _ _ _ _ => none
  | k + 1 => fun l0 l1 w I J =>
  lt_ (f_118_60 K k d) fun r60 =>
  gO w 6 l0 (
  if (I l0 35) ≤ 0 then
    some (none, w, I, J)
  else
    gO w 6 l0 (
    gO w 6 l0 (
    lt_ (sm_up2 I l0 35 ((I l0 35) - 1)) fun I_1 =>
    gO w 6 l0 (
    gV w l0 34 fun q_2 =>
    gO w 6 l0 (
    gA w 10 20 q_2 (I_1 l0 35) (
    lt_ (I_1 q_2 (I_1 l0 35 : Int32).toNatClampNeg) fun x_3 =>
    gO w 6 l0 (
    gV w l0 19 fun q_4 =>
    gA w 10 20 q_4 x_3 (
    lt_ (I_1 q_4 (x_3 : Int32).toNatClampNeg) fun x_5 =>
    gO w 6 l0 (
    gV w l0 20 fun q_6 =>
    gA w 10 20 q_6 x_3 (
    lt_ (I_1 q_6 (x_3 : Int32).toNatClampNeg) fun x_7 =>
    gO w 6 l0 (
    gV w l0 32 fun q_8 =>
    gA w 10 20 q_8 x_3 (
    gO w 6 l0 (
    cI (Cl K d 120 [.ref l0, .int x_5, .int x_7] w I_1 J) fun x_12 w_9 I_10 J_11 =>
    lt_ ((I_1 q_8 (x_3 : Int32).toNatClampNeg) - x_12) fun x_13 =>
    gO w_9 6 l0 (
    cI (Cl K d 121 [.ref l0, .int x_3] w_9 I_10 J_11) fun x_17 w_14 I_15 J_16 =>
    gO w_14 6 l0 (
    cI (Cl K d 122 [.ref l0, .int x_5, .int x_7, .int x_17] w_14 I_15 J_16) fun x_21 w_18 I_19 J_20 =>
    if x_5 = 24 then
      f_118_153 K k d r60 l0 x_3 x_5 x_7 x_13 x_21 w_18 I_19 J_20
    else
      if x_5 = 25 then
        f_118_153 K k d r60 l0 x_3 x_5 x_7 x_13 x_21 w_18 I_19 J_20
      else
        gO w_18 6 l0 (
        cV (Cl K d 119 [.ref l0, .int (x_3 + 1), .int x_3, .int x_13, .int x_21] w_18 I_19 J_20) fun w_22 I_23 J_24 =>
        f_118_153 K k d r60 l0 x_3 x_5 x_7 x_13 x_21 w_22 I_23 J_24))))))))))))))))
theorem ok_118_60 {K : Nat → Value} {d : Nat} : ∀ {k : Nat} {l0 : Nat} {l1 : Int32} {w : aW} {I : aI} {J : aJ} {R : aR}, f_118_60 K k d l0 l1 w I J = some R → Go K (d + 1) 118 60 [some (.ref l0), some (.int l1), none, none, none, none] [] w I J R := by
  intro k
  induction k with
  | zero => intro l0 l1 w I J R h; cases h
  | succ k ih =>
    intro l0 l1 w I J R h
    have hr60 : ∀ (l0 : Nat) (l1 : Int32) (w : aW) (I : aI) (J : aJ) (R : aR), f_118_60 K k d l0 l1 w I J = some R → Go K (d + 1) 118 60 [some (.ref l0), some (.int l1), none, none, none, none] [] w I J R := fun l0 l1 w I J R h => ih h
    rw [f_118_60] at h
    obtain ⟨r60, hx, h⟩ := lt_s_ h
    rw [hx] at hr60
    clear hx ih
    refine gs_0 (pc' := 61) (L' := [some (.ref l0), some (.int l1), none, none, none, none]) (st' := [.ref l0]) cd_118_60 rfl rfl ?_
    obtain ⟨ht, h⟩ := gO_s h
    refine gs_gfI cd_118_61 (by decide) (by decide) ht ?_
    refine gs_0 (pc' := if (I l0 35) ≤ 0 then 177 else 67) (L' := [some (.ref l0), some (.int l1), none, none, none, none]) (st' := []) cd_118_64 rfl rfl ?_
    refine go_ite (fun hc => ?_) (fun hc => ?_)
    · rw [if_pos hc] at h
      cases h
      exact gsr cd_118_177 rfl rfl
    · rw [if_neg hc] at h
      refine gs_0 (pc' := 68) (L' := [some (.ref l0), some (.int l1), none, none, none, none]) (st' := [.ref l0]) cd_118_67 rfl rfl ?_
      refine gs_0 (pc' := 69) (L' := [some (.ref l0), some (.int l1), none, none, none, none]) (st' := [.ref l0, .ref l0]) cd_118_68 rfl rfl ?_
      obtain ⟨ht, h⟩ := gO_s h
      refine gs_gfI cd_118_69 (by decide) (by decide) ht ?_
      refine gs_0 (pc' := 73) (L' := [some (.ref l0), some (.int l1), none, none, none, none]) (st' := [.int 1, .int (I l0 35), .ref l0]) cd_118_72 rfl rfl ?_
      refine gs_0 (pc' := 74) (L' := [some (.ref l0), some (.int l1), none, none, none, none]) (st' := [.int ((I l0 35) - 1), .ref l0]) cd_118_73 rfl rfl ?_
      obtain ⟨ht, h⟩ := gO_s h
      refine gs_pfI cd_118_74 (by decide) (Or.inl rfl) ht ?_
      obtain ⟨I_1, hx, h⟩ := lt_s_ h
      rw [hx]
      refine gs_0 (pc' := 78) (L' := [some (.ref l0), some (.int l1), none, none, none, none]) (st' := [.ref l0]) cd_118_77 rfl rfl ?_
      obtain ⟨ht, h⟩ := gO_s h
      obtain ⟨q_2, hv, h⟩ := gV_s h
      refine gs_gfR cd_118_78 (by decide) ht hv ?_
      refine gs_0 (pc' := 82) (L' := [some (.ref l0), some (.int l1), none, none, none, none]) (st' := [.ref l0, .ref q_2]) cd_118_81 rfl rfl ?_
      obtain ⟨ht, h⟩ := gO_s h
      refine gs_gfI cd_118_82 (by decide) (by decide) ht ?_
      obtain ⟨ht, h⟩ := gA_s h
      refine gs_iald cd_118_85 ht ?_
      refine gs_0 (pc' := 87) (L' := [some (.ref l0), some (.int (I_1 q_2 (I_1 l0 35 : Int32).toNatClampNeg)), none, none, none, none]) (st' := []) cd_118_86 rfl rfl ?_
      obtain ⟨x_3, hx, h⟩ := lt_s_ h
      rw [hx]
      clear hx
      refine gs_0 (pc' := 88) (L' := [some (.ref l0), some (.int x_3), none, none, none, none]) (st' := [.ref l0]) cd_118_87 rfl rfl ?_
      obtain ⟨ht, h⟩ := gO_s h
      obtain ⟨q_4, hv, h⟩ := gV_s h
      refine gs_gfR cd_118_88 (by decide) ht hv ?_
      refine gs_0 (pc' := 92) (L' := [some (.ref l0), some (.int x_3), none, none, none, none]) (st' := [.int x_3, .ref q_4]) cd_118_91 rfl rfl ?_
      obtain ⟨ht, h⟩ := gA_s h
      refine gs_iald cd_118_92 ht ?_
      refine gs_0 (pc' := 94) (L' := [some (.ref l0), some (.int x_3), some (.int (I_1 q_4 (x_3 : Int32).toNatClampNeg)), none, none, none]) (st' := []) cd_118_93 rfl rfl ?_
      obtain ⟨x_5, hx, h⟩ := lt_s_ h
      rw [hx]
      clear hx
      refine gs_0 (pc' := 95) (L' := [some (.ref l0), some (.int x_3), some (.int x_5), none, none, none]) (st' := [.ref l0]) cd_118_94 rfl rfl ?_
      obtain ⟨ht, h⟩ := gO_s h
      obtain ⟨q_6, hv, h⟩ := gV_s h
      refine gs_gfR cd_118_95 (by decide) ht hv ?_
      refine gs_0 (pc' := 99) (L' := [some (.ref l0), some (.int x_3), some (.int x_5), none, none, none]) (st' := [.int x_3, .ref q_6]) cd_118_98 rfl rfl ?_
      obtain ⟨ht, h⟩ := gA_s h
      refine gs_iald cd_118_99 ht ?_
      refine gs_0 (pc' := 101) (L' := [some (.ref l0), some (.int x_3), some (.int x_5), some (.int (I_1 q_6 (x_3 : Int32).toNatClampNeg)), none, none]) (st' := []) cd_118_100 rfl rfl ?_
      obtain ⟨x_7, hx, h⟩ := lt_s_ h
      rw [hx]
      clear hx
      refine gs_0 (pc' := 102) (L' := [some (.ref l0), some (.int x_3), some (.int x_5), some (.int x_7), none, none]) (st' := [.ref l0]) cd_118_101 rfl rfl ?_
      obtain ⟨ht, h⟩ := gO_s h
      obtain ⟨q_8, hv, h⟩ := gV_s h
      refine gs_gfR cd_118_102 (by decide) ht hv ?_
      refine gs_0 (pc' := 106) (L' := [some (.ref l0), some (.int x_3), some (.int x_5), some (.int x_7), none, none]) (st' := [.int x_3, .ref q_8]) cd_118_105 rfl rfl ?_
      obtain ⟨ht, h⟩ := gA_s h
      refine gs_iald cd_118_106 ht ?_
      refine gs_0 (pc' := 108) (L' := [some (.ref l0), some (.int x_3), some (.int x_5), some (.int x_7), none, none]) (st' := [.ref l0, .int (I_1 q_8 (x_3 : Int32).toNatClampNeg)]) cd_118_107 rfl rfl ?_
      refine gs_0 (pc' := 109) (L' := [some (.ref l0), some (.int x_3), some (.int x_5), some (.int x_7), none, none]) (st' := [.int x_5, .ref l0, .int (I_1 q_8 (x_3 : Int32).toNatClampNeg)]) cd_118_108 rfl rfl ?_
      refine gs_0 (pc' := 110) (L' := [some (.ref l0), some (.int x_3), some (.int x_5), some (.int x_7), none, none]) (st' := [.int x_7, .int x_5, .ref l0, .int (I_1 q_8 (x_3 : Int32).toNatClampNeg)]) cd_118_109 rfl rfl ?_
      obtain ⟨ht, h⟩ := gO_s h
      obtain ⟨x_12, w_9, I_10, J_11, hcl, h⟩ := cI_s h
      refine gs_call (as := [.ref l0, .int x_5, .int x_7]) (rest := [.int (I_1 q_8 (x_3 : Int32).toNatClampNeg)]) cd_118_110 rfl (by decide) rfl (sm_rv_ok (by decide) ht) (Nat.le_of_ble_eq_true rfl) (Nat.le_of_ble_eq_true rfl) rfl hcl ?_
      refine gs_0 (pc' := 114) (L' := [some (.ref l0), some (.int x_3), some (.int x_5), some (.int x_7), none, none]) (st' := [.int ((I_1 q_8 (x_3 : Int32).toNatClampNeg) - x_12)]) cd_118_113 rfl rfl ?_
      refine gs_0 (pc' := 116) (L' := [some (.ref l0), some (.int x_3), some (.int x_5), some (.int x_7), some (.int ((I_1 q_8 (x_3 : Int32).toNatClampNeg) - x_12)), none]) (st' := []) cd_118_114 rfl rfl ?_
      obtain ⟨x_13, hx, h⟩ := lt_s_ h
      rw [hx]
      clear hx
      refine gs_0 (pc' := 117) (L' := [some (.ref l0), some (.int x_3), some (.int x_5), some (.int x_7), some (.int x_13), none]) (st' := [.ref l0]) cd_118_116 rfl rfl ?_
      refine gs_0 (pc' := 118) (L' := [some (.ref l0), some (.int x_3), some (.int x_5), some (.int x_7), some (.int x_13), none]) (st' := [.int x_5, .ref l0]) cd_118_117 rfl rfl ?_
      refine gs_0 (pc' := 119) (L' := [some (.ref l0), some (.int x_3), some (.int x_5), some (.int x_7), some (.int x_13), none]) (st' := [.int x_7, .int x_5, .ref l0]) cd_118_118 rfl rfl ?_
      refine gs_0 (pc' := 120) (L' := [some (.ref l0), some (.int x_3), some (.int x_5), some (.int x_7), some (.int x_13), none]) (st' := [.ref l0, .int x_7, .int x_5, .ref l0]) cd_118_119 rfl rfl ?_
      refine gs_0 (pc' := 121) (L' := [some (.ref l0), some (.int x_3), some (.int x_5), some (.int x_7), some (.int x_13), none]) (st' := [.int x_3, .ref l0, .int x_7, .int x_5, .ref l0]) cd_118_120 rfl rfl ?_
      obtain ⟨ht, h⟩ := gO_s h
      obtain ⟨x_17, w_14, I_15, J_16, hcl, h⟩ := cI_s h
      refine gs_call (as := [.ref l0, .int x_3]) (rest := [.int x_7, .int x_5, .ref l0]) cd_118_121 rfl (by decide) rfl (sm_rv_ok (by decide) ht) (Nat.le_of_ble_eq_true rfl) (Nat.le_of_ble_eq_true rfl) rfl hcl ?_
      obtain ⟨ht, h⟩ := gO_s h
      obtain ⟨x_21, w_18, I_19, J_20, hcl, h⟩ := cI_s h
      refine gs_call (as := [.ref l0, .int x_5, .int x_7, .int x_17]) (rest := []) cd_118_124 rfl (by decide) rfl (sm_rv_ok (by decide) ht) (Nat.le_of_ble_eq_true rfl) (Nat.le_of_ble_eq_true rfl) rfl hcl ?_
      refine gs_0 (pc' := 129) (L' := [some (.ref l0), some (.int x_3), some (.int x_5), some (.int x_7), some (.int x_13), some (.int x_21)]) (st' := []) cd_118_127 rfl rfl ?_
      refine gs_0 (pc' := 130) (L' := [some (.ref l0), some (.int x_3), some (.int x_5), some (.int x_7), some (.int x_13), some (.int x_21)]) (st' := [.int x_5]) cd_118_129 rfl rfl ?_
      refine gs_0 (pc' := 132) (L' := [some (.ref l0), some (.int x_3), some (.int x_5), some (.int x_7), some (.int x_13), some (.int x_21)]) (st' := [.int 24, .int x_5]) cd_118_130 rfl rfl ?_
      refine gs_0 (pc' := if x_5 = 24 then 153 else 135) (L' := [some (.ref l0), some (.int x_3), some (.int x_5), some (.int x_7), some (.int x_13), some (.int x_21)]) (st' := []) cd_118_132 rfl rfl ?_
      refine go_ite (fun hc => ?_) (fun hc => ?_)
      · rw [if_pos hc] at h
        exact ok_118_153 hr60 h
      · rw [if_neg hc] at h
        refine gs_0 (pc' := 136) (L' := [some (.ref l0), some (.int x_3), some (.int x_5), some (.int x_7), some (.int x_13), some (.int x_21)]) (st' := [.int x_5]) cd_118_135 rfl rfl ?_
        refine gs_0 (pc' := 138) (L' := [some (.ref l0), some (.int x_3), some (.int x_5), some (.int x_7), some (.int x_13), some (.int x_21)]) (st' := [.int 25, .int x_5]) cd_118_136 rfl rfl ?_
        refine gs_0 (pc' := if x_5 = 25 then 153 else 141) (L' := [some (.ref l0), some (.int x_3), some (.int x_5), some (.int x_7), some (.int x_13), some (.int x_21)]) (st' := []) cd_118_138 rfl rfl ?_
        refine go_ite (fun hc => ?_) (fun hc => ?_)
        · rw [if_pos hc] at h
          exact ok_118_153 hr60 h
        · rw [if_neg hc] at h
          refine gs_0 (pc' := 142) (L' := [some (.ref l0), some (.int x_3), some (.int x_5), some (.int x_7), some (.int x_13), some (.int x_21)]) (st' := [.ref l0]) cd_118_141 rfl rfl ?_
          refine gs_0 (pc' := 143) (L' := [some (.ref l0), some (.int x_3), some (.int x_5), some (.int x_7), some (.int x_13), some (.int x_21)]) (st' := [.int x_3, .ref l0]) cd_118_142 rfl rfl ?_
          refine gs_0 (pc' := 144) (L' := [some (.ref l0), some (.int x_3), some (.int x_5), some (.int x_7), some (.int x_13), some (.int x_21)]) (st' := [.int 1, .int x_3, .ref l0]) cd_118_143 rfl rfl ?_
          refine gs_0 (pc' := 145) (L' := [some (.ref l0), some (.int x_3), some (.int x_5), some (.int x_7), some (.int x_13), some (.int x_21)]) (st' := [.int (x_3 + 1), .ref l0]) cd_118_144 rfl rfl ?_
          refine gs_0 (pc' := 146) (L' := [some (.ref l0), some (.int x_3), some (.int x_5), some (.int x_7), some (.int x_13), some (.int x_21)]) (st' := [.int x_3, .int (x_3 + 1), .ref l0]) cd_118_145 rfl rfl ?_
          refine gs_0 (pc' := 148) (L' := [some (.ref l0), some (.int x_3), some (.int x_5), some (.int x_7), some (.int x_13), some (.int x_21)]) (st' := [.int x_13, .int x_3, .int (x_3 + 1), .ref l0]) cd_118_146 rfl rfl ?_
          refine gs_0 (pc' := 150) (L' := [some (.ref l0), some (.int x_3), some (.int x_5), some (.int x_7), some (.int x_13), some (.int x_21)]) (st' := [.int x_21, .int x_13, .int x_3, .int (x_3 + 1), .ref l0]) cd_118_148 rfl rfl ?_
          obtain ⟨ht, h⟩ := gO_s h
          obtain ⟨w_22, I_23, J_24, hcl, h⟩ := cV_s h
          refine gs_call (as := [.ref l0, .int (x_3 + 1), .int x_3, .int x_13, .int x_21]) (rest := []) cd_118_150 rfl (by decide) rfl (sm_rv_ok (by decide) ht) (Nat.le_of_ble_eq_true rfl) (Nat.le_of_ble_eq_true rfl) rfl hcl ?_
          exact ok_118_153 hr60 h
noncomputable def f_118_30 (K : Nat → Value) (k : Nat) (d : Nat) : Nat → Int32 → aW → aI → aJ → Option aR :=
  match k with
  | 0 => fun _ _ _ _ _ => none
  | k + 1 => fun l0 l1 w I J =>
  lt_ (f_118_30 K k d) fun r30 =>
  gO w 6 l0 (
  if (I l0 16) ≤ l1 then
    f_118_60 K k d l0 l1 w I J
  else
    gO w 6 l0 (
    gV w l0 18 fun q_1 =>
    gA w 10 20 q_1 (10 * l1) (
    gO w 6 l0 (
    cV (Cl K d 119 [.ref l0, .int (I q_1 (10 * l1 : Int32).toNatClampNeg), .int 0, .int 0, .int ((-1))] w I J) fun w_2 I_3 J_4 =>
    lt_ (l1 + 1) fun x_5 =>
    r30 l0 x_5 w_2 I_3 J_4))))
theorem ok_118_30 {K : Nat → Value} {d : Nat} : ∀ {k : Nat} {l0 : Nat} {l1 : Int32} {w : aW} {I : aI} {J : aJ} {R : aR}, f_118_30 K k d l0 l1 w I J = some R → Go K (d + 1) 118 30 [some (.ref l0), some (.int l1), none, none, none, none] [] w I J R := by
  intro k
  induction k with
  | zero => intro l0 l1 w I J R h; cases h
  | succ k ih =>
    intro l0 l1 w I J R h
    have hr30 : ∀ (l0 : Nat) (l1 : Int32) (w : aW) (I : aI) (J : aJ) (R : aR), f_118_30 K k d l0 l1 w I J = some R → Go K (d + 1) 118 30 [some (.ref l0), some (.int l1), none, none, none, none] [] w I J R := fun l0 l1 w I J R h => ih h
    rw [f_118_30] at h
    obtain ⟨r30, hx, h⟩ := lt_s_ h
    rw [hx] at hr30
    clear hx ih
    refine gs_0 (pc' := 31) (L' := [some (.ref l0), some (.int l1), none, none, none, none]) (st' := [.int l1]) cd_118_30 rfl rfl ?_
    refine gs_0 (pc' := 32) (L' := [some (.ref l0), some (.int l1), none, none, none, none]) (st' := [.ref l0, .int l1]) cd_118_31 rfl rfl ?_
    obtain ⟨ht, h⟩ := gO_s h
    refine gs_gfI cd_118_32 (by decide) (by decide) ht ?_
    refine gs_0 (pc' := if (I l0 16) ≤ l1 then 60 else 38) (L' := [some (.ref l0), some (.int l1), none, none, none, none]) (st' := []) cd_118_35 rfl rfl ?_
    refine go_ite (fun hc => ?_) (fun hc => ?_)
    · rw [if_pos hc] at h
      exact ok_118_60 h
    · rw [if_neg hc] at h
      refine gs_0 (pc' := 39) (L' := [some (.ref l0), some (.int l1), none, none, none, none]) (st' := [.ref l0]) cd_118_38 rfl rfl ?_
      refine gs_0 (pc' := 40) (L' := [some (.ref l0), some (.int l1), none, none, none, none]) (st' := [.ref l0, .ref l0]) cd_118_39 rfl rfl ?_
      obtain ⟨ht, h⟩ := gO_s h
      obtain ⟨q_1, hv, h⟩ := gV_s h
      refine gs_gfR cd_118_40 (by decide) ht hv ?_
      refine gs_0 (pc' := 45) (L' := [some (.ref l0), some (.int l1), none, none, none, none]) (st' := [.int 10, .ref q_1, .ref l0]) cd_118_43 rfl rfl ?_
      refine gs_0 (pc' := 46) (L' := [some (.ref l0), some (.int l1), none, none, none, none]) (st' := [.int l1, .int 10, .ref q_1, .ref l0]) cd_118_45 rfl rfl ?_
      refine gs_0 (pc' := 47) (L' := [some (.ref l0), some (.int l1), none, none, none, none]) (st' := [.int (10 * l1), .ref q_1, .ref l0]) cd_118_46 rfl rfl ?_
      obtain ⟨ht, h⟩ := gA_s h
      refine gs_iald cd_118_47 ht ?_
      refine gs_0 (pc' := 49) (L' := [some (.ref l0), some (.int l1), none, none, none, none]) (st' := [.int 0, .int (I q_1 (10 * l1 : Int32).toNatClampNeg), .ref l0]) cd_118_48 rfl rfl ?_
      refine gs_0 (pc' := 50) (L' := [some (.ref l0), some (.int l1), none, none, none, none]) (st' := [.int 0, .int 0, .int (I q_1 (10 * l1 : Int32).toNatClampNeg), .ref l0]) cd_118_49 rfl rfl ?_
      refine gs_0 (pc' := 51) (L' := [some (.ref l0), some (.int l1), none, none, none, none]) (st' := [.int ((-1)), .int 0, .int 0, .int (I q_1 (10 * l1 : Int32).toNatClampNeg), .ref l0]) cd_118_50 rfl rfl ?_
      obtain ⟨ht, h⟩ := gO_s h
      obtain ⟨w_2, I_3, J_4, hcl, h⟩ := cV_s h
      refine gs_call (as := [.ref l0, .int (I q_1 (10 * l1 : Int32).toNatClampNeg), .int 0, .int 0, .int ((-1))]) (rest := []) cd_118_51 rfl (by decide) rfl (sm_rv_ok (by decide) ht) (Nat.le_of_ble_eq_true rfl) (Nat.le_of_ble_eq_true rfl) rfl hcl ?_
      refine gs_0 (pc' := 57) (L' := [some (.ref l0), some (.int (l1 + 1)), none, none, none, none]) (st' := []) cd_118_54 rfl rfl ?_
      obtain ⟨x_5, hx, h⟩ := lt_s_ h
      rw [hx]
      clear hx
      refine gs_0 (pc' := 30) (L' := [some (.ref l0), some (.int x_5), none, none, none, none]) (st' := []) cd_118_57 rfl rfl ?_
      exact hr30 l0 x_5 _ _ _ _ h
noncomputable def f_118_2 (K : Nat → Value) (k : Nat) (d : Nat) : Nat → Int32 → aW → aI → aJ → Option aR :=
  match k with
  | 0 => fun _ _ _ _ _ => none
  | k + 1 => fun l0 l1 w I J =>
  lt_ (f_118_2 K k d) fun r2 =>
  gO w 6 l0 (
  if (I l0 17) ≤ l1 then
    gO w 6 l0 (
    lt_ (sm_up2 I l0 35 0) fun I_1 =>
    f_118_30 K k d l0 0 w I_1 J)
  else
    gO w 6 l0 (
    gV w l0 32 fun q_2 =>
    gA w 10 10 q_2 l1 (
    lt_ (sm_up2 I q_2 (l1 : Int32).toNatClampNeg (-1)) fun I_3 =>
    lt_ (l1 + 1) fun x_4 =>
    r2 l0 x_4 w I_3 J)))
theorem ok_118_2 {K : Nat → Value} {d : Nat} : ∀ {k : Nat} {l0 : Nat} {l1 : Int32} {w : aW} {I : aI} {J : aJ} {R : aR}, f_118_2 K k d l0 l1 w I J = some R → Go K (d + 1) 118 2 [some (.ref l0), some (.int l1), none, none, none, none] [] w I J R := by
  intro k
  induction k with
  | zero => intro l0 l1 w I J R h; cases h
  | succ k ih =>
    intro l0 l1 w I J R h
    have hr2 : ∀ (l0 : Nat) (l1 : Int32) (w : aW) (I : aI) (J : aJ) (R : aR), f_118_2 K k d l0 l1 w I J = some R → Go K (d + 1) 118 2 [some (.ref l0), some (.int l1), none, none, none, none] [] w I J R := fun l0 l1 w I J R h => ih h
    rw [f_118_2] at h
    obtain ⟨r2, hx, h⟩ := lt_s_ h
    rw [hx] at hr2
    clear hx ih
    refine gs_0 (pc' := 3) (L' := [some (.ref l0), some (.int l1), none, none, none, none]) (st' := [.int l1]) cd_118_2 rfl rfl ?_
    refine gs_0 (pc' := 4) (L' := [some (.ref l0), some (.int l1), none, none, none, none]) (st' := [.ref l0, .int l1]) cd_118_3 rfl rfl ?_
    obtain ⟨ht, h⟩ := gO_s h
    refine gs_gfI cd_118_4 (by decide) (by decide) ht ?_
    refine gs_0 (pc' := if (I l0 17) ≤ l1 then 23 else 10) (L' := [some (.ref l0), some (.int l1), none, none, none, none]) (st' := []) cd_118_7 rfl rfl ?_
    refine go_ite (fun hc => ?_) (fun hc => ?_)
    · rw [if_pos hc] at h
      refine gs_0 (pc' := 24) (L' := [some (.ref l0), some (.int l1), none, none, none, none]) (st' := [.ref l0]) cd_118_23 rfl rfl ?_
      refine gs_0 (pc' := 25) (L' := [some (.ref l0), some (.int l1), none, none, none, none]) (st' := [.int 0, .ref l0]) cd_118_24 rfl rfl ?_
      obtain ⟨ht, h⟩ := gO_s h
      refine gs_pfI cd_118_25 (by decide) (Or.inl rfl) ht ?_
      obtain ⟨I_1, hx, h⟩ := lt_s_ h
      rw [hx]
      refine gs_0 (pc' := 29) (L' := [some (.ref l0), some (.int l1), none, none, none, none]) (st' := [.int 0]) cd_118_28 rfl rfl ?_
      refine gs_0 (pc' := 30) (L' := [some (.ref l0), some (.int 0), none, none, none, none]) (st' := []) cd_118_29 rfl rfl ?_
      exact ok_118_30 h
    · rw [if_neg hc] at h
      refine gs_0 (pc' := 11) (L' := [some (.ref l0), some (.int l1), none, none, none, none]) (st' := [.ref l0]) cd_118_10 rfl rfl ?_
      obtain ⟨ht, h⟩ := gO_s h
      obtain ⟨q_2, hv, h⟩ := gV_s h
      refine gs_gfR cd_118_11 (by decide) ht hv ?_
      refine gs_0 (pc' := 15) (L' := [some (.ref l0), some (.int l1), none, none, none, none]) (st' := [.int l1, .ref q_2]) cd_118_14 rfl rfl ?_
      refine gs_0 (pc' := 16) (L' := [some (.ref l0), some (.int l1), none, none, none, none]) (st' := [.int ((-1)), .int l1, .ref q_2]) cd_118_15 rfl rfl ?_
      obtain ⟨ht, h⟩ := gA_s h
      refine gs_iast cd_118_16 ht ?_
      obtain ⟨I_3, hx, h⟩ := lt_s_ h
      rw [hx]
      refine gs_0 (pc' := 20) (L' := [some (.ref l0), some (.int (l1 + 1)), none, none, none, none]) (st' := []) cd_118_17 rfl rfl ?_
      obtain ⟨x_4, hx, h⟩ := lt_s_ h
      rw [hx]
      clear hx
      refine gs_0 (pc' := 2) (L' := [some (.ref l0), some (.int x_4), none, none, none, none]) (st' := []) cd_118_20 rfl rfl ?_
      exact hr2 l0 x_4 _ _ _ _ h
noncomputable def f_118 (K : Nat → Value) (k d : Nat) (l0 : Nat) (w : aW) (I : aI) (J : aJ) : Option aR :=
  f_118_2 K k d l0 0 w I J
theorem ok_118 {K : Nat → Value} {k d : Nat} {l0 : Nat} {w : aW} {I : aI} {J : aJ} {R : aR} (h : f_118 K k d l0 w I J = some R) : Go K (d + 1) 118 0 [some (.ref l0), none, none, none, none, none] [] w I J R := by
  unfold f_118 at h
  refine gs_0 (pc' := 1) (L' := [some (.ref l0), none, none, none, none, none]) (st' := [.int 0]) cd_118_0 rfl rfl ?_
  refine gs_0 (pc' := 2) (L' := [some (.ref l0), some (.int 0), none, none, none, none]) (st' := []) cd_118_1 rfl rfl ?_
  exact ok_118_2 h
theorem cl_118 {K : Nat → Value} {k d : Nat} {l0 : Nat} {w : aW} {I : aI} {J : aJ} {R : aR} (h : f_118 K k d l0 w I J = some R) : Cl K (d + 1) 118 [.ref l0] w I J = some R := Cl_of (ok_118 h)
/-! ProvedMachineModel.arrive(IIII)V -/
set_option maxRecDepth 20000 in
theorem gl_119 : gcd.lookup 119 = some gw_119 := rfl
theorem cd_119_0 : sm_cd 119 0 = some (.aload_n 0, 1, 0, 0, 0, 0, 0, 0, 0) := cd_of gl_119 rfl
theorem cd_119_1 : sm_cd 119 1 = some (.getfield 102, 3, 6, 32, 2, 0, 0, 0, 0) := cd_of gl_119 rfl
theorem cd_119_4 : sm_cd 119 4 = some (.iload_n 1, 1, 1, 0, 0, 0, 0, 0, 0) := cd_of gl_119 rfl
theorem cd_119_5 : sm_cd 119 5 = some (.iaload, 1, 0, 0, 0, 0, 0, 0, 0) := cd_of gl_119 rfl
theorem cd_119_6 : sm_cd 119 6 = some (.ifCond .lt 4, 3, 10, 0, 0, 0, 0, 0, 0) := cd_of gl_119 rfl
theorem cd_119_9 : sm_cd 119 9 = some (.return_, 1, 0, 0, 0, 0, 0, 0, 0) := cd_of gl_119 rfl
theorem cd_119_10 : sm_cd 119 10 = some (.iconst 0, 1, 0, 0, 0, 0, 0, 0, 0) := cd_of gl_119 rfl
theorem cd_119_11 : sm_cd 119 11 = some (.istore 5, 2, 5, 0, 0, 0, 0, 0, 0) := cd_of gl_119 rfl
theorem cd_119_13 : sm_cd 119 13 = some (.iload 5, 2, 5, 0, 0, 0, 0, 0, 0) := cd_of gl_119 rfl
theorem cd_119_15 : sm_cd 119 15 = some (.iload_n 3, 1, 3, 0, 0, 0, 0, 0, 0) := cd_of gl_119 rfl
theorem cd_119_16 : sm_cd 119 16 = some (.if_icmp .ge 33, 3, 49, 0, 0, 0, 0, 0, 0) := cd_of gl_119 rfl
theorem cd_119_19 : sm_cd 119 19 = some (.aload_n 0, 1, 0, 0, 0, 0, 0, 0, 0) := cd_of gl_119 rfl
theorem cd_119_20 : sm_cd 119 20 = some (.getfield 105, 3, 6, 33, 2, 0, 0, 0, 0) := cd_of gl_119 rfl
theorem cd_119_23 : sm_cd 119 23 = some (.bipush 64, 2, 0, 0, 0, 0, 0, 64, 0) := cd_of gl_119 rfl
theorem cd_119_25 : sm_cd 119 25 = some (.iload_n 1, 1, 1, 0, 0, 0, 0, 0, 0) := cd_of gl_119 rfl
theorem cd_119_26 : sm_cd 119 26 = some (.imul, 1, 0, 0, 0, 0, 0, 0, 0) := cd_of gl_119 rfl
theorem cd_119_27 : sm_cd 119 27 = some (.iload 5, 2, 5, 0, 0, 0, 0, 0, 0) := cd_of gl_119 rfl
theorem cd_119_29 : sm_cd 119 29 = some (.iadd, 1, 0, 0, 0, 0, 0, 0, 0) := cd_of gl_119 rfl
theorem cd_119_30 : sm_cd 119 30 = some (.aload_n 0, 1, 0, 0, 0, 0, 0, 0, 0) := cd_of gl_119 rfl
theorem cd_119_31 : sm_cd 119 31 = some (.getfield 105, 3, 6, 33, 2, 0, 0, 0, 0) := cd_of gl_119 rfl
theorem cd_119_34 : sm_cd 119 34 = some (.bipush 64, 2, 0, 0, 0, 0, 0, 64, 0) := cd_of gl_119 rfl
theorem cd_119_36 : sm_cd 119 36 = some (.iload_n 2, 1, 2, 0, 0, 0, 0, 0, 0) := cd_of gl_119 rfl
theorem cd_119_37 : sm_cd 119 37 = some (.imul, 1, 0, 0, 0, 0, 0, 0, 0) := cd_of gl_119 rfl
theorem cd_119_38 : sm_cd 119 38 = some (.iload 5, 2, 5, 0, 0, 0, 0, 0, 0) := cd_of gl_119 rfl
theorem cd_119_40 : sm_cd 119 40 = some (.iadd, 1, 0, 0, 0, 0, 0, 0, 0) := cd_of gl_119 rfl
theorem cd_119_41 : sm_cd 119 41 = some (.iaload, 1, 0, 0, 0, 0, 0, 0, 0) := cd_of gl_119 rfl
theorem cd_119_42 : sm_cd 119 42 = some (.iastore, 1, 0, 0, 0, 0, 0, 0, 0) := cd_of gl_119 rfl
theorem cd_119_43 : sm_cd 119 43 = some (.iinc 5 1, 3, 5, 0, 0, 0, 0, 1, 0) := cd_of gl_119 rfl
theorem cd_119_46 : sm_cd 119 46 = some (.goto (-33), 3, 13, 0, 0, 0, 0, 0, 0) := cd_of gl_119 rfl
theorem cd_119_49 : sm_cd 119 49 = some (.iload 4, 2, 4, 0, 0, 0, 0, 0, 0) := cd_of gl_119 rfl
theorem cd_119_51 : sm_cd 119 51 = some (.ifCond .lt 16, 3, 67, 0, 0, 0, 0, 0, 0) := cd_of gl_119 rfl
theorem cd_119_54 : sm_cd 119 54 = some (.aload_n 0, 1, 0, 0, 0, 0, 0, 0, 0) := cd_of gl_119 rfl
theorem cd_119_55 : sm_cd 119 55 = some (.getfield 105, 3, 6, 33, 2, 0, 0, 0, 0) := cd_of gl_119 rfl
theorem cd_119_58 : sm_cd 119 58 = some (.bipush 64, 2, 0, 0, 0, 0, 0, 64, 0) := cd_of gl_119 rfl
theorem cd_119_60 : sm_cd 119 60 = some (.iload_n 1, 1, 1, 0, 0, 0, 0, 0, 0) := cd_of gl_119 rfl
theorem cd_119_61 : sm_cd 119 61 = some (.imul, 1, 0, 0, 0, 0, 0, 0, 0) := cd_of gl_119 rfl
theorem cd_119_62 : sm_cd 119 62 = some (.iload_n 3, 1, 3, 0, 0, 0, 0, 0, 0) := cd_of gl_119 rfl
theorem cd_119_63 : sm_cd 119 63 = some (.iadd, 1, 0, 0, 0, 0, 0, 0, 0) := cd_of gl_119 rfl
theorem cd_119_64 : sm_cd 119 64 = some (.iload 4, 2, 4, 0, 0, 0, 0, 0, 0) := cd_of gl_119 rfl
theorem cd_119_66 : sm_cd 119 66 = some (.iastore, 1, 0, 0, 0, 0, 0, 0, 0) := cd_of gl_119 rfl
theorem cd_119_67 : sm_cd 119 67 = some (.aload_n 0, 1, 0, 0, 0, 0, 0, 0, 0) := cd_of gl_119 rfl
theorem cd_119_68 : sm_cd 119 68 = some (.getfield 102, 3, 6, 32, 2, 0, 0, 0, 0) := cd_of gl_119 rfl
theorem cd_119_71 : sm_cd 119 71 = some (.iload_n 1, 1, 1, 0, 0, 0, 0, 0, 0) := cd_of gl_119 rfl
theorem cd_119_72 : sm_cd 119 72 = some (.iload 4, 2, 4, 0, 0, 0, 0, 0, 0) := cd_of gl_119 rfl
theorem cd_119_74 : sm_cd 119 74 = some (.ifCond .lt 9, 3, 83, 0, 0, 0, 0, 0, 0) := cd_of gl_119 rfl
theorem cd_119_77 : sm_cd 119 77 = some (.iload_n 3, 1, 3, 0, 0, 0, 0, 0, 0) := cd_of gl_119 rfl
theorem cd_119_78 : sm_cd 119 78 = some (.iconst 1, 1, 0, 0, 0, 0, 0, 1, 0) := cd_of gl_119 rfl
theorem cd_119_79 : sm_cd 119 79 = some (.iadd, 1, 0, 0, 0, 0, 0, 0, 0) := cd_of gl_119 rfl
theorem cd_119_80 : sm_cd 119 80 = some (.goto 4, 3, 84, 0, 0, 0, 0, 0, 0) := cd_of gl_119 rfl
theorem cd_119_83 : sm_cd 119 83 = some (.iload_n 3, 1, 3, 0, 0, 0, 0, 0, 0) := cd_of gl_119 rfl
theorem cd_119_84 : sm_cd 119 84 = some (.iastore, 1, 0, 0, 0, 0, 0, 0, 0) := cd_of gl_119 rfl
theorem cd_119_85 : sm_cd 119 85 = some (.aload_n 0, 1, 0, 0, 0, 0, 0, 0, 0) := cd_of gl_119 rfl
theorem cd_119_86 : sm_cd 119 86 = some (.getfield 108, 3, 6, 34, 2, 0, 0, 0, 0) := cd_of gl_119 rfl
theorem cd_119_89 : sm_cd 119 89 = some (.aload_n 0, 1, 0, 0, 0, 0, 0, 0, 0) := cd_of gl_119 rfl
theorem cd_119_90 : sm_cd 119 90 = some (.getfield 342, 3, 6, 35, 0, 0, 0, 0, 0) := cd_of gl_119 rfl
theorem cd_119_93 : sm_cd 119 93 = some (.iload_n 1, 1, 1, 0, 0, 0, 0, 0, 0) := cd_of gl_119 rfl
theorem cd_119_94 : sm_cd 119 94 = some (.iastore, 1, 0, 0, 0, 0, 0, 0, 0) := cd_of gl_119 rfl
theorem cd_119_95 : sm_cd 119 95 = some (.aload_n 0, 1, 0, 0, 0, 0, 0, 0, 0) := cd_of gl_119 rfl
theorem cd_119_96 : sm_cd 119 96 = some (.dup, 1, 0, 0, 0, 0, 0, 0, 0) := cd_of gl_119 rfl
theorem cd_119_97 : sm_cd 119 97 = some (.getfield 342, 3, 6, 35, 0, 0, 0, 0, 0) := cd_of gl_119 rfl
theorem cd_119_100 : sm_cd 119 100 = some (.iconst 1, 1, 0, 0, 0, 0, 0, 1, 0) := cd_of gl_119 rfl
theorem cd_119_101 : sm_cd 119 101 = some (.iadd, 1, 0, 0, 0, 0, 0, 0, 0) := cd_of gl_119 rfl
theorem cd_119_102 : sm_cd 119 102 = some (.putfield 342, 3, 6, 35, 0, 0, 0, 0, 0) := cd_of gl_119 rfl
theorem cd_119_105 : sm_cd 119 105 = some (.return_, 1, 0, 0, 0, 0, 0, 0, 0) := cd_of gl_119 rfl
noncomputable def f_119_84 (K : Nat → Value) (k d : Nat) (l0 : Nat) (l1 : Int32) (l2 : Int32) (l3 : Int32) (l4 : Int32) (l5 : Int32) (s0 : Nat) (s1 : Int32) (s2 : Int32) (w : aW) (I : aI) (J : aJ) : Option aR :=
  gA w 10 10 s0 s1 (
  lt_ (sm_up2 I s0 (s1 : Int32).toNatClampNeg s2) fun I_1 =>
  gO w 6 l0 (
  gV w l0 34 fun q_2 =>
  gO w 6 l0 (
  gA w 10 10 q_2 (I_1 l0 35) (
  lt_ (sm_up2 I_1 q_2 (I_1 l0 35 : Int32).toNatClampNeg l1) fun I_3 =>
  gO w 6 l0 (
  gO w 6 l0 (
  lt_ (sm_up2 I_3 l0 35 ((I_3 l0 35) + 1)) fun I_4 =>
  some (none, w, I_4, J)))))))
theorem ok_119_84 {K : Nat → Value} {k d : Nat} {l0 : Nat} {l1 : Int32} {l2 : Int32} {l3 : Int32} {l4 : Int32} {l5 : Int32} {s0 : Nat} {s1 : Int32} {s2 : Int32} {w : aW} {I : aI} {J : aJ} {R : aR} (h : f_119_84 K k d l0 l1 l2 l3 l4 l5 s0 s1 s2 w I J = some R) : Go K (d + 1) 119 84 [some (.ref l0), some (.int l1), some (.int l2), some (.int l3), some (.int l4), some (.int l5)] [.int s2, .int s1, .ref s0] w I J R := by
  unfold f_119_84 at h
  obtain ⟨ht, h⟩ := gA_s h
  refine gs_iast cd_119_84 ht ?_
  obtain ⟨I_1, hx, h⟩ := lt_s_ h
  rw [hx]
  refine gs_0 (pc' := 86) (L' := [some (.ref l0), some (.int l1), some (.int l2), some (.int l3), some (.int l4), some (.int l5)]) (st' := [.ref l0]) cd_119_85 rfl rfl ?_
  obtain ⟨ht, h⟩ := gO_s h
  obtain ⟨q_2, hv, h⟩ := gV_s h
  refine gs_gfR cd_119_86 (by decide) ht hv ?_
  refine gs_0 (pc' := 90) (L' := [some (.ref l0), some (.int l1), some (.int l2), some (.int l3), some (.int l4), some (.int l5)]) (st' := [.ref l0, .ref q_2]) cd_119_89 rfl rfl ?_
  obtain ⟨ht, h⟩ := gO_s h
  refine gs_gfI cd_119_90 (by decide) (by decide) ht ?_
  refine gs_0 (pc' := 94) (L' := [some (.ref l0), some (.int l1), some (.int l2), some (.int l3), some (.int l4), some (.int l5)]) (st' := [.int l1, .int (I_1 l0 35), .ref q_2]) cd_119_93 rfl rfl ?_
  obtain ⟨ht, h⟩ := gA_s h
  refine gs_iast cd_119_94 ht ?_
  obtain ⟨I_3, hx, h⟩ := lt_s_ h
  rw [hx]
  refine gs_0 (pc' := 96) (L' := [some (.ref l0), some (.int l1), some (.int l2), some (.int l3), some (.int l4), some (.int l5)]) (st' := [.ref l0]) cd_119_95 rfl rfl ?_
  refine gs_0 (pc' := 97) (L' := [some (.ref l0), some (.int l1), some (.int l2), some (.int l3), some (.int l4), some (.int l5)]) (st' := [.ref l0, .ref l0]) cd_119_96 rfl rfl ?_
  obtain ⟨ht, h⟩ := gO_s h
  refine gs_gfI cd_119_97 (by decide) (by decide) ht ?_
  refine gs_0 (pc' := 101) (L' := [some (.ref l0), some (.int l1), some (.int l2), some (.int l3), some (.int l4), some (.int l5)]) (st' := [.int 1, .int (I_3 l0 35), .ref l0]) cd_119_100 rfl rfl ?_
  refine gs_0 (pc' := 102) (L' := [some (.ref l0), some (.int l1), some (.int l2), some (.int l3), some (.int l4), some (.int l5)]) (st' := [.int ((I_3 l0 35) + 1), .ref l0]) cd_119_101 rfl rfl ?_
  obtain ⟨ht, h⟩ := gO_s h
  refine gs_pfI cd_119_102 (by decide) (Or.inl rfl) ht ?_
  obtain ⟨I_4, hx, h⟩ := lt_s_ h
  rw [hx]
  cases h
  exact gsr cd_119_105 rfl rfl
noncomputable def f_119_67 (K : Nat → Value) (k d : Nat) (l0 : Nat) (l1 : Int32) (l2 : Int32) (l3 : Int32) (l4 : Int32) (l5 : Int32) (w : aW) (I : aI) (J : aJ) : Option aR :=
  gO w 6 l0 (
  gV w l0 32 fun q_1 =>
  if l4 < 0 then
    f_119_84 K k d l0 l1 l2 l3 l4 l5 q_1 l1 l3 w I J
  else
    f_119_84 K k d l0 l1 l2 l3 l4 l5 q_1 l1 (l3 + 1) w I J)
theorem ok_119_67 {K : Nat → Value} {k d : Nat} {l0 : Nat} {l1 : Int32} {l2 : Int32} {l3 : Int32} {l4 : Int32} {l5 : Int32} {w : aW} {I : aI} {J : aJ} {R : aR} (h : f_119_67 K k d l0 l1 l2 l3 l4 l5 w I J = some R) : Go K (d + 1) 119 67 [some (.ref l0), some (.int l1), some (.int l2), some (.int l3), some (.int l4), some (.int l5)] [] w I J R := by
  unfold f_119_67 at h
  refine gs_0 (pc' := 68) (L' := [some (.ref l0), some (.int l1), some (.int l2), some (.int l3), some (.int l4), some (.int l5)]) (st' := [.ref l0]) cd_119_67 rfl rfl ?_
  obtain ⟨ht, h⟩ := gO_s h
  obtain ⟨q_1, hv, h⟩ := gV_s h
  refine gs_gfR cd_119_68 (by decide) ht hv ?_
  refine gs_0 (pc' := 72) (L' := [some (.ref l0), some (.int l1), some (.int l2), some (.int l3), some (.int l4), some (.int l5)]) (st' := [.int l1, .ref q_1]) cd_119_71 rfl rfl ?_
  refine gs_0 (pc' := 74) (L' := [some (.ref l0), some (.int l1), some (.int l2), some (.int l3), some (.int l4), some (.int l5)]) (st' := [.int l4, .int l1, .ref q_1]) cd_119_72 rfl rfl ?_
  refine gs_0 (pc' := if l4 < 0 then 83 else 77) (L' := [some (.ref l0), some (.int l1), some (.int l2), some (.int l3), some (.int l4), some (.int l5)]) (st' := [.int l1, .ref q_1]) cd_119_74 rfl rfl ?_
  refine go_ite (fun hc => ?_) (fun hc => ?_)
  · rw [if_pos hc] at h
    refine gs_0 (pc' := 84) (L' := [some (.ref l0), some (.int l1), some (.int l2), some (.int l3), some (.int l4), some (.int l5)]) (st' := [.int l3, .int l1, .ref q_1]) cd_119_83 rfl rfl ?_
    exact ok_119_84 h
  · rw [if_neg hc] at h
    refine gs_0 (pc' := 78) (L' := [some (.ref l0), some (.int l1), some (.int l2), some (.int l3), some (.int l4), some (.int l5)]) (st' := [.int l3, .int l1, .ref q_1]) cd_119_77 rfl rfl ?_
    refine gs_0 (pc' := 79) (L' := [some (.ref l0), some (.int l1), some (.int l2), some (.int l3), some (.int l4), some (.int l5)]) (st' := [.int 1, .int l3, .int l1, .ref q_1]) cd_119_78 rfl rfl ?_
    refine gs_0 (pc' := 80) (L' := [some (.ref l0), some (.int l1), some (.int l2), some (.int l3), some (.int l4), some (.int l5)]) (st' := [.int (l3 + 1), .int l1, .ref q_1]) cd_119_79 rfl rfl ?_
    refine gs_0 (pc' := 84) (L' := [some (.ref l0), some (.int l1), some (.int l2), some (.int l3), some (.int l4), some (.int l5)]) (st' := [.int (l3 + 1), .int l1, .ref q_1]) cd_119_80 rfl rfl ?_
    exact ok_119_84 h
noncomputable def f_119_13 (K : Nat → Value) (k : Nat) (d : Nat) : Nat → Int32 → Int32 → Int32 → Int32 → Int32 → aW → aI → aJ → Option aR :=
  match k with
  | 0 => fun _ _ _ _ _ _ _ _ _ => none
  | k + 1 => fun l0 l1 l2 l3 l4 l5 w I J =>
  lt_ (f_119_13 K k d) fun r13 =>
  if l3 ≤ l5 then
    if l4 < 0 then
      f_119_67 K k d l0 l1 l2 l3 l4 l5 w I J
    else
      gO w 6 l0 (
      gV w l0 33 fun q_1 =>
      gA w 10 10 q_1 ((64 * l1) + l3) (
      lt_ (sm_up2 I q_1 ((64 * l1) + l3 : Int32).toNatClampNeg l4) fun I_2 =>
      f_119_67 K k d l0 l1 l2 l3 l4 l5 w I_2 J))
  else
    gO w 6 l0 (
    gV w l0 33 fun q_3 =>
    gO w 6 l0 (
    gV w l0 33 fun q_4 =>
    gA w 10 20 q_4 ((64 * l2) + l5) (
    gA w 10 10 q_3 ((64 * l1) + l5) (
    lt_ (sm_up2 I q_3 ((64 * l1) + l5 : Int32).toNatClampNeg (I q_4 ((64 * l2) + l5 : Int32).toNatClampNeg)) fun I_5 =>
    lt_ (l5 + 1) fun x_6 =>
    r13 l0 l1 l2 l3 l4 x_6 w I_5 J))))
theorem ok_119_13 {K : Nat → Value} {d : Nat} : ∀ {k : Nat} {l0 : Nat} {l1 : Int32} {l2 : Int32} {l3 : Int32} {l4 : Int32} {l5 : Int32} {w : aW} {I : aI} {J : aJ} {R : aR}, f_119_13 K k d l0 l1 l2 l3 l4 l5 w I J = some R → Go K (d + 1) 119 13 [some (.ref l0), some (.int l1), some (.int l2), some (.int l3), some (.int l4), some (.int l5)] [] w I J R := by
  intro k
  induction k with
  | zero => intro l0 l1 l2 l3 l4 l5 w I J R h; cases h
  | succ k ih =>
    intro l0 l1 l2 l3 l4 l5 w I J R h
    have hr13 : ∀ (l0 : Nat) (l1 : Int32) (l2 : Int32) (l3 : Int32) (l4 : Int32) (l5 : Int32) (w : aW) (I : aI) (J : aJ) (R : aR), f_119_13 K k d l0 l1 l2 l3 l4 l5 w I J = some R → Go K (d + 1) 119 13 [some (.ref l0), some (.int l1), some (.int l2), some (.int l3), some (.int l4), some (.int l5)] [] w I J R := fun l0 l1 l2 l3 l4 l5 w I J R h => ih h
    rw [f_119_13] at h
    obtain ⟨r13, hx, h⟩ := lt_s_ h
    rw [hx] at hr13
    clear hx ih
    refine gs_0 (pc' := 15) (L' := [some (.ref l0), some (.int l1), some (.int l2), some (.int l3), some (.int l4), some (.int l5)]) (st' := [.int l5]) cd_119_13 rfl rfl ?_
    refine gs_0 (pc' := 16) (L' := [some (.ref l0), some (.int l1), some (.int l2), some (.int l3), some (.int l4), some (.int l5)]) (st' := [.int l3, .int l5]) cd_119_15 rfl rfl ?_
    refine gs_0 (pc' := if l3 ≤ l5 then 49 else 19) (L' := [some (.ref l0), some (.int l1), some (.int l2), some (.int l3), some (.int l4), some (.int l5)]) (st' := []) cd_119_16 rfl rfl ?_
    refine go_ite (fun hc => ?_) (fun hc => ?_)
    · rw [if_pos hc] at h
      refine gs_0 (pc' := 51) (L' := [some (.ref l0), some (.int l1), some (.int l2), some (.int l3), some (.int l4), some (.int l5)]) (st' := [.int l4]) cd_119_49 rfl rfl ?_
      refine gs_0 (pc' := if l4 < 0 then 67 else 54) (L' := [some (.ref l0), some (.int l1), some (.int l2), some (.int l3), some (.int l4), some (.int l5)]) (st' := []) cd_119_51 rfl rfl ?_
      refine go_ite (fun hc => ?_) (fun hc => ?_)
      · rw [if_pos hc] at h
        exact ok_119_67 h
      · rw [if_neg hc] at h
        refine gs_0 (pc' := 55) (L' := [some (.ref l0), some (.int l1), some (.int l2), some (.int l3), some (.int l4), some (.int l5)]) (st' := [.ref l0]) cd_119_54 rfl rfl ?_
        obtain ⟨ht, h⟩ := gO_s h
        obtain ⟨q_1, hv, h⟩ := gV_s h
        refine gs_gfR cd_119_55 (by decide) ht hv ?_
        refine gs_0 (pc' := 60) (L' := [some (.ref l0), some (.int l1), some (.int l2), some (.int l3), some (.int l4), some (.int l5)]) (st' := [.int 64, .ref q_1]) cd_119_58 rfl rfl ?_
        refine gs_0 (pc' := 61) (L' := [some (.ref l0), some (.int l1), some (.int l2), some (.int l3), some (.int l4), some (.int l5)]) (st' := [.int l1, .int 64, .ref q_1]) cd_119_60 rfl rfl ?_
        refine gs_0 (pc' := 62) (L' := [some (.ref l0), some (.int l1), some (.int l2), some (.int l3), some (.int l4), some (.int l5)]) (st' := [.int (64 * l1), .ref q_1]) cd_119_61 rfl rfl ?_
        refine gs_0 (pc' := 63) (L' := [some (.ref l0), some (.int l1), some (.int l2), some (.int l3), some (.int l4), some (.int l5)]) (st' := [.int l3, .int (64 * l1), .ref q_1]) cd_119_62 rfl rfl ?_
        refine gs_0 (pc' := 64) (L' := [some (.ref l0), some (.int l1), some (.int l2), some (.int l3), some (.int l4), some (.int l5)]) (st' := [.int ((64 * l1) + l3), .ref q_1]) cd_119_63 rfl rfl ?_
        refine gs_0 (pc' := 66) (L' := [some (.ref l0), some (.int l1), some (.int l2), some (.int l3), some (.int l4), some (.int l5)]) (st' := [.int l4, .int ((64 * l1) + l3), .ref q_1]) cd_119_64 rfl rfl ?_
        obtain ⟨ht, h⟩ := gA_s h
        refine gs_iast cd_119_66 ht ?_
        obtain ⟨I_2, hx, h⟩ := lt_s_ h
        rw [hx]
        exact ok_119_67 h
    · rw [if_neg hc] at h
      refine gs_0 (pc' := 20) (L' := [some (.ref l0), some (.int l1), some (.int l2), some (.int l3), some (.int l4), some (.int l5)]) (st' := [.ref l0]) cd_119_19 rfl rfl ?_
      obtain ⟨ht, h⟩ := gO_s h
      obtain ⟨q_3, hv, h⟩ := gV_s h
      refine gs_gfR cd_119_20 (by decide) ht hv ?_
      refine gs_0 (pc' := 25) (L' := [some (.ref l0), some (.int l1), some (.int l2), some (.int l3), some (.int l4), some (.int l5)]) (st' := [.int 64, .ref q_3]) cd_119_23 rfl rfl ?_
      refine gs_0 (pc' := 26) (L' := [some (.ref l0), some (.int l1), some (.int l2), some (.int l3), some (.int l4), some (.int l5)]) (st' := [.int l1, .int 64, .ref q_3]) cd_119_25 rfl rfl ?_
      refine gs_0 (pc' := 27) (L' := [some (.ref l0), some (.int l1), some (.int l2), some (.int l3), some (.int l4), some (.int l5)]) (st' := [.int (64 * l1), .ref q_3]) cd_119_26 rfl rfl ?_
      refine gs_0 (pc' := 29) (L' := [some (.ref l0), some (.int l1), some (.int l2), some (.int l3), some (.int l4), some (.int l5)]) (st' := [.int l5, .int (64 * l1), .ref q_3]) cd_119_27 rfl rfl ?_
      refine gs_0 (pc' := 30) (L' := [some (.ref l0), some (.int l1), some (.int l2), some (.int l3), some (.int l4), some (.int l5)]) (st' := [.int ((64 * l1) + l5), .ref q_3]) cd_119_29 rfl rfl ?_
      refine gs_0 (pc' := 31) (L' := [some (.ref l0), some (.int l1), some (.int l2), some (.int l3), some (.int l4), some (.int l5)]) (st' := [.ref l0, .int ((64 * l1) + l5), .ref q_3]) cd_119_30 rfl rfl ?_
      obtain ⟨ht, h⟩ := gO_s h
      obtain ⟨q_4, hv, h⟩ := gV_s h
      refine gs_gfR cd_119_31 (by decide) ht hv ?_
      refine gs_0 (pc' := 36) (L' := [some (.ref l0), some (.int l1), some (.int l2), some (.int l3), some (.int l4), some (.int l5)]) (st' := [.int 64, .ref q_4, .int ((64 * l1) + l5), .ref q_3]) cd_119_34 rfl rfl ?_
      refine gs_0 (pc' := 37) (L' := [some (.ref l0), some (.int l1), some (.int l2), some (.int l3), some (.int l4), some (.int l5)]) (st' := [.int l2, .int 64, .ref q_4, .int ((64 * l1) + l5), .ref q_3]) cd_119_36 rfl rfl ?_
      refine gs_0 (pc' := 38) (L' := [some (.ref l0), some (.int l1), some (.int l2), some (.int l3), some (.int l4), some (.int l5)]) (st' := [.int (64 * l2), .ref q_4, .int ((64 * l1) + l5), .ref q_3]) cd_119_37 rfl rfl ?_
      refine gs_0 (pc' := 40) (L' := [some (.ref l0), some (.int l1), some (.int l2), some (.int l3), some (.int l4), some (.int l5)]) (st' := [.int l5, .int (64 * l2), .ref q_4, .int ((64 * l1) + l5), .ref q_3]) cd_119_38 rfl rfl ?_
      refine gs_0 (pc' := 41) (L' := [some (.ref l0), some (.int l1), some (.int l2), some (.int l3), some (.int l4), some (.int l5)]) (st' := [.int ((64 * l2) + l5), .ref q_4, .int ((64 * l1) + l5), .ref q_3]) cd_119_40 rfl rfl ?_
      obtain ⟨ht, h⟩ := gA_s h
      refine gs_iald cd_119_41 ht ?_
      obtain ⟨ht, h⟩ := gA_s h
      refine gs_iast cd_119_42 ht ?_
      obtain ⟨I_5, hx, h⟩ := lt_s_ h
      rw [hx]
      refine gs_0 (pc' := 46) (L' := [some (.ref l0), some (.int l1), some (.int l2), some (.int l3), some (.int l4), some (.int (l5 + 1))]) (st' := []) cd_119_43 rfl rfl ?_
      obtain ⟨x_6, hx, h⟩ := lt_s_ h
      rw [hx]
      clear hx
      refine gs_0 (pc' := 13) (L' := [some (.ref l0), some (.int l1), some (.int l2), some (.int l3), some (.int l4), some (.int x_6)]) (st' := []) cd_119_46 rfl rfl ?_
      exact hr13 l0 l1 l2 l3 l4 x_6 _ _ _ _ h
noncomputable def f_119 (K : Nat → Value) (k d : Nat) (l0 : Nat) (l1 : Int32) (l2 : Int32) (l3 : Int32) (l4 : Int32) (w : aW) (I : aI) (J : aJ) : Option aR :=
  gO w 6 l0 (
  gV w l0 32 fun q_1 =>
  gA w 10 20 q_1 l1 (
  if (I q_1 (l1 : Int32).toNatClampNeg) < 0 then
    f_119_13 K k d l0 l1 l2 l3 l4 0 w I J
  else
    some (none, w, I, J)))
theorem ok_119 {K : Nat → Value} {k d : Nat} {l0 : Nat} {l1 : Int32} {l2 : Int32} {l3 : Int32} {l4 : Int32} {w : aW} {I : aI} {J : aJ} {R : aR} (h : f_119 K k d l0 l1 l2 l3 l4 w I J = some R) : Go K (d + 1) 119 0 [some (.ref l0), some (.int l1), some (.int l2), some (.int l3), some (.int l4), none] [] w I J R := by
  unfold f_119 at h
  refine gs_0 (pc' := 1) (L' := [some (.ref l0), some (.int l1), some (.int l2), some (.int l3), some (.int l4), none]) (st' := [.ref l0]) cd_119_0 rfl rfl ?_
  obtain ⟨ht, h⟩ := gO_s h
  obtain ⟨q_1, hv, h⟩ := gV_s h
  refine gs_gfR cd_119_1 (by decide) ht hv ?_
  refine gs_0 (pc' := 5) (L' := [some (.ref l0), some (.int l1), some (.int l2), some (.int l3), some (.int l4), none]) (st' := [.int l1, .ref q_1]) cd_119_4 rfl rfl ?_
  obtain ⟨ht, h⟩ := gA_s h
  refine gs_iald cd_119_5 ht ?_
  refine gs_0 (pc' := if (I q_1 (l1 : Int32).toNatClampNeg) < 0 then 10 else 9) (L' := [some (.ref l0), some (.int l1), some (.int l2), some (.int l3), some (.int l4), none]) (st' := []) cd_119_6 rfl rfl ?_
  refine go_ite (fun hc => ?_) (fun hc => ?_)
  · rw [if_pos hc] at h
    refine gs_0 (pc' := 11) (L' := [some (.ref l0), some (.int l1), some (.int l2), some (.int l3), some (.int l4), none]) (st' := [.int 0]) cd_119_10 rfl rfl ?_
    refine gs_0 (pc' := 13) (L' := [some (.ref l0), some (.int l1), some (.int l2), some (.int l3), some (.int l4), some (.int 0)]) (st' := []) cd_119_11 rfl rfl ?_
    exact ok_119_13 h
  · rw [if_neg hc] at h
    cases h
    exact gsr cd_119_9 rfl rfl
theorem cl_119 {K : Nat → Value} {k d : Nat} {l0 : Nat} {l1 : Int32} {l2 : Int32} {l3 : Int32} {l4 : Int32} {w : aW} {I : aI} {J : aJ} {R : aR} (h : f_119 K k d l0 l1 l2 l3 l4 w I J = some R) : Cl K (d + 1) 119 [.ref l0, .int l1, .int l2, .int l3, .int l4] w I J = some R := Cl_of (ok_119 h)
/-! ProvedMachineModel.takes(II)I -/
set_option maxRecDepth 20000 in
theorem gl_120 : gcd.lookup 120 = some gw_120 := rfl
theorem cd_120_0 : sm_cd 120 0 = some (.iload_n 1, 1, 1, 0, 0, 0, 0, 0, 0) := cd_of gl_120 rfl
theorem cd_120_1 : sm_cd 120 1 = some (.iconst 4, 1, 0, 0, 0, 0, 0, 4, 0) := cd_of gl_120 rfl
theorem cd_120_2 : sm_cd 120 2 = some (.if_icmp .ne 15, 3, 17, 0, 0, 0, 0, 0, 0) := cd_of gl_120 rfl
theorem cd_120_5 : sm_cd 120 5 = some (.aload_n 0, 1, 0, 0, 0, 0, 0, 0, 0) := cd_of gl_120 rfl
theorem cd_120_6 : sm_cd 120 6 = some (.getfield 47, 3, 6, 18, 2, 0, 0, 0, 0) := cd_of gl_120 rfl
theorem cd_120_9 : sm_cd 120 9 = some (.bipush 10, 2, 0, 0, 0, 0, 0, 10, 0) := cd_of gl_120 rfl
theorem cd_120_11 : sm_cd 120 11 = some (.iload_n 2, 1, 2, 0, 0, 0, 0, 0, 0) := cd_of gl_120 rfl
theorem cd_120_12 : sm_cd 120 12 = some (.imul, 1, 0, 0, 0, 0, 0, 0, 0) := cd_of gl_120 rfl
theorem cd_120_13 : sm_cd 120 13 = some (.iconst 1, 1, 0, 0, 0, 0, 0, 1, 0) := cd_of gl_120 rfl
theorem cd_120_14 : sm_cd 120 14 = some (.iadd, 1, 0, 0, 0, 0, 0, 0, 0) := cd_of gl_120 rfl
theorem cd_120_15 : sm_cd 120 15 = some (.iaload, 1, 0, 0, 0, 0, 0, 0, 0) := cd_of gl_120 rfl
theorem cd_120_16 : sm_cd 120 16 = some (.ireturn, 1, 0, 0, 1, 0, 0, 0, 0) := cd_of gl_120 rfl
theorem cd_120_17 : sm_cd 120 17 = some (.iload_n 1, 1, 1, 0, 0, 0, 0, 0, 0) := cd_of gl_120 rfl
theorem cd_120_18 : sm_cd 120 18 = some (.iconst 4, 1, 0, 0, 0, 0, 0, 4, 0) := cd_of gl_120 rfl
theorem cd_120_19 : sm_cd 120 19 = some (.if_icmp .lt 15, 3, 34, 0, 0, 0, 0, 0, 0) := cd_of gl_120 rfl
theorem cd_120_22 : sm_cd 120 22 = some (.iload_n 1, 1, 1, 0, 0, 0, 0, 0, 0) := cd_of gl_120 rfl
theorem cd_120_23 : sm_cd 120 23 = some (.bipush 24, 2, 0, 0, 0, 0, 0, 24, 0) := cd_of gl_120 rfl
theorem cd_120_25 : sm_cd 120 25 = some (.if_icmp .eq 9, 3, 34, 0, 0, 0, 0, 0, 0) := cd_of gl_120 rfl
theorem cd_120_28 : sm_cd 120 28 = some (.iload_n 1, 1, 1, 0, 0, 0, 0, 0, 0) := cd_of gl_120 rfl
theorem cd_120_29 : sm_cd 120 29 = some (.bipush 27, 2, 0, 0, 0, 0, 0, 27, 0) := cd_of gl_120 rfl
theorem cd_120_31 : sm_cd 120 31 = some (.if_icmp .ne 7, 3, 38, 0, 0, 0, 0, 0, 0) := cd_of gl_120 rfl
theorem cd_120_34 : sm_cd 120 34 = some (.iconst 0, 1, 0, 0, 0, 0, 0, 0, 0) := cd_of gl_120 rfl
theorem cd_120_35 : sm_cd 120 35 = some (.goto 48, 3, 83, 0, 0, 0, 0, 0, 0) := cd_of gl_120 rfl
theorem cd_120_38 : sm_cd 120 38 = some (.iload_n 1, 1, 1, 0, 0, 0, 0, 0, 0) := cd_of gl_120 rfl
theorem cd_120_39 : sm_cd 120 39 = some (.bipush 11, 2, 0, 0, 0, 0, 0, 11, 0) := cd_of gl_120 rfl
theorem cd_120_41 : sm_cd 120 41 = some (.if_icmp .lt 27, 3, 68, 0, 0, 0, 0, 0, 0) := cd_of gl_120 rfl
theorem cd_120_44 : sm_cd 120 44 = some (.iload_n 1, 1, 1, 0, 0, 0, 0, 0, 0) := cd_of gl_120 rfl
theorem cd_120_45 : sm_cd 120 45 = some (.bipush 21, 2, 0, 0, 0, 0, 0, 21, 0) := cd_of gl_120 rfl
theorem cd_120_47 : sm_cd 120 47 = some (.if_icmp .eq 21, 3, 68, 0, 0, 0, 0, 0, 0) := cd_of gl_120 rfl
theorem cd_120_50 : sm_cd 120 50 = some (.iload_n 1, 1, 1, 0, 0, 0, 0, 0, 0) := cd_of gl_120 rfl
theorem cd_120_51 : sm_cd 120 51 = some (.bipush 23, 2, 0, 0, 0, 0, 0, 23, 0) := cd_of gl_120 rfl
theorem cd_120_53 : sm_cd 120 53 = some (.if_icmp .eq 15, 3, 68, 0, 0, 0, 0, 0, 0) := cd_of gl_120 rfl
theorem cd_120_56 : sm_cd 120 56 = some (.iload_n 1, 1, 1, 0, 0, 0, 0, 0, 0) := cd_of gl_120 rfl
theorem cd_120_57 : sm_cd 120 57 = some (.bipush 25, 2, 0, 0, 0, 0, 0, 25, 0) := cd_of gl_120 rfl
theorem cd_120_59 : sm_cd 120 59 = some (.if_icmp .eq 9, 3, 68, 0, 0, 0, 0, 0, 0) := cd_of gl_120 rfl
theorem cd_120_62 : sm_cd 120 62 = some (.iload_n 1, 1, 1, 0, 0, 0, 0, 0, 0) := cd_of gl_120 rfl
theorem cd_120_63 : sm_cd 120 63 = some (.bipush 26, 2, 0, 0, 0, 0, 0, 26, 0) := cd_of gl_120 rfl
theorem cd_120_65 : sm_cd 120 65 = some (.if_icmp .ne 7, 3, 72, 0, 0, 0, 0, 0, 0) := cd_of gl_120 rfl
theorem cd_120_68 : sm_cd 120 68 = some (.iconst 1, 1, 0, 0, 0, 0, 0, 1, 0) := cd_of gl_120 rfl
theorem cd_120_69 : sm_cd 120 69 = some (.goto 14, 3, 83, 0, 0, 0, 0, 0, 0) := cd_of gl_120 rfl
theorem cd_120_72 : sm_cd 120 72 = some (.iload_n 1, 1, 1, 0, 0, 0, 0, 0, 0) := cd_of gl_120 rfl
theorem cd_120_73 : sm_cd 120 73 = some (.bipush 22, 2, 0, 0, 0, 0, 0, 22, 0) := cd_of gl_120 rfl
theorem cd_120_75 : sm_cd 120 75 = some (.if_icmp .ne 7, 3, 82, 0, 0, 0, 0, 0, 0) := cd_of gl_120 rfl
theorem cd_120_78 : sm_cd 120 78 = some (.iconst 3, 1, 0, 0, 0, 0, 0, 3, 0) := cd_of gl_120 rfl
theorem cd_120_79 : sm_cd 120 79 = some (.goto 4, 3, 83, 0, 0, 0, 0, 0, 0) := cd_of gl_120 rfl
theorem cd_120_82 : sm_cd 120 82 = some (.iconst 2, 1, 0, 0, 0, 0, 0, 2, 0) := cd_of gl_120 rfl
theorem cd_120_83 : sm_cd 120 83 = some (.ireturn, 1, 0, 0, 1, 0, 0, 0, 0) := cd_of gl_120 rfl
noncomputable def f_120 (K : Nat → Value) (k d : Nat) (l0 : Nat) (l1 : Int32) (l2 : Int32) (w : aW) (I : aI) (J : aJ) : Option aR :=
  if ¬ l1 = 4 then
    if l1 < 4 then
      some (some (.int 0), w, I, J)
    else
      if l1 = 24 then
        some (some (.int 0), w, I, J)
      else
        if ¬ l1 = 27 then
          if l1 < 11 then
            some (some (.int 1), w, I, J)
          else
            if l1 = 21 then
              some (some (.int 1), w, I, J)
            else
              if l1 = 23 then
                some (some (.int 1), w, I, J)
              else
                if l1 = 25 then
                  some (some (.int 1), w, I, J)
                else
                  if ¬ l1 = 26 then
                    if ¬ l1 = 22 then
                      some (some (.int 2), w, I, J)
                    else
                      some (some (.int 3), w, I, J)
                  else
                    some (some (.int 1), w, I, J)
        else
          some (some (.int 0), w, I, J)
  else
    gO w 6 l0 (
    gV w l0 18 fun q_1 =>
    gA w 10 20 q_1 ((10 * l2) + 1) (
    some (some (.int (I q_1 ((10 * l2) + 1 : Int32).toNatClampNeg)), w, I, J)))
theorem ok_120 {K : Nat → Value} {k d : Nat} {l0 : Nat} {l1 : Int32} {l2 : Int32} {w : aW} {I : aI} {J : aJ} {R : aR} (h : f_120 K k d l0 l1 l2 w I J = some R) : Go K (d + 1) 120 0 [some (.ref l0), some (.int l1), some (.int l2)] [] w I J R := by
  unfold f_120 at h
  refine gs_0 (pc' := 1) (L' := [some (.ref l0), some (.int l1), some (.int l2)]) (st' := [.int l1]) cd_120_0 rfl rfl ?_
  refine gs_0 (pc' := 2) (L' := [some (.ref l0), some (.int l1), some (.int l2)]) (st' := [.int 4, .int l1]) cd_120_1 rfl rfl ?_
  refine gs_0 (pc' := if ¬ l1 = 4 then 17 else 5) (L' := [some (.ref l0), some (.int l1), some (.int l2)]) (st' := []) cd_120_2 rfl rfl ?_
  refine go_ite (fun hc => ?_) (fun hc => ?_)
  · rw [if_pos hc] at h
    refine gs_0 (pc' := 18) (L' := [some (.ref l0), some (.int l1), some (.int l2)]) (st' := [.int l1]) cd_120_17 rfl rfl ?_
    refine gs_0 (pc' := 19) (L' := [some (.ref l0), some (.int l1), some (.int l2)]) (st' := [.int 4, .int l1]) cd_120_18 rfl rfl ?_
    refine gs_0 (pc' := if l1 < 4 then 34 else 22) (L' := [some (.ref l0), some (.int l1), some (.int l2)]) (st' := []) cd_120_19 rfl rfl ?_
    refine go_ite (fun hc => ?_) (fun hc => ?_)
    · rw [if_pos hc] at h
      refine gs_0 (pc' := 35) (L' := [some (.ref l0), some (.int l1), some (.int l2)]) (st' := [.int 0]) cd_120_34 rfl rfl ?_
      refine gs_0 (pc' := 83) (L' := [some (.ref l0), some (.int l1), some (.int l2)]) (st' := [.int 0]) cd_120_35 rfl rfl ?_
      cases h
      exact gs_ri cd_120_83 (Or.inl rfl)
    · rw [if_neg hc] at h
      refine gs_0 (pc' := 23) (L' := [some (.ref l0), some (.int l1), some (.int l2)]) (st' := [.int l1]) cd_120_22 rfl rfl ?_
      refine gs_0 (pc' := 25) (L' := [some (.ref l0), some (.int l1), some (.int l2)]) (st' := [.int 24, .int l1]) cd_120_23 rfl rfl ?_
      refine gs_0 (pc' := if l1 = 24 then 34 else 28) (L' := [some (.ref l0), some (.int l1), some (.int l2)]) (st' := []) cd_120_25 rfl rfl ?_
      refine go_ite (fun hc => ?_) (fun hc => ?_)
      · rw [if_pos hc] at h
        refine gs_0 (pc' := 35) (L' := [some (.ref l0), some (.int l1), some (.int l2)]) (st' := [.int 0]) cd_120_34 rfl rfl ?_
        refine gs_0 (pc' := 83) (L' := [some (.ref l0), some (.int l1), some (.int l2)]) (st' := [.int 0]) cd_120_35 rfl rfl ?_
        cases h
        exact gs_ri cd_120_83 (Or.inl rfl)
      · rw [if_neg hc] at h
        refine gs_0 (pc' := 29) (L' := [some (.ref l0), some (.int l1), some (.int l2)]) (st' := [.int l1]) cd_120_28 rfl rfl ?_
        refine gs_0 (pc' := 31) (L' := [some (.ref l0), some (.int l1), some (.int l2)]) (st' := [.int 27, .int l1]) cd_120_29 rfl rfl ?_
        refine gs_0 (pc' := if ¬ l1 = 27 then 38 else 34) (L' := [some (.ref l0), some (.int l1), some (.int l2)]) (st' := []) cd_120_31 rfl rfl ?_
        refine go_ite (fun hc => ?_) (fun hc => ?_)
        · rw [if_pos hc] at h
          refine gs_0 (pc' := 39) (L' := [some (.ref l0), some (.int l1), some (.int l2)]) (st' := [.int l1]) cd_120_38 rfl rfl ?_
          refine gs_0 (pc' := 41) (L' := [some (.ref l0), some (.int l1), some (.int l2)]) (st' := [.int 11, .int l1]) cd_120_39 rfl rfl ?_
          refine gs_0 (pc' := if l1 < 11 then 68 else 44) (L' := [some (.ref l0), some (.int l1), some (.int l2)]) (st' := []) cd_120_41 rfl rfl ?_
          refine go_ite (fun hc => ?_) (fun hc => ?_)
          · rw [if_pos hc] at h
            refine gs_0 (pc' := 69) (L' := [some (.ref l0), some (.int l1), some (.int l2)]) (st' := [.int 1]) cd_120_68 rfl rfl ?_
            refine gs_0 (pc' := 83) (L' := [some (.ref l0), some (.int l1), some (.int l2)]) (st' := [.int 1]) cd_120_69 rfl rfl ?_
            cases h
            exact gs_ri cd_120_83 (Or.inl rfl)
          · rw [if_neg hc] at h
            refine gs_0 (pc' := 45) (L' := [some (.ref l0), some (.int l1), some (.int l2)]) (st' := [.int l1]) cd_120_44 rfl rfl ?_
            refine gs_0 (pc' := 47) (L' := [some (.ref l0), some (.int l1), some (.int l2)]) (st' := [.int 21, .int l1]) cd_120_45 rfl rfl ?_
            refine gs_0 (pc' := if l1 = 21 then 68 else 50) (L' := [some (.ref l0), some (.int l1), some (.int l2)]) (st' := []) cd_120_47 rfl rfl ?_
            refine go_ite (fun hc => ?_) (fun hc => ?_)
            · rw [if_pos hc] at h
              refine gs_0 (pc' := 69) (L' := [some (.ref l0), some (.int l1), some (.int l2)]) (st' := [.int 1]) cd_120_68 rfl rfl ?_
              refine gs_0 (pc' := 83) (L' := [some (.ref l0), some (.int l1), some (.int l2)]) (st' := [.int 1]) cd_120_69 rfl rfl ?_
              cases h
              exact gs_ri cd_120_83 (Or.inl rfl)
            · rw [if_neg hc] at h
              refine gs_0 (pc' := 51) (L' := [some (.ref l0), some (.int l1), some (.int l2)]) (st' := [.int l1]) cd_120_50 rfl rfl ?_
              refine gs_0 (pc' := 53) (L' := [some (.ref l0), some (.int l1), some (.int l2)]) (st' := [.int 23, .int l1]) cd_120_51 rfl rfl ?_
              refine gs_0 (pc' := if l1 = 23 then 68 else 56) (L' := [some (.ref l0), some (.int l1), some (.int l2)]) (st' := []) cd_120_53 rfl rfl ?_
              refine go_ite (fun hc => ?_) (fun hc => ?_)
              · rw [if_pos hc] at h
                refine gs_0 (pc' := 69) (L' := [some (.ref l0), some (.int l1), some (.int l2)]) (st' := [.int 1]) cd_120_68 rfl rfl ?_
                refine gs_0 (pc' := 83) (L' := [some (.ref l0), some (.int l1), some (.int l2)]) (st' := [.int 1]) cd_120_69 rfl rfl ?_
                cases h
                exact gs_ri cd_120_83 (Or.inl rfl)
              · rw [if_neg hc] at h
                refine gs_0 (pc' := 57) (L' := [some (.ref l0), some (.int l1), some (.int l2)]) (st' := [.int l1]) cd_120_56 rfl rfl ?_
                refine gs_0 (pc' := 59) (L' := [some (.ref l0), some (.int l1), some (.int l2)]) (st' := [.int 25, .int l1]) cd_120_57 rfl rfl ?_
                refine gs_0 (pc' := if l1 = 25 then 68 else 62) (L' := [some (.ref l0), some (.int l1), some (.int l2)]) (st' := []) cd_120_59 rfl rfl ?_
                refine go_ite (fun hc => ?_) (fun hc => ?_)
                · rw [if_pos hc] at h
                  refine gs_0 (pc' := 69) (L' := [some (.ref l0), some (.int l1), some (.int l2)]) (st' := [.int 1]) cd_120_68 rfl rfl ?_
                  refine gs_0 (pc' := 83) (L' := [some (.ref l0), some (.int l1), some (.int l2)]) (st' := [.int 1]) cd_120_69 rfl rfl ?_
                  cases h
                  exact gs_ri cd_120_83 (Or.inl rfl)
                · rw [if_neg hc] at h
                  refine gs_0 (pc' := 63) (L' := [some (.ref l0), some (.int l1), some (.int l2)]) (st' := [.int l1]) cd_120_62 rfl rfl ?_
                  refine gs_0 (pc' := 65) (L' := [some (.ref l0), some (.int l1), some (.int l2)]) (st' := [.int 26, .int l1]) cd_120_63 rfl rfl ?_
                  refine gs_0 (pc' := if ¬ l1 = 26 then 72 else 68) (L' := [some (.ref l0), some (.int l1), some (.int l2)]) (st' := []) cd_120_65 rfl rfl ?_
                  refine go_ite (fun hc => ?_) (fun hc => ?_)
                  · rw [if_pos hc] at h
                    refine gs_0 (pc' := 73) (L' := [some (.ref l0), some (.int l1), some (.int l2)]) (st' := [.int l1]) cd_120_72 rfl rfl ?_
                    refine gs_0 (pc' := 75) (L' := [some (.ref l0), some (.int l1), some (.int l2)]) (st' := [.int 22, .int l1]) cd_120_73 rfl rfl ?_
                    refine gs_0 (pc' := if ¬ l1 = 22 then 82 else 78) (L' := [some (.ref l0), some (.int l1), some (.int l2)]) (st' := []) cd_120_75 rfl rfl ?_
                    refine go_ite (fun hc => ?_) (fun hc => ?_)
                    · rw [if_pos hc] at h
                      refine gs_0 (pc' := 83) (L' := [some (.ref l0), some (.int l1), some (.int l2)]) (st' := [.int 2]) cd_120_82 rfl rfl ?_
                      cases h
                      exact gs_ri cd_120_83 (Or.inl rfl)
                    · rw [if_neg hc] at h
                      refine gs_0 (pc' := 79) (L' := [some (.ref l0), some (.int l1), some (.int l2)]) (st' := [.int 3]) cd_120_78 rfl rfl ?_
                      refine gs_0 (pc' := 83) (L' := [some (.ref l0), some (.int l1), some (.int l2)]) (st' := [.int 3]) cd_120_79 rfl rfl ?_
                      cases h
                      exact gs_ri cd_120_83 (Or.inl rfl)
                  · rw [if_neg hc] at h
                    refine gs_0 (pc' := 69) (L' := [some (.ref l0), some (.int l1), some (.int l2)]) (st' := [.int 1]) cd_120_68 rfl rfl ?_
                    refine gs_0 (pc' := 83) (L' := [some (.ref l0), some (.int l1), some (.int l2)]) (st' := [.int 1]) cd_120_69 rfl rfl ?_
                    cases h
                    exact gs_ri cd_120_83 (Or.inl rfl)
        · rw [if_neg hc] at h
          refine gs_0 (pc' := 35) (L' := [some (.ref l0), some (.int l1), some (.int l2)]) (st' := [.int 0]) cd_120_34 rfl rfl ?_
          refine gs_0 (pc' := 83) (L' := [some (.ref l0), some (.int l1), some (.int l2)]) (st' := [.int 0]) cd_120_35 rfl rfl ?_
          cases h
          exact gs_ri cd_120_83 (Or.inl rfl)
  · rw [if_neg hc] at h
    refine gs_0 (pc' := 6) (L' := [some (.ref l0), some (.int l1), some (.int l2)]) (st' := [.ref l0]) cd_120_5 rfl rfl ?_
    obtain ⟨ht, h⟩ := gO_s h
    obtain ⟨q_1, hv, h⟩ := gV_s h
    refine gs_gfR cd_120_6 (by decide) ht hv ?_
    refine gs_0 (pc' := 11) (L' := [some (.ref l0), some (.int l1), some (.int l2)]) (st' := [.int 10, .ref q_1]) cd_120_9 rfl rfl ?_
    refine gs_0 (pc' := 12) (L' := [some (.ref l0), some (.int l1), some (.int l2)]) (st' := [.int l2, .int 10, .ref q_1]) cd_120_11 rfl rfl ?_
    refine gs_0 (pc' := 13) (L' := [some (.ref l0), some (.int l1), some (.int l2)]) (st' := [.int (10 * l2), .ref q_1]) cd_120_12 rfl rfl ?_
    refine gs_0 (pc' := 14) (L' := [some (.ref l0), some (.int l1), some (.int l2)]) (st' := [.int 1, .int (10 * l2), .ref q_1]) cd_120_13 rfl rfl ?_
    refine gs_0 (pc' := 15) (L' := [some (.ref l0), some (.int l1), some (.int l2)]) (st' := [.int ((10 * l2) + 1), .ref q_1]) cd_120_14 rfl rfl ?_
    obtain ⟨ht, h⟩ := gA_s h
    refine gs_iald cd_120_15 ht ?_
    cases h
    exact gs_ri cd_120_16 (Or.inl rfl)
theorem cl_120 {K : Nat → Value} {k d : Nat} {l0 : Nat} {l1 : Int32} {l2 : Int32} {w : aW} {I : aI} {J : aJ} {R : aR} (h : f_120 K k d l0 l1 l2 w I J = some R) : Cl K (d + 1) 120 [.ref l0, .int l1, .int l2] w I J = some R := Cl_of (ok_120 h)
/-! ProvedMachineModel.funOf(I)I -/
set_option maxRecDepth 20000 in
theorem gl_121 : gcd.lookup 121 = some gw_121 := rfl
theorem cd_121_0 : sm_cd 121 0 = some (.aload_n 0, 1, 0, 0, 0, 0, 0, 0, 0) := cd_of gl_121 rfl
theorem cd_121_1 : sm_cd 121 1 = some (.getfield 327, 3, 6, 16, 0, 0, 0, 0, 0) := cd_of gl_121 rfl
theorem cd_121_4 : sm_cd 121 4 = some (.iconst 1, 1, 0, 0, 0, 0, 0, 1, 0) := cd_of gl_121 rfl
theorem cd_121_5 : sm_cd 121 5 = some (.isub, 1, 0, 0, 0, 0, 0, 0, 0) := cd_of gl_121 rfl
theorem cd_121_6 : sm_cd 121 6 = some (.istore_n 2, 1, 2, 0, 0, 0, 0, 0, 0) := cd_of gl_121 rfl
theorem cd_121_7 : sm_cd 121 7 = some (.aload_n 0, 1, 0, 0, 0, 0, 0, 0, 0) := cd_of gl_121 rfl
theorem cd_121_8 : sm_cd 121 8 = some (.getfield 47, 3, 6, 18, 2, 0, 0, 0, 0) := cd_of gl_121 rfl
theorem cd_121_11 : sm_cd 121 11 = some (.bipush 10, 2, 0, 0, 0, 0, 0, 10, 0) := cd_of gl_121 rfl
theorem cd_121_13 : sm_cd 121 13 = some (.iload_n 2, 1, 2, 0, 0, 0, 0, 0, 0) := cd_of gl_121 rfl
theorem cd_121_14 : sm_cd 121 14 = some (.imul, 1, 0, 0, 0, 0, 0, 0, 0) := cd_of gl_121 rfl
theorem cd_121_15 : sm_cd 121 15 = some (.iaload, 1, 0, 0, 0, 0, 0, 0, 0) := cd_of gl_121 rfl
theorem cd_121_16 : sm_cd 121 16 = some (.iload_n 1, 1, 1, 0, 0, 0, 0, 0, 0) := cd_of gl_121 rfl
theorem cd_121_17 : sm_cd 121 17 = some (.if_icmp .le 9, 3, 26, 0, 0, 0, 0, 0, 0) := cd_of gl_121 rfl
theorem cd_121_20 : sm_cd 121 20 = some (.iinc 2 (-1), 3, 2, 0, 0, 0, 0, (-1), 0) := cd_of gl_121 rfl
theorem cd_121_23 : sm_cd 121 23 = some (.goto (-16), 3, 7, 0, 0, 0, 0, 0, 0) := cd_of gl_121 rfl
theorem cd_121_26 : sm_cd 121 26 = some (.iload_n 2, 1, 2, 0, 0, 0, 0, 0, 0) := cd_of gl_121 rfl
theorem cd_121_27 : sm_cd 121 27 = some (.ireturn, 1, 0, 0, 1, 0, 0, 0, 0) := cd_of gl_121 rfl
noncomputable def f_121_7 (K : Nat → Value) (k : Nat) (d : Nat) : Nat → Int32 → Int32 → aW → aI → aJ → Option aR :=
  match k with
  | 0 => fun _ _ _ _ _ _ => none
  | k + 1 => fun l0 l1 l2 w I J =>
  lt_ (f_121_7 K k d) fun r7 =>
  gO w 6 l0 (
  gV w l0 18 fun q_1 =>
  gA w 10 20 q_1 (10 * l2) (
  if (I q_1 (10 * l2 : Int32).toNatClampNeg) ≤ l1 then
    some (some (.int l2), w, I, J)
  else
    lt_ (l2 + (-1)) fun x_2 =>
    r7 l0 l1 x_2 w I J))
theorem ok_121_7 {K : Nat → Value} {d : Nat} : ∀ {k : Nat} {l0 : Nat} {l1 : Int32} {l2 : Int32} {w : aW} {I : aI} {J : aJ} {R : aR}, f_121_7 K k d l0 l1 l2 w I J = some R → Go K (d + 1) 121 7 [some (.ref l0), some (.int l1), some (.int l2)] [] w I J R := by
  intro k
  induction k with
  | zero => intro l0 l1 l2 w I J R h; cases h
  | succ k ih =>
    intro l0 l1 l2 w I J R h
    have hr7 : ∀ (l0 : Nat) (l1 : Int32) (l2 : Int32) (w : aW) (I : aI) (J : aJ) (R : aR), f_121_7 K k d l0 l1 l2 w I J = some R → Go K (d + 1) 121 7 [some (.ref l0), some (.int l1), some (.int l2)] [] w I J R := fun l0 l1 l2 w I J R h => ih h
    rw [f_121_7] at h
    obtain ⟨r7, hx, h⟩ := lt_s_ h
    rw [hx] at hr7
    clear hx ih
    refine gs_0 (pc' := 8) (L' := [some (.ref l0), some (.int l1), some (.int l2)]) (st' := [.ref l0]) cd_121_7 rfl rfl ?_
    obtain ⟨ht, h⟩ := gO_s h
    obtain ⟨q_1, hv, h⟩ := gV_s h
    refine gs_gfR cd_121_8 (by decide) ht hv ?_
    refine gs_0 (pc' := 13) (L' := [some (.ref l0), some (.int l1), some (.int l2)]) (st' := [.int 10, .ref q_1]) cd_121_11 rfl rfl ?_
    refine gs_0 (pc' := 14) (L' := [some (.ref l0), some (.int l1), some (.int l2)]) (st' := [.int l2, .int 10, .ref q_1]) cd_121_13 rfl rfl ?_
    refine gs_0 (pc' := 15) (L' := [some (.ref l0), some (.int l1), some (.int l2)]) (st' := [.int (10 * l2), .ref q_1]) cd_121_14 rfl rfl ?_
    obtain ⟨ht, h⟩ := gA_s h
    refine gs_iald cd_121_15 ht ?_
    refine gs_0 (pc' := 17) (L' := [some (.ref l0), some (.int l1), some (.int l2)]) (st' := [.int l1, .int (I q_1 (10 * l2 : Int32).toNatClampNeg)]) cd_121_16 rfl rfl ?_
    refine gs_0 (pc' := if (I q_1 (10 * l2 : Int32).toNatClampNeg) ≤ l1 then 26 else 20) (L' := [some (.ref l0), some (.int l1), some (.int l2)]) (st' := []) cd_121_17 rfl rfl ?_
    refine go_ite (fun hc => ?_) (fun hc => ?_)
    · rw [if_pos hc] at h
      refine gs_0 (pc' := 27) (L' := [some (.ref l0), some (.int l1), some (.int l2)]) (st' := [.int l2]) cd_121_26 rfl rfl ?_
      cases h
      exact gs_ri cd_121_27 (Or.inl rfl)
    · rw [if_neg hc] at h
      refine gs_0 (pc' := 23) (L' := [some (.ref l0), some (.int l1), some (.int (l2 + (-1)))]) (st' := []) cd_121_20 rfl rfl ?_
      obtain ⟨x_2, hx, h⟩ := lt_s_ h
      rw [hx]
      clear hx
      refine gs_0 (pc' := 7) (L' := [some (.ref l0), some (.int l1), some (.int x_2)]) (st' := []) cd_121_23 rfl rfl ?_
      exact hr7 l0 l1 x_2 _ _ _ _ h
noncomputable def f_121 (K : Nat → Value) (k d : Nat) (l0 : Nat) (l1 : Int32) (w : aW) (I : aI) (J : aJ) : Option aR :=
  gO w 6 l0 (
  lt_ ((I l0 16) - 1) fun x_1 =>
  f_121_7 K k d l0 l1 x_1 w I J)
theorem ok_121 {K : Nat → Value} {k d : Nat} {l0 : Nat} {l1 : Int32} {w : aW} {I : aI} {J : aJ} {R : aR} (h : f_121 K k d l0 l1 w I J = some R) : Go K (d + 1) 121 0 [some (.ref l0), some (.int l1), none] [] w I J R := by
  unfold f_121 at h
  refine gs_0 (pc' := 1) (L' := [some (.ref l0), some (.int l1), none]) (st' := [.ref l0]) cd_121_0 rfl rfl ?_
  obtain ⟨ht, h⟩ := gO_s h
  refine gs_gfI cd_121_1 (by decide) (by decide) ht ?_
  refine gs_0 (pc' := 5) (L' := [some (.ref l0), some (.int l1), none]) (st' := [.int 1, .int (I l0 16)]) cd_121_4 rfl rfl ?_
  refine gs_0 (pc' := 6) (L' := [some (.ref l0), some (.int l1), none]) (st' := [.int ((I l0 16) - 1)]) cd_121_5 rfl rfl ?_
  refine gs_0 (pc' := 7) (L' := [some (.ref l0), some (.int l1), some (.int ((I l0 16) - 1))]) (st' := []) cd_121_6 rfl rfl ?_
  obtain ⟨x_1, hx, h⟩ := lt_s_ h
  rw [hx]
  clear hx
  exact ok_121_7 h
theorem cl_121 {K : Nat → Value} {k d : Nat} {l0 : Nat} {l1 : Int32} {w : aW} {I : aI} {J : aJ} {R : aR} (h : f_121 K k d l0 l1 w I J = some R) : Cl K (d + 1) 121 [.ref l0, .int l1] w I J = some R := Cl_of (ok_121 h)
/-! ProvedMachineModel.puts(III)I -/
set_option maxRecDepth 20000 in
theorem gl_122 : gcd.lookup 122 = some gw_122 := rfl
theorem cd_122_0 : sm_cd 122 0 = some (.iload_n 1, 1, 1, 0, 0, 0, 0, 0, 0) := cd_of gl_122 rfl
theorem cd_122_1 : sm_cd 122 1 = some (.tableswitch 157 1 27 #[151, 153, 123, 137, 157, 151, 157, 157, 153, 155, 157, 153, 151, 151, 151, 151, 157, 157, 157, 157, 157, 157, 157, 157, 157, 157, 149], 123, 0, 0, 0, 0, 0, 0, 0) := cd_of gl_122 rfl
theorem cd_122_124 : sm_cd 122 124 = some (.aload_n 0, 1, 0, 0, 0, 0, 0, 0, 0) := cd_of gl_122 rfl
theorem cd_122_125 : sm_cd 122 125 = some (.getfield 47, 3, 6, 18, 2, 0, 0, 0, 0) := cd_of gl_122 rfl
theorem cd_122_128 : sm_cd 122 128 = some (.bipush 10, 2, 0, 0, 0, 0, 0, 10, 0) := cd_of gl_122 rfl
theorem cd_122_130 : sm_cd 122 130 = some (.iload_n 3, 1, 3, 0, 0, 0, 0, 0, 0) := cd_of gl_122 rfl
theorem cd_122_131 : sm_cd 122 131 = some (.imul, 1, 0, 0, 0, 0, 0, 0, 0) := cd_of gl_122 rfl
theorem cd_122_132 : sm_cd 122 132 = some (.iconst 4, 1, 0, 0, 0, 0, 0, 4, 0) := cd_of gl_122 rfl
theorem cd_122_133 : sm_cd 122 133 = some (.iadd, 1, 0, 0, 0, 0, 0, 0, 0) := cd_of gl_122 rfl
theorem cd_122_134 : sm_cd 122 134 = some (.iload_n 2, 1, 2, 0, 0, 0, 0, 0, 0) := cd_of gl_122 rfl
theorem cd_122_135 : sm_cd 122 135 = some (.iadd, 1, 0, 0, 0, 0, 0, 0, 0) := cd_of gl_122 rfl
theorem cd_122_136 : sm_cd 122 136 = some (.iaload, 1, 0, 0, 0, 0, 0, 0, 0) := cd_of gl_122 rfl
theorem cd_122_137 : sm_cd 122 137 = some (.ireturn, 1, 0, 0, 1, 0, 0, 0, 0) := cd_of gl_122 rfl
theorem cd_122_138 : sm_cd 122 138 = some (.aload_n 0, 1, 0, 0, 0, 0, 0, 0, 0) := cd_of gl_122 rfl
theorem cd_122_139 : sm_cd 122 139 = some (.getfield 47, 3, 6, 18, 2, 0, 0, 0, 0) := cd_of gl_122 rfl
theorem cd_122_142 : sm_cd 122 142 = some (.bipush 10, 2, 0, 0, 0, 0, 0, 10, 0) := cd_of gl_122 rfl
theorem cd_122_144 : sm_cd 122 144 = some (.iload_n 2, 1, 2, 0, 0, 0, 0, 0, 0) := cd_of gl_122 rfl
theorem cd_122_145 : sm_cd 122 145 = some (.imul, 1, 0, 0, 0, 0, 0, 0, 0) := cd_of gl_122 rfl
theorem cd_122_146 : sm_cd 122 146 = some (.iconst 3, 1, 0, 0, 0, 0, 0, 3, 0) := cd_of gl_122 rfl
theorem cd_122_147 : sm_cd 122 147 = some (.iadd, 1, 0, 0, 0, 0, 0, 0, 0) := cd_of gl_122 rfl
theorem cd_122_148 : sm_cd 122 148 = some (.iaload, 1, 0, 0, 0, 0, 0, 0, 0) := cd_of gl_122 rfl
theorem cd_122_149 : sm_cd 122 149 = some (.ireturn, 1, 0, 0, 1, 0, 0, 0, 0) := cd_of gl_122 rfl
theorem cd_122_150 : sm_cd 122 150 = some (.iload_n 2, 1, 2, 0, 0, 0, 0, 0, 0) := cd_of gl_122 rfl
theorem cd_122_151 : sm_cd 122 151 = some (.ireturn, 1, 0, 0, 1, 0, 0, 0, 0) := cd_of gl_122 rfl
theorem cd_122_152 : sm_cd 122 152 = some (.iconst 1, 1, 0, 0, 0, 0, 0, 1, 0) := cd_of gl_122 rfl
theorem cd_122_153 : sm_cd 122 153 = some (.ireturn, 1, 0, 0, 1, 0, 0, 0, 0) := cd_of gl_122 rfl
theorem cd_122_154 : sm_cd 122 154 = some (.iconst 3, 1, 0, 0, 0, 0, 0, 3, 0) := cd_of gl_122 rfl
theorem cd_122_155 : sm_cd 122 155 = some (.ireturn, 1, 0, 0, 1, 0, 0, 0, 0) := cd_of gl_122 rfl
theorem cd_122_156 : sm_cd 122 156 = some (.iconst 2, 1, 0, 0, 0, 0, 0, 2, 0) := cd_of gl_122 rfl
theorem cd_122_157 : sm_cd 122 157 = some (.ireturn, 1, 0, 0, 1, 0, 0, 0, 0) := cd_of gl_122 rfl
theorem cd_122_158 : sm_cd 122 158 = some (.iload_n 1, 1, 1, 0, 0, 0, 0, 0, 0) := cd_of gl_122 rfl
theorem cd_122_159 : sm_cd 122 159 = some (.bipush 21, 2, 0, 0, 0, 0, 0, 21, 0) := cd_of gl_122 rfl
theorem cd_122_161 : sm_cd 122 161 = some (.if_icmp .ge 7, 3, 168, 0, 0, 0, 0, 0, 0) := cd_of gl_122 rfl
theorem cd_122_164 : sm_cd 122 164 = some (.iconst 0, 1, 0, 0, 0, 0, 0, 0, 0) := cd_of gl_122 rfl
theorem cd_122_165 : sm_cd 122 165 = some (.goto 4, 3, 169, 0, 0, 0, 0, 0, 0) := cd_of gl_122 rfl
theorem cd_122_168 : sm_cd 122 168 = some (.iconst (-1), 1, 0, 0, 0, 0, 0, (-1), 0) := cd_of gl_122 rfl
theorem cd_122_169 : sm_cd 122 169 = some (.ireturn, 1, 0, 0, 1, 0, 0, 0, 0) := cd_of gl_122 rfl
theorem sw_122_1_0 {K : Nat → Value} {L : aL} {st : List Value} {w : aW} {I : aI} {J : aJ} {x : Int32} (h : x = 1) : sm_stp K (.tableswitch 157 1 27 #[151, 153, 123, 137, 157, 151, 157, 157, 153, 155, 157, 153, 151, 151, 151, 151, 157, 157, 157, 157, 157, 157, 157, 157, 157, 157, 149], 123, 0, 0, 0, 0, 0, 0, 0) 1 L (.int x :: st) w I J = some (152, L, st, w, I, J) := by subst h; rfl
theorem sw_122_1_1 {K : Nat → Value} {L : aL} {st : List Value} {w : aW} {I : aI} {J : aJ} {x : Int32} (h : x = 2) : sm_stp K (.tableswitch 157 1 27 #[151, 153, 123, 137, 157, 151, 157, 157, 153, 155, 157, 153, 151, 151, 151, 151, 157, 157, 157, 157, 157, 157, 157, 157, 157, 157, 149], 123, 0, 0, 0, 0, 0, 0, 0) 1 L (.int x :: st) w I J = some (154, L, st, w, I, J) := by subst h; rfl
theorem sw_122_1_2 {K : Nat → Value} {L : aL} {st : List Value} {w : aW} {I : aI} {J : aJ} {x : Int32} (h : x = 3) : sm_stp K (.tableswitch 157 1 27 #[151, 153, 123, 137, 157, 151, 157, 157, 153, 155, 157, 153, 151, 151, 151, 151, 157, 157, 157, 157, 157, 157, 157, 157, 157, 157, 149], 123, 0, 0, 0, 0, 0, 0, 0) 1 L (.int x :: st) w I J = some (124, L, st, w, I, J) := by subst h; rfl
theorem sw_122_1_3 {K : Nat → Value} {L : aL} {st : List Value} {w : aW} {I : aI} {J : aJ} {x : Int32} (h : x = 4) : sm_stp K (.tableswitch 157 1 27 #[151, 153, 123, 137, 157, 151, 157, 157, 153, 155, 157, 153, 151, 151, 151, 151, 157, 157, 157, 157, 157, 157, 157, 157, 157, 157, 149], 123, 0, 0, 0, 0, 0, 0, 0) 1 L (.int x :: st) w I J = some (138, L, st, w, I, J) := by subst h; rfl
theorem sw_122_1_4 {K : Nat → Value} {L : aL} {st : List Value} {w : aW} {I : aI} {J : aJ} {x : Int32} (h : x = 6) : sm_stp K (.tableswitch 157 1 27 #[151, 153, 123, 137, 157, 151, 157, 157, 153, 155, 157, 153, 151, 151, 151, 151, 157, 157, 157, 157, 157, 157, 157, 157, 157, 157, 149], 123, 0, 0, 0, 0, 0, 0, 0) 1 L (.int x :: st) w I J = some (152, L, st, w, I, J) := by subst h; rfl
theorem sw_122_1_5 {K : Nat → Value} {L : aL} {st : List Value} {w : aW} {I : aI} {J : aJ} {x : Int32} (h : x = 9) : sm_stp K (.tableswitch 157 1 27 #[151, 153, 123, 137, 157, 151, 157, 157, 153, 155, 157, 153, 151, 151, 151, 151, 157, 157, 157, 157, 157, 157, 157, 157, 157, 157, 149], 123, 0, 0, 0, 0, 0, 0, 0) 1 L (.int x :: st) w I J = some (154, L, st, w, I, J) := by subst h; rfl
theorem sw_122_1_6 {K : Nat → Value} {L : aL} {st : List Value} {w : aW} {I : aI} {J : aJ} {x : Int32} (h : x = 10) : sm_stp K (.tableswitch 157 1 27 #[151, 153, 123, 137, 157, 151, 157, 157, 153, 155, 157, 153, 151, 151, 151, 151, 157, 157, 157, 157, 157, 157, 157, 157, 157, 157, 149], 123, 0, 0, 0, 0, 0, 0, 0) 1 L (.int x :: st) w I J = some (156, L, st, w, I, J) := by subst h; rfl
theorem sw_122_1_7 {K : Nat → Value} {L : aL} {st : List Value} {w : aW} {I : aI} {J : aJ} {x : Int32} (h : x = 12) : sm_stp K (.tableswitch 157 1 27 #[151, 153, 123, 137, 157, 151, 157, 157, 153, 155, 157, 153, 151, 151, 151, 151, 157, 157, 157, 157, 157, 157, 157, 157, 157, 157, 149], 123, 0, 0, 0, 0, 0, 0, 0) 1 L (.int x :: st) w I J = some (154, L, st, w, I, J) := by subst h; rfl
theorem sw_122_1_8 {K : Nat → Value} {L : aL} {st : List Value} {w : aW} {I : aI} {J : aJ} {x : Int32} (h : x = 13) : sm_stp K (.tableswitch 157 1 27 #[151, 153, 123, 137, 157, 151, 157, 157, 153, 155, 157, 153, 151, 151, 151, 151, 157, 157, 157, 157, 157, 157, 157, 157, 157, 157, 149], 123, 0, 0, 0, 0, 0, 0, 0) 1 L (.int x :: st) w I J = some (152, L, st, w, I, J) := by subst h; rfl
theorem sw_122_1_9 {K : Nat → Value} {L : aL} {st : List Value} {w : aW} {I : aI} {J : aJ} {x : Int32} (h : x = 14) : sm_stp K (.tableswitch 157 1 27 #[151, 153, 123, 137, 157, 151, 157, 157, 153, 155, 157, 153, 151, 151, 151, 151, 157, 157, 157, 157, 157, 157, 157, 157, 157, 157, 149], 123, 0, 0, 0, 0, 0, 0, 0) 1 L (.int x :: st) w I J = some (152, L, st, w, I, J) := by subst h; rfl
theorem sw_122_1_10 {K : Nat → Value} {L : aL} {st : List Value} {w : aW} {I : aI} {J : aJ} {x : Int32} (h : x = 15) : sm_stp K (.tableswitch 157 1 27 #[151, 153, 123, 137, 157, 151, 157, 157, 153, 155, 157, 153, 151, 151, 151, 151, 157, 157, 157, 157, 157, 157, 157, 157, 157, 157, 149], 123, 0, 0, 0, 0, 0, 0, 0) 1 L (.int x :: st) w I J = some (152, L, st, w, I, J) := by subst h; rfl
theorem sw_122_1_11 {K : Nat → Value} {L : aL} {st : List Value} {w : aW} {I : aI} {J : aJ} {x : Int32} (h : x = 16) : sm_stp K (.tableswitch 157 1 27 #[151, 153, 123, 137, 157, 151, 157, 157, 153, 155, 157, 153, 151, 151, 151, 151, 157, 157, 157, 157, 157, 157, 157, 157, 157, 157, 149], 123, 0, 0, 0, 0, 0, 0, 0) 1 L (.int x :: st) w I J = some (152, L, st, w, I, J) := by subst h; rfl
theorem sw_122_1_12 {K : Nat → Value} {L : aL} {st : List Value} {w : aW} {I : aI} {J : aJ} {x : Int32} (h : x = 27) : sm_stp K (.tableswitch 157 1 27 #[151, 153, 123, 137, 157, 151, 157, 157, 153, 155, 157, 153, 151, 151, 151, 151, 157, 157, 157, 157, 157, 157, 157, 157, 157, 157, 149], 123, 0, 0, 0, 0, 0, 0, 0) 1 L (.int x :: st) w I J = some (150, L, st, w, I, J) := by subst h; rfl
theorem sw_122_1_d {K : Nat → Value} {L : aL} {st : List Value} {w : aW} {I : aI} {J : aJ} {x : Int32} (h0 : ¬ x = 1) (h1 : ¬ x = 2) (h2 : ¬ x = 3) (h3 : ¬ x = 4) (h4 : ¬ x = 6) (h5 : ¬ x = 9) (h6 : ¬ x = 10) (h7 : ¬ x = 12) (h8 : ¬ x = 13) (h9 : ¬ x = 14) (h10 : ¬ x = 15) (h11 : ¬ x = 16) (h12 : ¬ x = 27) : sm_stp K (.tableswitch 157 1 27 #[151, 153, 123, 137, 157, 151, 157, 157, 153, 155, 157, 153, 151, 151, 151, 151, 157, 157, 157, 157, 157, 157, 157, 157, 157, 157, 149], 123, 0, 0, 0, 0, 0, 0, 0) 1 L (.int x :: st) w I J = some (158, L, st, w, I, J) := by
  have e : sm_swt 1 157 1 27 #[151, 153, 123, 137, 157, 151, 157, 157, 153, 155, 157, 153, 151, 151, 151, 151, 157, 157, 157, 157, 157, 157, 157, 157, 157, 157, 149] x = some 158 := by
    unfold sm_swt
    split
    · rfl
    · rename_i hn
      have hx : x = 1 ∨ x = 2 ∨ x = 3 ∨ x = 4 ∨ x = 5 ∨ x = 6 ∨ x = 7 ∨ x = 8 ∨ x = 9 ∨ x = 10 ∨ x = 11 ∨ x = 12 ∨ x = 13 ∨ x = 14 ∨ x = 15 ∨ x = 16 ∨ x = 17 ∨ x = 18 ∨ x = 19 ∨ x = 20 ∨ x = 21 ∨ x = 22 ∨ x = 23 ∨ x = 24 ∨ x = 25 ∨ x = 26 ∨ x = 27 := by
        have ha : ¬ x.toInt < 1 := fun q => hn (Or.inl q)
        have hb : ¬ 27 < x.toInt := fun q => hn (Or.inr q)
        have h3 : x.toInt = 1 ∨ x.toInt = 2 ∨ x.toInt = 3 ∨ x.toInt = 4 ∨ x.toInt = 5 ∨ x.toInt = 6 ∨ x.toInt = 7 ∨ x.toInt = 8 ∨ x.toInt = 9 ∨ x.toInt = 10 ∨ x.toInt = 11 ∨ x.toInt = 12 ∨ x.toInt = 13 ∨ x.toInt = 14 ∨ x.toInt = 15 ∨ x.toInt = 16 ∨ x.toInt = 17 ∨ x.toInt = 18 ∨ x.toInt = 19 ∨ x.toInt = 20 ∨ x.toInt = 21 ∨ x.toInt = 22 ∨ x.toInt = 23 ∨ x.toInt = 24 ∨ x.toInt = 25 ∨ x.toInt = 26 ∨ x.toInt = 27 := by omega
        rcases h3 with q | q | q | q | q | q | q | q | q | q | q | q | q | q | q | q | q | q | q | q | q | q | q | q | q | q | q
        · exact Or.inl (Int32.toInt_inj.mp q)
        · exact Or.inr (Or.inl (Int32.toInt_inj.mp q))
        · exact Or.inr (Or.inr (Or.inl (Int32.toInt_inj.mp q)))
        · exact Or.inr (Or.inr (Or.inr (Or.inl (Int32.toInt_inj.mp q))))
        · exact Or.inr (Or.inr (Or.inr (Or.inr (Or.inl (Int32.toInt_inj.mp q)))))
        · exact Or.inr (Or.inr (Or.inr (Or.inr (Or.inr (Or.inl (Int32.toInt_inj.mp q))))))
        · exact Or.inr (Or.inr (Or.inr (Or.inr (Or.inr (Or.inr (Or.inl (Int32.toInt_inj.mp q)))))))
        · exact Or.inr (Or.inr (Or.inr (Or.inr (Or.inr (Or.inr (Or.inr (Or.inl (Int32.toInt_inj.mp q))))))))
        · exact Or.inr (Or.inr (Or.inr (Or.inr (Or.inr (Or.inr (Or.inr (Or.inr (Or.inl (Int32.toInt_inj.mp q)))))))))
        · exact Or.inr (Or.inr (Or.inr (Or.inr (Or.inr (Or.inr (Or.inr (Or.inr (Or.inr (Or.inl (Int32.toInt_inj.mp q))))))))))
        · exact Or.inr (Or.inr (Or.inr (Or.inr (Or.inr (Or.inr (Or.inr (Or.inr (Or.inr (Or.inr (Or.inl (Int32.toInt_inj.mp q)))))))))))
        · exact Or.inr (Or.inr (Or.inr (Or.inr (Or.inr (Or.inr (Or.inr (Or.inr (Or.inr (Or.inr (Or.inr (Or.inl (Int32.toInt_inj.mp q))))))))))))
        · exact Or.inr (Or.inr (Or.inr (Or.inr (Or.inr (Or.inr (Or.inr (Or.inr (Or.inr (Or.inr (Or.inr (Or.inr (Or.inl (Int32.toInt_inj.mp q)))))))))))))
        · exact Or.inr (Or.inr (Or.inr (Or.inr (Or.inr (Or.inr (Or.inr (Or.inr (Or.inr (Or.inr (Or.inr (Or.inr (Or.inr (Or.inl (Int32.toInt_inj.mp q))))))))))))))
        · exact Or.inr (Or.inr (Or.inr (Or.inr (Or.inr (Or.inr (Or.inr (Or.inr (Or.inr (Or.inr (Or.inr (Or.inr (Or.inr (Or.inr (Or.inl (Int32.toInt_inj.mp q)))))))))))))))
        · exact Or.inr (Or.inr (Or.inr (Or.inr (Or.inr (Or.inr (Or.inr (Or.inr (Or.inr (Or.inr (Or.inr (Or.inr (Or.inr (Or.inr (Or.inr (Or.inl (Int32.toInt_inj.mp q))))))))))))))))
        · exact Or.inr (Or.inr (Or.inr (Or.inr (Or.inr (Or.inr (Or.inr (Or.inr (Or.inr (Or.inr (Or.inr (Or.inr (Or.inr (Or.inr (Or.inr (Or.inr (Or.inl (Int32.toInt_inj.mp q)))))))))))))))))
        · exact Or.inr (Or.inr (Or.inr (Or.inr (Or.inr (Or.inr (Or.inr (Or.inr (Or.inr (Or.inr (Or.inr (Or.inr (Or.inr (Or.inr (Or.inr (Or.inr (Or.inr (Or.inl (Int32.toInt_inj.mp q))))))))))))))))))
        · exact Or.inr (Or.inr (Or.inr (Or.inr (Or.inr (Or.inr (Or.inr (Or.inr (Or.inr (Or.inr (Or.inr (Or.inr (Or.inr (Or.inr (Or.inr (Or.inr (Or.inr (Or.inr (Or.inl (Int32.toInt_inj.mp q)))))))))))))))))))
        · exact Or.inr (Or.inr (Or.inr (Or.inr (Or.inr (Or.inr (Or.inr (Or.inr (Or.inr (Or.inr (Or.inr (Or.inr (Or.inr (Or.inr (Or.inr (Or.inr (Or.inr (Or.inr (Or.inr (Or.inl (Int32.toInt_inj.mp q))))))))))))))))))))
        · exact Or.inr (Or.inr (Or.inr (Or.inr (Or.inr (Or.inr (Or.inr (Or.inr (Or.inr (Or.inr (Or.inr (Or.inr (Or.inr (Or.inr (Or.inr (Or.inr (Or.inr (Or.inr (Or.inr (Or.inr (Or.inl (Int32.toInt_inj.mp q)))))))))))))))))))))
        · exact Or.inr (Or.inr (Or.inr (Or.inr (Or.inr (Or.inr (Or.inr (Or.inr (Or.inr (Or.inr (Or.inr (Or.inr (Or.inr (Or.inr (Or.inr (Or.inr (Or.inr (Or.inr (Or.inr (Or.inr (Or.inr (Or.inl (Int32.toInt_inj.mp q))))))))))))))))))))))
        · exact Or.inr (Or.inr (Or.inr (Or.inr (Or.inr (Or.inr (Or.inr (Or.inr (Or.inr (Or.inr (Or.inr (Or.inr (Or.inr (Or.inr (Or.inr (Or.inr (Or.inr (Or.inr (Or.inr (Or.inr (Or.inr (Or.inr (Or.inl (Int32.toInt_inj.mp q)))))))))))))))))))))))
        · exact Or.inr (Or.inr (Or.inr (Or.inr (Or.inr (Or.inr (Or.inr (Or.inr (Or.inr (Or.inr (Or.inr (Or.inr (Or.inr (Or.inr (Or.inr (Or.inr (Or.inr (Or.inr (Or.inr (Or.inr (Or.inr (Or.inr (Or.inr (Or.inl (Int32.toInt_inj.mp q))))))))))))))))))))))))
        · exact Or.inr (Or.inr (Or.inr (Or.inr (Or.inr (Or.inr (Or.inr (Or.inr (Or.inr (Or.inr (Or.inr (Or.inr (Or.inr (Or.inr (Or.inr (Or.inr (Or.inr (Or.inr (Or.inr (Or.inr (Or.inr (Or.inr (Or.inr (Or.inr (Or.inl (Int32.toInt_inj.mp q)))))))))))))))))))))))))
        · exact Or.inr (Or.inr (Or.inr (Or.inr (Or.inr (Or.inr (Or.inr (Or.inr (Or.inr (Or.inr (Or.inr (Or.inr (Or.inr (Or.inr (Or.inr (Or.inr (Or.inr (Or.inr (Or.inr (Or.inr (Or.inr (Or.inr (Or.inr (Or.inr (Or.inr (Or.inl (Int32.toInt_inj.mp q))))))))))))))))))))))))))
        · exact Or.inr (Or.inr (Or.inr (Or.inr (Or.inr (Or.inr (Or.inr (Or.inr (Or.inr (Or.inr (Or.inr (Or.inr (Or.inr (Or.inr (Or.inr (Or.inr (Or.inr (Or.inr (Or.inr (Or.inr (Or.inr (Or.inr (Or.inr (Or.inr (Or.inr (Or.inr ((Int32.toInt_inj.mp q)))))))))))))))))))))))))))
      rcases hx with rfl | rfl | rfl | rfl | rfl | rfl | rfl | rfl | rfl | rfl | rfl | rfl | rfl | rfl | rfl | rfl | rfl | rfl | rfl | rfl | rfl | rfl | rfl | rfl | rfl | rfl | rfl
      · exact absurd rfl h0
      · exact absurd rfl h1
      · exact absurd rfl h2
      · exact absurd rfl h3
      · rfl
      · exact absurd rfl h4
      · rfl
      · rfl
      · exact absurd rfl h5
      · exact absurd rfl h6
      · rfl
      · exact absurd rfl h7
      · exact absurd rfl h8
      · exact absurd rfl h9
      · exact absurd rfl h10
      · exact absurd rfl h11
      · rfl
      · rfl
      · rfl
      · rfl
      · rfl
      · rfl
      · rfl
      · rfl
      · rfl
      · rfl
      · exact absurd rfl h12
  simp only [sm_stp, e, sm_jm]
noncomputable def f_122 (K : Nat → Value) (k d : Nat) (l0 : Nat) (l1 : Int32) (l2 : Int32) (l3 : Int32) (w : aW) (I : aI) (J : aJ) : Option aR :=
  if l1 = 1 then
    some (some (.int 1), w, I, J)
  else
  if l1 = 2 then
    some (some (.int 3), w, I, J)
  else
  if l1 = 3 then
    gO w 6 l0 (
    gV w l0 18 fun q_1 =>
    gA w 10 20 q_1 (((10 * l3) + 4) + l2) (
    some (some (.int (I q_1 (((10 * l3) + 4) + l2 : Int32).toNatClampNeg)), w, I, J)))
  else
  if l1 = 4 then
    gO w 6 l0 (
    gV w l0 18 fun q_2 =>
    gA w 10 20 q_2 ((10 * l2) + 3) (
    some (some (.int (I q_2 ((10 * l2) + 3 : Int32).toNatClampNeg)), w, I, J)))
  else
  if l1 = 6 then
    some (some (.int 1), w, I, J)
  else
  if l1 = 9 then
    some (some (.int 3), w, I, J)
  else
  if l1 = 10 then
    some (some (.int 2), w, I, J)
  else
  if l1 = 12 then
    some (some (.int 3), w, I, J)
  else
  if l1 = 13 then
    some (some (.int 1), w, I, J)
  else
  if l1 = 14 then
    some (some (.int 1), w, I, J)
  else
  if l1 = 15 then
    some (some (.int 1), w, I, J)
  else
  if l1 = 16 then
    some (some (.int 1), w, I, J)
  else
  if l1 = 27 then
    some (some (.int l2), w, I, J)
  else
  if 21 ≤ l1 then
    some (some (.int (-1)), w, I, J)
  else
    some (some (.int 0), w, I, J)
theorem ok_122 {K : Nat → Value} {k d : Nat} {l0 : Nat} {l1 : Int32} {l2 : Int32} {l3 : Int32} {w : aW} {I : aI} {J : aJ} {R : aR} (h : f_122 K k d l0 l1 l2 l3 w I J = some R) : Go K (d + 1) 122 0 [some (.ref l0), some (.int l1), some (.int l2), some (.int l3)] [] w I J R := by
  unfold f_122 at h
  refine gs_0 (pc' := 1) (L' := [some (.ref l0), some (.int l1), some (.int l2), some (.int l3)]) (st' := [.int l1]) cd_122_0 rfl rfl ?_
  by_cases hc0 : l1 = 1
  · rw [if_pos hc0] at h
    refine gs_0 (pc' := 152) (L' := [some (.ref l0), some (.int l1), some (.int l2), some (.int l3)]) (st' := []) cd_122_1 rfl (sw_122_1_0 hc0) ?_
    refine gs_0 (pc' := 153) (L' := [some (.ref l0), some (.int l1), some (.int l2), some (.int l3)]) (st' := [.int 1]) cd_122_152 rfl rfl ?_
    cases h
    exact gs_ri cd_122_153 (Or.inl rfl)
  · rw [if_neg hc0] at h
    by_cases hc1 : l1 = 2
    · rw [if_pos hc1] at h
      refine gs_0 (pc' := 154) (L' := [some (.ref l0), some (.int l1), some (.int l2), some (.int l3)]) (st' := []) cd_122_1 rfl (sw_122_1_1 hc1) ?_
      refine gs_0 (pc' := 155) (L' := [some (.ref l0), some (.int l1), some (.int l2), some (.int l3)]) (st' := [.int 3]) cd_122_154 rfl rfl ?_
      cases h
      exact gs_ri cd_122_155 (Or.inl rfl)
    · rw [if_neg hc1] at h
      by_cases hc2 : l1 = 3
      · rw [if_pos hc2] at h
        refine gs_0 (pc' := 124) (L' := [some (.ref l0), some (.int l1), some (.int l2), some (.int l3)]) (st' := []) cd_122_1 rfl (sw_122_1_2 hc2) ?_
        refine gs_0 (pc' := 125) (L' := [some (.ref l0), some (.int l1), some (.int l2), some (.int l3)]) (st' := [.ref l0]) cd_122_124 rfl rfl ?_
        obtain ⟨ht, h⟩ := gO_s h
        obtain ⟨q_1, hv, h⟩ := gV_s h
        refine gs_gfR cd_122_125 (by decide) ht hv ?_
        refine gs_0 (pc' := 130) (L' := [some (.ref l0), some (.int l1), some (.int l2), some (.int l3)]) (st' := [.int 10, .ref q_1]) cd_122_128 rfl rfl ?_
        refine gs_0 (pc' := 131) (L' := [some (.ref l0), some (.int l1), some (.int l2), some (.int l3)]) (st' := [.int l3, .int 10, .ref q_1]) cd_122_130 rfl rfl ?_
        refine gs_0 (pc' := 132) (L' := [some (.ref l0), some (.int l1), some (.int l2), some (.int l3)]) (st' := [.int (10 * l3), .ref q_1]) cd_122_131 rfl rfl ?_
        refine gs_0 (pc' := 133) (L' := [some (.ref l0), some (.int l1), some (.int l2), some (.int l3)]) (st' := [.int 4, .int (10 * l3), .ref q_1]) cd_122_132 rfl rfl ?_
        refine gs_0 (pc' := 134) (L' := [some (.ref l0), some (.int l1), some (.int l2), some (.int l3)]) (st' := [.int ((10 * l3) + 4), .ref q_1]) cd_122_133 rfl rfl ?_
        refine gs_0 (pc' := 135) (L' := [some (.ref l0), some (.int l1), some (.int l2), some (.int l3)]) (st' := [.int l2, .int ((10 * l3) + 4), .ref q_1]) cd_122_134 rfl rfl ?_
        refine gs_0 (pc' := 136) (L' := [some (.ref l0), some (.int l1), some (.int l2), some (.int l3)]) (st' := [.int (((10 * l3) + 4) + l2), .ref q_1]) cd_122_135 rfl rfl ?_
        obtain ⟨ht, h⟩ := gA_s h
        refine gs_iald cd_122_136 ht ?_
        cases h
        exact gs_ri cd_122_137 (Or.inl rfl)
      · rw [if_neg hc2] at h
        by_cases hc3 : l1 = 4
        · rw [if_pos hc3] at h
          refine gs_0 (pc' := 138) (L' := [some (.ref l0), some (.int l1), some (.int l2), some (.int l3)]) (st' := []) cd_122_1 rfl (sw_122_1_3 hc3) ?_
          refine gs_0 (pc' := 139) (L' := [some (.ref l0), some (.int l1), some (.int l2), some (.int l3)]) (st' := [.ref l0]) cd_122_138 rfl rfl ?_
          obtain ⟨ht, h⟩ := gO_s h
          obtain ⟨q_2, hv, h⟩ := gV_s h
          refine gs_gfR cd_122_139 (by decide) ht hv ?_
          refine gs_0 (pc' := 144) (L' := [some (.ref l0), some (.int l1), some (.int l2), some (.int l3)]) (st' := [.int 10, .ref q_2]) cd_122_142 rfl rfl ?_
          refine gs_0 (pc' := 145) (L' := [some (.ref l0), some (.int l1), some (.int l2), some (.int l3)]) (st' := [.int l2, .int 10, .ref q_2]) cd_122_144 rfl rfl ?_
          refine gs_0 (pc' := 146) (L' := [some (.ref l0), some (.int l1), some (.int l2), some (.int l3)]) (st' := [.int (10 * l2), .ref q_2]) cd_122_145 rfl rfl ?_
          refine gs_0 (pc' := 147) (L' := [some (.ref l0), some (.int l1), some (.int l2), some (.int l3)]) (st' := [.int 3, .int (10 * l2), .ref q_2]) cd_122_146 rfl rfl ?_
          refine gs_0 (pc' := 148) (L' := [some (.ref l0), some (.int l1), some (.int l2), some (.int l3)]) (st' := [.int ((10 * l2) + 3), .ref q_2]) cd_122_147 rfl rfl ?_
          obtain ⟨ht, h⟩ := gA_s h
          refine gs_iald cd_122_148 ht ?_
          cases h
          exact gs_ri cd_122_149 (Or.inl rfl)
        · rw [if_neg hc3] at h
          by_cases hc4 : l1 = 6
          · rw [if_pos hc4] at h
            refine gs_0 (pc' := 152) (L' := [some (.ref l0), some (.int l1), some (.int l2), some (.int l3)]) (st' := []) cd_122_1 rfl (sw_122_1_4 hc4) ?_
            refine gs_0 (pc' := 153) (L' := [some (.ref l0), some (.int l1), some (.int l2), some (.int l3)]) (st' := [.int 1]) cd_122_152 rfl rfl ?_
            cases h
            exact gs_ri cd_122_153 (Or.inl rfl)
          · rw [if_neg hc4] at h
            by_cases hc5 : l1 = 9
            · rw [if_pos hc5] at h
              refine gs_0 (pc' := 154) (L' := [some (.ref l0), some (.int l1), some (.int l2), some (.int l3)]) (st' := []) cd_122_1 rfl (sw_122_1_5 hc5) ?_
              refine gs_0 (pc' := 155) (L' := [some (.ref l0), some (.int l1), some (.int l2), some (.int l3)]) (st' := [.int 3]) cd_122_154 rfl rfl ?_
              cases h
              exact gs_ri cd_122_155 (Or.inl rfl)
            · rw [if_neg hc5] at h
              by_cases hc6 : l1 = 10
              · rw [if_pos hc6] at h
                refine gs_0 (pc' := 156) (L' := [some (.ref l0), some (.int l1), some (.int l2), some (.int l3)]) (st' := []) cd_122_1 rfl (sw_122_1_6 hc6) ?_
                refine gs_0 (pc' := 157) (L' := [some (.ref l0), some (.int l1), some (.int l2), some (.int l3)]) (st' := [.int 2]) cd_122_156 rfl rfl ?_
                cases h
                exact gs_ri cd_122_157 (Or.inl rfl)
              · rw [if_neg hc6] at h
                by_cases hc7 : l1 = 12
                · rw [if_pos hc7] at h
                  refine gs_0 (pc' := 154) (L' := [some (.ref l0), some (.int l1), some (.int l2), some (.int l3)]) (st' := []) cd_122_1 rfl (sw_122_1_7 hc7) ?_
                  refine gs_0 (pc' := 155) (L' := [some (.ref l0), some (.int l1), some (.int l2), some (.int l3)]) (st' := [.int 3]) cd_122_154 rfl rfl ?_
                  cases h
                  exact gs_ri cd_122_155 (Or.inl rfl)
                · rw [if_neg hc7] at h
                  by_cases hc8 : l1 = 13
                  · rw [if_pos hc8] at h
                    refine gs_0 (pc' := 152) (L' := [some (.ref l0), some (.int l1), some (.int l2), some (.int l3)]) (st' := []) cd_122_1 rfl (sw_122_1_8 hc8) ?_
                    refine gs_0 (pc' := 153) (L' := [some (.ref l0), some (.int l1), some (.int l2), some (.int l3)]) (st' := [.int 1]) cd_122_152 rfl rfl ?_
                    cases h
                    exact gs_ri cd_122_153 (Or.inl rfl)
                  · rw [if_neg hc8] at h
                    by_cases hc9 : l1 = 14
                    · rw [if_pos hc9] at h
                      refine gs_0 (pc' := 152) (L' := [some (.ref l0), some (.int l1), some (.int l2), some (.int l3)]) (st' := []) cd_122_1 rfl (sw_122_1_9 hc9) ?_
                      refine gs_0 (pc' := 153) (L' := [some (.ref l0), some (.int l1), some (.int l2), some (.int l3)]) (st' := [.int 1]) cd_122_152 rfl rfl ?_
                      cases h
                      exact gs_ri cd_122_153 (Or.inl rfl)
                    · rw [if_neg hc9] at h
                      by_cases hc10 : l1 = 15
                      · rw [if_pos hc10] at h
                        refine gs_0 (pc' := 152) (L' := [some (.ref l0), some (.int l1), some (.int l2), some (.int l3)]) (st' := []) cd_122_1 rfl (sw_122_1_10 hc10) ?_
                        refine gs_0 (pc' := 153) (L' := [some (.ref l0), some (.int l1), some (.int l2), some (.int l3)]) (st' := [.int 1]) cd_122_152 rfl rfl ?_
                        cases h
                        exact gs_ri cd_122_153 (Or.inl rfl)
                      · rw [if_neg hc10] at h
                        by_cases hc11 : l1 = 16
                        · rw [if_pos hc11] at h
                          refine gs_0 (pc' := 152) (L' := [some (.ref l0), some (.int l1), some (.int l2), some (.int l3)]) (st' := []) cd_122_1 rfl (sw_122_1_11 hc11) ?_
                          refine gs_0 (pc' := 153) (L' := [some (.ref l0), some (.int l1), some (.int l2), some (.int l3)]) (st' := [.int 1]) cd_122_152 rfl rfl ?_
                          cases h
                          exact gs_ri cd_122_153 (Or.inl rfl)
                        · rw [if_neg hc11] at h
                          by_cases hc12 : l1 = 27
                          · rw [if_pos hc12] at h
                            refine gs_0 (pc' := 150) (L' := [some (.ref l0), some (.int l1), some (.int l2), some (.int l3)]) (st' := []) cd_122_1 rfl (sw_122_1_12 hc12) ?_
                            refine gs_0 (pc' := 151) (L' := [some (.ref l0), some (.int l1), some (.int l2), some (.int l3)]) (st' := [.int l2]) cd_122_150 rfl rfl ?_
                            cases h
                            exact gs_ri cd_122_151 (Or.inl rfl)
                          · rw [if_neg hc12] at h
                            refine gs_0 (pc' := 158) (L' := [some (.ref l0), some (.int l1), some (.int l2), some (.int l3)]) (st' := []) cd_122_1 rfl (sw_122_1_d hc0 hc1 hc2 hc3 hc4 hc5 hc6 hc7 hc8 hc9 hc10 hc11 hc12) ?_
                            refine gs_0 (pc' := 159) (L' := [some (.ref l0), some (.int l1), some (.int l2), some (.int l3)]) (st' := [.int l1]) cd_122_158 rfl rfl ?_
                            refine gs_0 (pc' := 161) (L' := [some (.ref l0), some (.int l1), some (.int l2), some (.int l3)]) (st' := [.int 21, .int l1]) cd_122_159 rfl rfl ?_
                            refine gs_0 (pc' := if 21 ≤ l1 then 168 else 164) (L' := [some (.ref l0), some (.int l1), some (.int l2), some (.int l3)]) (st' := []) cd_122_161 rfl rfl ?_
                            refine go_ite (fun hc => ?_) (fun hc => ?_)
                            · rw [if_pos hc] at h
                              refine gs_0 (pc' := 169) (L' := [some (.ref l0), some (.int l1), some (.int l2), some (.int l3)]) (st' := [.int ((-1))]) cd_122_168 rfl rfl ?_
                              cases h
                              exact gs_ri cd_122_169 (Or.inl rfl)
                            · rw [if_neg hc] at h
                              refine gs_0 (pc' := 165) (L' := [some (.ref l0), some (.int l1), some (.int l2), some (.int l3)]) (st' := [.int 0]) cd_122_164 rfl rfl ?_
                              refine gs_0 (pc' := 169) (L' := [some (.ref l0), some (.int l1), some (.int l2), some (.int l3)]) (st' := [.int 0]) cd_122_165 rfl rfl ?_
                              cases h
                              exact gs_ri cd_122_169 (Or.inl rfl)
theorem cl_122 {K : Nat → Value} {k d : Nat} {l0 : Nat} {l1 : Int32} {l2 : Int32} {l3 : Int32} {w : aW} {I : aI} {J : aJ} {R : aR} (h : f_122 K k d l0 l1 l2 l3 w I J = some R) : Cl K (d + 1) 122 [.ref l0, .int l1, .int l2, .int l3] w I J = some R := Cl_of (ok_122 h)
/-! ProvedMachine.fault(I)J -/
set_option maxRecDepth 20000 in
theorem gl_123 : gcd.lookup 123 = some gw_123 := rfl
theorem cd_123_0 : sm_cd 123 0 = some (.iload_n 1, 1, 1, 0, 0, 0, 0, 0, 0) := cd_of gl_123 rfl
theorem cd_123_1 : sm_cd 123 1 = some (.ifCond .ne 9, 3, 10, 0, 0, 0, 0, 0, 0) := cd_of gl_123 rfl
theorem cd_123_4 : sm_cd 123 4 = some (.aload_n 0, 1, 0, 0, 0, 0, 0, 0, 0) := cd_of gl_123 rfl
theorem cd_123_5 : sm_cd 123 5 = some (.getfield 53, 3, 5, 8, 0, 0, 0, 0, 0) := cd_of gl_123 rfl
theorem cd_123_8 : sm_cd 123 8 = some (.i2l, 1, 0, 0, 0, 0, 0, 0, 0) := cd_of gl_123 rfl
theorem cd_123_9 : sm_cd 123 9 = some (.lreturn, 1, 0, 0, 0, 0, 0, 0, 0) := cd_of gl_123 rfl
theorem cd_123_10 : sm_cd 123 10 = some (.iload_n 1, 1, 1, 0, 0, 0, 0, 0, 0) := cd_of gl_123 rfl
theorem cd_123_11 : sm_cd 123 11 = some (.iconst 1, 1, 0, 0, 0, 0, 0, 1, 0) := cd_of gl_123 rfl
theorem cd_123_12 : sm_cd 123 12 = some (.if_icmp .ne 11, 3, 23, 0, 0, 0, 0, 0, 0) := cd_of gl_123 rfl
theorem cd_123_15 : sm_cd 123 15 = some (.aload_n 0, 1, 0, 0, 0, 0, 0, 0, 0) := cd_of gl_123 rfl
theorem cd_123_16 : sm_cd 123 16 = some (.getfield 56, 3, 5, 9, 0, 0, 0, 0, 0) := cd_of gl_123 rfl
theorem cd_123_19 : sm_cd 123 19 = some (.i2l, 1, 0, 0, 0, 0, 0, 0, 0) := cd_of gl_123 rfl
theorem cd_123_20 : sm_cd 123 20 = some (.goto 8, 3, 28, 0, 0, 0, 0, 0, 0) := cd_of gl_123 rfl
theorem cd_123_23 : sm_cd 123 23 = some (.aload_n 0, 1, 0, 0, 0, 0, 0, 0, 0) := cd_of gl_123 rfl
theorem cd_123_24 : sm_cd 123 24 = some (.iconst 1, 1, 0, 0, 0, 0, 0, 1, 0) := cd_of gl_123 rfl
theorem cd_123_25 : sm_cd 123 25 = some (.invokevirtual 60, 3, 17, 0, 1, 2, 5, 0, 0) := cd_of gl_123 rfl
theorem cd_123_28 : sm_cd 123 28 = some (.lreturn, 1, 0, 0, 0, 0, 0, 0, 0) := cd_of gl_123 rfl
noncomputable def f_123 (K : Nat → Value) (k d : Nat) (l0 : Nat) (l1 : Int32) (w : aW) (I : aI) (J : aJ) : Option aR :=
  if ¬ l1 = 0 then
    if ¬ l1 = 1 then
      gO w 5 l0 (
      cJ (Cl K d 17 [.ref l0, .int 1] w I J) fun v_4 w_1 I_2 J_3 =>
      some (some (.long v_4), w_1, I_2, J_3))
    else
      gO w 5 l0 (
      some (some (.long ((I l0 9 : Int32).toInt64)), w, I, J))
  else
    gO w 5 l0 (
    some (some (.long ((I l0 8 : Int32).toInt64)), w, I, J))
theorem ok_123 {K : Nat → Value} {k d : Nat} {l0 : Nat} {l1 : Int32} {w : aW} {I : aI} {J : aJ} {R : aR} (h : f_123 K k d l0 l1 w I J = some R) : Go K (d + 1) 123 0 [some (.ref l0), some (.int l1)] [] w I J R := by
  unfold f_123 at h
  refine gs_0 (pc' := 1) (L' := [some (.ref l0), some (.int l1)]) (st' := [.int l1]) cd_123_0 rfl rfl ?_
  refine gs_0 (pc' := if ¬ l1 = 0 then 10 else 4) (L' := [some (.ref l0), some (.int l1)]) (st' := []) cd_123_1 rfl rfl ?_
  refine go_ite (fun hc => ?_) (fun hc => ?_)
  · rw [if_pos hc] at h
    refine gs_0 (pc' := 11) (L' := [some (.ref l0), some (.int l1)]) (st' := [.int l1]) cd_123_10 rfl rfl ?_
    refine gs_0 (pc' := 12) (L' := [some (.ref l0), some (.int l1)]) (st' := [.int 1, .int l1]) cd_123_11 rfl rfl ?_
    refine gs_0 (pc' := if ¬ l1 = 1 then 23 else 15) (L' := [some (.ref l0), some (.int l1)]) (st' := []) cd_123_12 rfl rfl ?_
    refine go_ite (fun hc => ?_) (fun hc => ?_)
    · rw [if_pos hc] at h
      refine gs_0 (pc' := 24) (L' := [some (.ref l0), some (.int l1)]) (st' := [.ref l0]) cd_123_23 rfl rfl ?_
      refine gs_0 (pc' := 25) (L' := [some (.ref l0), some (.int l1)]) (st' := [.int 1, .ref l0]) cd_123_24 rfl rfl ?_
      obtain ⟨ht, h⟩ := gO_s h
      obtain ⟨v_4, w_1, I_2, J_3, hcl, h⟩ := cJ_s h
      refine gs_call (as := [.ref l0, .int 1]) (rest := []) cd_123_25 rfl (by decide) rfl (sm_rv_ok (by decide) ht) (Nat.le_of_ble_eq_true rfl) (Nat.le_of_ble_eq_true rfl) rfl hcl ?_
      cases h
      exact gsr cd_123_28 rfl rfl
    · rw [if_neg hc] at h
      refine gs_0 (pc' := 16) (L' := [some (.ref l0), some (.int l1)]) (st' := [.ref l0]) cd_123_15 rfl rfl ?_
      obtain ⟨ht, h⟩ := gO_s h
      refine gs_gfI cd_123_16 (by decide) (by decide) ht ?_
      refine gs_0 (pc' := 20) (L' := [some (.ref l0), some (.int l1)]) (st' := [.long ((I l0 9 : Int32).toInt64)]) cd_123_19 rfl rfl ?_
      refine gs_0 (pc' := 28) (L' := [some (.ref l0), some (.int l1)]) (st' := [.long ((I l0 9 : Int32).toInt64)]) cd_123_20 rfl rfl ?_
      cases h
      exact gsr cd_123_28 rfl rfl
  · rw [if_neg hc] at h
    refine gs_0 (pc' := 5) (L' := [some (.ref l0), some (.int l1)]) (st' := [.ref l0]) cd_123_4 rfl rfl ?_
    obtain ⟨ht, h⟩ := gO_s h
    refine gs_gfI cd_123_5 (by decide) (by decide) ht ?_
    refine gs_0 (pc' := 9) (L' := [some (.ref l0), some (.int l1)]) (st' := [.long ((I l0 8 : Int32).toInt64)]) cd_123_8 rfl rfl ?_
    cases h
    exact gsr cd_123_9 rfl rfl
theorem cl_123 {K : Nat → Value} {k d : Nat} {l0 : Nat} {l1 : Int32} {w : aW} {I : aI} {J : aJ} {R : aR} (h : f_123 K k d l0 l1 w I J = some R) : Cl K (d + 1) 123 [.ref l0, .int l1] w I J = some R := Cl_of (ok_123 h)
/-! ProvedMachineModel.fault(I)J -/
set_option maxRecDepth 20000 in
theorem gl_124 : gcd.lookup 124 = some gw_124 := rfl
theorem cd_124_0 : sm_cd 124 0 = some (.iload_n 1, 1, 1, 0, 0, 0, 0, 0, 0) := cd_of gl_124 rfl
theorem cd_124_1 : sm_cd 124 1 = some (.ifCond .ne 11, 3, 12, 0, 0, 0, 0, 0, 0) := cd_of gl_124 rfl
theorem cd_124_4 : sm_cd 124 4 = some (.aload_n 0, 1, 0, 0, 0, 0, 0, 0, 0) := cd_of gl_124 rfl
theorem cd_124_5 : sm_cd 124 5 = some (.getfield 322, 3, 6, 3, 0, 0, 0, 0, 0) := cd_of gl_124 rfl
theorem cd_124_8 : sm_cd 124 8 = some (.i2l, 1, 0, 0, 0, 0, 0, 0, 0) := cd_of gl_124 rfl
theorem cd_124_9 : sm_cd 124 9 = some (.goto 21, 3, 30, 0, 0, 0, 0, 0, 0) := cd_of gl_124 rfl
theorem cd_124_12 : sm_cd 124 12 = some (.iload_n 1, 1, 1, 0, 0, 0, 0, 0, 0) := cd_of gl_124 rfl
theorem cd_124_13 : sm_cd 124 13 = some (.iconst 1, 1, 0, 0, 0, 0, 0, 1, 0) := cd_of gl_124 rfl
theorem cd_124_14 : sm_cd 124 14 = some (.if_icmp .ne 11, 3, 25, 0, 0, 0, 0, 0, 0) := cd_of gl_124 rfl
theorem cd_124_17 : sm_cd 124 17 = some (.aload_n 0, 1, 0, 0, 0, 0, 0, 0, 0) := cd_of gl_124 rfl
theorem cd_124_18 : sm_cd 124 18 = some (.getfield 16, 3, 6, 4, 0, 0, 0, 0, 0) := cd_of gl_124 rfl
theorem cd_124_21 : sm_cd 124 21 = some (.i2l, 1, 0, 0, 0, 0, 0, 0, 0) := cd_of gl_124 rfl
theorem cd_124_22 : sm_cd 124 22 = some (.goto 8, 3, 30, 0, 0, 0, 0, 0, 0) := cd_of gl_124 rfl
theorem cd_124_25 : sm_cd 124 25 = some (.aload_n 0, 1, 0, 0, 0, 0, 0, 0, 0) := cd_of gl_124 rfl
theorem cd_124_26 : sm_cd 124 26 = some (.iconst 1, 1, 0, 0, 0, 0, 0, 1, 0) := cd_of gl_124 rfl
theorem cd_124_27 : sm_cd 124 27 = some (.invokevirtual 148, 3, 20, 0, 1, 2, 6, 0, 0) := cd_of gl_124 rfl
theorem cd_124_30 : sm_cd 124 30 = some (.lreturn, 1, 0, 0, 0, 0, 0, 0, 0) := cd_of gl_124 rfl
noncomputable def f_124 (K : Nat → Value) (k d : Nat) (l0 : Nat) (l1 : Int32) (w : aW) (I : aI) (J : aJ) : Option aR :=
  if ¬ l1 = 0 then
    if ¬ l1 = 1 then
      gO w 6 l0 (
      cJ (Cl K d 20 [.ref l0, .int 1] w I J) fun v_4 w_1 I_2 J_3 =>
      some (some (.long v_4), w_1, I_2, J_3))
    else
      gO w 6 l0 (
      some (some (.long ((I l0 4 : Int32).toInt64)), w, I, J))
  else
    gO w 6 l0 (
    some (some (.long ((I l0 3 : Int32).toInt64)), w, I, J))
theorem ok_124 {K : Nat → Value} {k d : Nat} {l0 : Nat} {l1 : Int32} {w : aW} {I : aI} {J : aJ} {R : aR} (h : f_124 K k d l0 l1 w I J = some R) : Go K (d + 1) 124 0 [some (.ref l0), some (.int l1)] [] w I J R := by
  unfold f_124 at h
  refine gs_0 (pc' := 1) (L' := [some (.ref l0), some (.int l1)]) (st' := [.int l1]) cd_124_0 rfl rfl ?_
  refine gs_0 (pc' := if ¬ l1 = 0 then 12 else 4) (L' := [some (.ref l0), some (.int l1)]) (st' := []) cd_124_1 rfl rfl ?_
  refine go_ite (fun hc => ?_) (fun hc => ?_)
  · rw [if_pos hc] at h
    refine gs_0 (pc' := 13) (L' := [some (.ref l0), some (.int l1)]) (st' := [.int l1]) cd_124_12 rfl rfl ?_
    refine gs_0 (pc' := 14) (L' := [some (.ref l0), some (.int l1)]) (st' := [.int 1, .int l1]) cd_124_13 rfl rfl ?_
    refine gs_0 (pc' := if ¬ l1 = 1 then 25 else 17) (L' := [some (.ref l0), some (.int l1)]) (st' := []) cd_124_14 rfl rfl ?_
    refine go_ite (fun hc => ?_) (fun hc => ?_)
    · rw [if_pos hc] at h
      refine gs_0 (pc' := 26) (L' := [some (.ref l0), some (.int l1)]) (st' := [.ref l0]) cd_124_25 rfl rfl ?_
      refine gs_0 (pc' := 27) (L' := [some (.ref l0), some (.int l1)]) (st' := [.int 1, .ref l0]) cd_124_26 rfl rfl ?_
      obtain ⟨ht, h⟩ := gO_s h
      obtain ⟨v_4, w_1, I_2, J_3, hcl, h⟩ := cJ_s h
      refine gs_call (as := [.ref l0, .int 1]) (rest := []) cd_124_27 rfl (by decide) rfl (sm_rv_ok (by decide) ht) (Nat.le_of_ble_eq_true rfl) (Nat.le_of_ble_eq_true rfl) rfl hcl ?_
      cases h
      exact gsr cd_124_30 rfl rfl
    · rw [if_neg hc] at h
      refine gs_0 (pc' := 18) (L' := [some (.ref l0), some (.int l1)]) (st' := [.ref l0]) cd_124_17 rfl rfl ?_
      obtain ⟨ht, h⟩ := gO_s h
      refine gs_gfI cd_124_18 (by decide) (by decide) ht ?_
      refine gs_0 (pc' := 22) (L' := [some (.ref l0), some (.int l1)]) (st' := [.long ((I l0 4 : Int32).toInt64)]) cd_124_21 rfl rfl ?_
      refine gs_0 (pc' := 30) (L' := [some (.ref l0), some (.int l1)]) (st' := [.long ((I l0 4 : Int32).toInt64)]) cd_124_22 rfl rfl ?_
      cases h
      exact gsr cd_124_30 rfl rfl
  · rw [if_neg hc] at h
    refine gs_0 (pc' := 5) (L' := [some (.ref l0), some (.int l1)]) (st' := [.ref l0]) cd_124_4 rfl rfl ?_
    obtain ⟨ht, h⟩ := gO_s h
    refine gs_gfI cd_124_5 (by decide) (by decide) ht ?_
    refine gs_0 (pc' := 9) (L' := [some (.ref l0), some (.int l1)]) (st' := [.long ((I l0 3 : Int32).toInt64)]) cd_124_8 rfl rfl ?_
    refine gs_0 (pc' := 30) (L' := [some (.ref l0), some (.int l1)]) (st' := [.long ((I l0 3 : Int32).toInt64)]) cd_124_9 rfl rfl ?_
    cases h
    exact gsr cd_124_30 rfl rfl
theorem cl_124 {K : Nat → Value} {k d : Nat} {l0 : Nat} {l1 : Int32} {w : aW} {I : aI} {J : aJ} {R : aR} (h : f_124 K k d l0 l1 w I J = some R) : Cl K (d + 1) 124 [.ref l0, .int l1] w I J = some R := Cl_of (ok_124 h)
/-! ProvedMachine.code(IZ)J -/
set_option maxRecDepth 20000 in
theorem gl_125 : gcd.lookup 125 = some gw_125 := rfl
theorem cd_125_0 : sm_cd 125 0 = some (.aload_n 0, 1, 0, 0, 0, 0, 0, 0, 0) := cd_of gl_125 rfl
theorem cd_125_1 : sm_cd 125 1 = some (.getfield 27, 3, 5, 3, 2, 0, 0, 0, 0) := cd_of gl_125 rfl
theorem cd_125_4 : sm_cd 125 4 = some (.iload_n 1, 1, 1, 0, 0, 0, 0, 0, 0) := cd_of gl_125 rfl
theorem cd_125_5 : sm_cd 125 5 = some (.invokevirtual 83, 3, 61, 0, 1, 2, 1, 0, 0) := cd_of gl_125 rfl
theorem cd_125_8 : sm_cd 125 8 = some (.ifCond .ne 9, 3, 17, 0, 0, 0, 0, 0, 0) := cd_of gl_125 rfl
theorem cd_125_11 : sm_cd 125 11 = some (.aload_n 0, 1, 0, 0, 0, 0, 0, 0, 0) := cd_of gl_125 rfl
theorem cd_125_12 : sm_cd 125 12 = some (.iconst 1, 1, 0, 0, 0, 0, 0, 1, 0) := cd_of gl_125 rfl
theorem cd_125_13 : sm_cd 125 13 = some (.invokevirtual 60, 3, 17, 0, 1, 2, 5, 0, 0) := cd_of gl_125 rfl
theorem cd_125_16 : sm_cd 125 16 = some (.lreturn, 1, 0, 0, 0, 0, 0, 0, 0) := cd_of gl_125 rfl
theorem cd_125_17 : sm_cd 125 17 = some (.iload_n 2, 1, 2, 0, 0, 0, 0, 0, 0) := cd_of gl_125 rfl
theorem cd_125_18 : sm_cd 125 18 = some (.ifCond .eq 15, 3, 33, 0, 0, 0, 0, 0, 0) := cd_of gl_125 rfl
theorem cd_125_21 : sm_cd 125 21 = some (.aload_n 0, 1, 0, 0, 0, 0, 0, 0, 0) := cd_of gl_125 rfl
theorem cd_125_22 : sm_cd 125 22 = some (.getfield 27, 3, 5, 3, 2, 0, 0, 0, 0) := cd_of gl_125 rfl
theorem cd_125_25 : sm_cd 125 25 = some (.iload_n 1, 1, 1, 0, 0, 0, 0, 0, 0) := cd_of gl_125 rfl
theorem cd_125_26 : sm_cd 125 26 = some (.invokevirtual 87, 3, 126, 0, 1, 2, 1, 0, 0) := cd_of gl_125 rfl
theorem cd_125_29 : sm_cd 125 29 = some (.i2l, 1, 0, 0, 0, 0, 0, 0, 0) := cd_of gl_125 rfl
theorem cd_125_30 : sm_cd 125 30 = some (.goto 12, 3, 42, 0, 0, 0, 0, 0, 0) := cd_of gl_125 rfl
theorem cd_125_33 : sm_cd 125 33 = some (.aload_n 0, 1, 0, 0, 0, 0, 0, 0, 0) := cd_of gl_125 rfl
theorem cd_125_34 : sm_cd 125 34 = some (.getfield 27, 3, 5, 3, 2, 0, 0, 0, 0) := cd_of gl_125 rfl
theorem cd_125_37 : sm_cd 125 37 = some (.iload_n 1, 1, 1, 0, 0, 0, 0, 0, 0) := cd_of gl_125 rfl
theorem cd_125_38 : sm_cd 125 38 = some (.invokevirtual 90, 3, 127, 0, 1, 2, 1, 0, 0) := cd_of gl_125 rfl
theorem cd_125_41 : sm_cd 125 41 = some (.i2l, 1, 0, 0, 0, 0, 0, 0, 0) := cd_of gl_125 rfl
theorem cd_125_42 : sm_cd 125 42 = some (.lreturn, 1, 0, 0, 0, 0, 0, 0, 0) := cd_of gl_125 rfl
noncomputable def f_125 (K : Nat → Value) (k d : Nat) (l0 : Nat) (l1 : Int32) (l2 : Int32) (w : aW) (I : aI) (J : aJ) : Option aR :=
  gO w 5 l0 (
  gV w l0 3 fun q_1 =>
  gO w 1 q_1 (
  cI (Cl K d 61 [.ref q_1, .int l1] w I J) fun x_5 w_2 I_3 J_4 =>
  if ¬ x_5 = 0 then
    if l2 = 0 then
      gO w_2 5 l0 (
      gV w_2 l0 3 fun q_6 =>
      gO w_2 1 q_6 (
      cI (Cl K d 127 [.ref q_6, .int l1] w_2 I_3 J_4) fun x_10 w_7 I_8 J_9 =>
      some (some (.long ((x_10 : Int32).toInt64)), w_7, I_8, J_9)))
    else
      gO w_2 5 l0 (
      gV w_2 l0 3 fun q_11 =>
      gO w_2 1 q_11 (
      cI (Cl K d 126 [.ref q_11, .int l1] w_2 I_3 J_4) fun x_15 w_12 I_13 J_14 =>
      some (some (.long ((x_15 : Int32).toInt64)), w_12, I_13, J_14)))
  else
    gO w_2 5 l0 (
    cJ (Cl K d 17 [.ref l0, .int 1] w_2 I_3 J_4) fun v_19 w_16 I_17 J_18 =>
    some (some (.long v_19), w_16, I_17, J_18))))
theorem ok_125 {K : Nat → Value} {k d : Nat} {l0 : Nat} {l1 : Int32} {l2 : Int32} {w : aW} {I : aI} {J : aJ} {R : aR} (h : f_125 K k d l0 l1 l2 w I J = some R) : Go K (d + 1) 125 0 [some (.ref l0), some (.int l1), some (.int l2)] [] w I J R := by
  unfold f_125 at h
  refine gs_0 (pc' := 1) (L' := [some (.ref l0), some (.int l1), some (.int l2)]) (st' := [.ref l0]) cd_125_0 rfl rfl ?_
  obtain ⟨ht, h⟩ := gO_s h
  obtain ⟨q_1, hv, h⟩ := gV_s h
  refine gs_gfR cd_125_1 (by decide) ht hv ?_
  refine gs_0 (pc' := 5) (L' := [some (.ref l0), some (.int l1), some (.int l2)]) (st' := [.int l1, .ref q_1]) cd_125_4 rfl rfl ?_
  obtain ⟨ht, h⟩ := gO_s h
  obtain ⟨x_5, w_2, I_3, J_4, hcl, h⟩ := cI_s h
  refine gs_call (as := [.ref q_1, .int l1]) (rest := []) cd_125_5 rfl (by decide) rfl (sm_rv_ok (by decide) ht) (Nat.le_of_ble_eq_true rfl) (Nat.le_of_ble_eq_true rfl) rfl hcl ?_
  refine gs_0 (pc' := if ¬ x_5 = 0 then 17 else 11) (L' := [some (.ref l0), some (.int l1), some (.int l2)]) (st' := []) cd_125_8 rfl rfl ?_
  refine go_ite (fun hc => ?_) (fun hc => ?_)
  · rw [if_pos hc] at h
    refine gs_0 (pc' := 18) (L' := [some (.ref l0), some (.int l1), some (.int l2)]) (st' := [.int l2]) cd_125_17 rfl rfl ?_
    refine gs_0 (pc' := if l2 = 0 then 33 else 21) (L' := [some (.ref l0), some (.int l1), some (.int l2)]) (st' := []) cd_125_18 rfl rfl ?_
    refine go_ite (fun hc => ?_) (fun hc => ?_)
    · rw [if_pos hc] at h
      refine gs_0 (pc' := 34) (L' := [some (.ref l0), some (.int l1), some (.int l2)]) (st' := [.ref l0]) cd_125_33 rfl rfl ?_
      obtain ⟨ht, h⟩ := gO_s h
      obtain ⟨q_6, hv, h⟩ := gV_s h
      refine gs_gfR cd_125_34 (by decide) ht hv ?_
      refine gs_0 (pc' := 38) (L' := [some (.ref l0), some (.int l1), some (.int l2)]) (st' := [.int l1, .ref q_6]) cd_125_37 rfl rfl ?_
      obtain ⟨ht, h⟩ := gO_s h
      obtain ⟨x_10, w_7, I_8, J_9, hcl, h⟩ := cI_s h
      refine gs_call (as := [.ref q_6, .int l1]) (rest := []) cd_125_38 rfl (by decide) rfl (sm_rv_ok (by decide) ht) (Nat.le_of_ble_eq_true rfl) (Nat.le_of_ble_eq_true rfl) rfl hcl ?_
      refine gs_0 (pc' := 42) (L' := [some (.ref l0), some (.int l1), some (.int l2)]) (st' := [.long ((x_10 : Int32).toInt64)]) cd_125_41 rfl rfl ?_
      cases h
      exact gsr cd_125_42 rfl rfl
    · rw [if_neg hc] at h
      refine gs_0 (pc' := 22) (L' := [some (.ref l0), some (.int l1), some (.int l2)]) (st' := [.ref l0]) cd_125_21 rfl rfl ?_
      obtain ⟨ht, h⟩ := gO_s h
      obtain ⟨q_11, hv, h⟩ := gV_s h
      refine gs_gfR cd_125_22 (by decide) ht hv ?_
      refine gs_0 (pc' := 26) (L' := [some (.ref l0), some (.int l1), some (.int l2)]) (st' := [.int l1, .ref q_11]) cd_125_25 rfl rfl ?_
      obtain ⟨ht, h⟩ := gO_s h
      obtain ⟨x_15, w_12, I_13, J_14, hcl, h⟩ := cI_s h
      refine gs_call (as := [.ref q_11, .int l1]) (rest := []) cd_125_26 rfl (by decide) rfl (sm_rv_ok (by decide) ht) (Nat.le_of_ble_eq_true rfl) (Nat.le_of_ble_eq_true rfl) rfl hcl ?_
      refine gs_0 (pc' := 30) (L' := [some (.ref l0), some (.int l1), some (.int l2)]) (st' := [.long ((x_15 : Int32).toInt64)]) cd_125_29 rfl rfl ?_
      refine gs_0 (pc' := 42) (L' := [some (.ref l0), some (.int l1), some (.int l2)]) (st' := [.long ((x_15 : Int32).toInt64)]) cd_125_30 rfl rfl ?_
      cases h
      exact gsr cd_125_42 rfl rfl
  · rw [if_neg hc] at h
    refine gs_0 (pc' := 12) (L' := [some (.ref l0), some (.int l1), some (.int l2)]) (st' := [.ref l0]) cd_125_11 rfl rfl ?_
    refine gs_0 (pc' := 13) (L' := [some (.ref l0), some (.int l1), some (.int l2)]) (st' := [.int 1, .ref l0]) cd_125_12 rfl rfl ?_
    obtain ⟨ht, h⟩ := gO_s h
    obtain ⟨v_19, w_16, I_17, J_18, hcl, h⟩ := cJ_s h
    refine gs_call (as := [.ref l0, .int 1]) (rest := []) cd_125_13 rfl (by decide) rfl (sm_rv_ok (by decide) ht) (Nat.le_of_ble_eq_true rfl) (Nat.le_of_ble_eq_true rfl) rfl hcl ?_
    cases h
    exact gsr cd_125_16 rfl rfl
theorem cl_125 {K : Nat → Value} {k d : Nat} {l0 : Nat} {l1 : Int32} {l2 : Int32} {w : aW} {I : aI} {J : aJ} {R : aR} (h : f_125 K k d l0 l1 l2 w I J = some R) : Cl K (d + 1) 125 [.ref l0, .int l1, .int l2] w I J = some R := Cl_of (ok_125 h)

/-! methods as functions, by own program (wip/whole/gen_f.py) -/
/-! ProvedMachineModel.freeObject()I -/
set_option maxRecDepth 20000 in
theorem gl_184 : gcd.lookup 184 = some gw_184 := rfl
theorem cd_184_0 : sm_cd 184 0 = some (.iconst 1, 1, 0, 0, 0, 0, 0, 1, 0) := cd_of gl_184 rfl
theorem cd_184_1 : sm_cd 184 1 = some (.istore_n 1, 1, 1, 0, 0, 0, 0, 0, 0) := cd_of gl_184 rfl
theorem cd_184_2 : sm_cd 184 2 = some (.iload_n 1, 1, 1, 0, 0, 0, 0, 0, 0) := cd_of gl_184 rfl
theorem cd_184_3 : sm_cd 184 3 = some (.bipush 16, 2, 0, 0, 0, 0, 0, 16, 0) := cd_of gl_184 rfl
theorem cd_184_5 : sm_cd 184 5 = some (.if_icmp .gt 24, 3, 29, 0, 0, 0, 0, 0, 0) := cd_of gl_184 rfl
theorem cd_184_8 : sm_cd 184 8 = some (.aload_n 0, 1, 0, 0, 0, 0, 0, 0, 0) := cd_of gl_184 rfl
theorem cd_184_9 : sm_cd 184 9 = some (.getfield 111, 3, 6, 36, 2, 0, 0, 0, 0) := cd_of gl_184 rfl
theorem cd_184_12 : sm_cd 184 12 = some (.iload_n 1, 1, 1, 0, 0, 0, 0, 0, 0) := cd_of gl_184 rfl
theorem cd_184_13 : sm_cd 184 13 = some (.iconst 0, 1, 0, 0, 0, 0, 0, 0, 0) := cd_of gl_184 rfl
theorem cd_184_14 : sm_cd 184 14 = some (.invokestatic 366, 3, 183, 1, 2, 2, 6, 0, 0) := cd_of gl_184 rfl
theorem cd_184_17 : sm_cd 184 17 = some (.iaload, 1, 0, 0, 0, 0, 0, 0, 0) := cd_of gl_184 rfl
theorem cd_184_18 : sm_cd 184 18 = some (.ifCond .ne 5, 3, 23, 0, 0, 0, 0, 0, 0) := cd_of gl_184 rfl
theorem cd_184_21 : sm_cd 184 21 = some (.iload_n 1, 1, 1, 0, 0, 0, 0, 0, 0) := cd_of gl_184 rfl
theorem cd_184_22 : sm_cd 184 22 = some (.ireturn, 1, 0, 0, 1, 0, 0, 0, 0) := cd_of gl_184 rfl
theorem cd_184_23 : sm_cd 184 23 = some (.iinc 1 1, 3, 1, 0, 0, 0, 0, 1, 0) := cd_of gl_184 rfl
theorem cd_184_26 : sm_cd 184 26 = some (.goto (-24), 3, 2, 0, 0, 0, 0, 0, 0) := cd_of gl_184 rfl
theorem cd_184_29 : sm_cd 184 29 = some (.iconst 0, 1, 0, 0, 0, 0, 0, 0, 0) := cd_of gl_184 rfl
theorem cd_184_30 : sm_cd 184 30 = some (.ireturn, 1, 0, 0, 1, 0, 0, 0, 0) := cd_of gl_184 rfl
noncomputable def f_184_2 (K : Nat → Value) (k : Nat) (d : Nat) : Nat → Int32 → aW → aI → aJ → Option aR :=
  match k with
  | 0 => fun _ _ _ _ _ => none
  | k + 1 => fun l0 l1 w I J =>
  lt_ (f_184_2 K k d) fun r2 =>
  if 16 < l1 then
    some (some (.int 0), w, I, J)
  else
    gO w 6 l0 (
    gV w l0 36 fun q_1 =>
    cI (Cl K d 183 [.int l1, .int 0] w I J) fun x_5 w_2 I_3 J_4 =>
    gA w_2 10 20 q_1 x_5 (
    if ¬ (I_3 q_1 (x_5 : Int32).toNatClampNeg) = 0 then
      lt_ (l1 + 1) fun x_6 =>
      r2 l0 x_6 w_2 I_3 J_4
    else
      some (some (.int l1), w_2, I_3, J_4)))
theorem ok_184_2 {K : Nat → Value} {d : Nat} : ∀ {k : Nat} {l0 : Nat} {l1 : Int32} {w : aW} {I : aI} {J : aJ} {R : aR}, f_184_2 K k d l0 l1 w I J = some R → Go K (d + 1) 184 2 [some (.ref l0), some (.int l1)] [] w I J R := by
  intro k
  induction k with
  | zero => intro l0 l1 w I J R h; cases h
  | succ k ih =>
    intro l0 l1 w I J R h
    have hr2 : ∀ (l0 : Nat) (l1 : Int32) (w : aW) (I : aI) (J : aJ) (R : aR), f_184_2 K k d l0 l1 w I J = some R → Go K (d + 1) 184 2 [some (.ref l0), some (.int l1)] [] w I J R := fun l0 l1 w I J R h => ih h
    rw [f_184_2] at h
    obtain ⟨r2, hx, h⟩ := lt_s_ h
    rw [hx] at hr2
    clear hx ih
    refine gs_0 (pc' := 3) (L' := [some (.ref l0), some (.int l1)]) (st' := [.int l1]) cd_184_2 rfl rfl ?_
    refine gs_0 (pc' := 5) (L' := [some (.ref l0), some (.int l1)]) (st' := [.int 16, .int l1]) cd_184_3 rfl rfl ?_
    refine gs_0 (pc' := if 16 < l1 then 29 else 8) (L' := [some (.ref l0), some (.int l1)]) (st' := []) cd_184_5 rfl rfl ?_
    refine go_ite (fun hc => ?_) (fun hc => ?_)
    · rw [if_pos hc] at h
      refine gs_0 (pc' := 30) (L' := [some (.ref l0), some (.int l1)]) (st' := [.int 0]) cd_184_29 rfl rfl ?_
      cases h
      exact gs_ri cd_184_30 (Or.inl rfl)
    · rw [if_neg hc] at h
      refine gs_0 (pc' := 9) (L' := [some (.ref l0), some (.int l1)]) (st' := [.ref l0]) cd_184_8 rfl rfl ?_
      obtain ⟨ht, h⟩ := gO_s h
      obtain ⟨q_1, hv, h⟩ := gV_s h
      refine gs_gfR cd_184_9 (by decide) ht hv ?_
      refine gs_0 (pc' := 13) (L' := [some (.ref l0), some (.int l1)]) (st' := [.int l1, .ref q_1]) cd_184_12 rfl rfl ?_
      refine gs_0 (pc' := 14) (L' := [some (.ref l0), some (.int l1)]) (st' := [.int 0, .int l1, .ref q_1]) cd_184_13 rfl rfl ?_
      obtain ⟨x_5, w_2, I_3, J_4, hcl, h⟩ := cI_s h
      refine gs_call (as := [.int l1, .int 0]) (rest := [.ref q_1]) cd_184_14 rfl (by decide) rfl rfl (Nat.le_of_ble_eq_true rfl) (Nat.le_of_ble_eq_true rfl) rfl hcl ?_
      obtain ⟨ht, h⟩ := gA_s h
      refine gs_iald cd_184_17 ht ?_
      refine gs_0 (pc' := if ¬ (I_3 q_1 (x_5 : Int32).toNatClampNeg) = 0 then 23 else 21) (L' := [some (.ref l0), some (.int l1)]) (st' := []) cd_184_18 rfl rfl ?_
      refine go_ite (fun hc => ?_) (fun hc => ?_)
      · rw [if_pos hc] at h
        refine gs_0 (pc' := 26) (L' := [some (.ref l0), some (.int (l1 + 1))]) (st' := []) cd_184_23 rfl rfl ?_
        obtain ⟨x_6, hx, h⟩ := lt_s_ h
        rw [hx]
        clear hx
        refine gs_0 (pc' := 2) (L' := [some (.ref l0), some (.int x_6)]) (st' := []) cd_184_26 rfl rfl ?_
        exact hr2 l0 x_6 _ _ _ _ h
      · rw [if_neg hc] at h
        refine gs_0 (pc' := 22) (L' := [some (.ref l0), some (.int l1)]) (st' := [.int l1]) cd_184_21 rfl rfl ?_
        cases h
        exact gs_ri cd_184_22 (Or.inl rfl)
noncomputable def f_184 (K : Nat → Value) (k d : Nat) (l0 : Nat) (w : aW) (I : aI) (J : aJ) : Option aR :=
  f_184_2 K k d l0 1 w I J
theorem ok_184 {K : Nat → Value} {k d : Nat} {l0 : Nat} {w : aW} {I : aI} {J : aJ} {R : aR} (h : f_184 K k d l0 w I J = some R) : Go K (d + 1) 184 0 [some (.ref l0), none] [] w I J R := by
  unfold f_184 at h
  refine gs_0 (pc' := 1) (L' := [some (.ref l0), none]) (st' := [.int 1]) cd_184_0 rfl rfl ?_
  refine gs_0 (pc' := 2) (L' := [some (.ref l0), some (.int 1)]) (st' := []) cd_184_1 rfl rfl ?_
  exact ok_184_2 h
theorem cl_184 {K : Nat → Value} {k d : Nat} {l0 : Nat} {w : aW} {I : aI} {J : aJ} {R : aR} (h : f_184 K k d l0 w I J = some R) : Cl K (d + 1) 184 [.ref l0] w I J = some R := Cl_of (ok_184 h)
/-! ProvedMachineModel.clears()I -/
set_option maxRecDepth 20000 in
theorem gl_185 : gcd.lookup 185 = some gw_185 := rfl
set_option maxRecDepth 20000 in
theorem cd_185_0 : sm_cd 185 0 = some (.iconst 0, 1, 0, 0, 0, 0, 0, 0, 0) := cd_of gl_185 rfl
set_option maxRecDepth 20000 in
theorem cd_185_1 : sm_cd 185 1 = some (.istore_n 1, 1, 1, 0, 0, 0, 0, 0, 0) := cd_of gl_185 rfl
set_option maxRecDepth 20000 in
theorem cd_185_2 : sm_cd 185 2 = some (.iload_n 1, 1, 1, 0, 0, 0, 0, 0, 0) := cd_of gl_185 rfl
set_option maxRecDepth 20000 in
theorem cd_185_3 : sm_cd 185 3 = some (.bipush 16, 2, 0, 0, 0, 0, 0, 16, 0) := cd_of gl_185 rfl
set_option maxRecDepth 20000 in
theorem cd_185_5 : sm_cd 185 5 = some (.if_icmp .gt 16, 3, 21, 0, 0, 0, 0, 0, 0) := cd_of gl_185 rfl
set_option maxRecDepth 20000 in
theorem cd_185_8 : sm_cd 185 8 = some (.aload_n 0, 1, 0, 0, 0, 0, 0, 0, 0) := cd_of gl_185 rfl
set_option maxRecDepth 20000 in
theorem cd_185_9 : sm_cd 185 9 = some (.getfield 126, 3, 6, 43, 2, 0, 0, 0, 0) := cd_of gl_185 rfl
set_option maxRecDepth 20000 in
theorem cd_185_12 : sm_cd 185 12 = some (.iload_n 1, 1, 1, 0, 0, 0, 0, 0, 0) := cd_of gl_185 rfl
set_option maxRecDepth 20000 in
theorem cd_185_13 : sm_cd 185 13 = some (.iconst 0, 1, 0, 0, 0, 0, 0, 0, 0) := cd_of gl_185 rfl
set_option maxRecDepth 20000 in
theorem cd_185_14 : sm_cd 185 14 = some (.bastore, 1, 0, 0, 0, 0, 0, 0, 0) := cd_of gl_185 rfl
set_option maxRecDepth 20000 in
theorem cd_185_15 : sm_cd 185 15 = some (.iinc 1 1, 3, 1, 0, 0, 0, 0, 1, 0) := cd_of gl_185 rfl
set_option maxRecDepth 20000 in
theorem cd_185_18 : sm_cd 185 18 = some (.goto (-16), 3, 2, 0, 0, 0, 0, 0, 0) := cd_of gl_185 rfl
set_option maxRecDepth 20000 in
theorem cd_185_21 : sm_cd 185 21 = some (.iconst 0, 1, 0, 0, 0, 0, 0, 0, 0) := cd_of gl_185 rfl
set_option maxRecDepth 20000 in
theorem cd_185_22 : sm_cd 185 22 = some (.istore_n 1, 1, 1, 0, 0, 0, 0, 0, 0) := cd_of gl_185 rfl
set_option maxRecDepth 20000 in
theorem cd_185_23 : sm_cd 185 23 = some (.iload_n 1, 1, 1, 0, 0, 0, 0, 0, 0) := cd_of gl_185 rfl
set_option maxRecDepth 20000 in
theorem cd_185_24 : sm_cd 185 24 = some (.aload_n 0, 1, 0, 0, 0, 0, 0, 0, 0) := cd_of gl_185 rfl
set_option maxRecDepth 20000 in
theorem cd_185_25 : sm_cd 185 25 = some (.getfield 111, 3, 6, 36, 2, 0, 0, 0, 0) := cd_of gl_185 rfl
set_option maxRecDepth 20000 in
theorem cd_185_28 : sm_cd 185 28 = some (.iconst 2, 1, 0, 0, 0, 0, 0, 2, 0) := cd_of gl_185 rfl
set_option maxRecDepth 20000 in
theorem cd_185_29 : sm_cd 185 29 = some (.iaload, 1, 0, 0, 0, 0, 0, 0, 0) := cd_of gl_185 rfl
set_option maxRecDepth 20000 in
theorem cd_185_30 : sm_cd 185 30 = some (.if_icmp .ge 43, 3, 73, 0, 0, 0, 0, 0, 0) := cd_of gl_185 rfl
set_option maxRecDepth 20000 in
theorem cd_185_33 : sm_cd 185 33 = some (.aload_n 0, 1, 0, 0, 0, 0, 0, 0, 0) := cd_of gl_185 rfl
set_option maxRecDepth 20000 in
theorem cd_185_34 : sm_cd 185 34 = some (.aload_n 0, 1, 0, 0, 0, 0, 0, 0, 0) := cd_of gl_185 rfl
set_option maxRecDepth 20000 in
theorem cd_185_35 : sm_cd 185 35 = some (.getfield 111, 3, 6, 36, 2, 0, 0, 0, 0) := cd_of gl_185 rfl
set_option maxRecDepth 20000 in
theorem cd_185_38 : sm_cd 185 38 = some (.bipush 40, 2, 0, 0, 0, 0, 0, 40, 0) := cd_of gl_185 rfl
set_option maxRecDepth 20000 in
theorem cd_185_40 : sm_cd 185 40 = some (.iload_n 1, 1, 1, 0, 0, 0, 0, 0, 0) := cd_of gl_185 rfl
set_option maxRecDepth 20000 in
theorem cd_185_41 : sm_cd 185 41 = some (.iadd, 1, 0, 0, 0, 0, 0, 0, 0) := cd_of gl_185 rfl
set_option maxRecDepth 20000 in
theorem cd_185_42 : sm_cd 185 42 = some (.iaload, 1, 0, 0, 0, 0, 0, 0, 0) := cd_of gl_185 rfl
set_option maxRecDepth 20000 in
theorem cd_185_43 : sm_cd 185 43 = some (.aload_n 0, 1, 0, 0, 0, 0, 0, 0, 0) := cd_of gl_185 rfl
set_option maxRecDepth 20000 in
theorem cd_185_44 : sm_cd 185 44 = some (.getfield 111, 3, 6, 36, 2, 0, 0, 0, 0) := cd_of gl_185 rfl
set_option maxRecDepth 20000 in
theorem cd_185_47 : sm_cd 185 47 = some (.bipush 40, 2, 0, 0, 0, 0, 0, 40, 0) := cd_of gl_185 rfl
set_option maxRecDepth 20000 in
theorem cd_185_49 : sm_cd 185 49 = some (.iload_n 1, 1, 1, 0, 0, 0, 0, 0, 0) := cd_of gl_185 rfl
set_option maxRecDepth 20000 in
theorem cd_185_50 : sm_cd 185 50 = some (.iadd, 1, 0, 0, 0, 0, 0, 0, 0) := cd_of gl_185 rfl
set_option maxRecDepth 20000 in
theorem cd_185_51 : sm_cd 185 51 = some (.iaload, 1, 0, 0, 0, 0, 0, 0, 0) := cd_of gl_185 rfl
set_option maxRecDepth 20000 in
theorem cd_185_52 : sm_cd 185 52 = some (.aload_n 0, 1, 0, 0, 0, 0, 0, 0, 0) := cd_of gl_185 rfl
set_option maxRecDepth 20000 in
theorem cd_185_53 : sm_cd 185 53 = some (.getfield 111, 3, 6, 36, 2, 0, 0, 0, 0) := cd_of gl_185 rfl
set_option maxRecDepth 20000 in
theorem cd_185_56 : sm_cd 185 56 = some (.bipush 10, 2, 0, 0, 0, 0, 0, 10, 0) := cd_of gl_185 rfl
set_option maxRecDepth 20000 in
theorem cd_185_58 : sm_cd 185 58 = some (.iload_n 1, 1, 1, 0, 0, 0, 0, 0, 0) := cd_of gl_185 rfl
set_option maxRecDepth 20000 in
theorem cd_185_59 : sm_cd 185 59 = some (.iadd, 1, 0, 0, 0, 0, 0, 0, 0) := cd_of gl_185 rfl
set_option maxRecDepth 20000 in
theorem cd_185_60 : sm_cd 185 60 = some (.iaload, 1, 0, 0, 0, 0, 0, 0, 0) := cd_of gl_185 rfl
set_option maxRecDepth 20000 in
theorem cd_185_61 : sm_cd 185 61 = some (.invokestatic 369, 3, 186, 1, 2, 2, 6, 0, 0) := cd_of gl_185 rfl
set_option maxRecDepth 20000 in
theorem cd_185_64 : sm_cd 185 64 = some (.invokevirtual 372, 3, 187, 0, 2, 3, 6, 0, 0) := cd_of gl_185 rfl
set_option maxRecDepth 20000 in
theorem cd_185_67 : sm_cd 185 67 = some (.iinc 1 1, 3, 1, 0, 0, 0, 0, 1, 0) := cd_of gl_185 rfl
set_option maxRecDepth 20000 in
theorem cd_185_70 : sm_cd 185 70 = some (.goto (-47), 3, 23, 0, 0, 0, 0, 0, 0) := cd_of gl_185 rfl
set_option maxRecDepth 20000 in
theorem cd_185_73 : sm_cd 185 73 = some (.iconst 0, 1, 0, 0, 0, 0, 0, 0, 0) := cd_of gl_185 rfl
set_option maxRecDepth 20000 in
theorem cd_185_74 : sm_cd 185 74 = some (.istore_n 1, 1, 1, 0, 0, 0, 0, 0, 0) := cd_of gl_185 rfl
set_option maxRecDepth 20000 in
theorem cd_185_75 : sm_cd 185 75 = some (.iload_n 1, 1, 1, 0, 0, 0, 0, 0, 0) := cd_of gl_185 rfl
set_option maxRecDepth 20000 in
theorem cd_185_76 : sm_cd 185 76 = some (.aload_n 0, 1, 0, 0, 0, 0, 0, 0, 0) := cd_of gl_185 rfl
set_option maxRecDepth 20000 in
theorem cd_185_77 : sm_cd 185 77 = some (.getfield 111, 3, 6, 36, 2, 0, 0, 0, 0) := cd_of gl_185 rfl
set_option maxRecDepth 20000 in
theorem cd_185_80 : sm_cd 185 80 = some (.iconst 1, 1, 0, 0, 0, 0, 0, 1, 0) := cd_of gl_185 rfl
set_option maxRecDepth 20000 in
theorem cd_185_81 : sm_cd 185 81 = some (.iaload, 1, 0, 0, 0, 0, 0, 0, 0) := cd_of gl_185 rfl
set_option maxRecDepth 20000 in
theorem cd_185_82 : sm_cd 185 82 = some (.if_icmp .ge 87, 3, 169, 0, 0, 0, 0, 0, 0) := cd_of gl_185 rfl
set_option maxRecDepth 20000 in
theorem cd_185_85 : sm_cd 185 85 = some (.aload_n 0, 1, 0, 0, 0, 0, 0, 0, 0) := cd_of gl_185 rfl
set_option maxRecDepth 20000 in
theorem cd_185_86 : sm_cd 185 86 = some (.getfield 111, 3, 6, 36, 2, 0, 0, 0, 0) := cd_of gl_185 rfl
set_option maxRecDepth 20000 in
theorem cd_185_89 : sm_cd 185 89 = some (.bipush 70, 2, 0, 0, 0, 0, 0, 70, 0) := cd_of gl_185 rfl
set_option maxRecDepth 20000 in
theorem cd_185_91 : sm_cd 185 91 = some (.bipush 8, 2, 0, 0, 0, 0, 0, 8, 0) := cd_of gl_185 rfl
set_option maxRecDepth 20000 in
theorem cd_185_93 : sm_cd 185 93 = some (.iload_n 1, 1, 1, 0, 0, 0, 0, 0, 0) := cd_of gl_185 rfl
set_option maxRecDepth 20000 in
theorem cd_185_94 : sm_cd 185 94 = some (.imul, 1, 0, 0, 0, 0, 0, 0, 0) := cd_of gl_185 rfl
set_option maxRecDepth 20000 in
theorem cd_185_95 : sm_cd 185 95 = some (.iadd, 1, 0, 0, 0, 0, 0, 0, 0) := cd_of gl_185 rfl
set_option maxRecDepth 20000 in
theorem cd_185_96 : sm_cd 185 96 = some (.iaload, 1, 0, 0, 0, 0, 0, 0, 0) := cd_of gl_185 rfl
set_option maxRecDepth 20000 in
theorem cd_185_97 : sm_cd 185 97 = some (.istore_n 2, 1, 2, 0, 0, 0, 0, 0, 0) := cd_of gl_185 rfl
set_option maxRecDepth 20000 in
theorem cd_185_98 : sm_cd 185 98 = some (.iconst 0, 1, 0, 0, 0, 0, 0, 0, 0) := cd_of gl_185 rfl
set_option maxRecDepth 20000 in
theorem cd_185_99 : sm_cd 185 99 = some (.istore_n 3, 1, 3, 0, 0, 0, 0, 0, 0) := cd_of gl_185 rfl
set_option maxRecDepth 20000 in
theorem cd_185_100 : sm_cd 185 100 = some (.iload_n 3, 1, 3, 0, 0, 0, 0, 0, 0) := cd_of gl_185 rfl
set_option maxRecDepth 20000 in
theorem cd_185_101 : sm_cd 185 101 = some (.aload_n 0, 1, 0, 0, 0, 0, 0, 0, 0) := cd_of gl_185 rfl
set_option maxRecDepth 20000 in
theorem cd_185_102 : sm_cd 185 102 = some (.getfield 47, 3, 6, 18, 2, 0, 0, 0, 0) := cd_of gl_185 rfl
set_option maxRecDepth 20000 in
theorem cd_185_105 : sm_cd 185 105 = some (.bipush 10, 2, 0, 0, 0, 0, 0, 10, 0) := cd_of gl_185 rfl
set_option maxRecDepth 20000 in
theorem cd_185_107 : sm_cd 185 107 = some (.iload_n 2, 1, 2, 0, 0, 0, 0, 0, 0) := cd_of gl_185 rfl
set_option maxRecDepth 20000 in
theorem cd_185_108 : sm_cd 185 108 = some (.imul, 1, 0, 0, 0, 0, 0, 0, 0) := cd_of gl_185 rfl
set_option maxRecDepth 20000 in
theorem cd_185_109 : sm_cd 185 109 = some (.iconst 2, 1, 0, 0, 0, 0, 0, 2, 0) := cd_of gl_185 rfl
set_option maxRecDepth 20000 in
theorem cd_185_110 : sm_cd 185 110 = some (.iadd, 1, 0, 0, 0, 0, 0, 0, 0) := cd_of gl_185 rfl
set_option maxRecDepth 20000 in
theorem cd_185_111 : sm_cd 185 111 = some (.iaload, 1, 0, 0, 0, 0, 0, 0, 0) := cd_of gl_185 rfl
set_option maxRecDepth 20000 in
theorem cd_185_112 : sm_cd 185 112 = some (.if_icmp .ge 51, 3, 163, 0, 0, 0, 0, 0, 0) := cd_of gl_185 rfl
set_option maxRecDepth 20000 in
theorem cd_185_115 : sm_cd 185 115 = some (.aload_n 0, 1, 0, 0, 0, 0, 0, 0, 0) := cd_of gl_185 rfl
set_option maxRecDepth 20000 in
theorem cd_185_116 : sm_cd 185 116 = some (.getfield 47, 3, 6, 18, 2, 0, 0, 0, 0) := cd_of gl_185 rfl
set_option maxRecDepth 20000 in
theorem cd_185_119 : sm_cd 185 119 = some (.bipush 10, 2, 0, 0, 0, 0, 0, 10, 0) := cd_of gl_185 rfl
set_option maxRecDepth 20000 in
theorem cd_185_121 : sm_cd 185 121 = some (.iload_n 2, 1, 2, 0, 0, 0, 0, 0, 0) := cd_of gl_185 rfl
set_option maxRecDepth 20000 in
theorem cd_185_122 : sm_cd 185 122 = some (.imul, 1, 0, 0, 0, 0, 0, 0, 0) := cd_of gl_185 rfl
set_option maxRecDepth 20000 in
theorem cd_185_123 : sm_cd 185 123 = some (.iconst 4, 1, 0, 0, 0, 0, 0, 4, 0) := cd_of gl_185 rfl
set_option maxRecDepth 20000 in
theorem cd_185_124 : sm_cd 185 124 = some (.iadd, 1, 0, 0, 0, 0, 0, 0, 0) := cd_of gl_185 rfl
set_option maxRecDepth 20000 in
theorem cd_185_125 : sm_cd 185 125 = some (.iload_n 3, 1, 3, 0, 0, 0, 0, 0, 0) := cd_of gl_185 rfl
set_option maxRecDepth 20000 in
theorem cd_185_126 : sm_cd 185 126 = some (.iadd, 1, 0, 0, 0, 0, 0, 0, 0) := cd_of gl_185 rfl
set_option maxRecDepth 20000 in
theorem cd_185_127 : sm_cd 185 127 = some (.iaload, 1, 0, 0, 0, 0, 0, 0, 0) := cd_of gl_185 rfl
set_option maxRecDepth 20000 in
theorem cd_185_128 : sm_cd 185 128 = some (.istore 4, 2, 4, 0, 0, 0, 0, 0, 0) := cd_of gl_185 rfl
set_option maxRecDepth 20000 in
theorem cd_185_130 : sm_cd 185 130 = some (.aload_n 0, 1, 0, 0, 0, 0, 0, 0, 0) := cd_of gl_185 rfl
set_option maxRecDepth 20000 in
theorem cd_185_131 : sm_cd 185 131 = some (.iload 4, 2, 4, 0, 0, 0, 0, 0, 0) := cd_of gl_185 rfl
set_option maxRecDepth 20000 in
theorem cd_185_133 : sm_cd 185 133 = some (.iload 4, 2, 4, 0, 0, 0, 0, 0, 0) := cd_of gl_185 rfl
set_option maxRecDepth 20000 in
theorem cd_185_135 : sm_cd 185 135 = some (.aload_n 0, 1, 0, 0, 0, 0, 0, 0, 0) := cd_of gl_185 rfl
set_option maxRecDepth 20000 in
theorem cd_185_136 : sm_cd 185 136 = some (.getfield 111, 3, 6, 36, 2, 0, 0, 0, 0) := cd_of gl_185 rfl
set_option maxRecDepth 20000 in
theorem cd_185_139 : sm_cd 185 139 = some (.bipush 70, 2, 0, 0, 0, 0, 0, 70, 0) := cd_of gl_185 rfl
set_option maxRecDepth 20000 in
theorem cd_185_141 : sm_cd 185 141 = some (.bipush 8, 2, 0, 0, 0, 0, 0, 8, 0) := cd_of gl_185 rfl
set_option maxRecDepth 20000 in
theorem cd_185_143 : sm_cd 185 143 = some (.iload_n 1, 1, 1, 0, 0, 0, 0, 0, 0) := cd_of gl_185 rfl
set_option maxRecDepth 20000 in
theorem cd_185_144 : sm_cd 185 144 = some (.imul, 1, 0, 0, 0, 0, 0, 0, 0) := cd_of gl_185 rfl
set_option maxRecDepth 20000 in
theorem cd_185_145 : sm_cd 185 145 = some (.iadd, 1, 0, 0, 0, 0, 0, 0, 0) := cd_of gl_185 rfl
set_option maxRecDepth 20000 in
theorem cd_185_146 : sm_cd 185 146 = some (.iconst 2, 1, 0, 0, 0, 0, 0, 2, 0) := cd_of gl_185 rfl
set_option maxRecDepth 20000 in
theorem cd_185_147 : sm_cd 185 147 = some (.iadd, 1, 0, 0, 0, 0, 0, 0, 0) := cd_of gl_185 rfl
set_option maxRecDepth 20000 in
theorem cd_185_148 : sm_cd 185 148 = some (.iload_n 3, 1, 3, 0, 0, 0, 0, 0, 0) := cd_of gl_185 rfl
set_option maxRecDepth 20000 in
theorem cd_185_149 : sm_cd 185 149 = some (.iadd, 1, 0, 0, 0, 0, 0, 0, 0) := cd_of gl_185 rfl
set_option maxRecDepth 20000 in
theorem cd_185_150 : sm_cd 185 150 = some (.iaload, 1, 0, 0, 0, 0, 0, 0, 0) := cd_of gl_185 rfl
set_option maxRecDepth 20000 in
theorem cd_185_151 : sm_cd 185 151 = some (.invokestatic 369, 3, 186, 1, 2, 2, 6, 0, 0) := cd_of gl_185 rfl
set_option maxRecDepth 20000 in
theorem cd_185_154 : sm_cd 185 154 = some (.invokevirtual 372, 3, 187, 0, 2, 3, 6, 0, 0) := cd_of gl_185 rfl
set_option maxRecDepth 20000 in
theorem cd_185_157 : sm_cd 185 157 = some (.iinc 3 1, 3, 3, 0, 0, 0, 0, 1, 0) := cd_of gl_185 rfl
set_option maxRecDepth 20000 in
theorem cd_185_160 : sm_cd 185 160 = some (.goto (-60), 3, 100, 0, 0, 0, 0, 0, 0) := cd_of gl_185 rfl
set_option maxRecDepth 20000 in
theorem cd_185_163 : sm_cd 185 163 = some (.iinc 1 1, 3, 1, 0, 0, 0, 0, 1, 0) := cd_of gl_185 rfl
set_option maxRecDepth 20000 in
theorem cd_185_166 : sm_cd 185 166 = some (.goto (-91), 3, 75, 0, 0, 0, 0, 0, 0) := cd_of gl_185 rfl
set_option maxRecDepth 20000 in
theorem cd_185_169 : sm_cd 185 169 = some (.iconst 1, 1, 0, 0, 0, 0, 0, 1, 0) := cd_of gl_185 rfl
set_option maxRecDepth 20000 in
theorem cd_185_170 : sm_cd 185 170 = some (.istore_n 1, 1, 1, 0, 0, 0, 0, 0, 0) := cd_of gl_185 rfl
set_option maxRecDepth 20000 in
theorem cd_185_171 : sm_cd 185 171 = some (.iload_n 1, 1, 1, 0, 0, 0, 0, 0, 0) := cd_of gl_185 rfl
set_option maxRecDepth 20000 in
theorem cd_185_172 : sm_cd 185 172 = some (.ifCond .eq 82, 3, 254, 0, 0, 0, 0, 0, 0) := cd_of gl_185 rfl
set_option maxRecDepth 20000 in
theorem cd_185_175 : sm_cd 185 175 = some (.iconst 0, 1, 0, 0, 0, 0, 0, 0, 0) := cd_of gl_185 rfl
set_option maxRecDepth 20000 in
theorem cd_185_176 : sm_cd 185 176 = some (.istore_n 1, 1, 1, 0, 0, 0, 0, 0, 0) := cd_of gl_185 rfl
set_option maxRecDepth 20000 in
theorem cd_185_177 : sm_cd 185 177 = some (.iconst 1, 1, 0, 0, 0, 0, 0, 1, 0) := cd_of gl_185 rfl
set_option maxRecDepth 20000 in
theorem cd_185_178 : sm_cd 185 178 = some (.istore_n 2, 1, 2, 0, 0, 0, 0, 0, 0) := cd_of gl_185 rfl
set_option maxRecDepth 20000 in
theorem cd_185_179 : sm_cd 185 179 = some (.iload_n 2, 1, 2, 0, 0, 0, 0, 0, 0) := cd_of gl_185 rfl
set_option maxRecDepth 20000 in
theorem cd_185_180 : sm_cd 185 180 = some (.bipush 16, 2, 0, 0, 0, 0, 0, 16, 0) := cd_of gl_185 rfl
set_option maxRecDepth 20000 in
theorem cd_185_182 : sm_cd 185 182 = some (.if_icmp .gt 69, 3, 251, 0, 0, 0, 0, 0, 0) := cd_of gl_185 rfl
set_option maxRecDepth 20000 in
theorem cd_185_185 : sm_cd 185 185 = some (.aload_n 0, 1, 0, 0, 0, 0, 0, 0, 0) := cd_of gl_185 rfl
set_option maxRecDepth 20000 in
theorem cd_185_186 : sm_cd 185 186 = some (.getfield 111, 3, 6, 36, 2, 0, 0, 0, 0) := cd_of gl_185 rfl
set_option maxRecDepth 20000 in
theorem cd_185_189 : sm_cd 185 189 = some (.iload_n 2, 1, 2, 0, 0, 0, 0, 0, 0) := cd_of gl_185 rfl
set_option maxRecDepth 20000 in
theorem cd_185_190 : sm_cd 185 190 = some (.iconst 0, 1, 0, 0, 0, 0, 0, 0, 0) := cd_of gl_185 rfl
set_option maxRecDepth 20000 in
theorem cd_185_191 : sm_cd 185 191 = some (.invokestatic 366, 3, 183, 1, 2, 2, 6, 0, 0) := cd_of gl_185 rfl
set_option maxRecDepth 20000 in
theorem cd_185_194 : sm_cd 185 194 = some (.iaload, 1, 0, 0, 0, 0, 0, 0, 0) := cd_of gl_185 rfl
set_option maxRecDepth 20000 in
theorem cd_185_195 : sm_cd 185 195 = some (.iconst 2, 1, 0, 0, 0, 0, 0, 2, 0) := cd_of gl_185 rfl
set_option maxRecDepth 20000 in
theorem cd_185_196 : sm_cd 185 196 = some (.if_icmp .ne 16, 3, 212, 0, 0, 0, 0, 0, 0) := cd_of gl_185 rfl
set_option maxRecDepth 20000 in
theorem cd_185_199 : sm_cd 185 199 = some (.aload_n 0, 1, 0, 0, 0, 0, 0, 0, 0) := cd_of gl_185 rfl
set_option maxRecDepth 20000 in
theorem cd_185_200 : sm_cd 185 200 = some (.getfield 111, 3, 6, 36, 2, 0, 0, 0, 0) := cd_of gl_185 rfl
set_option maxRecDepth 20000 in
theorem cd_185_203 : sm_cd 185 203 = some (.iload_n 2, 1, 2, 0, 0, 0, 0, 0, 0) := cd_of gl_185 rfl
set_option maxRecDepth 20000 in
theorem cd_185_204 : sm_cd 185 204 = some (.iconst 2, 1, 0, 0, 0, 0, 0, 2, 0) := cd_of gl_185 rfl
set_option maxRecDepth 20000 in
theorem cd_185_205 : sm_cd 185 205 = some (.invokestatic 366, 3, 183, 1, 2, 2, 6, 0, 0) := cd_of gl_185 rfl
set_option maxRecDepth 20000 in
theorem cd_185_208 : sm_cd 185 208 = some (.iaload, 1, 0, 0, 0, 0, 0, 0, 0) := cd_of gl_185 rfl
set_option maxRecDepth 20000 in
theorem cd_185_209 : sm_cd 185 209 = some (.goto 4, 3, 213, 0, 0, 0, 0, 0, 0) := cd_of gl_185 rfl
set_option maxRecDepth 20000 in
theorem cd_185_212 : sm_cd 185 212 = some (.iconst 0, 1, 0, 0, 0, 0, 0, 0, 0) := cd_of gl_185 rfl
set_option maxRecDepth 20000 in
theorem cd_185_213 : sm_cd 185 213 = some (.istore_n 3, 1, 3, 0, 0, 0, 0, 0, 0) := cd_of gl_185 rfl
set_option maxRecDepth 20000 in
theorem cd_185_214 : sm_cd 185 214 = some (.aload_n 0, 1, 0, 0, 0, 0, 0, 0, 0) := cd_of gl_185 rfl
set_option maxRecDepth 20000 in
theorem cd_185_215 : sm_cd 185 215 = some (.getfield 126, 3, 6, 43, 2, 0, 0, 0, 0) := cd_of gl_185 rfl
set_option maxRecDepth 20000 in
theorem cd_185_218 : sm_cd 185 218 = some (.iload_n 2, 1, 2, 0, 0, 0, 0, 0, 0) := cd_of gl_185 rfl
set_option maxRecDepth 20000 in
theorem cd_185_219 : sm_cd 185 219 = some (.baload, 1, 0, 0, 0, 0, 0, 0, 0) := cd_of gl_185 rfl
set_option maxRecDepth 20000 in
theorem cd_185_220 : sm_cd 185 220 = some (.ifCond .eq 25, 3, 245, 0, 0, 0, 0, 0, 0) := cd_of gl_185 rfl
set_option maxRecDepth 20000 in
theorem cd_185_223 : sm_cd 185 223 = some (.iload_n 3, 1, 3, 0, 0, 0, 0, 0, 0) := cd_of gl_185 rfl
set_option maxRecDepth 20000 in
theorem cd_185_224 : sm_cd 185 224 = some (.ifCond .le 21, 3, 245, 0, 0, 0, 0, 0, 0) := cd_of gl_185 rfl
set_option maxRecDepth 20000 in
theorem cd_185_227 : sm_cd 185 227 = some (.aload_n 0, 1, 0, 0, 0, 0, 0, 0, 0) := cd_of gl_185 rfl
set_option maxRecDepth 20000 in
theorem cd_185_228 : sm_cd 185 228 = some (.getfield 126, 3, 6, 43, 2, 0, 0, 0, 0) := cd_of gl_185 rfl
set_option maxRecDepth 20000 in
theorem cd_185_231 : sm_cd 185 231 = some (.iload_n 3, 1, 3, 0, 0, 0, 0, 0, 0) := cd_of gl_185 rfl
set_option maxRecDepth 20000 in
theorem cd_185_232 : sm_cd 185 232 = some (.baload, 1, 0, 0, 0, 0, 0, 0, 0) := cd_of gl_185 rfl
set_option maxRecDepth 20000 in
theorem cd_185_233 : sm_cd 185 233 = some (.ifCond .ne 12, 3, 245, 0, 0, 0, 0, 0, 0) := cd_of gl_185 rfl
set_option maxRecDepth 20000 in
theorem cd_185_236 : sm_cd 185 236 = some (.aload_n 0, 1, 0, 0, 0, 0, 0, 0, 0) := cd_of gl_185 rfl
set_option maxRecDepth 20000 in
theorem cd_185_237 : sm_cd 185 237 = some (.getfield 126, 3, 6, 43, 2, 0, 0, 0, 0) := cd_of gl_185 rfl
set_option maxRecDepth 20000 in
theorem cd_185_240 : sm_cd 185 240 = some (.iload_n 3, 1, 3, 0, 0, 0, 0, 0, 0) := cd_of gl_185 rfl
set_option maxRecDepth 20000 in
theorem cd_185_241 : sm_cd 185 241 = some (.iconst 1, 1, 0, 0, 0, 0, 0, 1, 0) := cd_of gl_185 rfl
set_option maxRecDepth 20000 in
theorem cd_185_242 : sm_cd 185 242 = some (.bastore, 1, 0, 0, 0, 0, 0, 0, 0) := cd_of gl_185 rfl
set_option maxRecDepth 20000 in
theorem cd_185_243 : sm_cd 185 243 = some (.iconst 1, 1, 0, 0, 0, 0, 0, 1, 0) := cd_of gl_185 rfl
set_option maxRecDepth 20000 in
theorem cd_185_244 : sm_cd 185 244 = some (.istore_n 1, 1, 1, 0, 0, 0, 0, 0, 0) := cd_of gl_185 rfl
set_option maxRecDepth 20000 in
theorem cd_185_245 : sm_cd 185 245 = some (.iinc 2 1, 3, 2, 0, 0, 0, 0, 1, 0) := cd_of gl_185 rfl
set_option maxRecDepth 20000 in
theorem cd_185_248 : sm_cd 185 248 = some (.goto (-69), 3, 179, 0, 0, 0, 0, 0, 0) := cd_of gl_185 rfl
set_option maxRecDepth 20000 in
theorem cd_185_251 : sm_cd 185 251 = some (.goto (-80), 3, 171, 0, 0, 0, 0, 0, 0) := cd_of gl_185 rfl
set_option maxRecDepth 20000 in
theorem cd_185_254 : sm_cd 185 254 = some (.iconst 0, 1, 0, 0, 0, 0, 0, 0, 0) := cd_of gl_185 rfl
set_option maxRecDepth 20000 in
theorem cd_185_255 : sm_cd 185 255 = some (.istore_n 2, 1, 2, 0, 0, 0, 0, 0, 0) := cd_of gl_185 rfl
set_option maxRecDepth 20000 in
theorem cd_185_256 : sm_cd 185 256 = some (.iconst 1, 1, 0, 0, 0, 0, 0, 1, 0) := cd_of gl_185 rfl
set_option maxRecDepth 20000 in
theorem cd_185_257 : sm_cd 185 257 = some (.istore_n 3, 1, 3, 0, 0, 0, 0, 0, 0) := cd_of gl_185 rfl
set_option maxRecDepth 20000 in
theorem cd_185_258 : sm_cd 185 258 = some (.iload_n 3, 1, 3, 0, 0, 0, 0, 0, 0) := cd_of gl_185 rfl
set_option maxRecDepth 20000 in
theorem cd_185_259 : sm_cd 185 259 = some (.bipush 16, 2, 0, 0, 0, 0, 0, 16, 0) := cd_of gl_185 rfl
set_option maxRecDepth 20000 in
theorem cd_185_261 : sm_cd 185 261 = some (.if_icmp .gt 62, 3, 323, 0, 0, 0, 0, 0, 0) := cd_of gl_185 rfl
set_option maxRecDepth 20000 in
theorem cd_185_264 : sm_cd 185 264 = some (.aload_n 0, 1, 0, 0, 0, 0, 0, 0, 0) := cd_of gl_185 rfl
set_option maxRecDepth 20000 in
theorem cd_185_265 : sm_cd 185 265 = some (.getfield 111, 3, 6, 36, 2, 0, 0, 0, 0) := cd_of gl_185 rfl
set_option maxRecDepth 20000 in
theorem cd_185_268 : sm_cd 185 268 = some (.iload_n 3, 1, 3, 0, 0, 0, 0, 0, 0) := cd_of gl_185 rfl
set_option maxRecDepth 20000 in
theorem cd_185_269 : sm_cd 185 269 = some (.iconst 0, 1, 0, 0, 0, 0, 0, 0, 0) := cd_of gl_185 rfl
set_option maxRecDepth 20000 in
theorem cd_185_270 : sm_cd 185 270 = some (.invokestatic 366, 3, 183, 1, 2, 2, 6, 0, 0) := cd_of gl_185 rfl
set_option maxRecDepth 20000 in
theorem cd_185_273 : sm_cd 185 273 = some (.iaload, 1, 0, 0, 0, 0, 0, 0, 0) := cd_of gl_185 rfl
set_option maxRecDepth 20000 in
theorem cd_185_274 : sm_cd 185 274 = some (.ifCond .eq 43, 3, 317, 0, 0, 0, 0, 0, 0) := cd_of gl_185 rfl
set_option maxRecDepth 20000 in
theorem cd_185_277 : sm_cd 185 277 = some (.aload_n 0, 1, 0, 0, 0, 0, 0, 0, 0) := cd_of gl_185 rfl
set_option maxRecDepth 20000 in
theorem cd_185_278 : sm_cd 185 278 = some (.getfield 126, 3, 6, 43, 2, 0, 0, 0, 0) := cd_of gl_185 rfl
set_option maxRecDepth 20000 in
theorem cd_185_281 : sm_cd 185 281 = some (.iload_n 3, 1, 3, 0, 0, 0, 0, 0, 0) := cd_of gl_185 rfl
set_option maxRecDepth 20000 in
theorem cd_185_282 : sm_cd 185 282 = some (.baload, 1, 0, 0, 0, 0, 0, 0, 0) := cd_of gl_185 rfl
set_option maxRecDepth 20000 in
theorem cd_185_283 : sm_cd 185 283 = some (.ifCond .ne 34, 3, 317, 0, 0, 0, 0, 0, 0) := cd_of gl_185 rfl
set_option maxRecDepth 20000 in
theorem cd_185_286 : sm_cd 185 286 = some (.iinc 2 1, 3, 2, 0, 0, 0, 0, 1, 0) := cd_of gl_185 rfl
set_option maxRecDepth 20000 in
theorem cd_185_289 : sm_cd 185 289 = some (.iconst 0, 1, 0, 0, 0, 0, 0, 0, 0) := cd_of gl_185 rfl
set_option maxRecDepth 20000 in
theorem cd_185_290 : sm_cd 185 290 = some (.istore 4, 2, 4, 0, 0, 0, 0, 0, 0) := cd_of gl_185 rfl
set_option maxRecDepth 20000 in
theorem cd_185_292 : sm_cd 185 292 = some (.iload 4, 2, 4, 0, 0, 0, 0, 0, 0) := cd_of gl_185 rfl
set_option maxRecDepth 20000 in
theorem cd_185_294 : sm_cd 185 294 = some (.bipush 12, 2, 0, 0, 0, 0, 0, 12, 0) := cd_of gl_185 rfl
set_option maxRecDepth 20000 in
theorem cd_185_296 : sm_cd 185 296 = some (.if_icmp .ge 21, 3, 317, 0, 0, 0, 0, 0, 0) := cd_of gl_185 rfl
set_option maxRecDepth 20000 in
theorem cd_185_299 : sm_cd 185 299 = some (.aload_n 0, 1, 0, 0, 0, 0, 0, 0, 0) := cd_of gl_185 rfl
set_option maxRecDepth 20000 in
theorem cd_185_300 : sm_cd 185 300 = some (.getfield 111, 3, 6, 36, 2, 0, 0, 0, 0) := cd_of gl_185 rfl
set_option maxRecDepth 20000 in
theorem cd_185_303 : sm_cd 185 303 = some (.iload_n 3, 1, 3, 0, 0, 0, 0, 0, 0) := cd_of gl_185 rfl
set_option maxRecDepth 20000 in
theorem cd_185_304 : sm_cd 185 304 = some (.iload 4, 2, 4, 0, 0, 0, 0, 0, 0) := cd_of gl_185 rfl
set_option maxRecDepth 20000 in
theorem cd_185_306 : sm_cd 185 306 = some (.invokestatic 366, 3, 183, 1, 2, 2, 6, 0, 0) := cd_of gl_185 rfl
set_option maxRecDepth 20000 in
theorem cd_185_309 : sm_cd 185 309 = some (.iconst 0, 1, 0, 0, 0, 0, 0, 0, 0) := cd_of gl_185 rfl
set_option maxRecDepth 20000 in
theorem cd_185_310 : sm_cd 185 310 = some (.iastore, 1, 0, 0, 0, 0, 0, 0, 0) := cd_of gl_185 rfl
set_option maxRecDepth 20000 in
theorem cd_185_311 : sm_cd 185 311 = some (.iinc 4 1, 3, 4, 0, 0, 0, 0, 1, 0) := cd_of gl_185 rfl
set_option maxRecDepth 20000 in
theorem cd_185_314 : sm_cd 185 314 = some (.goto (-22), 3, 292, 0, 0, 0, 0, 0, 0) := cd_of gl_185 rfl
set_option maxRecDepth 20000 in
theorem cd_185_317 : sm_cd 185 317 = some (.iinc 3 1, 3, 3, 0, 0, 0, 0, 1, 0) := cd_of gl_185 rfl
set_option maxRecDepth 20000 in
theorem cd_185_320 : sm_cd 185 320 = some (.goto (-62), 3, 258, 0, 0, 0, 0, 0, 0) := cd_of gl_185 rfl
set_option maxRecDepth 20000 in
theorem cd_185_323 : sm_cd 185 323 = some (.aload_n 0, 1, 0, 0, 0, 0, 0, 0, 0) := cd_of gl_185 rfl
set_option maxRecDepth 20000 in
theorem cd_185_324 : sm_cd 185 324 = some (.getfield 111, 3, 6, 36, 2, 0, 0, 0, 0) := cd_of gl_185 rfl
set_option maxRecDepth 20000 in
theorem cd_185_327 : sm_cd 185 327 = some (.iconst 5, 1, 0, 0, 0, 0, 0, 5, 0) := cd_of gl_185 rfl
set_option maxRecDepth 20000 in
theorem cd_185_328 : sm_cd 185 328 = some (.dup2, 1, 0, 0, 0, 0, 0, 0, 0) := cd_of gl_185 rfl
set_option maxRecDepth 20000 in
theorem cd_185_329 : sm_cd 185 329 = some (.iaload, 1, 0, 0, 0, 0, 0, 0, 0) := cd_of gl_185 rfl
set_option maxRecDepth 20000 in
theorem cd_185_330 : sm_cd 185 330 = some (.iconst 1, 1, 0, 0, 0, 0, 0, 1, 0) := cd_of gl_185 rfl
set_option maxRecDepth 20000 in
theorem cd_185_331 : sm_cd 185 331 = some (.iadd, 1, 0, 0, 0, 0, 0, 0, 0) := cd_of gl_185 rfl
set_option maxRecDepth 20000 in
theorem cd_185_332 : sm_cd 185 332 = some (.iastore, 1, 0, 0, 0, 0, 0, 0, 0) := cd_of gl_185 rfl
set_option maxRecDepth 20000 in
theorem cd_185_333 : sm_cd 185 333 = some (.iload_n 2, 1, 2, 0, 0, 0, 0, 0, 0) := cd_of gl_185 rfl
set_option maxRecDepth 20000 in
theorem cd_185_334 : sm_cd 185 334 = some (.ireturn, 1, 0, 0, 1, 0, 0, 0, 0) := cd_of gl_185 rfl
noncomputable def f_185_317 (K : Nat → Value) (k d : Nat) (r258 : Nat → Int32 → Int32 → Int32 → aW → aI → aJ → Option aR) (l0 : Nat) (l1 : Int32) (l2 : Int32) (l3 : Int32) (w : aW) (I : aI) (J : aJ) : Option aR :=
  lt_ (l3 + 1) fun x_1 =>
  r258 l0 l1 l2 x_1 w I J
theorem ok_185_317 {K : Nat → Value} {k d : Nat} {r258 : Nat → Int32 → Int32 → Int32 → aW → aI → aJ → Option aR} (hr258 : ∀ (l0 : Nat) (l1 : Int32) (l2 : Int32) (l3 : Int32) (w : aW) (I : aI) (J : aJ) (R : aR), r258 l0 l1 l2 l3 w I J = some R → Go K (d + 1) 185 258 [some (.ref l0), some (.int l1), some (.int l2), some (.int l3), none] [] w I J R) {l0 : Nat} {l1 : Int32} {l2 : Int32} {l3 : Int32} {w : aW} {I : aI} {J : aJ} {R : aR} (h : f_185_317 K k d r258 l0 l1 l2 l3 w I J = some R) : Go K (d + 1) 185 317 [some (.ref l0), some (.int l1), some (.int l2), some (.int l3), none] [] w I J R := by
  unfold f_185_317 at h
  refine gs_0 (pc' := 320) (L' := [some (.ref l0), some (.int l1), some (.int l2), some (.int (l3 + 1)), none]) (st' := []) cd_185_317 rfl rfl ?_
  obtain ⟨x_1, hx, h⟩ := lt_s_ h
  rw [hx]
  clear hx
  refine gs_0 (pc' := 258) (L' := [some (.ref l0), some (.int l1), some (.int l2), some (.int x_1), none]) (st' := []) cd_185_320 rfl rfl ?_
  exact hr258 l0 l1 l2 x_1 _ _ _ _ h
noncomputable def f_185_292 (K : Nat → Value) (k : Nat) (d : Nat) (r258 : Nat → Int32 → Int32 → Int32 → aW → aI → aJ → Option aR) : Nat → Int32 → Int32 → Int32 → Int32 → aW → aI → aJ → Option aR :=
  match k with
  | 0 => fun _ _ _ _ _ _ _ _ => none
  | k + 1 => fun l0 l1 l2 l3 l4 w I J =>
  lt_ (f_185_292 K k d r258) fun r292 =>
  if 12 ≤ l4 then
    f_185_317 K k d r258 l0 l1 l2 l3 w I J
  else
    gO w 6 l0 (
    gV w l0 36 fun q_1 =>
    cI (Cl K d 183 [.int l3, .int l4] w I J) fun x_5 w_2 I_3 J_4 =>
    gA w_2 10 10 q_1 x_5 (
    lt_ (sm_up2 I_3 q_1 (x_5 : Int32).toNatClampNeg 0) fun I_6 =>
    lt_ (l4 + 1) fun x_7 =>
    r292 l0 l1 l2 l3 x_7 w_2 I_6 J_4))
theorem ok_185_292 {K : Nat → Value} {d : Nat} {r258 : Nat → Int32 → Int32 → Int32 → aW → aI → aJ → Option aR} (hr258 : ∀ (l0 : Nat) (l1 : Int32) (l2 : Int32) (l3 : Int32) (w : aW) (I : aI) (J : aJ) (R : aR), r258 l0 l1 l2 l3 w I J = some R → Go K (d + 1) 185 258 [some (.ref l0), some (.int l1), some (.int l2), some (.int l3), none] [] w I J R) : ∀ {k : Nat} {l0 : Nat} {l1 : Int32} {l2 : Int32} {l3 : Int32} {l4 : Int32} {w : aW} {I : aI} {J : aJ} {R : aR}, f_185_292 K k d r258 l0 l1 l2 l3 l4 w I J = some R → Go K (d + 1) 185 292 [some (.ref l0), some (.int l1), some (.int l2), some (.int l3), some (.int l4)] [] w I J R := by
  intro k
  induction k with
  | zero => intro l0 l1 l2 l3 l4 w I J R h; cases h
  | succ k ih =>
    intro l0 l1 l2 l3 l4 w I J R h
    have hr292 : ∀ (l0 : Nat) (l1 : Int32) (l2 : Int32) (l3 : Int32) (l4 : Int32) (w : aW) (I : aI) (J : aJ) (R : aR), f_185_292 K k d r258 l0 l1 l2 l3 l4 w I J = some R → Go K (d + 1) 185 292 [some (.ref l0), some (.int l1), some (.int l2), some (.int l3), some (.int l4)] [] w I J R := fun l0 l1 l2 l3 l4 w I J R h => ih h
    rw [f_185_292] at h
    obtain ⟨r292, hx, h⟩ := lt_s_ h
    rw [hx] at hr292
    clear hx ih
    refine gs_0 (pc' := 294) (L' := [some (.ref l0), some (.int l1), some (.int l2), some (.int l3), some (.int l4)]) (st' := [.int l4]) cd_185_292 rfl rfl ?_
    refine gs_0 (pc' := 296) (L' := [some (.ref l0), some (.int l1), some (.int l2), some (.int l3), some (.int l4)]) (st' := [.int 12, .int l4]) cd_185_294 rfl rfl ?_
    refine gs_0 (pc' := if 12 ≤ l4 then 317 else 299) (L' := [some (.ref l0), some (.int l1), some (.int l2), some (.int l3), some (.int l4)]) (st' := []) cd_185_296 rfl rfl ?_
    refine go_ite (fun hc => ?_) (fun hc => ?_)
    · rw [if_pos hc] at h
      refine go_drop [some (.ref l0), some (.int l1), some (.int l2), some (.int l3), none] ⟨rfl, ⟨rfl, ⟨rfl, ⟨rfl, ⟨rfl, trivial⟩⟩⟩⟩⟩ ?_
      exact ok_185_317 hr258 h
    · rw [if_neg hc] at h
      refine gs_0 (pc' := 300) (L' := [some (.ref l0), some (.int l1), some (.int l2), some (.int l3), some (.int l4)]) (st' := [.ref l0]) cd_185_299 rfl rfl ?_
      obtain ⟨ht, h⟩ := gO_s h
      obtain ⟨q_1, hv, h⟩ := gV_s h
      refine gs_gfR cd_185_300 (by decide) ht hv ?_
      refine gs_0 (pc' := 304) (L' := [some (.ref l0), some (.int l1), some (.int l2), some (.int l3), some (.int l4)]) (st' := [.int l3, .ref q_1]) cd_185_303 rfl rfl ?_
      refine gs_0 (pc' := 306) (L' := [some (.ref l0), some (.int l1), some (.int l2), some (.int l3), some (.int l4)]) (st' := [.int l4, .int l3, .ref q_1]) cd_185_304 rfl rfl ?_
      obtain ⟨x_5, w_2, I_3, J_4, hcl, h⟩ := cI_s h
      refine gs_call (as := [.int l3, .int l4]) (rest := [.ref q_1]) cd_185_306 rfl (by decide) rfl rfl (Nat.le_of_ble_eq_true rfl) (Nat.le_of_ble_eq_true rfl) rfl hcl ?_
      refine gs_0 (pc' := 310) (L' := [some (.ref l0), some (.int l1), some (.int l2), some (.int l3), some (.int l4)]) (st' := [.int 0, .int x_5, .ref q_1]) cd_185_309 rfl rfl ?_
      obtain ⟨ht, h⟩ := gA_s h
      refine gs_iast cd_185_310 ht ?_
      obtain ⟨I_6, hx, h⟩ := lt_s_ h
      rw [hx]
      refine gs_0 (pc' := 314) (L' := [some (.ref l0), some (.int l1), some (.int l2), some (.int l3), some (.int (l4 + 1))]) (st' := []) cd_185_311 rfl rfl ?_
      obtain ⟨x_7, hx, h⟩ := lt_s_ h
      rw [hx]
      clear hx
      refine gs_0 (pc' := 292) (L' := [some (.ref l0), some (.int l1), some (.int l2), some (.int l3), some (.int x_7)]) (st' := []) cd_185_314 rfl rfl ?_
      exact hr292 l0 l1 l2 l3 x_7 _ _ _ _ h
noncomputable def f_185_258 (K : Nat → Value) (k : Nat) (d : Nat) : Nat → Int32 → Int32 → Int32 → aW → aI → aJ → Option aR :=
  match k with
  | 0 => fun _ _ _ _ _ _ _ => none
  | k + 1 => fun l0 l1 l2 l3 w I J =>
  lt_ (f_185_258 K k d) fun r258 =>
  if 16 < l3 then
    gO w 6 l0 (
    gV w l0 36 fun q_1 =>
    gA w 10 20 q_1 5 (
    gA w 10 10 q_1 5 (
    lt_ (sm_up2 I q_1 (5 : Int32).toNatClampNeg ((I q_1 (5 : Int32).toNatClampNeg) + 1)) fun I_2 =>
    some (some (.int l2), w, I_2, J))))
  else
    gO w 6 l0 (
    gV w l0 36 fun q_3 =>
    cI (Cl K d 183 [.int l3, .int 0] w I J) fun x_7 w_4 I_5 J_6 =>
    gA w_4 10 20 q_3 x_7 (
    if (I_5 q_3 (x_7 : Int32).toNatClampNeg) = 0 then
      f_185_317 K k d r258 l0 l1 l2 l3 w_4 I_5 J_6
    else
      gO w_4 6 l0 (
      gV w_4 l0 43 fun q_8 =>
      gA w_4 12 21 q_8 l3 (
      if ¬ (I_5 q_8 (l3 : Int32).toNatClampNeg) = 0 then
        f_185_317 K k d r258 l0 l1 l2 l3 w_4 I_5 J_6
      else
        lt_ (l2 + 1) fun x_9 =>
        f_185_292 K k d r258 l0 l1 x_9 l3 0 w_4 I_5 J_6))))
theorem ok_185_258 {K : Nat → Value} {d : Nat} : ∀ {k : Nat} {l0 : Nat} {l1 : Int32} {l2 : Int32} {l3 : Int32} {w : aW} {I : aI} {J : aJ} {R : aR}, f_185_258 K k d l0 l1 l2 l3 w I J = some R → Go K (d + 1) 185 258 [some (.ref l0), some (.int l1), some (.int l2), some (.int l3), none] [] w I J R := by
  intro k
  induction k with
  | zero => intro l0 l1 l2 l3 w I J R h; cases h
  | succ k ih =>
    intro l0 l1 l2 l3 w I J R h
    have hr258 : ∀ (l0 : Nat) (l1 : Int32) (l2 : Int32) (l3 : Int32) (w : aW) (I : aI) (J : aJ) (R : aR), f_185_258 K k d l0 l1 l2 l3 w I J = some R → Go K (d + 1) 185 258 [some (.ref l0), some (.int l1), some (.int l2), some (.int l3), none] [] w I J R := fun l0 l1 l2 l3 w I J R h => ih h
    rw [f_185_258] at h
    obtain ⟨r258, hx, h⟩ := lt_s_ h
    rw [hx] at hr258
    clear hx ih
    refine gs_0 (pc' := 259) (L' := [some (.ref l0), some (.int l1), some (.int l2), some (.int l3), none]) (st' := [.int l3]) cd_185_258 rfl rfl ?_
    refine gs_0 (pc' := 261) (L' := [some (.ref l0), some (.int l1), some (.int l2), some (.int l3), none]) (st' := [.int 16, .int l3]) cd_185_259 rfl rfl ?_
    refine gs_0 (pc' := if 16 < l3 then 323 else 264) (L' := [some (.ref l0), some (.int l1), some (.int l2), some (.int l3), none]) (st' := []) cd_185_261 rfl rfl ?_
    refine go_ite (fun hc => ?_) (fun hc => ?_)
    · rw [if_pos hc] at h
      refine gs_0 (pc' := 324) (L' := [some (.ref l0), some (.int l1), some (.int l2), some (.int l3), none]) (st' := [.ref l0]) cd_185_323 rfl rfl ?_
      obtain ⟨ht, h⟩ := gO_s h
      obtain ⟨q_1, hv, h⟩ := gV_s h
      refine gs_gfR cd_185_324 (by decide) ht hv ?_
      refine gs_0 (pc' := 328) (L' := [some (.ref l0), some (.int l1), some (.int l2), some (.int l3), none]) (st' := [.int 5, .ref q_1]) cd_185_327 rfl rfl ?_
      refine gs_0 (pc' := 329) (L' := [some (.ref l0), some (.int l1), some (.int l2), some (.int l3), none]) (st' := [.int 5, .ref q_1, .int 5, .ref q_1]) cd_185_328 rfl rfl ?_
      obtain ⟨ht, h⟩ := gA_s h
      refine gs_iald cd_185_329 ht ?_
      refine gs_0 (pc' := 331) (L' := [some (.ref l0), some (.int l1), some (.int l2), some (.int l3), none]) (st' := [.int 1, .int (I q_1 (5 : Int32).toNatClampNeg), .int 5, .ref q_1]) cd_185_330 rfl rfl ?_
      refine gs_0 (pc' := 332) (L' := [some (.ref l0), some (.int l1), some (.int l2), some (.int l3), none]) (st' := [.int ((I q_1 (5 : Int32).toNatClampNeg) + 1), .int 5, .ref q_1]) cd_185_331 rfl rfl ?_
      obtain ⟨ht, h⟩ := gA_s h
      refine gs_iast cd_185_332 ht ?_
      obtain ⟨I_2, hx, h⟩ := lt_s_ h
      rw [hx]
      refine gs_0 (pc' := 334) (L' := [some (.ref l0), some (.int l1), some (.int l2), some (.int l3), none]) (st' := [.int l2]) cd_185_333 rfl rfl ?_
      cases h
      exact gs_ri cd_185_334 (Or.inl rfl)
    · rw [if_neg hc] at h
      refine gs_0 (pc' := 265) (L' := [some (.ref l0), some (.int l1), some (.int l2), some (.int l3), none]) (st' := [.ref l0]) cd_185_264 rfl rfl ?_
      obtain ⟨ht, h⟩ := gO_s h
      obtain ⟨q_3, hv, h⟩ := gV_s h
      refine gs_gfR cd_185_265 (by decide) ht hv ?_
      refine gs_0 (pc' := 269) (L' := [some (.ref l0), some (.int l1), some (.int l2), some (.int l3), none]) (st' := [.int l3, .ref q_3]) cd_185_268 rfl rfl ?_
      refine gs_0 (pc' := 270) (L' := [some (.ref l0), some (.int l1), some (.int l2), some (.int l3), none]) (st' := [.int 0, .int l3, .ref q_3]) cd_185_269 rfl rfl ?_
      obtain ⟨x_7, w_4, I_5, J_6, hcl, h⟩ := cI_s h
      refine gs_call (as := [.int l3, .int 0]) (rest := [.ref q_3]) cd_185_270 rfl (by decide) rfl rfl (Nat.le_of_ble_eq_true rfl) (Nat.le_of_ble_eq_true rfl) rfl hcl ?_
      obtain ⟨ht, h⟩ := gA_s h
      refine gs_iald cd_185_273 ht ?_
      refine gs_0 (pc' := if (I_5 q_3 (x_7 : Int32).toNatClampNeg) = 0 then 317 else 277) (L' := [some (.ref l0), some (.int l1), some (.int l2), some (.int l3), none]) (st' := []) cd_185_274 rfl rfl ?_
      refine go_ite (fun hc => ?_) (fun hc => ?_)
      · rw [if_pos hc] at h
        exact ok_185_317 hr258 h
      · rw [if_neg hc] at h
        refine gs_0 (pc' := 278) (L' := [some (.ref l0), some (.int l1), some (.int l2), some (.int l3), none]) (st' := [.ref l0]) cd_185_277 rfl rfl ?_
        obtain ⟨ht, h⟩ := gO_s h
        obtain ⟨q_8, hv, h⟩ := gV_s h
        refine gs_gfR cd_185_278 (by decide) ht hv ?_
        refine gs_0 (pc' := 282) (L' := [some (.ref l0), some (.int l1), some (.int l2), some (.int l3), none]) (st' := [.int l3, .ref q_8]) cd_185_281 rfl rfl ?_
        obtain ⟨ht, h⟩ := gA_s h
        refine gs_bald cd_185_282 ht ?_
        refine gs_0 (pc' := if ¬ (I_5 q_8 (l3 : Int32).toNatClampNeg) = 0 then 317 else 286) (L' := [some (.ref l0), some (.int l1), some (.int l2), some (.int l3), none]) (st' := []) cd_185_283 rfl rfl ?_
        refine go_ite (fun hc => ?_) (fun hc => ?_)
        · rw [if_pos hc] at h
          exact ok_185_317 hr258 h
        · rw [if_neg hc] at h
          refine gs_0 (pc' := 289) (L' := [some (.ref l0), some (.int l1), some (.int (l2 + 1)), some (.int l3), none]) (st' := []) cd_185_286 rfl rfl ?_
          obtain ⟨x_9, hx, h⟩ := lt_s_ h
          rw [hx]
          clear hx
          refine gs_0 (pc' := 290) (L' := [some (.ref l0), some (.int l1), some (.int x_9), some (.int l3), none]) (st' := [.int 0]) cd_185_289 rfl rfl ?_
          refine gs_0 (pc' := 292) (L' := [some (.ref l0), some (.int l1), some (.int x_9), some (.int l3), some (.int 0)]) (st' := []) cd_185_290 rfl rfl ?_
          exact ok_185_292 hr258 h
noncomputable def f_185_245 (K : Nat → Value) (k d : Nat) (r171 : Nat → Int32 → aW → aI → aJ → Option aR) (r179 : Nat → Int32 → Int32 → aW → aI → aJ → Option aR) (l0 : Nat) (l1 : Int32) (l2 : Int32) (l3 : Int32) (w : aW) (I : aI) (J : aJ) : Option aR :=
  lt_ (l2 + 1) fun x_1 =>
  r179 l0 l1 x_1 w I J
theorem ok_185_245 {K : Nat → Value} {k d : Nat} {r171 : Nat → Int32 → aW → aI → aJ → Option aR} {r179 : Nat → Int32 → Int32 → aW → aI → aJ → Option aR} (hr171 : ∀ (l0 : Nat) (l1 : Int32) (w : aW) (I : aI) (J : aJ) (R : aR), r171 l0 l1 w I J = some R → Go K (d + 1) 185 171 [some (.ref l0), some (.int l1), none, none, none] [] w I J R) (hr179 : ∀ (l0 : Nat) (l1 : Int32) (l2 : Int32) (w : aW) (I : aI) (J : aJ) (R : aR), r179 l0 l1 l2 w I J = some R → Go K (d + 1) 185 179 [some (.ref l0), some (.int l1), some (.int l2), none, none] [] w I J R) {l0 : Nat} {l1 : Int32} {l2 : Int32} {l3 : Int32} {w : aW} {I : aI} {J : aJ} {R : aR} (h : f_185_245 K k d r171 r179 l0 l1 l2 l3 w I J = some R) : Go K (d + 1) 185 245 [some (.ref l0), some (.int l1), some (.int l2), some (.int l3), none] [] w I J R := by
  unfold f_185_245 at h
  refine gs_0 (pc' := 248) (L' := [some (.ref l0), some (.int l1), some (.int (l2 + 1)), some (.int l3), none]) (st' := []) cd_185_245 rfl rfl ?_
  obtain ⟨x_1, hx, h⟩ := lt_s_ h
  rw [hx]
  clear hx
  refine gs_0 (pc' := 179) (L' := [some (.ref l0), some (.int l1), some (.int x_1), some (.int l3), none]) (st' := []) cd_185_248 rfl rfl ?_
  refine go_drop [some (.ref l0), some (.int l1), some (.int x_1), none, none] ⟨rfl, ⟨rfl, ⟨rfl, ⟨rfl, trivial⟩⟩⟩⟩ ?_
  exact hr179 l0 l1 x_1 _ _ _ _ h
noncomputable def f_185_213 (K : Nat → Value) (k d : Nat) (r171 : Nat → Int32 → aW → aI → aJ → Option aR) (r179 : Nat → Int32 → Int32 → aW → aI → aJ → Option aR) (l0 : Nat) (l1 : Int32) (l2 : Int32) (s0 : Int32) (w : aW) (I : aI) (J : aJ) : Option aR :=
  gO w 6 l0 (
  gV w l0 43 fun q_1 =>
  gA w 12 21 q_1 l2 (
  if (I q_1 (l2 : Int32).toNatClampNeg) = 0 then
    f_185_245 K k d r171 r179 l0 l1 l2 s0 w I J
  else
    if s0 ≤ 0 then
      f_185_245 K k d r171 r179 l0 l1 l2 s0 w I J
    else
      gO w 6 l0 (
      gV w l0 43 fun q_2 =>
      gA w 12 21 q_2 s0 (
      if ¬ (I q_2 (s0 : Int32).toNatClampNeg) = 0 then
        f_185_245 K k d r171 r179 l0 l1 l2 s0 w I J
      else
        gO w 6 l0 (
        gV w l0 43 fun q_3 =>
        gA w 12 12 q_3 s0 (
        lt_ (sm_up2 I q_3 (s0 : Int32).toNatClampNeg 1) fun I_4 =>
        f_185_245 K k d r171 r179 l0 1 l2 s0 w I_4 J))))))
theorem ok_185_213 {K : Nat → Value} {k d : Nat} {r171 : Nat → Int32 → aW → aI → aJ → Option aR} {r179 : Nat → Int32 → Int32 → aW → aI → aJ → Option aR} (hr171 : ∀ (l0 : Nat) (l1 : Int32) (w : aW) (I : aI) (J : aJ) (R : aR), r171 l0 l1 w I J = some R → Go K (d + 1) 185 171 [some (.ref l0), some (.int l1), none, none, none] [] w I J R) (hr179 : ∀ (l0 : Nat) (l1 : Int32) (l2 : Int32) (w : aW) (I : aI) (J : aJ) (R : aR), r179 l0 l1 l2 w I J = some R → Go K (d + 1) 185 179 [some (.ref l0), some (.int l1), some (.int l2), none, none] [] w I J R) {l0 : Nat} {l1 : Int32} {l2 : Int32} {s0 : Int32} {w : aW} {I : aI} {J : aJ} {R : aR} (h : f_185_213 K k d r171 r179 l0 l1 l2 s0 w I J = some R) : Go K (d + 1) 185 213 [some (.ref l0), some (.int l1), some (.int l2), none, none] [.int s0] w I J R := by
  unfold f_185_213 at h
  refine gs_0 (pc' := 214) (L' := [some (.ref l0), some (.int l1), some (.int l2), some (.int s0), none]) (st' := []) cd_185_213 rfl rfl ?_
  refine gs_0 (pc' := 215) (L' := [some (.ref l0), some (.int l1), some (.int l2), some (.int s0), none]) (st' := [.ref l0]) cd_185_214 rfl rfl ?_
  obtain ⟨ht, h⟩ := gO_s h
  obtain ⟨q_1, hv, h⟩ := gV_s h
  refine gs_gfR cd_185_215 (by decide) ht hv ?_
  refine gs_0 (pc' := 219) (L' := [some (.ref l0), some (.int l1), some (.int l2), some (.int s0), none]) (st' := [.int l2, .ref q_1]) cd_185_218 rfl rfl ?_
  obtain ⟨ht, h⟩ := gA_s h
  refine gs_bald cd_185_219 ht ?_
  refine gs_0 (pc' := if (I q_1 (l2 : Int32).toNatClampNeg) = 0 then 245 else 223) (L' := [some (.ref l0), some (.int l1), some (.int l2), some (.int s0), none]) (st' := []) cd_185_220 rfl rfl ?_
  refine go_ite (fun hc => ?_) (fun hc => ?_)
  · rw [if_pos hc] at h
    exact ok_185_245 hr171 hr179 h
  · rw [if_neg hc] at h
    refine gs_0 (pc' := 224) (L' := [some (.ref l0), some (.int l1), some (.int l2), some (.int s0), none]) (st' := [.int s0]) cd_185_223 rfl rfl ?_
    refine gs_0 (pc' := if s0 ≤ 0 then 245 else 227) (L' := [some (.ref l0), some (.int l1), some (.int l2), some (.int s0), none]) (st' := []) cd_185_224 rfl rfl ?_
    refine go_ite (fun hc => ?_) (fun hc => ?_)
    · rw [if_pos hc] at h
      exact ok_185_245 hr171 hr179 h
    · rw [if_neg hc] at h
      refine gs_0 (pc' := 228) (L' := [some (.ref l0), some (.int l1), some (.int l2), some (.int s0), none]) (st' := [.ref l0]) cd_185_227 rfl rfl ?_
      obtain ⟨ht, h⟩ := gO_s h
      obtain ⟨q_2, hv, h⟩ := gV_s h
      refine gs_gfR cd_185_228 (by decide) ht hv ?_
      refine gs_0 (pc' := 232) (L' := [some (.ref l0), some (.int l1), some (.int l2), some (.int s0), none]) (st' := [.int s0, .ref q_2]) cd_185_231 rfl rfl ?_
      obtain ⟨ht, h⟩ := gA_s h
      refine gs_bald cd_185_232 ht ?_
      refine gs_0 (pc' := if ¬ (I q_2 (s0 : Int32).toNatClampNeg) = 0 then 245 else 236) (L' := [some (.ref l0), some (.int l1), some (.int l2), some (.int s0), none]) (st' := []) cd_185_233 rfl rfl ?_
      refine go_ite (fun hc => ?_) (fun hc => ?_)
      · rw [if_pos hc] at h
        exact ok_185_245 hr171 hr179 h
      · rw [if_neg hc] at h
        refine gs_0 (pc' := 237) (L' := [some (.ref l0), some (.int l1), some (.int l2), some (.int s0), none]) (st' := [.ref l0]) cd_185_236 rfl rfl ?_
        obtain ⟨ht, h⟩ := gO_s h
        obtain ⟨q_3, hv, h⟩ := gV_s h
        refine gs_gfR cd_185_237 (by decide) ht hv ?_
        refine gs_0 (pc' := 241) (L' := [some (.ref l0), some (.int l1), some (.int l2), some (.int s0), none]) (st' := [.int s0, .ref q_3]) cd_185_240 rfl rfl ?_
        refine gs_0 (pc' := 242) (L' := [some (.ref l0), some (.int l1), some (.int l2), some (.int s0), none]) (st' := [.int 1, .int s0, .ref q_3]) cd_185_241 rfl rfl ?_
        obtain ⟨ht, h⟩ := gA_s h
        refine gs_zast cd_185_242 (Or.inr rfl) ht ?_
        obtain ⟨I_4, hx, h⟩ := lt_s_ h
        rw [hx]
        refine gs_0 (pc' := 244) (L' := [some (.ref l0), some (.int l1), some (.int l2), some (.int s0), none]) (st' := [.int 1]) cd_185_243 rfl rfl ?_
        refine gs_0 (pc' := 245) (L' := [some (.ref l0), some (.int 1), some (.int l2), some (.int s0), none]) (st' := []) cd_185_244 rfl rfl ?_
        exact ok_185_245 hr171 hr179 h
noncomputable def f_185_179 (K : Nat → Value) (k : Nat) (d : Nat) (r171 : Nat → Int32 → aW → aI → aJ → Option aR) : Nat → Int32 → Int32 → aW → aI → aJ → Option aR :=
  match k with
  | 0 => fun _ _ _ _ _ _ => none
  | k + 1 => fun l0 l1 l2 w I J =>
  lt_ (f_185_179 K k d r171) fun r179 =>
  if 16 < l2 then
    r171 l0 l1 w I J
  else
    gO w 6 l0 (
    gV w l0 36 fun q_1 =>
    cI (Cl K d 183 [.int l2, .int 0] w I J) fun x_5 w_2 I_3 J_4 =>
    gA w_2 10 20 q_1 x_5 (
    if ¬ (I_3 q_1 (x_5 : Int32).toNatClampNeg) = 2 then
      f_185_213 K k d r171 r179 l0 l1 l2 0 w_2 I_3 J_4
    else
      gO w_2 6 l0 (
      gV w_2 l0 36 fun q_6 =>
      cI (Cl K d 183 [.int l2, .int 2] w_2 I_3 J_4) fun x_10 w_7 I_8 J_9 =>
      gA w_7 10 20 q_6 x_10 (
      f_185_213 K k d r171 r179 l0 l1 l2 (I_8 q_6 (x_10 : Int32).toNatClampNeg) w_7 I_8 J_9))))
theorem ok_185_179 {K : Nat → Value} {d : Nat} {r171 : Nat → Int32 → aW → aI → aJ → Option aR} (hr171 : ∀ (l0 : Nat) (l1 : Int32) (w : aW) (I : aI) (J : aJ) (R : aR), r171 l0 l1 w I J = some R → Go K (d + 1) 185 171 [some (.ref l0), some (.int l1), none, none, none] [] w I J R) : ∀ {k : Nat} {l0 : Nat} {l1 : Int32} {l2 : Int32} {w : aW} {I : aI} {J : aJ} {R : aR}, f_185_179 K k d r171 l0 l1 l2 w I J = some R → Go K (d + 1) 185 179 [some (.ref l0), some (.int l1), some (.int l2), none, none] [] w I J R := by
  intro k
  induction k with
  | zero => intro l0 l1 l2 w I J R h; cases h
  | succ k ih =>
    intro l0 l1 l2 w I J R h
    have hr179 : ∀ (l0 : Nat) (l1 : Int32) (l2 : Int32) (w : aW) (I : aI) (J : aJ) (R : aR), f_185_179 K k d r171 l0 l1 l2 w I J = some R → Go K (d + 1) 185 179 [some (.ref l0), some (.int l1), some (.int l2), none, none] [] w I J R := fun l0 l1 l2 w I J R h => ih h
    rw [f_185_179] at h
    obtain ⟨r179, hx, h⟩ := lt_s_ h
    rw [hx] at hr179
    clear hx ih
    refine gs_0 (pc' := 180) (L' := [some (.ref l0), some (.int l1), some (.int l2), none, none]) (st' := [.int l2]) cd_185_179 rfl rfl ?_
    refine gs_0 (pc' := 182) (L' := [some (.ref l0), some (.int l1), some (.int l2), none, none]) (st' := [.int 16, .int l2]) cd_185_180 rfl rfl ?_
    refine gs_0 (pc' := if 16 < l2 then 251 else 185) (L' := [some (.ref l0), some (.int l1), some (.int l2), none, none]) (st' := []) cd_185_182 rfl rfl ?_
    refine go_ite (fun hc => ?_) (fun hc => ?_)
    · rw [if_pos hc] at h
      refine gs_0 (pc' := 171) (L' := [some (.ref l0), some (.int l1), some (.int l2), none, none]) (st' := []) cd_185_251 rfl rfl ?_
      refine go_drop [some (.ref l0), some (.int l1), none, none, none] ⟨rfl, ⟨rfl, ⟨rfl, trivial⟩⟩⟩ ?_
      exact hr171 l0 l1 _ _ _ _ h
    · rw [if_neg hc] at h
      refine gs_0 (pc' := 186) (L' := [some (.ref l0), some (.int l1), some (.int l2), none, none]) (st' := [.ref l0]) cd_185_185 rfl rfl ?_
      obtain ⟨ht, h⟩ := gO_s h
      obtain ⟨q_1, hv, h⟩ := gV_s h
      refine gs_gfR cd_185_186 (by decide) ht hv ?_
      refine gs_0 (pc' := 190) (L' := [some (.ref l0), some (.int l1), some (.int l2), none, none]) (st' := [.int l2, .ref q_1]) cd_185_189 rfl rfl ?_
      refine gs_0 (pc' := 191) (L' := [some (.ref l0), some (.int l1), some (.int l2), none, none]) (st' := [.int 0, .int l2, .ref q_1]) cd_185_190 rfl rfl ?_
      obtain ⟨x_5, w_2, I_3, J_4, hcl, h⟩ := cI_s h
      refine gs_call (as := [.int l2, .int 0]) (rest := [.ref q_1]) cd_185_191 rfl (by decide) rfl rfl (Nat.le_of_ble_eq_true rfl) (Nat.le_of_ble_eq_true rfl) rfl hcl ?_
      obtain ⟨ht, h⟩ := gA_s h
      refine gs_iald cd_185_194 ht ?_
      refine gs_0 (pc' := 196) (L' := [some (.ref l0), some (.int l1), some (.int l2), none, none]) (st' := [.int 2, .int (I_3 q_1 (x_5 : Int32).toNatClampNeg)]) cd_185_195 rfl rfl ?_
      refine gs_0 (pc' := if ¬ (I_3 q_1 (x_5 : Int32).toNatClampNeg) = 2 then 212 else 199) (L' := [some (.ref l0), some (.int l1), some (.int l2), none, none]) (st' := []) cd_185_196 rfl rfl ?_
      refine go_ite (fun hc => ?_) (fun hc => ?_)
      · rw [if_pos hc] at h
        refine gs_0 (pc' := 213) (L' := [some (.ref l0), some (.int l1), some (.int l2), none, none]) (st' := [.int 0]) cd_185_212 rfl rfl ?_
        exact ok_185_213 hr171 hr179 h
      · rw [if_neg hc] at h
        refine gs_0 (pc' := 200) (L' := [some (.ref l0), some (.int l1), some (.int l2), none, none]) (st' := [.ref l0]) cd_185_199 rfl rfl ?_
        obtain ⟨ht, h⟩ := gO_s h
        obtain ⟨q_6, hv, h⟩ := gV_s h
        refine gs_gfR cd_185_200 (by decide) ht hv ?_
        refine gs_0 (pc' := 204) (L' := [some (.ref l0), some (.int l1), some (.int l2), none, none]) (st' := [.int l2, .ref q_6]) cd_185_203 rfl rfl ?_
        refine gs_0 (pc' := 205) (L' := [some (.ref l0), some (.int l1), some (.int l2), none, none]) (st' := [.int 2, .int l2, .ref q_6]) cd_185_204 rfl rfl ?_
        obtain ⟨x_10, w_7, I_8, J_9, hcl, h⟩ := cI_s h
        refine gs_call (as := [.int l2, .int 2]) (rest := [.ref q_6]) cd_185_205 rfl (by decide) rfl rfl (Nat.le_of_ble_eq_true rfl) (Nat.le_of_ble_eq_true rfl) rfl hcl ?_
        obtain ⟨ht, h⟩ := gA_s h
        refine gs_iald cd_185_208 ht ?_
        refine gs_0 (pc' := 213) (L' := [some (.ref l0), some (.int l1), some (.int l2), none, none]) (st' := [.int (I_8 q_6 (x_10 : Int32).toNatClampNeg)]) cd_185_209 rfl rfl ?_
        exact ok_185_213 hr171 hr179 h
noncomputable def f_185_171 (K : Nat → Value) (k : Nat) (d : Nat) : Nat → Int32 → aW → aI → aJ → Option aR :=
  match k with
  | 0 => fun _ _ _ _ _ => none
  | k + 1 => fun l0 l1 w I J =>
  lt_ (f_185_171 K k d) fun r171 =>
  if l1 = 0 then
    f_185_258 K k d l0 l1 0 1 w I J
  else
    f_185_179 K k d r171 l0 0 1 w I J
theorem ok_185_171 {K : Nat → Value} {d : Nat} : ∀ {k : Nat} {l0 : Nat} {l1 : Int32} {w : aW} {I : aI} {J : aJ} {R : aR}, f_185_171 K k d l0 l1 w I J = some R → Go K (d + 1) 185 171 [some (.ref l0), some (.int l1), none, none, none] [] w I J R := by
  intro k
  induction k with
  | zero => intro l0 l1 w I J R h; cases h
  | succ k ih =>
    intro l0 l1 w I J R h
    have hr171 : ∀ (l0 : Nat) (l1 : Int32) (w : aW) (I : aI) (J : aJ) (R : aR), f_185_171 K k d l0 l1 w I J = some R → Go K (d + 1) 185 171 [some (.ref l0), some (.int l1), none, none, none] [] w I J R := fun l0 l1 w I J R h => ih h
    rw [f_185_171] at h
    obtain ⟨r171, hx, h⟩ := lt_s_ h
    rw [hx] at hr171
    clear hx ih
    refine gs_0 (pc' := 172) (L' := [some (.ref l0), some (.int l1), none, none, none]) (st' := [.int l1]) cd_185_171 rfl rfl ?_
    refine gs_0 (pc' := if l1 = 0 then 254 else 175) (L' := [some (.ref l0), some (.int l1), none, none, none]) (st' := []) cd_185_172 rfl rfl ?_
    refine go_ite (fun hc => ?_) (fun hc => ?_)
    · rw [if_pos hc] at h
      refine gs_0 (pc' := 255) (L' := [some (.ref l0), some (.int l1), none, none, none]) (st' := [.int 0]) cd_185_254 rfl rfl ?_
      refine gs_0 (pc' := 256) (L' := [some (.ref l0), some (.int l1), some (.int 0), none, none]) (st' := []) cd_185_255 rfl rfl ?_
      refine gs_0 (pc' := 257) (L' := [some (.ref l0), some (.int l1), some (.int 0), none, none]) (st' := [.int 1]) cd_185_256 rfl rfl ?_
      refine gs_0 (pc' := 258) (L' := [some (.ref l0), some (.int l1), some (.int 0), some (.int 1), none]) (st' := []) cd_185_257 rfl rfl ?_
      exact ok_185_258 h
    · rw [if_neg hc] at h
      refine gs_0 (pc' := 176) (L' := [some (.ref l0), some (.int l1), none, none, none]) (st' := [.int 0]) cd_185_175 rfl rfl ?_
      refine gs_0 (pc' := 177) (L' := [some (.ref l0), some (.int 0), none, none, none]) (st' := []) cd_185_176 rfl rfl ?_
      refine gs_0 (pc' := 178) (L' := [some (.ref l0), some (.int 0), none, none, none]) (st' := [.int 1]) cd_185_177 rfl rfl ?_
      refine gs_0 (pc' := 179) (L' := [some (.ref l0), some (.int 0), some (.int 1), none, none]) (st' := []) cd_185_178 rfl rfl ?_
      exact ok_185_179 hr171 h
noncomputable def f_185_100 (K : Nat → Value) (k : Nat) (d : Nat) (r75 : Nat → Int32 → aW → aI → aJ → Option aR) : Nat → Int32 → Int32 → Int32 → aW → aI → aJ → Option aR :=
  match k with
  | 0 => fun _ _ _ _ _ _ _ => none
  | k + 1 => fun l0 l1 l2 l3 w I J =>
  lt_ (f_185_100 K k d r75) fun r100 =>
  gO w 6 l0 (
  gV w l0 18 fun q_1 =>
  gA w 10 20 q_1 ((10 * l2) + 2) (
  if (I q_1 ((10 * l2) + 2 : Int32).toNatClampNeg) ≤ l3 then
    lt_ (l1 + 1) fun x_2 =>
    r75 l0 x_2 w I J
  else
    gO w 6 l0 (
    gV w l0 18 fun q_3 =>
    gA w 10 20 q_3 (((10 * l2) + 4) + l3) (
    lt_ (I q_3 (((10 * l2) + 4) + l3 : Int32).toNatClampNeg) fun x_4 =>
    gO w 6 l0 (
    gV w l0 36 fun q_5 =>
    gA w 10 20 q_5 (((70 + (8 * l1)) + 2) + l3) (
    cI (Cl K d 186 [.int x_4, .int (I q_5 (((70 + (8 * l1)) + 2) + l3 : Int32).toNatClampNeg)] w I J) fun x_9 w_6 I_7 J_8 =>
    gO w_6 6 l0 (
    cV (Cl K d 187 [.ref l0, .int x_4, .int x_9] w_6 I_7 J_8) fun w_10 I_11 J_12 =>
    lt_ (l3 + 1) fun x_13 =>
    r100 l0 l1 l2 x_13 w_10 I_11 J_12)))))))
theorem ok_185_100 {K : Nat → Value} {d : Nat} {r75 : Nat → Int32 → aW → aI → aJ → Option aR} (hr75 : ∀ (l0 : Nat) (l1 : Int32) (w : aW) (I : aI) (J : aJ) (R : aR), r75 l0 l1 w I J = some R → Go K (d + 1) 185 75 [some (.ref l0), some (.int l1), none, none, none] [] w I J R) : ∀ {k : Nat} {l0 : Nat} {l1 : Int32} {l2 : Int32} {l3 : Int32} {w : aW} {I : aI} {J : aJ} {R : aR}, f_185_100 K k d r75 l0 l1 l2 l3 w I J = some R → Go K (d + 1) 185 100 [some (.ref l0), some (.int l1), some (.int l2), some (.int l3), none] [] w I J R := by
  intro k
  induction k with
  | zero => intro l0 l1 l2 l3 w I J R h; cases h
  | succ k ih =>
    intro l0 l1 l2 l3 w I J R h
    have hr100 : ∀ (l0 : Nat) (l1 : Int32) (l2 : Int32) (l3 : Int32) (w : aW) (I : aI) (J : aJ) (R : aR), f_185_100 K k d r75 l0 l1 l2 l3 w I J = some R → Go K (d + 1) 185 100 [some (.ref l0), some (.int l1), some (.int l2), some (.int l3), none] [] w I J R := fun l0 l1 l2 l3 w I J R h => ih h
    rw [f_185_100] at h
    obtain ⟨r100, hx, h⟩ := lt_s_ h
    rw [hx] at hr100
    clear hx ih
    refine gs_0 (pc' := 101) (L' := [some (.ref l0), some (.int l1), some (.int l2), some (.int l3), none]) (st' := [.int l3]) cd_185_100 rfl rfl ?_
    refine gs_0 (pc' := 102) (L' := [some (.ref l0), some (.int l1), some (.int l2), some (.int l3), none]) (st' := [.ref l0, .int l3]) cd_185_101 rfl rfl ?_
    obtain ⟨ht, h⟩ := gO_s h
    obtain ⟨q_1, hv, h⟩ := gV_s h
    refine gs_gfR cd_185_102 (by decide) ht hv ?_
    refine gs_0 (pc' := 107) (L' := [some (.ref l0), some (.int l1), some (.int l2), some (.int l3), none]) (st' := [.int 10, .ref q_1, .int l3]) cd_185_105 rfl rfl ?_
    refine gs_0 (pc' := 108) (L' := [some (.ref l0), some (.int l1), some (.int l2), some (.int l3), none]) (st' := [.int l2, .int 10, .ref q_1, .int l3]) cd_185_107 rfl rfl ?_
    refine gs_0 (pc' := 109) (L' := [some (.ref l0), some (.int l1), some (.int l2), some (.int l3), none]) (st' := [.int (10 * l2), .ref q_1, .int l3]) cd_185_108 rfl rfl ?_
    refine gs_0 (pc' := 110) (L' := [some (.ref l0), some (.int l1), some (.int l2), some (.int l3), none]) (st' := [.int 2, .int (10 * l2), .ref q_1, .int l3]) cd_185_109 rfl rfl ?_
    refine gs_0 (pc' := 111) (L' := [some (.ref l0), some (.int l1), some (.int l2), some (.int l3), none]) (st' := [.int ((10 * l2) + 2), .ref q_1, .int l3]) cd_185_110 rfl rfl ?_
    obtain ⟨ht, h⟩ := gA_s h
    refine gs_iald cd_185_111 ht ?_
    refine gs_0 (pc' := if (I q_1 ((10 * l2) + 2 : Int32).toNatClampNeg) ≤ l3 then 163 else 115) (L' := [some (.ref l0), some (.int l1), some (.int l2), some (.int l3), none]) (st' := []) cd_185_112 rfl rfl ?_
    refine go_ite (fun hc => ?_) (fun hc => ?_)
    · rw [if_pos hc] at h
      refine gs_0 (pc' := 166) (L' := [some (.ref l0), some (.int (l1 + 1)), some (.int l2), some (.int l3), none]) (st' := []) cd_185_163 rfl rfl ?_
      obtain ⟨x_2, hx, h⟩ := lt_s_ h
      rw [hx]
      clear hx
      refine gs_0 (pc' := 75) (L' := [some (.ref l0), some (.int x_2), some (.int l2), some (.int l3), none]) (st' := []) cd_185_166 rfl rfl ?_
      refine go_drop [some (.ref l0), some (.int x_2), none, none, none] ⟨rfl, ⟨rfl, ⟨rfl, ⟨rfl, trivial⟩⟩⟩⟩ ?_
      exact hr75 l0 x_2 _ _ _ _ h
    · rw [if_neg hc] at h
      refine gs_0 (pc' := 116) (L' := [some (.ref l0), some (.int l1), some (.int l2), some (.int l3), none]) (st' := [.ref l0]) cd_185_115 rfl rfl ?_
      obtain ⟨ht, h⟩ := gO_s h
      obtain ⟨q_3, hv, h⟩ := gV_s h
      refine gs_gfR cd_185_116 (by decide) ht hv ?_
      refine gs_0 (pc' := 121) (L' := [some (.ref l0), some (.int l1), some (.int l2), some (.int l3), none]) (st' := [.int 10, .ref q_3]) cd_185_119 rfl rfl ?_
      refine gs_0 (pc' := 122) (L' := [some (.ref l0), some (.int l1), some (.int l2), some (.int l3), none]) (st' := [.int l2, .int 10, .ref q_3]) cd_185_121 rfl rfl ?_
      refine gs_0 (pc' := 123) (L' := [some (.ref l0), some (.int l1), some (.int l2), some (.int l3), none]) (st' := [.int (10 * l2), .ref q_3]) cd_185_122 rfl rfl ?_
      refine gs_0 (pc' := 124) (L' := [some (.ref l0), some (.int l1), some (.int l2), some (.int l3), none]) (st' := [.int 4, .int (10 * l2), .ref q_3]) cd_185_123 rfl rfl ?_
      refine gs_0 (pc' := 125) (L' := [some (.ref l0), some (.int l1), some (.int l2), some (.int l3), none]) (st' := [.int ((10 * l2) + 4), .ref q_3]) cd_185_124 rfl rfl ?_
      refine gs_0 (pc' := 126) (L' := [some (.ref l0), some (.int l1), some (.int l2), some (.int l3), none]) (st' := [.int l3, .int ((10 * l2) + 4), .ref q_3]) cd_185_125 rfl rfl ?_
      refine gs_0 (pc' := 127) (L' := [some (.ref l0), some (.int l1), some (.int l2), some (.int l3), none]) (st' := [.int (((10 * l2) + 4) + l3), .ref q_3]) cd_185_126 rfl rfl ?_
      obtain ⟨ht, h⟩ := gA_s h
      refine gs_iald cd_185_127 ht ?_
      refine gs_0 (pc' := 130) (L' := [some (.ref l0), some (.int l1), some (.int l2), some (.int l3), some (.int (I q_3 (((10 * l2) + 4) + l3 : Int32).toNatClampNeg))]) (st' := []) cd_185_128 rfl rfl ?_
      obtain ⟨x_4, hx, h⟩ := lt_s_ h
      rw [hx]
      clear hx
      refine gs_0 (pc' := 131) (L' := [some (.ref l0), some (.int l1), some (.int l2), some (.int l3), some (.int x_4)]) (st' := [.ref l0]) cd_185_130 rfl rfl ?_
      refine gs_0 (pc' := 133) (L' := [some (.ref l0), some (.int l1), some (.int l2), some (.int l3), some (.int x_4)]) (st' := [.int x_4, .ref l0]) cd_185_131 rfl rfl ?_
      refine gs_0 (pc' := 135) (L' := [some (.ref l0), some (.int l1), some (.int l2), some (.int l3), some (.int x_4)]) (st' := [.int x_4, .int x_4, .ref l0]) cd_185_133 rfl rfl ?_
      refine gs_0 (pc' := 136) (L' := [some (.ref l0), some (.int l1), some (.int l2), some (.int l3), some (.int x_4)]) (st' := [.ref l0, .int x_4, .int x_4, .ref l0]) cd_185_135 rfl rfl ?_
      obtain ⟨ht, h⟩ := gO_s h
      obtain ⟨q_5, hv, h⟩ := gV_s h
      refine gs_gfR cd_185_136 (by decide) ht hv ?_
      refine gs_0 (pc' := 141) (L' := [some (.ref l0), some (.int l1), some (.int l2), some (.int l3), some (.int x_4)]) (st' := [.int 70, .ref q_5, .int x_4, .int x_4, .ref l0]) cd_185_139 rfl rfl ?_
      refine gs_0 (pc' := 143) (L' := [some (.ref l0), some (.int l1), some (.int l2), some (.int l3), some (.int x_4)]) (st' := [.int 8, .int 70, .ref q_5, .int x_4, .int x_4, .ref l0]) cd_185_141 rfl rfl ?_
      refine gs_0 (pc' := 144) (L' := [some (.ref l0), some (.int l1), some (.int l2), some (.int l3), some (.int x_4)]) (st' := [.int l1, .int 8, .int 70, .ref q_5, .int x_4, .int x_4, .ref l0]) cd_185_143 rfl rfl ?_
      refine gs_0 (pc' := 145) (L' := [some (.ref l0), some (.int l1), some (.int l2), some (.int l3), some (.int x_4)]) (st' := [.int (8 * l1), .int 70, .ref q_5, .int x_4, .int x_4, .ref l0]) cd_185_144 rfl rfl ?_
      refine gs_0 (pc' := 146) (L' := [some (.ref l0), some (.int l1), some (.int l2), some (.int l3), some (.int x_4)]) (st' := [.int (70 + (8 * l1)), .ref q_5, .int x_4, .int x_4, .ref l0]) cd_185_145 rfl rfl ?_
      refine gs_0 (pc' := 147) (L' := [some (.ref l0), some (.int l1), some (.int l2), some (.int l3), some (.int x_4)]) (st' := [.int 2, .int (70 + (8 * l1)), .ref q_5, .int x_4, .int x_4, .ref l0]) cd_185_146 rfl rfl ?_
      refine gs_0 (pc' := 148) (L' := [some (.ref l0), some (.int l1), some (.int l2), some (.int l3), some (.int x_4)]) (st' := [.int ((70 + (8 * l1)) + 2), .ref q_5, .int x_4, .int x_4, .ref l0]) cd_185_147 rfl rfl ?_
      refine gs_0 (pc' := 149) (L' := [some (.ref l0), some (.int l1), some (.int l2), some (.int l3), some (.int x_4)]) (st' := [.int l3, .int ((70 + (8 * l1)) + 2), .ref q_5, .int x_4, .int x_4, .ref l0]) cd_185_148 rfl rfl ?_
      refine gs_0 (pc' := 150) (L' := [some (.ref l0), some (.int l1), some (.int l2), some (.int l3), some (.int x_4)]) (st' := [.int (((70 + (8 * l1)) + 2) + l3), .ref q_5, .int x_4, .int x_4, .ref l0]) cd_185_149 rfl rfl ?_
      obtain ⟨ht, h⟩ := gA_s h
      refine gs_iald cd_185_150 ht ?_
      obtain ⟨x_9, w_6, I_7, J_8, hcl, h⟩ := cI_s h
      refine gs_call (as := [.int x_4, .int (I q_5 (((70 + (8 * l1)) + 2) + l3 : Int32).toNatClampNeg)]) (rest := [.int x_4, .ref l0]) cd_185_151 rfl (by decide) rfl rfl (Nat.le_of_ble_eq_true rfl) (Nat.le_of_ble_eq_true rfl) rfl hcl ?_
      obtain ⟨ht, h⟩ := gO_s h
      obtain ⟨w_10, I_11, J_12, hcl, h⟩ := cV_s h
      refine gs_call (as := [.ref l0, .int x_4, .int x_9]) (rest := []) cd_185_154 rfl (by decide) rfl (sm_rv_ok (by decide) ht) (Nat.le_of_ble_eq_true rfl) (Nat.le_of_ble_eq_true rfl) rfl hcl ?_
      refine gs_0 (pc' := 160) (L' := [some (.ref l0), some (.int l1), some (.int l2), some (.int (l3 + 1)), some (.int x_4)]) (st' := []) cd_185_157 rfl rfl ?_
      obtain ⟨x_13, hx, h⟩ := lt_s_ h
      rw [hx]
      clear hx
      refine gs_0 (pc' := 100) (L' := [some (.ref l0), some (.int l1), some (.int l2), some (.int x_13), some (.int x_4)]) (st' := []) cd_185_160 rfl rfl ?_
      refine go_drop [some (.ref l0), some (.int l1), some (.int l2), some (.int x_13), none] ⟨rfl, ⟨rfl, ⟨rfl, ⟨rfl, ⟨rfl, trivial⟩⟩⟩⟩⟩ ?_
      exact hr100 l0 l1 l2 x_13 _ _ _ _ h
noncomputable def f_185_75 (K : Nat → Value) (k : Nat) (d : Nat) : Nat → Int32 → aW → aI → aJ → Option aR :=
  match k with
  | 0 => fun _ _ _ _ _ => none
  | k + 1 => fun l0 l1 w I J =>
  lt_ (f_185_75 K k d) fun r75 =>
  gO w 6 l0 (
  gV w l0 36 fun q_1 =>
  gA w 10 20 q_1 1 (
  if (I q_1 (1 : Int32).toNatClampNeg) ≤ l1 then
    f_185_171 K k d l0 1 w I J
  else
    gO w 6 l0 (
    gV w l0 36 fun q_2 =>
    gA w 10 20 q_2 (70 + (8 * l1)) (
    lt_ (I q_2 (70 + (8 * l1) : Int32).toNatClampNeg) fun x_3 =>
    f_185_100 K k d r75 l0 l1 x_3 0 w I J))))
theorem ok_185_75 {K : Nat → Value} {d : Nat} : ∀ {k : Nat} {l0 : Nat} {l1 : Int32} {w : aW} {I : aI} {J : aJ} {R : aR}, f_185_75 K k d l0 l1 w I J = some R → Go K (d + 1) 185 75 [some (.ref l0), some (.int l1), none, none, none] [] w I J R := by
  intro k
  induction k with
  | zero => intro l0 l1 w I J R h; cases h
  | succ k ih =>
    intro l0 l1 w I J R h
    have hr75 : ∀ (l0 : Nat) (l1 : Int32) (w : aW) (I : aI) (J : aJ) (R : aR), f_185_75 K k d l0 l1 w I J = some R → Go K (d + 1) 185 75 [some (.ref l0), some (.int l1), none, none, none] [] w I J R := fun l0 l1 w I J R h => ih h
    rw [f_185_75] at h
    obtain ⟨r75, hx, h⟩ := lt_s_ h
    rw [hx] at hr75
    clear hx ih
    refine gs_0 (pc' := 76) (L' := [some (.ref l0), some (.int l1), none, none, none]) (st' := [.int l1]) cd_185_75 rfl rfl ?_
    refine gs_0 (pc' := 77) (L' := [some (.ref l0), some (.int l1), none, none, none]) (st' := [.ref l0, .int l1]) cd_185_76 rfl rfl ?_
    obtain ⟨ht, h⟩ := gO_s h
    obtain ⟨q_1, hv, h⟩ := gV_s h
    refine gs_gfR cd_185_77 (by decide) ht hv ?_
    refine gs_0 (pc' := 81) (L' := [some (.ref l0), some (.int l1), none, none, none]) (st' := [.int 1, .ref q_1, .int l1]) cd_185_80 rfl rfl ?_
    obtain ⟨ht, h⟩ := gA_s h
    refine gs_iald cd_185_81 ht ?_
    refine gs_0 (pc' := if (I q_1 (1 : Int32).toNatClampNeg) ≤ l1 then 169 else 85) (L' := [some (.ref l0), some (.int l1), none, none, none]) (st' := []) cd_185_82 rfl rfl ?_
    refine go_ite (fun hc => ?_) (fun hc => ?_)
    · rw [if_pos hc] at h
      refine gs_0 (pc' := 170) (L' := [some (.ref l0), some (.int l1), none, none, none]) (st' := [.int 1]) cd_185_169 rfl rfl ?_
      refine gs_0 (pc' := 171) (L' := [some (.ref l0), some (.int 1), none, none, none]) (st' := []) cd_185_170 rfl rfl ?_
      exact ok_185_171 h
    · rw [if_neg hc] at h
      refine gs_0 (pc' := 86) (L' := [some (.ref l0), some (.int l1), none, none, none]) (st' := [.ref l0]) cd_185_85 rfl rfl ?_
      obtain ⟨ht, h⟩ := gO_s h
      obtain ⟨q_2, hv, h⟩ := gV_s h
      refine gs_gfR cd_185_86 (by decide) ht hv ?_
      refine gs_0 (pc' := 91) (L' := [some (.ref l0), some (.int l1), none, none, none]) (st' := [.int 70, .ref q_2]) cd_185_89 rfl rfl ?_
      refine gs_0 (pc' := 93) (L' := [some (.ref l0), some (.int l1), none, none, none]) (st' := [.int 8, .int 70, .ref q_2]) cd_185_91 rfl rfl ?_
      refine gs_0 (pc' := 94) (L' := [some (.ref l0), some (.int l1), none, none, none]) (st' := [.int l1, .int 8, .int 70, .ref q_2]) cd_185_93 rfl rfl ?_
      refine gs_0 (pc' := 95) (L' := [some (.ref l0), some (.int l1), none, none, none]) (st' := [.int (8 * l1), .int 70, .ref q_2]) cd_185_94 rfl rfl ?_
      refine gs_0 (pc' := 96) (L' := [some (.ref l0), some (.int l1), none, none, none]) (st' := [.int (70 + (8 * l1)), .ref q_2]) cd_185_95 rfl rfl ?_
      obtain ⟨ht, h⟩ := gA_s h
      refine gs_iald cd_185_96 ht ?_
      refine gs_0 (pc' := 98) (L' := [some (.ref l0), some (.int l1), some (.int (I q_2 (70 + (8 * l1) : Int32).toNatClampNeg)), none, none]) (st' := []) cd_185_97 rfl rfl ?_
      obtain ⟨x_3, hx, h⟩ := lt_s_ h
      rw [hx]
      clear hx
      refine gs_0 (pc' := 99) (L' := [some (.ref l0), some (.int l1), some (.int x_3), none, none]) (st' := [.int 0]) cd_185_98 rfl rfl ?_
      refine gs_0 (pc' := 100) (L' := [some (.ref l0), some (.int l1), some (.int x_3), some (.int 0), none]) (st' := []) cd_185_99 rfl rfl ?_
      exact ok_185_100 hr75 h
noncomputable def f_185_23 (K : Nat → Value) (k : Nat) (d : Nat) : Nat → Int32 → aW → aI → aJ → Option aR :=
  match k with
  | 0 => fun _ _ _ _ _ => none
  | k + 1 => fun l0 l1 w I J =>
  lt_ (f_185_23 K k d) fun r23 =>
  gO w 6 l0 (
  gV w l0 36 fun q_1 =>
  gA w 10 20 q_1 2 (
  if (I q_1 (2 : Int32).toNatClampNeg) ≤ l1 then
    f_185_75 K k d l0 0 w I J
  else
    gO w 6 l0 (
    gV w l0 36 fun q_2 =>
    gA w 10 20 q_2 (40 + l1) (
    gO w 6 l0 (
    gV w l0 36 fun q_3 =>
    gA w 10 20 q_3 (40 + l1) (
    gO w 6 l0 (
    gV w l0 36 fun q_4 =>
    gA w 10 20 q_4 (10 + l1) (
    cI (Cl K d 186 [.int (I q_3 (40 + l1 : Int32).toNatClampNeg), .int (I q_4 (10 + l1 : Int32).toNatClampNeg)] w I J) fun x_8 w_5 I_6 J_7 =>
    gO w_5 6 l0 (
    cV (Cl K d 187 [.ref l0, .int (I q_2 (40 + l1 : Int32).toNatClampNeg), .int x_8] w_5 I_6 J_7) fun w_9 I_10 J_11 =>
    lt_ (l1 + 1) fun x_12 =>
    r23 l0 x_12 w_9 I_10 J_11)))))))))
theorem ok_185_23 {K : Nat → Value} {d : Nat} : ∀ {k : Nat} {l0 : Nat} {l1 : Int32} {w : aW} {I : aI} {J : aJ} {R : aR}, f_185_23 K k d l0 l1 w I J = some R → Go K (d + 1) 185 23 [some (.ref l0), some (.int l1), none, none, none] [] w I J R := by
  intro k
  induction k with
  | zero => intro l0 l1 w I J R h; cases h
  | succ k ih =>
    intro l0 l1 w I J R h
    have hr23 : ∀ (l0 : Nat) (l1 : Int32) (w : aW) (I : aI) (J : aJ) (R : aR), f_185_23 K k d l0 l1 w I J = some R → Go K (d + 1) 185 23 [some (.ref l0), some (.int l1), none, none, none] [] w I J R := fun l0 l1 w I J R h => ih h
    rw [f_185_23] at h
    obtain ⟨r23, hx, h⟩ := lt_s_ h
    rw [hx] at hr23
    clear hx ih
    refine gs_0 (pc' := 24) (L' := [some (.ref l0), some (.int l1), none, none, none]) (st' := [.int l1]) cd_185_23 rfl rfl ?_
    refine gs_0 (pc' := 25) (L' := [some (.ref l0), some (.int l1), none, none, none]) (st' := [.ref l0, .int l1]) cd_185_24 rfl rfl ?_
    obtain ⟨ht, h⟩ := gO_s h
    obtain ⟨q_1, hv, h⟩ := gV_s h
    refine gs_gfR cd_185_25 (by decide) ht hv ?_
    refine gs_0 (pc' := 29) (L' := [some (.ref l0), some (.int l1), none, none, none]) (st' := [.int 2, .ref q_1, .int l1]) cd_185_28 rfl rfl ?_
    obtain ⟨ht, h⟩ := gA_s h
    refine gs_iald cd_185_29 ht ?_
    refine gs_0 (pc' := if (I q_1 (2 : Int32).toNatClampNeg) ≤ l1 then 73 else 33) (L' := [some (.ref l0), some (.int l1), none, none, none]) (st' := []) cd_185_30 rfl rfl ?_
    refine go_ite (fun hc => ?_) (fun hc => ?_)
    · rw [if_pos hc] at h
      refine gs_0 (pc' := 74) (L' := [some (.ref l0), some (.int l1), none, none, none]) (st' := [.int 0]) cd_185_73 rfl rfl ?_
      refine gs_0 (pc' := 75) (L' := [some (.ref l0), some (.int 0), none, none, none]) (st' := []) cd_185_74 rfl rfl ?_
      exact ok_185_75 h
    · rw [if_neg hc] at h
      refine gs_0 (pc' := 34) (L' := [some (.ref l0), some (.int l1), none, none, none]) (st' := [.ref l0]) cd_185_33 rfl rfl ?_
      refine gs_0 (pc' := 35) (L' := [some (.ref l0), some (.int l1), none, none, none]) (st' := [.ref l0, .ref l0]) cd_185_34 rfl rfl ?_
      obtain ⟨ht, h⟩ := gO_s h
      obtain ⟨q_2, hv, h⟩ := gV_s h
      refine gs_gfR cd_185_35 (by decide) ht hv ?_
      refine gs_0 (pc' := 40) (L' := [some (.ref l0), some (.int l1), none, none, none]) (st' := [.int 40, .ref q_2, .ref l0]) cd_185_38 rfl rfl ?_
      refine gs_0 (pc' := 41) (L' := [some (.ref l0), some (.int l1), none, none, none]) (st' := [.int l1, .int 40, .ref q_2, .ref l0]) cd_185_40 rfl rfl ?_
      refine gs_0 (pc' := 42) (L' := [some (.ref l0), some (.int l1), none, none, none]) (st' := [.int (40 + l1), .ref q_2, .ref l0]) cd_185_41 rfl rfl ?_
      obtain ⟨ht, h⟩ := gA_s h
      refine gs_iald cd_185_42 ht ?_
      refine gs_0 (pc' := 44) (L' := [some (.ref l0), some (.int l1), none, none, none]) (st' := [.ref l0, .int (I q_2 (40 + l1 : Int32).toNatClampNeg), .ref l0]) cd_185_43 rfl rfl ?_
      obtain ⟨ht, h⟩ := gO_s h
      obtain ⟨q_3, hv, h⟩ := gV_s h
      refine gs_gfR cd_185_44 (by decide) ht hv ?_
      refine gs_0 (pc' := 49) (L' := [some (.ref l0), some (.int l1), none, none, none]) (st' := [.int 40, .ref q_3, .int (I q_2 (40 + l1 : Int32).toNatClampNeg), .ref l0]) cd_185_47 rfl rfl ?_
      refine gs_0 (pc' := 50) (L' := [some (.ref l0), some (.int l1), none, none, none]) (st' := [.int l1, .int 40, .ref q_3, .int (I q_2 (40 + l1 : Int32).toNatClampNeg), .ref l0]) cd_185_49 rfl rfl ?_
      refine gs_0 (pc' := 51) (L' := [some (.ref l0), some (.int l1), none, none, none]) (st' := [.int (40 + l1), .ref q_3, .int (I q_2 (40 + l1 : Int32).toNatClampNeg), .ref l0]) cd_185_50 rfl rfl ?_
      obtain ⟨ht, h⟩ := gA_s h
      refine gs_iald cd_185_51 ht ?_
      refine gs_0 (pc' := 53) (L' := [some (.ref l0), some (.int l1), none, none, none]) (st' := [.ref l0, .int (I q_3 (40 + l1 : Int32).toNatClampNeg), .int (I q_2 (40 + l1 : Int32).toNatClampNeg), .ref l0]) cd_185_52 rfl rfl ?_
      obtain ⟨ht, h⟩ := gO_s h
      obtain ⟨q_4, hv, h⟩ := gV_s h
      refine gs_gfR cd_185_53 (by decide) ht hv ?_
      refine gs_0 (pc' := 58) (L' := [some (.ref l0), some (.int l1), none, none, none]) (st' := [.int 10, .ref q_4, .int (I q_3 (40 + l1 : Int32).toNatClampNeg), .int (I q_2 (40 + l1 : Int32).toNatClampNeg), .ref l0]) cd_185_56 rfl rfl ?_
      refine gs_0 (pc' := 59) (L' := [some (.ref l0), some (.int l1), none, none, none]) (st' := [.int l1, .int 10, .ref q_4, .int (I q_3 (40 + l1 : Int32).toNatClampNeg), .int (I q_2 (40 + l1 : Int32).toNatClampNeg), .ref l0]) cd_185_58 rfl rfl ?_
      refine gs_0 (pc' := 60) (L' := [some (.ref l0), some (.int l1), none, none, none]) (st' := [.int (10 + l1), .ref q_4, .int (I q_3 (40 + l1 : Int32).toNatClampNeg), .int (I q_2 (40 + l1 : Int32).toNatClampNeg), .ref l0]) cd_185_59 rfl rfl ?_
      obtain ⟨ht, h⟩ := gA_s h
      refine gs_iald cd_185_60 ht ?_
      obtain ⟨x_8, w_5, I_6, J_7, hcl, h⟩ := cI_s h
      refine gs_call (as := [.int (I q_3 (40 + l1 : Int32).toNatClampNeg), .int (I q_4 (10 + l1 : Int32).toNatClampNeg)]) (rest := [.int (I q_2 (40 + l1 : Int32).toNatClampNeg), .ref l0]) cd_185_61 rfl (by decide) rfl rfl (Nat.le_of_ble_eq_true rfl) (Nat.le_of_ble_eq_true rfl) rfl hcl ?_
      obtain ⟨ht, h⟩ := gO_s h
      obtain ⟨w_9, I_10, J_11, hcl, h⟩ := cV_s h
      refine gs_call (as := [.ref l0, .int (I q_2 (40 + l1 : Int32).toNatClampNeg), .int x_8]) (rest := []) cd_185_64 rfl (by decide) rfl (sm_rv_ok (by decide) ht) (Nat.le_of_ble_eq_true rfl) (Nat.le_of_ble_eq_true rfl) rfl hcl ?_
      refine gs_0 (pc' := 70) (L' := [some (.ref l0), some (.int (l1 + 1)), none, none, none]) (st' := []) cd_185_67 rfl rfl ?_
      obtain ⟨x_12, hx, h⟩ := lt_s_ h
      rw [hx]
      clear hx
      refine gs_0 (pc' := 23) (L' := [some (.ref l0), some (.int x_12), none, none, none]) (st' := []) cd_185_70 rfl rfl ?_
      exact hr23 l0 x_12 _ _ _ _ h
noncomputable def f_185_2 (K : Nat → Value) (k : Nat) (d : Nat) : Nat → Int32 → aW → aI → aJ → Option aR :=
  match k with
  | 0 => fun _ _ _ _ _ => none
  | k + 1 => fun l0 l1 w I J =>
  lt_ (f_185_2 K k d) fun r2 =>
  if 16 < l1 then
    f_185_23 K k d l0 0 w I J
  else
    gO w 6 l0 (
    gV w l0 43 fun q_1 =>
    gA w 12 12 q_1 l1 (
    lt_ (sm_up2 I q_1 (l1 : Int32).toNatClampNeg 0) fun I_2 =>
    lt_ (l1 + 1) fun x_3 =>
    r2 l0 x_3 w I_2 J))
theorem ok_185_2 {K : Nat → Value} {d : Nat} : ∀ {k : Nat} {l0 : Nat} {l1 : Int32} {w : aW} {I : aI} {J : aJ} {R : aR}, f_185_2 K k d l0 l1 w I J = some R → Go K (d + 1) 185 2 [some (.ref l0), some (.int l1), none, none, none] [] w I J R := by
  intro k
  induction k with
  | zero => intro l0 l1 w I J R h; cases h
  | succ k ih =>
    intro l0 l1 w I J R h
    have hr2 : ∀ (l0 : Nat) (l1 : Int32) (w : aW) (I : aI) (J : aJ) (R : aR), f_185_2 K k d l0 l1 w I J = some R → Go K (d + 1) 185 2 [some (.ref l0), some (.int l1), none, none, none] [] w I J R := fun l0 l1 w I J R h => ih h
    rw [f_185_2] at h
    obtain ⟨r2, hx, h⟩ := lt_s_ h
    rw [hx] at hr2
    clear hx ih
    refine gs_0 (pc' := 3) (L' := [some (.ref l0), some (.int l1), none, none, none]) (st' := [.int l1]) cd_185_2 rfl rfl ?_
    refine gs_0 (pc' := 5) (L' := [some (.ref l0), some (.int l1), none, none, none]) (st' := [.int 16, .int l1]) cd_185_3 rfl rfl ?_
    refine gs_0 (pc' := if 16 < l1 then 21 else 8) (L' := [some (.ref l0), some (.int l1), none, none, none]) (st' := []) cd_185_5 rfl rfl ?_
    refine go_ite (fun hc => ?_) (fun hc => ?_)
    · rw [if_pos hc] at h
      refine gs_0 (pc' := 22) (L' := [some (.ref l0), some (.int l1), none, none, none]) (st' := [.int 0]) cd_185_21 rfl rfl ?_
      refine gs_0 (pc' := 23) (L' := [some (.ref l0), some (.int 0), none, none, none]) (st' := []) cd_185_22 rfl rfl ?_
      exact ok_185_23 h
    · rw [if_neg hc] at h
      refine gs_0 (pc' := 9) (L' := [some (.ref l0), some (.int l1), none, none, none]) (st' := [.ref l0]) cd_185_8 rfl rfl ?_
      obtain ⟨ht, h⟩ := gO_s h
      obtain ⟨q_1, hv, h⟩ := gV_s h
      refine gs_gfR cd_185_9 (by decide) ht hv ?_
      refine gs_0 (pc' := 13) (L' := [some (.ref l0), some (.int l1), none, none, none]) (st' := [.int l1, .ref q_1]) cd_185_12 rfl rfl ?_
      refine gs_0 (pc' := 14) (L' := [some (.ref l0), some (.int l1), none, none, none]) (st' := [.int 0, .int l1, .ref q_1]) cd_185_13 rfl rfl ?_
      obtain ⟨ht, h⟩ := gA_s h
      refine gs_zast cd_185_14 (Or.inl rfl) ht ?_
      obtain ⟨I_2, hx, h⟩ := lt_s_ h
      rw [hx]
      refine gs_0 (pc' := 18) (L' := [some (.ref l0), some (.int (l1 + 1)), none, none, none]) (st' := []) cd_185_15 rfl rfl ?_
      obtain ⟨x_3, hx, h⟩ := lt_s_ h
      rw [hx]
      clear hx
      refine gs_0 (pc' := 2) (L' := [some (.ref l0), some (.int x_3), none, none, none]) (st' := []) cd_185_18 rfl rfl ?_
      exact hr2 l0 x_3 _ _ _ _ h
noncomputable def f_185 (K : Nat → Value) (k d : Nat) (l0 : Nat) (w : aW) (I : aI) (J : aJ) : Option aR :=
  f_185_2 K k d l0 0 w I J
theorem ok_185 {K : Nat → Value} {k d : Nat} {l0 : Nat} {w : aW} {I : aI} {J : aJ} {R : aR} (h : f_185 K k d l0 w I J = some R) : Go K (d + 1) 185 0 [some (.ref l0), none, none, none, none] [] w I J R := by
  unfold f_185 at h
  refine gs_0 (pc' := 1) (L' := [some (.ref l0), none, none, none, none]) (st' := [.int 0]) cd_185_0 rfl rfl ?_
  refine gs_0 (pc' := 2) (L' := [some (.ref l0), some (.int 0), none, none, none]) (st' := []) cd_185_1 rfl rfl ?_
  exact ok_185_2 h
theorem cl_185 {K : Nat → Value} {k d : Nat} {l0 : Nat} {w : aW} {I : aI} {J : aJ} {R : aR} (h : f_185 K k d l0 w I J = some R) : Cl K (d + 1) 185 [.ref l0] w I J = some R := Cl_of (ok_185 h)
/-! ProvedMachineModel.index(II)I -/
set_option maxRecDepth 20000 in
theorem gl_186 : gcd.lookup 186 = some gw_186 := rfl
theorem cd_186_0 : sm_cd 186 0 = some (.iload_n 0, 1, 0, 0, 0, 0, 0, 0, 0) := cd_of gl_186 rfl
theorem cd_186_1 : sm_cd 186 1 = some (.iconst 2, 1, 0, 0, 0, 0, 0, 2, 0) := cd_of gl_186 rfl
theorem cd_186_2 : sm_cd 186 2 = some (.if_icmp .lt 7, 3, 9, 0, 0, 0, 0, 0, 0) := cd_of gl_186 rfl
theorem cd_186_5 : sm_cd 186 5 = some (.iload_n 1, 1, 1, 0, 0, 0, 0, 0, 0) := cd_of gl_186 rfl
theorem cd_186_6 : sm_cd 186 6 = some (.goto 4, 3, 10, 0, 0, 0, 0, 0, 0) := cd_of gl_186 rfl
theorem cd_186_9 : sm_cd 186 9 = some (.iconst 0, 1, 0, 0, 0, 0, 0, 0, 0) := cd_of gl_186 rfl
theorem cd_186_10 : sm_cd 186 10 = some (.ireturn, 1, 0, 0, 1, 0, 0, 0, 0) := cd_of gl_186 rfl
noncomputable def f_186 (K : Nat → Value) (k d : Nat) (l0 : Int32) (l1 : Int32) (w : aW) (I : aI) (J : aJ) : Option aR :=
  if l0 < 2 then
    some (some (.int 0), w, I, J)
  else
    some (some (.int l1), w, I, J)
theorem ok_186 {K : Nat → Value} {k d : Nat} {l0 : Int32} {l1 : Int32} {w : aW} {I : aI} {J : aJ} {R : aR} (h : f_186 K k d l0 l1 w I J = some R) : Go K (d + 1) 186 0 [some (.int l0), some (.int l1)] [] w I J R := by
  unfold f_186 at h
  refine gs_0 (pc' := 1) (L' := [some (.int l0), some (.int l1)]) (st' := [.int l0]) cd_186_0 rfl rfl ?_
  refine gs_0 (pc' := 2) (L' := [some (.int l0), some (.int l1)]) (st' := [.int 2, .int l0]) cd_186_1 rfl rfl ?_
  refine gs_0 (pc' := if l0 < 2 then 9 else 5) (L' := [some (.int l0), some (.int l1)]) (st' := []) cd_186_2 rfl rfl ?_
  refine go_ite (fun hc => ?_) (fun hc => ?_)
  · rw [if_pos hc] at h
    refine gs_0 (pc' := 10) (L' := [some (.int l0), some (.int l1)]) (st' := [.int 0]) cd_186_9 rfl rfl ?_
    cases h
    exact gs_ri cd_186_10 (Or.inl rfl)
  · rw [if_neg hc] at h
    refine gs_0 (pc' := 6) (L' := [some (.int l0), some (.int l1)]) (st' := [.int l1]) cd_186_5 rfl rfl ?_
    refine gs_0 (pc' := 10) (L' := [some (.int l0), some (.int l1)]) (st' := [.int l1]) cd_186_6 rfl rfl ?_
    cases h
    exact gs_ri cd_186_10 (Or.inl rfl)
theorem cl_186 {K : Nat → Value} {k d : Nat} {l0 : Int32} {l1 : Int32} {w : aW} {I : aI} {J : aJ} {R : aR} (h : f_186 K k d l0 l1 w I J = some R) : Cl K (d + 1) 186 [.int l0, .int l1] w I J = some R := Cl_of (ok_186 h)
/-! ProvedMachineModel.holds(II)V -/
set_option maxRecDepth 20000 in
theorem gl_187 : gcd.lookup 187 = some gw_187 := rfl
theorem cd_187_0 : sm_cd 187 0 = some (.aload_n 0, 1, 0, 0, 0, 0, 0, 0, 0) := cd_of gl_187 rfl
theorem cd_187_1 : sm_cd 187 1 = some (.getfield 126, 3, 6, 43, 2, 0, 0, 0, 0) := cd_of gl_187 rfl
theorem cd_187_4 : sm_cd 187 4 = some (.iload_n 2, 1, 2, 0, 0, 0, 0, 0, 0) := cd_of gl_187 rfl
theorem cd_187_5 : sm_cd 187 5 = some (.aload_n 0, 1, 0, 0, 0, 0, 0, 0, 0) := cd_of gl_187 rfl
theorem cd_187_6 : sm_cd 187 6 = some (.getfield 126, 3, 6, 43, 2, 0, 0, 0, 0) := cd_of gl_187 rfl
theorem cd_187_9 : sm_cd 187 9 = some (.iload_n 2, 1, 2, 0, 0, 0, 0, 0, 0) := cd_of gl_187 rfl
theorem cd_187_10 : sm_cd 187 10 = some (.baload, 1, 0, 0, 0, 0, 0, 0, 0) := cd_of gl_187 rfl
theorem cd_187_11 : sm_cd 187 11 = some (.ifCond .ne 12, 3, 23, 0, 0, 0, 0, 0, 0) := cd_of gl_187 rfl
theorem cd_187_14 : sm_cd 187 14 = some (.iload_n 1, 1, 1, 0, 0, 0, 0, 0, 0) := cd_of gl_187 rfl
theorem cd_187_15 : sm_cd 187 15 = some (.iconst 2, 1, 0, 0, 0, 0, 0, 2, 0) := cd_of gl_187 rfl
theorem cd_187_16 : sm_cd 187 16 = some (.if_icmp .lt 11, 3, 27, 0, 0, 0, 0, 0, 0) := cd_of gl_187 rfl
theorem cd_187_19 : sm_cd 187 19 = some (.iload_n 2, 1, 2, 0, 0, 0, 0, 0, 0) := cd_of gl_187 rfl
theorem cd_187_20 : sm_cd 187 20 = some (.ifCond .le 7, 3, 27, 0, 0, 0, 0, 0, 0) := cd_of gl_187 rfl
theorem cd_187_23 : sm_cd 187 23 = some (.iconst 1, 1, 0, 0, 0, 0, 0, 1, 0) := cd_of gl_187 rfl
theorem cd_187_24 : sm_cd 187 24 = some (.goto 4, 3, 28, 0, 0, 0, 0, 0, 0) := cd_of gl_187 rfl
theorem cd_187_27 : sm_cd 187 27 = some (.iconst 0, 1, 0, 0, 0, 0, 0, 0, 0) := cd_of gl_187 rfl
theorem cd_187_28 : sm_cd 187 28 = some (.bastore, 1, 0, 0, 0, 0, 0, 0, 0) := cd_of gl_187 rfl
theorem cd_187_29 : sm_cd 187 29 = some (.return_, 1, 0, 0, 0, 0, 0, 0, 0) := cd_of gl_187 rfl
noncomputable def f_187_28 (K : Nat → Value) (k d : Nat) (l0 : Nat) (l1 : Int32) (l2 : Int32) (s0 : Nat) (s1 : Int32) (s2 : Int32) (w : aW) (I : aI) (J : aJ) : Option aR :=
  gC (s2 = 0 ∨ s2 = 1) (
  gA w 12 12 s0 s1 (
  lt_ (sm_up2 I s0 (s1 : Int32).toNatClampNeg s2) fun I_1 =>
  some (none, w, I_1, J)))
theorem ok_187_28 {K : Nat → Value} {k d : Nat} {l0 : Nat} {l1 : Int32} {l2 : Int32} {s0 : Nat} {s1 : Int32} {s2 : Int32} {w : aW} {I : aI} {J : aJ} {R : aR} (h : f_187_28 K k d l0 l1 l2 s0 s1 s2 w I J = some R) : Go K (d + 1) 187 28 [some (.ref l0), some (.int l1), some (.int l2)] [.int s2, .int s1, .ref s0] w I J R := by
  unfold f_187_28 at h
  obtain ⟨hz, h⟩ := gC_s h
  obtain ⟨ht, h⟩ := gA_s h
  refine gs_zast cd_187_28 hz ht ?_
  obtain ⟨I_1, hx, h⟩ := lt_s_ h
  rw [hx]
  cases h
  exact gsr cd_187_29 rfl rfl
noncomputable def f_187_27 (K : Nat → Value) (k d : Nat) (l0 : Nat) (l1 : Int32) (l2 : Int32) (s0 : Nat) (s1 : Int32) (w : aW) (I : aI) (J : aJ) : Option aR :=
  f_187_28 K k d l0 l1 l2 s0 s1 0 w I J
theorem ok_187_27 {K : Nat → Value} {k d : Nat} {l0 : Nat} {l1 : Int32} {l2 : Int32} {s0 : Nat} {s1 : Int32} {w : aW} {I : aI} {J : aJ} {R : aR} (h : f_187_27 K k d l0 l1 l2 s0 s1 w I J = some R) : Go K (d + 1) 187 27 [some (.ref l0), some (.int l1), some (.int l2)] [.int s1, .ref s0] w I J R := by
  unfold f_187_27 at h
  refine gs_0 (pc' := 28) (L' := [some (.ref l0), some (.int l1), some (.int l2)]) (st' := [.int 0, .int s1, .ref s0]) cd_187_27 rfl rfl ?_
  exact ok_187_28 h
noncomputable def f_187_23 (K : Nat → Value) (k d : Nat) (l0 : Nat) (l1 : Int32) (l2 : Int32) (s0 : Nat) (s1 : Int32) (w : aW) (I : aI) (J : aJ) : Option aR :=
  f_187_28 K k d l0 l1 l2 s0 s1 1 w I J
theorem ok_187_23 {K : Nat → Value} {k d : Nat} {l0 : Nat} {l1 : Int32} {l2 : Int32} {s0 : Nat} {s1 : Int32} {w : aW} {I : aI} {J : aJ} {R : aR} (h : f_187_23 K k d l0 l1 l2 s0 s1 w I J = some R) : Go K (d + 1) 187 23 [some (.ref l0), some (.int l1), some (.int l2)] [.int s1, .ref s0] w I J R := by
  unfold f_187_23 at h
  refine gs_0 (pc' := 24) (L' := [some (.ref l0), some (.int l1), some (.int l2)]) (st' := [.int 1, .int s1, .ref s0]) cd_187_23 rfl rfl ?_
  refine gs_0 (pc' := 28) (L' := [some (.ref l0), some (.int l1), some (.int l2)]) (st' := [.int 1, .int s1, .ref s0]) cd_187_24 rfl rfl ?_
  exact ok_187_28 h
noncomputable def f_187 (K : Nat → Value) (k d : Nat) (l0 : Nat) (l1 : Int32) (l2 : Int32) (w : aW) (I : aI) (J : aJ) : Option aR :=
  gO w 6 l0 (
  gV w l0 43 fun q_1 =>
  gO w 6 l0 (
  gV w l0 43 fun q_2 =>
  gA w 12 21 q_2 l2 (
  if ¬ (I q_2 (l2 : Int32).toNatClampNeg) = 0 then
    f_187_23 K k d l0 l1 l2 q_1 l2 w I J
  else
    if l1 < 2 then
      f_187_27 K k d l0 l1 l2 q_1 l2 w I J
    else
      if l2 ≤ 0 then
        f_187_27 K k d l0 l1 l2 q_1 l2 w I J
      else
        f_187_23 K k d l0 l1 l2 q_1 l2 w I J)))
theorem ok_187 {K : Nat → Value} {k d : Nat} {l0 : Nat} {l1 : Int32} {l2 : Int32} {w : aW} {I : aI} {J : aJ} {R : aR} (h : f_187 K k d l0 l1 l2 w I J = some R) : Go K (d + 1) 187 0 [some (.ref l0), some (.int l1), some (.int l2)] [] w I J R := by
  unfold f_187 at h
  refine gs_0 (pc' := 1) (L' := [some (.ref l0), some (.int l1), some (.int l2)]) (st' := [.ref l0]) cd_187_0 rfl rfl ?_
  obtain ⟨ht, h⟩ := gO_s h
  obtain ⟨q_1, hv, h⟩ := gV_s h
  refine gs_gfR cd_187_1 (by decide) ht hv ?_
  refine gs_0 (pc' := 5) (L' := [some (.ref l0), some (.int l1), some (.int l2)]) (st' := [.int l2, .ref q_1]) cd_187_4 rfl rfl ?_
  refine gs_0 (pc' := 6) (L' := [some (.ref l0), some (.int l1), some (.int l2)]) (st' := [.ref l0, .int l2, .ref q_1]) cd_187_5 rfl rfl ?_
  obtain ⟨ht, h⟩ := gO_s h
  obtain ⟨q_2, hv, h⟩ := gV_s h
  refine gs_gfR cd_187_6 (by decide) ht hv ?_
  refine gs_0 (pc' := 10) (L' := [some (.ref l0), some (.int l1), some (.int l2)]) (st' := [.int l2, .ref q_2, .int l2, .ref q_1]) cd_187_9 rfl rfl ?_
  obtain ⟨ht, h⟩ := gA_s h
  refine gs_bald cd_187_10 ht ?_
  refine gs_0 (pc' := if ¬ (I q_2 (l2 : Int32).toNatClampNeg) = 0 then 23 else 14) (L' := [some (.ref l0), some (.int l1), some (.int l2)]) (st' := [.int l2, .ref q_1]) cd_187_11 rfl rfl ?_
  refine go_ite (fun hc => ?_) (fun hc => ?_)
  · rw [if_pos hc] at h
    exact ok_187_23 h
  · rw [if_neg hc] at h
    refine gs_0 (pc' := 15) (L' := [some (.ref l0), some (.int l1), some (.int l2)]) (st' := [.int l1, .int l2, .ref q_1]) cd_187_14 rfl rfl ?_
    refine gs_0 (pc' := 16) (L' := [some (.ref l0), some (.int l1), some (.int l2)]) (st' := [.int 2, .int l1, .int l2, .ref q_1]) cd_187_15 rfl rfl ?_
    refine gs_0 (pc' := if l1 < 2 then 27 else 19) (L' := [some (.ref l0), some (.int l1), some (.int l2)]) (st' := [.int l2, .ref q_1]) cd_187_16 rfl rfl ?_
    refine go_ite (fun hc => ?_) (fun hc => ?_)
    · rw [if_pos hc] at h
      exact ok_187_27 h
    · rw [if_neg hc] at h
      refine gs_0 (pc' := 20) (L' := [some (.ref l0), some (.int l1), some (.int l2)]) (st' := [.int l2, .int l2, .ref q_1]) cd_187_19 rfl rfl ?_
      refine gs_0 (pc' := if l2 ≤ 0 then 27 else 23) (L' := [some (.ref l0), some (.int l1), some (.int l2)]) (st' := [.int l2, .ref q_1]) cd_187_20 rfl rfl ?_
      refine go_ite (fun hc => ?_) (fun hc => ?_)
      · rw [if_pos hc] at h
        exact ok_187_27 h
      · rw [if_neg hc] at h
        exact ok_187_23 h
theorem cl_187 {K : Nat → Value} {k d : Nat} {l0 : Nat} {l1 : Int32} {l2 : Int32} {w : aW} {I : aI} {J : aJ} {R : aR} (h : f_187 K k d l0 l1 l2 w I J = some R) : Cl K (d + 1) 187 [.ref l0, .int l1, .int l2] w I J = some R := Cl_of (ok_187 h)
/-! ProvedMachineModel.acts(III)V -/
set_option maxRecDepth 20000 in
theorem gl_188 : gcd.lookup 188 = some gw_188 := rfl
set_option maxRecDepth 20000 in
theorem cd_188_0 : sm_cd 188 0 = some (.aload_n 0, 1, 0, 0, 0, 0, 0, 0, 0) := cd_of gl_188 rfl
set_option maxRecDepth 20000 in
theorem cd_188_1 : sm_cd 188 1 = some (.iload_n 1, 1, 1, 0, 0, 0, 0, 0, 0) := cd_of gl_188 rfl
set_option maxRecDepth 20000 in
theorem cd_188_2 : sm_cd 188 2 = some (.iload_n 2, 1, 2, 0, 0, 0, 0, 0, 0) := cd_of gl_188 rfl
set_option maxRecDepth 20000 in
theorem cd_188_3 : sm_cd 188 3 = some (.aload_n 0, 1, 0, 0, 0, 0, 0, 0, 0) := cd_of gl_188 rfl
set_option maxRecDepth 20000 in
theorem cd_188_4 : sm_cd 188 4 = some (.getfield 111, 3, 6, 36, 2, 0, 0, 0, 0) := cd_of gl_188 rfl
set_option maxRecDepth 20000 in
theorem cd_188_7 : sm_cd 188 7 = some (.iload_n 3, 1, 3, 0, 0, 0, 0, 0, 0) := cd_of gl_188 rfl
set_option maxRecDepth 20000 in
theorem cd_188_8 : sm_cd 188 8 = some (.iaload, 1, 0, 0, 0, 0, 0, 0, 0) := cd_of gl_188 rfl
set_option maxRecDepth 20000 in
theorem cd_188_9 : sm_cd 188 9 = some (.invokevirtual 355, 3, 122, 0, 3, 4, 6, 0, 0) := cd_of gl_188 rfl
set_option maxRecDepth 20000 in
theorem cd_188_12 : sm_cd 188 12 = some (.istore 4, 2, 4, 0, 0, 0, 0, 0, 0) := cd_of gl_188 rfl
set_option maxRecDepth 20000 in
theorem cd_188_14 : sm_cd 188 14 = some (.aload_n 0, 1, 0, 0, 0, 0, 0, 0, 0) := cd_of gl_188 rfl
set_option maxRecDepth 20000 in
theorem cd_188_15 : sm_cd 188 15 = some (.getfield 111, 3, 6, 36, 2, 0, 0, 0, 0) := cd_of gl_188 rfl
set_option maxRecDepth 20000 in
theorem cd_188_18 : sm_cd 188 18 = some (.iload_n 3, 1, 3, 0, 0, 0, 0, 0, 0) := cd_of gl_188 rfl
set_option maxRecDepth 20000 in
theorem cd_188_19 : sm_cd 188 19 = some (.iconst 1, 1, 0, 0, 0, 0, 0, 1, 0) := cd_of gl_188 rfl
set_option maxRecDepth 20000 in
theorem cd_188_20 : sm_cd 188 20 = some (.iadd, 1, 0, 0, 0, 0, 0, 0, 0) := cd_of gl_188 rfl
set_option maxRecDepth 20000 in
theorem cd_188_21 : sm_cd 188 21 = some (.iaload, 1, 0, 0, 0, 0, 0, 0, 0) := cd_of gl_188 rfl
set_option maxRecDepth 20000 in
theorem cd_188_22 : sm_cd 188 22 = some (.iconst 1, 1, 0, 0, 0, 0, 0, 1, 0) := cd_of gl_188 rfl
set_option maxRecDepth 20000 in
theorem cd_188_23 : sm_cd 188 23 = some (.iadd, 1, 0, 0, 0, 0, 0, 0, 0) := cd_of gl_188 rfl
set_option maxRecDepth 20000 in
theorem cd_188_24 : sm_cd 188 24 = some (.istore 5, 2, 5, 0, 0, 0, 0, 0, 0) := cd_of gl_188 rfl
set_option maxRecDepth 20000 in
theorem cd_188_26 : sm_cd 188 26 = some (.iload_n 1, 1, 1, 0, 0, 0, 0, 0, 0) := cd_of gl_188 rfl
set_option maxRecDepth 20000 in
theorem cd_188_27 : sm_cd 188 27 = some (.iconst 4, 1, 0, 0, 0, 0, 0, 4, 0) := cd_of gl_188 rfl
set_option maxRecDepth 20000 in
theorem cd_188_28 : sm_cd 188 28 = some (.if_icmp .ne 9, 3, 37, 0, 0, 0, 0, 0, 0) := cd_of gl_188 rfl
set_option maxRecDepth 20000 in
theorem cd_188_31 : sm_cd 188 31 = some (.aload_n 0, 1, 0, 0, 0, 0, 0, 0, 0) := cd_of gl_188 rfl
set_option maxRecDepth 20000 in
theorem cd_188_32 : sm_cd 188 32 = some (.iload_n 2, 1, 2, 0, 0, 0, 0, 0, 0) := cd_of gl_188 rfl
set_option maxRecDepth 20000 in
theorem cd_188_33 : sm_cd 188 33 = some (.invokevirtual 406, 3, 189, 0, 1, 5, 6, 0, 0) := cd_of gl_188 rfl
set_option maxRecDepth 20000 in
theorem cd_188_36 : sm_cd 188 36 = some (.return_, 1, 0, 0, 0, 0, 0, 0, 0) := cd_of gl_188 rfl
set_option maxRecDepth 20000 in
theorem cd_188_37 : sm_cd 188 37 = some (.iload_n 1, 1, 1, 0, 0, 0, 0, 0, 0) := cd_of gl_188 rfl
set_option maxRecDepth 20000 in
theorem cd_188_38 : sm_cd 188 38 = some (.bipush 25, 2, 0, 0, 0, 0, 0, 25, 0) := cd_of gl_188 rfl
set_option maxRecDepth 20000 in
theorem cd_188_40 : sm_cd 188 40 = some (.if_icmp .ne 8, 3, 48, 0, 0, 0, 0, 0, 0) := cd_of gl_188 rfl
set_option maxRecDepth 20000 in
theorem cd_188_43 : sm_cd 188 43 = some (.aload_n 0, 1, 0, 0, 0, 0, 0, 0, 0) := cd_of gl_188 rfl
set_option maxRecDepth 20000 in
theorem cd_188_44 : sm_cd 188 44 = some (.invokevirtual 409, 3, 190, 0, 0, 3, 6, 0, 0) := cd_of gl_188 rfl
set_option maxRecDepth 20000 in
theorem cd_188_47 : sm_cd 188 47 = some (.return_, 1, 0, 0, 0, 0, 0, 0, 0) := cd_of gl_188 rfl
set_option maxRecDepth 20000 in
theorem cd_188_48 : sm_cd 188 48 = some (.iload_n 1, 1, 1, 0, 0, 0, 0, 0, 0) := cd_of gl_188 rfl
set_option maxRecDepth 20000 in
theorem cd_188_49 : sm_cd 188 49 = some (.bipush 24, 2, 0, 0, 0, 0, 0, 24, 0) := cd_of gl_188 rfl
set_option maxRecDepth 20000 in
theorem cd_188_51 : sm_cd 188 51 = some (.if_icmp .eq 17, 3, 68, 0, 0, 0, 0, 0, 0) := cd_of gl_188 rfl
set_option maxRecDepth 20000 in
theorem cd_188_54 : sm_cd 188 54 = some (.iload_n 1, 1, 1, 0, 0, 0, 0, 0, 0) := cd_of gl_188 rfl
set_option maxRecDepth 20000 in
theorem cd_188_55 : sm_cd 188 55 = some (.bipush 23, 2, 0, 0, 0, 0, 0, 23, 0) := cd_of gl_188 rfl
set_option maxRecDepth 20000 in
theorem cd_188_57 : sm_cd 188 57 = some (.if_icmp .ne 14, 3, 71, 0, 0, 0, 0, 0, 0) := cd_of gl_188 rfl
set_option maxRecDepth 20000 in
theorem cd_188_60 : sm_cd 188 60 = some (.aload_n 0, 1, 0, 0, 0, 0, 0, 0, 0) := cd_of gl_188 rfl
set_option maxRecDepth 20000 in
theorem cd_188_61 : sm_cd 188 61 = some (.iconst 1, 1, 0, 0, 0, 0, 0, 1, 0) := cd_of gl_188 rfl
set_option maxRecDepth 20000 in
theorem cd_188_62 : sm_cd 188 62 = some (.invokevirtual 375, 3, 181, 0, 1, 2, 6, 0, 0) := cd_of gl_188 rfl
set_option maxRecDepth 20000 in
theorem cd_188_65 : sm_cd 188 65 = some (.ifCond .ne 6, 3, 71, 0, 0, 0, 0, 0, 0) := cd_of gl_188 rfl
set_option maxRecDepth 20000 in
theorem cd_188_68 : sm_cd 188 68 = some (.iload_n 2, 1, 2, 0, 0, 0, 0, 0, 0) := cd_of gl_188 rfl
set_option maxRecDepth 20000 in
theorem cd_188_69 : sm_cd 188 69 = some (.istore 5, 2, 5, 0, 0, 0, 0, 0, 0) := cd_of gl_188 rfl
set_option maxRecDepth 20000 in
theorem cd_188_71 : sm_cd 188 71 = some (.aload_n 0, 1, 0, 0, 0, 0, 0, 0, 0) := cd_of gl_188 rfl
set_option maxRecDepth 20000 in
theorem cd_188_72 : sm_cd 188 72 = some (.getfield 111, 3, 6, 36, 2, 0, 0, 0, 0) := cd_of gl_188 rfl
set_option maxRecDepth 20000 in
theorem cd_188_75 : sm_cd 188 75 = some (.iload_n 3, 1, 3, 0, 0, 0, 0, 0, 0) := cd_of gl_188 rfl
set_option maxRecDepth 20000 in
theorem cd_188_76 : sm_cd 188 76 = some (.iconst 1, 1, 0, 0, 0, 0, 0, 1, 0) := cd_of gl_188 rfl
set_option maxRecDepth 20000 in
theorem cd_188_77 : sm_cd 188 77 = some (.iadd, 1, 0, 0, 0, 0, 0, 0, 0) := cd_of gl_188 rfl
set_option maxRecDepth 20000 in
theorem cd_188_78 : sm_cd 188 78 = some (.iload 5, 2, 5, 0, 0, 0, 0, 0, 0) := cd_of gl_188 rfl
set_option maxRecDepth 20000 in
theorem cd_188_80 : sm_cd 188 80 = some (.iastore, 1, 0, 0, 0, 0, 0, 0, 0) := cd_of gl_188 rfl
set_option maxRecDepth 20000 in
theorem cd_188_81 : sm_cd 188 81 = some (.iload_n 1, 1, 1, 0, 0, 0, 0, 0, 0) := cd_of gl_188 rfl
set_option maxRecDepth 20000 in
theorem cd_188_82 : sm_cd 188 82 = some (.iconst 4, 1, 0, 0, 0, 0, 0, 4, 0) := cd_of gl_188 rfl
set_option maxRecDepth 20000 in
theorem cd_188_83 : sm_cd 188 83 = some (.if_icmp .lt 9, 3, 92, 0, 0, 0, 0, 0, 0) := cd_of gl_188 rfl
set_option maxRecDepth 20000 in
theorem cd_188_86 : sm_cd 188 86 = some (.iload_n 1, 1, 1, 0, 0, 0, 0, 0, 0) := cd_of gl_188 rfl
set_option maxRecDepth 20000 in
theorem cd_188_87 : sm_cd 188 87 = some (.bipush 27, 2, 0, 0, 0, 0, 0, 27, 0) := cd_of gl_188 rfl
set_option maxRecDepth 20000 in
theorem cd_188_89 : sm_cd 188 89 = some (.if_icmp .ne 40, 3, 129, 0, 0, 0, 0, 0, 0) := cd_of gl_188 rfl
set_option maxRecDepth 20000 in
theorem cd_188_92 : sm_cd 188 92 = some (.aload_n 0, 1, 0, 0, 0, 0, 0, 0, 0) := cd_of gl_188 rfl
set_option maxRecDepth 20000 in
theorem cd_188_93 : sm_cd 188 93 = some (.iload 4, 2, 4, 0, 0, 0, 0, 0, 0) := cd_of gl_188 rfl
set_option maxRecDepth 20000 in
theorem cd_188_95 : sm_cd 188 95 = some (.iload_n 1, 1, 1, 0, 0, 0, 0, 0, 0) := cd_of gl_188 rfl
set_option maxRecDepth 20000 in
theorem cd_188_96 : sm_cd 188 96 = some (.iconst 3, 1, 0, 0, 0, 0, 0, 3, 0) := cd_of gl_188 rfl
set_option maxRecDepth 20000 in
theorem cd_188_97 : sm_cd 188 97 = some (.if_icmp .ne 16, 3, 113, 0, 0, 0, 0, 0, 0) := cd_of gl_188 rfl
set_option maxRecDepth 20000 in
theorem cd_188_100 : sm_cd 188 100 = some (.aload_n 0, 1, 0, 0, 0, 0, 0, 0, 0) := cd_of gl_188 rfl
set_option maxRecDepth 20000 in
theorem cd_188_101 : sm_cd 188 101 = some (.getfield 111, 3, 6, 36, 2, 0, 0, 0, 0) := cd_of gl_188 rfl
set_option maxRecDepth 20000 in
theorem cd_188_104 : sm_cd 188 104 = some (.iload_n 3, 1, 3, 0, 0, 0, 0, 0, 0) := cd_of gl_188 rfl
set_option maxRecDepth 20000 in
theorem cd_188_105 : sm_cd 188 105 = some (.iconst 2, 1, 0, 0, 0, 0, 0, 2, 0) := cd_of gl_188 rfl
set_option maxRecDepth 20000 in
theorem cd_188_106 : sm_cd 188 106 = some (.iadd, 1, 0, 0, 0, 0, 0, 0, 0) := cd_of gl_188 rfl
set_option maxRecDepth 20000 in
theorem cd_188_107 : sm_cd 188 107 = some (.iload_n 2, 1, 2, 0, 0, 0, 0, 0, 0) := cd_of gl_188 rfl
set_option maxRecDepth 20000 in
theorem cd_188_108 : sm_cd 188 108 = some (.iadd, 1, 0, 0, 0, 0, 0, 0, 0) := cd_of gl_188 rfl
set_option maxRecDepth 20000 in
theorem cd_188_109 : sm_cd 188 109 = some (.iaload, 1, 0, 0, 0, 0, 0, 0, 0) := cd_of gl_188 rfl
set_option maxRecDepth 20000 in
theorem cd_188_110 : sm_cd 188 110 = some (.goto 13, 3, 123, 0, 0, 0, 0, 0, 0) := cd_of gl_188 rfl
set_option maxRecDepth 20000 in
theorem cd_188_113 : sm_cd 188 113 = some (.iload_n 1, 1, 1, 0, 0, 0, 0, 0, 0) := cd_of gl_188 rfl
set_option maxRecDepth 20000 in
theorem cd_188_114 : sm_cd 188 114 = some (.iconst 2, 1, 0, 0, 0, 0, 0, 2, 0) := cd_of gl_188 rfl
set_option maxRecDepth 20000 in
theorem cd_188_115 : sm_cd 188 115 = some (.if_icmp .ge 7, 3, 122, 0, 0, 0, 0, 0, 0) := cd_of gl_188 rfl
set_option maxRecDepth 20000 in
theorem cd_188_118 : sm_cd 188 118 = some (.iload_n 2, 1, 2, 0, 0, 0, 0, 0, 0) := cd_of gl_188 rfl
set_option maxRecDepth 20000 in
theorem cd_188_119 : sm_cd 188 119 = some (.goto 4, 3, 123, 0, 0, 0, 0, 0, 0) := cd_of gl_188 rfl
set_option maxRecDepth 20000 in
theorem cd_188_122 : sm_cd 188 122 = some (.iconst 0, 1, 0, 0, 0, 0, 0, 0, 0) := cd_of gl_188 rfl
set_option maxRecDepth 20000 in
theorem cd_188_123 : sm_cd 188 123 = some (.invokevirtual 391, 3, 191, 0, 2, 3, 6, 0, 0) := cd_of gl_188 rfl
set_option maxRecDepth 20000 in
theorem cd_188_126 : sm_cd 188 126 = some (.goto 65, 3, 191, 0, 0, 0, 0, 0, 0) := cd_of gl_188 rfl
set_option maxRecDepth 20000 in
theorem cd_188_129 : sm_cd 188 129 = some (.iload_n 1, 1, 1, 0, 0, 0, 0, 0, 0) := cd_of gl_188 rfl
set_option maxRecDepth 20000 in
theorem cd_188_130 : sm_cd 188 130 = some (.bipush 21, 2, 0, 0, 0, 0, 0, 21, 0) := cd_of gl_188 rfl
set_option maxRecDepth 20000 in
theorem cd_188_132 : sm_cd 188 132 = some (.if_icmp .ge 37, 3, 169, 0, 0, 0, 0, 0, 0) := cd_of gl_188 rfl
set_option maxRecDepth 20000 in
theorem cd_188_135 : sm_cd 188 135 = some (.aload_n 0, 1, 0, 0, 0, 0, 0, 0, 0) := cd_of gl_188 rfl
set_option maxRecDepth 20000 in
theorem cd_188_136 : sm_cd 188 136 = some (.iload_n 1, 1, 1, 0, 0, 0, 0, 0, 0) := cd_of gl_188 rfl
set_option maxRecDepth 20000 in
theorem cd_188_137 : sm_cd 188 137 = some (.iload_n 2, 1, 2, 0, 0, 0, 0, 0, 0) := cd_of gl_188 rfl
set_option maxRecDepth 20000 in
theorem cd_188_138 : sm_cd 188 138 = some (.invokevirtual 412, 3, 192, 0, 2, 4, 6, 0, 0) := cd_of gl_188 rfl
set_option maxRecDepth 20000 in
theorem cd_188_141 : sm_cd 188 141 = some (.istore 6, 2, 6, 0, 0, 0, 0, 0, 0) := cd_of gl_188 rfl
set_option maxRecDepth 20000 in
theorem cd_188_143 : sm_cd 188 143 = some (.aload_n 0, 1, 0, 0, 0, 0, 0, 0, 0) := cd_of gl_188 rfl
set_option maxRecDepth 20000 in
theorem cd_188_144 : sm_cd 188 144 = some (.getfield 111, 3, 6, 36, 2, 0, 0, 0, 0) := cd_of gl_188 rfl
set_option maxRecDepth 20000 in
theorem cd_188_147 : sm_cd 188 147 = some (.iconst 2, 1, 0, 0, 0, 0, 0, 2, 0) := cd_of gl_188 rfl
set_option maxRecDepth 20000 in
theorem cd_188_148 : sm_cd 188 148 = some (.dup2, 1, 0, 0, 0, 0, 0, 0, 0) := cd_of gl_188 rfl
set_option maxRecDepth 20000 in
theorem cd_188_149 : sm_cd 188 149 = some (.iaload, 1, 0, 0, 0, 0, 0, 0, 0) := cd_of gl_188 rfl
set_option maxRecDepth 20000 in
theorem cd_188_150 : sm_cd 188 150 = some (.aload_n 0, 1, 0, 0, 0, 0, 0, 0, 0) := cd_of gl_188 rfl
set_option maxRecDepth 20000 in
theorem cd_188_151 : sm_cd 188 151 = some (.iload_n 1, 1, 1, 0, 0, 0, 0, 0, 0) := cd_of gl_188 rfl
set_option maxRecDepth 20000 in
theorem cd_188_152 : sm_cd 188 152 = some (.iload_n 2, 1, 2, 0, 0, 0, 0, 0, 0) := cd_of gl_188 rfl
set_option maxRecDepth 20000 in
theorem cd_188_153 : sm_cd 188 153 = some (.invokevirtual 349, 3, 120, 0, 2, 3, 6, 0, 0) := cd_of gl_188 rfl
set_option maxRecDepth 20000 in
theorem cd_188_156 : sm_cd 188 156 = some (.isub, 1, 0, 0, 0, 0, 0, 0, 0) := cd_of gl_188 rfl
set_option maxRecDepth 20000 in
theorem cd_188_157 : sm_cd 188 157 = some (.iastore, 1, 0, 0, 0, 0, 0, 0, 0) := cd_of gl_188 rfl
set_option maxRecDepth 20000 in
theorem cd_188_158 : sm_cd 188 158 = some (.aload_n 0, 1, 0, 0, 0, 0, 0, 0, 0) := cd_of gl_188 rfl
set_option maxRecDepth 20000 in
theorem cd_188_159 : sm_cd 188 159 = some (.iload 4, 2, 4, 0, 0, 0, 0, 0, 0) := cd_of gl_188 rfl
set_option maxRecDepth 20000 in
theorem cd_188_161 : sm_cd 188 161 = some (.iload 6, 2, 6, 0, 0, 0, 0, 0, 0) := cd_of gl_188 rfl
set_option maxRecDepth 20000 in
theorem cd_188_163 : sm_cd 188 163 = some (.invokevirtual 391, 3, 191, 0, 2, 3, 6, 0, 0) := cd_of gl_188 rfl
set_option maxRecDepth 20000 in
theorem cd_188_166 : sm_cd 188 166 = some (.goto 25, 3, 191, 0, 0, 0, 0, 0, 0) := cd_of gl_188 rfl
set_option maxRecDepth 20000 in
theorem cd_188_169 : sm_cd 188 169 = some (.aload_n 0, 1, 0, 0, 0, 0, 0, 0, 0) := cd_of gl_188 rfl
set_option maxRecDepth 20000 in
theorem cd_188_170 : sm_cd 188 170 = some (.iload_n 1, 1, 1, 0, 0, 0, 0, 0, 0) := cd_of gl_188 rfl
set_option maxRecDepth 20000 in
theorem cd_188_171 : sm_cd 188 171 = some (.iload_n 2, 1, 2, 0, 0, 0, 0, 0, 0) := cd_of gl_188 rfl
set_option maxRecDepth 20000 in
theorem cd_188_172 : sm_cd 188 172 = some (.iload_n 3, 1, 3, 0, 0, 0, 0, 0, 0) := cd_of gl_188 rfl
set_option maxRecDepth 20000 in
theorem cd_188_173 : sm_cd 188 173 = some (.invokevirtual 415, 3, 195, 0, 3, 4, 6, 0, 0) := cd_of gl_188 rfl
set_option maxRecDepth 20000 in
theorem cd_188_176 : sm_cd 188 176 = some (.aload_n 0, 1, 0, 0, 0, 0, 0, 0, 0) := cd_of gl_188 rfl
set_option maxRecDepth 20000 in
theorem cd_188_177 : sm_cd 188 177 = some (.getfield 111, 3, 6, 36, 2, 0, 0, 0, 0) := cd_of gl_188 rfl
set_option maxRecDepth 20000 in
theorem cd_188_180 : sm_cd 188 180 = some (.iconst 2, 1, 0, 0, 0, 0, 0, 2, 0) := cd_of gl_188 rfl
set_option maxRecDepth 20000 in
theorem cd_188_181 : sm_cd 188 181 = some (.dup2, 1, 0, 0, 0, 0, 0, 0, 0) := cd_of gl_188 rfl
set_option maxRecDepth 20000 in
theorem cd_188_182 : sm_cd 188 182 = some (.iaload, 1, 0, 0, 0, 0, 0, 0, 0) := cd_of gl_188 rfl
set_option maxRecDepth 20000 in
theorem cd_188_183 : sm_cd 188 183 = some (.aload_n 0, 1, 0, 0, 0, 0, 0, 0, 0) := cd_of gl_188 rfl
set_option maxRecDepth 20000 in
theorem cd_188_184 : sm_cd 188 184 = some (.iload_n 1, 1, 1, 0, 0, 0, 0, 0, 0) := cd_of gl_188 rfl
set_option maxRecDepth 20000 in
theorem cd_188_185 : sm_cd 188 185 = some (.iload_n 2, 1, 2, 0, 0, 0, 0, 0, 0) := cd_of gl_188 rfl
set_option maxRecDepth 20000 in
theorem cd_188_186 : sm_cd 188 186 = some (.invokevirtual 349, 3, 120, 0, 2, 3, 6, 0, 0) := cd_of gl_188 rfl
set_option maxRecDepth 20000 in
theorem cd_188_189 : sm_cd 188 189 = some (.isub, 1, 0, 0, 0, 0, 0, 0, 0) := cd_of gl_188 rfl
set_option maxRecDepth 20000 in
theorem cd_188_190 : sm_cd 188 190 = some (.iastore, 1, 0, 0, 0, 0, 0, 0, 0) := cd_of gl_188 rfl
set_option maxRecDepth 20000 in
theorem cd_188_191 : sm_cd 188 191 = some (.return_, 1, 0, 0, 0, 0, 0, 0, 0) := cd_of gl_188 rfl
noncomputable def f_188_123 (K : Nat → Value) (k d : Nat) (l0 : Nat) (l1 : Int32) (l2 : Int32) (l3 : Int32) (l4 : Int32) (l5 : Int32) (s0 : Nat) (s1 : Int32) (s2 : Int32) (w : aW) (I : aI) (J : aJ) : Option aR :=
  gO w 6 s0 (
  cV (Cl K d 191 [.ref s0, .int s1, .int s2] w I J) fun w_1 I_2 J_3 =>
  some (none, w_1, I_2, J_3))
theorem ok_188_123 {K : Nat → Value} {k d : Nat} {l0 : Nat} {l1 : Int32} {l2 : Int32} {l3 : Int32} {l4 : Int32} {l5 : Int32} {s0 : Nat} {s1 : Int32} {s2 : Int32} {w : aW} {I : aI} {J : aJ} {R : aR} (h : f_188_123 K k d l0 l1 l2 l3 l4 l5 s0 s1 s2 w I J = some R) : Go K (d + 1) 188 123 [some (.ref l0), some (.int l1), some (.int l2), some (.int l3), some (.int l4), some (.int l5), none] [.int s2, .int s1, .ref s0] w I J R := by
  unfold f_188_123 at h
  obtain ⟨ht, h⟩ := gO_s h
  obtain ⟨w_1, I_2, J_3, hcl, h⟩ := cV_s h
  refine gs_call (as := [.ref s0, .int s1, .int s2]) (rest := []) cd_188_123 rfl (by decide) rfl (sm_rv_ok (by decide) ht) (Nat.le_of_ble_eq_true rfl) (Nat.le_of_ble_eq_true rfl) rfl hcl ?_
  refine gs_0 (pc' := 191) (L' := [some (.ref l0), some (.int l1), some (.int l2), some (.int l3), some (.int l4), some (.int l5), none]) (st' := []) cd_188_126 rfl rfl ?_
  cases h
  exact gsr cd_188_191 rfl rfl
noncomputable def f_188_92 (K : Nat → Value) (k d : Nat) (l0 : Nat) (l1 : Int32) (l2 : Int32) (l3 : Int32) (l4 : Int32) (l5 : Int32) (w : aW) (I : aI) (J : aJ) : Option aR :=
  if ¬ l1 = 3 then
    if 2 ≤ l1 then
      f_188_123 K k d l0 l1 l2 l3 l4 l5 l0 l4 0 w I J
    else
      f_188_123 K k d l0 l1 l2 l3 l4 l5 l0 l4 l2 w I J
  else
    gO w 6 l0 (
    gV w l0 36 fun q_1 =>
    gA w 10 20 q_1 ((l3 + 2) + l2) (
    f_188_123 K k d l0 l1 l2 l3 l4 l5 l0 l4 (I q_1 ((l3 + 2) + l2 : Int32).toNatClampNeg) w I J))
theorem ok_188_92 {K : Nat → Value} {k d : Nat} {l0 : Nat} {l1 : Int32} {l2 : Int32} {l3 : Int32} {l4 : Int32} {l5 : Int32} {w : aW} {I : aI} {J : aJ} {R : aR} (h : f_188_92 K k d l0 l1 l2 l3 l4 l5 w I J = some R) : Go K (d + 1) 188 92 [some (.ref l0), some (.int l1), some (.int l2), some (.int l3), some (.int l4), some (.int l5), none] [] w I J R := by
  unfold f_188_92 at h
  refine gs_0 (pc' := 93) (L' := [some (.ref l0), some (.int l1), some (.int l2), some (.int l3), some (.int l4), some (.int l5), none]) (st' := [.ref l0]) cd_188_92 rfl rfl ?_
  refine gs_0 (pc' := 95) (L' := [some (.ref l0), some (.int l1), some (.int l2), some (.int l3), some (.int l4), some (.int l5), none]) (st' := [.int l4, .ref l0]) cd_188_93 rfl rfl ?_
  refine gs_0 (pc' := 96) (L' := [some (.ref l0), some (.int l1), some (.int l2), some (.int l3), some (.int l4), some (.int l5), none]) (st' := [.int l1, .int l4, .ref l0]) cd_188_95 rfl rfl ?_
  refine gs_0 (pc' := 97) (L' := [some (.ref l0), some (.int l1), some (.int l2), some (.int l3), some (.int l4), some (.int l5), none]) (st' := [.int 3, .int l1, .int l4, .ref l0]) cd_188_96 rfl rfl ?_
  refine gs_0 (pc' := if ¬ l1 = 3 then 113 else 100) (L' := [some (.ref l0), some (.int l1), some (.int l2), some (.int l3), some (.int l4), some (.int l5), none]) (st' := [.int l4, .ref l0]) cd_188_97 rfl rfl ?_
  refine go_ite (fun hc => ?_) (fun hc => ?_)
  · rw [if_pos hc] at h
    refine gs_0 (pc' := 114) (L' := [some (.ref l0), some (.int l1), some (.int l2), some (.int l3), some (.int l4), some (.int l5), none]) (st' := [.int l1, .int l4, .ref l0]) cd_188_113 rfl rfl ?_
    refine gs_0 (pc' := 115) (L' := [some (.ref l0), some (.int l1), some (.int l2), some (.int l3), some (.int l4), some (.int l5), none]) (st' := [.int 2, .int l1, .int l4, .ref l0]) cd_188_114 rfl rfl ?_
    refine gs_0 (pc' := if 2 ≤ l1 then 122 else 118) (L' := [some (.ref l0), some (.int l1), some (.int l2), some (.int l3), some (.int l4), some (.int l5), none]) (st' := [.int l4, .ref l0]) cd_188_115 rfl rfl ?_
    refine go_ite (fun hc => ?_) (fun hc => ?_)
    · rw [if_pos hc] at h
      refine gs_0 (pc' := 123) (L' := [some (.ref l0), some (.int l1), some (.int l2), some (.int l3), some (.int l4), some (.int l5), none]) (st' := [.int 0, .int l4, .ref l0]) cd_188_122 rfl rfl ?_
      exact ok_188_123 h
    · rw [if_neg hc] at h
      refine gs_0 (pc' := 119) (L' := [some (.ref l0), some (.int l1), some (.int l2), some (.int l3), some (.int l4), some (.int l5), none]) (st' := [.int l2, .int l4, .ref l0]) cd_188_118 rfl rfl ?_
      refine gs_0 (pc' := 123) (L' := [some (.ref l0), some (.int l1), some (.int l2), some (.int l3), some (.int l4), some (.int l5), none]) (st' := [.int l2, .int l4, .ref l0]) cd_188_119 rfl rfl ?_
      exact ok_188_123 h
  · rw [if_neg hc] at h
    refine gs_0 (pc' := 101) (L' := [some (.ref l0), some (.int l1), some (.int l2), some (.int l3), some (.int l4), some (.int l5), none]) (st' := [.ref l0, .int l4, .ref l0]) cd_188_100 rfl rfl ?_
    obtain ⟨ht, h⟩ := gO_s h
    obtain ⟨q_1, hv, h⟩ := gV_s h
    refine gs_gfR cd_188_101 (by decide) ht hv ?_
    refine gs_0 (pc' := 105) (L' := [some (.ref l0), some (.int l1), some (.int l2), some (.int l3), some (.int l4), some (.int l5), none]) (st' := [.int l3, .ref q_1, .int l4, .ref l0]) cd_188_104 rfl rfl ?_
    refine gs_0 (pc' := 106) (L' := [some (.ref l0), some (.int l1), some (.int l2), some (.int l3), some (.int l4), some (.int l5), none]) (st' := [.int 2, .int l3, .ref q_1, .int l4, .ref l0]) cd_188_105 rfl rfl ?_
    refine gs_0 (pc' := 107) (L' := [some (.ref l0), some (.int l1), some (.int l2), some (.int l3), some (.int l4), some (.int l5), none]) (st' := [.int (l3 + 2), .ref q_1, .int l4, .ref l0]) cd_188_106 rfl rfl ?_
    refine gs_0 (pc' := 108) (L' := [some (.ref l0), some (.int l1), some (.int l2), some (.int l3), some (.int l4), some (.int l5), none]) (st' := [.int l2, .int (l3 + 2), .ref q_1, .int l4, .ref l0]) cd_188_107 rfl rfl ?_
    refine gs_0 (pc' := 109) (L' := [some (.ref l0), some (.int l1), some (.int l2), some (.int l3), some (.int l4), some (.int l5), none]) (st' := [.int ((l3 + 2) + l2), .ref q_1, .int l4, .ref l0]) cd_188_108 rfl rfl ?_
    obtain ⟨ht, h⟩ := gA_s h
    refine gs_iald cd_188_109 ht ?_
    refine gs_0 (pc' := 123) (L' := [some (.ref l0), some (.int l1), some (.int l2), some (.int l3), some (.int l4), some (.int l5), none]) (st' := [.int (I q_1 ((l3 + 2) + l2 : Int32).toNatClampNeg), .int l4, .ref l0]) cd_188_110 rfl rfl ?_
    exact ok_188_123 h
noncomputable def f_188_71 (K : Nat → Value) (k d : Nat) (l0 : Nat) (l1 : Int32) (l2 : Int32) (l3 : Int32) (l4 : Int32) (l5 : Int32) (w : aW) (I : aI) (J : aJ) : Option aR :=
  gO w 6 l0 (
  gV w l0 36 fun q_1 =>
  gA w 10 10 q_1 (l3 + 1) (
  lt_ (sm_up2 I q_1 (l3 + 1 : Int32).toNatClampNeg l5) fun I_2 =>
  if l1 < 4 then
    f_188_92 K k d l0 l1 l2 l3 l4 l5 w I_2 J
  else
    if ¬ l1 = 27 then
      if 21 ≤ l1 then
        gO w 6 l0 (
        cV (Cl K d 195 [.ref l0, .int l1, .int l2, .int l3] w I_2 J) fun w_3 I_4 J_5 =>
        gO w_3 6 l0 (
        gV w_3 l0 36 fun q_6 =>
        gA w_3 10 20 q_6 2 (
        gO w_3 6 l0 (
        cI (Cl K d 120 [.ref l0, .int l1, .int l2] w_3 I_4 J_5) fun x_10 w_7 I_8 J_9 =>
        gA w_7 10 10 q_6 2 (
        lt_ (sm_up2 I_8 q_6 (2 : Int32).toNatClampNeg ((I_4 q_6 (2 : Int32).toNatClampNeg) - x_10)) fun I_11 =>
        some (none, w_7, I_11, J_9))))))
      else
        gO w 6 l0 (
        cI (Cl K d 192 [.ref l0, .int l1, .int l2] w I_2 J) fun x_15 w_12 I_13 J_14 =>
        gO w_12 6 l0 (
        gV w_12 l0 36 fun q_16 =>
        gA w_12 10 20 q_16 2 (
        gO w_12 6 l0 (
        cI (Cl K d 120 [.ref l0, .int l1, .int l2] w_12 I_13 J_14) fun x_20 w_17 I_18 J_19 =>
        gA w_17 10 10 q_16 2 (
        lt_ (sm_up2 I_18 q_16 (2 : Int32).toNatClampNeg ((I_13 q_16 (2 : Int32).toNatClampNeg) - x_20)) fun I_21 =>
        gO w_17 6 l0 (
        cV (Cl K d 191 [.ref l0, .int l4, .int x_15] w_17 I_21 J_19) fun w_22 I_23 J_24 =>
        some (none, w_22, I_23, J_24)))))))
    else
      f_188_92 K k d l0 l1 l2 l3 l4 l5 w I_2 J))
theorem ok_188_71 {K : Nat → Value} {k d : Nat} {l0 : Nat} {l1 : Int32} {l2 : Int32} {l3 : Int32} {l4 : Int32} {l5 : Int32} {w : aW} {I : aI} {J : aJ} {R : aR} (h : f_188_71 K k d l0 l1 l2 l3 l4 l5 w I J = some R) : Go K (d + 1) 188 71 [some (.ref l0), some (.int l1), some (.int l2), some (.int l3), some (.int l4), some (.int l5), none] [] w I J R := by
  unfold f_188_71 at h
  refine gs_0 (pc' := 72) (L' := [some (.ref l0), some (.int l1), some (.int l2), some (.int l3), some (.int l4), some (.int l5), none]) (st' := [.ref l0]) cd_188_71 rfl rfl ?_
  obtain ⟨ht, h⟩ := gO_s h
  obtain ⟨q_1, hv, h⟩ := gV_s h
  refine gs_gfR cd_188_72 (by decide) ht hv ?_
  refine gs_0 (pc' := 76) (L' := [some (.ref l0), some (.int l1), some (.int l2), some (.int l3), some (.int l4), some (.int l5), none]) (st' := [.int l3, .ref q_1]) cd_188_75 rfl rfl ?_
  refine gs_0 (pc' := 77) (L' := [some (.ref l0), some (.int l1), some (.int l2), some (.int l3), some (.int l4), some (.int l5), none]) (st' := [.int 1, .int l3, .ref q_1]) cd_188_76 rfl rfl ?_
  refine gs_0 (pc' := 78) (L' := [some (.ref l0), some (.int l1), some (.int l2), some (.int l3), some (.int l4), some (.int l5), none]) (st' := [.int (l3 + 1), .ref q_1]) cd_188_77 rfl rfl ?_
  refine gs_0 (pc' := 80) (L' := [some (.ref l0), some (.int l1), some (.int l2), some (.int l3), some (.int l4), some (.int l5), none]) (st' := [.int l5, .int (l3 + 1), .ref q_1]) cd_188_78 rfl rfl ?_
  obtain ⟨ht, h⟩ := gA_s h
  refine gs_iast cd_188_80 ht ?_
  obtain ⟨I_2, hx, h⟩ := lt_s_ h
  rw [hx]
  refine gs_0 (pc' := 82) (L' := [some (.ref l0), some (.int l1), some (.int l2), some (.int l3), some (.int l4), some (.int l5), none]) (st' := [.int l1]) cd_188_81 rfl rfl ?_
  refine gs_0 (pc' := 83) (L' := [some (.ref l0), some (.int l1), some (.int l2), some (.int l3), some (.int l4), some (.int l5), none]) (st' := [.int 4, .int l1]) cd_188_82 rfl rfl ?_
  refine gs_0 (pc' := if l1 < 4 then 92 else 86) (L' := [some (.ref l0), some (.int l1), some (.int l2), some (.int l3), some (.int l4), some (.int l5), none]) (st' := []) cd_188_83 rfl rfl ?_
  refine go_ite (fun hc => ?_) (fun hc => ?_)
  · rw [if_pos hc] at h
    exact ok_188_92 h
  · rw [if_neg hc] at h
    refine gs_0 (pc' := 87) (L' := [some (.ref l0), some (.int l1), some (.int l2), some (.int l3), some (.int l4), some (.int l5), none]) (st' := [.int l1]) cd_188_86 rfl rfl ?_
    refine gs_0 (pc' := 89) (L' := [some (.ref l0), some (.int l1), some (.int l2), some (.int l3), some (.int l4), some (.int l5), none]) (st' := [.int 27, .int l1]) cd_188_87 rfl rfl ?_
    refine gs_0 (pc' := if ¬ l1 = 27 then 129 else 92) (L' := [some (.ref l0), some (.int l1), some (.int l2), some (.int l3), some (.int l4), some (.int l5), none]) (st' := []) cd_188_89 rfl rfl ?_
    refine go_ite (fun hc => ?_) (fun hc => ?_)
    · rw [if_pos hc] at h
      refine gs_0 (pc' := 130) (L' := [some (.ref l0), some (.int l1), some (.int l2), some (.int l3), some (.int l4), some (.int l5), none]) (st' := [.int l1]) cd_188_129 rfl rfl ?_
      refine gs_0 (pc' := 132) (L' := [some (.ref l0), some (.int l1), some (.int l2), some (.int l3), some (.int l4), some (.int l5), none]) (st' := [.int 21, .int l1]) cd_188_130 rfl rfl ?_
      refine gs_0 (pc' := if 21 ≤ l1 then 169 else 135) (L' := [some (.ref l0), some (.int l1), some (.int l2), some (.int l3), some (.int l4), some (.int l5), none]) (st' := []) cd_188_132 rfl rfl ?_
      refine go_ite (fun hc => ?_) (fun hc => ?_)
      · rw [if_pos hc] at h
        refine gs_0 (pc' := 170) (L' := [some (.ref l0), some (.int l1), some (.int l2), some (.int l3), some (.int l4), some (.int l5), none]) (st' := [.ref l0]) cd_188_169 rfl rfl ?_
        refine gs_0 (pc' := 171) (L' := [some (.ref l0), some (.int l1), some (.int l2), some (.int l3), some (.int l4), some (.int l5), none]) (st' := [.int l1, .ref l0]) cd_188_170 rfl rfl ?_
        refine gs_0 (pc' := 172) (L' := [some (.ref l0), some (.int l1), some (.int l2), some (.int l3), some (.int l4), some (.int l5), none]) (st' := [.int l2, .int l1, .ref l0]) cd_188_171 rfl rfl ?_
        refine gs_0 (pc' := 173) (L' := [some (.ref l0), some (.int l1), some (.int l2), some (.int l3), some (.int l4), some (.int l5), none]) (st' := [.int l3, .int l2, .int l1, .ref l0]) cd_188_172 rfl rfl ?_
        obtain ⟨ht, h⟩ := gO_s h
        obtain ⟨w_3, I_4, J_5, hcl, h⟩ := cV_s h
        refine gs_call (as := [.ref l0, .int l1, .int l2, .int l3]) (rest := []) cd_188_173 rfl (by decide) rfl (sm_rv_ok (by decide) ht) (Nat.le_of_ble_eq_true rfl) (Nat.le_of_ble_eq_true rfl) rfl hcl ?_
        refine gs_0 (pc' := 177) (L' := [some (.ref l0), some (.int l1), some (.int l2), some (.int l3), some (.int l4), some (.int l5), none]) (st' := [.ref l0]) cd_188_176 rfl rfl ?_
        obtain ⟨ht, h⟩ := gO_s h
        obtain ⟨q_6, hv, h⟩ := gV_s h
        refine gs_gfR cd_188_177 (by decide) ht hv ?_
        refine gs_0 (pc' := 181) (L' := [some (.ref l0), some (.int l1), some (.int l2), some (.int l3), some (.int l4), some (.int l5), none]) (st' := [.int 2, .ref q_6]) cd_188_180 rfl rfl ?_
        refine gs_0 (pc' := 182) (L' := [some (.ref l0), some (.int l1), some (.int l2), some (.int l3), some (.int l4), some (.int l5), none]) (st' := [.int 2, .ref q_6, .int 2, .ref q_6]) cd_188_181 rfl rfl ?_
        obtain ⟨ht, h⟩ := gA_s h
        refine gs_iald cd_188_182 ht ?_
        refine gs_0 (pc' := 184) (L' := [some (.ref l0), some (.int l1), some (.int l2), some (.int l3), some (.int l4), some (.int l5), none]) (st' := [.ref l0, .int (I_4 q_6 (2 : Int32).toNatClampNeg), .int 2, .ref q_6]) cd_188_183 rfl rfl ?_
        refine gs_0 (pc' := 185) (L' := [some (.ref l0), some (.int l1), some (.int l2), some (.int l3), some (.int l4), some (.int l5), none]) (st' := [.int l1, .ref l0, .int (I_4 q_6 (2 : Int32).toNatClampNeg), .int 2, .ref q_6]) cd_188_184 rfl rfl ?_
        refine gs_0 (pc' := 186) (L' := [some (.ref l0), some (.int l1), some (.int l2), some (.int l3), some (.int l4), some (.int l5), none]) (st' := [.int l2, .int l1, .ref l0, .int (I_4 q_6 (2 : Int32).toNatClampNeg), .int 2, .ref q_6]) cd_188_185 rfl rfl ?_
        obtain ⟨ht, h⟩ := gO_s h
        obtain ⟨x_10, w_7, I_8, J_9, hcl, h⟩ := cI_s h
        refine gs_call (as := [.ref l0, .int l1, .int l2]) (rest := [.int (I_4 q_6 (2 : Int32).toNatClampNeg), .int 2, .ref q_6]) cd_188_186 rfl (by decide) rfl (sm_rv_ok (by decide) ht) (Nat.le_of_ble_eq_true rfl) (Nat.le_of_ble_eq_true rfl) rfl hcl ?_
        refine gs_0 (pc' := 190) (L' := [some (.ref l0), some (.int l1), some (.int l2), some (.int l3), some (.int l4), some (.int l5), none]) (st' := [.int ((I_4 q_6 (2 : Int32).toNatClampNeg) - x_10), .int 2, .ref q_6]) cd_188_189 rfl rfl ?_
        obtain ⟨ht, h⟩ := gA_s h
        refine gs_iast cd_188_190 ht ?_
        obtain ⟨I_11, hx, h⟩ := lt_s_ h
        rw [hx]
        cases h
        exact gsr cd_188_191 rfl rfl
      · rw [if_neg hc] at h
        refine gs_0 (pc' := 136) (L' := [some (.ref l0), some (.int l1), some (.int l2), some (.int l3), some (.int l4), some (.int l5), none]) (st' := [.ref l0]) cd_188_135 rfl rfl ?_
        refine gs_0 (pc' := 137) (L' := [some (.ref l0), some (.int l1), some (.int l2), some (.int l3), some (.int l4), some (.int l5), none]) (st' := [.int l1, .ref l0]) cd_188_136 rfl rfl ?_
        refine gs_0 (pc' := 138) (L' := [some (.ref l0), some (.int l1), some (.int l2), some (.int l3), some (.int l4), some (.int l5), none]) (st' := [.int l2, .int l1, .ref l0]) cd_188_137 rfl rfl ?_
        obtain ⟨ht, h⟩ := gO_s h
        obtain ⟨x_15, w_12, I_13, J_14, hcl, h⟩ := cI_s h
        refine gs_call (as := [.ref l0, .int l1, .int l2]) (rest := []) cd_188_138 rfl (by decide) rfl (sm_rv_ok (by decide) ht) (Nat.le_of_ble_eq_true rfl) (Nat.le_of_ble_eq_true rfl) rfl hcl ?_
        refine gs_0 (pc' := 143) (L' := [some (.ref l0), some (.int l1), some (.int l2), some (.int l3), some (.int l4), some (.int l5), some (.int x_15)]) (st' := []) cd_188_141 rfl rfl ?_
        refine gs_0 (pc' := 144) (L' := [some (.ref l0), some (.int l1), some (.int l2), some (.int l3), some (.int l4), some (.int l5), some (.int x_15)]) (st' := [.ref l0]) cd_188_143 rfl rfl ?_
        obtain ⟨ht, h⟩ := gO_s h
        obtain ⟨q_16, hv, h⟩ := gV_s h
        refine gs_gfR cd_188_144 (by decide) ht hv ?_
        refine gs_0 (pc' := 148) (L' := [some (.ref l0), some (.int l1), some (.int l2), some (.int l3), some (.int l4), some (.int l5), some (.int x_15)]) (st' := [.int 2, .ref q_16]) cd_188_147 rfl rfl ?_
        refine gs_0 (pc' := 149) (L' := [some (.ref l0), some (.int l1), some (.int l2), some (.int l3), some (.int l4), some (.int l5), some (.int x_15)]) (st' := [.int 2, .ref q_16, .int 2, .ref q_16]) cd_188_148 rfl rfl ?_
        obtain ⟨ht, h⟩ := gA_s h
        refine gs_iald cd_188_149 ht ?_
        refine gs_0 (pc' := 151) (L' := [some (.ref l0), some (.int l1), some (.int l2), some (.int l3), some (.int l4), some (.int l5), some (.int x_15)]) (st' := [.ref l0, .int (I_13 q_16 (2 : Int32).toNatClampNeg), .int 2, .ref q_16]) cd_188_150 rfl rfl ?_
        refine gs_0 (pc' := 152) (L' := [some (.ref l0), some (.int l1), some (.int l2), some (.int l3), some (.int l4), some (.int l5), some (.int x_15)]) (st' := [.int l1, .ref l0, .int (I_13 q_16 (2 : Int32).toNatClampNeg), .int 2, .ref q_16]) cd_188_151 rfl rfl ?_
        refine gs_0 (pc' := 153) (L' := [some (.ref l0), some (.int l1), some (.int l2), some (.int l3), some (.int l4), some (.int l5), some (.int x_15)]) (st' := [.int l2, .int l1, .ref l0, .int (I_13 q_16 (2 : Int32).toNatClampNeg), .int 2, .ref q_16]) cd_188_152 rfl rfl ?_
        obtain ⟨ht, h⟩ := gO_s h
        obtain ⟨x_20, w_17, I_18, J_19, hcl, h⟩ := cI_s h
        refine gs_call (as := [.ref l0, .int l1, .int l2]) (rest := [.int (I_13 q_16 (2 : Int32).toNatClampNeg), .int 2, .ref q_16]) cd_188_153 rfl (by decide) rfl (sm_rv_ok (by decide) ht) (Nat.le_of_ble_eq_true rfl) (Nat.le_of_ble_eq_true rfl) rfl hcl ?_
        refine gs_0 (pc' := 157) (L' := [some (.ref l0), some (.int l1), some (.int l2), some (.int l3), some (.int l4), some (.int l5), some (.int x_15)]) (st' := [.int ((I_13 q_16 (2 : Int32).toNatClampNeg) - x_20), .int 2, .ref q_16]) cd_188_156 rfl rfl ?_
        obtain ⟨ht, h⟩ := gA_s h
        refine gs_iast cd_188_157 ht ?_
        obtain ⟨I_21, hx, h⟩ := lt_s_ h
        rw [hx]
        refine gs_0 (pc' := 159) (L' := [some (.ref l0), some (.int l1), some (.int l2), some (.int l3), some (.int l4), some (.int l5), some (.int x_15)]) (st' := [.ref l0]) cd_188_158 rfl rfl ?_
        refine gs_0 (pc' := 161) (L' := [some (.ref l0), some (.int l1), some (.int l2), some (.int l3), some (.int l4), some (.int l5), some (.int x_15)]) (st' := [.int l4, .ref l0]) cd_188_159 rfl rfl ?_
        refine gs_0 (pc' := 163) (L' := [some (.ref l0), some (.int l1), some (.int l2), some (.int l3), some (.int l4), some (.int l5), some (.int x_15)]) (st' := [.int x_15, .int l4, .ref l0]) cd_188_161 rfl rfl ?_
        obtain ⟨ht, h⟩ := gO_s h
        obtain ⟨w_22, I_23, J_24, hcl, h⟩ := cV_s h
        refine gs_call (as := [.ref l0, .int l4, .int x_15]) (rest := []) cd_188_163 rfl (by decide) rfl (sm_rv_ok (by decide) ht) (Nat.le_of_ble_eq_true rfl) (Nat.le_of_ble_eq_true rfl) rfl hcl ?_
        refine gs_0 (pc' := 191) (L' := [some (.ref l0), some (.int l1), some (.int l2), some (.int l3), some (.int l4), some (.int l5), some (.int x_15)]) (st' := []) cd_188_166 rfl rfl ?_
        cases h
        exact gsr cd_188_191 rfl rfl
    · rw [if_neg hc] at h
      exact ok_188_92 h
noncomputable def f_188_68 (K : Nat → Value) (k d : Nat) (l0 : Nat) (l1 : Int32) (l2 : Int32) (l3 : Int32) (l4 : Int32) (l5 : Int32) (w : aW) (I : aI) (J : aJ) : Option aR :=
  f_188_71 K k d l0 l1 l2 l3 l4 l2 w I J
theorem ok_188_68 {K : Nat → Value} {k d : Nat} {l0 : Nat} {l1 : Int32} {l2 : Int32} {l3 : Int32} {l4 : Int32} {l5 : Int32} {w : aW} {I : aI} {J : aJ} {R : aR} (h : f_188_68 K k d l0 l1 l2 l3 l4 l5 w I J = some R) : Go K (d + 1) 188 68 [some (.ref l0), some (.int l1), some (.int l2), some (.int l3), some (.int l4), some (.int l5), none] [] w I J R := by
  unfold f_188_68 at h
  refine gs_0 (pc' := 69) (L' := [some (.ref l0), some (.int l1), some (.int l2), some (.int l3), some (.int l4), some (.int l5), none]) (st' := [.int l2]) cd_188_68 rfl rfl ?_
  refine gs_0 (pc' := 71) (L' := [some (.ref l0), some (.int l1), some (.int l2), some (.int l3), some (.int l4), some (.int l2), none]) (st' := []) cd_188_69 rfl rfl ?_
  exact ok_188_71 h
noncomputable def f_188 (K : Nat → Value) (k d : Nat) (l0 : Nat) (l1 : Int32) (l2 : Int32) (l3 : Int32) (w : aW) (I : aI) (J : aJ) : Option aR :=
  gO w 6 l0 (
  gV w l0 36 fun q_1 =>
  gA w 10 20 q_1 l3 (
  gO w 6 l0 (
  cI (Cl K d 122 [.ref l0, .int l1, .int l2, .int (I q_1 (l3 : Int32).toNatClampNeg)] w I J) fun x_5 w_2 I_3 J_4 =>
  gO w_2 6 l0 (
  gV w_2 l0 36 fun q_6 =>
  gA w_2 10 20 q_6 (l3 + 1) (
  lt_ ((I_3 q_6 (l3 + 1 : Int32).toNatClampNeg) + 1) fun x_7 =>
  if ¬ l1 = 4 then
    if ¬ l1 = 25 then
      if l1 = 24 then
        f_188_68 K k d l0 l1 l2 l3 x_5 x_7 w_2 I_3 J_4
      else
        if ¬ l1 = 23 then
          f_188_71 K k d l0 l1 l2 l3 x_5 x_7 w_2 I_3 J_4
        else
          gO w_2 6 l0 (
          cI (Cl K d 181 [.ref l0, .int 1] w_2 I_3 J_4) fun x_11 w_8 I_9 J_10 =>
          if ¬ x_11 = 0 then
            f_188_71 K k d l0 l1 l2 l3 x_5 x_7 w_8 I_9 J_10
          else
            f_188_68 K k d l0 l1 l2 l3 x_5 x_7 w_8 I_9 J_10)
    else
      gO w_2 6 l0 (
      cV (Cl K d 190 [.ref l0] w_2 I_3 J_4) fun w_12 I_13 J_14 =>
      some (none, w_12, I_13, J_14))
  else
    gO w_2 6 l0 (
    cV (Cl K d 189 [.ref l0, .int l2] w_2 I_3 J_4) fun w_15 I_16 J_17 =>
    some (none, w_15, I_16, J_17)))))))
theorem ok_188 {K : Nat → Value} {k d : Nat} {l0 : Nat} {l1 : Int32} {l2 : Int32} {l3 : Int32} {w : aW} {I : aI} {J : aJ} {R : aR} (h : f_188 K k d l0 l1 l2 l3 w I J = some R) : Go K (d + 1) 188 0 [some (.ref l0), some (.int l1), some (.int l2), some (.int l3), none, none, none] [] w I J R := by
  unfold f_188 at h
  refine gs_0 (pc' := 1) (L' := [some (.ref l0), some (.int l1), some (.int l2), some (.int l3), none, none, none]) (st' := [.ref l0]) cd_188_0 rfl rfl ?_
  refine gs_0 (pc' := 2) (L' := [some (.ref l0), some (.int l1), some (.int l2), some (.int l3), none, none, none]) (st' := [.int l1, .ref l0]) cd_188_1 rfl rfl ?_
  refine gs_0 (pc' := 3) (L' := [some (.ref l0), some (.int l1), some (.int l2), some (.int l3), none, none, none]) (st' := [.int l2, .int l1, .ref l0]) cd_188_2 rfl rfl ?_
  refine gs_0 (pc' := 4) (L' := [some (.ref l0), some (.int l1), some (.int l2), some (.int l3), none, none, none]) (st' := [.ref l0, .int l2, .int l1, .ref l0]) cd_188_3 rfl rfl ?_
  obtain ⟨ht, h⟩ := gO_s h
  obtain ⟨q_1, hv, h⟩ := gV_s h
  refine gs_gfR cd_188_4 (by decide) ht hv ?_
  refine gs_0 (pc' := 8) (L' := [some (.ref l0), some (.int l1), some (.int l2), some (.int l3), none, none, none]) (st' := [.int l3, .ref q_1, .int l2, .int l1, .ref l0]) cd_188_7 rfl rfl ?_
  obtain ⟨ht, h⟩ := gA_s h
  refine gs_iald cd_188_8 ht ?_
  obtain ⟨ht, h⟩ := gO_s h
  obtain ⟨x_5, w_2, I_3, J_4, hcl, h⟩ := cI_s h
  refine gs_call (as := [.ref l0, .int l1, .int l2, .int (I q_1 (l3 : Int32).toNatClampNeg)]) (rest := []) cd_188_9 rfl (by decide) rfl (sm_rv_ok (by decide) ht) (Nat.le_of_ble_eq_true rfl) (Nat.le_of_ble_eq_true rfl) rfl hcl ?_
  refine gs_0 (pc' := 14) (L' := [some (.ref l0), some (.int l1), some (.int l2), some (.int l3), some (.int x_5), none, none]) (st' := []) cd_188_12 rfl rfl ?_
  refine gs_0 (pc' := 15) (L' := [some (.ref l0), some (.int l1), some (.int l2), some (.int l3), some (.int x_5), none, none]) (st' := [.ref l0]) cd_188_14 rfl rfl ?_
  obtain ⟨ht, h⟩ := gO_s h
  obtain ⟨q_6, hv, h⟩ := gV_s h
  refine gs_gfR cd_188_15 (by decide) ht hv ?_
  refine gs_0 (pc' := 19) (L' := [some (.ref l0), some (.int l1), some (.int l2), some (.int l3), some (.int x_5), none, none]) (st' := [.int l3, .ref q_6]) cd_188_18 rfl rfl ?_
  refine gs_0 (pc' := 20) (L' := [some (.ref l0), some (.int l1), some (.int l2), some (.int l3), some (.int x_5), none, none]) (st' := [.int 1, .int l3, .ref q_6]) cd_188_19 rfl rfl ?_
  refine gs_0 (pc' := 21) (L' := [some (.ref l0), some (.int l1), some (.int l2), some (.int l3), some (.int x_5), none, none]) (st' := [.int (l3 + 1), .ref q_6]) cd_188_20 rfl rfl ?_
  obtain ⟨ht, h⟩ := gA_s h
  refine gs_iald cd_188_21 ht ?_
  refine gs_0 (pc' := 23) (L' := [some (.ref l0), some (.int l1), some (.int l2), some (.int l3), some (.int x_5), none, none]) (st' := [.int 1, .int (I_3 q_6 (l3 + 1 : Int32).toNatClampNeg)]) cd_188_22 rfl rfl ?_
  refine gs_0 (pc' := 24) (L' := [some (.ref l0), some (.int l1), some (.int l2), some (.int l3), some (.int x_5), none, none]) (st' := [.int ((I_3 q_6 (l3 + 1 : Int32).toNatClampNeg) + 1)]) cd_188_23 rfl rfl ?_
  refine gs_0 (pc' := 26) (L' := [some (.ref l0), some (.int l1), some (.int l2), some (.int l3), some (.int x_5), some (.int ((I_3 q_6 (l3 + 1 : Int32).toNatClampNeg) + 1)), none]) (st' := []) cd_188_24 rfl rfl ?_
  obtain ⟨x_7, hx, h⟩ := lt_s_ h
  rw [hx]
  clear hx
  refine gs_0 (pc' := 27) (L' := [some (.ref l0), some (.int l1), some (.int l2), some (.int l3), some (.int x_5), some (.int x_7), none]) (st' := [.int l1]) cd_188_26 rfl rfl ?_
  refine gs_0 (pc' := 28) (L' := [some (.ref l0), some (.int l1), some (.int l2), some (.int l3), some (.int x_5), some (.int x_7), none]) (st' := [.int 4, .int l1]) cd_188_27 rfl rfl ?_
  refine gs_0 (pc' := if ¬ l1 = 4 then 37 else 31) (L' := [some (.ref l0), some (.int l1), some (.int l2), some (.int l3), some (.int x_5), some (.int x_7), none]) (st' := []) cd_188_28 rfl rfl ?_
  refine go_ite (fun hc => ?_) (fun hc => ?_)
  · rw [if_pos hc] at h
    refine gs_0 (pc' := 38) (L' := [some (.ref l0), some (.int l1), some (.int l2), some (.int l3), some (.int x_5), some (.int x_7), none]) (st' := [.int l1]) cd_188_37 rfl rfl ?_
    refine gs_0 (pc' := 40) (L' := [some (.ref l0), some (.int l1), some (.int l2), some (.int l3), some (.int x_5), some (.int x_7), none]) (st' := [.int 25, .int l1]) cd_188_38 rfl rfl ?_
    refine gs_0 (pc' := if ¬ l1 = 25 then 48 else 43) (L' := [some (.ref l0), some (.int l1), some (.int l2), some (.int l3), some (.int x_5), some (.int x_7), none]) (st' := []) cd_188_40 rfl rfl ?_
    refine go_ite (fun hc => ?_) (fun hc => ?_)
    · rw [if_pos hc] at h
      refine gs_0 (pc' := 49) (L' := [some (.ref l0), some (.int l1), some (.int l2), some (.int l3), some (.int x_5), some (.int x_7), none]) (st' := [.int l1]) cd_188_48 rfl rfl ?_
      refine gs_0 (pc' := 51) (L' := [some (.ref l0), some (.int l1), some (.int l2), some (.int l3), some (.int x_5), some (.int x_7), none]) (st' := [.int 24, .int l1]) cd_188_49 rfl rfl ?_
      refine gs_0 (pc' := if l1 = 24 then 68 else 54) (L' := [some (.ref l0), some (.int l1), some (.int l2), some (.int l3), some (.int x_5), some (.int x_7), none]) (st' := []) cd_188_51 rfl rfl ?_
      refine go_ite (fun hc => ?_) (fun hc => ?_)
      · rw [if_pos hc] at h
        exact ok_188_68 h
      · rw [if_neg hc] at h
        refine gs_0 (pc' := 55) (L' := [some (.ref l0), some (.int l1), some (.int l2), some (.int l3), some (.int x_5), some (.int x_7), none]) (st' := [.int l1]) cd_188_54 rfl rfl ?_
        refine gs_0 (pc' := 57) (L' := [some (.ref l0), some (.int l1), some (.int l2), some (.int l3), some (.int x_5), some (.int x_7), none]) (st' := [.int 23, .int l1]) cd_188_55 rfl rfl ?_
        refine gs_0 (pc' := if ¬ l1 = 23 then 71 else 60) (L' := [some (.ref l0), some (.int l1), some (.int l2), some (.int l3), some (.int x_5), some (.int x_7), none]) (st' := []) cd_188_57 rfl rfl ?_
        refine go_ite (fun hc => ?_) (fun hc => ?_)
        · rw [if_pos hc] at h
          exact ok_188_71 h
        · rw [if_neg hc] at h
          refine gs_0 (pc' := 61) (L' := [some (.ref l0), some (.int l1), some (.int l2), some (.int l3), some (.int x_5), some (.int x_7), none]) (st' := [.ref l0]) cd_188_60 rfl rfl ?_
          refine gs_0 (pc' := 62) (L' := [some (.ref l0), some (.int l1), some (.int l2), some (.int l3), some (.int x_5), some (.int x_7), none]) (st' := [.int 1, .ref l0]) cd_188_61 rfl rfl ?_
          obtain ⟨ht, h⟩ := gO_s h
          obtain ⟨x_11, w_8, I_9, J_10, hcl, h⟩ := cI_s h
          refine gs_call (as := [.ref l0, .int 1]) (rest := []) cd_188_62 rfl (by decide) rfl (sm_rv_ok (by decide) ht) (Nat.le_of_ble_eq_true rfl) (Nat.le_of_ble_eq_true rfl) rfl hcl ?_
          refine gs_0 (pc' := if ¬ x_11 = 0 then 71 else 68) (L' := [some (.ref l0), some (.int l1), some (.int l2), some (.int l3), some (.int x_5), some (.int x_7), none]) (st' := []) cd_188_65 rfl rfl ?_
          refine go_ite (fun hc => ?_) (fun hc => ?_)
          · rw [if_pos hc] at h
            exact ok_188_71 h
          · rw [if_neg hc] at h
            exact ok_188_68 h
    · rw [if_neg hc] at h
      refine gs_0 (pc' := 44) (L' := [some (.ref l0), some (.int l1), some (.int l2), some (.int l3), some (.int x_5), some (.int x_7), none]) (st' := [.ref l0]) cd_188_43 rfl rfl ?_
      obtain ⟨ht, h⟩ := gO_s h
      obtain ⟨w_12, I_13, J_14, hcl, h⟩ := cV_s h
      refine gs_call (as := [.ref l0]) (rest := []) cd_188_44 rfl (by decide) rfl (sm_rv_ok (by decide) ht) (Nat.le_of_ble_eq_true rfl) (Nat.le_of_ble_eq_true rfl) rfl hcl ?_
      cases h
      exact gsr cd_188_47 rfl rfl
  · rw [if_neg hc] at h
    refine gs_0 (pc' := 32) (L' := [some (.ref l0), some (.int l1), some (.int l2), some (.int l3), some (.int x_5), some (.int x_7), none]) (st' := [.ref l0]) cd_188_31 rfl rfl ?_
    refine gs_0 (pc' := 33) (L' := [some (.ref l0), some (.int l1), some (.int l2), some (.int l3), some (.int x_5), some (.int x_7), none]) (st' := [.int l2, .ref l0]) cd_188_32 rfl rfl ?_
    obtain ⟨ht, h⟩ := gO_s h
    obtain ⟨w_15, I_16, J_17, hcl, h⟩ := cV_s h
    refine gs_call (as := [.ref l0, .int l2]) (rest := []) cd_188_33 rfl (by decide) rfl (sm_rv_ok (by decide) ht) (Nat.le_of_ble_eq_true rfl) (Nat.le_of_ble_eq_true rfl) rfl hcl ?_
    cases h
    exact gsr cd_188_36 rfl rfl
theorem cl_188 {K : Nat → Value} {k d : Nat} {l0 : Nat} {l1 : Int32} {l2 : Int32} {l3 : Int32} {w : aW} {I : aI} {J : aJ} {R : aR} (h : f_188 K k d l0 l1 l2 l3 w I J = some R) : Cl K (d + 1) 188 [.ref l0, .int l1, .int l2, .int l3] w I J = some R := Cl_of (ok_188 h)
/-! ProvedMachineModel.calls(I)V -/
set_option maxRecDepth 20000 in
theorem gl_189 : gcd.lookup 189 = some gw_189 := rfl
theorem cd_189_0 : sm_cd 189 0 = some (.aload_n 0, 1, 0, 0, 0, 0, 0, 0, 0) := cd_of gl_189 rfl
theorem cd_189_1 : sm_cd 189 1 = some (.getfield 47, 3, 6, 18, 2, 0, 0, 0, 0) := cd_of gl_189 rfl
theorem cd_189_4 : sm_cd 189 4 = some (.bipush 10, 2, 0, 0, 0, 0, 0, 10, 0) := cd_of gl_189 rfl
theorem cd_189_6 : sm_cd 189 6 = some (.iload_n 1, 1, 1, 0, 0, 0, 0, 0, 0) := cd_of gl_189 rfl
theorem cd_189_7 : sm_cd 189 7 = some (.imul, 1, 0, 0, 0, 0, 0, 0, 0) := cd_of gl_189 rfl
theorem cd_189_8 : sm_cd 189 8 = some (.iconst 1, 1, 0, 0, 0, 0, 0, 1, 0) := cd_of gl_189 rfl
theorem cd_189_9 : sm_cd 189 9 = some (.iadd, 1, 0, 0, 0, 0, 0, 0, 0) := cd_of gl_189 rfl
theorem cd_189_10 : sm_cd 189 10 = some (.iaload, 1, 0, 0, 0, 0, 0, 0, 0) := cd_of gl_189 rfl
theorem cd_189_11 : sm_cd 189 11 = some (.istore_n 2, 1, 2, 0, 0, 0, 0, 0, 0) := cd_of gl_189 rfl
theorem cd_189_12 : sm_cd 189 12 = some (.bipush 70, 2, 0, 0, 0, 0, 0, 70, 0) := cd_of gl_189 rfl
theorem cd_189_14 : sm_cd 189 14 = some (.bipush 8, 2, 0, 0, 0, 0, 0, 8, 0) := cd_of gl_189 rfl
theorem cd_189_16 : sm_cd 189 16 = some (.aload_n 0, 1, 0, 0, 0, 0, 0, 0, 0) := cd_of gl_189 rfl
theorem cd_189_17 : sm_cd 189 17 = some (.getfield 111, 3, 6, 36, 2, 0, 0, 0, 0) := cd_of gl_189 rfl
theorem cd_189_20 : sm_cd 189 20 = some (.iconst 1, 1, 0, 0, 0, 0, 0, 1, 0) := cd_of gl_189 rfl
theorem cd_189_21 : sm_cd 189 21 = some (.iaload, 1, 0, 0, 0, 0, 0, 0, 0) := cd_of gl_189 rfl
theorem cd_189_22 : sm_cd 189 22 = some (.imul, 1, 0, 0, 0, 0, 0, 0, 0) := cd_of gl_189 rfl
theorem cd_189_23 : sm_cd 189 23 = some (.iadd, 1, 0, 0, 0, 0, 0, 0, 0) := cd_of gl_189 rfl
theorem cd_189_24 : sm_cd 189 24 = some (.istore_n 3, 1, 3, 0, 0, 0, 0, 0, 0) := cd_of gl_189 rfl
theorem cd_189_25 : sm_cd 189 25 = some (.iconst 0, 1, 0, 0, 0, 0, 0, 0, 0) := cd_of gl_189 rfl
theorem cd_189_26 : sm_cd 189 26 = some (.istore 4, 2, 4, 0, 0, 0, 0, 0, 0) := cd_of gl_189 rfl
theorem cd_189_28 : sm_cd 189 28 = some (.iload 4, 2, 4, 0, 0, 0, 0, 0, 0) := cd_of gl_189 rfl
theorem cd_189_30 : sm_cd 189 30 = some (.bipush 6, 2, 0, 0, 0, 0, 0, 6, 0) := cd_of gl_189 rfl
theorem cd_189_32 : sm_cd 189 32 = some (.if_icmp .ge 38, 3, 70, 0, 0, 0, 0, 0, 0) := cd_of gl_189 rfl
theorem cd_189_35 : sm_cd 189 35 = some (.aload_n 0, 1, 0, 0, 0, 0, 0, 0, 0) := cd_of gl_189 rfl
theorem cd_189_36 : sm_cd 189 36 = some (.getfield 111, 3, 6, 36, 2, 0, 0, 0, 0) := cd_of gl_189 rfl
theorem cd_189_39 : sm_cd 189 39 = some (.iload_n 3, 1, 3, 0, 0, 0, 0, 0, 0) := cd_of gl_189 rfl
theorem cd_189_40 : sm_cd 189 40 = some (.iconst 2, 1, 0, 0, 0, 0, 0, 2, 0) := cd_of gl_189 rfl
theorem cd_189_41 : sm_cd 189 41 = some (.iadd, 1, 0, 0, 0, 0, 0, 0, 0) := cd_of gl_189 rfl
theorem cd_189_42 : sm_cd 189 42 = some (.iload 4, 2, 4, 0, 0, 0, 0, 0, 0) := cd_of gl_189 rfl
theorem cd_189_44 : sm_cd 189 44 = some (.iadd, 1, 0, 0, 0, 0, 0, 0, 0) := cd_of gl_189 rfl
theorem cd_189_45 : sm_cd 189 45 = some (.iload 4, 2, 4, 0, 0, 0, 0, 0, 0) := cd_of gl_189 rfl
theorem cd_189_47 : sm_cd 189 47 = some (.iload_n 2, 1, 2, 0, 0, 0, 0, 0, 0) := cd_of gl_189 rfl
theorem cd_189_48 : sm_cd 189 48 = some (.if_icmp .ge 14, 3, 62, 0, 0, 0, 0, 0, 0) := cd_of gl_189 rfl
theorem cd_189_51 : sm_cd 189 51 = some (.aload_n 0, 1, 0, 0, 0, 0, 0, 0, 0) := cd_of gl_189 rfl
theorem cd_189_52 : sm_cd 189 52 = some (.iload_n 2, 1, 2, 0, 0, 0, 0, 0, 0) := cd_of gl_189 rfl
theorem cd_189_53 : sm_cd 189 53 = some (.iload 4, 2, 4, 0, 0, 0, 0, 0, 0) := cd_of gl_189 rfl
theorem cd_189_55 : sm_cd 189 55 = some (.isub, 1, 0, 0, 0, 0, 0, 0, 0) := cd_of gl_189 rfl
theorem cd_189_56 : sm_cd 189 56 = some (.invokevirtual 375, 3, 181, 0, 1, 2, 6, 0, 0) := cd_of gl_189 rfl
theorem cd_189_59 : sm_cd 189 59 = some (.goto 4, 3, 63, 0, 0, 0, 0, 0, 0) := cd_of gl_189 rfl
theorem cd_189_62 : sm_cd 189 62 = some (.iconst 0, 1, 0, 0, 0, 0, 0, 0, 0) := cd_of gl_189 rfl
theorem cd_189_63 : sm_cd 189 63 = some (.iastore, 1, 0, 0, 0, 0, 0, 0, 0) := cd_of gl_189 rfl
theorem cd_189_64 : sm_cd 189 64 = some (.iinc 4 1, 3, 4, 0, 0, 0, 0, 1, 0) := cd_of gl_189 rfl
theorem cd_189_67 : sm_cd 189 67 = some (.goto (-39), 3, 28, 0, 0, 0, 0, 0, 0) := cd_of gl_189 rfl
theorem cd_189_70 : sm_cd 189 70 = some (.aload_n 0, 1, 0, 0, 0, 0, 0, 0, 0) := cd_of gl_189 rfl
theorem cd_189_71 : sm_cd 189 71 = some (.getfield 111, 3, 6, 36, 2, 0, 0, 0, 0) := cd_of gl_189 rfl
theorem cd_189_74 : sm_cd 189 74 = some (.iload_n 3, 1, 3, 0, 0, 0, 0, 0, 0) := cd_of gl_189 rfl
theorem cd_189_75 : sm_cd 189 75 = some (.iload_n 1, 1, 1, 0, 0, 0, 0, 0, 0) := cd_of gl_189 rfl
theorem cd_189_76 : sm_cd 189 76 = some (.iastore, 1, 0, 0, 0, 0, 0, 0, 0) := cd_of gl_189 rfl
theorem cd_189_77 : sm_cd 189 77 = some (.aload_n 0, 1, 0, 0, 0, 0, 0, 0, 0) := cd_of gl_189 rfl
theorem cd_189_78 : sm_cd 189 78 = some (.getfield 111, 3, 6, 36, 2, 0, 0, 0, 0) := cd_of gl_189 rfl
theorem cd_189_81 : sm_cd 189 81 = some (.iload_n 3, 1, 3, 0, 0, 0, 0, 0, 0) := cd_of gl_189 rfl
theorem cd_189_82 : sm_cd 189 82 = some (.iconst 1, 1, 0, 0, 0, 0, 0, 1, 0) := cd_of gl_189 rfl
theorem cd_189_83 : sm_cd 189 83 = some (.iadd, 1, 0, 0, 0, 0, 0, 0, 0) := cd_of gl_189 rfl
theorem cd_189_84 : sm_cd 189 84 = some (.aload_n 0, 1, 0, 0, 0, 0, 0, 0, 0) := cd_of gl_189 rfl
theorem cd_189_85 : sm_cd 189 85 = some (.getfield 47, 3, 6, 18, 2, 0, 0, 0, 0) := cd_of gl_189 rfl
theorem cd_189_88 : sm_cd 189 88 = some (.bipush 10, 2, 0, 0, 0, 0, 0, 10, 0) := cd_of gl_189 rfl
theorem cd_189_90 : sm_cd 189 90 = some (.iload_n 1, 1, 1, 0, 0, 0, 0, 0, 0) := cd_of gl_189 rfl
theorem cd_189_91 : sm_cd 189 91 = some (.imul, 1, 0, 0, 0, 0, 0, 0, 0) := cd_of gl_189 rfl
theorem cd_189_92 : sm_cd 189 92 = some (.iaload, 1, 0, 0, 0, 0, 0, 0, 0) := cd_of gl_189 rfl
theorem cd_189_93 : sm_cd 189 93 = some (.iastore, 1, 0, 0, 0, 0, 0, 0, 0) := cd_of gl_189 rfl
theorem cd_189_94 : sm_cd 189 94 = some (.aload_n 0, 1, 0, 0, 0, 0, 0, 0, 0) := cd_of gl_189 rfl
theorem cd_189_95 : sm_cd 189 95 = some (.getfield 111, 3, 6, 36, 2, 0, 0, 0, 0) := cd_of gl_189 rfl
theorem cd_189_98 : sm_cd 189 98 = some (.iconst 2, 1, 0, 0, 0, 0, 0, 2, 0) := cd_of gl_189 rfl
theorem cd_189_99 : sm_cd 189 99 = some (.dup2, 1, 0, 0, 0, 0, 0, 0, 0) := cd_of gl_189 rfl
theorem cd_189_100 : sm_cd 189 100 = some (.iaload, 1, 0, 0, 0, 0, 0, 0, 0) := cd_of gl_189 rfl
theorem cd_189_101 : sm_cd 189 101 = some (.iload_n 2, 1, 2, 0, 0, 0, 0, 0, 0) := cd_of gl_189 rfl
theorem cd_189_102 : sm_cd 189 102 = some (.isub, 1, 0, 0, 0, 0, 0, 0, 0) := cd_of gl_189 rfl
theorem cd_189_103 : sm_cd 189 103 = some (.iastore, 1, 0, 0, 0, 0, 0, 0, 0) := cd_of gl_189 rfl
theorem cd_189_104 : sm_cd 189 104 = some (.aload_n 0, 1, 0, 0, 0, 0, 0, 0, 0) := cd_of gl_189 rfl
theorem cd_189_105 : sm_cd 189 105 = some (.getfield 111, 3, 6, 36, 2, 0, 0, 0, 0) := cd_of gl_189 rfl
theorem cd_189_108 : sm_cd 189 108 = some (.iconst 1, 1, 0, 0, 0, 0, 0, 1, 0) := cd_of gl_189 rfl
theorem cd_189_109 : sm_cd 189 109 = some (.dup2, 1, 0, 0, 0, 0, 0, 0, 0) := cd_of gl_189 rfl
theorem cd_189_110 : sm_cd 189 110 = some (.iaload, 1, 0, 0, 0, 0, 0, 0, 0) := cd_of gl_189 rfl
theorem cd_189_111 : sm_cd 189 111 = some (.iconst 1, 1, 0, 0, 0, 0, 0, 1, 0) := cd_of gl_189 rfl
theorem cd_189_112 : sm_cd 189 112 = some (.iadd, 1, 0, 0, 0, 0, 0, 0, 0) := cd_of gl_189 rfl
theorem cd_189_113 : sm_cd 189 113 = some (.iastore, 1, 0, 0, 0, 0, 0, 0, 0) := cd_of gl_189 rfl
theorem cd_189_114 : sm_cd 189 114 = some (.return_, 1, 0, 0, 0, 0, 0, 0, 0) := cd_of gl_189 rfl
noncomputable def f_189_63 (K : Nat → Value) (k d : Nat) (r28 : Nat → Int32 → Int32 → Int32 → Int32 → aW → aI → aJ → Option aR) (l0 : Nat) (l1 : Int32) (l2 : Int32) (l3 : Int32) (l4 : Int32) (s0 : Nat) (s1 : Int32) (s2 : Int32) (w : aW) (I : aI) (J : aJ) : Option aR :=
  gA w 10 10 s0 s1 (
  lt_ (sm_up2 I s0 (s1 : Int32).toNatClampNeg s2) fun I_1 =>
  lt_ (l4 + 1) fun x_2 =>
  r28 l0 l1 l2 l3 x_2 w I_1 J)
theorem ok_189_63 {K : Nat → Value} {k d : Nat} {r28 : Nat → Int32 → Int32 → Int32 → Int32 → aW → aI → aJ → Option aR} (hr28 : ∀ (l0 : Nat) (l1 : Int32) (l2 : Int32) (l3 : Int32) (l4 : Int32) (w : aW) (I : aI) (J : aJ) (R : aR), r28 l0 l1 l2 l3 l4 w I J = some R → Go K (d + 1) 189 28 [some (.ref l0), some (.int l1), some (.int l2), some (.int l3), some (.int l4)] [] w I J R) {l0 : Nat} {l1 : Int32} {l2 : Int32} {l3 : Int32} {l4 : Int32} {s0 : Nat} {s1 : Int32} {s2 : Int32} {w : aW} {I : aI} {J : aJ} {R : aR} (h : f_189_63 K k d r28 l0 l1 l2 l3 l4 s0 s1 s2 w I J = some R) : Go K (d + 1) 189 63 [some (.ref l0), some (.int l1), some (.int l2), some (.int l3), some (.int l4)] [.int s2, .int s1, .ref s0] w I J R := by
  unfold f_189_63 at h
  obtain ⟨ht, h⟩ := gA_s h
  refine gs_iast cd_189_63 ht ?_
  obtain ⟨I_1, hx, h⟩ := lt_s_ h
  rw [hx]
  refine gs_0 (pc' := 67) (L' := [some (.ref l0), some (.int l1), some (.int l2), some (.int l3), some (.int (l4 + 1))]) (st' := []) cd_189_64 rfl rfl ?_
  obtain ⟨x_2, hx, h⟩ := lt_s_ h
  rw [hx]
  clear hx
  refine gs_0 (pc' := 28) (L' := [some (.ref l0), some (.int l1), some (.int l2), some (.int l3), some (.int x_2)]) (st' := []) cd_189_67 rfl rfl ?_
  exact hr28 l0 l1 l2 l3 x_2 _ _ _ _ h
noncomputable def f_189_28 (K : Nat → Value) (k : Nat) (d : Nat) : Nat → Int32 → Int32 → Int32 → Int32 → aW → aI → aJ → Option aR :=
  match k with
  | 0 => fun _ _ _ _ _ _ _ _ => none
  | k + 1 => fun l0 l1 l2 l3 l4 w I J =>
  lt_ (f_189_28 K k d) fun r28 =>
  if 6 ≤ l4 then
    gO w 6 l0 (
    gV w l0 36 fun q_1 =>
    gA w 10 10 q_1 l3 (
    lt_ (sm_up2 I q_1 (l3 : Int32).toNatClampNeg l1) fun I_2 =>
    gO w 6 l0 (
    gV w l0 36 fun q_3 =>
    gO w 6 l0 (
    gV w l0 18 fun q_4 =>
    gA w 10 20 q_4 (10 * l1) (
    gA w 10 10 q_3 (l3 + 1) (
    lt_ (sm_up2 I_2 q_3 (l3 + 1 : Int32).toNatClampNeg (I_2 q_4 (10 * l1 : Int32).toNatClampNeg)) fun I_5 =>
    gO w 6 l0 (
    gV w l0 36 fun q_6 =>
    gA w 10 20 q_6 2 (
    gA w 10 10 q_6 2 (
    lt_ (sm_up2 I_5 q_6 (2 : Int32).toNatClampNeg ((I_5 q_6 (2 : Int32).toNatClampNeg) - l2)) fun I_7 =>
    gO w 6 l0 (
    gV w l0 36 fun q_8 =>
    gA w 10 20 q_8 1 (
    gA w 10 10 q_8 1 (
    lt_ (sm_up2 I_7 q_8 (1 : Int32).toNatClampNeg ((I_7 q_8 (1 : Int32).toNatClampNeg) + 1)) fun I_9 =>
    some (none, w, I_9, J)))))))))))))
  else
    gO w 6 l0 (
    gV w l0 36 fun q_10 =>
    if l2 ≤ l4 then
      f_189_63 K k d r28 l0 l1 l2 l3 l4 q_10 ((l3 + 2) + l4) 0 w I J
    else
      gO w 6 l0 (
      cI (Cl K d 181 [.ref l0, .int (l2 - l4)] w I J) fun x_14 w_11 I_12 J_13 =>
      f_189_63 K k d r28 l0 l1 l2 l3 l4 q_10 ((l3 + 2) + l4) x_14 w_11 I_12 J_13))
theorem ok_189_28 {K : Nat → Value} {d : Nat} : ∀ {k : Nat} {l0 : Nat} {l1 : Int32} {l2 : Int32} {l3 : Int32} {l4 : Int32} {w : aW} {I : aI} {J : aJ} {R : aR}, f_189_28 K k d l0 l1 l2 l3 l4 w I J = some R → Go K (d + 1) 189 28 [some (.ref l0), some (.int l1), some (.int l2), some (.int l3), some (.int l4)] [] w I J R := by
  intro k
  induction k with
  | zero => intro l0 l1 l2 l3 l4 w I J R h; cases h
  | succ k ih =>
    intro l0 l1 l2 l3 l4 w I J R h
    have hr28 : ∀ (l0 : Nat) (l1 : Int32) (l2 : Int32) (l3 : Int32) (l4 : Int32) (w : aW) (I : aI) (J : aJ) (R : aR), f_189_28 K k d l0 l1 l2 l3 l4 w I J = some R → Go K (d + 1) 189 28 [some (.ref l0), some (.int l1), some (.int l2), some (.int l3), some (.int l4)] [] w I J R := fun l0 l1 l2 l3 l4 w I J R h => ih h
    rw [f_189_28] at h
    obtain ⟨r28, hx, h⟩ := lt_s_ h
    rw [hx] at hr28
    clear hx ih
    refine gs_0 (pc' := 30) (L' := [some (.ref l0), some (.int l1), some (.int l2), some (.int l3), some (.int l4)]) (st' := [.int l4]) cd_189_28 rfl rfl ?_
    refine gs_0 (pc' := 32) (L' := [some (.ref l0), some (.int l1), some (.int l2), some (.int l3), some (.int l4)]) (st' := [.int 6, .int l4]) cd_189_30 rfl rfl ?_
    refine gs_0 (pc' := if 6 ≤ l4 then 70 else 35) (L' := [some (.ref l0), some (.int l1), some (.int l2), some (.int l3), some (.int l4)]) (st' := []) cd_189_32 rfl rfl ?_
    refine go_ite (fun hc => ?_) (fun hc => ?_)
    · rw [if_pos hc] at h
      refine gs_0 (pc' := 71) (L' := [some (.ref l0), some (.int l1), some (.int l2), some (.int l3), some (.int l4)]) (st' := [.ref l0]) cd_189_70 rfl rfl ?_
      obtain ⟨ht, h⟩ := gO_s h
      obtain ⟨q_1, hv, h⟩ := gV_s h
      refine gs_gfR cd_189_71 (by decide) ht hv ?_
      refine gs_0 (pc' := 75) (L' := [some (.ref l0), some (.int l1), some (.int l2), some (.int l3), some (.int l4)]) (st' := [.int l3, .ref q_1]) cd_189_74 rfl rfl ?_
      refine gs_0 (pc' := 76) (L' := [some (.ref l0), some (.int l1), some (.int l2), some (.int l3), some (.int l4)]) (st' := [.int l1, .int l3, .ref q_1]) cd_189_75 rfl rfl ?_
      obtain ⟨ht, h⟩ := gA_s h
      refine gs_iast cd_189_76 ht ?_
      obtain ⟨I_2, hx, h⟩ := lt_s_ h
      rw [hx]
      refine gs_0 (pc' := 78) (L' := [some (.ref l0), some (.int l1), some (.int l2), some (.int l3), some (.int l4)]) (st' := [.ref l0]) cd_189_77 rfl rfl ?_
      obtain ⟨ht, h⟩ := gO_s h
      obtain ⟨q_3, hv, h⟩ := gV_s h
      refine gs_gfR cd_189_78 (by decide) ht hv ?_
      refine gs_0 (pc' := 82) (L' := [some (.ref l0), some (.int l1), some (.int l2), some (.int l3), some (.int l4)]) (st' := [.int l3, .ref q_3]) cd_189_81 rfl rfl ?_
      refine gs_0 (pc' := 83) (L' := [some (.ref l0), some (.int l1), some (.int l2), some (.int l3), some (.int l4)]) (st' := [.int 1, .int l3, .ref q_3]) cd_189_82 rfl rfl ?_
      refine gs_0 (pc' := 84) (L' := [some (.ref l0), some (.int l1), some (.int l2), some (.int l3), some (.int l4)]) (st' := [.int (l3 + 1), .ref q_3]) cd_189_83 rfl rfl ?_
      refine gs_0 (pc' := 85) (L' := [some (.ref l0), some (.int l1), some (.int l2), some (.int l3), some (.int l4)]) (st' := [.ref l0, .int (l3 + 1), .ref q_3]) cd_189_84 rfl rfl ?_
      obtain ⟨ht, h⟩ := gO_s h
      obtain ⟨q_4, hv, h⟩ := gV_s h
      refine gs_gfR cd_189_85 (by decide) ht hv ?_
      refine gs_0 (pc' := 90) (L' := [some (.ref l0), some (.int l1), some (.int l2), some (.int l3), some (.int l4)]) (st' := [.int 10, .ref q_4, .int (l3 + 1), .ref q_3]) cd_189_88 rfl rfl ?_
      refine gs_0 (pc' := 91) (L' := [some (.ref l0), some (.int l1), some (.int l2), some (.int l3), some (.int l4)]) (st' := [.int l1, .int 10, .ref q_4, .int (l3 + 1), .ref q_3]) cd_189_90 rfl rfl ?_
      refine gs_0 (pc' := 92) (L' := [some (.ref l0), some (.int l1), some (.int l2), some (.int l3), some (.int l4)]) (st' := [.int (10 * l1), .ref q_4, .int (l3 + 1), .ref q_3]) cd_189_91 rfl rfl ?_
      obtain ⟨ht, h⟩ := gA_s h
      refine gs_iald cd_189_92 ht ?_
      obtain ⟨ht, h⟩ := gA_s h
      refine gs_iast cd_189_93 ht ?_
      obtain ⟨I_5, hx, h⟩ := lt_s_ h
      rw [hx]
      refine gs_0 (pc' := 95) (L' := [some (.ref l0), some (.int l1), some (.int l2), some (.int l3), some (.int l4)]) (st' := [.ref l0]) cd_189_94 rfl rfl ?_
      obtain ⟨ht, h⟩ := gO_s h
      obtain ⟨q_6, hv, h⟩ := gV_s h
      refine gs_gfR cd_189_95 (by decide) ht hv ?_
      refine gs_0 (pc' := 99) (L' := [some (.ref l0), some (.int l1), some (.int l2), some (.int l3), some (.int l4)]) (st' := [.int 2, .ref q_6]) cd_189_98 rfl rfl ?_
      refine gs_0 (pc' := 100) (L' := [some (.ref l0), some (.int l1), some (.int l2), some (.int l3), some (.int l4)]) (st' := [.int 2, .ref q_6, .int 2, .ref q_6]) cd_189_99 rfl rfl ?_
      obtain ⟨ht, h⟩ := gA_s h
      refine gs_iald cd_189_100 ht ?_
      refine gs_0 (pc' := 102) (L' := [some (.ref l0), some (.int l1), some (.int l2), some (.int l3), some (.int l4)]) (st' := [.int l2, .int (I_5 q_6 (2 : Int32).toNatClampNeg), .int 2, .ref q_6]) cd_189_101 rfl rfl ?_
      refine gs_0 (pc' := 103) (L' := [some (.ref l0), some (.int l1), some (.int l2), some (.int l3), some (.int l4)]) (st' := [.int ((I_5 q_6 (2 : Int32).toNatClampNeg) - l2), .int 2, .ref q_6]) cd_189_102 rfl rfl ?_
      obtain ⟨ht, h⟩ := gA_s h
      refine gs_iast cd_189_103 ht ?_
      obtain ⟨I_7, hx, h⟩ := lt_s_ h
      rw [hx]
      refine gs_0 (pc' := 105) (L' := [some (.ref l0), some (.int l1), some (.int l2), some (.int l3), some (.int l4)]) (st' := [.ref l0]) cd_189_104 rfl rfl ?_
      obtain ⟨ht, h⟩ := gO_s h
      obtain ⟨q_8, hv, h⟩ := gV_s h
      refine gs_gfR cd_189_105 (by decide) ht hv ?_
      refine gs_0 (pc' := 109) (L' := [some (.ref l0), some (.int l1), some (.int l2), some (.int l3), some (.int l4)]) (st' := [.int 1, .ref q_8]) cd_189_108 rfl rfl ?_
      refine gs_0 (pc' := 110) (L' := [some (.ref l0), some (.int l1), some (.int l2), some (.int l3), some (.int l4)]) (st' := [.int 1, .ref q_8, .int 1, .ref q_8]) cd_189_109 rfl rfl ?_
      obtain ⟨ht, h⟩ := gA_s h
      refine gs_iald cd_189_110 ht ?_
      refine gs_0 (pc' := 112) (L' := [some (.ref l0), some (.int l1), some (.int l2), some (.int l3), some (.int l4)]) (st' := [.int 1, .int (I_7 q_8 (1 : Int32).toNatClampNeg), .int 1, .ref q_8]) cd_189_111 rfl rfl ?_
      refine gs_0 (pc' := 113) (L' := [some (.ref l0), some (.int l1), some (.int l2), some (.int l3), some (.int l4)]) (st' := [.int ((I_7 q_8 (1 : Int32).toNatClampNeg) + 1), .int 1, .ref q_8]) cd_189_112 rfl rfl ?_
      obtain ⟨ht, h⟩ := gA_s h
      refine gs_iast cd_189_113 ht ?_
      obtain ⟨I_9, hx, h⟩ := lt_s_ h
      rw [hx]
      cases h
      exact gsr cd_189_114 rfl rfl
    · rw [if_neg hc] at h
      refine gs_0 (pc' := 36) (L' := [some (.ref l0), some (.int l1), some (.int l2), some (.int l3), some (.int l4)]) (st' := [.ref l0]) cd_189_35 rfl rfl ?_
      obtain ⟨ht, h⟩ := gO_s h
      obtain ⟨q_10, hv, h⟩ := gV_s h
      refine gs_gfR cd_189_36 (by decide) ht hv ?_
      refine gs_0 (pc' := 40) (L' := [some (.ref l0), some (.int l1), some (.int l2), some (.int l3), some (.int l4)]) (st' := [.int l3, .ref q_10]) cd_189_39 rfl rfl ?_
      refine gs_0 (pc' := 41) (L' := [some (.ref l0), some (.int l1), some (.int l2), some (.int l3), some (.int l4)]) (st' := [.int 2, .int l3, .ref q_10]) cd_189_40 rfl rfl ?_
      refine gs_0 (pc' := 42) (L' := [some (.ref l0), some (.int l1), some (.int l2), some (.int l3), some (.int l4)]) (st' := [.int (l3 + 2), .ref q_10]) cd_189_41 rfl rfl ?_
      refine gs_0 (pc' := 44) (L' := [some (.ref l0), some (.int l1), some (.int l2), some (.int l3), some (.int l4)]) (st' := [.int l4, .int (l3 + 2), .ref q_10]) cd_189_42 rfl rfl ?_
      refine gs_0 (pc' := 45) (L' := [some (.ref l0), some (.int l1), some (.int l2), some (.int l3), some (.int l4)]) (st' := [.int ((l3 + 2) + l4), .ref q_10]) cd_189_44 rfl rfl ?_
      refine gs_0 (pc' := 47) (L' := [some (.ref l0), some (.int l1), some (.int l2), some (.int l3), some (.int l4)]) (st' := [.int l4, .int ((l3 + 2) + l4), .ref q_10]) cd_189_45 rfl rfl ?_
      refine gs_0 (pc' := 48) (L' := [some (.ref l0), some (.int l1), some (.int l2), some (.int l3), some (.int l4)]) (st' := [.int l2, .int l4, .int ((l3 + 2) + l4), .ref q_10]) cd_189_47 rfl rfl ?_
      refine gs_0 (pc' := if l2 ≤ l4 then 62 else 51) (L' := [some (.ref l0), some (.int l1), some (.int l2), some (.int l3), some (.int l4)]) (st' := [.int ((l3 + 2) + l4), .ref q_10]) cd_189_48 rfl rfl ?_
      refine go_ite (fun hc => ?_) (fun hc => ?_)
      · rw [if_pos hc] at h
        refine gs_0 (pc' := 63) (L' := [some (.ref l0), some (.int l1), some (.int l2), some (.int l3), some (.int l4)]) (st' := [.int 0, .int ((l3 + 2) + l4), .ref q_10]) cd_189_62 rfl rfl ?_
        exact ok_189_63 hr28 h
      · rw [if_neg hc] at h
        refine gs_0 (pc' := 52) (L' := [some (.ref l0), some (.int l1), some (.int l2), some (.int l3), some (.int l4)]) (st' := [.ref l0, .int ((l3 + 2) + l4), .ref q_10]) cd_189_51 rfl rfl ?_
        refine gs_0 (pc' := 53) (L' := [some (.ref l0), some (.int l1), some (.int l2), some (.int l3), some (.int l4)]) (st' := [.int l2, .ref l0, .int ((l3 + 2) + l4), .ref q_10]) cd_189_52 rfl rfl ?_
        refine gs_0 (pc' := 55) (L' := [some (.ref l0), some (.int l1), some (.int l2), some (.int l3), some (.int l4)]) (st' := [.int l4, .int l2, .ref l0, .int ((l3 + 2) + l4), .ref q_10]) cd_189_53 rfl rfl ?_
        refine gs_0 (pc' := 56) (L' := [some (.ref l0), some (.int l1), some (.int l2), some (.int l3), some (.int l4)]) (st' := [.int (l2 - l4), .ref l0, .int ((l3 + 2) + l4), .ref q_10]) cd_189_55 rfl rfl ?_
        obtain ⟨ht, h⟩ := gO_s h
        obtain ⟨x_14, w_11, I_12, J_13, hcl, h⟩ := cI_s h
        refine gs_call (as := [.ref l0, .int (l2 - l4)]) (rest := [.int ((l3 + 2) + l4), .ref q_10]) cd_189_56 rfl (by decide) rfl (sm_rv_ok (by decide) ht) (Nat.le_of_ble_eq_true rfl) (Nat.le_of_ble_eq_true rfl) rfl hcl ?_
        refine gs_0 (pc' := 63) (L' := [some (.ref l0), some (.int l1), some (.int l2), some (.int l3), some (.int l4)]) (st' := [.int x_14, .int ((l3 + 2) + l4), .ref q_10]) cd_189_59 rfl rfl ?_
        exact ok_189_63 hr28 h
noncomputable def f_189 (K : Nat → Value) (k d : Nat) (l0 : Nat) (l1 : Int32) (w : aW) (I : aI) (J : aJ) : Option aR :=
  gO w 6 l0 (
  gV w l0 18 fun q_1 =>
  gA w 10 20 q_1 ((10 * l1) + 1) (
  lt_ (I q_1 ((10 * l1) + 1 : Int32).toNatClampNeg) fun x_2 =>
  gO w 6 l0 (
  gV w l0 36 fun q_3 =>
  gA w 10 20 q_3 1 (
  lt_ (70 + (8 * (I q_3 (1 : Int32).toNatClampNeg))) fun x_4 =>
  f_189_28 K k d l0 l1 x_2 x_4 0 w I J))))
theorem ok_189 {K : Nat → Value} {k d : Nat} {l0 : Nat} {l1 : Int32} {w : aW} {I : aI} {J : aJ} {R : aR} (h : f_189 K k d l0 l1 w I J = some R) : Go K (d + 1) 189 0 [some (.ref l0), some (.int l1), none, none, none] [] w I J R := by
  unfold f_189 at h
  refine gs_0 (pc' := 1) (L' := [some (.ref l0), some (.int l1), none, none, none]) (st' := [.ref l0]) cd_189_0 rfl rfl ?_
  obtain ⟨ht, h⟩ := gO_s h
  obtain ⟨q_1, hv, h⟩ := gV_s h
  refine gs_gfR cd_189_1 (by decide) ht hv ?_
  refine gs_0 (pc' := 6) (L' := [some (.ref l0), some (.int l1), none, none, none]) (st' := [.int 10, .ref q_1]) cd_189_4 rfl rfl ?_
  refine gs_0 (pc' := 7) (L' := [some (.ref l0), some (.int l1), none, none, none]) (st' := [.int l1, .int 10, .ref q_1]) cd_189_6 rfl rfl ?_
  refine gs_0 (pc' := 8) (L' := [some (.ref l0), some (.int l1), none, none, none]) (st' := [.int (10 * l1), .ref q_1]) cd_189_7 rfl rfl ?_
  refine gs_0 (pc' := 9) (L' := [some (.ref l0), some (.int l1), none, none, none]) (st' := [.int 1, .int (10 * l1), .ref q_1]) cd_189_8 rfl rfl ?_
  refine gs_0 (pc' := 10) (L' := [some (.ref l0), some (.int l1), none, none, none]) (st' := [.int ((10 * l1) + 1), .ref q_1]) cd_189_9 rfl rfl ?_
  obtain ⟨ht, h⟩ := gA_s h
  refine gs_iald cd_189_10 ht ?_
  refine gs_0 (pc' := 12) (L' := [some (.ref l0), some (.int l1), some (.int (I q_1 ((10 * l1) + 1 : Int32).toNatClampNeg)), none, none]) (st' := []) cd_189_11 rfl rfl ?_
  obtain ⟨x_2, hx, h⟩ := lt_s_ h
  rw [hx]
  clear hx
  refine gs_0 (pc' := 14) (L' := [some (.ref l0), some (.int l1), some (.int x_2), none, none]) (st' := [.int 70]) cd_189_12 rfl rfl ?_
  refine gs_0 (pc' := 16) (L' := [some (.ref l0), some (.int l1), some (.int x_2), none, none]) (st' := [.int 8, .int 70]) cd_189_14 rfl rfl ?_
  refine gs_0 (pc' := 17) (L' := [some (.ref l0), some (.int l1), some (.int x_2), none, none]) (st' := [.ref l0, .int 8, .int 70]) cd_189_16 rfl rfl ?_
  obtain ⟨ht, h⟩ := gO_s h
  obtain ⟨q_3, hv, h⟩ := gV_s h
  refine gs_gfR cd_189_17 (by decide) ht hv ?_
  refine gs_0 (pc' := 21) (L' := [some (.ref l0), some (.int l1), some (.int x_2), none, none]) (st' := [.int 1, .ref q_3, .int 8, .int 70]) cd_189_20 rfl rfl ?_
  obtain ⟨ht, h⟩ := gA_s h
  refine gs_iald cd_189_21 ht ?_
  refine gs_0 (pc' := 23) (L' := [some (.ref l0), some (.int l1), some (.int x_2), none, none]) (st' := [.int (8 * (I q_3 (1 : Int32).toNatClampNeg)), .int 70]) cd_189_22 rfl rfl ?_
  refine gs_0 (pc' := 24) (L' := [some (.ref l0), some (.int l1), some (.int x_2), none, none]) (st' := [.int (70 + (8 * (I q_3 (1 : Int32).toNatClampNeg)))]) cd_189_23 rfl rfl ?_
  refine gs_0 (pc' := 25) (L' := [some (.ref l0), some (.int l1), some (.int x_2), some (.int (70 + (8 * (I q_3 (1 : Int32).toNatClampNeg)))), none]) (st' := []) cd_189_24 rfl rfl ?_
  obtain ⟨x_4, hx, h⟩ := lt_s_ h
  rw [hx]
  clear hx
  refine gs_0 (pc' := 26) (L' := [some (.ref l0), some (.int l1), some (.int x_2), some (.int x_4), none]) (st' := [.int 0]) cd_189_25 rfl rfl ?_
  refine gs_0 (pc' := 28) (L' := [some (.ref l0), some (.int l1), some (.int x_2), some (.int x_4), some (.int 0)]) (st' := []) cd_189_26 rfl rfl ?_
  exact ok_189_28 h
theorem cl_189 {K : Nat → Value} {k d : Nat} {l0 : Nat} {l1 : Int32} {w : aW} {I : aI} {J : aJ} {R : aR} (h : f_189 K k d l0 l1 w I J = some R) : Cl K (d + 1) 189 [.ref l0, .int l1] w I J = some R := Cl_of (ok_189 h)
/-! ProvedMachineModel.ends()V -/
set_option maxRecDepth 20000 in
theorem gl_190 : gcd.lookup 190 = some gw_190 := rfl
theorem cd_190_0 : sm_cd 190 0 = some (.aload_n 0, 1, 0, 0, 0, 0, 0, 0, 0) := cd_of gl_190 rfl
theorem cd_190_1 : sm_cd 190 1 = some (.iconst 1, 1, 0, 0, 0, 0, 0, 1, 0) := cd_of gl_190 rfl
theorem cd_190_2 : sm_cd 190 2 = some (.invokevirtual 375, 3, 181, 0, 1, 2, 6, 0, 0) := cd_of gl_190 rfl
theorem cd_190_5 : sm_cd 190 5 = some (.istore_n 1, 1, 1, 0, 0, 0, 0, 0, 0) := cd_of gl_190 rfl
theorem cd_190_6 : sm_cd 190 6 = some (.aload_n 0, 1, 0, 0, 0, 0, 0, 0, 0) := cd_of gl_190 rfl
theorem cd_190_7 : sm_cd 190 7 = some (.getfield 111, 3, 6, 36, 2, 0, 0, 0, 0) := cd_of gl_190 rfl
theorem cd_190_10 : sm_cd 190 10 = some (.bipush 40, 2, 0, 0, 0, 0, 0, 40, 0) := cd_of gl_190 rfl
theorem cd_190_12 : sm_cd 190 12 = some (.aload_n 0, 1, 0, 0, 0, 0, 0, 0, 0) := cd_of gl_190 rfl
theorem cd_190_13 : sm_cd 190 13 = some (.getfield 111, 3, 6, 36, 2, 0, 0, 0, 0) := cd_of gl_190 rfl
theorem cd_190_16 : sm_cd 190 16 = some (.iconst 2, 1, 0, 0, 0, 0, 0, 2, 0) := cd_of gl_190 rfl
theorem cd_190_17 : sm_cd 190 17 = some (.iaload, 1, 0, 0, 0, 0, 0, 0, 0) := cd_of gl_190 rfl
theorem cd_190_18 : sm_cd 190 18 = some (.iadd, 1, 0, 0, 0, 0, 0, 0, 0) := cd_of gl_190 rfl
theorem cd_190_19 : sm_cd 190 19 = some (.iconst 1, 1, 0, 0, 0, 0, 0, 1, 0) := cd_of gl_190 rfl
theorem cd_190_20 : sm_cd 190 20 = some (.isub, 1, 0, 0, 0, 0, 0, 0, 0) := cd_of gl_190 rfl
theorem cd_190_21 : sm_cd 190 21 = some (.iaload, 1, 0, 0, 0, 0, 0, 0, 0) := cd_of gl_190 rfl
theorem cd_190_22 : sm_cd 190 22 = some (.istore_n 2, 1, 2, 0, 0, 0, 0, 0, 0) := cd_of gl_190 rfl
theorem cd_190_23 : sm_cd 190 23 = some (.aload_n 0, 1, 0, 0, 0, 0, 0, 0, 0) := cd_of gl_190 rfl
theorem cd_190_24 : sm_cd 190 24 = some (.getfield 111, 3, 6, 36, 2, 0, 0, 0, 0) := cd_of gl_190 rfl
theorem cd_190_27 : sm_cd 190 27 = some (.iconst 2, 1, 0, 0, 0, 0, 0, 2, 0) := cd_of gl_190 rfl
theorem cd_190_28 : sm_cd 190 28 = some (.dup2, 1, 0, 0, 0, 0, 0, 0, 0) := cd_of gl_190 rfl
theorem cd_190_29 : sm_cd 190 29 = some (.iaload, 1, 0, 0, 0, 0, 0, 0, 0) := cd_of gl_190 rfl
theorem cd_190_30 : sm_cd 190 30 = some (.iconst 1, 1, 0, 0, 0, 0, 0, 1, 0) := cd_of gl_190 rfl
theorem cd_190_31 : sm_cd 190 31 = some (.isub, 1, 0, 0, 0, 0, 0, 0, 0) := cd_of gl_190 rfl
theorem cd_190_32 : sm_cd 190 32 = some (.iastore, 1, 0, 0, 0, 0, 0, 0, 0) := cd_of gl_190 rfl
theorem cd_190_33 : sm_cd 190 33 = some (.aload_n 0, 1, 0, 0, 0, 0, 0, 0, 0) := cd_of gl_190 rfl
theorem cd_190_34 : sm_cd 190 34 = some (.getfield 111, 3, 6, 36, 2, 0, 0, 0, 0) := cd_of gl_190 rfl
theorem cd_190_37 : sm_cd 190 37 = some (.iconst 1, 1, 0, 0, 0, 0, 0, 1, 0) := cd_of gl_190 rfl
theorem cd_190_38 : sm_cd 190 38 = some (.dup2, 1, 0, 0, 0, 0, 0, 0, 0) := cd_of gl_190 rfl
theorem cd_190_39 : sm_cd 190 39 = some (.iaload, 1, 0, 0, 0, 0, 0, 0, 0) := cd_of gl_190 rfl
theorem cd_190_40 : sm_cd 190 40 = some (.iconst 1, 1, 0, 0, 0, 0, 0, 1, 0) := cd_of gl_190 rfl
theorem cd_190_41 : sm_cd 190 41 = some (.isub, 1, 0, 0, 0, 0, 0, 0, 0) := cd_of gl_190 rfl
theorem cd_190_42 : sm_cd 190 42 = some (.iastore, 1, 0, 0, 0, 0, 0, 0, 0) := cd_of gl_190 rfl
theorem cd_190_43 : sm_cd 190 43 = some (.aload_n 0, 1, 0, 0, 0, 0, 0, 0, 0) := cd_of gl_190 rfl
theorem cd_190_44 : sm_cd 190 44 = some (.getfield 111, 3, 6, 36, 2, 0, 0, 0, 0) := cd_of gl_190 rfl
theorem cd_190_47 : sm_cd 190 47 = some (.iconst 1, 1, 0, 0, 0, 0, 0, 1, 0) := cd_of gl_190 rfl
theorem cd_190_48 : sm_cd 190 48 = some (.iaload, 1, 0, 0, 0, 0, 0, 0, 0) := cd_of gl_190 rfl
theorem cd_190_49 : sm_cd 190 49 = some (.ifCond .ne 19, 3, 68, 0, 0, 0, 0, 0, 0) := cd_of gl_190 rfl
theorem cd_190_52 : sm_cd 190 52 = some (.aload_n 0, 1, 0, 0, 0, 0, 0, 0, 0) := cd_of gl_190 rfl
theorem cd_190_53 : sm_cd 190 53 = some (.getfield 111, 3, 6, 36, 2, 0, 0, 0, 0) := cd_of gl_190 rfl
theorem cd_190_56 : sm_cd 190 56 = some (.bipush 6, 2, 0, 0, 0, 0, 0, 6, 0) := cd_of gl_190 rfl
theorem cd_190_58 : sm_cd 190 58 = some (.iload_n 1, 1, 1, 0, 0, 0, 0, 0, 0) := cd_of gl_190 rfl
theorem cd_190_59 : sm_cd 190 59 = some (.iastore, 1, 0, 0, 0, 0, 0, 0, 0) := cd_of gl_190 rfl
theorem cd_190_60 : sm_cd 190 60 = some (.aload_n 0, 1, 0, 0, 0, 0, 0, 0, 0) := cd_of gl_190 rfl
theorem cd_190_61 : sm_cd 190 61 = some (.getfield 111, 3, 6, 36, 2, 0, 0, 0, 0) := cd_of gl_190 rfl
theorem cd_190_64 : sm_cd 190 64 = some (.iconst 0, 1, 0, 0, 0, 0, 0, 0, 0) := cd_of gl_190 rfl
theorem cd_190_65 : sm_cd 190 65 = some (.iconst 1, 1, 0, 0, 0, 0, 0, 1, 0) := cd_of gl_190 rfl
theorem cd_190_66 : sm_cd 190 66 = some (.iastore, 1, 0, 0, 0, 0, 0, 0, 0) := cd_of gl_190 rfl
theorem cd_190_67 : sm_cd 190 67 = some (.return_, 1, 0, 0, 0, 0, 0, 0, 0) := cd_of gl_190 rfl
theorem cd_190_68 : sm_cd 190 68 = some (.aload_n 0, 1, 0, 0, 0, 0, 0, 0, 0) := cd_of gl_190 rfl
theorem cd_190_69 : sm_cd 190 69 = some (.iload_n 2, 1, 2, 0, 0, 0, 0, 0, 0) := cd_of gl_190 rfl
theorem cd_190_70 : sm_cd 190 70 = some (.iload_n 1, 1, 1, 0, 0, 0, 0, 0, 0) := cd_of gl_190 rfl
theorem cd_190_71 : sm_cd 190 71 = some (.invokevirtual 391, 3, 191, 0, 2, 3, 6, 0, 0) := cd_of gl_190 rfl
theorem cd_190_74 : sm_cd 190 74 = some (.aload_n 0, 1, 0, 0, 0, 0, 0, 0, 0) := cd_of gl_190 rfl
theorem cd_190_75 : sm_cd 190 75 = some (.getfield 111, 3, 6, 36, 2, 0, 0, 0, 0) := cd_of gl_190 rfl
theorem cd_190_78 : sm_cd 190 78 = some (.aload_n 0, 1, 0, 0, 0, 0, 0, 0, 0) := cd_of gl_190 rfl
theorem cd_190_79 : sm_cd 190 79 = some (.invokevirtual 394, 3, 179, 0, 0, 1, 6, 0, 0) := cd_of gl_190 rfl
theorem cd_190_82 : sm_cd 190 82 = some (.iconst 1, 1, 0, 0, 0, 0, 0, 1, 0) := cd_of gl_190 rfl
theorem cd_190_83 : sm_cd 190 83 = some (.iadd, 1, 0, 0, 0, 0, 0, 0, 0) := cd_of gl_190 rfl
theorem cd_190_84 : sm_cd 190 84 = some (.dup2, 1, 0, 0, 0, 0, 0, 0, 0) := cd_of gl_190 rfl
theorem cd_190_85 : sm_cd 190 85 = some (.iaload, 1, 0, 0, 0, 0, 0, 0, 0) := cd_of gl_190 rfl
theorem cd_190_86 : sm_cd 190 86 = some (.iconst 1, 1, 0, 0, 0, 0, 0, 1, 0) := cd_of gl_190 rfl
theorem cd_190_87 : sm_cd 190 87 = some (.iadd, 1, 0, 0, 0, 0, 0, 0, 0) := cd_of gl_190 rfl
theorem cd_190_88 : sm_cd 190 88 = some (.iastore, 1, 0, 0, 0, 0, 0, 0, 0) := cd_of gl_190 rfl
theorem cd_190_89 : sm_cd 190 89 = some (.return_, 1, 0, 0, 0, 0, 0, 0, 0) := cd_of gl_190 rfl
noncomputable def f_190 (K : Nat → Value) (k d : Nat) (l0 : Nat) (w : aW) (I : aI) (J : aJ) : Option aR :=
  gO w 6 l0 (
  cI (Cl K d 181 [.ref l0, .int 1] w I J) fun x_4 w_1 I_2 J_3 =>
  gO w_1 6 l0 (
  gV w_1 l0 36 fun q_5 =>
  gO w_1 6 l0 (
  gV w_1 l0 36 fun q_6 =>
  gA w_1 10 20 q_6 2 (
  gA w_1 10 20 q_5 ((40 + (I_2 q_6 (2 : Int32).toNatClampNeg)) - 1) (
  lt_ (I_2 q_5 ((40 + (I_2 q_6 (2 : Int32).toNatClampNeg)) - 1 : Int32).toNatClampNeg) fun x_7 =>
  gO w_1 6 l0 (
  gV w_1 l0 36 fun q_8 =>
  gA w_1 10 20 q_8 2 (
  gA w_1 10 10 q_8 2 (
  lt_ (sm_up2 I_2 q_8 (2 : Int32).toNatClampNeg ((I_2 q_8 (2 : Int32).toNatClampNeg) - 1)) fun I_9 =>
  gO w_1 6 l0 (
  gV w_1 l0 36 fun q_10 =>
  gA w_1 10 20 q_10 1 (
  gA w_1 10 10 q_10 1 (
  lt_ (sm_up2 I_9 q_10 (1 : Int32).toNatClampNeg ((I_9 q_10 (1 : Int32).toNatClampNeg) - 1)) fun I_11 =>
  gO w_1 6 l0 (
  gV w_1 l0 36 fun q_12 =>
  gA w_1 10 20 q_12 1 (
  if ¬ (I_11 q_12 (1 : Int32).toNatClampNeg) = 0 then
    gO w_1 6 l0 (
    cV (Cl K d 191 [.ref l0, .int x_7, .int x_4] w_1 I_11 J_3) fun w_13 I_14 J_15 =>
    gO w_13 6 l0 (
    gV w_13 l0 36 fun q_16 =>
    gO w_13 6 l0 (
    cI (Cl K d 179 [.ref l0] w_13 I_14 J_15) fun x_20 w_17 I_18 J_19 =>
    gA w_17 10 20 q_16 (x_20 + 1) (
    gA w_17 10 10 q_16 (x_20 + 1) (
    lt_ (sm_up2 I_18 q_16 (x_20 + 1 : Int32).toNatClampNeg ((I_18 q_16 (x_20 + 1 : Int32).toNatClampNeg) + 1)) fun I_21 =>
    some (none, w_17, I_21, J_19))))))
  else
    gO w_1 6 l0 (
    gV w_1 l0 36 fun q_22 =>
    gA w_1 10 10 q_22 6 (
    lt_ (sm_up2 I_11 q_22 (6 : Int32).toNatClampNeg x_4) fun I_23 =>
    gO w_1 6 l0 (
    gV w_1 l0 36 fun q_24 =>
    gA w_1 10 10 q_24 0 (
    lt_ (sm_up2 I_23 q_24 (0 : Int32).toNatClampNeg 1) fun I_25 =>
    some (none, w_1, I_25, J_3))))))))))))))))))
theorem ok_190 {K : Nat → Value} {k d : Nat} {l0 : Nat} {w : aW} {I : aI} {J : aJ} {R : aR} (h : f_190 K k d l0 w I J = some R) : Go K (d + 1) 190 0 [some (.ref l0), none, none] [] w I J R := by
  unfold f_190 at h
  refine gs_0 (pc' := 1) (L' := [some (.ref l0), none, none]) (st' := [.ref l0]) cd_190_0 rfl rfl ?_
  refine gs_0 (pc' := 2) (L' := [some (.ref l0), none, none]) (st' := [.int 1, .ref l0]) cd_190_1 rfl rfl ?_
  obtain ⟨ht, h⟩ := gO_s h
  obtain ⟨x_4, w_1, I_2, J_3, hcl, h⟩ := cI_s h
  refine gs_call (as := [.ref l0, .int 1]) (rest := []) cd_190_2 rfl (by decide) rfl (sm_rv_ok (by decide) ht) (Nat.le_of_ble_eq_true rfl) (Nat.le_of_ble_eq_true rfl) rfl hcl ?_
  refine gs_0 (pc' := 6) (L' := [some (.ref l0), some (.int x_4), none]) (st' := []) cd_190_5 rfl rfl ?_
  refine gs_0 (pc' := 7) (L' := [some (.ref l0), some (.int x_4), none]) (st' := [.ref l0]) cd_190_6 rfl rfl ?_
  obtain ⟨ht, h⟩ := gO_s h
  obtain ⟨q_5, hv, h⟩ := gV_s h
  refine gs_gfR cd_190_7 (by decide) ht hv ?_
  refine gs_0 (pc' := 12) (L' := [some (.ref l0), some (.int x_4), none]) (st' := [.int 40, .ref q_5]) cd_190_10 rfl rfl ?_
  refine gs_0 (pc' := 13) (L' := [some (.ref l0), some (.int x_4), none]) (st' := [.ref l0, .int 40, .ref q_5]) cd_190_12 rfl rfl ?_
  obtain ⟨ht, h⟩ := gO_s h
  obtain ⟨q_6, hv, h⟩ := gV_s h
  refine gs_gfR cd_190_13 (by decide) ht hv ?_
  refine gs_0 (pc' := 17) (L' := [some (.ref l0), some (.int x_4), none]) (st' := [.int 2, .ref q_6, .int 40, .ref q_5]) cd_190_16 rfl rfl ?_
  obtain ⟨ht, h⟩ := gA_s h
  refine gs_iald cd_190_17 ht ?_
  refine gs_0 (pc' := 19) (L' := [some (.ref l0), some (.int x_4), none]) (st' := [.int (40 + (I_2 q_6 (2 : Int32).toNatClampNeg)), .ref q_5]) cd_190_18 rfl rfl ?_
  refine gs_0 (pc' := 20) (L' := [some (.ref l0), some (.int x_4), none]) (st' := [.int 1, .int (40 + (I_2 q_6 (2 : Int32).toNatClampNeg)), .ref q_5]) cd_190_19 rfl rfl ?_
  refine gs_0 (pc' := 21) (L' := [some (.ref l0), some (.int x_4), none]) (st' := [.int ((40 + (I_2 q_6 (2 : Int32).toNatClampNeg)) - 1), .ref q_5]) cd_190_20 rfl rfl ?_
  obtain ⟨ht, h⟩ := gA_s h
  refine gs_iald cd_190_21 ht ?_
  refine gs_0 (pc' := 23) (L' := [some (.ref l0), some (.int x_4), some (.int (I_2 q_5 ((40 + (I_2 q_6 (2 : Int32).toNatClampNeg)) - 1 : Int32).toNatClampNeg))]) (st' := []) cd_190_22 rfl rfl ?_
  obtain ⟨x_7, hx, h⟩ := lt_s_ h
  rw [hx]
  clear hx
  refine gs_0 (pc' := 24) (L' := [some (.ref l0), some (.int x_4), some (.int x_7)]) (st' := [.ref l0]) cd_190_23 rfl rfl ?_
  obtain ⟨ht, h⟩ := gO_s h
  obtain ⟨q_8, hv, h⟩ := gV_s h
  refine gs_gfR cd_190_24 (by decide) ht hv ?_
  refine gs_0 (pc' := 28) (L' := [some (.ref l0), some (.int x_4), some (.int x_7)]) (st' := [.int 2, .ref q_8]) cd_190_27 rfl rfl ?_
  refine gs_0 (pc' := 29) (L' := [some (.ref l0), some (.int x_4), some (.int x_7)]) (st' := [.int 2, .ref q_8, .int 2, .ref q_8]) cd_190_28 rfl rfl ?_
  obtain ⟨ht, h⟩ := gA_s h
  refine gs_iald cd_190_29 ht ?_
  refine gs_0 (pc' := 31) (L' := [some (.ref l0), some (.int x_4), some (.int x_7)]) (st' := [.int 1, .int (I_2 q_8 (2 : Int32).toNatClampNeg), .int 2, .ref q_8]) cd_190_30 rfl rfl ?_
  refine gs_0 (pc' := 32) (L' := [some (.ref l0), some (.int x_4), some (.int x_7)]) (st' := [.int ((I_2 q_8 (2 : Int32).toNatClampNeg) - 1), .int 2, .ref q_8]) cd_190_31 rfl rfl ?_
  obtain ⟨ht, h⟩ := gA_s h
  refine gs_iast cd_190_32 ht ?_
  obtain ⟨I_9, hx, h⟩ := lt_s_ h
  rw [hx]
  refine gs_0 (pc' := 34) (L' := [some (.ref l0), some (.int x_4), some (.int x_7)]) (st' := [.ref l0]) cd_190_33 rfl rfl ?_
  obtain ⟨ht, h⟩ := gO_s h
  obtain ⟨q_10, hv, h⟩ := gV_s h
  refine gs_gfR cd_190_34 (by decide) ht hv ?_
  refine gs_0 (pc' := 38) (L' := [some (.ref l0), some (.int x_4), some (.int x_7)]) (st' := [.int 1, .ref q_10]) cd_190_37 rfl rfl ?_
  refine gs_0 (pc' := 39) (L' := [some (.ref l0), some (.int x_4), some (.int x_7)]) (st' := [.int 1, .ref q_10, .int 1, .ref q_10]) cd_190_38 rfl rfl ?_
  obtain ⟨ht, h⟩ := gA_s h
  refine gs_iald cd_190_39 ht ?_
  refine gs_0 (pc' := 41) (L' := [some (.ref l0), some (.int x_4), some (.int x_7)]) (st' := [.int 1, .int (I_9 q_10 (1 : Int32).toNatClampNeg), .int 1, .ref q_10]) cd_190_40 rfl rfl ?_
  refine gs_0 (pc' := 42) (L' := [some (.ref l0), some (.int x_4), some (.int x_7)]) (st' := [.int ((I_9 q_10 (1 : Int32).toNatClampNeg) - 1), .int 1, .ref q_10]) cd_190_41 rfl rfl ?_
  obtain ⟨ht, h⟩ := gA_s h
  refine gs_iast cd_190_42 ht ?_
  obtain ⟨I_11, hx, h⟩ := lt_s_ h
  rw [hx]
  refine gs_0 (pc' := 44) (L' := [some (.ref l0), some (.int x_4), some (.int x_7)]) (st' := [.ref l0]) cd_190_43 rfl rfl ?_
  obtain ⟨ht, h⟩ := gO_s h
  obtain ⟨q_12, hv, h⟩ := gV_s h
  refine gs_gfR cd_190_44 (by decide) ht hv ?_
  refine gs_0 (pc' := 48) (L' := [some (.ref l0), some (.int x_4), some (.int x_7)]) (st' := [.int 1, .ref q_12]) cd_190_47 rfl rfl ?_
  obtain ⟨ht, h⟩ := gA_s h
  refine gs_iald cd_190_48 ht ?_
  refine gs_0 (pc' := if ¬ (I_11 q_12 (1 : Int32).toNatClampNeg) = 0 then 68 else 52) (L' := [some (.ref l0), some (.int x_4), some (.int x_7)]) (st' := []) cd_190_49 rfl rfl ?_
  refine go_ite (fun hc => ?_) (fun hc => ?_)
  · rw [if_pos hc] at h
    refine gs_0 (pc' := 69) (L' := [some (.ref l0), some (.int x_4), some (.int x_7)]) (st' := [.ref l0]) cd_190_68 rfl rfl ?_
    refine gs_0 (pc' := 70) (L' := [some (.ref l0), some (.int x_4), some (.int x_7)]) (st' := [.int x_7, .ref l0]) cd_190_69 rfl rfl ?_
    refine gs_0 (pc' := 71) (L' := [some (.ref l0), some (.int x_4), some (.int x_7)]) (st' := [.int x_4, .int x_7, .ref l0]) cd_190_70 rfl rfl ?_
    obtain ⟨ht, h⟩ := gO_s h
    obtain ⟨w_13, I_14, J_15, hcl, h⟩ := cV_s h
    refine gs_call (as := [.ref l0, .int x_7, .int x_4]) (rest := []) cd_190_71 rfl (by decide) rfl (sm_rv_ok (by decide) ht) (Nat.le_of_ble_eq_true rfl) (Nat.le_of_ble_eq_true rfl) rfl hcl ?_
    refine gs_0 (pc' := 75) (L' := [some (.ref l0), some (.int x_4), some (.int x_7)]) (st' := [.ref l0]) cd_190_74 rfl rfl ?_
    obtain ⟨ht, h⟩ := gO_s h
    obtain ⟨q_16, hv, h⟩ := gV_s h
    refine gs_gfR cd_190_75 (by decide) ht hv ?_
    refine gs_0 (pc' := 79) (L' := [some (.ref l0), some (.int x_4), some (.int x_7)]) (st' := [.ref l0, .ref q_16]) cd_190_78 rfl rfl ?_
    obtain ⟨ht, h⟩ := gO_s h
    obtain ⟨x_20, w_17, I_18, J_19, hcl, h⟩ := cI_s h
    refine gs_call (as := [.ref l0]) (rest := [.ref q_16]) cd_190_79 rfl (by decide) rfl (sm_rv_ok (by decide) ht) (Nat.le_of_ble_eq_true rfl) (Nat.le_of_ble_eq_true rfl) rfl hcl ?_
    refine gs_0 (pc' := 83) (L' := [some (.ref l0), some (.int x_4), some (.int x_7)]) (st' := [.int 1, .int x_20, .ref q_16]) cd_190_82 rfl rfl ?_
    refine gs_0 (pc' := 84) (L' := [some (.ref l0), some (.int x_4), some (.int x_7)]) (st' := [.int (x_20 + 1), .ref q_16]) cd_190_83 rfl rfl ?_
    refine gs_0 (pc' := 85) (L' := [some (.ref l0), some (.int x_4), some (.int x_7)]) (st' := [.int (x_20 + 1), .ref q_16, .int (x_20 + 1), .ref q_16]) cd_190_84 rfl rfl ?_
    obtain ⟨ht, h⟩ := gA_s h
    refine gs_iald cd_190_85 ht ?_
    refine gs_0 (pc' := 87) (L' := [some (.ref l0), some (.int x_4), some (.int x_7)]) (st' := [.int 1, .int (I_18 q_16 (x_20 + 1 : Int32).toNatClampNeg), .int (x_20 + 1), .ref q_16]) cd_190_86 rfl rfl ?_
    refine gs_0 (pc' := 88) (L' := [some (.ref l0), some (.int x_4), some (.int x_7)]) (st' := [.int ((I_18 q_16 (x_20 + 1 : Int32).toNatClampNeg) + 1), .int (x_20 + 1), .ref q_16]) cd_190_87 rfl rfl ?_
    obtain ⟨ht, h⟩ := gA_s h
    refine gs_iast cd_190_88 ht ?_
    obtain ⟨I_21, hx, h⟩ := lt_s_ h
    rw [hx]
    cases h
    exact gsr cd_190_89 rfl rfl
  · rw [if_neg hc] at h
    refine gs_0 (pc' := 53) (L' := [some (.ref l0), some (.int x_4), some (.int x_7)]) (st' := [.ref l0]) cd_190_52 rfl rfl ?_
    obtain ⟨ht, h⟩ := gO_s h
    obtain ⟨q_22, hv, h⟩ := gV_s h
    refine gs_gfR cd_190_53 (by decide) ht hv ?_
    refine gs_0 (pc' := 58) (L' := [some (.ref l0), some (.int x_4), some (.int x_7)]) (st' := [.int 6, .ref q_22]) cd_190_56 rfl rfl ?_
    refine gs_0 (pc' := 59) (L' := [some (.ref l0), some (.int x_4), some (.int x_7)]) (st' := [.int x_4, .int 6, .ref q_22]) cd_190_58 rfl rfl ?_
    obtain ⟨ht, h⟩ := gA_s h
    refine gs_iast cd_190_59 ht ?_
    obtain ⟨I_23, hx, h⟩ := lt_s_ h
    rw [hx]
    refine gs_0 (pc' := 61) (L' := [some (.ref l0), some (.int x_4), some (.int x_7)]) (st' := [.ref l0]) cd_190_60 rfl rfl ?_
    obtain ⟨ht, h⟩ := gO_s h
    obtain ⟨q_24, hv, h⟩ := gV_s h
    refine gs_gfR cd_190_61 (by decide) ht hv ?_
    refine gs_0 (pc' := 65) (L' := [some (.ref l0), some (.int x_4), some (.int x_7)]) (st' := [.int 0, .ref q_24]) cd_190_64 rfl rfl ?_
    refine gs_0 (pc' := 66) (L' := [some (.ref l0), some (.int x_4), some (.int x_7)]) (st' := [.int 1, .int 0, .ref q_24]) cd_190_65 rfl rfl ?_
    obtain ⟨ht, h⟩ := gA_s h
    refine gs_iast cd_190_66 ht ?_
    obtain ⟨I_25, hx, h⟩ := lt_s_ h
    rw [hx]
    cases h
    exact gsr cd_190_67 rfl rfl
theorem cl_190 {K : Nat → Value} {k d : Nat} {l0 : Nat} {w : aW} {I : aI} {J : aJ} {R : aR} (h : f_190 K k d l0 w I J = some R) : Cl K (d + 1) 190 [.ref l0] w I J = some R := Cl_of (ok_190 h)
/-! ProvedMachineModel.push(II)V -/
set_option maxRecDepth 20000 in
theorem gl_191 : gcd.lookup 191 = some gw_191 := rfl
theorem cd_191_0 : sm_cd 191 0 = some (.aload_n 0, 1, 0, 0, 0, 0, 0, 0, 0) := cd_of gl_191 rfl
theorem cd_191_1 : sm_cd 191 1 = some (.getfield 111, 3, 6, 36, 2, 0, 0, 0, 0) := cd_of gl_191 rfl
theorem cd_191_4 : sm_cd 191 4 = some (.bipush 10, 2, 0, 0, 0, 0, 0, 10, 0) := cd_of gl_191 rfl
theorem cd_191_6 : sm_cd 191 6 = some (.aload_n 0, 1, 0, 0, 0, 0, 0, 0, 0) := cd_of gl_191 rfl
theorem cd_191_7 : sm_cd 191 7 = some (.getfield 111, 3, 6, 36, 2, 0, 0, 0, 0) := cd_of gl_191 rfl
theorem cd_191_10 : sm_cd 191 10 = some (.iconst 2, 1, 0, 0, 0, 0, 0, 2, 0) := cd_of gl_191 rfl
theorem cd_191_11 : sm_cd 191 11 = some (.iaload, 1, 0, 0, 0, 0, 0, 0, 0) := cd_of gl_191 rfl
theorem cd_191_12 : sm_cd 191 12 = some (.iadd, 1, 0, 0, 0, 0, 0, 0, 0) := cd_of gl_191 rfl
theorem cd_191_13 : sm_cd 191 13 = some (.iload_n 2, 1, 2, 0, 0, 0, 0, 0, 0) := cd_of gl_191 rfl
theorem cd_191_14 : sm_cd 191 14 = some (.iastore, 1, 0, 0, 0, 0, 0, 0, 0) := cd_of gl_191 rfl
theorem cd_191_15 : sm_cd 191 15 = some (.aload_n 0, 1, 0, 0, 0, 0, 0, 0, 0) := cd_of gl_191 rfl
theorem cd_191_16 : sm_cd 191 16 = some (.getfield 111, 3, 6, 36, 2, 0, 0, 0, 0) := cd_of gl_191 rfl
theorem cd_191_19 : sm_cd 191 19 = some (.bipush 40, 2, 0, 0, 0, 0, 0, 40, 0) := cd_of gl_191 rfl
theorem cd_191_21 : sm_cd 191 21 = some (.aload_n 0, 1, 0, 0, 0, 0, 0, 0, 0) := cd_of gl_191 rfl
theorem cd_191_22 : sm_cd 191 22 = some (.getfield 111, 3, 6, 36, 2, 0, 0, 0, 0) := cd_of gl_191 rfl
theorem cd_191_25 : sm_cd 191 25 = some (.iconst 2, 1, 0, 0, 0, 0, 0, 2, 0) := cd_of gl_191 rfl
theorem cd_191_26 : sm_cd 191 26 = some (.iaload, 1, 0, 0, 0, 0, 0, 0, 0) := cd_of gl_191 rfl
theorem cd_191_27 : sm_cd 191 27 = some (.iadd, 1, 0, 0, 0, 0, 0, 0, 0) := cd_of gl_191 rfl
theorem cd_191_28 : sm_cd 191 28 = some (.iload_n 1, 1, 1, 0, 0, 0, 0, 0, 0) := cd_of gl_191 rfl
theorem cd_191_29 : sm_cd 191 29 = some (.iastore, 1, 0, 0, 0, 0, 0, 0, 0) := cd_of gl_191 rfl
theorem cd_191_30 : sm_cd 191 30 = some (.aload_n 0, 1, 0, 0, 0, 0, 0, 0, 0) := cd_of gl_191 rfl
theorem cd_191_31 : sm_cd 191 31 = some (.getfield 111, 3, 6, 36, 2, 0, 0, 0, 0) := cd_of gl_191 rfl
theorem cd_191_34 : sm_cd 191 34 = some (.iconst 2, 1, 0, 0, 0, 0, 0, 2, 0) := cd_of gl_191 rfl
theorem cd_191_35 : sm_cd 191 35 = some (.dup2, 1, 0, 0, 0, 0, 0, 0, 0) := cd_of gl_191 rfl
theorem cd_191_36 : sm_cd 191 36 = some (.iaload, 1, 0, 0, 0, 0, 0, 0, 0) := cd_of gl_191 rfl
theorem cd_191_37 : sm_cd 191 37 = some (.iconst 1, 1, 0, 0, 0, 0, 0, 1, 0) := cd_of gl_191 rfl
theorem cd_191_38 : sm_cd 191 38 = some (.iadd, 1, 0, 0, 0, 0, 0, 0, 0) := cd_of gl_191 rfl
theorem cd_191_39 : sm_cd 191 39 = some (.iastore, 1, 0, 0, 0, 0, 0, 0, 0) := cd_of gl_191 rfl
theorem cd_191_40 : sm_cd 191 40 = some (.return_, 1, 0, 0, 0, 0, 0, 0, 0) := cd_of gl_191 rfl
noncomputable def f_191 (K : Nat → Value) (k d : Nat) (l0 : Nat) (l1 : Int32) (l2 : Int32) (w : aW) (I : aI) (J : aJ) : Option aR :=
  gO w 6 l0 (
  gV w l0 36 fun q_1 =>
  gO w 6 l0 (
  gV w l0 36 fun q_2 =>
  gA w 10 20 q_2 2 (
  gA w 10 10 q_1 (10 + (I q_2 (2 : Int32).toNatClampNeg)) (
  lt_ (sm_up2 I q_1 (10 + (I q_2 (2 : Int32).toNatClampNeg) : Int32).toNatClampNeg l2) fun I_3 =>
  gO w 6 l0 (
  gV w l0 36 fun q_4 =>
  gO w 6 l0 (
  gV w l0 36 fun q_5 =>
  gA w 10 20 q_5 2 (
  gA w 10 10 q_4 (40 + (I_3 q_5 (2 : Int32).toNatClampNeg)) (
  lt_ (sm_up2 I_3 q_4 (40 + (I_3 q_5 (2 : Int32).toNatClampNeg) : Int32).toNatClampNeg l1) fun I_6 =>
  gO w 6 l0 (
  gV w l0 36 fun q_7 =>
  gA w 10 20 q_7 2 (
  gA w 10 10 q_7 2 (
  lt_ (sm_up2 I_6 q_7 (2 : Int32).toNatClampNeg ((I_6 q_7 (2 : Int32).toNatClampNeg) + 1)) fun I_8 =>
  some (none, w, I_8, J))))))))))))
theorem ok_191 {K : Nat → Value} {k d : Nat} {l0 : Nat} {l1 : Int32} {l2 : Int32} {w : aW} {I : aI} {J : aJ} {R : aR} (h : f_191 K k d l0 l1 l2 w I J = some R) : Go K (d + 1) 191 0 [some (.ref l0), some (.int l1), some (.int l2)] [] w I J R := by
  unfold f_191 at h
  refine gs_0 (pc' := 1) (L' := [some (.ref l0), some (.int l1), some (.int l2)]) (st' := [.ref l0]) cd_191_0 rfl rfl ?_
  obtain ⟨ht, h⟩ := gO_s h
  obtain ⟨q_1, hv, h⟩ := gV_s h
  refine gs_gfR cd_191_1 (by decide) ht hv ?_
  refine gs_0 (pc' := 6) (L' := [some (.ref l0), some (.int l1), some (.int l2)]) (st' := [.int 10, .ref q_1]) cd_191_4 rfl rfl ?_
  refine gs_0 (pc' := 7) (L' := [some (.ref l0), some (.int l1), some (.int l2)]) (st' := [.ref l0, .int 10, .ref q_1]) cd_191_6 rfl rfl ?_
  obtain ⟨ht, h⟩ := gO_s h
  obtain ⟨q_2, hv, h⟩ := gV_s h
  refine gs_gfR cd_191_7 (by decide) ht hv ?_
  refine gs_0 (pc' := 11) (L' := [some (.ref l0), some (.int l1), some (.int l2)]) (st' := [.int 2, .ref q_2, .int 10, .ref q_1]) cd_191_10 rfl rfl ?_
  obtain ⟨ht, h⟩ := gA_s h
  refine gs_iald cd_191_11 ht ?_
  refine gs_0 (pc' := 13) (L' := [some (.ref l0), some (.int l1), some (.int l2)]) (st' := [.int (10 + (I q_2 (2 : Int32).toNatClampNeg)), .ref q_1]) cd_191_12 rfl rfl ?_
  refine gs_0 (pc' := 14) (L' := [some (.ref l0), some (.int l1), some (.int l2)]) (st' := [.int l2, .int (10 + (I q_2 (2 : Int32).toNatClampNeg)), .ref q_1]) cd_191_13 rfl rfl ?_
  obtain ⟨ht, h⟩ := gA_s h
  refine gs_iast cd_191_14 ht ?_
  obtain ⟨I_3, hx, h⟩ := lt_s_ h
  rw [hx]
  refine gs_0 (pc' := 16) (L' := [some (.ref l0), some (.int l1), some (.int l2)]) (st' := [.ref l0]) cd_191_15 rfl rfl ?_
  obtain ⟨ht, h⟩ := gO_s h
  obtain ⟨q_4, hv, h⟩ := gV_s h
  refine gs_gfR cd_191_16 (by decide) ht hv ?_
  refine gs_0 (pc' := 21) (L' := [some (.ref l0), some (.int l1), some (.int l2)]) (st' := [.int 40, .ref q_4]) cd_191_19 rfl rfl ?_
  refine gs_0 (pc' := 22) (L' := [some (.ref l0), some (.int l1), some (.int l2)]) (st' := [.ref l0, .int 40, .ref q_4]) cd_191_21 rfl rfl ?_
  obtain ⟨ht, h⟩ := gO_s h
  obtain ⟨q_5, hv, h⟩ := gV_s h
  refine gs_gfR cd_191_22 (by decide) ht hv ?_
  refine gs_0 (pc' := 26) (L' := [some (.ref l0), some (.int l1), some (.int l2)]) (st' := [.int 2, .ref q_5, .int 40, .ref q_4]) cd_191_25 rfl rfl ?_
  obtain ⟨ht, h⟩ := gA_s h
  refine gs_iald cd_191_26 ht ?_
  refine gs_0 (pc' := 28) (L' := [some (.ref l0), some (.int l1), some (.int l2)]) (st' := [.int (40 + (I_3 q_5 (2 : Int32).toNatClampNeg)), .ref q_4]) cd_191_27 rfl rfl ?_
  refine gs_0 (pc' := 29) (L' := [some (.ref l0), some (.int l1), some (.int l2)]) (st' := [.int l1, .int (40 + (I_3 q_5 (2 : Int32).toNatClampNeg)), .ref q_4]) cd_191_28 rfl rfl ?_
  obtain ⟨ht, h⟩ := gA_s h
  refine gs_iast cd_191_29 ht ?_
  obtain ⟨I_6, hx, h⟩ := lt_s_ h
  rw [hx]
  refine gs_0 (pc' := 31) (L' := [some (.ref l0), some (.int l1), some (.int l2)]) (st' := [.ref l0]) cd_191_30 rfl rfl ?_
  obtain ⟨ht, h⟩ := gO_s h
  obtain ⟨q_7, hv, h⟩ := gV_s h
  refine gs_gfR cd_191_31 (by decide) ht hv ?_
  refine gs_0 (pc' := 35) (L' := [some (.ref l0), some (.int l1), some (.int l2)]) (st' := [.int 2, .ref q_7]) cd_191_34 rfl rfl ?_
  refine gs_0 (pc' := 36) (L' := [some (.ref l0), some (.int l1), some (.int l2)]) (st' := [.int 2, .ref q_7, .int 2, .ref q_7]) cd_191_35 rfl rfl ?_
  obtain ⟨ht, h⟩ := gA_s h
  refine gs_iald cd_191_36 ht ?_
  refine gs_0 (pc' := 38) (L' := [some (.ref l0), some (.int l1), some (.int l2)]) (st' := [.int 1, .int (I_6 q_7 (2 : Int32).toNatClampNeg), .int 2, .ref q_7]) cd_191_37 rfl rfl ?_
  refine gs_0 (pc' := 39) (L' := [some (.ref l0), some (.int l1), some (.int l2)]) (st' := [.int ((I_6 q_7 (2 : Int32).toNatClampNeg) + 1), .int 2, .ref q_7]) cd_191_38 rfl rfl ?_
  obtain ⟨ht, h⟩ := gA_s h
  refine gs_iast cd_191_39 ht ?_
  obtain ⟨I_8, hx, h⟩ := lt_s_ h
  rw [hx]
  cases h
  exact gsr cd_191_40 rfl rfl
theorem cl_191 {K : Nat → Value} {k d : Nat} {l0 : Nat} {l1 : Int32} {l2 : Int32} {w : aW} {I : aI} {J : aJ} {R : aR} (h : f_191 K k d l0 l1 l2 w I J = some R) : Cl K (d + 1) 191 [.ref l0, .int l1, .int l2] w I J = some R := Cl_of (ok_191 h)
/-! ProvedMachineModel.gives(II)I -/
set_option maxRecDepth 20000 in
theorem gl_192 : gcd.lookup 192 = some gw_192 := rfl
theorem cd_192_0 : sm_cd 192 0 = some (.aload_n 0, 1, 0, 0, 0, 0, 0, 0, 0) := cd_of gl_192 rfl
theorem cd_192_1 : sm_cd 192 1 = some (.iconst 1, 1, 0, 0, 0, 0, 0, 1, 0) := cd_of gl_192 rfl
theorem cd_192_2 : sm_cd 192 2 = some (.invokevirtual 375, 3, 181, 0, 1, 2, 6, 0, 0) := cd_of gl_192 rfl
theorem cd_192_5 : sm_cd 192 5 = some (.istore_n 3, 1, 3, 0, 0, 0, 0, 0, 0) := cd_of gl_192 rfl
theorem cd_192_6 : sm_cd 192 6 = some (.iload_n 1, 1, 1, 0, 0, 0, 0, 0, 0) := cd_of gl_192 rfl
theorem cd_192_7 : sm_cd 192 7 = some (.tableswitch 119 5 12 #[45, 48, 52, 52, 63, 74, 86, 103], 45, 0, 0, 0, 0, 0, 0, 0) := cd_of gl_192 rfl
theorem cd_192_52 : sm_cd 192 52 = some (.iload_n 3, 1, 3, 0, 0, 0, 0, 0, 0) := cd_of gl_192 rfl
theorem cd_192_53 : sm_cd 192 53 = some (.ineg, 1, 0, 0, 0, 0, 0, 0, 0) := cd_of gl_192 rfl
theorem cd_192_54 : sm_cd 192 54 = some (.ireturn, 1, 0, 0, 1, 0, 0, 0, 0) := cd_of gl_192 rfl
theorem cd_192_55 : sm_cd 192 55 = some (.iconst 1, 1, 0, 0, 0, 0, 0, 1, 0) := cd_of gl_192 rfl
theorem cd_192_56 : sm_cd 192 56 = some (.iload_n 3, 1, 3, 0, 0, 0, 0, 0, 0) := cd_of gl_192 rfl
theorem cd_192_57 : sm_cd 192 57 = some (.isub, 1, 0, 0, 0, 0, 0, 0, 0) := cd_of gl_192 rfl
theorem cd_192_58 : sm_cd 192 58 = some (.ireturn, 1, 0, 0, 1, 0, 0, 0, 0) := cd_of gl_192 rfl
theorem cd_192_59 : sm_cd 192 59 = some (.aload_n 0, 1, 0, 0, 0, 0, 0, 0, 0) := cd_of gl_192 rfl
theorem cd_192_60 : sm_cd 192 60 = some (.getfield 111, 3, 6, 36, 2, 0, 0, 0, 0) := cd_of gl_192 rfl
theorem cd_192_63 : sm_cd 192 63 = some (.iload_n 3, 1, 3, 0, 0, 0, 0, 0, 0) := cd_of gl_192 rfl
theorem cd_192_64 : sm_cd 192 64 = some (.iconst 1, 1, 0, 0, 0, 0, 0, 1, 0) := cd_of gl_192 rfl
theorem cd_192_65 : sm_cd 192 65 = some (.invokestatic 366, 3, 183, 1, 2, 2, 6, 0, 0) := cd_of gl_192 rfl
theorem cd_192_68 : sm_cd 192 68 = some (.iaload, 1, 0, 0, 0, 0, 0, 0, 0) := cd_of gl_192 rfl
theorem cd_192_69 : sm_cd 192 69 = some (.ireturn, 1, 0, 0, 1, 0, 0, 0, 0) := cd_of gl_192 rfl
theorem cd_192_70 : sm_cd 192 70 = some (.aload_n 0, 1, 0, 0, 0, 0, 0, 0, 0) := cd_of gl_192 rfl
theorem cd_192_71 : sm_cd 192 71 = some (.getfield 111, 3, 6, 36, 2, 0, 0, 0, 0) := cd_of gl_192 rfl
theorem cd_192_74 : sm_cd 192 74 = some (.iload_n 3, 1, 3, 0, 0, 0, 0, 0, 0) := cd_of gl_192 rfl
theorem cd_192_75 : sm_cd 192 75 = some (.iconst 2, 1, 0, 0, 0, 0, 0, 2, 0) := cd_of gl_192 rfl
theorem cd_192_76 : sm_cd 192 76 = some (.invokestatic 366, 3, 183, 1, 2, 2, 6, 0, 0) := cd_of gl_192 rfl
theorem cd_192_79 : sm_cd 192 79 = some (.iaload, 1, 0, 0, 0, 0, 0, 0, 0) := cd_of gl_192 rfl
theorem cd_192_80 : sm_cd 192 80 = some (.ireturn, 1, 0, 0, 1, 0, 0, 0, 0) := cd_of gl_192 rfl
theorem cd_192_81 : sm_cd 192 81 = some (.aload_n 0, 1, 0, 0, 0, 0, 0, 0, 0) := cd_of gl_192 rfl
theorem cd_192_82 : sm_cd 192 82 = some (.iload_n 1, 1, 1, 0, 0, 0, 0, 0, 0) := cd_of gl_192 rfl
theorem cd_192_83 : sm_cd 192 83 = some (.aload_n 0, 1, 0, 0, 0, 0, 0, 0, 0) := cd_of gl_192 rfl
theorem cd_192_84 : sm_cd 192 84 = some (.invokevirtual 381, 3, 184, 0, 0, 2, 6, 0, 0) := cd_of gl_192 rfl
theorem cd_192_87 : sm_cd 192 87 = some (.iload_n 3, 1, 3, 0, 0, 0, 0, 0, 0) := cd_of gl_192 rfl
theorem cd_192_88 : sm_cd 192 88 = some (.iconst 0, 1, 0, 0, 0, 0, 0, 0, 0) := cd_of gl_192 rfl
theorem cd_192_89 : sm_cd 192 89 = some (.invokevirtual 384, 3, 193, 0, 4, 5, 6, 0, 0) := cd_of gl_192 rfl
theorem cd_192_92 : sm_cd 192 92 = some (.ireturn, 1, 0, 0, 1, 0, 0, 0, 0) := cd_of gl_192 rfl
theorem cd_192_93 : sm_cd 192 93 = some (.aload_n 0, 1, 0, 0, 0, 0, 0, 0, 0) := cd_of gl_192 rfl
theorem cd_192_94 : sm_cd 192 94 = some (.getfield 111, 3, 6, 36, 2, 0, 0, 0, 0) := cd_of gl_192 rfl
theorem cd_192_97 : sm_cd 192 97 = some (.aload_n 0, 1, 0, 0, 0, 0, 0, 0, 0) := cd_of gl_192 rfl
theorem cd_192_98 : sm_cd 192 98 = some (.iconst 2, 1, 0, 0, 0, 0, 0, 2, 0) := cd_of gl_192 rfl
theorem cd_192_99 : sm_cd 192 99 = some (.invokevirtual 375, 3, 181, 0, 1, 2, 6, 0, 0) := cd_of gl_192 rfl
theorem cd_192_102 : sm_cd 192 102 = some (.iconst 3, 1, 0, 0, 0, 0, 0, 3, 0) := cd_of gl_192 rfl
theorem cd_192_103 : sm_cd 192 103 = some (.iload_n 3, 1, 3, 0, 0, 0, 0, 0, 0) := cd_of gl_192 rfl
theorem cd_192_104 : sm_cd 192 104 = some (.iadd, 1, 0, 0, 0, 0, 0, 0, 0) := cd_of gl_192 rfl
theorem cd_192_105 : sm_cd 192 105 = some (.invokestatic 366, 3, 183, 1, 2, 2, 6, 0, 0) := cd_of gl_192 rfl
theorem cd_192_108 : sm_cd 192 108 = some (.iaload, 1, 0, 0, 0, 0, 0, 0, 0) := cd_of gl_192 rfl
theorem cd_192_109 : sm_cd 192 109 = some (.ireturn, 1, 0, 0, 1, 0, 0, 0, 0) := cd_of gl_192 rfl
theorem cd_192_110 : sm_cd 192 110 = some (.aload_n 0, 1, 0, 0, 0, 0, 0, 0, 0) := cd_of gl_192 rfl
theorem cd_192_111 : sm_cd 192 111 = some (.iload_n 1, 1, 1, 0, 0, 0, 0, 0, 0) := cd_of gl_192 rfl
theorem cd_192_112 : sm_cd 192 112 = some (.aload_n 0, 1, 0, 0, 0, 0, 0, 0, 0) := cd_of gl_192 rfl
theorem cd_192_113 : sm_cd 192 113 = some (.invokevirtual 381, 3, 184, 0, 0, 2, 6, 0, 0) := cd_of gl_192 rfl
theorem cd_192_116 : sm_cd 192 116 = some (.aload_n 0, 1, 0, 0, 0, 0, 0, 0, 0) := cd_of gl_192 rfl
theorem cd_192_117 : sm_cd 192 117 = some (.iconst 2, 1, 0, 0, 0, 0, 0, 2, 0) := cd_of gl_192 rfl
theorem cd_192_118 : sm_cd 192 118 = some (.invokevirtual 375, 3, 181, 0, 1, 2, 6, 0, 0) := cd_of gl_192 rfl
theorem cd_192_121 : sm_cd 192 121 = some (.iload_n 3, 1, 3, 0, 0, 0, 0, 0, 0) := cd_of gl_192 rfl
theorem cd_192_122 : sm_cd 192 122 = some (.invokevirtual 384, 3, 193, 0, 4, 5, 6, 0, 0) := cd_of gl_192 rfl
theorem cd_192_125 : sm_cd 192 125 = some (.ireturn, 1, 0, 0, 1, 0, 0, 0, 0) := cd_of gl_192 rfl
theorem cd_192_126 : sm_cd 192 126 = some (.iload_n 1, 1, 1, 0, 0, 0, 0, 0, 0) := cd_of gl_192 rfl
theorem cd_192_127 : sm_cd 192 127 = some (.aload_n 0, 1, 0, 0, 0, 0, 0, 0, 0) := cd_of gl_192 rfl
theorem cd_192_128 : sm_cd 192 128 = some (.iconst 2, 1, 0, 0, 0, 0, 0, 2, 0) := cd_of gl_192 rfl
theorem cd_192_129 : sm_cd 192 129 = some (.invokevirtual 375, 3, 181, 0, 1, 2, 6, 0, 0) := cd_of gl_192 rfl
theorem cd_192_132 : sm_cd 192 132 = some (.iload_n 3, 1, 3, 0, 0, 0, 0, 0, 0) := cd_of gl_192 rfl
theorem cd_192_133 : sm_cd 192 133 = some (.invokestatic 388, 3, 194, 1, 3, 3, 6, 0, 0) := cd_of gl_192 rfl
theorem cd_192_136 : sm_cd 192 136 = some (.ireturn, 1, 0, 0, 1, 0, 0, 0, 0) := cd_of gl_192 rfl
theorem sw_192_7_0 {K : Nat → Value} {L : aL} {st : List Value} {w : aW} {I : aI} {J : aJ} {x : Int32} (h : x = 5) : sm_stp K (.tableswitch 119 5 12 #[45, 48, 52, 52, 63, 74, 86, 103], 45, 0, 0, 0, 0, 0, 0, 0) 7 L (.int x :: st) w I J = some (52, L, st, w, I, J) := by subst h; rfl
theorem sw_192_7_1 {K : Nat → Value} {L : aL} {st : List Value} {w : aW} {I : aI} {J : aJ} {x : Int32} (h : x = 6) : sm_stp K (.tableswitch 119 5 12 #[45, 48, 52, 52, 63, 74, 86, 103], 45, 0, 0, 0, 0, 0, 0, 0) 7 L (.int x :: st) w I J = some (55, L, st, w, I, J) := by subst h; rfl
theorem sw_192_7_2 {K : Nat → Value} {L : aL} {st : List Value} {w : aW} {I : aI} {J : aJ} {x : Int32} (h : x = 7) : sm_stp K (.tableswitch 119 5 12 #[45, 48, 52, 52, 63, 74, 86, 103], 45, 0, 0, 0, 0, 0, 0, 0) 7 L (.int x :: st) w I J = some (59, L, st, w, I, J) := by subst h; rfl
theorem sw_192_7_3 {K : Nat → Value} {L : aL} {st : List Value} {w : aW} {I : aI} {J : aJ} {x : Int32} (h : x = 8) : sm_stp K (.tableswitch 119 5 12 #[45, 48, 52, 52, 63, 74, 86, 103], 45, 0, 0, 0, 0, 0, 0, 0) 7 L (.int x :: st) w I J = some (59, L, st, w, I, J) := by subst h; rfl
theorem sw_192_7_4 {K : Nat → Value} {L : aL} {st : List Value} {w : aW} {I : aI} {J : aJ} {x : Int32} (h : x = 9) : sm_stp K (.tableswitch 119 5 12 #[45, 48, 52, 52, 63, 74, 86, 103], 45, 0, 0, 0, 0, 0, 0, 0) 7 L (.int x :: st) w I J = some (70, L, st, w, I, J) := by subst h; rfl
theorem sw_192_7_5 {K : Nat → Value} {L : aL} {st : List Value} {w : aW} {I : aI} {J : aJ} {x : Int32} (h : x = 10) : sm_stp K (.tableswitch 119 5 12 #[45, 48, 52, 52, 63, 74, 86, 103], 45, 0, 0, 0, 0, 0, 0, 0) 7 L (.int x :: st) w I J = some (81, L, st, w, I, J) := by subst h; rfl
theorem sw_192_7_6 {K : Nat → Value} {L : aL} {st : List Value} {w : aW} {I : aI} {J : aJ} {x : Int32} (h : x = 11) : sm_stp K (.tableswitch 119 5 12 #[45, 48, 52, 52, 63, 74, 86, 103], 45, 0, 0, 0, 0, 0, 0, 0) 7 L (.int x :: st) w I J = some (93, L, st, w, I, J) := by subst h; rfl
theorem sw_192_7_7 {K : Nat → Value} {L : aL} {st : List Value} {w : aW} {I : aI} {J : aJ} {x : Int32} (h : x = 12) : sm_stp K (.tableswitch 119 5 12 #[45, 48, 52, 52, 63, 74, 86, 103], 45, 0, 0, 0, 0, 0, 0, 0) 7 L (.int x :: st) w I J = some (110, L, st, w, I, J) := by subst h; rfl
theorem sw_192_7_d {K : Nat → Value} {L : aL} {st : List Value} {w : aW} {I : aI} {J : aJ} {x : Int32} (h0 : ¬ x = 5) (h1 : ¬ x = 6) (h2 : ¬ x = 7) (h3 : ¬ x = 8) (h4 : ¬ x = 9) (h5 : ¬ x = 10) (h6 : ¬ x = 11) (h7 : ¬ x = 12) : sm_stp K (.tableswitch 119 5 12 #[45, 48, 52, 52, 63, 74, 86, 103], 45, 0, 0, 0, 0, 0, 0, 0) 7 L (.int x :: st) w I J = some (126, L, st, w, I, J) := by
  have e : sm_swt 7 119 5 12 #[45, 48, 52, 52, 63, 74, 86, 103] x = some 126 := by
    unfold sm_swt
    split
    · rfl
    · rename_i hn
      exfalso
      have ha : ¬ x.toInt < 5 := fun q => hn (Or.inl q)
      have hb : ¬ 12 < x.toInt := fun q => hn (Or.inr q)
      have g0 : ¬ x.toInt = 5 := fun q => h0 (Int32.toInt_inj.mp q)
      have g1 : ¬ x.toInt = 6 := fun q => h1 (Int32.toInt_inj.mp q)
      have g2 : ¬ x.toInt = 7 := fun q => h2 (Int32.toInt_inj.mp q)
      have g3 : ¬ x.toInt = 8 := fun q => h3 (Int32.toInt_inj.mp q)
      have g4 : ¬ x.toInt = 9 := fun q => h4 (Int32.toInt_inj.mp q)
      have g5 : ¬ x.toInt = 10 := fun q => h5 (Int32.toInt_inj.mp q)
      have g6 : ¬ x.toInt = 11 := fun q => h6 (Int32.toInt_inj.mp q)
      have g7 : ¬ x.toInt = 12 := fun q => h7 (Int32.toInt_inj.mp q)
      omega
  simp only [sm_stp, e, sm_jm]
noncomputable def f_192 (K : Nat → Value) (k d : Nat) (l0 : Nat) (l1 : Int32) (l2 : Int32) (w : aW) (I : aI) (J : aJ) : Option aR :=
  gO w 6 l0 (
  cI (Cl K d 181 [.ref l0, .int 1] w I J) fun x_4 w_1 I_2 J_3 =>
  if l1 = 5 then
    some (some (.int (-x_4)), w_1, I_2, J_3)
  else
  if l1 = 6 then
    some (some (.int (1 - x_4)), w_1, I_2, J_3)
  else
  if l1 = 7 then
    gO w_1 6 l0 (
    gV w_1 l0 36 fun q_5 =>
    cI (Cl K d 183 [.int x_4, .int 1] w_1 I_2 J_3) fun x_9 w_6 I_7 J_8 =>
    gA w_6 10 20 q_5 x_9 (
    some (some (.int (I_7 q_5 (x_9 : Int32).toNatClampNeg)), w_6, I_7, J_8)))
  else
  if l1 = 8 then
    gO w_1 6 l0 (
    gV w_1 l0 36 fun q_10 =>
    cI (Cl K d 183 [.int x_4, .int 1] w_1 I_2 J_3) fun x_14 w_11 I_12 J_13 =>
    gA w_11 10 20 q_10 x_14 (
    some (some (.int (I_12 q_10 (x_14 : Int32).toNatClampNeg)), w_11, I_12, J_13)))
  else
  if l1 = 9 then
    gO w_1 6 l0 (
    gV w_1 l0 36 fun q_15 =>
    cI (Cl K d 183 [.int x_4, .int 2] w_1 I_2 J_3) fun x_19 w_16 I_17 J_18 =>
    gA w_16 10 20 q_15 x_19 (
    some (some (.int (I_17 q_15 (x_19 : Int32).toNatClampNeg)), w_16, I_17, J_18)))
  else
  if l1 = 10 then
    gO w_1 6 l0 (
    cI (Cl K d 184 [.ref l0] w_1 I_2 J_3) fun x_23 w_20 I_21 J_22 =>
    gO w_20 6 l0 (
    cI (Cl K d 193 [.ref l0, .int l1, .int x_23, .int x_4, .int 0] w_20 I_21 J_22) fun x_27 w_24 I_25 J_26 =>
    some (some (.int x_27), w_24, I_25, J_26)))
  else
  if l1 = 11 then
    gO w_1 6 l0 (
    gV w_1 l0 36 fun q_28 =>
    gO w_1 6 l0 (
    cI (Cl K d 181 [.ref l0, .int 2] w_1 I_2 J_3) fun x_32 w_29 I_30 J_31 =>
    cI (Cl K d 183 [.int x_32, .int (3 + x_4)] w_29 I_30 J_31) fun x_36 w_33 I_34 J_35 =>
    gA w_33 10 20 q_28 x_36 (
    some (some (.int (I_34 q_28 (x_36 : Int32).toNatClampNeg)), w_33, I_34, J_35))))
  else
  if l1 = 12 then
    gO w_1 6 l0 (
    cI (Cl K d 184 [.ref l0] w_1 I_2 J_3) fun x_40 w_37 I_38 J_39 =>
    gO w_37 6 l0 (
    cI (Cl K d 181 [.ref l0, .int 2] w_37 I_38 J_39) fun x_44 w_41 I_42 J_43 =>
    gO w_41 6 l0 (
    cI (Cl K d 193 [.ref l0, .int l1, .int x_40, .int x_44, .int x_4] w_41 I_42 J_43) fun x_48 w_45 I_46 J_47 =>
    some (some (.int x_48), w_45, I_46, J_47))))
  else
  gO w_1 6 l0 (
  cI (Cl K d 181 [.ref l0, .int 2] w_1 I_2 J_3) fun x_52 w_49 I_50 J_51 =>
  cI (Cl K d 194 [.int l1, .int x_52, .int x_4] w_49 I_50 J_51) fun x_56 w_53 I_54 J_55 =>
  some (some (.int x_56), w_53, I_54, J_55)))
theorem ok_192 {K : Nat → Value} {k d : Nat} {l0 : Nat} {l1 : Int32} {l2 : Int32} {w : aW} {I : aI} {J : aJ} {R : aR} (h : f_192 K k d l0 l1 l2 w I J = some R) : Go K (d + 1) 192 0 [some (.ref l0), some (.int l1), some (.int l2), none] [] w I J R := by
  unfold f_192 at h
  refine gs_0 (pc' := 1) (L' := [some (.ref l0), some (.int l1), some (.int l2), none]) (st' := [.ref l0]) cd_192_0 rfl rfl ?_
  refine gs_0 (pc' := 2) (L' := [some (.ref l0), some (.int l1), some (.int l2), none]) (st' := [.int 1, .ref l0]) cd_192_1 rfl rfl ?_
  obtain ⟨ht, h⟩ := gO_s h
  obtain ⟨x_4, w_1, I_2, J_3, hcl, h⟩ := cI_s h
  refine gs_call (as := [.ref l0, .int 1]) (rest := []) cd_192_2 rfl (by decide) rfl (sm_rv_ok (by decide) ht) (Nat.le_of_ble_eq_true rfl) (Nat.le_of_ble_eq_true rfl) rfl hcl ?_
  refine gs_0 (pc' := 6) (L' := [some (.ref l0), some (.int l1), some (.int l2), some (.int x_4)]) (st' := []) cd_192_5 rfl rfl ?_
  refine gs_0 (pc' := 7) (L' := [some (.ref l0), some (.int l1), some (.int l2), some (.int x_4)]) (st' := [.int l1]) cd_192_6 rfl rfl ?_
  by_cases hc0 : l1 = 5
  · rw [if_pos hc0] at h
    refine gs_0 (pc' := 52) (L' := [some (.ref l0), some (.int l1), some (.int l2), some (.int x_4)]) (st' := []) cd_192_7 rfl (sw_192_7_0 hc0) ?_
    refine gs_0 (pc' := 53) (L' := [some (.ref l0), some (.int l1), some (.int l2), some (.int x_4)]) (st' := [.int x_4]) cd_192_52 rfl rfl ?_
    refine gs_0 (pc' := 54) (L' := [some (.ref l0), some (.int l1), some (.int l2), some (.int x_4)]) (st' := [.int (-x_4)]) cd_192_53 rfl rfl ?_
    cases h
    exact gs_ri cd_192_54 (Or.inl rfl)
  · rw [if_neg hc0] at h
    by_cases hc1 : l1 = 6
    · rw [if_pos hc1] at h
      refine gs_0 (pc' := 55) (L' := [some (.ref l0), some (.int l1), some (.int l2), some (.int x_4)]) (st' := []) cd_192_7 rfl (sw_192_7_1 hc1) ?_
      refine gs_0 (pc' := 56) (L' := [some (.ref l0), some (.int l1), some (.int l2), some (.int x_4)]) (st' := [.int 1]) cd_192_55 rfl rfl ?_
      refine gs_0 (pc' := 57) (L' := [some (.ref l0), some (.int l1), some (.int l2), some (.int x_4)]) (st' := [.int x_4, .int 1]) cd_192_56 rfl rfl ?_
      refine gs_0 (pc' := 58) (L' := [some (.ref l0), some (.int l1), some (.int l2), some (.int x_4)]) (st' := [.int (1 - x_4)]) cd_192_57 rfl rfl ?_
      cases h
      exact gs_ri cd_192_58 (Or.inl rfl)
    · rw [if_neg hc1] at h
      by_cases hc2 : l1 = 7
      · rw [if_pos hc2] at h
        refine gs_0 (pc' := 59) (L' := [some (.ref l0), some (.int l1), some (.int l2), some (.int x_4)]) (st' := []) cd_192_7 rfl (sw_192_7_2 hc2) ?_
        refine gs_0 (pc' := 60) (L' := [some (.ref l0), some (.int l1), some (.int l2), some (.int x_4)]) (st' := [.ref l0]) cd_192_59 rfl rfl ?_
        obtain ⟨ht, h⟩ := gO_s h
        obtain ⟨q_5, hv, h⟩ := gV_s h
        refine gs_gfR cd_192_60 (by decide) ht hv ?_
        refine gs_0 (pc' := 64) (L' := [some (.ref l0), some (.int l1), some (.int l2), some (.int x_4)]) (st' := [.int x_4, .ref q_5]) cd_192_63 rfl rfl ?_
        refine gs_0 (pc' := 65) (L' := [some (.ref l0), some (.int l1), some (.int l2), some (.int x_4)]) (st' := [.int 1, .int x_4, .ref q_5]) cd_192_64 rfl rfl ?_
        obtain ⟨x_9, w_6, I_7, J_8, hcl, h⟩ := cI_s h
        refine gs_call (as := [.int x_4, .int 1]) (rest := [.ref q_5]) cd_192_65 rfl (by decide) rfl rfl (Nat.le_of_ble_eq_true rfl) (Nat.le_of_ble_eq_true rfl) rfl hcl ?_
        obtain ⟨ht, h⟩ := gA_s h
        refine gs_iald cd_192_68 ht ?_
        cases h
        exact gs_ri cd_192_69 (Or.inl rfl)
      · rw [if_neg hc2] at h
        by_cases hc3 : l1 = 8
        · rw [if_pos hc3] at h
          refine gs_0 (pc' := 59) (L' := [some (.ref l0), some (.int l1), some (.int l2), some (.int x_4)]) (st' := []) cd_192_7 rfl (sw_192_7_3 hc3) ?_
          refine gs_0 (pc' := 60) (L' := [some (.ref l0), some (.int l1), some (.int l2), some (.int x_4)]) (st' := [.ref l0]) cd_192_59 rfl rfl ?_
          obtain ⟨ht, h⟩ := gO_s h
          obtain ⟨q_10, hv, h⟩ := gV_s h
          refine gs_gfR cd_192_60 (by decide) ht hv ?_
          refine gs_0 (pc' := 64) (L' := [some (.ref l0), some (.int l1), some (.int l2), some (.int x_4)]) (st' := [.int x_4, .ref q_10]) cd_192_63 rfl rfl ?_
          refine gs_0 (pc' := 65) (L' := [some (.ref l0), some (.int l1), some (.int l2), some (.int x_4)]) (st' := [.int 1, .int x_4, .ref q_10]) cd_192_64 rfl rfl ?_
          obtain ⟨x_14, w_11, I_12, J_13, hcl, h⟩ := cI_s h
          refine gs_call (as := [.int x_4, .int 1]) (rest := [.ref q_10]) cd_192_65 rfl (by decide) rfl rfl (Nat.le_of_ble_eq_true rfl) (Nat.le_of_ble_eq_true rfl) rfl hcl ?_
          obtain ⟨ht, h⟩ := gA_s h
          refine gs_iald cd_192_68 ht ?_
          cases h
          exact gs_ri cd_192_69 (Or.inl rfl)
        · rw [if_neg hc3] at h
          by_cases hc4 : l1 = 9
          · rw [if_pos hc4] at h
            refine gs_0 (pc' := 70) (L' := [some (.ref l0), some (.int l1), some (.int l2), some (.int x_4)]) (st' := []) cd_192_7 rfl (sw_192_7_4 hc4) ?_
            refine gs_0 (pc' := 71) (L' := [some (.ref l0), some (.int l1), some (.int l2), some (.int x_4)]) (st' := [.ref l0]) cd_192_70 rfl rfl ?_
            obtain ⟨ht, h⟩ := gO_s h
            obtain ⟨q_15, hv, h⟩ := gV_s h
            refine gs_gfR cd_192_71 (by decide) ht hv ?_
            refine gs_0 (pc' := 75) (L' := [some (.ref l0), some (.int l1), some (.int l2), some (.int x_4)]) (st' := [.int x_4, .ref q_15]) cd_192_74 rfl rfl ?_
            refine gs_0 (pc' := 76) (L' := [some (.ref l0), some (.int l1), some (.int l2), some (.int x_4)]) (st' := [.int 2, .int x_4, .ref q_15]) cd_192_75 rfl rfl ?_
            obtain ⟨x_19, w_16, I_17, J_18, hcl, h⟩ := cI_s h
            refine gs_call (as := [.int x_4, .int 2]) (rest := [.ref q_15]) cd_192_76 rfl (by decide) rfl rfl (Nat.le_of_ble_eq_true rfl) (Nat.le_of_ble_eq_true rfl) rfl hcl ?_
            obtain ⟨ht, h⟩ := gA_s h
            refine gs_iald cd_192_79 ht ?_
            cases h
            exact gs_ri cd_192_80 (Or.inl rfl)
          · rw [if_neg hc4] at h
            by_cases hc5 : l1 = 10
            · rw [if_pos hc5] at h
              refine gs_0 (pc' := 81) (L' := [some (.ref l0), some (.int l1), some (.int l2), some (.int x_4)]) (st' := []) cd_192_7 rfl (sw_192_7_5 hc5) ?_
              refine gs_0 (pc' := 82) (L' := [some (.ref l0), some (.int l1), some (.int l2), some (.int x_4)]) (st' := [.ref l0]) cd_192_81 rfl rfl ?_
              refine gs_0 (pc' := 83) (L' := [some (.ref l0), some (.int l1), some (.int l2), some (.int x_4)]) (st' := [.int l1, .ref l0]) cd_192_82 rfl rfl ?_
              refine gs_0 (pc' := 84) (L' := [some (.ref l0), some (.int l1), some (.int l2), some (.int x_4)]) (st' := [.ref l0, .int l1, .ref l0]) cd_192_83 rfl rfl ?_
              obtain ⟨ht, h⟩ := gO_s h
              obtain ⟨x_23, w_20, I_21, J_22, hcl, h⟩ := cI_s h
              refine gs_call (as := [.ref l0]) (rest := [.int l1, .ref l0]) cd_192_84 rfl (by decide) rfl (sm_rv_ok (by decide) ht) (Nat.le_of_ble_eq_true rfl) (Nat.le_of_ble_eq_true rfl) rfl hcl ?_
              refine gs_0 (pc' := 88) (L' := [some (.ref l0), some (.int l1), some (.int l2), some (.int x_4)]) (st' := [.int x_4, .int x_23, .int l1, .ref l0]) cd_192_87 rfl rfl ?_
              refine gs_0 (pc' := 89) (L' := [some (.ref l0), some (.int l1), some (.int l2), some (.int x_4)]) (st' := [.int 0, .int x_4, .int x_23, .int l1, .ref l0]) cd_192_88 rfl rfl ?_
              obtain ⟨ht, h⟩ := gO_s h
              obtain ⟨x_27, w_24, I_25, J_26, hcl, h⟩ := cI_s h
              refine gs_call (as := [.ref l0, .int l1, .int x_23, .int x_4, .int 0]) (rest := []) cd_192_89 rfl (by decide) rfl (sm_rv_ok (by decide) ht) (Nat.le_of_ble_eq_true rfl) (Nat.le_of_ble_eq_true rfl) rfl hcl ?_
              cases h
              exact gs_ri cd_192_92 (Or.inl rfl)
            · rw [if_neg hc5] at h
              by_cases hc6 : l1 = 11
              · rw [if_pos hc6] at h
                refine gs_0 (pc' := 93) (L' := [some (.ref l0), some (.int l1), some (.int l2), some (.int x_4)]) (st' := []) cd_192_7 rfl (sw_192_7_6 hc6) ?_
                refine gs_0 (pc' := 94) (L' := [some (.ref l0), some (.int l1), some (.int l2), some (.int x_4)]) (st' := [.ref l0]) cd_192_93 rfl rfl ?_
                obtain ⟨ht, h⟩ := gO_s h
                obtain ⟨q_28, hv, h⟩ := gV_s h
                refine gs_gfR cd_192_94 (by decide) ht hv ?_
                refine gs_0 (pc' := 98) (L' := [some (.ref l0), some (.int l1), some (.int l2), some (.int x_4)]) (st' := [.ref l0, .ref q_28]) cd_192_97 rfl rfl ?_
                refine gs_0 (pc' := 99) (L' := [some (.ref l0), some (.int l1), some (.int l2), some (.int x_4)]) (st' := [.int 2, .ref l0, .ref q_28]) cd_192_98 rfl rfl ?_
                obtain ⟨ht, h⟩ := gO_s h
                obtain ⟨x_32, w_29, I_30, J_31, hcl, h⟩ := cI_s h
                refine gs_call (as := [.ref l0, .int 2]) (rest := [.ref q_28]) cd_192_99 rfl (by decide) rfl (sm_rv_ok (by decide) ht) (Nat.le_of_ble_eq_true rfl) (Nat.le_of_ble_eq_true rfl) rfl hcl ?_
                refine gs_0 (pc' := 103) (L' := [some (.ref l0), some (.int l1), some (.int l2), some (.int x_4)]) (st' := [.int 3, .int x_32, .ref q_28]) cd_192_102 rfl rfl ?_
                refine gs_0 (pc' := 104) (L' := [some (.ref l0), some (.int l1), some (.int l2), some (.int x_4)]) (st' := [.int x_4, .int 3, .int x_32, .ref q_28]) cd_192_103 rfl rfl ?_
                refine gs_0 (pc' := 105) (L' := [some (.ref l0), some (.int l1), some (.int l2), some (.int x_4)]) (st' := [.int (3 + x_4), .int x_32, .ref q_28]) cd_192_104 rfl rfl ?_
                obtain ⟨x_36, w_33, I_34, J_35, hcl, h⟩ := cI_s h
                refine gs_call (as := [.int x_32, .int (3 + x_4)]) (rest := [.ref q_28]) cd_192_105 rfl (by decide) rfl rfl (Nat.le_of_ble_eq_true rfl) (Nat.le_of_ble_eq_true rfl) rfl hcl ?_
                obtain ⟨ht, h⟩ := gA_s h
                refine gs_iald cd_192_108 ht ?_
                cases h
                exact gs_ri cd_192_109 (Or.inl rfl)
              · rw [if_neg hc6] at h
                by_cases hc7 : l1 = 12
                · rw [if_pos hc7] at h
                  refine gs_0 (pc' := 110) (L' := [some (.ref l0), some (.int l1), some (.int l2), some (.int x_4)]) (st' := []) cd_192_7 rfl (sw_192_7_7 hc7) ?_
                  refine gs_0 (pc' := 111) (L' := [some (.ref l0), some (.int l1), some (.int l2), some (.int x_4)]) (st' := [.ref l0]) cd_192_110 rfl rfl ?_
                  refine gs_0 (pc' := 112) (L' := [some (.ref l0), some (.int l1), some (.int l2), some (.int x_4)]) (st' := [.int l1, .ref l0]) cd_192_111 rfl rfl ?_
                  refine gs_0 (pc' := 113) (L' := [some (.ref l0), some (.int l1), some (.int l2), some (.int x_4)]) (st' := [.ref l0, .int l1, .ref l0]) cd_192_112 rfl rfl ?_
                  obtain ⟨ht, h⟩ := gO_s h
                  obtain ⟨x_40, w_37, I_38, J_39, hcl, h⟩ := cI_s h
                  refine gs_call (as := [.ref l0]) (rest := [.int l1, .ref l0]) cd_192_113 rfl (by decide) rfl (sm_rv_ok (by decide) ht) (Nat.le_of_ble_eq_true rfl) (Nat.le_of_ble_eq_true rfl) rfl hcl ?_
                  refine gs_0 (pc' := 117) (L' := [some (.ref l0), some (.int l1), some (.int l2), some (.int x_4)]) (st' := [.ref l0, .int x_40, .int l1, .ref l0]) cd_192_116 rfl rfl ?_
                  refine gs_0 (pc' := 118) (L' := [some (.ref l0), some (.int l1), some (.int l2), some (.int x_4)]) (st' := [.int 2, .ref l0, .int x_40, .int l1, .ref l0]) cd_192_117 rfl rfl ?_
                  obtain ⟨ht, h⟩ := gO_s h
                  obtain ⟨x_44, w_41, I_42, J_43, hcl, h⟩ := cI_s h
                  refine gs_call (as := [.ref l0, .int 2]) (rest := [.int x_40, .int l1, .ref l0]) cd_192_118 rfl (by decide) rfl (sm_rv_ok (by decide) ht) (Nat.le_of_ble_eq_true rfl) (Nat.le_of_ble_eq_true rfl) rfl hcl ?_
                  refine gs_0 (pc' := 122) (L' := [some (.ref l0), some (.int l1), some (.int l2), some (.int x_4)]) (st' := [.int x_4, .int x_44, .int x_40, .int l1, .ref l0]) cd_192_121 rfl rfl ?_
                  obtain ⟨ht, h⟩ := gO_s h
                  obtain ⟨x_48, w_45, I_46, J_47, hcl, h⟩ := cI_s h
                  refine gs_call (as := [.ref l0, .int l1, .int x_40, .int x_44, .int x_4]) (rest := []) cd_192_122 rfl (by decide) rfl (sm_rv_ok (by decide) ht) (Nat.le_of_ble_eq_true rfl) (Nat.le_of_ble_eq_true rfl) rfl hcl ?_
                  cases h
                  exact gs_ri cd_192_125 (Or.inl rfl)
                · rw [if_neg hc7] at h
                  refine gs_0 (pc' := 126) (L' := [some (.ref l0), some (.int l1), some (.int l2), some (.int x_4)]) (st' := []) cd_192_7 rfl (sw_192_7_d hc0 hc1 hc2 hc3 hc4 hc5 hc6 hc7) ?_
                  refine gs_0 (pc' := 127) (L' := [some (.ref l0), some (.int l1), some (.int l2), some (.int x_4)]) (st' := [.int l1]) cd_192_126 rfl rfl ?_
                  refine gs_0 (pc' := 128) (L' := [some (.ref l0), some (.int l1), some (.int l2), some (.int x_4)]) (st' := [.ref l0, .int l1]) cd_192_127 rfl rfl ?_
                  refine gs_0 (pc' := 129) (L' := [some (.ref l0), some (.int l1), some (.int l2), some (.int x_4)]) (st' := [.int 2, .ref l0, .int l1]) cd_192_128 rfl rfl ?_
                  obtain ⟨ht, h⟩ := gO_s h
                  obtain ⟨x_52, w_49, I_50, J_51, hcl, h⟩ := cI_s h
                  refine gs_call (as := [.ref l0, .int 2]) (rest := [.int l1]) cd_192_129 rfl (by decide) rfl (sm_rv_ok (by decide) ht) (Nat.le_of_ble_eq_true rfl) (Nat.le_of_ble_eq_true rfl) rfl hcl ?_
                  refine gs_0 (pc' := 133) (L' := [some (.ref l0), some (.int l1), some (.int l2), some (.int x_4)]) (st' := [.int x_4, .int x_52, .int l1]) cd_192_132 rfl rfl ?_
                  obtain ⟨x_56, w_53, I_54, J_55, hcl, h⟩ := cI_s h
                  refine gs_call (as := [.int l1, .int x_52, .int x_4]) (rest := []) cd_192_133 rfl (by decide) rfl rfl (Nat.le_of_ble_eq_true rfl) (Nat.le_of_ble_eq_true rfl) rfl hcl ?_
                  cases h
                  exact gs_ri cd_192_136 (Or.inl rfl)
theorem cl_192 {K : Nat → Value} {k d : Nat} {l0 : Nat} {l1 : Int32} {l2 : Int32} {w : aW} {I : aI} {J : aJ} {R : aR} (h : f_192 K k d l0 l1 l2 w I J = some R) : Cl K (d + 1) 192 [.ref l0, .int l1, .int l2] w I J = some R := Cl_of (ok_192 h)
/-! ProvedMachineModel.made(IIII)I -/
set_option maxRecDepth 20000 in
theorem gl_193 : gcd.lookup 193 = some gw_193 := rfl
theorem cd_193_0 : sm_cd 193 0 = some (.aload_n 0, 1, 0, 0, 0, 0, 0, 0, 0) := cd_of gl_193 rfl
theorem cd_193_1 : sm_cd 193 1 = some (.getfield 111, 3, 6, 36, 2, 0, 0, 0, 0) := cd_of gl_193 rfl
theorem cd_193_4 : sm_cd 193 4 = some (.iload_n 2, 1, 2, 0, 0, 0, 0, 0, 0) := cd_of gl_193 rfl
theorem cd_193_5 : sm_cd 193 5 = some (.iconst 0, 1, 0, 0, 0, 0, 0, 0, 0) := cd_of gl_193 rfl
theorem cd_193_6 : sm_cd 193 6 = some (.invokestatic 366, 3, 183, 1, 2, 2, 6, 0, 0) := cd_of gl_193 rfl
theorem cd_193_9 : sm_cd 193 9 = some (.iload_n 1, 1, 1, 0, 0, 0, 0, 0, 0) := cd_of gl_193 rfl
theorem cd_193_10 : sm_cd 193 10 = some (.bipush 10, 2, 0, 0, 0, 0, 0, 10, 0) := cd_of gl_193 rfl
theorem cd_193_12 : sm_cd 193 12 = some (.if_icmp .ne 7, 3, 19, 0, 0, 0, 0, 0, 0) := cd_of gl_193 rfl
theorem cd_193_15 : sm_cd 193 15 = some (.iconst 1, 1, 0, 0, 0, 0, 0, 1, 0) := cd_of gl_193 rfl
theorem cd_193_16 : sm_cd 193 16 = some (.goto 4, 3, 20, 0, 0, 0, 0, 0, 0) := cd_of gl_193 rfl
theorem cd_193_19 : sm_cd 193 19 = some (.iconst 2, 1, 0, 0, 0, 0, 0, 2, 0) := cd_of gl_193 rfl
theorem cd_193_20 : sm_cd 193 20 = some (.iastore, 1, 0, 0, 0, 0, 0, 0, 0) := cd_of gl_193 rfl
theorem cd_193_21 : sm_cd 193 21 = some (.aload_n 0, 1, 0, 0, 0, 0, 0, 0, 0) := cd_of gl_193 rfl
theorem cd_193_22 : sm_cd 193 22 = some (.getfield 111, 3, 6, 36, 2, 0, 0, 0, 0) := cd_of gl_193 rfl
theorem cd_193_25 : sm_cd 193 25 = some (.iload_n 2, 1, 2, 0, 0, 0, 0, 0, 0) := cd_of gl_193 rfl
theorem cd_193_26 : sm_cd 193 26 = some (.iconst 1, 1, 0, 0, 0, 0, 0, 1, 0) := cd_of gl_193 rfl
theorem cd_193_27 : sm_cd 193 27 = some (.invokestatic 366, 3, 183, 1, 2, 2, 6, 0, 0) := cd_of gl_193 rfl
theorem cd_193_30 : sm_cd 193 30 = some (.iload_n 3, 1, 3, 0, 0, 0, 0, 0, 0) := cd_of gl_193 rfl
theorem cd_193_31 : sm_cd 193 31 = some (.iastore, 1, 0, 0, 0, 0, 0, 0, 0) := cd_of gl_193 rfl
theorem cd_193_32 : sm_cd 193 32 = some (.aload_n 0, 1, 0, 0, 0, 0, 0, 0, 0) := cd_of gl_193 rfl
theorem cd_193_33 : sm_cd 193 33 = some (.getfield 111, 3, 6, 36, 2, 0, 0, 0, 0) := cd_of gl_193 rfl
theorem cd_193_36 : sm_cd 193 36 = some (.iload_n 2, 1, 2, 0, 0, 0, 0, 0, 0) := cd_of gl_193 rfl
theorem cd_193_37 : sm_cd 193 37 = some (.iconst 2, 1, 0, 0, 0, 0, 0, 2, 0) := cd_of gl_193 rfl
theorem cd_193_38 : sm_cd 193 38 = some (.invokestatic 366, 3, 183, 1, 2, 2, 6, 0, 0) := cd_of gl_193 rfl
theorem cd_193_41 : sm_cd 193 41 = some (.iload 4, 2, 4, 0, 0, 0, 0, 0, 0) := cd_of gl_193 rfl
theorem cd_193_43 : sm_cd 193 43 = some (.iastore, 1, 0, 0, 0, 0, 0, 0, 0) := cd_of gl_193 rfl
theorem cd_193_44 : sm_cd 193 44 = some (.iload_n 2, 1, 2, 0, 0, 0, 0, 0, 0) := cd_of gl_193 rfl
theorem cd_193_45 : sm_cd 193 45 = some (.ireturn, 1, 0, 0, 1, 0, 0, 0, 0) := cd_of gl_193 rfl
noncomputable def f_193_20 (K : Nat → Value) (k d : Nat) (l0 : Nat) (l1 : Int32) (l2 : Int32) (l3 : Int32) (l4 : Int32) (s0 : Nat) (s1 : Int32) (s2 : Int32) (w : aW) (I : aI) (J : aJ) : Option aR :=
  gA w 10 10 s0 s1 (
  lt_ (sm_up2 I s0 (s1 : Int32).toNatClampNeg s2) fun I_1 =>
  gO w 6 l0 (
  gV w l0 36 fun q_2 =>
  cI (Cl K d 183 [.int l2, .int 1] w I_1 J) fun x_6 w_3 I_4 J_5 =>
  gA w_3 10 10 q_2 x_6 (
  lt_ (sm_up2 I_4 q_2 (x_6 : Int32).toNatClampNeg l3) fun I_7 =>
  gO w_3 6 l0 (
  gV w_3 l0 36 fun q_8 =>
  cI (Cl K d 183 [.int l2, .int 2] w_3 I_7 J_5) fun x_12 w_9 I_10 J_11 =>
  gA w_9 10 10 q_8 x_12 (
  lt_ (sm_up2 I_10 q_8 (x_12 : Int32).toNatClampNeg l4) fun I_13 =>
  some (some (.int l2), w_9, I_13, J_11))))))
theorem ok_193_20 {K : Nat → Value} {k d : Nat} {l0 : Nat} {l1 : Int32} {l2 : Int32} {l3 : Int32} {l4 : Int32} {s0 : Nat} {s1 : Int32} {s2 : Int32} {w : aW} {I : aI} {J : aJ} {R : aR} (h : f_193_20 K k d l0 l1 l2 l3 l4 s0 s1 s2 w I J = some R) : Go K (d + 1) 193 20 [some (.ref l0), some (.int l1), some (.int l2), some (.int l3), some (.int l4)] [.int s2, .int s1, .ref s0] w I J R := by
  unfold f_193_20 at h
  obtain ⟨ht, h⟩ := gA_s h
  refine gs_iast cd_193_20 ht ?_
  obtain ⟨I_1, hx, h⟩ := lt_s_ h
  rw [hx]
  refine gs_0 (pc' := 22) (L' := [some (.ref l0), some (.int l1), some (.int l2), some (.int l3), some (.int l4)]) (st' := [.ref l0]) cd_193_21 rfl rfl ?_
  obtain ⟨ht, h⟩ := gO_s h
  obtain ⟨q_2, hv, h⟩ := gV_s h
  refine gs_gfR cd_193_22 (by decide) ht hv ?_
  refine gs_0 (pc' := 26) (L' := [some (.ref l0), some (.int l1), some (.int l2), some (.int l3), some (.int l4)]) (st' := [.int l2, .ref q_2]) cd_193_25 rfl rfl ?_
  refine gs_0 (pc' := 27) (L' := [some (.ref l0), some (.int l1), some (.int l2), some (.int l3), some (.int l4)]) (st' := [.int 1, .int l2, .ref q_2]) cd_193_26 rfl rfl ?_
  obtain ⟨x_6, w_3, I_4, J_5, hcl, h⟩ := cI_s h
  refine gs_call (as := [.int l2, .int 1]) (rest := [.ref q_2]) cd_193_27 rfl (by decide) rfl rfl (Nat.le_of_ble_eq_true rfl) (Nat.le_of_ble_eq_true rfl) rfl hcl ?_
  refine gs_0 (pc' := 31) (L' := [some (.ref l0), some (.int l1), some (.int l2), some (.int l3), some (.int l4)]) (st' := [.int l3, .int x_6, .ref q_2]) cd_193_30 rfl rfl ?_
  obtain ⟨ht, h⟩ := gA_s h
  refine gs_iast cd_193_31 ht ?_
  obtain ⟨I_7, hx, h⟩ := lt_s_ h
  rw [hx]
  refine gs_0 (pc' := 33) (L' := [some (.ref l0), some (.int l1), some (.int l2), some (.int l3), some (.int l4)]) (st' := [.ref l0]) cd_193_32 rfl rfl ?_
  obtain ⟨ht, h⟩ := gO_s h
  obtain ⟨q_8, hv, h⟩ := gV_s h
  refine gs_gfR cd_193_33 (by decide) ht hv ?_
  refine gs_0 (pc' := 37) (L' := [some (.ref l0), some (.int l1), some (.int l2), some (.int l3), some (.int l4)]) (st' := [.int l2, .ref q_8]) cd_193_36 rfl rfl ?_
  refine gs_0 (pc' := 38) (L' := [some (.ref l0), some (.int l1), some (.int l2), some (.int l3), some (.int l4)]) (st' := [.int 2, .int l2, .ref q_8]) cd_193_37 rfl rfl ?_
  obtain ⟨x_12, w_9, I_10, J_11, hcl, h⟩ := cI_s h
  refine gs_call (as := [.int l2, .int 2]) (rest := [.ref q_8]) cd_193_38 rfl (by decide) rfl rfl (Nat.le_of_ble_eq_true rfl) (Nat.le_of_ble_eq_true rfl) rfl hcl ?_
  refine gs_0 (pc' := 43) (L' := [some (.ref l0), some (.int l1), some (.int l2), some (.int l3), some (.int l4)]) (st' := [.int l4, .int x_12, .ref q_8]) cd_193_41 rfl rfl ?_
  obtain ⟨ht, h⟩ := gA_s h
  refine gs_iast cd_193_43 ht ?_
  obtain ⟨I_13, hx, h⟩ := lt_s_ h
  rw [hx]
  refine gs_0 (pc' := 45) (L' := [some (.ref l0), some (.int l1), some (.int l2), some (.int l3), some (.int l4)]) (st' := [.int l2]) cd_193_44 rfl rfl ?_
  cases h
  exact gs_ri cd_193_45 (Or.inl rfl)
noncomputable def f_193 (K : Nat → Value) (k d : Nat) (l0 : Nat) (l1 : Int32) (l2 : Int32) (l3 : Int32) (l4 : Int32) (w : aW) (I : aI) (J : aJ) : Option aR :=
  gO w 6 l0 (
  gV w l0 36 fun q_1 =>
  cI (Cl K d 183 [.int l2, .int 0] w I J) fun x_5 w_2 I_3 J_4 =>
  if ¬ l1 = 10 then
    f_193_20 K k d l0 l1 l2 l3 l4 q_1 x_5 2 w_2 I_3 J_4
  else
    f_193_20 K k d l0 l1 l2 l3 l4 q_1 x_5 1 w_2 I_3 J_4)
theorem ok_193 {K : Nat → Value} {k d : Nat} {l0 : Nat} {l1 : Int32} {l2 : Int32} {l3 : Int32} {l4 : Int32} {w : aW} {I : aI} {J : aJ} {R : aR} (h : f_193 K k d l0 l1 l2 l3 l4 w I J = some R) : Go K (d + 1) 193 0 [some (.ref l0), some (.int l1), some (.int l2), some (.int l3), some (.int l4)] [] w I J R := by
  unfold f_193 at h
  refine gs_0 (pc' := 1) (L' := [some (.ref l0), some (.int l1), some (.int l2), some (.int l3), some (.int l4)]) (st' := [.ref l0]) cd_193_0 rfl rfl ?_
  obtain ⟨ht, h⟩ := gO_s h
  obtain ⟨q_1, hv, h⟩ := gV_s h
  refine gs_gfR cd_193_1 (by decide) ht hv ?_
  refine gs_0 (pc' := 5) (L' := [some (.ref l0), some (.int l1), some (.int l2), some (.int l3), some (.int l4)]) (st' := [.int l2, .ref q_1]) cd_193_4 rfl rfl ?_
  refine gs_0 (pc' := 6) (L' := [some (.ref l0), some (.int l1), some (.int l2), some (.int l3), some (.int l4)]) (st' := [.int 0, .int l2, .ref q_1]) cd_193_5 rfl rfl ?_
  obtain ⟨x_5, w_2, I_3, J_4, hcl, h⟩ := cI_s h
  refine gs_call (as := [.int l2, .int 0]) (rest := [.ref q_1]) cd_193_6 rfl (by decide) rfl rfl (Nat.le_of_ble_eq_true rfl) (Nat.le_of_ble_eq_true rfl) rfl hcl ?_
  refine gs_0 (pc' := 10) (L' := [some (.ref l0), some (.int l1), some (.int l2), some (.int l3), some (.int l4)]) (st' := [.int l1, .int x_5, .ref q_1]) cd_193_9 rfl rfl ?_
  refine gs_0 (pc' := 12) (L' := [some (.ref l0), some (.int l1), some (.int l2), some (.int l3), some (.int l4)]) (st' := [.int 10, .int l1, .int x_5, .ref q_1]) cd_193_10 rfl rfl ?_
  refine gs_0 (pc' := if ¬ l1 = 10 then 19 else 15) (L' := [some (.ref l0), some (.int l1), some (.int l2), some (.int l3), some (.int l4)]) (st' := [.int x_5, .ref q_1]) cd_193_12 rfl rfl ?_
  refine go_ite (fun hc => ?_) (fun hc => ?_)
  · rw [if_pos hc] at h
    refine gs_0 (pc' := 20) (L' := [some (.ref l0), some (.int l1), some (.int l2), some (.int l3), some (.int l4)]) (st' := [.int 2, .int x_5, .ref q_1]) cd_193_19 rfl rfl ?_
    exact ok_193_20 h
  · rw [if_neg hc] at h
    refine gs_0 (pc' := 16) (L' := [some (.ref l0), some (.int l1), some (.int l2), some (.int l3), some (.int l4)]) (st' := [.int 1, .int x_5, .ref q_1]) cd_193_15 rfl rfl ?_
    refine gs_0 (pc' := 20) (L' := [some (.ref l0), some (.int l1), some (.int l2), some (.int l3), some (.int l4)]) (st' := [.int 1, .int x_5, .ref q_1]) cd_193_16 rfl rfl ?_
    exact ok_193_20 h
theorem cl_193 {K : Nat → Value} {k d : Nat} {l0 : Nat} {l1 : Int32} {l2 : Int32} {l3 : Int32} {l4 : Int32} {w : aW} {I : aI} {J : aJ} {R : aR} (h : f_193 K k d l0 l1 l2 l3 l4 w I J = some R) : Cl K (d + 1) 193 [.ref l0, .int l1, .int l2, .int l3, .int l4] w I J = some R := Cl_of (ok_193 h)
/-! ProvedMachineModel.worked(III)I -/
set_option maxRecDepth 20000 in
theorem gl_194 : gcd.lookup 194 = some gw_194 := rfl
theorem cd_194_0 : sm_cd 194 0 = some (.iload_n 0, 1, 0, 0, 0, 0, 0, 0, 0) := cd_of gl_194 rfl
theorem cd_194_1 : sm_cd 194 1 = some (.tableswitch 85 13 19 #[43, 47, 51, 62, 73, 77, 81], 43, 0, 0, 0, 0, 0, 0, 0) := cd_of gl_194 rfl
theorem cd_194_44 : sm_cd 194 44 = some (.iload_n 1, 1, 1, 0, 0, 0, 0, 0, 0) := cd_of gl_194 rfl
theorem cd_194_45 : sm_cd 194 45 = some (.iload_n 2, 1, 2, 0, 0, 0, 0, 0, 0) := cd_of gl_194 rfl
theorem cd_194_46 : sm_cd 194 46 = some (.ior, 1, 0, 0, 0, 0, 0, 0, 0) := cd_of gl_194 rfl
theorem cd_194_47 : sm_cd 194 47 = some (.ireturn, 1, 0, 0, 1, 0, 0, 0, 0) := cd_of gl_194 rfl
theorem cd_194_48 : sm_cd 194 48 = some (.iload_n 1, 1, 1, 0, 0, 0, 0, 0, 0) := cd_of gl_194 rfl
theorem cd_194_49 : sm_cd 194 49 = some (.iload_n 2, 1, 2, 0, 0, 0, 0, 0, 0) := cd_of gl_194 rfl
theorem cd_194_50 : sm_cd 194 50 = some (.iand, 1, 0, 0, 0, 0, 0, 0, 0) := cd_of gl_194 rfl
theorem cd_194_51 : sm_cd 194 51 = some (.ireturn, 1, 0, 0, 1, 0, 0, 0, 0) := cd_of gl_194 rfl
theorem cd_194_52 : sm_cd 194 52 = some (.iload_n 1, 1, 1, 0, 0, 0, 0, 0, 0) := cd_of gl_194 rfl
theorem cd_194_53 : sm_cd 194 53 = some (.iload_n 2, 1, 2, 0, 0, 0, 0, 0, 0) := cd_of gl_194 rfl
theorem cd_194_54 : sm_cd 194 54 = some (.if_icmp .ge 7, 3, 61, 0, 0, 0, 0, 0, 0) := cd_of gl_194 rfl
theorem cd_194_57 : sm_cd 194 57 = some (.iconst 1, 1, 0, 0, 0, 0, 0, 1, 0) := cd_of gl_194 rfl
theorem cd_194_58 : sm_cd 194 58 = some (.goto 4, 3, 62, 0, 0, 0, 0, 0, 0) := cd_of gl_194 rfl
theorem cd_194_61 : sm_cd 194 61 = some (.iconst 0, 1, 0, 0, 0, 0, 0, 0, 0) := cd_of gl_194 rfl
theorem cd_194_62 : sm_cd 194 62 = some (.ireturn, 1, 0, 0, 1, 0, 0, 0, 0) := cd_of gl_194 rfl
theorem cd_194_63 : sm_cd 194 63 = some (.iload_n 1, 1, 1, 0, 0, 0, 0, 0, 0) := cd_of gl_194 rfl
theorem cd_194_64 : sm_cd 194 64 = some (.iload_n 2, 1, 2, 0, 0, 0, 0, 0, 0) := cd_of gl_194 rfl
theorem cd_194_65 : sm_cd 194 65 = some (.if_icmp .ne 7, 3, 72, 0, 0, 0, 0, 0, 0) := cd_of gl_194 rfl
theorem cd_194_68 : sm_cd 194 68 = some (.iconst 1, 1, 0, 0, 0, 0, 0, 1, 0) := cd_of gl_194 rfl
theorem cd_194_69 : sm_cd 194 69 = some (.goto 4, 3, 73, 0, 0, 0, 0, 0, 0) := cd_of gl_194 rfl
theorem cd_194_72 : sm_cd 194 72 = some (.iconst 0, 1, 0, 0, 0, 0, 0, 0, 0) := cd_of gl_194 rfl
theorem cd_194_73 : sm_cd 194 73 = some (.ireturn, 1, 0, 0, 1, 0, 0, 0, 0) := cd_of gl_194 rfl
theorem cd_194_74 : sm_cd 194 74 = some (.iload_n 1, 1, 1, 0, 0, 0, 0, 0, 0) := cd_of gl_194 rfl
theorem cd_194_75 : sm_cd 194 75 = some (.iload_n 2, 1, 2, 0, 0, 0, 0, 0, 0) := cd_of gl_194 rfl
theorem cd_194_76 : sm_cd 194 76 = some (.iadd, 1, 0, 0, 0, 0, 0, 0, 0) := cd_of gl_194 rfl
theorem cd_194_77 : sm_cd 194 77 = some (.ireturn, 1, 0, 0, 1, 0, 0, 0, 0) := cd_of gl_194 rfl
theorem cd_194_78 : sm_cd 194 78 = some (.iload_n 1, 1, 1, 0, 0, 0, 0, 0, 0) := cd_of gl_194 rfl
theorem cd_194_79 : sm_cd 194 79 = some (.iload_n 2, 1, 2, 0, 0, 0, 0, 0, 0) := cd_of gl_194 rfl
theorem cd_194_80 : sm_cd 194 80 = some (.isub, 1, 0, 0, 0, 0, 0, 0, 0) := cd_of gl_194 rfl
theorem cd_194_81 : sm_cd 194 81 = some (.ireturn, 1, 0, 0, 1, 0, 0, 0, 0) := cd_of gl_194 rfl
theorem cd_194_82 : sm_cd 194 82 = some (.iload_n 1, 1, 1, 0, 0, 0, 0, 0, 0) := cd_of gl_194 rfl
theorem cd_194_83 : sm_cd 194 83 = some (.iload_n 2, 1, 2, 0, 0, 0, 0, 0, 0) := cd_of gl_194 rfl
theorem cd_194_84 : sm_cd 194 84 = some (.imul, 1, 0, 0, 0, 0, 0, 0, 0) := cd_of gl_194 rfl
theorem cd_194_85 : sm_cd 194 85 = some (.ireturn, 1, 0, 0, 1, 0, 0, 0, 0) := cd_of gl_194 rfl
theorem cd_194_86 : sm_cd 194 86 = some (.iload_n 1, 1, 1, 0, 0, 0, 0, 0, 0) := cd_of gl_194 rfl
theorem cd_194_87 : sm_cd 194 87 = some (.iload_n 2, 1, 2, 0, 0, 0, 0, 0, 0) := cd_of gl_194 rfl
theorem cd_194_88 : sm_cd 194 88 = some (.idiv, 1, 0, 0, 0, 0, 0, 0, 0) := cd_of gl_194 rfl
theorem cd_194_89 : sm_cd 194 89 = some (.ireturn, 1, 0, 0, 1, 0, 0, 0, 0) := cd_of gl_194 rfl
theorem sw_194_1_0 {K : Nat → Value} {L : aL} {st : List Value} {w : aW} {I : aI} {J : aJ} {x : Int32} (h : x = 13) : sm_stp K (.tableswitch 85 13 19 #[43, 47, 51, 62, 73, 77, 81], 43, 0, 0, 0, 0, 0, 0, 0) 1 L (.int x :: st) w I J = some (44, L, st, w, I, J) := by subst h; rfl
theorem sw_194_1_1 {K : Nat → Value} {L : aL} {st : List Value} {w : aW} {I : aI} {J : aJ} {x : Int32} (h : x = 14) : sm_stp K (.tableswitch 85 13 19 #[43, 47, 51, 62, 73, 77, 81], 43, 0, 0, 0, 0, 0, 0, 0) 1 L (.int x :: st) w I J = some (48, L, st, w, I, J) := by subst h; rfl
theorem sw_194_1_2 {K : Nat → Value} {L : aL} {st : List Value} {w : aW} {I : aI} {J : aJ} {x : Int32} (h : x = 15) : sm_stp K (.tableswitch 85 13 19 #[43, 47, 51, 62, 73, 77, 81], 43, 0, 0, 0, 0, 0, 0, 0) 1 L (.int x :: st) w I J = some (52, L, st, w, I, J) := by subst h; rfl
theorem sw_194_1_3 {K : Nat → Value} {L : aL} {st : List Value} {w : aW} {I : aI} {J : aJ} {x : Int32} (h : x = 16) : sm_stp K (.tableswitch 85 13 19 #[43, 47, 51, 62, 73, 77, 81], 43, 0, 0, 0, 0, 0, 0, 0) 1 L (.int x :: st) w I J = some (63, L, st, w, I, J) := by subst h; rfl
theorem sw_194_1_4 {K : Nat → Value} {L : aL} {st : List Value} {w : aW} {I : aI} {J : aJ} {x : Int32} (h : x = 17) : sm_stp K (.tableswitch 85 13 19 #[43, 47, 51, 62, 73, 77, 81], 43, 0, 0, 0, 0, 0, 0, 0) 1 L (.int x :: st) w I J = some (74, L, st, w, I, J) := by subst h; rfl
theorem sw_194_1_5 {K : Nat → Value} {L : aL} {st : List Value} {w : aW} {I : aI} {J : aJ} {x : Int32} (h : x = 18) : sm_stp K (.tableswitch 85 13 19 #[43, 47, 51, 62, 73, 77, 81], 43, 0, 0, 0, 0, 0, 0, 0) 1 L (.int x :: st) w I J = some (78, L, st, w, I, J) := by subst h; rfl
theorem sw_194_1_6 {K : Nat → Value} {L : aL} {st : List Value} {w : aW} {I : aI} {J : aJ} {x : Int32} (h : x = 19) : sm_stp K (.tableswitch 85 13 19 #[43, 47, 51, 62, 73, 77, 81], 43, 0, 0, 0, 0, 0, 0, 0) 1 L (.int x :: st) w I J = some (82, L, st, w, I, J) := by subst h; rfl
theorem sw_194_1_d {K : Nat → Value} {L : aL} {st : List Value} {w : aW} {I : aI} {J : aJ} {x : Int32} (h0 : ¬ x = 13) (h1 : ¬ x = 14) (h2 : ¬ x = 15) (h3 : ¬ x = 16) (h4 : ¬ x = 17) (h5 : ¬ x = 18) (h6 : ¬ x = 19) : sm_stp K (.tableswitch 85 13 19 #[43, 47, 51, 62, 73, 77, 81], 43, 0, 0, 0, 0, 0, 0, 0) 1 L (.int x :: st) w I J = some (86, L, st, w, I, J) := by
  have e : sm_swt 1 85 13 19 #[43, 47, 51, 62, 73, 77, 81] x = some 86 := by
    unfold sm_swt
    split
    · rfl
    · rename_i hn
      exfalso
      have ha : ¬ x.toInt < 13 := fun q => hn (Or.inl q)
      have hb : ¬ 19 < x.toInt := fun q => hn (Or.inr q)
      have g0 : ¬ x.toInt = 13 := fun q => h0 (Int32.toInt_inj.mp q)
      have g1 : ¬ x.toInt = 14 := fun q => h1 (Int32.toInt_inj.mp q)
      have g2 : ¬ x.toInt = 15 := fun q => h2 (Int32.toInt_inj.mp q)
      have g3 : ¬ x.toInt = 16 := fun q => h3 (Int32.toInt_inj.mp q)
      have g4 : ¬ x.toInt = 17 := fun q => h4 (Int32.toInt_inj.mp q)
      have g5 : ¬ x.toInt = 18 := fun q => h5 (Int32.toInt_inj.mp q)
      have g6 : ¬ x.toInt = 19 := fun q => h6 (Int32.toInt_inj.mp q)
      omega
  simp only [sm_stp, e, sm_jm]
noncomputable def f_194 (K : Nat → Value) (k d : Nat) (l0 : Int32) (l1 : Int32) (l2 : Int32) (w : aW) (I : aI) (J : aJ) : Option aR :=
  if l0 = 13 then
    some (some (.int (l1 ||| l2)), w, I, J)
  else
  if l0 = 14 then
    some (some (.int (l1 &&& l2)), w, I, J)
  else
  if l0 = 15 then
    if l2 ≤ l1 then
      some (some (.int 0), w, I, J)
    else
      some (some (.int 1), w, I, J)
  else
  if l0 = 16 then
    if ¬ l1 = l2 then
      some (some (.int 0), w, I, J)
    else
      some (some (.int 1), w, I, J)
  else
  if l0 = 17 then
    some (some (.int (l1 + l2)), w, I, J)
  else
  if l0 = 18 then
    some (some (.int (l1 - l2)), w, I, J)
  else
  if l0 = 19 then
    some (some (.int (l1 * l2)), w, I, J)
  else
  gC (¬ l2 = 0) (
  some (some (.int (l1 / l2)), w, I, J))
theorem ok_194 {K : Nat → Value} {k d : Nat} {l0 : Int32} {l1 : Int32} {l2 : Int32} {w : aW} {I : aI} {J : aJ} {R : aR} (h : f_194 K k d l0 l1 l2 w I J = some R) : Go K (d + 1) 194 0 [some (.int l0), some (.int l1), some (.int l2)] [] w I J R := by
  unfold f_194 at h
  refine gs_0 (pc' := 1) (L' := [some (.int l0), some (.int l1), some (.int l2)]) (st' := [.int l0]) cd_194_0 rfl rfl ?_
  by_cases hc0 : l0 = 13
  · rw [if_pos hc0] at h
    refine gs_0 (pc' := 44) (L' := [some (.int l0), some (.int l1), some (.int l2)]) (st' := []) cd_194_1 rfl (sw_194_1_0 hc0) ?_
    refine gs_0 (pc' := 45) (L' := [some (.int l0), some (.int l1), some (.int l2)]) (st' := [.int l1]) cd_194_44 rfl rfl ?_
    refine gs_0 (pc' := 46) (L' := [some (.int l0), some (.int l1), some (.int l2)]) (st' := [.int l2, .int l1]) cd_194_45 rfl rfl ?_
    refine gs_0 (pc' := 47) (L' := [some (.int l0), some (.int l1), some (.int l2)]) (st' := [.int (l1 ||| l2)]) cd_194_46 rfl rfl ?_
    cases h
    exact gs_ri cd_194_47 (Or.inl rfl)
  · rw [if_neg hc0] at h
    by_cases hc1 : l0 = 14
    · rw [if_pos hc1] at h
      refine gs_0 (pc' := 48) (L' := [some (.int l0), some (.int l1), some (.int l2)]) (st' := []) cd_194_1 rfl (sw_194_1_1 hc1) ?_
      refine gs_0 (pc' := 49) (L' := [some (.int l0), some (.int l1), some (.int l2)]) (st' := [.int l1]) cd_194_48 rfl rfl ?_
      refine gs_0 (pc' := 50) (L' := [some (.int l0), some (.int l1), some (.int l2)]) (st' := [.int l2, .int l1]) cd_194_49 rfl rfl ?_
      refine gs_0 (pc' := 51) (L' := [some (.int l0), some (.int l1), some (.int l2)]) (st' := [.int (l1 &&& l2)]) cd_194_50 rfl rfl ?_
      cases h
      exact gs_ri cd_194_51 (Or.inl rfl)
    · rw [if_neg hc1] at h
      by_cases hc2 : l0 = 15
      · rw [if_pos hc2] at h
        refine gs_0 (pc' := 52) (L' := [some (.int l0), some (.int l1), some (.int l2)]) (st' := []) cd_194_1 rfl (sw_194_1_2 hc2) ?_
        refine gs_0 (pc' := 53) (L' := [some (.int l0), some (.int l1), some (.int l2)]) (st' := [.int l1]) cd_194_52 rfl rfl ?_
        refine gs_0 (pc' := 54) (L' := [some (.int l0), some (.int l1), some (.int l2)]) (st' := [.int l2, .int l1]) cd_194_53 rfl rfl ?_
        refine gs_0 (pc' := if l2 ≤ l1 then 61 else 57) (L' := [some (.int l0), some (.int l1), some (.int l2)]) (st' := []) cd_194_54 rfl rfl ?_
        refine go_ite (fun hc => ?_) (fun hc => ?_)
        · rw [if_pos hc] at h
          refine gs_0 (pc' := 62) (L' := [some (.int l0), some (.int l1), some (.int l2)]) (st' := [.int 0]) cd_194_61 rfl rfl ?_
          cases h
          exact gs_ri cd_194_62 (Or.inl rfl)
        · rw [if_neg hc] at h
          refine gs_0 (pc' := 58) (L' := [some (.int l0), some (.int l1), some (.int l2)]) (st' := [.int 1]) cd_194_57 rfl rfl ?_
          refine gs_0 (pc' := 62) (L' := [some (.int l0), some (.int l1), some (.int l2)]) (st' := [.int 1]) cd_194_58 rfl rfl ?_
          cases h
          exact gs_ri cd_194_62 (Or.inl rfl)
      · rw [if_neg hc2] at h
        by_cases hc3 : l0 = 16
        · rw [if_pos hc3] at h
          refine gs_0 (pc' := 63) (L' := [some (.int l0), some (.int l1), some (.int l2)]) (st' := []) cd_194_1 rfl (sw_194_1_3 hc3) ?_
          refine gs_0 (pc' := 64) (L' := [some (.int l0), some (.int l1), some (.int l2)]) (st' := [.int l1]) cd_194_63 rfl rfl ?_
          refine gs_0 (pc' := 65) (L' := [some (.int l0), some (.int l1), some (.int l2)]) (st' := [.int l2, .int l1]) cd_194_64 rfl rfl ?_
          refine gs_0 (pc' := if ¬ l1 = l2 then 72 else 68) (L' := [some (.int l0), some (.int l1), some (.int l2)]) (st' := []) cd_194_65 rfl rfl ?_
          refine go_ite (fun hc => ?_) (fun hc => ?_)
          · rw [if_pos hc] at h
            refine gs_0 (pc' := 73) (L' := [some (.int l0), some (.int l1), some (.int l2)]) (st' := [.int 0]) cd_194_72 rfl rfl ?_
            cases h
            exact gs_ri cd_194_73 (Or.inl rfl)
          · rw [if_neg hc] at h
            refine gs_0 (pc' := 69) (L' := [some (.int l0), some (.int l1), some (.int l2)]) (st' := [.int 1]) cd_194_68 rfl rfl ?_
            refine gs_0 (pc' := 73) (L' := [some (.int l0), some (.int l1), some (.int l2)]) (st' := [.int 1]) cd_194_69 rfl rfl ?_
            cases h
            exact gs_ri cd_194_73 (Or.inl rfl)
        · rw [if_neg hc3] at h
          by_cases hc4 : l0 = 17
          · rw [if_pos hc4] at h
            refine gs_0 (pc' := 74) (L' := [some (.int l0), some (.int l1), some (.int l2)]) (st' := []) cd_194_1 rfl (sw_194_1_4 hc4) ?_
            refine gs_0 (pc' := 75) (L' := [some (.int l0), some (.int l1), some (.int l2)]) (st' := [.int l1]) cd_194_74 rfl rfl ?_
            refine gs_0 (pc' := 76) (L' := [some (.int l0), some (.int l1), some (.int l2)]) (st' := [.int l2, .int l1]) cd_194_75 rfl rfl ?_
            refine gs_0 (pc' := 77) (L' := [some (.int l0), some (.int l1), some (.int l2)]) (st' := [.int (l1 + l2)]) cd_194_76 rfl rfl ?_
            cases h
            exact gs_ri cd_194_77 (Or.inl rfl)
          · rw [if_neg hc4] at h
            by_cases hc5 : l0 = 18
            · rw [if_pos hc5] at h
              refine gs_0 (pc' := 78) (L' := [some (.int l0), some (.int l1), some (.int l2)]) (st' := []) cd_194_1 rfl (sw_194_1_5 hc5) ?_
              refine gs_0 (pc' := 79) (L' := [some (.int l0), some (.int l1), some (.int l2)]) (st' := [.int l1]) cd_194_78 rfl rfl ?_
              refine gs_0 (pc' := 80) (L' := [some (.int l0), some (.int l1), some (.int l2)]) (st' := [.int l2, .int l1]) cd_194_79 rfl rfl ?_
              refine gs_0 (pc' := 81) (L' := [some (.int l0), some (.int l1), some (.int l2)]) (st' := [.int (l1 - l2)]) cd_194_80 rfl rfl ?_
              cases h
              exact gs_ri cd_194_81 (Or.inl rfl)
            · rw [if_neg hc5] at h
              by_cases hc6 : l0 = 19
              · rw [if_pos hc6] at h
                refine gs_0 (pc' := 82) (L' := [some (.int l0), some (.int l1), some (.int l2)]) (st' := []) cd_194_1 rfl (sw_194_1_6 hc6) ?_
                refine gs_0 (pc' := 83) (L' := [some (.int l0), some (.int l1), some (.int l2)]) (st' := [.int l1]) cd_194_82 rfl rfl ?_
                refine gs_0 (pc' := 84) (L' := [some (.int l0), some (.int l1), some (.int l2)]) (st' := [.int l2, .int l1]) cd_194_83 rfl rfl ?_
                refine gs_0 (pc' := 85) (L' := [some (.int l0), some (.int l1), some (.int l2)]) (st' := [.int (l1 * l2)]) cd_194_84 rfl rfl ?_
                cases h
                exact gs_ri cd_194_85 (Or.inl rfl)
              · rw [if_neg hc6] at h
                refine gs_0 (pc' := 86) (L' := [some (.int l0), some (.int l1), some (.int l2)]) (st' := []) cd_194_1 rfl (sw_194_1_d hc0 hc1 hc2 hc3 hc4 hc5 hc6) ?_
                refine gs_0 (pc' := 87) (L' := [some (.int l0), some (.int l1), some (.int l2)]) (st' := [.int l1]) cd_194_86 rfl rfl ?_
                refine gs_0 (pc' := 88) (L' := [some (.int l0), some (.int l1), some (.int l2)]) (st' := [.int l2, .int l1]) cd_194_87 rfl rfl ?_
                obtain ⟨hc, h⟩ := gC_s h
                refine gs_div cd_194_88 hc ?_
                cases h
                exact gs_ri cd_194_89 (Or.inl rfl)
theorem cl_194 {K : Nat → Value} {k d : Nat} {l0 : Int32} {l1 : Int32} {l2 : Int32} {w : aW} {I : aI} {J : aJ} {R : aR} (h : f_194 K k d l0 l1 l2 w I J = some R) : Cl K (d + 1) 194 [.int l0, .int l1, .int l2] w I J = some R := Cl_of (ok_194 h)
/-! ProvedMachineModel.leaves(III)V -/
set_option maxRecDepth 20000 in
theorem gl_195 : gcd.lookup 195 = some gw_195 := rfl
theorem cd_195_0 : sm_cd 195 0 = some (.iload_n 1, 1, 1, 0, 0, 0, 0, 0, 0) := cd_of gl_195 rfl
theorem cd_195_1 : sm_cd 195 1 = some (.bipush 21, 2, 0, 0, 0, 0, 0, 21, 0) := cd_of gl_195 rfl
theorem cd_195_3 : sm_cd 195 3 = some (.if_icmp .ne 21, 3, 24, 0, 0, 0, 0, 0, 0) := cd_of gl_195 rfl
theorem cd_195_6 : sm_cd 195 6 = some (.aload_n 0, 1, 0, 0, 0, 0, 0, 0, 0) := cd_of gl_195 rfl
theorem cd_195_7 : sm_cd 195 7 = some (.getfield 111, 3, 6, 36, 2, 0, 0, 0, 0) := cd_of gl_195 rfl
theorem cd_195_10 : sm_cd 195 10 = some (.iload_n 3, 1, 3, 0, 0, 0, 0, 0, 0) := cd_of gl_195 rfl
theorem cd_195_11 : sm_cd 195 11 = some (.iconst 2, 1, 0, 0, 0, 0, 0, 2, 0) := cd_of gl_195 rfl
theorem cd_195_12 : sm_cd 195 12 = some (.iadd, 1, 0, 0, 0, 0, 0, 0, 0) := cd_of gl_195 rfl
theorem cd_195_13 : sm_cd 195 13 = some (.iload_n 2, 1, 2, 0, 0, 0, 0, 0, 0) := cd_of gl_195 rfl
theorem cd_195_14 : sm_cd 195 14 = some (.iadd, 1, 0, 0, 0, 0, 0, 0, 0) := cd_of gl_195 rfl
theorem cd_195_15 : sm_cd 195 15 = some (.aload_n 0, 1, 0, 0, 0, 0, 0, 0, 0) := cd_of gl_195 rfl
theorem cd_195_16 : sm_cd 195 16 = some (.iconst 1, 1, 0, 0, 0, 0, 0, 1, 0) := cd_of gl_195 rfl
theorem cd_195_17 : sm_cd 195 17 = some (.invokevirtual 375, 3, 181, 0, 1, 2, 6, 0, 0) := cd_of gl_195 rfl
theorem cd_195_20 : sm_cd 195 20 = some (.iastore, 1, 0, 0, 0, 0, 0, 0, 0) := cd_of gl_195 rfl
theorem cd_195_21 : sm_cd 195 21 = some (.goto 73, 3, 94, 0, 0, 0, 0, 0, 0) := cd_of gl_195 rfl
theorem cd_195_24 : sm_cd 195 24 = some (.iload_n 1, 1, 1, 0, 0, 0, 0, 0, 0) := cd_of gl_195 rfl
theorem cd_195_25 : sm_cd 195 25 = some (.bipush 22, 2, 0, 0, 0, 0, 0, 22, 0) := cd_of gl_195 rfl
theorem cd_195_27 : sm_cd 195 27 = some (.if_icmp .ne 31, 3, 58, 0, 0, 0, 0, 0, 0) := cd_of gl_195 rfl
theorem cd_195_30 : sm_cd 195 30 = some (.aload_n 0, 1, 0, 0, 0, 0, 0, 0, 0) := cd_of gl_195 rfl
theorem cd_195_31 : sm_cd 195 31 = some (.getfield 111, 3, 6, 36, 2, 0, 0, 0, 0) := cd_of gl_195 rfl
theorem cd_195_34 : sm_cd 195 34 = some (.aload_n 0, 1, 0, 0, 0, 0, 0, 0, 0) := cd_of gl_195 rfl
theorem cd_195_35 : sm_cd 195 35 = some (.iconst 3, 1, 0, 0, 0, 0, 0, 3, 0) := cd_of gl_195 rfl
theorem cd_195_36 : sm_cd 195 36 = some (.invokevirtual 375, 3, 181, 0, 1, 2, 6, 0, 0) := cd_of gl_195 rfl
theorem cd_195_39 : sm_cd 195 39 = some (.iconst 3, 1, 0, 0, 0, 0, 0, 3, 0) := cd_of gl_195 rfl
theorem cd_195_40 : sm_cd 195 40 = some (.aload_n 0, 1, 0, 0, 0, 0, 0, 0, 0) := cd_of gl_195 rfl
theorem cd_195_41 : sm_cd 195 41 = some (.iconst 2, 1, 0, 0, 0, 0, 0, 2, 0) := cd_of gl_195 rfl
theorem cd_195_42 : sm_cd 195 42 = some (.invokevirtual 375, 3, 181, 0, 1, 2, 6, 0, 0) := cd_of gl_195 rfl
theorem cd_195_45 : sm_cd 195 45 = some (.iadd, 1, 0, 0, 0, 0, 0, 0, 0) := cd_of gl_195 rfl
theorem cd_195_46 : sm_cd 195 46 = some (.invokestatic 366, 3, 183, 1, 2, 2, 6, 0, 0) := cd_of gl_195 rfl
theorem cd_195_49 : sm_cd 195 49 = some (.aload_n 0, 1, 0, 0, 0, 0, 0, 0, 0) := cd_of gl_195 rfl
theorem cd_195_50 : sm_cd 195 50 = some (.iconst 1, 1, 0, 0, 0, 0, 0, 1, 0) := cd_of gl_195 rfl
theorem cd_195_51 : sm_cd 195 51 = some (.invokevirtual 375, 3, 181, 0, 1, 2, 6, 0, 0) := cd_of gl_195 rfl
theorem cd_195_54 : sm_cd 195 54 = some (.iastore, 1, 0, 0, 0, 0, 0, 0, 0) := cd_of gl_195 rfl
theorem cd_195_55 : sm_cd 195 55 = some (.goto 39, 3, 94, 0, 0, 0, 0, 0, 0) := cd_of gl_195 rfl
theorem cd_195_58 : sm_cd 195 58 = some (.iload_n 1, 1, 1, 0, 0, 0, 0, 0, 0) := cd_of gl_195 rfl
theorem cd_195_59 : sm_cd 195 59 = some (.bipush 26, 2, 0, 0, 0, 0, 0, 26, 0) := cd_of gl_195 rfl
theorem cd_195_61 : sm_cd 195 61 = some (.if_icmp .ne 33, 3, 94, 0, 0, 0, 0, 0, 0) := cd_of gl_195 rfl
theorem cd_195_64 : sm_cd 195 64 = some (.aload_n 0, 1, 0, 0, 0, 0, 0, 0, 0) := cd_of gl_195 rfl
theorem cd_195_65 : sm_cd 195 65 = some (.getfield 111, 3, 6, 36, 2, 0, 0, 0, 0) := cd_of gl_195 rfl
theorem cd_195_68 : sm_cd 195 68 = some (.sipush 134, 3, 0, 0, 0, 0, 0, 134, 0) := cd_of gl_195 rfl
theorem cd_195_71 : sm_cd 195 71 = some (.aload_n 0, 1, 0, 0, 0, 0, 0, 0, 0) := cd_of gl_195 rfl
theorem cd_195_72 : sm_cd 195 72 = some (.getfield 111, 3, 6, 36, 2, 0, 0, 0, 0) := cd_of gl_195 rfl
theorem cd_195_75 : sm_cd 195 75 = some (.iconst 3, 1, 0, 0, 0, 0, 0, 3, 0) := cd_of gl_195 rfl
theorem cd_195_76 : sm_cd 195 76 = some (.iaload, 1, 0, 0, 0, 0, 0, 0, 0) := cd_of gl_195 rfl
theorem cd_195_77 : sm_cd 195 77 = some (.iadd, 1, 0, 0, 0, 0, 0, 0, 0) := cd_of gl_195 rfl
theorem cd_195_78 : sm_cd 195 78 = some (.aload_n 0, 1, 0, 0, 0, 0, 0, 0, 0) := cd_of gl_195 rfl
theorem cd_195_79 : sm_cd 195 79 = some (.iconst 1, 1, 0, 0, 0, 0, 0, 1, 0) := cd_of gl_195 rfl
theorem cd_195_80 : sm_cd 195 80 = some (.invokevirtual 375, 3, 181, 0, 1, 2, 6, 0, 0) := cd_of gl_195 rfl
theorem cd_195_83 : sm_cd 195 83 = some (.iastore, 1, 0, 0, 0, 0, 0, 0, 0) := cd_of gl_195 rfl
theorem cd_195_84 : sm_cd 195 84 = some (.aload_n 0, 1, 0, 0, 0, 0, 0, 0, 0) := cd_of gl_195 rfl
theorem cd_195_85 : sm_cd 195 85 = some (.getfield 111, 3, 6, 36, 2, 0, 0, 0, 0) := cd_of gl_195 rfl
theorem cd_195_88 : sm_cd 195 88 = some (.iconst 3, 1, 0, 0, 0, 0, 0, 3, 0) := cd_of gl_195 rfl
theorem cd_195_89 : sm_cd 195 89 = some (.dup2, 1, 0, 0, 0, 0, 0, 0, 0) := cd_of gl_195 rfl
theorem cd_195_90 : sm_cd 195 90 = some (.iaload, 1, 0, 0, 0, 0, 0, 0, 0) := cd_of gl_195 rfl
theorem cd_195_91 : sm_cd 195 91 = some (.iconst 1, 1, 0, 0, 0, 0, 0, 1, 0) := cd_of gl_195 rfl
theorem cd_195_92 : sm_cd 195 92 = some (.iadd, 1, 0, 0, 0, 0, 0, 0, 0) := cd_of gl_195 rfl
theorem cd_195_93 : sm_cd 195 93 = some (.iastore, 1, 0, 0, 0, 0, 0, 0, 0) := cd_of gl_195 rfl
theorem cd_195_94 : sm_cd 195 94 = some (.return_, 1, 0, 0, 0, 0, 0, 0, 0) := cd_of gl_195 rfl
noncomputable def f_195 (K : Nat → Value) (k d : Nat) (l0 : Nat) (l1 : Int32) (l2 : Int32) (l3 : Int32) (w : aW) (I : aI) (J : aJ) : Option aR :=
  if ¬ l1 = 21 then
    if ¬ l1 = 22 then
      if ¬ l1 = 26 then
        some (none, w, I, J)
      else
        gO w 6 l0 (
        gV w l0 36 fun q_1 =>
        gO w 6 l0 (
        gV w l0 36 fun q_2 =>
        gA w 10 20 q_2 3 (
        gO w 6 l0 (
        cI (Cl K d 181 [.ref l0, .int 1] w I J) fun x_6 w_3 I_4 J_5 =>
        gA w_3 10 10 q_1 (134 + (I q_2 (3 : Int32).toNatClampNeg)) (
        lt_ (sm_up2 I_4 q_1 (134 + (I q_2 (3 : Int32).toNatClampNeg) : Int32).toNatClampNeg x_6) fun I_7 =>
        gO w_3 6 l0 (
        gV w_3 l0 36 fun q_8 =>
        gA w_3 10 20 q_8 3 (
        gA w_3 10 10 q_8 3 (
        lt_ (sm_up2 I_7 q_8 (3 : Int32).toNatClampNeg ((I_7 q_8 (3 : Int32).toNatClampNeg) + 1)) fun I_9 =>
        some (none, w_3, I_9, J_5)))))))))
    else
      gO w 6 l0 (
      gV w l0 36 fun q_10 =>
      gO w 6 l0 (
      cI (Cl K d 181 [.ref l0, .int 3] w I J) fun x_14 w_11 I_12 J_13 =>
      gO w_11 6 l0 (
      cI (Cl K d 181 [.ref l0, .int 2] w_11 I_12 J_13) fun x_18 w_15 I_16 J_17 =>
      cI (Cl K d 183 [.int x_14, .int (3 + x_18)] w_15 I_16 J_17) fun x_22 w_19 I_20 J_21 =>
      gO w_19 6 l0 (
      cI (Cl K d 181 [.ref l0, .int 1] w_19 I_20 J_21) fun x_26 w_23 I_24 J_25 =>
      gA w_23 10 10 q_10 x_22 (
      lt_ (sm_up2 I_24 q_10 (x_22 : Int32).toNatClampNeg x_26) fun I_27 =>
      some (none, w_23, I_27, J_25))))))
  else
    gO w 6 l0 (
    gV w l0 36 fun q_28 =>
    gO w 6 l0 (
    cI (Cl K d 181 [.ref l0, .int 1] w I J) fun x_32 w_29 I_30 J_31 =>
    gA w_29 10 10 q_28 ((l3 + 2) + l2) (
    lt_ (sm_up2 I_30 q_28 ((l3 + 2) + l2 : Int32).toNatClampNeg x_32) fun I_33 =>
    some (none, w_29, I_33, J_31))))
theorem ok_195 {K : Nat → Value} {k d : Nat} {l0 : Nat} {l1 : Int32} {l2 : Int32} {l3 : Int32} {w : aW} {I : aI} {J : aJ} {R : aR} (h : f_195 K k d l0 l1 l2 l3 w I J = some R) : Go K (d + 1) 195 0 [some (.ref l0), some (.int l1), some (.int l2), some (.int l3)] [] w I J R := by
  unfold f_195 at h
  refine gs_0 (pc' := 1) (L' := [some (.ref l0), some (.int l1), some (.int l2), some (.int l3)]) (st' := [.int l1]) cd_195_0 rfl rfl ?_
  refine gs_0 (pc' := 3) (L' := [some (.ref l0), some (.int l1), some (.int l2), some (.int l3)]) (st' := [.int 21, .int l1]) cd_195_1 rfl rfl ?_
  refine gs_0 (pc' := if ¬ l1 = 21 then 24 else 6) (L' := [some (.ref l0), some (.int l1), some (.int l2), some (.int l3)]) (st' := []) cd_195_3 rfl rfl ?_
  refine go_ite (fun hc => ?_) (fun hc => ?_)
  · rw [if_pos hc] at h
    refine gs_0 (pc' := 25) (L' := [some (.ref l0), some (.int l1), some (.int l2), some (.int l3)]) (st' := [.int l1]) cd_195_24 rfl rfl ?_
    refine gs_0 (pc' := 27) (L' := [some (.ref l0), some (.int l1), some (.int l2), some (.int l3)]) (st' := [.int 22, .int l1]) cd_195_25 rfl rfl ?_
    refine gs_0 (pc' := if ¬ l1 = 22 then 58 else 30) (L' := [some (.ref l0), some (.int l1), some (.int l2), some (.int l3)]) (st' := []) cd_195_27 rfl rfl ?_
    refine go_ite (fun hc => ?_) (fun hc => ?_)
    · rw [if_pos hc] at h
      refine gs_0 (pc' := 59) (L' := [some (.ref l0), some (.int l1), some (.int l2), some (.int l3)]) (st' := [.int l1]) cd_195_58 rfl rfl ?_
      refine gs_0 (pc' := 61) (L' := [some (.ref l0), some (.int l1), some (.int l2), some (.int l3)]) (st' := [.int 26, .int l1]) cd_195_59 rfl rfl ?_
      refine gs_0 (pc' := if ¬ l1 = 26 then 94 else 64) (L' := [some (.ref l0), some (.int l1), some (.int l2), some (.int l3)]) (st' := []) cd_195_61 rfl rfl ?_
      refine go_ite (fun hc => ?_) (fun hc => ?_)
      · rw [if_pos hc] at h
        cases h
        exact gsr cd_195_94 rfl rfl
      · rw [if_neg hc] at h
        refine gs_0 (pc' := 65) (L' := [some (.ref l0), some (.int l1), some (.int l2), some (.int l3)]) (st' := [.ref l0]) cd_195_64 rfl rfl ?_
        obtain ⟨ht, h⟩ := gO_s h
        obtain ⟨q_1, hv, h⟩ := gV_s h
        refine gs_gfR cd_195_65 (by decide) ht hv ?_
        refine gs_0 (pc' := 71) (L' := [some (.ref l0), some (.int l1), some (.int l2), some (.int l3)]) (st' := [.int 134, .ref q_1]) cd_195_68 rfl rfl ?_
        refine gs_0 (pc' := 72) (L' := [some (.ref l0), some (.int l1), some (.int l2), some (.int l3)]) (st' := [.ref l0, .int 134, .ref q_1]) cd_195_71 rfl rfl ?_
        obtain ⟨ht, h⟩ := gO_s h
        obtain ⟨q_2, hv, h⟩ := gV_s h
        refine gs_gfR cd_195_72 (by decide) ht hv ?_
        refine gs_0 (pc' := 76) (L' := [some (.ref l0), some (.int l1), some (.int l2), some (.int l3)]) (st' := [.int 3, .ref q_2, .int 134, .ref q_1]) cd_195_75 rfl rfl ?_
        obtain ⟨ht, h⟩ := gA_s h
        refine gs_iald cd_195_76 ht ?_
        refine gs_0 (pc' := 78) (L' := [some (.ref l0), some (.int l1), some (.int l2), some (.int l3)]) (st' := [.int (134 + (I q_2 (3 : Int32).toNatClampNeg)), .ref q_1]) cd_195_77 rfl rfl ?_
        refine gs_0 (pc' := 79) (L' := [some (.ref l0), some (.int l1), some (.int l2), some (.int l3)]) (st' := [.ref l0, .int (134 + (I q_2 (3 : Int32).toNatClampNeg)), .ref q_1]) cd_195_78 rfl rfl ?_
        refine gs_0 (pc' := 80) (L' := [some (.ref l0), some (.int l1), some (.int l2), some (.int l3)]) (st' := [.int 1, .ref l0, .int (134 + (I q_2 (3 : Int32).toNatClampNeg)), .ref q_1]) cd_195_79 rfl rfl ?_
        obtain ⟨ht, h⟩ := gO_s h
        obtain ⟨x_6, w_3, I_4, J_5, hcl, h⟩ := cI_s h
        refine gs_call (as := [.ref l0, .int 1]) (rest := [.int (134 + (I q_2 (3 : Int32).toNatClampNeg)), .ref q_1]) cd_195_80 rfl (by decide) rfl (sm_rv_ok (by decide) ht) (Nat.le_of_ble_eq_true rfl) (Nat.le_of_ble_eq_true rfl) rfl hcl ?_
        obtain ⟨ht, h⟩ := gA_s h
        refine gs_iast cd_195_83 ht ?_
        obtain ⟨I_7, hx, h⟩ := lt_s_ h
        rw [hx]
        refine gs_0 (pc' := 85) (L' := [some (.ref l0), some (.int l1), some (.int l2), some (.int l3)]) (st' := [.ref l0]) cd_195_84 rfl rfl ?_
        obtain ⟨ht, h⟩ := gO_s h
        obtain ⟨q_8, hv, h⟩ := gV_s h
        refine gs_gfR cd_195_85 (by decide) ht hv ?_
        refine gs_0 (pc' := 89) (L' := [some (.ref l0), some (.int l1), some (.int l2), some (.int l3)]) (st' := [.int 3, .ref q_8]) cd_195_88 rfl rfl ?_
        refine gs_0 (pc' := 90) (L' := [some (.ref l0), some (.int l1), some (.int l2), some (.int l3)]) (st' := [.int 3, .ref q_8, .int 3, .ref q_8]) cd_195_89 rfl rfl ?_
        obtain ⟨ht, h⟩ := gA_s h
        refine gs_iald cd_195_90 ht ?_
        refine gs_0 (pc' := 92) (L' := [some (.ref l0), some (.int l1), some (.int l2), some (.int l3)]) (st' := [.int 1, .int (I_7 q_8 (3 : Int32).toNatClampNeg), .int 3, .ref q_8]) cd_195_91 rfl rfl ?_
        refine gs_0 (pc' := 93) (L' := [some (.ref l0), some (.int l1), some (.int l2), some (.int l3)]) (st' := [.int ((I_7 q_8 (3 : Int32).toNatClampNeg) + 1), .int 3, .ref q_8]) cd_195_92 rfl rfl ?_
        obtain ⟨ht, h⟩ := gA_s h
        refine gs_iast cd_195_93 ht ?_
        obtain ⟨I_9, hx, h⟩ := lt_s_ h
        rw [hx]
        cases h
        exact gsr cd_195_94 rfl rfl
    · rw [if_neg hc] at h
      refine gs_0 (pc' := 31) (L' := [some (.ref l0), some (.int l1), some (.int l2), some (.int l3)]) (st' := [.ref l0]) cd_195_30 rfl rfl ?_
      obtain ⟨ht, h⟩ := gO_s h
      obtain ⟨q_10, hv, h⟩ := gV_s h
      refine gs_gfR cd_195_31 (by decide) ht hv ?_
      refine gs_0 (pc' := 35) (L' := [some (.ref l0), some (.int l1), some (.int l2), some (.int l3)]) (st' := [.ref l0, .ref q_10]) cd_195_34 rfl rfl ?_
      refine gs_0 (pc' := 36) (L' := [some (.ref l0), some (.int l1), some (.int l2), some (.int l3)]) (st' := [.int 3, .ref l0, .ref q_10]) cd_195_35 rfl rfl ?_
      obtain ⟨ht, h⟩ := gO_s h
      obtain ⟨x_14, w_11, I_12, J_13, hcl, h⟩ := cI_s h
      refine gs_call (as := [.ref l0, .int 3]) (rest := [.ref q_10]) cd_195_36 rfl (by decide) rfl (sm_rv_ok (by decide) ht) (Nat.le_of_ble_eq_true rfl) (Nat.le_of_ble_eq_true rfl) rfl hcl ?_
      refine gs_0 (pc' := 40) (L' := [some (.ref l0), some (.int l1), some (.int l2), some (.int l3)]) (st' := [.int 3, .int x_14, .ref q_10]) cd_195_39 rfl rfl ?_
      refine gs_0 (pc' := 41) (L' := [some (.ref l0), some (.int l1), some (.int l2), some (.int l3)]) (st' := [.ref l0, .int 3, .int x_14, .ref q_10]) cd_195_40 rfl rfl ?_
      refine gs_0 (pc' := 42) (L' := [some (.ref l0), some (.int l1), some (.int l2), some (.int l3)]) (st' := [.int 2, .ref l0, .int 3, .int x_14, .ref q_10]) cd_195_41 rfl rfl ?_
      obtain ⟨ht, h⟩ := gO_s h
      obtain ⟨x_18, w_15, I_16, J_17, hcl, h⟩ := cI_s h
      refine gs_call (as := [.ref l0, .int 2]) (rest := [.int 3, .int x_14, .ref q_10]) cd_195_42 rfl (by decide) rfl (sm_rv_ok (by decide) ht) (Nat.le_of_ble_eq_true rfl) (Nat.le_of_ble_eq_true rfl) rfl hcl ?_
      refine gs_0 (pc' := 46) (L' := [some (.ref l0), some (.int l1), some (.int l2), some (.int l3)]) (st' := [.int (3 + x_18), .int x_14, .ref q_10]) cd_195_45 rfl rfl ?_
      obtain ⟨x_22, w_19, I_20, J_21, hcl, h⟩ := cI_s h
      refine gs_call (as := [.int x_14, .int (3 + x_18)]) (rest := [.ref q_10]) cd_195_46 rfl (by decide) rfl rfl (Nat.le_of_ble_eq_true rfl) (Nat.le_of_ble_eq_true rfl) rfl hcl ?_
      refine gs_0 (pc' := 50) (L' := [some (.ref l0), some (.int l1), some (.int l2), some (.int l3)]) (st' := [.ref l0, .int x_22, .ref q_10]) cd_195_49 rfl rfl ?_
      refine gs_0 (pc' := 51) (L' := [some (.ref l0), some (.int l1), some (.int l2), some (.int l3)]) (st' := [.int 1, .ref l0, .int x_22, .ref q_10]) cd_195_50 rfl rfl ?_
      obtain ⟨ht, h⟩ := gO_s h
      obtain ⟨x_26, w_23, I_24, J_25, hcl, h⟩ := cI_s h
      refine gs_call (as := [.ref l0, .int 1]) (rest := [.int x_22, .ref q_10]) cd_195_51 rfl (by decide) rfl (sm_rv_ok (by decide) ht) (Nat.le_of_ble_eq_true rfl) (Nat.le_of_ble_eq_true rfl) rfl hcl ?_
      obtain ⟨ht, h⟩ := gA_s h
      refine gs_iast cd_195_54 ht ?_
      obtain ⟨I_27, hx, h⟩ := lt_s_ h
      rw [hx]
      refine gs_0 (pc' := 94) (L' := [some (.ref l0), some (.int l1), some (.int l2), some (.int l3)]) (st' := []) cd_195_55 rfl rfl ?_
      cases h
      exact gsr cd_195_94 rfl rfl
  · rw [if_neg hc] at h
    refine gs_0 (pc' := 7) (L' := [some (.ref l0), some (.int l1), some (.int l2), some (.int l3)]) (st' := [.ref l0]) cd_195_6 rfl rfl ?_
    obtain ⟨ht, h⟩ := gO_s h
    obtain ⟨q_28, hv, h⟩ := gV_s h
    refine gs_gfR cd_195_7 (by decide) ht hv ?_
    refine gs_0 (pc' := 11) (L' := [some (.ref l0), some (.int l1), some (.int l2), some (.int l3)]) (st' := [.int l3, .ref q_28]) cd_195_10 rfl rfl ?_
    refine gs_0 (pc' := 12) (L' := [some (.ref l0), some (.int l1), some (.int l2), some (.int l3)]) (st' := [.int 2, .int l3, .ref q_28]) cd_195_11 rfl rfl ?_
    refine gs_0 (pc' := 13) (L' := [some (.ref l0), some (.int l1), some (.int l2), some (.int l3)]) (st' := [.int (l3 + 2), .ref q_28]) cd_195_12 rfl rfl ?_
    refine gs_0 (pc' := 14) (L' := [some (.ref l0), some (.int l1), some (.int l2), some (.int l3)]) (st' := [.int l2, .int (l3 + 2), .ref q_28]) cd_195_13 rfl rfl ?_
    refine gs_0 (pc' := 15) (L' := [some (.ref l0), some (.int l1), some (.int l2), some (.int l3)]) (st' := [.int ((l3 + 2) + l2), .ref q_28]) cd_195_14 rfl rfl ?_
    refine gs_0 (pc' := 16) (L' := [some (.ref l0), some (.int l1), some (.int l2), some (.int l3)]) (st' := [.ref l0, .int ((l3 + 2) + l2), .ref q_28]) cd_195_15 rfl rfl ?_
    refine gs_0 (pc' := 17) (L' := [some (.ref l0), some (.int l1), some (.int l2), some (.int l3)]) (st' := [.int 1, .ref l0, .int ((l3 + 2) + l2), .ref q_28]) cd_195_16 rfl rfl ?_
    obtain ⟨ht, h⟩ := gO_s h
    obtain ⟨x_32, w_29, I_30, J_31, hcl, h⟩ := cI_s h
    refine gs_call (as := [.ref l0, .int 1]) (rest := [.int ((l3 + 2) + l2), .ref q_28]) cd_195_17 rfl (by decide) rfl (sm_rv_ok (by decide) ht) (Nat.le_of_ble_eq_true rfl) (Nat.le_of_ble_eq_true rfl) rfl hcl ?_
    obtain ⟨ht, h⟩ := gA_s h
    refine gs_iast cd_195_20 ht ?_
    obtain ⟨I_33, hx, h⟩ := lt_s_ h
    rw [hx]
    refine gs_0 (pc' := 94) (L' := [some (.ref l0), some (.int l1), some (.int l2), some (.int l3)]) (st' := []) cd_195_21 rfl rfl ?_
    cases h
    exact gsr cd_195_94 rfl rfl
theorem cl_195 {K : Nat → Value} {k d : Nat} {l0 : Nat} {l1 : Int32} {l2 : Int32} {l3 : Int32} {w : aW} {I : aI} {J : aJ} {R : aR} (h : f_195 K k d l0 l1 l2 l3 w I J = some R) : Cl K (d + 1) 195 [.ref l0, .int l1, .int l2, .int l3] w I J = some R := Cl_of (ok_195 h)
/-! ProvedMachineModel.keep()V -/
set_option maxRecDepth 20000 in
theorem gl_196 : gcd.lookup 196 = some gw_196 := rfl
theorem cd_196_0 : sm_cd 196 0 = some (.aload_n 0, 1, 0, 0, 0, 0, 0, 0, 0) := cd_of gl_196 rfl
theorem cd_196_1 : sm_cd 196 1 = some (.getfield 363, 3, 6, 41, 0, 0, 0, 0, 0) := cd_of gl_196 rfl
theorem cd_196_4 : sm_cd 196 4 = some (.bipush 30, 2, 0, 0, 0, 0, 0, 30, 0) := cd_of gl_196 rfl
theorem cd_196_6 : sm_cd 196 6 = some (.if_icmp .ne 46, 3, 52, 0, 0, 0, 0, 0, 0) := cd_of gl_196 rfl
theorem cd_196_9 : sm_cd 196 9 = some (.aload_n 0, 1, 0, 0, 0, 0, 0, 0, 0) := cd_of gl_196 rfl
theorem cd_196_10 : sm_cd 196 10 = some (.getfield 117, 3, 6, 38, 2, 0, 0, 0, 0) := cd_of gl_196 rfl
theorem cd_196_13 : sm_cd 196 13 = some (.sipush 360, 3, 0, 0, 0, 0, 0, 360, 0) := cd_of gl_196 rfl
theorem cd_196_16 : sm_cd 196 16 = some (.aload_n 0, 1, 0, 0, 0, 0, 0, 0, 0) := cd_of gl_196 rfl
theorem cd_196_17 : sm_cd 196 17 = some (.getfield 117, 3, 6, 38, 2, 0, 0, 0, 0) := cd_of gl_196 rfl
theorem cd_196_20 : sm_cd 196 20 = some (.iconst 0, 1, 0, 0, 0, 0, 0, 0, 0) := cd_of gl_196 rfl
theorem cd_196_21 : sm_cd 196 21 = some (.sipush 10440, 3, 0, 0, 0, 0, 0, 10440, 0) := cd_of gl_196 rfl
theorem cd_196_24 : sm_cd 196 24 = some (.invokestatic 418, 3, 177, 1, 5, 6, 6, 0, 0) := cd_of gl_196 rfl
theorem cd_196_27 : sm_cd 196 27 = some (.aload_n 0, 1, 0, 0, 0, 0, 0, 0, 0) := cd_of gl_196 rfl
theorem cd_196_28 : sm_cd 196 28 = some (.getfield 120, 3, 6, 39, 2, 0, 0, 0, 0) := cd_of gl_196 rfl
theorem cd_196_31 : sm_cd 196 31 = some (.iconst 4, 1, 0, 0, 0, 0, 0, 4, 0) := cd_of gl_196 rfl
theorem cd_196_32 : sm_cd 196 32 = some (.aload_n 0, 1, 0, 0, 0, 0, 0, 0, 0) := cd_of gl_196 rfl
theorem cd_196_33 : sm_cd 196 33 = some (.getfield 120, 3, 6, 39, 2, 0, 0, 0, 0) := cd_of gl_196 rfl
theorem cd_196_36 : sm_cd 196 36 = some (.iconst 0, 1, 0, 0, 0, 0, 0, 0, 0) := cd_of gl_196 rfl
theorem cd_196_37 : sm_cd 196 37 = some (.bipush 116, 2, 0, 0, 0, 0, 0, 116, 0) := cd_of gl_196 rfl
theorem cd_196_39 : sm_cd 196 39 = some (.invokestatic 418, 3, 177, 1, 5, 6, 6, 0, 0) := cd_of gl_196 rfl
theorem cd_196_42 : sm_cd 196 42 = some (.aload_n 0, 1, 0, 0, 0, 0, 0, 0, 0) := cd_of gl_196 rfl
theorem cd_196_43 : sm_cd 196 43 = some (.dup, 1, 0, 0, 0, 0, 0, 0, 0) := cd_of gl_196 rfl
theorem cd_196_44 : sm_cd 196 44 = some (.getfield 363, 3, 6, 41, 0, 0, 0, 0, 0) := cd_of gl_196 rfl
theorem cd_196_47 : sm_cd 196 47 = some (.iconst 1, 1, 0, 0, 0, 0, 0, 1, 0) := cd_of gl_196 rfl
theorem cd_196_48 : sm_cd 196 48 = some (.isub, 1, 0, 0, 0, 0, 0, 0, 0) := cd_of gl_196 rfl
theorem cd_196_49 : sm_cd 196 49 = some (.putfield 363, 3, 6, 41, 0, 0, 0, 0, 0) := cd_of gl_196 rfl
theorem cd_196_52 : sm_cd 196 52 = some (.aload_n 0, 1, 0, 0, 0, 0, 0, 0, 0) := cd_of gl_196 rfl
theorem cd_196_53 : sm_cd 196 53 = some (.getfield 114, 3, 6, 37, 2, 0, 0, 0, 0) := cd_of gl_196 rfl
theorem cd_196_56 : sm_cd 196 56 = some (.iconst 0, 1, 0, 0, 0, 0, 0, 0, 0) := cd_of gl_196 rfl
theorem cd_196_57 : sm_cd 196 57 = some (.aload_n 0, 1, 0, 0, 0, 0, 0, 0, 0) := cd_of gl_196 rfl
theorem cd_196_58 : sm_cd 196 58 = some (.getfield 117, 3, 6, 38, 2, 0, 0, 0, 0) := cd_of gl_196 rfl
theorem cd_196_61 : sm_cd 196 61 = some (.aload_n 0, 1, 0, 0, 0, 0, 0, 0, 0) := cd_of gl_196 rfl
theorem cd_196_62 : sm_cd 196 62 = some (.getfield 363, 3, 6, 41, 0, 0, 0, 0, 0) := cd_of gl_196 rfl
theorem cd_196_65 : sm_cd 196 65 = some (.sipush 360, 3, 0, 0, 0, 0, 0, 360, 0) := cd_of gl_196 rfl
theorem cd_196_68 : sm_cd 196 68 = some (.imul, 1, 0, 0, 0, 0, 0, 0, 0) := cd_of gl_196 rfl
theorem cd_196_69 : sm_cd 196 69 = some (.sipush 360, 3, 0, 0, 0, 0, 0, 360, 0) := cd_of gl_196 rfl
theorem cd_196_72 : sm_cd 196 72 = some (.invokestatic 418, 3, 177, 1, 5, 6, 6, 0, 0) := cd_of gl_196 rfl
theorem cd_196_75 : sm_cd 196 75 = some (.aload_n 0, 1, 0, 0, 0, 0, 0, 0, 0) := cd_of gl_196 rfl
theorem cd_196_76 : sm_cd 196 76 = some (.getfield 123, 3, 6, 40, 2, 0, 0, 0, 0) := cd_of gl_196 rfl
theorem cd_196_79 : sm_cd 196 79 = some (.iconst 0, 1, 0, 0, 0, 0, 0, 0, 0) := cd_of gl_196 rfl
theorem cd_196_80 : sm_cd 196 80 = some (.aload_n 0, 1, 0, 0, 0, 0, 0, 0, 0) := cd_of gl_196 rfl
theorem cd_196_81 : sm_cd 196 81 = some (.getfield 120, 3, 6, 39, 2, 0, 0, 0, 0) := cd_of gl_196 rfl
theorem cd_196_84 : sm_cd 196 84 = some (.aload_n 0, 1, 0, 0, 0, 0, 0, 0, 0) := cd_of gl_196 rfl
theorem cd_196_85 : sm_cd 196 85 = some (.getfield 363, 3, 6, 41, 0, 0, 0, 0, 0) := cd_of gl_196 rfl
theorem cd_196_88 : sm_cd 196 88 = some (.iconst 4, 1, 0, 0, 0, 0, 0, 4, 0) := cd_of gl_196 rfl
theorem cd_196_89 : sm_cd 196 89 = some (.imul, 1, 0, 0, 0, 0, 0, 0, 0) := cd_of gl_196 rfl
theorem cd_196_90 : sm_cd 196 90 = some (.iconst 4, 1, 0, 0, 0, 0, 0, 4, 0) := cd_of gl_196 rfl
theorem cd_196_91 : sm_cd 196 91 = some (.invokestatic 418, 3, 177, 1, 5, 6, 6, 0, 0) := cd_of gl_196 rfl
theorem cd_196_94 : sm_cd 196 94 = some (.aload_n 0, 1, 0, 0, 0, 0, 0, 0, 0) := cd_of gl_196 rfl
theorem cd_196_95 : sm_cd 196 95 = some (.dup, 1, 0, 0, 0, 0, 0, 0, 0) := cd_of gl_196 rfl
theorem cd_196_96 : sm_cd 196 96 = some (.getfield 363, 3, 6, 41, 0, 0, 0, 0, 0) := cd_of gl_196 rfl
theorem cd_196_99 : sm_cd 196 99 = some (.iconst 1, 1, 0, 0, 0, 0, 0, 1, 0) := cd_of gl_196 rfl
theorem cd_196_100 : sm_cd 196 100 = some (.iadd, 1, 0, 0, 0, 0, 0, 0, 0) := cd_of gl_196 rfl
theorem cd_196_101 : sm_cd 196 101 = some (.putfield 363, 3, 6, 41, 0, 0, 0, 0, 0) := cd_of gl_196 rfl
theorem cd_196_104 : sm_cd 196 104 = some (.return_, 1, 0, 0, 0, 0, 0, 0, 0) := cd_of gl_196 rfl
noncomputable def f_196_52 (K : Nat → Value) (k d : Nat) (l0 : Nat) (w : aW) (I : aI) (J : aJ) : Option aR :=
  gO w 6 l0 (
  gV w l0 37 fun q_1 =>
  gO w 6 l0 (
  gV w l0 38 fun q_2 =>
  gO w 6 l0 (
  cV (Cl K d 177 [.ref q_1, .int 0, .ref q_2, .int ((I l0 41) * 360), .int 360] w I J) fun w_3 I_4 J_5 =>
  gO w_3 6 l0 (
  gV w_3 l0 40 fun q_6 =>
  gO w_3 6 l0 (
  gV w_3 l0 39 fun q_7 =>
  gO w_3 6 l0 (
  cV (Cl K d 177 [.ref q_6, .int 0, .ref q_7, .int ((I_4 l0 41) * 4), .int 4] w_3 I_4 J_5) fun w_8 I_9 J_10 =>
  gO w_8 6 l0 (
  gO w_8 6 l0 (
  lt_ (sm_up2 I_9 l0 41 ((I_9 l0 41) + 1)) fun I_11 =>
  some (none, w_8, I_11, J_10)))))))))
theorem ok_196_52 {K : Nat → Value} {k d : Nat} {l0 : Nat} {w : aW} {I : aI} {J : aJ} {R : aR} (h : f_196_52 K k d l0 w I J = some R) : Go K (d + 1) 196 52 [some (.ref l0)] [] w I J R := by
  unfold f_196_52 at h
  refine gs_0 (pc' := 53) (L' := [some (.ref l0)]) (st' := [.ref l0]) cd_196_52 rfl rfl ?_
  obtain ⟨ht, h⟩ := gO_s h
  obtain ⟨q_1, hv, h⟩ := gV_s h
  refine gs_gfR cd_196_53 (by decide) ht hv ?_
  refine gs_0 (pc' := 57) (L' := [some (.ref l0)]) (st' := [.int 0, .ref q_1]) cd_196_56 rfl rfl ?_
  refine gs_0 (pc' := 58) (L' := [some (.ref l0)]) (st' := [.ref l0, .int 0, .ref q_1]) cd_196_57 rfl rfl ?_
  obtain ⟨ht, h⟩ := gO_s h
  obtain ⟨q_2, hv, h⟩ := gV_s h
  refine gs_gfR cd_196_58 (by decide) ht hv ?_
  refine gs_0 (pc' := 62) (L' := [some (.ref l0)]) (st' := [.ref l0, .ref q_2, .int 0, .ref q_1]) cd_196_61 rfl rfl ?_
  obtain ⟨ht, h⟩ := gO_s h
  refine gs_gfI cd_196_62 (by decide) (by decide) ht ?_
  refine gs_0 (pc' := 68) (L' := [some (.ref l0)]) (st' := [.int 360, .int (I l0 41), .ref q_2, .int 0, .ref q_1]) cd_196_65 rfl rfl ?_
  refine gs_0 (pc' := 69) (L' := [some (.ref l0)]) (st' := [.int ((I l0 41) * 360), .ref q_2, .int 0, .ref q_1]) cd_196_68 rfl rfl ?_
  refine gs_0 (pc' := 72) (L' := [some (.ref l0)]) (st' := [.int 360, .int ((I l0 41) * 360), .ref q_2, .int 0, .ref q_1]) cd_196_69 rfl rfl ?_
  obtain ⟨w_3, I_4, J_5, hcl, h⟩ := cV_s h
  refine gs_call (as := [.ref q_1, .int 0, .ref q_2, .int ((I l0 41) * 360), .int 360]) (rest := []) cd_196_72 rfl (by decide) rfl rfl (Nat.le_of_ble_eq_true rfl) (Nat.le_of_ble_eq_true rfl) rfl hcl ?_
  refine gs_0 (pc' := 76) (L' := [some (.ref l0)]) (st' := [.ref l0]) cd_196_75 rfl rfl ?_
  obtain ⟨ht, h⟩ := gO_s h
  obtain ⟨q_6, hv, h⟩ := gV_s h
  refine gs_gfR cd_196_76 (by decide) ht hv ?_
  refine gs_0 (pc' := 80) (L' := [some (.ref l0)]) (st' := [.int 0, .ref q_6]) cd_196_79 rfl rfl ?_
  refine gs_0 (pc' := 81) (L' := [some (.ref l0)]) (st' := [.ref l0, .int 0, .ref q_6]) cd_196_80 rfl rfl ?_
  obtain ⟨ht, h⟩ := gO_s h
  obtain ⟨q_7, hv, h⟩ := gV_s h
  refine gs_gfR cd_196_81 (by decide) ht hv ?_
  refine gs_0 (pc' := 85) (L' := [some (.ref l0)]) (st' := [.ref l0, .ref q_7, .int 0, .ref q_6]) cd_196_84 rfl rfl ?_
  obtain ⟨ht, h⟩ := gO_s h
  refine gs_gfI cd_196_85 (by decide) (by decide) ht ?_
  refine gs_0 (pc' := 89) (L' := [some (.ref l0)]) (st' := [.int 4, .int (I_4 l0 41), .ref q_7, .int 0, .ref q_6]) cd_196_88 rfl rfl ?_
  refine gs_0 (pc' := 90) (L' := [some (.ref l0)]) (st' := [.int ((I_4 l0 41) * 4), .ref q_7, .int 0, .ref q_6]) cd_196_89 rfl rfl ?_
  refine gs_0 (pc' := 91) (L' := [some (.ref l0)]) (st' := [.int 4, .int ((I_4 l0 41) * 4), .ref q_7, .int 0, .ref q_6]) cd_196_90 rfl rfl ?_
  obtain ⟨w_8, I_9, J_10, hcl, h⟩ := cV_s h
  refine gs_call (as := [.ref q_6, .int 0, .ref q_7, .int ((I_4 l0 41) * 4), .int 4]) (rest := []) cd_196_91 rfl (by decide) rfl rfl (Nat.le_of_ble_eq_true rfl) (Nat.le_of_ble_eq_true rfl) rfl hcl ?_
  refine gs_0 (pc' := 95) (L' := [some (.ref l0)]) (st' := [.ref l0]) cd_196_94 rfl rfl ?_
  refine gs_0 (pc' := 96) (L' := [some (.ref l0)]) (st' := [.ref l0, .ref l0]) cd_196_95 rfl rfl ?_
  obtain ⟨ht, h⟩ := gO_s h
  refine gs_gfI cd_196_96 (by decide) (by decide) ht ?_
  refine gs_0 (pc' := 100) (L' := [some (.ref l0)]) (st' := [.int 1, .int (I_9 l0 41), .ref l0]) cd_196_99 rfl rfl ?_
  refine gs_0 (pc' := 101) (L' := [some (.ref l0)]) (st' := [.int ((I_9 l0 41) + 1), .ref l0]) cd_196_100 rfl rfl ?_
  obtain ⟨ht, h⟩ := gO_s h
  refine gs_pfI cd_196_101 (by decide) (Or.inl rfl) ht ?_
  obtain ⟨I_11, hx, h⟩ := lt_s_ h
  rw [hx]
  cases h
  exact gsr cd_196_104 rfl rfl
noncomputable def f_196 (K : Nat → Value) (k d : Nat) (l0 : Nat) (w : aW) (I : aI) (J : aJ) : Option aR :=
  gO w 6 l0 (
  if ¬ (I l0 41) = 30 then
    f_196_52 K k d l0 w I J
  else
    gO w 6 l0 (
    gV w l0 38 fun q_1 =>
    gO w 6 l0 (
    gV w l0 38 fun q_2 =>
    cV (Cl K d 177 [.ref q_1, .int 360, .ref q_2, .int 0, .int 10440] w I J) fun w_3 I_4 J_5 =>
    gO w_3 6 l0 (
    gV w_3 l0 39 fun q_6 =>
    gO w_3 6 l0 (
    gV w_3 l0 39 fun q_7 =>
    cV (Cl K d 177 [.ref q_6, .int 4, .ref q_7, .int 0, .int 116] w_3 I_4 J_5) fun w_8 I_9 J_10 =>
    gO w_8 6 l0 (
    gO w_8 6 l0 (
    lt_ (sm_up2 I_9 l0 41 ((I_9 l0 41) - 1)) fun I_11 =>
    f_196_52 K k d l0 w_8 I_11 J_10)))))))
theorem ok_196 {K : Nat → Value} {k d : Nat} {l0 : Nat} {w : aW} {I : aI} {J : aJ} {R : aR} (h : f_196 K k d l0 w I J = some R) : Go K (d + 1) 196 0 [some (.ref l0)] [] w I J R := by
  unfold f_196 at h
  refine gs_0 (pc' := 1) (L' := [some (.ref l0)]) (st' := [.ref l0]) cd_196_0 rfl rfl ?_
  obtain ⟨ht, h⟩ := gO_s h
  refine gs_gfI cd_196_1 (by decide) (by decide) ht ?_
  refine gs_0 (pc' := 6) (L' := [some (.ref l0)]) (st' := [.int 30, .int (I l0 41)]) cd_196_4 rfl rfl ?_
  refine gs_0 (pc' := if ¬ (I l0 41) = 30 then 52 else 9) (L' := [some (.ref l0)]) (st' := []) cd_196_6 rfl rfl ?_
  refine go_ite (fun hc => ?_) (fun hc => ?_)
  · rw [if_pos hc] at h
    exact ok_196_52 h
  · rw [if_neg hc] at h
    refine gs_0 (pc' := 10) (L' := [some (.ref l0)]) (st' := [.ref l0]) cd_196_9 rfl rfl ?_
    obtain ⟨ht, h⟩ := gO_s h
    obtain ⟨q_1, hv, h⟩ := gV_s h
    refine gs_gfR cd_196_10 (by decide) ht hv ?_
    refine gs_0 (pc' := 16) (L' := [some (.ref l0)]) (st' := [.int 360, .ref q_1]) cd_196_13 rfl rfl ?_
    refine gs_0 (pc' := 17) (L' := [some (.ref l0)]) (st' := [.ref l0, .int 360, .ref q_1]) cd_196_16 rfl rfl ?_
    obtain ⟨ht, h⟩ := gO_s h
    obtain ⟨q_2, hv, h⟩ := gV_s h
    refine gs_gfR cd_196_17 (by decide) ht hv ?_
    refine gs_0 (pc' := 21) (L' := [some (.ref l0)]) (st' := [.int 0, .ref q_2, .int 360, .ref q_1]) cd_196_20 rfl rfl ?_
    refine gs_0 (pc' := 24) (L' := [some (.ref l0)]) (st' := [.int 10440, .int 0, .ref q_2, .int 360, .ref q_1]) cd_196_21 rfl rfl ?_
    obtain ⟨w_3, I_4, J_5, hcl, h⟩ := cV_s h
    refine gs_call (as := [.ref q_1, .int 360, .ref q_2, .int 0, .int 10440]) (rest := []) cd_196_24 rfl (by decide) rfl rfl (Nat.le_of_ble_eq_true rfl) (Nat.le_of_ble_eq_true rfl) rfl hcl ?_
    refine gs_0 (pc' := 28) (L' := [some (.ref l0)]) (st' := [.ref l0]) cd_196_27 rfl rfl ?_
    obtain ⟨ht, h⟩ := gO_s h
    obtain ⟨q_6, hv, h⟩ := gV_s h
    refine gs_gfR cd_196_28 (by decide) ht hv ?_
    refine gs_0 (pc' := 32) (L' := [some (.ref l0)]) (st' := [.int 4, .ref q_6]) cd_196_31 rfl rfl ?_
    refine gs_0 (pc' := 33) (L' := [some (.ref l0)]) (st' := [.ref l0, .int 4, .ref q_6]) cd_196_32 rfl rfl ?_
    obtain ⟨ht, h⟩ := gO_s h
    obtain ⟨q_7, hv, h⟩ := gV_s h
    refine gs_gfR cd_196_33 (by decide) ht hv ?_
    refine gs_0 (pc' := 37) (L' := [some (.ref l0)]) (st' := [.int 0, .ref q_7, .int 4, .ref q_6]) cd_196_36 rfl rfl ?_
    refine gs_0 (pc' := 39) (L' := [some (.ref l0)]) (st' := [.int 116, .int 0, .ref q_7, .int 4, .ref q_6]) cd_196_37 rfl rfl ?_
    obtain ⟨w_8, I_9, J_10, hcl, h⟩ := cV_s h
    refine gs_call (as := [.ref q_6, .int 4, .ref q_7, .int 0, .int 116]) (rest := []) cd_196_39 rfl (by decide) rfl rfl (Nat.le_of_ble_eq_true rfl) (Nat.le_of_ble_eq_true rfl) rfl hcl ?_
    refine gs_0 (pc' := 43) (L' := [some (.ref l0)]) (st' := [.ref l0]) cd_196_42 rfl rfl ?_
    refine gs_0 (pc' := 44) (L' := [some (.ref l0)]) (st' := [.ref l0, .ref l0]) cd_196_43 rfl rfl ?_
    obtain ⟨ht, h⟩ := gO_s h
    refine gs_gfI cd_196_44 (by decide) (by decide) ht ?_
    refine gs_0 (pc' := 48) (L' := [some (.ref l0)]) (st' := [.int 1, .int (I_9 l0 41), .ref l0]) cd_196_47 rfl rfl ?_
    refine gs_0 (pc' := 49) (L' := [some (.ref l0)]) (st' := [.int ((I_9 l0 41) - 1), .ref l0]) cd_196_48 rfl rfl ?_
    obtain ⟨ht, h⟩ := gO_s h
    refine gs_pfI cd_196_49 (by decide) (Or.inl rfl) ht ?_
    obtain ⟨I_11, hx, h⟩ := lt_s_ h
    rw [hx]
    exact ok_196_52 h
theorem cl_196 {K : Nat → Value} {k d : Nat} {l0 : Nat} {w : aW} {I : aI} {J : aJ} {R : aR} (h : f_196 K k d l0 w I J = some R) : Cl K (d + 1) 196 [.ref l0] w I J = some R := Cl_of (ok_196 h)
/-! ProvedMachine.back(I)J -/
set_option maxRecDepth 20000 in
theorem gl_197 : gcd.lookup 197 = some gw_197 := rfl
theorem cd_197_0 : sm_cd 197 0 = some (.iload_n 1, 1, 1, 0, 0, 0, 0, 0, 0) := cd_of gl_197 rfl
theorem cd_197_1 : sm_cd 197 1 = some (.iconst 1, 1, 0, 0, 0, 0, 0, 1, 0) := cd_of gl_197 rfl
theorem cd_197_2 : sm_cd 197 2 = some (.if_icmp .lt 9, 3, 11, 0, 0, 0, 0, 0, 0) := cd_of gl_197 rfl
theorem cd_197_5 : sm_cd 197 5 = some (.iload_n 1, 1, 1, 0, 0, 0, 0, 0, 0) := cd_of gl_197 rfl
theorem cd_197_6 : sm_cd 197 6 = some (.bipush 30, 2, 0, 0, 0, 0, 0, 30, 0) := cd_of gl_197 rfl
theorem cd_197_8 : sm_cd 197 8 = some (.if_icmp .le 9, 3, 17, 0, 0, 0, 0, 0, 0) := cd_of gl_197 rfl
theorem cd_197_11 : sm_cd 197 11 = some (.aload_n 0, 1, 0, 0, 0, 0, 0, 0, 0) := cd_of gl_197 rfl
theorem cd_197_12 : sm_cd 197 12 = some (.iconst 1, 1, 0, 0, 0, 0, 0, 1, 0) := cd_of gl_197 rfl
theorem cd_197_13 : sm_cd 197 13 = some (.invokevirtual 60, 3, 17, 0, 1, 2, 5, 0, 0) := cd_of gl_197 rfl
theorem cd_197_16 : sm_cd 197 16 = some (.lreturn, 1, 0, 0, 0, 0, 0, 0, 0) := cd_of gl_197 rfl
theorem cd_197_17 : sm_cd 197 17 = some (.aload_n 0, 1, 0, 0, 0, 0, 0, 0, 0) := cd_of gl_197 rfl
theorem cd_197_18 : sm_cd 197 18 = some (.getfield 40, 3, 5, 5, 1, 0, 0, 0, 0) := cd_of gl_197 rfl
theorem cd_197_21 : sm_cd 197 21 = some (.ifCond .eq 13, 3, 34, 0, 0, 0, 0, 0, 0) := cd_of gl_197 rfl
theorem cd_197_24 : sm_cd 197 24 = some (.aload_n 0, 1, 0, 0, 0, 0, 0, 0, 0) := cd_of gl_197 rfl
theorem cd_197_25 : sm_cd 197 25 = some (.getfield 36, 3, 5, 4, 2, 0, 0, 0, 0) := cd_of gl_197 rfl
theorem cd_197_28 : sm_cd 197 28 = some (.getfield 120, 3, 0, 8, 0, 1, 0, 0, 0) := cd_of gl_197 rfl
theorem cd_197_31 : sm_cd 197 31 = some (.ifCond .ne 10, 3, 41, 0, 0, 0, 0, 0, 0) := cd_of gl_197 rfl
theorem cd_197_34 : sm_cd 197 34 = some (.aload_n 0, 1, 0, 0, 0, 0, 0, 0, 0) := cd_of gl_197 rfl
theorem cd_197_35 : sm_cd 197 35 = some (.bipush 6, 2, 0, 0, 0, 0, 0, 6, 0) := cd_of gl_197 rfl
theorem cd_197_37 : sm_cd 197 37 = some (.invokevirtual 60, 3, 17, 0, 1, 2, 5, 0, 0) := cd_of gl_197 rfl
theorem cd_197_40 : sm_cd 197 40 = some (.lreturn, 1, 0, 0, 0, 0, 0, 0, 0) := cd_of gl_197 rfl
theorem cd_197_41 : sm_cd 197 41 = some (.iload_n 1, 1, 1, 0, 0, 0, 0, 0, 0) := cd_of gl_197 rfl
theorem cd_197_42 : sm_cd 197 42 = some (.aload_n 0, 1, 0, 0, 0, 0, 0, 0, 0) := cd_of gl_197 rfl
theorem cd_197_43 : sm_cd 197 43 = some (.getfield 36, 3, 5, 4, 2, 0, 0, 0, 0) := cd_of gl_197 rfl
theorem cd_197_46 : sm_cd 197 46 = some (.getfield 120, 3, 0, 8, 0, 1, 0, 0, 0) := cd_of gl_197 rfl
theorem cd_197_49 : sm_cd 197 49 = some (.invokestatic 123, 3, 0, 6, 0, 0, 0, 0, 0) := cd_of gl_197 rfl
theorem cd_197_52 : sm_cd 197 52 = some (.istore_n 2, 1, 2, 0, 0, 0, 0, 0, 0) := cd_of gl_197 rfl
theorem cd_197_53 : sm_cd 197 53 = some (.iconst 0, 1, 0, 0, 0, 0, 0, 0, 0) := cd_of gl_197 rfl
theorem cd_197_54 : sm_cd 197 54 = some (.istore_n 3, 1, 3, 0, 0, 0, 0, 0, 0) := cd_of gl_197 rfl
theorem cd_197_55 : sm_cd 197 55 = some (.iload_n 3, 1, 3, 0, 0, 0, 0, 0, 0) := cd_of gl_197 rfl
theorem cd_197_56 : sm_cd 197 56 = some (.iload_n 2, 1, 2, 0, 0, 0, 0, 0, 0) := cd_of gl_197 rfl
theorem cd_197_57 : sm_cd 197 57 = some (.if_icmp .ge 16, 3, 73, 0, 0, 0, 0, 0, 0) := cd_of gl_197 rfl
theorem cd_197_60 : sm_cd 197 60 = some (.aload_n 0, 1, 0, 0, 0, 0, 0, 0, 0) := cd_of gl_197 rfl
theorem cd_197_61 : sm_cd 197 61 = some (.getfield 36, 3, 5, 4, 2, 0, 0, 0, 0) := cd_of gl_197 rfl
theorem cd_197_64 : sm_cd 197 64 = some (.invokevirtual 128, 3, 198, 0, 0, 4, 0, 0, 0) := cd_of gl_197 rfl
theorem cd_197_67 : sm_cd 197 67 = some (.iinc 3 1, 3, 3, 0, 0, 0, 0, 1, 0) := cd_of gl_197 rfl
theorem cd_197_70 : sm_cd 197 70 = some (.goto (-15), 3, 55, 0, 0, 0, 0, 0, 0) := cd_of gl_197 rfl
theorem cd_197_73 : sm_cd 197 73 = some (.iload_n 2, 1, 2, 0, 0, 0, 0, 0, 0) := cd_of gl_197 rfl
theorem cd_197_74 : sm_cd 197 74 = some (.i2l, 1, 0, 0, 0, 0, 0, 0, 0) := cd_of gl_197 rfl
theorem cd_197_75 : sm_cd 197 75 = some (.lreturn, 1, 0, 0, 0, 0, 0, 0, 0) := cd_of gl_197 rfl
noncomputable def f_197_55 (K : Nat → Value) (k : Nat) (d : Nat) : Nat → Int32 → Int32 → Int32 → aW → aI → aJ → Option aR :=
  match k with
  | 0 => fun _ _ _ _ _ _ _ => none
  | k + 1 => fun l0 l1 l2 l3 w I J =>
  lt_ (f_197_55 K k d) fun r55 =>
  if l2 ≤ l3 then
    some (some (.long ((l2 : Int32).toInt64)), w, I, J)
  else
    gO w 5 l0 (
    gV w l0 4 fun q_1 =>
    gO w 0 q_1 (
    cV (Cl K d 198 [.ref q_1] w I J) fun w_2 I_3 J_4 =>
    lt_ (l3 + 1) fun x_5 =>
    r55 l0 l1 l2 x_5 w_2 I_3 J_4))
theorem ok_197_55 {K : Nat → Value} {d : Nat} : ∀ {k : Nat} {l0 : Nat} {l1 : Int32} {l2 : Int32} {l3 : Int32} {w : aW} {I : aI} {J : aJ} {R : aR}, f_197_55 K k d l0 l1 l2 l3 w I J = some R → Go K (d + 1) 197 55 [some (.ref l0), some (.int l1), some (.int l2), some (.int l3)] [] w I J R := by
  intro k
  induction k with
  | zero => intro l0 l1 l2 l3 w I J R h; cases h
  | succ k ih =>
    intro l0 l1 l2 l3 w I J R h
    have hr55 : ∀ (l0 : Nat) (l1 : Int32) (l2 : Int32) (l3 : Int32) (w : aW) (I : aI) (J : aJ) (R : aR), f_197_55 K k d l0 l1 l2 l3 w I J = some R → Go K (d + 1) 197 55 [some (.ref l0), some (.int l1), some (.int l2), some (.int l3)] [] w I J R := fun l0 l1 l2 l3 w I J R h => ih h
    rw [f_197_55] at h
    obtain ⟨r55, hx, h⟩ := lt_s_ h
    rw [hx] at hr55
    clear hx ih
    refine gs_0 (pc' := 56) (L' := [some (.ref l0), some (.int l1), some (.int l2), some (.int l3)]) (st' := [.int l3]) cd_197_55 rfl rfl ?_
    refine gs_0 (pc' := 57) (L' := [some (.ref l0), some (.int l1), some (.int l2), some (.int l3)]) (st' := [.int l2, .int l3]) cd_197_56 rfl rfl ?_
    refine gs_0 (pc' := if l2 ≤ l3 then 73 else 60) (L' := [some (.ref l0), some (.int l1), some (.int l2), some (.int l3)]) (st' := []) cd_197_57 rfl rfl ?_
    refine go_ite (fun hc => ?_) (fun hc => ?_)
    · rw [if_pos hc] at h
      refine gs_0 (pc' := 74) (L' := [some (.ref l0), some (.int l1), some (.int l2), some (.int l3)]) (st' := [.int l2]) cd_197_73 rfl rfl ?_
      refine gs_0 (pc' := 75) (L' := [some (.ref l0), some (.int l1), some (.int l2), some (.int l3)]) (st' := [.long ((l2 : Int32).toInt64)]) cd_197_74 rfl rfl ?_
      cases h
      exact gsr cd_197_75 rfl rfl
    · rw [if_neg hc] at h
      refine gs_0 (pc' := 61) (L' := [some (.ref l0), some (.int l1), some (.int l2), some (.int l3)]) (st' := [.ref l0]) cd_197_60 rfl rfl ?_
      obtain ⟨ht, h⟩ := gO_s h
      obtain ⟨q_1, hv, h⟩ := gV_s h
      refine gs_gfR cd_197_61 (by decide) ht hv ?_
      obtain ⟨ht, h⟩ := gO_s h
      obtain ⟨w_2, I_3, J_4, hcl, h⟩ := cV_s h
      refine gs_call (as := [.ref q_1]) (rest := []) cd_197_64 rfl (by decide) rfl (sm_rv_ok (by decide) ht) (Nat.le_of_ble_eq_true rfl) (Nat.le_of_ble_eq_true rfl) rfl hcl ?_
      refine gs_0 (pc' := 70) (L' := [some (.ref l0), some (.int l1), some (.int l2), some (.int (l3 + 1))]) (st' := []) cd_197_67 rfl rfl ?_
      obtain ⟨x_5, hx, h⟩ := lt_s_ h
      rw [hx]
      clear hx
      refine gs_0 (pc' := 55) (L' := [some (.ref l0), some (.int l1), some (.int l2), some (.int x_5)]) (st' := []) cd_197_70 rfl rfl ?_
      exact hr55 l0 l1 l2 x_5 _ _ _ _ h
noncomputable def f_197_34 (K : Nat → Value) (k d : Nat) (l0 : Nat) (l1 : Int32) (w : aW) (I : aI) (J : aJ) : Option aR :=
  gO w 5 l0 (
  cJ (Cl K d 17 [.ref l0, .int 6] w I J) fun v_4 w_1 I_2 J_3 =>
  some (some (.long v_4), w_1, I_2, J_3))
theorem ok_197_34 {K : Nat → Value} {k d : Nat} {l0 : Nat} {l1 : Int32} {w : aW} {I : aI} {J : aJ} {R : aR} (h : f_197_34 K k d l0 l1 w I J = some R) : Go K (d + 1) 197 34 [some (.ref l0), some (.int l1), none, none] [] w I J R := by
  unfold f_197_34 at h
  refine gs_0 (pc' := 35) (L' := [some (.ref l0), some (.int l1), none, none]) (st' := [.ref l0]) cd_197_34 rfl rfl ?_
  refine gs_0 (pc' := 37) (L' := [some (.ref l0), some (.int l1), none, none]) (st' := [.int 6, .ref l0]) cd_197_35 rfl rfl ?_
  obtain ⟨ht, h⟩ := gO_s h
  obtain ⟨v_4, w_1, I_2, J_3, hcl, h⟩ := cJ_s h
  refine gs_call (as := [.ref l0, .int 6]) (rest := []) cd_197_37 rfl (by decide) rfl (sm_rv_ok (by decide) ht) (Nat.le_of_ble_eq_true rfl) (Nat.le_of_ble_eq_true rfl) rfl hcl ?_
  cases h
  exact gsr cd_197_40 rfl rfl
noncomputable def f_197_11 (K : Nat → Value) (k d : Nat) (l0 : Nat) (l1 : Int32) (w : aW) (I : aI) (J : aJ) : Option aR :=
  gO w 5 l0 (
  cJ (Cl K d 17 [.ref l0, .int 1] w I J) fun v_4 w_1 I_2 J_3 =>
  some (some (.long v_4), w_1, I_2, J_3))
theorem ok_197_11 {K : Nat → Value} {k d : Nat} {l0 : Nat} {l1 : Int32} {w : aW} {I : aI} {J : aJ} {R : aR} (h : f_197_11 K k d l0 l1 w I J = some R) : Go K (d + 1) 197 11 [some (.ref l0), some (.int l1), none, none] [] w I J R := by
  unfold f_197_11 at h
  refine gs_0 (pc' := 12) (L' := [some (.ref l0), some (.int l1), none, none]) (st' := [.ref l0]) cd_197_11 rfl rfl ?_
  refine gs_0 (pc' := 13) (L' := [some (.ref l0), some (.int l1), none, none]) (st' := [.int 1, .ref l0]) cd_197_12 rfl rfl ?_
  obtain ⟨ht, h⟩ := gO_s h
  obtain ⟨v_4, w_1, I_2, J_3, hcl, h⟩ := cJ_s h
  refine gs_call (as := [.ref l0, .int 1]) (rest := []) cd_197_13 rfl (by decide) rfl (sm_rv_ok (by decide) ht) (Nat.le_of_ble_eq_true rfl) (Nat.le_of_ble_eq_true rfl) rfl hcl ?_
  cases h
  exact gsr cd_197_16 rfl rfl
noncomputable def f_197 (K : Nat → Value) (k d : Nat) (l0 : Nat) (l1 : Int32) (w : aW) (I : aI) (J : aJ) : Option aR :=
  if l1 < 1 then
    f_197_11 K k d l0 l1 w I J
  else
    if l1 ≤ 30 then
      gO w 5 l0 (
      if (I l0 5) = 0 then
        f_197_34 K k d l0 l1 w I J
      else
        gO w 5 l0 (
        gV w l0 4 fun q_1 =>
        gO w 0 q_1 (
        if ¬ (I q_1 8) = 0 then
          gO w 5 l0 (
          gV w l0 4 fun q_2 =>
          gO w 0 q_2 (
          lt_ ((if (I q_2 8 : Int32) < (l1 : Int32) then (I q_2 8 : Int32) else (l1 : Int32))) fun x_3 =>
          f_197_55 K k d l0 l1 x_3 0 w I J))
        else
          f_197_34 K k d l0 l1 w I J)))
    else
      f_197_11 K k d l0 l1 w I J
theorem ok_197 {K : Nat → Value} {k d : Nat} {l0 : Nat} {l1 : Int32} {w : aW} {I : aI} {J : aJ} {R : aR} (h : f_197 K k d l0 l1 w I J = some R) : Go K (d + 1) 197 0 [some (.ref l0), some (.int l1), none, none] [] w I J R := by
  unfold f_197 at h
  refine gs_0 (pc' := 1) (L' := [some (.ref l0), some (.int l1), none, none]) (st' := [.int l1]) cd_197_0 rfl rfl ?_
  refine gs_0 (pc' := 2) (L' := [some (.ref l0), some (.int l1), none, none]) (st' := [.int 1, .int l1]) cd_197_1 rfl rfl ?_
  refine gs_0 (pc' := if l1 < 1 then 11 else 5) (L' := [some (.ref l0), some (.int l1), none, none]) (st' := []) cd_197_2 rfl rfl ?_
  refine go_ite (fun hc => ?_) (fun hc => ?_)
  · rw [if_pos hc] at h
    exact ok_197_11 h
  · rw [if_neg hc] at h
    refine gs_0 (pc' := 6) (L' := [some (.ref l0), some (.int l1), none, none]) (st' := [.int l1]) cd_197_5 rfl rfl ?_
    refine gs_0 (pc' := 8) (L' := [some (.ref l0), some (.int l1), none, none]) (st' := [.int 30, .int l1]) cd_197_6 rfl rfl ?_
    refine gs_0 (pc' := if l1 ≤ 30 then 17 else 11) (L' := [some (.ref l0), some (.int l1), none, none]) (st' := []) cd_197_8 rfl rfl ?_
    refine go_ite (fun hc => ?_) (fun hc => ?_)
    · rw [if_pos hc] at h
      refine gs_0 (pc' := 18) (L' := [some (.ref l0), some (.int l1), none, none]) (st' := [.ref l0]) cd_197_17 rfl rfl ?_
      obtain ⟨ht, h⟩ := gO_s h
      refine gs_gfI cd_197_18 (by decide) (by decide) ht ?_
      refine gs_0 (pc' := if (I l0 5) = 0 then 34 else 24) (L' := [some (.ref l0), some (.int l1), none, none]) (st' := []) cd_197_21 rfl rfl ?_
      refine go_ite (fun hc => ?_) (fun hc => ?_)
      · rw [if_pos hc] at h
        exact ok_197_34 h
      · rw [if_neg hc] at h
        refine gs_0 (pc' := 25) (L' := [some (.ref l0), some (.int l1), none, none]) (st' := [.ref l0]) cd_197_24 rfl rfl ?_
        obtain ⟨ht, h⟩ := gO_s h
        obtain ⟨q_1, hv, h⟩ := gV_s h
        refine gs_gfR cd_197_25 (by decide) ht hv ?_
        obtain ⟨ht, h⟩ := gO_s h
        refine gs_gfI cd_197_28 (by decide) (by decide) ht ?_
        refine gs_0 (pc' := if ¬ (I q_1 8) = 0 then 41 else 34) (L' := [some (.ref l0), some (.int l1), none, none]) (st' := []) cd_197_31 rfl rfl ?_
        refine go_ite (fun hc => ?_) (fun hc => ?_)
        · rw [if_pos hc] at h
          refine gs_0 (pc' := 42) (L' := [some (.ref l0), some (.int l1), none, none]) (st' := [.int l1]) cd_197_41 rfl rfl ?_
          refine gs_0 (pc' := 43) (L' := [some (.ref l0), some (.int l1), none, none]) (st' := [.ref l0, .int l1]) cd_197_42 rfl rfl ?_
          obtain ⟨ht, h⟩ := gO_s h
          obtain ⟨q_2, hv, h⟩ := gV_s h
          refine gs_gfR cd_197_43 (by decide) ht hv ?_
          obtain ⟨ht, h⟩ := gO_s h
          refine gs_gfI cd_197_46 (by decide) (by decide) ht ?_
          refine gsp (pc' := 52) (L' := [some (.ref l0), some (.int l1), none, none]) (st' := [.int ((if (I q_2 8 : Int32) < (l1 : Int32) then (I q_2 8 : Int32) else (l1 : Int32)))]) cd_197_49 rfl (by decide) rfl ?_
          refine gs_0 (pc' := 53) (L' := [some (.ref l0), some (.int l1), some (.int ((if (I q_2 8 : Int32) < (l1 : Int32) then (I q_2 8 : Int32) else (l1 : Int32)))), none]) (st' := []) cd_197_52 rfl rfl ?_
          obtain ⟨x_3, hx, h⟩ := lt_s_ h
          rw [hx]
          clear hx
          refine gs_0 (pc' := 54) (L' := [some (.ref l0), some (.int l1), some (.int x_3), none]) (st' := [.int 0]) cd_197_53 rfl rfl ?_
          refine gs_0 (pc' := 55) (L' := [some (.ref l0), some (.int l1), some (.int x_3), some (.int 0)]) (st' := []) cd_197_54 rfl rfl ?_
          exact ok_197_55 h
        · rw [if_neg hc] at h
          exact ok_197_34 h
    · rw [if_neg hc] at h
      exact ok_197_11 h
theorem cl_197 {K : Nat → Value} {k d : Nat} {l0 : Nat} {l1 : Int32} {w : aW} {I : aI} {J : aJ} {R : aR} (h : f_197 K k d l0 l1 w I J = some R) : Cl K (d + 1) 197 [.ref l0, .int l1] w I J = some R := Cl_of (ok_197 h)
/-! ProvedMachine$Machine.undo()V -/
set_option maxRecDepth 20000 in
theorem gl_198 : gcd.lookup 198 = some gw_198 := rfl
theorem cd_198_0 : sm_cd 198 0 = some (.aload_n 0, 1, 0, 0, 0, 0, 0, 0, 0) := cd_of gl_198 rfl
theorem cd_198_1 : sm_cd 198 1 = some (.getfield 36, 3, 0, 8, 0, 0, 0, 0, 0) := cd_of gl_198 rfl
theorem cd_198_4 : sm_cd 198 4 = some (.ifCond .ne 4, 3, 8, 0, 0, 0, 0, 0, 0) := cd_of gl_198 rfl
theorem cd_198_7 : sm_cd 198 7 = some (.return_, 1, 0, 0, 0, 0, 0, 0, 0) := cd_of gl_198 rfl
theorem cd_198_8 : sm_cd 198 8 = some (.aload_n 0, 1, 0, 0, 0, 0, 0, 0, 0) := cd_of gl_198 rfl
theorem cd_198_9 : sm_cd 198 9 = some (.dup, 1, 0, 0, 0, 0, 0, 0, 0) := cd_of gl_198 rfl
theorem cd_198_10 : sm_cd 198 10 = some (.getfield 36, 3, 0, 8, 0, 0, 0, 0, 0) := cd_of gl_198 rfl
theorem cd_198_13 : sm_cd 198 13 = some (.iconst 1, 1, 0, 0, 0, 0, 0, 1, 0) := cd_of gl_198 rfl
theorem cd_198_14 : sm_cd 198 14 = some (.isub, 1, 0, 0, 0, 0, 0, 0, 0) := cd_of gl_198 rfl
theorem cd_198_15 : sm_cd 198 15 = some (.putfield 36, 3, 0, 8, 0, 0, 0, 0, 0) := cd_of gl_198 rfl
theorem cd_198_18 : sm_cd 198 18 = some (.aload_n 0, 1, 0, 0, 0, 0, 0, 0, 0) := cd_of gl_198 rfl
theorem cd_198_19 : sm_cd 198 19 = some (.aload_n 0, 1, 0, 0, 0, 0, 0, 0, 0) := cd_of gl_198 rfl
theorem cd_198_20 : sm_cd 198 20 = some (.getfield 32, 3, 0, 7, 0, 0, 0, 0, 0) := cd_of gl_198 rfl
theorem cd_198_23 : sm_cd 198 23 = some (.bipush 32, 2, 0, 0, 0, 0, 0, 32, 0) := cd_of gl_198 rfl
theorem cd_198_25 : sm_cd 198 25 = some (.iadd, 1, 0, 0, 0, 0, 0, 0, 0) := cd_of gl_198 rfl
theorem cd_198_26 : sm_cd 198 26 = some (.iconst 1, 1, 0, 0, 0, 0, 0, 1, 0) := cd_of gl_198 rfl
theorem cd_198_27 : sm_cd 198 27 = some (.isub, 1, 0, 0, 0, 0, 0, 0, 0) := cd_of gl_198 rfl
theorem cd_198_28 : sm_cd 198 28 = some (.bipush 31, 2, 0, 0, 0, 0, 0, 31, 0) := cd_of gl_198 rfl
theorem cd_198_30 : sm_cd 198 30 = some (.iand, 1, 0, 0, 0, 0, 0, 0, 0) := cd_of gl_198 rfl
theorem cd_198_31 : sm_cd 198 31 = some (.putfield 32, 3, 0, 7, 0, 0, 0, 0, 0) := cd_of gl_198 rfl
theorem cd_198_34 : sm_cd 198 34 = some (.aload_n 0, 1, 0, 0, 0, 0, 0, 0, 0) := cd_of gl_198 rfl
theorem cd_198_35 : sm_cd 198 35 = some (.getfield 20, 3, 0, 3, 2, 0, 0, 0, 0) := cd_of gl_198 rfl
theorem cd_198_38 : sm_cd 198 38 = some (.aload_n 0, 1, 0, 0, 0, 0, 0, 0, 0) := cd_of gl_198 rfl
theorem cd_198_39 : sm_cd 198 39 = some (.getfield 32, 3, 0, 7, 0, 0, 0, 0, 0) := cd_of gl_198 rfl
theorem cd_198_42 : sm_cd 198 42 = some (.iaload, 1, 0, 0, 0, 0, 0, 0, 0) := cd_of gl_198 rfl
theorem cd_198_43 : sm_cd 198 43 = some (.bipush 36, 2, 0, 0, 0, 0, 0, 36, 0) := cd_of gl_198 rfl
theorem cd_198_45 : sm_cd 198 45 = some (.invokestatic 91, 3, 0, 6, 0, 0, 0, 0, 0) := cd_of gl_198 rfl
theorem cd_198_48 : sm_cd 198 48 = some (.iconst 1, 1, 0, 0, 0, 0, 0, 1, 0) := cd_of gl_198 rfl
theorem cd_198_49 : sm_cd 198 49 = some (.isub, 1, 0, 0, 0, 0, 0, 0, 0) := cd_of gl_198 rfl
theorem cd_198_50 : sm_cd 198 50 = some (.istore_n 1, 1, 1, 0, 0, 0, 0, 0, 0) := cd_of gl_198 rfl
theorem cd_198_51 : sm_cd 198 51 = some (.iload_n 1, 1, 1, 0, 0, 0, 0, 0, 0) := cd_of gl_198 rfl
theorem cd_198_52 : sm_cd 198 52 = some (.ifCond .lt 49, 3, 101, 0, 0, 0, 0, 0, 0) := cd_of gl_198 rfl
theorem cd_198_55 : sm_cd 198 55 = some (.aload_n 0, 1, 0, 0, 0, 0, 0, 0, 0) := cd_of gl_198 rfl
theorem cd_198_56 : sm_cd 198 56 = some (.getfield 32, 3, 0, 7, 0, 0, 0, 0, 0) := cd_of gl_198 rfl
theorem cd_198_59 : sm_cd 198 59 = some (.bipush 36, 2, 0, 0, 0, 0, 0, 36, 0) := cd_of gl_198 rfl
theorem cd_198_61 : sm_cd 198 61 = some (.imul, 1, 0, 0, 0, 0, 0, 0, 0) := cd_of gl_198 rfl
theorem cd_198_62 : sm_cd 198 62 = some (.iload_n 1, 1, 1, 0, 0, 0, 0, 0, 0) := cd_of gl_198 rfl
theorem cd_198_63 : sm_cd 198 63 = some (.iadd, 1, 0, 0, 0, 0, 0, 0, 0) := cd_of gl_198 rfl
theorem cd_198_64 : sm_cd 198 64 = some (.istore_n 2, 1, 2, 0, 0, 0, 0, 0, 0) := cd_of gl_198 rfl
theorem cd_198_65 : sm_cd 198 65 = some (.aload_n 0, 1, 0, 0, 0, 0, 0, 0, 0) := cd_of gl_198 rfl
theorem cd_198_66 : sm_cd 198 66 = some (.getfield 23, 3, 0, 4, 2, 0, 0, 0, 0) := cd_of gl_198 rfl
theorem cd_198_69 : sm_cd 198 69 = some (.iload_n 2, 1, 2, 0, 0, 0, 0, 0, 0) := cd_of gl_198 rfl
theorem cd_198_70 : sm_cd 198 70 = some (.iaload, 1, 0, 0, 0, 0, 0, 0, 0) := cd_of gl_198 rfl
theorem cd_198_71 : sm_cd 198 71 = some (.istore_n 3, 1, 3, 0, 0, 0, 0, 0, 0) := cd_of gl_198 rfl
theorem cd_198_72 : sm_cd 198 72 = some (.iload_n 3, 1, 3, 0, 0, 0, 0, 0, 0) := cd_of gl_198 rfl
theorem cd_198_73 : sm_cd 198 73 = some (.ifCond .lt 22, 3, 95, 0, 0, 0, 0, 0, 0) := cd_of gl_198 rfl
theorem cd_198_76 : sm_cd 198 76 = some (.iload_n 3, 1, 3, 0, 0, 0, 0, 0, 0) := cd_of gl_198 rfl
theorem cd_198_77 : sm_cd 198 77 = some (.sipush 327, 3, 0, 0, 0, 0, 0, 327, 0) := cd_of gl_198 rfl
theorem cd_198_80 : sm_cd 198 80 = some (.if_icmp .ge 15, 3, 95, 0, 0, 0, 0, 0, 0) := cd_of gl_198 rfl
theorem cd_198_83 : sm_cd 198 83 = some (.aload_n 0, 1, 0, 0, 0, 0, 0, 0, 0) := cd_of gl_198 rfl
theorem cd_198_84 : sm_cd 198 84 = some (.getfield 13, 3, 0, 1, 2, 0, 0, 0, 0) := cd_of gl_198 rfl
theorem cd_198_87 : sm_cd 198 87 = some (.iload_n 3, 1, 3, 0, 0, 0, 0, 0, 0) := cd_of gl_198 rfl
theorem cd_198_88 : sm_cd 198 88 = some (.aload_n 0, 1, 0, 0, 0, 0, 0, 0, 0) := cd_of gl_198 rfl
theorem cd_198_89 : sm_cd 198 89 = some (.getfield 26, 3, 0, 5, 2, 0, 0, 0, 0) := cd_of gl_198 rfl
theorem cd_198_92 : sm_cd 198 92 = some (.iload_n 2, 1, 2, 0, 0, 0, 0, 0, 0) := cd_of gl_198 rfl
theorem cd_198_93 : sm_cd 198 93 = some (.iaload, 1, 0, 0, 0, 0, 0, 0, 0) := cd_of gl_198 rfl
theorem cd_198_94 : sm_cd 198 94 = some (.iastore, 1, 0, 0, 0, 0, 0, 0, 0) := cd_of gl_198 rfl
theorem cd_198_95 : sm_cd 198 95 = some (.iinc 1 (-1), 3, 1, 0, 0, 0, 0, (-1), 0) := cd_of gl_198 rfl
theorem cd_198_98 : sm_cd 198 98 = some (.goto (-47), 3, 51, 0, 0, 0, 0, 0, 0) := cd_of gl_198 rfl
theorem cd_198_101 : sm_cd 198 101 = some (.aload_n 0, 1, 0, 0, 0, 0, 0, 0, 0) := cd_of gl_198 rfl
theorem cd_198_102 : sm_cd 198 102 = some (.getfield 13, 3, 0, 1, 2, 0, 0, 0, 0) := cd_of gl_198 rfl
theorem cd_198_105 : sm_cd 198 105 = some (.iconst 0, 1, 0, 0, 0, 0, 0, 0, 0) := cd_of gl_198 rfl
theorem cd_198_106 : sm_cd 198 106 = some (.iconst 0, 1, 0, 0, 0, 0, 0, 0, 0) := cd_of gl_198 rfl
theorem cd_198_107 : sm_cd 198 107 = some (.iastore, 1, 0, 0, 0, 0, 0, 0, 0) := cd_of gl_198 rfl
theorem cd_198_108 : sm_cd 198 108 = some (.return_, 1, 0, 0, 0, 0, 0, 0, 0) := cd_of gl_198 rfl
noncomputable def f_198_95 (K : Nat → Value) (k d : Nat) (r51 : Nat → Int32 → aW → aI → aJ → Option aR) (l0 : Nat) (l1 : Int32) (l2 : Int32) (l3 : Int32) (w : aW) (I : aI) (J : aJ) : Option aR :=
  lt_ (l1 + (-1)) fun x_1 =>
  r51 l0 x_1 w I J
theorem ok_198_95 {K : Nat → Value} {k d : Nat} {r51 : Nat → Int32 → aW → aI → aJ → Option aR} (hr51 : ∀ (l0 : Nat) (l1 : Int32) (w : aW) (I : aI) (J : aJ) (R : aR), r51 l0 l1 w I J = some R → Go K (d + 1) 198 51 [some (.ref l0), some (.int l1), none, none] [] w I J R) {l0 : Nat} {l1 : Int32} {l2 : Int32} {l3 : Int32} {w : aW} {I : aI} {J : aJ} {R : aR} (h : f_198_95 K k d r51 l0 l1 l2 l3 w I J = some R) : Go K (d + 1) 198 95 [some (.ref l0), some (.int l1), some (.int l2), some (.int l3)] [] w I J R := by
  unfold f_198_95 at h
  refine gs_0 (pc' := 98) (L' := [some (.ref l0), some (.int (l1 + (-1))), some (.int l2), some (.int l3)]) (st' := []) cd_198_95 rfl rfl ?_
  obtain ⟨x_1, hx, h⟩ := lt_s_ h
  rw [hx]
  clear hx
  refine gs_0 (pc' := 51) (L' := [some (.ref l0), some (.int x_1), some (.int l2), some (.int l3)]) (st' := []) cd_198_98 rfl rfl ?_
  refine go_drop [some (.ref l0), some (.int x_1), none, none] ⟨rfl, ⟨rfl, ⟨rfl, ⟨rfl, trivial⟩⟩⟩⟩ ?_
  exact hr51 l0 x_1 _ _ _ _ h
noncomputable def f_198_51 (K : Nat → Value) (k : Nat) (d : Nat) : Nat → Int32 → aW → aI → aJ → Option aR :=
  match k with
  | 0 => fun _ _ _ _ _ => none
  | k + 1 => fun l0 l1 w I J =>
  lt_ (f_198_51 K k d) fun r51 =>
  if l1 < 0 then
    gO w 0 l0 (
    gV w l0 1 fun q_1 =>
    gA w 10 10 q_1 0 (
    lt_ (sm_up2 I q_1 (0 : Int32).toNatClampNeg 0) fun I_2 =>
    some (none, w, I_2, J)))
  else
    gO w 0 l0 (
    lt_ (((I l0 7) * 36) + l1) fun x_3 =>
    gO w 0 l0 (
    gV w l0 4 fun q_4 =>
    gA w 10 20 q_4 x_3 (
    lt_ (I q_4 (x_3 : Int32).toNatClampNeg) fun x_5 =>
    if x_5 < 0 then
      f_198_95 K k d r51 l0 l1 x_3 x_5 w I J
    else
      if 327 ≤ x_5 then
        f_198_95 K k d r51 l0 l1 x_3 x_5 w I J
      else
        gO w 0 l0 (
        gV w l0 1 fun q_6 =>
        gO w 0 l0 (
        gV w l0 5 fun q_7 =>
        gA w 10 20 q_7 x_3 (
        gA w 10 10 q_6 x_5 (
        lt_ (sm_up2 I q_6 (x_5 : Int32).toNatClampNeg (I q_7 (x_3 : Int32).toNatClampNeg)) fun I_8 =>
        f_198_95 K k d r51 l0 l1 x_3 x_5 w I_8 J)))))))
theorem ok_198_51 {K : Nat → Value} {d : Nat} : ∀ {k : Nat} {l0 : Nat} {l1 : Int32} {w : aW} {I : aI} {J : aJ} {R : aR}, f_198_51 K k d l0 l1 w I J = some R → Go K (d + 1) 198 51 [some (.ref l0), some (.int l1), none, none] [] w I J R := by
  intro k
  induction k with
  | zero => intro l0 l1 w I J R h; cases h
  | succ k ih =>
    intro l0 l1 w I J R h
    have hr51 : ∀ (l0 : Nat) (l1 : Int32) (w : aW) (I : aI) (J : aJ) (R : aR), f_198_51 K k d l0 l1 w I J = some R → Go K (d + 1) 198 51 [some (.ref l0), some (.int l1), none, none] [] w I J R := fun l0 l1 w I J R h => ih h
    rw [f_198_51] at h
    obtain ⟨r51, hx, h⟩ := lt_s_ h
    rw [hx] at hr51
    clear hx ih
    refine gs_0 (pc' := 52) (L' := [some (.ref l0), some (.int l1), none, none]) (st' := [.int l1]) cd_198_51 rfl rfl ?_
    refine gs_0 (pc' := if l1 < 0 then 101 else 55) (L' := [some (.ref l0), some (.int l1), none, none]) (st' := []) cd_198_52 rfl rfl ?_
    refine go_ite (fun hc => ?_) (fun hc => ?_)
    · rw [if_pos hc] at h
      refine gs_0 (pc' := 102) (L' := [some (.ref l0), some (.int l1), none, none]) (st' := [.ref l0]) cd_198_101 rfl rfl ?_
      obtain ⟨ht, h⟩ := gO_s h
      obtain ⟨q_1, hv, h⟩ := gV_s h
      refine gs_gfR cd_198_102 (by decide) ht hv ?_
      refine gs_0 (pc' := 106) (L' := [some (.ref l0), some (.int l1), none, none]) (st' := [.int 0, .ref q_1]) cd_198_105 rfl rfl ?_
      refine gs_0 (pc' := 107) (L' := [some (.ref l0), some (.int l1), none, none]) (st' := [.int 0, .int 0, .ref q_1]) cd_198_106 rfl rfl ?_
      obtain ⟨ht, h⟩ := gA_s h
      refine gs_iast cd_198_107 ht ?_
      obtain ⟨I_2, hx, h⟩ := lt_s_ h
      rw [hx]
      cases h
      exact gsr cd_198_108 rfl rfl
    · rw [if_neg hc] at h
      refine gs_0 (pc' := 56) (L' := [some (.ref l0), some (.int l1), none, none]) (st' := [.ref l0]) cd_198_55 rfl rfl ?_
      obtain ⟨ht, h⟩ := gO_s h
      refine gs_gfI cd_198_56 (by decide) (by decide) ht ?_
      refine gs_0 (pc' := 61) (L' := [some (.ref l0), some (.int l1), none, none]) (st' := [.int 36, .int (I l0 7)]) cd_198_59 rfl rfl ?_
      refine gs_0 (pc' := 62) (L' := [some (.ref l0), some (.int l1), none, none]) (st' := [.int ((I l0 7) * 36)]) cd_198_61 rfl rfl ?_
      refine gs_0 (pc' := 63) (L' := [some (.ref l0), some (.int l1), none, none]) (st' := [.int l1, .int ((I l0 7) * 36)]) cd_198_62 rfl rfl ?_
      refine gs_0 (pc' := 64) (L' := [some (.ref l0), some (.int l1), none, none]) (st' := [.int (((I l0 7) * 36) + l1)]) cd_198_63 rfl rfl ?_
      refine gs_0 (pc' := 65) (L' := [some (.ref l0), some (.int l1), some (.int (((I l0 7) * 36) + l1)), none]) (st' := []) cd_198_64 rfl rfl ?_
      obtain ⟨x_3, hx, h⟩ := lt_s_ h
      rw [hx]
      clear hx
      refine gs_0 (pc' := 66) (L' := [some (.ref l0), some (.int l1), some (.int x_3), none]) (st' := [.ref l0]) cd_198_65 rfl rfl ?_
      obtain ⟨ht, h⟩ := gO_s h
      obtain ⟨q_4, hv, h⟩ := gV_s h
      refine gs_gfR cd_198_66 (by decide) ht hv ?_
      refine gs_0 (pc' := 70) (L' := [some (.ref l0), some (.int l1), some (.int x_3), none]) (st' := [.int x_3, .ref q_4]) cd_198_69 rfl rfl ?_
      obtain ⟨ht, h⟩ := gA_s h
      refine gs_iald cd_198_70 ht ?_
      refine gs_0 (pc' := 72) (L' := [some (.ref l0), some (.int l1), some (.int x_3), some (.int (I q_4 (x_3 : Int32).toNatClampNeg))]) (st' := []) cd_198_71 rfl rfl ?_
      obtain ⟨x_5, hx, h⟩ := lt_s_ h
      rw [hx]
      clear hx
      refine gs_0 (pc' := 73) (L' := [some (.ref l0), some (.int l1), some (.int x_3), some (.int x_5)]) (st' := [.int x_5]) cd_198_72 rfl rfl ?_
      refine gs_0 (pc' := if x_5 < 0 then 95 else 76) (L' := [some (.ref l0), some (.int l1), some (.int x_3), some (.int x_5)]) (st' := []) cd_198_73 rfl rfl ?_
      refine go_ite (fun hc => ?_) (fun hc => ?_)
      · rw [if_pos hc] at h
        exact ok_198_95 hr51 h
      · rw [if_neg hc] at h
        refine gs_0 (pc' := 77) (L' := [some (.ref l0), some (.int l1), some (.int x_3), some (.int x_5)]) (st' := [.int x_5]) cd_198_76 rfl rfl ?_
        refine gs_0 (pc' := 80) (L' := [some (.ref l0), some (.int l1), some (.int x_3), some (.int x_5)]) (st' := [.int 327, .int x_5]) cd_198_77 rfl rfl ?_
        refine gs_0 (pc' := if 327 ≤ x_5 then 95 else 83) (L' := [some (.ref l0), some (.int l1), some (.int x_3), some (.int x_5)]) (st' := []) cd_198_80 rfl rfl ?_
        refine go_ite (fun hc => ?_) (fun hc => ?_)
        · rw [if_pos hc] at h
          exact ok_198_95 hr51 h
        · rw [if_neg hc] at h
          refine gs_0 (pc' := 84) (L' := [some (.ref l0), some (.int l1), some (.int x_3), some (.int x_5)]) (st' := [.ref l0]) cd_198_83 rfl rfl ?_
          obtain ⟨ht, h⟩ := gO_s h
          obtain ⟨q_6, hv, h⟩ := gV_s h
          refine gs_gfR cd_198_84 (by decide) ht hv ?_
          refine gs_0 (pc' := 88) (L' := [some (.ref l0), some (.int l1), some (.int x_3), some (.int x_5)]) (st' := [.int x_5, .ref q_6]) cd_198_87 rfl rfl ?_
          refine gs_0 (pc' := 89) (L' := [some (.ref l0), some (.int l1), some (.int x_3), some (.int x_5)]) (st' := [.ref l0, .int x_5, .ref q_6]) cd_198_88 rfl rfl ?_
          obtain ⟨ht, h⟩ := gO_s h
          obtain ⟨q_7, hv, h⟩ := gV_s h
          refine gs_gfR cd_198_89 (by decide) ht hv ?_
          refine gs_0 (pc' := 93) (L' := [some (.ref l0), some (.int l1), some (.int x_3), some (.int x_5)]) (st' := [.int x_3, .ref q_7, .int x_5, .ref q_6]) cd_198_92 rfl rfl ?_
          obtain ⟨ht, h⟩ := gA_s h
          refine gs_iald cd_198_93 ht ?_
          obtain ⟨ht, h⟩ := gA_s h
          refine gs_iast cd_198_94 ht ?_
          obtain ⟨I_8, hx, h⟩ := lt_s_ h
          rw [hx]
          exact ok_198_95 hr51 h
noncomputable def f_198 (K : Nat → Value) (k d : Nat) (l0 : Nat) (w : aW) (I : aI) (J : aJ) : Option aR :=
  gO w 0 l0 (
  if ¬ (I l0 8) = 0 then
    gO w 0 l0 (
    gO w 0 l0 (
    lt_ (sm_up2 I l0 8 ((I l0 8) - 1)) fun I_1 =>
    gO w 0 l0 (
    gO w 0 l0 (
    lt_ (sm_up2 I_1 l0 7 ((((I_1 l0 7) + 32) - 1) &&& 31)) fun I_2 =>
    gO w 0 l0 (
    gV w l0 3 fun q_3 =>
    gO w 0 l0 (
    gA w 10 20 q_3 (I_2 l0 7) (
    lt_ (((if (36 : Int32) < (I_2 q_3 (I_2 l0 7 : Int32).toNatClampNeg : Int32) then (36 : Int32) else (I_2 q_3 (I_2 l0 7 : Int32).toNatClampNeg : Int32))) - 1) fun x_4 =>
    f_198_51 K k d l0 x_4 w I_2 J)))))))
  else
    some (none, w, I, J))
theorem ok_198 {K : Nat → Value} {k d : Nat} {l0 : Nat} {w : aW} {I : aI} {J : aJ} {R : aR} (h : f_198 K k d l0 w I J = some R) : Go K (d + 1) 198 0 [some (.ref l0), none, none, none] [] w I J R := by
  unfold f_198 at h
  refine gs_0 (pc' := 1) (L' := [some (.ref l0), none, none, none]) (st' := [.ref l0]) cd_198_0 rfl rfl ?_
  obtain ⟨ht, h⟩ := gO_s h
  refine gs_gfI cd_198_1 (by decide) (by decide) ht ?_
  refine gs_0 (pc' := if ¬ (I l0 8) = 0 then 8 else 7) (L' := [some (.ref l0), none, none, none]) (st' := []) cd_198_4 rfl rfl ?_
  refine go_ite (fun hc => ?_) (fun hc => ?_)
  · rw [if_pos hc] at h
    refine gs_0 (pc' := 9) (L' := [some (.ref l0), none, none, none]) (st' := [.ref l0]) cd_198_8 rfl rfl ?_
    refine gs_0 (pc' := 10) (L' := [some (.ref l0), none, none, none]) (st' := [.ref l0, .ref l0]) cd_198_9 rfl rfl ?_
    obtain ⟨ht, h⟩ := gO_s h
    refine gs_gfI cd_198_10 (by decide) (by decide) ht ?_
    refine gs_0 (pc' := 14) (L' := [some (.ref l0), none, none, none]) (st' := [.int 1, .int (I l0 8), .ref l0]) cd_198_13 rfl rfl ?_
    refine gs_0 (pc' := 15) (L' := [some (.ref l0), none, none, none]) (st' := [.int ((I l0 8) - 1), .ref l0]) cd_198_14 rfl rfl ?_
    obtain ⟨ht, h⟩ := gO_s h
    refine gs_pfI cd_198_15 (by decide) (Or.inl rfl) ht ?_
    obtain ⟨I_1, hx, h⟩ := lt_s_ h
    rw [hx]
    refine gs_0 (pc' := 19) (L' := [some (.ref l0), none, none, none]) (st' := [.ref l0]) cd_198_18 rfl rfl ?_
    refine gs_0 (pc' := 20) (L' := [some (.ref l0), none, none, none]) (st' := [.ref l0, .ref l0]) cd_198_19 rfl rfl ?_
    obtain ⟨ht, h⟩ := gO_s h
    refine gs_gfI cd_198_20 (by decide) (by decide) ht ?_
    refine gs_0 (pc' := 25) (L' := [some (.ref l0), none, none, none]) (st' := [.int 32, .int (I_1 l0 7), .ref l0]) cd_198_23 rfl rfl ?_
    refine gs_0 (pc' := 26) (L' := [some (.ref l0), none, none, none]) (st' := [.int ((I_1 l0 7) + 32), .ref l0]) cd_198_25 rfl rfl ?_
    refine gs_0 (pc' := 27) (L' := [some (.ref l0), none, none, none]) (st' := [.int 1, .int ((I_1 l0 7) + 32), .ref l0]) cd_198_26 rfl rfl ?_
    refine gs_0 (pc' := 28) (L' := [some (.ref l0), none, none, none]) (st' := [.int (((I_1 l0 7) + 32) - 1), .ref l0]) cd_198_27 rfl rfl ?_
    refine gs_0 (pc' := 30) (L' := [some (.ref l0), none, none, none]) (st' := [.int 31, .int (((I_1 l0 7) + 32) - 1), .ref l0]) cd_198_28 rfl rfl ?_
    refine gs_0 (pc' := 31) (L' := [some (.ref l0), none, none, none]) (st' := [.int ((((I_1 l0 7) + 32) - 1) &&& 31), .ref l0]) cd_198_30 rfl rfl ?_
    obtain ⟨ht, h⟩ := gO_s h
    refine gs_pfI cd_198_31 (by decide) (Or.inl rfl) ht ?_
    obtain ⟨I_2, hx, h⟩ := lt_s_ h
    rw [hx]
    refine gs_0 (pc' := 35) (L' := [some (.ref l0), none, none, none]) (st' := [.ref l0]) cd_198_34 rfl rfl ?_
    obtain ⟨ht, h⟩ := gO_s h
    obtain ⟨q_3, hv, h⟩ := gV_s h
    refine gs_gfR cd_198_35 (by decide) ht hv ?_
    refine gs_0 (pc' := 39) (L' := [some (.ref l0), none, none, none]) (st' := [.ref l0, .ref q_3]) cd_198_38 rfl rfl ?_
    obtain ⟨ht, h⟩ := gO_s h
    refine gs_gfI cd_198_39 (by decide) (by decide) ht ?_
    obtain ⟨ht, h⟩ := gA_s h
    refine gs_iald cd_198_42 ht ?_
    refine gs_0 (pc' := 45) (L' := [some (.ref l0), none, none, none]) (st' := [.int 36, .int (I_2 q_3 (I_2 l0 7 : Int32).toNatClampNeg)]) cd_198_43 rfl rfl ?_
    refine gsp (pc' := 48) (L' := [some (.ref l0), none, none, none]) (st' := [.int ((if (36 : Int32) < (I_2 q_3 (I_2 l0 7 : Int32).toNatClampNeg : Int32) then (36 : Int32) else (I_2 q_3 (I_2 l0 7 : Int32).toNatClampNeg : Int32)))]) cd_198_45 rfl (by decide) rfl ?_
    refine gs_0 (pc' := 49) (L' := [some (.ref l0), none, none, none]) (st' := [.int 1, .int ((if (36 : Int32) < (I_2 q_3 (I_2 l0 7 : Int32).toNatClampNeg : Int32) then (36 : Int32) else (I_2 q_3 (I_2 l0 7 : Int32).toNatClampNeg : Int32)))]) cd_198_48 rfl rfl ?_
    refine gs_0 (pc' := 50) (L' := [some (.ref l0), none, none, none]) (st' := [.int (((if (36 : Int32) < (I_2 q_3 (I_2 l0 7 : Int32).toNatClampNeg : Int32) then (36 : Int32) else (I_2 q_3 (I_2 l0 7 : Int32).toNatClampNeg : Int32))) - 1)]) cd_198_49 rfl rfl ?_
    refine gs_0 (pc' := 51) (L' := [some (.ref l0), some (.int (((if (36 : Int32) < (I_2 q_3 (I_2 l0 7 : Int32).toNatClampNeg : Int32) then (36 : Int32) else (I_2 q_3 (I_2 l0 7 : Int32).toNatClampNeg : Int32))) - 1)), none, none]) (st' := []) cd_198_50 rfl rfl ?_
    obtain ⟨x_4, hx, h⟩ := lt_s_ h
    rw [hx]
    clear hx
    exact ok_198_51 h
  · rw [if_neg hc] at h
    cases h
    exact gsr cd_198_7 rfl rfl
theorem cl_198 {K : Nat → Value} {k d : Nat} {l0 : Nat} {w : aW} {I : aI} {J : aJ} {R : aR} (h : f_198 K k d l0 w I J = some R) : Cl K (d + 1) 198 [.ref l0] w I J = some R := Cl_of (ok_198 h)
/-! ProvedMachineModel.back(I)J -/
set_option maxRecDepth 20000 in
theorem gl_199 : gcd.lookup 199 = some gw_199 := rfl
theorem cd_199_0 : sm_cd 199 0 = some (.iload_n 1, 1, 1, 0, 0, 0, 0, 0, 0) := cd_of gl_199 rfl
theorem cd_199_1 : sm_cd 199 1 = some (.iconst 1, 1, 0, 0, 0, 0, 0, 1, 0) := cd_of gl_199 rfl
theorem cd_199_2 : sm_cd 199 2 = some (.bipush 30, 2, 0, 0, 0, 0, 0, 30, 0) := cd_of gl_199 rfl
theorem cd_199_4 : sm_cd 199 4 = some (.invokestatic 144, 3, 19, 1, 3, 3, 6, 0, 0) := cd_of gl_199 rfl
theorem cd_199_7 : sm_cd 199 7 = some (.ifCond .ne 9, 3, 16, 0, 0, 0, 0, 0, 0) := cd_of gl_199 rfl
theorem cd_199_10 : sm_cd 199 10 = some (.aload_n 0, 1, 0, 0, 0, 0, 0, 0, 0) := cd_of gl_199 rfl
theorem cd_199_11 : sm_cd 199 11 = some (.iconst 1, 1, 0, 0, 0, 0, 0, 1, 0) := cd_of gl_199 rfl
theorem cd_199_12 : sm_cd 199 12 = some (.invokevirtual 148, 3, 20, 0, 1, 2, 6, 0, 0) := cd_of gl_199 rfl
theorem cd_199_15 : sm_cd 199 15 = some (.lreturn, 1, 0, 0, 0, 0, 0, 0, 0) := cd_of gl_199 rfl
theorem cd_199_16 : sm_cd 199 16 = some (.aload_n 0, 1, 0, 0, 0, 0, 0, 0, 0) := cd_of gl_199 rfl
theorem cd_199_17 : sm_cd 199 17 = some (.getfield 333, 3, 6, 42, 1, 0, 0, 0, 0) := cd_of gl_199 rfl
theorem cd_199_20 : sm_cd 199 20 = some (.ifCond .eq 10, 3, 30, 0, 0, 0, 0, 0, 0) := cd_of gl_199 rfl
theorem cd_199_23 : sm_cd 199 23 = some (.aload_n 0, 1, 0, 0, 0, 0, 0, 0, 0) := cd_of gl_199 rfl
theorem cd_199_24 : sm_cd 199 24 = some (.getfield 363, 3, 6, 41, 0, 0, 0, 0, 0) := cd_of gl_199 rfl
theorem cd_199_27 : sm_cd 199 27 = some (.ifCond .ne 10, 3, 37, 0, 0, 0, 0, 0, 0) := cd_of gl_199 rfl
theorem cd_199_30 : sm_cd 199 30 = some (.aload_n 0, 1, 0, 0, 0, 0, 0, 0, 0) := cd_of gl_199 rfl
theorem cd_199_31 : sm_cd 199 31 = some (.bipush 6, 2, 0, 0, 0, 0, 0, 6, 0) := cd_of gl_199 rfl
theorem cd_199_33 : sm_cd 199 33 = some (.invokevirtual 148, 3, 20, 0, 1, 2, 6, 0, 0) := cd_of gl_199 rfl
theorem cd_199_36 : sm_cd 199 36 = some (.lreturn, 1, 0, 0, 0, 0, 0, 0, 0) := cd_of gl_199 rfl
theorem cd_199_37 : sm_cd 199 37 = some (.iload_n 1, 1, 1, 0, 0, 0, 0, 0, 0) := cd_of gl_199 rfl
theorem cd_199_38 : sm_cd 199 38 = some (.aload_n 0, 1, 0, 0, 0, 0, 0, 0, 0) := cd_of gl_199 rfl
theorem cd_199_39 : sm_cd 199 39 = some (.getfield 363, 3, 6, 41, 0, 0, 0, 0, 0) := cd_of gl_199 rfl
theorem cd_199_42 : sm_cd 199 42 = some (.invokestatic 428, 3, 0, 6, 0, 0, 0, 0, 0) := cd_of gl_199 rfl
theorem cd_199_45 : sm_cd 199 45 = some (.istore_n 2, 1, 2, 0, 0, 0, 0, 0, 0) := cd_of gl_199 rfl
theorem cd_199_46 : sm_cd 199 46 = some (.aload_n 0, 1, 0, 0, 0, 0, 0, 0, 0) := cd_of gl_199 rfl
theorem cd_199_47 : sm_cd 199 47 = some (.dup, 1, 0, 0, 0, 0, 0, 0, 0) := cd_of gl_199 rfl
theorem cd_199_48 : sm_cd 199 48 = some (.getfield 363, 3, 6, 41, 0, 0, 0, 0, 0) := cd_of gl_199 rfl
theorem cd_199_51 : sm_cd 199 51 = some (.iload_n 2, 1, 2, 0, 0, 0, 0, 0, 0) := cd_of gl_199 rfl
theorem cd_199_52 : sm_cd 199 52 = some (.isub, 1, 0, 0, 0, 0, 0, 0, 0) := cd_of gl_199 rfl
theorem cd_199_53 : sm_cd 199 53 = some (.putfield 363, 3, 6, 41, 0, 0, 0, 0, 0) := cd_of gl_199 rfl
theorem cd_199_56 : sm_cd 199 56 = some (.aload_n 0, 1, 0, 0, 0, 0, 0, 0, 0) := cd_of gl_199 rfl
theorem cd_199_57 : sm_cd 199 57 = some (.getfield 117, 3, 6, 38, 2, 0, 0, 0, 0) := cd_of gl_199 rfl
theorem cd_199_60 : sm_cd 199 60 = some (.aload_n 0, 1, 0, 0, 0, 0, 0, 0, 0) := cd_of gl_199 rfl
theorem cd_199_61 : sm_cd 199 61 = some (.getfield 363, 3, 6, 41, 0, 0, 0, 0, 0) := cd_of gl_199 rfl
theorem cd_199_64 : sm_cd 199 64 = some (.sipush 360, 3, 0, 0, 0, 0, 0, 360, 0) := cd_of gl_199 rfl
theorem cd_199_67 : sm_cd 199 67 = some (.imul, 1, 0, 0, 0, 0, 0, 0, 0) := cd_of gl_199 rfl
theorem cd_199_68 : sm_cd 199 68 = some (.aload_n 0, 1, 0, 0, 0, 0, 0, 0, 0) := cd_of gl_199 rfl
theorem cd_199_69 : sm_cd 199 69 = some (.getfield 111, 3, 6, 36, 2, 0, 0, 0, 0) := cd_of gl_199 rfl
theorem cd_199_72 : sm_cd 199 72 = some (.iconst 0, 1, 0, 0, 0, 0, 0, 0, 0) := cd_of gl_199 rfl
theorem cd_199_73 : sm_cd 199 73 = some (.sipush 360, 3, 0, 0, 0, 0, 0, 360, 0) := cd_of gl_199 rfl
theorem cd_199_76 : sm_cd 199 76 = some (.invokestatic 418, 3, 177, 1, 5, 6, 6, 0, 0) := cd_of gl_199 rfl
theorem cd_199_79 : sm_cd 199 79 = some (.iload_n 2, 1, 2, 0, 0, 0, 0, 0, 0) := cd_of gl_199 rfl
theorem cd_199_80 : sm_cd 199 80 = some (.i2l, 1, 0, 0, 0, 0, 0, 0, 0) := cd_of gl_199 rfl
theorem cd_199_81 : sm_cd 199 81 = some (.lreturn, 1, 0, 0, 0, 0, 0, 0, 0) := cd_of gl_199 rfl
noncomputable def f_199_30 (K : Nat → Value) (k d : Nat) (l0 : Nat) (l1 : Int32) (w : aW) (I : aI) (J : aJ) : Option aR :=
  gO w 6 l0 (
  cJ (Cl K d 20 [.ref l0, .int 6] w I J) fun v_4 w_1 I_2 J_3 =>
  some (some (.long v_4), w_1, I_2, J_3))
theorem ok_199_30 {K : Nat → Value} {k d : Nat} {l0 : Nat} {l1 : Int32} {w : aW} {I : aI} {J : aJ} {R : aR} (h : f_199_30 K k d l0 l1 w I J = some R) : Go K (d + 1) 199 30 [some (.ref l0), some (.int l1), none] [] w I J R := by
  unfold f_199_30 at h
  refine gs_0 (pc' := 31) (L' := [some (.ref l0), some (.int l1), none]) (st' := [.ref l0]) cd_199_30 rfl rfl ?_
  refine gs_0 (pc' := 33) (L' := [some (.ref l0), some (.int l1), none]) (st' := [.int 6, .ref l0]) cd_199_31 rfl rfl ?_
  obtain ⟨ht, h⟩ := gO_s h
  obtain ⟨v_4, w_1, I_2, J_3, hcl, h⟩ := cJ_s h
  refine gs_call (as := [.ref l0, .int 6]) (rest := []) cd_199_33 rfl (by decide) rfl (sm_rv_ok (by decide) ht) (Nat.le_of_ble_eq_true rfl) (Nat.le_of_ble_eq_true rfl) rfl hcl ?_
  cases h
  exact gsr cd_199_36 rfl rfl
noncomputable def f_199 (K : Nat → Value) (k d : Nat) (l0 : Nat) (l1 : Int32) (w : aW) (I : aI) (J : aJ) : Option aR :=
  cI (Cl K d 19 [.int l1, .int 1, .int 30] w I J) fun x_4 w_1 I_2 J_3 =>
  if ¬ x_4 = 0 then
    gO w_1 6 l0 (
    if (I_2 l0 42) = 0 then
      f_199_30 K k d l0 l1 w_1 I_2 J_3
    else
      gO w_1 6 l0 (
      if ¬ (I_2 l0 41) = 0 then
        gO w_1 6 l0 (
        lt_ ((if (I_2 l0 41 : Int32) < (l1 : Int32) then (I_2 l0 41 : Int32) else (l1 : Int32))) fun x_5 =>
        gO w_1 6 l0 (
        gO w_1 6 l0 (
        lt_ (sm_up2 I_2 l0 41 ((I_2 l0 41) - x_5)) fun I_6 =>
        gO w_1 6 l0 (
        gV w_1 l0 38 fun q_7 =>
        gO w_1 6 l0 (
        gO w_1 6 l0 (
        gV w_1 l0 36 fun q_8 =>
        cV (Cl K d 177 [.ref q_7, .int ((I_6 l0 41) * 360), .ref q_8, .int 0, .int 360] w_1 I_6 J_3) fun w_9 I_10 J_11 =>
        some (some (.long ((x_5 : Int32).toInt64)), w_9, I_10, J_11)))))))
      else
        f_199_30 K k d l0 l1 w_1 I_2 J_3))
  else
    gO w_1 6 l0 (
    cJ (Cl K d 20 [.ref l0, .int 1] w_1 I_2 J_3) fun v_15 w_12 I_13 J_14 =>
    some (some (.long v_15), w_12, I_13, J_14))
theorem ok_199 {K : Nat → Value} {k d : Nat} {l0 : Nat} {l1 : Int32} {w : aW} {I : aI} {J : aJ} {R : aR} (h : f_199 K k d l0 l1 w I J = some R) : Go K (d + 1) 199 0 [some (.ref l0), some (.int l1), none] [] w I J R := by
  unfold f_199 at h
  refine gs_0 (pc' := 1) (L' := [some (.ref l0), some (.int l1), none]) (st' := [.int l1]) cd_199_0 rfl rfl ?_
  refine gs_0 (pc' := 2) (L' := [some (.ref l0), some (.int l1), none]) (st' := [.int 1, .int l1]) cd_199_1 rfl rfl ?_
  refine gs_0 (pc' := 4) (L' := [some (.ref l0), some (.int l1), none]) (st' := [.int 30, .int 1, .int l1]) cd_199_2 rfl rfl ?_
  obtain ⟨x_4, w_1, I_2, J_3, hcl, h⟩ := cI_s h
  refine gs_call (as := [.int l1, .int 1, .int 30]) (rest := []) cd_199_4 rfl (by decide) rfl rfl (Nat.le_of_ble_eq_true rfl) (Nat.le_of_ble_eq_true rfl) rfl hcl ?_
  refine gs_0 (pc' := if ¬ x_4 = 0 then 16 else 10) (L' := [some (.ref l0), some (.int l1), none]) (st' := []) cd_199_7 rfl rfl ?_
  refine go_ite (fun hc => ?_) (fun hc => ?_)
  · rw [if_pos hc] at h
    refine gs_0 (pc' := 17) (L' := [some (.ref l0), some (.int l1), none]) (st' := [.ref l0]) cd_199_16 rfl rfl ?_
    obtain ⟨ht, h⟩ := gO_s h
    refine gs_gfI cd_199_17 (by decide) (by decide) ht ?_
    refine gs_0 (pc' := if (I_2 l0 42) = 0 then 30 else 23) (L' := [some (.ref l0), some (.int l1), none]) (st' := []) cd_199_20 rfl rfl ?_
    refine go_ite (fun hc => ?_) (fun hc => ?_)
    · rw [if_pos hc] at h
      exact ok_199_30 h
    · rw [if_neg hc] at h
      refine gs_0 (pc' := 24) (L' := [some (.ref l0), some (.int l1), none]) (st' := [.ref l0]) cd_199_23 rfl rfl ?_
      obtain ⟨ht, h⟩ := gO_s h
      refine gs_gfI cd_199_24 (by decide) (by decide) ht ?_
      refine gs_0 (pc' := if ¬ (I_2 l0 41) = 0 then 37 else 30) (L' := [some (.ref l0), some (.int l1), none]) (st' := []) cd_199_27 rfl rfl ?_
      refine go_ite (fun hc => ?_) (fun hc => ?_)
      · rw [if_pos hc] at h
        refine gs_0 (pc' := 38) (L' := [some (.ref l0), some (.int l1), none]) (st' := [.int l1]) cd_199_37 rfl rfl ?_
        refine gs_0 (pc' := 39) (L' := [some (.ref l0), some (.int l1), none]) (st' := [.ref l0, .int l1]) cd_199_38 rfl rfl ?_
        obtain ⟨ht, h⟩ := gO_s h
        refine gs_gfI cd_199_39 (by decide) (by decide) ht ?_
        refine gsp (pc' := 45) (L' := [some (.ref l0), some (.int l1), none]) (st' := [.int ((if (I_2 l0 41 : Int32) < (l1 : Int32) then (I_2 l0 41 : Int32) else (l1 : Int32)))]) cd_199_42 rfl (by decide) rfl ?_
        refine gs_0 (pc' := 46) (L' := [some (.ref l0), some (.int l1), some (.int ((if (I_2 l0 41 : Int32) < (l1 : Int32) then (I_2 l0 41 : Int32) else (l1 : Int32))))]) (st' := []) cd_199_45 rfl rfl ?_
        obtain ⟨x_5, hx, h⟩ := lt_s_ h
        rw [hx]
        clear hx
        refine gs_0 (pc' := 47) (L' := [some (.ref l0), some (.int l1), some (.int x_5)]) (st' := [.ref l0]) cd_199_46 rfl rfl ?_
        refine gs_0 (pc' := 48) (L' := [some (.ref l0), some (.int l1), some (.int x_5)]) (st' := [.ref l0, .ref l0]) cd_199_47 rfl rfl ?_
        obtain ⟨ht, h⟩ := gO_s h
        refine gs_gfI cd_199_48 (by decide) (by decide) ht ?_
        refine gs_0 (pc' := 52) (L' := [some (.ref l0), some (.int l1), some (.int x_5)]) (st' := [.int x_5, .int (I_2 l0 41), .ref l0]) cd_199_51 rfl rfl ?_
        refine gs_0 (pc' := 53) (L' := [some (.ref l0), some (.int l1), some (.int x_5)]) (st' := [.int ((I_2 l0 41) - x_5), .ref l0]) cd_199_52 rfl rfl ?_
        obtain ⟨ht, h⟩ := gO_s h
        refine gs_pfI cd_199_53 (by decide) (Or.inl rfl) ht ?_
        obtain ⟨I_6, hx, h⟩ := lt_s_ h
        rw [hx]
        refine gs_0 (pc' := 57) (L' := [some (.ref l0), some (.int l1), some (.int x_5)]) (st' := [.ref l0]) cd_199_56 rfl rfl ?_
        obtain ⟨ht, h⟩ := gO_s h
        obtain ⟨q_7, hv, h⟩ := gV_s h
        refine gs_gfR cd_199_57 (by decide) ht hv ?_
        refine gs_0 (pc' := 61) (L' := [some (.ref l0), some (.int l1), some (.int x_5)]) (st' := [.ref l0, .ref q_7]) cd_199_60 rfl rfl ?_
        obtain ⟨ht, h⟩ := gO_s h
        refine gs_gfI cd_199_61 (by decide) (by decide) ht ?_
        refine gs_0 (pc' := 67) (L' := [some (.ref l0), some (.int l1), some (.int x_5)]) (st' := [.int 360, .int (I_6 l0 41), .ref q_7]) cd_199_64 rfl rfl ?_
        refine gs_0 (pc' := 68) (L' := [some (.ref l0), some (.int l1), some (.int x_5)]) (st' := [.int ((I_6 l0 41) * 360), .ref q_7]) cd_199_67 rfl rfl ?_
        refine gs_0 (pc' := 69) (L' := [some (.ref l0), some (.int l1), some (.int x_5)]) (st' := [.ref l0, .int ((I_6 l0 41) * 360), .ref q_7]) cd_199_68 rfl rfl ?_
        obtain ⟨ht, h⟩ := gO_s h
        obtain ⟨q_8, hv, h⟩ := gV_s h
        refine gs_gfR cd_199_69 (by decide) ht hv ?_
        refine gs_0 (pc' := 73) (L' := [some (.ref l0), some (.int l1), some (.int x_5)]) (st' := [.int 0, .ref q_8, .int ((I_6 l0 41) * 360), .ref q_7]) cd_199_72 rfl rfl ?_
        refine gs_0 (pc' := 76) (L' := [some (.ref l0), some (.int l1), some (.int x_5)]) (st' := [.int 360, .int 0, .ref q_8, .int ((I_6 l0 41) * 360), .ref q_7]) cd_199_73 rfl rfl ?_
        obtain ⟨w_9, I_10, J_11, hcl, h⟩ := cV_s h
        refine gs_call (as := [.ref q_7, .int ((I_6 l0 41) * 360), .ref q_8, .int 0, .int 360]) (rest := []) cd_199_76 rfl (by decide) rfl rfl (Nat.le_of_ble_eq_true rfl) (Nat.le_of_ble_eq_true rfl) rfl hcl ?_
        refine gs_0 (pc' := 80) (L' := [some (.ref l0), some (.int l1), some (.int x_5)]) (st' := [.int x_5]) cd_199_79 rfl rfl ?_
        refine gs_0 (pc' := 81) (L' := [some (.ref l0), some (.int l1), some (.int x_5)]) (st' := [.long ((x_5 : Int32).toInt64)]) cd_199_80 rfl rfl ?_
        cases h
        exact gsr cd_199_81 rfl rfl
      · rw [if_neg hc] at h
        exact ok_199_30 h
  · rw [if_neg hc] at h
    refine gs_0 (pc' := 11) (L' := [some (.ref l0), some (.int l1), none]) (st' := [.ref l0]) cd_199_10 rfl rfl ?_
    refine gs_0 (pc' := 12) (L' := [some (.ref l0), some (.int l1), none]) (st' := [.int 1, .ref l0]) cd_199_11 rfl rfl ?_
    obtain ⟨ht, h⟩ := gO_s h
    obtain ⟨v_15, w_12, I_13, J_14, hcl, h⟩ := cJ_s h
    refine gs_call (as := [.ref l0, .int 1]) (rest := []) cd_199_12 rfl (by decide) rfl (sm_rv_ok (by decide) ht) (Nat.le_of_ble_eq_true rfl) (Nat.le_of_ble_eq_true rfl) rfl hcl ?_
    cases h
    exact gsr cd_199_15 rfl rfl
theorem cl_199 {K : Nat → Value} {k d : Nat} {l0 : Nat} {l1 : Int32} {w : aW} {I : aI} {J : aJ} {R : aR} (h : f_199 K k d l0 l1 w I J = some R) : Cl K (d + 1) 199 [.ref l0, .int l1] w I J = some R := Cl_of (ok_199 h)

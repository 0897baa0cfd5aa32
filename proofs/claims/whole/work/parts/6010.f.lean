/-! methods as functions, by own program (wip/whole/gen_f.py) -/
/-! ProvedMachineModel.isSheet(I)Z -/
set_option maxRecDepth 20000 in
theorem gl_229 : gcd.lookup 229 = some gw_229 := rfl
theorem cd_229_0 : sm_cd 229 0 = some (.iload_n 0, 1, 0, 0, 0, 0, 0, 0, 0) := cd_of gl_229 rfl
theorem cd_229_1 : sm_cd 229 1 = some (.iconst 0, 1, 0, 0, 0, 0, 0, 0, 0) := cd_of gl_229 rfl
theorem cd_229_2 : sm_cd 229 2 = some (.iconst 3, 1, 0, 0, 0, 0, 0, 3, 0) := cd_of gl_229 rfl
theorem cd_229_3 : sm_cd 229 3 = some (.invokestatic 144, 3, 19, 1, 3, 3, 6, 0, 0) := cd_of gl_229 rfl
theorem cd_229_6 : sm_cd 229 6 = some (.ireturn, 1, 0, 0, 2, 0, 0, 0, 0) := cd_of gl_229 rfl
noncomputable def f_229 (K : Nat → Value) (k d : Nat) (l0 : Int32) (w : aW) (I : aI) (J : aJ) : Option aR :=
  cI (Cl K d 19 [.int l0, .int 0, .int 3] w I J) fun x_4 w_1 I_2 J_3 =>
  gC (x_4 = 0 ∨ x_4 = 1) (
  some (some (.int x_4), w_1, I_2, J_3))
theorem ok_229 {K : Nat → Value} {k d : Nat} {l0 : Int32} {w : aW} {I : aI} {J : aJ} {R : aR} (h : f_229 K k d l0 w I J = some R) : Go K (d + 1) 229 0 [some (.int l0)] [] w I J R := by
  unfold f_229 at h
  refine gs_0 (pc' := 1) (L' := [some (.int l0)]) (st' := [.int l0]) cd_229_0 rfl rfl ?_
  refine gs_0 (pc' := 2) (L' := [some (.int l0)]) (st' := [.int 0, .int l0]) cd_229_1 rfl rfl ?_
  refine gs_0 (pc' := 3) (L' := [some (.int l0)]) (st' := [.int 3, .int 0, .int l0]) cd_229_2 rfl rfl ?_
  obtain ⟨x_4, w_1, I_2, J_3, hcl, h⟩ := cI_s h
  refine gs_call (as := [.int l0, .int 0, .int 3]) (rest := []) cd_229_3 rfl (by decide) rfl rfl (Nat.le_of_ble_eq_true rfl) (Nat.le_of_ble_eq_true rfl) rfl hcl ?_
  obtain ⟨hc, h⟩ := gC_s h
  cases h
  exact gs_ri cd_229_6 (Or.inr (Or.inl ⟨rfl, hc⟩))
theorem cl_229 {K : Nat → Value} {k d : Nat} {l0 : Int32} {w : aW} {I : aI} {J : aJ} {R : aR} (h : f_229 K k d l0 w I J = some R) : Cl K (d + 1) 229 [.int l0] w I J = some R := Cl_of (ok_229 h)
/-! ProvedMachineModel.firstWrong(I)I -/
set_option maxRecDepth 20000 in
theorem gl_230 : gcd.lookup 230 = some gw_230 := rfl
theorem cd_230_0 : sm_cd 230 0 = some (.iconst 0, 1, 0, 0, 0, 0, 0, 0, 0) := cd_of gl_230 rfl
theorem cd_230_1 : sm_cd 230 1 = some (.istore_n 2, 1, 2, 0, 0, 0, 0, 0, 0) := cd_of gl_230 rfl
theorem cd_230_2 : sm_cd 230 2 = some (.iload_n 2, 1, 2, 0, 0, 0, 0, 0, 0) := cd_of gl_230 rfl
theorem cd_230_3 : sm_cd 230 3 = some (.aload_n 0, 1, 0, 0, 0, 0, 0, 0, 0) := cd_of gl_230 rfl
theorem cd_230_4 : sm_cd 230 4 = some (.getfield 133, 3, 6, 45, 2, 0, 0, 0, 0) := cd_of gl_230 rfl
theorem cd_230_7 : sm_cd 230 7 = some (.iload_n 1, 1, 1, 0, 0, 0, 0, 0, 0) := cd_of gl_230 rfl
theorem cd_230_8 : sm_cd 230 8 = some (.iaload, 1, 0, 0, 0, 0, 0, 0, 0) := cd_of gl_230 rfl
theorem cd_230_9 : sm_cd 230 9 = some (.if_icmp .ge 85, 3, 94, 0, 0, 0, 0, 0, 0) := cd_of gl_230 rfl
theorem cd_230_12 : sm_cd 230 12 = some (.iload_n 2, 1, 2, 0, 0, 0, 0, 0, 0) := cd_of gl_230 rfl
theorem cd_230_13 : sm_cd 230 13 = some (.iconst 4, 1, 0, 0, 0, 0, 0, 4, 0) := cd_of gl_230 rfl
theorem cd_230_14 : sm_cd 230 14 = some (.iadd, 1, 0, 0, 0, 0, 0, 0, 0) := cd_of gl_230 rfl
theorem cd_230_15 : sm_cd 230 15 = some (.aload_n 0, 1, 0, 0, 0, 0, 0, 0, 0) := cd_of gl_230 rfl
theorem cd_230_16 : sm_cd 230 16 = some (.getfield 133, 3, 6, 45, 2, 0, 0, 0, 0) := cd_of gl_230 rfl
theorem cd_230_19 : sm_cd 230 19 = some (.iload_n 1, 1, 1, 0, 0, 0, 0, 0, 0) := cd_of gl_230 rfl
theorem cd_230_20 : sm_cd 230 20 = some (.iaload, 1, 0, 0, 0, 0, 0, 0, 0) := cd_of gl_230 rfl
theorem cd_230_21 : sm_cd 230 21 = some (.if_icmp .le 10, 3, 31, 0, 0, 0, 0, 0, 0) := cd_of gl_230 rfl
theorem cd_230_24 : sm_cd 230 24 = some (.aload_n 0, 1, 0, 0, 0, 0, 0, 0, 0) := cd_of gl_230 rfl
theorem cd_230_25 : sm_cd 230 25 = some (.getfield 133, 3, 6, 45, 2, 0, 0, 0, 0) := cd_of gl_230 rfl
theorem cd_230_28 : sm_cd 230 28 = some (.iload_n 1, 1, 1, 0, 0, 0, 0, 0, 0) := cd_of gl_230 rfl
theorem cd_230_29 : sm_cd 230 29 = some (.iaload, 1, 0, 0, 0, 0, 0, 0, 0) := cd_of gl_230 rfl
theorem cd_230_30 : sm_cd 230 30 = some (.ireturn, 1, 0, 0, 1, 0, 0, 0, 0) := cd_of gl_230 rfl
theorem cd_230_31 : sm_cd 230 31 = some (.aload_n 0, 1, 0, 0, 0, 0, 0, 0, 0) := cd_of gl_230 rfl
theorem cd_230_32 : sm_cd 230 32 = some (.getfield 111, 3, 6, 36, 2, 0, 0, 0, 0) := cd_of gl_230 rfl
theorem cd_230_35 : sm_cd 230 35 = some (.iconst 0, 1, 0, 0, 0, 0, 0, 0, 0) := cd_of gl_230 rfl
theorem cd_230_36 : sm_cd 230 36 = some (.iaload, 1, 0, 0, 0, 0, 0, 0, 0) := cd_of gl_230 rfl
theorem cd_230_37 : sm_cd 230 37 = some (.ifCond .ne 10, 3, 47, 0, 0, 0, 0, 0, 0) := cd_of gl_230 rfl
theorem cd_230_40 : sm_cd 230 40 = some (.aload_n 0, 1, 0, 0, 0, 0, 0, 0, 0) := cd_of gl_230 rfl
theorem cd_230_41 : sm_cd 230 41 = some (.invokevirtual 422, 3, 178, 0, 0, 7, 6, 0, 0) := cd_of gl_230 rfl
theorem cd_230_44 : sm_cd 230 44 = some (.ifCond .ne 5, 3, 49, 0, 0, 0, 0, 0, 0) := cd_of gl_230 rfl
theorem cd_230_47 : sm_cd 230 47 = some (.iload_n 2, 1, 2, 0, 0, 0, 0, 0, 0) := cd_of gl_230 rfl
theorem cd_230_48 : sm_cd 230 48 = some (.ireturn, 1, 0, 0, 1, 0, 0, 0, 0) := cd_of gl_230 rfl
theorem cd_230_49 : sm_cd 230 49 = some (.iconst 0, 1, 0, 0, 0, 0, 0, 0, 0) := cd_of gl_230 rfl
theorem cd_230_50 : sm_cd 230 50 = some (.istore_n 3, 1, 3, 0, 0, 0, 0, 0, 0) := cd_of gl_230 rfl
theorem cd_230_51 : sm_cd 230 51 = some (.iload_n 3, 1, 3, 0, 0, 0, 0, 0, 0) := cd_of gl_230 rfl
theorem cd_230_52 : sm_cd 230 52 = some (.iconst 4, 1, 0, 0, 0, 0, 0, 4, 0) := cd_of gl_230 rfl
theorem cd_230_53 : sm_cd 230 53 = some (.if_icmp .ge 35, 3, 88, 0, 0, 0, 0, 0, 0) := cd_of gl_230 rfl
theorem cd_230_56 : sm_cd 230 56 = some (.aload_n 0, 1, 0, 0, 0, 0, 0, 0, 0) := cd_of gl_230 rfl
theorem cd_230_57 : sm_cd 230 57 = some (.getfield 136, 3, 6, 46, 2, 0, 0, 0, 0) := cd_of gl_230 rfl
theorem cd_230_60 : sm_cd 230 60 = some (.bipush 40, 2, 0, 0, 0, 0, 0, 40, 0) := cd_of gl_230 rfl
theorem cd_230_62 : sm_cd 230 62 = some (.iload_n 1, 1, 1, 0, 0, 0, 0, 0, 0) := cd_of gl_230 rfl
theorem cd_230_63 : sm_cd 230 63 = some (.imul, 1, 0, 0, 0, 0, 0, 0, 0) := cd_of gl_230 rfl
theorem cd_230_64 : sm_cd 230 64 = some (.iload_n 2, 1, 2, 0, 0, 0, 0, 0, 0) := cd_of gl_230 rfl
theorem cd_230_65 : sm_cd 230 65 = some (.iadd, 1, 0, 0, 0, 0, 0, 0, 0) := cd_of gl_230 rfl
theorem cd_230_66 : sm_cd 230 66 = some (.iload_n 3, 1, 3, 0, 0, 0, 0, 0, 0) := cd_of gl_230 rfl
theorem cd_230_67 : sm_cd 230 67 = some (.iadd, 1, 0, 0, 0, 0, 0, 0, 0) := cd_of gl_230 rfl
theorem cd_230_68 : sm_cd 230 68 = some (.iaload, 1, 0, 0, 0, 0, 0, 0, 0) := cd_of gl_230 rfl
theorem cd_230_69 : sm_cd 230 69 = some (.aload_n 0, 1, 0, 0, 0, 0, 0, 0, 0) := cd_of gl_230 rfl
theorem cd_230_70 : sm_cd 230 70 = some (.getfield 123, 3, 6, 40, 2, 0, 0, 0, 0) := cd_of gl_230 rfl
theorem cd_230_73 : sm_cd 230 73 = some (.iload_n 3, 1, 3, 0, 0, 0, 0, 0, 0) := cd_of gl_230 rfl
theorem cd_230_74 : sm_cd 230 74 = some (.iaload, 1, 0, 0, 0, 0, 0, 0, 0) := cd_of gl_230 rfl
theorem cd_230_75 : sm_cd 230 75 = some (.if_icmp .eq 7, 3, 82, 0, 0, 0, 0, 0, 0) := cd_of gl_230 rfl
theorem cd_230_78 : sm_cd 230 78 = some (.iload_n 2, 1, 2, 0, 0, 0, 0, 0, 0) := cd_of gl_230 rfl
theorem cd_230_79 : sm_cd 230 79 = some (.iload_n 3, 1, 3, 0, 0, 0, 0, 0, 0) := cd_of gl_230 rfl
theorem cd_230_80 : sm_cd 230 80 = some (.iadd, 1, 0, 0, 0, 0, 0, 0, 0) := cd_of gl_230 rfl
theorem cd_230_81 : sm_cd 230 81 = some (.ireturn, 1, 0, 0, 1, 0, 0, 0, 0) := cd_of gl_230 rfl
theorem cd_230_82 : sm_cd 230 82 = some (.iinc 3 1, 3, 3, 0, 0, 0, 0, 1, 0) := cd_of gl_230 rfl
theorem cd_230_85 : sm_cd 230 85 = some (.goto (-34), 3, 51, 0, 0, 0, 0, 0, 0) := cd_of gl_230 rfl
theorem cd_230_88 : sm_cd 230 88 = some (.iinc 2 4, 3, 2, 0, 0, 0, 0, 4, 0) := cd_of gl_230 rfl
theorem cd_230_91 : sm_cd 230 91 = some (.goto (-89), 3, 2, 0, 0, 0, 0, 0, 0) := cd_of gl_230 rfl
theorem cd_230_94 : sm_cd 230 94 = some (.iconst (-1), 1, 0, 0, 0, 0, 0, (-1), 0) := cd_of gl_230 rfl
theorem cd_230_95 : sm_cd 230 95 = some (.ireturn, 1, 0, 0, 1, 0, 0, 0, 0) := cd_of gl_230 rfl
noncomputable def f_230_51 (K : Nat → Value) (k : Nat) (d : Nat) (r2 : Nat → Int32 → Int32 → aW → aI → aJ → Option aR) : Nat → Int32 → Int32 → Int32 → aW → aI → aJ → Option aR :=
  match k with
  | 0 => fun _ _ _ _ _ _ _ => none
  | k + 1 => fun l0 l1 l2 l3 w I J =>
  lt_ (f_230_51 K k d r2) fun r51 =>
  if 4 ≤ l3 then
    lt_ (l2 + 4) fun x_1 =>
    r2 l0 l1 x_1 w I J
  else
    gO w 6 l0 (
    gV w l0 46 fun q_2 =>
    gA w 10 20 q_2 (((40 * l1) + l2) + l3) (
    gO w 6 l0 (
    gV w l0 40 fun q_3 =>
    gA w 10 20 q_3 l3 (
    if (I q_2 (((40 * l1) + l2) + l3 : Int32).toNatClampNeg) = (I q_3 (l3 : Int32).toNatClampNeg) then
      lt_ (l3 + 1) fun x_4 =>
      r51 l0 l1 l2 x_4 w I J
    else
      some (some (.int (l2 + l3)), w, I, J)))))
theorem ok_230_51 {K : Nat → Value} {d : Nat} {r2 : Nat → Int32 → Int32 → aW → aI → aJ → Option aR} (hr2 : ∀ (l0 : Nat) (l1 : Int32) (l2 : Int32) (w : aW) (I : aI) (J : aJ) (R : aR), r2 l0 l1 l2 w I J = some R → Go K (d + 1) 230 2 [some (.ref l0), some (.int l1), some (.int l2), none] [] w I J R) : ∀ {k : Nat} {l0 : Nat} {l1 : Int32} {l2 : Int32} {l3 : Int32} {w : aW} {I : aI} {J : aJ} {R : aR}, f_230_51 K k d r2 l0 l1 l2 l3 w I J = some R → Go K (d + 1) 230 51 [some (.ref l0), some (.int l1), some (.int l2), some (.int l3)] [] w I J R := by
  intro k
  induction k with
  | zero => intro l0 l1 l2 l3 w I J R h; cases h
  | succ k ih =>
    intro l0 l1 l2 l3 w I J R h
    have hr51 : ∀ (l0 : Nat) (l1 : Int32) (l2 : Int32) (l3 : Int32) (w : aW) (I : aI) (J : aJ) (R : aR), f_230_51 K k d r2 l0 l1 l2 l3 w I J = some R → Go K (d + 1) 230 51 [some (.ref l0), some (.int l1), some (.int l2), some (.int l3)] [] w I J R := fun l0 l1 l2 l3 w I J R h => ih h
    rw [f_230_51] at h
    obtain ⟨r51, hx, h⟩ := lt_s_ h
    rw [hx] at hr51
    clear hx ih
    refine gs_0 (pc' := 52) (L' := [some (.ref l0), some (.int l1), some (.int l2), some (.int l3)]) (st' := [.int l3]) cd_230_51 rfl rfl ?_
    refine gs_0 (pc' := 53) (L' := [some (.ref l0), some (.int l1), some (.int l2), some (.int l3)]) (st' := [.int 4, .int l3]) cd_230_52 rfl rfl ?_
    refine gs_0 (pc' := if 4 ≤ l3 then 88 else 56) (L' := [some (.ref l0), some (.int l1), some (.int l2), some (.int l3)]) (st' := []) cd_230_53 rfl rfl ?_
    refine go_ite (fun hc => ?_) (fun hc => ?_)
    · rw [if_pos hc] at h
      refine gs_0 (pc' := 91) (L' := [some (.ref l0), some (.int l1), some (.int (l2 + 4)), some (.int l3)]) (st' := []) cd_230_88 rfl rfl ?_
      obtain ⟨x_1, hx, h⟩ := lt_s_ h
      rw [hx]
      clear hx
      refine gs_0 (pc' := 2) (L' := [some (.ref l0), some (.int l1), some (.int x_1), some (.int l3)]) (st' := []) cd_230_91 rfl rfl ?_
      refine go_drop [some (.ref l0), some (.int l1), some (.int x_1), none] ⟨rfl, ⟨rfl, ⟨rfl, ⟨rfl, trivial⟩⟩⟩⟩ ?_
      exact hr2 l0 l1 x_1 _ _ _ _ h
    · rw [if_neg hc] at h
      refine gs_0 (pc' := 57) (L' := [some (.ref l0), some (.int l1), some (.int l2), some (.int l3)]) (st' := [.ref l0]) cd_230_56 rfl rfl ?_
      obtain ⟨ht, h⟩ := gO_s h
      obtain ⟨q_2, hv, h⟩ := gV_s h
      refine gs_gfR cd_230_57 (by decide) ht hv ?_
      refine gs_0 (pc' := 62) (L' := [some (.ref l0), some (.int l1), some (.int l2), some (.int l3)]) (st' := [.int 40, .ref q_2]) cd_230_60 rfl rfl ?_
      refine gs_0 (pc' := 63) (L' := [some (.ref l0), some (.int l1), some (.int l2), some (.int l3)]) (st' := [.int l1, .int 40, .ref q_2]) cd_230_62 rfl rfl ?_
      refine gs_0 (pc' := 64) (L' := [some (.ref l0), some (.int l1), some (.int l2), some (.int l3)]) (st' := [.int (40 * l1), .ref q_2]) cd_230_63 rfl rfl ?_
      refine gs_0 (pc' := 65) (L' := [some (.ref l0), some (.int l1), some (.int l2), some (.int l3)]) (st' := [.int l2, .int (40 * l1), .ref q_2]) cd_230_64 rfl rfl ?_
      refine gs_0 (pc' := 66) (L' := [some (.ref l0), some (.int l1), some (.int l2), some (.int l3)]) (st' := [.int ((40 * l1) + l2), .ref q_2]) cd_230_65 rfl rfl ?_
      refine gs_0 (pc' := 67) (L' := [some (.ref l0), some (.int l1), some (.int l2), some (.int l3)]) (st' := [.int l3, .int ((40 * l1) + l2), .ref q_2]) cd_230_66 rfl rfl ?_
      refine gs_0 (pc' := 68) (L' := [some (.ref l0), some (.int l1), some (.int l2), some (.int l3)]) (st' := [.int (((40 * l1) + l2) + l3), .ref q_2]) cd_230_67 rfl rfl ?_
      obtain ⟨ht, h⟩ := gA_s h
      refine gs_iald cd_230_68 ht ?_
      refine gs_0 (pc' := 70) (L' := [some (.ref l0), some (.int l1), some (.int l2), some (.int l3)]) (st' := [.ref l0, .int (I q_2 (((40 * l1) + l2) + l3 : Int32).toNatClampNeg)]) cd_230_69 rfl rfl ?_
      obtain ⟨ht, h⟩ := gO_s h
      obtain ⟨q_3, hv, h⟩ := gV_s h
      refine gs_gfR cd_230_70 (by decide) ht hv ?_
      refine gs_0 (pc' := 74) (L' := [some (.ref l0), some (.int l1), some (.int l2), some (.int l3)]) (st' := [.int l3, .ref q_3, .int (I q_2 (((40 * l1) + l2) + l3 : Int32).toNatClampNeg)]) cd_230_73 rfl rfl ?_
      obtain ⟨ht, h⟩ := gA_s h
      refine gs_iald cd_230_74 ht ?_
      refine gs_0 (pc' := if (I q_2 (((40 * l1) + l2) + l3 : Int32).toNatClampNeg) = (I q_3 (l3 : Int32).toNatClampNeg) then 82 else 78) (L' := [some (.ref l0), some (.int l1), some (.int l2), some (.int l3)]) (st' := []) cd_230_75 rfl rfl ?_
      refine go_ite (fun hc => ?_) (fun hc => ?_)
      · rw [if_pos hc] at h
        refine gs_0 (pc' := 85) (L' := [some (.ref l0), some (.int l1), some (.int l2), some (.int (l3 + 1))]) (st' := []) cd_230_82 rfl rfl ?_
        obtain ⟨x_4, hx, h⟩ := lt_s_ h
        rw [hx]
        clear hx
        refine gs_0 (pc' := 51) (L' := [some (.ref l0), some (.int l1), some (.int l2), some (.int x_4)]) (st' := []) cd_230_85 rfl rfl ?_
        exact hr51 l0 l1 l2 x_4 _ _ _ _ h
      · rw [if_neg hc] at h
        refine gs_0 (pc' := 79) (L' := [some (.ref l0), some (.int l1), some (.int l2), some (.int l3)]) (st' := [.int l2]) cd_230_78 rfl rfl ?_
        refine gs_0 (pc' := 80) (L' := [some (.ref l0), some (.int l1), some (.int l2), some (.int l3)]) (st' := [.int l3, .int l2]) cd_230_79 rfl rfl ?_
        refine gs_0 (pc' := 81) (L' := [some (.ref l0), some (.int l1), some (.int l2), some (.int l3)]) (st' := [.int (l2 + l3)]) cd_230_80 rfl rfl ?_
        cases h
        exact gs_ri cd_230_81 (Or.inl rfl)
noncomputable def f_230_47 (K : Nat → Value) (k d : Nat) (r2 : Nat → Int32 → Int32 → aW → aI → aJ → Option aR) (l0 : Nat) (l1 : Int32) (l2 : Int32) (w : aW) (I : aI) (J : aJ) : Option aR :=
  some (some (.int l2), w, I, J)
theorem ok_230_47 {K : Nat → Value} {k d : Nat} {r2 : Nat → Int32 → Int32 → aW → aI → aJ → Option aR} (hr2 : ∀ (l0 : Nat) (l1 : Int32) (l2 : Int32) (w : aW) (I : aI) (J : aJ) (R : aR), r2 l0 l1 l2 w I J = some R → Go K (d + 1) 230 2 [some (.ref l0), some (.int l1), some (.int l2), none] [] w I J R) {l0 : Nat} {l1 : Int32} {l2 : Int32} {w : aW} {I : aI} {J : aJ} {R : aR} (h : f_230_47 K k d r2 l0 l1 l2 w I J = some R) : Go K (d + 1) 230 47 [some (.ref l0), some (.int l1), some (.int l2), none] [] w I J R := by
  unfold f_230_47 at h
  refine gs_0 (pc' := 48) (L' := [some (.ref l0), some (.int l1), some (.int l2), none]) (st' := [.int l2]) cd_230_47 rfl rfl ?_
  cases h
  exact gs_ri cd_230_48 (Or.inl rfl)
noncomputable def f_230_2 (K : Nat → Value) (k : Nat) (d : Nat) : Nat → Int32 → Int32 → aW → aI → aJ → Option aR :=
  match k with
  | 0 => fun _ _ _ _ _ _ => none
  | k + 1 => fun l0 l1 l2 w I J =>
  lt_ (f_230_2 K k d) fun r2 =>
  gO w 6 l0 (
  gV w l0 45 fun q_1 =>
  gA w 10 20 q_1 l1 (
  if (I q_1 (l1 : Int32).toNatClampNeg) ≤ l2 then
    some (some (.int (-1)), w, I, J)
  else
    gO w 6 l0 (
    gV w l0 45 fun q_2 =>
    gA w 10 20 q_2 l1 (
    if (l2 + 4) ≤ (I q_2 (l1 : Int32).toNatClampNeg) then
      gO w 6 l0 (
      gV w l0 36 fun q_3 =>
      gA w 10 20 q_3 0 (
      if ¬ (I q_3 (0 : Int32).toNatClampNeg) = 0 then
        f_230_47 K k d r2 l0 l1 l2 w I J
      else
        gO w 6 l0 (
        cI (Cl K d 178 [.ref l0] w I J) fun x_7 w_4 I_5 J_6 =>
        if ¬ x_7 = 0 then
          f_230_51 K k d r2 l0 l1 l2 0 w_4 I_5 J_6
        else
          f_230_47 K k d r2 l0 l1 l2 w_4 I_5 J_6)))
    else
      gO w 6 l0 (
      gV w l0 45 fun q_8 =>
      gA w 10 20 q_8 l1 (
      some (some (.int (I q_8 (l1 : Int32).toNatClampNeg)), w, I, J)))))))
theorem ok_230_2 {K : Nat → Value} {d : Nat} : ∀ {k : Nat} {l0 : Nat} {l1 : Int32} {l2 : Int32} {w : aW} {I : aI} {J : aJ} {R : aR}, f_230_2 K k d l0 l1 l2 w I J = some R → Go K (d + 1) 230 2 [some (.ref l0), some (.int l1), some (.int l2), none] [] w I J R := by
  intro k
  induction k with
  | zero => intro l0 l1 l2 w I J R h; cases h
  | succ k ih =>
    intro l0 l1 l2 w I J R h
    have hr2 : ∀ (l0 : Nat) (l1 : Int32) (l2 : Int32) (w : aW) (I : aI) (J : aJ) (R : aR), f_230_2 K k d l0 l1 l2 w I J = some R → Go K (d + 1) 230 2 [some (.ref l0), some (.int l1), some (.int l2), none] [] w I J R := fun l0 l1 l2 w I J R h => ih h
    rw [f_230_2] at h
    obtain ⟨r2, hx, h⟩ := lt_s_ h
    rw [hx] at hr2
    clear hx ih
    refine gs_0 (pc' := 3) (L' := [some (.ref l0), some (.int l1), some (.int l2), none]) (st' := [.int l2]) cd_230_2 rfl rfl ?_
    refine gs_0 (pc' := 4) (L' := [some (.ref l0), some (.int l1), some (.int l2), none]) (st' := [.ref l0, .int l2]) cd_230_3 rfl rfl ?_
    obtain ⟨ht, h⟩ := gO_s h
    obtain ⟨q_1, hv, h⟩ := gV_s h
    refine gs_gfR cd_230_4 (by decide) ht hv ?_
    refine gs_0 (pc' := 8) (L' := [some (.ref l0), some (.int l1), some (.int l2), none]) (st' := [.int l1, .ref q_1, .int l2]) cd_230_7 rfl rfl ?_
    obtain ⟨ht, h⟩ := gA_s h
    refine gs_iald cd_230_8 ht ?_
    refine gs_0 (pc' := if (I q_1 (l1 : Int32).toNatClampNeg) ≤ l2 then 94 else 12) (L' := [some (.ref l0), some (.int l1), some (.int l2), none]) (st' := []) cd_230_9 rfl rfl ?_
    refine go_ite (fun hc => ?_) (fun hc => ?_)
    · rw [if_pos hc] at h
      refine gs_0 (pc' := 95) (L' := [some (.ref l0), some (.int l1), some (.int l2), none]) (st' := [.int ((-1))]) cd_230_94 rfl rfl ?_
      cases h
      exact gs_ri cd_230_95 (Or.inl rfl)
    · rw [if_neg hc] at h
      refine gs_0 (pc' := 13) (L' := [some (.ref l0), some (.int l1), some (.int l2), none]) (st' := [.int l2]) cd_230_12 rfl rfl ?_
      refine gs_0 (pc' := 14) (L' := [some (.ref l0), some (.int l1), some (.int l2), none]) (st' := [.int 4, .int l2]) cd_230_13 rfl rfl ?_
      refine gs_0 (pc' := 15) (L' := [some (.ref l0), some (.int l1), some (.int l2), none]) (st' := [.int (l2 + 4)]) cd_230_14 rfl rfl ?_
      refine gs_0 (pc' := 16) (L' := [some (.ref l0), some (.int l1), some (.int l2), none]) (st' := [.ref l0, .int (l2 + 4)]) cd_230_15 rfl rfl ?_
      obtain ⟨ht, h⟩ := gO_s h
      obtain ⟨q_2, hv, h⟩ := gV_s h
      refine gs_gfR cd_230_16 (by decide) ht hv ?_
      refine gs_0 (pc' := 20) (L' := [some (.ref l0), some (.int l1), some (.int l2), none]) (st' := [.int l1, .ref q_2, .int (l2 + 4)]) cd_230_19 rfl rfl ?_
      obtain ⟨ht, h⟩ := gA_s h
      refine gs_iald cd_230_20 ht ?_
      refine gs_0 (pc' := if (l2 + 4) ≤ (I q_2 (l1 : Int32).toNatClampNeg) then 31 else 24) (L' := [some (.ref l0), some (.int l1), some (.int l2), none]) (st' := []) cd_230_21 rfl rfl ?_
      refine go_ite (fun hc => ?_) (fun hc => ?_)
      · rw [if_pos hc] at h
        refine gs_0 (pc' := 32) (L' := [some (.ref l0), some (.int l1), some (.int l2), none]) (st' := [.ref l0]) cd_230_31 rfl rfl ?_
        obtain ⟨ht, h⟩ := gO_s h
        obtain ⟨q_3, hv, h⟩ := gV_s h
        refine gs_gfR cd_230_32 (by decide) ht hv ?_
        refine gs_0 (pc' := 36) (L' := [some (.ref l0), some (.int l1), some (.int l2), none]) (st' := [.int 0, .ref q_3]) cd_230_35 rfl rfl ?_
        obtain ⟨ht, h⟩ := gA_s h
        refine gs_iald cd_230_36 ht ?_
        refine gs_0 (pc' := if ¬ (I q_3 (0 : Int32).toNatClampNeg) = 0 then 47 else 40) (L' := [some (.ref l0), some (.int l1), some (.int l2), none]) (st' := []) cd_230_37 rfl rfl ?_
        refine go_ite (fun hc => ?_) (fun hc => ?_)
        · rw [if_pos hc] at h
          exact ok_230_47 hr2 h
        · rw [if_neg hc] at h
          refine gs_0 (pc' := 41) (L' := [some (.ref l0), some (.int l1), some (.int l2), none]) (st' := [.ref l0]) cd_230_40 rfl rfl ?_
          obtain ⟨ht, h⟩ := gO_s h
          obtain ⟨x_7, w_4, I_5, J_6, hcl, h⟩ := cI_s h
          refine gs_call (as := [.ref l0]) (rest := []) cd_230_41 rfl (by decide) rfl (sm_rv_ok (by decide) ht) (Nat.le_of_ble_eq_true rfl) (Nat.le_of_ble_eq_true rfl) rfl hcl ?_
          refine gs_0 (pc' := if ¬ x_7 = 0 then 49 else 47) (L' := [some (.ref l0), some (.int l1), some (.int l2), none]) (st' := []) cd_230_44 rfl rfl ?_
          refine go_ite (fun hc => ?_) (fun hc => ?_)
          · rw [if_pos hc] at h
            refine gs_0 (pc' := 50) (L' := [some (.ref l0), some (.int l1), some (.int l2), none]) (st' := [.int 0]) cd_230_49 rfl rfl ?_
            refine gs_0 (pc' := 51) (L' := [some (.ref l0), some (.int l1), some (.int l2), some (.int 0)]) (st' := []) cd_230_50 rfl rfl ?_
            exact ok_230_51 hr2 h
          · rw [if_neg hc] at h
            exact ok_230_47 hr2 h
      · rw [if_neg hc] at h
        refine gs_0 (pc' := 25) (L' := [some (.ref l0), some (.int l1), some (.int l2), none]) (st' := [.ref l0]) cd_230_24 rfl rfl ?_
        obtain ⟨ht, h⟩ := gO_s h
        obtain ⟨q_8, hv, h⟩ := gV_s h
        refine gs_gfR cd_230_25 (by decide) ht hv ?_
        refine gs_0 (pc' := 29) (L' := [some (.ref l0), some (.int l1), some (.int l2), none]) (st' := [.int l1, .ref q_8]) cd_230_28 rfl rfl ?_
        obtain ⟨ht, h⟩ := gA_s h
        refine gs_iald cd_230_29 ht ?_
        cases h
        exact gs_ri cd_230_30 (Or.inl rfl)
noncomputable def f_230 (K : Nat → Value) (k d : Nat) (l0 : Nat) (l1 : Int32) (w : aW) (I : aI) (J : aJ) : Option aR :=
  f_230_2 K k d l0 l1 0 w I J
theorem ok_230 {K : Nat → Value} {k d : Nat} {l0 : Nat} {l1 : Int32} {w : aW} {I : aI} {J : aJ} {R : aR} (h : f_230 K k d l0 l1 w I J = some R) : Go K (d + 1) 230 0 [some (.ref l0), some (.int l1), none, none] [] w I J R := by
  unfold f_230 at h
  refine gs_0 (pc' := 1) (L' := [some (.ref l0), some (.int l1), none, none]) (st' := [.int 0]) cd_230_0 rfl rfl ?_
  refine gs_0 (pc' := 2) (L' := [some (.ref l0), some (.int l1), some (.int 0), none]) (st' := []) cd_230_1 rfl rfl ?_
  exact ok_230_2 h
theorem cl_230 {K : Nat → Value} {k d : Nat} {l0 : Nat} {l1 : Int32} {w : aW} {I : aI} {J : aJ} {R : aR} (h : f_230 K k d l0 l1 w I J = some R) : Cl K (d + 1) 230 [.ref l0, .int l1] w I J = some R := Cl_of (ok_230 h)
/-! ProvedMachine.sheet(III)J -/
set_option maxRecDepth 20000 in
theorem gl_231 : gcd.lookup 231 = some gw_231 := rfl
theorem cd_231_0 : sm_cd 231 0 = some (.iload_n 1, 1, 1, 0, 0, 0, 0, 0, 0) := cd_of gl_231 rfl
theorem cd_231_1 : sm_cd 231 1 = some (.invokestatic 160, 3, 223, 1, 1, 1, 5, 0, 0) := cd_of gl_231 rfl
theorem cd_231_4 : sm_cd 231 4 = some (.ifCond .eq 25, 3, 29, 0, 0, 0, 0, 0, 0) := cd_of gl_231 rfl
theorem cd_231_7 : sm_cd 231 7 = some (.iload_n 2, 1, 2, 0, 0, 0, 0, 0, 0) := cd_of gl_231 rfl
theorem cd_231_8 : sm_cd 231 8 = some (.ifCond .eq 27, 3, 35, 0, 0, 0, 0, 0, 0) := cd_of gl_231 rfl
theorem cd_231_11 : sm_cd 231 11 = some (.iload_n 2, 1, 2, 0, 0, 0, 0, 0, 0) := cd_of gl_231 rfl
theorem cd_231_12 : sm_cd 231 12 = some (.bipush 8, 2, 0, 0, 0, 0, 0, 8, 0) := cd_of gl_231 rfl
theorem cd_231_14 : sm_cd 231 14 = some (.if_icmp .eq 21, 3, 35, 0, 0, 0, 0, 0, 0) := cd_of gl_231 rfl
theorem cd_231_17 : sm_cd 231 17 = some (.iload_n 2, 1, 2, 0, 0, 0, 0, 0, 0) := cd_of gl_231 rfl
theorem cd_231_18 : sm_cd 231 18 = some (.bipush 16, 2, 0, 0, 0, 0, 0, 16, 0) := cd_of gl_231 rfl
theorem cd_231_20 : sm_cd 231 20 = some (.if_icmp .eq 15, 3, 35, 0, 0, 0, 0, 0, 0) := cd_of gl_231 rfl
theorem cd_231_23 : sm_cd 231 23 = some (.iload_n 2, 1, 2, 0, 0, 0, 0, 0, 0) := cd_of gl_231 rfl
theorem cd_231_24 : sm_cd 231 24 = some (.bipush 32, 2, 0, 0, 0, 0, 0, 32, 0) := cd_of gl_231 rfl
theorem cd_231_26 : sm_cd 231 26 = some (.if_icmp .eq 9, 3, 35, 0, 0, 0, 0, 0, 0) := cd_of gl_231 rfl
theorem cd_231_29 : sm_cd 231 29 = some (.aload_n 0, 1, 0, 0, 0, 0, 0, 0, 0) := cd_of gl_231 rfl
theorem cd_231_30 : sm_cd 231 30 = some (.iconst 1, 1, 0, 0, 0, 0, 0, 1, 0) := cd_of gl_231 rfl
theorem cd_231_31 : sm_cd 231 31 = some (.invokevirtual 60, 3, 17, 0, 1, 2, 5, 0, 0) := cd_of gl_231 rfl
theorem cd_231_34 : sm_cd 231 34 = some (.lreturn, 1, 0, 0, 0, 0, 0, 0, 0) := cd_of gl_231 rfl
theorem cd_231_35 : sm_cd 231 35 = some (.iload_n 3, 1, 3, 0, 0, 0, 0, 0, 0) := cd_of gl_231 rfl
theorem cd_231_36 : sm_cd 231 36 = some (.ifCond .ge 9, 3, 45, 0, 0, 0, 0, 0, 0) := cd_of gl_231 rfl
theorem cd_231_39 : sm_cd 231 39 = some (.aload_n 0, 1, 0, 0, 0, 0, 0, 0, 0) := cd_of gl_231 rfl
theorem cd_231_40 : sm_cd 231 40 = some (.iconst 3, 1, 0, 0, 0, 0, 0, 3, 0) := cd_of gl_231 rfl
theorem cd_231_41 : sm_cd 231 41 = some (.invokevirtual 60, 3, 17, 0, 1, 2, 5, 0, 0) := cd_of gl_231 rfl
theorem cd_231_44 : sm_cd 231 44 = some (.lreturn, 1, 0, 0, 0, 0, 0, 0, 0) := cd_of gl_231 rfl
theorem cd_231_45 : sm_cd 231 45 = some (.iload_n 3, 1, 3, 0, 0, 0, 0, 0, 0) := cd_of gl_231 rfl
theorem cd_231_46 : sm_cd 231 46 = some (.bipush 40, 2, 0, 0, 0, 0, 0, 40, 0) := cd_of gl_231 rfl
theorem cd_231_48 : sm_cd 231 48 = some (.if_icmp .le 9, 3, 57, 0, 0, 0, 0, 0, 0) := cd_of gl_231 rfl
theorem cd_231_51 : sm_cd 231 51 = some (.aload_n 0, 1, 0, 0, 0, 0, 0, 0, 0) := cd_of gl_231 rfl
theorem cd_231_52 : sm_cd 231 52 = some (.iconst 1, 1, 0, 0, 0, 0, 0, 1, 0) := cd_of gl_231 rfl
theorem cd_231_53 : sm_cd 231 53 = some (.invokevirtual 60, 3, 17, 0, 1, 2, 5, 0, 0) := cd_of gl_231 rfl
theorem cd_231_56 : sm_cd 231 56 = some (.lreturn, 1, 0, 0, 0, 0, 0, 0, 0) := cd_of gl_231 rfl
theorem cd_231_57 : sm_cd 231 57 = some (.iload_n 2, 1, 2, 0, 0, 0, 0, 0, 0) := cd_of gl_231 rfl
theorem cd_231_58 : sm_cd 231 58 = some (.ifCond .ne 7, 3, 65, 0, 0, 0, 0, 0, 0) := cd_of gl_231 rfl
theorem cd_231_61 : sm_cd 231 61 = some (.iconst 0, 1, 0, 0, 0, 0, 0, 0, 0) := cd_of gl_231 rfl
theorem cd_231_62 : sm_cd 231 62 = some (.goto 4, 3, 66, 0, 0, 0, 0, 0, 0) := cd_of gl_231 rfl
theorem cd_231_65 : sm_cd 231 65 = some (.iload_n 3, 1, 3, 0, 0, 0, 0, 0, 0) := cd_of gl_231 rfl
theorem cd_231_66 : sm_cd 231 66 = some (.istore 4, 2, 4, 0, 0, 0, 0, 0, 0) := cd_of gl_231 rfl
theorem cd_231_68 : sm_cd 231 68 = some (.aload_n 0, 1, 0, 0, 0, 0, 0, 0, 0) := cd_of gl_231 rfl
theorem cd_231_69 : sm_cd 231 69 = some (.getfield 46, 3, 5, 6, 2, 0, 0, 0, 0) := cd_of gl_231 rfl
theorem cd_231_72 : sm_cd 231 72 = some (.iload_n 1, 1, 1, 0, 0, 0, 0, 0, 0) := cd_of gl_231 rfl
theorem cd_231_73 : sm_cd 231 73 = some (.aaload, 1, 0, 0, 0, 0, 0, 0, 0) := cd_of gl_231 rfl
theorem cd_231_74 : sm_cd 231 74 = some (.iload_n 2, 1, 2, 0, 0, 0, 0, 0, 0) := cd_of gl_231 rfl
theorem cd_231_75 : sm_cd 231 75 = some (.iload 4, 2, 4, 0, 0, 0, 0, 0, 0) := cd_of gl_231 rfl
theorem cd_231_77 : sm_cd 231 77 = some (.invokevirtual 176, 3, 232, 0, 2, 3, 3, 0, 0) := cd_of gl_231 rfl
theorem cd_231_80 : sm_cd 231 80 = some (.iload 4, 2, 4, 0, 0, 0, 0, 0, 0) := cd_of gl_231 rfl
theorem cd_231_82 : sm_cd 231 82 = some (.i2l, 1, 0, 0, 0, 0, 0, 0, 0) := cd_of gl_231 rfl
theorem cd_231_83 : sm_cd 231 83 = some (.lreturn, 1, 0, 0, 0, 0, 0, 0, 0) := cd_of gl_231 rfl
noncomputable def f_231_66 (K : Nat → Value) (k d : Nat) (l0 : Nat) (l1 : Int32) (l2 : Int32) (l3 : Int32) (s0 : Int32) (w : aW) (I : aI) (J : aJ) : Option aR :=
  gO w 5 l0 (
  gV w l0 6 fun q_1 =>
  gA w 14 15 q_1 l1 (
  gV w q_1 (l1 : Int32).toNatClampNeg fun q_2 =>
  gO w 3 q_2 (
  cV (Cl K d 232 [.ref q_2, .int l2, .int s0] w I J) fun w_3 I_4 J_5 =>
  some (some (.long ((s0 : Int32).toInt64)), w_3, I_4, J_5))))
theorem ok_231_66 {K : Nat → Value} {k d : Nat} {l0 : Nat} {l1 : Int32} {l2 : Int32} {l3 : Int32} {s0 : Int32} {w : aW} {I : aI} {J : aJ} {R : aR} (h : f_231_66 K k d l0 l1 l2 l3 s0 w I J = some R) : Go K (d + 1) 231 66 [some (.ref l0), some (.int l1), some (.int l2), some (.int l3), none] [.int s0] w I J R := by
  unfold f_231_66 at h
  refine gs_0 (pc' := 68) (L' := [some (.ref l0), some (.int l1), some (.int l2), some (.int l3), some (.int s0)]) (st' := []) cd_231_66 rfl rfl ?_
  refine gs_0 (pc' := 69) (L' := [some (.ref l0), some (.int l1), some (.int l2), some (.int l3), some (.int s0)]) (st' := [.ref l0]) cd_231_68 rfl rfl ?_
  obtain ⟨ht, h⟩ := gO_s h
  obtain ⟨q_1, hv, h⟩ := gV_s h
  refine gs_gfR cd_231_69 (by decide) ht hv ?_
  refine gs_0 (pc' := 73) (L' := [some (.ref l0), some (.int l1), some (.int l2), some (.int l3), some (.int s0)]) (st' := [.int l1, .ref q_1]) cd_231_72 rfl rfl ?_
  obtain ⟨ht, h⟩ := gA_s h
  obtain ⟨q_2, hv, h⟩ := gV_s h
  refine gs_rald cd_231_73 ht hv ?_
  refine gs_0 (pc' := 75) (L' := [some (.ref l0), some (.int l1), some (.int l2), some (.int l3), some (.int s0)]) (st' := [.int l2, .ref q_2]) cd_231_74 rfl rfl ?_
  refine gs_0 (pc' := 77) (L' := [some (.ref l0), some (.int l1), some (.int l2), some (.int l3), some (.int s0)]) (st' := [.int s0, .int l2, .ref q_2]) cd_231_75 rfl rfl ?_
  obtain ⟨ht, h⟩ := gO_s h
  obtain ⟨w_3, I_4, J_5, hcl, h⟩ := cV_s h
  refine gs_call (as := [.ref q_2, .int l2, .int s0]) (rest := []) cd_231_77 rfl (by decide) rfl (sm_rv_ok (by decide) ht) (Nat.le_of_ble_eq_true rfl) (Nat.le_of_ble_eq_true rfl) rfl hcl ?_
  refine gs_0 (pc' := 82) (L' := [some (.ref l0), some (.int l1), some (.int l2), some (.int l3), some (.int s0)]) (st' := [.int s0]) cd_231_80 rfl rfl ?_
  refine gs_0 (pc' := 83) (L' := [some (.ref l0), some (.int l1), some (.int l2), some (.int l3), some (.int s0)]) (st' := [.long ((s0 : Int32).toInt64)]) cd_231_82 rfl rfl ?_
  cases h
  exact gsr cd_231_83 rfl rfl
noncomputable def f_231_35 (K : Nat → Value) (k d : Nat) (l0 : Nat) (l1 : Int32) (l2 : Int32) (l3 : Int32) (w : aW) (I : aI) (J : aJ) : Option aR :=
  if 0 ≤ l3 then
    if l3 ≤ 40 then
      if ¬ l2 = 0 then
        f_231_66 K k d l0 l1 l2 l3 l3 w I J
      else
        f_231_66 K k d l0 l1 l2 l3 0 w I J
    else
      gO w 5 l0 (
      cJ (Cl K d 17 [.ref l0, .int 1] w I J) fun v_4 w_1 I_2 J_3 =>
      some (some (.long v_4), w_1, I_2, J_3))
  else
    gO w 5 l0 (
    cJ (Cl K d 17 [.ref l0, .int 3] w I J) fun v_8 w_5 I_6 J_7 =>
    some (some (.long v_8), w_5, I_6, J_7))
theorem ok_231_35 {K : Nat → Value} {k d : Nat} {l0 : Nat} {l1 : Int32} {l2 : Int32} {l3 : Int32} {w : aW} {I : aI} {J : aJ} {R : aR} (h : f_231_35 K k d l0 l1 l2 l3 w I J = some R) : Go K (d + 1) 231 35 [some (.ref l0), some (.int l1), some (.int l2), some (.int l3), none] [] w I J R := by
  unfold f_231_35 at h
  refine gs_0 (pc' := 36) (L' := [some (.ref l0), some (.int l1), some (.int l2), some (.int l3), none]) (st' := [.int l3]) cd_231_35 rfl rfl ?_
  refine gs_0 (pc' := if 0 ≤ l3 then 45 else 39) (L' := [some (.ref l0), some (.int l1), some (.int l2), some (.int l3), none]) (st' := []) cd_231_36 rfl rfl ?_
  refine go_ite (fun hc => ?_) (fun hc => ?_)
  · rw [if_pos hc] at h
    refine gs_0 (pc' := 46) (L' := [some (.ref l0), some (.int l1), some (.int l2), some (.int l3), none]) (st' := [.int l3]) cd_231_45 rfl rfl ?_
    refine gs_0 (pc' := 48) (L' := [some (.ref l0), some (.int l1), some (.int l2), some (.int l3), none]) (st' := [.int 40, .int l3]) cd_231_46 rfl rfl ?_
    refine gs_0 (pc' := if l3 ≤ 40 then 57 else 51) (L' := [some (.ref l0), some (.int l1), some (.int l2), some (.int l3), none]) (st' := []) cd_231_48 rfl rfl ?_
    refine go_ite (fun hc => ?_) (fun hc => ?_)
    · rw [if_pos hc] at h
      refine gs_0 (pc' := 58) (L' := [some (.ref l0), some (.int l1), some (.int l2), some (.int l3), none]) (st' := [.int l2]) cd_231_57 rfl rfl ?_
      refine gs_0 (pc' := if ¬ l2 = 0 then 65 else 61) (L' := [some (.ref l0), some (.int l1), some (.int l2), some (.int l3), none]) (st' := []) cd_231_58 rfl rfl ?_
      refine go_ite (fun hc => ?_) (fun hc => ?_)
      · rw [if_pos hc] at h
        refine gs_0 (pc' := 66) (L' := [some (.ref l0), some (.int l1), some (.int l2), some (.int l3), none]) (st' := [.int l3]) cd_231_65 rfl rfl ?_
        exact ok_231_66 h
      · rw [if_neg hc] at h
        refine gs_0 (pc' := 62) (L' := [some (.ref l0), some (.int l1), some (.int l2), some (.int l3), none]) (st' := [.int 0]) cd_231_61 rfl rfl ?_
        refine gs_0 (pc' := 66) (L' := [some (.ref l0), some (.int l1), some (.int l2), some (.int l3), none]) (st' := [.int 0]) cd_231_62 rfl rfl ?_
        exact ok_231_66 h
    · rw [if_neg hc] at h
      refine gs_0 (pc' := 52) (L' := [some (.ref l0), some (.int l1), some (.int l2), some (.int l3), none]) (st' := [.ref l0]) cd_231_51 rfl rfl ?_
      refine gs_0 (pc' := 53) (L' := [some (.ref l0), some (.int l1), some (.int l2), some (.int l3), none]) (st' := [.int 1, .ref l0]) cd_231_52 rfl rfl ?_
      obtain ⟨ht, h⟩ := gO_s h
      obtain ⟨v_4, w_1, I_2, J_3, hcl, h⟩ := cJ_s h
      refine gs_call (as := [.ref l0, .int 1]) (rest := []) cd_231_53 rfl (by decide) rfl (sm_rv_ok (by decide) ht) (Nat.le_of_ble_eq_true rfl) (Nat.le_of_ble_eq_true rfl) rfl hcl ?_
      cases h
      exact gsr cd_231_56 rfl rfl
  · rw [if_neg hc] at h
    refine gs_0 (pc' := 40) (L' := [some (.ref l0), some (.int l1), some (.int l2), some (.int l3), none]) (st' := [.ref l0]) cd_231_39 rfl rfl ?_
    refine gs_0 (pc' := 41) (L' := [some (.ref l0), some (.int l1), some (.int l2), some (.int l3), none]) (st' := [.int 3, .ref l0]) cd_231_40 rfl rfl ?_
    obtain ⟨ht, h⟩ := gO_s h
    obtain ⟨v_8, w_5, I_6, J_7, hcl, h⟩ := cJ_s h
    refine gs_call (as := [.ref l0, .int 3]) (rest := []) cd_231_41 rfl (by decide) rfl (sm_rv_ok (by decide) ht) (Nat.le_of_ble_eq_true rfl) (Nat.le_of_ble_eq_true rfl) rfl hcl ?_
    cases h
    exact gsr cd_231_44 rfl rfl
noncomputable def f_231_29 (K : Nat → Value) (k d : Nat) (l0 : Nat) (l1 : Int32) (l2 : Int32) (l3 : Int32) (w : aW) (I : aI) (J : aJ) : Option aR :=
  gO w 5 l0 (
  cJ (Cl K d 17 [.ref l0, .int 1] w I J) fun v_4 w_1 I_2 J_3 =>
  some (some (.long v_4), w_1, I_2, J_3))
theorem ok_231_29 {K : Nat → Value} {k d : Nat} {l0 : Nat} {l1 : Int32} {l2 : Int32} {l3 : Int32} {w : aW} {I : aI} {J : aJ} {R : aR} (h : f_231_29 K k d l0 l1 l2 l3 w I J = some R) : Go K (d + 1) 231 29 [some (.ref l0), some (.int l1), some (.int l2), some (.int l3), none] [] w I J R := by
  unfold f_231_29 at h
  refine gs_0 (pc' := 30) (L' := [some (.ref l0), some (.int l1), some (.int l2), some (.int l3), none]) (st' := [.ref l0]) cd_231_29 rfl rfl ?_
  refine gs_0 (pc' := 31) (L' := [some (.ref l0), some (.int l1), some (.int l2), some (.int l3), none]) (st' := [.int 1, .ref l0]) cd_231_30 rfl rfl ?_
  obtain ⟨ht, h⟩ := gO_s h
  obtain ⟨v_4, w_1, I_2, J_3, hcl, h⟩ := cJ_s h
  refine gs_call (as := [.ref l0, .int 1]) (rest := []) cd_231_31 rfl (by decide) rfl (sm_rv_ok (by decide) ht) (Nat.le_of_ble_eq_true rfl) (Nat.le_of_ble_eq_true rfl) rfl hcl ?_
  cases h
  exact gsr cd_231_34 rfl rfl
noncomputable def f_231 (K : Nat → Value) (k d : Nat) (l0 : Nat) (l1 : Int32) (l2 : Int32) (l3 : Int32) (w : aW) (I : aI) (J : aJ) : Option aR :=
  cI (Cl K d 223 [.int l1] w I J) fun x_4 w_1 I_2 J_3 =>
  if x_4 = 0 then
    f_231_29 K k d l0 l1 l2 l3 w_1 I_2 J_3
  else
    if l2 = 0 then
      f_231_35 K k d l0 l1 l2 l3 w_1 I_2 J_3
    else
      if l2 = 8 then
        f_231_35 K k d l0 l1 l2 l3 w_1 I_2 J_3
      else
        if l2 = 16 then
          f_231_35 K k d l0 l1 l2 l3 w_1 I_2 J_3
        else
          if l2 = 32 then
            f_231_35 K k d l0 l1 l2 l3 w_1 I_2 J_3
          else
            f_231_29 K k d l0 l1 l2 l3 w_1 I_2 J_3
theorem ok_231 {K : Nat → Value} {k d : Nat} {l0 : Nat} {l1 : Int32} {l2 : Int32} {l3 : Int32} {w : aW} {I : aI} {J : aJ} {R : aR} (h : f_231 K k d l0 l1 l2 l3 w I J = some R) : Go K (d + 1) 231 0 [some (.ref l0), some (.int l1), some (.int l2), some (.int l3), none] [] w I J R := by
  unfold f_231 at h
  refine gs_0 (pc' := 1) (L' := [some (.ref l0), some (.int l1), some (.int l2), some (.int l3), none]) (st' := [.int l1]) cd_231_0 rfl rfl ?_
  obtain ⟨x_4, w_1, I_2, J_3, hcl, h⟩ := cI_s h
  refine gs_call (as := [.int l1]) (rest := []) cd_231_1 rfl (by decide) rfl rfl (Nat.le_of_ble_eq_true rfl) (Nat.le_of_ble_eq_true rfl) rfl hcl ?_
  refine gs_0 (pc' := if x_4 = 0 then 29 else 7) (L' := [some (.ref l0), some (.int l1), some (.int l2), some (.int l3), none]) (st' := []) cd_231_4 rfl rfl ?_
  refine go_ite (fun hc => ?_) (fun hc => ?_)
  · rw [if_pos hc] at h
    exact ok_231_29 h
  · rw [if_neg hc] at h
    refine gs_0 (pc' := 8) (L' := [some (.ref l0), some (.int l1), some (.int l2), some (.int l3), none]) (st' := [.int l2]) cd_231_7 rfl rfl ?_
    refine gs_0 (pc' := if l2 = 0 then 35 else 11) (L' := [some (.ref l0), some (.int l1), some (.int l2), some (.int l3), none]) (st' := []) cd_231_8 rfl rfl ?_
    refine go_ite (fun hc => ?_) (fun hc => ?_)
    · rw [if_pos hc] at h
      exact ok_231_35 h
    · rw [if_neg hc] at h
      refine gs_0 (pc' := 12) (L' := [some (.ref l0), some (.int l1), some (.int l2), some (.int l3), none]) (st' := [.int l2]) cd_231_11 rfl rfl ?_
      refine gs_0 (pc' := 14) (L' := [some (.ref l0), some (.int l1), some (.int l2), some (.int l3), none]) (st' := [.int 8, .int l2]) cd_231_12 rfl rfl ?_
      refine gs_0 (pc' := if l2 = 8 then 35 else 17) (L' := [some (.ref l0), some (.int l1), some (.int l2), some (.int l3), none]) (st' := []) cd_231_14 rfl rfl ?_
      refine go_ite (fun hc => ?_) (fun hc => ?_)
      · rw [if_pos hc] at h
        exact ok_231_35 h
      · rw [if_neg hc] at h
        refine gs_0 (pc' := 18) (L' := [some (.ref l0), some (.int l1), some (.int l2), some (.int l3), none]) (st' := [.int l2]) cd_231_17 rfl rfl ?_
        refine gs_0 (pc' := 20) (L' := [some (.ref l0), some (.int l1), some (.int l2), some (.int l3), none]) (st' := [.int 16, .int l2]) cd_231_18 rfl rfl ?_
        refine gs_0 (pc' := if l2 = 16 then 35 else 23) (L' := [some (.ref l0), some (.int l1), some (.int l2), some (.int l3), none]) (st' := []) cd_231_20 rfl rfl ?_
        refine go_ite (fun hc => ?_) (fun hc => ?_)
        · rw [if_pos hc] at h
          exact ok_231_35 h
        · rw [if_neg hc] at h
          refine gs_0 (pc' := 24) (L' := [some (.ref l0), some (.int l1), some (.int l2), some (.int l3), none]) (st' := [.int l2]) cd_231_23 rfl rfl ?_
          refine gs_0 (pc' := 26) (L' := [some (.ref l0), some (.int l1), some (.int l2), some (.int l3), none]) (st' := [.int 32, .int l2]) cd_231_24 rfl rfl ?_
          refine gs_0 (pc' := if l2 = 32 then 35 else 29) (L' := [some (.ref l0), some (.int l1), some (.int l2), some (.int l3), none]) (st' := []) cd_231_26 rfl rfl ?_
          refine go_ite (fun hc => ?_) (fun hc => ?_)
          · rw [if_pos hc] at h
            exact ok_231_35 h
          · rw [if_neg hc] at h
            exact ok_231_29 h
theorem cl_231 {K : Nat → Value} {k d : Nat} {l0 : Nat} {l1 : Int32} {l2 : Int32} {l3 : Int32} {w : aW} {I : aI} {J : aJ} {R : aR} (h : f_231 K k d l0 l1 l2 l3 w I J = some R) : Cl K (d + 1) 231 [.ref l0, .int l1, .int l2, .int l3] w I J = some R := Cl_of (ok_231 h)
/-! ProvedMachine$Sheet.lay(II)V -/
set_option maxRecDepth 20000 in
theorem gl_232 : gcd.lookup 232 = some gw_232 := rfl
theorem cd_232_0 : sm_cd 232 0 = some (.aload_n 0, 1, 0, 0, 0, 0, 0, 0, 0) := cd_of gl_232 rfl
theorem cd_232_1 : sm_cd 232 1 = some (.iload_n 1, 1, 1, 0, 0, 0, 0, 0, 0) := cd_of gl_232 rfl
theorem cd_232_2 : sm_cd 232 2 = some (.putfield 13, 3, 3, 1, 0, 0, 0, 0, 0) := cd_of gl_232 rfl
theorem cd_232_5 : sm_cd 232 5 = some (.aload_n 0, 1, 0, 0, 0, 0, 0, 0, 0) := cd_of gl_232 rfl
theorem cd_232_6 : sm_cd 232 6 = some (.iload_n 2, 1, 2, 0, 0, 0, 0, 0, 0) := cd_of gl_232 rfl
theorem cd_232_7 : sm_cd 232 7 = some (.putfield 17, 3, 3, 2, 0, 0, 0, 0, 0) := cd_of gl_232 rfl
theorem cd_232_10 : sm_cd 232 10 = some (.aload_n 0, 1, 0, 0, 0, 0, 0, 0, 0) := cd_of gl_232 rfl
theorem cd_232_11 : sm_cd 232 11 = some (.getfield 9, 3, 3, 0, 2, 0, 0, 0, 0) := cd_of gl_232 rfl
theorem cd_232_14 : sm_cd 232 14 = some (.iconst 0, 1, 0, 0, 0, 0, 0, 0, 0) := cd_of gl_232 rfl
theorem cd_232_15 : sm_cd 232 15 = some (.invokestatic 20, 3, 36, 1, 2, 4, 10, 0, 0) := cd_of gl_232 rfl
theorem cd_232_18 : sm_cd 232 18 = some (.return_, 1, 0, 0, 0, 0, 0, 0, 0) := cd_of gl_232 rfl
noncomputable def f_232 (K : Nat → Value) (k d : Nat) (l0 : Nat) (l1 : Int32) (l2 : Int32) (w : aW) (I : aI) (J : aJ) : Option aR :=
  gO w 3 l0 (
  lt_ (sm_up2 I l0 1 l1) fun I_1 =>
  gO w 3 l0 (
  lt_ (sm_up2 I_1 l0 2 l2) fun I_2 =>
  gO w 3 l0 (
  gV w l0 0 fun q_3 =>
  cV (Cl K d 36 [.ref q_3, .int 0] w I_2 J) fun w_4 I_5 J_6 =>
  some (none, w_4, I_5, J_6))))
theorem ok_232 {K : Nat → Value} {k d : Nat} {l0 : Nat} {l1 : Int32} {l2 : Int32} {w : aW} {I : aI} {J : aJ} {R : aR} (h : f_232 K k d l0 l1 l2 w I J = some R) : Go K (d + 1) 232 0 [some (.ref l0), some (.int l1), some (.int l2)] [] w I J R := by
  unfold f_232 at h
  refine gs_0 (pc' := 1) (L' := [some (.ref l0), some (.int l1), some (.int l2)]) (st' := [.ref l0]) cd_232_0 rfl rfl ?_
  refine gs_0 (pc' := 2) (L' := [some (.ref l0), some (.int l1), some (.int l2)]) (st' := [.int l1, .ref l0]) cd_232_1 rfl rfl ?_
  obtain ⟨ht, h⟩ := gO_s h
  refine gs_pfI cd_232_2 (by decide) (Or.inl rfl) ht ?_
  obtain ⟨I_1, hx, h⟩ := lt_s_ h
  rw [hx]
  refine gs_0 (pc' := 6) (L' := [some (.ref l0), some (.int l1), some (.int l2)]) (st' := [.ref l0]) cd_232_5 rfl rfl ?_
  refine gs_0 (pc' := 7) (L' := [some (.ref l0), some (.int l1), some (.int l2)]) (st' := [.int l2, .ref l0]) cd_232_6 rfl rfl ?_
  obtain ⟨ht, h⟩ := gO_s h
  refine gs_pfI cd_232_7 (by decide) (Or.inl rfl) ht ?_
  obtain ⟨I_2, hx, h⟩ := lt_s_ h
  rw [hx]
  refine gs_0 (pc' := 11) (L' := [some (.ref l0), some (.int l1), some (.int l2)]) (st' := [.ref l0]) cd_232_10 rfl rfl ?_
  obtain ⟨ht, h⟩ := gO_s h
  obtain ⟨q_3, hv, h⟩ := gV_s h
  refine gs_gfR cd_232_11 (by decide) ht hv ?_
  refine gs_0 (pc' := 15) (L' := [some (.ref l0), some (.int l1), some (.int l2)]) (st' := [.int 0, .ref q_3]) cd_232_14 rfl rfl ?_
  obtain ⟨w_4, I_5, J_6, hcl, h⟩ := cV_s h
  refine gs_call (as := [.ref q_3, .int 0]) (rest := []) cd_232_15 rfl (by decide) rfl rfl (Nat.le_of_ble_eq_true rfl) (Nat.le_of_ble_eq_true rfl) rfl hcl ?_
  cases h
  exact gsr cd_232_18 rfl rfl
theorem cl_232 {K : Nat → Value} {k d : Nat} {l0 : Nat} {l1 : Int32} {l2 : Int32} {w : aW} {I : aI} {J : aJ} {R : aR} (h : f_232 K k d l0 l1 l2 w I J = some R) : Cl K (d + 1) 232 [.ref l0, .int l1, .int l2] w I J = some R := Cl_of (ok_232 h)
/-! ProvedMachineModel.sheet(III)J -/
set_option maxRecDepth 20000 in
theorem gl_233 : gcd.lookup 233 = some gw_233 := rfl
theorem cd_233_0 : sm_cd 233 0 = some (.iload_n 1, 1, 1, 0, 0, 0, 0, 0, 0) := cd_of gl_233 rfl
theorem cd_233_1 : sm_cd 233 1 = some (.invokestatic 431, 3, 229, 1, 1, 1, 6, 0, 0) := cd_of gl_233 rfl
theorem cd_233_4 : sm_cd 233 4 = some (.ifCond .eq 25, 3, 29, 0, 0, 0, 0, 0, 0) := cd_of gl_233 rfl
theorem cd_233_7 : sm_cd 233 7 = some (.iload_n 2, 1, 2, 0, 0, 0, 0, 0, 0) := cd_of gl_233 rfl
theorem cd_233_8 : sm_cd 233 8 = some (.ifCond .eq 27, 3, 35, 0, 0, 0, 0, 0, 0) := cd_of gl_233 rfl
theorem cd_233_11 : sm_cd 233 11 = some (.iload_n 2, 1, 2, 0, 0, 0, 0, 0, 0) := cd_of gl_233 rfl
theorem cd_233_12 : sm_cd 233 12 = some (.bipush 8, 2, 0, 0, 0, 0, 0, 8, 0) := cd_of gl_233 rfl
theorem cd_233_14 : sm_cd 233 14 = some (.if_icmp .eq 21, 3, 35, 0, 0, 0, 0, 0, 0) := cd_of gl_233 rfl
theorem cd_233_17 : sm_cd 233 17 = some (.iload_n 2, 1, 2, 0, 0, 0, 0, 0, 0) := cd_of gl_233 rfl
theorem cd_233_18 : sm_cd 233 18 = some (.bipush 16, 2, 0, 0, 0, 0, 0, 16, 0) := cd_of gl_233 rfl
theorem cd_233_20 : sm_cd 233 20 = some (.if_icmp .eq 15, 3, 35, 0, 0, 0, 0, 0, 0) := cd_of gl_233 rfl
theorem cd_233_23 : sm_cd 233 23 = some (.iload_n 2, 1, 2, 0, 0, 0, 0, 0, 0) := cd_of gl_233 rfl
theorem cd_233_24 : sm_cd 233 24 = some (.bipush 32, 2, 0, 0, 0, 0, 0, 32, 0) := cd_of gl_233 rfl
theorem cd_233_26 : sm_cd 233 26 = some (.if_icmp .eq 9, 3, 35, 0, 0, 0, 0, 0, 0) := cd_of gl_233 rfl
theorem cd_233_29 : sm_cd 233 29 = some (.aload_n 0, 1, 0, 0, 0, 0, 0, 0, 0) := cd_of gl_233 rfl
theorem cd_233_30 : sm_cd 233 30 = some (.iconst 1, 1, 0, 0, 0, 0, 0, 1, 0) := cd_of gl_233 rfl
theorem cd_233_31 : sm_cd 233 31 = some (.invokevirtual 148, 3, 20, 0, 1, 2, 6, 0, 0) := cd_of gl_233 rfl
theorem cd_233_34 : sm_cd 233 34 = some (.lreturn, 1, 0, 0, 0, 0, 0, 0, 0) := cd_of gl_233 rfl
theorem cd_233_35 : sm_cd 233 35 = some (.iload_n 3, 1, 3, 0, 0, 0, 0, 0, 0) := cd_of gl_233 rfl
theorem cd_233_36 : sm_cd 233 36 = some (.ifCond .ge 9, 3, 45, 0, 0, 0, 0, 0, 0) := cd_of gl_233 rfl
theorem cd_233_39 : sm_cd 233 39 = some (.aload_n 0, 1, 0, 0, 0, 0, 0, 0, 0) := cd_of gl_233 rfl
theorem cd_233_40 : sm_cd 233 40 = some (.iconst 3, 1, 0, 0, 0, 0, 0, 3, 0) := cd_of gl_233 rfl
theorem cd_233_41 : sm_cd 233 41 = some (.invokevirtual 148, 3, 20, 0, 1, 2, 6, 0, 0) := cd_of gl_233 rfl
theorem cd_233_44 : sm_cd 233 44 = some (.lreturn, 1, 0, 0, 0, 0, 0, 0, 0) := cd_of gl_233 rfl
theorem cd_233_45 : sm_cd 233 45 = some (.iload_n 3, 1, 3, 0, 0, 0, 0, 0, 0) := cd_of gl_233 rfl
theorem cd_233_46 : sm_cd 233 46 = some (.bipush 40, 2, 0, 0, 0, 0, 0, 40, 0) := cd_of gl_233 rfl
theorem cd_233_48 : sm_cd 233 48 = some (.if_icmp .le 9, 3, 57, 0, 0, 0, 0, 0, 0) := cd_of gl_233 rfl
theorem cd_233_51 : sm_cd 233 51 = some (.aload_n 0, 1, 0, 0, 0, 0, 0, 0, 0) := cd_of gl_233 rfl
theorem cd_233_52 : sm_cd 233 52 = some (.iconst 1, 1, 0, 0, 0, 0, 0, 1, 0) := cd_of gl_233 rfl
theorem cd_233_53 : sm_cd 233 53 = some (.invokevirtual 148, 3, 20, 0, 1, 2, 6, 0, 0) := cd_of gl_233 rfl
theorem cd_233_56 : sm_cd 233 56 = some (.lreturn, 1, 0, 0, 0, 0, 0, 0, 0) := cd_of gl_233 rfl
theorem cd_233_57 : sm_cd 233 57 = some (.aload_n 0, 1, 0, 0, 0, 0, 0, 0, 0) := cd_of gl_233 rfl
theorem cd_233_58 : sm_cd 233 58 = some (.getfield 130, 3, 6, 44, 2, 0, 0, 0, 0) := cd_of gl_233 rfl
theorem cd_233_61 : sm_cd 233 61 = some (.iload_n 1, 1, 1, 0, 0, 0, 0, 0, 0) := cd_of gl_233 rfl
theorem cd_233_62 : sm_cd 233 62 = some (.iload_n 2, 1, 2, 0, 0, 0, 0, 0, 0) := cd_of gl_233 rfl
theorem cd_233_63 : sm_cd 233 63 = some (.iastore, 1, 0, 0, 0, 0, 0, 0, 0) := cd_of gl_233 rfl
theorem cd_233_64 : sm_cd 233 64 = some (.aload_n 0, 1, 0, 0, 0, 0, 0, 0, 0) := cd_of gl_233 rfl
theorem cd_233_65 : sm_cd 233 65 = some (.getfield 133, 3, 6, 45, 2, 0, 0, 0, 0) := cd_of gl_233 rfl
theorem cd_233_68 : sm_cd 233 68 = some (.iload_n 1, 1, 1, 0, 0, 0, 0, 0, 0) := cd_of gl_233 rfl
theorem cd_233_69 : sm_cd 233 69 = some (.iload_n 2, 1, 2, 0, 0, 0, 0, 0, 0) := cd_of gl_233 rfl
theorem cd_233_70 : sm_cd 233 70 = some (.ifCond .ne 7, 3, 77, 0, 0, 0, 0, 0, 0) := cd_of gl_233 rfl
theorem cd_233_73 : sm_cd 233 73 = some (.iconst 0, 1, 0, 0, 0, 0, 0, 0, 0) := cd_of gl_233 rfl
theorem cd_233_74 : sm_cd 233 74 = some (.goto 4, 3, 78, 0, 0, 0, 0, 0, 0) := cd_of gl_233 rfl
theorem cd_233_77 : sm_cd 233 77 = some (.iload_n 3, 1, 3, 0, 0, 0, 0, 0, 0) := cd_of gl_233 rfl
theorem cd_233_78 : sm_cd 233 78 = some (.iastore, 1, 0, 0, 0, 0, 0, 0, 0) := cd_of gl_233 rfl
theorem cd_233_79 : sm_cd 233 79 = some (.iconst 0, 1, 0, 0, 0, 0, 0, 0, 0) := cd_of gl_233 rfl
theorem cd_233_80 : sm_cd 233 80 = some (.istore 4, 2, 4, 0, 0, 0, 0, 0, 0) := cd_of gl_233 rfl
theorem cd_233_82 : sm_cd 233 82 = some (.iload 4, 2, 4, 0, 0, 0, 0, 0, 0) := cd_of gl_233 rfl
theorem cd_233_84 : sm_cd 233 84 = some (.bipush 40, 2, 0, 0, 0, 0, 0, 40, 0) := cd_of gl_233 rfl
theorem cd_233_86 : sm_cd 233 86 = some (.if_icmp .ge 22, 3, 108, 0, 0, 0, 0, 0, 0) := cd_of gl_233 rfl
theorem cd_233_89 : sm_cd 233 89 = some (.aload_n 0, 1, 0, 0, 0, 0, 0, 0, 0) := cd_of gl_233 rfl
theorem cd_233_90 : sm_cd 233 90 = some (.getfield 136, 3, 6, 46, 2, 0, 0, 0, 0) := cd_of gl_233 rfl
theorem cd_233_93 : sm_cd 233 93 = some (.bipush 40, 2, 0, 0, 0, 0, 0, 40, 0) := cd_of gl_233 rfl
theorem cd_233_95 : sm_cd 233 95 = some (.iload_n 1, 1, 1, 0, 0, 0, 0, 0, 0) := cd_of gl_233 rfl
theorem cd_233_96 : sm_cd 233 96 = some (.imul, 1, 0, 0, 0, 0, 0, 0, 0) := cd_of gl_233 rfl
theorem cd_233_97 : sm_cd 233 97 = some (.iload 4, 2, 4, 0, 0, 0, 0, 0, 0) := cd_of gl_233 rfl
theorem cd_233_99 : sm_cd 233 99 = some (.iadd, 1, 0, 0, 0, 0, 0, 0, 0) := cd_of gl_233 rfl
theorem cd_233_100 : sm_cd 233 100 = some (.iconst 0, 1, 0, 0, 0, 0, 0, 0, 0) := cd_of gl_233 rfl
theorem cd_233_101 : sm_cd 233 101 = some (.iastore, 1, 0, 0, 0, 0, 0, 0, 0) := cd_of gl_233 rfl
theorem cd_233_102 : sm_cd 233 102 = some (.iinc 4 1, 3, 4, 0, 0, 0, 0, 1, 0) := cd_of gl_233 rfl
theorem cd_233_105 : sm_cd 233 105 = some (.goto (-23), 3, 82, 0, 0, 0, 0, 0, 0) := cd_of gl_233 rfl
theorem cd_233_108 : sm_cd 233 108 = some (.aload_n 0, 1, 0, 0, 0, 0, 0, 0, 0) := cd_of gl_233 rfl
theorem cd_233_109 : sm_cd 233 109 = some (.getfield 133, 3, 6, 45, 2, 0, 0, 0, 0) := cd_of gl_233 rfl
theorem cd_233_112 : sm_cd 233 112 = some (.iload_n 1, 1, 1, 0, 0, 0, 0, 0, 0) := cd_of gl_233 rfl
theorem cd_233_113 : sm_cd 233 113 = some (.iaload, 1, 0, 0, 0, 0, 0, 0, 0) := cd_of gl_233 rfl
theorem cd_233_114 : sm_cd 233 114 = some (.i2l, 1, 0, 0, 0, 0, 0, 0, 0) := cd_of gl_233 rfl
theorem cd_233_115 : sm_cd 233 115 = some (.lreturn, 1, 0, 0, 0, 0, 0, 0, 0) := cd_of gl_233 rfl
noncomputable def f_233_82 (K : Nat → Value) (k : Nat) (d : Nat) : Nat → Int32 → Int32 → Int32 → Int32 → aW → aI → aJ → Option aR :=
  match k with
  | 0 => fun _ _ _ _ _ _ _ _ => none
  | k + 1 => fun l0 l1 l2 l3 l4 w I J =>
  lt_ (f_233_82 K k d) fun r82 =>
  if 40 ≤ l4 then
    gO w 6 l0 (
    gV w l0 45 fun q_1 =>
    gA w 10 20 q_1 l1 (
    some (some (.long ((I q_1 (l1 : Int32).toNatClampNeg : Int32).toInt64)), w, I, J)))
  else
    gO w 6 l0 (
    gV w l0 46 fun q_2 =>
    gA w 10 10 q_2 ((40 * l1) + l4) (
    lt_ (sm_up2 I q_2 ((40 * l1) + l4 : Int32).toNatClampNeg 0) fun I_3 =>
    lt_ (l4 + 1) fun x_4 =>
    r82 l0 l1 l2 l3 x_4 w I_3 J))
theorem ok_233_82 {K : Nat → Value} {d : Nat} : ∀ {k : Nat} {l0 : Nat} {l1 : Int32} {l2 : Int32} {l3 : Int32} {l4 : Int32} {w : aW} {I : aI} {J : aJ} {R : aR}, f_233_82 K k d l0 l1 l2 l3 l4 w I J = some R → Go K (d + 1) 233 82 [some (.ref l0), some (.int l1), some (.int l2), some (.int l3), some (.int l4)] [] w I J R := by
  intro k
  induction k with
  | zero => intro l0 l1 l2 l3 l4 w I J R h; cases h
  | succ k ih =>
    intro l0 l1 l2 l3 l4 w I J R h
    have hr82 : ∀ (l0 : Nat) (l1 : Int32) (l2 : Int32) (l3 : Int32) (l4 : Int32) (w : aW) (I : aI) (J : aJ) (R : aR), f_233_82 K k d l0 l1 l2 l3 l4 w I J = some R → Go K (d + 1) 233 82 [some (.ref l0), some (.int l1), some (.int l2), some (.int l3), some (.int l4)] [] w I J R := fun l0 l1 l2 l3 l4 w I J R h => ih h
    rw [f_233_82] at h
    obtain ⟨r82, hx, h⟩ := lt_s_ h
    rw [hx] at hr82
    clear hx ih
    refine gs_0 (pc' := 84) (L' := [some (.ref l0), some (.int l1), some (.int l2), some (.int l3), some (.int l4)]) (st' := [.int l4]) cd_233_82 rfl rfl ?_
    refine gs_0 (pc' := 86) (L' := [some (.ref l0), some (.int l1), some (.int l2), some (.int l3), some (.int l4)]) (st' := [.int 40, .int l4]) cd_233_84 rfl rfl ?_
    refine gs_0 (pc' := if 40 ≤ l4 then 108 else 89) (L' := [some (.ref l0), some (.int l1), some (.int l2), some (.int l3), some (.int l4)]) (st' := []) cd_233_86 rfl rfl ?_
    refine go_ite (fun hc => ?_) (fun hc => ?_)
    · rw [if_pos hc] at h
      refine gs_0 (pc' := 109) (L' := [some (.ref l0), some (.int l1), some (.int l2), some (.int l3), some (.int l4)]) (st' := [.ref l0]) cd_233_108 rfl rfl ?_
      obtain ⟨ht, h⟩ := gO_s h
      obtain ⟨q_1, hv, h⟩ := gV_s h
      refine gs_gfR cd_233_109 (by decide) ht hv ?_
      refine gs_0 (pc' := 113) (L' := [some (.ref l0), some (.int l1), some (.int l2), some (.int l3), some (.int l4)]) (st' := [.int l1, .ref q_1]) cd_233_112 rfl rfl ?_
      obtain ⟨ht, h⟩ := gA_s h
      refine gs_iald cd_233_113 ht ?_
      refine gs_0 (pc' := 115) (L' := [some (.ref l0), some (.int l1), some (.int l2), some (.int l3), some (.int l4)]) (st' := [.long ((I q_1 (l1 : Int32).toNatClampNeg : Int32).toInt64)]) cd_233_114 rfl rfl ?_
      cases h
      exact gsr cd_233_115 rfl rfl
    · rw [if_neg hc] at h
      refine gs_0 (pc' := 90) (L' := [some (.ref l0), some (.int l1), some (.int l2), some (.int l3), some (.int l4)]) (st' := [.ref l0]) cd_233_89 rfl rfl ?_
      obtain ⟨ht, h⟩ := gO_s h
      obtain ⟨q_2, hv, h⟩ := gV_s h
      refine gs_gfR cd_233_90 (by decide) ht hv ?_
      refine gs_0 (pc' := 95) (L' := [some (.ref l0), some (.int l1), some (.int l2), some (.int l3), some (.int l4)]) (st' := [.int 40, .ref q_2]) cd_233_93 rfl rfl ?_
      refine gs_0 (pc' := 96) (L' := [some (.ref l0), some (.int l1), some (.int l2), some (.int l3), some (.int l4)]) (st' := [.int l1, .int 40, .ref q_2]) cd_233_95 rfl rfl ?_
      refine gs_0 (pc' := 97) (L' := [some (.ref l0), some (.int l1), some (.int l2), some (.int l3), some (.int l4)]) (st' := [.int (40 * l1), .ref q_2]) cd_233_96 rfl rfl ?_
      refine gs_0 (pc' := 99) (L' := [some (.ref l0), some (.int l1), some (.int l2), some (.int l3), some (.int l4)]) (st' := [.int l4, .int (40 * l1), .ref q_2]) cd_233_97 rfl rfl ?_
      refine gs_0 (pc' := 100) (L' := [some (.ref l0), some (.int l1), some (.int l2), some (.int l3), some (.int l4)]) (st' := [.int ((40 * l1) + l4), .ref q_2]) cd_233_99 rfl rfl ?_
      refine gs_0 (pc' := 101) (L' := [some (.ref l0), some (.int l1), some (.int l2), some (.int l3), some (.int l4)]) (st' := [.int 0, .int ((40 * l1) + l4), .ref q_2]) cd_233_100 rfl rfl ?_
      obtain ⟨ht, h⟩ := gA_s h
      refine gs_iast cd_233_101 ht ?_
      obtain ⟨I_3, hx, h⟩ := lt_s_ h
      rw [hx]
      refine gs_0 (pc' := 105) (L' := [some (.ref l0), some (.int l1), some (.int l2), some (.int l3), some (.int (l4 + 1))]) (st' := []) cd_233_102 rfl rfl ?_
      obtain ⟨x_4, hx, h⟩ := lt_s_ h
      rw [hx]
      clear hx
      refine gs_0 (pc' := 82) (L' := [some (.ref l0), some (.int l1), some (.int l2), some (.int l3), some (.int x_4)]) (st' := []) cd_233_105 rfl rfl ?_
      exact hr82 l0 l1 l2 l3 x_4 _ _ _ _ h
noncomputable def f_233_78 (K : Nat → Value) (k d : Nat) (l0 : Nat) (l1 : Int32) (l2 : Int32) (l3 : Int32) (s0 : Nat) (s1 : Int32) (s2 : Int32) (w : aW) (I : aI) (J : aJ) : Option aR :=
  gA w 10 10 s0 s1 (
  lt_ (sm_up2 I s0 (s1 : Int32).toNatClampNeg s2) fun I_1 =>
  f_233_82 K k d l0 l1 l2 l3 0 w I_1 J)
theorem ok_233_78 {K : Nat → Value} {k d : Nat} {l0 : Nat} {l1 : Int32} {l2 : Int32} {l3 : Int32} {s0 : Nat} {s1 : Int32} {s2 : Int32} {w : aW} {I : aI} {J : aJ} {R : aR} (h : f_233_78 K k d l0 l1 l2 l3 s0 s1 s2 w I J = some R) : Go K (d + 1) 233 78 [some (.ref l0), some (.int l1), some (.int l2), some (.int l3), none] [.int s2, .int s1, .ref s0] w I J R := by
  unfold f_233_78 at h
  obtain ⟨ht, h⟩ := gA_s h
  refine gs_iast cd_233_78 ht ?_
  obtain ⟨I_1, hx, h⟩ := lt_s_ h
  rw [hx]
  refine gs_0 (pc' := 80) (L' := [some (.ref l0), some (.int l1), some (.int l2), some (.int l3), none]) (st' := [.int 0]) cd_233_79 rfl rfl ?_
  refine gs_0 (pc' := 82) (L' := [some (.ref l0), some (.int l1), some (.int l2), some (.int l3), some (.int 0)]) (st' := []) cd_233_80 rfl rfl ?_
  exact ok_233_82 h
noncomputable def f_233_35 (K : Nat → Value) (k d : Nat) (l0 : Nat) (l1 : Int32) (l2 : Int32) (l3 : Int32) (w : aW) (I : aI) (J : aJ) : Option aR :=
  if 0 ≤ l3 then
    if l3 ≤ 40 then
      gO w 6 l0 (
      gV w l0 44 fun q_1 =>
      gA w 10 10 q_1 l1 (
      lt_ (sm_up2 I q_1 (l1 : Int32).toNatClampNeg l2) fun I_2 =>
      gO w 6 l0 (
      gV w l0 45 fun q_3 =>
      if ¬ l2 = 0 then
        f_233_78 K k d l0 l1 l2 l3 q_3 l1 l3 w I_2 J
      else
        f_233_78 K k d l0 l1 l2 l3 q_3 l1 0 w I_2 J)))
    else
      gO w 6 l0 (
      cJ (Cl K d 20 [.ref l0, .int 1] w I J) fun v_7 w_4 I_5 J_6 =>
      some (some (.long v_7), w_4, I_5, J_6))
  else
    gO w 6 l0 (
    cJ (Cl K d 20 [.ref l0, .int 3] w I J) fun v_11 w_8 I_9 J_10 =>
    some (some (.long v_11), w_8, I_9, J_10))
theorem ok_233_35 {K : Nat → Value} {k d : Nat} {l0 : Nat} {l1 : Int32} {l2 : Int32} {l3 : Int32} {w : aW} {I : aI} {J : aJ} {R : aR} (h : f_233_35 K k d l0 l1 l2 l3 w I J = some R) : Go K (d + 1) 233 35 [some (.ref l0), some (.int l1), some (.int l2), some (.int l3), none] [] w I J R := by
  unfold f_233_35 at h
  refine gs_0 (pc' := 36) (L' := [some (.ref l0), some (.int l1), some (.int l2), some (.int l3), none]) (st' := [.int l3]) cd_233_35 rfl rfl ?_
  refine gs_0 (pc' := if 0 ≤ l3 then 45 else 39) (L' := [some (.ref l0), some (.int l1), some (.int l2), some (.int l3), none]) (st' := []) cd_233_36 rfl rfl ?_
  refine go_ite (fun hc => ?_) (fun hc => ?_)
  · rw [if_pos hc] at h
    refine gs_0 (pc' := 46) (L' := [some (.ref l0), some (.int l1), some (.int l2), some (.int l3), none]) (st' := [.int l3]) cd_233_45 rfl rfl ?_
    refine gs_0 (pc' := 48) (L' := [some (.ref l0), some (.int l1), some (.int l2), some (.int l3), none]) (st' := [.int 40, .int l3]) cd_233_46 rfl rfl ?_
    refine gs_0 (pc' := if l3 ≤ 40 then 57 else 51) (L' := [some (.ref l0), some (.int l1), some (.int l2), some (.int l3), none]) (st' := []) cd_233_48 rfl rfl ?_
    refine go_ite (fun hc => ?_) (fun hc => ?_)
    · rw [if_pos hc] at h
      refine gs_0 (pc' := 58) (L' := [some (.ref l0), some (.int l1), some (.int l2), some (.int l3), none]) (st' := [.ref l0]) cd_233_57 rfl rfl ?_
      obtain ⟨ht, h⟩ := gO_s h
      obtain ⟨q_1, hv, h⟩ := gV_s h
      refine gs_gfR cd_233_58 (by decide) ht hv ?_
      refine gs_0 (pc' := 62) (L' := [some (.ref l0), some (.int l1), some (.int l2), some (.int l3), none]) (st' := [.int l1, .ref q_1]) cd_233_61 rfl rfl ?_
      refine gs_0 (pc' := 63) (L' := [some (.ref l0), some (.int l1), some (.int l2), some (.int l3), none]) (st' := [.int l2, .int l1, .ref q_1]) cd_233_62 rfl rfl ?_
      obtain ⟨ht, h⟩ := gA_s h
      refine gs_iast cd_233_63 ht ?_
      obtain ⟨I_2, hx, h⟩ := lt_s_ h
      rw [hx]
      refine gs_0 (pc' := 65) (L' := [some (.ref l0), some (.int l1), some (.int l2), some (.int l3), none]) (st' := [.ref l0]) cd_233_64 rfl rfl ?_
      obtain ⟨ht, h⟩ := gO_s h
      obtain ⟨q_3, hv, h⟩ := gV_s h
      refine gs_gfR cd_233_65 (by decide) ht hv ?_
      refine gs_0 (pc' := 69) (L' := [some (.ref l0), some (.int l1), some (.int l2), some (.int l3), none]) (st' := [.int l1, .ref q_3]) cd_233_68 rfl rfl ?_
      refine gs_0 (pc' := 70) (L' := [some (.ref l0), some (.int l1), some (.int l2), some (.int l3), none]) (st' := [.int l2, .int l1, .ref q_3]) cd_233_69 rfl rfl ?_
      refine gs_0 (pc' := if ¬ l2 = 0 then 77 else 73) (L' := [some (.ref l0), some (.int l1), some (.int l2), some (.int l3), none]) (st' := [.int l1, .ref q_3]) cd_233_70 rfl rfl ?_
      refine go_ite (fun hc => ?_) (fun hc => ?_)
      · rw [if_pos hc] at h
        refine gs_0 (pc' := 78) (L' := [some (.ref l0), some (.int l1), some (.int l2), some (.int l3), none]) (st' := [.int l3, .int l1, .ref q_3]) cd_233_77 rfl rfl ?_
        exact ok_233_78 h
      · rw [if_neg hc] at h
        refine gs_0 (pc' := 74) (L' := [some (.ref l0), some (.int l1), some (.int l2), some (.int l3), none]) (st' := [.int 0, .int l1, .ref q_3]) cd_233_73 rfl rfl ?_
        refine gs_0 (pc' := 78) (L' := [some (.ref l0), some (.int l1), some (.int l2), some (.int l3), none]) (st' := [.int 0, .int l1, .ref q_3]) cd_233_74 rfl rfl ?_
        exact ok_233_78 h
    · rw [if_neg hc] at h
      refine gs_0 (pc' := 52) (L' := [some (.ref l0), some (.int l1), some (.int l2), some (.int l3), none]) (st' := [.ref l0]) cd_233_51 rfl rfl ?_
      refine gs_0 (pc' := 53) (L' := [some (.ref l0), some (.int l1), some (.int l2), some (.int l3), none]) (st' := [.int 1, .ref l0]) cd_233_52 rfl rfl ?_
      obtain ⟨ht, h⟩ := gO_s h
      obtain ⟨v_7, w_4, I_5, J_6, hcl, h⟩ := cJ_s h
      refine gs_call (as := [.ref l0, .int 1]) (rest := []) cd_233_53 rfl (by decide) rfl (sm_rv_ok (by decide) ht) (Nat.le_of_ble_eq_true rfl) (Nat.le_of_ble_eq_true rfl) rfl hcl ?_
      cases h
      exact gsr cd_233_56 rfl rfl
  · rw [if_neg hc] at h
    refine gs_0 (pc' := 40) (L' := [some (.ref l0), some (.int l1), some (.int l2), some (.int l3), none]) (st' := [.ref l0]) cd_233_39 rfl rfl ?_
    refine gs_0 (pc' := 41) (L' := [some (.ref l0), some (.int l1), some (.int l2), some (.int l3), none]) (st' := [.int 3, .ref l0]) cd_233_40 rfl rfl ?_
    obtain ⟨ht, h⟩ := gO_s h
    obtain ⟨v_11, w_8, I_9, J_10, hcl, h⟩ := cJ_s h
    refine gs_call (as := [.ref l0, .int 3]) (rest := []) cd_233_41 rfl (by decide) rfl (sm_rv_ok (by decide) ht) (Nat.le_of_ble_eq_true rfl) (Nat.le_of_ble_eq_true rfl) rfl hcl ?_
    cases h
    exact gsr cd_233_44 rfl rfl
noncomputable def f_233_29 (K : Nat → Value) (k d : Nat) (l0 : Nat) (l1 : Int32) (l2 : Int32) (l3 : Int32) (w : aW) (I : aI) (J : aJ) : Option aR :=
  gO w 6 l0 (
  cJ (Cl K d 20 [.ref l0, .int 1] w I J) fun v_4 w_1 I_2 J_3 =>
  some (some (.long v_4), w_1, I_2, J_3))
theorem ok_233_29 {K : Nat → Value} {k d : Nat} {l0 : Nat} {l1 : Int32} {l2 : Int32} {l3 : Int32} {w : aW} {I : aI} {J : aJ} {R : aR} (h : f_233_29 K k d l0 l1 l2 l3 w I J = some R) : Go K (d + 1) 233 29 [some (.ref l0), some (.int l1), some (.int l2), some (.int l3), none] [] w I J R := by
  unfold f_233_29 at h
  refine gs_0 (pc' := 30) (L' := [some (.ref l0), some (.int l1), some (.int l2), some (.int l3), none]) (st' := [.ref l0]) cd_233_29 rfl rfl ?_
  refine gs_0 (pc' := 31) (L' := [some (.ref l0), some (.int l1), some (.int l2), some (.int l3), none]) (st' := [.int 1, .ref l0]) cd_233_30 rfl rfl ?_
  obtain ⟨ht, h⟩ := gO_s h
  obtain ⟨v_4, w_1, I_2, J_3, hcl, h⟩ := cJ_s h
  refine gs_call (as := [.ref l0, .int 1]) (rest := []) cd_233_31 rfl (by decide) rfl (sm_rv_ok (by decide) ht) (Nat.le_of_ble_eq_true rfl) (Nat.le_of_ble_eq_true rfl) rfl hcl ?_
  cases h
  exact gsr cd_233_34 rfl rfl
noncomputable def f_233 (K : Nat → Value) (k d : Nat) (l0 : Nat) (l1 : Int32) (l2 : Int32) (l3 : Int32) (w : aW) (I : aI) (J : aJ) : Option aR :=
  cI (Cl K d 229 [.int l1] w I J) fun x_4 w_1 I_2 J_3 =>
  if x_4 = 0 then
    f_233_29 K k d l0 l1 l2 l3 w_1 I_2 J_3
  else
    if l2 = 0 then
      f_233_35 K k d l0 l1 l2 l3 w_1 I_2 J_3
    else
      if l2 = 8 then
        f_233_35 K k d l0 l1 l2 l3 w_1 I_2 J_3
      else
        if l2 = 16 then
          f_233_35 K k d l0 l1 l2 l3 w_1 I_2 J_3
        else
          if l2 = 32 then
            f_233_35 K k d l0 l1 l2 l3 w_1 I_2 J_3
          else
            f_233_29 K k d l0 l1 l2 l3 w_1 I_2 J_3
theorem ok_233 {K : Nat → Value} {k d : Nat} {l0 : Nat} {l1 : Int32} {l2 : Int32} {l3 : Int32} {w : aW} {I : aI} {J : aJ} {R : aR} (h : f_233 K k d l0 l1 l2 l3 w I J = some R) : Go K (d + 1) 233 0 [some (.ref l0), some (.int l1), some (.int l2), some (.int l3), none] [] w I J R := by
  unfold f_233 at h
  refine gs_0 (pc' := 1) (L' := [some (.ref l0), some (.int l1), some (.int l2), some (.int l3), none]) (st' := [.int l1]) cd_233_0 rfl rfl ?_
  obtain ⟨x_4, w_1, I_2, J_3, hcl, h⟩ := cI_s h
  refine gs_call (as := [.int l1]) (rest := []) cd_233_1 rfl (by decide) rfl rfl (Nat.le_of_ble_eq_true rfl) (Nat.le_of_ble_eq_true rfl) rfl hcl ?_
  refine gs_0 (pc' := if x_4 = 0 then 29 else 7) (L' := [some (.ref l0), some (.int l1), some (.int l2), some (.int l3), none]) (st' := []) cd_233_4 rfl rfl ?_
  refine go_ite (fun hc => ?_) (fun hc => ?_)
  · rw [if_pos hc] at h
    exact ok_233_29 h
  · rw [if_neg hc] at h
    refine gs_0 (pc' := 8) (L' := [some (.ref l0), some (.int l1), some (.int l2), some (.int l3), none]) (st' := [.int l2]) cd_233_7 rfl rfl ?_
    refine gs_0 (pc' := if l2 = 0 then 35 else 11) (L' := [some (.ref l0), some (.int l1), some (.int l2), some (.int l3), none]) (st' := []) cd_233_8 rfl rfl ?_
    refine go_ite (fun hc => ?_) (fun hc => ?_)
    · rw [if_pos hc] at h
      exact ok_233_35 h
    · rw [if_neg hc] at h
      refine gs_0 (pc' := 12) (L' := [some (.ref l0), some (.int l1), some (.int l2), some (.int l3), none]) (st' := [.int l2]) cd_233_11 rfl rfl ?_
      refine gs_0 (pc' := 14) (L' := [some (.ref l0), some (.int l1), some (.int l2), some (.int l3), none]) (st' := [.int 8, .int l2]) cd_233_12 rfl rfl ?_
      refine gs_0 (pc' := if l2 = 8 then 35 else 17) (L' := [some (.ref l0), some (.int l1), some (.int l2), some (.int l3), none]) (st' := []) cd_233_14 rfl rfl ?_
      refine go_ite (fun hc => ?_) (fun hc => ?_)
      · rw [if_pos hc] at h
        exact ok_233_35 h
      · rw [if_neg hc] at h
        refine gs_0 (pc' := 18) (L' := [some (.ref l0), some (.int l1), some (.int l2), some (.int l3), none]) (st' := [.int l2]) cd_233_17 rfl rfl ?_
        refine gs_0 (pc' := 20) (L' := [some (.ref l0), some (.int l1), some (.int l2), some (.int l3), none]) (st' := [.int 16, .int l2]) cd_233_18 rfl rfl ?_
        refine gs_0 (pc' := if l2 = 16 then 35 else 23) (L' := [some (.ref l0), some (.int l1), some (.int l2), some (.int l3), none]) (st' := []) cd_233_20 rfl rfl ?_
        refine go_ite (fun hc => ?_) (fun hc => ?_)
        · rw [if_pos hc] at h
          exact ok_233_35 h
        · rw [if_neg hc] at h
          refine gs_0 (pc' := 24) (L' := [some (.ref l0), some (.int l1), some (.int l2), some (.int l3), none]) (st' := [.int l2]) cd_233_23 rfl rfl ?_
          refine gs_0 (pc' := 26) (L' := [some (.ref l0), some (.int l1), some (.int l2), some (.int l3), none]) (st' := [.int 32, .int l2]) cd_233_24 rfl rfl ?_
          refine gs_0 (pc' := if l2 = 32 then 35 else 29) (L' := [some (.ref l0), some (.int l1), some (.int l2), some (.int l3), none]) (st' := []) cd_233_26 rfl rfl ?_
          refine go_ite (fun hc => ?_) (fun hc => ?_)
          · rw [if_pos hc] at h
            exact ok_233_35 h
          · rw [if_neg hc] at h
            exact ok_233_29 h
theorem cl_233 {K : Nat → Value} {k d : Nat} {l0 : Nat} {l1 : Int32} {l2 : Int32} {l3 : Int32} {w : aW} {I : aI} {J : aJ} {R : aR} (h : f_233 K k d l0 l1 l2 l3 w I J = some R) : Cl K (d + 1) 233 [.ref l0, .int l1, .int l2, .int l3] w I J = some R := Cl_of (ok_233 h)
/-! ProvedMachine.put(III)J -/
set_option maxRecDepth 20000 in
theorem gl_234 : gcd.lookup 234 = some gw_234 := rfl
theorem cd_234_0 : sm_cd 234 0 = some (.iload_n 1, 1, 1, 0, 0, 0, 0, 0, 0) := cd_of gl_234 rfl
theorem cd_234_1 : sm_cd 234 1 = some (.invokestatic 160, 3, 223, 1, 1, 1, 5, 0, 0) := cd_of gl_234 rfl
theorem cd_234_4 : sm_cd 234 4 = some (.ifCond .ne 9, 3, 13, 0, 0, 0, 0, 0, 0) := cd_of gl_234 rfl
theorem cd_234_7 : sm_cd 234 7 = some (.aload_n 0, 1, 0, 0, 0, 0, 0, 0, 0) := cd_of gl_234 rfl
theorem cd_234_8 : sm_cd 234 8 = some (.iconst 1, 1, 0, 0, 0, 0, 0, 1, 0) := cd_of gl_234 rfl
theorem cd_234_9 : sm_cd 234 9 = some (.invokevirtual 60, 3, 17, 0, 1, 2, 5, 0, 0) := cd_of gl_234 rfl
theorem cd_234_12 : sm_cd 234 12 = some (.lreturn, 1, 0, 0, 0, 0, 0, 0, 0) := cd_of gl_234 rfl
theorem cd_234_13 : sm_cd 234 13 = some (.aload_n 0, 1, 0, 0, 0, 0, 0, 0, 0) := cd_of gl_234 rfl
theorem cd_234_14 : sm_cd 234 14 = some (.getfield 46, 3, 5, 6, 2, 0, 0, 0, 0) := cd_of gl_234 rfl
theorem cd_234_17 : sm_cd 234 17 = some (.iload_n 1, 1, 1, 0, 0, 0, 0, 0, 0) := cd_of gl_234 rfl
theorem cd_234_18 : sm_cd 234 18 = some (.aaload, 1, 0, 0, 0, 0, 0, 0, 0) := cd_of gl_234 rfl
theorem cd_234_19 : sm_cd 234 19 = some (.getfield 163, 3, 3, 1, 0, 1, 0, 0, 0) := cd_of gl_234 rfl
theorem cd_234_22 : sm_cd 234 22 = some (.ifCond .ne 9, 3, 31, 0, 0, 0, 0, 0, 0) := cd_of gl_234 rfl
theorem cd_234_25 : sm_cd 234 25 = some (.aload_n 0, 1, 0, 0, 0, 0, 0, 0, 0) := cd_of gl_234 rfl
theorem cd_234_26 : sm_cd 234 26 = some (.iconst 2, 1, 0, 0, 0, 0, 0, 2, 0) := cd_of gl_234 rfl
theorem cd_234_27 : sm_cd 234 27 = some (.invokevirtual 60, 3, 17, 0, 1, 2, 5, 0, 0) := cd_of gl_234 rfl
theorem cd_234_30 : sm_cd 234 30 = some (.lreturn, 1, 0, 0, 0, 0, 0, 0, 0) := cd_of gl_234 rfl
theorem cd_234_31 : sm_cd 234 31 = some (.aload_n 0, 1, 0, 0, 0, 0, 0, 0, 0) := cd_of gl_234 rfl
theorem cd_234_32 : sm_cd 234 32 = some (.getfield 46, 3, 5, 6, 2, 0, 0, 0, 0) := cd_of gl_234 rfl
theorem cd_234_35 : sm_cd 234 35 = some (.iload_n 1, 1, 1, 0, 0, 0, 0, 0, 0) := cd_of gl_234 rfl
theorem cd_234_36 : sm_cd 234 36 = some (.aaload, 1, 0, 0, 0, 0, 0, 0, 0) := cd_of gl_234 rfl
theorem cd_234_37 : sm_cd 234 37 = some (.iload_n 2, 1, 2, 0, 0, 0, 0, 0, 0) := cd_of gl_234 rfl
theorem cd_234_38 : sm_cd 234 38 = some (.iconst 1, 1, 0, 0, 0, 0, 0, 1, 0) := cd_of gl_234 rfl
theorem cd_234_39 : sm_cd 234 39 = some (.invokevirtual 180, 3, 226, 0, 2, 3, 3, 0, 0) := cd_of gl_234 rfl
theorem cd_234_42 : sm_cd 234 42 = some (.ifCond .ne 9, 3, 51, 0, 0, 0, 0, 0, 0) := cd_of gl_234 rfl
theorem cd_234_45 : sm_cd 234 45 = some (.aload_n 0, 1, 0, 0, 0, 0, 0, 0, 0) := cd_of gl_234 rfl
theorem cd_234_46 : sm_cd 234 46 = some (.iconst 1, 1, 0, 0, 0, 0, 0, 1, 0) := cd_of gl_234 rfl
theorem cd_234_47 : sm_cd 234 47 = some (.invokevirtual 60, 3, 17, 0, 1, 2, 5, 0, 0) := cd_of gl_234 rfl
theorem cd_234_50 : sm_cd 234 50 = some (.lreturn, 1, 0, 0, 0, 0, 0, 0, 0) := cd_of gl_234 rfl
theorem cd_234_51 : sm_cd 234 51 = some (.aload_n 0, 1, 0, 0, 0, 0, 0, 0, 0) := cd_of gl_234 rfl
theorem cd_234_52 : sm_cd 234 52 = some (.getfield 46, 3, 5, 6, 2, 0, 0, 0, 0) := cd_of gl_234 rfl
theorem cd_234_55 : sm_cd 234 55 = some (.iload_n 1, 1, 1, 0, 0, 0, 0, 0, 0) := cd_of gl_234 rfl
theorem cd_234_56 : sm_cd 234 56 = some (.aaload, 1, 0, 0, 0, 0, 0, 0, 0) := cd_of gl_234 rfl
theorem cd_234_57 : sm_cd 234 57 = some (.iload_n 2, 1, 2, 0, 0, 0, 0, 0, 0) := cd_of gl_234 rfl
theorem cd_234_58 : sm_cd 234 58 = some (.iload_n 3, 1, 3, 0, 0, 0, 0, 0, 0) := cd_of gl_234 rfl
theorem cd_234_59 : sm_cd 234 59 = some (.invokevirtual 182, 3, 235, 0, 2, 3, 3, 0, 0) := cd_of gl_234 rfl
theorem cd_234_62 : sm_cd 234 62 = some (.lconst 0, 1, 0, 0, 0, 0, 0, 0, 0) := cd_of gl_234 rfl
theorem cd_234_63 : sm_cd 234 63 = some (.lreturn, 1, 0, 0, 0, 0, 0, 0, 0) := cd_of gl_234 rfl
noncomputable def f_234 (K : Nat → Value) (k d : Nat) (l0 : Nat) (l1 : Int32) (l2 : Int32) (l3 : Int32) (w : aW) (I : aI) (J : aJ) : Option aR :=
  cI (Cl K d 223 [.int l1] w I J) fun x_4 w_1 I_2 J_3 =>
  if ¬ x_4 = 0 then
    gO w_1 5 l0 (
    gV w_1 l0 6 fun q_5 =>
    gA w_1 14 15 q_5 l1 (
    gV w_1 q_5 (l1 : Int32).toNatClampNeg fun q_6 =>
    gO w_1 3 q_6 (
    if ¬ (I_2 q_6 1) = 0 then
      gO w_1 5 l0 (
      gV w_1 l0 6 fun q_7 =>
      gA w_1 14 15 q_7 l1 (
      gV w_1 q_7 (l1 : Int32).toNatClampNeg fun q_8 =>
      gO w_1 3 q_8 (
      cI (Cl K d 226 [.ref q_8, .int l2, .int 1] w_1 I_2 J_3) fun x_12 w_9 I_10 J_11 =>
      if ¬ x_12 = 0 then
        gO w_9 5 l0 (
        gV w_9 l0 6 fun q_13 =>
        gA w_9 14 15 q_13 l1 (
        gV w_9 q_13 (l1 : Int32).toNatClampNeg fun q_14 =>
        gO w_9 3 q_14 (
        cV (Cl K d 235 [.ref q_14, .int l2, .int l3] w_9 I_10 J_11) fun w_15 I_16 J_17 =>
        some (some (.long 0), w_15, I_16, J_17))))
      else
        gO w_9 5 l0 (
        cJ (Cl K d 17 [.ref l0, .int 1] w_9 I_10 J_11) fun v_21 w_18 I_19 J_20 =>
        some (some (.long v_21), w_18, I_19, J_20)))))
    else
      gO w_1 5 l0 (
      cJ (Cl K d 17 [.ref l0, .int 2] w_1 I_2 J_3) fun v_25 w_22 I_23 J_24 =>
      some (some (.long v_25), w_22, I_23, J_24)))))
  else
    gO w_1 5 l0 (
    cJ (Cl K d 17 [.ref l0, .int 1] w_1 I_2 J_3) fun v_29 w_26 I_27 J_28 =>
    some (some (.long v_29), w_26, I_27, J_28))
theorem ok_234 {K : Nat → Value} {k d : Nat} {l0 : Nat} {l1 : Int32} {l2 : Int32} {l3 : Int32} {w : aW} {I : aI} {J : aJ} {R : aR} (h : f_234 K k d l0 l1 l2 l3 w I J = some R) : Go K (d + 1) 234 0 [some (.ref l0), some (.int l1), some (.int l2), some (.int l3)] [] w I J R := by
  unfold f_234 at h
  refine gs_0 (pc' := 1) (L' := [some (.ref l0), some (.int l1), some (.int l2), some (.int l3)]) (st' := [.int l1]) cd_234_0 rfl rfl ?_
  obtain ⟨x_4, w_1, I_2, J_3, hcl, h⟩ := cI_s h
  refine gs_call (as := [.int l1]) (rest := []) cd_234_1 rfl (by decide) rfl rfl (Nat.le_of_ble_eq_true rfl) (Nat.le_of_ble_eq_true rfl) rfl hcl ?_
  refine gs_0 (pc' := if ¬ x_4 = 0 then 13 else 7) (L' := [some (.ref l0), some (.int l1), some (.int l2), some (.int l3)]) (st' := []) cd_234_4 rfl rfl ?_
  refine go_ite (fun hc => ?_) (fun hc => ?_)
  · rw [if_pos hc] at h
    refine gs_0 (pc' := 14) (L' := [some (.ref l0), some (.int l1), some (.int l2), some (.int l3)]) (st' := [.ref l0]) cd_234_13 rfl rfl ?_
    obtain ⟨ht, h⟩ := gO_s h
    obtain ⟨q_5, hv, h⟩ := gV_s h
    refine gs_gfR cd_234_14 (by decide) ht hv ?_
    refine gs_0 (pc' := 18) (L' := [some (.ref l0), some (.int l1), some (.int l2), some (.int l3)]) (st' := [.int l1, .ref q_5]) cd_234_17 rfl rfl ?_
    obtain ⟨ht, h⟩ := gA_s h
    obtain ⟨q_6, hv, h⟩ := gV_s h
    refine gs_rald cd_234_18 ht hv ?_
    obtain ⟨ht, h⟩ := gO_s h
    refine gs_gfI cd_234_19 (by decide) (by decide) ht ?_
    refine gs_0 (pc' := if ¬ (I_2 q_6 1) = 0 then 31 else 25) (L' := [some (.ref l0), some (.int l1), some (.int l2), some (.int l3)]) (st' := []) cd_234_22 rfl rfl ?_
    refine go_ite (fun hc => ?_) (fun hc => ?_)
    · rw [if_pos hc] at h
      refine gs_0 (pc' := 32) (L' := [some (.ref l0), some (.int l1), some (.int l2), some (.int l3)]) (st' := [.ref l0]) cd_234_31 rfl rfl ?_
      obtain ⟨ht, h⟩ := gO_s h
      obtain ⟨q_7, hv, h⟩ := gV_s h
      refine gs_gfR cd_234_32 (by decide) ht hv ?_
      refine gs_0 (pc' := 36) (L' := [some (.ref l0), some (.int l1), some (.int l2), some (.int l3)]) (st' := [.int l1, .ref q_7]) cd_234_35 rfl rfl ?_
      obtain ⟨ht, h⟩ := gA_s h
      obtain ⟨q_8, hv, h⟩ := gV_s h
      refine gs_rald cd_234_36 ht hv ?_
      refine gs_0 (pc' := 38) (L' := [some (.ref l0), some (.int l1), some (.int l2), some (.int l3)]) (st' := [.int l2, .ref q_8]) cd_234_37 rfl rfl ?_
      refine gs_0 (pc' := 39) (L' := [some (.ref l0), some (.int l1), some (.int l2), some (.int l3)]) (st' := [.int 1, .int l2, .ref q_8]) cd_234_38 rfl rfl ?_
      obtain ⟨ht, h⟩ := gO_s h
      obtain ⟨x_12, w_9, I_10, J_11, hcl, h⟩ := cI_s h
      refine gs_call (as := [.ref q_8, .int l2, .int 1]) (rest := []) cd_234_39 rfl (by decide) rfl (sm_rv_ok (by decide) ht) (Nat.le_of_ble_eq_true rfl) (Nat.le_of_ble_eq_true rfl) rfl hcl ?_
      refine gs_0 (pc' := if ¬ x_12 = 0 then 51 else 45) (L' := [some (.ref l0), some (.int l1), some (.int l2), some (.int l3)]) (st' := []) cd_234_42 rfl rfl ?_
      refine go_ite (fun hc => ?_) (fun hc => ?_)
      · rw [if_pos hc] at h
        refine gs_0 (pc' := 52) (L' := [some (.ref l0), some (.int l1), some (.int l2), some (.int l3)]) (st' := [.ref l0]) cd_234_51 rfl rfl ?_
        obtain ⟨ht, h⟩ := gO_s h
        obtain ⟨q_13, hv, h⟩ := gV_s h
        refine gs_gfR cd_234_52 (by decide) ht hv ?_
        refine gs_0 (pc' := 56) (L' := [some (.ref l0), some (.int l1), some (.int l2), some (.int l3)]) (st' := [.int l1, .ref q_13]) cd_234_55 rfl rfl ?_
        obtain ⟨ht, h⟩ := gA_s h
        obtain ⟨q_14, hv, h⟩ := gV_s h
        refine gs_rald cd_234_56 ht hv ?_
        refine gs_0 (pc' := 58) (L' := [some (.ref l0), some (.int l1), some (.int l2), some (.int l3)]) (st' := [.int l2, .ref q_14]) cd_234_57 rfl rfl ?_
        refine gs_0 (pc' := 59) (L' := [some (.ref l0), some (.int l1), some (.int l2), some (.int l3)]) (st' := [.int l3, .int l2, .ref q_14]) cd_234_58 rfl rfl ?_
        obtain ⟨ht, h⟩ := gO_s h
        obtain ⟨w_15, I_16, J_17, hcl, h⟩ := cV_s h
        refine gs_call (as := [.ref q_14, .int l2, .int l3]) (rest := []) cd_234_59 rfl (by decide) rfl (sm_rv_ok (by decide) ht) (Nat.le_of_ble_eq_true rfl) (Nat.le_of_ble_eq_true rfl) rfl hcl ?_
        refine gs_0 (pc' := 63) (L' := [some (.ref l0), some (.int l1), some (.int l2), some (.int l3)]) (st' := [.long 0]) cd_234_62 rfl rfl ?_
        cases h
        exact gsr cd_234_63 rfl rfl
      · rw [if_neg hc] at h
        refine gs_0 (pc' := 46) (L' := [some (.ref l0), some (.int l1), some (.int l2), some (.int l3)]) (st' := [.ref l0]) cd_234_45 rfl rfl ?_
        refine gs_0 (pc' := 47) (L' := [some (.ref l0), some (.int l1), some (.int l2), some (.int l3)]) (st' := [.int 1, .ref l0]) cd_234_46 rfl rfl ?_
        obtain ⟨ht, h⟩ := gO_s h
        obtain ⟨v_21, w_18, I_19, J_20, hcl, h⟩ := cJ_s h
        refine gs_call (as := [.ref l0, .int 1]) (rest := []) cd_234_47 rfl (by decide) rfl (sm_rv_ok (by decide) ht) (Nat.le_of_ble_eq_true rfl) (Nat.le_of_ble_eq_true rfl) rfl hcl ?_
        cases h
        exact gsr cd_234_50 rfl rfl
    · rw [if_neg hc] at h
      refine gs_0 (pc' := 26) (L' := [some (.ref l0), some (.int l1), some (.int l2), some (.int l3)]) (st' := [.ref l0]) cd_234_25 rfl rfl ?_
      refine gs_0 (pc' := 27) (L' := [some (.ref l0), some (.int l1), some (.int l2), some (.int l3)]) (st' := [.int 2, .ref l0]) cd_234_26 rfl rfl ?_
      obtain ⟨ht, h⟩ := gO_s h
      obtain ⟨v_25, w_22, I_23, J_24, hcl, h⟩ := cJ_s h
      refine gs_call (as := [.ref l0, .int 2]) (rest := []) cd_234_27 rfl (by decide) rfl (sm_rv_ok (by decide) ht) (Nat.le_of_ble_eq_true rfl) (Nat.le_of_ble_eq_true rfl) rfl hcl ?_
      cases h
      exact gsr cd_234_30 rfl rfl
  · rw [if_neg hc] at h
    refine gs_0 (pc' := 8) (L' := [some (.ref l0), some (.int l1), some (.int l2), some (.int l3)]) (st' := [.ref l0]) cd_234_7 rfl rfl ?_
    refine gs_0 (pc' := 9) (L' := [some (.ref l0), some (.int l1), some (.int l2), some (.int l3)]) (st' := [.int 1, .ref l0]) cd_234_8 rfl rfl ?_
    obtain ⟨ht, h⟩ := gO_s h
    obtain ⟨v_29, w_26, I_27, J_28, hcl, h⟩ := cJ_s h
    refine gs_call (as := [.ref l0, .int 1]) (rest := []) cd_234_9 rfl (by decide) rfl (sm_rv_ok (by decide) ht) (Nat.le_of_ble_eq_true rfl) (Nat.le_of_ble_eq_true rfl) rfl hcl ?_
    cases h
    exact gsr cd_234_12 rfl rfl
theorem cl_234 {K : Nat → Value} {k d : Nat} {l0 : Nat} {l1 : Int32} {l2 : Int32} {l3 : Int32} {w : aW} {I : aI} {J : aJ} {R : aR} (h : f_234 K k d l0 l1 l2 l3 w I J = some R) : Cl K (d + 1) 234 [.ref l0, .int l1, .int l2, .int l3] w I J = some R := Cl_of (ok_234 h)
/-! ProvedMachine$Sheet.write(II)V -/
set_option maxRecDepth 20000 in
theorem gl_235 : gcd.lookup 235 = some gw_235 := rfl
theorem cd_235_0 : sm_cd 235 0 = some (.aload_n 0, 1, 0, 0, 0, 0, 0, 0, 0) := cd_of gl_235 rfl
theorem cd_235_1 : sm_cd 235 1 = some (.iload_n 1, 1, 1, 0, 0, 0, 0, 0, 0) := cd_of gl_235 rfl
theorem cd_235_2 : sm_cd 235 2 = some (.iconst 1, 1, 0, 0, 0, 0, 0, 1, 0) := cd_of gl_235 rfl
theorem cd_235_3 : sm_cd 235 3 = some (.invokevirtual 26, 3, 226, 0, 2, 3, 3, 0, 0) := cd_of gl_235 rfl
theorem cd_235_6 : sm_cd 235 6 = some (.ifCond .eq 32, 3, 38, 0, 0, 0, 0, 0, 0) := cd_of gl_235 rfl
theorem cd_235_9 : sm_cd 235 9 = some (.aload_n 0, 1, 0, 0, 0, 0, 0, 0, 0) := cd_of gl_235 rfl
theorem cd_235_10 : sm_cd 235 10 = some (.getfield 9, 3, 3, 0, 2, 0, 0, 0, 0) := cd_of gl_235 rfl
theorem cd_235_13 : sm_cd 235 13 = some (.iload_n 1, 1, 1, 0, 0, 0, 0, 0, 0) := cd_of gl_235 rfl
theorem cd_235_14 : sm_cd 235 14 = some (.aload_n 0, 1, 0, 0, 0, 0, 0, 0, 0) := cd_of gl_235 rfl
theorem cd_235_15 : sm_cd 235 15 = some (.getfield 13, 3, 3, 1, 0, 0, 0, 0, 0) := cd_of gl_235 rfl
theorem cd_235_18 : sm_cd 235 18 = some (.bipush 32, 2, 0, 0, 0, 0, 0, 32, 0) := cd_of gl_235 rfl
theorem cd_235_20 : sm_cd 235 20 = some (.if_icmp .ne 7, 3, 27, 0, 0, 0, 0, 0, 0) := cd_of gl_235 rfl
theorem cd_235_23 : sm_cd 235 23 = some (.iload_n 2, 1, 2, 0, 0, 0, 0, 0, 0) := cd_of gl_235 rfl
theorem cd_235_24 : sm_cd 235 24 = some (.goto 13, 3, 37, 0, 0, 0, 0, 0, 0) := cd_of gl_235 rfl
theorem cd_235_27 : sm_cd 235 27 = some (.iload_n 2, 1, 2, 0, 0, 0, 0, 0, 0) := cd_of gl_235 rfl
theorem cd_235_28 : sm_cd 235 28 = some (.iconst 1, 1, 0, 0, 0, 0, 0, 1, 0) := cd_of gl_235 rfl
theorem cd_235_29 : sm_cd 235 29 = some (.aload_n 0, 1, 0, 0, 0, 0, 0, 0, 0) := cd_of gl_235 rfl
theorem cd_235_30 : sm_cd 235 30 = some (.getfield 13, 3, 3, 1, 0, 0, 0, 0, 0) := cd_of gl_235 rfl
theorem cd_235_33 : sm_cd 235 33 = some (.ishl, 1, 0, 0, 0, 0, 0, 0, 0) := cd_of gl_235 rfl
theorem cd_235_34 : sm_cd 235 34 = some (.iconst 1, 1, 0, 0, 0, 0, 0, 1, 0) := cd_of gl_235 rfl
theorem cd_235_35 : sm_cd 235 35 = some (.isub, 1, 0, 0, 0, 0, 0, 0, 0) := cd_of gl_235 rfl
theorem cd_235_36 : sm_cd 235 36 = some (.iand, 1, 0, 0, 0, 0, 0, 0, 0) := cd_of gl_235 rfl
theorem cd_235_37 : sm_cd 235 37 = some (.iastore, 1, 0, 0, 0, 0, 0, 0, 0) := cd_of gl_235 rfl
theorem cd_235_38 : sm_cd 235 38 = some (.return_, 1, 0, 0, 0, 0, 0, 0, 0) := cd_of gl_235 rfl
noncomputable def f_235_37 (K : Nat → Value) (k d : Nat) (l0 : Nat) (l1 : Int32) (l2 : Int32) (s0 : Nat) (s1 : Int32) (s2 : Int32) (w : aW) (I : aI) (J : aJ) : Option aR :=
  gA w 10 10 s0 s1 (
  lt_ (sm_up2 I s0 (s1 : Int32).toNatClampNeg s2) fun I_1 =>
  some (none, w, I_1, J))
theorem ok_235_37 {K : Nat → Value} {k d : Nat} {l0 : Nat} {l1 : Int32} {l2 : Int32} {s0 : Nat} {s1 : Int32} {s2 : Int32} {w : aW} {I : aI} {J : aJ} {R : aR} (h : f_235_37 K k d l0 l1 l2 s0 s1 s2 w I J = some R) : Go K (d + 1) 235 37 [some (.ref l0), some (.int l1), some (.int l2)] [.int s2, .int s1, .ref s0] w I J R := by
  unfold f_235_37 at h
  obtain ⟨ht, h⟩ := gA_s h
  refine gs_iast cd_235_37 ht ?_
  obtain ⟨I_1, hx, h⟩ := lt_s_ h
  rw [hx]
  cases h
  exact gsr cd_235_38 rfl rfl
noncomputable def f_235 (K : Nat → Value) (k d : Nat) (l0 : Nat) (l1 : Int32) (l2 : Int32) (w : aW) (I : aI) (J : aJ) : Option aR :=
  gO w 3 l0 (
  cI (Cl K d 226 [.ref l0, .int l1, .int 1] w I J) fun x_4 w_1 I_2 J_3 =>
  if x_4 = 0 then
    some (none, w_1, I_2, J_3)
  else
    gO w_1 3 l0 (
    gV w_1 l0 0 fun q_5 =>
    gO w_1 3 l0 (
    if ¬ (I_2 l0 1) = 32 then
      gO w_1 3 l0 (
      f_235_37 K k d l0 l1 l2 q_5 l1 (l2 &&& ((1 <<< ((I_2 l0 1) &&& 31)) - 1)) w_1 I_2 J_3)
    else
      f_235_37 K k d l0 l1 l2 q_5 l1 l2 w_1 I_2 J_3)))
theorem ok_235 {K : Nat → Value} {k d : Nat} {l0 : Nat} {l1 : Int32} {l2 : Int32} {w : aW} {I : aI} {J : aJ} {R : aR} (h : f_235 K k d l0 l1 l2 w I J = some R) : Go K (d + 1) 235 0 [some (.ref l0), some (.int l1), some (.int l2)] [] w I J R := by
  unfold f_235 at h
  refine gs_0 (pc' := 1) (L' := [some (.ref l0), some (.int l1), some (.int l2)]) (st' := [.ref l0]) cd_235_0 rfl rfl ?_
  refine gs_0 (pc' := 2) (L' := [some (.ref l0), some (.int l1), some (.int l2)]) (st' := [.int l1, .ref l0]) cd_235_1 rfl rfl ?_
  refine gs_0 (pc' := 3) (L' := [some (.ref l0), some (.int l1), some (.int l2)]) (st' := [.int 1, .int l1, .ref l0]) cd_235_2 rfl rfl ?_
  obtain ⟨ht, h⟩ := gO_s h
  obtain ⟨x_4, w_1, I_2, J_3, hcl, h⟩ := cI_s h
  refine gs_call (as := [.ref l0, .int l1, .int 1]) (rest := []) cd_235_3 rfl (by decide) rfl (sm_rv_ok (by decide) ht) (Nat.le_of_ble_eq_true rfl) (Nat.le_of_ble_eq_true rfl) rfl hcl ?_
  refine gs_0 (pc' := if x_4 = 0 then 38 else 9) (L' := [some (.ref l0), some (.int l1), some (.int l2)]) (st' := []) cd_235_6 rfl rfl ?_
  refine go_ite (fun hc => ?_) (fun hc => ?_)
  · rw [if_pos hc] at h
    cases h
    exact gsr cd_235_38 rfl rfl
  · rw [if_neg hc] at h
    refine gs_0 (pc' := 10) (L' := [some (.ref l0), some (.int l1), some (.int l2)]) (st' := [.ref l0]) cd_235_9 rfl rfl ?_
    obtain ⟨ht, h⟩ := gO_s h
    obtain ⟨q_5, hv, h⟩ := gV_s h
    refine gs_gfR cd_235_10 (by decide) ht hv ?_
    refine gs_0 (pc' := 14) (L' := [some (.ref l0), some (.int l1), some (.int l2)]) (st' := [.int l1, .ref q_5]) cd_235_13 rfl rfl ?_
    refine gs_0 (pc' := 15) (L' := [some (.ref l0), some (.int l1), some (.int l2)]) (st' := [.ref l0, .int l1, .ref q_5]) cd_235_14 rfl rfl ?_
    obtain ⟨ht, h⟩ := gO_s h
    refine gs_gfI cd_235_15 (by decide) (by decide) ht ?_
    refine gs_0 (pc' := 20) (L' := [some (.ref l0), some (.int l1), some (.int l2)]) (st' := [.int 32, .int (I_2 l0 1), .int l1, .ref q_5]) cd_235_18 rfl rfl ?_
    refine gs_0 (pc' := if ¬ (I_2 l0 1) = 32 then 27 else 23) (L' := [some (.ref l0), some (.int l1), some (.int l2)]) (st' := [.int l1, .ref q_5]) cd_235_20 rfl rfl ?_
    refine go_ite (fun hc => ?_) (fun hc => ?_)
    · rw [if_pos hc] at h
      refine gs_0 (pc' := 28) (L' := [some (.ref l0), some (.int l1), some (.int l2)]) (st' := [.int l2, .int l1, .ref q_5]) cd_235_27 rfl rfl ?_
      refine gs_0 (pc' := 29) (L' := [some (.ref l0), some (.int l1), some (.int l2)]) (st' := [.int 1, .int l2, .int l1, .ref q_5]) cd_235_28 rfl rfl ?_
      refine gs_0 (pc' := 30) (L' := [some (.ref l0), some (.int l1), some (.int l2)]) (st' := [.ref l0, .int 1, .int l2, .int l1, .ref q_5]) cd_235_29 rfl rfl ?_
      obtain ⟨ht, h⟩ := gO_s h
      refine gs_gfI cd_235_30 (by decide) (by decide) ht ?_
      refine gs_0 (pc' := 34) (L' := [some (.ref l0), some (.int l1), some (.int l2)]) (st' := [.int (1 <<< ((I_2 l0 1) &&& 31)), .int l2, .int l1, .ref q_5]) cd_235_33 rfl rfl ?_
      refine gs_0 (pc' := 35) (L' := [some (.ref l0), some (.int l1), some (.int l2)]) (st' := [.int 1, .int (1 <<< ((I_2 l0 1) &&& 31)), .int l2, .int l1, .ref q_5]) cd_235_34 rfl rfl ?_
      refine gs_0 (pc' := 36) (L' := [some (.ref l0), some (.int l1), some (.int l2)]) (st' := [.int ((1 <<< ((I_2 l0 1) &&& 31)) - 1), .int l2, .int l1, .ref q_5]) cd_235_35 rfl rfl ?_
      refine gs_0 (pc' := 37) (L' := [some (.ref l0), some (.int l1), some (.int l2)]) (st' := [.int (l2 &&& ((1 <<< ((I_2 l0 1) &&& 31)) - 1)), .int l1, .ref q_5]) cd_235_36 rfl rfl ?_
      exact ok_235_37 h
    · rw [if_neg hc] at h
      refine gs_0 (pc' := 24) (L' := [some (.ref l0), some (.int l1), some (.int l2)]) (st' := [.int l2, .int l1, .ref q_5]) cd_235_23 rfl rfl ?_
      refine gs_0 (pc' := 37) (L' := [some (.ref l0), some (.int l1), some (.int l2)]) (st' := [.int l2, .int l1, .ref q_5]) cd_235_24 rfl rfl ?_
      exact ok_235_37 h
theorem cl_235 {K : Nat → Value} {k d : Nat} {l0 : Nat} {l1 : Int32} {l2 : Int32} {w : aW} {I : aI} {J : aJ} {R : aR} (h : f_235 K k d l0 l1 l2 w I J = some R) : Cl K (d + 1) 235 [.ref l0, .int l1, .int l2] w I J = some R := Cl_of (ok_235 h)
/-! ProvedMachineModel.put(III)J -/
set_option maxRecDepth 20000 in
theorem gl_236 : gcd.lookup 236 = some gw_236 := rfl
theorem cd_236_0 : sm_cd 236 0 = some (.iload_n 1, 1, 1, 0, 0, 0, 0, 0, 0) := cd_of gl_236 rfl
theorem cd_236_1 : sm_cd 236 1 = some (.invokestatic 431, 3, 229, 1, 1, 1, 6, 0, 0) := cd_of gl_236 rfl
theorem cd_236_4 : sm_cd 236 4 = some (.ifCond .ne 9, 3, 13, 0, 0, 0, 0, 0, 0) := cd_of gl_236 rfl
theorem cd_236_7 : sm_cd 236 7 = some (.aload_n 0, 1, 0, 0, 0, 0, 0, 0, 0) := cd_of gl_236 rfl
theorem cd_236_8 : sm_cd 236 8 = some (.iconst 1, 1, 0, 0, 0, 0, 0, 1, 0) := cd_of gl_236 rfl
theorem cd_236_9 : sm_cd 236 9 = some (.invokevirtual 148, 3, 20, 0, 1, 2, 6, 0, 0) := cd_of gl_236 rfl
theorem cd_236_12 : sm_cd 236 12 = some (.lreturn, 1, 0, 0, 0, 0, 0, 0, 0) := cd_of gl_236 rfl
theorem cd_236_13 : sm_cd 236 13 = some (.aload_n 0, 1, 0, 0, 0, 0, 0, 0, 0) := cd_of gl_236 rfl
theorem cd_236_14 : sm_cd 236 14 = some (.getfield 130, 3, 6, 44, 2, 0, 0, 0, 0) := cd_of gl_236 rfl
theorem cd_236_17 : sm_cd 236 17 = some (.iload_n 1, 1, 1, 0, 0, 0, 0, 0, 0) := cd_of gl_236 rfl
theorem cd_236_18 : sm_cd 236 18 = some (.iaload, 1, 0, 0, 0, 0, 0, 0, 0) := cd_of gl_236 rfl
theorem cd_236_19 : sm_cd 236 19 = some (.ifCond .ne 9, 3, 28, 0, 0, 0, 0, 0, 0) := cd_of gl_236 rfl
theorem cd_236_22 : sm_cd 236 22 = some (.aload_n 0, 1, 0, 0, 0, 0, 0, 0, 0) := cd_of gl_236 rfl
theorem cd_236_23 : sm_cd 236 23 = some (.iconst 2, 1, 0, 0, 0, 0, 0, 2, 0) := cd_of gl_236 rfl
theorem cd_236_24 : sm_cd 236 24 = some (.invokevirtual 148, 3, 20, 0, 1, 2, 6, 0, 0) := cd_of gl_236 rfl
theorem cd_236_27 : sm_cd 236 27 = some (.lreturn, 1, 0, 0, 0, 0, 0, 0, 0) := cd_of gl_236 rfl
theorem cd_236_28 : sm_cd 236 28 = some (.iload_n 2, 1, 2, 0, 0, 0, 0, 0, 0) := cd_of gl_236 rfl
theorem cd_236_29 : sm_cd 236 29 = some (.iconst 0, 1, 0, 0, 0, 0, 0, 0, 0) := cd_of gl_236 rfl
theorem cd_236_30 : sm_cd 236 30 = some (.aload_n 0, 1, 0, 0, 0, 0, 0, 0, 0) := cd_of gl_236 rfl
theorem cd_236_31 : sm_cd 236 31 = some (.getfield 133, 3, 6, 45, 2, 0, 0, 0, 0) := cd_of gl_236 rfl
theorem cd_236_34 : sm_cd 236 34 = some (.iload_n 1, 1, 1, 0, 0, 0, 0, 0, 0) := cd_of gl_236 rfl
theorem cd_236_35 : sm_cd 236 35 = some (.iaload, 1, 0, 0, 0, 0, 0, 0, 0) := cd_of gl_236 rfl
theorem cd_236_36 : sm_cd 236 36 = some (.iconst 1, 1, 0, 0, 0, 0, 0, 1, 0) := cd_of gl_236 rfl
theorem cd_236_37 : sm_cd 236 37 = some (.isub, 1, 0, 0, 0, 0, 0, 0, 0) := cd_of gl_236 rfl
theorem cd_236_38 : sm_cd 236 38 = some (.invokestatic 144, 3, 19, 1, 3, 3, 6, 0, 0) := cd_of gl_236 rfl
theorem cd_236_41 : sm_cd 236 41 = some (.ifCond .ne 9, 3, 50, 0, 0, 0, 0, 0, 0) := cd_of gl_236 rfl
theorem cd_236_44 : sm_cd 236 44 = some (.aload_n 0, 1, 0, 0, 0, 0, 0, 0, 0) := cd_of gl_236 rfl
theorem cd_236_45 : sm_cd 236 45 = some (.iconst 1, 1, 0, 0, 0, 0, 0, 1, 0) := cd_of gl_236 rfl
theorem cd_236_46 : sm_cd 236 46 = some (.invokevirtual 148, 3, 20, 0, 1, 2, 6, 0, 0) := cd_of gl_236 rfl
theorem cd_236_49 : sm_cd 236 49 = some (.lreturn, 1, 0, 0, 0, 0, 0, 0, 0) := cd_of gl_236 rfl
theorem cd_236_50 : sm_cd 236 50 = some (.bipush 32, 2, 0, 0, 0, 0, 0, 32, 0) := cd_of gl_236 rfl
theorem cd_236_52 : sm_cd 236 52 = some (.aload_n 0, 1, 0, 0, 0, 0, 0, 0, 0) := cd_of gl_236 rfl
theorem cd_236_53 : sm_cd 236 53 = some (.getfield 130, 3, 6, 44, 2, 0, 0, 0, 0) := cd_of gl_236 rfl
theorem cd_236_56 : sm_cd 236 56 = some (.iload_n 1, 1, 1, 0, 0, 0, 0, 0, 0) := cd_of gl_236 rfl
theorem cd_236_57 : sm_cd 236 57 = some (.iaload, 1, 0, 0, 0, 0, 0, 0, 0) := cd_of gl_236 rfl
theorem cd_236_58 : sm_cd 236 58 = some (.isub, 1, 0, 0, 0, 0, 0, 0, 0) := cd_of gl_236 rfl
theorem cd_236_59 : sm_cd 236 59 = some (.istore 4, 2, 4, 0, 0, 0, 0, 0, 0) := cd_of gl_236 rfl
theorem cd_236_61 : sm_cd 236 61 = some (.aload_n 0, 1, 0, 0, 0, 0, 0, 0, 0) := cd_of gl_236 rfl
theorem cd_236_62 : sm_cd 236 62 = some (.getfield 136, 3, 6, 46, 2, 0, 0, 0, 0) := cd_of gl_236 rfl
theorem cd_236_65 : sm_cd 236 65 = some (.bipush 40, 2, 0, 0, 0, 0, 0, 40, 0) := cd_of gl_236 rfl
theorem cd_236_67 : sm_cd 236 67 = some (.iload_n 1, 1, 1, 0, 0, 0, 0, 0, 0) := cd_of gl_236 rfl
theorem cd_236_68 : sm_cd 236 68 = some (.imul, 1, 0, 0, 0, 0, 0, 0, 0) := cd_of gl_236 rfl
theorem cd_236_69 : sm_cd 236 69 = some (.iload_n 2, 1, 2, 0, 0, 0, 0, 0, 0) := cd_of gl_236 rfl
theorem cd_236_70 : sm_cd 236 70 = some (.iadd, 1, 0, 0, 0, 0, 0, 0, 0) := cd_of gl_236 rfl
theorem cd_236_71 : sm_cd 236 71 = some (.iload_n 3, 1, 3, 0, 0, 0, 0, 0, 0) := cd_of gl_236 rfl
theorem cd_236_72 : sm_cd 236 72 = some (.iload 4, 2, 4, 0, 0, 0, 0, 0, 0) := cd_of gl_236 rfl
theorem cd_236_74 : sm_cd 236 74 = some (.ishl, 1, 0, 0, 0, 0, 0, 0, 0) := cd_of gl_236 rfl
theorem cd_236_75 : sm_cd 236 75 = some (.iload 4, 2, 4, 0, 0, 0, 0, 0, 0) := cd_of gl_236 rfl
theorem cd_236_77 : sm_cd 236 77 = some (.ishr, 1, 0, 0, 0, 0, 0, 0, 0) := cd_of gl_236 rfl
theorem cd_236_78 : sm_cd 236 78 = some (.iastore, 1, 0, 0, 0, 0, 0, 0, 0) := cd_of gl_236 rfl
theorem cd_236_79 : sm_cd 236 79 = some (.lconst 0, 1, 0, 0, 0, 0, 0, 0, 0) := cd_of gl_236 rfl
theorem cd_236_80 : sm_cd 236 80 = some (.lreturn, 1, 0, 0, 0, 0, 0, 0, 0) := cd_of gl_236 rfl
noncomputable def f_236 (K : Nat → Value) (k d : Nat) (l0 : Nat) (l1 : Int32) (l2 : Int32) (l3 : Int32) (w : aW) (I : aI) (J : aJ) : Option aR :=
  cI (Cl K d 229 [.int l1] w I J) fun x_4 w_1 I_2 J_3 =>
  if ¬ x_4 = 0 then
    gO w_1 6 l0 (
    gV w_1 l0 44 fun q_5 =>
    gA w_1 10 20 q_5 l1 (
    if ¬ (I_2 q_5 (l1 : Int32).toNatClampNeg) = 0 then
      gO w_1 6 l0 (
      gV w_1 l0 45 fun q_6 =>
      gA w_1 10 20 q_6 l1 (
      cI (Cl K d 19 [.int l2, .int 0, .int ((I_2 q_6 (l1 : Int32).toNatClampNeg) - 1)] w_1 I_2 J_3) fun x_10 w_7 I_8 J_9 =>
      if ¬ x_10 = 0 then
        gO w_7 6 l0 (
        gV w_7 l0 44 fun q_11 =>
        gA w_7 10 20 q_11 l1 (
        lt_ (32 - (I_8 q_11 (l1 : Int32).toNatClampNeg)) fun x_12 =>
        gO w_7 6 l0 (
        gV w_7 l0 46 fun q_13 =>
        gA w_7 10 10 q_13 ((40 * l1) + l2) (
        lt_ (sm_up2 I_8 q_13 ((40 * l1) + l2 : Int32).toNatClampNeg ((l3 <<< (x_12 &&& 31)) >>> (x_12 &&& 31))) fun I_14 =>
        some (some (.long 0), w_7, I_14, J_9)))))
      else
        gO w_7 6 l0 (
        cJ (Cl K d 20 [.ref l0, .int 1] w_7 I_8 J_9) fun v_18 w_15 I_16 J_17 =>
        some (some (.long v_18), w_15, I_16, J_17))))
    else
      gO w_1 6 l0 (
      cJ (Cl K d 20 [.ref l0, .int 2] w_1 I_2 J_3) fun v_22 w_19 I_20 J_21 =>
      some (some (.long v_22), w_19, I_20, J_21))))
  else
    gO w_1 6 l0 (
    cJ (Cl K d 20 [.ref l0, .int 1] w_1 I_2 J_3) fun v_26 w_23 I_24 J_25 =>
    some (some (.long v_26), w_23, I_24, J_25))
theorem ok_236 {K : Nat → Value} {k d : Nat} {l0 : Nat} {l1 : Int32} {l2 : Int32} {l3 : Int32} {w : aW} {I : aI} {J : aJ} {R : aR} (h : f_236 K k d l0 l1 l2 l3 w I J = some R) : Go K (d + 1) 236 0 [some (.ref l0), some (.int l1), some (.int l2), some (.int l3), none] [] w I J R := by
  unfold f_236 at h
  refine gs_0 (pc' := 1) (L' := [some (.ref l0), some (.int l1), some (.int l2), some (.int l3), none]) (st' := [.int l1]) cd_236_0 rfl rfl ?_
  obtain ⟨x_4, w_1, I_2, J_3, hcl, h⟩ := cI_s h
  refine gs_call (as := [.int l1]) (rest := []) cd_236_1 rfl (by decide) rfl rfl (Nat.le_of_ble_eq_true rfl) (Nat.le_of_ble_eq_true rfl) rfl hcl ?_
  refine gs_0 (pc' := if ¬ x_4 = 0 then 13 else 7) (L' := [some (.ref l0), some (.int l1), some (.int l2), some (.int l3), none]) (st' := []) cd_236_4 rfl rfl ?_
  refine go_ite (fun hc => ?_) (fun hc => ?_)
  · rw [if_pos hc] at h
    refine gs_0 (pc' := 14) (L' := [some (.ref l0), some (.int l1), some (.int l2), some (.int l3), none]) (st' := [.ref l0]) cd_236_13 rfl rfl ?_
    obtain ⟨ht, h⟩ := gO_s h
    obtain ⟨q_5, hv, h⟩ := gV_s h
    refine gs_gfR cd_236_14 (by decide) ht hv ?_
    refine gs_0 (pc' := 18) (L' := [some (.ref l0), some (.int l1), some (.int l2), some (.int l3), none]) (st' := [.int l1, .ref q_5]) cd_236_17 rfl rfl ?_
    obtain ⟨ht, h⟩ := gA_s h
    refine gs_iald cd_236_18 ht ?_
    refine gs_0 (pc' := if ¬ (I_2 q_5 (l1 : Int32).toNatClampNeg) = 0 then 28 else 22) (L' := [some (.ref l0), some (.int l1), some (.int l2), some (.int l3), none]) (st' := []) cd_236_19 rfl rfl ?_
    refine go_ite (fun hc => ?_) (fun hc => ?_)
    · rw [if_pos hc] at h
      refine gs_0 (pc' := 29) (L' := [some (.ref l0), some (.int l1), some (.int l2), some (.int l3), none]) (st' := [.int l2]) cd_236_28 rfl rfl ?_
      refine gs_0 (pc' := 30) (L' := [some (.ref l0), some (.int l1), some (.int l2), some (.int l3), none]) (st' := [.int 0, .int l2]) cd_236_29 rfl rfl ?_
      refine gs_0 (pc' := 31) (L' := [some (.ref l0), some (.int l1), some (.int l2), some (.int l3), none]) (st' := [.ref l0, .int 0, .int l2]) cd_236_30 rfl rfl ?_
      obtain ⟨ht, h⟩ := gO_s h
      obtain ⟨q_6, hv, h⟩ := gV_s h
      refine gs_gfR cd_236_31 (by decide) ht hv ?_
      refine gs_0 (pc' := 35) (L' := [some (.ref l0), some (.int l1), some (.int l2), some (.int l3), none]) (st' := [.int l1, .ref q_6, .int 0, .int l2]) cd_236_34 rfl rfl ?_
      obtain ⟨ht, h⟩ := gA_s h
      refine gs_iald cd_236_35 ht ?_
      refine gs_0 (pc' := 37) (L' := [some (.ref l0), some (.int l1), some (.int l2), some (.int l3), none]) (st' := [.int 1, .int (I_2 q_6 (l1 : Int32).toNatClampNeg), .int 0, .int l2]) cd_236_36 rfl rfl ?_
      refine gs_0 (pc' := 38) (L' := [some (.ref l0), some (.int l1), some (.int l2), some (.int l3), none]) (st' := [.int ((I_2 q_6 (l1 : Int32).toNatClampNeg) - 1), .int 0, .int l2]) cd_236_37 rfl rfl ?_
      obtain ⟨x_10, w_7, I_8, J_9, hcl, h⟩ := cI_s h
      refine gs_call (as := [.int l2, .int 0, .int ((I_2 q_6 (l1 : Int32).toNatClampNeg) - 1)]) (rest := []) cd_236_38 rfl (by decide) rfl rfl (Nat.le_of_ble_eq_true rfl) (Nat.le_of_ble_eq_true rfl) rfl hcl ?_
      refine gs_0 (pc' := if ¬ x_10 = 0 then 50 else 44) (L' := [some (.ref l0), some (.int l1), some (.int l2), some (.int l3), none]) (st' := []) cd_236_41 rfl rfl ?_
      refine go_ite (fun hc => ?_) (fun hc => ?_)
      · rw [if_pos hc] at h
        refine gs_0 (pc' := 52) (L' := [some (.ref l0), some (.int l1), some (.int l2), some (.int l3), none]) (st' := [.int 32]) cd_236_50 rfl rfl ?_
        refine gs_0 (pc' := 53) (L' := [some (.ref l0), some (.int l1), some (.int l2), some (.int l3), none]) (st' := [.ref l0, .int 32]) cd_236_52 rfl rfl ?_
        obtain ⟨ht, h⟩ := gO_s h
        obtain ⟨q_11, hv, h⟩ := gV_s h
        refine gs_gfR cd_236_53 (by decide) ht hv ?_
        refine gs_0 (pc' := 57) (L' := [some (.ref l0), some (.int l1), some (.int l2), some (.int l3), none]) (st' := [.int l1, .ref q_11, .int 32]) cd_236_56 rfl rfl ?_
        obtain ⟨ht, h⟩ := gA_s h
        refine gs_iald cd_236_57 ht ?_
        refine gs_0 (pc' := 59) (L' := [some (.ref l0), some (.int l1), some (.int l2), some (.int l3), none]) (st' := [.int (32 - (I_8 q_11 (l1 : Int32).toNatClampNeg))]) cd_236_58 rfl rfl ?_
        refine gs_0 (pc' := 61) (L' := [some (.ref l0), some (.int l1), some (.int l2), some (.int l3), some (.int (32 - (I_8 q_11 (l1 : Int32).toNatClampNeg)))]) (st' := []) cd_236_59 rfl rfl ?_
        obtain ⟨x_12, hx, h⟩ := lt_s_ h
        rw [hx]
        clear hx
        refine gs_0 (pc' := 62) (L' := [some (.ref l0), some (.int l1), some (.int l2), some (.int l3), some (.int x_12)]) (st' := [.ref l0]) cd_236_61 rfl rfl ?_
        obtain ⟨ht, h⟩ := gO_s h
        obtain ⟨q_13, hv, h⟩ := gV_s h
        refine gs_gfR cd_236_62 (by decide) ht hv ?_
        refine gs_0 (pc' := 67) (L' := [some (.ref l0), some (.int l1), some (.int l2), some (.int l3), some (.int x_12)]) (st' := [.int 40, .ref q_13]) cd_236_65 rfl rfl ?_
        refine gs_0 (pc' := 68) (L' := [some (.ref l0), some (.int l1), some (.int l2), some (.int l3), some (.int x_12)]) (st' := [.int l1, .int 40, .ref q_13]) cd_236_67 rfl rfl ?_
        refine gs_0 (pc' := 69) (L' := [some (.ref l0), some (.int l1), some (.int l2), some (.int l3), some (.int x_12)]) (st' := [.int (40 * l1), .ref q_13]) cd_236_68 rfl rfl ?_
        refine gs_0 (pc' := 70) (L' := [some (.ref l0), some (.int l1), some (.int l2), some (.int l3), some (.int x_12)]) (st' := [.int l2, .int (40 * l1), .ref q_13]) cd_236_69 rfl rfl ?_
        refine gs_0 (pc' := 71) (L' := [some (.ref l0), some (.int l1), some (.int l2), some (.int l3), some (.int x_12)]) (st' := [.int ((40 * l1) + l2), .ref q_13]) cd_236_70 rfl rfl ?_
        refine gs_0 (pc' := 72) (L' := [some (.ref l0), some (.int l1), some (.int l2), some (.int l3), some (.int x_12)]) (st' := [.int l3, .int ((40 * l1) + l2), .ref q_13]) cd_236_71 rfl rfl ?_
        refine gs_0 (pc' := 74) (L' := [some (.ref l0), some (.int l1), some (.int l2), some (.int l3), some (.int x_12)]) (st' := [.int x_12, .int l3, .int ((40 * l1) + l2), .ref q_13]) cd_236_72 rfl rfl ?_
        refine gs_0 (pc' := 75) (L' := [some (.ref l0), some (.int l1), some (.int l2), some (.int l3), some (.int x_12)]) (st' := [.int (l3 <<< (x_12 &&& 31)), .int ((40 * l1) + l2), .ref q_13]) cd_236_74 rfl rfl ?_
        refine gs_0 (pc' := 77) (L' := [some (.ref l0), some (.int l1), some (.int l2), some (.int l3), some (.int x_12)]) (st' := [.int x_12, .int (l3 <<< (x_12 &&& 31)), .int ((40 * l1) + l2), .ref q_13]) cd_236_75 rfl rfl ?_
        refine gs_0 (pc' := 78) (L' := [some (.ref l0), some (.int l1), some (.int l2), some (.int l3), some (.int x_12)]) (st' := [.int ((l3 <<< (x_12 &&& 31)) >>> (x_12 &&& 31)), .int ((40 * l1) + l2), .ref q_13]) cd_236_77 rfl rfl ?_
        obtain ⟨ht, h⟩ := gA_s h
        refine gs_iast cd_236_78 ht ?_
        obtain ⟨I_14, hx, h⟩ := lt_s_ h
        rw [hx]
        refine gs_0 (pc' := 80) (L' := [some (.ref l0), some (.int l1), some (.int l2), some (.int l3), some (.int x_12)]) (st' := [.long 0]) cd_236_79 rfl rfl ?_
        cases h
        exact gsr cd_236_80 rfl rfl
      · rw [if_neg hc] at h
        refine gs_0 (pc' := 45) (L' := [some (.ref l0), some (.int l1), some (.int l2), some (.int l3), none]) (st' := [.ref l0]) cd_236_44 rfl rfl ?_
        refine gs_0 (pc' := 46) (L' := [some (.ref l0), some (.int l1), some (.int l2), some (.int l3), none]) (st' := [.int 1, .ref l0]) cd_236_45 rfl rfl ?_
        obtain ⟨ht, h⟩ := gO_s h
        obtain ⟨v_18, w_15, I_16, J_17, hcl, h⟩ := cJ_s h
        refine gs_call (as := [.ref l0, .int 1]) (rest := []) cd_236_46 rfl (by decide) rfl (sm_rv_ok (by decide) ht) (Nat.le_of_ble_eq_true rfl) (Nat.le_of_ble_eq_true rfl) rfl hcl ?_
        cases h
        exact gsr cd_236_49 rfl rfl
    · rw [if_neg hc] at h
      refine gs_0 (pc' := 23) (L' := [some (.ref l0), some (.int l1), some (.int l2), some (.int l3), none]) (st' := [.ref l0]) cd_236_22 rfl rfl ?_
      refine gs_0 (pc' := 24) (L' := [some (.ref l0), some (.int l1), some (.int l2), some (.int l3), none]) (st' := [.int 2, .ref l0]) cd_236_23 rfl rfl ?_
      obtain ⟨ht, h⟩ := gO_s h
      obtain ⟨v_22, w_19, I_20, J_21, hcl, h⟩ := cJ_s h
      refine gs_call (as := [.ref l0, .int 2]) (rest := []) cd_236_24 rfl (by decide) rfl (sm_rv_ok (by decide) ht) (Nat.le_of_ble_eq_true rfl) (Nat.le_of_ble_eq_true rfl) rfl hcl ?_
      cases h
      exact gsr cd_236_27 rfl rfl
  · rw [if_neg hc] at h
    refine gs_0 (pc' := 8) (L' := [some (.ref l0), some (.int l1), some (.int l2), some (.int l3), none]) (st' := [.ref l0]) cd_236_7 rfl rfl ?_
    refine gs_0 (pc' := 9) (L' := [some (.ref l0), some (.int l1), some (.int l2), some (.int l3), none]) (st' := [.int 1, .ref l0]) cd_236_8 rfl rfl ?_
    obtain ⟨ht, h⟩ := gO_s h
    obtain ⟨v_26, w_23, I_24, J_25, hcl, h⟩ := cJ_s h
    refine gs_call (as := [.ref l0, .int 1]) (rest := []) cd_236_9 rfl (by decide) rfl (sm_rv_ok (by decide) ht) (Nat.le_of_ble_eq_true rfl) (Nat.le_of_ble_eq_true rfl) rfl hcl ?_
    cases h
    exact gsr cd_236_12 rfl rfl
theorem cl_236 {K : Nat → Value} {k d : Nat} {l0 : Nat} {l1 : Int32} {l2 : Int32} {l3 : Int32} {w : aW} {I : aI} {J : aJ} {R : aR} (h : f_236 K k d l0 l1 l2 l3 w I J = some R) : Cl K (d + 1) 236 [.ref l0, .int l1, .int l2, .int l3] w I J = some R := Cl_of (ok_236 h)
/-! ProvedMachine.copy(IIIII)J -/
set_option maxRecDepth 20000 in
theorem gl_237 : gcd.lookup 237 = some gw_237 := rfl
theorem cd_237_0 : sm_cd 237 0 = some (.iload_n 1, 1, 1, 0, 0, 0, 0, 0, 0) := cd_of gl_237 rfl
theorem cd_237_1 : sm_cd 237 1 = some (.invokestatic 160, 3, 223, 1, 1, 1, 5, 0, 0) := cd_of gl_237 rfl
theorem cd_237_4 : sm_cd 237 4 = some (.ifCond .eq 10, 3, 14, 0, 0, 0, 0, 0, 0) := cd_of gl_237 rfl
theorem cd_237_7 : sm_cd 237 7 = some (.iload_n 3, 1, 3, 0, 0, 0, 0, 0, 0) := cd_of gl_237 rfl
theorem cd_237_8 : sm_cd 237 8 = some (.invokestatic 160, 3, 223, 1, 1, 1, 5, 0, 0) := cd_of gl_237 rfl
theorem cd_237_11 : sm_cd 237 11 = some (.ifCond .ne 9, 3, 20, 0, 0, 0, 0, 0, 0) := cd_of gl_237 rfl
theorem cd_237_14 : sm_cd 237 14 = some (.aload_n 0, 1, 0, 0, 0, 0, 0, 0, 0) := cd_of gl_237 rfl
theorem cd_237_15 : sm_cd 237 15 = some (.iconst 1, 1, 0, 0, 0, 0, 0, 1, 0) := cd_of gl_237 rfl
theorem cd_237_16 : sm_cd 237 16 = some (.invokevirtual 60, 3, 17, 0, 1, 2, 5, 0, 0) := cd_of gl_237 rfl
theorem cd_237_19 : sm_cd 237 19 = some (.lreturn, 1, 0, 0, 0, 0, 0, 0, 0) := cd_of gl_237 rfl
theorem cd_237_20 : sm_cd 237 20 = some (.aload_n 0, 1, 0, 0, 0, 0, 0, 0, 0) := cd_of gl_237 rfl
theorem cd_237_21 : sm_cd 237 21 = some (.getfield 46, 3, 5, 6, 2, 0, 0, 0, 0) := cd_of gl_237 rfl
theorem cd_237_24 : sm_cd 237 24 = some (.iload_n 1, 1, 1, 0, 0, 0, 0, 0, 0) := cd_of gl_237 rfl
theorem cd_237_25 : sm_cd 237 25 = some (.aaload, 1, 0, 0, 0, 0, 0, 0, 0) := cd_of gl_237 rfl
theorem cd_237_26 : sm_cd 237 26 = some (.getfield 163, 3, 3, 1, 0, 1, 0, 0, 0) := cd_of gl_237 rfl
theorem cd_237_29 : sm_cd 237 29 = some (.ifCond .eq 15, 3, 44, 0, 0, 0, 0, 0, 0) := cd_of gl_237 rfl
theorem cd_237_32 : sm_cd 237 32 = some (.aload_n 0, 1, 0, 0, 0, 0, 0, 0, 0) := cd_of gl_237 rfl
theorem cd_237_33 : sm_cd 237 33 = some (.getfield 46, 3, 5, 6, 2, 0, 0, 0, 0) := cd_of gl_237 rfl
theorem cd_237_36 : sm_cd 237 36 = some (.iload_n 3, 1, 3, 0, 0, 0, 0, 0, 0) := cd_of gl_237 rfl
theorem cd_237_37 : sm_cd 237 37 = some (.aaload, 1, 0, 0, 0, 0, 0, 0, 0) := cd_of gl_237 rfl
theorem cd_237_38 : sm_cd 237 38 = some (.getfield 163, 3, 3, 1, 0, 1, 0, 0, 0) := cd_of gl_237 rfl
theorem cd_237_41 : sm_cd 237 41 = some (.ifCond .ne 9, 3, 50, 0, 0, 0, 0, 0, 0) := cd_of gl_237 rfl
theorem cd_237_44 : sm_cd 237 44 = some (.aload_n 0, 1, 0, 0, 0, 0, 0, 0, 0) := cd_of gl_237 rfl
theorem cd_237_45 : sm_cd 237 45 = some (.iconst 2, 1, 0, 0, 0, 0, 0, 2, 0) := cd_of gl_237 rfl
theorem cd_237_46 : sm_cd 237 46 = some (.invokevirtual 60, 3, 17, 0, 1, 2, 5, 0, 0) := cd_of gl_237 rfl
theorem cd_237_49 : sm_cd 237 49 = some (.lreturn, 1, 0, 0, 0, 0, 0, 0, 0) := cd_of gl_237 rfl
theorem cd_237_50 : sm_cd 237 50 = some (.aload_n 0, 1, 0, 0, 0, 0, 0, 0, 0) := cd_of gl_237 rfl
theorem cd_237_51 : sm_cd 237 51 = some (.getfield 46, 3, 5, 6, 2, 0, 0, 0, 0) := cd_of gl_237 rfl
theorem cd_237_54 : sm_cd 237 54 = some (.iload_n 1, 1, 1, 0, 0, 0, 0, 0, 0) := cd_of gl_237 rfl
theorem cd_237_55 : sm_cd 237 55 = some (.aaload, 1, 0, 0, 0, 0, 0, 0, 0) := cd_of gl_237 rfl
theorem cd_237_56 : sm_cd 237 56 = some (.getfield 163, 3, 3, 1, 0, 1, 0, 0, 0) := cd_of gl_237 rfl
theorem cd_237_59 : sm_cd 237 59 = some (.aload_n 0, 1, 0, 0, 0, 0, 0, 0, 0) := cd_of gl_237 rfl
theorem cd_237_60 : sm_cd 237 60 = some (.getfield 46, 3, 5, 6, 2, 0, 0, 0, 0) := cd_of gl_237 rfl
theorem cd_237_63 : sm_cd 237 63 = some (.iload_n 3, 1, 3, 0, 0, 0, 0, 0, 0) := cd_of gl_237 rfl
theorem cd_237_64 : sm_cd 237 64 = some (.aaload, 1, 0, 0, 0, 0, 0, 0, 0) := cd_of gl_237 rfl
theorem cd_237_65 : sm_cd 237 65 = some (.getfield 163, 3, 3, 1, 0, 1, 0, 0, 0) := cd_of gl_237 rfl
theorem cd_237_68 : sm_cd 237 68 = some (.if_icmp .eq 9, 3, 77, 0, 0, 0, 0, 0, 0) := cd_of gl_237 rfl
theorem cd_237_71 : sm_cd 237 71 = some (.aload_n 0, 1, 0, 0, 0, 0, 0, 0, 0) := cd_of gl_237 rfl
theorem cd_237_72 : sm_cd 237 72 = some (.iconst 4, 1, 0, 0, 0, 0, 0, 4, 0) := cd_of gl_237 rfl
theorem cd_237_73 : sm_cd 237 73 = some (.invokevirtual 60, 3, 17, 0, 1, 2, 5, 0, 0) := cd_of gl_237 rfl
theorem cd_237_76 : sm_cd 237 76 = some (.lreturn, 1, 0, 0, 0, 0, 0, 0, 0) := cd_of gl_237 rfl
theorem cd_237_77 : sm_cd 237 77 = some (.aload_n 0, 1, 0, 0, 0, 0, 0, 0, 0) := cd_of gl_237 rfl
theorem cd_237_78 : sm_cd 237 78 = some (.getfield 46, 3, 5, 6, 2, 0, 0, 0, 0) := cd_of gl_237 rfl
theorem cd_237_81 : sm_cd 237 81 = some (.iload_n 1, 1, 1, 0, 0, 0, 0, 0, 0) := cd_of gl_237 rfl
theorem cd_237_82 : sm_cd 237 82 = some (.aaload, 1, 0, 0, 0, 0, 0, 0, 0) := cd_of gl_237 rfl
theorem cd_237_83 : sm_cd 237 83 = some (.iload_n 2, 1, 2, 0, 0, 0, 0, 0, 0) := cd_of gl_237 rfl
theorem cd_237_84 : sm_cd 237 84 = some (.iload 5, 2, 5, 0, 0, 0, 0, 0, 0) := cd_of gl_237 rfl
theorem cd_237_86 : sm_cd 237 86 = some (.invokevirtual 180, 3, 226, 0, 2, 3, 3, 0, 0) := cd_of gl_237 rfl
theorem cd_237_89 : sm_cd 237 89 = some (.ifCond .eq 19, 3, 108, 0, 0, 0, 0, 0, 0) := cd_of gl_237 rfl
theorem cd_237_92 : sm_cd 237 92 = some (.aload_n 0, 1, 0, 0, 0, 0, 0, 0, 0) := cd_of gl_237 rfl
theorem cd_237_93 : sm_cd 237 93 = some (.getfield 46, 3, 5, 6, 2, 0, 0, 0, 0) := cd_of gl_237 rfl
theorem cd_237_96 : sm_cd 237 96 = some (.iload_n 3, 1, 3, 0, 0, 0, 0, 0, 0) := cd_of gl_237 rfl
theorem cd_237_97 : sm_cd 237 97 = some (.aaload, 1, 0, 0, 0, 0, 0, 0, 0) := cd_of gl_237 rfl
theorem cd_237_98 : sm_cd 237 98 = some (.iload 4, 2, 4, 0, 0, 0, 0, 0, 0) := cd_of gl_237 rfl
theorem cd_237_100 : sm_cd 237 100 = some (.iload 5, 2, 5, 0, 0, 0, 0, 0, 0) := cd_of gl_237 rfl
theorem cd_237_102 : sm_cd 237 102 = some (.invokevirtual 180, 3, 226, 0, 2, 3, 3, 0, 0) := cd_of gl_237 rfl
theorem cd_237_105 : sm_cd 237 105 = some (.ifCond .ne 9, 3, 114, 0, 0, 0, 0, 0, 0) := cd_of gl_237 rfl
theorem cd_237_108 : sm_cd 237 108 = some (.aload_n 0, 1, 0, 0, 0, 0, 0, 0, 0) := cd_of gl_237 rfl
theorem cd_237_109 : sm_cd 237 109 = some (.iconst 1, 1, 0, 0, 0, 0, 0, 1, 0) := cd_of gl_237 rfl
theorem cd_237_110 : sm_cd 237 110 = some (.invokevirtual 60, 3, 17, 0, 1, 2, 5, 0, 0) := cd_of gl_237 rfl
theorem cd_237_113 : sm_cd 237 113 = some (.lreturn, 1, 0, 0, 0, 0, 0, 0, 0) := cd_of gl_237 rfl
theorem cd_237_114 : sm_cd 237 114 = some (.aload_n 0, 1, 0, 0, 0, 0, 0, 0, 0) := cd_of gl_237 rfl
theorem cd_237_115 : sm_cd 237 115 = some (.getfield 46, 3, 5, 6, 2, 0, 0, 0, 0) := cd_of gl_237 rfl
theorem cd_237_118 : sm_cd 237 118 = some (.iload_n 1, 1, 1, 0, 0, 0, 0, 0, 0) := cd_of gl_237 rfl
theorem cd_237_119 : sm_cd 237 119 = some (.aaload, 1, 0, 0, 0, 0, 0, 0, 0) := cd_of gl_237 rfl
theorem cd_237_120 : sm_cd 237 120 = some (.getfield 185, 3, 3, 0, 2, 1, 0, 0, 0) := cd_of gl_237 rfl
theorem cd_237_123 : sm_cd 237 123 = some (.iload_n 2, 1, 2, 0, 0, 0, 0, 0, 0) := cd_of gl_237 rfl
theorem cd_237_124 : sm_cd 237 124 = some (.aload_n 0, 1, 0, 0, 0, 0, 0, 0, 0) := cd_of gl_237 rfl
theorem cd_237_125 : sm_cd 237 125 = some (.getfield 46, 3, 5, 6, 2, 0, 0, 0, 0) := cd_of gl_237 rfl
theorem cd_237_128 : sm_cd 237 128 = some (.iload_n 3, 1, 3, 0, 0, 0, 0, 0, 0) := cd_of gl_237 rfl
theorem cd_237_129 : sm_cd 237 129 = some (.aaload, 1, 0, 0, 0, 0, 0, 0, 0) := cd_of gl_237 rfl
theorem cd_237_130 : sm_cd 237 130 = some (.getfield 185, 3, 3, 0, 2, 1, 0, 0, 0) := cd_of gl_237 rfl
theorem cd_237_133 : sm_cd 237 133 = some (.iload 4, 2, 4, 0, 0, 0, 0, 0, 0) := cd_of gl_237 rfl
theorem cd_237_135 : sm_cd 237 135 = some (.iload 5, 2, 5, 0, 0, 0, 0, 0, 0) := cd_of gl_237 rfl
theorem cd_237_137 : sm_cd 237 137 = some (.invokestatic 188, 3, 0, 4, 0, 0, 0, 0, 0) := cd_of gl_237 rfl
theorem cd_237_140 : sm_cd 237 140 = some (.iload 5, 2, 5, 0, 0, 0, 0, 0, 0) := cd_of gl_237 rfl
theorem cd_237_142 : sm_cd 237 142 = some (.i2l, 1, 0, 0, 0, 0, 0, 0, 0) := cd_of gl_237 rfl
theorem cd_237_143 : sm_cd 237 143 = some (.lreturn, 1, 0, 0, 0, 0, 0, 0, 0) := cd_of gl_237 rfl
noncomputable def f_237_108 (K : Nat → Value) (k d : Nat) (l0 : Nat) (l1 : Int32) (l2 : Int32) (l3 : Int32) (l4 : Int32) (l5 : Int32) (w : aW) (I : aI) (J : aJ) : Option aR :=
  gO w 5 l0 (
  cJ (Cl K d 17 [.ref l0, .int 1] w I J) fun v_4 w_1 I_2 J_3 =>
  some (some (.long v_4), w_1, I_2, J_3))
theorem ok_237_108 {K : Nat → Value} {k d : Nat} {l0 : Nat} {l1 : Int32} {l2 : Int32} {l3 : Int32} {l4 : Int32} {l5 : Int32} {w : aW} {I : aI} {J : aJ} {R : aR} (h : f_237_108 K k d l0 l1 l2 l3 l4 l5 w I J = some R) : Go K (d + 1) 237 108 [some (.ref l0), some (.int l1), some (.int l2), some (.int l3), some (.int l4), some (.int l5)] [] w I J R := by
  unfold f_237_108 at h
  refine gs_0 (pc' := 109) (L' := [some (.ref l0), some (.int l1), some (.int l2), some (.int l3), some (.int l4), some (.int l5)]) (st' := [.ref l0]) cd_237_108 rfl rfl ?_
  refine gs_0 (pc' := 110) (L' := [some (.ref l0), some (.int l1), some (.int l2), some (.int l3), some (.int l4), some (.int l5)]) (st' := [.int 1, .ref l0]) cd_237_109 rfl rfl ?_
  obtain ⟨ht, h⟩ := gO_s h
  obtain ⟨v_4, w_1, I_2, J_3, hcl, h⟩ := cJ_s h
  refine gs_call (as := [.ref l0, .int 1]) (rest := []) cd_237_110 rfl (by decide) rfl (sm_rv_ok (by decide) ht) (Nat.le_of_ble_eq_true rfl) (Nat.le_of_ble_eq_true rfl) rfl hcl ?_
  cases h
  exact gsr cd_237_113 rfl rfl
noncomputable def f_237_44 (K : Nat → Value) (k d : Nat) (l0 : Nat) (l1 : Int32) (l2 : Int32) (l3 : Int32) (l4 : Int32) (l5 : Int32) (w : aW) (I : aI) (J : aJ) : Option aR :=
  gO w 5 l0 (
  cJ (Cl K d 17 [.ref l0, .int 2] w I J) fun v_4 w_1 I_2 J_3 =>
  some (some (.long v_4), w_1, I_2, J_3))
theorem ok_237_44 {K : Nat → Value} {k d : Nat} {l0 : Nat} {l1 : Int32} {l2 : Int32} {l3 : Int32} {l4 : Int32} {l5 : Int32} {w : aW} {I : aI} {J : aJ} {R : aR} (h : f_237_44 K k d l0 l1 l2 l3 l4 l5 w I J = some R) : Go K (d + 1) 237 44 [some (.ref l0), some (.int l1), some (.int l2), some (.int l3), some (.int l4), some (.int l5)] [] w I J R := by
  unfold f_237_44 at h
  refine gs_0 (pc' := 45) (L' := [some (.ref l0), some (.int l1), some (.int l2), some (.int l3), some (.int l4), some (.int l5)]) (st' := [.ref l0]) cd_237_44 rfl rfl ?_
  refine gs_0 (pc' := 46) (L' := [some (.ref l0), some (.int l1), some (.int l2), some (.int l3), some (.int l4), some (.int l5)]) (st' := [.int 2, .ref l0]) cd_237_45 rfl rfl ?_
  obtain ⟨ht, h⟩ := gO_s h
  obtain ⟨v_4, w_1, I_2, J_3, hcl, h⟩ := cJ_s h
  refine gs_call (as := [.ref l0, .int 2]) (rest := []) cd_237_46 rfl (by decide) rfl (sm_rv_ok (by decide) ht) (Nat.le_of_ble_eq_true rfl) (Nat.le_of_ble_eq_true rfl) rfl hcl ?_
  cases h
  exact gsr cd_237_49 rfl rfl
noncomputable def f_237_14 (K : Nat → Value) (k d : Nat) (l0 : Nat) (l1 : Int32) (l2 : Int32) (l3 : Int32) (l4 : Int32) (l5 : Int32) (w : aW) (I : aI) (J : aJ) : Option aR :=
  gO w 5 l0 (
  cJ (Cl K d 17 [.ref l0, .int 1] w I J) fun v_4 w_1 I_2 J_3 =>
  some (some (.long v_4), w_1, I_2, J_3))
theorem ok_237_14 {K : Nat → Value} {k d : Nat} {l0 : Nat} {l1 : Int32} {l2 : Int32} {l3 : Int32} {l4 : Int32} {l5 : Int32} {w : aW} {I : aI} {J : aJ} {R : aR} (h : f_237_14 K k d l0 l1 l2 l3 l4 l5 w I J = some R) : Go K (d + 1) 237 14 [some (.ref l0), some (.int l1), some (.int l2), some (.int l3), some (.int l4), some (.int l5)] [] w I J R := by
  unfold f_237_14 at h
  refine gs_0 (pc' := 15) (L' := [some (.ref l0), some (.int l1), some (.int l2), some (.int l3), some (.int l4), some (.int l5)]) (st' := [.ref l0]) cd_237_14 rfl rfl ?_
  refine gs_0 (pc' := 16) (L' := [some (.ref l0), some (.int l1), some (.int l2), some (.int l3), some (.int l4), some (.int l5)]) (st' := [.int 1, .ref l0]) cd_237_15 rfl rfl ?_
  obtain ⟨ht, h⟩ := gO_s h
  obtain ⟨v_4, w_1, I_2, J_3, hcl, h⟩ := cJ_s h
  refine gs_call (as := [.ref l0, .int 1]) (rest := []) cd_237_16 rfl (by decide) rfl (sm_rv_ok (by decide) ht) (Nat.le_of_ble_eq_true rfl) (Nat.le_of_ble_eq_true rfl) rfl hcl ?_
  cases h
  exact gsr cd_237_19 rfl rfl
noncomputable def f_237 (K : Nat → Value) (k d : Nat) (l0 : Nat) (l1 : Int32) (l2 : Int32) (l3 : Int32) (l4 : Int32) (l5 : Int32) (w : aW) (I : aI) (J : aJ) : Option aR :=
  cI (Cl K d 223 [.int l1] w I J) fun x_4 w_1 I_2 J_3 =>
  if x_4 = 0 then
    f_237_14 K k d l0 l1 l2 l3 l4 l5 w_1 I_2 J_3
  else
    cI (Cl K d 223 [.int l3] w_1 I_2 J_3) fun x_8 w_5 I_6 J_7 =>
    if ¬ x_8 = 0 then
      gO w_5 5 l0 (
      gV w_5 l0 6 fun q_9 =>
      gA w_5 14 15 q_9 l1 (
      gV w_5 q_9 (l1 : Int32).toNatClampNeg fun q_10 =>
      gO w_5 3 q_10 (
      if (I_6 q_10 1) = 0 then
        f_237_44 K k d l0 l1 l2 l3 l4 l5 w_5 I_6 J_7
      else
        gO w_5 5 l0 (
        gV w_5 l0 6 fun q_11 =>
        gA w_5 14 15 q_11 l3 (
        gV w_5 q_11 (l3 : Int32).toNatClampNeg fun q_12 =>
        gO w_5 3 q_12 (
        if ¬ (I_6 q_12 1) = 0 then
          gO w_5 5 l0 (
          gV w_5 l0 6 fun q_13 =>
          gA w_5 14 15 q_13 l1 (
          gV w_5 q_13 (l1 : Int32).toNatClampNeg fun q_14 =>
          gO w_5 3 q_14 (
          gO w_5 5 l0 (
          gV w_5 l0 6 fun q_15 =>
          gA w_5 14 15 q_15 l3 (
          gV w_5 q_15 (l3 : Int32).toNatClampNeg fun q_16 =>
          gO w_5 3 q_16 (
          if (I_6 q_14 1) = (I_6 q_16 1) then
            gO w_5 5 l0 (
            gV w_5 l0 6 fun q_17 =>
            gA w_5 14 15 q_17 l1 (
            gV w_5 q_17 (l1 : Int32).toNatClampNeg fun q_18 =>
            gO w_5 3 q_18 (
            cI (Cl K d 226 [.ref q_18, .int l2, .int l5] w_5 I_6 J_7) fun x_22 w_19 I_20 J_21 =>
            if x_22 = 0 then
              f_237_108 K k d l0 l1 l2 l3 l4 l5 w_19 I_20 J_21
            else
              gO w_19 5 l0 (
              gV w_19 l0 6 fun q_23 =>
              gA w_19 14 15 q_23 l3 (
              gV w_19 q_23 (l3 : Int32).toNatClampNeg fun q_24 =>
              gO w_19 3 q_24 (
              cI (Cl K d 226 [.ref q_24, .int l4, .int l5] w_19 I_20 J_21) fun x_28 w_25 I_26 J_27 =>
              if ¬ x_28 = 0 then
                gO w_25 5 l0 (
                gV w_25 l0 6 fun q_29 =>
                gA w_25 14 15 q_29 l1 (
                gV w_25 q_29 (l1 : Int32).toNatClampNeg fun q_30 =>
                gO w_25 3 q_30 (
                gV w_25 q_30 0 fun q_31 =>
                gO w_25 5 l0 (
                gV w_25 l0 6 fun q_32 =>
                gA w_25 14 15 q_32 l3 (
                gV w_25 q_32 (l3 : Int32).toNatClampNeg fun q_33 =>
                gO w_25 3 q_33 (
                gV w_25 q_33 0 fun q_34 =>
                gY w_25 q_31 q_34 l2 l4 l5 (
                lt_ (sm_up1 I_26 q_34 (va_cpy (I_26 q_31) (I_26 q_34) (l2 : Int32).toNatClampNeg (l4 : Int32).toNatClampNeg (l5 : Int32).toNatClampNeg)) fun I_35 =>
                some (some (.long ((l5 : Int32).toInt64)), w_25, I_35, J_27))))))))
              else
                f_237_108 K k d l0 l1 l2 l3 l4 l5 w_25 I_26 J_27))))))
          else
            gO w_5 5 l0 (
            cJ (Cl K d 17 [.ref l0, .int 4] w_5 I_6 J_7) fun v_39 w_36 I_37 J_38 =>
            some (some (.long v_39), w_36, I_37, J_38))))))))
        else
          f_237_44 K k d l0 l1 l2 l3 l4 l5 w_5 I_6 J_7))))))
    else
      f_237_14 K k d l0 l1 l2 l3 l4 l5 w_5 I_6 J_7
theorem ok_237 {K : Nat → Value} {k d : Nat} {l0 : Nat} {l1 : Int32} {l2 : Int32} {l3 : Int32} {l4 : Int32} {l5 : Int32} {w : aW} {I : aI} {J : aJ} {R : aR} (h : f_237 K k d l0 l1 l2 l3 l4 l5 w I J = some R) : Go K (d + 1) 237 0 [some (.ref l0), some (.int l1), some (.int l2), some (.int l3), some (.int l4), some (.int l5)] [] w I J R := by
  unfold f_237 at h
  refine gs_0 (pc' := 1) (L' := [some (.ref l0), some (.int l1), some (.int l2), some (.int l3), some (.int l4), some (.int l5)]) (st' := [.int l1]) cd_237_0 rfl rfl ?_
  obtain ⟨x_4, w_1, I_2, J_3, hcl, h⟩ := cI_s h
  refine gs_call (as := [.int l1]) (rest := []) cd_237_1 rfl (by decide) rfl rfl (Nat.le_of_ble_eq_true rfl) (Nat.le_of_ble_eq_true rfl) rfl hcl ?_
  refine gs_0 (pc' := if x_4 = 0 then 14 else 7) (L' := [some (.ref l0), some (.int l1), some (.int l2), some (.int l3), some (.int l4), some (.int l5)]) (st' := []) cd_237_4 rfl rfl ?_
  refine go_ite (fun hc => ?_) (fun hc => ?_)
  · rw [if_pos hc] at h
    exact ok_237_14 h
  · rw [if_neg hc] at h
    refine gs_0 (pc' := 8) (L' := [some (.ref l0), some (.int l1), some (.int l2), some (.int l3), some (.int l4), some (.int l5)]) (st' := [.int l3]) cd_237_7 rfl rfl ?_
    obtain ⟨x_8, w_5, I_6, J_7, hcl, h⟩ := cI_s h
    refine gs_call (as := [.int l3]) (rest := []) cd_237_8 rfl (by decide) rfl rfl (Nat.le_of_ble_eq_true rfl) (Nat.le_of_ble_eq_true rfl) rfl hcl ?_
    refine gs_0 (pc' := if ¬ x_8 = 0 then 20 else 14) (L' := [some (.ref l0), some (.int l1), some (.int l2), some (.int l3), some (.int l4), some (.int l5)]) (st' := []) cd_237_11 rfl rfl ?_
    refine go_ite (fun hc => ?_) (fun hc => ?_)
    · rw [if_pos hc] at h
      refine gs_0 (pc' := 21) (L' := [some (.ref l0), some (.int l1), some (.int l2), some (.int l3), some (.int l4), some (.int l5)]) (st' := [.ref l0]) cd_237_20 rfl rfl ?_
      obtain ⟨ht, h⟩ := gO_s h
      obtain ⟨q_9, hv, h⟩ := gV_s h
      refine gs_gfR cd_237_21 (by decide) ht hv ?_
      refine gs_0 (pc' := 25) (L' := [some (.ref l0), some (.int l1), some (.int l2), some (.int l3), some (.int l4), some (.int l5)]) (st' := [.int l1, .ref q_9]) cd_237_24 rfl rfl ?_
      obtain ⟨ht, h⟩ := gA_s h
      obtain ⟨q_10, hv, h⟩ := gV_s h
      refine gs_rald cd_237_25 ht hv ?_
      obtain ⟨ht, h⟩ := gO_s h
      refine gs_gfI cd_237_26 (by decide) (by decide) ht ?_
      refine gs_0 (pc' := if (I_6 q_10 1) = 0 then 44 else 32) (L' := [some (.ref l0), some (.int l1), some (.int l2), some (.int l3), some (.int l4), some (.int l5)]) (st' := []) cd_237_29 rfl rfl ?_
      refine go_ite (fun hc => ?_) (fun hc => ?_)
      · rw [if_pos hc] at h
        exact ok_237_44 h
      · rw [if_neg hc] at h
        refine gs_0 (pc' := 33) (L' := [some (.ref l0), some (.int l1), some (.int l2), some (.int l3), some (.int l4), some (.int l5)]) (st' := [.ref l0]) cd_237_32 rfl rfl ?_
        obtain ⟨ht, h⟩ := gO_s h
        obtain ⟨q_11, hv, h⟩ := gV_s h
        refine gs_gfR cd_237_33 (by decide) ht hv ?_
        refine gs_0 (pc' := 37) (L' := [some (.ref l0), some (.int l1), some (.int l2), some (.int l3), some (.int l4), some (.int l5)]) (st' := [.int l3, .ref q_11]) cd_237_36 rfl rfl ?_
        obtain ⟨ht, h⟩ := gA_s h
        obtain ⟨q_12, hv, h⟩ := gV_s h
        refine gs_rald cd_237_37 ht hv ?_
        obtain ⟨ht, h⟩ := gO_s h
        refine gs_gfI cd_237_38 (by decide) (by decide) ht ?_
        refine gs_0 (pc' := if ¬ (I_6 q_12 1) = 0 then 50 else 44) (L' := [some (.ref l0), some (.int l1), some (.int l2), some (.int l3), some (.int l4), some (.int l5)]) (st' := []) cd_237_41 rfl rfl ?_
        refine go_ite (fun hc => ?_) (fun hc => ?_)
        · rw [if_pos hc] at h
          refine gs_0 (pc' := 51) (L' := [some (.ref l0), some (.int l1), some (.int l2), some (.int l3), some (.int l4), some (.int l5)]) (st' := [.ref l0]) cd_237_50 rfl rfl ?_
          obtain ⟨ht, h⟩ := gO_s h
          obtain ⟨q_13, hv, h⟩ := gV_s h
          refine gs_gfR cd_237_51 (by decide) ht hv ?_
          refine gs_0 (pc' := 55) (L' := [some (.ref l0), some (.int l1), some (.int l2), some (.int l3), some (.int l4), some (.int l5)]) (st' := [.int l1, .ref q_13]) cd_237_54 rfl rfl ?_
          obtain ⟨ht, h⟩ := gA_s h
          obtain ⟨q_14, hv, h⟩ := gV_s h
          refine gs_rald cd_237_55 ht hv ?_
          obtain ⟨ht, h⟩ := gO_s h
          refine gs_gfI cd_237_56 (by decide) (by decide) ht ?_
          refine gs_0 (pc' := 60) (L' := [some (.ref l0), some (.int l1), some (.int l2), some (.int l3), some (.int l4), some (.int l5)]) (st' := [.ref l0, .int (I_6 q_14 1)]) cd_237_59 rfl rfl ?_
          obtain ⟨ht, h⟩ := gO_s h
          obtain ⟨q_15, hv, h⟩ := gV_s h
          refine gs_gfR cd_237_60 (by decide) ht hv ?_
          refine gs_0 (pc' := 64) (L' := [some (.ref l0), some (.int l1), some (.int l2), some (.int l3), some (.int l4), some (.int l5)]) (st' := [.int l3, .ref q_15, .int (I_6 q_14 1)]) cd_237_63 rfl rfl ?_
          obtain ⟨ht, h⟩ := gA_s h
          obtain ⟨q_16, hv, h⟩ := gV_s h
          refine gs_rald cd_237_64 ht hv ?_
          obtain ⟨ht, h⟩ := gO_s h
          refine gs_gfI cd_237_65 (by decide) (by decide) ht ?_
          refine gs_0 (pc' := if (I_6 q_14 1) = (I_6 q_16 1) then 77 else 71) (L' := [some (.ref l0), some (.int l1), some (.int l2), some (.int l3), some (.int l4), some (.int l5)]) (st' := []) cd_237_68 rfl rfl ?_
          refine go_ite (fun hc => ?_) (fun hc => ?_)
          · rw [if_pos hc] at h
            refine gs_0 (pc' := 78) (L' := [some (.ref l0), some (.int l1), some (.int l2), some (.int l3), some (.int l4), some (.int l5)]) (st' := [.ref l0]) cd_237_77 rfl rfl ?_
            obtain ⟨ht, h⟩ := gO_s h
            obtain ⟨q_17, hv, h⟩ := gV_s h
            refine gs_gfR cd_237_78 (by decide) ht hv ?_
            refine gs_0 (pc' := 82) (L' := [some (.ref l0), some (.int l1), some (.int l2), some (.int l3), some (.int l4), some (.int l5)]) (st' := [.int l1, .ref q_17]) cd_237_81 rfl rfl ?_
            obtain ⟨ht, h⟩ := gA_s h
            obtain ⟨q_18, hv, h⟩ := gV_s h
            refine gs_rald cd_237_82 ht hv ?_
            refine gs_0 (pc' := 84) (L' := [some (.ref l0), some (.int l1), some (.int l2), some (.int l3), some (.int l4), some (.int l5)]) (st' := [.int l2, .ref q_18]) cd_237_83 rfl rfl ?_
            refine gs_0 (pc' := 86) (L' := [some (.ref l0), some (.int l1), some (.int l2), some (.int l3), some (.int l4), some (.int l5)]) (st' := [.int l5, .int l2, .ref q_18]) cd_237_84 rfl rfl ?_
            obtain ⟨ht, h⟩ := gO_s h
            obtain ⟨x_22, w_19, I_20, J_21, hcl, h⟩ := cI_s h
            refine gs_call (as := [.ref q_18, .int l2, .int l5]) (rest := []) cd_237_86 rfl (by decide) rfl (sm_rv_ok (by decide) ht) (Nat.le_of_ble_eq_true rfl) (Nat.le_of_ble_eq_true rfl) rfl hcl ?_
            refine gs_0 (pc' := if x_22 = 0 then 108 else 92) (L' := [some (.ref l0), some (.int l1), some (.int l2), some (.int l3), some (.int l4), some (.int l5)]) (st' := []) cd_237_89 rfl rfl ?_
            refine go_ite (fun hc => ?_) (fun hc => ?_)
            · rw [if_pos hc] at h
              exact ok_237_108 h
            · rw [if_neg hc] at h
              refine gs_0 (pc' := 93) (L' := [some (.ref l0), some (.int l1), some (.int l2), some (.int l3), some (.int l4), some (.int l5)]) (st' := [.ref l0]) cd_237_92 rfl rfl ?_
              obtain ⟨ht, h⟩ := gO_s h
              obtain ⟨q_23, hv, h⟩ := gV_s h
              refine gs_gfR cd_237_93 (by decide) ht hv ?_
              refine gs_0 (pc' := 97) (L' := [some (.ref l0), some (.int l1), some (.int l2), some (.int l3), some (.int l4), some (.int l5)]) (st' := [.int l3, .ref q_23]) cd_237_96 rfl rfl ?_
              obtain ⟨ht, h⟩ := gA_s h
              obtain ⟨q_24, hv, h⟩ := gV_s h
              refine gs_rald cd_237_97 ht hv ?_
              refine gs_0 (pc' := 100) (L' := [some (.ref l0), some (.int l1), some (.int l2), some (.int l3), some (.int l4), some (.int l5)]) (st' := [.int l4, .ref q_24]) cd_237_98 rfl rfl ?_
              refine gs_0 (pc' := 102) (L' := [some (.ref l0), some (.int l1), some (.int l2), some (.int l3), some (.int l4), some (.int l5)]) (st' := [.int l5, .int l4, .ref q_24]) cd_237_100 rfl rfl ?_
              obtain ⟨ht, h⟩ := gO_s h
              obtain ⟨x_28, w_25, I_26, J_27, hcl, h⟩ := cI_s h
              refine gs_call (as := [.ref q_24, .int l4, .int l5]) (rest := []) cd_237_102 rfl (by decide) rfl (sm_rv_ok (by decide) ht) (Nat.le_of_ble_eq_true rfl) (Nat.le_of_ble_eq_true rfl) rfl hcl ?_
              refine gs_0 (pc' := if ¬ x_28 = 0 then 114 else 108) (L' := [some (.ref l0), some (.int l1), some (.int l2), some (.int l3), some (.int l4), some (.int l5)]) (st' := []) cd_237_105 rfl rfl ?_
              refine go_ite (fun hc => ?_) (fun hc => ?_)
              · rw [if_pos hc] at h
                refine gs_0 (pc' := 115) (L' := [some (.ref l0), some (.int l1), some (.int l2), some (.int l3), some (.int l4), some (.int l5)]) (st' := [.ref l0]) cd_237_114 rfl rfl ?_
                obtain ⟨ht, h⟩ := gO_s h
                obtain ⟨q_29, hv, h⟩ := gV_s h
                refine gs_gfR cd_237_115 (by decide) ht hv ?_
                refine gs_0 (pc' := 119) (L' := [some (.ref l0), some (.int l1), some (.int l2), some (.int l3), some (.int l4), some (.int l5)]) (st' := [.int l1, .ref q_29]) cd_237_118 rfl rfl ?_
                obtain ⟨ht, h⟩ := gA_s h
                obtain ⟨q_30, hv, h⟩ := gV_s h
                refine gs_rald cd_237_119 ht hv ?_
                obtain ⟨ht, h⟩ := gO_s h
                obtain ⟨q_31, hv, h⟩ := gV_s h
                refine gs_gfR cd_237_120 (by decide) ht hv ?_
                refine gs_0 (pc' := 124) (L' := [some (.ref l0), some (.int l1), some (.int l2), some (.int l3), some (.int l4), some (.int l5)]) (st' := [.int l2, .ref q_31]) cd_237_123 rfl rfl ?_
                refine gs_0 (pc' := 125) (L' := [some (.ref l0), some (.int l1), some (.int l2), some (.int l3), some (.int l4), some (.int l5)]) (st' := [.ref l0, .int l2, .ref q_31]) cd_237_124 rfl rfl ?_
                obtain ⟨ht, h⟩ := gO_s h
                obtain ⟨q_32, hv, h⟩ := gV_s h
                refine gs_gfR cd_237_125 (by decide) ht hv ?_
                refine gs_0 (pc' := 129) (L' := [some (.ref l0), some (.int l1), some (.int l2), some (.int l3), some (.int l4), some (.int l5)]) (st' := [.int l3, .ref q_32, .int l2, .ref q_31]) cd_237_128 rfl rfl ?_
                obtain ⟨ht, h⟩ := gA_s h
                obtain ⟨q_33, hv, h⟩ := gV_s h
                refine gs_rald cd_237_129 ht hv ?_
                obtain ⟨ht, h⟩ := gO_s h
                obtain ⟨q_34, hv, h⟩ := gV_s h
                refine gs_gfR cd_237_130 (by decide) ht hv ?_
                refine gs_0 (pc' := 135) (L' := [some (.ref l0), some (.int l1), some (.int l2), some (.int l3), some (.int l4), some (.int l5)]) (st' := [.int l4, .ref q_34, .int l2, .ref q_31]) cd_237_133 rfl rfl ?_
                refine gs_0 (pc' := 137) (L' := [some (.ref l0), some (.int l1), some (.int l2), some (.int l3), some (.int l4), some (.int l5)]) (st' := [.int l5, .int l4, .ref q_34, .int l2, .ref q_31]) cd_237_135 rfl rfl ?_
                obtain ⟨n1, n2, h1, h2, hc, h⟩ := gY_s h
                refine gs_acp cd_237_137 h1 h2 hc (Nat.le_of_ble_eq_true rfl) ?_
                obtain ⟨I_35, hx, h⟩ := lt_s_ h
                rw [hx]
                refine gs_0 (pc' := 142) (L' := [some (.ref l0), some (.int l1), some (.int l2), some (.int l3), some (.int l4), some (.int l5)]) (st' := [.int l5]) cd_237_140 rfl rfl ?_
                refine gs_0 (pc' := 143) (L' := [some (.ref l0), some (.int l1), some (.int l2), some (.int l3), some (.int l4), some (.int l5)]) (st' := [.long ((l5 : Int32).toInt64)]) cd_237_142 rfl rfl ?_
                cases h
                exact gsr cd_237_143 rfl rfl
              · rw [if_neg hc] at h
                exact ok_237_108 h
          · rw [if_neg hc] at h
            refine gs_0 (pc' := 72) (L' := [some (.ref l0), some (.int l1), some (.int l2), some (.int l3), some (.int l4), some (.int l5)]) (st' := [.ref l0]) cd_237_71 rfl rfl ?_
            refine gs_0 (pc' := 73) (L' := [some (.ref l0), some (.int l1), some (.int l2), some (.int l3), some (.int l4), some (.int l5)]) (st' := [.int 4, .ref l0]) cd_237_72 rfl rfl ?_
            obtain ⟨ht, h⟩ := gO_s h
            obtain ⟨v_39, w_36, I_37, J_38, hcl, h⟩ := cJ_s h
            refine gs_call (as := [.ref l0, .int 4]) (rest := []) cd_237_73 rfl (by decide) rfl (sm_rv_ok (by decide) ht) (Nat.le_of_ble_eq_true rfl) (Nat.le_of_ble_eq_true rfl) rfl hcl ?_
            cases h
            exact gsr cd_237_76 rfl rfl
        · rw [if_neg hc] at h
          exact ok_237_44 h
    · rw [if_neg hc] at h
      exact ok_237_14 h
theorem cl_237 {K : Nat → Value} {k d : Nat} {l0 : Nat} {l1 : Int32} {l2 : Int32} {l3 : Int32} {l4 : Int32} {l5 : Int32} {w : aW} {I : aI} {J : aJ} {R : aR} (h : f_237 K k d l0 l1 l2 l3 l4 l5 w I J = some R) : Cl K (d + 1) 237 [.ref l0, .int l1, .int l2, .int l3, .int l4, .int l5] w I J = some R := Cl_of (ok_237 h)
/-! ProvedMachineModel.copy(IIIII)J -/
set_option maxRecDepth 20000 in
theorem gl_238 : gcd.lookup 238 = some gw_238 := rfl
theorem cd_238_0 : sm_cd 238 0 = some (.iload_n 1, 1, 1, 0, 0, 0, 0, 0, 0) := cd_of gl_238 rfl
theorem cd_238_1 : sm_cd 238 1 = some (.invokestatic 431, 3, 229, 1, 1, 1, 6, 0, 0) := cd_of gl_238 rfl
theorem cd_238_4 : sm_cd 238 4 = some (.ifCond .eq 10, 3, 14, 0, 0, 0, 0, 0, 0) := cd_of gl_238 rfl
theorem cd_238_7 : sm_cd 238 7 = some (.iload_n 3, 1, 3, 0, 0, 0, 0, 0, 0) := cd_of gl_238 rfl
theorem cd_238_8 : sm_cd 238 8 = some (.invokestatic 431, 3, 229, 1, 1, 1, 6, 0, 0) := cd_of gl_238 rfl
theorem cd_238_11 : sm_cd 238 11 = some (.ifCond .ne 9, 3, 20, 0, 0, 0, 0, 0, 0) := cd_of gl_238 rfl
theorem cd_238_14 : sm_cd 238 14 = some (.aload_n 0, 1, 0, 0, 0, 0, 0, 0, 0) := cd_of gl_238 rfl
theorem cd_238_15 : sm_cd 238 15 = some (.iconst 1, 1, 0, 0, 0, 0, 0, 1, 0) := cd_of gl_238 rfl
theorem cd_238_16 : sm_cd 238 16 = some (.invokevirtual 148, 3, 20, 0, 1, 2, 6, 0, 0) := cd_of gl_238 rfl
theorem cd_238_19 : sm_cd 238 19 = some (.lreturn, 1, 0, 0, 0, 0, 0, 0, 0) := cd_of gl_238 rfl
theorem cd_238_20 : sm_cd 238 20 = some (.aload_n 0, 1, 0, 0, 0, 0, 0, 0, 0) := cd_of gl_238 rfl
theorem cd_238_21 : sm_cd 238 21 = some (.getfield 130, 3, 6, 44, 2, 0, 0, 0, 0) := cd_of gl_238 rfl
theorem cd_238_24 : sm_cd 238 24 = some (.iload_n 1, 1, 1, 0, 0, 0, 0, 0, 0) := cd_of gl_238 rfl
theorem cd_238_25 : sm_cd 238 25 = some (.iaload, 1, 0, 0, 0, 0, 0, 0, 0) := cd_of gl_238 rfl
theorem cd_238_26 : sm_cd 238 26 = some (.ifCond .eq 12, 3, 38, 0, 0, 0, 0, 0, 0) := cd_of gl_238 rfl
theorem cd_238_29 : sm_cd 238 29 = some (.aload_n 0, 1, 0, 0, 0, 0, 0, 0, 0) := cd_of gl_238 rfl
theorem cd_238_30 : sm_cd 238 30 = some (.getfield 130, 3, 6, 44, 2, 0, 0, 0, 0) := cd_of gl_238 rfl
theorem cd_238_33 : sm_cd 238 33 = some (.iload_n 3, 1, 3, 0, 0, 0, 0, 0, 0) := cd_of gl_238 rfl
theorem cd_238_34 : sm_cd 238 34 = some (.iaload, 1, 0, 0, 0, 0, 0, 0, 0) := cd_of gl_238 rfl
theorem cd_238_35 : sm_cd 238 35 = some (.ifCond .ne 9, 3, 44, 0, 0, 0, 0, 0, 0) := cd_of gl_238 rfl
theorem cd_238_38 : sm_cd 238 38 = some (.aload_n 0, 1, 0, 0, 0, 0, 0, 0, 0) := cd_of gl_238 rfl
theorem cd_238_39 : sm_cd 238 39 = some (.iconst 2, 1, 0, 0, 0, 0, 0, 2, 0) := cd_of gl_238 rfl
theorem cd_238_40 : sm_cd 238 40 = some (.invokevirtual 148, 3, 20, 0, 1, 2, 6, 0, 0) := cd_of gl_238 rfl
theorem cd_238_43 : sm_cd 238 43 = some (.lreturn, 1, 0, 0, 0, 0, 0, 0, 0) := cd_of gl_238 rfl
theorem cd_238_44 : sm_cd 238 44 = some (.aload_n 0, 1, 0, 0, 0, 0, 0, 0, 0) := cd_of gl_238 rfl
theorem cd_238_45 : sm_cd 238 45 = some (.getfield 130, 3, 6, 44, 2, 0, 0, 0, 0) := cd_of gl_238 rfl
theorem cd_238_48 : sm_cd 238 48 = some (.iload_n 1, 1, 1, 0, 0, 0, 0, 0, 0) := cd_of gl_238 rfl
theorem cd_238_49 : sm_cd 238 49 = some (.iaload, 1, 0, 0, 0, 0, 0, 0, 0) := cd_of gl_238 rfl
theorem cd_238_50 : sm_cd 238 50 = some (.aload_n 0, 1, 0, 0, 0, 0, 0, 0, 0) := cd_of gl_238 rfl
theorem cd_238_51 : sm_cd 238 51 = some (.getfield 130, 3, 6, 44, 2, 0, 0, 0, 0) := cd_of gl_238 rfl
theorem cd_238_54 : sm_cd 238 54 = some (.iload_n 3, 1, 3, 0, 0, 0, 0, 0, 0) := cd_of gl_238 rfl
theorem cd_238_55 : sm_cd 238 55 = some (.iaload, 1, 0, 0, 0, 0, 0, 0, 0) := cd_of gl_238 rfl
theorem cd_238_56 : sm_cd 238 56 = some (.if_icmp .eq 9, 3, 65, 0, 0, 0, 0, 0, 0) := cd_of gl_238 rfl
theorem cd_238_59 : sm_cd 238 59 = some (.aload_n 0, 1, 0, 0, 0, 0, 0, 0, 0) := cd_of gl_238 rfl
theorem cd_238_60 : sm_cd 238 60 = some (.iconst 4, 1, 0, 0, 0, 0, 0, 4, 0) := cd_of gl_238 rfl
theorem cd_238_61 : sm_cd 238 61 = some (.invokevirtual 148, 3, 20, 0, 1, 2, 6, 0, 0) := cd_of gl_238 rfl
theorem cd_238_64 : sm_cd 238 64 = some (.lreturn, 1, 0, 0, 0, 0, 0, 0, 0) := cd_of gl_238 rfl
theorem cd_238_65 : sm_cd 238 65 = some (.iload_n 2, 1, 2, 0, 0, 0, 0, 0, 0) := cd_of gl_238 rfl
theorem cd_238_66 : sm_cd 238 66 = some (.ifCond .lt 47, 3, 113, 0, 0, 0, 0, 0, 0) := cd_of gl_238 rfl
theorem cd_238_69 : sm_cd 238 69 = some (.iload 4, 2, 4, 0, 0, 0, 0, 0, 0) := cd_of gl_238 rfl
theorem cd_238_71 : sm_cd 238 71 = some (.ifCond .lt 42, 3, 113, 0, 0, 0, 0, 0, 0) := cd_of gl_238 rfl
theorem cd_238_74 : sm_cd 238 74 = some (.iload 5, 2, 5, 0, 0, 0, 0, 0, 0) := cd_of gl_238 rfl
theorem cd_238_76 : sm_cd 238 76 = some (.ifCond .lt 37, 3, 113, 0, 0, 0, 0, 0, 0) := cd_of gl_238 rfl
theorem cd_238_79 : sm_cd 238 79 = some (.iload 5, 2, 5, 0, 0, 0, 0, 0, 0) := cd_of gl_238 rfl
theorem cd_238_81 : sm_cd 238 81 = some (.bipush 40, 2, 0, 0, 0, 0, 0, 40, 0) := cd_of gl_238 rfl
theorem cd_238_83 : sm_cd 238 83 = some (.if_icmp .gt 30, 3, 113, 0, 0, 0, 0, 0, 0) := cd_of gl_238 rfl
theorem cd_238_86 : sm_cd 238 86 = some (.iload_n 2, 1, 2, 0, 0, 0, 0, 0, 0) := cd_of gl_238 rfl
theorem cd_238_87 : sm_cd 238 87 = some (.aload_n 0, 1, 0, 0, 0, 0, 0, 0, 0) := cd_of gl_238 rfl
theorem cd_238_88 : sm_cd 238 88 = some (.getfield 133, 3, 6, 45, 2, 0, 0, 0, 0) := cd_of gl_238 rfl
theorem cd_238_91 : sm_cd 238 91 = some (.iload_n 1, 1, 1, 0, 0, 0, 0, 0, 0) := cd_of gl_238 rfl
theorem cd_238_92 : sm_cd 238 92 = some (.iaload, 1, 0, 0, 0, 0, 0, 0, 0) := cd_of gl_238 rfl
theorem cd_238_93 : sm_cd 238 93 = some (.iload 5, 2, 5, 0, 0, 0, 0, 0, 0) := cd_of gl_238 rfl
theorem cd_238_95 : sm_cd 238 95 = some (.isub, 1, 0, 0, 0, 0, 0, 0, 0) := cd_of gl_238 rfl
theorem cd_238_96 : sm_cd 238 96 = some (.if_icmp .gt 17, 3, 113, 0, 0, 0, 0, 0, 0) := cd_of gl_238 rfl
theorem cd_238_99 : sm_cd 238 99 = some (.iload 4, 2, 4, 0, 0, 0, 0, 0, 0) := cd_of gl_238 rfl
theorem cd_238_101 : sm_cd 238 101 = some (.aload_n 0, 1, 0, 0, 0, 0, 0, 0, 0) := cd_of gl_238 rfl
theorem cd_238_102 : sm_cd 238 102 = some (.getfield 133, 3, 6, 45, 2, 0, 0, 0, 0) := cd_of gl_238 rfl
theorem cd_238_105 : sm_cd 238 105 = some (.iload_n 3, 1, 3, 0, 0, 0, 0, 0, 0) := cd_of gl_238 rfl
theorem cd_238_106 : sm_cd 238 106 = some (.iaload, 1, 0, 0, 0, 0, 0, 0, 0) := cd_of gl_238 rfl
theorem cd_238_107 : sm_cd 238 107 = some (.iload 5, 2, 5, 0, 0, 0, 0, 0, 0) := cd_of gl_238 rfl
theorem cd_238_109 : sm_cd 238 109 = some (.isub, 1, 0, 0, 0, 0, 0, 0, 0) := cd_of gl_238 rfl
theorem cd_238_110 : sm_cd 238 110 = some (.if_icmp .le 9, 3, 119, 0, 0, 0, 0, 0, 0) := cd_of gl_238 rfl
theorem cd_238_113 : sm_cd 238 113 = some (.aload_n 0, 1, 0, 0, 0, 0, 0, 0, 0) := cd_of gl_238 rfl
theorem cd_238_114 : sm_cd 238 114 = some (.iconst 1, 1, 0, 0, 0, 0, 0, 1, 0) := cd_of gl_238 rfl
theorem cd_238_115 : sm_cd 238 115 = some (.invokevirtual 148, 3, 20, 0, 1, 2, 6, 0, 0) := cd_of gl_238 rfl
theorem cd_238_118 : sm_cd 238 118 = some (.lreturn, 1, 0, 0, 0, 0, 0, 0, 0) := cd_of gl_238 rfl
theorem cd_238_119 : sm_cd 238 119 = some (.aload_n 0, 1, 0, 0, 0, 0, 0, 0, 0) := cd_of gl_238 rfl
theorem cd_238_120 : sm_cd 238 120 = some (.getfield 136, 3, 6, 46, 2, 0, 0, 0, 0) := cd_of gl_238 rfl
theorem cd_238_123 : sm_cd 238 123 = some (.bipush 40, 2, 0, 0, 0, 0, 0, 40, 0) := cd_of gl_238 rfl
theorem cd_238_125 : sm_cd 238 125 = some (.iload_n 1, 1, 1, 0, 0, 0, 0, 0, 0) := cd_of gl_238 rfl
theorem cd_238_126 : sm_cd 238 126 = some (.imul, 1, 0, 0, 0, 0, 0, 0, 0) := cd_of gl_238 rfl
theorem cd_238_127 : sm_cd 238 127 = some (.iload_n 2, 1, 2, 0, 0, 0, 0, 0, 0) := cd_of gl_238 rfl
theorem cd_238_128 : sm_cd 238 128 = some (.iadd, 1, 0, 0, 0, 0, 0, 0, 0) := cd_of gl_238 rfl
theorem cd_238_129 : sm_cd 238 129 = some (.aload_n 0, 1, 0, 0, 0, 0, 0, 0, 0) := cd_of gl_238 rfl
theorem cd_238_130 : sm_cd 238 130 = some (.getfield 139, 3, 6, 47, 2, 0, 0, 0, 0) := cd_of gl_238 rfl
theorem cd_238_133 : sm_cd 238 133 = some (.iconst 0, 1, 0, 0, 0, 0, 0, 0, 0) := cd_of gl_238 rfl
theorem cd_238_134 : sm_cd 238 134 = some (.iload 5, 2, 5, 0, 0, 0, 0, 0, 0) := cd_of gl_238 rfl
theorem cd_238_136 : sm_cd 238 136 = some (.invokestatic 418, 3, 177, 1, 5, 6, 6, 0, 0) := cd_of gl_238 rfl
theorem cd_238_139 : sm_cd 238 139 = some (.aload_n 0, 1, 0, 0, 0, 0, 0, 0, 0) := cd_of gl_238 rfl
theorem cd_238_140 : sm_cd 238 140 = some (.getfield 139, 3, 6, 47, 2, 0, 0, 0, 0) := cd_of gl_238 rfl
theorem cd_238_143 : sm_cd 238 143 = some (.iconst 0, 1, 0, 0, 0, 0, 0, 0, 0) := cd_of gl_238 rfl
theorem cd_238_144 : sm_cd 238 144 = some (.aload_n 0, 1, 0, 0, 0, 0, 0, 0, 0) := cd_of gl_238 rfl
theorem cd_238_145 : sm_cd 238 145 = some (.getfield 136, 3, 6, 46, 2, 0, 0, 0, 0) := cd_of gl_238 rfl
theorem cd_238_148 : sm_cd 238 148 = some (.bipush 40, 2, 0, 0, 0, 0, 0, 40, 0) := cd_of gl_238 rfl
theorem cd_238_150 : sm_cd 238 150 = some (.iload_n 3, 1, 3, 0, 0, 0, 0, 0, 0) := cd_of gl_238 rfl
theorem cd_238_151 : sm_cd 238 151 = some (.imul, 1, 0, 0, 0, 0, 0, 0, 0) := cd_of gl_238 rfl
theorem cd_238_152 : sm_cd 238 152 = some (.iload 4, 2, 4, 0, 0, 0, 0, 0, 0) := cd_of gl_238 rfl
theorem cd_238_154 : sm_cd 238 154 = some (.iadd, 1, 0, 0, 0, 0, 0, 0, 0) := cd_of gl_238 rfl
theorem cd_238_155 : sm_cd 238 155 = some (.iload 5, 2, 5, 0, 0, 0, 0, 0, 0) := cd_of gl_238 rfl
theorem cd_238_157 : sm_cd 238 157 = some (.invokestatic 418, 3, 177, 1, 5, 6, 6, 0, 0) := cd_of gl_238 rfl
theorem cd_238_160 : sm_cd 238 160 = some (.iload 5, 2, 5, 0, 0, 0, 0, 0, 0) := cd_of gl_238 rfl
theorem cd_238_162 : sm_cd 238 162 = some (.i2l, 1, 0, 0, 0, 0, 0, 0, 0) := cd_of gl_238 rfl
theorem cd_238_163 : sm_cd 238 163 = some (.lreturn, 1, 0, 0, 0, 0, 0, 0, 0) := cd_of gl_238 rfl
noncomputable def f_238_113 (K : Nat → Value) (k d : Nat) (l0 : Nat) (l1 : Int32) (l2 : Int32) (l3 : Int32) (l4 : Int32) (l5 : Int32) (w : aW) (I : aI) (J : aJ) : Option aR :=
  gO w 6 l0 (
  cJ (Cl K d 20 [.ref l0, .int 1] w I J) fun v_4 w_1 I_2 J_3 =>
  some (some (.long v_4), w_1, I_2, J_3))
theorem ok_238_113 {K : Nat → Value} {k d : Nat} {l0 : Nat} {l1 : Int32} {l2 : Int32} {l3 : Int32} {l4 : Int32} {l5 : Int32} {w : aW} {I : aI} {J : aJ} {R : aR} (h : f_238_113 K k d l0 l1 l2 l3 l4 l5 w I J = some R) : Go K (d + 1) 238 113 [some (.ref l0), some (.int l1), some (.int l2), some (.int l3), some (.int l4), some (.int l5)] [] w I J R := by
  unfold f_238_113 at h
  refine gs_0 (pc' := 114) (L' := [some (.ref l0), some (.int l1), some (.int l2), some (.int l3), some (.int l4), some (.int l5)]) (st' := [.ref l0]) cd_238_113 rfl rfl ?_
  refine gs_0 (pc' := 115) (L' := [some (.ref l0), some (.int l1), some (.int l2), some (.int l3), some (.int l4), some (.int l5)]) (st' := [.int 1, .ref l0]) cd_238_114 rfl rfl ?_
  obtain ⟨ht, h⟩ := gO_s h
  obtain ⟨v_4, w_1, I_2, J_3, hcl, h⟩ := cJ_s h
  refine gs_call (as := [.ref l0, .int 1]) (rest := []) cd_238_115 rfl (by decide) rfl (sm_rv_ok (by decide) ht) (Nat.le_of_ble_eq_true rfl) (Nat.le_of_ble_eq_true rfl) rfl hcl ?_
  cases h
  exact gsr cd_238_118 rfl rfl
noncomputable def f_238_38 (K : Nat → Value) (k d : Nat) (l0 : Nat) (l1 : Int32) (l2 : Int32) (l3 : Int32) (l4 : Int32) (l5 : Int32) (w : aW) (I : aI) (J : aJ) : Option aR :=
  gO w 6 l0 (
  cJ (Cl K d 20 [.ref l0, .int 2] w I J) fun v_4 w_1 I_2 J_3 =>
  some (some (.long v_4), w_1, I_2, J_3))
theorem ok_238_38 {K : Nat → Value} {k d : Nat} {l0 : Nat} {l1 : Int32} {l2 : Int32} {l3 : Int32} {l4 : Int32} {l5 : Int32} {w : aW} {I : aI} {J : aJ} {R : aR} (h : f_238_38 K k d l0 l1 l2 l3 l4 l5 w I J = some R) : Go K (d + 1) 238 38 [some (.ref l0), some (.int l1), some (.int l2), some (.int l3), some (.int l4), some (.int l5)] [] w I J R := by
  unfold f_238_38 at h
  refine gs_0 (pc' := 39) (L' := [some (.ref l0), some (.int l1), some (.int l2), some (.int l3), some (.int l4), some (.int l5)]) (st' := [.ref l0]) cd_238_38 rfl rfl ?_
  refine gs_0 (pc' := 40) (L' := [some (.ref l0), some (.int l1), some (.int l2), some (.int l3), some (.int l4), some (.int l5)]) (st' := [.int 2, .ref l0]) cd_238_39 rfl rfl ?_
  obtain ⟨ht, h⟩ := gO_s h
  obtain ⟨v_4, w_1, I_2, J_3, hcl, h⟩ := cJ_s h
  refine gs_call (as := [.ref l0, .int 2]) (rest := []) cd_238_40 rfl (by decide) rfl (sm_rv_ok (by decide) ht) (Nat.le_of_ble_eq_true rfl) (Nat.le_of_ble_eq_true rfl) rfl hcl ?_
  cases h
  exact gsr cd_238_43 rfl rfl
noncomputable def f_238_14 (K : Nat → Value) (k d : Nat) (l0 : Nat) (l1 : Int32) (l2 : Int32) (l3 : Int32) (l4 : Int32) (l5 : Int32) (w : aW) (I : aI) (J : aJ) : Option aR :=
  gO w 6 l0 (
  cJ (Cl K d 20 [.ref l0, .int 1] w I J) fun v_4 w_1 I_2 J_3 =>
  some (some (.long v_4), w_1, I_2, J_3))
theorem ok_238_14 {K : Nat → Value} {k d : Nat} {l0 : Nat} {l1 : Int32} {l2 : Int32} {l3 : Int32} {l4 : Int32} {l5 : Int32} {w : aW} {I : aI} {J : aJ} {R : aR} (h : f_238_14 K k d l0 l1 l2 l3 l4 l5 w I J = some R) : Go K (d + 1) 238 14 [some (.ref l0), some (.int l1), some (.int l2), some (.int l3), some (.int l4), some (.int l5)] [] w I J R := by
  unfold f_238_14 at h
  refine gs_0 (pc' := 15) (L' := [some (.ref l0), some (.int l1), some (.int l2), some (.int l3), some (.int l4), some (.int l5)]) (st' := [.ref l0]) cd_238_14 rfl rfl ?_
  refine gs_0 (pc' := 16) (L' := [some (.ref l0), some (.int l1), some (.int l2), some (.int l3), some (.int l4), some (.int l5)]) (st' := [.int 1, .ref l0]) cd_238_15 rfl rfl ?_
  obtain ⟨ht, h⟩ := gO_s h
  obtain ⟨v_4, w_1, I_2, J_3, hcl, h⟩ := cJ_s h
  refine gs_call (as := [.ref l0, .int 1]) (rest := []) cd_238_16 rfl (by decide) rfl (sm_rv_ok (by decide) ht) (Nat.le_of_ble_eq_true rfl) (Nat.le_of_ble_eq_true rfl) rfl hcl ?_
  cases h
  exact gsr cd_238_19 rfl rfl
noncomputable def f_238 (K : Nat → Value) (k d : Nat) (l0 : Nat) (l1 : Int32) (l2 : Int32) (l3 : Int32) (l4 : Int32) (l5 : Int32) (w : aW) (I : aI) (J : aJ) : Option aR :=
  cI (Cl K d 229 [.int l1] w I J) fun x_4 w_1 I_2 J_3 =>
  if x_4 = 0 then
    f_238_14 K k d l0 l1 l2 l3 l4 l5 w_1 I_2 J_3
  else
    cI (Cl K d 229 [.int l3] w_1 I_2 J_3) fun x_8 w_5 I_6 J_7 =>
    if ¬ x_8 = 0 then
      gO w_5 6 l0 (
      gV w_5 l0 44 fun q_9 =>
      gA w_5 10 20 q_9 l1 (
      if (I_6 q_9 (l1 : Int32).toNatClampNeg) = 0 then
        f_238_38 K k d l0 l1 l2 l3 l4 l5 w_5 I_6 J_7
      else
        gO w_5 6 l0 (
        gV w_5 l0 44 fun q_10 =>
        gA w_5 10 20 q_10 l3 (
        if ¬ (I_6 q_10 (l3 : Int32).toNatClampNeg) = 0 then
          gO w_5 6 l0 (
          gV w_5 l0 44 fun q_11 =>
          gA w_5 10 20 q_11 l1 (
          gO w_5 6 l0 (
          gV w_5 l0 44 fun q_12 =>
          gA w_5 10 20 q_12 l3 (
          if (I_6 q_11 (l1 : Int32).toNatClampNeg) = (I_6 q_12 (l3 : Int32).toNatClampNeg) then
            if l2 < 0 then
              f_238_113 K k d l0 l1 l2 l3 l4 l5 w_5 I_6 J_7
            else
              if l4 < 0 then
                f_238_113 K k d l0 l1 l2 l3 l4 l5 w_5 I_6 J_7
              else
                if l5 < 0 then
                  f_238_113 K k d l0 l1 l2 l3 l4 l5 w_5 I_6 J_7
                else
                  if 40 < l5 then
                    f_238_113 K k d l0 l1 l2 l3 l4 l5 w_5 I_6 J_7
                  else
                    gO w_5 6 l0 (
                    gV w_5 l0 45 fun q_13 =>
                    gA w_5 10 20 q_13 l1 (
                    if ((I_6 q_13 (l1 : Int32).toNatClampNeg) - l5) < l2 then
                      f_238_113 K k d l0 l1 l2 l3 l4 l5 w_5 I_6 J_7
                    else
                      gO w_5 6 l0 (
                      gV w_5 l0 45 fun q_14 =>
                      gA w_5 10 20 q_14 l3 (
                      if l4 ≤ ((I_6 q_14 (l3 : Int32).toNatClampNeg) - l5) then
                        gO w_5 6 l0 (
                        gV w_5 l0 46 fun q_15 =>
                        gO w_5 6 l0 (
                        gV w_5 l0 47 fun q_16 =>
                        cV (Cl K d 177 [.ref q_15, .int ((40 * l1) + l2), .ref q_16, .int 0, .int l5] w_5 I_6 J_7) fun w_17 I_18 J_19 =>
                        gO w_17 6 l0 (
                        gV w_17 l0 47 fun q_20 =>
                        gO w_17 6 l0 (
                        gV w_17 l0 46 fun q_21 =>
                        cV (Cl K d 177 [.ref q_20, .int 0, .ref q_21, .int ((40 * l3) + l4), .int l5] w_17 I_18 J_19) fun w_22 I_23 J_24 =>
                        some (some (.long ((l5 : Int32).toInt64)), w_22, I_23, J_24)))))
                      else
                        f_238_113 K k d l0 l1 l2 l3 l4 l5 w_5 I_6 J_7))))
          else
            gO w_5 6 l0 (
            cJ (Cl K d 20 [.ref l0, .int 4] w_5 I_6 J_7) fun v_28 w_25 I_26 J_27 =>
            some (some (.long v_28), w_25, I_26, J_27))))))
        else
          f_238_38 K k d l0 l1 l2 l3 l4 l5 w_5 I_6 J_7))))
    else
      f_238_14 K k d l0 l1 l2 l3 l4 l5 w_5 I_6 J_7
theorem ok_238 {K : Nat → Value} {k d : Nat} {l0 : Nat} {l1 : Int32} {l2 : Int32} {l3 : Int32} {l4 : Int32} {l5 : Int32} {w : aW} {I : aI} {J : aJ} {R : aR} (h : f_238 K k d l0 l1 l2 l3 l4 l5 w I J = some R) : Go K (d + 1) 238 0 [some (.ref l0), some (.int l1), some (.int l2), some (.int l3), some (.int l4), some (.int l5)] [] w I J R := by
  unfold f_238 at h
  refine gs_0 (pc' := 1) (L' := [some (.ref l0), some (.int l1), some (.int l2), some (.int l3), some (.int l4), some (.int l5)]) (st' := [.int l1]) cd_238_0 rfl rfl ?_
  obtain ⟨x_4, w_1, I_2, J_3, hcl, h⟩ := cI_s h
  refine gs_call (as := [.int l1]) (rest := []) cd_238_1 rfl (by decide) rfl rfl (Nat.le_of_ble_eq_true rfl) (Nat.le_of_ble_eq_true rfl) rfl hcl ?_
  refine gs_0 (pc' := if x_4 = 0 then 14 else 7) (L' := [some (.ref l0), some (.int l1), some (.int l2), some (.int l3), some (.int l4), some (.int l5)]) (st' := []) cd_238_4 rfl rfl ?_
  refine go_ite (fun hc => ?_) (fun hc => ?_)
  · rw [if_pos hc] at h
    exact ok_238_14 h
  · rw [if_neg hc] at h
    refine gs_0 (pc' := 8) (L' := [some (.ref l0), some (.int l1), some (.int l2), some (.int l3), some (.int l4), some (.int l5)]) (st' := [.int l3]) cd_238_7 rfl rfl ?_
    obtain ⟨x_8, w_5, I_6, J_7, hcl, h⟩ := cI_s h
    refine gs_call (as := [.int l3]) (rest := []) cd_238_8 rfl (by decide) rfl rfl (Nat.le_of_ble_eq_true rfl) (Nat.le_of_ble_eq_true rfl) rfl hcl ?_
    refine gs_0 (pc' := if ¬ x_8 = 0 then 20 else 14) (L' := [some (.ref l0), some (.int l1), some (.int l2), some (.int l3), some (.int l4), some (.int l5)]) (st' := []) cd_238_11 rfl rfl ?_
    refine go_ite (fun hc => ?_) (fun hc => ?_)
    · rw [if_pos hc] at h
      refine gs_0 (pc' := 21) (L' := [some (.ref l0), some (.int l1), some (.int l2), some (.int l3), some (.int l4), some (.int l5)]) (st' := [.ref l0]) cd_238_20 rfl rfl ?_
      obtain ⟨ht, h⟩ := gO_s h
      obtain ⟨q_9, hv, h⟩ := gV_s h
      refine gs_gfR cd_238_21 (by decide) ht hv ?_
      refine gs_0 (pc' := 25) (L' := [some (.ref l0), some (.int l1), some (.int l2), some (.int l3), some (.int l4), some (.int l5)]) (st' := [.int l1, .ref q_9]) cd_238_24 rfl rfl ?_
      obtain ⟨ht, h⟩ := gA_s h
      refine gs_iald cd_238_25 ht ?_
      refine gs_0 (pc' := if (I_6 q_9 (l1 : Int32).toNatClampNeg) = 0 then 38 else 29) (L' := [some (.ref l0), some (.int l1), some (.int l2), some (.int l3), some (.int l4), some (.int l5)]) (st' := []) cd_238_26 rfl rfl ?_
      refine go_ite (fun hc => ?_) (fun hc => ?_)
      · rw [if_pos hc] at h
        exact ok_238_38 h
      · rw [if_neg hc] at h
        refine gs_0 (pc' := 30) (L' := [some (.ref l0), some (.int l1), some (.int l2), some (.int l3), some (.int l4), some (.int l5)]) (st' := [.ref l0]) cd_238_29 rfl rfl ?_
        obtain ⟨ht, h⟩ := gO_s h
        obtain ⟨q_10, hv, h⟩ := gV_s h
        refine gs_gfR cd_238_30 (by decide) ht hv ?_
        refine gs_0 (pc' := 34) (L' := [some (.ref l0), some (.int l1), some (.int l2), some (.int l3), some (.int l4), some (.int l5)]) (st' := [.int l3, .ref q_10]) cd_238_33 rfl rfl ?_
        obtain ⟨ht, h⟩ := gA_s h
        refine gs_iald cd_238_34 ht ?_
        refine gs_0 (pc' := if ¬ (I_6 q_10 (l3 : Int32).toNatClampNeg) = 0 then 44 else 38) (L' := [some (.ref l0), some (.int l1), some (.int l2), some (.int l3), some (.int l4), some (.int l5)]) (st' := []) cd_238_35 rfl rfl ?_
        refine go_ite (fun hc => ?_) (fun hc => ?_)
        · rw [if_pos hc] at h
          refine gs_0 (pc' := 45) (L' := [some (.ref l0), some (.int l1), some (.int l2), some (.int l3), some (.int l4), some (.int l5)]) (st' := [.ref l0]) cd_238_44 rfl rfl ?_
          obtain ⟨ht, h⟩ := gO_s h
          obtain ⟨q_11, hv, h⟩ := gV_s h
          refine gs_gfR cd_238_45 (by decide) ht hv ?_
          refine gs_0 (pc' := 49) (L' := [some (.ref l0), some (.int l1), some (.int l2), some (.int l3), some (.int l4), some (.int l5)]) (st' := [.int l1, .ref q_11]) cd_238_48 rfl rfl ?_
          obtain ⟨ht, h⟩ := gA_s h
          refine gs_iald cd_238_49 ht ?_
          refine gs_0 (pc' := 51) (L' := [some (.ref l0), some (.int l1), some (.int l2), some (.int l3), some (.int l4), some (.int l5)]) (st' := [.ref l0, .int (I_6 q_11 (l1 : Int32).toNatClampNeg)]) cd_238_50 rfl rfl ?_
          obtain ⟨ht, h⟩ := gO_s h
          obtain ⟨q_12, hv, h⟩ := gV_s h
          refine gs_gfR cd_238_51 (by decide) ht hv ?_
          refine gs_0 (pc' := 55) (L' := [some (.ref l0), some (.int l1), some (.int l2), some (.int l3), some (.int l4), some (.int l5)]) (st' := [.int l3, .ref q_12, .int (I_6 q_11 (l1 : Int32).toNatClampNeg)]) cd_238_54 rfl rfl ?_
          obtain ⟨ht, h⟩ := gA_s h
          refine gs_iald cd_238_55 ht ?_
          refine gs_0 (pc' := if (I_6 q_11 (l1 : Int32).toNatClampNeg) = (I_6 q_12 (l3 : Int32).toNatClampNeg) then 65 else 59) (L' := [some (.ref l0), some (.int l1), some (.int l2), some (.int l3), some (.int l4), some (.int l5)]) (st' := []) cd_238_56 rfl rfl ?_
          refine go_ite (fun hc => ?_) (fun hc => ?_)
          · rw [if_pos hc] at h
            refine gs_0 (pc' := 66) (L' := [some (.ref l0), some (.int l1), some (.int l2), some (.int l3), some (.int l4), some (.int l5)]) (st' := [.int l2]) cd_238_65 rfl rfl ?_
            refine gs_0 (pc' := if l2 < 0 then 113 else 69) (L' := [some (.ref l0), some (.int l1), some (.int l2), some (.int l3), some (.int l4), some (.int l5)]) (st' := []) cd_238_66 rfl rfl ?_
            refine go_ite (fun hc => ?_) (fun hc => ?_)
            · rw [if_pos hc] at h
              exact ok_238_113 h
            · rw [if_neg hc] at h
              refine gs_0 (pc' := 71) (L' := [some (.ref l0), some (.int l1), some (.int l2), some (.int l3), some (.int l4), some (.int l5)]) (st' := [.int l4]) cd_238_69 rfl rfl ?_
              refine gs_0 (pc' := if l4 < 0 then 113 else 74) (L' := [some (.ref l0), some (.int l1), some (.int l2), some (.int l3), some (.int l4), some (.int l5)]) (st' := []) cd_238_71 rfl rfl ?_
              refine go_ite (fun hc => ?_) (fun hc => ?_)
              · rw [if_pos hc] at h
                exact ok_238_113 h
              · rw [if_neg hc] at h
                refine gs_0 (pc' := 76) (L' := [some (.ref l0), some (.int l1), some (.int l2), some (.int l3), some (.int l4), some (.int l5)]) (st' := [.int l5]) cd_238_74 rfl rfl ?_
                refine gs_0 (pc' := if l5 < 0 then 113 else 79) (L' := [some (.ref l0), some (.int l1), some (.int l2), some (.int l3), some (.int l4), some (.int l5)]) (st' := []) cd_238_76 rfl rfl ?_
                refine go_ite (fun hc => ?_) (fun hc => ?_)
                · rw [if_pos hc] at h
                  exact ok_238_113 h
                · rw [if_neg hc] at h
                  refine gs_0 (pc' := 81) (L' := [some (.ref l0), some (.int l1), some (.int l2), some (.int l3), some (.int l4), some (.int l5)]) (st' := [.int l5]) cd_238_79 rfl rfl ?_
                  refine gs_0 (pc' := 83) (L' := [some (.ref l0), some (.int l1), some (.int l2), some (.int l3), some (.int l4), some (.int l5)]) (st' := [.int 40, .int l5]) cd_238_81 rfl rfl ?_
                  refine gs_0 (pc' := if 40 < l5 then 113 else 86) (L' := [some (.ref l0), some (.int l1), some (.int l2), some (.int l3), some (.int l4), some (.int l5)]) (st' := []) cd_238_83 rfl rfl ?_
                  refine go_ite (fun hc => ?_) (fun hc => ?_)
                  · rw [if_pos hc] at h
                    exact ok_238_113 h
                  · rw [if_neg hc] at h
                    refine gs_0 (pc' := 87) (L' := [some (.ref l0), some (.int l1), some (.int l2), some (.int l3), some (.int l4), some (.int l5)]) (st' := [.int l2]) cd_238_86 rfl rfl ?_
                    refine gs_0 (pc' := 88) (L' := [some (.ref l0), some (.int l1), some (.int l2), some (.int l3), some (.int l4), some (.int l5)]) (st' := [.ref l0, .int l2]) cd_238_87 rfl rfl ?_
                    obtain ⟨ht, h⟩ := gO_s h
                    obtain ⟨q_13, hv, h⟩ := gV_s h
                    refine gs_gfR cd_238_88 (by decide) ht hv ?_
                    refine gs_0 (pc' := 92) (L' := [some (.ref l0), some (.int l1), some (.int l2), some (.int l3), some (.int l4), some (.int l5)]) (st' := [.int l1, .ref q_13, .int l2]) cd_238_91 rfl rfl ?_
                    obtain ⟨ht, h⟩ := gA_s h
                    refine gs_iald cd_238_92 ht ?_
                    refine gs_0 (pc' := 95) (L' := [some (.ref l0), some (.int l1), some (.int l2), some (.int l3), some (.int l4), some (.int l5)]) (st' := [.int l5, .int (I_6 q_13 (l1 : Int32).toNatClampNeg), .int l2]) cd_238_93 rfl rfl ?_
                    refine gs_0 (pc' := 96) (L' := [some (.ref l0), some (.int l1), some (.int l2), some (.int l3), some (.int l4), some (.int l5)]) (st' := [.int ((I_6 q_13 (l1 : Int32).toNatClampNeg) - l5), .int l2]) cd_238_95 rfl rfl ?_
                    refine gs_0 (pc' := if ((I_6 q_13 (l1 : Int32).toNatClampNeg) - l5) < l2 then 113 else 99) (L' := [some (.ref l0), some (.int l1), some (.int l2), some (.int l3), some (.int l4), some (.int l5)]) (st' := []) cd_238_96 rfl rfl ?_
                    refine go_ite (fun hc => ?_) (fun hc => ?_)
                    · rw [if_pos hc] at h
                      exact ok_238_113 h
                    · rw [if_neg hc] at h
                      refine gs_0 (pc' := 101) (L' := [some (.ref l0), some (.int l1), some (.int l2), some (.int l3), some (.int l4), some (.int l5)]) (st' := [.int l4]) cd_238_99 rfl rfl ?_
                      refine gs_0 (pc' := 102) (L' := [some (.ref l0), some (.int l1), some (.int l2), some (.int l3), some (.int l4), some (.int l5)]) (st' := [.ref l0, .int l4]) cd_238_101 rfl rfl ?_
                      obtain ⟨ht, h⟩ := gO_s h
                      obtain ⟨q_14, hv, h⟩ := gV_s h
                      refine gs_gfR cd_238_102 (by decide) ht hv ?_
                      refine gs_0 (pc' := 106) (L' := [some (.ref l0), some (.int l1), some (.int l2), some (.int l3), some (.int l4), some (.int l5)]) (st' := [.int l3, .ref q_14, .int l4]) cd_238_105 rfl rfl ?_
                      obtain ⟨ht, h⟩ := gA_s h
                      refine gs_iald cd_238_106 ht ?_
                      refine gs_0 (pc' := 109) (L' := [some (.ref l0), some (.int l1), some (.int l2), some (.int l3), some (.int l4), some (.int l5)]) (st' := [.int l5, .int (I_6 q_14 (l3 : Int32).toNatClampNeg), .int l4]) cd_238_107 rfl rfl ?_
                      refine gs_0 (pc' := 110) (L' := [some (.ref l0), some (.int l1), some (.int l2), some (.int l3), some (.int l4), some (.int l5)]) (st' := [.int ((I_6 q_14 (l3 : Int32).toNatClampNeg) - l5), .int l4]) cd_238_109 rfl rfl ?_
                      refine gs_0 (pc' := if l4 ≤ ((I_6 q_14 (l3 : Int32).toNatClampNeg) - l5) then 119 else 113) (L' := [some (.ref l0), some (.int l1), some (.int l2), some (.int l3), some (.int l4), some (.int l5)]) (st' := []) cd_238_110 rfl rfl ?_
                      refine go_ite (fun hc => ?_) (fun hc => ?_)
                      · rw [if_pos hc] at h
                        refine gs_0 (pc' := 120) (L' := [some (.ref l0), some (.int l1), some (.int l2), some (.int l3), some (.int l4), some (.int l5)]) (st' := [.ref l0]) cd_238_119 rfl rfl ?_
                        obtain ⟨ht, h⟩ := gO_s h
                        obtain ⟨q_15, hv, h⟩ := gV_s h
                        refine gs_gfR cd_238_120 (by decide) ht hv ?_
                        refine gs_0 (pc' := 125) (L' := [some (.ref l0), some (.int l1), some (.int l2), some (.int l3), some (.int l4), some (.int l5)]) (st' := [.int 40, .ref q_15]) cd_238_123 rfl rfl ?_
                        refine gs_0 (pc' := 126) (L' := [some (.ref l0), some (.int l1), some (.int l2), some (.int l3), some (.int l4), some (.int l5)]) (st' := [.int l1, .int 40, .ref q_15]) cd_238_125 rfl rfl ?_
                        refine gs_0 (pc' := 127) (L' := [some (.ref l0), some (.int l1), some (.int l2), some (.int l3), some (.int l4), some (.int l5)]) (st' := [.int (40 * l1), .ref q_15]) cd_238_126 rfl rfl ?_
                        refine gs_0 (pc' := 128) (L' := [some (.ref l0), some (.int l1), some (.int l2), some (.int l3), some (.int l4), some (.int l5)]) (st' := [.int l2, .int (40 * l1), .ref q_15]) cd_238_127 rfl rfl ?_
                        refine gs_0 (pc' := 129) (L' := [some (.ref l0), some (.int l1), some (.int l2), some (.int l3), some (.int l4), some (.int l5)]) (st' := [.int ((40 * l1) + l2), .ref q_15]) cd_238_128 rfl rfl ?_
                        refine gs_0 (pc' := 130) (L' := [some (.ref l0), some (.int l1), some (.int l2), some (.int l3), some (.int l4), some (.int l5)]) (st' := [.ref l0, .int ((40 * l1) + l2), .ref q_15]) cd_238_129 rfl rfl ?_
                        obtain ⟨ht, h⟩ := gO_s h
                        obtain ⟨q_16, hv, h⟩ := gV_s h
                        refine gs_gfR cd_238_130 (by decide) ht hv ?_
                        refine gs_0 (pc' := 134) (L' := [some (.ref l0), some (.int l1), some (.int l2), some (.int l3), some (.int l4), some (.int l5)]) (st' := [.int 0, .ref q_16, .int ((40 * l1) + l2), .ref q_15]) cd_238_133 rfl rfl ?_
                        refine gs_0 (pc' := 136) (L' := [some (.ref l0), some (.int l1), some (.int l2), some (.int l3), some (.int l4), some (.int l5)]) (st' := [.int l5, .int 0, .ref q_16, .int ((40 * l1) + l2), .ref q_15]) cd_238_134 rfl rfl ?_
                        obtain ⟨w_17, I_18, J_19, hcl, h⟩ := cV_s h
                        refine gs_call (as := [.ref q_15, .int ((40 * l1) + l2), .ref q_16, .int 0, .int l5]) (rest := []) cd_238_136 rfl (by decide) rfl rfl (Nat.le_of_ble_eq_true rfl) (Nat.le_of_ble_eq_true rfl) rfl hcl ?_
                        refine gs_0 (pc' := 140) (L' := [some (.ref l0), some (.int l1), some (.int l2), some (.int l3), some (.int l4), some (.int l5)]) (st' := [.ref l0]) cd_238_139 rfl rfl ?_
                        obtain ⟨ht, h⟩ := gO_s h
                        obtain ⟨q_20, hv, h⟩ := gV_s h
                        refine gs_gfR cd_238_140 (by decide) ht hv ?_
                        refine gs_0 (pc' := 144) (L' := [some (.ref l0), some (.int l1), some (.int l2), some (.int l3), some (.int l4), some (.int l5)]) (st' := [.int 0, .ref q_20]) cd_238_143 rfl rfl ?_
                        refine gs_0 (pc' := 145) (L' := [some (.ref l0), some (.int l1), some (.int l2), some (.int l3), some (.int l4), some (.int l5)]) (st' := [.ref l0, .int 0, .ref q_20]) cd_238_144 rfl rfl ?_
                        obtain ⟨ht, h⟩ := gO_s h
                        obtain ⟨q_21, hv, h⟩ := gV_s h
                        refine gs_gfR cd_238_145 (by decide) ht hv ?_
                        refine gs_0 (pc' := 150) (L' := [some (.ref l0), some (.int l1), some (.int l2), some (.int l3), some (.int l4), some (.int l5)]) (st' := [.int 40, .ref q_21, .int 0, .ref q_20]) cd_238_148 rfl rfl ?_
                        refine gs_0 (pc' := 151) (L' := [some (.ref l0), some (.int l1), some (.int l2), some (.int l3), some (.int l4), some (.int l5)]) (st' := [.int l3, .int 40, .ref q_21, .int 0, .ref q_20]) cd_238_150 rfl rfl ?_
                        refine gs_0 (pc' := 152) (L' := [some (.ref l0), some (.int l1), some (.int l2), some (.int l3), some (.int l4), some (.int l5)]) (st' := [.int (40 * l3), .ref q_21, .int 0, .ref q_20]) cd_238_151 rfl rfl ?_
                        refine gs_0 (pc' := 154) (L' := [some (.ref l0), some (.int l1), some (.int l2), some (.int l3), some (.int l4), some (.int l5)]) (st' := [.int l4, .int (40 * l3), .ref q_21, .int 0, .ref q_20]) cd_238_152 rfl rfl ?_
                        refine gs_0 (pc' := 155) (L' := [some (.ref l0), some (.int l1), some (.int l2), some (.int l3), some (.int l4), some (.int l5)]) (st' := [.int ((40 * l3) + l4), .ref q_21, .int 0, .ref q_20]) cd_238_154 rfl rfl ?_
                        refine gs_0 (pc' := 157) (L' := [some (.ref l0), some (.int l1), some (.int l2), some (.int l3), some (.int l4), some (.int l5)]) (st' := [.int l5, .int ((40 * l3) + l4), .ref q_21, .int 0, .ref q_20]) cd_238_155 rfl rfl ?_
                        obtain ⟨w_22, I_23, J_24, hcl, h⟩ := cV_s h
                        refine gs_call (as := [.ref q_20, .int 0, .ref q_21, .int ((40 * l3) + l4), .int l5]) (rest := []) cd_238_157 rfl (by decide) rfl rfl (Nat.le_of_ble_eq_true rfl) (Nat.le_of_ble_eq_true rfl) rfl hcl ?_
                        refine gs_0 (pc' := 162) (L' := [some (.ref l0), some (.int l1), some (.int l2), some (.int l3), some (.int l4), some (.int l5)]) (st' := [.int l5]) cd_238_160 rfl rfl ?_
                        refine gs_0 (pc' := 163) (L' := [some (.ref l0), some (.int l1), some (.int l2), some (.int l3), some (.int l4), some (.int l5)]) (st' := [.long ((l5 : Int32).toInt64)]) cd_238_162 rfl rfl ?_
                        cases h
                        exact gsr cd_238_163 rfl rfl
                      · rw [if_neg hc] at h
                        exact ok_238_113 h
          · rw [if_neg hc] at h
            refine gs_0 (pc' := 60) (L' := [some (.ref l0), some (.int l1), some (.int l2), some (.int l3), some (.int l4), some (.int l5)]) (st' := [.ref l0]) cd_238_59 rfl rfl ?_
            refine gs_0 (pc' := 61) (L' := [some (.ref l0), some (.int l1), some (.int l2), some (.int l3), some (.int l4), some (.int l5)]) (st' := [.int 4, .ref l0]) cd_238_60 rfl rfl ?_
            obtain ⟨ht, h⟩ := gO_s h
            obtain ⟨v_28, w_25, I_26, J_27, hcl, h⟩ := cJ_s h
            refine gs_call (as := [.ref l0, .int 4]) (rest := []) cd_238_61 rfl (by decide) rfl (sm_rv_ok (by decide) ht) (Nat.le_of_ble_eq_true rfl) (Nat.le_of_ble_eq_true rfl) rfl hcl ?_
            cases h
            exact gsr cd_238_64 rfl rfl
        · rw [if_neg hc] at h
          exact ok_238_38 h
    · rw [if_neg hc] at h
      exact ok_238_14 h
theorem cl_238 {K : Nat → Value} {k d : Nat} {l0 : Nat} {l1 : Int32} {l2 : Int32} {l3 : Int32} {l4 : Int32} {l5 : Int32} {w : aW} {I : aI} {J : aJ} {R : aR} (h : f_238 K k d l0 l1 l2 l3 l4 l5 w I J = some R) : Cl K (d + 1) 238 [.ref l0, .int l1, .int l2, .int l3, .int l4, .int l5] w I J = some R := Cl_of (ok_238 h)
/-! ProvedMachine.found(I)J -/
set_option maxRecDepth 20000 in
theorem gl_239 : gcd.lookup 239 = some gw_239 := rfl
theorem cd_239_0 : sm_cd 239 0 = some (.iload_n 1, 1, 1, 0, 0, 0, 0, 0, 0) := cd_of gl_239 rfl
theorem cd_239_1 : sm_cd 239 1 = some (.iconst 1, 1, 0, 0, 0, 0, 0, 1, 0) := cd_of gl_239 rfl
theorem cd_239_2 : sm_cd 239 2 = some (.if_icmp .lt 9, 3, 11, 0, 0, 0, 0, 0, 0) := cd_of gl_239 rfl
theorem cd_239_5 : sm_cd 239 5 = some (.iload_n 1, 1, 1, 0, 0, 0, 0, 0, 0) := cd_of gl_239 rfl
theorem cd_239_6 : sm_cd 239 6 = some (.bipush 7, 2, 0, 0, 0, 0, 0, 7, 0) := cd_of gl_239 rfl
theorem cd_239_8 : sm_cd 239 8 = some (.if_icmp .le 11, 3, 19, 0, 0, 0, 0, 0, 0) := cd_of gl_239 rfl
theorem cd_239_11 : sm_cd 239 11 = some (.aload_n 0, 1, 0, 0, 0, 0, 0, 0, 0) := cd_of gl_239 rfl
theorem cd_239_12 : sm_cd 239 12 = some (.iconst 1, 1, 0, 0, 0, 0, 0, 1, 0) := cd_of gl_239 rfl
theorem cd_239_13 : sm_cd 239 13 = some (.invokevirtual 60, 3, 17, 0, 1, 2, 5, 0, 0) := cd_of gl_239 rfl
theorem cd_239_16 : sm_cd 239 16 = some (.goto 10, 3, 26, 0, 0, 0, 0, 0, 0) := cd_of gl_239 rfl
theorem cd_239_19 : sm_cd 239 19 = some (.aload_n 0, 1, 0, 0, 0, 0, 0, 0, 0) := cd_of gl_239 rfl
theorem cd_239_20 : sm_cd 239 20 = some (.getfield 50, 3, 5, 7, 2, 0, 0, 0, 0) := cd_of gl_239 rfl
theorem cd_239_23 : sm_cd 239 23 = some (.iload_n 1, 1, 1, 0, 0, 0, 0, 0, 0) := cd_of gl_239 rfl
theorem cd_239_24 : sm_cd 239 24 = some (.iaload, 1, 0, 0, 0, 0, 0, 0, 0) := cd_of gl_239 rfl
theorem cd_239_25 : sm_cd 239 25 = some (.i2l, 1, 0, 0, 0, 0, 0, 0, 0) := cd_of gl_239 rfl
theorem cd_239_26 : sm_cd 239 26 = some (.lreturn, 1, 0, 0, 0, 0, 0, 0, 0) := cd_of gl_239 rfl
noncomputable def f_239_11 (K : Nat → Value) (k d : Nat) (l0 : Nat) (l1 : Int32) (w : aW) (I : aI) (J : aJ) : Option aR :=
  gO w 5 l0 (
  cJ (Cl K d 17 [.ref l0, .int 1] w I J) fun v_4 w_1 I_2 J_3 =>
  some (some (.long v_4), w_1, I_2, J_3))
theorem ok_239_11 {K : Nat → Value} {k d : Nat} {l0 : Nat} {l1 : Int32} {w : aW} {I : aI} {J : aJ} {R : aR} (h : f_239_11 K k d l0 l1 w I J = some R) : Go K (d + 1) 239 11 [some (.ref l0), some (.int l1)] [] w I J R := by
  unfold f_239_11 at h
  refine gs_0 (pc' := 12) (L' := [some (.ref l0), some (.int l1)]) (st' := [.ref l0]) cd_239_11 rfl rfl ?_
  refine gs_0 (pc' := 13) (L' := [some (.ref l0), some (.int l1)]) (st' := [.int 1, .ref l0]) cd_239_12 rfl rfl ?_
  obtain ⟨ht, h⟩ := gO_s h
  obtain ⟨v_4, w_1, I_2, J_3, hcl, h⟩ := cJ_s h
  refine gs_call (as := [.ref l0, .int 1]) (rest := []) cd_239_13 rfl (by decide) rfl (sm_rv_ok (by decide) ht) (Nat.le_of_ble_eq_true rfl) (Nat.le_of_ble_eq_true rfl) rfl hcl ?_
  refine gs_0 (pc' := 26) (L' := [some (.ref l0), some (.int l1)]) (st' := [.long v_4]) cd_239_16 rfl rfl ?_
  cases h
  exact gsr cd_239_26 rfl rfl
noncomputable def f_239 (K : Nat → Value) (k d : Nat) (l0 : Nat) (l1 : Int32) (w : aW) (I : aI) (J : aJ) : Option aR :=
  if l1 < 1 then
    f_239_11 K k d l0 l1 w I J
  else
    if l1 ≤ 7 then
      gO w 5 l0 (
      gV w l0 7 fun q_1 =>
      gA w 10 20 q_1 l1 (
      some (some (.long ((I q_1 (l1 : Int32).toNatClampNeg : Int32).toInt64)), w, I, J)))
    else
      f_239_11 K k d l0 l1 w I J
theorem ok_239 {K : Nat → Value} {k d : Nat} {l0 : Nat} {l1 : Int32} {w : aW} {I : aI} {J : aJ} {R : aR} (h : f_239 K k d l0 l1 w I J = some R) : Go K (d + 1) 239 0 [some (.ref l0), some (.int l1)] [] w I J R := by
  unfold f_239 at h
  refine gs_0 (pc' := 1) (L' := [some (.ref l0), some (.int l1)]) (st' := [.int l1]) cd_239_0 rfl rfl ?_
  refine gs_0 (pc' := 2) (L' := [some (.ref l0), some (.int l1)]) (st' := [.int 1, .int l1]) cd_239_1 rfl rfl ?_
  refine gs_0 (pc' := if l1 < 1 then 11 else 5) (L' := [some (.ref l0), some (.int l1)]) (st' := []) cd_239_2 rfl rfl ?_
  refine go_ite (fun hc => ?_) (fun hc => ?_)
  · rw [if_pos hc] at h
    exact ok_239_11 h
  · rw [if_neg hc] at h
    refine gs_0 (pc' := 6) (L' := [some (.ref l0), some (.int l1)]) (st' := [.int l1]) cd_239_5 rfl rfl ?_
    refine gs_0 (pc' := 8) (L' := [some (.ref l0), some (.int l1)]) (st' := [.int 7, .int l1]) cd_239_6 rfl rfl ?_
    refine gs_0 (pc' := if l1 ≤ 7 then 19 else 11) (L' := [some (.ref l0), some (.int l1)]) (st' := []) cd_239_8 rfl rfl ?_
    refine go_ite (fun hc => ?_) (fun hc => ?_)
    · rw [if_pos hc] at h
      refine gs_0 (pc' := 20) (L' := [some (.ref l0), some (.int l1)]) (st' := [.ref l0]) cd_239_19 rfl rfl ?_
      obtain ⟨ht, h⟩ := gO_s h
      obtain ⟨q_1, hv, h⟩ := gV_s h
      refine gs_gfR cd_239_20 (by decide) ht hv ?_
      refine gs_0 (pc' := 24) (L' := [some (.ref l0), some (.int l1)]) (st' := [.int l1, .ref q_1]) cd_239_23 rfl rfl ?_
      obtain ⟨ht, h⟩ := gA_s h
      refine gs_iald cd_239_24 ht ?_
      refine gs_0 (pc' := 26) (L' := [some (.ref l0), some (.int l1)]) (st' := [.long ((I q_1 (l1 : Int32).toNatClampNeg : Int32).toInt64)]) cd_239_25 rfl rfl ?_
      cases h
      exact gsr cd_239_26 rfl rfl
    · rw [if_neg hc] at h
      exact ok_239_11 h
theorem cl_239 {K : Nat → Value} {k d : Nat} {l0 : Nat} {l1 : Int32} {w : aW} {I : aI} {J : aJ} {R : aR} (h : f_239 K k d l0 l1 w I J = some R) : Cl K (d + 1) 239 [.ref l0, .int l1] w I J = some R := Cl_of (ok_239 h)
/-! ProvedMachineModel.found(I)J -/
set_option maxRecDepth 20000 in
theorem gl_240 : gcd.lookup 240 = some gw_240 := rfl
theorem cd_240_0 : sm_cd 240 0 = some (.iload_n 1, 1, 1, 0, 0, 0, 0, 0, 0) := cd_of gl_240 rfl
theorem cd_240_1 : sm_cd 240 1 = some (.iconst 1, 1, 0, 0, 0, 0, 0, 1, 0) := cd_of gl_240 rfl
theorem cd_240_2 : sm_cd 240 2 = some (.bipush 7, 2, 0, 0, 0, 0, 0, 7, 0) := cd_of gl_240 rfl
theorem cd_240_4 : sm_cd 240 4 = some (.invokestatic 144, 3, 19, 1, 3, 3, 6, 0, 0) := cd_of gl_240 rfl
theorem cd_240_7 : sm_cd 240 7 = some (.ifCond .eq 13, 3, 20, 0, 0, 0, 0, 0, 0) := cd_of gl_240 rfl
theorem cd_240_10 : sm_cd 240 10 = some (.aload_n 0, 1, 0, 0, 0, 0, 0, 0, 0) := cd_of gl_240 rfl
theorem cd_240_11 : sm_cd 240 11 = some (.getfield 7, 3, 6, 0, 2, 0, 0, 0, 0) := cd_of gl_240 rfl
theorem cd_240_14 : sm_cd 240 14 = some (.iload_n 1, 1, 1, 0, 0, 0, 0, 0, 0) := cd_of gl_240 rfl
theorem cd_240_15 : sm_cd 240 15 = some (.iaload, 1, 0, 0, 0, 0, 0, 0, 0) := cd_of gl_240 rfl
theorem cd_240_16 : sm_cd 240 16 = some (.i2l, 1, 0, 0, 0, 0, 0, 0, 0) := cd_of gl_240 rfl
theorem cd_240_17 : sm_cd 240 17 = some (.goto 8, 3, 25, 0, 0, 0, 0, 0, 0) := cd_of gl_240 rfl
theorem cd_240_20 : sm_cd 240 20 = some (.aload_n 0, 1, 0, 0, 0, 0, 0, 0, 0) := cd_of gl_240 rfl
theorem cd_240_21 : sm_cd 240 21 = some (.iconst 1, 1, 0, 0, 0, 0, 0, 1, 0) := cd_of gl_240 rfl
theorem cd_240_22 : sm_cd 240 22 = some (.invokevirtual 148, 3, 20, 0, 1, 2, 6, 0, 0) := cd_of gl_240 rfl
theorem cd_240_25 : sm_cd 240 25 = some (.lreturn, 1, 0, 0, 0, 0, 0, 0, 0) := cd_of gl_240 rfl
noncomputable def f_240 (K : Nat → Value) (k d : Nat) (l0 : Nat) (l1 : Int32) (w : aW) (I : aI) (J : aJ) : Option aR :=
  cI (Cl K d 19 [.int l1, .int 1, .int 7] w I J) fun x_4 w_1 I_2 J_3 =>
  if x_4 = 0 then
    gO w_1 6 l0 (
    cJ (Cl K d 20 [.ref l0, .int 1] w_1 I_2 J_3) fun v_8 w_5 I_6 J_7 =>
    some (some (.long v_8), w_5, I_6, J_7))
  else
    gO w_1 6 l0 (
    gV w_1 l0 0 fun q_9 =>
    gA w_1 10 20 q_9 l1 (
    some (some (.long ((I_2 q_9 (l1 : Int32).toNatClampNeg : Int32).toInt64)), w_1, I_2, J_3)))
theorem ok_240 {K : Nat → Value} {k d : Nat} {l0 : Nat} {l1 : Int32} {w : aW} {I : aI} {J : aJ} {R : aR} (h : f_240 K k d l0 l1 w I J = some R) : Go K (d + 1) 240 0 [some (.ref l0), some (.int l1)] [] w I J R := by
  unfold f_240 at h
  refine gs_0 (pc' := 1) (L' := [some (.ref l0), some (.int l1)]) (st' := [.int l1]) cd_240_0 rfl rfl ?_
  refine gs_0 (pc' := 2) (L' := [some (.ref l0), some (.int l1)]) (st' := [.int 1, .int l1]) cd_240_1 rfl rfl ?_
  refine gs_0 (pc' := 4) (L' := [some (.ref l0), some (.int l1)]) (st' := [.int 7, .int 1, .int l1]) cd_240_2 rfl rfl ?_
  obtain ⟨x_4, w_1, I_2, J_3, hcl, h⟩ := cI_s h
  refine gs_call (as := [.int l1, .int 1, .int 7]) (rest := []) cd_240_4 rfl (by decide) rfl rfl (Nat.le_of_ble_eq_true rfl) (Nat.le_of_ble_eq_true rfl) rfl hcl ?_
  refine gs_0 (pc' := if x_4 = 0 then 20 else 10) (L' := [some (.ref l0), some (.int l1)]) (st' := []) cd_240_7 rfl rfl ?_
  refine go_ite (fun hc => ?_) (fun hc => ?_)
  · rw [if_pos hc] at h
    refine gs_0 (pc' := 21) (L' := [some (.ref l0), some (.int l1)]) (st' := [.ref l0]) cd_240_20 rfl rfl ?_
    refine gs_0 (pc' := 22) (L' := [some (.ref l0), some (.int l1)]) (st' := [.int 1, .ref l0]) cd_240_21 rfl rfl ?_
    obtain ⟨ht, h⟩ := gO_s h
    obtain ⟨v_8, w_5, I_6, J_7, hcl, h⟩ := cJ_s h
    refine gs_call (as := [.ref l0, .int 1]) (rest := []) cd_240_22 rfl (by decide) rfl (sm_rv_ok (by decide) ht) (Nat.le_of_ble_eq_true rfl) (Nat.le_of_ble_eq_true rfl) rfl hcl ?_
    cases h
    exact gsr cd_240_25 rfl rfl
  · rw [if_neg hc] at h
    refine gs_0 (pc' := 11) (L' := [some (.ref l0), some (.int l1)]) (st' := [.ref l0]) cd_240_10 rfl rfl ?_
    obtain ⟨ht, h⟩ := gO_s h
    obtain ⟨q_9, hv, h⟩ := gV_s h
    refine gs_gfR cd_240_11 (by decide) ht hv ?_
    refine gs_0 (pc' := 15) (L' := [some (.ref l0), some (.int l1)]) (st' := [.int l1, .ref q_9]) cd_240_14 rfl rfl ?_
    obtain ⟨ht, h⟩ := gA_s h
    refine gs_iald cd_240_15 ht ?_
    refine gs_0 (pc' := 17) (L' := [some (.ref l0), some (.int l1)]) (st' := [.long ((I_2 q_9 (l1 : Int32).toNatClampNeg : Int32).toInt64)]) cd_240_16 rfl rfl ?_
    refine gs_0 (pc' := 25) (L' := [some (.ref l0), some (.int l1)]) (st' := [.long ((I_2 q_9 (l1 : Int32).toNatClampNeg : Int32).toInt64)]) cd_240_17 rfl rfl ?_
    cases h
    exact gsr cd_240_25 rfl rfl
theorem cl_240 {K : Nat → Value} {k d : Nat} {l0 : Nat} {l1 : Int32} {w : aW} {I : aI} {J : aJ} {R : aR} (h : f_240 K k d l0 l1 w I J = some R) : Cl K (d + 1) 240 [.ref l0, .int l1] w I J = some R := Cl_of (ok_240 h)
/-! ProvedMachine.all(I)J -/
set_option maxRecDepth 20000 in
theorem gl_241 : gcd.lookup 241 = some gw_241 := rfl
theorem cd_241_0 : sm_cd 241 0 = some (.iload_n 1, 1, 1, 0, 0, 0, 0, 0, 0) := cd_of gl_241 rfl
theorem cd_241_1 : sm_cd 241 1 = some (.tableswitch 68 0 3 #[31, 37, 46, 55], 31, 0, 0, 0, 0, 0, 0, 0) := cd_of gl_241 rfl
theorem cd_241_32 : sm_cd 241 32 = some (.aload_n 0, 1, 0, 0, 0, 0, 0, 0, 0) := cd_of gl_241 rfl
theorem cd_241_33 : sm_cd 241 33 = some (.getfield 13, 3, 5, 1, 0, 0, 0, 0, 0) := cd_of gl_241 rfl
theorem cd_241_36 : sm_cd 241 36 = some (.i2l, 1, 0, 0, 0, 0, 0, 0, 0) := cd_of gl_241 rfl
theorem cd_241_37 : sm_cd 241 37 = some (.lreturn, 1, 0, 0, 0, 0, 0, 0, 0) := cd_of gl_241 rfl
theorem cd_241_38 : sm_cd 241 38 = some (.aload_n 0, 1, 0, 0, 0, 0, 0, 0, 0) := cd_of gl_241 rfl
theorem cd_241_39 : sm_cd 241 39 = some (.getfield 27, 3, 5, 3, 2, 0, 0, 0, 0) := cd_of gl_241 rfl
theorem cd_241_42 : sm_cd 241 42 = some (.getfield 80, 3, 1, 6, 0, 1, 0, 0, 0) := cd_of gl_241 rfl
theorem cd_241_45 : sm_cd 241 45 = some (.i2l, 1, 0, 0, 0, 0, 0, 0, 0) := cd_of gl_241 rfl
theorem cd_241_46 : sm_cd 241 46 = some (.lreturn, 1, 0, 0, 0, 0, 0, 0, 0) := cd_of gl_241 rfl
theorem cd_241_47 : sm_cd 241 47 = some (.aload_n 0, 1, 0, 0, 0, 0, 0, 0, 0) := cd_of gl_241 rfl
theorem cd_241_48 : sm_cd 241 48 = some (.getfield 27, 3, 5, 3, 2, 0, 0, 0, 0) := cd_of gl_241 rfl
theorem cd_241_51 : sm_cd 241 51 = some (.getfield 100, 3, 1, 7, 0, 1, 0, 0, 0) := cd_of gl_241 rfl
theorem cd_241_54 : sm_cd 241 54 = some (.i2l, 1, 0, 0, 0, 0, 0, 0, 0) := cd_of gl_241 rfl
theorem cd_241_55 : sm_cd 241 55 = some (.lreturn, 1, 0, 0, 0, 0, 0, 0, 0) := cd_of gl_241 rfl
theorem cd_241_56 : sm_cd 241 56 = some (.aload_n 0, 1, 0, 0, 0, 0, 0, 0, 0) := cd_of gl_241 rfl
theorem cd_241_57 : sm_cd 241 57 = some (.getfield 40, 3, 5, 5, 1, 0, 0, 0, 0) := cd_of gl_241 rfl
theorem cd_241_60 : sm_cd 241 60 = some (.ifCond .eq 7, 3, 67, 0, 0, 0, 0, 0, 0) := cd_of gl_241 rfl
theorem cd_241_63 : sm_cd 241 63 = some (.lconst 1, 1, 0, 0, 0, 0, 0, 0, 1) := cd_of gl_241 rfl
theorem cd_241_64 : sm_cd 241 64 = some (.goto 4, 3, 68, 0, 0, 0, 0, 0, 0) := cd_of gl_241 rfl
theorem cd_241_67 : sm_cd 241 67 = some (.lconst 0, 1, 0, 0, 0, 0, 0, 0, 0) := cd_of gl_241 rfl
theorem cd_241_68 : sm_cd 241 68 = some (.lreturn, 1, 0, 0, 0, 0, 0, 0, 0) := cd_of gl_241 rfl
theorem cd_241_69 : sm_cd 241 69 = some (.aload_n 0, 1, 0, 0, 0, 0, 0, 0, 0) := cd_of gl_241 rfl
theorem cd_241_70 : sm_cd 241 70 = some (.iconst 1, 1, 0, 0, 0, 0, 0, 1, 0) := cd_of gl_241 rfl
theorem cd_241_71 : sm_cd 241 71 = some (.invokevirtual 60, 3, 17, 0, 1, 2, 5, 0, 0) := cd_of gl_241 rfl
theorem cd_241_74 : sm_cd 241 74 = some (.lreturn, 1, 0, 0, 0, 0, 0, 0, 0) := cd_of gl_241 rfl
theorem sw_241_1_0 {K : Nat → Value} {L : aL} {st : List Value} {w : aW} {I : aI} {J : aJ} {x : Int32} (h : x = 0) : sm_stp K (.tableswitch 68 0 3 #[31, 37, 46, 55], 31, 0, 0, 0, 0, 0, 0, 0) 1 L (.int x :: st) w I J = some (32, L, st, w, I, J) := by subst h; rfl
theorem sw_241_1_1 {K : Nat → Value} {L : aL} {st : List Value} {w : aW} {I : aI} {J : aJ} {x : Int32} (h : x = 1) : sm_stp K (.tableswitch 68 0 3 #[31, 37, 46, 55], 31, 0, 0, 0, 0, 0, 0, 0) 1 L (.int x :: st) w I J = some (38, L, st, w, I, J) := by subst h; rfl
theorem sw_241_1_2 {K : Nat → Value} {L : aL} {st : List Value} {w : aW} {I : aI} {J : aJ} {x : Int32} (h : x = 2) : sm_stp K (.tableswitch 68 0 3 #[31, 37, 46, 55], 31, 0, 0, 0, 0, 0, 0, 0) 1 L (.int x :: st) w I J = some (47, L, st, w, I, J) := by subst h; rfl
theorem sw_241_1_3 {K : Nat → Value} {L : aL} {st : List Value} {w : aW} {I : aI} {J : aJ} {x : Int32} (h : x = 3) : sm_stp K (.tableswitch 68 0 3 #[31, 37, 46, 55], 31, 0, 0, 0, 0, 0, 0, 0) 1 L (.int x :: st) w I J = some (56, L, st, w, I, J) := by subst h; rfl
theorem sw_241_1_d {K : Nat → Value} {L : aL} {st : List Value} {w : aW} {I : aI} {J : aJ} {x : Int32} (h0 : ¬ x = 0) (h1 : ¬ x = 1) (h2 : ¬ x = 2) (h3 : ¬ x = 3) : sm_stp K (.tableswitch 68 0 3 #[31, 37, 46, 55], 31, 0, 0, 0, 0, 0, 0, 0) 1 L (.int x :: st) w I J = some (69, L, st, w, I, J) := by
  have e : sm_swt 1 68 0 3 #[31, 37, 46, 55] x = some 69 := by
    unfold sm_swt
    split
    · rfl
    · rename_i hn
      exfalso
      have ha : ¬ x.toInt < 0 := fun q => hn (Or.inl q)
      have hb : ¬ 3 < x.toInt := fun q => hn (Or.inr q)
      have g0 : ¬ x.toInt = 0 := fun q => h0 (Int32.toInt_inj.mp q)
      have g1 : ¬ x.toInt = 1 := fun q => h1 (Int32.toInt_inj.mp q)
      have g2 : ¬ x.toInt = 2 := fun q => h2 (Int32.toInt_inj.mp q)
      have g3 : ¬ x.toInt = 3 := fun q => h3 (Int32.toInt_inj.mp q)
      omega
  simp only [sm_stp, e, sm_jm]
noncomputable def f_241 (K : Nat → Value) (k d : Nat) (l0 : Nat) (l1 : Int32) (w : aW) (I : aI) (J : aJ) : Option aR :=
  if l1 = 0 then
    gO w 5 l0 (
    some (some (.long ((I l0 1 : Int32).toInt64)), w, I, J))
  else
  if l1 = 1 then
    gO w 5 l0 (
    gV w l0 3 fun q_1 =>
    gO w 1 q_1 (
    some (some (.long ((I q_1 6 : Int32).toInt64)), w, I, J)))
  else
  if l1 = 2 then
    gO w 5 l0 (
    gV w l0 3 fun q_2 =>
    gO w 1 q_2 (
    some (some (.long ((I q_2 7 : Int32).toInt64)), w, I, J)))
  else
  if l1 = 3 then
    gO w 5 l0 (
    if (I l0 5) = 0 then
      some (some (.long 0), w, I, J)
    else
      some (some (.long 1), w, I, J))
  else
  gO w 5 l0 (
  cJ (Cl K d 17 [.ref l0, .int 1] w I J) fun v_6 w_3 I_4 J_5 =>
  some (some (.long v_6), w_3, I_4, J_5))
theorem ok_241 {K : Nat → Value} {k d : Nat} {l0 : Nat} {l1 : Int32} {w : aW} {I : aI} {J : aJ} {R : aR} (h : f_241 K k d l0 l1 w I J = some R) : Go K (d + 1) 241 0 [some (.ref l0), some (.int l1)] [] w I J R := by
  unfold f_241 at h
  refine gs_0 (pc' := 1) (L' := [some (.ref l0), some (.int l1)]) (st' := [.int l1]) cd_241_0 rfl rfl ?_
  by_cases hc0 : l1 = 0
  · rw [if_pos hc0] at h
    refine gs_0 (pc' := 32) (L' := [some (.ref l0), some (.int l1)]) (st' := []) cd_241_1 rfl (sw_241_1_0 hc0) ?_
    refine gs_0 (pc' := 33) (L' := [some (.ref l0), some (.int l1)]) (st' := [.ref l0]) cd_241_32 rfl rfl ?_
    obtain ⟨ht, h⟩ := gO_s h
    refine gs_gfI cd_241_33 (by decide) (by decide) ht ?_
    refine gs_0 (pc' := 37) (L' := [some (.ref l0), some (.int l1)]) (st' := [.long ((I l0 1 : Int32).toInt64)]) cd_241_36 rfl rfl ?_
    cases h
    exact gsr cd_241_37 rfl rfl
  · rw [if_neg hc0] at h
    by_cases hc1 : l1 = 1
    · rw [if_pos hc1] at h
      refine gs_0 (pc' := 38) (L' := [some (.ref l0), some (.int l1)]) (st' := []) cd_241_1 rfl (sw_241_1_1 hc1) ?_
      refine gs_0 (pc' := 39) (L' := [some (.ref l0), some (.int l1)]) (st' := [.ref l0]) cd_241_38 rfl rfl ?_
      obtain ⟨ht, h⟩ := gO_s h
      obtain ⟨q_1, hv, h⟩ := gV_s h
      refine gs_gfR cd_241_39 (by decide) ht hv ?_
      obtain ⟨ht, h⟩ := gO_s h
      refine gs_gfI cd_241_42 (by decide) (by decide) ht ?_
      refine gs_0 (pc' := 46) (L' := [some (.ref l0), some (.int l1)]) (st' := [.long ((I q_1 6 : Int32).toInt64)]) cd_241_45 rfl rfl ?_
      cases h
      exact gsr cd_241_46 rfl rfl
    · rw [if_neg hc1] at h
      by_cases hc2 : l1 = 2
      · rw [if_pos hc2] at h
        refine gs_0 (pc' := 47) (L' := [some (.ref l0), some (.int l1)]) (st' := []) cd_241_1 rfl (sw_241_1_2 hc2) ?_
        refine gs_0 (pc' := 48) (L' := [some (.ref l0), some (.int l1)]) (st' := [.ref l0]) cd_241_47 rfl rfl ?_
        obtain ⟨ht, h⟩ := gO_s h
        obtain ⟨q_2, hv, h⟩ := gV_s h
        refine gs_gfR cd_241_48 (by decide) ht hv ?_
        obtain ⟨ht, h⟩ := gO_s h
        refine gs_gfI cd_241_51 (by decide) (by decide) ht ?_
        refine gs_0 (pc' := 55) (L' := [some (.ref l0), some (.int l1)]) (st' := [.long ((I q_2 7 : Int32).toInt64)]) cd_241_54 rfl rfl ?_
        cases h
        exact gsr cd_241_55 rfl rfl
      · rw [if_neg hc2] at h
        by_cases hc3 : l1 = 3
        · rw [if_pos hc3] at h
          refine gs_0 (pc' := 56) (L' := [some (.ref l0), some (.int l1)]) (st' := []) cd_241_1 rfl (sw_241_1_3 hc3) ?_
          refine gs_0 (pc' := 57) (L' := [some (.ref l0), some (.int l1)]) (st' := [.ref l0]) cd_241_56 rfl rfl ?_
          obtain ⟨ht, h⟩ := gO_s h
          refine gs_gfI cd_241_57 (by decide) (by decide) ht ?_
          refine gs_0 (pc' := if (I l0 5) = 0 then 67 else 63) (L' := [some (.ref l0), some (.int l1)]) (st' := []) cd_241_60 rfl rfl ?_
          refine go_ite (fun hc => ?_) (fun hc => ?_)
          · rw [if_pos hc] at h
            refine gs_0 (pc' := 68) (L' := [some (.ref l0), some (.int l1)]) (st' := [.long 0]) cd_241_67 rfl rfl ?_
            cases h
            exact gsr cd_241_68 rfl rfl
          · rw [if_neg hc] at h
            refine gs_0 (pc' := 64) (L' := [some (.ref l0), some (.int l1)]) (st' := [.long 1]) cd_241_63 rfl rfl ?_
            refine gs_0 (pc' := 68) (L' := [some (.ref l0), some (.int l1)]) (st' := [.long 1]) cd_241_64 rfl rfl ?_
            cases h
            exact gsr cd_241_68 rfl rfl
        · rw [if_neg hc3] at h
          refine gs_0 (pc' := 69) (L' := [some (.ref l0), some (.int l1)]) (st' := []) cd_241_1 rfl (sw_241_1_d hc0 hc1 hc2 hc3) ?_
          refine gs_0 (pc' := 70) (L' := [some (.ref l0), some (.int l1)]) (st' := [.ref l0]) cd_241_69 rfl rfl ?_
          refine gs_0 (pc' := 71) (L' := [some (.ref l0), some (.int l1)]) (st' := [.int 1, .ref l0]) cd_241_70 rfl rfl ?_
          obtain ⟨ht, h⟩ := gO_s h
          obtain ⟨v_6, w_3, I_4, J_5, hcl, h⟩ := cJ_s h
          refine gs_call (as := [.ref l0, .int 1]) (rest := []) cd_241_71 rfl (by decide) rfl (sm_rv_ok (by decide) ht) (Nat.le_of_ble_eq_true rfl) (Nat.le_of_ble_eq_true rfl) rfl hcl ?_
          cases h
          exact gsr cd_241_74 rfl rfl
theorem cl_241 {K : Nat → Value} {k d : Nat} {l0 : Nat} {l1 : Int32} {w : aW} {I : aI} {J : aJ} {R : aR} (h : f_241 K k d l0 l1 w I J = some R) : Cl K (d + 1) 241 [.ref l0, .int l1] w I J = some R := Cl_of (ok_241 h)
/-! ProvedMachineModel.all(I)J -/
set_option maxRecDepth 20000 in
theorem gl_242 : gcd.lookup 242 = some gw_242 := rfl
theorem cd_242_0 : sm_cd 242 0 = some (.iload_n 1, 1, 1, 0, 0, 0, 0, 0, 0) := cd_of gl_242 rfl
theorem cd_242_1 : sm_cd 242 1 = some (.tableswitch 62 0 3 #[31, 37, 43, 49], 31, 0, 0, 0, 0, 0, 0, 0) := cd_of gl_242 rfl
theorem cd_242_32 : sm_cd 242 32 = some (.aload_n 0, 1, 0, 0, 0, 0, 0, 0, 0) := cd_of gl_242 rfl
theorem cd_242_33 : sm_cd 242 33 = some (.getfield 152, 3, 6, 2, 0, 0, 0, 0, 0) := cd_of gl_242 rfl
theorem cd_242_36 : sm_cd 242 36 = some (.i2l, 1, 0, 0, 0, 0, 0, 0, 0) := cd_of gl_242 rfl
theorem cd_242_37 : sm_cd 242 37 = some (.lreturn, 1, 0, 0, 0, 0, 0, 0, 0) := cd_of gl_242 rfl
theorem cd_242_38 : sm_cd 242 38 = some (.aload_n 0, 1, 0, 0, 0, 0, 0, 0, 0) := cd_of gl_242 rfl
theorem cd_242_39 : sm_cd 242 39 = some (.getfield 330, 3, 6, 17, 0, 0, 0, 0, 0) := cd_of gl_242 rfl
theorem cd_242_42 : sm_cd 242 42 = some (.i2l, 1, 0, 0, 0, 0, 0, 0, 0) := cd_of gl_242 rfl
theorem cd_242_43 : sm_cd 242 43 = some (.lreturn, 1, 0, 0, 0, 0, 0, 0, 0) := cd_of gl_242 rfl
theorem cd_242_44 : sm_cd 242 44 = some (.aload_n 0, 1, 0, 0, 0, 0, 0, 0, 0) := cd_of gl_242 rfl
theorem cd_242_45 : sm_cd 242 45 = some (.getfield 327, 3, 6, 16, 0, 0, 0, 0, 0) := cd_of gl_242 rfl
theorem cd_242_48 : sm_cd 242 48 = some (.i2l, 1, 0, 0, 0, 0, 0, 0, 0) := cd_of gl_242 rfl
theorem cd_242_49 : sm_cd 242 49 = some (.lreturn, 1, 0, 0, 0, 0, 0, 0, 0) := cd_of gl_242 rfl
theorem cd_242_50 : sm_cd 242 50 = some (.aload_n 0, 1, 0, 0, 0, 0, 0, 0, 0) := cd_of gl_242 rfl
theorem cd_242_51 : sm_cd 242 51 = some (.getfield 333, 3, 6, 42, 1, 0, 0, 0, 0) := cd_of gl_242 rfl
theorem cd_242_54 : sm_cd 242 54 = some (.ifCond .eq 7, 3, 61, 0, 0, 0, 0, 0, 0) := cd_of gl_242 rfl
theorem cd_242_57 : sm_cd 242 57 = some (.lconst 1, 1, 0, 0, 0, 0, 0, 0, 1) := cd_of gl_242 rfl
theorem cd_242_58 : sm_cd 242 58 = some (.goto 4, 3, 62, 0, 0, 0, 0, 0, 0) := cd_of gl_242 rfl
theorem cd_242_61 : sm_cd 242 61 = some (.lconst 0, 1, 0, 0, 0, 0, 0, 0, 0) := cd_of gl_242 rfl
theorem cd_242_62 : sm_cd 242 62 = some (.lreturn, 1, 0, 0, 0, 0, 0, 0, 0) := cd_of gl_242 rfl
theorem cd_242_63 : sm_cd 242 63 = some (.aload_n 0, 1, 0, 0, 0, 0, 0, 0, 0) := cd_of gl_242 rfl
theorem cd_242_64 : sm_cd 242 64 = some (.iconst 1, 1, 0, 0, 0, 0, 0, 1, 0) := cd_of gl_242 rfl
theorem cd_242_65 : sm_cd 242 65 = some (.invokevirtual 148, 3, 20, 0, 1, 2, 6, 0, 0) := cd_of gl_242 rfl
theorem cd_242_68 : sm_cd 242 68 = some (.lreturn, 1, 0, 0, 0, 0, 0, 0, 0) := cd_of gl_242 rfl
theorem sw_242_1_0 {K : Nat → Value} {L : aL} {st : List Value} {w : aW} {I : aI} {J : aJ} {x : Int32} (h : x = 0) : sm_stp K (.tableswitch 62 0 3 #[31, 37, 43, 49], 31, 0, 0, 0, 0, 0, 0, 0) 1 L (.int x :: st) w I J = some (32, L, st, w, I, J) := by subst h; rfl
theorem sw_242_1_1 {K : Nat → Value} {L : aL} {st : List Value} {w : aW} {I : aI} {J : aJ} {x : Int32} (h : x = 1) : sm_stp K (.tableswitch 62 0 3 #[31, 37, 43, 49], 31, 0, 0, 0, 0, 0, 0, 0) 1 L (.int x :: st) w I J = some (38, L, st, w, I, J) := by subst h; rfl
theorem sw_242_1_2 {K : Nat → Value} {L : aL} {st : List Value} {w : aW} {I : aI} {J : aJ} {x : Int32} (h : x = 2) : sm_stp K (.tableswitch 62 0 3 #[31, 37, 43, 49], 31, 0, 0, 0, 0, 0, 0, 0) 1 L (.int x :: st) w I J = some (44, L, st, w, I, J) := by subst h; rfl
theorem sw_242_1_3 {K : Nat → Value} {L : aL} {st : List Value} {w : aW} {I : aI} {J : aJ} {x : Int32} (h : x = 3) : sm_stp K (.tableswitch 62 0 3 #[31, 37, 43, 49], 31, 0, 0, 0, 0, 0, 0, 0) 1 L (.int x :: st) w I J = some (50, L, st, w, I, J) := by subst h; rfl
theorem sw_242_1_d {K : Nat → Value} {L : aL} {st : List Value} {w : aW} {I : aI} {J : aJ} {x : Int32} (h0 : ¬ x = 0) (h1 : ¬ x = 1) (h2 : ¬ x = 2) (h3 : ¬ x = 3) : sm_stp K (.tableswitch 62 0 3 #[31, 37, 43, 49], 31, 0, 0, 0, 0, 0, 0, 0) 1 L (.int x :: st) w I J = some (63, L, st, w, I, J) := by
  have e : sm_swt 1 62 0 3 #[31, 37, 43, 49] x = some 63 := by
    unfold sm_swt
    split
    · rfl
    · rename_i hn
      exfalso
      have ha : ¬ x.toInt < 0 := fun q => hn (Or.inl q)
      have hb : ¬ 3 < x.toInt := fun q => hn (Or.inr q)
      have g0 : ¬ x.toInt = 0 := fun q => h0 (Int32.toInt_inj.mp q)
      have g1 : ¬ x.toInt = 1 := fun q => h1 (Int32.toInt_inj.mp q)
      have g2 : ¬ x.toInt = 2 := fun q => h2 (Int32.toInt_inj.mp q)
      have g3 : ¬ x.toInt = 3 := fun q => h3 (Int32.toInt_inj.mp q)
      omega
  simp only [sm_stp, e, sm_jm]
noncomputable def f_242 (K : Nat → Value) (k d : Nat) (l0 : Nat) (l1 : Int32) (w : aW) (I : aI) (J : aJ) : Option aR :=
  if l1 = 0 then
    gO w 6 l0 (
    some (some (.long ((I l0 2 : Int32).toInt64)), w, I, J))
  else
  if l1 = 1 then
    gO w 6 l0 (
    some (some (.long ((I l0 17 : Int32).toInt64)), w, I, J))
  else
  if l1 = 2 then
    gO w 6 l0 (
    some (some (.long ((I l0 16 : Int32).toInt64)), w, I, J))
  else
  if l1 = 3 then
    gO w 6 l0 (
    if (I l0 42) = 0 then
      some (some (.long 0), w, I, J)
    else
      some (some (.long 1), w, I, J))
  else
  gO w 6 l0 (
  cJ (Cl K d 20 [.ref l0, .int 1] w I J) fun v_4 w_1 I_2 J_3 =>
  some (some (.long v_4), w_1, I_2, J_3))
theorem ok_242 {K : Nat → Value} {k d : Nat} {l0 : Nat} {l1 : Int32} {w : aW} {I : aI} {J : aJ} {R : aR} (h : f_242 K k d l0 l1 w I J = some R) : Go K (d + 1) 242 0 [some (.ref l0), some (.int l1)] [] w I J R := by
  unfold f_242 at h
  refine gs_0 (pc' := 1) (L' := [some (.ref l0), some (.int l1)]) (st' := [.int l1]) cd_242_0 rfl rfl ?_
  by_cases hc0 : l1 = 0
  · rw [if_pos hc0] at h
    refine gs_0 (pc' := 32) (L' := [some (.ref l0), some (.int l1)]) (st' := []) cd_242_1 rfl (sw_242_1_0 hc0) ?_
    refine gs_0 (pc' := 33) (L' := [some (.ref l0), some (.int l1)]) (st' := [.ref l0]) cd_242_32 rfl rfl ?_
    obtain ⟨ht, h⟩ := gO_s h
    refine gs_gfI cd_242_33 (by decide) (by decide) ht ?_
    refine gs_0 (pc' := 37) (L' := [some (.ref l0), some (.int l1)]) (st' := [.long ((I l0 2 : Int32).toInt64)]) cd_242_36 rfl rfl ?_
    cases h
    exact gsr cd_242_37 rfl rfl
  · rw [if_neg hc0] at h
    by_cases hc1 : l1 = 1
    · rw [if_pos hc1] at h
      refine gs_0 (pc' := 38) (L' := [some (.ref l0), some (.int l1)]) (st' := []) cd_242_1 rfl (sw_242_1_1 hc1) ?_
      refine gs_0 (pc' := 39) (L' := [some (.ref l0), some (.int l1)]) (st' := [.ref l0]) cd_242_38 rfl rfl ?_
      obtain ⟨ht, h⟩ := gO_s h
      refine gs_gfI cd_242_39 (by decide) (by decide) ht ?_
      refine gs_0 (pc' := 43) (L' := [some (.ref l0), some (.int l1)]) (st' := [.long ((I l0 17 : Int32).toInt64)]) cd_242_42 rfl rfl ?_
      cases h
      exact gsr cd_242_43 rfl rfl
    · rw [if_neg hc1] at h
      by_cases hc2 : l1 = 2
      · rw [if_pos hc2] at h
        refine gs_0 (pc' := 44) (L' := [some (.ref l0), some (.int l1)]) (st' := []) cd_242_1 rfl (sw_242_1_2 hc2) ?_
        refine gs_0 (pc' := 45) (L' := [some (.ref l0), some (.int l1)]) (st' := [.ref l0]) cd_242_44 rfl rfl ?_
        obtain ⟨ht, h⟩ := gO_s h
        refine gs_gfI cd_242_45 (by decide) (by decide) ht ?_
        refine gs_0 (pc' := 49) (L' := [some (.ref l0), some (.int l1)]) (st' := [.long ((I l0 16 : Int32).toInt64)]) cd_242_48 rfl rfl ?_
        cases h
        exact gsr cd_242_49 rfl rfl
      · rw [if_neg hc2] at h
        by_cases hc3 : l1 = 3
        · rw [if_pos hc3] at h
          refine gs_0 (pc' := 50) (L' := [some (.ref l0), some (.int l1)]) (st' := []) cd_242_1 rfl (sw_242_1_3 hc3) ?_
          refine gs_0 (pc' := 51) (L' := [some (.ref l0), some (.int l1)]) (st' := [.ref l0]) cd_242_50 rfl rfl ?_
          obtain ⟨ht, h⟩ := gO_s h
          refine gs_gfI cd_242_51 (by decide) (by decide) ht ?_
          refine gs_0 (pc' := if (I l0 42) = 0 then 61 else 57) (L' := [some (.ref l0), some (.int l1)]) (st' := []) cd_242_54 rfl rfl ?_
          refine go_ite (fun hc => ?_) (fun hc => ?_)
          · rw [if_pos hc] at h
            refine gs_0 (pc' := 62) (L' := [some (.ref l0), some (.int l1)]) (st' := [.long 0]) cd_242_61 rfl rfl ?_
            cases h
            exact gsr cd_242_62 rfl rfl
          · rw [if_neg hc] at h
            refine gs_0 (pc' := 58) (L' := [some (.ref l0), some (.int l1)]) (st' := [.long 1]) cd_242_57 rfl rfl ?_
            refine gs_0 (pc' := 62) (L' := [some (.ref l0), some (.int l1)]) (st' := [.long 1]) cd_242_58 rfl rfl ?_
            cases h
            exact gsr cd_242_62 rfl rfl
        · rw [if_neg hc3] at h
          refine gs_0 (pc' := 63) (L' := [some (.ref l0), some (.int l1)]) (st' := []) cd_242_1 rfl (sw_242_1_d hc0 hc1 hc2 hc3) ?_
          refine gs_0 (pc' := 64) (L' := [some (.ref l0), some (.int l1)]) (st' := [.ref l0]) cd_242_63 rfl rfl ?_
          refine gs_0 (pc' := 65) (L' := [some (.ref l0), some (.int l1)]) (st' := [.int 1, .ref l0]) cd_242_64 rfl rfl ?_
          obtain ⟨ht, h⟩ := gO_s h
          obtain ⟨v_4, w_1, I_2, J_3, hcl, h⟩ := cJ_s h
          refine gs_call (as := [.ref l0, .int 1]) (rest := []) cd_242_65 rfl (by decide) rfl (sm_rv_ok (by decide) ht) (Nat.le_of_ble_eq_true rfl) (Nat.le_of_ble_eq_true rfl) rfl hcl ?_
          cases h
          exact gsr cd_242_68 rfl rfl
theorem cl_242 {K : Nat → Value} {k d : Nat} {l0 : Nat} {l1 : Int32} {w : aW} {I : aI} {J : aJ} {R : aR} (h : f_242 K k d l0 l1 w I J = some R) : Cl K (d + 1) 242 [.ref l0, .int l1] w I J = some R := Cl_of (ok_242 h)

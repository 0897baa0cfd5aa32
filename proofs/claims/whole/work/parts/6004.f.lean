/-! methods as functions, by own program (wip/whole/gen_f.py) -/
/-! ProvedMachineModel.isLetter(I)Z -/
theorem gl_85 : gcd.lookup 85 = some gw_85 := rfl
theorem cd_85_0 : sm_cd 85 0 = some (.iload_n 1, 1, 1, 0, 0, 0, 0, 0, 0) := cd_of gl_85 rfl
theorem cd_85_1 : sm_cd 85 1 = some (.aload_n 0, 1, 0, 0, 0, 0, 0, 0, 0) := cd_of gl_85 rfl
theorem cd_85_2 : sm_cd 85 2 = some (.getfield 152, 3, 6, 2, 0, 0, 0, 0, 0) := cd_of gl_85 rfl
theorem cd_85_5 : sm_cd 85 5 = some (.if_icmp .ge 23, 3, 28, 0, 0, 0, 0, 0, 0) := cd_of gl_85 rfl
theorem cd_85_8 : sm_cd 85 8 = some (.aload_n 0, 1, 0, 0, 0, 0, 0, 0, 0) := cd_of gl_85 rfl
theorem cd_85_9 : sm_cd 85 9 = some (.getfield 13, 3, 6, 1, 2, 0, 0, 0, 0) := cd_of gl_85 rfl
theorem cd_85_12 : sm_cd 85 12 = some (.iload_n 1, 1, 1, 0, 0, 0, 0, 0, 0) := cd_of gl_85 rfl
theorem cd_85_13 : sm_cd 85 13 = some (.iaload, 1, 0, 0, 0, 0, 0, 0, 0) := cd_of gl_85 rfl
theorem cd_85_14 : sm_cd 85 14 = some (.bipush 97, 2, 0, 0, 0, 0, 0, 97, 0) := cd_of gl_85 rfl
theorem cd_85_16 : sm_cd 85 16 = some (.bipush 122, 2, 0, 0, 0, 0, 0, 122, 0) := cd_of gl_85 rfl
theorem cd_85_18 : sm_cd 85 18 = some (.invokestatic 144, 3, 19, 1, 3, 3, 6, 0, 0) := cd_of gl_85 rfl
theorem cd_85_21 : sm_cd 85 21 = some (.ifCond .eq 7, 3, 28, 0, 0, 0, 0, 0, 0) := cd_of gl_85 rfl
theorem cd_85_24 : sm_cd 85 24 = some (.iconst 1, 1, 0, 0, 0, 0, 0, 1, 0) := cd_of gl_85 rfl
theorem cd_85_25 : sm_cd 85 25 = some (.goto 4, 3, 29, 0, 0, 0, 0, 0, 0) := cd_of gl_85 rfl
theorem cd_85_28 : sm_cd 85 28 = some (.iconst 0, 1, 0, 0, 0, 0, 0, 0, 0) := cd_of gl_85 rfl
theorem cd_85_29 : sm_cd 85 29 = some (.ireturn, 1, 0, 0, 2, 0, 0, 0, 0) := cd_of gl_85 rfl
noncomputable def f_85 (K : Nat → Value) (k d : Nat) (l0 : Nat) (l1 : Int32) (w : aW) (I : aI) (J : aJ) : Option aR :=
  gO w 6 l0 (
  if (I l0 2) ≤ l1 then
    some (some (.int 0), w, I, J)
  else
    gO w 6 l0 (
    gV w l0 1 fun q_1 =>
    gA w 10 20 q_1 l1 (
    cI (Cl K d 19 [.int (I q_1 (l1 : Int32).toNatClampNeg), .int 97, .int 122] w I J) fun x_5 w_2 I_3 J_4 =>
    if x_5 = 0 then
      some (some (.int 0), w_2, I_3, J_4)
    else
      some (some (.int 1), w_2, I_3, J_4))))
theorem ok_85 {K : Nat → Value} {k d : Nat} {l0 : Nat} {l1 : Int32} {w : aW} {I : aI} {J : aJ} {R : aR} (h : f_85 K k d l0 l1 w I J = some R) : Go K (d + 1) 85 0 [some (.ref l0), some (.int l1)] [] w I J R := by
  unfold f_85 at h
  refine gs_0 (pc' := 1) (L' := [some (.ref l0), some (.int l1)]) (st' := [.int l1]) cd_85_0 rfl rfl ?_
  refine gs_0 (pc' := 2) (L' := [some (.ref l0), some (.int l1)]) (st' := [.ref l0, .int l1]) cd_85_1 rfl rfl ?_
  obtain ⟨ht, h⟩ := gO_s h
  refine gs_gfI cd_85_2 (by decide) (by decide) ht ?_
  refine gs_0 (pc' := if (I l0 2) ≤ l1 then 28 else 8) (L' := [some (.ref l0), some (.int l1)]) (st' := []) cd_85_5 rfl rfl ?_
  refine go_ite (fun hc => ?_) (fun hc => ?_)
  · rw [if_pos hc] at h
    refine gs_0 (pc' := 29) (L' := [some (.ref l0), some (.int l1)]) (st' := [.int 0]) cd_85_28 rfl rfl ?_
    cases h
    exact gs_ri cd_85_29 (Or.inr (Or.inl ⟨rfl, Or.inl rfl⟩))
  · rw [if_neg hc] at h
    refine gs_0 (pc' := 9) (L' := [some (.ref l0), some (.int l1)]) (st' := [.ref l0]) cd_85_8 rfl rfl ?_
    obtain ⟨ht, h⟩ := gO_s h
    obtain ⟨q_1, hv, h⟩ := gV_s h
    refine gs_gfR cd_85_9 (by decide) ht hv ?_
    refine gs_0 (pc' := 13) (L' := [some (.ref l0), some (.int l1)]) (st' := [.int l1, .ref q_1]) cd_85_12 rfl rfl ?_
    obtain ⟨ht, h⟩ := gA_s h
    refine gs_iald cd_85_13 ht ?_
    refine gs_0 (pc' := 16) (L' := [some (.ref l0), some (.int l1)]) (st' := [.int 97, .int (I q_1 (l1 : Int32).toNatClampNeg)]) cd_85_14 rfl rfl ?_
    refine gs_0 (pc' := 18) (L' := [some (.ref l0), some (.int l1)]) (st' := [.int 122, .int 97, .int (I q_1 (l1 : Int32).toNatClampNeg)]) cd_85_16 rfl rfl ?_
    obtain ⟨x_5, w_2, I_3, J_4, hcl, h⟩ := cI_s h
    refine gs_call (as := [.int (I q_1 (l1 : Int32).toNatClampNeg), .int 97, .int 122]) (rest := []) cd_85_18 rfl (by decide) rfl rfl (Nat.le_of_ble_eq_true rfl) (Nat.le_of_ble_eq_true rfl) rfl hcl ?_
    refine gs_0 (pc' := if x_5 = 0 then 28 else 24) (L' := [some (.ref l0), some (.int l1)]) (st' := []) cd_85_21 rfl rfl ?_
    refine go_ite (fun hc => ?_) (fun hc => ?_)
    · rw [if_pos hc] at h
      refine gs_0 (pc' := 29) (L' := [some (.ref l0), some (.int l1)]) (st' := [.int 0]) cd_85_28 rfl rfl ?_
      cases h
      exact gs_ri cd_85_29 (Or.inr (Or.inl ⟨rfl, Or.inl rfl⟩))
    · rw [if_neg hc] at h
      refine gs_0 (pc' := 25) (L' := [some (.ref l0), some (.int l1)]) (st' := [.int 1]) cd_85_24 rfl rfl ?_
      refine gs_0 (pc' := 29) (L' := [some (.ref l0), some (.int l1)]) (st' := [.int 1]) cd_85_25 rfl rfl ?_
      cases h
      exact gs_ri cd_85_29 (Or.inr (Or.inl ⟨rfl, Or.inr rfl⟩))
theorem cl_85 {K : Nat → Value} {k d : Nat} {l0 : Nat} {l1 : Int32} {w : aW} {I : aI} {J : aJ} {R : aR} (h : f_85 K k d l0 l1 w I J = some R) : Cl K (d + 1) 85 [.ref l0, .int l1] w I J = some R := Cl_of (ok_85 h)
/-! ProvedMachineModel.keyHere()I -/
theorem gl_86 : gcd.lookup 86 = some gw_86 := rfl
theorem cd_86_0 : sm_cd 86 0 = some (.iconst (-1), 1, 0, 0, 0, 0, 0, (-1), 0) := cd_of gl_86 rfl
theorem cd_86_1 : sm_cd 86 1 = some (.istore_n 1, 1, 1, 0, 0, 0, 0, 0, 0) := cd_of gl_86 rfl
theorem cd_86_2 : sm_cd 86 2 = some (.iconst 0, 1, 0, 0, 0, 0, 0, 0, 0) := cd_of gl_86 rfl
theorem cd_86_3 : sm_cd 86 3 = some (.istore_n 2, 1, 2, 0, 0, 0, 0, 0, 0) := cd_of gl_86 rfl
theorem cd_86_4 : sm_cd 86 4 = some (.iload_n 2, 1, 2, 0, 0, 0, 0, 0, 0) := cd_of gl_86 rfl
theorem cd_86_5 : sm_cd 86 5 = some (.aload_n 0, 1, 0, 0, 0, 0, 0, 0, 0) := cd_of gl_86 rfl
theorem cd_86_6 : sm_cd 86 6 = some (.getfield 98, 3, 6, 21, 2, 0, 0, 0, 0) := cd_of gl_86 rfl
theorem cd_86_9 : sm_cd 86 9 = some (.arraylength, 1, 0, 0, 0, 0, 0, 0, 0) := cd_of gl_86 rfl
theorem cd_86_10 : sm_cd 86 10 = some (.if_icmp .ge 105, 3, 115, 0, 0, 0, 0, 0, 0) := cd_of gl_86 rfl
theorem cd_86_13 : sm_cd 86 13 = some (.aload_n 0, 1, 0, 0, 0, 0, 0, 0, 0) := cd_of gl_86 rfl
theorem cd_86_14 : sm_cd 86 14 = some (.getfield 157, 3, 6, 23, 0, 0, 0, 0, 0) := cd_of gl_86 rfl
theorem cd_86_17 : sm_cd 86 17 = some (.aload_n 0, 1, 0, 0, 0, 0, 0, 0, 0) := cd_of gl_86 rfl
theorem cd_86_18 : sm_cd 86 18 = some (.getfield 160, 3, 6, 22, 0, 0, 0, 0, 0) := cd_of gl_86 rfl
theorem cd_86_21 : sm_cd 86 21 = some (.isub, 1, 0, 0, 0, 0, 0, 0, 0) := cd_of gl_86 rfl
theorem cd_86_22 : sm_cd 86 22 = some (.aload_n 0, 1, 0, 0, 0, 0, 0, 0, 0) := cd_of gl_86 rfl
theorem cd_86_23 : sm_cd 86 23 = some (.getfield 98, 3, 6, 21, 2, 0, 0, 0, 0) := cd_of gl_86 rfl
theorem cd_86_26 : sm_cd 86 26 = some (.iload_n 2, 1, 2, 0, 0, 0, 0, 0, 0) := cd_of gl_86 rfl
theorem cd_86_27 : sm_cd 86 27 = some (.aaload, 1, 0, 0, 0, 0, 0, 0, 0) := cd_of gl_86 rfl
theorem cd_86_28 : sm_cd 86 28 = some (.invokevirtual 163, 3, 4, 0, 0, 1, 7, 0, 0) := cd_of gl_86 rfl
theorem cd_86_31 : sm_cd 86 31 = some (.if_icmp .ne 7, 3, 38, 0, 0, 0, 0, 0, 0) := cd_of gl_86 rfl
theorem cd_86_34 : sm_cd 86 34 = some (.iconst 1, 1, 0, 0, 0, 0, 0, 1, 0) := cd_of gl_86 rfl
theorem cd_86_35 : sm_cd 86 35 = some (.goto 4, 3, 39, 0, 0, 0, 0, 0, 0) := cd_of gl_86 rfl
theorem cd_86_38 : sm_cd 86 38 = some (.iconst 0, 1, 0, 0, 0, 0, 0, 0, 0) := cd_of gl_86 rfl
theorem cd_86_39 : sm_cd 86 39 = some (.istore_n 3, 1, 3, 0, 0, 0, 0, 0, 0) := cd_of gl_86 rfl
theorem cd_86_40 : sm_cd 86 40 = some (.iconst 0, 1, 0, 0, 0, 0, 0, 0, 0) := cd_of gl_86 rfl
theorem cd_86_41 : sm_cd 86 41 = some (.istore 4, 2, 4, 0, 0, 0, 0, 0, 0) := cd_of gl_86 rfl
theorem cd_86_43 : sm_cd 86 43 = some (.iload_n 3, 1, 3, 0, 0, 0, 0, 0, 0) := cd_of gl_86 rfl
theorem cd_86_44 : sm_cd 86 44 = some (.ifCond .eq 55, 3, 99, 0, 0, 0, 0, 0, 0) := cd_of gl_86 rfl
theorem cd_86_47 : sm_cd 86 47 = some (.iload 4, 2, 4, 0, 0, 0, 0, 0, 0) := cd_of gl_86 rfl
theorem cd_86_49 : sm_cd 86 49 = some (.aload_n 0, 1, 0, 0, 0, 0, 0, 0, 0) := cd_of gl_86 rfl
theorem cd_86_50 : sm_cd 86 50 = some (.getfield 157, 3, 6, 23, 0, 0, 0, 0, 0) := cd_of gl_86 rfl
theorem cd_86_53 : sm_cd 86 53 = some (.aload_n 0, 1, 0, 0, 0, 0, 0, 0, 0) := cd_of gl_86 rfl
theorem cd_86_54 : sm_cd 86 54 = some (.getfield 160, 3, 6, 22, 0, 0, 0, 0, 0) := cd_of gl_86 rfl
theorem cd_86_57 : sm_cd 86 57 = some (.isub, 1, 0, 0, 0, 0, 0, 0, 0) := cd_of gl_86 rfl
theorem cd_86_58 : sm_cd 86 58 = some (.if_icmp .ge 41, 3, 99, 0, 0, 0, 0, 0, 0) := cd_of gl_86 rfl
theorem cd_86_61 : sm_cd 86 61 = some (.aload_n 0, 1, 0, 0, 0, 0, 0, 0, 0) := cd_of gl_86 rfl
theorem cd_86_62 : sm_cd 86 62 = some (.getfield 13, 3, 6, 1, 2, 0, 0, 0, 0) := cd_of gl_86 rfl
theorem cd_86_65 : sm_cd 86 65 = some (.aload_n 0, 1, 0, 0, 0, 0, 0, 0, 0) := cd_of gl_86 rfl
theorem cd_86_66 : sm_cd 86 66 = some (.getfield 160, 3, 6, 22, 0, 0, 0, 0, 0) := cd_of gl_86 rfl
theorem cd_86_69 : sm_cd 86 69 = some (.iload 4, 2, 4, 0, 0, 0, 0, 0, 0) := cd_of gl_86 rfl
theorem cd_86_71 : sm_cd 86 71 = some (.iadd, 1, 0, 0, 0, 0, 0, 0, 0) := cd_of gl_86 rfl
theorem cd_86_72 : sm_cd 86 72 = some (.iaload, 1, 0, 0, 0, 0, 0, 0, 0) := cd_of gl_86 rfl
theorem cd_86_73 : sm_cd 86 73 = some (.aload_n 0, 1, 0, 0, 0, 0, 0, 0, 0) := cd_of gl_86 rfl
theorem cd_86_74 : sm_cd 86 74 = some (.getfield 98, 3, 6, 21, 2, 0, 0, 0, 0) := cd_of gl_86 rfl
theorem cd_86_77 : sm_cd 86 77 = some (.iload_n 2, 1, 2, 0, 0, 0, 0, 0, 0) := cd_of gl_86 rfl
theorem cd_86_78 : sm_cd 86 78 = some (.aaload, 1, 0, 0, 0, 0, 0, 0, 0) := cd_of gl_86 rfl
theorem cd_86_79 : sm_cd 86 79 = some (.iload 4, 2, 4, 0, 0, 0, 0, 0, 0) := cd_of gl_86 rfl
theorem cd_86_81 : sm_cd 86 81 = some (.invokevirtual 167, 3, 6, 0, 1, 2, 7, 0, 0) := cd_of gl_86 rfl
theorem cd_86_84 : sm_cd 86 84 = some (.if_icmp .ne 7, 3, 91, 0, 0, 0, 0, 0, 0) := cd_of gl_86 rfl
theorem cd_86_87 : sm_cd 86 87 = some (.iconst 1, 1, 0, 0, 0, 0, 0, 1, 0) := cd_of gl_86 rfl
theorem cd_86_88 : sm_cd 86 88 = some (.goto 4, 3, 92, 0, 0, 0, 0, 0, 0) := cd_of gl_86 rfl
theorem cd_86_91 : sm_cd 86 91 = some (.iconst 0, 1, 0, 0, 0, 0, 0, 0, 0) := cd_of gl_86 rfl
theorem cd_86_92 : sm_cd 86 92 = some (.istore_n 3, 1, 3, 0, 0, 0, 0, 0, 0) := cd_of gl_86 rfl
theorem cd_86_93 : sm_cd 86 93 = some (.iinc 4 1, 3, 4, 0, 0, 0, 0, 1, 0) := cd_of gl_86 rfl
theorem cd_86_96 : sm_cd 86 96 = some (.goto (-53), 3, 43, 0, 0, 0, 0, 0, 0) := cd_of gl_86 rfl
theorem cd_86_99 : sm_cd 86 99 = some (.iload_n 3, 1, 3, 0, 0, 0, 0, 0, 0) := cd_of gl_86 rfl
theorem cd_86_100 : sm_cd 86 100 = some (.ifCond .eq 7, 3, 107, 0, 0, 0, 0, 0, 0) := cd_of gl_86 rfl
theorem cd_86_103 : sm_cd 86 103 = some (.iload_n 2, 1, 2, 0, 0, 0, 0, 0, 0) := cd_of gl_86 rfl
theorem cd_86_104 : sm_cd 86 104 = some (.goto 4, 3, 108, 0, 0, 0, 0, 0, 0) := cd_of gl_86 rfl
theorem cd_86_107 : sm_cd 86 107 = some (.iload_n 1, 1, 1, 0, 0, 0, 0, 0, 0) := cd_of gl_86 rfl
theorem cd_86_108 : sm_cd 86 108 = some (.istore_n 1, 1, 1, 0, 0, 0, 0, 0, 0) := cd_of gl_86 rfl
theorem cd_86_109 : sm_cd 86 109 = some (.iinc 2 1, 3, 2, 0, 0, 0, 0, 1, 0) := cd_of gl_86 rfl
theorem cd_86_112 : sm_cd 86 112 = some (.goto (-108), 3, 4, 0, 0, 0, 0, 0, 0) := cd_of gl_86 rfl
theorem cd_86_115 : sm_cd 86 115 = some (.iload_n 1, 1, 1, 0, 0, 0, 0, 0, 0) := cd_of gl_86 rfl
theorem cd_86_116 : sm_cd 86 116 = some (.ireturn, 1, 0, 0, 1, 0, 0, 0, 0) := cd_of gl_86 rfl
noncomputable def f_86_108 (K : Nat → Value) (k d : Nat) (r4 : Nat → Int32 → Int32 → aW → aI → aJ → Option aR) (l0 : Nat) (l1 : Int32) (l2 : Int32) (l3 : Int32) (l4 : Int32) (s0 : Int32) (w : aW) (I : aI) (J : aJ) : Option aR :=
  lt_ (l2 + 1) fun x_1 =>
  r4 l0 s0 x_1 w I J
theorem ok_86_108 {K : Nat → Value} {k d : Nat} {r4 : Nat → Int32 → Int32 → aW → aI → aJ → Option aR} (hr4 : ∀ (l0 : Nat) (l1 : Int32) (l2 : Int32) (w : aW) (I : aI) (J : aJ) (R : aR), r4 l0 l1 l2 w I J = some R → Go K (d + 1) 86 4 [some (.ref l0), some (.int l1), some (.int l2), none, none] [] w I J R) {l0 : Nat} {l1 : Int32} {l2 : Int32} {l3 : Int32} {l4 : Int32} {s0 : Int32} {w : aW} {I : aI} {J : aJ} {R : aR} (h : f_86_108 K k d r4 l0 l1 l2 l3 l4 s0 w I J = some R) : Go K (d + 1) 86 108 [some (.ref l0), some (.int l1), some (.int l2), some (.int l3), some (.int l4)] [.int s0] w I J R := by
  unfold f_86_108 at h
  refine gs_0 (pc' := 109) (L' := [some (.ref l0), some (.int s0), some (.int l2), some (.int l3), some (.int l4)]) (st' := []) cd_86_108 rfl rfl ?_
  refine gs_0 (pc' := 112) (L' := [some (.ref l0), some (.int s0), some (.int (l2 + 1)), some (.int l3), some (.int l4)]) (st' := []) cd_86_109 rfl rfl ?_
  obtain ⟨x_1, hx, h⟩ := lt_s_ h
  rw [hx]
  clear hx
  refine gs_0 (pc' := 4) (L' := [some (.ref l0), some (.int s0), some (.int x_1), some (.int l3), some (.int l4)]) (st' := []) cd_86_112 rfl rfl ?_
  refine go_drop [some (.ref l0), some (.int s0), some (.int x_1), none, none] ⟨rfl, ⟨rfl, ⟨rfl, ⟨rfl, ⟨rfl, trivial⟩⟩⟩⟩⟩ ?_
  exact hr4 l0 s0 x_1 _ _ _ _ h
noncomputable def f_86_99 (K : Nat → Value) (k d : Nat) (r4 : Nat → Int32 → Int32 → aW → aI → aJ → Option aR) (l0 : Nat) (l1 : Int32) (l2 : Int32) (l3 : Int32) (l4 : Int32) (w : aW) (I : aI) (J : aJ) : Option aR :=
  if l3 = 0 then
    f_86_108 K k d r4 l0 l1 l2 l3 l4 l1 w I J
  else
    f_86_108 K k d r4 l0 l1 l2 l3 l4 l2 w I J
theorem ok_86_99 {K : Nat → Value} {k d : Nat} {r4 : Nat → Int32 → Int32 → aW → aI → aJ → Option aR} (hr4 : ∀ (l0 : Nat) (l1 : Int32) (l2 : Int32) (w : aW) (I : aI) (J : aJ) (R : aR), r4 l0 l1 l2 w I J = some R → Go K (d + 1) 86 4 [some (.ref l0), some (.int l1), some (.int l2), none, none] [] w I J R) {l0 : Nat} {l1 : Int32} {l2 : Int32} {l3 : Int32} {l4 : Int32} {w : aW} {I : aI} {J : aJ} {R : aR} (h : f_86_99 K k d r4 l0 l1 l2 l3 l4 w I J = some R) : Go K (d + 1) 86 99 [some (.ref l0), some (.int l1), some (.int l2), some (.int l3), some (.int l4)] [] w I J R := by
  unfold f_86_99 at h
  refine gs_0 (pc' := 100) (L' := [some (.ref l0), some (.int l1), some (.int l2), some (.int l3), some (.int l4)]) (st' := [.int l3]) cd_86_99 rfl rfl ?_
  refine gs_0 (pc' := if l3 = 0 then 107 else 103) (L' := [some (.ref l0), some (.int l1), some (.int l2), some (.int l3), some (.int l4)]) (st' := []) cd_86_100 rfl rfl ?_
  refine go_ite (fun hc => ?_) (fun hc => ?_)
  · rw [if_pos hc] at h
    refine gs_0 (pc' := 108) (L' := [some (.ref l0), some (.int l1), some (.int l2), some (.int l3), some (.int l4)]) (st' := [.int l1]) cd_86_107 rfl rfl ?_
    exact ok_86_108 hr4 h
  · rw [if_neg hc] at h
    refine gs_0 (pc' := 104) (L' := [some (.ref l0), some (.int l1), some (.int l2), some (.int l3), some (.int l4)]) (st' := [.int l2]) cd_86_103 rfl rfl ?_
    refine gs_0 (pc' := 108) (L' := [some (.ref l0), some (.int l1), some (.int l2), some (.int l3), some (.int l4)]) (st' := [.int l2]) cd_86_104 rfl rfl ?_
    exact ok_86_108 hr4 h
noncomputable def f_86_92 (K : Nat → Value) (k d : Nat) (r4 : Nat → Int32 → Int32 → aW → aI → aJ → Option aR) (r43 : Nat → Int32 → Int32 → Int32 → Int32 → aW → aI → aJ → Option aR) (l0 : Nat) (l1 : Int32) (l2 : Int32) (l3 : Int32) (l4 : Int32) (s0 : Int32) (w : aW) (I : aI) (J : aJ) : Option aR :=
  lt_ (l4 + 1) fun x_1 =>
  r43 l0 l1 l2 s0 x_1 w I J
theorem ok_86_92 {K : Nat → Value} {k d : Nat} {r4 : Nat → Int32 → Int32 → aW → aI → aJ → Option aR} {r43 : Nat → Int32 → Int32 → Int32 → Int32 → aW → aI → aJ → Option aR} (hr4 : ∀ (l0 : Nat) (l1 : Int32) (l2 : Int32) (w : aW) (I : aI) (J : aJ) (R : aR), r4 l0 l1 l2 w I J = some R → Go K (d + 1) 86 4 [some (.ref l0), some (.int l1), some (.int l2), none, none] [] w I J R) (hr43 : ∀ (l0 : Nat) (l1 : Int32) (l2 : Int32) (l3 : Int32) (l4 : Int32) (w : aW) (I : aI) (J : aJ) (R : aR), r43 l0 l1 l2 l3 l4 w I J = some R → Go K (d + 1) 86 43 [some (.ref l0), some (.int l1), some (.int l2), some (.int l3), some (.int l4)] [] w I J R) {l0 : Nat} {l1 : Int32} {l2 : Int32} {l3 : Int32} {l4 : Int32} {s0 : Int32} {w : aW} {I : aI} {J : aJ} {R : aR} (h : f_86_92 K k d r4 r43 l0 l1 l2 l3 l4 s0 w I J = some R) : Go K (d + 1) 86 92 [some (.ref l0), some (.int l1), some (.int l2), some (.int l3), some (.int l4)] [.int s0] w I J R := by
  unfold f_86_92 at h
  refine gs_0 (pc' := 93) (L' := [some (.ref l0), some (.int l1), some (.int l2), some (.int s0), some (.int l4)]) (st' := []) cd_86_92 rfl rfl ?_
  refine gs_0 (pc' := 96) (L' := [some (.ref l0), some (.int l1), some (.int l2), some (.int s0), some (.int (l4 + 1))]) (st' := []) cd_86_93 rfl rfl ?_
  obtain ⟨x_1, hx, h⟩ := lt_s_ h
  rw [hx]
  clear hx
  refine gs_0 (pc' := 43) (L' := [some (.ref l0), some (.int l1), some (.int l2), some (.int s0), some (.int x_1)]) (st' := []) cd_86_96 rfl rfl ?_
  exact hr43 l0 l1 l2 s0 x_1 _ _ _ _ h
noncomputable def f_86_43 (K : Nat → Value) (k : Nat) (d : Nat) (r4 : Nat → Int32 → Int32 → aW → aI → aJ → Option aR) : Nat → Int32 → Int32 → Int32 → Int32 → aW → aI → aJ → Option aR :=
  match k with
  | 0 => fun _ _ _ _ _ _ _ _ => none
  | k + 1 => fun l0 l1 l2 l3 l4 w I J =>
  lt_ (f_86_43 K k d r4) fun r43 =>
  if l3 = 0 then
    f_86_99 K k d r4 l0 l1 l2 l3 l4 w I J
  else
    gO w 6 l0 (
    gO w 6 l0 (
    if ((I l0 23) - (I l0 22)) ≤ l4 then
      f_86_99 K k d r4 l0 l1 l2 l3 l4 w I J
    else
      gO w 6 l0 (
      gV w l0 1 fun q_1 =>
      gO w 6 l0 (
      gA w 10 20 q_1 ((I l0 22) + l4) (
      gO w 6 l0 (
      gV w l0 21 fun q_2 =>
      gA w 14 15 q_2 l2 (
      gV w q_2 (l2 : Int32).toNatClampNeg fun q_3 =>
      gC (sm_isS K q_3 = true) (
      cI (Cl K d 6 [.ref q_3, .int l4] w I J) fun x_7 w_4 I_5 J_6 =>
      if ¬ (I q_1 ((I l0 22) + l4 : Int32).toNatClampNeg) = x_7 then
        f_86_92 K k d r4 r43 l0 l1 l2 l3 l4 0 w_4 I_5 J_6
      else
        f_86_92 K k d r4 r43 l0 l1 l2 l3 l4 1 w_4 I_5 J_6))))))))
theorem ok_86_43 {K : Nat → Value} {d : Nat} {r4 : Nat → Int32 → Int32 → aW → aI → aJ → Option aR} (hr4 : ∀ (l0 : Nat) (l1 : Int32) (l2 : Int32) (w : aW) (I : aI) (J : aJ) (R : aR), r4 l0 l1 l2 w I J = some R → Go K (d + 1) 86 4 [some (.ref l0), some (.int l1), some (.int l2), none, none] [] w I J R) : ∀ {k : Nat} {l0 : Nat} {l1 : Int32} {l2 : Int32} {l3 : Int32} {l4 : Int32} {w : aW} {I : aI} {J : aJ} {R : aR}, f_86_43 K k d r4 l0 l1 l2 l3 l4 w I J = some R → Go K (d + 1) 86 43 [some (.ref l0), some (.int l1), some (.int l2), some (.int l3), some (.int l4)] [] w I J R := by
  intro k
  induction k with
  | zero => intro l0 l1 l2 l3 l4 w I J R h; cases h
  | succ k ih =>
    intro l0 l1 l2 l3 l4 w I J R h
    have hr43 : ∀ (l0 : Nat) (l1 : Int32) (l2 : Int32) (l3 : Int32) (l4 : Int32) (w : aW) (I : aI) (J : aJ) (R : aR), f_86_43 K k d r4 l0 l1 l2 l3 l4 w I J = some R → Go K (d + 1) 86 43 [some (.ref l0), some (.int l1), some (.int l2), some (.int l3), some (.int l4)] [] w I J R := fun l0 l1 l2 l3 l4 w I J R h => ih h
    rw [f_86_43] at h
    obtain ⟨r43, hx, h⟩ := lt_s_ h
    rw [hx] at hr43
    clear hx ih
    refine gs_0 (pc' := 44) (L' := [some (.ref l0), some (.int l1), some (.int l2), some (.int l3), some (.int l4)]) (st' := [.int l3]) cd_86_43 rfl rfl ?_
    refine gs_0 (pc' := if l3 = 0 then 99 else 47) (L' := [some (.ref l0), some (.int l1), some (.int l2), some (.int l3), some (.int l4)]) (st' := []) cd_86_44 rfl rfl ?_
    refine go_ite (fun hc => ?_) (fun hc => ?_)
    · rw [if_pos hc] at h
      exact ok_86_99 hr4 h
    · rw [if_neg hc] at h
      refine gs_0 (pc' := 49) (L' := [some (.ref l0), some (.int l1), some (.int l2), some (.int l3), some (.int l4)]) (st' := [.int l4]) cd_86_47 rfl rfl ?_
      refine gs_0 (pc' := 50) (L' := [some (.ref l0), some (.int l1), some (.int l2), some (.int l3), some (.int l4)]) (st' := [.ref l0, .int l4]) cd_86_49 rfl rfl ?_
      obtain ⟨ht, h⟩ := gO_s h
      refine gs_gfI cd_86_50 (by decide) (by decide) ht ?_
      refine gs_0 (pc' := 54) (L' := [some (.ref l0), some (.int l1), some (.int l2), some (.int l3), some (.int l4)]) (st' := [.ref l0, .int (I l0 23), .int l4]) cd_86_53 rfl rfl ?_
      obtain ⟨ht, h⟩ := gO_s h
      refine gs_gfI cd_86_54 (by decide) (by decide) ht ?_
      refine gs_0 (pc' := 58) (L' := [some (.ref l0), some (.int l1), some (.int l2), some (.int l3), some (.int l4)]) (st' := [.int ((I l0 23) - (I l0 22)), .int l4]) cd_86_57 rfl rfl ?_
      refine gs_0 (pc' := if ((I l0 23) - (I l0 22)) ≤ l4 then 99 else 61) (L' := [some (.ref l0), some (.int l1), some (.int l2), some (.int l3), some (.int l4)]) (st' := []) cd_86_58 rfl rfl ?_
      refine go_ite (fun hc => ?_) (fun hc => ?_)
      · rw [if_pos hc] at h
        exact ok_86_99 hr4 h
      · rw [if_neg hc] at h
        refine gs_0 (pc' := 62) (L' := [some (.ref l0), some (.int l1), some (.int l2), some (.int l3), some (.int l4)]) (st' := [.ref l0]) cd_86_61 rfl rfl ?_
        obtain ⟨ht, h⟩ := gO_s h
        obtain ⟨q_1, hv, h⟩ := gV_s h
        refine gs_gfR cd_86_62 (by decide) ht hv ?_
        refine gs_0 (pc' := 66) (L' := [some (.ref l0), some (.int l1), some (.int l2), some (.int l3), some (.int l4)]) (st' := [.ref l0, .ref q_1]) cd_86_65 rfl rfl ?_
        obtain ⟨ht, h⟩ := gO_s h
        refine gs_gfI cd_86_66 (by decide) (by decide) ht ?_
        refine gs_0 (pc' := 71) (L' := [some (.ref l0), some (.int l1), some (.int l2), some (.int l3), some (.int l4)]) (st' := [.int l4, .int (I l0 22), .ref q_1]) cd_86_69 rfl rfl ?_
        refine gs_0 (pc' := 72) (L' := [some (.ref l0), some (.int l1), some (.int l2), some (.int l3), some (.int l4)]) (st' := [.int ((I l0 22) + l4), .ref q_1]) cd_86_71 rfl rfl ?_
        obtain ⟨ht, h⟩ := gA_s h
        refine gs_iald cd_86_72 ht ?_
        refine gs_0 (pc' := 74) (L' := [some (.ref l0), some (.int l1), some (.int l2), some (.int l3), some (.int l4)]) (st' := [.ref l0, .int (I q_1 ((I l0 22) + l4 : Int32).toNatClampNeg)]) cd_86_73 rfl rfl ?_
        obtain ⟨ht, h⟩ := gO_s h
        obtain ⟨q_2, hv, h⟩ := gV_s h
        refine gs_gfR cd_86_74 (by decide) ht hv ?_
        refine gs_0 (pc' := 78) (L' := [some (.ref l0), some (.int l1), some (.int l2), some (.int l3), some (.int l4)]) (st' := [.int l2, .ref q_2, .int (I q_1 ((I l0 22) + l4 : Int32).toNatClampNeg)]) cd_86_77 rfl rfl ?_
        obtain ⟨ht, h⟩ := gA_s h
        obtain ⟨q_3, hv, h⟩ := gV_s h
        refine gs_rald cd_86_78 ht hv ?_
        refine gs_0 (pc' := 81) (L' := [some (.ref l0), some (.int l1), some (.int l2), some (.int l3), some (.int l4)]) (st' := [.int l4, .ref q_3, .int (I q_1 ((I l0 22) + l4 : Int32).toNatClampNeg)]) cd_86_79 rfl rfl ?_
        obtain ⟨hS, h⟩ := gC_s h
        obtain ⟨x_7, w_4, I_5, J_6, hcl, h⟩ := cI_s h
        refine gs_call (as := [.ref q_3, .int l4]) (rest := [.int (I q_1 ((I l0 22) + l4 : Int32).toNatClampNeg)]) cd_86_81 rfl (by decide) rfl (sm_rv_S hS) (Nat.le_of_ble_eq_true rfl) (Nat.le_of_ble_eq_true rfl) rfl hcl ?_
        refine gs_0 (pc' := if ¬ (I q_1 ((I l0 22) + l4 : Int32).toNatClampNeg) = x_7 then 91 else 87) (L' := [some (.ref l0), some (.int l1), some (.int l2), some (.int l3), some (.int l4)]) (st' := []) cd_86_84 rfl rfl ?_
        refine go_ite (fun hc => ?_) (fun hc => ?_)
        · rw [if_pos hc] at h
          refine gs_0 (pc' := 92) (L' := [some (.ref l0), some (.int l1), some (.int l2), some (.int l3), some (.int l4)]) (st' := [.int 0]) cd_86_91 rfl rfl ?_
          exact ok_86_92 hr4 hr43 h
        · rw [if_neg hc] at h
          refine gs_0 (pc' := 88) (L' := [some (.ref l0), some (.int l1), some (.int l2), some (.int l3), some (.int l4)]) (st' := [.int 1]) cd_86_87 rfl rfl ?_
          refine gs_0 (pc' := 92) (L' := [some (.ref l0), some (.int l1), some (.int l2), some (.int l3), some (.int l4)]) (st' := [.int 1]) cd_86_88 rfl rfl ?_
          exact ok_86_92 hr4 hr43 h
noncomputable def f_86_39 (K : Nat → Value) (k d : Nat) (r4 : Nat → Int32 → Int32 → aW → aI → aJ → Option aR) (l0 : Nat) (l1 : Int32) (l2 : Int32) (s0 : Int32) (w : aW) (I : aI) (J : aJ) : Option aR :=
  f_86_43 K k d r4 l0 l1 l2 s0 0 w I J
theorem ok_86_39 {K : Nat → Value} {k d : Nat} {r4 : Nat → Int32 → Int32 → aW → aI → aJ → Option aR} (hr4 : ∀ (l0 : Nat) (l1 : Int32) (l2 : Int32) (w : aW) (I : aI) (J : aJ) (R : aR), r4 l0 l1 l2 w I J = some R → Go K (d + 1) 86 4 [some (.ref l0), some (.int l1), some (.int l2), none, none] [] w I J R) {l0 : Nat} {l1 : Int32} {l2 : Int32} {s0 : Int32} {w : aW} {I : aI} {J : aJ} {R : aR} (h : f_86_39 K k d r4 l0 l1 l2 s0 w I J = some R) : Go K (d + 1) 86 39 [some (.ref l0), some (.int l1), some (.int l2), none, none] [.int s0] w I J R := by
  unfold f_86_39 at h
  refine gs_0 (pc' := 40) (L' := [some (.ref l0), some (.int l1), some (.int l2), some (.int s0), none]) (st' := []) cd_86_39 rfl rfl ?_
  refine gs_0 (pc' := 41) (L' := [some (.ref l0), some (.int l1), some (.int l2), some (.int s0), none]) (st' := [.int 0]) cd_86_40 rfl rfl ?_
  refine gs_0 (pc' := 43) (L' := [some (.ref l0), some (.int l1), some (.int l2), some (.int s0), some (.int 0)]) (st' := []) cd_86_41 rfl rfl ?_
  exact ok_86_43 hr4 h
noncomputable def f_86_4 (K : Nat → Value) (k : Nat) (d : Nat) : Nat → Int32 → Int32 → aW → aI → aJ → Option aR :=
  match k with
  | 0 => fun _ _ _ _ _ _ => none
  | k + 1 => fun l0 l1 l2 w I J =>
  lt_ (f_86_4 K k d) fun r4 =>
  gO w 6 l0 (
  gV w l0 21 fun q_1 =>
  gL w q_1 fun n_2 =>
  if n_2 ≤ l2 then
    some (some (.int l1), w, I, J)
  else
    gO w 6 l0 (
    gO w 6 l0 (
    gO w 6 l0 (
    gV w l0 21 fun q_3 =>
    gA w 14 15 q_3 l2 (
    gV w q_3 (l2 : Int32).toNatClampNeg fun q_4 =>
    gC (sm_isS K q_4 = true) (
    cI (Cl K d 4 [.ref q_4] w I J) fun x_8 w_5 I_6 J_7 =>
    if ¬ ((I l0 23) - (I l0 22)) = x_8 then
      f_86_39 K k d r4 l0 l1 l2 0 w_5 I_6 J_7
    else
      f_86_39 K k d r4 l0 l1 l2 1 w_5 I_6 J_7))))))
theorem ok_86_4 {K : Nat → Value} {d : Nat} : ∀ {k : Nat} {l0 : Nat} {l1 : Int32} {l2 : Int32} {w : aW} {I : aI} {J : aJ} {R : aR}, f_86_4 K k d l0 l1 l2 w I J = some R → Go K (d + 1) 86 4 [some (.ref l0), some (.int l1), some (.int l2), none, none] [] w I J R := by
  intro k
  induction k with
  | zero => intro l0 l1 l2 w I J R h; cases h
  | succ k ih =>
    intro l0 l1 l2 w I J R h
    have hr4 : ∀ (l0 : Nat) (l1 : Int32) (l2 : Int32) (w : aW) (I : aI) (J : aJ) (R : aR), f_86_4 K k d l0 l1 l2 w I J = some R → Go K (d + 1) 86 4 [some (.ref l0), some (.int l1), some (.int l2), none, none] [] w I J R := fun l0 l1 l2 w I J R h => ih h
    rw [f_86_4] at h
    obtain ⟨r4, hx, h⟩ := lt_s_ h
    rw [hx] at hr4
    clear hx ih
    refine gs_0 (pc' := 5) (L' := [some (.ref l0), some (.int l1), some (.int l2), none, none]) (st' := [.int l2]) cd_86_4 rfl rfl ?_
    refine gs_0 (pc' := 6) (L' := [some (.ref l0), some (.int l1), some (.int l2), none, none]) (st' := [.ref l0, .int l2]) cd_86_5 rfl rfl ?_
    obtain ⟨ht, h⟩ := gO_s h
    obtain ⟨q_1, hv, h⟩ := gV_s h
    refine gs_gfR cd_86_6 (by decide) ht hv ?_
    obtain ⟨t0, n0, ht, ht2, h⟩ := gL_s h
    refine gs_alen cd_86_9 ht ht2 ?_
    generalize Int32.ofNat n0 = n_2 at h ⊢
    refine gs_0 (pc' := if n_2 ≤ l2 then 115 else 13) (L' := [some (.ref l0), some (.int l1), some (.int l2), none, none]) (st' := []) cd_86_10 rfl rfl ?_
    refine go_ite (fun hc => ?_) (fun hc => ?_)
    · rw [if_pos hc] at h
      refine gs_0 (pc' := 116) (L' := [some (.ref l0), some (.int l1), some (.int l2), none, none]) (st' := [.int l1]) cd_86_115 rfl rfl ?_
      cases h
      exact gs_ri cd_86_116 (Or.inl rfl)
    · rw [if_neg hc] at h
      refine gs_0 (pc' := 14) (L' := [some (.ref l0), some (.int l1), some (.int l2), none, none]) (st' := [.ref l0]) cd_86_13 rfl rfl ?_
      obtain ⟨ht, h⟩ := gO_s h
      refine gs_gfI cd_86_14 (by decide) (by decide) ht ?_
      refine gs_0 (pc' := 18) (L' := [some (.ref l0), some (.int l1), some (.int l2), none, none]) (st' := [.ref l0, .int (I l0 23)]) cd_86_17 rfl rfl ?_
      obtain ⟨ht, h⟩ := gO_s h
      refine gs_gfI cd_86_18 (by decide) (by decide) ht ?_
      refine gs_0 (pc' := 22) (L' := [some (.ref l0), some (.int l1), some (.int l2), none, none]) (st' := [.int ((I l0 23) - (I l0 22))]) cd_86_21 rfl rfl ?_
      refine gs_0 (pc' := 23) (L' := [some (.ref l0), some (.int l1), some (.int l2), none, none]) (st' := [.ref l0, .int ((I l0 23) - (I l0 22))]) cd_86_22 rfl rfl ?_
      obtain ⟨ht, h⟩ := gO_s h
      obtain ⟨q_3, hv, h⟩ := gV_s h
      refine gs_gfR cd_86_23 (by decide) ht hv ?_
      refine gs_0 (pc' := 27) (L' := [some (.ref l0), some (.int l1), some (.int l2), none, none]) (st' := [.int l2, .ref q_3, .int ((I l0 23) - (I l0 22))]) cd_86_26 rfl rfl ?_
      obtain ⟨ht, h⟩ := gA_s h
      obtain ⟨q_4, hv, h⟩ := gV_s h
      refine gs_rald cd_86_27 ht hv ?_
      obtain ⟨hS, h⟩ := gC_s h
      obtain ⟨x_8, w_5, I_6, J_7, hcl, h⟩ := cI_s h
      refine gs_call (as := [.ref q_4]) (rest := [.int ((I l0 23) - (I l0 22))]) cd_86_28 rfl (by decide) rfl (sm_rv_S hS) (Nat.le_of_ble_eq_true rfl) (Nat.le_of_ble_eq_true rfl) rfl hcl ?_
      refine gs_0 (pc' := if ¬ ((I l0 23) - (I l0 22)) = x_8 then 38 else 34) (L' := [some (.ref l0), some (.int l1), some (.int l2), none, none]) (st' := []) cd_86_31 rfl rfl ?_
      refine go_ite (fun hc => ?_) (fun hc => ?_)
      · rw [if_pos hc] at h
        refine gs_0 (pc' := 39) (L' := [some (.ref l0), some (.int l1), some (.int l2), none, none]) (st' := [.int 0]) cd_86_38 rfl rfl ?_
        exact ok_86_39 hr4 h
      · rw [if_neg hc] at h
        refine gs_0 (pc' := 35) (L' := [some (.ref l0), some (.int l1), some (.int l2), none, none]) (st' := [.int 1]) cd_86_34 rfl rfl ?_
        refine gs_0 (pc' := 39) (L' := [some (.ref l0), some (.int l1), some (.int l2), none, none]) (st' := [.int 1]) cd_86_35 rfl rfl ?_
        exact ok_86_39 hr4 h
noncomputable def f_86 (K : Nat → Value) (k d : Nat) (l0 : Nat) (w : aW) (I : aI) (J : aJ) : Option aR :=
  f_86_4 K k d l0 (-1) 0 w I J
theorem ok_86 {K : Nat → Value} {k d : Nat} {l0 : Nat} {w : aW} {I : aI} {J : aJ} {R : aR} (h : f_86 K k d l0 w I J = some R) : Go K (d + 1) 86 0 [some (.ref l0), none, none, none, none] [] w I J R := by
  unfold f_86 at h
  refine gs_0 (pc' := 1) (L' := [some (.ref l0), none, none, none, none]) (st' := [.int ((-1))]) cd_86_0 rfl rfl ?_
  refine gs_0 (pc' := 2) (L' := [some (.ref l0), some (.int ((-1))), none, none, none]) (st' := []) cd_86_1 rfl rfl ?_
  refine gs_0 (pc' := 3) (L' := [some (.ref l0), some (.int ((-1))), none, none, none]) (st' := [.int 0]) cd_86_2 rfl rfl ?_
  refine gs_0 (pc' := 4) (L' := [some (.ref l0), some (.int ((-1))), some (.int 0), none, none]) (st' := []) cd_86_3 rfl rfl ?_
  exact ok_86_4 h
theorem cl_86 {K : Nat → Value} {k d : Nat} {l0 : Nat} {w : aW} {I : aI} {J : aJ} {R : aR} (h : f_86 K k d l0 w I J = some R) : Cl K (d + 1) 86 [.ref l0] w I J = some R := Cl_of (ok_86 h)
/-! ProvedMachineModel.isDigit(I)Z -/
theorem gl_87 : gcd.lookup 87 = some gw_87 := rfl
theorem cd_87_0 : sm_cd 87 0 = some (.iload_n 1, 1, 1, 0, 0, 0, 0, 0, 0) := cd_of gl_87 rfl
theorem cd_87_1 : sm_cd 87 1 = some (.aload_n 0, 1, 0, 0, 0, 0, 0, 0, 0) := cd_of gl_87 rfl
theorem cd_87_2 : sm_cd 87 2 = some (.getfield 152, 3, 6, 2, 0, 0, 0, 0, 0) := cd_of gl_87 rfl
theorem cd_87_5 : sm_cd 87 5 = some (.if_icmp .ge 23, 3, 28, 0, 0, 0, 0, 0, 0) := cd_of gl_87 rfl
theorem cd_87_8 : sm_cd 87 8 = some (.aload_n 0, 1, 0, 0, 0, 0, 0, 0, 0) := cd_of gl_87 rfl
theorem cd_87_9 : sm_cd 87 9 = some (.getfield 13, 3, 6, 1, 2, 0, 0, 0, 0) := cd_of gl_87 rfl
theorem cd_87_12 : sm_cd 87 12 = some (.iload_n 1, 1, 1, 0, 0, 0, 0, 0, 0) := cd_of gl_87 rfl
theorem cd_87_13 : sm_cd 87 13 = some (.iaload, 1, 0, 0, 0, 0, 0, 0, 0) := cd_of gl_87 rfl
theorem cd_87_14 : sm_cd 87 14 = some (.bipush 48, 2, 0, 0, 0, 0, 0, 48, 0) := cd_of gl_87 rfl
theorem cd_87_16 : sm_cd 87 16 = some (.bipush 57, 2, 0, 0, 0, 0, 0, 57, 0) := cd_of gl_87 rfl
theorem cd_87_18 : sm_cd 87 18 = some (.invokestatic 144, 3, 19, 1, 3, 3, 6, 0, 0) := cd_of gl_87 rfl
theorem cd_87_21 : sm_cd 87 21 = some (.ifCond .eq 7, 3, 28, 0, 0, 0, 0, 0, 0) := cd_of gl_87 rfl
theorem cd_87_24 : sm_cd 87 24 = some (.iconst 1, 1, 0, 0, 0, 0, 0, 1, 0) := cd_of gl_87 rfl
theorem cd_87_25 : sm_cd 87 25 = some (.goto 4, 3, 29, 0, 0, 0, 0, 0, 0) := cd_of gl_87 rfl
theorem cd_87_28 : sm_cd 87 28 = some (.iconst 0, 1, 0, 0, 0, 0, 0, 0, 0) := cd_of gl_87 rfl
theorem cd_87_29 : sm_cd 87 29 = some (.ireturn, 1, 0, 0, 2, 0, 0, 0, 0) := cd_of gl_87 rfl
noncomputable def f_87 (K : Nat → Value) (k d : Nat) (l0 : Nat) (l1 : Int32) (w : aW) (I : aI) (J : aJ) : Option aR :=
  gO w 6 l0 (
  if (I l0 2) ≤ l1 then
    some (some (.int 0), w, I, J)
  else
    gO w 6 l0 (
    gV w l0 1 fun q_1 =>
    gA w 10 20 q_1 l1 (
    cI (Cl K d 19 [.int (I q_1 (l1 : Int32).toNatClampNeg), .int 48, .int 57] w I J) fun x_5 w_2 I_3 J_4 =>
    if x_5 = 0 then
      some (some (.int 0), w_2, I_3, J_4)
    else
      some (some (.int 1), w_2, I_3, J_4))))
theorem ok_87 {K : Nat → Value} {k d : Nat} {l0 : Nat} {l1 : Int32} {w : aW} {I : aI} {J : aJ} {R : aR} (h : f_87 K k d l0 l1 w I J = some R) : Go K (d + 1) 87 0 [some (.ref l0), some (.int l1)] [] w I J R := by
  unfold f_87 at h
  refine gs_0 (pc' := 1) (L' := [some (.ref l0), some (.int l1)]) (st' := [.int l1]) cd_87_0 rfl rfl ?_
  refine gs_0 (pc' := 2) (L' := [some (.ref l0), some (.int l1)]) (st' := [.ref l0, .int l1]) cd_87_1 rfl rfl ?_
  obtain ⟨ht, h⟩ := gO_s h
  refine gs_gfI cd_87_2 (by decide) (by decide) ht ?_
  refine gs_0 (pc' := if (I l0 2) ≤ l1 then 28 else 8) (L' := [some (.ref l0), some (.int l1)]) (st' := []) cd_87_5 rfl rfl ?_
  refine go_ite (fun hc => ?_) (fun hc => ?_)
  · rw [if_pos hc] at h
    refine gs_0 (pc' := 29) (L' := [some (.ref l0), some (.int l1)]) (st' := [.int 0]) cd_87_28 rfl rfl ?_
    cases h
    exact gs_ri cd_87_29 (Or.inr (Or.inl ⟨rfl, Or.inl rfl⟩))
  · rw [if_neg hc] at h
    refine gs_0 (pc' := 9) (L' := [some (.ref l0), some (.int l1)]) (st' := [.ref l0]) cd_87_8 rfl rfl ?_
    obtain ⟨ht, h⟩ := gO_s h
    obtain ⟨q_1, hv, h⟩ := gV_s h
    refine gs_gfR cd_87_9 (by decide) ht hv ?_
    refine gs_0 (pc' := 13) (L' := [some (.ref l0), some (.int l1)]) (st' := [.int l1, .ref q_1]) cd_87_12 rfl rfl ?_
    obtain ⟨ht, h⟩ := gA_s h
    refine gs_iald cd_87_13 ht ?_
    refine gs_0 (pc' := 16) (L' := [some (.ref l0), some (.int l1)]) (st' := [.int 48, .int (I q_1 (l1 : Int32).toNatClampNeg)]) cd_87_14 rfl rfl ?_
    refine gs_0 (pc' := 18) (L' := [some (.ref l0), some (.int l1)]) (st' := [.int 57, .int 48, .int (I q_1 (l1 : Int32).toNatClampNeg)]) cd_87_16 rfl rfl ?_
    obtain ⟨x_5, w_2, I_3, J_4, hcl, h⟩ := cI_s h
    refine gs_call (as := [.int (I q_1 (l1 : Int32).toNatClampNeg), .int 48, .int 57]) (rest := []) cd_87_18 rfl (by decide) rfl rfl (Nat.le_of_ble_eq_true rfl) (Nat.le_of_ble_eq_true rfl) rfl hcl ?_
    refine gs_0 (pc' := if x_5 = 0 then 28 else 24) (L' := [some (.ref l0), some (.int l1)]) (st' := []) cd_87_21 rfl rfl ?_
    refine go_ite (fun hc => ?_) (fun hc => ?_)
    · rw [if_pos hc] at h
      refine gs_0 (pc' := 29) (L' := [some (.ref l0), some (.int l1)]) (st' := [.int 0]) cd_87_28 rfl rfl ?_
      cases h
      exact gs_ri cd_87_29 (Or.inr (Or.inl ⟨rfl, Or.inl rfl⟩))
    · rw [if_neg hc] at h
      refine gs_0 (pc' := 25) (L' := [some (.ref l0), some (.int l1)]) (st' := [.int 1]) cd_87_24 rfl rfl ?_
      refine gs_0 (pc' := 29) (L' := [some (.ref l0), some (.int l1)]) (st' := [.int 1]) cd_87_25 rfl rfl ?_
      cases h
      exact gs_ri cd_87_29 (Or.inr (Or.inl ⟨rfl, Or.inr rfl⟩))
theorem cl_87 {K : Nat → Value} {k d : Nat} {l0 : Nat} {l1 : Int32} {w : aW} {I : aI} {J : aJ} {R : aR} (h : f_87 K k d l0 l1 w I J = some R) : Cl K (d + 1) 87 [.ref l0, .int l1] w I J = some R := Cl_of (ok_87 h)
/-! ProvedMachineModel.oneFun()V -/
theorem gl_88 : gcd.lookup 88 = some gw_88 := rfl
set_option maxRecDepth 20000 in
theorem cd_88_0 : sm_cd 88 0 = some (.aload_n 0, 1, 0, 0, 0, 0, 0, 0, 0) := cd_of gl_88 rfl
set_option maxRecDepth 20000 in
theorem cd_88_1 : sm_cd 88 1 = some (.aload_n 0, 1, 0, 0, 0, 0, 0, 0, 0) := cd_of gl_88 rfl
set_option maxRecDepth 20000 in
theorem cd_88_2 : sm_cd 88 2 = some (.iconst 4, 1, 0, 0, 0, 0, 0, 4, 0) := cd_of gl_88 rfl
set_option maxRecDepth 20000 in
theorem cd_88_3 : sm_cd 88 3 = some (.invokevirtual 254, 3, 89, 0, 1, 2, 6, 0, 0) := cd_of gl_88 rfl
set_option maxRecDepth 20000 in
theorem cd_88_6 : sm_cd 88 6 = some (.ifCond .eq 15, 3, 21, 0, 0, 0, 0, 0, 0) := cd_of gl_88 rfl
set_option maxRecDepth 20000 in
theorem cd_88_9 : sm_cd 88 9 = some (.aload_n 0, 1, 0, 0, 0, 0, 0, 0, 0) := cd_of gl_88 rfl
set_option maxRecDepth 20000 in
theorem cd_88_10 : sm_cd 88 10 = some (.getfield 313, 3, 6, 5, 0, 0, 0, 0, 0) := cd_of gl_88 rfl
set_option maxRecDepth 20000 in
theorem cd_88_13 : sm_cd 88 13 = some (.iconst 5, 1, 0, 0, 0, 0, 0, 5, 0) := cd_of gl_88 rfl
set_option maxRecDepth 20000 in
theorem cd_88_14 : sm_cd 88 14 = some (.if_icmp .ge 7, 3, 21, 0, 0, 0, 0, 0, 0) := cd_of gl_88 rfl
set_option maxRecDepth 20000 in
theorem cd_88_17 : sm_cd 88 17 = some (.iconst 1, 1, 0, 0, 0, 0, 0, 1, 0) := cd_of gl_88 rfl
set_option maxRecDepth 20000 in
theorem cd_88_18 : sm_cd 88 18 = some (.goto 4, 3, 22, 0, 0, 0, 0, 0, 0) := cd_of gl_88 rfl
set_option maxRecDepth 20000 in
theorem cd_88_21 : sm_cd 88 21 = some (.iconst 0, 1, 0, 0, 0, 0, 0, 0, 0) := cd_of gl_88 rfl
set_option maxRecDepth 20000 in
theorem cd_88_22 : sm_cd 88 22 = some (.invokevirtual 203, 3, 90, 0, 1, 2, 6, 0, 0) := cd_of gl_88 rfl
set_option maxRecDepth 20000 in
theorem cd_88_25 : sm_cd 88 25 = some (.aload_n 0, 1, 0, 0, 0, 0, 0, 0, 0) := cd_of gl_88 rfl
set_option maxRecDepth 20000 in
theorem cd_88_26 : sm_cd 88 26 = some (.getfield 193, 3, 6, 26, 1, 0, 0, 0, 0) := cd_of gl_88 rfl
set_option maxRecDepth 20000 in
theorem cd_88_29 : sm_cd 88 29 = some (.ifCond .eq 4, 3, 33, 0, 0, 0, 0, 0, 0) := cd_of gl_88 rfl
set_option maxRecDepth 20000 in
theorem cd_88_32 : sm_cd 88 32 = some (.return_, 1, 0, 0, 0, 0, 0, 0, 0) := cd_of gl_88 rfl
set_option maxRecDepth 20000 in
theorem cd_88_33 : sm_cd 88 33 = some (.aload_n 0, 1, 0, 0, 0, 0, 0, 0, 0) := cd_of gl_88 rfl
set_option maxRecDepth 20000 in
theorem cd_88_34 : sm_cd 88 34 = some (.aload_n 0, 1, 0, 0, 0, 0, 0, 0, 0) := cd_of gl_88 rfl
set_option maxRecDepth 20000 in
theorem cd_88_35 : sm_cd 88 35 = some (.getfield 313, 3, 6, 5, 0, 0, 0, 0, 0) := cd_of gl_88 rfl
set_option maxRecDepth 20000 in
theorem cd_88_38 : sm_cd 88 38 = some (.putfield 216, 3, 6, 30, 0, 0, 0, 0, 0) := cd_of gl_88 rfl
set_option maxRecDepth 20000 in
theorem cd_88_41 : sm_cd 88 41 = some (.aload_n 0, 1, 0, 0, 0, 0, 0, 0, 0) := cd_of gl_88 rfl
set_option maxRecDepth 20000 in
theorem cd_88_42 : sm_cd 88 42 = some (.aload_n 0, 1, 0, 0, 0, 0, 0, 0, 0) := cd_of gl_88 rfl
set_option maxRecDepth 20000 in
theorem cd_88_43 : sm_cd 88 43 = some (.getfield 160, 3, 6, 22, 0, 0, 0, 0, 0) := cd_of gl_88 rfl
set_option maxRecDepth 20000 in
theorem cd_88_46 : sm_cd 88 46 = some (.putfield 316, 3, 6, 31, 0, 0, 0, 0, 0) := cd_of gl_88 rfl
set_option maxRecDepth 20000 in
theorem cd_88_49 : sm_cd 88 49 = some (.aload_n 0, 1, 0, 0, 0, 0, 0, 0, 0) := cd_of gl_88 rfl
set_option maxRecDepth 20000 in
theorem cd_88_50 : sm_cd 88 50 = some (.invokevirtual 279, 3, 91, 0, 0, 3, 6, 0, 0) := cd_of gl_88 rfl
set_option maxRecDepth 20000 in
theorem cd_88_53 : sm_cd 88 53 = some (.istore_n 1, 1, 1, 0, 0, 0, 0, 0, 0) := cd_of gl_88 rfl
set_option maxRecDepth 20000 in
theorem cd_88_54 : sm_cd 88 54 = some (.iconst 1, 1, 0, 0, 0, 0, 0, 1, 0) := cd_of gl_88 rfl
set_option maxRecDepth 20000 in
theorem cd_88_55 : sm_cd 88 55 = some (.istore_n 2, 1, 2, 0, 0, 0, 0, 0, 0) := cd_of gl_88 rfl
set_option maxRecDepth 20000 in
theorem cd_88_56 : sm_cd 88 56 = some (.iconst 0, 1, 0, 0, 0, 0, 0, 0, 0) := cd_of gl_88 rfl
set_option maxRecDepth 20000 in
theorem cd_88_57 : sm_cd 88 57 = some (.istore_n 3, 1, 3, 0, 0, 0, 0, 0, 0) := cd_of gl_88 rfl
set_option maxRecDepth 20000 in
theorem cd_88_58 : sm_cd 88 58 = some (.iload_n 3, 1, 3, 0, 0, 0, 0, 0, 0) := cd_of gl_88 rfl
set_option maxRecDepth 20000 in
theorem cd_88_59 : sm_cd 88 59 = some (.aload_n 0, 1, 0, 0, 0, 0, 0, 0, 0) := cd_of gl_88 rfl
set_option maxRecDepth 20000 in
theorem cd_88_60 : sm_cd 88 60 = some (.getfield 216, 3, 6, 30, 0, 0, 0, 0, 0) := cd_of gl_88 rfl
set_option maxRecDepth 20000 in
theorem cd_88_63 : sm_cd 88 63 = some (.if_icmp .ge 29, 3, 92, 0, 0, 0, 0, 0, 0) := cd_of gl_88 rfl
set_option maxRecDepth 20000 in
theorem cd_88_66 : sm_cd 88 66 = some (.iload_n 2, 1, 2, 0, 0, 0, 0, 0, 0) := cd_of gl_88 rfl
set_option maxRecDepth 20000 in
theorem cd_88_67 : sm_cd 88 67 = some (.ifCond .eq 17, 3, 84, 0, 0, 0, 0, 0, 0) := cd_of gl_88 rfl
set_option maxRecDepth 20000 in
theorem cd_88_70 : sm_cd 88 70 = some (.aload_n 0, 1, 0, 0, 0, 0, 0, 0, 0) := cd_of gl_88 rfl
set_option maxRecDepth 20000 in
theorem cd_88_71 : sm_cd 88 71 = some (.getfield 20, 3, 6, 6, 2, 0, 0, 0, 0) := cd_of gl_88 rfl
set_option maxRecDepth 20000 in
theorem cd_88_74 : sm_cd 88 74 = some (.iload_n 3, 1, 3, 0, 0, 0, 0, 0, 0) := cd_of gl_88 rfl
set_option maxRecDepth 20000 in
theorem cd_88_75 : sm_cd 88 75 = some (.iaload, 1, 0, 0, 0, 0, 0, 0, 0) := cd_of gl_88 rfl
set_option maxRecDepth 20000 in
theorem cd_88_76 : sm_cd 88 76 = some (.iload_n 1, 1, 1, 0, 0, 0, 0, 0, 0) := cd_of gl_88 rfl
set_option maxRecDepth 20000 in
theorem cd_88_77 : sm_cd 88 77 = some (.if_icmp .eq 7, 3, 84, 0, 0, 0, 0, 0, 0) := cd_of gl_88 rfl
set_option maxRecDepth 20000 in
theorem cd_88_80 : sm_cd 88 80 = some (.iconst 1, 1, 0, 0, 0, 0, 0, 1, 0) := cd_of gl_88 rfl
set_option maxRecDepth 20000 in
theorem cd_88_81 : sm_cd 88 81 = some (.goto 4, 3, 85, 0, 0, 0, 0, 0, 0) := cd_of gl_88 rfl
set_option maxRecDepth 20000 in
theorem cd_88_84 : sm_cd 88 84 = some (.iconst 0, 1, 0, 0, 0, 0, 0, 0, 0) := cd_of gl_88 rfl
set_option maxRecDepth 20000 in
theorem cd_88_85 : sm_cd 88 85 = some (.istore_n 2, 1, 2, 0, 0, 0, 0, 0, 0) := cd_of gl_88 rfl
set_option maxRecDepth 20000 in
theorem cd_88_86 : sm_cd 88 86 = some (.iinc 3 1, 3, 3, 0, 0, 0, 0, 1, 0) := cd_of gl_88 rfl
set_option maxRecDepth 20000 in
theorem cd_88_89 : sm_cd 88 89 = some (.goto (-31), 3, 58, 0, 0, 0, 0, 0, 0) := cd_of gl_88 rfl
set_option maxRecDepth 20000 in
theorem cd_88_92 : sm_cd 88 92 = some (.aload_n 0, 1, 0, 0, 0, 0, 0, 0, 0) := cd_of gl_88 rfl
set_option maxRecDepth 20000 in
theorem cd_88_93 : sm_cd 88 93 = some (.iload_n 2, 1, 2, 0, 0, 0, 0, 0, 0) := cd_of gl_88 rfl
set_option maxRecDepth 20000 in
theorem cd_88_94 : sm_cd 88 94 = some (.aload_n 0, 1, 0, 0, 0, 0, 0, 0, 0) := cd_of gl_88 rfl
set_option maxRecDepth 20000 in
theorem cd_88_95 : sm_cd 88 95 = some (.getfield 316, 3, 6, 31, 0, 0, 0, 0, 0) := cd_of gl_88 rfl
set_option maxRecDepth 20000 in
theorem cd_88_98 : sm_cd 88 98 = some (.invokevirtual 221, 3, 92, 0, 2, 3, 6, 0, 0) := cd_of gl_88 rfl
set_option maxRecDepth 20000 in
theorem cd_88_101 : sm_cd 88 101 = some (.aload_n 0, 1, 0, 0, 0, 0, 0, 0, 0) := cd_of gl_88 rfl
set_option maxRecDepth 20000 in
theorem cd_88_102 : sm_cd 88 102 = some (.getfield 20, 3, 6, 6, 2, 0, 0, 0, 0) := cd_of gl_88 rfl
set_option maxRecDepth 20000 in
theorem cd_88_105 : sm_cd 88 105 = some (.aload_n 0, 1, 0, 0, 0, 0, 0, 0, 0) := cd_of gl_88 rfl
set_option maxRecDepth 20000 in
theorem cd_88_106 : sm_cd 88 106 = some (.getfield 216, 3, 6, 30, 0, 0, 0, 0, 0) := cd_of gl_88 rfl
set_option maxRecDepth 20000 in
theorem cd_88_109 : sm_cd 88 109 = some (.iload_n 1, 1, 1, 0, 0, 0, 0, 0, 0) := cd_of gl_88 rfl
set_option maxRecDepth 20000 in
theorem cd_88_110 : sm_cd 88 110 = some (.iastore, 1, 0, 0, 0, 0, 0, 0, 0) := cd_of gl_88 rfl
set_option maxRecDepth 20000 in
theorem cd_88_111 : sm_cd 88 111 = some (.aload_n 0, 1, 0, 0, 0, 0, 0, 0, 0) := cd_of gl_88 rfl
set_option maxRecDepth 20000 in
theorem cd_88_112 : sm_cd 88 112 = some (.getfield 23, 3, 6, 7, 2, 0, 0, 0, 0) := cd_of gl_88 rfl
set_option maxRecDepth 20000 in
theorem cd_88_115 : sm_cd 88 115 = some (.aload_n 0, 1, 0, 0, 0, 0, 0, 0, 0) := cd_of gl_88 rfl
set_option maxRecDepth 20000 in
theorem cd_88_116 : sm_cd 88 116 = some (.getfield 216, 3, 6, 30, 0, 0, 0, 0, 0) := cd_of gl_88 rfl
set_option maxRecDepth 20000 in
theorem cd_88_119 : sm_cd 88 119 = some (.aload_n 0, 1, 0, 0, 0, 0, 0, 0, 0) := cd_of gl_88 rfl
set_option maxRecDepth 20000 in
theorem cd_88_120 : sm_cd 88 120 = some (.getfield 213, 3, 6, 13, 0, 0, 0, 0, 0) := cd_of gl_88 rfl
set_option maxRecDepth 20000 in
theorem cd_88_123 : sm_cd 88 123 = some (.iastore, 1, 0, 0, 0, 0, 0, 0, 0) := cd_of gl_88 rfl
set_option maxRecDepth 20000 in
theorem cd_88_124 : sm_cd 88 124 = some (.aload_n 0, 1, 0, 0, 0, 0, 0, 0, 0) := cd_of gl_88 rfl
set_option maxRecDepth 20000 in
theorem cd_88_125 : sm_cd 88 125 = some (.getfield 29, 3, 6, 9, 2, 0, 0, 0, 0) := cd_of gl_88 rfl
set_option maxRecDepth 20000 in
theorem cd_88_128 : sm_cd 88 128 = some (.aload_n 0, 1, 0, 0, 0, 0, 0, 0, 0) := cd_of gl_88 rfl
set_option maxRecDepth 20000 in
theorem cd_88_129 : sm_cd 88 129 = some (.getfield 216, 3, 6, 30, 0, 0, 0, 0, 0) := cd_of gl_88 rfl
set_option maxRecDepth 20000 in
theorem cd_88_132 : sm_cd 88 132 = some (.iconst 0, 1, 0, 0, 0, 0, 0, 0, 0) := cd_of gl_88 rfl
set_option maxRecDepth 20000 in
theorem cd_88_133 : sm_cd 88 133 = some (.iastore, 1, 0, 0, 0, 0, 0, 0, 0) := cd_of gl_88 rfl
set_option maxRecDepth 20000 in
theorem cd_88_134 : sm_cd 88 134 = some (.aload_n 0, 1, 0, 0, 0, 0, 0, 0, 0) := cd_of gl_88 rfl
set_option maxRecDepth 20000 in
theorem cd_88_135 : sm_cd 88 135 = some (.getfield 26, 3, 6, 8, 2, 0, 0, 0, 0) := cd_of gl_88 rfl
set_option maxRecDepth 20000 in
theorem cd_88_138 : sm_cd 88 138 = some (.aload_n 0, 1, 0, 0, 0, 0, 0, 0, 0) := cd_of gl_88 rfl
set_option maxRecDepth 20000 in
theorem cd_88_139 : sm_cd 88 139 = some (.getfield 216, 3, 6, 30, 0, 0, 0, 0, 0) := cd_of gl_88 rfl
set_option maxRecDepth 20000 in
theorem cd_88_142 : sm_cd 88 142 = some (.iconst 0, 1, 0, 0, 0, 0, 0, 0, 0) := cd_of gl_88 rfl
set_option maxRecDepth 20000 in
theorem cd_88_143 : sm_cd 88 143 = some (.iastore, 1, 0, 0, 0, 0, 0, 0, 0) := cd_of gl_88 rfl
set_option maxRecDepth 20000 in
theorem cd_88_144 : sm_cd 88 144 = some (.aload_n 0, 1, 0, 0, 0, 0, 0, 0, 0) := cd_of gl_88 rfl
set_option maxRecDepth 20000 in
theorem cd_88_145 : sm_cd 88 145 = some (.bipush 40, 2, 0, 0, 0, 0, 0, 40, 0) := cd_of gl_88 rfl
set_option maxRecDepth 20000 in
theorem cd_88_147 : sm_cd 88 147 = some (.invokevirtual 275, 3, 93, 0, 1, 2, 6, 0, 0) := cd_of gl_88 rfl
set_option maxRecDepth 20000 in
theorem cd_88_150 : sm_cd 88 150 = some (.aload_n 0, 1, 0, 0, 0, 0, 0, 0, 0) := cd_of gl_88 rfl
set_option maxRecDepth 20000 in
theorem cd_88_151 : sm_cd 88 151 = some (.bipush 41, 2, 0, 0, 0, 0, 0, 41, 0) := cd_of gl_88 rfl
set_option maxRecDepth 20000 in
theorem cd_88_153 : sm_cd 88 153 = some (.invokevirtual 200, 3, 94, 0, 1, 2, 6, 0, 0) := cd_of gl_88 rfl
set_option maxRecDepth 20000 in
theorem cd_88_156 : sm_cd 88 156 = some (.ifCond .ne 7, 3, 163, 0, 0, 0, 0, 0, 0) := cd_of gl_88 rfl
set_option maxRecDepth 20000 in
theorem cd_88_159 : sm_cd 88 159 = some (.iconst 1, 1, 0, 0, 0, 0, 0, 1, 0) := cd_of gl_88 rfl
set_option maxRecDepth 20000 in
theorem cd_88_160 : sm_cd 88 160 = some (.goto 4, 3, 164, 0, 0, 0, 0, 0, 0) := cd_of gl_88 rfl
set_option maxRecDepth 20000 in
theorem cd_88_163 : sm_cd 88 163 = some (.iconst 0, 1, 0, 0, 0, 0, 0, 0, 0) := cd_of gl_88 rfl
set_option maxRecDepth 20000 in
theorem cd_88_164 : sm_cd 88 164 = some (.istore_n 3, 1, 3, 0, 0, 0, 0, 0, 0) := cd_of gl_88 rfl
set_option maxRecDepth 20000 in
theorem cd_88_165 : sm_cd 88 165 = some (.iload_n 3, 1, 3, 0, 0, 0, 0, 0, 0) := cd_of gl_88 rfl
set_option maxRecDepth 20000 in
theorem cd_88_166 : sm_cd 88 166 = some (.ifCond .eq 58, 3, 224, 0, 0, 0, 0, 0, 0) := cd_of gl_88 rfl
set_option maxRecDepth 20000 in
theorem cd_88_169 : sm_cd 88 169 = some (.aload_n 0, 1, 0, 0, 0, 0, 0, 0, 0) := cd_of gl_88 rfl
set_option maxRecDepth 20000 in
theorem cd_88_170 : sm_cd 88 170 = some (.invokevirtual 306, 3, 95, 0, 0, 3, 6, 0, 0) := cd_of gl_88 rfl
set_option maxRecDepth 20000 in
theorem cd_88_173 : sm_cd 88 173 = some (.istore 4, 2, 4, 0, 0, 0, 0, 0, 0) := cd_of gl_88 rfl
set_option maxRecDepth 20000 in
theorem cd_88_175 : sm_cd 88 175 = some (.aload_n 0, 1, 0, 0, 0, 0, 0, 0, 0) := cd_of gl_88 rfl
set_option maxRecDepth 20000 in
theorem cd_88_176 : sm_cd 88 176 = some (.getfield 160, 3, 6, 22, 0, 0, 0, 0, 0) := cd_of gl_88 rfl
set_option maxRecDepth 20000 in
theorem cd_88_179 : sm_cd 88 179 = some (.istore 5, 2, 5, 0, 0, 0, 0, 0, 0) := cd_of gl_88 rfl
set_option maxRecDepth 20000 in
theorem cd_88_181 : sm_cd 88 181 = some (.aload_n 0, 1, 0, 0, 0, 0, 0, 0, 0) := cd_of gl_88 rfl
set_option maxRecDepth 20000 in
theorem cd_88_182 : sm_cd 88 182 = some (.aload_n 0, 1, 0, 0, 0, 0, 0, 0, 0) := cd_of gl_88 rfl
set_option maxRecDepth 20000 in
theorem cd_88_183 : sm_cd 88 183 = some (.invokevirtual 279, 3, 91, 0, 0, 3, 6, 0, 0) := cd_of gl_88 rfl
set_option maxRecDepth 20000 in
theorem cd_88_186 : sm_cd 88 186 = some (.iload 4, 2, 4, 0, 0, 0, 0, 0, 0) := cd_of gl_88 rfl
set_option maxRecDepth 20000 in
theorem cd_88_188 : sm_cd 88 188 = some (.iload 5, 2, 5, 0, 0, 0, 0, 0, 0) := cd_of gl_88 rfl
set_option maxRecDepth 20000 in
theorem cd_88_190 : sm_cd 88 190 = some (.invokevirtual 309, 3, 96, 0, 3, 5, 6, 0, 0) := cd_of gl_88 rfl
set_option maxRecDepth 20000 in
theorem cd_88_193 : sm_cd 88 193 = some (.aload_n 0, 1, 0, 0, 0, 0, 0, 0, 0) := cd_of gl_88 rfl
set_option maxRecDepth 20000 in
theorem cd_88_194 : sm_cd 88 194 = some (.getfield 26, 3, 6, 8, 2, 0, 0, 0, 0) := cd_of gl_88 rfl
set_option maxRecDepth 20000 in
theorem cd_88_197 : sm_cd 88 197 = some (.aload_n 0, 1, 0, 0, 0, 0, 0, 0, 0) := cd_of gl_88 rfl
set_option maxRecDepth 20000 in
theorem cd_88_198 : sm_cd 88 198 = some (.getfield 216, 3, 6, 30, 0, 0, 0, 0, 0) := cd_of gl_88 rfl
set_option maxRecDepth 20000 in
theorem cd_88_201 : sm_cd 88 201 = some (.dup2, 1, 0, 0, 0, 0, 0, 0, 0) := cd_of gl_88 rfl
set_option maxRecDepth 20000 in
theorem cd_88_202 : sm_cd 88 202 = some (.iaload, 1, 0, 0, 0, 0, 0, 0, 0) := cd_of gl_88 rfl
set_option maxRecDepth 20000 in
theorem cd_88_203 : sm_cd 88 203 = some (.iconst 1, 1, 0, 0, 0, 0, 0, 1, 0) := cd_of gl_88 rfl
set_option maxRecDepth 20000 in
theorem cd_88_204 : sm_cd 88 204 = some (.iadd, 1, 0, 0, 0, 0, 0, 0, 0) := cd_of gl_88 rfl
set_option maxRecDepth 20000 in
theorem cd_88_205 : sm_cd 88 205 = some (.iastore, 1, 0, 0, 0, 0, 0, 0, 0) := cd_of gl_88 rfl
set_option maxRecDepth 20000 in
theorem cd_88_206 : sm_cd 88 206 = some (.aload_n 0, 1, 0, 0, 0, 0, 0, 0, 0) := cd_of gl_88 rfl
set_option maxRecDepth 20000 in
theorem cd_88_207 : sm_cd 88 207 = some (.bipush 44, 2, 0, 0, 0, 0, 0, 44, 0) := cd_of gl_88 rfl
set_option maxRecDepth 20000 in
theorem cd_88_209 : sm_cd 88 209 = some (.invokevirtual 200, 3, 94, 0, 1, 2, 6, 0, 0) := cd_of gl_88 rfl
set_option maxRecDepth 20000 in
theorem cd_88_212 : sm_cd 88 212 = some (.istore_n 3, 1, 3, 0, 0, 0, 0, 0, 0) := cd_of gl_88 rfl
set_option maxRecDepth 20000 in
theorem cd_88_213 : sm_cd 88 213 = some (.iload_n 3, 1, 3, 0, 0, 0, 0, 0, 0) := cd_of gl_88 rfl
set_option maxRecDepth 20000 in
theorem cd_88_214 : sm_cd 88 214 = some (.ifCond .eq 7, 3, 221, 0, 0, 0, 0, 0, 0) := cd_of gl_88 rfl
set_option maxRecDepth 20000 in
theorem cd_88_217 : sm_cd 88 217 = some (.aload_n 0, 1, 0, 0, 0, 0, 0, 0, 0) := cd_of gl_88 rfl
set_option maxRecDepth 20000 in
theorem cd_88_218 : sm_cd 88 218 = some (.invokevirtual 197, 3, 84, 0, 0, 1, 6, 0, 0) := cd_of gl_88 rfl
set_option maxRecDepth 20000 in
theorem cd_88_221 : sm_cd 88 221 = some (.goto (-56), 3, 165, 0, 0, 0, 0, 0, 0) := cd_of gl_88 rfl
set_option maxRecDepth 20000 in
theorem cd_88_224 : sm_cd 88 224 = some (.aload_n 0, 1, 0, 0, 0, 0, 0, 0, 0) := cd_of gl_88 rfl
set_option maxRecDepth 20000 in
theorem cd_88_225 : sm_cd 88 225 = some (.bipush 41, 2, 0, 0, 0, 0, 0, 41, 0) := cd_of gl_88 rfl
set_option maxRecDepth 20000 in
theorem cd_88_227 : sm_cd 88 227 = some (.invokevirtual 275, 3, 93, 0, 1, 2, 6, 0, 0) := cd_of gl_88 rfl
set_option maxRecDepth 20000 in
theorem cd_88_230 : sm_cd 88 230 = some (.aload_n 0, 1, 0, 0, 0, 0, 0, 0, 0) := cd_of gl_88 rfl
set_option maxRecDepth 20000 in
theorem cd_88_231 : sm_cd 88 231 = some (.getfield 32, 3, 6, 10, 2, 0, 0, 0, 0) := cd_of gl_88 rfl
set_option maxRecDepth 20000 in
theorem cd_88_234 : sm_cd 88 234 = some (.aload_n 0, 1, 0, 0, 0, 0, 0, 0, 0) := cd_of gl_88 rfl
set_option maxRecDepth 20000 in
theorem cd_88_235 : sm_cd 88 235 = some (.getfield 216, 3, 6, 30, 0, 0, 0, 0, 0) := cd_of gl_88 rfl
set_option maxRecDepth 20000 in
theorem cd_88_238 : sm_cd 88 238 = some (.aload_n 0, 1, 0, 0, 0, 0, 0, 0, 0) := cd_of gl_88 rfl
set_option maxRecDepth 20000 in
theorem cd_88_239 : sm_cd 88 239 = some (.invokevirtual 306, 3, 95, 0, 0, 3, 6, 0, 0) := cd_of gl_88 rfl
set_option maxRecDepth 20000 in
theorem cd_88_242 : sm_cd 88 242 = some (.iastore, 1, 0, 0, 0, 0, 0, 0, 0) := cd_of gl_88 rfl
set_option maxRecDepth 20000 in
theorem cd_88_243 : sm_cd 88 243 = some (.aload_n 0, 1, 0, 0, 0, 0, 0, 0, 0) := cd_of gl_88 rfl
set_option maxRecDepth 20000 in
theorem cd_88_244 : sm_cd 88 244 = some (.dup, 1, 0, 0, 0, 0, 0, 0, 0) := cd_of gl_88 rfl
set_option maxRecDepth 20000 in
theorem cd_88_245 : sm_cd 88 245 = some (.getfield 313, 3, 6, 5, 0, 0, 0, 0, 0) := cd_of gl_88 rfl
set_option maxRecDepth 20000 in
theorem cd_88_248 : sm_cd 88 248 = some (.iconst 1, 1, 0, 0, 0, 0, 0, 1, 0) := cd_of gl_88 rfl
set_option maxRecDepth 20000 in
theorem cd_88_249 : sm_cd 88 249 = some (.iadd, 1, 0, 0, 0, 0, 0, 0, 0) := cd_of gl_88 rfl
set_option maxRecDepth 20000 in
theorem cd_88_250 : sm_cd 88 250 = some (.putfield 313, 3, 6, 5, 0, 0, 0, 0, 0) := cd_of gl_88 rfl
set_option maxRecDepth 20000 in
theorem cd_88_253 : sm_cd 88 253 = some (.aload_n 0, 1, 0, 0, 0, 0, 0, 0, 0) := cd_of gl_88 rfl
set_option maxRecDepth 20000 in
theorem cd_88_254 : sm_cd 88 254 = some (.invokevirtual 300, 3, 98, 0, 0, 1, 6, 0, 0) := cd_of gl_88 rfl
set_option maxRecDepth 20000 in
theorem cd_88_257 : sm_cd 88 257 = some (.aload_n 0, 1, 0, 0, 0, 0, 0, 0, 0) := cd_of gl_88 rfl
set_option maxRecDepth 20000 in
theorem cd_88_258 : sm_cd 88 258 = some (.bipush 27, 2, 0, 0, 0, 0, 0, 27, 0) := cd_of gl_88 rfl
set_option maxRecDepth 20000 in
theorem cd_88_260 : sm_cd 88 260 = some (.aload_n 0, 1, 0, 0, 0, 0, 0, 0, 0) := cd_of gl_88 rfl
set_option maxRecDepth 20000 in
theorem cd_88_261 : sm_cd 88 261 = some (.getfield 32, 3, 6, 10, 2, 0, 0, 0, 0) := cd_of gl_88 rfl
set_option maxRecDepth 20000 in
theorem cd_88_264 : sm_cd 88 264 = some (.aload_n 0, 1, 0, 0, 0, 0, 0, 0, 0) := cd_of gl_88 rfl
set_option maxRecDepth 20000 in
theorem cd_88_265 : sm_cd 88 265 = some (.getfield 216, 3, 6, 30, 0, 0, 0, 0, 0) := cd_of gl_88 rfl
set_option maxRecDepth 20000 in
theorem cd_88_268 : sm_cd 88 268 = some (.iaload, 1, 0, 0, 0, 0, 0, 0, 0) := cd_of gl_88 rfl
set_option maxRecDepth 20000 in
theorem cd_88_269 : sm_cd 88 269 = some (.invokevirtual 247, 3, 111, 0, 2, 3, 6, 0, 0) := cd_of gl_88 rfl
set_option maxRecDepth 20000 in
theorem cd_88_272 : sm_cd 88 272 = some (.aload_n 0, 1, 0, 0, 0, 0, 0, 0, 0) := cd_of gl_88 rfl
set_option maxRecDepth 20000 in
theorem cd_88_273 : sm_cd 88 273 = some (.bipush 25, 2, 0, 0, 0, 0, 0, 25, 0) := cd_of gl_88 rfl
set_option maxRecDepth 20000 in
theorem cd_88_275 : sm_cd 88 275 = some (.iconst 0, 1, 0, 0, 0, 0, 0, 0, 0) := cd_of gl_88 rfl
set_option maxRecDepth 20000 in
theorem cd_88_276 : sm_cd 88 276 = some (.invokevirtual 247, 3, 111, 0, 2, 3, 6, 0, 0) := cd_of gl_88 rfl
set_option maxRecDepth 20000 in
theorem cd_88_279 : sm_cd 88 279 = some (.return_, 1, 0, 0, 0, 0, 0, 0, 0) := cd_of gl_88 rfl
noncomputable def f_88_221 (K : Nat → Value) (k d : Nat) (r165 : Nat → Int32 → Int32 → Int32 → aW → aI → aJ → Option aR) (l0 : Nat) (l1 : Int32) (l2 : Int32) (l3 : Int32) (l4 : Int32) (l5 : Int32) (w : aW) (I : aI) (J : aJ) : Option aR :=
  r165 l0 l1 l2 l3 w I J
theorem ok_88_221 {K : Nat → Value} {k d : Nat} {r165 : Nat → Int32 → Int32 → Int32 → aW → aI → aJ → Option aR} (hr165 : ∀ (l0 : Nat) (l1 : Int32) (l2 : Int32) (l3 : Int32) (w : aW) (I : aI) (J : aJ) (R : aR), r165 l0 l1 l2 l3 w I J = some R → Go K (d + 1) 88 165 [some (.ref l0), some (.int l1), some (.int l2), some (.int l3), none, none] [] w I J R) {l0 : Nat} {l1 : Int32} {l2 : Int32} {l3 : Int32} {l4 : Int32} {l5 : Int32} {w : aW} {I : aI} {J : aJ} {R : aR} (h : f_88_221 K k d r165 l0 l1 l2 l3 l4 l5 w I J = some R) : Go K (d + 1) 88 221 [some (.ref l0), some (.int l1), some (.int l2), some (.int l3), some (.int l4), some (.int l5)] [] w I J R := by
  unfold f_88_221 at h
  refine gs_0 (pc' := 165) (L' := [some (.ref l0), some (.int l1), some (.int l2), some (.int l3), some (.int l4), some (.int l5)]) (st' := []) cd_88_221 rfl rfl ?_
  refine go_drop [some (.ref l0), some (.int l1), some (.int l2), some (.int l3), none, none] ⟨rfl, ⟨rfl, ⟨rfl, ⟨rfl, ⟨rfl, ⟨rfl, trivial⟩⟩⟩⟩⟩⟩ ?_
  exact hr165 l0 l1 l2 l3 _ _ _ _ h
noncomputable def f_88_165 (K : Nat → Value) (k : Nat) (d : Nat) : Nat → Int32 → Int32 → Int32 → aW → aI → aJ → Option aR :=
  match k with
  | 0 => fun _ _ _ _ _ _ _ => none
  | k + 1 => fun l0 l1 l2 l3 w I J =>
  lt_ (f_88_165 K k d) fun r165 =>
  if l3 = 0 then
    gO w 6 l0 (
    cV (Cl K d 93 [.ref l0, .int 41] w I J) fun w_1 I_2 J_3 =>
    gO w_1 6 l0 (
    gV w_1 l0 10 fun q_4 =>
    gO w_1 6 l0 (
    gO w_1 6 l0 (
    cI (Cl K d 95 [.ref l0] w_1 I_2 J_3) fun x_8 w_5 I_6 J_7 =>
    gA w_5 10 10 q_4 (I_2 l0 30) (
    lt_ (sm_up2 I_6 q_4 (I_2 l0 30 : Int32).toNatClampNeg x_8) fun I_9 =>
    gO w_5 6 l0 (
    gO w_5 6 l0 (
    lt_ (sm_up2 I_9 l0 5 ((I_9 l0 5) + 1)) fun I_10 =>
    gO w_5 6 l0 (
    cV (Cl K d 98 [.ref l0] w_5 I_10 J_7) fun w_11 I_12 J_13 =>
    gO w_11 6 l0 (
    gV w_11 l0 10 fun q_14 =>
    gO w_11 6 l0 (
    gA w_11 10 20 q_14 (I_12 l0 30) (
    gO w_11 6 l0 (
    cV (Cl K d 111 [.ref l0, .int 27, .int (I_12 q_14 (I_12 l0 30 : Int32).toNatClampNeg)] w_11 I_12 J_13) fun w_15 I_16 J_17 =>
    gO w_15 6 l0 (
    cV (Cl K d 111 [.ref l0, .int 25, .int 0] w_15 I_16 J_17) fun w_18 I_19 J_20 =>
    some (none, w_18, I_19, J_20))))))))))))))
  else
    gO w 6 l0 (
    cI (Cl K d 95 [.ref l0] w I J) fun x_24 w_21 I_22 J_23 =>
    gO w_21 6 l0 (
    lt_ (I_22 l0 22) fun x_25 =>
    gO w_21 6 l0 (
    cI (Cl K d 91 [.ref l0] w_21 I_22 J_23) fun x_29 w_26 I_27 J_28 =>
    gO w_26 6 l0 (
    cV (Cl K d 96 [.ref l0, .int x_29, .int x_24, .int x_25] w_26 I_27 J_28) fun w_30 I_31 J_32 =>
    gO w_30 6 l0 (
    gV w_30 l0 8 fun q_33 =>
    gO w_30 6 l0 (
    gA w_30 10 20 q_33 (I_31 l0 30) (
    gA w_30 10 10 q_33 (I_31 l0 30) (
    lt_ (sm_up2 I_31 q_33 (I_31 l0 30 : Int32).toNatClampNeg ((I_31 q_33 (I_31 l0 30 : Int32).toNatClampNeg) + 1)) fun I_34 =>
    gO w_30 6 l0 (
    cI (Cl K d 94 [.ref l0, .int 44] w_30 I_34 J_32) fun x_38 w_35 I_36 J_37 =>
    if x_38 = 0 then
      f_88_221 K k d r165 l0 l1 l2 x_38 x_24 x_25 w_35 I_36 J_37
    else
      gO w_35 6 l0 (
      cV (Cl K d 84 [.ref l0] w_35 I_36 J_37) fun w_39 I_40 J_41 =>
      f_88_221 K k d r165 l0 l1 l2 x_38 x_24 x_25 w_39 I_40 J_41))))))))))
theorem ok_88_165 {K : Nat → Value} {d : Nat} : ∀ {k : Nat} {l0 : Nat} {l1 : Int32} {l2 : Int32} {l3 : Int32} {w : aW} {I : aI} {J : aJ} {R : aR}, f_88_165 K k d l0 l1 l2 l3 w I J = some R → Go K (d + 1) 88 165 [some (.ref l0), some (.int l1), some (.int l2), some (.int l3), none, none] [] w I J R := by
  intro k
  induction k with
  | zero => intro l0 l1 l2 l3 w I J R h; cases h
  | succ k ih =>
    intro l0 l1 l2 l3 w I J R h
    have hr165 : ∀ (l0 : Nat) (l1 : Int32) (l2 : Int32) (l3 : Int32) (w : aW) (I : aI) (J : aJ) (R : aR), f_88_165 K k d l0 l1 l2 l3 w I J = some R → Go K (d + 1) 88 165 [some (.ref l0), some (.int l1), some (.int l2), some (.int l3), none, none] [] w I J R := fun l0 l1 l2 l3 w I J R h => ih h
    rw [f_88_165] at h
    obtain ⟨r165, hx, h⟩ := lt_s_ h
    rw [hx] at hr165
    clear hx ih
    refine gs_0 (pc' := 166) (L' := [some (.ref l0), some (.int l1), some (.int l2), some (.int l3), none, none]) (st' := [.int l3]) cd_88_165 rfl rfl ?_
    refine gs_0 (pc' := if l3 = 0 then 224 else 169) (L' := [some (.ref l0), some (.int l1), some (.int l2), some (.int l3), none, none]) (st' := []) cd_88_166 rfl rfl ?_
    refine go_ite (fun hc => ?_) (fun hc => ?_)
    · rw [if_pos hc] at h
      refine gs_0 (pc' := 225) (L' := [some (.ref l0), some (.int l1), some (.int l2), some (.int l3), none, none]) (st' := [.ref l0]) cd_88_224 rfl rfl ?_
      refine gs_0 (pc' := 227) (L' := [some (.ref l0), some (.int l1), some (.int l2), some (.int l3), none, none]) (st' := [.int 41, .ref l0]) cd_88_225 rfl rfl ?_
      obtain ⟨ht, h⟩ := gO_s h
      obtain ⟨w_1, I_2, J_3, hcl, h⟩ := cV_s h
      refine gs_call (as := [.ref l0, .int 41]) (rest := []) cd_88_227 rfl (by decide) rfl (sm_rv_ok (by decide) ht) (Nat.le_of_ble_eq_true rfl) (Nat.le_of_ble_eq_true rfl) rfl hcl ?_
      refine gs_0 (pc' := 231) (L' := [some (.ref l0), some (.int l1), some (.int l2), some (.int l3), none, none]) (st' := [.ref l0]) cd_88_230 rfl rfl ?_
      obtain ⟨ht, h⟩ := gO_s h
      obtain ⟨q_4, hv, h⟩ := gV_s h
      refine gs_gfR cd_88_231 (by decide) ht hv ?_
      refine gs_0 (pc' := 235) (L' := [some (.ref l0), some (.int l1), some (.int l2), some (.int l3), none, none]) (st' := [.ref l0, .ref q_4]) cd_88_234 rfl rfl ?_
      obtain ⟨ht, h⟩ := gO_s h
      refine gs_gfI cd_88_235 (by decide) (by decide) ht ?_
      refine gs_0 (pc' := 239) (L' := [some (.ref l0), some (.int l1), some (.int l2), some (.int l3), none, none]) (st' := [.ref l0, .int (I_2 l0 30), .ref q_4]) cd_88_238 rfl rfl ?_
      obtain ⟨ht, h⟩ := gO_s h
      obtain ⟨x_8, w_5, I_6, J_7, hcl, h⟩ := cI_s h
      refine gs_call (as := [.ref l0]) (rest := [.int (I_2 l0 30), .ref q_4]) cd_88_239 rfl (by decide) rfl (sm_rv_ok (by decide) ht) (Nat.le_of_ble_eq_true rfl) (Nat.le_of_ble_eq_true rfl) rfl hcl ?_
      obtain ⟨ht, h⟩ := gA_s h
      refine gs_iast cd_88_242 ht ?_
      obtain ⟨I_9, hx, h⟩ := lt_s_ h
      rw [hx]
      refine gs_0 (pc' := 244) (L' := [some (.ref l0), some (.int l1), some (.int l2), some (.int l3), none, none]) (st' := [.ref l0]) cd_88_243 rfl rfl ?_
      refine gs_0 (pc' := 245) (L' := [some (.ref l0), some (.int l1), some (.int l2), some (.int l3), none, none]) (st' := [.ref l0, .ref l0]) cd_88_244 rfl rfl ?_
      obtain ⟨ht, h⟩ := gO_s h
      refine gs_gfI cd_88_245 (by decide) (by decide) ht ?_
      refine gs_0 (pc' := 249) (L' := [some (.ref l0), some (.int l1), some (.int l2), some (.int l3), none, none]) (st' := [.int 1, .int (I_9 l0 5), .ref l0]) cd_88_248 rfl rfl ?_
      refine gs_0 (pc' := 250) (L' := [some (.ref l0), some (.int l1), some (.int l2), some (.int l3), none, none]) (st' := [.int ((I_9 l0 5) + 1), .ref l0]) cd_88_249 rfl rfl ?_
      obtain ⟨ht, h⟩ := gO_s h
      refine gs_pfI cd_88_250 (by decide) (Or.inl rfl) ht ?_
      obtain ⟨I_10, hx, h⟩ := lt_s_ h
      rw [hx]
      refine gs_0 (pc' := 254) (L' := [some (.ref l0), some (.int l1), some (.int l2), some (.int l3), none, none]) (st' := [.ref l0]) cd_88_253 rfl rfl ?_
      obtain ⟨ht, h⟩ := gO_s h
      obtain ⟨w_11, I_12, J_13, hcl, h⟩ := cV_s h
      refine gs_call (as := [.ref l0]) (rest := []) cd_88_254 rfl (by decide) rfl (sm_rv_ok (by decide) ht) (Nat.le_of_ble_eq_true rfl) (Nat.le_of_ble_eq_true rfl) rfl hcl ?_
      refine gs_0 (pc' := 258) (L' := [some (.ref l0), some (.int l1), some (.int l2), some (.int l3), none, none]) (st' := [.ref l0]) cd_88_257 rfl rfl ?_
      refine gs_0 (pc' := 260) (L' := [some (.ref l0), some (.int l1), some (.int l2), some (.int l3), none, none]) (st' := [.int 27, .ref l0]) cd_88_258 rfl rfl ?_
      refine gs_0 (pc' := 261) (L' := [some (.ref l0), some (.int l1), some (.int l2), some (.int l3), none, none]) (st' := [.ref l0, .int 27, .ref l0]) cd_88_260 rfl rfl ?_
      obtain ⟨ht, h⟩ := gO_s h
      obtain ⟨q_14, hv, h⟩ := gV_s h
      refine gs_gfR cd_88_261 (by decide) ht hv ?_
      refine gs_0 (pc' := 265) (L' := [some (.ref l0), some (.int l1), some (.int l2), some (.int l3), none, none]) (st' := [.ref l0, .ref q_14, .int 27, .ref l0]) cd_88_264 rfl rfl ?_
      obtain ⟨ht, h⟩ := gO_s h
      refine gs_gfI cd_88_265 (by decide) (by decide) ht ?_
      obtain ⟨ht, h⟩ := gA_s h
      refine gs_iald cd_88_268 ht ?_
      obtain ⟨ht, h⟩ := gO_s h
      obtain ⟨w_15, I_16, J_17, hcl, h⟩ := cV_s h
      refine gs_call (as := [.ref l0, .int 27, .int (I_12 q_14 (I_12 l0 30 : Int32).toNatClampNeg)]) (rest := []) cd_88_269 rfl (by decide) rfl (sm_rv_ok (by decide) ht) (Nat.le_of_ble_eq_true rfl) (Nat.le_of_ble_eq_true rfl) rfl hcl ?_
      refine gs_0 (pc' := 273) (L' := [some (.ref l0), some (.int l1), some (.int l2), some (.int l3), none, none]) (st' := [.ref l0]) cd_88_272 rfl rfl ?_
      refine gs_0 (pc' := 275) (L' := [some (.ref l0), some (.int l1), some (.int l2), some (.int l3), none, none]) (st' := [.int 25, .ref l0]) cd_88_273 rfl rfl ?_
      refine gs_0 (pc' := 276) (L' := [some (.ref l0), some (.int l1), some (.int l2), some (.int l3), none, none]) (st' := [.int 0, .int 25, .ref l0]) cd_88_275 rfl rfl ?_
      obtain ⟨ht, h⟩ := gO_s h
      obtain ⟨w_18, I_19, J_20, hcl, h⟩ := cV_s h
      refine gs_call (as := [.ref l0, .int 25, .int 0]) (rest := []) cd_88_276 rfl (by decide) rfl (sm_rv_ok (by decide) ht) (Nat.le_of_ble_eq_true rfl) (Nat.le_of_ble_eq_true rfl) rfl hcl ?_
      cases h
      exact gsr cd_88_279 rfl rfl
    · rw [if_neg hc] at h
      refine gs_0 (pc' := 170) (L' := [some (.ref l0), some (.int l1), some (.int l2), some (.int l3), none, none]) (st' := [.ref l0]) cd_88_169 rfl rfl ?_
      obtain ⟨ht, h⟩ := gO_s h
      obtain ⟨x_24, w_21, I_22, J_23, hcl, h⟩ := cI_s h
      refine gs_call (as := [.ref l0]) (rest := []) cd_88_170 rfl (by decide) rfl (sm_rv_ok (by decide) ht) (Nat.le_of_ble_eq_true rfl) (Nat.le_of_ble_eq_true rfl) rfl hcl ?_
      refine gs_0 (pc' := 175) (L' := [some (.ref l0), some (.int l1), some (.int l2), some (.int l3), some (.int x_24), none]) (st' := []) cd_88_173 rfl rfl ?_
      refine gs_0 (pc' := 176) (L' := [some (.ref l0), some (.int l1), some (.int l2), some (.int l3), some (.int x_24), none]) (st' := [.ref l0]) cd_88_175 rfl rfl ?_
      obtain ⟨ht, h⟩ := gO_s h
      refine gs_gfI cd_88_176 (by decide) (by decide) ht ?_
      refine gs_0 (pc' := 181) (L' := [some (.ref l0), some (.int l1), some (.int l2), some (.int l3), some (.int x_24), some (.int (I_22 l0 22))]) (st' := []) cd_88_179 rfl rfl ?_
      obtain ⟨x_25, hx, h⟩ := lt_s_ h
      rw [hx]
      clear hx
      refine gs_0 (pc' := 182) (L' := [some (.ref l0), some (.int l1), some (.int l2), some (.int l3), some (.int x_24), some (.int x_25)]) (st' := [.ref l0]) cd_88_181 rfl rfl ?_
      refine gs_0 (pc' := 183) (L' := [some (.ref l0), some (.int l1), some (.int l2), some (.int l3), some (.int x_24), some (.int x_25)]) (st' := [.ref l0, .ref l0]) cd_88_182 rfl rfl ?_
      obtain ⟨ht, h⟩ := gO_s h
      obtain ⟨x_29, w_26, I_27, J_28, hcl, h⟩ := cI_s h
      refine gs_call (as := [.ref l0]) (rest := [.ref l0]) cd_88_183 rfl (by decide) rfl (sm_rv_ok (by decide) ht) (Nat.le_of_ble_eq_true rfl) (Nat.le_of_ble_eq_true rfl) rfl hcl ?_
      refine gs_0 (pc' := 188) (L' := [some (.ref l0), some (.int l1), some (.int l2), some (.int l3), some (.int x_24), some (.int x_25)]) (st' := [.int x_24, .int x_29, .ref l0]) cd_88_186 rfl rfl ?_
      refine gs_0 (pc' := 190) (L' := [some (.ref l0), some (.int l1), some (.int l2), some (.int l3), some (.int x_24), some (.int x_25)]) (st' := [.int x_25, .int x_24, .int x_29, .ref l0]) cd_88_188 rfl rfl ?_
      obtain ⟨ht, h⟩ := gO_s h
      obtain ⟨w_30, I_31, J_32, hcl, h⟩ := cV_s h
      refine gs_call (as := [.ref l0, .int x_29, .int x_24, .int x_25]) (rest := []) cd_88_190 rfl (by decide) rfl (sm_rv_ok (by decide) ht) (Nat.le_of_ble_eq_true rfl) (Nat.le_of_ble_eq_true rfl) rfl hcl ?_
      refine gs_0 (pc' := 194) (L' := [some (.ref l0), some (.int l1), some (.int l2), some (.int l3), some (.int x_24), some (.int x_25)]) (st' := [.ref l0]) cd_88_193 rfl rfl ?_
      obtain ⟨ht, h⟩ := gO_s h
      obtain ⟨q_33, hv, h⟩ := gV_s h
      refine gs_gfR cd_88_194 (by decide) ht hv ?_
      refine gs_0 (pc' := 198) (L' := [some (.ref l0), some (.int l1), some (.int l2), some (.int l3), some (.int x_24), some (.int x_25)]) (st' := [.ref l0, .ref q_33]) cd_88_197 rfl rfl ?_
      obtain ⟨ht, h⟩ := gO_s h
      refine gs_gfI cd_88_198 (by decide) (by decide) ht ?_
      refine gs_0 (pc' := 202) (L' := [some (.ref l0), some (.int l1), some (.int l2), some (.int l3), some (.int x_24), some (.int x_25)]) (st' := [.int (I_31 l0 30), .ref q_33, .int (I_31 l0 30), .ref q_33]) cd_88_201 rfl rfl ?_
      obtain ⟨ht, h⟩ := gA_s h
      refine gs_iald cd_88_202 ht ?_
      refine gs_0 (pc' := 204) (L' := [some (.ref l0), some (.int l1), some (.int l2), some (.int l3), some (.int x_24), some (.int x_25)]) (st' := [.int 1, .int (I_31 q_33 (I_31 l0 30 : Int32).toNatClampNeg), .int (I_31 l0 30), .ref q_33]) cd_88_203 rfl rfl ?_
      refine gs_0 (pc' := 205) (L' := [some (.ref l0), some (.int l1), some (.int l2), some (.int l3), some (.int x_24), some (.int x_25)]) (st' := [.int ((I_31 q_33 (I_31 l0 30 : Int32).toNatClampNeg) + 1), .int (I_31 l0 30), .ref q_33]) cd_88_204 rfl rfl ?_
      obtain ⟨ht, h⟩ := gA_s h
      refine gs_iast cd_88_205 ht ?_
      obtain ⟨I_34, hx, h⟩ := lt_s_ h
      rw [hx]
      refine gs_0 (pc' := 207) (L' := [some (.ref l0), some (.int l1), some (.int l2), some (.int l3), some (.int x_24), some (.int x_25)]) (st' := [.ref l0]) cd_88_206 rfl rfl ?_
      refine gs_0 (pc' := 209) (L' := [some (.ref l0), some (.int l1), some (.int l2), some (.int l3), some (.int x_24), some (.int x_25)]) (st' := [.int 44, .ref l0]) cd_88_207 rfl rfl ?_
      obtain ⟨ht, h⟩ := gO_s h
      obtain ⟨x_38, w_35, I_36, J_37, hcl, h⟩ := cI_s h
      refine gs_call (as := [.ref l0, .int 44]) (rest := []) cd_88_209 rfl (by decide) rfl (sm_rv_ok (by decide) ht) (Nat.le_of_ble_eq_true rfl) (Nat.le_of_ble_eq_true rfl) rfl hcl ?_
      refine gs_0 (pc' := 213) (L' := [some (.ref l0), some (.int l1), some (.int l2), some (.int x_38), some (.int x_24), some (.int x_25)]) (st' := []) cd_88_212 rfl rfl ?_
      refine gs_0 (pc' := 214) (L' := [some (.ref l0), some (.int l1), some (.int l2), some (.int x_38), some (.int x_24), some (.int x_25)]) (st' := [.int x_38]) cd_88_213 rfl rfl ?_
      refine gs_0 (pc' := if x_38 = 0 then 221 else 217) (L' := [some (.ref l0), some (.int l1), some (.int l2), some (.int x_38), some (.int x_24), some (.int x_25)]) (st' := []) cd_88_214 rfl rfl ?_
      refine go_ite (fun hc => ?_) (fun hc => ?_)
      · rw [if_pos hc] at h
        exact ok_88_221 hr165 h
      · rw [if_neg hc] at h
        refine gs_0 (pc' := 218) (L' := [some (.ref l0), some (.int l1), some (.int l2), some (.int x_38), some (.int x_24), some (.int x_25)]) (st' := [.ref l0]) cd_88_217 rfl rfl ?_
        obtain ⟨ht, h⟩ := gO_s h
        obtain ⟨w_39, I_40, J_41, hcl, h⟩ := cV_s h
        refine gs_call (as := [.ref l0]) (rest := []) cd_88_218 rfl (by decide) rfl (sm_rv_ok (by decide) ht) (Nat.le_of_ble_eq_true rfl) (Nat.le_of_ble_eq_true rfl) rfl hcl ?_
        exact ok_88_221 hr165 h
noncomputable def f_88_164 (K : Nat → Value) (k d : Nat) (l0 : Nat) (l1 : Int32) (l2 : Int32) (l3 : Int32) (s0 : Int32) (w : aW) (I : aI) (J : aJ) : Option aR :=
  f_88_165 K k d l0 l1 l2 s0 w I J
theorem ok_88_164 {K : Nat → Value} {k d : Nat} {l0 : Nat} {l1 : Int32} {l2 : Int32} {l3 : Int32} {s0 : Int32} {w : aW} {I : aI} {J : aJ} {R : aR} (h : f_88_164 K k d l0 l1 l2 l3 s0 w I J = some R) : Go K (d + 1) 88 164 [some (.ref l0), some (.int l1), some (.int l2), some (.int l3), none, none] [.int s0] w I J R := by
  unfold f_88_164 at h
  refine gs_0 (pc' := 165) (L' := [some (.ref l0), some (.int l1), some (.int l2), some (.int s0), none, none]) (st' := []) cd_88_164 rfl rfl ?_
  exact ok_88_165 h
noncomputable def f_88_85 (K : Nat → Value) (k d : Nat) (r58 : Nat → Int32 → Int32 → Int32 → aW → aI → aJ → Option aR) (l0 : Nat) (l1 : Int32) (l2 : Int32) (l3 : Int32) (s0 : Int32) (w : aW) (I : aI) (J : aJ) : Option aR :=
  lt_ (l3 + 1) fun x_1 =>
  r58 l0 l1 s0 x_1 w I J
theorem ok_88_85 {K : Nat → Value} {k d : Nat} {r58 : Nat → Int32 → Int32 → Int32 → aW → aI → aJ → Option aR} (hr58 : ∀ (l0 : Nat) (l1 : Int32) (l2 : Int32) (l3 : Int32) (w : aW) (I : aI) (J : aJ) (R : aR), r58 l0 l1 l2 l3 w I J = some R → Go K (d + 1) 88 58 [some (.ref l0), some (.int l1), some (.int l2), some (.int l3), none, none] [] w I J R) {l0 : Nat} {l1 : Int32} {l2 : Int32} {l3 : Int32} {s0 : Int32} {w : aW} {I : aI} {J : aJ} {R : aR} (h : f_88_85 K k d r58 l0 l1 l2 l3 s0 w I J = some R) : Go K (d + 1) 88 85 [some (.ref l0), some (.int l1), some (.int l2), some (.int l3), none, none] [.int s0] w I J R := by
  unfold f_88_85 at h
  refine gs_0 (pc' := 86) (L' := [some (.ref l0), some (.int l1), some (.int s0), some (.int l3), none, none]) (st' := []) cd_88_85 rfl rfl ?_
  refine gs_0 (pc' := 89) (L' := [some (.ref l0), some (.int l1), some (.int s0), some (.int (l3 + 1)), none, none]) (st' := []) cd_88_86 rfl rfl ?_
  obtain ⟨x_1, hx, h⟩ := lt_s_ h
  rw [hx]
  clear hx
  refine gs_0 (pc' := 58) (L' := [some (.ref l0), some (.int l1), some (.int s0), some (.int x_1), none, none]) (st' := []) cd_88_89 rfl rfl ?_
  exact hr58 l0 l1 s0 x_1 _ _ _ _ h
noncomputable def f_88_84 (K : Nat → Value) (k d : Nat) (r58 : Nat → Int32 → Int32 → Int32 → aW → aI → aJ → Option aR) (l0 : Nat) (l1 : Int32) (l2 : Int32) (l3 : Int32) (w : aW) (I : aI) (J : aJ) : Option aR :=
  f_88_85 K k d r58 l0 l1 l2 l3 0 w I J
theorem ok_88_84 {K : Nat → Value} {k d : Nat} {r58 : Nat → Int32 → Int32 → Int32 → aW → aI → aJ → Option aR} (hr58 : ∀ (l0 : Nat) (l1 : Int32) (l2 : Int32) (l3 : Int32) (w : aW) (I : aI) (J : aJ) (R : aR), r58 l0 l1 l2 l3 w I J = some R → Go K (d + 1) 88 58 [some (.ref l0), some (.int l1), some (.int l2), some (.int l3), none, none] [] w I J R) {l0 : Nat} {l1 : Int32} {l2 : Int32} {l3 : Int32} {w : aW} {I : aI} {J : aJ} {R : aR} (h : f_88_84 K k d r58 l0 l1 l2 l3 w I J = some R) : Go K (d + 1) 88 84 [some (.ref l0), some (.int l1), some (.int l2), some (.int l3), none, none] [] w I J R := by
  unfold f_88_84 at h
  refine gs_0 (pc' := 85) (L' := [some (.ref l0), some (.int l1), some (.int l2), some (.int l3), none, none]) (st' := [.int 0]) cd_88_84 rfl rfl ?_
  exact ok_88_85 hr58 h
noncomputable def f_88_58 (K : Nat → Value) (k : Nat) (d : Nat) : Nat → Int32 → Int32 → Int32 → aW → aI → aJ → Option aR :=
  match k with
  | 0 => fun _ _ _ _ _ _ _ => none
  | k + 1 => fun l0 l1 l2 l3 w I J =>
  lt_ (f_88_58 K k d) fun r58 =>
  gO w 6 l0 (
  if (I l0 30) ≤ l3 then
    gO w 6 l0 (
    gO w 6 l0 (
    cV (Cl K d 92 [.ref l0, .int l2, .int (I l0 31)] w I J) fun w_1 I_2 J_3 =>
    gO w_1 6 l0 (
    gV w_1 l0 6 fun q_4 =>
    gO w_1 6 l0 (
    gA w_1 10 10 q_4 (I_2 l0 30) (
    lt_ (sm_up2 I_2 q_4 (I_2 l0 30 : Int32).toNatClampNeg l1) fun I_5 =>
    gO w_1 6 l0 (
    gV w_1 l0 7 fun q_6 =>
    gO w_1 6 l0 (
    gO w_1 6 l0 (
    gA w_1 10 10 q_6 (I_5 l0 30) (
    lt_ (sm_up2 I_5 q_6 (I_5 l0 30 : Int32).toNatClampNeg (I_5 l0 13)) fun I_7 =>
    gO w_1 6 l0 (
    gV w_1 l0 9 fun q_8 =>
    gO w_1 6 l0 (
    gA w_1 10 10 q_8 (I_7 l0 30) (
    lt_ (sm_up2 I_7 q_8 (I_7 l0 30 : Int32).toNatClampNeg 0) fun I_9 =>
    gO w_1 6 l0 (
    gV w_1 l0 8 fun q_10 =>
    gO w_1 6 l0 (
    gA w_1 10 10 q_10 (I_9 l0 30) (
    lt_ (sm_up2 I_9 q_10 (I_9 l0 30 : Int32).toNatClampNeg 0) fun I_11 =>
    gO w_1 6 l0 (
    cV (Cl K d 93 [.ref l0, .int 40] w_1 I_11 J_3) fun w_12 I_13 J_14 =>
    gO w_12 6 l0 (
    cI (Cl K d 94 [.ref l0, .int 41] w_12 I_13 J_14) fun x_18 w_15 I_16 J_17 =>
    if ¬ x_18 = 0 then
      f_88_164 K k d l0 l1 l2 l3 0 w_15 I_16 J_17
    else
      f_88_164 K k d l0 l1 l2 l3 1 w_15 I_16 J_17)))))))))))))))))
  else
    if l2 = 0 then
      f_88_84 K k d r58 l0 l1 l2 l3 w I J
    else
      gO w 6 l0 (
      gV w l0 6 fun q_19 =>
      gA w 10 20 q_19 l3 (
      if (I q_19 (l3 : Int32).toNatClampNeg) = l1 then
        f_88_84 K k d r58 l0 l1 l2 l3 w I J
      else
        f_88_85 K k d r58 l0 l1 l2 l3 1 w I J)))
theorem ok_88_58 {K : Nat → Value} {d : Nat} : ∀ {k : Nat} {l0 : Nat} {l1 : Int32} {l2 : Int32} {l3 : Int32} {w : aW} {I : aI} {J : aJ} {R : aR}, f_88_58 K k d l0 l1 l2 l3 w I J = some R → Go K (d + 1) 88 58 [some (.ref l0), some (.int l1), some (.int l2), some (.int l3), none, none] [] w I J R := by
  intro k
  induction k with
  | zero => intro l0 l1 l2 l3 w I J R h; cases h
  | succ k ih =>
    intro l0 l1 l2 l3 w I J R h
    have hr58 : ∀ (l0 : Nat) (l1 : Int32) (l2 : Int32) (l3 : Int32) (w : aW) (I : aI) (J : aJ) (R : aR), f_88_58 K k d l0 l1 l2 l3 w I J = some R → Go K (d + 1) 88 58 [some (.ref l0), some (.int l1), some (.int l2), some (.int l3), none, none] [] w I J R := fun l0 l1 l2 l3 w I J R h => ih h
    rw [f_88_58] at h
    obtain ⟨r58, hx, h⟩ := lt_s_ h
    rw [hx] at hr58
    clear hx ih
    refine gs_0 (pc' := 59) (L' := [some (.ref l0), some (.int l1), some (.int l2), some (.int l3), none, none]) (st' := [.int l3]) cd_88_58 rfl rfl ?_
    refine gs_0 (pc' := 60) (L' := [some (.ref l0), some (.int l1), some (.int l2), some (.int l3), none, none]) (st' := [.ref l0, .int l3]) cd_88_59 rfl rfl ?_
    obtain ⟨ht, h⟩ := gO_s h
    refine gs_gfI cd_88_60 (by decide) (by decide) ht ?_
    refine gs_0 (pc' := if (I l0 30) ≤ l3 then 92 else 66) (L' := [some (.ref l0), some (.int l1), some (.int l2), some (.int l3), none, none]) (st' := []) cd_88_63 rfl rfl ?_
    refine go_ite (fun hc => ?_) (fun hc => ?_)
    · rw [if_pos hc] at h
      refine gs_0 (pc' := 93) (L' := [some (.ref l0), some (.int l1), some (.int l2), some (.int l3), none, none]) (st' := [.ref l0]) cd_88_92 rfl rfl ?_
      refine gs_0 (pc' := 94) (L' := [some (.ref l0), some (.int l1), some (.int l2), some (.int l3), none, none]) (st' := [.int l2, .ref l0]) cd_88_93 rfl rfl ?_
      refine gs_0 (pc' := 95) (L' := [some (.ref l0), some (.int l1), some (.int l2), some (.int l3), none, none]) (st' := [.ref l0, .int l2, .ref l0]) cd_88_94 rfl rfl ?_
      obtain ⟨ht, h⟩ := gO_s h
      refine gs_gfI cd_88_95 (by decide) (by decide) ht ?_
      obtain ⟨ht, h⟩ := gO_s h
      obtain ⟨w_1, I_2, J_3, hcl, h⟩ := cV_s h
      refine gs_call (as := [.ref l0, .int l2, .int (I l0 31)]) (rest := []) cd_88_98 rfl (by decide) rfl (sm_rv_ok (by decide) ht) (Nat.le_of_ble_eq_true rfl) (Nat.le_of_ble_eq_true rfl) rfl hcl ?_
      refine gs_0 (pc' := 102) (L' := [some (.ref l0), some (.int l1), some (.int l2), some (.int l3), none, none]) (st' := [.ref l0]) cd_88_101 rfl rfl ?_
      obtain ⟨ht, h⟩ := gO_s h
      obtain ⟨q_4, hv, h⟩ := gV_s h
      refine gs_gfR cd_88_102 (by decide) ht hv ?_
      refine gs_0 (pc' := 106) (L' := [some (.ref l0), some (.int l1), some (.int l2), some (.int l3), none, none]) (st' := [.ref l0, .ref q_4]) cd_88_105 rfl rfl ?_
      obtain ⟨ht, h⟩ := gO_s h
      refine gs_gfI cd_88_106 (by decide) (by decide) ht ?_
      refine gs_0 (pc' := 110) (L' := [some (.ref l0), some (.int l1), some (.int l2), some (.int l3), none, none]) (st' := [.int l1, .int (I_2 l0 30), .ref q_4]) cd_88_109 rfl rfl ?_
      obtain ⟨ht, h⟩ := gA_s h
      refine gs_iast cd_88_110 ht ?_
      obtain ⟨I_5, hx, h⟩ := lt_s_ h
      rw [hx]
      refine gs_0 (pc' := 112) (L' := [some (.ref l0), some (.int l1), some (.int l2), some (.int l3), none, none]) (st' := [.ref l0]) cd_88_111 rfl rfl ?_
      obtain ⟨ht, h⟩ := gO_s h
      obtain ⟨q_6, hv, h⟩ := gV_s h
      refine gs_gfR cd_88_112 (by decide) ht hv ?_
      refine gs_0 (pc' := 116) (L' := [some (.ref l0), some (.int l1), some (.int l2), some (.int l3), none, none]) (st' := [.ref l0, .ref q_6]) cd_88_115 rfl rfl ?_
      obtain ⟨ht, h⟩ := gO_s h
      refine gs_gfI cd_88_116 (by decide) (by decide) ht ?_
      refine gs_0 (pc' := 120) (L' := [some (.ref l0), some (.int l1), some (.int l2), some (.int l3), none, none]) (st' := [.ref l0, .int (I_5 l0 30), .ref q_6]) cd_88_119 rfl rfl ?_
      obtain ⟨ht, h⟩ := gO_s h
      refine gs_gfI cd_88_120 (by decide) (by decide) ht ?_
      obtain ⟨ht, h⟩ := gA_s h
      refine gs_iast cd_88_123 ht ?_
      obtain ⟨I_7, hx, h⟩ := lt_s_ h
      rw [hx]
      refine gs_0 (pc' := 125) (L' := [some (.ref l0), some (.int l1), some (.int l2), some (.int l3), none, none]) (st' := [.ref l0]) cd_88_124 rfl rfl ?_
      obtain ⟨ht, h⟩ := gO_s h
      obtain ⟨q_8, hv, h⟩ := gV_s h
      refine gs_gfR cd_88_125 (by decide) ht hv ?_
      refine gs_0 (pc' := 129) (L' := [some (.ref l0), some (.int l1), some (.int l2), some (.int l3), none, none]) (st' := [.ref l0, .ref q_8]) cd_88_128 rfl rfl ?_
      obtain ⟨ht, h⟩ := gO_s h
      refine gs_gfI cd_88_129 (by decide) (by decide) ht ?_
      refine gs_0 (pc' := 133) (L' := [some (.ref l0), some (.int l1), some (.int l2), some (.int l3), none, none]) (st' := [.int 0, .int (I_7 l0 30), .ref q_8]) cd_88_132 rfl rfl ?_
      obtain ⟨ht, h⟩ := gA_s h
      refine gs_iast cd_88_133 ht ?_
      obtain ⟨I_9, hx, h⟩ := lt_s_ h
      rw [hx]
      refine gs_0 (pc' := 135) (L' := [some (.ref l0), some (.int l1), some (.int l2), some (.int l3), none, none]) (st' := [.ref l0]) cd_88_134 rfl rfl ?_
      obtain ⟨ht, h⟩ := gO_s h
      obtain ⟨q_10, hv, h⟩ := gV_s h
      refine gs_gfR cd_88_135 (by decide) ht hv ?_
      refine gs_0 (pc' := 139) (L' := [some (.ref l0), some (.int l1), some (.int l2), some (.int l3), none, none]) (st' := [.ref l0, .ref q_10]) cd_88_138 rfl rfl ?_
      obtain ⟨ht, h⟩ := gO_s h
      refine gs_gfI cd_88_139 (by decide) (by decide) ht ?_
      refine gs_0 (pc' := 143) (L' := [some (.ref l0), some (.int l1), some (.int l2), some (.int l3), none, none]) (st' := [.int 0, .int (I_9 l0 30), .ref q_10]) cd_88_142 rfl rfl ?_
      obtain ⟨ht, h⟩ := gA_s h
      refine gs_iast cd_88_143 ht ?_
      obtain ⟨I_11, hx, h⟩ := lt_s_ h
      rw [hx]
      refine gs_0 (pc' := 145) (L' := [some (.ref l0), some (.int l1), some (.int l2), some (.int l3), none, none]) (st' := [.ref l0]) cd_88_144 rfl rfl ?_
      refine gs_0 (pc' := 147) (L' := [some (.ref l0), some (.int l1), some (.int l2), some (.int l3), none, none]) (st' := [.int 40, .ref l0]) cd_88_145 rfl rfl ?_
      obtain ⟨ht, h⟩ := gO_s h
      obtain ⟨w_12, I_13, J_14, hcl, h⟩ := cV_s h
      refine gs_call (as := [.ref l0, .int 40]) (rest := []) cd_88_147 rfl (by decide) rfl (sm_rv_ok (by decide) ht) (Nat.le_of_ble_eq_true rfl) (Nat.le_of_ble_eq_true rfl) rfl hcl ?_
      refine gs_0 (pc' := 151) (L' := [some (.ref l0), some (.int l1), some (.int l2), some (.int l3), none, none]) (st' := [.ref l0]) cd_88_150 rfl rfl ?_
      refine gs_0 (pc' := 153) (L' := [some (.ref l0), some (.int l1), some (.int l2), some (.int l3), none, none]) (st' := [.int 41, .ref l0]) cd_88_151 rfl rfl ?_
      obtain ⟨ht, h⟩ := gO_s h
      obtain ⟨x_18, w_15, I_16, J_17, hcl, h⟩ := cI_s h
      refine gs_call (as := [.ref l0, .int 41]) (rest := []) cd_88_153 rfl (by decide) rfl (sm_rv_ok (by decide) ht) (Nat.le_of_ble_eq_true rfl) (Nat.le_of_ble_eq_true rfl) rfl hcl ?_
      refine gs_0 (pc' := if ¬ x_18 = 0 then 163 else 159) (L' := [some (.ref l0), some (.int l1), some (.int l2), some (.int l3), none, none]) (st' := []) cd_88_156 rfl rfl ?_
      refine go_ite (fun hc => ?_) (fun hc => ?_)
      · rw [if_pos hc] at h
        refine gs_0 (pc' := 164) (L' := [some (.ref l0), some (.int l1), some (.int l2), some (.int l3), none, none]) (st' := [.int 0]) cd_88_163 rfl rfl ?_
        exact ok_88_164 h
      · rw [if_neg hc] at h
        refine gs_0 (pc' := 160) (L' := [some (.ref l0), some (.int l1), some (.int l2), some (.int l3), none, none]) (st' := [.int 1]) cd_88_159 rfl rfl ?_
        refine gs_0 (pc' := 164) (L' := [some (.ref l0), some (.int l1), some (.int l2), some (.int l3), none, none]) (st' := [.int 1]) cd_88_160 rfl rfl ?_
        exact ok_88_164 h
    · rw [if_neg hc] at h
      refine gs_0 (pc' := 67) (L' := [some (.ref l0), some (.int l1), some (.int l2), some (.int l3), none, none]) (st' := [.int l2]) cd_88_66 rfl rfl ?_
      refine gs_0 (pc' := if l2 = 0 then 84 else 70) (L' := [some (.ref l0), some (.int l1), some (.int l2), some (.int l3), none, none]) (st' := []) cd_88_67 rfl rfl ?_
      refine go_ite (fun hc => ?_) (fun hc => ?_)
      · rw [if_pos hc] at h
        exact ok_88_84 hr58 h
      · rw [if_neg hc] at h
        refine gs_0 (pc' := 71) (L' := [some (.ref l0), some (.int l1), some (.int l2), some (.int l3), none, none]) (st' := [.ref l0]) cd_88_70 rfl rfl ?_
        obtain ⟨ht, h⟩ := gO_s h
        obtain ⟨q_19, hv, h⟩ := gV_s h
        refine gs_gfR cd_88_71 (by decide) ht hv ?_
        refine gs_0 (pc' := 75) (L' := [some (.ref l0), some (.int l1), some (.int l2), some (.int l3), none, none]) (st' := [.int l3, .ref q_19]) cd_88_74 rfl rfl ?_
        obtain ⟨ht, h⟩ := gA_s h
        refine gs_iald cd_88_75 ht ?_
        refine gs_0 (pc' := 77) (L' := [some (.ref l0), some (.int l1), some (.int l2), some (.int l3), none, none]) (st' := [.int l1, .int (I q_19 (l3 : Int32).toNatClampNeg)]) cd_88_76 rfl rfl ?_
        refine gs_0 (pc' := if (I q_19 (l3 : Int32).toNatClampNeg) = l1 then 84 else 80) (L' := [some (.ref l0), some (.int l1), some (.int l2), some (.int l3), none, none]) (st' := []) cd_88_77 rfl rfl ?_
        refine go_ite (fun hc => ?_) (fun hc => ?_)
        · rw [if_pos hc] at h
          exact ok_88_84 hr58 h
        · rw [if_neg hc] at h
          refine gs_0 (pc' := 81) (L' := [some (.ref l0), some (.int l1), some (.int l2), some (.int l3), none, none]) (st' := [.int 1]) cd_88_80 rfl rfl ?_
          refine gs_0 (pc' := 85) (L' := [some (.ref l0), some (.int l1), some (.int l2), some (.int l3), none, none]) (st' := [.int 1]) cd_88_81 rfl rfl ?_
          exact ok_88_85 hr58 h
noncomputable def f_88_22 (K : Nat → Value) (k d : Nat) (l0 : Nat) (s0 : Nat) (s1 : Int32) (w : aW) (I : aI) (J : aJ) : Option aR :=
  gO w 6 s0 (
  cV (Cl K d 90 [.ref s0, .int s1] w I J) fun w_1 I_2 J_3 =>
  gO w_1 6 l0 (
  if (I_2 l0 26) = 0 then
    gO w_1 6 l0 (
    gO w_1 6 l0 (
    lt_ (sm_up2 I_2 l0 30 (I_2 l0 5)) fun I_4 =>
    gO w_1 6 l0 (
    gO w_1 6 l0 (
    lt_ (sm_up2 I_4 l0 31 (I_4 l0 22)) fun I_5 =>
    gO w_1 6 l0 (
    cI (Cl K d 91 [.ref l0] w_1 I_5 J_3) fun x_9 w_6 I_7 J_8 =>
    f_88_58 K k d l0 x_9 1 0 w_6 I_7 J_8)))))
  else
    some (none, w_1, I_2, J_3)))
theorem ok_88_22 {K : Nat → Value} {k d : Nat} {l0 : Nat} {s0 : Nat} {s1 : Int32} {w : aW} {I : aI} {J : aJ} {R : aR} (h : f_88_22 K k d l0 s0 s1 w I J = some R) : Go K (d + 1) 88 22 [some (.ref l0), none, none, none, none, none] [.int s1, .ref s0] w I J R := by
  unfold f_88_22 at h
  obtain ⟨ht, h⟩ := gO_s h
  obtain ⟨w_1, I_2, J_3, hcl, h⟩ := cV_s h
  refine gs_call (as := [.ref s0, .int s1]) (rest := []) cd_88_22 rfl (by decide) rfl (sm_rv_ok (by decide) ht) (Nat.le_of_ble_eq_true rfl) (Nat.le_of_ble_eq_true rfl) rfl hcl ?_
  refine gs_0 (pc' := 26) (L' := [some (.ref l0), none, none, none, none, none]) (st' := [.ref l0]) cd_88_25 rfl rfl ?_
  obtain ⟨ht, h⟩ := gO_s h
  refine gs_gfI cd_88_26 (by decide) (by decide) ht ?_
  refine gs_0 (pc' := if (I_2 l0 26) = 0 then 33 else 32) (L' := [some (.ref l0), none, none, none, none, none]) (st' := []) cd_88_29 rfl rfl ?_
  refine go_ite (fun hc => ?_) (fun hc => ?_)
  · rw [if_pos hc] at h
    refine gs_0 (pc' := 34) (L' := [some (.ref l0), none, none, none, none, none]) (st' := [.ref l0]) cd_88_33 rfl rfl ?_
    refine gs_0 (pc' := 35) (L' := [some (.ref l0), none, none, none, none, none]) (st' := [.ref l0, .ref l0]) cd_88_34 rfl rfl ?_
    obtain ⟨ht, h⟩ := gO_s h
    refine gs_gfI cd_88_35 (by decide) (by decide) ht ?_
    obtain ⟨ht, h⟩ := gO_s h
    refine gs_pfI cd_88_38 (by decide) (Or.inl rfl) ht ?_
    obtain ⟨I_4, hx, h⟩ := lt_s_ h
    rw [hx]
    refine gs_0 (pc' := 42) (L' := [some (.ref l0), none, none, none, none, none]) (st' := [.ref l0]) cd_88_41 rfl rfl ?_
    refine gs_0 (pc' := 43) (L' := [some (.ref l0), none, none, none, none, none]) (st' := [.ref l0, .ref l0]) cd_88_42 rfl rfl ?_
    obtain ⟨ht, h⟩ := gO_s h
    refine gs_gfI cd_88_43 (by decide) (by decide) ht ?_
    obtain ⟨ht, h⟩ := gO_s h
    refine gs_pfI cd_88_46 (by decide) (Or.inl rfl) ht ?_
    obtain ⟨I_5, hx, h⟩ := lt_s_ h
    rw [hx]
    refine gs_0 (pc' := 50) (L' := [some (.ref l0), none, none, none, none, none]) (st' := [.ref l0]) cd_88_49 rfl rfl ?_
    obtain ⟨ht, h⟩ := gO_s h
    obtain ⟨x_9, w_6, I_7, J_8, hcl, h⟩ := cI_s h
    refine gs_call (as := [.ref l0]) (rest := []) cd_88_50 rfl (by decide) rfl (sm_rv_ok (by decide) ht) (Nat.le_of_ble_eq_true rfl) (Nat.le_of_ble_eq_true rfl) rfl hcl ?_
    refine gs_0 (pc' := 54) (L' := [some (.ref l0), some (.int x_9), none, none, none, none]) (st' := []) cd_88_53 rfl rfl ?_
    refine gs_0 (pc' := 55) (L' := [some (.ref l0), some (.int x_9), none, none, none, none]) (st' := [.int 1]) cd_88_54 rfl rfl ?_
    refine gs_0 (pc' := 56) (L' := [some (.ref l0), some (.int x_9), some (.int 1), none, none, none]) (st' := []) cd_88_55 rfl rfl ?_
    refine gs_0 (pc' := 57) (L' := [some (.ref l0), some (.int x_9), some (.int 1), none, none, none]) (st' := [.int 0]) cd_88_56 rfl rfl ?_
    refine gs_0 (pc' := 58) (L' := [some (.ref l0), some (.int x_9), some (.int 1), some (.int 0), none, none]) (st' := []) cd_88_57 rfl rfl ?_
    exact ok_88_58 h
  · rw [if_neg hc] at h
    cases h
    exact gsr cd_88_32 rfl rfl
noncomputable def f_88_21 (K : Nat → Value) (k d : Nat) (l0 : Nat) (s0 : Nat) (w : aW) (I : aI) (J : aJ) : Option aR :=
  f_88_22 K k d l0 s0 0 w I J
theorem ok_88_21 {K : Nat → Value} {k d : Nat} {l0 : Nat} {s0 : Nat} {w : aW} {I : aI} {J : aJ} {R : aR} (h : f_88_21 K k d l0 s0 w I J = some R) : Go K (d + 1) 88 21 [some (.ref l0), none, none, none, none, none] [.ref s0] w I J R := by
  unfold f_88_21 at h
  refine gs_0 (pc' := 22) (L' := [some (.ref l0), none, none, none, none, none]) (st' := [.int 0, .ref s0]) cd_88_21 rfl rfl ?_
  exact ok_88_22 h
noncomputable def f_88 (K : Nat → Value) (k d : Nat) (l0 : Nat) (w : aW) (I : aI) (J : aJ) : Option aR :=
  gO w 6 l0 (
  cI (Cl K d 89 [.ref l0, .int 4] w I J) fun x_4 w_1 I_2 J_3 =>
  if x_4 = 0 then
    f_88_21 K k d l0 l0 w_1 I_2 J_3
  else
    gO w_1 6 l0 (
    if 5 ≤ (I_2 l0 5) then
      f_88_21 K k d l0 l0 w_1 I_2 J_3
    else
      f_88_22 K k d l0 l0 1 w_1 I_2 J_3))
theorem ok_88 {K : Nat → Value} {k d : Nat} {l0 : Nat} {w : aW} {I : aI} {J : aJ} {R : aR} (h : f_88 K k d l0 w I J = some R) : Go K (d + 1) 88 0 [some (.ref l0), none, none, none, none, none] [] w I J R := by
  unfold f_88 at h
  refine gs_0 (pc' := 1) (L' := [some (.ref l0), none, none, none, none, none]) (st' := [.ref l0]) cd_88_0 rfl rfl ?_
  refine gs_0 (pc' := 2) (L' := [some (.ref l0), none, none, none, none, none]) (st' := [.ref l0, .ref l0]) cd_88_1 rfl rfl ?_
  refine gs_0 (pc' := 3) (L' := [some (.ref l0), none, none, none, none, none]) (st' := [.int 4, .ref l0, .ref l0]) cd_88_2 rfl rfl ?_
  obtain ⟨ht, h⟩ := gO_s h
  obtain ⟨x_4, w_1, I_2, J_3, hcl, h⟩ := cI_s h
  refine gs_call (as := [.ref l0, .int 4]) (rest := [.ref l0]) cd_88_3 rfl (by decide) rfl (sm_rv_ok (by decide) ht) (Nat.le_of_ble_eq_true rfl) (Nat.le_of_ble_eq_true rfl) rfl hcl ?_
  refine gs_0 (pc' := if x_4 = 0 then 21 else 9) (L' := [some (.ref l0), none, none, none, none, none]) (st' := [.ref l0]) cd_88_6 rfl rfl ?_
  refine go_ite (fun hc => ?_) (fun hc => ?_)
  · rw [if_pos hc] at h
    exact ok_88_21 h
  · rw [if_neg hc] at h
    refine gs_0 (pc' := 10) (L' := [some (.ref l0), none, none, none, none, none]) (st' := [.ref l0, .ref l0]) cd_88_9 rfl rfl ?_
    obtain ⟨ht, h⟩ := gO_s h
    refine gs_gfI cd_88_10 (by decide) (by decide) ht ?_
    refine gs_0 (pc' := 14) (L' := [some (.ref l0), none, none, none, none, none]) (st' := [.int 5, .int (I_2 l0 5), .ref l0]) cd_88_13 rfl rfl ?_
    refine gs_0 (pc' := if 5 ≤ (I_2 l0 5) then 21 else 17) (L' := [some (.ref l0), none, none, none, none, none]) (st' := [.ref l0]) cd_88_14 rfl rfl ?_
    refine go_ite (fun hc => ?_) (fun hc => ?_)
    · rw [if_pos hc] at h
      exact ok_88_21 h
    · rw [if_neg hc] at h
      refine gs_0 (pc' := 18) (L' := [some (.ref l0), none, none, none, none, none]) (st' := [.int 1, .ref l0]) cd_88_17 rfl rfl ?_
      refine gs_0 (pc' := 22) (L' := [some (.ref l0), none, none, none, none, none]) (st' := [.int 1, .ref l0]) cd_88_18 rfl rfl ?_
      exact ok_88_22 h
theorem cl_88 {K : Nat → Value} {k d : Nat} {l0 : Nat} {w : aW} {I : aI} {J : aJ} {R : aR} (h : f_88 K k d l0 w I J = some R) : Cl K (d + 1) 88 [.ref l0] w I J = some R := Cl_of (ok_88 h)
/-! ProvedMachineModel.isKey(I)Z -/
theorem gl_89 : gcd.lookup 89 = some gw_89 := rfl
theorem cd_89_0 : sm_cd 89 0 = some (.aload_n 0, 1, 0, 0, 0, 0, 0, 0, 0) := cd_of gl_89 rfl
theorem cd_89_1 : sm_cd 89 1 = some (.getfield 193, 3, 6, 26, 1, 0, 0, 0, 0) := cd_of gl_89 rfl
theorem cd_89_4 : sm_cd 89 4 = some (.ifCond .ne 23, 3, 27, 0, 0, 0, 0, 0, 0) := cd_of gl_89 rfl
theorem cd_89_7 : sm_cd 89 7 = some (.aload_n 0, 1, 0, 0, 0, 0, 0, 0, 0) := cd_of gl_89 rfl
theorem cd_89_8 : sm_cd 89 8 = some (.getfield 174, 3, 6, 24, 0, 0, 0, 0, 0) := cd_of gl_89 rfl
theorem cd_89_11 : sm_cd 89 11 = some (.iconst 2, 1, 0, 0, 0, 0, 0, 2, 0) := cd_of gl_89 rfl
theorem cd_89_12 : sm_cd 89 12 = some (.if_icmp .ne 15, 3, 27, 0, 0, 0, 0, 0, 0) := cd_of gl_89 rfl
theorem cd_89_15 : sm_cd 89 15 = some (.aload_n 0, 1, 0, 0, 0, 0, 0, 0, 0) := cd_of gl_89 rfl
theorem cd_89_16 : sm_cd 89 16 = some (.getfield 171, 3, 6, 25, 0, 0, 0, 0, 0) := cd_of gl_89 rfl
theorem cd_89_19 : sm_cd 89 19 = some (.iload_n 1, 1, 1, 0, 0, 0, 0, 0, 0) := cd_of gl_89 rfl
theorem cd_89_20 : sm_cd 89 20 = some (.if_icmp .ne 7, 3, 27, 0, 0, 0, 0, 0, 0) := cd_of gl_89 rfl
theorem cd_89_23 : sm_cd 89 23 = some (.iconst 1, 1, 0, 0, 0, 0, 0, 1, 0) := cd_of gl_89 rfl
theorem cd_89_24 : sm_cd 89 24 = some (.goto 4, 3, 28, 0, 0, 0, 0, 0, 0) := cd_of gl_89 rfl
theorem cd_89_27 : sm_cd 89 27 = some (.iconst 0, 1, 0, 0, 0, 0, 0, 0, 0) := cd_of gl_89 rfl
theorem cd_89_28 : sm_cd 89 28 = some (.ireturn, 1, 0, 0, 2, 0, 0, 0, 0) := cd_of gl_89 rfl
noncomputable def f_89 (K : Nat → Value) (k d : Nat) (l0 : Nat) (l1 : Int32) (w : aW) (I : aI) (J : aJ) : Option aR :=
  gO w 6 l0 (
  if ¬ (I l0 26) = 0 then
    some (some (.int 0), w, I, J)
  else
    gO w 6 l0 (
    if ¬ (I l0 24) = 2 then
      some (some (.int 0), w, I, J)
    else
      gO w 6 l0 (
      if ¬ (I l0 25) = l1 then
        some (some (.int 0), w, I, J)
      else
        some (some (.int 1), w, I, J))))
theorem ok_89 {K : Nat → Value} {k d : Nat} {l0 : Nat} {l1 : Int32} {w : aW} {I : aI} {J : aJ} {R : aR} (h : f_89 K k d l0 l1 w I J = some R) : Go K (d + 1) 89 0 [some (.ref l0), some (.int l1)] [] w I J R := by
  unfold f_89 at h
  refine gs_0 (pc' := 1) (L' := [some (.ref l0), some (.int l1)]) (st' := [.ref l0]) cd_89_0 rfl rfl ?_
  obtain ⟨ht, h⟩ := gO_s h
  refine gs_gfI cd_89_1 (by decide) (by decide) ht ?_
  refine gs_0 (pc' := if ¬ (I l0 26) = 0 then 27 else 7) (L' := [some (.ref l0), some (.int l1)]) (st' := []) cd_89_4 rfl rfl ?_
  refine go_ite (fun hc => ?_) (fun hc => ?_)
  · rw [if_pos hc] at h
    refine gs_0 (pc' := 28) (L' := [some (.ref l0), some (.int l1)]) (st' := [.int 0]) cd_89_27 rfl rfl ?_
    cases h
    exact gs_ri cd_89_28 (Or.inr (Or.inl ⟨rfl, Or.inl rfl⟩))
  · rw [if_neg hc] at h
    refine gs_0 (pc' := 8) (L' := [some (.ref l0), some (.int l1)]) (st' := [.ref l0]) cd_89_7 rfl rfl ?_
    obtain ⟨ht, h⟩ := gO_s h
    refine gs_gfI cd_89_8 (by decide) (by decide) ht ?_
    refine gs_0 (pc' := 12) (L' := [some (.ref l0), some (.int l1)]) (st' := [.int 2, .int (I l0 24)]) cd_89_11 rfl rfl ?_
    refine gs_0 (pc' := if ¬ (I l0 24) = 2 then 27 else 15) (L' := [some (.ref l0), some (.int l1)]) (st' := []) cd_89_12 rfl rfl ?_
    refine go_ite (fun hc => ?_) (fun hc => ?_)
    · rw [if_pos hc] at h
      refine gs_0 (pc' := 28) (L' := [some (.ref l0), some (.int l1)]) (st' := [.int 0]) cd_89_27 rfl rfl ?_
      cases h
      exact gs_ri cd_89_28 (Or.inr (Or.inl ⟨rfl, Or.inl rfl⟩))
    · rw [if_neg hc] at h
      refine gs_0 (pc' := 16) (L' := [some (.ref l0), some (.int l1)]) (st' := [.ref l0]) cd_89_15 rfl rfl ?_
      obtain ⟨ht, h⟩ := gO_s h
      refine gs_gfI cd_89_16 (by decide) (by decide) ht ?_
      refine gs_0 (pc' := 20) (L' := [some (.ref l0), some (.int l1)]) (st' := [.int l1, .int (I l0 25)]) cd_89_19 rfl rfl ?_
      refine gs_0 (pc' := if ¬ (I l0 25) = l1 then 27 else 23) (L' := [some (.ref l0), some (.int l1)]) (st' := []) cd_89_20 rfl rfl ?_
      refine go_ite (fun hc => ?_) (fun hc => ?_)
      · rw [if_pos hc] at h
        refine gs_0 (pc' := 28) (L' := [some (.ref l0), some (.int l1)]) (st' := [.int 0]) cd_89_27 rfl rfl ?_
        cases h
        exact gs_ri cd_89_28 (Or.inr (Or.inl ⟨rfl, Or.inl rfl⟩))
      · rw [if_neg hc] at h
        refine gs_0 (pc' := 24) (L' := [some (.ref l0), some (.int l1)]) (st' := [.int 1]) cd_89_23 rfl rfl ?_
        refine gs_0 (pc' := 28) (L' := [some (.ref l0), some (.int l1)]) (st' := [.int 1]) cd_89_24 rfl rfl ?_
        cases h
        exact gs_ri cd_89_28 (Or.inr (Or.inl ⟨rfl, Or.inr rfl⟩))
theorem cl_89 {K : Nat → Value} {k d : Nat} {l0 : Nat} {l1 : Int32} {w : aW} {I : aI} {J : aJ} {R : aR} (h : f_89 K k d l0 l1 w I J = some R) : Cl K (d + 1) 89 [.ref l0, .int l1] w I J = some R := Cl_of (ok_89 h)
/-! ProvedMachineModel.need(Z)V -/
theorem gl_90 : gcd.lookup 90 = some gw_90 := rfl
theorem cd_90_0 : sm_cd 90 0 = some (.aload_n 0, 1, 0, 0, 0, 0, 0, 0, 0) := cd_of gl_90 rfl
theorem cd_90_1 : sm_cd 90 1 = some (.aload_n 0, 1, 0, 0, 0, 0, 0, 0, 0) := cd_of gl_90 rfl
theorem cd_90_2 : sm_cd 90 2 = some (.getfield 193, 3, 6, 26, 1, 0, 0, 0, 0) := cd_of gl_90 rfl
theorem cd_90_5 : sm_cd 90 5 = some (.ifCond .ne 7, 3, 12, 0, 0, 0, 0, 0, 0) := cd_of gl_90 rfl
theorem cd_90_8 : sm_cd 90 8 = some (.iload_n 1, 1, 1, 0, 0, 0, 0, 0, 0) := cd_of gl_90 rfl
theorem cd_90_9 : sm_cd 90 9 = some (.ifCond .ne 7, 3, 16, 0, 0, 0, 0, 0, 0) := cd_of gl_90 rfl
theorem cd_90_12 : sm_cd 90 12 = some (.iconst 1, 1, 0, 0, 0, 0, 0, 1, 0) := cd_of gl_90 rfl
theorem cd_90_13 : sm_cd 90 13 = some (.goto 4, 3, 17, 0, 0, 0, 0, 0, 0) := cd_of gl_90 rfl
theorem cd_90_16 : sm_cd 90 16 = some (.iconst 0, 1, 0, 0, 0, 0, 0, 0, 0) := cd_of gl_90 rfl
theorem cd_90_17 : sm_cd 90 17 = some (.putfield 193, 3, 6, 26, 1, 0, 0, 0, 0) := cd_of gl_90 rfl
theorem cd_90_20 : sm_cd 90 20 = some (.aload_n 0, 1, 0, 0, 0, 0, 0, 0, 0) := cd_of gl_90 rfl
theorem cd_90_21 : sm_cd 90 21 = some (.getfield 193, 3, 6, 26, 1, 0, 0, 0, 0) := cd_of gl_90 rfl
theorem cd_90_24 : sm_cd 90 24 = some (.ifCond .ne 7, 3, 31, 0, 0, 0, 0, 0, 0) := cd_of gl_90 rfl
theorem cd_90_27 : sm_cd 90 27 = some (.aload_n 0, 1, 0, 0, 0, 0, 0, 0, 0) := cd_of gl_90 rfl
theorem cd_90_28 : sm_cd 90 28 = some (.invokevirtual 197, 3, 84, 0, 0, 1, 6, 0, 0) := cd_of gl_90 rfl
theorem cd_90_31 : sm_cd 90 31 = some (.return_, 1, 0, 0, 0, 0, 0, 0, 0) := cd_of gl_90 rfl
noncomputable def f_90_17 (K : Nat → Value) (k d : Nat) (l0 : Nat) (l1 : Int32) (s0 : Nat) (s1 : Int32) (w : aW) (I : aI) (J : aJ) : Option aR :=
  gO w 6 s0 (
  gC (s1 = 0 ∨ s1 = 1) (
  lt_ (sm_up2 I s0 26 s1) fun I_1 =>
  gO w 6 l0 (
  if ¬ (I_1 l0 26) = 0 then
    some (none, w, I_1, J)
  else
    gO w 6 l0 (
    cV (Cl K d 84 [.ref l0] w I_1 J) fun w_2 I_3 J_4 =>
    some (none, w_2, I_3, J_4)))))
theorem ok_90_17 {K : Nat → Value} {k d : Nat} {l0 : Nat} {l1 : Int32} {s0 : Nat} {s1 : Int32} {w : aW} {I : aI} {J : aJ} {R : aR} (h : f_90_17 K k d l0 l1 s0 s1 w I J = some R) : Go K (d + 1) 90 17 [some (.ref l0), some (.int l1)] [.int s1, .ref s0] w I J R := by
  unfold f_90_17 at h
  obtain ⟨ht, h⟩ := gO_s h
  obtain ⟨hz, h⟩ := gC_s h
  refine gs_pfI cd_90_17 (by decide) (Or.inr ⟨rfl, hz⟩) ht ?_
  obtain ⟨I_1, hx, h⟩ := lt_s_ h
  rw [hx]
  refine gs_0 (pc' := 21) (L' := [some (.ref l0), some (.int l1)]) (st' := [.ref l0]) cd_90_20 rfl rfl ?_
  obtain ⟨ht, h⟩ := gO_s h
  refine gs_gfI cd_90_21 (by decide) (by decide) ht ?_
  refine gs_0 (pc' := if ¬ (I_1 l0 26) = 0 then 31 else 27) (L' := [some (.ref l0), some (.int l1)]) (st' := []) cd_90_24 rfl rfl ?_
  refine go_ite (fun hc => ?_) (fun hc => ?_)
  · rw [if_pos hc] at h
    cases h
    exact gsr cd_90_31 rfl rfl
  · rw [if_neg hc] at h
    refine gs_0 (pc' := 28) (L' := [some (.ref l0), some (.int l1)]) (st' := [.ref l0]) cd_90_27 rfl rfl ?_
    obtain ⟨ht, h⟩ := gO_s h
    obtain ⟨w_2, I_3, J_4, hcl, h⟩ := cV_s h
    refine gs_call (as := [.ref l0]) (rest := []) cd_90_28 rfl (by decide) rfl (sm_rv_ok (by decide) ht) (Nat.le_of_ble_eq_true rfl) (Nat.le_of_ble_eq_true rfl) rfl hcl ?_
    cases h
    exact gsr cd_90_31 rfl rfl
noncomputable def f_90_12 (K : Nat → Value) (k d : Nat) (l0 : Nat) (l1 : Int32) (s0 : Nat) (w : aW) (I : aI) (J : aJ) : Option aR :=
  f_90_17 K k d l0 l1 s0 1 w I J
theorem ok_90_12 {K : Nat → Value} {k d : Nat} {l0 : Nat} {l1 : Int32} {s0 : Nat} {w : aW} {I : aI} {J : aJ} {R : aR} (h : f_90_12 K k d l0 l1 s0 w I J = some R) : Go K (d + 1) 90 12 [some (.ref l0), some (.int l1)] [.ref s0] w I J R := by
  unfold f_90_12 at h
  refine gs_0 (pc' := 13) (L' := [some (.ref l0), some (.int l1)]) (st' := [.int 1, .ref s0]) cd_90_12 rfl rfl ?_
  refine gs_0 (pc' := 17) (L' := [some (.ref l0), some (.int l1)]) (st' := [.int 1, .ref s0]) cd_90_13 rfl rfl ?_
  exact ok_90_17 h
noncomputable def f_90 (K : Nat → Value) (k d : Nat) (l0 : Nat) (l1 : Int32) (w : aW) (I : aI) (J : aJ) : Option aR :=
  gO w 6 l0 (
  if ¬ (I l0 26) = 0 then
    f_90_12 K k d l0 l1 l0 w I J
  else
    if ¬ l1 = 0 then
      f_90_17 K k d l0 l1 l0 0 w I J
    else
      f_90_12 K k d l0 l1 l0 w I J)
theorem ok_90 {K : Nat → Value} {k d : Nat} {l0 : Nat} {l1 : Int32} {w : aW} {I : aI} {J : aJ} {R : aR} (h : f_90 K k d l0 l1 w I J = some R) : Go K (d + 1) 90 0 [some (.ref l0), some (.int l1)] [] w I J R := by
  unfold f_90 at h
  refine gs_0 (pc' := 1) (L' := [some (.ref l0), some (.int l1)]) (st' := [.ref l0]) cd_90_0 rfl rfl ?_
  refine gs_0 (pc' := 2) (L' := [some (.ref l0), some (.int l1)]) (st' := [.ref l0, .ref l0]) cd_90_1 rfl rfl ?_
  obtain ⟨ht, h⟩ := gO_s h
  refine gs_gfI cd_90_2 (by decide) (by decide) ht ?_
  refine gs_0 (pc' := if ¬ (I l0 26) = 0 then 12 else 8) (L' := [some (.ref l0), some (.int l1)]) (st' := [.ref l0]) cd_90_5 rfl rfl ?_
  refine go_ite (fun hc => ?_) (fun hc => ?_)
  · rw [if_pos hc] at h
    exact ok_90_12 h
  · rw [if_neg hc] at h
    refine gs_0 (pc' := 9) (L' := [some (.ref l0), some (.int l1)]) (st' := [.int l1, .ref l0]) cd_90_8 rfl rfl ?_
    refine gs_0 (pc' := if ¬ l1 = 0 then 16 else 12) (L' := [some (.ref l0), some (.int l1)]) (st' := [.ref l0]) cd_90_9 rfl rfl ?_
    refine go_ite (fun hc => ?_) (fun hc => ?_)
    · rw [if_pos hc] at h
      refine gs_0 (pc' := 17) (L' := [some (.ref l0), some (.int l1)]) (st' := [.int 0, .ref l0]) cd_90_16 rfl rfl ?_
      exact ok_90_17 h
    · rw [if_neg hc] at h
      exact ok_90_12 h
theorem cl_90 {K : Nat → Value} {k d : Nat} {l0 : Nat} {l1 : Int32} {w : aW} {I : aI} {J : aJ} {R : aR} (h : f_90 K k d l0 l1 w I J = some R) : Cl K (d + 1) 90 [.ref l0, .int l1] w I J = some R := Cl_of (ok_90 h)
/-! ProvedMachineModel.name()I -/
theorem gl_91 : gcd.lookup 91 = some gw_91 := rfl
theorem cd_91_0 : sm_cd 91 0 = some (.aload_n 0, 1, 0, 0, 0, 0, 0, 0, 0) := cd_of gl_91 rfl
theorem cd_91_1 : sm_cd 91 1 = some (.getfield 193, 3, 6, 26, 1, 0, 0, 0, 0) := cd_of gl_91 rfl
theorem cd_91_4 : sm_cd 91 4 = some (.ifCond .ne 15, 3, 19, 0, 0, 0, 0, 0, 0) := cd_of gl_91 rfl
theorem cd_91_7 : sm_cd 91 7 = some (.aload_n 0, 1, 0, 0, 0, 0, 0, 0, 0) := cd_of gl_91 rfl
theorem cd_91_8 : sm_cd 91 8 = some (.getfield 174, 3, 6, 24, 0, 0, 0, 0, 0) := cd_of gl_91 rfl
theorem cd_91_11 : sm_cd 91 11 = some (.iconst 1, 1, 0, 0, 0, 0, 0, 1, 0) := cd_of gl_91 rfl
theorem cd_91_12 : sm_cd 91 12 = some (.if_icmp .ne 7, 3, 19, 0, 0, 0, 0, 0, 0) := cd_of gl_91 rfl
theorem cd_91_15 : sm_cd 91 15 = some (.iconst 1, 1, 0, 0, 0, 0, 0, 1, 0) := cd_of gl_91 rfl
theorem cd_91_16 : sm_cd 91 16 = some (.goto 4, 3, 20, 0, 0, 0, 0, 0, 0) := cd_of gl_91 rfl
theorem cd_91_19 : sm_cd 91 19 = some (.iconst 0, 1, 0, 0, 0, 0, 0, 0, 0) := cd_of gl_91 rfl
theorem cd_91_20 : sm_cd 91 20 = some (.istore_n 1, 1, 1, 0, 0, 0, 0, 0, 0) := cd_of gl_91 rfl
theorem cd_91_21 : sm_cd 91 21 = some (.iload_n 1, 1, 1, 0, 0, 0, 0, 0, 0) := cd_of gl_91 rfl
theorem cd_91_22 : sm_cd 91 22 = some (.ifCond .eq 15, 3, 37, 0, 0, 0, 0, 0, 0) := cd_of gl_91 rfl
theorem cd_91_25 : sm_cd 91 25 = some (.aload_n 0, 1, 0, 0, 0, 0, 0, 0, 0) := cd_of gl_91 rfl
theorem cd_91_26 : sm_cd 91 26 = some (.getfield 13, 3, 6, 1, 2, 0, 0, 0, 0) := cd_of gl_91 rfl
theorem cd_91_29 : sm_cd 91 29 = some (.aload_n 0, 1, 0, 0, 0, 0, 0, 0, 0) := cd_of gl_91 rfl
theorem cd_91_30 : sm_cd 91 30 = some (.getfield 160, 3, 6, 22, 0, 0, 0, 0, 0) := cd_of gl_91 rfl
theorem cd_91_33 : sm_cd 91 33 = some (.iaload, 1, 0, 0, 0, 0, 0, 0, 0) := cd_of gl_91 rfl
theorem cd_91_34 : sm_cd 91 34 = some (.goto 4, 3, 38, 0, 0, 0, 0, 0, 0) := cd_of gl_91 rfl
theorem cd_91_37 : sm_cd 91 37 = some (.iconst 0, 1, 0, 0, 0, 0, 0, 0, 0) := cd_of gl_91 rfl
theorem cd_91_38 : sm_cd 91 38 = some (.istore_n 2, 1, 2, 0, 0, 0, 0, 0, 0) := cd_of gl_91 rfl
theorem cd_91_39 : sm_cd 91 39 = some (.aload_n 0, 1, 0, 0, 0, 0, 0, 0, 0) := cd_of gl_91 rfl
theorem cd_91_40 : sm_cd 91 40 = some (.iload_n 1, 1, 1, 0, 0, 0, 0, 0, 0) := cd_of gl_91 rfl
theorem cd_91_41 : sm_cd 91 41 = some (.invokevirtual 203, 3, 90, 0, 1, 2, 6, 0, 0) := cd_of gl_91 rfl
theorem cd_91_44 : sm_cd 91 44 = some (.iload_n 2, 1, 2, 0, 0, 0, 0, 0, 0) := cd_of gl_91 rfl
theorem cd_91_45 : sm_cd 91 45 = some (.ireturn, 1, 0, 0, 1, 0, 0, 0, 0) := cd_of gl_91 rfl
noncomputable def f_91_38 (K : Nat → Value) (k d : Nat) (l0 : Nat) (l1 : Int32) (s0 : Int32) (w : aW) (I : aI) (J : aJ) : Option aR :=
  gO w 6 l0 (
  cV (Cl K d 90 [.ref l0, .int l1] w I J) fun w_1 I_2 J_3 =>
  some (some (.int s0), w_1, I_2, J_3))
theorem ok_91_38 {K : Nat → Value} {k d : Nat} {l0 : Nat} {l1 : Int32} {s0 : Int32} {w : aW} {I : aI} {J : aJ} {R : aR} (h : f_91_38 K k d l0 l1 s0 w I J = some R) : Go K (d + 1) 91 38 [some (.ref l0), some (.int l1), none] [.int s0] w I J R := by
  unfold f_91_38 at h
  refine gs_0 (pc' := 39) (L' := [some (.ref l0), some (.int l1), some (.int s0)]) (st' := []) cd_91_38 rfl rfl ?_
  refine gs_0 (pc' := 40) (L' := [some (.ref l0), some (.int l1), some (.int s0)]) (st' := [.ref l0]) cd_91_39 rfl rfl ?_
  refine gs_0 (pc' := 41) (L' := [some (.ref l0), some (.int l1), some (.int s0)]) (st' := [.int l1, .ref l0]) cd_91_40 rfl rfl ?_
  obtain ⟨ht, h⟩ := gO_s h
  obtain ⟨w_1, I_2, J_3, hcl, h⟩ := cV_s h
  refine gs_call (as := [.ref l0, .int l1]) (rest := []) cd_91_41 rfl (by decide) rfl (sm_rv_ok (by decide) ht) (Nat.le_of_ble_eq_true rfl) (Nat.le_of_ble_eq_true rfl) rfl hcl ?_
  refine gs_0 (pc' := 45) (L' := [some (.ref l0), some (.int l1), some (.int s0)]) (st' := [.int s0]) cd_91_44 rfl rfl ?_
  cases h
  exact gs_ri cd_91_45 (Or.inl rfl)
noncomputable def f_91_20 (K : Nat → Value) (k d : Nat) (l0 : Nat) (s0 : Int32) (w : aW) (I : aI) (J : aJ) : Option aR :=
  if s0 = 0 then
    f_91_38 K k d l0 s0 0 w I J
  else
    gO w 6 l0 (
    gV w l0 1 fun q_1 =>
    gO w 6 l0 (
    gA w 10 20 q_1 (I l0 22) (
    f_91_38 K k d l0 s0 (I q_1 (I l0 22 : Int32).toNatClampNeg) w I J)))
theorem ok_91_20 {K : Nat → Value} {k d : Nat} {l0 : Nat} {s0 : Int32} {w : aW} {I : aI} {J : aJ} {R : aR} (h : f_91_20 K k d l0 s0 w I J = some R) : Go K (d + 1) 91 20 [some (.ref l0), none, none] [.int s0] w I J R := by
  unfold f_91_20 at h
  refine gs_0 (pc' := 21) (L' := [some (.ref l0), some (.int s0), none]) (st' := []) cd_91_20 rfl rfl ?_
  refine gs_0 (pc' := 22) (L' := [some (.ref l0), some (.int s0), none]) (st' := [.int s0]) cd_91_21 rfl rfl ?_
  refine gs_0 (pc' := if s0 = 0 then 37 else 25) (L' := [some (.ref l0), some (.int s0), none]) (st' := []) cd_91_22 rfl rfl ?_
  refine go_ite (fun hc => ?_) (fun hc => ?_)
  · rw [if_pos hc] at h
    refine gs_0 (pc' := 38) (L' := [some (.ref l0), some (.int s0), none]) (st' := [.int 0]) cd_91_37 rfl rfl ?_
    exact ok_91_38 h
  · rw [if_neg hc] at h
    refine gs_0 (pc' := 26) (L' := [some (.ref l0), some (.int s0), none]) (st' := [.ref l0]) cd_91_25 rfl rfl ?_
    obtain ⟨ht, h⟩ := gO_s h
    obtain ⟨q_1, hv, h⟩ := gV_s h
    refine gs_gfR cd_91_26 (by decide) ht hv ?_
    refine gs_0 (pc' := 30) (L' := [some (.ref l0), some (.int s0), none]) (st' := [.ref l0, .ref q_1]) cd_91_29 rfl rfl ?_
    obtain ⟨ht, h⟩ := gO_s h
    refine gs_gfI cd_91_30 (by decide) (by decide) ht ?_
    obtain ⟨ht, h⟩ := gA_s h
    refine gs_iald cd_91_33 ht ?_
    refine gs_0 (pc' := 38) (L' := [some (.ref l0), some (.int s0), none]) (st' := [.int (I q_1 (I l0 22 : Int32).toNatClampNeg)]) cd_91_34 rfl rfl ?_
    exact ok_91_38 h
noncomputable def f_91_19 (K : Nat → Value) (k d : Nat) (l0 : Nat) (w : aW) (I : aI) (J : aJ) : Option aR :=
  f_91_20 K k d l0 0 w I J
theorem ok_91_19 {K : Nat → Value} {k d : Nat} {l0 : Nat} {w : aW} {I : aI} {J : aJ} {R : aR} (h : f_91_19 K k d l0 w I J = some R) : Go K (d + 1) 91 19 [some (.ref l0), none, none] [] w I J R := by
  unfold f_91_19 at h
  refine gs_0 (pc' := 20) (L' := [some (.ref l0), none, none]) (st' := [.int 0]) cd_91_19 rfl rfl ?_
  exact ok_91_20 h
noncomputable def f_91 (K : Nat → Value) (k d : Nat) (l0 : Nat) (w : aW) (I : aI) (J : aJ) : Option aR :=
  gO w 6 l0 (
  if ¬ (I l0 26) = 0 then
    f_91_19 K k d l0 w I J
  else
    gO w 6 l0 (
    if ¬ (I l0 24) = 1 then
      f_91_19 K k d l0 w I J
    else
      f_91_20 K k d l0 1 w I J))
theorem ok_91 {K : Nat → Value} {k d : Nat} {l0 : Nat} {w : aW} {I : aI} {J : aJ} {R : aR} (h : f_91 K k d l0 w I J = some R) : Go K (d + 1) 91 0 [some (.ref l0), none, none] [] w I J R := by
  unfold f_91 at h
  refine gs_0 (pc' := 1) (L' := [some (.ref l0), none, none]) (st' := [.ref l0]) cd_91_0 rfl rfl ?_
  obtain ⟨ht, h⟩ := gO_s h
  refine gs_gfI cd_91_1 (by decide) (by decide) ht ?_
  refine gs_0 (pc' := if ¬ (I l0 26) = 0 then 19 else 7) (L' := [some (.ref l0), none, none]) (st' := []) cd_91_4 rfl rfl ?_
  refine go_ite (fun hc => ?_) (fun hc => ?_)
  · rw [if_pos hc] at h
    exact ok_91_19 h
  · rw [if_neg hc] at h
    refine gs_0 (pc' := 8) (L' := [some (.ref l0), none, none]) (st' := [.ref l0]) cd_91_7 rfl rfl ?_
    obtain ⟨ht, h⟩ := gO_s h
    refine gs_gfI cd_91_8 (by decide) (by decide) ht ?_
    refine gs_0 (pc' := 12) (L' := [some (.ref l0), none, none]) (st' := [.int 1, .int (I l0 24)]) cd_91_11 rfl rfl ?_
    refine gs_0 (pc' := if ¬ (I l0 24) = 1 then 19 else 15) (L' := [some (.ref l0), none, none]) (st' := []) cd_91_12 rfl rfl ?_
    refine go_ite (fun hc => ?_) (fun hc => ?_)
    · rw [if_pos hc] at h
      exact ok_91_19 h
    · rw [if_neg hc] at h
      refine gs_0 (pc' := 16) (L' := [some (.ref l0), none, none]) (st' := [.int 1]) cd_91_15 rfl rfl ?_
      refine gs_0 (pc' := 20) (L' := [some (.ref l0), none, none]) (st' := [.int 1]) cd_91_16 rfl rfl ?_
      exact ok_91_20 h
theorem cl_91 {K : Nat → Value} {k d : Nat} {l0 : Nat} {w : aW} {I : aI} {J : aJ} {R : aR} (h : f_91 K k d l0 w I J = some R) : Cl K (d + 1) 91 [.ref l0] w I J = some R := Cl_of (ok_91 h)
/-! ProvedMachineModel.ofNames(ZI)V -/
theorem gl_92 : gcd.lookup 92 = some gw_92 := rfl
theorem cd_92_0 : sm_cd 92 0 = some (.aload_n 0, 1, 0, 0, 0, 0, 0, 0, 0) := cd_of gl_92 rfl
theorem cd_92_1 : sm_cd 92 1 = some (.getfield 193, 3, 6, 26, 1, 0, 0, 0, 0) := cd_of gl_92 rfl
theorem cd_92_4 : sm_cd 92 4 = some (.ifCond .ne 27, 3, 31, 0, 0, 0, 0, 0, 0) := cd_of gl_92 rfl
theorem cd_92_7 : sm_cd 92 7 = some (.iload_n 1, 1, 1, 0, 0, 0, 0, 0, 0) := cd_of gl_92 rfl
theorem cd_92_8 : sm_cd 92 8 = some (.ifCond .ne 23, 3, 31, 0, 0, 0, 0, 0, 0) := cd_of gl_92 rfl
theorem cd_92_11 : sm_cd 92 11 = some (.aload_n 0, 1, 0, 0, 0, 0, 0, 0, 0) := cd_of gl_92 rfl
theorem cd_92_12 : sm_cd 92 12 = some (.getfield 207, 3, 6, 27, 0, 0, 0, 0, 0) := cd_of gl_92 rfl
theorem cd_92_15 : sm_cd 92 15 = some (.ifCond .lt 11, 3, 26, 0, 0, 0, 0, 0, 0) := cd_of gl_92 rfl
theorem cd_92_18 : sm_cd 92 18 = some (.iload_n 2, 1, 2, 0, 0, 0, 0, 0, 0) := cd_of gl_92 rfl
theorem cd_92_19 : sm_cd 92 19 = some (.aload_n 0, 1, 0, 0, 0, 0, 0, 0, 0) := cd_of gl_92 rfl
theorem cd_92_20 : sm_cd 92 20 = some (.getfield 207, 3, 6, 27, 0, 0, 0, 0, 0) := cd_of gl_92 rfl
theorem cd_92_23 : sm_cd 92 23 = some (.if_icmp .ge 8, 3, 31, 0, 0, 0, 0, 0, 0) := cd_of gl_92 rfl
theorem cd_92_26 : sm_cd 92 26 = some (.aload_n 0, 1, 0, 0, 0, 0, 0, 0, 0) := cd_of gl_92 rfl
theorem cd_92_27 : sm_cd 92 27 = some (.iload_n 2, 1, 2, 0, 0, 0, 0, 0, 0) := cd_of gl_92 rfl
theorem cd_92_28 : sm_cd 92 28 = some (.putfield 207, 3, 6, 27, 0, 0, 0, 0, 0) := cd_of gl_92 rfl
theorem cd_92_31 : sm_cd 92 31 = some (.return_, 1, 0, 0, 0, 0, 0, 0, 0) := cd_of gl_92 rfl
noncomputable def f_92_26 (K : Nat → Value) (k d : Nat) (l0 : Nat) (l1 : Int32) (l2 : Int32) (w : aW) (I : aI) (J : aJ) : Option aR :=
  gO w 6 l0 (
  lt_ (sm_up2 I l0 27 l2) fun I_1 =>
  some (none, w, I_1, J))
theorem ok_92_26 {K : Nat → Value} {k d : Nat} {l0 : Nat} {l1 : Int32} {l2 : Int32} {w : aW} {I : aI} {J : aJ} {R : aR} (h : f_92_26 K k d l0 l1 l2 w I J = some R) : Go K (d + 1) 92 26 [some (.ref l0), some (.int l1), some (.int l2)] [] w I J R := by
  unfold f_92_26 at h
  refine gs_0 (pc' := 27) (L' := [some (.ref l0), some (.int l1), some (.int l2)]) (st' := [.ref l0]) cd_92_26 rfl rfl ?_
  refine gs_0 (pc' := 28) (L' := [some (.ref l0), some (.int l1), some (.int l2)]) (st' := [.int l2, .ref l0]) cd_92_27 rfl rfl ?_
  obtain ⟨ht, h⟩ := gO_s h
  refine gs_pfI cd_92_28 (by decide) (Or.inl rfl) ht ?_
  obtain ⟨I_1, hx, h⟩ := lt_s_ h
  rw [hx]
  cases h
  exact gsr cd_92_31 rfl rfl
noncomputable def f_92 (K : Nat → Value) (k d : Nat) (l0 : Nat) (l1 : Int32) (l2 : Int32) (w : aW) (I : aI) (J : aJ) : Option aR :=
  gO w 6 l0 (
  if ¬ (I l0 26) = 0 then
    some (none, w, I, J)
  else
    if ¬ l1 = 0 then
      some (none, w, I, J)
    else
      gO w 6 l0 (
      if (I l0 27) < 0 then
        f_92_26 K k d l0 l1 l2 w I J
      else
        gO w 6 l0 (
        if (I l0 27) ≤ l2 then
          some (none, w, I, J)
        else
          f_92_26 K k d l0 l1 l2 w I J)))
theorem ok_92 {K : Nat → Value} {k d : Nat} {l0 : Nat} {l1 : Int32} {l2 : Int32} {w : aW} {I : aI} {J : aJ} {R : aR} (h : f_92 K k d l0 l1 l2 w I J = some R) : Go K (d + 1) 92 0 [some (.ref l0), some (.int l1), some (.int l2)] [] w I J R := by
  unfold f_92 at h
  refine gs_0 (pc' := 1) (L' := [some (.ref l0), some (.int l1), some (.int l2)]) (st' := [.ref l0]) cd_92_0 rfl rfl ?_
  obtain ⟨ht, h⟩ := gO_s h
  refine gs_gfI cd_92_1 (by decide) (by decide) ht ?_
  refine gs_0 (pc' := if ¬ (I l0 26) = 0 then 31 else 7) (L' := [some (.ref l0), some (.int l1), some (.int l2)]) (st' := []) cd_92_4 rfl rfl ?_
  refine go_ite (fun hc => ?_) (fun hc => ?_)
  · rw [if_pos hc] at h
    cases h
    exact gsr cd_92_31 rfl rfl
  · rw [if_neg hc] at h
    refine gs_0 (pc' := 8) (L' := [some (.ref l0), some (.int l1), some (.int l2)]) (st' := [.int l1]) cd_92_7 rfl rfl ?_
    refine gs_0 (pc' := if ¬ l1 = 0 then 31 else 11) (L' := [some (.ref l0), some (.int l1), some (.int l2)]) (st' := []) cd_92_8 rfl rfl ?_
    refine go_ite (fun hc => ?_) (fun hc => ?_)
    · rw [if_pos hc] at h
      cases h
      exact gsr cd_92_31 rfl rfl
    · rw [if_neg hc] at h
      refine gs_0 (pc' := 12) (L' := [some (.ref l0), some (.int l1), some (.int l2)]) (st' := [.ref l0]) cd_92_11 rfl rfl ?_
      obtain ⟨ht, h⟩ := gO_s h
      refine gs_gfI cd_92_12 (by decide) (by decide) ht ?_
      refine gs_0 (pc' := if (I l0 27) < 0 then 26 else 18) (L' := [some (.ref l0), some (.int l1), some (.int l2)]) (st' := []) cd_92_15 rfl rfl ?_
      refine go_ite (fun hc => ?_) (fun hc => ?_)
      · rw [if_pos hc] at h
        exact ok_92_26 h
      · rw [if_neg hc] at h
        refine gs_0 (pc' := 19) (L' := [some (.ref l0), some (.int l1), some (.int l2)]) (st' := [.int l2]) cd_92_18 rfl rfl ?_
        refine gs_0 (pc' := 20) (L' := [some (.ref l0), some (.int l1), some (.int l2)]) (st' := [.ref l0, .int l2]) cd_92_19 rfl rfl ?_
        obtain ⟨ht, h⟩ := gO_s h
        refine gs_gfI cd_92_20 (by decide) (by decide) ht ?_
        refine gs_0 (pc' := if (I l0 27) ≤ l2 then 31 else 26) (L' := [some (.ref l0), some (.int l1), some (.int l2)]) (st' := []) cd_92_23 rfl rfl ?_
        refine go_ite (fun hc => ?_) (fun hc => ?_)
        · rw [if_pos hc] at h
          cases h
          exact gsr cd_92_31 rfl rfl
        · rw [if_neg hc] at h
          exact ok_92_26 h
theorem cl_92 {K : Nat → Value} {k d : Nat} {l0 : Nat} {l1 : Int32} {l2 : Int32} {w : aW} {I : aI} {J : aJ} {R : aR} (h : f_92 K k d l0 l1 l2 w I J = some R) : Cl K (d + 1) 92 [.ref l0, .int l1, .int l2] w I J = some R := Cl_of (ok_92 h)
/-! ProvedMachineModel.needSign(I)V -/
theorem gl_93 : gcd.lookup 93 = some gw_93 := rfl
theorem cd_93_0 : sm_cd 93 0 = some (.aload_n 0, 1, 0, 0, 0, 0, 0, 0, 0) := cd_of gl_93 rfl
theorem cd_93_1 : sm_cd 93 1 = some (.aload_n 0, 1, 0, 0, 0, 0, 0, 0, 0) := cd_of gl_93 rfl
theorem cd_93_2 : sm_cd 93 2 = some (.iload_n 1, 1, 1, 0, 0, 0, 0, 0, 0) := cd_of gl_93 rfl
theorem cd_93_3 : sm_cd 93 3 = some (.invokevirtual 200, 3, 94, 0, 1, 2, 6, 0, 0) := cd_of gl_93 rfl
theorem cd_93_6 : sm_cd 93 6 = some (.invokevirtual 203, 3, 90, 0, 1, 2, 6, 0, 0) := cd_of gl_93 rfl
theorem cd_93_9 : sm_cd 93 9 = some (.return_, 1, 0, 0, 0, 0, 0, 0, 0) := cd_of gl_93 rfl
noncomputable def f_93 (K : Nat → Value) (k d : Nat) (l0 : Nat) (l1 : Int32) (w : aW) (I : aI) (J : aJ) : Option aR :=
  gO w 6 l0 (
  cI (Cl K d 94 [.ref l0, .int l1] w I J) fun x_4 w_1 I_2 J_3 =>
  gO w_1 6 l0 (
  cV (Cl K d 90 [.ref l0, .int x_4] w_1 I_2 J_3) fun w_5 I_6 J_7 =>
  some (none, w_5, I_6, J_7)))
theorem ok_93 {K : Nat → Value} {k d : Nat} {l0 : Nat} {l1 : Int32} {w : aW} {I : aI} {J : aJ} {R : aR} (h : f_93 K k d l0 l1 w I J = some R) : Go K (d + 1) 93 0 [some (.ref l0), some (.int l1)] [] w I J R := by
  unfold f_93 at h
  refine gs_0 (pc' := 1) (L' := [some (.ref l0), some (.int l1)]) (st' := [.ref l0]) cd_93_0 rfl rfl ?_
  refine gs_0 (pc' := 2) (L' := [some (.ref l0), some (.int l1)]) (st' := [.ref l0, .ref l0]) cd_93_1 rfl rfl ?_
  refine gs_0 (pc' := 3) (L' := [some (.ref l0), some (.int l1)]) (st' := [.int l1, .ref l0, .ref l0]) cd_93_2 rfl rfl ?_
  obtain ⟨ht, h⟩ := gO_s h
  obtain ⟨x_4, w_1, I_2, J_3, hcl, h⟩ := cI_s h
  refine gs_call (as := [.ref l0, .int l1]) (rest := [.ref l0]) cd_93_3 rfl (by decide) rfl (sm_rv_ok (by decide) ht) (Nat.le_of_ble_eq_true rfl) (Nat.le_of_ble_eq_true rfl) rfl hcl ?_
  obtain ⟨ht, h⟩ := gO_s h
  obtain ⟨w_5, I_6, J_7, hcl, h⟩ := cV_s h
  refine gs_call (as := [.ref l0, .int x_4]) (rest := []) cd_93_6 rfl (by decide) rfl (sm_rv_ok (by decide) ht) (Nat.le_of_ble_eq_true rfl) (Nat.le_of_ble_eq_true rfl) rfl hcl ?_
  cases h
  exact gsr cd_93_9 rfl rfl
theorem cl_93 {K : Nat → Value} {k d : Nat} {l0 : Nat} {l1 : Int32} {w : aW} {I : aI} {J : aJ} {R : aR} (h : f_93 K k d l0 l1 w I J = some R) : Cl K (d + 1) 93 [.ref l0, .int l1] w I J = some R := Cl_of (ok_93 h)
/-! ProvedMachineModel.isSign(I)Z -/
theorem gl_94 : gcd.lookup 94 = some gw_94 := rfl
theorem cd_94_0 : sm_cd 94 0 = some (.aload_n 0, 1, 0, 0, 0, 0, 0, 0, 0) := cd_of gl_94 rfl
theorem cd_94_1 : sm_cd 94 1 = some (.getfield 193, 3, 6, 26, 1, 0, 0, 0, 0) := cd_of gl_94 rfl
theorem cd_94_4 : sm_cd 94 4 = some (.ifCond .ne 28, 3, 32, 0, 0, 0, 0, 0, 0) := cd_of gl_94 rfl
theorem cd_94_7 : sm_cd 94 7 = some (.aload_n 0, 1, 0, 0, 0, 0, 0, 0, 0) := cd_of gl_94 rfl
theorem cd_94_8 : sm_cd 94 8 = some (.getfield 174, 3, 6, 24, 0, 0, 0, 0, 0) := cd_of gl_94 rfl
theorem cd_94_11 : sm_cd 94 11 = some (.iconst 4, 1, 0, 0, 0, 0, 0, 4, 0) := cd_of gl_94 rfl
theorem cd_94_12 : sm_cd 94 12 = some (.if_icmp .ne 20, 3, 32, 0, 0, 0, 0, 0, 0) := cd_of gl_94 rfl
theorem cd_94_15 : sm_cd 94 15 = some (.aload_n 0, 1, 0, 0, 0, 0, 0, 0, 0) := cd_of gl_94 rfl
theorem cd_94_16 : sm_cd 94 16 = some (.getfield 13, 3, 6, 1, 2, 0, 0, 0, 0) := cd_of gl_94 rfl
theorem cd_94_19 : sm_cd 94 19 = some (.aload_n 0, 1, 0, 0, 0, 0, 0, 0, 0) := cd_of gl_94 rfl
theorem cd_94_20 : sm_cd 94 20 = some (.getfield 160, 3, 6, 22, 0, 0, 0, 0, 0) := cd_of gl_94 rfl
theorem cd_94_23 : sm_cd 94 23 = some (.iaload, 1, 0, 0, 0, 0, 0, 0, 0) := cd_of gl_94 rfl
theorem cd_94_24 : sm_cd 94 24 = some (.iload_n 1, 1, 1, 0, 0, 0, 0, 0, 0) := cd_of gl_94 rfl
theorem cd_94_25 : sm_cd 94 25 = some (.if_icmp .ne 7, 3, 32, 0, 0, 0, 0, 0, 0) := cd_of gl_94 rfl
theorem cd_94_28 : sm_cd 94 28 = some (.iconst 1, 1, 0, 0, 0, 0, 0, 1, 0) := cd_of gl_94 rfl
theorem cd_94_29 : sm_cd 94 29 = some (.goto 4, 3, 33, 0, 0, 0, 0, 0, 0) := cd_of gl_94 rfl
theorem cd_94_32 : sm_cd 94 32 = some (.iconst 0, 1, 0, 0, 0, 0, 0, 0, 0) := cd_of gl_94 rfl
theorem cd_94_33 : sm_cd 94 33 = some (.ireturn, 1, 0, 0, 2, 0, 0, 0, 0) := cd_of gl_94 rfl
noncomputable def f_94 (K : Nat → Value) (k d : Nat) (l0 : Nat) (l1 : Int32) (w : aW) (I : aI) (J : aJ) : Option aR :=
  gO w 6 l0 (
  if ¬ (I l0 26) = 0 then
    some (some (.int 0), w, I, J)
  else
    gO w 6 l0 (
    if ¬ (I l0 24) = 4 then
      some (some (.int 0), w, I, J)
    else
      gO w 6 l0 (
      gV w l0 1 fun q_1 =>
      gO w 6 l0 (
      gA w 10 20 q_1 (I l0 22) (
      if ¬ (I q_1 (I l0 22 : Int32).toNatClampNeg) = l1 then
        some (some (.int 0), w, I, J)
      else
        some (some (.int 1), w, I, J))))))
theorem ok_94 {K : Nat → Value} {k d : Nat} {l0 : Nat} {l1 : Int32} {w : aW} {I : aI} {J : aJ} {R : aR} (h : f_94 K k d l0 l1 w I J = some R) : Go K (d + 1) 94 0 [some (.ref l0), some (.int l1)] [] w I J R := by
  unfold f_94 at h
  refine gs_0 (pc' := 1) (L' := [some (.ref l0), some (.int l1)]) (st' := [.ref l0]) cd_94_0 rfl rfl ?_
  obtain ⟨ht, h⟩ := gO_s h
  refine gs_gfI cd_94_1 (by decide) (by decide) ht ?_
  refine gs_0 (pc' := if ¬ (I l0 26) = 0 then 32 else 7) (L' := [some (.ref l0), some (.int l1)]) (st' := []) cd_94_4 rfl rfl ?_
  refine go_ite (fun hc => ?_) (fun hc => ?_)
  · rw [if_pos hc] at h
    refine gs_0 (pc' := 33) (L' := [some (.ref l0), some (.int l1)]) (st' := [.int 0]) cd_94_32 rfl rfl ?_
    cases h
    exact gs_ri cd_94_33 (Or.inr (Or.inl ⟨rfl, Or.inl rfl⟩))
  · rw [if_neg hc] at h
    refine gs_0 (pc' := 8) (L' := [some (.ref l0), some (.int l1)]) (st' := [.ref l0]) cd_94_7 rfl rfl ?_
    obtain ⟨ht, h⟩ := gO_s h
    refine gs_gfI cd_94_8 (by decide) (by decide) ht ?_
    refine gs_0 (pc' := 12) (L' := [some (.ref l0), some (.int l1)]) (st' := [.int 4, .int (I l0 24)]) cd_94_11 rfl rfl ?_
    refine gs_0 (pc' := if ¬ (I l0 24) = 4 then 32 else 15) (L' := [some (.ref l0), some (.int l1)]) (st' := []) cd_94_12 rfl rfl ?_
    refine go_ite (fun hc => ?_) (fun hc => ?_)
    · rw [if_pos hc] at h
      refine gs_0 (pc' := 33) (L' := [some (.ref l0), some (.int l1)]) (st' := [.int 0]) cd_94_32 rfl rfl ?_
      cases h
      exact gs_ri cd_94_33 (Or.inr (Or.inl ⟨rfl, Or.inl rfl⟩))
    · rw [if_neg hc] at h
      refine gs_0 (pc' := 16) (L' := [some (.ref l0), some (.int l1)]) (st' := [.ref l0]) cd_94_15 rfl rfl ?_
      obtain ⟨ht, h⟩ := gO_s h
      obtain ⟨q_1, hv, h⟩ := gV_s h
      refine gs_gfR cd_94_16 (by decide) ht hv ?_
      refine gs_0 (pc' := 20) (L' := [some (.ref l0), some (.int l1)]) (st' := [.ref l0, .ref q_1]) cd_94_19 rfl rfl ?_
      obtain ⟨ht, h⟩ := gO_s h
      refine gs_gfI cd_94_20 (by decide) (by decide) ht ?_
      obtain ⟨ht, h⟩ := gA_s h
      refine gs_iald cd_94_23 ht ?_
      refine gs_0 (pc' := 25) (L' := [some (.ref l0), some (.int l1)]) (st' := [.int l1, .int (I q_1 (I l0 22 : Int32).toNatClampNeg)]) cd_94_24 rfl rfl ?_
      refine gs_0 (pc' := if ¬ (I q_1 (I l0 22 : Int32).toNatClampNeg) = l1 then 32 else 28) (L' := [some (.ref l0), some (.int l1)]) (st' := []) cd_94_25 rfl rfl ?_
      refine go_ite (fun hc => ?_) (fun hc => ?_)
      · rw [if_pos hc] at h
        refine gs_0 (pc' := 33) (L' := [some (.ref l0), some (.int l1)]) (st' := [.int 0]) cd_94_32 rfl rfl ?_
        cases h
        exact gs_ri cd_94_33 (Or.inr (Or.inl ⟨rfl, Or.inl rfl⟩))
      · rw [if_neg hc] at h
        refine gs_0 (pc' := 29) (L' := [some (.ref l0), some (.int l1)]) (st' := [.int 1]) cd_94_28 rfl rfl ?_
        refine gs_0 (pc' := 33) (L' := [some (.ref l0), some (.int l1)]) (st' := [.int 1]) cd_94_29 rfl rfl ?_
        cases h
        exact gs_ri cd_94_33 (Or.inr (Or.inl ⟨rfl, Or.inr rfl⟩))
theorem cl_94 {K : Nat → Value} {k d : Nat} {l0 : Nat} {l1 : Int32} {w : aW} {I : aI} {J : aJ} {R : aR} (h : f_94 K k d l0 l1 w I J = some R) : Cl K (d + 1) 94 [.ref l0, .int l1] w I J = some R := Cl_of (ok_94 h)
/-! ProvedMachineModel.type()I -/
theorem gl_95 : gcd.lookup 95 = some gw_95 := rfl
theorem cd_95_0 : sm_cd 95 0 = some (.aload_n 0, 1, 0, 0, 0, 0, 0, 0, 0) := cd_of gl_95 rfl
theorem cd_95_1 : sm_cd 95 1 = some (.getfield 193, 3, 6, 26, 1, 0, 0, 0, 0) := cd_of gl_95 rfl
theorem cd_95_4 : sm_cd 95 4 = some (.ifCond .ne 23, 3, 27, 0, 0, 0, 0, 0, 0) := cd_of gl_95 rfl
theorem cd_95_7 : sm_cd 95 7 = some (.aload_n 0, 1, 0, 0, 0, 0, 0, 0, 0) := cd_of gl_95 rfl
theorem cd_95_8 : sm_cd 95 8 = some (.getfield 174, 3, 6, 24, 0, 0, 0, 0, 0) := cd_of gl_95 rfl
theorem cd_95_11 : sm_cd 95 11 = some (.iconst 2, 1, 0, 0, 0, 0, 0, 2, 0) := cd_of gl_95 rfl
theorem cd_95_12 : sm_cd 95 12 = some (.if_icmp .ne 15, 3, 27, 0, 0, 0, 0, 0, 0) := cd_of gl_95 rfl
theorem cd_95_15 : sm_cd 95 15 = some (.aload_n 0, 1, 0, 0, 0, 0, 0, 0, 0) := cd_of gl_95 rfl
theorem cd_95_16 : sm_cd 95 16 = some (.getfield 171, 3, 6, 25, 0, 0, 0, 0, 0) := cd_of gl_95 rfl
theorem cd_95_19 : sm_cd 95 19 = some (.iconst 3, 1, 0, 0, 0, 0, 0, 3, 0) := cd_of gl_95 rfl
theorem cd_95_20 : sm_cd 95 20 = some (.if_icmp .gt 7, 3, 27, 0, 0, 0, 0, 0, 0) := cd_of gl_95 rfl
theorem cd_95_23 : sm_cd 95 23 = some (.iconst 1, 1, 0, 0, 0, 0, 0, 1, 0) := cd_of gl_95 rfl
theorem cd_95_24 : sm_cd 95 24 = some (.goto 4, 3, 28, 0, 0, 0, 0, 0, 0) := cd_of gl_95 rfl
theorem cd_95_27 : sm_cd 95 27 = some (.iconst 0, 1, 0, 0, 0, 0, 0, 0, 0) := cd_of gl_95 rfl
theorem cd_95_28 : sm_cd 95 28 = some (.istore_n 1, 1, 1, 0, 0, 0, 0, 0, 0) := cd_of gl_95 rfl
theorem cd_95_29 : sm_cd 95 29 = some (.iload_n 1, 1, 1, 0, 0, 0, 0, 0, 0) := cd_of gl_95 rfl
theorem cd_95_30 : sm_cd 95 30 = some (.ifCond .eq 10, 3, 40, 0, 0, 0, 0, 0, 0) := cd_of gl_95 rfl
theorem cd_95_33 : sm_cd 95 33 = some (.aload_n 0, 1, 0, 0, 0, 0, 0, 0, 0) := cd_of gl_95 rfl
theorem cd_95_34 : sm_cd 95 34 = some (.getfield 171, 3, 6, 25, 0, 0, 0, 0, 0) := cd_of gl_95 rfl
theorem cd_95_37 : sm_cd 95 37 = some (.goto 4, 3, 41, 0, 0, 0, 0, 0, 0) := cd_of gl_95 rfl
theorem cd_95_40 : sm_cd 95 40 = some (.iconst 0, 1, 0, 0, 0, 0, 0, 0, 0) := cd_of gl_95 rfl
theorem cd_95_41 : sm_cd 95 41 = some (.istore_n 2, 1, 2, 0, 0, 0, 0, 0, 0) := cd_of gl_95 rfl
theorem cd_95_42 : sm_cd 95 42 = some (.aload_n 0, 1, 0, 0, 0, 0, 0, 0, 0) := cd_of gl_95 rfl
theorem cd_95_43 : sm_cd 95 43 = some (.iload_n 1, 1, 1, 0, 0, 0, 0, 0, 0) := cd_of gl_95 rfl
theorem cd_95_44 : sm_cd 95 44 = some (.invokevirtual 203, 3, 90, 0, 1, 2, 6, 0, 0) := cd_of gl_95 rfl
theorem cd_95_47 : sm_cd 95 47 = some (.iload_n 2, 1, 2, 0, 0, 0, 0, 0, 0) := cd_of gl_95 rfl
theorem cd_95_48 : sm_cd 95 48 = some (.ireturn, 1, 0, 0, 1, 0, 0, 0, 0) := cd_of gl_95 rfl
noncomputable def f_95_41 (K : Nat → Value) (k d : Nat) (l0 : Nat) (l1 : Int32) (s0 : Int32) (w : aW) (I : aI) (J : aJ) : Option aR :=
  gO w 6 l0 (
  cV (Cl K d 90 [.ref l0, .int l1] w I J) fun w_1 I_2 J_3 =>
  some (some (.int s0), w_1, I_2, J_3))
theorem ok_95_41 {K : Nat → Value} {k d : Nat} {l0 : Nat} {l1 : Int32} {s0 : Int32} {w : aW} {I : aI} {J : aJ} {R : aR} (h : f_95_41 K k d l0 l1 s0 w I J = some R) : Go K (d + 1) 95 41 [some (.ref l0), some (.int l1), none] [.int s0] w I J R := by
  unfold f_95_41 at h
  refine gs_0 (pc' := 42) (L' := [some (.ref l0), some (.int l1), some (.int s0)]) (st' := []) cd_95_41 rfl rfl ?_
  refine gs_0 (pc' := 43) (L' := [some (.ref l0), some (.int l1), some (.int s0)]) (st' := [.ref l0]) cd_95_42 rfl rfl ?_
  refine gs_0 (pc' := 44) (L' := [some (.ref l0), some (.int l1), some (.int s0)]) (st' := [.int l1, .ref l0]) cd_95_43 rfl rfl ?_
  obtain ⟨ht, h⟩ := gO_s h
  obtain ⟨w_1, I_2, J_3, hcl, h⟩ := cV_s h
  refine gs_call (as := [.ref l0, .int l1]) (rest := []) cd_95_44 rfl (by decide) rfl (sm_rv_ok (by decide) ht) (Nat.le_of_ble_eq_true rfl) (Nat.le_of_ble_eq_true rfl) rfl hcl ?_
  refine gs_0 (pc' := 48) (L' := [some (.ref l0), some (.int l1), some (.int s0)]) (st' := [.int s0]) cd_95_47 rfl rfl ?_
  cases h
  exact gs_ri cd_95_48 (Or.inl rfl)
noncomputable def f_95_28 (K : Nat → Value) (k d : Nat) (l0 : Nat) (s0 : Int32) (w : aW) (I : aI) (J : aJ) : Option aR :=
  if s0 = 0 then
    f_95_41 K k d l0 s0 0 w I J
  else
    gO w 6 l0 (
    f_95_41 K k d l0 s0 (I l0 25) w I J)
theorem ok_95_28 {K : Nat → Value} {k d : Nat} {l0 : Nat} {s0 : Int32} {w : aW} {I : aI} {J : aJ} {R : aR} (h : f_95_28 K k d l0 s0 w I J = some R) : Go K (d + 1) 95 28 [some (.ref l0), none, none] [.int s0] w I J R := by
  unfold f_95_28 at h
  refine gs_0 (pc' := 29) (L' := [some (.ref l0), some (.int s0), none]) (st' := []) cd_95_28 rfl rfl ?_
  refine gs_0 (pc' := 30) (L' := [some (.ref l0), some (.int s0), none]) (st' := [.int s0]) cd_95_29 rfl rfl ?_
  refine gs_0 (pc' := if s0 = 0 then 40 else 33) (L' := [some (.ref l0), some (.int s0), none]) (st' := []) cd_95_30 rfl rfl ?_
  refine go_ite (fun hc => ?_) (fun hc => ?_)
  · rw [if_pos hc] at h
    refine gs_0 (pc' := 41) (L' := [some (.ref l0), some (.int s0), none]) (st' := [.int 0]) cd_95_40 rfl rfl ?_
    exact ok_95_41 h
  · rw [if_neg hc] at h
    refine gs_0 (pc' := 34) (L' := [some (.ref l0), some (.int s0), none]) (st' := [.ref l0]) cd_95_33 rfl rfl ?_
    obtain ⟨ht, h⟩ := gO_s h
    refine gs_gfI cd_95_34 (by decide) (by decide) ht ?_
    refine gs_0 (pc' := 41) (L' := [some (.ref l0), some (.int s0), none]) (st' := [.int (I l0 25)]) cd_95_37 rfl rfl ?_
    exact ok_95_41 h
noncomputable def f_95_27 (K : Nat → Value) (k d : Nat) (l0 : Nat) (w : aW) (I : aI) (J : aJ) : Option aR :=
  f_95_28 K k d l0 0 w I J
theorem ok_95_27 {K : Nat → Value} {k d : Nat} {l0 : Nat} {w : aW} {I : aI} {J : aJ} {R : aR} (h : f_95_27 K k d l0 w I J = some R) : Go K (d + 1) 95 27 [some (.ref l0), none, none] [] w I J R := by
  unfold f_95_27 at h
  refine gs_0 (pc' := 28) (L' := [some (.ref l0), none, none]) (st' := [.int 0]) cd_95_27 rfl rfl ?_
  exact ok_95_28 h
noncomputable def f_95 (K : Nat → Value) (k d : Nat) (l0 : Nat) (w : aW) (I : aI) (J : aJ) : Option aR :=
  gO w 6 l0 (
  if ¬ (I l0 26) = 0 then
    f_95_27 K k d l0 w I J
  else
    gO w 6 l0 (
    if ¬ (I l0 24) = 2 then
      f_95_27 K k d l0 w I J
    else
      gO w 6 l0 (
      if 3 < (I l0 25) then
        f_95_27 K k d l0 w I J
      else
        f_95_28 K k d l0 1 w I J)))
theorem ok_95 {K : Nat → Value} {k d : Nat} {l0 : Nat} {w : aW} {I : aI} {J : aJ} {R : aR} (h : f_95 K k d l0 w I J = some R) : Go K (d + 1) 95 0 [some (.ref l0), none, none] [] w I J R := by
  unfold f_95 at h
  refine gs_0 (pc' := 1) (L' := [some (.ref l0), none, none]) (st' := [.ref l0]) cd_95_0 rfl rfl ?_
  obtain ⟨ht, h⟩ := gO_s h
  refine gs_gfI cd_95_1 (by decide) (by decide) ht ?_
  refine gs_0 (pc' := if ¬ (I l0 26) = 0 then 27 else 7) (L' := [some (.ref l0), none, none]) (st' := []) cd_95_4 rfl rfl ?_
  refine go_ite (fun hc => ?_) (fun hc => ?_)
  · rw [if_pos hc] at h
    exact ok_95_27 h
  · rw [if_neg hc] at h
    refine gs_0 (pc' := 8) (L' := [some (.ref l0), none, none]) (st' := [.ref l0]) cd_95_7 rfl rfl ?_
    obtain ⟨ht, h⟩ := gO_s h
    refine gs_gfI cd_95_8 (by decide) (by decide) ht ?_
    refine gs_0 (pc' := 12) (L' := [some (.ref l0), none, none]) (st' := [.int 2, .int (I l0 24)]) cd_95_11 rfl rfl ?_
    refine gs_0 (pc' := if ¬ (I l0 24) = 2 then 27 else 15) (L' := [some (.ref l0), none, none]) (st' := []) cd_95_12 rfl rfl ?_
    refine go_ite (fun hc => ?_) (fun hc => ?_)
    · rw [if_pos hc] at h
      exact ok_95_27 h
    · rw [if_neg hc] at h
      refine gs_0 (pc' := 16) (L' := [some (.ref l0), none, none]) (st' := [.ref l0]) cd_95_15 rfl rfl ?_
      obtain ⟨ht, h⟩ := gO_s h
      refine gs_gfI cd_95_16 (by decide) (by decide) ht ?_
      refine gs_0 (pc' := 20) (L' := [some (.ref l0), none, none]) (st' := [.int 3, .int (I l0 25)]) cd_95_19 rfl rfl ?_
      refine gs_0 (pc' := if 3 < (I l0 25) then 27 else 23) (L' := [some (.ref l0), none, none]) (st' := []) cd_95_20 rfl rfl ?_
      refine go_ite (fun hc => ?_) (fun hc => ?_)
      · rw [if_pos hc] at h
        exact ok_95_27 h
      · rw [if_neg hc] at h
        refine gs_0 (pc' := 24) (L' := [some (.ref l0), none, none]) (st' := [.int 1]) cd_95_23 rfl rfl ?_
        refine gs_0 (pc' := 28) (L' := [some (.ref l0), none, none]) (st' := [.int 1]) cd_95_24 rfl rfl ?_
        exact ok_95_28 h
theorem cl_95 {K : Nat → Value} {k d : Nat} {l0 : Nat} {w : aW} {I : aI} {J : aJ} {R : aR} (h : f_95 K k d l0 w I J = some R) : Cl K (d + 1) 95 [.ref l0] w I J = some R := Cl_of (ok_95 h)
/-! ProvedMachineModel.declare(III)V -/
theorem gl_96 : gcd.lookup 96 = some gw_96 := rfl
theorem cd_96_0 : sm_cd 96 0 = some (.aload_n 0, 1, 0, 0, 0, 0, 0, 0, 0) := cd_of gl_96 rfl
theorem cd_96_1 : sm_cd 96 1 = some (.iload_n 1, 1, 1, 0, 0, 0, 0, 0, 0) := cd_of gl_96 rfl
theorem cd_96_2 : sm_cd 96 2 = some (.invokevirtual 218, 3, 97, 0, 1, 3, 6, 0, 0) := cd_of gl_96 rfl
theorem cd_96_5 : sm_cd 96 5 = some (.ifCond .ge 21, 3, 26, 0, 0, 0, 0, 0, 0) := cd_of gl_96 rfl
theorem cd_96_8 : sm_cd 96 8 = some (.aload_n 0, 1, 0, 0, 0, 0, 0, 0, 0) := cd_of gl_96 rfl
theorem cd_96_9 : sm_cd 96 9 = some (.getfield 29, 3, 6, 9, 2, 0, 0, 0, 0) := cd_of gl_96 rfl
theorem cd_96_12 : sm_cd 96 12 = some (.aload_n 0, 1, 0, 0, 0, 0, 0, 0, 0) := cd_of gl_96 rfl
theorem cd_96_13 : sm_cd 96 13 = some (.getfield 216, 3, 6, 30, 0, 0, 0, 0, 0) := cd_of gl_96 rfl
theorem cd_96_16 : sm_cd 96 16 = some (.iaload, 1, 0, 0, 0, 0, 0, 0, 0) := cd_of gl_96 rfl
theorem cd_96_17 : sm_cd 96 17 = some (.bipush 6, 2, 0, 0, 0, 0, 0, 6, 0) := cd_of gl_96 rfl
theorem cd_96_19 : sm_cd 96 19 = some (.if_icmp .ge 7, 3, 26, 0, 0, 0, 0, 0, 0) := cd_of gl_96 rfl
theorem cd_96_22 : sm_cd 96 22 = some (.iconst 1, 1, 0, 0, 0, 0, 0, 1, 0) := cd_of gl_96 rfl
theorem cd_96_23 : sm_cd 96 23 = some (.goto 4, 3, 27, 0, 0, 0, 0, 0, 0) := cd_of gl_96 rfl
theorem cd_96_26 : sm_cd 96 26 = some (.iconst 0, 1, 0, 0, 0, 0, 0, 0, 0) := cd_of gl_96 rfl
theorem cd_96_27 : sm_cd 96 27 = some (.istore 4, 2, 4, 0, 0, 0, 0, 0, 0) := cd_of gl_96 rfl
theorem cd_96_29 : sm_cd 96 29 = some (.aload_n 0, 1, 0, 0, 0, 0, 0, 0, 0) := cd_of gl_96 rfl
theorem cd_96_30 : sm_cd 96 30 = some (.iload 4, 2, 4, 0, 0, 0, 0, 0, 0) := cd_of gl_96 rfl
theorem cd_96_32 : sm_cd 96 32 = some (.iload_n 3, 1, 3, 0, 0, 0, 0, 0, 0) := cd_of gl_96 rfl
theorem cd_96_33 : sm_cd 96 33 = some (.invokevirtual 221, 3, 92, 0, 2, 3, 6, 0, 0) := cd_of gl_96 rfl
theorem cd_96_36 : sm_cd 96 36 = some (.iload 4, 2, 4, 0, 0, 0, 0, 0, 0) := cd_of gl_96 rfl
theorem cd_96_38 : sm_cd 96 38 = some (.ifCond .eq 69, 3, 107, 0, 0, 0, 0, 0, 0) := cd_of gl_96 rfl
theorem cd_96_41 : sm_cd 96 41 = some (.aload_n 0, 1, 0, 0, 0, 0, 0, 0, 0) := cd_of gl_96 rfl
theorem cd_96_42 : sm_cd 96 42 = some (.getfield 193, 3, 6, 26, 1, 0, 0, 0, 0) := cd_of gl_96 rfl
theorem cd_96_45 : sm_cd 96 45 = some (.ifCond .ne 62, 3, 107, 0, 0, 0, 0, 0, 0) := cd_of gl_96 rfl
theorem cd_96_48 : sm_cd 96 48 = some (.aload_n 0, 1, 0, 0, 0, 0, 0, 0, 0) := cd_of gl_96 rfl
theorem cd_96_49 : sm_cd 96 49 = some (.getfield 35, 3, 6, 11, 2, 0, 0, 0, 0) := cd_of gl_96 rfl
theorem cd_96_52 : sm_cd 96 52 = some (.bipush 6, 2, 0, 0, 0, 0, 0, 6, 0) := cd_of gl_96 rfl
theorem cd_96_54 : sm_cd 96 54 = some (.aload_n 0, 1, 0, 0, 0, 0, 0, 0, 0) := cd_of gl_96 rfl
theorem cd_96_55 : sm_cd 96 55 = some (.getfield 216, 3, 6, 30, 0, 0, 0, 0, 0) := cd_of gl_96 rfl
theorem cd_96_58 : sm_cd 96 58 = some (.imul, 1, 0, 0, 0, 0, 0, 0, 0) := cd_of gl_96 rfl
theorem cd_96_59 : sm_cd 96 59 = some (.aload_n 0, 1, 0, 0, 0, 0, 0, 0, 0) := cd_of gl_96 rfl
theorem cd_96_60 : sm_cd 96 60 = some (.getfield 29, 3, 6, 9, 2, 0, 0, 0, 0) := cd_of gl_96 rfl
theorem cd_96_63 : sm_cd 96 63 = some (.aload_n 0, 1, 0, 0, 0, 0, 0, 0, 0) := cd_of gl_96 rfl
theorem cd_96_64 : sm_cd 96 64 = some (.getfield 216, 3, 6, 30, 0, 0, 0, 0, 0) := cd_of gl_96 rfl
theorem cd_96_67 : sm_cd 96 67 = some (.iaload, 1, 0, 0, 0, 0, 0, 0, 0) := cd_of gl_96 rfl
theorem cd_96_68 : sm_cd 96 68 = some (.iadd, 1, 0, 0, 0, 0, 0, 0, 0) := cd_of gl_96 rfl
theorem cd_96_69 : sm_cd 96 69 = some (.iload_n 1, 1, 1, 0, 0, 0, 0, 0, 0) := cd_of gl_96 rfl
theorem cd_96_70 : sm_cd 96 70 = some (.iastore, 1, 0, 0, 0, 0, 0, 0, 0) := cd_of gl_96 rfl
theorem cd_96_71 : sm_cd 96 71 = some (.aload_n 0, 1, 0, 0, 0, 0, 0, 0, 0) := cd_of gl_96 rfl
theorem cd_96_72 : sm_cd 96 72 = some (.getfield 38, 3, 6, 12, 2, 0, 0, 0, 0) := cd_of gl_96 rfl
theorem cd_96_75 : sm_cd 96 75 = some (.bipush 6, 2, 0, 0, 0, 0, 0, 6, 0) := cd_of gl_96 rfl
theorem cd_96_77 : sm_cd 96 77 = some (.aload_n 0, 1, 0, 0, 0, 0, 0, 0, 0) := cd_of gl_96 rfl
theorem cd_96_78 : sm_cd 96 78 = some (.getfield 216, 3, 6, 30, 0, 0, 0, 0, 0) := cd_of gl_96 rfl
theorem cd_96_81 : sm_cd 96 81 = some (.imul, 1, 0, 0, 0, 0, 0, 0, 0) := cd_of gl_96 rfl
theorem cd_96_82 : sm_cd 96 82 = some (.aload_n 0, 1, 0, 0, 0, 0, 0, 0, 0) := cd_of gl_96 rfl
theorem cd_96_83 : sm_cd 96 83 = some (.getfield 29, 3, 6, 9, 2, 0, 0, 0, 0) := cd_of gl_96 rfl
theorem cd_96_86 : sm_cd 96 86 = some (.aload_n 0, 1, 0, 0, 0, 0, 0, 0, 0) := cd_of gl_96 rfl
theorem cd_96_87 : sm_cd 96 87 = some (.getfield 216, 3, 6, 30, 0, 0, 0, 0, 0) := cd_of gl_96 rfl
theorem cd_96_90 : sm_cd 96 90 = some (.iaload, 1, 0, 0, 0, 0, 0, 0, 0) := cd_of gl_96 rfl
theorem cd_96_91 : sm_cd 96 91 = some (.iadd, 1, 0, 0, 0, 0, 0, 0, 0) := cd_of gl_96 rfl
theorem cd_96_92 : sm_cd 96 92 = some (.iload_n 2, 1, 2, 0, 0, 0, 0, 0, 0) := cd_of gl_96 rfl
theorem cd_96_93 : sm_cd 96 93 = some (.iastore, 1, 0, 0, 0, 0, 0, 0, 0) := cd_of gl_96 rfl
theorem cd_96_94 : sm_cd 96 94 = some (.aload_n 0, 1, 0, 0, 0, 0, 0, 0, 0) := cd_of gl_96 rfl
theorem cd_96_95 : sm_cd 96 95 = some (.getfield 29, 3, 6, 9, 2, 0, 0, 0, 0) := cd_of gl_96 rfl
theorem cd_96_98 : sm_cd 96 98 = some (.aload_n 0, 1, 0, 0, 0, 0, 0, 0, 0) := cd_of gl_96 rfl
theorem cd_96_99 : sm_cd 96 99 = some (.getfield 216, 3, 6, 30, 0, 0, 0, 0, 0) := cd_of gl_96 rfl
theorem cd_96_102 : sm_cd 96 102 = some (.dup2, 1, 0, 0, 0, 0, 0, 0, 0) := cd_of gl_96 rfl
theorem cd_96_103 : sm_cd 96 103 = some (.iaload, 1, 0, 0, 0, 0, 0, 0, 0) := cd_of gl_96 rfl
theorem cd_96_104 : sm_cd 96 104 = some (.iconst 1, 1, 0, 0, 0, 0, 0, 1, 0) := cd_of gl_96 rfl
theorem cd_96_105 : sm_cd 96 105 = some (.iadd, 1, 0, 0, 0, 0, 0, 0, 0) := cd_of gl_96 rfl
theorem cd_96_106 : sm_cd 96 106 = some (.iastore, 1, 0, 0, 0, 0, 0, 0, 0) := cd_of gl_96 rfl
theorem cd_96_107 : sm_cd 96 107 = some (.return_, 1, 0, 0, 0, 0, 0, 0, 0) := cd_of gl_96 rfl
noncomputable def f_96_27 (K : Nat → Value) (k d : Nat) (l0 : Nat) (l1 : Int32) (l2 : Int32) (l3 : Int32) (s0 : Int32) (w : aW) (I : aI) (J : aJ) : Option aR :=
  gO w 6 l0 (
  cV (Cl K d 92 [.ref l0, .int s0, .int l3] w I J) fun w_1 I_2 J_3 =>
  if s0 = 0 then
    some (none, w_1, I_2, J_3)
  else
    gO w_1 6 l0 (
    if ¬ (I_2 l0 26) = 0 then
      some (none, w_1, I_2, J_3)
    else
      gO w_1 6 l0 (
      gV w_1 l0 11 fun q_4 =>
      gO w_1 6 l0 (
      gO w_1 6 l0 (
      gV w_1 l0 9 fun q_5 =>
      gO w_1 6 l0 (
      gA w_1 10 20 q_5 (I_2 l0 30) (
      gA w_1 10 10 q_4 ((6 * (I_2 l0 30)) + (I_2 q_5 (I_2 l0 30 : Int32).toNatClampNeg)) (
      lt_ (sm_up2 I_2 q_4 ((6 * (I_2 l0 30)) + (I_2 q_5 (I_2 l0 30 : Int32).toNatClampNeg) : Int32).toNatClampNeg l1) fun I_6 =>
      gO w_1 6 l0 (
      gV w_1 l0 12 fun q_7 =>
      gO w_1 6 l0 (
      gO w_1 6 l0 (
      gV w_1 l0 9 fun q_8 =>
      gO w_1 6 l0 (
      gA w_1 10 20 q_8 (I_6 l0 30) (
      gA w_1 10 10 q_7 ((6 * (I_6 l0 30)) + (I_6 q_8 (I_6 l0 30 : Int32).toNatClampNeg)) (
      lt_ (sm_up2 I_6 q_7 ((6 * (I_6 l0 30)) + (I_6 q_8 (I_6 l0 30 : Int32).toNatClampNeg) : Int32).toNatClampNeg l2) fun I_9 =>
      gO w_1 6 l0 (
      gV w_1 l0 9 fun q_10 =>
      gO w_1 6 l0 (
      gA w_1 10 20 q_10 (I_9 l0 30) (
      gA w_1 10 10 q_10 (I_9 l0 30) (
      lt_ (sm_up2 I_9 q_10 (I_9 l0 30 : Int32).toNatClampNeg ((I_9 q_10 (I_9 l0 30 : Int32).toNatClampNeg) + 1)) fun I_11 =>
      some (none, w_1, I_11, J_3)))))))))))))))))))
theorem ok_96_27 {K : Nat → Value} {k d : Nat} {l0 : Nat} {l1 : Int32} {l2 : Int32} {l3 : Int32} {s0 : Int32} {w : aW} {I : aI} {J : aJ} {R : aR} (h : f_96_27 K k d l0 l1 l2 l3 s0 w I J = some R) : Go K (d + 1) 96 27 [some (.ref l0), some (.int l1), some (.int l2), some (.int l3), none] [.int s0] w I J R := by
  unfold f_96_27 at h
  refine gs_0 (pc' := 29) (L' := [some (.ref l0), some (.int l1), some (.int l2), some (.int l3), some (.int s0)]) (st' := []) cd_96_27 rfl rfl ?_
  refine gs_0 (pc' := 30) (L' := [some (.ref l0), some (.int l1), some (.int l2), some (.int l3), some (.int s0)]) (st' := [.ref l0]) cd_96_29 rfl rfl ?_
  refine gs_0 (pc' := 32) (L' := [some (.ref l0), some (.int l1), some (.int l2), some (.int l3), some (.int s0)]) (st' := [.int s0, .ref l0]) cd_96_30 rfl rfl ?_
  refine gs_0 (pc' := 33) (L' := [some (.ref l0), some (.int l1), some (.int l2), some (.int l3), some (.int s0)]) (st' := [.int l3, .int s0, .ref l0]) cd_96_32 rfl rfl ?_
  obtain ⟨ht, h⟩ := gO_s h
  obtain ⟨w_1, I_2, J_3, hcl, h⟩ := cV_s h
  refine gs_call (as := [.ref l0, .int s0, .int l3]) (rest := []) cd_96_33 rfl (by decide) rfl (sm_rv_ok (by decide) ht) (Nat.le_of_ble_eq_true rfl) (Nat.le_of_ble_eq_true rfl) rfl hcl ?_
  refine gs_0 (pc' := 38) (L' := [some (.ref l0), some (.int l1), some (.int l2), some (.int l3), some (.int s0)]) (st' := [.int s0]) cd_96_36 rfl rfl ?_
  refine gs_0 (pc' := if s0 = 0 then 107 else 41) (L' := [some (.ref l0), some (.int l1), some (.int l2), some (.int l3), some (.int s0)]) (st' := []) cd_96_38 rfl rfl ?_
  refine go_ite (fun hc => ?_) (fun hc => ?_)
  · rw [if_pos hc] at h
    cases h
    exact gsr cd_96_107 rfl rfl
  · rw [if_neg hc] at h
    refine gs_0 (pc' := 42) (L' := [some (.ref l0), some (.int l1), some (.int l2), some (.int l3), some (.int s0)]) (st' := [.ref l0]) cd_96_41 rfl rfl ?_
    obtain ⟨ht, h⟩ := gO_s h
    refine gs_gfI cd_96_42 (by decide) (by decide) ht ?_
    refine gs_0 (pc' := if ¬ (I_2 l0 26) = 0 then 107 else 48) (L' := [some (.ref l0), some (.int l1), some (.int l2), some (.int l3), some (.int s0)]) (st' := []) cd_96_45 rfl rfl ?_
    refine go_ite (fun hc => ?_) (fun hc => ?_)
    · rw [if_pos hc] at h
      cases h
      exact gsr cd_96_107 rfl rfl
    · rw [if_neg hc] at h
      refine gs_0 (pc' := 49) (L' := [some (.ref l0), some (.int l1), some (.int l2), some (.int l3), some (.int s0)]) (st' := [.ref l0]) cd_96_48 rfl rfl ?_
      obtain ⟨ht, h⟩ := gO_s h
      obtain ⟨q_4, hv, h⟩ := gV_s h
      refine gs_gfR cd_96_49 (by decide) ht hv ?_
      refine gs_0 (pc' := 54) (L' := [some (.ref l0), some (.int l1), some (.int l2), some (.int l3), some (.int s0)]) (st' := [.int 6, .ref q_4]) cd_96_52 rfl rfl ?_
      refine gs_0 (pc' := 55) (L' := [some (.ref l0), some (.int l1), some (.int l2), some (.int l3), some (.int s0)]) (st' := [.ref l0, .int 6, .ref q_4]) cd_96_54 rfl rfl ?_
      obtain ⟨ht, h⟩ := gO_s h
      refine gs_gfI cd_96_55 (by decide) (by decide) ht ?_
      refine gs_0 (pc' := 59) (L' := [some (.ref l0), some (.int l1), some (.int l2), some (.int l3), some (.int s0)]) (st' := [.int (6 * (I_2 l0 30)), .ref q_4]) cd_96_58 rfl rfl ?_
      refine gs_0 (pc' := 60) (L' := [some (.ref l0), some (.int l1), some (.int l2), some (.int l3), some (.int s0)]) (st' := [.ref l0, .int (6 * (I_2 l0 30)), .ref q_4]) cd_96_59 rfl rfl ?_
      obtain ⟨ht, h⟩ := gO_s h
      obtain ⟨q_5, hv, h⟩ := gV_s h
      refine gs_gfR cd_96_60 (by decide) ht hv ?_
      refine gs_0 (pc' := 64) (L' := [some (.ref l0), some (.int l1), some (.int l2), some (.int l3), some (.int s0)]) (st' := [.ref l0, .ref q_5, .int (6 * (I_2 l0 30)), .ref q_4]) cd_96_63 rfl rfl ?_
      obtain ⟨ht, h⟩ := gO_s h
      refine gs_gfI cd_96_64 (by decide) (by decide) ht ?_
      obtain ⟨ht, h⟩ := gA_s h
      refine gs_iald cd_96_67 ht ?_
      refine gs_0 (pc' := 69) (L' := [some (.ref l0), some (.int l1), some (.int l2), some (.int l3), some (.int s0)]) (st' := [.int ((6 * (I_2 l0 30)) + (I_2 q_5 (I_2 l0 30 : Int32).toNatClampNeg)), .ref q_4]) cd_96_68 rfl rfl ?_
      refine gs_0 (pc' := 70) (L' := [some (.ref l0), some (.int l1), some (.int l2), some (.int l3), some (.int s0)]) (st' := [.int l1, .int ((6 * (I_2 l0 30)) + (I_2 q_5 (I_2 l0 30 : Int32).toNatClampNeg)), .ref q_4]) cd_96_69 rfl rfl ?_
      obtain ⟨ht, h⟩ := gA_s h
      refine gs_iast cd_96_70 ht ?_
      obtain ⟨I_6, hx, h⟩ := lt_s_ h
      rw [hx]
      refine gs_0 (pc' := 72) (L' := [some (.ref l0), some (.int l1), some (.int l2), some (.int l3), some (.int s0)]) (st' := [.ref l0]) cd_96_71 rfl rfl ?_
      obtain ⟨ht, h⟩ := gO_s h
      obtain ⟨q_7, hv, h⟩ := gV_s h
      refine gs_gfR cd_96_72 (by decide) ht hv ?_
      refine gs_0 (pc' := 77) (L' := [some (.ref l0), some (.int l1), some (.int l2), some (.int l3), some (.int s0)]) (st' := [.int 6, .ref q_7]) cd_96_75 rfl rfl ?_
      refine gs_0 (pc' := 78) (L' := [some (.ref l0), some (.int l1), some (.int l2), some (.int l3), some (.int s0)]) (st' := [.ref l0, .int 6, .ref q_7]) cd_96_77 rfl rfl ?_
      obtain ⟨ht, h⟩ := gO_s h
      refine gs_gfI cd_96_78 (by decide) (by decide) ht ?_
      refine gs_0 (pc' := 82) (L' := [some (.ref l0), some (.int l1), some (.int l2), some (.int l3), some (.int s0)]) (st' := [.int (6 * (I_6 l0 30)), .ref q_7]) cd_96_81 rfl rfl ?_
      refine gs_0 (pc' := 83) (L' := [some (.ref l0), some (.int l1), some (.int l2), some (.int l3), some (.int s0)]) (st' := [.ref l0, .int (6 * (I_6 l0 30)), .ref q_7]) cd_96_82 rfl rfl ?_
      obtain ⟨ht, h⟩ := gO_s h
      obtain ⟨q_8, hv, h⟩ := gV_s h
      refine gs_gfR cd_96_83 (by decide) ht hv ?_
      refine gs_0 (pc' := 87) (L' := [some (.ref l0), some (.int l1), some (.int l2), some (.int l3), some (.int s0)]) (st' := [.ref l0, .ref q_8, .int (6 * (I_6 l0 30)), .ref q_7]) cd_96_86 rfl rfl ?_
      obtain ⟨ht, h⟩ := gO_s h
      refine gs_gfI cd_96_87 (by decide) (by decide) ht ?_
      obtain ⟨ht, h⟩ := gA_s h
      refine gs_iald cd_96_90 ht ?_
      refine gs_0 (pc' := 92) (L' := [some (.ref l0), some (.int l1), some (.int l2), some (.int l3), some (.int s0)]) (st' := [.int ((6 * (I_6 l0 30)) + (I_6 q_8 (I_6 l0 30 : Int32).toNatClampNeg)), .ref q_7]) cd_96_91 rfl rfl ?_
      refine gs_0 (pc' := 93) (L' := [some (.ref l0), some (.int l1), some (.int l2), some (.int l3), some (.int s0)]) (st' := [.int l2, .int ((6 * (I_6 l0 30)) + (I_6 q_8 (I_6 l0 30 : Int32).toNatClampNeg)), .ref q_7]) cd_96_92 rfl rfl ?_
      obtain ⟨ht, h⟩ := gA_s h
      refine gs_iast cd_96_93 ht ?_
      obtain ⟨I_9, hx, h⟩ := lt_s_ h
      rw [hx]
      refine gs_0 (pc' := 95) (L' := [some (.ref l0), some (.int l1), some (.int l2), some (.int l3), some (.int s0)]) (st' := [.ref l0]) cd_96_94 rfl rfl ?_
      obtain ⟨ht, h⟩ := gO_s h
      obtain ⟨q_10, hv, h⟩ := gV_s h
      refine gs_gfR cd_96_95 (by decide) ht hv ?_
      refine gs_0 (pc' := 99) (L' := [some (.ref l0), some (.int l1), some (.int l2), some (.int l3), some (.int s0)]) (st' := [.ref l0, .ref q_10]) cd_96_98 rfl rfl ?_
      obtain ⟨ht, h⟩ := gO_s h
      refine gs_gfI cd_96_99 (by decide) (by decide) ht ?_
      refine gs_0 (pc' := 103) (L' := [some (.ref l0), some (.int l1), some (.int l2), some (.int l3), some (.int s0)]) (st' := [.int (I_9 l0 30), .ref q_10, .int (I_9 l0 30), .ref q_10]) cd_96_102 rfl rfl ?_
      obtain ⟨ht, h⟩ := gA_s h
      refine gs_iald cd_96_103 ht ?_
      refine gs_0 (pc' := 105) (L' := [some (.ref l0), some (.int l1), some (.int l2), some (.int l3), some (.int s0)]) (st' := [.int 1, .int (I_9 q_10 (I_9 l0 30 : Int32).toNatClampNeg), .int (I_9 l0 30), .ref q_10]) cd_96_104 rfl rfl ?_
      refine gs_0 (pc' := 106) (L' := [some (.ref l0), some (.int l1), some (.int l2), some (.int l3), some (.int s0)]) (st' := [.int ((I_9 q_10 (I_9 l0 30 : Int32).toNatClampNeg) + 1), .int (I_9 l0 30), .ref q_10]) cd_96_105 rfl rfl ?_
      obtain ⟨ht, h⟩ := gA_s h
      refine gs_iast cd_96_106 ht ?_
      obtain ⟨I_11, hx, h⟩ := lt_s_ h
      rw [hx]
      cases h
      exact gsr cd_96_107 rfl rfl
noncomputable def f_96_26 (K : Nat → Value) (k d : Nat) (l0 : Nat) (l1 : Int32) (l2 : Int32) (l3 : Int32) (w : aW) (I : aI) (J : aJ) : Option aR :=
  f_96_27 K k d l0 l1 l2 l3 0 w I J
theorem ok_96_26 {K : Nat → Value} {k d : Nat} {l0 : Nat} {l1 : Int32} {l2 : Int32} {l3 : Int32} {w : aW} {I : aI} {J : aJ} {R : aR} (h : f_96_26 K k d l0 l1 l2 l3 w I J = some R) : Go K (d + 1) 96 26 [some (.ref l0), some (.int l1), some (.int l2), some (.int l3), none] [] w I J R := by
  unfold f_96_26 at h
  refine gs_0 (pc' := 27) (L' := [some (.ref l0), some (.int l1), some (.int l2), some (.int l3), none]) (st' := [.int 0]) cd_96_26 rfl rfl ?_
  exact ok_96_27 h
noncomputable def f_96 (K : Nat → Value) (k d : Nat) (l0 : Nat) (l1 : Int32) (l2 : Int32) (l3 : Int32) (w : aW) (I : aI) (J : aJ) : Option aR :=
  gO w 6 l0 (
  cI (Cl K d 97 [.ref l0, .int l1] w I J) fun x_4 w_1 I_2 J_3 =>
  if 0 ≤ x_4 then
    f_96_26 K k d l0 l1 l2 l3 w_1 I_2 J_3
  else
    gO w_1 6 l0 (
    gV w_1 l0 9 fun q_5 =>
    gO w_1 6 l0 (
    gA w_1 10 20 q_5 (I_2 l0 30) (
    if 6 ≤ (I_2 q_5 (I_2 l0 30 : Int32).toNatClampNeg) then
      f_96_26 K k d l0 l1 l2 l3 w_1 I_2 J_3
    else
      f_96_27 K k d l0 l1 l2 l3 1 w_1 I_2 J_3))))
theorem ok_96 {K : Nat → Value} {k d : Nat} {l0 : Nat} {l1 : Int32} {l2 : Int32} {l3 : Int32} {w : aW} {I : aI} {J : aJ} {R : aR} (h : f_96 K k d l0 l1 l2 l3 w I J = some R) : Go K (d + 1) 96 0 [some (.ref l0), some (.int l1), some (.int l2), some (.int l3), none] [] w I J R := by
  unfold f_96 at h
  refine gs_0 (pc' := 1) (L' := [some (.ref l0), some (.int l1), some (.int l2), some (.int l3), none]) (st' := [.ref l0]) cd_96_0 rfl rfl ?_
  refine gs_0 (pc' := 2) (L' := [some (.ref l0), some (.int l1), some (.int l2), some (.int l3), none]) (st' := [.int l1, .ref l0]) cd_96_1 rfl rfl ?_
  obtain ⟨ht, h⟩ := gO_s h
  obtain ⟨x_4, w_1, I_2, J_3, hcl, h⟩ := cI_s h
  refine gs_call (as := [.ref l0, .int l1]) (rest := []) cd_96_2 rfl (by decide) rfl (sm_rv_ok (by decide) ht) (Nat.le_of_ble_eq_true rfl) (Nat.le_of_ble_eq_true rfl) rfl hcl ?_
  refine gs_0 (pc' := if 0 ≤ x_4 then 26 else 8) (L' := [some (.ref l0), some (.int l1), some (.int l2), some (.int l3), none]) (st' := []) cd_96_5 rfl rfl ?_
  refine go_ite (fun hc => ?_) (fun hc => ?_)
  · rw [if_pos hc] at h
    exact ok_96_26 h
  · rw [if_neg hc] at h
    refine gs_0 (pc' := 9) (L' := [some (.ref l0), some (.int l1), some (.int l2), some (.int l3), none]) (st' := [.ref l0]) cd_96_8 rfl rfl ?_
    obtain ⟨ht, h⟩ := gO_s h
    obtain ⟨q_5, hv, h⟩ := gV_s h
    refine gs_gfR cd_96_9 (by decide) ht hv ?_
    refine gs_0 (pc' := 13) (L' := [some (.ref l0), some (.int l1), some (.int l2), some (.int l3), none]) (st' := [.ref l0, .ref q_5]) cd_96_12 rfl rfl ?_
    obtain ⟨ht, h⟩ := gO_s h
    refine gs_gfI cd_96_13 (by decide) (by decide) ht ?_
    obtain ⟨ht, h⟩ := gA_s h
    refine gs_iald cd_96_16 ht ?_
    refine gs_0 (pc' := 19) (L' := [some (.ref l0), some (.int l1), some (.int l2), some (.int l3), none]) (st' := [.int 6, .int (I_2 q_5 (I_2 l0 30 : Int32).toNatClampNeg)]) cd_96_17 rfl rfl ?_
    refine gs_0 (pc' := if 6 ≤ (I_2 q_5 (I_2 l0 30 : Int32).toNatClampNeg) then 26 else 22) (L' := [some (.ref l0), some (.int l1), some (.int l2), some (.int l3), none]) (st' := []) cd_96_19 rfl rfl ?_
    refine go_ite (fun hc => ?_) (fun hc => ?_)
    · rw [if_pos hc] at h
      exact ok_96_26 h
    · rw [if_neg hc] at h
      refine gs_0 (pc' := 23) (L' := [some (.ref l0), some (.int l1), some (.int l2), some (.int l3), none]) (st' := [.int 1]) cd_96_22 rfl rfl ?_
      refine gs_0 (pc' := 27) (L' := [some (.ref l0), some (.int l1), some (.int l2), some (.int l3), none]) (st' := [.int 1]) cd_96_23 rfl rfl ?_
      exact ok_96_27 h
theorem cl_96 {K : Nat → Value} {k d : Nat} {l0 : Nat} {l1 : Int32} {l2 : Int32} {l3 : Int32} {w : aW} {I : aI} {J : aJ} {R : aR} (h : f_96 K k d l0 l1 l2 l3 w I J = some R) : Cl K (d + 1) 96 [.ref l0, .int l1, .int l2, .int l3] w I J = some R := Cl_of (ok_96 h)
/-! ProvedMachineModel.numberOf(I)I -/
theorem gl_97 : gcd.lookup 97 = some gw_97 := rfl
theorem cd_97_0 : sm_cd 97 0 = some (.iconst 0, 1, 0, 0, 0, 0, 0, 0, 0) := cd_of gl_97 rfl
theorem cd_97_1 : sm_cd 97 1 = some (.istore_n 2, 1, 2, 0, 0, 0, 0, 0, 0) := cd_of gl_97 rfl
theorem cd_97_2 : sm_cd 97 2 = some (.iload_n 2, 1, 2, 0, 0, 0, 0, 0, 0) := cd_of gl_97 rfl
theorem cd_97_3 : sm_cd 97 3 = some (.aload_n 0, 1, 0, 0, 0, 0, 0, 0, 0) := cd_of gl_97 rfl
theorem cd_97_4 : sm_cd 97 4 = some (.getfield 29, 3, 6, 9, 2, 0, 0, 0, 0) := cd_of gl_97 rfl
theorem cd_97_7 : sm_cd 97 7 = some (.aload_n 0, 1, 0, 0, 0, 0, 0, 0, 0) := cd_of gl_97 rfl
theorem cd_97_8 : sm_cd 97 8 = some (.getfield 216, 3, 6, 30, 0, 0, 0, 0, 0) := cd_of gl_97 rfl
theorem cd_97_11 : sm_cd 97 11 = some (.iaload, 1, 0, 0, 0, 0, 0, 0, 0) := cd_of gl_97 rfl
theorem cd_97_12 : sm_cd 97 12 = some (.if_icmp .ge 29, 3, 41, 0, 0, 0, 0, 0, 0) := cd_of gl_97 rfl
theorem cd_97_15 : sm_cd 97 15 = some (.aload_n 0, 1, 0, 0, 0, 0, 0, 0, 0) := cd_of gl_97 rfl
theorem cd_97_16 : sm_cd 97 16 = some (.getfield 35, 3, 6, 11, 2, 0, 0, 0, 0) := cd_of gl_97 rfl
theorem cd_97_19 : sm_cd 97 19 = some (.bipush 6, 2, 0, 0, 0, 0, 0, 6, 0) := cd_of gl_97 rfl
theorem cd_97_21 : sm_cd 97 21 = some (.aload_n 0, 1, 0, 0, 0, 0, 0, 0, 0) := cd_of gl_97 rfl
theorem cd_97_22 : sm_cd 97 22 = some (.getfield 216, 3, 6, 30, 0, 0, 0, 0, 0) := cd_of gl_97 rfl
theorem cd_97_25 : sm_cd 97 25 = some (.imul, 1, 0, 0, 0, 0, 0, 0, 0) := cd_of gl_97 rfl
theorem cd_97_26 : sm_cd 97 26 = some (.iload_n 2, 1, 2, 0, 0, 0, 0, 0, 0) := cd_of gl_97 rfl
theorem cd_97_27 : sm_cd 97 27 = some (.iadd, 1, 0, 0, 0, 0, 0, 0, 0) := cd_of gl_97 rfl
theorem cd_97_28 : sm_cd 97 28 = some (.iaload, 1, 0, 0, 0, 0, 0, 0, 0) := cd_of gl_97 rfl
theorem cd_97_29 : sm_cd 97 29 = some (.iload_n 1, 1, 1, 0, 0, 0, 0, 0, 0) := cd_of gl_97 rfl
theorem cd_97_30 : sm_cd 97 30 = some (.if_icmp .ne 5, 3, 35, 0, 0, 0, 0, 0, 0) := cd_of gl_97 rfl
theorem cd_97_33 : sm_cd 97 33 = some (.iload_n 2, 1, 2, 0, 0, 0, 0, 0, 0) := cd_of gl_97 rfl
theorem cd_97_34 : sm_cd 97 34 = some (.ireturn, 1, 0, 0, 1, 0, 0, 0, 0) := cd_of gl_97 rfl
theorem cd_97_35 : sm_cd 97 35 = some (.iinc 2 1, 3, 2, 0, 0, 0, 0, 1, 0) := cd_of gl_97 rfl
theorem cd_97_38 : sm_cd 97 38 = some (.goto (-36), 3, 2, 0, 0, 0, 0, 0, 0) := cd_of gl_97 rfl
theorem cd_97_41 : sm_cd 97 41 = some (.iconst (-1), 1, 0, 0, 0, 0, 0, (-1), 0) := cd_of gl_97 rfl
theorem cd_97_42 : sm_cd 97 42 = some (.ireturn, 1, 0, 0, 1, 0, 0, 0, 0) := cd_of gl_97 rfl
noncomputable def f_97_2 (K : Nat → Value) (k : Nat) (d : Nat) : Nat → Int32 → Int32 → aW → aI → aJ → Option aR :=
  match k with
  | 0 => fun _ _ _ _ _ _ => none
  | k + 1 => fun l0 l1 l2 w I J =>
  lt_ (f_97_2 K k d) fun r2 =>
  gO w 6 l0 (
  gV w l0 9 fun q_1 =>
  gO w 6 l0 (
  gA w 10 20 q_1 (I l0 30) (
  if (I q_1 (I l0 30 : Int32).toNatClampNeg) ≤ l2 then
    some (some (.int (-1)), w, I, J)
  else
    gO w 6 l0 (
    gV w l0 11 fun q_2 =>
    gO w 6 l0 (
    gA w 10 20 q_2 ((6 * (I l0 30)) + l2) (
    if ¬ (I q_2 ((6 * (I l0 30)) + l2 : Int32).toNatClampNeg) = l1 then
      lt_ (l2 + 1) fun x_3 =>
      r2 l0 l1 x_3 w I J
    else
      some (some (.int l2), w, I, J)))))))
theorem ok_97_2 {K : Nat → Value} {d : Nat} : ∀ {k : Nat} {l0 : Nat} {l1 : Int32} {l2 : Int32} {w : aW} {I : aI} {J : aJ} {R : aR}, f_97_2 K k d l0 l1 l2 w I J = some R → Go K (d + 1) 97 2 [some (.ref l0), some (.int l1), some (.int l2)] [] w I J R := by
  intro k
  induction k with
  | zero => intro l0 l1 l2 w I J R h; cases h
  | succ k ih =>
    intro l0 l1 l2 w I J R h
    have hr2 : ∀ (l0 : Nat) (l1 : Int32) (l2 : Int32) (w : aW) (I : aI) (J : aJ) (R : aR), f_97_2 K k d l0 l1 l2 w I J = some R → Go K (d + 1) 97 2 [some (.ref l0), some (.int l1), some (.int l2)] [] w I J R := fun l0 l1 l2 w I J R h => ih h
    rw [f_97_2] at h
    obtain ⟨r2, hx, h⟩ := lt_s_ h
    rw [hx] at hr2
    clear hx ih
    refine gs_0 (pc' := 3) (L' := [some (.ref l0), some (.int l1), some (.int l2)]) (st' := [.int l2]) cd_97_2 rfl rfl ?_
    refine gs_0 (pc' := 4) (L' := [some (.ref l0), some (.int l1), some (.int l2)]) (st' := [.ref l0, .int l2]) cd_97_3 rfl rfl ?_
    obtain ⟨ht, h⟩ := gO_s h
    obtain ⟨q_1, hv, h⟩ := gV_s h
    refine gs_gfR cd_97_4 (by decide) ht hv ?_
    refine gs_0 (pc' := 8) (L' := [some (.ref l0), some (.int l1), some (.int l2)]) (st' := [.ref l0, .ref q_1, .int l2]) cd_97_7 rfl rfl ?_
    obtain ⟨ht, h⟩ := gO_s h
    refine gs_gfI cd_97_8 (by decide) (by decide) ht ?_
    obtain ⟨ht, h⟩ := gA_s h
    refine gs_iald cd_97_11 ht ?_
    refine gs_0 (pc' := if (I q_1 (I l0 30 : Int32).toNatClampNeg) ≤ l2 then 41 else 15) (L' := [some (.ref l0), some (.int l1), some (.int l2)]) (st' := []) cd_97_12 rfl rfl ?_
    refine go_ite (fun hc => ?_) (fun hc => ?_)
    · rw [if_pos hc] at h
      refine gs_0 (pc' := 42) (L' := [some (.ref l0), some (.int l1), some (.int l2)]) (st' := [.int ((-1))]) cd_97_41 rfl rfl ?_
      cases h
      exact gs_ri cd_97_42 (Or.inl rfl)
    · rw [if_neg hc] at h
      refine gs_0 (pc' := 16) (L' := [some (.ref l0), some (.int l1), some (.int l2)]) (st' := [.ref l0]) cd_97_15 rfl rfl ?_
      obtain ⟨ht, h⟩ := gO_s h
      obtain ⟨q_2, hv, h⟩ := gV_s h
      refine gs_gfR cd_97_16 (by decide) ht hv ?_
      refine gs_0 (pc' := 21) (L' := [some (.ref l0), some (.int l1), some (.int l2)]) (st' := [.int 6, .ref q_2]) cd_97_19 rfl rfl ?_
      refine gs_0 (pc' := 22) (L' := [some (.ref l0), some (.int l1), some (.int l2)]) (st' := [.ref l0, .int 6, .ref q_2]) cd_97_21 rfl rfl ?_
      obtain ⟨ht, h⟩ := gO_s h
      refine gs_gfI cd_97_22 (by decide) (by decide) ht ?_
      refine gs_0 (pc' := 26) (L' := [some (.ref l0), some (.int l1), some (.int l2)]) (st' := [.int (6 * (I l0 30)), .ref q_2]) cd_97_25 rfl rfl ?_
      refine gs_0 (pc' := 27) (L' := [some (.ref l0), some (.int l1), some (.int l2)]) (st' := [.int l2, .int (6 * (I l0 30)), .ref q_2]) cd_97_26 rfl rfl ?_
      refine gs_0 (pc' := 28) (L' := [some (.ref l0), some (.int l1), some (.int l2)]) (st' := [.int ((6 * (I l0 30)) + l2), .ref q_2]) cd_97_27 rfl rfl ?_
      obtain ⟨ht, h⟩ := gA_s h
      refine gs_iald cd_97_28 ht ?_
      refine gs_0 (pc' := 30) (L' := [some (.ref l0), some (.int l1), some (.int l2)]) (st' := [.int l1, .int (I q_2 ((6 * (I l0 30)) + l2 : Int32).toNatClampNeg)]) cd_97_29 rfl rfl ?_
      refine gs_0 (pc' := if ¬ (I q_2 ((6 * (I l0 30)) + l2 : Int32).toNatClampNeg) = l1 then 35 else 33) (L' := [some (.ref l0), some (.int l1), some (.int l2)]) (st' := []) cd_97_30 rfl rfl ?_
      refine go_ite (fun hc => ?_) (fun hc => ?_)
      · rw [if_pos hc] at h
        refine gs_0 (pc' := 38) (L' := [some (.ref l0), some (.int l1), some (.int (l2 + 1))]) (st' := []) cd_97_35 rfl rfl ?_
        obtain ⟨x_3, hx, h⟩ := lt_s_ h
        rw [hx]
        clear hx
        refine gs_0 (pc' := 2) (L' := [some (.ref l0), some (.int l1), some (.int x_3)]) (st' := []) cd_97_38 rfl rfl ?_
        exact hr2 l0 l1 x_3 _ _ _ _ h
      · rw [if_neg hc] at h
        refine gs_0 (pc' := 34) (L' := [some (.ref l0), some (.int l1), some (.int l2)]) (st' := [.int l2]) cd_97_33 rfl rfl ?_
        cases h
        exact gs_ri cd_97_34 (Or.inl rfl)
noncomputable def f_97 (K : Nat → Value) (k d : Nat) (l0 : Nat) (l1 : Int32) (w : aW) (I : aI) (J : aJ) : Option aR :=
  f_97_2 K k d l0 l1 0 w I J
theorem ok_97 {K : Nat → Value} {k d : Nat} {l0 : Nat} {l1 : Int32} {w : aW} {I : aI} {J : aJ} {R : aR} (h : f_97 K k d l0 l1 w I J = some R) : Go K (d + 1) 97 0 [some (.ref l0), some (.int l1), none] [] w I J R := by
  unfold f_97 at h
  refine gs_0 (pc' := 1) (L' := [some (.ref l0), some (.int l1), none]) (st' := [.int 0]) cd_97_0 rfl rfl ?_
  refine gs_0 (pc' := 2) (L' := [some (.ref l0), some (.int l1), some (.int 0)]) (st' := []) cd_97_1 rfl rfl ?_
  exact ok_97_2 h
theorem cl_97 {K : Nat → Value} {k d : Nat} {l0 : Nat} {l1 : Int32} {w : aW} {I : aI} {J : aJ} {R : aR} (h : f_97 K k d l0 l1 w I J = some R) : Cl K (d + 1) 97 [.ref l0, .int l1] w I J = some R := Cl_of (ok_97 h)
/-! ProvedMachineModel.block()V -/
theorem gl_98 : gcd.lookup 98 = some gw_98 := rfl
theorem cd_98_0 : sm_cd 98 0 = some (.aload_n 0, 1, 0, 0, 0, 0, 0, 0, 0) := cd_of gl_98 rfl
theorem cd_98_1 : sm_cd 98 1 = some (.bipush 123, 2, 0, 0, 0, 0, 0, 123, 0) := cd_of gl_98 rfl
theorem cd_98_3 : sm_cd 98 3 = some (.invokevirtual 275, 3, 93, 0, 1, 2, 6, 0, 0) := cd_of gl_98 rfl
theorem cd_98_6 : sm_cd 98 6 = some (.aload_n 0, 1, 0, 0, 0, 0, 0, 0, 0) := cd_of gl_98 rfl
theorem cd_98_7 : sm_cd 98 7 = some (.getfield 193, 3, 6, 26, 1, 0, 0, 0, 0) := cd_of gl_98 rfl
theorem cd_98_10 : sm_cd 98 10 = some (.ifCond .ne 19, 3, 29, 0, 0, 0, 0, 0, 0) := cd_of gl_98 rfl
theorem cd_98_13 : sm_cd 98 13 = some (.aload_n 0, 1, 0, 0, 0, 0, 0, 0, 0) := cd_of gl_98 rfl
theorem cd_98_14 : sm_cd 98 14 = some (.bipush 125, 2, 0, 0, 0, 0, 0, 125, 0) := cd_of gl_98 rfl
theorem cd_98_16 : sm_cd 98 16 = some (.invokevirtual 200, 3, 94, 0, 1, 2, 6, 0, 0) := cd_of gl_98 rfl
theorem cd_98_19 : sm_cd 98 19 = some (.ifCond .ne 10, 3, 29, 0, 0, 0, 0, 0, 0) := cd_of gl_98 rfl
theorem cd_98_22 : sm_cd 98 22 = some (.aload_n 0, 1, 0, 0, 0, 0, 0, 0, 0) := cd_of gl_98 rfl
theorem cd_98_23 : sm_cd 98 23 = some (.invokevirtual 291, 3, 99, 0, 0, 4, 6, 0, 0) := cd_of gl_98 rfl
theorem cd_98_26 : sm_cd 98 26 = some (.goto (-20), 3, 6, 0, 0, 0, 0, 0, 0) := cd_of gl_98 rfl
theorem cd_98_29 : sm_cd 98 29 = some (.aload_n 0, 1, 0, 0, 0, 0, 0, 0, 0) := cd_of gl_98 rfl
theorem cd_98_30 : sm_cd 98 30 = some (.bipush 125, 2, 0, 0, 0, 0, 0, 125, 0) := cd_of gl_98 rfl
theorem cd_98_32 : sm_cd 98 32 = some (.invokevirtual 275, 3, 93, 0, 1, 2, 6, 0, 0) := cd_of gl_98 rfl
theorem cd_98_35 : sm_cd 98 35 = some (.return_, 1, 0, 0, 0, 0, 0, 0, 0) := cd_of gl_98 rfl
noncomputable def f_98_29 (K : Nat → Value) (k d : Nat) (l0 : Nat) (w : aW) (I : aI) (J : aJ) : Option aR :=
  gO w 6 l0 (
  cV (Cl K d 93 [.ref l0, .int 125] w I J) fun w_1 I_2 J_3 =>
  some (none, w_1, I_2, J_3))
theorem ok_98_29 {K : Nat → Value} {k d : Nat} {l0 : Nat} {w : aW} {I : aI} {J : aJ} {R : aR} (h : f_98_29 K k d l0 w I J = some R) : Go K (d + 1) 98 29 [some (.ref l0)] [] w I J R := by
  unfold f_98_29 at h
  refine gs_0 (pc' := 30) (L' := [some (.ref l0)]) (st' := [.ref l0]) cd_98_29 rfl rfl ?_
  refine gs_0 (pc' := 32) (L' := [some (.ref l0)]) (st' := [.int 125, .ref l0]) cd_98_30 rfl rfl ?_
  obtain ⟨ht, h⟩ := gO_s h
  obtain ⟨w_1, I_2, J_3, hcl, h⟩ := cV_s h
  refine gs_call (as := [.ref l0, .int 125]) (rest := []) cd_98_32 rfl (by decide) rfl (sm_rv_ok (by decide) ht) (Nat.le_of_ble_eq_true rfl) (Nat.le_of_ble_eq_true rfl) rfl hcl ?_
  cases h
  exact gsr cd_98_35 rfl rfl
noncomputable def f_98_6 (K : Nat → Value) (k : Nat) (d : Nat) : Nat → aW → aI → aJ → Option aR :=
  match k with
  | 0 => fun _ _ _ _ => none
  | k + 1 => fun l0 w I J =>
  lt_ (f_98_6 K k d) fun r6 =>
  gO w 6 l0 (
  if ¬ (I l0 26) = 0 then
    f_98_29 K k d l0 w I J
  else
    gO w 6 l0 (
    cI (Cl K d 94 [.ref l0, .int 125] w I J) fun x_4 w_1 I_2 J_3 =>
    if ¬ x_4 = 0 then
      f_98_29 K k d l0 w_1 I_2 J_3
    else
      gO w_1 6 l0 (
      cV (Cl K d 99 [.ref l0] w_1 I_2 J_3) fun w_5 I_6 J_7 =>
      r6 l0 w_5 I_6 J_7)))
theorem ok_98_6 {K : Nat → Value} {d : Nat} : ∀ {k : Nat} {l0 : Nat} {w : aW} {I : aI} {J : aJ} {R : aR}, f_98_6 K k d l0 w I J = some R → Go K (d + 1) 98 6 [some (.ref l0)] [] w I J R := by
  intro k
  induction k with
  | zero => intro l0 w I J R h; cases h
  | succ k ih =>
    intro l0 w I J R h
    have hr6 : ∀ (l0 : Nat) (w : aW) (I : aI) (J : aJ) (R : aR), f_98_6 K k d l0 w I J = some R → Go K (d + 1) 98 6 [some (.ref l0)] [] w I J R := fun l0 w I J R h => ih h
    rw [f_98_6] at h
    obtain ⟨r6, hx, h⟩ := lt_s_ h
    rw [hx] at hr6
    clear hx ih
    refine gs_0 (pc' := 7) (L' := [some (.ref l0)]) (st' := [.ref l0]) cd_98_6 rfl rfl ?_
    obtain ⟨ht, h⟩ := gO_s h
    refine gs_gfI cd_98_7 (by decide) (by decide) ht ?_
    refine gs_0 (pc' := if ¬ (I l0 26) = 0 then 29 else 13) (L' := [some (.ref l0)]) (st' := []) cd_98_10 rfl rfl ?_
    refine go_ite (fun hc => ?_) (fun hc => ?_)
    · rw [if_pos hc] at h
      exact ok_98_29 h
    · rw [if_neg hc] at h
      refine gs_0 (pc' := 14) (L' := [some (.ref l0)]) (st' := [.ref l0]) cd_98_13 rfl rfl ?_
      refine gs_0 (pc' := 16) (L' := [some (.ref l0)]) (st' := [.int 125, .ref l0]) cd_98_14 rfl rfl ?_
      obtain ⟨ht, h⟩ := gO_s h
      obtain ⟨x_4, w_1, I_2, J_3, hcl, h⟩ := cI_s h
      refine gs_call (as := [.ref l0, .int 125]) (rest := []) cd_98_16 rfl (by decide) rfl (sm_rv_ok (by decide) ht) (Nat.le_of_ble_eq_true rfl) (Nat.le_of_ble_eq_true rfl) rfl hcl ?_
      refine gs_0 (pc' := if ¬ x_4 = 0 then 29 else 22) (L' := [some (.ref l0)]) (st' := []) cd_98_19 rfl rfl ?_
      refine go_ite (fun hc => ?_) (fun hc => ?_)
      · rw [if_pos hc] at h
        exact ok_98_29 h
      · rw [if_neg hc] at h
        refine gs_0 (pc' := 23) (L' := [some (.ref l0)]) (st' := [.ref l0]) cd_98_22 rfl rfl ?_
        obtain ⟨ht, h⟩ := gO_s h
        obtain ⟨w_5, I_6, J_7, hcl, h⟩ := cV_s h
        refine gs_call (as := [.ref l0]) (rest := []) cd_98_23 rfl (by decide) rfl (sm_rv_ok (by decide) ht) (Nat.le_of_ble_eq_true rfl) (Nat.le_of_ble_eq_true rfl) rfl hcl ?_
        refine gs_0 (pc' := 6) (L' := [some (.ref l0)]) (st' := []) cd_98_26 rfl rfl ?_
        exact hr6 l0 _ _ _ _ h
noncomputable def f_98 (K : Nat → Value) (k d : Nat) (l0 : Nat) (w : aW) (I : aI) (J : aJ) : Option aR :=
  gO w 6 l0 (
  cV (Cl K d 93 [.ref l0, .int 123] w I J) fun w_1 I_2 J_3 =>
  f_98_6 K k d l0 w_1 I_2 J_3)
theorem ok_98 {K : Nat → Value} {k d : Nat} {l0 : Nat} {w : aW} {I : aI} {J : aJ} {R : aR} (h : f_98 K k d l0 w I J = some R) : Go K (d + 1) 98 0 [some (.ref l0)] [] w I J R := by
  unfold f_98 at h
  refine gs_0 (pc' := 1) (L' := [some (.ref l0)]) (st' := [.ref l0]) cd_98_0 rfl rfl ?_
  refine gs_0 (pc' := 3) (L' := [some (.ref l0)]) (st' := [.int 123, .ref l0]) cd_98_1 rfl rfl ?_
  obtain ⟨ht, h⟩ := gO_s h
  obtain ⟨w_1, I_2, J_3, hcl, h⟩ := cV_s h
  refine gs_call (as := [.ref l0, .int 123]) (rest := []) cd_98_3 rfl (by decide) rfl (sm_rv_ok (by decide) ht) (Nat.le_of_ble_eq_true rfl) (Nat.le_of_ble_eq_true rfl) rfl hcl ?_
  exact ok_98_6 h
theorem cl_98 {K : Nat → Value} {k d : Nat} {l0 : Nat} {w : aW} {I : aI} {J : aJ} {R : aR} (h : f_98 K k d l0 w I J = some R) : Cl K (d + 1) 98 [.ref l0] w I J = some R := Cl_of (ok_98 h)
/-! ProvedMachineModel.statement()V -/
theorem gl_99 : gcd.lookup 99 = some gw_99 := rfl
set_option maxRecDepth 20000 in
theorem cd_99_0 : sm_cd 99 0 = some (.aload_n 0, 1, 0, 0, 0, 0, 0, 0, 0) := cd_of gl_99 rfl
set_option maxRecDepth 20000 in
theorem cd_99_1 : sm_cd 99 1 = some (.getfield 160, 3, 6, 22, 0, 0, 0, 0, 0) := cd_of gl_99 rfl
set_option maxRecDepth 20000 in
theorem cd_99_4 : sm_cd 99 4 = some (.istore_n 1, 1, 1, 0, 0, 0, 0, 0, 0) := cd_of gl_99 rfl
set_option maxRecDepth 20000 in
theorem cd_99_5 : sm_cd 99 5 = some (.aload_n 0, 1, 0, 0, 0, 0, 0, 0, 0) := cd_of gl_99 rfl
set_option maxRecDepth 20000 in
theorem cd_99_6 : sm_cd 99 6 = some (.getfield 193, 3, 6, 26, 1, 0, 0, 0, 0) := cd_of gl_99 rfl
set_option maxRecDepth 20000 in
theorem cd_99_9 : sm_cd 99 9 = some (.ifCond .ne 27, 3, 36, 0, 0, 0, 0, 0, 0) := cd_of gl_99 rfl
set_option maxRecDepth 20000 in
theorem cd_99_12 : sm_cd 99 12 = some (.aload_n 0, 1, 0, 0, 0, 0, 0, 0, 0) := cd_of gl_99 rfl
set_option maxRecDepth 20000 in
theorem cd_99_13 : sm_cd 99 13 = some (.getfield 174, 3, 6, 24, 0, 0, 0, 0, 0) := cd_of gl_99 rfl
set_option maxRecDepth 20000 in
theorem cd_99_16 : sm_cd 99 16 = some (.iconst 2, 1, 0, 0, 0, 0, 0, 2, 0) := cd_of gl_99 rfl
set_option maxRecDepth 20000 in
theorem cd_99_17 : sm_cd 99 17 = some (.if_icmp .ne 19, 3, 36, 0, 0, 0, 0, 0, 0) := cd_of gl_99 rfl
set_option maxRecDepth 20000 in
theorem cd_99_20 : sm_cd 99 20 = some (.aload_n 0, 1, 0, 0, 0, 0, 0, 0, 0) := cd_of gl_99 rfl
set_option maxRecDepth 20000 in
theorem cd_99_21 : sm_cd 99 21 = some (.getfield 171, 3, 6, 25, 0, 0, 0, 0, 0) := cd_of gl_99 rfl
set_option maxRecDepth 20000 in
theorem cd_99_24 : sm_cd 99 24 = some (.iconst 3, 1, 0, 0, 0, 0, 0, 3, 0) := cd_of gl_99 rfl
set_option maxRecDepth 20000 in
theorem cd_99_25 : sm_cd 99 25 = some (.if_icmp .gt 11, 3, 36, 0, 0, 0, 0, 0, 0) := cd_of gl_99 rfl
set_option maxRecDepth 20000 in
theorem cd_99_28 : sm_cd 99 28 = some (.aload_n 0, 1, 0, 0, 0, 0, 0, 0, 0) := cd_of gl_99 rfl
set_option maxRecDepth 20000 in
theorem cd_99_29 : sm_cd 99 29 = some (.iload_n 1, 1, 1, 0, 0, 0, 0, 0, 0) := cd_of gl_99 rfl
set_option maxRecDepth 20000 in
theorem cd_99_30 : sm_cd 99 30 = some (.invokevirtual 294, 3, 100, 0, 1, 6, 6, 0, 0) := cd_of gl_99 rfl
set_option maxRecDepth 20000 in
theorem cd_99_33 : sm_cd 99 33 = some (.goto 297, 3, 330, 0, 0, 0, 0, 0, 0) := cd_of gl_99 rfl
set_option maxRecDepth 20000 in
theorem cd_99_36 : sm_cd 99 36 = some (.aload_n 0, 1, 0, 0, 0, 0, 0, 0, 0) := cd_of gl_99 rfl
set_option maxRecDepth 20000 in
theorem cd_99_37 : sm_cd 99 37 = some (.getfield 193, 3, 6, 26, 1, 0, 0, 0, 0) := cd_of gl_99 rfl
set_option maxRecDepth 20000 in
theorem cd_99_40 : sm_cd 99 40 = some (.ifCond .ne 19, 3, 59, 0, 0, 0, 0, 0, 0) := cd_of gl_99 rfl
set_option maxRecDepth 20000 in
theorem cd_99_43 : sm_cd 99 43 = some (.aload_n 0, 1, 0, 0, 0, 0, 0, 0, 0) := cd_of gl_99 rfl
set_option maxRecDepth 20000 in
theorem cd_99_44 : sm_cd 99 44 = some (.getfield 174, 3, 6, 24, 0, 0, 0, 0, 0) := cd_of gl_99 rfl
set_option maxRecDepth 20000 in
theorem cd_99_47 : sm_cd 99 47 = some (.iconst 1, 1, 0, 0, 0, 0, 0, 1, 0) := cd_of gl_99 rfl
set_option maxRecDepth 20000 in
theorem cd_99_48 : sm_cd 99 48 = some (.if_icmp .ne 11, 3, 59, 0, 0, 0, 0, 0, 0) := cd_of gl_99 rfl
set_option maxRecDepth 20000 in
theorem cd_99_51 : sm_cd 99 51 = some (.aload_n 0, 1, 0, 0, 0, 0, 0, 0, 0) := cd_of gl_99 rfl
set_option maxRecDepth 20000 in
theorem cd_99_52 : sm_cd 99 52 = some (.iload_n 1, 1, 1, 0, 0, 0, 0, 0, 0) := cd_of gl_99 rfl
set_option maxRecDepth 20000 in
theorem cd_99_53 : sm_cd 99 53 = some (.invokevirtual 297, 3, 116, 0, 1, 6, 6, 0, 0) := cd_of gl_99 rfl
set_option maxRecDepth 20000 in
theorem cd_99_56 : sm_cd 99 56 = some (.goto 274, 3, 330, 0, 0, 0, 0, 0, 0) := cd_of gl_99 rfl
set_option maxRecDepth 20000 in
theorem cd_99_59 : sm_cd 99 59 = some (.aload_n 0, 1, 0, 0, 0, 0, 0, 0, 0) := cd_of gl_99 rfl
set_option maxRecDepth 20000 in
theorem cd_99_60 : sm_cd 99 60 = some (.iconst 5, 1, 0, 0, 0, 0, 0, 5, 0) := cd_of gl_99 rfl
set_option maxRecDepth 20000 in
theorem cd_99_61 : sm_cd 99 61 = some (.invokevirtual 254, 3, 89, 0, 1, 2, 6, 0, 0) := cd_of gl_99 rfl
set_option maxRecDepth 20000 in
theorem cd_99_64 : sm_cd 99 64 = some (.ifCond .eq 91, 3, 155, 0, 0, 0, 0, 0, 0) := cd_of gl_99 rfl
set_option maxRecDepth 20000 in
theorem cd_99_67 : sm_cd 99 67 = some (.aload_n 0, 1, 0, 0, 0, 0, 0, 0, 0) := cd_of gl_99 rfl
set_option maxRecDepth 20000 in
theorem cd_99_68 : sm_cd 99 68 = some (.invokevirtual 197, 3, 84, 0, 0, 1, 6, 0, 0) := cd_of gl_99 rfl
set_option maxRecDepth 20000 in
theorem cd_99_71 : sm_cd 99 71 = some (.aload_n 0, 1, 0, 0, 0, 0, 0, 0, 0) := cd_of gl_99 rfl
set_option maxRecDepth 20000 in
theorem cd_99_72 : sm_cd 99 72 = some (.aload_n 0, 1, 0, 0, 0, 0, 0, 0, 0) := cd_of gl_99 rfl
set_option maxRecDepth 20000 in
theorem cd_99_73 : sm_cd 99 73 = some (.invokevirtual 241, 3, 101, 0, 0, 4, 6, 0, 0) := cd_of gl_99 rfl
set_option maxRecDepth 20000 in
theorem cd_99_76 : sm_cd 99 76 = some (.iconst 1, 1, 0, 0, 0, 0, 0, 1, 0) := cd_of gl_99 rfl
set_option maxRecDepth 20000 in
theorem cd_99_77 : sm_cd 99 77 = some (.if_icmp .ne 7, 3, 84, 0, 0, 0, 0, 0, 0) := cd_of gl_99 rfl
set_option maxRecDepth 20000 in
theorem cd_99_80 : sm_cd 99 80 = some (.iconst 1, 1, 0, 0, 0, 0, 0, 1, 0) := cd_of gl_99 rfl
set_option maxRecDepth 20000 in
theorem cd_99_81 : sm_cd 99 81 = some (.goto 4, 3, 85, 0, 0, 0, 0, 0, 0) := cd_of gl_99 rfl
set_option maxRecDepth 20000 in
theorem cd_99_84 : sm_cd 99 84 = some (.iconst 0, 1, 0, 0, 0, 0, 0, 0, 0) := cd_of gl_99 rfl
set_option maxRecDepth 20000 in
theorem cd_99_85 : sm_cd 99 85 = some (.iload_n 1, 1, 1, 0, 0, 0, 0, 0, 0) := cd_of gl_99 rfl
set_option maxRecDepth 20000 in
theorem cd_99_86 : sm_cd 99 86 = some (.invokevirtual 244, 3, 110, 0, 2, 3, 6, 0, 0) := cd_of gl_99 rfl
set_option maxRecDepth 20000 in
theorem cd_99_89 : sm_cd 99 89 = some (.aload_n 0, 1, 0, 0, 0, 0, 0, 0, 0) := cd_of gl_99 rfl
set_option maxRecDepth 20000 in
theorem cd_99_90 : sm_cd 99 90 = some (.getfield 213, 3, 6, 13, 0, 0, 0, 0, 0) := cd_of gl_99 rfl
set_option maxRecDepth 20000 in
theorem cd_99_93 : sm_cd 99 93 = some (.istore_n 2, 1, 2, 0, 0, 0, 0, 0, 0) := cd_of gl_99 rfl
set_option maxRecDepth 20000 in
theorem cd_99_94 : sm_cd 99 94 = some (.aload_n 0, 1, 0, 0, 0, 0, 0, 0, 0) := cd_of gl_99 rfl
set_option maxRecDepth 20000 in
theorem cd_99_95 : sm_cd 99 95 = some (.bipush 23, 2, 0, 0, 0, 0, 0, 23, 0) := cd_of gl_99 rfl
set_option maxRecDepth 20000 in
theorem cd_99_97 : sm_cd 99 97 = some (.iconst 0, 1, 0, 0, 0, 0, 0, 0, 0) := cd_of gl_99 rfl
set_option maxRecDepth 20000 in
theorem cd_99_98 : sm_cd 99 98 = some (.invokevirtual 247, 3, 111, 0, 2, 3, 6, 0, 0) := cd_of gl_99 rfl
set_option maxRecDepth 20000 in
theorem cd_99_101 : sm_cd 99 101 = some (.aload_n 0, 1, 0, 0, 0, 0, 0, 0, 0) := cd_of gl_99 rfl
set_option maxRecDepth 20000 in
theorem cd_99_102 : sm_cd 99 102 = some (.invokevirtual 300, 3, 98, 0, 0, 1, 6, 0, 0) := cd_of gl_99 rfl
set_option maxRecDepth 20000 in
theorem cd_99_105 : sm_cd 99 105 = some (.aload_n 0, 1, 0, 0, 0, 0, 0, 0, 0) := cd_of gl_99 rfl
set_option maxRecDepth 20000 in
theorem cd_99_106 : sm_cd 99 106 = some (.bipush 6, 2, 0, 0, 0, 0, 0, 6, 0) := cd_of gl_99 rfl
set_option maxRecDepth 20000 in
theorem cd_99_108 : sm_cd 99 108 = some (.invokevirtual 254, 3, 89, 0, 1, 2, 6, 0, 0) := cd_of gl_99 rfl
set_option maxRecDepth 20000 in
theorem cd_99_111 : sm_cd 99 111 = some (.ifCond .eq 36, 3, 147, 0, 0, 0, 0, 0, 0) := cd_of gl_99 rfl
set_option maxRecDepth 20000 in
theorem cd_99_114 : sm_cd 99 114 = some (.aload_n 0, 1, 0, 0, 0, 0, 0, 0, 0) := cd_of gl_99 rfl
set_option maxRecDepth 20000 in
theorem cd_99_115 : sm_cd 99 115 = some (.getfield 213, 3, 6, 13, 0, 0, 0, 0, 0) := cd_of gl_99 rfl
set_option maxRecDepth 20000 in
theorem cd_99_118 : sm_cd 99 118 = some (.istore_n 3, 1, 3, 0, 0, 0, 0, 0, 0) := cd_of gl_99 rfl
set_option maxRecDepth 20000 in
theorem cd_99_119 : sm_cd 99 119 = some (.aload_n 0, 1, 0, 0, 0, 0, 0, 0, 0) := cd_of gl_99 rfl
set_option maxRecDepth 20000 in
theorem cd_99_120 : sm_cd 99 120 = some (.bipush 24, 2, 0, 0, 0, 0, 0, 24, 0) := cd_of gl_99 rfl
set_option maxRecDepth 20000 in
theorem cd_99_122 : sm_cd 99 122 = some (.iconst 0, 1, 0, 0, 0, 0, 0, 0, 0) := cd_of gl_99 rfl
set_option maxRecDepth 20000 in
theorem cd_99_123 : sm_cd 99 123 = some (.invokevirtual 247, 3, 111, 0, 2, 3, 6, 0, 0) := cd_of gl_99 rfl
set_option maxRecDepth 20000 in
theorem cd_99_126 : sm_cd 99 126 = some (.aload_n 0, 1, 0, 0, 0, 0, 0, 0, 0) := cd_of gl_99 rfl
set_option maxRecDepth 20000 in
theorem cd_99_127 : sm_cd 99 127 = some (.iload_n 2, 1, 2, 0, 0, 0, 0, 0, 0) := cd_of gl_99 rfl
set_option maxRecDepth 20000 in
theorem cd_99_128 : sm_cd 99 128 = some (.invokevirtual 303, 3, 117, 0, 1, 2, 6, 0, 0) := cd_of gl_99 rfl
set_option maxRecDepth 20000 in
theorem cd_99_131 : sm_cd 99 131 = some (.aload_n 0, 1, 0, 0, 0, 0, 0, 0, 0) := cd_of gl_99 rfl
set_option maxRecDepth 20000 in
theorem cd_99_132 : sm_cd 99 132 = some (.invokevirtual 197, 3, 84, 0, 0, 1, 6, 0, 0) := cd_of gl_99 rfl
set_option maxRecDepth 20000 in
theorem cd_99_135 : sm_cd 99 135 = some (.aload_n 0, 1, 0, 0, 0, 0, 0, 0, 0) := cd_of gl_99 rfl
set_option maxRecDepth 20000 in
theorem cd_99_136 : sm_cd 99 136 = some (.invokevirtual 300, 3, 98, 0, 0, 1, 6, 0, 0) := cd_of gl_99 rfl
set_option maxRecDepth 20000 in
theorem cd_99_139 : sm_cd 99 139 = some (.aload_n 0, 1, 0, 0, 0, 0, 0, 0, 0) := cd_of gl_99 rfl
set_option maxRecDepth 20000 in
theorem cd_99_140 : sm_cd 99 140 = some (.iload_n 3, 1, 3, 0, 0, 0, 0, 0, 0) := cd_of gl_99 rfl
set_option maxRecDepth 20000 in
theorem cd_99_141 : sm_cd 99 141 = some (.invokevirtual 303, 3, 117, 0, 1, 2, 6, 0, 0) := cd_of gl_99 rfl
set_option maxRecDepth 20000 in
theorem cd_99_144 : sm_cd 99 144 = some (.goto 8, 3, 152, 0, 0, 0, 0, 0, 0) := cd_of gl_99 rfl
set_option maxRecDepth 20000 in
theorem cd_99_147 : sm_cd 99 147 = some (.aload_n 0, 1, 0, 0, 0, 0, 0, 0, 0) := cd_of gl_99 rfl
set_option maxRecDepth 20000 in
theorem cd_99_148 : sm_cd 99 148 = some (.iload_n 2, 1, 2, 0, 0, 0, 0, 0, 0) := cd_of gl_99 rfl
set_option maxRecDepth 20000 in
theorem cd_99_149 : sm_cd 99 149 = some (.invokevirtual 303, 3, 117, 0, 1, 2, 6, 0, 0) := cd_of gl_99 rfl
set_option maxRecDepth 20000 in
theorem cd_99_152 : sm_cd 99 152 = some (.goto 178, 3, 330, 0, 0, 0, 0, 0, 0) := cd_of gl_99 rfl
set_option maxRecDepth 20000 in
theorem cd_99_155 : sm_cd 99 155 = some (.aload_n 0, 1, 0, 0, 0, 0, 0, 0, 0) := cd_of gl_99 rfl
set_option maxRecDepth 20000 in
theorem cd_99_156 : sm_cd 99 156 = some (.bipush 7, 2, 0, 0, 0, 0, 0, 7, 0) := cd_of gl_99 rfl
set_option maxRecDepth 20000 in
theorem cd_99_158 : sm_cd 99 158 = some (.invokevirtual 254, 3, 89, 0, 1, 2, 6, 0, 0) := cd_of gl_99 rfl
set_option maxRecDepth 20000 in
theorem cd_99_161 : sm_cd 99 161 = some (.ifCond .eq 61, 3, 222, 0, 0, 0, 0, 0, 0) := cd_of gl_99 rfl
set_option maxRecDepth 20000 in
theorem cd_99_164 : sm_cd 99 164 = some (.aload_n 0, 1, 0, 0, 0, 0, 0, 0, 0) := cd_of gl_99 rfl
set_option maxRecDepth 20000 in
theorem cd_99_165 : sm_cd 99 165 = some (.invokevirtual 197, 3, 84, 0, 0, 1, 6, 0, 0) := cd_of gl_99 rfl
set_option maxRecDepth 20000 in
theorem cd_99_168 : sm_cd 99 168 = some (.aload_n 0, 1, 0, 0, 0, 0, 0, 0, 0) := cd_of gl_99 rfl
set_option maxRecDepth 20000 in
theorem cd_99_169 : sm_cd 99 169 = some (.getfield 213, 3, 6, 13, 0, 0, 0, 0, 0) := cd_of gl_99 rfl
set_option maxRecDepth 20000 in
theorem cd_99_172 : sm_cd 99 172 = some (.istore_n 2, 1, 2, 0, 0, 0, 0, 0, 0) := cd_of gl_99 rfl
set_option maxRecDepth 20000 in
theorem cd_99_173 : sm_cd 99 173 = some (.aload_n 0, 1, 0, 0, 0, 0, 0, 0, 0) := cd_of gl_99 rfl
set_option maxRecDepth 20000 in
theorem cd_99_174 : sm_cd 99 174 = some (.aload_n 0, 1, 0, 0, 0, 0, 0, 0, 0) := cd_of gl_99 rfl
set_option maxRecDepth 20000 in
theorem cd_99_175 : sm_cd 99 175 = some (.invokevirtual 241, 3, 101, 0, 0, 4, 6, 0, 0) := cd_of gl_99 rfl
set_option maxRecDepth 20000 in
theorem cd_99_178 : sm_cd 99 178 = some (.iconst 1, 1, 0, 0, 0, 0, 0, 1, 0) := cd_of gl_99 rfl
set_option maxRecDepth 20000 in
theorem cd_99_179 : sm_cd 99 179 = some (.if_icmp .ne 7, 3, 186, 0, 0, 0, 0, 0, 0) := cd_of gl_99 rfl
set_option maxRecDepth 20000 in
theorem cd_99_182 : sm_cd 99 182 = some (.iconst 1, 1, 0, 0, 0, 0, 0, 1, 0) := cd_of gl_99 rfl
set_option maxRecDepth 20000 in
theorem cd_99_183 : sm_cd 99 183 = some (.goto 4, 3, 187, 0, 0, 0, 0, 0, 0) := cd_of gl_99 rfl
set_option maxRecDepth 20000 in
theorem cd_99_186 : sm_cd 99 186 = some (.iconst 0, 1, 0, 0, 0, 0, 0, 0, 0) := cd_of gl_99 rfl
set_option maxRecDepth 20000 in
theorem cd_99_187 : sm_cd 99 187 = some (.iload_n 1, 1, 1, 0, 0, 0, 0, 0, 0) := cd_of gl_99 rfl
set_option maxRecDepth 20000 in
theorem cd_99_188 : sm_cd 99 188 = some (.invokevirtual 244, 3, 110, 0, 2, 3, 6, 0, 0) := cd_of gl_99 rfl
set_option maxRecDepth 20000 in
theorem cd_99_191 : sm_cd 99 191 = some (.aload_n 0, 1, 0, 0, 0, 0, 0, 0, 0) := cd_of gl_99 rfl
set_option maxRecDepth 20000 in
theorem cd_99_192 : sm_cd 99 192 = some (.getfield 213, 3, 6, 13, 0, 0, 0, 0, 0) := cd_of gl_99 rfl
set_option maxRecDepth 20000 in
theorem cd_99_195 : sm_cd 99 195 = some (.istore_n 3, 1, 3, 0, 0, 0, 0, 0, 0) := cd_of gl_99 rfl
set_option maxRecDepth 20000 in
theorem cd_99_196 : sm_cd 99 196 = some (.aload_n 0, 1, 0, 0, 0, 0, 0, 0, 0) := cd_of gl_99 rfl
set_option maxRecDepth 20000 in
theorem cd_99_197 : sm_cd 99 197 = some (.bipush 23, 2, 0, 0, 0, 0, 0, 23, 0) := cd_of gl_99 rfl
set_option maxRecDepth 20000 in
theorem cd_99_199 : sm_cd 99 199 = some (.iconst 0, 1, 0, 0, 0, 0, 0, 0, 0) := cd_of gl_99 rfl
set_option maxRecDepth 20000 in
theorem cd_99_200 : sm_cd 99 200 = some (.invokevirtual 247, 3, 111, 0, 2, 3, 6, 0, 0) := cd_of gl_99 rfl
set_option maxRecDepth 20000 in
theorem cd_99_203 : sm_cd 99 203 = some (.aload_n 0, 1, 0, 0, 0, 0, 0, 0, 0) := cd_of gl_99 rfl
set_option maxRecDepth 20000 in
theorem cd_99_204 : sm_cd 99 204 = some (.invokevirtual 300, 3, 98, 0, 0, 1, 6, 0, 0) := cd_of gl_99 rfl
set_option maxRecDepth 20000 in
theorem cd_99_207 : sm_cd 99 207 = some (.aload_n 0, 1, 0, 0, 0, 0, 0, 0, 0) := cd_of gl_99 rfl
set_option maxRecDepth 20000 in
theorem cd_99_208 : sm_cd 99 208 = some (.bipush 24, 2, 0, 0, 0, 0, 0, 24, 0) := cd_of gl_99 rfl
set_option maxRecDepth 20000 in
theorem cd_99_210 : sm_cd 99 210 = some (.iload_n 2, 1, 2, 0, 0, 0, 0, 0, 0) := cd_of gl_99 rfl
set_option maxRecDepth 20000 in
theorem cd_99_211 : sm_cd 99 211 = some (.invokevirtual 247, 3, 111, 0, 2, 3, 6, 0, 0) := cd_of gl_99 rfl
set_option maxRecDepth 20000 in
theorem cd_99_214 : sm_cd 99 214 = some (.aload_n 0, 1, 0, 0, 0, 0, 0, 0, 0) := cd_of gl_99 rfl
set_option maxRecDepth 20000 in
theorem cd_99_215 : sm_cd 99 215 = some (.iload_n 3, 1, 3, 0, 0, 0, 0, 0, 0) := cd_of gl_99 rfl
set_option maxRecDepth 20000 in
theorem cd_99_216 : sm_cd 99 216 = some (.invokevirtual 303, 3, 117, 0, 1, 2, 6, 0, 0) := cd_of gl_99 rfl
set_option maxRecDepth 20000 in
theorem cd_99_219 : sm_cd 99 219 = some (.goto 111, 3, 330, 0, 0, 0, 0, 0, 0) := cd_of gl_99 rfl
set_option maxRecDepth 20000 in
theorem cd_99_222 : sm_cd 99 222 = some (.aload_n 0, 1, 0, 0, 0, 0, 0, 0, 0) := cd_of gl_99 rfl
set_option maxRecDepth 20000 in
theorem cd_99_223 : sm_cd 99 223 = some (.bipush 8, 2, 0, 0, 0, 0, 0, 8, 0) := cd_of gl_99 rfl
set_option maxRecDepth 20000 in
theorem cd_99_225 : sm_cd 99 225 = some (.invokevirtual 254, 3, 89, 0, 1, 2, 6, 0, 0) := cd_of gl_99 rfl
set_option maxRecDepth 20000 in
theorem cd_99_228 : sm_cd 99 228 = some (.ifCond .ne 12, 3, 240, 0, 0, 0, 0, 0, 0) := cd_of gl_99 rfl
set_option maxRecDepth 20000 in
theorem cd_99_231 : sm_cd 99 231 = some (.aload_n 0, 1, 0, 0, 0, 0, 0, 0, 0) := cd_of gl_99 rfl
set_option maxRecDepth 20000 in
theorem cd_99_232 : sm_cd 99 232 = some (.bipush 9, 2, 0, 0, 0, 0, 0, 9, 0) := cd_of gl_99 rfl
set_option maxRecDepth 20000 in
theorem cd_99_234 : sm_cd 99 234 = some (.invokevirtual 254, 3, 89, 0, 1, 2, 6, 0, 0) := cd_of gl_99 rfl
set_option maxRecDepth 20000 in
theorem cd_99_237 : sm_cd 99 237 = some (.ifCond .eq 88, 3, 325, 0, 0, 0, 0, 0, 0) := cd_of gl_99 rfl
set_option maxRecDepth 20000 in
theorem cd_99_240 : sm_cd 99 240 = some (.aload_n 0, 1, 0, 0, 0, 0, 0, 0, 0) := cd_of gl_99 rfl
set_option maxRecDepth 20000 in
theorem cd_99_241 : sm_cd 99 241 = some (.bipush 8, 2, 0, 0, 0, 0, 0, 8, 0) := cd_of gl_99 rfl
set_option maxRecDepth 20000 in
theorem cd_99_243 : sm_cd 99 243 = some (.invokevirtual 254, 3, 89, 0, 1, 2, 6, 0, 0) := cd_of gl_99 rfl
set_option maxRecDepth 20000 in
theorem cd_99_246 : sm_cd 99 246 = some (.istore_n 2, 1, 2, 0, 0, 0, 0, 0, 0) := cd_of gl_99 rfl
set_option maxRecDepth 20000 in
theorem cd_99_247 : sm_cd 99 247 = some (.aload_n 0, 1, 0, 0, 0, 0, 0, 0, 0) := cd_of gl_99 rfl
set_option maxRecDepth 20000 in
theorem cd_99_248 : sm_cd 99 248 = some (.invokevirtual 197, 3, 84, 0, 0, 1, 6, 0, 0) := cd_of gl_99 rfl
set_option maxRecDepth 20000 in
theorem cd_99_251 : sm_cd 99 251 = some (.aload_n 0, 1, 0, 0, 0, 0, 0, 0, 0) := cd_of gl_99 rfl
set_option maxRecDepth 20000 in
theorem cd_99_252 : sm_cd 99 252 = some (.invokevirtual 241, 3, 101, 0, 0, 4, 6, 0, 0) := cd_of gl_99 rfl
set_option maxRecDepth 20000 in
theorem cd_99_255 : sm_cd 99 255 = some (.istore_n 3, 1, 3, 0, 0, 0, 0, 0, 0) := cd_of gl_99 rfl
set_option maxRecDepth 20000 in
theorem cd_99_256 : sm_cd 99 256 = some (.aload_n 0, 1, 0, 0, 0, 0, 0, 0, 0) := cd_of gl_99 rfl
set_option maxRecDepth 20000 in
theorem cd_99_257 : sm_cd 99 257 = some (.bipush 59, 2, 0, 0, 0, 0, 0, 59, 0) := cd_of gl_99 rfl
set_option maxRecDepth 20000 in
theorem cd_99_259 : sm_cd 99 259 = some (.invokevirtual 275, 3, 93, 0, 1, 2, 6, 0, 0) := cd_of gl_99 rfl
set_option maxRecDepth 20000 in
theorem cd_99_262 : sm_cd 99 262 = some (.aload_n 0, 1, 0, 0, 0, 0, 0, 0, 0) := cd_of gl_99 rfl
set_option maxRecDepth 20000 in
theorem cd_99_263 : sm_cd 99 263 = some (.iload_n 2, 1, 2, 0, 0, 0, 0, 0, 0) := cd_of gl_99 rfl
set_option maxRecDepth 20000 in
theorem cd_99_264 : sm_cd 99 264 = some (.ifCond .eq 24, 3, 288, 0, 0, 0, 0, 0, 0) := cd_of gl_99 rfl
set_option maxRecDepth 20000 in
theorem cd_99_267 : sm_cd 99 267 = some (.iload_n 3, 1, 3, 0, 0, 0, 0, 0, 0) := cd_of gl_99 rfl
set_option maxRecDepth 20000 in
theorem cd_99_268 : sm_cd 99 268 = some (.aload_n 0, 1, 0, 0, 0, 0, 0, 0, 0) := cd_of gl_99 rfl
set_option maxRecDepth 20000 in
theorem cd_99_269 : sm_cd 99 269 = some (.getfield 32, 3, 6, 10, 2, 0, 0, 0, 0) := cd_of gl_99 rfl
set_option maxRecDepth 20000 in
theorem cd_99_272 : sm_cd 99 272 = some (.aload_n 0, 1, 0, 0, 0, 0, 0, 0, 0) := cd_of gl_99 rfl
set_option maxRecDepth 20000 in
theorem cd_99_273 : sm_cd 99 273 = some (.getfield 216, 3, 6, 30, 0, 0, 0, 0, 0) := cd_of gl_99 rfl
set_option maxRecDepth 20000 in
theorem cd_99_276 : sm_cd 99 276 = some (.iaload, 1, 0, 0, 0, 0, 0, 0, 0) := cd_of gl_99 rfl
set_option maxRecDepth 20000 in
theorem cd_99_277 : sm_cd 99 277 = some (.if_icmp .ne 7, 3, 284, 0, 0, 0, 0, 0, 0) := cd_of gl_99 rfl
set_option maxRecDepth 20000 in
theorem cd_99_280 : sm_cd 99 280 = some (.iconst 1, 1, 0, 0, 0, 0, 0, 1, 0) := cd_of gl_99 rfl
set_option maxRecDepth 20000 in
theorem cd_99_281 : sm_cd 99 281 = some (.goto 21, 3, 302, 0, 0, 0, 0, 0, 0) := cd_of gl_99 rfl
set_option maxRecDepth 20000 in
theorem cd_99_284 : sm_cd 99 284 = some (.iconst 0, 1, 0, 0, 0, 0, 0, 0, 0) := cd_of gl_99 rfl
set_option maxRecDepth 20000 in
theorem cd_99_285 : sm_cd 99 285 = some (.goto 17, 3, 302, 0, 0, 0, 0, 0, 0) := cd_of gl_99 rfl
set_option maxRecDepth 20000 in
theorem cd_99_288 : sm_cd 99 288 = some (.iload_n 3, 1, 3, 0, 0, 0, 0, 0, 0) := cd_of gl_99 rfl
set_option maxRecDepth 20000 in
theorem cd_99_289 : sm_cd 99 289 = some (.ifCond .eq 8, 3, 297, 0, 0, 0, 0, 0, 0) := cd_of gl_99 rfl
set_option maxRecDepth 20000 in
theorem cd_99_292 : sm_cd 99 292 = some (.iload_n 3, 1, 3, 0, 0, 0, 0, 0, 0) := cd_of gl_99 rfl
set_option maxRecDepth 20000 in
theorem cd_99_293 : sm_cd 99 293 = some (.iconst 1, 1, 0, 0, 0, 0, 0, 1, 0) := cd_of gl_99 rfl
set_option maxRecDepth 20000 in
theorem cd_99_294 : sm_cd 99 294 = some (.if_icmp .ne 7, 3, 301, 0, 0, 0, 0, 0, 0) := cd_of gl_99 rfl
set_option maxRecDepth 20000 in
theorem cd_99_297 : sm_cd 99 297 = some (.iconst 1, 1, 0, 0, 0, 0, 0, 1, 0) := cd_of gl_99 rfl
set_option maxRecDepth 20000 in
theorem cd_99_298 : sm_cd 99 298 = some (.goto 4, 3, 302, 0, 0, 0, 0, 0, 0) := cd_of gl_99 rfl
set_option maxRecDepth 20000 in
theorem cd_99_301 : sm_cd 99 301 = some (.iconst 0, 1, 0, 0, 0, 0, 0, 0, 0) := cd_of gl_99 rfl
set_option maxRecDepth 20000 in
theorem cd_99_302 : sm_cd 99 302 = some (.iload_n 1, 1, 1, 0, 0, 0, 0, 0, 0) := cd_of gl_99 rfl
set_option maxRecDepth 20000 in
theorem cd_99_303 : sm_cd 99 303 = some (.invokevirtual 244, 3, 110, 0, 2, 3, 6, 0, 0) := cd_of gl_99 rfl
set_option maxRecDepth 20000 in
theorem cd_99_306 : sm_cd 99 306 = some (.aload_n 0, 1, 0, 0, 0, 0, 0, 0, 0) := cd_of gl_99 rfl
set_option maxRecDepth 20000 in
theorem cd_99_307 : sm_cd 99 307 = some (.iload_n 2, 1, 2, 0, 0, 0, 0, 0, 0) := cd_of gl_99 rfl
set_option maxRecDepth 20000 in
theorem cd_99_308 : sm_cd 99 308 = some (.ifCond .eq 8, 3, 316, 0, 0, 0, 0, 0, 0) := cd_of gl_99 rfl
set_option maxRecDepth 20000 in
theorem cd_99_311 : sm_cd 99 311 = some (.bipush 25, 2, 0, 0, 0, 0, 0, 25, 0) := cd_of gl_99 rfl
set_option maxRecDepth 20000 in
theorem cd_99_313 : sm_cd 99 313 = some (.goto 5, 3, 318, 0, 0, 0, 0, 0, 0) := cd_of gl_99 rfl
set_option maxRecDepth 20000 in
theorem cd_99_316 : sm_cd 99 316 = some (.bipush 26, 2, 0, 0, 0, 0, 0, 26, 0) := cd_of gl_99 rfl
set_option maxRecDepth 20000 in
theorem cd_99_318 : sm_cd 99 318 = some (.iconst 0, 1, 0, 0, 0, 0, 0, 0, 0) := cd_of gl_99 rfl
set_option maxRecDepth 20000 in
theorem cd_99_319 : sm_cd 99 319 = some (.invokevirtual 247, 3, 111, 0, 2, 3, 6, 0, 0) := cd_of gl_99 rfl
set_option maxRecDepth 20000 in
theorem cd_99_322 : sm_cd 99 322 = some (.goto 8, 3, 330, 0, 0, 0, 0, 0, 0) := cd_of gl_99 rfl
set_option maxRecDepth 20000 in
theorem cd_99_325 : sm_cd 99 325 = some (.aload_n 0, 1, 0, 0, 0, 0, 0, 0, 0) := cd_of gl_99 rfl
set_option maxRecDepth 20000 in
theorem cd_99_326 : sm_cd 99 326 = some (.iconst 1, 1, 0, 0, 0, 0, 0, 1, 0) := cd_of gl_99 rfl
set_option maxRecDepth 20000 in
theorem cd_99_327 : sm_cd 99 327 = some (.putfield 193, 3, 6, 26, 1, 0, 0, 0, 0) := cd_of gl_99 rfl
set_option maxRecDepth 20000 in
theorem cd_99_330 : sm_cd 99 330 = some (.return_, 1, 0, 0, 0, 0, 0, 0, 0) := cd_of gl_99 rfl
noncomputable def f_99_318 (K : Nat → Value) (k d : Nat) (l0 : Nat) (l1 : Int32) (l2 : Int32) (l3 : Int32) (s0 : Nat) (s1 : Int32) (w : aW) (I : aI) (J : aJ) : Option aR :=
  gO w 6 s0 (
  cV (Cl K d 111 [.ref s0, .int s1, .int 0] w I J) fun w_1 I_2 J_3 =>
  some (none, w_1, I_2, J_3))
theorem ok_99_318 {K : Nat → Value} {k d : Nat} {l0 : Nat} {l1 : Int32} {l2 : Int32} {l3 : Int32} {s0 : Nat} {s1 : Int32} {w : aW} {I : aI} {J : aJ} {R : aR} (h : f_99_318 K k d l0 l1 l2 l3 s0 s1 w I J = some R) : Go K (d + 1) 99 318 [some (.ref l0), some (.int l1), some (.int l2), some (.int l3)] [.int s1, .ref s0] w I J R := by
  unfold f_99_318 at h
  refine gs_0 (pc' := 319) (L' := [some (.ref l0), some (.int l1), some (.int l2), some (.int l3)]) (st' := [.int 0, .int s1, .ref s0]) cd_99_318 rfl rfl ?_
  obtain ⟨ht, h⟩ := gO_s h
  obtain ⟨w_1, I_2, J_3, hcl, h⟩ := cV_s h
  refine gs_call (as := [.ref s0, .int s1, .int 0]) (rest := []) cd_99_319 rfl (by decide) rfl (sm_rv_ok (by decide) ht) (Nat.le_of_ble_eq_true rfl) (Nat.le_of_ble_eq_true rfl) rfl hcl ?_
  refine gs_0 (pc' := 330) (L' := [some (.ref l0), some (.int l1), some (.int l2), some (.int l3)]) (st' := []) cd_99_322 rfl rfl ?_
  cases h
  exact gsr cd_99_330 rfl rfl
noncomputable def f_99_302 (K : Nat → Value) (k d : Nat) (l0 : Nat) (l1 : Int32) (l2 : Int32) (l3 : Int32) (s0 : Nat) (s1 : Int32) (w : aW) (I : aI) (J : aJ) : Option aR :=
  gO w 6 s0 (
  cV (Cl K d 110 [.ref s0, .int s1, .int l1] w I J) fun w_1 I_2 J_3 =>
  if l2 = 0 then
    f_99_318 K k d l0 l1 l2 l3 l0 26 w_1 I_2 J_3
  else
    f_99_318 K k d l0 l1 l2 l3 l0 25 w_1 I_2 J_3)
theorem ok_99_302 {K : Nat → Value} {k d : Nat} {l0 : Nat} {l1 : Int32} {l2 : Int32} {l3 : Int32} {s0 : Nat} {s1 : Int32} {w : aW} {I : aI} {J : aJ} {R : aR} (h : f_99_302 K k d l0 l1 l2 l3 s0 s1 w I J = some R) : Go K (d + 1) 99 302 [some (.ref l0), some (.int l1), some (.int l2), some (.int l3)] [.int s1, .ref s0] w I J R := by
  unfold f_99_302 at h
  refine gs_0 (pc' := 303) (L' := [some (.ref l0), some (.int l1), some (.int l2), some (.int l3)]) (st' := [.int l1, .int s1, .ref s0]) cd_99_302 rfl rfl ?_
  obtain ⟨ht, h⟩ := gO_s h
  obtain ⟨w_1, I_2, J_3, hcl, h⟩ := cV_s h
  refine gs_call (as := [.ref s0, .int s1, .int l1]) (rest := []) cd_99_303 rfl (by decide) rfl (sm_rv_ok (by decide) ht) (Nat.le_of_ble_eq_true rfl) (Nat.le_of_ble_eq_true rfl) rfl hcl ?_
  refine gs_0 (pc' := 307) (L' := [some (.ref l0), some (.int l1), some (.int l2), some (.int l3)]) (st' := [.ref l0]) cd_99_306 rfl rfl ?_
  refine gs_0 (pc' := 308) (L' := [some (.ref l0), some (.int l1), some (.int l2), some (.int l3)]) (st' := [.int l2, .ref l0]) cd_99_307 rfl rfl ?_
  refine gs_0 (pc' := if l2 = 0 then 316 else 311) (L' := [some (.ref l0), some (.int l1), some (.int l2), some (.int l3)]) (st' := [.ref l0]) cd_99_308 rfl rfl ?_
  refine go_ite (fun hc => ?_) (fun hc => ?_)
  · rw [if_pos hc] at h
    refine gs_0 (pc' := 318) (L' := [some (.ref l0), some (.int l1), some (.int l2), some (.int l3)]) (st' := [.int 26, .ref l0]) cd_99_316 rfl rfl ?_
    exact ok_99_318 h
  · rw [if_neg hc] at h
    refine gs_0 (pc' := 313) (L' := [some (.ref l0), some (.int l1), some (.int l2), some (.int l3)]) (st' := [.int 25, .ref l0]) cd_99_311 rfl rfl ?_
    refine gs_0 (pc' := 318) (L' := [some (.ref l0), some (.int l1), some (.int l2), some (.int l3)]) (st' := [.int 25, .ref l0]) cd_99_313 rfl rfl ?_
    exact ok_99_318 h
noncomputable def f_99_297 (K : Nat → Value) (k d : Nat) (l0 : Nat) (l1 : Int32) (l2 : Int32) (l3 : Int32) (s0 : Nat) (w : aW) (I : aI) (J : aJ) : Option aR :=
  f_99_302 K k d l0 l1 l2 l3 s0 1 w I J
theorem ok_99_297 {K : Nat → Value} {k d : Nat} {l0 : Nat} {l1 : Int32} {l2 : Int32} {l3 : Int32} {s0 : Nat} {w : aW} {I : aI} {J : aJ} {R : aR} (h : f_99_297 K k d l0 l1 l2 l3 s0 w I J = some R) : Go K (d + 1) 99 297 [some (.ref l0), some (.int l1), some (.int l2), some (.int l3)] [.ref s0] w I J R := by
  unfold f_99_297 at h
  refine gs_0 (pc' := 298) (L' := [some (.ref l0), some (.int l1), some (.int l2), some (.int l3)]) (st' := [.int 1, .ref s0]) cd_99_297 rfl rfl ?_
  refine gs_0 (pc' := 302) (L' := [some (.ref l0), some (.int l1), some (.int l2), some (.int l3)]) (st' := [.int 1, .ref s0]) cd_99_298 rfl rfl ?_
  exact ok_99_302 h
noncomputable def f_99_240 (K : Nat → Value) (k d : Nat) (l0 : Nat) (l1 : Int32) (w : aW) (I : aI) (J : aJ) : Option aR :=
  gO w 6 l0 (
  cI (Cl K d 89 [.ref l0, .int 8] w I J) fun x_4 w_1 I_2 J_3 =>
  gO w_1 6 l0 (
  cV (Cl K d 84 [.ref l0] w_1 I_2 J_3) fun w_5 I_6 J_7 =>
  gO w_5 6 l0 (
  cI (Cl K d 101 [.ref l0] w_5 I_6 J_7) fun x_11 w_8 I_9 J_10 =>
  gO w_8 6 l0 (
  cV (Cl K d 93 [.ref l0, .int 59] w_8 I_9 J_10) fun w_12 I_13 J_14 =>
  if x_4 = 0 then
    if x_11 = 0 then
      f_99_297 K k d l0 l1 x_4 x_11 l0 w_12 I_13 J_14
    else
      if ¬ x_11 = 1 then
        f_99_302 K k d l0 l1 x_4 x_11 l0 0 w_12 I_13 J_14
      else
        f_99_297 K k d l0 l1 x_4 x_11 l0 w_12 I_13 J_14
  else
    gO w_12 6 l0 (
    gV w_12 l0 10 fun q_15 =>
    gO w_12 6 l0 (
    gA w_12 10 20 q_15 (I_13 l0 30) (
    if ¬ x_11 = (I_13 q_15 (I_13 l0 30 : Int32).toNatClampNeg) then
      f_99_302 K k d l0 l1 x_4 x_11 l0 0 w_12 I_13 J_14
    else
      f_99_302 K k d l0 l1 x_4 x_11 l0 1 w_12 I_13 J_14)))))))
theorem ok_99_240 {K : Nat → Value} {k d : Nat} {l0 : Nat} {l1 : Int32} {w : aW} {I : aI} {J : aJ} {R : aR} (h : f_99_240 K k d l0 l1 w I J = some R) : Go K (d + 1) 99 240 [some (.ref l0), some (.int l1), none, none] [] w I J R := by
  unfold f_99_240 at h
  refine gs_0 (pc' := 241) (L' := [some (.ref l0), some (.int l1), none, none]) (st' := [.ref l0]) cd_99_240 rfl rfl ?_
  refine gs_0 (pc' := 243) (L' := [some (.ref l0), some (.int l1), none, none]) (st' := [.int 8, .ref l0]) cd_99_241 rfl rfl ?_
  obtain ⟨ht, h⟩ := gO_s h
  obtain ⟨x_4, w_1, I_2, J_3, hcl, h⟩ := cI_s h
  refine gs_call (as := [.ref l0, .int 8]) (rest := []) cd_99_243 rfl (by decide) rfl (sm_rv_ok (by decide) ht) (Nat.le_of_ble_eq_true rfl) (Nat.le_of_ble_eq_true rfl) rfl hcl ?_
  refine gs_0 (pc' := 247) (L' := [some (.ref l0), some (.int l1), some (.int x_4), none]) (st' := []) cd_99_246 rfl rfl ?_
  refine gs_0 (pc' := 248) (L' := [some (.ref l0), some (.int l1), some (.int x_4), none]) (st' := [.ref l0]) cd_99_247 rfl rfl ?_
  obtain ⟨ht, h⟩ := gO_s h
  obtain ⟨w_5, I_6, J_7, hcl, h⟩ := cV_s h
  refine gs_call (as := [.ref l0]) (rest := []) cd_99_248 rfl (by decide) rfl (sm_rv_ok (by decide) ht) (Nat.le_of_ble_eq_true rfl) (Nat.le_of_ble_eq_true rfl) rfl hcl ?_
  refine gs_0 (pc' := 252) (L' := [some (.ref l0), some (.int l1), some (.int x_4), none]) (st' := [.ref l0]) cd_99_251 rfl rfl ?_
  obtain ⟨ht, h⟩ := gO_s h
  obtain ⟨x_11, w_8, I_9, J_10, hcl, h⟩ := cI_s h
  refine gs_call (as := [.ref l0]) (rest := []) cd_99_252 rfl (by decide) rfl (sm_rv_ok (by decide) ht) (Nat.le_of_ble_eq_true rfl) (Nat.le_of_ble_eq_true rfl) rfl hcl ?_
  refine gs_0 (pc' := 256) (L' := [some (.ref l0), some (.int l1), some (.int x_4), some (.int x_11)]) (st' := []) cd_99_255 rfl rfl ?_
  refine gs_0 (pc' := 257) (L' := [some (.ref l0), some (.int l1), some (.int x_4), some (.int x_11)]) (st' := [.ref l0]) cd_99_256 rfl rfl ?_
  refine gs_0 (pc' := 259) (L' := [some (.ref l0), some (.int l1), some (.int x_4), some (.int x_11)]) (st' := [.int 59, .ref l0]) cd_99_257 rfl rfl ?_
  obtain ⟨ht, h⟩ := gO_s h
  obtain ⟨w_12, I_13, J_14, hcl, h⟩ := cV_s h
  refine gs_call (as := [.ref l0, .int 59]) (rest := []) cd_99_259 rfl (by decide) rfl (sm_rv_ok (by decide) ht) (Nat.le_of_ble_eq_true rfl) (Nat.le_of_ble_eq_true rfl) rfl hcl ?_
  refine gs_0 (pc' := 263) (L' := [some (.ref l0), some (.int l1), some (.int x_4), some (.int x_11)]) (st' := [.ref l0]) cd_99_262 rfl rfl ?_
  refine gs_0 (pc' := 264) (L' := [some (.ref l0), some (.int l1), some (.int x_4), some (.int x_11)]) (st' := [.int x_4, .ref l0]) cd_99_263 rfl rfl ?_
  refine gs_0 (pc' := if x_4 = 0 then 288 else 267) (L' := [some (.ref l0), some (.int l1), some (.int x_4), some (.int x_11)]) (st' := [.ref l0]) cd_99_264 rfl rfl ?_
  refine go_ite (fun hc => ?_) (fun hc => ?_)
  · rw [if_pos hc] at h
    refine gs_0 (pc' := 289) (L' := [some (.ref l0), some (.int l1), some (.int x_4), some (.int x_11)]) (st' := [.int x_11, .ref l0]) cd_99_288 rfl rfl ?_
    refine gs_0 (pc' := if x_11 = 0 then 297 else 292) (L' := [some (.ref l0), some (.int l1), some (.int x_4), some (.int x_11)]) (st' := [.ref l0]) cd_99_289 rfl rfl ?_
    refine go_ite (fun hc => ?_) (fun hc => ?_)
    · rw [if_pos hc] at h
      exact ok_99_297 h
    · rw [if_neg hc] at h
      refine gs_0 (pc' := 293) (L' := [some (.ref l0), some (.int l1), some (.int x_4), some (.int x_11)]) (st' := [.int x_11, .ref l0]) cd_99_292 rfl rfl ?_
      refine gs_0 (pc' := 294) (L' := [some (.ref l0), some (.int l1), some (.int x_4), some (.int x_11)]) (st' := [.int 1, .int x_11, .ref l0]) cd_99_293 rfl rfl ?_
      refine gs_0 (pc' := if ¬ x_11 = 1 then 301 else 297) (L' := [some (.ref l0), some (.int l1), some (.int x_4), some (.int x_11)]) (st' := [.ref l0]) cd_99_294 rfl rfl ?_
      refine go_ite (fun hc => ?_) (fun hc => ?_)
      · rw [if_pos hc] at h
        refine gs_0 (pc' := 302) (L' := [some (.ref l0), some (.int l1), some (.int x_4), some (.int x_11)]) (st' := [.int 0, .ref l0]) cd_99_301 rfl rfl ?_
        exact ok_99_302 h
      · rw [if_neg hc] at h
        exact ok_99_297 h
  · rw [if_neg hc] at h
    refine gs_0 (pc' := 268) (L' := [some (.ref l0), some (.int l1), some (.int x_4), some (.int x_11)]) (st' := [.int x_11, .ref l0]) cd_99_267 rfl rfl ?_
    refine gs_0 (pc' := 269) (L' := [some (.ref l0), some (.int l1), some (.int x_4), some (.int x_11)]) (st' := [.ref l0, .int x_11, .ref l0]) cd_99_268 rfl rfl ?_
    obtain ⟨ht, h⟩ := gO_s h
    obtain ⟨q_15, hv, h⟩ := gV_s h
    refine gs_gfR cd_99_269 (by decide) ht hv ?_
    refine gs_0 (pc' := 273) (L' := [some (.ref l0), some (.int l1), some (.int x_4), some (.int x_11)]) (st' := [.ref l0, .ref q_15, .int x_11, .ref l0]) cd_99_272 rfl rfl ?_
    obtain ⟨ht, h⟩ := gO_s h
    refine gs_gfI cd_99_273 (by decide) (by decide) ht ?_
    obtain ⟨ht, h⟩ := gA_s h
    refine gs_iald cd_99_276 ht ?_
    refine gs_0 (pc' := if ¬ x_11 = (I_13 q_15 (I_13 l0 30 : Int32).toNatClampNeg) then 284 else 280) (L' := [some (.ref l0), some (.int l1), some (.int x_4), some (.int x_11)]) (st' := [.ref l0]) cd_99_277 rfl rfl ?_
    refine go_ite (fun hc => ?_) (fun hc => ?_)
    · rw [if_pos hc] at h
      refine gs_0 (pc' := 285) (L' := [some (.ref l0), some (.int l1), some (.int x_4), some (.int x_11)]) (st' := [.int 0, .ref l0]) cd_99_284 rfl rfl ?_
      refine gs_0 (pc' := 302) (L' := [some (.ref l0), some (.int l1), some (.int x_4), some (.int x_11)]) (st' := [.int 0, .ref l0]) cd_99_285 rfl rfl ?_
      exact ok_99_302 h
    · rw [if_neg hc] at h
      refine gs_0 (pc' := 281) (L' := [some (.ref l0), some (.int l1), some (.int x_4), some (.int x_11)]) (st' := [.int 1, .ref l0]) cd_99_280 rfl rfl ?_
      refine gs_0 (pc' := 302) (L' := [some (.ref l0), some (.int l1), some (.int x_4), some (.int x_11)]) (st' := [.int 1, .ref l0]) cd_99_281 rfl rfl ?_
      exact ok_99_302 h
noncomputable def f_99_187 (K : Nat → Value) (k d : Nat) (l0 : Nat) (l1 : Int32) (l2 : Int32) (s0 : Nat) (s1 : Int32) (w : aW) (I : aI) (J : aJ) : Option aR :=
  gO w 6 s0 (
  cV (Cl K d 110 [.ref s0, .int s1, .int l1] w I J) fun w_1 I_2 J_3 =>
  gO w_1 6 l0 (
  lt_ (I_2 l0 13) fun x_4 =>
  gO w_1 6 l0 (
  cV (Cl K d 111 [.ref l0, .int 23, .int 0] w_1 I_2 J_3) fun w_5 I_6 J_7 =>
  gO w_5 6 l0 (
  cV (Cl K d 98 [.ref l0] w_5 I_6 J_7) fun w_8 I_9 J_10 =>
  gO w_8 6 l0 (
  cV (Cl K d 111 [.ref l0, .int 24, .int l2] w_8 I_9 J_10) fun w_11 I_12 J_13 =>
  gO w_11 6 l0 (
  cV (Cl K d 117 [.ref l0, .int x_4] w_11 I_12 J_13) fun w_14 I_15 J_16 =>
  some (none, w_14, I_15, J_16)))))))
theorem ok_99_187 {K : Nat → Value} {k d : Nat} {l0 : Nat} {l1 : Int32} {l2 : Int32} {s0 : Nat} {s1 : Int32} {w : aW} {I : aI} {J : aJ} {R : aR} (h : f_99_187 K k d l0 l1 l2 s0 s1 w I J = some R) : Go K (d + 1) 99 187 [some (.ref l0), some (.int l1), some (.int l2), none] [.int s1, .ref s0] w I J R := by
  unfold f_99_187 at h
  refine gs_0 (pc' := 188) (L' := [some (.ref l0), some (.int l1), some (.int l2), none]) (st' := [.int l1, .int s1, .ref s0]) cd_99_187 rfl rfl ?_
  obtain ⟨ht, h⟩ := gO_s h
  obtain ⟨w_1, I_2, J_3, hcl, h⟩ := cV_s h
  refine gs_call (as := [.ref s0, .int s1, .int l1]) (rest := []) cd_99_188 rfl (by decide) rfl (sm_rv_ok (by decide) ht) (Nat.le_of_ble_eq_true rfl) (Nat.le_of_ble_eq_true rfl) rfl hcl ?_
  refine gs_0 (pc' := 192) (L' := [some (.ref l0), some (.int l1), some (.int l2), none]) (st' := [.ref l0]) cd_99_191 rfl rfl ?_
  obtain ⟨ht, h⟩ := gO_s h
  refine gs_gfI cd_99_192 (by decide) (by decide) ht ?_
  refine gs_0 (pc' := 196) (L' := [some (.ref l0), some (.int l1), some (.int l2), some (.int (I_2 l0 13))]) (st' := []) cd_99_195 rfl rfl ?_
  obtain ⟨x_4, hx, h⟩ := lt_s_ h
  rw [hx]
  clear hx
  refine gs_0 (pc' := 197) (L' := [some (.ref l0), some (.int l1), some (.int l2), some (.int x_4)]) (st' := [.ref l0]) cd_99_196 rfl rfl ?_
  refine gs_0 (pc' := 199) (L' := [some (.ref l0), some (.int l1), some (.int l2), some (.int x_4)]) (st' := [.int 23, .ref l0]) cd_99_197 rfl rfl ?_
  refine gs_0 (pc' := 200) (L' := [some (.ref l0), some (.int l1), some (.int l2), some (.int x_4)]) (st' := [.int 0, .int 23, .ref l0]) cd_99_199 rfl rfl ?_
  obtain ⟨ht, h⟩ := gO_s h
  obtain ⟨w_5, I_6, J_7, hcl, h⟩ := cV_s h
  refine gs_call (as := [.ref l0, .int 23, .int 0]) (rest := []) cd_99_200 rfl (by decide) rfl (sm_rv_ok (by decide) ht) (Nat.le_of_ble_eq_true rfl) (Nat.le_of_ble_eq_true rfl) rfl hcl ?_
  refine gs_0 (pc' := 204) (L' := [some (.ref l0), some (.int l1), some (.int l2), some (.int x_4)]) (st' := [.ref l0]) cd_99_203 rfl rfl ?_
  obtain ⟨ht, h⟩ := gO_s h
  obtain ⟨w_8, I_9, J_10, hcl, h⟩ := cV_s h
  refine gs_call (as := [.ref l0]) (rest := []) cd_99_204 rfl (by decide) rfl (sm_rv_ok (by decide) ht) (Nat.le_of_ble_eq_true rfl) (Nat.le_of_ble_eq_true rfl) rfl hcl ?_
  refine gs_0 (pc' := 208) (L' := [some (.ref l0), some (.int l1), some (.int l2), some (.int x_4)]) (st' := [.ref l0]) cd_99_207 rfl rfl ?_
  refine gs_0 (pc' := 210) (L' := [some (.ref l0), some (.int l1), some (.int l2), some (.int x_4)]) (st' := [.int 24, .ref l0]) cd_99_208 rfl rfl ?_
  refine gs_0 (pc' := 211) (L' := [some (.ref l0), some (.int l1), some (.int l2), some (.int x_4)]) (st' := [.int l2, .int 24, .ref l0]) cd_99_210 rfl rfl ?_
  obtain ⟨ht, h⟩ := gO_s h
  obtain ⟨w_11, I_12, J_13, hcl, h⟩ := cV_s h
  refine gs_call (as := [.ref l0, .int 24, .int l2]) (rest := []) cd_99_211 rfl (by decide) rfl (sm_rv_ok (by decide) ht) (Nat.le_of_ble_eq_true rfl) (Nat.le_of_ble_eq_true rfl) rfl hcl ?_
  refine gs_0 (pc' := 215) (L' := [some (.ref l0), some (.int l1), some (.int l2), some (.int x_4)]) (st' := [.ref l0]) cd_99_214 rfl rfl ?_
  refine gs_0 (pc' := 216) (L' := [some (.ref l0), some (.int l1), some (.int l2), some (.int x_4)]) (st' := [.int x_4, .ref l0]) cd_99_215 rfl rfl ?_
  obtain ⟨ht, h⟩ := gO_s h
  obtain ⟨w_14, I_15, J_16, hcl, h⟩ := cV_s h
  refine gs_call (as := [.ref l0, .int x_4]) (rest := []) cd_99_216 rfl (by decide) rfl (sm_rv_ok (by decide) ht) (Nat.le_of_ble_eq_true rfl) (Nat.le_of_ble_eq_true rfl) rfl hcl ?_
  refine gs_0 (pc' := 330) (L' := [some (.ref l0), some (.int l1), some (.int l2), some (.int x_4)]) (st' := []) cd_99_219 rfl rfl ?_
  cases h
  exact gsr cd_99_330 rfl rfl
noncomputable def f_99_85 (K : Nat → Value) (k d : Nat) (l0 : Nat) (l1 : Int32) (s0 : Nat) (s1 : Int32) (w : aW) (I : aI) (J : aJ) : Option aR :=
  gO w 6 s0 (
  cV (Cl K d 110 [.ref s0, .int s1, .int l1] w I J) fun w_1 I_2 J_3 =>
  gO w_1 6 l0 (
  lt_ (I_2 l0 13) fun x_4 =>
  gO w_1 6 l0 (
  cV (Cl K d 111 [.ref l0, .int 23, .int 0] w_1 I_2 J_3) fun w_5 I_6 J_7 =>
  gO w_5 6 l0 (
  cV (Cl K d 98 [.ref l0] w_5 I_6 J_7) fun w_8 I_9 J_10 =>
  gO w_8 6 l0 (
  cI (Cl K d 89 [.ref l0, .int 6] w_8 I_9 J_10) fun x_14 w_11 I_12 J_13 =>
  if x_14 = 0 then
    gO w_11 6 l0 (
    cV (Cl K d 117 [.ref l0, .int x_4] w_11 I_12 J_13) fun w_15 I_16 J_17 =>
    some (none, w_15, I_16, J_17))
  else
    gO w_11 6 l0 (
    lt_ (I_12 l0 13) fun x_18 =>
    gO w_11 6 l0 (
    cV (Cl K d 111 [.ref l0, .int 24, .int 0] w_11 I_12 J_13) fun w_19 I_20 J_21 =>
    gO w_19 6 l0 (
    cV (Cl K d 117 [.ref l0, .int x_4] w_19 I_20 J_21) fun w_22 I_23 J_24 =>
    gO w_22 6 l0 (
    cV (Cl K d 84 [.ref l0] w_22 I_23 J_24) fun w_25 I_26 J_27 =>
    gO w_25 6 l0 (
    cV (Cl K d 98 [.ref l0] w_25 I_26 J_27) fun w_28 I_29 J_30 =>
    gO w_28 6 l0 (
    cV (Cl K d 117 [.ref l0, .int x_18] w_28 I_29 J_30) fun w_31 I_32 J_33 =>
    some (none, w_31, I_32, J_33))))))))))))
theorem ok_99_85 {K : Nat → Value} {k d : Nat} {l0 : Nat} {l1 : Int32} {s0 : Nat} {s1 : Int32} {w : aW} {I : aI} {J : aJ} {R : aR} (h : f_99_85 K k d l0 l1 s0 s1 w I J = some R) : Go K (d + 1) 99 85 [some (.ref l0), some (.int l1), none, none] [.int s1, .ref s0] w I J R := by
  unfold f_99_85 at h
  refine gs_0 (pc' := 86) (L' := [some (.ref l0), some (.int l1), none, none]) (st' := [.int l1, .int s1, .ref s0]) cd_99_85 rfl rfl ?_
  obtain ⟨ht, h⟩ := gO_s h
  obtain ⟨w_1, I_2, J_3, hcl, h⟩ := cV_s h
  refine gs_call (as := [.ref s0, .int s1, .int l1]) (rest := []) cd_99_86 rfl (by decide) rfl (sm_rv_ok (by decide) ht) (Nat.le_of_ble_eq_true rfl) (Nat.le_of_ble_eq_true rfl) rfl hcl ?_
  refine gs_0 (pc' := 90) (L' := [some (.ref l0), some (.int l1), none, none]) (st' := [.ref l0]) cd_99_89 rfl rfl ?_
  obtain ⟨ht, h⟩ := gO_s h
  refine gs_gfI cd_99_90 (by decide) (by decide) ht ?_
  refine gs_0 (pc' := 94) (L' := [some (.ref l0), some (.int l1), some (.int (I_2 l0 13)), none]) (st' := []) cd_99_93 rfl rfl ?_
  obtain ⟨x_4, hx, h⟩ := lt_s_ h
  rw [hx]
  clear hx
  refine gs_0 (pc' := 95) (L' := [some (.ref l0), some (.int l1), some (.int x_4), none]) (st' := [.ref l0]) cd_99_94 rfl rfl ?_
  refine gs_0 (pc' := 97) (L' := [some (.ref l0), some (.int l1), some (.int x_4), none]) (st' := [.int 23, .ref l0]) cd_99_95 rfl rfl ?_
  refine gs_0 (pc' := 98) (L' := [some (.ref l0), some (.int l1), some (.int x_4), none]) (st' := [.int 0, .int 23, .ref l0]) cd_99_97 rfl rfl ?_
  obtain ⟨ht, h⟩ := gO_s h
  obtain ⟨w_5, I_6, J_7, hcl, h⟩ := cV_s h
  refine gs_call (as := [.ref l0, .int 23, .int 0]) (rest := []) cd_99_98 rfl (by decide) rfl (sm_rv_ok (by decide) ht) (Nat.le_of_ble_eq_true rfl) (Nat.le_of_ble_eq_true rfl) rfl hcl ?_
  refine gs_0 (pc' := 102) (L' := [some (.ref l0), some (.int l1), some (.int x_4), none]) (st' := [.ref l0]) cd_99_101 rfl rfl ?_
  obtain ⟨ht, h⟩ := gO_s h
  obtain ⟨w_8, I_9, J_10, hcl, h⟩ := cV_s h
  refine gs_call (as := [.ref l0]) (rest := []) cd_99_102 rfl (by decide) rfl (sm_rv_ok (by decide) ht) (Nat.le_of_ble_eq_true rfl) (Nat.le_of_ble_eq_true rfl) rfl hcl ?_
  refine gs_0 (pc' := 106) (L' := [some (.ref l0), some (.int l1), some (.int x_4), none]) (st' := [.ref l0]) cd_99_105 rfl rfl ?_
  refine gs_0 (pc' := 108) (L' := [some (.ref l0), some (.int l1), some (.int x_4), none]) (st' := [.int 6, .ref l0]) cd_99_106 rfl rfl ?_
  obtain ⟨ht, h⟩ := gO_s h
  obtain ⟨x_14, w_11, I_12, J_13, hcl, h⟩ := cI_s h
  refine gs_call (as := [.ref l0, .int 6]) (rest := []) cd_99_108 rfl (by decide) rfl (sm_rv_ok (by decide) ht) (Nat.le_of_ble_eq_true rfl) (Nat.le_of_ble_eq_true rfl) rfl hcl ?_
  refine gs_0 (pc' := if x_14 = 0 then 147 else 114) (L' := [some (.ref l0), some (.int l1), some (.int x_4), none]) (st' := []) cd_99_111 rfl rfl ?_
  refine go_ite (fun hc => ?_) (fun hc => ?_)
  · rw [if_pos hc] at h
    refine gs_0 (pc' := 148) (L' := [some (.ref l0), some (.int l1), some (.int x_4), none]) (st' := [.ref l0]) cd_99_147 rfl rfl ?_
    refine gs_0 (pc' := 149) (L' := [some (.ref l0), some (.int l1), some (.int x_4), none]) (st' := [.int x_4, .ref l0]) cd_99_148 rfl rfl ?_
    obtain ⟨ht, h⟩ := gO_s h
    obtain ⟨w_15, I_16, J_17, hcl, h⟩ := cV_s h
    refine gs_call (as := [.ref l0, .int x_4]) (rest := []) cd_99_149 rfl (by decide) rfl (sm_rv_ok (by decide) ht) (Nat.le_of_ble_eq_true rfl) (Nat.le_of_ble_eq_true rfl) rfl hcl ?_
    refine gs_0 (pc' := 330) (L' := [some (.ref l0), some (.int l1), some (.int x_4), none]) (st' := []) cd_99_152 rfl rfl ?_
    cases h
    exact gsr cd_99_330 rfl rfl
  · rw [if_neg hc] at h
    refine gs_0 (pc' := 115) (L' := [some (.ref l0), some (.int l1), some (.int x_4), none]) (st' := [.ref l0]) cd_99_114 rfl rfl ?_
    obtain ⟨ht, h⟩ := gO_s h
    refine gs_gfI cd_99_115 (by decide) (by decide) ht ?_
    refine gs_0 (pc' := 119) (L' := [some (.ref l0), some (.int l1), some (.int x_4), some (.int (I_12 l0 13))]) (st' := []) cd_99_118 rfl rfl ?_
    obtain ⟨x_18, hx, h⟩ := lt_s_ h
    rw [hx]
    clear hx
    refine gs_0 (pc' := 120) (L' := [some (.ref l0), some (.int l1), some (.int x_4), some (.int x_18)]) (st' := [.ref l0]) cd_99_119 rfl rfl ?_
    refine gs_0 (pc' := 122) (L' := [some (.ref l0), some (.int l1), some (.int x_4), some (.int x_18)]) (st' := [.int 24, .ref l0]) cd_99_120 rfl rfl ?_
    refine gs_0 (pc' := 123) (L' := [some (.ref l0), some (.int l1), some (.int x_4), some (.int x_18)]) (st' := [.int 0, .int 24, .ref l0]) cd_99_122 rfl rfl ?_
    obtain ⟨ht, h⟩ := gO_s h
    obtain ⟨w_19, I_20, J_21, hcl, h⟩ := cV_s h
    refine gs_call (as := [.ref l0, .int 24, .int 0]) (rest := []) cd_99_123 rfl (by decide) rfl (sm_rv_ok (by decide) ht) (Nat.le_of_ble_eq_true rfl) (Nat.le_of_ble_eq_true rfl) rfl hcl ?_
    refine gs_0 (pc' := 127) (L' := [some (.ref l0), some (.int l1), some (.int x_4), some (.int x_18)]) (st' := [.ref l0]) cd_99_126 rfl rfl ?_
    refine gs_0 (pc' := 128) (L' := [some (.ref l0), some (.int l1), some (.int x_4), some (.int x_18)]) (st' := [.int x_4, .ref l0]) cd_99_127 rfl rfl ?_
    obtain ⟨ht, h⟩ := gO_s h
    obtain ⟨w_22, I_23, J_24, hcl, h⟩ := cV_s h
    refine gs_call (as := [.ref l0, .int x_4]) (rest := []) cd_99_128 rfl (by decide) rfl (sm_rv_ok (by decide) ht) (Nat.le_of_ble_eq_true rfl) (Nat.le_of_ble_eq_true rfl) rfl hcl ?_
    refine gs_0 (pc' := 132) (L' := [some (.ref l0), some (.int l1), some (.int x_4), some (.int x_18)]) (st' := [.ref l0]) cd_99_131 rfl rfl ?_
    obtain ⟨ht, h⟩ := gO_s h
    obtain ⟨w_25, I_26, J_27, hcl, h⟩ := cV_s h
    refine gs_call (as := [.ref l0]) (rest := []) cd_99_132 rfl (by decide) rfl (sm_rv_ok (by decide) ht) (Nat.le_of_ble_eq_true rfl) (Nat.le_of_ble_eq_true rfl) rfl hcl ?_
    refine gs_0 (pc' := 136) (L' := [some (.ref l0), some (.int l1), some (.int x_4), some (.int x_18)]) (st' := [.ref l0]) cd_99_135 rfl rfl ?_
    obtain ⟨ht, h⟩ := gO_s h
    obtain ⟨w_28, I_29, J_30, hcl, h⟩ := cV_s h
    refine gs_call (as := [.ref l0]) (rest := []) cd_99_136 rfl (by decide) rfl (sm_rv_ok (by decide) ht) (Nat.le_of_ble_eq_true rfl) (Nat.le_of_ble_eq_true rfl) rfl hcl ?_
    refine gs_0 (pc' := 140) (L' := [some (.ref l0), some (.int l1), some (.int x_4), some (.int x_18)]) (st' := [.ref l0]) cd_99_139 rfl rfl ?_
    refine gs_0 (pc' := 141) (L' := [some (.ref l0), some (.int l1), some (.int x_4), some (.int x_18)]) (st' := [.int x_18, .ref l0]) cd_99_140 rfl rfl ?_
    obtain ⟨ht, h⟩ := gO_s h
    obtain ⟨w_31, I_32, J_33, hcl, h⟩ := cV_s h
    refine gs_call (as := [.ref l0, .int x_18]) (rest := []) cd_99_141 rfl (by decide) rfl (sm_rv_ok (by decide) ht) (Nat.le_of_ble_eq_true rfl) (Nat.le_of_ble_eq_true rfl) rfl hcl ?_
    refine gs_0 (pc' := 152) (L' := [some (.ref l0), some (.int l1), some (.int x_4), some (.int x_18)]) (st' := []) cd_99_144 rfl rfl ?_
    refine gs_0 (pc' := 330) (L' := [some (.ref l0), some (.int l1), some (.int x_4), some (.int x_18)]) (st' := []) cd_99_152 rfl rfl ?_
    cases h
    exact gsr cd_99_330 rfl rfl
noncomputable def f_99_59 (K : Nat → Value) (k d : Nat) (l0 : Nat) (l1 : Int32) (w : aW) (I : aI) (J : aJ) : Option aR :=
  gO w 6 l0 (
  cI (Cl K d 89 [.ref l0, .int 5] w I J) fun x_4 w_1 I_2 J_3 =>
  if x_4 = 0 then
    gO w_1 6 l0 (
    cI (Cl K d 89 [.ref l0, .int 7] w_1 I_2 J_3) fun x_8 w_5 I_6 J_7 =>
    if x_8 = 0 then
      gO w_5 6 l0 (
      cI (Cl K d 89 [.ref l0, .int 8] w_5 I_6 J_7) fun x_12 w_9 I_10 J_11 =>
      if ¬ x_12 = 0 then
        f_99_240 K k d l0 l1 w_9 I_10 J_11
      else
        gO w_9 6 l0 (
        cI (Cl K d 89 [.ref l0, .int 9] w_9 I_10 J_11) fun x_16 w_13 I_14 J_15 =>
        if x_16 = 0 then
          gO w_13 6 l0 (
          lt_ (sm_up2 I_14 l0 26 1) fun I_17 =>
          some (none, w_13, I_17, J_15))
        else
          f_99_240 K k d l0 l1 w_13 I_14 J_15))
    else
      gO w_5 6 l0 (
      cV (Cl K d 84 [.ref l0] w_5 I_6 J_7) fun w_18 I_19 J_20 =>
      gO w_18 6 l0 (
      lt_ (I_19 l0 13) fun x_21 =>
      gO w_18 6 l0 (
      cI (Cl K d 101 [.ref l0] w_18 I_19 J_20) fun x_25 w_22 I_23 J_24 =>
      if ¬ x_25 = 1 then
        f_99_187 K k d l0 l1 x_21 l0 0 w_22 I_23 J_24
      else
        f_99_187 K k d l0 l1 x_21 l0 1 w_22 I_23 J_24))))
  else
    gO w_1 6 l0 (
    cV (Cl K d 84 [.ref l0] w_1 I_2 J_3) fun w_26 I_27 J_28 =>
    gO w_26 6 l0 (
    cI (Cl K d 101 [.ref l0] w_26 I_27 J_28) fun x_32 w_29 I_30 J_31 =>
    if ¬ x_32 = 1 then
      f_99_85 K k d l0 l1 l0 0 w_29 I_30 J_31
    else
      f_99_85 K k d l0 l1 l0 1 w_29 I_30 J_31)))
theorem ok_99_59 {K : Nat → Value} {k d : Nat} {l0 : Nat} {l1 : Int32} {w : aW} {I : aI} {J : aJ} {R : aR} (h : f_99_59 K k d l0 l1 w I J = some R) : Go K (d + 1) 99 59 [some (.ref l0), some (.int l1), none, none] [] w I J R := by
  unfold f_99_59 at h
  refine gs_0 (pc' := 60) (L' := [some (.ref l0), some (.int l1), none, none]) (st' := [.ref l0]) cd_99_59 rfl rfl ?_
  refine gs_0 (pc' := 61) (L' := [some (.ref l0), some (.int l1), none, none]) (st' := [.int 5, .ref l0]) cd_99_60 rfl rfl ?_
  obtain ⟨ht, h⟩ := gO_s h
  obtain ⟨x_4, w_1, I_2, J_3, hcl, h⟩ := cI_s h
  refine gs_call (as := [.ref l0, .int 5]) (rest := []) cd_99_61 rfl (by decide) rfl (sm_rv_ok (by decide) ht) (Nat.le_of_ble_eq_true rfl) (Nat.le_of_ble_eq_true rfl) rfl hcl ?_
  refine gs_0 (pc' := if x_4 = 0 then 155 else 67) (L' := [some (.ref l0), some (.int l1), none, none]) (st' := []) cd_99_64 rfl rfl ?_
  refine go_ite (fun hc => ?_) (fun hc => ?_)
  · rw [if_pos hc] at h
    refine gs_0 (pc' := 156) (L' := [some (.ref l0), some (.int l1), none, none]) (st' := [.ref l0]) cd_99_155 rfl rfl ?_
    refine gs_0 (pc' := 158) (L' := [some (.ref l0), some (.int l1), none, none]) (st' := [.int 7, .ref l0]) cd_99_156 rfl rfl ?_
    obtain ⟨ht, h⟩ := gO_s h
    obtain ⟨x_8, w_5, I_6, J_7, hcl, h⟩ := cI_s h
    refine gs_call (as := [.ref l0, .int 7]) (rest := []) cd_99_158 rfl (by decide) rfl (sm_rv_ok (by decide) ht) (Nat.le_of_ble_eq_true rfl) (Nat.le_of_ble_eq_true rfl) rfl hcl ?_
    refine gs_0 (pc' := if x_8 = 0 then 222 else 164) (L' := [some (.ref l0), some (.int l1), none, none]) (st' := []) cd_99_161 rfl rfl ?_
    refine go_ite (fun hc => ?_) (fun hc => ?_)
    · rw [if_pos hc] at h
      refine gs_0 (pc' := 223) (L' := [some (.ref l0), some (.int l1), none, none]) (st' := [.ref l0]) cd_99_222 rfl rfl ?_
      refine gs_0 (pc' := 225) (L' := [some (.ref l0), some (.int l1), none, none]) (st' := [.int 8, .ref l0]) cd_99_223 rfl rfl ?_
      obtain ⟨ht, h⟩ := gO_s h
      obtain ⟨x_12, w_9, I_10, J_11, hcl, h⟩ := cI_s h
      refine gs_call (as := [.ref l0, .int 8]) (rest := []) cd_99_225 rfl (by decide) rfl (sm_rv_ok (by decide) ht) (Nat.le_of_ble_eq_true rfl) (Nat.le_of_ble_eq_true rfl) rfl hcl ?_
      refine gs_0 (pc' := if ¬ x_12 = 0 then 240 else 231) (L' := [some (.ref l0), some (.int l1), none, none]) (st' := []) cd_99_228 rfl rfl ?_
      refine go_ite (fun hc => ?_) (fun hc => ?_)
      · rw [if_pos hc] at h
        exact ok_99_240 h
      · rw [if_neg hc] at h
        refine gs_0 (pc' := 232) (L' := [some (.ref l0), some (.int l1), none, none]) (st' := [.ref l0]) cd_99_231 rfl rfl ?_
        refine gs_0 (pc' := 234) (L' := [some (.ref l0), some (.int l1), none, none]) (st' := [.int 9, .ref l0]) cd_99_232 rfl rfl ?_
        obtain ⟨ht, h⟩ := gO_s h
        obtain ⟨x_16, w_13, I_14, J_15, hcl, h⟩ := cI_s h
        refine gs_call (as := [.ref l0, .int 9]) (rest := []) cd_99_234 rfl (by decide) rfl (sm_rv_ok (by decide) ht) (Nat.le_of_ble_eq_true rfl) (Nat.le_of_ble_eq_true rfl) rfl hcl ?_
        refine gs_0 (pc' := if x_16 = 0 then 325 else 240) (L' := [some (.ref l0), some (.int l1), none, none]) (st' := []) cd_99_237 rfl rfl ?_
        refine go_ite (fun hc => ?_) (fun hc => ?_)
        · rw [if_pos hc] at h
          refine gs_0 (pc' := 326) (L' := [some (.ref l0), some (.int l1), none, none]) (st' := [.ref l0]) cd_99_325 rfl rfl ?_
          refine gs_0 (pc' := 327) (L' := [some (.ref l0), some (.int l1), none, none]) (st' := [.int 1, .ref l0]) cd_99_326 rfl rfl ?_
          obtain ⟨ht, h⟩ := gO_s h
          refine gs_pfI cd_99_327 (by decide) (Or.inr ⟨rfl, Or.inr rfl⟩) ht ?_
          obtain ⟨I_17, hx, h⟩ := lt_s_ h
          rw [hx]
          cases h
          exact gsr cd_99_330 rfl rfl
        · rw [if_neg hc] at h
          exact ok_99_240 h
    · rw [if_neg hc] at h
      refine gs_0 (pc' := 165) (L' := [some (.ref l0), some (.int l1), none, none]) (st' := [.ref l0]) cd_99_164 rfl rfl ?_
      obtain ⟨ht, h⟩ := gO_s h
      obtain ⟨w_18, I_19, J_20, hcl, h⟩ := cV_s h
      refine gs_call (as := [.ref l0]) (rest := []) cd_99_165 rfl (by decide) rfl (sm_rv_ok (by decide) ht) (Nat.le_of_ble_eq_true rfl) (Nat.le_of_ble_eq_true rfl) rfl hcl ?_
      refine gs_0 (pc' := 169) (L' := [some (.ref l0), some (.int l1), none, none]) (st' := [.ref l0]) cd_99_168 rfl rfl ?_
      obtain ⟨ht, h⟩ := gO_s h
      refine gs_gfI cd_99_169 (by decide) (by decide) ht ?_
      refine gs_0 (pc' := 173) (L' := [some (.ref l0), some (.int l1), some (.int (I_19 l0 13)), none]) (st' := []) cd_99_172 rfl rfl ?_
      obtain ⟨x_21, hx, h⟩ := lt_s_ h
      rw [hx]
      clear hx
      refine gs_0 (pc' := 174) (L' := [some (.ref l0), some (.int l1), some (.int x_21), none]) (st' := [.ref l0]) cd_99_173 rfl rfl ?_
      refine gs_0 (pc' := 175) (L' := [some (.ref l0), some (.int l1), some (.int x_21), none]) (st' := [.ref l0, .ref l0]) cd_99_174 rfl rfl ?_
      obtain ⟨ht, h⟩ := gO_s h
      obtain ⟨x_25, w_22, I_23, J_24, hcl, h⟩ := cI_s h
      refine gs_call (as := [.ref l0]) (rest := [.ref l0]) cd_99_175 rfl (by decide) rfl (sm_rv_ok (by decide) ht) (Nat.le_of_ble_eq_true rfl) (Nat.le_of_ble_eq_true rfl) rfl hcl ?_
      refine gs_0 (pc' := 179) (L' := [some (.ref l0), some (.int l1), some (.int x_21), none]) (st' := [.int 1, .int x_25, .ref l0]) cd_99_178 rfl rfl ?_
      refine gs_0 (pc' := if ¬ x_25 = 1 then 186 else 182) (L' := [some (.ref l0), some (.int l1), some (.int x_21), none]) (st' := [.ref l0]) cd_99_179 rfl rfl ?_
      refine go_ite (fun hc => ?_) (fun hc => ?_)
      · rw [if_pos hc] at h
        refine gs_0 (pc' := 187) (L' := [some (.ref l0), some (.int l1), some (.int x_21), none]) (st' := [.int 0, .ref l0]) cd_99_186 rfl rfl ?_
        exact ok_99_187 h
      · rw [if_neg hc] at h
        refine gs_0 (pc' := 183) (L' := [some (.ref l0), some (.int l1), some (.int x_21), none]) (st' := [.int 1, .ref l0]) cd_99_182 rfl rfl ?_
        refine gs_0 (pc' := 187) (L' := [some (.ref l0), some (.int l1), some (.int x_21), none]) (st' := [.int 1, .ref l0]) cd_99_183 rfl rfl ?_
        exact ok_99_187 h
  · rw [if_neg hc] at h
    refine gs_0 (pc' := 68) (L' := [some (.ref l0), some (.int l1), none, none]) (st' := [.ref l0]) cd_99_67 rfl rfl ?_
    obtain ⟨ht, h⟩ := gO_s h
    obtain ⟨w_26, I_27, J_28, hcl, h⟩ := cV_s h
    refine gs_call (as := [.ref l0]) (rest := []) cd_99_68 rfl (by decide) rfl (sm_rv_ok (by decide) ht) (Nat.le_of_ble_eq_true rfl) (Nat.le_of_ble_eq_true rfl) rfl hcl ?_
    refine gs_0 (pc' := 72) (L' := [some (.ref l0), some (.int l1), none, none]) (st' := [.ref l0]) cd_99_71 rfl rfl ?_
    refine gs_0 (pc' := 73) (L' := [some (.ref l0), some (.int l1), none, none]) (st' := [.ref l0, .ref l0]) cd_99_72 rfl rfl ?_
    obtain ⟨ht, h⟩ := gO_s h
    obtain ⟨x_32, w_29, I_30, J_31, hcl, h⟩ := cI_s h
    refine gs_call (as := [.ref l0]) (rest := [.ref l0]) cd_99_73 rfl (by decide) rfl (sm_rv_ok (by decide) ht) (Nat.le_of_ble_eq_true rfl) (Nat.le_of_ble_eq_true rfl) rfl hcl ?_
    refine gs_0 (pc' := 77) (L' := [some (.ref l0), some (.int l1), none, none]) (st' := [.int 1, .int x_32, .ref l0]) cd_99_76 rfl rfl ?_
    refine gs_0 (pc' := if ¬ x_32 = 1 then 84 else 80) (L' := [some (.ref l0), some (.int l1), none, none]) (st' := [.ref l0]) cd_99_77 rfl rfl ?_
    refine go_ite (fun hc => ?_) (fun hc => ?_)
    · rw [if_pos hc] at h
      refine gs_0 (pc' := 85) (L' := [some (.ref l0), some (.int l1), none, none]) (st' := [.int 0, .ref l0]) cd_99_84 rfl rfl ?_
      exact ok_99_85 h
    · rw [if_neg hc] at h
      refine gs_0 (pc' := 81) (L' := [some (.ref l0), some (.int l1), none, none]) (st' := [.int 1, .ref l0]) cd_99_80 rfl rfl ?_
      refine gs_0 (pc' := 85) (L' := [some (.ref l0), some (.int l1), none, none]) (st' := [.int 1, .ref l0]) cd_99_81 rfl rfl ?_
      exact ok_99_85 h
noncomputable def f_99_36 (K : Nat → Value) (k d : Nat) (l0 : Nat) (l1 : Int32) (w : aW) (I : aI) (J : aJ) : Option aR :=
  gO w 6 l0 (
  if ¬ (I l0 26) = 0 then
    f_99_59 K k d l0 l1 w I J
  else
    gO w 6 l0 (
    if ¬ (I l0 24) = 1 then
      f_99_59 K k d l0 l1 w I J
    else
      gO w 6 l0 (
      cV (Cl K d 116 [.ref l0, .int l1] w I J) fun w_1 I_2 J_3 =>
      some (none, w_1, I_2, J_3))))
theorem ok_99_36 {K : Nat → Value} {k d : Nat} {l0 : Nat} {l1 : Int32} {w : aW} {I : aI} {J : aJ} {R : aR} (h : f_99_36 K k d l0 l1 w I J = some R) : Go K (d + 1) 99 36 [some (.ref l0), some (.int l1), none, none] [] w I J R := by
  unfold f_99_36 at h
  refine gs_0 (pc' := 37) (L' := [some (.ref l0), some (.int l1), none, none]) (st' := [.ref l0]) cd_99_36 rfl rfl ?_
  obtain ⟨ht, h⟩ := gO_s h
  refine gs_gfI cd_99_37 (by decide) (by decide) ht ?_
  refine gs_0 (pc' := if ¬ (I l0 26) = 0 then 59 else 43) (L' := [some (.ref l0), some (.int l1), none, none]) (st' := []) cd_99_40 rfl rfl ?_
  refine go_ite (fun hc => ?_) (fun hc => ?_)
  · rw [if_pos hc] at h
    exact ok_99_59 h
  · rw [if_neg hc] at h
    refine gs_0 (pc' := 44) (L' := [some (.ref l0), some (.int l1), none, none]) (st' := [.ref l0]) cd_99_43 rfl rfl ?_
    obtain ⟨ht, h⟩ := gO_s h
    refine gs_gfI cd_99_44 (by decide) (by decide) ht ?_
    refine gs_0 (pc' := 48) (L' := [some (.ref l0), some (.int l1), none, none]) (st' := [.int 1, .int (I l0 24)]) cd_99_47 rfl rfl ?_
    refine gs_0 (pc' := if ¬ (I l0 24) = 1 then 59 else 51) (L' := [some (.ref l0), some (.int l1), none, none]) (st' := []) cd_99_48 rfl rfl ?_
    refine go_ite (fun hc => ?_) (fun hc => ?_)
    · rw [if_pos hc] at h
      exact ok_99_59 h
    · rw [if_neg hc] at h
      refine gs_0 (pc' := 52) (L' := [some (.ref l0), some (.int l1), none, none]) (st' := [.ref l0]) cd_99_51 rfl rfl ?_
      refine gs_0 (pc' := 53) (L' := [some (.ref l0), some (.int l1), none, none]) (st' := [.int l1, .ref l0]) cd_99_52 rfl rfl ?_
      obtain ⟨ht, h⟩ := gO_s h
      obtain ⟨w_1, I_2, J_3, hcl, h⟩ := cV_s h
      refine gs_call (as := [.ref l0, .int l1]) (rest := []) cd_99_53 rfl (by decide) rfl (sm_rv_ok (by decide) ht) (Nat.le_of_ble_eq_true rfl) (Nat.le_of_ble_eq_true rfl) rfl hcl ?_
      refine gs_0 (pc' := 330) (L' := [some (.ref l0), some (.int l1), none, none]) (st' := []) cd_99_56 rfl rfl ?_
      cases h
      exact gsr cd_99_330 rfl rfl
noncomputable def f_99 (K : Nat → Value) (k d : Nat) (l0 : Nat) (w : aW) (I : aI) (J : aJ) : Option aR :=
  gO w 6 l0 (
  lt_ (I l0 22) fun x_1 =>
  gO w 6 l0 (
  if ¬ (I l0 26) = 0 then
    f_99_36 K k d l0 x_1 w I J
  else
    gO w 6 l0 (
    if ¬ (I l0 24) = 2 then
      f_99_36 K k d l0 x_1 w I J
    else
      gO w 6 l0 (
      if 3 < (I l0 25) then
        f_99_36 K k d l0 x_1 w I J
      else
        gO w 6 l0 (
        cV (Cl K d 100 [.ref l0, .int x_1] w I J) fun w_2 I_3 J_4 =>
        some (none, w_2, I_3, J_4))))))
theorem ok_99 {K : Nat → Value} {k d : Nat} {l0 : Nat} {w : aW} {I : aI} {J : aJ} {R : aR} (h : f_99 K k d l0 w I J = some R) : Go K (d + 1) 99 0 [some (.ref l0), none, none, none] [] w I J R := by
  unfold f_99 at h
  refine gs_0 (pc' := 1) (L' := [some (.ref l0), none, none, none]) (st' := [.ref l0]) cd_99_0 rfl rfl ?_
  obtain ⟨ht, h⟩ := gO_s h
  refine gs_gfI cd_99_1 (by decide) (by decide) ht ?_
  refine gs_0 (pc' := 5) (L' := [some (.ref l0), some (.int (I l0 22)), none, none]) (st' := []) cd_99_4 rfl rfl ?_
  obtain ⟨x_1, hx, h⟩ := lt_s_ h
  rw [hx]
  clear hx
  refine gs_0 (pc' := 6) (L' := [some (.ref l0), some (.int x_1), none, none]) (st' := [.ref l0]) cd_99_5 rfl rfl ?_
  obtain ⟨ht, h⟩ := gO_s h
  refine gs_gfI cd_99_6 (by decide) (by decide) ht ?_
  refine gs_0 (pc' := if ¬ (I l0 26) = 0 then 36 else 12) (L' := [some (.ref l0), some (.int x_1), none, none]) (st' := []) cd_99_9 rfl rfl ?_
  refine go_ite (fun hc => ?_) (fun hc => ?_)
  · rw [if_pos hc] at h
    exact ok_99_36 h
  · rw [if_neg hc] at h
    refine gs_0 (pc' := 13) (L' := [some (.ref l0), some (.int x_1), none, none]) (st' := [.ref l0]) cd_99_12 rfl rfl ?_
    obtain ⟨ht, h⟩ := gO_s h
    refine gs_gfI cd_99_13 (by decide) (by decide) ht ?_
    refine gs_0 (pc' := 17) (L' := [some (.ref l0), some (.int x_1), none, none]) (st' := [.int 2, .int (I l0 24)]) cd_99_16 rfl rfl ?_
    refine gs_0 (pc' := if ¬ (I l0 24) = 2 then 36 else 20) (L' := [some (.ref l0), some (.int x_1), none, none]) (st' := []) cd_99_17 rfl rfl ?_
    refine go_ite (fun hc => ?_) (fun hc => ?_)
    · rw [if_pos hc] at h
      exact ok_99_36 h
    · rw [if_neg hc] at h
      refine gs_0 (pc' := 21) (L' := [some (.ref l0), some (.int x_1), none, none]) (st' := [.ref l0]) cd_99_20 rfl rfl ?_
      obtain ⟨ht, h⟩ := gO_s h
      refine gs_gfI cd_99_21 (by decide) (by decide) ht ?_
      refine gs_0 (pc' := 25) (L' := [some (.ref l0), some (.int x_1), none, none]) (st' := [.int 3, .int (I l0 25)]) cd_99_24 rfl rfl ?_
      refine gs_0 (pc' := if 3 < (I l0 25) then 36 else 28) (L' := [some (.ref l0), some (.int x_1), none, none]) (st' := []) cd_99_25 rfl rfl ?_
      refine go_ite (fun hc => ?_) (fun hc => ?_)
      · rw [if_pos hc] at h
        exact ok_99_36 h
      · rw [if_neg hc] at h
        refine gs_0 (pc' := 29) (L' := [some (.ref l0), some (.int x_1), none, none]) (st' := [.ref l0]) cd_99_28 rfl rfl ?_
        refine gs_0 (pc' := 30) (L' := [some (.ref l0), some (.int x_1), none, none]) (st' := [.int x_1, .ref l0]) cd_99_29 rfl rfl ?_
        obtain ⟨ht, h⟩ := gO_s h
        obtain ⟨w_2, I_3, J_4, hcl, h⟩ := cV_s h
        refine gs_call (as := [.ref l0, .int x_1]) (rest := []) cd_99_30 rfl (by decide) rfl (sm_rv_ok (by decide) ht) (Nat.le_of_ble_eq_true rfl) (Nat.le_of_ble_eq_true rfl) rfl hcl ?_
        refine gs_0 (pc' := 330) (L' := [some (.ref l0), some (.int x_1), none, none]) (st' := []) cd_99_33 rfl rfl ?_
        cases h
        exact gsr cd_99_330 rfl rfl
theorem cl_99 {K : Nat → Value} {k d : Nat} {l0 : Nat} {w : aW} {I : aI} {J : aJ} {R : aR} (h : f_99 K k d l0 w I J = some R) : Cl K (d + 1) 99 [.ref l0] w I J = some R := Cl_of (ok_99 h)
/-! ProvedMachineModel.declared(I)V -/
theorem gl_100 : gcd.lookup 100 = some gw_100 := rfl
theorem cd_100_0 : sm_cd 100 0 = some (.aload_n 0, 1, 0, 0, 0, 0, 0, 0, 0) := cd_of gl_100 rfl
theorem cd_100_1 : sm_cd 100 1 = some (.invokevirtual 306, 3, 95, 0, 0, 3, 6, 0, 0) := cd_of gl_100 rfl
theorem cd_100_4 : sm_cd 100 4 = some (.istore_n 2, 1, 2, 0, 0, 0, 0, 0, 0) := cd_of gl_100 rfl
theorem cd_100_5 : sm_cd 100 5 = some (.aload_n 0, 1, 0, 0, 0, 0, 0, 0, 0) := cd_of gl_100 rfl
theorem cd_100_6 : sm_cd 100 6 = some (.getfield 160, 3, 6, 22, 0, 0, 0, 0, 0) := cd_of gl_100 rfl
theorem cd_100_9 : sm_cd 100 9 = some (.istore_n 3, 1, 3, 0, 0, 0, 0, 0, 0) := cd_of gl_100 rfl
theorem cd_100_10 : sm_cd 100 10 = some (.aload_n 0, 1, 0, 0, 0, 0, 0, 0, 0) := cd_of gl_100 rfl
theorem cd_100_11 : sm_cd 100 11 = some (.invokevirtual 279, 3, 91, 0, 0, 3, 6, 0, 0) := cd_of gl_100 rfl
theorem cd_100_14 : sm_cd 100 14 = some (.istore 4, 2, 4, 0, 0, 0, 0, 0, 0) := cd_of gl_100 rfl
theorem cd_100_16 : sm_cd 100 16 = some (.aload_n 0, 1, 0, 0, 0, 0, 0, 0, 0) := cd_of gl_100 rfl
theorem cd_100_17 : sm_cd 100 17 = some (.aload_n 0, 1, 0, 0, 0, 0, 0, 0, 0) := cd_of gl_100 rfl
theorem cd_100_18 : sm_cd 100 18 = some (.iload 4, 2, 4, 0, 0, 0, 0, 0, 0) := cd_of gl_100 rfl
theorem cd_100_20 : sm_cd 100 20 = some (.invokevirtual 218, 3, 97, 0, 1, 3, 6, 0, 0) := cd_of gl_100 rfl
theorem cd_100_23 : sm_cd 100 23 = some (.ifCond .ge 21, 3, 44, 0, 0, 0, 0, 0, 0) := cd_of gl_100 rfl
theorem cd_100_26 : sm_cd 100 26 = some (.aload_n 0, 1, 0, 0, 0, 0, 0, 0, 0) := cd_of gl_100 rfl
theorem cd_100_27 : sm_cd 100 27 = some (.getfield 29, 3, 6, 9, 2, 0, 0, 0, 0) := cd_of gl_100 rfl
theorem cd_100_30 : sm_cd 100 30 = some (.aload_n 0, 1, 0, 0, 0, 0, 0, 0, 0) := cd_of gl_100 rfl
theorem cd_100_31 : sm_cd 100 31 = some (.getfield 216, 3, 6, 30, 0, 0, 0, 0, 0) := cd_of gl_100 rfl
theorem cd_100_34 : sm_cd 100 34 = some (.iaload, 1, 0, 0, 0, 0, 0, 0, 0) := cd_of gl_100 rfl
theorem cd_100_35 : sm_cd 100 35 = some (.bipush 6, 2, 0, 0, 0, 0, 0, 6, 0) := cd_of gl_100 rfl
theorem cd_100_37 : sm_cd 100 37 = some (.if_icmp .ge 7, 3, 44, 0, 0, 0, 0, 0, 0) := cd_of gl_100 rfl
theorem cd_100_40 : sm_cd 100 40 = some (.iconst 1, 1, 0, 0, 0, 0, 0, 1, 0) := cd_of gl_100 rfl
theorem cd_100_41 : sm_cd 100 41 = some (.goto 4, 3, 45, 0, 0, 0, 0, 0, 0) := cd_of gl_100 rfl
theorem cd_100_44 : sm_cd 100 44 = some (.iconst 0, 1, 0, 0, 0, 0, 0, 0, 0) := cd_of gl_100 rfl
theorem cd_100_45 : sm_cd 100 45 = some (.iload_n 3, 1, 3, 0, 0, 0, 0, 0, 0) := cd_of gl_100 rfl
theorem cd_100_46 : sm_cd 100 46 = some (.invokevirtual 221, 3, 92, 0, 2, 3, 6, 0, 0) := cd_of gl_100 rfl
theorem cd_100_49 : sm_cd 100 49 = some (.aload_n 0, 1, 0, 0, 0, 0, 0, 0, 0) := cd_of gl_100 rfl
theorem cd_100_50 : sm_cd 100 50 = some (.bipush 61, 2, 0, 0, 0, 0, 0, 61, 0) := cd_of gl_100 rfl
theorem cd_100_52 : sm_cd 100 52 = some (.invokevirtual 275, 3, 93, 0, 1, 2, 6, 0, 0) := cd_of gl_100 rfl
theorem cd_100_55 : sm_cd 100 55 = some (.aload_n 0, 1, 0, 0, 0, 0, 0, 0, 0) := cd_of gl_100 rfl
theorem cd_100_56 : sm_cd 100 56 = some (.invokevirtual 241, 3, 101, 0, 0, 4, 6, 0, 0) := cd_of gl_100 rfl
theorem cd_100_59 : sm_cd 100 59 = some (.istore 5, 2, 5, 0, 0, 0, 0, 0, 0) := cd_of gl_100 rfl
theorem cd_100_61 : sm_cd 100 61 = some (.aload_n 0, 1, 0, 0, 0, 0, 0, 0, 0) := cd_of gl_100 rfl
theorem cd_100_62 : sm_cd 100 62 = some (.bipush 59, 2, 0, 0, 0, 0, 0, 59, 0) := cd_of gl_100 rfl
theorem cd_100_64 : sm_cd 100 64 = some (.invokevirtual 275, 3, 93, 0, 1, 2, 6, 0, 0) := cd_of gl_100 rfl
theorem cd_100_67 : sm_cd 100 67 = some (.aload_n 0, 1, 0, 0, 0, 0, 0, 0, 0) := cd_of gl_100 rfl
theorem cd_100_68 : sm_cd 100 68 = some (.iload 5, 2, 5, 0, 0, 0, 0, 0, 0) := cd_of gl_100 rfl
theorem cd_100_70 : sm_cd 100 70 = some (.iload_n 2, 1, 2, 0, 0, 0, 0, 0, 0) := cd_of gl_100 rfl
theorem cd_100_71 : sm_cd 100 71 = some (.if_icmp .ne 7, 3, 78, 0, 0, 0, 0, 0, 0) := cd_of gl_100 rfl
theorem cd_100_74 : sm_cd 100 74 = some (.iconst 1, 1, 0, 0, 0, 0, 0, 1, 0) := cd_of gl_100 rfl
theorem cd_100_75 : sm_cd 100 75 = some (.goto 4, 3, 79, 0, 0, 0, 0, 0, 0) := cd_of gl_100 rfl
theorem cd_100_78 : sm_cd 100 78 = some (.iconst 0, 1, 0, 0, 0, 0, 0, 0, 0) := cd_of gl_100 rfl
theorem cd_100_79 : sm_cd 100 79 = some (.iload_n 1, 1, 1, 0, 0, 0, 0, 0, 0) := cd_of gl_100 rfl
theorem cd_100_80 : sm_cd 100 80 = some (.invokevirtual 244, 3, 110, 0, 2, 3, 6, 0, 0) := cd_of gl_100 rfl
theorem cd_100_83 : sm_cd 100 83 = some (.aload_n 0, 1, 0, 0, 0, 0, 0, 0, 0) := cd_of gl_100 rfl
theorem cd_100_84 : sm_cd 100 84 = some (.bipush 21, 2, 0, 0, 0, 0, 0, 21, 0) := cd_of gl_100 rfl
theorem cd_100_86 : sm_cd 100 86 = some (.aload_n 0, 1, 0, 0, 0, 0, 0, 0, 0) := cd_of gl_100 rfl
theorem cd_100_87 : sm_cd 100 87 = some (.getfield 29, 3, 6, 9, 2, 0, 0, 0, 0) := cd_of gl_100 rfl
theorem cd_100_90 : sm_cd 100 90 = some (.aload_n 0, 1, 0, 0, 0, 0, 0, 0, 0) := cd_of gl_100 rfl
theorem cd_100_91 : sm_cd 100 91 = some (.getfield 216, 3, 6, 30, 0, 0, 0, 0, 0) := cd_of gl_100 rfl
theorem cd_100_94 : sm_cd 100 94 = some (.iaload, 1, 0, 0, 0, 0, 0, 0, 0) := cd_of gl_100 rfl
theorem cd_100_95 : sm_cd 100 95 = some (.invokevirtual 247, 3, 111, 0, 2, 3, 6, 0, 0) := cd_of gl_100 rfl
theorem cd_100_98 : sm_cd 100 98 = some (.aload_n 0, 1, 0, 0, 0, 0, 0, 0, 0) := cd_of gl_100 rfl
theorem cd_100_99 : sm_cd 100 99 = some (.iload 4, 2, 4, 0, 0, 0, 0, 0, 0) := cd_of gl_100 rfl
theorem cd_100_101 : sm_cd 100 101 = some (.iload_n 2, 1, 2, 0, 0, 0, 0, 0, 0) := cd_of gl_100 rfl
theorem cd_100_102 : sm_cd 100 102 = some (.iload_n 3, 1, 3, 0, 0, 0, 0, 0, 0) := cd_of gl_100 rfl
theorem cd_100_103 : sm_cd 100 103 = some (.invokevirtual 309, 3, 96, 0, 3, 5, 6, 0, 0) := cd_of gl_100 rfl
theorem cd_100_106 : sm_cd 100 106 = some (.return_, 1, 0, 0, 0, 0, 0, 0, 0) := cd_of gl_100 rfl
noncomputable def f_100_79 (K : Nat → Value) (k d : Nat) (l0 : Nat) (l1 : Int32) (l2 : Int32) (l3 : Int32) (l4 : Int32) (l5 : Int32) (s0 : Nat) (s1 : Int32) (w : aW) (I : aI) (J : aJ) : Option aR :=
  gO w 6 s0 (
  cV (Cl K d 110 [.ref s0, .int s1, .int l1] w I J) fun w_1 I_2 J_3 =>
  gO w_1 6 l0 (
  gV w_1 l0 9 fun q_4 =>
  gO w_1 6 l0 (
  gA w_1 10 20 q_4 (I_2 l0 30) (
  gO w_1 6 l0 (
  cV (Cl K d 111 [.ref l0, .int 21, .int (I_2 q_4 (I_2 l0 30 : Int32).toNatClampNeg)] w_1 I_2 J_3) fun w_5 I_6 J_7 =>
  gO w_5 6 l0 (
  cV (Cl K d 96 [.ref l0, .int l4, .int l2, .int l3] w_5 I_6 J_7) fun w_8 I_9 J_10 =>
  some (none, w_8, I_9, J_10)))))))
theorem ok_100_79 {K : Nat → Value} {k d : Nat} {l0 : Nat} {l1 : Int32} {l2 : Int32} {l3 : Int32} {l4 : Int32} {l5 : Int32} {s0 : Nat} {s1 : Int32} {w : aW} {I : aI} {J : aJ} {R : aR} (h : f_100_79 K k d l0 l1 l2 l3 l4 l5 s0 s1 w I J = some R) : Go K (d + 1) 100 79 [some (.ref l0), some (.int l1), some (.int l2), some (.int l3), some (.int l4), some (.int l5)] [.int s1, .ref s0] w I J R := by
  unfold f_100_79 at h
  refine gs_0 (pc' := 80) (L' := [some (.ref l0), some (.int l1), some (.int l2), some (.int l3), some (.int l4), some (.int l5)]) (st' := [.int l1, .int s1, .ref s0]) cd_100_79 rfl rfl ?_
  obtain ⟨ht, h⟩ := gO_s h
  obtain ⟨w_1, I_2, J_3, hcl, h⟩ := cV_s h
  refine gs_call (as := [.ref s0, .int s1, .int l1]) (rest := []) cd_100_80 rfl (by decide) rfl (sm_rv_ok (by decide) ht) (Nat.le_of_ble_eq_true rfl) (Nat.le_of_ble_eq_true rfl) rfl hcl ?_
  refine gs_0 (pc' := 84) (L' := [some (.ref l0), some (.int l1), some (.int l2), some (.int l3), some (.int l4), some (.int l5)]) (st' := [.ref l0]) cd_100_83 rfl rfl ?_
  refine gs_0 (pc' := 86) (L' := [some (.ref l0), some (.int l1), some (.int l2), some (.int l3), some (.int l4), some (.int l5)]) (st' := [.int 21, .ref l0]) cd_100_84 rfl rfl ?_
  refine gs_0 (pc' := 87) (L' := [some (.ref l0), some (.int l1), some (.int l2), some (.int l3), some (.int l4), some (.int l5)]) (st' := [.ref l0, .int 21, .ref l0]) cd_100_86 rfl rfl ?_
  obtain ⟨ht, h⟩ := gO_s h
  obtain ⟨q_4, hv, h⟩ := gV_s h
  refine gs_gfR cd_100_87 (by decide) ht hv ?_
  refine gs_0 (pc' := 91) (L' := [some (.ref l0), some (.int l1), some (.int l2), some (.int l3), some (.int l4), some (.int l5)]) (st' := [.ref l0, .ref q_4, .int 21, .ref l0]) cd_100_90 rfl rfl ?_
  obtain ⟨ht, h⟩ := gO_s h
  refine gs_gfI cd_100_91 (by decide) (by decide) ht ?_
  obtain ⟨ht, h⟩ := gA_s h
  refine gs_iald cd_100_94 ht ?_
  obtain ⟨ht, h⟩ := gO_s h
  obtain ⟨w_5, I_6, J_7, hcl, h⟩ := cV_s h
  refine gs_call (as := [.ref l0, .int 21, .int (I_2 q_4 (I_2 l0 30 : Int32).toNatClampNeg)]) (rest := []) cd_100_95 rfl (by decide) rfl (sm_rv_ok (by decide) ht) (Nat.le_of_ble_eq_true rfl) (Nat.le_of_ble_eq_true rfl) rfl hcl ?_
  refine gs_0 (pc' := 99) (L' := [some (.ref l0), some (.int l1), some (.int l2), some (.int l3), some (.int l4), some (.int l5)]) (st' := [.ref l0]) cd_100_98 rfl rfl ?_
  refine gs_0 (pc' := 101) (L' := [some (.ref l0), some (.int l1), some (.int l2), some (.int l3), some (.int l4), some (.int l5)]) (st' := [.int l4, .ref l0]) cd_100_99 rfl rfl ?_
  refine gs_0 (pc' := 102) (L' := [some (.ref l0), some (.int l1), some (.int l2), some (.int l3), some (.int l4), some (.int l5)]) (st' := [.int l2, .int l4, .ref l0]) cd_100_101 rfl rfl ?_
  refine gs_0 (pc' := 103) (L' := [some (.ref l0), some (.int l1), some (.int l2), some (.int l3), some (.int l4), some (.int l5)]) (st' := [.int l3, .int l2, .int l4, .ref l0]) cd_100_102 rfl rfl ?_
  obtain ⟨ht, h⟩ := gO_s h
  obtain ⟨w_8, I_9, J_10, hcl, h⟩ := cV_s h
  refine gs_call (as := [.ref l0, .int l4, .int l2, .int l3]) (rest := []) cd_100_103 rfl (by decide) rfl (sm_rv_ok (by decide) ht) (Nat.le_of_ble_eq_true rfl) (Nat.le_of_ble_eq_true rfl) rfl hcl ?_
  cases h
  exact gsr cd_100_106 rfl rfl
noncomputable def f_100_45 (K : Nat → Value) (k d : Nat) (l0 : Nat) (l1 : Int32) (l2 : Int32) (l3 : Int32) (l4 : Int32) (s0 : Nat) (s1 : Int32) (w : aW) (I : aI) (J : aJ) : Option aR :=
  gO w 6 s0 (
  cV (Cl K d 92 [.ref s0, .int s1, .int l3] w I J) fun w_1 I_2 J_3 =>
  gO w_1 6 l0 (
  cV (Cl K d 93 [.ref l0, .int 61] w_1 I_2 J_3) fun w_4 I_5 J_6 =>
  gO w_4 6 l0 (
  cI (Cl K d 101 [.ref l0] w_4 I_5 J_6) fun x_10 w_7 I_8 J_9 =>
  gO w_7 6 l0 (
  cV (Cl K d 93 [.ref l0, .int 59] w_7 I_8 J_9) fun w_11 I_12 J_13 =>
  if ¬ x_10 = l2 then
    f_100_79 K k d l0 l1 l2 l3 l4 x_10 l0 0 w_11 I_12 J_13
  else
    f_100_79 K k d l0 l1 l2 l3 l4 x_10 l0 1 w_11 I_12 J_13))))
theorem ok_100_45 {K : Nat → Value} {k d : Nat} {l0 : Nat} {l1 : Int32} {l2 : Int32} {l3 : Int32} {l4 : Int32} {s0 : Nat} {s1 : Int32} {w : aW} {I : aI} {J : aJ} {R : aR} (h : f_100_45 K k d l0 l1 l2 l3 l4 s0 s1 w I J = some R) : Go K (d + 1) 100 45 [some (.ref l0), some (.int l1), some (.int l2), some (.int l3), some (.int l4), none] [.int s1, .ref s0] w I J R := by
  unfold f_100_45 at h
  refine gs_0 (pc' := 46) (L' := [some (.ref l0), some (.int l1), some (.int l2), some (.int l3), some (.int l4), none]) (st' := [.int l3, .int s1, .ref s0]) cd_100_45 rfl rfl ?_
  obtain ⟨ht, h⟩ := gO_s h
  obtain ⟨w_1, I_2, J_3, hcl, h⟩ := cV_s h
  refine gs_call (as := [.ref s0, .int s1, .int l3]) (rest := []) cd_100_46 rfl (by decide) rfl (sm_rv_ok (by decide) ht) (Nat.le_of_ble_eq_true rfl) (Nat.le_of_ble_eq_true rfl) rfl hcl ?_
  refine gs_0 (pc' := 50) (L' := [some (.ref l0), some (.int l1), some (.int l2), some (.int l3), some (.int l4), none]) (st' := [.ref l0]) cd_100_49 rfl rfl ?_
  refine gs_0 (pc' := 52) (L' := [some (.ref l0), some (.int l1), some (.int l2), some (.int l3), some (.int l4), none]) (st' := [.int 61, .ref l0]) cd_100_50 rfl rfl ?_
  obtain ⟨ht, h⟩ := gO_s h
  obtain ⟨w_4, I_5, J_6, hcl, h⟩ := cV_s h
  refine gs_call (as := [.ref l0, .int 61]) (rest := []) cd_100_52 rfl (by decide) rfl (sm_rv_ok (by decide) ht) (Nat.le_of_ble_eq_true rfl) (Nat.le_of_ble_eq_true rfl) rfl hcl ?_
  refine gs_0 (pc' := 56) (L' := [some (.ref l0), some (.int l1), some (.int l2), some (.int l3), some (.int l4), none]) (st' := [.ref l0]) cd_100_55 rfl rfl ?_
  obtain ⟨ht, h⟩ := gO_s h
  obtain ⟨x_10, w_7, I_8, J_9, hcl, h⟩ := cI_s h
  refine gs_call (as := [.ref l0]) (rest := []) cd_100_56 rfl (by decide) rfl (sm_rv_ok (by decide) ht) (Nat.le_of_ble_eq_true rfl) (Nat.le_of_ble_eq_true rfl) rfl hcl ?_
  refine gs_0 (pc' := 61) (L' := [some (.ref l0), some (.int l1), some (.int l2), some (.int l3), some (.int l4), some (.int x_10)]) (st' := []) cd_100_59 rfl rfl ?_
  refine gs_0 (pc' := 62) (L' := [some (.ref l0), some (.int l1), some (.int l2), some (.int l3), some (.int l4), some (.int x_10)]) (st' := [.ref l0]) cd_100_61 rfl rfl ?_
  refine gs_0 (pc' := 64) (L' := [some (.ref l0), some (.int l1), some (.int l2), some (.int l3), some (.int l4), some (.int x_10)]) (st' := [.int 59, .ref l0]) cd_100_62 rfl rfl ?_
  obtain ⟨ht, h⟩ := gO_s h
  obtain ⟨w_11, I_12, J_13, hcl, h⟩ := cV_s h
  refine gs_call (as := [.ref l0, .int 59]) (rest := []) cd_100_64 rfl (by decide) rfl (sm_rv_ok (by decide) ht) (Nat.le_of_ble_eq_true rfl) (Nat.le_of_ble_eq_true rfl) rfl hcl ?_
  refine gs_0 (pc' := 68) (L' := [some (.ref l0), some (.int l1), some (.int l2), some (.int l3), some (.int l4), some (.int x_10)]) (st' := [.ref l0]) cd_100_67 rfl rfl ?_
  refine gs_0 (pc' := 70) (L' := [some (.ref l0), some (.int l1), some (.int l2), some (.int l3), some (.int l4), some (.int x_10)]) (st' := [.int x_10, .ref l0]) cd_100_68 rfl rfl ?_
  refine gs_0 (pc' := 71) (L' := [some (.ref l0), some (.int l1), some (.int l2), some (.int l3), some (.int l4), some (.int x_10)]) (st' := [.int l2, .int x_10, .ref l0]) cd_100_70 rfl rfl ?_
  refine gs_0 (pc' := if ¬ x_10 = l2 then 78 else 74) (L' := [some (.ref l0), some (.int l1), some (.int l2), some (.int l3), some (.int l4), some (.int x_10)]) (st' := [.ref l0]) cd_100_71 rfl rfl ?_
  refine go_ite (fun hc => ?_) (fun hc => ?_)
  · rw [if_pos hc] at h
    refine gs_0 (pc' := 79) (L' := [some (.ref l0), some (.int l1), some (.int l2), some (.int l3), some (.int l4), some (.int x_10)]) (st' := [.int 0, .ref l0]) cd_100_78 rfl rfl ?_
    exact ok_100_79 h
  · rw [if_neg hc] at h
    refine gs_0 (pc' := 75) (L' := [some (.ref l0), some (.int l1), some (.int l2), some (.int l3), some (.int l4), some (.int x_10)]) (st' := [.int 1, .ref l0]) cd_100_74 rfl rfl ?_
    refine gs_0 (pc' := 79) (L' := [some (.ref l0), some (.int l1), some (.int l2), some (.int l3), some (.int l4), some (.int x_10)]) (st' := [.int 1, .ref l0]) cd_100_75 rfl rfl ?_
    exact ok_100_79 h
noncomputable def f_100_44 (K : Nat → Value) (k d : Nat) (l0 : Nat) (l1 : Int32) (l2 : Int32) (l3 : Int32) (l4 : Int32) (s0 : Nat) (w : aW) (I : aI) (J : aJ) : Option aR :=
  f_100_45 K k d l0 l1 l2 l3 l4 s0 0 w I J
theorem ok_100_44 {K : Nat → Value} {k d : Nat} {l0 : Nat} {l1 : Int32} {l2 : Int32} {l3 : Int32} {l4 : Int32} {s0 : Nat} {w : aW} {I : aI} {J : aJ} {R : aR} (h : f_100_44 K k d l0 l1 l2 l3 l4 s0 w I J = some R) : Go K (d + 1) 100 44 [some (.ref l0), some (.int l1), some (.int l2), some (.int l3), some (.int l4), none] [.ref s0] w I J R := by
  unfold f_100_44 at h
  refine gs_0 (pc' := 45) (L' := [some (.ref l0), some (.int l1), some (.int l2), some (.int l3), some (.int l4), none]) (st' := [.int 0, .ref s0]) cd_100_44 rfl rfl ?_
  exact ok_100_45 h
noncomputable def f_100 (K : Nat → Value) (k d : Nat) (l0 : Nat) (l1 : Int32) (w : aW) (I : aI) (J : aJ) : Option aR :=
  gO w 6 l0 (
  cI (Cl K d 95 [.ref l0] w I J) fun x_4 w_1 I_2 J_3 =>
  gO w_1 6 l0 (
  lt_ (I_2 l0 22) fun x_5 =>
  gO w_1 6 l0 (
  cI (Cl K d 91 [.ref l0] w_1 I_2 J_3) fun x_9 w_6 I_7 J_8 =>
  gO w_6 6 l0 (
  cI (Cl K d 97 [.ref l0, .int x_9] w_6 I_7 J_8) fun x_13 w_10 I_11 J_12 =>
  if 0 ≤ x_13 then
    f_100_44 K k d l0 l1 x_4 x_5 x_9 l0 w_10 I_11 J_12
  else
    gO w_10 6 l0 (
    gV w_10 l0 9 fun q_14 =>
    gO w_10 6 l0 (
    gA w_10 10 20 q_14 (I_11 l0 30) (
    if 6 ≤ (I_11 q_14 (I_11 l0 30 : Int32).toNatClampNeg) then
      f_100_44 K k d l0 l1 x_4 x_5 x_9 l0 w_10 I_11 J_12
    else
      f_100_45 K k d l0 l1 x_4 x_5 x_9 l0 1 w_10 I_11 J_12)))))))
theorem ok_100 {K : Nat → Value} {k d : Nat} {l0 : Nat} {l1 : Int32} {w : aW} {I : aI} {J : aJ} {R : aR} (h : f_100 K k d l0 l1 w I J = some R) : Go K (d + 1) 100 0 [some (.ref l0), some (.int l1), none, none, none, none] [] w I J R := by
  unfold f_100 at h
  refine gs_0 (pc' := 1) (L' := [some (.ref l0), some (.int l1), none, none, none, none]) (st' := [.ref l0]) cd_100_0 rfl rfl ?_
  obtain ⟨ht, h⟩ := gO_s h
  obtain ⟨x_4, w_1, I_2, J_3, hcl, h⟩ := cI_s h
  refine gs_call (as := [.ref l0]) (rest := []) cd_100_1 rfl (by decide) rfl (sm_rv_ok (by decide) ht) (Nat.le_of_ble_eq_true rfl) (Nat.le_of_ble_eq_true rfl) rfl hcl ?_
  refine gs_0 (pc' := 5) (L' := [some (.ref l0), some (.int l1), some (.int x_4), none, none, none]) (st' := []) cd_100_4 rfl rfl ?_
  refine gs_0 (pc' := 6) (L' := [some (.ref l0), some (.int l1), some (.int x_4), none, none, none]) (st' := [.ref l0]) cd_100_5 rfl rfl ?_
  obtain ⟨ht, h⟩ := gO_s h
  refine gs_gfI cd_100_6 (by decide) (by decide) ht ?_
  refine gs_0 (pc' := 10) (L' := [some (.ref l0), some (.int l1), some (.int x_4), some (.int (I_2 l0 22)), none, none]) (st' := []) cd_100_9 rfl rfl ?_
  obtain ⟨x_5, hx, h⟩ := lt_s_ h
  rw [hx]
  clear hx
  refine gs_0 (pc' := 11) (L' := [some (.ref l0), some (.int l1), some (.int x_4), some (.int x_5), none, none]) (st' := [.ref l0]) cd_100_10 rfl rfl ?_
  obtain ⟨ht, h⟩ := gO_s h
  obtain ⟨x_9, w_6, I_7, J_8, hcl, h⟩ := cI_s h
  refine gs_call (as := [.ref l0]) (rest := []) cd_100_11 rfl (by decide) rfl (sm_rv_ok (by decide) ht) (Nat.le_of_ble_eq_true rfl) (Nat.le_of_ble_eq_true rfl) rfl hcl ?_
  refine gs_0 (pc' := 16) (L' := [some (.ref l0), some (.int l1), some (.int x_4), some (.int x_5), some (.int x_9), none]) (st' := []) cd_100_14 rfl rfl ?_
  refine gs_0 (pc' := 17) (L' := [some (.ref l0), some (.int l1), some (.int x_4), some (.int x_5), some (.int x_9), none]) (st' := [.ref l0]) cd_100_16 rfl rfl ?_
  refine gs_0 (pc' := 18) (L' := [some (.ref l0), some (.int l1), some (.int x_4), some (.int x_5), some (.int x_9), none]) (st' := [.ref l0, .ref l0]) cd_100_17 rfl rfl ?_
  refine gs_0 (pc' := 20) (L' := [some (.ref l0), some (.int l1), some (.int x_4), some (.int x_5), some (.int x_9), none]) (st' := [.int x_9, .ref l0, .ref l0]) cd_100_18 rfl rfl ?_
  obtain ⟨ht, h⟩ := gO_s h
  obtain ⟨x_13, w_10, I_11, J_12, hcl, h⟩ := cI_s h
  refine gs_call (as := [.ref l0, .int x_9]) (rest := [.ref l0]) cd_100_20 rfl (by decide) rfl (sm_rv_ok (by decide) ht) (Nat.le_of_ble_eq_true rfl) (Nat.le_of_ble_eq_true rfl) rfl hcl ?_
  refine gs_0 (pc' := if 0 ≤ x_13 then 44 else 26) (L' := [some (.ref l0), some (.int l1), some (.int x_4), some (.int x_5), some (.int x_9), none]) (st' := [.ref l0]) cd_100_23 rfl rfl ?_
  refine go_ite (fun hc => ?_) (fun hc => ?_)
  · rw [if_pos hc] at h
    exact ok_100_44 h
  · rw [if_neg hc] at h
    refine gs_0 (pc' := 27) (L' := [some (.ref l0), some (.int l1), some (.int x_4), some (.int x_5), some (.int x_9), none]) (st' := [.ref l0, .ref l0]) cd_100_26 rfl rfl ?_
    obtain ⟨ht, h⟩ := gO_s h
    obtain ⟨q_14, hv, h⟩ := gV_s h
    refine gs_gfR cd_100_27 (by decide) ht hv ?_
    refine gs_0 (pc' := 31) (L' := [some (.ref l0), some (.int l1), some (.int x_4), some (.int x_5), some (.int x_9), none]) (st' := [.ref l0, .ref q_14, .ref l0]) cd_100_30 rfl rfl ?_
    obtain ⟨ht, h⟩ := gO_s h
    refine gs_gfI cd_100_31 (by decide) (by decide) ht ?_
    obtain ⟨ht, h⟩ := gA_s h
    refine gs_iald cd_100_34 ht ?_
    refine gs_0 (pc' := 37) (L' := [some (.ref l0), some (.int l1), some (.int x_4), some (.int x_5), some (.int x_9), none]) (st' := [.int 6, .int (I_11 q_14 (I_11 l0 30 : Int32).toNatClampNeg), .ref l0]) cd_100_35 rfl rfl ?_
    refine gs_0 (pc' := if 6 ≤ (I_11 q_14 (I_11 l0 30 : Int32).toNatClampNeg) then 44 else 40) (L' := [some (.ref l0), some (.int l1), some (.int x_4), some (.int x_5), some (.int x_9), none]) (st' := [.ref l0]) cd_100_37 rfl rfl ?_
    refine go_ite (fun hc => ?_) (fun hc => ?_)
    · rw [if_pos hc] at h
      exact ok_100_44 h
    · rw [if_neg hc] at h
      refine gs_0 (pc' := 41) (L' := [some (.ref l0), some (.int l1), some (.int x_4), some (.int x_5), some (.int x_9), none]) (st' := [.int 1, .ref l0]) cd_100_40 rfl rfl ?_
      refine gs_0 (pc' := 45) (L' := [some (.ref l0), some (.int l1), some (.int x_4), some (.int x_5), some (.int x_9), none]) (st' := [.int 1, .ref l0]) cd_100_41 rfl rfl ?_
      exact ok_100_45 h
theorem cl_100 {K : Nat → Value} {k d : Nat} {l0 : Nat} {l1 : Int32} {w : aW} {I : aI} {J : aJ} {R : aR} (h : f_100 K k d l0 l1 w I J = some R) : Cl K (d + 1) 100 [.ref l0, .int l1] w I J = some R := Cl_of (ok_100 h)
/-! ProvedMachineModel.whole()I -/
set_option maxRecDepth 20000 in
theorem gl_101 : gcd.lookup 101 = some gw_101 := rfl
theorem cd_101_0 : sm_cd 101 0 = some (.aload_n 0, 1, 0, 0, 0, 0, 0, 0, 0) := cd_of gl_101 rfl
theorem cd_101_1 : sm_cd 101 1 = some (.invokevirtual 234, 3, 102, 0, 0, 1, 6, 0, 0) := cd_of gl_101 rfl
theorem cd_101_4 : sm_cd 101 4 = some (.ifCond .eq 5, 3, 9, 0, 0, 0, 0, 0, 0) := cd_of gl_101 rfl
theorem cd_101_7 : sm_cd 101 7 = some (.iconst 0, 1, 0, 0, 0, 0, 0, 0, 0) := cd_of gl_101 rfl
theorem cd_101_8 : sm_cd 101 8 = some (.ireturn, 1, 0, 0, 1, 0, 0, 0, 0) := cd_of gl_101 rfl
theorem cd_101_9 : sm_cd 101 9 = some (.aload_n 0, 1, 0, 0, 0, 0, 0, 0, 0) := cd_of gl_101 rfl
theorem cd_101_10 : sm_cd 101 10 = some (.dup, 1, 0, 0, 0, 0, 0, 0, 0) := cd_of gl_101 rfl
theorem cd_101_11 : sm_cd 101 11 = some (.getfield 231, 3, 6, 29, 0, 0, 0, 0, 0) := cd_of gl_101 rfl
theorem cd_101_14 : sm_cd 101 14 = some (.iconst 1, 1, 0, 0, 0, 0, 0, 1, 0) := cd_of gl_101 rfl
theorem cd_101_15 : sm_cd 101 15 = some (.iadd, 1, 0, 0, 0, 0, 0, 0, 0) := cd_of gl_101 rfl
theorem cd_101_16 : sm_cd 101 16 = some (.putfield 231, 3, 6, 29, 0, 0, 0, 0, 0) := cd_of gl_101 rfl
theorem cd_101_19 : sm_cd 101 19 = some (.aload_n 0, 1, 0, 0, 0, 0, 0, 0, 0) := cd_of gl_101 rfl
theorem cd_101_20 : sm_cd 101 20 = some (.invokevirtual 238, 3, 103, 0, 0, 4, 6, 0, 0) := cd_of gl_101 rfl
theorem cd_101_23 : sm_cd 101 23 = some (.istore_n 1, 1, 1, 0, 0, 0, 0, 0, 0) := cd_of gl_101 rfl
theorem cd_101_24 : sm_cd 101 24 = some (.aload_n 0, 1, 0, 0, 0, 0, 0, 0, 0) := cd_of gl_101 rfl
theorem cd_101_25 : sm_cd 101 25 = some (.bipush 58, 2, 0, 0, 0, 0, 0, 58, 0) := cd_of gl_101 rfl
theorem cd_101_27 : sm_cd 101 27 = some (.invokevirtual 200, 3, 94, 0, 1, 2, 6, 0, 0) := cd_of gl_101 rfl
theorem cd_101_30 : sm_cd 101 30 = some (.ifCond .eq 45, 3, 75, 0, 0, 0, 0, 0, 0) := cd_of gl_101 rfl
theorem cd_101_33 : sm_cd 101 33 = some (.aload_n 0, 1, 0, 0, 0, 0, 0, 0, 0) := cd_of gl_101 rfl
theorem cd_101_34 : sm_cd 101 34 = some (.getfield 160, 3, 6, 22, 0, 0, 0, 0, 0) := cd_of gl_101 rfl
theorem cd_101_37 : sm_cd 101 37 = some (.istore_n 2, 1, 2, 0, 0, 0, 0, 0, 0) := cd_of gl_101 rfl
theorem cd_101_38 : sm_cd 101 38 = some (.aload_n 0, 1, 0, 0, 0, 0, 0, 0, 0) := cd_of gl_101 rfl
theorem cd_101_39 : sm_cd 101 39 = some (.invokevirtual 197, 3, 84, 0, 0, 1, 6, 0, 0) := cd_of gl_101 rfl
theorem cd_101_42 : sm_cd 101 42 = some (.aload_n 0, 1, 0, 0, 0, 0, 0, 0, 0) := cd_of gl_101 rfl
theorem cd_101_43 : sm_cd 101 43 = some (.invokevirtual 241, 3, 101, 0, 0, 4, 6, 0, 0) := cd_of gl_101 rfl
theorem cd_101_46 : sm_cd 101 46 = some (.istore_n 3, 1, 3, 0, 0, 0, 0, 0, 0) := cd_of gl_101 rfl
theorem cd_101_47 : sm_cd 101 47 = some (.aload_n 0, 1, 0, 0, 0, 0, 0, 0, 0) := cd_of gl_101 rfl
theorem cd_101_48 : sm_cd 101 48 = some (.iload_n 1, 1, 1, 0, 0, 0, 0, 0, 0) := cd_of gl_101 rfl
theorem cd_101_49 : sm_cd 101 49 = some (.ifCond .ne 12, 3, 61, 0, 0, 0, 0, 0, 0) := cd_of gl_101 rfl
theorem cd_101_52 : sm_cd 101 52 = some (.iload_n 3, 1, 3, 0, 0, 0, 0, 0, 0) := cd_of gl_101 rfl
theorem cd_101_53 : sm_cd 101 53 = some (.iconst 3, 1, 0, 0, 0, 0, 0, 3, 0) := cd_of gl_101 rfl
theorem cd_101_54 : sm_cd 101 54 = some (.if_icmp .ne 7, 3, 61, 0, 0, 0, 0, 0, 0) := cd_of gl_101 rfl
theorem cd_101_57 : sm_cd 101 57 = some (.iconst 1, 1, 0, 0, 0, 0, 0, 1, 0) := cd_of gl_101 rfl
theorem cd_101_58 : sm_cd 101 58 = some (.goto 4, 3, 62, 0, 0, 0, 0, 0, 0) := cd_of gl_101 rfl
theorem cd_101_61 : sm_cd 101 61 = some (.iconst 0, 1, 0, 0, 0, 0, 0, 0, 0) := cd_of gl_101 rfl
theorem cd_101_62 : sm_cd 101 62 = some (.iload_n 2, 1, 2, 0, 0, 0, 0, 0, 0) := cd_of gl_101 rfl
theorem cd_101_63 : sm_cd 101 63 = some (.invokevirtual 244, 3, 110, 0, 2, 3, 6, 0, 0) := cd_of gl_101 rfl
theorem cd_101_66 : sm_cd 101 66 = some (.aload_n 0, 1, 0, 0, 0, 0, 0, 0, 0) := cd_of gl_101 rfl
theorem cd_101_67 : sm_cd 101 67 = some (.bipush 12, 2, 0, 0, 0, 0, 0, 12, 0) := cd_of gl_101 rfl
theorem cd_101_69 : sm_cd 101 69 = some (.iconst 0, 1, 0, 0, 0, 0, 0, 0, 0) := cd_of gl_101 rfl
theorem cd_101_70 : sm_cd 101 70 = some (.invokevirtual 247, 3, 111, 0, 2, 3, 6, 0, 0) := cd_of gl_101 rfl
theorem cd_101_73 : sm_cd 101 73 = some (.iconst 3, 1, 0, 0, 0, 0, 0, 3, 0) := cd_of gl_101 rfl
theorem cd_101_74 : sm_cd 101 74 = some (.istore_n 1, 1, 1, 0, 0, 0, 0, 0, 0) := cd_of gl_101 rfl
theorem cd_101_75 : sm_cd 101 75 = some (.aload_n 0, 1, 0, 0, 0, 0, 0, 0, 0) := cd_of gl_101 rfl
theorem cd_101_76 : sm_cd 101 76 = some (.dup, 1, 0, 0, 0, 0, 0, 0, 0) := cd_of gl_101 rfl
theorem cd_101_77 : sm_cd 101 77 = some (.getfield 231, 3, 6, 29, 0, 0, 0, 0, 0) := cd_of gl_101 rfl
theorem cd_101_80 : sm_cd 101 80 = some (.iconst 1, 1, 0, 0, 0, 0, 0, 1, 0) := cd_of gl_101 rfl
theorem cd_101_81 : sm_cd 101 81 = some (.isub, 1, 0, 0, 0, 0, 0, 0, 0) := cd_of gl_101 rfl
theorem cd_101_82 : sm_cd 101 82 = some (.putfield 231, 3, 6, 29, 0, 0, 0, 0, 0) := cd_of gl_101 rfl
theorem cd_101_85 : sm_cd 101 85 = some (.iload_n 1, 1, 1, 0, 0, 0, 0, 0, 0) := cd_of gl_101 rfl
theorem cd_101_86 : sm_cd 101 86 = some (.ireturn, 1, 0, 0, 1, 0, 0, 0, 0) := cd_of gl_101 rfl
noncomputable def f_101_75 (K : Nat → Value) (k d : Nat) (l0 : Nat) (l1 : Int32) (w : aW) (I : aI) (J : aJ) : Option aR :=
  gO w 6 l0 (
  gO w 6 l0 (
  lt_ (sm_up2 I l0 29 ((I l0 29) - 1)) fun I_1 =>
  some (some (.int l1), w, I_1, J)))
theorem ok_101_75 {K : Nat → Value} {k d : Nat} {l0 : Nat} {l1 : Int32} {w : aW} {I : aI} {J : aJ} {R : aR} (h : f_101_75 K k d l0 l1 w I J = some R) : Go K (d + 1) 101 75 [some (.ref l0), some (.int l1), none, none] [] w I J R := by
  unfold f_101_75 at h
  refine gs_0 (pc' := 76) (L' := [some (.ref l0), some (.int l1), none, none]) (st' := [.ref l0]) cd_101_75 rfl rfl ?_
  refine gs_0 (pc' := 77) (L' := [some (.ref l0), some (.int l1), none, none]) (st' := [.ref l0, .ref l0]) cd_101_76 rfl rfl ?_
  obtain ⟨ht, h⟩ := gO_s h
  refine gs_gfI cd_101_77 (by decide) (by decide) ht ?_
  refine gs_0 (pc' := 81) (L' := [some (.ref l0), some (.int l1), none, none]) (st' := [.int 1, .int (I l0 29), .ref l0]) cd_101_80 rfl rfl ?_
  refine gs_0 (pc' := 82) (L' := [some (.ref l0), some (.int l1), none, none]) (st' := [.int ((I l0 29) - 1), .ref l0]) cd_101_81 rfl rfl ?_
  obtain ⟨ht, h⟩ := gO_s h
  refine gs_pfI cd_101_82 (by decide) (Or.inl rfl) ht ?_
  obtain ⟨I_1, hx, h⟩ := lt_s_ h
  rw [hx]
  refine gs_0 (pc' := 86) (L' := [some (.ref l0), some (.int l1), none, none]) (st' := [.int l1]) cd_101_85 rfl rfl ?_
  cases h
  exact gs_ri cd_101_86 (Or.inl rfl)
noncomputable def f_101_62 (K : Nat → Value) (k d : Nat) (l0 : Nat) (l1 : Int32) (l2 : Int32) (l3 : Int32) (s0 : Nat) (s1 : Int32) (w : aW) (I : aI) (J : aJ) : Option aR :=
  gO w 6 s0 (
  cV (Cl K d 110 [.ref s0, .int s1, .int l2] w I J) fun w_1 I_2 J_3 =>
  gO w_1 6 l0 (
  cV (Cl K d 111 [.ref l0, .int 12, .int 0] w_1 I_2 J_3) fun w_4 I_5 J_6 =>
  f_101_75 K k d l0 3 w_4 I_5 J_6))
theorem ok_101_62 {K : Nat → Value} {k d : Nat} {l0 : Nat} {l1 : Int32} {l2 : Int32} {l3 : Int32} {s0 : Nat} {s1 : Int32} {w : aW} {I : aI} {J : aJ} {R : aR} (h : f_101_62 K k d l0 l1 l2 l3 s0 s1 w I J = some R) : Go K (d + 1) 101 62 [some (.ref l0), some (.int l1), some (.int l2), some (.int l3)] [.int s1, .ref s0] w I J R := by
  unfold f_101_62 at h
  refine gs_0 (pc' := 63) (L' := [some (.ref l0), some (.int l1), some (.int l2), some (.int l3)]) (st' := [.int l2, .int s1, .ref s0]) cd_101_62 rfl rfl ?_
  obtain ⟨ht, h⟩ := gO_s h
  obtain ⟨w_1, I_2, J_3, hcl, h⟩ := cV_s h
  refine gs_call (as := [.ref s0, .int s1, .int l2]) (rest := []) cd_101_63 rfl (by decide) rfl (sm_rv_ok (by decide) ht) (Nat.le_of_ble_eq_true rfl) (Nat.le_of_ble_eq_true rfl) rfl hcl ?_
  refine gs_0 (pc' := 67) (L' := [some (.ref l0), some (.int l1), some (.int l2), some (.int l3)]) (st' := [.ref l0]) cd_101_66 rfl rfl ?_
  refine gs_0 (pc' := 69) (L' := [some (.ref l0), some (.int l1), some (.int l2), some (.int l3)]) (st' := [.int 12, .ref l0]) cd_101_67 rfl rfl ?_
  refine gs_0 (pc' := 70) (L' := [some (.ref l0), some (.int l1), some (.int l2), some (.int l3)]) (st' := [.int 0, .int 12, .ref l0]) cd_101_69 rfl rfl ?_
  obtain ⟨ht, h⟩ := gO_s h
  obtain ⟨w_4, I_5, J_6, hcl, h⟩ := cV_s h
  refine gs_call (as := [.ref l0, .int 12, .int 0]) (rest := []) cd_101_70 rfl (by decide) rfl (sm_rv_ok (by decide) ht) (Nat.le_of_ble_eq_true rfl) (Nat.le_of_ble_eq_true rfl) rfl hcl ?_
  refine gs_0 (pc' := 74) (L' := [some (.ref l0), some (.int l1), some (.int l2), some (.int l3)]) (st' := [.int 3]) cd_101_73 rfl rfl ?_
  refine gs_0 (pc' := 75) (L' := [some (.ref l0), some (.int 3), some (.int l2), some (.int l3)]) (st' := []) cd_101_74 rfl rfl ?_
  refine go_drop [some (.ref l0), some (.int 3), none, none] ⟨rfl, ⟨rfl, ⟨rfl, ⟨rfl, trivial⟩⟩⟩⟩ ?_
  exact ok_101_75 h
noncomputable def f_101_61 (K : Nat → Value) (k d : Nat) (l0 : Nat) (l1 : Int32) (l2 : Int32) (l3 : Int32) (s0 : Nat) (w : aW) (I : aI) (J : aJ) : Option aR :=
  f_101_62 K k d l0 l1 l2 l3 s0 0 w I J
theorem ok_101_61 {K : Nat → Value} {k d : Nat} {l0 : Nat} {l1 : Int32} {l2 : Int32} {l3 : Int32} {s0 : Nat} {w : aW} {I : aI} {J : aJ} {R : aR} (h : f_101_61 K k d l0 l1 l2 l3 s0 w I J = some R) : Go K (d + 1) 101 61 [some (.ref l0), some (.int l1), some (.int l2), some (.int l3)] [.ref s0] w I J R := by
  unfold f_101_61 at h
  refine gs_0 (pc' := 62) (L' := [some (.ref l0), some (.int l1), some (.int l2), some (.int l3)]) (st' := [.int 0, .ref s0]) cd_101_61 rfl rfl ?_
  exact ok_101_62 h
noncomputable def f_101 (K : Nat → Value) (k d : Nat) (l0 : Nat) (w : aW) (I : aI) (J : aJ) : Option aR :=
  gO w 6 l0 (
  cI (Cl K d 102 [.ref l0] w I J) fun x_4 w_1 I_2 J_3 =>
  if x_4 = 0 then
    gO w_1 6 l0 (
    gO w_1 6 l0 (
    lt_ (sm_up2 I_2 l0 29 ((I_2 l0 29) + 1)) fun I_5 =>
    gO w_1 6 l0 (
    cI (Cl K d 103 [.ref l0] w_1 I_5 J_3) fun x_9 w_6 I_7 J_8 =>
    gO w_6 6 l0 (
    cI (Cl K d 94 [.ref l0, .int 58] w_6 I_7 J_8) fun x_13 w_10 I_11 J_12 =>
    if x_13 = 0 then
      f_101_75 K k d l0 x_9 w_10 I_11 J_12
    else
      gO w_10 6 l0 (
      lt_ (I_11 l0 22) fun x_14 =>
      gO w_10 6 l0 (
      cV (Cl K d 84 [.ref l0] w_10 I_11 J_12) fun w_15 I_16 J_17 =>
      gO w_15 6 l0 (
      cI (Cl K d 101 [.ref l0] w_15 I_16 J_17) fun x_21 w_18 I_19 J_20 =>
      if ¬ x_9 = 0 then
        f_101_61 K k d l0 x_9 x_14 x_21 l0 w_18 I_19 J_20
      else
        if ¬ x_21 = 3 then
          f_101_61 K k d l0 x_9 x_14 x_21 l0 w_18 I_19 J_20
        else
          f_101_62 K k d l0 x_9 x_14 x_21 l0 1 w_18 I_19 J_20)))))))
  else
    some (some (.int 0), w_1, I_2, J_3))
theorem ok_101 {K : Nat → Value} {k d : Nat} {l0 : Nat} {w : aW} {I : aI} {J : aJ} {R : aR} (h : f_101 K k d l0 w I J = some R) : Go K (d + 1) 101 0 [some (.ref l0), none, none, none] [] w I J R := by
  unfold f_101 at h
  refine gs_0 (pc' := 1) (L' := [some (.ref l0), none, none, none]) (st' := [.ref l0]) cd_101_0 rfl rfl ?_
  obtain ⟨ht, h⟩ := gO_s h
  obtain ⟨x_4, w_1, I_2, J_3, hcl, h⟩ := cI_s h
  refine gs_call (as := [.ref l0]) (rest := []) cd_101_1 rfl (by decide) rfl (sm_rv_ok (by decide) ht) (Nat.le_of_ble_eq_true rfl) (Nat.le_of_ble_eq_true rfl) rfl hcl ?_
  refine gs_0 (pc' := if x_4 = 0 then 9 else 7) (L' := [some (.ref l0), none, none, none]) (st' := []) cd_101_4 rfl rfl ?_
  refine go_ite (fun hc => ?_) (fun hc => ?_)
  · rw [if_pos hc] at h
    refine gs_0 (pc' := 10) (L' := [some (.ref l0), none, none, none]) (st' := [.ref l0]) cd_101_9 rfl rfl ?_
    refine gs_0 (pc' := 11) (L' := [some (.ref l0), none, none, none]) (st' := [.ref l0, .ref l0]) cd_101_10 rfl rfl ?_
    obtain ⟨ht, h⟩ := gO_s h
    refine gs_gfI cd_101_11 (by decide) (by decide) ht ?_
    refine gs_0 (pc' := 15) (L' := [some (.ref l0), none, none, none]) (st' := [.int 1, .int (I_2 l0 29), .ref l0]) cd_101_14 rfl rfl ?_
    refine gs_0 (pc' := 16) (L' := [some (.ref l0), none, none, none]) (st' := [.int ((I_2 l0 29) + 1), .ref l0]) cd_101_15 rfl rfl ?_
    obtain ⟨ht, h⟩ := gO_s h
    refine gs_pfI cd_101_16 (by decide) (Or.inl rfl) ht ?_
    obtain ⟨I_5, hx, h⟩ := lt_s_ h
    rw [hx]
    refine gs_0 (pc' := 20) (L' := [some (.ref l0), none, none, none]) (st' := [.ref l0]) cd_101_19 rfl rfl ?_
    obtain ⟨ht, h⟩ := gO_s h
    obtain ⟨x_9, w_6, I_7, J_8, hcl, h⟩ := cI_s h
    refine gs_call (as := [.ref l0]) (rest := []) cd_101_20 rfl (by decide) rfl (sm_rv_ok (by decide) ht) (Nat.le_of_ble_eq_true rfl) (Nat.le_of_ble_eq_true rfl) rfl hcl ?_
    refine gs_0 (pc' := 24) (L' := [some (.ref l0), some (.int x_9), none, none]) (st' := []) cd_101_23 rfl rfl ?_
    refine gs_0 (pc' := 25) (L' := [some (.ref l0), some (.int x_9), none, none]) (st' := [.ref l0]) cd_101_24 rfl rfl ?_
    refine gs_0 (pc' := 27) (L' := [some (.ref l0), some (.int x_9), none, none]) (st' := [.int 58, .ref l0]) cd_101_25 rfl rfl ?_
    obtain ⟨ht, h⟩ := gO_s h
    obtain ⟨x_13, w_10, I_11, J_12, hcl, h⟩ := cI_s h
    refine gs_call (as := [.ref l0, .int 58]) (rest := []) cd_101_27 rfl (by decide) rfl (sm_rv_ok (by decide) ht) (Nat.le_of_ble_eq_true rfl) (Nat.le_of_ble_eq_true rfl) rfl hcl ?_
    refine gs_0 (pc' := if x_13 = 0 then 75 else 33) (L' := [some (.ref l0), some (.int x_9), none, none]) (st' := []) cd_101_30 rfl rfl ?_
    refine go_ite (fun hc => ?_) (fun hc => ?_)
    · rw [if_pos hc] at h
      exact ok_101_75 h
    · rw [if_neg hc] at h
      refine gs_0 (pc' := 34) (L' := [some (.ref l0), some (.int x_9), none, none]) (st' := [.ref l0]) cd_101_33 rfl rfl ?_
      obtain ⟨ht, h⟩ := gO_s h
      refine gs_gfI cd_101_34 (by decide) (by decide) ht ?_
      refine gs_0 (pc' := 38) (L' := [some (.ref l0), some (.int x_9), some (.int (I_11 l0 22)), none]) (st' := []) cd_101_37 rfl rfl ?_
      obtain ⟨x_14, hx, h⟩ := lt_s_ h
      rw [hx]
      clear hx
      refine gs_0 (pc' := 39) (L' := [some (.ref l0), some (.int x_9), some (.int x_14), none]) (st' := [.ref l0]) cd_101_38 rfl rfl ?_
      obtain ⟨ht, h⟩ := gO_s h
      obtain ⟨w_15, I_16, J_17, hcl, h⟩ := cV_s h
      refine gs_call (as := [.ref l0]) (rest := []) cd_101_39 rfl (by decide) rfl (sm_rv_ok (by decide) ht) (Nat.le_of_ble_eq_true rfl) (Nat.le_of_ble_eq_true rfl) rfl hcl ?_
      refine gs_0 (pc' := 43) (L' := [some (.ref l0), some (.int x_9), some (.int x_14), none]) (st' := [.ref l0]) cd_101_42 rfl rfl ?_
      obtain ⟨ht, h⟩ := gO_s h
      obtain ⟨x_21, w_18, I_19, J_20, hcl, h⟩ := cI_s h
      refine gs_call (as := [.ref l0]) (rest := []) cd_101_43 rfl (by decide) rfl (sm_rv_ok (by decide) ht) (Nat.le_of_ble_eq_true rfl) (Nat.le_of_ble_eq_true rfl) rfl hcl ?_
      refine gs_0 (pc' := 47) (L' := [some (.ref l0), some (.int x_9), some (.int x_14), some (.int x_21)]) (st' := []) cd_101_46 rfl rfl ?_
      refine gs_0 (pc' := 48) (L' := [some (.ref l0), some (.int x_9), some (.int x_14), some (.int x_21)]) (st' := [.ref l0]) cd_101_47 rfl rfl ?_
      refine gs_0 (pc' := 49) (L' := [some (.ref l0), some (.int x_9), some (.int x_14), some (.int x_21)]) (st' := [.int x_9, .ref l0]) cd_101_48 rfl rfl ?_
      refine gs_0 (pc' := if ¬ x_9 = 0 then 61 else 52) (L' := [some (.ref l0), some (.int x_9), some (.int x_14), some (.int x_21)]) (st' := [.ref l0]) cd_101_49 rfl rfl ?_
      refine go_ite (fun hc => ?_) (fun hc => ?_)
      · rw [if_pos hc] at h
        exact ok_101_61 h
      · rw [if_neg hc] at h
        refine gs_0 (pc' := 53) (L' := [some (.ref l0), some (.int x_9), some (.int x_14), some (.int x_21)]) (st' := [.int x_21, .ref l0]) cd_101_52 rfl rfl ?_
        refine gs_0 (pc' := 54) (L' := [some (.ref l0), some (.int x_9), some (.int x_14), some (.int x_21)]) (st' := [.int 3, .int x_21, .ref l0]) cd_101_53 rfl rfl ?_
        refine gs_0 (pc' := if ¬ x_21 = 3 then 61 else 57) (L' := [some (.ref l0), some (.int x_9), some (.int x_14), some (.int x_21)]) (st' := [.ref l0]) cd_101_54 rfl rfl ?_
        refine go_ite (fun hc => ?_) (fun hc => ?_)
        · rw [if_pos hc] at h
          exact ok_101_61 h
        · rw [if_neg hc] at h
          refine gs_0 (pc' := 58) (L' := [some (.ref l0), some (.int x_9), some (.int x_14), some (.int x_21)]) (st' := [.int 1, .ref l0]) cd_101_57 rfl rfl ?_
          refine gs_0 (pc' := 62) (L' := [some (.ref l0), some (.int x_9), some (.int x_14), some (.int x_21)]) (st' := [.int 1, .ref l0]) cd_101_58 rfl rfl ?_
          exact ok_101_62 h
  · rw [if_neg hc] at h
    refine gs_0 (pc' := 8) (L' := [some (.ref l0), none, none, none]) (st' := [.int 0]) cd_101_7 rfl rfl ?_
    cases h
    exact gs_ri cd_101_8 (Or.inl rfl)
theorem cl_101 {K : Nat → Value} {k d : Nat} {l0 : Nat} {w : aW} {I : aI} {J : aJ} {R : aR} (h : f_101 K k d l0 w I J = some R) : Cl K (d + 1) 101 [.ref l0] w I J = some R := Cl_of (ok_101 h)
/-! ProvedMachineModel.isNested()Z -/
set_option maxRecDepth 20000 in
theorem gl_102 : gcd.lookup 102 = some gw_102 := rfl
theorem cd_102_0 : sm_cd 102 0 = some (.aload_n 0, 1, 0, 0, 0, 0, 0, 0, 0) := cd_of gl_102 rfl
theorem cd_102_1 : sm_cd 102 1 = some (.aload_n 0, 1, 0, 0, 0, 0, 0, 0, 0) := cd_of gl_102 rfl
theorem cd_102_2 : sm_cd 102 2 = some (.getfield 193, 3, 6, 26, 1, 0, 0, 0, 0) := cd_of gl_102 rfl
theorem cd_102_5 : sm_cd 102 5 = some (.ifCond .ne 12, 3, 17, 0, 0, 0, 0, 0, 0) := cd_of gl_102 rfl
theorem cd_102_8 : sm_cd 102 8 = some (.aload_n 0, 1, 0, 0, 0, 0, 0, 0, 0) := cd_of gl_102 rfl
theorem cd_102_9 : sm_cd 102 9 = some (.getfield 231, 3, 6, 29, 0, 0, 0, 0, 0) := cd_of gl_102 rfl
theorem cd_102_12 : sm_cd 102 12 = some (.bipush 8, 2, 0, 0, 0, 0, 0, 8, 0) := cd_of gl_102 rfl
theorem cd_102_14 : sm_cd 102 14 = some (.if_icmp .ne 7, 3, 21, 0, 0, 0, 0, 0, 0) := cd_of gl_102 rfl
theorem cd_102_17 : sm_cd 102 17 = some (.iconst 1, 1, 0, 0, 0, 0, 0, 1, 0) := cd_of gl_102 rfl
theorem cd_102_18 : sm_cd 102 18 = some (.goto 4, 3, 22, 0, 0, 0, 0, 0, 0) := cd_of gl_102 rfl
theorem cd_102_21 : sm_cd 102 21 = some (.iconst 0, 1, 0, 0, 0, 0, 0, 0, 0) := cd_of gl_102 rfl
theorem cd_102_22 : sm_cd 102 22 = some (.putfield 193, 3, 6, 26, 1, 0, 0, 0, 0) := cd_of gl_102 rfl
theorem cd_102_25 : sm_cd 102 25 = some (.aload_n 0, 1, 0, 0, 0, 0, 0, 0, 0) := cd_of gl_102 rfl
theorem cd_102_26 : sm_cd 102 26 = some (.getfield 193, 3, 6, 26, 1, 0, 0, 0, 0) := cd_of gl_102 rfl
theorem cd_102_29 : sm_cd 102 29 = some (.ireturn, 1, 0, 0, 2, 0, 0, 0, 0) := cd_of gl_102 rfl
noncomputable def f_102_22 (K : Nat → Value) (k d : Nat) (l0 : Nat) (s0 : Nat) (s1 : Int32) (w : aW) (I : aI) (J : aJ) : Option aR :=
  gO w 6 s0 (
  gC (s1 = 0 ∨ s1 = 1) (
  lt_ (sm_up2 I s0 26 s1) fun I_1 =>
  gO w 6 l0 (
  gC ((I_1 l0 26) = 0 ∨ (I_1 l0 26) = 1) (
  some (some (.int (I_1 l0 26)), w, I_1, J)))))
theorem ok_102_22 {K : Nat → Value} {k d : Nat} {l0 : Nat} {s0 : Nat} {s1 : Int32} {w : aW} {I : aI} {J : aJ} {R : aR} (h : f_102_22 K k d l0 s0 s1 w I J = some R) : Go K (d + 1) 102 22 [some (.ref l0)] [.int s1, .ref s0] w I J R := by
  unfold f_102_22 at h
  obtain ⟨ht, h⟩ := gO_s h
  obtain ⟨hz, h⟩ := gC_s h
  refine gs_pfI cd_102_22 (by decide) (Or.inr ⟨rfl, hz⟩) ht ?_
  obtain ⟨I_1, hx, h⟩ := lt_s_ h
  rw [hx]
  refine gs_0 (pc' := 26) (L' := [some (.ref l0)]) (st' := [.ref l0]) cd_102_25 rfl rfl ?_
  obtain ⟨ht, h⟩ := gO_s h
  refine gs_gfI cd_102_26 (by decide) (by decide) ht ?_
  obtain ⟨hc, h⟩ := gC_s h
  cases h
  exact gs_ri cd_102_29 (Or.inr (Or.inl ⟨rfl, hc⟩))
noncomputable def f_102_17 (K : Nat → Value) (k d : Nat) (l0 : Nat) (s0 : Nat) (w : aW) (I : aI) (J : aJ) : Option aR :=
  f_102_22 K k d l0 s0 1 w I J
theorem ok_102_17 {K : Nat → Value} {k d : Nat} {l0 : Nat} {s0 : Nat} {w : aW} {I : aI} {J : aJ} {R : aR} (h : f_102_17 K k d l0 s0 w I J = some R) : Go K (d + 1) 102 17 [some (.ref l0)] [.ref s0] w I J R := by
  unfold f_102_17 at h
  refine gs_0 (pc' := 18) (L' := [some (.ref l0)]) (st' := [.int 1, .ref s0]) cd_102_17 rfl rfl ?_
  refine gs_0 (pc' := 22) (L' := [some (.ref l0)]) (st' := [.int 1, .ref s0]) cd_102_18 rfl rfl ?_
  exact ok_102_22 h
noncomputable def f_102 (K : Nat → Value) (k d : Nat) (l0 : Nat) (w : aW) (I : aI) (J : aJ) : Option aR :=
  gO w 6 l0 (
  if ¬ (I l0 26) = 0 then
    f_102_17 K k d l0 l0 w I J
  else
    gO w 6 l0 (
    if ¬ (I l0 29) = 8 then
      f_102_22 K k d l0 l0 0 w I J
    else
      f_102_17 K k d l0 l0 w I J))
theorem ok_102 {K : Nat → Value} {k d : Nat} {l0 : Nat} {w : aW} {I : aI} {J : aJ} {R : aR} (h : f_102 K k d l0 w I J = some R) : Go K (d + 1) 102 0 [some (.ref l0)] [] w I J R := by
  unfold f_102 at h
  refine gs_0 (pc' := 1) (L' := [some (.ref l0)]) (st' := [.ref l0]) cd_102_0 rfl rfl ?_
  refine gs_0 (pc' := 2) (L' := [some (.ref l0)]) (st' := [.ref l0, .ref l0]) cd_102_1 rfl rfl ?_
  obtain ⟨ht, h⟩ := gO_s h
  refine gs_gfI cd_102_2 (by decide) (by decide) ht ?_
  refine gs_0 (pc' := if ¬ (I l0 26) = 0 then 17 else 8) (L' := [some (.ref l0)]) (st' := [.ref l0]) cd_102_5 rfl rfl ?_
  refine go_ite (fun hc => ?_) (fun hc => ?_)
  · rw [if_pos hc] at h
    exact ok_102_17 h
  · rw [if_neg hc] at h
    refine gs_0 (pc' := 9) (L' := [some (.ref l0)]) (st' := [.ref l0, .ref l0]) cd_102_8 rfl rfl ?_
    obtain ⟨ht, h⟩ := gO_s h
    refine gs_gfI cd_102_9 (by decide) (by decide) ht ?_
    refine gs_0 (pc' := 14) (L' := [some (.ref l0)]) (st' := [.int 8, .int (I l0 29), .ref l0]) cd_102_12 rfl rfl ?_
    refine gs_0 (pc' := if ¬ (I l0 29) = 8 then 21 else 17) (L' := [some (.ref l0)]) (st' := [.ref l0]) cd_102_14 rfl rfl ?_
    refine go_ite (fun hc => ?_) (fun hc => ?_)
    · rw [if_pos hc] at h
      refine gs_0 (pc' := 22) (L' := [some (.ref l0)]) (st' := [.int 0, .ref l0]) cd_102_21 rfl rfl ?_
      exact ok_102_22 h
    · rw [if_neg hc] at h
      exact ok_102_17 h
theorem cl_102 {K : Nat → Value} {k d : Nat} {l0 : Nat} {w : aW} {I : aI} {J : aJ} {R : aR} (h : f_102 K k d l0 w I J = some R) : Cl K (d + 1) 102 [.ref l0] w I J = some R := Cl_of (ok_102 h)
/-! ProvedMachineModel.either()I -/
set_option maxRecDepth 20000 in
theorem gl_103 : gcd.lookup 103 = some gw_103 := rfl
theorem cd_103_0 : sm_cd 103 0 = some (.aload_n 0, 1, 0, 0, 0, 0, 0, 0, 0) := cd_of gl_103 rfl
theorem cd_103_1 : sm_cd 103 1 = some (.invokevirtual 251, 3, 104, 0, 0, 4, 6, 0, 0) := cd_of gl_103 rfl
theorem cd_103_4 : sm_cd 103 4 = some (.istore_n 1, 1, 1, 0, 0, 0, 0, 0, 0) := cd_of gl_103 rfl
theorem cd_103_5 : sm_cd 103 5 = some (.aload_n 0, 1, 0, 0, 0, 0, 0, 0, 0) := cd_of gl_103 rfl
theorem cd_103_6 : sm_cd 103 6 = some (.bipush 15, 2, 0, 0, 0, 0, 0, 15, 0) := cd_of gl_103 rfl
theorem cd_103_8 : sm_cd 103 8 = some (.invokevirtual 254, 3, 89, 0, 1, 2, 6, 0, 0) := cd_of gl_103 rfl
theorem cd_103_11 : sm_cd 103 11 = some (.ifCond .eq 49, 3, 60, 0, 0, 0, 0, 0, 0) := cd_of gl_103 rfl
theorem cd_103_14 : sm_cd 103 14 = some (.aload_n 0, 1, 0, 0, 0, 0, 0, 0, 0) := cd_of gl_103 rfl
theorem cd_103_15 : sm_cd 103 15 = some (.getfield 160, 3, 6, 22, 0, 0, 0, 0, 0) := cd_of gl_103 rfl
theorem cd_103_18 : sm_cd 103 18 = some (.istore_n 2, 1, 2, 0, 0, 0, 0, 0, 0) := cd_of gl_103 rfl
theorem cd_103_19 : sm_cd 103 19 = some (.aload_n 0, 1, 0, 0, 0, 0, 0, 0, 0) := cd_of gl_103 rfl
theorem cd_103_20 : sm_cd 103 20 = some (.invokevirtual 197, 3, 84, 0, 0, 1, 6, 0, 0) := cd_of gl_103 rfl
theorem cd_103_23 : sm_cd 103 23 = some (.aload_n 0, 1, 0, 0, 0, 0, 0, 0, 0) := cd_of gl_103 rfl
theorem cd_103_24 : sm_cd 103 24 = some (.invokevirtual 251, 3, 104, 0, 0, 4, 6, 0, 0) := cd_of gl_103 rfl
theorem cd_103_27 : sm_cd 103 27 = some (.istore_n 3, 1, 3, 0, 0, 0, 0, 0, 0) := cd_of gl_103 rfl
theorem cd_103_28 : sm_cd 103 28 = some (.aload_n 0, 1, 0, 0, 0, 0, 0, 0, 0) := cd_of gl_103 rfl
theorem cd_103_29 : sm_cd 103 29 = some (.iload_n 1, 1, 1, 0, 0, 0, 0, 0, 0) := cd_of gl_103 rfl
theorem cd_103_30 : sm_cd 103 30 = some (.iconst 1, 1, 0, 0, 0, 0, 0, 1, 0) := cd_of gl_103 rfl
theorem cd_103_31 : sm_cd 103 31 = some (.if_icmp .ne 12, 3, 43, 0, 0, 0, 0, 0, 0) := cd_of gl_103 rfl
theorem cd_103_34 : sm_cd 103 34 = some (.iload_n 3, 1, 3, 0, 0, 0, 0, 0, 0) := cd_of gl_103 rfl
theorem cd_103_35 : sm_cd 103 35 = some (.iconst 1, 1, 0, 0, 0, 0, 0, 1, 0) := cd_of gl_103 rfl
theorem cd_103_36 : sm_cd 103 36 = some (.if_icmp .ne 7, 3, 43, 0, 0, 0, 0, 0, 0) := cd_of gl_103 rfl
theorem cd_103_39 : sm_cd 103 39 = some (.iconst 1, 1, 0, 0, 0, 0, 0, 1, 0) := cd_of gl_103 rfl
theorem cd_103_40 : sm_cd 103 40 = some (.goto 4, 3, 44, 0, 0, 0, 0, 0, 0) := cd_of gl_103 rfl
theorem cd_103_43 : sm_cd 103 43 = some (.iconst 0, 1, 0, 0, 0, 0, 0, 0, 0) := cd_of gl_103 rfl
theorem cd_103_44 : sm_cd 103 44 = some (.iload_n 2, 1, 2, 0, 0, 0, 0, 0, 0) := cd_of gl_103 rfl
theorem cd_103_45 : sm_cd 103 45 = some (.invokevirtual 244, 3, 110, 0, 2, 3, 6, 0, 0) := cd_of gl_103 rfl
theorem cd_103_48 : sm_cd 103 48 = some (.aload_n 0, 1, 0, 0, 0, 0, 0, 0, 0) := cd_of gl_103 rfl
theorem cd_103_49 : sm_cd 103 49 = some (.bipush 13, 2, 0, 0, 0, 0, 0, 13, 0) := cd_of gl_103 rfl
theorem cd_103_51 : sm_cd 103 51 = some (.iconst 0, 1, 0, 0, 0, 0, 0, 0, 0) := cd_of gl_103 rfl
theorem cd_103_52 : sm_cd 103 52 = some (.invokevirtual 247, 3, 111, 0, 2, 3, 6, 0, 0) := cd_of gl_103 rfl
theorem cd_103_55 : sm_cd 103 55 = some (.iconst 1, 1, 0, 0, 0, 0, 0, 1, 0) := cd_of gl_103 rfl
theorem cd_103_56 : sm_cd 103 56 = some (.istore_n 1, 1, 1, 0, 0, 0, 0, 0, 0) := cd_of gl_103 rfl
theorem cd_103_57 : sm_cd 103 57 = some (.goto (-52), 3, 5, 0, 0, 0, 0, 0, 0) := cd_of gl_103 rfl
theorem cd_103_60 : sm_cd 103 60 = some (.iload_n 1, 1, 1, 0, 0, 0, 0, 0, 0) := cd_of gl_103 rfl
theorem cd_103_61 : sm_cd 103 61 = some (.ireturn, 1, 0, 0, 1, 0, 0, 0, 0) := cd_of gl_103 rfl
noncomputable def f_103_44 (K : Nat → Value) (k d : Nat) (r5 : Nat → Int32 → aW → aI → aJ → Option aR) (l0 : Nat) (l1 : Int32) (l2 : Int32) (l3 : Int32) (s0 : Nat) (s1 : Int32) (w : aW) (I : aI) (J : aJ) : Option aR :=
  gO w 6 s0 (
  cV (Cl K d 110 [.ref s0, .int s1, .int l2] w I J) fun w_1 I_2 J_3 =>
  gO w_1 6 l0 (
  cV (Cl K d 111 [.ref l0, .int 13, .int 0] w_1 I_2 J_3) fun w_4 I_5 J_6 =>
  r5 l0 1 w_4 I_5 J_6))
theorem ok_103_44 {K : Nat → Value} {k d : Nat} {r5 : Nat → Int32 → aW → aI → aJ → Option aR} (hr5 : ∀ (l0 : Nat) (l1 : Int32) (w : aW) (I : aI) (J : aJ) (R : aR), r5 l0 l1 w I J = some R → Go K (d + 1) 103 5 [some (.ref l0), some (.int l1), none, none] [] w I J R) {l0 : Nat} {l1 : Int32} {l2 : Int32} {l3 : Int32} {s0 : Nat} {s1 : Int32} {w : aW} {I : aI} {J : aJ} {R : aR} (h : f_103_44 K k d r5 l0 l1 l2 l3 s0 s1 w I J = some R) : Go K (d + 1) 103 44 [some (.ref l0), some (.int l1), some (.int l2), some (.int l3)] [.int s1, .ref s0] w I J R := by
  unfold f_103_44 at h
  refine gs_0 (pc' := 45) (L' := [some (.ref l0), some (.int l1), some (.int l2), some (.int l3)]) (st' := [.int l2, .int s1, .ref s0]) cd_103_44 rfl rfl ?_
  obtain ⟨ht, h⟩ := gO_s h
  obtain ⟨w_1, I_2, J_3, hcl, h⟩ := cV_s h
  refine gs_call (as := [.ref s0, .int s1, .int l2]) (rest := []) cd_103_45 rfl (by decide) rfl (sm_rv_ok (by decide) ht) (Nat.le_of_ble_eq_true rfl) (Nat.le_of_ble_eq_true rfl) rfl hcl ?_
  refine gs_0 (pc' := 49) (L' := [some (.ref l0), some (.int l1), some (.int l2), some (.int l3)]) (st' := [.ref l0]) cd_103_48 rfl rfl ?_
  refine gs_0 (pc' := 51) (L' := [some (.ref l0), some (.int l1), some (.int l2), some (.int l3)]) (st' := [.int 13, .ref l0]) cd_103_49 rfl rfl ?_
  refine gs_0 (pc' := 52) (L' := [some (.ref l0), some (.int l1), some (.int l2), some (.int l3)]) (st' := [.int 0, .int 13, .ref l0]) cd_103_51 rfl rfl ?_
  obtain ⟨ht, h⟩ := gO_s h
  obtain ⟨w_4, I_5, J_6, hcl, h⟩ := cV_s h
  refine gs_call (as := [.ref l0, .int 13, .int 0]) (rest := []) cd_103_52 rfl (by decide) rfl (sm_rv_ok (by decide) ht) (Nat.le_of_ble_eq_true rfl) (Nat.le_of_ble_eq_true rfl) rfl hcl ?_
  refine gs_0 (pc' := 56) (L' := [some (.ref l0), some (.int l1), some (.int l2), some (.int l3)]) (st' := [.int 1]) cd_103_55 rfl rfl ?_
  refine gs_0 (pc' := 57) (L' := [some (.ref l0), some (.int 1), some (.int l2), some (.int l3)]) (st' := []) cd_103_56 rfl rfl ?_
  refine gs_0 (pc' := 5) (L' := [some (.ref l0), some (.int 1), some (.int l2), some (.int l3)]) (st' := []) cd_103_57 rfl rfl ?_
  refine go_drop [some (.ref l0), some (.int 1), none, none] ⟨rfl, ⟨rfl, ⟨rfl, ⟨rfl, trivial⟩⟩⟩⟩ ?_
  exact hr5 l0 1 _ _ _ _ h
noncomputable def f_103_43 (K : Nat → Value) (k d : Nat) (r5 : Nat → Int32 → aW → aI → aJ → Option aR) (l0 : Nat) (l1 : Int32) (l2 : Int32) (l3 : Int32) (s0 : Nat) (w : aW) (I : aI) (J : aJ) : Option aR :=
  f_103_44 K k d r5 l0 l1 l2 l3 s0 0 w I J
theorem ok_103_43 {K : Nat → Value} {k d : Nat} {r5 : Nat → Int32 → aW → aI → aJ → Option aR} (hr5 : ∀ (l0 : Nat) (l1 : Int32) (w : aW) (I : aI) (J : aJ) (R : aR), r5 l0 l1 w I J = some R → Go K (d + 1) 103 5 [some (.ref l0), some (.int l1), none, none] [] w I J R) {l0 : Nat} {l1 : Int32} {l2 : Int32} {l3 : Int32} {s0 : Nat} {w : aW} {I : aI} {J : aJ} {R : aR} (h : f_103_43 K k d r5 l0 l1 l2 l3 s0 w I J = some R) : Go K (d + 1) 103 43 [some (.ref l0), some (.int l1), some (.int l2), some (.int l3)] [.ref s0] w I J R := by
  unfold f_103_43 at h
  refine gs_0 (pc' := 44) (L' := [some (.ref l0), some (.int l1), some (.int l2), some (.int l3)]) (st' := [.int 0, .ref s0]) cd_103_43 rfl rfl ?_
  exact ok_103_44 hr5 h
noncomputable def f_103_5 (K : Nat → Value) (k : Nat) (d : Nat) : Nat → Int32 → aW → aI → aJ → Option aR :=
  match k with
  | 0 => fun _ _ _ _ _ => none
  | k + 1 => fun l0 l1 w I J =>
  lt_ (f_103_5 K k d) fun r5 =>
  gO w 6 l0 (
  cI (Cl K d 89 [.ref l0, .int 15] w I J) fun x_4 w_1 I_2 J_3 =>
  if x_4 = 0 then
    some (some (.int l1), w_1, I_2, J_3)
  else
    gO w_1 6 l0 (
    lt_ (I_2 l0 22) fun x_5 =>
    gO w_1 6 l0 (
    cV (Cl K d 84 [.ref l0] w_1 I_2 J_3) fun w_6 I_7 J_8 =>
    gO w_6 6 l0 (
    cI (Cl K d 104 [.ref l0] w_6 I_7 J_8) fun x_12 w_9 I_10 J_11 =>
    if ¬ l1 = 1 then
      f_103_43 K k d r5 l0 l1 x_5 x_12 l0 w_9 I_10 J_11
    else
      if ¬ x_12 = 1 then
        f_103_43 K k d r5 l0 l1 x_5 x_12 l0 w_9 I_10 J_11
      else
        f_103_44 K k d r5 l0 l1 x_5 x_12 l0 1 w_9 I_10 J_11))))
theorem ok_103_5 {K : Nat → Value} {d : Nat} : ∀ {k : Nat} {l0 : Nat} {l1 : Int32} {w : aW} {I : aI} {J : aJ} {R : aR}, f_103_5 K k d l0 l1 w I J = some R → Go K (d + 1) 103 5 [some (.ref l0), some (.int l1), none, none] [] w I J R := by
  intro k
  induction k with
  | zero => intro l0 l1 w I J R h; cases h
  | succ k ih =>
    intro l0 l1 w I J R h
    have hr5 : ∀ (l0 : Nat) (l1 : Int32) (w : aW) (I : aI) (J : aJ) (R : aR), f_103_5 K k d l0 l1 w I J = some R → Go K (d + 1) 103 5 [some (.ref l0), some (.int l1), none, none] [] w I J R := fun l0 l1 w I J R h => ih h
    rw [f_103_5] at h
    obtain ⟨r5, hx, h⟩ := lt_s_ h
    rw [hx] at hr5
    clear hx ih
    refine gs_0 (pc' := 6) (L' := [some (.ref l0), some (.int l1), none, none]) (st' := [.ref l0]) cd_103_5 rfl rfl ?_
    refine gs_0 (pc' := 8) (L' := [some (.ref l0), some (.int l1), none, none]) (st' := [.int 15, .ref l0]) cd_103_6 rfl rfl ?_
    obtain ⟨ht, h⟩ := gO_s h
    obtain ⟨x_4, w_1, I_2, J_3, hcl, h⟩ := cI_s h
    refine gs_call (as := [.ref l0, .int 15]) (rest := []) cd_103_8 rfl (by decide) rfl (sm_rv_ok (by decide) ht) (Nat.le_of_ble_eq_true rfl) (Nat.le_of_ble_eq_true rfl) rfl hcl ?_
    refine gs_0 (pc' := if x_4 = 0 then 60 else 14) (L' := [some (.ref l0), some (.int l1), none, none]) (st' := []) cd_103_11 rfl rfl ?_
    refine go_ite (fun hc => ?_) (fun hc => ?_)
    · rw [if_pos hc] at h
      refine gs_0 (pc' := 61) (L' := [some (.ref l0), some (.int l1), none, none]) (st' := [.int l1]) cd_103_60 rfl rfl ?_
      cases h
      exact gs_ri cd_103_61 (Or.inl rfl)
    · rw [if_neg hc] at h
      refine gs_0 (pc' := 15) (L' := [some (.ref l0), some (.int l1), none, none]) (st' := [.ref l0]) cd_103_14 rfl rfl ?_
      obtain ⟨ht, h⟩ := gO_s h
      refine gs_gfI cd_103_15 (by decide) (by decide) ht ?_
      refine gs_0 (pc' := 19) (L' := [some (.ref l0), some (.int l1), some (.int (I_2 l0 22)), none]) (st' := []) cd_103_18 rfl rfl ?_
      obtain ⟨x_5, hx, h⟩ := lt_s_ h
      rw [hx]
      clear hx
      refine gs_0 (pc' := 20) (L' := [some (.ref l0), some (.int l1), some (.int x_5), none]) (st' := [.ref l0]) cd_103_19 rfl rfl ?_
      obtain ⟨ht, h⟩ := gO_s h
      obtain ⟨w_6, I_7, J_8, hcl, h⟩ := cV_s h
      refine gs_call (as := [.ref l0]) (rest := []) cd_103_20 rfl (by decide) rfl (sm_rv_ok (by decide) ht) (Nat.le_of_ble_eq_true rfl) (Nat.le_of_ble_eq_true rfl) rfl hcl ?_
      refine gs_0 (pc' := 24) (L' := [some (.ref l0), some (.int l1), some (.int x_5), none]) (st' := [.ref l0]) cd_103_23 rfl rfl ?_
      obtain ⟨ht, h⟩ := gO_s h
      obtain ⟨x_12, w_9, I_10, J_11, hcl, h⟩ := cI_s h
      refine gs_call (as := [.ref l0]) (rest := []) cd_103_24 rfl (by decide) rfl (sm_rv_ok (by decide) ht) (Nat.le_of_ble_eq_true rfl) (Nat.le_of_ble_eq_true rfl) rfl hcl ?_
      refine gs_0 (pc' := 28) (L' := [some (.ref l0), some (.int l1), some (.int x_5), some (.int x_12)]) (st' := []) cd_103_27 rfl rfl ?_
      refine gs_0 (pc' := 29) (L' := [some (.ref l0), some (.int l1), some (.int x_5), some (.int x_12)]) (st' := [.ref l0]) cd_103_28 rfl rfl ?_
      refine gs_0 (pc' := 30) (L' := [some (.ref l0), some (.int l1), some (.int x_5), some (.int x_12)]) (st' := [.int l1, .ref l0]) cd_103_29 rfl rfl ?_
      refine gs_0 (pc' := 31) (L' := [some (.ref l0), some (.int l1), some (.int x_5), some (.int x_12)]) (st' := [.int 1, .int l1, .ref l0]) cd_103_30 rfl rfl ?_
      refine gs_0 (pc' := if ¬ l1 = 1 then 43 else 34) (L' := [some (.ref l0), some (.int l1), some (.int x_5), some (.int x_12)]) (st' := [.ref l0]) cd_103_31 rfl rfl ?_
      refine go_ite (fun hc => ?_) (fun hc => ?_)
      · rw [if_pos hc] at h
        exact ok_103_43 hr5 h
      · rw [if_neg hc] at h
        refine gs_0 (pc' := 35) (L' := [some (.ref l0), some (.int l1), some (.int x_5), some (.int x_12)]) (st' := [.int x_12, .ref l0]) cd_103_34 rfl rfl ?_
        refine gs_0 (pc' := 36) (L' := [some (.ref l0), some (.int l1), some (.int x_5), some (.int x_12)]) (st' := [.int 1, .int x_12, .ref l0]) cd_103_35 rfl rfl ?_
        refine gs_0 (pc' := if ¬ x_12 = 1 then 43 else 39) (L' := [some (.ref l0), some (.int l1), some (.int x_5), some (.int x_12)]) (st' := [.ref l0]) cd_103_36 rfl rfl ?_
        refine go_ite (fun hc => ?_) (fun hc => ?_)
        · rw [if_pos hc] at h
          exact ok_103_43 hr5 h
        · rw [if_neg hc] at h
          refine gs_0 (pc' := 40) (L' := [some (.ref l0), some (.int l1), some (.int x_5), some (.int x_12)]) (st' := [.int 1, .ref l0]) cd_103_39 rfl rfl ?_
          refine gs_0 (pc' := 44) (L' := [some (.ref l0), some (.int l1), some (.int x_5), some (.int x_12)]) (st' := [.int 1, .ref l0]) cd_103_40 rfl rfl ?_
          exact ok_103_44 hr5 h
noncomputable def f_103 (K : Nat → Value) (k d : Nat) (l0 : Nat) (w : aW) (I : aI) (J : aJ) : Option aR :=
  gO w 6 l0 (
  cI (Cl K d 104 [.ref l0] w I J) fun x_4 w_1 I_2 J_3 =>
  f_103_5 K k d l0 x_4 w_1 I_2 J_3)
theorem ok_103 {K : Nat → Value} {k d : Nat} {l0 : Nat} {w : aW} {I : aI} {J : aJ} {R : aR} (h : f_103 K k d l0 w I J = some R) : Go K (d + 1) 103 0 [some (.ref l0), none, none, none] [] w I J R := by
  unfold f_103 at h
  refine gs_0 (pc' := 1) (L' := [some (.ref l0), none, none, none]) (st' := [.ref l0]) cd_103_0 rfl rfl ?_
  obtain ⟨ht, h⟩ := gO_s h
  obtain ⟨x_4, w_1, I_2, J_3, hcl, h⟩ := cI_s h
  refine gs_call (as := [.ref l0]) (rest := []) cd_103_1 rfl (by decide) rfl (sm_rv_ok (by decide) ht) (Nat.le_of_ble_eq_true rfl) (Nat.le_of_ble_eq_true rfl) rfl hcl ?_
  refine gs_0 (pc' := 5) (L' := [some (.ref l0), some (.int x_4), none, none]) (st' := []) cd_103_4 rfl rfl ?_
  exact ok_103_5 h
theorem cl_103 {K : Nat → Value} {k d : Nat} {l0 : Nat} {w : aW} {I : aI} {J : aJ} {R : aR} (h : f_103 K k d l0 w I J = some R) : Cl K (d + 1) 103 [.ref l0] w I J = some R := Cl_of (ok_103 h)
/-! ProvedMachineModel.both()I -/
set_option maxRecDepth 20000 in
theorem gl_104 : gcd.lookup 104 = some gw_104 := rfl
theorem cd_104_0 : sm_cd 104 0 = some (.aload_n 0, 1, 0, 0, 0, 0, 0, 0, 0) := cd_of gl_104 rfl
theorem cd_104_1 : sm_cd 104 1 = some (.invokevirtual 257, 3, 105, 0, 0, 5, 6, 0, 0) := cd_of gl_104 rfl
theorem cd_104_4 : sm_cd 104 4 = some (.istore_n 1, 1, 1, 0, 0, 0, 0, 0, 0) := cd_of gl_104 rfl
theorem cd_104_5 : sm_cd 104 5 = some (.aload_n 0, 1, 0, 0, 0, 0, 0, 0, 0) := cd_of gl_104 rfl
theorem cd_104_6 : sm_cd 104 6 = some (.bipush 14, 2, 0, 0, 0, 0, 0, 14, 0) := cd_of gl_104 rfl
theorem cd_104_8 : sm_cd 104 8 = some (.invokevirtual 254, 3, 89, 0, 1, 2, 6, 0, 0) := cd_of gl_104 rfl
theorem cd_104_11 : sm_cd 104 11 = some (.ifCond .eq 49, 3, 60, 0, 0, 0, 0, 0, 0) := cd_of gl_104 rfl
theorem cd_104_14 : sm_cd 104 14 = some (.aload_n 0, 1, 0, 0, 0, 0, 0, 0, 0) := cd_of gl_104 rfl
theorem cd_104_15 : sm_cd 104 15 = some (.getfield 160, 3, 6, 22, 0, 0, 0, 0, 0) := cd_of gl_104 rfl
theorem cd_104_18 : sm_cd 104 18 = some (.istore_n 2, 1, 2, 0, 0, 0, 0, 0, 0) := cd_of gl_104 rfl
theorem cd_104_19 : sm_cd 104 19 = some (.aload_n 0, 1, 0, 0, 0, 0, 0, 0, 0) := cd_of gl_104 rfl
theorem cd_104_20 : sm_cd 104 20 = some (.invokevirtual 197, 3, 84, 0, 0, 1, 6, 0, 0) := cd_of gl_104 rfl
theorem cd_104_23 : sm_cd 104 23 = some (.aload_n 0, 1, 0, 0, 0, 0, 0, 0, 0) := cd_of gl_104 rfl
theorem cd_104_24 : sm_cd 104 24 = some (.invokevirtual 257, 3, 105, 0, 0, 5, 6, 0, 0) := cd_of gl_104 rfl
theorem cd_104_27 : sm_cd 104 27 = some (.istore_n 3, 1, 3, 0, 0, 0, 0, 0, 0) := cd_of gl_104 rfl
theorem cd_104_28 : sm_cd 104 28 = some (.aload_n 0, 1, 0, 0, 0, 0, 0, 0, 0) := cd_of gl_104 rfl
theorem cd_104_29 : sm_cd 104 29 = some (.iload_n 1, 1, 1, 0, 0, 0, 0, 0, 0) := cd_of gl_104 rfl
theorem cd_104_30 : sm_cd 104 30 = some (.iconst 1, 1, 0, 0, 0, 0, 0, 1, 0) := cd_of gl_104 rfl
theorem cd_104_31 : sm_cd 104 31 = some (.if_icmp .ne 12, 3, 43, 0, 0, 0, 0, 0, 0) := cd_of gl_104 rfl
theorem cd_104_34 : sm_cd 104 34 = some (.iload_n 3, 1, 3, 0, 0, 0, 0, 0, 0) := cd_of gl_104 rfl
theorem cd_104_35 : sm_cd 104 35 = some (.iconst 1, 1, 0, 0, 0, 0, 0, 1, 0) := cd_of gl_104 rfl
theorem cd_104_36 : sm_cd 104 36 = some (.if_icmp .ne 7, 3, 43, 0, 0, 0, 0, 0, 0) := cd_of gl_104 rfl
theorem cd_104_39 : sm_cd 104 39 = some (.iconst 1, 1, 0, 0, 0, 0, 0, 1, 0) := cd_of gl_104 rfl
theorem cd_104_40 : sm_cd 104 40 = some (.goto 4, 3, 44, 0, 0, 0, 0, 0, 0) := cd_of gl_104 rfl
theorem cd_104_43 : sm_cd 104 43 = some (.iconst 0, 1, 0, 0, 0, 0, 0, 0, 0) := cd_of gl_104 rfl
theorem cd_104_44 : sm_cd 104 44 = some (.iload_n 2, 1, 2, 0, 0, 0, 0, 0, 0) := cd_of gl_104 rfl
theorem cd_104_45 : sm_cd 104 45 = some (.invokevirtual 244, 3, 110, 0, 2, 3, 6, 0, 0) := cd_of gl_104 rfl
theorem cd_104_48 : sm_cd 104 48 = some (.aload_n 0, 1, 0, 0, 0, 0, 0, 0, 0) := cd_of gl_104 rfl
theorem cd_104_49 : sm_cd 104 49 = some (.bipush 14, 2, 0, 0, 0, 0, 0, 14, 0) := cd_of gl_104 rfl
theorem cd_104_51 : sm_cd 104 51 = some (.iconst 0, 1, 0, 0, 0, 0, 0, 0, 0) := cd_of gl_104 rfl
theorem cd_104_52 : sm_cd 104 52 = some (.invokevirtual 247, 3, 111, 0, 2, 3, 6, 0, 0) := cd_of gl_104 rfl
theorem cd_104_55 : sm_cd 104 55 = some (.iconst 1, 1, 0, 0, 0, 0, 0, 1, 0) := cd_of gl_104 rfl
theorem cd_104_56 : sm_cd 104 56 = some (.istore_n 1, 1, 1, 0, 0, 0, 0, 0, 0) := cd_of gl_104 rfl
theorem cd_104_57 : sm_cd 104 57 = some (.goto (-52), 3, 5, 0, 0, 0, 0, 0, 0) := cd_of gl_104 rfl
theorem cd_104_60 : sm_cd 104 60 = some (.iload_n 1, 1, 1, 0, 0, 0, 0, 0, 0) := cd_of gl_104 rfl
theorem cd_104_61 : sm_cd 104 61 = some (.ireturn, 1, 0, 0, 1, 0, 0, 0, 0) := cd_of gl_104 rfl
noncomputable def f_104_44 (K : Nat → Value) (k d : Nat) (r5 : Nat → Int32 → aW → aI → aJ → Option aR) (l0 : Nat) (l1 : Int32) (l2 : Int32) (l3 : Int32) (s0 : Nat) (s1 : Int32) (w : aW) (I : aI) (J : aJ) : Option aR :=
  gO w 6 s0 (
  cV (Cl K d 110 [.ref s0, .int s1, .int l2] w I J) fun w_1 I_2 J_3 =>
  gO w_1 6 l0 (
  cV (Cl K d 111 [.ref l0, .int 14, .int 0] w_1 I_2 J_3) fun w_4 I_5 J_6 =>
  r5 l0 1 w_4 I_5 J_6))
theorem ok_104_44 {K : Nat → Value} {k d : Nat} {r5 : Nat → Int32 → aW → aI → aJ → Option aR} (hr5 : ∀ (l0 : Nat) (l1 : Int32) (w : aW) (I : aI) (J : aJ) (R : aR), r5 l0 l1 w I J = some R → Go K (d + 1) 104 5 [some (.ref l0), some (.int l1), none, none] [] w I J R) {l0 : Nat} {l1 : Int32} {l2 : Int32} {l3 : Int32} {s0 : Nat} {s1 : Int32} {w : aW} {I : aI} {J : aJ} {R : aR} (h : f_104_44 K k d r5 l0 l1 l2 l3 s0 s1 w I J = some R) : Go K (d + 1) 104 44 [some (.ref l0), some (.int l1), some (.int l2), some (.int l3)] [.int s1, .ref s0] w I J R := by
  unfold f_104_44 at h
  refine gs_0 (pc' := 45) (L' := [some (.ref l0), some (.int l1), some (.int l2), some (.int l3)]) (st' := [.int l2, .int s1, .ref s0]) cd_104_44 rfl rfl ?_
  obtain ⟨ht, h⟩ := gO_s h
  obtain ⟨w_1, I_2, J_3, hcl, h⟩ := cV_s h
  refine gs_call (as := [.ref s0, .int s1, .int l2]) (rest := []) cd_104_45 rfl (by decide) rfl (sm_rv_ok (by decide) ht) (Nat.le_of_ble_eq_true rfl) (Nat.le_of_ble_eq_true rfl) rfl hcl ?_
  refine gs_0 (pc' := 49) (L' := [some (.ref l0), some (.int l1), some (.int l2), some (.int l3)]) (st' := [.ref l0]) cd_104_48 rfl rfl ?_
  refine gs_0 (pc' := 51) (L' := [some (.ref l0), some (.int l1), some (.int l2), some (.int l3)]) (st' := [.int 14, .ref l0]) cd_104_49 rfl rfl ?_
  refine gs_0 (pc' := 52) (L' := [some (.ref l0), some (.int l1), some (.int l2), some (.int l3)]) (st' := [.int 0, .int 14, .ref l0]) cd_104_51 rfl rfl ?_
  obtain ⟨ht, h⟩ := gO_s h
  obtain ⟨w_4, I_5, J_6, hcl, h⟩ := cV_s h
  refine gs_call (as := [.ref l0, .int 14, .int 0]) (rest := []) cd_104_52 rfl (by decide) rfl (sm_rv_ok (by decide) ht) (Nat.le_of_ble_eq_true rfl) (Nat.le_of_ble_eq_true rfl) rfl hcl ?_
  refine gs_0 (pc' := 56) (L' := [some (.ref l0), some (.int l1), some (.int l2), some (.int l3)]) (st' := [.int 1]) cd_104_55 rfl rfl ?_
  refine gs_0 (pc' := 57) (L' := [some (.ref l0), some (.int 1), some (.int l2), some (.int l3)]) (st' := []) cd_104_56 rfl rfl ?_
  refine gs_0 (pc' := 5) (L' := [some (.ref l0), some (.int 1), some (.int l2), some (.int l3)]) (st' := []) cd_104_57 rfl rfl ?_
  refine go_drop [some (.ref l0), some (.int 1), none, none] ⟨rfl, ⟨rfl, ⟨rfl, ⟨rfl, trivial⟩⟩⟩⟩ ?_
  exact hr5 l0 1 _ _ _ _ h
noncomputable def f_104_43 (K : Nat → Value) (k d : Nat) (r5 : Nat → Int32 → aW → aI → aJ → Option aR) (l0 : Nat) (l1 : Int32) (l2 : Int32) (l3 : Int32) (s0 : Nat) (w : aW) (I : aI) (J : aJ) : Option aR :=
  f_104_44 K k d r5 l0 l1 l2 l3 s0 0 w I J
theorem ok_104_43 {K : Nat → Value} {k d : Nat} {r5 : Nat → Int32 → aW → aI → aJ → Option aR} (hr5 : ∀ (l0 : Nat) (l1 : Int32) (w : aW) (I : aI) (J : aJ) (R : aR), r5 l0 l1 w I J = some R → Go K (d + 1) 104 5 [some (.ref l0), some (.int l1), none, none] [] w I J R) {l0 : Nat} {l1 : Int32} {l2 : Int32} {l3 : Int32} {s0 : Nat} {w : aW} {I : aI} {J : aJ} {R : aR} (h : f_104_43 K k d r5 l0 l1 l2 l3 s0 w I J = some R) : Go K (d + 1) 104 43 [some (.ref l0), some (.int l1), some (.int l2), some (.int l3)] [.ref s0] w I J R := by
  unfold f_104_43 at h
  refine gs_0 (pc' := 44) (L' := [some (.ref l0), some (.int l1), some (.int l2), some (.int l3)]) (st' := [.int 0, .ref s0]) cd_104_43 rfl rfl ?_
  exact ok_104_44 hr5 h
noncomputable def f_104_5 (K : Nat → Value) (k : Nat) (d : Nat) : Nat → Int32 → aW → aI → aJ → Option aR :=
  match k with
  | 0 => fun _ _ _ _ _ => none
  | k + 1 => fun l0 l1 w I J =>
  lt_ (f_104_5 K k d) fun r5 =>
  gO w 6 l0 (
  cI (Cl K d 89 [.ref l0, .int 14] w I J) fun x_4 w_1 I_2 J_3 =>
  if x_4 = 0 then
    some (some (.int l1), w_1, I_2, J_3)
  else
    gO w_1 6 l0 (
    lt_ (I_2 l0 22) fun x_5 =>
    gO w_1 6 l0 (
    cV (Cl K d 84 [.ref l0] w_1 I_2 J_3) fun w_6 I_7 J_8 =>
    gO w_6 6 l0 (
    cI (Cl K d 105 [.ref l0] w_6 I_7 J_8) fun x_12 w_9 I_10 J_11 =>
    if ¬ l1 = 1 then
      f_104_43 K k d r5 l0 l1 x_5 x_12 l0 w_9 I_10 J_11
    else
      if ¬ x_12 = 1 then
        f_104_43 K k d r5 l0 l1 x_5 x_12 l0 w_9 I_10 J_11
      else
        f_104_44 K k d r5 l0 l1 x_5 x_12 l0 1 w_9 I_10 J_11))))
theorem ok_104_5 {K : Nat → Value} {d : Nat} : ∀ {k : Nat} {l0 : Nat} {l1 : Int32} {w : aW} {I : aI} {J : aJ} {R : aR}, f_104_5 K k d l0 l1 w I J = some R → Go K (d + 1) 104 5 [some (.ref l0), some (.int l1), none, none] [] w I J R := by
  intro k
  induction k with
  | zero => intro l0 l1 w I J R h; cases h
  | succ k ih =>
    intro l0 l1 w I J R h
    have hr5 : ∀ (l0 : Nat) (l1 : Int32) (w : aW) (I : aI) (J : aJ) (R : aR), f_104_5 K k d l0 l1 w I J = some R → Go K (d + 1) 104 5 [some (.ref l0), some (.int l1), none, none] [] w I J R := fun l0 l1 w I J R h => ih h
    rw [f_104_5] at h
    obtain ⟨r5, hx, h⟩ := lt_s_ h
    rw [hx] at hr5
    clear hx ih
    refine gs_0 (pc' := 6) (L' := [some (.ref l0), some (.int l1), none, none]) (st' := [.ref l0]) cd_104_5 rfl rfl ?_
    refine gs_0 (pc' := 8) (L' := [some (.ref l0), some (.int l1), none, none]) (st' := [.int 14, .ref l0]) cd_104_6 rfl rfl ?_
    obtain ⟨ht, h⟩ := gO_s h
    obtain ⟨x_4, w_1, I_2, J_3, hcl, h⟩ := cI_s h
    refine gs_call (as := [.ref l0, .int 14]) (rest := []) cd_104_8 rfl (by decide) rfl (sm_rv_ok (by decide) ht) (Nat.le_of_ble_eq_true rfl) (Nat.le_of_ble_eq_true rfl) rfl hcl ?_
    refine gs_0 (pc' := if x_4 = 0 then 60 else 14) (L' := [some (.ref l0), some (.int l1), none, none]) (st' := []) cd_104_11 rfl rfl ?_
    refine go_ite (fun hc => ?_) (fun hc => ?_)
    · rw [if_pos hc] at h
      refine gs_0 (pc' := 61) (L' := [some (.ref l0), some (.int l1), none, none]) (st' := [.int l1]) cd_104_60 rfl rfl ?_
      cases h
      exact gs_ri cd_104_61 (Or.inl rfl)
    · rw [if_neg hc] at h
      refine gs_0 (pc' := 15) (L' := [some (.ref l0), some (.int l1), none, none]) (st' := [.ref l0]) cd_104_14 rfl rfl ?_
      obtain ⟨ht, h⟩ := gO_s h
      refine gs_gfI cd_104_15 (by decide) (by decide) ht ?_
      refine gs_0 (pc' := 19) (L' := [some (.ref l0), some (.int l1), some (.int (I_2 l0 22)), none]) (st' := []) cd_104_18 rfl rfl ?_
      obtain ⟨x_5, hx, h⟩ := lt_s_ h
      rw [hx]
      clear hx
      refine gs_0 (pc' := 20) (L' := [some (.ref l0), some (.int l1), some (.int x_5), none]) (st' := [.ref l0]) cd_104_19 rfl rfl ?_
      obtain ⟨ht, h⟩ := gO_s h
      obtain ⟨w_6, I_7, J_8, hcl, h⟩ := cV_s h
      refine gs_call (as := [.ref l0]) (rest := []) cd_104_20 rfl (by decide) rfl (sm_rv_ok (by decide) ht) (Nat.le_of_ble_eq_true rfl) (Nat.le_of_ble_eq_true rfl) rfl hcl ?_
      refine gs_0 (pc' := 24) (L' := [some (.ref l0), some (.int l1), some (.int x_5), none]) (st' := [.ref l0]) cd_104_23 rfl rfl ?_
      obtain ⟨ht, h⟩ := gO_s h
      obtain ⟨x_12, w_9, I_10, J_11, hcl, h⟩ := cI_s h
      refine gs_call (as := [.ref l0]) (rest := []) cd_104_24 rfl (by decide) rfl (sm_rv_ok (by decide) ht) (Nat.le_of_ble_eq_true rfl) (Nat.le_of_ble_eq_true rfl) rfl hcl ?_
      refine gs_0 (pc' := 28) (L' := [some (.ref l0), some (.int l1), some (.int x_5), some (.int x_12)]) (st' := []) cd_104_27 rfl rfl ?_
      refine gs_0 (pc' := 29) (L' := [some (.ref l0), some (.int l1), some (.int x_5), some (.int x_12)]) (st' := [.ref l0]) cd_104_28 rfl rfl ?_
      refine gs_0 (pc' := 30) (L' := [some (.ref l0), some (.int l1), some (.int x_5), some (.int x_12)]) (st' := [.int l1, .ref l0]) cd_104_29 rfl rfl ?_
      refine gs_0 (pc' := 31) (L' := [some (.ref l0), some (.int l1), some (.int x_5), some (.int x_12)]) (st' := [.int 1, .int l1, .ref l0]) cd_104_30 rfl rfl ?_
      refine gs_0 (pc' := if ¬ l1 = 1 then 43 else 34) (L' := [some (.ref l0), some (.int l1), some (.int x_5), some (.int x_12)]) (st' := [.ref l0]) cd_104_31 rfl rfl ?_
      refine go_ite (fun hc => ?_) (fun hc => ?_)
      · rw [if_pos hc] at h
        exact ok_104_43 hr5 h
      · rw [if_neg hc] at h
        refine gs_0 (pc' := 35) (L' := [some (.ref l0), some (.int l1), some (.int x_5), some (.int x_12)]) (st' := [.int x_12, .ref l0]) cd_104_34 rfl rfl ?_
        refine gs_0 (pc' := 36) (L' := [some (.ref l0), some (.int l1), some (.int x_5), some (.int x_12)]) (st' := [.int 1, .int x_12, .ref l0]) cd_104_35 rfl rfl ?_
        refine gs_0 (pc' := if ¬ x_12 = 1 then 43 else 39) (L' := [some (.ref l0), some (.int l1), some (.int x_5), some (.int x_12)]) (st' := [.ref l0]) cd_104_36 rfl rfl ?_
        refine go_ite (fun hc => ?_) (fun hc => ?_)
        · rw [if_pos hc] at h
          exact ok_104_43 hr5 h
        · rw [if_neg hc] at h
          refine gs_0 (pc' := 40) (L' := [some (.ref l0), some (.int l1), some (.int x_5), some (.int x_12)]) (st' := [.int 1, .ref l0]) cd_104_39 rfl rfl ?_
          refine gs_0 (pc' := 44) (L' := [some (.ref l0), some (.int l1), some (.int x_5), some (.int x_12)]) (st' := [.int 1, .ref l0]) cd_104_40 rfl rfl ?_
          exact ok_104_44 hr5 h
noncomputable def f_104 (K : Nat → Value) (k d : Nat) (l0 : Nat) (w : aW) (I : aI) (J : aJ) : Option aR :=
  gO w 6 l0 (
  cI (Cl K d 105 [.ref l0] w I J) fun x_4 w_1 I_2 J_3 =>
  f_104_5 K k d l0 x_4 w_1 I_2 J_3)
theorem ok_104 {K : Nat → Value} {k d : Nat} {l0 : Nat} {w : aW} {I : aI} {J : aJ} {R : aR} (h : f_104 K k d l0 w I J = some R) : Go K (d + 1) 104 0 [some (.ref l0), none, none, none] [] w I J R := by
  unfold f_104 at h
  refine gs_0 (pc' := 1) (L' := [some (.ref l0), none, none, none]) (st' := [.ref l0]) cd_104_0 rfl rfl ?_
  obtain ⟨ht, h⟩ := gO_s h
  obtain ⟨x_4, w_1, I_2, J_3, hcl, h⟩ := cI_s h
  refine gs_call (as := [.ref l0]) (rest := []) cd_104_1 rfl (by decide) rfl (sm_rv_ok (by decide) ht) (Nat.le_of_ble_eq_true rfl) (Nat.le_of_ble_eq_true rfl) rfl hcl ?_
  refine gs_0 (pc' := 5) (L' := [some (.ref l0), some (.int x_4), none, none]) (st' := []) cd_104_4 rfl rfl ?_
  exact ok_104_5 h
theorem cl_104 {K : Nat → Value} {k d : Nat} {l0 : Nat} {w : aW} {I : aI} {J : aJ} {R : aR} (h : f_104 K k d l0 w I J = some R) : Cl K (d + 1) 104 [.ref l0] w I J = some R := Cl_of (ok_104 h)
/-! ProvedMachineModel.less()I -/
set_option maxRecDepth 20000 in
theorem gl_105 : gcd.lookup 105 = some gw_105 := rfl
theorem cd_105_0 : sm_cd 105 0 = some (.aload_n 0, 1, 0, 0, 0, 0, 0, 0, 0) := cd_of gl_105 rfl
theorem cd_105_1 : sm_cd 105 1 = some (.invokevirtual 260, 3, 106, 0, 0, 5, 6, 0, 0) := cd_of gl_105 rfl
theorem cd_105_4 : sm_cd 105 4 = some (.istore_n 1, 1, 1, 0, 0, 0, 0, 0, 0) := cd_of gl_105 rfl
theorem cd_105_5 : sm_cd 105 5 = some (.aload_n 0, 1, 0, 0, 0, 0, 0, 0, 0) := cd_of gl_105 rfl
theorem cd_105_6 : sm_cd 105 6 = some (.bipush 60, 2, 0, 0, 0, 0, 0, 60, 0) := cd_of gl_105 rfl
theorem cd_105_8 : sm_cd 105 8 = some (.invokevirtual 200, 3, 94, 0, 1, 2, 6, 0, 0) := cd_of gl_105 rfl
theorem cd_105_11 : sm_cd 105 11 = some (.ifCond .ne 12, 3, 23, 0, 0, 0, 0, 0, 0) := cd_of gl_105 rfl
theorem cd_105_14 : sm_cd 105 14 = some (.aload_n 0, 1, 0, 0, 0, 0, 0, 0, 0) := cd_of gl_105 rfl
theorem cd_105_15 : sm_cd 105 15 = some (.bipush 61, 2, 0, 0, 0, 0, 0, 61, 0) := cd_of gl_105 rfl
theorem cd_105_17 : sm_cd 105 17 = some (.invokevirtual 200, 3, 94, 0, 1, 2, 6, 0, 0) := cd_of gl_105 rfl
theorem cd_105_20 : sm_cd 105 20 = some (.ifCond .eq 72, 3, 92, 0, 0, 0, 0, 0, 0) := cd_of gl_105 rfl
theorem cd_105_23 : sm_cd 105 23 = some (.aload_n 0, 1, 0, 0, 0, 0, 0, 0, 0) := cd_of gl_105 rfl
theorem cd_105_24 : sm_cd 105 24 = some (.bipush 60, 2, 0, 0, 0, 0, 0, 60, 0) := cd_of gl_105 rfl
theorem cd_105_26 : sm_cd 105 26 = some (.invokevirtual 200, 3, 94, 0, 1, 2, 6, 0, 0) := cd_of gl_105 rfl
theorem cd_105_29 : sm_cd 105 29 = some (.istore_n 2, 1, 2, 0, 0, 0, 0, 0, 0) := cd_of gl_105 rfl
theorem cd_105_30 : sm_cd 105 30 = some (.aload_n 0, 1, 0, 0, 0, 0, 0, 0, 0) := cd_of gl_105 rfl
theorem cd_105_31 : sm_cd 105 31 = some (.getfield 160, 3, 6, 22, 0, 0, 0, 0, 0) := cd_of gl_105 rfl
theorem cd_105_34 : sm_cd 105 34 = some (.istore_n 3, 1, 3, 0, 0, 0, 0, 0, 0) := cd_of gl_105 rfl
theorem cd_105_35 : sm_cd 105 35 = some (.aload_n 0, 1, 0, 0, 0, 0, 0, 0, 0) := cd_of gl_105 rfl
theorem cd_105_36 : sm_cd 105 36 = some (.invokevirtual 197, 3, 84, 0, 0, 1, 6, 0, 0) := cd_of gl_105 rfl
theorem cd_105_39 : sm_cd 105 39 = some (.aload_n 0, 1, 0, 0, 0, 0, 0, 0, 0) := cd_of gl_105 rfl
theorem cd_105_40 : sm_cd 105 40 = some (.invokevirtual 260, 3, 106, 0, 0, 5, 6, 0, 0) := cd_of gl_105 rfl
theorem cd_105_43 : sm_cd 105 43 = some (.istore 4, 2, 4, 0, 0, 0, 0, 0, 0) := cd_of gl_105 rfl
theorem cd_105_45 : sm_cd 105 45 = some (.aload_n 0, 1, 0, 0, 0, 0, 0, 0, 0) := cd_of gl_105 rfl
theorem cd_105_46 : sm_cd 105 46 = some (.iload_n 1, 1, 1, 0, 0, 0, 0, 0, 0) := cd_of gl_105 rfl
theorem cd_105_47 : sm_cd 105 47 = some (.iload 4, 2, 4, 0, 0, 0, 0, 0, 0) := cd_of gl_105 rfl
theorem cd_105_49 : sm_cd 105 49 = some (.if_icmp .ne 20, 3, 69, 0, 0, 0, 0, 0, 0) := cd_of gl_105 rfl
theorem cd_105_52 : sm_cd 105 52 = some (.iload_n 1, 1, 1, 0, 0, 0, 0, 0, 0) := cd_of gl_105 rfl
theorem cd_105_53 : sm_cd 105 53 = some (.ifCond .eq 12, 3, 65, 0, 0, 0, 0, 0, 0) := cd_of gl_105 rfl
theorem cd_105_56 : sm_cd 105 56 = some (.iload_n 2, 1, 2, 0, 0, 0, 0, 0, 0) := cd_of gl_105 rfl
theorem cd_105_57 : sm_cd 105 57 = some (.ifCond .ne 12, 3, 69, 0, 0, 0, 0, 0, 0) := cd_of gl_105 rfl
theorem cd_105_60 : sm_cd 105 60 = some (.iload_n 1, 1, 1, 0, 0, 0, 0, 0, 0) := cd_of gl_105 rfl
theorem cd_105_61 : sm_cd 105 61 = some (.iconst 1, 1, 0, 0, 0, 0, 0, 1, 0) := cd_of gl_105 rfl
theorem cd_105_62 : sm_cd 105 62 = some (.if_icmp .ne 7, 3, 69, 0, 0, 0, 0, 0, 0) := cd_of gl_105 rfl
theorem cd_105_65 : sm_cd 105 65 = some (.iconst 1, 1, 0, 0, 0, 0, 0, 1, 0) := cd_of gl_105 rfl
theorem cd_105_66 : sm_cd 105 66 = some (.goto 4, 3, 70, 0, 0, 0, 0, 0, 0) := cd_of gl_105 rfl
theorem cd_105_69 : sm_cd 105 69 = some (.iconst 0, 1, 0, 0, 0, 0, 0, 0, 0) := cd_of gl_105 rfl
theorem cd_105_70 : sm_cd 105 70 = some (.iload_n 3, 1, 3, 0, 0, 0, 0, 0, 0) := cd_of gl_105 rfl
theorem cd_105_71 : sm_cd 105 71 = some (.invokevirtual 244, 3, 110, 0, 2, 3, 6, 0, 0) := cd_of gl_105 rfl
theorem cd_105_74 : sm_cd 105 74 = some (.aload_n 0, 1, 0, 0, 0, 0, 0, 0, 0) := cd_of gl_105 rfl
theorem cd_105_75 : sm_cd 105 75 = some (.iload_n 2, 1, 2, 0, 0, 0, 0, 0, 0) := cd_of gl_105 rfl
theorem cd_105_76 : sm_cd 105 76 = some (.ifCond .eq 8, 3, 84, 0, 0, 0, 0, 0, 0) := cd_of gl_105 rfl
theorem cd_105_79 : sm_cd 105 79 = some (.bipush 15, 2, 0, 0, 0, 0, 0, 15, 0) := cd_of gl_105 rfl
theorem cd_105_81 : sm_cd 105 81 = some (.goto 5, 3, 86, 0, 0, 0, 0, 0, 0) := cd_of gl_105 rfl
theorem cd_105_84 : sm_cd 105 84 = some (.bipush 16, 2, 0, 0, 0, 0, 0, 16, 0) := cd_of gl_105 rfl
theorem cd_105_86 : sm_cd 105 86 = some (.iconst 0, 1, 0, 0, 0, 0, 0, 0, 0) := cd_of gl_105 rfl
theorem cd_105_87 : sm_cd 105 87 = some (.invokevirtual 247, 3, 111, 0, 2, 3, 6, 0, 0) := cd_of gl_105 rfl
theorem cd_105_90 : sm_cd 105 90 = some (.iconst 1, 1, 0, 0, 0, 0, 0, 1, 0) := cd_of gl_105 rfl
theorem cd_105_91 : sm_cd 105 91 = some (.istore_n 1, 1, 1, 0, 0, 0, 0, 0, 0) := cd_of gl_105 rfl
theorem cd_105_92 : sm_cd 105 92 = some (.iload_n 1, 1, 1, 0, 0, 0, 0, 0, 0) := cd_of gl_105 rfl
theorem cd_105_93 : sm_cd 105 93 = some (.ireturn, 1, 0, 0, 1, 0, 0, 0, 0) := cd_of gl_105 rfl
noncomputable def f_105_92 (K : Nat → Value) (k d : Nat) (l0 : Nat) (l1 : Int32) (w : aW) (I : aI) (J : aJ) : Option aR :=
  some (some (.int l1), w, I, J)
theorem ok_105_92 {K : Nat → Value} {k d : Nat} {l0 : Nat} {l1 : Int32} {w : aW} {I : aI} {J : aJ} {R : aR} (h : f_105_92 K k d l0 l1 w I J = some R) : Go K (d + 1) 105 92 [some (.ref l0), some (.int l1), none, none, none] [] w I J R := by
  unfold f_105_92 at h
  refine gs_0 (pc' := 93) (L' := [some (.ref l0), some (.int l1), none, none, none]) (st' := [.int l1]) cd_105_92 rfl rfl ?_
  cases h
  exact gs_ri cd_105_93 (Or.inl rfl)
noncomputable def f_105_86 (K : Nat → Value) (k d : Nat) (l0 : Nat) (l1 : Int32) (l2 : Int32) (l3 : Int32) (l4 : Int32) (s0 : Nat) (s1 : Int32) (w : aW) (I : aI) (J : aJ) : Option aR :=
  gO w 6 s0 (
  cV (Cl K d 111 [.ref s0, .int s1, .int 0] w I J) fun w_1 I_2 J_3 =>
  f_105_92 K k d l0 1 w_1 I_2 J_3)
theorem ok_105_86 {K : Nat → Value} {k d : Nat} {l0 : Nat} {l1 : Int32} {l2 : Int32} {l3 : Int32} {l4 : Int32} {s0 : Nat} {s1 : Int32} {w : aW} {I : aI} {J : aJ} {R : aR} (h : f_105_86 K k d l0 l1 l2 l3 l4 s0 s1 w I J = some R) : Go K (d + 1) 105 86 [some (.ref l0), some (.int l1), some (.int l2), some (.int l3), some (.int l4)] [.int s1, .ref s0] w I J R := by
  unfold f_105_86 at h
  refine gs_0 (pc' := 87) (L' := [some (.ref l0), some (.int l1), some (.int l2), some (.int l3), some (.int l4)]) (st' := [.int 0, .int s1, .ref s0]) cd_105_86 rfl rfl ?_
  obtain ⟨ht, h⟩ := gO_s h
  obtain ⟨w_1, I_2, J_3, hcl, h⟩ := cV_s h
  refine gs_call (as := [.ref s0, .int s1, .int 0]) (rest := []) cd_105_87 rfl (by decide) rfl (sm_rv_ok (by decide) ht) (Nat.le_of_ble_eq_true rfl) (Nat.le_of_ble_eq_true rfl) rfl hcl ?_
  refine gs_0 (pc' := 91) (L' := [some (.ref l0), some (.int l1), some (.int l2), some (.int l3), some (.int l4)]) (st' := [.int 1]) cd_105_90 rfl rfl ?_
  refine gs_0 (pc' := 92) (L' := [some (.ref l0), some (.int 1), some (.int l2), some (.int l3), some (.int l4)]) (st' := []) cd_105_91 rfl rfl ?_
  refine go_drop [some (.ref l0), some (.int 1), none, none, none] ⟨rfl, ⟨rfl, ⟨rfl, ⟨rfl, ⟨rfl, trivial⟩⟩⟩⟩⟩ ?_
  exact ok_105_92 h
noncomputable def f_105_70 (K : Nat → Value) (k d : Nat) (l0 : Nat) (l1 : Int32) (l2 : Int32) (l3 : Int32) (l4 : Int32) (s0 : Nat) (s1 : Int32) (w : aW) (I : aI) (J : aJ) : Option aR :=
  gO w 6 s0 (
  cV (Cl K d 110 [.ref s0, .int s1, .int l3] w I J) fun w_1 I_2 J_3 =>
  if l2 = 0 then
    f_105_86 K k d l0 l1 l2 l3 l4 l0 16 w_1 I_2 J_3
  else
    f_105_86 K k d l0 l1 l2 l3 l4 l0 15 w_1 I_2 J_3)
theorem ok_105_70 {K : Nat → Value} {k d : Nat} {l0 : Nat} {l1 : Int32} {l2 : Int32} {l3 : Int32} {l4 : Int32} {s0 : Nat} {s1 : Int32} {w : aW} {I : aI} {J : aJ} {R : aR} (h : f_105_70 K k d l0 l1 l2 l3 l4 s0 s1 w I J = some R) : Go K (d + 1) 105 70 [some (.ref l0), some (.int l1), some (.int l2), some (.int l3), some (.int l4)] [.int s1, .ref s0] w I J R := by
  unfold f_105_70 at h
  refine gs_0 (pc' := 71) (L' := [some (.ref l0), some (.int l1), some (.int l2), some (.int l3), some (.int l4)]) (st' := [.int l3, .int s1, .ref s0]) cd_105_70 rfl rfl ?_
  obtain ⟨ht, h⟩ := gO_s h
  obtain ⟨w_1, I_2, J_3, hcl, h⟩ := cV_s h
  refine gs_call (as := [.ref s0, .int s1, .int l3]) (rest := []) cd_105_71 rfl (by decide) rfl (sm_rv_ok (by decide) ht) (Nat.le_of_ble_eq_true rfl) (Nat.le_of_ble_eq_true rfl) rfl hcl ?_
  refine gs_0 (pc' := 75) (L' := [some (.ref l0), some (.int l1), some (.int l2), some (.int l3), some (.int l4)]) (st' := [.ref l0]) cd_105_74 rfl rfl ?_
  refine gs_0 (pc' := 76) (L' := [some (.ref l0), some (.int l1), some (.int l2), some (.int l3), some (.int l4)]) (st' := [.int l2, .ref l0]) cd_105_75 rfl rfl ?_
  refine gs_0 (pc' := if l2 = 0 then 84 else 79) (L' := [some (.ref l0), some (.int l1), some (.int l2), some (.int l3), some (.int l4)]) (st' := [.ref l0]) cd_105_76 rfl rfl ?_
  refine go_ite (fun hc => ?_) (fun hc => ?_)
  · rw [if_pos hc] at h
    refine gs_0 (pc' := 86) (L' := [some (.ref l0), some (.int l1), some (.int l2), some (.int l3), some (.int l4)]) (st' := [.int 16, .ref l0]) cd_105_84 rfl rfl ?_
    exact ok_105_86 h
  · rw [if_neg hc] at h
    refine gs_0 (pc' := 81) (L' := [some (.ref l0), some (.int l1), some (.int l2), some (.int l3), some (.int l4)]) (st' := [.int 15, .ref l0]) cd_105_79 rfl rfl ?_
    refine gs_0 (pc' := 86) (L' := [some (.ref l0), some (.int l1), some (.int l2), some (.int l3), some (.int l4)]) (st' := [.int 15, .ref l0]) cd_105_81 rfl rfl ?_
    exact ok_105_86 h
noncomputable def f_105_69 (K : Nat → Value) (k d : Nat) (l0 : Nat) (l1 : Int32) (l2 : Int32) (l3 : Int32) (l4 : Int32) (s0 : Nat) (w : aW) (I : aI) (J : aJ) : Option aR :=
  f_105_70 K k d l0 l1 l2 l3 l4 s0 0 w I J
theorem ok_105_69 {K : Nat → Value} {k d : Nat} {l0 : Nat} {l1 : Int32} {l2 : Int32} {l3 : Int32} {l4 : Int32} {s0 : Nat} {w : aW} {I : aI} {J : aJ} {R : aR} (h : f_105_69 K k d l0 l1 l2 l3 l4 s0 w I J = some R) : Go K (d + 1) 105 69 [some (.ref l0), some (.int l1), some (.int l2), some (.int l3), some (.int l4)] [.ref s0] w I J R := by
  unfold f_105_69 at h
  refine gs_0 (pc' := 70) (L' := [some (.ref l0), some (.int l1), some (.int l2), some (.int l3), some (.int l4)]) (st' := [.int 0, .ref s0]) cd_105_69 rfl rfl ?_
  exact ok_105_70 h
noncomputable def f_105_65 (K : Nat → Value) (k d : Nat) (l0 : Nat) (l1 : Int32) (l2 : Int32) (l3 : Int32) (l4 : Int32) (s0 : Nat) (w : aW) (I : aI) (J : aJ) : Option aR :=
  f_105_70 K k d l0 l1 l2 l3 l4 s0 1 w I J
theorem ok_105_65 {K : Nat → Value} {k d : Nat} {l0 : Nat} {l1 : Int32} {l2 : Int32} {l3 : Int32} {l4 : Int32} {s0 : Nat} {w : aW} {I : aI} {J : aJ} {R : aR} (h : f_105_65 K k d l0 l1 l2 l3 l4 s0 w I J = some R) : Go K (d + 1) 105 65 [some (.ref l0), some (.int l1), some (.int l2), some (.int l3), some (.int l4)] [.ref s0] w I J R := by
  unfold f_105_65 at h
  refine gs_0 (pc' := 66) (L' := [some (.ref l0), some (.int l1), some (.int l2), some (.int l3), some (.int l4)]) (st' := [.int 1, .ref s0]) cd_105_65 rfl rfl ?_
  refine gs_0 (pc' := 70) (L' := [some (.ref l0), some (.int l1), some (.int l2), some (.int l3), some (.int l4)]) (st' := [.int 1, .ref s0]) cd_105_66 rfl rfl ?_
  exact ok_105_70 h
noncomputable def f_105_23 (K : Nat → Value) (k d : Nat) (l0 : Nat) (l1 : Int32) (w : aW) (I : aI) (J : aJ) : Option aR :=
  gO w 6 l0 (
  cI (Cl K d 94 [.ref l0, .int 60] w I J) fun x_4 w_1 I_2 J_3 =>
  gO w_1 6 l0 (
  lt_ (I_2 l0 22) fun x_5 =>
  gO w_1 6 l0 (
  cV (Cl K d 84 [.ref l0] w_1 I_2 J_3) fun w_6 I_7 J_8 =>
  gO w_6 6 l0 (
  cI (Cl K d 106 [.ref l0] w_6 I_7 J_8) fun x_12 w_9 I_10 J_11 =>
  if ¬ l1 = x_12 then
    f_105_69 K k d l0 l1 x_4 x_5 x_12 l0 w_9 I_10 J_11
  else
    if l1 = 0 then
      f_105_65 K k d l0 l1 x_4 x_5 x_12 l0 w_9 I_10 J_11
    else
      if ¬ x_4 = 0 then
        f_105_69 K k d l0 l1 x_4 x_5 x_12 l0 w_9 I_10 J_11
      else
        if ¬ l1 = 1 then
          f_105_69 K k d l0 l1 x_4 x_5 x_12 l0 w_9 I_10 J_11
        else
          f_105_65 K k d l0 l1 x_4 x_5 x_12 l0 w_9 I_10 J_11))))
theorem ok_105_23 {K : Nat → Value} {k d : Nat} {l0 : Nat} {l1 : Int32} {w : aW} {I : aI} {J : aJ} {R : aR} (h : f_105_23 K k d l0 l1 w I J = some R) : Go K (d + 1) 105 23 [some (.ref l0), some (.int l1), none, none, none] [] w I J R := by
  unfold f_105_23 at h
  refine gs_0 (pc' := 24) (L' := [some (.ref l0), some (.int l1), none, none, none]) (st' := [.ref l0]) cd_105_23 rfl rfl ?_
  refine gs_0 (pc' := 26) (L' := [some (.ref l0), some (.int l1), none, none, none]) (st' := [.int 60, .ref l0]) cd_105_24 rfl rfl ?_
  obtain ⟨ht, h⟩ := gO_s h
  obtain ⟨x_4, w_1, I_2, J_3, hcl, h⟩ := cI_s h
  refine gs_call (as := [.ref l0, .int 60]) (rest := []) cd_105_26 rfl (by decide) rfl (sm_rv_ok (by decide) ht) (Nat.le_of_ble_eq_true rfl) (Nat.le_of_ble_eq_true rfl) rfl hcl ?_
  refine gs_0 (pc' := 30) (L' := [some (.ref l0), some (.int l1), some (.int x_4), none, none]) (st' := []) cd_105_29 rfl rfl ?_
  refine gs_0 (pc' := 31) (L' := [some (.ref l0), some (.int l1), some (.int x_4), none, none]) (st' := [.ref l0]) cd_105_30 rfl rfl ?_
  obtain ⟨ht, h⟩ := gO_s h
  refine gs_gfI cd_105_31 (by decide) (by decide) ht ?_
  refine gs_0 (pc' := 35) (L' := [some (.ref l0), some (.int l1), some (.int x_4), some (.int (I_2 l0 22)), none]) (st' := []) cd_105_34 rfl rfl ?_
  obtain ⟨x_5, hx, h⟩ := lt_s_ h
  rw [hx]
  clear hx
  refine gs_0 (pc' := 36) (L' := [some (.ref l0), some (.int l1), some (.int x_4), some (.int x_5), none]) (st' := [.ref l0]) cd_105_35 rfl rfl ?_
  obtain ⟨ht, h⟩ := gO_s h
  obtain ⟨w_6, I_7, J_8, hcl, h⟩ := cV_s h
  refine gs_call (as := [.ref l0]) (rest := []) cd_105_36 rfl (by decide) rfl (sm_rv_ok (by decide) ht) (Nat.le_of_ble_eq_true rfl) (Nat.le_of_ble_eq_true rfl) rfl hcl ?_
  refine gs_0 (pc' := 40) (L' := [some (.ref l0), some (.int l1), some (.int x_4), some (.int x_5), none]) (st' := [.ref l0]) cd_105_39 rfl rfl ?_
  obtain ⟨ht, h⟩ := gO_s h
  obtain ⟨x_12, w_9, I_10, J_11, hcl, h⟩ := cI_s h
  refine gs_call (as := [.ref l0]) (rest := []) cd_105_40 rfl (by decide) rfl (sm_rv_ok (by decide) ht) (Nat.le_of_ble_eq_true rfl) (Nat.le_of_ble_eq_true rfl) rfl hcl ?_
  refine gs_0 (pc' := 45) (L' := [some (.ref l0), some (.int l1), some (.int x_4), some (.int x_5), some (.int x_12)]) (st' := []) cd_105_43 rfl rfl ?_
  refine gs_0 (pc' := 46) (L' := [some (.ref l0), some (.int l1), some (.int x_4), some (.int x_5), some (.int x_12)]) (st' := [.ref l0]) cd_105_45 rfl rfl ?_
  refine gs_0 (pc' := 47) (L' := [some (.ref l0), some (.int l1), some (.int x_4), some (.int x_5), some (.int x_12)]) (st' := [.int l1, .ref l0]) cd_105_46 rfl rfl ?_
  refine gs_0 (pc' := 49) (L' := [some (.ref l0), some (.int l1), some (.int x_4), some (.int x_5), some (.int x_12)]) (st' := [.int x_12, .int l1, .ref l0]) cd_105_47 rfl rfl ?_
  refine gs_0 (pc' := if ¬ l1 = x_12 then 69 else 52) (L' := [some (.ref l0), some (.int l1), some (.int x_4), some (.int x_5), some (.int x_12)]) (st' := [.ref l0]) cd_105_49 rfl rfl ?_
  refine go_ite (fun hc => ?_) (fun hc => ?_)
  · rw [if_pos hc] at h
    exact ok_105_69 h
  · rw [if_neg hc] at h
    refine gs_0 (pc' := 53) (L' := [some (.ref l0), some (.int l1), some (.int x_4), some (.int x_5), some (.int x_12)]) (st' := [.int l1, .ref l0]) cd_105_52 rfl rfl ?_
    refine gs_0 (pc' := if l1 = 0 then 65 else 56) (L' := [some (.ref l0), some (.int l1), some (.int x_4), some (.int x_5), some (.int x_12)]) (st' := [.ref l0]) cd_105_53 rfl rfl ?_
    refine go_ite (fun hc => ?_) (fun hc => ?_)
    · rw [if_pos hc] at h
      exact ok_105_65 h
    · rw [if_neg hc] at h
      refine gs_0 (pc' := 57) (L' := [some (.ref l0), some (.int l1), some (.int x_4), some (.int x_5), some (.int x_12)]) (st' := [.int x_4, .ref l0]) cd_105_56 rfl rfl ?_
      refine gs_0 (pc' := if ¬ x_4 = 0 then 69 else 60) (L' := [some (.ref l0), some (.int l1), some (.int x_4), some (.int x_5), some (.int x_12)]) (st' := [.ref l0]) cd_105_57 rfl rfl ?_
      refine go_ite (fun hc => ?_) (fun hc => ?_)
      · rw [if_pos hc] at h
        exact ok_105_69 h
      · rw [if_neg hc] at h
        refine gs_0 (pc' := 61) (L' := [some (.ref l0), some (.int l1), some (.int x_4), some (.int x_5), some (.int x_12)]) (st' := [.int l1, .ref l0]) cd_105_60 rfl rfl ?_
        refine gs_0 (pc' := 62) (L' := [some (.ref l0), some (.int l1), some (.int x_4), some (.int x_5), some (.int x_12)]) (st' := [.int 1, .int l1, .ref l0]) cd_105_61 rfl rfl ?_
        refine gs_0 (pc' := if ¬ l1 = 1 then 69 else 65) (L' := [some (.ref l0), some (.int l1), some (.int x_4), some (.int x_5), some (.int x_12)]) (st' := [.ref l0]) cd_105_62 rfl rfl ?_
        refine go_ite (fun hc => ?_) (fun hc => ?_)
        · rw [if_pos hc] at h
          exact ok_105_69 h
        · rw [if_neg hc] at h
          exact ok_105_65 h
noncomputable def f_105 (K : Nat → Value) (k d : Nat) (l0 : Nat) (w : aW) (I : aI) (J : aJ) : Option aR :=
  gO w 6 l0 (
  cI (Cl K d 106 [.ref l0] w I J) fun x_4 w_1 I_2 J_3 =>
  gO w_1 6 l0 (
  cI (Cl K d 94 [.ref l0, .int 60] w_1 I_2 J_3) fun x_8 w_5 I_6 J_7 =>
  if ¬ x_8 = 0 then
    f_105_23 K k d l0 x_4 w_5 I_6 J_7
  else
    gO w_5 6 l0 (
    cI (Cl K d 94 [.ref l0, .int 61] w_5 I_6 J_7) fun x_12 w_9 I_10 J_11 =>
    if x_12 = 0 then
      f_105_92 K k d l0 x_4 w_9 I_10 J_11
    else
      f_105_23 K k d l0 x_4 w_9 I_10 J_11)))
theorem ok_105 {K : Nat → Value} {k d : Nat} {l0 : Nat} {w : aW} {I : aI} {J : aJ} {R : aR} (h : f_105 K k d l0 w I J = some R) : Go K (d + 1) 105 0 [some (.ref l0), none, none, none, none] [] w I J R := by
  unfold f_105 at h
  refine gs_0 (pc' := 1) (L' := [some (.ref l0), none, none, none, none]) (st' := [.ref l0]) cd_105_0 rfl rfl ?_
  obtain ⟨ht, h⟩ := gO_s h
  obtain ⟨x_4, w_1, I_2, J_3, hcl, h⟩ := cI_s h
  refine gs_call (as := [.ref l0]) (rest := []) cd_105_1 rfl (by decide) rfl (sm_rv_ok (by decide) ht) (Nat.le_of_ble_eq_true rfl) (Nat.le_of_ble_eq_true rfl) rfl hcl ?_
  refine gs_0 (pc' := 5) (L' := [some (.ref l0), some (.int x_4), none, none, none]) (st' := []) cd_105_4 rfl rfl ?_
  refine gs_0 (pc' := 6) (L' := [some (.ref l0), some (.int x_4), none, none, none]) (st' := [.ref l0]) cd_105_5 rfl rfl ?_
  refine gs_0 (pc' := 8) (L' := [some (.ref l0), some (.int x_4), none, none, none]) (st' := [.int 60, .ref l0]) cd_105_6 rfl rfl ?_
  obtain ⟨ht, h⟩ := gO_s h
  obtain ⟨x_8, w_5, I_6, J_7, hcl, h⟩ := cI_s h
  refine gs_call (as := [.ref l0, .int 60]) (rest := []) cd_105_8 rfl (by decide) rfl (sm_rv_ok (by decide) ht) (Nat.le_of_ble_eq_true rfl) (Nat.le_of_ble_eq_true rfl) rfl hcl ?_
  refine gs_0 (pc' := if ¬ x_8 = 0 then 23 else 14) (L' := [some (.ref l0), some (.int x_4), none, none, none]) (st' := []) cd_105_11 rfl rfl ?_
  refine go_ite (fun hc => ?_) (fun hc => ?_)
  · rw [if_pos hc] at h
    exact ok_105_23 h
  · rw [if_neg hc] at h
    refine gs_0 (pc' := 15) (L' := [some (.ref l0), some (.int x_4), none, none, none]) (st' := [.ref l0]) cd_105_14 rfl rfl ?_
    refine gs_0 (pc' := 17) (L' := [some (.ref l0), some (.int x_4), none, none, none]) (st' := [.int 61, .ref l0]) cd_105_15 rfl rfl ?_
    obtain ⟨ht, h⟩ := gO_s h
    obtain ⟨x_12, w_9, I_10, J_11, hcl, h⟩ := cI_s h
    refine gs_call (as := [.ref l0, .int 61]) (rest := []) cd_105_17 rfl (by decide) rfl (sm_rv_ok (by decide) ht) (Nat.le_of_ble_eq_true rfl) (Nat.le_of_ble_eq_true rfl) rfl hcl ?_
    refine gs_0 (pc' := if x_12 = 0 then 92 else 23) (L' := [some (.ref l0), some (.int x_4), none, none, none]) (st' := []) cd_105_20 rfl rfl ?_
    refine go_ite (fun hc => ?_) (fun hc => ?_)
    · rw [if_pos hc] at h
      exact ok_105_92 h
    · rw [if_neg hc] at h
      exact ok_105_23 h
theorem cl_105 {K : Nat → Value} {k d : Nat} {l0 : Nat} {w : aW} {I : aI} {J : aJ} {R : aR} (h : f_105 K k d l0 w I J = some R) : Cl K (d + 1) 105 [.ref l0] w I J = some R := Cl_of (ok_105 h)
/-! ProvedMachineModel.sum()I -/
set_option maxRecDepth 20000 in
theorem gl_106 : gcd.lookup 106 = some gw_106 := rfl
theorem cd_106_0 : sm_cd 106 0 = some (.aload_n 0, 1, 0, 0, 0, 0, 0, 0, 0) := cd_of gl_106 rfl
theorem cd_106_1 : sm_cd 106 1 = some (.invokevirtual 263, 3, 107, 0, 0, 5, 6, 0, 0) := cd_of gl_106 rfl
theorem cd_106_4 : sm_cd 106 4 = some (.istore_n 1, 1, 1, 0, 0, 0, 0, 0, 0) := cd_of gl_106 rfl
theorem cd_106_5 : sm_cd 106 5 = some (.aload_n 0, 1, 0, 0, 0, 0, 0, 0, 0) := cd_of gl_106 rfl
theorem cd_106_6 : sm_cd 106 6 = some (.bipush 43, 2, 0, 0, 0, 0, 0, 43, 0) := cd_of gl_106 rfl
theorem cd_106_8 : sm_cd 106 8 = some (.invokevirtual 200, 3, 94, 0, 1, 2, 6, 0, 0) := cd_of gl_106 rfl
theorem cd_106_11 : sm_cd 106 11 = some (.ifCond .ne 12, 3, 23, 0, 0, 0, 0, 0, 0) := cd_of gl_106 rfl
theorem cd_106_14 : sm_cd 106 14 = some (.aload_n 0, 1, 0, 0, 0, 0, 0, 0, 0) := cd_of gl_106 rfl
theorem cd_106_15 : sm_cd 106 15 = some (.bipush 45, 2, 0, 0, 0, 0, 0, 45, 0) := cd_of gl_106 rfl
theorem cd_106_17 : sm_cd 106 17 = some (.invokevirtual 200, 3, 94, 0, 1, 2, 6, 0, 0) := cd_of gl_106 rfl
theorem cd_106_20 : sm_cd 106 20 = some (.ifCond .eq 65, 3, 85, 0, 0, 0, 0, 0, 0) := cd_of gl_106 rfl
theorem cd_106_23 : sm_cd 106 23 = some (.aload_n 0, 1, 0, 0, 0, 0, 0, 0, 0) := cd_of gl_106 rfl
theorem cd_106_24 : sm_cd 106 24 = some (.bipush 43, 2, 0, 0, 0, 0, 0, 43, 0) := cd_of gl_106 rfl
theorem cd_106_26 : sm_cd 106 26 = some (.invokevirtual 200, 3, 94, 0, 1, 2, 6, 0, 0) := cd_of gl_106 rfl
theorem cd_106_29 : sm_cd 106 29 = some (.istore_n 2, 1, 2, 0, 0, 0, 0, 0, 0) := cd_of gl_106 rfl
theorem cd_106_30 : sm_cd 106 30 = some (.aload_n 0, 1, 0, 0, 0, 0, 0, 0, 0) := cd_of gl_106 rfl
theorem cd_106_31 : sm_cd 106 31 = some (.getfield 160, 3, 6, 22, 0, 0, 0, 0, 0) := cd_of gl_106 rfl
theorem cd_106_34 : sm_cd 106 34 = some (.istore_n 3, 1, 3, 0, 0, 0, 0, 0, 0) := cd_of gl_106 rfl
theorem cd_106_35 : sm_cd 106 35 = some (.aload_n 0, 1, 0, 0, 0, 0, 0, 0, 0) := cd_of gl_106 rfl
theorem cd_106_36 : sm_cd 106 36 = some (.invokevirtual 197, 3, 84, 0, 0, 1, 6, 0, 0) := cd_of gl_106 rfl
theorem cd_106_39 : sm_cd 106 39 = some (.aload_n 0, 1, 0, 0, 0, 0, 0, 0, 0) := cd_of gl_106 rfl
theorem cd_106_40 : sm_cd 106 40 = some (.invokevirtual 263, 3, 107, 0, 0, 5, 6, 0, 0) := cd_of gl_106 rfl
theorem cd_106_43 : sm_cd 106 43 = some (.istore 4, 2, 4, 0, 0, 0, 0, 0, 0) := cd_of gl_106 rfl
theorem cd_106_45 : sm_cd 106 45 = some (.aload_n 0, 1, 0, 0, 0, 0, 0, 0, 0) := cd_of gl_106 rfl
theorem cd_106_46 : sm_cd 106 46 = some (.iload_n 1, 1, 1, 0, 0, 0, 0, 0, 0) := cd_of gl_106 rfl
theorem cd_106_47 : sm_cd 106 47 = some (.ifCond .ne 12, 3, 59, 0, 0, 0, 0, 0, 0) := cd_of gl_106 rfl
theorem cd_106_50 : sm_cd 106 50 = some (.iload 4, 2, 4, 0, 0, 0, 0, 0, 0) := cd_of gl_106 rfl
theorem cd_106_52 : sm_cd 106 52 = some (.ifCond .ne 7, 3, 59, 0, 0, 0, 0, 0, 0) := cd_of gl_106 rfl
theorem cd_106_55 : sm_cd 106 55 = some (.iconst 1, 1, 0, 0, 0, 0, 0, 1, 0) := cd_of gl_106 rfl
theorem cd_106_56 : sm_cd 106 56 = some (.goto 4, 3, 60, 0, 0, 0, 0, 0, 0) := cd_of gl_106 rfl
theorem cd_106_59 : sm_cd 106 59 = some (.iconst 0, 1, 0, 0, 0, 0, 0, 0, 0) := cd_of gl_106 rfl
theorem cd_106_60 : sm_cd 106 60 = some (.iload_n 3, 1, 3, 0, 0, 0, 0, 0, 0) := cd_of gl_106 rfl
theorem cd_106_61 : sm_cd 106 61 = some (.invokevirtual 244, 3, 110, 0, 2, 3, 6, 0, 0) := cd_of gl_106 rfl
theorem cd_106_64 : sm_cd 106 64 = some (.aload_n 0, 1, 0, 0, 0, 0, 0, 0, 0) := cd_of gl_106 rfl
theorem cd_106_65 : sm_cd 106 65 = some (.iload_n 2, 1, 2, 0, 0, 0, 0, 0, 0) := cd_of gl_106 rfl
theorem cd_106_66 : sm_cd 106 66 = some (.ifCond .eq 8, 3, 74, 0, 0, 0, 0, 0, 0) := cd_of gl_106 rfl
theorem cd_106_69 : sm_cd 106 69 = some (.bipush 17, 2, 0, 0, 0, 0, 0, 17, 0) := cd_of gl_106 rfl
theorem cd_106_71 : sm_cd 106 71 = some (.goto 5, 3, 76, 0, 0, 0, 0, 0, 0) := cd_of gl_106 rfl
theorem cd_106_74 : sm_cd 106 74 = some (.bipush 18, 2, 0, 0, 0, 0, 0, 18, 0) := cd_of gl_106 rfl
theorem cd_106_76 : sm_cd 106 76 = some (.iconst 0, 1, 0, 0, 0, 0, 0, 0, 0) := cd_of gl_106 rfl
theorem cd_106_77 : sm_cd 106 77 = some (.invokevirtual 247, 3, 111, 0, 2, 3, 6, 0, 0) := cd_of gl_106 rfl
theorem cd_106_80 : sm_cd 106 80 = some (.iconst 0, 1, 0, 0, 0, 0, 0, 0, 0) := cd_of gl_106 rfl
theorem cd_106_81 : sm_cd 106 81 = some (.istore_n 1, 1, 1, 0, 0, 0, 0, 0, 0) := cd_of gl_106 rfl
theorem cd_106_82 : sm_cd 106 82 = some (.goto (-77), 3, 5, 0, 0, 0, 0, 0, 0) := cd_of gl_106 rfl
theorem cd_106_85 : sm_cd 106 85 = some (.iload_n 1, 1, 1, 0, 0, 0, 0, 0, 0) := cd_of gl_106 rfl
theorem cd_106_86 : sm_cd 106 86 = some (.ireturn, 1, 0, 0, 1, 0, 0, 0, 0) := cd_of gl_106 rfl
noncomputable def f_106_76 (K : Nat → Value) (k d : Nat) (r5 : Nat → Int32 → aW → aI → aJ → Option aR) (l0 : Nat) (l1 : Int32) (l2 : Int32) (l3 : Int32) (l4 : Int32) (s0 : Nat) (s1 : Int32) (w : aW) (I : aI) (J : aJ) : Option aR :=
  gO w 6 s0 (
  cV (Cl K d 111 [.ref s0, .int s1, .int 0] w I J) fun w_1 I_2 J_3 =>
  r5 l0 0 w_1 I_2 J_3)
theorem ok_106_76 {K : Nat → Value} {k d : Nat} {r5 : Nat → Int32 → aW → aI → aJ → Option aR} (hr5 : ∀ (l0 : Nat) (l1 : Int32) (w : aW) (I : aI) (J : aJ) (R : aR), r5 l0 l1 w I J = some R → Go K (d + 1) 106 5 [some (.ref l0), some (.int l1), none, none, none] [] w I J R) {l0 : Nat} {l1 : Int32} {l2 : Int32} {l3 : Int32} {l4 : Int32} {s0 : Nat} {s1 : Int32} {w : aW} {I : aI} {J : aJ} {R : aR} (h : f_106_76 K k d r5 l0 l1 l2 l3 l4 s0 s1 w I J = some R) : Go K (d + 1) 106 76 [some (.ref l0), some (.int l1), some (.int l2), some (.int l3), some (.int l4)] [.int s1, .ref s0] w I J R := by
  unfold f_106_76 at h
  refine gs_0 (pc' := 77) (L' := [some (.ref l0), some (.int l1), some (.int l2), some (.int l3), some (.int l4)]) (st' := [.int 0, .int s1, .ref s0]) cd_106_76 rfl rfl ?_
  obtain ⟨ht, h⟩ := gO_s h
  obtain ⟨w_1, I_2, J_3, hcl, h⟩ := cV_s h
  refine gs_call (as := [.ref s0, .int s1, .int 0]) (rest := []) cd_106_77 rfl (by decide) rfl (sm_rv_ok (by decide) ht) (Nat.le_of_ble_eq_true rfl) (Nat.le_of_ble_eq_true rfl) rfl hcl ?_
  refine gs_0 (pc' := 81) (L' := [some (.ref l0), some (.int l1), some (.int l2), some (.int l3), some (.int l4)]) (st' := [.int 0]) cd_106_80 rfl rfl ?_
  refine gs_0 (pc' := 82) (L' := [some (.ref l0), some (.int 0), some (.int l2), some (.int l3), some (.int l4)]) (st' := []) cd_106_81 rfl rfl ?_
  refine gs_0 (pc' := 5) (L' := [some (.ref l0), some (.int 0), some (.int l2), some (.int l3), some (.int l4)]) (st' := []) cd_106_82 rfl rfl ?_
  refine go_drop [some (.ref l0), some (.int 0), none, none, none] ⟨rfl, ⟨rfl, ⟨rfl, ⟨rfl, ⟨rfl, trivial⟩⟩⟩⟩⟩ ?_
  exact hr5 l0 0 _ _ _ _ h
noncomputable def f_106_60 (K : Nat → Value) (k d : Nat) (r5 : Nat → Int32 → aW → aI → aJ → Option aR) (l0 : Nat) (l1 : Int32) (l2 : Int32) (l3 : Int32) (l4 : Int32) (s0 : Nat) (s1 : Int32) (w : aW) (I : aI) (J : aJ) : Option aR :=
  gO w 6 s0 (
  cV (Cl K d 110 [.ref s0, .int s1, .int l3] w I J) fun w_1 I_2 J_3 =>
  if l2 = 0 then
    f_106_76 K k d r5 l0 l1 l2 l3 l4 l0 18 w_1 I_2 J_3
  else
    f_106_76 K k d r5 l0 l1 l2 l3 l4 l0 17 w_1 I_2 J_3)
theorem ok_106_60 {K : Nat → Value} {k d : Nat} {r5 : Nat → Int32 → aW → aI → aJ → Option aR} (hr5 : ∀ (l0 : Nat) (l1 : Int32) (w : aW) (I : aI) (J : aJ) (R : aR), r5 l0 l1 w I J = some R → Go K (d + 1) 106 5 [some (.ref l0), some (.int l1), none, none, none] [] w I J R) {l0 : Nat} {l1 : Int32} {l2 : Int32} {l3 : Int32} {l4 : Int32} {s0 : Nat} {s1 : Int32} {w : aW} {I : aI} {J : aJ} {R : aR} (h : f_106_60 K k d r5 l0 l1 l2 l3 l4 s0 s1 w I J = some R) : Go K (d + 1) 106 60 [some (.ref l0), some (.int l1), some (.int l2), some (.int l3), some (.int l4)] [.int s1, .ref s0] w I J R := by
  unfold f_106_60 at h
  refine gs_0 (pc' := 61) (L' := [some (.ref l0), some (.int l1), some (.int l2), some (.int l3), some (.int l4)]) (st' := [.int l3, .int s1, .ref s0]) cd_106_60 rfl rfl ?_
  obtain ⟨ht, h⟩ := gO_s h
  obtain ⟨w_1, I_2, J_3, hcl, h⟩ := cV_s h
  refine gs_call (as := [.ref s0, .int s1, .int l3]) (rest := []) cd_106_61 rfl (by decide) rfl (sm_rv_ok (by decide) ht) (Nat.le_of_ble_eq_true rfl) (Nat.le_of_ble_eq_true rfl) rfl hcl ?_
  refine gs_0 (pc' := 65) (L' := [some (.ref l0), some (.int l1), some (.int l2), some (.int l3), some (.int l4)]) (st' := [.ref l0]) cd_106_64 rfl rfl ?_
  refine gs_0 (pc' := 66) (L' := [some (.ref l0), some (.int l1), some (.int l2), some (.int l3), some (.int l4)]) (st' := [.int l2, .ref l0]) cd_106_65 rfl rfl ?_
  refine gs_0 (pc' := if l2 = 0 then 74 else 69) (L' := [some (.ref l0), some (.int l1), some (.int l2), some (.int l3), some (.int l4)]) (st' := [.ref l0]) cd_106_66 rfl rfl ?_
  refine go_ite (fun hc => ?_) (fun hc => ?_)
  · rw [if_pos hc] at h
    refine gs_0 (pc' := 76) (L' := [some (.ref l0), some (.int l1), some (.int l2), some (.int l3), some (.int l4)]) (st' := [.int 18, .ref l0]) cd_106_74 rfl rfl ?_
    exact ok_106_76 hr5 h
  · rw [if_neg hc] at h
    refine gs_0 (pc' := 71) (L' := [some (.ref l0), some (.int l1), some (.int l2), some (.int l3), some (.int l4)]) (st' := [.int 17, .ref l0]) cd_106_69 rfl rfl ?_
    refine gs_0 (pc' := 76) (L' := [some (.ref l0), some (.int l1), some (.int l2), some (.int l3), some (.int l4)]) (st' := [.int 17, .ref l0]) cd_106_71 rfl rfl ?_
    exact ok_106_76 hr5 h
noncomputable def f_106_59 (K : Nat → Value) (k d : Nat) (r5 : Nat → Int32 → aW → aI → aJ → Option aR) (l0 : Nat) (l1 : Int32) (l2 : Int32) (l3 : Int32) (l4 : Int32) (s0 : Nat) (w : aW) (I : aI) (J : aJ) : Option aR :=
  f_106_60 K k d r5 l0 l1 l2 l3 l4 s0 0 w I J
theorem ok_106_59 {K : Nat → Value} {k d : Nat} {r5 : Nat → Int32 → aW → aI → aJ → Option aR} (hr5 : ∀ (l0 : Nat) (l1 : Int32) (w : aW) (I : aI) (J : aJ) (R : aR), r5 l0 l1 w I J = some R → Go K (d + 1) 106 5 [some (.ref l0), some (.int l1), none, none, none] [] w I J R) {l0 : Nat} {l1 : Int32} {l2 : Int32} {l3 : Int32} {l4 : Int32} {s0 : Nat} {w : aW} {I : aI} {J : aJ} {R : aR} (h : f_106_59 K k d r5 l0 l1 l2 l3 l4 s0 w I J = some R) : Go K (d + 1) 106 59 [some (.ref l0), some (.int l1), some (.int l2), some (.int l3), some (.int l4)] [.ref s0] w I J R := by
  unfold f_106_59 at h
  refine gs_0 (pc' := 60) (L' := [some (.ref l0), some (.int l1), some (.int l2), some (.int l3), some (.int l4)]) (st' := [.int 0, .ref s0]) cd_106_59 rfl rfl ?_
  exact ok_106_60 hr5 h
noncomputable def f_106_23 (K : Nat → Value) (k d : Nat) (r5 : Nat → Int32 → aW → aI → aJ → Option aR) (l0 : Nat) (l1 : Int32) (w : aW) (I : aI) (J : aJ) : Option aR :=
  gO w 6 l0 (
  cI (Cl K d 94 [.ref l0, .int 43] w I J) fun x_4 w_1 I_2 J_3 =>
  gO w_1 6 l0 (
  lt_ (I_2 l0 22) fun x_5 =>
  gO w_1 6 l0 (
  cV (Cl K d 84 [.ref l0] w_1 I_2 J_3) fun w_6 I_7 J_8 =>
  gO w_6 6 l0 (
  cI (Cl K d 107 [.ref l0] w_6 I_7 J_8) fun x_12 w_9 I_10 J_11 =>
  if ¬ l1 = 0 then
    f_106_59 K k d r5 l0 l1 x_4 x_5 x_12 l0 w_9 I_10 J_11
  else
    if ¬ x_12 = 0 then
      f_106_59 K k d r5 l0 l1 x_4 x_5 x_12 l0 w_9 I_10 J_11
    else
      f_106_60 K k d r5 l0 l1 x_4 x_5 x_12 l0 1 w_9 I_10 J_11))))
theorem ok_106_23 {K : Nat → Value} {k d : Nat} {r5 : Nat → Int32 → aW → aI → aJ → Option aR} (hr5 : ∀ (l0 : Nat) (l1 : Int32) (w : aW) (I : aI) (J : aJ) (R : aR), r5 l0 l1 w I J = some R → Go K (d + 1) 106 5 [some (.ref l0), some (.int l1), none, none, none] [] w I J R) {l0 : Nat} {l1 : Int32} {w : aW} {I : aI} {J : aJ} {R : aR} (h : f_106_23 K k d r5 l0 l1 w I J = some R) : Go K (d + 1) 106 23 [some (.ref l0), some (.int l1), none, none, none] [] w I J R := by
  unfold f_106_23 at h
  refine gs_0 (pc' := 24) (L' := [some (.ref l0), some (.int l1), none, none, none]) (st' := [.ref l0]) cd_106_23 rfl rfl ?_
  refine gs_0 (pc' := 26) (L' := [some (.ref l0), some (.int l1), none, none, none]) (st' := [.int 43, .ref l0]) cd_106_24 rfl rfl ?_
  obtain ⟨ht, h⟩ := gO_s h
  obtain ⟨x_4, w_1, I_2, J_3, hcl, h⟩ := cI_s h
  refine gs_call (as := [.ref l0, .int 43]) (rest := []) cd_106_26 rfl (by decide) rfl (sm_rv_ok (by decide) ht) (Nat.le_of_ble_eq_true rfl) (Nat.le_of_ble_eq_true rfl) rfl hcl ?_
  refine gs_0 (pc' := 30) (L' := [some (.ref l0), some (.int l1), some (.int x_4), none, none]) (st' := []) cd_106_29 rfl rfl ?_
  refine gs_0 (pc' := 31) (L' := [some (.ref l0), some (.int l1), some (.int x_4), none, none]) (st' := [.ref l0]) cd_106_30 rfl rfl ?_
  obtain ⟨ht, h⟩ := gO_s h
  refine gs_gfI cd_106_31 (by decide) (by decide) ht ?_
  refine gs_0 (pc' := 35) (L' := [some (.ref l0), some (.int l1), some (.int x_4), some (.int (I_2 l0 22)), none]) (st' := []) cd_106_34 rfl rfl ?_
  obtain ⟨x_5, hx, h⟩ := lt_s_ h
  rw [hx]
  clear hx
  refine gs_0 (pc' := 36) (L' := [some (.ref l0), some (.int l1), some (.int x_4), some (.int x_5), none]) (st' := [.ref l0]) cd_106_35 rfl rfl ?_
  obtain ⟨ht, h⟩ := gO_s h
  obtain ⟨w_6, I_7, J_8, hcl, h⟩ := cV_s h
  refine gs_call (as := [.ref l0]) (rest := []) cd_106_36 rfl (by decide) rfl (sm_rv_ok (by decide) ht) (Nat.le_of_ble_eq_true rfl) (Nat.le_of_ble_eq_true rfl) rfl hcl ?_
  refine gs_0 (pc' := 40) (L' := [some (.ref l0), some (.int l1), some (.int x_4), some (.int x_5), none]) (st' := [.ref l0]) cd_106_39 rfl rfl ?_
  obtain ⟨ht, h⟩ := gO_s h
  obtain ⟨x_12, w_9, I_10, J_11, hcl, h⟩ := cI_s h
  refine gs_call (as := [.ref l0]) (rest := []) cd_106_40 rfl (by decide) rfl (sm_rv_ok (by decide) ht) (Nat.le_of_ble_eq_true rfl) (Nat.le_of_ble_eq_true rfl) rfl hcl ?_
  refine gs_0 (pc' := 45) (L' := [some (.ref l0), some (.int l1), some (.int x_4), some (.int x_5), some (.int x_12)]) (st' := []) cd_106_43 rfl rfl ?_
  refine gs_0 (pc' := 46) (L' := [some (.ref l0), some (.int l1), some (.int x_4), some (.int x_5), some (.int x_12)]) (st' := [.ref l0]) cd_106_45 rfl rfl ?_
  refine gs_0 (pc' := 47) (L' := [some (.ref l0), some (.int l1), some (.int x_4), some (.int x_5), some (.int x_12)]) (st' := [.int l1, .ref l0]) cd_106_46 rfl rfl ?_
  refine gs_0 (pc' := if ¬ l1 = 0 then 59 else 50) (L' := [some (.ref l0), some (.int l1), some (.int x_4), some (.int x_5), some (.int x_12)]) (st' := [.ref l0]) cd_106_47 rfl rfl ?_
  refine go_ite (fun hc => ?_) (fun hc => ?_)
  · rw [if_pos hc] at h
    exact ok_106_59 hr5 h
  · rw [if_neg hc] at h
    refine gs_0 (pc' := 52) (L' := [some (.ref l0), some (.int l1), some (.int x_4), some (.int x_5), some (.int x_12)]) (st' := [.int x_12, .ref l0]) cd_106_50 rfl rfl ?_
    refine gs_0 (pc' := if ¬ x_12 = 0 then 59 else 55) (L' := [some (.ref l0), some (.int l1), some (.int x_4), some (.int x_5), some (.int x_12)]) (st' := [.ref l0]) cd_106_52 rfl rfl ?_
    refine go_ite (fun hc => ?_) (fun hc => ?_)
    · rw [if_pos hc] at h
      exact ok_106_59 hr5 h
    · rw [if_neg hc] at h
      refine gs_0 (pc' := 56) (L' := [some (.ref l0), some (.int l1), some (.int x_4), some (.int x_5), some (.int x_12)]) (st' := [.int 1, .ref l0]) cd_106_55 rfl rfl ?_
      refine gs_0 (pc' := 60) (L' := [some (.ref l0), some (.int l1), some (.int x_4), some (.int x_5), some (.int x_12)]) (st' := [.int 1, .ref l0]) cd_106_56 rfl rfl ?_
      exact ok_106_60 hr5 h
noncomputable def f_106_5 (K : Nat → Value) (k : Nat) (d : Nat) : Nat → Int32 → aW → aI → aJ → Option aR :=
  match k with
  | 0 => fun _ _ _ _ _ => none
  | k + 1 => fun l0 l1 w I J =>
  lt_ (f_106_5 K k d) fun r5 =>
  gO w 6 l0 (
  cI (Cl K d 94 [.ref l0, .int 43] w I J) fun x_4 w_1 I_2 J_3 =>
  if ¬ x_4 = 0 then
    f_106_23 K k d r5 l0 l1 w_1 I_2 J_3
  else
    gO w_1 6 l0 (
    cI (Cl K d 94 [.ref l0, .int 45] w_1 I_2 J_3) fun x_8 w_5 I_6 J_7 =>
    if x_8 = 0 then
      some (some (.int l1), w_5, I_6, J_7)
    else
      f_106_23 K k d r5 l0 l1 w_5 I_6 J_7))
theorem ok_106_5 {K : Nat → Value} {d : Nat} : ∀ {k : Nat} {l0 : Nat} {l1 : Int32} {w : aW} {I : aI} {J : aJ} {R : aR}, f_106_5 K k d l0 l1 w I J = some R → Go K (d + 1) 106 5 [some (.ref l0), some (.int l1), none, none, none] [] w I J R := by
  intro k
  induction k with
  | zero => intro l0 l1 w I J R h; cases h
  | succ k ih =>
    intro l0 l1 w I J R h
    have hr5 : ∀ (l0 : Nat) (l1 : Int32) (w : aW) (I : aI) (J : aJ) (R : aR), f_106_5 K k d l0 l1 w I J = some R → Go K (d + 1) 106 5 [some (.ref l0), some (.int l1), none, none, none] [] w I J R := fun l0 l1 w I J R h => ih h
    rw [f_106_5] at h
    obtain ⟨r5, hx, h⟩ := lt_s_ h
    rw [hx] at hr5
    clear hx ih
    refine gs_0 (pc' := 6) (L' := [some (.ref l0), some (.int l1), none, none, none]) (st' := [.ref l0]) cd_106_5 rfl rfl ?_
    refine gs_0 (pc' := 8) (L' := [some (.ref l0), some (.int l1), none, none, none]) (st' := [.int 43, .ref l0]) cd_106_6 rfl rfl ?_
    obtain ⟨ht, h⟩ := gO_s h
    obtain ⟨x_4, w_1, I_2, J_3, hcl, h⟩ := cI_s h
    refine gs_call (as := [.ref l0, .int 43]) (rest := []) cd_106_8 rfl (by decide) rfl (sm_rv_ok (by decide) ht) (Nat.le_of_ble_eq_true rfl) (Nat.le_of_ble_eq_true rfl) rfl hcl ?_
    refine gs_0 (pc' := if ¬ x_4 = 0 then 23 else 14) (L' := [some (.ref l0), some (.int l1), none, none, none]) (st' := []) cd_106_11 rfl rfl ?_
    refine go_ite (fun hc => ?_) (fun hc => ?_)
    · rw [if_pos hc] at h
      exact ok_106_23 hr5 h
    · rw [if_neg hc] at h
      refine gs_0 (pc' := 15) (L' := [some (.ref l0), some (.int l1), none, none, none]) (st' := [.ref l0]) cd_106_14 rfl rfl ?_
      refine gs_0 (pc' := 17) (L' := [some (.ref l0), some (.int l1), none, none, none]) (st' := [.int 45, .ref l0]) cd_106_15 rfl rfl ?_
      obtain ⟨ht, h⟩ := gO_s h
      obtain ⟨x_8, w_5, I_6, J_7, hcl, h⟩ := cI_s h
      refine gs_call (as := [.ref l0, .int 45]) (rest := []) cd_106_17 rfl (by decide) rfl (sm_rv_ok (by decide) ht) (Nat.le_of_ble_eq_true rfl) (Nat.le_of_ble_eq_true rfl) rfl hcl ?_
      refine gs_0 (pc' := if x_8 = 0 then 85 else 23) (L' := [some (.ref l0), some (.int l1), none, none, none]) (st' := []) cd_106_20 rfl rfl ?_
      refine go_ite (fun hc => ?_) (fun hc => ?_)
      · rw [if_pos hc] at h
        refine gs_0 (pc' := 86) (L' := [some (.ref l0), some (.int l1), none, none, none]) (st' := [.int l1]) cd_106_85 rfl rfl ?_
        cases h
        exact gs_ri cd_106_86 (Or.inl rfl)
      · rw [if_neg hc] at h
        exact ok_106_23 hr5 h
noncomputable def f_106 (K : Nat → Value) (k d : Nat) (l0 : Nat) (w : aW) (I : aI) (J : aJ) : Option aR :=
  gO w 6 l0 (
  cI (Cl K d 107 [.ref l0] w I J) fun x_4 w_1 I_2 J_3 =>
  f_106_5 K k d l0 x_4 w_1 I_2 J_3)
theorem ok_106 {K : Nat → Value} {k d : Nat} {l0 : Nat} {w : aW} {I : aI} {J : aJ} {R : aR} (h : f_106 K k d l0 w I J = some R) : Go K (d + 1) 106 0 [some (.ref l0), none, none, none, none] [] w I J R := by
  unfold f_106 at h
  refine gs_0 (pc' := 1) (L' := [some (.ref l0), none, none, none, none]) (st' := [.ref l0]) cd_106_0 rfl rfl ?_
  obtain ⟨ht, h⟩ := gO_s h
  obtain ⟨x_4, w_1, I_2, J_3, hcl, h⟩ := cI_s h
  refine gs_call (as := [.ref l0]) (rest := []) cd_106_1 rfl (by decide) rfl (sm_rv_ok (by decide) ht) (Nat.le_of_ble_eq_true rfl) (Nat.le_of_ble_eq_true rfl) rfl hcl ?_
  refine gs_0 (pc' := 5) (L' := [some (.ref l0), some (.int x_4), none, none, none]) (st' := []) cd_106_4 rfl rfl ?_
  exact ok_106_5 h
theorem cl_106 {K : Nat → Value} {k d : Nat} {l0 : Nat} {w : aW} {I : aI} {J : aJ} {R : aR} (h : f_106 K k d l0 w I J = some R) : Cl K (d + 1) 106 [.ref l0] w I J = some R := Cl_of (ok_106 h)

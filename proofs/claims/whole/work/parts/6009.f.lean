/-! methods as functions, by own program (wip/whole/gen_f.py) -/
/-! ProvedMachine.now(I)J -/
set_option maxRecDepth 20000 in
theorem gl_200 : gcd.lookup 200 = some gw_200 := rfl
theorem cd_200_0 : sm_cd 200 0 = some (.aload_n 0, 1, 0, 0, 0, 0, 0, 0, 0) := cd_of gl_200 rfl
theorem cd_200_1 : sm_cd 200 1 = some (.getfield 40, 3, 5, 5, 1, 0, 0, 0, 0) := cd_of gl_200 rfl
theorem cd_200_4 : sm_cd 200 4 = some (.ifCond .ne 10, 3, 14, 0, 0, 0, 0, 0, 0) := cd_of gl_200 rfl
theorem cd_200_7 : sm_cd 200 7 = some (.aload_n 0, 1, 0, 0, 0, 0, 0, 0, 0) := cd_of gl_200 rfl
theorem cd_200_8 : sm_cd 200 8 = some (.bipush 6, 2, 0, 0, 0, 0, 0, 6, 0) := cd_of gl_200 rfl
theorem cd_200_10 : sm_cd 200 10 = some (.invokevirtual 60, 3, 17, 0, 1, 2, 5, 0, 0) := cd_of gl_200 rfl
theorem cd_200_13 : sm_cd 200 13 = some (.lreturn, 1, 0, 0, 0, 0, 0, 0, 0) := cd_of gl_200 rfl
theorem cd_200_14 : sm_cd 200 14 = some (.iload_n 1, 1, 1, 0, 0, 0, 0, 0, 0) := cd_of gl_200 rfl
theorem cd_200_15 : sm_cd 200 15 = some (.tableswitch 150 0 8 #[49, 59, 82, 92, 102, 112, 122, 131, 141], 49, 0, 0, 0, 0, 0, 0, 0) := cd_of gl_200 rfl
theorem cd_200_64 : sm_cd 200 64 = some (.aload_n 0, 1, 0, 0, 0, 0, 0, 0, 0) := cd_of gl_200 rfl
theorem cd_200_65 : sm_cd 200 65 = some (.getfield 36, 3, 5, 4, 2, 0, 0, 0, 0) := cd_of gl_200 rfl
theorem cd_200_68 : sm_cd 200 68 = some (.iconst 0, 1, 0, 0, 0, 0, 0, 0, 0) := cd_of gl_200 rfl
theorem cd_200_69 : sm_cd 200 69 = some (.invokevirtual 131, 3, 147, 0, 1, 2, 0, 0, 0) := cd_of gl_200 rfl
theorem cd_200_72 : sm_cd 200 72 = some (.i2l, 1, 0, 0, 0, 0, 0, 0, 0) := cd_of gl_200 rfl
theorem cd_200_73 : sm_cd 200 73 = some (.lreturn, 1, 0, 0, 0, 0, 0, 0, 0) := cd_of gl_200 rfl
theorem cd_200_74 : sm_cd 200 74 = some (.aload_n 0, 1, 0, 0, 0, 0, 0, 0, 0) := cd_of gl_200 rfl
theorem cd_200_75 : sm_cd 200 75 = some (.getfield 36, 3, 5, 4, 2, 0, 0, 0, 0) := cd_of gl_200 rfl
theorem cd_200_78 : sm_cd 200 78 = some (.invokevirtual 133, 3, 201, 0, 0, 1, 0, 0, 0) := cd_of gl_200 rfl
theorem cd_200_81 : sm_cd 200 81 = some (.ifCond .eq 7, 3, 88, 0, 0, 0, 0, 0, 0) := cd_of gl_200 rfl
theorem cd_200_84 : sm_cd 200 84 = some (.lconst 0, 1, 0, 0, 0, 0, 0, 0, 0) := cd_of gl_200 rfl
theorem cd_200_85 : sm_cd 200 85 = some (.goto 11, 3, 96, 0, 0, 0, 0, 0, 0) := cd_of gl_200 rfl
theorem cd_200_88 : sm_cd 200 88 = some (.aload_n 0, 1, 0, 0, 0, 0, 0, 0, 0) := cd_of gl_200 rfl
theorem cd_200_89 : sm_cd 200 89 = some (.getfield 36, 3, 5, 4, 2, 0, 0, 0, 0) := cd_of gl_200 rfl
theorem cd_200_92 : sm_cd 200 92 = some (.invokevirtual 136, 3, 145, 0, 0, 1, 0, 0, 0) := cd_of gl_200 rfl
theorem cd_200_95 : sm_cd 200 95 = some (.i2l, 1, 0, 0, 0, 0, 0, 0, 0) := cd_of gl_200 rfl
theorem cd_200_96 : sm_cd 200 96 = some (.lreturn, 1, 0, 0, 0, 0, 0, 0, 0) := cd_of gl_200 rfl
theorem cd_200_97 : sm_cd 200 97 = some (.aload_n 0, 1, 0, 0, 0, 0, 0, 0, 0) := cd_of gl_200 rfl
theorem cd_200_98 : sm_cd 200 98 = some (.getfield 36, 3, 5, 4, 2, 0, 0, 0, 0) := cd_of gl_200 rfl
theorem cd_200_101 : sm_cd 200 101 = some (.iconst 4, 1, 0, 0, 0, 0, 0, 4, 0) := cd_of gl_200 rfl
theorem cd_200_102 : sm_cd 200 102 = some (.invokevirtual 131, 3, 147, 0, 1, 2, 0, 0, 0) := cd_of gl_200 rfl
theorem cd_200_105 : sm_cd 200 105 = some (.i2l, 1, 0, 0, 0, 0, 0, 0, 0) := cd_of gl_200 rfl
theorem cd_200_106 : sm_cd 200 106 = some (.lreturn, 1, 0, 0, 0, 0, 0, 0, 0) := cd_of gl_200 rfl
theorem cd_200_107 : sm_cd 200 107 = some (.aload_n 0, 1, 0, 0, 0, 0, 0, 0, 0) := cd_of gl_200 rfl
theorem cd_200_108 : sm_cd 200 108 = some (.getfield 36, 3, 5, 4, 2, 0, 0, 0, 0) := cd_of gl_200 rfl
theorem cd_200_111 : sm_cd 200 111 = some (.iconst 3, 1, 0, 0, 0, 0, 0, 3, 0) := cd_of gl_200 rfl
theorem cd_200_112 : sm_cd 200 112 = some (.invokevirtual 131, 3, 147, 0, 1, 2, 0, 0, 0) := cd_of gl_200 rfl
theorem cd_200_115 : sm_cd 200 115 = some (.i2l, 1, 0, 0, 0, 0, 0, 0, 0) := cd_of gl_200 rfl
theorem cd_200_116 : sm_cd 200 116 = some (.lreturn, 1, 0, 0, 0, 0, 0, 0, 0) := cd_of gl_200 rfl
theorem cd_200_117 : sm_cd 200 117 = some (.aload_n 0, 1, 0, 0, 0, 0, 0, 0, 0) := cd_of gl_200 rfl
theorem cd_200_118 : sm_cd 200 118 = some (.getfield 36, 3, 5, 4, 2, 0, 0, 0, 0) := cd_of gl_200 rfl
theorem cd_200_121 : sm_cd 200 121 = some (.iconst 5, 1, 0, 0, 0, 0, 0, 5, 0) := cd_of gl_200 rfl
theorem cd_200_122 : sm_cd 200 122 = some (.invokevirtual 131, 3, 147, 0, 1, 2, 0, 0, 0) := cd_of gl_200 rfl
theorem cd_200_125 : sm_cd 200 125 = some (.i2l, 1, 0, 0, 0, 0, 0, 0, 0) := cd_of gl_200 rfl
theorem cd_200_126 : sm_cd 200 126 = some (.lreturn, 1, 0, 0, 0, 0, 0, 0, 0) := cd_of gl_200 rfl
theorem cd_200_127 : sm_cd 200 127 = some (.aload_n 0, 1, 0, 0, 0, 0, 0, 0, 0) := cd_of gl_200 rfl
theorem cd_200_128 : sm_cd 200 128 = some (.getfield 36, 3, 5, 4, 2, 0, 0, 0, 0) := cd_of gl_200 rfl
theorem cd_200_131 : sm_cd 200 131 = some (.iconst 1, 1, 0, 0, 0, 0, 0, 1, 0) := cd_of gl_200 rfl
theorem cd_200_132 : sm_cd 200 132 = some (.invokevirtual 131, 3, 147, 0, 1, 2, 0, 0, 0) := cd_of gl_200 rfl
theorem cd_200_135 : sm_cd 200 135 = some (.i2l, 1, 0, 0, 0, 0, 0, 0, 0) := cd_of gl_200 rfl
theorem cd_200_136 : sm_cd 200 136 = some (.lreturn, 1, 0, 0, 0, 0, 0, 0, 0) := cd_of gl_200 rfl
theorem cd_200_137 : sm_cd 200 137 = some (.aload_n 0, 1, 0, 0, 0, 0, 0, 0, 0) := cd_of gl_200 rfl
theorem cd_200_138 : sm_cd 200 138 = some (.getfield 36, 3, 5, 4, 2, 0, 0, 0, 0) := cd_of gl_200 rfl
theorem cd_200_141 : sm_cd 200 141 = some (.invokevirtual 139, 3, 202, 0, 0, 3, 0, 0, 0) := cd_of gl_200 rfl
theorem cd_200_144 : sm_cd 200 144 = some (.i2l, 1, 0, 0, 0, 0, 0, 0, 0) := cd_of gl_200 rfl
theorem cd_200_145 : sm_cd 200 145 = some (.lreturn, 1, 0, 0, 0, 0, 0, 0, 0) := cd_of gl_200 rfl
theorem cd_200_146 : sm_cd 200 146 = some (.aload_n 0, 1, 0, 0, 0, 0, 0, 0, 0) := cd_of gl_200 rfl
theorem cd_200_147 : sm_cd 200 147 = some (.getfield 36, 3, 5, 4, 2, 0, 0, 0, 0) := cd_of gl_200 rfl
theorem cd_200_150 : sm_cd 200 150 = some (.iconst 2, 1, 0, 0, 0, 0, 0, 2, 0) := cd_of gl_200 rfl
theorem cd_200_151 : sm_cd 200 151 = some (.invokevirtual 131, 3, 147, 0, 1, 2, 0, 0, 0) := cd_of gl_200 rfl
theorem cd_200_154 : sm_cd 200 154 = some (.i2l, 1, 0, 0, 0, 0, 0, 0, 0) := cd_of gl_200 rfl
theorem cd_200_155 : sm_cd 200 155 = some (.lreturn, 1, 0, 0, 0, 0, 0, 0, 0) := cd_of gl_200 rfl
theorem cd_200_156 : sm_cd 200 156 = some (.aload_n 0, 1, 0, 0, 0, 0, 0, 0, 0) := cd_of gl_200 rfl
theorem cd_200_157 : sm_cd 200 157 = some (.getfield 36, 3, 5, 4, 2, 0, 0, 0, 0) := cd_of gl_200 rfl
theorem cd_200_160 : sm_cd 200 160 = some (.getfield 120, 3, 0, 8, 0, 1, 0, 0, 0) := cd_of gl_200 rfl
theorem cd_200_163 : sm_cd 200 163 = some (.i2l, 1, 0, 0, 0, 0, 0, 0, 0) := cd_of gl_200 rfl
theorem cd_200_164 : sm_cd 200 164 = some (.lreturn, 1, 0, 0, 0, 0, 0, 0, 0) := cd_of gl_200 rfl
theorem cd_200_165 : sm_cd 200 165 = some (.aload_n 0, 1, 0, 0, 0, 0, 0, 0, 0) := cd_of gl_200 rfl
theorem cd_200_166 : sm_cd 200 166 = some (.iconst 1, 1, 0, 0, 0, 0, 0, 1, 0) := cd_of gl_200 rfl
theorem cd_200_167 : sm_cd 200 167 = some (.invokevirtual 60, 3, 17, 0, 1, 2, 5, 0, 0) := cd_of gl_200 rfl
theorem cd_200_170 : sm_cd 200 170 = some (.lreturn, 1, 0, 0, 0, 0, 0, 0, 0) := cd_of gl_200 rfl
theorem sw_200_15_0 {K : Nat → Value} {L : aL} {st : List Value} {w : aW} {I : aI} {J : aJ} {x : Int32} (h : x = 0) : sm_stp K (.tableswitch 150 0 8 #[49, 59, 82, 92, 102, 112, 122, 131, 141], 49, 0, 0, 0, 0, 0, 0, 0) 15 L (.int x :: st) w I J = some (64, L, st, w, I, J) := by subst h; rfl
theorem sw_200_15_1 {K : Nat → Value} {L : aL} {st : List Value} {w : aW} {I : aI} {J : aJ} {x : Int32} (h : x = 1) : sm_stp K (.tableswitch 150 0 8 #[49, 59, 82, 92, 102, 112, 122, 131, 141], 49, 0, 0, 0, 0, 0, 0, 0) 15 L (.int x :: st) w I J = some (74, L, st, w, I, J) := by subst h; rfl
theorem sw_200_15_2 {K : Nat → Value} {L : aL} {st : List Value} {w : aW} {I : aI} {J : aJ} {x : Int32} (h : x = 2) : sm_stp K (.tableswitch 150 0 8 #[49, 59, 82, 92, 102, 112, 122, 131, 141], 49, 0, 0, 0, 0, 0, 0, 0) 15 L (.int x :: st) w I J = some (97, L, st, w, I, J) := by subst h; rfl
theorem sw_200_15_3 {K : Nat → Value} {L : aL} {st : List Value} {w : aW} {I : aI} {J : aJ} {x : Int32} (h : x = 3) : sm_stp K (.tableswitch 150 0 8 #[49, 59, 82, 92, 102, 112, 122, 131, 141], 49, 0, 0, 0, 0, 0, 0, 0) 15 L (.int x :: st) w I J = some (107, L, st, w, I, J) := by subst h; rfl
theorem sw_200_15_4 {K : Nat → Value} {L : aL} {st : List Value} {w : aW} {I : aI} {J : aJ} {x : Int32} (h : x = 4) : sm_stp K (.tableswitch 150 0 8 #[49, 59, 82, 92, 102, 112, 122, 131, 141], 49, 0, 0, 0, 0, 0, 0, 0) 15 L (.int x :: st) w I J = some (117, L, st, w, I, J) := by subst h; rfl
theorem sw_200_15_5 {K : Nat → Value} {L : aL} {st : List Value} {w : aW} {I : aI} {J : aJ} {x : Int32} (h : x = 5) : sm_stp K (.tableswitch 150 0 8 #[49, 59, 82, 92, 102, 112, 122, 131, 141], 49, 0, 0, 0, 0, 0, 0, 0) 15 L (.int x :: st) w I J = some (127, L, st, w, I, J) := by subst h; rfl
theorem sw_200_15_6 {K : Nat → Value} {L : aL} {st : List Value} {w : aW} {I : aI} {J : aJ} {x : Int32} (h : x = 6) : sm_stp K (.tableswitch 150 0 8 #[49, 59, 82, 92, 102, 112, 122, 131, 141], 49, 0, 0, 0, 0, 0, 0, 0) 15 L (.int x :: st) w I J = some (137, L, st, w, I, J) := by subst h; rfl
theorem sw_200_15_7 {K : Nat → Value} {L : aL} {st : List Value} {w : aW} {I : aI} {J : aJ} {x : Int32} (h : x = 7) : sm_stp K (.tableswitch 150 0 8 #[49, 59, 82, 92, 102, 112, 122, 131, 141], 49, 0, 0, 0, 0, 0, 0, 0) 15 L (.int x :: st) w I J = some (146, L, st, w, I, J) := by subst h; rfl
theorem sw_200_15_8 {K : Nat → Value} {L : aL} {st : List Value} {w : aW} {I : aI} {J : aJ} {x : Int32} (h : x = 8) : sm_stp K (.tableswitch 150 0 8 #[49, 59, 82, 92, 102, 112, 122, 131, 141], 49, 0, 0, 0, 0, 0, 0, 0) 15 L (.int x :: st) w I J = some (156, L, st, w, I, J) := by subst h; rfl
theorem sw_200_15_d {K : Nat → Value} {L : aL} {st : List Value} {w : aW} {I : aI} {J : aJ} {x : Int32} (h0 : ¬ x = 0) (h1 : ¬ x = 1) (h2 : ¬ x = 2) (h3 : ¬ x = 3) (h4 : ¬ x = 4) (h5 : ¬ x = 5) (h6 : ¬ x = 6) (h7 : ¬ x = 7) (h8 : ¬ x = 8) : sm_stp K (.tableswitch 150 0 8 #[49, 59, 82, 92, 102, 112, 122, 131, 141], 49, 0, 0, 0, 0, 0, 0, 0) 15 L (.int x :: st) w I J = some (165, L, st, w, I, J) := by
  have e : sm_swt 15 150 0 8 #[49, 59, 82, 92, 102, 112, 122, 131, 141] x = some 165 := by
    unfold sm_swt
    split
    · rfl
    · rename_i hn
      exfalso
      have ha : ¬ x.toInt < 0 := fun q => hn (Or.inl q)
      have hb : ¬ 8 < x.toInt := fun q => hn (Or.inr q)
      have g0 : ¬ x.toInt = 0 := fun q => h0 (Int32.toInt_inj.mp q)
      have g1 : ¬ x.toInt = 1 := fun q => h1 (Int32.toInt_inj.mp q)
      have g2 : ¬ x.toInt = 2 := fun q => h2 (Int32.toInt_inj.mp q)
      have g3 : ¬ x.toInt = 3 := fun q => h3 (Int32.toInt_inj.mp q)
      have g4 : ¬ x.toInt = 4 := fun q => h4 (Int32.toInt_inj.mp q)
      have g5 : ¬ x.toInt = 5 := fun q => h5 (Int32.toInt_inj.mp q)
      have g6 : ¬ x.toInt = 6 := fun q => h6 (Int32.toInt_inj.mp q)
      have g7 : ¬ x.toInt = 7 := fun q => h7 (Int32.toInt_inj.mp q)
      have g8 : ¬ x.toInt = 8 := fun q => h8 (Int32.toInt_inj.mp q)
      omega
  simp only [sm_stp, e, sm_jm]
noncomputable def f_200 (K : Nat → Value) (k d : Nat) (l0 : Nat) (l1 : Int32) (w : aW) (I : aI) (J : aJ) : Option aR :=
  gO w 5 l0 (
  if ¬ (I l0 5) = 0 then
    if l1 = 0 then
      gO w 5 l0 (
      gV w l0 4 fun q_1 =>
      gO w 0 q_1 (
      cI (Cl K d 147 [.ref q_1, .int 0] w I J) fun x_5 w_2 I_3 J_4 =>
      some (some (.long ((x_5 : Int32).toInt64)), w_2, I_3, J_4)))
    else
    if l1 = 1 then
      gO w 5 l0 (
      gV w l0 4 fun q_6 =>
      gO w 0 q_6 (
      cI (Cl K d 201 [.ref q_6] w I J) fun x_10 w_7 I_8 J_9 =>
      if x_10 = 0 then
        gO w_7 5 l0 (
        gV w_7 l0 4 fun q_11 =>
        gO w_7 0 q_11 (
        cI (Cl K d 145 [.ref q_11] w_7 I_8 J_9) fun x_15 w_12 I_13 J_14 =>
        some (some (.long ((x_15 : Int32).toInt64)), w_12, I_13, J_14)))
      else
        some (some (.long 0), w_7, I_8, J_9)))
    else
    if l1 = 2 then
      gO w 5 l0 (
      gV w l0 4 fun q_16 =>
      gO w 0 q_16 (
      cI (Cl K d 147 [.ref q_16, .int 4] w I J) fun x_20 w_17 I_18 J_19 =>
      some (some (.long ((x_20 : Int32).toInt64)), w_17, I_18, J_19)))
    else
    if l1 = 3 then
      gO w 5 l0 (
      gV w l0 4 fun q_21 =>
      gO w 0 q_21 (
      cI (Cl K d 147 [.ref q_21, .int 3] w I J) fun x_25 w_22 I_23 J_24 =>
      some (some (.long ((x_25 : Int32).toInt64)), w_22, I_23, J_24)))
    else
    if l1 = 4 then
      gO w 5 l0 (
      gV w l0 4 fun q_26 =>
      gO w 0 q_26 (
      cI (Cl K d 147 [.ref q_26, .int 5] w I J) fun x_30 w_27 I_28 J_29 =>
      some (some (.long ((x_30 : Int32).toInt64)), w_27, I_28, J_29)))
    else
    if l1 = 5 then
      gO w 5 l0 (
      gV w l0 4 fun q_31 =>
      gO w 0 q_31 (
      cI (Cl K d 147 [.ref q_31, .int 1] w I J) fun x_35 w_32 I_33 J_34 =>
      some (some (.long ((x_35 : Int32).toInt64)), w_32, I_33, J_34)))
    else
    if l1 = 6 then
      gO w 5 l0 (
      gV w l0 4 fun q_36 =>
      gO w 0 q_36 (
      cI (Cl K d 202 [.ref q_36] w I J) fun x_40 w_37 I_38 J_39 =>
      some (some (.long ((x_40 : Int32).toInt64)), w_37, I_38, J_39)))
    else
    if l1 = 7 then
      gO w 5 l0 (
      gV w l0 4 fun q_41 =>
      gO w 0 q_41 (
      cI (Cl K d 147 [.ref q_41, .int 2] w I J) fun x_45 w_42 I_43 J_44 =>
      some (some (.long ((x_45 : Int32).toInt64)), w_42, I_43, J_44)))
    else
    if l1 = 8 then
      gO w 5 l0 (
      gV w l0 4 fun q_46 =>
      gO w 0 q_46 (
      some (some (.long ((I q_46 8 : Int32).toInt64)), w, I, J)))
    else
    gO w 5 l0 (
    cJ (Cl K d 17 [.ref l0, .int 1] w I J) fun v_50 w_47 I_48 J_49 =>
    some (some (.long v_50), w_47, I_48, J_49))
  else
    gO w 5 l0 (
    cJ (Cl K d 17 [.ref l0, .int 6] w I J) fun v_54 w_51 I_52 J_53 =>
    some (some (.long v_54), w_51, I_52, J_53)))
theorem ok_200 {K : Nat → Value} {k d : Nat} {l0 : Nat} {l1 : Int32} {w : aW} {I : aI} {J : aJ} {R : aR} (h : f_200 K k d l0 l1 w I J = some R) : Go K (d + 1) 200 0 [some (.ref l0), some (.int l1)] [] w I J R := by
  unfold f_200 at h
  refine gs_0 (pc' := 1) (L' := [some (.ref l0), some (.int l1)]) (st' := [.ref l0]) cd_200_0 rfl rfl ?_
  obtain ⟨ht, h⟩ := gO_s h
  refine gs_gfI cd_200_1 (by decide) (by decide) ht ?_
  refine gs_0 (pc' := if ¬ (I l0 5) = 0 then 14 else 7) (L' := [some (.ref l0), some (.int l1)]) (st' := []) cd_200_4 rfl rfl ?_
  refine go_ite (fun hc => ?_) (fun hc => ?_)
  · rw [if_pos hc] at h
    refine gs_0 (pc' := 15) (L' := [some (.ref l0), some (.int l1)]) (st' := [.int l1]) cd_200_14 rfl rfl ?_
    by_cases hc0 : l1 = 0
    · rw [if_pos hc0] at h
      refine gs_0 (pc' := 64) (L' := [some (.ref l0), some (.int l1)]) (st' := []) cd_200_15 rfl (sw_200_15_0 hc0) ?_
      refine gs_0 (pc' := 65) (L' := [some (.ref l0), some (.int l1)]) (st' := [.ref l0]) cd_200_64 rfl rfl ?_
      obtain ⟨ht, h⟩ := gO_s h
      obtain ⟨q_1, hv, h⟩ := gV_s h
      refine gs_gfR cd_200_65 (by decide) ht hv ?_
      refine gs_0 (pc' := 69) (L' := [some (.ref l0), some (.int l1)]) (st' := [.int 0, .ref q_1]) cd_200_68 rfl rfl ?_
      obtain ⟨ht, h⟩ := gO_s h
      obtain ⟨x_5, w_2, I_3, J_4, hcl, h⟩ := cI_s h
      refine gs_call (as := [.ref q_1, .int 0]) (rest := []) cd_200_69 rfl (by decide) rfl (sm_rv_ok (by decide) ht) (Nat.le_of_ble_eq_true rfl) (Nat.le_of_ble_eq_true rfl) rfl hcl ?_
      refine gs_0 (pc' := 73) (L' := [some (.ref l0), some (.int l1)]) (st' := [.long ((x_5 : Int32).toInt64)]) cd_200_72 rfl rfl ?_
      cases h
      exact gsr cd_200_73 rfl rfl
    · rw [if_neg hc0] at h
      by_cases hc1 : l1 = 1
      · rw [if_pos hc1] at h
        refine gs_0 (pc' := 74) (L' := [some (.ref l0), some (.int l1)]) (st' := []) cd_200_15 rfl (sw_200_15_1 hc1) ?_
        refine gs_0 (pc' := 75) (L' := [some (.ref l0), some (.int l1)]) (st' := [.ref l0]) cd_200_74 rfl rfl ?_
        obtain ⟨ht, h⟩ := gO_s h
        obtain ⟨q_6, hv, h⟩ := gV_s h
        refine gs_gfR cd_200_75 (by decide) ht hv ?_
        obtain ⟨ht, h⟩ := gO_s h
        obtain ⟨x_10, w_7, I_8, J_9, hcl, h⟩ := cI_s h
        refine gs_call (as := [.ref q_6]) (rest := []) cd_200_78 rfl (by decide) rfl (sm_rv_ok (by decide) ht) (Nat.le_of_ble_eq_true rfl) (Nat.le_of_ble_eq_true rfl) rfl hcl ?_
        refine gs_0 (pc' := if x_10 = 0 then 88 else 84) (L' := [some (.ref l0), some (.int l1)]) (st' := []) cd_200_81 rfl rfl ?_
        refine go_ite (fun hc => ?_) (fun hc => ?_)
        · rw [if_pos hc] at h
          refine gs_0 (pc' := 89) (L' := [some (.ref l0), some (.int l1)]) (st' := [.ref l0]) cd_200_88 rfl rfl ?_
          obtain ⟨ht, h⟩ := gO_s h
          obtain ⟨q_11, hv, h⟩ := gV_s h
          refine gs_gfR cd_200_89 (by decide) ht hv ?_
          obtain ⟨ht, h⟩ := gO_s h
          obtain ⟨x_15, w_12, I_13, J_14, hcl, h⟩ := cI_s h
          refine gs_call (as := [.ref q_11]) (rest := []) cd_200_92 rfl (by decide) rfl (sm_rv_ok (by decide) ht) (Nat.le_of_ble_eq_true rfl) (Nat.le_of_ble_eq_true rfl) rfl hcl ?_
          refine gs_0 (pc' := 96) (L' := [some (.ref l0), some (.int l1)]) (st' := [.long ((x_15 : Int32).toInt64)]) cd_200_95 rfl rfl ?_
          cases h
          exact gsr cd_200_96 rfl rfl
        · rw [if_neg hc] at h
          refine gs_0 (pc' := 85) (L' := [some (.ref l0), some (.int l1)]) (st' := [.long 0]) cd_200_84 rfl rfl ?_
          refine gs_0 (pc' := 96) (L' := [some (.ref l0), some (.int l1)]) (st' := [.long 0]) cd_200_85 rfl rfl ?_
          cases h
          exact gsr cd_200_96 rfl rfl
      · rw [if_neg hc1] at h
        by_cases hc2 : l1 = 2
        · rw [if_pos hc2] at h
          refine gs_0 (pc' := 97) (L' := [some (.ref l0), some (.int l1)]) (st' := []) cd_200_15 rfl (sw_200_15_2 hc2) ?_
          refine gs_0 (pc' := 98) (L' := [some (.ref l0), some (.int l1)]) (st' := [.ref l0]) cd_200_97 rfl rfl ?_
          obtain ⟨ht, h⟩ := gO_s h
          obtain ⟨q_16, hv, h⟩ := gV_s h
          refine gs_gfR cd_200_98 (by decide) ht hv ?_
          refine gs_0 (pc' := 102) (L' := [some (.ref l0), some (.int l1)]) (st' := [.int 4, .ref q_16]) cd_200_101 rfl rfl ?_
          obtain ⟨ht, h⟩ := gO_s h
          obtain ⟨x_20, w_17, I_18, J_19, hcl, h⟩ := cI_s h
          refine gs_call (as := [.ref q_16, .int 4]) (rest := []) cd_200_102 rfl (by decide) rfl (sm_rv_ok (by decide) ht) (Nat.le_of_ble_eq_true rfl) (Nat.le_of_ble_eq_true rfl) rfl hcl ?_
          refine gs_0 (pc' := 106) (L' := [some (.ref l0), some (.int l1)]) (st' := [.long ((x_20 : Int32).toInt64)]) cd_200_105 rfl rfl ?_
          cases h
          exact gsr cd_200_106 rfl rfl
        · rw [if_neg hc2] at h
          by_cases hc3 : l1 = 3
          · rw [if_pos hc3] at h
            refine gs_0 (pc' := 107) (L' := [some (.ref l0), some (.int l1)]) (st' := []) cd_200_15 rfl (sw_200_15_3 hc3) ?_
            refine gs_0 (pc' := 108) (L' := [some (.ref l0), some (.int l1)]) (st' := [.ref l0]) cd_200_107 rfl rfl ?_
            obtain ⟨ht, h⟩ := gO_s h
            obtain ⟨q_21, hv, h⟩ := gV_s h
            refine gs_gfR cd_200_108 (by decide) ht hv ?_
            refine gs_0 (pc' := 112) (L' := [some (.ref l0), some (.int l1)]) (st' := [.int 3, .ref q_21]) cd_200_111 rfl rfl ?_
            obtain ⟨ht, h⟩ := gO_s h
            obtain ⟨x_25, w_22, I_23, J_24, hcl, h⟩ := cI_s h
            refine gs_call (as := [.ref q_21, .int 3]) (rest := []) cd_200_112 rfl (by decide) rfl (sm_rv_ok (by decide) ht) (Nat.le_of_ble_eq_true rfl) (Nat.le_of_ble_eq_true rfl) rfl hcl ?_
            refine gs_0 (pc' := 116) (L' := [some (.ref l0), some (.int l1)]) (st' := [.long ((x_25 : Int32).toInt64)]) cd_200_115 rfl rfl ?_
            cases h
            exact gsr cd_200_116 rfl rfl
          · rw [if_neg hc3] at h
            by_cases hc4 : l1 = 4
            · rw [if_pos hc4] at h
              refine gs_0 (pc' := 117) (L' := [some (.ref l0), some (.int l1)]) (st' := []) cd_200_15 rfl (sw_200_15_4 hc4) ?_
              refine gs_0 (pc' := 118) (L' := [some (.ref l0), some (.int l1)]) (st' := [.ref l0]) cd_200_117 rfl rfl ?_
              obtain ⟨ht, h⟩ := gO_s h
              obtain ⟨q_26, hv, h⟩ := gV_s h
              refine gs_gfR cd_200_118 (by decide) ht hv ?_
              refine gs_0 (pc' := 122) (L' := [some (.ref l0), some (.int l1)]) (st' := [.int 5, .ref q_26]) cd_200_121 rfl rfl ?_
              obtain ⟨ht, h⟩ := gO_s h
              obtain ⟨x_30, w_27, I_28, J_29, hcl, h⟩ := cI_s h
              refine gs_call (as := [.ref q_26, .int 5]) (rest := []) cd_200_122 rfl (by decide) rfl (sm_rv_ok (by decide) ht) (Nat.le_of_ble_eq_true rfl) (Nat.le_of_ble_eq_true rfl) rfl hcl ?_
              refine gs_0 (pc' := 126) (L' := [some (.ref l0), some (.int l1)]) (st' := [.long ((x_30 : Int32).toInt64)]) cd_200_125 rfl rfl ?_
              cases h
              exact gsr cd_200_126 rfl rfl
            · rw [if_neg hc4] at h
              by_cases hc5 : l1 = 5
              · rw [if_pos hc5] at h
                refine gs_0 (pc' := 127) (L' := [some (.ref l0), some (.int l1)]) (st' := []) cd_200_15 rfl (sw_200_15_5 hc5) ?_
                refine gs_0 (pc' := 128) (L' := [some (.ref l0), some (.int l1)]) (st' := [.ref l0]) cd_200_127 rfl rfl ?_
                obtain ⟨ht, h⟩ := gO_s h
                obtain ⟨q_31, hv, h⟩ := gV_s h
                refine gs_gfR cd_200_128 (by decide) ht hv ?_
                refine gs_0 (pc' := 132) (L' := [some (.ref l0), some (.int l1)]) (st' := [.int 1, .ref q_31]) cd_200_131 rfl rfl ?_
                obtain ⟨ht, h⟩ := gO_s h
                obtain ⟨x_35, w_32, I_33, J_34, hcl, h⟩ := cI_s h
                refine gs_call (as := [.ref q_31, .int 1]) (rest := []) cd_200_132 rfl (by decide) rfl (sm_rv_ok (by decide) ht) (Nat.le_of_ble_eq_true rfl) (Nat.le_of_ble_eq_true rfl) rfl hcl ?_
                refine gs_0 (pc' := 136) (L' := [some (.ref l0), some (.int l1)]) (st' := [.long ((x_35 : Int32).toInt64)]) cd_200_135 rfl rfl ?_
                cases h
                exact gsr cd_200_136 rfl rfl
              · rw [if_neg hc5] at h
                by_cases hc6 : l1 = 6
                · rw [if_pos hc6] at h
                  refine gs_0 (pc' := 137) (L' := [some (.ref l0), some (.int l1)]) (st' := []) cd_200_15 rfl (sw_200_15_6 hc6) ?_
                  refine gs_0 (pc' := 138) (L' := [some (.ref l0), some (.int l1)]) (st' := [.ref l0]) cd_200_137 rfl rfl ?_
                  obtain ⟨ht, h⟩ := gO_s h
                  obtain ⟨q_36, hv, h⟩ := gV_s h
                  refine gs_gfR cd_200_138 (by decide) ht hv ?_
                  obtain ⟨ht, h⟩ := gO_s h
                  obtain ⟨x_40, w_37, I_38, J_39, hcl, h⟩ := cI_s h
                  refine gs_call (as := [.ref q_36]) (rest := []) cd_200_141 rfl (by decide) rfl (sm_rv_ok (by decide) ht) (Nat.le_of_ble_eq_true rfl) (Nat.le_of_ble_eq_true rfl) rfl hcl ?_
                  refine gs_0 (pc' := 145) (L' := [some (.ref l0), some (.int l1)]) (st' := [.long ((x_40 : Int32).toInt64)]) cd_200_144 rfl rfl ?_
                  cases h
                  exact gsr cd_200_145 rfl rfl
                · rw [if_neg hc6] at h
                  by_cases hc7 : l1 = 7
                  · rw [if_pos hc7] at h
                    refine gs_0 (pc' := 146) (L' := [some (.ref l0), some (.int l1)]) (st' := []) cd_200_15 rfl (sw_200_15_7 hc7) ?_
                    refine gs_0 (pc' := 147) (L' := [some (.ref l0), some (.int l1)]) (st' := [.ref l0]) cd_200_146 rfl rfl ?_
                    obtain ⟨ht, h⟩ := gO_s h
                    obtain ⟨q_41, hv, h⟩ := gV_s h
                    refine gs_gfR cd_200_147 (by decide) ht hv ?_
                    refine gs_0 (pc' := 151) (L' := [some (.ref l0), some (.int l1)]) (st' := [.int 2, .ref q_41]) cd_200_150 rfl rfl ?_
                    obtain ⟨ht, h⟩ := gO_s h
                    obtain ⟨x_45, w_42, I_43, J_44, hcl, h⟩ := cI_s h
                    refine gs_call (as := [.ref q_41, .int 2]) (rest := []) cd_200_151 rfl (by decide) rfl (sm_rv_ok (by decide) ht) (Nat.le_of_ble_eq_true rfl) (Nat.le_of_ble_eq_true rfl) rfl hcl ?_
                    refine gs_0 (pc' := 155) (L' := [some (.ref l0), some (.int l1)]) (st' := [.long ((x_45 : Int32).toInt64)]) cd_200_154 rfl rfl ?_
                    cases h
                    exact gsr cd_200_155 rfl rfl
                  · rw [if_neg hc7] at h
                    by_cases hc8 : l1 = 8
                    · rw [if_pos hc8] at h
                      refine gs_0 (pc' := 156) (L' := [some (.ref l0), some (.int l1)]) (st' := []) cd_200_15 rfl (sw_200_15_8 hc8) ?_
                      refine gs_0 (pc' := 157) (L' := [some (.ref l0), some (.int l1)]) (st' := [.ref l0]) cd_200_156 rfl rfl ?_
                      obtain ⟨ht, h⟩ := gO_s h
                      obtain ⟨q_46, hv, h⟩ := gV_s h
                      refine gs_gfR cd_200_157 (by decide) ht hv ?_
                      obtain ⟨ht, h⟩ := gO_s h
                      refine gs_gfI cd_200_160 (by decide) (by decide) ht ?_
                      refine gs_0 (pc' := 164) (L' := [some (.ref l0), some (.int l1)]) (st' := [.long ((I q_46 8 : Int32).toInt64)]) cd_200_163 rfl rfl ?_
                      cases h
                      exact gsr cd_200_164 rfl rfl
                    · rw [if_neg hc8] at h
                      refine gs_0 (pc' := 165) (L' := [some (.ref l0), some (.int l1)]) (st' := []) cd_200_15 rfl (sw_200_15_d hc0 hc1 hc2 hc3 hc4 hc5 hc6 hc7 hc8) ?_
                      refine gs_0 (pc' := 166) (L' := [some (.ref l0), some (.int l1)]) (st' := [.ref l0]) cd_200_165 rfl rfl ?_
                      refine gs_0 (pc' := 167) (L' := [some (.ref l0), some (.int l1)]) (st' := [.int 1, .ref l0]) cd_200_166 rfl rfl ?_
                      obtain ⟨ht, h⟩ := gO_s h
                      obtain ⟨v_50, w_47, I_48, J_49, hcl, h⟩ := cJ_s h
                      refine gs_call (as := [.ref l0, .int 1]) (rest := []) cd_200_167 rfl (by decide) rfl (sm_rv_ok (by decide) ht) (Nat.le_of_ble_eq_true rfl) (Nat.le_of_ble_eq_true rfl) rfl hcl ?_
                      cases h
                      exact gsr cd_200_170 rfl rfl
  · rw [if_neg hc] at h
    refine gs_0 (pc' := 8) (L' := [some (.ref l0), some (.int l1)]) (st' := [.ref l0]) cd_200_7 rfl rfl ?_
    refine gs_0 (pc' := 10) (L' := [some (.ref l0), some (.int l1)]) (st' := [.int 6, .ref l0]) cd_200_8 rfl rfl ?_
    obtain ⟨ht, h⟩ := gO_s h
    obtain ⟨v_54, w_51, I_52, J_53, hcl, h⟩ := cJ_s h
    refine gs_call (as := [.ref l0, .int 6]) (rest := []) cd_200_10 rfl (by decide) rfl (sm_rv_ok (by decide) ht) (Nat.le_of_ble_eq_true rfl) (Nat.le_of_ble_eq_true rfl) rfl hcl ?_
    cases h
    exact gsr cd_200_13 rfl rfl
theorem cl_200 {K : Nat → Value} {k d : Nat} {l0 : Nat} {l1 : Int32} {w : aW} {I : aI} {J : aJ} {R : aR} (h : f_200 K k d l0 l1 w I J = some R) : Cl K (d + 1) 200 [.ref l0, .int l1] w I J = some R := Cl_of (ok_200 h)
/-! ProvedMachine$Machine.isDone()Z -/
set_option maxRecDepth 20000 in
theorem gl_201 : gcd.lookup 201 = some gw_201 := rfl
theorem cd_201_0 : sm_cd 201 0 = some (.aload_n 0, 1, 0, 0, 0, 0, 0, 0, 0) := cd_of gl_201 rfl
theorem cd_201_1 : sm_cd 201 1 = some (.getfield 13, 3, 0, 1, 2, 0, 0, 0, 0) := cd_of gl_201 rfl
theorem cd_201_4 : sm_cd 201 4 = some (.iconst 0, 1, 0, 0, 0, 0, 0, 0, 0) := cd_of gl_201 rfl
theorem cd_201_5 : sm_cd 201 5 = some (.iaload, 1, 0, 0, 0, 0, 0, 0, 0) := cd_of gl_201 rfl
theorem cd_201_6 : sm_cd 201 6 = some (.iconst 1, 1, 0, 0, 0, 0, 0, 1, 0) := cd_of gl_201 rfl
theorem cd_201_7 : sm_cd 201 7 = some (.if_icmp .ne 7, 3, 14, 0, 0, 0, 0, 0, 0) := cd_of gl_201 rfl
theorem cd_201_10 : sm_cd 201 10 = some (.iconst 1, 1, 0, 0, 0, 0, 0, 1, 0) := cd_of gl_201 rfl
theorem cd_201_11 : sm_cd 201 11 = some (.goto 4, 3, 15, 0, 0, 0, 0, 0, 0) := cd_of gl_201 rfl
theorem cd_201_14 : sm_cd 201 14 = some (.iconst 0, 1, 0, 0, 0, 0, 0, 0, 0) := cd_of gl_201 rfl
theorem cd_201_15 : sm_cd 201 15 = some (.ireturn, 1, 0, 0, 2, 0, 0, 0, 0) := cd_of gl_201 rfl
noncomputable def f_201 (K : Nat → Value) (k d : Nat) (l0 : Nat) (w : aW) (I : aI) (J : aJ) : Option aR :=
  gO w 0 l0 (
  gV w l0 1 fun q_1 =>
  gA w 10 20 q_1 0 (
  if ¬ (I q_1 (0 : Int32).toNatClampNeg) = 1 then
    some (some (.int 0), w, I, J)
  else
    some (some (.int 1), w, I, J)))
theorem ok_201 {K : Nat → Value} {k d : Nat} {l0 : Nat} {w : aW} {I : aI} {J : aJ} {R : aR} (h : f_201 K k d l0 w I J = some R) : Go K (d + 1) 201 0 [some (.ref l0)] [] w I J R := by
  unfold f_201 at h
  refine gs_0 (pc' := 1) (L' := [some (.ref l0)]) (st' := [.ref l0]) cd_201_0 rfl rfl ?_
  obtain ⟨ht, h⟩ := gO_s h
  obtain ⟨q_1, hv, h⟩ := gV_s h
  refine gs_gfR cd_201_1 (by decide) ht hv ?_
  refine gs_0 (pc' := 5) (L' := [some (.ref l0)]) (st' := [.int 0, .ref q_1]) cd_201_4 rfl rfl ?_
  obtain ⟨ht, h⟩ := gA_s h
  refine gs_iald cd_201_5 ht ?_
  refine gs_0 (pc' := 7) (L' := [some (.ref l0)]) (st' := [.int 1, .int (I q_1 (0 : Int32).toNatClampNeg)]) cd_201_6 rfl rfl ?_
  refine gs_0 (pc' := if ¬ (I q_1 (0 : Int32).toNatClampNeg) = 1 then 14 else 10) (L' := [some (.ref l0)]) (st' := []) cd_201_7 rfl rfl ?_
  refine go_ite (fun hc => ?_) (fun hc => ?_)
  · rw [if_pos hc] at h
    refine gs_0 (pc' := 15) (L' := [some (.ref l0)]) (st' := [.int 0]) cd_201_14 rfl rfl ?_
    cases h
    exact gs_ri cd_201_15 (Or.inr (Or.inl ⟨rfl, Or.inl rfl⟩))
  · rw [if_neg hc] at h
    refine gs_0 (pc' := 11) (L' := [some (.ref l0)]) (st' := [.int 1]) cd_201_10 rfl rfl ?_
    refine gs_0 (pc' := 15) (L' := [some (.ref l0)]) (st' := [.int 1]) cd_201_11 rfl rfl ?_
    cases h
    exact gs_ri cd_201_15 (Or.inr (Or.inl ⟨rfl, Or.inr rfl⟩))
theorem cl_201 {K : Nat → Value} {k d : Nat} {l0 : Nat} {w : aW} {I : aI} {J : aJ} {R : aR} (h : f_201 K k d l0 w I J = some R) : Cl K (d + 1) 201 [.ref l0] w I J = some R := Cl_of (ok_201 h)
/-! ProvedMachine$Machine.objectsInUse()I -/
set_option maxRecDepth 20000 in
theorem gl_202 : gcd.lookup 202 = some gw_202 := rfl
theorem cd_202_0 : sm_cd 202 0 = some (.iconst 0, 1, 0, 0, 0, 0, 0, 0, 0) := cd_of gl_202 rfl
theorem cd_202_1 : sm_cd 202 1 = some (.istore_n 1, 1, 1, 0, 0, 0, 0, 0, 0) := cd_of gl_202 rfl
theorem cd_202_2 : sm_cd 202 2 = some (.iconst 1, 1, 0, 0, 0, 0, 0, 1, 0) := cd_of gl_202 rfl
theorem cd_202_3 : sm_cd 202 3 = some (.istore_n 2, 1, 2, 0, 0, 0, 0, 0, 0) := cd_of gl_202 rfl
theorem cd_202_4 : sm_cd 202 4 = some (.iload_n 2, 1, 2, 0, 0, 0, 0, 0, 0) := cd_of gl_202 rfl
theorem cd_202_5 : sm_cd 202 5 = some (.bipush 16, 2, 0, 0, 0, 0, 0, 16, 0) := cd_of gl_202 rfl
theorem cd_202_7 : sm_cd 202 7 = some (.if_icmp .gt 23, 3, 30, 0, 0, 0, 0, 0, 0) := cd_of gl_202 rfl
theorem cd_202_10 : sm_cd 202 10 = some (.aload_n 0, 1, 0, 0, 0, 0, 0, 0, 0) := cd_of gl_202 rfl
theorem cd_202_11 : sm_cd 202 11 = some (.iload_n 2, 1, 2, 0, 0, 0, 0, 0, 0) := cd_of gl_202 rfl
theorem cd_202_12 : sm_cd 202 12 = some (.invokestatic 111, 3, 152, 1, 1, 1, 0, 0, 0) := cd_of gl_202 rfl
theorem cd_202_15 : sm_cd 202 15 = some (.invokevirtual 105, 3, 147, 0, 1, 2, 0, 0, 0) := cd_of gl_202 rfl
theorem cd_202_18 : sm_cd 202 18 = some (.ifCond .eq 6, 3, 24, 0, 0, 0, 0, 0, 0) := cd_of gl_202 rfl
theorem cd_202_21 : sm_cd 202 21 = some (.iinc 1 1, 3, 1, 0, 0, 0, 0, 1, 0) := cd_of gl_202 rfl
theorem cd_202_24 : sm_cd 202 24 = some (.iinc 2 1, 3, 2, 0, 0, 0, 0, 1, 0) := cd_of gl_202 rfl
theorem cd_202_27 : sm_cd 202 27 = some (.goto (-23), 3, 4, 0, 0, 0, 0, 0, 0) := cd_of gl_202 rfl
theorem cd_202_30 : sm_cd 202 30 = some (.iload_n 1, 1, 1, 0, 0, 0, 0, 0, 0) := cd_of gl_202 rfl
theorem cd_202_31 : sm_cd 202 31 = some (.ireturn, 1, 0, 0, 1, 0, 0, 0, 0) := cd_of gl_202 rfl
noncomputable def f_202_24 (K : Nat → Value) (k d : Nat) (r4 : Nat → Int32 → Int32 → aW → aI → aJ → Option aR) (l0 : Nat) (l1 : Int32) (l2 : Int32) (w : aW) (I : aI) (J : aJ) : Option aR :=
  lt_ (l2 + 1) fun x_1 =>
  r4 l0 l1 x_1 w I J
theorem ok_202_24 {K : Nat → Value} {k d : Nat} {r4 : Nat → Int32 → Int32 → aW → aI → aJ → Option aR} (hr4 : ∀ (l0 : Nat) (l1 : Int32) (l2 : Int32) (w : aW) (I : aI) (J : aJ) (R : aR), r4 l0 l1 l2 w I J = some R → Go K (d + 1) 202 4 [some (.ref l0), some (.int l1), some (.int l2)] [] w I J R) {l0 : Nat} {l1 : Int32} {l2 : Int32} {w : aW} {I : aI} {J : aJ} {R : aR} (h : f_202_24 K k d r4 l0 l1 l2 w I J = some R) : Go K (d + 1) 202 24 [some (.ref l0), some (.int l1), some (.int l2)] [] w I J R := by
  unfold f_202_24 at h
  refine gs_0 (pc' := 27) (L' := [some (.ref l0), some (.int l1), some (.int (l2 + 1))]) (st' := []) cd_202_24 rfl rfl ?_
  obtain ⟨x_1, hx, h⟩ := lt_s_ h
  rw [hx]
  clear hx
  refine gs_0 (pc' := 4) (L' := [some (.ref l0), some (.int l1), some (.int x_1)]) (st' := []) cd_202_27 rfl rfl ?_
  exact hr4 l0 l1 x_1 _ _ _ _ h
noncomputable def f_202_4 (K : Nat → Value) (k : Nat) (d : Nat) : Nat → Int32 → Int32 → aW → aI → aJ → Option aR :=
  match k with
  | 0 => fun _ _ _ _ _ _ => none
  | k + 1 => fun l0 l1 l2 w I J =>
  lt_ (f_202_4 K k d) fun r4 =>
  if 16 < l2 then
    some (some (.int l1), w, I, J)
  else
    cI (Cl K d 152 [.int l2] w I J) fun x_4 w_1 I_2 J_3 =>
    gO w_1 0 l0 (
    cI (Cl K d 147 [.ref l0, .int x_4] w_1 I_2 J_3) fun x_8 w_5 I_6 J_7 =>
    if x_8 = 0 then
      f_202_24 K k d r4 l0 l1 l2 w_5 I_6 J_7
    else
      lt_ (l1 + 1) fun x_9 =>
      f_202_24 K k d r4 l0 x_9 l2 w_5 I_6 J_7)
theorem ok_202_4 {K : Nat → Value} {d : Nat} : ∀ {k : Nat} {l0 : Nat} {l1 : Int32} {l2 : Int32} {w : aW} {I : aI} {J : aJ} {R : aR}, f_202_4 K k d l0 l1 l2 w I J = some R → Go K (d + 1) 202 4 [some (.ref l0), some (.int l1), some (.int l2)] [] w I J R := by
  intro k
  induction k with
  | zero => intro l0 l1 l2 w I J R h; cases h
  | succ k ih =>
    intro l0 l1 l2 w I J R h
    have hr4 : ∀ (l0 : Nat) (l1 : Int32) (l2 : Int32) (w : aW) (I : aI) (J : aJ) (R : aR), f_202_4 K k d l0 l1 l2 w I J = some R → Go K (d + 1) 202 4 [some (.ref l0), some (.int l1), some (.int l2)] [] w I J R := fun l0 l1 l2 w I J R h => ih h
    rw [f_202_4] at h
    obtain ⟨r4, hx, h⟩ := lt_s_ h
    rw [hx] at hr4
    clear hx ih
    refine gs_0 (pc' := 5) (L' := [some (.ref l0), some (.int l1), some (.int l2)]) (st' := [.int l2]) cd_202_4 rfl rfl ?_
    refine gs_0 (pc' := 7) (L' := [some (.ref l0), some (.int l1), some (.int l2)]) (st' := [.int 16, .int l2]) cd_202_5 rfl rfl ?_
    refine gs_0 (pc' := if 16 < l2 then 30 else 10) (L' := [some (.ref l0), some (.int l1), some (.int l2)]) (st' := []) cd_202_7 rfl rfl ?_
    refine go_ite (fun hc => ?_) (fun hc => ?_)
    · rw [if_pos hc] at h
      refine gs_0 (pc' := 31) (L' := [some (.ref l0), some (.int l1), some (.int l2)]) (st' := [.int l1]) cd_202_30 rfl rfl ?_
      cases h
      exact gs_ri cd_202_31 (Or.inl rfl)
    · rw [if_neg hc] at h
      refine gs_0 (pc' := 11) (L' := [some (.ref l0), some (.int l1), some (.int l2)]) (st' := [.ref l0]) cd_202_10 rfl rfl ?_
      refine gs_0 (pc' := 12) (L' := [some (.ref l0), some (.int l1), some (.int l2)]) (st' := [.int l2, .ref l0]) cd_202_11 rfl rfl ?_
      obtain ⟨x_4, w_1, I_2, J_3, hcl, h⟩ := cI_s h
      refine gs_call (as := [.int l2]) (rest := [.ref l0]) cd_202_12 rfl (by decide) rfl rfl (Nat.le_of_ble_eq_true rfl) (Nat.le_of_ble_eq_true rfl) rfl hcl ?_
      obtain ⟨ht, h⟩ := gO_s h
      obtain ⟨x_8, w_5, I_6, J_7, hcl, h⟩ := cI_s h
      refine gs_call (as := [.ref l0, .int x_4]) (rest := []) cd_202_15 rfl (by decide) rfl (sm_rv_ok (by decide) ht) (Nat.le_of_ble_eq_true rfl) (Nat.le_of_ble_eq_true rfl) rfl hcl ?_
      refine gs_0 (pc' := if x_8 = 0 then 24 else 21) (L' := [some (.ref l0), some (.int l1), some (.int l2)]) (st' := []) cd_202_18 rfl rfl ?_
      refine go_ite (fun hc => ?_) (fun hc => ?_)
      · rw [if_pos hc] at h
        exact ok_202_24 hr4 h
      · rw [if_neg hc] at h
        refine gs_0 (pc' := 24) (L' := [some (.ref l0), some (.int (l1 + 1)), some (.int l2)]) (st' := []) cd_202_21 rfl rfl ?_
        obtain ⟨x_9, hx, h⟩ := lt_s_ h
        rw [hx]
        clear hx
        exact ok_202_24 hr4 h
noncomputable def f_202 (K : Nat → Value) (k d : Nat) (l0 : Nat) (w : aW) (I : aI) (J : aJ) : Option aR :=
  f_202_4 K k d l0 0 1 w I J
theorem ok_202 {K : Nat → Value} {k d : Nat} {l0 : Nat} {w : aW} {I : aI} {J : aJ} {R : aR} (h : f_202 K k d l0 w I J = some R) : Go K (d + 1) 202 0 [some (.ref l0), none, none] [] w I J R := by
  unfold f_202 at h
  refine gs_0 (pc' := 1) (L' := [some (.ref l0), none, none]) (st' := [.int 0]) cd_202_0 rfl rfl ?_
  refine gs_0 (pc' := 2) (L' := [some (.ref l0), some (.int 0), none]) (st' := []) cd_202_1 rfl rfl ?_
  refine gs_0 (pc' := 3) (L' := [some (.ref l0), some (.int 0), none]) (st' := [.int 1]) cd_202_2 rfl rfl ?_
  refine gs_0 (pc' := 4) (L' := [some (.ref l0), some (.int 0), some (.int 1)]) (st' := []) cd_202_3 rfl rfl ?_
  exact ok_202_4 h
theorem cl_202 {K : Nat → Value} {k d : Nat} {l0 : Nat} {w : aW} {I : aI} {J : aJ} {R : aR} (h : f_202 K k d l0 w I J = some R) : Cl K (d + 1) 202 [.ref l0] w I J = some R := Cl_of (ok_202 h)
/-! ProvedMachineModel.now(I)J -/
set_option maxRecDepth 20000 in
theorem gl_203 : gcd.lookup 203 = some gw_203 := rfl
theorem cd_203_0 : sm_cd 203 0 = some (.aload_n 0, 1, 0, 0, 0, 0, 0, 0, 0) := cd_of gl_203 rfl
theorem cd_203_1 : sm_cd 203 1 = some (.getfield 333, 3, 6, 42, 1, 0, 0, 0, 0) := cd_of gl_203 rfl
theorem cd_203_4 : sm_cd 203 4 = some (.ifCond .ne 10, 3, 14, 0, 0, 0, 0, 0, 0) := cd_of gl_203 rfl
theorem cd_203_7 : sm_cd 203 7 = some (.aload_n 0, 1, 0, 0, 0, 0, 0, 0, 0) := cd_of gl_203 rfl
theorem cd_203_8 : sm_cd 203 8 = some (.bipush 6, 2, 0, 0, 0, 0, 0, 6, 0) := cd_of gl_203 rfl
theorem cd_203_10 : sm_cd 203 10 = some (.invokevirtual 148, 3, 20, 0, 1, 2, 6, 0, 0) := cd_of gl_203 rfl
theorem cd_203_13 : sm_cd 203 13 = some (.lreturn, 1, 0, 0, 0, 0, 0, 0, 0) := cd_of gl_203 rfl
theorem cd_203_14 : sm_cd 203 14 = some (.iconst 0, 1, 0, 0, 0, 0, 0, 0, 0) := cd_of gl_203 rfl
theorem cd_203_15 : sm_cd 203 15 = some (.istore_n 2, 1, 2, 0, 0, 0, 0, 0, 0) := cd_of gl_203 rfl
theorem cd_203_16 : sm_cd 203 16 = some (.iconst 1, 1, 0, 0, 0, 0, 0, 1, 0) := cd_of gl_203 rfl
theorem cd_203_17 : sm_cd 203 17 = some (.istore_n 3, 1, 3, 0, 0, 0, 0, 0, 0) := cd_of gl_203 rfl
theorem cd_203_18 : sm_cd 203 18 = some (.iload_n 3, 1, 3, 0, 0, 0, 0, 0, 0) := cd_of gl_203 rfl
theorem cd_203_19 : sm_cd 203 19 = some (.bipush 16, 2, 0, 0, 0, 0, 0, 16, 0) := cd_of gl_203 rfl
theorem cd_203_21 : sm_cd 203 21 = some (.if_icmp .gt 30, 3, 51, 0, 0, 0, 0, 0, 0) := cd_of gl_203 rfl
theorem cd_203_24 : sm_cd 203 24 = some (.iload_n 2, 1, 2, 0, 0, 0, 0, 0, 0) := cd_of gl_203 rfl
theorem cd_203_25 : sm_cd 203 25 = some (.aload_n 0, 1, 0, 0, 0, 0, 0, 0, 0) := cd_of gl_203 rfl
theorem cd_203_26 : sm_cd 203 26 = some (.getfield 111, 3, 6, 36, 2, 0, 0, 0, 0) := cd_of gl_203 rfl
theorem cd_203_29 : sm_cd 203 29 = some (.iload_n 3, 1, 3, 0, 0, 0, 0, 0, 0) := cd_of gl_203 rfl
theorem cd_203_30 : sm_cd 203 30 = some (.iconst 0, 1, 0, 0, 0, 0, 0, 0, 0) := cd_of gl_203 rfl
theorem cd_203_31 : sm_cd 203 31 = some (.invokestatic 366, 3, 183, 1, 2, 2, 6, 0, 0) := cd_of gl_203 rfl
theorem cd_203_34 : sm_cd 203 34 = some (.iaload, 1, 0, 0, 0, 0, 0, 0, 0) := cd_of gl_203 rfl
theorem cd_203_35 : sm_cd 203 35 = some (.ifCond .ne 7, 3, 42, 0, 0, 0, 0, 0, 0) := cd_of gl_203 rfl
theorem cd_203_38 : sm_cd 203 38 = some (.iconst 0, 1, 0, 0, 0, 0, 0, 0, 0) := cd_of gl_203 rfl
theorem cd_203_39 : sm_cd 203 39 = some (.goto 4, 3, 43, 0, 0, 0, 0, 0, 0) := cd_of gl_203 rfl
theorem cd_203_42 : sm_cd 203 42 = some (.iconst 1, 1, 0, 0, 0, 0, 0, 1, 0) := cd_of gl_203 rfl
theorem cd_203_43 : sm_cd 203 43 = some (.iadd, 1, 0, 0, 0, 0, 0, 0, 0) := cd_of gl_203 rfl
theorem cd_203_44 : sm_cd 203 44 = some (.istore_n 2, 1, 2, 0, 0, 0, 0, 0, 0) := cd_of gl_203 rfl
theorem cd_203_45 : sm_cd 203 45 = some (.iinc 3 1, 3, 3, 0, 0, 0, 0, 1, 0) := cd_of gl_203 rfl
theorem cd_203_48 : sm_cd 203 48 = some (.goto (-30), 3, 18, 0, 0, 0, 0, 0, 0) := cd_of gl_203 rfl
theorem cd_203_51 : sm_cd 203 51 = some (.iload_n 1, 1, 1, 0, 0, 0, 0, 0, 0) := cd_of gl_203 rfl
theorem cd_203_52 : sm_cd 203 52 = some (.tableswitch 135 0 8 #[52, 60, 86, 94, 102, 110, 118, 121, 129], 52, 0, 0, 0, 0, 0, 0, 0) := cd_of gl_203 rfl
theorem cd_203_104 : sm_cd 203 104 = some (.aload_n 0, 1, 0, 0, 0, 0, 0, 0, 0) := cd_of gl_203 rfl
theorem cd_203_105 : sm_cd 203 105 = some (.getfield 111, 3, 6, 36, 2, 0, 0, 0, 0) := cd_of gl_203 rfl
theorem cd_203_108 : sm_cd 203 108 = some (.iconst 0, 1, 0, 0, 0, 0, 0, 0, 0) := cd_of gl_203 rfl
theorem cd_203_109 : sm_cd 203 109 = some (.iaload, 1, 0, 0, 0, 0, 0, 0, 0) := cd_of gl_203 rfl
theorem cd_203_110 : sm_cd 203 110 = some (.i2l, 1, 0, 0, 0, 0, 0, 0, 0) := cd_of gl_203 rfl
theorem cd_203_111 : sm_cd 203 111 = some (.lreturn, 1, 0, 0, 0, 0, 0, 0, 0) := cd_of gl_203 rfl
theorem cd_203_112 : sm_cd 203 112 = some (.aload_n 0, 1, 0, 0, 0, 0, 0, 0, 0) := cd_of gl_203 rfl
theorem cd_203_113 : sm_cd 203 113 = some (.getfield 111, 3, 6, 36, 2, 0, 0, 0, 0) := cd_of gl_203 rfl
theorem cd_203_116 : sm_cd 203 116 = some (.iconst 1, 1, 0, 0, 0, 0, 0, 1, 0) := cd_of gl_203 rfl
theorem cd_203_117 : sm_cd 203 117 = some (.iaload, 1, 0, 0, 0, 0, 0, 0, 0) := cd_of gl_203 rfl
theorem cd_203_118 : sm_cd 203 118 = some (.ifCond .ne 7, 3, 125, 0, 0, 0, 0, 0, 0) := cd_of gl_203 rfl
theorem cd_203_121 : sm_cd 203 121 = some (.lconst 0, 1, 0, 0, 0, 0, 0, 0, 0) := cd_of gl_203 rfl
theorem cd_203_122 : sm_cd 203 122 = some (.goto 15, 3, 137, 0, 0, 0, 0, 0, 0) := cd_of gl_203 rfl
theorem cd_203_125 : sm_cd 203 125 = some (.aload_n 0, 1, 0, 0, 0, 0, 0, 0, 0) := cd_of gl_203 rfl
theorem cd_203_126 : sm_cd 203 126 = some (.getfield 111, 3, 6, 36, 2, 0, 0, 0, 0) := cd_of gl_203 rfl
theorem cd_203_129 : sm_cd 203 129 = some (.aload_n 0, 1, 0, 0, 0, 0, 0, 0, 0) := cd_of gl_203 rfl
theorem cd_203_130 : sm_cd 203 130 = some (.invokevirtual 394, 3, 179, 0, 0, 1, 6, 0, 0) := cd_of gl_203 rfl
theorem cd_203_133 : sm_cd 203 133 = some (.iconst 1, 1, 0, 0, 0, 0, 0, 1, 0) := cd_of gl_203 rfl
theorem cd_203_134 : sm_cd 203 134 = some (.iadd, 1, 0, 0, 0, 0, 0, 0, 0) := cd_of gl_203 rfl
theorem cd_203_135 : sm_cd 203 135 = some (.iaload, 1, 0, 0, 0, 0, 0, 0, 0) := cd_of gl_203 rfl
theorem cd_203_136 : sm_cd 203 136 = some (.i2l, 1, 0, 0, 0, 0, 0, 0, 0) := cd_of gl_203 rfl
theorem cd_203_137 : sm_cd 203 137 = some (.lreturn, 1, 0, 0, 0, 0, 0, 0, 0) := cd_of gl_203 rfl
theorem cd_203_138 : sm_cd 203 138 = some (.aload_n 0, 1, 0, 0, 0, 0, 0, 0, 0) := cd_of gl_203 rfl
theorem cd_203_139 : sm_cd 203 139 = some (.getfield 111, 3, 6, 36, 2, 0, 0, 0, 0) := cd_of gl_203 rfl
theorem cd_203_142 : sm_cd 203 142 = some (.iconst 1, 1, 0, 0, 0, 0, 0, 1, 0) := cd_of gl_203 rfl
theorem cd_203_143 : sm_cd 203 143 = some (.iaload, 1, 0, 0, 0, 0, 0, 0, 0) := cd_of gl_203 rfl
theorem cd_203_144 : sm_cd 203 144 = some (.i2l, 1, 0, 0, 0, 0, 0, 0, 0) := cd_of gl_203 rfl
theorem cd_203_145 : sm_cd 203 145 = some (.lreturn, 1, 0, 0, 0, 0, 0, 0, 0) := cd_of gl_203 rfl
theorem cd_203_146 : sm_cd 203 146 = some (.aload_n 0, 1, 0, 0, 0, 0, 0, 0, 0) := cd_of gl_203 rfl
theorem cd_203_147 : sm_cd 203 147 = some (.getfield 111, 3, 6, 36, 2, 0, 0, 0, 0) := cd_of gl_203 rfl
theorem cd_203_150 : sm_cd 203 150 = some (.iconst 2, 1, 0, 0, 0, 0, 0, 2, 0) := cd_of gl_203 rfl
theorem cd_203_151 : sm_cd 203 151 = some (.iaload, 1, 0, 0, 0, 0, 0, 0, 0) := cd_of gl_203 rfl
theorem cd_203_152 : sm_cd 203 152 = some (.i2l, 1, 0, 0, 0, 0, 0, 0, 0) := cd_of gl_203 rfl
theorem cd_203_153 : sm_cd 203 153 = some (.lreturn, 1, 0, 0, 0, 0, 0, 0, 0) := cd_of gl_203 rfl
theorem cd_203_154 : sm_cd 203 154 = some (.aload_n 0, 1, 0, 0, 0, 0, 0, 0, 0) := cd_of gl_203 rfl
theorem cd_203_155 : sm_cd 203 155 = some (.getfield 111, 3, 6, 36, 2, 0, 0, 0, 0) := cd_of gl_203 rfl
theorem cd_203_158 : sm_cd 203 158 = some (.iconst 3, 1, 0, 0, 0, 0, 0, 3, 0) := cd_of gl_203 rfl
theorem cd_203_159 : sm_cd 203 159 = some (.iaload, 1, 0, 0, 0, 0, 0, 0, 0) := cd_of gl_203 rfl
theorem cd_203_160 : sm_cd 203 160 = some (.i2l, 1, 0, 0, 0, 0, 0, 0, 0) := cd_of gl_203 rfl
theorem cd_203_161 : sm_cd 203 161 = some (.lreturn, 1, 0, 0, 0, 0, 0, 0, 0) := cd_of gl_203 rfl
theorem cd_203_162 : sm_cd 203 162 = some (.aload_n 0, 1, 0, 0, 0, 0, 0, 0, 0) := cd_of gl_203 rfl
theorem cd_203_163 : sm_cd 203 163 = some (.getfield 111, 3, 6, 36, 2, 0, 0, 0, 0) := cd_of gl_203 rfl
theorem cd_203_166 : sm_cd 203 166 = some (.iconst 4, 1, 0, 0, 0, 0, 0, 4, 0) := cd_of gl_203 rfl
theorem cd_203_167 : sm_cd 203 167 = some (.iaload, 1, 0, 0, 0, 0, 0, 0, 0) := cd_of gl_203 rfl
theorem cd_203_168 : sm_cd 203 168 = some (.i2l, 1, 0, 0, 0, 0, 0, 0, 0) := cd_of gl_203 rfl
theorem cd_203_169 : sm_cd 203 169 = some (.lreturn, 1, 0, 0, 0, 0, 0, 0, 0) := cd_of gl_203 rfl
theorem cd_203_170 : sm_cd 203 170 = some (.iload_n 2, 1, 2, 0, 0, 0, 0, 0, 0) := cd_of gl_203 rfl
theorem cd_203_171 : sm_cd 203 171 = some (.i2l, 1, 0, 0, 0, 0, 0, 0, 0) := cd_of gl_203 rfl
theorem cd_203_172 : sm_cd 203 172 = some (.lreturn, 1, 0, 0, 0, 0, 0, 0, 0) := cd_of gl_203 rfl
theorem cd_203_173 : sm_cd 203 173 = some (.aload_n 0, 1, 0, 0, 0, 0, 0, 0, 0) := cd_of gl_203 rfl
theorem cd_203_174 : sm_cd 203 174 = some (.getfield 111, 3, 6, 36, 2, 0, 0, 0, 0) := cd_of gl_203 rfl
theorem cd_203_177 : sm_cd 203 177 = some (.iconst 5, 1, 0, 0, 0, 0, 0, 5, 0) := cd_of gl_203 rfl
theorem cd_203_178 : sm_cd 203 178 = some (.iaload, 1, 0, 0, 0, 0, 0, 0, 0) := cd_of gl_203 rfl
theorem cd_203_179 : sm_cd 203 179 = some (.i2l, 1, 0, 0, 0, 0, 0, 0, 0) := cd_of gl_203 rfl
theorem cd_203_180 : sm_cd 203 180 = some (.lreturn, 1, 0, 0, 0, 0, 0, 0, 0) := cd_of gl_203 rfl
theorem cd_203_181 : sm_cd 203 181 = some (.aload_n 0, 1, 0, 0, 0, 0, 0, 0, 0) := cd_of gl_203 rfl
theorem cd_203_182 : sm_cd 203 182 = some (.getfield 363, 3, 6, 41, 0, 0, 0, 0, 0) := cd_of gl_203 rfl
theorem cd_203_185 : sm_cd 203 185 = some (.i2l, 1, 0, 0, 0, 0, 0, 0, 0) := cd_of gl_203 rfl
theorem cd_203_186 : sm_cd 203 186 = some (.lreturn, 1, 0, 0, 0, 0, 0, 0, 0) := cd_of gl_203 rfl
theorem cd_203_187 : sm_cd 203 187 = some (.aload_n 0, 1, 0, 0, 0, 0, 0, 0, 0) := cd_of gl_203 rfl
theorem cd_203_188 : sm_cd 203 188 = some (.iconst 1, 1, 0, 0, 0, 0, 0, 1, 0) := cd_of gl_203 rfl
theorem cd_203_189 : sm_cd 203 189 = some (.invokevirtual 148, 3, 20, 0, 1, 2, 6, 0, 0) := cd_of gl_203 rfl
theorem cd_203_192 : sm_cd 203 192 = some (.lreturn, 1, 0, 0, 0, 0, 0, 0, 0) := cd_of gl_203 rfl
theorem sw_203_52_0 {K : Nat → Value} {L : aL} {st : List Value} {w : aW} {I : aI} {J : aJ} {x : Int32} (h : x = 0) : sm_stp K (.tableswitch 135 0 8 #[52, 60, 86, 94, 102, 110, 118, 121, 129], 52, 0, 0, 0, 0, 0, 0, 0) 52 L (.int x :: st) w I J = some (104, L, st, w, I, J) := by subst h; rfl
theorem sw_203_52_1 {K : Nat → Value} {L : aL} {st : List Value} {w : aW} {I : aI} {J : aJ} {x : Int32} (h : x = 1) : sm_stp K (.tableswitch 135 0 8 #[52, 60, 86, 94, 102, 110, 118, 121, 129], 52, 0, 0, 0, 0, 0, 0, 0) 52 L (.int x :: st) w I J = some (112, L, st, w, I, J) := by subst h; rfl
theorem sw_203_52_2 {K : Nat → Value} {L : aL} {st : List Value} {w : aW} {I : aI} {J : aJ} {x : Int32} (h : x = 2) : sm_stp K (.tableswitch 135 0 8 #[52, 60, 86, 94, 102, 110, 118, 121, 129], 52, 0, 0, 0, 0, 0, 0, 0) 52 L (.int x :: st) w I J = some (138, L, st, w, I, J) := by subst h; rfl
theorem sw_203_52_3 {K : Nat → Value} {L : aL} {st : List Value} {w : aW} {I : aI} {J : aJ} {x : Int32} (h : x = 3) : sm_stp K (.tableswitch 135 0 8 #[52, 60, 86, 94, 102, 110, 118, 121, 129], 52, 0, 0, 0, 0, 0, 0, 0) 52 L (.int x :: st) w I J = some (146, L, st, w, I, J) := by subst h; rfl
theorem sw_203_52_4 {K : Nat → Value} {L : aL} {st : List Value} {w : aW} {I : aI} {J : aJ} {x : Int32} (h : x = 4) : sm_stp K (.tableswitch 135 0 8 #[52, 60, 86, 94, 102, 110, 118, 121, 129], 52, 0, 0, 0, 0, 0, 0, 0) 52 L (.int x :: st) w I J = some (154, L, st, w, I, J) := by subst h; rfl
theorem sw_203_52_5 {K : Nat → Value} {L : aL} {st : List Value} {w : aW} {I : aI} {J : aJ} {x : Int32} (h : x = 5) : sm_stp K (.tableswitch 135 0 8 #[52, 60, 86, 94, 102, 110, 118, 121, 129], 52, 0, 0, 0, 0, 0, 0, 0) 52 L (.int x :: st) w I J = some (162, L, st, w, I, J) := by subst h; rfl
theorem sw_203_52_6 {K : Nat → Value} {L : aL} {st : List Value} {w : aW} {I : aI} {J : aJ} {x : Int32} (h : x = 6) : sm_stp K (.tableswitch 135 0 8 #[52, 60, 86, 94, 102, 110, 118, 121, 129], 52, 0, 0, 0, 0, 0, 0, 0) 52 L (.int x :: st) w I J = some (170, L, st, w, I, J) := by subst h; rfl
theorem sw_203_52_7 {K : Nat → Value} {L : aL} {st : List Value} {w : aW} {I : aI} {J : aJ} {x : Int32} (h : x = 7) : sm_stp K (.tableswitch 135 0 8 #[52, 60, 86, 94, 102, 110, 118, 121, 129], 52, 0, 0, 0, 0, 0, 0, 0) 52 L (.int x :: st) w I J = some (173, L, st, w, I, J) := by subst h; rfl
theorem sw_203_52_8 {K : Nat → Value} {L : aL} {st : List Value} {w : aW} {I : aI} {J : aJ} {x : Int32} (h : x = 8) : sm_stp K (.tableswitch 135 0 8 #[52, 60, 86, 94, 102, 110, 118, 121, 129], 52, 0, 0, 0, 0, 0, 0, 0) 52 L (.int x :: st) w I J = some (181, L, st, w, I, J) := by subst h; rfl
theorem sw_203_52_d {K : Nat → Value} {L : aL} {st : List Value} {w : aW} {I : aI} {J : aJ} {x : Int32} (h0 : ¬ x = 0) (h1 : ¬ x = 1) (h2 : ¬ x = 2) (h3 : ¬ x = 3) (h4 : ¬ x = 4) (h5 : ¬ x = 5) (h6 : ¬ x = 6) (h7 : ¬ x = 7) (h8 : ¬ x = 8) : sm_stp K (.tableswitch 135 0 8 #[52, 60, 86, 94, 102, 110, 118, 121, 129], 52, 0, 0, 0, 0, 0, 0, 0) 52 L (.int x :: st) w I J = some (187, L, st, w, I, J) := by
  have e : sm_swt 52 135 0 8 #[52, 60, 86, 94, 102, 110, 118, 121, 129] x = some 187 := by
    unfold sm_swt
    split
    · rfl
    · rename_i hn
      exfalso
      have ha : ¬ x.toInt < 0 := fun q => hn (Or.inl q)
      have hb : ¬ 8 < x.toInt := fun q => hn (Or.inr q)
      have g0 : ¬ x.toInt = 0 := fun q => h0 (Int32.toInt_inj.mp q)
      have g1 : ¬ x.toInt = 1 := fun q => h1 (Int32.toInt_inj.mp q)
      have g2 : ¬ x.toInt = 2 := fun q => h2 (Int32.toInt_inj.mp q)
      have g3 : ¬ x.toInt = 3 := fun q => h3 (Int32.toInt_inj.mp q)
      have g4 : ¬ x.toInt = 4 := fun q => h4 (Int32.toInt_inj.mp q)
      have g5 : ¬ x.toInt = 5 := fun q => h5 (Int32.toInt_inj.mp q)
      have g6 : ¬ x.toInt = 6 := fun q => h6 (Int32.toInt_inj.mp q)
      have g7 : ¬ x.toInt = 7 := fun q => h7 (Int32.toInt_inj.mp q)
      have g8 : ¬ x.toInt = 8 := fun q => h8 (Int32.toInt_inj.mp q)
      omega
  simp only [sm_stp, e, sm_jm]
noncomputable def f_203_43 (K : Nat → Value) (k d : Nat) (r18 : Nat → Int32 → Int32 → Int32 → aW → aI → aJ → Option aR) (l0 : Nat) (l1 : Int32) (l2 : Int32) (l3 : Int32) (s0 : Int32) (s1 : Int32) (w : aW) (I : aI) (J : aJ) : Option aR :=
  lt_ (s0 + s1) fun x_1 =>
  lt_ (l3 + 1) fun x_2 =>
  r18 l0 l1 x_1 x_2 w I J
theorem ok_203_43 {K : Nat → Value} {k d : Nat} {r18 : Nat → Int32 → Int32 → Int32 → aW → aI → aJ → Option aR} (hr18 : ∀ (l0 : Nat) (l1 : Int32) (l2 : Int32) (l3 : Int32) (w : aW) (I : aI) (J : aJ) (R : aR), r18 l0 l1 l2 l3 w I J = some R → Go K (d + 1) 203 18 [some (.ref l0), some (.int l1), some (.int l2), some (.int l3)] [] w I J R) {l0 : Nat} {l1 : Int32} {l2 : Int32} {l3 : Int32} {s0 : Int32} {s1 : Int32} {w : aW} {I : aI} {J : aJ} {R : aR} (h : f_203_43 K k d r18 l0 l1 l2 l3 s0 s1 w I J = some R) : Go K (d + 1) 203 43 [some (.ref l0), some (.int l1), some (.int l2), some (.int l3)] [.int s1, .int s0] w I J R := by
  unfold f_203_43 at h
  refine gs_0 (pc' := 44) (L' := [some (.ref l0), some (.int l1), some (.int l2), some (.int l3)]) (st' := [.int (s0 + s1)]) cd_203_43 rfl rfl ?_
  refine gs_0 (pc' := 45) (L' := [some (.ref l0), some (.int l1), some (.int (s0 + s1)), some (.int l3)]) (st' := []) cd_203_44 rfl rfl ?_
  obtain ⟨x_1, hx, h⟩ := lt_s_ h
  rw [hx]
  clear hx
  refine gs_0 (pc' := 48) (L' := [some (.ref l0), some (.int l1), some (.int x_1), some (.int (l3 + 1))]) (st' := []) cd_203_45 rfl rfl ?_
  obtain ⟨x_2, hx, h⟩ := lt_s_ h
  rw [hx]
  clear hx
  refine gs_0 (pc' := 18) (L' := [some (.ref l0), some (.int l1), some (.int x_1), some (.int x_2)]) (st' := []) cd_203_48 rfl rfl ?_
  exact hr18 l0 l1 x_1 x_2 _ _ _ _ h
noncomputable def f_203_18 (K : Nat → Value) (k : Nat) (d : Nat) : Nat → Int32 → Int32 → Int32 → aW → aI → aJ → Option aR :=
  match k with
  | 0 => fun _ _ _ _ _ _ _ => none
  | k + 1 => fun l0 l1 l2 l3 w I J =>
  lt_ (f_203_18 K k d) fun r18 =>
  if 16 < l3 then
    if l1 = 0 then
      gO w 6 l0 (
      gV w l0 36 fun q_1 =>
      gA w 10 20 q_1 0 (
      some (some (.long ((I q_1 (0 : Int32).toNatClampNeg : Int32).toInt64)), w, I, J)))
    else
    if l1 = 1 then
      gO w 6 l0 (
      gV w l0 36 fun q_2 =>
      gA w 10 20 q_2 1 (
      if ¬ (I q_2 (1 : Int32).toNatClampNeg) = 0 then
        gO w 6 l0 (
        gV w l0 36 fun q_3 =>
        gO w 6 l0 (
        cI (Cl K d 179 [.ref l0] w I J) fun x_7 w_4 I_5 J_6 =>
        gA w_4 10 20 q_3 (x_7 + 1) (
        some (some (.long ((I_5 q_3 (x_7 + 1 : Int32).toNatClampNeg : Int32).toInt64)), w_4, I_5, J_6))))
      else
        some (some (.long 0), w, I, J)))
    else
    if l1 = 2 then
      gO w 6 l0 (
      gV w l0 36 fun q_8 =>
      gA w 10 20 q_8 1 (
      some (some (.long ((I q_8 (1 : Int32).toNatClampNeg : Int32).toInt64)), w, I, J)))
    else
    if l1 = 3 then
      gO w 6 l0 (
      gV w l0 36 fun q_9 =>
      gA w 10 20 q_9 2 (
      some (some (.long ((I q_9 (2 : Int32).toNatClampNeg : Int32).toInt64)), w, I, J)))
    else
    if l1 = 4 then
      gO w 6 l0 (
      gV w l0 36 fun q_10 =>
      gA w 10 20 q_10 3 (
      some (some (.long ((I q_10 (3 : Int32).toNatClampNeg : Int32).toInt64)), w, I, J)))
    else
    if l1 = 5 then
      gO w 6 l0 (
      gV w l0 36 fun q_11 =>
      gA w 10 20 q_11 4 (
      some (some (.long ((I q_11 (4 : Int32).toNatClampNeg : Int32).toInt64)), w, I, J)))
    else
    if l1 = 6 then
      some (some (.long ((l2 : Int32).toInt64)), w, I, J)
    else
    if l1 = 7 then
      gO w 6 l0 (
      gV w l0 36 fun q_12 =>
      gA w 10 20 q_12 5 (
      some (some (.long ((I q_12 (5 : Int32).toNatClampNeg : Int32).toInt64)), w, I, J)))
    else
    if l1 = 8 then
      gO w 6 l0 (
      some (some (.long ((I l0 41 : Int32).toInt64)), w, I, J))
    else
    gO w 6 l0 (
    cJ (Cl K d 20 [.ref l0, .int 1] w I J) fun v_16 w_13 I_14 J_15 =>
    some (some (.long v_16), w_13, I_14, J_15))
  else
    gO w 6 l0 (
    gV w l0 36 fun q_17 =>
    cI (Cl K d 183 [.int l3, .int 0] w I J) fun x_21 w_18 I_19 J_20 =>
    gA w_18 10 20 q_17 x_21 (
    if ¬ (I_19 q_17 (x_21 : Int32).toNatClampNeg) = 0 then
      f_203_43 K k d r18 l0 l1 l2 l3 l2 1 w_18 I_19 J_20
    else
      f_203_43 K k d r18 l0 l1 l2 l3 l2 0 w_18 I_19 J_20))
theorem ok_203_18 {K : Nat → Value} {d : Nat} : ∀ {k : Nat} {l0 : Nat} {l1 : Int32} {l2 : Int32} {l3 : Int32} {w : aW} {I : aI} {J : aJ} {R : aR}, f_203_18 K k d l0 l1 l2 l3 w I J = some R → Go K (d + 1) 203 18 [some (.ref l0), some (.int l1), some (.int l2), some (.int l3)] [] w I J R := by
  intro k
  induction k with
  | zero => intro l0 l1 l2 l3 w I J R h; cases h
  | succ k ih =>
    intro l0 l1 l2 l3 w I J R h
    have hr18 : ∀ (l0 : Nat) (l1 : Int32) (l2 : Int32) (l3 : Int32) (w : aW) (I : aI) (J : aJ) (R : aR), f_203_18 K k d l0 l1 l2 l3 w I J = some R → Go K (d + 1) 203 18 [some (.ref l0), some (.int l1), some (.int l2), some (.int l3)] [] w I J R := fun l0 l1 l2 l3 w I J R h => ih h
    rw [f_203_18] at h
    obtain ⟨r18, hx, h⟩ := lt_s_ h
    rw [hx] at hr18
    clear hx ih
    refine gs_0 (pc' := 19) (L' := [some (.ref l0), some (.int l1), some (.int l2), some (.int l3)]) (st' := [.int l3]) cd_203_18 rfl rfl ?_
    refine gs_0 (pc' := 21) (L' := [some (.ref l0), some (.int l1), some (.int l2), some (.int l3)]) (st' := [.int 16, .int l3]) cd_203_19 rfl rfl ?_
    refine gs_0 (pc' := if 16 < l3 then 51 else 24) (L' := [some (.ref l0), some (.int l1), some (.int l2), some (.int l3)]) (st' := []) cd_203_21 rfl rfl ?_
    refine go_ite (fun hc => ?_) (fun hc => ?_)
    · rw [if_pos hc] at h
      refine gs_0 (pc' := 52) (L' := [some (.ref l0), some (.int l1), some (.int l2), some (.int l3)]) (st' := [.int l1]) cd_203_51 rfl rfl ?_
      by_cases hc0 : l1 = 0
      · rw [if_pos hc0] at h
        refine gs_0 (pc' := 104) (L' := [some (.ref l0), some (.int l1), some (.int l2), some (.int l3)]) (st' := []) cd_203_52 rfl (sw_203_52_0 hc0) ?_
        refine gs_0 (pc' := 105) (L' := [some (.ref l0), some (.int l1), some (.int l2), some (.int l3)]) (st' := [.ref l0]) cd_203_104 rfl rfl ?_
        obtain ⟨ht, h⟩ := gO_s h
        obtain ⟨q_1, hv, h⟩ := gV_s h
        refine gs_gfR cd_203_105 (by decide) ht hv ?_
        refine gs_0 (pc' := 109) (L' := [some (.ref l0), some (.int l1), some (.int l2), some (.int l3)]) (st' := [.int 0, .ref q_1]) cd_203_108 rfl rfl ?_
        obtain ⟨ht, h⟩ := gA_s h
        refine gs_iald cd_203_109 ht ?_
        refine gs_0 (pc' := 111) (L' := [some (.ref l0), some (.int l1), some (.int l2), some (.int l3)]) (st' := [.long ((I q_1 (0 : Int32).toNatClampNeg : Int32).toInt64)]) cd_203_110 rfl rfl ?_
        cases h
        exact gsr cd_203_111 rfl rfl
      · rw [if_neg hc0] at h
        by_cases hc1 : l1 = 1
        · rw [if_pos hc1] at h
          refine gs_0 (pc' := 112) (L' := [some (.ref l0), some (.int l1), some (.int l2), some (.int l3)]) (st' := []) cd_203_52 rfl (sw_203_52_1 hc1) ?_
          refine gs_0 (pc' := 113) (L' := [some (.ref l0), some (.int l1), some (.int l2), some (.int l3)]) (st' := [.ref l0]) cd_203_112 rfl rfl ?_
          obtain ⟨ht, h⟩ := gO_s h
          obtain ⟨q_2, hv, h⟩ := gV_s h
          refine gs_gfR cd_203_113 (by decide) ht hv ?_
          refine gs_0 (pc' := 117) (L' := [some (.ref l0), some (.int l1), some (.int l2), some (.int l3)]) (st' := [.int 1, .ref q_2]) cd_203_116 rfl rfl ?_
          obtain ⟨ht, h⟩ := gA_s h
          refine gs_iald cd_203_117 ht ?_
          refine gs_0 (pc' := if ¬ (I q_2 (1 : Int32).toNatClampNeg) = 0 then 125 else 121) (L' := [some (.ref l0), some (.int l1), some (.int l2), some (.int l3)]) (st' := []) cd_203_118 rfl rfl ?_
          refine go_ite (fun hc => ?_) (fun hc => ?_)
          · rw [if_pos hc] at h
            refine gs_0 (pc' := 126) (L' := [some (.ref l0), some (.int l1), some (.int l2), some (.int l3)]) (st' := [.ref l0]) cd_203_125 rfl rfl ?_
            obtain ⟨ht, h⟩ := gO_s h
            obtain ⟨q_3, hv, h⟩ := gV_s h
            refine gs_gfR cd_203_126 (by decide) ht hv ?_
            refine gs_0 (pc' := 130) (L' := [some (.ref l0), some (.int l1), some (.int l2), some (.int l3)]) (st' := [.ref l0, .ref q_3]) cd_203_129 rfl rfl ?_
            obtain ⟨ht, h⟩ := gO_s h
            obtain ⟨x_7, w_4, I_5, J_6, hcl, h⟩ := cI_s h
            refine gs_call (as := [.ref l0]) (rest := [.ref q_3]) cd_203_130 rfl (by decide) rfl (sm_rv_ok (by decide) ht) (Nat.le_of_ble_eq_true rfl) (Nat.le_of_ble_eq_true rfl) rfl hcl ?_
            refine gs_0 (pc' := 134) (L' := [some (.ref l0), some (.int l1), some (.int l2), some (.int l3)]) (st' := [.int 1, .int x_7, .ref q_3]) cd_203_133 rfl rfl ?_
            refine gs_0 (pc' := 135) (L' := [some (.ref l0), some (.int l1), some (.int l2), some (.int l3)]) (st' := [.int (x_7 + 1), .ref q_3]) cd_203_134 rfl rfl ?_
            obtain ⟨ht, h⟩ := gA_s h
            refine gs_iald cd_203_135 ht ?_
            refine gs_0 (pc' := 137) (L' := [some (.ref l0), some (.int l1), some (.int l2), some (.int l3)]) (st' := [.long ((I_5 q_3 (x_7 + 1 : Int32).toNatClampNeg : Int32).toInt64)]) cd_203_136 rfl rfl ?_
            cases h
            exact gsr cd_203_137 rfl rfl
          · rw [if_neg hc] at h
            refine gs_0 (pc' := 122) (L' := [some (.ref l0), some (.int l1), some (.int l2), some (.int l3)]) (st' := [.long 0]) cd_203_121 rfl rfl ?_
            refine gs_0 (pc' := 137) (L' := [some (.ref l0), some (.int l1), some (.int l2), some (.int l3)]) (st' := [.long 0]) cd_203_122 rfl rfl ?_
            cases h
            exact gsr cd_203_137 rfl rfl
        · rw [if_neg hc1] at h
          by_cases hc2 : l1 = 2
          · rw [if_pos hc2] at h
            refine gs_0 (pc' := 138) (L' := [some (.ref l0), some (.int l1), some (.int l2), some (.int l3)]) (st' := []) cd_203_52 rfl (sw_203_52_2 hc2) ?_
            refine gs_0 (pc' := 139) (L' := [some (.ref l0), some (.int l1), some (.int l2), some (.int l3)]) (st' := [.ref l0]) cd_203_138 rfl rfl ?_
            obtain ⟨ht, h⟩ := gO_s h
            obtain ⟨q_8, hv, h⟩ := gV_s h
            refine gs_gfR cd_203_139 (by decide) ht hv ?_
            refine gs_0 (pc' := 143) (L' := [some (.ref l0), some (.int l1), some (.int l2), some (.int l3)]) (st' := [.int 1, .ref q_8]) cd_203_142 rfl rfl ?_
            obtain ⟨ht, h⟩ := gA_s h
            refine gs_iald cd_203_143 ht ?_
            refine gs_0 (pc' := 145) (L' := [some (.ref l0), some (.int l1), some (.int l2), some (.int l3)]) (st' := [.long ((I q_8 (1 : Int32).toNatClampNeg : Int32).toInt64)]) cd_203_144 rfl rfl ?_
            cases h
            exact gsr cd_203_145 rfl rfl
          · rw [if_neg hc2] at h
            by_cases hc3 : l1 = 3
            · rw [if_pos hc3] at h
              refine gs_0 (pc' := 146) (L' := [some (.ref l0), some (.int l1), some (.int l2), some (.int l3)]) (st' := []) cd_203_52 rfl (sw_203_52_3 hc3) ?_
              refine gs_0 (pc' := 147) (L' := [some (.ref l0), some (.int l1), some (.int l2), some (.int l3)]) (st' := [.ref l0]) cd_203_146 rfl rfl ?_
              obtain ⟨ht, h⟩ := gO_s h
              obtain ⟨q_9, hv, h⟩ := gV_s h
              refine gs_gfR cd_203_147 (by decide) ht hv ?_
              refine gs_0 (pc' := 151) (L' := [some (.ref l0), some (.int l1), some (.int l2), some (.int l3)]) (st' := [.int 2, .ref q_9]) cd_203_150 rfl rfl ?_
              obtain ⟨ht, h⟩ := gA_s h
              refine gs_iald cd_203_151 ht ?_
              refine gs_0 (pc' := 153) (L' := [some (.ref l0), some (.int l1), some (.int l2), some (.int l3)]) (st' := [.long ((I q_9 (2 : Int32).toNatClampNeg : Int32).toInt64)]) cd_203_152 rfl rfl ?_
              cases h
              exact gsr cd_203_153 rfl rfl
            · rw [if_neg hc3] at h
              by_cases hc4 : l1 = 4
              · rw [if_pos hc4] at h
                refine gs_0 (pc' := 154) (L' := [some (.ref l0), some (.int l1), some (.int l2), some (.int l3)]) (st' := []) cd_203_52 rfl (sw_203_52_4 hc4) ?_
                refine gs_0 (pc' := 155) (L' := [some (.ref l0), some (.int l1), some (.int l2), some (.int l3)]) (st' := [.ref l0]) cd_203_154 rfl rfl ?_
                obtain ⟨ht, h⟩ := gO_s h
                obtain ⟨q_10, hv, h⟩ := gV_s h
                refine gs_gfR cd_203_155 (by decide) ht hv ?_
                refine gs_0 (pc' := 159) (L' := [some (.ref l0), some (.int l1), some (.int l2), some (.int l3)]) (st' := [.int 3, .ref q_10]) cd_203_158 rfl rfl ?_
                obtain ⟨ht, h⟩ := gA_s h
                refine gs_iald cd_203_159 ht ?_
                refine gs_0 (pc' := 161) (L' := [some (.ref l0), some (.int l1), some (.int l2), some (.int l3)]) (st' := [.long ((I q_10 (3 : Int32).toNatClampNeg : Int32).toInt64)]) cd_203_160 rfl rfl ?_
                cases h
                exact gsr cd_203_161 rfl rfl
              · rw [if_neg hc4] at h
                by_cases hc5 : l1 = 5
                · rw [if_pos hc5] at h
                  refine gs_0 (pc' := 162) (L' := [some (.ref l0), some (.int l1), some (.int l2), some (.int l3)]) (st' := []) cd_203_52 rfl (sw_203_52_5 hc5) ?_
                  refine gs_0 (pc' := 163) (L' := [some (.ref l0), some (.int l1), some (.int l2), some (.int l3)]) (st' := [.ref l0]) cd_203_162 rfl rfl ?_
                  obtain ⟨ht, h⟩ := gO_s h
                  obtain ⟨q_11, hv, h⟩ := gV_s h
                  refine gs_gfR cd_203_163 (by decide) ht hv ?_
                  refine gs_0 (pc' := 167) (L' := [some (.ref l0), some (.int l1), some (.int l2), some (.int l3)]) (st' := [.int 4, .ref q_11]) cd_203_166 rfl rfl ?_
                  obtain ⟨ht, h⟩ := gA_s h
                  refine gs_iald cd_203_167 ht ?_
                  refine gs_0 (pc' := 169) (L' := [some (.ref l0), some (.int l1), some (.int l2), some (.int l3)]) (st' := [.long ((I q_11 (4 : Int32).toNatClampNeg : Int32).toInt64)]) cd_203_168 rfl rfl ?_
                  cases h
                  exact gsr cd_203_169 rfl rfl
                · rw [if_neg hc5] at h
                  by_cases hc6 : l1 = 6
                  · rw [if_pos hc6] at h
                    refine gs_0 (pc' := 170) (L' := [some (.ref l0), some (.int l1), some (.int l2), some (.int l3)]) (st' := []) cd_203_52 rfl (sw_203_52_6 hc6) ?_
                    refine gs_0 (pc' := 171) (L' := [some (.ref l0), some (.int l1), some (.int l2), some (.int l3)]) (st' := [.int l2]) cd_203_170 rfl rfl ?_
                    refine gs_0 (pc' := 172) (L' := [some (.ref l0), some (.int l1), some (.int l2), some (.int l3)]) (st' := [.long ((l2 : Int32).toInt64)]) cd_203_171 rfl rfl ?_
                    cases h
                    exact gsr cd_203_172 rfl rfl
                  · rw [if_neg hc6] at h
                    by_cases hc7 : l1 = 7
                    · rw [if_pos hc7] at h
                      refine gs_0 (pc' := 173) (L' := [some (.ref l0), some (.int l1), some (.int l2), some (.int l3)]) (st' := []) cd_203_52 rfl (sw_203_52_7 hc7) ?_
                      refine gs_0 (pc' := 174) (L' := [some (.ref l0), some (.int l1), some (.int l2), some (.int l3)]) (st' := [.ref l0]) cd_203_173 rfl rfl ?_
                      obtain ⟨ht, h⟩ := gO_s h
                      obtain ⟨q_12, hv, h⟩ := gV_s h
                      refine gs_gfR cd_203_174 (by decide) ht hv ?_
                      refine gs_0 (pc' := 178) (L' := [some (.ref l0), some (.int l1), some (.int l2), some (.int l3)]) (st' := [.int 5, .ref q_12]) cd_203_177 rfl rfl ?_
                      obtain ⟨ht, h⟩ := gA_s h
                      refine gs_iald cd_203_178 ht ?_
                      refine gs_0 (pc' := 180) (L' := [some (.ref l0), some (.int l1), some (.int l2), some (.int l3)]) (st' := [.long ((I q_12 (5 : Int32).toNatClampNeg : Int32).toInt64)]) cd_203_179 rfl rfl ?_
                      cases h
                      exact gsr cd_203_180 rfl rfl
                    · rw [if_neg hc7] at h
                      by_cases hc8 : l1 = 8
                      · rw [if_pos hc8] at h
                        refine gs_0 (pc' := 181) (L' := [some (.ref l0), some (.int l1), some (.int l2), some (.int l3)]) (st' := []) cd_203_52 rfl (sw_203_52_8 hc8) ?_
                        refine gs_0 (pc' := 182) (L' := [some (.ref l0), some (.int l1), some (.int l2), some (.int l3)]) (st' := [.ref l0]) cd_203_181 rfl rfl ?_
                        obtain ⟨ht, h⟩ := gO_s h
                        refine gs_gfI cd_203_182 (by decide) (by decide) ht ?_
                        refine gs_0 (pc' := 186) (L' := [some (.ref l0), some (.int l1), some (.int l2), some (.int l3)]) (st' := [.long ((I l0 41 : Int32).toInt64)]) cd_203_185 rfl rfl ?_
                        cases h
                        exact gsr cd_203_186 rfl rfl
                      · rw [if_neg hc8] at h
                        refine gs_0 (pc' := 187) (L' := [some (.ref l0), some (.int l1), some (.int l2), some (.int l3)]) (st' := []) cd_203_52 rfl (sw_203_52_d hc0 hc1 hc2 hc3 hc4 hc5 hc6 hc7 hc8) ?_
                        refine gs_0 (pc' := 188) (L' := [some (.ref l0), some (.int l1), some (.int l2), some (.int l3)]) (st' := [.ref l0]) cd_203_187 rfl rfl ?_
                        refine gs_0 (pc' := 189) (L' := [some (.ref l0), some (.int l1), some (.int l2), some (.int l3)]) (st' := [.int 1, .ref l0]) cd_203_188 rfl rfl ?_
                        obtain ⟨ht, h⟩ := gO_s h
                        obtain ⟨v_16, w_13, I_14, J_15, hcl, h⟩ := cJ_s h
                        refine gs_call (as := [.ref l0, .int 1]) (rest := []) cd_203_189 rfl (by decide) rfl (sm_rv_ok (by decide) ht) (Nat.le_of_ble_eq_true rfl) (Nat.le_of_ble_eq_true rfl) rfl hcl ?_
                        cases h
                        exact gsr cd_203_192 rfl rfl
    · rw [if_neg hc] at h
      refine gs_0 (pc' := 25) (L' := [some (.ref l0), some (.int l1), some (.int l2), some (.int l3)]) (st' := [.int l2]) cd_203_24 rfl rfl ?_
      refine gs_0 (pc' := 26) (L' := [some (.ref l0), some (.int l1), some (.int l2), some (.int l3)]) (st' := [.ref l0, .int l2]) cd_203_25 rfl rfl ?_
      obtain ⟨ht, h⟩ := gO_s h
      obtain ⟨q_17, hv, h⟩ := gV_s h
      refine gs_gfR cd_203_26 (by decide) ht hv ?_
      refine gs_0 (pc' := 30) (L' := [some (.ref l0), some (.int l1), some (.int l2), some (.int l3)]) (st' := [.int l3, .ref q_17, .int l2]) cd_203_29 rfl rfl ?_
      refine gs_0 (pc' := 31) (L' := [some (.ref l0), some (.int l1), some (.int l2), some (.int l3)]) (st' := [.int 0, .int l3, .ref q_17, .int l2]) cd_203_30 rfl rfl ?_
      obtain ⟨x_21, w_18, I_19, J_20, hcl, h⟩ := cI_s h
      refine gs_call (as := [.int l3, .int 0]) (rest := [.ref q_17, .int l2]) cd_203_31 rfl (by decide) rfl rfl (Nat.le_of_ble_eq_true rfl) (Nat.le_of_ble_eq_true rfl) rfl hcl ?_
      obtain ⟨ht, h⟩ := gA_s h
      refine gs_iald cd_203_34 ht ?_
      refine gs_0 (pc' := if ¬ (I_19 q_17 (x_21 : Int32).toNatClampNeg) = 0 then 42 else 38) (L' := [some (.ref l0), some (.int l1), some (.int l2), some (.int l3)]) (st' := [.int l2]) cd_203_35 rfl rfl ?_
      refine go_ite (fun hc => ?_) (fun hc => ?_)
      · rw [if_pos hc] at h
        refine gs_0 (pc' := 43) (L' := [some (.ref l0), some (.int l1), some (.int l2), some (.int l3)]) (st' := [.int 1, .int l2]) cd_203_42 rfl rfl ?_
        exact ok_203_43 hr18 h
      · rw [if_neg hc] at h
        refine gs_0 (pc' := 39) (L' := [some (.ref l0), some (.int l1), some (.int l2), some (.int l3)]) (st' := [.int 0, .int l2]) cd_203_38 rfl rfl ?_
        refine gs_0 (pc' := 43) (L' := [some (.ref l0), some (.int l1), some (.int l2), some (.int l3)]) (st' := [.int 0, .int l2]) cd_203_39 rfl rfl ?_
        exact ok_203_43 hr18 h
noncomputable def f_203 (K : Nat → Value) (k d : Nat) (l0 : Nat) (l1 : Int32) (w : aW) (I : aI) (J : aJ) : Option aR :=
  gO w 6 l0 (
  if ¬ (I l0 42) = 0 then
    f_203_18 K k d l0 l1 0 1 w I J
  else
    gO w 6 l0 (
    cJ (Cl K d 20 [.ref l0, .int 6] w I J) fun v_4 w_1 I_2 J_3 =>
    some (some (.long v_4), w_1, I_2, J_3)))
theorem ok_203 {K : Nat → Value} {k d : Nat} {l0 : Nat} {l1 : Int32} {w : aW} {I : aI} {J : aJ} {R : aR} (h : f_203 K k d l0 l1 w I J = some R) : Go K (d + 1) 203 0 [some (.ref l0), some (.int l1), none, none] [] w I J R := by
  unfold f_203 at h
  refine gs_0 (pc' := 1) (L' := [some (.ref l0), some (.int l1), none, none]) (st' := [.ref l0]) cd_203_0 rfl rfl ?_
  obtain ⟨ht, h⟩ := gO_s h
  refine gs_gfI cd_203_1 (by decide) (by decide) ht ?_
  refine gs_0 (pc' := if ¬ (I l0 42) = 0 then 14 else 7) (L' := [some (.ref l0), some (.int l1), none, none]) (st' := []) cd_203_4 rfl rfl ?_
  refine go_ite (fun hc => ?_) (fun hc => ?_)
  · rw [if_pos hc] at h
    refine gs_0 (pc' := 15) (L' := [some (.ref l0), some (.int l1), none, none]) (st' := [.int 0]) cd_203_14 rfl rfl ?_
    refine gs_0 (pc' := 16) (L' := [some (.ref l0), some (.int l1), some (.int 0), none]) (st' := []) cd_203_15 rfl rfl ?_
    refine gs_0 (pc' := 17) (L' := [some (.ref l0), some (.int l1), some (.int 0), none]) (st' := [.int 1]) cd_203_16 rfl rfl ?_
    refine gs_0 (pc' := 18) (L' := [some (.ref l0), some (.int l1), some (.int 0), some (.int 1)]) (st' := []) cd_203_17 rfl rfl ?_
    exact ok_203_18 h
  · rw [if_neg hc] at h
    refine gs_0 (pc' := 8) (L' := [some (.ref l0), some (.int l1), none, none]) (st' := [.ref l0]) cd_203_7 rfl rfl ?_
    refine gs_0 (pc' := 10) (L' := [some (.ref l0), some (.int l1), none, none]) (st' := [.int 6, .ref l0]) cd_203_8 rfl rfl ?_
    obtain ⟨ht, h⟩ := gO_s h
    obtain ⟨v_4, w_1, I_2, J_3, hcl, h⟩ := cJ_s h
    refine gs_call (as := [.ref l0, .int 6]) (rest := []) cd_203_10 rfl (by decide) rfl (sm_rv_ok (by decide) ht) (Nat.le_of_ble_eq_true rfl) (Nat.le_of_ble_eq_true rfl) rfl hcl ?_
    cases h
    exact gsr cd_203_13 rfl rfl
theorem cl_203 {K : Nat → Value} {k d : Nat} {l0 : Nat} {l1 : Int32} {w : aW} {I : aI} {J : aJ} {R : aR} (h : f_203 K k d l0 l1 w I J = some R) : Cl K (d + 1) 203 [.ref l0, .int l1] w I J = some R := Cl_of (ok_203 h)
/-! ProvedMachine.stack(IZ)J -/
set_option maxRecDepth 20000 in
theorem gl_204 : gcd.lookup 204 = some gw_204 := rfl
theorem cd_204_0 : sm_cd 204 0 = some (.aload_n 0, 1, 0, 0, 0, 0, 0, 0, 0) := cd_of gl_204 rfl
theorem cd_204_1 : sm_cd 204 1 = some (.getfield 40, 3, 5, 5, 1, 0, 0, 0, 0) := cd_of gl_204 rfl
theorem cd_204_4 : sm_cd 204 4 = some (.ifCond .ne 10, 3, 14, 0, 0, 0, 0, 0, 0) := cd_of gl_204 rfl
theorem cd_204_7 : sm_cd 204 7 = some (.aload_n 0, 1, 0, 0, 0, 0, 0, 0, 0) := cd_of gl_204 rfl
theorem cd_204_8 : sm_cd 204 8 = some (.bipush 6, 2, 0, 0, 0, 0, 0, 6, 0) := cd_of gl_204 rfl
theorem cd_204_10 : sm_cd 204 10 = some (.invokevirtual 60, 3, 17, 0, 1, 2, 5, 0, 0) := cd_of gl_204 rfl
theorem cd_204_13 : sm_cd 204 13 = some (.lreturn, 1, 0, 0, 0, 0, 0, 0, 0) := cd_of gl_204 rfl
theorem cd_204_14 : sm_cd 204 14 = some (.iload_n 1, 1, 1, 0, 0, 0, 0, 0, 0) := cd_of gl_204 rfl
theorem cd_204_15 : sm_cd 204 15 = some (.ifCond .lt 15, 3, 30, 0, 0, 0, 0, 0, 0) := cd_of gl_204 rfl
theorem cd_204_18 : sm_cd 204 18 = some (.iload_n 1, 1, 1, 0, 0, 0, 0, 0, 0) := cd_of gl_204 rfl
theorem cd_204_19 : sm_cd 204 19 = some (.aload_n 0, 1, 0, 0, 0, 0, 0, 0, 0) := cd_of gl_204 rfl
theorem cd_204_20 : sm_cd 204 20 = some (.getfield 36, 3, 5, 4, 2, 0, 0, 0, 0) := cd_of gl_204 rfl
theorem cd_204_23 : sm_cd 204 23 = some (.iconst 3, 1, 0, 0, 0, 0, 0, 3, 0) := cd_of gl_204 rfl
theorem cd_204_24 : sm_cd 204 24 = some (.invokevirtual 131, 3, 147, 0, 1, 2, 0, 0, 0) := cd_of gl_204 rfl
theorem cd_204_27 : sm_cd 204 27 = some (.if_icmp .lt 9, 3, 36, 0, 0, 0, 0, 0, 0) := cd_of gl_204 rfl
theorem cd_204_30 : sm_cd 204 30 = some (.aload_n 0, 1, 0, 0, 0, 0, 0, 0, 0) := cd_of gl_204 rfl
theorem cd_204_31 : sm_cd 204 31 = some (.iconst 1, 1, 0, 0, 0, 0, 0, 1, 0) := cd_of gl_204 rfl
theorem cd_204_32 : sm_cd 204 32 = some (.invokevirtual 60, 3, 17, 0, 1, 2, 5, 0, 0) := cd_of gl_204 rfl
theorem cd_204_35 : sm_cd 204 35 = some (.lreturn, 1, 0, 0, 0, 0, 0, 0, 0) := cd_of gl_204 rfl
theorem cd_204_36 : sm_cd 204 36 = some (.aload_n 0, 1, 0, 0, 0, 0, 0, 0, 0) := cd_of gl_204 rfl
theorem cd_204_37 : sm_cd 204 37 = some (.getfield 36, 3, 5, 4, 2, 0, 0, 0, 0) := cd_of gl_204 rfl
theorem cd_204_40 : sm_cd 204 40 = some (.iload_n 2, 1, 2, 0, 0, 0, 0, 0, 0) := cd_of gl_204 rfl
theorem cd_204_41 : sm_cd 204 41 = some (.ifCond .eq 8, 3, 49, 0, 0, 0, 0, 0, 0) := cd_of gl_204 rfl
theorem cd_204_44 : sm_cd 204 44 = some (.bipush 37, 2, 0, 0, 0, 0, 0, 37, 0) := cd_of gl_204 rfl
theorem cd_204_46 : sm_cd 204 46 = some (.goto 5, 3, 51, 0, 0, 0, 0, 0, 0) := cd_of gl_204 rfl
theorem cd_204_49 : sm_cd 204 49 = some (.bipush 7, 2, 0, 0, 0, 0, 0, 7, 0) := cd_of gl_204 rfl
theorem cd_204_51 : sm_cd 204 51 = some (.iload_n 1, 1, 1, 0, 0, 0, 0, 0, 0) := cd_of gl_204 rfl
theorem cd_204_52 : sm_cd 204 52 = some (.iadd, 1, 0, 0, 0, 0, 0, 0, 0) := cd_of gl_204 rfl
theorem cd_204_53 : sm_cd 204 53 = some (.invokevirtual 131, 3, 147, 0, 1, 2, 0, 0, 0) := cd_of gl_204 rfl
theorem cd_204_56 : sm_cd 204 56 = some (.i2l, 1, 0, 0, 0, 0, 0, 0, 0) := cd_of gl_204 rfl
theorem cd_204_57 : sm_cd 204 57 = some (.lreturn, 1, 0, 0, 0, 0, 0, 0, 0) := cd_of gl_204 rfl
noncomputable def f_204_51 (K : Nat → Value) (k d : Nat) (l0 : Nat) (l1 : Int32) (l2 : Int32) (s0 : Nat) (s1 : Int32) (w : aW) (I : aI) (J : aJ) : Option aR :=
  gO w 0 s0 (
  cI (Cl K d 147 [.ref s0, .int (s1 + l1)] w I J) fun x_4 w_1 I_2 J_3 =>
  some (some (.long ((x_4 : Int32).toInt64)), w_1, I_2, J_3))
theorem ok_204_51 {K : Nat → Value} {k d : Nat} {l0 : Nat} {l1 : Int32} {l2 : Int32} {s0 : Nat} {s1 : Int32} {w : aW} {I : aI} {J : aJ} {R : aR} (h : f_204_51 K k d l0 l1 l2 s0 s1 w I J = some R) : Go K (d + 1) 204 51 [some (.ref l0), some (.int l1), some (.int l2)] [.int s1, .ref s0] w I J R := by
  unfold f_204_51 at h
  refine gs_0 (pc' := 52) (L' := [some (.ref l0), some (.int l1), some (.int l2)]) (st' := [.int l1, .int s1, .ref s0]) cd_204_51 rfl rfl ?_
  refine gs_0 (pc' := 53) (L' := [some (.ref l0), some (.int l1), some (.int l2)]) (st' := [.int (s1 + l1), .ref s0]) cd_204_52 rfl rfl ?_
  obtain ⟨ht, h⟩ := gO_s h
  obtain ⟨x_4, w_1, I_2, J_3, hcl, h⟩ := cI_s h
  refine gs_call (as := [.ref s0, .int (s1 + l1)]) (rest := []) cd_204_53 rfl (by decide) rfl (sm_rv_ok (by decide) ht) (Nat.le_of_ble_eq_true rfl) (Nat.le_of_ble_eq_true rfl) rfl hcl ?_
  refine gs_0 (pc' := 57) (L' := [some (.ref l0), some (.int l1), some (.int l2)]) (st' := [.long ((x_4 : Int32).toInt64)]) cd_204_56 rfl rfl ?_
  cases h
  exact gsr cd_204_57 rfl rfl
noncomputable def f_204_30 (K : Nat → Value) (k d : Nat) (l0 : Nat) (l1 : Int32) (l2 : Int32) (w : aW) (I : aI) (J : aJ) : Option aR :=
  gO w 5 l0 (
  cJ (Cl K d 17 [.ref l0, .int 1] w I J) fun v_4 w_1 I_2 J_3 =>
  some (some (.long v_4), w_1, I_2, J_3))
theorem ok_204_30 {K : Nat → Value} {k d : Nat} {l0 : Nat} {l1 : Int32} {l2 : Int32} {w : aW} {I : aI} {J : aJ} {R : aR} (h : f_204_30 K k d l0 l1 l2 w I J = some R) : Go K (d + 1) 204 30 [some (.ref l0), some (.int l1), some (.int l2)] [] w I J R := by
  unfold f_204_30 at h
  refine gs_0 (pc' := 31) (L' := [some (.ref l0), some (.int l1), some (.int l2)]) (st' := [.ref l0]) cd_204_30 rfl rfl ?_
  refine gs_0 (pc' := 32) (L' := [some (.ref l0), some (.int l1), some (.int l2)]) (st' := [.int 1, .ref l0]) cd_204_31 rfl rfl ?_
  obtain ⟨ht, h⟩ := gO_s h
  obtain ⟨v_4, w_1, I_2, J_3, hcl, h⟩ := cJ_s h
  refine gs_call (as := [.ref l0, .int 1]) (rest := []) cd_204_32 rfl (by decide) rfl (sm_rv_ok (by decide) ht) (Nat.le_of_ble_eq_true rfl) (Nat.le_of_ble_eq_true rfl) rfl hcl ?_
  cases h
  exact gsr cd_204_35 rfl rfl
noncomputable def f_204 (K : Nat → Value) (k d : Nat) (l0 : Nat) (l1 : Int32) (l2 : Int32) (w : aW) (I : aI) (J : aJ) : Option aR :=
  gO w 5 l0 (
  if ¬ (I l0 5) = 0 then
    if l1 < 0 then
      f_204_30 K k d l0 l1 l2 w I J
    else
      gO w 5 l0 (
      gV w l0 4 fun q_1 =>
      gO w 0 q_1 (
      cI (Cl K d 147 [.ref q_1, .int 3] w I J) fun x_5 w_2 I_3 J_4 =>
      if l1 < x_5 then
        gO w_2 5 l0 (
        gV w_2 l0 4 fun q_6 =>
        if l2 = 0 then
          f_204_51 K k d l0 l1 l2 q_6 7 w_2 I_3 J_4
        else
          f_204_51 K k d l0 l1 l2 q_6 37 w_2 I_3 J_4)
      else
        f_204_30 K k d l0 l1 l2 w_2 I_3 J_4))
  else
    gO w 5 l0 (
    cJ (Cl K d 17 [.ref l0, .int 6] w I J) fun v_10 w_7 I_8 J_9 =>
    some (some (.long v_10), w_7, I_8, J_9)))
theorem ok_204 {K : Nat → Value} {k d : Nat} {l0 : Nat} {l1 : Int32} {l2 : Int32} {w : aW} {I : aI} {J : aJ} {R : aR} (h : f_204 K k d l0 l1 l2 w I J = some R) : Go K (d + 1) 204 0 [some (.ref l0), some (.int l1), some (.int l2)] [] w I J R := by
  unfold f_204 at h
  refine gs_0 (pc' := 1) (L' := [some (.ref l0), some (.int l1), some (.int l2)]) (st' := [.ref l0]) cd_204_0 rfl rfl ?_
  obtain ⟨ht, h⟩ := gO_s h
  refine gs_gfI cd_204_1 (by decide) (by decide) ht ?_
  refine gs_0 (pc' := if ¬ (I l0 5) = 0 then 14 else 7) (L' := [some (.ref l0), some (.int l1), some (.int l2)]) (st' := []) cd_204_4 rfl rfl ?_
  refine go_ite (fun hc => ?_) (fun hc => ?_)
  · rw [if_pos hc] at h
    refine gs_0 (pc' := 15) (L' := [some (.ref l0), some (.int l1), some (.int l2)]) (st' := [.int l1]) cd_204_14 rfl rfl ?_
    refine gs_0 (pc' := if l1 < 0 then 30 else 18) (L' := [some (.ref l0), some (.int l1), some (.int l2)]) (st' := []) cd_204_15 rfl rfl ?_
    refine go_ite (fun hc => ?_) (fun hc => ?_)
    · rw [if_pos hc] at h
      exact ok_204_30 h
    · rw [if_neg hc] at h
      refine gs_0 (pc' := 19) (L' := [some (.ref l0), some (.int l1), some (.int l2)]) (st' := [.int l1]) cd_204_18 rfl rfl ?_
      refine gs_0 (pc' := 20) (L' := [some (.ref l0), some (.int l1), some (.int l2)]) (st' := [.ref l0, .int l1]) cd_204_19 rfl rfl ?_
      obtain ⟨ht, h⟩ := gO_s h
      obtain ⟨q_1, hv, h⟩ := gV_s h
      refine gs_gfR cd_204_20 (by decide) ht hv ?_
      refine gs_0 (pc' := 24) (L' := [some (.ref l0), some (.int l1), some (.int l2)]) (st' := [.int 3, .ref q_1, .int l1]) cd_204_23 rfl rfl ?_
      obtain ⟨ht, h⟩ := gO_s h
      obtain ⟨x_5, w_2, I_3, J_4, hcl, h⟩ := cI_s h
      refine gs_call (as := [.ref q_1, .int 3]) (rest := [.int l1]) cd_204_24 rfl (by decide) rfl (sm_rv_ok (by decide) ht) (Nat.le_of_ble_eq_true rfl) (Nat.le_of_ble_eq_true rfl) rfl hcl ?_
      refine gs_0 (pc' := if l1 < x_5 then 36 else 30) (L' := [some (.ref l0), some (.int l1), some (.int l2)]) (st' := []) cd_204_27 rfl rfl ?_
      refine go_ite (fun hc => ?_) (fun hc => ?_)
      · rw [if_pos hc] at h
        refine gs_0 (pc' := 37) (L' := [some (.ref l0), some (.int l1), some (.int l2)]) (st' := [.ref l0]) cd_204_36 rfl rfl ?_
        obtain ⟨ht, h⟩ := gO_s h
        obtain ⟨q_6, hv, h⟩ := gV_s h
        refine gs_gfR cd_204_37 (by decide) ht hv ?_
        refine gs_0 (pc' := 41) (L' := [some (.ref l0), some (.int l1), some (.int l2)]) (st' := [.int l2, .ref q_6]) cd_204_40 rfl rfl ?_
        refine gs_0 (pc' := if l2 = 0 then 49 else 44) (L' := [some (.ref l0), some (.int l1), some (.int l2)]) (st' := [.ref q_6]) cd_204_41 rfl rfl ?_
        refine go_ite (fun hc => ?_) (fun hc => ?_)
        · rw [if_pos hc] at h
          refine gs_0 (pc' := 51) (L' := [some (.ref l0), some (.int l1), some (.int l2)]) (st' := [.int 7, .ref q_6]) cd_204_49 rfl rfl ?_
          exact ok_204_51 h
        · rw [if_neg hc] at h
          refine gs_0 (pc' := 46) (L' := [some (.ref l0), some (.int l1), some (.int l2)]) (st' := [.int 37, .ref q_6]) cd_204_44 rfl rfl ?_
          refine gs_0 (pc' := 51) (L' := [some (.ref l0), some (.int l1), some (.int l2)]) (st' := [.int 37, .ref q_6]) cd_204_46 rfl rfl ?_
          exact ok_204_51 h
      · rw [if_neg hc] at h
        exact ok_204_30 h
  · rw [if_neg hc] at h
    refine gs_0 (pc' := 8) (L' := [some (.ref l0), some (.int l1), some (.int l2)]) (st' := [.ref l0]) cd_204_7 rfl rfl ?_
    refine gs_0 (pc' := 10) (L' := [some (.ref l0), some (.int l1), some (.int l2)]) (st' := [.int 6, .ref l0]) cd_204_8 rfl rfl ?_
    obtain ⟨ht, h⟩ := gO_s h
    obtain ⟨v_10, w_7, I_8, J_9, hcl, h⟩ := cJ_s h
    refine gs_call (as := [.ref l0, .int 6]) (rest := []) cd_204_10 rfl (by decide) rfl (sm_rv_ok (by decide) ht) (Nat.le_of_ble_eq_true rfl) (Nat.le_of_ble_eq_true rfl) rfl hcl ?_
    cases h
    exact gsr cd_204_13 rfl rfl
theorem cl_204 {K : Nat → Value} {k d : Nat} {l0 : Nat} {l1 : Int32} {l2 : Int32} {w : aW} {I : aI} {J : aJ} {R : aR} (h : f_204 K k d l0 l1 l2 w I J = some R) : Cl K (d + 1) 204 [.ref l0, .int l1, .int l2] w I J = some R := Cl_of (ok_204 h)
/-! ProvedMachineModel.stack(IZ)J -/
set_option maxRecDepth 20000 in
theorem gl_205 : gcd.lookup 205 = some gw_205 := rfl
theorem cd_205_0 : sm_cd 205 0 = some (.aload_n 0, 1, 0, 0, 0, 0, 0, 0, 0) := cd_of gl_205 rfl
theorem cd_205_1 : sm_cd 205 1 = some (.getfield 333, 3, 6, 42, 1, 0, 0, 0, 0) := cd_of gl_205 rfl
theorem cd_205_4 : sm_cd 205 4 = some (.ifCond .ne 10, 3, 14, 0, 0, 0, 0, 0, 0) := cd_of gl_205 rfl
theorem cd_205_7 : sm_cd 205 7 = some (.aload_n 0, 1, 0, 0, 0, 0, 0, 0, 0) := cd_of gl_205 rfl
theorem cd_205_8 : sm_cd 205 8 = some (.bipush 6, 2, 0, 0, 0, 0, 0, 6, 0) := cd_of gl_205 rfl
theorem cd_205_10 : sm_cd 205 10 = some (.invokevirtual 148, 3, 20, 0, 1, 2, 6, 0, 0) := cd_of gl_205 rfl
theorem cd_205_13 : sm_cd 205 13 = some (.lreturn, 1, 0, 0, 0, 0, 0, 0, 0) := cd_of gl_205 rfl
theorem cd_205_14 : sm_cd 205 14 = some (.iload_n 1, 1, 1, 0, 0, 0, 0, 0, 0) := cd_of gl_205 rfl
theorem cd_205_15 : sm_cd 205 15 = some (.iconst 0, 1, 0, 0, 0, 0, 0, 0, 0) := cd_of gl_205 rfl
theorem cd_205_16 : sm_cd 205 16 = some (.aload_n 0, 1, 0, 0, 0, 0, 0, 0, 0) := cd_of gl_205 rfl
theorem cd_205_17 : sm_cd 205 17 = some (.getfield 111, 3, 6, 36, 2, 0, 0, 0, 0) := cd_of gl_205 rfl
theorem cd_205_20 : sm_cd 205 20 = some (.iconst 2, 1, 0, 0, 0, 0, 0, 2, 0) := cd_of gl_205 rfl
theorem cd_205_21 : sm_cd 205 21 = some (.iaload, 1, 0, 0, 0, 0, 0, 0, 0) := cd_of gl_205 rfl
theorem cd_205_22 : sm_cd 205 22 = some (.iconst 1, 1, 0, 0, 0, 0, 0, 1, 0) := cd_of gl_205 rfl
theorem cd_205_23 : sm_cd 205 23 = some (.isub, 1, 0, 0, 0, 0, 0, 0, 0) := cd_of gl_205 rfl
theorem cd_205_24 : sm_cd 205 24 = some (.invokestatic 144, 3, 19, 1, 3, 3, 6, 0, 0) := cd_of gl_205 rfl
theorem cd_205_27 : sm_cd 205 27 = some (.ifCond .ne 9, 3, 36, 0, 0, 0, 0, 0, 0) := cd_of gl_205 rfl
theorem cd_205_30 : sm_cd 205 30 = some (.aload_n 0, 1, 0, 0, 0, 0, 0, 0, 0) := cd_of gl_205 rfl
theorem cd_205_31 : sm_cd 205 31 = some (.iconst 1, 1, 0, 0, 0, 0, 0, 1, 0) := cd_of gl_205 rfl
theorem cd_205_32 : sm_cd 205 32 = some (.invokevirtual 148, 3, 20, 0, 1, 2, 6, 0, 0) := cd_of gl_205 rfl
theorem cd_205_35 : sm_cd 205 35 = some (.lreturn, 1, 0, 0, 0, 0, 0, 0, 0) := cd_of gl_205 rfl
theorem cd_205_36 : sm_cd 205 36 = some (.iload_n 2, 1, 2, 0, 0, 0, 0, 0, 0) := cd_of gl_205 rfl
theorem cd_205_37 : sm_cd 205 37 = some (.ifCond .eq 16, 3, 53, 0, 0, 0, 0, 0, 0) := cd_of gl_205 rfl
theorem cd_205_40 : sm_cd 205 40 = some (.aload_n 0, 1, 0, 0, 0, 0, 0, 0, 0) := cd_of gl_205 rfl
theorem cd_205_41 : sm_cd 205 41 = some (.getfield 111, 3, 6, 36, 2, 0, 0, 0, 0) := cd_of gl_205 rfl
theorem cd_205_44 : sm_cd 205 44 = some (.bipush 40, 2, 0, 0, 0, 0, 0, 40, 0) := cd_of gl_205 rfl
theorem cd_205_46 : sm_cd 205 46 = some (.iload_n 1, 1, 1, 0, 0, 0, 0, 0, 0) := cd_of gl_205 rfl
theorem cd_205_47 : sm_cd 205 47 = some (.iadd, 1, 0, 0, 0, 0, 0, 0, 0) := cd_of gl_205 rfl
theorem cd_205_48 : sm_cd 205 48 = some (.iaload, 1, 0, 0, 0, 0, 0, 0, 0) := cd_of gl_205 rfl
theorem cd_205_49 : sm_cd 205 49 = some (.i2l, 1, 0, 0, 0, 0, 0, 0, 0) := cd_of gl_205 rfl
theorem cd_205_50 : sm_cd 205 50 = some (.goto 13, 3, 63, 0, 0, 0, 0, 0, 0) := cd_of gl_205 rfl
theorem cd_205_53 : sm_cd 205 53 = some (.aload_n 0, 1, 0, 0, 0, 0, 0, 0, 0) := cd_of gl_205 rfl
theorem cd_205_54 : sm_cd 205 54 = some (.getfield 111, 3, 6, 36, 2, 0, 0, 0, 0) := cd_of gl_205 rfl
theorem cd_205_57 : sm_cd 205 57 = some (.bipush 10, 2, 0, 0, 0, 0, 0, 10, 0) := cd_of gl_205 rfl
theorem cd_205_59 : sm_cd 205 59 = some (.iload_n 1, 1, 1, 0, 0, 0, 0, 0, 0) := cd_of gl_205 rfl
theorem cd_205_60 : sm_cd 205 60 = some (.iadd, 1, 0, 0, 0, 0, 0, 0, 0) := cd_of gl_205 rfl
theorem cd_205_61 : sm_cd 205 61 = some (.iaload, 1, 0, 0, 0, 0, 0, 0, 0) := cd_of gl_205 rfl
theorem cd_205_62 : sm_cd 205 62 = some (.i2l, 1, 0, 0, 0, 0, 0, 0, 0) := cd_of gl_205 rfl
theorem cd_205_63 : sm_cd 205 63 = some (.lreturn, 1, 0, 0, 0, 0, 0, 0, 0) := cd_of gl_205 rfl
noncomputable def f_205 (K : Nat → Value) (k d : Nat) (l0 : Nat) (l1 : Int32) (l2 : Int32) (w : aW) (I : aI) (J : aJ) : Option aR :=
  gO w 6 l0 (
  if ¬ (I l0 42) = 0 then
    gO w 6 l0 (
    gV w l0 36 fun q_1 =>
    gA w 10 20 q_1 2 (
    cI (Cl K d 19 [.int l1, .int 0, .int ((I q_1 (2 : Int32).toNatClampNeg) - 1)] w I J) fun x_5 w_2 I_3 J_4 =>
    if ¬ x_5 = 0 then
      if l2 = 0 then
        gO w_2 6 l0 (
        gV w_2 l0 36 fun q_6 =>
        gA w_2 10 20 q_6 (10 + l1) (
        some (some (.long ((I_3 q_6 (10 + l1 : Int32).toNatClampNeg : Int32).toInt64)), w_2, I_3, J_4)))
      else
        gO w_2 6 l0 (
        gV w_2 l0 36 fun q_7 =>
        gA w_2 10 20 q_7 (40 + l1) (
        some (some (.long ((I_3 q_7 (40 + l1 : Int32).toNatClampNeg : Int32).toInt64)), w_2, I_3, J_4)))
    else
      gO w_2 6 l0 (
      cJ (Cl K d 20 [.ref l0, .int 1] w_2 I_3 J_4) fun v_11 w_8 I_9 J_10 =>
      some (some (.long v_11), w_8, I_9, J_10))))
  else
    gO w 6 l0 (
    cJ (Cl K d 20 [.ref l0, .int 6] w I J) fun v_15 w_12 I_13 J_14 =>
    some (some (.long v_15), w_12, I_13, J_14)))
theorem ok_205 {K : Nat → Value} {k d : Nat} {l0 : Nat} {l1 : Int32} {l2 : Int32} {w : aW} {I : aI} {J : aJ} {R : aR} (h : f_205 K k d l0 l1 l2 w I J = some R) : Go K (d + 1) 205 0 [some (.ref l0), some (.int l1), some (.int l2)] [] w I J R := by
  unfold f_205 at h
  refine gs_0 (pc' := 1) (L' := [some (.ref l0), some (.int l1), some (.int l2)]) (st' := [.ref l0]) cd_205_0 rfl rfl ?_
  obtain ⟨ht, h⟩ := gO_s h
  refine gs_gfI cd_205_1 (by decide) (by decide) ht ?_
  refine gs_0 (pc' := if ¬ (I l0 42) = 0 then 14 else 7) (L' := [some (.ref l0), some (.int l1), some (.int l2)]) (st' := []) cd_205_4 rfl rfl ?_
  refine go_ite (fun hc => ?_) (fun hc => ?_)
  · rw [if_pos hc] at h
    refine gs_0 (pc' := 15) (L' := [some (.ref l0), some (.int l1), some (.int l2)]) (st' := [.int l1]) cd_205_14 rfl rfl ?_
    refine gs_0 (pc' := 16) (L' := [some (.ref l0), some (.int l1), some (.int l2)]) (st' := [.int 0, .int l1]) cd_205_15 rfl rfl ?_
    refine gs_0 (pc' := 17) (L' := [some (.ref l0), some (.int l1), some (.int l2)]) (st' := [.ref l0, .int 0, .int l1]) cd_205_16 rfl rfl ?_
    obtain ⟨ht, h⟩ := gO_s h
    obtain ⟨q_1, hv, h⟩ := gV_s h
    refine gs_gfR cd_205_17 (by decide) ht hv ?_
    refine gs_0 (pc' := 21) (L' := [some (.ref l0), some (.int l1), some (.int l2)]) (st' := [.int 2, .ref q_1, .int 0, .int l1]) cd_205_20 rfl rfl ?_
    obtain ⟨ht, h⟩ := gA_s h
    refine gs_iald cd_205_21 ht ?_
    refine gs_0 (pc' := 23) (L' := [some (.ref l0), some (.int l1), some (.int l2)]) (st' := [.int 1, .int (I q_1 (2 : Int32).toNatClampNeg), .int 0, .int l1]) cd_205_22 rfl rfl ?_
    refine gs_0 (pc' := 24) (L' := [some (.ref l0), some (.int l1), some (.int l2)]) (st' := [.int ((I q_1 (2 : Int32).toNatClampNeg) - 1), .int 0, .int l1]) cd_205_23 rfl rfl ?_
    obtain ⟨x_5, w_2, I_3, J_4, hcl, h⟩ := cI_s h
    refine gs_call (as := [.int l1, .int 0, .int ((I q_1 (2 : Int32).toNatClampNeg) - 1)]) (rest := []) cd_205_24 rfl (by decide) rfl rfl (Nat.le_of_ble_eq_true rfl) (Nat.le_of_ble_eq_true rfl) rfl hcl ?_
    refine gs_0 (pc' := if ¬ x_5 = 0 then 36 else 30) (L' := [some (.ref l0), some (.int l1), some (.int l2)]) (st' := []) cd_205_27 rfl rfl ?_
    refine go_ite (fun hc => ?_) (fun hc => ?_)
    · rw [if_pos hc] at h
      refine gs_0 (pc' := 37) (L' := [some (.ref l0), some (.int l1), some (.int l2)]) (st' := [.int l2]) cd_205_36 rfl rfl ?_
      refine gs_0 (pc' := if l2 = 0 then 53 else 40) (L' := [some (.ref l0), some (.int l1), some (.int l2)]) (st' := []) cd_205_37 rfl rfl ?_
      refine go_ite (fun hc => ?_) (fun hc => ?_)
      · rw [if_pos hc] at h
        refine gs_0 (pc' := 54) (L' := [some (.ref l0), some (.int l1), some (.int l2)]) (st' := [.ref l0]) cd_205_53 rfl rfl ?_
        obtain ⟨ht, h⟩ := gO_s h
        obtain ⟨q_6, hv, h⟩ := gV_s h
        refine gs_gfR cd_205_54 (by decide) ht hv ?_
        refine gs_0 (pc' := 59) (L' := [some (.ref l0), some (.int l1), some (.int l2)]) (st' := [.int 10, .ref q_6]) cd_205_57 rfl rfl ?_
        refine gs_0 (pc' := 60) (L' := [some (.ref l0), some (.int l1), some (.int l2)]) (st' := [.int l1, .int 10, .ref q_6]) cd_205_59 rfl rfl ?_
        refine gs_0 (pc' := 61) (L' := [some (.ref l0), some (.int l1), some (.int l2)]) (st' := [.int (10 + l1), .ref q_6]) cd_205_60 rfl rfl ?_
        obtain ⟨ht, h⟩ := gA_s h
        refine gs_iald cd_205_61 ht ?_
        refine gs_0 (pc' := 63) (L' := [some (.ref l0), some (.int l1), some (.int l2)]) (st' := [.long ((I_3 q_6 (10 + l1 : Int32).toNatClampNeg : Int32).toInt64)]) cd_205_62 rfl rfl ?_
        cases h
        exact gsr cd_205_63 rfl rfl
      · rw [if_neg hc] at h
        refine gs_0 (pc' := 41) (L' := [some (.ref l0), some (.int l1), some (.int l2)]) (st' := [.ref l0]) cd_205_40 rfl rfl ?_
        obtain ⟨ht, h⟩ := gO_s h
        obtain ⟨q_7, hv, h⟩ := gV_s h
        refine gs_gfR cd_205_41 (by decide) ht hv ?_
        refine gs_0 (pc' := 46) (L' := [some (.ref l0), some (.int l1), some (.int l2)]) (st' := [.int 40, .ref q_7]) cd_205_44 rfl rfl ?_
        refine gs_0 (pc' := 47) (L' := [some (.ref l0), some (.int l1), some (.int l2)]) (st' := [.int l1, .int 40, .ref q_7]) cd_205_46 rfl rfl ?_
        refine gs_0 (pc' := 48) (L' := [some (.ref l0), some (.int l1), some (.int l2)]) (st' := [.int (40 + l1), .ref q_7]) cd_205_47 rfl rfl ?_
        obtain ⟨ht, h⟩ := gA_s h
        refine gs_iald cd_205_48 ht ?_
        refine gs_0 (pc' := 50) (L' := [some (.ref l0), some (.int l1), some (.int l2)]) (st' := [.long ((I_3 q_7 (40 + l1 : Int32).toNatClampNeg : Int32).toInt64)]) cd_205_49 rfl rfl ?_
        refine gs_0 (pc' := 63) (L' := [some (.ref l0), some (.int l1), some (.int l2)]) (st' := [.long ((I_3 q_7 (40 + l1 : Int32).toNatClampNeg : Int32).toInt64)]) cd_205_50 rfl rfl ?_
        cases h
        exact gsr cd_205_63 rfl rfl
    · rw [if_neg hc] at h
      refine gs_0 (pc' := 31) (L' := [some (.ref l0), some (.int l1), some (.int l2)]) (st' := [.ref l0]) cd_205_30 rfl rfl ?_
      refine gs_0 (pc' := 32) (L' := [some (.ref l0), some (.int l1), some (.int l2)]) (st' := [.int 1, .ref l0]) cd_205_31 rfl rfl ?_
      obtain ⟨ht, h⟩ := gO_s h
      obtain ⟨v_11, w_8, I_9, J_10, hcl, h⟩ := cJ_s h
      refine gs_call (as := [.ref l0, .int 1]) (rest := []) cd_205_32 rfl (by decide) rfl (sm_rv_ok (by decide) ht) (Nat.le_of_ble_eq_true rfl) (Nat.le_of_ble_eq_true rfl) rfl hcl ?_
      cases h
      exact gsr cd_205_35 rfl rfl
  · rw [if_neg hc] at h
    refine gs_0 (pc' := 8) (L' := [some (.ref l0), some (.int l1), some (.int l2)]) (st' := [.ref l0]) cd_205_7 rfl rfl ?_
    refine gs_0 (pc' := 10) (L' := [some (.ref l0), some (.int l1), some (.int l2)]) (st' := [.int 6, .ref l0]) cd_205_8 rfl rfl ?_
    obtain ⟨ht, h⟩ := gO_s h
    obtain ⟨v_15, w_12, I_13, J_14, hcl, h⟩ := cJ_s h
    refine gs_call (as := [.ref l0, .int 6]) (rest := []) cd_205_10 rfl (by decide) rfl (sm_rv_ok (by decide) ht) (Nat.le_of_ble_eq_true rfl) (Nat.le_of_ble_eq_true rfl) rfl hcl ?_
    cases h
    exact gsr cd_205_13 rfl rfl
theorem cl_205 {K : Nat → Value} {k d : Nat} {l0 : Nat} {l1 : Int32} {l2 : Int32} {w : aW} {I : aI} {J : aJ} {R : aR} (h : f_205 K k d l0 l1 l2 w I J = some R) : Cl K (d + 1) 205 [.ref l0, .int l1, .int l2] w I J = some R := Cl_of (ok_205 h)
/-! ProvedMachine.variable(II)J -/
set_option maxRecDepth 20000 in
theorem gl_206 : gcd.lookup 206 = some gw_206 := rfl
theorem cd_206_0 : sm_cd 206 0 = some (.aload_n 0, 1, 0, 0, 0, 0, 0, 0, 0) := cd_of gl_206 rfl
theorem cd_206_1 : sm_cd 206 1 = some (.getfield 40, 3, 5, 5, 1, 0, 0, 0, 0) := cd_of gl_206 rfl
theorem cd_206_4 : sm_cd 206 4 = some (.ifCond .ne 10, 3, 14, 0, 0, 0, 0, 0, 0) := cd_of gl_206 rfl
theorem cd_206_7 : sm_cd 206 7 = some (.aload_n 0, 1, 0, 0, 0, 0, 0, 0, 0) := cd_of gl_206 rfl
theorem cd_206_8 : sm_cd 206 8 = some (.bipush 6, 2, 0, 0, 0, 0, 0, 6, 0) := cd_of gl_206 rfl
theorem cd_206_10 : sm_cd 206 10 = some (.invokevirtual 60, 3, 17, 0, 1, 2, 5, 0, 0) := cd_of gl_206 rfl
theorem cd_206_13 : sm_cd 206 13 = some (.lreturn, 1, 0, 0, 0, 0, 0, 0, 0) := cd_of gl_206 rfl
theorem cd_206_14 : sm_cd 206 14 = some (.iload_n 1, 1, 1, 0, 0, 0, 0, 0, 0) := cd_of gl_206 rfl
theorem cd_206_15 : sm_cd 206 15 = some (.ifCond .lt 31, 3, 46, 0, 0, 0, 0, 0, 0) := cd_of gl_206 rfl
theorem cd_206_18 : sm_cd 206 18 = some (.iload_n 1, 1, 1, 0, 0, 0, 0, 0, 0) := cd_of gl_206 rfl
theorem cd_206_19 : sm_cd 206 19 = some (.aload_n 0, 1, 0, 0, 0, 0, 0, 0, 0) := cd_of gl_206 rfl
theorem cd_206_20 : sm_cd 206 20 = some (.getfield 36, 3, 5, 4, 2, 0, 0, 0, 0) := cd_of gl_206 rfl
theorem cd_206_23 : sm_cd 206 23 = some (.iconst 4, 1, 0, 0, 0, 0, 0, 4, 0) := cd_of gl_206 rfl
theorem cd_206_24 : sm_cd 206 24 = some (.invokevirtual 131, 3, 147, 0, 1, 2, 0, 0, 0) := cd_of gl_206 rfl
theorem cd_206_27 : sm_cd 206 27 = some (.if_icmp .ge 19, 3, 46, 0, 0, 0, 0, 0, 0) := cd_of gl_206 rfl
theorem cd_206_30 : sm_cd 206 30 = some (.iload_n 2, 1, 2, 0, 0, 0, 0, 0, 0) := cd_of gl_206 rfl
theorem cd_206_31 : sm_cd 206 31 = some (.ifCond .lt 15, 3, 46, 0, 0, 0, 0, 0, 0) := cd_of gl_206 rfl
theorem cd_206_34 : sm_cd 206 34 = some (.iload_n 2, 1, 2, 0, 0, 0, 0, 0, 0) := cd_of gl_206 rfl
theorem cd_206_35 : sm_cd 206 35 = some (.aload_n 0, 1, 0, 0, 0, 0, 0, 0, 0) := cd_of gl_206 rfl
theorem cd_206_36 : sm_cd 206 36 = some (.getfield 36, 3, 5, 4, 2, 0, 0, 0, 0) := cd_of gl_206 rfl
theorem cd_206_39 : sm_cd 206 39 = some (.iload_n 1, 1, 1, 0, 0, 0, 0, 0, 0) := cd_of gl_206 rfl
theorem cd_206_40 : sm_cd 206 40 = some (.invokevirtual 142, 3, 156, 0, 1, 2, 0, 0, 0) := cd_of gl_206 rfl
theorem cd_206_43 : sm_cd 206 43 = some (.if_icmp .lt 9, 3, 52, 0, 0, 0, 0, 0, 0) := cd_of gl_206 rfl
theorem cd_206_46 : sm_cd 206 46 = some (.aload_n 0, 1, 0, 0, 0, 0, 0, 0, 0) := cd_of gl_206 rfl
theorem cd_206_47 : sm_cd 206 47 = some (.iconst 1, 1, 0, 0, 0, 0, 0, 1, 0) := cd_of gl_206 rfl
theorem cd_206_48 : sm_cd 206 48 = some (.invokevirtual 60, 3, 17, 0, 1, 2, 5, 0, 0) := cd_of gl_206 rfl
theorem cd_206_51 : sm_cd 206 51 = some (.lreturn, 1, 0, 0, 0, 0, 0, 0, 0) := cd_of gl_206 rfl
theorem cd_206_52 : sm_cd 206 52 = some (.aload_n 0, 1, 0, 0, 0, 0, 0, 0, 0) := cd_of gl_206 rfl
theorem cd_206_53 : sm_cd 206 53 = some (.getfield 36, 3, 5, 4, 2, 0, 0, 0, 0) := cd_of gl_206 rfl
theorem cd_206_56 : sm_cd 206 56 = some (.iload_n 1, 1, 1, 0, 0, 0, 0, 0, 0) := cd_of gl_206 rfl
theorem cd_206_57 : sm_cd 206 57 = some (.iload_n 2, 1, 2, 0, 0, 0, 0, 0, 0) := cd_of gl_206 rfl
theorem cd_206_58 : sm_cd 206 58 = some (.invokevirtual 145, 3, 158, 0, 2, 3, 0, 0, 0) := cd_of gl_206 rfl
theorem cd_206_61 : sm_cd 206 61 = some (.i2l, 1, 0, 0, 0, 0, 0, 0, 0) := cd_of gl_206 rfl
theorem cd_206_62 : sm_cd 206 62 = some (.lreturn, 1, 0, 0, 0, 0, 0, 0, 0) := cd_of gl_206 rfl
noncomputable def f_206_46 (K : Nat → Value) (k d : Nat) (l0 : Nat) (l1 : Int32) (l2 : Int32) (w : aW) (I : aI) (J : aJ) : Option aR :=
  gO w 5 l0 (
  cJ (Cl K d 17 [.ref l0, .int 1] w I J) fun v_4 w_1 I_2 J_3 =>
  some (some (.long v_4), w_1, I_2, J_3))
theorem ok_206_46 {K : Nat → Value} {k d : Nat} {l0 : Nat} {l1 : Int32} {l2 : Int32} {w : aW} {I : aI} {J : aJ} {R : aR} (h : f_206_46 K k d l0 l1 l2 w I J = some R) : Go K (d + 1) 206 46 [some (.ref l0), some (.int l1), some (.int l2)] [] w I J R := by
  unfold f_206_46 at h
  refine gs_0 (pc' := 47) (L' := [some (.ref l0), some (.int l1), some (.int l2)]) (st' := [.ref l0]) cd_206_46 rfl rfl ?_
  refine gs_0 (pc' := 48) (L' := [some (.ref l0), some (.int l1), some (.int l2)]) (st' := [.int 1, .ref l0]) cd_206_47 rfl rfl ?_
  obtain ⟨ht, h⟩ := gO_s h
  obtain ⟨v_4, w_1, I_2, J_3, hcl, h⟩ := cJ_s h
  refine gs_call (as := [.ref l0, .int 1]) (rest := []) cd_206_48 rfl (by decide) rfl (sm_rv_ok (by decide) ht) (Nat.le_of_ble_eq_true rfl) (Nat.le_of_ble_eq_true rfl) rfl hcl ?_
  cases h
  exact gsr cd_206_51 rfl rfl
noncomputable def f_206 (K : Nat → Value) (k d : Nat) (l0 : Nat) (l1 : Int32) (l2 : Int32) (w : aW) (I : aI) (J : aJ) : Option aR :=
  gO w 5 l0 (
  if ¬ (I l0 5) = 0 then
    if l1 < 0 then
      f_206_46 K k d l0 l1 l2 w I J
    else
      gO w 5 l0 (
      gV w l0 4 fun q_1 =>
      gO w 0 q_1 (
      cI (Cl K d 147 [.ref q_1, .int 4] w I J) fun x_5 w_2 I_3 J_4 =>
      if x_5 ≤ l1 then
        f_206_46 K k d l0 l1 l2 w_2 I_3 J_4
      else
        if l2 < 0 then
          f_206_46 K k d l0 l1 l2 w_2 I_3 J_4
        else
          gO w_2 5 l0 (
          gV w_2 l0 4 fun q_6 =>
          gO w_2 0 q_6 (
          cI (Cl K d 156 [.ref q_6, .int l1] w_2 I_3 J_4) fun x_10 w_7 I_8 J_9 =>
          if l2 < x_10 then
            gO w_7 5 l0 (
            gV w_7 l0 4 fun q_11 =>
            gO w_7 0 q_11 (
            cI (Cl K d 158 [.ref q_11, .int l1, .int l2] w_7 I_8 J_9) fun x_15 w_12 I_13 J_14 =>
            some (some (.long ((x_15 : Int32).toInt64)), w_12, I_13, J_14)))
          else
            f_206_46 K k d l0 l1 l2 w_7 I_8 J_9))))
  else
    gO w 5 l0 (
    cJ (Cl K d 17 [.ref l0, .int 6] w I J) fun v_19 w_16 I_17 J_18 =>
    some (some (.long v_19), w_16, I_17, J_18)))
theorem ok_206 {K : Nat → Value} {k d : Nat} {l0 : Nat} {l1 : Int32} {l2 : Int32} {w : aW} {I : aI} {J : aJ} {R : aR} (h : f_206 K k d l0 l1 l2 w I J = some R) : Go K (d + 1) 206 0 [some (.ref l0), some (.int l1), some (.int l2)] [] w I J R := by
  unfold f_206 at h
  refine gs_0 (pc' := 1) (L' := [some (.ref l0), some (.int l1), some (.int l2)]) (st' := [.ref l0]) cd_206_0 rfl rfl ?_
  obtain ⟨ht, h⟩ := gO_s h
  refine gs_gfI cd_206_1 (by decide) (by decide) ht ?_
  refine gs_0 (pc' := if ¬ (I l0 5) = 0 then 14 else 7) (L' := [some (.ref l0), some (.int l1), some (.int l2)]) (st' := []) cd_206_4 rfl rfl ?_
  refine go_ite (fun hc => ?_) (fun hc => ?_)
  · rw [if_pos hc] at h
    refine gs_0 (pc' := 15) (L' := [some (.ref l0), some (.int l1), some (.int l2)]) (st' := [.int l1]) cd_206_14 rfl rfl ?_
    refine gs_0 (pc' := if l1 < 0 then 46 else 18) (L' := [some (.ref l0), some (.int l1), some (.int l2)]) (st' := []) cd_206_15 rfl rfl ?_
    refine go_ite (fun hc => ?_) (fun hc => ?_)
    · rw [if_pos hc] at h
      exact ok_206_46 h
    · rw [if_neg hc] at h
      refine gs_0 (pc' := 19) (L' := [some (.ref l0), some (.int l1), some (.int l2)]) (st' := [.int l1]) cd_206_18 rfl rfl ?_
      refine gs_0 (pc' := 20) (L' := [some (.ref l0), some (.int l1), some (.int l2)]) (st' := [.ref l0, .int l1]) cd_206_19 rfl rfl ?_
      obtain ⟨ht, h⟩ := gO_s h
      obtain ⟨q_1, hv, h⟩ := gV_s h
      refine gs_gfR cd_206_20 (by decide) ht hv ?_
      refine gs_0 (pc' := 24) (L' := [some (.ref l0), some (.int l1), some (.int l2)]) (st' := [.int 4, .ref q_1, .int l1]) cd_206_23 rfl rfl ?_
      obtain ⟨ht, h⟩ := gO_s h
      obtain ⟨x_5, w_2, I_3, J_4, hcl, h⟩ := cI_s h
      refine gs_call (as := [.ref q_1, .int 4]) (rest := [.int l1]) cd_206_24 rfl (by decide) rfl (sm_rv_ok (by decide) ht) (Nat.le_of_ble_eq_true rfl) (Nat.le_of_ble_eq_true rfl) rfl hcl ?_
      refine gs_0 (pc' := if x_5 ≤ l1 then 46 else 30) (L' := [some (.ref l0), some (.int l1), some (.int l2)]) (st' := []) cd_206_27 rfl rfl ?_
      refine go_ite (fun hc => ?_) (fun hc => ?_)
      · rw [if_pos hc] at h
        exact ok_206_46 h
      · rw [if_neg hc] at h
        refine gs_0 (pc' := 31) (L' := [some (.ref l0), some (.int l1), some (.int l2)]) (st' := [.int l2]) cd_206_30 rfl rfl ?_
        refine gs_0 (pc' := if l2 < 0 then 46 else 34) (L' := [some (.ref l0), some (.int l1), some (.int l2)]) (st' := []) cd_206_31 rfl rfl ?_
        refine go_ite (fun hc => ?_) (fun hc => ?_)
        · rw [if_pos hc] at h
          exact ok_206_46 h
        · rw [if_neg hc] at h
          refine gs_0 (pc' := 35) (L' := [some (.ref l0), some (.int l1), some (.int l2)]) (st' := [.int l2]) cd_206_34 rfl rfl ?_
          refine gs_0 (pc' := 36) (L' := [some (.ref l0), some (.int l1), some (.int l2)]) (st' := [.ref l0, .int l2]) cd_206_35 rfl rfl ?_
          obtain ⟨ht, h⟩ := gO_s h
          obtain ⟨q_6, hv, h⟩ := gV_s h
          refine gs_gfR cd_206_36 (by decide) ht hv ?_
          refine gs_0 (pc' := 40) (L' := [some (.ref l0), some (.int l1), some (.int l2)]) (st' := [.int l1, .ref q_6, .int l2]) cd_206_39 rfl rfl ?_
          obtain ⟨ht, h⟩ := gO_s h
          obtain ⟨x_10, w_7, I_8, J_9, hcl, h⟩ := cI_s h
          refine gs_call (as := [.ref q_6, .int l1]) (rest := [.int l2]) cd_206_40 rfl (by decide) rfl (sm_rv_ok (by decide) ht) (Nat.le_of_ble_eq_true rfl) (Nat.le_of_ble_eq_true rfl) rfl hcl ?_
          refine gs_0 (pc' := if l2 < x_10 then 52 else 46) (L' := [some (.ref l0), some (.int l1), some (.int l2)]) (st' := []) cd_206_43 rfl rfl ?_
          refine go_ite (fun hc => ?_) (fun hc => ?_)
          · rw [if_pos hc] at h
            refine gs_0 (pc' := 53) (L' := [some (.ref l0), some (.int l1), some (.int l2)]) (st' := [.ref l0]) cd_206_52 rfl rfl ?_
            obtain ⟨ht, h⟩ := gO_s h
            obtain ⟨q_11, hv, h⟩ := gV_s h
            refine gs_gfR cd_206_53 (by decide) ht hv ?_
            refine gs_0 (pc' := 57) (L' := [some (.ref l0), some (.int l1), some (.int l2)]) (st' := [.int l1, .ref q_11]) cd_206_56 rfl rfl ?_
            refine gs_0 (pc' := 58) (L' := [some (.ref l0), some (.int l1), some (.int l2)]) (st' := [.int l2, .int l1, .ref q_11]) cd_206_57 rfl rfl ?_
            obtain ⟨ht, h⟩ := gO_s h
            obtain ⟨x_15, w_12, I_13, J_14, hcl, h⟩ := cI_s h
            refine gs_call (as := [.ref q_11, .int l1, .int l2]) (rest := []) cd_206_58 rfl (by decide) rfl (sm_rv_ok (by decide) ht) (Nat.le_of_ble_eq_true rfl) (Nat.le_of_ble_eq_true rfl) rfl hcl ?_
            refine gs_0 (pc' := 62) (L' := [some (.ref l0), some (.int l1), some (.int l2)]) (st' := [.long ((x_15 : Int32).toInt64)]) cd_206_61 rfl rfl ?_
            cases h
            exact gsr cd_206_62 rfl rfl
          · rw [if_neg hc] at h
            exact ok_206_46 h
  · rw [if_neg hc] at h
    refine gs_0 (pc' := 8) (L' := [some (.ref l0), some (.int l1), some (.int l2)]) (st' := [.ref l0]) cd_206_7 rfl rfl ?_
    refine gs_0 (pc' := 10) (L' := [some (.ref l0), some (.int l1), some (.int l2)]) (st' := [.int 6, .ref l0]) cd_206_8 rfl rfl ?_
    obtain ⟨ht, h⟩ := gO_s h
    obtain ⟨v_19, w_16, I_17, J_18, hcl, h⟩ := cJ_s h
    refine gs_call (as := [.ref l0, .int 6]) (rest := []) cd_206_10 rfl (by decide) rfl (sm_rv_ok (by decide) ht) (Nat.le_of_ble_eq_true rfl) (Nat.le_of_ble_eq_true rfl) rfl hcl ?_
    cases h
    exact gsr cd_206_13 rfl rfl
theorem cl_206 {K : Nat → Value} {k d : Nat} {l0 : Nat} {l1 : Int32} {l2 : Int32} {w : aW} {I : aI} {J : aJ} {R : aR} (h : f_206 K k d l0 l1 l2 w I J = some R) : Cl K (d + 1) 206 [.ref l0, .int l1, .int l2] w I J = some R := Cl_of (ok_206 h)
/-! ProvedMachineModel.variable(II)J -/
set_option maxRecDepth 20000 in
theorem gl_207 : gcd.lookup 207 = some gw_207 := rfl
theorem cd_207_0 : sm_cd 207 0 = some (.aload_n 0, 1, 0, 0, 0, 0, 0, 0, 0) := cd_of gl_207 rfl
theorem cd_207_1 : sm_cd 207 1 = some (.getfield 333, 3, 6, 42, 1, 0, 0, 0, 0) := cd_of gl_207 rfl
theorem cd_207_4 : sm_cd 207 4 = some (.ifCond .ne 10, 3, 14, 0, 0, 0, 0, 0, 0) := cd_of gl_207 rfl
theorem cd_207_7 : sm_cd 207 7 = some (.aload_n 0, 1, 0, 0, 0, 0, 0, 0, 0) := cd_of gl_207 rfl
theorem cd_207_8 : sm_cd 207 8 = some (.bipush 6, 2, 0, 0, 0, 0, 0, 6, 0) := cd_of gl_207 rfl
theorem cd_207_10 : sm_cd 207 10 = some (.invokevirtual 148, 3, 20, 0, 1, 2, 6, 0, 0) := cd_of gl_207 rfl
theorem cd_207_13 : sm_cd 207 13 = some (.lreturn, 1, 0, 0, 0, 0, 0, 0, 0) := cd_of gl_207 rfl
theorem cd_207_14 : sm_cd 207 14 = some (.iload_n 1, 1, 1, 0, 0, 0, 0, 0, 0) := cd_of gl_207 rfl
theorem cd_207_15 : sm_cd 207 15 = some (.iconst 0, 1, 0, 0, 0, 0, 0, 0, 0) := cd_of gl_207 rfl
theorem cd_207_16 : sm_cd 207 16 = some (.aload_n 0, 1, 0, 0, 0, 0, 0, 0, 0) := cd_of gl_207 rfl
theorem cd_207_17 : sm_cd 207 17 = some (.getfield 111, 3, 6, 36, 2, 0, 0, 0, 0) := cd_of gl_207 rfl
theorem cd_207_20 : sm_cd 207 20 = some (.iconst 1, 1, 0, 0, 0, 0, 0, 1, 0) := cd_of gl_207 rfl
theorem cd_207_21 : sm_cd 207 21 = some (.iaload, 1, 0, 0, 0, 0, 0, 0, 0) := cd_of gl_207 rfl
theorem cd_207_22 : sm_cd 207 22 = some (.iconst 1, 1, 0, 0, 0, 0, 0, 1, 0) := cd_of gl_207 rfl
theorem cd_207_23 : sm_cd 207 23 = some (.isub, 1, 0, 0, 0, 0, 0, 0, 0) := cd_of gl_207 rfl
theorem cd_207_24 : sm_cd 207 24 = some (.invokestatic 144, 3, 19, 1, 3, 3, 6, 0, 0) := cd_of gl_207 rfl
theorem cd_207_27 : sm_cd 207 27 = some (.ifCond .eq 35, 3, 62, 0, 0, 0, 0, 0, 0) := cd_of gl_207 rfl
theorem cd_207_30 : sm_cd 207 30 = some (.iload_n 2, 1, 2, 0, 0, 0, 0, 0, 0) := cd_of gl_207 rfl
theorem cd_207_31 : sm_cd 207 31 = some (.iconst 0, 1, 0, 0, 0, 0, 0, 0, 0) := cd_of gl_207 rfl
theorem cd_207_32 : sm_cd 207 32 = some (.aload_n 0, 1, 0, 0, 0, 0, 0, 0, 0) := cd_of gl_207 rfl
theorem cd_207_33 : sm_cd 207 33 = some (.getfield 47, 3, 6, 18, 2, 0, 0, 0, 0) := cd_of gl_207 rfl
theorem cd_207_36 : sm_cd 207 36 = some (.bipush 10, 2, 0, 0, 0, 0, 0, 10, 0) := cd_of gl_207 rfl
theorem cd_207_38 : sm_cd 207 38 = some (.aload_n 0, 1, 0, 0, 0, 0, 0, 0, 0) := cd_of gl_207 rfl
theorem cd_207_39 : sm_cd 207 39 = some (.getfield 111, 3, 6, 36, 2, 0, 0, 0, 0) := cd_of gl_207 rfl
theorem cd_207_42 : sm_cd 207 42 = some (.bipush 70, 2, 0, 0, 0, 0, 0, 70, 0) := cd_of gl_207 rfl
theorem cd_207_44 : sm_cd 207 44 = some (.bipush 8, 2, 0, 0, 0, 0, 0, 8, 0) := cd_of gl_207 rfl
theorem cd_207_46 : sm_cd 207 46 = some (.iload_n 1, 1, 1, 0, 0, 0, 0, 0, 0) := cd_of gl_207 rfl
theorem cd_207_47 : sm_cd 207 47 = some (.imul, 1, 0, 0, 0, 0, 0, 0, 0) := cd_of gl_207 rfl
theorem cd_207_48 : sm_cd 207 48 = some (.iadd, 1, 0, 0, 0, 0, 0, 0, 0) := cd_of gl_207 rfl
theorem cd_207_49 : sm_cd 207 49 = some (.iaload, 1, 0, 0, 0, 0, 0, 0, 0) := cd_of gl_207 rfl
theorem cd_207_50 : sm_cd 207 50 = some (.imul, 1, 0, 0, 0, 0, 0, 0, 0) := cd_of gl_207 rfl
theorem cd_207_51 : sm_cd 207 51 = some (.iconst 2, 1, 0, 0, 0, 0, 0, 2, 0) := cd_of gl_207 rfl
theorem cd_207_52 : sm_cd 207 52 = some (.iadd, 1, 0, 0, 0, 0, 0, 0, 0) := cd_of gl_207 rfl
theorem cd_207_53 : sm_cd 207 53 = some (.iaload, 1, 0, 0, 0, 0, 0, 0, 0) := cd_of gl_207 rfl
theorem cd_207_54 : sm_cd 207 54 = some (.iconst 1, 1, 0, 0, 0, 0, 0, 1, 0) := cd_of gl_207 rfl
theorem cd_207_55 : sm_cd 207 55 = some (.isub, 1, 0, 0, 0, 0, 0, 0, 0) := cd_of gl_207 rfl
theorem cd_207_56 : sm_cd 207 56 = some (.invokestatic 144, 3, 19, 1, 3, 3, 6, 0, 0) := cd_of gl_207 rfl
theorem cd_207_59 : sm_cd 207 59 = some (.ifCond .ne 9, 3, 68, 0, 0, 0, 0, 0, 0) := cd_of gl_207 rfl
theorem cd_207_62 : sm_cd 207 62 = some (.aload_n 0, 1, 0, 0, 0, 0, 0, 0, 0) := cd_of gl_207 rfl
theorem cd_207_63 : sm_cd 207 63 = some (.iconst 1, 1, 0, 0, 0, 0, 0, 1, 0) := cd_of gl_207 rfl
theorem cd_207_64 : sm_cd 207 64 = some (.invokevirtual 148, 3, 20, 0, 1, 2, 6, 0, 0) := cd_of gl_207 rfl
theorem cd_207_67 : sm_cd 207 67 = some (.lreturn, 1, 0, 0, 0, 0, 0, 0, 0) := cd_of gl_207 rfl
theorem cd_207_68 : sm_cd 207 68 = some (.aload_n 0, 1, 0, 0, 0, 0, 0, 0, 0) := cd_of gl_207 rfl
theorem cd_207_69 : sm_cd 207 69 = some (.getfield 111, 3, 6, 36, 2, 0, 0, 0, 0) := cd_of gl_207 rfl
theorem cd_207_72 : sm_cd 207 72 = some (.bipush 70, 2, 0, 0, 0, 0, 0, 70, 0) := cd_of gl_207 rfl
theorem cd_207_74 : sm_cd 207 74 = some (.bipush 8, 2, 0, 0, 0, 0, 0, 8, 0) := cd_of gl_207 rfl
theorem cd_207_76 : sm_cd 207 76 = some (.iload_n 1, 1, 1, 0, 0, 0, 0, 0, 0) := cd_of gl_207 rfl
theorem cd_207_77 : sm_cd 207 77 = some (.imul, 1, 0, 0, 0, 0, 0, 0, 0) := cd_of gl_207 rfl
theorem cd_207_78 : sm_cd 207 78 = some (.iadd, 1, 0, 0, 0, 0, 0, 0, 0) := cd_of gl_207 rfl
theorem cd_207_79 : sm_cd 207 79 = some (.iconst 2, 1, 0, 0, 0, 0, 0, 2, 0) := cd_of gl_207 rfl
theorem cd_207_80 : sm_cd 207 80 = some (.iadd, 1, 0, 0, 0, 0, 0, 0, 0) := cd_of gl_207 rfl
theorem cd_207_81 : sm_cd 207 81 = some (.iload_n 2, 1, 2, 0, 0, 0, 0, 0, 0) := cd_of gl_207 rfl
theorem cd_207_82 : sm_cd 207 82 = some (.iadd, 1, 0, 0, 0, 0, 0, 0, 0) := cd_of gl_207 rfl
theorem cd_207_83 : sm_cd 207 83 = some (.iaload, 1, 0, 0, 0, 0, 0, 0, 0) := cd_of gl_207 rfl
theorem cd_207_84 : sm_cd 207 84 = some (.i2l, 1, 0, 0, 0, 0, 0, 0, 0) := cd_of gl_207 rfl
theorem cd_207_85 : sm_cd 207 85 = some (.lreturn, 1, 0, 0, 0, 0, 0, 0, 0) := cd_of gl_207 rfl
noncomputable def f_207_62 (K : Nat → Value) (k d : Nat) (l0 : Nat) (l1 : Int32) (l2 : Int32) (w : aW) (I : aI) (J : aJ) : Option aR :=
  gO w 6 l0 (
  cJ (Cl K d 20 [.ref l0, .int 1] w I J) fun v_4 w_1 I_2 J_3 =>
  some (some (.long v_4), w_1, I_2, J_3))
theorem ok_207_62 {K : Nat → Value} {k d : Nat} {l0 : Nat} {l1 : Int32} {l2 : Int32} {w : aW} {I : aI} {J : aJ} {R : aR} (h : f_207_62 K k d l0 l1 l2 w I J = some R) : Go K (d + 1) 207 62 [some (.ref l0), some (.int l1), some (.int l2)] [] w I J R := by
  unfold f_207_62 at h
  refine gs_0 (pc' := 63) (L' := [some (.ref l0), some (.int l1), some (.int l2)]) (st' := [.ref l0]) cd_207_62 rfl rfl ?_
  refine gs_0 (pc' := 64) (L' := [some (.ref l0), some (.int l1), some (.int l2)]) (st' := [.int 1, .ref l0]) cd_207_63 rfl rfl ?_
  obtain ⟨ht, h⟩ := gO_s h
  obtain ⟨v_4, w_1, I_2, J_3, hcl, h⟩ := cJ_s h
  refine gs_call (as := [.ref l0, .int 1]) (rest := []) cd_207_64 rfl (by decide) rfl (sm_rv_ok (by decide) ht) (Nat.le_of_ble_eq_true rfl) (Nat.le_of_ble_eq_true rfl) rfl hcl ?_
  cases h
  exact gsr cd_207_67 rfl rfl
noncomputable def f_207 (K : Nat → Value) (k d : Nat) (l0 : Nat) (l1 : Int32) (l2 : Int32) (w : aW) (I : aI) (J : aJ) : Option aR :=
  gO w 6 l0 (
  if ¬ (I l0 42) = 0 then
    gO w 6 l0 (
    gV w l0 36 fun q_1 =>
    gA w 10 20 q_1 1 (
    cI (Cl K d 19 [.int l1, .int 0, .int ((I q_1 (1 : Int32).toNatClampNeg) - 1)] w I J) fun x_5 w_2 I_3 J_4 =>
    if x_5 = 0 then
      f_207_62 K k d l0 l1 l2 w_2 I_3 J_4
    else
      gO w_2 6 l0 (
      gV w_2 l0 18 fun q_6 =>
      gO w_2 6 l0 (
      gV w_2 l0 36 fun q_7 =>
      gA w_2 10 20 q_7 (70 + (8 * l1)) (
      gA w_2 10 20 q_6 ((10 * (I_3 q_7 (70 + (8 * l1) : Int32).toNatClampNeg)) + 2) (
      cI (Cl K d 19 [.int l2, .int 0, .int ((I_3 q_6 ((10 * (I_3 q_7 (70 + (8 * l1) : Int32).toNatClampNeg)) + 2 : Int32).toNatClampNeg) - 1)] w_2 I_3 J_4) fun x_11 w_8 I_9 J_10 =>
      if ¬ x_11 = 0 then
        gO w_8 6 l0 (
        gV w_8 l0 36 fun q_12 =>
        gA w_8 10 20 q_12 (((70 + (8 * l1)) + 2) + l2) (
        some (some (.long ((I_9 q_12 (((70 + (8 * l1)) + 2) + l2 : Int32).toNatClampNeg : Int32).toInt64)), w_8, I_9, J_10)))
      else
        f_207_62 K k d l0 l1 l2 w_8 I_9 J_10))))))
  else
    gO w 6 l0 (
    cJ (Cl K d 20 [.ref l0, .int 6] w I J) fun v_16 w_13 I_14 J_15 =>
    some (some (.long v_16), w_13, I_14, J_15)))
theorem ok_207 {K : Nat → Value} {k d : Nat} {l0 : Nat} {l1 : Int32} {l2 : Int32} {w : aW} {I : aI} {J : aJ} {R : aR} (h : f_207 K k d l0 l1 l2 w I J = some R) : Go K (d + 1) 207 0 [some (.ref l0), some (.int l1), some (.int l2)] [] w I J R := by
  unfold f_207 at h
  refine gs_0 (pc' := 1) (L' := [some (.ref l0), some (.int l1), some (.int l2)]) (st' := [.ref l0]) cd_207_0 rfl rfl ?_
  obtain ⟨ht, h⟩ := gO_s h
  refine gs_gfI cd_207_1 (by decide) (by decide) ht ?_
  refine gs_0 (pc' := if ¬ (I l0 42) = 0 then 14 else 7) (L' := [some (.ref l0), some (.int l1), some (.int l2)]) (st' := []) cd_207_4 rfl rfl ?_
  refine go_ite (fun hc => ?_) (fun hc => ?_)
  · rw [if_pos hc] at h
    refine gs_0 (pc' := 15) (L' := [some (.ref l0), some (.int l1), some (.int l2)]) (st' := [.int l1]) cd_207_14 rfl rfl ?_
    refine gs_0 (pc' := 16) (L' := [some (.ref l0), some (.int l1), some (.int l2)]) (st' := [.int 0, .int l1]) cd_207_15 rfl rfl ?_
    refine gs_0 (pc' := 17) (L' := [some (.ref l0), some (.int l1), some (.int l2)]) (st' := [.ref l0, .int 0, .int l1]) cd_207_16 rfl rfl ?_
    obtain ⟨ht, h⟩ := gO_s h
    obtain ⟨q_1, hv, h⟩ := gV_s h
    refine gs_gfR cd_207_17 (by decide) ht hv ?_
    refine gs_0 (pc' := 21) (L' := [some (.ref l0), some (.int l1), some (.int l2)]) (st' := [.int 1, .ref q_1, .int 0, .int l1]) cd_207_20 rfl rfl ?_
    obtain ⟨ht, h⟩ := gA_s h
    refine gs_iald cd_207_21 ht ?_
    refine gs_0 (pc' := 23) (L' := [some (.ref l0), some (.int l1), some (.int l2)]) (st' := [.int 1, .int (I q_1 (1 : Int32).toNatClampNeg), .int 0, .int l1]) cd_207_22 rfl rfl ?_
    refine gs_0 (pc' := 24) (L' := [some (.ref l0), some (.int l1), some (.int l2)]) (st' := [.int ((I q_1 (1 : Int32).toNatClampNeg) - 1), .int 0, .int l1]) cd_207_23 rfl rfl ?_
    obtain ⟨x_5, w_2, I_3, J_4, hcl, h⟩ := cI_s h
    refine gs_call (as := [.int l1, .int 0, .int ((I q_1 (1 : Int32).toNatClampNeg) - 1)]) (rest := []) cd_207_24 rfl (by decide) rfl rfl (Nat.le_of_ble_eq_true rfl) (Nat.le_of_ble_eq_true rfl) rfl hcl ?_
    refine gs_0 (pc' := if x_5 = 0 then 62 else 30) (L' := [some (.ref l0), some (.int l1), some (.int l2)]) (st' := []) cd_207_27 rfl rfl ?_
    refine go_ite (fun hc => ?_) (fun hc => ?_)
    · rw [if_pos hc] at h
      exact ok_207_62 h
    · rw [if_neg hc] at h
      refine gs_0 (pc' := 31) (L' := [some (.ref l0), some (.int l1), some (.int l2)]) (st' := [.int l2]) cd_207_30 rfl rfl ?_
      refine gs_0 (pc' := 32) (L' := [some (.ref l0), some (.int l1), some (.int l2)]) (st' := [.int 0, .int l2]) cd_207_31 rfl rfl ?_
      refine gs_0 (pc' := 33) (L' := [some (.ref l0), some (.int l1), some (.int l2)]) (st' := [.ref l0, .int 0, .int l2]) cd_207_32 rfl rfl ?_
      obtain ⟨ht, h⟩ := gO_s h
      obtain ⟨q_6, hv, h⟩ := gV_s h
      refine gs_gfR cd_207_33 (by decide) ht hv ?_
      refine gs_0 (pc' := 38) (L' := [some (.ref l0), some (.int l1), some (.int l2)]) (st' := [.int 10, .ref q_6, .int 0, .int l2]) cd_207_36 rfl rfl ?_
      refine gs_0 (pc' := 39) (L' := [some (.ref l0), some (.int l1), some (.int l2)]) (st' := [.ref l0, .int 10, .ref q_6, .int 0, .int l2]) cd_207_38 rfl rfl ?_
      obtain ⟨ht, h⟩ := gO_s h
      obtain ⟨q_7, hv, h⟩ := gV_s h
      refine gs_gfR cd_207_39 (by decide) ht hv ?_
      refine gs_0 (pc' := 44) (L' := [some (.ref l0), some (.int l1), some (.int l2)]) (st' := [.int 70, .ref q_7, .int 10, .ref q_6, .int 0, .int l2]) cd_207_42 rfl rfl ?_
      refine gs_0 (pc' := 46) (L' := [some (.ref l0), some (.int l1), some (.int l2)]) (st' := [.int 8, .int 70, .ref q_7, .int 10, .ref q_6, .int 0, .int l2]) cd_207_44 rfl rfl ?_
      refine gs_0 (pc' := 47) (L' := [some (.ref l0), some (.int l1), some (.int l2)]) (st' := [.int l1, .int 8, .int 70, .ref q_7, .int 10, .ref q_6, .int 0, .int l2]) cd_207_46 rfl rfl ?_
      refine gs_0 (pc' := 48) (L' := [some (.ref l0), some (.int l1), some (.int l2)]) (st' := [.int (8 * l1), .int 70, .ref q_7, .int 10, .ref q_6, .int 0, .int l2]) cd_207_47 rfl rfl ?_
      refine gs_0 (pc' := 49) (L' := [some (.ref l0), some (.int l1), some (.int l2)]) (st' := [.int (70 + (8 * l1)), .ref q_7, .int 10, .ref q_6, .int 0, .int l2]) cd_207_48 rfl rfl ?_
      obtain ⟨ht, h⟩ := gA_s h
      refine gs_iald cd_207_49 ht ?_
      refine gs_0 (pc' := 51) (L' := [some (.ref l0), some (.int l1), some (.int l2)]) (st' := [.int (10 * (I_3 q_7 (70 + (8 * l1) : Int32).toNatClampNeg)), .ref q_6, .int 0, .int l2]) cd_207_50 rfl rfl ?_
      refine gs_0 (pc' := 52) (L' := [some (.ref l0), some (.int l1), some (.int l2)]) (st' := [.int 2, .int (10 * (I_3 q_7 (70 + (8 * l1) : Int32).toNatClampNeg)), .ref q_6, .int 0, .int l2]) cd_207_51 rfl rfl ?_
      refine gs_0 (pc' := 53) (L' := [some (.ref l0), some (.int l1), some (.int l2)]) (st' := [.int ((10 * (I_3 q_7 (70 + (8 * l1) : Int32).toNatClampNeg)) + 2), .ref q_6, .int 0, .int l2]) cd_207_52 rfl rfl ?_
      obtain ⟨ht, h⟩ := gA_s h
      refine gs_iald cd_207_53 ht ?_
      refine gs_0 (pc' := 55) (L' := [some (.ref l0), some (.int l1), some (.int l2)]) (st' := [.int 1, .int (I_3 q_6 ((10 * (I_3 q_7 (70 + (8 * l1) : Int32).toNatClampNeg)) + 2 : Int32).toNatClampNeg), .int 0, .int l2]) cd_207_54 rfl rfl ?_
      refine gs_0 (pc' := 56) (L' := [some (.ref l0), some (.int l1), some (.int l2)]) (st' := [.int ((I_3 q_6 ((10 * (I_3 q_7 (70 + (8 * l1) : Int32).toNatClampNeg)) + 2 : Int32).toNatClampNeg) - 1), .int 0, .int l2]) cd_207_55 rfl rfl ?_
      obtain ⟨x_11, w_8, I_9, J_10, hcl, h⟩ := cI_s h
      refine gs_call (as := [.int l2, .int 0, .int ((I_3 q_6 ((10 * (I_3 q_7 (70 + (8 * l1) : Int32).toNatClampNeg)) + 2 : Int32).toNatClampNeg) - 1)]) (rest := []) cd_207_56 rfl (by decide) rfl rfl (Nat.le_of_ble_eq_true rfl) (Nat.le_of_ble_eq_true rfl) rfl hcl ?_
      refine gs_0 (pc' := if ¬ x_11 = 0 then 68 else 62) (L' := [some (.ref l0), some (.int l1), some (.int l2)]) (st' := []) cd_207_59 rfl rfl ?_
      refine go_ite (fun hc => ?_) (fun hc => ?_)
      · rw [if_pos hc] at h
        refine gs_0 (pc' := 69) (L' := [some (.ref l0), some (.int l1), some (.int l2)]) (st' := [.ref l0]) cd_207_68 rfl rfl ?_
        obtain ⟨ht, h⟩ := gO_s h
        obtain ⟨q_12, hv, h⟩ := gV_s h
        refine gs_gfR cd_207_69 (by decide) ht hv ?_
        refine gs_0 (pc' := 74) (L' := [some (.ref l0), some (.int l1), some (.int l2)]) (st' := [.int 70, .ref q_12]) cd_207_72 rfl rfl ?_
        refine gs_0 (pc' := 76) (L' := [some (.ref l0), some (.int l1), some (.int l2)]) (st' := [.int 8, .int 70, .ref q_12]) cd_207_74 rfl rfl ?_
        refine gs_0 (pc' := 77) (L' := [some (.ref l0), some (.int l1), some (.int l2)]) (st' := [.int l1, .int 8, .int 70, .ref q_12]) cd_207_76 rfl rfl ?_
        refine gs_0 (pc' := 78) (L' := [some (.ref l0), some (.int l1), some (.int l2)]) (st' := [.int (8 * l1), .int 70, .ref q_12]) cd_207_77 rfl rfl ?_
        refine gs_0 (pc' := 79) (L' := [some (.ref l0), some (.int l1), some (.int l2)]) (st' := [.int (70 + (8 * l1)), .ref q_12]) cd_207_78 rfl rfl ?_
        refine gs_0 (pc' := 80) (L' := [some (.ref l0), some (.int l1), some (.int l2)]) (st' := [.int 2, .int (70 + (8 * l1)), .ref q_12]) cd_207_79 rfl rfl ?_
        refine gs_0 (pc' := 81) (L' := [some (.ref l0), some (.int l1), some (.int l2)]) (st' := [.int ((70 + (8 * l1)) + 2), .ref q_12]) cd_207_80 rfl rfl ?_
        refine gs_0 (pc' := 82) (L' := [some (.ref l0), some (.int l1), some (.int l2)]) (st' := [.int l2, .int ((70 + (8 * l1)) + 2), .ref q_12]) cd_207_81 rfl rfl ?_
        refine gs_0 (pc' := 83) (L' := [some (.ref l0), some (.int l1), some (.int l2)]) (st' := [.int (((70 + (8 * l1)) + 2) + l2), .ref q_12]) cd_207_82 rfl rfl ?_
        obtain ⟨ht, h⟩ := gA_s h
        refine gs_iald cd_207_83 ht ?_
        refine gs_0 (pc' := 85) (L' := [some (.ref l0), some (.int l1), some (.int l2)]) (st' := [.long ((I_9 q_12 (((70 + (8 * l1)) + 2) + l2 : Int32).toNatClampNeg : Int32).toInt64)]) cd_207_84 rfl rfl ?_
        cases h
        exact gsr cd_207_85 rfl rfl
      · rw [if_neg hc] at h
        exact ok_207_62 h
  · rw [if_neg hc] at h
    refine gs_0 (pc' := 8) (L' := [some (.ref l0), some (.int l1), some (.int l2)]) (st' := [.ref l0]) cd_207_7 rfl rfl ?_
    refine gs_0 (pc' := 10) (L' := [some (.ref l0), some (.int l1), some (.int l2)]) (st' := [.int 6, .ref l0]) cd_207_8 rfl rfl ?_
    obtain ⟨ht, h⟩ := gO_s h
    obtain ⟨v_16, w_13, I_14, J_15, hcl, h⟩ := cJ_s h
    refine gs_call (as := [.ref l0, .int 6]) (rest := []) cd_207_10 rfl (by decide) rfl (sm_rv_ok (by decide) ht) (Nat.le_of_ble_eq_true rfl) (Nat.le_of_ble_eq_true rfl) rfl hcl ?_
    cases h
    exact gsr cd_207_13 rfl rfl
theorem cl_207 {K : Nat → Value} {k d : Nat} {l0 : Nat} {l1 : Int32} {l2 : Int32} {w : aW} {I : aI} {J : aJ} {R : aR} (h : f_207 K k d l0 l1 l2 w I J = some R) : Cl K (d + 1) 207 [.ref l0, .int l1, .int l2] w I J = some R := Cl_of (ok_207 h)
/-! ProvedMachine.object(II)J -/
set_option maxRecDepth 20000 in
theorem gl_208 : gcd.lookup 208 = some gw_208 := rfl
theorem cd_208_0 : sm_cd 208 0 = some (.aload_n 0, 1, 0, 0, 0, 0, 0, 0, 0) := cd_of gl_208 rfl
theorem cd_208_1 : sm_cd 208 1 = some (.getfield 40, 3, 5, 5, 1, 0, 0, 0, 0) := cd_of gl_208 rfl
theorem cd_208_4 : sm_cd 208 4 = some (.ifCond .ne 10, 3, 14, 0, 0, 0, 0, 0, 0) := cd_of gl_208 rfl
theorem cd_208_7 : sm_cd 208 7 = some (.aload_n 0, 1, 0, 0, 0, 0, 0, 0, 0) := cd_of gl_208 rfl
theorem cd_208_8 : sm_cd 208 8 = some (.bipush 6, 2, 0, 0, 0, 0, 0, 6, 0) := cd_of gl_208 rfl
theorem cd_208_10 : sm_cd 208 10 = some (.invokevirtual 60, 3, 17, 0, 1, 2, 5, 0, 0) := cd_of gl_208 rfl
theorem cd_208_13 : sm_cd 208 13 = some (.lreturn, 1, 0, 0, 0, 0, 0, 0, 0) := cd_of gl_208 rfl
theorem cd_208_14 : sm_cd 208 14 = some (.iload_n 1, 1, 1, 0, 0, 0, 0, 0, 0) := cd_of gl_208 rfl
theorem cd_208_15 : sm_cd 208 15 = some (.iconst 1, 1, 0, 0, 0, 0, 0, 1, 0) := cd_of gl_208 rfl
theorem cd_208_16 : sm_cd 208 16 = some (.if_icmp .lt 21, 3, 37, 0, 0, 0, 0, 0, 0) := cd_of gl_208 rfl
theorem cd_208_19 : sm_cd 208 19 = some (.iload_n 1, 1, 1, 0, 0, 0, 0, 0, 0) := cd_of gl_208 rfl
theorem cd_208_20 : sm_cd 208 20 = some (.bipush 16, 2, 0, 0, 0, 0, 0, 16, 0) := cd_of gl_208 rfl
theorem cd_208_22 : sm_cd 208 22 = some (.if_icmp .gt 15, 3, 37, 0, 0, 0, 0, 0, 0) := cd_of gl_208 rfl
theorem cd_208_25 : sm_cd 208 25 = some (.aload_n 0, 1, 0, 0, 0, 0, 0, 0, 0) := cd_of gl_208 rfl
theorem cd_208_26 : sm_cd 208 26 = some (.getfield 36, 3, 5, 4, 2, 0, 0, 0, 0) := cd_of gl_208 rfl
theorem cd_208_29 : sm_cd 208 29 = some (.iload_n 1, 1, 1, 0, 0, 0, 0, 0, 0) := cd_of gl_208 rfl
theorem cd_208_30 : sm_cd 208 30 = some (.iload_n 2, 1, 2, 0, 0, 0, 0, 0, 0) := cd_of gl_208 rfl
theorem cd_208_31 : sm_cd 208 31 = some (.invokevirtual 148, 3, 209, 0, 2, 4, 0, 0, 0) := cd_of gl_208 rfl
theorem cd_208_34 : sm_cd 208 34 = some (.ifCond .ne 9, 3, 43, 0, 0, 0, 0, 0, 0) := cd_of gl_208 rfl
theorem cd_208_37 : sm_cd 208 37 = some (.aload_n 0, 1, 0, 0, 0, 0, 0, 0, 0) := cd_of gl_208 rfl
theorem cd_208_38 : sm_cd 208 38 = some (.iconst 1, 1, 0, 0, 0, 0, 0, 1, 0) := cd_of gl_208 rfl
theorem cd_208_39 : sm_cd 208 39 = some (.invokevirtual 60, 3, 17, 0, 1, 2, 5, 0, 0) := cd_of gl_208 rfl
theorem cd_208_42 : sm_cd 208 42 = some (.lreturn, 1, 0, 0, 0, 0, 0, 0, 0) := cd_of gl_208 rfl
theorem cd_208_43 : sm_cd 208 43 = some (.aload_n 0, 1, 0, 0, 0, 0, 0, 0, 0) := cd_of gl_208 rfl
theorem cd_208_44 : sm_cd 208 44 = some (.getfield 36, 3, 5, 4, 2, 0, 0, 0, 0) := cd_of gl_208 rfl
theorem cd_208_47 : sm_cd 208 47 = some (.iload_n 1, 1, 1, 0, 0, 0, 0, 0, 0) := cd_of gl_208 rfl
theorem cd_208_48 : sm_cd 208 48 = some (.iload_n 2, 1, 2, 0, 0, 0, 0, 0, 0) := cd_of gl_208 rfl
theorem cd_208_49 : sm_cd 208 49 = some (.invokevirtual 151, 3, 210, 0, 2, 3, 0, 0, 0) := cd_of gl_208 rfl
theorem cd_208_52 : sm_cd 208 52 = some (.i2l, 1, 0, 0, 0, 0, 0, 0, 0) := cd_of gl_208 rfl
theorem cd_208_53 : sm_cd 208 53 = some (.lreturn, 1, 0, 0, 0, 0, 0, 0, 0) := cd_of gl_208 rfl
noncomputable def f_208_37 (K : Nat → Value) (k d : Nat) (l0 : Nat) (l1 : Int32) (l2 : Int32) (w : aW) (I : aI) (J : aJ) : Option aR :=
  gO w 5 l0 (
  cJ (Cl K d 17 [.ref l0, .int 1] w I J) fun v_4 w_1 I_2 J_3 =>
  some (some (.long v_4), w_1, I_2, J_3))
theorem ok_208_37 {K : Nat → Value} {k d : Nat} {l0 : Nat} {l1 : Int32} {l2 : Int32} {w : aW} {I : aI} {J : aJ} {R : aR} (h : f_208_37 K k d l0 l1 l2 w I J = some R) : Go K (d + 1) 208 37 [some (.ref l0), some (.int l1), some (.int l2)] [] w I J R := by
  unfold f_208_37 at h
  refine gs_0 (pc' := 38) (L' := [some (.ref l0), some (.int l1), some (.int l2)]) (st' := [.ref l0]) cd_208_37 rfl rfl ?_
  refine gs_0 (pc' := 39) (L' := [some (.ref l0), some (.int l1), some (.int l2)]) (st' := [.int 1, .ref l0]) cd_208_38 rfl rfl ?_
  obtain ⟨ht, h⟩ := gO_s h
  obtain ⟨v_4, w_1, I_2, J_3, hcl, h⟩ := cJ_s h
  refine gs_call (as := [.ref l0, .int 1]) (rest := []) cd_208_39 rfl (by decide) rfl (sm_rv_ok (by decide) ht) (Nat.le_of_ble_eq_true rfl) (Nat.le_of_ble_eq_true rfl) rfl hcl ?_
  cases h
  exact gsr cd_208_42 rfl rfl
noncomputable def f_208 (K : Nat → Value) (k d : Nat) (l0 : Nat) (l1 : Int32) (l2 : Int32) (w : aW) (I : aI) (J : aJ) : Option aR :=
  gO w 5 l0 (
  if ¬ (I l0 5) = 0 then
    if l1 < 1 then
      f_208_37 K k d l0 l1 l2 w I J
    else
      if 16 < l1 then
        f_208_37 K k d l0 l1 l2 w I J
      else
        gO w 5 l0 (
        gV w l0 4 fun q_1 =>
        gO w 0 q_1 (
        cI (Cl K d 209 [.ref q_1, .int l1, .int l2] w I J) fun x_5 w_2 I_3 J_4 =>
        if ¬ x_5 = 0 then
          gO w_2 5 l0 (
          gV w_2 l0 4 fun q_6 =>
          gO w_2 0 q_6 (
          cI (Cl K d 210 [.ref q_6, .int l1, .int l2] w_2 I_3 J_4) fun x_10 w_7 I_8 J_9 =>
          some (some (.long ((x_10 : Int32).toInt64)), w_7, I_8, J_9)))
        else
          f_208_37 K k d l0 l1 l2 w_2 I_3 J_4))
  else
    gO w 5 l0 (
    cJ (Cl K d 17 [.ref l0, .int 6] w I J) fun v_14 w_11 I_12 J_13 =>
    some (some (.long v_14), w_11, I_12, J_13)))
theorem ok_208 {K : Nat → Value} {k d : Nat} {l0 : Nat} {l1 : Int32} {l2 : Int32} {w : aW} {I : aI} {J : aJ} {R : aR} (h : f_208 K k d l0 l1 l2 w I J = some R) : Go K (d + 1) 208 0 [some (.ref l0), some (.int l1), some (.int l2)] [] w I J R := by
  unfold f_208 at h
  refine gs_0 (pc' := 1) (L' := [some (.ref l0), some (.int l1), some (.int l2)]) (st' := [.ref l0]) cd_208_0 rfl rfl ?_
  obtain ⟨ht, h⟩ := gO_s h
  refine gs_gfI cd_208_1 (by decide) (by decide) ht ?_
  refine gs_0 (pc' := if ¬ (I l0 5) = 0 then 14 else 7) (L' := [some (.ref l0), some (.int l1), some (.int l2)]) (st' := []) cd_208_4 rfl rfl ?_
  refine go_ite (fun hc => ?_) (fun hc => ?_)
  · rw [if_pos hc] at h
    refine gs_0 (pc' := 15) (L' := [some (.ref l0), some (.int l1), some (.int l2)]) (st' := [.int l1]) cd_208_14 rfl rfl ?_
    refine gs_0 (pc' := 16) (L' := [some (.ref l0), some (.int l1), some (.int l2)]) (st' := [.int 1, .int l1]) cd_208_15 rfl rfl ?_
    refine gs_0 (pc' := if l1 < 1 then 37 else 19) (L' := [some (.ref l0), some (.int l1), some (.int l2)]) (st' := []) cd_208_16 rfl rfl ?_
    refine go_ite (fun hc => ?_) (fun hc => ?_)
    · rw [if_pos hc] at h
      exact ok_208_37 h
    · rw [if_neg hc] at h
      refine gs_0 (pc' := 20) (L' := [some (.ref l0), some (.int l1), some (.int l2)]) (st' := [.int l1]) cd_208_19 rfl rfl ?_
      refine gs_0 (pc' := 22) (L' := [some (.ref l0), some (.int l1), some (.int l2)]) (st' := [.int 16, .int l1]) cd_208_20 rfl rfl ?_
      refine gs_0 (pc' := if 16 < l1 then 37 else 25) (L' := [some (.ref l0), some (.int l1), some (.int l2)]) (st' := []) cd_208_22 rfl rfl ?_
      refine go_ite (fun hc => ?_) (fun hc => ?_)
      · rw [if_pos hc] at h
        exact ok_208_37 h
      · rw [if_neg hc] at h
        refine gs_0 (pc' := 26) (L' := [some (.ref l0), some (.int l1), some (.int l2)]) (st' := [.ref l0]) cd_208_25 rfl rfl ?_
        obtain ⟨ht, h⟩ := gO_s h
        obtain ⟨q_1, hv, h⟩ := gV_s h
        refine gs_gfR cd_208_26 (by decide) ht hv ?_
        refine gs_0 (pc' := 30) (L' := [some (.ref l0), some (.int l1), some (.int l2)]) (st' := [.int l1, .ref q_1]) cd_208_29 rfl rfl ?_
        refine gs_0 (pc' := 31) (L' := [some (.ref l0), some (.int l1), some (.int l2)]) (st' := [.int l2, .int l1, .ref q_1]) cd_208_30 rfl rfl ?_
        obtain ⟨ht, h⟩ := gO_s h
        obtain ⟨x_5, w_2, I_3, J_4, hcl, h⟩ := cI_s h
        refine gs_call (as := [.ref q_1, .int l1, .int l2]) (rest := []) cd_208_31 rfl (by decide) rfl (sm_rv_ok (by decide) ht) (Nat.le_of_ble_eq_true rfl) (Nat.le_of_ble_eq_true rfl) rfl hcl ?_
        refine gs_0 (pc' := if ¬ x_5 = 0 then 43 else 37) (L' := [some (.ref l0), some (.int l1), some (.int l2)]) (st' := []) cd_208_34 rfl rfl ?_
        refine go_ite (fun hc => ?_) (fun hc => ?_)
        · rw [if_pos hc] at h
          refine gs_0 (pc' := 44) (L' := [some (.ref l0), some (.int l1), some (.int l2)]) (st' := [.ref l0]) cd_208_43 rfl rfl ?_
          obtain ⟨ht, h⟩ := gO_s h
          obtain ⟨q_6, hv, h⟩ := gV_s h
          refine gs_gfR cd_208_44 (by decide) ht hv ?_
          refine gs_0 (pc' := 48) (L' := [some (.ref l0), some (.int l1), some (.int l2)]) (st' := [.int l1, .ref q_6]) cd_208_47 rfl rfl ?_
          refine gs_0 (pc' := 49) (L' := [some (.ref l0), some (.int l1), some (.int l2)]) (st' := [.int l2, .int l1, .ref q_6]) cd_208_48 rfl rfl ?_
          obtain ⟨ht, h⟩ := gO_s h
          obtain ⟨x_10, w_7, I_8, J_9, hcl, h⟩ := cI_s h
          refine gs_call (as := [.ref q_6, .int l1, .int l2]) (rest := []) cd_208_49 rfl (by decide) rfl (sm_rv_ok (by decide) ht) (Nat.le_of_ble_eq_true rfl) (Nat.le_of_ble_eq_true rfl) rfl hcl ?_
          refine gs_0 (pc' := 53) (L' := [some (.ref l0), some (.int l1), some (.int l2)]) (st' := [.long ((x_10 : Int32).toInt64)]) cd_208_52 rfl rfl ?_
          cases h
          exact gsr cd_208_53 rfl rfl
        · rw [if_neg hc] at h
          exact ok_208_37 h
  · rw [if_neg hc] at h
    refine gs_0 (pc' := 8) (L' := [some (.ref l0), some (.int l1), some (.int l2)]) (st' := [.ref l0]) cd_208_7 rfl rfl ?_
    refine gs_0 (pc' := 10) (L' := [some (.ref l0), some (.int l1), some (.int l2)]) (st' := [.int 6, .ref l0]) cd_208_8 rfl rfl ?_
    obtain ⟨ht, h⟩ := gO_s h
    obtain ⟨v_14, w_11, I_12, J_13, hcl, h⟩ := cJ_s h
    refine gs_call (as := [.ref l0, .int 6]) (rest := []) cd_208_10 rfl (by decide) rfl (sm_rv_ok (by decide) ht) (Nat.le_of_ble_eq_true rfl) (Nat.le_of_ble_eq_true rfl) rfl hcl ?_
    cases h
    exact gsr cd_208_13 rfl rfl
theorem cl_208 {K : Nat → Value} {k d : Nat} {l0 : Nat} {l1 : Int32} {l2 : Int32} {w : aW} {I : aI} {J : aJ} {R : aR} (h : f_208 K k d l0 l1 l2 w I J = some R) : Cl K (d + 1) 208 [.ref l0, .int l1, .int l2] w I J = some R := Cl_of (ok_208 h)
/-! ProvedMachine$Machine.objectHas(II)Z -/
set_option maxRecDepth 20000 in
theorem gl_209 : gcd.lookup 209 = some gw_209 := rfl
theorem cd_209_0 : sm_cd 209 0 = some (.aload_n 0, 1, 0, 0, 0, 0, 0, 0, 0) := cd_of gl_209 rfl
theorem cd_209_1 : sm_cd 209 1 = some (.iload_n 1, 1, 1, 0, 0, 0, 0, 0, 0) := cd_of gl_209 rfl
theorem cd_209_2 : sm_cd 209 2 = some (.invokestatic 111, 3, 152, 1, 1, 1, 0, 0, 0) := cd_of gl_209 rfl
theorem cd_209_5 : sm_cd 209 5 = some (.invokevirtual 105, 3, 147, 0, 1, 2, 0, 0, 0) := cd_of gl_209 rfl
theorem cd_209_8 : sm_cd 209 8 = some (.istore_n 3, 1, 3, 0, 0, 0, 0, 0, 0) := cd_of gl_209 rfl
theorem cd_209_9 : sm_cd 209 9 = some (.iload_n 2, 1, 2, 0, 0, 0, 0, 0, 0) := cd_of gl_209 rfl
theorem cd_209_10 : sm_cd 209 10 = some (.ifCond .ne 5, 3, 15, 0, 0, 0, 0, 0, 0) := cd_of gl_209 rfl
theorem cd_209_13 : sm_cd 209 13 = some (.iconst 1, 1, 0, 0, 0, 0, 0, 1, 0) := cd_of gl_209 rfl
theorem cd_209_14 : sm_cd 209 14 = some (.ireturn, 1, 0, 0, 2, 0, 0, 0, 0) := cd_of gl_209 rfl
theorem cd_209_15 : sm_cd 209 15 = some (.iload_n 3, 1, 3, 0, 0, 0, 0, 0, 0) := cd_of gl_209 rfl
theorem cd_209_16 : sm_cd 209 16 = some (.iconst 1, 1, 0, 0, 0, 0, 0, 1, 0) := cd_of gl_209 rfl
theorem cd_209_17 : sm_cd 209 17 = some (.if_icmp .ne 37, 3, 54, 0, 0, 0, 0, 0, 0) := cd_of gl_209 rfl
theorem cd_209_20 : sm_cd 209 20 = some (.iload_n 2, 1, 2, 0, 0, 0, 0, 0, 0) := cd_of gl_209 rfl
theorem cd_209_21 : sm_cd 209 21 = some (.iconst 1, 1, 0, 0, 0, 0, 0, 1, 0) := cd_of gl_209 rfl
theorem cd_209_22 : sm_cd 209 22 = some (.if_icmp .eq 26, 3, 48, 0, 0, 0, 0, 0, 0) := cd_of gl_209 rfl
theorem cd_209_25 : sm_cd 209 25 = some (.iload_n 2, 1, 2, 0, 0, 0, 0, 0, 0) := cd_of gl_209 rfl
theorem cd_209_26 : sm_cd 209 26 = some (.bipush 10, 2, 0, 0, 0, 0, 0, 10, 0) := cd_of gl_209 rfl
theorem cd_209_28 : sm_cd 209 28 = some (.if_icmp .lt 24, 3, 52, 0, 0, 0, 0, 0, 0) := cd_of gl_209 rfl
theorem cd_209_31 : sm_cd 209 31 = some (.iload_n 2, 1, 2, 0, 0, 0, 0, 0, 0) := cd_of gl_209 rfl
theorem cd_209_32 : sm_cd 209 32 = some (.bipush 10, 2, 0, 0, 0, 0, 0, 10, 0) := cd_of gl_209 rfl
theorem cd_209_34 : sm_cd 209 34 = some (.isub, 1, 0, 0, 0, 0, 0, 0, 0) := cd_of gl_209 rfl
theorem cd_209_35 : sm_cd 209 35 = some (.aload_n 0, 1, 0, 0, 0, 0, 0, 0, 0) := cd_of gl_209 rfl
theorem cd_209_36 : sm_cd 209 36 = some (.iload_n 1, 1, 1, 0, 0, 0, 0, 0, 0) := cd_of gl_209 rfl
theorem cd_209_37 : sm_cd 209 37 = some (.invokestatic 111, 3, 152, 1, 1, 1, 0, 0, 0) := cd_of gl_209 rfl
theorem cd_209_40 : sm_cd 209 40 = some (.iconst 1, 1, 0, 0, 0, 0, 0, 1, 0) := cd_of gl_209 rfl
theorem cd_209_41 : sm_cd 209 41 = some (.iadd, 1, 0, 0, 0, 0, 0, 0, 0) := cd_of gl_209 rfl
theorem cd_209_42 : sm_cd 209 42 = some (.invokevirtual 105, 3, 147, 0, 1, 2, 0, 0, 0) := cd_of gl_209 rfl
theorem cd_209_45 : sm_cd 209 45 = some (.if_icmp .ge 7, 3, 52, 0, 0, 0, 0, 0, 0) := cd_of gl_209 rfl
theorem cd_209_48 : sm_cd 209 48 = some (.iconst 1, 1, 0, 0, 0, 0, 0, 1, 0) := cd_of gl_209 rfl
theorem cd_209_49 : sm_cd 209 49 = some (.goto 4, 3, 53, 0, 0, 0, 0, 0, 0) := cd_of gl_209 rfl
theorem cd_209_52 : sm_cd 209 52 = some (.iconst 0, 1, 0, 0, 0, 0, 0, 0, 0) := cd_of gl_209 rfl
theorem cd_209_53 : sm_cd 209 53 = some (.ireturn, 1, 0, 0, 2, 0, 0, 0, 0) := cd_of gl_209 rfl
theorem cd_209_54 : sm_cd 209 54 = some (.iload_n 3, 1, 3, 0, 0, 0, 0, 0, 0) := cd_of gl_209 rfl
theorem cd_209_55 : sm_cd 209 55 = some (.iconst 2, 1, 0, 0, 0, 0, 0, 2, 0) := cd_of gl_209 rfl
theorem cd_209_56 : sm_cd 209 56 = some (.if_icmp .ne 17, 3, 73, 0, 0, 0, 0, 0, 0) := cd_of gl_209 rfl
theorem cd_209_59 : sm_cd 209 59 = some (.iload_n 2, 1, 2, 0, 0, 0, 0, 0, 0) := cd_of gl_209 rfl
theorem cd_209_60 : sm_cd 209 60 = some (.iconst 1, 1, 0, 0, 0, 0, 0, 1, 0) := cd_of gl_209 rfl
theorem cd_209_61 : sm_cd 209 61 = some (.if_icmp .eq 8, 3, 69, 0, 0, 0, 0, 0, 0) := cd_of gl_209 rfl
theorem cd_209_64 : sm_cd 209 64 = some (.iload_n 2, 1, 2, 0, 0, 0, 0, 0, 0) := cd_of gl_209 rfl
theorem cd_209_65 : sm_cd 209 65 = some (.iconst 2, 1, 0, 0, 0, 0, 0, 2, 0) := cd_of gl_209 rfl
theorem cd_209_66 : sm_cd 209 66 = some (.if_icmp .ne 7, 3, 73, 0, 0, 0, 0, 0, 0) := cd_of gl_209 rfl
theorem cd_209_69 : sm_cd 209 69 = some (.iconst 1, 1, 0, 0, 0, 0, 0, 1, 0) := cd_of gl_209 rfl
theorem cd_209_70 : sm_cd 209 70 = some (.goto 4, 3, 74, 0, 0, 0, 0, 0, 0) := cd_of gl_209 rfl
theorem cd_209_73 : sm_cd 209 73 = some (.iconst 0, 1, 0, 0, 0, 0, 0, 0, 0) := cd_of gl_209 rfl
theorem cd_209_74 : sm_cd 209 74 = some (.ireturn, 1, 0, 0, 2, 0, 0, 0, 0) := cd_of gl_209 rfl
noncomputable def f_209 (K : Nat → Value) (k d : Nat) (l0 : Nat) (l1 : Int32) (l2 : Int32) (w : aW) (I : aI) (J : aJ) : Option aR :=
  cI (Cl K d 152 [.int l1] w I J) fun x_4 w_1 I_2 J_3 =>
  gO w_1 0 l0 (
  cI (Cl K d 147 [.ref l0, .int x_4] w_1 I_2 J_3) fun x_8 w_5 I_6 J_7 =>
  if ¬ l2 = 0 then
    if ¬ x_8 = 1 then
      if ¬ x_8 = 2 then
        some (some (.int 0), w_5, I_6, J_7)
      else
        if l2 = 1 then
          some (some (.int 1), w_5, I_6, J_7)
        else
          if ¬ l2 = 2 then
            some (some (.int 0), w_5, I_6, J_7)
          else
            some (some (.int 1), w_5, I_6, J_7)
    else
      if l2 = 1 then
        some (some (.int 1), w_5, I_6, J_7)
      else
        if l2 < 10 then
          some (some (.int 0), w_5, I_6, J_7)
        else
          cI (Cl K d 152 [.int l1] w_5 I_6 J_7) fun x_12 w_9 I_10 J_11 =>
          gO w_9 0 l0 (
          cI (Cl K d 147 [.ref l0, .int (x_12 + 1)] w_9 I_10 J_11) fun x_16 w_13 I_14 J_15 =>
          if x_16 ≤ (l2 - 10) then
            some (some (.int 0), w_13, I_14, J_15)
          else
            some (some (.int 1), w_13, I_14, J_15))
  else
    some (some (.int 1), w_5, I_6, J_7))
theorem ok_209 {K : Nat → Value} {k d : Nat} {l0 : Nat} {l1 : Int32} {l2 : Int32} {w : aW} {I : aI} {J : aJ} {R : aR} (h : f_209 K k d l0 l1 l2 w I J = some R) : Go K (d + 1) 209 0 [some (.ref l0), some (.int l1), some (.int l2), none] [] w I J R := by
  unfold f_209 at h
  refine gs_0 (pc' := 1) (L' := [some (.ref l0), some (.int l1), some (.int l2), none]) (st' := [.ref l0]) cd_209_0 rfl rfl ?_
  refine gs_0 (pc' := 2) (L' := [some (.ref l0), some (.int l1), some (.int l2), none]) (st' := [.int l1, .ref l0]) cd_209_1 rfl rfl ?_
  obtain ⟨x_4, w_1, I_2, J_3, hcl, h⟩ := cI_s h
  refine gs_call (as := [.int l1]) (rest := [.ref l0]) cd_209_2 rfl (by decide) rfl rfl (Nat.le_of_ble_eq_true rfl) (Nat.le_of_ble_eq_true rfl) rfl hcl ?_
  obtain ⟨ht, h⟩ := gO_s h
  obtain ⟨x_8, w_5, I_6, J_7, hcl, h⟩ := cI_s h
  refine gs_call (as := [.ref l0, .int x_4]) (rest := []) cd_209_5 rfl (by decide) rfl (sm_rv_ok (by decide) ht) (Nat.le_of_ble_eq_true rfl) (Nat.le_of_ble_eq_true rfl) rfl hcl ?_
  refine gs_0 (pc' := 9) (L' := [some (.ref l0), some (.int l1), some (.int l2), some (.int x_8)]) (st' := []) cd_209_8 rfl rfl ?_
  refine gs_0 (pc' := 10) (L' := [some (.ref l0), some (.int l1), some (.int l2), some (.int x_8)]) (st' := [.int l2]) cd_209_9 rfl rfl ?_
  refine gs_0 (pc' := if ¬ l2 = 0 then 15 else 13) (L' := [some (.ref l0), some (.int l1), some (.int l2), some (.int x_8)]) (st' := []) cd_209_10 rfl rfl ?_
  refine go_ite (fun hc => ?_) (fun hc => ?_)
  · rw [if_pos hc] at h
    refine gs_0 (pc' := 16) (L' := [some (.ref l0), some (.int l1), some (.int l2), some (.int x_8)]) (st' := [.int x_8]) cd_209_15 rfl rfl ?_
    refine gs_0 (pc' := 17) (L' := [some (.ref l0), some (.int l1), some (.int l2), some (.int x_8)]) (st' := [.int 1, .int x_8]) cd_209_16 rfl rfl ?_
    refine gs_0 (pc' := if ¬ x_8 = 1 then 54 else 20) (L' := [some (.ref l0), some (.int l1), some (.int l2), some (.int x_8)]) (st' := []) cd_209_17 rfl rfl ?_
    refine go_ite (fun hc => ?_) (fun hc => ?_)
    · rw [if_pos hc] at h
      refine gs_0 (pc' := 55) (L' := [some (.ref l0), some (.int l1), some (.int l2), some (.int x_8)]) (st' := [.int x_8]) cd_209_54 rfl rfl ?_
      refine gs_0 (pc' := 56) (L' := [some (.ref l0), some (.int l1), some (.int l2), some (.int x_8)]) (st' := [.int 2, .int x_8]) cd_209_55 rfl rfl ?_
      refine gs_0 (pc' := if ¬ x_8 = 2 then 73 else 59) (L' := [some (.ref l0), some (.int l1), some (.int l2), some (.int x_8)]) (st' := []) cd_209_56 rfl rfl ?_
      refine go_ite (fun hc => ?_) (fun hc => ?_)
      · rw [if_pos hc] at h
        refine gs_0 (pc' := 74) (L' := [some (.ref l0), some (.int l1), some (.int l2), some (.int x_8)]) (st' := [.int 0]) cd_209_73 rfl rfl ?_
        cases h
        exact gs_ri cd_209_74 (Or.inr (Or.inl ⟨rfl, Or.inl rfl⟩))
      · rw [if_neg hc] at h
        refine gs_0 (pc' := 60) (L' := [some (.ref l0), some (.int l1), some (.int l2), some (.int x_8)]) (st' := [.int l2]) cd_209_59 rfl rfl ?_
        refine gs_0 (pc' := 61) (L' := [some (.ref l0), some (.int l1), some (.int l2), some (.int x_8)]) (st' := [.int 1, .int l2]) cd_209_60 rfl rfl ?_
        refine gs_0 (pc' := if l2 = 1 then 69 else 64) (L' := [some (.ref l0), some (.int l1), some (.int l2), some (.int x_8)]) (st' := []) cd_209_61 rfl rfl ?_
        refine go_ite (fun hc => ?_) (fun hc => ?_)
        · rw [if_pos hc] at h
          refine gs_0 (pc' := 70) (L' := [some (.ref l0), some (.int l1), some (.int l2), some (.int x_8)]) (st' := [.int 1]) cd_209_69 rfl rfl ?_
          refine gs_0 (pc' := 74) (L' := [some (.ref l0), some (.int l1), some (.int l2), some (.int x_8)]) (st' := [.int 1]) cd_209_70 rfl rfl ?_
          cases h
          exact gs_ri cd_209_74 (Or.inr (Or.inl ⟨rfl, Or.inr rfl⟩))
        · rw [if_neg hc] at h
          refine gs_0 (pc' := 65) (L' := [some (.ref l0), some (.int l1), some (.int l2), some (.int x_8)]) (st' := [.int l2]) cd_209_64 rfl rfl ?_
          refine gs_0 (pc' := 66) (L' := [some (.ref l0), some (.int l1), some (.int l2), some (.int x_8)]) (st' := [.int 2, .int l2]) cd_209_65 rfl rfl ?_
          refine gs_0 (pc' := if ¬ l2 = 2 then 73 else 69) (L' := [some (.ref l0), some (.int l1), some (.int l2), some (.int x_8)]) (st' := []) cd_209_66 rfl rfl ?_
          refine go_ite (fun hc => ?_) (fun hc => ?_)
          · rw [if_pos hc] at h
            refine gs_0 (pc' := 74) (L' := [some (.ref l0), some (.int l1), some (.int l2), some (.int x_8)]) (st' := [.int 0]) cd_209_73 rfl rfl ?_
            cases h
            exact gs_ri cd_209_74 (Or.inr (Or.inl ⟨rfl, Or.inl rfl⟩))
          · rw [if_neg hc] at h
            refine gs_0 (pc' := 70) (L' := [some (.ref l0), some (.int l1), some (.int l2), some (.int x_8)]) (st' := [.int 1]) cd_209_69 rfl rfl ?_
            refine gs_0 (pc' := 74) (L' := [some (.ref l0), some (.int l1), some (.int l2), some (.int x_8)]) (st' := [.int 1]) cd_209_70 rfl rfl ?_
            cases h
            exact gs_ri cd_209_74 (Or.inr (Or.inl ⟨rfl, Or.inr rfl⟩))
    · rw [if_neg hc] at h
      refine gs_0 (pc' := 21) (L' := [some (.ref l0), some (.int l1), some (.int l2), some (.int x_8)]) (st' := [.int l2]) cd_209_20 rfl rfl ?_
      refine gs_0 (pc' := 22) (L' := [some (.ref l0), some (.int l1), some (.int l2), some (.int x_8)]) (st' := [.int 1, .int l2]) cd_209_21 rfl rfl ?_
      refine gs_0 (pc' := if l2 = 1 then 48 else 25) (L' := [some (.ref l0), some (.int l1), some (.int l2), some (.int x_8)]) (st' := []) cd_209_22 rfl rfl ?_
      refine go_ite (fun hc => ?_) (fun hc => ?_)
      · rw [if_pos hc] at h
        refine gs_0 (pc' := 49) (L' := [some (.ref l0), some (.int l1), some (.int l2), some (.int x_8)]) (st' := [.int 1]) cd_209_48 rfl rfl ?_
        refine gs_0 (pc' := 53) (L' := [some (.ref l0), some (.int l1), some (.int l2), some (.int x_8)]) (st' := [.int 1]) cd_209_49 rfl rfl ?_
        cases h
        exact gs_ri cd_209_53 (Or.inr (Or.inl ⟨rfl, Or.inr rfl⟩))
      · rw [if_neg hc] at h
        refine gs_0 (pc' := 26) (L' := [some (.ref l0), some (.int l1), some (.int l2), some (.int x_8)]) (st' := [.int l2]) cd_209_25 rfl rfl ?_
        refine gs_0 (pc' := 28) (L' := [some (.ref l0), some (.int l1), some (.int l2), some (.int x_8)]) (st' := [.int 10, .int l2]) cd_209_26 rfl rfl ?_
        refine gs_0 (pc' := if l2 < 10 then 52 else 31) (L' := [some (.ref l0), some (.int l1), some (.int l2), some (.int x_8)]) (st' := []) cd_209_28 rfl rfl ?_
        refine go_ite (fun hc => ?_) (fun hc => ?_)
        · rw [if_pos hc] at h
          refine gs_0 (pc' := 53) (L' := [some (.ref l0), some (.int l1), some (.int l2), some (.int x_8)]) (st' := [.int 0]) cd_209_52 rfl rfl ?_
          cases h
          exact gs_ri cd_209_53 (Or.inr (Or.inl ⟨rfl, Or.inl rfl⟩))
        · rw [if_neg hc] at h
          refine gs_0 (pc' := 32) (L' := [some (.ref l0), some (.int l1), some (.int l2), some (.int x_8)]) (st' := [.int l2]) cd_209_31 rfl rfl ?_
          refine gs_0 (pc' := 34) (L' := [some (.ref l0), some (.int l1), some (.int l2), some (.int x_8)]) (st' := [.int 10, .int l2]) cd_209_32 rfl rfl ?_
          refine gs_0 (pc' := 35) (L' := [some (.ref l0), some (.int l1), some (.int l2), some (.int x_8)]) (st' := [.int (l2 - 10)]) cd_209_34 rfl rfl ?_
          refine gs_0 (pc' := 36) (L' := [some (.ref l0), some (.int l1), some (.int l2), some (.int x_8)]) (st' := [.ref l0, .int (l2 - 10)]) cd_209_35 rfl rfl ?_
          refine gs_0 (pc' := 37) (L' := [some (.ref l0), some (.int l1), some (.int l2), some (.int x_8)]) (st' := [.int l1, .ref l0, .int (l2 - 10)]) cd_209_36 rfl rfl ?_
          obtain ⟨x_12, w_9, I_10, J_11, hcl, h⟩ := cI_s h
          refine gs_call (as := [.int l1]) (rest := [.ref l0, .int (l2 - 10)]) cd_209_37 rfl (by decide) rfl rfl (Nat.le_of_ble_eq_true rfl) (Nat.le_of_ble_eq_true rfl) rfl hcl ?_
          refine gs_0 (pc' := 41) (L' := [some (.ref l0), some (.int l1), some (.int l2), some (.int x_8)]) (st' := [.int 1, .int x_12, .ref l0, .int (l2 - 10)]) cd_209_40 rfl rfl ?_
          refine gs_0 (pc' := 42) (L' := [some (.ref l0), some (.int l1), some (.int l2), some (.int x_8)]) (st' := [.int (x_12 + 1), .ref l0, .int (l2 - 10)]) cd_209_41 rfl rfl ?_
          obtain ⟨ht, h⟩ := gO_s h
          obtain ⟨x_16, w_13, I_14, J_15, hcl, h⟩ := cI_s h
          refine gs_call (as := [.ref l0, .int (x_12 + 1)]) (rest := [.int (l2 - 10)]) cd_209_42 rfl (by decide) rfl (sm_rv_ok (by decide) ht) (Nat.le_of_ble_eq_true rfl) (Nat.le_of_ble_eq_true rfl) rfl hcl ?_
          refine gs_0 (pc' := if x_16 ≤ (l2 - 10) then 52 else 48) (L' := [some (.ref l0), some (.int l1), some (.int l2), some (.int x_8)]) (st' := []) cd_209_45 rfl rfl ?_
          refine go_ite (fun hc => ?_) (fun hc => ?_)
          · rw [if_pos hc] at h
            refine gs_0 (pc' := 53) (L' := [some (.ref l0), some (.int l1), some (.int l2), some (.int x_8)]) (st' := [.int 0]) cd_209_52 rfl rfl ?_
            cases h
            exact gs_ri cd_209_53 (Or.inr (Or.inl ⟨rfl, Or.inl rfl⟩))
          · rw [if_neg hc] at h
            refine gs_0 (pc' := 49) (L' := [some (.ref l0), some (.int l1), some (.int l2), some (.int x_8)]) (st' := [.int 1]) cd_209_48 rfl rfl ?_
            refine gs_0 (pc' := 53) (L' := [some (.ref l0), some (.int l1), some (.int l2), some (.int x_8)]) (st' := [.int 1]) cd_209_49 rfl rfl ?_
            cases h
            exact gs_ri cd_209_53 (Or.inr (Or.inl ⟨rfl, Or.inr rfl⟩))
  · rw [if_neg hc] at h
    refine gs_0 (pc' := 14) (L' := [some (.ref l0), some (.int l1), some (.int l2), some (.int x_8)]) (st' := [.int 1]) cd_209_13 rfl rfl ?_
    cases h
    exact gs_ri cd_209_14 (Or.inr (Or.inl ⟨rfl, Or.inr rfl⟩))
theorem cl_209 {K : Nat → Value} {k d : Nat} {l0 : Nat} {l1 : Int32} {l2 : Int32} {w : aW} {I : aI} {J : aJ} {R : aR} (h : f_209 K k d l0 l1 l2 w I J = some R) : Cl K (d + 1) 209 [.ref l0, .int l1, .int l2] w I J = some R := Cl_of (ok_209 h)
/-! ProvedMachine$Machine.objectNumber(II)I -/
set_option maxRecDepth 20000 in
theorem gl_210 : gcd.lookup 210 = some gw_210 := rfl
theorem cd_210_0 : sm_cd 210 0 = some (.aload_n 0, 1, 0, 0, 0, 0, 0, 0, 0) := cd_of gl_210 rfl
theorem cd_210_1 : sm_cd 210 1 = some (.iload_n 1, 1, 1, 0, 0, 0, 0, 0, 0) := cd_of gl_210 rfl
theorem cd_210_2 : sm_cd 210 2 = some (.invokestatic 111, 3, 152, 1, 1, 1, 0, 0, 0) := cd_of gl_210 rfl
theorem cd_210_5 : sm_cd 210 5 = some (.iload_n 2, 1, 2, 0, 0, 0, 0, 0, 0) := cd_of gl_210 rfl
theorem cd_210_6 : sm_cd 210 6 = some (.bipush 10, 2, 0, 0, 0, 0, 0, 10, 0) := cd_of gl_210 rfl
theorem cd_210_8 : sm_cd 210 8 = some (.if_icmp .lt 10, 3, 18, 0, 0, 0, 0, 0, 0) := cd_of gl_210 rfl
theorem cd_210_11 : sm_cd 210 11 = some (.iload_n 2, 1, 2, 0, 0, 0, 0, 0, 0) := cd_of gl_210 rfl
theorem cd_210_12 : sm_cd 210 12 = some (.bipush 8, 2, 0, 0, 0, 0, 0, 8, 0) := cd_of gl_210 rfl
theorem cd_210_14 : sm_cd 210 14 = some (.isub, 1, 0, 0, 0, 0, 0, 0, 0) := cd_of gl_210 rfl
theorem cd_210_15 : sm_cd 210 15 = some (.goto 4, 3, 19, 0, 0, 0, 0, 0, 0) := cd_of gl_210 rfl
theorem cd_210_18 : sm_cd 210 18 = some (.iload_n 2, 1, 2, 0, 0, 0, 0, 0, 0) := cd_of gl_210 rfl
theorem cd_210_19 : sm_cd 210 19 = some (.iadd, 1, 0, 0, 0, 0, 0, 0, 0) := cd_of gl_210 rfl
theorem cd_210_20 : sm_cd 210 20 = some (.invokevirtual 105, 3, 147, 0, 1, 2, 0, 0, 0) := cd_of gl_210 rfl
theorem cd_210_23 : sm_cd 210 23 = some (.ireturn, 1, 0, 0, 1, 0, 0, 0, 0) := cd_of gl_210 rfl
noncomputable def f_210_19 (K : Nat → Value) (k d : Nat) (l0 : Nat) (l1 : Int32) (l2 : Int32) (s0 : Nat) (s1 : Int32) (s2 : Int32) (w : aW) (I : aI) (J : aJ) : Option aR :=
  gO w 0 s0 (
  cI (Cl K d 147 [.ref s0, .int (s1 + s2)] w I J) fun x_4 w_1 I_2 J_3 =>
  some (some (.int x_4), w_1, I_2, J_3))
theorem ok_210_19 {K : Nat → Value} {k d : Nat} {l0 : Nat} {l1 : Int32} {l2 : Int32} {s0 : Nat} {s1 : Int32} {s2 : Int32} {w : aW} {I : aI} {J : aJ} {R : aR} (h : f_210_19 K k d l0 l1 l2 s0 s1 s2 w I J = some R) : Go K (d + 1) 210 19 [some (.ref l0), some (.int l1), some (.int l2)] [.int s2, .int s1, .ref s0] w I J R := by
  unfold f_210_19 at h
  refine gs_0 (pc' := 20) (L' := [some (.ref l0), some (.int l1), some (.int l2)]) (st' := [.int (s1 + s2), .ref s0]) cd_210_19 rfl rfl ?_
  obtain ⟨ht, h⟩ := gO_s h
  obtain ⟨x_4, w_1, I_2, J_3, hcl, h⟩ := cI_s h
  refine gs_call (as := [.ref s0, .int (s1 + s2)]) (rest := []) cd_210_20 rfl (by decide) rfl (sm_rv_ok (by decide) ht) (Nat.le_of_ble_eq_true rfl) (Nat.le_of_ble_eq_true rfl) rfl hcl ?_
  cases h
  exact gs_ri cd_210_23 (Or.inl rfl)
noncomputable def f_210 (K : Nat → Value) (k d : Nat) (l0 : Nat) (l1 : Int32) (l2 : Int32) (w : aW) (I : aI) (J : aJ) : Option aR :=
  cI (Cl K d 152 [.int l1] w I J) fun x_4 w_1 I_2 J_3 =>
  if l2 < 10 then
    f_210_19 K k d l0 l1 l2 l0 x_4 l2 w_1 I_2 J_3
  else
    f_210_19 K k d l0 l1 l2 l0 x_4 (l2 - 8) w_1 I_2 J_3
theorem ok_210 {K : Nat → Value} {k d : Nat} {l0 : Nat} {l1 : Int32} {l2 : Int32} {w : aW} {I : aI} {J : aJ} {R : aR} (h : f_210 K k d l0 l1 l2 w I J = some R) : Go K (d + 1) 210 0 [some (.ref l0), some (.int l1), some (.int l2)] [] w I J R := by
  unfold f_210 at h
  refine gs_0 (pc' := 1) (L' := [some (.ref l0), some (.int l1), some (.int l2)]) (st' := [.ref l0]) cd_210_0 rfl rfl ?_
  refine gs_0 (pc' := 2) (L' := [some (.ref l0), some (.int l1), some (.int l2)]) (st' := [.int l1, .ref l0]) cd_210_1 rfl rfl ?_
  obtain ⟨x_4, w_1, I_2, J_3, hcl, h⟩ := cI_s h
  refine gs_call (as := [.int l1]) (rest := [.ref l0]) cd_210_2 rfl (by decide) rfl rfl (Nat.le_of_ble_eq_true rfl) (Nat.le_of_ble_eq_true rfl) rfl hcl ?_
  refine gs_0 (pc' := 6) (L' := [some (.ref l0), some (.int l1), some (.int l2)]) (st' := [.int l2, .int x_4, .ref l0]) cd_210_5 rfl rfl ?_
  refine gs_0 (pc' := 8) (L' := [some (.ref l0), some (.int l1), some (.int l2)]) (st' := [.int 10, .int l2, .int x_4, .ref l0]) cd_210_6 rfl rfl ?_
  refine gs_0 (pc' := if l2 < 10 then 18 else 11) (L' := [some (.ref l0), some (.int l1), some (.int l2)]) (st' := [.int x_4, .ref l0]) cd_210_8 rfl rfl ?_
  refine go_ite (fun hc => ?_) (fun hc => ?_)
  · rw [if_pos hc] at h
    refine gs_0 (pc' := 19) (L' := [some (.ref l0), some (.int l1), some (.int l2)]) (st' := [.int l2, .int x_4, .ref l0]) cd_210_18 rfl rfl ?_
    exact ok_210_19 h
  · rw [if_neg hc] at h
    refine gs_0 (pc' := 12) (L' := [some (.ref l0), some (.int l1), some (.int l2)]) (st' := [.int l2, .int x_4, .ref l0]) cd_210_11 rfl rfl ?_
    refine gs_0 (pc' := 14) (L' := [some (.ref l0), some (.int l1), some (.int l2)]) (st' := [.int 8, .int l2, .int x_4, .ref l0]) cd_210_12 rfl rfl ?_
    refine gs_0 (pc' := 15) (L' := [some (.ref l0), some (.int l1), some (.int l2)]) (st' := [.int (l2 - 8), .int x_4, .ref l0]) cd_210_14 rfl rfl ?_
    refine gs_0 (pc' := 19) (L' := [some (.ref l0), some (.int l1), some (.int l2)]) (st' := [.int (l2 - 8), .int x_4, .ref l0]) cd_210_15 rfl rfl ?_
    exact ok_210_19 h
theorem cl_210 {K : Nat → Value} {k d : Nat} {l0 : Nat} {l1 : Int32} {l2 : Int32} {w : aW} {I : aI} {J : aJ} {R : aR} (h : f_210 K k d l0 l1 l2 w I J = some R) : Cl K (d + 1) 210 [.ref l0, .int l1, .int l2] w I J = some R := Cl_of (ok_210 h)
/-! ProvedMachineModel.object(II)J -/
set_option maxRecDepth 20000 in
theorem gl_211 : gcd.lookup 211 = some gw_211 := rfl
theorem cd_211_0 : sm_cd 211 0 = some (.aload_n 0, 1, 0, 0, 0, 0, 0, 0, 0) := cd_of gl_211 rfl
theorem cd_211_1 : sm_cd 211 1 = some (.getfield 333, 3, 6, 42, 1, 0, 0, 0, 0) := cd_of gl_211 rfl
theorem cd_211_4 : sm_cd 211 4 = some (.ifCond .ne 10, 3, 14, 0, 0, 0, 0, 0, 0) := cd_of gl_211 rfl
theorem cd_211_7 : sm_cd 211 7 = some (.aload_n 0, 1, 0, 0, 0, 0, 0, 0, 0) := cd_of gl_211 rfl
theorem cd_211_8 : sm_cd 211 8 = some (.bipush 6, 2, 0, 0, 0, 0, 0, 6, 0) := cd_of gl_211 rfl
theorem cd_211_10 : sm_cd 211 10 = some (.invokevirtual 148, 3, 20, 0, 1, 2, 6, 0, 0) := cd_of gl_211 rfl
theorem cd_211_13 : sm_cd 211 13 = some (.lreturn, 1, 0, 0, 0, 0, 0, 0, 0) := cd_of gl_211 rfl
theorem cd_211_14 : sm_cd 211 14 = some (.iload_n 1, 1, 1, 0, 0, 0, 0, 0, 0) := cd_of gl_211 rfl
theorem cd_211_15 : sm_cd 211 15 = some (.iconst 1, 1, 0, 0, 0, 0, 0, 1, 0) := cd_of gl_211 rfl
theorem cd_211_16 : sm_cd 211 16 = some (.bipush 16, 2, 0, 0, 0, 0, 0, 16, 0) := cd_of gl_211 rfl
theorem cd_211_18 : sm_cd 211 18 = some (.invokestatic 144, 3, 19, 1, 3, 3, 6, 0, 0) := cd_of gl_211 rfl
theorem cd_211_21 : sm_cd 211 21 = some (.ifCond .ne 9, 3, 30, 0, 0, 0, 0, 0, 0) := cd_of gl_211 rfl
theorem cd_211_24 : sm_cd 211 24 = some (.aload_n 0, 1, 0, 0, 0, 0, 0, 0, 0) := cd_of gl_211 rfl
theorem cd_211_25 : sm_cd 211 25 = some (.iconst 1, 1, 0, 0, 0, 0, 0, 1, 0) := cd_of gl_211 rfl
theorem cd_211_26 : sm_cd 211 26 = some (.invokevirtual 148, 3, 20, 0, 1, 2, 6, 0, 0) := cd_of gl_211 rfl
theorem cd_211_29 : sm_cd 211 29 = some (.lreturn, 1, 0, 0, 0, 0, 0, 0, 0) := cd_of gl_211 rfl
theorem cd_211_30 : sm_cd 211 30 = some (.aload_n 0, 1, 0, 0, 0, 0, 0, 0, 0) := cd_of gl_211 rfl
theorem cd_211_31 : sm_cd 211 31 = some (.getfield 111, 3, 6, 36, 2, 0, 0, 0, 0) := cd_of gl_211 rfl
theorem cd_211_34 : sm_cd 211 34 = some (.iload_n 1, 1, 1, 0, 0, 0, 0, 0, 0) := cd_of gl_211 rfl
theorem cd_211_35 : sm_cd 211 35 = some (.iconst 0, 1, 0, 0, 0, 0, 0, 0, 0) := cd_of gl_211 rfl
theorem cd_211_36 : sm_cd 211 36 = some (.invokestatic 366, 3, 183, 1, 2, 2, 6, 0, 0) := cd_of gl_211 rfl
theorem cd_211_39 : sm_cd 211 39 = some (.iaload, 1, 0, 0, 0, 0, 0, 0, 0) := cd_of gl_211 rfl
theorem cd_211_40 : sm_cd 211 40 = some (.istore_n 3, 1, 3, 0, 0, 0, 0, 0, 0) := cd_of gl_211 rfl
theorem cd_211_41 : sm_cd 211 41 = some (.iload_n 2, 1, 2, 0, 0, 0, 0, 0, 0) := cd_of gl_211 rfl
theorem cd_211_42 : sm_cd 211 42 = some (.ifCond .eq 49, 3, 91, 0, 0, 0, 0, 0, 0) := cd_of gl_211 rfl
theorem cd_211_45 : sm_cd 211 45 = some (.iload_n 3, 1, 3, 0, 0, 0, 0, 0, 0) := cd_of gl_211 rfl
theorem cd_211_46 : sm_cd 211 46 = some (.iconst 1, 1, 0, 0, 0, 0, 0, 1, 0) := cd_of gl_211 rfl
theorem cd_211_47 : sm_cd 211 47 = some (.if_icmp .ne 30, 3, 77, 0, 0, 0, 0, 0, 0) := cd_of gl_211 rfl
theorem cd_211_50 : sm_cd 211 50 = some (.iload_n 2, 1, 2, 0, 0, 0, 0, 0, 0) := cd_of gl_211 rfl
theorem cd_211_51 : sm_cd 211 51 = some (.iconst 1, 1, 0, 0, 0, 0, 0, 1, 0) := cd_of gl_211 rfl
theorem cd_211_52 : sm_cd 211 52 = some (.if_icmp .eq 39, 3, 91, 0, 0, 0, 0, 0, 0) := cd_of gl_211 rfl
theorem cd_211_55 : sm_cd 211 55 = some (.iload_n 2, 1, 2, 0, 0, 0, 0, 0, 0) := cd_of gl_211 rfl
theorem cd_211_56 : sm_cd 211 56 = some (.bipush 10, 2, 0, 0, 0, 0, 0, 10, 0) := cd_of gl_211 rfl
theorem cd_211_58 : sm_cd 211 58 = some (.bipush 9, 2, 0, 0, 0, 0, 0, 9, 0) := cd_of gl_211 rfl
theorem cd_211_60 : sm_cd 211 60 = some (.aload_n 0, 1, 0, 0, 0, 0, 0, 0, 0) := cd_of gl_211 rfl
theorem cd_211_61 : sm_cd 211 61 = some (.getfield 111, 3, 6, 36, 2, 0, 0, 0, 0) := cd_of gl_211 rfl
theorem cd_211_64 : sm_cd 211 64 = some (.iload_n 1, 1, 1, 0, 0, 0, 0, 0, 0) := cd_of gl_211 rfl
theorem cd_211_65 : sm_cd 211 65 = some (.iconst 1, 1, 0, 0, 0, 0, 0, 1, 0) := cd_of gl_211 rfl
theorem cd_211_66 : sm_cd 211 66 = some (.invokestatic 366, 3, 183, 1, 2, 2, 6, 0, 0) := cd_of gl_211 rfl
theorem cd_211_69 : sm_cd 211 69 = some (.iaload, 1, 0, 0, 0, 0, 0, 0, 0) := cd_of gl_211 rfl
theorem cd_211_70 : sm_cd 211 70 = some (.iadd, 1, 0, 0, 0, 0, 0, 0, 0) := cd_of gl_211 rfl
theorem cd_211_71 : sm_cd 211 71 = some (.invokestatic 144, 3, 19, 1, 3, 3, 6, 0, 0) := cd_of gl_211 rfl
theorem cd_211_74 : sm_cd 211 74 = some (.ifCond .ne 17, 3, 91, 0, 0, 0, 0, 0, 0) := cd_of gl_211 rfl
theorem cd_211_77 : sm_cd 211 77 = some (.iload_n 3, 1, 3, 0, 0, 0, 0, 0, 0) := cd_of gl_211 rfl
theorem cd_211_78 : sm_cd 211 78 = some (.iconst 2, 1, 0, 0, 0, 0, 0, 2, 0) := cd_of gl_211 rfl
theorem cd_211_79 : sm_cd 211 79 = some (.if_icmp .ne 16, 3, 95, 0, 0, 0, 0, 0, 0) := cd_of gl_211 rfl
theorem cd_211_82 : sm_cd 211 82 = some (.iload_n 2, 1, 2, 0, 0, 0, 0, 0, 0) := cd_of gl_211 rfl
theorem cd_211_83 : sm_cd 211 83 = some (.iconst 1, 1, 0, 0, 0, 0, 0, 1, 0) := cd_of gl_211 rfl
theorem cd_211_84 : sm_cd 211 84 = some (.iconst 2, 1, 0, 0, 0, 0, 0, 2, 0) := cd_of gl_211 rfl
theorem cd_211_85 : sm_cd 211 85 = some (.invokestatic 144, 3, 19, 1, 3, 3, 6, 0, 0) := cd_of gl_211 rfl
theorem cd_211_88 : sm_cd 211 88 = some (.ifCond .eq 7, 3, 95, 0, 0, 0, 0, 0, 0) := cd_of gl_211 rfl
theorem cd_211_91 : sm_cd 211 91 = some (.iconst 1, 1, 0, 0, 0, 0, 0, 1, 0) := cd_of gl_211 rfl
theorem cd_211_92 : sm_cd 211 92 = some (.goto 4, 3, 96, 0, 0, 0, 0, 0, 0) := cd_of gl_211 rfl
theorem cd_211_95 : sm_cd 211 95 = some (.iconst 0, 1, 0, 0, 0, 0, 0, 0, 0) := cd_of gl_211 rfl
theorem cd_211_96 : sm_cd 211 96 = some (.istore 4, 2, 4, 0, 0, 0, 0, 0, 0) := cd_of gl_211 rfl
theorem cd_211_98 : sm_cd 211 98 = some (.iload 4, 2, 4, 0, 0, 0, 0, 0, 0) := cd_of gl_211 rfl
theorem cd_211_100 : sm_cd 211 100 = some (.ifCond .ne 11, 3, 111, 0, 0, 0, 0, 0, 0) := cd_of gl_211 rfl
theorem cd_211_103 : sm_cd 211 103 = some (.aload_n 0, 1, 0, 0, 0, 0, 0, 0, 0) := cd_of gl_211 rfl
theorem cd_211_104 : sm_cd 211 104 = some (.iconst 1, 1, 0, 0, 0, 0, 0, 1, 0) := cd_of gl_211 rfl
theorem cd_211_105 : sm_cd 211 105 = some (.invokevirtual 148, 3, 20, 0, 1, 2, 6, 0, 0) := cd_of gl_211 rfl
theorem cd_211_108 : sm_cd 211 108 = some (.goto 27, 3, 135, 0, 0, 0, 0, 0, 0) := cd_of gl_211 rfl
theorem cd_211_111 : sm_cd 211 111 = some (.aload_n 0, 1, 0, 0, 0, 0, 0, 0, 0) := cd_of gl_211 rfl
theorem cd_211_112 : sm_cd 211 112 = some (.getfield 111, 3, 6, 36, 2, 0, 0, 0, 0) := cd_of gl_211 rfl
theorem cd_211_115 : sm_cd 211 115 = some (.iload_n 1, 1, 1, 0, 0, 0, 0, 0, 0) := cd_of gl_211 rfl
theorem cd_211_116 : sm_cd 211 116 = some (.iload_n 2, 1, 2, 0, 0, 0, 0, 0, 0) := cd_of gl_211 rfl
theorem cd_211_117 : sm_cd 211 117 = some (.bipush 10, 2, 0, 0, 0, 0, 0, 10, 0) := cd_of gl_211 rfl
theorem cd_211_119 : sm_cd 211 119 = some (.if_icmp .ge 7, 3, 126, 0, 0, 0, 0, 0, 0) := cd_of gl_211 rfl
theorem cd_211_122 : sm_cd 211 122 = some (.iload_n 2, 1, 2, 0, 0, 0, 0, 0, 0) := cd_of gl_211 rfl
theorem cd_211_123 : sm_cd 211 123 = some (.goto 7, 3, 130, 0, 0, 0, 0, 0, 0) := cd_of gl_211 rfl
theorem cd_211_126 : sm_cd 211 126 = some (.iload_n 2, 1, 2, 0, 0, 0, 0, 0, 0) := cd_of gl_211 rfl
theorem cd_211_127 : sm_cd 211 127 = some (.bipush 7, 2, 0, 0, 0, 0, 0, 7, 0) := cd_of gl_211 rfl
theorem cd_211_129 : sm_cd 211 129 = some (.isub, 1, 0, 0, 0, 0, 0, 0, 0) := cd_of gl_211 rfl
theorem cd_211_130 : sm_cd 211 130 = some (.invokestatic 366, 3, 183, 1, 2, 2, 6, 0, 0) := cd_of gl_211 rfl
theorem cd_211_133 : sm_cd 211 133 = some (.iaload, 1, 0, 0, 0, 0, 0, 0, 0) := cd_of gl_211 rfl
theorem cd_211_134 : sm_cd 211 134 = some (.i2l, 1, 0, 0, 0, 0, 0, 0, 0) := cd_of gl_211 rfl
theorem cd_211_135 : sm_cd 211 135 = some (.lreturn, 1, 0, 0, 0, 0, 0, 0, 0) := cd_of gl_211 rfl
noncomputable def f_211_130 (K : Nat → Value) (k d : Nat) (l0 : Nat) (l1 : Int32) (l2 : Int32) (l3 : Int32) (l4 : Int32) (s0 : Nat) (s1 : Int32) (s2 : Int32) (w : aW) (I : aI) (J : aJ) : Option aR :=
  cI (Cl K d 183 [.int s1, .int s2] w I J) fun x_4 w_1 I_2 J_3 =>
  gA w_1 10 20 s0 x_4 (
  some (some (.long ((I_2 s0 (x_4 : Int32).toNatClampNeg : Int32).toInt64)), w_1, I_2, J_3))
theorem ok_211_130 {K : Nat → Value} {k d : Nat} {l0 : Nat} {l1 : Int32} {l2 : Int32} {l3 : Int32} {l4 : Int32} {s0 : Nat} {s1 : Int32} {s2 : Int32} {w : aW} {I : aI} {J : aJ} {R : aR} (h : f_211_130 K k d l0 l1 l2 l3 l4 s0 s1 s2 w I J = some R) : Go K (d + 1) 211 130 [some (.ref l0), some (.int l1), some (.int l2), some (.int l3), some (.int l4)] [.int s2, .int s1, .ref s0] w I J R := by
  unfold f_211_130 at h
  obtain ⟨x_4, w_1, I_2, J_3, hcl, h⟩ := cI_s h
  refine gs_call (as := [.int s1, .int s2]) (rest := [.ref s0]) cd_211_130 rfl (by decide) rfl rfl (Nat.le_of_ble_eq_true rfl) (Nat.le_of_ble_eq_true rfl) rfl hcl ?_
  obtain ⟨ht, h⟩ := gA_s h
  refine gs_iald cd_211_133 ht ?_
  refine gs_0 (pc' := 135) (L' := [some (.ref l0), some (.int l1), some (.int l2), some (.int l3), some (.int l4)]) (st' := [.long ((I_2 s0 (x_4 : Int32).toNatClampNeg : Int32).toInt64)]) cd_211_134 rfl rfl ?_
  cases h
  exact gsr cd_211_135 rfl rfl
noncomputable def f_211_96 (K : Nat → Value) (k d : Nat) (l0 : Nat) (l1 : Int32) (l2 : Int32) (l3 : Int32) (s0 : Int32) (w : aW) (I : aI) (J : aJ) : Option aR :=
  if ¬ s0 = 0 then
    gO w 6 l0 (
    gV w l0 36 fun q_1 =>
    if 10 ≤ l2 then
      f_211_130 K k d l0 l1 l2 l3 s0 q_1 l1 (l2 - 7) w I J
    else
      f_211_130 K k d l0 l1 l2 l3 s0 q_1 l1 l2 w I J)
  else
    gO w 6 l0 (
    cJ (Cl K d 20 [.ref l0, .int 1] w I J) fun v_5 w_2 I_3 J_4 =>
    some (some (.long v_5), w_2, I_3, J_4))
theorem ok_211_96 {K : Nat → Value} {k d : Nat} {l0 : Nat} {l1 : Int32} {l2 : Int32} {l3 : Int32} {s0 : Int32} {w : aW} {I : aI} {J : aJ} {R : aR} (h : f_211_96 K k d l0 l1 l2 l3 s0 w I J = some R) : Go K (d + 1) 211 96 [some (.ref l0), some (.int l1), some (.int l2), some (.int l3), none] [.int s0] w I J R := by
  unfold f_211_96 at h
  refine gs_0 (pc' := 98) (L' := [some (.ref l0), some (.int l1), some (.int l2), some (.int l3), some (.int s0)]) (st' := []) cd_211_96 rfl rfl ?_
  refine gs_0 (pc' := 100) (L' := [some (.ref l0), some (.int l1), some (.int l2), some (.int l3), some (.int s0)]) (st' := [.int s0]) cd_211_98 rfl rfl ?_
  refine gs_0 (pc' := if ¬ s0 = 0 then 111 else 103) (L' := [some (.ref l0), some (.int l1), some (.int l2), some (.int l3), some (.int s0)]) (st' := []) cd_211_100 rfl rfl ?_
  refine go_ite (fun hc => ?_) (fun hc => ?_)
  · rw [if_pos hc] at h
    refine gs_0 (pc' := 112) (L' := [some (.ref l0), some (.int l1), some (.int l2), some (.int l3), some (.int s0)]) (st' := [.ref l0]) cd_211_111 rfl rfl ?_
    obtain ⟨ht, h⟩ := gO_s h
    obtain ⟨q_1, hv, h⟩ := gV_s h
    refine gs_gfR cd_211_112 (by decide) ht hv ?_
    refine gs_0 (pc' := 116) (L' := [some (.ref l0), some (.int l1), some (.int l2), some (.int l3), some (.int s0)]) (st' := [.int l1, .ref q_1]) cd_211_115 rfl rfl ?_
    refine gs_0 (pc' := 117) (L' := [some (.ref l0), some (.int l1), some (.int l2), some (.int l3), some (.int s0)]) (st' := [.int l2, .int l1, .ref q_1]) cd_211_116 rfl rfl ?_
    refine gs_0 (pc' := 119) (L' := [some (.ref l0), some (.int l1), some (.int l2), some (.int l3), some (.int s0)]) (st' := [.int 10, .int l2, .int l1, .ref q_1]) cd_211_117 rfl rfl ?_
    refine gs_0 (pc' := if 10 ≤ l2 then 126 else 122) (L' := [some (.ref l0), some (.int l1), some (.int l2), some (.int l3), some (.int s0)]) (st' := [.int l1, .ref q_1]) cd_211_119 rfl rfl ?_
    refine go_ite (fun hc => ?_) (fun hc => ?_)
    · rw [if_pos hc] at h
      refine gs_0 (pc' := 127) (L' := [some (.ref l0), some (.int l1), some (.int l2), some (.int l3), some (.int s0)]) (st' := [.int l2, .int l1, .ref q_1]) cd_211_126 rfl rfl ?_
      refine gs_0 (pc' := 129) (L' := [some (.ref l0), some (.int l1), some (.int l2), some (.int l3), some (.int s0)]) (st' := [.int 7, .int l2, .int l1, .ref q_1]) cd_211_127 rfl rfl ?_
      refine gs_0 (pc' := 130) (L' := [some (.ref l0), some (.int l1), some (.int l2), some (.int l3), some (.int s0)]) (st' := [.int (l2 - 7), .int l1, .ref q_1]) cd_211_129 rfl rfl ?_
      exact ok_211_130 h
    · rw [if_neg hc] at h
      refine gs_0 (pc' := 123) (L' := [some (.ref l0), some (.int l1), some (.int l2), some (.int l3), some (.int s0)]) (st' := [.int l2, .int l1, .ref q_1]) cd_211_122 rfl rfl ?_
      refine gs_0 (pc' := 130) (L' := [some (.ref l0), some (.int l1), some (.int l2), some (.int l3), some (.int s0)]) (st' := [.int l2, .int l1, .ref q_1]) cd_211_123 rfl rfl ?_
      exact ok_211_130 h
  · rw [if_neg hc] at h
    refine gs_0 (pc' := 104) (L' := [some (.ref l0), some (.int l1), some (.int l2), some (.int l3), some (.int s0)]) (st' := [.ref l0]) cd_211_103 rfl rfl ?_
    refine gs_0 (pc' := 105) (L' := [some (.ref l0), some (.int l1), some (.int l2), some (.int l3), some (.int s0)]) (st' := [.int 1, .ref l0]) cd_211_104 rfl rfl ?_
    obtain ⟨ht, h⟩ := gO_s h
    obtain ⟨v_5, w_2, I_3, J_4, hcl, h⟩ := cJ_s h
    refine gs_call (as := [.ref l0, .int 1]) (rest := []) cd_211_105 rfl (by decide) rfl (sm_rv_ok (by decide) ht) (Nat.le_of_ble_eq_true rfl) (Nat.le_of_ble_eq_true rfl) rfl hcl ?_
    refine gs_0 (pc' := 135) (L' := [some (.ref l0), some (.int l1), some (.int l2), some (.int l3), some (.int s0)]) (st' := [.long v_5]) cd_211_108 rfl rfl ?_
    cases h
    exact gsr cd_211_135 rfl rfl
noncomputable def f_211_95 (K : Nat → Value) (k d : Nat) (l0 : Nat) (l1 : Int32) (l2 : Int32) (l3 : Int32) (w : aW) (I : aI) (J : aJ) : Option aR :=
  f_211_96 K k d l0 l1 l2 l3 0 w I J
theorem ok_211_95 {K : Nat → Value} {k d : Nat} {l0 : Nat} {l1 : Int32} {l2 : Int32} {l3 : Int32} {w : aW} {I : aI} {J : aJ} {R : aR} (h : f_211_95 K k d l0 l1 l2 l3 w I J = some R) : Go K (d + 1) 211 95 [some (.ref l0), some (.int l1), some (.int l2), some (.int l3), none] [] w I J R := by
  unfold f_211_95 at h
  refine gs_0 (pc' := 96) (L' := [some (.ref l0), some (.int l1), some (.int l2), some (.int l3), none]) (st' := [.int 0]) cd_211_95 rfl rfl ?_
  exact ok_211_96 h
noncomputable def f_211_91 (K : Nat → Value) (k d : Nat) (l0 : Nat) (l1 : Int32) (l2 : Int32) (l3 : Int32) (w : aW) (I : aI) (J : aJ) : Option aR :=
  f_211_96 K k d l0 l1 l2 l3 1 w I J
theorem ok_211_91 {K : Nat → Value} {k d : Nat} {l0 : Nat} {l1 : Int32} {l2 : Int32} {l3 : Int32} {w : aW} {I : aI} {J : aJ} {R : aR} (h : f_211_91 K k d l0 l1 l2 l3 w I J = some R) : Go K (d + 1) 211 91 [some (.ref l0), some (.int l1), some (.int l2), some (.int l3), none] [] w I J R := by
  unfold f_211_91 at h
  refine gs_0 (pc' := 92) (L' := [some (.ref l0), some (.int l1), some (.int l2), some (.int l3), none]) (st' := [.int 1]) cd_211_91 rfl rfl ?_
  refine gs_0 (pc' := 96) (L' := [some (.ref l0), some (.int l1), some (.int l2), some (.int l3), none]) (st' := [.int 1]) cd_211_92 rfl rfl ?_
  exact ok_211_96 h
noncomputable def f_211_77 (K : Nat → Value) (k d : Nat) (l0 : Nat) (l1 : Int32) (l2 : Int32) (l3 : Int32) (w : aW) (I : aI) (J : aJ) : Option aR :=
  if ¬ l3 = 2 then
    f_211_95 K k d l0 l1 l2 l3 w I J
  else
    cI (Cl K d 19 [.int l2, .int 1, .int 2] w I J) fun x_4 w_1 I_2 J_3 =>
    if x_4 = 0 then
      f_211_95 K k d l0 l1 l2 l3 w_1 I_2 J_3
    else
      f_211_91 K k d l0 l1 l2 l3 w_1 I_2 J_3
theorem ok_211_77 {K : Nat → Value} {k d : Nat} {l0 : Nat} {l1 : Int32} {l2 : Int32} {l3 : Int32} {w : aW} {I : aI} {J : aJ} {R : aR} (h : f_211_77 K k d l0 l1 l2 l3 w I J = some R) : Go K (d + 1) 211 77 [some (.ref l0), some (.int l1), some (.int l2), some (.int l3), none] [] w I J R := by
  unfold f_211_77 at h
  refine gs_0 (pc' := 78) (L' := [some (.ref l0), some (.int l1), some (.int l2), some (.int l3), none]) (st' := [.int l3]) cd_211_77 rfl rfl ?_
  refine gs_0 (pc' := 79) (L' := [some (.ref l0), some (.int l1), some (.int l2), some (.int l3), none]) (st' := [.int 2, .int l3]) cd_211_78 rfl rfl ?_
  refine gs_0 (pc' := if ¬ l3 = 2 then 95 else 82) (L' := [some (.ref l0), some (.int l1), some (.int l2), some (.int l3), none]) (st' := []) cd_211_79 rfl rfl ?_
  refine go_ite (fun hc => ?_) (fun hc => ?_)
  · rw [if_pos hc] at h
    exact ok_211_95 h
  · rw [if_neg hc] at h
    refine gs_0 (pc' := 83) (L' := [some (.ref l0), some (.int l1), some (.int l2), some (.int l3), none]) (st' := [.int l2]) cd_211_82 rfl rfl ?_
    refine gs_0 (pc' := 84) (L' := [some (.ref l0), some (.int l1), some (.int l2), some (.int l3), none]) (st' := [.int 1, .int l2]) cd_211_83 rfl rfl ?_
    refine gs_0 (pc' := 85) (L' := [some (.ref l0), some (.int l1), some (.int l2), some (.int l3), none]) (st' := [.int 2, .int 1, .int l2]) cd_211_84 rfl rfl ?_
    obtain ⟨x_4, w_1, I_2, J_3, hcl, h⟩ := cI_s h
    refine gs_call (as := [.int l2, .int 1, .int 2]) (rest := []) cd_211_85 rfl (by decide) rfl rfl (Nat.le_of_ble_eq_true rfl) (Nat.le_of_ble_eq_true rfl) rfl hcl ?_
    refine gs_0 (pc' := if x_4 = 0 then 95 else 91) (L' := [some (.ref l0), some (.int l1), some (.int l2), some (.int l3), none]) (st' := []) cd_211_88 rfl rfl ?_
    refine go_ite (fun hc => ?_) (fun hc => ?_)
    · rw [if_pos hc] at h
      exact ok_211_95 h
    · rw [if_neg hc] at h
      exact ok_211_91 h
noncomputable def f_211 (K : Nat → Value) (k d : Nat) (l0 : Nat) (l1 : Int32) (l2 : Int32) (w : aW) (I : aI) (J : aJ) : Option aR :=
  gO w 6 l0 (
  if ¬ (I l0 42) = 0 then
    cI (Cl K d 19 [.int l1, .int 1, .int 16] w I J) fun x_4 w_1 I_2 J_3 =>
    if ¬ x_4 = 0 then
      gO w_1 6 l0 (
      gV w_1 l0 36 fun q_5 =>
      cI (Cl K d 183 [.int l1, .int 0] w_1 I_2 J_3) fun x_9 w_6 I_7 J_8 =>
      gA w_6 10 20 q_5 x_9 (
      lt_ (I_7 q_5 (x_9 : Int32).toNatClampNeg) fun x_10 =>
      if l2 = 0 then
        f_211_91 K k d l0 l1 l2 x_10 w_6 I_7 J_8
      else
        if ¬ x_10 = 1 then
          f_211_77 K k d l0 l1 l2 x_10 w_6 I_7 J_8
        else
          if l2 = 1 then
            f_211_91 K k d l0 l1 l2 x_10 w_6 I_7 J_8
          else
            gO w_6 6 l0 (
            gV w_6 l0 36 fun q_11 =>
            cI (Cl K d 183 [.int l1, .int 1] w_6 I_7 J_8) fun x_15 w_12 I_13 J_14 =>
            gA w_12 10 20 q_11 x_15 (
            cI (Cl K d 19 [.int l2, .int 10, .int (9 + (I_13 q_11 (x_15 : Int32).toNatClampNeg))] w_12 I_13 J_14) fun x_19 w_16 I_17 J_18 =>
            if ¬ x_19 = 0 then
              f_211_91 K k d l0 l1 l2 x_10 w_16 I_17 J_18
            else
              f_211_77 K k d l0 l1 l2 x_10 w_16 I_17 J_18))))
    else
      gO w_1 6 l0 (
      cJ (Cl K d 20 [.ref l0, .int 1] w_1 I_2 J_3) fun v_23 w_20 I_21 J_22 =>
      some (some (.long v_23), w_20, I_21, J_22))
  else
    gO w 6 l0 (
    cJ (Cl K d 20 [.ref l0, .int 6] w I J) fun v_27 w_24 I_25 J_26 =>
    some (some (.long v_27), w_24, I_25, J_26)))
theorem ok_211 {K : Nat → Value} {k d : Nat} {l0 : Nat} {l1 : Int32} {l2 : Int32} {w : aW} {I : aI} {J : aJ} {R : aR} (h : f_211 K k d l0 l1 l2 w I J = some R) : Go K (d + 1) 211 0 [some (.ref l0), some (.int l1), some (.int l2), none, none] [] w I J R := by
  unfold f_211 at h
  refine gs_0 (pc' := 1) (L' := [some (.ref l0), some (.int l1), some (.int l2), none, none]) (st' := [.ref l0]) cd_211_0 rfl rfl ?_
  obtain ⟨ht, h⟩ := gO_s h
  refine gs_gfI cd_211_1 (by decide) (by decide) ht ?_
  refine gs_0 (pc' := if ¬ (I l0 42) = 0 then 14 else 7) (L' := [some (.ref l0), some (.int l1), some (.int l2), none, none]) (st' := []) cd_211_4 rfl rfl ?_
  refine go_ite (fun hc => ?_) (fun hc => ?_)
  · rw [if_pos hc] at h
    refine gs_0 (pc' := 15) (L' := [some (.ref l0), some (.int l1), some (.int l2), none, none]) (st' := [.int l1]) cd_211_14 rfl rfl ?_
    refine gs_0 (pc' := 16) (L' := [some (.ref l0), some (.int l1), some (.int l2), none, none]) (st' := [.int 1, .int l1]) cd_211_15 rfl rfl ?_
    refine gs_0 (pc' := 18) (L' := [some (.ref l0), some (.int l1), some (.int l2), none, none]) (st' := [.int 16, .int 1, .int l1]) cd_211_16 rfl rfl ?_
    obtain ⟨x_4, w_1, I_2, J_3, hcl, h⟩ := cI_s h
    refine gs_call (as := [.int l1, .int 1, .int 16]) (rest := []) cd_211_18 rfl (by decide) rfl rfl (Nat.le_of_ble_eq_true rfl) (Nat.le_of_ble_eq_true rfl) rfl hcl ?_
    refine gs_0 (pc' := if ¬ x_4 = 0 then 30 else 24) (L' := [some (.ref l0), some (.int l1), some (.int l2), none, none]) (st' := []) cd_211_21 rfl rfl ?_
    refine go_ite (fun hc => ?_) (fun hc => ?_)
    · rw [if_pos hc] at h
      refine gs_0 (pc' := 31) (L' := [some (.ref l0), some (.int l1), some (.int l2), none, none]) (st' := [.ref l0]) cd_211_30 rfl rfl ?_
      obtain ⟨ht, h⟩ := gO_s h
      obtain ⟨q_5, hv, h⟩ := gV_s h
      refine gs_gfR cd_211_31 (by decide) ht hv ?_
      refine gs_0 (pc' := 35) (L' := [some (.ref l0), some (.int l1), some (.int l2), none, none]) (st' := [.int l1, .ref q_5]) cd_211_34 rfl rfl ?_
      refine gs_0 (pc' := 36) (L' := [some (.ref l0), some (.int l1), some (.int l2), none, none]) (st' := [.int 0, .int l1, .ref q_5]) cd_211_35 rfl rfl ?_
      obtain ⟨x_9, w_6, I_7, J_8, hcl, h⟩ := cI_s h
      refine gs_call (as := [.int l1, .int 0]) (rest := [.ref q_5]) cd_211_36 rfl (by decide) rfl rfl (Nat.le_of_ble_eq_true rfl) (Nat.le_of_ble_eq_true rfl) rfl hcl ?_
      obtain ⟨ht, h⟩ := gA_s h
      refine gs_iald cd_211_39 ht ?_
      refine gs_0 (pc' := 41) (L' := [some (.ref l0), some (.int l1), some (.int l2), some (.int (I_7 q_5 (x_9 : Int32).toNatClampNeg)), none]) (st' := []) cd_211_40 rfl rfl ?_
      obtain ⟨x_10, hx, h⟩ := lt_s_ h
      rw [hx]
      clear hx
      refine gs_0 (pc' := 42) (L' := [some (.ref l0), some (.int l1), some (.int l2), some (.int x_10), none]) (st' := [.int l2]) cd_211_41 rfl rfl ?_
      refine gs_0 (pc' := if l2 = 0 then 91 else 45) (L' := [some (.ref l0), some (.int l1), some (.int l2), some (.int x_10), none]) (st' := []) cd_211_42 rfl rfl ?_
      refine go_ite (fun hc => ?_) (fun hc => ?_)
      · rw [if_pos hc] at h
        exact ok_211_91 h
      · rw [if_neg hc] at h
        refine gs_0 (pc' := 46) (L' := [some (.ref l0), some (.int l1), some (.int l2), some (.int x_10), none]) (st' := [.int x_10]) cd_211_45 rfl rfl ?_
        refine gs_0 (pc' := 47) (L' := [some (.ref l0), some (.int l1), some (.int l2), some (.int x_10), none]) (st' := [.int 1, .int x_10]) cd_211_46 rfl rfl ?_
        refine gs_0 (pc' := if ¬ x_10 = 1 then 77 else 50) (L' := [some (.ref l0), some (.int l1), some (.int l2), some (.int x_10), none]) (st' := []) cd_211_47 rfl rfl ?_
        refine go_ite (fun hc => ?_) (fun hc => ?_)
        · rw [if_pos hc] at h
          exact ok_211_77 h
        · rw [if_neg hc] at h
          refine gs_0 (pc' := 51) (L' := [some (.ref l0), some (.int l1), some (.int l2), some (.int x_10), none]) (st' := [.int l2]) cd_211_50 rfl rfl ?_
          refine gs_0 (pc' := 52) (L' := [some (.ref l0), some (.int l1), some (.int l2), some (.int x_10), none]) (st' := [.int 1, .int l2]) cd_211_51 rfl rfl ?_
          refine gs_0 (pc' := if l2 = 1 then 91 else 55) (L' := [some (.ref l0), some (.int l1), some (.int l2), some (.int x_10), none]) (st' := []) cd_211_52 rfl rfl ?_
          refine go_ite (fun hc => ?_) (fun hc => ?_)
          · rw [if_pos hc] at h
            exact ok_211_91 h
          · rw [if_neg hc] at h
            refine gs_0 (pc' := 56) (L' := [some (.ref l0), some (.int l1), some (.int l2), some (.int x_10), none]) (st' := [.int l2]) cd_211_55 rfl rfl ?_
            refine gs_0 (pc' := 58) (L' := [some (.ref l0), some (.int l1), some (.int l2), some (.int x_10), none]) (st' := [.int 10, .int l2]) cd_211_56 rfl rfl ?_
            refine gs_0 (pc' := 60) (L' := [some (.ref l0), some (.int l1), some (.int l2), some (.int x_10), none]) (st' := [.int 9, .int 10, .int l2]) cd_211_58 rfl rfl ?_
            refine gs_0 (pc' := 61) (L' := [some (.ref l0), some (.int l1), some (.int l2), some (.int x_10), none]) (st' := [.ref l0, .int 9, .int 10, .int l2]) cd_211_60 rfl rfl ?_
            obtain ⟨ht, h⟩ := gO_s h
            obtain ⟨q_11, hv, h⟩ := gV_s h
            refine gs_gfR cd_211_61 (by decide) ht hv ?_
            refine gs_0 (pc' := 65) (L' := [some (.ref l0), some (.int l1), some (.int l2), some (.int x_10), none]) (st' := [.int l1, .ref q_11, .int 9, .int 10, .int l2]) cd_211_64 rfl rfl ?_
            refine gs_0 (pc' := 66) (L' := [some (.ref l0), some (.int l1), some (.int l2), some (.int x_10), none]) (st' := [.int 1, .int l1, .ref q_11, .int 9, .int 10, .int l2]) cd_211_65 rfl rfl ?_
            obtain ⟨x_15, w_12, I_13, J_14, hcl, h⟩ := cI_s h
            refine gs_call (as := [.int l1, .int 1]) (rest := [.ref q_11, .int 9, .int 10, .int l2]) cd_211_66 rfl (by decide) rfl rfl (Nat.le_of_ble_eq_true rfl) (Nat.le_of_ble_eq_true rfl) rfl hcl ?_
            obtain ⟨ht, h⟩ := gA_s h
            refine gs_iald cd_211_69 ht ?_
            refine gs_0 (pc' := 71) (L' := [some (.ref l0), some (.int l1), some (.int l2), some (.int x_10), none]) (st' := [.int (9 + (I_13 q_11 (x_15 : Int32).toNatClampNeg)), .int 10, .int l2]) cd_211_70 rfl rfl ?_
            obtain ⟨x_19, w_16, I_17, J_18, hcl, h⟩ := cI_s h
            refine gs_call (as := [.int l2, .int 10, .int (9 + (I_13 q_11 (x_15 : Int32).toNatClampNeg))]) (rest := []) cd_211_71 rfl (by decide) rfl rfl (Nat.le_of_ble_eq_true rfl) (Nat.le_of_ble_eq_true rfl) rfl hcl ?_
            refine gs_0 (pc' := if ¬ x_19 = 0 then 91 else 77) (L' := [some (.ref l0), some (.int l1), some (.int l2), some (.int x_10), none]) (st' := []) cd_211_74 rfl rfl ?_
            refine go_ite (fun hc => ?_) (fun hc => ?_)
            · rw [if_pos hc] at h
              exact ok_211_91 h
            · rw [if_neg hc] at h
              exact ok_211_77 h
    · rw [if_neg hc] at h
      refine gs_0 (pc' := 25) (L' := [some (.ref l0), some (.int l1), some (.int l2), none, none]) (st' := [.ref l0]) cd_211_24 rfl rfl ?_
      refine gs_0 (pc' := 26) (L' := [some (.ref l0), some (.int l1), some (.int l2), none, none]) (st' := [.int 1, .ref l0]) cd_211_25 rfl rfl ?_
      obtain ⟨ht, h⟩ := gO_s h
      obtain ⟨v_23, w_20, I_21, J_22, hcl, h⟩ := cJ_s h
      refine gs_call (as := [.ref l0, .int 1]) (rest := []) cd_211_26 rfl (by decide) rfl (sm_rv_ok (by decide) ht) (Nat.le_of_ble_eq_true rfl) (Nat.le_of_ble_eq_true rfl) rfl hcl ?_
      cases h
      exact gsr cd_211_29 rfl rfl
  · rw [if_neg hc] at h
    refine gs_0 (pc' := 8) (L' := [some (.ref l0), some (.int l1), some (.int l2), none, none]) (st' := [.ref l0]) cd_211_7 rfl rfl ?_
    refine gs_0 (pc' := 10) (L' := [some (.ref l0), some (.int l1), some (.int l2), none, none]) (st' := [.int 6, .ref l0]) cd_211_8 rfl rfl ?_
    obtain ⟨ht, h⟩ := gO_s h
    obtain ⟨v_27, w_24, I_25, J_26, hcl, h⟩ := cJ_s h
    refine gs_call (as := [.ref l0, .int 6]) (rest := []) cd_211_10 rfl (by decide) rfl (sm_rv_ok (by decide) ht) (Nat.le_of_ble_eq_true rfl) (Nat.le_of_ble_eq_true rfl) rfl hcl ?_
    cases h
    exact gsr cd_211_13 rfl rfl
theorem cl_211 {K : Nat → Value} {k d : Nat} {l0 : Nat} {l1 : Int32} {l2 : Int32} {w : aW} {I : aI} {J : aJ} {R : aR} (h : f_211 K k d l0 l1 l2 w I J = some R) : Cl K (d + 1) 211 [.ref l0, .int l1, .int l2] w I J = some R := Cl_of (ok_211 h)
/-! ProvedMachine.printed(I)J -/
set_option maxRecDepth 20000 in
theorem gl_212 : gcd.lookup 212 = some gw_212 := rfl
theorem cd_212_0 : sm_cd 212 0 = some (.aload_n 0, 1, 0, 0, 0, 0, 0, 0, 0) := cd_of gl_212 rfl
theorem cd_212_1 : sm_cd 212 1 = some (.getfield 40, 3, 5, 5, 1, 0, 0, 0, 0) := cd_of gl_212 rfl
theorem cd_212_4 : sm_cd 212 4 = some (.ifCond .ne 10, 3, 14, 0, 0, 0, 0, 0, 0) := cd_of gl_212 rfl
theorem cd_212_7 : sm_cd 212 7 = some (.aload_n 0, 1, 0, 0, 0, 0, 0, 0, 0) := cd_of gl_212 rfl
theorem cd_212_8 : sm_cd 212 8 = some (.bipush 6, 2, 0, 0, 0, 0, 0, 6, 0) := cd_of gl_212 rfl
theorem cd_212_10 : sm_cd 212 10 = some (.invokevirtual 60, 3, 17, 0, 1, 2, 5, 0, 0) := cd_of gl_212 rfl
theorem cd_212_13 : sm_cd 212 13 = some (.lreturn, 1, 0, 0, 0, 0, 0, 0, 0) := cd_of gl_212 rfl
theorem cd_212_14 : sm_cd 212 14 = some (.iload_n 1, 1, 1, 0, 0, 0, 0, 0, 0) := cd_of gl_212 rfl
theorem cd_212_15 : sm_cd 212 15 = some (.ifCond .lt 15, 3, 30, 0, 0, 0, 0, 0, 0) := cd_of gl_212 rfl
theorem cd_212_18 : sm_cd 212 18 = some (.iload_n 1, 1, 1, 0, 0, 0, 0, 0, 0) := cd_of gl_212 rfl
theorem cd_212_19 : sm_cd 212 19 = some (.aload_n 0, 1, 0, 0, 0, 0, 0, 0, 0) := cd_of gl_212 rfl
theorem cd_212_20 : sm_cd 212 20 = some (.getfield 36, 3, 5, 4, 2, 0, 0, 0, 0) := cd_of gl_212 rfl
theorem cd_212_23 : sm_cd 212 23 = some (.iconst 5, 1, 0, 0, 0, 0, 0, 5, 0) := cd_of gl_212 rfl
theorem cd_212_24 : sm_cd 212 24 = some (.invokevirtual 131, 3, 147, 0, 1, 2, 0, 0, 0) := cd_of gl_212 rfl
theorem cd_212_27 : sm_cd 212 27 = some (.if_icmp .lt 9, 3, 36, 0, 0, 0, 0, 0, 0) := cd_of gl_212 rfl
theorem cd_212_30 : sm_cd 212 30 = some (.aload_n 0, 1, 0, 0, 0, 0, 0, 0, 0) := cd_of gl_212 rfl
theorem cd_212_31 : sm_cd 212 31 = some (.iconst 1, 1, 0, 0, 0, 0, 0, 1, 0) := cd_of gl_212 rfl
theorem cd_212_32 : sm_cd 212 32 = some (.invokevirtual 60, 3, 17, 0, 1, 2, 5, 0, 0) := cd_of gl_212 rfl
theorem cd_212_35 : sm_cd 212 35 = some (.lreturn, 1, 0, 0, 0, 0, 0, 0, 0) := cd_of gl_212 rfl
theorem cd_212_36 : sm_cd 212 36 = some (.aload_n 0, 1, 0, 0, 0, 0, 0, 0, 0) := cd_of gl_212 rfl
theorem cd_212_37 : sm_cd 212 37 = some (.getfield 36, 3, 5, 4, 2, 0, 0, 0, 0) := cd_of gl_212 rfl
theorem cd_212_40 : sm_cd 212 40 = some (.bipush 67, 2, 0, 0, 0, 0, 0, 67, 0) := cd_of gl_212 rfl
theorem cd_212_42 : sm_cd 212 42 = some (.iload_n 1, 1, 1, 0, 0, 0, 0, 0, 0) := cd_of gl_212 rfl
theorem cd_212_43 : sm_cd 212 43 = some (.iadd, 1, 0, 0, 0, 0, 0, 0, 0) := cd_of gl_212 rfl
theorem cd_212_44 : sm_cd 212 44 = some (.invokevirtual 131, 3, 147, 0, 1, 2, 0, 0, 0) := cd_of gl_212 rfl
theorem cd_212_47 : sm_cd 212 47 = some (.i2l, 1, 0, 0, 0, 0, 0, 0, 0) := cd_of gl_212 rfl
theorem cd_212_48 : sm_cd 212 48 = some (.lreturn, 1, 0, 0, 0, 0, 0, 0, 0) := cd_of gl_212 rfl
noncomputable def f_212_30 (K : Nat → Value) (k d : Nat) (l0 : Nat) (l1 : Int32) (w : aW) (I : aI) (J : aJ) : Option aR :=
  gO w 5 l0 (
  cJ (Cl K d 17 [.ref l0, .int 1] w I J) fun v_4 w_1 I_2 J_3 =>
  some (some (.long v_4), w_1, I_2, J_3))
theorem ok_212_30 {K : Nat → Value} {k d : Nat} {l0 : Nat} {l1 : Int32} {w : aW} {I : aI} {J : aJ} {R : aR} (h : f_212_30 K k d l0 l1 w I J = some R) : Go K (d + 1) 212 30 [some (.ref l0), some (.int l1)] [] w I J R := by
  unfold f_212_30 at h
  refine gs_0 (pc' := 31) (L' := [some (.ref l0), some (.int l1)]) (st' := [.ref l0]) cd_212_30 rfl rfl ?_
  refine gs_0 (pc' := 32) (L' := [some (.ref l0), some (.int l1)]) (st' := [.int 1, .ref l0]) cd_212_31 rfl rfl ?_
  obtain ⟨ht, h⟩ := gO_s h
  obtain ⟨v_4, w_1, I_2, J_3, hcl, h⟩ := cJ_s h
  refine gs_call (as := [.ref l0, .int 1]) (rest := []) cd_212_32 rfl (by decide) rfl (sm_rv_ok (by decide) ht) (Nat.le_of_ble_eq_true rfl) (Nat.le_of_ble_eq_true rfl) rfl hcl ?_
  cases h
  exact gsr cd_212_35 rfl rfl
noncomputable def f_212 (K : Nat → Value) (k d : Nat) (l0 : Nat) (l1 : Int32) (w : aW) (I : aI) (J : aJ) : Option aR :=
  gO w 5 l0 (
  if ¬ (I l0 5) = 0 then
    if l1 < 0 then
      f_212_30 K k d l0 l1 w I J
    else
      gO w 5 l0 (
      gV w l0 4 fun q_1 =>
      gO w 0 q_1 (
      cI (Cl K d 147 [.ref q_1, .int 5] w I J) fun x_5 w_2 I_3 J_4 =>
      if l1 < x_5 then
        gO w_2 5 l0 (
        gV w_2 l0 4 fun q_6 =>
        gO w_2 0 q_6 (
        cI (Cl K d 147 [.ref q_6, .int (67 + l1)] w_2 I_3 J_4) fun x_10 w_7 I_8 J_9 =>
        some (some (.long ((x_10 : Int32).toInt64)), w_7, I_8, J_9)))
      else
        f_212_30 K k d l0 l1 w_2 I_3 J_4))
  else
    gO w 5 l0 (
    cJ (Cl K d 17 [.ref l0, .int 6] w I J) fun v_14 w_11 I_12 J_13 =>
    some (some (.long v_14), w_11, I_12, J_13)))
theorem ok_212 {K : Nat → Value} {k d : Nat} {l0 : Nat} {l1 : Int32} {w : aW} {I : aI} {J : aJ} {R : aR} (h : f_212 K k d l0 l1 w I J = some R) : Go K (d + 1) 212 0 [some (.ref l0), some (.int l1)] [] w I J R := by
  unfold f_212 at h
  refine gs_0 (pc' := 1) (L' := [some (.ref l0), some (.int l1)]) (st' := [.ref l0]) cd_212_0 rfl rfl ?_
  obtain ⟨ht, h⟩ := gO_s h
  refine gs_gfI cd_212_1 (by decide) (by decide) ht ?_
  refine gs_0 (pc' := if ¬ (I l0 5) = 0 then 14 else 7) (L' := [some (.ref l0), some (.int l1)]) (st' := []) cd_212_4 rfl rfl ?_
  refine go_ite (fun hc => ?_) (fun hc => ?_)
  · rw [if_pos hc] at h
    refine gs_0 (pc' := 15) (L' := [some (.ref l0), some (.int l1)]) (st' := [.int l1]) cd_212_14 rfl rfl ?_
    refine gs_0 (pc' := if l1 < 0 then 30 else 18) (L' := [some (.ref l0), some (.int l1)]) (st' := []) cd_212_15 rfl rfl ?_
    refine go_ite (fun hc => ?_) (fun hc => ?_)
    · rw [if_pos hc] at h
      exact ok_212_30 h
    · rw [if_neg hc] at h
      refine gs_0 (pc' := 19) (L' := [some (.ref l0), some (.int l1)]) (st' := [.int l1]) cd_212_18 rfl rfl ?_
      refine gs_0 (pc' := 20) (L' := [some (.ref l0), some (.int l1)]) (st' := [.ref l0, .int l1]) cd_212_19 rfl rfl ?_
      obtain ⟨ht, h⟩ := gO_s h
      obtain ⟨q_1, hv, h⟩ := gV_s h
      refine gs_gfR cd_212_20 (by decide) ht hv ?_
      refine gs_0 (pc' := 24) (L' := [some (.ref l0), some (.int l1)]) (st' := [.int 5, .ref q_1, .int l1]) cd_212_23 rfl rfl ?_
      obtain ⟨ht, h⟩ := gO_s h
      obtain ⟨x_5, w_2, I_3, J_4, hcl, h⟩ := cI_s h
      refine gs_call (as := [.ref q_1, .int 5]) (rest := [.int l1]) cd_212_24 rfl (by decide) rfl (sm_rv_ok (by decide) ht) (Nat.le_of_ble_eq_true rfl) (Nat.le_of_ble_eq_true rfl) rfl hcl ?_
      refine gs_0 (pc' := if l1 < x_5 then 36 else 30) (L' := [some (.ref l0), some (.int l1)]) (st' := []) cd_212_27 rfl rfl ?_
      refine go_ite (fun hc => ?_) (fun hc => ?_)
      · rw [if_pos hc] at h
        refine gs_0 (pc' := 37) (L' := [some (.ref l0), some (.int l1)]) (st' := [.ref l0]) cd_212_36 rfl rfl ?_
        obtain ⟨ht, h⟩ := gO_s h
        obtain ⟨q_6, hv, h⟩ := gV_s h
        refine gs_gfR cd_212_37 (by decide) ht hv ?_
        refine gs_0 (pc' := 42) (L' := [some (.ref l0), some (.int l1)]) (st' := [.int 67, .ref q_6]) cd_212_40 rfl rfl ?_
        refine gs_0 (pc' := 43) (L' := [some (.ref l0), some (.int l1)]) (st' := [.int l1, .int 67, .ref q_6]) cd_212_42 rfl rfl ?_
        refine gs_0 (pc' := 44) (L' := [some (.ref l0), some (.int l1)]) (st' := [.int (67 + l1), .ref q_6]) cd_212_43 rfl rfl ?_
        obtain ⟨ht, h⟩ := gO_s h
        obtain ⟨x_10, w_7, I_8, J_9, hcl, h⟩ := cI_s h
        refine gs_call (as := [.ref q_6, .int (67 + l1)]) (rest := []) cd_212_44 rfl (by decide) rfl (sm_rv_ok (by decide) ht) (Nat.le_of_ble_eq_true rfl) (Nat.le_of_ble_eq_true rfl) rfl hcl ?_
        refine gs_0 (pc' := 48) (L' := [some (.ref l0), some (.int l1)]) (st' := [.long ((x_10 : Int32).toInt64)]) cd_212_47 rfl rfl ?_
        cases h
        exact gsr cd_212_48 rfl rfl
      · rw [if_neg hc] at h
        exact ok_212_30 h
  · rw [if_neg hc] at h
    refine gs_0 (pc' := 8) (L' := [some (.ref l0), some (.int l1)]) (st' := [.ref l0]) cd_212_7 rfl rfl ?_
    refine gs_0 (pc' := 10) (L' := [some (.ref l0), some (.int l1)]) (st' := [.int 6, .ref l0]) cd_212_8 rfl rfl ?_
    obtain ⟨ht, h⟩ := gO_s h
    obtain ⟨v_14, w_11, I_12, J_13, hcl, h⟩ := cJ_s h
    refine gs_call (as := [.ref l0, .int 6]) (rest := []) cd_212_10 rfl (by decide) rfl (sm_rv_ok (by decide) ht) (Nat.le_of_ble_eq_true rfl) (Nat.le_of_ble_eq_true rfl) rfl hcl ?_
    cases h
    exact gsr cd_212_13 rfl rfl
theorem cl_212 {K : Nat → Value} {k d : Nat} {l0 : Nat} {l1 : Int32} {w : aW} {I : aI} {J : aJ} {R : aR} (h : f_212 K k d l0 l1 w I J = some R) : Cl K (d + 1) 212 [.ref l0, .int l1] w I J = some R := Cl_of (ok_212 h)
/-! ProvedMachineModel.printed(I)J -/
set_option maxRecDepth 20000 in
theorem gl_213 : gcd.lookup 213 = some gw_213 := rfl
theorem cd_213_0 : sm_cd 213 0 = some (.aload_n 0, 1, 0, 0, 0, 0, 0, 0, 0) := cd_of gl_213 rfl
theorem cd_213_1 : sm_cd 213 1 = some (.getfield 333, 3, 6, 42, 1, 0, 0, 0, 0) := cd_of gl_213 rfl
theorem cd_213_4 : sm_cd 213 4 = some (.ifCond .ne 10, 3, 14, 0, 0, 0, 0, 0, 0) := cd_of gl_213 rfl
theorem cd_213_7 : sm_cd 213 7 = some (.aload_n 0, 1, 0, 0, 0, 0, 0, 0, 0) := cd_of gl_213 rfl
theorem cd_213_8 : sm_cd 213 8 = some (.bipush 6, 2, 0, 0, 0, 0, 0, 6, 0) := cd_of gl_213 rfl
theorem cd_213_10 : sm_cd 213 10 = some (.invokevirtual 148, 3, 20, 0, 1, 2, 6, 0, 0) := cd_of gl_213 rfl
theorem cd_213_13 : sm_cd 213 13 = some (.lreturn, 1, 0, 0, 0, 0, 0, 0, 0) := cd_of gl_213 rfl
theorem cd_213_14 : sm_cd 213 14 = some (.iload_n 1, 1, 1, 0, 0, 0, 0, 0, 0) := cd_of gl_213 rfl
theorem cd_213_15 : sm_cd 213 15 = some (.iconst 0, 1, 0, 0, 0, 0, 0, 0, 0) := cd_of gl_213 rfl
theorem cd_213_16 : sm_cd 213 16 = some (.aload_n 0, 1, 0, 0, 0, 0, 0, 0, 0) := cd_of gl_213 rfl
theorem cd_213_17 : sm_cd 213 17 = some (.getfield 111, 3, 6, 36, 2, 0, 0, 0, 0) := cd_of gl_213 rfl
theorem cd_213_20 : sm_cd 213 20 = some (.iconst 3, 1, 0, 0, 0, 0, 0, 3, 0) := cd_of gl_213 rfl
theorem cd_213_21 : sm_cd 213 21 = some (.iaload, 1, 0, 0, 0, 0, 0, 0, 0) := cd_of gl_213 rfl
theorem cd_213_22 : sm_cd 213 22 = some (.iconst 1, 1, 0, 0, 0, 0, 0, 1, 0) := cd_of gl_213 rfl
theorem cd_213_23 : sm_cd 213 23 = some (.isub, 1, 0, 0, 0, 0, 0, 0, 0) := cd_of gl_213 rfl
theorem cd_213_24 : sm_cd 213 24 = some (.invokestatic 144, 3, 19, 1, 3, 3, 6, 0, 0) := cd_of gl_213 rfl
theorem cd_213_27 : sm_cd 213 27 = some (.ifCond .eq 17, 3, 44, 0, 0, 0, 0, 0, 0) := cd_of gl_213 rfl
theorem cd_213_30 : sm_cd 213 30 = some (.aload_n 0, 1, 0, 0, 0, 0, 0, 0, 0) := cd_of gl_213 rfl
theorem cd_213_31 : sm_cd 213 31 = some (.getfield 111, 3, 6, 36, 2, 0, 0, 0, 0) := cd_of gl_213 rfl
theorem cd_213_34 : sm_cd 213 34 = some (.sipush 134, 3, 0, 0, 0, 0, 0, 134, 0) := cd_of gl_213 rfl
theorem cd_213_37 : sm_cd 213 37 = some (.iload_n 1, 1, 1, 0, 0, 0, 0, 0, 0) := cd_of gl_213 rfl
theorem cd_213_38 : sm_cd 213 38 = some (.iadd, 1, 0, 0, 0, 0, 0, 0, 0) := cd_of gl_213 rfl
theorem cd_213_39 : sm_cd 213 39 = some (.iaload, 1, 0, 0, 0, 0, 0, 0, 0) := cd_of gl_213 rfl
theorem cd_213_40 : sm_cd 213 40 = some (.i2l, 1, 0, 0, 0, 0, 0, 0, 0) := cd_of gl_213 rfl
theorem cd_213_41 : sm_cd 213 41 = some (.goto 8, 3, 49, 0, 0, 0, 0, 0, 0) := cd_of gl_213 rfl
theorem cd_213_44 : sm_cd 213 44 = some (.aload_n 0, 1, 0, 0, 0, 0, 0, 0, 0) := cd_of gl_213 rfl
theorem cd_213_45 : sm_cd 213 45 = some (.iconst 1, 1, 0, 0, 0, 0, 0, 1, 0) := cd_of gl_213 rfl
theorem cd_213_46 : sm_cd 213 46 = some (.invokevirtual 148, 3, 20, 0, 1, 2, 6, 0, 0) := cd_of gl_213 rfl
theorem cd_213_49 : sm_cd 213 49 = some (.lreturn, 1, 0, 0, 0, 0, 0, 0, 0) := cd_of gl_213 rfl
noncomputable def f_213 (K : Nat → Value) (k d : Nat) (l0 : Nat) (l1 : Int32) (w : aW) (I : aI) (J : aJ) : Option aR :=
  gO w 6 l0 (
  if ¬ (I l0 42) = 0 then
    gO w 6 l0 (
    gV w l0 36 fun q_1 =>
    gA w 10 20 q_1 3 (
    cI (Cl K d 19 [.int l1, .int 0, .int ((I q_1 (3 : Int32).toNatClampNeg) - 1)] w I J) fun x_5 w_2 I_3 J_4 =>
    if x_5 = 0 then
      gO w_2 6 l0 (
      cJ (Cl K d 20 [.ref l0, .int 1] w_2 I_3 J_4) fun v_9 w_6 I_7 J_8 =>
      some (some (.long v_9), w_6, I_7, J_8))
    else
      gO w_2 6 l0 (
      gV w_2 l0 36 fun q_10 =>
      gA w_2 10 20 q_10 (134 + l1) (
      some (some (.long ((I_3 q_10 (134 + l1 : Int32).toNatClampNeg : Int32).toInt64)), w_2, I_3, J_4)))))
  else
    gO w 6 l0 (
    cJ (Cl K d 20 [.ref l0, .int 6] w I J) fun v_14 w_11 I_12 J_13 =>
    some (some (.long v_14), w_11, I_12, J_13)))
theorem ok_213 {K : Nat → Value} {k d : Nat} {l0 : Nat} {l1 : Int32} {w : aW} {I : aI} {J : aJ} {R : aR} (h : f_213 K k d l0 l1 w I J = some R) : Go K (d + 1) 213 0 [some (.ref l0), some (.int l1)] [] w I J R := by
  unfold f_213 at h
  refine gs_0 (pc' := 1) (L' := [some (.ref l0), some (.int l1)]) (st' := [.ref l0]) cd_213_0 rfl rfl ?_
  obtain ⟨ht, h⟩ := gO_s h
  refine gs_gfI cd_213_1 (by decide) (by decide) ht ?_
  refine gs_0 (pc' := if ¬ (I l0 42) = 0 then 14 else 7) (L' := [some (.ref l0), some (.int l1)]) (st' := []) cd_213_4 rfl rfl ?_
  refine go_ite (fun hc => ?_) (fun hc => ?_)
  · rw [if_pos hc] at h
    refine gs_0 (pc' := 15) (L' := [some (.ref l0), some (.int l1)]) (st' := [.int l1]) cd_213_14 rfl rfl ?_
    refine gs_0 (pc' := 16) (L' := [some (.ref l0), some (.int l1)]) (st' := [.int 0, .int l1]) cd_213_15 rfl rfl ?_
    refine gs_0 (pc' := 17) (L' := [some (.ref l0), some (.int l1)]) (st' := [.ref l0, .int 0, .int l1]) cd_213_16 rfl rfl ?_
    obtain ⟨ht, h⟩ := gO_s h
    obtain ⟨q_1, hv, h⟩ := gV_s h
    refine gs_gfR cd_213_17 (by decide) ht hv ?_
    refine gs_0 (pc' := 21) (L' := [some (.ref l0), some (.int l1)]) (st' := [.int 3, .ref q_1, .int 0, .int l1]) cd_213_20 rfl rfl ?_
    obtain ⟨ht, h⟩ := gA_s h
    refine gs_iald cd_213_21 ht ?_
    refine gs_0 (pc' := 23) (L' := [some (.ref l0), some (.int l1)]) (st' := [.int 1, .int (I q_1 (3 : Int32).toNatClampNeg), .int 0, .int l1]) cd_213_22 rfl rfl ?_
    refine gs_0 (pc' := 24) (L' := [some (.ref l0), some (.int l1)]) (st' := [.int ((I q_1 (3 : Int32).toNatClampNeg) - 1), .int 0, .int l1]) cd_213_23 rfl rfl ?_
    obtain ⟨x_5, w_2, I_3, J_4, hcl, h⟩ := cI_s h
    refine gs_call (as := [.int l1, .int 0, .int ((I q_1 (3 : Int32).toNatClampNeg) - 1)]) (rest := []) cd_213_24 rfl (by decide) rfl rfl (Nat.le_of_ble_eq_true rfl) (Nat.le_of_ble_eq_true rfl) rfl hcl ?_
    refine gs_0 (pc' := if x_5 = 0 then 44 else 30) (L' := [some (.ref l0), some (.int l1)]) (st' := []) cd_213_27 rfl rfl ?_
    refine go_ite (fun hc => ?_) (fun hc => ?_)
    · rw [if_pos hc] at h
      refine gs_0 (pc' := 45) (L' := [some (.ref l0), some (.int l1)]) (st' := [.ref l0]) cd_213_44 rfl rfl ?_
      refine gs_0 (pc' := 46) (L' := [some (.ref l0), some (.int l1)]) (st' := [.int 1, .ref l0]) cd_213_45 rfl rfl ?_
      obtain ⟨ht, h⟩ := gO_s h
      obtain ⟨v_9, w_6, I_7, J_8, hcl, h⟩ := cJ_s h
      refine gs_call (as := [.ref l0, .int 1]) (rest := []) cd_213_46 rfl (by decide) rfl (sm_rv_ok (by decide) ht) (Nat.le_of_ble_eq_true rfl) (Nat.le_of_ble_eq_true rfl) rfl hcl ?_
      cases h
      exact gsr cd_213_49 rfl rfl
    · rw [if_neg hc] at h
      refine gs_0 (pc' := 31) (L' := [some (.ref l0), some (.int l1)]) (st' := [.ref l0]) cd_213_30 rfl rfl ?_
      obtain ⟨ht, h⟩ := gO_s h
      obtain ⟨q_10, hv, h⟩ := gV_s h
      refine gs_gfR cd_213_31 (by decide) ht hv ?_
      refine gs_0 (pc' := 37) (L' := [some (.ref l0), some (.int l1)]) (st' := [.int 134, .ref q_10]) cd_213_34 rfl rfl ?_
      refine gs_0 (pc' := 38) (L' := [some (.ref l0), some (.int l1)]) (st' := [.int l1, .int 134, .ref q_10]) cd_213_37 rfl rfl ?_
      refine gs_0 (pc' := 39) (L' := [some (.ref l0), some (.int l1)]) (st' := [.int (134 + l1), .ref q_10]) cd_213_38 rfl rfl ?_
      obtain ⟨ht, h⟩ := gA_s h
      refine gs_iald cd_213_39 ht ?_
      refine gs_0 (pc' := 41) (L' := [some (.ref l0), some (.int l1)]) (st' := [.long ((I_3 q_10 (134 + l1 : Int32).toNatClampNeg : Int32).toInt64)]) cd_213_40 rfl rfl ?_
      refine gs_0 (pc' := 49) (L' := [some (.ref l0), some (.int l1)]) (st' := [.long ((I_3 q_10 (134 + l1 : Int32).toNatClampNeg : Int32).toInt64)]) cd_213_41 rfl rfl ?_
      cases h
      exact gsr cd_213_49 rfl rfl
  · rw [if_neg hc] at h
    refine gs_0 (pc' := 8) (L' := [some (.ref l0), some (.int l1)]) (st' := [.ref l0]) cd_213_7 rfl rfl ?_
    refine gs_0 (pc' := 10) (L' := [some (.ref l0), some (.int l1)]) (st' := [.int 6, .ref l0]) cd_213_8 rfl rfl ?_
    obtain ⟨ht, h⟩ := gO_s h
    obtain ⟨v_14, w_11, I_12, J_13, hcl, h⟩ := cJ_s h
    refine gs_call (as := [.ref l0, .int 6]) (rest := []) cd_213_10 rfl (by decide) rfl (sm_rv_ok (by decide) ht) (Nat.le_of_ble_eq_true rfl) (Nat.le_of_ble_eq_true rfl) rfl hcl ?_
    cases h
    exact gsr cd_213_13 rfl rfl
theorem cl_213 {K : Nat → Value} {k d : Nat} {l0 : Nat} {l1 : Int32} {w : aW} {I : aI} {J : aJ} {R : aR} (h : f_213 K k d l0 l1 w I J = some R) : Cl K (d + 1) 213 [.ref l0, .int l1] w I J = some R := Cl_of (ok_213 h)
/-! ProvedMachine.result()J -/
set_option maxRecDepth 20000 in
theorem gl_214 : gcd.lookup 214 = some gw_214 := rfl
theorem cd_214_0 : sm_cd 214 0 = some (.aload_n 0, 1, 0, 0, 0, 0, 0, 0, 0) := cd_of gl_214 rfl
theorem cd_214_1 : sm_cd 214 1 = some (.getfield 40, 3, 5, 5, 1, 0, 0, 0, 0) := cd_of gl_214 rfl
theorem cd_214_4 : sm_cd 214 4 = some (.ifCond .eq 13, 3, 17, 0, 0, 0, 0, 0, 0) := cd_of gl_214 rfl
theorem cd_214_7 : sm_cd 214 7 = some (.aload_n 0, 1, 0, 0, 0, 0, 0, 0, 0) := cd_of gl_214 rfl
theorem cd_214_8 : sm_cd 214 8 = some (.getfield 36, 3, 5, 4, 2, 0, 0, 0, 0) := cd_of gl_214 rfl
theorem cd_214_11 : sm_cd 214 11 = some (.invokevirtual 133, 3, 201, 0, 0, 1, 0, 0, 0) := cd_of gl_214 rfl
theorem cd_214_14 : sm_cd 214 14 = some (.ifCond .ne 10, 3, 24, 0, 0, 0, 0, 0, 0) := cd_of gl_214 rfl
theorem cd_214_17 : sm_cd 214 17 = some (.aload_n 0, 1, 0, 0, 0, 0, 0, 0, 0) := cd_of gl_214 rfl
theorem cd_214_18 : sm_cd 214 18 = some (.bipush 6, 2, 0, 0, 0, 0, 0, 6, 0) := cd_of gl_214 rfl
theorem cd_214_20 : sm_cd 214 20 = some (.invokevirtual 60, 3, 17, 0, 1, 2, 5, 0, 0) := cd_of gl_214 rfl
theorem cd_214_23 : sm_cd 214 23 = some (.lreturn, 1, 0, 0, 0, 0, 0, 0, 0) := cd_of gl_214 rfl
theorem cd_214_24 : sm_cd 214 24 = some (.aload_n 0, 1, 0, 0, 0, 0, 0, 0, 0) := cd_of gl_214 rfl
theorem cd_214_25 : sm_cd 214 25 = some (.getfield 36, 3, 5, 4, 2, 0, 0, 0, 0) := cd_of gl_214 rfl
theorem cd_214_28 : sm_cd 214 28 = some (.bipush 6, 2, 0, 0, 0, 0, 0, 6, 0) := cd_of gl_214 rfl
theorem cd_214_30 : sm_cd 214 30 = some (.invokevirtual 131, 3, 147, 0, 1, 2, 0, 0, 0) := cd_of gl_214 rfl
theorem cd_214_33 : sm_cd 214 33 = some (.i2l, 1, 0, 0, 0, 0, 0, 0, 0) := cd_of gl_214 rfl
theorem cd_214_34 : sm_cd 214 34 = some (.lreturn, 1, 0, 0, 0, 0, 0, 0, 0) := cd_of gl_214 rfl
noncomputable def f_214_17 (K : Nat → Value) (k d : Nat) (l0 : Nat) (w : aW) (I : aI) (J : aJ) : Option aR :=
  gO w 5 l0 (
  cJ (Cl K d 17 [.ref l0, .int 6] w I J) fun v_4 w_1 I_2 J_3 =>
  some (some (.long v_4), w_1, I_2, J_3))
theorem ok_214_17 {K : Nat → Value} {k d : Nat} {l0 : Nat} {w : aW} {I : aI} {J : aJ} {R : aR} (h : f_214_17 K k d l0 w I J = some R) : Go K (d + 1) 214 17 [some (.ref l0)] [] w I J R := by
  unfold f_214_17 at h
  refine gs_0 (pc' := 18) (L' := [some (.ref l0)]) (st' := [.ref l0]) cd_214_17 rfl rfl ?_
  refine gs_0 (pc' := 20) (L' := [some (.ref l0)]) (st' := [.int 6, .ref l0]) cd_214_18 rfl rfl ?_
  obtain ⟨ht, h⟩ := gO_s h
  obtain ⟨v_4, w_1, I_2, J_3, hcl, h⟩ := cJ_s h
  refine gs_call (as := [.ref l0, .int 6]) (rest := []) cd_214_20 rfl (by decide) rfl (sm_rv_ok (by decide) ht) (Nat.le_of_ble_eq_true rfl) (Nat.le_of_ble_eq_true rfl) rfl hcl ?_
  cases h
  exact gsr cd_214_23 rfl rfl
noncomputable def f_214 (K : Nat → Value) (k d : Nat) (l0 : Nat) (w : aW) (I : aI) (J : aJ) : Option aR :=
  gO w 5 l0 (
  if (I l0 5) = 0 then
    f_214_17 K k d l0 w I J
  else
    gO w 5 l0 (
    gV w l0 4 fun q_1 =>
    gO w 0 q_1 (
    cI (Cl K d 201 [.ref q_1] w I J) fun x_5 w_2 I_3 J_4 =>
    if ¬ x_5 = 0 then
      gO w_2 5 l0 (
      gV w_2 l0 4 fun q_6 =>
      gO w_2 0 q_6 (
      cI (Cl K d 147 [.ref q_6, .int 6] w_2 I_3 J_4) fun x_10 w_7 I_8 J_9 =>
      some (some (.long ((x_10 : Int32).toInt64)), w_7, I_8, J_9)))
    else
      f_214_17 K k d l0 w_2 I_3 J_4)))
theorem ok_214 {K : Nat → Value} {k d : Nat} {l0 : Nat} {w : aW} {I : aI} {J : aJ} {R : aR} (h : f_214 K k d l0 w I J = some R) : Go K (d + 1) 214 0 [some (.ref l0)] [] w I J R := by
  unfold f_214 at h
  refine gs_0 (pc' := 1) (L' := [some (.ref l0)]) (st' := [.ref l0]) cd_214_0 rfl rfl ?_
  obtain ⟨ht, h⟩ := gO_s h
  refine gs_gfI cd_214_1 (by decide) (by decide) ht ?_
  refine gs_0 (pc' := if (I l0 5) = 0 then 17 else 7) (L' := [some (.ref l0)]) (st' := []) cd_214_4 rfl rfl ?_
  refine go_ite (fun hc => ?_) (fun hc => ?_)
  · rw [if_pos hc] at h
    exact ok_214_17 h
  · rw [if_neg hc] at h
    refine gs_0 (pc' := 8) (L' := [some (.ref l0)]) (st' := [.ref l0]) cd_214_7 rfl rfl ?_
    obtain ⟨ht, h⟩ := gO_s h
    obtain ⟨q_1, hv, h⟩ := gV_s h
    refine gs_gfR cd_214_8 (by decide) ht hv ?_
    obtain ⟨ht, h⟩ := gO_s h
    obtain ⟨x_5, w_2, I_3, J_4, hcl, h⟩ := cI_s h
    refine gs_call (as := [.ref q_1]) (rest := []) cd_214_11 rfl (by decide) rfl (sm_rv_ok (by decide) ht) (Nat.le_of_ble_eq_true rfl) (Nat.le_of_ble_eq_true rfl) rfl hcl ?_
    refine gs_0 (pc' := if ¬ x_5 = 0 then 24 else 17) (L' := [some (.ref l0)]) (st' := []) cd_214_14 rfl rfl ?_
    refine go_ite (fun hc => ?_) (fun hc => ?_)
    · rw [if_pos hc] at h
      refine gs_0 (pc' := 25) (L' := [some (.ref l0)]) (st' := [.ref l0]) cd_214_24 rfl rfl ?_
      obtain ⟨ht, h⟩ := gO_s h
      obtain ⟨q_6, hv, h⟩ := gV_s h
      refine gs_gfR cd_214_25 (by decide) ht hv ?_
      refine gs_0 (pc' := 30) (L' := [some (.ref l0)]) (st' := [.int 6, .ref q_6]) cd_214_28 rfl rfl ?_
      obtain ⟨ht, h⟩ := gO_s h
      obtain ⟨x_10, w_7, I_8, J_9, hcl, h⟩ := cI_s h
      refine gs_call (as := [.ref q_6, .int 6]) (rest := []) cd_214_30 rfl (by decide) rfl (sm_rv_ok (by decide) ht) (Nat.le_of_ble_eq_true rfl) (Nat.le_of_ble_eq_true rfl) rfl hcl ?_
      refine gs_0 (pc' := 34) (L' := [some (.ref l0)]) (st' := [.long ((x_10 : Int32).toInt64)]) cd_214_33 rfl rfl ?_
      cases h
      exact gsr cd_214_34 rfl rfl
    · rw [if_neg hc] at h
      exact ok_214_17 h
theorem cl_214 {K : Nat → Value} {k d : Nat} {l0 : Nat} {w : aW} {I : aI} {J : aJ} {R : aR} (h : f_214 K k d l0 w I J = some R) : Cl K (d + 1) 214 [.ref l0] w I J = some R := Cl_of (ok_214 h)
/-! ProvedMachineModel.result()J -/
set_option maxRecDepth 20000 in
theorem gl_215 : gcd.lookup 215 = some gw_215 := rfl
theorem cd_215_0 : sm_cd 215 0 = some (.aload_n 0, 1, 0, 0, 0, 0, 0, 0, 0) := cd_of gl_215 rfl
theorem cd_215_1 : sm_cd 215 1 = some (.getfield 333, 3, 6, 42, 1, 0, 0, 0, 0) := cd_of gl_215 rfl
theorem cd_215_4 : sm_cd 215 4 = some (.ifCond .eq 13, 3, 17, 0, 0, 0, 0, 0, 0) := cd_of gl_215 rfl
theorem cd_215_7 : sm_cd 215 7 = some (.aload_n 0, 1, 0, 0, 0, 0, 0, 0, 0) := cd_of gl_215 rfl
theorem cd_215_8 : sm_cd 215 8 = some (.getfield 111, 3, 6, 36, 2, 0, 0, 0, 0) := cd_of gl_215 rfl
theorem cd_215_11 : sm_cd 215 11 = some (.iconst 0, 1, 0, 0, 0, 0, 0, 0, 0) := cd_of gl_215 rfl
theorem cd_215_12 : sm_cd 215 12 = some (.iaload, 1, 0, 0, 0, 0, 0, 0, 0) := cd_of gl_215 rfl
theorem cd_215_13 : sm_cd 215 13 = some (.iconst 1, 1, 0, 0, 0, 0, 0, 1, 0) := cd_of gl_215 rfl
theorem cd_215_14 : sm_cd 215 14 = some (.if_icmp .eq 12, 3, 26, 0, 0, 0, 0, 0, 0) := cd_of gl_215 rfl
theorem cd_215_17 : sm_cd 215 17 = some (.aload_n 0, 1, 0, 0, 0, 0, 0, 0, 0) := cd_of gl_215 rfl
theorem cd_215_18 : sm_cd 215 18 = some (.bipush 6, 2, 0, 0, 0, 0, 0, 6, 0) := cd_of gl_215 rfl
theorem cd_215_20 : sm_cd 215 20 = some (.invokevirtual 148, 3, 20, 0, 1, 2, 6, 0, 0) := cd_of gl_215 rfl
theorem cd_215_23 : sm_cd 215 23 = some (.goto 11, 3, 34, 0, 0, 0, 0, 0, 0) := cd_of gl_215 rfl
theorem cd_215_26 : sm_cd 215 26 = some (.aload_n 0, 1, 0, 0, 0, 0, 0, 0, 0) := cd_of gl_215 rfl
theorem cd_215_27 : sm_cd 215 27 = some (.getfield 111, 3, 6, 36, 2, 0, 0, 0, 0) := cd_of gl_215 rfl
theorem cd_215_30 : sm_cd 215 30 = some (.bipush 6, 2, 0, 0, 0, 0, 0, 6, 0) := cd_of gl_215 rfl
theorem cd_215_32 : sm_cd 215 32 = some (.iaload, 1, 0, 0, 0, 0, 0, 0, 0) := cd_of gl_215 rfl
theorem cd_215_33 : sm_cd 215 33 = some (.i2l, 1, 0, 0, 0, 0, 0, 0, 0) := cd_of gl_215 rfl
theorem cd_215_34 : sm_cd 215 34 = some (.lreturn, 1, 0, 0, 0, 0, 0, 0, 0) := cd_of gl_215 rfl
noncomputable def f_215_17 (K : Nat → Value) (k d : Nat) (l0 : Nat) (w : aW) (I : aI) (J : aJ) : Option aR :=
  gO w 6 l0 (
  cJ (Cl K d 20 [.ref l0, .int 6] w I J) fun v_4 w_1 I_2 J_3 =>
  some (some (.long v_4), w_1, I_2, J_3))
theorem ok_215_17 {K : Nat → Value} {k d : Nat} {l0 : Nat} {w : aW} {I : aI} {J : aJ} {R : aR} (h : f_215_17 K k d l0 w I J = some R) : Go K (d + 1) 215 17 [some (.ref l0)] [] w I J R := by
  unfold f_215_17 at h
  refine gs_0 (pc' := 18) (L' := [some (.ref l0)]) (st' := [.ref l0]) cd_215_17 rfl rfl ?_
  refine gs_0 (pc' := 20) (L' := [some (.ref l0)]) (st' := [.int 6, .ref l0]) cd_215_18 rfl rfl ?_
  obtain ⟨ht, h⟩ := gO_s h
  obtain ⟨v_4, w_1, I_2, J_3, hcl, h⟩ := cJ_s h
  refine gs_call (as := [.ref l0, .int 6]) (rest := []) cd_215_20 rfl (by decide) rfl (sm_rv_ok (by decide) ht) (Nat.le_of_ble_eq_true rfl) (Nat.le_of_ble_eq_true rfl) rfl hcl ?_
  refine gs_0 (pc' := 34) (L' := [some (.ref l0)]) (st' := [.long v_4]) cd_215_23 rfl rfl ?_
  cases h
  exact gsr cd_215_34 rfl rfl
noncomputable def f_215 (K : Nat → Value) (k d : Nat) (l0 : Nat) (w : aW) (I : aI) (J : aJ) : Option aR :=
  gO w 6 l0 (
  if (I l0 42) = 0 then
    f_215_17 K k d l0 w I J
  else
    gO w 6 l0 (
    gV w l0 36 fun q_1 =>
    gA w 10 20 q_1 0 (
    if (I q_1 (0 : Int32).toNatClampNeg) = 1 then
      gO w 6 l0 (
      gV w l0 36 fun q_2 =>
      gA w 10 20 q_2 6 (
      some (some (.long ((I q_2 (6 : Int32).toNatClampNeg : Int32).toInt64)), w, I, J)))
    else
      f_215_17 K k d l0 w I J)))
theorem ok_215 {K : Nat → Value} {k d : Nat} {l0 : Nat} {w : aW} {I : aI} {J : aJ} {R : aR} (h : f_215 K k d l0 w I J = some R) : Go K (d + 1) 215 0 [some (.ref l0)] [] w I J R := by
  unfold f_215 at h
  refine gs_0 (pc' := 1) (L' := [some (.ref l0)]) (st' := [.ref l0]) cd_215_0 rfl rfl ?_
  obtain ⟨ht, h⟩ := gO_s h
  refine gs_gfI cd_215_1 (by decide) (by decide) ht ?_
  refine gs_0 (pc' := if (I l0 42) = 0 then 17 else 7) (L' := [some (.ref l0)]) (st' := []) cd_215_4 rfl rfl ?_
  refine go_ite (fun hc => ?_) (fun hc => ?_)
  · rw [if_pos hc] at h
    exact ok_215_17 h
  · rw [if_neg hc] at h
    refine gs_0 (pc' := 8) (L' := [some (.ref l0)]) (st' := [.ref l0]) cd_215_7 rfl rfl ?_
    obtain ⟨ht, h⟩ := gO_s h
    obtain ⟨q_1, hv, h⟩ := gV_s h
    refine gs_gfR cd_215_8 (by decide) ht hv ?_
    refine gs_0 (pc' := 12) (L' := [some (.ref l0)]) (st' := [.int 0, .ref q_1]) cd_215_11 rfl rfl ?_
    obtain ⟨ht, h⟩ := gA_s h
    refine gs_iald cd_215_12 ht ?_
    refine gs_0 (pc' := 14) (L' := [some (.ref l0)]) (st' := [.int 1, .int (I q_1 (0 : Int32).toNatClampNeg)]) cd_215_13 rfl rfl ?_
    refine gs_0 (pc' := if (I q_1 (0 : Int32).toNatClampNeg) = 1 then 26 else 17) (L' := [some (.ref l0)]) (st' := []) cd_215_14 rfl rfl ?_
    refine go_ite (fun hc => ?_) (fun hc => ?_)
    · rw [if_pos hc] at h
      refine gs_0 (pc' := 27) (L' := [some (.ref l0)]) (st' := [.ref l0]) cd_215_26 rfl rfl ?_
      obtain ⟨ht, h⟩ := gO_s h
      obtain ⟨q_2, hv, h⟩ := gV_s h
      refine gs_gfR cd_215_27 (by decide) ht hv ?_
      refine gs_0 (pc' := 32) (L' := [some (.ref l0)]) (st' := [.int 6, .ref q_2]) cd_215_30 rfl rfl ?_
      obtain ⟨ht, h⟩ := gA_s h
      refine gs_iald cd_215_32 ht ?_
      refine gs_0 (pc' := 34) (L' := [some (.ref l0)]) (st' := [.long ((I q_2 (6 : Int32).toNatClampNeg : Int32).toInt64)]) cd_215_33 rfl rfl ?_
      cases h
      exact gsr cd_215_34 rfl rfl
    · rw [if_neg hc] at h
      exact ok_215_17 h
theorem cl_215 {K : Nat → Value} {k d : Nat} {l0 : Nat} {w : aW} {I : aI} {J : aJ} {R : aR} (h : f_215 K k d l0 w I J = some R) : Cl K (d + 1) 215 [.ref l0] w I J = some R := Cl_of (ok_215 h)
/-! ProvedMachine.clear()J -/
set_option maxRecDepth 20000 in
theorem gl_216 : gcd.lookup 216 = some gw_216 := rfl
theorem cd_216_0 : sm_cd 216 0 = some (.aload_n 0, 1, 0, 0, 0, 0, 0, 0, 0) := cd_of gl_216 rfl
theorem cd_216_1 : sm_cd 216 1 = some (.getfield 40, 3, 5, 5, 1, 0, 0, 0, 0) := cd_of gl_216 rfl
theorem cd_216_4 : sm_cd 216 4 = some (.ifCond .eq 14, 3, 18, 0, 0, 0, 0, 0, 0) := cd_of gl_216 rfl
theorem cd_216_7 : sm_cd 216 7 = some (.aload_n 0, 1, 0, 0, 0, 0, 0, 0, 0) := cd_of gl_216 rfl
theorem cd_216_8 : sm_cd 216 8 = some (.getfield 36, 3, 5, 4, 2, 0, 0, 0, 0) := cd_of gl_216 rfl
theorem cd_216_11 : sm_cd 216 11 = some (.invokevirtual 154, 3, 217, 0, 0, 1, 0, 0, 0) := cd_of gl_216 rfl
theorem cd_216_14 : sm_cd 216 14 = some (.i2l, 1, 0, 0, 0, 0, 0, 0, 0) := cd_of gl_216 rfl
theorem cd_216_15 : sm_cd 216 15 = some (.goto 9, 3, 24, 0, 0, 0, 0, 0, 0) := cd_of gl_216 rfl
theorem cd_216_18 : sm_cd 216 18 = some (.aload_n 0, 1, 0, 0, 0, 0, 0, 0, 0) := cd_of gl_216 rfl
theorem cd_216_19 : sm_cd 216 19 = some (.bipush 6, 2, 0, 0, 0, 0, 0, 6, 0) := cd_of gl_216 rfl
theorem cd_216_21 : sm_cd 216 21 = some (.invokevirtual 60, 3, 17, 0, 1, 2, 5, 0, 0) := cd_of gl_216 rfl
theorem cd_216_24 : sm_cd 216 24 = some (.lreturn, 1, 0, 0, 0, 0, 0, 0, 0) := cd_of gl_216 rfl
noncomputable def f_216 (K : Nat → Value) (k d : Nat) (l0 : Nat) (w : aW) (I : aI) (J : aJ) : Option aR :=
  gO w 5 l0 (
  if (I l0 5) = 0 then
    gO w 5 l0 (
    cJ (Cl K d 17 [.ref l0, .int 6] w I J) fun v_4 w_1 I_2 J_3 =>
    some (some (.long v_4), w_1, I_2, J_3))
  else
    gO w 5 l0 (
    gV w l0 4 fun q_5 =>
    gO w 0 q_5 (
    cI (Cl K d 217 [.ref q_5] w I J) fun x_9 w_6 I_7 J_8 =>
    some (some (.long ((x_9 : Int32).toInt64)), w_6, I_7, J_8))))
theorem ok_216 {K : Nat → Value} {k d : Nat} {l0 : Nat} {w : aW} {I : aI} {J : aJ} {R : aR} (h : f_216 K k d l0 w I J = some R) : Go K (d + 1) 216 0 [some (.ref l0)] [] w I J R := by
  unfold f_216 at h
  refine gs_0 (pc' := 1) (L' := [some (.ref l0)]) (st' := [.ref l0]) cd_216_0 rfl rfl ?_
  obtain ⟨ht, h⟩ := gO_s h
  refine gs_gfI cd_216_1 (by decide) (by decide) ht ?_
  refine gs_0 (pc' := if (I l0 5) = 0 then 18 else 7) (L' := [some (.ref l0)]) (st' := []) cd_216_4 rfl rfl ?_
  refine go_ite (fun hc => ?_) (fun hc => ?_)
  · rw [if_pos hc] at h
    refine gs_0 (pc' := 19) (L' := [some (.ref l0)]) (st' := [.ref l0]) cd_216_18 rfl rfl ?_
    refine gs_0 (pc' := 21) (L' := [some (.ref l0)]) (st' := [.int 6, .ref l0]) cd_216_19 rfl rfl ?_
    obtain ⟨ht, h⟩ := gO_s h
    obtain ⟨v_4, w_1, I_2, J_3, hcl, h⟩ := cJ_s h
    refine gs_call (as := [.ref l0, .int 6]) (rest := []) cd_216_21 rfl (by decide) rfl (sm_rv_ok (by decide) ht) (Nat.le_of_ble_eq_true rfl) (Nat.le_of_ble_eq_true rfl) rfl hcl ?_
    cases h
    exact gsr cd_216_24 rfl rfl
  · rw [if_neg hc] at h
    refine gs_0 (pc' := 8) (L' := [some (.ref l0)]) (st' := [.ref l0]) cd_216_7 rfl rfl ?_
    obtain ⟨ht, h⟩ := gO_s h
    obtain ⟨q_5, hv, h⟩ := gV_s h
    refine gs_gfR cd_216_8 (by decide) ht hv ?_
    obtain ⟨ht, h⟩ := gO_s h
    obtain ⟨x_9, w_6, I_7, J_8, hcl, h⟩ := cI_s h
    refine gs_call (as := [.ref q_5]) (rest := []) cd_216_11 rfl (by decide) rfl (sm_rv_ok (by decide) ht) (Nat.le_of_ble_eq_true rfl) (Nat.le_of_ble_eq_true rfl) rfl hcl ?_
    refine gs_0 (pc' := 15) (L' := [some (.ref l0)]) (st' := [.long ((x_9 : Int32).toInt64)]) cd_216_14 rfl rfl ?_
    refine gs_0 (pc' := 24) (L' := [some (.ref l0)]) (st' := [.long ((x_9 : Int32).toInt64)]) cd_216_15 rfl rfl ?_
    cases h
    exact gsr cd_216_24 rfl rfl
theorem cl_216 {K : Nat → Value} {k d : Nat} {l0 : Nat} {w : aW} {I : aI} {J : aJ} {R : aR} (h : f_216 K k d l0 w I J = some R) : Cl K (d + 1) 216 [.ref l0] w I J = some R := Cl_of (ok_216 h)
/-! ProvedMachine$Machine.clearByHand()I -/
set_option maxRecDepth 20000 in
theorem gl_217 : gcd.lookup 217 = some gw_217 := rfl
theorem cd_217_0 : sm_cd 217 0 = some (.aload_n 0, 1, 0, 0, 0, 0, 0, 0, 0) := cd_of gl_217 rfl
theorem cd_217_1 : sm_cd 217 1 = some (.iconst 0, 1, 0, 0, 0, 0, 0, 0, 0) := cd_of gl_217 rfl
theorem cd_217_2 : sm_cd 217 2 = some (.putfield 36, 3, 0, 8, 0, 0, 0, 0, 0) := cd_of gl_217 rfl
theorem cd_217_5 : sm_cd 217 5 = some (.aload_n 0, 1, 0, 0, 0, 0, 0, 0, 0) := cd_of gl_217 rfl
theorem cd_217_6 : sm_cd 217 6 = some (.invokevirtual 79, 3, 153, 0, 0, 4, 0, 0, 0) := cd_of gl_217 rfl
theorem cd_217_9 : sm_cd 217 9 = some (.ireturn, 1, 0, 0, 1, 0, 0, 0, 0) := cd_of gl_217 rfl
noncomputable def f_217 (K : Nat → Value) (k d : Nat) (l0 : Nat) (w : aW) (I : aI) (J : aJ) : Option aR :=
  gO w 0 l0 (
  lt_ (sm_up2 I l0 8 0) fun I_1 =>
  gO w 0 l0 (
  cI (Cl K d 153 [.ref l0] w I_1 J) fun x_5 w_2 I_3 J_4 =>
  some (some (.int x_5), w_2, I_3, J_4)))
theorem ok_217 {K : Nat → Value} {k d : Nat} {l0 : Nat} {w : aW} {I : aI} {J : aJ} {R : aR} (h : f_217 K k d l0 w I J = some R) : Go K (d + 1) 217 0 [some (.ref l0)] [] w I J R := by
  unfold f_217 at h
  refine gs_0 (pc' := 1) (L' := [some (.ref l0)]) (st' := [.ref l0]) cd_217_0 rfl rfl ?_
  refine gs_0 (pc' := 2) (L' := [some (.ref l0)]) (st' := [.int 0, .ref l0]) cd_217_1 rfl rfl ?_
  obtain ⟨ht, h⟩ := gO_s h
  refine gs_pfI cd_217_2 (by decide) (Or.inl rfl) ht ?_
  obtain ⟨I_1, hx, h⟩ := lt_s_ h
  rw [hx]
  refine gs_0 (pc' := 6) (L' := [some (.ref l0)]) (st' := [.ref l0]) cd_217_5 rfl rfl ?_
  obtain ⟨ht, h⟩ := gO_s h
  obtain ⟨x_5, w_2, I_3, J_4, hcl, h⟩ := cI_s h
  refine gs_call (as := [.ref l0]) (rest := []) cd_217_6 rfl (by decide) rfl (sm_rv_ok (by decide) ht) (Nat.le_of_ble_eq_true rfl) (Nat.le_of_ble_eq_true rfl) rfl hcl ?_
  cases h
  exact gs_ri cd_217_9 (Or.inl rfl)
theorem cl_217 {K : Nat → Value} {k d : Nat} {l0 : Nat} {w : aW} {I : aI} {J : aJ} {R : aR} (h : f_217 K k d l0 w I J = some R) : Cl K (d + 1) 217 [.ref l0] w I J = some R := Cl_of (ok_217 h)
/-! ProvedMachineModel.clear()J -/
set_option maxRecDepth 20000 in
theorem gl_218 : gcd.lookup 218 = some gw_218 := rfl
theorem cd_218_0 : sm_cd 218 0 = some (.aload_n 0, 1, 0, 0, 0, 0, 0, 0, 0) := cd_of gl_218 rfl
theorem cd_218_1 : sm_cd 218 1 = some (.getfield 333, 3, 6, 42, 1, 0, 0, 0, 0) := cd_of gl_218 rfl
theorem cd_218_4 : sm_cd 218 4 = some (.ifCond .ne 10, 3, 14, 0, 0, 0, 0, 0, 0) := cd_of gl_218 rfl
theorem cd_218_7 : sm_cd 218 7 = some (.aload_n 0, 1, 0, 0, 0, 0, 0, 0, 0) := cd_of gl_218 rfl
theorem cd_218_8 : sm_cd 218 8 = some (.bipush 6, 2, 0, 0, 0, 0, 0, 6, 0) := cd_of gl_218 rfl
theorem cd_218_10 : sm_cd 218 10 = some (.invokevirtual 148, 3, 20, 0, 1, 2, 6, 0, 0) := cd_of gl_218 rfl
theorem cd_218_13 : sm_cd 218 13 = some (.lreturn, 1, 0, 0, 0, 0, 0, 0, 0) := cd_of gl_218 rfl
theorem cd_218_14 : sm_cd 218 14 = some (.aload_n 0, 1, 0, 0, 0, 0, 0, 0, 0) := cd_of gl_218 rfl
theorem cd_218_15 : sm_cd 218 15 = some (.iconst 0, 1, 0, 0, 0, 0, 0, 0, 0) := cd_of gl_218 rfl
theorem cd_218_16 : sm_cd 218 16 = some (.putfield 363, 3, 6, 41, 0, 0, 0, 0, 0) := cd_of gl_218 rfl
theorem cd_218_19 : sm_cd 218 19 = some (.aload_n 0, 1, 0, 0, 0, 0, 0, 0, 0) := cd_of gl_218 rfl
theorem cd_218_20 : sm_cd 218 20 = some (.invokevirtual 400, 3, 185, 0, 0, 5, 6, 0, 0) := cd_of gl_218 rfl
theorem cd_218_23 : sm_cd 218 23 = some (.i2l, 1, 0, 0, 0, 0, 0, 0, 0) := cd_of gl_218 rfl
theorem cd_218_24 : sm_cd 218 24 = some (.lreturn, 1, 0, 0, 0, 0, 0, 0, 0) := cd_of gl_218 rfl
noncomputable def f_218 (K : Nat → Value) (k d : Nat) (l0 : Nat) (w : aW) (I : aI) (J : aJ) : Option aR :=
  gO w 6 l0 (
  if ¬ (I l0 42) = 0 then
    gO w 6 l0 (
    lt_ (sm_up2 I l0 41 0) fun I_1 =>
    gO w 6 l0 (
    cI (Cl K d 185 [.ref l0] w I_1 J) fun x_5 w_2 I_3 J_4 =>
    some (some (.long ((x_5 : Int32).toInt64)), w_2, I_3, J_4)))
  else
    gO w 6 l0 (
    cJ (Cl K d 20 [.ref l0, .int 6] w I J) fun v_9 w_6 I_7 J_8 =>
    some (some (.long v_9), w_6, I_7, J_8)))
theorem ok_218 {K : Nat → Value} {k d : Nat} {l0 : Nat} {w : aW} {I : aI} {J : aJ} {R : aR} (h : f_218 K k d l0 w I J = some R) : Go K (d + 1) 218 0 [some (.ref l0)] [] w I J R := by
  unfold f_218 at h
  refine gs_0 (pc' := 1) (L' := [some (.ref l0)]) (st' := [.ref l0]) cd_218_0 rfl rfl ?_
  obtain ⟨ht, h⟩ := gO_s h
  refine gs_gfI cd_218_1 (by decide) (by decide) ht ?_
  refine gs_0 (pc' := if ¬ (I l0 42) = 0 then 14 else 7) (L' := [some (.ref l0)]) (st' := []) cd_218_4 rfl rfl ?_
  refine go_ite (fun hc => ?_) (fun hc => ?_)
  · rw [if_pos hc] at h
    refine gs_0 (pc' := 15) (L' := [some (.ref l0)]) (st' := [.ref l0]) cd_218_14 rfl rfl ?_
    refine gs_0 (pc' := 16) (L' := [some (.ref l0)]) (st' := [.int 0, .ref l0]) cd_218_15 rfl rfl ?_
    obtain ⟨ht, h⟩ := gO_s h
    refine gs_pfI cd_218_16 (by decide) (Or.inl rfl) ht ?_
    obtain ⟨I_1, hx, h⟩ := lt_s_ h
    rw [hx]
    refine gs_0 (pc' := 20) (L' := [some (.ref l0)]) (st' := [.ref l0]) cd_218_19 rfl rfl ?_
    obtain ⟨ht, h⟩ := gO_s h
    obtain ⟨x_5, w_2, I_3, J_4, hcl, h⟩ := cI_s h
    refine gs_call (as := [.ref l0]) (rest := []) cd_218_20 rfl (by decide) rfl (sm_rv_ok (by decide) ht) (Nat.le_of_ble_eq_true rfl) (Nat.le_of_ble_eq_true rfl) rfl hcl ?_
    refine gs_0 (pc' := 24) (L' := [some (.ref l0)]) (st' := [.long ((x_5 : Int32).toInt64)]) cd_218_23 rfl rfl ?_
    cases h
    exact gsr cd_218_24 rfl rfl
  · rw [if_neg hc] at h
    refine gs_0 (pc' := 8) (L' := [some (.ref l0)]) (st' := [.ref l0]) cd_218_7 rfl rfl ?_
    refine gs_0 (pc' := 10) (L' := [some (.ref l0)]) (st' := [.int 6, .ref l0]) cd_218_8 rfl rfl ?_
    obtain ⟨ht, h⟩ := gO_s h
    obtain ⟨v_9, w_6, I_7, J_8, hcl, h⟩ := cJ_s h
    refine gs_call (as := [.ref l0, .int 6]) (rest := []) cd_218_10 rfl (by decide) rfl (sm_rv_ok (by decide) ht) (Nat.le_of_ble_eq_true rfl) (Nat.le_of_ble_eq_true rfl) rfl hcl ?_
    cases h
    exact gsr cd_218_13 rfl rfl
theorem cl_218 {K : Nat → Value} {k d : Nat} {l0 : Nat} {w : aW} {I : aI} {J : aJ} {R : aR} (h : f_218 K k d l0 w I J = some R) : Cl K (d + 1) 218 [.ref l0] w I J = some R := Cl_of (ok_218 h)
/-! ProvedMachine.proof(II)J -/
set_option maxRecDepth 20000 in
theorem gl_219 : gcd.lookup 219 = some gw_219 := rfl
theorem cd_219_0 : sm_cd 219 0 = some (.aload_n 0, 1, 0, 0, 0, 0, 0, 0, 0) := cd_of gl_219 rfl
theorem cd_219_1 : sm_cd 219 1 = some (.getfield 40, 3, 5, 5, 1, 0, 0, 0, 0) := cd_of gl_219 rfl
theorem cd_219_4 : sm_cd 219 4 = some (.ifCond .ne 10, 3, 14, 0, 0, 0, 0, 0, 0) := cd_of gl_219 rfl
theorem cd_219_7 : sm_cd 219 7 = some (.aload_n 0, 1, 0, 0, 0, 0, 0, 0, 0) := cd_of gl_219 rfl
theorem cd_219_8 : sm_cd 219 8 = some (.bipush 6, 2, 0, 0, 0, 0, 0, 6, 0) := cd_of gl_219 rfl
theorem cd_219_10 : sm_cd 219 10 = some (.invokevirtual 60, 3, 17, 0, 1, 2, 5, 0, 0) := cd_of gl_219 rfl
theorem cd_219_13 : sm_cd 219 13 = some (.lreturn, 1, 0, 0, 0, 0, 0, 0, 0) := cd_of gl_219 rfl
theorem cd_219_14 : sm_cd 219 14 = some (.iload_n 1, 1, 1, 0, 0, 0, 0, 0, 0) := cd_of gl_219 rfl
theorem cd_219_15 : sm_cd 219 15 = some (.ifCond .lt 23, 3, 38, 0, 0, 0, 0, 0, 0) := cd_of gl_219 rfl
theorem cd_219_18 : sm_cd 219 18 = some (.iload_n 1, 1, 1, 0, 0, 0, 0, 0, 0) := cd_of gl_219 rfl
theorem cd_219_19 : sm_cd 219 19 = some (.aload_n 0, 1, 0, 0, 0, 0, 0, 0, 0) := cd_of gl_219 rfl
theorem cd_219_20 : sm_cd 219 20 = some (.getfield 36, 3, 5, 4, 2, 0, 0, 0, 0) := cd_of gl_219 rfl
theorem cd_219_23 : sm_cd 219 23 = some (.getfield 120, 3, 0, 8, 0, 1, 0, 0, 0) := cd_of gl_219 rfl
theorem cd_219_26 : sm_cd 219 26 = some (.if_icmp .ge 12, 3, 38, 0, 0, 0, 0, 0, 0) := cd_of gl_219 rfl
theorem cd_219_29 : sm_cd 219 29 = some (.iload_n 2, 1, 2, 0, 0, 0, 0, 0, 0) := cd_of gl_219 rfl
theorem cd_219_30 : sm_cd 219 30 = some (.ifCond .lt 8, 3, 38, 0, 0, 0, 0, 0, 0) := cd_of gl_219 rfl
theorem cd_219_33 : sm_cd 219 33 = some (.iload_n 2, 1, 2, 0, 0, 0, 0, 0, 0) := cd_of gl_219 rfl
theorem cd_219_34 : sm_cd 219 34 = some (.iconst 4, 1, 0, 0, 0, 0, 0, 4, 0) := cd_of gl_219 rfl
theorem cd_219_35 : sm_cd 219 35 = some (.if_icmp .lt 9, 3, 44, 0, 0, 0, 0, 0, 0) := cd_of gl_219 rfl
theorem cd_219_38 : sm_cd 219 38 = some (.aload_n 0, 1, 0, 0, 0, 0, 0, 0, 0) := cd_of gl_219 rfl
theorem cd_219_39 : sm_cd 219 39 = some (.iconst 1, 1, 0, 0, 0, 0, 0, 1, 0) := cd_of gl_219 rfl
theorem cd_219_40 : sm_cd 219 40 = some (.invokevirtual 60, 3, 17, 0, 1, 2, 5, 0, 0) := cd_of gl_219 rfl
theorem cd_219_43 : sm_cd 219 43 = some (.lreturn, 1, 0, 0, 0, 0, 0, 0, 0) := cd_of gl_219 rfl
theorem cd_219_44 : sm_cd 219 44 = some (.aload_n 0, 1, 0, 0, 0, 0, 0, 0, 0) := cd_of gl_219 rfl
theorem cd_219_45 : sm_cd 219 45 = some (.getfield 36, 3, 5, 4, 2, 0, 0, 0, 0) := cd_of gl_219 rfl
theorem cd_219_48 : sm_cd 219 48 = some (.iload_n 1, 1, 1, 0, 0, 0, 0, 0, 0) := cd_of gl_219 rfl
theorem cd_219_49 : sm_cd 219 49 = some (.iconst 1, 1, 0, 0, 0, 0, 0, 1, 0) := cd_of gl_219 rfl
theorem cd_219_50 : sm_cd 219 50 = some (.iadd, 1, 0, 0, 0, 0, 0, 0, 0) := cd_of gl_219 rfl
theorem cd_219_51 : sm_cd 219 51 = some (.iload_n 2, 1, 2, 0, 0, 0, 0, 0, 0) := cd_of gl_219 rfl
theorem cd_219_52 : sm_cd 219 52 = some (.invokevirtual 157, 3, 220, 0, 2, 4, 0, 0, 0) := cd_of gl_219 rfl
theorem cd_219_55 : sm_cd 219 55 = some (.i2l, 1, 0, 0, 0, 0, 0, 0, 0) := cd_of gl_219 rfl
theorem cd_219_56 : sm_cd 219 56 = some (.lreturn, 1, 0, 0, 0, 0, 0, 0, 0) := cd_of gl_219 rfl
noncomputable def f_219_38 (K : Nat → Value) (k d : Nat) (l0 : Nat) (l1 : Int32) (l2 : Int32) (w : aW) (I : aI) (J : aJ) : Option aR :=
  gO w 5 l0 (
  cJ (Cl K d 17 [.ref l0, .int 1] w I J) fun v_4 w_1 I_2 J_3 =>
  some (some (.long v_4), w_1, I_2, J_3))
theorem ok_219_38 {K : Nat → Value} {k d : Nat} {l0 : Nat} {l1 : Int32} {l2 : Int32} {w : aW} {I : aI} {J : aJ} {R : aR} (h : f_219_38 K k d l0 l1 l2 w I J = some R) : Go K (d + 1) 219 38 [some (.ref l0), some (.int l1), some (.int l2)] [] w I J R := by
  unfold f_219_38 at h
  refine gs_0 (pc' := 39) (L' := [some (.ref l0), some (.int l1), some (.int l2)]) (st' := [.ref l0]) cd_219_38 rfl rfl ?_
  refine gs_0 (pc' := 40) (L' := [some (.ref l0), some (.int l1), some (.int l2)]) (st' := [.int 1, .ref l0]) cd_219_39 rfl rfl ?_
  obtain ⟨ht, h⟩ := gO_s h
  obtain ⟨v_4, w_1, I_2, J_3, hcl, h⟩ := cJ_s h
  refine gs_call (as := [.ref l0, .int 1]) (rest := []) cd_219_40 rfl (by decide) rfl (sm_rv_ok (by decide) ht) (Nat.le_of_ble_eq_true rfl) (Nat.le_of_ble_eq_true rfl) rfl hcl ?_
  cases h
  exact gsr cd_219_43 rfl rfl
noncomputable def f_219 (K : Nat → Value) (k d : Nat) (l0 : Nat) (l1 : Int32) (l2 : Int32) (w : aW) (I : aI) (J : aJ) : Option aR :=
  gO w 5 l0 (
  if ¬ (I l0 5) = 0 then
    if l1 < 0 then
      f_219_38 K k d l0 l1 l2 w I J
    else
      gO w 5 l0 (
      gV w l0 4 fun q_1 =>
      gO w 0 q_1 (
      if (I q_1 8) ≤ l1 then
        f_219_38 K k d l0 l1 l2 w I J
      else
        if l2 < 0 then
          f_219_38 K k d l0 l1 l2 w I J
        else
          if l2 < 4 then
            gO w 5 l0 (
            gV w l0 4 fun q_2 =>
            gO w 0 q_2 (
            cI (Cl K d 220 [.ref q_2, .int (l1 + 1), .int l2] w I J) fun x_6 w_3 I_4 J_5 =>
            some (some (.long ((x_6 : Int32).toInt64)), w_3, I_4, J_5)))
          else
            f_219_38 K k d l0 l1 l2 w I J))
  else
    gO w 5 l0 (
    cJ (Cl K d 17 [.ref l0, .int 6] w I J) fun v_10 w_7 I_8 J_9 =>
    some (some (.long v_10), w_7, I_8, J_9)))
theorem ok_219 {K : Nat → Value} {k d : Nat} {l0 : Nat} {l1 : Int32} {l2 : Int32} {w : aW} {I : aI} {J : aJ} {R : aR} (h : f_219 K k d l0 l1 l2 w I J = some R) : Go K (d + 1) 219 0 [some (.ref l0), some (.int l1), some (.int l2)] [] w I J R := by
  unfold f_219 at h
  refine gs_0 (pc' := 1) (L' := [some (.ref l0), some (.int l1), some (.int l2)]) (st' := [.ref l0]) cd_219_0 rfl rfl ?_
  obtain ⟨ht, h⟩ := gO_s h
  refine gs_gfI cd_219_1 (by decide) (by decide) ht ?_
  refine gs_0 (pc' := if ¬ (I l0 5) = 0 then 14 else 7) (L' := [some (.ref l0), some (.int l1), some (.int l2)]) (st' := []) cd_219_4 rfl rfl ?_
  refine go_ite (fun hc => ?_) (fun hc => ?_)
  · rw [if_pos hc] at h
    refine gs_0 (pc' := 15) (L' := [some (.ref l0), some (.int l1), some (.int l2)]) (st' := [.int l1]) cd_219_14 rfl rfl ?_
    refine gs_0 (pc' := if l1 < 0 then 38 else 18) (L' := [some (.ref l0), some (.int l1), some (.int l2)]) (st' := []) cd_219_15 rfl rfl ?_
    refine go_ite (fun hc => ?_) (fun hc => ?_)
    · rw [if_pos hc] at h
      exact ok_219_38 h
    · rw [if_neg hc] at h
      refine gs_0 (pc' := 19) (L' := [some (.ref l0), some (.int l1), some (.int l2)]) (st' := [.int l1]) cd_219_18 rfl rfl ?_
      refine gs_0 (pc' := 20) (L' := [some (.ref l0), some (.int l1), some (.int l2)]) (st' := [.ref l0, .int l1]) cd_219_19 rfl rfl ?_
      obtain ⟨ht, h⟩ := gO_s h
      obtain ⟨q_1, hv, h⟩ := gV_s h
      refine gs_gfR cd_219_20 (by decide) ht hv ?_
      obtain ⟨ht, h⟩ := gO_s h
      refine gs_gfI cd_219_23 (by decide) (by decide) ht ?_
      refine gs_0 (pc' := if (I q_1 8) ≤ l1 then 38 else 29) (L' := [some (.ref l0), some (.int l1), some (.int l2)]) (st' := []) cd_219_26 rfl rfl ?_
      refine go_ite (fun hc => ?_) (fun hc => ?_)
      · rw [if_pos hc] at h
        exact ok_219_38 h
      · rw [if_neg hc] at h
        refine gs_0 (pc' := 30) (L' := [some (.ref l0), some (.int l1), some (.int l2)]) (st' := [.int l2]) cd_219_29 rfl rfl ?_
        refine gs_0 (pc' := if l2 < 0 then 38 else 33) (L' := [some (.ref l0), some (.int l1), some (.int l2)]) (st' := []) cd_219_30 rfl rfl ?_
        refine go_ite (fun hc => ?_) (fun hc => ?_)
        · rw [if_pos hc] at h
          exact ok_219_38 h
        · rw [if_neg hc] at h
          refine gs_0 (pc' := 34) (L' := [some (.ref l0), some (.int l1), some (.int l2)]) (st' := [.int l2]) cd_219_33 rfl rfl ?_
          refine gs_0 (pc' := 35) (L' := [some (.ref l0), some (.int l1), some (.int l2)]) (st' := [.int 4, .int l2]) cd_219_34 rfl rfl ?_
          refine gs_0 (pc' := if l2 < 4 then 44 else 38) (L' := [some (.ref l0), some (.int l1), some (.int l2)]) (st' := []) cd_219_35 rfl rfl ?_
          refine go_ite (fun hc => ?_) (fun hc => ?_)
          · rw [if_pos hc] at h
            refine gs_0 (pc' := 45) (L' := [some (.ref l0), some (.int l1), some (.int l2)]) (st' := [.ref l0]) cd_219_44 rfl rfl ?_
            obtain ⟨ht, h⟩ := gO_s h
            obtain ⟨q_2, hv, h⟩ := gV_s h
            refine gs_gfR cd_219_45 (by decide) ht hv ?_
            refine gs_0 (pc' := 49) (L' := [some (.ref l0), some (.int l1), some (.int l2)]) (st' := [.int l1, .ref q_2]) cd_219_48 rfl rfl ?_
            refine gs_0 (pc' := 50) (L' := [some (.ref l0), some (.int l1), some (.int l2)]) (st' := [.int 1, .int l1, .ref q_2]) cd_219_49 rfl rfl ?_
            refine gs_0 (pc' := 51) (L' := [some (.ref l0), some (.int l1), some (.int l2)]) (st' := [.int (l1 + 1), .ref q_2]) cd_219_50 rfl rfl ?_
            refine gs_0 (pc' := 52) (L' := [some (.ref l0), some (.int l1), some (.int l2)]) (st' := [.int l2, .int (l1 + 1), .ref q_2]) cd_219_51 rfl rfl ?_
            obtain ⟨ht, h⟩ := gO_s h
            obtain ⟨x_6, w_3, I_4, J_5, hcl, h⟩ := cI_s h
            refine gs_call (as := [.ref q_2, .int (l1 + 1), .int l2]) (rest := []) cd_219_52 rfl (by decide) rfl (sm_rv_ok (by decide) ht) (Nat.le_of_ble_eq_true rfl) (Nat.le_of_ble_eq_true rfl) rfl hcl ?_
            refine gs_0 (pc' := 56) (L' := [some (.ref l0), some (.int l1), some (.int l2)]) (st' := [.long ((x_6 : Int32).toInt64)]) cd_219_55 rfl rfl ?_
            cases h
            exact gsr cd_219_56 rfl rfl
          · rw [if_neg hc] at h
            exact ok_219_38 h
  · rw [if_neg hc] at h
    refine gs_0 (pc' := 8) (L' := [some (.ref l0), some (.int l1), some (.int l2)]) (st' := [.ref l0]) cd_219_7 rfl rfl ?_
    refine gs_0 (pc' := 10) (L' := [some (.ref l0), some (.int l1), some (.int l2)]) (st' := [.int 6, .ref l0]) cd_219_8 rfl rfl ?_
    obtain ⟨ht, h⟩ := gO_s h
    obtain ⟨v_10, w_7, I_8, J_9, hcl, h⟩ := cJ_s h
    refine gs_call (as := [.ref l0, .int 6]) (rest := []) cd_219_10 rfl (by decide) rfl (sm_rv_ok (by decide) ht) (Nat.le_of_ble_eq_true rfl) (Nat.le_of_ble_eq_true rfl) rfl hcl ?_
    cases h
    exact gsr cd_219_13 rfl rfl
theorem cl_219 {K : Nat → Value} {k d : Nat} {l0 : Nat} {l1 : Int32} {l2 : Int32} {w : aW} {I : aI} {J : aJ} {R : aR} (h : f_219 K k d l0 l1 l2 w I J = some R) : Cl K (d + 1) 219 [.ref l0, .int l1, .int l2] w I J = some R := Cl_of (ok_219 h)
/-! ProvedMachine$Machine.proofNumber(II)I -/
set_option maxRecDepth 20000 in
theorem gl_220 : gcd.lookup 220 = some gw_220 := rfl
theorem cd_220_0 : sm_cd 220 0 = some (.aload_n 0, 1, 0, 0, 0, 0, 0, 0, 0) := cd_of gl_220 rfl
theorem cd_220_1 : sm_cd 220 1 = some (.getfield 32, 3, 0, 7, 0, 0, 0, 0, 0) := cd_of gl_220 rfl
theorem cd_220_4 : sm_cd 220 4 = some (.iload_n 1, 1, 1, 0, 0, 0, 0, 0, 0) := cd_of gl_220 rfl
theorem cd_220_5 : sm_cd 220 5 = some (.isub, 1, 0, 0, 0, 0, 0, 0, 0) := cd_of gl_220 rfl
theorem cd_220_6 : sm_cd 220 6 = some (.bipush 31, 2, 0, 0, 0, 0, 0, 31, 0) := cd_of gl_220 rfl
theorem cd_220_8 : sm_cd 220 8 = some (.iand, 1, 0, 0, 0, 0, 0, 0, 0) := cd_of gl_220 rfl
theorem cd_220_9 : sm_cd 220 9 = some (.iconst 4, 1, 0, 0, 0, 0, 0, 4, 0) := cd_of gl_220 rfl
theorem cd_220_10 : sm_cd 220 10 = some (.imul, 1, 0, 0, 0, 0, 0, 0, 0) := cd_of gl_220 rfl
theorem cd_220_11 : sm_cd 220 11 = some (.iload_n 2, 1, 2, 0, 0, 0, 0, 0, 0) := cd_of gl_220 rfl
theorem cd_220_12 : sm_cd 220 12 = some (.iadd, 1, 0, 0, 0, 0, 0, 0, 0) := cd_of gl_220 rfl
theorem cd_220_13 : sm_cd 220 13 = some (.istore_n 3, 1, 3, 0, 0, 0, 0, 0, 0) := cd_of gl_220 rfl
theorem cd_220_14 : sm_cd 220 14 = some (.iload_n 3, 1, 3, 0, 0, 0, 0, 0, 0) := cd_of gl_220 rfl
theorem cd_220_15 : sm_cd 220 15 = some (.ifCond .lt 21, 3, 36, 0, 0, 0, 0, 0, 0) := cd_of gl_220 rfl
theorem cd_220_18 : sm_cd 220 18 = some (.iload_n 3, 1, 3, 0, 0, 0, 0, 0, 0) := cd_of gl_220 rfl
theorem cd_220_19 : sm_cd 220 19 = some (.aload_n 0, 1, 0, 0, 0, 0, 0, 0, 0) := cd_of gl_220 rfl
theorem cd_220_20 : sm_cd 220 20 = some (.getfield 29, 3, 0, 6, 2, 0, 0, 0, 0) := cd_of gl_220 rfl
theorem cd_220_23 : sm_cd 220 23 = some (.arraylength, 1, 0, 0, 0, 0, 0, 0, 0) := cd_of gl_220 rfl
theorem cd_220_24 : sm_cd 220 24 = some (.if_icmp .ge 12, 3, 36, 0, 0, 0, 0, 0, 0) := cd_of gl_220 rfl
theorem cd_220_27 : sm_cd 220 27 = some (.aload_n 0, 1, 0, 0, 0, 0, 0, 0, 0) := cd_of gl_220 rfl
theorem cd_220_28 : sm_cd 220 28 = some (.getfield 29, 3, 0, 6, 2, 0, 0, 0, 0) := cd_of gl_220 rfl
theorem cd_220_31 : sm_cd 220 31 = some (.iload_n 3, 1, 3, 0, 0, 0, 0, 0, 0) := cd_of gl_220 rfl
theorem cd_220_32 : sm_cd 220 32 = some (.iaload, 1, 0, 0, 0, 0, 0, 0, 0) := cd_of gl_220 rfl
theorem cd_220_33 : sm_cd 220 33 = some (.goto 4, 3, 37, 0, 0, 0, 0, 0, 0) := cd_of gl_220 rfl
theorem cd_220_36 : sm_cd 220 36 = some (.iconst 0, 1, 0, 0, 0, 0, 0, 0, 0) := cd_of gl_220 rfl
theorem cd_220_37 : sm_cd 220 37 = some (.ireturn, 1, 0, 0, 1, 0, 0, 0, 0) := cd_of gl_220 rfl
noncomputable def f_220 (K : Nat → Value) (k d : Nat) (l0 : Nat) (l1 : Int32) (l2 : Int32) (w : aW) (I : aI) (J : aJ) : Option aR :=
  gO w 0 l0 (
  lt_ (((((I l0 7) - l1) &&& 31) * 4) + l2) fun x_1 =>
  if x_1 < 0 then
    some (some (.int 0), w, I, J)
  else
    gO w 0 l0 (
    gV w l0 6 fun q_2 =>
    gL w q_2 fun n_3 =>
    if n_3 ≤ x_1 then
      some (some (.int 0), w, I, J)
    else
      gO w 0 l0 (
      gV w l0 6 fun q_4 =>
      gA w 10 20 q_4 x_1 (
      some (some (.int (I q_4 (x_1 : Int32).toNatClampNeg)), w, I, J)))))
theorem ok_220 {K : Nat → Value} {k d : Nat} {l0 : Nat} {l1 : Int32} {l2 : Int32} {w : aW} {I : aI} {J : aJ} {R : aR} (h : f_220 K k d l0 l1 l2 w I J = some R) : Go K (d + 1) 220 0 [some (.ref l0), some (.int l1), some (.int l2), none] [] w I J R := by
  unfold f_220 at h
  refine gs_0 (pc' := 1) (L' := [some (.ref l0), some (.int l1), some (.int l2), none]) (st' := [.ref l0]) cd_220_0 rfl rfl ?_
  obtain ⟨ht, h⟩ := gO_s h
  refine gs_gfI cd_220_1 (by decide) (by decide) ht ?_
  refine gs_0 (pc' := 5) (L' := [some (.ref l0), some (.int l1), some (.int l2), none]) (st' := [.int l1, .int (I l0 7)]) cd_220_4 rfl rfl ?_
  refine gs_0 (pc' := 6) (L' := [some (.ref l0), some (.int l1), some (.int l2), none]) (st' := [.int ((I l0 7) - l1)]) cd_220_5 rfl rfl ?_
  refine gs_0 (pc' := 8) (L' := [some (.ref l0), some (.int l1), some (.int l2), none]) (st' := [.int 31, .int ((I l0 7) - l1)]) cd_220_6 rfl rfl ?_
  refine gs_0 (pc' := 9) (L' := [some (.ref l0), some (.int l1), some (.int l2), none]) (st' := [.int (((I l0 7) - l1) &&& 31)]) cd_220_8 rfl rfl ?_
  refine gs_0 (pc' := 10) (L' := [some (.ref l0), some (.int l1), some (.int l2), none]) (st' := [.int 4, .int (((I l0 7) - l1) &&& 31)]) cd_220_9 rfl rfl ?_
  refine gs_0 (pc' := 11) (L' := [some (.ref l0), some (.int l1), some (.int l2), none]) (st' := [.int ((((I l0 7) - l1) &&& 31) * 4)]) cd_220_10 rfl rfl ?_
  refine gs_0 (pc' := 12) (L' := [some (.ref l0), some (.int l1), some (.int l2), none]) (st' := [.int l2, .int ((((I l0 7) - l1) &&& 31) * 4)]) cd_220_11 rfl rfl ?_
  refine gs_0 (pc' := 13) (L' := [some (.ref l0), some (.int l1), some (.int l2), none]) (st' := [.int (((((I l0 7) - l1) &&& 31) * 4) + l2)]) cd_220_12 rfl rfl ?_
  refine gs_0 (pc' := 14) (L' := [some (.ref l0), some (.int l1), some (.int l2), some (.int (((((I l0 7) - l1) &&& 31) * 4) + l2))]) (st' := []) cd_220_13 rfl rfl ?_
  obtain ⟨x_1, hx, h⟩ := lt_s_ h
  rw [hx]
  clear hx
  refine gs_0 (pc' := 15) (L' := [some (.ref l0), some (.int l1), some (.int l2), some (.int x_1)]) (st' := [.int x_1]) cd_220_14 rfl rfl ?_
  refine gs_0 (pc' := if x_1 < 0 then 36 else 18) (L' := [some (.ref l0), some (.int l1), some (.int l2), some (.int x_1)]) (st' := []) cd_220_15 rfl rfl ?_
  refine go_ite (fun hc => ?_) (fun hc => ?_)
  · rw [if_pos hc] at h
    refine gs_0 (pc' := 37) (L' := [some (.ref l0), some (.int l1), some (.int l2), some (.int x_1)]) (st' := [.int 0]) cd_220_36 rfl rfl ?_
    cases h
    exact gs_ri cd_220_37 (Or.inl rfl)
  · rw [if_neg hc] at h
    refine gs_0 (pc' := 19) (L' := [some (.ref l0), some (.int l1), some (.int l2), some (.int x_1)]) (st' := [.int x_1]) cd_220_18 rfl rfl ?_
    refine gs_0 (pc' := 20) (L' := [some (.ref l0), some (.int l1), some (.int l2), some (.int x_1)]) (st' := [.ref l0, .int x_1]) cd_220_19 rfl rfl ?_
    obtain ⟨ht, h⟩ := gO_s h
    obtain ⟨q_2, hv, h⟩ := gV_s h
    refine gs_gfR cd_220_20 (by decide) ht hv ?_
    obtain ⟨t0, n0, ht, ht2, h⟩ := gL_s h
    refine gs_alen cd_220_23 ht ht2 ?_
    generalize Int32.ofNat n0 = n_3 at h ⊢
    refine gs_0 (pc' := if n_3 ≤ x_1 then 36 else 27) (L' := [some (.ref l0), some (.int l1), some (.int l2), some (.int x_1)]) (st' := []) cd_220_24 rfl rfl ?_
    refine go_ite (fun hc => ?_) (fun hc => ?_)
    · rw [if_pos hc] at h
      refine gs_0 (pc' := 37) (L' := [some (.ref l0), some (.int l1), some (.int l2), some (.int x_1)]) (st' := [.int 0]) cd_220_36 rfl rfl ?_
      cases h
      exact gs_ri cd_220_37 (Or.inl rfl)
    · rw [if_neg hc] at h
      refine gs_0 (pc' := 28) (L' := [some (.ref l0), some (.int l1), some (.int l2), some (.int x_1)]) (st' := [.ref l0]) cd_220_27 rfl rfl ?_
      obtain ⟨ht, h⟩ := gO_s h
      obtain ⟨q_4, hv, h⟩ := gV_s h
      refine gs_gfR cd_220_28 (by decide) ht hv ?_
      refine gs_0 (pc' := 32) (L' := [some (.ref l0), some (.int l1), some (.int l2), some (.int x_1)]) (st' := [.int x_1, .ref q_4]) cd_220_31 rfl rfl ?_
      obtain ⟨ht, h⟩ := gA_s h
      refine gs_iald cd_220_32 ht ?_
      refine gs_0 (pc' := 37) (L' := [some (.ref l0), some (.int l1), some (.int l2), some (.int x_1)]) (st' := [.int (I q_4 (x_1 : Int32).toNatClampNeg)]) cd_220_33 rfl rfl ?_
      cases h
      exact gs_ri cd_220_37 (Or.inl rfl)
theorem cl_220 {K : Nat → Value} {k d : Nat} {l0 : Nat} {l1 : Int32} {l2 : Int32} {w : aW} {I : aI} {J : aJ} {R : aR} (h : f_220 K k d l0 l1 l2 w I J = some R) : Cl K (d + 1) 220 [.ref l0, .int l1, .int l2] w I J = some R := Cl_of (ok_220 h)
/-! ProvedMachineModel.proof(II)J -/
set_option maxRecDepth 20000 in
theorem gl_221 : gcd.lookup 221 = some gw_221 := rfl
theorem cd_221_0 : sm_cd 221 0 = some (.aload_n 0, 1, 0, 0, 0, 0, 0, 0, 0) := cd_of gl_221 rfl
theorem cd_221_1 : sm_cd 221 1 = some (.getfield 333, 3, 6, 42, 1, 0, 0, 0, 0) := cd_of gl_221 rfl
theorem cd_221_4 : sm_cd 221 4 = some (.ifCond .ne 10, 3, 14, 0, 0, 0, 0, 0, 0) := cd_of gl_221 rfl
theorem cd_221_7 : sm_cd 221 7 = some (.aload_n 0, 1, 0, 0, 0, 0, 0, 0, 0) := cd_of gl_221 rfl
theorem cd_221_8 : sm_cd 221 8 = some (.bipush 6, 2, 0, 0, 0, 0, 0, 6, 0) := cd_of gl_221 rfl
theorem cd_221_10 : sm_cd 221 10 = some (.invokevirtual 148, 3, 20, 0, 1, 2, 6, 0, 0) := cd_of gl_221 rfl
theorem cd_221_13 : sm_cd 221 13 = some (.lreturn, 1, 0, 0, 0, 0, 0, 0, 0) := cd_of gl_221 rfl
theorem cd_221_14 : sm_cd 221 14 = some (.iload_n 1, 1, 1, 0, 0, 0, 0, 0, 0) := cd_of gl_221 rfl
theorem cd_221_15 : sm_cd 221 15 = some (.iconst 0, 1, 0, 0, 0, 0, 0, 0, 0) := cd_of gl_221 rfl
theorem cd_221_16 : sm_cd 221 16 = some (.aload_n 0, 1, 0, 0, 0, 0, 0, 0, 0) := cd_of gl_221 rfl
theorem cd_221_17 : sm_cd 221 17 = some (.getfield 363, 3, 6, 41, 0, 0, 0, 0, 0) := cd_of gl_221 rfl
theorem cd_221_20 : sm_cd 221 20 = some (.iconst 1, 1, 0, 0, 0, 0, 0, 1, 0) := cd_of gl_221 rfl
theorem cd_221_21 : sm_cd 221 21 = some (.isub, 1, 0, 0, 0, 0, 0, 0, 0) := cd_of gl_221 rfl
theorem cd_221_22 : sm_cd 221 22 = some (.invokestatic 144, 3, 19, 1, 3, 3, 6, 0, 0) := cd_of gl_221 rfl
theorem cd_221_25 : sm_cd 221 25 = some (.ifCond .eq 12, 3, 37, 0, 0, 0, 0, 0, 0) := cd_of gl_221 rfl
theorem cd_221_28 : sm_cd 221 28 = some (.iload_n 2, 1, 2, 0, 0, 0, 0, 0, 0) := cd_of gl_221 rfl
theorem cd_221_29 : sm_cd 221 29 = some (.iconst 0, 1, 0, 0, 0, 0, 0, 0, 0) := cd_of gl_221 rfl
theorem cd_221_30 : sm_cd 221 30 = some (.iconst 3, 1, 0, 0, 0, 0, 0, 3, 0) := cd_of gl_221 rfl
theorem cd_221_31 : sm_cd 221 31 = some (.invokestatic 144, 3, 19, 1, 3, 3, 6, 0, 0) := cd_of gl_221 rfl
theorem cd_221_34 : sm_cd 221 34 = some (.ifCond .ne 9, 3, 43, 0, 0, 0, 0, 0, 0) := cd_of gl_221 rfl
theorem cd_221_37 : sm_cd 221 37 = some (.aload_n 0, 1, 0, 0, 0, 0, 0, 0, 0) := cd_of gl_221 rfl
theorem cd_221_38 : sm_cd 221 38 = some (.iconst 1, 1, 0, 0, 0, 0, 0, 1, 0) := cd_of gl_221 rfl
theorem cd_221_39 : sm_cd 221 39 = some (.invokevirtual 148, 3, 20, 0, 1, 2, 6, 0, 0) := cd_of gl_221 rfl
theorem cd_221_42 : sm_cd 221 42 = some (.lreturn, 1, 0, 0, 0, 0, 0, 0, 0) := cd_of gl_221 rfl
theorem cd_221_43 : sm_cd 221 43 = some (.aload_n 0, 1, 0, 0, 0, 0, 0, 0, 0) := cd_of gl_221 rfl
theorem cd_221_44 : sm_cd 221 44 = some (.getfield 120, 3, 6, 39, 2, 0, 0, 0, 0) := cd_of gl_221 rfl
theorem cd_221_47 : sm_cd 221 47 = some (.iconst 4, 1, 0, 0, 0, 0, 0, 4, 0) := cd_of gl_221 rfl
theorem cd_221_48 : sm_cd 221 48 = some (.aload_n 0, 1, 0, 0, 0, 0, 0, 0, 0) := cd_of gl_221 rfl
theorem cd_221_49 : sm_cd 221 49 = some (.getfield 363, 3, 6, 41, 0, 0, 0, 0, 0) := cd_of gl_221 rfl
theorem cd_221_52 : sm_cd 221 52 = some (.iconst 1, 1, 0, 0, 0, 0, 0, 1, 0) := cd_of gl_221 rfl
theorem cd_221_53 : sm_cd 221 53 = some (.isub, 1, 0, 0, 0, 0, 0, 0, 0) := cd_of gl_221 rfl
theorem cd_221_54 : sm_cd 221 54 = some (.iload_n 1, 1, 1, 0, 0, 0, 0, 0, 0) := cd_of gl_221 rfl
theorem cd_221_55 : sm_cd 221 55 = some (.isub, 1, 0, 0, 0, 0, 0, 0, 0) := cd_of gl_221 rfl
theorem cd_221_56 : sm_cd 221 56 = some (.imul, 1, 0, 0, 0, 0, 0, 0, 0) := cd_of gl_221 rfl
theorem cd_221_57 : sm_cd 221 57 = some (.iload_n 2, 1, 2, 0, 0, 0, 0, 0, 0) := cd_of gl_221 rfl
theorem cd_221_58 : sm_cd 221 58 = some (.iadd, 1, 0, 0, 0, 0, 0, 0, 0) := cd_of gl_221 rfl
theorem cd_221_59 : sm_cd 221 59 = some (.iaload, 1, 0, 0, 0, 0, 0, 0, 0) := cd_of gl_221 rfl
theorem cd_221_60 : sm_cd 221 60 = some (.i2l, 1, 0, 0, 0, 0, 0, 0, 0) := cd_of gl_221 rfl
theorem cd_221_61 : sm_cd 221 61 = some (.lreturn, 1, 0, 0, 0, 0, 0, 0, 0) := cd_of gl_221 rfl
noncomputable def f_221_37 (K : Nat → Value) (k d : Nat) (l0 : Nat) (l1 : Int32) (l2 : Int32) (w : aW) (I : aI) (J : aJ) : Option aR :=
  gO w 6 l0 (
  cJ (Cl K d 20 [.ref l0, .int 1] w I J) fun v_4 w_1 I_2 J_3 =>
  some (some (.long v_4), w_1, I_2, J_3))
theorem ok_221_37 {K : Nat → Value} {k d : Nat} {l0 : Nat} {l1 : Int32} {l2 : Int32} {w : aW} {I : aI} {J : aJ} {R : aR} (h : f_221_37 K k d l0 l1 l2 w I J = some R) : Go K (d + 1) 221 37 [some (.ref l0), some (.int l1), some (.int l2)] [] w I J R := by
  unfold f_221_37 at h
  refine gs_0 (pc' := 38) (L' := [some (.ref l0), some (.int l1), some (.int l2)]) (st' := [.ref l0]) cd_221_37 rfl rfl ?_
  refine gs_0 (pc' := 39) (L' := [some (.ref l0), some (.int l1), some (.int l2)]) (st' := [.int 1, .ref l0]) cd_221_38 rfl rfl ?_
  obtain ⟨ht, h⟩ := gO_s h
  obtain ⟨v_4, w_1, I_2, J_3, hcl, h⟩ := cJ_s h
  refine gs_call (as := [.ref l0, .int 1]) (rest := []) cd_221_39 rfl (by decide) rfl (sm_rv_ok (by decide) ht) (Nat.le_of_ble_eq_true rfl) (Nat.le_of_ble_eq_true rfl) rfl hcl ?_
  cases h
  exact gsr cd_221_42 rfl rfl
noncomputable def f_221 (K : Nat → Value) (k d : Nat) (l0 : Nat) (l1 : Int32) (l2 : Int32) (w : aW) (I : aI) (J : aJ) : Option aR :=
  gO w 6 l0 (
  if ¬ (I l0 42) = 0 then
    gO w 6 l0 (
    cI (Cl K d 19 [.int l1, .int 0, .int ((I l0 41) - 1)] w I J) fun x_4 w_1 I_2 J_3 =>
    if x_4 = 0 then
      f_221_37 K k d l0 l1 l2 w_1 I_2 J_3
    else
      cI (Cl K d 19 [.int l2, .int 0, .int 3] w_1 I_2 J_3) fun x_8 w_5 I_6 J_7 =>
      if ¬ x_8 = 0 then
        gO w_5 6 l0 (
        gV w_5 l0 39 fun q_9 =>
        gO w_5 6 l0 (
        gA w_5 10 20 q_9 ((4 * (((I_6 l0 41) - 1) - l1)) + l2) (
        some (some (.long ((I_6 q_9 ((4 * (((I_6 l0 41) - 1) - l1)) + l2 : Int32).toNatClampNeg : Int32).toInt64)), w_5, I_6, J_7))))
      else
        f_221_37 K k d l0 l1 l2 w_5 I_6 J_7)
  else
    gO w 6 l0 (
    cJ (Cl K d 20 [.ref l0, .int 6] w I J) fun v_13 w_10 I_11 J_12 =>
    some (some (.long v_13), w_10, I_11, J_12)))
theorem ok_221 {K : Nat → Value} {k d : Nat} {l0 : Nat} {l1 : Int32} {l2 : Int32} {w : aW} {I : aI} {J : aJ} {R : aR} (h : f_221 K k d l0 l1 l2 w I J = some R) : Go K (d + 1) 221 0 [some (.ref l0), some (.int l1), some (.int l2)] [] w I J R := by
  unfold f_221 at h
  refine gs_0 (pc' := 1) (L' := [some (.ref l0), some (.int l1), some (.int l2)]) (st' := [.ref l0]) cd_221_0 rfl rfl ?_
  obtain ⟨ht, h⟩ := gO_s h
  refine gs_gfI cd_221_1 (by decide) (by decide) ht ?_
  refine gs_0 (pc' := if ¬ (I l0 42) = 0 then 14 else 7) (L' := [some (.ref l0), some (.int l1), some (.int l2)]) (st' := []) cd_221_4 rfl rfl ?_
  refine go_ite (fun hc => ?_) (fun hc => ?_)
  · rw [if_pos hc] at h
    refine gs_0 (pc' := 15) (L' := [some (.ref l0), some (.int l1), some (.int l2)]) (st' := [.int l1]) cd_221_14 rfl rfl ?_
    refine gs_0 (pc' := 16) (L' := [some (.ref l0), some (.int l1), some (.int l2)]) (st' := [.int 0, .int l1]) cd_221_15 rfl rfl ?_
    refine gs_0 (pc' := 17) (L' := [some (.ref l0), some (.int l1), some (.int l2)]) (st' := [.ref l0, .int 0, .int l1]) cd_221_16 rfl rfl ?_
    obtain ⟨ht, h⟩ := gO_s h
    refine gs_gfI cd_221_17 (by decide) (by decide) ht ?_
    refine gs_0 (pc' := 21) (L' := [some (.ref l0), some (.int l1), some (.int l2)]) (st' := [.int 1, .int (I l0 41), .int 0, .int l1]) cd_221_20 rfl rfl ?_
    refine gs_0 (pc' := 22) (L' := [some (.ref l0), some (.int l1), some (.int l2)]) (st' := [.int ((I l0 41) - 1), .int 0, .int l1]) cd_221_21 rfl rfl ?_
    obtain ⟨x_4, w_1, I_2, J_3, hcl, h⟩ := cI_s h
    refine gs_call (as := [.int l1, .int 0, .int ((I l0 41) - 1)]) (rest := []) cd_221_22 rfl (by decide) rfl rfl (Nat.le_of_ble_eq_true rfl) (Nat.le_of_ble_eq_true rfl) rfl hcl ?_
    refine gs_0 (pc' := if x_4 = 0 then 37 else 28) (L' := [some (.ref l0), some (.int l1), some (.int l2)]) (st' := []) cd_221_25 rfl rfl ?_
    refine go_ite (fun hc => ?_) (fun hc => ?_)
    · rw [if_pos hc] at h
      exact ok_221_37 h
    · rw [if_neg hc] at h
      refine gs_0 (pc' := 29) (L' := [some (.ref l0), some (.int l1), some (.int l2)]) (st' := [.int l2]) cd_221_28 rfl rfl ?_
      refine gs_0 (pc' := 30) (L' := [some (.ref l0), some (.int l1), some (.int l2)]) (st' := [.int 0, .int l2]) cd_221_29 rfl rfl ?_
      refine gs_0 (pc' := 31) (L' := [some (.ref l0), some (.int l1), some (.int l2)]) (st' := [.int 3, .int 0, .int l2]) cd_221_30 rfl rfl ?_
      obtain ⟨x_8, w_5, I_6, J_7, hcl, h⟩ := cI_s h
      refine gs_call (as := [.int l2, .int 0, .int 3]) (rest := []) cd_221_31 rfl (by decide) rfl rfl (Nat.le_of_ble_eq_true rfl) (Nat.le_of_ble_eq_true rfl) rfl hcl ?_
      refine gs_0 (pc' := if ¬ x_8 = 0 then 43 else 37) (L' := [some (.ref l0), some (.int l1), some (.int l2)]) (st' := []) cd_221_34 rfl rfl ?_
      refine go_ite (fun hc => ?_) (fun hc => ?_)
      · rw [if_pos hc] at h
        refine gs_0 (pc' := 44) (L' := [some (.ref l0), some (.int l1), some (.int l2)]) (st' := [.ref l0]) cd_221_43 rfl rfl ?_
        obtain ⟨ht, h⟩ := gO_s h
        obtain ⟨q_9, hv, h⟩ := gV_s h
        refine gs_gfR cd_221_44 (by decide) ht hv ?_
        refine gs_0 (pc' := 48) (L' := [some (.ref l0), some (.int l1), some (.int l2)]) (st' := [.int 4, .ref q_9]) cd_221_47 rfl rfl ?_
        refine gs_0 (pc' := 49) (L' := [some (.ref l0), some (.int l1), some (.int l2)]) (st' := [.ref l0, .int 4, .ref q_9]) cd_221_48 rfl rfl ?_
        obtain ⟨ht, h⟩ := gO_s h
        refine gs_gfI cd_221_49 (by decide) (by decide) ht ?_
        refine gs_0 (pc' := 53) (L' := [some (.ref l0), some (.int l1), some (.int l2)]) (st' := [.int 1, .int (I_6 l0 41), .int 4, .ref q_9]) cd_221_52 rfl rfl ?_
        refine gs_0 (pc' := 54) (L' := [some (.ref l0), some (.int l1), some (.int l2)]) (st' := [.int ((I_6 l0 41) - 1), .int 4, .ref q_9]) cd_221_53 rfl rfl ?_
        refine gs_0 (pc' := 55) (L' := [some (.ref l0), some (.int l1), some (.int l2)]) (st' := [.int l1, .int ((I_6 l0 41) - 1), .int 4, .ref q_9]) cd_221_54 rfl rfl ?_
        refine gs_0 (pc' := 56) (L' := [some (.ref l0), some (.int l1), some (.int l2)]) (st' := [.int (((I_6 l0 41) - 1) - l1), .int 4, .ref q_9]) cd_221_55 rfl rfl ?_
        refine gs_0 (pc' := 57) (L' := [some (.ref l0), some (.int l1), some (.int l2)]) (st' := [.int (4 * (((I_6 l0 41) - 1) - l1)), .ref q_9]) cd_221_56 rfl rfl ?_
        refine gs_0 (pc' := 58) (L' := [some (.ref l0), some (.int l1), some (.int l2)]) (st' := [.int l2, .int (4 * (((I_6 l0 41) - 1) - l1)), .ref q_9]) cd_221_57 rfl rfl ?_
        refine gs_0 (pc' := 59) (L' := [some (.ref l0), some (.int l1), some (.int l2)]) (st' := [.int ((4 * (((I_6 l0 41) - 1) - l1)) + l2), .ref q_9]) cd_221_58 rfl rfl ?_
        obtain ⟨ht, h⟩ := gA_s h
        refine gs_iald cd_221_59 ht ?_
        refine gs_0 (pc' := 61) (L' := [some (.ref l0), some (.int l1), some (.int l2)]) (st' := [.long ((I_6 q_9 ((4 * (((I_6 l0 41) - 1) - l1)) + l2 : Int32).toNatClampNeg : Int32).toInt64)]) cd_221_60 rfl rfl ?_
        cases h
        exact gsr cd_221_61 rfl rfl
      · rw [if_neg hc] at h
        exact ok_221_37 h
  · rw [if_neg hc] at h
    refine gs_0 (pc' := 8) (L' := [some (.ref l0), some (.int l1), some (.int l2)]) (st' := [.ref l0]) cd_221_7 rfl rfl ?_
    refine gs_0 (pc' := 10) (L' := [some (.ref l0), some (.int l1), some (.int l2)]) (st' := [.int 6, .ref l0]) cd_221_8 rfl rfl ?_
    obtain ⟨ht, h⟩ := gO_s h
    obtain ⟨v_13, w_10, I_11, J_12, hcl, h⟩ := cJ_s h
    refine gs_call (as := [.ref l0, .int 6]) (rest := []) cd_221_10 rfl (by decide) rfl (sm_rv_ok (by decide) ht) (Nat.le_of_ble_eq_true rfl) (Nat.le_of_ble_eq_true rfl) rfl hcl ?_
    cases h
    exact gsr cd_221_13 rfl rfl
theorem cl_221 {K : Nat → Value} {k d : Nat} {l0 : Nat} {l1 : Int32} {l2 : Int32} {w : aW} {I : aI} {J : aJ} {R : aR} (h : f_221 K k d l0 l1 l2 w I J = some R) : Cl K (d + 1) 221 [.ref l0, .int l1, .int l2] w I J = some R := Cl_of (ok_221 h)
/-! ProvedMachine.proves(I)J -/
set_option maxRecDepth 20000 in
theorem gl_222 : gcd.lookup 222 = some gw_222 := rfl
theorem cd_222_0 : sm_cd 222 0 = some (.iload_n 1, 1, 1, 0, 0, 0, 0, 0, 0) := cd_of gl_222 rfl
theorem cd_222_1 : sm_cd 222 1 = some (.invokestatic 160, 3, 223, 1, 1, 1, 5, 0, 0) := cd_of gl_222 rfl
theorem cd_222_4 : sm_cd 222 4 = some (.ifCond .ne 9, 3, 13, 0, 0, 0, 0, 0, 0) := cd_of gl_222 rfl
theorem cd_222_7 : sm_cd 222 7 = some (.aload_n 0, 1, 0, 0, 0, 0, 0, 0, 0) := cd_of gl_222 rfl
theorem cd_222_8 : sm_cd 222 8 = some (.iconst 1, 1, 0, 0, 0, 0, 0, 1, 0) := cd_of gl_222 rfl
theorem cd_222_9 : sm_cd 222 9 = some (.invokevirtual 60, 3, 17, 0, 1, 2, 5, 0, 0) := cd_of gl_222 rfl
theorem cd_222_12 : sm_cd 222 12 = some (.lreturn, 1, 0, 0, 0, 0, 0, 0, 0) := cd_of gl_222 rfl
theorem cd_222_13 : sm_cd 222 13 = some (.aload_n 0, 1, 0, 0, 0, 0, 0, 0, 0) := cd_of gl_222 rfl
theorem cd_222_14 : sm_cd 222 14 = some (.getfield 46, 3, 5, 6, 2, 0, 0, 0, 0) := cd_of gl_222 rfl
theorem cd_222_17 : sm_cd 222 17 = some (.iload_n 1, 1, 1, 0, 0, 0, 0, 0, 0) := cd_of gl_222 rfl
theorem cd_222_18 : sm_cd 222 18 = some (.aaload, 1, 0, 0, 0, 0, 0, 0, 0) := cd_of gl_222 rfl
theorem cd_222_19 : sm_cd 222 19 = some (.astore_n 2, 1, 2, 0, 0, 0, 0, 0, 0) := cd_of gl_222 rfl
theorem cd_222_20 : sm_cd 222 20 = some (.aload_n 2, 1, 2, 0, 0, 0, 0, 0, 0) := cd_of gl_222 rfl
theorem cd_222_21 : sm_cd 222 21 = some (.getfield 163, 3, 3, 1, 0, 1, 0, 0, 0) := cd_of gl_222 rfl
theorem cd_222_24 : sm_cd 222 24 = some (.ifCond .ne 9, 3, 33, 0, 0, 0, 0, 0, 0) := cd_of gl_222 rfl
theorem cd_222_27 : sm_cd 222 27 = some (.aload_n 0, 1, 0, 0, 0, 0, 0, 0, 0) := cd_of gl_222 rfl
theorem cd_222_28 : sm_cd 222 28 = some (.iconst 2, 1, 0, 0, 0, 0, 0, 2, 0) := cd_of gl_222 rfl
theorem cd_222_29 : sm_cd 222 29 = some (.invokevirtual 60, 3, 17, 0, 1, 2, 5, 0, 0) := cd_of gl_222 rfl
theorem cd_222_32 : sm_cd 222 32 = some (.lreturn, 1, 0, 0, 0, 0, 0, 0, 0) := cd_of gl_222 rfl
theorem cd_222_33 : sm_cd 222 33 = some (.aload_n 2, 1, 2, 0, 0, 0, 0, 0, 0) := cd_of gl_222 rfl
theorem cd_222_34 : sm_cd 222 34 = some (.getfield 163, 3, 3, 1, 0, 1, 0, 0, 0) := cd_of gl_222 rfl
theorem cd_222_37 : sm_cd 222 37 = some (.bipush 32, 2, 0, 0, 0, 0, 0, 32, 0) := cd_of gl_222 rfl
theorem cd_222_39 : sm_cd 222 39 = some (.if_icmp .eq 9, 3, 48, 0, 0, 0, 0, 0, 0) := cd_of gl_222 rfl
theorem cd_222_42 : sm_cd 222 42 = some (.aload_n 0, 1, 0, 0, 0, 0, 0, 0, 0) := cd_of gl_222 rfl
theorem cd_222_43 : sm_cd 222 43 = some (.iconst 4, 1, 0, 0, 0, 0, 0, 4, 0) := cd_of gl_222 rfl
theorem cd_222_44 : sm_cd 222 44 = some (.invokevirtual 60, 3, 17, 0, 1, 2, 5, 0, 0) := cd_of gl_222 rfl
theorem cd_222_47 : sm_cd 222 47 = some (.lreturn, 1, 0, 0, 0, 0, 0, 0, 0) := cd_of gl_222 rfl
theorem cd_222_48 : sm_cd 222 48 = some (.aload_n 0, 1, 0, 0, 0, 0, 0, 0, 0) := cd_of gl_222 rfl
theorem cd_222_49 : sm_cd 222 49 = some (.getfield 40, 3, 5, 5, 1, 0, 0, 0, 0) := cd_of gl_222 rfl
theorem cd_222_52 : sm_cd 222 52 = some (.ifCond .ne 10, 3, 62, 0, 0, 0, 0, 0, 0) := cd_of gl_222 rfl
theorem cd_222_55 : sm_cd 222 55 = some (.aload_n 0, 1, 0, 0, 0, 0, 0, 0, 0) := cd_of gl_222 rfl
theorem cd_222_56 : sm_cd 222 56 = some (.bipush 6, 2, 0, 0, 0, 0, 0, 6, 0) := cd_of gl_222 rfl
theorem cd_222_58 : sm_cd 222 58 = some (.invokevirtual 60, 3, 17, 0, 1, 2, 5, 0, 0) := cd_of gl_222 rfl
theorem cd_222_61 : sm_cd 222 61 = some (.lreturn, 1, 0, 0, 0, 0, 0, 0, 0) := cd_of gl_222 rfl
theorem cd_222_62 : sm_cd 222 62 = some (.aload_n 0, 1, 0, 0, 0, 0, 0, 0, 0) := cd_of gl_222 rfl
theorem cd_222_63 : sm_cd 222 63 = some (.getfield 36, 3, 5, 4, 2, 0, 0, 0, 0) := cd_of gl_222 rfl
theorem cd_222_66 : sm_cd 222 66 = some (.invokevirtual 110, 3, 142, 0, 0, 1, 0, 0, 0) := cd_of gl_222 rfl
theorem cd_222_69 : sm_cd 222 69 = some (.ifCond .eq 10, 3, 79, 0, 0, 0, 0, 0, 0) := cd_of gl_222 rfl
theorem cd_222_72 : sm_cd 222 72 = some (.aload_n 0, 1, 0, 0, 0, 0, 0, 0, 0) := cd_of gl_222 rfl
theorem cd_222_73 : sm_cd 222 73 = some (.bipush 7, 2, 0, 0, 0, 0, 0, 7, 0) := cd_of gl_222 rfl
theorem cd_222_75 : sm_cd 222 75 = some (.invokevirtual 60, 3, 17, 0, 1, 2, 5, 0, 0) := cd_of gl_222 rfl
theorem cd_222_78 : sm_cd 222 78 = some (.lreturn, 1, 0, 0, 0, 0, 0, 0, 0) := cd_of gl_222 rfl
theorem cd_222_79 : sm_cd 222 79 = some (.aload_n 0, 1, 0, 0, 0, 0, 0, 0, 0) := cd_of gl_222 rfl
theorem cd_222_80 : sm_cd 222 80 = some (.getfield 36, 3, 5, 4, 2, 0, 0, 0, 0) := cd_of gl_222 rfl
theorem cd_222_83 : sm_cd 222 83 = some (.invokevirtual 166, 3, 224, 0, 0, 1, 0, 0, 0) := cd_of gl_222 rfl
theorem cd_222_86 : sm_cd 222 86 = some (.aload_n 0, 1, 0, 0, 0, 0, 0, 0, 0) := cd_of gl_222 rfl
theorem cd_222_87 : sm_cd 222 87 = some (.aload_n 2, 1, 2, 0, 0, 0, 0, 0, 0) := cd_of gl_222 rfl
theorem cd_222_88 : sm_cd 222 88 = some (.invokevirtual 169, 3, 225, 0, 1, 4, 5, 0, 0) := cd_of gl_222 rfl
theorem cd_222_91 : sm_cd 222 91 = some (.istore_n 3, 1, 3, 0, 0, 0, 0, 0, 0) := cd_of gl_222 rfl
theorem cd_222_92 : sm_cd 222 92 = some (.aload_n 0, 1, 0, 0, 0, 0, 0, 0, 0) := cd_of gl_222 rfl
theorem cd_222_93 : sm_cd 222 93 = some (.getfield 36, 3, 5, 4, 2, 0, 0, 0, 0) := cd_of gl_222 rfl
theorem cd_222_96 : sm_cd 222 96 = some (.invokevirtual 173, 3, 227, 0, 0, 1, 0, 0, 0) := cd_of gl_222 rfl
theorem cd_222_99 : sm_cd 222 99 = some (.iload_n 3, 1, 3, 0, 0, 0, 0, 0, 0) := cd_of gl_222 rfl
theorem cd_222_100 : sm_cd 222 100 = some (.i2l, 1, 0, 0, 0, 0, 0, 0, 0) := cd_of gl_222 rfl
theorem cd_222_101 : sm_cd 222 101 = some (.lreturn, 1, 0, 0, 0, 0, 0, 0, 0) := cd_of gl_222 rfl
noncomputable def f_222 (K : Nat → Value) (k d : Nat) (l0 : Nat) (l1 : Int32) (w : aW) (I : aI) (J : aJ) : Option aR :=
  cI (Cl K d 223 [.int l1] w I J) fun x_4 w_1 I_2 J_3 =>
  if ¬ x_4 = 0 then
    gO w_1 5 l0 (
    gV w_1 l0 6 fun q_5 =>
    gA w_1 14 15 q_5 l1 (
    gV w_1 q_5 (l1 : Int32).toNatClampNeg fun q_6 =>
    gO w_1 3 q_6 (
    if ¬ (I_2 q_6 1) = 0 then
      gO w_1 3 q_6 (
      if (I_2 q_6 1) = 32 then
        gO w_1 5 l0 (
        if ¬ (I_2 l0 5) = 0 then
          gO w_1 5 l0 (
          gV w_1 l0 4 fun q_7 =>
          gO w_1 0 q_7 (
          cI (Cl K d 142 [.ref q_7] w_1 I_2 J_3) fun x_11 w_8 I_9 J_10 =>
          if x_11 = 0 then
            gO w_8 5 l0 (
            gV w_8 l0 4 fun q_12 =>
            gO w_8 0 q_12 (
            cV (Cl K d 224 [.ref q_12] w_8 I_9 J_10) fun w_13 I_14 J_15 =>
            gO w_13 5 l0 (
            cI (Cl K d 225 [.ref l0, .ref q_6] w_13 I_14 J_15) fun x_19 w_16 I_17 J_18 =>
            gO w_16 5 l0 (
            gV w_16 l0 4 fun q_20 =>
            gO w_16 0 q_20 (
            cV (Cl K d 227 [.ref q_20] w_16 I_17 J_18) fun w_21 I_22 J_23 =>
            some (some (.long ((x_19 : Int32).toInt64)), w_21, I_22, J_23))))))
          else
            gO w_8 5 l0 (
            cJ (Cl K d 17 [.ref l0, .int 7] w_8 I_9 J_10) fun v_27 w_24 I_25 J_26 =>
            some (some (.long v_27), w_24, I_25, J_26))))
        else
          gO w_1 5 l0 (
          cJ (Cl K d 17 [.ref l0, .int 6] w_1 I_2 J_3) fun v_31 w_28 I_29 J_30 =>
          some (some (.long v_31), w_28, I_29, J_30)))
      else
        gO w_1 5 l0 (
        cJ (Cl K d 17 [.ref l0, .int 4] w_1 I_2 J_3) fun v_35 w_32 I_33 J_34 =>
        some (some (.long v_35), w_32, I_33, J_34)))
    else
      gO w_1 5 l0 (
      cJ (Cl K d 17 [.ref l0, .int 2] w_1 I_2 J_3) fun v_39 w_36 I_37 J_38 =>
      some (some (.long v_39), w_36, I_37, J_38)))))
  else
    gO w_1 5 l0 (
    cJ (Cl K d 17 [.ref l0, .int 1] w_1 I_2 J_3) fun v_43 w_40 I_41 J_42 =>
    some (some (.long v_43), w_40, I_41, J_42))
theorem ok_222 {K : Nat → Value} {k d : Nat} {l0 : Nat} {l1 : Int32} {w : aW} {I : aI} {J : aJ} {R : aR} (h : f_222 K k d l0 l1 w I J = some R) : Go K (d + 1) 222 0 [some (.ref l0), some (.int l1), none, none] [] w I J R := by
  unfold f_222 at h
  refine gs_0 (pc' := 1) (L' := [some (.ref l0), some (.int l1), none, none]) (st' := [.int l1]) cd_222_0 rfl rfl ?_
  obtain ⟨x_4, w_1, I_2, J_3, hcl, h⟩ := cI_s h
  refine gs_call (as := [.int l1]) (rest := []) cd_222_1 rfl (by decide) rfl rfl (Nat.le_of_ble_eq_true rfl) (Nat.le_of_ble_eq_true rfl) rfl hcl ?_
  refine gs_0 (pc' := if ¬ x_4 = 0 then 13 else 7) (L' := [some (.ref l0), some (.int l1), none, none]) (st' := []) cd_222_4 rfl rfl ?_
  refine go_ite (fun hc => ?_) (fun hc => ?_)
  · rw [if_pos hc] at h
    refine gs_0 (pc' := 14) (L' := [some (.ref l0), some (.int l1), none, none]) (st' := [.ref l0]) cd_222_13 rfl rfl ?_
    obtain ⟨ht, h⟩ := gO_s h
    obtain ⟨q_5, hv, h⟩ := gV_s h
    refine gs_gfR cd_222_14 (by decide) ht hv ?_
    refine gs_0 (pc' := 18) (L' := [some (.ref l0), some (.int l1), none, none]) (st' := [.int l1, .ref q_5]) cd_222_17 rfl rfl ?_
    obtain ⟨ht, h⟩ := gA_s h
    obtain ⟨q_6, hv, h⟩ := gV_s h
    refine gs_rald cd_222_18 ht hv ?_
    refine gs_0 (pc' := 20) (L' := [some (.ref l0), some (.int l1), some (.ref q_6), none]) (st' := []) cd_222_19 rfl rfl ?_
    refine gs_0 (pc' := 21) (L' := [some (.ref l0), some (.int l1), some (.ref q_6), none]) (st' := [.ref q_6]) cd_222_20 rfl rfl ?_
    obtain ⟨ht, h⟩ := gO_s h
    refine gs_gfI cd_222_21 (by decide) (by decide) ht ?_
    refine gs_0 (pc' := if ¬ (I_2 q_6 1) = 0 then 33 else 27) (L' := [some (.ref l0), some (.int l1), some (.ref q_6), none]) (st' := []) cd_222_24 rfl rfl ?_
    refine go_ite (fun hc => ?_) (fun hc => ?_)
    · rw [if_pos hc] at h
      refine gs_0 (pc' := 34) (L' := [some (.ref l0), some (.int l1), some (.ref q_6), none]) (st' := [.ref q_6]) cd_222_33 rfl rfl ?_
      obtain ⟨ht, h⟩ := gO_s h
      refine gs_gfI cd_222_34 (by decide) (by decide) ht ?_
      refine gs_0 (pc' := 39) (L' := [some (.ref l0), some (.int l1), some (.ref q_6), none]) (st' := [.int 32, .int (I_2 q_6 1)]) cd_222_37 rfl rfl ?_
      refine gs_0 (pc' := if (I_2 q_6 1) = 32 then 48 else 42) (L' := [some (.ref l0), some (.int l1), some (.ref q_6), none]) (st' := []) cd_222_39 rfl rfl ?_
      refine go_ite (fun hc => ?_) (fun hc => ?_)
      · rw [if_pos hc] at h
        refine gs_0 (pc' := 49) (L' := [some (.ref l0), some (.int l1), some (.ref q_6), none]) (st' := [.ref l0]) cd_222_48 rfl rfl ?_
        obtain ⟨ht, h⟩ := gO_s h
        refine gs_gfI cd_222_49 (by decide) (by decide) ht ?_
        refine gs_0 (pc' := if ¬ (I_2 l0 5) = 0 then 62 else 55) (L' := [some (.ref l0), some (.int l1), some (.ref q_6), none]) (st' := []) cd_222_52 rfl rfl ?_
        refine go_ite (fun hc => ?_) (fun hc => ?_)
        · rw [if_pos hc] at h
          refine gs_0 (pc' := 63) (L' := [some (.ref l0), some (.int l1), some (.ref q_6), none]) (st' := [.ref l0]) cd_222_62 rfl rfl ?_
          obtain ⟨ht, h⟩ := gO_s h
          obtain ⟨q_7, hv, h⟩ := gV_s h
          refine gs_gfR cd_222_63 (by decide) ht hv ?_
          obtain ⟨ht, h⟩ := gO_s h
          obtain ⟨x_11, w_8, I_9, J_10, hcl, h⟩ := cI_s h
          refine gs_call (as := [.ref q_7]) (rest := []) cd_222_66 rfl (by decide) rfl (sm_rv_ok (by decide) ht) (Nat.le_of_ble_eq_true rfl) (Nat.le_of_ble_eq_true rfl) rfl hcl ?_
          refine gs_0 (pc' := if x_11 = 0 then 79 else 72) (L' := [some (.ref l0), some (.int l1), some (.ref q_6), none]) (st' := []) cd_222_69 rfl rfl ?_
          refine go_ite (fun hc => ?_) (fun hc => ?_)
          · rw [if_pos hc] at h
            refine gs_0 (pc' := 80) (L' := [some (.ref l0), some (.int l1), some (.ref q_6), none]) (st' := [.ref l0]) cd_222_79 rfl rfl ?_
            obtain ⟨ht, h⟩ := gO_s h
            obtain ⟨q_12, hv, h⟩ := gV_s h
            refine gs_gfR cd_222_80 (by decide) ht hv ?_
            obtain ⟨ht, h⟩ := gO_s h
            obtain ⟨w_13, I_14, J_15, hcl, h⟩ := cV_s h
            refine gs_call (as := [.ref q_12]) (rest := []) cd_222_83 rfl (by decide) rfl (sm_rv_ok (by decide) ht) (Nat.le_of_ble_eq_true rfl) (Nat.le_of_ble_eq_true rfl) rfl hcl ?_
            refine gs_0 (pc' := 87) (L' := [some (.ref l0), some (.int l1), some (.ref q_6), none]) (st' := [.ref l0]) cd_222_86 rfl rfl ?_
            refine gs_0 (pc' := 88) (L' := [some (.ref l0), some (.int l1), some (.ref q_6), none]) (st' := [.ref q_6, .ref l0]) cd_222_87 rfl rfl ?_
            obtain ⟨ht, h⟩ := gO_s h
            obtain ⟨x_19, w_16, I_17, J_18, hcl, h⟩ := cI_s h
            refine gs_call (as := [.ref l0, .ref q_6]) (rest := []) cd_222_88 rfl (by decide) rfl (sm_rv_ok (by decide) ht) (Nat.le_of_ble_eq_true rfl) (Nat.le_of_ble_eq_true rfl) rfl hcl ?_
            refine gs_0 (pc' := 92) (L' := [some (.ref l0), some (.int l1), some (.ref q_6), some (.int x_19)]) (st' := []) cd_222_91 rfl rfl ?_
            refine gs_0 (pc' := 93) (L' := [some (.ref l0), some (.int l1), some (.ref q_6), some (.int x_19)]) (st' := [.ref l0]) cd_222_92 rfl rfl ?_
            obtain ⟨ht, h⟩ := gO_s h
            obtain ⟨q_20, hv, h⟩ := gV_s h
            refine gs_gfR cd_222_93 (by decide) ht hv ?_
            obtain ⟨ht, h⟩ := gO_s h
            obtain ⟨w_21, I_22, J_23, hcl, h⟩ := cV_s h
            refine gs_call (as := [.ref q_20]) (rest := []) cd_222_96 rfl (by decide) rfl (sm_rv_ok (by decide) ht) (Nat.le_of_ble_eq_true rfl) (Nat.le_of_ble_eq_true rfl) rfl hcl ?_
            refine gs_0 (pc' := 100) (L' := [some (.ref l0), some (.int l1), some (.ref q_6), some (.int x_19)]) (st' := [.int x_19]) cd_222_99 rfl rfl ?_
            refine gs_0 (pc' := 101) (L' := [some (.ref l0), some (.int l1), some (.ref q_6), some (.int x_19)]) (st' := [.long ((x_19 : Int32).toInt64)]) cd_222_100 rfl rfl ?_
            cases h
            exact gsr cd_222_101 rfl rfl
          · rw [if_neg hc] at h
            refine gs_0 (pc' := 73) (L' := [some (.ref l0), some (.int l1), some (.ref q_6), none]) (st' := [.ref l0]) cd_222_72 rfl rfl ?_
            refine gs_0 (pc' := 75) (L' := [some (.ref l0), some (.int l1), some (.ref q_6), none]) (st' := [.int 7, .ref l0]) cd_222_73 rfl rfl ?_
            obtain ⟨ht, h⟩ := gO_s h
            obtain ⟨v_27, w_24, I_25, J_26, hcl, h⟩ := cJ_s h
            refine gs_call (as := [.ref l0, .int 7]) (rest := []) cd_222_75 rfl (by decide) rfl (sm_rv_ok (by decide) ht) (Nat.le_of_ble_eq_true rfl) (Nat.le_of_ble_eq_true rfl) rfl hcl ?_
            cases h
            exact gsr cd_222_78 rfl rfl
        · rw [if_neg hc] at h
          refine gs_0 (pc' := 56) (L' := [some (.ref l0), some (.int l1), some (.ref q_6), none]) (st' := [.ref l0]) cd_222_55 rfl rfl ?_
          refine gs_0 (pc' := 58) (L' := [some (.ref l0), some (.int l1), some (.ref q_6), none]) (st' := [.int 6, .ref l0]) cd_222_56 rfl rfl ?_
          obtain ⟨ht, h⟩ := gO_s h
          obtain ⟨v_31, w_28, I_29, J_30, hcl, h⟩ := cJ_s h
          refine gs_call (as := [.ref l0, .int 6]) (rest := []) cd_222_58 rfl (by decide) rfl (sm_rv_ok (by decide) ht) (Nat.le_of_ble_eq_true rfl) (Nat.le_of_ble_eq_true rfl) rfl hcl ?_
          cases h
          exact gsr cd_222_61 rfl rfl
      · rw [if_neg hc] at h
        refine gs_0 (pc' := 43) (L' := [some (.ref l0), some (.int l1), some (.ref q_6), none]) (st' := [.ref l0]) cd_222_42 rfl rfl ?_
        refine gs_0 (pc' := 44) (L' := [some (.ref l0), some (.int l1), some (.ref q_6), none]) (st' := [.int 4, .ref l0]) cd_222_43 rfl rfl ?_
        obtain ⟨ht, h⟩ := gO_s h
        obtain ⟨v_35, w_32, I_33, J_34, hcl, h⟩ := cJ_s h
        refine gs_call (as := [.ref l0, .int 4]) (rest := []) cd_222_44 rfl (by decide) rfl (sm_rv_ok (by decide) ht) (Nat.le_of_ble_eq_true rfl) (Nat.le_of_ble_eq_true rfl) rfl hcl ?_
        cases h
        exact gsr cd_222_47 rfl rfl
    · rw [if_neg hc] at h
      refine gs_0 (pc' := 28) (L' := [some (.ref l0), some (.int l1), some (.ref q_6), none]) (st' := [.ref l0]) cd_222_27 rfl rfl ?_
      refine gs_0 (pc' := 29) (L' := [some (.ref l0), some (.int l1), some (.ref q_6), none]) (st' := [.int 2, .ref l0]) cd_222_28 rfl rfl ?_
      obtain ⟨ht, h⟩ := gO_s h
      obtain ⟨v_39, w_36, I_37, J_38, hcl, h⟩ := cJ_s h
      refine gs_call (as := [.ref l0, .int 2]) (rest := []) cd_222_29 rfl (by decide) rfl (sm_rv_ok (by decide) ht) (Nat.le_of_ble_eq_true rfl) (Nat.le_of_ble_eq_true rfl) rfl hcl ?_
      cases h
      exact gsr cd_222_32 rfl rfl
  · rw [if_neg hc] at h
    refine gs_0 (pc' := 8) (L' := [some (.ref l0), some (.int l1), none, none]) (st' := [.ref l0]) cd_222_7 rfl rfl ?_
    refine gs_0 (pc' := 9) (L' := [some (.ref l0), some (.int l1), none, none]) (st' := [.int 1, .ref l0]) cd_222_8 rfl rfl ?_
    obtain ⟨ht, h⟩ := gO_s h
    obtain ⟨v_43, w_40, I_41, J_42, hcl, h⟩ := cJ_s h
    refine gs_call (as := [.ref l0, .int 1]) (rest := []) cd_222_9 rfl (by decide) rfl (sm_rv_ok (by decide) ht) (Nat.le_of_ble_eq_true rfl) (Nat.le_of_ble_eq_true rfl) rfl hcl ?_
    cases h
    exact gsr cd_222_12 rfl rfl
theorem cl_222 {K : Nat → Value} {k d : Nat} {l0 : Nat} {l1 : Int32} {w : aW} {I : aI} {J : aJ} {R : aR} (h : f_222 K k d l0 l1 w I J = some R) : Cl K (d + 1) 222 [.ref l0, .int l1] w I J = some R := Cl_of (ok_222 h)
/-! ProvedMachine.isSheet(I)Z -/
set_option maxRecDepth 20000 in
theorem gl_223 : gcd.lookup 223 = some gw_223 := rfl
theorem cd_223_0 : sm_cd 223 0 = some (.iload_n 0, 1, 0, 0, 0, 0, 0, 0, 0) := cd_of gl_223 rfl
theorem cd_223_1 : sm_cd 223 1 = some (.ifCond .lt 12, 3, 13, 0, 0, 0, 0, 0, 0) := cd_of gl_223 rfl
theorem cd_223_4 : sm_cd 223 4 = some (.iload_n 0, 1, 0, 0, 0, 0, 0, 0, 0) := cd_of gl_223 rfl
theorem cd_223_5 : sm_cd 223 5 = some (.iconst 4, 1, 0, 0, 0, 0, 0, 4, 0) := cd_of gl_223 rfl
theorem cd_223_6 : sm_cd 223 6 = some (.if_icmp .ge 7, 3, 13, 0, 0, 0, 0, 0, 0) := cd_of gl_223 rfl
theorem cd_223_9 : sm_cd 223 9 = some (.iconst 1, 1, 0, 0, 0, 0, 0, 1, 0) := cd_of gl_223 rfl
theorem cd_223_10 : sm_cd 223 10 = some (.goto 4, 3, 14, 0, 0, 0, 0, 0, 0) := cd_of gl_223 rfl
theorem cd_223_13 : sm_cd 223 13 = some (.iconst 0, 1, 0, 0, 0, 0, 0, 0, 0) := cd_of gl_223 rfl
theorem cd_223_14 : sm_cd 223 14 = some (.ireturn, 1, 0, 0, 2, 0, 0, 0, 0) := cd_of gl_223 rfl
noncomputable def f_223 (K : Nat → Value) (k d : Nat) (l0 : Int32) (w : aW) (I : aI) (J : aJ) : Option aR :=
  if l0 < 0 then
    some (some (.int 0), w, I, J)
  else
    if 4 ≤ l0 then
      some (some (.int 0), w, I, J)
    else
      some (some (.int 1), w, I, J)
theorem ok_223 {K : Nat → Value} {k d : Nat} {l0 : Int32} {w : aW} {I : aI} {J : aJ} {R : aR} (h : f_223 K k d l0 w I J = some R) : Go K (d + 1) 223 0 [some (.int l0)] [] w I J R := by
  unfold f_223 at h
  refine gs_0 (pc' := 1) (L' := [some (.int l0)]) (st' := [.int l0]) cd_223_0 rfl rfl ?_
  refine gs_0 (pc' := if l0 < 0 then 13 else 4) (L' := [some (.int l0)]) (st' := []) cd_223_1 rfl rfl ?_
  refine go_ite (fun hc => ?_) (fun hc => ?_)
  · rw [if_pos hc] at h
    refine gs_0 (pc' := 14) (L' := [some (.int l0)]) (st' := [.int 0]) cd_223_13 rfl rfl ?_
    cases h
    exact gs_ri cd_223_14 (Or.inr (Or.inl ⟨rfl, Or.inl rfl⟩))
  · rw [if_neg hc] at h
    refine gs_0 (pc' := 5) (L' := [some (.int l0)]) (st' := [.int l0]) cd_223_4 rfl rfl ?_
    refine gs_0 (pc' := 6) (L' := [some (.int l0)]) (st' := [.int 4, .int l0]) cd_223_5 rfl rfl ?_
    refine gs_0 (pc' := if 4 ≤ l0 then 13 else 9) (L' := [some (.int l0)]) (st' := []) cd_223_6 rfl rfl ?_
    refine go_ite (fun hc => ?_) (fun hc => ?_)
    · rw [if_pos hc] at h
      refine gs_0 (pc' := 14) (L' := [some (.int l0)]) (st' := [.int 0]) cd_223_13 rfl rfl ?_
      cases h
      exact gs_ri cd_223_14 (Or.inr (Or.inl ⟨rfl, Or.inl rfl⟩))
    · rw [if_neg hc] at h
      refine gs_0 (pc' := 10) (L' := [some (.int l0)]) (st' := [.int 1]) cd_223_9 rfl rfl ?_
      refine gs_0 (pc' := 14) (L' := [some (.int l0)]) (st' := [.int 1]) cd_223_10 rfl rfl ?_
      cases h
      exact gs_ri cd_223_14 (Or.inr (Or.inl ⟨rfl, Or.inr rfl⟩))
theorem cl_223 {K : Nat → Value} {k d : Nat} {l0 : Int32} {w : aW} {I : aI} {J : aJ} {R : aR} (h : f_223 K k d l0 w I J = some R) : Cl K (d + 1) 223 [.int l0] w I J = some R := Cl_of (ok_223 h)
/-! ProvedMachine$Machine.save()V -/
set_option maxRecDepth 20000 in
theorem gl_224 : gcd.lookup 224 = some gw_224 := rfl
theorem cd_224_0 : sm_cd 224 0 = some (.aload_n 0, 1, 0, 0, 0, 0, 0, 0, 0) := cd_of gl_224 rfl
theorem cd_224_1 : sm_cd 224 1 = some (.getfield 13, 3, 0, 1, 2, 0, 0, 0, 0) := cd_of gl_224 rfl
theorem cd_224_4 : sm_cd 224 4 = some (.iconst 0, 1, 0, 0, 0, 0, 0, 0, 0) := cd_of gl_224 rfl
theorem cd_224_5 : sm_cd 224 5 = some (.aload_n 0, 1, 0, 0, 0, 0, 0, 0, 0) := cd_of gl_224 rfl
theorem cd_224_6 : sm_cd 224 6 = some (.getfield 17, 3, 0, 2, 2, 0, 0, 0, 0) := cd_of gl_224 rfl
theorem cd_224_9 : sm_cd 224 9 = some (.iconst 0, 1, 0, 0, 0, 0, 0, 0, 0) := cd_of gl_224 rfl
theorem cd_224_10 : sm_cd 224 10 = some (.sipush 327, 3, 0, 0, 0, 0, 0, 327, 0) := cd_of gl_224 rfl
theorem cd_224_13 : sm_cd 224 13 = some (.invokestatic 96, 3, 0, 4, 0, 0, 0, 0, 0) := cd_of gl_224 rfl
theorem cd_224_16 : sm_cd 224 16 = some (.return_, 1, 0, 0, 0, 0, 0, 0, 0) := cd_of gl_224 rfl
noncomputable def f_224 (K : Nat → Value) (k d : Nat) (l0 : Nat) (w : aW) (I : aI) (J : aJ) : Option aR :=
  gO w 0 l0 (
  gV w l0 1 fun q_1 =>
  gO w 0 l0 (
  gV w l0 2 fun q_2 =>
  gY w q_1 q_2 0 0 327 (
  lt_ (sm_up1 I q_2 (va_cpy (I q_1) (I q_2) (0 : Int32).toNatClampNeg (0 : Int32).toNatClampNeg (327 : Int32).toNatClampNeg)) fun I_3 =>
  some (none, w, I_3, J))))
theorem ok_224 {K : Nat → Value} {k d : Nat} {l0 : Nat} {w : aW} {I : aI} {J : aJ} {R : aR} (h : f_224 K k d l0 w I J = some R) : Go K (d + 1) 224 0 [some (.ref l0)] [] w I J R := by
  unfold f_224 at h
  refine gs_0 (pc' := 1) (L' := [some (.ref l0)]) (st' := [.ref l0]) cd_224_0 rfl rfl ?_
  obtain ⟨ht, h⟩ := gO_s h
  obtain ⟨q_1, hv, h⟩ := gV_s h
  refine gs_gfR cd_224_1 (by decide) ht hv ?_
  refine gs_0 (pc' := 5) (L' := [some (.ref l0)]) (st' := [.int 0, .ref q_1]) cd_224_4 rfl rfl ?_
  refine gs_0 (pc' := 6) (L' := [some (.ref l0)]) (st' := [.ref l0, .int 0, .ref q_1]) cd_224_5 rfl rfl ?_
  obtain ⟨ht, h⟩ := gO_s h
  obtain ⟨q_2, hv, h⟩ := gV_s h
  refine gs_gfR cd_224_6 (by decide) ht hv ?_
  refine gs_0 (pc' := 10) (L' := [some (.ref l0)]) (st' := [.int 0, .ref q_2, .int 0, .ref q_1]) cd_224_9 rfl rfl ?_
  refine gs_0 (pc' := 13) (L' := [some (.ref l0)]) (st' := [.int 327, .int 0, .ref q_2, .int 0, .ref q_1]) cd_224_10 rfl rfl ?_
  obtain ⟨n1, n2, h1, h2, hc, h⟩ := gY_s h
  refine gs_acp cd_224_13 h1 h2 hc (Nat.le_of_ble_eq_true rfl) ?_
  obtain ⟨I_3, hx, h⟩ := lt_s_ h
  rw [hx]
  cases h
  exact gsr cd_224_16 rfl rfl
theorem cl_224 {K : Nat → Value} {k d : Nat} {l0 : Nat} {w : aW} {I : aI} {J : aJ} {R : aR} (h : f_224 K k d l0 w I J = some R) : Cl K (d + 1) 224 [.ref l0] w I J = some R := Cl_of (ok_224 h)
/-! ProvedMachine.firstWrong(LProvedMachine$Sheet;)I -/
set_option maxRecDepth 20000 in
theorem gl_225 : gcd.lookup 225 = some gw_225 := rfl
theorem cd_225_0 : sm_cd 225 0 = some (.iconst 0, 1, 0, 0, 0, 0, 0, 0, 0) := cd_of gl_225 rfl
theorem cd_225_1 : sm_cd 225 1 = some (.istore_n 2, 1, 2, 0, 0, 0, 0, 0, 0) := cd_of gl_225 rfl
theorem cd_225_2 : sm_cd 225 2 = some (.iload_n 2, 1, 2, 0, 0, 0, 0, 0, 0) := cd_of gl_225 rfl
theorem cd_225_3 : sm_cd 225 3 = some (.aload_n 1, 1, 1, 0, 0, 0, 0, 0, 0) := cd_of gl_225 rfl
theorem cd_225_4 : sm_cd 225 4 = some (.getfield 196, 3, 3, 2, 0, 1, 0, 0, 0) := cd_of gl_225 rfl
theorem cd_225_7 : sm_cd 225 7 = some (.if_icmp .ge 72, 3, 79, 0, 0, 0, 0, 0, 0) := cd_of gl_225 rfl
theorem cd_225_10 : sm_cd 225 10 = some (.aload_n 1, 1, 1, 0, 0, 0, 0, 0, 0) := cd_of gl_225 rfl
theorem cd_225_11 : sm_cd 225 11 = some (.iload_n 2, 1, 2, 0, 0, 0, 0, 0, 0) := cd_of gl_225 rfl
theorem cd_225_12 : sm_cd 225 12 = some (.iconst 4, 1, 0, 0, 0, 0, 0, 4, 0) := cd_of gl_225 rfl
theorem cd_225_13 : sm_cd 225 13 = some (.invokevirtual 180, 3, 226, 0, 2, 3, 3, 0, 0) := cd_of gl_225 rfl
theorem cd_225_16 : sm_cd 225 16 = some (.ifCond .ne 8, 3, 24, 0, 0, 0, 0, 0, 0) := cd_of gl_225 rfl
theorem cd_225_19 : sm_cd 225 19 = some (.aload_n 1, 1, 1, 0, 0, 0, 0, 0, 0) := cd_of gl_225 rfl
theorem cd_225_20 : sm_cd 225 20 = some (.getfield 196, 3, 3, 2, 0, 1, 0, 0, 0) := cd_of gl_225 rfl
theorem cd_225_23 : sm_cd 225 23 = some (.ireturn, 1, 0, 0, 1, 0, 0, 0, 0) := cd_of gl_225 rfl
theorem cd_225_24 : sm_cd 225 24 = some (.aload_n 0, 1, 0, 0, 0, 0, 0, 0, 0) := cd_of gl_225 rfl
theorem cd_225_25 : sm_cd 225 25 = some (.getfield 36, 3, 5, 4, 2, 0, 0, 0, 0) := cd_of gl_225 rfl
theorem cd_225_28 : sm_cd 225 28 = some (.invokevirtual 114, 3, 143, 0, 0, 7, 0, 0, 0) := cd_of gl_225 rfl
theorem cd_225_31 : sm_cd 225 31 = some (.ifCond .ne 5, 3, 36, 0, 0, 0, 0, 0, 0) := cd_of gl_225 rfl
theorem cd_225_34 : sm_cd 225 34 = some (.iload_n 2, 1, 2, 0, 0, 0, 0, 0, 0) := cd_of gl_225 rfl
theorem cd_225_35 : sm_cd 225 35 = some (.ireturn, 1, 0, 0, 1, 0, 0, 0, 0) := cd_of gl_225 rfl
theorem cd_225_36 : sm_cd 225 36 = some (.iconst 0, 1, 0, 0, 0, 0, 0, 0, 0) := cd_of gl_225 rfl
theorem cd_225_37 : sm_cd 225 37 = some (.istore_n 3, 1, 3, 0, 0, 0, 0, 0, 0) := cd_of gl_225 rfl
theorem cd_225_38 : sm_cd 225 38 = some (.iload_n 3, 1, 3, 0, 0, 0, 0, 0, 0) := cd_of gl_225 rfl
theorem cd_225_39 : sm_cd 225 39 = some (.iconst 4, 1, 0, 0, 0, 0, 0, 4, 0) := cd_of gl_225 rfl
theorem cd_225_40 : sm_cd 225 40 = some (.if_icmp .ge 33, 3, 73, 0, 0, 0, 0, 0, 0) := cd_of gl_225 rfl
theorem cd_225_43 : sm_cd 225 43 = some (.aload_n 0, 1, 0, 0, 0, 0, 0, 0, 0) := cd_of gl_225 rfl
theorem cd_225_44 : sm_cd 225 44 = some (.getfield 36, 3, 5, 4, 2, 0, 0, 0, 0) := cd_of gl_225 rfl
theorem cd_225_47 : sm_cd 225 47 = some (.iconst 0, 1, 0, 0, 0, 0, 0, 0, 0) := cd_of gl_225 rfl
theorem cd_225_48 : sm_cd 225 48 = some (.iload_n 3, 1, 3, 0, 0, 0, 0, 0, 0) := cd_of gl_225 rfl
theorem cd_225_49 : sm_cd 225 49 = some (.invokevirtual 157, 3, 220, 0, 2, 4, 0, 0, 0) := cd_of gl_225 rfl
theorem cd_225_52 : sm_cd 225 52 = some (.aload_n 1, 1, 1, 0, 0, 0, 0, 0, 0) := cd_of gl_225 rfl
theorem cd_225_53 : sm_cd 225 53 = some (.getfield 185, 3, 3, 0, 2, 1, 0, 0, 0) := cd_of gl_225 rfl
theorem cd_225_56 : sm_cd 225 56 = some (.iload_n 2, 1, 2, 0, 0, 0, 0, 0, 0) := cd_of gl_225 rfl
theorem cd_225_57 : sm_cd 225 57 = some (.iload_n 3, 1, 3, 0, 0, 0, 0, 0, 0) := cd_of gl_225 rfl
theorem cd_225_58 : sm_cd 225 58 = some (.iadd, 1, 0, 0, 0, 0, 0, 0, 0) := cd_of gl_225 rfl
theorem cd_225_59 : sm_cd 225 59 = some (.iaload, 1, 0, 0, 0, 0, 0, 0, 0) := cd_of gl_225 rfl
theorem cd_225_60 : sm_cd 225 60 = some (.if_icmp .eq 7, 3, 67, 0, 0, 0, 0, 0, 0) := cd_of gl_225 rfl
theorem cd_225_63 : sm_cd 225 63 = some (.iload_n 2, 1, 2, 0, 0, 0, 0, 0, 0) := cd_of gl_225 rfl
theorem cd_225_64 : sm_cd 225 64 = some (.iload_n 3, 1, 3, 0, 0, 0, 0, 0, 0) := cd_of gl_225 rfl
theorem cd_225_65 : sm_cd 225 65 = some (.iadd, 1, 0, 0, 0, 0, 0, 0, 0) := cd_of gl_225 rfl
theorem cd_225_66 : sm_cd 225 66 = some (.ireturn, 1, 0, 0, 1, 0, 0, 0, 0) := cd_of gl_225 rfl
theorem cd_225_67 : sm_cd 225 67 = some (.iinc 3 1, 3, 3, 0, 0, 0, 0, 1, 0) := cd_of gl_225 rfl
theorem cd_225_70 : sm_cd 225 70 = some (.goto (-32), 3, 38, 0, 0, 0, 0, 0, 0) := cd_of gl_225 rfl
theorem cd_225_73 : sm_cd 225 73 = some (.iinc 2 4, 3, 2, 0, 0, 0, 0, 4, 0) := cd_of gl_225 rfl
theorem cd_225_76 : sm_cd 225 76 = some (.goto (-74), 3, 2, 0, 0, 0, 0, 0, 0) := cd_of gl_225 rfl
theorem cd_225_79 : sm_cd 225 79 = some (.iconst (-1), 1, 0, 0, 0, 0, 0, (-1), 0) := cd_of gl_225 rfl
theorem cd_225_80 : sm_cd 225 80 = some (.ireturn, 1, 0, 0, 1, 0, 0, 0, 0) := cd_of gl_225 rfl
noncomputable def f_225_38 (K : Nat → Value) (k : Nat) (d : Nat) (r2 : Nat → Nat → Int32 → aW → aI → aJ → Option aR) : Nat → Nat → Int32 → Int32 → aW → aI → aJ → Option aR :=
  match k with
  | 0 => fun _ _ _ _ _ _ _ => none
  | k + 1 => fun l0 l1 l2 l3 w I J =>
  lt_ (f_225_38 K k d r2) fun r38 =>
  if 4 ≤ l3 then
    lt_ (l2 + 4) fun x_1 =>
    r2 l0 l1 x_1 w I J
  else
    gO w 5 l0 (
    gV w l0 4 fun q_2 =>
    gO w 0 q_2 (
    cI (Cl K d 220 [.ref q_2, .int 0, .int l3] w I J) fun x_6 w_3 I_4 J_5 =>
    gO w_3 3 l1 (
    gV w_3 l1 0 fun q_7 =>
    gA w_3 10 20 q_7 (l2 + l3) (
    if x_6 = (I_4 q_7 (l2 + l3 : Int32).toNatClampNeg) then
      lt_ (l3 + 1) fun x_8 =>
      r38 l0 l1 l2 x_8 w_3 I_4 J_5
    else
      some (some (.int (l2 + l3)), w_3, I_4, J_5)))))
theorem ok_225_38 {K : Nat → Value} {d : Nat} {r2 : Nat → Nat → Int32 → aW → aI → aJ → Option aR} (hr2 : ∀ (l0 : Nat) (l1 : Nat) (l2 : Int32) (w : aW) (I : aI) (J : aJ) (R : aR), r2 l0 l1 l2 w I J = some R → Go K (d + 1) 225 2 [some (.ref l0), some (.ref l1), some (.int l2), none] [] w I J R) : ∀ {k : Nat} {l0 : Nat} {l1 : Nat} {l2 : Int32} {l3 : Int32} {w : aW} {I : aI} {J : aJ} {R : aR}, f_225_38 K k d r2 l0 l1 l2 l3 w I J = some R → Go K (d + 1) 225 38 [some (.ref l0), some (.ref l1), some (.int l2), some (.int l3)] [] w I J R := by
  intro k
  induction k with
  | zero => intro l0 l1 l2 l3 w I J R h; cases h
  | succ k ih =>
    intro l0 l1 l2 l3 w I J R h
    have hr38 : ∀ (l0 : Nat) (l1 : Nat) (l2 : Int32) (l3 : Int32) (w : aW) (I : aI) (J : aJ) (R : aR), f_225_38 K k d r2 l0 l1 l2 l3 w I J = some R → Go K (d + 1) 225 38 [some (.ref l0), some (.ref l1), some (.int l2), some (.int l3)] [] w I J R := fun l0 l1 l2 l3 w I J R h => ih h
    rw [f_225_38] at h
    obtain ⟨r38, hx, h⟩ := lt_s_ h
    rw [hx] at hr38
    clear hx ih
    refine gs_0 (pc' := 39) (L' := [some (.ref l0), some (.ref l1), some (.int l2), some (.int l3)]) (st' := [.int l3]) cd_225_38 rfl rfl ?_
    refine gs_0 (pc' := 40) (L' := [some (.ref l0), some (.ref l1), some (.int l2), some (.int l3)]) (st' := [.int 4, .int l3]) cd_225_39 rfl rfl ?_
    refine gs_0 (pc' := if 4 ≤ l3 then 73 else 43) (L' := [some (.ref l0), some (.ref l1), some (.int l2), some (.int l3)]) (st' := []) cd_225_40 rfl rfl ?_
    refine go_ite (fun hc => ?_) (fun hc => ?_)
    · rw [if_pos hc] at h
      refine gs_0 (pc' := 76) (L' := [some (.ref l0), some (.ref l1), some (.int (l2 + 4)), some (.int l3)]) (st' := []) cd_225_73 rfl rfl ?_
      obtain ⟨x_1, hx, h⟩ := lt_s_ h
      rw [hx]
      clear hx
      refine gs_0 (pc' := 2) (L' := [some (.ref l0), some (.ref l1), some (.int x_1), some (.int l3)]) (st' := []) cd_225_76 rfl rfl ?_
      refine go_drop [some (.ref l0), some (.ref l1), some (.int x_1), none] ⟨rfl, ⟨rfl, ⟨rfl, ⟨rfl, trivial⟩⟩⟩⟩ ?_
      exact hr2 l0 l1 x_1 _ _ _ _ h
    · rw [if_neg hc] at h
      refine gs_0 (pc' := 44) (L' := [some (.ref l0), some (.ref l1), some (.int l2), some (.int l3)]) (st' := [.ref l0]) cd_225_43 rfl rfl ?_
      obtain ⟨ht, h⟩ := gO_s h
      obtain ⟨q_2, hv, h⟩ := gV_s h
      refine gs_gfR cd_225_44 (by decide) ht hv ?_
      refine gs_0 (pc' := 48) (L' := [some (.ref l0), some (.ref l1), some (.int l2), some (.int l3)]) (st' := [.int 0, .ref q_2]) cd_225_47 rfl rfl ?_
      refine gs_0 (pc' := 49) (L' := [some (.ref l0), some (.ref l1), some (.int l2), some (.int l3)]) (st' := [.int l3, .int 0, .ref q_2]) cd_225_48 rfl rfl ?_
      obtain ⟨ht, h⟩ := gO_s h
      obtain ⟨x_6, w_3, I_4, J_5, hcl, h⟩ := cI_s h
      refine gs_call (as := [.ref q_2, .int 0, .int l3]) (rest := []) cd_225_49 rfl (by decide) rfl (sm_rv_ok (by decide) ht) (Nat.le_of_ble_eq_true rfl) (Nat.le_of_ble_eq_true rfl) rfl hcl ?_
      refine gs_0 (pc' := 53) (L' := [some (.ref l0), some (.ref l1), some (.int l2), some (.int l3)]) (st' := [.ref l1, .int x_6]) cd_225_52 rfl rfl ?_
      obtain ⟨ht, h⟩ := gO_s h
      obtain ⟨q_7, hv, h⟩ := gV_s h
      refine gs_gfR cd_225_53 (by decide) ht hv ?_
      refine gs_0 (pc' := 57) (L' := [some (.ref l0), some (.ref l1), some (.int l2), some (.int l3)]) (st' := [.int l2, .ref q_7, .int x_6]) cd_225_56 rfl rfl ?_
      refine gs_0 (pc' := 58) (L' := [some (.ref l0), some (.ref l1), some (.int l2), some (.int l3)]) (st' := [.int l3, .int l2, .ref q_7, .int x_6]) cd_225_57 rfl rfl ?_
      refine gs_0 (pc' := 59) (L' := [some (.ref l0), some (.ref l1), some (.int l2), some (.int l3)]) (st' := [.int (l2 + l3), .ref q_7, .int x_6]) cd_225_58 rfl rfl ?_
      obtain ⟨ht, h⟩ := gA_s h
      refine gs_iald cd_225_59 ht ?_
      refine gs_0 (pc' := if x_6 = (I_4 q_7 (l2 + l3 : Int32).toNatClampNeg) then 67 else 63) (L' := [some (.ref l0), some (.ref l1), some (.int l2), some (.int l3)]) (st' := []) cd_225_60 rfl rfl ?_
      refine go_ite (fun hc => ?_) (fun hc => ?_)
      · rw [if_pos hc] at h
        refine gs_0 (pc' := 70) (L' := [some (.ref l0), some (.ref l1), some (.int l2), some (.int (l3 + 1))]) (st' := []) cd_225_67 rfl rfl ?_
        obtain ⟨x_8, hx, h⟩ := lt_s_ h
        rw [hx]
        clear hx
        refine gs_0 (pc' := 38) (L' := [some (.ref l0), some (.ref l1), some (.int l2), some (.int x_8)]) (st' := []) cd_225_70 rfl rfl ?_
        exact hr38 l0 l1 l2 x_8 _ _ _ _ h
      · rw [if_neg hc] at h
        refine gs_0 (pc' := 64) (L' := [some (.ref l0), some (.ref l1), some (.int l2), some (.int l3)]) (st' := [.int l2]) cd_225_63 rfl rfl ?_
        refine gs_0 (pc' := 65) (L' := [some (.ref l0), some (.ref l1), some (.int l2), some (.int l3)]) (st' := [.int l3, .int l2]) cd_225_64 rfl rfl ?_
        refine gs_0 (pc' := 66) (L' := [some (.ref l0), some (.ref l1), some (.int l2), some (.int l3)]) (st' := [.int (l2 + l3)]) cd_225_65 rfl rfl ?_
        cases h
        exact gs_ri cd_225_66 (Or.inl rfl)
noncomputable def f_225_2 (K : Nat → Value) (k : Nat) (d : Nat) : Nat → Nat → Int32 → aW → aI → aJ → Option aR :=
  match k with
  | 0 => fun _ _ _ _ _ _ => none
  | k + 1 => fun l0 l1 l2 w I J =>
  lt_ (f_225_2 K k d) fun r2 =>
  gO w 3 l1 (
  if (I l1 2) ≤ l2 then
    some (some (.int (-1)), w, I, J)
  else
    gO w 3 l1 (
    cI (Cl K d 226 [.ref l1, .int l2, .int 4] w I J) fun x_4 w_1 I_2 J_3 =>
    if ¬ x_4 = 0 then
      gO w_1 5 l0 (
      gV w_1 l0 4 fun q_5 =>
      gO w_1 0 q_5 (
      cI (Cl K d 143 [.ref q_5] w_1 I_2 J_3) fun x_9 w_6 I_7 J_8 =>
      if ¬ x_9 = 0 then
        f_225_38 K k d r2 l0 l1 l2 0 w_6 I_7 J_8
      else
        some (some (.int l2), w_6, I_7, J_8)))
    else
      gO w_1 3 l1 (
      some (some (.int (I_2 l1 2)), w_1, I_2, J_3))))
theorem ok_225_2 {K : Nat → Value} {d : Nat} : ∀ {k : Nat} {l0 : Nat} {l1 : Nat} {l2 : Int32} {w : aW} {I : aI} {J : aJ} {R : aR}, f_225_2 K k d l0 l1 l2 w I J = some R → Go K (d + 1) 225 2 [some (.ref l0), some (.ref l1), some (.int l2), none] [] w I J R := by
  intro k
  induction k with
  | zero => intro l0 l1 l2 w I J R h; cases h
  | succ k ih =>
    intro l0 l1 l2 w I J R h
    have hr2 : ∀ (l0 : Nat) (l1 : Nat) (l2 : Int32) (w : aW) (I : aI) (J : aJ) (R : aR), f_225_2 K k d l0 l1 l2 w I J = some R → Go K (d + 1) 225 2 [some (.ref l0), some (.ref l1), some (.int l2), none] [] w I J R := fun l0 l1 l2 w I J R h => ih h
    rw [f_225_2] at h
    obtain ⟨r2, hx, h⟩ := lt_s_ h
    rw [hx] at hr2
    clear hx ih
    refine gs_0 (pc' := 3) (L' := [some (.ref l0), some (.ref l1), some (.int l2), none]) (st' := [.int l2]) cd_225_2 rfl rfl ?_
    refine gs_0 (pc' := 4) (L' := [some (.ref l0), some (.ref l1), some (.int l2), none]) (st' := [.ref l1, .int l2]) cd_225_3 rfl rfl ?_
    obtain ⟨ht, h⟩ := gO_s h
    refine gs_gfI cd_225_4 (by decide) (by decide) ht ?_
    refine gs_0 (pc' := if (I l1 2) ≤ l2 then 79 else 10) (L' := [some (.ref l0), some (.ref l1), some (.int l2), none]) (st' := []) cd_225_7 rfl rfl ?_
    refine go_ite (fun hc => ?_) (fun hc => ?_)
    · rw [if_pos hc] at h
      refine gs_0 (pc' := 80) (L' := [some (.ref l0), some (.ref l1), some (.int l2), none]) (st' := [.int ((-1))]) cd_225_79 rfl rfl ?_
      cases h
      exact gs_ri cd_225_80 (Or.inl rfl)
    · rw [if_neg hc] at h
      refine gs_0 (pc' := 11) (L' := [some (.ref l0), some (.ref l1), some (.int l2), none]) (st' := [.ref l1]) cd_225_10 rfl rfl ?_
      refine gs_0 (pc' := 12) (L' := [some (.ref l0), some (.ref l1), some (.int l2), none]) (st' := [.int l2, .ref l1]) cd_225_11 rfl rfl ?_
      refine gs_0 (pc' := 13) (L' := [some (.ref l0), some (.ref l1), some (.int l2), none]) (st' := [.int 4, .int l2, .ref l1]) cd_225_12 rfl rfl ?_
      obtain ⟨ht, h⟩ := gO_s h
      obtain ⟨x_4, w_1, I_2, J_3, hcl, h⟩ := cI_s h
      refine gs_call (as := [.ref l1, .int l2, .int 4]) (rest := []) cd_225_13 rfl (by decide) rfl (sm_rv_ok (by decide) ht) (Nat.le_of_ble_eq_true rfl) (Nat.le_of_ble_eq_true rfl) rfl hcl ?_
      refine gs_0 (pc' := if ¬ x_4 = 0 then 24 else 19) (L' := [some (.ref l0), some (.ref l1), some (.int l2), none]) (st' := []) cd_225_16 rfl rfl ?_
      refine go_ite (fun hc => ?_) (fun hc => ?_)
      · rw [if_pos hc] at h
        refine gs_0 (pc' := 25) (L' := [some (.ref l0), some (.ref l1), some (.int l2), none]) (st' := [.ref l0]) cd_225_24 rfl rfl ?_
        obtain ⟨ht, h⟩ := gO_s h
        obtain ⟨q_5, hv, h⟩ := gV_s h
        refine gs_gfR cd_225_25 (by decide) ht hv ?_
        obtain ⟨ht, h⟩ := gO_s h
        obtain ⟨x_9, w_6, I_7, J_8, hcl, h⟩ := cI_s h
        refine gs_call (as := [.ref q_5]) (rest := []) cd_225_28 rfl (by decide) rfl (sm_rv_ok (by decide) ht) (Nat.le_of_ble_eq_true rfl) (Nat.le_of_ble_eq_true rfl) rfl hcl ?_
        refine gs_0 (pc' := if ¬ x_9 = 0 then 36 else 34) (L' := [some (.ref l0), some (.ref l1), some (.int l2), none]) (st' := []) cd_225_31 rfl rfl ?_
        refine go_ite (fun hc => ?_) (fun hc => ?_)
        · rw [if_pos hc] at h
          refine gs_0 (pc' := 37) (L' := [some (.ref l0), some (.ref l1), some (.int l2), none]) (st' := [.int 0]) cd_225_36 rfl rfl ?_
          refine gs_0 (pc' := 38) (L' := [some (.ref l0), some (.ref l1), some (.int l2), some (.int 0)]) (st' := []) cd_225_37 rfl rfl ?_
          exact ok_225_38 hr2 h
        · rw [if_neg hc] at h
          refine gs_0 (pc' := 35) (L' := [some (.ref l0), some (.ref l1), some (.int l2), none]) (st' := [.int l2]) cd_225_34 rfl rfl ?_
          cases h
          exact gs_ri cd_225_35 (Or.inl rfl)
      · rw [if_neg hc] at h
        refine gs_0 (pc' := 20) (L' := [some (.ref l0), some (.ref l1), some (.int l2), none]) (st' := [.ref l1]) cd_225_19 rfl rfl ?_
        obtain ⟨ht, h⟩ := gO_s h
        refine gs_gfI cd_225_20 (by decide) (by decide) ht ?_
        cases h
        exact gs_ri cd_225_23 (Or.inl rfl)
noncomputable def f_225 (K : Nat → Value) (k d : Nat) (l0 : Nat) (l1 : Nat) (w : aW) (I : aI) (J : aJ) : Option aR :=
  f_225_2 K k d l0 l1 0 w I J
theorem ok_225 {K : Nat → Value} {k d : Nat} {l0 : Nat} {l1 : Nat} {w : aW} {I : aI} {J : aJ} {R : aR} (h : f_225 K k d l0 l1 w I J = some R) : Go K (d + 1) 225 0 [some (.ref l0), some (.ref l1), none, none] [] w I J R := by
  unfold f_225 at h
  refine gs_0 (pc' := 1) (L' := [some (.ref l0), some (.ref l1), none, none]) (st' := [.int 0]) cd_225_0 rfl rfl ?_
  refine gs_0 (pc' := 2) (L' := [some (.ref l0), some (.ref l1), some (.int 0), none]) (st' := []) cd_225_1 rfl rfl ?_
  exact ok_225_2 h
theorem cl_225 {K : Nat → Value} {k d : Nat} {l0 : Nat} {l1 : Nat} {w : aW} {I : aI} {J : aJ} {R : aR} (h : f_225 K k d l0 l1 w I J = some R) : Cl K (d + 1) 225 [.ref l0, .ref l1] w I J = some R := Cl_of (ok_225 h)
/-! ProvedMachine$Sheet.has(II)Z -/
set_option maxRecDepth 20000 in
theorem gl_226 : gcd.lookup 226 = some gw_226 := rfl
theorem cd_226_0 : sm_cd 226 0 = some (.iload_n 1, 1, 1, 0, 0, 0, 0, 0, 0) := cd_of gl_226 rfl
theorem cd_226_1 : sm_cd 226 1 = some (.ifCond .lt 29, 3, 30, 0, 0, 0, 0, 0, 0) := cd_of gl_226 rfl
theorem cd_226_4 : sm_cd 226 4 = some (.iload_n 2, 1, 2, 0, 0, 0, 0, 0, 0) := cd_of gl_226 rfl
theorem cd_226_5 : sm_cd 226 5 = some (.ifCond .lt 25, 3, 30, 0, 0, 0, 0, 0, 0) := cd_of gl_226 rfl
theorem cd_226_8 : sm_cd 226 8 = some (.iload_n 1, 1, 1, 0, 0, 0, 0, 0, 0) := cd_of gl_226 rfl
theorem cd_226_9 : sm_cd 226 9 = some (.aload_n 0, 1, 0, 0, 0, 0, 0, 0, 0) := cd_of gl_226 rfl
theorem cd_226_10 : sm_cd 226 10 = some (.getfield 17, 3, 3, 2, 0, 0, 0, 0, 0) := cd_of gl_226 rfl
theorem cd_226_13 : sm_cd 226 13 = some (.if_icmp .gt 17, 3, 30, 0, 0, 0, 0, 0, 0) := cd_of gl_226 rfl
theorem cd_226_16 : sm_cd 226 16 = some (.iload_n 2, 1, 2, 0, 0, 0, 0, 0, 0) := cd_of gl_226 rfl
theorem cd_226_17 : sm_cd 226 17 = some (.aload_n 0, 1, 0, 0, 0, 0, 0, 0, 0) := cd_of gl_226 rfl
theorem cd_226_18 : sm_cd 226 18 = some (.getfield 17, 3, 3, 2, 0, 0, 0, 0, 0) := cd_of gl_226 rfl
theorem cd_226_21 : sm_cd 226 21 = some (.iload_n 1, 1, 1, 0, 0, 0, 0, 0, 0) := cd_of gl_226 rfl
theorem cd_226_22 : sm_cd 226 22 = some (.isub, 1, 0, 0, 0, 0, 0, 0, 0) := cd_of gl_226 rfl
theorem cd_226_23 : sm_cd 226 23 = some (.if_icmp .gt 7, 3, 30, 0, 0, 0, 0, 0, 0) := cd_of gl_226 rfl
theorem cd_226_26 : sm_cd 226 26 = some (.iconst 1, 1, 0, 0, 0, 0, 0, 1, 0) := cd_of gl_226 rfl
theorem cd_226_27 : sm_cd 226 27 = some (.goto 4, 3, 31, 0, 0, 0, 0, 0, 0) := cd_of gl_226 rfl
theorem cd_226_30 : sm_cd 226 30 = some (.iconst 0, 1, 0, 0, 0, 0, 0, 0, 0) := cd_of gl_226 rfl
theorem cd_226_31 : sm_cd 226 31 = some (.ireturn, 1, 0, 0, 2, 0, 0, 0, 0) := cd_of gl_226 rfl
noncomputable def f_226 (K : Nat → Value) (k d : Nat) (l0 : Nat) (l1 : Int32) (l2 : Int32) (w : aW) (I : aI) (J : aJ) : Option aR :=
  if l1 < 0 then
    some (some (.int 0), w, I, J)
  else
    if l2 < 0 then
      some (some (.int 0), w, I, J)
    else
      gO w 3 l0 (
      if (I l0 2) < l1 then
        some (some (.int 0), w, I, J)
      else
        gO w 3 l0 (
        if ((I l0 2) - l1) < l2 then
          some (some (.int 0), w, I, J)
        else
          some (some (.int 1), w, I, J)))
theorem ok_226 {K : Nat → Value} {k d : Nat} {l0 : Nat} {l1 : Int32} {l2 : Int32} {w : aW} {I : aI} {J : aJ} {R : aR} (h : f_226 K k d l0 l1 l2 w I J = some R) : Go K (d + 1) 226 0 [some (.ref l0), some (.int l1), some (.int l2)] [] w I J R := by
  unfold f_226 at h
  refine gs_0 (pc' := 1) (L' := [some (.ref l0), some (.int l1), some (.int l2)]) (st' := [.int l1]) cd_226_0 rfl rfl ?_
  refine gs_0 (pc' := if l1 < 0 then 30 else 4) (L' := [some (.ref l0), some (.int l1), some (.int l2)]) (st' := []) cd_226_1 rfl rfl ?_
  refine go_ite (fun hc => ?_) (fun hc => ?_)
  · rw [if_pos hc] at h
    refine gs_0 (pc' := 31) (L' := [some (.ref l0), some (.int l1), some (.int l2)]) (st' := [.int 0]) cd_226_30 rfl rfl ?_
    cases h
    exact gs_ri cd_226_31 (Or.inr (Or.inl ⟨rfl, Or.inl rfl⟩))
  · rw [if_neg hc] at h
    refine gs_0 (pc' := 5) (L' := [some (.ref l0), some (.int l1), some (.int l2)]) (st' := [.int l2]) cd_226_4 rfl rfl ?_
    refine gs_0 (pc' := if l2 < 0 then 30 else 8) (L' := [some (.ref l0), some (.int l1), some (.int l2)]) (st' := []) cd_226_5 rfl rfl ?_
    refine go_ite (fun hc => ?_) (fun hc => ?_)
    · rw [if_pos hc] at h
      refine gs_0 (pc' := 31) (L' := [some (.ref l0), some (.int l1), some (.int l2)]) (st' := [.int 0]) cd_226_30 rfl rfl ?_
      cases h
      exact gs_ri cd_226_31 (Or.inr (Or.inl ⟨rfl, Or.inl rfl⟩))
    · rw [if_neg hc] at h
      refine gs_0 (pc' := 9) (L' := [some (.ref l0), some (.int l1), some (.int l2)]) (st' := [.int l1]) cd_226_8 rfl rfl ?_
      refine gs_0 (pc' := 10) (L' := [some (.ref l0), some (.int l1), some (.int l2)]) (st' := [.ref l0, .int l1]) cd_226_9 rfl rfl ?_
      obtain ⟨ht, h⟩ := gO_s h
      refine gs_gfI cd_226_10 (by decide) (by decide) ht ?_
      refine gs_0 (pc' := if (I l0 2) < l1 then 30 else 16) (L' := [some (.ref l0), some (.int l1), some (.int l2)]) (st' := []) cd_226_13 rfl rfl ?_
      refine go_ite (fun hc => ?_) (fun hc => ?_)
      · rw [if_pos hc] at h
        refine gs_0 (pc' := 31) (L' := [some (.ref l0), some (.int l1), some (.int l2)]) (st' := [.int 0]) cd_226_30 rfl rfl ?_
        cases h
        exact gs_ri cd_226_31 (Or.inr (Or.inl ⟨rfl, Or.inl rfl⟩))
      · rw [if_neg hc] at h
        refine gs_0 (pc' := 17) (L' := [some (.ref l0), some (.int l1), some (.int l2)]) (st' := [.int l2]) cd_226_16 rfl rfl ?_
        refine gs_0 (pc' := 18) (L' := [some (.ref l0), some (.int l1), some (.int l2)]) (st' := [.ref l0, .int l2]) cd_226_17 rfl rfl ?_
        obtain ⟨ht, h⟩ := gO_s h
        refine gs_gfI cd_226_18 (by decide) (by decide) ht ?_
        refine gs_0 (pc' := 22) (L' := [some (.ref l0), some (.int l1), some (.int l2)]) (st' := [.int l1, .int (I l0 2), .int l2]) cd_226_21 rfl rfl ?_
        refine gs_0 (pc' := 23) (L' := [some (.ref l0), some (.int l1), some (.int l2)]) (st' := [.int ((I l0 2) - l1), .int l2]) cd_226_22 rfl rfl ?_
        refine gs_0 (pc' := if ((I l0 2) - l1) < l2 then 30 else 26) (L' := [some (.ref l0), some (.int l1), some (.int l2)]) (st' := []) cd_226_23 rfl rfl ?_
        refine go_ite (fun hc => ?_) (fun hc => ?_)
        · rw [if_pos hc] at h
          refine gs_0 (pc' := 31) (L' := [some (.ref l0), some (.int l1), some (.int l2)]) (st' := [.int 0]) cd_226_30 rfl rfl ?_
          cases h
          exact gs_ri cd_226_31 (Or.inr (Or.inl ⟨rfl, Or.inl rfl⟩))
        · rw [if_neg hc] at h
          refine gs_0 (pc' := 27) (L' := [some (.ref l0), some (.int l1), some (.int l2)]) (st' := [.int 1]) cd_226_26 rfl rfl ?_
          refine gs_0 (pc' := 31) (L' := [some (.ref l0), some (.int l1), some (.int l2)]) (st' := [.int 1]) cd_226_27 rfl rfl ?_
          cases h
          exact gs_ri cd_226_31 (Or.inr (Or.inl ⟨rfl, Or.inr rfl⟩))
theorem cl_226 {K : Nat → Value} {k d : Nat} {l0 : Nat} {l1 : Int32} {l2 : Int32} {w : aW} {I : aI} {J : aJ} {R : aR} (h : f_226 K k d l0 l1 l2 w I J = some R) : Cl K (d + 1) 226 [.ref l0, .int l1, .int l2] w I J = some R := Cl_of (ok_226 h)
/-! ProvedMachine$Machine.restore()V -/
set_option maxRecDepth 20000 in
theorem gl_227 : gcd.lookup 227 = some gw_227 := rfl
theorem cd_227_0 : sm_cd 227 0 = some (.aload_n 0, 1, 0, 0, 0, 0, 0, 0, 0) := cd_of gl_227 rfl
theorem cd_227_1 : sm_cd 227 1 = some (.getfield 17, 3, 0, 2, 2, 0, 0, 0, 0) := cd_of gl_227 rfl
theorem cd_227_4 : sm_cd 227 4 = some (.iconst 0, 1, 0, 0, 0, 0, 0, 0, 0) := cd_of gl_227 rfl
theorem cd_227_5 : sm_cd 227 5 = some (.aload_n 0, 1, 0, 0, 0, 0, 0, 0, 0) := cd_of gl_227 rfl
theorem cd_227_6 : sm_cd 227 6 = some (.getfield 13, 3, 0, 1, 2, 0, 0, 0, 0) := cd_of gl_227 rfl
theorem cd_227_9 : sm_cd 227 9 = some (.iconst 0, 1, 0, 0, 0, 0, 0, 0, 0) := cd_of gl_227 rfl
theorem cd_227_10 : sm_cd 227 10 = some (.sipush 327, 3, 0, 0, 0, 0, 0, 327, 0) := cd_of gl_227 rfl
theorem cd_227_13 : sm_cd 227 13 = some (.invokestatic 96, 3, 0, 4, 0, 0, 0, 0, 0) := cd_of gl_227 rfl
theorem cd_227_16 : sm_cd 227 16 = some (.return_, 1, 0, 0, 0, 0, 0, 0, 0) := cd_of gl_227 rfl
noncomputable def f_227 (K : Nat → Value) (k d : Nat) (l0 : Nat) (w : aW) (I : aI) (J : aJ) : Option aR :=
  gO w 0 l0 (
  gV w l0 2 fun q_1 =>
  gO w 0 l0 (
  gV w l0 1 fun q_2 =>
  gY w q_1 q_2 0 0 327 (
  lt_ (sm_up1 I q_2 (va_cpy (I q_1) (I q_2) (0 : Int32).toNatClampNeg (0 : Int32).toNatClampNeg (327 : Int32).toNatClampNeg)) fun I_3 =>
  some (none, w, I_3, J))))
theorem ok_227 {K : Nat → Value} {k d : Nat} {l0 : Nat} {w : aW} {I : aI} {J : aJ} {R : aR} (h : f_227 K k d l0 w I J = some R) : Go K (d + 1) 227 0 [some (.ref l0)] [] w I J R := by
  unfold f_227 at h
  refine gs_0 (pc' := 1) (L' := [some (.ref l0)]) (st' := [.ref l0]) cd_227_0 rfl rfl ?_
  obtain ⟨ht, h⟩ := gO_s h
  obtain ⟨q_1, hv, h⟩ := gV_s h
  refine gs_gfR cd_227_1 (by decide) ht hv ?_
  refine gs_0 (pc' := 5) (L' := [some (.ref l0)]) (st' := [.int 0, .ref q_1]) cd_227_4 rfl rfl ?_
  refine gs_0 (pc' := 6) (L' := [some (.ref l0)]) (st' := [.ref l0, .int 0, .ref q_1]) cd_227_5 rfl rfl ?_
  obtain ⟨ht, h⟩ := gO_s h
  obtain ⟨q_2, hv, h⟩ := gV_s h
  refine gs_gfR cd_227_6 (by decide) ht hv ?_
  refine gs_0 (pc' := 10) (L' := [some (.ref l0)]) (st' := [.int 0, .ref q_2, .int 0, .ref q_1]) cd_227_9 rfl rfl ?_
  refine gs_0 (pc' := 13) (L' := [some (.ref l0)]) (st' := [.int 327, .int 0, .ref q_2, .int 0, .ref q_1]) cd_227_10 rfl rfl ?_
  obtain ⟨n1, n2, h1, h2, hc, h⟩ := gY_s h
  refine gs_acp cd_227_13 h1 h2 hc (Nat.le_of_ble_eq_true rfl) ?_
  obtain ⟨I_3, hx, h⟩ := lt_s_ h
  rw [hx]
  cases h
  exact gsr cd_227_16 rfl rfl
theorem cl_227 {K : Nat → Value} {k d : Nat} {l0 : Nat} {w : aW} {I : aI} {J : aJ} {R : aR} (h : f_227 K k d l0 w I J = some R) : Cl K (d + 1) 227 [.ref l0] w I J = some R := Cl_of (ok_227 h)
/-! ProvedMachineModel.proves(I)J -/
set_option maxRecDepth 20000 in
theorem gl_228 : gcd.lookup 228 = some gw_228 := rfl
theorem cd_228_0 : sm_cd 228 0 = some (.iload_n 1, 1, 1, 0, 0, 0, 0, 0, 0) := cd_of gl_228 rfl
theorem cd_228_1 : sm_cd 228 1 = some (.invokestatic 431, 3, 229, 1, 1, 1, 6, 0, 0) := cd_of gl_228 rfl
theorem cd_228_4 : sm_cd 228 4 = some (.ifCond .ne 9, 3, 13, 0, 0, 0, 0, 0, 0) := cd_of gl_228 rfl
theorem cd_228_7 : sm_cd 228 7 = some (.aload_n 0, 1, 0, 0, 0, 0, 0, 0, 0) := cd_of gl_228 rfl
theorem cd_228_8 : sm_cd 228 8 = some (.iconst 1, 1, 0, 0, 0, 0, 0, 1, 0) := cd_of gl_228 rfl
theorem cd_228_9 : sm_cd 228 9 = some (.invokevirtual 148, 3, 20, 0, 1, 2, 6, 0, 0) := cd_of gl_228 rfl
theorem cd_228_12 : sm_cd 228 12 = some (.lreturn, 1, 0, 0, 0, 0, 0, 0, 0) := cd_of gl_228 rfl
theorem cd_228_13 : sm_cd 228 13 = some (.aload_n 0, 1, 0, 0, 0, 0, 0, 0, 0) := cd_of gl_228 rfl
theorem cd_228_14 : sm_cd 228 14 = some (.getfield 130, 3, 6, 44, 2, 0, 0, 0, 0) := cd_of gl_228 rfl
theorem cd_228_17 : sm_cd 228 17 = some (.iload_n 1, 1, 1, 0, 0, 0, 0, 0, 0) := cd_of gl_228 rfl
theorem cd_228_18 : sm_cd 228 18 = some (.iaload, 1, 0, 0, 0, 0, 0, 0, 0) := cd_of gl_228 rfl
theorem cd_228_19 : sm_cd 228 19 = some (.ifCond .ne 9, 3, 28, 0, 0, 0, 0, 0, 0) := cd_of gl_228 rfl
theorem cd_228_22 : sm_cd 228 22 = some (.aload_n 0, 1, 0, 0, 0, 0, 0, 0, 0) := cd_of gl_228 rfl
theorem cd_228_23 : sm_cd 228 23 = some (.iconst 2, 1, 0, 0, 0, 0, 0, 2, 0) := cd_of gl_228 rfl
theorem cd_228_24 : sm_cd 228 24 = some (.invokevirtual 148, 3, 20, 0, 1, 2, 6, 0, 0) := cd_of gl_228 rfl
theorem cd_228_27 : sm_cd 228 27 = some (.lreturn, 1, 0, 0, 0, 0, 0, 0, 0) := cd_of gl_228 rfl
theorem cd_228_28 : sm_cd 228 28 = some (.aload_n 0, 1, 0, 0, 0, 0, 0, 0, 0) := cd_of gl_228 rfl
theorem cd_228_29 : sm_cd 228 29 = some (.getfield 130, 3, 6, 44, 2, 0, 0, 0, 0) := cd_of gl_228 rfl
theorem cd_228_32 : sm_cd 228 32 = some (.iload_n 1, 1, 1, 0, 0, 0, 0, 0, 0) := cd_of gl_228 rfl
theorem cd_228_33 : sm_cd 228 33 = some (.iaload, 1, 0, 0, 0, 0, 0, 0, 0) := cd_of gl_228 rfl
theorem cd_228_34 : sm_cd 228 34 = some (.bipush 32, 2, 0, 0, 0, 0, 0, 32, 0) := cd_of gl_228 rfl
theorem cd_228_36 : sm_cd 228 36 = some (.if_icmp .eq 9, 3, 45, 0, 0, 0, 0, 0, 0) := cd_of gl_228 rfl
theorem cd_228_39 : sm_cd 228 39 = some (.aload_n 0, 1, 0, 0, 0, 0, 0, 0, 0) := cd_of gl_228 rfl
theorem cd_228_40 : sm_cd 228 40 = some (.iconst 4, 1, 0, 0, 0, 0, 0, 4, 0) := cd_of gl_228 rfl
theorem cd_228_41 : sm_cd 228 41 = some (.invokevirtual 148, 3, 20, 0, 1, 2, 6, 0, 0) := cd_of gl_228 rfl
theorem cd_228_44 : sm_cd 228 44 = some (.lreturn, 1, 0, 0, 0, 0, 0, 0, 0) := cd_of gl_228 rfl
theorem cd_228_45 : sm_cd 228 45 = some (.aload_n 0, 1, 0, 0, 0, 0, 0, 0, 0) := cd_of gl_228 rfl
theorem cd_228_46 : sm_cd 228 46 = some (.getfield 333, 3, 6, 42, 1, 0, 0, 0, 0) := cd_of gl_228 rfl
theorem cd_228_49 : sm_cd 228 49 = some (.ifCond .ne 10, 3, 59, 0, 0, 0, 0, 0, 0) := cd_of gl_228 rfl
theorem cd_228_52 : sm_cd 228 52 = some (.aload_n 0, 1, 0, 0, 0, 0, 0, 0, 0) := cd_of gl_228 rfl
theorem cd_228_53 : sm_cd 228 53 = some (.bipush 6, 2, 0, 0, 0, 0, 0, 6, 0) := cd_of gl_228 rfl
theorem cd_228_55 : sm_cd 228 55 = some (.invokevirtual 148, 3, 20, 0, 1, 2, 6, 0, 0) := cd_of gl_228 rfl
theorem cd_228_58 : sm_cd 228 58 = some (.lreturn, 1, 0, 0, 0, 0, 0, 0, 0) := cd_of gl_228 rfl
theorem cd_228_59 : sm_cd 228 59 = some (.aload_n 0, 1, 0, 0, 0, 0, 0, 0, 0) := cd_of gl_228 rfl
theorem cd_228_60 : sm_cd 228 60 = some (.getfield 111, 3, 6, 36, 2, 0, 0, 0, 0) := cd_of gl_228 rfl
theorem cd_228_63 : sm_cd 228 63 = some (.iconst 0, 1, 0, 0, 0, 0, 0, 0, 0) := cd_of gl_228 rfl
theorem cd_228_64 : sm_cd 228 64 = some (.iaload, 1, 0, 0, 0, 0, 0, 0, 0) := cd_of gl_228 rfl
theorem cd_228_65 : sm_cd 228 65 = some (.ifCond .eq 10, 3, 75, 0, 0, 0, 0, 0, 0) := cd_of gl_228 rfl
theorem cd_228_68 : sm_cd 228 68 = some (.aload_n 0, 1, 0, 0, 0, 0, 0, 0, 0) := cd_of gl_228 rfl
theorem cd_228_69 : sm_cd 228 69 = some (.bipush 7, 2, 0, 0, 0, 0, 0, 7, 0) := cd_of gl_228 rfl
theorem cd_228_71 : sm_cd 228 71 = some (.invokevirtual 148, 3, 20, 0, 1, 2, 6, 0, 0) := cd_of gl_228 rfl
theorem cd_228_74 : sm_cd 228 74 = some (.lreturn, 1, 0, 0, 0, 0, 0, 0, 0) := cd_of gl_228 rfl
theorem cd_228_75 : sm_cd 228 75 = some (.aload_n 0, 1, 0, 0, 0, 0, 0, 0, 0) := cd_of gl_228 rfl
theorem cd_228_76 : sm_cd 228 76 = some (.getfield 111, 3, 6, 36, 2, 0, 0, 0, 0) := cd_of gl_228 rfl
theorem cd_228_79 : sm_cd 228 79 = some (.iconst 0, 1, 0, 0, 0, 0, 0, 0, 0) := cd_of gl_228 rfl
theorem cd_228_80 : sm_cd 228 80 = some (.aload_n 0, 1, 0, 0, 0, 0, 0, 0, 0) := cd_of gl_228 rfl
theorem cd_228_81 : sm_cd 228 81 = some (.getfield 114, 3, 6, 37, 2, 0, 0, 0, 0) := cd_of gl_228 rfl
theorem cd_228_84 : sm_cd 228 84 = some (.iconst 0, 1, 0, 0, 0, 0, 0, 0, 0) := cd_of gl_228 rfl
theorem cd_228_85 : sm_cd 228 85 = some (.sipush 360, 3, 0, 0, 0, 0, 0, 360, 0) := cd_of gl_228 rfl
theorem cd_228_88 : sm_cd 228 88 = some (.invokestatic 418, 3, 177, 1, 5, 6, 6, 0, 0) := cd_of gl_228 rfl
theorem cd_228_91 : sm_cd 228 91 = some (.aload_n 0, 1, 0, 0, 0, 0, 0, 0, 0) := cd_of gl_228 rfl
theorem cd_228_92 : sm_cd 228 92 = some (.iload_n 1, 1, 1, 0, 0, 0, 0, 0, 0) := cd_of gl_228 rfl
theorem cd_228_93 : sm_cd 228 93 = some (.invokevirtual 434, 3, 230, 0, 1, 4, 6, 0, 0) := cd_of gl_228 rfl
theorem cd_228_96 : sm_cd 228 96 = some (.istore_n 2, 1, 2, 0, 0, 0, 0, 0, 0) := cd_of gl_228 rfl
theorem cd_228_97 : sm_cd 228 97 = some (.aload_n 0, 1, 0, 0, 0, 0, 0, 0, 0) := cd_of gl_228 rfl
theorem cd_228_98 : sm_cd 228 98 = some (.getfield 114, 3, 6, 37, 2, 0, 0, 0, 0) := cd_of gl_228 rfl
theorem cd_228_101 : sm_cd 228 101 = some (.iconst 0, 1, 0, 0, 0, 0, 0, 0, 0) := cd_of gl_228 rfl
theorem cd_228_102 : sm_cd 228 102 = some (.aload_n 0, 1, 0, 0, 0, 0, 0, 0, 0) := cd_of gl_228 rfl
theorem cd_228_103 : sm_cd 228 103 = some (.getfield 111, 3, 6, 36, 2, 0, 0, 0, 0) := cd_of gl_228 rfl
theorem cd_228_106 : sm_cd 228 106 = some (.iconst 0, 1, 0, 0, 0, 0, 0, 0, 0) := cd_of gl_228 rfl
theorem cd_228_107 : sm_cd 228 107 = some (.sipush 360, 3, 0, 0, 0, 0, 0, 360, 0) := cd_of gl_228 rfl
theorem cd_228_110 : sm_cd 228 110 = some (.invokestatic 418, 3, 177, 1, 5, 6, 6, 0, 0) := cd_of gl_228 rfl
theorem cd_228_113 : sm_cd 228 113 = some (.iload_n 2, 1, 2, 0, 0, 0, 0, 0, 0) := cd_of gl_228 rfl
theorem cd_228_114 : sm_cd 228 114 = some (.i2l, 1, 0, 0, 0, 0, 0, 0, 0) := cd_of gl_228 rfl
theorem cd_228_115 : sm_cd 228 115 = some (.lreturn, 1, 0, 0, 0, 0, 0, 0, 0) := cd_of gl_228 rfl
noncomputable def f_228 (K : Nat → Value) (k d : Nat) (l0 : Nat) (l1 : Int32) (w : aW) (I : aI) (J : aJ) : Option aR :=
  cI (Cl K d 229 [.int l1] w I J) fun x_4 w_1 I_2 J_3 =>
  if ¬ x_4 = 0 then
    gO w_1 6 l0 (
    gV w_1 l0 44 fun q_5 =>
    gA w_1 10 20 q_5 l1 (
    if ¬ (I_2 q_5 (l1 : Int32).toNatClampNeg) = 0 then
      gO w_1 6 l0 (
      gV w_1 l0 44 fun q_6 =>
      gA w_1 10 20 q_6 l1 (
      if (I_2 q_6 (l1 : Int32).toNatClampNeg) = 32 then
        gO w_1 6 l0 (
        if ¬ (I_2 l0 42) = 0 then
          gO w_1 6 l0 (
          gV w_1 l0 36 fun q_7 =>
          gA w_1 10 20 q_7 0 (
          if (I_2 q_7 (0 : Int32).toNatClampNeg) = 0 then
            gO w_1 6 l0 (
            gV w_1 l0 36 fun q_8 =>
            gO w_1 6 l0 (
            gV w_1 l0 37 fun q_9 =>
            cV (Cl K d 177 [.ref q_8, .int 0, .ref q_9, .int 0, .int 360] w_1 I_2 J_3) fun w_10 I_11 J_12 =>
            gO w_10 6 l0 (
            cI (Cl K d 230 [.ref l0, .int l1] w_10 I_11 J_12) fun x_16 w_13 I_14 J_15 =>
            gO w_13 6 l0 (
            gV w_13 l0 37 fun q_17 =>
            gO w_13 6 l0 (
            gV w_13 l0 36 fun q_18 =>
            cV (Cl K d 177 [.ref q_17, .int 0, .ref q_18, .int 0, .int 360] w_13 I_14 J_15) fun w_19 I_20 J_21 =>
            some (some (.long ((x_16 : Int32).toInt64)), w_19, I_20, J_21))))))
          else
            gO w_1 6 l0 (
            cJ (Cl K d 20 [.ref l0, .int 7] w_1 I_2 J_3) fun v_25 w_22 I_23 J_24 =>
            some (some (.long v_25), w_22, I_23, J_24))))
        else
          gO w_1 6 l0 (
          cJ (Cl K d 20 [.ref l0, .int 6] w_1 I_2 J_3) fun v_29 w_26 I_27 J_28 =>
          some (some (.long v_29), w_26, I_27, J_28)))
      else
        gO w_1 6 l0 (
        cJ (Cl K d 20 [.ref l0, .int 4] w_1 I_2 J_3) fun v_33 w_30 I_31 J_32 =>
        some (some (.long v_33), w_30, I_31, J_32))))
    else
      gO w_1 6 l0 (
      cJ (Cl K d 20 [.ref l0, .int 2] w_1 I_2 J_3) fun v_37 w_34 I_35 J_36 =>
      some (some (.long v_37), w_34, I_35, J_36))))
  else
    gO w_1 6 l0 (
    cJ (Cl K d 20 [.ref l0, .int 1] w_1 I_2 J_3) fun v_41 w_38 I_39 J_40 =>
    some (some (.long v_41), w_38, I_39, J_40))
theorem ok_228 {K : Nat → Value} {k d : Nat} {l0 : Nat} {l1 : Int32} {w : aW} {I : aI} {J : aJ} {R : aR} (h : f_228 K k d l0 l1 w I J = some R) : Go K (d + 1) 228 0 [some (.ref l0), some (.int l1), none] [] w I J R := by
  unfold f_228 at h
  refine gs_0 (pc' := 1) (L' := [some (.ref l0), some (.int l1), none]) (st' := [.int l1]) cd_228_0 rfl rfl ?_
  obtain ⟨x_4, w_1, I_2, J_3, hcl, h⟩ := cI_s h
  refine gs_call (as := [.int l1]) (rest := []) cd_228_1 rfl (by decide) rfl rfl (Nat.le_of_ble_eq_true rfl) (Nat.le_of_ble_eq_true rfl) rfl hcl ?_
  refine gs_0 (pc' := if ¬ x_4 = 0 then 13 else 7) (L' := [some (.ref l0), some (.int l1), none]) (st' := []) cd_228_4 rfl rfl ?_
  refine go_ite (fun hc => ?_) (fun hc => ?_)
  · rw [if_pos hc] at h
    refine gs_0 (pc' := 14) (L' := [some (.ref l0), some (.int l1), none]) (st' := [.ref l0]) cd_228_13 rfl rfl ?_
    obtain ⟨ht, h⟩ := gO_s h
    obtain ⟨q_5, hv, h⟩ := gV_s h
    refine gs_gfR cd_228_14 (by decide) ht hv ?_
    refine gs_0 (pc' := 18) (L' := [some (.ref l0), some (.int l1), none]) (st' := [.int l1, .ref q_5]) cd_228_17 rfl rfl ?_
    obtain ⟨ht, h⟩ := gA_s h
    refine gs_iald cd_228_18 ht ?_
    refine gs_0 (pc' := if ¬ (I_2 q_5 (l1 : Int32).toNatClampNeg) = 0 then 28 else 22) (L' := [some (.ref l0), some (.int l1), none]) (st' := []) cd_228_19 rfl rfl ?_
    refine go_ite (fun hc => ?_) (fun hc => ?_)
    · rw [if_pos hc] at h
      refine gs_0 (pc' := 29) (L' := [some (.ref l0), some (.int l1), none]) (st' := [.ref l0]) cd_228_28 rfl rfl ?_
      obtain ⟨ht, h⟩ := gO_s h
      obtain ⟨q_6, hv, h⟩ := gV_s h
      refine gs_gfR cd_228_29 (by decide) ht hv ?_
      refine gs_0 (pc' := 33) (L' := [some (.ref l0), some (.int l1), none]) (st' := [.int l1, .ref q_6]) cd_228_32 rfl rfl ?_
      obtain ⟨ht, h⟩ := gA_s h
      refine gs_iald cd_228_33 ht ?_
      refine gs_0 (pc' := 36) (L' := [some (.ref l0), some (.int l1), none]) (st' := [.int 32, .int (I_2 q_6 (l1 : Int32).toNatClampNeg)]) cd_228_34 rfl rfl ?_
      refine gs_0 (pc' := if (I_2 q_6 (l1 : Int32).toNatClampNeg) = 32 then 45 else 39) (L' := [some (.ref l0), some (.int l1), none]) (st' := []) cd_228_36 rfl rfl ?_
      refine go_ite (fun hc => ?_) (fun hc => ?_)
      · rw [if_pos hc] at h
        refine gs_0 (pc' := 46) (L' := [some (.ref l0), some (.int l1), none]) (st' := [.ref l0]) cd_228_45 rfl rfl ?_
        obtain ⟨ht, h⟩ := gO_s h
        refine gs_gfI cd_228_46 (by decide) (by decide) ht ?_
        refine gs_0 (pc' := if ¬ (I_2 l0 42) = 0 then 59 else 52) (L' := [some (.ref l0), some (.int l1), none]) (st' := []) cd_228_49 rfl rfl ?_
        refine go_ite (fun hc => ?_) (fun hc => ?_)
        · rw [if_pos hc] at h
          refine gs_0 (pc' := 60) (L' := [some (.ref l0), some (.int l1), none]) (st' := [.ref l0]) cd_228_59 rfl rfl ?_
          obtain ⟨ht, h⟩ := gO_s h
          obtain ⟨q_7, hv, h⟩ := gV_s h
          refine gs_gfR cd_228_60 (by decide) ht hv ?_
          refine gs_0 (pc' := 64) (L' := [some (.ref l0), some (.int l1), none]) (st' := [.int 0, .ref q_7]) cd_228_63 rfl rfl ?_
          obtain ⟨ht, h⟩ := gA_s h
          refine gs_iald cd_228_64 ht ?_
          refine gs_0 (pc' := if (I_2 q_7 (0 : Int32).toNatClampNeg) = 0 then 75 else 68) (L' := [some (.ref l0), some (.int l1), none]) (st' := []) cd_228_65 rfl rfl ?_
          refine go_ite (fun hc => ?_) (fun hc => ?_)
          · rw [if_pos hc] at h
            refine gs_0 (pc' := 76) (L' := [some (.ref l0), some (.int l1), none]) (st' := [.ref l0]) cd_228_75 rfl rfl ?_
            obtain ⟨ht, h⟩ := gO_s h
            obtain ⟨q_8, hv, h⟩ := gV_s h
            refine gs_gfR cd_228_76 (by decide) ht hv ?_
            refine gs_0 (pc' := 80) (L' := [some (.ref l0), some (.int l1), none]) (st' := [.int 0, .ref q_8]) cd_228_79 rfl rfl ?_
            refine gs_0 (pc' := 81) (L' := [some (.ref l0), some (.int l1), none]) (st' := [.ref l0, .int 0, .ref q_8]) cd_228_80 rfl rfl ?_
            obtain ⟨ht, h⟩ := gO_s h
            obtain ⟨q_9, hv, h⟩ := gV_s h
            refine gs_gfR cd_228_81 (by decide) ht hv ?_
            refine gs_0 (pc' := 85) (L' := [some (.ref l0), some (.int l1), none]) (st' := [.int 0, .ref q_9, .int 0, .ref q_8]) cd_228_84 rfl rfl ?_
            refine gs_0 (pc' := 88) (L' := [some (.ref l0), some (.int l1), none]) (st' := [.int 360, .int 0, .ref q_9, .int 0, .ref q_8]) cd_228_85 rfl rfl ?_
            obtain ⟨w_10, I_11, J_12, hcl, h⟩ := cV_s h
            refine gs_call (as := [.ref q_8, .int 0, .ref q_9, .int 0, .int 360]) (rest := []) cd_228_88 rfl (by decide) rfl rfl (Nat.le_of_ble_eq_true rfl) (Nat.le_of_ble_eq_true rfl) rfl hcl ?_
            refine gs_0 (pc' := 92) (L' := [some (.ref l0), some (.int l1), none]) (st' := [.ref l0]) cd_228_91 rfl rfl ?_
            refine gs_0 (pc' := 93) (L' := [some (.ref l0), some (.int l1), none]) (st' := [.int l1, .ref l0]) cd_228_92 rfl rfl ?_
            obtain ⟨ht, h⟩ := gO_s h
            obtain ⟨x_16, w_13, I_14, J_15, hcl, h⟩ := cI_s h
            refine gs_call (as := [.ref l0, .int l1]) (rest := []) cd_228_93 rfl (by decide) rfl (sm_rv_ok (by decide) ht) (Nat.le_of_ble_eq_true rfl) (Nat.le_of_ble_eq_true rfl) rfl hcl ?_
            refine gs_0 (pc' := 97) (L' := [some (.ref l0), some (.int l1), some (.int x_16)]) (st' := []) cd_228_96 rfl rfl ?_
            refine gs_0 (pc' := 98) (L' := [some (.ref l0), some (.int l1), some (.int x_16)]) (st' := [.ref l0]) cd_228_97 rfl rfl ?_
            obtain ⟨ht, h⟩ := gO_s h
            obtain ⟨q_17, hv, h⟩ := gV_s h
            refine gs_gfR cd_228_98 (by decide) ht hv ?_
            refine gs_0 (pc' := 102) (L' := [some (.ref l0), some (.int l1), some (.int x_16)]) (st' := [.int 0, .ref q_17]) cd_228_101 rfl rfl ?_
            refine gs_0 (pc' := 103) (L' := [some (.ref l0), some (.int l1), some (.int x_16)]) (st' := [.ref l0, .int 0, .ref q_17]) cd_228_102 rfl rfl ?_
            obtain ⟨ht, h⟩ := gO_s h
            obtain ⟨q_18, hv, h⟩ := gV_s h
            refine gs_gfR cd_228_103 (by decide) ht hv ?_
            refine gs_0 (pc' := 107) (L' := [some (.ref l0), some (.int l1), some (.int x_16)]) (st' := [.int 0, .ref q_18, .int 0, .ref q_17]) cd_228_106 rfl rfl ?_
            refine gs_0 (pc' := 110) (L' := [some (.ref l0), some (.int l1), some (.int x_16)]) (st' := [.int 360, .int 0, .ref q_18, .int 0, .ref q_17]) cd_228_107 rfl rfl ?_
            obtain ⟨w_19, I_20, J_21, hcl, h⟩ := cV_s h
            refine gs_call (as := [.ref q_17, .int 0, .ref q_18, .int 0, .int 360]) (rest := []) cd_228_110 rfl (by decide) rfl rfl (Nat.le_of_ble_eq_true rfl) (Nat.le_of_ble_eq_true rfl) rfl hcl ?_
            refine gs_0 (pc' := 114) (L' := [some (.ref l0), some (.int l1), some (.int x_16)]) (st' := [.int x_16]) cd_228_113 rfl rfl ?_
            refine gs_0 (pc' := 115) (L' := [some (.ref l0), some (.int l1), some (.int x_16)]) (st' := [.long ((x_16 : Int32).toInt64)]) cd_228_114 rfl rfl ?_
            cases h
            exact gsr cd_228_115 rfl rfl
          · rw [if_neg hc] at h
            refine gs_0 (pc' := 69) (L' := [some (.ref l0), some (.int l1), none]) (st' := [.ref l0]) cd_228_68 rfl rfl ?_
            refine gs_0 (pc' := 71) (L' := [some (.ref l0), some (.int l1), none]) (st' := [.int 7, .ref l0]) cd_228_69 rfl rfl ?_
            obtain ⟨ht, h⟩ := gO_s h
            obtain ⟨v_25, w_22, I_23, J_24, hcl, h⟩ := cJ_s h
            refine gs_call (as := [.ref l0, .int 7]) (rest := []) cd_228_71 rfl (by decide) rfl (sm_rv_ok (by decide) ht) (Nat.le_of_ble_eq_true rfl) (Nat.le_of_ble_eq_true rfl) rfl hcl ?_
            cases h
            exact gsr cd_228_74 rfl rfl
        · rw [if_neg hc] at h
          refine gs_0 (pc' := 53) (L' := [some (.ref l0), some (.int l1), none]) (st' := [.ref l0]) cd_228_52 rfl rfl ?_
          refine gs_0 (pc' := 55) (L' := [some (.ref l0), some (.int l1), none]) (st' := [.int 6, .ref l0]) cd_228_53 rfl rfl ?_
          obtain ⟨ht, h⟩ := gO_s h
          obtain ⟨v_29, w_26, I_27, J_28, hcl, h⟩ := cJ_s h
          refine gs_call (as := [.ref l0, .int 6]) (rest := []) cd_228_55 rfl (by decide) rfl (sm_rv_ok (by decide) ht) (Nat.le_of_ble_eq_true rfl) (Nat.le_of_ble_eq_true rfl) rfl hcl ?_
          cases h
          exact gsr cd_228_58 rfl rfl
      · rw [if_neg hc] at h
        refine gs_0 (pc' := 40) (L' := [some (.ref l0), some (.int l1), none]) (st' := [.ref l0]) cd_228_39 rfl rfl ?_
        refine gs_0 (pc' := 41) (L' := [some (.ref l0), some (.int l1), none]) (st' := [.int 4, .ref l0]) cd_228_40 rfl rfl ?_
        obtain ⟨ht, h⟩ := gO_s h
        obtain ⟨v_33, w_30, I_31, J_32, hcl, h⟩ := cJ_s h
        refine gs_call (as := [.ref l0, .int 4]) (rest := []) cd_228_41 rfl (by decide) rfl (sm_rv_ok (by decide) ht) (Nat.le_of_ble_eq_true rfl) (Nat.le_of_ble_eq_true rfl) rfl hcl ?_
        cases h
        exact gsr cd_228_44 rfl rfl
    · rw [if_neg hc] at h
      refine gs_0 (pc' := 23) (L' := [some (.ref l0), some (.int l1), none]) (st' := [.ref l0]) cd_228_22 rfl rfl ?_
      refine gs_0 (pc' := 24) (L' := [some (.ref l0), some (.int l1), none]) (st' := [.int 2, .ref l0]) cd_228_23 rfl rfl ?_
      obtain ⟨ht, h⟩ := gO_s h
      obtain ⟨v_37, w_34, I_35, J_36, hcl, h⟩ := cJ_s h
      refine gs_call (as := [.ref l0, .int 2]) (rest := []) cd_228_24 rfl (by decide) rfl (sm_rv_ok (by decide) ht) (Nat.le_of_ble_eq_true rfl) (Nat.le_of_ble_eq_true rfl) rfl hcl ?_
      cases h
      exact gsr cd_228_27 rfl rfl
  · rw [if_neg hc] at h
    refine gs_0 (pc' := 8) (L' := [some (.ref l0), some (.int l1), none]) (st' := [.ref l0]) cd_228_7 rfl rfl ?_
    refine gs_0 (pc' := 9) (L' := [some (.ref l0), some (.int l1), none]) (st' := [.int 1, .ref l0]) cd_228_8 rfl rfl ?_
    obtain ⟨ht, h⟩ := gO_s h
    obtain ⟨v_41, w_38, I_39, J_40, hcl, h⟩ := cJ_s h
    refine gs_call (as := [.ref l0, .int 1]) (rest := []) cd_228_9 rfl (by decide) rfl (sm_rv_ok (by decide) ht) (Nat.le_of_ble_eq_true rfl) (Nat.le_of_ble_eq_true rfl) rfl hcl ?_
    cases h
    exact gsr cd_228_12 rfl rfl
theorem cl_228 {K : Nat → Value} {k d : Nat} {l0 : Nat} {l1 : Int32} {w : aW} {I : aI} {J : aJ} {R : aR} (h : f_228 K k d l0 l1 w I J = some R) : Cl K (d + 1) 228 [.ref l0, .int l1] w I J = some R := Cl_of (ok_228 h)

/-! what is only read -/
def nzc (g : Nat → Int32) : Nat → Nat → Nat
  | 0, _ => 0
  | k + 1, o => (if g o = it 0 then 0 else 1) + nzc g k (o + 1)
theorem nzc_c {g g' : Nat → Int32} : ∀ k o, (∀ q, o ≤ q → q < o + k → g q = g' q) → nzc g k o = nzc g' k o := by
  intro k
  induction k with
  | zero => intro o h; rfl
  | succ k ih =>
    intro o h
    simp only [nzc]
    rw [h o (by omega) (by omega), ih (o + 1) (fun q h1 h2 => h q (by omega) (by omega))]
section READ
variable {K : Nat → Value} {B d s m a N F hi pr j f p b : Nat} {fa : Nat → Nat → Nat} {oc ar : Nat → Nat} {sh : Nat → List Nat} {rc : Nat → Bool} {w : aW} {I I' : aI} {J : aJ} {c n : Nat → Int32}
theorem u_156 {f j : Nat} (H : Lay B w) (hp : w.2.1 (B + 29) 0 = some a) (hP : PL w a) (hj : j < 8) (hf : I (B + 30) (87 + 8 * j) = it f) (f5 : f < 5) : Cl K (d + 2) 156 [.ref (B + 29), .int (it j)] w I J = some (some (.int (I (a + 5) (4 * f + 2))), w, I, J) := by
  apply cl_156 (k := 0)
  unfold f_156
  simp only [it_lit, gO_e (yt29 H), gV_e (yp29_1 H), gc0 H, gc1 H, gc2 H, gc3 H, gc4 H, gc5 H, gc6 H, cl0, cl1, cl2, cl3, cl4, cl5, cl6, cI_e, cV_e, cA_e, cJ_e, lt_, gV_e hp]
  rw [s_146]
  simp only [gO_e (yt29 H), gV_e (yp29_1 H), gc0 H, gc1 H, gc2 H, gc3 H, gc4 H, gc5 H, gc6 H, cl0, cl1, cl2, cl3, cl4, cl5, cl6, cI_e, cV_e, cA_e, cJ_e, lt_]
  rw [s_147 H (by omega) (by omega), show (87 + (j : Int) * 8).toNat = 87 + 8 * j by omega, hf]
  simp only [gO_e (yt29 H), gV_e (yp29_1 H), gc0 H, gc1 H, gc2 H, gc3 H, gc4 H, gc5 H, gc6 H, cl0, cl1, cl2, cl3, cl4, cl5, cl6, cI_e, cV_e, cA_e, cJ_e, lt_, gO_e hP.1]
  rw [s_52 hP (by omega) (by omega) (by omega) (by omega), show ((f : Int) * 4 + 2).toNat = 4 * f + 2 by omega]
  rfl
theorem u_158 {j v : Nat} (H : Lay B w) (hj : j < 8) (hv : v < 6) : Cl K (d + 2) 158 [.ref (B + 29), .int (it j), .int (it v)] w I J = some (some (.int (I (B + 30) (89 + 8 * j + v))), w, I, J) := by
  apply cl_158 (k := 0)
  unfold f_158
  simp only [it_lit, gO_e (yt29 H), gV_e (yp29_1 H), gc0 H, gc1 H, gc2 H, gc3 H, gc4 H, gc5 H, gc6 H, cl0, cl1, cl2, cl3, cl4, cl5, cl6, cI_e, cV_e, cA_e, cJ_e, lt_]
  rw [s_146]
  simp only [gO_e (yt29 H), gV_e (yp29_1 H), gc0 H, gc1 H, gc2 H, gc3 H, gc4 H, gc5 H, gc6 H, cl0, cl1, cl2, cl3, cl4, cl5, cl6, cI_e, cV_e, cA_e, cJ_e, lt_, it_add]
  rw [s_147 H (by omega) (by omega), show (87 + (j : Int) * 8 + 2 + v).toNat = 89 + 8 * j + v by omega]
  rfl
theorem s_201 (H : Lay B w) : Cl K (d + 1) 201 [.ref (B + 29)] w I J = some (some (.int (bi (I (B + 30) 0 = it 1))), w, I, J) := by
  apply cl_201 (k := 0)
  unfold f_201
  simp only [it_lit, gO_e (yt29 H), gV_e (yp29_1 H), gc0 H, gc1 H, gc2 H, gc3 H, gc4 H, gc5 H, gc6 H, cl0, cl1, cl2, cl3, cl4, cl5, cl6, cI_e, cV_e, cA_e, cJ_e, lt_]
  by_cases h : I (B + 30) 0 = it 1
  · rw [if_neg (fun q => q h), bi_t h]
  · rw [if_pos h, bi_f h]
theorem l_202 (H : Lay B w) : ∀ (n o q : Nat), o + n = 17 → 1 ≤ o → q + n ≤ 16 → f_202_4 K (n + 1) (d + 1) (B + 29) (it q) (it o) w I J = some (some (.int (it ((q + nzc (fun o => I (B + 30) (140 + 11 * o)) n o : Nat) : Int))), w, I, J) := by
  intro n
  induction n with
  | zero =>
    intro o q h1 h2 h3
    rw [f_202_4]
    simp only [it_lit, lt_]
    rw [if_pos ((it_lt (by omega) (by omega) (by omega) (by omega)).mpr (by omega))]
    rfl
  | succ n ih =>
    intro o q h1 h2 h3
    rw [f_202_4]
    unfold f_202_24
    simp only [it_lit, lt_, it_add]
    rw [if_neg (fun q => by have := (it_lt (by omega) (by omega) (by omega) (by omega)).mp q; omega), s_152]
    simp only [gO_e (yt29 H), gV_e (yp29_1 H), gc0 H, gc1 H, gc2 H, gc3 H, gc4 H, gc5 H, gc6 H, cl0, cl1, cl2, cl3, cl4, cl5, cl6, cI_e, cV_e, cA_e, cJ_e, lt_]
    rw [s_147 H (by omega) (by omega), show (151 + ((o : Int) - 1) * 11).toNat = 140 + 11 * o by omega]
    simp only [gO_e (yt29 H), gV_e (yp29_1 H), gc0 H, gc1 H, gc2 H, gc3 H, gc4 H, gc5 H, gc6 H, cl0, cl1, cl2, cl3, cl4, cl5, cl6, cI_e, cV_e, cA_e, cJ_e, lt_, nzc]
    by_cases hc : I (B + 30) (140 + 11 * o) = it 0
    · rw [if_pos hc, if_pos hc]
      refine Eq.trans (ih (o + 1) q (by omega) (by omega) (by omega)) ?_
      rw [Nat.zero_add]
    · rw [if_neg hc, if_neg hc]
      refine Eq.trans (ih (o + 1) (q + 1) (by omega) (by omega) (by omega)) ?_
      rw [show q + 1 + nzc (fun o => I (B + 30) (140 + 11 * o)) n (o + 1) = q + (1 + nzc (fun o => I (B + 30) (140 + 11 * o)) n (o + 1)) by omega]
theorem s_202 (H : Lay B w) : Cl K (d + 2) 202 [.ref (B + 29)] w I J = some (some (.int (it (nzc (fun o => I (B + 30) (140 + 11 * o)) 16 1 : Int))), w, I, J) := by
  apply cl_202 (k := 17)
  unfold f_202
  refine Eq.trans (l_202 H 16 1 0 (by omega) (by omega) (by omega)) ?_
  rw [Nat.zero_add]
theorem l_203 {l1 : Int32} (H : Lay B w) : ∀ (n o q : Nat), o + n = 17 → 1 ≤ o → q + n ≤ 16 → f_203_18 K (n + 1) (d + 1) (B + 46) l1 (it q) (it o) w I J = f_203_18 K 1 (d + 1) (B + 46) l1 (it ((q + nzc (fun o => I (B + 65) (154 + 12 * o)) n o : Nat) : Int)) (it 17) w I J := by
  intro n
  induction n with
  | zero =>
    intro o q h1 h2 h3
    have e : o = 17 := by omega
    subst e
    rfl
  | succ n ih =>
    intro o q h1 h2 h3
    rw [f_203_18]
    unfold f_203_43
    simp only [it_lit, lt_, it_add, gO_e (yt46 H), gV_e (yp46_36 H)]
    rw [if_neg (fun q => by have := (it_lt (by omega) (by omega) (by omega) (by omega)).mp q; omega), s_183]
    simp only [cI_e]
    rw [gA_e (yt65 H) (Or.inl rfl) (ix (by omega) (by omega) (by omega)), it_cl (a := 154 + 12 * (o : Int) + 0) (by omega) (by omega), show (154 + 12 * (o : Int) + 0).toNat = 154 + 12 * o by omega]
    by_cases hc : I (B + 65) (154 + 12 * o) = it 0
    · rw [if_neg (fun q => q hc), show (q : Int) + 0 = (q : Int) by omega]
      refine Eq.trans (ih (o + 1) q (by omega) (by omega) (by omega)) ?_
      simp only [nzc]
      rw [if_pos hc, Nat.zero_add]
    · rw [if_pos hc]
      refine Eq.trans (ih (o + 1) (q + 1) (by omega) (by omega) (by omega)) ?_
      simp only [nzc]
      rw [if_neg hc, show q + 1 + nzc (fun o => I (B + 65) (154 + 12 * o)) n (o + 1) = q + (1 + nzc (fun o => I (B + 65) (154 + 12 * o)) n (o + 1)) by omega]
theorem s_220 {sl i k : Nat} (H : Lay B w) (h7 : I (B + 29) 7 = it sl) (s32 : sl < 32) (i31 : i < 32) (k4 : k < 4) : Cl K (d + 1) 220 [.ref (B + 29), .int (it i), .int (it k)] w I J = some (some (.int (I (B + 35) (4 * ((sl + 32 - i) % 32) + k))), w, I, J) := by
  apply cl_220 (k := 0)
  have e : ∀ s i : Fin 32, (it (s.val : Int) - it (i.val : Int)) &&& it 31 = it (((s.val + 32 - i.val) % 32 : Nat) : Int) := by decide +kernel
  unfold f_220
  simp only [it_lit, lt_, gO_e (yt29 H), gV_e (yp29_6 H), h7]
  rw [e ⟨sl, s32⟩ ⟨i, i31⟩]
  simp only [it_mul, it_add]
  rw [if_neg (fun q => by have := (it_lt (by omega) (by omega) (by omega) (by omega)).mp q; omega), gL_e (yt35 H) (by omega), it_nat, if_neg (fun q => by have := (it_le (by omega) (by omega) (by omega) (by omega)).mp q; omega), gA_e (yt35 H) (Or.inl rfl) (ix (by omega) (by omega) (by omega)), it_cl (by omega) (by omega), show ((((sl + 32 - i) % 32 : Nat) : Int) * 4 + (k : Int)).toNat = 4 * ((sl + 32 - i) % 32) + k by omega]
end READ
section PRR
variable {K : Nat → Value} {B d n b L : Nat} {w0 : aW} {I0 : aI} {xs : Nat → Int32}
theorem pr_now (hs : gSc b L B xs w0 I0) (a0 : Int32) : Pr K (d + 20) (rR K B w0 I0 n) (rR K B w0 I0 (n + 1)) (Sc b B (B + 46) L xs) B (B + 46) 200 203 [.int a0] := by
  intro w I J hR
  have H := hR.1
  obtain ⟨z, z1, z2, rfl⟩ := it_ex a0
  obtain ⟨⟨N, F, fa, oc, ar, sh, rc⟩, a, a', bg, ha, p1, p2, p3, TC, gx, gm, b1, b2, b3, b4, b5⟩ := id hR.2.2.2.2.2.2.2.2.2
  by_cases hb : bg = 1
  · subst hb
    obtain ⟨hp, hN, K2⟩ := b5 rfl; obtain ⟨kp, sl, k30, s32, h8, h41, h7, R, M, Hs⟩ := id K2; obtain ⟨⟨hh, fr, hi, pr, m0, m1, m2, m3, m4, m5, m6, m7, m8, m9, m10, m11, m12⟩, aO⟩ := id M
    have eN : nzc (fun o => I (B + 30) (140 + 11 * o)) 16 1 = nzc (fun o => I (B + 65) (154 + 12 * o)) 16 1 := nzc_c 16 1 (fun q h1 h2 => (R.2.2.2.2.2.2.2.2.2.2 q h1 (by omega)).1)
    have pM : ∀ I' : aI, (∀ a, ¬ a = B + 37 → I' a = I a) → f_203 K 17 (d + 19) (B + 46) (it z) w I' J = f_203_18 K 1 (d + 19) (B + 46) (it z) (it ((nzc (fun o => I (B + 65) (154 + 12 * o)) 16 1 : Nat) : Int)) (it 17) w I' J := by
      intro I' hI
      unfold f_203
      simp only [it_lit, gO_e (yt46 H)]
      rw [hI (B + 46) (by omega), b3, if_pos (by decide)]
      refine Eq.trans (l_203 (K := K) (d := d + 18) H 16 1 0 (by omega) (by omega) (by omega)) ?_
      rw [hI (B + 65) (by omega), Nat.zero_add]
    by_cases hz : 0 ≤ z ∧ z ≤ 8
    · have h9 : z = 0 ∨ z = 1 ∨ z = 2 ∨ z = 3 ∨ z = 4 ∨ z = 5 ∨ z = 6 ∨ z = 7 ∨ z = 8 := by omega
      have mk : ∀ v : Int64, (f_200 K 0 (d + 19) B (it z) w I J = some (some (.long v), w, I, J)) → f_203_18 K 1 (d + 19) (B + 46) (it z) (it ((nzc (fun o => I (B + 65) (154 + 12 * o)) 16 1 : Nat) : Int)) (it 17) w I J = some (some (.long v), w, I, J) → _ := fun v h1 h2 => pr_eq (d := d + 20) (yx := 200) (ym := 203) (as := [.int (it z)]) hs hR v (cl_200 (k := 0) (d := d + 19) h1) (cl_203 (k := 17) (d := d + 19) ((pM I (fun _ _ => rfl)).trans h2))
      rcases h9 with rfl | rfl | rfl | rfl | rfl | rfl | rfl | rfl | rfl
      · refine mk (I (B + 65) 0).toInt64 ?_ ?_
        · unfold f_200; simp only [it_lit, gO_e (yt H), gV_e (yp_4 H), gO_e (yt29 H)]; rw [b2, if_pos (by decide)]; (repeat (first | rw [if_pos (by decide)] | rw [if_neg (by decide)])); rw [s_147 H (by omega) (by omega)]; simp only [cI_e]; rw [← R.1]; rfl
        · rw [f_203_18]; simp only [it_lit, gO_e (yt46 H), gV_e (yp46_36 H), lt_]; (repeat (first | rw [if_pos (by decide)] | rw [if_neg (by decide)])); rw [gn0 H]; rfl
      · by_cases hd : I (B + 30) 0 = it 1
        · have hf0 : fr = 0 := m8.mp (it_inj (by omega) (by omega) (m0.symm.trans (R.1.symm.trans hd)))
          refine mk 0 ?_ ?_
          · unfold f_200; simp only [it_lit, gO_e (yt H), gV_e (yp_4 H), gO_e (yt29 H)]; rw [b2, if_pos (by decide)]; (repeat (first | rw [if_pos (by decide)] | rw [if_neg (by decide)])); rw [s_201 H]; simp only [cI_e, bi0]; rw [if_neg (fun q => q hd)]
          · rw [f_203_18]; simp only [it_lit, gO_e (yt46 H), gV_e (yp46_36 H), lt_]; (repeat (first | rw [if_pos (by decide)] | rw [if_neg (by decide)])); rw [gn1 H, cl1, m1, hf0, if_neg (fun q => q rfl)]
        · have hf0 : ¬ fr = 0 := fun e => hd (by rw [R.1, m0, m8.mpr e]; rfl)
          have e4 : I (B + 30) 4 = it fr := R.2.2.2.2.1.trans m1
          have er := R.2.2.2.2.2.2.2.2.2.1 (fr - 1) (by rw [m1, it_toInt (by omega) (by omega)]; omega)
          rw [m1, it_toInt (by omega) (by omega), if_pos (by omega)] at er
          refine mk (I (B + 65) (71 + 8 * (fr - 1))).toInt64 ?_ ?_
          · unfold f_200; simp only [it_lit, gO_e (yt H), gV_e (yp_4 H), gO_e (yt29 H)]; rw [b2, if_pos (by decide)]; (repeat (first | rw [if_pos (by decide)] | rw [if_neg (by decide)])); rw [s_201 H]; simp only [cI_e, bi0]; rw [if_pos hd]; simp only [gO_e (yt H), gV_e (yp_4 H), gO_e (yt29 H)]; rw [s_145 H e4 (by omega) m5]; simp only [cI_e]; rw [er.2.1]
          · rw [f_203_18]
            simp only [it_lit, gO_e (yt46 H), gV_e (yp46_36 H), lt_]
            repeat (first | rw [if_pos (by decide)] | rw [if_neg (by decide)])
            rw [gn1 H, cl1, m1, if_pos (fun q => by have := (it_eq (by omega) (by omega) (by omega) (by omega)).mp q; omega)]
            have h179 := s_179 (K := K) (d := d + 18) (J := J) (I := I) (n := I (B + 65)) (fr := fr) H m1
            rw [nw_id] at h179
            rw [h179]
            simp only [cI_e, it_add]
            rw [gA_e (yt65 H) (Or.inl rfl) (ix (by omega) (by omega) (by omega)), it_cl (by omega) (by omega), show (70 + 8 * ((fr : Int) - 1) + 1).toNat = 71 + 8 * (fr - 1) by omega]
      · refine mk (I (B + 65) 1).toInt64 ?_ ?_
        · unfold f_200; simp only [it_lit, gO_e (yt H), gV_e (yp_4 H), gO_e (yt29 H)]; rw [b2, if_pos (by decide)]; (repeat (first | rw [if_pos (by decide)] | rw [if_neg (by decide)])); rw [s_147 H (by omega) (by omega)]; simp only [cI_e]; rw [← R.2.2.2.2.1]; rfl
        · rw [f_203_18]; simp only [it_lit, gO_e (yt46 H), gV_e (yp46_36 H), lt_]; (repeat (first | rw [if_pos (by decide)] | rw [if_neg (by decide)])); rw [gn1 H]; rfl
      · refine mk (I (B + 65) 2).toInt64 ?_ ?_
        · unfold f_200; simp only [it_lit, gO_e (yt H), gV_e (yp_4 H), gO_e (yt29 H)]; rw [b2, if_pos (by decide)]; (repeat (first | rw [if_pos (by decide)] | rw [if_neg (by decide)])); rw [s_147 H (by omega) (by omega)]; simp only [cI_e]; rw [← R.2.2.2.1]; rfl
        · rw [f_203_18]; simp only [it_lit, gO_e (yt46 H), gV_e (yp46_36 H), lt_]; (repeat (first | rw [if_pos (by decide)] | rw [if_neg (by decide)])); rw [gn2 H]; rfl
      · refine mk (I (B + 65) 3).toInt64 ?_ ?_
        · unfold f_200; simp only [it_lit, gO_e (yt H), gV_e (yp_4 H), gO_e (yt29 H)]; rw [b2, if_pos (by decide)]; (repeat (first | rw [if_pos (by decide)] | rw [if_neg (by decide)])); rw [s_147 H (by omega) (by omega)]; simp only [cI_e]; rw [← R.2.2.2.2.2.1]; rfl
        · rw [f_203_18]; simp only [it_lit, gO_e (yt46 H), gV_e (yp46_36 H), lt_]; (repeat (first | rw [if_pos (by decide)] | rw [if_neg (by decide)])); rw [gn3 H]; rfl
      · refine mk (I (B + 65) 4).toInt64 ?_ ?_
        · unfold f_200; simp only [it_lit, gO_e (yt H), gV_e (yp_4 H), gO_e (yt29 H)]; rw [b2, if_pos (by decide)]; (repeat (first | rw [if_pos (by decide)] | rw [if_neg (by decide)])); rw [s_147 H (by omega) (by omega)]; simp only [cI_e]; rw [← R.2.1]; rfl
        · rw [f_203_18]; simp only [it_lit, gO_e (yt46 H), gV_e (yp46_36 H), lt_]; (repeat (first | rw [if_pos (by decide)] | rw [if_neg (by decide)])); rw [gn4 H]; rfl
      · refine mk (it ((nzc (fun o => I (B + 65) (154 + 12 * o)) 16 1 : Nat) : Int)).toInt64 ?_ ?_
        · unfold f_200; simp only [it_lit, gO_e (yt H), gV_e (yp_4 H), gO_e (yt29 H)]; rw [b2, if_pos (by decide)]; (repeat (first | rw [if_pos (by decide)] | rw [if_neg (by decide)])); rw [s_202 H]; simp only [cI_e]; rw [eN]
        · rw [f_203_18]; simp only [it_lit, gO_e (yt46 H), gV_e (yp46_36 H), lt_]; (repeat (first | rw [if_pos (by decide)] | rw [if_neg (by decide)]))
      · refine mk (I (B + 65) 5).toInt64 ?_ ?_
        · unfold f_200; simp only [it_lit, gO_e (yt H), gV_e (yp_4 H), gO_e (yt29 H)]; rw [b2, if_pos (by decide)]; (repeat (first | rw [if_pos (by decide)] | rw [if_neg (by decide)])); rw [s_147 H (by omega) (by omega)]; simp only [cI_e]; rw [← R.2.2.1]; rfl
        · rw [f_203_18]; simp only [it_lit, gO_e (yt46 H), gV_e (yp46_36 H), lt_]; (repeat (first | rw [if_pos (by decide)] | rw [if_neg (by decide)])); rw [gn5 H]; rfl
      · refine mk (it (kp : Int)).toInt64 ?_ ?_
        · unfold f_200; simp only [it_lit, gO_e (yt H), gV_e (yp_4 H), gO_e (yt29 H)]; rw [b2, if_pos (by decide)]; (repeat (first | rw [if_pos (by decide)] | rw [if_neg (by decide)])); rw [h8]
        · rw [f_203_18]; simp only [it_lit, gO_e (yt46 H), gV_e (yp46_36 H), lt_]; (repeat (first | rw [if_pos (by decide)] | rw [if_neg (by decide)])); rw [h41]
    · have hne : ∀ k : Int, 0 ≤ k → k ≤ 8 → ¬ it z = it k := fun k h1 h2 q => by have := (it_eq (by omega) (by omega) (by omega) (by omega)).mp q; omega
      refine pr_fd hs hR 1 (by omega) (by omega) (cl_200 (k := 0) ?_) (fun I' hI => cl_203 (k := 17) ((pM I' hI).trans ?_))
      · unfold f_200; simp only [it_lit, gO_e (yt H), gV_e (yp_4 H), gO_e (yt29 H)]; rw [b2, if_pos (by decide)]
        rw [if_neg (hne 0 (by omega) (by omega)), if_neg (hne 1 (by omega) (by omega)), if_neg (hne 2 (by omega) (by omega)), if_neg (hne 3 (by omega) (by omega)), if_neg (hne 4 (by omega) (by omega)), if_neg (hne 5 (by omega) (by omega)), if_neg (hne 6 (by omega) (by omega)), if_neg (hne 7 (by omega) (by omega)), if_neg (hne 8 (by omega) (by omega)), s_17 H (by omega) (by omega)]
        rfl
      · rw [f_203_18]
        simp only [it_lit, gO_e (yt46 H), gV_e (yp46_36 H), lt_]
        rw [if_pos (by decide), if_neg (hne 0 (by omega) (by omega)), if_neg (hne 1 (by omega) (by omega)), if_neg (hne 2 (by omega) (by omega)), if_neg (hne 3 (by omega) (by omega)), if_neg (hne 4 (by omega) (by omega)), if_neg (hne 5 (by omega) (by omega)), if_neg (hne 6 (by omega) (by omega)), if_neg (hne 7 (by omega) (by omega)), if_neg (hne 8 (by omega) (by omega)), s_20 H (by omega) (by omega)]
        rfl
  · have hb0 := bg_01 b1 hb
    subst hb0
    refine pr_fd hs hR 6 (by omega) (by omega) (cl_200 (k := 0) ?_) (fun I' hI => cl_203 (k := 0) ?_)
    · unfold f_200; simp only [it_lit, gO_e (yt H)]; (rw [b2, if_neg (fun q => q rfl), s_17 H (by omega) (by omega)]; rfl)
    · unfold f_203; simp only [it_lit, gO_e (yt46 H)]; (rw [hI (B + 46) (by omega), b3, if_neg (fun q => q rfl), s_20 H (by omega) (by omega)]; rfl)
end PRR

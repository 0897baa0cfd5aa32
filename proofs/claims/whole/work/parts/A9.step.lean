section PRS
variable {K : Nat → Value} {B d n b L : Nat} {w0 : aW} {I0 : aI} {xs : Nat → Int32}
theorem bg_01 {bg : Nat} (h : bg ≤ 1) (h0 : ¬ bg = 1) : bg = 0 := by omega
theorem or_a {a a' B : Nat} (ha : a = B + 8 ∧ a' = B + 22 ∨ a = B + 22 ∧ a' = B + 8) : a = B + 8 ∨ a = B + 22 := by
  rcases ha with ⟨h, _⟩ | ⟨h, _⟩
  · exact Or.inl h
  · exact Or.inr h
theorem gM_m {G : aG} {I2 Ih : aI} (h : mfr B I2 Ih) (gm : gM G B Ih) : gM G B I2 := by
  obtain ⟨N, F, fa, oc, ar, sh, rc⟩ := G
  obtain ⟨y1, y2, y3, y4⟩ := gm
  refine ⟨by rw [h.2 _ (by omega)]; exact y1, by rw [h.2 _ (by omega)]; exact y2, ?_, ?_⟩
  · rw [h.1 (B + 59) (by omega) (by omega), h.1 (B + 60) (by omega) (by omega), h.1 (B + 62) (by omega) (by omega), h.1 (B + 63) (by omega) (by omega)]; exact y3
  · rw [h.1 (B + 58) (by omega) (by omega)]; exact y4
/-- the two machines' heaps joined -/
theorem gK2_j {G : aG} {I1 I2 Ih : aI} (h : mfr B I2 I1) (k : gK2 G B I1 I2) : gK2 G B I2 I2 := by
  obtain ⟨kp, sl, k30, s32, h8, h41, h7, R, M, Hs⟩ := k
  have e : ∀ b, B + 29 ≤ b → b ≤ B + 35 → I2 b = I1 b := fun b b1 b2 => h.1 b (by omega) (by omega)
  refine ⟨kp, sl, k30, s32, by rw [e _ (by omega) (by omega)]; exact h8, h41, by rw [e _ (by omega) (by omega)]; exact h7, by rw [e _ (by omega) (by omega)]; exact R, M, ?_⟩
  rw [e (B + 32) (by omega) (by omega), e (B + 33) (by omega) (by omega), e (B + 34) (by omega) (by omega), e (B + 35) (by omega) (by omega), e (B + 30) (by omega) (by omega)]
  exact Hs
theorem pr_step (hs : gSc b L B xs w0 I0) (a0 : Int32) : Pr K (d + 20) (rR K B w0 I0 n) (rR K B w0 I0 (n + 1)) (Sc b B (B + 46) L xs) B (B + 46) 141 176 [.int a0] := by
  intro w I J hR
  have H := hR.1
  obtain ⟨z, z1, z2, rfl⟩ := it_ex a0
  obtain ⟨⟨N, F, fa, oc, ar, sh, rc⟩, a, a', bg, ha, p1, p2, p3, TC, gx, gm, b1, b2, b3, b4, b5⟩ := id hR.2.2.2.2.2.2.2.2.2
  by_cases hz : 1 ≤ z ∧ z ≤ 400
  · by_cases hb : bg = 1
    · subst hb
      obtain ⟨hp, hN, K2⟩ := b5 rfl
      have K2' : gK2 (N, F, fa, oc, ar, sh, rc) B I I := K2
      by_cases n0 : I (B + 65) 0 = it 0
      · have cH : I (B + 30) 0 = I (B + 65) 0 := by
          obtain ⟨kp, sl, k30, s32, h8, h41, h7, R, M, Hs⟩ := K2'
          exact R.1
        obtain ⟨zn, rfl⟩ := z_nat (by omega : 0 ≤ z)
        obtain ⟨v, I1, _, r1, _, r3, _, _⟩ := lp_step (K := K) (d := d + 13) (J := J) (nn := zn) H hp (or_a ha) TC (by omega) zn 0 I I (by omega) gx gm K2'
        have K2'' : gK2 (N, F, fa, oc, ar, sh, rc) B I I1 := by
          obtain ⟨kp, sl, k30, s32, h8, h41, h7, R, M, Hs⟩ := K2'
          refine ⟨kp, sl, k30, s32, h8, by rw [r3 _ (by omega) (by omega) (by omega)]; exact h41, h7, by rw [r3 (B + 65) (by omega) (by omega) (by omega)]; exact R, by rw [r3 (B + 65) (by omega) (by omega) (by omega)]; exact M, ?_⟩
          rw [r3 (B + 67) (by omega) (by omega) (by omega), r3 (B + 68) (by omega) (by omega) (by omega)]
          exact Hs
        obtain ⟨v', I1', I2, s1, s2, _, s4, s5⟩ := lp_step (K := K) (d := d + 13) (J := J) (nn := zn) H hp (or_a ha) TC (by omega) zn 0 I I1 (by omega) gx (gM_c (I := I) (fun b hb => r3 b (by omega) (by omega) (by omega)) gm) K2''
        have e := Option.some.inj (r1.symm.trans s1)
        have ev : v = v' := by
          have := congrArg Prod.fst e
          exact Value.long.inj (Option.some.inj this)
        have eI : I1 = I1' := congrArg (fun p => p.2.2.1) e
        subst ev
        subst eI
        refine ⟨v, w, I1, J, w, I2, J, cl_141 (k := zn + 2) (d := d + 19) ?_, sc_of hs H (hR.2.1 b hs.1).2.1 ?_, cl_176 (k := zn + 2) (d := d + 19) ?_, rR_ma hR H rfl rfl (fun _ _ => rfl) (fun b b1 b2 b3 b4 => ?_) (fun k hk => ?_) (fun k k1 k2 => ?_) ?_⟩
        · unfold f_141
          simp only [it_lit, gO_e (yt H), gV_e (yp_4 H), gO_e (yt29 H)]
          rw [if_neg (fun q => by have := (it_lt (by omega) (by omega) (by omega) (by omega)).mp q; omega), if_pos ((it_le (by omega) (by omega) (by omega) (by omega)).mpr (by omega)), b2, if_pos (by decide), s_142 H]
          simp only [cI_e, bi0]
          rw [if_pos (fun q => q (cH.trans n0))]
          exact r1
        · rw [r3 b (by have := hs.1; omega) (by have := hs.1; omega) (by have := hs.1; omega)]; exact (hR.2.1 b hs.1).1
        · unfold f_176
          simp only [it_lit]
          rw [s_19i (by omega) (by omega) (by omega) (by omega) (by omega) (by omega)]
          simp only [cI_e, bi0, gO_e (yt46 H), gV_e (yp46_36 H), gn0 H, cl0]
          rw [if_pos (fun q => q ⟨by omega, by omega⟩), r3 (B + 46) (by omega) (by omega) (by omega), b3, if_pos (by decide), r3 (B + 65) (by omega) (by omega) (by omega), if_pos n0]
          exact s2
        · rw [s4.1 b b3 b4, r3 b (by omega) (by omega) (by omega)]
        · rw [s4.1 B (by omega) (by omega), r3 B (by omega) (by omega) (by omega)]
        · rw [s4.2 k k1, r3 (B + 46) (by omega) (by omega) (by omega)]
        · have fX : ∀ b, b ≤ B + 28 → I2 b = I b := fun b hb => by rw [s4.1 b (by omega) (by omega), r3 b (by omega) (by omega) (by omega)]
          refine rPM_m (G := (N, F, fa, oc, ar, sh, rc)) ha p1 p2 hp p3.2 TC (gX_c (or_a ha) (fun b b1 b2 => fX b (by omega)) gx) (gM_m s4 (gM_c (I := I) (fun b hb => r3 b (by omega) (by omega) (by omega)) gm)) ?_ ?_ hN (gK2_j (Ih := I) s4 s5)
          · rw [fX B (by omega)]; exact b2
          · rw [s4.2 _ (by omega), r3 (B + 46) (by omega) (by omega) (by omega)]; exact b3
      · have cH : ¬ I (B + 30) 0 = it 0 := by
          obtain ⟨kp, sl, k30, s32, h8, h41, h7, R, M, Hs⟩ := K2'
          rw [R.1]; exact n0
        refine pr_fd hs hR 7 (by omega) (by omega) (cl_141 (k := 0) ?_) (fun I' hI => cl_176 (k := 0) ?_)
        · unfold f_141
          simp only [it_lit, gO_e (yt H), gV_e (yp_4 H), gO_e (yt29 H)]
          rw [if_neg (fun q => by have := (it_lt (by omega) (by omega) (by omega) (by omega)).mp q; omega), if_pos ((it_le (by omega) (by omega) (by omega) (by omega)).mpr (by omega)), b2, if_pos (by decide), s_142 H]
          simp only [cI_e, bi0]
          rw [if_neg (fun q => q cH), gO_e (yt H), s_17 H (by omega) (by omega)]
          rfl
        · unfold f_176
          simp only [it_lit]
          rw [s_19i (by omega) (by omega) (by omega) (by omega) (by omega) (by omega)]
          simp only [cI_e, bi0, gO_e (yt46 H), gV_e (yp46_36 H), gn0 H, cl0]
          rw [if_pos (fun q => q ⟨by omega, by omega⟩), hI (B + 46) (by omega), b3, if_pos (by decide), hI (B + 65) (by omega), if_neg n0, s_20 H (by omega) (by omega)]
          rfl
    · have hb0 := bg_01 b1 hb
      subst hb0
      refine pr_fd hs hR 6 (by omega) (by omega) (cl_141 (k := 0) ?_) (fun I' hI => cl_176 (k := 0) ?_)
      · unfold f_141
        simp only [it_lit, gO_e (yt H)]
        rw [if_neg (fun q => by have := (it_lt (by omega) (by omega) (by omega) (by omega)).mp q; omega), if_pos ((it_le (by omega) (by omega) (by omega) (by omega)).mpr (by omega)), b2, if_neg (fun q => q rfl), s_17 H (by omega) (by omega)]
        rfl
      · unfold f_176
        simp only [it_lit]
        rw [s_19i (by omega) (by omega) (by omega) (by omega) (by omega) (by omega)]
        simp only [cI_e, bi0, gO_e (yt46 H)]
        rw [if_pos (fun q => q ⟨by omega, by omega⟩), hI (B + 46) (by omega), b3, if_neg (fun q => q rfl), s_20 H (by omega) (by omega)]
        rfl
  · refine pr_fd hs hR 1 (by omega) (by omega) (cl_141 (k := 0) ?_) (fun I' hI => cl_176 (k := 0) ?_)
    · unfold f_141 f_141_12
      simp only [it_lit, gO_e (yt H)]
      rw [s_17 H (by omega) (by omega)]
      by_cases h0 : z < 1
      · rw [if_pos ((it_lt (by omega) (by omega) (by omega) (by omega)).mpr (by omega))]; rfl
      · rw [if_neg (fun q => by have := (it_lt (by omega) (by omega) (by omega) (by omega)).mp q; omega), if_neg (fun q => by have := (it_le (by omega) (by omega) (by omega) (by omega)).mp q; omega)]; rfl
    · unfold f_176
      simp only [it_lit]
      rw [s_19i (by omega) (by omega) (by omega) (by omega) (by omega) (by omega)]
      simp only [cI_e, bi0, gO_e (yt46 H)]
      rw [if_neg (by omega), s_20 H (by omega) (by omega)]
      rfl
end PRS

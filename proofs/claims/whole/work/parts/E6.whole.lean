/-! E itself -/
section LVL
variable {K : Nat → Value} {B d a : Nat} {w : aW} {bs : Nat → Nat} {t n c r s sl : Nat} {pd dp : Int} {gd Q : Prop} {f cnt : Nat} {vn ln : Nat → Nat} {fa : Nat → Nat → Nat} {G : gG} {Ix Im I : aI} {Jx J : aJ}
theorem JS_s {s' : Nat} (hs : s' ≤ 8) (h : JS B a bs t n pd dp c r s sl G Q Ix Jx Im) : JS B a bs t n pd dp c r s' sl G Q Ix Jx (sm_up2 Im (B + 46) 29 (it s')) ∧ Im (B + 46) 29 = it s := by
  obtain ⟨h, Nx, Nm, nfx, nfm, tfx, tfm, x, ⟨m0, m1, m2, m3, m4, m5, m6, m7, m8, m9, m10⟩, b1, b2, f⟩ := h
  refine ⟨⟨h, Nx, Nm, nfx, nfm, tfx, tfm, x, ⟨MR_u (by omega) m0, by rw [up2_r, up1_n (by omega)]; exact m1, m2, m3, by rw [up2_r, up1_n (by omega)]; exact m4, m5, m6, by rw [up2_r, up1_s], hs, by rw [up2_r, up1_n (by omega)]; exact m9, m10⟩, b1, b2, fun e => ⟨(f e).1, (f e).2.imp id (fun z => ⟨?_, z.2⟩)⟩⟩, m7⟩
  obtain ⟨f1, f2, f3, f4, f5, f6, f7, f8⟩ := z.1
  refine ⟨f1, f2, f3, f4, f5, f6, f7, ?_⟩
  intro p; rw [up2_n (by omega), up2_n (by omega)]; exact f8 p
theorem s_102a (H : Lay B w) (hT : MR B bs t n c 0 I) (h29 : I (B + 46) 29 = it s) (hs : s < 8) : ∃ I', Cl K (d + 1) 102 [.ref (B + 46)] w I J = some (some (.int (it 0)), w, I', J) ∧ FM6 B I I' ∧ MR B bs t n c 0 I' := by
  refine ⟨sm_up2 I (B + 46) 26 (it 0), ?_, FM6_u, MR_f FM6_u (fun k hk => by
    by_cases e : k = 26
    · subst e; rw [up2_r, up1_s]; exact hT.2.1.symm
    · rw [up2_r, up1_n e]) hT⟩
  apply cl_102 (k := 0)
  unfold f_102
  simp only [it_lit, gO_e (yt46 H)]
  have h26 : I (B + 46) 26 = it 0 := hT.2.1
  rw [h26, if_neg (fun q => q rfl), h29, if_pos (fun q => by have := (it_eq (by omega) (by omega) (by omega) (by omega)).mp q; omega)]
  unfold f_102_22
  simp only [it_lit, gO_e (yt46 H), lt_p]
  rw [gC_e (Or.inl trivial), up2_r, up1_s, gC_e (Or.inl rfl)]
theorem s_102b (H : Lay B w) (hT : MR B bs t n c r I) (h29 : I (B + 46) 29 = it s) (hs : r = 1 ∨ s = 8) : ∃ I', Cl K (d + 1) 102 [.ref (B + 46)] w I J = some (some (.int (it 1)), w, I', J) ∧ FM6 B I I' ∧ MR B bs t n c 1 I' := by
  refine ⟨sm_up2 I (B + 46) 26 (it 1), ?_, FM6_u, ?_⟩
  · have f17 : f_102_17 K 0 d (B + 46) (B + 46) w I J = some (some (.int (it 1)), w, sm_up2 I (B + 46) 26 (it 1), J) := by
      unfold f_102_17 f_102_22
      simp only [it_lit, gO_e (yt46 H), lt_p]
      rw [gC_e (Or.inr trivial), up2_r, up1_s, gC_e (Or.inr rfl)]
    apply cl_102 (k := 0)
    unfold f_102
    simp only [it_lit, gO_e (yt46 H)]
    rw [hT.2.1]
    have hr := hT.2.2.1
    by_cases e : r = 0
    · subst e
      have s8 : s = 8 := by omega
      rw [if_neg (fun q => q rfl), h29, s8, if_neg (fun q => q rfl)]
      exact f17
    · rw [if_pos (fun q => by have := (it_eq (by omega) (by omega) (by omega) (by omega)).mp q; omega)]
      exact f17
  · obtain ⟨hM, _, hr, hc, h22, _⟩ := hT
    exact ⟨⟨by rw [up2_r, up1_n (by omega)]; exact hM.1, by rw [up2_n (by omega)]; exact hM.2⟩, by rw [up2_r, up1_s]; rfl, by omega, hc, by rw [up2_r, up1_n (by omega)]; exact h22, fun q => by omega⟩
/-- an E that lies too deep -/
theorem L_08 {b dx dy : Nat} (ha : a = B + 8 ∨ a = B + 22) (H : Lay B w) (hX : TX bs t n) : Con K B a bs t n pd dp w f cnt vn fa ln gd (fun Ix Jx => Cl K (dx + 5) 63 [.ref (B + 2), .int (it ((0 : Nat) : Int)), .int (it ((8 : Nat) : Int))] w Ix Jx) (fun wm Im Jm => Cl K (dy + 8) 101 [.ref (B + 46)] wm Im Jm) 8 b := by
  intro c sl G Q Ix Jx wm Im Jm hO hNX hS hNM hJ hQ hD
  obtain ⟨hcn, hr1, hXT, hMR⟩ := JS_c hJ
  obtain ⟨Ix1, x1, x2, x3⟩ := s_43 (K := K) (d := dx + 3) (J := Jx) H hXT
  obtain ⟨Im1, m1, m2, m3⟩ := s_102b (K := K) (d := dy + 6) (J := Jm) hS.1 hMR (JS_s (s' := 8) (by omega) hJ).2 (Or.inr rfl)
  refine ⟨c, 1, G, 0, it 0, Ix1, Jx, wm, Im1, Jm, ?_, ?_, FX3_E ha x3, FMx_6 m2, WG_r, Nat.le_refl _, fun z => by omega, fun _ => ⟨rfl, rfl⟩, ?_⟩
  · apply cl_63 (k := 0)
    unfold f_63
    simp only [it_lit]
    rw [if_pos (by decide), if_neg (fun q => q rfl)]
    unfold f_63_21
    simp only [it_lit]
    rw [if_neg (by decide), if_neg (by decide)]
    simp only [gO_e (yt2 H), gV_e (yp2_0 H), gO_e (yt3 H)]
    rw [x1]
    rfl
  · apply cl_101 (k := 0)
    unfold f_101
    simp only [it_lit, gO_e (yt46 hS.1)]
    rw [m1]
    simp only [cI_e]
    rw [if_neg (by decide)]
  · have h2 := JS_k (sl' := sl) ha hJ x3 x2 m2 m3 (by omega) (fun z => by omega)
    obtain ⟨h, Nx, Nm, nfx, nfm, tfx, tfm, q1, q2, q3, q4, _⟩ := h2
    exact ⟨h, Nx, Nm, nfx, nfm, tfx, tfm, q1, q2, q3, q4, fun z => by omega⟩
end LVL

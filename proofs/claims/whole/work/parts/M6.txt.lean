/-! a text without a fault is kept by the reference -/
section TOKM
variable {K : Nat → Value} {B d e a ao : Nat} {w wm : aW} {Ix Im I I' X Z : aI} {Jx Jm J J' JX : aJ} {bs : Nat → Nat} {t n c r h N Nm f g k m : Nat} {nf tf : Int} {fa : Nat → Nat → Nat} {G : gG} {rc : Nat → Bool}
theorem up1_i {q : Nat} : I = sm_up1 I q (I q) := by
  funext b
  by_cases h : b = q
  · subst h; rw [up1_s]
  · rw [up1_n h]
theorem m_ok {kx : Nat} (H : Lay B w) (hT : TOK B a f fa G rc X JX Z) (hN : G.1 ≤ 200) (h13 : Z (B + 46) 13 = it G.1) (hk : 300 ≤ kx) : ∃ I', f_83_249 K kx (d + 2) (B + 46) (it 0) w (sm_up2 (sm_up2 (zI B 0 (-1) Z) (B + 46) 16 (Z (B + 46) 5)) (B + 46) 17 (Z (B + 46) 13)) J = some (some (.long (it (G.1 : Int)).toInt64), w, I', J) ∧ (∀ b, ¬ b = B + 46 → ¬ b = B + 58 → ¬ b = B + 59 → ¬ b = B + 60 → ¬ b = B + 62 → ¬ b = B + 63 → ¬ b = B + 64 → I' b = Z b) ∧ (∀ k, ¬ k = 2 → ¬ k = 3 → ¬ k = 4 → ¬ k = 16 → ¬ k = 17 → ¬ k = 35 → ¬ k = 42 → I' (B + 46) k = Z (B + 46) k) ∧ I' (B + 46) 2 = it 0 ∧ I' (B + 46) 3 = it 0 ∧ I' (B + 46) 4 = it (-1) ∧ I' (B + 46) 42 = it 0 ∧ gM (G.1, f, fa, G.2.1, G.2.2.1, G.2.2.2, rc) B I' := by
  obtain ⟨hTF, f1, f5, _, hF, _, z5, _, zf, _, hfw, hcm⟩ := hT
  obtain ⟨I0, e0⟩ : ∃ x, x = sm_up2 (sm_up2 (zI B 0 (-1) Z) (B + 46) 16 (Z (B + 46) 5)) (B + 46) 17 (Z (B + 46) 13) := ⟨_, rfl⟩
  have o0 : ∀ b, ¬ b = B + 46 → I0 b = Z b := fun b hb => by rw [e0]; unfold zI; rw [up2_n hb, up2_n hb, up2_n hb, up2_n hb, up2_n hb]
  have k0 : ∀ k, ¬ k = 2 → ¬ k = 3 → ¬ k = 4 → ¬ k = 16 → ¬ k = 17 → I0 (B + 46) k = Z (B + 46) k := fun k a1 a2 a3 a4 a5 => by rw [e0]; unfold zI; rw [up2_r, up1_n a5, up2_r, up1_n a4, up2_r, up1_n a1, up2_r, up1_n a3, up2_r, up1_n a2]
  have q17 : I0 (B + 46) 17 = it G.1 := by rw [e0, up2_r, up1_s]; exact h13
  have q16 : I0 (B + 46) 16 = it f := by rw [e0, up2_r, up1_n (by omega), up2_r, up1_s]; exact z5
  have q2 : I0 (B + 46) 2 = it 0 := by rw [e0]; unfold zI; rw [up2_r, up1_n (by omega), up2_r, up1_n (by omega), up2_r, up1_s]
  have q4 : I0 (B + 46) 4 = it (-1) := by rw [e0]; unfold zI; rw [up2_r, up1_n (by omega), up2_r, up1_n (by omega), up2_r, up1_n (by omega), up2_r, up1_s]
  have q3 : I0 (B + 46) 3 = it 0 := by rw [e0]; unfold zI; rw [up2_r, up1_n (by omega), up2_r, up1_n (by omega), up2_r, up1_n (by omega), up2_r, up1_n (by omega), up2_r, up1_s]; rfl
  rw [← e0]
  obtain ⟨I1, a1, a2, a3, a4⟩ := m_249 (K := K) (d := d + 2) (J := J) H hN G.1 0 kx I0 (by omega) (by omega) (by rw [k0 13 (by omega) (by omega) (by omega) (by omega) (by omega)]; exact h13)
  have i53 : I1 (B + 46) = I0 (B + 46) := a2 _ (by omega) (by omega)
  obtain ⟨R, b1, b2, b3⟩ := m_289 (K := K) (d := d + 2) (I := I1) (J := J) H f5 (by rw [i53, k0 5 (by omega) (by omega) (by omega) (by omega) (by omega)]; exact z5) f 0 (kx - G.1 - 1) (I1 (B + 58)) (by omega) (by omega)
  rw [← up1_i] at b1
  obtain ⟨I3, e3⟩ : ∃ x, x = sm_up2 (sm_up1 I1 (B + 58) R) (B + 46) 42 (it 0) := ⟨_, rfl⟩
  have o3 : ∀ b, ¬ b = B + 46 → ¬ b = B + 58 → I3 b = I1 b := fun b h1 h2 => by rw [e3, up2_n h1, up1_n h2]
  have k3 : ∀ k, ¬ k = 42 → I3 (B + 46) k = I0 (B + 46) k := fun k hk => by rw [e3, up2_r, up1_n hk, up1_n (by omega), i53]
  have r65 : I3 (B + 58) = R := by rw [e3, up2_n (by omega), up1_s]
  have hMc : gMc B f fa G I3 := by
    refine ⟨by rw [k3 17 (by omega)]; exact q17, by rw [k3 16 (by omega)]; exact q16, fun p hp => ?_, fun g hg => ⟨fun k hk => ?_, fun v hv => ?_⟩⟩
    · obtain ⟨c1, c2⟩ := hcm p hp (by omega)
      obtain ⟨c3, c4⟩ := a3 p (by omega) hp
      rw [o3 _ (by omega) (by omega), o3 _ (by omega) (by omega), c3, c4, o0 _ (by omega), o0 _ (by omega)]
      exact ⟨c1, c2⟩
    · obtain ⟨c0, c1, c2, c3, c4⟩ := b2 g (by omega) hg
      obtain ⟨d0, d1, d2, d3, d4⟩ := zf g hg
      have m57 : I1 (B + 50) = Z (B + 50) := by rw [a2 _ (by omega) (by omega), o0 _ (by omega)]
      have m58 : I1 (B + 51) = Z (B + 51) := by rw [a2 _ (by omega) (by omega), o0 _ (by omega)]
      have m59 : I1 (B + 52) = Z (B + 52) := by rw [a2 _ (by omega) (by omega), o0 _ (by omega)]
      have m60 : I1 (B + 53) = Z (B + 53) := by rw [a2 _ (by omega) (by omega), o0 _ (by omega)]
      rw [m57] at c0
      rw [m58] at c1
      rw [m59] at c2
      rw [m60] at c3
      rw [r65]
      have hk' : k = 0 ∨ k = 1 ∨ k = 2 ∨ k = 3 := by omega
      rcases hk' with rfl | rfl | rfl | rfl
      · exact c0.trans d0
      · exact c1.trans d1
      · exact c2.trans d2
      · exact c3.trans d3
    · obtain ⟨c0, c1, c2, c3, c4⟩ := b2 g (by omega) hg
      have m62 : I1 (B + 55) = Z (B + 55) := by rw [a2 _ (by omega) (by omega), o0 _ (by omega)]
      rw [r65, c4 v (by have := (hF g hg).2.1; omega), m62]
      exact (zf g hg).2.2.2.2 v hv
  obtain ⟨I4, s1, s2, s3⟩ := s_118 (K := K) (d := d) (J := J) H hTF (by omega) f5 hN hF (hfw hN) hMc
  have hM4 := gMc_f s2 hMc
  refine ⟨I4, ?_, fun b c1 c2 c3 c4 c5 c6 c7 => ?_, fun k c1 c2 c3 c4 c5 c6 c7 => ?_, ?_, ?_, ?_, ?_, hM4.1, hM4.2.1, fun p hp => ⟨(hM4.2.2.1 p hp).1, (hM4.2.2.1 p hp).2, (s3 p hp).1, (s3 p hp).2⟩, hM4.2.2.2⟩
  · have a1' : f_83_249 K kx (d + 2) (B + 46) (it 0) w I0 J = _ := a1
    have b1' : f_83_289 K (kx - G.1 - 1) (d + 2) (B + 46) (it 0) w I1 J = _ := b1
    rw [a1', b1']
    obtain ⟨k5, hk5⟩ : ∃ k5, kx - G.1 - 1 - f = k5 + 1 := ⟨kx - G.1 - 1 - f - 1, by omega⟩
    rw [hk5, f_83_289]
    simp only [it_lit, lt_p, gO_e (yt46 H)]
    rw [up1_n (show ¬ B + 46 = B + 58 by omega), i53, k0 5 (by omega) (by omega) (by omega) (by omega) (by omega), z5, if_pos ((it_le (by omega) (by omega) (by omega) (by omega)).mpr (by omega)), ← e3, s1]
    simp only [cV_e, gO_e (yt46 H)]
    rw [hM4.1]
  · rw [s2.1 b c1 c5 c6 c7, o3 b c1 c2, a2 b c3 c4, o0 b c1]
  · rw [s2.2 k c6, k3 k c7, k0 k c1 c2 c3 c4 c5]
  · rw [s2.2 2 (by omega), k3 2 (by omega)]; exact q2
  · rw [s2.2 3 (by omega), k3 3 (by omega)]; exact q3
  · rw [s2.2 4 (by omega), k3 4 (by omega)]; exact q4
  · rw [s2.2 42 (by omega), e3, up2_r, up1_s]
end TOKM

/-! text: the state behind it -/
section TXR
variable {K : Nat → Value} {B d e a a' bg : Nat} {w w' w0 : aW} {I I' I0 X Z : aI} {J J' JX : aJ} {bs : Nat → Nat} {t n c r h N Nm f k m : Nat} {nfx nfm tfx tfm : Int} {fa : Nat → Nat → Nat} {G : gG} {rc : Nat → Bool} {GA : aG}
theorem fk_eq {pl : Nat} (hr : r = 0 → TFl B a f fa G rc X JX Z N Nm nfx nfm tfx tfm) : fk r Nm nfm tfm = fk r N nfx tfx ∧ fpl r Nm nfm tfm pl t = fpl r N nfx tfx pl t := by
  unfold fk fpl
  by_cases r0 : r = 0
  · obtain ⟨h1, h2⟩ := hr r0
    rw [if_pos r0, if_pos r0, if_pos r0, if_pos r0, h1]
    by_cases q : nfx < 0
    · rw [if_pos q, if_pos q, if_pos q, if_pos q]
      rcases h2 with z | ⟨z1, z2⟩ | ⟨_, z2, z3, z4, z5, _⟩
      · omega
      · rw [← z1, if_neg (by omega), if_neg (by omega), if_neg (by omega), if_neg (by omega)]; exact ⟨rfl, rfl⟩
      · rw [z2, z3, z4, z5]; exact ⟨rfl, rfl⟩
    · rw [if_neg q, if_neg q, if_neg q, if_neg q]; exact ⟨rfl, rfl⟩
  · rw [if_neg r0, if_neg r0, if_neg r0, if_neg r0]; exact ⟨rfl, rfl⟩
theorem fk_0 (h : fk r N nfx tfx = 0) : r = 0 ∧ nfx < 0 ∧ tfx < 0 ∧ N ≤ 200 := by
  unfold fk at h
  by_cases r0 : r = 0
  · rw [if_pos r0] at h
    by_cases q1 : nfx < 0
    · rw [if_pos q1] at h
      by_cases q2 : tfx < 0
      · rw [if_pos q2] at h
        by_cases q3 : N ≤ 200
        · exact ⟨r0, q1, q2, q3⟩
        · rw [if_neg q3] at h; omega
      · rw [if_neg q2] at h; omega
    · rw [if_neg q1] at h; omega
  · rw [if_neg r0] at h; omega
theorem Lay_xW (H : Lay B w) : Lay B (xW B a a' w) := by
  refine ⟨H.1, fun e he => ?_⟩
  show sm_up2 (sm_up2 w.2.1 (B + 2) 1 (some a')) B 3 (some a) (B + e.1) e.2.1 = _
  by_cases h0 : e.1 = 0
  · have hn : ¬ e.2.1 = 3 := by
      have : ∀ e ∈ layP, e.1 = 0 → ¬ e.2.1 = 3 := by decide
      exact this e he h0
    have q := H.2 e he
    have e1 : B + e.1 = B := by omega
    rw [e1] at q ⊢
    rw [up2_r, up1_n hn, up2_n (by omega)]
    exact q
  · rw [up2_n (by omega)]
    by_cases h : e.1 = 2
    · have hn : ¬ e.2.1 = 1 := by
        have : ∀ e ∈ layP, e.1 = 2 → ¬ e.2.1 = 1 := by decide
        exact this e he h
      rw [h, up2_r, up1_n hn, ← h]
      exact H.2 e he
    · rw [up2_n (by omega)]
      exact H.2 e he
theorem Lay_g {k : Nat} (H : Lay B w) (h : B + 75 ≤ w.2.2.1) (g : WG' w w' k) : Lay B w' := by
  have b1 : ∀ e ∈ layT, e.1 < 75 := by decide
  have b2 : ∀ e ∈ layP, e.1 < 75 := by decide
  refine ⟨fun e he => ?_, fun e he => ?_⟩
  · rw [(g.1 (B + e.1) (by have := b1 e he; omega)).1]; exact H.1 e he
  · rw [(g.1 (B + e.1) (by have := b2 e he; omega)).2]; exact H.2 e he
set_option maxRecDepth 20000 in
theorem rR_tx (hR : rR K B w0 I0 n w I J) (H : Lay B w') (h1 : ∀ b, b < B + 75 → w'.1 b = w.1 b) (h2 : ∀ b, b < B + 75 → ¬ b = B → ¬ b = B + 2 → w'.2.1 b = w.2.1 b) (s1 : w.2.2.1 ≤ w'.2.2.1) (s2 : w'.2.2.1 ≤ w.2.2.1 + 240) (s3 : w'.2.2.2 ≤ w.2.2.2 + 6 * 240) (hf : ∀ b, (b < B ∨ b = B + 7 ∨ B + 37 ≤ b ∧ b ≤ B + 45 ∨ b = B + 47 ∨ B + 71 ≤ b ∧ b ≤ B + 73) → I' b = I b) (f8 : I' B 8 = I' (B + 46) 3) (f9 : I' B 9 = I' (B + 46) 4) (t1 : I' B 1 = it 0) (t2 : I' (B + 46) 2 = it 0) (hPM : rPM B w' I' J') : rR K B w0 I0 (n + 1) w' I' J' := by
  obtain ⟨H0, ol, ky, sz, co, fd, fl, tp, sh, pm⟩ := hR
  have z1 : B + 75 ≤ w.2.2.1 := sz.1
  have z2 : w.2.2.1 ≤ B + 75 + 300 * n := sz.2.1
  have z3 : w.2.2.2 ≤ 100000 + 2000 * n := sz.2.2
  have y1 : B + 75 ≤ w'.2.2.1 := by omega
  have y2 : w'.2.2.1 ≤ B + 75 + 300 * (n + 1) := by omega
  have y3 : w'.2.2.2 ≤ 100000 + 2000 * (n + 1) := by omega
  refine ⟨H, fun a ha => ?_, fun i hi => ?_, ⟨y1, y2, y3⟩, fun i hi => ?_, fun k hk => ?_, ⟨f8, f9⟩, ⟨0, by omega, t1, t2, fun i hi => by omega⟩, fun s hs => ?_, hPM⟩
  · rw [hf a (by omega), h1 a (by omega), h2 a (by omega) (by omega) (by omega)]; exact ol a ha
  · obtain ⟨q, q1, q2⟩ := ky i hi
    exact ⟨q, q1, by rw [h2 (B + 61) (by omega) (by omega) (by omega)]; exact q2⟩
  · rw [hf (B + 7) (by omega)]; exact co i hi
  · rw [hf (B + 37) (by omega), hf (B + 47) (by omega)]; exact fd k hk
  · rw [hf (B + 38 + 2 * s) (by omega), hf (B + 39 + 2 * s) (by omega), hf (B + 71) (by omega), hf (B + 72) (by omega), hf (B + 73) (by omega)]
    exact sh s hs
theorem rPM_tf (ha : a = B + 8 ∧ a' = B + 22 ∨ a = B + 22 ∧ a' = B + 8) (p1 : w'.2.1 B 3 = some a) (p2 : w'.2.1 (B + 2) 1 = some a') (p3 : (∃ q, w'.2.1 (B + 29) 0 = some q) ∧ J' (B + 18) 0 = 0) (TC : gTC GA) (gx : gX GA a I J) (gm : gM GA B I) (b1 : bg ≤ 1) (b2 : I B 5 = it bg) (b3 : I (B + 46) 42 = it bg) (b4 : ∃ sl : Nat, sl < 32 ∧ I (B + 29) 7 = it sl) (b5 : bg = 1 → w'.2.1 (B + 29) 0 = some a ∧ ¬ GA.1 = 0 ∧ gK GA B I) (hI : ∀ b, (a ≤ b ∧ b ≤ a + 6 ∨ B + 29 ≤ b ∧ b ≤ B + 35 ∨ B + 58 ≤ b ∧ b ≤ B + 70) → I' b = I b) (hJ : J' (a + 3) = J (a + 3)) (h5 : I' B 5 = I B 5) (h16 : I' (B + 46) 16 = I (B + 46) 16) (h17 : I' (B + 46) 17 = I (B + 46) 17) (h41 : I' (B + 46) 41 = I (B + 46) 41) (h42 : I' (B + 46) 42 = I (B + 46) 42) : rPM B w' I' J' := by
  obtain ⟨N, F, fa, oc, ar, sh, rc⟩ := GA
  have e0 := hI a (by omega)
  have e1 := hI (a + 1) (by omega)
  have e2 := hI (a + 2) (by omega)
  have e5 := hI (a + 5) (by omega)
  have e6 := hI (a + 6) (by omega)
  have r29 := hI (B + 29) (by omega)
  have r37 := hI (B + 30) (by omega)
  have r39 := hI (B + 32) (by omega)
  have r40 := hI (B + 33) (by omega)
  have r41 := hI (B + 34) (by omega)
  have r42 := hI (B + 35) (by omega)
  have r65 := hI (B + 58) (by omega)
  have r66 := hI (B + 59) (by omega)
  have r67 := hI (B + 60) (by omega)
  have r69 := hI (B + 62) (by omega)
  have r70 := hI (B + 63) (by omega)
  have r72 := hI (B + 65) (by omega)
  have r74 := hI (B + 67) (by omega)
  have r75 := hI (B + 68) (by omega)
  refine ⟨(N, F, fa, oc, ar, sh, rc), a, a', bg, ha, p1, p2, p3, TC, ?_, ?_, b1, by rw [h5]; exact b2, by rw [h42]; exact b3, by rw [r29]; exact b4, fun hb => ?_⟩
  · simp only [gX, e0, e1, e2, e5, e6, hJ] at gx ⊢
    exact gx
  · simp only [gM, h16, h17, r65, r66, r67, r69, r70] at gm ⊢
    exact gm
  · obtain ⟨q1, q2, q3⟩ := b5 hb
    refine ⟨q1, q2, ?_⟩
    unfold gK at q3 ⊢
    rw [r29, h41, r37, r39, r40, r41, r42, r72, r74, r75]
    exact q3
/-- a new program -/
theorem rPM_ok (ha : a = B + 8 ∧ a' = B + 22 ∨ a = B + 22 ∧ a' = B + 8) (p1 : w'.2.1 B 3 = some a') (p2 : w'.2.1 (B + 2) 1 = some a) (p3 : (∃ q, w'.2.1 (B + 29) 0 = some q) ∧ J' (B + 18) 0 = 0) (hT : TOK B a' f fa G rc X JX Z) (hN : G.1 ≤ 200) (x6 : X a' 6 = it G.1) (hX : ∀ b, a' ≤ b → b ≤ a' + 6 → I' b = X b) (hJ : J' (a' + 3) = JX (a' + 3)) (gm : gM (G.1, f, fa, G.2.1, G.2.2.1, G.2.2.2, rc) B I') (b2 : I' B 5 = it 0) (b3 : I' (B + 46) 42 = it 0) (b4 : ∃ sl : Nat, sl < 32 ∧ I' (B + 29) 7 = it sl) : rPM B w' I' J' := by
  obtain ⟨hTF, f1, f5, hl, hF, x7, _, xt, _, xc, hfw, hcm⟩ := hT
  refine ⟨(G.1, f, fa, G.2.1, G.2.2.1, G.2.2.2, rc), a', a, 0, by omega, p1, p2, p3, TF_tc hTF (by omega) f5 hN hF hl, ⟨?_, ?_, fun p hp => ?_, fun g hg => ?_⟩, gm, by omega, b2, b3, b4, fun z => by omega⟩
  · rw [hX a' (by omega) (by omega)]; exact x6
  · rw [hX a' (by omega) (by omega)]; exact x7
  · rw [hX (a' + 1) (by omega) (by omega), hX (a' + 2) (by omega) (by omega), hJ]
    exact xc p hp (by omega)
  · rw [hX (a' + 5) (by omega) (by omega), hX (a' + 6) (by omega) (by omega)]
    exact xt g hg
end TXR

/-! calls that only look, and findings -/
def lowk (z : Int) : Int64 := -9000000000000000 - (it z).toInt64
def xf (B k : Nat) (I : aI) : aI := sm_up2 I (B + 37) k (I (B + 37) k + it 1)
def mf (B k : Nat) (I : aI) : aI := sm_up2 I (B + 47) k (I (B + 47) k + it 1)
section CALLS
variable {K : Nat → Value} {B d n k : Nat} {w w0 : aW} {I I0 : aI} {J : aJ}
theorem s_17 {z : Int} (H : Lay B w) (h1 : 0 ≤ z) (h2 : z < 8) : Cl K (d + 1) 17 [.ref B, .int (it z)] w I J = some (some (.long (lowk z)), w, xf B z.toNat I, J) := by
  apply cl_17 (k := 0)
  unfold f_17 f_17_23
  simp (disch := omega) only [gO, gV, gA, gL, gC, gY, lt_, cI, cJ, cV, cA, ↓reduceIte, true_or, or_true, true_and, and_true, false_or, or_false, false_and, and_false, not_false_eq_true, not_true_eq_false, it_lit, it_lt, it_le, it_eq, it_add, it_sub, it_mul, it_neg, it_cl, it_nat, yt0 H, yt H, yp0_0 H, yp_0 H, yt1 H, yp0_2 H, yp_2 H, yt2 H, yp0_4 H, yp_4 H, yt29 H, yp0_6 H, yp_6 H, yt36 H, yp0_7 H, yp_7 H, yt37 H, lowk, xf]
  repeat (first | rw [if_pos (by omega)] | rw [if_neg (by omega)])
theorem s_20 {z : Int} (H : Lay B w) (h1 : 0 ≤ z) (h2 : z < 8) : Cl K (d + 1) 20 [.ref (B + 46), .int (it z)] w I J = some (some (.long (lowk z)), w, mf B z.toNat I, J) := by
  apply cl_20 (k := 0)
  unfold f_20
  simp (disch := omega) only [gO, gV, gA, gL, gC, gY, lt_, cI, cJ, cV, cA, ↓reduceIte, true_or, or_true, true_and, and_true, false_or, or_false, false_and, and_false, not_false_eq_true, not_true_eq_false, it_lit, it_lt, it_le, it_eq, it_add, it_sub, it_mul, it_neg, it_cl, it_nat, yt46 H, yt47 H, yt48 H, yt49 H, yt50 H, yt51 H, yt52 H, yt53 H, yt54 H, yt55 H, yt56 H, yt57 H, yt58 H, yt59 H, yt60 H, yt61 H, yt62 H, yt63 H, yt64 H, yt65 H, yt66 H, yt67 H, yt68 H, yt69 H, yt70 H, yt71 H, yt72 H, yt73 H, yt74 H, yp46_0 H, yp46_1 H, yp46_6 H, yp46_7 H, yp46_8 H, yp46_9 H, yp46_10 H, yp46_11 H, yp46_12 H, yp46_14 H, yp46_15 H, yp46_18 H, yp46_19 H, yp46_20 H, yp46_21 H, yp46_32 H, yp46_33 H, yp46_34 H, yp46_36 H, yp46_37 H, yp46_38 H, yp46_39 H, yp46_40 H, yp46_43 H, yp46_44 H, yp46_45 H, yp46_46 H, yp46_47 H, lowk, mf]
  repeat (first | rw [if_pos (by omega)] | rw [if_neg (by omega)])
theorem s_19 {a b c : Int32} : Cl K (d + 1) 19 [.int a, .int b, .int c] w I J = some (some (.int (if a < b then 0 else if c < a then 0 else 1)), w, I, J) := by
  apply cl_19 (k := 0)
  unfold f_19
  split
  · rfl
  · split <;> rfl
theorem rPM_fr {I' : aI} (h : rPM B w I J) (h1 : ∀ a, B + 8 ≤ a → a < B + 36 → I' a = I a) (h2 : ∀ a, B + 58 ≤ a → a < B + 71 → I' a = I a) (h3 : I' B 5 = I B 5) (h4 : I' (B + 46) 16 = I (B + 46) 16) (h5 : I' (B + 46) 17 = I (B + 46) 17) (h6 : I' (B + 46) 41 = I (B + 46) 41) (h7 : I' (B + 46) 42 = I (B + 46) 42) : rPM B w I' J := by
  obtain ⟨⟨N, F, fa, oc, ar, sh, rc⟩, a, a', bg, ha, p1, p2, p3, tc, gx, gm, b1, b2, b3, b4, b5⟩ := h
  have e0 := h1 a (by omega) (by omega)
  have e1 := h1 (a + 1) (by omega) (by omega)
  have e2 := h1 (a + 2) (by omega) (by omega)
  have e5 := h1 (a + 5) (by omega) (by omega)
  have e6 := h1 (a + 6) (by omega) (by omega)
  have r29 := h1 (B + 29) (by omega) (by omega)
  have r37 := h1 (B + 30) (by omega) (by omega)
  have r39 := h1 (B + 32) (by omega) (by omega)
  have r40 := h1 (B + 33) (by omega) (by omega)
  have r41 := h1 (B + 34) (by omega) (by omega)
  have r42 := h1 (B + 35) (by omega) (by omega)
  have r65 := h2 (B + 58) (by omega) (by omega)
  have r66 := h2 (B + 59) (by omega) (by omega)
  have r67 := h2 (B + 60) (by omega) (by omega)
  have r69 := h2 (B + 62) (by omega) (by omega)
  have r70 := h2 (B + 63) (by omega) (by omega)
  have r72 := h2 (B + 65) (by omega) (by omega)
  have r74 := h2 (B + 67) (by omega) (by omega)
  have r75 := h2 (B + 68) (by omega) (by omega)
  refine ⟨(N, F, fa, oc, ar, sh, rc), a, a', bg, ha, p1, p2, p3, tc, ?_, ?_, b1, by rw [h3]; exact b2, by rw [h7]; exact b3, by rw [r29]; exact b4, fun hb => ?_⟩
  · simp only [gX, e0, e1, e2, e5, e6] at gx ⊢
    exact gx
  · simp only [gM, h4, h5, r65, r66, r67, r69, r70] at gm ⊢
    exact gm
  · obtain ⟨q1, q2, q3⟩ := b5 hb
    refine ⟨q1, q2, ?_⟩
    unfold gK at q3 ⊢
    rw [r29, h6, r37, r39, r40, r41, r42, r72, r74, r75]
    exact q3
theorem xf_r {B k a : Nat} {I : aI} (h : ¬ a = B + 37) : xf B k I a = I a := up2_n h
theorem mf_r {B k a : Nat} {I : aI} (h : ¬ a = B + 47) : mf B k I a = I a := up2_n h
theorem fnd (hk : k < 8) (h : rR K B w0 I0 n w I J) : rR K B w0 I0 (n + 1) w (mf B k (xf B k I)) J := by
  obtain ⟨H, ol, ky, sz, co, fd, fl, tp, sh, pm⟩ := h
  have e : ∀ a, ¬ a = B + 37 → ¬ a = B + 47 → mf B k (xf B k I) a = I a := fun a h1 h2 => by rw [mf_r h2, xf_r h1]
  refine ⟨H, fun a ha => ?_, ky, ⟨sz.1, by have := sz.2.1; omega, by have := sz.2.2; omega⟩, ?_, fun j hj => ?_, ?_, ?_, fun s hs => ?_, ?_⟩
  · rw [e a (by omega) (by omega)]
    exact ol a ha
  · intro i hi
    rw [e (B + 7) (by omega) (by omega)]
    exact co i hi
  · have h1 := fd j hj
    have h2 := fd k hk
    simp only [mf, xf, up2_a, adc, up1_a]
    simp only [show ¬ (47 = 37) by decide, show ¬ (37 = 47) by decide, if_false, if_true, up1_a]
    split
    · rw [h2]
    · exact h1
  · unfold rFl
    rw [e B (by omega) (by omega), e (B + 46) (by omega) (by omega)]
    exact fl
  · unfold rTp
    rw [e B (by omega) (by omega), e (B + 46) (by omega) (by omega), e (B + 1) (by omega) (by omega), e (B + 48) (by omega) (by omega)]
    exact tp
  · rw [e (B + 38 + 2 * s) (by omega) (by omega), e (B + 39 + 2 * s) (by omega) (by omega), e (B + 71) (by omega) (by omega), e (B + 72) (by omega) (by omega), e (B + 73) (by omega) (by omega)]
    exact sh s hs
  · exact rPM_fr pm (fun a h1 h2 => e a (by omega) (by omega)) (fun a h1 h2 => e a (by omega) (by omega)) (by rw [e B (by omega) (by omega)]) (by rw [e (B + 46) (by omega) (by omega)]) (by rw [e (B + 46) (by omega) (by omega)]) (by rw [e (B + 46) (by omega) (by omega)]) (by rw [e (B + 46) (by omega) (by omega)])
theorem rR_up (h : rR K B w0 I0 n w I J) : rR K B w0 I0 (n + 1) w I J := by
  obtain ⟨H, ol, ky, sz, co, fd, fl, tp, sh, pm⟩ := h
  exact ⟨H, ol, ky, ⟨sz.1, by have := sz.2.1; omega, by have := sz.2.2; omega⟩, co, fd, fl, tp, sh, pm⟩
/-- the script stands where it stood -/
def gSc (b L B : Nat) (xs : Nat → Int32) (w0 : aW) (I0 : aI) : Prop := b < B ∧ w0.1 b = some (20, L) ∧ ∀ j, j < L → I0 b j = xs j
theorem sc_of {b L : Nat} {xs : Nat → Int32} (hs : gSc b L B xs w0 I0) (H : Lay B w) (hw : w.1 b = w0.1 b) (hI : I b = I0 b) : Sc b B (B + 46) L xs w I := by
  obtain ⟨h1, h2, h3⟩ := hs
  exact ⟨hw.trans h2, fun j hj => by rw [hI]; exact h3 j hj, yt H, yt46 H⟩
section PR
variable {b L yx ym : Nat} {xs : Nat → Int32} {as : List Value}
theorem pr_fd (hs : gSc b L B xs w0 I0) (hR : rR K B w0 I0 n w I J) (z : Int) (h1 : 0 ≤ z) (h2 : z < 8) (hx : Cl K d yx (.ref B :: as) w I J = some (some (.long (lowk z)), w, xf B z.toNat I, J)) (hm : ∀ I' : aI, (∀ a, ¬ a = B + 37 → I' a = I a) → Cl K d ym (.ref (B + 46) :: as) w I' J = some (some (.long (lowk z)), w, mf B z.toNat I', J)) :
    ∃ (v : Int64) (w1 : aW) (I1 : aI) (J1 : aJ) (w2 : aW) (I2 : aI) (J2 : aJ), Cl K d yx (.ref B :: as) w I J = some (some (.long v), w1, I1, J1) ∧ Sc b B (B + 46) L xs w1 I1 ∧ Cl K d ym (.ref (B + 46) :: as) w1 I1 J1 = some (some (.long v), w2, I2, J2) ∧ rR K B w0 I0 (n + 1) w2 I2 J2 :=
  ⟨_, _, _, _, _, _, _, hx, sc_of hs hR.1 (hR.2.1 b hs.1).2.1 (by rw [xf_r (by have := hs.1; omega)]; exact (hR.2.1 b hs.1).1), hm _ (fun a h => xf_r h), fnd (by omega) hR⟩
theorem pr_eq (hs : gSc b L B xs w0 I0) (hR : rR K B w0 I0 n w I J) (v : Int64) (hx : Cl K d yx (.ref B :: as) w I J = some (some (.long v), w, I, J)) (hm : Cl K d ym (.ref (B + 46) :: as) w I J = some (some (.long v), w, I, J)) :
    ∃ (v : Int64) (w1 : aW) (I1 : aI) (J1 : aJ) (w2 : aW) (I2 : aI) (J2 : aJ), Cl K d yx (.ref B :: as) w I J = some (some (.long v), w1, I1, J1) ∧ Sc b B (B + 46) L xs w1 I1 ∧ Cl K d ym (.ref (B + 46) :: as) w1 I1 J1 = some (some (.long v), w2, I2, J2) ∧ rR K B w0 I0 (n + 1) w2 I2 J2 :=
  ⟨_, _, _, _, _, _, _, hx, sc_of hs hR.1 (hR.2.1 b hs.1).2.1 (hR.2.1 b hs.1).1, hm, rR_up hR⟩
end PR
end CALLS

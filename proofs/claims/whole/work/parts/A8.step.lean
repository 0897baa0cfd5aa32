section STEP
variable {K : Nat → Value} {B d s m a N F hi pr j f p b : Nat} {fa : Nat → Nat → Nat} {oc ar : Nat → Nat} {sh : Nat → List Nat} {rc : Nat → Bool} {w : aW} {I I' : aI} {J : aJ} {c n : Nat → Int32}
theorem s_143h (H : Lay B w) (h0 : ¬ I (B + 30) 0 = it 0) : Cl K (d + 2) 143 [.ref (B + 29)] w I J = some (some (.int (it 0)), w, I, J) := by
  apply cl_143 (k := 0)
  unfold f_143
  simp only [it_lit, gO_e (yt29 H), gV_e (yp29_1 H), gc0 H, gc1 H, gc2 H, gc3 H, gc4 H, gc5 H, gc6 H, cl0, cl1, cl2, cl3, cl4, cl5, cl6, cI_e, cV_e, cA_e, cJ_e, lt_]
  rw [s_142 H]
  simp only [gO_e (yt29 H), gV_e (yp29_1 H), gc0 H, gc1 H, gc2 H, gc3 H, gc4 H, gc5 H, gc6 H, cl0, cl1, cl2, cl3, cl4, cl5, cl6, cI_e, cV_e, cA_e, cJ_e, lt_, bi0]
  rw [if_neg (fun q => q h0)]
/-- both loops -/
theorem lp_step {nn : Nat} (H : Lay B w) (hp : w.2.1 (B + 29) 0 = some a) (ha : a = B + 8 ∨ a = B + 22) (TC : gTC (N, F, fa, oc, ar, sh, rc)) (n400 : nn ≤ 400) : ∀ (q dn : Nat) (I Ih : aI), dn + q = nn → gX (N, F, fa, oc, ar, sh, rc) a I J → gM (N, F, fa, oc, ar, sh, rc) B Ih → gK2 (N, F, fa, oc, ar, sh, rc) B I Ih →
    ∃ (v : Int64) (I1 I2 : aI), f_141_51 K (q + 2) (d + 6) B (it nn) (it dn) w I J = some (some (.long v), w, I1, J) ∧ f_176_49 K (q + 2) (d + 6) (B + 46) (it nn) (it dn) w Ih J = some (some (.long v), w, I2, J) ∧ cfr B I1 I ∧ mfr B I2 Ih ∧ gK2 (N, F, fa, oc, ar, sh, rc) B I1 I2 := by
  intro q
  induction q with
  | zero =>
    intro dn I Ih hq gx gm K2
    refine ⟨(it dn).toInt64, I, Ih, ?_, ?_, fun b _ _ _ => rfl, ⟨fun b _ _ => rfl, fun k _ => rfl⟩, K2⟩
    · rw [f_141_51]
      simp only [lt_]
      rw [if_pos ((it_le (by omega) (by omega) (by omega) (by omega)).mpr (by omega))]
      rfl
    · rw [f_176_49]
      simp only [lt_]
      rw [if_pos ((it_le (by omega) (by omega) (by omega) (by omega)).mpr (by omega))]
      rfl
  | succ q ih =>
    intro dn I Ih hq gx gm K2
    have cH : I (B + 30) 0 = Ih (B + 65) 0 := by
      obtain ⟨kp, sl, k30, s32, h8, h41, h7, R, M, Hs⟩ := K2
      exact R.1
    have pX : f_141_51 K (q + 1 + 2) (d + 6) B (it nn) (it dn) w I J = cI (Cl K (d + 6) 143 [.ref (B + 29)] w I J) fun x_5 w_2 I_3 J_4 => if x_5 = it 0 then some (some (.long (it (dn : Int)).toInt64), w_2, I_3, J_4) else gO w_2 5 B (gV w_2 B 4 fun q_6 => gO w_2 0 q_6 (cV (Cl K (d + 6) 175 [.ref q_6] w_2 I_3 J_4) fun w_7 I_8 J_9 => f_141_51 K (q + 2) (d + 6) B (it nn) (it (dn + 1)) w_7 I_8 J_9)) := by
      rw [f_141_51]
      simp only [it_lit, lt_, it_add, gO_e (yt H), gV_e (yp_4 H), gO_e (yt29 H)]
      rw [if_neg (fun q => by have := (it_le (by omega) (by omega) (by omega) (by omega)).mp q; omega)]
      rfl
    have pM : f_176_49 K (q + 1 + 2) (d + 6) (B + 46) (it nn) (it dn) w Ih J = if ¬ Ih (B + 65) 0 = it 0 then some (some (.long (it (dn : Int)).toInt64), w, Ih, J) else cV (Cl K (d + 6) 177 [.ref (B + 65), .int (it 0), .ref (B + 66), .int (it 0), .int (it 360)] w Ih J) fun w_4 I_5 J_6 => gO w_4 6 (B + 46) (cI (Cl K (d + 6) 178 [.ref (B + 46)] w_4 I_5 J_6) fun x_10 w_7 I_8 J_9 => if x_10 = it 0 then f_176_49 K (q + 2) (d + 6) (B + 46) (it nn) (it dn) w_7 I_8 J_9 else gO w_7 6 (B + 46) (cV (Cl K (d + 6) 196 [.ref (B + 46)] w_7 I_8 J_9) fun w_11 I_12 J_13 => f_176_49 K (q + 2) (d + 6) (B + 46) (it nn) (it (dn + 1)) w_11 I_12 J_13)) := by
      rw [f_176_49]
      simp only [it_lit, lt_, it_add, gO_e (yt46 H), gV_e (yp46_36 H), gV_e (yp46_37 H), gn0 H, cl0]
      rw [if_neg (fun q => by have := (it_le (by omega) (by omega) (by omega) (by omega)).mp q; omega)]
      rfl
    by_cases n0 : Ih (B + 65) 0 = it 0
    · rcases it_go (K := K) (d := d) H hp ha TC gx gm K2 n0 with ⟨I1', I1, Ia, Ib, I2, c1, c2, c3, c4, c5, c6, c7, c8⟩ | ⟨I1, Ia, I2, c1, c3, c4, c5, c7, c8, c9⟩
      · obtain ⟨v, J1, J2, r1, r2, r3, r4, r5⟩ := ih (dn + 1) I1 I2 (by omega) (gX_c ha (fun b b1 b2 => c3 b (by omega) (by omega) (by omega)) gx) (by
          have h53 : ∀ k, ¬ k = 41 → I2 (B + 46) k = Ih (B + 46) k := c7.2
          obtain ⟨y1, y2, y3, y4⟩ := gm
          refine ⟨by rw [h53 _ (by omega)]; exact y1, by rw [h53 _ (by omega)]; exact y2, ?_, ?_⟩
          · rw [c7.1 (B + 59) (by omega) (by omega), c7.1 (B + 60) (by omega) (by omega), c7.1 (B + 62) (by omega) (by omega), c7.1 (B + 63) (by omega) (by omega)]; exact y3
          · rw [c7.1 (B + 58) (by omega) (by omega)]; exact y4) c8
        refine ⟨v, J1, J2, ?_, ?_, fun b b1 b2 b3 => (r3 b b1 b2 b3).trans (c3 b b1 b2 b3), ⟨fun b b1 b2 => (r4.1 b b1 b2).trans (c7.1 b b1 b2), fun k hk => (r4.2 k hk).trans (c7.2 k hk)⟩, r5⟩
        · rw [pX, c1, cI_e, if_neg (by decide), gO_e (yt H), gV_e (yp_4 H), gO_e (yt29 H), c2, cV_e]
          exact r1
        · rw [pM, if_neg (fun q => q n0), c4, cV_e, gO_e (yt46 H), c5, cI_e, if_neg (by decide), gO_e (yt46 H), c6, cV_e]
          exact r2
      · refine ⟨(it dn).toInt64, I1, I2, ?_, ?_, c3, c7, c8⟩
        · rw [pX, c1, cI_e, if_pos rfl]
        · rw [pM, if_neg (fun q => q n0), c4, cV_e, gO_e (yt46 H), c5, cI_e, if_pos rfl, f_176_49]
          simp only [it_lit, lt_, it_add, gO_e (yt46 H), gV_e (yp46_36 H), gn0 H, cl0]
          rw [if_neg (fun q => by have := (it_le (by omega) (by omega) (by omega) (by omega)).mp q; omega), if_pos c9]
          rfl
    · refine ⟨(it dn).toInt64, I, Ih, ?_, ?_, fun b _ _ _ => rfl, ⟨fun b _ _ => rfl, fun k _ => rfl⟩, K2⟩
      · rw [pX, s_143h (d := d + 4) H (by rw [cH]; exact n0), cI_e, if_pos rfl]
      · rw [pM, if_pos n0]
/-- what holds when only the machines have changed -/
theorem rR_ma {n : Nat} {w0 w2 : aW} {I0 I2 : aI} (hR : rR K B w0 I0 n w I J) (L2 : Lay B w2) (hw1 : w2.1 = w.1) (hw3 : w2.2.2 = w.2.2) (hw2 : ∀ b, ¬ b = B + 29 → w2.2.1 b = w.2.1 b) (hf : ∀ b, ¬ b = B → ¬ (B + 29 ≤ b ∧ b ≤ B + 35) → ¬ b = B + 46 → ¬ (B + 65 ≤ b ∧ b ≤ B + 70) → I2 b = I b) (hB : ∀ k, ¬ k = 5 → I2 B k = I B k) (hM : ∀ k, ¬ k = 41 → ¬ k = 42 → I2 (B + 46) k = I (B + 46) k) (hpm : rPM B w2 I2 J) : rR K B w0 I0 (n + 1) w2 I2 J := by
  obtain ⟨H, ol, ky, sz, co, fd, fl, tp, sh, pm⟩ := hR
  refine ⟨L2, fun a ha => ?_, fun i hi => ?_, ?_, fun i hi => ?_, fun k hk => ?_, ?_, ?_, fun s hs => ?_, hpm⟩
  · obtain ⟨o1, o2, o3⟩ := ol a ha
    exact ⟨by rw [hf a (by omega) (by omega) (by omega) (by omega)]; exact o1, by rw [hw1]; exact o2, by rw [hw2 a (by omega)]; exact o3⟩
  · obtain ⟨q, q1, q2⟩ := ky i hi
    exact ⟨q, q1, by rw [hw2 _ (by omega)]; exact q2⟩
  · unfold rSz
    rw [hw3]
    exact ⟨sz.1, by have := sz.2.1; omega, by have := sz.2.2; omega⟩
  · rw [hf _ (by omega) (by omega) (by omega) (by omega)]; exact co i hi
  · rw [hf _ (by omega) (by omega) (by omega) (by omega), hf _ (by omega) (by omega) (by omega) (by omega)]; exact fd k hk
  · unfold rFl
    rw [hB _ (by omega), hB _ (by omega), hM _ (by omega) (by omega), hM _ (by omega) (by omega)]
    exact fl
  · obtain ⟨t, t1, t2, t3, t4⟩ := tp
    refine ⟨t, t1, by rw [hB _ (by omega)]; exact t2, by rw [hM _ (by omega) (by omega)]; exact t3, ?_⟩
    rw [hf (B + 1) (by omega) (by omega) (by omega) (by omega), hf (B + 48) (by omega) (by omega) (by omega) (by omega)]
    exact t4
  · have := sh s hs
    rw [hf (B + 38 + 2 * s) (by omega) (by omega) (by omega) (by omega), hf (B + 39 + 2 * s) (by omega) (by omega) (by omega) (by omega), hf (B + 71) (by omega) (by omega) (by omega) (by omega), hf (B + 72) (by omega) (by omega) (by omega) (by omega), hf (B + 73) (by omega) (by omega) (by omega) (by omega)]
    exact this
/-- code and machine, when only the machines' rows have changed -/
theorem rPM_m {G : aG} {a' : Nat} {I2 : aI} (h1 : a = B + 8 ∧ a' = B + 22 ∨ a = B + 22 ∧ a' = B + 8) (p1 : w.2.1 B 3 = some a) (p2 : w.2.1 (B + 2) 1 = some a') (hp : w.2.1 (B + 29) 0 = some a) (j0 : J (B + 18) 0 = 0) (TC : gTC G) (gx : gX G a I2 J) (gm : gM G B I2) (b2 : I2 B 5 = it 1) (b3 : I2 (B + 46) 42 = it 1) (hN : ¬ G.1 = 0) (K2 : gK2 G B I2 I2) : rPM B w I2 J := by
  refine ⟨G, a, a', 1, h1, p1, p2, ⟨⟨a, hp⟩, j0⟩, TC, gx, gm, by omega, b2, b3, ?_, fun _ => ⟨hp, hN, ?_⟩⟩
  · obtain ⟨kp, sl, k30, s32, h8, h41, h7, R⟩ := K2
    exact ⟨sl, s32, h7⟩
  · exact K2
end STEP

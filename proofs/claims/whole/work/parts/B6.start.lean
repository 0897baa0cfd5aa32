section START
variable {K : Nat → Value} {B d s m a N F hi pr j f p b : Nat} {fa : Nat → Nat → Nat} {oc ar : Nat → Nat} {sh : Nat → List Nat} {rc : Nat → Bool} {w : aW} {I I' : aI} {J : aJ} {c n : Nat → Int32}
/-- a row is filled -/
theorem l_36 {q len : Nat} {v : Int32} (h1 : w.1 q = some (10, len)) (b3 : len < 1000000) : ∀ (m i : Nat), i + m = len → f_36_5 K (m + 1) d q v (it i) (it len) w (sm_up1 I q (fun k => if k < i then v else I q k)) J = some (none, w, sm_up1 I q (fun k => if k < len then v else I q k), J) := by
  intro m
  induction m with
  | zero =>
    intro i hi
    rw [f_36_5]
    simp only [lt_]
    rw [if_pos ((it_le (by omega) (by omega) (by omega) (by omega)).mpr (by omega)), show i = len by omega]
  | succ m ih =>
    intro i hi
    rw [f_36_5]
    simp only [it_lit, lt_, it_add]
    rw [if_neg (fun q => by have := (it_le (by omega) (by omega) (by omega) (by omega)).mp q; omega), gA_e h1 (Or.inl rfl) (ix (by omega) (by omega) (by omega)), it_n (by omega)]
    have e2 : sm_up2 (sm_up1 I q (fun k => if k < i then v else I q k)) q i v = sm_up1 I q (fun k => if k < i + 1 then v else I q k) := by
      unfold sm_up2
      rw [up1_s, up1_up1]
      congr 1
      funext k
      simp only [up1_a]
      by_cases e : k = i
      · rw [if_pos e, if_pos (by omega)]
      · rw [if_neg e]
        by_cases e3 : k < i
        · rw [if_pos e3, if_pos (by omega)]
        · rw [if_neg e3, if_neg (by omega)]
    rw [e2]
    exact ih (i + 1) (by omega)
theorem s_36 {q len : Nat} {v : Int32} (h1 : w.1 q = some (10, len)) (b3 : len < 1000000) : Cl K (d + 1) 36 [.ref q, .int v] w I J = some (none, w, sm_up1 I q (fun k => if k < len then v else I q k), J) := by
  apply cl_36 (k := len + 1)
  unfold f_36
  rw [gL_e h1 (by omega), it_nat]
  have e : sm_up1 I q (fun k => if k < 0 then v else I q k) = I := by
    have : (fun k => if k < 0 then v else I q k) = I q := by
      funext k
      rw [if_neg (by omega)]
    rw [this, up1_id]
  have := l_36 (K := K) (d := d) (I := I) (J := J) (v := v) h1 b3 len 0 (by omega)
  rw [e] at this
  exact this
theorem Lay_29 (H : Lay B w) : Lay B (w.1, sm_up2 w.2.1 (B + 29) 0 (some a), w.2.2) := by
  refine ⟨H.1, fun e he => ?_⟩
  show sm_up2 w.2.1 (B + 29) 0 (some a) (B + e.1) e.2.1 = _
  by_cases h : e.1 = 29
  · have hn : ¬ e.2.1 = 0 := by
      have : ∀ e ∈ layP, e.1 = 29 → ¬ e.2.1 = 0 := by decide
      exact this e he h
    rw [h, up2_r, up1_n hn, ← h]
    exact H.2 e he
  · rw [up2_n (by omega)]
    exact H.2 e he
theorem PL_w {w' : aW} (ha : a = B + 8 ∨ a = B + 22) (h1 : w'.1 = w.1) (h2 : ∀ b, ¬ b = B + 29 → w'.2.1 b = w.2.1 b) (hP : PL w a) : PL w' a := by
  obtain ⟨q0, q1, q2, q3, q4, q5, q6, q7, q8, q9, q10, q11, q12⟩ := hP
  have ea := h2 a (by omega)
  unfold PL
  rw [h1, ea]
  exact ⟨q0, q1, q2, q3, q4, q5, q6, q7, q8, q9, q10, q11, q12⟩
def c0S (c : Nat → Int32) (m p : Int32) : Nat → Int32 := sm_up1 (sm_up1 (sm_up1 (fun k => if k < 327 then it 0 else c k) 4 (it 1)) 87 m) 88 p
def n0S (n : Nat → Int32) (m p : Int32) : Nat → Int32 := sm_up1 (sm_up1 (sm_up1 (fun k => if k < 360 then it 0 else n k) 1 (it 1)) 70 m) 71 p
theorem s_139 {F : Nat} (H : Lay B w) (ha : a = B + 8 ∨ a = B + 22) (f1 : 1 ≤ F) (f5 : F ≤ 5) (i7 : I a 7 = it F) {at0 : Int32} (i0 : I (a + 5) (4 * (F - 1)) = at0) : Cl K (d + 2) 139 [.ref (B + 29), .ref a] w I J = some (none, (w.1, sm_up2 w.2.1 (B + 29) 0 (some a), w.2.2), sm_up1 (sm_up2 I (B + 29) 8 (it 0)) (B + 30) (c0S (I (B + 30)) (it ((F - 1 : Nat) : Int)) at0), J) := by
  have H1 : Lay B (w.1, sm_up2 w.2.1 (B + 29) 0 (some a), w.2.2) := Lay_29 H
  have hp1 : (w.1, sm_up2 w.2.1 (B + 29) 0 (some a), w.2.2).2.1 (B + 29) 0 = some a := by
    show sm_up2 w.2.1 (B + 29) 0 (some a) (B + 29) 0 = some a
    rw [up2_r, up1_s]
  have hP1 : PL (w.1, sm_up2 w.2.1 (B + 29) 0 (some a), w.2.2) a := PLx H1 ha
  apply cl_139 (k := 0)
  unfold f_139
  simp only [it_lit, gO_e (yt29 H), lt_, gO_e (yt29 H1), gV_e (yp29_1 H1)]
  rw [s_36 (d := d) (yt30 H1) (by omega)]
  simp only [cV_e, gO_e (yt29 H1), gV_e (yp29_1 H1), gV_e hp1, gO_e hP1.1]
  have r1 : sm_up2 (sm_up1 I (B + 30) (fun k => if k < 327 then it 0 else I (B + 30) k)) (B + 29) 8 (it 0) a 7 = it F := by
    rw [up2_n (by omega), up1_n (by omega)]; exact i7
  rw [r1, it_sub, show (F : Int) - 1 = ((F - 1 : Nat) : Int) by omega]
  rw [gA_e (yt30 H1) (Or.inl rfl) (ix (z := 4) (by omega) (by omega) (by omega)), gA_e (yt30 H1) (Or.inl rfl) (ix (z := 87) (by omega) (by omega) (by omega))]
  have e52 := fun (I' : aI) => s_52 (K := K) (d := d) (J := J) (I := I') (x := ((F - 1 : Nat) : Int)) (y := 0) hP1 (by omega) (by omega) (by omega) (by omega)
  rw [e52]
  simp only [cI_e]
  rw [gA_e (yt30 H1) (Or.inl rfl) (ix (z := 88) (by omega) (by omega) (by omega))]
  have c4 : (it 4).toNatClampNeg = 4 := rfl
  have c87 : (it 87).toNatClampNeg = 87 := it_n (k := 87) (by omega)
  have c88 : (it 88).toNatClampNeg = 88 := it_n (k := 88) (by omega)
  rw [c4, c87, c88, show (((F - 1 : Nat) : Int) * 4 + 0).toNat = 4 * (F - 1) by omega]
  have r5 : sm_up2 (sm_up2 (sm_up2 (sm_up1 I (B + 30) (fun k => if k < 327 then it 0 else I (B + 30) k)) (B + 29) 8 (it 0)) (B + 30) 4 (it 1)) (B + 30) 87 (it ((F - 1 : Nat) : Int)) (a + 5) (4 * (F - 1)) = at0 := by
    rw [up2_n (by omega), up2_n (by omega), up2_n (by omega), up1_n (by omega)]; exact i0
  rw [r5]
  congr 4
  funext b
  by_cases h1 : b = B + 30
  · subst h1
    rw [up1_s, up2_r, up2_r, up2_r, up2_n (by omega), up1_s]
    rfl
  · rw [up1_n h1, up2_n h1, up2_n h1, up2_n h1]
    by_cases h2 : b = B + 29
    · subst h2
      rw [up2_r, up2_r, up1_n (by omega)]
    · rw [up2_n h2, up2_n h2, up1_n h1]
theorem l_140 {F N : Nat} {at0 : Int32} (H : Lay B w) (f1 : 1 ≤ F) (f5 : F ≤ 5) (i16 : I (B + 46) 16 = it F) (i17 : I (B + 46) 17 = it N) (i0 : I (B + 58) (10 * (F - 1)) = at0) : ∀ (m i : Nat), i + m = 360 → f_140_16 K (m + 1) d (B + 46) (it i) w (sm_up1 I (B + 65) (fun k => if k < i then it 0 else I (B + 65) k)) J = some (some (.long (it (N : Int)).toInt64), w, sm_up2 (sm_up2 (sm_up1 I (B + 65) (n0S (I (B + 65)) (it ((F - 1 : Nat) : Int)) at0)) (B + 46) 41 (it 0)) (B + 46) 42 (it 1), J) := by
  intro m
  induction m with
  | zero =>
    intro i hi
    have e : i = 360 := by omega
    subst e
    have r53 : ∀ (X : Nat → Int32) (k : Nat), sm_up1 I (B + 65) X (B + 46) k = I (B + 46) k := fun X k => by rw [up1_n (by omega)]
    rw [f_140_16]
    simp only [it_lit, lt_, gO_e (yt46 H), gV_e (yp46_36 H), gV_e (yp46_18 H), gw1 H]
    rw [if_pos ((it_le (by omega) (by omega) (by omega) (by omega)).mpr (by omega))]
    rw [gA_e (yt65 H) (Or.inl rfl) (ix (z := 70) (by omega) (by omega) (by omega)), gA_e (yt65 H) (Or.inl rfl) (ix (z := 71) (by omega) (by omega) (by omega))]
    have u2 : ∀ (Y : aI) (k : Nat) (x : Int32), sm_up2 Y (B + 65) k x (B + 46) = Y (B + 46) := fun Y k x => up2_n (by omega)
    have u5 : ∀ (Y : aI) (k : Nat) (x : Int32), sm_up2 Y (B + 65) k x (B + 58) = Y (B + 58) := fun Y k x => up2_n (by omega)
    simp only [u2, r53, i16, it_sub, it_mul]
    rw [gA_e (yt58 H) (Or.inl rfl) (ix (by omega) (by omega) (by omega)), it_cl (a := 10 * ((F : Int) - 1)) (by omega) (by omega), show (10 * ((F : Int) - 1)).toNat = 10 * (F - 1) by omega, show (F : Int) - 1 = ((F - 1 : Nat) : Int) by omega]
    have c1 : (it 1).toNatClampNeg = 1 := rfl
    have c70 : (it 70).toNatClampNeg = 70 := it_n (k := 70) (by omega)
    have c71 : (it 71).toNatClampNeg = 71 := it_n (k := 71) (by omega)
    rw [c1, c70, c71, u5, u5, up1_n (k := B + 65) (j := B + 58) (by omega), i0]
    have r17 : ∀ (Y : aI) (x y : Int32), sm_up2 (sm_up2 Y (B + 46) 41 x) (B + 46) 42 y (B + 46) 17 = Y (B + 46) 17 := fun Y x y => by rw [up2_r, up1_n (by omega), up2_r, up1_n (by omega)]
    rw [r17, u2, u2, u2, r53, i17]
    have e72 : sm_up2 (sm_up2 (sm_up2 (sm_up1 I (B + 65) (fun k => if k < 360 then it 0 else I (B + 65) k)) (B + 65) 1 (it 1)) (B + 65) 70 (it ((F - 1 : Nat) : Int))) (B + 65) 71 at0 = sm_up1 I (B + 65) (n0S (I (B + 65)) (it ((F - 1 : Nat) : Int)) at0) := by
      funext b
      by_cases h1 : b = B + 65
      · subst h1
        rw [up1_s, up2_r, up2_r, up2_r, up1_s]
        rfl
      · rw [up1_n h1, up2_n h1, up2_n h1, up2_n h1, up1_n h1]
    rw [e72]
  | succ m ih =>
    intro i hi
    rw [f_140_16]
    simp only [it_lit, lt_, gO_e (yt46 H), gV_e (yp46_36 H), it_add]
    rw [if_neg (fun q => by have := (it_le (by omega) (by omega) (by omega) (by omega)).mp q; omega), gA_e (yt65 H) (Or.inl rfl) (ix (by omega) (by omega) (by omega)), it_n (by omega)]
    have e2 : sm_up2 (sm_up1 I (B + 65) (fun k => if k < i then it 0 else I (B + 65) k)) (B + 65) i (it 0) = sm_up1 I (B + 65) (fun k => if k < i + 1 then it 0 else I (B + 65) k) := by
      unfold sm_up2
      rw [up1_s, up1_up1]
      congr 1
      funext k
      simp only [up1_a]
      by_cases e : k = i
      · rw [if_pos e, if_pos (by omega)]
      · rw [if_neg e]
        by_cases e3 : k < i
        · rw [if_pos e3, if_pos (by omega)]
        · rw [if_neg e3, if_neg (by omega)]
    rw [e2]
    exact ih (i + 1) (by omega)
/-- a machine that is begun -/
theorem st_R {m p : Int32} : mRel fa (c0S c m p) (n0S n m p) := by
  have cz : ∀ i, i < 327 → ¬ i = 4 → ¬ i = 87 → ¬ i = 88 → c0S c m p i = it 0 := fun i h1 h2 h3 h4 => by
    unfold c0S; rw [up1_n h4, up1_n h3, up1_n h2, if_pos h1]
  have nz : ∀ i, i < 360 → ¬ i = 1 → ¬ i = 70 → ¬ i = 71 → n0S n m p i = it 0 := fun i h1 h2 h3 h4 => by
    unfold n0S; rw [up1_n h4, up1_n h3, up1_n h2, if_pos h1]
  have n1 : n0S n m p 1 = it 1 := by unfold n0S; rw [up1_n (by omega), up1_n (by omega), up1_s]
  refine ⟨?_, ?_, ?_, ?_, ?_, ?_, ?_, fun i hi => ⟨?_, ?_⟩, fun i hi => ?_, fun j hj => ?_, fun o o1 o2 => ?_⟩
  · rw [cz _ (by omega) (by omega) (by omega) (by omega), nz _ (by omega) (by omega) (by omega) (by omega)]
  · rw [cz _ (by omega) (by omega) (by omega) (by omega), nz _ (by omega) (by omega) (by omega) (by omega)]
  · rw [cz _ (by omega) (by omega) (by omega) (by omega), nz _ (by omega) (by omega) (by omega) (by omega)]
  · rw [cz _ (by omega) (by omega) (by omega) (by omega), nz _ (by omega) (by omega) (by omega) (by omega)]
  · rw [n1]; unfold c0S; rw [up1_n (by omega), up1_n (by omega), up1_s]
  · rw [cz _ (by omega) (by omega) (by omega) (by omega), nz _ (by omega) (by omega) (by omega) (by omega)]
  · rw [cz _ (by omega) (by omega) (by omega) (by omega), nz _ (by omega) (by omega) (by omega) (by omega)]
  · rw [cz _ (by omega) (by omega) (by omega) (by omega), nz _ (by omega) (by omega) (by omega) (by omega)]
  · rw [cz _ (by omega) (by omega) (by omega) (by omega), nz _ (by omega) (by omega) (by omega) (by omega)]
  · rw [cz _ (by omega) (by omega) (by omega) (by omega), nz _ (by omega) (by omega) (by omega) (by omega)]
  · rw [n1, it_toInt (by omega) (by omega)] at hj ⊢
    have j0 : j = 0 := by omega
    subst j0
    refine ⟨?_, ?_, fun f v _ _ _ v6 => ?_⟩
    · unfold c0S n0S
      rw [up1_n (by omega), up1_s, up1_n (by omega), up1_s]
    · rw [if_pos (by omega)]
      unfold c0S n0S
      rw [up1_s, up1_s]
    · rw [cz _ (by omega) (by omega) (by omega) (by omega), nz _ (by omega) (by omega) (by omega) (by omega)]
  · rw [nz (154 + 12 * o) (by omega) (by omega) (by omega) (by omega)]
    refine ⟨?_, fun h => absurd h (by decide), fun h => absurd h (by decide)⟩
    rw [cz _ (by omega) (by omega) (by omega) (by omega)]
theorem st_M (TC : gTC (N, F, fa, oc, ar, sh, rc)) (hF : ¬ F = 0) : mOK (N, F, fa, oc, ar, sh, rc) (n0S n (it ((F - 1 : Nat) : Int)) (it (fa (F - 1) 0))) := by
  obtain ⟨g1, g2, g3, g4, g5, g6, g7, g8, g9⟩ := tc_g TC
  have q1 := g7 (F - 1) (by omega)
  have q2 := g8 (F - 1) (by omega)
  have q3 := g3 (F - 1) (by omega)
  have q9 := g9 (F - 1) (by omega)
  have nz : ∀ i, i < 360 → ¬ i = 1 → ¬ i = 70 → ¬ i = 71 → n0S n (it ((F - 1 : Nat) : Int)) (it (fa (F - 1) 0)) i = it 0 := fun i h1 h2 h3 h4 => by
    unfold n0S; rw [up1_n h4, up1_n h3, up1_n h2, if_pos h1]
  have n1 : n0S n (it ((F - 1 : Nat) : Int)) (it (fa (F - 1) 0)) 1 = it 1 := by unfold n0S; rw [up1_n (by omega), up1_n (by omega), up1_s]
  have n70 : n0S n (it ((F - 1 : Nat) : Int)) (it (fa (F - 1) 0)) 70 = it ((F - 1 : Nat) : Int) := by unfold n0S; rw [up1_n (by omega), up1_s]
  have n71 : n0S n (it ((F - 1 : Nat) : Int)) (it (fa (F - 1) 0)) 71 = it (fa (F - 1) 0) := by unfold n0S; rw [up1_s]
  refine ⟨⟨0, 1, 0, 0, nz _ (by omega) (by omega) (by omega) (by omega), n1, nz _ (by omega) (by omega) (by omega) (by omega), nz _ (by omega) (by omega) (by omega) (by omega), by omega, by omega, by omega, by omega, ⟨fun e => by omega, fun e => by omega⟩, fun e => by omega, fun j f p e1 e2 e3 e4 e5 => ?_, fun i hi => by omega, fun j hj => ?_⟩, fun o o1 o2 => Or.inl ⟨nz _ (by omega) (by omega) (by omega) (by omega), fun k hk => nz _ (by omega) (by omega) (by omega) (by omega)⟩⟩
  · have j0 : j = 0 := by omega
    subst j0
    have ef : f = F - 1 := it_inj (by omega) (by omega) (e2.symm.trans n70)
    have ep : p = fa (F - 1) 0 := it_inj (by omega) (by omega) (e3.symm.trans n71)
    subst ef
    subst ep
    rw [q9]
    exact ⟨Nat.le_refl _, q1, ⟨by simp, fun i hi => absurd hi (by simp)⟩, rfl⟩
  · have j0 : j = 0 := by omega
    subst j0
    exact ⟨F - 1, fa (F - 1) 0, by omega, by omega, n70, n71, fun v hv => Or.inr (Or.inl (nz _ (by omega) (by omega) (by omega) (by omega)))⟩
end START
section PRC
variable {K : Nat → Value} {B d n b L : Nat} {w0 : aW} {I0 : aI} {xs : Nat → Int32}
theorem pr_start (hs : gSc b L B xs w0 I0) : Pr K (d + 20) (rR K B w0 I0 n) (rR K B w0 I0 (n + 1)) (Sc b B (B + 46) L xs) B (B + 46) 138 140 [] := by
  intro w I J hR
  have H := hR.1
  obtain ⟨⟨N, F, fa, oc, ar, sh, rc⟩, a, a', bg, ha, p1, p2, p3, TC, gx, gm, b1, b2, b3, b4, b5⟩ := id hR.2.2.2.2.2.2.2.2.2
  obtain ⟨x1, x2, x3, x4⟩ := id gx
  obtain ⟨y1, y2, y3, y4⟩ := id gm
  obtain ⟨t1, t2, t3, t4, t5, t6⟩ := id TC
  have hP := PLx H (or_a ha)
  by_cases hN : N = 0
  · subst hN
    refine pr_fd hs hR 6 (by omega) (by omega) (cl_138 (k := 0) ?_) (fun I' hI => cl_140 (k := 0) ?_)
    · unfold f_138
      simp only [it_lit, gO_e (yt H), gV_e p1, gO_e hP.1]
      rw [x1, if_neg (fun q => q rfl), s_17 H (by omega) (by omega)]
      rfl
    · unfold f_140
      simp only [it_lit, gO_e (yt46 H)]
      rw [hI (B + 46) (by omega), y1, if_neg (fun q => q rfl), s_20 H (by omega) (by omega)]
      rfl
  · have hF : ¬ F = 0 := fun e => hN (t3.mpr e)
    obtain ⟨sl, s32, h7⟩ := b4
    have ha' := or_a ha
    have c139 := s_139 (K := K) (d := d + 17) (J := J) (at0 := it (fa (F - 1) 0)) H ha' (by omega) t2 x2 ((x4 (F - 1) (by omega)).1 0 (by omega))
    obtain ⟨w1, ew1⟩ : ∃ w1 : aW, w1 = (w.1, sm_up2 w.2.1 (B + 29) 0 (some a), w.2.2) := ⟨_, rfl⟩
    have H1 : Lay B w1 := by rw [ew1]; exact Lay_29 H
    have w1a : w1.1 = w.1 := by rw [ew1]
    have w1c : w1.2.2 = w.2.2 := by rw [ew1]
    have w1b : ∀ b, ¬ b = B + 29 → w1.2.1 b = w.2.1 b := fun b hb => by rw [ew1]; exact up2_n hb
    have w1p : w1.2.1 (B + 29) 0 = some a := by
      rw [ew1]
      show sm_up2 w.2.1 (B + 29) 0 (some a) (B + 29) 0 = some a
      rw [up2_r, up1_s]
    rw [← ew1] at c139
    obtain ⟨Ic, eIc⟩ : ∃ Ic : aI, Ic = sm_up1 (sm_up2 I (B + 29) 8 (it 0)) (B + 30) (c0S (I (B + 30)) (it ((F - 1 : Nat) : Int)) (it (fa (F - 1) 0))) := ⟨_, rfl⟩
    rw [← eIc] at c139
    have ic : ∀ b, ¬ b = B + 29 → ¬ b = B + 30 → Ic b = I b := fun b h1 h2 => by rw [eIc, up1_n h2, up2_n h1]
    have i1o : ∀ b, ¬ b = B + 29 → ¬ b = B + 30 → ¬ b = B → sm_up2 Ic B 5 (it 1) b = I b := fun b h1 h2 h3 => by rw [up2_n h3, ic b h1 h2]
    obtain ⟨I1, eI1⟩ : ∃ I1 : aI, I1 = sm_up2 Ic B 5 (it 1) := ⟨_, rfl⟩
    rw [← eI1] at i1o
    have c140 := l_140 (K := K) (d := d + 19) (J := J) (w := w1) (I := I1) (N := N) (at0 := it (fa (F - 1) 0)) H1 (by omega) t2 (by rw [i1o _ (by omega) (by omega) (by omega)]; exact y2) (by rw [i1o _ (by omega) (by omega) (by omega)]; exact y1) (by rw [i1o _ (by omega) (by omega) (by omega)]; exact (y4 (F - 1) (by omega)).1 0 (by omega)) 360 0 (by omega)
    have e0 : sm_up1 I1 (B + 65) (fun k => if k < 0 then it 0 else I1 (B + 65) k) = I1 := by
      have : (fun k => if k < 0 then it 0 else I1 (B + 65) k) = I1 (B + 65) := by
        funext k
        rw [if_neg (by omega)]
      rw [this, up1_id]
    rw [e0] at c140
    obtain ⟨I2, eI2⟩ : ∃ I2 : aI, I2 = sm_up2 (sm_up2 (sm_up1 I1 (B + 65) (n0S (I1 (B + 65)) (it ((F - 1 : Nat) : Int)) (it (fa (F - 1) 0)))) (B + 46) 41 (it 0)) (B + 46) 42 (it 1) := ⟨_, rfl⟩
    rw [← eI2] at c140
    have i2o : ∀ b, ¬ b = B + 65 → ¬ b = B + 46 → I2 b = I1 b := fun b h1 h2 => by rw [eI2, up2_n h2, up2_n h2, up1_n h1]
    have i72 : I2 (B + 65) = n0S (I (B + 65)) (it ((F - 1 : Nat) : Int)) (it (fa (F - 1) 0)) := by rw [eI2, up2_n (by omega), up2_n (by omega), up1_s, i1o _ (by omega) (by omega) (by omega)]
    have i53 : I2 (B + 46) = sm_up1 (sm_up1 (I (B + 46)) 41 (it 0)) 42 (it 1) := by rw [eI2, up2_r, up2_r, up1_n (by omega), i1o _ (by omega) (by omega) (by omega)]
    have iB : I1 B = sm_up1 (I B) 5 (it 1) := by rw [eI1, up2_r, ic B (by omega) (by omega)]
    have i37 : I2 (B + 30) = c0S (I (B + 30)) (it ((F - 1 : Nat) : Int)) (it (fa (F - 1) 0)) := by rw [i2o _ (by omega) (by omega), eI1, up2_n (by omega), eIc, up1_s]
    have i29 : I2 (B + 29) = sm_up1 (I (B + 29)) 8 (it 0) := by rw [i2o _ (by omega) (by omega), eI1, up2_n (by omega), eIc, up1_n (by omega), up2_r]
    have fX : ∀ b, ¬ b = B → ¬ b = B + 29 → ¬ b = B + 30 → ¬ b = B + 46 → ¬ b = B + 65 → I2 b = I b := fun b h1 h2 h3 h4 h5 => by rw [i2o b h5 h4, i1o b h2 h3 h1]
    refine ⟨(it (N : Int)).toInt64, w1, I1, J, w1, I2, J, cl_138 (k := 0) (d := d + 19) ?_, sc_of hs H1 (by rw [w1a]; exact (hR.2.1 b hs.1).2.1) ?_, cl_140 (k := 361) (d := d + 19) ?_, rR_ma hR H1 w1a w1c w1b (fun b b1 b2 b3 b4 => ?_) (fun k hk => ?_) (fun k k1 k2 => ?_) ?_⟩
    · unfold f_138
      simp only [it_lit, gO_e (yt H), gV_e p1, gO_e hP.1, gV_e (yp_4 H), gO_e (yt29 H)]
      rw [x1, if_pos (fun q => by have := (it_eq (by omega) (by omega) (by omega) (by omega)).mp q; omega), c139]
      simp only [cV_e, lt_, gO_e (yt H1)]
      have p1' : w1.2.1 B 3 = some a := by rw [w1b B (by omega)]; exact p1
      have hP1 := PLx H1 ha'
      rw [gV_e p1', gO_e hP1.1, ← eI1, i1o a (by omega) (by omega) (by omega), x1]
    · rw [i1o b (by have := hs.1; omega) (by have := hs.1; omega) (by have := hs.1; omega)]; exact (hR.2.1 b hs.1).1
    · unfold f_140
      simp only [it_lit, gO_e (yt46 H1)]
      rw [i1o (B + 46) (by omega) (by omega) (by omega), y1, if_pos (fun q => by have := (it_eq (by omega) (by omega) (by omega) (by omega)).mp q; omega)]
      exact c140
    · exact fX b b1 (by omega) (by omega) b3 (by omega)
    · rw [i2o B (by omega) (by omega), iB, up1_n hk]
    · rw [i53, up1_n k2, up1_n k1]
    · refine rPM_m (G := (N, F, fa, oc, ar, sh, rc)) ha (by rw [w1b B (by omega)]; exact p1) (by rw [w1b _ (by omega)]; exact p2) w1p p3.2 TC (gX_c ha' (fun b b1 b2 => fX b (by omega) (by omega) (by omega) (by omega) (by omega)) gx) ?_ ?_ ?_ hN ⟨0, sl, by omega, s32, ?_, ?_, ?_, ?_, ?_, True.intro⟩
      · refine ⟨by rw [i53, up1_n (by omega), up1_n (by omega)]; exact y1, by rw [i53, up1_n (by omega), up1_n (by omega)]; exact y2, ?_, ?_⟩
        · rw [fX (B + 59) (by omega) (by omega) (by omega) (by omega) (by omega), fX (B + 60) (by omega) (by omega) (by omega) (by omega) (by omega), fX (B + 62) (by omega) (by omega) (by omega) (by omega) (by omega), fX (B + 63) (by omega) (by omega) (by omega) (by omega) (by omega)]; exact y3
        · rw [fX (B + 58) (by omega) (by omega) (by omega) (by omega) (by omega)]; exact y4
      · rw [i2o B (by omega) (by omega), iB, up1_s]
      · rw [i53, up1_s]
      · rw [i29, up1_s]; rfl
      · rw [i53, up1_n (by omega), up1_s]; rfl
      · rw [i29, up1_n (by omega)]; exact h7
      · rw [i37, i72]; exact st_R
      · rw [i72]; exact st_M TC hF
end PRC

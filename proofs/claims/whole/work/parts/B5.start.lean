/-! clear, start -/
section CLR
variable {K : Nat → Value} {B d s m a N F hi pr j f p b : Nat} {fa : Nat → Nat → Nat} {oc ar : Nat → Nat} {sh : Nat → List Nat} {rc : Nat → Bool} {w : aW} {I I' : aI} {J : aJ} {c n : Nat → Int32}
/-- a write, whatever is noted -/
theorem w_144 {sl : Nat} {z : Int} {v : Int32} (H : Lay B w) (h7 : I (B + 29) 7 = it sl) (s32 : sl < 32) (z0 : 0 ≤ z) (z1 : z < 327) : ∃ I1 : aI, Cl K (d + 1) 144 [.ref (B + 29), .int (it z), .int v] w I J = some (none, w, I1, J) ∧ I1 (B + 30) = sm_up1 (I (B + 30)) z.toNat v ∧ ∀ b, ¬ b = B + 30 → ¬ b = B + 32 → ¬ b = B + 33 → ¬ b = B + 34 → I1 b = I b := by
  obtain ⟨x, x1, x2, hx⟩ := it_ex (I (B + 32) sl)
  by_cases hm : 0 ≤ x ∧ x < 36
  · obtain ⟨m, rfl⟩ := z_nat hm.1
    have X : XM B sl m (I (B + 30)) I := ⟨h7, s32, hx, rfl⟩
    exact ⟨_, z_144 H X (by omega) z0 z1, wr_37, fun b b1 b2 b3 b4 => wr_o b1 b2 b3 b4⟩
  · refine ⟨_, cl_144 (k := 0) (show f_144 K 0 d (B + 29) (it z) v w I J = some (none, w, sm_up2 I (B + 30) z.toNat v, J) from ?_), up2_r _ _ _ _, fun b b1 b2 b3 b4 => up2_n b1⟩
    unfold f_144 f_144_85
    simp only [it_lit, gO_e (yt29 H), gV_e (yp29_3 H), gV_e (yp29_1 H), h7, and31 s32]
    rw [if_neg (fun q => by have := (it_lt (by omega) (by omega) (by omega) (by omega)).mp q; omega), if_pos ((it_lt (by omega) (by omega) (by omega) (by omega)).mpr (by omega)), gA_e (yt32 H) (Or.inl rfl) (ix (by omega) (by omega) (by omega)), it_n (k := sl) (by omega), hx]
    simp only [lt_]
    rw [gA_e (yt30 H) (Or.inl rfl) (ix (by omega) (by omega) (by omega)), it_cl (a := z) (by omega) (by omega)]
    by_cases h0 : x < 0
    · rw [if_pos ((it_lt (by omega) (by omega) (by omega) (by omega)).mpr (by omega))]
    · rw [if_neg (fun q => by have := (it_lt (by omega) (by omega) (by omega) (by omega)).mp q; omega), if_pos ((it_le (by omega) (by omega) (by omega) (by omega)).mpr (by omega))]
theorem l_153g {sl : Nat} {fd : Nat → Bool} {hb : Int32} (H : Lay B w) (s32 : sl < 32) (hfd : ∀ o, 1 ≤ o → o ≤ 16 → (fd o = true ↔ (hb >>> (it o &&& it 31)) &&& it 1 = it 0 ∧ ¬ c (140 + 11 * o) = it 0)) : ∀ (n o q : Nat) (I : aI), o + n = 17 → 1 ≤ o → I (B + 29) 7 = it sl → q < o → (∀ j, 140 + 11 * o ≤ j → I (B + 30) j = c j) → I (B + 30) 2 = c 2 → ∃ I1 : aI, f_153_9 K (n + 1) (d + 1) (B + 29) hb (it q) (it o) w I J = some (some (.int (it ((q + cF fd n o : Nat) : Int))), w, I1, J) ∧ I1 (B + 30) = ap (wFr fd n o ++ [(2, c 2 + it 1)]) (I (B + 30)) ∧ ∀ b, ¬ b = B + 30 → ¬ b = B + 32 → ¬ b = B + 33 → ¬ b = B + 34 → I1 b = I b := by
  intro n
  induction n with
  | zero =>
    intro o q I h1 h2 h7 hq hc c2
    obtain ⟨I1, e1, e2, e3⟩ := w_144 (K := K) (d := d) (J := J) (z := 2) (v := c 2 + it 1) H h7 s32 (by omega) (by omega)
    refine ⟨I1, ?_, e2, e3⟩
    rw [f_153_9]
    simp only [it_lit, gO_e (yt29 H), gV_e (yp29_1 H), gc0 H, gc1 H, gc2 H, gc3 H, gc4 H, gc5 H, gc6 H, cl0, cl1, cl2, cl3, cl4, cl5, cl6, cI_e, cV_e, cA_e, cJ_e, lt_, c2]
    rw [if_pos ((it_lt (by omega) (by omega) (by omega) (by omega)).mpr (by omega)), e1]
    rfl
  | succ n ih =>
    intro o q I h1 h2 h7 hq hc c2
    have hfo := hfd o h2 (by omega)
    have pre : f_153_9 K (n + 1 + 1) (d + 1) (B + 29) hb (it q) (it o) w I J = if ¬ (hb >>> (it o &&& it 31)) &&& it 1 = it 0 then f_153_9 K (n + 1) (d + 1) (B + 29) hb (it q) (it (o + 1)) w I J else if c (140 + 11 * o) = it 0 then f_153_9 K (n + 1) (d + 1) (B + 29) hb (it q) (it (o + 1)) w I J else cV (Cl K (d + 1) 144 [.ref (B + 29), .int (it (151 + ((o : Int) - 1) * 11)), .int (it 0)] w I J) fun w_14 I_15 J_16 => f_153_9 K (n + 1) (d + 1) (B + 29) hb (it (q + 1)) (it (o + 1)) w_14 I_15 J_16 := by
      rw [f_153_9]
      unfold f_153_47
      simp only [it_lit, gO_e (yt29 H), gV_e (yp29_1 H), gc0 H, gc1 H, gc2 H, gc3 H, gc4 H, gc5 H, gc6 H, cl0, cl1, cl2, cl3, cl4, cl5, cl6, cI_e, cV_e, cA_e, cJ_e, lt_, it_add]
      rw [if_neg (fun q => by have := (it_lt (by omega) (by omega) (by omega) (by omega)).mp q; omega), s_152]
      simp only [gO_e (yt29 H), gV_e (yp29_1 H), gc0 H, gc1 H, gc2 H, gc3 H, gc4 H, gc5 H, gc6 H, cl0, cl1, cl2, cl3, cl4, cl5, cl6, cI_e, cV_e, cA_e, cJ_e, lt_]
      rw [gA_e (yt30 H) (Or.inl rfl) (ix (by omega) (by omega) (by omega)), it_cl (by omega) (by omega), show (151 + ((o : Int) - 1) * 11).toNat = 140 + 11 * o by omega, hc (140 + 11 * o) (by omega), s_152]
      simp only [gO_e (yt29 H), gV_e (yp29_1 H), gc0 H, gc1 H, gc2 H, gc3 H, gc4 H, gc5 H, gc6 H, cl0, cl1, cl2, cl3, cl4, cl5, cl6, cI_e, cV_e, cA_e, cJ_e, lt_]
    by_cases hb0 : (hb >>> (it o &&& it 31)) &&& it 1 = it 0
    · by_cases hc0 : c (140 + 11 * o) = it 0
      · have hfn : ¬ fd o = true := fun q => (hfo.mp q).2 hc0
        obtain ⟨I1, e1, e2, e3⟩ := ih (o + 1) q I (by omega) (by omega) h7 (by omega) (fun j hj => hc j (by omega)) c2
        refine ⟨I1, ?_, ?_, e3⟩
        · rw [pre, if_neg (fun q => q hb0), if_pos hc0]
          simp only [cF, if_neg hfn, Nat.zero_add]
          exact e1
        · simp only [wFr, if_neg hfn]
          exact e2
      · have hft : fd o = true := hfo.mpr ⟨hb0, hc0⟩
        obtain ⟨I', w1, w2, w3⟩ := w_144 (K := K) (d := d) (J := J) (z := 151 + ((o : Int) - 1) * 11) (v := it 0) H h7 s32 (by omega) (by omega)
        rw [show (151 + ((o : Int) - 1) * 11).toNat = 140 + 11 * o by omega] at w2
        obtain ⟨I1, e1, e2, e3⟩ := ih (o + 1) (q + 1) I' (by omega) (by omega) (by rw [w3 _ (by omega) (by omega) (by omega) (by omega)]; exact h7) (by omega) (fun j hj => by rw [w2, up1_n (by omega)]; exact hc j (by omega)) (by rw [w2, up1_n (by omega)]; exact c2)
        refine ⟨I1, ?_, ?_, fun b b1 b2 b3 b4 => (e3 b b1 b2 b3 b4).trans (w3 b b1 b2 b3 b4)⟩
        · rw [pre, if_neg (fun q => q hb0), if_neg hc0, w1]
          simp only [cV_e, cF, if_pos hft]
          rw [show q + (1 + cF fd n (o + 1)) = q + 1 + cF fd n (o + 1) by omega]
          exact e1
        · rw [e2, w2]
          simp only [wFr, if_pos hft]
          rfl
    · have hfn : ¬ fd o = true := fun q => hb0 (hfo.mp q).1
      obtain ⟨I1, e1, e2, e3⟩ := ih (o + 1) q I (by omega) (by omega) h7 (by omega) (fun j hj => hc j (by omega)) c2
      refine ⟨I1, ?_, ?_, e3⟩
      · rw [pre, if_pos hb0]
        simp only [cF, if_neg hfn, Nat.zero_add]
        exact e1
      · simp only [wFr, if_neg hfn]
        exact e2
/-- any int is one of these -/
theorem it_mod (x : Int32) : ∃ m : Nat, x = it m := by
  obtain ⟨z, z1, z2, rfl⟩ := it_ex x
  by_cases h : 0 ≤ z
  · obtain ⟨m, rfl⟩ := z_nat h
    exact ⟨m, rfl⟩
  · refine ⟨(z + 4294967296).toNat, ?_⟩
    have e : (((z + 4294967296).toNat : Nat) : Int) = z + 4294967296 := by omega
    rw [e, ← it_add]
    have : it 4294967296 = it 0 := by decide
    rw [this, it_add, show z + 0 = z by omega]
theorem clr2 {fr hi sl : Nat} (H : Lay B w) (hp : w.2.1 (B + 29) 0 = some a) (ha : a = B + 8 ∨ a = B + 22) (TC : gTC (N, F, fa, oc, ar, sh, rc)) (gx : gX (N, F, fa, oc, ar, sh, rc) a I J) (gm0 : ∃ I0 : aI, gM (N, F, fa, oc, ar, sh, rc) B I0) (h7 : I (B + 29) 7 = it sl) (s32 : sl < 32) (R : mRel fa (I (B + 30)) n) (h1 : n 1 = it fr) (f8 : fr ≤ 8) (h2 : n 2 = it hi) (h30 : hi ≤ 30) (V : vOK n hi) (W : wOK F fa n fr) (O : okO n) :
    ∃ (fd : Nat → Bool) (I1 : aI), Cl K (d + 5) 153 [.ref (B + 29)] w I J = some (some (.int (it (cF fd 16 1 : Int))), w, I1, J) ∧ (∀ b, ¬ b = B + 30 → ¬ b = B + 32 → ¬ b = B + 33 → ¬ b = B + 34 → I1 b = I b)
      ∧ (∀ Ih : aI, gM (N, F, fa, oc, ar, sh, rc) B Ih → ∃ h' : Nat → Int32, Cl K (d + 6) 185 [.ref (B + 46)] w (nw B n Ih) J = some (some (.int (it (cF fd 16 1 : Int))), w, nh B (ap (wMF fd 16 1 ++ [(5, n 5 + it 1)]) n) h' Ih, J))
      ∧ mRel fa (I1 (B + 30)) (ap (wMF fd 16 1 ++ [(5, n 5 + it 1)]) n) ∧ vOK (ap (wMF fd 16 1 ++ [(5, n 5 + it 1)]) n) hi ∧ wOK F fa (ap (wMF fd 16 1 ++ [(5, n 5 + it 1)]) n) fr ∧ okO (ap (wMF fd 16 1 ++ [(5, n 5 + it 1)]) n) := by
  have hP : PL w a := PLx H ha
  obtain ⟨m, hx⟩ := it_mod (I (B + 32) sl)
  have X : XM B sl m (I (B + 30)) I := ⟨h7, s32, hx, rfl⟩
  obtain ⟨g1, g2, g3, g4, g5, g6, g7, g8, g9⟩ := tc_g TC
  obtain ⟨x1, x2, x3, x4⟩ := gx
  obtain ⟨I0, gm0⟩ := gm0
  have q1 := gF1 V
  have q2 := gF2 (fr := fr) g2 W g4
  obtain ⟨t0, t16, tt⟩ := gF3 O
  have hf : ∀ Ih : aI, gM (N, F, fa, oc, ar, sh, rc) B Ih → ∀ j, j < fr → n (70 + 8 * j) = it (gFf n j) ∧ gFf n j < 5 ∧ Ih (B + 58) (10 * gFf n j + 2) = it ((fun j => fa (gFf n j) 2) j : Nat) ∧ (fun j => fa (gFf n j) 2) j ≤ 6 ∧ ∀ v, v < (fun j => fa (gFf n j) 2) j → Ih (B + 58) (10 * gFf n j + 4 + v) = it ((fun j v => fa (gFf n j) (4 + v)) j v : Nat) ∧ (fun j v => fa (gFf n j) (4 + v)) j v ≤ 3 ∧ (2 ≤ (fun j v => fa (gFf n j) (4 + v)) j v → n (72 + 8 * j + v) = it (gVv n j v) ∧ gVv n j v ≤ 16) := by
    intro Ih gm j hj
    obtain ⟨b1, b2, b3⟩ := q2 j hj
    have y4 := gm.2.2.2 _ b2
    exact ⟨b1, by omega, y4.1 2 (by omega), g3 _ b2, fun v hv => ⟨y4.2 v hv, (b3 v hv).1, (b3 v hv).2⟩⟩
  have s185 := fun (Ih : aI) (gm : gM (N, F, fa, oc, ar, sh, rc) B Ih) => s_185 (K := K) (d := d + 4) (J := J) (I := Ih) (tl := gTl n) (ff := gFf n) (cn := fun j => fa (gFf n j) 2) (vt := fun j v => fa (gFf n j) (4 + v)) (vv := gVv n) (ty := gTy n) (v := gVl n) H h1 f8 h2 h30 q1 (hf Ih gm) tt
  obtain ⟨hF, hcl, _⟩ := s185 I0 gm0
  have hcl' : isCl (gTl n) (marks (gRt fa n hi fr) (fun _ => false)) hF := hcl
  have h8 : ∀ j : Nat, (j : Int) < (n 1).toInt → j < 8 := fun i hi => by
    rw [h1, it_toInt (by omega) (by omega)] at hi; omega
  have R10 := R.2.2.2.2.2.2.2.2.2.2
  have hk : okTl (I (B + 30)) (gTl n) := fun o o1 o2 => by
    obtain ⟨k1, k2, k3⟩ := tt o o1 o2
    rw [(R10 o o1 o2).1]
    exact ⟨k1, fun h => by rw [((R10 o o1 o2).2.2 h).2]; exact k2 h, k3⟩
  have hh := s_154 (K := K) (d := d) (J := J) (tl := gTl n) (ff := gFf n) (cn := fun j => fa (gFf n j) 2) (vt := fun j v => fa (gFf n j) (4 + v)) (vv := gVv n) (ty := gTy n) (v := gVl n) (hi := hi) (fr := fr) H X hp hP hk (R.2.2.2.1.trans h2) h30 (R.2.2.2.2.1.trans h1) f8
    (fun i hi => by
      obtain ⟨b1, b2, b3⟩ := q1 i hi
      have r7 := R.2.2.2.2.2.2.2.1 i (by omega)
      exact ⟨r7.2.trans b1, b2, fun h => ⟨r7.1.trans (b3 h).1, (b3 h).2⟩⟩)
    (fun j hj => by
      obtain ⟨b1, b2, b3⟩ := q2 j hj
      have x4' := x4 _ b2
      have r9 := R.2.2.2.2.2.2.2.2.2.1 j (by rw [h1, it_toInt (by omega) (by omega)]; omega)
      have h6 := g3 _ b2
      exact ⟨r9.1.trans b1, by omega, x4'.1 2 (by omega), h6, fun v hv => ⟨x4'.2 v hv, (b3 v hv).1, fun h => ⟨(r9.2.2 _ v b1 (by omega) hv (by have : v < fa (gFf n j) 2 := hv; omega)).trans ((b3 v hv).2 h).1, ((b3 v hv).2 h).2⟩⟩⟩)
  obtain ⟨I1, e1, e2, e3⟩ := l_153g (K := K) (d := d + 3) (J := J) (c := I (B + 30)) (fd := fun o => @decide (hF o = false ∧ ¬ n (154 + 12 * o) = it 0) (Classical.propDecidable _)) H s32 (fun o o1 o2 => by
      rw [@decide_eq_true_iff _ (Classical.propDecidable _), (R10 o o1 o2).1]
      have he := held_eq (l := gRt fa n hi fr) t0 t16 (gRt_16 g2 V W g4) hcl' o1 o2
      exact ⟨fun h => ⟨he.mpr h.1, h.2⟩, fun h => ⟨he.mp h.1, h.2⟩⟩) 16 1 0 I (by omega) (by omega) h7 (by omega) (fun _ _ => rfl) rfl
  refine ⟨fun o => @decide (hF o = false ∧ ¬ n (154 + 12 * o) = it 0) (Classical.propDecidable _), I1, ?_, e3, ?_, by rw [e2]; exact rel_G R h8, live_G g2 h30 f8 V W O g3 g4 hcl' (fun o o1 o2 => @decide_eq_true_iff _ (Classical.propDecidable _))⟩
  · apply cl_153 (k := 17)
    unfold f_153
    simp only [it_lit, gO_e (yt29 H), gV_e (yp29_1 H), gc0 H, gc1 H, gc2 H, gc3 H, gc4 H, gc5 H, gc6 H, cl0, cl1, cl2, cl3, cl4, cl5, cl6, cI_e, cV_e, cA_e, cJ_e, lt_]
    rw [hh]
    simp only [gO_e (yt29 H), gV_e (yp29_1 H), gc0 H, gc1 H, gc2 H, gc3 H, gc4 H, gc5 H, gc6 H, cl0, cl1, cl2, cl3, cl4, cl5, cl6, cI_e, cV_e, cA_e, cJ_e, lt_]
    rw [Nat.zero_add] at e1
    exact e1
  · intro Ih gm
    obtain ⟨hF1, hcl1, hq⟩ := s185 Ih gm
    have e : hF1 = hF := isCl_u hcl1 hcl
    subst e
    exact hq _ (fun o o1 o2 => @decide_eq_true_iff _ (Classical.propDecidable _))
/-- mOK behind a clearing -/
theorem mOK_G {fr hi h pr : Nat} {n1 : Nat → Int32} (M : mOK (N, F, fa, oc, ar, sh, rc) n) (u : ∀ i, ¬ i = 5 → i < 154 → n1 i = n i) (h1 : n 1 = it fr) (f8 : fr ≤ 8) (h2 : n 2 = it hi) (h30 : hi ≤ 30) (V : vOK n1 hi) (W : wOK F fa n1 fr) (O : okO n1) : mOK (N, F, fa, oc, ar, sh, rc) n1 := by
  obtain ⟨⟨h', fr', hi', pr', a0, a1, a2, a3, a4, a5, a6, a7, a8, a9, a10, a11, a12⟩, aO⟩ := M
  have ef : fr' = fr := it_inj (by omega) (by omega) (a1.symm.trans h1)
  have eh : hi' = hi := it_inj (by omega) (by omega) (a2.symm.trans h2)
  subst ef
  subst eh
  refine ⟨⟨h', fr', hi', pr', by rw [u _ (by omega) (by omega)]; exact a0, by rw [u _ (by omega) (by omega)]; exact a1, by rw [u _ (by omega) (by omega)]; exact a2, by rw [u _ (by omega) (by omega)]; exact a3, a4, a5, a6, a7, a8, a9, fun j f p e1 e2 e3 e4 e5 => ?_, V, W⟩, O⟩
  rw [u _ (by omega) (by omega)] at e2 e3
  obtain ⟨g1, g2, g3, g4⟩ := a10 j f p e1 e2 e3 e4 e5
  exact ⟨g1, g2, okT_k (fun i hi => u _ (by omega) (by omega)) g3, stk_k _ _ _ (fun i i1 i2 => u _ (by omega) (by omega)) (fun i hi => u _ (by omega) (by omega)) g4⟩
end CLR
section PRC
variable {K : Nat → Value} {B d n b L : Nat} {w0 : aW} {I0 : aI} {xs : Nat → Int32}
theorem pr_clear (hs : gSc b L B xs w0 I0) : Pr K (d + 20) (rR K B w0 I0 n) (rR K B w0 I0 (n + 1)) (Sc b B (B + 46) L xs) B (B + 46) 216 218 [] := by
  intro w I J hR
  have H := hR.1
  obtain ⟨⟨N, F, fa, oc, ar, sh, rc⟩, a, a', bg, ha, p1, p2, p3, TC, gx, gm, b1, b2, b3, b4, b5⟩ := id hR.2.2.2.2.2.2.2.2.2
  by_cases hb : bg = 1
  · subst hb
    obtain ⟨hp, hN, K2⟩ := b5 rfl; obtain ⟨kp, sl, k30, s32, h8, h41, h7, R, M, Hs⟩ := id K2; obtain ⟨⟨hh, fr, hi, pr, m0, m1, m2, m3, m4, m5, m6, m7, m8, m9, m10, m11, m12⟩, aO⟩ := id M
    have f0 : ∀ b, ¬ b = B + 29 → sm_up2 I (B + 29) 8 (it 0) b = I b := fun b hb => up2_n hb
    obtain ⟨fd, I1, c1, c2, c3, c4, c5, c6, c7⟩ := clr2 (K := K) (d := d + 13) (I := sm_up2 I (B + 29) 8 (it 0)) (J := J) (n := I (B + 65)) (sl := sl) H hp (or_a ha) TC (gX_c (or_a ha) (fun b b1 b2 => f0 b (by omega)) gx) ⟨I, gm⟩ (by rw [up2_r, up1_n (by omega)]; exact h7) s32 (by rw [f0 _ (by omega)]; exact R) m1 m5 m2 m6 m11 m12 aO
    have g1 : ∀ b, ¬ b = B + 29 → ¬ b = B + 30 → ¬ b = B + 32 → ¬ b = B + 33 → ¬ b = B + 34 → I1 b = I b := fun b h1 h2 h3 h4 h5 => (c2 b h2 h3 h4 h5).trans (f0 b h1)
    obtain ⟨h', c185⟩ := c3 (sm_up2 I1 (B + 46) 41 (it 0)) (by
      obtain ⟨y1, y2, y3, y4⟩ := gm
      refine ⟨by rw [up2_r, up1_n (by omega), g1 _ (by omega) (by omega) (by omega) (by omega) (by omega)]; exact y1, by rw [up2_r, up1_n (by omega), g1 _ (by omega) (by omega) (by omega) (by omega) (by omega)]; exact y2, ?_, ?_⟩
      · rw [up2_n (b := B + 59) (by omega), up2_n (b := B + 60) (by omega), up2_n (b := B + 62) (by omega), up2_n (b := B + 63) (by omega), g1 (B + 59) (by omega) (by omega) (by omega) (by omega) (by omega), g1 (B + 60) (by omega) (by omega) (by omega) (by omega) (by omega), g1 (B + 62) (by omega) (by omega) (by omega) (by omega) (by omega), g1 (B + 63) (by omega) (by omega) (by omega) (by omega) (by omega)]; exact y3
      · rw [up2_n (b := B + 58) (by omega), g1 (B + 58) (by omega) (by omega) (by omega) (by omega) (by omega)]; exact y4)
    rw [nw_e (by rw [up2_n (by omega), g1 _ (by omega) (by omega) (by omega) (by omega) (by omega)])] at c185
    obtain ⟨n1a, n1b, n1c⟩ := nG_of fd (I (B + 65))
    obtain ⟨I2, eI2⟩ : ∃ I2 : aI, I2 = nh B (ap (wMF fd 16 1 ++ [(5, I (B + 65) 5 + it 1)]) (I (B + 65))) h' (sm_up2 I1 (B + 46) 41 (it 0)) := ⟨_, rfl⟩
    rw [← eI2] at c185
    have i72 : I2 (B + 65) = ap (wMF fd 16 1 ++ [(5, I (B + 65) 5 + it 1)]) (I (B + 65)) := by rw [eI2, nh_r]
    have io : ∀ b, ¬ b = B + 65 → ¬ b = B + 70 → ¬ b = B + 46 → I2 b = I1 b := fun b h1 h2 h3 => by rw [eI2, nh_o h1 h2, up2_n h3]
    have i53 : I2 (B + 46) = sm_up1 (I (B + 46)) 41 (it 0) := by rw [eI2, nh_o (by omega) (by omega), up2_r, g1 _ (by omega) (by omega) (by omega) (by omega) (by omega)]
    refine ⟨(it (cF fd 16 1 : Int)).toInt64, w, I1, J, w, I2, J, cl_216 (k := 0) (d := d + 19) ?_, sc_of hs H (hR.2.1 b hs.1).2.1 ?_, cl_218 (k := 0) (d := d + 19) ?_, rR_ma hR H rfl rfl (fun _ _ => rfl) (fun b b1 b2 b3 b4 => ?_) (fun k hk => ?_) (fun k k1 k2 => ?_) ?_⟩
    · unfold f_216
      simp only [it_lit, gO_e (yt H), gV_e (yp_4 H), gO_e (yt29 H)]
      rw [b2, if_neg (by decide)]
      have c217 : Cl K (d + 19) 217 [.ref (B + 29)] w I J = some (some (.int (it (cF fd 16 1 : Int))), w, I1, J) := by
        apply cl_217 (k := 0) (d := d + 18)
        unfold f_217
        simp only [it_lit, gO_e (yt29 H), lt_]
        rw [c1]
        rfl
      rw [c217]
      rfl
    · rw [g1 b (by have := hs.1; omega) (by have := hs.1; omega) (by have := hs.1; omega) (by have := hs.1; omega) (by have := hs.1; omega)]; exact (hR.2.1 b hs.1).1
    · unfold f_218
      simp only [it_lit, gO_e (yt46 H), lt_]
      rw [g1 (B + 46) (by omega) (by omega) (by omega) (by omega) (by omega), b3, if_pos (by decide)]
      have c185' : Cl K (d + 19) 185 [.ref (B + 46)] w (sm_up2 I1 (B + 46) 41 (it 0)) J = some (some (.int (it (cF fd 16 1 : Int))), w, I2, J) := c185
      rw [c185']
      rfl
    · rw [io b (by omega) (by omega) b3, g1 b (by omega) (by omega) (by omega) (by omega) (by omega)]
    · rw [io B (by omega) (by omega) (by omega), g1 B (by omega) (by omega) (by omega) (by omega) (by omega)]
    · rw [i53, up1_n k1]
    · have fX : ∀ b, b ≤ B + 28 → I2 b = I b := fun b hb => by rw [io b (by omega) (by omega) (by omega), g1 b (by omega) (by omega) (by omega) (by omega) (by omega)]
      refine rPM_m (G := (N, F, fa, oc, ar, sh, rc)) ha p1 p2 hp p3.2 TC (gX_c (or_a ha) (fun b b1 b2 => fX b (by omega)) gx) ?_ ?_ ?_ hN ⟨0, sl, by omega, s32, ?_, ?_, ?_, ?_, ?_, True.intro⟩
      · obtain ⟨y1, y2, y3, y4⟩ := gm
        have gg : ∀ b, B + 47 ≤ b → b ≤ B + 64 → I2 b = I b := fun b h1 h2 => by rw [io b (by omega) (by omega) (by omega), g1 b (by omega) (by omega) (by omega) (by omega) (by omega)]
        refine ⟨by rw [i53, up1_n (by omega)]; exact y1, by rw [i53, up1_n (by omega)]; exact y2, ?_, ?_⟩
        · rw [gg (B + 59) (by omega) (by omega), gg (B + 60) (by omega) (by omega), gg (B + 62) (by omega) (by omega), gg (B + 63) (by omega) (by omega)]; exact y3
        · rw [gg (B + 58) (by omega) (by omega)]; exact y4
      · rw [fX B (by omega)]; exact b2
      · rw [i53, up1_n (by omega)]; exact b3
      · rw [io _ (by omega) (by omega) (by omega), c2 _ (by omega) (by omega) (by omega) (by omega), up2_r, up1_s]; rfl
      · rw [i53, up1_s]; rfl
      · rw [io _ (by omega) (by omega) (by omega), c2 _ (by omega) (by omega) (by omega) (by omega), up2_r, up1_n (by omega)]; exact h7
      · rw [io (B + 30) (by omega) (by omega) (by omega), i72]; exact c4
      · rw [i72]
        exact mOK_G (fr := fr) (hi := hi) (h := 0) (pr := 0) M (fun i h1 h2 => n1c i h1 (by omega)) m1 m5 m2 m6 c5 c6 c7
  · have hb0 := bg_01 b1 hb
    subst hb0
    refine pr_fd hs hR 6 (by omega) (by omega) (cl_216 (k := 0) ?_) (fun I' hI => cl_218 (k := 0) ?_)
    · unfold f_216
      simp only [it_lit, gO_e (yt H)]
      rw [b2, if_pos (by decide), s_17 H (by omega) (by omega)]
      rfl
    · unfold f_218; simp only [it_lit, gO_e (yt46 H)]; (rw [hI (B + 46) (by omega), b3, if_neg (fun q => q rfl), s_20 H (by omega) (by omega)]; rfl)
end PRC

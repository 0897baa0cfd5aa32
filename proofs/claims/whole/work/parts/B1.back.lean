section BACK
variable {K : Nat → Value} {B d s m a N F hi pr j f p b : Nat} {fa : Nat → Nat → Nat} {oc ar : Nat → Nat} {sh : Nat → List Nat} {rc : Nat → Bool} {w : aW} {I I' : aI} {J : aJ} {c n : Nat → Int32}
theorem lt_p {α β : Type} {v : α} {k : α → Option β} : lt_ v k = k v := by
  by_cases h : True
  · rfl
  · rfl
theorem l_198s {s m e : Nat} (H : Lay B w) (s32 : s < 32) (m36 : m < 36) (h7 : I (B + 29) 7 = it s) (e1 : e < 327) (e2 : I (B + 33) (36 * s + m) = it e) : f_198_51 K (m + 1 + 1) d (B + 29) (it (m : Int)) w I J = f_198_51 K (m + 1) d (B + 29) (it ((m : Int) - 1)) w (sm_up2 I (B + 30) e (I (B + 34) (36 * s + m))) J := by
  rw [f_198_51]
  unfold f_198_95
  simp only [it_lit, lt_p, gO_e (yt29 H), gV_e (yp29_1 H), gV_e (yp29_4 H), gV_e (yp29_5 H), h7, it_neg, it_mul, it_add]
  rw [if_neg (fun q => by have := (it_lt (by omega) (by omega) (by omega) (by omega)).mp q; omega), gA_e (yt33 H) (Or.inl rfl) (ix (by omega) (by omega) (by omega)), it_cl (a := (s : Int) * 36 + (m : Int)) (by omega) (by omega), show ((s : Int) * 36 + (m : Int)).toNat = 36 * s + m by omega, e2]
  rw [if_neg (fun q => by have := (it_lt (by omega) (by omega) (by omega) (by omega)).mp q; omega), if_neg (fun q => by have := (it_le (by omega) (by omega) (by omega) (by omega)).mp q; omega), gA_e (yt34 H) (Or.inl rfl) (ix (by omega) (by omega) (by omega)), gA_e (yt30 H) (Or.inl rfl) (ix (by omega) (by omega) (by omega)), it_n (by omega), show (m : Int) + -1 = (m : Int) - 1 by omega]
theorem l_198 {s : Nat} (H : Lay B w) (s32 : s < 32) : ∀ (m : Nat) (I : aI), m ≤ 36 → I (B + 29) 7 = it s → (∀ i, i < m → ∃ e : Nat, e < 327 ∧ I (B + 33) (36 * s + i) = it e) → f_198_51 K (m + 1) d (B + 29) (it ((m : Int) - 1)) w I J = some (none, w, sm_up1 I (B + 30) (sm_up1 (uNd (I (B + 33)) (I (B + 34)) s m (I (B + 30))) 0 (it 0)), J) := by
  intro m
  induction m with
  | zero =>
    intro I _ h7 _
    rw [f_198_51]
    simp only [it_lit, lt_, gO_e (yt29 H), gV_e (yp29_1 H), cl0]
    rw [if_pos (by decide), gA_e (yt30 H) (Or.inl rfl) (ix (z := 0) (by omega) (by omega) (by omega))]
    rfl
  | succ m ih =>
    intro I m36 h7 hn
    obtain ⟨e, e1, e2⟩ := hn m (by omega)
    rw [show ((m + 1 : Nat) : Int) - 1 = (m : Int) by omega, l_198s H s32 (by omega) h7 e1 e2]
    have ec : (it (e : Int)).toNatClampNeg = e := it_n (by omega)
    have r : ∀ b, ¬ b = B + 30 → sm_up2 I (B + 30) e (I (B + 34) (36 * s + m)) b = I b := fun b hb => up2_n hb
    rw [ih (sm_up2 I (B + 30) e (I (B + 34) (36 * s + m))) (by omega) (by rw [r _ (by omega)]; exact h7) (fun i hi => by rw [r _ (by omega)]; exact hn i (by omega))]
    rw [r (B + 33) (by omega), r (B + 34) (by omega), up2_r]
    have eu : uNd (I (B + 33)) (I (B + 34)) s (m + 1) (I (B + 30)) = uNd (I (B + 33)) (I (B + 34)) s m (sm_up1 (I (B + 30)) e (I (B + 34) (36 * s + m))) := by
      show uNd (I (B + 33)) (I (B + 34)) s m (sm_up1 (I (B + 30)) (I (B + 33) (36 * s + m)).toNatClampNeg (I (B + 34) (36 * s + m))) = _
      rw [e2, ec]
    rw [eu]
    have e3 : ∀ X : Nat → Int32, sm_up1 (sm_up2 I (B + 30) e (I (B + 34) (36 * s + m))) (B + 30) X = sm_up1 I (B + 30) X := fun X => up1_up1 _ _ _ _
    rw [e3]
theorem s_198 {kp sl m : Nat} (H : Lay B w) (h8 : I (B + 29) 8 = it ((kp + 1 : Nat) : Int)) (k30 : kp ≤ 30) (h7 : I (B + 29) 7 = it sl) (s32 : sl < 32) (hnd : I (B + 32) ((sl + 31) % 32) = it m) (m1 : 1 ≤ m) (m2 : m ≤ 36) (hn : ∀ i, i < m → ∃ e : Nat, e < 327 ∧ I (B + 33) (36 * ((sl + 31) % 32) + i) = it e) :
    Cl K (d + 1) 198 [.ref (B + 29)] w I J = some (none, w, sm_up1 (sm_up2 (sm_up2 I (B + 29) 8 (it kp)) (B + 29) 7 (it ((sl + 31) % 32 : Nat))) (B + 30) (sm_up1 (uNd (I (B + 33)) (I (B + 34)) ((sl + 31) % 32) m (I (B + 30))) 0 (it 0)), J) := by
  apply cl_198 (k := m + 1)
  unfold f_198
  simp only [it_lit, lt_, gO_e (yt29 H), gV_e (yp29_3 H), h8]
  rw [if_pos (fun q => by have := (it_eq (by omega) (by omega) (by omega) (by omega)).mp q; omega), it_sub, show ((kp + 1 : Nat) : Int) - 1 = (kp : Int) by omega]
  have r7 : sm_up2 I (B + 29) 8 (it (kp : Int)) (B + 29) 7 = it sl := by rw [up2_r, up1_n (by omega)]; exact h7
  rw [r7, and31b ⟨sl, s32⟩]
  have r7' : sm_up2 (sm_up2 I (B + 29) 8 (it (kp : Int))) (B + 29) 7 (it (((sl + 31) % 32 : Nat) : Int)) (B + 29) 7 = it (((sl + 31) % 32 : Nat) : Int) := by rw [up2_r, up1_s]
  have ro : ∀ b, ¬ b = B + 29 → sm_up2 (sm_up2 I (B + 29) 8 (it (kp : Int))) (B + 29) 7 (it (((sl + 31) % 32 : Nat) : Int)) b = I b := fun b hb => by rw [up2_n hb, up2_n hb]
  rw [r7', gA_e (yt32 H) (Or.inl rfl) (ix (by omega) (by omega) (by omega)), it_n (k := (sl + 31) % 32) (by omega), ro (B + 32) (by omega), hnd]
  rw [if_neg (fun q => by have := (it_lt (by omega) (by omega) (by omega) (by omega)).mp q; omega), it_sub]
  refine Eq.trans (l_198 H (by omega) m _ m2 r7' (fun i hi => by rw [ro (B + 33) (by omega)]; exact hn i hi)) ?_
  rw [ro (B + 33) (by omega), ro (B + 34) (by omega), ro (B + 30) (by omega)]
theorem lp_back {g : Nat} {l1 : Int32} {OK : (Nat → Int32) → (Nat → Int32) → Prop} {pa mp : Nat → Int32} (H : Lay B w) (g30 : g ≤ 30) : ∀ (q i kp sl : Nat) (I : aI), i + q = g → q ≤ kp → kp ≤ 30 → sl < 32 → I (B + 29) 8 = it kp → I (B + 29) 7 = it sl → hst OK (I (B + 32)) (I (B + 33)) (I (B + 34)) (I (B + 35)) pa mp kp sl (I (B + 30)) →
    ∃ (I1 : aI) (sl' : Nat), f_197_55 K (q + 1) (d + 1) B l1 (it g) (it i) w I J = some (some (.long (it (g : Int)).toInt64), w, I1, J) ∧ (∀ b, ¬ b = B + 29 → ¬ b = B + 30 → I1 b = I b) ∧ I1 (B + 29) 8 = it ((kp - q : Nat) : Int) ∧ I1 (B + 29) 7 = it sl' ∧ sl' < 32 ∧ hst OK (I (B + 32)) (I (B + 33)) (I (B + 34)) (I (B + 35)) pa mp (kp - q) sl' (I1 (B + 30)) ∧ (1 ≤ q → OK (I1 (B + 30)) (fun i => pa (360 * (kp - q) + i))) := by
  intro q
  induction q with
  | zero =>
    intro i kp sl I hi hq k30 s32 h8 h7 Hs
    refine ⟨I, sl, ?_, fun _ _ _ => rfl, h8, h7, s32, Hs, fun h => by omega⟩
    rw [f_197_55]
    simp only [lt_]
    rw [if_pos ((it_le (by omega) (by omega) (by omega) (by omega)).mpr (by omega))]
  | succ q ih =>
    intro i kp sl I hi hq k30 s32 h8 h7 Hs
    obtain ⟨k, rfl⟩ : ∃ k, kp = k + 1 := ⟨kp - 1, by omega⟩
    obtain ⟨m, m1, m2, m3, m4, m5, m6, m7, m8, m9⟩ := Hs
    have c198 := s_198 (K := K) (d := d) (J := J) (kp := k) H h8 (by omega) h7 s32 m3 m1 m2 m5
    obtain ⟨I', eI'⟩ : ∃ I' : aI, I' = sm_up1 (sm_up2 (sm_up2 I (B + 29) 8 (it k)) (B + 29) 7 (it ((sl + 31) % 32 : Nat))) (B + 30) (sm_up1 (uNd (I (B + 33)) (I (B + 34)) ((sl + 31) % 32) m (I (B + 30))) 0 (it 0)) := ⟨_, rfl⟩
    rw [← eI'] at c198
    have ro : ∀ b, ¬ b = B + 29 → ¬ b = B + 30 → I' b = I b := fun b h1 h2 => by rw [eI', up1_n h2, up2_n h1, up2_n h1]
    have r37 : I' (B + 30) = sm_up1 (uNd (I (B + 33)) (I (B + 34)) ((sl + 31) % 32) m (I (B + 30))) 0 (it 0) := by rw [eI', up1_s]
    have r8 : I' (B + 29) 8 = it k := by rw [eI', up1_n (by omega), up2_r, up1_n (by omega), up2_r, up1_s]
    have r7 : I' (B + 29) 7 = it ((sl + 31) % 32 : Nat) := by rw [eI', up1_n (by omega), up2_r, up1_s]
    obtain ⟨I1, sl', t1, t2, t3, t4, t5, t6, t7⟩ := ih (i + 1) k ((sl + 31) % 32) I' (by omega) (by omega) (by omega) (by omega) r8 r7 (by
      rw [ro (B + 32) (by omega) (by omega), ro (B + 33) (by omega) (by omega), ro (B + 34) (by omega) (by omega), ro (B + 35) (by omega) (by omega), r37]
      exact m9)
    rw [ro (B + 32) (by omega) (by omega), ro (B + 33) (by omega) (by omega), ro (B + 34) (by omega) (by omega), ro (B + 35) (by omega) (by omega)] at t6
    refine ⟨I1, sl', ?_, fun b h1 h2 => (t2 b h1 h2).trans (ro b h1 h2), by rw [show k + 1 - (q + 1) = k - q by omega]; exact t3, t4, t5, by rw [show k + 1 - (q + 1) = k - q by omega]; exact t6, fun _ => ?_⟩
    · rw [f_197_55]
      simp only [it_lit, lt_, gO_e (yt H), gV_e (yp_4 H), gO_e (yt29 H), it_add]
      rw [if_neg (fun q => by have := (it_le (by omega) (by omega) (by omega) (by omega)).mp q; omega), c198]
      simp only [cV_e]
      exact t1
    · rw [show k + 1 - (q + 1) = k - q by omega]
      by_cases hq0 : 1 ≤ q
      · exact t7 hq0
      · have q0 : q = 0 := by omega
        subst q0
        have e1 : I1 = I' := by
          rw [f_197_55] at t1
          simp only [lt_] at t1
          rw [if_pos ((it_le (by omega) (by omega) (by omega) (by omega)).mpr (by omega))] at t1
          exact (congrArg (fun p => p.2.2.1) (Option.some.inj t1)).symm
        rw [e1, r37]
        exact m8
end BACK
section PRB
variable {K : Nat → Value} {B d n b L : Nat} {w0 : aW} {I0 : aI} {xs : Nat → Int32}
theorem pr_back (hs : gSc b L B xs w0 I0) (a0 : Int32) : Pr K (d + 20) (rR K B w0 I0 n) (rR K B w0 I0 (n + 1)) (Sc b B (B + 46) L xs) B (B + 46) 197 199 [.int a0] := by
  intro w I J hR
  have H := hR.1
  obtain ⟨z, z1, z2, rfl⟩ := it_ex a0
  obtain ⟨⟨N, F, fa, oc, ar, sh, rc⟩, a, a', bg, ha, p1, p2, p3, TC, gx, gm, b1, b2, b3, b4, b5⟩ := id hR.2.2.2.2.2.2.2.2.2
  by_cases hz : 1 ≤ z ∧ z ≤ 30
  · by_cases hb : bg = 1
    · subst hb
      obtain ⟨hp, hN, K2⟩ := b5 rfl
      obtain ⟨kp, sl, k30, s32, h8, h41, h7, R, M, Hs⟩ := id K2
      obtain ⟨g1, g2, g3, g4, g5, g6, g7, g8, g9⟩ := tc_g TC
      by_cases hk : kp = 0
      · subst hk
        refine pr_fd hs hR 6 (by omega) (by omega) (cl_197 (k := 0) ?_) (fun I' hI => cl_199 (k := 0) ?_)
        · unfold f_197 f_197_34
          simp only [it_lit, gO_e (yt H), gV_e (yp_4 H), gO_e (yt29 H)]
          rw [if_neg (fun q => by have := (it_lt (by omega) (by omega) (by omega) (by omega)).mp q; omega), if_pos ((it_le (by omega) (by omega) (by omega) (by omega)).mpr (by omega)), b2, if_neg (by decide), h8, if_neg (fun q => q rfl), s_17 H (by omega) (by omega)]
          rfl
        · unfold f_199 f_199_30
          simp only [it_lit]
          rw [s_19i (by omega) (by omega) (by omega) (by omega) (by omega) (by omega)]
          simp only [cI_e, bi0, gO_e (yt46 H)]
          rw [if_pos (fun q => q ⟨by omega, by omega⟩), hI (B + 46) (by omega), b3, if_neg (by decide), h41, if_neg (fun q => q rfl), s_20 H (by omega) (by omega)]
          rfl
      · obtain ⟨zn, rfl⟩ := z_nat (by omega : 0 ≤ z)
        obtain ⟨g, eg⟩ : ∃ g : Nat, g = if kp < zn then kp else zn := ⟨_, rfl⟩
        have g1' : 1 ≤ g := by rw [eg]; split <;> omega
        have gk : g ≤ kp := by rw [eg]; split <;> omega
        have emin : (if it (kp : Int) < it (zn : Int) then it (kp : Int) else it (zn : Int)) = it g := by
          rw [eg]
          by_cases h : kp < zn
          · rw [if_pos ((it_lt (by omega) (by omega) (by omega) (by omega)).mpr (by omega)), if_pos h]
          · rw [if_neg (fun q => by have := (it_lt (by omega) (by omega) (by omega) (by omega)).mp q; omega), if_neg h]
        obtain ⟨I1, sl', t1, t2, t3, t4, t5, t6, t7⟩ := lp_back (K := K) (d := d + 18) (J := J) (g := g) (l1 := it zn) H (by omega) g 0 kp sl I (by omega) gk k30 s32 h8 h7 Hs
        have hOK : ∀ c n n' : Nat → Int32, (∀ i, i < 360 → n' i = n i) → okH (N, F, fa, oc, ar, sh, rc) c n → okH (N, F, fa, oc, ar, sh, rc) c n' := fun c n n' h o => okH_x (G := (N, F, fa, oc, ar, sh, rc)) g2 g3 h o
        have c177 := s_177 (K := K) (d := d + 18) (J := J) (I := sm_up2 I1 (B + 46) 41 (it ((kp - g : Nat) : Int))) (fr := 360 * (kp - g)) (tz := 0) (len := 360) (yt67 H) (yt65 H) (by omega) (by omega) (by omega) (by omega) (fun e => by omega)
        obtain ⟨I2, eI2⟩ : ∃ I2 : aI, I2 = sm_up1 (sm_up2 I1 (B + 46) 41 (it ((kp - g : Nat) : Int))) (B + 65) (cpr (sm_up2 I1 (B + 46) 41 (it ((kp - g : Nat) : Int)) (B + 67)) (sm_up2 I1 (B + 46) 41 (it ((kp - g : Nat) : Int)) (B + 65)) (360 * (kp - g)) 0 360) := ⟨_, rfl⟩
        rw [← eI2] at c177
        have f2 : ∀ b, ¬ b = B + 46 → ¬ b = B + 65 → I2 b = I1 b := fun b h1 h2 => by rw [eI2, up1_n h2, up2_n h1]
        have f53 : I2 (B + 46) = sm_up1 (I1 (B + 46)) 41 (it ((kp - g : Nat) : Int)) := by rw [eI2, up1_n (by omega), up2_r]
        have f72 : ∀ i, i < 360 → I2 (B + 65) i = I (B + 67) (360 * (kp - g) + i) := fun i hi => by
          rw [eI2, up1_s]
          unfold cpr
          rw [if_pos (by omega), up2_n (by omega), t2 _ (by omega) (by omega), show 360 * (kp - g) + (i - 0) = 360 * (kp - g) + i by omega]
        have oo : okH (N, F, fa, oc, ar, sh, rc) (I1 (B + 30)) (I2 (B + 65)) := hOK _ _ _ f72 (t7 g1')
        refine ⟨(it (g : Int)).toInt64, w, I1, J, w, I2, J, cl_197 (k := g + 1) (d := d + 19) ?_, sc_of hs H (hR.2.1 b hs.1).2.1 ?_, cl_199 (k := 0) (d := d + 19) ?_, rR_ma hR H rfl rfl (fun _ _ => rfl) (fun b b1 b2 b3 b4 => ?_) (fun k hk => ?_) (fun k k1 k2 => ?_) ?_⟩
        · unfold f_197
          simp only [it_lit, gO_e (yt H), gV_e (yp_4 H), gO_e (yt29 H), lt_]
          rw [if_neg (fun q => by have := (it_lt (by omega) (by omega) (by omega) (by omega)).mp q; omega), if_pos ((it_le (by omega) (by omega) (by omega) (by omega)).mpr (by omega)), b2, if_neg (by decide), h8, if_pos (fun q => by have := (it_eq (by omega) (by omega) (by omega) (by omega)).mp q; omega), emin]
          exact t1
        · rw [t2 b (by have := hs.1; omega) (by have := hs.1; omega)]; exact (hR.2.1 b hs.1).1
        · unfold f_199
          simp only [it_lit]
          rw [s_19i (by omega) (by omega) (by omega) (by omega) (by omega) (by omega)]
          simp only [cI_e, bi0, gO_e (yt46 H), gV_e (yp46_36 H), gV_e (yp46_38 H), lt_]
          rw [if_pos (fun q => q ⟨by omega, by omega⟩), t2 (B + 46) (by omega) (by omega), b3, if_neg (by decide), h41, if_pos (fun q => by have := (it_eq (by omega) (by omega) (by omega) (by omega)).mp q; omega), emin, it_sub, show (kp : Int) - (g : Int) = ((kp - g : Nat) : Int) by omega]
          rw [up2_r, up1_s, it_mul, show ((kp - g : Nat) : Int) * 360 = ((360 * (kp - g) : Nat) : Int) by omega]
          have c177' : Cl K (d + 19) 177 [.ref (B + 67), .int (it ((360 * (kp - g) : Nat) : Int)), .ref (B + 65), .int (it 0), .int (it 360)] w (sm_up2 I1 (B + 46) 41 (it ((kp - g : Nat) : Int))) J = some (none, w, I2, J) := c177
          rw [c177']
          rfl
        · rw [f2 b b3 (by omega), t2 b (by omega) (by omega)]
        · rw [f2 B (by omega) (by omega), t2 B (by omega) (by omega)]
        · rw [f53, up1_n k1, t2 (B + 46) (by omega) (by omega)]
        · have fX : ∀ b, ¬ b = B + 29 → ¬ b = B + 30 → ¬ b = B + 46 → ¬ b = B + 65 → I2 b = I b := fun b h1 h2 h3 h4 => by rw [f2 b h3 h4, t2 b h1 h2]
          refine rPM_m (G := (N, F, fa, oc, ar, sh, rc)) ha p1 p2 hp p3.2 TC (gX_c (or_a ha) (fun b b1 b2 => fX b (by omega) (by omega) (by omega) (by omega)) gx) ?_ ?_ ?_ hN ⟨kp - g, sl', by omega, t5, ?_, ?_, ?_, ?_, ?_, ?_⟩
          · obtain ⟨y1, y2, y3, y4⟩ := gm
            have f53' : ∀ k, ¬ k = 41 → I2 (B + 46) k = I (B + 46) k := fun k hk => by rw [f53, up1_n hk, t2 (B + 46) (by omega) (by omega)]
            refine ⟨by rw [f53' _ (by omega)]; exact y1, by rw [f53' _ (by omega)]; exact y2, ?_, ?_⟩
            · rw [fX (B + 59) (by omega) (by omega) (by omega) (by omega), fX (B + 60) (by omega) (by omega) (by omega) (by omega), fX (B + 62) (by omega) (by omega) (by omega) (by omega), fX (B + 63) (by omega) (by omega) (by omega) (by omega)]; exact y3
            · rw [fX (B + 58) (by omega) (by omega) (by omega) (by omega)]; exact y4
          · rw [fX B (by omega) (by omega) (by omega) (by omega)]; exact b2
          · rw [f53, up1_n (by omega), t2 (B + 46) (by omega) (by omega)]; exact b3
          · rw [f2 _ (by omega) (by omega)]; exact t3
          · rw [f53, up1_s]
          · rw [f2 _ (by omega) (by omega)]; exact t4
          · rw [f2 (B + 30) (by omega) (by omega)]; exact oo.1
          · exact oo.2
          · rw [fX (B + 32) (by omega) (by omega) (by omega) (by omega), fX (B + 33) (by omega) (by omega) (by omega) (by omega), fX (B + 34) (by omega) (by omega) (by omega) (by omega), fX (B + 35) (by omega) (by omega) (by omega) (by omega), fX (B + 67) (by omega) (by omega) (by omega) (by omega), fX (B + 68) (by omega) (by omega) (by omega) (by omega), f2 (B + 30) (by omega) (by omega)]
            exact t6
    · have hb0 := bg_01 b1 hb
      subst hb0
      refine pr_fd hs hR 6 (by omega) (by omega) (cl_197 (k := 0) ?_) (fun I' hI => cl_199 (k := 0) ?_)
      · unfold f_197 f_197_34
        simp only [it_lit, gO_e (yt H)]
        rw [if_neg (fun q => by have := (it_lt (by omega) (by omega) (by omega) (by omega)).mp q; omega), if_pos ((it_le (by omega) (by omega) (by omega) (by omega)).mpr (by omega)), b2, if_pos (by decide), s_17 H (by omega) (by omega)]
        rfl
      · unfold f_199 f_199_30
        simp only [it_lit]
        rw [s_19i (by omega) (by omega) (by omega) (by omega) (by omega) (by omega)]
        simp only [cI_e, bi0, gO_e (yt46 H)]
        rw [if_pos (fun q => q ⟨by omega, by omega⟩), hI (B + 46) (by omega), b3, if_pos (by decide), s_20 H (by omega) (by omega)]
        rfl
  · refine pr_fd hs hR 1 (by omega) (by omega) (cl_197 (k := 0) ?_) (fun I' hI => cl_199 (k := 0) ?_)
    · unfold f_197 f_197_11
      simp only [it_lit, gO_e (yt H)]
      rw [s_17 H (by omega) (by omega)]
      by_cases h0 : z < 1
      · rw [if_pos ((it_lt (by omega) (by omega) (by omega) (by omega)).mpr (by omega))]; rfl
      · rw [if_neg (fun q => by have := (it_lt (by omega) (by omega) (by omega) (by omega)).mp q; omega), if_neg (fun q => by have := (it_le (by omega) (by omega) (by omega) (by omega)).mp q; omega)]; rfl
    · unfold f_199
      simp only [it_lit]
      rw [s_19i (by omega) (by omega) (by omega) (by omega) (by omega) (by omega)]
      simp only [cI_e, bi0, gO_e (yt46 H)]
      rw [if_neg (by omega), s_20 H (by omega) (by omega)]
      rfl
end PRB

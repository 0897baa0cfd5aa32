/-! what a text leaves: the reference -/
section TEM
variable {K : Nat → Value} {B d e a ao : Nat} {w wm : aW} {Ix Im I I' X Z : aI} {Jx Jm J J' JX : aJ} {bs : Nat → Nat} {t n c r h N Nm f g k m : Nat} {nf tf : Int} {fa : Nat → Nat → Nat} {G : gG} {rc : Nat → Bool}
def zI (B kd : Nat) (pl : Int) (Z : aI) : aI := sm_up2 (sm_up2 (sm_up2 Z (B + 46) 3 (it kd)) (B + 46) 4 (it pl)) (B + 46) 2 (it 0)
theorem m_212 {kd : Nat} {pl : Int} (H : Lay B w) (h4 : kd ≤ 4) : f_83_212 K k d (B + 46) (B + 46) (it pl) w (sm_up2 Z (B + 46) 3 (it kd)) J = if kd = 0 then f_83_249 K k d (B + 46) (it 0) w (sm_up2 (sm_up2 (zI B kd pl Z) (B + 46) 16 (Z (B + 46) 5)) (B + 46) 17 (Z (B + 46) 13)) J else some (some (.long (-1)), w, zI B kd pl Z, J) := by
  have z3 : zI B kd pl Z (B + 46) 3 = it kd := by unfold zI; rw [up2_r, up1_n (by omega), up2_r, up1_n (by omega), up2_r, up1_s]
  have z5 : zI B kd pl Z (B + 46) 5 = Z (B + 46) 5 := by unfold zI; rw [up2_r, up1_n (by omega), up2_r, up1_n (by omega), up2_r, up1_n (by omega)]
  have z13 : (sm_up2 (zI B kd pl Z) (B + 46) 16 (Z (B + 46) 5)) (B + 46) 13 = Z (B + 46) 13 := by unfold zI; rw [up2_r, up1_n (by omega), up2_r, up1_n (by omega), up2_r, up1_n (by omega), up2_r, up1_n (by omega)]
  unfold f_83_212
  simp only [it_lit, it_neg, lt_p, gO_e (yt46 H)]
  unfold zI at z3 z5 z13
  rw [z3, z5, z13]
  by_cases q : kd = 0
  · rw [if_pos ((it_le (by omega) (by omega) (by omega) (by omega)).mpr (by omega)), if_pos q]
    rfl
  · rw [if_neg (fun q => by have := (it_le (by omega) (by omega) (by omega) (by omega)).mp q; omega), if_neg q]
    rfl
theorem m_83e (H : Lay B w) (mE : ME B bs t n c r 0 N nf tf Z) (hX : TX bs t n) (h2 : Z (B + 46) 2 = it t) : f_83_98 K k d (B + 46) w Z J = if fk r N nf tf = 0 then f_83_249 K k d (B + 46) (it 0) w (sm_up2 (sm_up2 (zI B 0 (-1) Z) (B + 46) 16 (Z (B + 46) 5)) (B + 46) 17 (Z (B + 46) 13)) J else some (some (.long (-1)), w, zI B (fk r N nf tf) (fpl r N nf tf (tst bs t c) t) Z, J) := by
  obtain ⟨x0, x1, x2, x3, x4, x5, x6, x7, x8, x9, x10⟩ := mE
  have hr := x0.2.2.1
  have e : ∀ kd : Nat, kd ≤ 4 → f_83_147 K k d (B + 46) (B + 46) (it kd) w Z J = f_83_212 K k d (B + 46) (B + 46) (if kd = 1 then Z (B + 46) 22 else if kd = 2 then Z (B + 46) 27 else if kd = 3 then Z (B + 46) 28 else if kd = 4 then Z (B + 46) 2 else it (-1)) w (sm_up2 Z (B + 46) 3 (it kd)) J := by
    intro kd hk
    have z : ∀ j, ¬ j = 3 → (sm_up2 Z (B + 46) 3 (it kd)) (B + 46) j = Z (B + 46) j := fun j hj => by rw [up2_r, up1_n hj]
    unfold f_83_147
    simp only [it_lit, it_neg, lt_p, gO_e (yt46 H)]
    rw [show (sm_up2 Z (B + 46) 3 (it kd)) (B + 46) 3 = it kd by rw [up2_r, up1_s], z 22 (by omega), z 27 (by omega), z 28 (by omega), z 2 (by omega)]
    have hk' : kd = 0 ∨ kd = 1 ∨ kd = 2 ∨ kd = 3 ∨ kd = 4 := by omega
    rcases hk' with rfl | rfl | rfl | rfl | rfl <;> ((repeat (first | rw [if_pos (by decide)] | rw [if_neg (by decide)])))
  unfold f_83_98
  simp only [it_lit, gO_e (yt46 H)]
  rw [x0.2.1, x1, x4, x9]
  unfold fk fpl
  by_cases r0 : r = 0
  · rw [if_pos (by rw [r0]; rfl), if_pos r0, if_pos r0]
    by_cases q1 : nf < 0
    · rw [if_pos ((it_lt (by omega) (by omega) (by omega) (by omega)).mpr (by omega)), if_pos q1, if_pos q1]
      by_cases q2 : tf < 0
      · rw [if_pos ((it_lt (by omega) (by omega) (by omega) (by omega)).mpr (by omega)), if_pos q2, if_pos q2]
        by_cases q3 : N ≤ 200
        · rw [if_pos ((it_le (by omega) (by omega) (by omega) (by omega)).mpr (by omega)), if_pos q3, if_pos rfl]
          have e' : f_83_147 K k d (B + 46) (B + 46) (it 0) w Z J = _ := e 0 (by omega)
          rw [e', if_neg (by decide), if_neg (by decide), if_neg (by decide), if_neg (by decide), m_212 H (by omega), if_pos rfl, x9]
        · rw [if_neg (fun q => by have := (it_le (by omega) (by omega) (by omega) (by omega)).mp q; omega), if_neg q3, if_neg q3, if_neg (by decide)]
          have e' : f_83_147 K k d (B + 46) (B + 46) (it 4) w Z J = _ := e 4 (by omega)
          rw [e', if_neg (by decide), if_neg (by decide), if_neg (by decide), if_pos rfl, h2, m_212 H (by omega), if_neg (by decide)]
      · rw [if_neg (fun q => by have := (it_lt (by omega) (by omega) (by omega) (by omega)).mp q; omega), if_neg q2, if_neg q2, if_neg (by decide)]
        have e' : f_83_147 K k d (B + 46) (B + 46) (it 3) w Z J = _ := e 3 (by omega)
        rw [e', if_neg (by decide), if_neg (by decide), if_pos rfl, x4, m_212 H (by omega), if_neg (by decide)]
    · rw [if_neg (fun q => by have := (it_lt (by omega) (by omega) (by omega) (by omega)).mp q; omega), if_neg q1, if_neg q1, if_neg (by decide)]
      have e' : f_83_147 K k d (B + 46) (B + 46) (it 2) w Z J = _ := e 2 (by omega)
      rw [e', if_neg (by decide), if_pos rfl, x1, m_212 H (by omega), if_neg (by decide)]
  · rw [if_neg (fun q => by have := (it_eq (by omega) (by omega) (by omega) (by omega)).mp q; omega), if_neg r0, if_neg r0, if_neg (by decide)]
    have e' : f_83_147 K k d (B + 46) (B + 46) (it 1) w Z J = _ := e 1 (by omega)
    rw [e', if_pos rfl, x0.2.2.2.2.1, m_212 H (by omega), if_neg (by decide)]
/-- the code is kept -/
theorem m_249 (H : Lay B w) (hN : N ≤ 200) : ∀ (m i kx : Nat) (I : aI), i + m = N → m < kx → I (B + 46) 13 = it N → ∃ I', f_83_249 K kx d (B + 46) (it i) w I J = f_83_289 K (kx - m - 1) d (B + 46) (it 0) w I' J ∧ (∀ b, ¬ b = B + 59 → ¬ b = B + 60 → I' b = I b) ∧ (∀ p, i ≤ p → p < N → I' (B + 59) p = I (B + 56) p ∧ I' (B + 60) p = I (B + 57) p) ∧ ∀ p, p < i → I' (B + 59) p = I (B + 59) p ∧ I' (B + 60) p = I (B + 60) p := by
  intro m
  induction m with
  | zero =>
    intro i kx I hi hk h13
    obtain ⟨kx, rfl⟩ : ∃ k', kx = k' + 1 := ⟨kx - 1, by omega⟩
    refine ⟨I, ?_, fun _ _ _ => rfl, fun p p1 p2 => by omega, fun _ _ => ⟨rfl, rfl⟩⟩
    rw [f_83_249]
    simp only [it_lit, lt_p, gO_e (yt46 H)]
    rw [h13, if_pos ((it_le (by omega) (by omega) (by omega) (by omega)).mpr (by omega))]
    rfl
  | succ m ih =>
    intro i kx I hi hk h13
    obtain ⟨kx, rfl⟩ : ∃ k', kx = k' + 1 := ⟨kx - 1, by omega⟩
    obtain ⟨I1, eI1⟩ : ∃ x, x = sm_up2 (sm_up2 I (B + 59) i (I (B + 56) i)) (B + 60) i (I (B + 57) i) := ⟨_, rfl⟩
    obtain ⟨I', r1, r2, r3, r4⟩ := ih (i + 1) kx I1 (by omega) (by omega) (by rw [eI1, up2_n (by omega), up2_n (by omega)]; exact h13)
    have o : ∀ b, ¬ b = B + 59 → ¬ b = B + 60 → I1 b = I b := fun b b1 b2 => by rw [eI1, up2_n b2, up2_n b1]
    have o66 : I1 (B + 59) = sm_up1 (I (B + 59)) i (I (B + 56) i) := by rw [eI1, up2_n (by omega), up2_r]
    have o67 : I1 (B + 60) = sm_up1 (I (B + 60)) i (I (B + 57) i) := by rw [eI1, up2_r, up2_n (by omega)]
    refine ⟨I', ?_, fun b b1 b2 => by rw [r2 b b1 b2, o b b1 b2], fun p p1 p2 => ?_, fun p hp => ?_⟩
    · rw [show kx + 1 - (m + 1) - 1 = kx - m - 1 by omega, ← r1, f_83_249]
      simp only [it_lit, lt_p, gO_e (yt46 H), gV_e (yp46_19 H), gV_e (yp46_14 H), gV_e (yp46_20 H), gV_e (yp46_15 H), it_add]
      rw [h13, if_neg (fun q => by have := (it_le (by omega) (by omega) (by omega) (by omega)).mp q; omega), gA_e (yt56 H) (Or.inl rfl) (ix (by omega) (by omega) (by omega)), gA_e (yt59 H) (Or.inl rfl) (ix (by omega) (by omega) (by omega)), gA_e (yt57 H) (Or.inl rfl) (ix (by omega) (by omega) (by omega)), gA_e (yt60 H) (Or.inl rfl) (ix (by omega) (by omega) (by omega)), it_n (show i < 1000000 by omega), up2_n (a := B + 59) (b := B + 57) (by omega), ← eI1, show (i : Int) + 1 = ((i + 1 : Nat) : Int) by omega]
    · by_cases q : p = i
      · subst q
        obtain ⟨q1, q2⟩ := r4 p (by omega)
        rw [q1, q2, o66, o67, up1_s, up1_s]
        exact ⟨rfl, rfl⟩
      · obtain ⟨q1, q2⟩ := r3 p (by omega) p2
        rw [q1, q2, o (B + 56) (by omega) (by omega), o (B + 57) (by omega) (by omega)]
        exact ⟨rfl, rfl⟩
    · obtain ⟨q1, q2⟩ := r4 p (by omega)
      rw [q1, q2, o66, o67, up1_n (by omega), up1_n (by omega)]
      exact ⟨rfl, rfl⟩
theorem m_365 {rr : Nat → Int32 → aW → aI → aJ → Option aR} (H : Lay B w) (hg : g < 5) : ∀ (m v kx : Nat) (R : Nat → Int32), v + m = 6 → m < kx → ∃ R', f_83_365 K kx d rr (B + 46) (it g) (it v) w (sm_up1 I (B + 58) R) J = rr (B + 46) (it ((g + 1 : Nat) : Int)) w (sm_up1 I (B + 58) R') J ∧ (∀ u, v ≤ u → u < 6 → R' (10 * g + 4 + u) = I (B + 55) (6 * g + u)) ∧ ∀ k, k < 10 * g + 4 + v → R' k = R k := by
  intro m
  induction m with
  | zero =>
    intro v kx R hv hk
    obtain ⟨kx, rfl⟩ : ∃ k', kx = k' + 1 := ⟨kx - 1, by omega⟩
    refine ⟨R, ?_, fun u u1 u2 => by omega, fun _ _ => rfl⟩
    rw [f_83_365]
    simp only [it_lit, lt_p, it_add]
    rw [if_pos ((it_le (by omega) (by omega) (by omega) (by omega)).mpr (by omega)), show (g : Int) + 1 = ((g + 1 : Nat) : Int) by omega]
  | succ m ih =>
    intro v kx R hv hk
    obtain ⟨kx, rfl⟩ : ∃ k', kx = k' + 1 := ⟨kx - 1, by omega⟩
    obtain ⟨R', r1, r2, r3⟩ := ih (v + 1) kx (sm_up1 R (10 * g + 4 + v) (I (B + 55) (6 * g + v))) (by omega) (by omega)
    refine ⟨R', ?_, fun u u1 u2 => ?_, fun k hk => ?_⟩
    · rw [← r1, f_83_365]
      simp only [it_lit, lt_p, gO_e (yt46 H), gV_e (yp46_18 H), gV_e (yp46_12 H), it_add, it_mul]
      rw [if_neg (fun q => by have := (it_le (by omega) (by omega) (by omega) (by omega)).mp q; omega), gA_e (yt55 H) (Or.inl rfl) (ix (by omega) (by omega) (by omega)), gA_e (yt58 H) (Or.inl rfl) (ix (by omega) (by omega) (by omega)), it_cl (by omega) (by omega), it_cl (by omega) (by omega), show (10 * (g : Int) + 4 + v).toNat = 10 * g + 4 + v by omega, show (6 * (g : Int) + v).toNat = 6 * g + v by omega, up12, up1_n (show ¬ B + 55 = B + 58 by omega), show (v : Int) + 1 = ((v + 1 : Nat) : Int) by omega]
    · by_cases q : u = v
      · subst q; rw [r3 _ (by omega), up1_s]
      · exact r2 u (by omega) u2
    · rw [r3 k (by omega), up1_n (by omega)]
theorem m_289 (H : Lay B w) (f5 : f ≤ 5) (h5 : I (B + 46) 5 = it f) : ∀ (m g kx : Nat) (R : Nat → Int32), g + m = f → m + 8 < kx → ∃ R', f_83_289 K kx d (B + 46) (it g) w (sm_up1 I (B + 58) R) J = f_83_289 K (kx - m) d (B + 46) (it f) w (sm_up1 I (B + 58) R') J ∧ (∀ g', g ≤ g' → g' < f → R' (10 * g') = I (B + 50) g' ∧ R' (10 * g' + 1) = I (B + 51) g' ∧ R' (10 * g' + 2) = I (B + 52) g' ∧ R' (10 * g' + 3) = I (B + 53) g' ∧ ∀ u, u < 6 → R' (10 * g' + 4 + u) = I (B + 55) (6 * g' + u)) ∧ ∀ k, k < 10 * g → R' k = R k := by
  intro m
  induction m with
  | zero =>
    intro g kx R hg hk
    have : g = f := by omega
    subst this
    exact ⟨R, rfl, fun g' g1 g2 => by omega, fun _ _ => rfl⟩
  | succ m ih =>
    intro g kx R hg hk
    obtain ⟨kx, rfl⟩ : ∃ k', kx = k' + 1 := ⟨kx - 1, by omega⟩
    obtain ⟨R0, eR0⟩ : ∃ x, x = sm_up1 (sm_up1 (sm_up1 (sm_up1 R (10 * g) (I (B + 50) g)) (10 * g + 1) (I (B + 51) g)) (10 * g + 2) (I (B + 52) g)) (10 * g + 3) (I (B + 53) g) := ⟨_, rfl⟩
    obtain ⟨R1, s1, s2, s3⟩ := m_365 (K := K) (d := d) (I := I) (J := J) (rr := f_83_289 K kx d) (g := g) H (by omega) 6 0 kx R0 (by omega) (by omega)
    obtain ⟨R', r1, r2, r3⟩ := ih (g + 1) kx R1 (by omega) (by omega)
    refine ⟨R', ?_, fun g' g1 g2 => ?_, fun k hk => ?_⟩
    · rw [show kx + 1 - (m + 1) = kx - m by omega, ← r1, ← s1, f_83_289]
      simp only [it_lit, lt_p, gO_e (yt46 H), gV_e (yp46_18 H), gV_e (yp46_7 H), gV_e (yp46_8 H), gV_e (yp46_9 H), gV_e (yp46_10 H), it_add, it_mul]
      rw [up1_n (show ¬ B + 46 = B + 58 by omega), h5, if_neg (fun q => by have := (it_le (by omega) (by omega) (by omega) (by omega)).mp q; omega), gA_e (yt50 H) (Or.inl rfl) (ix (by omega) (by omega) (by omega)), gA_e (yt58 H) (Or.inl rfl) (ix (by omega) (by omega) (by omega)), gA_e (yt51 H) (Or.inl rfl) (ix (by omega) (by omega) (by omega)), gA_e (yt58 H) (Or.inl rfl) (ix (by omega) (by omega) (by omega)), gA_e (yt52 H) (Or.inl rfl) (ix (by omega) (by omega) (by omega)), gA_e (yt58 H) (Or.inl rfl) (ix (by omega) (by omega) (by omega)), gA_e (yt53 H) (Or.inl rfl) (ix (by omega) (by omega) (by omega)), gA_e (yt58 H) (Or.inl rfl) (ix (by omega) (by omega) (by omega)), it_n (show g < 1000000 by omega), it_cl (by omega) (by omega), it_cl (by omega) (by omega), it_cl (by omega) (by omega), it_cl (by omega) (by omega), show (10 * (g : Int)).toNat = 10 * g by omega, show (10 * (g : Int) + 1).toNat = 10 * g + 1 by omega, show (10 * (g : Int) + 2).toNat = 10 * g + 2 by omega, show (10 * (g : Int) + 3).toNat = 10 * g + 3 by omega]
      simp only [up12, up1_n (show ¬ B + 50 = B + 58 by omega), up1_n (show ¬ B + 51 = B + 58 by omega), up1_n (show ¬ B + 52 = B + 58 by omega), up1_n (show ¬ B + 53 = B + 58 by omega)]
      rw [← eR0]
      rfl
    · by_cases q : g' = g
      · subst q
        rw [r3 _ (by omega), r3 _ (by omega), r3 _ (by omega), r3 _ (by omega), s3 _ (by omega), s3 _ (by omega), s3 _ (by omega), s3 _ (by omega), eR0, up1_n (by omega), up1_n (by omega), up1_n (by omega), up1_s, up1_n (by omega), up1_n (by omega), up1_s, up1_n (by omega), up1_s, up1_s]
        exact ⟨rfl, rfl, rfl, rfl, fun u hu => by rw [r3 _ (by omega)]; exact s2 u (by omega) hu⟩
      · exact r2 g' (by omega) g2
    · rw [r3 k (by omega), s3 k (by omega), eR0, up1_n (by omega), up1_n (by omega), up1_n (by omega), up1_n (by omega)]
end TEM

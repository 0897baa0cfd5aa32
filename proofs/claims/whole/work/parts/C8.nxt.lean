/-! the reference's next -/
section NXT
variable {K : Nat → Value} {B d k : Nat} {w : aW} {I : aI} {J : aJ} {bs : Nat → Nat} {t c p q n : Nat}
/-- the reference at the token that begins at p -/
def MT (B : Nat) (bs : Nat → Nat) (t p : Nat) (I : aI) : Prop := I (B + 46) 22 = it p ∧ I (B + 46) 23 = it (lxe bs t p : Nat) ∧ ∃ s k : Int, I (B + 46) 24 = it s ∧ I (B + 46) 25 = it k ∧ -1 ≤ k ∧ k < 20 ∧ 0 ≤ s ∧ s ≤ 5 ∧ SK bs p (kdo bs t p) s k
theorem l_84L (H : Lay B w) (ht : t ≤ 240) (hpt : p < t) (hlp : isL (bs p)) (hK : rKy K B w) : ∀ (m e kf : Nat) (I : aI), e + m = t → m < kf → p ≤ e → MTp B bs t I → StO K B w I → I (B + 46) 22 = it p → I (B + 46) 23 = it e → spn bs 97 122 m e = lxe bs t p → (∀ i, p ≤ i → i < e → isL (bs i)) → ∃ I', f_84_95 K kf (d + 5) (B + 46) w I J = some (none, w, I', J) ∧ FrM B I I' ∧ MT B bs t p I' := by
  intro m
  have fin : ∀ (e kf : Nat) (I : aI), e ≤ t → p ≤ e → MTp B bs t I → StO K B w I → I (B + 46) 22 = it p → I (B + 46) 23 = it e → e = lxe bs t p → (∀ i, p ≤ i → i < e → isL (bs i)) → (¬ (e < t ∧ isL (bs e))) → ∃ I', f_84_95 K (kf + 1) (d + 5) (B + 46) w I J = some (none, w, I', J) ∧ FrM B I I' ∧ MT B bs t p I' := by
    intro e kf I h1 h2 hM hO h22 h23 he hl hne
    rw [f_84_95]
    simp only [it_lit, lt_p, gO_e (yt46 H), h23]
    rw [s_85 (d := d + 3) H hM ht h1, if_neg hne]
    simp only [cI_e, gO_e (yt46 H)]
    rw [if_pos trivial]
    have hq := (lxe_b (bs := bs) hpt)
    have e1 : e = p + (e - p) := by omega
    rw [e1] at h23 hl
    rw [s_86 H hM ht h22 h23 (by omega) hl hO hK]
    simp only [cI_e, gO_e (yt46 H), up2_r, up1_s]
    rw [up1_n (by omega), up1_n (by omega), h22, h23, it_sub, show (((p + (e - p) : Nat) : Int) - (p : Int)) = ((e - p : Nat) : Int) by omega]
    have kd : kdo bs t p = if e - p = 1 then 1 else kix (rl bs p (e - p)) kyl 256 := by
      unfold kdo
      rw [if_neg (by omega), if_pos hlp, ← he]
    have hlen : 1 ≤ e - p := by omega
    have hkb : -1 ≤ kfd (rl bs p (e - p)) 20 ∧ kfd (rl bs p (e - p)) 20 < 20 := by
      rcases kfd_s (rl bs p (e - p)) with ⟨h, _⟩ | ⟨r, r1, r2, _⟩ <;> omega
    have out : ∀ s : Int, 0 ≤ s → s ≤ 5 → SK bs p (kdo bs t p) s (kfd (rl bs p (e - p)) 20) → ∃ I', f_84_157 K kf (d + 5) (B + 46) (B + 46) (it s) w (sm_up2 I (B + 46) 25 (it (kfd (rl bs p (e - p)) 20))) J = some (none, w, I', J) ∧ FrM B I I' ∧ MT B bs t p I' := by
      intro s s0 s5 hS
      unfold f_84_157
      simp only [gO_e (yt46 H), lt_p]
      refine ⟨_, rfl, FrM_t (FrM_u (by omega)) (FrM_u (by omega)), ?_, ?_, s, _, ?_, ?_, hkb.1, hkb.2, s0, s5, hS⟩
      · rw [up2_r, up1_n (by omega), up2_r, up1_n (by omega)]; exact h22
      · rw [up2_r, up1_n (by omega), up2_r, up1_n (by omega), h23, ← he]; congr 2; omega
      · rw [up2_r, up1_s]
      · rw [up2_r, up1_n (by omega), up2_r, up1_s]
    by_cases e2 : e - p = 1
    · rw [if_neg (fun q => q (by rw [e2]; rfl))]
      exact out 1 (by omega) (by omega) (Or.inr (Or.inl ⟨by rw [kd, if_pos e2], rfl⟩))
    · rw [if_pos (fun q => by have := (it_eq (by omega) (by omega) (by omega) (by omega)).mp q; omega)]
      rw [if_neg e2] at kd
      rcases kfd_s (rl bs p (e - p)) with ⟨k1, k2⟩ | ⟨r, r1, k1, k2⟩
      · rw [if_pos ((it_lt (by omega) (by omega) (by omega) (by omega)).mpr (by omega))]
        exact out 5 (by omega) (by omega) (Or.inr (Or.inr (Or.inr (Or.inr (Or.inl ⟨by rw [kd, k2], rfl⟩)))))
      · rw [if_neg (fun q => by have := (it_lt (by omega) (by omega) (by omega) (by omega)).mp q; omega)]
        exact out 2 (by omega) (by omega) (Or.inr (Or.inr (Or.inl ⟨r, r1, by rw [kd, k2], rfl, k1⟩)))
  induction m with
  | zero =>
    intro e kf I hm hkf hpe hM hO h22 h23 hs hl
    obtain ⟨kf, rfl⟩ : ∃ k', kf = k' + 1 := ⟨kf - 1, by omega⟩
    rw [spn] at hs
    exact fin e kf I (by omega) hpe hM hO h22 h23 hs hl (by omega)
  | succ m ih =>
    intro e kf I hm hkf hpe hM hO h22 h23 hs hl
    obtain ⟨kf, rfl⟩ : ∃ k', kf = k' + 1 := ⟨kf - 1, by omega⟩
    rw [spn] at hs
    by_cases h1 : isL (bs e)
    · rw [if_pos h1] at hs
      rw [f_84_95]
      simp only [it_lit, lt_p, gO_e (yt46 H), h23]
      rw [s_85 (d := d + 3) H hM ht (by omega), if_pos ⟨by omega, h1⟩]
      simp only [cI_e, gO_e (yt46 H)]
      rw [if_neg (by decide), h23]
      simp only [it_add]
      have hf : FrM B I (sm_up2 I (B + 46) 23 (it ((e : Int) + 1))) := FrM_u (by omega)
      obtain ⟨I', g1, g2, g3⟩ := ih (e + 1) kf (sm_up2 I (B + 46) 23 (it ((e : Int) + 1))) (by omega) (by omega) (by omega) (MTp_f hf hM) (StO_c (fun a ha => ⟨hf.1 a (by omega), rfl, rfl⟩) hO) (by rw [up2_r, up1_n (by omega)]; exact h22) (by rw [up2_r, up1_s]; rfl) hs (fun i i1 i2 => by
        by_cases ei : i = e
        · subst ei; exact h1
        · exact hl i i1 (by omega))
      exact ⟨I', g1, FrM_t hf g2, g3⟩
    · rw [if_neg h1] at hs
      exact fin e kf I (by omega) hpe hM hO h22 h23 hs hl (fun q => h1 q.2)
theorem l_84D (H : Lay B w) (ht : t ≤ 240) (hpt : p < t) (hlp : isD (bs p)) : ∀ (m e kf : Nat) (I : aI), e + m = t → m < kf → p ≤ e → MTp B bs t I → I (B + 46) 22 = it p → I (B + 46) 23 = it e → I (B + 46) 25 = it (-1) → spn bs 48 57 m e = lxe bs t p → (∀ i, p ≤ i → i < e → isD (bs i)) → ∃ I', f_84_174 K kf (d + 5) (B + 46) w I J = some (none, w, I', J) ∧ FrM B I I' ∧ MT B bs t p I' := by
  intro m
  have fin : ∀ (e kf : Nat) (I : aI), e ≤ t → p ≤ e → MTp B bs t I → I (B + 46) 22 = it p → I (B + 46) 23 = it e → I (B + 46) 25 = it (-1) → e = lxe bs t p → (∀ i, p ≤ i → i < e → isD (bs i)) → (¬ (e < t ∧ isD (bs e))) → ∃ I', f_84_174 K (kf + 1) (d + 5) (B + 46) w I J = some (none, w, I', J) ∧ FrM B I I' ∧ MT B bs t p I' := by
    intro e kf I h1 h2 hM h22 h23 h25 he hl hne
    rw [f_84_174]
    simp only [it_lit, lt_p, gO_e (yt46 H), h23]
    rw [s_87 (d := d + 3) H hM ht h1, if_neg hne]
    simp only [cI_e, gO_e (yt46 H)]
    rw [if_pos trivial, h22, h23, it_sub, show ((e : Int) - (p : Int)) = ((e - p : Nat) : Int) by omega]
    have kd : kdo bs t p = if e - p ≤ 5 then 2 else 3 := by
      unfold kdo
      rw [if_neg (by omega), if_neg (by omega), if_pos hlp, ← he]
    have out : ∀ s : Int, 0 ≤ s → s ≤ 5 → SK bs p (kdo bs t p) s (-1) → ∃ I', f_84_217 K kf (d + 5) (B + 46) (B + 46) (it s) w I J = some (none, w, I', J) ∧ FrM B I I' ∧ MT B bs t p I' := by
      intro s s0 s5 hS
      unfold f_84_217
      simp only [gO_e (yt46 H), lt_p]
      refine ⟨_, rfl, FrM_u (by omega), ?_, ?_, s, -1, ?_, ?_, by omega, by omega, s0, s5, hS⟩
      · rw [up2_r, up1_n (by omega)]; exact h22
      · rw [up2_r, up1_n (by omega), h23, ← he]
      · rw [up2_r, up1_s]
      · rw [up2_r, up1_n (by omega), h25]
    by_cases e2 : e - p ≤ 5
    · rw [if_pos ((it_le (by omega) (by omega) (by omega) (by omega)).mpr (by omega))]
      exact out 3 (by omega) (by omega) (Or.inr (Or.inr (Or.inr (Or.inl ⟨by rw [kd, if_pos e2], rfl⟩))))
    · rw [if_neg (fun q => by have := (it_le (by omega) (by omega) (by omega) (by omega)).mp q; omega)]
      exact out 5 (by omega) (by omega) (Or.inr (Or.inr (Or.inr (Or.inr (Or.inl ⟨by rw [kd, if_neg e2], rfl⟩)))))
  induction m with
  | zero =>
    intro e kf I hm hkf hpe hM h22 h23 h25 hs hl
    obtain ⟨kf, rfl⟩ : ∃ k', kf = k' + 1 := ⟨kf - 1, by omega⟩
    rw [spn] at hs
    exact fin e kf I (by omega) hpe hM h22 h23 h25 hs hl (by omega)
  | succ m ih =>
    intro e kf I hm hkf hpe hM h22 h23 h25 hs hl
    obtain ⟨kf, rfl⟩ : ∃ k', kf = k' + 1 := ⟨kf - 1, by omega⟩
    rw [spn] at hs
    by_cases h1 : isD (bs e)
    · rw [if_pos h1] at hs
      rw [f_84_174]
      simp only [it_lit, lt_p, gO_e (yt46 H), h23]
      rw [s_87 (d := d + 3) H hM ht (by omega), if_pos ⟨by omega, h1⟩]
      simp only [cI_e, gO_e (yt46 H)]
      rw [if_neg (by decide), h23]
      simp only [it_add]
      have hf : FrM B I (sm_up2 I (B + 46) 23 (it ((e : Int) + 1))) := FrM_u (by omega)
      obtain ⟨I', g1, g2, g3⟩ := ih (e + 1) kf (sm_up2 I (B + 46) 23 (it ((e : Int) + 1))) (by omega) (by omega) (by omega) (MTp_f hf hM) (by rw [up2_r, up1_n (by omega)]; exact h22) (by rw [up2_r, up1_s]; rfl) (by rw [up2_r, up1_n (by omega)]; exact h25) hs (fun i i1 i2 => by
        by_cases ei : i = e
        · subst ei; exact h1
        · exact hl i i1 (by omega))
      exact ⟨I', g1, FrM_t hf g2, g3⟩
    · rw [if_neg h1] at hs
      exact fin e kf I (by omega) hpe hM h22 h23 h25 hs hl (fun q => h1 q.2)
theorem l_8452 (H : Lay B w) (ht : t ≤ 240) (hp : p ≤ t) (hw : p < t → ¬ isW (bs p)) (hK : rKy K B w) (hM : MTp B bs t I) (hO : StO K B w I) (h23 : I (B + 46) 23 = it p) (kf : Nat) (hk : 241 < kf) : ∃ I', f_84_52 K kf (d + 5) (B + 46) w I J = some (none, w, I', J) ∧ FrM B I I' ∧ MT B bs t p I' := by
  unfold f_84_52
  simp only [it_lit, lt_p, gO_e (yt46 H), it_neg]
  generalize hI2 : sm_up2 (sm_up2 I (B + 46) 22 (I (B + 46) 23)) (B + 46) 25 (it (-1)) = I2
  have hf : FrM B I I2 := by rw [← hI2]; exact FrM_t (FrM_u (by omega)) (FrM_u (by omega))
  have g22 : I2 (B + 46) 22 = it p := by rw [← hI2, up2_r, up1_n (by omega), up2_r, up1_s, h23]
  have g23 : I2 (B + 46) 23 = it p := by rw [← hI2, up2_r, up1_n (by omega), up2_r, up1_n (by omega), h23]
  have g25 : I2 (B + 46) 25 = it (-1) := by rw [← hI2, up2_r, up1_s]
  have hM2 := MTp_f hf hM
  have hO2 : StO K B w I2 := StO_c (fun a ha => ⟨hf.1 a (by omega), rfl, rfl⟩) hO
  rw [g22, hM2.1]
  by_cases e : p = t
  · rw [if_neg (fun q => q (by rw [e]))]
    refine ⟨_, rfl, FrM_t hf (FrM_u (by omega)), ?_, ?_, 0, -1, ?_, ?_, by omega, by omega, by omega, by omega, Or.inl ⟨by unfold kdo; rw [if_pos (by omega)], rfl⟩⟩
    · rw [up2_r, up1_n (by omega)]; exact g22
    · rw [up2_r, up1_n (by omega), g23, lxe, if_pos (by omega), e]
    · rw [up2_r, up1_s]
    · rw [up2_r, up1_n (by omega)]; exact g25
  · rw [if_pos (fun q => by have := (it_eq (by omega) (by omega) (by omega) (by omega)).mp q; omega), s_85 (d := d + 3) H hM2 ht hp]
    simp only [cI_e, gO_e (yt46 H)]
    have hpt : p < t := by omega
    have hv := (hM2.2 p hpt).1
    by_cases hl : isL (bs p)
    · rw [if_pos (show p < t ∧ isL (bs p) from ⟨hpt, hl⟩), if_neg (by decide)]
      have he : lxe bs t p = spn bs 97 122 (t - p) p := by unfold lxe; rw [if_neg (by omega), if_pos hl]
      obtain ⟨I', i1, i2, i3⟩ := l_84L (d := d) (J := J) H ht hpt hl hK (t - p) p kf I2 (by omega) (by omega) (by omega) hM2 hO2 g22 g23 he.symm (fun i a1 a2 => by omega)
      exact ⟨I', i1, FrM_t hf i2, i3⟩
    · rw [if_neg (show ¬ (p < t ∧ isL (bs p)) from fun q => hl q.2), if_pos (show it 0 = it 0 from rfl), g22, s_87 (d := d + 3) H hM2 ht hp]
      simp only [cI_e, gO_e (yt46 H)]
      by_cases hd : isD (bs p)
      · rw [if_pos (show p < t ∧ isD (bs p) from ⟨hpt, hd⟩), if_neg (by decide)]
        have he : lxe bs t p = spn bs 48 57 (t - p) p := by unfold lxe; rw [if_neg (by omega), if_neg hl, if_pos hd]
        obtain ⟨I', i1, i2, i3⟩ := l_84D (K := K) (d := d) (J := J) H ht hpt hd (t - p) p kf I2 (by omega) (by omega) (by omega) hM2 g22 g23 g25 he.symm (fun i a1 a2 => by omega)
        exact ⟨I', i1, FrM_t hf i2, i3⟩
      · rw [if_neg (show ¬ (p < t ∧ isD (bs p)) from fun q => hd q.2), if_pos (show it 0 = it 0 from rfl), g23]
        simp only [it_add, gV_e (yp46_1 H)]
        generalize hI3 : sm_up2 I2 (B + 46) 23 (it ((p : Int) + 1)) = I3
        have hf3 : FrM B I2 I3 := by rw [← hI3]; exact FrM_u (by omega)
        have k22 : I3 (B + 46) 22 = it p := by rw [← hI3, up2_r, up1_n (by omega)]; exact g22
        have k23 : I3 (B + 46) 23 = it ((p : Int) + 1) := by rw [← hI3, up2_r, up1_s]
        have k25 : I3 (B + 46) 25 = it (-1) := by rw [← hI3, up2_r, up1_n (by omega)]; exact g25
        have hM3 := MTp_f hf3 hM2
        have hO3 : StO K B w I3 := StO_c (fun a ha => ⟨hf3.1 a (by omega), rfl, rfl⟩) hO2
        obtain ⟨a, v, j1, j2, j3, j4, j5, j6⟩ := hO3.1 22 (by omega)
        rw [j1]
        simp only [kR]
        rw [k22, gA_e (yt48 H) (Or.inl rfl) (ix (by omega) (by omega) (by omega)), gC_e (isS_i (i := 22) (by omega) j1), it_n (by omega), (hM3.2 p hpt).2]
        obtain ⟨r, r1, r2, r3, r4⟩ := s_30 (K := K) (d := d + 1) (J := J) (x := bs p) (Or.inr rfl) hO3.2.2.2 j1 j4 j5 j6 hv
        rw [r1]
        simp only [cI_e, gO_e (yt46 H)]
        have hkd : kdo bs t p = if bs p ∈ sgs then bs p else 3 := by
          unfold kdo
          rw [if_neg (by omega), if_neg hl, if_neg hd]
        have hxe : lxe bs t p = p + 1 := by unfold lxe; rw [if_neg (by omega), if_neg hl, if_neg hd]
        have out : ∀ s : Int, 0 ≤ s → s ≤ 5 → SK bs p (kdo bs t p) s (-1) → ∃ I', f_84_256 K kf (d + 5) (B + 46) (B + 46) (it s) w I3 J = some (none, w, I', J) ∧ FrM B I I' ∧ MT B bs t p I' := by
          intro s s0 s5 hS
          unfold f_84_256
          simp only [gO_e (yt46 H), lt_p]
          refine ⟨_, rfl, FrM_t hf (FrM_t hf3 (FrM_u (by omega))), ?_, ?_, s, -1, ?_, ?_, by omega, by omega, s0, s5, hS⟩
          · rw [up2_r, up1_n (by omega)]; exact k22
          · rw [up2_r, up1_n (by omega), k23, hxe]; rfl
          · rw [up2_r, up1_s]
          · rw [up2_r, up1_n (by omega), k25]
        by_cases hr0 : 0 ≤ r
        · rw [if_neg (fun q => by have := (it_lt (by omega) (by omega) (by omega) (by omega)).mp q; omega)]
          have hm : bs p ∈ sgs := r4.mp hr0
          exact out 4 (by omega) (by omega) (Or.inr (Or.inr (Or.inr (Or.inr (Or.inr ⟨by rw [hkd, if_pos hm]; exact hm, rfl, by rw [hkd, if_pos hm]⟩)))))
        · rw [if_pos ((it_lt (by omega) (by omega) (by omega) (by omega)).mpr (by omega))]
          have hm : ¬ bs p ∈ sgs := fun q => hr0 (r4.mpr q)
          exact out 5 (by omega) (by omega) (Or.inr (Or.inr (Or.inr (Or.inr (Or.inl ⟨by rw [hkd, if_neg hm], rfl⟩)))))
theorem s_84 {e : Nat} (H : Lay B w) (ht : t ≤ 240) (he : e ≤ t) (hK : rKy K B w) (hM : MTp B bs t I) (hO : StO K B w I) (h23 : I (B + 46) 23 = it e) : ∃ I', Cl K (d + 6) 84 [.ref (B + 46)] w I J = some (none, w, I', J) ∧ FrM B I I' ∧ MT B bs t (wsk bs (t - e) e) I' := by
  have go : ∀ (m e kf : Nat) (I : aI), e + m = t → m + 250 < kf → MTp B bs t I → StO K B w I → I (B + 46) 23 = it e → ∃ I', f_84 K kf (d + 5) (B + 46) w I J = some (none, w, I', J) ∧ FrM B I I' ∧ MT B bs t (wsk bs m e) I' := by
    intro m
    induction m with
    | zero =>
      intro e kf I hm hkf hM hO h23
      obtain ⟨kf, rfl⟩ : ∃ k', kf = k' + 1 := ⟨kf - 1, by omega⟩
      rw [f_84]
      simp only [it_lit, lt_p, gO_e (yt46 H)]
      rw [h23, hM.1, if_pos ((it_le (by omega) (by omega) (by omega) (by omega)).mpr (by omega)), wsk]
      exact l_8452 H ht (by omega) (fun h => by omega) hK hM hO h23 kf (by omega)
    | succ m ih =>
      intro e kf I hm hkf hM hO h23
      obtain ⟨kf, rfl⟩ : ∃ k', kf = k' + 1 := ⟨kf - 1, by omega⟩
      rw [f_84]
      simp only [it_lit, lt_p, gO_e (yt46 H), gV_e (yp46_1 H)]
      rw [h23, hM.1, if_neg (fun q => by have := (it_le (by omega) (by omega) (by omega) (by omega)).mp q; omega), gA_e (yt48 H) (Or.inl rfl) (ix (by omega) (by omega) (by omega)), it_n (by omega), (hM.2 e (by omega)).2, wsk]
      have hv := (hM.2 e (by omega)).1
      have go39 : ∃ I', f_84_39 K kf (d + 5) (f_84 K kf (d + 5)) (B + 46) w I J = some (none, w, I', J) ∧ FrM B I I' ∧ MT B bs t (wsk bs m (e + 1)) I' := by
        unfold f_84_39
        simp only [it_lit, lt_p, gO_e (yt46 H)]
        rw [h23, it_add]
        have hf : FrM B I (sm_up2 I (B + 46) 23 (it ((e : Int) + 1))) := FrM_u (by omega)
        obtain ⟨I', g1, g2, g3⟩ := ih (e + 1) kf (sm_up2 I (B + 46) 23 (it ((e : Int) + 1))) (by omega) (by omega) (MTp_f hf hM) (StO_c (fun a ha => ⟨hf.1 a (by omega), rfl, rfl⟩) hO) (by rw [up2_r, up1_s]; rfl)
        exact ⟨I', g1, FrM_t hf g2, g3⟩
      by_cases h32 : bs e = 32
      · rw [if_pos (show isW (bs e) from Or.inl h32), if_pos (by rw [h32]; rfl)]
        exact go39
      · rw [if_neg (fun q => by have := (it_eq (by omega) (by omega) (by omega) (by omega)).mp q; omega), gA_e (yt48 H) (Or.inl rfl) (ix (by omega) (by omega) (by omega))]
        by_cases h10 : bs e = 10
        · rw [if_pos (show isW (bs e) from Or.inr h10), if_neg (fun q => q (by rw [h10]; rfl))]
          exact go39
        · rw [if_neg (show ¬ isW (bs e) from fun q => by unfold isW at q; omega), if_pos (fun q => by have := (it_eq (by omega) (by omega) (by omega) (by omega)).mp q; omega)]
          exact l_8452 H ht (by omega) (fun _ q => by unfold isW at q; omega) hK hM hO h23 kf (by omega)
  obtain ⟨I', g1, g2, g3⟩ := go (t - e) e (t - e + 251) I (by omega) (by omega) hM hO h23
  exact ⟨I', cl_84 (k := t - e + 251) g1, g2, g3⟩
end NXT

/-! all shapes of the reference -/
section SHA
variable {K : Nat → Value} {B d N F f p q l m m' m'' k : Nat} {w : aW} {I I' I'' : aI} {J : aJ} {mo : Int} {V V' V'' rc : Nat → Bool} {D D' D'' oc ar : Nat → Nat} {fa : Nat → Nat → Nat} {G : gG}
theorem m_60 (H : Lay B w) (hT : TF fa F G) (h0 : 0 < F) (F5 : F ≤ 5) (hN : G.1 ≤ 200) (hF : ∀ g, g < F → fa g 1 ≤ fa g 2 ∧ fa g 2 ≤ 6 ∧ fa g 3 ≤ 3 ∧ ∀ v, v < fa g 2 → fa g (4 + v) ≤ 3) (hr : fwd (hed F fa) G.2.1 G.2.2.1 G.1 rc) : ∀ (n kx m : Nat) (l1 : Int32) (V : Nat → Bool) (D : Nat → Nat) (I : aI), m + cu V G.1 ≤ n → n < kx → gMc B F fa G I → RV B F fa G rc V m D I →
    ∃ (V' : Nat → Bool) (D' : Nat → Nat) (I' : aI), f_118_60 K kx (d + 1) (B + 46) l1 w I J = some (none, w, I', J) ∧ FSh B I I' ∧ RV B F fa G rc V' 0 D' I' := by
  have fin : ∀ (kx : Nat) (l1 : Int32) (V : Nat → Bool) (D : Nat → Nat) (I : aI), RV B F fa G rc V 0 D I → f_118_60 K (kx + 1) (d + 1) (B + 46) l1 w I J = some (none, w, I, J) := fun kx l1 V D I h => by
    rw [f_118_60]
    simp only [it_lit, lt_p, gO_e (yt46 H)]
    rw [h.2.1.1, if_pos (by decide)]
  intro n
  induction n with
  | zero =>
    intro kx m l1 V D I hn hk hM hR
    obtain ⟨kx, rfl⟩ : ∃ k', kx = k' + 1 := ⟨kx - 1, by omega⟩
    have : m = 0 := by omega
    subst this
    exact ⟨V, D, I, fin _ _ _ _ _ hR, FSh_r, hR⟩
  | succ n ih =>
    intro kx m l1 V D I hn hk hM hR
    obtain ⟨kx, rfl⟩ : ∃ k', kx = k' + 1 := ⟨kx - 1, by omega⟩
    by_cases z : m = 0
    · subst z
      exact ⟨V, D, I, fin _ _ _ _ _ hR, FSh_r, hR⟩
    · obtain ⟨m, rfl⟩ : ∃ k', m = k' + 1 := ⟨m - 1, by omega⟩
      obtain ⟨l1', V', m', D', I', e1, e2, e3, e4⟩ := m_60s (K := K) (d := d) (J := J) (l1 := l1) (kx := kx) H hT h0 F5 hN hF hr hM hR
      obtain ⟨V2, D2, I2, r1, r2, r3⟩ := ih kx m' l1' V' D' I' (by omega) (by omega) (gMc_f e2 hM) e3
      exact ⟨V2, D2, I2, e1.trans r1, FSh_t e2 r2, r3⟩
theorem m_30 (H : Lay B w) (hT : TF fa F G) (h0 : 0 < F) (F5 : F ≤ 5) (hN : G.1 ≤ 200) (hr : fwd (hed F fa) G.2.1 G.2.2.1 G.1 rc) : ∀ (n g kx m : Nat) (V : Nat → Bool) (D : Nat → Nat) (I : aI), g + n = F → n < kx → gMc B F fa G I → SV B G.1 G.2.2.2 V I → DV B G.1 m D V I → (∀ v, V v = true → v < G.1 ∧ rc v = true) → (∀ g', g' < g → V (fa g' 0) = true) → (∀ v, V v = true → ∃ k, k < m ∧ D k = v) →
    ∃ (V' : Nat → Bool) (m' : Nat) (D' : Nat → Nat) (I' : aI), f_118_30 K kx (d + 1) (B + 46) (it g) w I J = f_118_60 K (kx - n - 1) (d + 1) (B + 46) (it F) w I' J ∧ FSh B I I' ∧ RV B F fa G rc V' m' D' I' := by
  have hL : ∀ p, p < G.1 → (G.2.2.2 p).length ≤ 60 := fun p hp => by
    obtain ⟨g, q1, q2, q3⟩ := TF_in hT h0 hp
    have := (TF_c hT q1).2.2.2.2.1 p q2 q3
    exact this.2.2.2.1
  intro n
  induction n with
  | zero =>
    intro g kx m V D I hg hk hM hS hD hV hH hC
    obtain ⟨kx, rfl⟩ : ∃ k', kx = k' + 1 := ⟨kx - 1, by omega⟩
    have : g = F := by omega
    subst this
    refine ⟨V, m, D, I, ?_, FSh_r, hS, hD, hV, hH, fun v hv => Or.inl (hC v hv)⟩
    rw [f_118_30]
    simp only [it_lit, lt_p, gO_e (yt46 H)]
    rw [hM.2.1, if_pos ((it_le (by omega) (by omega) (by omega) (by omega)).mpr (by omega))]
    rfl
  | succ n ih =>
    intro g kx m V D I hg hk hM hS hD hV hH hC
    obtain ⟨kx, rfl⟩ : ∃ k', kx = k' + 1 := ⟨kx - 1, by omega⟩
    have gF : g < F := by omega
    obtain ⟨c1, c2, c3, _⟩ := TF_c hT gF
    have hrg : rc (fa g 0) = true := (hr (fa g 0) (by omega)).mpr (Or.inl ⟨g, gF, rfl⟩)
    obtain ⟨V2, m2, D2, I2, r1, r2, r3⟩ := arr1 (K := K) (d := d) (J := J) (rc := rc) (p := fa g 0) (q := 0) (l := 0) (mo := -1) (I := I) H hN hL (by omega) hrg (by omega) (by omega) (by omega) (by omega) hV hS hD (Or.inl rfl) (by rw [c3]; exact ⟨rfl, fun k hk => by omega, fun y => by omega⟩)
    obtain ⟨V3, m3, D3, I3, s1, s2, s3⟩ := ih (g + 1) kx m2 V2 D2 I2 (by omega) (by omega) (gMc_f r2.1 hM) r2.2.1 r2.2.2.1 r2.2.2.2.2.2.2.2 (fun g' hg' => by
      by_cases e : g' = g
      · rw [e]; exact r3
      · exact r2.2.2.2.2.1 _ (hH g' (by omega))) (fun v hv => by
      rcases r2.2.2.2.2.2.2.1 v hv with z | z
      · exact r2.2.2.2.2.2.1 v (hC v z)
      · exact z)
    refine ⟨V3, m3, D3, I3, ?_, FSh_t r2.1 s2, s3⟩
    rw [show kx + 1 - (n + 1) - 1 = kx - n - 1 by omega, ← s1, f_118_30]
    have h65 : I (B + 58) (10 * g) = it (fa g 0) := (hM.2.2.2 g gF).1 0 (by omega)
    simp only [it_lit, it_neg, lt_p, gO_e (yt46 H), gV_e (yp46_18 H), it_mul, it_add]
    rw [hM.2.1, if_neg (fun q => by have := (it_le (by omega) (by omega) (by omega) (by omega)).mp q; omega), gA_e (yt58 H) (Or.inl rfl) (ix (by omega) (by omega) (by omega)), it_cl (by omega) (by omega), show (10 * (g : Int)).toNat = 10 * g by omega, h65]
    have r1' : Cl K (d + 1) 119 [.ref (B + 46), .int (it (fa g 0)), .int (it 0), .int (it 0), .int (it (-1))] w I J = some (none, w, I2, J) := r1
    rw [r1']
    simp only [cV_e]
    rw [show (g : Int) + 1 = ((g + 1 : Nat) : Int) by omega]
theorem m_2 (H : Lay B w) (hN : N ≤ 200) : ∀ (n i kx : Nat) (I : aI), i + n = N → n < kx → I (B + 46) 17 = it N → (∀ p, p < i → I (B + 62) p = it (-1)) →
    ∃ I', f_118_2 K kx (d + 1) (B + 46) (it i) w I J = f_118_30 K (kx - n - 1) (d + 1) (B + 46) (it 0) w I' J ∧ FSh B I I' ∧ (∀ p, p < N → I' (B + 62) p = it (-1)) ∧ I' (B + 46) 35 = it 0 := by
  intro n
  induction n with
  | zero =>
    intro i kx I hi hk h17 hS
    obtain ⟨kx, rfl⟩ : ∃ k', kx = k' + 1 := ⟨kx - 1, by omega⟩
    have : i = N := by omega
    subst this
    refine ⟨sm_up2 I (B + 46) 35 (it 0), ?_, ⟨fun b b1 _ _ _ => up2_n b1, fun k hk => by rw [up2_r, up1_n hk]⟩, fun p hp => by rw [up2_n (by omega)]; exact hS p hp, by rw [up2_r, up1_s]⟩
    rw [f_118_2]
    simp only [it_lit, lt_p, gO_e (yt46 H)]
    rw [h17, if_pos ((it_le (by omega) (by omega) (by omega) (by omega)).mpr (by omega))]
    rfl
  | succ n ih =>
    intro i kx I hi hk h17 hS
    obtain ⟨kx, rfl⟩ : ∃ k', kx = k' + 1 := ⟨kx - 1, by omega⟩
    obtain ⟨I', r1, r2, r3, r4⟩ := ih (i + 1) kx (sm_up2 I (B + 62) i (it (-1))) (by omega) (by omega) (by rw [up2_n (by omega)]; exact h17) (fun p hp => by
      rw [up2_r]
      by_cases e : p = i
      · rw [e, up1_s]
      · rw [up1_n e]; exact hS p (by omega))
    refine ⟨I', ?_, FSh_t ⟨fun b _ b2 _ _ => up2_n b2, fun k _ => by rw [up2_n (by omega)]⟩ r2, r3, r4⟩
    rw [show kx + 1 - (n + 1) - 1 = kx - n - 1 by omega, ← r1, f_118_2]
    simp only [it_lit, it_neg, lt_p, gO_e (yt46 H), gV_e (yp46_32 H), it_add]
    rw [h17, if_neg (fun q => by have := (it_le (by omega) (by omega) (by omega) (by omega)).mp q; omega), gA_e (yt62 H) (Or.inl rfl) (ix (by omega) (by omega) (by omega)), it_n (by omega), show (i : Int) + 1 = ((i + 1 : Nat) : Int) by omega]
theorem cu_0 : ∀ n, cu (fun _ => false) n = n := by
  intro n
  induction n with
  | zero => rfl
  | succ n ih => unfold cu; rw [ih, if_neg (by decide)]
/-- the shapes of all places -/
theorem s_118 (H : Lay B w) (hT : TF fa F G) (h0 : 0 < F) (F5 : F ≤ 5) (hN : G.1 ≤ 200) (hF : ∀ g, g < F → fa g 1 ≤ fa g 2 ∧ fa g 2 ≤ 6 ∧ fa g 3 ≤ 3 ∧ ∀ v, v < fa g 2 → fa g (4 + v) ≤ 3) (hr : fwd (hed F fa) G.2.1 G.2.2.1 G.1 rc) (hM : gMc B F fa G I) : ∃ I', Cl K (d + 2) 118 [.ref (B + 46)] w I J = some (none, w, I', J) ∧ FSh B I I' ∧ SV B G.1 G.2.2.2 rc I' := by
  obtain ⟨kk, hkk⟩ : ∃ kk : Nat, kk = 2000 := ⟨2000, rfl⟩
  obtain ⟨I1, a1, a2, a3, a4⟩ := m_2 (K := K) (d := d) (J := J) H hN G.1 0 kk I (by omega) (by omega) hM.1 (fun p hp => by omega)
  have hM1 := gMc_f a2 hM
  obtain ⟨V2, m2, D2, I2, b1, b2, b3⟩ := m_30 (K := K) (d := d) (J := J) (rc := rc) H hT h0 F5 hN hr F 0 (kk - G.1 - 1) 0 (fun _ => false) (fun _ => 0) I1 (by omega) (by omega) hM1 (fun p hp => ⟨fun _ => a3 p hp, fun z => by cases z⟩) ⟨a4, fun k hk => by omega, by rw [cu_0]; omega⟩ (fun v z => by cases z) (fun g hg => by omega) (fun v z => by cases z)
  have hcu := cu_b (V := V2) G.1
  have hm2 := b3.2.1.2.2
  obtain ⟨V3, D3, I3, c1, c2, c3⟩ := m_60 (K := K) (d := d) (J := J) (rc := rc) H hT h0 F5 hN hF hr (m2 + cu V2 G.1) (kk - G.1 - 1 - F - 1) m2 (it F) V2 D2 I2 (Nat.le_refl _) (by omega) (gMc_f b2 hM1) b3
  obtain ⟨e1, e2, e3, e4, e5⟩ := c3
  have eV : ∀ p, p < G.1 → rc p = V3 p := fun p hp => by
    cases h : V3 p with
    | true => exact (e3 p h).2
    | false =>
      cases h2 : rc p with
      | false => rfl
      | true =>
        have := fwd_vs hr e4 (fun q p' _ z1 z2 => by
          rcases e5 q z1 with ⟨k, k1, _⟩ | y
          · omega
          · exact y p' z2) p hp h2
        rw [h] at this
        cases this
  refine ⟨I3, cl_118 (k := kk) ?_, FSh_t a2 (FSh_t b2 c2), fun p hp => by rw [eV p hp]; exact e1 p hp⟩
  unfold f_118
  have a1' : f_118_2 K kk (d + 1) (B + 46) (it 0) w I J = _ := a1
  have b1' : f_118_30 K (kk - G.1 - 1) (d + 1) (B + 46) (it 0) w I1 J = _ := b1
  simp only [it_lit]
  rw [a1', b1']
  exact c1
end SHA

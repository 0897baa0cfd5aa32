/-! the reference's list of places that are due -/
section DUE
variable {K : Nat → Value} {B d N F f p q l m m' m'' k : Nat} {w : aW} {I I' I'' : aI} {J : aJ} {mo : Int} {V V' V'' rc : Nat → Bool} {D D' D'' oc ar : Nat → Nat} {fa : Nat → Nat → Nat} {G : gG}
/-- the code in the reference's cells -/
def gMc (B F : Nat) (fa : Nat → Nat → Nat) (G : gG) (I : aI) : Prop := I (B + 46) 17 = it G.1 ∧ I (B + 46) 16 = it F ∧ (∀ p, p < G.1 → I (B + 59) p = it (G.2.1 p) ∧ I (B + 60) p = it (G.2.2.1 p)) ∧ ∀ f, f < F → (∀ k, k < 4 → I (B + 58) (10 * f + k) = it (fa f k)) ∧ ∀ v, v < fa f 2 → I (B + 58) (10 * f + 4 + v) = it (fa f (4 + v))
theorem gMc_f (h : FSh B I I') (g : gMc B F fa G I) : gMc B F fa G I' := by
  unfold gMc
  rw [h.2 17 (by omega), h.2 16 (by omega), h.1 (B + 59) (by omega) (by omega) (by omega) (by omega), h.1 (B + 60) (by omega) (by omega) (by omega) (by omega), h.1 (B + 58) (by omega) (by omega) (by omega) (by omega)]
  exact g
theorem tk_c {o a : Nat} (H : Lay B w) (F5 : F ≤ 5) (hM : gMc B F fa G I) (ho : o ≤ 27) (h4 : o = 4 → a < F) : Cl K (d + 1) 120 [.ref (B + 46), .int (it o), .int (it a)] w I J = some (some (.int (it (tkN fa o a))), w, I, J) := by
  unfold tkN
  by_cases z : o = 4
  · subst z
    have := h4 rfl
    rw [if_pos rfl, ← (hM.2.2.2 a this).1 1 (by omega)]
    exact s_120c H (by omega)
  · rw [if_neg z]
    exact s_120 ho z
theorem pt_c {o a : Nat} (H : Lay B w) (F5 : F ≤ 5) (hM : gMc B F fa G I) (ho : o ≤ 27) (hf : f < F) (h6 : fa f 2 ≤ 6) (h3 : o = 3 → a < fa f 2) (h4 : o = 4 → a < F) : Cl K (d + 1) 122 [.ref (B + 46), .int (it o), .int (it a), .int (it f)] w I J = some (some (.int (it (ptN fa f o a))), w, I, J) := by
  unfold ptN
  by_cases z3 : o = 3
  · subst z3
    have := h3 rfl
    rw [if_pos rfl, ← (hM.2.2.2 f hf).2 a this]
    exact s_122v H (by omega) (by omega)
  · rw [if_neg z3]
    by_cases z : o = 4
    · subst z
      have := h4 rfl
      rw [if_pos rfl, ← (hM.2.2.2 a this).1 3 (by omega)]
      exact s_122c H (by omega)
    · rw [if_neg z]
      by_cases z7 : o = 27
      · subst z7
        rw [if_pos rfl]
        exact s_122t
      · rw [if_neg z7]
        exact s_122 (by omega) z3 z
/-- more is reached, and due -/
def Dus (B : Nat) (G : gG) (rc V : Nat → Bool) (m : Nat) (D : Nat → Nat) (I : aI) (V' : Nat → Bool) (m' : Nat) (D' : Nat → Nat) (I' : aI) : Prop := FSh B I I' ∧ SV B G.1 G.2.2.2 V' I' ∧ DV B G.1 m' D' V' I' ∧ m' + cu V' G.1 = m + cu V G.1 ∧ (∀ v, V v = true → V' v = true) ∧ (∀ v, (∃ k, k < m ∧ D k = v) → ∃ k, k < m' ∧ D' k = v) ∧ (∀ v, V' v = true → V v = true ∨ ∃ k, k < m' ∧ D' k = v) ∧ ∀ v, V' v = true → v < G.1 ∧ rc v = true
theorem Dus_t (h1 : Dus B G rc V m D I V' m' D' I') (h2 : Dus B G rc V' m' D' I' V'' m'' D'' I'') : Dus B G rc V m D I V'' m'' D'' I'' := by
  obtain ⟨a1, a2, a3, a4, a5, a6, a7, a8⟩ := h1
  obtain ⟨b1, b2, b3, b4, b5, b6, b7, b8⟩ := h2
  refine ⟨FSh_t a1 b1, b2, b3, b4.trans a4, fun v z => b5 v (a5 v z), fun v z => b6 v (a6 v z), fun v z => ?_, b8⟩
  rcases b7 v z with y | y
  · rcases a7 v y with x | x
    · exact Or.inl x
    · exact Or.inr (b6 v x)
  · exact Or.inr y
theorem arr1 (H : Lay B w) (hN : G.1 ≤ 200) (hL : ∀ p, p < G.1 → (G.2.2.2 p).length ≤ 60) (hp : p < G.1) (hr : rc p = true) (hq : q < 200) (hl : l ≤ 63) (m1 : -1 ≤ mo) (m2 : mo ≤ 100000) (hV : ∀ v, V v = true → v < G.1 ∧ rc v = true) (hS : SV B G.1 G.2.2.2 V I) (hD : DV B G.1 m D V I) (hqv : l = 0 ∨ V q = true) (hsh : (G.2.2.2 p).length = (if mo < 0 then l else l + 1) ∧ (∀ k, k < l → I (B + 63) (64 * q + k) = it ((G.2.2.2 p).reverse.getD k 0)) ∧ (¬ mo < 0 → mo = ((G.2.2.2 p).reverse.getD l 0 : Nat))) :
    ∃ (V' : Nat → Bool) (m' : Nat) (D' : Nat → Nat) (I' : aI), Cl K (d + 1) 119 [.ref (B + 46), .int (it p), .int (it q), .int (it l), .int (it mo)] w I J = some (none, w, I', J) ∧ Dus B G rc V m D I V' m' D' I' ∧ V' p = true := by
  obtain ⟨I', m', D', e1, e2, e3, e4, e5, e6, e7⟩ := s_119 (K := K) (d := d) (J := J) (mo := mo) H hN hp hq hl m1 m2 hL hS hD hqv (fun _ => hsh)
  refine ⟨sm_up1 V p true, m', D', I', e1, ⟨e2, e3, e4, e5, fun v z => ?_, e6, e7, fun v z => ?_⟩, up1_s _ _ _⟩
  · by_cases e : v = p
    · rw [e, up1_s]
    · rw [up1_n e]; exact z
  · by_cases e : v = p
    · rw [e]; exact ⟨hp, hr⟩
    · rw [up1_n e] at z; exact hV v z
theorem gEf_j {o a : Nat} {s s' : List Nat} (h : gEf fa f o a s s') (hj : isJ o) : s' = [] ∧ s.length = tkN fa o a := by
  unfold gEf at h
  rcases h with ⟨h0, h⟩ | ⟨h0, _, h⟩ | ⟨h0, h⟩ | ⟨h0, h1, h⟩ | ⟨h0, h1, r, h2, h⟩ | ⟨r, h⟩ | ⟨h0, _, h1, h⟩ | ⟨h0, h1, h⟩ | ⟨h0, h1, h⟩ | ⟨h0, h1, h⟩ | ⟨h0, h1, h⟩ | ⟨h0, ⟨_, _, h1⟩, h⟩ | ⟨h0, h1, h2, h⟩
  · rcases hj with z | z <;> omega
  · rcases hj with z | z <;> omega
  · rcases hj with z | z <;> omega
  · rcases hj with z | z <;> omega
  · rcases hj with z | z <;> omega
  · exfalso
    rcases h with ⟨h0, _⟩ | ⟨h0, _⟩ | ⟨h0, _⟩ | ⟨h0, _⟩ | ⟨h0, _⟩ | ⟨h0, _⟩ | ⟨h0, _⟩ | ⟨h0, _⟩ | ⟨h0, _⟩ | ⟨h0, _⟩ | ⟨h0, _⟩ | ⟨h0, h1, _⟩ <;> (rcases hj with z | z <;> omega)
  · rcases hj with z | z <;> omega
  · rcases hj with z | z <;> omega
  · subst h0; rw [h, h1]; exact ⟨rfl, rfl⟩
  · subst h0; rw [h, h1]; exact ⟨rfl, rfl⟩
  · rcases hj with z | z <;> omega
  · rcases hj with z | z <;> omega
  · rcases hj with z | z <;> omega
/-- all that is reached, but what is due, goes on -/
def RV (B F : Nat) (fa : Nat → Nat → Nat) (G : gG) (rc V : Nat → Bool) (m : Nat) (D : Nat → Nat) (I : aI) : Prop := SV B G.1 G.2.2.2 V I ∧ DV B G.1 m D V I ∧ (∀ v, V v = true → v < G.1 ∧ rc v = true) ∧ (∀ g, g < F → V (fa g 0) = true) ∧ ∀ v, V v = true → (∃ k, k < m ∧ D k = v) ∨ ∀ p, edg G.2.1 G.2.2.1 v p → V p = true
theorem m_153 {x5 : Int32} {r : Nat → Int32 → aW → aI → aJ → Option aR} {o a : Nat} (H : Lay B w) (hN : G.1 ≤ 200) (hL : ∀ p, p < G.1 → (G.2.2.2 p).length ≤ 60) (ho : o ≤ 27) (hq : q < 200) (hV : ∀ v, V v = true → v < G.1 ∧ rc v = true) (hS : SV B G.1 G.2.2.2 V I) (hD : DV B G.1 m D V I) (hj : isJ o → l = 0 ∧ a < G.1 ∧ rc a = true ∧ G.2.2.2 a = []) :
    ∃ (V' : Nat → Bool) (m' : Nat) (D' : Nat → Nat) (I' : aI), f_118_153 K k (d + 1) r (B + 46) (it q) (it o) (it a) (it l) x5 w I J = r (B + 46) (it q) w I' J ∧ Dus B G rc V m D I V' m' D' I' ∧ (isJ o → V' a = true) := by
  unfold f_118_153
  simp only [it_lit]
  by_cases z : isJ o
  · obtain ⟨j1, j2, j3, j4⟩ := hj z
    obtain ⟨V', m', D', I', e1, e2, e3⟩ := arr1 (K := K) (d := d) (J := J) (mo := -1) (q := q) (l := 0) (I := I) H hN hL j2 j3 hq (by omega) (by omega) (by omega) hV hS hD (Or.inl rfl) (by rw [j4]; exact ⟨rfl, fun k hk => by omega, fun y => by omega⟩)
    refine ⟨V', m', D', I', ?_, e2, fun _ => e3⟩
    have e : f_118_165 K k (d + 1) r (B + 46) (it q) (it o) (it a) (it l) x5 w I J = r (B + 46) (it q) w I' J := by
      unfold f_118_165
      simp only [it_lit, it_neg, gO_e (yt46 H)]
      rw [j1]
      have e1' : Cl K (d + 1) 119 [.ref (B + 46), .int (it a), .int (it q), .int (it ((0 : Nat) : Int)), .int (it (-1))] w I J = some (none, w, I', J) := e1
      rw [e1']
      simp only [cV_e]
      rfl
    rcases z with z | z
    · rw [if_pos (by rw [z]; rfl)]; exact e
    · rw [if_neg (fun q => by have := (it_eq (by omega) (by omega) (by omega) (by omega)).mp q; omega), if_neg (fun y => y (by rw [z]; rfl))]; exact e
  · have z1 : ¬ o = 23 := fun y => z (Or.inl y)
    have z2 : ¬ o = 24 := fun y => z (Or.inr y)
    rw [if_neg (fun q => by have := (it_eq (by omega) (by omega) (by omega) (by omega)).mp q; omega), if_pos (fun q => by have := (it_eq (by omega) (by omega) (by omega) (by omega)).mp q; omega)]
    exact ⟨V, m, D, I, rfl, ⟨FSh_r, hS, hD, rfl, fun _ y => y, fun _ y => y, fun _ y => Or.inl y, hV⟩, fun y => absurd y z⟩
theorem m_60s {l1 : Int32} {kx : Nat} (H : Lay B w) (hT : TF fa F G) (h0 : 0 < F) (F5 : F ≤ 5) (hN : G.1 ≤ 200) (hF : ∀ g, g < F → fa g 1 ≤ fa g 2 ∧ fa g 2 ≤ 6 ∧ fa g 3 ≤ 3 ∧ ∀ v, v < fa g 2 → fa g (4 + v) ≤ 3) (hr : fwd (hed F fa) G.2.1 G.2.2.1 G.1 rc) (hM : gMc B F fa G I) (hR : RV B F fa G rc V (m + 1) D I) :
    ∃ (l1' : Int32) (V' : Nat → Bool) (m' : Nat) (D' : Nat → Nat) (I' : aI), f_118_60 K (kx + 1) (d + 1) (B + 46) l1 w I J = f_118_60 K kx (d + 1) (B + 46) l1' w I' J ∧ FSh B I I' ∧ RV B F fa G rc V' m' D' I' ∧ m' + cu V' G.1 + 1 = m + 1 + cu V G.1 := by
  obtain ⟨hS, ⟨d1, d2, d3⟩, hV, hH, hC⟩ := hR
  have hL : ∀ p, p < G.1 → (G.2.2.2 p).length ≤ 60 ∧ G.2.1 p ≤ 27 ∧ G.2.2.1 p ≤ 99999 := fun p hp => by
    obtain ⟨g, q1, q2, q3⟩ := TF_in hT h0 hp
    have := (TF_c hT q1).2.2.2.2.1 p q2 q3
    exact ⟨this.2.2.2.1, this.2.1, this.2.2.1⟩
  obtain ⟨y1, y2, y3⟩ := d2 m (by omega)
  obtain ⟨q, hq⟩ : ∃ q, q = D m := ⟨_, rfl⟩
  rw [← hq] at y1 y2 y3
  obtain ⟨f, f1, f2, f3⟩ := TF_in hT h0 y2
  obtain ⟨c1, c2, c3, c4, c5, c6⟩ := TF_c hT f1
  obtain ⟨g1, g2, g3, g4, g5⟩ := c5 q f2 f3
  obtain ⟨t1, t2, t3, t4, t5⟩ := gEf_t g1
  obtain ⟨n1, n2, n3⟩ := shp_n g1
  obtain ⟨s1, s2⟩ := (hS q y2).2 y3
  obtain ⟨I1, hI1⟩ : ∃ x, x = sm_up2 I (B + 46) 35 (it m) := ⟨_, rfl⟩
  have o1 : ∀ b, ¬ b = B + 46 → I1 b = I b := fun b hb => by rw [hI1, up2_n hb]
  have o35 : I1 (B + 46) 35 = it m := by rw [hI1, up2_r, up1_s]
  have fr1 : FSh B I I1 := ⟨fun b hb _ _ _ => o1 b hb, fun k hk => by rw [hI1, up2_r, up1_n hk]⟩
  have hM1 := gMc_f fr1 hM
  have hS1 : SV B G.1 G.2.2.2 V I1 := fun v hv => by rw [o1 (B + 62) (by omega), o1 (B + 63) (by omega)]; exact hS v hv
  have hD1 : DV B G.1 m D V I1 := ⟨o35, fun k hk => by rw [o1 (B + 64) (by omega)]; exact d2 k (by omega), by omega⟩
  have hrc := (hV q y3).2
  have hpt : ptN fa f (G.2.1 q) (G.2.2.1 q) ≤ 100000 := by
    unfold ptN
    split
    · next z => have := (hF f f1).2.2.2 _ (t4 z); omega
    · split
      · next z => have := (hF _ (show G.2.2.1 q < F by have := t5 z; omega)).2.2.1; omega
      · split
        · omega
        · unfold pT; repeat' split
          all_goals omega
  have a4 : G.2.1 q = 4 → G.2.2.1 q < F := fun z => by have := t5 z; omega
  -- the first arrival
  have step1 : ∃ (V2 : Nat → Bool) (m2 : Nat) (D2 : Nat → Nat) (I2 : aI), (if it (G.2.1 q) = it 24 then f_118_153 K kx (d + 1) (f_118_60 K kx (d + 1)) (B + 46) (it q) (it (G.2.1 q)) (it (G.2.2.1 q)) (it (((G.2.2.2 q).length - tkN fa (G.2.1 q) (G.2.2.1 q) : Nat) : Int)) (it (ptN fa f (G.2.1 q) (G.2.2.1 q))) w I1 J else if it (G.2.1 q) = it 25 then f_118_153 K kx (d + 1) (f_118_60 K kx (d + 1)) (B + 46) (it q) (it (G.2.1 q)) (it (G.2.2.1 q)) (it (((G.2.2.2 q).length - tkN fa (G.2.1 q) (G.2.2.1 q) : Nat) : Int)) (it (ptN fa f (G.2.1 q) (G.2.2.1 q))) w I1 J else cV (Cl K (d + 1) 119 [.ref (B + 46), .int (it ((q + 1 : Nat) : Int)), .int (it q), .int (it (((G.2.2.2 q).length - tkN fa (G.2.1 q) (G.2.2.1 q) : Nat) : Int)), .int (it (ptN fa f (G.2.1 q) (G.2.2.1 q)))] w I1 J) fun w_22 I_23 J_24 => f_118_153 K kx (d + 1) (f_118_60 K kx (d + 1)) (B + 46) (it q) (it (G.2.1 q)) (it (G.2.2.1 q)) (it (((G.2.2.2 q).length - tkN fa (G.2.1 q) (G.2.2.1 q) : Nat) : Int)) (it (ptN fa f (G.2.1 q) (G.2.2.1 q))) w_22 I_23 J_24) = f_118_153 K kx (d + 1) (f_118_60 K kx (d + 1)) (B + 46) (it q) (it (G.2.1 q)) (it (G.2.2.1 q)) (it (((G.2.2.2 q).length - tkN fa (G.2.1 q) (G.2.2.1 q) : Nat) : Int)) (it (ptN fa f (G.2.1 q) (G.2.2.1 q))) w I2 J ∧ Dus B G rc V m D I1 V2 m2 D2 I2 ∧ (¬ G.2.1 q = 24 → ¬ G.2.1 q = 25 → V2 (q + 1) = true) := by
    have same : Dus B G rc V m D I1 V m D I1 := ⟨FSh_r, hS1, hD1, rfl, fun _ y => y, fun _ y => y, fun _ y => Or.inl y, hV⟩
    by_cases z1 : G.2.1 q = 24
    · rw [if_pos (by rw [z1]; rfl)]
      exact ⟨V, m, D, I1, rfl, same, fun y => absurd z1 y⟩
    · rw [if_neg (fun q => by have := (it_eq (by omega) (by omega) (by omega) (by omega)).mp q; omega)]
      by_cases z2 : G.2.1 q = 25
      · rw [if_pos (by rw [z2]; rfl)]
        exact ⟨V, m, D, I1, rfl, same, fun _ y => absurd z2 y⟩
      · rw [if_neg (fun q => by have := (it_eq (by omega) (by omega) (by omega) (by omega)).mp q; omega)]
        obtain ⟨e1, e2⟩ := fwd_cl hT h0 hr y2 hrc (Or.inr ⟨z1, z2, rfl⟩ : edg G.2.1 G.2.2.1 q (q + 1))
        obtain ⟨V2, m2, D2, I2, r1, r2, r3⟩ := arr1 (K := K) (d := d) (J := J) (rc := rc) (p := q + 1) (q := q) (l := (G.2.2.2 q).length - tkN fa (G.2.1 q) (G.2.2.1 q)) (mo := ptN fa f (G.2.1 q) (G.2.2.1 q)) (I := I1) H hN (fun p hp => (hL p hp).1) e1 e2 (by omega) (by have := (hL q y2).1; omega) t2 hpt hV hS1 hD1 (Or.inr y3) ⟨n1, fun k hk => by rw [o1 (B + 63) (by omega), s2 k (by omega), n2 k hk], n3⟩
        rw [r1]
        exact ⟨V2, m2, D2, I2, rfl, r2, fun _ _ => r3⟩
  obtain ⟨V2, m2, D2, I2, e1, e2, e3⟩ := step1
  obtain ⟨V3, m3, D3, I3, r1, r2, r3⟩ := m_153 (K := K) (d := d) (k := kx) (J := J) (rc := rc) (q := q) (l := (G.2.2.2 q).length - tkN fa (G.2.1 q) (G.2.2.1 q)) (o := G.2.1 q) (a := G.2.2.1 q) (x5 := it (ptN fa f (G.2.1 q) (G.2.2.1 q))) (r := f_118_60 K kx (d + 1)) (I := I2) H hN (fun p hp => (hL p hp).1) g2 (by omega) e2.2.2.2.2.2.2.2 e2.2.1 e2.2.2.1 (fun z => by
    obtain ⟨j1, j2⟩ := gEf_j g1 z
    obtain ⟨j3, j4⟩ := fwd_cl hT h0 hr y2 hrc (Or.inl ⟨z, rfl⟩ : edg G.2.1 G.2.2.1 q (G.2.2.1 q))
    exact ⟨by omega, j3, j4, (g5 z).2.2.1⟩)
  have ee := Dus_t e2 r2
  refine ⟨it q, V3, m3, D3, I3, ?_, FSh_t fr1 ee.1, ⟨ee.2.1, ee.2.2.1, ee.2.2.2.2.2.2.2, fun g hg => ee.2.2.2.2.1 _ (hH g hg), fun v hv => ?_⟩, by have := ee.2.2.2.1; omega⟩
  · rw [f_118_60]
    simp only [it_lit, it_neg, lt_p, gO_e (yt46 H), gV_e (yp46_34 H), gV_e (yp46_19 H), gV_e (yp46_20 H), gV_e (yp46_32 H)]
    rw [d1, if_neg (fun q => by have := (it_le (by omega) (by omega) (by omega) (by omega)).mp q; omega)]
    simp only [it_sub]
    rw [show ((m + 1 : Nat) : Int) - 1 = m by omega, ← hI1, o35, gA_e (yt64 H) (Or.inl rfl) (ix (by omega) (by omega) (by omega)), it_n (show m < 1000000 by omega), o1 (B + 64) (by omega), y1, gA_e (yt59 H) (Or.inl rfl) (ix (by omega) (by omega) (by omega)), it_n (show q < 1000000 by omega), o1 (B + 59) (by omega), (hM.2.2.1 q y2).1, gA_e (yt60 H) (Or.inl rfl) (ix (by omega) (by omega) (by omega)), o1 (B + 60) (by omega), (hM.2.2.1 q y2).2, gA_e (yt62 H) (Or.inl rfl) (ix (by omega) (by omega) (by omega)), o1 (B + 62) (by omega), s1, tk_c H F5 hM1 g2 a4]
    simp only [cI_e, gO_e (yt46 H)]
    rw [s_121 (fa := fa) (f := f) H F5 hM1.2.1 (fun g hg => (hM1.2.2.2 g hg).1 0 (by omega)) (fun g hg => by have h1 := (TF_c hT hg).1; have h2 := (TF_c hT hg).2.1; omega) (by omega) f1 f2 (fun g hg1 hg2 => by have := TF_mo hT hg1 hg2; omega)]
    simp only [cI_e, gO_e (yt46 H)]
    rw [pt_c H F5 hM1 g2 f1 (hF f f1).2.1 t4 a4]
    simp only [cI_e, gO_e (yt46 H), it_sub, it_add]
    rw [show ((G.2.2.2 q).length : Int) - (tkN fa (G.2.1 q) (G.2.2.1 q) : Nat) = (((G.2.2.2 q).length - tkN fa (G.2.1 q) (G.2.2.1 q) : Nat) : Int) by omega, show (q : Int) + 1 = ((q + 1 : Nat) : Int) by omega]
    exact e1.trans r1
  · rcases ee.2.2.2.2.2.2.1 v hv with z | z
    · rcases hC v z with ⟨k, k1, k2⟩ | y
      · by_cases e : k = m
        · rw [e, ← hq] at k2
          subst k2
          refine Or.inr (fun p hp => ?_)
          rcases hp with ⟨j1, j2⟩ | ⟨j1, j2, j3⟩
          · rw [← j2]; exact r3 j1
          · rw [j3]; exact r2.2.2.2.2.1 _ (e3 j1 j2)
        · exact Or.inl (ee.2.2.2.2.2.1 v ⟨k, by omega, k2⟩)
      · exact Or.inr (fun p hp => ee.2.2.2.2.1 p (y p hp))
    · exact Or.inl z
end DUE

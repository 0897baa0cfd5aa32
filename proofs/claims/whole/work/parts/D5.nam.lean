/-! the tables of names -/
section NAM
variable {K : Nat → Value} {B d a : Nat} {w : aW} {I : aI} {J : aJ} {bs : Nat → Nat} {t n c r h N : Nat} {nf tf : Int}
/-- the first of k names that is l -/
def vix (vn : Nat → Nat) (l : Nat) : Nat → Int
  | 0 => -1
  | k + 1 => if vix vn l k < 0 then (if vn k = l then (k : Int) else -1) else vix vn l k
theorem vix_b (vn : Nat → Nat) (l : Nat) : ∀ k, -1 ≤ vix vn l k ∧ vix vn l k < k := by
  intro k
  induction k with
  | zero => rw [vix]; omega
  | succ k ih => rw [vix]; split <;> (try split) <;> omega
theorem vix_s (vn : Nat → Nat) (l : Nat) : ∀ k, 0 ≤ vix vn l k → vn (vix vn l k).toNat = l := by
  intro k
  induction k with
  | zero => rw [vix]; omega
  | succ k ih =>
    rw [vix]
    split
    · split
      · intro _; assumption
      · omega
    · exact ih
theorem vix_n (vn : Nat → Nat) (l : Nat) : ∀ k, vix vn l k < 0 → ∀ j, j < k → ¬ vn j = l := by
  intro k
  induction k with
  | zero => intro _ j hj; omega
  | succ k ih =>
    rw [vix]
    intro h j hj
    split at h
    · split at h
      · omega
      · by_cases e : j = k
        · subst e; assumption
        · exact ih (by assumption) j (by omega)
    · omega
/-- where the first is found, if none is ahead -/
theorem vix_f (vn : Nat → Nat) (l : Nat) : ∀ k j, j < k → vn j = l → (∀ i, i < j → ¬ vn i = l) → vix vn l k = (j : Int) := by
  intro k
  induction k with
  | zero => intro j h; omega
  | succ k ih =>
    intro j h e1 e2
    rw [vix]
    by_cases e : j = k
    · subst e
      have : vix vn l j < 0 := by
        by_cases q : vix vn l j < 0
        · exact q
        · exact absurd (vix_s vn l j (by omega)) (e2 _ (by have := vix_b vn l j; omega))
      rw [if_pos this, if_pos e1]
    · rw [ih j (by omega) e1 e2, if_neg (by omega)]
theorem vix_0 (vn : Nat → Nat) (l : Nat) : ∀ k, (∀ i, i < k → ¬ vn i = l) → vix vn l k = -1 := by
  intro k
  induction k with
  | zero => intro _; rfl
  | succ k ih =>
    intro h
    rw [vix, ih (fun i hi => h i (by omega)), if_pos (by omega), if_neg (h k (by omega))]
theorem s_53 {l : Nat} (H : Lay B w) (hl : l < 26) : Cl K (d + 1) 53 [.ref (B + 2), .int (it l)] w I J = some (some (.int (I (B + 16) l)), w, I, J) := by
  apply cl_53 (k := 0)
  unfold f_53
  simp only [it_lit, gO_e (yt2 H), gV_e (yp2_5 H)]
  rw [if_neg (fun q => by have := (it_lt (by omega) (by omega) (by omega) (by omega)).mp q; omega), if_neg (fun q => by have := (it_le (by omega) (by omega) (by omega) (by omega)).mp q; omega), gA_e (yt16 H) (Or.inl rfl) (ix (by omega) (by omega) (by omega)), it_n (by omega)]
theorem s_47 {l : Nat} (H : Lay B w) (hl : l < 26) : Cl K (d + 1) 47 [.ref (B + 2), .int (it l)] w I J = some (some (.int (I (B + 15) l)), w, I, J) := by
  apply cl_47 (k := 0)
  unfold f_47
  simp only [it_lit, gO_e (yt2 H), gV_e (yp2_4 H)]
  rw [if_neg (fun q => by have := (it_lt (by omega) (by omega) (by omega) (by omega)).mp q; omega), if_neg (fun q => by have := (it_le (by omega) (by omega) (by omega) (by omega)).mp q; omega), gA_e (yt15 H) (Or.inl rfl) (ix (by omega) (by omega) (by omega)), it_n (by omega)]
theorem s_52g {x : Int32} {k : Nat} (hP : PL w a) : ∃ v, Cl K (d + 1) 52 [.ref a, .int x, .int (it k)] w I J = some (some (.int v), w, I, J) ∧ ∀ g : Nat, g < 5 → k < 4 → x = it g → v = I (a + 5) (4 * g + k) := by
  obtain ⟨p0, p1, p2, p3, p4, p5, p6, q0, q1, q2, q3, q4, q5⟩ := hP
  obtain ⟨z, z1, z2, hz⟩ := it_ex (x * it 4 + it k)
  refine ⟨if 0 ≤ z ∧ z < 20 then I (a + 5) z.toNat else it 0, ?_, fun g g5 k4 e => ?_⟩
  · apply cl_52 (k := 0)
    unfold f_52
    simp only [it_lit, gO_e p0, gV_e q4, lt_p]
    rw [hz]
    by_cases e : z < 0
    · rw [if_pos ((it_lt (by omega) (by omega) (by omega) (by omega)).mpr (by omega)), if_neg (by omega)]
    · rw [if_neg (fun q => by have := (it_lt (by omega) (by omega) (by omega) (by omega)).mp q; omega), gL_e p5 (by omega), it_nat]
      by_cases e2 : z < 20
      · rw [if_neg (fun q => by have := (it_le (by omega) (by omega) (by omega) (by omega)).mp q; omega), gA_e p5 (Or.inl rfl) (ix (by omega) (by omega) (by omega)), it_cl (by omega) (by omega), if_pos (by omega)]
      · rw [if_pos ((it_le (by omega) (by omega) (by omega) (by omega)).mpr (by omega)), if_neg (by omega)]
  · rw [e, it_mul, it_add] at hz
    have := (it_eq (by omega) (by omega) (by omega) (by omega)).mp hz
    rw [if_pos (by omega)]
    congr 1
    omega
theorem s_70g {x y : Int32} (hP : PL w a) : ∃ v, Cl K (d + 1) 70 [.ref a, .int x, .int y] w I J = some (some (.int v), w, I, J) ∧ ∀ g u : Nat, g < 5 → u < 6 → x = it g → y = it u → v = I (a + 6) (6 * g + u) := by
  obtain ⟨p0, p1, p2, p3, p4, p5, p6, q0, q1, q2, q3, q4, q5⟩ := hP
  obtain ⟨z, z1, z2, hz⟩ := it_ex (x * it 6 + y)
  refine ⟨if 0 ≤ z ∧ z < 30 then I (a + 6) z.toNat else it 0, ?_, fun g u g5 u6 e1 e2 => ?_⟩
  · apply cl_70 (k := 0)
    unfold f_70
    simp only [it_lit, gO_e p0, gV_e q5, lt_p]
    rw [hz]
    by_cases e : z < 0
    · rw [if_pos ((it_lt (by omega) (by omega) (by omega) (by omega)).mpr (by omega)), if_neg (by omega)]
    · rw [if_neg (fun q => by have := (it_lt (by omega) (by omega) (by omega) (by omega)).mp q; omega), gL_e p6 (by omega), it_nat]
      by_cases e2 : z < 30
      · rw [if_neg (fun q => by have := (it_le (by omega) (by omega) (by omega) (by omega)).mp q; omega), gA_e p6 (Or.inl rfl) (ix (by omega) (by omega) (by omega)), it_cl (by omega) (by omega), if_pos (by omega)]
      · rw [if_pos ((it_le (by omega) (by omega) (by omega) (by omega)).mpr (by omega)), if_neg (by omega)]
  · rw [e1, e2, it_mul, it_add] at hz
    have := (it_eq (by omega) (by omega) (by omega) (by omega)).mp hz
    rw [if_pos (by omega)]
    congr 1
    omega
/-- do the values fit the params of x -/
theorem s_71 {x : Int32} {m : Nat} (hP : PL w a) (H : Lay B w) (hp : w.2.1 (B + 2) 1 = some a) (hE : XE B a bs t n c r h N nf tf I) (hm : m ≤ 240) : ∃ b : Bool, Cl K (d + 2) 71 [.ref (B + 2), .int x, .int (it m)] w I J = some (some (.int (it (if b = true then 1 else 0))), w, I, J) ∧ ∀ g : Nat, g < 5 → m ≤ 6 → x = it g → (b = true ↔ ∀ i, i < m → (if m - i ≤ h then I (B + 17) (h - (m - i)) else it (-1)) = I (a + 6) (6 * g + i)) := by
  have go : ∀ (q i kf : Nat), i + q = m → q < kf → ∃ b : Bool, f_71_2 K kf (d + 1) (B + 2) x (it m) (it i) w I J = some (some (.int (it (if b = true then 1 else 0))), w, I, J) ∧ ∀ g : Nat, g < 5 → m ≤ 6 → x = it g → (b = true ↔ ∀ j, i ≤ j → j < m → (if m - j ≤ h then I (B + 17) (h - (m - j)) else it (-1)) = I (a + 6) (6 * g + j)) := by
    intro q
    induction q with
    | zero =>
      intro i kf hi hkf
      obtain ⟨kf, rfl⟩ : ∃ k', kf = k' + 1 := ⟨kf - 1, by omega⟩
      refine ⟨true, ?_, fun g g5 m6 e => ⟨fun _ j j1 j2 => by omega, fun _ => rfl⟩⟩
      rw [f_71_2]
      simp only [it_lit, lt_p]
      rw [if_pos ((it_le (by omega) (by omega) (by omega) (by omega)).mpr (by omega))]
      rfl
    | succ q ih =>
      intro i kf hi hkf
      obtain ⟨kf, rfl⟩ : ∃ k', kf = k' + 1 := ⟨kf - 1, by omega⟩
      obtain ⟨v, v1, v2⟩ := s_70g (K := K) (d := d) (I := I) (J := J) (x := x) (y := it i) hP
      rw [f_71_2]
      simp only [it_lit, lt_p, gO_e (yt2 H), gV_e hp, gO_e hP.1]
      rw [if_neg (fun q => by have := (it_le (by omega) (by omega) (by omega) (by omega)).mp q; omega), it_sub, show ((m : Int) - (i : Int)) = ((m - i : Nat) : Int) by omega, s_67 (d := d) H hE (by omega) (by omega)]
      simp only [cI_e, gO_e (yt2 H), gV_e hp, gO_e hP.1]
      rw [v1]
      simp only [cI_e]
      by_cases e : (if m - i ≤ h then I (B + 17) (h - (m - i)) else it (-1)) = v
      · rw [if_pos e]
        simp only [it_add]
        obtain ⟨b, b1, b2⟩ := ih (i + 1) kf (by omega) (by omega)
        refine ⟨b, b1, fun g g5 m6 eg => (b2 g g5 m6 eg).trans ⟨fun z j j1 j2 => ?_, fun z j j1 j2 => z j (by omega) j2⟩⟩
        by_cases ej : j = i
        · subst ej
          rw [e, v2 g j g5 (by omega) eg rfl]
        · exact z j (by omega) j2
      · rw [if_neg e]
        refine ⟨false, rfl, fun g g5 m6 eg => ⟨fun z => (by cases z), fun z => ?_⟩⟩
        have := z i (Nat.le_refl _) (by omega)
        rw [v2 g i g5 (by omega) eg rfl] at e
        exact absurd this e
  obtain ⟨b, b1, b2⟩ := go m 0 (m + 1) (by omega) (by omega)
  refine ⟨b, ?_, fun g g5 m6 e => (b2 g g5 m6 e).trans ⟨fun z i hi => z i (by omega) hi, fun z i _ hi => z i hi⟩⟩
  apply cl_71 (k := m + 1)
  unfold f_71
  simp only [it_lit]
  exact b1
/-- is there one more in brackets -/
theorem s_49z (hX : TX bs t n) (H : Lay B w) (hT : XT B bs t n c r I) : Cl K (d + 2) 49 [.ref (B + 2), .int (it 0)] w I J = some (some (.int (it (if kX bs t c r = 41 ∨ kX bs t c r = 3 then 0 else 1))), w, I, J) := by
  have hb := kX_b (bs := bs) (t := t) (c := c) (r := r)
  apply cl_49 (k := 0)
  unfold f_49
  simp only [it_lit, gO_e (yt2 H), gV_e (yp2_0 H), gO_e (yt3 H)]
  rw [if_neg (fun q => q trivial), s_37 H hT hX.2.1]
  simp only [cI_e, gO_e (yt2 H), gV_e (yp2_0 H), gO_e (yt3 H)]
  by_cases e : kX bs t c r = 41
  · rw [if_pos (by rw [e]; rfl), if_pos (Or.inl e)]
  · rw [if_neg (fun q => by have := (it_eq (by omega) (by omega) (by omega) (by omega)).mp q; omega), s_37 H hT hX.2.1]
    simp only [cI_e]
    by_cases e3 : kX bs t c r = 3
    · rw [if_pos (by rw [e3]; rfl), if_pos (Or.inr e3)]
    · rw [if_neg (fun q => by have := (it_eq (by omega) (by omega) (by omega) (by omega)).mp q; omega), if_neg (by omega)]
theorem s_49s {i : Nat} (hX : TX bs t n) (H : Lay B w) (hT : XT B bs t n c r I) (i1 : 1 ≤ i) (i2 : i < 1000) : ∃ I', Cl K (d + 2) 49 [.ref (B + 2), .int (it i)] w I J = some (some (.int (it (if kX bs t c r = 44 then 1 else 0))), w, I', J) ∧ XT B bs t n (if kX bs t c r = 44 then c + 1 else c) r I' ∧ FX3 B I I' := by
  have hb := kX_b (bs := bs) (t := t) (c := c) (r := r)
  by_cases e : kX bs t c r = 44
  · obtain ⟨I', e1, e2, e3⟩ := s_42k (K := K) (d := d) (J := J) hX H hT e (by omega) (by omega)
    rw [if_pos e, if_pos e]
    refine ⟨I', ?_, e2, e3⟩
    apply cl_49 (k := 0)
    unfold f_49
    simp only [it_lit, gO_e (yt2 H), gV_e (yp2_0 H), gO_e (yt3 H)]
    rw [if_pos (fun q => by have := (it_eq (by omega) (by omega) (by omega) (by omega)).mp q; omega), s_37 H hT hX.2.1]
    simp only [cI_e, gO_e (yt2 H), gV_e (yp2_0 H), gO_e (yt3 H)]
    rw [if_pos (by rw [e]; rfl), e1]
    rfl
  · rw [if_neg e, if_neg e]
    refine ⟨I, ?_, hT, fun b _ => rfl⟩
    apply cl_49 (k := 0)
    unfold f_49
    simp only [it_lit, gO_e (yt2 H), gV_e (yp2_0 H), gO_e (yt3 H)]
    rw [if_pos (fun q => by have := (it_eq (by omega) (by omega) (by omega) (by omega)).mp q; omega), s_37 H hT hX.2.1]
    simp only [cI_e, gO_e (yt2 H), gV_e (yp2_0 H), gO_e (yt3 H)]
    rw [if_neg (fun q => by have := (it_eq (by omega) (by omega) (by omega) (by omega)).mp q; omega)]
/-- the reference's number of a name -/
theorem s_97 {f cnt : Nat} {lt : Int32} (H : Lay B w) (h30 : I (B + 46) 30 = it f) (f4 : f ≤ 4) (hc : I (B + 52) f = it cnt) (c6 : cnt ≤ 6) : ∃ z : Int, Cl K (d + 1) 97 [.ref (B + 46), .int lt] w I J = some (some (.int (it z)), w, I, J) ∧ -1 ≤ z ∧ z < cnt ∧ ∀ (vn : Nat → Nat) (l : Nat), (∀ v, v < cnt → vn v < 26 ∧ I (B + 54) (6 * f + v) = it (97 + vn v : Nat)) → l < 26 → lt = it (97 + l : Nat) → z = vix vn l cnt := by
  have go : ∀ (q i kf : Nat), i + q = cnt → q < kf → ∃ z : Int, f_97_2 K kf d (B + 46) lt (it i) w I J = some (some (.int (it z)), w, I, J) ∧ -1 ≤ z ∧ z < cnt ∧ ∀ (vn : Nat → Nat) (l : Nat), (∀ v, v < cnt → vn v < 26 ∧ I (B + 54) (6 * f + v) = it (97 + vn v : Nat)) → l < 26 → lt = it (97 + l : Nat) → (∀ j, j < i → ¬ vn j = l) → z = vix vn l cnt := by
    intro q
    induction q with
    | zero =>
      intro i kf hi hkf
      obtain ⟨kf, rfl⟩ : ∃ k', kf = k' + 1 := ⟨kf - 1, by omega⟩
      refine ⟨-1, ?_, by omega, by omega, fun vn l _ _ _ hj => ?_⟩
      · rw [f_97_2]
        simp only [it_lit, it_neg, lt_p, gO_e (yt46 H), gV_e (yp46_9 H)]
        rw [h30, gA_e (yt52 H) (Or.inl rfl) (ix (by omega) (by omega) (by omega)), it_n (by omega), hc, if_pos ((it_le (by omega) (by omega) (by omega) (by omega)).mpr (by omega))]
      · exact (vix_0 vn l cnt (fun j hj' => hj j (by omega))).symm
    | succ q ih =>
      intro i kf hi hkf
      obtain ⟨kf, rfl⟩ : ∃ k', kf = k' + 1 := ⟨kf - 1, by omega⟩
      rw [f_97_2]
      simp only [it_lit, it_neg, lt_p, gO_e (yt46 H), gV_e (yp46_9 H), gV_e (yp46_11 H)]
      rw [h30, gA_e (yt52 H) (Or.inl rfl) (ix (by omega) (by omega) (by omega)), it_n (by omega), hc, if_neg (fun q => by have := (it_le (by omega) (by omega) (by omega) (by omega)).mp q; omega)]
      simp only [it_mul, it_add]
      rw [gA_e (yt54 H) (Or.inl rfl) (ix (by omega) (by omega) (by omega)), it_cl (a := 6 * (f : Int) + i) (by omega) (by omega), show (6 * (f : Int) + i).toNat = 6 * f + i by omega]
      by_cases e : I (B + 54) (6 * f + i) = lt
      · rw [if_neg (fun q => q e)]
        refine ⟨i, rfl, by omega, by omega, fun vn l hv hl hlt hj => ?_⟩
        have h1 := hv i (by omega)
        rw [e, hlt] at h1
        have h2 := it_inj (by omega) (by omega) h1.2
        exact (vix_f vn l cnt i (by omega) (by omega) hj).symm
      · rw [if_pos e]
        obtain ⟨z, z1, z2, z3, z4⟩ := ih (i + 1) kf (by omega) (by omega)
        refine ⟨z, z1, z2, z3, fun vn l hv hl hlt hj => z4 vn l hv hl hlt (fun j hj' => ?_)⟩
        by_cases ej : j = i
        · subst ej
          intro q
          have h1 := (hv j (by omega)).2
          rw [q] at h1
          exact e (h1.trans hlt.symm)
        · exact hj j (by omega)
  obtain ⟨z, z1, z2, z3, z4⟩ := go cnt 0 (cnt + 1) (by omega) (by omega)
  refine ⟨z, ?_, z2, z3, fun vn l h1 h2 h3 => z4 vn l h1 h2 h3 (fun j hj => by omega)⟩
  apply cl_97 (k := cnt + 1)
  unfold f_97
  simp only [it_lit]
  exact z1
end NAM

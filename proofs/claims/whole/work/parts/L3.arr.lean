/-! the reference arrives at a place -/
section ARR
variable {K : Nat → Value} {B d N F f p q l m k : Nat} {w : aW} {I I' I'' : aI} {J : aJ} {mo : Int} {sh : Nat → List Nat} {V : Nat → Bool} {D : Nat → Nat} {fa : Nat → Nat → Nat}
/-- how many are not reached -/
def cu (V : Nat → Bool) : Nat → Nat
  | 0 => 0
  | n + 1 => cu V n + if V n = true then 0 else 1
theorem cu_e {V' : Nat → Bool} : ∀ n, (∀ p, p < n → V' p = V p) → cu V' n = cu V n := by
  intro n
  induction n with
  | zero => intro _; rfl
  | succ n ih => intro h; unfold cu; rw [ih (fun p hp => h p (by omega)), h n (by omega)]
theorem cu_u (h : V p = false) : ∀ n, p < n → cu (sm_up1 V p true) n + 1 = cu V n := by
  intro n
  induction n with
  | zero => intro h; omega
  | succ n ih =>
    intro hp
    unfold cu
    by_cases e : p = n
    · subst e
      rw [up1_s, if_pos rfl, h, if_neg (by decide), cu_e p (fun q hq => up1_n (by omega))]
    · rw [up1_n (show ¬ n = p by omega)]
      have := ih (by omega)
      omega
theorem cu_b : ∀ n, cu V n ≤ n := by
  intro n
  induction n with
  | zero => exact Nat.le_refl _
  | succ n ih => unfold cu; split <;> omega
def FSh (B : Nat) (I I' : aI) : Prop := (∀ b, ¬ b = B + 46 → ¬ b = B + 62 → ¬ b = B + 63 → ¬ b = B + 64 → I' b = I b) ∧ ∀ k, ¬ k = 35 → I' (B + 46) k = I (B + 46) k
theorem FSh_r : FSh B I I := ⟨fun _ _ _ _ _ => rfl, fun _ _ => rfl⟩
theorem FSh_t (h1 : FSh B I I') (h2 : FSh B I' I'') : FSh B I I'' := ⟨fun b x y z u => (h2.1 b x y z u).trans (h1.1 b x y z u), fun k x => (h2.2 k x).trans (h1.2 k x)⟩
def SV (B N : Nat) (sh : Nat → List Nat) (V : Nat → Bool) (I : aI) : Prop := ∀ p, p < N → (V p = false → I (B + 62) p = it (-1)) ∧ (V p = true → I (B + 62) p = it (sh p).length ∧ ∀ k, k < (sh p).length → I (B + 63) (64 * p + k) = it ((sh p).reverse.getD k 0))
def DV (B N m : Nat) (D : Nat → Nat) (V : Nat → Bool) (I : aI) : Prop := I (B + 46) 35 = it m ∧ (∀ k, k < m → I (B + 64) k = it (D k) ∧ D k < N ∧ V (D k) = true) ∧ m + cu V N ≤ N
theorem m_13 {mo : Int32} (H : Lay B w) (hp : p < 200) (hq : q < 200) (hl : l ≤ 63) (hne : l = 0 ∨ ¬ p = q) : ∀ (m i kx : Nat) (R : Nat → Int32), i + m = l → m < kx → ∃ R', f_119_13 K kx d (B + 46) (it p) (it q) (it l) mo (it i) w (sm_up1 I (B + 63) R) J = f_119_13 K (kx - m) d (B + 46) (it p) (it q) (it l) mo (it l) w (sm_up1 I (B + 63) R') J ∧ (∀ k, i ≤ k → k < l → R' (64 * p + k) = R (64 * q + k)) ∧ ∀ k, k < 64 * p + i ∨ 64 * p + l ≤ k → R' k = R k := by
  intro m
  induction m with
  | zero =>
    intro i kx R h1 hk
    have : i = l := by omega
    subst this
    exact ⟨R, rfl, fun k _ _ => by omega, fun _ _ => rfl⟩
  | succ m ih =>
    intro i kx R h1 hk
    obtain ⟨kx, rfl⟩ : ∃ k', kx = k' + 1 := ⟨kx - 1, by omega⟩
    obtain ⟨R', r1, r2, r3⟩ := ih (i + 1) kx (sm_up1 R (64 * p + i) (R (64 * q + i))) (by omega) (by omega)
    refine ⟨R', ?_, fun k k1 k2 => ?_, fun k hk => ?_⟩
    · rw [show kx + 1 - (m + 1) = kx - m by omega, ← r1, f_119_13]
      simp only [it_lit, lt_p, gO_e (yt46 H), gV_e (yp46_33 H), it_mul, it_add]
      rw [if_neg (fun q => by have := (it_le (by omega) (by omega) (by omega) (by omega)).mp q; omega), gA_e (yt63 H) (Or.inl rfl) (ix (by omega) (by omega) (by omega)), gA_e (yt63 H) (Or.inl rfl) (ix (by omega) (by omega) (by omega)), it_cl (by omega) (by omega), it_cl (by omega) (by omega), show (64 * (p : Int) + i).toNat = 64 * p + i by omega, show (64 * (q : Int) + i).toNat = 64 * q + i by omega, up12, up1_s, show (i : Int) + 1 = ((i + 1 : Nat) : Int) by omega]
    · by_cases e : k = i
      · subst e
        rw [r3 (64 * p + k) (by omega), up1_s]
      · rw [r2 k (by omega) k2, up1_n (by omega)]
    · rw [r3 k (by omega), up1_n (by omega)]
/-- the cells behind an arrival -/
def arI (B p m l : Nat) (mo : Int) (R : Nat → Int32) (I : aI) : aI := sm_up2 (sm_up2 (sm_up2 (sm_up1 I (B + 63) (if mo < 0 then R else sm_up1 R (64 * p + l) (it mo))) (B + 62) p (it (if mo < 0 then (l : Int) else l + 1))) (B + 64) m (it p)) (B + 46) 35 (it ((m + 1 : Nat) : Int))
theorem m_84 {x1 x2 x3 x4 : Int32} {R : Nat → Int32} {ln : Int} (H : Lay B w) (hp : p < 200) (hm : m < 200) (h35 : I (B + 46) 35 = it m) : f_119_84 K k d (B + 46) (it p) x1 x2 x3 x4 (B + 62) (it p) (it ln) w (sm_up1 I (B + 63) R) J = some (none, w, sm_up2 (sm_up2 (sm_up2 (sm_up1 I (B + 63) R) (B + 62) p (it ln)) (B + 64) m (it p)) (B + 46) 35 (it ((m + 1 : Nat) : Int)), J) := by
  unfold f_119_84
  have e : (sm_up2 (sm_up1 I (B + 63) R) (B + 62) p (it ln)) (B + 46) 35 = it m := by rw [up2_n (by omega), up1_n (by omega)]; exact h35
  have e2 : (sm_up2 (sm_up2 (sm_up1 I (B + 63) R) (B + 62) p (it ln)) (B + 64) m (it p)) (B + 46) 35 = it m := by rw [up2_n (by omega)]; exact e
  simp only [it_lit, lt_p, gO_e (yt46 H), gV_e (yp46_34 H)]
  rw [gA_e (yt62 H) (Or.inl rfl) (ix (by omega) (by omega) (by omega)), it_n (show p < 1000000 by omega), e, gA_e (yt64 H) (Or.inl rfl) (ix (by omega) (by omega) (by omega)), it_n (show m < 1000000 by omega), e2, it_add, show (m : Int) + 1 = ((m + 1 : Nat) : Int) by omega]
theorem m_67 {R : Nat → Int32} {kx : Nat} (H : Lay B w) (hp : p < 200) (hm : m < 200) (hl : l ≤ 63) (m1 : -1 ≤ mo) (m2 : mo ≤ 100000) (h35 : I (B + 46) 35 = it m) : f_119_13 K (kx + 1) d (B + 46) (it p) (it q) (it l) (it mo) (it l) w (sm_up1 I (B + 63) R) J = some (none, w, arI B p m l mo R I, J) := by
  rw [f_119_13]
  simp only [it_lit, lt_p, gO_e (yt46 H), gV_e (yp46_33 H), it_mul, it_add]
  rw [if_pos ((it_le (by omega) (by omega) (by omega) (by omega)).mpr (by omega))]
  unfold arI
  by_cases z : mo < 0
  · rw [if_pos ((it_lt (by omega) (by omega) (by omega) (by omega)).mpr (by omega)), if_pos z, if_pos z]
    unfold f_119_67
    simp only [it_lit, gO_e (yt46 H), gV_e (yp46_32 H)]
    rw [if_pos ((it_lt (by omega) (by omega) (by omega) (by omega)).mpr (by omega))]
    exact m_84 H hp hm h35
  · rw [if_neg (fun q => by have := (it_lt (by omega) (by omega) (by omega) (by omega)).mp q; omega), if_neg z, if_neg z, gA_e (yt63 H) (Or.inl rfl) (ix (by omega) (by omega) (by omega)), it_cl (by omega) (by omega), show (64 * (p : Int) + l).toNat = 64 * p + l by omega, up12]
    unfold f_119_67
    simp only [it_lit, gO_e (yt46 H), gV_e (yp46_32 H), it_add]
    rw [if_neg (fun q => by have := (it_lt (by omega) (by omega) (by omega) (by omega)).mp q; omega)]
    exact m_84 H hp hm h35
/-- an arrival -/
theorem s_119 (H : Lay B w) (hN : N ≤ 200) (hp : p < N) (hq : q < 200) (hl : l ≤ 63) (m1 : -1 ≤ mo) (m2 : mo ≤ 100000) (hL : ∀ p, p < N → (sh p).length ≤ 60) (hS : SV B N sh V I) (hD : DV B N m D V I) (hqv : l = 0 ∨ V q = true) (hsh : V p = false → (sh p).length = (if mo < 0 then l else l + 1) ∧ (∀ k, k < l → I (B + 63) (64 * q + k) = it ((sh p).reverse.getD k 0)) ∧ (¬ mo < 0 → mo = ((sh p).reverse.getD l 0 : Nat))) :
    ∃ (I' : aI) (m' : Nat) (D' : Nat → Nat), Cl K (d + 1) 119 [.ref (B + 46), .int (it p), .int (it q), .int (it l), .int (it mo)] w I J = some (none, w, I', J) ∧ FSh B I I' ∧ SV B N sh (sm_up1 V p true) I' ∧ DV B N m' D' (sm_up1 V p true) I' ∧ m' + cu (sm_up1 V p true) N = m + cu V N ∧ (∀ v, (∃ k, k < m ∧ D k = v) → ∃ k, k < m' ∧ D' k = v) ∧ ∀ v, sm_up1 V p true v = true → V v = true ∨ ∃ k, k < m' ∧ D' k = v := by
  obtain ⟨d1, d2, d3⟩ := id hD
  by_cases hv : V p = true
  · have eV : sm_up1 V p true = V := by
      funext b
      by_cases e : b = p
      · subst e; rw [up1_s, hv]
      · rw [up1_n e]
    rw [eV]
    refine ⟨I, m, D, cl_119 (k := 0) ?_, FSh_r, hS, hD, rfl, fun v h => h, fun v h => Or.inl h⟩
    unfold f_119
    simp only [it_lit, gO_e (yt46 H), gV_e (yp46_32 H)]
    rw [gA_e (yt62 H) (Or.inl rfl) (ix (by omega) (by omega) (by omega)), it_n (show p < 1000000 by omega), ((hS p hp).2 hv).1]
    have := hL p hp
    rw [if_neg (fun q => by have := (it_lt (by omega) (by omega) (by omega) (by omega)).mp q; omega)]
  · have hv0 : V p = false := by cases h : V p <;> simp_all
    obtain ⟨s1, s2, s3⟩ := hsh hv0
    have hcu := cu_u hv0 N hp
    have hm : m < N := by omega
    obtain ⟨R', r1, r2, r3⟩ := m_13 (K := K) (d := d) (I := I) (J := J) (mo := it mo) H (show p < 200 by omega) hq hl (hqv.imp id (fun z e => by rw [e, z] at hv0; cases hv0)) l 0 (l + 1) (I (B + 63)) (by omega) (by omega)
    have eI : I = sm_up1 I (B + 63) (I (B + 63)) := by
      funext b
      by_cases h : b = B + 63
      · subst h; rw [up1_s]
      · rw [up1_n h]
    have c1 : Cl K (d + 1) 119 [.ref (B + 46), .int (it p), .int (it q), .int (it l), .int (it mo)] w I J = some (none, w, arI B p m l mo R' I, J) := by
      apply cl_119 (k := l + 1)
      unfold f_119
      simp only [it_lit, gO_e (yt46 H), gV_e (yp46_32 H)]
      rw [gA_e (yt62 H) (Or.inl rfl) (ix (by omega) (by omega) (by omega)), it_n (show p < 1000000 by omega), (hS p hp).1 hv0, if_pos (by decide)]
      have r1' : f_119_13 K (l + 1) d (B + 46) (it p) (it q) (it l) (it mo) (it 0) w (sm_up1 I (B + 63) (I (B + 63))) J = _ := r1
      rw [← eI] at r1'
      rw [r1', show l + 1 - l = 0 + 1 by omega]
      exact m_67 H (by omega) (by omega) hl m1 m2 d1
    have e70 : ∀ k, ¬ k = 64 * p + l → arI B p m l mo R' I (B + 63) k = R' k := fun k hk => by
      unfold arI
      rw [up2_n (by omega), up2_n (by omega), up2_n (by omega), up1_s]
      by_cases z : mo < 0
      · rw [if_pos z]
      · rw [if_neg z, up1_n hk]
    have e70l : ¬ mo < 0 → arI B p m l mo R' I (B + 63) (64 * p + l) = it mo := fun z => by
      unfold arI
      rw [up2_n (by omega), up2_n (by omega), up2_n (by omega), up1_s, if_neg z, up1_s]
    have e69 : ∀ k, ¬ k = p → arI B p m l mo R' I (B + 62) k = I (B + 62) k := fun k hk => by
      unfold arI
      rw [up2_n (by omega), up2_n (by omega), up2_r, up1_n hk, up1_n (by omega)]
    have e69p : arI B p m l mo R' I (B + 62) p = it (sh p).length := by
      unfold arI
      rw [up2_n (by omega), up2_n (by omega), up2_r, up1_s, s1]
      by_cases z : mo < 0
      · rw [if_pos z, if_pos z]
      · rw [if_neg z, if_neg z]; rfl
    have e71 : ∀ k, ¬ k = m → arI B p m l mo R' I (B + 64) k = I (B + 64) k := fun k hk => by
      unfold arI
      rw [up2_n (by omega), up2_r, up1_n hk, up2_n (by omega), up1_n (by omega)]
    have e71m : arI B p m l mo R' I (B + 64) m = it p := by
      unfold arI
      rw [up2_n (by omega), up2_r, up1_s]
    have e35 : arI B p m l mo R' I (B + 46) 35 = it ((m + 1 : Nat) : Int) := by
      unfold arI
      rw [up2_r, up1_s]
    have keep : ∀ v, V v = true → ∀ k, k < 64 → arI B p m l mo R' I (B + 63) (64 * v + k) = I (B + 63) (64 * v + k) := fun v hv' k k64 => by
      have ne : ¬ v = p := fun e => by rw [e, hv0] at hv'; cases hv'
      rw [e70 _ (by omega), r3 _ (by omega)]
    refine ⟨arI B p m l mo R' I, m + 1, sm_up1 D m p, c1, ⟨fun b b1 b2 b3 b4 => ?_, fun k hk => ?_⟩, fun v hvN => ?_, ⟨e35, fun k hk => ?_, by omega⟩, by omega, fun v ⟨k, k1, k2⟩ => ⟨k, by omega, by rw [up1_n (by omega)]; exact k2⟩, fun v hv' => ?_⟩
    · unfold arI
      rw [up2_n b1, up2_n b4, up2_n b2, up1_n b3]
    · unfold arI
      rw [up2_r, up1_n hk, up2_n (by omega), up2_n (by omega), up1_n (by omega)]
    · by_cases e : v = p
      · subst e
        refine ⟨fun z => (by rw [up1_s] at z; cases z), fun _ => ⟨e69p, fun k hk => ?_⟩⟩
        by_cases kl : k < l
        · rw [e70 _ (by omega), r2 k (by omega) kl, s2 k kl]
        · by_cases z : mo < 0
          · rw [if_pos z] at s1; omega
          · rw [if_neg z] at s1
            have : k = l := by omega
            subst this
            rw [e70l z]
            exact congrArg it (s3 z)
      · rw [up1_n e, e69 v e]
        refine ⟨(hS v hvN).1, fun z => ⟨((hS v hvN).2 z).1, fun k hk => ?_⟩⟩
        rw [keep v z k (by have := hL v hvN; omega)]
        exact ((hS v hvN).2 z).2 k hk
    · by_cases e : k = m
      · subst e
        rw [e71m, up1_s]
        exact ⟨rfl, hp, up1_s _ _ _⟩
      · rw [e71 k e, up1_n e]
        obtain ⟨y1, y2, y3⟩ := d2 k (by omega)
        refine ⟨y1, y2, ?_⟩
        by_cases z : D k = p
        · rw [z, up1_s]
        · rw [up1_n z]; exact y3
    · by_cases e : v = p
      · subst e
        exact Or.inr ⟨m, by omega, up1_s _ _ _⟩
      · rw [up1_n e] at hv'
        exact Or.inl hv'
end ARR

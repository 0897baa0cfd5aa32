/-! the class's scan -/
section SCAN
variable {K : Nat → Value} {B d k : Nat} {w : aW} {I : aI} {J : aJ} {bs : Nat → Nat} {t c p n : Nat}
theorem FrT_i {I I' : aI} (h : FrT B I I') : I' (B + 1) = I (B + 1) ∧ I' (B + 7) = I (B + 7) := ⟨h.1 _ (by omega) (by omega) (by omega) (by omega), h.1 _ (by omega) (by omega) (by omega) (by omega)⟩
theorem e_25 (H : Lay B w) (hT : TS B bs t c I) (hc : c < 241) (hp : tst bs t c = p) (hpt : p < t) (ht : t ≤ 240) (hq : lxe bs t p = p + n) (n1 : 1 ≤ n) (hl : ∀ i, p ≤ i → i < p + n → isL (bs i)) (hC : rCo B I) (hI : ∀ i, i < t → bs i < 256 ∧ I (B + 1) i = it (bs i)) : ∃ I', f_25_52 K k (d + 1) (B + 3) (B + 1) (it p) (it t) (it ((p + n : Nat) : Int)) (it (wdn bs p n)) w I J = some (some (.int (it ((p + n : Nat) : Int))), w, I', J) ∧ TS B bs t (c + 1) I' ∧ FrT B I I' := by
  have hlp := hl p (by omega) (by omega)
  have hb : p + n ≤ t := by rw [← hq]; exact (lxe_b hpt).2
  have hk : tkd bs t c = if n = 1 then 1 else kix (rl bs p n) kyl 256 := by
    unfold tkd kdo
    rw [hp, if_neg (by omega), if_pos hlp, hq, show p + n - p = n by omega]
  have hv : tvl bs t c = if n = 1 then bs p - 97 else 0 := by
    unfold tvl vlo
    rw [hp, if_neg (by omega), if_pos hlp, hq, show p + n - p = n by omega]
  unfold f_25_52
  simp only [it_lit, it_sub]
  rw [show (((p + n : Nat) : Int) - (p : Int)) = (n : Int) by omega]
  by_cases h1 : n = 1
  · rw [if_pos h1] at hk hv
    subst h1
    rw [if_neg (fun q => q rfl), gA_e (yt1 H) (Or.inl rfl) (ix (by omega) (by omega) (by omega)), gO_e (yt3 H), it_n (by omega), (hI p hpt).2, it_sub]
    obtain ⟨I', e1, e2, e3⟩ := s_26 (K := K) (d := d) (J := J) (k := it 1) (p := it p) (v := it ((bs p : Int) - 97)) H hT hc (by rw [hk]; rfl) (by rw [hp]) (by rw [hv]; congr 1; omega)
    rw [e1]
    exact ⟨I', rfl, e2, e3⟩
  · rw [if_neg h1] at hk hv
    rw [if_pos (fun q => by have := (it_eq (by omega) (by omega) (by omega) (by omega)).mp q; omega), gO_e (yt3 H), s_27 H hl hC]
    simp only [cI_e, gO_e (yt3 H)]
    obtain ⟨I', e1, e2, e3⟩ := s_26 (K := K) (d := d) (J := J) (k := it (kix (rl bs p n) kyl 256 : Nat)) (p := it p) (v := it 0) H hT hc (by rw [hk]) (by rw [hp]) (by rw [hv]; rfl)
    rw [e1]
    exact ⟨I', rfl, e2, e3⟩
theorem s_25 (H : Lay B w) (hT : TS B bs t c I) (hc : c < 241) (hp : tst bs t c = p) (hpt : p < t) (ht : t ≤ 240) (hlp : isL (bs p)) (hC : rCo B I) (hI : ∀ i, i < t → bs i < 256 ∧ I (B + 1) i = it (bs i)) : ∃ I', Cl K (d + 2) 25 [.ref (B + 3), .ref (B + 1), .int (it p), .int (it t)] w I J = some (some (.int (it (lxe bs t p : Nat))), w, I', J) ∧ TS B bs t (c + 1) I' ∧ FrT B I I' := by
  have go : ∀ (m n : Nat), p + n + m = t → spn bs 97 122 m (p + n) = lxe bs t p → (∀ i, p ≤ i → i < p + n → isL (bs i)) → ∃ I', f_25_6 K (m + 1) (d + 1) (B + 3) (B + 1) (it p) (it t) (it ((p + n : Nat) : Int)) (it (wdn bs p n)) w I J = some (some (.int (it (lxe bs t p : Nat))), w, I', J) ∧ TS B bs t (c + 1) I' ∧ FrT B I I' := by
    intro m
    induction m with
    | zero =>
      intro n hn hs hl
      rw [spn] at hs
      rw [f_25_6]
      simp only [it_lit, lt_p]
      rw [if_pos ((it_le (by omega) (by omega) (by omega) (by omega)).mpr (by omega)), ← hs]
      exact e_25 H hT hc hp hpt ht hs.symm (by omega) hl hC hI
    | succ m ih =>
      intro n hn hs hl
      rw [f_25_6]
      simp only [it_lit, lt_p]
      rw [if_neg (fun q => by have := (it_le (by omega) (by omega) (by omega) (by omega)).mp q; omega), gA_e (yt1 H) (Or.inl rfl) (ix (by omega) (by omega) (by omega)), it_n (by omega), (hI (p + n) (by omega)).2, s_24 (hI (p + n) (by omega)).1]
      simp only [cI_e]
      rw [spn] at hs
      by_cases h1 : isL (bs (p + n))
      · rw [if_pos h1] at hs ⊢
        rw [if_neg (by decide)]
        simp only [it_sub]
        have hn2 := ih (n + 1) (by omega) hs (fun i h2 h3 => by
          by_cases e : i = p + n
          · subst e; exact h1
          · exact hl i h2 (by omega))
        by_cases h6 : 6 ≤ n
        · rw [if_pos ((it_le (by omega) (by omega) (by omega) (by omega)).mpr (by omega))]
          unfold f_25_44
          simp only [it_lit, lt_p, it_add, it_neg]
          have e1 : wdn bs p (n + 1) = -1 := by unfold wdn; rw [if_neg (by omega)]
          rw [e1] at hn2
          exact hn2
        · rw [if_neg (fun q => by have := (it_le (by omega) (by omega) (by omega) (by omega)).mp q; omega), gA_e (yt1 H) (Or.inl rfl) (ix (by omega) (by omega) (by omega)), (hI (p + n) (by omega)).2]
          have e1 : Cl K (d + 1) 11 [.int (it (wdn bs p n)), .int (it (bs (p + n)))] w I J = some (some (.int (it (wdn bs p (n + 1)))), w, I, J) := by
            apply cl_11 (k := 0)
            unfold f_11
            simp only [it_lit, it_mul, it_add, it_sub]
            congr 4
            unfold wdn
            rw [if_pos (by omega), if_pos (by omega), rl, hr]
            congr 1
            omega
          rw [e1]
          simp only [cI_e]
          unfold f_25_44
          simp only [it_lit, lt_p, it_add]
          exact hn2
      · rw [if_neg h1] at hs ⊢
        rw [if_pos rfl, ← hs]
        have n1 : 1 ≤ n := by
          by_cases e : n = 0
          · subst e; exact absurd hlp h1
          · omega
        exact e_25 H hT hc hp hpt ht hs.symm n1 hl hC hI
  have e : lxe bs t p = spn bs 97 122 (t - p) p := by unfold lxe; rw [if_neg (by omega), if_pos hlp]
  obtain ⟨I', e1, e2, e3⟩ := go (t - p) 0 (by omega) e.symm (fun i h1 h2 => by omega)
  refine ⟨I', ?_, e2, e3⟩
  apply cl_25 (k := t - p + 1)
  unfold f_25
  simp only [it_lit]
  exact e1
def nmn (bs : Nat → Nat) (p n : Nat) : Nat := if n ≤ 5 then num bs p n else 0
theorem num_b {p : Nat} : ∀ n, (∀ i, p ≤ i → i < p + n → isD (bs i)) → num bs p n < 10 ^ n := by
  intro n
  induction n with
  | zero => intro _; rw [num]; exact Nat.pow_pos (by decide)
  | succ n ih =>
    intro h
    have h1 := ih (fun i h1 h2 => h i h1 (by omega))
    have h2 := h (p + n) (by omega) (by omega)
    rw [num, Nat.pow_succ]
    omega
theorem nmn_b {p n : Nat} (h : ∀ i, p ≤ i → i < p + n → isD (bs i)) : nmn bs p n < 100000 := by
  unfold nmn
  split
  · have h1 := num_b n h
    have h2 : 10 ^ n ≤ 10 ^ 5 := Nat.pow_le_pow_right (by decide) (by assumption)
    have h3 : (10 : Nat) ^ 5 = 100000 := by decide
    omega
  · omega
theorem e_29 (H : Lay B w) (hT : TS B bs t c I) (hc : c < 241) (hp : tst bs t c = p) (hpt : p < t) (ht : t ≤ 240) (hq : lxe bs t p = p + n) (n1 : 1 ≤ n) (hl : ∀ i, p ≤ i → i < p + n → isD (bs i)) : ∃ I', f_29_55 K k (d + 1) (B + 3) (B + 1) (it p) (it t) (it ((p + n : Nat) : Int)) (it (nmn bs p n)) w I J = some (some (.int (it ((p + n : Nat) : Int))), w, I', J) ∧ TS B bs t (c + 1) I' ∧ FrT B I I' := by
  have hlp := hl p (by omega) (by omega)
  have hb : p + n ≤ t := by rw [← hq]; exact (lxe_b hpt).2
  have hk : tkd bs t c = if n ≤ 5 then 2 else 3 := by
    unfold tkd kdo
    rw [hp, if_neg (by omega), if_neg (by omega), if_pos hlp, hq, show p + n - p = n by omega]
  have hv : tvl bs t c = nmn bs p n := by
    unfold tvl vlo nmn
    rw [hp, if_neg (by omega), if_neg (by omega), if_pos hlp, hq, show p + n - p = n by omega]
  unfold f_29_55
  simp only [it_lit, it_sub]
  rw [show (((p + n : Nat) : Int) - (p : Int)) = (n : Int) by omega]
  by_cases h1 : n ≤ 5
  · rw [if_pos h1] at hk
    rw [if_pos ((it_le (by omega) (by omega) (by omega) (by omega)).mpr (by omega))]
    unfold f_29_69
    rw [gO_e (yt3 H)]
    obtain ⟨I', e1, e2, e3⟩ := s_26 (K := K) (d := d) (J := J) (k := it 2) (p := it p) (v := it (nmn bs p n)) H hT hc (by rw [hk]; rfl) (by rw [hp]) (by rw [hv])
    rw [e1]
    exact ⟨I', rfl, e2, e3⟩
  · rw [if_neg h1] at hk
    rw [if_neg (fun q => by have := (it_le (by omega) (by omega) (by omega) (by omega)).mp q; omega)]
    unfold f_29_69
    rw [gO_e (yt3 H)]
    obtain ⟨I', e1, e2, e3⟩ := s_26 (K := K) (d := d) (J := J) (k := it 3) (p := it p) (v := it (nmn bs p n)) H hT hc (by rw [hk]; rfl) (by rw [hp]) (by rw [hv])
    rw [e1]
    exact ⟨I', rfl, e2, e3⟩
theorem s_29 (H : Lay B w) (hT : TS B bs t c I) (hc : c < 241) (hp : tst bs t c = p) (hpt : p < t) (ht : t ≤ 240) (hlp : isD (bs p)) (hI : ∀ i, i < t → bs i < 256 ∧ I (B + 1) i = it (bs i)) : ∃ I', Cl K (d + 2) 29 [.ref (B + 3), .ref (B + 1), .int (it p), .int (it t)] w I J = some (some (.int (it (lxe bs t p : Nat))), w, I', J) ∧ TS B bs t (c + 1) I' ∧ FrT B I I' := by
  have go : ∀ (m n : Nat), p + n + m = t → spn bs 48 57 m (p + n) = lxe bs t p → (∀ i, p ≤ i → i < p + n → isD (bs i)) → ∃ I', f_29_6 K (m + 1) (d + 1) (B + 3) (B + 1) (it p) (it t) (it ((p + n : Nat) : Int)) (it (nmn bs p n)) w I J = some (some (.int (it (lxe bs t p : Nat))), w, I', J) ∧ TS B bs t (c + 1) I' ∧ FrT B I I' := by
    intro m
    induction m with
    | zero =>
      intro n hn hs hl
      rw [spn] at hs
      rw [f_29_6]
      simp only [it_lit, lt_p]
      rw [if_pos ((it_le (by omega) (by omega) (by omega) (by omega)).mpr (by omega)), ← hs]
      exact e_29 H hT hc hp hpt ht hs.symm (by omega) hl
    | succ m ih =>
      intro n hn hs hl
      rw [f_29_6]
      simp only [it_lit, lt_p]
      rw [if_neg (fun q => by have := (it_le (by omega) (by omega) (by omega) (by omega)).mp q; omega), gA_e (yt1 H) (Or.inl rfl) (ix (by omega) (by omega) (by omega)), it_n (by omega), (hI (p + n) (by omega)).2, s_28 (hI (p + n) (by omega)).1]
      simp only [cI_e]
      rw [spn] at hs
      by_cases h1 : isD (bs (p + n))
      · rw [if_pos h1] at hs ⊢
        rw [if_neg (by decide)]
        simp only [it_sub]
        have hn2 := ih (n + 1) (by omega) hs (fun i h2 h3 => by
          by_cases e : i = p + n
          · subst e; exact h1
          · exact hl i h2 (by omega))
        by_cases h6 : 5 ≤ n
        · rw [if_pos ((it_le (by omega) (by omega) (by omega) (by omega)).mpr (by omega))]
          unfold f_29_47
          simp only [it_lit, lt_p, it_add]
          have e1 : nmn bs p (n + 1) = 0 := by unfold nmn; rw [if_neg (by omega)]
          rw [e1] at hn2
          exact hn2
        · rw [if_neg (fun q => by have := (it_le (by omega) (by omega) (by omega) (by omega)).mp q; omega), gA_e (yt1 H) (Or.inl rfl) (ix (by omega) (by omega) (by omega)), (hI (p + n) (by omega)).2]
          have e1 : ((nmn bs p n : Int) * 10 + (bs (p + n) : Int) - 48) = (nmn bs p (n + 1) : Nat) := by
            unfold nmn
            rw [if_pos (by omega), if_pos (by omega), num]
            omega
          unfold f_29_47
          simp only [it_mul, it_add, it_sub, it_lit, lt_p]
          rw [e1]
          exact hn2
      · rw [if_neg h1] at hs ⊢
        rw [if_pos rfl, ← hs]
        have n1 : 1 ≤ n := by
          by_cases e : n = 0
          · subst e; exact absurd hlp h1
          · omega
        exact e_29 H hT hc hp hpt ht hs.symm n1 hl
  have e : lxe bs t p = spn bs 48 57 (t - p) p := by unfold lxe; rw [if_neg (by omega), if_neg (by omega), if_pos hlp]
  obtain ⟨I', e1, e2, e3⟩ := go (t - p) 0 (by omega) e.symm (fun i h1 h2 => by omega)
  refine ⟨I', ?_, e2, e3⟩
  apply cl_29 (k := t - p + 1)
  unfold f_29
  simp only [it_lit]
  exact e1
theorem StO_T {I I' : aI} (h : FrT B I I') (hO : StO K B w I) : StO K B w I' := StO_c (fun a ha => ⟨h.1 a (by omega) (by omega) (by omega) (by omega), rfl, rfl⟩) hO
/-- what a scan makes -/
theorem l_23 (H : Lay B w) (ht : t ≤ 240) : ∀ (m kf at' c u : Nat) (I : aI), m < kf → at' + m = t → u ≤ at' → c ≤ at' → wsk bs m at' = tst bs t c → (∀ c', c' < c → tst bs t c' < t) → TS B bs t c I → rCo B I → StO K B w I → (∀ i, i < t → bs i < 256 ∧ I (B + 1) i = it (bs i)) → ∃ n I', f_23_34 K kf (d + 4) (B + 3) (B + 1) (it t) (it t) (it at') (it u) w I J = some (none, w, I', J) ∧ n ≤ 240 ∧ TS B bs t (n + 1) I' ∧ FrT B I I' ∧ tst bs t n = t ∧ ∀ c', c' < n → tst bs t c' < t := by
  intro m
  induction m using Nat.strongRecOn with
  | ind m ih =>
    intro kf at' c u I hkf hm hu hc hs hb hT hC hO hI
    obtain ⟨kf, rfl⟩ : ∃ k', kf = k' + 1 := ⟨kf - 1, by omega⟩
    rw [f_23_34]
    simp only [it_lit, lt_p]
    by_cases e : m = 0
    · subst e
      have fin : ∃ n I', f_23_143 K kf (d + 4) (B + 3) (B + 1) (it t) (it t) (it at') (it u) w I J = some (none, w, I', J) ∧ n ≤ 240 ∧ TS B bs t (n + 1) I' ∧ FrT B I I' ∧ tst bs t n = t ∧ ∀ c', c' < n → tst bs t c' < t := by
        rw [wsk] at hs
        unfold f_23_143
        simp only [it_lit, gO_e (yt3 H)]
        obtain ⟨I', e1, e2, e3⟩ := s_26 (K := K) (d := d + 3) (J := J) (k := it 0) (p := it t) (v := it 0) H hT (by omega) (by unfold tkd kdo; rw [if_pos (by omega)]; rfl) (by rw [← hs]; congr 1; omega) (by unfold tvl vlo; rw [if_pos (by omega)]; rfl)
        rw [e1]
        exact ⟨c, I', rfl, by omega, e2, e3, by omega, hb⟩
      by_cases e2 : 240 ≤ u
      · rw [if_pos ((it_le (by omega) (by omega) (by omega) (by omega)).mpr (by omega))]; exact fin
      · rw [if_neg (fun q => by have := (it_le (by omega) (by omega) (by omega) (by omega)).mp q; omega), if_pos ((it_le (by omega) (by omega) (by omega) (by omega)).mpr (by omega))]; exact fin
    · rw [if_neg (fun q => by have := (it_le (by omega) (by omega) (by omega) (by omega)).mp q; omega), if_neg (fun q => by have := (it_le (by omega) (by omega) (by omega) (by omega)).mp q; omega), gA_e (yt1 H) (Or.inl rfl) (ix (by omega) (by omega) (by omega)), it_n (by omega), (hI at' (by omega)).2, s_24 (hI at' (by omega)).1]
      simp only [cI_e]
      obtain ⟨m', rfl⟩ : ∃ m', m = m' + 1 := ⟨m - 1, by omega⟩
      rw [wsk] at hs
      by_cases hl : isL (bs at')
      · rw [if_neg (by unfold isW; omega)] at hs
        rw [if_pos hl, if_neg (by decide), gO_e (yt3 H)]
        obtain ⟨I', e1, e2, e3⟩ := s_25 (K := K) (d := d + 2) (J := J) H hT (by omega) hs.symm (by omega) ht hl hC hI
        rw [e1]
        simp only [cI_e]
        unfold f_23_137
        simp only [it_lit, lt_p, it_add]
        have hq := lxe_b (bs := bs) (t := t) (p := at') (by omega)
        obtain ⟨n, I2, g1, g2, g3, g4, g5, g6⟩ := ih (t - lxe bs t at') (by omega) kf (lxe bs t at') (c + 1) (u + 1) I' (by omega) (by omega) (by omega) (by omega) (by rw [tst, ← hs]) (fun c' h => by
          by_cases e : c' = c
          · subst e; omega
          · exact hb c' (by omega)) e2 (by intro i hi; rw [(FrT_i e3).2]; exact hC i hi) (StO_T e3 hO) (by rw [(FrT_i e3).1]; exact hI)
        exact ⟨n, I2, g1, g2, g3, FrT_t e3 g4, g5, g6⟩
      · rw [if_neg hl, if_pos rfl, s_28 (hI at' (by omega)).1]
        simp only [cI_e]
        by_cases hd : isD (bs at')
        · rw [if_neg (by unfold isW; omega)] at hs
          rw [if_pos hd, if_neg (by decide), gO_e (yt3 H)]
          obtain ⟨I', e1, e2, e3⟩ := s_29 (K := K) (d := d + 2) (J := J) H hT (by omega) hs.symm (by omega) ht hd hI
          rw [e1]
          simp only [cI_e]
          unfold f_23_137
          simp only [it_lit, lt_p, it_add]
          have hq := lxe_b (bs := bs) (t := t) (p := at') (by omega)
          obtain ⟨n, I2, g1, g2, g3, g4, g5, g6⟩ := ih (t - lxe bs t at') (by omega) kf (lxe bs t at') (c + 1) (u + 1) I' (by omega) (by omega) (by omega) (by omega) (by rw [tst, ← hs]) (fun c' h => by
            by_cases e : c' = c
            · subst e; omega
            · exact hb c' (by omega)) e2 (by intro i hi; rw [(FrT_i e3).2]; exact hC i hi) (StO_T e3 hO) (by rw [(FrT_i e3).1]; exact hI)
          exact ⟨n, I2, g1, g2, g3, FrT_t e3 g4, g5, g6⟩
        · rw [if_neg hd, if_pos rfl]
          have step : ∀ (c2 : Nat) (I' : aI), c2 ≤ at' + 1 → wsk bs m' (at' + 1) = tst bs t c2 → (∀ c', c' < c2 → tst bs t c' < t) → TS B bs t c2 I' → FrT B I I' → ∃ n I2, f_23_134 K kf (d + 4) (f_23_34 K kf (d + 4)) (B + 3) (B + 1) (it t) (it t) (it at') (it u) (it (bs at')) w I' J = some (none, w, I2, J) ∧ n ≤ 240 ∧ TS B bs t (n + 1) I2 ∧ FrT B I I2 ∧ tst bs t n = t ∧ ∀ c', c' < n → tst bs t c' < t := by
            intro c2 I' k1 k2 k3 k4 k5
            unfold f_23_134 f_23_137
            simp only [it_lit, lt_p, it_add]
            obtain ⟨n, I2, g1, g2, g3, g4, g5, g6⟩ := ih m' (by omega) kf (at' + 1) c2 (u + 1) I' (by omega) (by omega) (by omega) k1 k2 k3 k4 (by intro i hi; rw [(FrT_i k5).2]; exact hC i hi) (StO_T k5 hO) (by rw [(FrT_i k5).1]; exact hI)
            exact ⟨n, I2, g1, g2, g3, FrT_t k5 g4, g5, g6⟩
          have hv256 := (hI at' (by omega)).1
          by_cases h32 : bs at' = 32
          · rw [if_pos (Or.inl h32)] at hs
            rw [if_pos (by rw [h32]; rfl)]
            exact step c I (by omega) hs hb hT FrT_r
          · rw [if_neg (fun q => by have := (it_eq (by omega) (by omega) (by omega) (by omega)).mp q; omega)]
            by_cases h10 : bs at' = 10
            · rw [if_pos (Or.inr h10)] at hs
              rw [if_pos (by rw [h10]; rfl)]
              exact step c I (by omega) hs hb hT FrT_r
            · rw [if_neg (fun q => by have := (it_eq (by omega) (by omega) (by omega) (by omega)).mp q; omega)]
              rw [if_neg (by unfold isW; omega)] at hs
              obtain ⟨a, v, k1, k2, k3, k4, k5, k6⟩ := hO.1 1 (by omega)
              rw [k1]
              simp only [kR]
              rw [gC_e (isS_i (i := 1) (by omega) k1), ch65 ⟨bs at', (hI at' (by omega)).1⟩]
              obtain ⟨r, r1, r2, r3, r4⟩ := s_30 (K := K) (d := d) (J := J) (x := bs at') (Or.inl rfl) hO.2.2.2 k1 k4 k5 k6 (hI at' (by omega)).1
              rw [r1]
              simp only [cI_e]
              have hkd : tkd bs t c = if bs at' ∈ sgs then bs at' else 3 := by
                unfold tkd kdo
                rw [← hs, if_neg (by omega), if_neg hl, if_neg hd]
              have hvl : tvl bs t c = 0 := by
                unfold tvl vlo
                rw [← hs, if_neg (by omega), if_neg hl, if_neg hd]
              have hxe : lxe bs t at' = at' + 1 := by unfold lxe; rw [if_neg (by omega), if_neg hl, if_neg hd]
              have hnx : wsk bs m' (at' + 1) = tst bs t (c + 1) := by rw [tst, ← hs, hxe]; congr 1; omega
              have hb2 : ∀ c', c' < c + 1 → tst bs t c' < t := fun c' h => by
                by_cases e : c' = c
                · subst e; omega
                · exact hb c' (by omega)
              by_cases hr0 : 0 ≤ r
              · rw [if_neg (fun q => by have := (it_lt (by omega) (by omega) (by omega) (by omega)).mp q; omega)]
                unfold f_23_128
                simp only [it_lit, gO_e (yt3 H)]
                obtain ⟨I', e1, e2, e3⟩ := s_26 (K := K) (d := d + 3) (J := J) (k := it (bs at')) (p := it at') (v := it 0) H hT (by omega) (by rw [hkd, if_pos (show bs at' ∈ sgs from r4.mp hr0)]) (by rw [← hs]) (by rw [hvl]; rfl)
                rw [e1]
                simp only [cV_e]
                exact step (c + 1) I' (by omega) hnx hb2 e2 e3
              · rw [if_pos ((it_lt (by omega) (by omega) (by omega) (by omega)).mpr (by omega))]
                unfold f_23_128
                simp only [it_lit, gO_e (yt3 H)]
                obtain ⟨I', e1, e2, e3⟩ := s_26 (K := K) (d := d + 3) (J := J) (k := it 3) (p := it at') (v := it 0) H hT (by omega) (by rw [hkd, if_neg (show ¬ bs at' ∈ sgs from fun q => hr0 (r4.mpr q))]; rfl) (by rw [← hs]) (by rw [hvl]; rfl)
                rw [e1]
                simp only [cV_e]
                exact step (c + 1) I' (by omega) hnx hb2 e2 e3
theorem s_23 (H : Lay B w) (ht : t ≤ 240) (hC : rCo B I) (hO : StO K B w I) (hI : ∀ i, i < t → bs i < 256 ∧ I (B + 1) i = it (bs i)) : ∃ n I', Cl K (d + 5) 23 [.ref (B + 3), .ref (B + 1), .int (it t)] w I J = some (none, w, I', J) ∧ n ≤ 240 ∧ TS B bs t (n + 1) I' ∧ (∀ a, ¬ a = B + 3 → ¬ a = B + 4 → ¬ a = B + 5 → ¬ a = B + 6 → I' a = I a) ∧ I' (B + 3) 5 = it 0 ∧ I' (B + 3) 6 = it 0 ∧ tst bs t n = t ∧ ∀ c', c' < n → tst bs t c' < t := by
  obtain ⟨n, I', g1, g2, g3, g4, g5, g6⟩ := l_23 (K := K) (d := d) (J := J) H ht t (t + 1) 0 0 0 (sm_up2 (sm_up2 (sm_up2 I (B + 3) 4 (it 0)) (B + 3) 5 (it 0)) (B + 3) 6 (it 0)) (by omega) (by omega) (by omega) (by omega) rfl (fun c' h => by omega) ⟨by rw [up2_r, up1_n (by omega), up2_r, up1_n (by omega), up2_r, up1_s]; rfl, fun c h => by omega⟩ (by
    intro i hi
    rw [up2_n (by omega), up2_n (by omega), up2_n (by omega)]
    exact hC i hi) (StO_c (fun a ha => ⟨by rw [up2_n (by omega), up2_n (by omega), up2_n (by omega)], rfl, rfl⟩) hO) (by
    rw [up2_n (by omega), up2_n (by omega), up2_n (by omega)]
    exact hI)
  refine ⟨n, I', ?_, g2, g3, fun a a1 a2 a3 a4 => ?_, ?_, ?_, g5, g6⟩
  · apply cl_23 (k := t + 1)
    unfold f_23
    simp only [it_lit, lt_p, gO_e (yt3 H)]
    rw [gL_e (yt1 H) (by omega), it_nat, if_neg (show ¬ it 240 < it ((240 : Nat) : Int) by decide)]
    by_cases e : t = 240
    · subst e
      rw [if_neg (by decide)]
      exact g1
    · rw [if_neg (fun q => by have := (it_lt (by omega) (by omega) (by omega) (by omega)).mp q; omega)]
      exact g1
  · rw [g4.1 a a1 a2 a3 a4, up2_n a1, up2_n a1, up2_n a1]
  · rw [g4.2.1, up2_r, up1_n (by omega), up2_r, up1_s]
  · rw [g4.2.2, up2_r, up1_s]
end SCAN

/-! the end of a call, each side -/
section CAL
variable {K : Nat → Value} {B d a : Nat} {w : aW} {I : aI} {J : aJ} {f : Nat}
theorem m_87 {l1 l2 l4 l5 : Int32} {q : Nat} (H : Lay B w) (f4 : f ≤ 4) : ∀ (m kf : Nat), m ≤ f + 1 → m < kf → ∃ (z : Int) (k' : Nat), -1 ≤ z ∧ z < m ∧ kf ≤ k' + 1 + m ∧ f_113_87 K kf d (B + 46) l1 l2 q l4 l5 (it ((m : Int) - 1)) w I J = f_113_109 K k' d (B + 46) l1 l2 q l4 l5 (it z) w I J ∧ ∀ (ln : Nat → Nat) (l : Nat), (∀ g, g ≤ f → ln g < 26 ∧ I (B + 49) g = it (97 + ln g : Nat)) → l < 26 → l1 = it (97 + l : Nat) → (0 ≤ z → ln z.toNat = l) ∧ ∀ g : Nat, z < g → g < m → ¬ ln g = l := by
  intro m
  induction m with
  | zero =>
    intro kf h1 h2
    obtain ⟨kf, rfl⟩ : ∃ k', kf = k' + 1 := ⟨kf - 1, by omega⟩
    refine ⟨-1, kf, by omega, by omega, by omega, ?_, fun ln l _ _ _ => ⟨fun z => by omega, fun g h1 h2 => by omega⟩⟩
    rw [f_113_87]
    simp only [it_lit, lt_p]
    rw [if_pos ((it_lt (by omega) (by omega) (by omega) (by omega)).mpr (by omega))]
    rfl
  | succ m ih =>
    intro kf h1 h2
    obtain ⟨kf, rfl⟩ : ∃ k', kf = k' + 1 := ⟨kf - 1, by omega⟩
    have e : f_113_87 K (kf + 1) d (B + 46) l1 l2 q l4 l5 (it (((m + 1 : Nat) : Int) - 1)) w I J = if I (B + 49) m = l1 then f_113_109 K kf d (B + 46) l1 l2 q l4 l5 (it m) w I J else f_113_87 K kf d (B + 46) l1 l2 q l4 l5 (it ((m : Int) - 1)) w I J := by
      rw [f_113_87]
      simp only [it_lit, lt_p, gO_e (yt46 H), gV_e (yp46_6 H)]
      rw [show (((m + 1 : Nat) : Int) - 1) = (m : Int) by omega, if_neg (fun q => by have := (it_lt (by omega) (by omega) (by omega) (by omega)).mp q; omega), gA_e (yt49 H) (Or.inl rfl) (ix (by omega) (by omega) (by omega)), it_n (by omega)]
      simp only [it_neg, it_add]
      rfl
    by_cases h : I (B + 49) m = l1
    · refine ⟨m, kf, by omega, by omega, by omega, by rw [e, if_pos h], fun ln l hl l26 hl1 => ⟨fun _ => ?_, fun g g1 g2 => by omega⟩⟩
      have h3 := hl m (by omega)
      rw [h, hl1] at h3
      have := it_inj (by omega) (by omega) h3.2
      rw [Int.toNat_natCast]
      omega
    · obtain ⟨z, k', z1, z2, z3, z4, z5⟩ := ih kf (by omega) (by omega)
      refine ⟨z, k', z1, by omega, by omega, by rw [e, if_neg h, z4], fun ln l hl l26 hl1 => ⟨(z5 ln l hl l26 hl1).1, fun g g1 g2 => ?_⟩⟩
      by_cases eg : g = m
      · subst eg
        intro q
        have h3 := (hl g (by omega)).2
        rw [q] at h3
        exact h (h3.trans hl1.symm)
      · exact (z5 ln l hl l26 hl1).2 g g1 (by omega)
theorem m_109 {l1 l2 l4 l5 : Int32} {q k : Nat} {z : Int} {I1 : aI} (H : Lay B w) (z1 : -1 ≤ z) (z2 : z ≤ 4) (g : Prop) [Decidable g] (hg : g ↔ 0 ≤ z ∧ l4 = I (B + 51) z.toNat) (h92 : Cl K d 92 [.ref (B + 46), .int (it (if g then 1 else 0)), .int l2] w I J = some (none, w, I1, J)) : f_113_109 K k d (B + 46) l1 l2 q l4 l5 (it z) w I J = if 0 ≤ z then f_113_149 K k d (B + 46) l1 l2 q l4 l5 (it z) (it 1) (it 0) w I1 J else some (some (.int (it 0)), w, I1, J) := by
  have t132 : ∀ x : Int32, x = it (if g then 1 else 0) → f_113_132 K k d (B + 46) l1 l2 q l4 l5 (it z) (B + 46) x w I J = if 0 ≤ z then f_113_149 K k d (B + 46) l1 l2 q l4 l5 (it z) (it 1) (it 0) w I1 J else some (some (.int (it 0)), w, I1, J) := by
    intro x hx
    subst hx
    unfold f_113_132
    simp only [it_lit, gO_e (yt46 H)]
    rw [h92]
    simp only [cV_e]
    by_cases e : 0 ≤ z
    · rw [if_pos ((it_le (by omega) (by omega) (by omega) (by omega)).mpr (by omega)), if_pos e]
    · rw [if_neg (fun q => by have := (it_le (by omega) (by omega) (by omega) (by omega)).mp q; omega), if_neg e]
  unfold f_113_109
  simp only [it_lit, gO_e (yt46 H), gV_e (yp46_8 H)]
  by_cases e : z < 0
  · rw [if_pos ((it_lt (by omega) (by omega) (by omega) (by omega)).mpr (by omega))]
    unfold f_113_131
    simp only [it_lit]
    exact t132 _ (by rw [if_neg (fun y => by have := (hg.mp y).1; omega)])
  · rw [if_neg (fun q => by have := (it_lt (by omega) (by omega) (by omega) (by omega)).mp q; omega), gA_e (yt51 H) (Or.inl rfl) (ix (by omega) (by omega) (by omega)), it_cl (by omega) (by omega)]
    by_cases e2 : l4 = I (B + 51) z.toNat
    · rw [if_neg (fun y => y e2)]
      exact t132 _ (by rw [if_pos (hg.mpr ⟨by omega, e2⟩)])
    · rw [if_pos e2]
      unfold f_113_131
      simp only [it_lit]
      exact t132 _ (by rw [if_neg (fun y => e2 (hg.mp y).2)])
theorem m_225 {l1 l2 l4 l5 l7 l8 : Int32} {q k z : Nat} {I1 I2 : aI} (H : Lay B w) (z4 : z ≤ 4) (h1 : Cl K d 110 [.ref (B + 46), .int l7, .int l2] w I J = some (none, w, I1, J)) (h2 : Cl K d 111 [.ref (B + 46), .int (it 4), .int (it z)] w I1 J = some (none, w, I2, J)) : f_113_225 K k d (B + 46) l1 l2 q l4 l5 (it z) l7 l8 w I J = some (some (.int (I2 (B + 53) z)), w, I2, J) := by
  unfold f_113_225
  simp only [it_lit, gO_e (yt46 H)]
  rw [h1]
  simp only [cV_e, gO_e (yt46 H)]
  rw [h2]
  simp only [cV_e, gO_e (yt46 H), gV_e (yp46_10 H)]
  rw [gA_e (yt53 H) (Or.inl rfl) (ix (by omega) (by omega) (by omega)), it_n (by omega)]
theorem m_149 {l1 l2 l5 : Int32} {q z nn : Nat} (H : Lay B w) (hq : w.1 q = some (10, 6)) (z4 : z ≤ 4) (n240 : nn ≤ 240) : ∀ (m i kf : Nat) (gb : Bool), i + m = 6 → m < kf → ∃ gb' : Bool, (∀ {I1 I2 : aI}, Cl K d 110 [.ref (B + 46), .int (it (if gb' = true then 1 else 0)), .int l2] w I J = some (none, w, I1, J) → Cl K d 111 [.ref (B + 46), .int (it 4), .int (it z)] w I1 J = some (none, w, I2, J) → f_113_149 K kf d (B + 46) l1 l2 q (it nn) l5 (it z) (it (if gb = true then 1 else 0)) (it i) w I J = some (some (.int (I2 (B + 53) z)), w, I2, J)) ∧ ∀ pz mz : Nat, I (B + 51) z = it pz → I (B + 52) z = it mz → pz ≤ mz → mz ≤ 6 → nn = pz → (gb' = true ↔ gb = true ∧ ∀ k, i ≤ k → k < nn → I q k = I (B + 55) (6 * z + k)) := by
  intro m
  induction m with
  | zero =>
    intro i kf gb h1 h2
    obtain ⟨kf, rfl⟩ : ∃ k', kf = k' + 1 := ⟨kf - 1, by omega⟩
    refine ⟨gb, fun {I1 I2} e1 e2 => ?_, fun pz mz _ _ p1 p2 p3 => ⟨fun y => ⟨y, fun k k1 k2 => by omega⟩, fun y => y.1⟩⟩
    have e := m_225 (l1 := l1) (l4 := it nn) (l5 := l5) (l8 := it (i : Nat)) (q := q) (k := kf) H z4 e1 e2
    rw [f_113_149]
    simp only [it_lit, lt_p, gO_e (yt46 H), gV_e (yp46_9 H)]
    by_cases y : nn ≤ i
    · rw [if_pos ((it_le (by omega) (by omega) (by omega) (by omega)).mpr (by omega))]; exact e
    · rw [if_neg (fun q => by have := (it_le (by omega) (by omega) (by omega) (by omega)).mp q; omega), gA_e (yt52 H) (Or.inl rfl) (ix (by omega) (by omega) (by omega)), it_n (by omega)]
      by_cases y2 : I (B + 52) z ≤ it i
      · rw [if_pos y2]; exact e
      · rw [if_neg y2, if_pos ((it_le (by omega) (by omega) (by omega) (by omega)).mpr (by omega))]; exact e
  | succ m ih =>
    intro i kf gb h1 h2
    obtain ⟨kf, rfl⟩ : ∃ k', kf = k' + 1 := ⟨kf - 1, by omega⟩
    by_cases y : nn ≤ i
    · refine ⟨gb, fun {I1 I2} e1 e2 => ?_, fun pz mz _ _ p1 p2 p3 => ⟨fun y => ⟨y, fun k k1 k2 => by omega⟩, fun y => y.1⟩⟩
      have e := m_225 (l1 := l1) (l4 := it nn) (l5 := l5) (l8 := it (i : Nat)) (q := q) (k := kf) H z4 e1 e2
      rw [f_113_149]
      simp only [it_lit, lt_p]
      rw [if_pos ((it_le (by omega) (by omega) (by omega) (by omega)).mpr (by omega))]; exact e
    · by_cases y2 : I (B + 52) z ≤ it i
      · refine ⟨gb, fun {I1 I2} e1 e2 => ?_, fun pz mz q1 q2 p1 p2 p3 => ?_⟩
        · have e := m_225 (l1 := l1) (l4 := it nn) (l5 := l5) (l8 := it (i : Nat)) (q := q) (k := kf) H z4 e1 e2
          rw [f_113_149]
          simp only [it_lit, lt_p, gO_e (yt46 H), gV_e (yp46_9 H)]
          rw [if_neg (fun q => by have := (it_le (by omega) (by omega) (by omega) (by omega)).mp q; omega), gA_e (yt52 H) (Or.inl rfl) (ix (by omega) (by omega) (by omega)), it_n (by omega), if_pos y2]; exact e
        · rw [q2] at y2
          have := (it_le (by omega) (by omega) (by omega) (by omega)).mp y2
          omega
      · have run : ∀ gb2 : Bool, gb2 = (gb && decide (I (B + 51) z ≤ it i ∨ I q i = I (B + 55) (6 * z + i))) → f_113_149 K (kf + 1) d (B + 46) l1 l2 q (it nn) l5 (it z) (it (if gb = true then 1 else 0)) (it i) w I J = f_113_149 K kf d (B + 46) l1 l2 q (it nn) l5 (it z) (it (if gb2 = true then 1 else 0)) (it ((i + 1 : Nat) : Int)) w I J := by
          intro gb2 hg
          rw [f_113_149]
          simp only [it_lit, lt_p, gO_e (yt46 H), gV_e (yp46_9 H), gV_e (yp46_8 H), gV_e (yp46_12 H)]
          rw [if_neg (fun q => by have := (it_le (by omega) (by omega) (by omega) (by omega)).mp q; omega), gA_e (yt52 H) (Or.inl rfl) (ix (by omega) (by omega) (by omega)), it_n (by omega), if_neg y2, if_neg (fun q => by have := (it_le (by omega) (by omega) (by omega) (by omega)).mp q; omega)]
          cases gb with
          | false =>
            subst hg
            rw [if_pos (show it (if false = true then 1 else 0) = it 0 from rfl)]
            unfold f_113_216 f_113_217
            simp only [it_lit, lt_p, it_add]
            rfl
          | true =>
            rw [if_neg (show ¬ it (if true = true then 1 else 0) = it 0 from by decide), gA_e (yt51 H) (Or.inl rfl) (ix (by omega) (by omega) (by omega))]
            by_cases y3 : I (B + 51) z ≤ it i
            · have : gb2 = true := by rw [hg]; simp [y3]
              subst this
              rw [if_pos y3]
              unfold f_113_212 f_113_217
              simp only [it_lit, lt_p, it_add]
              rfl
            · rw [if_neg y3, gA_e hq (Or.inl rfl) (ix (by omega) (by omega) (by omega)), it_n (by omega)]
              simp only [it_mul, it_add]
              rw [gA_e (yt55 H) (Or.inl rfl) (ix (by omega) (by omega) (by omega)), it_cl (a := 6 * (z : Int) + i) (by omega) (by omega), show (6 * (z : Int) + i).toNat = 6 * z + i by omega]
              by_cases y4 : I q i = I (B + 55) (6 * z + i)
              · have : gb2 = true := by rw [hg]; simp [y4]
                subst this
                rw [if_neg (fun t => t y4)]
                unfold f_113_212 f_113_217
                simp only [it_lit, lt_p, it_add]
                rfl
              · have : gb2 = false := by rw [hg]; simp [y3, y4]
                subst this
                rw [if_pos y4]
                unfold f_113_216 f_113_217
                simp only [it_lit, lt_p, it_add]
                rfl
        obtain ⟨gb', g1, g2⟩ := ih (i + 1) kf (gb && decide (I (B + 51) z ≤ it i ∨ I q i = I (B + 55) (6 * z + i))) (by omega) (by omega)
        refine ⟨gb', fun {I1 I2} e1 e2 => by rw [run _ rfl]; exact g1 e1 e2, fun pz mz q1 q2 p1 p2 p3 => (g2 pz mz q1 q2 p1 p2 p3).trans ?_⟩
        have hn : ¬ I (B + 51) z ≤ it i := by rw [q1]; exact (fun q => by have := (it_le (by omega) (by omega) (by omega) (by omega)).mp q; omega)
        rw [Bool.and_eq_true, decide_eq_true_iff]
        constructor
        · rintro ⟨⟨a1, a2⟩, a3⟩
          refine ⟨a1, fun k k1 k2 => ?_⟩
          by_cases ek : k = i
          · subst ek; exact a2.elim (fun t => absurd t hn) id
          · exact a3 k (by omega) k2
        · rintro ⟨a1, a2⟩
          exact ⟨⟨a1, Or.inr (a2 i (by omega) (by omega))⟩, fun k k1 k2 => a2 k (by omega) k2⟩
theorem x_147 {dx kx i : Nat} {sx pl lx x v3 : Int32} {g : Bool} {I1 I2 : aI} {J2 : aJ} (H : Lay B w) (hp : w.2.1 (B + 2) 1 = some a) (hP : PL w a) (h71 : Cl K (dx + 3) 71 [.ref (B + 2), .int x, .int (it i)] w I J = some (some (.int (it (if g = true then 1 else 0))), w, I, J)) (h68 : Cl K (dx + 3) 68 [.ref (B + 2), .int (it (if g = true then 1 else 0)), .int pl] w I J = some (none, w, I1, J)) (h52 : Cl K (dx + 3) 52 [.ref a, .int x, .int (it ((3 : Nat) : Int))] w I1 J = some (some (.int v3), w, I1, J)) (h58 : Cl K (dx + 3) 58 [.ref (B + 2), .int (it ((4 : Nat) : Int)), .int x, .int (it i), .int v3] w I1 J = some (none, w, I2, J2)) : f_69_147 K kx (dx + 3) (B + 2) sx pl lx (it i) x w I J = some (none, w, I2, J2) := by
  unfold f_69_147
  simp only [it_lit, gO_e (yt2 H), gV_e hp, gO_e hP.1]
  rw [h71]
  simp only [cI_e, gO_e (yt2 H)]
  rw [h68]
  simp only [cV_e, gO_e (yt2 H), gV_e hp, gO_e hP.1]
  have h52' : Cl K (dx + 3) 52 [.ref a, .int x, .int (it 3)] w I1 J = some (some (.int v3), w, I1, J) := h52
  rw [h52']
  simp only [cI_e, gO_e (yt2 H)]
  have h58' : Cl K (dx + 3) 58 [.ref (B + 2), .int (it 4), .int x, .int (it i), .int v3] w I1 J = some (none, w, I2, J2) := h58
  rw [h58']
  rfl
theorem x_106 {dx kx i l : Nat} {sx pl v1 : Int32} {I1 I2 : aI} {R : aR} (H : Lay B w) (hp : w.2.1 (B + 2) 1 = some a) (hP : PL w a) (hl : l < 26) (h41 : Cl K (dx + 3) 41 [.ref (B + 3), .int (it 41)] w I J = some (none, w, I1, J)) (h52 : Cl K (dx + 3) 52 [.ref a, .int (I1 (B + 15) l), .int (it ((1 : Nat) : Int))] w I1 J = some (some (.int v1), w, I1, J)) (h48 : (¬ I1 (B + 15) l < it 0 ∧ it i = v1 ∧ I2 = I1) ∨ ((I1 (B + 15) l < it 0 ∨ ¬ it i = v1) ∧ Cl K (dx + 3) 48 [.ref (B + 2), .int pl] w I1 J = some (none, w, I2, J))) (h : f_69_147 K kx (dx + 3) (B + 2) sx pl (it l) (it i) (I1 (B + 15) l) w I2 J = some R) : f_69_106 K kx (dx + 3) (B + 2) sx pl (it l) (it i) w I J = some R := by
  have h52' : Cl K (dx + 3) 52 [.ref a, .int (I1 (B + 15) l), .int (it 1)] w I1 J = some (some (.int v1), w, I1, J) := h52
  unfold f_69_106
  simp only [it_lit, gO_e (yt2 H), gV_e (yp2_0 H), gO_e (yt3 H), gV_e hp, gO_e hP.1]
  rw [h41]
  simp only [cV_e, gO_e (yt2 H)]
  rw [s_47 (d := dx + 2) H hl]
  simp only [cI_e, gO_e (yt2 H), gV_e hp, gO_e hP.1]
  rcases h48 with ⟨e1, e2, e3⟩ | ⟨e1, e2⟩
  · subst e3
    rw [if_neg e1, h52']
    simp only [cI_e]
    rw [if_pos e2]
    exact h
  · have t142 : f_69_142 K kx (dx + 3) (B + 2) sx pl (it l) (it i) (I1 (B + 15) l) w I1 J = some R := by
      unfold f_69_142
      simp only [gO_e (yt2 H)]
      rw [e2]
      exact h
    by_cases e3 : I1 (B + 15) l < it 0
    · rw [if_pos e3]
      exact t142
    · rw [if_neg e3, h52']
      simp only [cI_e]
      rw [if_neg (e1.elim (fun t => absurd t e3) id)]
      exact t142
end CAL

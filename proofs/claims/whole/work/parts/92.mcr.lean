/-! calls and ends: typed, and alike -/
section MCR
variable {N F : Nat} {fa : Nat → Nat → Nat} {oc ar : Nat → Nat} {sh : Nat → List Nat} {rc : Nat → Bool} {n n' c : Nat → Int32} {hi pr j f p p' b h t g : Nat} {v : Int32}
theorem gPar_len (fa : Nat → Nat → Nat) (g : Nat) : ∀ k, (gPar fa g k).length = k := by
  intro k
  induction k with
  | zero => rfl
  | succ k ih => show (gPar fa g k).length + 1 = k + 1; rw [ih]
theorem gPar_get (fa : Nat → Nat → Nat) (g : Nat) : ∀ k i, i < k → (gPar fa g k).getD i 0 = fa g (4 + (k - 1 - i)) := by
  intro k
  induction k with
  | zero => intro i hi; omega
  | succ k ih =>
    intro i hi
    cases i with
    | zero => rfl
    | succ i =>
      show (gPar fa g k).getD i 0 = _
      rw [ih i (by omega)]
      congr 2
      omega
/-- the reference's cells behind a call -/
theorem wMV_ap {fr pa hi : Nat} {n : Nat → Int32} : ∀ (k v : Nat) (n' : Nat → Int32), (∀ u, u < k → ap (wMV fr pa hi n k v) n' (72 + 8 * fr + v + u) = if v + u < pa then n (10 + hi - (pa - (v + u))) else it 0) ∧ ∀ i, (i < 72 + 8 * fr + v ∨ 72 + 8 * fr + v + k ≤ i) → ap (wMV fr pa hi n k v) n' i = n' i := by
  intro k
  induction k with
  | zero => intro v n'; exact ⟨fun u hu => by omega, fun i _ => rfl⟩
  | succ k ih =>
    intro v n'
    obtain ⟨h1, h2⟩ := ih (v + 1) (sm_up1 n' (72 + 8 * fr + v) (if v < pa then n (10 + hi - (pa - v)) else it 0))
    refine ⟨fun u hu => ?_, fun i hi' => ?_⟩
    · show ap (wMV fr pa hi n k (v + 1)) (sm_up1 n' (72 + 8 * fr + v) (if v < pa then n (10 + hi - (pa - v)) else it 0)) _ = _
      cases u with
      | zero => rw [h2 _ (by omega), Nat.add_zero, Nat.add_zero, up1_s]
      | succ u =>
        have := h1 u (by omega)
        rw [show 72 + 8 * fr + (v + 1) + u = 72 + 8 * fr + v + (u + 1) by omega, show v + 1 + u = v + (u + 1) by omega] at this
        exact this
    · show ap (wMV fr pa hi n k (v + 1)) (sm_up1 n' (72 + 8 * fr + v) (if v < pa then n (10 + hi - (pa - v)) else it 0)) _ = _
      rw [h2 _ (by omega), up1_n (by omega)]
/-- the class's cells behind a call -/
theorem wV_ap {fr pa b : Nat} {c : Nat → Int32} : ∀ (k v : Nat) (c' : Nat → Int32), (∀ u, u < k → ap (wV fr pa b c k v) c' (89 + 8 * fr + v + u) = if v + u < pa then c (7 + b + (v + u)) else it 0) ∧ ∀ i, (i < 89 + 8 * fr + v ∨ 89 + 8 * fr + v + k ≤ i) → ap (wV fr pa b c k v) c' i = c' i := by
  intro k
  induction k with
  | zero => intro v c'; exact ⟨fun u hu => by omega, fun i _ => rfl⟩
  | succ k ih =>
    intro v c'
    obtain ⟨h1, h2⟩ := ih (v + 1) (sm_up1 c' (89 + 8 * fr + v) (if v < pa then c (7 + b + v) else it 0))
    refine ⟨fun u hu => ?_, fun i hi' => ?_⟩
    · show ap (wV fr pa b c k (v + 1)) (sm_up1 c' (89 + 8 * fr + v) (if v < pa then c (7 + b + v) else it 0)) _ = _
      cases u with
      | zero => rw [h2 _ (by omega), Nat.add_zero, Nat.add_zero, up1_s]
      | succ u =>
        have := h1 u (by omega)
        rw [show 89 + 8 * fr + (v + 1) + u = 89 + 8 * fr + v + (u + 1) by omega, show v + 1 + u = v + (u + 1) by omega] at this
        exact this
    · show ap (wV fr pa b c k (v + 1)) (sm_up1 c' (89 + 8 * fr + v) (if v < pa then c (7 + b + v) else it 0)) _ = _
      rw [h2 _ (by omega), up1_n (by omega)]
/-- the reference behind a call: cells by cells -/
def nC (n n' : Nat → Int32) (fr pa hi g at0 : Nat) : Prop := n' 1 = it (fr + 1) ∧ n' 2 = it ((hi - pa : Nat) : Int) ∧ n' (70 + 8 * fr) = it g ∧ n' (71 + 8 * fr) = it at0 ∧ (∀ u, u < 6 → n' (72 + 8 * fr + u) = if u < pa then n (10 + hi - (pa - u)) else it 0) ∧ ∀ i, ¬ i = 1 → ¬ i = 2 → (i < 70 + 8 * fr ∨ 78 + 8 * fr ≤ i) → n' i = n i
theorem nC_of {fr pa hi g at0 : Nat} : nC n (ap (wMV fr pa hi n 6 0 ++ [(70 + 8 * fr, it g), (71 + 8 * fr, it at0), (2, it ((hi - pa : Nat) : Int)), (1, it (fr + 1))]) n) fr pa hi g at0 := by
  obtain ⟨h1, h2⟩ := wMV_ap (fr := fr) (pa := pa) (hi := hi) (n := n) 6 0 n
  rw [ap_app]
  refine ⟨?_, ?_, ?_, ?_, fun u hu => ?_, fun i i1 i2 i3 => ?_⟩
  · simp only [ap]; rw [up1_s]
  · simp only [ap]; rw [up1_n (by omega), up1_s]
  · simp only [ap]; rw [up1_n (by omega), up1_n (by omega), up1_n (by omega), up1_s]
  · simp only [ap]; rw [up1_n (by omega), up1_n (by omega), up1_s]
  · have := h1 u hu
    rw [Nat.zero_add, Nat.add_zero] at this
    simp only [ap]; rw [up1_n (by omega), up1_n (by omega), up1_n (by omega), up1_n (by omega)]
    exact this
  · simp only [ap]; rw [up1_n (by omega), up1_n (by omega), up1_n (by omega), up1_n (by omega), h2 _ (by omega)]
def cC (c c' : Nat → Int32) (fr pa cn hi g at0 : Nat) (q : Int32) : Prop := c' 4 = it (fr + 1) ∧ c' 3 = it ((hi - pa : Nat) : Int) ∧ c' (88 + 8 * (fr - 1)) = q ∧ c' (87 + 8 * fr) = it g ∧ c' (88 + 8 * fr) = it at0 ∧ (∀ u, u < cn → c' (89 + 8 * fr + u) = if u < pa then c (7 + (hi - pa) + u) else it 0) ∧ ∀ i, ¬ i = 3 → ¬ i = 4 → ¬ i = 88 + 8 * (fr - 1) → (i < 87 + 8 * fr ∨ 89 + cn + 8 * fr ≤ i) → c' i = c i
theorem cC_of {fr pa cn hi g at0 : Nat} {q : Int32} (f1 : 1 ≤ fr) (h30 : hi ≤ 30) (ph : pa ≤ hi) (pc : pa ≤ cn) : cC c (ap (wD hi fr pa q ++ (87 + 8 * fr, it g) :: (88 + 8 * fr, it at0) :: (wV fr pa (hi - pa) c cn 0 ++ [(4, it (fr + 1))])) c) fr pa cn hi g at0 (q + it 1) := by
  rw [ap_app]
  simp only [ap, ap_app]
  obtain ⟨h1, h2⟩ := wV_ap (fr := fr) (pa := pa) (b := hi - pa) (c := c) cn 0 (sm_up1 (sm_up1 (ap (wD hi fr pa q) c) (87 + 8 * fr) (it g)) (88 + 8 * fr) (it at0))
  refine ⟨?_, ?_, ?_, ?_, ?_, fun u hu => ?_, fun i i1 i2 i3 i4 => ?_⟩
  · rw [up1_s]
  · rw [up1_n (by omega), h2 _ (by omega), up1_n (by omega), up1_n (by omega)]; simp only [wD, ap]; rw [up1_n (by omega), up1_s]
  · rw [up1_n (by omega), h2 _ (by omega), up1_n (by omega), up1_n (by omega)]; simp only [wD, ap]; rw [up1_s]
  · rw [up1_n (by omega), h2 _ (by omega), up1_n (by omega), up1_s]
  · rw [up1_n (by omega), h2 _ (by omega), up1_s]
  · have := h1 u hu
    rw [Nat.zero_add, Nat.add_zero] at this
    rw [up1_n (by omega)]
    exact this
  · rw [up1_n (by omega), h2 _ (by omega), up1_n (by omega), up1_n (by omega)]; simp only [wD, ap]; rw [up1_n (by omega), up1_n (by omega)]
theorem rel_C {c' : Nat → Int32} {pa at0 : Nat} (R : mRel fa c n) (h1 : n 1 = it (j + 1)) (j7 : j + 1 < 8) (h30 : hi ≤ 30) (ph : pa ≤ hi) (hn : nC n n' (j + 1) pa hi g at0) (g5 : g < 5) (cn6 : fa g 2 ≤ 6) (hc : cC c c' (j + 1) pa (fa g 2) hi g at0 (n (71 + 8 * j) + it 1)) : mRel fa c' n' := by
  obtain ⟨n1, n2, n3, n4, n5, n6⟩ := hn
  obtain ⟨c1, c2, c3, c4, c5, c6, c7⟩ := hc
  obtain ⟨r0, r1, r2, r3, r4, r5, r6, r7, r8, r9, r10⟩ := R
  rw [show j + 1 - 1 = j by omega] at c3 c7
  have o1 : (n' 1).toInt = (j : Int) + 2 := by rw [n1, it_toInt (by omega) (by omega)]; omega
  have o0 : (n 1).toInt = (j : Int) + 1 := by rw [h1, it_toInt (by omega) (by omega)]
  have gx : ∀ i, ¬ i = 3 → ¬ i = 4 → ¬ i = 88 + 8 * j → (i < 87 + 8 * (j + 1) ∨ 95 + 8 * (j + 1) ≤ i) → c' i = c i := fun i i1 i2 i3 i4 => c7 i i1 i2 i3 (by omega)
  refine ⟨?_, ?_, ?_, ?_, ?_, ?_, ?_, fun i hi => ⟨?_, ?_⟩, fun i hi => ?_, fun i hi' => ?_, fun o o1 o2 => ?_⟩
  · rw [gx _ (by omega) (by omega) (by omega) (by omega), n6 _ (by omega) (by omega) (by omega)]; exact r0
  · rw [gx _ (by omega) (by omega) (by omega) (by omega), n6 _ (by omega) (by omega) (by omega)]; exact r1
  · rw [gx _ (by omega) (by omega) (by omega) (by omega), n6 _ (by omega) (by omega) (by omega)]; exact r2
  · rw [c2, n2]
  · rw [c1, n1]
  · rw [gx _ (by omega) (by omega) (by omega) (by omega), n6 _ (by omega) (by omega) (by omega)]; exact r5
  · rw [gx _ (by omega) (by omega) (by omega) (by omega), n6 _ (by omega) (by omega) (by omega)]; exact r6
  · rw [gx _ (by omega) (by omega) (by omega) (by omega), n6 _ (by omega) (by omega) (by omega)]; exact (r7 i hi).1
  · rw [gx _ (by omega) (by omega) (by omega) (by omega), n6 _ (by omega) (by omega) (by omega)]; exact (r7 i hi).2
  · rw [gx _ (by omega) (by omega) (by omega) (by omega), n6 _ (by omega) (by omega) (by omega)]; exact r8 i hi
  · rw [o1] at hi' ⊢
    by_cases e : i = j + 1
    · subst e
      refine ⟨by rw [c4, n3], ?_, fun f' v' e1 e2 e3 e4 => ?_⟩
      · rw [if_pos (by omega), c5, n4]
      · have ef : f' = g := it_inj (by omega) (by omega) (e1.symm.trans n3)
        subst ef
        rw [c6 v' e3, n5 v' e4]
        by_cases e5 : v' < pa
        · rw [if_pos e5, if_pos e5]
          have := (r7 (hi - pa + v') (by omega)).1
          rw [show 7 + (hi - pa + v') = 7 + (hi - pa) + v' by omega, show 10 + (hi - pa + v') = 10 + hi - (pa - v') by omega] at this
          exact this
        · rw [if_neg e5, if_neg e5]
    · obtain ⟨s1, s2, s3⟩ := r9 i (by rw [o0]; omega)
      rw [o0] at s2
      refine ⟨by rw [gx _ (by omega) (by omega) (by omega) (by omega), n6 _ (by omega) (by omega) (by omega)]; exact s1, ?_, fun f' v' e1 e2 e3 e4 => ?_⟩
      · rw [if_neg (by omega), n6 _ (by omega) (by omega) (by omega)]
        by_cases e6 : i = j
        · subst e6; exact c3
        · rw [gx _ (by omega) (by omega) (by omega) (by omega), s2, if_neg (by omega)]
      · rw [n6 _ (by omega) (by omega) (by omega)] at e1
        rw [gx _ (by omega) (by omega) (by omega) (by omega), n6 _ (by omega) (by omega) (by omega)]
        exact s3 f' v' e1 e2 e3 e4
  · obtain ⟨s1, s2, s3⟩ := r10 o o1 o2
    have k1 : n' (154 + 12 * o) = n (154 + 12 * o) := n6 _ (by omega) (by omega) (by omega)
    have k2 : n' (155 + 12 * o) = n (155 + 12 * o) := n6 _ (by omega) (by omega) (by omega)
    rw [k1, k2, gx (140 + 11 * o) (by omega) (by omega) (by omega) (by omega), gx (141 + 11 * o) (by omega) (by omega) (by omega) (by omega)]
    refine ⟨s1, fun h => ⟨(s2 h).1, fun i i1 i2 => ?_⟩, fun h => ⟨(s3 h).1, ?_⟩⟩
    · rw [gx _ (by omega) (by omega) (by omega) (by omega), n6 _ (by omega) (by omega) (by omega)]; exact (s2 h).2 i i1 i2
    · rw [gx _ (by omega) (by omega) (by omega) (by omega), n6 _ (by omega) (by omega) (by omega)]; exact (s3 h).2
theorem top_C {r : List Nat} {at0 : Nat} (F5 : F ≤ 5) (g6 : ∀ f, f < F → fa f 2 ≤ 6) (g3 : ∀ f, f < F → ∀ v, v < fa f 2 → fa f (4 + v) ≤ 3) (T : mTop N F fa oc ar sh n hi pr j f p b) (hsh : sh p = gPar fa g (fa g 1) ++ r) (o4 : oc p = 4) (ag : ar p = g) (gF : g < F) (pc : fa g 1 ≤ fa g 2) (ga : fa g 0 = at0) (a200 : at0 < 200) (ae : at0 < gEnd N F fa g) (sa : sh at0 = []) (j7 : j + 1 < 8) (hn : nC n n' (j + 1) (fa g 1) hi g at0) : mTop N F fa oc ar sh n' (hi - fa g 1) pr (j + 1) g at0 (hi - fa g 1) := by
  obtain ⟨a1, a2, a3, a4, a5, a6, a7, a8, a9, a10, a11, a12, a13, a14, a15, a16, a17, a18⟩ := T
  obtain ⟨n1, n2, n3, n4, n5, n6⟩ := hn
  have hl : (sh p).length = fa g 1 + r.length := by rw [hsh, List.length_append, gPar_len]
  have ht := a14.1
  have q6 := g6 g gF
  have kk : kp n n' := fun o o1 o2 => n6 _ (by omega) (by omega) (by omega)
  have hb : ∀ i, i < 30 → n' (40 + i) = n (40 + i) := fun i hi => n6 _ (by omega) (by omega) (by omega)
  refine ⟨n1, j7, n2, by omega, by rw [n6 _ (by omega) (by omega) (by omega)]; exact a5, a6, n3, n4, gF, a200, by omega, ae, by rw [sa]; rfl, ⟨by rw [sa]; exact Nat.zero_le _, fun i hi' => by rw [sa] at hi'; exact absurd hi' (by simp)⟩, ⟨f, p, r, ?_, ?_, a9, a11, a12, o4, ag, hsh, ⟨by omega, fun i hi' => ?_⟩, ?_⟩, fun i hi' => ?_, fun i hi' => ?_, okO_k (fun i hi' => n6 _ (by omega) (by omega) (by omega)) a18⟩
  · rw [n6 _ (by omega) (by omega) (by omega)]; exact a7
  · rw [n6 _ (by omega) (by omega) (by omega)]; exact a8
  · have := a14.2 (fa g 1 + i) (by omega)
    rw [hsh, getD_app (by rw [gPar_len]; omega), gPar_len, show fa g 1 + i - fa g 1 = i by omega, show 39 + hi - (fa g 1 + i) = 39 + (hi - fa g 1) - i by omega] at this
    rw [n6 _ (by omega) (by omega) (by omega)]
    exact this
  · rw [show hi - fa g 1 - r.length = b by omega]
    exact stk_k _ _ _ (fun k k1 k2 => n6 _ (by omega) (by omega) (by omega)) (fun i hi' => hb i (by omega)) a15
  · obtain ⟨t, t1, t2, t3⟩ := a16 i (by omega)
    exact ⟨t, t1, by rw [hb i (by omega)]; exact t2, by rw [n6 _ (by omega) (by omega) (by omega)]; exact okv_k kk t3⟩
  · by_cases e : i = j + 1
    · subst e
      refine ⟨g, at0, gF, a200, n3, n4, fun v hv => ?_⟩
      rw [n5 v (by omega)]
      by_cases hp : v < fa g 1
      · rw [if_pos hp]
        have h1 := a14.2 (fa g 1 - 1 - v) (by omega)
        have hlen : fa g 1 - 1 - v < (gPar fa g (fa g 1)).length := by rw [gPar_len]; omega
        rw [hsh, List.getD_eq_getElem?_getD, List.getElem?_append_left hlen, ← List.getD_eq_getElem?_getD, gPar_get _ _ _ _ (by omega)] at h1
        rw [show fa g 1 - 1 - (fa g 1 - 1 - v) = v by omega] at h1
        obtain ⟨t, t1, t2, t3⟩ := a16 (hi - fa g 1 + v) (by omega)
        rw [show 39 + hi - (fa g 1 - 1 - v) = 40 + (hi - fa g 1 + v) by omega, t2] at h1
        rw [show 10 + hi - (fa g 1 - v) = 10 + (hi - fa g 1 + v) by omega]
        have h4 := g3 g gF v hv
        have := it_inj (by omega) (by omega) h1
        rw [← this]
        exact okv_k kk t3
      · rw [if_neg hp]
        exact Or.inr (Or.inl rfl)
    · obtain ⟨f1, p1, b1, b2, b3, b4, b5⟩ := a17 i (by omega)
      have := g6 f1 b1
      refine ⟨f1, p1, b1, b2, by rw [n6 _ (by omega) (by omega) (by omega)]; exact b3, by rw [n6 _ (by omega) (by omega) (by omega)]; exact b4, fun v hv => ?_⟩
      rw [n6 _ (by omega) (by omega) (by omega)]
      exact okv_k kk (b5 v hv)
/-- an end that goes back to a frame -/
def nE (n : Nat → Int32) (j : Nat) : Nat → Int32 := sm_up1 (sm_up1 n 1 (it ((j : Nat) : Int))) (71 + 8 * (j - 1)) (n (71 + 8 * (j - 1)) + it 1)
theorem nE_of (h2 : n 2 = it hi) (hh : 1 ≤ hi) (h30 : hi ≤ 30) (f1 : 1 ≤ j) (j8 : j < 8) : ap [(2, it ((hi - 1 : Nat) : Int)), (1, it ((j + 1 - 1 : Nat) : Int)), (10 + (hi - 1), n (9 + hi)), (40 + (hi - 1), n (39 + hi)), (2, it ((hi - 1 : Nat) + 1)), (71 + 8 * (j + 1 - 2), n (71 + 8 * (j + 1 - 2)) + it 1)] n = nE n j := by
  funext i
  have e1 : n (9 + hi) = n (10 + (hi - 1)) := congrArg n (by omega)
  have e2 : n (39 + hi) = n (40 + (hi - 1)) := congrArg n (by omega)
  have e3 : it ((hi - 1 : Nat) + 1) = n 2 := by rw [h2]; congr 1; omega
  have e4 : j + 1 - 2 = j - 1 := by omega
  have e5 : j + 1 - 1 = j := by omega
  rw [e1, e2, e3, e4, e5]
  simp only [ap, nE, up1_a]
  by_cases i1 : i = 71 + 8 * (j - 1)
  · rw [if_pos i1, if_pos i1]
  · rw [if_neg i1, if_neg i1]
    by_cases i2 : i = 2
    · subst i2
      rw [if_pos rfl, if_neg (by omega)]
    · rw [if_neg i2]
      by_cases i3 : i = 40 + (hi - 1)
      · subst i3
        rw [if_pos rfl, if_neg (by omega)]
      · rw [if_neg i3]
        by_cases i4 : i = 10 + (hi - 1)
        · subst i4
          rw [if_pos rfl, if_neg (by omega)]
        · rw [if_neg i4, if_neg i2]
theorem rel_E (R : mRel fa c n) (h1 : n 1 = it (j + 1)) (f1 : 1 ≤ j) (j8 : j < 8) : mRel fa (sm_up1 c 4 (it ((j : Nat) : Int))) (nE n j) := by
  obtain ⟨r0, r1, r2, r3, r4, r5, r6, r7, r8, r9, r10⟩ := R
  have u : ∀ k, ¬ k = 1 → ¬ k = 71 + 8 * (j - 1) → nE n j k = n k := fun k k1 k2 => by unfold nE; rw [up1_n k2, up1_n k1]
  have u1 : nE n j 1 = it (j : Int) := by unfold nE; rw [up1_n (by omega), up1_s]
  have o0 : (n 1).toInt = (j : Int) + 1 := by rw [h1, it_toInt (by omega) (by omega)]
  have o1 : (nE n j 1).toInt = (j : Int) := by rw [u1, it_toInt (by omega) (by omega)]
  refine ⟨?_, ?_, ?_, ?_, ?_, ?_, ?_, fun i hi => ⟨?_, ?_⟩, fun i hi => ?_, fun i hi' => ?_, fun o o1 o2 => ?_⟩
  · rw [up1_n (by omega), u _ (by omega) (by omega)]; exact r0
  · rw [up1_n (by omega), u _ (by omega) (by omega)]; exact r1
  · rw [up1_n (by omega), u _ (by omega) (by omega)]; exact r2
  · rw [up1_n (by omega), u _ (by omega) (by omega)]; exact r3
  · rw [up1_s, u1]
  · rw [up1_n (by omega), u _ (by omega) (by omega)]; exact r5
  · rw [up1_n (by omega), u _ (by omega) (by omega)]; exact r6
  · rw [up1_n (by omega), u _ (by omega) (by omega)]; exact (r7 i hi).1
  · rw [up1_n (by omega), u _ (by omega) (by omega)]; exact (r7 i hi).2
  · rw [up1_n (by omega), u _ (by omega) (by omega)]; exact r8 i hi
  · rw [o1] at hi' ⊢
    obtain ⟨s1, s2, s3⟩ := r9 i (by rw [o0]; omega)
    rw [o0, if_neg (by omega)] at s2
    refine ⟨by rw [up1_n (by omega), u _ (by omega) (by omega)]; exact s1, ?_, fun f' v' e1 e2 e3 e4 => ?_⟩
    · rw [up1_n (by omega), s2]
      by_cases e : i = j - 1
      · subst e
        rw [if_pos (by omega)]
        unfold nE
        rw [up1_s]
        rfl
      · rw [if_neg (by omega), u _ (by omega) (by omega)]
    · rw [u _ (by omega) (by omega)] at e1
      rw [up1_n (by omega), u _ (by omega) (by omega)]
      exact s3 f' v' e1 e2 e3 e4
  · obtain ⟨s1, s2, s3⟩ := r10 o o1 o2
    rw [u (154 + 12 * o) (by omega) (by omega), u (155 + 12 * o) (by omega) (by omega), up1_n (j := 140 + 11 * o) (by omega), up1_n (j := 141 + 11 * o) (by omega)]
    refine ⟨s1, fun h => ⟨(s2 h).1, fun i i1 i2 => ?_⟩, fun h => ⟨(s3 h).1, ?_⟩⟩
    · rw [up1_n (by omega), u _ (by omega) (by omega)]; exact (s2 h).2 i i1 i2
    · rw [up1_n (by omega), u _ (by omega) (by omega)]; exact (s3 h).2
theorem top_E (F5 : F ≤ 5) (N200 : N ≤ 200) (g6 : ∀ f, f < F → fa f 2 ≤ 6) (gE : ∀ f, f < F → gEnd N F fa f ≤ N) (hC : ∀ f p r g, f < F → fa f 0 ≤ p → p < gEnd N F fa f → oc p = 4 → ar p = g → sh p = gPar fa g (fa g 1) ++ r → p + 1 < gEnd N F fa f ∧ sh (p + 1) = fa g 3 :: r) (T : mTop N F fa oc ar sh n hi pr j f p b) (hsh : sh p = [fa f 3]) (f1 : 1 ≤ j) : ∃ f' p' b', mTop N F fa oc ar sh (nE n j) hi pr (j - 1) f' p' b' := by
  obtain ⟨a1, a2, a3, a4, a5, a6, a7, a8, a9, a10, a11, a12, a13, a14, a15, a16, a17, a18⟩ := T
  obtain ⟨i, rfl⟩ : ∃ i, j = i + 1 := ⟨j - 1, by omega⟩
  obtain ⟨f', p', r, b1, b2, b3, b4, b5, b6, b7, b8, b9, b10⟩ := a15
  obtain ⟨c1, c2⟩ := hC f' p' r f b3 b4 b5 b6 b7 b8
  have hgE := gE f' b3
  have hl : (sh p).length = 1 := by rw [hsh]; rfl
  have u : ∀ k, ¬ k = 1 → ¬ k = 71 + 8 * i → nE n (i + 1) k = n k := fun k k1 k2 => by unfold nE; rw [show i + 1 - 1 = i by omega, up1_n k2, up1_n k1]
  have u1 : nE n (i + 1) 1 = it ((i + 1 : Nat) : Int) := by unfold nE; rw [up1_n (by omega), up1_s]
  have u2 : nE n (i + 1) (71 + 8 * i) = it ((p' + 1 : Nat) : Int) := by unfold nE; rw [show i + 1 - 1 = i by omega, up1_s, b2, it_add]; rfl
  have kk : kp n (nE n (i + 1)) := fun o o1 o2 => u _ (by omega) (by omega)
  have hb9 := b9.1
  refine ⟨f', p' + 1, b - r.length, by rw [u1]; rfl, by omega, by rw [u _ (by omega) (by omega)]; exact a3, a4, by rw [u _ (by omega) (by omega)]; exact a5, a6, ?_, ?_, b3, by omega, by omega, c1, ?_, ⟨?_, fun k hk => ?_⟩, ?_, fun k hk => ?_, fun k hk => ?_, okO_k (fun k hk => u _ (by omega) (by omega)) a18⟩
  · rw [show i + 1 - 1 = i by omega, u _ (by omega) (by omega)]; exact b1
  · rw [show i + 1 - 1 = i by omega]; exact u2
  · rw [c2, List.length_cons]; omega
  · rw [c2, List.length_cons]; omega
  · rw [c2, List.length_cons] at hk
    rw [u _ (by omega) (by omega), c2]
    cases k with
    | zero =>
      have := a14.2 0 (by omega)
      rw [hsh] at this
      exact this
    | succ k =>
      have := b9.2 k (by omega)
      rw [show 39 + b - k = 39 + hi - (k + 1) by omega] at this
      exact this
  · rw [show i + 1 - 1 = i by omega]
    exact stk_k _ _ _ (fun k k1 k2 => u _ (by omega) (by omega)) (fun k hk => u _ (by omega) (by omega)) b10
  · obtain ⟨t, t1, t2, t3⟩ := a16 k hk
    exact ⟨t, t1, by rw [u _ (by omega) (by omega)]; exact t2, by rw [u _ (by omega) (by omega)]; exact okv_k kk t3⟩
  · obtain ⟨f1', p1, d1, d2, d3, d4, d5⟩ := a17 k (by omega)
    have := g6 f1' d1
    have hv : ∀ v, v < fa f1' 2 → okv (nE n (i + 1)) (fa f1' (4 + v)) (nE n (i + 1) (72 + 8 * k + v)) := fun v hv => by rw [u _ (by omega) (by omega)]; exact okv_k kk (d5 v hv)
    by_cases e : k = i
    · subst e
      exact ⟨f1', p' + 1, d1, by omega, by rw [u _ (by omega) (by omega)]; exact d3, u2, hv⟩
    · exact ⟨f1', p1, d1, d2, by rw [u _ (by omega) (by omega)]; exact d3, by rw [u _ (by omega) (by omega)]; exact d4, hv⟩
/-- the end of all -/
theorem end_R (R : mRel fa c n) (h1 : n 1 = it 1) : mRel fa (ap [(4, it 0), (6, v), (3, it ((h : Nat) : Int)), (0, it 1)] c) (ap [(2, it ((h : Nat) : Int)), (1, it 0), (6, v), (0, it 1)] n) := by
  have R1 := e_0 (v := it 1) (e_3 (v := it ((h : Nat) : Int)) (e_6 (v := v) R))
  have e1 : ap [(4, it 0), (6, v), (3, it ((h : Nat) : Int)), (0, it 1)] c = sm_up1 (sm_up1 (sm_up1 (sm_up1 c 6 v) 3 (it ((h : Nat) : Int))) 0 (it 1)) 4 (it 0) := by
    funext k
    simp only [ap, up1_a]
    by_cases k0 : k = 0
    · subst k0; rfl
    · by_cases k3 : k = 3
      · subst k3; rfl
      · by_cases k6 : k = 6
        · subst k6; rfl
        · rw [if_neg k0, if_neg k3, if_neg k6, if_neg k0, if_neg k3, if_neg k6]
  have e2 : ap [(2, it ((h : Nat) : Int)), (1, it 0), (6, v), (0, it 1)] n = sm_up1 (sm_up1 (sm_up1 (sm_up1 n 6 v) 2 (it ((h : Nat) : Int))) 0 (it 1)) 1 (it 0) := by
    funext k
    simp only [ap, up1_a]
    by_cases k0 : k = 0
    · subst k0; rfl
    · by_cases k2 : k = 2
      · subst k2; rfl
      · by_cases k6 : k = 6
        · subst k6; rfl
        · rw [if_neg k0, if_neg k6, if_neg k2, if_neg k0, if_neg k2, if_neg k6]
  rw [e1, e2]
  obtain ⟨r0, r1, r2, r3, r4, r5, r6, r7, r8, r9, r10⟩ := R1
  refine ⟨?_, ?_, ?_, ?_, ?_, ?_, ?_, fun i hi => ⟨?_, ?_⟩, fun i hi => ?_, fun i hi' => ?_, fun o o1 o2 => ?_⟩
  · rw [up1_n (j := 0) (k := 4) (by omega), up1_n (j := 0) (k := 1) (by omega)]; exact r0
  · rw [up1_n (k := 4) (by omega), up1_n (k := 1) (by omega)]; exact r1
  · rw [up1_n (k := 4) (by omega), up1_n (k := 1) (by omega)]; exact r2
  · rw [up1_n (k := 4) (by omega), up1_n (k := 1) (by omega)]; exact r3
  · rw [up1_s, up1_s]
  · rw [up1_n (k := 4) (by omega), up1_n (k := 1) (by omega)]; exact r5
  · rw [up1_n (k := 4) (by omega), up1_n (k := 1) (by omega)]; exact r6
  · rw [up1_n (k := 4) (by omega), up1_n (k := 1) (by omega)]; exact (r7 i hi).1
  · rw [up1_n (k := 4) (by omega), up1_n (k := 1) (by omega)]; exact (r7 i hi).2
  · rw [up1_n (k := 4) (by omega), up1_n (k := 1) (by omega)]; exact r8 i hi
  · rw [up1_s, it_toInt (by omega) (by omega)] at hi'
    omega
  · obtain ⟨s1, s2, s3⟩ := r10 o o1 o2
    rw [up1_n (k := 1) (j := 154 + 12 * o) (by omega), up1_n (k := 1) (j := 155 + 12 * o) (by omega), up1_n (k := 4) (j := 140 + 11 * o) (by omega), up1_n (k := 4) (j := 141 + 11 * o) (by omega)]
    refine ⟨s1, fun h => ⟨(s2 h).1, fun i i1 i2 => ?_⟩, fun h => ⟨(s3 h).1, ?_⟩⟩
    · rw [up1_n (k := 4) (by omega), up1_n (k := 1) (by omega)]; exact (s2 h).2 i i1 i2
    · rw [up1_n (k := 4) (by omega), up1_n (k := 1) (by omega)]; exact (s3 h).2
theorem end_M (F5 : F ≤ 5) (T : mTop N F fa oc ar sh n hi pr 0 f p b) (hsh : sh p = [fa f 3]) : mOK (N, F, fa, oc, ar, sh, rc) (ap [(2, it ((hi - 1 : Nat) : Int)), (1, it 0), (6, v), (0, it 1)] n) := by
  obtain ⟨a1, a2, a3, a4, a5, a6, a7, a8, a9, a10, a11, a12, a13, a14, a15, a16, a17, a18⟩ := T
  have hb : b = 0 := a15
  have hl : (sh p).length = 1 := by rw [hsh]; rfl
  have hz : hi - 1 = 0 := by omega
  have u : ∀ k, 7 ≤ k → ap [(2, it ((hi - 1 : Nat) : Int)), (1, it 0), (6, v), (0, it 1)] n k = n k := fun k k1 => by simp only [ap]; rw [up1_n (by omega), up1_n (by omega), up1_n (by omega), up1_n (by omega)]
  refine ⟨⟨1, 0, 0, pr, ?_, ?_, ?_, ?_, by omega, by omega, by omega, a6, by simp, fun _ => rfl, fun j' f' p' e => by omega, fun i hi' => by omega, fun i hi' => by omega⟩, okO_k (fun i hi' => u i (by omega)) a18⟩
  · simp only [ap]; rw [up1_s]; rfl
  · simp only [ap]; rw [up1_n (by omega), up1_n (by omega), up1_s]; rfl
  · simp only [ap]; rw [up1_n (by omega), up1_n (by omega), up1_n (by omega), up1_s, hz]
  · simp only [ap]; rw [up1_n (by omega), up1_n (by omega), up1_n (by omega), up1_n (by omega)]; exact a5
end MCR

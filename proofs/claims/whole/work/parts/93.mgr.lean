/-! clearings: typed, and alike -/
def gTy (n : Nat → Int32) (i : Nat) : Nat := (n (40 + i)).toNatClampNeg
def gVl (n : Nat → Int32) (i : Nat) : Nat := (n (10 + i)).toNatClampNeg
def gFf (n : Nat → Int32) (j : Nat) : Nat := (n (70 + 8 * j)).toNatClampNeg
def gVv (n : Nat → Int32) (j v : Nat) : Nat := (n (72 + 8 * j + v)).toNatClampNeg
def gTl (n : Nat → Int32) (o : Nat) : Nat := if o = 0 then 0 else if n (154 + 12 * o) = it 2 then (n (156 + 12 * o)).toNatClampNeg else 0
theorem it_n {k : Nat} (h : k < 1000000) : (it k).toNatClampNeg = k := by rw [it_cl (by omega) (by omega)]; omega
theorem okv_n {n : Nat → Int32} {t : Nat} {v : Int32} (h : okv n t v) (t2 : 2 ≤ t) : v = it (v.toNatClampNeg : Int) ∧ v.toNatClampNeg ≤ 16 := by
  rcases h with h | h | ⟨o, o1, o2, e, _⟩
  · omega
  · rw [h]; exact ⟨by decide, by decide⟩
  · rw [e, it_n (by omega)]; exact ⟨rfl, o2⟩
section MGR
variable {N F : Nat} {fa : Nat → Nat → Nat} {oc ar : Nat → Nat} {sh : Nat → List Nat} {rc : Nat → Bool} {n n' c : Nat → Int32} {hi pr fr j f p p' b h t g : Nat} {v : Int32}
theorem gF1 (V : vOK n hi) : ∀ i, i < hi → n (40 + i) = it (gTy n i) ∧ gTy n i ≤ 3 ∧ (2 ≤ gTy n i → n (10 + i) = it (gVl n i) ∧ gVl n i ≤ 16) := by
  intro i hi'
  obtain ⟨t, t1, t2, t3⟩ := V i hi'
  have e : gTy n i = t := by unfold gTy; rw [t2, it_n (by omega)]
  rw [e]
  exact ⟨t2, t1, fun h => okv_n t3 h⟩
theorem gF2 (F5 : F ≤ 5) (W : wOK F fa n fr) (g3 : ∀ f, f < F → ∀ v, v < fa f 2 → fa f (4 + v) ≤ 3) : ∀ j, j < fr → n (70 + 8 * j) = it (gFf n j) ∧ gFf n j < F ∧ ∀ v, v < fa (gFf n j) 2 → fa (gFf n j) (4 + v) ≤ 3 ∧ (2 ≤ fa (gFf n j) (4 + v) → n (72 + 8 * j + v) = it (gVv n j v) ∧ gVv n j v ≤ 16) := by
  intro j hj
  obtain ⟨f, p, f1, f2, f3, f4, f5⟩ := W j hj
  have e : gFf n j = f := by unfold gFf; rw [f3, it_n (by omega)]
  rw [e]
  exact ⟨f3, f1, fun v hv => ⟨g3 f f1 v hv, fun h => okv_n (f5 v hv) h⟩⟩
theorem gF3 (O : okO n) : gTl n 0 = 0 ∧ (∀ o, o ≤ 16 → gTl n o ≤ 16) ∧ ∀ o, 1 ≤ o → o ≤ 16 → gTl n o ≤ 16 ∧ (n (154 + 12 * o) = it 2 → n (156 + 12 * o) = it (gTl n o)) ∧ (¬ n (154 + 12 * o) = it 2 → gTl n o = 0) := by
  have key : ∀ o, 1 ≤ o → o ≤ 16 → gTl n o ≤ 16 ∧ (n (154 + 12 * o) = it 2 → n (156 + 12 * o) = it (gTl n o)) ∧ (¬ n (154 + 12 * o) = it 2 → gTl n o = 0) := by
    intro o o1 o2
    unfold gTl
    rw [if_neg (by omega)]
    by_cases h2 : n (154 + 12 * o) = it 2
    · rw [if_pos h2]
      have hv : okv n 3 (n (156 + 12 * o)) := by
        rcases O o o1 o2 with ⟨h, _⟩ | ⟨h, _⟩ | ⟨_, h⟩
        · rw [h2] at h; exact absurd h (by decide)
        · rw [h2] at h; exact absurd h (by decide)
        · exact h
      have := okv_n hv (by omega)
      exact ⟨this.2, fun _ => this.1, fun e => absurd h2 e⟩
    · rw [if_neg h2]
      exact ⟨by omega, fun e => absurd e h2, fun _ => rfl⟩
  refine ⟨by unfold gTl; rw [if_pos rfl], fun o ho => ?_, key⟩
  by_cases h0 : o = 0
  · subst h0; unfold gTl; rw [if_pos rfl]; omega
  · exact (key o (by omega) ho).1
theorem rtS_mem {ty v : Nat → Nat} {r : Nat} : ∀ k i, r ∈ rtS ty v k i ↔ ∃ q, i ≤ q ∧ q < i + k ∧ 2 ≤ ty q ∧ r = v q := by
  intro k
  induction k with
  | zero => intro i; exact ⟨fun h => (by cases h), fun ⟨q, h1, h2, _⟩ => by omega⟩
  | succ k ih =>
    intro i
    simp only [rtS, List.mem_append, ih]
    constructor
    · rintro (h | ⟨q, h1, h2, h3, h4⟩)
      · by_cases hc : 2 ≤ ty i
        · rw [if_pos hc] at h
          exact ⟨i, by omega, by omega, hc, by simpa using h⟩
        · rw [if_neg hc] at h; cases h
      · exact ⟨q, by omega, by omega, h3, h4⟩
    · rintro ⟨q, h1, h2, h3, h4⟩
      by_cases e : q = i
      · subst e
        exact Or.inl (by rw [if_pos h3, h4]; exact List.mem_singleton.mpr rfl)
      · exact Or.inr ⟨q, by omega, by omega, h3, h4⟩
theorem rtF_mem {cn : Nat → Nat} {vt vv : Nat → Nat → Nat} {r : Nat} : ∀ k i, r ∈ rtF cn vt vv k i ↔ ∃ q u, i ≤ q ∧ q < i + k ∧ u < cn q ∧ 2 ≤ vt q u ∧ r = vv q u := by
  intro k
  induction k with
  | zero => intro i; exact ⟨fun h => (by cases h), fun ⟨q, u, h1, h2, _⟩ => by omega⟩
  | succ k ih =>
    intro i
    simp only [rtF, List.mem_append, ih, rtS_mem]
    constructor
    · rintro (⟨q, h1, h2, h3, h4⟩ | ⟨q, u, h1, h2, h3, h4, h5⟩)
      · exact ⟨i, q, by omega, by omega, by omega, h3, h4⟩
      · exact ⟨q, u, by omega, by omega, h3, h4, h5⟩
    · rintro ⟨q, u, h1, h2, h3, h4, h5⟩
      by_cases e : q = i
      · subst e
        exact Or.inl ⟨u, by omega, by omega, h4, h5⟩
      · exact Or.inr ⟨q, u, by omega, by omega, h3, h4, h5⟩
/-- the roots of a state -/
def gRt (fa : Nat → Nat → Nat) (n : Nat → Int32) (hi fr : Nat) : List Nat := rtS (gTy n) (gVl n) hi 0 ++ rtF (fun j => fa (gFf n j) 2) (fun j v => fa (gFf n j) (4 + v)) (gVv n) fr 0
theorem gRt_16 (F5 : F ≤ 5) (V : vOK n hi) (W : wOK F fa n fr) (g3 : ∀ f, f < F → ∀ v, v < fa f 2 → fa f (4 + v) ≤ 3) : ∀ r ∈ gRt fa n hi fr, r ≤ 16 := by
  intro r hr
  rcases List.mem_append.mp hr with h | h
  · obtain ⟨q, h1, h2, h3, h4⟩ := (rtS_mem _ _).mp h
    rw [h4]
    exact ((gF1 V q (by omega)).2.2 h3).2
  · obtain ⟨q, u, h1, h2, h3, h4, h5⟩ := (rtF_mem _ _).mp h
    rw [h5]
    exact (((gF2 F5 W g3 q (by omega)).2.2 u h3).2 h4).2
theorem wFr_ap {fd : Nat → Bool} : ∀ (k o : Nat) (c : Nat → Int32), (∀ q, o ≤ q → q < o + k → ap (wFr fd k o) c (140 + 11 * q) = if fd q = true then it 0 else c (140 + 11 * q)) ∧ ∀ i, (∀ q, o ≤ q → q < o + k → ¬ i = 140 + 11 * q) → ap (wFr fd k o) c i = c i := by
  intro k
  induction k with
  | zero => intro o c; exact ⟨fun q h1 h2 => by omega, fun i _ => rfl⟩
  | succ k ih =>
    intro o c
    simp only [wFr, ap_app]
    obtain ⟨a1, a2⟩ := ih (o + 1) (ap (if fd o = true then [(140 + 11 * o, it 0)] else []) c)
    have hx : ∀ i, ap (if fd o = true then [(140 + 11 * o, it 0)] else []) c i = if fd o = true ∧ i = 140 + 11 * o then it 0 else c i := by
      intro i
      by_cases hf : fd o = true
      · rw [if_pos hf]
        simp only [ap, up1_a]
        by_cases e : i = 140 + 11 * o
        · rw [if_pos e, if_pos ⟨hf, e⟩]
        · rw [if_neg e, if_neg (fun q => e q.2)]
      · rw [if_neg hf, if_neg (fun q => hf q.1)]
        rfl
    refine ⟨fun q h1 h2 => ?_, fun i hi => ?_⟩
    · by_cases e : q = o
      · subst e
        rw [a2 _ (fun q' h3 h4 => by omega), hx]
        by_cases hf : fd q = true
        · rw [if_pos ⟨hf, rfl⟩, if_pos hf]
        · rw [if_neg (fun x => hf x.1), if_neg hf]
      · rw [a1 q (by omega) (by omega), hx, if_neg (show ¬ (fd o = true ∧ 140 + 11 * q = 140 + 11 * o) by omega)]
    · rw [a2 i (fun q h1 h2 => hi q (by omega) (by omega)), hx, if_neg (fun x => hi o (by omega) (by omega) x.2)]
theorem wMZ_ap {o : Nat} : ∀ (k i : Nat) (n : Nat → Int32), (∀ u, u < k → ap (wMZ o k i) n (154 + 12 * o + i + u) = it 0) ∧ ∀ q, (q < 154 + 12 * o + i ∨ 154 + 12 * o + i + k ≤ q) → ap (wMZ o k i) n q = n q := by
  intro k
  induction k with
  | zero => intro i n; exact ⟨fun u hu => by omega, fun q _ => rfl⟩
  | succ k ih =>
    intro i n
    obtain ⟨a1, a2⟩ := ih (i + 1) (sm_up1 n (154 + 12 * o + i) (it 0))
    refine ⟨fun u hu => ?_, fun q hq => ?_⟩
    · show ap (wMZ o k (i + 1)) (sm_up1 n (154 + 12 * o + i) (it 0)) _ = _
      cases u with
      | zero => rw [a2 _ (by omega), Nat.add_zero, up1_s]
      | succ u =>
        have := a1 u (by omega)
        rw [show 154 + 12 * o + (i + 1) + u = 154 + 12 * o + i + (u + 1) by omega] at this
        exact this
    · show ap (wMZ o k (i + 1)) (sm_up1 n (154 + 12 * o + i) (it 0)) _ = _
      rw [a2 _ (by omega), up1_n (by omega)]
theorem wMF_ap {fd : Nat → Bool} : ∀ (k o : Nat) (n : Nat → Int32), (∀ q u, o ≤ q → q < o + k → u < 12 → ap (wMF fd k o) n (154 + 12 * q + u) = if fd q = true then it 0 else n (154 + 12 * q + u)) ∧ ∀ i, (i < 154 + 12 * o ∨ 154 + 12 * (o + k) ≤ i) → ap (wMF fd k o) n i = n i := by
  intro k
  induction k with
  | zero => intro o n; exact ⟨fun q u h1 h2 => by omega, fun i _ => rfl⟩
  | succ k ih =>
    intro o n
    simp only [wMF, ap_app]
    obtain ⟨a1, a2⟩ := ih (o + 1) (ap (if fd o = true then wMZ o 12 0 else []) n)
    have hx : ∀ i, (i < 154 + 12 * o ∨ 166 + 12 * o ≤ i) → ap (if fd o = true then wMZ o 12 0 else []) n i = n i := by
      intro i hi
      by_cases hf : fd o = true
      · rw [if_pos hf]; exact (wMZ_ap 12 0 n).2 i (by omega)
      · rw [if_neg hf]; rfl
    refine ⟨fun q u h1 h2 h3 => ?_, fun i hi => ?_⟩
    · by_cases e : q = o
      · subst e
        rw [a2 _ (by omega)]
        by_cases hf : fd q = true
        · rw [if_pos hf, if_pos hf]
          have := (wMZ_ap (o := q) 12 0 n).1 u h3
          rw [Nat.add_zero] at this
          exact this
        · rw [if_neg hf, if_neg hf]; rfl
      · rw [a1 q u (by omega) (by omega) h3, hx _ (by omega)]
    · rw [a2 i (by omega), hx i (by omega)]
/-- the cells behind a clearing -/
theorem nG_of (fd : Nat → Bool) (n : Nat → Int32) : (∀ q u, 1 ≤ q → q ≤ 16 → u < 12 → ap (wMF fd 16 1 ++ [(5, n 5 + it 1)]) n (154 + 12 * q + u) = if fd q = true then it 0 else n (154 + 12 * q + u)) ∧ ap (wMF fd 16 1 ++ [(5, n 5 + it 1)]) n 5 = n 5 + it 1 ∧ ∀ i, ¬ i = 5 → (i < 166 ∨ 358 ≤ i) → ap (wMF fd 16 1 ++ [(5, n 5 + it 1)]) n i = n i := by
  obtain ⟨a1, a2⟩ := wMF_ap (fd := fd) 16 1 n
  rw [ap_app]
  refine ⟨fun q u h1 h2 h3 => ?_, ?_, fun i h1 h2 => ?_⟩
  · simp only [ap]; rw [up1_n (by omega)]; exact a1 q u h1 (by omega) h3
  · simp only [ap]; rw [up1_s]
  · simp only [ap]; rw [up1_n h1]; exact a2 i (by omega)
theorem cG_of (fd : Nat → Bool) (c : Nat → Int32) : (∀ q, 1 ≤ q → q ≤ 16 → ap (wFr fd 16 1 ++ [(2, c 2 + it 1)]) c (140 + 11 * q) = if fd q = true then it 0 else c (140 + 11 * q)) ∧ ap (wFr fd 16 1 ++ [(2, c 2 + it 1)]) c 2 = c 2 + it 1 ∧ ∀ i, ¬ i = 2 → (∀ q, 1 ≤ q → q ≤ 16 → ¬ i = 140 + 11 * q) → ap (wFr fd 16 1 ++ [(2, c 2 + it 1)]) c i = c i := by
  obtain ⟨a1, a2⟩ := wFr_ap (fd := fd) 16 1 c
  rw [ap_app]
  refine ⟨fun q h1 h2 => ?_, ?_, fun i h1 h2 => ?_⟩
  · simp only [ap]; rw [up1_n (by omega)]; exact a1 q h1 (by omega)
  · simp only [ap]; rw [up1_s]
  · simp only [ap]; rw [up1_n h1]; exact a2 i (fun q q1 q2 => h2 q q1 (by omega))
theorem rel_G {fd : Nat → Bool} (R : mRel fa c n) (h8 : ∀ j : Nat, (j : Int) < (n 1).toInt → j < 8) : mRel fa (ap (wFr fd 16 1 ++ [(2, c 2 + it 1)]) c) (ap (wMF fd 16 1 ++ [(5, n 5 + it 1)]) n) := by
  obtain ⟨n1, n2, n3⟩ := nG_of fd n
  obtain ⟨c1, c2, c3⟩ := cG_of fd c
  obtain ⟨r0, r1, r2, r3, r4, r5, r6, r7, r8, r9, r10⟩ := R
  refine ⟨?_, ?_, ?_, ?_, ?_, ?_, ?_, fun i hi => ⟨?_, ?_⟩, fun i hi => ?_, fun i hi' => ?_, fun o o1 o2 => ?_⟩
  · rw [c3 _ (by omega) (by omega), n3 _ (by omega) (by omega)]; exact r0
  · rw [c3 _ (by omega) (by omega), n3 _ (by omega) (by omega)]; exact r1
  · rw [c2, n2, r2]
  · rw [c3 _ (by omega) (by omega), n3 _ (by omega) (by omega)]; exact r3
  · rw [c3 _ (by omega) (by omega), n3 _ (by omega) (by omega)]; exact r4
  · rw [c3 _ (by omega) (by omega), n3 _ (by omega) (by omega)]; exact r5
  · rw [c3 _ (by omega) (by omega), n3 _ (by omega) (by omega)]; exact r6
  · rw [c3 _ (by omega) (by omega), n3 _ (by omega) (by omega)]; exact (r7 i hi).1
  · rw [c3 _ (by omega) (by omega), n3 _ (by omega) (by omega)]; exact (r7 i hi).2
  · rw [c3 _ (by omega) (by omega), n3 _ (by omega) (by omega)]; exact r8 i hi
  · rw [n3 1 (by omega) (by omega)] at hi' ⊢
    have j8 := h8 i hi'
    obtain ⟨s1, s2, s3⟩ := r9 i hi'
    refine ⟨by rw [c3 _ (by omega) (by omega), n3 _ (by omega) (by omega)]; exact s1, by rw [c3 _ (by omega) (by omega), n3 (71 + 8 * i) (by omega) (by omega)]; exact s2, fun f' v' e1 e2 e3 e4 => ?_⟩
    rw [n3 _ (by omega) (by omega)] at e1
    rw [c3 _ (by omega) (by omega), n3 _ (by omega) (by omega)]
    exact s3 f' v' e1 e2 e3 e4
  · obtain ⟨s1, s2, s3⟩ := r10 o o1 o2
    have k0 := n1 o 0 o1 o2 (by omega)
    have k1 := n1 o 1 o1 o2 (by omega)
    have k2 := n1 o 2 o1 o2 (by omega)
    rw [Nat.add_zero] at k0
    rw [show 154 + 12 * o + 1 = 155 + 12 * o by omega] at k1
    rw [show 154 + 12 * o + 2 = 156 + 12 * o by omega] at k2
    rw [k0, k1, k2, c1 o o1 o2, c3 (141 + 11 * o) (by omega) (by omega), c3 (142 + 11 * o) (by omega) (by omega)]
    by_cases hf : fd o = true
    · simp only [if_pos hf]
      exact ⟨trivial, fun h => absurd h (by decide), fun h => absurd h (by decide)⟩
    · simp only [if_neg hf]
      refine ⟨s1, fun h => ⟨(s2 h).1, fun i i1 i2 => ?_⟩, s3⟩
      have k3 := n1 o (3 + i) o1 o2 (by omega)
      rw [if_neg hf, show 154 + 12 * o + (3 + i) = 157 + 12 * o + i by omega] at k3
      rw [k3, c3 _ (by omega) (by omega)]
      exact (s2 h).2 i i1 i2
/-- what lives on stays -/
theorem live_G {fd hF : Nat → Bool} (F5 : F ≤ 5) (h30 : hi ≤ 30) (f8 : fr ≤ 8) (V : vOK n hi) (W : wOK F fa n fr) (O : okO n) (g6 : ∀ f, f < F → fa f 2 ≤ 6) (g3 : ∀ f, f < F → ∀ v, v < fa f 2 → fa f (4 + v) ≤ 3) (hc : isCl (gTl n) (marks (gRt fa n hi fr) (fun _ => false)) hF) (hfd : ∀ o, 1 ≤ o → o ≤ 16 → (fd o = true ↔ hF o = false ∧ ¬ n (154 + 12 * o) = it 0)) : vOK (ap (wMF fd 16 1 ++ [(5, n 5 + it 1)]) n) hi ∧ wOK F fa (ap (wMF fd 16 1 ++ [(5, n 5 + it 1)]) n) fr ∧ okO (ap (wMF fd 16 1 ++ [(5, n 5 + it 1)]) n) := by
  obtain ⟨n1, n2, n3⟩ := nG_of fd n
  have kz : ∀ o, 1 ≤ o → o ≤ 16 → ap (wMF fd 16 1 ++ [(5, n 5 + it 1)]) n (154 + 12 * o) = if fd o = true then it 0 else n (154 + 12 * o) := fun o o1 o2 => n1 o 0 o1 o2 (by omega)
  -- an object that is held stays
  have hl : ∀ t v, t ≤ 3 → okv n t v → (2 ≤ t → ∀ o : Nat, 1 ≤ o → o ≤ 16 → v = it o → hF o = true) → okv (ap (wMF fd 16 1 ++ [(5, n 5 + it 1)]) n) t v := by
    intro t v t3 hv hh
    by_cases t2 : t < 2
    · exact Or.inl t2
    · rcases hv with h | h | ⟨o, o1, o2, e, ho⟩
      · exact Or.inl h
      · exact Or.inr (Or.inl h)
      · refine Or.inr (Or.inr ⟨o, o1, o2, e, ?_⟩)
        have hho := hh (by omega) o o1 o2 e
        rw [kz o o1 o2, if_neg (fun q => by have := ((hfd o o1 o2).mp q).1; rw [hho] at this; cases this)]
        exact ho
  have hroot : ∀ r, 1 ≤ r → r ∈ gRt fa n hi fr → hF r = true := fun r r1 hr => hc.1 r ((marks_i _ _ r r1).mpr (Or.inr hr))
  refine ⟨fun i hi' => ?_, fun i hi' => ?_, fun o o1 o2 => ?_⟩
  · obtain ⟨t, t1, t2, t3⟩ := V i hi'
    refine ⟨t, t1, by rw [n3 _ (by omega) (by omega)]; exact t2, ?_⟩
    rw [n3 _ (by omega) (by omega)]
    refine hl t _ t1 t3 (fun ht o o1 o2 e => hroot o o1 (List.mem_append.mpr (Or.inl ((rtS_mem _ _).mpr ⟨i, by omega, by omega, ?_, ?_⟩))))
    · unfold gTy; rw [t2, it_n (by omega)]; exact ht
    · unfold gVl; rw [e, it_n (by omega)]
  · obtain ⟨f1, p1, b1, b2, b3, b4, b5⟩ := W i hi'
    have h6 := g6 f1 b1
    have ef : gFf n i = f1 := by unfold gFf; rw [b3, it_n (by omega)]
    refine ⟨f1, p1, b1, b2, by rw [n3 _ (by omega) (by omega)]; exact b3, by rw [n3 _ (by omega) (by omega)]; exact b4, fun v hv => ?_⟩
    rw [n3 _ (by omega) (by omega)]
    refine hl _ _ (g3 f1 b1 v hv) (b5 v hv) (fun ht o o1 o2 e => hroot o o1 (List.mem_append.mpr (Or.inr ((rtF_mem _ _).mpr ⟨i, v, by omega, by omega, ?_, ?_, ?_⟩))))
    · rw [ef]; exact hv
    · rw [ef]; exact ht
    · unfold gVv; rw [e, it_n (by omega)]
  · have k1 := n1 o 1 o1 o2 (by omega)
    have k2 := n1 o 2 o1 o2 (by omega)
    rw [show 154 + 12 * o + 1 = 155 + 12 * o by omega] at k1
    rw [show 154 + 12 * o + 2 = 156 + 12 * o by omega] at k2
    by_cases hf : fd o = true
    · refine Or.inl ⟨by rw [kz o o1 o2, if_pos hf], fun k hk => by rw [n1 o k o1 o2 hk, if_pos hf]⟩
    · rw [kz o o1 o2, k1, k2]
      simp only [if_neg hf]
      rcases O o o1 o2 with ⟨h1, h2⟩ | ⟨h1, s, h2, h3⟩ | ⟨h1, h2⟩
      · exact Or.inl ⟨h1, fun k hk => by rw [n1 o k o1 o2 hk, if_neg hf]; exact h2 k hk⟩
      · exact Or.inr (Or.inl ⟨h1, s, h2, h3⟩)
      · refine Or.inr (Or.inr ⟨h1, hl 3 _ (by omega) h2 (fun _ q q1 q2 e => ?_)⟩)
        have ho : hF o = true := by
          cases hx : hF o with
          | true => rfl
          | false => exact absurd ((hfd o o1 o2).mpr ⟨hx, by rw [h1]; decide⟩) hf
        have et : gTl n o = q := by unfold gTl; rw [if_neg (by omega), if_pos h1, e, it_n (by omega)]
        have := hc.2.1 o o1 o2 ho (by omega)
        rw [et] at this
        exact this
end MGR

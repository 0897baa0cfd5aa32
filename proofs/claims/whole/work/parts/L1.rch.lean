/-! which places are reached -/
/-- q leads to p -/
def edg (oc ar : Nat → Nat) (q p : Nat) : Prop := (isJ (oc q) ∧ ar q = p) ∨ (¬ oc q = 24 ∧ ¬ oc q = 25 ∧ p = q + 1)
def hed (F : Nat) (fa : Nat → Nat → Nat) (p : Nat) : Prop := ∃ g, g < F ∧ fa g 0 = p
/-- reached on the way forward -/
def fwd (hd : Nat → Prop) (oc ar : Nat → Nat) (N : Nat) (rc : Nat → Bool) : Prop := ∀ p, p < N → (rc p = true ↔ hd p ∨ ∃ q, q < p ∧ rc q = true ∧ edg oc ar q p)
section RCH
variable {fa : Nat → Nat → Nat} {G : gG} {F g g' p q : Nat} {rc : Nat → Bool}
theorem TF_c (hT : TF fa F G) (hg : g < F) : FC fa g (fa g 0) (gEnd G.1 F fa g) G := hT.2.2.2 g hg
theorem TF_mo (hT : TF fa F G) (hg : g < g') (hf : g' < F) : gEnd G.1 F fa g ≤ fa g' 0 := by
  induction g' with
  | zero => omega
  | succ k ih =>
    by_cases e : g = k
    · subst e
      unfold gEnd; rw [if_pos hf]; exact Nat.le_refl _
    · have h1 := ih (by omega) (by omega)
      have h2 := (TF_c hT (show k < F by omega)).1
      unfold gEnd at h2; rw [if_pos hf] at h2
      omega
theorem TF_un (hT : TF fa F G) (hg : g < F) (hg' : g' < F) (h1 : fa g 0 ≤ p) (h2 : p < gEnd G.1 F fa g) (h3 : fa g' 0 ≤ p) (h4 : p < gEnd G.1 F fa g') : g = g' := by
  rcases Nat.lt_trichotomy g g' with z | z | z
  · have := TF_mo hT z hg'; omega
  · exact z
  · have := TF_mo hT z hg; omega
theorem TF_in0 (hq : q < G.1) : ∀ m g, g + m + 1 = F → fa g 0 ≤ q → ∃ g', g' < F ∧ fa g' 0 ≤ q ∧ q < gEnd G.1 F fa g' := by
  intro m
  induction m with
  | zero => intro g h1 h2; exact ⟨g, by omega, h2, by unfold gEnd; rw [if_neg (by omega)]; exact hq⟩
  | succ m ih =>
    intro g h1 h2
    by_cases z : q < fa (g + 1) 0
    · exact ⟨g, by omega, h2, by unfold gEnd; rw [if_pos (by omega)]; exact z⟩
    · exact ih (g + 1) (by omega) (by omega)
theorem TF_in (hT : TF fa F G) (h0 : 0 < F) (hq : q < G.1) : ∃ g', g' < F ∧ fa g' 0 ≤ q ∧ q < gEnd G.1 F fa g' := TF_in0 hq (F - 1) 0 (by omega) (by rw [hT.2.2.1 h0]; omega)
theorem TF_ed (hT : TF fa F G) (hg : g < F) (h1 : fa g 0 ≤ q) (h2 : q < gEnd G.1 F fa g) (he : edg G.2.1 G.2.2.1 q p) : fa g 0 ≤ p ∧ p < gEnd G.1 F fa g := by
  obtain ⟨c1, c2, c3, c4, c5, c6⟩ := TF_c hT hg
  rcases he with ⟨j1, j2⟩ | ⟨j1, j2, j3⟩
  · obtain ⟨_, _, _, _, k⟩ := c5 q h1 h2
    have := k j1
    rw [j2] at this
    exact ⟨this.1, this.2.1⟩
  · have : ¬ q = gEnd G.1 F fa g - 1 := fun z => j2 (by rw [z]; exact c4)
    omega
theorem fwd_bk {b : Nat} (hT : TF fa F G) (hr : fwd (hed F fa) G.2.1 G.2.2.1 G.1 rc) (hg : g < F) (h1 : fa g 0 ≤ p) (h2 : p < gEnd G.1 F fa g) (o : G.2.1 p = 24) (hb : G.2.2.1 p = b) (bp : b ≤ p) : ∀ x, b ≤ x → x ≤ p → rc x = true → rc b = true := by
  obtain ⟨c1, c2, c3, c4, c5, c6⟩ := TF_c hT hg
  obtain ⟨_, _, _, _, k⟩ := c5 p h1 h2
  have kb := (k (Or.inr o)).1
  rw [hb] at kb
  intro x
  induction x using Nat.strongRecOn with
  | ind x ih =>
    intro x1 x2 x3
    by_cases e : x = b
    · rw [← e]; exact x3
    rcases (hr x (by omega)).mp x3 with ⟨g', g1, g2⟩ | ⟨y, y1, y2, y3⟩
    · have := TF_un (p := x) hT hg g1 (by omega) (by omega) (by omega) (by have := (TF_c hT g1).1; omega)
      subst this
      omega
    · by_cases yb : b ≤ y
      · exact ih y y1 yb (by omega) y2
      · obtain ⟨g2, q1, q2, q3⟩ := TF_in (q := y) hT (by omega) (by omega)
        obtain ⟨q4, q5⟩ := TF_ed hT q1 q2 q3 y3
        have := TF_un hT hg q1 (by omega) (by omega) q4 q5
        subst this
        rcases y3 with ⟨j1, j2⟩ | ⟨j1, j2, j3⟩
        · rcases c6 p y q2 h2 h1 o (by omega) (by omega) j1 with z | z <;> omega
        · omega
/-- what is reached goes on -/
theorem fwd_cl (hT : TF fa F G) (h0 : 0 < F) (hr : fwd (hed F fa) G.2.1 G.2.2.1 G.1 rc) (hq : q < G.1) (h : rc q = true) (he : edg G.2.1 G.2.2.1 q p) : p < G.1 ∧ rc p = true := by
  obtain ⟨g, q1, q2, q3⟩ := TF_in hT h0 hq
  obtain ⟨q4, q5⟩ := TF_ed hT q1 q2 q3 he
  obtain ⟨c1, c2, c3, c4, c5, c6⟩ := TF_c hT q1
  have hp : p < G.1 := by omega
  refine ⟨hp, ?_⟩
  by_cases lt : q < p
  · exact (hr p hp).mpr (Or.inr ⟨q, lt, h, he⟩)
  · rcases he with ⟨j1, j2⟩ | ⟨j1, j2, j3⟩
    · obtain ⟨_, _, _, _, k⟩ := c5 q q2 q3
      have k' := (k j1).2.2.2
      have o24 : G.2.1 q = 24 := by
        rcases j1 with z | z
        · have := k' z; omega
        · exact z
      exact fwd_bk hT hr q1 q2 q3 o24 j2 (by omega) q (by omega) (Nat.le_refl _) h
    · omega
theorem fwd_vs {V : Nat → Bool} (hr : fwd (hed F fa) G.2.1 G.2.2.1 G.1 rc) (h1 : ∀ g, g < F → V (fa g 0) = true) (h2 : ∀ q p, q < G.1 → V q = true → edg G.2.1 G.2.2.1 q p → V p = true) : ∀ p, p < G.1 → rc p = true → V p = true := by
  intro p
  induction p using Nat.strongRecOn with
  | ind p ih =>
    intro hp h
    rcases (hr p hp).mp h with ⟨g, g1, g2⟩ | ⟨q, q1, q2, q3⟩
    · rw [← g2]; exact h1 g g1
    · exact h2 q p (by omega) (ih q q1 (by omega) q2) q3
theorem gPar_3 : ∀ k : Nat, (∀ v, v < k → fa g (4 + v) ≤ 3) → ∀ t ∈ gPar fa g k, t ≤ 3 := by
  intro k
  induction k with
  | zero => intro _ t ht; unfold gPar at ht; cases ht
  | succ k ih =>
    intro h t ht
    unfold gPar at ht
    rcases List.mem_cons.mp ht with z | z
    · rw [z]; exact h k (by omega)
    · exact ih (fun v hv => h v (by omega)) t z
theorem gEf_3 {f o a : Nat} {s s' : List Nat} (hf : f < F) (hF : ∀ g, g < F → fa g 3 ≤ 3 ∧ ∀ v, v < fa g 2 → fa g (4 + v) ≤ 3) (h : gEf fa f o a s s') (hs : ∀ t ∈ s, t ≤ 3) : ∀ t ∈ s', t ≤ 3 := by
  have c : ∀ (x : Nat) (r : List Nat), x ≤ 3 → (∀ t ∈ r, t ≤ 3) → ∀ t ∈ x :: r, t ≤ 3 := fun x r h1 h2 t ht => by
    rcases List.mem_cons.mp ht with z | z
    · rw [z]; exact h1
    · exact h2 t z
  have n : ∀ t ∈ ([] : List Nat), t ≤ 3 := fun t ht => by cases ht
  have tl : ∀ (x : Nat) (r : List Nat), (∀ t ∈ x :: r, t ≤ 3) → ∀ t ∈ r, t ≤ 3 := fun x r h t ht => h t (List.mem_cons_of_mem _ ht)
  unfold gEf at h
  rcases h with ⟨_, h⟩ | ⟨_, _, h⟩ | ⟨_, h⟩ | ⟨_, h1, h⟩ | ⟨_, h1, r, h2, h⟩ | ⟨r, h⟩ | ⟨_, _, _, h⟩ | ⟨_, _, h⟩ | ⟨_, _, h⟩ | ⟨_, _, h⟩ | ⟨_, _, h⟩ | ⟨_, _, h⟩ | ⟨_, _, h2, h⟩
  · rw [h]; exact c _ _ (by omega) hs
  · rw [h]; exact c _ _ (by omega) hs
  · rw [h]; exact c _ _ (by omega) hs
  · rw [h]; exact c _ _ ((hF f hf).2 a h1) hs
  · rw [h]
    exact c _ _ (hF a (by omega)).1 (fun t ht => hs t (by rw [h2]; exact List.mem_append_right _ ht))
  · rcases h with ⟨_, h1, h⟩ | ⟨_, h1, h⟩ | ⟨_, h1, h⟩ | ⟨_, h1, h⟩ | ⟨_, h1, h⟩ | ⟨_, h1, h⟩ | ⟨_, h1, h⟩ | ⟨_, h1, h⟩ | ⟨_, h1, h⟩ | ⟨_, h1, h⟩ | ⟨_, ⟨_, _, h1⟩, h⟩ | ⟨_, _, h1, h⟩
    all_goals (rw [h1] at hs; rw [h])
    · exact c _ _ (by omega) (tl _ _ hs)
    · exact c _ _ (by omega) (tl _ _ hs)
    · exact c _ _ (by omega) (tl _ _ hs)
    · exact c _ _ (by omega) (tl _ _ hs)
    · exact c _ _ (by omega) (tl _ _ hs)
    · exact c _ _ (by omega) (tl _ _ hs)
    · exact c _ _ (by omega) (tl _ _ (tl _ _ hs))
    · exact c _ _ (by omega) (tl _ _ (tl _ _ hs))
    · exact c _ _ (by omega) (tl _ _ (tl _ _ hs))
    · exact c _ _ (by omega) (tl _ _ (tl _ _ hs))
    · exact c _ _ (by omega) (tl _ _ (tl _ _ hs))
    · exact c _ _ (by omega) (tl _ _ (tl _ _ hs))
  · rw [h]; exact n
  · rw [h]; exact n
  · rw [h]; exact n
  · rw [h]; exact n
  · rw [h]; exact n
  · rw [h]; exact n
  · rw [h]; exact c _ _ (by rw [h2]; exact (hF f hf).1) n
theorem TF_3 (hT : TF fa F G) (hF : ∀ g, g < F → fa g 3 ≤ 3 ∧ ∀ v, v < fa g 2 → fa g (4 + v) ≤ 3) (hg : g < F) : ∀ k, fa g 0 + k < gEnd G.1 F fa g → ∀ t ∈ G.2.2.2 (fa g 0 + k), t ≤ 3 := by
  obtain ⟨c1, c2, c3, c4, c5, c6⟩ := TF_c hT hg
  intro k
  induction k with
  | zero => intro _ t ht; rw [Nat.add_zero, c3] at ht; cases ht
  | succ k ih =>
    intro hk
    exact gEf_3 hg hF (c5 (fa g 0 + k) (by omega) (by omega)).1 (ih (by omega))
/-- code that both have read is typed -/
theorem TF_tc (hT : TF fa F G) (h0 : 0 < F) (h5 : F ≤ 5) (hN : G.1 ≤ 200) (hF : ∀ g, g < F → fa g 1 ≤ fa g 2 ∧ fa g 2 ≤ 6 ∧ fa g 3 ≤ 3 ∧ ∀ v, v < fa g 2 → fa g (4 + v) ≤ 3) (hl : fa (F - 1) 1 = 0) : gTC (G.1, F, fa, G.2.1, G.2.2.1, G.2.2.2, rc) := by
  have hF' : ∀ g, g < F → fa g 3 ≤ 3 ∧ ∀ v, v < fa g 2 → fa g (4 + v) ≤ 3 := fun g hg => (hF g hg).2.2
  have n0 : ¬ G.1 = 0 := by have := TF_c hT h0; have h1 := this.1; have h2 := this.2.1; omega
  refine ⟨hN, h5, ⟨fun z => absurd z n0, fun z => by omega⟩, fun f hf => ?_, fun p hp => ?_, fun _ => hl, fun p hp => ?_⟩
  · obtain ⟨c1, c2, c3, c4, c5, c6⟩ := TF_c hT hf
    obtain ⟨f1, f2, f3, f4⟩ := hF f hf
    refine ⟨f1, f2, f3, f4, c1, c2, c3, fun p p1 p2 => ⟨⟨_, (c5 p p1 p2).1, fun z => ?_, fun _ => rfl⟩, fun z => ?_⟩⟩
    · have : ¬ p = gEnd G.1 F fa f - 1 := fun y => z (by rw [y]; exact c4)
      omega
    · have := (c5 p p1 p2).2.2.2.2 z
      exact ⟨this.1, this.2.1, this.2.2.1⟩
  · obtain ⟨g, q1, q2, q3⟩ := TF_in hT h0 hp
    have := (TF_c hT q1).2.2.2.2.1 p q2 q3
    exact ⟨this.2.2.2.1, this.2.2.1⟩
  · obtain ⟨g, q1, q2, q3⟩ := TF_in hT h0 hp
    have := (TF_c hT q1).2.2.2.2.1 p q2 q3
    refine ⟨this.2.1, ?_⟩
    have h3 := TF_3 hT hF' q1 (p - fa g 0)
    rw [show fa g 0 + (p - fa g 0) = p by omega] at h3
    exact h3 q3
end RCH

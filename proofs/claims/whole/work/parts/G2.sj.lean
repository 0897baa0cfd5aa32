/-! statements: frames, code of a fun, the joint state between statements -/
abbrev isJ (o : Nat) : Prop := o = 23 ∨ o = 24
/-- cells of the class that a statement leaves -/
def oX (B a b : Nat) : Prop := ¬ b = B + 2 ∧ ¬ b = B + 3 ∧ ¬ b = B + 16 ∧ ¬ b = B + 17 ∧ ¬ b = B + 19 ∧ ¬ b = B + 20 ∧ ¬ b = B + 21 ∧ ¬ b = a ∧ ¬ b = a + 1 ∧ ¬ b = a + 2 ∧ ¬ b = a + 5 ∧ ¬ b = a + 6
def FSx (B a f op : Nat) (I : aI) (J : aJ) (I' : aI) (J' : aJ) : Prop := (∀ b, oX B a b → I' b = I b) ∧ (∀ k, ¬ k = 6 ∧ ¬ k = 7 ∧ ¬ k = 8 ∧ ¬ k = 11 → I' (B + 2) k = I (B + 2) k) ∧ (∀ k, ¬ k = 6 → I' a k = I a k) ∧ (∀ k, ¬ k = 4 * f + 2 → I' (a + 5) k = I (a + 5) k) ∧ (∀ k, k < 6 * f → I' (a + 6) k = I (a + 6) k) ∧ (∀ j, j < op → I' (B + 19) j = I (B + 19) j ∧ I' (B + 20) j = I (B + 20) j ∧ I' (B + 21) j = I (B + 21) j) ∧ ∀ b, ¬ b = a + 3 → ¬ b = a + 3 → jv B J' b = jv B J b
/-- cells of the reference that a statement leaves -/
def oM (B b : Nat) : Prop := ¬ b = B + 46 ∧ ¬ b = B + 52 ∧ ¬ b = B + 54 ∧ ¬ b = B + 55 ∧ ¬ b = B + 56 ∧ ¬ b = B + 57
def FSm (B f m : Nat) (I : aI) (J : aJ) (I' : aI) (J' : aJ) : Prop := (∀ b, b < m → oM B b → I' b = I b) ∧ (∀ k, ¬ k = 13 ∧ ¬ k = 22 ∧ ¬ k = 23 ∧ ¬ k = 24 ∧ ¬ k = 25 ∧ ¬ k = 26 ∧ ¬ k = 27 ∧ ¬ k = 28 ∧ ¬ k = 29 → I' (B + 46) k = I (B + 46) k) ∧ (∀ k, ¬ k = f → I' (B + 52) k = I (B + 52) k) ∧ (∀ k, k < 6 * f → I' (B + 54) k = I (B + 54) k ∧ I' (B + 55) k = I (B + 55) k) ∧ ∀ b, b < m → J' b = J b
section SJS
variable {K : Nat → Value} {B d e a : Nat} {w wm wm' : aW} {Ix Im I I' I'' Ix' Im' : aI} {Jx Jm J J' J'' Jx' Jm' : aJ} {bs : Nat → Nat} {t n c r s sl b op m m' : Nat} {pd dp : Int} {G G1 : gG} {Q gd Q0 : Prop} {f cnt st : Nat} {vn ln : Nat → Nat} {fa fa0 : Nat → Nat → Nat} {G0 : gG} {P P' : Nat → Prop}
theorem FSx_r : FSx B a f op I J I J := ⟨fun _ _ => rfl, fun _ _ => rfl, fun _ _ => rfl, fun _ _ => rfl, fun _ _ => rfl, fun _ _ => ⟨rfl, rfl, rfl⟩, fun _ _ _ => rfl⟩
theorem FSx_t {op' : Nat} (ho : op ≤ op') (h1 : FSx B a f op I J I' J') (h2 : FSx B a f op' I' J' I'' J'') : FSx B a f op I J I'' J'' := ⟨fun b x => (h2.1 b x).trans (h1.1 b x), fun k x => (h2.2.1 k x).trans (h1.2.1 k x), fun k x => (h2.2.2.1 k x).trans (h1.2.2.1 k x), fun k x => (h2.2.2.2.1 k x).trans (h1.2.2.2.1 k x), fun k x => (h2.2.2.2.2.1 k x).trans (h1.2.2.2.2.1 k x), fun j x => ⟨((h2.2.2.2.2.2.1 j (by omega)).1).trans (h1.2.2.2.2.2.1 j x).1, ((h2.2.2.2.2.2.1 j (by omega)).2.1).trans (h1.2.2.2.2.2.1 j x).2.1, ((h2.2.2.2.2.2.1 j (by omega)).2.2).trans (h1.2.2.2.2.2.1 j x).2.2⟩, fun b x y => (h2.2.2.2.2.2.2 b x y).trans (h1.2.2.2.2.2.2 b x y)⟩
theorem FSx_e (ha : a = B + 8 ∨ a = B + 22) (h : FEx B a I J I' J') : FSx B a f op I J I' J' := by
  refine ⟨fun b x => ?_, fun k x => h.2.1 k x.1 x.2.1 x.2.2.1, h.2.2.1, fun k _ => ?_, fun k _ => ?_, fun j _ => ⟨?_, ?_, ?_⟩, h.2.2.2⟩
  · unfold oX at x
    exact h.1 b (by omega) (by omega) (by omega) (by omega) (by omega) (by omega)
  · rw [h.1 (a + 5) (by omega) (by omega) (by omega) (by omega) (by omega) (by omega)]
  · rw [h.1 (a + 6) (by omega) (by omega) (by omega) (by omega) (by omega) (by omega)]
  · rw [h.1 (B + 19) (by omega) (by omega) (by omega) (by omega) (by omega) (by omega)]
  · rw [h.1 (B + 20) (by omega) (by omega) (by omega) (by omega) (by omega) (by omega)]
  · rw [h.1 (B + 21) (by omega) (by omega) (by omega) (by omega) (by omega) (by omega)]
theorem FSm_r : FSm B f m I J I J := ⟨fun _ _ _ => rfl, fun _ _ => rfl, fun _ _ => rfl, fun _ _ => ⟨rfl, rfl⟩, fun _ _ => rfl⟩
theorem FSm_t (hm : m ≤ m') (h1 : FSm B f m I J I' J') (h2 : FSm B f m' I' J' I'' J'') : FSm B f m I J I'' J'' := ⟨fun b x y => (h2.1 b (by omega) y).trans (h1.1 b x y), fun k x => (h2.2.1 k x).trans (h1.2.1 k x), fun k x => (h2.2.2.1 k x).trans (h1.2.2.1 k x), fun k x => ⟨((h2.2.2.2.1 k x).1).trans (h1.2.2.2.1 k x).1, ((h2.2.2.2.1 k x).2).trans (h1.2.2.2.1 k x).2⟩, fun b x => (h2.2.2.2.2 b (by omega)).trans (h1.2.2.2.2 b x)⟩
theorem FSm_e (hm : B + 75 ≤ m) (h : FMx B m I J I' J') : FSm B f m I J I' J' := by
  refine ⟨fun b x y => ?_, fun k x => h.2.1 k (by omega) (by omega) (by omega) (by omega) (by omega) (by omega) (by omega) (by omega) (by omega), fun k _ => ?_, fun k _ => ⟨?_, ?_⟩, h.2.2⟩
  · unfold oM at y
    exact h.1 b x (by omega) (by omega) (by omega)
  · rw [h.1 (B + 52) (by omega) (by omega) (by omega) (by omega)]
  · rw [h.1 (B + 54) (by omega) (by omega) (by omega) (by omega)]
  · rw [h.1 (B + 55) (by omega) (by omega) (by omega) (by omega)]
/-- the code of the fun f from the place st on; P: places that are patched later -/
def Wf (fa : Nat → Nat → Nat) (f st : Nat) (P : Nat → Prop) (G0 G : gG) : Prop := st ≤ G.1 ∧ G.2.2.2 G.1 = [] ∧ (∀ p, p < st → G.2.1 p = G0.2.1 p ∧ G.2.2.1 p = G0.2.2.1 p) ∧ (∀ p, p ≤ st → G.2.2.2 p = G0.2.2.2 p)
    ∧ (∀ p, st ≤ p → p < G.1 → gEf fa f (G.2.1 p) (G.2.2.1 p) (G.2.2.2 p) (G.2.2.2 (p + 1)) ∧ G.2.1 p ≤ 27 ∧ G.2.2.1 p ≤ 99999 ∧ (G.2.2.2 p).length ≤ 60 ∧ (isJ (G.2.1 p) → ¬ P p → st ≤ G.2.2.1 p ∧ G.2.2.1 p ≤ G.1 ∧ G.2.2.2 (G.2.2.1 p) = [] ∧ (G.2.1 p = 23 → p < G.2.2.1 p)))
    ∧ ∀ p q, st ≤ q → p < G.1 → G.2.1 p = 24 → ¬ P p → G.2.2.1 p ≤ p → q < G.2.2.1 p → isJ (G.2.1 q) → ¬ P q → G.2.2.1 q ≤ G.2.2.1 p ∨ p < G.2.2.1 q
/-- one op behind what puts its values; a jump is still to be patched, or leads back -/
theorem Wf_e {G1 : gG} {ts : List Nat} {o g : Nat} (hW : Wf fa f st P G0 G) (hE : Exs fa f G G1 ts b) (hb : b ≤ 60) (ho : o ≤ 27) (hg : g ≤ 99999) (hl : ts.length ≤ 60) (hf : gEf fa f o g ts []) (hP : ∀ p, ¬ P' p → ¬ P p) (hj : isJ o → P' G1.1 ∨ (o = 24 ∧ st ≤ g ∧ g ≤ G.1 ∧ G.2.2.2 g = [] ∧ G1 = G ∧ ∀ q, st ≤ q → q < g → isJ (G.2.1 q) → ¬ P' q → G.2.2.1 q ≤ g)) : Wf fa f st P' G0 (gE1 G1 o g []) := by
  obtain ⟨w1, w2, w3, w4, w5, w6⟩ := hW
  obtain ⟨e1, e2, e3, e4, e5⟩ := hE
  obtain ⟨g1, g2, g3, g4, g5, g6⟩ := gE1_o (G := G1) (o := o) (g := g) (st := [])
  rw [w2, List.append_nil] at e4
  have old : ∀ p, st ≤ p → p < G1.1 → isJ (G1.2.1 p) → p < G.1 := by
    intro p p1 p2 p3
    by_cases e : p < G.1
    · exact e
    · have := (e5 p (by omega) p2).2.1
      rcases p3 with z | z <;> omega
  refine ⟨by omega, by rw [g1, g6], fun p hp => ?_, fun p hp => ?_, fun p p1 p2 => ?_, fun p q q1 p2 p3 p4 p5 q2 q3 q4 => ?_⟩
  · rw [(g2 p (by omega)).1, (g2 p (by omega)).2, (e2 p (by omega)).1, (e2 p (by omega)).2]; exact w3 p hp
  · rw [g5 p (by omega), e3 p (by omega)]; exact w4 p hp
  · by_cases ep : p = G1.1
    · subst ep
      rw [g3, g4, g5 _ (by omega), g6, e4, g1]
      refine ⟨hf, ho, hg, hl, fun j np => ?_⟩
      rcases hj j with z | ⟨z1, z2, z3, z4, z5, z6⟩
      · exact absurd z np
      · subst z5
        refine ⟨z2, by omega, by rw [g5 _ (by omega)]; exact z4, fun y => by omega⟩
    · have p3 : p < G1.1 := by omega
      rw [(g2 p ep).1, (g2 p ep).2, g5 p (by omega), g5 (p + 1) (by omega), g1]
      by_cases e' : p < G.1
      · obtain ⟨y1, y2, y3, y4, y5⟩ := w5 p p1 e'
        rw [(e2 p e').1, (e2 p e').2, e3 p (by omega), e3 (p + 1) (by omega)]
        refine ⟨y1, y2, y3, y4, fun j np => ?_⟩
        obtain ⟨u1, u2, u3, u4⟩ := y5 j (hP p np)
        exact ⟨u1, by omega, by rw [g5 _ (by omega), e3 _ u2]; exact u3, u4⟩
      · obtain ⟨y1, y2, y3, y4⟩ := e5 p (by omega) p3
        rw [w2] at y4
        exact ⟨y1, by omega, y3, by simp at y4; omega, fun j _ => by rcases j with z | z <;> omega⟩
  · rw [g1] at p2
    by_cases ep : p = G1.1
    · subst ep
      rw [g3] at p3
      rw [g4] at p5 q2 ⊢
      rcases hj (Or.inr p3) with z | ⟨z1, z2, z3, z4, z5, z6⟩
      · exact absurd z p4
      · subst z5
        have eq : ¬ q = G1.1 := by omega
        rw [(g2 q eq).1] at q3
        rw [(g2 q eq).2]
        exact Or.inl (z6 q q1 q2 q3 q4)
    · have p6 : p < G1.1 := by omega
      rw [(g2 p ep).1] at p3
      rw [(g2 p ep).2] at p5 q2 ⊢
      have eq : ¬ q = G1.1 := by omega
      rw [(g2 q eq).1] at q3
      rw [(g2 q eq).2]
      have qo := old q q1 (by omega) q3
      have po : p < G.1 := by
        by_cases e : p < G.1
        · exact e
        · have := (e5 p (by omega) p6).2.1; omega
      rw [(e2 p po).1] at p3
      rw [(e2 p po).2] at p5 q2 ⊢
      rw [(e2 q qo).1] at q3
      rw [(e2 q qo).2]
      exact w6 p q q1 po p3 (hP p p4) p5 q2 q3 (hP q q4)
/-- a place is patched: it leads to what comes next -/
theorem Wf_p {q0 : Nat} (hW : Wf fa f st P' G0 G) (hP : ∀ p, ¬ P p → ¬ p = q0 → ¬ P' p) (hq : st ≤ q0) (hq2 : q0 < G.1) (hn : G.1 ≤ 99999) (hj : isJ (G.2.1 q0)) : Wf fa f st P G0 (pG G q0) := by
  obtain ⟨w1, w2, w3, w4, w5, w6⟩ := hW
  have up : ∀ p, (pG G q0).2.2.1 p = if p = q0 then G.1 else G.2.2.1 p := fun p => rfl
  refine ⟨w1, w2, fun p hp => ?_, w4, fun p p1 p2 => ?_, fun p q q1 p2 p3 p4 p5 q2 q3 q4 => ?_⟩
  · rw [up, if_neg (by omega)]; exact w3 p hp
  · have p2' : p < G.1 := p2
    obtain ⟨y1, y2, y3, y4, y5⟩ := w5 p p1 p2'
    rw [up]
    by_cases e : p = q0
    · subst e
      rw [if_pos rfl]
      refine ⟨?_, y2, hn, y4, fun j np => ⟨w1, Nat.le_refl _, w2, fun _ => hq2⟩⟩
      show gEf fa f (G.2.1 p) G.1 (G.2.2.2 p) (G.2.2.2 (p + 1))
      unfold gEf at y1 ⊢
      rcases hj with z | z
      · rw [z] at y1 ⊢; simpa using y1
      · rw [z] at y1 ⊢; simpa using y1
    · rw [if_neg e]
      exact ⟨y1, y2, y3, y4, fun j np => y5 j (hP p np e)⟩
  · have p2' : p < G.1 := p2
    have ep := up p
    have eq := up q
    rw [ep] at p5 q2 ⊢
    rw [eq]
    by_cases e : p = q0
    · rw [if_pos e] at p5; omega
    · rw [if_neg e] at p5 q2 ⊢
      by_cases e2 : q = q0
      · rw [if_pos e2]; right; exact p2'
      · rw [if_neg e2]
        exact w6 p q q1 p2' p3 (hP p p4 e) p5 q2 q3 (hP q q4 e2)
/-- more variables -/
theorem gEf_m {fa' : Nat → Nat → Nat} {o g : Nat} {s s' : List Nat} (hr : ∀ g k, g ≤ f → k = 1 ∨ k = 3 → fa' g k = fa g k) (hv : ∀ v, v < fa f 2 → fa' f (4 + v) = fa f (4 + v)) (hc : fa f 2 ≤ fa' f 2) (hp : ∀ g v, g ≤ f → v < fa g 1 → fa' g (4 + v) = fa g (4 + v)) (h : gEf fa f o g s s') : gEf fa' f o g s s' := by
  have par : ∀ a, a ≤ f → ∀ k, k ≤ fa a 1 → gPar fa' a k = gPar fa a k := by
    intro a ha k
    induction k with
    | zero => intro _; rfl
    | succ k ih => intro hk; rw [gPar, gPar, ih (by omega), hp a k ha (by omega)]
  unfold gEf at h ⊢
  rcases h with h | h | h | ⟨h1, h2, h3⟩ | ⟨h1, h2, r, h3, h4⟩ | h | ⟨h1, h2, h3, h4⟩ | h | h | h | ⟨h1, h2, h3⟩ | h | ⟨h1, h2, h3, h4⟩
  · exact Or.inl h
  · exact Or.inr (Or.inl h)
  · exact Or.inr (Or.inr (Or.inl h))
  · exact Or.inr (Or.inr (Or.inr (Or.inl ⟨h1, by omega, by rw [hv g h2]; exact h3⟩)))
  · refine Or.inr (Or.inr (Or.inr (Or.inr (Or.inl ⟨h1, h2, r, ?_, ?_⟩))))
    · rw [hr g 1 h2 (Or.inl rfl), par g h2 _ (Nat.le_refl _)]; exact h3
    · rw [hr g 3 h2 (Or.inr rfl)]; exact h4
  · exact Or.inr (Or.inr (Or.inr (Or.inr (Or.inr (Or.inl h)))))
  · exact Or.inr (Or.inr (Or.inr (Or.inr (Or.inr (Or.inr (Or.inl ⟨h1, by omega, by rw [hv g h2]; exact h3, h4⟩))))))
  · exact Or.inr (Or.inr (Or.inr (Or.inr (Or.inr (Or.inr (Or.inr (Or.inl h)))))))
  · exact Or.inr (Or.inr (Or.inr (Or.inr (Or.inr (Or.inr (Or.inr (Or.inr (Or.inl h))))))))
  · exact Or.inr (Or.inr (Or.inr (Or.inr (Or.inr (Or.inr (Or.inr (Or.inr (Or.inr (Or.inl h)))))))))
  · exact Or.inr (Or.inr (Or.inr (Or.inr (Or.inr (Or.inr (Or.inr (Or.inr (Or.inr (Or.inr (Or.inl ⟨h1, by rw [hr f 3 (Nat.le_refl _) (Or.inr rfl)]; exact h2, h3⟩))))))))))
  · exact Or.inr (Or.inr (Or.inr (Or.inr (Or.inr (Or.inr (Or.inr (Or.inr (Or.inr (Or.inr (Or.inr (Or.inl h)))))))))))
  · exact Or.inr (Or.inr (Or.inr (Or.inr (Or.inr (Or.inr (Or.inr (Or.inr (Or.inr (Or.inr (Or.inr (Or.inr ⟨h1, h2, by rw [hr f 3 (Nat.le_refl _) (Or.inr rfl)]; exact h3, h4⟩)))))))))))
theorem Wf_m {fa' : Nat → Nat → Nat} (hr : ∀ g k, g ≤ f → k = 1 ∨ k = 3 → fa' g k = fa g k) (hv : ∀ v, v < fa f 2 → fa' f (4 + v) = fa f (4 + v)) (hc : fa f 2 ≤ fa' f 2) (hp : ∀ g v, g ≤ f → v < fa g 1 → fa' g (4 + v) = fa g (4 + v)) (hW : Wf fa f st P G0 G) : Wf fa' f st P G0 G := by
  obtain ⟨w1, w2, w3, w4, w5, w6⟩ := hW
  exact ⟨w1, w2, w3, w4, fun p p1 p2 => ⟨gEf_m hr hv hc hp (w5 p p1 p2).1, (w5 p p1 p2).2⟩, w6⟩
/-- the same row with more variables, perhaps -/
def fLe (fa0 fa : Nat → Nat → Nat) (f : Nat) : Prop := (∀ k, k < 4 → ¬ k = 2 → fa f k = fa0 f k) ∧ fa0 f 2 ≤ fa f 2 ∧ ∀ v, v < fa0 f 2 → fa f (4 + v) = fa0 f (4 + v)
/-- both between statements -/
def SJ (K : Nat → Value) (B a : Nat) (bs : Nat → Nat) (t n : Nat) (dp : Int) (w : aW) (f : Nat) (ln : Nat → Nat) (gd : Prop) (st : Nat) (fa0 : Nat → Nat → Nat) (G0 : gG) (Q0 : Prop) (P : Nat → Prop) (c r sl cnt : Nat) (vn : Nat → Nat) (fa : Nat → Nat → Nat) (G : gG) (op : Nat) (Ix : aI) (Jx : aJ) (wm : aW) (Im : aI) : Prop :=
  JS B a bs t n (-1) dp c r 0 sl G (Q0 ∧ gd ∧ Wf fa f st P G0 G) Ix Jx Im ∧ StO K B w Ix ∧ SM K B wm Im ∧ Ix (B + 2) 2 = it f ∧ Im (B + 46) 30 = it f ∧ (∃ cx : Nat, cx ≤ 6 ∧ Ix (a + 5) (4 * f + 2) = it cx) ∧ (∃ cm : Nat, cm ≤ 6 ∧ Im (B + 52) f = it cm) ∧ (gd ∨ (0 ≤ dp ∧ dp ≤ tst bs t c))
  ∧ (r = 0 → NP f cnt vn fa ln gd ∧ NX B a f cnt vn fa ln gd Ix ∧ NM B f cnt vn fa ln gd Im ∧ Ix (a + 5) (4 * f + 2) = it cnt ∧ Ix (B + 2) 11 = it op ∧ (∀ g k, g < f → fa g k = fa0 g k) ∧ fLe fa0 fa f)
/-- the state behind a piece that changes no names -/
theorem SJ_b {c' r' sl' k : Nat} {G' : gG} (ha : a = B + 8 ∨ a = B + 22) (hX : TX bs t n) (h : SJ K B a bs t n dp w f ln gd st fa0 G0 Q0 P c 0 sl cnt vn fa G op Ix Jx wm Im) (h1 : FEx B a Ix Jx Ix' Jx') (h2 : FMx B wm.2.2.1 Im Jm Im' Jm') (h3 : WG' wm wm' k) (hc : c ≤ c') (hJ : JS B a bs t n (-1) dp c' r' 0 sl' G' (Q0 ∧ gd ∧ Wf fa f st P' G0 G') Ix' Jx' Im') : SJ K B a bs t n dp w f ln gd st fa0 G0 Q0 P' c' r' sl' cnt vn fa G' op Ix' Jx' wm' Im' := by
  obtain ⟨j, o, sm, i2, i30, ⟨cx, c1, c2⟩, ⟨cm, c3, c4⟩, hd, nn⟩ := h
  have hc' := (JS_c hJ).1
  have h82 := sm.2.2.2
  have e5 : Ix' (a + 5) = Ix (a + 5) := h1.1 (a + 5) (by omega) (by omega) (by omega) (by omega) (by omega) (by omega)
  have e59 : Im' (B + 52) = Im (B + 52) := h2.1 (B + 52) (by omega) (by omega) (by omega) (by omega)
  refine ⟨hJ, StO_F ha h1 o, SM_f h3 h2 sm, by rw [h1.2.1 2 (by omega) (by omega) (by omega)]; exact i2, by rw [h2.2.1 30 (by omega) (by omega) (by omega) (by omega) (by omega) (by omega) (by omega) (by omega) (by omega)]; exact i30, ⟨cx, c1, by rw [e5]; exact c2⟩, ⟨cm, c3, by rw [e59]; exact c4⟩, hd.imp id (fun z => ⟨z.1, by have := tst_m hX hc hc'; omega⟩), fun _ => ?_⟩
  obtain ⟨n1, n2, n3, n4, n5, n6⟩ := nn rfl
  exact ⟨n1, NX_f ha h1 n2, NM_f h82 h2 n3, by rw [e5]; exact n4, by rw [h1.2.1 11 (by omega) (by omega) (by omega)]; exact n5, n6⟩
end SJS

/-! one fun, both -/
section FUNS
variable {K : Nat → Value} {B d e a : Nat} {w wm wm' : aW} {Ix Im I I' I'' Ix' Im' : aI} {Jx Jm J J' J'' Jx' Jm' : aJ} {bs : Nat → Nat} {t n c r s sl sl' b op op' m m' : Nat} {pd dp dp0 : Int} {G G1 G' Gs G2 G3 : gG} {Q Q' Qh Qx gd Y Q0 Q0' : Prop} {f cnt cnt' st st' lp pc pm : Nat} {vn vn' ln : Nat → Nat} {fa fa' fa0 fa0' fs : Nat → Nat → Nat} {G0 G0' : gG} {P P' : Nat → Prop}
theorem FTn_t (hf : ∀ g k, g < f → fa' g k = fa g k) (h15 : Ix' (B + 15) = Ix (B + 15)) (h5 : ∀ k, k < 4 * f → Ix' (a + 5) k = Ix (a + 5) k) (h6 : ∀ k, k < 6 * f → Ix' (a + 6) k = Ix (a + 6) k) (m56 : Im' (B + 49) = Im (B + 49)) (m58 : ∀ k, ¬ k = f → Im' (B + 51) k = Im (B + 51) k) (m59 : ∀ k, ¬ k = f → Im' (B + 52) k = Im (B + 52) k) (m60 : ∀ k, ¬ k = f → Im' (B + 53) k = Im (B + 53) k) (m62 : ∀ k, k < 6 * f → Im' (B + 55) k = Im (B + 55) k) (h : FTn B a f ln fa Ix Im) : FTn B a f ln fa' Ix' Im' := by
  obtain ⟨t1, t2, t3, t4, t5, t6, t7⟩ := h
  refine ⟨fun g hg => ?_, t2, t3, fun l hl => by rw [h15]; exact t4 l hl, fun g hg => ⟨fun k k1 k2 => ?_, fun v hv => ?_⟩, fun g hg => ?_, by rw [m56]; exact t7⟩
  · rw [hf g 1 hg, hf g 2 hg, hf g 3 hg]
    obtain ⟨a1, a2, a3, a4, a5⟩ := t1 g hg
    exact ⟨a1, a2, a3, a4, fun v hv => by rw [hf g _ hg]; exact a5 v hv⟩
  · rw [h5 _ (by omega), hf g k hg]; exact (t5 g hg).1 k k1 k2
  · rw [hf g 2 hg] at hv
    have := (t1 g hg).2.2.1
    rw [h6 _ (by omega), hf g _ hg]; exact (t5 g hg).2 v hv
  · obtain ⟨a1, a2, a3, a4, a5⟩ := t6 g hg
    rw [m56, m58 g (by omega), m59 g (by omega), m60 g (by omega), hf g 1 hg, hf g 2 hg, hf g 3 hg]
    refine ⟨a1, a2, a3, a4, fun v hv => ?_⟩
    have := (t1 g hg).2.2.1
    rw [m62 _ (by omega), hf g _ hg]; exact a5 v hv
/-- the tables with the fun that was read last -/
theorem FT_n {op : Nat} (hn : FTn B a f ln fa Ix Im) (n1 : NP f cnt vn fa ln True) (n2 : NX B a f cnt vn fa ln True Ix) (n3 : NM B f cnt vn fa ln True Im) (n4 : Ix (a + 5) (4 * f + 2) = it cnt) : FT B a (f + 1) ln fa Ix Im := by
  obtain ⟨t1, t2, t3, t4, t5, t6, t7⟩ := hn
  obtain ⟨p1, p2, p3, p4, p5⟩ := n1
  obtain ⟨q1, q2⟩ := p5 trivial
  obtain ⟨x1, x2, x3, x4⟩ := n2
  obtain ⟨x5, x6⟩ := x4 trivial
  obtain ⟨y1, y2, y3, y4⟩ := n3
  have y5 := y4 trivial
  refine ⟨fun g hg => ?_, fun g g' h1 h2 h3 => t3 g g' (by omega) (by omega) h3, x5, fun g hg => ?_, fun g hg => ?_⟩
  · by_cases e : g = f
    · subst e
      obtain ⟨a1, a2, a3, a4, a5⟩ := q1 g (Nat.le_refl _)
      exact ⟨a1, a2, a3, a4, fun v hv => (p3 v (by omega)).2⟩
    · exact t1 g (by omega)
  · by_cases e : g = f
    · subst e
      obtain ⟨a1, a2, a3⟩ := x6 g (Nat.le_refl _)
      refine ⟨fun k k1 k2 => ?_, fun v hv => x3 v (by omega)⟩
      rcases (show k = 1 ∨ k = 2 ∨ k = 3 by omega) with e | e | e
      · subst e; exact a1
      · subst e; rw [← p4]; exact n4
      · subst e; exact a2
    · exact t5 g (by omega)
  · by_cases e : g = f
    · subst e
      obtain ⟨a1, a2, a3, a4, a5⟩ := y5 g (Nat.le_refl _)
      exact ⟨a1, a2, a3, a4, fun v hv => (y3 v (by omega)).2⟩
    · exact t6 g (by omega)
/-- cells of the class that a fun leaves -/
def FFx (B a f : Nat) (I : aI) (J : aJ) (I' : aI) (J' : aJ) : Prop := (∀ b, oX B a b → ¬ b = B + 15 → I' b = I b) ∧ (∀ k, k < 4 * f → I' (a + 5) k = I (a + 5) k) ∧ ∀ b, ¬ b = a + 3 → ¬ b = a + 3 → jv B J' b = jv B J b
/-- cells of the reference that a fun leaves -/
def oF (B b : Nat) : Prop := ¬ b = B + 46 ∧ ¬ b = B + 49 ∧ ¬ b = B + 50 ∧ ¬ b = B + 51 ∧ ¬ b = B + 52 ∧ ¬ b = B + 53 ∧ ¬ b = B + 54 ∧ ¬ b = B + 55 ∧ ¬ b = B + 56 ∧ ¬ b = B + 57
def FFm (B f m : Nat) (I : aI) (J : aJ) (I' : aI) (J' : aJ) : Prop := (∀ b, b < m → oF B b → I' b = I b) ∧ (∀ k, ¬ k = 5 → ¬ k = 13 → k < 22 ∨ 31 < k → I' (B + 46) k = I (B + 46) k) ∧ (∀ k, ¬ k = f → I' (B + 50) k = I (B + 50) k) ∧ ∀ b, b < m → J' b = J b
theorem x_55 {dx : Nat} {Ix1 : aI} {R : aR} (H : Lay B w) (h56 : Cl K dx 56 [.ref (B + 2), .int (it 0), .int (it 0), .int (it 0)] w Ix Jx = some (none, w, Ix1, Jx)) (h : f_55_9 K 300 dx (B + 2) (it 0) w Ix1 Jx = some R) : Cl K (dx + 1) 55 [.ref (B + 2)] w Ix Jx = some R := by
  apply cl_55 (k := 300)
  unfold f_55
  simp only [it_lit, gO_e (yt2 H)]
  rw [h56]
  exact h
end FUNS

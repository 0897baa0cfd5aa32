/-! each op, with its halts -/
def HS (K : Nat → Value) (d B s m : Nat) (w : aW) (J : aJ) (G : aG) (I : aI) (c n : Nat → Int32) (j o av : Nat) : Prop :=
  (∃ hc : Nat, 2 ≤ hc ∧ hc ≤ 8 ∧ Cl K (d + 5) 159 [.ref (B + 29), .int (it o), .int (it av)] w I J = some (some (.int (it hc)), w, I, J) ∧ ∀ I' : aI, Cl K (d + 5) 180 [.ref (B + 46), .int (it o)] w (nw B n I') J = some (some (.int (it hc)), w, nw B n I', J))
  ∨ ((∀ I' : aI, Cl K (d + 5) 180 [.ref (B + 46), .int (it o)] w (nw B n I') J = some (some (.int (it 0)), w, nw B n I', J)) ∧ Sim K d B s m w J G I c n j o av)
section HS
variable {K : Nat → Value} {B d s m a N F hi pr j f p b : Nat} {fa : Nat → Nat → Nat} {oc ar : Nat → Nat} {sh : Nat → List Nat} {rc : Nat → Bool} {w : aW} {I I' : aI} {J : aJ} {c n : Nat → Int32}
theorem hs_put {o av ty : Nat} {vv : Int32} (H : Lay B w) (hp : w.2.1 (B + 29) 0 = some a) (ha : a = B + 8 ∨ a = B + 22) (TC : gTC (N, F, fa, oc, ar, sh, rc)) (gx : gX (N, F, fa, oc, ar, sh, rc) a I J) (X : XM B s m c I) (hm : m < 20) (R : mRel fa c n) (T : mTop N F fa oc ar sh n hi pr j f p b) (n0 : n 0 = it 0) (ho : o = 0 ∨ o = 1 ∨ o = 2 ∨ o = 3 ∨ o = 27) (ty3 : ty ≤ 3) (hs' : sh (p + 1) = ty :: sh p) (q2 : fa f 0 ≤ p + 1) (q3 : p + 1 < gEnd N F fa f) (q1 : p + 1 < 200) (hv : okv n ty vv) (av9 : av ≤ 99999)
    (hx : o = 0 ∧ vv = it av ∧ it (ty : Int) = it 0 ∨ o = 1 ∧ vv = it av ∧ it (ty : Int) = it 1 ∨ o = 2 ∧ vv = it 0 ∧ it (ty : Int) = it 3 ∨ (o = 3 ∧ av < 6 ∧ vv = c (89 + 8 * (j + 1 - 1) + av) ∧ ∃ f : Nat, c (87 + 8 * (j + 1 - 1)) = it f ∧ f < 5 ∧ it (ty : Int) = I (a + 6) (6 * f + av)) ∨ o = 27 ∧ vv = it 0 ∧ it (ty : Int) = it av)
    (hty : ∀ I' : aI, gM (N, F, fa, oc, ar, sh, rc) B I' → Cl K (d + 4) 122 [.ref (B + 46), .int (it o), .int (it av), .int (it f)] w (nw B n I') J = some (some (.int (it ty)), w, nw B n I', J)) (hy : (o = 0 ∨ o = 1) ∧ vv = it av ∨ (o = 2 ∨ o = 27) ∧ vv = it 0 ∨ o = 3 ∧ av < 6 ∧ vv = n (72 + 8 * (j + 1 - 1) + av)) : HS K d B s m w J (N, F, fa, oc, ar, sh, rc) I c n j o av := by
  have hP : PL w a := PLx H ha; obtain ⟨g1, g2, g3, g4, g5, g6, g7, g8, g9⟩ := tc_g TC; obtain ⟨a1, a2, a3, a4, a5, a6, a7, a8, a9, a10, a11, a12, a13, a14, a15, a16, a17, a18⟩ := id T; obtain ⟨x1, x2, x3, x4⟩ := id gx; have h3 : c 3 = it hi := R.2.2.2.1.trans a3; have h4 : c 4 = it ((j + 1 : Nat) : Int) := R.2.2.2.2.1.trans a1; have f1 : 1 ≤ j + 1 := Nat.le_add_left 1 j; have f2 : j + 1 ≤ 8 := a2
  have hw := fun I' : aI => s_180a (K := K) (d := d + 3) (J := J) (I := I') H a3 a4 ho
  by_cases h30 : hi = 30
  · simp only [if_pos h30] at hw
    exact Or.inl ⟨7, by omega, by omega, p159a H ho (h_160 H X h3 h4 f1 f2 a4 h30), hw⟩
  · simp only [if_neg h30] at hw
    refine Or.inr ⟨hw, sim_put H hp ha TC gx X hm R T n0 (by omega) ty3 hs' q2 q3 q1 hv ho (s_160 H X h3 h4 f1 f2 a4 hp hP (by omega) (by omega) hx) (fun I' gm => ?_)⟩
    exact c_188 (d := d + 1) (ty := it ty) (v := vv) (f := f) (p := p) (fr := j + 1) H a3 (by omega) f1 f2 a7 a8 (by omega) av9 (hty I' gm) hy
/-- ops 0 to 3 and 27 -/
theorem hs_a {s' : List Nat} (H : Lay B w) (hp : w.2.1 (B + 29) 0 = some a) (ha : a = B + 8 ∨ a = B + 22) (TC : gTC (N, F, fa, oc, ar, sh, rc)) (gx : gX (N, F, fa, oc, ar, sh, rc) a I J) (X : XM B s m c I) (hm : m < 20) (R : mRel fa c n) (T : mTop N F fa oc ar sh n hi pr j f p b) (n0 : n 0 = it 0) (hE : gEf fa f (oc p) (ar p) (sh p) s') (hs' : sh (p + 1) = s') (q2 : fa f 0 ≤ p + 1) (q3 : p + 1 < gEnd N F fa f) (q1 : p + 1 < 200) (av9 : ar p ≤ 99999) (ho : oc p = 0 ∨ oc p = 1 ∨ oc p = 2 ∨ oc p = 3 ∨ oc p = 27) : HS K d B s m w J (N, F, fa, oc, ar, sh, rc) I c n j (oc p) (ar p) := by
  have hP : PL w a := PLx H ha; obtain ⟨g1, g2, g3, g4, g5, g6, g7, g8, g9⟩ := tc_g TC; obtain ⟨a1, a2, a3, a4, a5, a6, a7, a8, a9, a10, a11, a12, a13, a14, a15, a16, a17, a18⟩ := id T; obtain ⟨x1, x2, x3, x4⟩ := id gx; have h3 : c 3 = it hi := R.2.2.2.1.trans a3; have h4 : c 4 = it ((j + 1 : Nat) : Int) := R.2.2.2.2.1.trans a1; have f1 : 1 ≤ j + 1 := Nat.le_add_left 1 j; have f2 : j + 1 ≤ 8 := a2
  rcases hE with ⟨o1, e1⟩ | ⟨o1, o2, e1⟩ | ⟨o1, e1⟩ | ⟨o1, o2, e1⟩ | ⟨o1, _⟩ | ⟨r, h⟩ | ⟨o1, _⟩ | ⟨o1, _⟩ | ⟨o1, _⟩ | ⟨o1, _⟩ | ⟨o1, _⟩ | ⟨o1, _⟩ | ⟨o1, e0, e1, e2⟩
  · rw [e1] at hs'
    refine hs_put (ty := 0) (vv := it (ar p)) H hp ha TC gx X hm R T n0 ho (by omega) hs' q2 q3 q1 (Or.inl (by omega)) av9 (Or.inl ⟨o1, rfl, rfl⟩) (fun I' gm => ?_) (Or.inl ⟨by omega, rfl⟩)
    rw [o1]
    exact s_122 (o := 0) (by omega) (by omega) (by omega)
  · rw [e1] at hs'
    refine hs_put (ty := 1) (vv := it (ar p)) H hp ha TC gx X hm R T n0 ho (by omega) hs' q2 q3 q1 (Or.inl (by omega)) av9 (Or.inr (Or.inl ⟨o1, rfl, rfl⟩)) (fun I' gm => ?_) (Or.inl ⟨by omega, rfl⟩)
    rw [o1]
    exact s_122 (o := 1) (by omega) (by omega) (by omega)
  · rw [e1] at hs'
    refine hs_put (ty := 3) (vv := it 0) H hp ha TC gx X hm R T n0 ho (by omega) hs' q2 q3 q1 (Or.inr (Or.inl rfl)) av9 (Or.inr (Or.inr (Or.inl ⟨o1, rfl, rfl⟩))) (fun I' gm => ?_) (Or.inr (Or.inl ⟨by omega, rfl⟩))
    rw [o1]
    exact s_122 (o := 2) (by omega) (by omega) (by omega)
  · rw [e1] at hs'
    have v6 := g3 f a9
    have t3 := g4 f a9 _ o2
    obtain ⟨p1, p2, p3⟩ := rel_p R a1 a2
    obtain ⟨f', p', b1, b2, b3, b4, b5⟩ := a17 j (by omega)
    have ef : f' = f := it_inj (by omega) (by omega) (b3.symm.trans a7)
    subst ef
    have ev : c (89 + 8 * j + ar p) = n (72 + 8 * j + ar p) := p3 f' _ a7 (by omega) o2 (by omega)
    refine hs_put (ty := fa f' (4 + ar p)) (vv := n (72 + 8 * j + ar p)) H hp ha TC gx X hm R T n0 ho t3 hs' q2 q3 q1 (b5 _ o2) av9 (Or.inr (Or.inr (Or.inr (Or.inl ⟨o1, by omega, ev.symm, f', p1.trans a7, by omega, ((x4 f' a9).2 _ o2).symm⟩)))) (fun I' gm => ?_) (Or.inr (Or.inr ⟨o1, by omega, rfl⟩))
    rw [o1]
    have := s_122v (K := K) (d := d + 3) (J := J) (I := nw B n I') (a := ar p) (f := f') H (by omega) (by omega)
    rw [nw_o (by omega), (gm.2.2.2 f' a9).2 _ o2] at this
    exact this
  · omega
  · exfalso
    rcases h with h | h | h | h | h | h | h | h | h | h | h | h <;> omega
  · omega
  · omega
  · omega
  · omega
  · omega
  · omega
  · rw [e2] at hs'
    have t3 := g6 f a9
    refine hs_put (ty := ar p) (vv := it 0) H hp ha TC gx X hm R T n0 ho (by omega) (by rw [e0]; exact hs') q2 q3 q1 (Or.inr (Or.inl rfl)) av9 (Or.inr (Or.inr (Or.inr (Or.inr ⟨o1, rfl, rfl⟩)))) (fun I' gm => ?_) (Or.inr (Or.inl ⟨by omega, rfl⟩))
    rw [o1]
    exact s_122t
/-- ops that take and put, no objects -/
theorem hs_op {q r : List Nat} {ty o av tk : Nat} {v : Int32} (H : Lay B w) (hp : w.2.1 (B + 29) 0 = some a) (ha : a = B + 8 ∨ a = B + 22) (TC : gTC (N, F, fa, oc, ar, sh, rc)) (gx : gX (N, F, fa, oc, ar, sh, rc) a I J) (X : XM B s m c I) (hm : m < 20) (R : mRel fa c n) (T : mTop N F fa oc ar sh n hi pr j f p b) (n0 : n 0 = it 0) (hsh : sh p = q ++ r) (hs' : sh (p + 1) = ty :: r) (hq : q.length = tk) (tk1 : 1 ≤ tk) (t3 : ty ≤ 3) (hv : okv n ty v) (q2 : fa f 0 ≤ p + 1) (q3 : p + 1 < gEnd N F fa f) (q1 : p + 1 < 200) (o5 : 5 ≤ o) (o20 : o ≤ 20) (hk : tK o = tk) (hpt : it (pT o) = it ty)
    (hX : Cl K (d + 5) 159 [.ref (B + 29), .int (it o), .int (it av)] w I J = some (some (.int (it 0)), w, wrs B s m (wR hi (j + 1) tk (c (88 + 8 * (j + 1 - 1))) v (it ty)) I, J))
    (hG : ∀ (I' : aI) (n' : Nat → Int32), gM (N, F, fa, oc, ar, sh, rc) B I' → (∀ i, ¬ i = 71 + 8 * j → n' i = n i) → Cl K (d + 4) 192 [.ref (B + 46), .int (it o), .int (it av)] w (nw B n' I') J = some (some (.int v), w, nw B (ap [] n') I', J)) : Sim K d B s m w J (N, F, fa, oc, ar, sh, rc) I c n j o av := by
  have hP : PL w a := PLx H ha; obtain ⟨g1, g2, g3, g4, g5, g6, g7, g8, g9⟩ := tc_g TC; obtain ⟨a1, a2, a3, a4, a5, a6, a7, a8, a9, a10, a11, a12, a13, a14, a15, a16, a17, a18⟩ := id T; obtain ⟨x1, x2, x3, x4⟩ := id gx; have h3 : c 3 = it hi := R.2.2.2.1.trans a3; have h4 : c 4 = it ((j + 1 : Nat) : Int) := R.2.2.2.2.1.trans a1; have f1 : 1 ≤ j + 1 := Nat.le_add_left 1 j; have f2 : j + 1 ≤ 8 := a2
  have hlen : (sh p).length = tk + r.length := by rw [hsh, List.length_append, hq]
  refine sim_op (wo := []) (wg := []) (v := v) H hp ha TC gx X hm R T n0 R T n0 hsh hs' hq tk1 t3 hv q2 q3 q1 (by show 0 ≤ 11; omega) (fun e he => by cases he) (fun e he => by cases he) hX (fun I' gm => ?_)
  have hG' := hG I' (sm_up1 n (71 + 8 * j) (it (p + 1))) gm (fun i hi => up1_n hi)
  have := d_188 (d := d + 1) (wg := []) (v := v) (a := it av) (f := f) (p := p) (fr := j + 1) (hi := hi) (o := o) H f1 f2 a4 a7 a8 (by omega) o5 o20 (by omega) (by omega) hG' (by show sm_up1 n (71 + 8 * (j + 1 - 1)) _ 2 = _; rw [up1_n (by omega)]; exact a3)
  rw [hk, hpt] at this
  exact this
end HS

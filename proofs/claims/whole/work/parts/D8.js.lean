/-! both put a place, ask for types, note a name -/
section JSS
variable {K : Nat → Value} {B d e a : Nat} {w wm : aW} {Ix Im : aI} {Jx Jm : aJ} {bs : Nat → Nat} {t n c r s sl : Nat} {pd dp : Int} {G : gG} {Q : Prop}
theorem JS_em {o g k : Nat} {gx gm tyx : Int32} {b : Bool} (ha : a = B + 8 ∨ a = B + 22) (H : Lay B w) (hp : w.2.1 (B + 2) 1 = some a) (Hm : Lay B wm) (h : JS B a bs t n pd dp c r s (sl + 1) G Q Ix Jx Im) (hn : n ≤ 240) (hk : k ≤ 240) (hb : b = true ↔ ¬ tyx = it (-1)) (τ : Nat) (pre rest : List Nat)
    (hQ : Q → gx = it g ∧ gm = it g ∧ G.2.2.2 G.1 = pre ++ rest ∧ pre.length = k ∧ rest.length < 125 ∧ (b = true → tyx = it τ ∧ τ ≤ 3)) :
    ∃ Ix' Jx' Im', Cl K (d + 2) 58 [.ref (B + 2), .int (it o), .int gx, .int (it k), .int tyx] w Ix Jx = some (none, w, Ix', Jx') ∧ Cl K (e + 1) 111 [.ref (B + 46), .int (it o), .int gm] wm Im Jm = some (none, wm, Im', Jm) ∧ FEx B a Ix Jx Ix' Jx' ∧ FMx B wm.2.2.1 Im Jm Im' Jm ∧ JS B a bs t n pd dp c r s sl (gE1 G o g (if b = true then τ :: rest else rest)) Q Ix' Jx' Im' := by
  obtain ⟨h, Nx, Nm, nfx, nfm, tfx, tfm, x, m, b1, b2, f⟩ := h
  have hc := x.1.2.2.2.1
  obtain ⟨Ix', Jx', y1, z1, z2, z3, z4, z5, z6⟩ := s_58 (K := K) (d := d) (J := Jx) (o := it o) (g := gx) (ty := tyx) (k := k) (b := b) ha H hp x (by omega) hk hb
  obtain ⟨Im', u1, u2, u3, u4⟩ := s_111 (K := K) (d := e) (J := Jm) (o := it o) (g := gm) (m := wm.2.2.1) Hm m (by omega)
  refine ⟨Ix', Jx', Im', y1, u1, z1, u2, _, _, _, _, _, _, _, z2, u3, by omega, by omega, fun r0 => ⟨(f r0).1, (f r0).2.imp id ?_⟩⟩
  rintro ⟨⟨g1, g2, g3, g4, g5, g6, g7, g8⟩, hq⟩
  obtain ⟨q1, q2, q3, q4, q5, q6⟩ := hQ hq
  have c1 := g7.1
  have hl : h - k = rest.length := by rw [c1, q3, List.length_append, q4]; omega
  subst g5
  obtain ⟨w1, w2⟩ := CX_e (I' := Ix') (J' := Jx') (oo := o) (gg := g) g7 q3 q4 rfl q1 z3 z4 z5
  refine ⟨⟨g1, g2, g3, g4, rfl, by show Nm + 1 = G.1 + 1; rw [g6], ?_, ?_⟩, hq⟩
  · cases b with
    | false =>
      have hh : hE h k false = h - k := by unfold hE; rw [if_neg (by decide)]
      rw [hh]
      exact w1
    | true =>
      have hh : hE h k true = h - k + 1 := by unfold hE; rw [if_pos rfl, if_pos (by omega)]
      obtain ⟨t1, t2⟩ := q6 rfl
      have z6' := z6 rfl (by omega)
      rw [t1] at z6'
      rw [hh]
      exact w2 τ t2 z6'.1 z6'.2
  · intro pp p1 p2
    obtain ⟨i1, i2⟩ := u4 pp p2
    rw [i1, i2]
    show (if pp = Nm then it o else Im (B + 56) pp) = it (sm_up1 G.2.1 G.1 o pp : Nat) ∧ (if pp = Nm then gm else Im (B + 57) pp) = it (sm_up1 G.2.2.1 G.1 g pp : Nat)
    rw [g6]
    by_cases e : pp = G.1
    · rw [if_pos e, if_pos e, e, up1_s, up1_s]; exact ⟨rfl, q2⟩
    · rw [if_neg e, if_neg e, up1_n e, up1_n e]
      exact g8 pp (by have : pp < G.1 + 1 := p1; omega) p2
/-- both ask whether types fit -/
theorem JS_ty {p : Nat} (qx qm : Prop) [Decidable qx] [Decidable qm] (ha : a = B + 8 ∨ a = B + 22) (H : Lay B w) (Hm : Lay B wm) (h : JS B a bs t n pd dp c r s sl G Q Ix Jx Im) (hpp : p ≤ 240) (hQ : Q → (qx ↔ qm)) :
    ∃ Ix' Im', Cl K (d + 1) 68 [.ref (B + 2), .int (it (if qx then 1 else 0)), .int (it p)] w Ix Jx = some (none, w, Ix', Jx) ∧ Cl K (e + 1) 110 [.ref (B + 46), .int (it (if qm then 1 else 0)), .int (it p)] wm Im Jm = some (none, wm, Im', Jm) ∧ FEx B a Ix Jx Ix' Jx ∧ FMx B wm.2.2.1 Im Jm Im' Jm ∧ JS B a bs t n pd dp c r s sl G (Q ∧ qx) Ix' Jx Im' ∧ Ix' (B + 17) = Ix (B + 17) := by
  obtain ⟨h, Nx, Nm, nfx, nfm, tfx, tfm, x, m, b1, b2, f⟩ := h
  obtain ⟨Ix', y1, y2, y3, y4, y5, y6⟩ := s_68 (K := K) (d := d) (J := Jx) (p := p) qx ha H x hpp
  obtain ⟨Im', v1, v2, v3, v4, v5⟩ := s_110 (K := K) (d := e) (J := Jm) (p := p) (m := wm.2.2.1) qm Hm m hpp
  refine ⟨Ix', Im', y1, v1, y2, v2, ⟨_, _, _, _, _, _, _, y3, v3, b1, b2, fun r0 => ⟨(f r0).1, ?_⟩⟩, y4⟩
  rw [mT_e r0]
  rcases (f r0).2 with f2 | ⟨⟨g1, g2, g3, g4, g5, g6, ⟨w1, w2, w3, w4⟩, g8⟩, hq⟩
  · left
    rcases f2 with f2 | ⟨e1, e2⟩
    · exact Or.inl f2
    · right
      rw [if_neg (by omega), if_neg (by omega)]
      exact ⟨e1, e2⟩
  · by_cases e : qx
    · right
      rw [if_neg (show ¬ (¬ qx ∧ tfx < 0) from fun z => z.1 e), if_neg (show ¬ (¬ qm ∧ tfm < 0) from fun z => z.1 ((hQ hq).mp e))]
      refine ⟨⟨g1, g2, g3, g4, g5, g6, ⟨w1, by rw [y4]; exact w2, w3, by rw [y5, y6]; exact w4⟩, ?_⟩, hq, e⟩
      intro pp; rw [v4, v5]; exact g8 pp
    · left
      right
      rw [if_pos (show ¬ qx ∧ tfx < 0 from ⟨e, by omega⟩), if_pos (show ¬ qm ∧ tfm < 0 from ⟨fun z => e ((hQ hq).mpr z), by omega⟩)]
      exact ⟨rfl, by omega⟩
theorem mm_n {x y : Int} {p : Nat} : mm (mnf x p) y = mnf (mm x y) p := by
  unfold mm mnf
  by_cases h1 : x < 0 <;> by_cases h2 : y < 0 <;> by_cases h3 : y < x <;> by_cases h4 : (p : Int) < x <;> by_cases h5 : (p : Int) < y <;> by_cases h6 : y < (p : Int) <;> simp only [h1, h2, h3, h4, h5, h6, if_true, if_false] <;> (repeat (first | rw [if_pos (by omega)] | rw [if_neg (by omega)])) <;> omega
/-- the reference notes what the class notes, or both have a name fault ahead -/
theorem JS_nm {p : Nat} (q : Prop) [Decidable q] (ha : a = B + 8 ∨ a = B + 22) (H : Lay B w) (Hm : Lay B wm) (h : JS B a bs t n pd dp c r s sl G Q Ix Jx Im) (hpp : p ≤ 240) (hq : ¬ q) :
    ∃ Ix' Im', Cl K (d + 1) 48 [.ref (B + 2), .int (it p)] w Ix Jx = some (none, w, Ix', Jx) ∧ Cl K (e + 1) 92 [.ref (B + 46), .int (it 0), .int (it p)] wm Im Jm = some (none, wm, Im', Jm) ∧ FEx B a Ix Jx Ix' Jx ∧ FMx B wm.2.2.1 Im Jm Im' Jm ∧ JS B a bs t n pd dp c r s sl G False Ix' Jx Im' := by
  obtain ⟨h, Nx, Nm, nfx, nfm, tfx, tfm, x, m, b1, b2, f⟩ := h
  obtain ⟨Ix', y1, y2, y3, y4, y5, y6⟩ := s_48 (K := K) (d := d) (J := Jx) (p := p) ha H x hpp
  obtain ⟨Im', v1, v2, v3, v4, v5⟩ := s_92 (K := K) (d := e) (J := Jm) (p := p) (m := wm.2.2.1) False Hm m hpp
  refine ⟨Ix', Im', y1, v1, y2, v2, _, _, _, _, _, _, _, y3, v3, b1, b2, fun r0 => ?_⟩
  obtain ⟨⟨f1, f2⟩, f3⟩ := f r0
  have e : mN r False nfm p = mnf nfm p := by unfold mN; rw [if_pos ⟨r0, fun z => z⟩]
  rw [e]
  refine ⟨⟨by rw [mm_n, f1], fun z => ?_⟩, Or.inl (Or.inl ?_)⟩
  · have := f2 z
    unfold mnf
    split <;> (try split) <;> omega
  · unfold mnf
    split <;> (try split) <;> omega
/-- only one of both notes a name, and there is a name fault ahead -/
theorem JS_nd {p : Nat} (q : Prop) [Decidable q] (Hm : Lay B wm) (h : JS B a bs t n pd dp c r s sl G Q Ix Jx Im) (hpp : p ≤ 240) (hq : r = 0 → q ∨ (0 ≤ dp ∧ dp ≤ p)) :
    ∃ Im', Cl K (e + 1) 92 [.ref (B + 46), .int (it (if q then 1 else 0)), .int (it p)] wm Im Jm = some (none, wm, Im', Jm) ∧ FMx B wm.2.2.1 Im Jm Im' Jm ∧ JS B a bs t n pd dp c r s sl G (Q ∧ q) Ix Jx Im' := by
  obtain ⟨h, Nx, Nm, nfx, nfm, tfx, tfm, x, m, b1, b2, f⟩ := h
  obtain ⟨Im', v1, v2, v3, v4, v5⟩ := s_92 (K := K) (d := e) (J := Jm) (p := p) (m := wm.2.2.1) q Hm m hpp
  refine ⟨Im', v1, v2, _, _, _, _, _, _, _, x, v3, b1, b2, fun r0 => ?_⟩
  obtain ⟨⟨f1, f2⟩, f3⟩ := f r0
  by_cases e : q
  · have e2 : mN r q nfm p = nfm := by unfold mN; rw [if_neg (fun z => z.2 e)]
    rw [e2]
    refine ⟨⟨f1, f2⟩, f3.imp id ?_⟩
    rintro ⟨⟨g1, g2, g3, g4, g5, g6, g7, g8⟩, z⟩
    refine ⟨⟨g1, g2, g3, g4, g5, g6, g7, ?_⟩, z, e⟩
    intro pp; rw [v4, v5]; exact g8 pp
  · rcases hq r0 with z | ⟨z1, z2⟩
    · exact absurd z e
    · have hd := f2 z1
      have hm : 0 ≤ nfm ∧ nfm ≤ p := by
        rw [f1]; unfold mm
        split <;> (try split) <;> (try split) <;> omega
      have e2 : mN r q nfm p = nfm := by
        unfold mN
        rw [if_pos ⟨r0, e⟩]
        unfold mnf
        rw [if_neg (by omega), if_neg (by omega)]
      rw [e2]
      exact ⟨⟨f1, f2⟩, Or.inl (Or.inl hm.1)⟩
theorem JS_xd {p : Nat} (ha : a = B + 8 ∨ a = B + 22) (H : Lay B w) (h : JS B a bs t n pd dp c r s sl G Q Ix Jx Im) (hpp : p ≤ 240) (hq : r = 0 → 0 ≤ dp ∧ dp ≤ p) :
    ∃ Ix', Cl K (d + 1) 48 [.ref (B + 2), .int (it p)] w Ix Jx = some (none, w, Ix', Jx) ∧ FEx B a Ix Jx Ix' Jx ∧ JS B a bs t n pd dp c r s sl G False Ix' Jx Im := by
  obtain ⟨h, Nx, Nm, nfx, nfm, tfx, tfm, x, m, b1, b2, f⟩ := h
  obtain ⟨Ix', y1, y2, y3, y4, y5, y6⟩ := s_48 (K := K) (d := d) (J := Jx) (p := p) ha H x hpp
  refine ⟨Ix', y1, y2, _, _, _, _, _, _, _, y3, m, b1, b2, fun r0 => ?_⟩
  obtain ⟨⟨f1, f2⟩, f3⟩ := f r0
  obtain ⟨z1, z2⟩ := hq r0
  have hd := f2 z1
  have e2 : mnf nfx p = nfx := by
    unfold mnf
    rw [if_neg (by omega), if_neg (by omega)]
  rw [e2]
  refine ⟨⟨f1, f2⟩, Or.inl (Or.inl ?_)⟩
  rw [f1]; unfold mm
  split <;> (try split) <;> (try split) <;> omega
end JSS

/-! both at an E -/
/-- code and shapes so far -/
abbrev gG : Type := Nat × (Nat → Nat) × (Nat → Nat) × (Nat → List Nat)
/-- the code as the reference has it so far -/
def CMr (B N : Nat) (oc ar : Nat → Nat) (I : aI) : Prop := ∀ p, p < N → p < 300 → I (B + 56) p = it (oc p) ∧ I (B + 57) p = it (ar p)
/-- the least of two faults, either of which may be missing -/
def mm (x y : Int) : Int := if x < 0 then y else if y < 0 then x else if y < x then y else x
/-- a fault that makes all of the code count for nothing -/
def Bd (nfm tfx tfm : Int) : Prop := 0 ≤ nfm ∨ (tfx = tfm ∧ 0 ≤ tfx)
/-- no fault so far -/
def Fu (B a : Nat) (G : gG) (h Nx Nm : Nat) (nfx nfm tfx tfm : Int) (Ix : aI) (Jx : aJ) (Im : aI) : Prop := nfx = -1 ∧ nfm = -1 ∧ tfx = -1 ∧ tfm = -1 ∧ Nx = G.1 ∧ Nm = G.1 ∧ CX B a G.1 G.2.1 G.2.2.1 G.2.2.2 h Ix Jx ∧ CMr B G.1 G.2.1 G.2.2.1 Im
/-- both at the token c; pd: the place of a declaration that the class looks at later; dp: if it is no less than 0, there is a name fault up to it; Q: what is known if there is no fault; sl: places that may still come without a token -/
def JS (B a : Nat) (bs : Nat → Nat) (t n : Nat) (pd dp : Int) (c r s sl : Nat) (G : gG) (Q : Prop) (Ix : aI) (Jx : aJ) (Im : aI) : Prop := ∃ (h Nx Nm : Nat) (nfx nfm tfx tfm : Int), XE B a bs t n c r h Nx nfx tfx Ix ∧ ME B bs t n c r s Nm nfm tfm Im ∧ Nx + sl ≤ 500 + c ∧ Nm + sl ≤ 500 + c ∧ (r = 0 → (nfm = mm nfx pd ∧ (0 ≤ dp → 0 ≤ nfx ∧ nfx ≤ dp)) ∧ (Bd nfm tfx tfm ∨ (Fu B a G h Nx Nm nfx nfm tfx tfm Ix Jx Im ∧ Q)))
section JSS
variable {K : Nat → Value} {B d e a : Nat} {w wm : aW} {Ix Im : aI} {Jx Jm : aJ} {bs : Nat → Nat} {t n c r s sl : Nat} {pd dp : Int} {G : gG} {Q : Prop}
theorem JS_c (h : JS B a bs t n pd dp c r s sl G Q Ix Jx Im) : c ≤ n ∧ r ≤ 1 ∧ XT B bs t n c r Ix ∧ MR B bs t n c r Im := by
  obtain ⟨h, Nx, Nm, nfx, nfm, tfx, tfm, x, m, _⟩ := h
  exact ⟨x.1.2.2.2.1, x.1.2.2.2.2, x.1, m.1⟩
theorem JS_m {Q' : Prop} {sl' : Nat} (hq : Q → Q') (hs : sl' ≤ sl) (h : JS B a bs t n pd dp c r s sl G Q Ix Jx Im) : JS B a bs t n pd dp c r s sl' G Q' Ix Jx Im := by
  obtain ⟨h, Nx, Nm, nfx, nfm, tfx, tfm, x, m, b1, b2, f⟩ := h
  exact ⟨h, Nx, Nm, nfx, nfm, tfx, tfm, x, m, by omega, by omega, fun e => ⟨(f e).1, (f e).2.imp id (fun z => ⟨z.1, hq z.2⟩)⟩⟩
/-- both go to another token; r' can only rise -/
theorem JS_k {Ix' Im' : aI} {c' r' sl' : Nat} (ha : a = B + 8 ∨ a = B + 22) (h : JS B a bs t n pd dp c r s sl G Q Ix Jx Im) (x3 : FX3 B Ix Ix') (xT : XT B bs t n c' r' Ix') (m6 : FM6 B Im Im') (mT : MR B bs t n c' r' Im') (hs : sl' + c ≤ sl + c') (hr : r' = 0 → r = 0) : JS B a bs t n pd dp c' r' s sl' G Q Ix' Jx Im' := by
  obtain ⟨h, Nx, Nm, nfx, nfm, tfx, tfm, x, m, b1, b2, f⟩ := h
  refine ⟨h, Nx, Nm, nfx, nfm, tfx, tfm, XE_3 ha x x3 xT, ME_6 m m6 mT, by omega, by omega, fun e => ⟨(f (hr e)).1, (f (hr e)).2.imp id (fun z => ⟨?_, z.2⟩)⟩⟩
  obtain ⟨f1, f2, f3, f4, f5, f6, ⟨g1, g2, g3, g4⟩, f8⟩ := z.1
  refine ⟨f1, f2, f3, f4, f5, f6, ⟨g1, ?_, g3, ?_⟩, ?_⟩
  · rw [x3 (B + 17) (by omega)]; exact g2
  · rw [x3 (a + 1) (by omega), x3 (a + 2) (by omega)]; exact g4
  · intro p; rw [m6.1 (B + 56) (by omega), m6.1 (B + 57) (by omega)]; exact f8 p
theorem mT_e {r : Nat} {q : Prop} [Decidable q] {tf p : Int} (h : r = 0) : mT r q tf p = if ¬ q ∧ tf < 0 then p else tf := by
  unfold mT
  by_cases e : ¬ q ∧ tf < 0
  · rw [if_pos e, if_pos ⟨⟨h, e.1⟩, e.2⟩]
  · rw [if_neg e, if_neg (fun z => e ⟨z.1.2, z.2⟩)]
/-- the new code behind an op -/
def gE1 (G : gG) (o g : Nat) (st : List Nat) : gG := (G.1 + 1, sm_up1 G.2.1 G.1 o, sm_up1 G.2.2.1 G.1 g, sm_up1 G.2.2.2 (G.1 + 1) st)
/-- do the types fit the op -/
abbrev fitN (o u l : Nat) : Prop := (o = 16 ∧ u = l ∧ u ≤ 1) ∨ (¬ o = 16 ∧ tbl 3 (o - 5) = it (u : Int) ∧ (o < 11 ∨ tbl 1 (o - 5) = it (l : Int)))
theorem tTop_e {h N : Nat} {oc ar : Nat → Nat} {sh : Nat → List Nat} {i : Nat} (hC : CX B a N oc ar sh h Ix Jx) (i1 : 1 ≤ i) (i2 : i ≤ (sh N).length) : tTop B h i Ix = it ((sh N).getD (i - 1) 0 : Nat) := by
  obtain ⟨c1, c2, c3, c4⟩ := hC
  unfold tTop
  rw [if_pos (by omega), c2 _ (by omega)]
  congr 2
  rw [List.getD_eq_getElem?_getD, List.getD_eq_getElem?_getD, List.getElem?_reverse (by omega)]
  congr 2
  omega
/-- the class operates, the reference checks and puts -/
theorem JS_op {o p : Nat} (q : Prop) [Decidable q] (k : Nat) (ha : a = B + 8 ∨ a = B + 22) (H : Lay B w) (hO : StO K B w Ix) (hp : w.2.1 (B + 2) 1 = some a) (Hm : Lay B wm) (h : JS B a bs t n pd dp c r s (sl + 1) G Q Ix Jx Im) (ht : n ≤ 240) (o5 : 5 ≤ o) (o20 : o ≤ 20) (hpp : p ≤ 240) (u l : Nat) (rest : List Nat) (hk : k = if o < 11 then 1 else 2)
    (hQ : Q → u ≤ 3 ∧ l ≤ 3 ∧ G.2.2.2 G.1 = (if o < 11 then u :: rest else u :: l :: rest) ∧ rest.length < 120 ∧ (q ↔ fitN o u l)) (τ : Nat) (hτ : tbl 2 (o - 5) = it (τ : Int)) (τ3 : τ ≤ 3) :
    ∃ Ix' Jx' Im1 Im', Cl K (d + 3) 66 [.ref (B + 2), .int (it o), .int (it p)] w Ix Jx = some (none, w, Ix', Jx') ∧ Cl K (e + 1) 110 [.ref (B + 46), .int (it (if q then 1 else 0)), .int (it p)] wm Im Jm = some (none, wm, Im1, Jm) ∧ Cl K (e + 1) 111 [.ref (B + 46), .int (it o), .int (it 0)] wm Im1 Jm = some (none, wm, Im', Jm) ∧ FEx B a Ix Jx Ix' Jx' ∧ FMx B wm.2.2.1 Im Jm Im' Jm ∧ JS B a bs t n pd dp c r s sl (gE1 G o 0 (τ :: rest)) (Q ∧ fitN o u l) Ix' Jx' Im' := by
  obtain ⟨h, Nx, Nm, nfx, nfm, tfx, tfm, x, m, b1, b2, f⟩ := h
  have hc := x.1.2.2.2.1
  obtain ⟨Ix', Jx', I1, y1, y2, y3, y4, y5, z1, z2, z3, z4, z5, z6⟩ := s_66 (K := K) (d := d) (J := Jx) (o := o) (p := p) ha H hO hp x (by omega) o5 o20 hpp
  obtain ⟨Im1, v1, v2, v3, v4, v5⟩ := s_110 (K := K) (d := e) (J := Jm) (p := p) (m := wm.2.2.1) q Hm m hpp
  obtain ⟨Im', u1, u2, u3, u4⟩ := s_111 (K := K) (d := e) (J := Jm) (o := it o) (g := it 0) (m := wm.2.2.1) Hm v3 (by omega)
  refine ⟨Ix', Jx', Im1, Im', y1, v1, u1, FEx_t y2 z1, FMx_t (Nat.le_refl _) v2 u2, _, _, _, _, _, _, _, z2, u3, by omega, by omega, fun r0 => ?_⟩
  obtain ⟨f1, f2⟩ := f r0
  refine ⟨f1, ?_⟩
  rw [mT_e r0]
  rcases f2 with f2 | ⟨⟨g1, g2, g3, g4, g5, g6, g7, g8⟩, hq⟩
  · left
    rcases f2 with f2 | ⟨e1, e2⟩
    · exact Or.inl f2
    · right
      rw [if_neg (by omega), if_neg (by omega)]
      exact ⟨e1, e2⟩
  · obtain ⟨q1, q2, q3, q4, q5⟩ := hQ hq
    have c1 := g7.1
    have hT1 : tTop B h 1 Ix = it (u : Int) := by
      rw [tTop_e g7 (by omega) (by rw [q3]; split <;> simp), q3]
      split <;> rfl
    have hL : (o < 11 ∧ lTop B h o Ix = it (-1)) ∨ (¬ o < 11 ∧ lTop B h o Ix = it (l : Int)) := by
      unfold lTop
      by_cases e : o < 11
      · left; rw [if_pos e]; exact ⟨e, rfl⟩
      · right
        rw [if_neg e, tTop_e g7 (by omega) (by rw [q3, if_neg e]; simp), q3, if_neg e]
        exact ⟨e, rfl⟩
    have iff : oFit B h o Ix ↔ fitN o u l := by
      unfold oFit fitN
      rw [hT1]
      constructor
      · rintro (⟨e1, e2, e3⟩ | ⟨e1, e2, e3⟩)
        · left
          rcases hL with ⟨e, _⟩ | ⟨_, e⟩
          · omega
          · rw [e] at e2
            have h1 := it_inj (by omega) (by omega) e2
            refine ⟨e1, h1, ?_⟩
            rcases e3 with e3 | e3
            · have := (it_eq (by omega) (by omega) (by omega) (by omega)).mp e3; omega
            · have := (it_eq (by omega) (by omega) (by omega) (by omega)).mp e3; omega
        · right
          refine ⟨e1, e2.symm, ?_⟩
          rcases hL with ⟨e, _⟩ | ⟨_, e⟩
          · exact Or.inl e
          · right; rw [← e3, e]
      · rintro (⟨e1, e2, e3⟩ | ⟨e1, e2, e3⟩)
        · left
          refine ⟨e1, ?_, ?_⟩
          · rcases hL with ⟨e, _⟩ | ⟨_, e⟩
            · omega
            · rw [e, e2]
          · have : u = 0 ∨ u = 1 := by omega
            rcases this with e | e
            · left; rw [e]; rfl
            · right; rw [e]; rfl
        · right
          refine ⟨e1, e2.symm, ?_⟩
          rcases hL with ⟨e, e'⟩ | ⟨e, e'⟩
          · rw [e']
            have : ∀ j : Fin 6, it (-1) = tbl 1 j.val := by decide +kernel
            exact this ⟨o - 5, by omega⟩
          · rcases e3 with e3 | e3
            · exact absurd e3 e
            · rw [e', e3]
    by_cases fit : fitN o u l
    · right
      have fq : q := q5.mpr fit
      have fo := iff.mpr fit
      rw [if_neg (show ¬ (¬ oFit B h o Ix ∧ tfx < 0) from fun z => z.1 fo), if_neg (show ¬ (¬ q ∧ tfm < 0) from fun z => z.1 fq)]
      have kk : (if lTop B h o Ix = it (-1) then 1 else 2) = k := by
        rw [hk]
        rcases hL with ⟨e, e'⟩ | ⟨e, e'⟩
        · rw [if_pos e', if_pos e]
        · rw [if_neg e, e', if_neg (fun q => by have := (it_eq (by omega) (by omega) (by omega) (by omega)).mp q; omega)]
      rw [kk] at z4 z5 z6 ⊢
      have hsp : ∃ pre : List Nat, G.2.2.2 G.1 = pre ++ rest ∧ pre.length = k := by
        rw [q3, hk]
        by_cases e : o < 11
        · rw [if_pos e, if_pos e]; exact ⟨[u], rfl, rfl⟩
        · rw [if_neg e, if_neg e]; exact ⟨[u, l], rfl, rfl⟩
      obtain ⟨pre, p1, p2⟩ := hsp
      have hl : h - k = rest.length := by rw [c1, p1, List.length_append, p2]; omega
      have g7' : CX B a G.1 G.2.1 G.2.2.1 G.2.2.2 h I1 Jx := by
        obtain ⟨w1, w2, w3, w4⟩ := g7
        refine ⟨w1, by rw [y3]; exact w2, w3, by rw [y4, y5]; exact w4⟩
      subst g5
      obtain ⟨w1, w2⟩ := CX_e (I' := Ix') (J' := Jx') (oo := o) (gg := 0) g7' p1 p2 rfl rfl z3 z4 z5
      have z6' := z6 (by omega)
      rw [hτ] at z6'
      have w3 := w2 τ τ3 z6'.1 z6'.2
      have hh : hE h k true = h - k + 1 := by unfold hE; rw [if_pos rfl, if_pos (by omega)]
      refine ⟨⟨g1, g2, g3, g4, rfl, by show Nm + 1 = G.1 + 1; rw [g6], ?_, ?_⟩, hq, fit⟩
      · rw [hh]; exact w3
      · intro pp p1 p2
        obtain ⟨i1, i2⟩ := u4 pp p2
        rw [i1, i2, v4, v5]
        show (if pp = Nm then it o else Im (B + 56) pp) = it (sm_up1 G.2.1 G.1 o pp : Nat) ∧ (if pp = Nm then it 0 else Im (B + 57) pp) = it (sm_up1 G.2.2.1 G.1 0 pp : Nat)
        rw [g6]
        by_cases e : pp = G.1
        · rw [if_pos e, if_pos e, e, up1_s, up1_s]; exact ⟨rfl, rfl⟩
        · rw [if_neg e, if_neg e, up1_n e, up1_n e]
          exact g8 pp (by have : pp < G.1 + 1 := p1; omega) p2
    · left
      right
      rw [if_pos ⟨fun z => fit (iff.mp z), by omega⟩, if_pos ⟨fun z => fit (q5.mp z), by omega⟩]
      exact ⟨rfl, by omega⟩
end JSS

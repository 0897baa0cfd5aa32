/-! a call: one side alone behind a fault; the values given -/
section BAD
variable {K : Nat → Value} {B d e a : Nat} {w wm : aW} {Ix Im I : aI} {Jx Jm J : aJ} {bs : Nat → Nat} {t n c r s sl : Nat} {pd dp : Int} {G G' : gG} {Q : Prop} {fa : Nat → Nat → Nat} {f : Nat}
theorem JS_x68 {p : Nat} (q : Prop) [Decidable q] (ha : a = B + 8 ∨ a = B + 22) (H : Lay B w) (h : JS B a bs t n pd dp c r s sl G False Ix Jx Im) (hpp : p ≤ 240) : ∃ Ix', Cl K (d + 1) 68 [.ref (B + 2), .int (it (if q then 1 else 0)), .int (it p)] w Ix Jx = some (none, w, Ix', Jx) ∧ FEx B a Ix Jx Ix' Jx ∧ JS B a bs t n pd dp c r s sl G False Ix' Jx Im := by
  obtain ⟨h, Nx, Nm, nfx, nfm, tfx, tfm, x, m, b1, b2, f⟩ := h
  obtain ⟨Ix', y1, y2, y3, y4, y5, y6⟩ := s_68 (K := K) (d := d) (J := Jx) (p := p) q ha H x hpp
  refine ⟨Ix', y1, y2, _, _, _, _, _, _, _, y3, m, b1, b2, fun r0 => ⟨(f r0).1, Or.inl ?_⟩⟩
  rcases (f r0).2 with f2 | f2
  · rcases f2 with f2 | ⟨e1, e2⟩
    · exact Or.inl f2
    · right
      rw [if_neg (by omega)]
      exact ⟨e1, e2⟩
  · exact f2.2.elim
theorem JS_x58 {o g ty : Int32} {k : Nat} (ha : a = B + 8 ∨ a = B + 22) (H : Lay B w) (hp : w.2.1 (B + 2) 1 = some a) (hn : n ≤ 240) (hk : k ≤ 240) (h : JS B a bs t n pd dp c r s (sl + 1) G False Ix Jx Im) (hsl : ∀ Nm, Nm + (sl + 1) ≤ 500 + c → Nm + sl ≤ 500 + c) : ∃ Ix' Jx', Cl K (d + 2) 58 [.ref (B + 2), .int o, .int g, .int (it k), .int ty] w Ix Jx = some (none, w, Ix', Jx') ∧ FEx B a Ix Jx Ix' Jx' ∧ ∃ (h Nx Nm : Nat) (nfx nfm tfx tfm : Int), XE B a bs t n c r h Nx nfx tfx Ix' ∧ ME B bs t n c r s Nm nfm tfm Im ∧ Nx + sl ≤ 500 + c ∧ Nm + (sl + 1) ≤ 500 + c ∧ (r = 0 → (nfm = mm nfx pd ∧ (0 ≤ dp → 0 ≤ nfx ∧ nfx ≤ dp)) ∧ Bd nfm tfx tfm) := by
  obtain ⟨h, Nx, Nm, nfx, nfm, tfx, tfm, x, m, b1, b2, f⟩ := h
  have hc := x.1.2.2.2.1
  obtain ⟨Ix', Jx', y1, z1, z2, _⟩ := s_58 (K := K) (d := d) (J := Jx) (o := o) (g := g) (ty := ty) (k := k) (b := decide (¬ ty = it (-1))) ha H hp x (by omega) hk (by simp)
  refine ⟨Ix', Jx', y1, z1, _, _, _, _, _, _, _, z2, m, by omega, b2, fun r0 => ⟨(f r0).1, ?_⟩⟩
  rcases (f r0).2 with f2 | f2
  · exact f2
  · exact f2.2.elim
/-- behind a fault: the class has put a place, the reference none yet -/
def JSx (B a : Nat) (bs : Nat → Nat) (t n : Nat) (pd dp : Int) (c r s sl : Nat) (Ix Im : aI) : Prop := ∃ (h Nx Nm : Nat) (nfx nfm tfx tfm : Int), XE B a bs t n c r h Nx nfx tfx Ix ∧ ME B bs t n c r s Nm nfm tfm Im ∧ Nx + sl ≤ 500 + c ∧ Nm + (sl + 1) ≤ 500 + c ∧ (r = 0 → (nfm = mm nfx pd ∧ (0 ≤ dp → 0 ≤ nfx ∧ nfx ≤ dp)) ∧ Bd nfm tfx tfm)
theorem JSx_0 (h : JSx B a bs t n pd dp c r s sl Ix Im) : JS B a bs t n pd dp c r s sl G Q Ix Jx Im := by
  obtain ⟨h, Nx, Nm, nfx, nfm, tfx, tfm, x, m, b1, b2, f⟩ := h
  exact ⟨h, Nx, Nm, nfx, nfm, tfx, tfm, x, m, b1, by omega, fun r0 => ⟨(f r0).1, Or.inl (f r0).2⟩⟩
theorem JSx_110 {p : Nat} (q : Prop) [Decidable q] (Hm : Lay B wm) (h : JSx B a bs t n pd dp c r s sl Ix Im) (hpp : p ≤ 240) : ∃ Im', Cl K (e + 1) 110 [.ref (B + 46), .int (it (if q then 1 else 0)), .int (it p)] wm Im Jm = some (none, wm, Im', Jm) ∧ FMx B wm.2.2.1 Im Jm Im' Jm ∧ JSx B a bs t n pd dp c r s sl Ix Im' := by
  obtain ⟨h, Nx, Nm, nfx, nfm, tfx, tfm, x, m, b1, b2, f⟩ := h
  obtain ⟨Im', v1, v2, v3, v4, v5⟩ := s_110 (K := K) (d := e) (J := Jm) (p := p) (m := wm.2.2.1) q Hm m hpp
  refine ⟨Im', v1, v2, _, _, _, _, _, _, _, x, v3, b1, b2, fun r0 => ⟨(f r0).1, ?_⟩⟩
  rw [mT_e r0]
  rcases (f r0).2 with f2 | ⟨e1, e2⟩
  · exact Or.inl f2
  · right
    rw [if_neg (by omega)]
    exact ⟨e1, e2⟩
theorem JSx_111 {o g : Int32} (hn : n ≤ 240) (Hm : Lay B wm) (h : JSx B a bs t n pd dp c r s sl Ix Im) : ∃ Im', Cl K (e + 1) 111 [.ref (B + 46), .int o, .int g] wm Im Jm = some (none, wm, Im', Jm) ∧ FMx B wm.2.2.1 Im Jm Im' Jm ∧ ∀ (G : gG) (Q : Prop), JS B a bs t n pd dp c r s sl G Q Ix Jx Im' := by
  obtain ⟨h, Nx, Nm, nfx, nfm, tfx, tfm, x, m, b1, b2, f⟩ := h
  have hc := x.1.2.2.2.1
  obtain ⟨Im', u1, u2, u3, u4⟩ := s_111 (K := K) (d := e) (J := Jm) (o := o) (g := g) (m := wm.2.2.1) Hm m (by omega)
  exact ⟨Im', u1, u2, fun G Q => ⟨_, _, _, _, _, _, _, x, u3, b1, by omega, fun r0 => ⟨(f r0).1, Or.inl (f r0).2⟩⟩⟩
/-! values given, more than one -/
def Exs (fa : Nat → Nat → Nat) (f : Nat) (G G' : gG) (ts : List Nat) (b : Nat) : Prop := G.1 ≤ G'.1 ∧ (∀ p, p < G.1 → G'.2.1 p = G.2.1 p ∧ G'.2.2.1 p = G.2.2.1 p) ∧ (∀ p, p ≤ G.1 → G'.2.2.2 p = G.2.2.2 p) ∧ G'.2.2.2 G'.1 = ts ++ G.2.2.2 G.1 ∧ ∀ p, G.1 ≤ p → p < G'.1 → gEf fa f (G'.2.1 p) (G'.2.2.1 p) (G'.2.2.2 p) (G'.2.2.2 (p + 1)) ∧ G'.2.1 p ≤ 20 ∧ G'.2.2.1 p ≤ 99999 ∧ (G'.2.2.2 p).length ≤ (G.2.2.2 G.1).length + b
theorem Exs_0 {b : Nat} : Exs fa f G G [] b := ⟨Nat.le_refl _, fun _ _ => ⟨rfl, rfl⟩, fun _ _ => rfl, rfl, fun p h1 h2 => by omega⟩
theorem Exs_c {G1 G2 : gG} {ts : List Nat} {τ b b1 b2 : Nat} (hL : Exs fa f G G1 ts b1) (hR : Ext fa f G1 G2 τ b2) (h1 : b1 ≤ b) (h2 : ts.length + b2 ≤ b) : Exs fa f G G2 (τ :: ts) b := by
  obtain ⟨a1, a2, a3, a4, a5⟩ := hL
  obtain ⟨e1, e2, e3, e4, e5⟩ := hR
  refine ⟨by omega, fun p hp => ?_, fun p hp => ?_, by rw [e4, a4]; rfl, fun p p1 p2 => ?_⟩
  · rw [(e2 p (by omega)).1, (e2 p (by omega)).2]; exact a2 p hp
  · rw [e3 p (by omega)]; exact a3 p hp
  · by_cases e' : p < G1.1
    · rw [(e2 p e').1, (e2 p e').2, e3 p (by omega), e3 (p + 1) (by omega)]
      obtain ⟨z1, z2, z3, z4⟩ := a5 p p1 e'
      exact ⟨z1, z2, z3, by omega⟩
    · obtain ⟨z1, z2, z3, z4⟩ := e5 p (by omega) (by omega)
      refine ⟨z1, z2, z3, ?_⟩
      rw [a4, List.length_append] at z4
      omega
theorem Exs_k {G1 : gG} {ts : List Nat} {g τ b b1 : Nat} (hL : Exs fa f G G1 ts b1) (h1 : b1 ≤ b) (h2 : ts.length ≤ b) (hg : g ≤ 99999) (hf : gEf fa f 4 g (ts ++ G.2.2.2 G.1) (τ :: G.2.2.2 G.1)) : Ext fa f G (gE1 G1 4 g (τ :: G.2.2.2 G.1)) τ b := by
  obtain ⟨a1, a2, a3, a4, a5⟩ := hL
  obtain ⟨g1, g2, g3, g4, g5, g6⟩ := gE1_o (G := G1) (o := 4) (g := g) (st := τ :: G.2.2.2 G.1)
  refine ⟨by omega, fun p hp => ?_, fun p hp => ?_, by rw [g1, g6], fun p p1 p2 => ?_⟩
  · rw [(g2 p (by omega)).1, (g2 p (by omega)).2]; exact a2 p hp
  · rw [g5 p (by omega)]; exact a3 p hp
  · by_cases e : p = G1.1
    · subst e
      rw [g3, g4, g5 _ (by omega), g6, a4]
      exact ⟨hf, by omega, hg, by rw [List.length_append]; omega⟩
    · rw [(g2 p e).1, (g2 p e).2, g5 p (by omega), g5 (p + 1) (by omega)]
      obtain ⟨z1, z2, z3, z4⟩ := a5 p p1 (by omega)
      exact ⟨z1, z2, z3, by omega⟩
/-- a new cell of the reference -/
theorem WG_a {t n : Nat} : WG' wm (sm_alc wm t n 6) 1 := ⟨fun b hb => ⟨up1_n (by omega), up1_n (by omega)⟩, by show _ ≤ _ + 1; omega, Nat.le_refl _, Nat.le_refl _⟩
theorem FMx_a {x : Nat → Int32} {y : Nat → Int64} : FMx B wm.2.2.1 I J (sm_up1 I wm.2.2.1 x) (sm_up1 J wm.2.2.1 y) ∨ ¬ B + 46 < wm.2.2.1 := by
  by_cases h : B + 46 < wm.2.2.1
  · exact Or.inl ⟨fun b hb _ _ _ => up1_n (by omega), fun k _ _ _ _ _ _ _ _ _ => by rw [up1_n (by omega)], fun b hb => up1_n (by omega)⟩
  · exact Or.inr h
/-- a frame leaves the new cell -/
theorem FMx_q {m q : Nat} {I' : aI} {J' : aJ} (h : FMx B m I J I' J') (hq : q < m) (hB : B + 75 ≤ q) : I' q = I q := h.1 q hq (by omega) (by omega) (by omega)
/-- one number of the new cell -/
theorem FMx_qu {m q k : Nat} {x : Int32} (hq : m ≤ q) (hB : B + 75 ≤ m) : FMx B m I J (sm_up2 I q k x) J := ⟨fun b hb _ _ _ => up2_n (by omega), fun k _ _ _ _ _ _ _ _ _ => by rw [up2_n (by omega)], fun _ _ => rfl⟩
theorem JS_q {q k : Nat} {x : Int32} (hB : B + 75 ≤ q) (h : JS B a bs t n pd dp c r s sl G Q Ix Jx Im) : JS B a bs t n pd dp c r s sl G Q Ix Jx (sm_up2 Im q k x) := by
  obtain ⟨h, Nx, Nm, nfx, nfm, tfx, tfm, xx, ⟨m0, m1⟩, b1, b2, f⟩ := h
  refine ⟨h, Nx, Nm, nfx, nfm, tfx, tfm, xx, ⟨MR_g (I := Im) (up2_n (by omega)) (up2_n (by omega)) m0, ?_⟩, b1, b2, fun e => ⟨(f e).1, (f e).2.imp id (fun z => ⟨?_, z.2⟩)⟩⟩
  · rw [up2_n (by omega)]; exact m1
  · obtain ⟨f1, f2, f3, f4, f5, f6, f7, f8⟩ := z.1
    refine ⟨f1, f2, f3, f4, f5, f6, f7, ?_⟩
    intro p; rw [up2_n (by omega), up2_n (by omega)]; exact f8 p
theorem JS_qn {q : Nat} {x : Nat → Int32} (hB : B + 75 ≤ q) (h : JS B a bs t n pd dp c r s sl G Q Ix Jx Im) : JS B a bs t n pd dp c r s sl G Q Ix Jx (sm_up1 Im q x) := by
  obtain ⟨h, Nx, Nm, nfx, nfm, tfx, tfm, xx, ⟨m0, m1⟩, b1, b2, f⟩ := h
  refine ⟨h, Nx, Nm, nfx, nfm, tfx, tfm, xx, ⟨MR_g (I := Im) (up1_n (by omega)) (up1_n (by omega)) m0, ?_⟩, b1, b2, fun e => ⟨(f e).1, (f e).2.imp id (fun z => ⟨?_, z.2⟩)⟩⟩
  · rw [up1_n (by omega)]; exact m1
  · obtain ⟨f1, f2, f3, f4, f5, f6, f7, f8⟩ := z.1
    refine ⟨f1, f2, f3, f4, f5, f6, f7, ?_⟩
    intro p; rw [up1_n (by omega), up1_n (by omega)]; exact f8 p
end BAD

/-! a declaration, both: the end of it -/
section DEC
variable {K : Nat → Value} {B d e a : Nat} {w wm wm' : aW} {Ix Im I I' I'' Ix' Im' : aI} {Jx Jm J J' J'' Jx' Jm' : aJ} {bs : Nat → Nat} {t n c r s sl b op m m' : Nat} {pd dp : Int} {G G1 : gG} {Q gd Q0 : Prop} {f cnt st : Nat} {vn ln : Nat → Nat} {fa fa0 : Nat → Nat → Nat} {G0 : gG} {P P' : Nat → Prop}
theorem JS_r1 {pd' dp' : Int} {G' : gG} {Q' : Prop} (h1 : r = 1) (h : JS B a bs t n pd dp c r s sl G Q Ix Jx Im) : JS B a bs t n pd' dp' c r s sl G' Q' Ix Jx Im := by
  obtain ⟨h, Nx, Nm, nfx, nfm, tfx, tfm, q1, q2, q3, q4, _⟩ := h
  exact ⟨h, Nx, Nm, nfx, nfm, tfx, tfm, q1, q2, q3, q4, fun z => by omega⟩
/-- a wrong declaration: the class notes, asks and puts, the reference asks, puts and notes -/
theorem JS_B {p p2 : Nat} {gm : Int32} (qm : Prop) [Decidable qm] (ha : a = B + 8 ∨ a = B + 22) (H : Lay B w) (hp : w.2.1 (B + 2) 1 = some a) (hS : SM K B wm Im) (hn : n ≤ 240) (h : JS B a bs t n p2 dp c r 0 (sl + 1) G False Ix Jx Im) (hpp : p ≤ 240) (hp2 : p2 ≤ 240) :
    ∃ (Ix1 Im1 Im2 Im3 : aI) (v : Int32), Cl K (d + 3) 48 [.ref (B + 2), .int (it p2)] w Ix Jx = some (none, w, Ix1, Jx) ∧ FEx B a Ix Jx Ix1 Jx ∧ Cl K (d + 4) 67 [.ref (B + 2), .int (it 1)] w Ix1 Jx = some (some (.int v), w, Ix1, Jx) ∧ Cl K (e + 2) 110 [.ref (B + 46), .int (it (if qm then 1 else 0)), .int (it p)] wm Im Jm = some (none, wm, Im1, Jm) ∧ Cl K (e + 2) 111 [.ref (B + 46), .int (it 21), .int gm] wm Im1 Jm = some (none, wm, Im2, Jm) ∧ Cl K (e + 1) 92 [.ref (B + 46), .int (it 0), .int (it p2)] wm Im2 Jm = some (none, wm, Im3, Jm) ∧ FMx B wm.2.2.1 Im Jm Im1 Jm ∧ FMx B wm.2.2.1 Im Jm Im2 Jm ∧ FMx B wm.2.2.1 Im Jm Im3 Jm ∧ Im3 (B + 46) 26 = it r
      ∧ ∀ (qx : Prop) [Decidable qx] (gx : Int32), ∃ (Ix2 Ix3 : aI) (Jx3 : aJ), Cl K (d + 4) 68 [.ref (B + 2), .int (it (if qx then 1 else 0)), .int (it p)] w Ix1 Jx = some (none, w, Ix2, Jx) ∧ Cl K (d + 4) 58 [.ref (B + 2), .int (it 21), .int gx, .int (it ((1 : Nat) : Int)), .int (it (-1))] w Ix2 Jx = some (none, w, Ix3, Jx3) ∧ FEx B a Ix1 Jx Ix2 Jx ∧ FEx B a Ix2 Jx Ix3 Jx3 ∧ JS B a bs t n (-1) dp c r 0 sl G False Ix3 Jx3 Im3 := by
  obtain ⟨h, Nx, Nm, nfx, nfm, tfx, tfm, x, m, b1, b2, f⟩ := h
  have hc := x.1.2.2.2.1
  obtain ⟨Ix1, y1, y2, y3, _⟩ := s_48 (K := K) (d := d + 2) (J := Jx) (p := p2) ha H x hp2
  obtain ⟨Im1, v1, v2, v3, _⟩ := s_110 (K := K) (d := e + 1) (J := Jm) (p := p) (m := wm.2.2.1) qm hS.1 m hpp
  obtain ⟨Im2, u1, u2, u3, _⟩ := s_111 (K := K) (d := e + 1) (J := Jm) (o := it 21) (g := gm) (m := wm.2.2.1) hS.1 v3 (by omega)
  obtain ⟨Im3, w1, w2, w3, _⟩ := s_92 (K := K) (d := e) (J := Jm) (p := p2) (m := wm.2.2.1) False hS.1 u3 hp2
  refine ⟨Ix1, Im1, Im2, Im3, _, y1, y2, s_67 (K := K) (d := d + 3) (J := Jx) (i := 1) H y3 (by omega) (by omega), v1, u1, w1, v2, FMx_t (Nat.le_refl _) v2 u2, FMx_t (Nat.le_refl _) (FMx_t (Nat.le_refl _) v2 u2) w2, w3.1.2.1, fun qx _ gx => ?_⟩
  obtain ⟨Ix2, z1, z2, z3, _⟩ := s_68 (K := K) (d := d + 3) (J := Jx) (p := p) qx ha H y3 hpp
  obtain ⟨Ix3, Jx3, k1, k2, k3, _⟩ := s_58 (K := K) (d := d + 2) (J := Jx) (o := it 21) (g := gx) (ty := it (-1)) (k := 1) (b := false) ha H hp z3 (by omega) (by omega) ⟨fun z => (by cases z), fun z => absurd rfl z⟩
  refine ⟨Ix2, Ix3, Jx3, z1, k1, z2, k2, _, _, _, _, _, _, _, k3, w3, by omega, by omega, fun r0 => ?_⟩
  obtain ⟨⟨f1, f2⟩, f3⟩ := f r0
  have hx := x.2.2.1
  have en : mN r False nfm p2 = mnf nfx p2 := by
    unfold mN
    rw [if_pos ⟨r0, fun z => z⟩, f1]
    unfold mm mnf
    split <;> (try split) <;> (try split) <;> (try split) <;> omega
  have g0 : 0 ≤ mnf nfx p2 := by unfold mnf; split <;> (try split) <;> omega
  rw [en]
  refine ⟨⟨?_, fun z => ?_⟩, Or.inl (Or.inl g0)⟩
  · unfold mm
    rw [if_neg (by omega), if_pos (by omega)]
  · have := f2 z
    unfold mnf
    split <;> (try split) <;> omega
end DEC

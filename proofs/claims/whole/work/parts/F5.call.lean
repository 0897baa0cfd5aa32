/-! the end of a call, both sides -/
theorem gPar_e {fa : Nat → Nat → Nat} {g : Nat} : ∀ (i : Nat) (ts : List Nat), ts.length = i → (∀ k, k < i → ts.getD (i - 1 - k) 0 = fa g (4 + k)) → ts = gPar fa g i := by
  intro i
  induction i with
  | zero => intro ts h1 _; rw [List.length_eq_zero_iff.mp h1]; rfl
  | succ i ih =>
    intro ts h1 h2
    cases ts with
    | nil => simp at h1
    | cons x xs =>
      rw [gPar]
      have e0 := h2 i (by omega)
      rw [show i + 1 - 1 - i = 0 by omega] at e0
      have e1 : x = fa g (4 + i) := e0
      rw [e1, ← ih xs (by simp at h1; omega) (fun k hk => by
        have := h2 k (by omega)
        rw [show i + 1 - 1 - k = (i - 1 - k) + 1 by omega] at this
        exact this)]
section CAL
variable {K : Nat → Value} {B d e a : Nat} {w wm : aW} {Ix Im I : aI} {Jx Jm J : aJ} {bs : Nat → Nat} {t n c r s sl b : Nat} {pd dp : Int} {G G1 : gG} {Q gd : Prop} {f cnt : Nat} {vn ln : Nat → Nat} {fa : Nat → Nat → Nat}
/-- both ask whether the values given fit -/
theorem JS_tc {p i : Nat} {x : Int32} {ts : List Nat} (qm : Prop) [Decidable qm] (ha : a = B + 8 ∨ a = B + 22) (H : Lay B w) (hp : w.2.1 (B + 2) 1 = some a) (Hm : Lay B wm) (h : JS B a bs t n pd dp c r s sl G1 Q Ix Jx Im) (hpp : p ≤ 240) (hi : i ≤ 240) (hQ : Q → ∃ g rest, g < 5 ∧ i ≤ 6 ∧ x = it ((g : Nat) : Int) ∧ G1.2.2.2 G1.1 = ts ++ rest ∧ ts.length = i ∧ (qm ↔ ∀ k, k < i → it (ts.getD (i - 1 - k) 0 : Nat) = Ix (a + 6) (6 * g + k))) :
    ∃ (bb : Bool) (Ix' Im' : aI), Cl K (d + 2) 71 [.ref (B + 2), .int x, .int (it i)] w Ix Jx = some (some (.int (it (if bb = true then 1 else 0))), w, Ix, Jx) ∧ Cl K (d + 2) 68 [.ref (B + 2), .int (it (if bb = true then 1 else 0)), .int (it p)] w Ix Jx = some (none, w, Ix', Jx) ∧ Cl K (e + 1) 110 [.ref (B + 46), .int (it (if qm then 1 else 0)), .int (it p)] wm Im Jm = some (none, wm, Im', Jm) ∧ FEx B a Ix Jx Ix' Jx ∧ FMx B wm.2.2.1 Im Jm Im' Jm ∧ JS B a bs t n pd dp c r s sl G1 (Q ∧ qm) Ix' Jx Im' := by
  obtain ⟨h, Nx, Nm, nfx, nfm, tfx, tfm, x1, m, b1, b2, f⟩ := h
  obtain ⟨bb, s1, s2⟩ := s_71 (K := K) (d := d) (J := Jx) (x := x) (m := i) (PLx H ha) H hp x1 hi
  obtain ⟨Ix', y1, y2, y3, y4, y5, y6⟩ := s_68 (K := K) (d := d + 1) (J := Jx) (p := p) (bb = true) ha H x1 hpp
  obtain ⟨Im', v1, v2, v3, v4, v5⟩ := s_110 (K := K) (d := e) (J := Jm) (p := p) (m := wm.2.2.1) qm Hm m hpp
  refine ⟨bb, Ix', Im', s1, y1, v1, y2, v2, _, _, _, _, _, _, _, y3, v3, b1, b2, fun r0 => ⟨(f r0).1, ?_⟩⟩
  rw [mT_e r0]
  rcases (f r0).2 with f2 | ⟨⟨g1, g2, g3, g4, g5, g6, g7, g8⟩, hq⟩
  · left
    rcases f2 with f2 | ⟨e1, e2⟩
    · exact Or.inl f2
    · right
      rw [if_neg (by omega), if_neg (by omega)]
      exact ⟨e1, e2⟩
  · obtain ⟨g, rest, k1, k2, k3, k4, k5, k6⟩ := hQ hq
    have c1 := g7.1
    have hlen : (G1.2.2.2 G1.1).length = i + rest.length := by rw [k4, List.length_append, k5]
    have iff : bb = true ↔ qm := by
      rw [s2 g k1 k2 k3, k6]
      have key : ∀ k, k < i → (if i - k ≤ h then Ix (B + 17) (h - (i - k)) else it (-1)) = it (ts.getD (i - 1 - k) 0 : Nat) := by
        intro k hk
        have := tTop_e (i := i - k) g7 (by omega) (by omega)
        unfold tTop at this
        rw [this, k4, List.getD_eq_getElem?_getD, List.getElem?_append_left (by omega), ← List.getD_eq_getElem?_getD, show i - k - 1 = i - 1 - k by omega]
      constructor
      · intro z k hk; rw [← key k hk]; exact z k hk
      · intro z k hk; rw [key k hk]; exact z k hk
    obtain ⟨w1, w2, w3, w4⟩ := g7
    by_cases e : qm
    · right
      rw [if_neg (show ¬ (¬ bb = true ∧ tfx < 0) from fun z => z.1 (iff.mpr e)), if_neg (show ¬ (¬ qm ∧ tfm < 0) from fun z => z.1 e)]
      refine ⟨⟨g1, g2, g3, g4, g5, g6, ⟨w1, by rw [y4]; exact w2, w3, by rw [y5, y6]; exact w4⟩, ?_⟩, hq, e⟩
      intro pp; rw [v4, v5]; exact g8 pp
    · left
      right
      rw [if_pos (show ¬ bb = true ∧ tfx < 0 from ⟨fun z => e (iff.mp z), by omega⟩), if_pos (show ¬ qm ∧ tfm < 0 from ⟨e, by omega⟩)]
      exact ⟨rfl, by omega⟩
theorem m_28e {dy km i q f' : Nat} {l1 pl : Int32} {Im1 : aI} {R : aR} (H : Lay B wm) (h93 : Cl K (dy + 8) 93 [.ref (B + 46), .int (it 41)] wm Im Jm = some (none, wm, Im1, Jm)) (h30 : Im1 (B + 46) 30 = it f') (h : f_113_87 K km (dy + 8) (B + 46) l1 pl q (it i) (it 0) (it f') wm Im1 Jm = some R) : f_113_28 K (km + 1) (dy + 8) (B + 46) l1 pl q (it i) (it 0) wm Im Jm = some R := by
  rw [f_113_28]
  simp only [it_lit, lt_p, gO_e (yt46 H)]
  rw [if_pos trivial, h93]
  simp only [cV_e, gO_e (yt46 H)]
  rw [h30]
  exact h
/-- behind the names: each side alone, there is a fault -/
theorem C_bad {dx dy ix im kx k' q pl : Nat} {z : Int} {sx lx x l1 l5 : Int32} (ha : a = B + 8 ∨ a = B + 22) (hX : TX bs t n) (H : Lay B w) (hp : w.2.1 (B + 2) 1 = some a) (hS : SM K B wm Im) (hq : wm.1 q = some (10, 6)) (h : JS B a bs t n pd dp c r s (sl + 1) G1 False Ix Jx Im) (hix : ix ≤ 240) (him : im ≤ 240) (hpl : pl ≤ 240) (z1 : -1 ≤ z) (z2 : z ≤ 4) (hk : 7 ≤ k') :
    ∃ (Ix' : aI) (Jx' : aJ) (Im' : aI) (ty : Int32), f_69_147 K kx (dx + 3) (B + 2) sx (it pl) lx (it ix) x w Ix Jx = some (none, w, Ix', Jx') ∧ (if 0 ≤ z then f_113_149 K k' (dy + 8) (B + 46) l1 (it pl) q (it im) l5 (it z) (it 1) (it 0) wm Im Jm else some (some (.int (it 0)), wm, Im, Jm)) = some (some (.int ty), wm, Im', Jm) ∧ FEx B a Ix Jx Ix' Jx' ∧ FMx B wm.2.2.1 Im Jm Im' Jm ∧ ∀ (G' : gG) (Q' : Prop), JS B a bs t n pd dp c r s sl G' Q' Ix' Jx' Im' := by
  have hP : PL w a := PLx H ha
  have hn := hX.2.1
  obtain ⟨h', Nx, Nm, nfx, nfm, tfx, tfm, xE, mE, _⟩ := id h
  obtain ⟨bb, s1, _⟩ := s_71 (K := K) (d := dx + 1) (J := Jx) (x := x) (m := ix) hP H hp xE hix
  obtain ⟨Ix3, t1, t2, t3⟩ := JS_x68 (K := K) (d := dx + 2) (p := pl) (bb = true) ha H h hpl
  obtain ⟨v3, o3, _⟩ := s_52g (K := K) (d := dx + 2) (w := w) (I := Ix3) (J := Jx) (x := x) (k := 3) hP
  obtain ⟨Ix4, Jx4, r1, r2, r3⟩ := JS_x58 (K := K) (d := dx + 1) (o := it ((4 : Nat) : Int)) (g := x) (ty := v3) (k := ix) ha H hp hn hix t3 (fun _ _ => by omega)
  have hJx : JSx B a bs t n pd dp c r s sl Ix4 Im := r3
  by_cases e : 0 ≤ z
  · obtain ⟨g, hge⟩ : ∃ g : Nat, z = g := ⟨z.toNat, by omega⟩
    subst hge
    obtain ⟨gb, b1, _⟩ := m_149 (K := K) (d := dy + 8) (w := wm) (I := Im) (J := Jm) (l1 := l1) (l2 := it pl) (l5 := l5) (q := q) (z := g) (nn := im) hS.1 hq (by omega) him 6 0 k' true (by omega) (by omega)
    obtain ⟨Im3, y1, y2, y3⟩ := JSx_110 (K := K) (e := dy + 7) (Jm := Jm) (p := pl) (gb = true) hS.1 hJx hpl
    obtain ⟨Im4, y4, y5, y6⟩ := JSx_111 (K := K) (e := dy + 7) (Jm := Jm) (Jx := Jx4) (o := it 4) (g := it ((g : Nat) : Int)) hn hS.1 y3
    refine ⟨Ix4, Jx4, Im4, Im4 (B + 53) g, x_147 H hp hP s1 t1 o3 r1, ?_, FEx_t t2 r2, FMx_t (Nat.le_refl _) y2 y5, y6⟩
    rw [if_pos (by omega)]
    exact b1 y1 y4
  · exact ⟨Ix4, Jx4, Im, it 0, x_147 H hp hP s1 t1 o3 r1, by rw [if_neg e], FEx_t t2 r2, FMx_r, fun G' Q' => JSx_0 hJx⟩
/-- the end of a call that is refused, or behind a fault of the funs' names -/
theorem C_bd {dx dy ix im kx km q l pl : Nat} {sx l1 : Int32} {Ix1 Im1 : aI} (ha : a = B + 8 ∨ a = B + 22) (hX : TX bs t n) (H : Lay B w) (hp : w.2.1 (B + 2) 1 = some a) (f4 : f ≤ 4) (h30 : Im1 (B + 46) 30 = it f) (hS : SM K B wm Im1) (hq : wm.1 q = some (10, 6)) (h41 : Cl K (dx + 3) 41 [.ref (B + 3), .int (it 41)] w Ix Jx = some (none, w, Ix1, Jx)) (h93 : Cl K (dy + 8) 93 [.ref (B + 46), .int (it 41)] wm Im Jm = some (none, wm, Im1, Jm))
    (h : JS B a bs t n pd dp c r s (sl + 1) G1 False Ix1 Jx Im1) (hix : ix ≤ 240) (him : im ≤ 240) (hl : l < 26) (hpl : pl ≤ 240) (hD : r = 0 → 0 ≤ dp ∧ dp ≤ pl) (hkm : 50 ≤ km) :
    ∃ (ty : Int32) (Ix' : aI) (Jx' : aJ) (Im' : aI), f_69_106 K kx (dx + 3) (B + 2) sx (it pl) (it l) (it ix) w Ix Jx = some (none, w, Ix', Jx') ∧ f_113_28 K (km + 1) (dy + 8) (B + 46) l1 (it pl) q (it im) (it 0) wm Im Jm = some (some (.int ty), wm, Im', Jm) ∧ FEx B a Ix1 Jx Ix' Jx' ∧ FMx B wm.2.2.1 Im1 Jm Im' Jm ∧ ∀ (G' : gG) (Q' : Prop), JS B a bs t n pd dp c r s sl G' Q' Ix' Jx' Im' := by
  have hP : PL w a := PLx H ha
  obtain ⟨z, k', z1, z2, z3, z4, _⟩ := m_87 (K := K) (d := dy + 8) (w := wm) (I := Im1) (J := Jm) (l1 := l1) (l2 := it pl) (l4 := it im) (l5 := it 0) (q := q) (f := f) hS.1 f4 (f + 1) km (Nat.le_refl _) (by omega)
  rw [show (((f + 1 : Nat) : Int) - 1) = (f : Int) by omega] at z4
  obtain ⟨v1, o1, _⟩ := s_52g (K := K) (d := dx + 2) (w := w) (I := Ix1) (J := Jx) (x := Ix1 (B + 15) l) (k := 1) hP
  have nt : ∃ Ix2, ((¬ Ix1 (B + 15) l < it 0 ∧ it ix = v1 ∧ Ix2 = Ix1) ∨ ((Ix1 (B + 15) l < it 0 ∨ ¬ it ix = v1) ∧ Cl K (dx + 3) 48 [.ref (B + 2), .int (it pl)] w Ix1 Jx = some (none, w, Ix2, Jx))) ∧ FEx B a Ix1 Jx Ix2 Jx ∧ JS B a bs t n pd dp c r s (sl + 1) G1 False Ix2 Jx Im1 := by
    by_cases hn : Ix1 (B + 15) l < it 0 ∨ ¬ it ix = v1
    · obtain ⟨Ix2, p1, p3, p5⟩ := JS_xd (K := K) (d := dx + 2) (p := pl) ha H h hpl hD
      exact ⟨Ix2, Or.inr ⟨hn, p1⟩, p3, p5⟩
    · have hn1 : ¬ Ix1 (B + 15) l < it 0 := fun q => hn (Or.inl q)
      have hn2 : it (ix : Int) = v1 := by
        by_cases e : it (ix : Int) = v1
        · exact e
        · exact absurd (Or.inr e) hn
      exact ⟨Ix1, Or.inl ⟨hn1, hn2, rfl⟩, FEx_r, h⟩
  obtain ⟨Ix2, p1, p3, p5⟩ := nt
  obtain ⟨Im2, u1, u2, u3⟩ := JS_nd (K := K) (e := dy + 7) (Jm := Jm) (p := pl) (0 ≤ z ∧ it im = Im1 (B + 51) z.toNat) hS.1 p5 hpl (fun r0 => Or.inr (hD r0))
  obtain ⟨Ix4, Jx4, Im4, ty, y1, y2, y3, y4, y5⟩ := C_bad (K := K) (dx := dx) (dy := dy) (ix := ix) (im := im) (kx := kx) (k' := k') (q := q) (pl := pl) (z := z) (sx := sx) (lx := it l) (x := Ix1 (B + 15) l) (l1 := l1) (l5 := it 0) (Jm := Jm) ha hX H hp (SM_f (WG_r (k := 0)) u2 hS) hq (JS_m (Q' := False) (fun q => q.1) (Nat.le_refl _) u3) hix him hpl z1 (by omega) (by omega)
  refine ⟨ty, Ix4, Jx4, Im4, x_106 H hp hP hl h41 o1 p1 y1, m_28e hS.1 h93 h30 ?_, FEx_t p3 y3, FMx_t (Nat.le_refl _) u2 y4, y5⟩
  rw [z4, m_109 hS.1 (by omega) (by omega) _ Iff.rfl u1]
  exact y2
theorem C_end {dx dy i kx km q bE l pl : Nat} {sx : Int32} {ts : List Nat} (ha : a = B + 8 ∨ a = B + 22) (hX : TX bs t n) (H : Lay B w) (hp : w.2.1 (B + 2) 1 = some a) (hNP : NP f cnt vn fa ln gd) (hNX : NX B a f cnt vn fa ln gd Ix) (hNM : NM B f cnt vn fa ln gd Im) (hS : SM K B wm Im) (hq : wm.1 q = some (10, 6)) (hqs : q < wm.2.2.1) (hB : B + 75 ≤ q)
    (h : JS B a bs t n pd dp c r s (sl + 1) G1 (Q ∧ Exs fa f G G1 ts (i + bE) ∧ ts.length = i ∧ (∀ τ ∈ ts, τ ≤ 3) ∧ ∀ k, k < i → k < 6 → Im q k = it (ts.getD (i - 1 - k) 0 : Nat)) Ix Jx Im) (hi : i ≤ 240) (hl : l < 26) (hpl : pl ≤ 240) (hQ : Q → gd ∧ (G.2.2.2 G.1).length < 125) (hD : gd ∨ (0 ≤ dp ∧ dp ≤ pl)) (hb : 6 + bE ≤ b) (hkm : 50 ≤ km) :
    ∃ (G' : gG) (τ : Nat) (ty : Int32) (Ix' : aI) (Jx' : aJ) (Im' : aI), f_69_106 K kx (dx + 3) (B + 2) sx (it pl) (it l) (it i) w Ix Jx = some (none, w, Ix', Jx') ∧ f_113_28 K (km + 1) (dy + 8) (B + 46) (it (97 + l : Nat)) (it pl) q (it i) (it 0) wm Im Jm = some (some (.int ty), wm, Im', Jm) ∧ FEx B a Ix Jx Ix' Jx' ∧ FMx B wm.2.2.1 Im Jm Im' Jm ∧ JS B a bs t n pd dp (nxC bs t c r 41) (nxR bs t c r 41) s sl G' (Q ∧ Ext fa f G G' τ b ∧ τ ≤ 3 ∧ ty = it τ) Ix' Jx' Im' := by
  obtain ⟨np1, np2, np3, np4, np5⟩ := hNP
  have hP : PL w a := PLx H ha
  have hn := hX.2.1
  obtain ⟨Ix1, Im1, x1, m1, fx1, fm1, hJ1⟩ := JS_tk (K := K) (d := dx + 1) (e := dy) (Jm := Jm) (k := 41) (by decide) ha hX H hS h
  have hS1 := SM_f (WG_r (k := 0)) fm1 hS
  have hNX1 := NX_f ha fx1 hNX
  have hNM1 := NM_f hS.2.2.2 fm1 hNM
  obtain ⟨z, k', z1, z2, z3, z4, z5⟩ := m_87 (K := K) (d := dy + 8) (w := wm) (I := Im1) (J := Jm) (l1 := it (97 + l : Nat)) (l2 := it pl) (l4 := it i) (l5 := it 0) (q := q) (f := f) hS1.1 np1 (f + 1) km (Nat.le_refl _) (by omega)
  rw [show (((f + 1 : Nat) : Int) - 1) = (f : Int) by omega] at z4
  obtain ⟨v1, o1, o2⟩ := s_52g (K := K) (d := dx + 2) (w := w) (I := Ix1) (J := Jx) (x := Ix1 (B + 15) l) (k := 1) hP
  have hvb := vix_b ln l (f + 1)
  have hzv : gd → z = vix ln l (f + 1) := by
    intro hg
    obtain ⟨n1, n2⟩ := np5 hg
    obtain ⟨y1, y2⟩ := z5 ln l (fun g hg' => ⟨(n1 g hg').1, (hNM1.2.2.2 hg g hg').1⟩) hl rfl
    by_cases e : 0 ≤ z
    · have e1 := y1 e
      rw [vix_f ln l (f + 1) z.toNat (by omega) e1 (fun j hj hjl => by
        have := n2 j z.toNat (by omega) (by omega) (hjl.trans e1.symm)
        omega)]
      omega
    · rw [vix_0 ln l (f + 1) (fun j hj => y2 j (by omega) hj)]
      omega
  have hxv : gd → Ix1 (B + 15) l = it (vix ln l (f + 1)) := fun hg => (hNX1.2.2.2 hg).1 l hl
  by_cases hgood : gd ∧ 0 ≤ vix ln l (f + 1) ∧ (i : Int) = fa (vix ln l (f + 1)).toNat 1
  · obtain ⟨hg, k1, k2⟩ := hgood
    obtain ⟨n1, n2⟩ := np5 hg
    obtain ⟨g, hge⟩ : ∃ g : Nat, vix ln l (f + 1) = g := ⟨(vix ln l (f + 1)).toNat, by omega⟩
    have hz := hzv hg
    rw [hge] at hz hvb k2
    rw [Int.toNat_natCast] at k2
    subst hz
    have hx := hxv hg
    rw [hge] at hx
    have gf : g ≤ f := by omega
    obtain ⟨nx1, nx2, nx3⟩ := (hNX1.2.2.2 hg).2 g gf
    obtain ⟨nm1, nm2, nm3, nm4, nm5⟩ := hNM1.2.2.2 hg g gf
    obtain ⟨ng1, ng2, ng3, ng4, ng5⟩ := n1 g gf
    have ei : i = fa g 1 := by omega
    have ev1 : v1 = it (fa g 1 : Nat) := by rw [o2 g (by omega) (by omega) hx]; exact nx1
    obtain ⟨Im2, u1, u2, u3⟩ := JS_nd (K := K) (e := dy + 7) (Jm := Jm) (p := pl) (0 ≤ (g : Int) ∧ it i = Im1 (B + 51) ((g : Int)).toNat) hS1.1 hJ1 hpl (fun _ => Or.inl ⟨by omega, by rw [Int.toNat_natCast, nm2, ei]⟩)
    have hS2 := SM_f (WG_r (k := 0)) u2 hS1
    have fm2 := FMx_t (Nat.le_refl _) fm1 u2
    have hNM2 := NM_f hS.2.2.2 fm2 hNM
    obtain ⟨mm1, mm2, mm3, mm4, mm5⟩ := hNM2.2.2.2 hg g gf
    obtain ⟨gb, b1, b2⟩ := m_149 (K := K) (d := dy + 8) (w := wm) (I := Im2) (J := Jm) (l1 := it (97 + l : Nat)) (l2 := it pl) (l5 := it 0) (q := q) (z := g) (nn := i) hS2.1 hq (by omega) hi 6 0 k' true (by omega) (by omega)
    have hqq : Im2 q = Im q := FMx_q fm2 hqs hB
    obtain ⟨bb, Ix2, Im3, t1, t2, t3, t4, t5, t6⟩ := JS_tc (K := K) (d := dx + 1) (e := dy + 7) (Jm := Jm) (p := pl) (i := i) (x := Ix1 (B + 15) l) (ts := ts) (gb = true) ha H hp hS2.1 u3 hpl hi (by
      rintro ⟨⟨q1, q2, q3, q4, q5⟩, q6⟩
      refine ⟨g, G.2.2.2 G.1, by omega, by omega, hx, q2.2.2.2.1, q3, ?_⟩
      rw [b2 (fa g 1) (fa g 2) mm2 mm3 ng2 ng3 ei]
      constructor
      · intro y k hk
        have := y.2 k (by omega) hk
        rw [hqq, q5 k hk (by omega), mm5 k (by omega)] at this
        rw [this, nx3 k (by omega)]
      · intro y
        refine ⟨rfl, fun k _ hk => ?_⟩
        rw [hqq, q5 k hk (by omega), mm5 k (by omega), y k hk, nx3 k (by omega)])
    have hS3 := SM_f (WG_r (k := 0)) t5 hS2
    have hNX2 := NX_f ha t4 hNX1
    obtain ⟨v3, o3, o4⟩ := s_52g (K := K) (d := dx + 2) (w := w) (I := Ix2) (J := Jx) (x := Ix1 (B + 15) l) (k := 3) hP
    have ev3 : v3 = it (fa g 3 : Nat) := by rw [o4 g (by omega) (by omega) hx]; exact ((hNX2.2.2.2 hg).2 g gf).2.1
    subst ev3
    obtain ⟨Ix3, Jx3, Im4, r1, r2, r3, r4, r5⟩ := JS_em (K := K) (d := dx + 1) (e := dy + 7) (Jm := Jm) (o := 4) (g := g) (k := i) (gx := Ix1 (B + 15) l) (gm := it ((g : Nat) : Int)) (tyx := it (fa g 3 : Nat)) (b := true) ha H hp hS3.1 t6 hn (by omega) ⟨fun _ => (fun q => by have := (it_eq (by omega) (by omega) (by omega) (by omega)).mp q; omega), fun _ => rfl⟩ (fa g 3) ts (G.2.2.2 G.1) (by
      rintro ⟨⟨⟨q1, q2, q3, q4, q5⟩, q6⟩, q7⟩
      exact ⟨hx, rfl, q2.2.2.2.1, q3, by have := (hQ q1).2; omega, fun _ => ⟨rfl, ng4⟩⟩)
    have fm4 := FMx_t (Nat.le_refl _) (FMx_t (Nat.le_refl _) fm2 t5) r4
    have hNM4 := NM_f hS.2.2.2 fm4 hNM
    have e60 := (hNM4.2.2.2 hg g gf).2.2.2.1
    refine ⟨gE1 G1 4 g (fa g 3 :: G.2.2.2 G.1), fa g 3, it (fa g 3 : Nat), Ix3, Jx3, Im4, x_106 H hp hP hl x1 o1 (Or.inl ⟨by rw [hx]; exact (fun q => by have := (it_lt (by omega) (by omega) (by omega) (by omega)).mp q; omega), by rw [ev1, ei], rfl⟩) (x_147 H hp hP t1 t2 o3 r1), ?_, FEx_t (FEx_t fx1 t4) r3, fm4, JS_m ?_ (Nat.le_refl _) r5⟩
    · refine m_28e hS.1 m1 hNM1.1 ?_
      have b1' := b1 t3 r2
      rw [e60] at b1'
      rw [z4, m_109 hS1.1 (by omega) (by omega) _ Iff.rfl u1, if_pos (by omega)]
      exact b1'
    · rintro ⟨⟨⟨q1, q2, q3, q4, q5⟩, q6⟩, q7⟩
      refine ⟨q1, Exs_k q2 (by omega) (by omega) (by omega) (Or.inr (Or.inr (Or.inr (Or.inr (Or.inl ⟨rfl, gf, G.2.2.2 G.1, ?_, rfl⟩))))), ng4, rfl⟩
      rw [← ei]
      congr 1
      refine gPar_e i ts q3 (fun k hk => ?_)
      have := ((b2 (fa g 1) (fa g 2) mm2 mm3 ng2 ng3 ei).mp q7).2 k (by omega) hk
      rw [hqq, q5 k hk (by omega), mm5 k (by omega)] at this
      have l3 : ts.getD (i - 1 - k) 0 ≤ 3 := by
        rw [List.getD_eq_getElem?_getD, List.getElem?_eq_getElem (by omega)]
        exact q4 _ (List.getElem_mem _)
      have h3 := ng5 k (by omega)
      have := it_inj (by omega) (by omega) this
      omega
  · by_cases hg : gd
    · obtain ⟨n1, n2⟩ := np5 hg
      have hz := hzv hg
      have hx := hxv hg
      obtain ⟨Ix2, Im2, p1, p2, p3, p4, p5⟩ := JS_nm (K := K) (d := dx + 2) (e := dy + 7) (Jm := Jm) (p := pl) False ha H hS1.1 hJ1 hpl (fun q => q)
      have nx : Ix1 (B + 15) l < it 0 ∨ ¬ it (i : Int) = v1 := by
        by_cases e : vix ln l (f + 1) < 0
        · left; rw [hx]; exact ((it_lt (by omega) (by omega) (by omega) (by omega)).mpr (by omega))
        · right
          obtain ⟨g, hge⟩ : ∃ g : Nat, vix ln l (f + 1) = g := ⟨(vix ln l (f + 1)).toNat, by omega⟩
          rw [hge] at hx hgood hvb
          rw [o2 g (by omega) (by omega) hx, ((hNX1.2.2.2 hg).2 g (by omega)).1]
          have hgb := n1 g (by omega)
          intro q
          have := (it_eq (by omega) (by omega) (by omega) (by omega)).mp q
          exact hgood ⟨hg, by omega, by rw [Int.toNat_natCast]; omega⟩
      have nm : ¬ (0 ≤ z ∧ it (i : Int) = Im1 (B + 51) z.toNat) := by
        rintro ⟨q1, q2⟩
        rw [hz] at q1 q2
        obtain ⟨g, hge⟩ : ∃ g : Nat, vix ln l (f + 1) = g := ⟨(vix ln l (f + 1)).toNat, by omega⟩
        rw [hge] at hgood q2 hvb
        rw [Int.toNat_natCast, (hNM1.2.2.2 hg g (by omega)).2.1] at q2
        have hgb := n1 g (by omega)
        have := (it_eq (by omega) (by omega) (by omega) (by omega)).mp q2
        exact hgood ⟨hg, by omega, by rw [Int.toNat_natCast]; omega⟩
      obtain ⟨Ix4, Jx4, Im4, ty, y1, y2, y3, y4, y5⟩ := C_bad (K := K) (dx := dx) (dy := dy) (ix := i) (im := i) (kx := kx) (k' := k') (q := q) (pl := pl) (z := z) (sx := sx) (lx := it l) (x := Ix1 (B + 15) l) (l1 := it (97 + l : Nat)) (l5 := it 0) (Jm := Jm) ha hX H hp (SM_f (WG_r (k := 0)) p4 hS1) hq p5 hi hi hpl z1 (by omega) (by omega)
      refine ⟨G, 0, ty, Ix4, Jx4, Im4, x_106 H hp hP hl x1 o1 (Or.inr ⟨nx, p1⟩) y1, m_28e hS.1 m1 hNM1.1 ?_, FEx_t (FEx_t fx1 p3) y3, FMx_t (Nat.le_refl _) (FMx_t (Nat.le_refl _) fm1 p4) y4, y5 _ _⟩
      rw [z4, m_109 hS1.1 (by omega) (by omega) (0 ≤ z ∧ it (i : Int) = Im1 (B + 51) z.toNat) Iff.rfl (by rw [if_neg nm]; exact p2)]
      exact y2
    · obtain ⟨ty, Ix4, Jx4, Im4, y1, y2, y3, y4, y5⟩ := C_bd (K := K) (dx := dx) (dy := dy) (ix := i) (im := i) (kx := kx) (km := km) (q := q) (l := l) (pl := pl) (sx := sx) (l1 := it (97 + l : Nat)) (Jm := Jm) ha hX H hp np1 hNM1.1 hS1 hq x1 m1 (JS_m (Q' := False) (fun q => hg (hQ q.1).1) (Nat.le_refl _) hJ1) hi hi hl hpl (fun _ => hD.resolve_left hg) hkm
      exact ⟨G, 0, ty, Ix4, Jx4, Im4, y1, y2, FEx_t fx1 y3, FMx_t (Nat.le_refl _) fm1 y4, y5 _ _⟩
end CAL

/-! else, both -/
section BLK
variable {K : Nat → Value} {B d e a : Nat} {w wm wm' : aW} {Ix Im I I' I'' Ix' Im' : aI} {Jx Jm J J' J'' Jx' Jm' : aJ} {bs : Nat → Nat} {t n c r s sl sl' b op op' m m' : Nat} {pd dp : Int} {G G1 G' Gs G2 G3 : gG} {Q gd Q0 Q0' : Prop} {f cnt cnt' st st' : Nat} {vn vn' ln : Nat → Nat} {fa fa' fa0 fa0' fs : Nat → Nat → Nat} {G0 G0' : gG} {P P' : Nat → Prop}
/-- what is known of the code at the beginning of an else -/
def Qe (Q0 gd : Prop) (fa : Nat → Nat → Nat) (f st : Nat) (P : Nat → Prop) (G0 G6 : gG) (jp jx jm : Nat) : Prop := (Q0 ∧ gd) ∧ Wf fa f st (fun p => P p ∨ p = jp) G0 G6 ∧ jx = jp ∧ jm = jp ∧ st ≤ jp ∧ jp < G6.1 ∧ G6.2.1 jp = 24
theorem E_op {dx dy bgx bgm brx brm : Nat} (ha : a = B + 8 ∨ a = B + 22) (hX : TX bs t n) (H : Lay B w) (hp : w.2.1 (B + 2) 1 = some a) (h : SJ K B a bs t n dp w f ln gd G3.1 fs G3 (Qc Q0 gd fs f st P G0 Gs G2 G3 bgx bgm brx brm) (fun _ => False) c 0 (sl + 3) cnt vn fa G (op + 1) Ix Jx wm Im) (hk : kX bs t c 0 = 125) (hk2 : kX bs t (c + 1) 0 = 258) (h19 : Ix (B + 19) op = it 1) (h20 : Ix (B + 20) op = it brx) (ho : op < 64) (hdy : 8 ≤ dy) (b3 : brx ≤ 1000) (b4 : brm ≤ 1000) (s6 : ∀ g k, g < f → fs g k = fa0 g k) (s7 : fLe fa0 fs f) (np : gd → ∀ g, g ≤ f → fs g 1 ≤ fs g 2) :
    ∃ (c5 r5 jp jx jm : Nat) (G6 : gG) (Ix' : aI) (Jx' : aJ) (Im1 Im2 Im3 Im4 Im5 : aI), Cl K (dx + 5) 57 [.ref (B + 2)] w Ix Jx = some (none, w, Ix', Jx') ∧ Cl K (e + 8) 93 [.ref (B + 46), .int (it 125)] wm Im Jm = some (none, wm, Im1, Jm) ∧ MR B bs t n (c + 1) 0 Im1 ∧ Im1 (B + 46) 13 = it jm ∧ Cl K (dy + 8) 111 [.ref (B + 46), .int (it 24), .int (it 0)] wm Im1 Jm = some (none, wm, Im2, Jm) ∧ Cl K (dy + 8) 117 [.ref (B + 46), .int (it brm)] wm Im2 Jm = some (none, wm, Im3, Jm) ∧ Cl K (dy + 8) 84 [.ref (B + 46)] wm Im3 Jm = some (none, wm, Im4, Jm) ∧ Cl K (dy + 7) 93 [.ref (B + 46), .int (it 123)] wm Im4 Jm = some (none, wm, Im5, Jm) ∧ FSx B a f op Ix Jx Ix' Jx' ∧ FMx B wm.2.2.1 Im Jm Im5 Jm ∧ c + 2 ≤ c5 ∧ (r5 = 0 → tst bs t c ≤ tst bs t c5) ∧ jx ≤ 1000 ∧ jm ≤ 1000 ∧ Ix' (B + 2) 11 = it ((op + 1 : Nat) : Int) ∧ Ix' (B + 19) op = it 2 ∧ Ix' (B + 20) op = it jx
      ∧ SJ K B a bs t n dp w f ln gd G6.1 fa G6 (Qe Q0 gd fa f st P G0 G6 jp jx jm) (fun _ => False) c5 r5 (sl + 4) cnt vn fa G6 (op + 1) Ix' Jx' wm Im5 := by
  obtain ⟨n6, n7⟩ := (h.2.2.2.2.2.2.2.2 rfl).2.2.2.2.2
  have hP : PL w a := PLx H ha
  obtain ⟨Ix1, Im1, hc, x1, m1, x3, fx1, fm1, h11, h1⟩ := C_cl (K := K) (dx := dx) (e := e) (Jm := Jm) ha hX H h hk
  obtain ⟨hJ1, hO1, hS1, i2, i30, hcx, hcm, hd, nn⟩ := id h1
  obtain ⟨n1, n2, n3, n4, n5, _, _⟩ := nn rfl
  have h82 := hS1.2.2.2
  obtain ⟨_, _, hXT1, hMR1⟩ := JS_c hJ1
  obtain ⟨jx, jm, N1, N2, N3, N4, hJ2⟩ := JS_N hJ1
  obtain ⟨Ix2, Ix3, Ix4, Jx3, Im2, Im3, Im4, Im5, hc1, p1, p2, p3, p4, p5, p6, p7, p8, p9, p10, p11, p12⟩ := JS_el (K := K) (dx := dx + 1) (dy := dy) (e := dy - 1) (Jm := Jm) (qx := brx) (qm := brm) (q := G2.1) ha hX H hp hS1 hJ2 hk2 b3 b4 (by
    rintro ⟨⟨q1, q2, q3⟩, q4⟩
    obtain ⟨j1, j2, j3, _⟩ := Q_jn n6 n7 np q1 q2 q3
    exact ⟨q1.2.2.2.2.2.1, q1.2.2.2.2.2.2.1, j3, q3.2.1⟩)
  rw [show dy - 1 + 8 = dy + 7 by omega] at p10
  have h11b : Ix4 (B + 2) 11 = it op := by rw [p5.2.1 11 (by omega) (by omega) (by omega)]; exact n5
  have e56 := s_56 (K := K) (d := dx + 2) (k := it 2) (br := it jx) (bg := it 0) H p4 h11b ho
  obtain ⟨Ix5, q1, q2, q3⟩ := p6 (oB B op (it 2) (it jx) (it 0) Ix4) (fun b hb => oB_o (by omega)) (fun k hk => oB_2 hk)
  obtain ⟨o1, o2, o3, o4⟩ := oB_e (B := B) (op := op) (k := it 2) (br := it jx) (bg := it 0) (I := Ix4)
  have hnx := nxC_b (bs := bs) (t := t) (c := c + 1 + 1) (r := 0) (k := 123)
  have c5n := (JS_c q3).1
  have hpx : Ix2 a 6 = it jx := by rw [p2 a (by omega)]; exact N1
  have fmx : FMx B wm.2.2.1 Im Jm Im5 Jm := FMx_t (Nat.le_refl _) fm1 p12
  have fx5 : FSx B a f op Ix Jx Ix5 Jx3 := FSx_t (Nat.le_refl _) (FSx_t (Nat.le_refl _) (FSx_t (Nat.le_refl _) fx1 (FSx_e ha p5)) (FSx_o ha)) (FSx_e ha q2)
  have e19 : Ix5 (B + 19) = oB B op (it 2) (it jx) (it 0) Ix4 (B + 19) := q2.1 (B + 19) (by omega) (by omega) (by omega) (by omega) (by omega) (by omega)
  have e20 : Ix5 (B + 20) = oB B op (it 2) (it jx) (it 0) Ix4 (B + 20) := q2.1 (B + 20) (by omega) (by omega) (by omega) (by omega) (by omega) (by omega)
  have e11 : Ix5 (B + 2) 11 = it ((op + 1 : Nat) : Int) := by rw [q2.2.1 11 (by omega) (by omega) (by omega)]; exact o1
  have hc5 : c + 2 ≤ nxC bs t (c + 1 + 1) 0 123 := by omega
  refine ⟨nxC bs t (c + 1 + 1) 0 123, nxR bs t (c + 1 + 1) 0 123, G.1, jx, jm, pG (gE1 G 24 0 []) G2.1, Ix5, Jx3, Im1, Im2, Im3, Im4, Im5, x_57 (kd := it 1) (br := it brx) (bg := Ix1 (B + 21) op) H x1 h11 ho (by rw [x3 (B + 19) (by omega)]; exact h19) (by rw [x3 (B + 20) (by omega)]; exact h20) rfl (Or.inr (Or.inr ⟨by decide, by decide, x_82e H hp hP hXT1 hX hk2 p1 hpx p3 e56 q1⟩)), m1, hMR1, N2, p7, p8, p9, p10, fx5, fmx, hc5, fun _ => tst_m hX (by omega) c5n, N3, N4, e11, by rw [e19]; exact o2, by rw [e20]; exact o3, ?_⟩
  have nx : NX B a f cnt vn fa ln gd Ix5 := by
    refine NX_f ha q2 ?_
    have := NX_f ha p5 n2
    unfold NX at this ⊢
    rw [oB_2 (by omega), oB_o (b := B + 16) (by omega), oB_o (b := B + 15) (by omega), oB_o (b := a + 5) (by omega), oB_o (b := a + 6) (by omega)]
    exact this
  have nm := NM_f h82 p12 n3
  have e5 : Ix5 (a + 5) = sm_up2 Ix1 (B + 2) 11 (it op) (a + 5) := by rw [q2.1 (a + 5) (by omega) (by omega) (by omega) (by omega) (by omega) (by omega), oB_o (by omega), p5.1 (a + 5) (by omega) (by omega) (by omega) (by omega) (by omega) (by omega)]
  obtain ⟨cx, c1, c2⟩ := hcx
  obtain ⟨cm, c3, c4⟩ := hcm
  refine ⟨JS_m ?_ (Nat.le_refl _) q3, StO_F ha q2 (StO_c (fun b hb => ⟨oB_o (by omega), rfl, rfl⟩) (StO_F ha p5 hO1)), SM_f (WG_r (k := 0)) p12 hS1, nx.1, nm.1, ⟨cx, c1, by rw [e5]; exact c2⟩, ⟨cm, c3, by rw [p12.1 (B + 52) (by omega) (by omega) (by omega) (by omega)]; exact c4⟩, hd.imp id (fun z => ⟨z.1, by have := tst_m hX (show c + 1 ≤ nxC bs t (c + 1 + 1) 0 123 by omega) c5n; omega⟩), fun _ => ⟨n1, nx, nm, by rw [e5]; exact n4, e11, fun _ _ _ => rfl, fun _ _ _ => rfl, Nat.le_refl _, fun _ _ => rfl⟩⟩
  rintro ⟨⟨y1, y2, y3⟩, y4, y5⟩
  obtain ⟨j1, j2, j3, j4, j5, j6⟩ := Q_jn n6 n7 np y1 y2 y3
  obtain ⟨g1, g2, g3, g4, g5, g6⟩ := gE1_o (G := G) (o := 24) (g := 0) (st := [])
  have w24 : Wf fa f st (fun p => (P p ∨ p = G.1) ∨ p = G2.1) G0 (gE1 G 24 0 []) := Wf_e (b := 0) (ts := []) j1 Exs_0 (by omega) (by omega) (by omega) (by simp) (Or.inr (Or.inr (Or.inr (Or.inr (Or.inr (Or.inr (Or.inr (Or.inr (Or.inr (Or.inl ⟨rfl, rfl, rfl⟩)))))))))) (fun p q q2 => q (q2.elim (fun z => Or.inl (Or.inl z)) Or.inr)) (fun _ => Or.inl (Or.inl (Or.inr rfl)))
  have fin : Wf fa f st (fun p => P p ∨ p = G.1) G0 (pG (gE1 G 24 0 []) G2.1) := Wf_p w24 (fun p y1 y2 y3 => y3.elim y1 y2) j4 (by omega) (by omega) (by rw [(g2 G2.1 (by omega)).1, j2]; exact Or.inl rfl)
  refine ⟨⟨⟨y1.1.1, y2⟩, fin, y4, y5, by omega, by show G.1 < G.1 + 1; omega, g3⟩, y2, Nat.le_refl _, fin.2.1, fun _ _ => ⟨rfl, rfl⟩, fun _ _ => rfl, fun p q1 q2 => by omega, fun p q q1 q2 _ _ q3 q4 => by omega⟩
theorem E_end {dx dy jp jx jm : Nat} {G6 : gG} (ha : a = B + 8 ∨ a = B + 22) (hX : TX bs t n) (H : Lay B w) (hp : w.2.1 (B + 2) 1 = some a) (h : SJ K B a bs t n dp w f ln gd G6.1 fs G6 (Qe Q0 gd fs f st P G0 G6 jp jx jm) (fun _ => False) c 0 (sl + 3) cnt vn fa G (op + 1) Ix Jx wm Im) (hk : kX bs t c 0 = 125) (h19 : Ix (B + 19) op = it 2) (h20 : Ix (B + 20) op = it jx) (ho : op < 64) (b3 : jx ≤ 1000) (b4 : jm ≤ 1000) (s6 : ∀ g k, g < f → fs g k = fa0 g k) (s7 : fLe fa0 fs f) (np : gd → ∀ g, g ≤ f → fs g 1 ≤ fs g 2) :
    ∃ (Ix' : aI) (Im1 Im3 : aI) (G' : gG), c < n ∧ Cl K (dx + 5) 57 [.ref (B + 2)] w Ix Jx = some (none, w, Ix', Jx) ∧ Cl K (e + 8) 93 [.ref (B + 46), .int (it 125)] wm Im Jm = some (none, wm, Im1, Jm) ∧ Cl K (dy + 8) 117 [.ref (B + 46), .int (it jm)] wm Im1 Jm = some (none, wm, Im3, Jm) ∧ FSx B a f op Ix Jx Ix' Jx ∧ FMx B wm.2.2.1 Im Jm Im3 Jm ∧ SJ K B a bs t n dp w f ln gd st fa0 G0 Q0 P (c + 1) 0 (sl + 2) cnt vn fa G' op Ix' Jx wm Im3 := by
  obtain ⟨n6, n7⟩ := (h.2.2.2.2.2.2.2.2 rfl).2.2.2.2.2
  have hP : PL w a := PLx H ha
  obtain ⟨Ix1, Im1, hc, x1, m1, x3, fx1, fm1, h11, h1⟩ := C_cl (K := K) (dx := dx) (e := e) (Jm := Jm) ha hX H h hk
  obtain ⟨hJ1, hO1, hS1, _⟩ := id h1
  obtain ⟨_, _, hXT1, hMR1⟩ := JS_c hJ1
  obtain ⟨N, _, N1, _, N2, _, hJ2⟩ := JS_N hJ1
  have jn : Qe Q0 gd fs f st P G0 G6 jp jx jm → gd → Wf fa f G6.1 (fun _ => False) G6 G → Wf fa f st (fun p => P p ∨ p = jp) G0 G ∧ G.2.1 jp = 24 ∧ jp < G.1 := by
    intro q1 hg q3
    obtain ⟨r1, r2, r3, r4, r5, r6, r7⟩ := q1
    have e1 : ∀ g k, g ≤ f → k = 1 ∨ k = 3 → fa g k = fs g k := fun g k hg hk => by
      by_cases e : g = f
      · subst e; exact n7.1 k (by omega) (by omega)
      · exact n6 g k (by omega)
    have e2 : ∀ g v, g ≤ f → v < fs g 1 → fa g (4 + v) = fs g (4 + v) := fun g v hgf hv => by
      by_cases e : g = f
      · subst e; exact n7.2.2 v (by have := np hg g hgf; omega)
      · exact n6 g _ (by omega)
    exact ⟨Wf_j e1 n7.2.2 n7.2.1 e2 r2 q3, by rw [(q3.2.2.1 jp r6).1]; exact r7, by have := q3.1; omega⟩
  obtain ⟨Ix3, Im3, d1, d2, d3, d4, d5⟩ := JS_ld (K := K) (d := dx + 2) (e := dy + 7) (Jm := Jm) (qx := jx) (qm := jm) (q := jp) ha H hS1 hJ2 b3 b4 (by
    rintro ⟨⟨q1, q2, q3⟩, q4⟩
    exact ⟨q1.2.2.1, q1.2.2.2.1, (jn q1 q2 q3).2.2⟩)
  refine ⟨Ix3, Im1, Im3, _, hc, x_57 (kd := it 2) (br := it jx) (bg := Ix1 (B + 21) op) H x1 h11 ho (by rw [x3 (B + 19) (by omega)]; exact h19) (by rw [x3 (B + 20) (by omega)]; exact h20) rfl (Or.inr (Or.inr ⟨by decide, by decide, x_82 H hp hP hXT1 hX (Or.inl (by decide)) d1⟩)), m1, d2, FSx_t (Nat.le_refl _) fx1 (FSx_e ha d3), FMx_t (Nat.le_refl _) fm1 d4, SJ_b2 ha hX h1 d3 d4 (WG_r (k := 0)) (Nat.le_refl _) (fun g k hg => (n6 g k hg).trans (s6 g k hg)) (fLe_t s7 n7) (JS_m ?_ (by omega) d5)⟩
  rintro ⟨⟨q1, q2, q3⟩, q4, q5⟩
  obtain ⟨j1, j2, j3⟩ := jn q1 q2 q3
  exact ⟨q1.1.1, q2, Wf_p j1 (fun p y1 y2 y3 => y3.elim y1 y2) q1.2.2.2.2.1 j3 (by omega) (by rw [j2]; exact Or.inr rfl)⟩
end BLK

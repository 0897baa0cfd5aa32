/-! the end of a block, both -/
section BLK
variable {K : Nat → Value} {B d e a : Nat} {w wm wm' : aW} {Ix Im I I' I'' Ix' Im' : aI} {Jx Jm J J' J'' Jx' Jm' : aJ} {bs : Nat → Nat} {t n c r s sl sl' b op op' m m' : Nat} {pd dp : Int} {G G1 G' Gs G2 G3 : gG} {Q gd Q0 Q0' : Prop} {f cnt cnt' st st' : Nat} {vn vn' ln : Nat → Nat} {fa fa' fa0 fa0' fs : Nat → Nat → Nat} {G0 G0' : gG} {P P' : Nat → Prop}
theorem SJ_b2 {c' r' k : Nat} (ha : a = B + 8 ∨ a = B + 22) (hX : TX bs t n) (h : SJ K B a bs t n dp w f ln gd st fa0 G0 Q0 P c 0 sl cnt vn fa G op Ix Jx wm Im) (h1 : FEx B a Ix Jx Ix' Jx') (h2 : FMx B wm.2.2.1 Im Jm Im' Jm') (h3 : WG' wm wm' k) (hc : c ≤ c') (h6 : ∀ g k, g < f → fa g k = fa0' g k) (h7 : fLe fa0' fa f) (hJ : JS B a bs t n (-1) dp c' r' 0 sl' G' (Q0' ∧ gd ∧ Wf fa f st' P' G0' G') Ix' Jx' Im') : SJ K B a bs t n dp w f ln gd st' fa0' G0' Q0' P' c' r' sl' cnt vn fa G' op Ix' Jx' wm' Im' := by
  obtain ⟨j, o, sm, i2, i30, ⟨cx, c1, c2⟩, ⟨cm, c3, c4⟩, hd, nn⟩ := h
  have hc' := (JS_c hJ).1
  have h82 := sm.2.2.2
  have e5 : Ix' (a + 5) = Ix (a + 5) := h1.1 (a + 5) (by omega) (by omega) (by omega) (by omega) (by omega) (by omega)
  have e59 : Im' (B + 52) = Im (B + 52) := h2.1 (B + 52) (by omega) (by omega) (by omega) (by omega)
  refine ⟨hJ, StO_F ha h1 o, SM_f h3 h2 sm, by rw [h1.2.1 2 (by omega) (by omega) (by omega)]; exact i2, by rw [h2.2.1 30 (by omega) (by omega) (by omega) (by omega) (by omega) (by omega) (by omega) (by omega) (by omega)]; exact i30, ⟨cx, c1, by rw [e5]; exact c2⟩, ⟨cm, c3, by rw [e59]; exact c4⟩, hd.imp id (fun z => ⟨z.1, by have := tst_m hX hc hc'; omega⟩), fun _ => ?_⟩
  obtain ⟨n1, n2, n3, n4, n5, n6⟩ := nn rfl
  exact ⟨n1, NX_f ha h1 n2, NM_f h82 h2 n3, by rw [e5]; exact n4, by rw [h1.2.1 11 (by omega) (by omega) (by omega)]; exact n5, h6, h7⟩
theorem fLe_t (h1 : fLe fa0 fs f) (h2 : fLe fs fa f) : fLe fa0 fa f := ⟨fun k hk hk2 => (h2.1 k hk hk2).trans (h1.1 k hk hk2), by have := h1.2.1; have := h2.2.1; omega, fun v hv => (h2.2.2 v (by have := h1.2.1; omega)).trans (h1.2.2 v hv)⟩
/-- both go over the sign that closes a block -/
theorem C_cl {dx : Nat} (ha : a = B + 8 ∨ a = B + 22) (hX : TX bs t n) (H : Lay B w) (h : SJ K B a bs t n dp w f ln gd st fa0 G0 Q0 P c 0 sl cnt vn fa G (op + 1) Ix Jx wm Im) (hk : kX bs t c 0 = 125) : ∃ Ix1 Im1, c < n ∧ Cl K (dx + 4) 42 [.ref (B + 3)] w Ix Jx = some (none, w, Ix1, Jx) ∧ Cl K (e + 8) 93 [.ref (B + 46), .int (it 125)] wm Im Jm = some (none, wm, Im1, Jm) ∧ FX3 B Ix Ix1 ∧ FSx B a f op Ix Jx (sm_up2 Ix1 (B + 2) 11 (it op)) Jx ∧ FMx B wm.2.2.1 Im Jm Im1 Jm ∧ Ix1 (B + 2) 11 = it ((op + 1 : Nat) : Int) ∧ SJ K B a bs t n dp w f ln gd st fa0 G0 Q0 P (c + 1) 0 (sl + 1) cnt vn fa G op (sm_up2 Ix1 (B + 2) 11 (it op)) Jx wm Im1 := by
  obtain ⟨hJ, hO, hS, i2, i30, ⟨cx, c1, c2⟩, ⟨cm, c3, c4⟩, hd, nn⟩ := h
  obtain ⟨n1, n2, n3, n4, n5, n6, n7⟩ := nn rfl
  have h82 := hS.2.2.2
  obtain ⟨hcn, _, hXT, hMR⟩ := JS_c hJ
  obtain ⟨_, hc, _⟩ := kX_n hX hcn hk (by omega) (by omega)
  obtain ⟨Ix1, x1, x2, x3⟩ := s_42k (K := K) (d := dx + 3) (J := Jx) hX H hXT hk (by omega) (by omega)
  obtain ⟨Im1, m1, m2, m3⟩ := s_93 (K := K) (d := e) (J := Jm) hX hS.1 hS.2.1 hS.2.2.1 hMR (x := 125) (show it 125 = it ((125 : Nat) : Int) from rfl) (by decide)
  unfold nxC nxR at m3
  rw [if_pos hk, if_pos hk] at m3
  have hJ1 := JS_k (sl' := sl + 1) ha hJ x3 x2 m2 m3 (by omega) (fun z => z)
  have fx1 : FEx B a Ix Jx Ix1 Jx := FX3_E ha x3
  have fm1 : FMx B wm.2.2.1 Im Jm Im1 Jm := FMx_6 m2
  have nx1 := NX_f ha fx1 n2
  have hnx : NX B a f cnt vn fa ln gd (sm_up2 Ix1 (B + 2) 11 (it op)) := by
    unfold NX at nx1 ⊢
    rw [up2_r, up1_n (by omega), up2_n (a := B + 2) (b := B + 16) (by omega), up2_n (a := B + 2) (b := B + 15) (by omega), up2_n (a := B + 2) (b := a + 5) (by omega), up2_n (a := B + 2) (b := a + 6) (by omega)]
    exact nx1
  have nm1 := NM_f h82 fm1 n3
  have e5 : sm_up2 Ix1 (B + 2) 11 (it op) (a + 5) = Ix (a + 5) := by rw [up2_n (by omega), x3 (a + 5) (by omega)]
  refine ⟨Ix1, Im1, hc, x1, m1, x3, FSx_t (Nat.le_refl _) (FSx_e ha fx1) (FSx_z ha (fun b h2 _ => up2_n h2) (fun k hk => by rw [up2_r, up1_n hk])), fm1, by rw [x3 (B + 2) (by omega)]; exact n5, JS_11 (x := it 0) ha (fun b hb => up2_n (by omega)) (fun k hk => by rw [up2_r, up1_n hk]) hJ1, StO_c (fun b hb => ⟨up2_n (by omega), rfl, rfl⟩) (StO_F ha fx1 hO), SM_f (WG_r (k := 0)) fm1 hS, hnx.1, nm1.1, ⟨cx, c1, by rw [e5]; exact c2⟩, ⟨cm, c3, by rw [fm1.1 (B + 52) (by omega) (by omega) (by omega) (by omega)]; exact c4⟩, hd.imp id (fun z => ⟨z.1, by have := tst_m hX (show c ≤ c + 1 by omega) hc; omega⟩), fun _ => ⟨n1, hnx, nm1, by rw [e5]; exact n4, by rw [up2_r, up1_s], n6, n7⟩⟩
/-- what the code is at the end of a condition's block -/
theorem Q_jn (n6 : ∀ g k, g < f → fa g k = fs g k) (n7 : fLe fs fa f) (np : gd → ∀ g, g ≤ f → fs g 1 ≤ fs g 2) {bgx bgm brx brm : Nat} (hQ : Qc Q0 gd fs f st P G0 Gs G2 G3 bgx bgm brx brm) (hg : gd) (hW : Wf fa f G3.1 (fun _ => False) G3 G) : Wf fa f st (fun p => P p ∨ p = G2.1) G0 G ∧ G.2.1 G2.1 = 23 ∧ G2.1 < G.1 ∧ st ≤ G2.1 ∧ (∀ p, p < Gs.1 → G.2.1 p = Gs.2.1 p ∧ G.2.2.1 p = Gs.2.2.1 p) ∧ ∀ p, p ≤ Gs.1 → G.2.2.2 p = Gs.2.2.2 p := by
  obtain ⟨q1, q2, q3, q4, q5, q6, q7, q8, q9, q10, q11, q12⟩ := hQ
  have e1 : ∀ g k, g ≤ f → k = 1 ∨ k = 3 → fa g k = fs g k := fun g k hg hk => by
    by_cases e : g = f
    · subst e; exact n7.1 k (by omega) (by omega)
    · exact n6 g k (by omega)
  have e2 : ∀ g v, g ≤ f → v < fs g 1 → fa g (4 + v) = fs g (4 + v) := fun g v hgf hv => by
    by_cases e : g = f
    · subst e; exact n7.2.2 v (by have := np hg g hgf; omega)
    · exact n6 g _ (by omega)
  refine ⟨Wf_j e1 n7.2.2 n7.2.1 e2 q3 hW, by rw [(hW.2.2.1 G2.1 (by omega)).1]; exact q10, by have := hW.1; omega, by have := q2.1; omega, fun p hp => ?_, fun p hp => ?_⟩
  · rw [(hW.2.2.1 p (by omega)).1, (hW.2.2.1 p (by omega)).2]; exact q11 p hp
  · rw [hW.2.2.2.1 p (by omega)]; exact q12 p hp
theorem W_end {dx dy bgx bgm brx brm : Nat} (ha : a = B + 8 ∨ a = B + 22) (hX : TX bs t n) (H : Lay B w) (hp : w.2.1 (B + 2) 1 = some a) (h : SJ K B a bs t n dp w f ln gd G3.1 fs G3 (Qc Q0 gd fs f st P G0 Gs G2 G3 bgx bgm brx brm) (fun _ => False) c 0 (sl + 3) cnt vn fa G (op + 1) Ix Jx wm Im) (hk : kX bs t c 0 = 125) (h19 : Ix (B + 19) op = it 3) (h20 : Ix (B + 20) op = it brx) (h21 : Ix (B + 21) op = it bgx) (ho : op < 64) (b3 : brx ≤ 1000) (b4 : brm ≤ 1000) (s6 : ∀ g k, g < f → fs g k = fa0 g k) (s7 : fLe fa0 fs f) (np : gd → ∀ g, g ≤ f → fs g 1 ≤ fs g 2) :
    ∃ (Ix' : aI) (Jx' : aJ) (Im1 Im2 Im3 : aI) (G' : gG), c < n ∧ Cl K (dx + 5) 57 [.ref (B + 2)] w Ix Jx = some (none, w, Ix', Jx') ∧ Cl K (e + 8) 93 [.ref (B + 46), .int (it 125)] wm Im Jm = some (none, wm, Im1, Jm) ∧ Cl K (dy + 8) 111 [.ref (B + 46), .int (it 24), .int (it bgm)] wm Im1 Jm = some (none, wm, Im2, Jm) ∧ Cl K (dy + 8) 117 [.ref (B + 46), .int (it brm)] wm Im2 Jm = some (none, wm, Im3, Jm) ∧ FSx B a f op Ix Jx Ix' Jx' ∧ FMx B wm.2.2.1 Im Jm Im3 Jm ∧ SJ K B a bs t n dp w f ln gd st fa0 G0 Q0 P (c + 1) 0 (sl + 2) cnt vn fa G' op Ix' Jx' wm Im3 := by
  obtain ⟨n6, n7⟩ := (h.2.2.2.2.2.2.2.2 rfl).2.2.2.2.2
  have hP : PL w a := PLx H ha
  obtain ⟨Ix1, Im1, hc, x1, m1, x3, fx1, fm1, h11, h1⟩ := C_cl (K := K) (dx := dx) (e := e) (Jm := Jm) ha hX H h hk
  obtain ⟨hJ1, hO1, hS1, _⟩ := id h1
  obtain ⟨Ix2, Jx2, Im2, a1, a2, a3, a4, a5⟩ := JS_em (K := K) (d := dx + 2) (e := dy + 7) (Jm := Jm) (o := 24) (g := Gs.1) (k := 0) (gx := it bgx) (gm := it bgm) (tyx := it (-1)) (b := false) ha H hp hS1.1 (JS_m (sl' := sl + 2 + 1) (fun z => z) (by omega) hJ1) hX.2.1 (by omega) ⟨fun z => (by cases z), fun z => absurd rfl z⟩ 0 [] [] (by
    rintro ⟨q1, q2, q3⟩
    exact ⟨by rw [q1.2.2.2.1], by rw [q1.2.2.2.2.1], q3.2.1, rfl, by simp, fun z => (by cases z)⟩)
  have hS2 := SM_f (WG_r (k := 0)) a4 hS1
  obtain ⟨N, _, N1, _, N2, _, hJ2⟩ := JS_N a5
  obtain ⟨Ix3, Im3, d1, d2, d3, d4, d5⟩ := JS_ld (K := K) (d := dx + 2) (e := dy + 7) (Jm := Jm) (qx := brx) (qm := brm) (q := G2.1) ha H hS2 hJ2 b3 b4 (by
    rintro ⟨⟨q1, q2, q3⟩, q4⟩
    obtain ⟨j1, j2, j3, _⟩ := Q_jn n6 n7 np q1 q2 q3
    exact ⟨q1.2.2.2.2.2.1, q1.2.2.2.2.2.2.1, by show G2.1 < G.1 + 1; omega⟩)
  have fx := FEx_t a3 d3
  have fm := FMx_t (Nat.le_refl _) a4 d4
  have hXT2 := (JS_c a5).2.2.1
  refine ⟨Ix3, Jx2, Im1, Im2, Im3, _, hc, x_57 (kd := it 3) (br := it brx) (bg := it bgx) H x1 h11 ho (by rw [x3 (B + 19) (by omega)]; exact h19) (by rw [x3 (B + 20) (by omega)]; exact h20) (by rw [x3 (B + 21) (by omega)]; exact h21) (Or.inr (Or.inl ⟨rfl, Ix2, Jx2, a1, x_82 H hp hP hXT2 hX (Or.inl (by decide)) d1⟩)), m1, a2, d2, FSx_t (Nat.le_refl _) fx1 (FSx_e ha fx), FMx_t (Nat.le_refl _) fm1 fm, SJ_b2 ha hX h1 fx fm (WG_r (k := 0)) (Nat.le_refl _) (fun g k hg => (n6 g k hg).trans (s6 g k hg)) (fLe_t s7 n7) (JS_m ?_ (Nat.le_refl _) d5)⟩
  rintro ⟨⟨q1, q2, q3⟩, q4, q5⟩
  obtain ⟨j1, j2, j3, j4, j5, j6⟩ := Q_jn n6 n7 np q1 q2 q3
  have hs := q1.2.1
  have hN1 : G.1 + 1 ≤ 1000 := by have : N = G.1 + 1 := q4; omega
  have sG := q1.2.2.2.2.2.2.2.1
  obtain ⟨g1, g2, g3, g4, g5, g6⟩ := gE1_o (G := G) (o := 24) (g := Gs.1) (st := [])
  have w24 : Wf fa f st (fun p => P p ∨ p = G2.1) G0 (gE1 G 24 Gs.1 []) := Wf_e (b := 0) (ts := []) j1 Exs_0 (by omega) (by omega) (by omega) (by simp) (Or.inr (Or.inr (Or.inr (Or.inr (Or.inr (Or.inr (Or.inr (Or.inr (Or.inr (Or.inl ⟨rfl, rfl, rfl⟩)))))))))) (fun p q => q) (fun _ => Or.inr ⟨rfl, hs.1, by omega, by rw [j6 _ (Nat.le_refl _)]; exact hs.2.1, rfl, fun q q1' q2' q3' q4' => by
    rw [(j5 q q2').1] at q3'
    rw [(j5 q q2').2]
    exact ((hs.2.2.2.2.1 q q1' q2').2.2.2.2 q3' (fun y => q4' (Or.inl y))).2.1⟩)
  have fin : Wf fa f st P G0 (pG (gE1 G 24 Gs.1 []) G2.1) := Wf_p w24 (fun p y1 y2 y3 => y3.elim y1 y2) j4 (by omega) (by omega) (by rw [(g2 G2.1 (by omega)).1, j2]; exact Or.inl rfl)
  exact ⟨q1.1.1, q2, fin⟩
theorem I_end {dx dy bgx bgm brx brm : Nat} (ha : a = B + 8 ∨ a = B + 22) (hX : TX bs t n) (H : Lay B w) (hp : w.2.1 (B + 2) 1 = some a) (h : SJ K B a bs t n dp w f ln gd G3.1 fs G3 (Qc Q0 gd fs f st P G0 Gs G2 G3 bgx bgm brx brm) (fun _ => False) c 0 (sl + 3) cnt vn fa G (op + 1) Ix Jx wm Im) (hk : kX bs t c 0 = 125) (hk2 : ¬ kX bs t (c + 1) 0 = 258) (h19 : Ix (B + 19) op = it 1) (h20 : Ix (B + 20) op = it brx) (ho : op < 64) (b3 : brx ≤ 1000) (b4 : brm ≤ 1000) (s6 : ∀ g k, g < f → fs g k = fa0 g k) (s7 : fLe fa0 fs f) (np : gd → ∀ g, g ≤ f → fs g 1 ≤ fs g 2) :
    ∃ (Ix' : aI) (Im1 Im3 : aI) (G' : gG), c < n ∧ Cl K (dx + 5) 57 [.ref (B + 2)] w Ix Jx = some (none, w, Ix', Jx) ∧ Cl K (e + 8) 93 [.ref (B + 46), .int (it 125)] wm Im Jm = some (none, wm, Im1, Jm) ∧ MR B bs t n (c + 1) 0 Im1 ∧ Cl K (dy + 8) 117 [.ref (B + 46), .int (it brm)] wm Im1 Jm = some (none, wm, Im3, Jm) ∧ FSx B a f op Ix Jx Ix' Jx ∧ FMx B wm.2.2.1 Im Jm Im3 Jm ∧ SJ K B a bs t n dp w f ln gd st fa0 G0 Q0 P (c + 1) 0 (sl + 2) cnt vn fa G' op Ix' Jx wm Im3 := by
  obtain ⟨n6, n7⟩ := (h.2.2.2.2.2.2.2.2 rfl).2.2.2.2.2
  have hP : PL w a := PLx H ha
  obtain ⟨Ix1, Im1, hc, x1, m1, x3, fx1, fm1, h11, h1⟩ := C_cl (K := K) (dx := dx) (e := e) (Jm := Jm) ha hX H h hk
  obtain ⟨hJ1, hO1, hS1, _⟩ := id h1
  obtain ⟨_, _, hXT1, hMR1⟩ := JS_c hJ1
  obtain ⟨N, _, N1, _, N2, _, hJ2⟩ := JS_N hJ1
  obtain ⟨Ix3, Im3, d1, d2, d3, d4, d5⟩ := JS_ld (K := K) (d := dx + 2) (e := dy + 7) (Jm := Jm) (qx := brx) (qm := brm) (q := G2.1) ha H hS1 hJ2 b3 b4 (by
    rintro ⟨⟨q1, q2, q3⟩, q4⟩
    obtain ⟨j1, j2, j3, _⟩ := Q_jn n6 n7 np q1 q2 q3
    exact ⟨q1.2.2.2.2.2.1, q1.2.2.2.2.2.2.1, j3⟩)
  refine ⟨Ix3, Im1, Im3, _, hc, x_57 (kd := it 1) (br := it brx) (bg := Ix1 (B + 21) op) H x1 h11 ho (by rw [x3 (B + 19) (by omega)]; exact h19) (by rw [x3 (B + 20) (by omega)]; exact h20) rfl (Or.inr (Or.inr ⟨by decide, by decide, x_82 H hp hP hXT1 hX (Or.inr hk2) d1⟩)), m1, hMR1, d2, FSx_t (Nat.le_refl _) fx1 (FSx_e ha d3), FMx_t (Nat.le_refl _) fm1 d4, SJ_b2 ha hX h1 d3 d4 (WG_r (k := 0)) (Nat.le_refl _) (fun g k hg => (n6 g k hg).trans (s6 g k hg)) (fLe_t s7 n7) (JS_m ?_ (by omega) d5)⟩
  rintro ⟨⟨q1, q2, q3⟩, q4, q5⟩
  obtain ⟨j1, j2, j3, j4, j5, j6⟩ := Q_jn n6 n7 np q1 q2 q3
  exact ⟨q1.1.1, q2, Wf_p j1 (fun p y1 y2 y3 => y3.elim y1 y2) j4 j3 (by omega) (by rw [j2]; exact Or.inl rfl)⟩
end BLK

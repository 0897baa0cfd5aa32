/-! if and while, the reference as a whole -/
section BLK
variable {K : Nat → Value} {B d e a : Nat} {w wm wm2 wm3 wm4 : aW} {Im Im1 Im2 Im3 Im4 Im5 Im6 Im7 Im8 Im9 Ima : aI} {Jm Jm2 Jm3 Jm4 : aJ} {bs : Nat → Nat} {t n c dy : Nat} {ty ov ag : Int32}
theorem MIf1 (H : Lay B wm) (H2 : Lay B wm2) (H3 : Lay B wm3) (hT : MR B bs t n c 0 Im) (hk : kX bs t c 0 = 257) (h84 : Cl K (dy + 8) 84 [.ref (B + 46)] wm Im Jm = some (none, wm, Im1, Jm)) (h101 : Cl K (dy + 8) 101 [.ref (B + 46)] wm Im1 Jm = some (some (.int ty), wm2, Im2, Jm2)) (h110 : Cl K (dy + 8) 110 [.ref (B + 46), .int (it (if ty = it 1 then 1 else 0)), .int (it (tst bs t c : Nat))] wm2 Im2 Jm2 = some (none, wm2, Im3, Jm2)) (hov : Im3 (B + 46) 13 = ov) (h111 : Cl K (dy + 8) 111 [.ref (B + 46), .int (it 23), .int (it 0)] wm2 Im3 Jm2 = some (none, wm2, Im4, Jm2)) (h98 : Cl K (dy + 8) 98 [.ref (B + 46)] wm2 Im4 Jm2 = some (none, wm3, Im5, Jm3)) (h89 : Cl K (dy + 8) 89 [.ref (B + 46), .int (it 6)] wm3 Im5 Jm3 = some (some (.int (it 0)), wm3, Im5, Jm3)) (h117 : Cl K (dy + 8) 117 [.ref (B + 46), .int ov] wm3 Im5 Jm3 = some (none, wm3, Im6, Jm3)) : Cl K (dy + 9) 99 [.ref (B + 46)] wm Im Jm = some (none, wm3, Im6, Jm3) := by
  refine m_99c (R := (none, wm3, Im6, Jm3)) (kf := 0) H hT (by unfold isT; omega) (by omega) (m_59c H H2 hT h84 h101 Iff.rfl h110 hov h111 (Or.inl ⟨hk, ?_⟩))
  rw [h98]
  simp only [cV_e, gO_e (yt46 H3)]
  rw [h89]
  simp only [cI_e, gO_e (yt46 H3)]
  rw [if_pos trivial, h117]
  rfl
theorem MIf2 (H : Lay B wm) (H2 : Lay B wm2) (H3 : Lay B wm3) (H4 : Lay B wm4) (hT : MR B bs t n c 0 Im) (hk : kX bs t c 0 = 257) (h84 : Cl K (dy + 8) 84 [.ref (B + 46)] wm Im Jm = some (none, wm, Im1, Jm)) (h101 : Cl K (dy + 8) 101 [.ref (B + 46)] wm Im1 Jm = some (some (.int ty), wm2, Im2, Jm2)) (h110 : Cl K (dy + 8) 110 [.ref (B + 46), .int (it (if ty = it 1 then 1 else 0)), .int (it (tst bs t c : Nat))] wm2 Im2 Jm2 = some (none, wm2, Im3, Jm2)) (hov : Im3 (B + 46) 13 = ov) (h111 : Cl K (dy + 8) 111 [.ref (B + 46), .int (it 23), .int (it 0)] wm2 Im3 Jm2 = some (none, wm2, Im4, Jm2)) (h98 : Cl K (dy + 8) 98 [.ref (B + 46)] wm2 Im4 Jm2 = some (none, wm3, Im5, Jm3)) (h89 : Cl K (dy + 8) 89 [.ref (B + 46), .int (it 6)] wm3 Im5 Jm3 = some (some (.int (it 1)), wm3, Im5, Jm3)) (hag : Im5 (B + 46) 13 = ag) (h111b : Cl K (dy + 8) 111 [.ref (B + 46), .int (it 24), .int (it 0)] wm3 Im5 Jm3 = some (none, wm3, Im6, Jm3)) (h117 : Cl K (dy + 8) 117 [.ref (B + 46), .int ov] wm3 Im6 Jm3 = some (none, wm3, Im7, Jm3)) (h84b : Cl K (dy + 8) 84 [.ref (B + 46)] wm3 Im7 Jm3 = some (none, wm3, Im8, Jm3)) (h98b : Cl K (dy + 8) 98 [.ref (B + 46)] wm3 Im8 Jm3 = some (none, wm4, Im9, Jm4)) (h117b : Cl K (dy + 8) 117 [.ref (B + 46), .int ag] wm4 Im9 Jm4 = some (none, wm4, Ima, Jm4)) : Cl K (dy + 9) 99 [.ref (B + 46)] wm Im Jm = some (none, wm4, Ima, Jm4) := by
  refine m_99c (R := (none, wm4, Ima, Jm4)) (kf := 0) H hT (by unfold isT; omega) (by omega) (m_59c H H2 hT h84 h101 Iff.rfl h110 hov h111 (Or.inl ⟨hk, ?_⟩))
  rw [h98]
  simp only [cV_e, gO_e (yt46 H3)]
  rw [h89]
  simp only [cI_e, gO_e (yt46 H3)]
  rw [if_neg (by decide), h111b]
  simp only [cV_e, gO_e (yt46 H3)]
  rw [h117]
  simp only [cV_e, gO_e (yt46 H3)]
  rw [h84b]
  simp only [cV_e, gO_e (yt46 H3)]
  rw [h98b]
  simp only [cV_e, gO_e (yt46 H4)]
  rw [hag, h117b]
  rfl
theorem MWh (H : Lay B wm) (H2 : Lay B wm2) (H3 : Lay B wm3) (hT : MR B bs t n c 0 Im) (hk : kX bs t c 0 = 259) (h84 : Cl K (dy + 8) 84 [.ref (B + 46)] wm Im Jm = some (none, wm, Im1, Jm)) (hag : Im1 (B + 46) 13 = ag) (h101 : Cl K (dy + 8) 101 [.ref (B + 46)] wm Im1 Jm = some (some (.int ty), wm2, Im2, Jm2)) (h110 : Cl K (dy + 8) 110 [.ref (B + 46), .int (it (if ty = it 1 then 1 else 0)), .int (it (tst bs t c : Nat))] wm2 Im2 Jm2 = some (none, wm2, Im3, Jm2)) (hov : Im3 (B + 46) 13 = ov) (h111 : Cl K (dy + 8) 111 [.ref (B + 46), .int (it 23), .int (it 0)] wm2 Im3 Jm2 = some (none, wm2, Im4, Jm2)) (h98 : Cl K (dy + 8) 98 [.ref (B + 46)] wm2 Im4 Jm2 = some (none, wm3, Im5, Jm3)) (h111b : Cl K (dy + 8) 111 [.ref (B + 46), .int (it 24), .int ag] wm3 Im5 Jm3 = some (none, wm3, Im6, Jm3)) (h117 : Cl K (dy + 8) 117 [.ref (B + 46), .int ov] wm3 Im6 Jm3 = some (none, wm3, Im7, Jm3)) : Cl K (dy + 9) 99 [.ref (B + 46)] wm Im Jm = some (none, wm3, Im7, Jm3) := by
  refine m_99c (R := (none, wm3, Im7, Jm3)) (kf := 0) H hT (by unfold isT; omega) (by omega) (m_59c H H2 hT h84 h101 Iff.rfl h110 hov h111 (Or.inr ⟨hk, ?_⟩))
  rw [h98]
  simp only [cV_e, gO_e (yt46 H3)]
  rw [hag, h111b]
  simp only [cV_e, gO_e (yt46 H3)]
  rw [h117]
  rfl
end BLK
/-! a condition and its blocks, both -/
section BLK
variable {K : Nat → Value} {B d e a : Nat} {w wm wm' : aW} {Ix Im I I' I'' Ix' Im' : aI} {Jx Jm J J' J'' Jx' Jm' : aJ} {bs : Nat → Nat} {t n c r s sl sl' b op op' m m' : Nat} {pd dp : Int} {G G1 G' Gs G2 G3 : gG} {Q gd Q0 Q0' : Prop} {f cnt cnt' st st' : Nat} {vn vn' ln : Nat → Nat} {fa fa' fa0 fa0' fs : Nat → Nat → Nat} {G0 G0' : gG} {P P' : Nat → Prop}
theorem e89r {y : Nat} (h : SJ K B a bs t n dp w f ln gd st fa0 G0 Q0 P c 1 sl cnt vn fa G op Ix Jx wm Im) : Cl K (y + 1) 89 [.ref (B + 46), .int (it 6)] wm Im Jm = some (some (.int (it 0)), wm, Im, Jm) := by
  have e6 := s_89 (K := K) (d := y) (J := Jm) h.2.2.1.1 (JS_c h.1).2.2.2 (show it 6 = it ((6 : Nat) : Int) from rfl) (by omega)
  rw [if_neg (by unfold kX; rw [if_neg (by omega)]; decide)] at e6
  exact e6
/-- a while -/
theorem S_wh {dx dy kx i : Nat} (ha : a = B + 8 ∨ a = B + 22) (hX : TX bs t n) (H : Lay B w) (hp : w.2.1 (B + 2) 1 = some a) (hdx : 180 ≤ dx) (hB : ∀ m', m' < m → BSp K B a bs t n dp w f ln gd dx m') (h1 : n + 1 ≤ c + m) (o1 : 1 ≤ op) (o2 : 4 * op ≤ tst bs t c) (h4 : n + 5 ≤ c + kx) (h5 : i + 5 ≤ c) (hy : 200 + 3 * m ≤ dy + 9) (h : SJ K B a bs t n dp w f ln gd st fa0 G0 Q0 P c 0 (sl + 2) cnt vn fa G op Ix Jx wm Im) (hk : kX bs t c 0 = 259) :
    ∃ (c' r' cnt' : Nat) (vn' : Nat → Nat) (fa' : Nat → Nat → Nat) (G' : gG) (Ix' : aI) (Jx' : aJ) (wm' : aW) (Im' : aI) (Jm' : aJ), Cl K (dy + 9) 99 [.ref (B + 46)] wm Im Jm = some (none, wm', Im', Jm') ∧ FSx B a f op Ix Jx Ix' Jx' ∧ FSm B f wm.2.2.1 Im Jm Im' Jm' ∧ WG' wm wm' (c' - c) ∧ c ≤ c' ∧ (r' = 0 → c < c') ∧ SJ K B a bs t n dp w f ln gd st fa0 G0 Q0 P c' r' (slR r' sl) cnt' vn' fa' G' op Ix' Jx' wm' Im' ∧ LoopR K B n dx w (f_55_9 K kx (dx + 5) (B + 2) (it ((i : Nat) : Int)) w Ix Jx) c' r' Ix' Jx' := by
  obtain ⟨hJ, hO, hS, i2, i30, hcx, hcm, hd, nn⟩ := id h
  obtain ⟨n1, n2, n3, n4, n5, n6, n7⟩ := nn rfl
  have hn := hX.2.1
  have h82 := hS.2.2.2
  obtain ⟨hcn, _, hXT, hMR⟩ := JS_c hJ
  have ht := tst_t bs t c
  have ht2 := hX.1
  obtain ⟨_, hc0, _⟩ := kX_n hX hcn hk (by omega) (by omega)
  have np : gd → ∀ g, g ≤ f → fa g 1 ≤ fa g 2 := fun hg g hgf => ((n1.2.2.2.2 hg).1 g hgf).2.1
  obtain ⟨c3, r3, G2, G3, bgx, bgm, brx, brm, ty, Ix5, Jx4, wm2, Im1, Im2, Im3, Im4, Im5, Jm2, a1, a2, a3, a4, a5, a6, a7, a8, a9, a10, a11, a12, a13, a14, a15, a16, a17, a18, a19, a20, a21, a22, a23⟩ := C_75 (K := K) (dx := dx) (dy := dy) (k := 3) (Jm := Jm) ha hX H hp hdx (by omega) (by omega) h (Or.inr ⟨hk, rfl⟩)
  obtain ⟨kx, rfl⟩ : ∃ k', kx = k' + 1 := ⟨kx - 1, by omega⟩
  have hb := b_step (K := K) (dx := dx) (kx := kx) (i := i) (mm := 75) hX H hXT (by omega) n5 o1 (by omega) (Or.inr (Or.inr (Or.inr (Or.inl ⟨hk, rfl⟩)))) a1
  obtain ⟨c3n, r31, hXT3, _⟩ := JS_c a23.1
  have sz2 := a12.2.1
  by_cases r30 : r3 = 0
  · subst r30
    obtain ⟨c4, r4, cnt4, vn4, fa4, G4, Ix6, Jx6, wm6, Im6, Jm6, d1, d2, d3, d4, d5, d6, d7⟩ := hB (m - 1) (by omega) G3.1 fa G3 (Qc Q0 gd fa f st P G0 G G2 G3 bgx bgm brx brm) (fun _ => False) c3 (sl + 1) cnt vn fa G3 (op + 1) Ix5 Jx4 wm2 Im5 Jm2 kx (i + 1) 1000 (dy + 7) (by omega) (by omega) (by have := a14 rfl; omega) (by omega) (by omega) (by omega) (by omega) a23
    have sz6 := d4.2.1
    rcases d7 with ⟨r40, kx', i', e1, e2, e3⟩ | ⟨r41, e1⟩
    · subst r40
      obtain ⟨_, q2, q3⟩ := d1.resolve_right (fun z => by omega)
      obtain ⟨g1, g2, g3⟩ := d2.2.2.2.2.2.1 op (by omega)
      obtain ⟨Ix7, Jx7, Im7, Im8, Im9, G7, w0, w1, w2, w3, w4, w5, w6, w7⟩ := W_end (K := K) (dx := dx) (dy := dy) (e := dy - 1) (Jm := Jm6) ha hX H hp d6 q2 (by rw [g1]; exact a20) (by rw [g2]; exact a21) (by rw [g3]; exact a22) (by omega) a17 a18 n6 n7 np
      rw [show dy - 1 + 8 = dy + 7 by omega] at w2
      rw [w2] at q3
      obtain ⟨_, _, hXT6, _⟩ := JS_c d6.1
      obtain ⟨kx', rfl⟩ : ∃ k', kx' = k' + 1 := ⟨kx' - 1, by omega⟩
      have c4n := (JS_c d6.1).1
      have n5b := (d6.2.2.2.2.2.2.2.2 rfl).2.2.2.2.1
      have ht4 := tst_t bs t c4
      have hb2 := b_step (K := K) (dx := dx) (kx := kx') (i := i') (mm := 57) hX H hXT6 (by omega) n5b (by omega) (by omega) (Or.inr (Or.inl ⟨q2, rfl⟩)) w1
      refine ⟨c4 + 1, 0, cnt4, vn4, fa4, G7, Ix7, Jx7, wm6, Im9, Jm6, MWh hS.1 a9 d6.2.2.1.1 hMR hk a2 a3 a4 a5 a6 a7 (m_98 a9 a8 q3) w3 w4, FSx_t (by omega) (FSx_t (by omega) a10 d2) w5, FSm_t (by omega) (FSm_t sz2 a11 d3) (FSm_e (by omega) w6), WG_k (by omega) (WG_t a12 d4), by omega, fun _ => by omega, w7, Or.inl ⟨rfl, kx', i' + 1, hb.trans (e1.trans hb2), by omega, by omega⟩⟩
    · subst r41
      obtain ⟨_, q2⟩ := d1.resolve_left (fun z => by omega)
      obtain ⟨Im7, u1, u2, u3⟩ := R1_111 (K := K) (e := dy + 7) (Jm := Jm6) (oo := it 24) (g := it bgm) (sl := sl) hn (SJ_s (by unfold slR; simp) d6)
      obtain ⟨Im8, v1, v2, v3⟩ := R1_117 (K := K) (e := dy + 7) (Jm := Jm6) (q := brm) a18 u3
      have hS6 := d6.2.2.1
      exact ⟨c4, 1, cnt, vn, fa, G, Ix6, Jx6, wm6, Im8, Jm6, MWh hS.1 a9 hS6.1 hMR hk a2 a3 a4 a5 a6 a7 (m_98 a9 a8 q2) u1 v1, FSx_t (by omega) a10 d2, FSm_t (by omega) (FSm_t sz2 a11 d3) (FSm_e (by omega) (FMx_t (Nat.le_refl _) u2 v2)), WG_k (by omega) (WG_t a12 d4), by omega, fun z => by omega, SJ_a (by unfold slR; simp) v3, Or.inr ⟨rfl, hb.trans e1⟩⟩
  · have r31' : r3 = 1 := by omega
    subst r31'
    have k3 : kX bs t c3 1 = 3 := by unfold kX; rw [if_neg (by omega)]
    obtain ⟨kx, rfl⟩ : ∃ k', kx = k' + 2 := ⟨kx - 2, by omega⟩
    obtain ⟨Ix6, z1, z2, z3, z4⟩ := b_end (K := K) (dx := dx) (kx := kx) (i := i + 1) (op := op) (Jx := Jx4) hX H hXT3 (by omega) (Or.inl rfl) (by rw [k3]; omega)
    have sj := SJ_z ha a23 (fun _ => trivial) rfl z2 z3 z4
    obtain ⟨Im6, t1, t2, t3⟩ := R1_98 (K := K) (y := dy - 1) (km := 999) (Jm := Jm2) hX sj
    rw [show dy - 1 + 8 = dy + 7 by omega] at t1
    obtain ⟨Im7, u1, u2, u3⟩ := R1_111 (K := K) (e := dy + 7) (Jm := Jm2) (oo := it 24) (g := it bgm) (sl := sl) hn (SJ_s (by simp) t3)
    obtain ⟨Im8, v1, v2, v3⟩ := R1_117 (K := K) (e := dy + 7) (Jm := Jm2) (q := brm) a18 u3
    exact ⟨c3, 1, cnt, vn, fa, G, Ix6, Jx4, wm2, Im8, Jm2, MWh hS.1 a9 a9 hMR hk a2 a3 a4 a5 a6 a7 (m_98 a9 a8 t1) u1 v1, FSx_t (Nat.le_refl _) a10 (FSx_z ha z3 z4), FSm_t sz2 a11 (FSm_e (by omega) (FMx_t (Nat.le_refl _) (FMx_t (Nat.le_refl _) t2 u2) v2)), a12, by omega, fun z => by omega, SJ_a (by unfold slR; simp) v3, Or.inr ⟨rfl, hb.trans z1⟩⟩
end BLK

/-! if, and all statements -/
section BLK
variable {K : Nat → Value} {B d e a : Nat} {w wm wm' : aW} {Ix Im I I' I'' Ix' Im' : aI} {Jx Jm J J' J'' Jx' Jm' : aJ} {bs : Nat → Nat} {t n c r s sl sl' b op op' m m' : Nat} {pd dp : Int} {G G1 G' Gs G2 G3 : gG} {Q gd Q0 Q0' : Prop} {f cnt cnt' st st' : Nat} {vn vn' ln : Nat → Nat} {fa fa' fa0 fa0' fs : Nat → Nat → Nat} {G0 G0' : gG} {P P' : Nat → Prop}
theorem S_if {dx dy kx i : Nat} (ha : a = B + 8 ∨ a = B + 22) (hX : TX bs t n) (H : Lay B w) (hp : w.2.1 (B + 2) 1 = some a) (hdx : 180 ≤ dx) (hB : ∀ m', m' < m → BSp K B a bs t n dp w f ln gd dx m') (h1 : n + 1 ≤ c + m) (o1 : 1 ≤ op) (o2 : 4 * op ≤ tst bs t c) (h4 : n + 5 ≤ c + kx) (h5 : i + 5 ≤ c) (hy : 200 + 3 * m ≤ dy + 9) (h : SJ K B a bs t n dp w f ln gd st fa0 G0 Q0 P c 0 (sl + 2) cnt vn fa G op Ix Jx wm Im) (hk : kX bs t c 0 = 257) :
    ∃ (c' r' cnt' : Nat) (vn' : Nat → Nat) (fa' : Nat → Nat → Nat) (G' : gG) (Ix' : aI) (Jx' : aJ) (wm' : aW) (Im' : aI) (Jm' : aJ), Cl K (dy + 9) 99 [.ref (B + 46)] wm Im Jm = some (none, wm', Im', Jm') ∧ FSx B a f op Ix Jx Ix' Jx' ∧ FSm B f wm.2.2.1 Im Jm Im' Jm' ∧ WG' wm wm' (c' - c) ∧ c ≤ c' ∧ (r' = 0 → c < c') ∧ SJ K B a bs t n dp w f ln gd st fa0 G0 Q0 P c' r' (slR r' sl) cnt' vn' fa' G' op Ix' Jx' wm' Im' ∧ LoopR K B n dx w (f_55_9 K kx (dx + 5) (B + 2) (it ((i : Nat) : Int)) w Ix Jx) c' r' Ix' Jx' := by
  obtain ⟨hJ, hO, hS, i2, i30, hcx, hcm, hd, nn⟩ := id h
  obtain ⟨n1, n2, n3, n4, n5, n6, n7⟩ := nn rfl
  have hn := hX.2.1
  have h82 := hS.2.2.2
  obtain ⟨hcn, _, hXT, hMR⟩ := JS_c hJ
  have ht := tst_t bs t c
  have ht2 := hX.1
  obtain ⟨_, hc0, _⟩ := kX_n hX hcn hk (by omega) (by omega)
  have np : gd → ∀ g, g ≤ f → fa g 1 ≤ fa g 2 := fun hg g hgf => ((n1.2.2.2.2 hg).1 g hgf).2.1
  obtain ⟨c3, r3, G2, G3, bgx, bgm, brx, brm, ty, Ix5, Jx4, wm2, Im1, Im2, Im3, Im4, Im5, Jm2, a1, a2, a3, a4, a5, a6, a7, a8, a9, a10, a11, a12, a13, a14, a15, a16, a17, a18, a19, a20, a21, a22, a23⟩ := C_75 (K := K) (dx := dx) (dy := dy) (k := 1) (Jm := Jm) ha hX H hp hdx (by omega) (by omega) h (Or.inl ⟨hk, rfl⟩)
  obtain ⟨kx, rfl⟩ : ∃ k', kx = k' + 1 := ⟨kx - 1, by omega⟩
  have hb := b_step (K := K) (dx := dx) (kx := kx) (i := i) (mm := 75) hX H hXT (by omega) n5 o1 (by omega) (Or.inr (Or.inr (Or.inl ⟨hk, rfl⟩))) a1
  obtain ⟨c3n, r31, hXT3, _⟩ := JS_c a23.1
  have sz2 := a12.2.1
  by_cases r30 : r3 = 0
  · subst r30
    obtain ⟨c4, r4, cnt4, vn4, fa4, G4, Ix6, Jx6, wm6, Im6, Jm6, d1, d2, d3, d4, d5, d6, d7⟩ := hB (m - 1) (by omega) G3.1 fa G3 (Qc Q0 gd fa f st P G0 G G2 G3 bgx bgm brx brm) (fun _ => False) c3 (sl + 1) cnt vn fa G3 (op + 1) Ix5 Jx4 wm2 Im5 Jm2 kx (i + 1) 1000 (dy + 7) (by omega) (by omega) (by have := a14 rfl; omega) (by omega) (by omega) (by omega) (by omega) a23
    have sz6 := d4.2.1
    have hS6 := d6.2.2.1
    rcases d7 with ⟨r40, kx', i', e1, e2, e3⟩ | ⟨r41, e1⟩
    · subst r40
      obtain ⟨_, q2, q3⟩ := d1.resolve_right (fun z => by omega)
      obtain ⟨g1, g2, g3⟩ := d2.2.2.2.2.2.1 op (by omega)
      obtain ⟨c4n, _, hXT6, _⟩ := JS_c d6.1
      obtain ⟨kx', rfl⟩ : ∃ k', kx' = k' + 1 := ⟨kx' - 1, by omega⟩
      have n5b := (d6.2.2.2.2.2.2.2.2 rfl).2.2.2.2.1
      by_cases hel : kX bs t (c4 + 1) 0 = 258
      · obtain ⟨c5, r5, jp, jx, jm, G6, Ix7, Jx7, Im7, Im8, Im9, Ima, Imb, w1, w2, w3, w4, w5, w6, w7, w8, w9, w10, w11, w12, w13, w14, w15, w16, w17, w18⟩ := E_op (K := K) (dx := dx) (dy := dy) (e := dy - 1) (Jm := Jm6) ha hX H hp d6 q2 hel (by rw [g1]; exact a20) (by rw [g2]; exact a21) (by omega) (by omega) a17 a18 n6 n7 np
        rw [show dy - 1 + 8 = dy + 7 by omega] at w2
        rw [w2] at q3
        have h98 := m_98 a9 a8 q3
        have hb2 := b_step (K := K) (dx := dx) (kx := kx') (i := i') (mm := 57) hX H hXT6 (by omega) n5b (by omega) (by omega) (Or.inr (Or.inl ⟨q2, rfl⟩)) w1
        have e89 := s_89 (K := K) (d := dy + 7) (J := Jm6) hS6.1 w3 (show it 6 = it ((6 : Nat) : Int) from rfl) (by omega)
        rw [if_pos (show kX bs t (c4 + 1) 0 = cvt 6 from hel)] at e89
        obtain ⟨c5n, r51, hXT7, _⟩ := JS_c w18.1
        have fs7 : FSx B a f op Ix Jx Ix7 Jx7 := FSx_t (by omega) (FSx_t (by omega) a10 d2) w9
        have fm7 : FSm B f wm.2.2.1 Im Jm Imb Jm6 := FSm_t (by omega) (FSm_t sz2 a11 d3) (FSm_e (by omega) w10)
        have wg7 : WG' wm wm6 (c5 - c) := WG_k (by omega) (WG_t a12 d4)
        by_cases r50 : r5 = 0
        · subst r50
          have n6' := (d6.2.2.2.2.2.2.2.2 rfl).2.2.2.2.2.1
          have n7' := (d6.2.2.2.2.2.2.2.2 rfl).2.2.2.2.2.2
          have np' : gd → ∀ g, g ≤ f → fa4 g 1 ≤ fa4 g 2 := fun hg g hgf => (((d6.2.2.2.2.2.2.2.2 rfl).1.2.2.2.2 hg).1 g hgf).2.1
          have ho5 : 4 * (op + 1) ≤ tst bs t c5 := by have := w12 rfl; have := tst_m hX d5 c4n; have := a14 rfl; omega
          obtain ⟨c8, r8, cnt8, vn8, fa8, G8, Ix8, Jx8, wm8, Imc, Jm8, j1, j2, j3, j4, j5, j6, j7⟩ := hB (m - 1) (by omega) G6.1 fa4 G6 (Qe Q0 gd fa4 f st P G0 G6 jp jx jm) (fun _ => False) c5 (sl + 2) cnt4 vn4 fa4 G6 (op + 1) Ix7 Jx7 wm6 Imb Jm6 kx' (i' + 1) 1000 (dy + 7) (by omega) (by omega) ho5 (by omega) (by omega) (by omega) (by omega) w18
          have sz8 := j4.2.1
          have hS8 := j6.2.2.1
          rcases j7 with ⟨r80, kx2, i2', l1, l2, l3⟩ | ⟨r81, l1⟩
          · subst r80
            obtain ⟨_, v2, v3⟩ := j1.resolve_right (fun z => by omega)
            obtain ⟨k1, k2, k3⟩ := j2.2.2.2.2.2.1 op (by omega)
            obtain ⟨c8n, _, hXT8, _⟩ := JS_c j6.1
            obtain ⟨kx2, rfl⟩ : ∃ k', kx2 = k' + 1 := ⟨kx2 - 1, by omega⟩
            have n5c := (j6.2.2.2.2.2.2.2.2 rfl).2.2.2.2.1
            obtain ⟨Ix9, Imd, Ime, G9, y0, y1, y2, y3, y4, y5, y6⟩ := E_end (K := K) (dx := dx) (dy := dy) (e := dy - 1) (sl := sl) (Jm := Jm8) ha hX H hp (SJ_s (by unfold slR; simp) j6) v2 (by rw [k1]; exact w16) (by rw [k2]; exact w17) (by omega) w13 w14 (fun g k hg => (n6' g k hg).trans (n6 g k hg)) (fLe_t n7 n7') np'
            rw [show dy - 1 + 8 = dy + 7 by omega] at y2
            rw [y2] at v3
            have hb3 := b_step (K := K) (dx := dx) (kx := kx2) (i := i2') (mm := 57) hX H hXT8 (by omega) n5c (by omega) (by omega) (Or.inr (Or.inl ⟨v2, rfl⟩)) y1
            exact ⟨c8 + 1, 0, cnt8, vn8, fa8, G9, Ix9, Jx8, wm8, Ime, Jm8, MIf2 hS.1 a9 hS6.1 hS8.1 hMR hk a2 a4 a5 a6 a7 h98 e89 w4 w5 w6 w7 (m_98 hS6.1 w8 v3) y3, FSx_t (by omega) (FSx_t (by omega) fs7 j2) y4, FSm_t (by omega) (FSm_t (by omega) fm7 j3) (FSm_e (by omega) y5), WG_k (by omega) (WG_t wg7 j4), by omega, fun _ => by omega, y6, Or.inl ⟨rfl, kx2, i2' + 1, hb.trans (e1.trans (hb2.trans (l1.trans hb3))), by omega, by omega⟩⟩
          · subst r81
            obtain ⟨_, v2⟩ := j1.resolve_left (fun z => by omega)
            obtain ⟨Imd, y1, y2, y3⟩ := R1_117 (K := K) (e := dy + 7) (Jm := Jm8) (q := jm) w14 j6
            exact ⟨c8, 1, cnt, vn, fa, G, Ix8, Jx8, wm8, Imd, Jm8, MIf2 hS.1 a9 hS6.1 hS8.1 hMR hk a2 a4 a5 a6 a7 h98 e89 w4 w5 w6 w7 (m_98 hS6.1 w8 v2) y1, FSx_t (by omega) fs7 j2, FSm_t (by omega) (FSm_t (by omega) fm7 j3) (FSm_e (by omega) y2), WG_k (by omega) (WG_t wg7 j4), by omega, fun z => by omega, SJ_a (by unfold slR; simp) y3, Or.inr ⟨rfl, hb.trans (e1.trans (hb2.trans l1))⟩⟩
        · have r51' : r5 = 1 := by omega
          subst r51'
          have k3 : kX bs t c5 1 = 3 := by unfold kX; rw [if_neg (by omega)]
          obtain ⟨kx', rfl⟩ : ∃ k', kx' = k' + 2 := ⟨kx' - 2, by omega⟩
          obtain ⟨Ix8, z1, z2, z3, z4⟩ := b_end (K := K) (dx := dx) (kx := kx') (i := i' + 1) (op := op) (Jx := Jx7) hX H hXT7 (by omega) (Or.inl rfl) (by rw [k3]; omega)
          have sj := SJ_z ha w18 (fun _ => trivial) rfl z2 z3 z4
          obtain ⟨Imc, t1, t2, t3⟩ := R1_98 (K := K) (y := dy - 1) (km := 999) (Jm := Jm6) hX sj
          rw [show dy - 1 + 8 = dy + 7 by omega] at t1
          obtain ⟨Imd, y1, y2, y3⟩ := R1_117 (K := K) (e := dy + 7) (Jm := Jm6) (q := jm) w14 t3
          exact ⟨c5, 1, cnt, vn, fa, G, Ix8, Jx7, wm6, Imd, Jm6, MIf2 hS.1 a9 hS6.1 hS6.1 hMR hk a2 a4 a5 a6 a7 h98 e89 w4 w5 w6 w7 (m_98 hS6.1 w8 t1) y1, FSx_t (Nat.le_refl _) fs7 (FSx_z ha z3 z4), FSm_t (by omega) fm7 (FSm_e (by omega) (FMx_t (Nat.le_refl _) t2 y2)), wg7, by omega, fun z => by omega, SJ_a (by unfold slR; simp) y3, Or.inr ⟨rfl, hb.trans (e1.trans (hb2.trans z1))⟩⟩
      · obtain ⟨Ix7, Im7, Im9, G7, w0, w1, w2, w3, w4, w5, w6, w7⟩ := I_end (K := K) (dx := dx) (dy := dy) (e := dy - 1) (Jm := Jm6) ha hX H hp d6 q2 hel (by rw [g1]; exact a20) (by rw [g2]; exact a21) (by omega) a17 a18 n6 n7 np
        rw [show dy - 1 + 8 = dy + 7 by omega] at w2
        rw [w2] at q3
        have e89 := s_89 (K := K) (d := dy + 7) (J := Jm6) hS6.1 w3 (show it 6 = it ((6 : Nat) : Int) from rfl) (by omega)
        rw [if_neg (show ¬ kX bs t (c4 + 1) 0 = cvt 6 from hel)] at e89
        have hb2 := b_step (K := K) (dx := dx) (kx := kx') (i := i') (mm := 57) hX H hXT6 (by omega) n5b (by omega) (by omega) (Or.inr (Or.inl ⟨q2, rfl⟩)) w1
        exact ⟨c4 + 1, 0, cnt4, vn4, fa4, G7, Ix7, Jx6, wm6, Im9, Jm6, MIf1 hS.1 a9 hS6.1 hMR hk a2 a4 a5 a6 a7 (m_98 a9 a8 q3) e89 w4, FSx_t (by omega) (FSx_t (by omega) a10 d2) w5, FSm_t (by omega) (FSm_t sz2 a11 d3) (FSm_e (by omega) w6), WG_k (by omega) (WG_t a12 d4), by omega, fun _ => by omega, w7, Or.inl ⟨rfl, kx', i' + 1, hb.trans (e1.trans hb2), by omega, by omega⟩⟩
    · subst r41
      obtain ⟨_, q2⟩ := d1.resolve_left (fun z => by omega)
      obtain ⟨Im8, v1, v2, v3⟩ := R1_117 (K := K) (e := dy + 7) (Jm := Jm6) (q := brm) a18 d6
      exact ⟨c4, 1, cnt, vn, fa, G, Ix6, Jx6, wm6, Im8, Jm6, MIf1 hS.1 a9 hS6.1 hMR hk a2 a4 a5 a6 a7 (m_98 a9 a8 q2) (e89r d6) v1, FSx_t (by omega) a10 d2, FSm_t (by omega) (FSm_t sz2 a11 d3) (FSm_e (by omega) v2), WG_k (by omega) (WG_t a12 d4), by omega, fun z => by omega, SJ_a (by unfold slR; simp) v3, Or.inr ⟨rfl, hb.trans e1⟩⟩
  · have r31' : r3 = 1 := by omega
    subst r31'
    have k3 : kX bs t c3 1 = 3 := by unfold kX; rw [if_neg (by omega)]
    obtain ⟨kx, rfl⟩ : ∃ k', kx = k' + 2 := ⟨kx - 2, by omega⟩
    obtain ⟨Ix6, z1, z2, z3, z4⟩ := b_end (K := K) (dx := dx) (kx := kx) (i := i + 1) (op := op) (Jx := Jx4) hX H hXT3 (by omega) (Or.inl rfl) (by rw [k3]; omega)
    have sj := SJ_z ha a23 (fun _ => trivial) rfl z2 z3 z4
    obtain ⟨Im6, t1, t2, t3⟩ := R1_98 (K := K) (y := dy - 1) (km := 999) (Jm := Jm2) hX sj
    rw [show dy - 1 + 8 = dy + 7 by omega] at t1
    obtain ⟨Im8, v1, v2, v3⟩ := R1_117 (K := K) (e := dy + 7) (Jm := Jm2) (q := brm) a18 t3
    exact ⟨c3, 1, cnt, vn, fa, G, Ix6, Jx4, wm2, Im8, Jm2, MIf1 hS.1 a9 a9 hMR hk a2 a4 a5 a6 a7 (m_98 a9 a8 t1) (e89r t3) v1, FSx_t (Nat.le_refl _) a10 (FSx_z ha z3 z4), FSm_t sz2 a11 (FSm_e (by omega) (FMx_t (Nat.le_refl _) t2 v2)), a12, by omega, fun z => by omega, SJ_a (by unfold slR; simp) v3, Or.inr ⟨rfl, hb.trans z1⟩⟩
/-- every statement -/
theorem ST_all {dx : Nat} (ha : a = B + 8 ∨ a = B + 22) (hX : TX bs t n) (H : Lay B w) (hp : w.2.1 (B + 2) 1 = some a) (hdx : 181 ≤ dx) : ∀ m, STp K B a bs t n dp w f ln gd dx m := by
  intro m
  induction m using Nat.strongRecOn with
  | ind m ih =>
    have hB := Blk (M := m) ha hX ih
    intro st fa0 G0 Q0 P c sl cnt vn fa G op Ix Jx wm Im Jm kx i y h1 h2 h3 h4 h5 h6 h hk
    obtain ⟨y', rfl⟩ : ∃ y', y = y' + 10 := ⟨y - 10, by omega⟩
    by_cases k1 : kX bs t c 0 = 1
    · obtain ⟨dx', rfl⟩ : ∃ d', dx = d' + 1 := ⟨dx - 1, by omega⟩
      have s := S_74 (K := K) (dx := dx' + 2) (dy := y') (Jm := Jm) ha hX H hp (by omega) (by omega) (by omega) h k1
      exact S_fin (mm := 74) ha hX H h h2 h3 h4 h5 (Or.inl ⟨k1, rfl⟩) s
    · by_cases kT : isT (kX bs t c 0)
      · have s := S_62 (K := K) (dx := dx) (dy := y') (Jm := Jm) ha hX H hp (by omega) (by omega) h kT
        exact S_fin (mm := 62) ha hX H h h2 h3 h4 h5 (by unfold isT at kT; omega) s
      · by_cases kR : kX bs t c 0 = 260 ∨ kX bs t c 0 = 261
        · have s := S_76 (K := K) (dx := dx) (dy := y' + 1) (Jm := Jm) ha hX H hp (by omega) (by omega) h kR
          exact S_fin (mm := 76) ha hX H h h2 h3 h4 h5 (by omega) s
        · by_cases kW : kX bs t c 0 = 259
          · exact S_wh (dy := y' + 1) ha hX H hp (by omega) hB h1 h2 h3 h4 h5 (by omega) h kW
          · by_cases kI : kX bs t c 0 = 257
            · exact S_if (dy := y' + 1) ha hX H hp (by omega) hB h1 h2 h3 h4 h5 (by omega) h kI
            · exact S_no (dy := y' + 1) ha hX H h h2 h3 h4 h5 (by unfold isT at kT; omega)
theorem BS_all {dx : Nat} (ha : a = B + 8 ∨ a = B + 22) (hX : TX bs t n) (H : Lay B w) (hp : w.2.1 (B + 2) 1 = some a) (hdx : 181 ≤ dx) (m : Nat) : BSp K B a bs t n dp w f ln gd dx m := Blk (M := m + 1) ha hX (fun m' _ => ST_all ha hX H hp hdx m') m (by omega)
end BLK

/-! the end of a head, and its block begins, both -/
/-- the row of a fun behind its head -/
def fa2 (fa : Nat → Nat → Nat) (f cnt td : Nat) : Nat → Nat → Nat := fun g k => if g = f ∧ k = 1 then cnt else if g = f ∧ k = 3 then td else fa g k
section HEAD
variable {K : Nat → Value} {B d e a : Nat} {w wm wm' : aW} {Ix Im I I' I'' Ix' Im' : aI} {Jx Jm J J' J'' Jx' Jm' : aJ} {bs : Nat → Nat} {t n c r s sl sl' b op op' m m' : Nat} {pd dp dp0 : Int} {G G1 G' Gs G2 G3 : gG} {Q Qh Qx gd Q0 Q0' : Prop} {f cnt cnt' st st' lp pc pm : Nat} {vn vn' ln : Nat → Nat} {fa fa' fa0 fa0' fs : Nat → Nat → Nat} {G0 G0' : gG} {P P' : Nat → Prop}
theorem fa2_e {td : Nat} : fa2 fa f cnt td f 1 = cnt ∧ fa2 fa f cnt td f 3 = td ∧ ∀ g k, ¬ (g = f ∧ k = 1) → ¬ (g = f ∧ k = 3) → fa2 fa f cnt td g k = fa g k := by
  refine ⟨by unfold fa2; rw [if_pos ⟨rfl, rfl⟩], by unfold fa2; rw [if_neg (by omega), if_pos ⟨rfl, rfl⟩], fun g k h1 h2 => by unfold fa2; rw [if_neg h1, if_neg h2]⟩
theorem x_131 {dx kx cx : Nat} {l1 l2 ty : Int32} {Ix1 Ix3 : aI} (ha : a = B + 8 ∨ a = B + 22) (H : Lay B w) (hp : w.2.1 (B + 2) 1 = some a) (f4 : f ≤ 4) (h41 : Cl K (dx + 4) 41 [.ref (B + 3), .int (it 41)] w Ix Jx = some (none, w, Ix1, Jx)) (h2 : Ix1 (B + 2) 2 = it f) (hc : Ix1 (a + 5) (4 * f + 2) = it cx) (h50 : Cl K (dx + 4) 50 [.ref (B + 3)] w (sm_up2 Ix1 (a + 5) (4 * f + 1) (it cx)) Jx = some (some (.int ty), w, Ix3, Jx)) : f_40_131 K kx (dx + 4) (B + 2) l1 l2 w Ix Jx = some (none, w, sm_up2 Ix3 (a + 5) (4 * f + 3) ty, Jx) := by
  have hP : PL w a := PLx H ha
  obtain ⟨v, v1, v2⟩ := s_52g (K := K) (d := dx + 3) (w := w) (I := Ix1) (J := Jx) (x := it f) (k := 2) hP
  have ev : v = it cx := by rw [v2 f (by omega) (by omega) rfl]; exact hc
  subst ev
  have v1' : Cl K (dx + 4) 52 [.ref a, .int (it f), .int (it 2)] w Ix1 Jx = some (some (.int (it cx)), w, Ix1, Jx) := v1
  have e39 := s_39 (K := K) (d := dx + 3) (w := w) (a := a) (I := Ix1) (J := Jx) (f := f) (k := 1) (x := it cx) hP f4 (by omega)
  have e39' : Cl K (dx + 4) 39 [.ref a, .int (it f), .int (it 1), .int (it cx)] w Ix1 Jx = some (none, w, sm_up2 Ix1 (a + 5) (4 * f + 1) (it cx), Jx) := e39
  have e39b := s_39 (K := K) (d := dx + 3) (w := w) (a := a) (I := Ix3) (J := Jx) (f := f) (k := 3) (x := ty) hP f4 (by omega)
  have e39b' : Cl K (dx + 4) 39 [.ref a, .int (it f), .int (it 3), .int ty] w Ix3 Jx = some (none, w, sm_up2 Ix3 (a + 5) (4 * f + 3) ty, Jx) := e39b
  unfold f_40_131
  simp only [it_lit, gO_e (yt2 H), gV_e (yp2_0 H), gO_e (yt3 H), gV_e hp, gO_e hP.1]
  rw [h41]
  simp only [cV_e, gO_e (yt2 H), gV_e hp, gO_e hP.1]
  rw [h2, v1']
  simp only [cI_e, gO_e hP.1]
  rw [e39']
  simp only [cV_e, gO_e (yt2 H), gV_e hp, gV_e (yp2_0 H), gO_e (yt3 H)]
  rw [h50, up2_n (a := a + 5) (b := B + 2) (by omega), h2]
  simp only [cI_e, gO_e hP.1]
  rw [e39b']
  rfl
theorem m_165e {dy km : Nat} {l1 l2 ty : Int32} {wm2 : aW} {Im1 Im2 Im4 Im5 Im6 : aI} {Jm2 : aJ} (H : Lay B wm) (H2 : Lay B wm2) (f4 : f ≤ 4) (h93 : Cl K (dy + 8) 93 [.ref (B + 46), .int (it 41)] wm Im Jm = some (none, wm, Im1, Jm)) (h30 : Im1 (B + 46) 30 = it f) (h95 : Cl K (dy + 8) 95 [.ref (B + 46)] wm Im1 Jm = some (some (.int ty), wm, Im2, Jm)) (h5 : Im2 (B + 46) 5 = it f) (h98 : Cl K (dy + 8) 98 [.ref (B + 46)] wm (sm_up2 (sm_up2 Im2 (B + 53) f ty) (B + 46) 5 (it ((f + 1 : Nat) : Int))) Jm = some (none, wm2, Im4, Jm2)) (h30b : Im4 (B + 46) 30 = it f) (h111 : Cl K (dy + 8) 111 [.ref (B + 46), .int (it 27), .int (Im4 (B + 53) f)] wm2 Im4 Jm2 = some (none, wm2, Im5, Jm2)) (h111b : Cl K (dy + 8) 111 [.ref (B + 46), .int (it 25), .int (it 0)] wm2 Im5 Jm2 = some (none, wm2, Im6, Jm2)) : f_88_165 K (km + 1) (dy + 8) (B + 46) l1 l2 (it 0) wm Im Jm = some (none, wm2, Im6, Jm2) := by
  rw [f_88_165]
  simp only [it_lit, lt_p, gO_e (yt46 H), gV_e (yp46_10 H)]
  rw [if_pos trivial, h93]
  simp only [cV_e, gO_e (yt46 H), gV_e (yp46_10 H)]
  rw [h95, h30]
  simp only [cI_e]
  rw [gA_e (yt53 H) (Or.inl rfl) (ix (by omega) (by omega) (by omega)), it_n (by omega)]
  simp only [gO_e (yt46 H)]
  rw [up2_n (a := B + 53) (b := B + 46) (by omega), h5, it_add, show (f : Int) + 1 = ((f + 1 : Nat) : Int) by omega, h98]
  simp only [cV_e, gO_e (yt46 H2), gV_e (yp46_10 H2)]
  rw [h30b, gA_e (yt53 H2) (Or.inl rfl) (ix (by omega) (by omega) (by omega)), it_n (by omega), h111]
  simp only [cV_e, gO_e (yt46 H2)]
  rw [h111b]
  rfl
theorem H_en {dx dy i' : Nat} (ha : a = B + 8 ∨ a = B + 22) (hX : TX bs t n) (H : Lay B w) (hp : w.2.1 (B + 2) 1 = some a) (f4 : f ≤ 4) (h8 : 8 ≤ dy) (h : PJ K B a bs t n dp w f ln c r sl cnt vn fa G 0 Q Ix Jx wm Im) (hQ : Q → gd ∧ Qx ∧ G.2.2.2 G.1 = []) (hgd : gd ∨ 0 ≤ dp) (h58 : Im (B + 51) f = it i') (hft : r = 0 → gd → FTn B a f ln fa Ix Im ∧ cnt = i') (h5 : Im (B + 46) 5 = it f) :
    ∃ (c3 r3 td cx : Nat) (Ix4 Ix6 Im1 Im2 Im4 : aI), (∀ kx l1 l2, f_40_131 K kx (dx + 4) (B + 2) l1 l2 w Ix Jx = some (none, w, Ix4, Jx)) ∧ Cl K (dx + 4) 56 [.ref (B + 2), .int (it 0), .int (it 0), .int (it 0)] w Ix4 Jx = some (none, w, Ix6, Jx) ∧ Cl K (dy + 8) 93 [.ref (B + 46), .int (it 41)] wm Im Jm = some (none, wm, Im1, Jm) ∧ Im1 (B + 46) 30 = it f ∧ Cl K (dy + 8) 95 [.ref (B + 46)] wm Im1 Jm = some (some (.int (it td)), wm, Im2, Jm) ∧ Im2 (B + 46) 5 = it f ∧ Cl K (dy + 7) 93 [.ref (B + 46), .int (it 123)] wm (sm_up2 (sm_up2 Im2 (B + 53) f (it td)) (B + 46) 5 (it ((f + 1 : Nat) : Int))) Jm = some (none, wm, Im4, Jm) ∧ c ≤ c3 ∧ ((r3 = 0 → r = 0 ∧ c3 = c + 3) ∧ (r = 1 → c3 = c)) ∧ cx ≤ 6 ∧ (r3 = 0 → cx = cnt) ∧ Ix6 (a + 5) (4 * f + 1) = it cx ∧ Ix6 (B + 2) 11 = it 1 ∧ Ix6 (B + 19) 0 = it 0
      ∧ (∀ b, ¬ b = B + 2 → ¬ b = B + 3 → ¬ b = B + 19 → ¬ b = B + 20 → ¬ b = B + 21 → ¬ b = a + 5 → Ix6 b = Ix b) ∧ (∀ k, ¬ k = 11 → Ix6 (B + 2) k = Ix (B + 2) k) ∧ (∀ k, ¬ k = 4 * f + 1 → ¬ k = 4 * f + 3 → Ix6 (a + 5) k = Ix (a + 5) k) ∧ (∀ b, ¬ b = B + 46 → ¬ b = B + 53 → Im4 b = Im b) ∧ (∀ k, ¬ k = 5 → ¬ k = 22 → ¬ k = 23 → ¬ k = 24 → ¬ k = 25 → ¬ k = 26 → Im4 (B + 46) k = Im (B + 46) k) ∧ Im4 (B + 46) 5 = it ((f + 1 : Nat) : Int) ∧ (∀ k, ¬ k = f → Im4 (B + 53) k = Im (B + 53) k) ∧ Im4 (B + 53) f = it td ∧ Ix6 (a + 5) (4 * f + 3) = it td ∧ td ≤ 3
      ∧ SJ K B a bs t n dp w f ln gd G.1 (fa2 fa f cnt td) G Qx P c3 r3 sl cnt vn (fa2 fa f cnt td) G 1 Ix6 Jx wm Im4 := by
  obtain ⟨hJ, hO, hS, i2, i30, ⟨cx, cx1, cx2⟩, ⟨cm, cm1, cm2⟩, hdp, i11, nn⟩ := h
  have hn := hX.2.1
  have h82 := hS.2.2.2
  obtain ⟨hcn, hr1, hXT, hMR⟩ := JS_c hJ
  obtain ⟨Ix1, x1, x2, x3⟩ := s_41 (K := K) (d := dx + 2) (J := Jx) hX H hXT (k := 41) (show it 41 = it ((41 : Nat) : Int) from rfl) (by omega) (by omega) (by omega)
  obtain ⟨Im1, m1, m2, m3⟩ := s_93 (K := K) (d := dy) (J := Jm) hX hS.1 hS.2.1 hS.2.2.1 hMR (x := 41) (show it 41 = it ((41 : Nat) : Int) from rfl) (by decide)
  have hb1 := nxC_b (bs := bs) (t := t) (c := c) (r := r) (k := 41)
  have hJ1 := JS_k (sl' := sl) ha hJ x3 x2 m2 m3 (by omega) (fun z => (hb1.2.2.1 z).1)
  obtain ⟨c1, hc1⟩ : ∃ c1, nxC bs t c r 41 = c1 := ⟨_, rfl⟩
  obtain ⟨r1, hr1'⟩ : ∃ r1, nxR bs t c r 41 = r1 := ⟨_, rfl⟩
  rw [hc1, hr1'] at hJ1 m3 hb1
  have hJ2 := JS_o (Ix' := sm_up2 Ix1 (a + 5) (4 * f + 1) (it cx)) (Im' := Im1) ha (fun b hb => up2_n (by omega)) (fun _ _ => rfl) hJ1
  obtain ⟨c1n, r11, hXT2, hMR1⟩ := JS_c hJ2
  have hS1 : SM K B wm Im1 := ⟨hS.1, hS.2.1, StO_c (fun b hb => ⟨m2.1 b (by omega), rfl, rfl⟩) hS.2.2.1, hS.2.2.2⟩
  obtain ⟨Ix3, y1, y2, y3⟩ := s_50 (K := K) (d := dx + 2) (J := Jx) hX H hXT2
  obtain ⟨Im2, p1, p2, p3⟩ := s_95 (K := K) (d := dy) (J := Jm) hX hS1.1 hS1.2.1 hS1.2.2.1 hMR1
  obtain ⟨c2, hc2⟩ : ∃ c2, (if isT (kX bs t c1 r1) then c1 + 1 else c1) = c2 := ⟨_, rfl⟩
  obtain ⟨r2, hr2⟩ : ∃ r2, (if isT (kX bs t c1 r1) then r1 else 1) = r2 := ⟨_, rfl⟩
  obtain ⟨td, htd⟩ : ∃ td : Nat, (if isT (kX bs t c1 r1) then kX bs t c1 r1 - 262 else 0) = td := ⟨_, rfl⟩
  rw [hc2, hr2] at y2 p3
  rw [htd] at y1 p1
  have hf2 : c1 ≤ c2 ∧ (r2 = 0 → r1 = 0 ∧ c2 = c1 + 1) ∧ td ≤ 3 := by
    by_cases q : isT (kX bs t c1 r1)
    · rw [if_pos q] at hc2 hr2 htd; unfold isT at q; omega
    · rw [if_neg q] at hc2 hr2 htd; omega
  have hJ3 := JS_k (sl' := sl) ha hJ2 y3 y2 p2 p3 (by omega) (fun z => (hf2.2.1 z).1)
  have hJ4 : JS B a bs t n (-1) dp c2 r2 0 sl G Q (sm_up2 Ix3 (a + 5) (4 * f + 3) (it td)) Jx (sm_up2 (sm_up2 Im2 (B + 53) f (it td)) (B + 46) 5 (it ((f + 1 : Nat) : Int))) := JS_g (fun b hb => up2_n (by omega)) (fun k hk => by rw [up2_n (by omega)]) (by rw [up2_n (by omega)]) (fun b hb => by rw [up2_n (by omega), up2_n (by omega)]) (fun k hk => by rw [up2_r, up1_n (by omega), up2_n (by omega)]) hJ3
  have fm4 : ∀ b, ¬ b = B + 46 → ¬ b = B + 53 → sm_up2 (sm_up2 Im2 (B + 53) f (it td)) (B + 46) 5 (it ((f + 1 : Nat) : Int)) b = Im b := fun b q1 q2 => by rw [up2_n q1, up2_n q2, p2.1 b q1, m2.1 b q1]
  have hS3 : SM K B wm (sm_up2 (sm_up2 Im2 (B + 53) f (it td)) (B + 46) 5 (it ((f + 1 : Nat) : Int))) := ⟨hS.1, hS.2.1, StO_c (fun b hb => ⟨fm4 b (by omega) (by omega), rfl, rfl⟩) hS.2.2.1, hS.2.2.2⟩
  obtain ⟨c2n, r21, hXT4, hMR4⟩ := JS_c hJ4
  obtain ⟨Ix5, z1, z2, z3⟩ := s_41 (K := K) (d := dx + 1) (J := Jx) hX H hXT4 (k := 123) (show it 123 = it ((123 : Nat) : Int) from rfl) (by omega) (by omega) (by omega)
  obtain ⟨Im4, k1, k2, k3⟩ := s_93 (K := K) (d := dy - 1) (J := Jm) hX hS3.1 hS3.2.1 hS3.2.2.1 hMR4 (x := 123) (show it 123 = it ((123 : Nat) : Int) from rfl) (by decide)
  rw [show dy - 1 + 8 = dy + 7 by omega] at k1
  have hb3 := nxC_b (bs := bs) (t := t) (c := c2) (r := r2) (k := 123)
  have hJ5 := JS_k (sl' := sl) ha hJ4 z3 z2 k2 k3 (by omega) (fun z => (hb3.2.2.1 z).1)
  have o5 : ∀ b, ¬ b = B + 3 → ¬ b = a + 5 → Ix5 b = Ix b := fun b q1 q2 => by rw [z3 b q1, up2_n q2, y3 b q1, up2_n q2, x3 b q1]
  have o55 : ∀ k, ¬ k = 4 * f + 1 → ¬ k = 4 * f + 3 → Ix5 (a + 5) k = Ix (a + 5) k := fun k q1 q2 => by rw [z3 (a + 5) (by omega), up2_r, up1_n q2, y3 (a + 5) (by omega), up2_r, up1_n q1, x3 (a + 5) (by omega)]
  have o51 : Ix5 (a + 5) (4 * f + 1) = it cx := by rw [z3 (a + 5) (by omega), up2_r, up1_n (by omega), y3 (a + 5) (by omega), up2_r, up1_s]
  have o53 : Ix5 (a + 5) (4 * f + 3) = it td := by rw [z3 (a + 5) (by omega), up2_r, up1_s]
  have h11' : Ix5 (B + 2) 11 = it ((0 : Nat) : Int) := by
    rw [o5 (B + 2) (by omega) (by omega)]; exact i11
  have e56 := s_56 (K := K) (d := dx + 2) (k := it 0) (br := it 0) (bg := it 0) H z1 h11' (by omega)
  obtain ⟨w1, w2, w3, w4⟩ := oB_e (B := B) (op := 0) (k := it 0) (br := it 0) (bg := it 0) (I := Ix5)
  have o6 : ∀ b, ¬ b = B + 2 → ¬ b = B + 3 → ¬ b = B + 19 → ¬ b = B + 20 → ¬ b = B + 21 → ¬ b = a + 5 → oB B 0 (it 0) (it 0) (it 0) Ix5 b = Ix b := fun b q1 q2 q3 q4 q5 q6 => by rw [oB_o (by omega), o5 b q2 q6]
  have i6 : ∀ k, ¬ k = 11 → oB B 0 (it 0) (it 0) (it 0) Ix5 (B + 2) k = Ix (B + 2) k := fun k q => by rw [oB_2 q, o5 (B + 2) (by omega) (by omega)]
  have o65 : oB B 0 (it 0) (it 0) (it 0) Ix5 (a + 5) = Ix5 (a + 5) := oB_o (by omega)
  have p4 : ∀ b, ¬ b = B + 46 → ¬ b = B + 53 → Im4 b = Im b := fun b q1 q2 => by rw [k2.1 b q1, fm4 b q1 q2]
  have j4 : ∀ k, ¬ k = 5 → ¬ k = 22 → ¬ k = 23 → ¬ k = 24 → ¬ k = 25 → ¬ k = 26 → Im4 (B + 46) k = Im (B + 46) k := fun k q0 q1 q2 q3 q4 q5 => by rw [k2.2 k q1 q2 q3 q4 q5, up2_r, up1_n q0, up2_n (by omega), p2.2 k q1 q2 q3 q4 q5, m2.2 k q1 q2 q3 q4 q5]
  have j45 : Im4 (B + 46) 5 = it ((f + 1 : Nat) : Int) := by rw [k2.2 5 (by omega) (by omega) (by omega) (by omega) (by omega), up2_r, up1_s]
  have e60 : Im4 (B + 53) = sm_up1 (Im (B + 53)) f (it td) := by rw [k2.1 (B + 53) (by omega), up2_n (by omega), up2_r, p2.1 (B + 53) (by omega), m2.1 (B + 53) (by omega)]
  obtain ⟨c3, hc3⟩ : ∃ c3, nxC bs t c2 r2 123 = c3 := ⟨_, rfl⟩
  obtain ⟨r3, hr3⟩ : ∃ r3, nxR bs t c2 r2 123 = r3 := ⟨_, rfl⟩
  rw [hc3, hr3] at hJ5 hb3
  have c3n := (JS_c hJ5).1
  have hr3' : r3 = 0 → r = 0 ∧ c3 = c + 3 := fun z => by
    obtain ⟨u1, u2, _⟩ := hb3.2.2.1 z
    obtain ⟨u3, u4⟩ := hf2.2.1 u1
    obtain ⟨u5, u6, _⟩ := hb1.2.2.1 u3
    exact ⟨u5, by omega⟩
  have hrc : r = 1 → c3 = c := fun z => by
    obtain ⟨u1, u2⟩ := hb1.2.2.2.2 z (by omega)
    have nT : ¬ isT (kX bs t c1 r1) := by unfold kX; rw [if_neg (by omega)]; unfold isT; omega
    rw [if_neg nT] at hc2 hr2
    obtain ⟨u3, u4⟩ := hb3.2.2.2.2 hr2.symm (by omega)
    omega
  have htc : tst bs t c ≤ tst bs t c3 := tst_m hX (by omega) c3n
  have hcc : r3 = 0 → cx = cnt := fun z => by
    obtain ⟨n1, n2, n3, n4⟩ := nn (hr3' z).1
    rw [cx2] at n4
    have := n1.2.1
    exact it_inj (by omega) (by omega) n4
  refine ⟨c3, r3, td, cx, _, _, Im1, Im2, Im4, fun kx l1 l2 => x_131 ha H hp f4 x1 (by rw [x3 (B + 2) (by omega)]; exact i2) (by rw [x3 (a + 5) (by omega)]; exact cx2) y1, e56, m1, by rw [m2.2 30 (by omega) (by omega) (by omega) (by omega) (by omega)]; exact i30, p1, by rw [p2.2 5 (by omega) (by omega) (by omega) (by omega) (by omega), m2.2 5 (by omega) (by omega) (by omega) (by omega) (by omega)]; exact h5, k1, by omega, ⟨hr3', hrc⟩, cx1, hcc, by rw [o65]; exact o51, w1, w2, o6, i6, fun k q1 q2 => by rw [o65]; exact o55 k q1 q2, p4, j4, j45, fun k q => by rw [e60, up1_n q], by rw [e60, up1_s], by rw [o65]; exact o53, hf2.2.2, ?_⟩
  have hJ6 := JS_11 (x := it 0) (Ix' := oB B 0 (it 0) (it 0) (it 0) Ix5) ha (fun b hb => oB_o (by omega)) (fun k hk => oB_2 hk) hJ5
  obtain ⟨g1, g2, g3⟩ := fa2_e (fa := fa) (f := f) (cnt := cnt) (td := td)
  refine ⟨JS_m (fun q => ⟨(hQ q).2.1, (hQ q).1, Wf_0 (hQ q).2.2⟩) (Nat.le_refl _) hJ6, StO_c (fun b hb => ⟨o6 b (by omega) (by omega) (by omega) (by omega) (by omega) (by omega), rfl, rfl⟩) hO, ⟨hS.1, hS.2.1, StO_c (fun b hb => ⟨p4 b (by omega) (by omega), rfl, rfl⟩) hS.2.2.1, hS.2.2.2⟩, by rw [i6 2 (by omega)]; exact i2, by rw [j4 30 (by omega) (by omega) (by omega) (by omega) (by omega) (by omega)]; exact i30, ⟨cx, cx1, by rw [o65, o55 _ (by omega) (by omega)]; exact cx2⟩, ⟨cm, cm1, by rw [p4 (B + 52) (by omega) (by omega)]; exact cm2⟩, hgd.imp id (fun q => ⟨q, by omega⟩), fun z => ?_⟩
  obtain ⟨r0, _⟩ := hr3' z
  have hcx := hcc z
  obtain ⟨n1, n2, n3, n4⟩ := nn r0
  obtain ⟨np1, np2, np3, np4, _⟩ := n1
  refine ⟨⟨np1, np2, fun v hv => ⟨(np3 v hv).1, by rw [g3 f (4 + v) (by omega) (by omega)]; exact (np3 v hv).2⟩, by rw [g3 f 2 (by omega) (by omega)]; exact np4, fun hg => ?_⟩, ⟨by rw [i6 2 (by omega)]; exact i2, fun l hl => by rw [o6 (B + 16) (by omega) (by omega) (by omega) (by omega) (by omega) (by omega)]; exact n2.2.1 l hl, fun v hv => by rw [o6 (a + 6) (by omega) (by omega) (by omega) (by omega) (by omega) (by omega), g3 f (4 + v) (by omega) (by omega)]; exact n2.2.2.1 v hv, fun hg => ?_⟩, ⟨by rw [j4 30 (by omega) (by omega) (by omega) (by omega) (by omega) (by omega)]; exact i30, by rw [p4 (B + 52) (by omega) (by omega)]; exact n3.2.1, fun v hv => by rw [p4 (B + 54) (by omega) (by omega), p4 (B + 55) (by omega) (by omega), g3 f (4 + v) (by omega) (by omega)]; exact n3.2.2.1 v hv, fun hg => ?_⟩, by rw [o65, o55 _ (by omega) (by omega)]; exact n4, w1, fun _ _ _ => rfl, fun _ _ _ => rfl, Nat.le_refl _, fun _ _ => rfl⟩
  · obtain ⟨⟨t1, t2, t3, t4, t5, t6, t7⟩, hci⟩ := hft r0 hg
    refine ⟨fun g hgf => ?_, t3⟩
    by_cases e : g = f
    · subst e
      rw [g1, g2, g3 g 2 (by omega) (by omega)]
      refine ⟨t2, by omega, by omega, hf2.2.2, fun v hv => ?_⟩
      rw [g3 g (4 + v) (by omega) (by omega)]; exact (np3 v hv).2
    · obtain ⟨s1, s2, s3, s4, s5⟩ := t1 g (by omega)
      rw [g3 g 1 (by omega) (by omega), g3 g 2 (by omega) (by omega), g3 g 3 (by omega) (by omega)]
      refine ⟨s1, s2, s3, s4, fun v hv => ?_⟩
      rw [g3 g (4 + v) (by omega) (by omega)]; exact s5 v (by omega)
  · obtain ⟨⟨t1, t2, t3, t4, t5, t6, t7⟩, hci⟩ := hft r0 hg
    refine ⟨fun l hl => by rw [o6 (B + 15) (by omega) (by omega) (by omega) (by omega) (by omega) (by omega)]; exact t4 l hl, fun g hgf => ?_⟩
    by_cases e : g = f
    · subst e
      rw [o65, o51, o53, g1, g2, hcx]
      refine ⟨rfl, rfl, fun v hv => ?_⟩
      rw [o6 (a + 6) (by omega) (by omega) (by omega) (by omega) (by omega) (by omega), g3 g (4 + v) (by omega) (by omega)]; exact n2.2.2.1 v hv
    · have hgf' : g < f := by omega
      have s2 := (t1 g hgf').2.1
      rw [o65, o55 _ (by omega) (by omega), o55 _ (by omega) (by omega), g3 g 1 (by omega) (by omega), g3 g 3 (by omega) (by omega)]
      refine ⟨(t5 g hgf').1 1 (by omega) (by omega), (t5 g hgf').1 3 (by omega) (by omega), fun v hv => ?_⟩
      rw [o6 (a + 6) (by omega) (by omega) (by omega) (by omega) (by omega) (by omega), g3 g (4 + v) (by omega) (by omega)]; exact (t5 g hgf').2 v (by omega)
  · obtain ⟨⟨t1, t2, t3, t4, t5, t6, t7⟩, hci⟩ := hft r0 hg
    intro g hgf
    by_cases e : g = f
    · subst e
      rw [p4 (B + 49) (by omega) (by omega), p4 (B + 51) (by omega) (by omega), p4 (B + 52) (by omega) (by omega), e60, up1_s, g1, g2, g3 g 2 (by omega) (by omega), p4 (B + 55) (by omega) (by omega)]
      refine ⟨t7, by rw [h58, hci], by rw [n3.2.1, np4], rfl, fun v hv => ?_⟩
      rw [g3 g (4 + v) (by omega) (by omega)]; exact (n3.2.2.1 v hv).2
    · have hgf' : g < f := by omega
      obtain ⟨u1, u3, u4, u5, u6⟩ := t6 g hgf'
      have s2 := (t1 g hgf').2.1
      rw [p4 (B + 49) (by omega) (by omega), p4 (B + 51) (by omega) (by omega), p4 (B + 52) (by omega) (by omega), e60, up1_n e, g3 g 1 (by omega) (by omega), g3 g 2 (by omega) (by omega), g3 g 3 (by omega) (by omega), p4 (B + 55) (by omega) (by omega)]
      refine ⟨u1, u3, u4, u5, fun v hv => ?_⟩
      rw [g3 g (4 + v) (by omega) (by omega)]; exact u6 v (by omega)
end HEAD

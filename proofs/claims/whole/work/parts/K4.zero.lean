/-! no fun at all: the reference refuses at once, the class reads on, refused -/
section ZERO
variable {K : Nat → Value} {B d e a : Nat} {w wm wm' : aW} {Ix Im I I' I'' Ix' Im' : aI} {Jx Jm J J' J'' Jx' Jm' : aJ} {bs : Nat → Nat} {t n c r s sl sl' b op op' m m' : Nat} {pd dp dp0 : Int} {G G1 G' Gs G2 G3 : gG} {Q Q' Qh Qx gd Y Q0 Q0' : Prop} {f cnt cnt' st st' lp pc pm : Nat} {vn vn' ln : Nat → Nat} {fa fa' fa0 fa0' fs : Nat → Nat → Nat} {G0 G0' : gG} {P P' : Nat → Prop}
theorem m_88r {dy : Nat} (hX : TX bs t n) (hS : SM K B wm Im) (hT : MR B bs t n c 0 Im) (hq : ¬ kX bs t c 0 = 256 ∨ Im (B + 46) 5 = it 5) : ∃ Im', Cl K (dy + 9) 88 [.ref (B + 46)] wm Im Jm = some (none, wm, Im', Jm) ∧ FM6 B Im Im' ∧ MR B bs t n c 1 Im' := by
  have H := hS.1
  have e4 := s_89 (K := K) (d := dy + 7) (J := Jm) H hT (show it 4 = it ((4 : Nat) : Int) from rfl) (by omega)
  obtain ⟨Im1, m1, m2, m3⟩ := s_90 (K := K) (d := dy + 1) (J := Jm) (b := it 0) hX hS.1 hS.2.1 hS.2.2.1 hT False (by rw [if_neg (fun z => z)]) (fun z => z.elim)
  rw [if_neg (fun z => z), if_neg (fun z => z)] at m3
  refine ⟨Im1, ?_, m2, m3⟩
  have tail : f_88_21 K 0 (dy + 8) (B + 46) (B + 46) wm Im Jm = some (none, wm, Im1, Jm) := by
    unfold f_88_21 f_88_22
    simp only [it_lit, gO_e (yt46 H), lt_p]
    rw [m1]
    simp only [cV_e, gO_e (yt46 H)]
    rw [m3.2.1, if_neg (by decide)]
  apply cl_88 (k := 0)
  unfold f_88
  simp only [it_lit, gO_e (yt46 H)]
  rw [e4]
  simp only [cI_e, gO_e (yt46 H)]
  by_cases k : kX bs t c 0 = 256
  · rw [if_pos (show kX bs t c 0 = cvt 4 from k), if_neg (by decide), hq.resolve_left (fun z => z k), if_pos (by decide)]
    exact tail
  · rw [if_neg (show ¬ kX bs t c 0 = cvt 4 from k), if_pos rfl]
    exact tail
theorem JS_mx2 {s' : Nat} {G' : gG} {Im2 : aI} {Jx2 : aJ} {Ix2 : aI} {dp' : Int} (h1 : JS B a bs t n pd dp c 1 s sl G Q Ix Jx Im) (h2 : JS B a bs t n pd dp' c 1 s' sl G' Q' Ix2 Jx2 Im2) : JS B a bs t n pd dp0 c 1 s' sl G0 Qx Ix Jx Im2 := by
  obtain ⟨h, Nx, Nm, nfx, nfm, tfx, tfm, x, m, b1, b2, f⟩ := h1
  obtain ⟨h', Nx', Nm', nfx', nfm', tfx', tfm', x', m', b1', b2', f'⟩ := h2
  exact ⟨h, Nx, Nm', nfx, nfm', tfx, tfm', x, m', b1, b2', fun z => by omega⟩
theorem Z_fun {dx dy : Nat} (ha : a = B + 8 ∨ a = B + 22) (hX : TX bs t n) (H : Lay B w) (hp : w.2.1 (B + 2) 1 = some a) (hdx : 181 ≤ dx) (hdy : 1000 ≤ dy) (h : FJ K B a bs t n w 0 c 0 (sl + 4) dp gd Y ln fa G lp pc pm Ix Jx wm Im) (h15 : Ix (B + 15) 0 = it (-1)) (hk : ¬ kX bs t c 0 = 256) :
    ∃ (lp' pc' : Nat) (Ix1 Ix2 Ix3 : aI) (Jx3 : aJ) (Ix' : aI) (Jx' : aJ) (Im' : aI), Cl K (dx + 6) 38 [.ref (B + 2), .int (it (0 : Nat))] w Ix Jx = some (none, w, Ix1, Jx) ∧ Cl K (dx + 6) 40 [.ref (B + 2)] w Ix1 Jx = some (none, w, Ix2, Jx) ∧ Cl K (dx + 6) 55 [.ref (B + 2)] w Ix2 Jx = some (none, w, Ix3, Jx3) ∧ Cl K (dx + 6) 77 [.ref (B + 2)] w Ix3 Jx3 = some (none, w, Ix', Jx') ∧ Cl K (dy + 9) 88 [.ref (B + 46)] wm Im Jm = some (none, wm, Im', Jm)
      ∧ FFx B a 0 Ix Jx Ix' Jx' ∧ FFm B 0 wm.2.2.1 Im Jm Im' Jm ∧ FJ K B a bs t n w 1 c 1 sl dp gd False ln fa G lp' pc' 0 Ix' Jx' wm Im' := by
  obtain ⟨hJ, hO, hS, hdp, hg, i7, hz, _, hr0⟩ := h
  have h5 := (hr0 rfl).1
  have h82 := hS.2.2.2
  have hn := hX.2.1
  obtain ⟨N, Nm, N1, N2, N3, N4, hJN⟩ := JS_N hJ
  have hJ1 := JS_bF (f := 0) (N := N) ha hJN (fun q => q.1.2.1.1)
  obtain ⟨e1, e2, e3, e4, e5, e6, e7, e8⟩ := bF_e (B := B) (a := a) (f := 0) (N := N) (I := Ix) ha
  have e38 := s_38 (K := K) (d := dx + 4) (J := Jx) (f := 0) ha H hp (by omega) N1
  obtain ⟨hcn, _, hXT1, hMR0⟩ := JS_c hJ1
  obtain ⟨Imr, r1, r2, r3⟩ := m_88r (K := K) (dy := dy) (Jm := Jm) hX hS hMR0 (Or.inl hk)
  have x1 := s_41x (K := K) (d := dx + 3) (J := Jx) (k := 256) hX H hXT1 hk (by omega)
  have xT2 : XT B bs t n c 1 (sm_up2 (bF B a 0 N Ix) (B + 3) 6 (it 1)) := XT_u (Or.inr rfl) (by rw [up2_r, up1_n (by omega)]; exact hXT1.2.1) (by rw [up2_r, up1_s]; rfl) hcn (by omega) hXT1
  have hJ2 := JS_k (sl' := sl + 4) ha hJ1 (fun b hb => up2_n hb) xT2 r2 r3 (by omega) (fun z => by omega)
  have htc : tst bs t c ≤ 240 := by have := tst_t bs t c; have := hX.1; omega
  have h44 := s_44 (K := K) (d := dx + 4) (J := Jx) H xT2 hn
  obtain ⟨q, hq⟩ : ∃ q, tst bs t c = q := ⟨_, rfl⟩
  rw [hq] at h44
  have hJ3 := JS_g (Ix' := sm_up2 (sm_up2 (bF B a 0 N Ix) (B + 3) 6 (it 1)) (B + 2) 3 (it q)) (Im' := Imr) (fun b hb => up2_n (by omega)) (fun k hk => by rw [up2_r, up1_n (by omega)]) (by rw [up2_n (by omega)]) (fun b hb => rfl) (fun k hk => rfl) hJ2
  obtain ⟨_, _, hXT3, _⟩ := JS_c hJ3
  obtain ⟨Ix4, x4, x5, x6⟩ := s_45 (K := K) (d := dx + 3) (J := Jx) hX H hXT3
  have k1 : ∀ k, ¬ k = 3 → ¬ kX bs t c 1 = k := fun k q => by unfold kX; rw [if_neg (by omega)]; omega
  rw [if_neg (k1 1 (by omega))] at x4
  unfold nxC nxR at x5
  rw [if_neg (k1 1 (by omega)), if_neg (k1 1 (by omega))] at x5
  have hJ4 := JS_k (sl' := sl + 4) ha hJ3 x6 x5 FM6_r r3 (by omega) (fun z => by omega)
  have o4 : ∀ b, ¬ b = B + 2 → ¬ b = B + 3 → Ix4 b = bF B a 0 N Ix b := fun b q1 q2 => by rw [x6 b q2, up2_n q1, up2_n q2]
  have i4 : ∀ k, ¬ k = 3 → Ix4 (B + 2) k = bF B a 0 N Ix (B + 2) k := fun k q1 => by rw [x6 (B + 2) (by omega), up2_r, up1_n q1, up2_n (by omega)]
  have i43 : Ix4 (B + 2) 3 = it q := by rw [x6 (B + 2) (by omega), up2_r, up1_s]
  have l15 : Ix4 (B + 15) 0 < it 0 := by rw [o4 (B + 15) (by omega) (by omega), bF_o (by omega), h15]; decide
  have hJ5 := JS_o (Ix' := sm_up2 Ix4 (B + 15) 0 (Ix4 (B + 2) 2)) (Im' := Imr) ha (fun b hb => up2_n (by omega)) (fun _ _ => rfl) hJ4
  obtain ⟨_, _, hXT5, _⟩ := JS_c hJ5
  have x7 := s_41x (K := K) (d := dx + 3) (J := Jx) (k := 40) hX H hXT5 (k1 40 (by omega)) (by omega)
  obtain ⟨Ix6, hI6⟩ : ∃ Ix6, sm_up2 (sm_up2 Ix4 (B + 15) 0 (Ix4 (B + 2) 2)) (B + 3) 6 (it 1) = Ix6 := ⟨_, rfl⟩
  have xT6 : XT B bs t n c 1 Ix6 := by rw [← hI6]; exact XT_u (Or.inr rfl) (by rw [up2_r, up1_n (by omega)]; exact hXT5.2.1) (by rw [up2_r, up1_s]; rfl) hcn (by omega) hXT5
  rw [hI6] at x7
  have hJ6 := JS_k (sl' := sl + 4) (Ix' := Ix6) ha hJ5 (fun b hb => by rw [← hI6]; exact up2_n hb) xT6 FM6_r r3 (by omega) (fun z => by omega)
  have e49 := s_49z (K := K) (d := dx + 3) (J := Jx) hX H xT6
  rw [if_pos (Or.inr (by unfold kX; rw [if_neg (by omega)]))] at e49
  have q79 := x_79e (K := K) (dx := dx + 1) (kx := 0) (i := 0) (l1 := it ((0 : Nat) : Int)) H (by omega) e49
  have o6 : ∀ b, ¬ b = B + 2 → ¬ b = B + 3 → ¬ b = B + 15 → Ix6 b = bF B a 0 N Ix b := fun b q1 q2 q3 => by rw [← hI6, up2_n q2, up2_n q3, o4 b q1 q2]
  have i6 : ∀ k, ¬ k = 3 → Ix6 (B + 2) k = bF B a 0 N Ix (B + 2) k := fun k q1 => by rw [← hI6, up2_n (by omega), up2_n (by omega), i4 k q1]
  have i63 : Ix6 (B + 2) 3 = it q := by rw [← hI6, up2_n (by omega), up2_n (by omega), i43]
  -- a reference of the mind goes on with it
  obtain ⟨ImF, hF⟩ : ∃ ImF, sm_up2 (sm_up2 (sm_up2 Imr (B + 46) 30 (it 0)) (B + 52) 0 (it 0)) (B + 51) 0 (it 0) = ImF := ⟨_, rfl⟩
  have hJF : JS B a bs t n (-1) dp c 1 0 (sl + 4) G False Ix6 Jx ImF := by
    refine JS_Q rfl (JS_g (Ix := Ix6) (Im := Imr) (fun b hb => rfl) (fun k hk => rfl) rfl (fun b hb => ?_) (fun k hk => ?_) hJ6)
    · rw [← hF, up2_n (by omega), up2_n (by omega), up2_n (by omega)]
    · rw [← hF, up2_n (by omega), up2_n (by omega), up2_r, up1_n (by omega)]
  have fF : ∀ b, ¬ b = B + 46 → ¬ b = B + 51 → ¬ b = B + 52 → ImF b = Imr b := fun b q1 q2 q3 => by rw [← hF, up2_n q2, up2_n q3, up2_n q1]
  have hSr : SM K B wm Imr := ⟨hS.1, hS.2.1, StO_c (fun b hb => ⟨r2.1 b (by omega), rfl, rfl⟩) hS.2.2.1, hS.2.2.2⟩
  have hSF : SM K B wm ImF := ⟨hS.1, hS.2.1, StO_c (fun b hb => ⟨fF b (by omega) (by omega) (by omega), rfl, rfl⟩) hSr.2.2.1, hS.2.2.2⟩
  have F30 : ImF (B + 46) 30 = it ((0 : Nat) : Int) := by rw [← hF, up2_n (by omega), up2_n (by omega), up2_r, up1_s]; rfl
  have F59 : ImF (B + 52) 0 = it ((0 : Nat) : Int) := by rw [← hF, up2_n (by omega), up2_r, up1_s]; rfl
  have F58 : ImF (B + 51) 0 = it ((0 : Nat) : Int) := by rw [← hF, up2_r, up1_s]; rfl
  have F5 : ImF (B + 46) 5 = it ((0 : Nat) : Int) := by rw [← hF, up2_n (by omega), up2_n (by omega), up2_r, up1_n (by omega), r2.2 5 (by omega) (by omega) (by omega) (by omega) (by omega)]; exact h5
  have z52 : Ix6 (a + 5) (4 * 0 + 2) = it ((0 : Nat) : Int) := by rw [o6 (a + 5) (by omega) (by omega) (by omega), e7 _ (by omega)]; exact hz _ (by omega) (by omega)
  have hO6 : StO K B w Ix6 := StO_c (fun b hb => ⟨by rw [o6 b (by omega) (by omega) (by omega), bF_o (by omega)], rfl, rfl⟩) hO
  have hPJ : PJ K B a bs t n dp w 0 ln c 1 (sl + 4) 0 (fun _ => 0) fa G 0 False Ix6 Jx wm ImF := ⟨hJF, hO6, hSF, by rw [i6 2 (by omega)]; exact e1, F30, ⟨0, by omega, z52⟩, ⟨0, by omega, F59⟩, hdp, by rw [i6 11 (by omega)]; exact e3, fun z => by omega⟩
  obtain ⟨c4, r4, td, cx, Ix8, Ix9, Im1, Im2, Im4, y1, y2, y3, y4, y5, y6, y7, y8, ⟨y9, y9c⟩, y10, y11, y12, y13, y14, y15, y16, y17, y18, y19, y20, y21, y22, y23, y24, hSJ⟩ := H_en (K := K) (dx := dx + 1) (dy := dy) (Jm := Jm) (i' := 0) (gd := True) (Qx := True) (P := fun _ => False) ha hX H hp (by omega) (by omega) hPJ (fun q => q.elim) (Or.inl trivial) F58 (fun z => by omega) F5
  have r41 : r4 = 1 := by
    have := (JS_c hSJ.1).2.1
    by_cases z : r4 = 0
    · have := (y9 z).1; omega
    · omega
  have c4c := y9c rfl
  subst c4c r41
  obtain ⟨c5, r5, cnt5, vn5, fa5, G5, Ix10, Jx10, wm', Im10, Jm', b1, b2, b3, b4, b5, b6, ⟨b7, b7c⟩, hSJ2⟩ := B_fun (K := K) (dx := dx) (dy := dy) (sl := sl + 2) (Jm := Jm) ha hX H hp hdx hdy hSJ (fun z => by omega) y14
  have c5c := b7c rfl
  have r51 : r5 = 1 := by
    have := (JS_c hSJ2.1).2.1
    by_cases z : r5 = 0
    · have := (b7 z).1; omega
    · omega
  subst c5c r51
  obtain ⟨Ix11, Jx11, Im11, Im12, d1, d2, d3, d4, d5, d6⟩ := E_fun (K := K) (dx := dx + 1) (dy := dy) (Jm := Jm') ha hX H hp (by omega) hSJ2
  have e40' := x_40h (K := K) (dx := dx + 1) (lx := 0) (lp := q) hX H x1 h44 x4 (by omega) i43 (Or.inl ⟨l15, rfl⟩) x7 (q79.trans (y1 0 (it ((0 : Nat) : Int)) (it ((0 : Nat) : Int))))
  have e55 := x_55 (K := K) (dx := dx + 5) H y2 b1
  have k5 : ∀ k, ¬ k = 4 * 0 + 1 → ¬ k = 4 * 0 + 2 → ¬ k = 4 * 0 + 3 → Ix11 (a + 5) k = Ix6 (a + 5) k := fun k q1 q2 q3 => by rw [d4.1 (a + 5) (by omega) (by omega) (by omega) (by omega) (by omega) (by omega), b3.2.2.2.1 k q2, y17 k q1 q3]
  have kx : ∀ b, oX B a b → ¬ b = B + 15 → Ix11 b = Ix b := fun b q1 q2 => by
    have q1' := q1
    unfold oX at q1'
    rw [d4.1 b (by omega) (by omega) (by omega) (by omega) (by omega) (by omega), b3.1 b q1, y15 b (by omega) (by omega) (by omega) (by omega) (by omega) (by omega), o6 b (by omega) (by omega) q2, bF_o (by omega)]
  have k2 : ∀ k, ¬ k = 6 ∧ ¬ k = 7 ∧ ¬ k = 8 ∧ ¬ k = 11 → Ix11 (B + 2) k = Ix6 (B + 2) k := fun k q => by rw [d4.2.1 k (by omega) (by omega) (by omega), b3.2.1 k q, y16 k (by omega)]
  refine ⟨q, cx, _, Ix8, Ix10, Jx10, Ix11, Jx11, Imr, e38, e40', e55, d1, r1, ⟨kx, fun k hk => by omega, fun b q1 q2 => by rw [d4.2.2.2 b q1 q2, b3.2.2.2.2.2.2 b q1 q2]⟩, ⟨fun b q0 q1 => r2.1 b q1.1, fun k q1 q2 q3 => r2.2 k (by omega) (by omega) (by omega) (by omega) (by omega), fun k hk => by rw [r2.1 (B + 50) (by omega)], fun _ _ => rfl⟩, JS_mx2 d6 (JS_m (sl' := sl) (fun q => q) (by omega) hJ6), StO_F ha d4 hSJ2.2.1, hSr, hdp, hg, ?_, fun k q1 q2 => ?_, fun _ => ⟨?_, ?_, by omega, ?_, y10⟩, fun z => by omega⟩
  · rw [d4.2.2.1 7 (by omega), b3.2.2.1 7 (by omega), y15 a (by omega) (by omega) (by omega) (by omega) (by omega) (by omega), o6 a (by omega) (by omega) (by omega)]; exact e4
  · rw [k5 k (by omega) (by omega) (by omega), o6 (a + 5) (by omega) (by omega) (by omega), e7 k (by omega)]; exact hz k (by omega) q2
  · rw [k2 2 (by omega), i6 2 (by omega)]; exact e1
  · rw [k2 3 (by omega)]; exact i63
  · rw [d4.1 (a + 5) (by omega) (by omega) (by omega) (by omega) (by omega) (by omega), b3.2.2.2.1 _ (by omega)]; exact y12
end ZERO

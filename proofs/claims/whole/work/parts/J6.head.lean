/-! the head of a fun up to its parameters, both: all of it -/
section HEAD
variable {K : Nat → Value} {B d e a : Nat} {w wm wm' : aW} {Ix Im I I' I'' Ix' Im' : aI} {Jx Jm J J' J'' Jx' Jm' : aJ} {bs : Nat → Nat} {t n c r s sl sl' b op op' m m' : Nat} {pd dp dp0 : Int} {G G1 G' Gs G2 G3 : gG} {Q Qh gd Y Q0 Q0' : Prop} {f cnt cnt' st st' lp pc pm : Nat} {vn vn' ln : Nat → Nat} {fa fa' fa0 fa0' fs : Nat → Nat → Nat} {G0 G0' : gG} {P P' : Nat → Prop}
theorem H_op {dx dy : Nat} (ha : a = B + 8 ∨ a = B + 22) (hX : TX bs t n) (H : Lay B w) (hp : w.2.1 (B + 2) 1 = some a) (f4 : f ≤ 4) (h : FJ K B a bs t n w f c 0 sl dp gd Y ln fa G lp pc pm Ix Jx wm Im) (hk : kX bs t c 0 = 256) :
    ∃ (c3 r3 lx lm N Nm : Nat) (gd' : Prop) (dp' : Int) (nwv : Int32) (Ix1 Ix6 Im7 : aI), Cl K (dx + 5) 38 [.ref (B + 2), .int (it f)] w Ix Jx = some (none, w, Ix1, Jx) ∧ (∀ kk R, f_40_79 K kk (dx + 4) (B + 2) (it lx) (it 0) w Ix6 Jx = some R → Cl K (dx + 5) 40 [.ref (B + 2)] w Ix1 Jx = some R) ∧ (∀ km x R, Cl K (dy + 8) 94 [.ref (B + 46), .int (it 41)] wm Im7 Jm = some (some (.int x), wm, Im7, Jm) → f_88_165 K km (dy + 8) (B + 46) (it lm) nwv (if x = it 0 then it 1 else it 0) wm Im7 Jm = some R → Cl K (dy + 9) 88 [.ref (B + 46)] wm Im Jm = some R)
      ∧ (∀ k, k < 4 * f → Ix6 (a + 5) k = Ix (a + 5) k) ∧ (∀ k, ¬ k = f → Im7 (B + 50) k = Im (B + 50) k) ∧ Im7 (B + 52) f = it 0 ∧ c + 1 ≤ c3 ∧ (r3 = 0 → c3 = c + 3) ∧ Im7 (B + 51) f = it 0 ∧ Ix6 (B + 2) 3 = it (tst bs t (c + 1) : Nat) ∧ Im7 (B + 46) 31 = it (tst bs t (c + 1) : Nat) ∧ Im7 (B + 46) 5 = it f ∧ Ix6 a 7 = it ((f + 1 : Nat) : Int) ∧ Ix6 (a + 5) (4 * f) = it N ∧ Im7 (B + 50) f = it Nm ∧ (∀ k, 4 * f < k → k < 20 → Ix6 (a + 5) k = it 0) ∧ (∀ b, oX B a b → ¬ b = B + 15 → Ix6 b = Ix b) ∧ (∀ b, b < wm.2.2.1 → ¬ b = B + 46 → ¬ b = B + 49 → ¬ b = B + 50 → ¬ b = B + 51 → ¬ b = B + 52 → ¬ b = B + 56 → ¬ b = B + 57 → Im7 b = Im b) ∧ (∀ k, ¬ k = 6 ∧ ¬ k = 7 → Ix6 a k = Ix a k) ∧ (∀ k, ¬ k = 13 ∧ ¬ k = 22 ∧ ¬ k = 23 ∧ ¬ k = 24 ∧ ¬ k = 25 ∧ ¬ k = 26 ∧ ¬ k = 27 ∧ ¬ k = 28 ∧ ¬ k = 29 ∧ ¬ k = 30 ∧ ¬ k = 31 → Im7 (B + 46) k = Im (B + 46) k)
      ∧ (gd' ∨ 0 ≤ dp') ∧ (r3 = 0 → gd' → gd ∧ dp' = dp ∧ FTn B a f (sm_up1 ln f lx) fa Ix6 Im7) ∧ PJ K B a bs t n dp' w f (sm_up1 ln f lx) c3 r3 sl 0 vn (fa1 fa f G.1) G 0 (gd' ∧ (TF fa f G ∧ Y) ∧ N = G.1 ∧ Nm = G.1) Ix6 Jx wm Im7 := by
  obtain ⟨hJ, hO, hS, hdp, hg, i7, hz, hl1, hr0⟩ := h
  obtain ⟨h5, hl2, hFT⟩ := hr0 rfl
  have hn := hX.2.1
  have h82 := hS.2.2.2
  obtain ⟨N, Nm, N1, N2, N3, N4, hJN⟩ := JS_N hJ
  have hJ1 := JS_bF (f := f) (N := N) ha hJN (fun q => q.1.2.1.1)
  have hJ1' : JS B a bs t n (-1) dp c 0 0 sl G (gd ∧ (TF fa f G ∧ Y) ∧ N = G.1 ∧ Nm = G.1) (bF B a f N Ix) Jx Im := JS_m (fun q => ⟨q.1.1, q.1.2, q.2⟩) (Nat.le_refl _) hJ1
  obtain ⟨e1, e2, e3, e4, e5, e6, e7, e8⟩ := bF_e (B := B) (a := a) (f := f) (N := N) (I := Ix) ha
  have e38 := s_38 (K := K) (d := dx + 3) (J := Jx) ha H hp f4 N1
  obtain ⟨hcn, _, hXT1, hMR0⟩ := JS_c hJ1'
  obtain ⟨_, hc, _⟩ := kX_n hX hcn hk (by omega) (by omega)
  obtain ⟨Ix2, x1, x2, x3⟩ := s_41 (K := K) (d := dx + 2) (J := Jx) hX H hXT1 (k := 256) (show it 256 = it ((256 : Nat) : Int) from rfl) (by omega) (by omega) (by omega)
  unfold nxC nxR at x2
  rw [if_pos hk, if_pos hk] at x2
  obtain ⟨Im1, m1, m2, m3⟩ := s_90 (K := K) (d := dy + 1) (J := Jm) (b := it 1) hX hS.1 hS.2.1 hS.2.2.1 hMR0 (kX bs t c 0 = 256) (by rw [if_pos hk]) (fun _ => ⟨rfl, hc⟩)
  rw [if_pos hk, if_pos hk] at m3
  have hJ2 := JS_k (sl' := sl) ha hJ1' x3 x2 m2 m3 (by omega) (fun z => z)
  have htc1 : tst bs t (c + 1) ≤ 240 := by have := tst_t bs t (c + 1); have := hX.1; omega
  obtain ⟨q, hq⟩ : ∃ q, tst bs t (c + 1) = q := ⟨_, rfl⟩
  have h44 := s_44 (K := K) (d := dx + 3) (J := Jx) H x2 hn
  rw [hq] at h44
  have hJ3 : JS B a bs t n (-1) dp (c + 1) 0 0 sl G (gd ∧ (TF fa f G ∧ Y) ∧ N = G.1 ∧ Nm = G.1) (sm_up2 Ix2 (B + 2) 3 (it q)) Jx (sm_up2 (sm_up2 Im1 (B + 46) 30 (it f)) (B + 46) 31 (it q)) := JS_g (fun b hb => up2_n (by omega)) (fun k hk => by rw [up2_r, up1_n (by omega)]) (by rw [up2_n (by omega)]) (fun b hb => by rw [up2_n (by omega), up2_n (by omega)]) (fun k hk => by rw [up2_r, up1_n (by omega), up2_r, up1_n (by omega)]) hJ2
  have fm3 : ∀ b, ¬ b = B + 46 → sm_up2 (sm_up2 Im1 (B + 46) 30 (it f)) (B + 46) 31 (it q) b = Im b := fun b hb => by rw [up2_n hb, up2_n hb, m2.1 b hb]
  have hS3 : SM K B wm (sm_up2 (sm_up2 Im1 (B + 46) 30 (it f)) (B + 46) 31 (it q)) := ⟨hS.1, hS.2.1, StO_c (fun b hb => ⟨fm3 b (by omega), rfl, rfl⟩) hS.2.2.1, hS.2.2.2⟩
  obtain ⟨c1n, _, hXT3, hMR3⟩ := JS_c hJ3
  obtain ⟨Ix4, x4, x5, x6⟩ := s_45 (K := K) (d := dx + 2) (J := Jx) hX H hXT3
  obtain ⟨Im4, m4, m5, m6⟩ := s_91 (K := K) (d := dy) (J := Jm) hX hS3.1 hS3.2.1 hS3.2.2.1 hMR3
  have hnx := nxC_b (bs := bs) (t := t) (c := c + 1) (r := 0) (k := 1)
  have hJ4 := JS_k (sl' := sl) ha hJ3 x6 x5 m5 m6 (by omega) (fun z => (hnx.2.2.1 z).1)
  obtain ⟨lx, hlx⟩ : ∃ lx : Nat, (if kX bs t (c + 1) 0 = 1 then tvl bs t (c + 1) else 0) = lx := ⟨_, rfl⟩
  obtain ⟨lm, hlm⟩ : ∃ lm : Nat, (if kX bs t (c + 1) 0 = 1 then tvl bs t (c + 1) + 97 else 0) = lm := ⟨_, rfl⟩
  rw [hlx] at x4
  rw [hlm] at m4
  have hl26 : lx < 26 ∧ (nxR bs t (c + 1) 0 1 = 0 → lm = lx + 97) := by
    by_cases k1 : kX bs t (c + 1) 0 = 1
    · obtain ⟨l1, l2, l3, l4⟩ := nam_l (bs := bs) (t := t) (c := c + 1) (by unfold kX at k1; rw [if_pos rfl] at k1; exact k1)
      rw [if_pos k1] at hlx hlm
      exact ⟨by omega, fun _ => by omega⟩
    · rw [if_neg k1] at hlx
      exact ⟨by omega, fun z => absurd (hnx.2.2.1 z).2.2 k1⟩
  have i4 : ∀ k, ¬ k = 3 → Ix4 (B + 2) k = bF B a f N Ix (B + 2) k := fun k hk => by rw [x6 (B + 2) (by omega), up2_r, up1_n hk, x3 (B + 2) (by omega)]
  have i43 : Ix4 (B + 2) 3 = it q := by rw [x6 (B + 2) (by omega), up2_r, up1_s]
  have o4 : ∀ b, ¬ b = B + 2 → ¬ b = B + 3 → Ix4 b = bF B a f N Ix b := fun b h2 h3 => by rw [x6 b h3, up2_n h2, x3 b h3]
  have j4 : ∀ k, ¬ k = 22 ∧ ¬ k = 23 ∧ ¬ k = 24 ∧ ¬ k = 25 ∧ ¬ k = 26 ∧ ¬ k = 30 ∧ ¬ k = 31 → Im4 (B + 46) k = Im (B + 46) k := fun k hk => by rw [m5.2 k (by omega) (by omega) (by omega) (by omega) (by omega), up2_r, up1_n (by omega), up2_r, up1_n (by omega), m2.2 k (by omega) (by omega) (by omega) (by omega) (by omega)]
  have j430 : Im4 (B + 46) 30 = it f := by rw [m5.2 30 (by omega) (by omega) (by omega) (by omega) (by omega), up2_r, up1_n (by omega), up2_r, up1_s]
  have j431 : Im4 (B + 46) 31 = it q := by rw [m5.2 31 (by omega) (by omega) (by omega) (by omega) (by omega), up2_r, up1_s]
  have p4 : ∀ b, ¬ b = B + 46 → Im4 b = Im b := fun b hb => by rw [m5.1 b hb, fm3 b hb]
  have hS4 : SM K B wm Im4 := ⟨hS.1, hS.2.1, StO_c (fun b hb => ⟨p4 b (by omega), rfl, rfl⟩) hS.2.2.1, hS.2.2.2⟩
  obtain ⟨nw, g1, g2⟩ := m_58 (K := K) (dy := dy) (Jm := Jm) (lt := it ((lm : Nat) : Int)) hS4.1 f4 j430 f 0 (f + 1) true (by omega) (by omega)
  have hvb := vix_b ln lx f
  obtain ⟨Ix5, Im5, gd', dp', n1, n2, n3, n4, n5, n6, n7, n8, n9⟩ := N_fun (K := K) (dx := dx) (dy := dy) (lx := lx) (lm := lm) (lp := q) (Jm := Jm) ha H hS4 hJ4 hl26.1 (by omega) (by have := tst_m hX (show c ≤ c + 1 by omega) hc; omega) hg (nw = true) (by
    intro r20 hgd
    obtain ⟨t1, t2, t3, t4, t5⟩ := hFT hgd
    rw [g2, o4 (B + 15) (by omega) (by omega), bF_o (by omega), t3 lx hl26.1]
    have hlm97 := hl26.2 r20
    constructor
    · rintro ⟨_, y⟩
      by_cases z : vix ln lx f < 0
      · exact ((it_lt (by omega) (by omega) (by omega) (by omega)).mpr (by omega))
      · exfalso
        have := vix_s ln lx f (by omega)
        refine y (vix ln lx f).toNat (by omega) (by omega) ?_
        rw [p4 (B + 49) (by omega), (t5 _ (by omega)).1, this, hlm97, Nat.add_comm]
    · intro y
      have z : vix ln lx f < 0 := by
        have := (it_lt (by omega) (by omega) (by omega) (by omega)).mp y; omega
      refine ⟨rfl, fun j _ hj hq => vix_n ln lx f z j hj ?_⟩
      rw [p4 (B + 49) (by omega), (t5 j hj).1, hlm97] at hq
      have := (t1 j hj).1
      have := it_inj (by omega) (by omega) hq
      omega)
  have fm5 := n5
  have hS5 := SM_f (WG_r (k := 0)) fm5 hS4
  have i5 : ∀ b, ¬ b = B + 46 → ¬ b = B + 56 → ¬ b = B + 57 → b < wm.2.2.1 → Im5 b = Im b := fun b q1 q2 q3 q4 => by rw [fm5.1 b q4 q1 q2 q3, p4 b q1]
  have j5 : ∀ k, ¬ k = 13 → ¬ k = 22 → ¬ k = 23 → ¬ k = 24 → ¬ k = 25 → ¬ k = 26 → ¬ k = 27 → ¬ k = 28 → ¬ k = 29 → Im5 (B + 46) k = Im4 (B + 46) k := fm5.2.1
  obtain ⟨Nx', Nm', Q1, Q2, Q3, Q4, hJ5⟩ := JS_N n9
  have hJ6 := JS_o (Ix' := Ix5) (Im' := nF B f (it ((lm : Nat) : Int)) (it ((Nm' : Nat) : Int)) Im5) ha (fun _ _ => rfl) (fun b hb => nF_o (by omega)) hJ5
  have hS6 : SM K B wm (nF B f (it ((lm : Nat) : Int)) (it ((Nm' : Nat) : Int)) Im5) := ⟨hS5.1, hS5.2.1, StO_c (fun b hb => ⟨nF_o (by omega), rfl, rfl⟩) hS5.2.2.1, hS5.2.2.2⟩
  obtain ⟨Ix6, Im7, y1, y2, y3, y4, y5⟩ := JS_tk1 (K := K) (d := dx + 2) (e := dy) (Jm := Jm) (k := 40) (sl' := sl) (by decide) ha hX H hS6 hJ6 (by have := nxC_b (bs := bs) (t := t) (c := nxC bs t (c + 1) 0 1) (r := nxR bs t (c + 1) 0 1) (k := 40); omega)
  have hnx2 := nxC_b (bs := bs) (t := t) (c := nxC bs t (c + 1) 0 1) (r := nxR bs t (c + 1) 0 1) (k := 40)
  obtain ⟨f1, f2, f3, f4', f5⟩ := nF_e (B := B) (f := f) (xm := it ((lm : Nat) : Int)) (N := it ((Nm' : Nat) : Int)) (I := Im5)
  have c3n := (JS_c y5).1
  have o6 : ∀ b, ¬ b = B + 2 → ¬ b = B + 3 → ¬ b = B + 15 → Ix6 b = bF B a f N Ix b := fun b q2 q3 q15 => by rw [y3 b q3, n3 b q15 q2, o4 b q2 q3]
  have i6 : ∀ k, ¬ k = 3 → ¬ k = 6 → Ix6 (B + 2) k = bF B a f N Ix (B + 2) k := fun k q3 q6 => by rw [y3 (B + 2) (by omega), n4 k q6, i4 k q3]
  have j7 : ∀ k, ¬ k = 13 ∧ ¬ k = 22 ∧ ¬ k = 23 ∧ ¬ k = 24 ∧ ¬ k = 25 ∧ ¬ k = 26 ∧ ¬ k = 27 ∧ ¬ k = 28 ∧ ¬ k = 29 → Im7 (B + 46) k = Im4 (B + 46) k := fun k hk => by rw [y4.2.1 k (by omega) (by omega) (by omega) (by omega) (by omega) (by omega) (by omega) (by omega) (by omega), nF_o (by omega), j5 k (by omega) (by omega) (by omega) (by omega) (by omega) (by omega) (by omega) (by omega) (by omega)]
  have p7 : ∀ b, b < wm.2.2.1 → ¬ b = B + 46 → ¬ b = B + 56 → ¬ b = B + 57 → Im7 b = nF B f (it ((lm : Nat) : Int)) (it ((Nm' : Nat) : Int)) Im5 b := fun b q1 q2 q3 q4 => y4.1 b q1 q2 q3 q4
  have ht1 : tst bs t (c + 1) ≤ tst bs t (nxC bs t (nxC bs t (c + 1) 0 1) (nxR bs t (c + 1) 0 1) 40) := tst_m hX (by omega) c3n
  have e11 : Ix6 (B + 2) 11 = it 0 := by rw [i6 11 (by omega) (by omega)]; exact e3
  have e52 : Ix6 (a + 5) (4 * f + 2) = it 0 := by rw [o6 (a + 5) (by omega) (by omega) (by omega), e7 _ (by omega)]; exact hz _ (by omega) (by omega)
  refine ⟨nxC bs t (nxC bs t (c + 1) 0 1) (nxR bs t (c + 1) 0 1) 40, nxR bs t (nxC bs t (c + 1) 0 1) (nxR bs t (c + 1) 0 1) 40, lx, lm, N, Nm', gd', dp', it (if nw = true then 1 else 0), bF B a f N Ix, Ix6, Im7, e38, fun kk R hR => x_40h hX H x1 h44 x4 hl26.1 i43 n1 y1 hR, fun km x R h94 hR => ?_, fun k hk => by rw [o6 (a + 5) (by omega) (by omega) (by omega), e7 _ (by omega)], fun k hk => by rw [p7 (B + 50) (by omega) (by omega) (by omega) (by omega), (f5 k hk).2.1, i5 (B + 50) (by omega) (by omega) (by omega) (by omega)], by rw [p7 (B + 52) (by omega) (by omega) (by omega) (by omega)]; exact f4', show c + 1 ≤ nxC bs t (nxC bs t (c + 1) 0 1) (nxR bs t (c + 1) 0 1) 40 by omega, fun z => ?_, by rw [p7 (B + 51) (by omega) (by omega) (by omega) (by omega)]; exact f3, ?_, ?_, ?_, ?_, ?_, by rw [p7 (B + 50) (by omega) (by omega) (by omega) (by omega)]; exact f2, fun k q1 q2 => ?_, fun b q1 q2 => ?_, fun b q0 q1 q2 q3 q4 q5 q6 q7 => ?_, fun k q1 => ?_, fun k q1 => ?_, n7, fun z g => ?_, ?_⟩
  · refine m_88h (kk := f + (km + 1)) hS.1 hMR0 hk f4 h5 m1 m3.2.1 (by rw [m2.2 5 (by omega) (by omega) (by omega) (by omega) (by omega)]; exact h5) (by rw [m3.2.2.2.2.1, hq]) m4 ?_
    obtain ⟨nw2, k1, k2⟩ := m_58 (K := K) (dy := dy) (Jm := Jm) (lt := it ((lm : Nat) : Int)) hS4.1 f4 j430 f 0 (f + (km + 1)) true (by omega) (by omega)
    have en : nw2 = nw := by
      have : nw2 = true ↔ nw = true := k2.trans g2.symm
      cases nw2 <;> cases nw <;> simp_all
    rw [en, show f + (km + 1) - f = km + 1 by omega] at k1
    refine Eq.trans k1 ?_
    rw [m_58e hS4.1 f4 j430 j431 n2 (by rw [j5 30 (by omega) (by omega) (by omega) (by omega) (by omega) (by omega) (by omega) (by omega) (by omega)]; exact j430) Q2 y2 h94]
    exact hR
  · have z1 := hnx2.2.2.1 z
    have z2 := hnx.2.2.1 z1.1
    omega
  · rw [y3 (B + 2) (by omega), n4 3 (by omega), i43, hq]
  · rw [j7 31 (by omega), j431, hq]
  · rw [j7 5 (by omega), j4 5 (by omega)]; exact h5
  · rw [o6 a (by omega) (by omega) (by omega)]; exact e4
  · rw [o6 (a + 5) (by omega) (by omega) (by omega)]; exact e6
  · rw [o6 (a + 5) (by omega) (by omega) (by omega), e7 _ (by omega)]; exact hz _ (by omega) q2
  · unfold oX at q1
    rw [o6 b (by omega) (by omega) q2, bF_o (by omega)]
  · rw [p7 b q0 q1 q6 q7, nF_o (by omega)]; exact i5 b q1 q6 q7 q0
  · rw [o6 a (by omega) (by omega) (by omega), e5 k q1.2]
  · rw [j7 k (by omega), j4 k (by omega)]
  · have z1 := hnx2.2.2.1 z
    obtain ⟨g1', g2', g3', g4', g5'⟩ := n8 z1.1 g
    obtain ⟨t1, t2, t3, t4, t5⟩ := hFT g1'
    have hlm97 := hl26.2 z1.1
    have hvl : vix ln lx f < 0 := by
      rw [o4 (B + 15) (by omega) (by omega), bF_o (by omega), t3 lx hl26.1] at g4'
      have := (it_lt (by omega) (by omega) (by omega) (by omega)).mp g4'; omega
    have ef2 : Ix4 (B + 2) 2 = it f := by rw [i4 2 (by omega)]; exact e1
    refine ⟨g1', g2', fun g hg' => ?_, by rw [up1_s]; exact hl26.1, fun g g' q1 q2 q3 => ?_, fun l hl => ?_, fun g hg' => ⟨fun k hk1 hk => ?_, fun v hv => ?_⟩, fun g hg' => ?_, ?_⟩
    · rw [up1_n (by omega)]; exact t1 g hg'
    · by_cases ea : g = f
      · by_cases eb : g' = f
        · omega
        · rw [ea, up1_s, up1_n eb] at q3
          exact absurd q3.symm (vix_n ln lx f hvl g' (by omega))
      · by_cases eb : g' = f
        · rw [eb, up1_s, up1_n ea] at q3
          exact absurd q3 (vix_n ln lx f hvl g (by omega))
        · rw [up1_n ea, up1_n eb] at q3
          exact t2 g g' (by omega) (by omega) q3
    · rw [y3 (B + 15) (by omega), g5', up2_r, ef2, vix, vix_c (v' := ln) f (fun j hj => up1_n (by omega)), up1_s]
      by_cases el : l = lx
      · subst el
        rw [up1_s, if_pos hvl, if_pos rfl]
      · rw [up1_n el, if_neg (show ¬ lx = l from fun y => el y.symm), o4 (B + 15) (by omega) (by omega), bF_o (by omega), t3 l hl]
        have := vix_b ln l f
        by_cases e3' : vix ln l f < 0
        · rw [if_pos e3', show vix ln l f = -1 by omega]
        · rw [if_neg e3']
    · rw [o6 (a + 5) (by omega) (by omega) (by omega), e7 _ (by omega)]; exact (t4 g hg').1 k hk1 hk
    · rw [o6 (a + 6) (by omega) (by omega) (by omega), bF_o (by omega)]; exact (t4 g hg').2 v hv
    · obtain ⟨s1, s3, s4, s5, s6⟩ := t5 g hg'
      obtain ⟨r1, r2, r3, r4⟩ := f5 g (by omega)
      rw [p7 (B + 49) (by omega) (by omega) (by omega) (by omega), r1, p7 (B + 51) (by omega) (by omega) (by omega) (by omega), r3, p7 (B + 52) (by omega) (by omega) (by omega) (by omega), r4, p7 (B + 53) (by omega) (by omega) (by omega) (by omega), nF_o (b := B + 53) (by omega), p7 (B + 55) (by omega) (by omega) (by omega) (by omega), nF_o (b := B + 55) (by omega)]
      rw [i5 (B + 49) (by omega) (by omega) (by omega) (by omega), i5 (B + 51) (by omega) (by omega) (by omega) (by omega), i5 (B + 52) (by omega) (by omega) (by omega) (by omega), i5 (B + 53) (by omega) (by omega) (by omega) (by omega), i5 (B + 55) (by omega) (by omega) (by omega) (by omega), up1_n (by omega)]
      exact ⟨s1, s3, s4, s5, s6⟩
    · rw [p7 (B + 49) (by omega) (by omega) (by omega) (by omega), f1, up1_s, hlm97, Nat.add_comm]
  · refine ⟨JS_m (fun y => ⟨y.1.1, y.1.2.1, y.1.2.2.1, y.2.2⟩) (Nat.le_refl _) y5, StO_c (fun b hb => ⟨by rw [o6 b (by omega) (by omega) (by omega), bF_o (by omega)], rfl, rfl⟩) hO, SM_f (WG_r (k := 0)) y4 hS6, by rw [i6 2 (by omega) (by omega)]; exact e1, by rw [j7 30 (by omega)]; exact j430, ⟨0, by omega, e52⟩, ⟨0, by omega, by rw [p7 (B + 52) (by omega) (by omega) (by omega) (by omega)]; exact f4'⟩, by omega, e11, fun _ => ⟨⟨f4, by omega, fun v hv => by omega, by unfold fa1; rw [if_pos rfl, if_neg (by omega)], fun y => y.elim⟩, ⟨by rw [i6 2 (by omega) (by omega)]; exact e1, fun l hl => ?_, fun v hv => by omega, fun y => y.elim⟩, ⟨by rw [j7 30 (by omega)]; exact j430, by rw [p7 (B + 52) (by omega) (by omega) (by omega) (by omega)]; exact f4', fun v hv => by omega, fun y => y.elim⟩, e52⟩⟩
    rw [o6 (B + 16) (by omega) (by omega) (by omega), e8 l hl]
    rfl
end HEAD

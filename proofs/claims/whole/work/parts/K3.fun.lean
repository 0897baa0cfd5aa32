/-! one fun, both: all of it -/
section FUNA
variable {K : Nat → Value} {B d e a : Nat} {w wm wm' : aW} {Ix Im I I' I'' Ix' Im' : aI} {Jx Jm J J' J'' Jx' Jm' : aJ} {bs : Nat → Nat} {t n c r s sl sl' b op op' m m' : Nat} {pd dp dp0 : Int} {G G1 G' Gs G2 G3 : gG} {Q Q' Qh Qx gd Y Q0 Q0' : Prop} {f cnt cnt' st st' lp pc pm : Nat} {vn vn' ln : Nat → Nat} {fa fa' fa0 fa0' fs : Nat → Nat → Nat} {G0 G0' : gG} {P P' : Nat → Prop}
theorem F_fun {dx dy : Nat} (ha : a = B + 8 ∨ a = B + 22) (hX : TX bs t n) (H : Lay B w) (hp : w.2.1 (B + 2) 1 = some a) (hdx : 181 ≤ dx) (hdy : 1000 ≤ dy) (f4 : f ≤ 4) (h : FJ K B a bs t n w f c 0 (sl + 4) dp gd Y ln fa G lp pc pm Ix Jx wm Im) (hk : kX bs t c 0 = 256) :
    ∃ (c' r' : Nat) (dp' : Int) (gd' : Prop) (ln' : Nat → Nat) (fa' : Nat → Nat → Nat) (G' : gG) (lp' pc' pm' N Nm : Nat) (Ix1 Ix2 Ix3 : aI) (Jx3 : aJ) (Ix' : aI) (Jx' : aJ) (wm' : aW) (Im' : aI) (Jm' : aJ), Cl K (dx + 6) 38 [.ref (B + 2), .int (it f)] w Ix Jx = some (none, w, Ix1, Jx) ∧ Cl K (dx + 6) 40 [.ref (B + 2)] w Ix1 Jx = some (none, w, Ix2, Jx) ∧ Cl K (dx + 6) 55 [.ref (B + 2)] w Ix2 Jx = some (none, w, Ix3, Jx3) ∧ Cl K (dx + 6) 77 [.ref (B + 2)] w Ix3 Jx3 = some (none, w, Ix', Jx') ∧ Cl K (dy + 9) 88 [.ref (B + 46)] wm Im Jm = some (none, wm', Im', Jm')
      ∧ FFx B a f Ix Jx Ix' Jx' ∧ FFm B f wm.2.2.1 Im Jm Im' Jm' ∧ WG' wm wm' (c' - c) ∧ c + 1 ≤ c' ∧ Ix' (a + 5) (4 * f) = it N ∧ Im' (B + 50) f = it Nm ∧ (r' = 0 → (∀ g k, g < f → fa' g k = fa g k) ∧ fa' f 0 = G.1) ∧ FJ K B a bs t n w (f + 1) c' r' sl dp' gd' (Y ∧ N = G.1 ∧ Nm = G.1) ln' fa' G' lp' pc' pm' Ix' Jx' wm' Im' := by
  have h82 := h.2.2.1.2.2.2
  obtain ⟨c3, r3, lx, lm, N, Nm, gd1, dp1, nwv, Ix1, Ix6, Im7, e38, e40, e88, o1, o2, o3, o4, o5, o6, o7, o8, o9, o10, o11, o12, o13, o14, o15, o16, o17, o18, o19, hPJ⟩ := H_op (K := K) (dx := dx + 1) (dy := dy) (Jm := Jm) (vn := fun _ => 0) ha hX H hp f4 h hk
  obtain ⟨c2, r2, cnt, i, vn2, fa2', dp2, gd2, Ix7, Im8, ⟨kk, kx', i2, q40⟩, ⟨km, km', x, q94, q88⟩, fx, fm, p1, p2, p3, p4, p5, p6, p7, p8, hPJ2⟩ := P_all (K := K) (dx := dx + 1) (dy := dy) (Jm := Jm) (lx := it lx) (l1 := it lm) (l2 := nwv) ha hX H hp f4 hPJ o6 o3 (fun z => by have := o5 z; omega) o18
  have hrow2 : ∀ g k, g < f → fa2' g k = fa g k := fun g k hg => by rw [p8 g k hg]; unfold fa1; rw [if_neg (by omega)]
  have hft2 : r2 = 0 → gd2 → FTn B a f (sm_up1 ln f lx) fa2' Ix7 Im8 ∧ cnt = i := fun r0 g2 => by
    obtain ⟨z1, z2, z3⟩ := p6 r0 g2
    obtain ⟨_, _, z4⟩ := o19 (p4 r0).1 z1
    refine ⟨FTn_t hrow2 (fx.1 (B + 15) (by unfold oX; omega)) (fun k hk => fx.2.2.2.1 k (by omega)) (fun k hk => fx.2.2.2.2.1 k hk) (fm.1 (B + 49) (by omega) (by unfold oM; omega) (by omega)) (fun k hk => (fm.2.2.1 k hk).1) (fun k hk => (fm.2.2.1 k hk).2) (fun k hk => by rw [fm.1 (B + 53) (by omega) (by unfold oM; omega) (by omega)]) (fun k hk => (fm.2.2.2 k hk).2) z4, z3⟩
  obtain ⟨c4, r4, td, cx, Ix8, Ix9, Im1, Im2, Im4, y1, y2, y3, y4, y5, y6, y7, y8, ⟨y9, y9c⟩, y10, y11, y12, y13, y14, y15, y16, y17, y18, y19, y20, y21, y22, y23, y24, hSJ⟩ := H_en (K := K) (dx := dx + 1) (dy := dy) (Jm := Jm) (i' := i) (gd := gd2) (Qx := (TF fa f G ∧ Y) ∧ N = G.1 ∧ Nm = G.1) (P := fun _ => False) ha hX H hp f4 (by omega) hPJ2 (fun q => ⟨q.1, q.2, q.2.1.1.1⟩) p5 p3 hft2 (by rw [fm.2.1 5 (by omega)]; exact o9)
  obtain ⟨c5, r5, cnt5, vn5, fa5, G5, Ix10, Jx10, wm', Im10, Jm', b1, b2, b3, b4, b5, b6, ⟨b7, b7c⟩, hSJ2⟩ := B_fun (K := K) (dx := dx) (dy := dy) (sl := sl + 2) (Jm := Jm) ha hX H hp hdx hdy hSJ (fun z => by have := y9 z; have := o5 (p4 this.1).1; omega) y14
  obtain ⟨Ix11, Jx11, Im11, Im12, d1, d2, d3, d4, d5, d6⟩ := E_fun (K := K) (dx := dx + 1) (dy := dy) (Jm := Jm') ha hX H hp f4 hSJ2
  have Hm2 : Lay B wm' := hSJ2.2.2.1.1
  have h82' := hSJ2.2.2.1.2.2.2
  have e98 := m_98 (K := K) (dy := dy + 7) hPJ2.2.2.1.1 y7 b2
  have eref := m_165e (K := K) (dy := dy) (km := km') (l1 := it lm) (l2 := nwv) hPJ2.2.2.1.1 Hm2 f4 y3 y4 y5 y6 e98 hSJ2.2.2.2.2.1 d2 d3
  have e88' := e88 km x _ q94 (q88.trans eref)
  have e40' := e40 kk _ (q40.trans (y1 kx' (it lx) i2))
  have e55 := x_55 (K := K) (dx := dx + 5) H y2 b1
  have c5n := (JS_c d6).1
  -- frames of the class
  have k5 : ∀ k, ¬ k = 4 * f + 1 → ¬ k = 4 * f + 2 → ¬ k = 4 * f + 3 → Ix11 (a + 5) k = Ix6 (a + 5) k := fun k q1 q2 q3 => by rw [d4.1 (a + 5) (by omega) (by omega) (by omega) (by omega) (by omega) (by omega), b3.2.2.2.1 k q2, y17 k q1 q3, fx.2.2.2.1 k q2]
  have g5 : ∀ k, k = 4 * f + 1 ∨ k = 4 * f + 3 → Ix11 (a + 5) k = Ix9 (a + 5) k := fun k q => by rw [d4.1 (a + 5) (by omega) (by omega) (by omega) (by omega) (by omega) (by omega), b3.2.2.2.1 k (by omega)]
  have kx : ∀ b, oX B a b → ¬ b = B + 15 → Ix11 b = Ix b := fun b q1 q2 => by
    have q1' := q1
    unfold oX at q1'
    rw [d4.1 b (by omega) (by omega) (by omega) (by omega) (by omega) (by omega), b3.1 b q1, y15 b (by omega) (by omega) (by omega) (by omega) (by omega) (by omega), fx.1 b q1, o14 b q1 q2]
  have k2 : ∀ k, ¬ k = 6 ∧ ¬ k = 7 ∧ ¬ k = 8 ∧ ¬ k = 11 → Ix11 (B + 2) k = Ix6 (B + 2) k := fun k q => by rw [d4.2.1 k (by omega) (by omega) (by omega), b3.2.1 k q, y16 k (by omega), fx.2.1 k q]
  have k7 : Ix11 a 7 = Ix6 a 7 := by rw [d4.2.2.1 7 (by omega), b3.2.2.1 7 (by omega), y15 a (by omega) (by omega) (by omega) (by omega) (by omega) (by omega), fx.2.2.1 7 (by omega)]
  -- frames of the reference
  have sz := b5.2.1
  have kM : ∀ b, b < wm.2.2.1 → oF B b → Im12 b = Im b := fun b q0 q1 => by
    unfold oF at q1
    have q2 : oM B b := by unfold oM; omega
    rw [d5.1 b (by omega) (by omega) (by omega) (by omega), b4.1 b q0 q2, y18 b (by omega) (by omega), fm.1 b q0 q2 (by omega), o15 b q0 (by omega) (by omega) (by omega) (by omega) (by omega) (by omega) (by omega)]
  have kF : ∀ k, ¬ k = 5 → ¬ k = 13 ∧ ¬ k = 22 ∧ ¬ k = 23 ∧ ¬ k = 24 ∧ ¬ k = 25 ∧ ¬ k = 26 ∧ ¬ k = 27 ∧ ¬ k = 28 ∧ ¬ k = 29 → Im12 (B + 46) k = Im7 (B + 46) k := fun k q5 q => by rw [d5.2.1 k (by omega) (by omega) (by omega) (by omega) (by omega) (by omega) (by omega) (by omega) (by omega), b4.2.1 k q, y19 k (by omega) (by omega) (by omega) (by omega) (by omega) (by omega), fm.2.1 k q]
  have k57 : Im12 (B + 50) = Im7 (B + 50) := by rw [d5.1 (B + 50) (by omega) (by omega) (by omega) (by omega), b4.1 (B + 50) (by omega) (by unfold oM; omega), y18 (B + 50) (by omega) (by omega), fm.1 (B + 50) (by omega) (by unfold oM; omega) (by omega)]
  have k58 : Im12 (B + 51) = Im8 (B + 51) := by rw [d5.1 (B + 51) (by omega) (by omega) (by omega) (by omega), b4.1 (B + 51) (by omega) (by unfold oM; omega), y18 (B + 51) (by omega) (by omega)]
  have hJm : ∀ b, b < wm.2.2.1 → Jm' b = Jm b := b4.2.2.2.2
  have d5' := FMx_t (m := wm.2.2.1) sz (I := Im10) (J := Jm') (I' := Im10) (J' := Jm') (I'' := Im12) (J'' := Jm') ⟨fun _ _ _ _ _ => rfl, fun _ _ _ _ _ _ _ _ _ _ => rfl, fun _ _ => rfl⟩ d5
  have nn := hSJ2.2.2.2.2.2.2.2.2
  have rows : r5 = 0 → (∀ g k, g < f → fa5 g k = fa g k) ∧ fa5 f 0 = G.1 := fun r0 => by
    obtain ⟨_, _, _, _, _, n6, n7⟩ := nn r0
    obtain ⟨u1, u2, u3⟩ := fa2_e (fa := fa2') (f := f) (cnt := cnt) (td := td)
    refine ⟨fun g k hg => by rw [n6 g k hg, u3 g k (by omega) (by omega), hrow2 g k hg], ?_⟩
    rw [n7.1 0 (by omega) (by omega), u3 f 0 (by omega) (by omega), p7 0 (by omega) (by omega)]
    unfold fa1
    rw [if_pos rfl, if_pos rfl]
  have hdp : dp2 ≤ (tst bs t c5 : Nat) := by
    have := hPJ2.2.2.2.2.2.2.2.1
    have := tst_m hX (show c2 ≤ c5 by omega) c5n
    omega
  have hJf : JS B a bs t n (-1) dp2 c5 r5 0 sl (gE1 (gE1 G5 27 (fa5 f 3) [fa5 f 3]) 25 0 []) (gd2 ∧ TF fa5 (f + 1) (gE1 (gE1 G5 27 (fa5 f 3) [fa5 f 3]) 25 0 []) ∧ Y ∧ N = G.1 ∧ Nm = G.1) Ix11 Jx11 Im12 := by
    by_cases r0 : r5 = 0
    · refine JS_m (fun q => ?_) (Nat.le_refl _) d6
      obtain ⟨⟨⟨⟨q1, q2⟩, q3, q4⟩, q5, q6⟩⟩ := And.intro q trivial
      obtain ⟨n1, n2, n3, n4, _⟩ := nn r0
      obtain ⟨rw1, rw2⟩ := rows r0
      exact ⟨q5, TF_n q1 q6 rw1 rw2 ((n1.2.2.2.2 q5).1 f (Nat.le_refl _)).2.2.2.1, q2, q3, q4⟩
    · exact JS_Q (by have := (JS_c d6).2.1; omega) d6
  refine ⟨c5, r5, dp2, gd2, sm_up1 ln f lx, fa5, _, tst bs t (c + 1), cx, i, N, Nm, Ix1, Ix8, Ix10, Jx10, Ix11, Jx11, wm', Im12, Jm', e38, e40', e55, d1, e88', ⟨kx, fun k hk => ?_, fun b q1 q2 => ?_⟩, ⟨kM, fun k q1 q2 q3 => ?_, fun k hk => by rw [k57, o2 k hk], hJm⟩, WG_k (by omega) b5, by omega, by rw [k5 _ (by omega) (by omega) (by omega)]; exact o11, by rw [k57]; exact o12, rows, hJf, StO_F ha d4 hSJ2.2.1, SM_f (WG_r (k := 0)) d5 hSJ2.2.2.1, hdp, p5, by rw [k7]; exact o10, fun k q1 q2 => ?_, fun _ => ⟨?_, ?_, ?_, ?_, y10⟩, fun r0 => ⟨?_, fun _ => ⟨?_, ?_, p2, ?_⟩, fun hg => ?_⟩⟩
  · rw [k5 k (by omega) (by omega) (by omega), o1 k hk]
  · rw [d4.2.2.2 b q1 q2, b3.2.2.2.2.2.2 b q1 q2]
  · rw [kF k q1 (by omega), o17 k (by omega)]
  · rw [k5 k (by omega) (by omega) (by omega)]; exact o13 k (by omega) q2
  · rw [show f + 1 - 1 = f by omega, k2 2 (by omega)]; exact hPJ.2.2.2.1
  · rw [k2 3 (by omega)]; exact o7
  · have := tst_t bs t (c + 1); have := hX.1; omega
  · rw [show f + 1 - 1 = f by omega, g5 _ (by omega)]; exact y12
  · rw [d5.2.1 5 (by omega) (by omega) (by omega) (by omega) (by omega) (by omega) (by omega) (by omega) (by omega), b4.2.1 5 (by omega)]; exact y20
  · rw [kF 31 (by omega) (by omega)]; exact o8
  · rw [show f + 1 - 1 = f by omega, k58]; exact p3
  · have r4 := (b7 r0).1
    have := y11 r4
    have := (p4 (y9 r4).1).2
    omega
  · obtain ⟨n1, n2, n3, n4, n5, n6, n7⟩ := nn r0
    have r4 := (b7 r0).1
    obtain ⟨t1, t2⟩ := hft2 (y9 r4).1 hg
    have hfe : ∀ g k, g < f → fa5 g k = fa2' g k := fun g k hg => by rw [(rows r0).1 g k hg, hrow2 g k hg]
    have e15 : Ix10 (B + 15) = Ix7 (B + 15) := by rw [b3.1 (B + 15) (by unfold oX; omega), y15 (B + 15) (by omega) (by omega) (by omega) (by omega) (by omega) (by omega)]
    have e6 : ∀ k, k < 6 * f → Ix10 (a + 6) k = Ix7 (a + 6) k := fun k hk => by rw [b3.2.2.2.2.1 k hk, y15 (a + 6) (by omega) (by omega) (by omega) (by omega) (by omega) (by omega)]
    have f5' : ∀ k, k < 4 * f → Ix10 (a + 5) k = Ix7 (a + 5) k := fun k hk => by rw [b3.2.2.2.1 k (by omega), y17 k (by omega) (by omega)]
    have m58 : ∀ k, ¬ k = f → Im10 (B + 51) k = Im8 (B + 51) k := fun k _ => by rw [b4.1 (B + 51) (by omega) (by unfold oM; omega), y18 (B + 51) (by omega) (by omega)]
    have m59 : ∀ k, ¬ k = f → Im10 (B + 52) k = Im8 (B + 52) k := fun k hk => by rw [b4.2.2.1 k hk, y18 (B + 52) (by omega) (by omega)]
    have m60 : ∀ k, ¬ k = f → Im10 (B + 53) k = Im8 (B + 53) k := fun k hk => by rw [b4.1 (B + 53) (by omega) (by unfold oM; omega), y21 k hk]
    have m62 : ∀ k, k < 6 * f → Im10 (B + 55) k = Im8 (B + 55) k := fun k hk => by rw [(b4.2.2.2.1 k hk).2, y18 (B + 55) (by omega) (by omega)]
    have m56 : Im10 (B + 49) = Im8 (B + 49) := by rw [b4.1 (B + 49) (by omega) (by unfold oM; omega), y18 (B + 49) (by omega) (by omega)]
    have hF := FTn_t (B := B) (a := a) hfe e15 f5' e6 m56 m58 m59 m60 m62 t1
    have n1' : NP f cnt5 vn5 fa5 (sm_up1 ln f lx) True := ⟨n1.1, n1.2.1, n1.2.2.1, n1.2.2.2.1, fun _ => n1.2.2.2.2 hg⟩
    have n2' : NX B a f cnt5 vn5 fa5 (sm_up1 ln f lx) True Ix10 := ⟨n2.1, n2.2.1, n2.2.2.1, fun _ => n2.2.2.2 hg⟩
    have n3' : NM B f cnt5 vn5 fa5 (sm_up1 ln f lx) True Im10 := ⟨n3.1, n3.2.1, n3.2.2.1, fun _ => n3.2.2.2 hg⟩
    have hT := FT_n (op := 0) hF n1' n2' n3' n4
    have j15 : Ix11 (B + 15) = Ix10 (B + 15) := d4.1 (B + 15) (by omega) (by omega) (by omega) (by omega) (by omega) (by omega)
    have j5 : Ix11 (a + 5) = Ix10 (a + 5) := d4.1 (a + 5) (by omega) (by omega) (by omega) (by omega) (by omega) (by omega)
    have j6 : Ix11 (a + 6) = Ix10 (a + 6) := d4.1 (a + 6) (by omega) (by omega) (by omega) (by omega) (by omega) (by omega)
    have jm : ∀ b, b = B + 49 ∨ b = B + 51 ∨ b = B + 52 ∨ b = B + 53 ∨ b = B + 55 → Im12 b = Im10 b := fun b hb => d5.1 b (by omega) (by omega) (by omega) (by omega)
    unfold FT at hT ⊢
    rw [j15, j5, j6, jm (B + 49) (by omega), jm (B + 51) (by omega), jm (B + 52) (by omega), jm (B + 53) (by omega), jm (B + 55) (by omega)]
    exact hT
end FUNA

/-! what stands in a head's brackets, all ways -/
section PARS
variable {K : Nat → Value} {B d e a : Nat} {w wm wm' : aW} {Ix Im I I' I'' Ix' Im' : aI} {Jx Jm J J' J'' Jx' Jm' : aJ} {bs : Nat → Nat} {t n c r s sl sl' b op op' m m' : Nat} {pd dp dp0 : Int} {G G1 G' Gs G2 G3 : gG} {Q Q' Qh Qx gd Q0 Q0' : Prop} {f cnt cnt' st st' lp pc pm : Nat} {vn vn' ln : Nat → Nat} {fa fa' fa0 fa0' fs : Nat → Nat → Nat} {G0 G0' : gG} {P P' : Nat → Prop}
/-- cells of the reference that the brackets leave -/
def FPm (B f m : Nat) (Im Im' : aI) : Prop := (∀ b, b < m → oM B b → ¬ b = B + 51 → Im' b = Im b) ∧ (∀ k, ¬ k = 13 ∧ ¬ k = 22 ∧ ¬ k = 23 ∧ ¬ k = 24 ∧ ¬ k = 25 ∧ ¬ k = 26 ∧ ¬ k = 27 ∧ ¬ k = 28 ∧ ¬ k = 29 → Im' (B + 46) k = Im (B + 46) k) ∧ (∀ k, ¬ k = f → Im' (B + 51) k = Im (B + 51) k ∧ Im' (B + 52) k = Im (B + 52) k) ∧ (∀ k, k < 6 * f → Im' (B + 54) k = Im (B + 54) k ∧ Im' (B + 55) k = Im (B + 55) k)
theorem PJ_m (hq : r = 0 → Q → Q') (h : PJ K B a bs t n dp w f ln c r sl cnt vn fa G op Q Ix Jx wm Im) : PJ K B a bs t n dp w f ln c r sl cnt vn fa G op Q' Ix Jx wm Im := by
  obtain ⟨j, rest⟩ := h
  refine ⟨?_, rest⟩
  by_cases r0 : r = 0
  · exact JS_m (hq r0) (Nat.le_refl _) j
  · exact JS_Q (by have := (JS_c j).2.1; omega) j
theorem P_all {dx dy : Nat} {l1 l2 lx : Int32} (ha : a = B + 8 ∨ a = B + 22) (hX : TX bs t n) (H : Lay B w) (hp : w.2.1 (B + 2) 1 = some a) (f4 : f ≤ 4) (h : PJ K B a bs t n dp w f ln c r sl 0 vn fa G 0 (gd ∧ Qx) Ix Jx wm Im) (h58 : Im (B + 51) f = it 0) (h59 : Im (B + 52) f = it 0) (hc : r = 0 → 2 ≤ c) (hgd : gd ∨ 0 ≤ dp) :
    ∃ (c' r' cnt' i' : Nat) (vn' : Nat → Nat) (fa' : Nat → Nat → Nat) (dp' : Int) (gd2 : Prop) (Ix' Im' : aI), (∃ (kk kx' : Nat) (i2 : Int32), f_40_79 K kk (dx + 4) (B + 2) lx (it 0) w Ix Jx = f_40_131 K kx' (dx + 4) (B + 2) lx i2 w Ix' Jx) ∧ (∃ (km km' : Nat) (x : Int32), Cl K (dy + 8) 94 [.ref (B + 46), .int (it 41)] wm Im Jm = some (some (.int x), wm, Im, Jm) ∧ f_88_165 K km (dy + 8) (B + 46) l1 l2 (if x = it 0 then it 1 else it 0) wm Im Jm = f_88_165 K (km' + 1) (dy + 8) (B + 46) l1 l2 (it 0) wm Im' Jm)
      ∧ FSx B a f 0 Ix Jx Ix' Jx ∧ FPm B f wm.2.2.1 Im Im' ∧ c ≤ c' ∧ i' ≤ 240 ∧ Im' (B + 51) f = it ((i' : Nat) : Int) ∧ (r' = 0 → r = 0 ∧ (cnt' = 0 ↔ i' = 0)) ∧ (gd2 ∨ 0 ≤ dp') ∧ (r' = 0 → gd2 → gd ∧ dp' = dp ∧ cnt' = i') ∧ (∀ k, k < 4 → ¬ k = 2 → fa' f k = fa f k) ∧ (∀ g k, g < f → fa' g k = fa g k) ∧ PJ K B a bs t n dp' w f ln c' r' sl cnt' vn' fa' G 0 (gd2 ∧ Qx) Ix' Jx wm Im' := by
  obtain ⟨hcn, hr1, hXT, hMR⟩ := JS_c h.1
  have e49 := s_49z (K := K) (d := dx + 2) (J := Jx) hX H hXT
  have e94 := s_94 (K := K) (d := dy + 7) (J := Jm) h.2.2.1.1 hMR hX (show it 41 = it ((41 : Nat) : Int) from rfl) (by decide)
  by_cases k41 : kX bs t c r = 41
  · obtain ⟨r0, _⟩ := kX_n hX hcn k41 (by omega) (by omega)
    rw [if_pos (Or.inl k41)] at e49
    rw [if_pos k41] at e94
    exact ⟨c, r, 0, 0, vn, fa, dp, gd, Ix, Im, ⟨1, 0, it ((0 : Nat) : Int), x_79e (i := 0) H (by omega) e49⟩, ⟨1, 0, _, e94, by rw [if_neg (by decide)]⟩, FSx_r, ⟨fun _ _ _ _ => rfl, fun _ _ => rfl, fun _ _ => ⟨rfl, rfl⟩, fun _ _ => ⟨rfl, rfl⟩⟩, Nat.le_refl _, by omega, h58, fun z => ⟨z, Iff.rfl⟩, hgd, fun _ g => ⟨g, rfl, rfl⟩, fun _ _ _ => rfl, fun _ _ _ => rfl, h⟩
  · rw [if_neg k41] at e94
    by_cases k3 : kX bs t c r = 3
    · rw [if_pos (Or.inr k3)] at e49
      have hnm : NM B f 0 vn fa ln False Im := ⟨h.2.2.2.2.1, h59, fun v hv => by omega, fun z => z.elim⟩
      obtain ⟨Im4, b1, b2, b3, b4, b5, b6, b7⟩ := P_bad (K := K) (dx := dx) (dy := dy) (km := 1) (l1 := l1) (l2 := l2) (Jm := Jm) (Q' := True ∧ Qx) ha hX H f4 h k3 hnm h58
      refine ⟨c, 1, 0, 1, vn, fa, dp, True, _, Im4, ⟨1, 0, it ((0 : Nat) : Int), (x_79e (i := 0) H (by omega) e49).trans (b2 0 lx (it ((0 : Nat) : Int)))⟩, ⟨2, 0, _, e94, by rw [if_pos rfl]; exact b1⟩, FSx_e ha (FX3_E ha (fun b hb => up2_n hb)), ⟨fun b q0 q1 q2 => ?_, b5, fun k q => ⟨b4 k q, ?_⟩, fun k q => ⟨?_, ?_⟩⟩, Nat.le_refl _, by omega, b6, fun z => by omega, Or.inl trivial, fun z => by omega, fun _ _ _ => rfl, fun _ _ _ => rfl, b7⟩
      · unfold oM at q1
        exact b3 b q0 (by omega) q2 (by omega) (by omega)
      all_goals
        have h82 := h.2.2.1.2.2.2
        rw [b3 _ (by omega) (by omega) (by omega) (by omega) (by omega)]
    · have r0 : r = 0 := by
        by_cases r0 : r = 0
        · exact r0
        · unfold kX at k3; rw [if_neg r0] at k3; exact absurd rfl k3
      subst r0
      rw [if_neg (fun z => z.elim k41 k3)] at e49
      obtain ⟨c', r', cnt', i', kx', km', vn', fa', dp', Q', Ix', Im', a1, a2, a3, a4, a5, a6, a7, a8, a9, a10, a11, a12, a13, a14, a15, a16⟩ := PL_loop (K := K) (dx := dx) (dy := dy) (l1 := l1) (l2 := l2) (lx := lx) (Jm := Jm) (Qh := gd ∧ Qx) (dp0 := dp) ha hX H hp f4 241 c 0 0 242 242 vn fa dp (gd ∧ Qx) Ix Im (by have := hX.2.1; omega) (by omega) (by omega) (by have := hc rfl; omega) (Or.inl ⟨rfl, rfl, rfl⟩) h58 h
      have fin : ∃ gd2 : Prop, (gd2 ∨ 0 ≤ dp') ∧ (r' = 0 → gd2 → gd ∧ dp' = dp ∧ cnt' = i') ∧ (r' = 0 → Q' → gd2 ∧ Qx) := by
        rcases a13 with ⟨z1, z2, z3⟩ | ⟨z1, z2⟩ | z1
        · exact ⟨gd, by rw [z2]; exact hgd, fun _ g => ⟨g, z2, z3⟩, fun _ q => by rw [z1] at q; exact q⟩
        · exact ⟨False, Or.inr z2, fun _ g => g.elim, fun _ q => by rw [z1] at q; exact q.elim⟩
        · exact ⟨True, Or.inl trivial, fun z => by omega, fun z => by omega⟩
      obtain ⟨gd2, u1, u2, u3⟩ := fin
      exact ⟨c', r', cnt', i', vn', fa', dp', gd2, Ix', Im', ⟨243, kx', it i', a1 Ix e49⟩, ⟨243, km', _, e94, by rw [if_pos rfl]; exact a2⟩, a3, ⟨a4, a5, a6, a7⟩, a8, a10, a11, fun z => ⟨rfl, by have := (a12 z).2; omega⟩, u1, u2, a14, a15, PJ_m u3 a16⟩
/-- rows of the funs ahead are as they were -/
theorem gPar_c {g : Nat} (h : ∀ k, fa' g k = fa g k) : ∀ m, gPar fa' g m = gPar fa g m := by
  intro m
  induction m with
  | zero => rfl
  | succ m ih => unfold gPar; rw [h, ih]
theorem gEf_c {g o x : Nat} {u u' : List Nat} (h : ∀ q k, q ≤ g → fa' q k = fa q k) (he : gEf fa g o x u u') : gEf fa' g o x u u' := by
  unfold gEf at he ⊢
  rw [h g 2 (Nat.le_refl _), h g 3 (Nat.le_refl _), h g (4 + x) (Nat.le_refl _)]
  rcases he with he | he | he | he | ⟨h1, h2, r, h3, h4⟩ | he
  · exact Or.inl he
  · exact Or.inr (Or.inl he)
  · exact Or.inr (Or.inr (Or.inl he))
  · exact Or.inr (Or.inr (Or.inr (Or.inl he)))
  · exact Or.inr (Or.inr (Or.inr (Or.inr (Or.inl ⟨h1, h2, r, by rw [gPar_c (fun k => h x k h2), h x 1 h2]; exact h3, by rw [h x 3 h2]; exact h4⟩))))
  · exact Or.inr (Or.inr (Or.inr (Or.inr (Or.inr he))))
theorem FC_c {g en : Nat} (h : ∀ q k, q ≤ g → fa' q k = fa q k) (hG : ∀ p, p < G.1 → G'.2.1 p = G.2.1 p ∧ G'.2.2.1 p = G.2.2.1 p) (hs : ∀ p, p ≤ G.1 → G'.2.2.2 p = G.2.2.2 p) (hN : G.1 ≤ G'.1) (hc : FC fa g st en G) : FC fa' g st en G' := by
  obtain ⟨c1, c2, c3, c4, c5, c6⟩ := hc
  refine ⟨c1, by omega, by rw [hs st (by omega)]; exact c3, by rw [(hG _ (by omega)).1]; exact c4, fun p p1 p2 => ?_, fun p q q1 p2 p1 p3 p4 q2 q3 => ?_⟩
  · obtain ⟨d1, d2, d3, d4, d5⟩ := c5 p p1 p2
    rw [(hG p (by omega)).1, (hG p (by omega)).2, hs p (by omega), hs (p + 1) (by omega)]
    refine ⟨gEf_c h d1, d2, d3, d4, fun j => ?_⟩
    obtain ⟨e1, e2, e3, e4⟩ := d5 j
    exact ⟨e1, e2, by rw [hs _ (by omega)]; exact e3, e4⟩
  · rw [(hG p (by omega)).1] at p3
    rw [(hG p (by omega)).2] at p4 q2 ⊢
    rw [(hG q (by omega)).1] at q3
    rw [(hG q (by omega)).2]
    exact c6 p q q1 p2 p1 p3 p4 q2 q3
/-- the code of the fun that was read last -/
theorem FC_n (hW : Wf fa f st (fun _ => False) G0 G) (h0 : G0.2.2.2 st = []) (h3 : fa f 3 ≤ 3) : FC fa f st (G.1 + 2) (gE1 (gE1 G 27 (fa f 3) [fa f 3]) 25 0 []) := by
  obtain ⟨w1, w2, w3, w4, w5, w6⟩ := hW
  obtain ⟨g1, g2, g3, g4, g5, g6⟩ := gE1_o (G := G) (o := 27) (g := fa f 3) (st := [fa f 3])
  obtain ⟨k1, k2, k3, k4, k5, k6⟩ := gE1_o (G := gE1 G 27 (fa f 3) [fa f 3]) (o := 25) (g := 0) (st := [])
  rw [g1] at k1 k2 k3 k4 k5 k6
  refine ⟨by omega, by rw [k1]; omega, by rw [k5 _ (by omega), g5 _ (by omega), w4 _ (Nat.le_refl _)]; exact h0, by rw [show G.1 + 2 - 1 = G.1 + 1 by omega]; exact k3, fun p p1 p2 => ?_, fun p q q1 p2 p1 p3 p4 q2 q3 => ?_⟩
  · by_cases e1 : p = G.1 + 1
    · subst e1
      rw [k3, k4, k5 _ (by omega), g6, k6]
      exact ⟨by unfold gEf; simp, by omega, by omega, by simp, fun j => by rcases j with z | z <;> omega⟩
    · by_cases e2 : p = G.1
      · subst e2
        rw [(k2 _ (by omega)).1, (k2 _ (by omega)).2, g3, g4, k5 _ (by omega), k5 _ (by omega), g5 _ (by omega), g6, w2]
        exact ⟨by unfold gEf; simp, by omega, by omega, by simp, fun j => by rcases j with z | z <;> omega⟩
      · obtain ⟨d1, d2, d3, d4, d5⟩ := w5 p p1 (by omega)
        rw [(k2 p (by omega)).1, (k2 p (by omega)).2, (g2 p (by omega)).1, (g2 p (by omega)).2, k5 p (by omega), g5 p (by omega), k5 (p + 1) (by omega), g5 (p + 1) (by omega)]
        refine ⟨d1, d2, d3, d4, fun j => ?_⟩
        obtain ⟨f1, f2, f3, f4⟩ := d5 j (fun z => z)
        exact ⟨f1, by omega, by rw [k5 _ (by omega), g5 _ (by omega)]; exact f3, f4⟩
  · have pl : p < G.1 := by
      by_cases e1 : p = G.1 + 1
      · subst e1; rw [k3] at p3; omega
      · by_cases e2 : p = G.1
        · subst e2; rw [(k2 _ (by omega)).1, g3] at p3; omega
        · omega
    have ql : q < G.1 := by
      rw [(k2 p (by omega)).2, (g2 p (by omega)).2] at p4 q2
      omega
    rw [(k2 p (by omega)).1, (g2 p (by omega)).1] at p3
    rw [(k2 p (by omega)).2, (g2 p (by omega)).2] at p4 q2 ⊢
    rw [(k2 q (by omega)).1, (g2 q (by omega)).1] at q3
    rw [(k2 q (by omega)).2, (g2 q (by omega)).2]
    exact w6 p q q1 pl p3 (fun z => z) p4 q2 q3 (fun z => z)
/-- all funs, with the one that was read last -/
theorem TF_n {fz : Nat → Nat → Nat} (hT : TF fz f G0) (hW : Wf fa f G0.1 (fun _ => False) G0 G) (hr : ∀ g k, g < f → fa g k = fz g k) (h0 : fa f 0 = G0.1) (h3 : fa f 3 ≤ 3) : TF fa (f + 1) (gE1 (gE1 G 27 (fa f 3) [fa f 3]) 25 0 []) := by
  obtain ⟨t1, t2, t3, t4⟩ := hT
  obtain ⟨w1, w2, w3, w4, w5, w6⟩ := id hW
  obtain ⟨g1, g2, g3, g4, g5, g6⟩ := gE1_o (G := G) (o := 27) (g := fa f 3) (st := [fa f 3])
  obtain ⟨k1, k2, k3, k4, k5, k6⟩ := gE1_o (G := gE1 G 27 (fa f 3) [fa f 3]) (o := 25) (g := 0) (st := [])
  rw [g1] at k1 k2 k3 k4 k5 k6
  refine ⟨by rw [k1, k6], fun z => by omega, fun _ => ?_, fun g hg => ?_⟩
  · by_cases f0 : f = 0
    · rw [f0] at h0 t2; rw [h0]; exact t2 rfl
    · rw [hr 0 0 (by omega)]; exact t3 (by omega)
  · by_cases e : g = f
    · subst e
      rw [if_neg (by omega), h0, k1]
      exact FC_n hW t1 h3
    · have hg' : g < f := by omega
      have hc := t4 g hg'
      have en : (if g + 1 < f + 1 then fa (g + 1) 0 else (gE1 (gE1 G 27 (fa f 3) [fa f 3]) 25 0 []).1) = if g + 1 < f then fz (g + 1) 0 else G0.1 := by
        rw [if_pos (by omega)]
        by_cases e2 : g + 1 < f
        · rw [if_pos e2, hr _ _ e2]
        · rw [if_neg e2, show g + 1 = f by omega, h0]
      rw [en, hr g 0 hg']
      refine FC_c (fun q k hq => hr q k (by omega)) (fun p hp => ?_) (fun p hp => ?_) (by rw [k1]; omega) hc
      · rw [(k2 p (by omega)).1, (k2 p (by omega)).2, (g2 p (by omega)).1, (g2 p (by omega)).2]; exact w3 p hp
      · rw [k5 p (by omega), g5 p (by omega)]; exact w4 p hp
end PARS

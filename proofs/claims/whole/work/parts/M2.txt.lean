/-! a text ends, both -/
section TFIN
variable {K : Nat → Value} {B d e a : Nat} {w wm wm' : aW} {Ix Im Im0 I I' I'' Ix' Im' : aI} {Jx Jm J J' J'' Jx' Jm' : aJ} {bs : Nat → Nat} {t n c r s sl sl' b op op' m m' : Nat} {pd dp dp0 : Int} {G G1 G' : gG} {Q Q' gd Y : Prop} {f lp pc pm : Nat} {ln : Nat → Nat} {fa fa' : Nat → Nat → Nat}
theorem itn_j {x y : Nat} (hx : x < 1000000) (hy : y < 1000000) : it (x : Int) = it (y : Int) ↔ x = y := by
  rw [it_eq (by omega) (by omega) (by omega) (by omega)]
  omega
/-- a text without a fault, in both -/
def TOK (B a f : Nat) (fa : Nat → Nat → Nat) (G : gG) (rc : Nat → Bool) (X : aI) (JX : aJ) (Z : aI) : Prop := TF fa f G ∧ 1 ≤ f ∧ f ≤ 5 ∧ fa (f - 1) 1 = 0 ∧ (∀ g, g < f → fa g 1 ≤ fa g 2 ∧ fa g 2 ≤ 6 ∧ fa g 3 ≤ 3 ∧ ∀ v, v < fa g 2 → fa g (4 + v) ≤ 3) ∧ X a 7 = it f ∧ Z (B + 46) 5 = it f ∧ (∀ g, g < f → (∀ k, k < 4 → X (a + 5) (4 * g + k) = it (fa g k)) ∧ ∀ v, v < fa g 2 → X (a + 6) (6 * g + v) = it (fa g (4 + v)))
  ∧ (∀ g, g < f → Z (B + 50) g = it (fa g 0) ∧ Z (B + 51) g = it (fa g 1) ∧ Z (B + 52) g = it (fa g 2) ∧ Z (B + 53) g = it (fa g 3) ∧ ∀ v, v < fa g 2 → Z (B + 55) (6 * g + v) = it (fa g (4 + v))) ∧ (∀ p, p < G.1 → p < 200 → X (a + 1) p = it (G.2.1 p) ∧ X (a + 2) p = it (G.2.2.1 p) ∧ JX (a + 3) p = if rc p = true then gPk (G.2.2.2 p) else 3125) ∧ (G.1 ≤ 200 → fwd (hed f fa) G.2.1 G.2.2.1 G.1 rc) ∧ CMr B G.1 G.2.1 G.2.2.1 Z
/-- the faults of both are alike -/
def TFl (B a f : Nat) (fa : Nat → Nat → Nat) (G : gG) (rc : Nat → Bool) (X : aI) (JX : aJ) (Z : aI) (N Nm : Nat) (nfx nfm tfx tfm : Int) : Prop := nfm = nfx ∧ (0 ≤ nfm ∨ (tfx = tfm ∧ 0 ≤ tfx) ∨ (nfx = -1 ∧ tfx = -1 ∧ tfm = -1 ∧ N = G.1 ∧ Nm = G.1 ∧ TOK B a f fa G rc X JX Z))
theorem fwd_I {F : Nat} {rc : Nat → Bool} (hT : TF fa F G) (h0 : 0 < F) (hN : G.1 ≤ 200) (hh : ∀ g, g < F → I (a + 5) (4 * g) = it (fa g 0)) (hc : ∀ p, p < G.1 → I (a + 1) p = it (G.2.1 p) ∧ I (a + 2) p = it (G.2.2.1 p)) (hr : ∀ q, q < G.1 → (rc q = true ↔ hdI a F I q ∨ ∃ y, y < q ∧ rc y = true ∧ edI a I y q)) : fwd (hed F fa) G.2.1 G.2.2.1 G.1 rc := by
  intro p hp
  rw [hr p hp]
  have e1 : hdI a F I p ↔ hed F fa p := by
    unfold hdI hed
    constructor
    · rintro ⟨g, g1, g2⟩
      rw [hh g g1] at g2
      have h1 := (TF_c hT g1).1
      have h2 := (TF_c hT g1).2.1
      exact ⟨g, g1, (itn_j (by omega) (by omega)).mp g2⟩
    · rintro ⟨g, g1, g2⟩
      exact ⟨g, g1, by rw [hh g g1, g2]⟩
  have e2 : ∀ y, y < p → (edI a I y p ↔ edg G.2.1 G.2.2.1 y p) := fun y hy => by
    obtain ⟨g, q1, q2, q3⟩ := TF_in (q := y) hT h0 (by omega)
    obtain ⟨_, k1, k2, _⟩ := (TF_c hT q1).2.2.2.2.1 y q2 q3
    obtain ⟨c1, c2⟩ := hc y (by omega)
    unfold edI edg isJ
    rw [c1, c2, show it 23 = it ((23 : Nat) : Int) from rfl, show it 24 = it ((24 : Nat) : Int) from rfl, show it 25 = it ((25 : Nat) : Int) from rfl, itn_j (by omega) (by omega), itn_j (by omega) (by omega), itn_j (by omega) (by omega), itn_j (by omega) (by omega)]
  rw [e1]
  constructor
  · rintro (z | ⟨y, y1, y2, y3⟩)
    · exact Or.inl z
    · exact Or.inr ⟨y, y1, y2, (e2 y y1).mp y3⟩
  · rintro (z | ⟨y, y1, y2, y3⟩)
    · exact Or.inl z
    · exact Or.inr ⟨y, y1, y2, (e2 y y1).mpr y3⟩
theorem T_fin {dx dy kx km : Nat} {l1 : Nat} {l2 l3 : Int32} (ha : a = B + 8 ∨ a = B + 22) (hX : TX bs t n) (H : Lay B w) (hp : w.2.1 (B + 2) 1 = some a) (f1 : 1 ≤ f) (f5 : f ≤ 5) (h : FJ K B a bs t n w f c r sl dp gd Y ln fa G lp pc pm Ix Jx wm Im0) (hY : HY B a f r Y fa Ix Im0) (h6 : FM6 B Im0 Im) (hT : MR B bs t n c (nxR bs t c r 0) Im) (he : nxR bs t c r 0 = 0 → Im = Im0) :
    ∃ (r' h N Nm : Nat) (nfx nfm tfx tfm : Int) (rc : Nat → Bool) (X : aI) (JX : aJ) (Z : aI), f_22_81 K kx (dx + 6) (B + 2) l1 l2 l3 w Ix Jx = some (none, w, X, JX) ∧ f_83_64 K km (dy + 9) (B + 46) wm Im Jm = f_83_98 K km (dy + 9) (B + 46) wm Z Jm ∧ (∀ b, oX B a b → ¬ b = a + 4 → X b = Ix b) ∧ (∀ b, ¬ b = a + 3 → jv B JX b = jv B Jx b) ∧ FMx B wm.2.2.1 Im Jm Z Jm ∧ XE B a bs t n c r' h N nfx tfx X ∧ ME B bs t n c r' 0 Nm nfm tfm Z ∧ (r' = 0 → TFl B a f fa G rc X JX Z N Nm nfx nfm tfx tfm) := by
  have hP := PLx H ha
  obtain ⟨r', dp', Ix2, Im3, q1, q2, q3, q4, q5, hJ⟩ := T_end (K := K) (dx := dx) (dy := dy) (kx := kx) (km := km) (l1 := l1) (l2 := l2) (l3 := l3) (Jm := Jm) ha hX H hp f1 f5 h h6 hT he
  obtain ⟨hJ0, hO, hS, hdp, hg, i7, hz, hl, hr0⟩ := h
  have h82 := hS.2.2.2
  obtain ⟨hh, Nx, Nm, nfx, nfm, tfx, tfm, xE, mE, b1, b2, ff⟩ := hJ
  have i7' : Ix2 a 7 = it f := by rw [q3.2.2.1 7 (by omega)]; exact i7
  obtain ⟨x0, x1, x2, x3, x4, x5, x6, x7, x8, x9, x10⟩ := id xE
  obtain ⟨M, rc, JX, s1, s2, s3⟩ := s_78 (K := K) (d := dx + 3) (w := w) (J := Jx) hP x9 x10 i7' f5
  have o : ∀ b, ¬ b = a + 4 → sm_up1 Ix2 (a + 4) M b = Ix2 b := fun b hb => up1_n hb
  refine ⟨r', hh, Nx, Nm, nfx, nfm, tfx, tfm, rc, sm_up1 Ix2 (a + 4) M, JX, Im3, q1 _ rfl s1, q2, fun b hb hb4 => ?_, fun b hb => ?_, q4, ⟨XT_f (o _ (by omega)) (o _ (by omega)) (o _ (by omega)) (o _ (by omega)) x0, by rw [o _ (by omega)]; exact x1, x2, x3, by rw [o _ (by omega)]; exact x4, x5, x6, by rw [o _ (by omega)]; exact x7, x8, by rw [o _ (by omega)]; exact x9, x10⟩, mE, fun r0 => ?_⟩
  · unfold oX at hb
    rw [o b hb4, q3.1 b (by omega) (by omega) (by omega) (by omega) (by omega) (by omega)]
  · exact (jv_c (by rw [s2 _ (by omega)]) (fun _ => s2 b hb)).trans (q3.2.2.2 b hb hb)
  · obtain ⟨⟨nn, _⟩, bf⟩ := ff r0
    have en : nfm = nfx := by
      rw [nn]; unfold mm
      by_cases z : nfx < 0
      · rw [if_pos z]; omega
      · rw [if_neg z, if_pos (by omega)]
    refine ⟨en, ?_⟩
    rcases bf with bd | ⟨⟨g1, g2, g3, g4, g5, g6, ⟨w1, w2, w3, w4⟩, g8⟩, ⟨hgd, hTF, hYY⟩, hpc⟩
    · exact bd.imp id Or.inl
    · obtain ⟨r00, hIm⟩ := q5 r0
      subst r00
      obtain ⟨m5, ml, hFT⟩ := hr0 rfl
      obtain ⟨t1, t2, t3, t4, t5⟩ := hFT hgd
      obtain ⟨_, _, _, lpc, pc6⟩ := hl f1
      have hYf := hY rfl hYY
      have e5 : Ix2 (a + 5) = Ix (a + 5) := q3.1 (a + 5) (by omega) (by omega) (by omega) (by omega) (by omega) (by omega)
      have e6 : Ix2 (a + 6) = Ix (a + 6) := q3.1 (a + 6) (by omega) (by omega) (by omega) (by omega) (by omega) (by omega)
      have m57 : Im3 (B + 50) = Im0 (B + 50) := by rw [q4.1 (B + 50) (by omega) (by omega) (by omega) (by omega), hIm]
      have m58 : Im3 (B + 51) = Im0 (B + 51) := by rw [q4.1 (B + 51) (by omega) (by omega) (by omega) (by omega), hIm]
      have m59 : Im3 (B + 52) = Im0 (B + 52) := by rw [q4.1 (B + 52) (by omega) (by omega) (by omega) (by omega), hIm]
      have m60 : Im3 (B + 53) = Im0 (B + 53) := by rw [q4.1 (B + 53) (by omega) (by omega) (by omega) (by omega), hIm]
      have m62 : Im3 (B + 55) = Im0 (B + 55) := by rw [q4.1 (B + 55) (by omega) (by omega) (by omega) (by omega), hIm]
      refine Or.inr (Or.inr ⟨g1, g3, g4, g5, g6, hTF, f1, f5, ?_, fun g hg => (t1 g hg).2, ?_, ?_, fun g hg => ⟨fun k hk => ?_, fun v hv => ?_⟩, fun g hg => ?_, fun p p1 p2 => ?_, fun hN => ?_, g8⟩)
      · have e := (t4 (f - 1) (by omega)).1 1 (by omega) (by omega)
        rw [lpc] at e
        have hb := (t1 (f - 1) (by omega)).2
        have := (itn_j (by omega) (by omega)).mp e
        omega
      · rw [o a (by omega)]; exact i7'
      · rw [q4.2.1 5 (by omega) (by omega) (by omega) (by omega) (by omega) (by omega) (by omega) (by omega) (by omega), hIm]; exact m5
      · rw [o (a + 5) (by omega), e5]
        by_cases k0 : k = 0
        · subst k0; exact (hYf g hg).1
        · exact (t4 g hg).1 k (by omega) hk
      · rw [o (a + 6) (by omega), e6]; exact (t4 g hg).2 v hv
      · rw [m57, m58, m59, m60, m62]
        obtain ⟨_, u1, u2, u3, u4⟩ := t5 g hg
        exact ⟨(hYf g hg).2, u1, u2, u3, u4⟩
      · obtain ⟨u1, u2, u3⟩ := w4 p p1 p2
        rw [o (a + 1) (by omega), o (a + 2) (by omega), (s3 p (by omega) p2).1, u3]
        exact ⟨u1, u2, rfl⟩
      · exact fwd_I (I := Ix2) hTF (by omega) hN (fun g hg => by rw [e5]; exact (hYf g hg).1) (fun p hp => by have := w4 p hp (by omega); exact ⟨this.1, this.2.1⟩) (fun q hq => (s3 q (by omega) (by omega)).2)
/-- the first fun -/
theorem T_one {dx dy : Nat} (ha : a = B + 8 ∨ a = B + 22) (hX : TX bs t n) (H : Lay B w) (hp : w.2.1 (B + 2) 1 = some a) (hdx : 181 ≤ dx) (hdy : 1000 ≤ dy) (a6 : Ix a 6 = it 0) (h15 : Ix (B + 15) 0 = it (-1)) (h : FJ K B a bs t n w 0 0 0 (sl + 4) (-1) True True (fun _ => 0) (fun _ _ => 0) g0 0 0 0 (sm_up2 Ix (B + 2) 8 (it 0)) Jx wm Im) :
    ∃ (c r : Nat) (dp : Int) (gd Y : Prop) (ln : Nat → Nat) (fa : Nat → Nat → Nat) (G : gG) (lp pc pm : Nat) (Ix1 Ix2 Ix3 : aI) (Jx3 : aJ) (Ix' : aI) (Jx' : aJ) (wm' : aW) (Im' : aI) (Jm' : aJ), Cl K (dx + 6) 38 [.ref (B + 2), .int (it (0 : Nat))] w Ix Jx = some (none, w, Ix1, Jx) ∧ Cl K (dx + 6) 40 [.ref (B + 2)] w Ix1 Jx = some (none, w, Ix2, Jx) ∧ Cl K (dx + 6) 55 [.ref (B + 2)] w Ix2 Jx = some (none, w, Ix3, Jx3) ∧ Cl K (dx + 6) 77 [.ref (B + 2)] w Ix3 Jx3 = some (none, w, Ix', Jx') ∧ Cl K (dy + 9) 88 [.ref (B + 46)] wm Im Jm = some (none, wm', Im', Jm')
      ∧ FGx B a Ix Jx Ix' Jx' ∧ FGm B wm.2.2.1 Im Jm Im' Jm' ∧ WG' wm wm' c ∧ FJ K B a bs t n w 1 c r sl dp gd Y ln fa G lp pc pm Ix' Jx' wm' Im' ∧ HY B a 1 r Y fa Ix' Im' := by
  have e38 : ∀ R, Cl K (dx + 6) 38 [.ref (B + 2), .int (it (0 : Nat))] w (sm_up2 Ix (B + 2) 8 (it 0)) Jx = some R → Cl K (dx + 6) 38 [.ref (B + 2), .int (it (0 : Nat))] w Ix Jx = some R := fun R hR => by
    have x1 := s_38 (K := K) (d := dx + 4) (J := Jx) (f := 0) (N := 0) (I := Ix) ha H hp (by omega) a6
    have x2 := s_38 (K := K) (d := dx + 4) (J := Jx) (f := 0) (N := 0) (I := sm_up2 Ix (B + 2) 8 (it 0)) ha H hp (by omega) (by rw [up2_n (by omega)]; exact a6)
    rw [bF_8 ha] at x2
    rw [show dx + 6 = dx + 4 + 2 by omega] at hR ⊢
    rw [x2] at hR
    rw [x1]
    exact hR
  have fgx : ∀ (X : aI) (JX : aJ), FFx B a 0 (sm_up2 Ix (B + 2) 8 (it 0)) Jx X JX → FGx B a Ix Jx X JX := fun X JX hF => ⟨fun b b1 b2 => by
    rw [hF.1 b b1 b2, up2_n (by unfold oX at b1; omega)], hF.2.2⟩
  by_cases hk : kX bs t 0 0 = 256
  · obtain ⟨c1, r1, dp1, gd1, ln1, fa1, G1, lp1, pc1, pm1, N, Nm, Ix1, Ix2, Ix3, Jx3, Ix4, Jx4, wm1, Im1, Jm1, q38, q40, q55, q77, q88, fx, fm, wg, hc1, n1, n2, rows, h1⟩ := F_fun (K := K) (dx := dx) (dy := dy) (Jm := Jm) ha hX H hp hdx hdy (by omega) h hk
    refine ⟨c1, r1, dp1, gd1, _, ln1, fa1, G1, lp1, pc1, pm1, Ix1, Ix2, Ix3, Jx3, Ix4, Jx4, wm1, Im1, Jm1, e38 _ q38, q40, q55, q77, q88, fgx _ _ fx, ⟨fm.1, fm.2.1, fm.2.2.2⟩, wg, h1, ?_⟩
    intro r0 y g hg
    obtain ⟨rw1, rw2⟩ := rows r0
    have : g = 0 := by omega
    subst this
    rw [n1, n2, rw2, y.2.1, y.2.2]
    exact ⟨rfl, rfl⟩
  · obtain ⟨lp1, pc1, Ix1, Ix2, Ix3, Jx3, Ix4, Jx4, Im1, q38, q40, q55, q77, q88, fx, fm, h1⟩ := Z_fun (K := K) (dx := dx) (dy := dy) (Jm := Jm) ha hX H hp hdx hdy h (by rw [up2_n (by omega)]; exact h15) hk
    exact ⟨0, 1, _, _, _, _, _, _, lp1, pc1, 0, Ix1, Ix2, Ix3, Jx3, Ix4, Jx4, wm, Im1, Jm, e38 _ q38, q40, q55, q77, q88, fgx _ _ fx, ⟨fm.1, fm.2.1, fm.2.2.2⟩, WG_r, h1, fun z => by omega⟩
end TFIN

/-! a fun begins -/
/-- the code of a fun that is read to its end -/
def FC (fa : Nat → Nat → Nat) (g st en : Nat) (G : gG) : Prop := st < en ∧ en ≤ G.1 ∧ G.2.2.2 st = [] ∧ G.2.1 (en - 1) = 25 ∧ (∀ p, st ≤ p → p < en → gEf fa g (G.2.1 p) (G.2.2.1 p) (G.2.2.2 p) (G.2.2.2 (p + 1)) ∧ G.2.1 p ≤ 27 ∧ G.2.2.1 p ≤ 99999 ∧ (G.2.2.2 p).length ≤ 60 ∧ (isJ (G.2.1 p) → st ≤ G.2.2.1 p ∧ G.2.2.1 p < en ∧ G.2.2.2 (G.2.2.1 p) = [] ∧ (G.2.1 p = 23 → p < G.2.2.1 p))) ∧ ∀ p q, st ≤ q → p < en → st ≤ p → G.2.1 p = 24 → G.2.2.1 p ≤ p → q < G.2.2.1 p → isJ (G.2.1 q) → G.2.2.1 q ≤ G.2.2.1 p ∨ p < G.2.2.1 q
/-- all funs ahead -/
def TF (fa : Nat → Nat → Nat) (f : Nat) (G : gG) : Prop := G.2.2.2 G.1 = [] ∧ (f = 0 → G.1 = 0) ∧ (0 < f → fa 0 0 = 0) ∧ ∀ g, g < f → FC fa g (fa g 0) (if g + 1 < f then fa (g + 1) 0 else G.1) G
/-- the tables of the funs, both -/
def FT (B a f : Nat) (ln : Nat → Nat) (fa : Nat → Nat → Nat) (Ix Im : aI) : Prop := (∀ g, g < f → ln g < 26 ∧ fa g 1 ≤ fa g 2 ∧ fa g 2 ≤ 6 ∧ fa g 3 ≤ 3 ∧ ∀ v, v < fa g 2 → fa g (4 + v) ≤ 3) ∧ (∀ g g', g < f → g' < f → ln g = ln g' → g = g') ∧ (∀ l, l < 26 → Ix (B + 15) l = it (vix ln l f)) ∧ (∀ g, g < f → (∀ k, 1 ≤ k → k < 4 → Ix (a + 5) (4 * g + k) = it (fa g k)) ∧ ∀ v, v < fa g 2 → Ix (a + 6) (6 * g + v) = it (fa g (4 + v))) ∧ ∀ g, g < f → Im (B + 49) g = it (97 + ln g : Nat) ∧ Im (B + 51) g = it (fa g 1) ∧ Im (B + 52) g = it (fa g 2) ∧ Im (B + 53) g = it (fa g 3) ∧ ∀ v, v < fa g 2 → Im (B + 55) (6 * g + v) = it (fa g (4 + v))
/-- both ahead of the fun f -/
def FJ (K : Nat → Value) (B a : Nat) (bs : Nat → Nat) (t n : Nat) (w : aW) (f c r sl : Nat) (dp : Int) (gd Y : Prop) (ln : Nat → Nat) (fa : Nat → Nat → Nat) (G : gG) (lp pc pm : Nat) (Ix : aI) (Jx : aJ) (wm : aW) (Im : aI) : Prop :=
  JS B a bs t n (-1) dp c r 0 sl G (gd ∧ TF fa f G ∧ Y) Ix Jx Im ∧ StO K B w Ix ∧ SM K B wm Im ∧ dp ≤ (tst bs t c : Nat) ∧ (gd ∨ 0 ≤ dp) ∧ Ix a 7 = it f ∧ (∀ k, 4 * f ≤ k → k < 20 → Ix (a + 5) k = it 0)
  ∧ (1 ≤ f → Ix (B + 2) 2 = it ((f - 1 : Nat) : Int) ∧ Ix (B + 2) 3 = it lp ∧ lp ≤ 240 ∧ Ix (a + 5) (4 * (f - 1) + 1) = it pc ∧ pc ≤ 6)
  ∧ (r = 0 → Im (B + 46) 5 = it f ∧ (1 ≤ f → Im (B + 46) 31 = it lp ∧ Im (B + 51) (f - 1) = it pm ∧ pm ≤ 240 ∧ (pc = 0 ↔ pm = 0)) ∧ (gd → FT B a f ln fa Ix Im))
section FUN
variable {K : Nat → Value} {B d e a : Nat} {w wm wm' : aW} {Ix Im I I' I'' Ix' Im' : aI} {Jx Jm J J' J'' Jx' Jm' : aJ} {bs : Nat → Nat} {t n c r s sl sl' b op op' m m' : Nat} {pd dp dp0 : Int} {G G1 G' Gs G2 G3 : gG} {Q Qh gd Q0 Q0' : Prop} {f cnt cnt' st st' : Nat} {vn vn' ln : Nat → Nat} {fa fa' fa0 fa0' fs : Nat → Nat → Nat} {G0 G0' : gG} {P P' : Nat → Prop}
/-- the class's cells as a fun begins -/
def bF (B a f N : Nat) (I : aI) : aI := sm_up2 (sm_up2 (sm_up1 (sm_up2 (sm_up2 (sm_up2 I (B + 2) 2 (it f)) a 7 (it ((f + 1 : Nat) : Int))) (a + 5) (4 * f) (it N)) (B + 16) (fun k => if k < 26 then it (-1) else I (B + 16) k)) (B + 2) 8 (it 0)) (B + 2) 11 (it 0)
theorem s_38 {N : Nat} (ha : a = B + 8 ∨ a = B + 22) (H : Lay B w) (hp : w.2.1 (B + 2) 1 = some a) (f4 : f ≤ 4) (hN : I a 6 = it N) : Cl K (d + 2) 38 [.ref (B + 2), .int (it f)] w I J = some (none, w, bF B a f N I, J) := by
  have hP : PL w a := PLx H ha
  apply cl_38 (k := 0)
  unfold f_38
  simp only [it_lit, it_neg, gO_e (yt2 H), gV_e hp, gO_e hP.1, gV_e (yp2_5 H), lt_p, it_add]
  rw [up2_r, up1_n (by omega), up2_n (a := B + 2) (b := a) (by omega), hN]
  have e39 := s_39 (K := K) (d := d) (w := w) (a := a) (I := sm_up2 (sm_up2 I (B + 2) 2 (it f)) a 7 (it ((f : Int) + 1))) (J := J) (f := f) (k := 0) (x := it N) hP f4 (by omega)
  have e39' : Cl K (d + 1) 39 [.ref a, .int (it f), .int (it 0), .int (it N)] w (sm_up2 (sm_up2 I (B + 2) 2 (it f)) a 7 (it ((f : Int) + 1))) J = _ := e39
  rw [e39']
  simp only [cV_e, gO_e (yt2 H), gV_e (yp2_5 H)]
  rw [s_36 (d := d) (yt16 H) (by omega)]
  simp only [cV_e, gO_e (yt2 H)]
  unfold bF
  rw [show (f : Int) + 1 = ((f + 1 : Nat) : Int) by omega, up2_n (a := a + 5) (b := B + 16) (by omega), up2_n (a := a) (b := B + 16) (by omega), up2_n (a := B + 2) (b := B + 16) (by omega)]
  rfl
theorem bF_o {N b : Nat} (h : ¬ b = B + 2 ∧ ¬ b = a ∧ ¬ b = a + 5 ∧ ¬ b = B + 16) : bF B a f N I b = I b := by
  unfold bF; rw [up2_n (by omega), up2_n (by omega), up1_n (by omega), up2_n (by omega), up2_n (by omega), up2_n (by omega)]
theorem bF_2 {N k : Nat} (ha : a = B + 8 ∨ a = B + 22) (h : ¬ k = 2 ∧ ¬ k = 8 ∧ ¬ k = 11) : bF B a f N I (B + 2) k = I (B + 2) k := by
  unfold bF; rw [up2_r, up1_n (by omega), up2_r, up1_n (by omega), up1_n (by omega), up2_n (by omega), up2_n (by omega), up2_r, up1_n (by omega)]
theorem bF_e {N : Nat} (ha : a = B + 8 ∨ a = B + 22) : bF B a f N I (B + 2) 2 = it f ∧ bF B a f N I (B + 2) 8 = it 0 ∧ bF B a f N I (B + 2) 11 = it 0 ∧ bF B a f N I a 7 = it ((f + 1 : Nat) : Int) ∧ (∀ k, ¬ k = 7 → bF B a f N I a k = I a k) ∧ bF B a f N I (a + 5) (4 * f) = it N ∧ (∀ k, ¬ k = 4 * f → bF B a f N I (a + 5) k = I (a + 5) k) ∧ ∀ l, l < 26 → bF B a f N I (B + 16) l = it (-1) := by
  unfold bF
  refine ⟨?_, ?_, ?_, ?_, fun k hk => ?_, ?_, fun k hk => ?_, fun l hl => ?_⟩
  · rw [up2_r, up1_n (by omega), up2_r, up1_n (by omega), up1_n (by omega), up2_n (by omega), up2_n (by omega), up2_r, up1_s]
  · rw [up2_r, up1_n (by omega), up2_r, up1_s]
  · rw [up2_r, up1_s]
  · rw [up2_n (by omega), up2_n (by omega), up1_n (by omega), up2_n (by omega), up2_r, up1_s]
  · rw [up2_n (by omega), up2_n (by omega), up1_n (by omega), up2_n (by omega), up2_r, up1_n hk, up2_n (by omega)]
  · rw [up2_n (by omega), up2_n (by omega), up1_n (by omega), up2_r, up1_s]
  · rw [up2_n (by omega), up2_n (by omega), up1_n (by omega), up2_r, up1_n hk, up2_n (by omega), up2_n (by omega)]
  · rw [up2_n (by omega), up2_n (by omega), up1_s, if_pos hl]
theorem JS_bF {N : Nat} (ha : a = B + 8 ∨ a = B + 22) (h : JS B a bs t n pd dp c r s sl G Q Ix Jx Im) (hQ : Q → G.2.2.2 G.1 = []) : JS B a bs t n pd dp c r s sl G Q (bF B a f N Ix) Jx Im := by
  obtain ⟨h, Nx, Nm, nfx, nfm, tfx, tfm, ⟨x0, x1, x2, x3, x4, x5, x6, x7, x8, x9, x10⟩, mE, b1, b2, ff⟩ := h
  obtain ⟨e1, e2, e3, e4, e5, e6, e7, e8⟩ := bF_e (B := B) (a := a) (f := f) (N := N) (I := Ix) ha
  refine ⟨0, Nx, Nm, nfx, nfm, tfx, tfm, ⟨XT_f (bF_o (by omega)) (bF_o (by omega)) (bF_o (by omega)) (bF_o (by omega)) x0, by rw [bF_2 ha (by omega)]; exact x1, x2, x3, by rw [bF_2 ha (by omega)]; exact x4, x5, x6, e2, by omega, by rw [e5 6 (by omega)]; exact x9, x10⟩, mE, b1, b2, fun r0 => ⟨(ff r0).1, (ff r0).2.imp id ?_⟩⟩
  rintro ⟨⟨g1, g2, g3, g4, g5, g6, ⟨w1, w2, w3, w4⟩, g8⟩, hq⟩
  have h0 : h = 0 := by rw [w1, hQ hq]; rfl
  subst h0
  refine ⟨⟨g1, g2, g3, g4, g5, g6, ⟨w1, fun i hi => by omega, w3, ?_⟩, g8⟩, hq⟩
  rw [bF_o (b := a + 1) (by omega), bF_o (b := a + 2) (by omega)]
  exact w4
/-- is the name new, as the reference asks -/
theorem m_58 {dy : Nat} {lt : Int32} (H : Lay B wm) (f4 : f ≤ 4) (h30 : Im (B + 46) 30 = it f) : ∀ (m i km : Nat) (nw : Bool), i + m = f → m < km → ∃ nw' : Bool, f_88_58 K km (dy + 8) (B + 46) lt (it (if nw = true then 1 else 0)) (it i) wm Im Jm = f_88_58 K (km - m) (dy + 8) (B + 46) lt (it (if nw' = true then 1 else 0)) (it f) wm Im Jm ∧ (nw' = true ↔ nw = true ∧ ∀ j, i ≤ j → j < f → ¬ Im (B + 49) j = lt) := by
  intro m
  induction m with
  | zero =>
    intro i km nw h1 h2
    have : i = f := by omega
    subst this
    exact ⟨nw, by rw [Nat.sub_zero], ⟨fun y => ⟨y, fun j j1 j2 => by omega⟩, fun y => y.1⟩⟩
  | succ m ih =>
    intro i km nw h1 h2
    obtain ⟨km, rfl⟩ : ∃ k', km = k' + 1 := ⟨km - 1, by omega⟩
    have run : ∀ nw2 : Bool, nw2 = (nw && decide (¬ Im (B + 49) i = lt)) → f_88_58 K (km + 1) (dy + 8) (B + 46) lt (it (if nw = true then 1 else 0)) (it i) wm Im Jm = f_88_58 K km (dy + 8) (B + 46) lt (it (if nw2 = true then 1 else 0)) (it ((i + 1 : Nat) : Int)) wm Im Jm := by
      intro nw2 hq
      rw [f_88_58]
      simp only [it_lit, lt_p, gO_e (yt46 H), gV_e (yp46_6 H)]
      rw [h30, if_neg (fun q => by have := (it_le (by omega) (by omega) (by omega) (by omega)).mp q; omega)]
      cases nw with
      | false =>
        subst hq
        rw [if_pos (show it (if false = true then 1 else 0) = it 0 from rfl)]
        unfold f_88_84 f_88_85
        simp only [it_lit, lt_p, it_add]
        rw [show (i : Int) + 1 = ((i + 1 : Nat) : Int) by omega]
        rfl
      | true =>
        rw [if_neg (show ¬ it (if true = true then 1 else 0) = it 0 from by decide), gA_e (yt49 H) (Or.inl rfl) (ix (by omega) (by omega) (by omega)), it_n (by omega)]
        by_cases y : Im (B + 49) i = lt
        · have : nw2 = false := by rw [hq]; simp [y]
          subst this
          rw [if_pos y]
          unfold f_88_84 f_88_85
          simp only [it_lit, lt_p, it_add]
          rw [show (i : Int) + 1 = ((i + 1 : Nat) : Int) by omega]
          rfl
        · have : nw2 = true := by rw [hq]; simp [y]
          subst this
          rw [if_neg y]
          unfold f_88_85
          simp only [it_lit, lt_p, it_add]
          rw [show (i : Int) + 1 = ((i + 1 : Nat) : Int) by omega]
          rfl
    obtain ⟨nw', g1, g2⟩ := ih (i + 1) km (nw && decide (¬ Im (B + 49) i = lt)) (by omega) (by omega)
    refine ⟨nw', by rw [run _ rfl, g1, show km + 1 - (m + 1) = km - m by omega], g2.trans ?_⟩
    rw [Bool.and_eq_true, decide_eq_true_iff]
    constructor
    · rintro ⟨⟨a1, a2⟩, a3⟩
      refine ⟨a1, fun j j1 j2 => ?_⟩
      by_cases ej : j = i
      · subst ej; exact a2
      · exact a3 j (by omega) j2
    · rintro ⟨a1, a2⟩
      exact ⟨⟨a1, a2 i (by omega) (by omega)⟩, fun j j1 j2 => a2 j (by omega) j2⟩
end FUN

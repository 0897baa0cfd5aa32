/-! a declaration, both -/
section DEC
variable {K : Nat → Value} {B d e a : Nat} {w wm wm' : aW} {Ix Im I I' I'' Ix' Im' : aI} {Jx Jm J J' J'' Jx' Jm' : aJ} {bs : Nat → Nat} {t n c r s sl b op m m' : Nat} {pd dp : Int} {G G1 : gG} {Q gd Q0 : Prop} {f cnt st : Nat} {vn ln : Nat → Nat} {fa fa0 : Nat → Nat → Nat} {G0 : gG} {P P' : Nat → Prop}
theorem x_62 {dx : Nat} {q : Prop} [Decidable q] {tt x v xv : Int32} {Ix1 Ix2 Ix3 Ix4 Ix5 Ix6 Ix7 Ix8 : aI} {Jx4 Jx8 : aJ} (hX : TX bs t n) (H : Lay B w) (hXT : XT B bs t n c 0 Ix) (h50 : Cl K (dx + 4) 50 [.ref (B + 3)] w Ix Jx = some (some (.int tt), w, Ix1, Jx)) (hXT1 : XT B bs t n (c + 1) 0 Ix1) (h45 : Cl K (dx + 4) 45 [.ref (B + 3)] w Ix1 Jx = some (some (.int x), w, Ix2, Jx)) (h41 : Cl K (dx + 4) 41 [.ref (B + 3), .int (it 61)] w Ix2 Jx = some (none, w, Ix3, Jx)) (h63 : Cl K (dx + 4) 63 [.ref (B + 2), .int (it 0), .int (it 0)] w Ix3 Jx = some (none, w, Ix4, Jx4)) (h41b : Cl K (dx + 4) 41 [.ref (B + 3), .int (it 59)] w Ix4 Jx4 = some (none, w, Ix5, Jx4)) (h51 : Cl K (dx + 4) 51 [.ref (B + 2), .int x, .int tt, .int (it (tst bs t (c + 1) : Nat))] w Ix5 Jx4 = some (none, w, Ix6, Jx4)) (h67 : Cl K (dx + 4) 67 [.ref (B + 2), .int (it 1)] w Ix6 Jx4 = some (some (.int v), w, Ix6, Jx4)) (hq : q ↔ v = tt) (h68 : Cl K (dx + 4) 68 [.ref (B + 2), .int (it (if q then 1 else 0)), .int (it (tst bs t c : Nat))] w Ix6 Jx4 = some (none, w, Ix7, Jx4)) (h53 : Cl K (dx + 4) 53 [.ref (B + 2), .int x] w Ix7 Jx4 = some (some (.int xv), w, Ix7, Jx4)) (h58 : Cl K (dx + 4) 58 [.ref (B + 2), .int (it 21), .int xv, .int (it 1), .int (it (-1))] w Ix7 Jx4 = some (none, w, Ix8, Jx8)) : Cl K (dx + 5) 62 [.ref (B + 2)] w Ix Jx = some (none, w, Ix8, Jx8) := by
  have t80 : ∀ y : Int32, y = it (if q then 1 else 0) → f_62_80 K 0 (dx + 4) (B + 2) (it (tst bs t c : Nat)) tt (it (tst bs t (c + 1) : Nat)) x (B + 2) y w Ix6 Jx4 = some (none, w, Ix8, Jx8) := by
    intro y hy
    subst hy
    unfold f_62_80
    simp only [it_lit, it_neg, gO_e (yt2 H)]
    rw [h68]
    simp only [cV_e, gO_e (yt2 H)]
    rw [h53]
    simp only [cI_e, gO_e (yt2 H)]
    rw [h58]
    rfl
  apply cl_62 (k := 0)
  unfold f_62
  simp only [it_lit, gO_e (yt2 H), gV_e (yp2_0 H), gO_e (yt3 H)]
  rw [s_44 (d := dx + 3) H hXT hX.2.1]
  simp only [cI_e, gO_e (yt2 H), gV_e (yp2_0 H), gO_e (yt3 H)]
  rw [h50]
  simp only [cI_e, gO_e (yt2 H), gV_e (yp2_0 H), gO_e (yt3 H)]
  rw [s_44 (d := dx + 3) H hXT1 hX.2.1]
  simp only [cI_e, gO_e (yt2 H), gV_e (yp2_0 H), gO_e (yt3 H)]
  rw [h45]
  simp only [cI_e, gO_e (yt2 H), gV_e (yp2_0 H), gO_e (yt3 H)]
  rw [h41]
  simp only [cV_e, gO_e (yt2 H), gV_e (yp2_0 H), gO_e (yt3 H)]
  rw [h63]
  simp only [cV_e, gO_e (yt2 H), gV_e (yp2_0 H), gO_e (yt3 H)]
  rw [h41b]
  simp only [cV_e, gO_e (yt2 H)]
  rw [h51]
  simp only [cV_e, gO_e (yt2 H)]
  rw [h67]
  simp only [cI_e]
  by_cases z : v = tt
  · rw [if_neg (fun y => y z)]
    exact t80 _ (by rw [if_pos (hq.mpr z)])
  · rw [if_pos z]
    exact t80 _ (by rw [if_neg (fun y => z (hq.mp y))])
theorem m_100 {dy cm : Nat} {z : Int} {q : Prop} [Decidable q] {pl p2 tt x ty : Int32} {wm5 : aW} {Im1 Im2 Im3 Im4 Im5 Im6 Im7 Im8 Im9 : aI} {Jm5 : aJ} (H : Lay B wm) (H5 : Lay B wm5) (f4 : f ≤ 4) (z1 : -1 ≤ z) (z2 : z < 6) (c6 : cm ≤ 6) (h95 : Cl K (dy + 8) 95 [.ref (B + 46)] wm Im Jm = some (some (.int tt), wm, Im1, Jm)) (h22 : Im1 (B + 46) 22 = p2) (h91 : Cl K (dy + 8) 91 [.ref (B + 46)] wm Im1 Jm = some (some (.int x), wm, Im2, Jm)) (h97 : Cl K (dy + 8) 97 [.ref (B + 46), .int x] wm Im2 Jm = some (some (.int (it z)), wm, Im2, Jm)) (h30 : Im2 (B + 46) 30 = it f) (hc : Im2 (B + 52) f = it cm) (h92 : Cl K (dy + 8) 92 [.ref (B + 46), .int (it (if ¬ 0 ≤ z ∧ cm < 6 then 1 else 0)), .int p2] wm Im2 Jm = some (none, wm, Im3, Jm)) (h93 : Cl K (dy + 8) 93 [.ref (B + 46), .int (it 61)] wm Im3 Jm = some (none, wm, Im4, Jm)) (h101 : Cl K (dy + 8) 101 [.ref (B + 46)] wm Im4 Jm = some (some (.int ty), wm5, Im5, Jm5)) (h93b : Cl K (dy + 8) 93 [.ref (B + 46), .int (it 59)] wm5 Im5 Jm5 = some (none, wm5, Im6, Jm5)) (hq : q ↔ ty = tt) (h110 : Cl K (dy + 8) 110 [.ref (B + 46), .int (it (if q then 1 else 0)), .int pl] wm5 Im6 Jm5 = some (none, wm5, Im7, Jm5)) (h30b : Im7 (B + 46) 30 = it f) (hcb : Im7 (B + 52) f = it cm) (h111 : Cl K (dy + 8) 111 [.ref (B + 46), .int (it 21), .int (it cm)] wm5 Im7 Jm5 = some (none, wm5, Im8, Jm5)) (h96 : Cl K (dy + 8) 96 [.ref (B + 46), .int x, .int tt, .int p2] wm5 Im8 Jm5 = some (none, wm5, Im9, Jm5)) : Cl K (dy + 9) 100 [.ref (B + 46), .int pl] wm Im Jm = some (none, wm5, Im9, Jm5) := by
  have t79 : ∀ y : Int32, y = it (if q then 1 else 0) → f_100_79 K 0 (dy + 8) (B + 46) pl tt p2 x ty (B + 46) y wm5 Im6 Jm5 = some (none, wm5, Im9, Jm5) := by
    intro y hy
    subst hy
    unfold f_100_79
    simp only [it_lit, gO_e (yt46 H5), gV_e (yp46_9 H5)]
    rw [h110]
    simp only [cV_e, gO_e (yt46 H5), gV_e (yp46_9 H5)]
    rw [h30b, gA_e (yt52 H5) (Or.inl rfl) (ix (by omega) (by omega) (by omega)), it_n (by omega), hcb, h111]
    simp only [cV_e, gO_e (yt46 H5)]
    rw [h96]
    rfl
  have t45 : ∀ y : Int32, y = it (if ¬ 0 ≤ z ∧ cm < 6 then 1 else 0) → f_100_45 K 0 (dy + 8) (B + 46) pl tt p2 x (B + 46) y wm Im2 Jm = some (none, wm5, Im9, Jm5) := by
    intro y hy
    subst hy
    unfold f_100_45
    simp only [it_lit, gO_e (yt46 H)]
    rw [h92]
    simp only [cV_e, gO_e (yt46 H)]
    rw [h93]
    simp only [cV_e, gO_e (yt46 H)]
    rw [h101]
    simp only [cI_e, gO_e (yt46 H5)]
    rw [h93b]
    simp only [cV_e]
    by_cases zz : ty = tt
    · rw [if_neg (fun y => y zz)]
      exact t79 _ (by rw [if_pos (hq.mpr zz)])
    · rw [if_pos zz]
      exact t79 _ (by rw [if_neg (fun y => zz (hq.mp y))])
  have t44 : ¬ (¬ 0 ≤ z ∧ cm < 6) → f_100_44 K 0 (dy + 8) (B + 46) pl tt p2 x (B + 46) wm Im2 Jm = some (none, wm5, Im9, Jm5) := by
    intro g
    unfold f_100_44
    simp only [it_lit]
    exact t45 _ (by rw [if_neg g])
  apply cl_100 (k := 0)
  unfold f_100
  simp only [it_lit, gO_e (yt46 H), gV_e (yp46_9 H), lt_p]
  rw [h95]
  simp only [cI_e, gO_e (yt46 H)]
  rw [h91, h22]
  simp only [cI_e, gO_e (yt46 H), gV_e (yp46_9 H)]
  rw [h97]
  simp only [cI_e, gO_e (yt46 H), gV_e (yp46_9 H)]
  by_cases e : 0 ≤ z
  · rw [if_pos ((it_le (by omega) (by omega) (by omega) (by omega)).mpr (by omega))]
    exact t44 (fun g => g.1 e)
  · rw [if_neg (fun q => by have := (it_le (by omega) (by omega) (by omega) (by omega)).mp q; omega), h30, gA_e (yt52 H) (Or.inl rfl) (ix (by omega) (by omega) (by omega)), it_n (by omega), hc]
    by_cases e6 : 6 ≤ cm
    · rw [if_pos ((it_le (by omega) (by omega) (by omega) (by omega)).mpr (by omega))]
      exact t44 (fun g => by omega)
    · rw [if_neg (fun q => by have := (it_le (by omega) (by omega) (by omega) (by omega)).mp q; omega)]
      exact t45 _ (by rw [if_pos ⟨e, by omega⟩])
theorem vix_c {v v' : Nat → Nat} {l : Nat} : ∀ k, (∀ j, j < k → v j = v' j) → vix v l k = vix v' l k := by
  intro k
  induction k with
  | zero => intro _; rfl
  | succ k ih => intro h; rw [vix, vix, ih (fun j hj => h j (by omega)), h k (by omega)]
theorem Exs_m {fa' : Nat → Nat → Nat} {ts : List Nat} (hr : ∀ g k, g ≤ f → k = 1 ∨ k = 3 → fa' g k = fa g k) (hv : ∀ v, v < fa f 2 → fa' f (4 + v) = fa f (4 + v)) (hc : fa f 2 ≤ fa' f 2) (hp : ∀ g v, g ≤ f → v < fa g 1 → fa' g (4 + v) = fa g (4 + v)) (h : Exs fa f G G1 ts b) : Exs fa' f G G1 ts b := ⟨h.1, h.2.1, h.2.2.1, h.2.2.2.1, fun p p1 p2 => ⟨gEf_m hr hv hc hp (h.2.2.2.2 p p1 p2).1, (h.2.2.2.2 p p1 p2).2⟩⟩
/-- a row of the funs with one variable more -/
def faD (fa : Nat → Nat → Nat) (f cnt ty : Nat) : Nat → Nat → Nat := fun g k => if g = f ∧ k = 2 then cnt + 1 else if g = f ∧ k = 4 + cnt then ty else fa g k
theorem faD_e {ty : Nat} : faD fa f cnt ty f 2 = cnt + 1 ∧ faD fa f cnt ty f (4 + cnt) = ty ∧ ∀ g k, ¬ (g = f ∧ k = 2) → ¬ (g = f ∧ k = 4 + cnt) → faD fa f cnt ty g k = fa g k := by
  refine ⟨by unfold faD; rw [if_pos ⟨rfl, rfl⟩], by unfold faD; rw [if_neg (by omega), if_pos ⟨rfl, rfl⟩], fun g k h1 h2 => by unfold faD; rw [if_neg h1, if_neg h2]⟩
theorem NP_d {l ty : Nat} (h : NP f cnt vn fa ln gd) (c6 : cnt < 6) (hl : l < 26) (t3 : ty ≤ 3) : NP f (cnt + 1) (sm_up1 vn cnt l) (faD fa f cnt ty) ln gd := by
  obtain ⟨p1, p2, p3, p4, p5⟩ := h
  obtain ⟨d1, d2, d3⟩ := faD_e (fa := fa) (f := f) (cnt := cnt) (ty := ty)
  refine ⟨p1, by omega, fun v hv => ?_, d1.symm, fun g => ⟨fun g' hg' => ?_, (p5 g).2⟩⟩
  · by_cases e : v = cnt
    · subst e
      rw [up1_s, d2]
      exact ⟨hl, t3⟩
    · rw [up1_n e, d3 f (4 + v) (by omega) (by omega)]
      exact p3 v (by omega)
  · obtain ⟨q1, q2, q3, q4, q5⟩ := (p5 g).1 g' hg'
    by_cases e : g' = f
    · subst e
      rw [d3 g' 1 (by omega) (by omega), d3 g' 3 (by omega) (by omega), d1]
      refine ⟨q1, by omega, by omega, q4, fun v hv => ?_⟩
      rw [d3 g' (4 + v) (by omega) (by omega)]
      exact q5 v hv
    · rw [d3 g' 1 (by omega) (by omega), d3 g' 2 (by omega) (by omega), d3 g' 3 (by omega) (by omega)]
      refine ⟨q1, q2, q3, q4, fun v hv => ?_⟩
      rw [d3 g' (4 + v) (by omega) (by omega)]
      exact q5 v hv
theorem NX_d {l ty : Nat} (ha : a = B + 8 ∨ a = B + 22) (hN : NP f cnt vn fa ln gd) (h : NX B a f cnt vn fa ln gd I) (hl : l < 26) (hz : vix vn l cnt < 0) : NX B a f (cnt + 1) (sm_up1 vn cnt l) (faD fa f cnt ty) ln gd (dX B a f l cnt (it ty) I) := by
  obtain ⟨p1, p2, p3, p4, p5⟩ := hN
  obtain ⟨x1, x2, x3, x4⟩ := h
  obtain ⟨d1, d2, d3⟩ := faD_e (fa := fa) (f := f) (cnt := cnt) (ty := ty)
  have e16 : dX B a f l cnt (it ty) I (B + 16) = sm_up1 (I (B + 16)) l (it cnt) := by unfold dX; rw [up2_n (by omega), up2_n (by omega), up2_r]
  have e6 : dX B a f l cnt (it ty) I (a + 6) = sm_up1 (I (a + 6)) (6 * f + cnt) (it ty) := by unfold dX; rw [up2_n (by omega), up2_r, up2_n (by omega)]
  have e5 : dX B a f l cnt (it ty) I (a + 5) = sm_up1 (I (a + 5)) (4 * f + 2) (it ((cnt + 1 : Nat) : Int)) := by unfold dX; rw [up2_r, up2_n (by omega), up2_n (by omega)]
  have e15 : dX B a f l cnt (it ty) I (B + 15) = I (B + 15) := by unfold dX; rw [up2_n (by omega), up2_n (by omega), up2_n (by omega)]
  have e2 : dX B a f l cnt (it ty) I (B + 2) = I (B + 2) := by unfold dX; rw [up2_n (by omega), up2_n (by omega), up2_n (by omega)]
  refine ⟨by rw [e2]; exact x1, fun l' hl' => ?_, fun v hv => ?_, fun g => ⟨by rw [e15]; exact (x4 g).1, fun g' hg' => ?_⟩⟩
  · rw [e16, vix, vix_c (v' := vn) cnt (fun j hj => up1_n (by omega)), up1_s]
    by_cases e : l' = l
    · subst e
      rw [up1_s, if_pos hz, if_pos rfl]
    · rw [up1_n e, if_neg (show ¬ l = l' from fun y => e y.symm), x2 l' hl']
      by_cases e3 : vix vn l' cnt < 0
      · rw [if_pos e3]
        have := vix_b vn l' cnt
        rw [show vix vn l' cnt = -1 by omega]
      · rw [if_neg e3]
  · rw [e6]
    by_cases e : v = cnt
    · subst e; rw [up1_s, d2]
    · rw [up1_n (by omega), d3 f (4 + v) (by omega) (by omega)]
      exact x3 v (by omega)
  · obtain ⟨y1, y2, y3⟩ := (x4 g).2 g' hg'
    obtain ⟨q1, q2, q3, q4, q5⟩ := (p5 g).1 g' hg'
    rw [e5, up1_n (by omega), up1_n (by omega), d3 g' 1 (by omega) (by omega), d3 g' 3 (by omega) (by omega)]
    refine ⟨y1, y2, fun v hv => ?_⟩
    have hvc : g' = f → v < cnt := fun y => by subst y; omega
    rw [e6, d3 g' (4 + v) (by omega) (fun y => by have := hvc y.1; omega)]
    by_cases e : g' = f
    · have := hvc e
      rw [up1_n (by omega)]; exact y3 v hv
    · rw [up1_n (by omega)]; exact y3 v hv
theorem NM_d {l ty : Nat} (hN : NP f cnt vn fa ln gd) (h : NM B f cnt vn fa ln gd I) : NM B f (cnt + 1) (sm_up1 vn cnt l) (faD fa f cnt ty) ln gd (dM B f cnt (it ((l + 97 : Nat) : Int)) (it ty) I) := by
  obtain ⟨p1, p2, p3, p4, p5⟩ := hN
  obtain ⟨x1, x2, x3, x4⟩ := h
  obtain ⟨d1, d2, d3⟩ := faD_e (fa := fa) (f := f) (cnt := cnt) (ty := ty)
  have e59 : dM B f cnt (it ((l + 97 : Nat) : Int)) (it ty) I (B + 52) = sm_up1 (I (B + 52)) f (it ((cnt + 1 : Nat) : Int)) := by unfold dM; rw [up2_r, up2_n (by omega), up2_n (by omega)]
  have e61 : dM B f cnt (it ((l + 97 : Nat) : Int)) (it ty) I (B + 54) = sm_up1 (I (B + 54)) (6 * f + cnt) (it ((l + 97 : Nat) : Int)) := by unfold dM; rw [up2_n (by omega), up2_n (by omega), up2_r]
  have e62 : dM B f cnt (it ((l + 97 : Nat) : Int)) (it ty) I (B + 55) = sm_up1 (I (B + 55)) (6 * f + cnt) (it ty) := by unfold dM; rw [up2_n (by omega), up2_r, up2_n (by omega)]
  have eo : ∀ b, b = B + 46 ∨ b = B + 49 ∨ b = B + 51 ∨ b = B + 53 → dM B f cnt (it ((l + 97 : Nat) : Int)) (it ty) I b = I b := by intro b hb; unfold dM; rw [up2_n (by omega), up2_n (by omega), up2_n (by omega)]
  refine ⟨by rw [eo _ (by omega)]; exact x1, by rw [e59, up1_s], fun v hv => ?_, fun g g' hg' => ?_⟩
  · rw [e61, e62]
    by_cases e : v = cnt
    · subst e; rw [up1_s, up1_s, d2, up1_s, Nat.add_comm]; exact ⟨rfl, rfl⟩
    · rw [up1_n (by omega), up1_n (by omega), up1_n (by omega), d3 f (4 + v) (by omega) (by omega)]
      exact x3 v (by omega)
  · obtain ⟨y1, y2, y3, y4, y5⟩ := x4 g g' hg'
    obtain ⟨q1, q2, q3, q4, q5⟩ := (p5 g).1 g' hg'
    rw [eo (B + 49) (by omega), eo (B + 51) (by omega), eo (B + 53) (by omega), e59, d3 g' 1 (by omega) (by omega), d3 g' 3 (by omega) (by omega)]
    have hvc : ∀ v, v < fa g' 1 → g' = f → v < cnt := fun v hv y => by subst y; omega
    refine ⟨y1, y2, ?_, y4, fun v hv => ?_⟩
    · by_cases e : g' = f
      · subst e; rw [up1_s, d1]
      · rw [up1_n e, d3 g' 2 (by omega) (by omega)]; exact y3
    · rw [e62, d3 g' (4 + v) (by omega) (fun y => by have := hvc v hv y.1; omega)]
      by_cases e : g' = f
      · have := hvc v hv e
        rw [up1_n (by omega)]; exact y5 v hv
      · rw [up1_n (by omega)]; exact y5 v hv
end DEC

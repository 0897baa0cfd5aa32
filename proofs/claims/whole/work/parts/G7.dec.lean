/-! a declaration: the pieces -/
section DEC
variable {K : Nat → Value} {B d e a : Nat} {w wm wm' : aW} {Ix Im I I' I'' Ix' Im' : aI} {Jx Jm J J' J'' Jx' Jm' : aJ} {bs : Nat → Nat} {t n c r s sl b op m m' : Nat} {pd dp : Int} {G G1 : gG} {Q gd Q0 : Prop} {f cnt st : Nat} {vn ln : Nat → Nat} {fa fa0 : Nat → Nat → Nat} {G0 : gG} {P P' : Nat → Prop}
/-- cells that no code and no token lies in -/
theorem JS_o (ha : a = B + 8 ∨ a = B + 22) (h1 : ∀ b, b = B + 2 ∨ b = B + 3 ∨ b = B + 4 ∨ b = B + 5 ∨ b = B + 6 ∨ b = B + 17 ∨ b = a ∨ b = a + 1 ∨ b = a + 2 → Ix' b = Ix b) (h2 : ∀ b, b = B + 46 ∨ b = B + 48 ∨ b = B + 56 ∨ b = B + 57 → Im' b = Im b) (h : JS B a bs t n pd dp c r s sl G Q Ix Jx Im) : JS B a bs t n pd dp c r s sl G Q Ix' Jx Im' := by
  obtain ⟨h, Nx, Nm, nfx, nfm, tfx, tfm, ⟨x0, xr⟩, ⟨m0, mr⟩, b1, b2, f⟩ := h
  refine ⟨h, Nx, Nm, nfx, nfm, tfx, tfm, ⟨XT_f (h1 _ (by omega)) (h1 _ (by omega)) (h1 _ (by omega)) (h1 _ (by omega)) x0, ?_⟩, ⟨MR_g (h2 _ (by omega)) (h2 _ (by omega)) m0, ?_⟩, b1, b2, fun r0 => ⟨(f r0).1, (f r0).2.imp id ?_⟩⟩
  · rw [h1 (B + 2) (by omega), h1 a (by omega)]; exact xr
  · rw [h2 (B + 46) (by omega)]; exact mr
  · rintro ⟨⟨g1, g2, g3, g4, g5, g6, ⟨w1, w2, w3, w4⟩, g8⟩, hq⟩
    refine ⟨⟨g1, g2, g3, g4, g5, g6, ⟨w1, ?_, w3, ?_⟩, ?_⟩, hq⟩
    · rw [h1 (B + 17) (by omega)]; exact w2
    · rw [h1 (a + 1) (by omega), h1 (a + 2) (by omega)]; exact w4
    · intro p; rw [h2 (B + 56) (by omega), h2 (B + 57) (by omega)]; exact g8 p
theorem s_54 {v : Nat} {ty : Int32} (hP : PL w a) (f4 : f ≤ 4) (v6 : v < 6) : Cl K (d + 1) 54 [.ref a, .int (it f), .int (it v), .int ty] w I J = some (none, w, sm_up2 I (a + 6) (6 * f + v) ty, J) := by
  obtain ⟨p0, p1, p2, p3, p4, p5, p6, q0, q1, q2, q3, q4, q5⟩ := hP
  apply cl_54 (k := 0)
  unfold f_54
  simp only [it_lit, gO_e p0, gV_e q5, lt_p, it_mul, it_add]
  rw [if_neg (fun q => by have := (it_lt (by omega) (by omega) (by omega) (by omega)).mp q; omega), gL_e p6 (by omega), it_nat, if_neg (fun q => by have := (it_le (by omega) (by omega) (by omega) (by omega)).mp q; omega), gA_e p6 (Or.inl rfl) (ix (by omega) (by omega) (by omega)), it_cl (by omega) (by omega), show ((f : Int) * 6 + v).toNat = 6 * f + v by omega]
theorem s_39 {k : Nat} {x : Int32} (hP : PL w a) (f4 : f ≤ 4) (k4 : k < 4) : Cl K (d + 1) 39 [.ref a, .int (it f), .int (it k), .int x] w I J = some (none, w, sm_up2 I (a + 5) (4 * f + k) x, J) := by
  obtain ⟨p0, p1, p2, p3, p4, p5, p6, q0, q1, q2, q3, q4, q5⟩ := hP
  apply cl_39 (k := 0)
  unfold f_39
  simp only [it_lit, gO_e p0, gV_e q4, lt_p, it_mul, it_add]
  rw [if_neg (fun q => by have := (it_lt (by omega) (by omega) (by omega) (by omega)).mp q; omega), gL_e p5 (by omega), it_nat, if_neg (fun q => by have := (it_le (by omega) (by omega) (by omega) (by omega)).mp q; omega), gA_e p5 (Or.inl rfl) (ix (by omega) (by omega) (by omega)), it_cl (by omega) (by omega), show ((f : Int) * 4 + k).toNat = 4 * f + k by omega]
/-- the class's names with one more -/
def dX (B a f l cx : Nat) (ty : Int32) (I : aI) : aI := sm_up2 (sm_up2 (sm_up2 I (B + 16) l (it cx)) (a + 6) (6 * f + cx) ty) (a + 5) (4 * f + 2) (it ((cx + 1 : Nat) : Int))
theorem s_51 {l cx : Nat} {ty pl : Int32} {In : aI} (ha : a = B + 8 ∨ a = B + 22) (H : Lay B w) (hp : w.2.1 (B + 2) 1 = some a) (f4 : f ≤ 4) (hl : l < 26) (h2 : I (B + 2) 2 = it f) (hc : I (a + 5) (4 * f + 2) = it cx) (c6 : cx ≤ 6) (h48 : Cl K (d + 2) 48 [.ref (B + 2), .int pl] w I J = some (none, w, In, J)) : Cl K (d + 3) 51 [.ref (B + 2), .int (it l), .int ty, .int pl] w I J = some (none, w, (if it 0 ≤ I (B + 16) l ∨ 6 ≤ cx then In else dX B a f l cx ty I), J) := by
  have hP : PL w a := PLx H ha
  obtain ⟨v, v1, v2⟩ := s_52g (K := K) (d := d + 1) (w := w) (I := I) (J := J) (x := it f) (k := 2) hP
  have ev : v = it cx := by rw [v2 f (by omega) (by omega) rfl]; exact hc
  subst ev
  have v1' : Cl K (d + 2) 52 [.ref a, .int (it f), .int (it 2)] w I J = some (some (.int (it cx)), w, I, J) := v1
  have t29 : f_51_29 K 0 (d + 2) (B + 2) (it l) ty pl (it cx) w I J = some (none, w, In, J) := by
    unfold f_51_29
    simp only [gO_e (yt2 H)]
    rw [h48]
    rfl
  apply cl_51 (k := 0)
  unfold f_51
  simp only [it_lit, gO_e (yt2 H), gV_e hp, gO_e hP.1, gV_e (yp2_5 H), lt_p]
  rw [h2, v1']
  simp only [cI_e, gO_e (yt2 H), gV_e (yp2_5 H)]
  rw [s_53 (d := d + 1) H hl]
  simp only [cI_e, gO_e (yt2 H), gV_e (yp2_5 H)]
  by_cases e : it 0 ≤ I (B + 16) l
  · rw [if_pos e, if_pos (Or.inl e)]
    exact t29
  · rw [if_neg e]
    by_cases e6 : 6 ≤ cx
    · rw [if_neg (fun q => by have := (it_lt (by omega) (by omega) (by omega) (by omega)).mp q; omega), if_pos (Or.inr e6)]
      exact t29
    · rw [if_pos ((it_lt (by omega) (by omega) (by omega) (by omega)).mpr (by omega)), if_neg (fun q => by have := (it_lt (by omega) (by omega) (by omega) (by omega)).mp q; omega), if_neg (fun q => by have := (it_le (by omega) (by omega) (by omega) (by omega)).mp q; omega), gA_e (yt16 H) (Or.inl rfl) (ix (by omega) (by omega) (by omega)), it_n (by omega), if_neg (fun z => z.elim e (fun z => e6 z))]
      unfold f_51_53
      simp only [it_lit, gO_e (yt2 H), gV_e hp, gO_e hP.1]
      rw [up2_n (a := B + 16) (b := B + 2) (by omega), h2, s_54 (d := d + 1) hP f4 (by omega)]
      simp only [cV_e, gO_e (yt2 H), gV_e hp, gO_e hP.1]
      rw [up2_n (a := a + 6) (b := B + 2) (by omega), up2_n (a := B + 16) (b := B + 2) (by omega), h2, it_add]
      have e39 := s_39 (K := K) (d := d + 1) (w := w) (a := a) (I := sm_up2 (sm_up2 I (B + 16) l (it cx)) (a + 6) (6 * f + cx) ty) (J := J) (f := f) (k := 2) (x := it ((cx : Int) + 1)) hP f4 (by omega)
      have e39' : Cl K (d + 2) 39 [.ref a, .int (it f), .int (it 2), .int (it ((cx : Int) + 1))] w (sm_up2 (sm_up2 I (B + 16) l (it cx)) (a + 6) (6 * f + cx) ty) J = _ := e39
      rw [e39']
      simp only [cV_e]
      unfold dX
      rw [show ((cx : Int) + 1) = ((cx + 1 : Nat) : Int) by omega]
/-- the reference's names with one more -/
def dM (B f cm : Nat) (lt ty : Int32) (I : aI) : aI := sm_up2 (sm_up2 (sm_up2 I (B + 54) (6 * f + cm) lt) (B + 55) (6 * f + cm) ty) (B + 52) f (it ((cm + 1 : Nat) : Int))
theorem s_96 {cm r : Nat} {z : Int} {lt ty pl : Int32} {In : aI} (H : Lay B w) (f4 : f ≤ 4) (z1 : -1 ≤ z) (z2 : z < 6) (c6 : cm ≤ 6) (hc : I (B + 52) f = it cm) (h30 : I (B + 46) 30 = it f) (h97 : Cl K (d + 1) 97 [.ref (B + 46), .int lt] w I J = some (some (.int (it z)), w, I, J)) (h92 : Cl K (d + 1) 92 [.ref (B + 46), .int (it (if ¬ 0 ≤ z ∧ cm < 6 then 1 else 0)), .int pl] w I J = some (none, w, In, J)) (h26 : In (B + 46) 26 = it r) (r1 : r ≤ 1) (h30n : In (B + 46) 30 = it f) (hcn : In (B + 52) f = it cm) : Cl K (d + 2) 96 [.ref (B + 46), .int lt, .int ty, .int pl] w I J = some (none, w, (if (¬ 0 ≤ z ∧ cm < 6) ∧ r = 0 then dM B f cm lt ty In else In), J) := by
  have t27 : ∀ x : Int32, x = it (if ¬ 0 ≤ z ∧ cm < 6 then 1 else 0) → f_96_27 K 0 (d + 1) (B + 46) lt ty pl x w I J = some (none, w, (if (¬ 0 ≤ z ∧ cm < 6) ∧ r = 0 then dM B f cm lt ty In else In), J) := by
    intro x hx
    subst hx
    unfold f_96_27
    simp only [it_lit, gO_e (yt46 H), gV_e (yp46_11 H), gV_e (yp46_12 H), gV_e (yp46_9 H), lt_p]
    rw [h92]
    simp only [cV_e, gO_e (yt46 H), gV_e (yp46_11 H), gV_e (yp46_12 H), gV_e (yp46_9 H)]
    by_cases g : ¬ 0 ≤ z ∧ cm < 6
    · rw [if_pos g, if_neg (by decide), h26]
      by_cases r0 : r = 0
      · rw [if_neg (fun y => y (by rw [r0]; rfl)), if_pos ⟨g, r0⟩, h30n, gA_e (yt52 H) (Or.inl rfl) (ix (by omega) (by omega) (by omega)), it_n (by omega), hcn]
        simp only [it_mul, it_add]
        rw [gA_e (yt54 H) (Or.inl rfl) (ix (by omega) (by omega) (by omega)), it_cl (a := 6 * (f : Int) + cm) (by omega) (by omega), show (6 * (f : Int) + cm).toNat = 6 * f + cm by omega]
        rw [up2_n (a := B + 54) (b := B + 46) (by omega), h30n, gA_e (yt52 H) (Or.inl rfl) (ix (by omega) (by omega) (by omega)), it_n (by omega), up2_n (a := B + 54) (b := B + 52) (by omega), hcn, it_mul, it_add, gA_e (yt55 H) (Or.inl rfl) (ix (by omega) (by omega) (by omega)), it_cl (a := 6 * (f : Int) + cm) (by omega) (by omega), show (6 * (f : Int) + cm).toNat = 6 * f + cm by omega]
        rw [up2_n (a := B + 55) (b := B + 46) (by omega), up2_n (a := B + 54) (b := B + 46) (by omega), h30n, gA_e (yt52 H) (Or.inl rfl) (ix (by omega) (by omega) (by omega)), it_n (by omega), up2_n (a := B + 55) (b := B + 52) (by omega), up2_n (a := B + 54) (b := B + 52) (by omega), hcn, it_add]
        rw [gA_e (yt52 H) (Or.inl rfl) (ix (by omega) (by omega) (by omega))]
        unfold dM
        rw [show ((cm : Int) + 1) = ((cm + 1 : Nat) : Int) by omega]
      · rw [if_pos (fun q => by have := (it_eq (by omega) (by omega) (by omega) (by omega)).mp q; omega), if_neg (fun y => r0 y.2)]
    · rw [if_neg g, if_pos rfl, if_neg (fun y => g y.1)]
  apply cl_96 (k := 0)
  unfold f_96
  simp only [it_lit, gO_e (yt46 H), gV_e (yp46_9 H)]
  rw [h97]
  simp only [cI_e, gO_e (yt46 H), gV_e (yp46_9 H)]
  by_cases e : 0 ≤ z
  · rw [if_pos ((it_le (by omega) (by omega) (by omega) (by omega)).mpr (by omega))]
    unfold f_96_26
    simp only [it_lit]
    exact t27 _ (by rw [if_neg (fun y => y.1 e)])
  · rw [if_neg (fun q => by have := (it_le (by omega) (by omega) (by omega) (by omega)).mp q; omega), h30, gA_e (yt52 H) (Or.inl rfl) (ix (by omega) (by omega) (by omega)), it_n (by omega), hc]
    by_cases e6 : 6 ≤ cm
    · rw [if_pos ((it_le (by omega) (by omega) (by omega) (by omega)).mpr (by omega))]
      unfold f_96_26
      simp only [it_lit]
      exact t27 _ (by rw [if_neg (fun y => by omega)])
    · rw [if_neg (fun q => by have := (it_le (by omega) (by omega) (by omega) (by omega)).mp q; omega)]
      exact t27 _ (by rw [if_pos ⟨e, by omega⟩])
/-- the reference notes a declaration that is wrong; the class will later -/
theorem JS_pd {p : Nat} (Hm : Lay B wm) (h : JS B a bs t n (-1) dp c r s sl G Q Ix Jx Im) (hpp : p ≤ 240) : ∃ Im', Cl K (e + 1) 92 [.ref (B + 46), .int (it 0), .int (it p)] wm Im Jm = some (none, wm, Im', Jm) ∧ FMx B wm.2.2.1 Im Jm Im' Jm ∧ JS B a bs t n p dp c r s sl G False Ix Jx Im' := by
  obtain ⟨h, Nx, Nm, nfx, nfm, tfx, tfm, x, m, b1, b2, f⟩ := h
  obtain ⟨Im', v1, v2, v3, v4, v5⟩ := s_92 (K := K) (d := e) (J := Jm) (p := p) (m := wm.2.2.1) False Hm m hpp
  refine ⟨Im', v1, v2, _, _, _, _, _, _, _, x, v3, b1, b2, fun r0 => ?_⟩
  obtain ⟨⟨f1, f2⟩, f3⟩ := f r0
  have hx := x.2.2.1
  have e : mN r False nfm p = mm nfx p := by
    unfold mN
    rw [if_pos ⟨r0, fun z => z⟩, f1]
    unfold mm mnf
    split <;> (try split) <;> (try split) <;> omega
  rw [e]
  refine ⟨⟨rfl, f2⟩, Or.inl (Or.inl ?_)⟩
  unfold mm
  split <;> (try split) <;> (try split) <;> omega
/-- the class notes it now -/
theorem JS_dp {p : Nat} (ha : a = B + 8 ∨ a = B + 22) (H : Lay B w) (Hm : Lay B wm) (h : JS B a bs t n p dp c r s sl G Q Ix Jx Im) (hpp : p ≤ 240) : ∃ Ix' Im', Cl K (d + 1) 48 [.ref (B + 2), .int (it p)] w Ix Jx = some (none, w, Ix', Jx) ∧ Cl K (e + 1) 92 [.ref (B + 46), .int (it 0), .int (it p)] wm Im Jm = some (none, wm, Im', Jm) ∧ FEx B a Ix Jx Ix' Jx ∧ FMx B wm.2.2.1 Im Jm Im' Jm ∧ JS B a bs t n (-1) dp c r s sl G False Ix' Jx Im' := by
  obtain ⟨h, Nx, Nm, nfx, nfm, tfx, tfm, x, m, b1, b2, f⟩ := h
  obtain ⟨Ix', y1, y2, y3, y4, y5, y6⟩ := s_48 (K := K) (d := d) (J := Jx) (p := p) ha H x hpp
  obtain ⟨Im', v1, v2, v3, v4, v5⟩ := s_92 (K := K) (d := e) (J := Jm) (p := p) (m := wm.2.2.1) False Hm m hpp
  refine ⟨Ix', Im', y1, v1, y2, v2, _, _, _, _, _, _, _, y3, v3, b1, b2, fun r0 => ?_⟩
  obtain ⟨⟨f1, f2⟩, f3⟩ := f r0
  have hx := x.2.2.1
  have e : mN r False nfm p = mnf nfx p := by
    unfold mN
    rw [if_pos ⟨r0, fun z => z⟩, f1]
    unfold mm mnf
    split <;> (try split) <;> (try split) <;> (try split) <;> omega
  have g0 : 0 ≤ mnf nfx p := by unfold mnf; split <;> (try split) <;> omega
  rw [e]
  refine ⟨⟨?_, fun z => ?_⟩, Or.inl (Or.inl g0)⟩
  · unfold mm
    rw [if_neg (by omega), if_pos (by omega)]
  · have := f2 z
    unfold mnf
    split <;> (try split) <;> omega
end DEC

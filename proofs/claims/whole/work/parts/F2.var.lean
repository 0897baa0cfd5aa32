/-! a variable, and E in brackets -/
section ONE
variable {K : Nat → Value} {B d e a : Nat} {w wm : aW} {Ix Im I : aI} {Jx Jm J : aJ} {bs : Nat → Nat} {t n c r s sl b : Nat} {pd dp : Int} {G : gG} {Q gd : Prop} {f cnt : Nat} {vn ln : Nat → Nat} {fa : Nat → Nat → Nat}
theorem m_114 {v : Int} {lt pl : Int32} {I' : aI} (H : Lay B w) (v1 : -1 ≤ v) (v2 : v < 1000) (h97 : Cl K (d + 1) 97 [.ref (B + 46), .int lt] w I J = some (some (.int (it v)), w, I, J)) (h92 : Cl K (d + 1) 92 [.ref (B + 46), .int (it (if 0 ≤ v then 1 else 0)), .int pl] w I J = some (none, w, I', J)) : Cl K (d + 2) 114 [.ref (B + 46), .int lt, .int pl] w I J = some (some (.int (it (if 0 < v then v else 0))), w, I', J) := by
  have t16 : ∀ x : Int32, x = it (if 0 ≤ v then 1 else 0) → f_114_16 K 0 (d + 1) (B + 46) lt pl (it v) (B + 46) x w I J = some (some (.int (it (if 0 < v then v else 0))), w, I', J) := by
    intro x hx
    subst hx
    unfold f_114_16
    simp only [it_lit, gO_e (yt46 H)]
    rw [h92]
    simp only [cV_e]
    by_cases e : 0 < v
    · rw [if_pos ((it_lt (by omega) (by omega) (by omega) (by omega)).mpr (by omega)), if_pos e]
    · rw [if_neg (fun q => by have := (it_lt (by omega) (by omega) (by omega) (by omega)).mp q; omega), if_neg e]
  apply cl_114 (k := 0)
  unfold f_114
  simp only [it_lit, gO_e (yt46 H)]
  rw [h97]
  simp only [cI_e]
  by_cases e : v < 0
  · rw [if_pos ((it_lt (by omega) (by omega) (by omega) (by omega)).mpr (by omega))]
    exact t16 _ (by rw [if_neg (by omega)])
  · rw [if_neg (fun q => by have := (it_lt (by omega) (by omega) (by omega) (by omega)).mp q; omega)]
    exact t16 _ (by rw [if_pos (by omega)])
theorem m_115 {v : Nat} (H : Lay B w) (h30 : I (B + 46) 30 = it f) (f4 : f ≤ 4) (v6 : v < 6) : Cl K (d + 1) 115 [.ref (B + 46), .int (it v)] w I J = some (some (.int (I (B + 55) (6 * f + v))), w, I, J) := by
  apply cl_115 (k := 0)
  unfold f_115
  simp only [it_lit, gO_e (yt46 H), gV_e (yp46_12 H)]
  rw [h30]
  simp only [it_mul, it_add]
  rw [gA_e (yt55 H) (Or.inl rfl) (ix (by omega) (by omega) (by omega)), it_cl (a := 6 * (f : Int) + v) (by omega) (by omega), show (6 * (f : Int) + v).toNat = 6 * f + v by omega]
theorem x_45 {dx v : Nat} {vi : Int} {gt sx pl : Int32} {Ix2 : aI} {Jx2 : aJ} (H : Lay B w) (hp : w.2.1 (B + 2) 1 = some a) (hP : PL w a) (h2 : I (B + 2) 2 = it f) (h70 : Cl K (dx + 3) 70 [.ref a, .int (it f), .int (it vi)] w I J = some (some (.int gt), w, I, J)) (h58 : Cl K (dx + 3) 58 [.ref (B + 2), .int (it ((3 : Nat) : Int)), .int (it vi), .int (it ((0 : Nat) : Int)), .int gt] w I J = some (none, w, Ix2, Jx2)) : f_69_45 K v (dx + 3) (B + 2) sx pl (it 0) (it vi) w I J = some (none, w, Ix2, Jx2) := by
  unfold f_69_45
  simp only [it_lit, gO_e (yt2 H), gV_e hp, gO_e hP.1]
  rw [h2, h70]
  simp only [cI_e, gO_e (yt2 H)]
  have h58' : Cl K (dx + 3) 58 [.ref (B + 2), .int (it 3), .int (it vi), .int (it 0), .int gt] w I J = some (none, w, Ix2, Jx2) := h58
  rw [h58']
  rfl
theorem x_45l {k dx : Nat} {x sx pl x2 x3 : Int32} : f_69_45 K k dx (B + 2) sx pl x2 x w I J = f_69_45 K k dx (B + 2) sx pl x3 x w I J := rfl
theorem x_69v {dx l : Nat} {vi : Int} {sx : Int32} {Ix1 Ix2 Ix3 : aI} {Jx3 : aJ} (hX : TX bs t n) (H : Lay B w) (hXT : XT B bs t n c 0 Ix) (hl : l < 26) (v1 : -1 ≤ vi) (v2 : vi < 1000) (h45 : Cl K (dx + 3) 45 [.ref (B + 3)] w Ix Jx = some (some (.int (it l)), w, Ix1, Jx)) (hXT1 : XT B bs t n (c + 1) 0 Ix1) (h40 : ¬ kX bs t (c + 1) 0 = 40) (h53 : Ix1 (B + 16) l = it vi) (h48 : (0 ≤ vi ∧ Ix2 = Ix1) ∨ (vi < 0 ∧ Cl K (dx + 3) 48 [.ref (B + 2), .int (it (tst bs t c : Nat))] w Ix1 Jx = some (none, w, Ix2, Jx))) (h : f_69_45 K 0 (dx + 3) (B + 2) sx (it (tst bs t c : Nat)) (it 0) (it vi) w Ix2 Jx = some (none, w, Ix3, Jx3)) : Cl K (dx + 4) 69 [.ref (B + 2), .int sx] w Ix Jx = some (none, w, Ix3, Jx3) := by
  have hkb := kX_b (bs := bs) (t := t) (c := c + 1) (r := 0)
  rw [x_45l (x3 := it l)] at h
  apply cl_69 (k := 0)
  unfold f_69
  simp only [it_lit, gO_e (yt2 H), gV_e (yp2_0 H), gO_e (yt3 H)]
  rw [s_44 (d := dx + 2) H hXT hX.2.1]
  simp only [cI_e, gO_e (yt2 H), gV_e (yp2_0 H), gO_e (yt3 H)]
  rw [h45]
  simp only [cI_e, gO_e (yt2 H), gV_e (yp2_0 H), gO_e (yt3 H)]
  rw [s_37 (d := dx + 2) H hXT1 hX.2.1]
  simp only [cI_e, gO_e (yt2 H), gV_e (yp2_0 H), gO_e (yt3 H)]
  rw [if_neg (fun q => by have := (it_eq (by omega) (by omega) (by omega) (by omega)).mp q; omega), s_53 (d := dx + 2) H hl, h53]
  simp only [cI_e, gO_e (yt2 H)]
  rcases h48 with ⟨e1, e2⟩ | ⟨e1, e2⟩
  · subst e2
    rw [if_pos ((it_le (by omega) (by omega) (by omega) (by omega)).mpr (by omega))]
    exact h
  · rw [if_neg (fun q => by have := (it_le (by omega) (by omega) (by omega) (by omega)).mp q; omega), e2]
    exact h
theorem O_v {dx dy : Nat} {sx : Int32} (ha : a = B + 8 ∨ a = B + 22) (hX : TX bs t n) (H : Lay B w) (hp : w.2.1 (B + 2) 1 = some a) (hNP : NP f cnt vn fa ln gd) (hNX : NX B a f cnt vn fa ln gd Ix) (hNM : NM B f cnt vn fa ln gd Im) (hS : SM K B wm Im) (h : JS B a bs t n pd dp c 0 s sl G Q Ix Jx Im) (hk : kX bs t c 0 = 1) (hk1 : ¬ kX bs t (c + 1) 0 = 40) (hQ : Q → (G.2.2.2 G.1).length < 120) : Cnc B a bs t n pd dp w f fa (Cl K (dx + 4) 69 [.ref (B + 2), .int sx] w Ix Jx) (Cl K (dy + 9) 112 [.ref (B + 46)] wm Im Jm) s b c sl G Q Ix Jx wm Im Jm := by
  obtain ⟨hcn, _, hXT, hMR⟩ := JS_c h
  obtain ⟨np1, np2, np3, np4, _⟩ := hNP
  have hP : PL w a := PLx H ha
  have hn := hX.2.1
  have htc : tst bs t c ≤ 240 := by have := tst_t bs t c; have := hX.1; omega
  obtain ⟨l1, l2, l3, l4⟩ := nam_l (bs := bs) (t := t) (c := c) (by unfold kX at hk; rw [if_pos rfl] at hk; exact hk)
  obtain ⟨_, hcn1, _⟩ := kX_n hX hcn hk (by omega) (by omega)
  obtain ⟨Ix1, x1, x2, x3⟩ := s_45 (K := K) (d := dx + 1) (J := Jx) hX H hXT
  obtain ⟨Im1, m1, m2, m3⟩ := s_91 (K := K) (d := dy) (J := Jm) hX hS.1 hS.2.1 hS.2.2.1 hMR
  unfold nxC nxR at x2 m3
  rw [if_pos hk, if_pos hk] at x2 m3
  rw [if_pos hk] at x1 m1
  have hJ1 : JS B a bs t n pd dp (c + 1) 0 s (sl + 1) G Q Ix1 Jx Im1 := JS_k ha h x3 x2 m2 m3 (by omega) (fun z => z)
  have fx1 : FEx B a Ix Jx Ix1 Jx := FX3_E ha x3
  have fm1 : FMx B wm.2.2.1 Im Jm Im1 Jm := FMx_6 m2
  have hS1 := SM_f (WG_r (k := 0)) fm1 hS
  have hNX1 := NX_f ha fx1 hNX
  have hNM1 := NM_f hS.2.2.2 fm1 hNM
  have hvb := vix_b vn (tvl bs t c) cnt
  obtain ⟨z, z1, z2, z3, z4⟩ := s_97 (K := K) (d := dy + 6) (J := Jm) (lt := it ((tvl bs t c + 97 : Nat) : Int)) hS1.1 hNM1.1 np1 hNM1.2.1 np2
  have hz : z = vix vn (tvl bs t c) cnt := z4 vn (tvl bs t c) (fun v hv => ⟨(np3 v hv).1, (hNM1.2.2.1 v hv).1⟩) (by omega) (by rw [Nat.add_comm])
  subst hz
  have h53 := hNX1.2.1 (tvl bs t c) (by omega)
  by_cases hv : 0 ≤ vix vn (tvl bs t c) cnt
  · obtain ⟨v, hve⟩ : ∃ v : Nat, vix vn (tvl bs t c) cnt = v := ⟨(vix vn (tvl bs t c) cnt).toNat, by omega⟩
    rw [hve] at z1 z2 z3 h53 hv
    obtain ⟨gt, t1, t2⟩ := s_70g (K := K) (d := dx + 2) (I := Ix1) (J := Jx) (x := it f) (y := it ((v : Nat) : Int)) hP
    have gte : gt = it (fa f (4 + v) : Nat) := by rw [t2 f v (by omega) (by omega) rfl rfl]; exact hNX1.2.2.1 v (by omega)
    subst gte
    have t3 := (np3 v (by omega)).2
    obtain ⟨Im2, u1, u2, u3⟩ := JS_nd (K := K) (e := dy + 6) (Jm := Jm) (p := tst bs t c) (0 ≤ (v : Int)) hS1.1 hJ1 htc (fun _ => Or.inl hv)
    have hS2 := SM_f (WG_r (k := 0)) u2 hS1
    obtain ⟨Ix3, Jx3, Im3, v1, v2, v3, v4, v5⟩ := JS_em (K := K) (d := dx + 1) (e := dy + 7) (Jm := Jm) (o := 3) (g := v) (k := 0) (gx := it ((v : Nat) : Int)) (gm := it ((v : Nat) : Int)) (tyx := it (fa f (4 + v) : Nat)) (b := true) ha H hp hS2.1 u3 hn (by omega) ⟨fun _ => (fun q => by have := (it_eq (by omega) (by omega) (by omega) (by omega)).mp q; omega), fun _ => rfl⟩ (fa f (4 + v)) [] (G.2.2.2 G.1) (fun q => ⟨rfl, rfl, rfl, rfl, by have := hQ q.1; omega, fun _ => ⟨rfl, t3⟩⟩)
    have hNM3 := NM_f hS.2.2.2 (FMx_t (Nat.le_refl _) (FMx_t (Nat.le_refl _) fm1 u2) v4) hNM
    have e114 := m_114 (d := dy + 6) (J := Jm) (pl := it (tst bs t c : Nat)) hS1.1 (by omega) (by omega) z1 u1
    have ev : (if (0 : Int) < (v : Int) then (v : Int) else 0) = (v : Int) := by split <;> omega
    rw [ev] at e114
    have e115 := m_115 (K := K) (d := dy + 7) (J := Jm) (v := v) (f := f) hS2.1 hNM3.1 np1 (by omega)
    rw [(hNM3.2.2.1 v (by omega)).2] at e115
    exact ⟨c + 1, 0, _, fa f (4 + v), _, Ix3, Jx3, wm, Im3, Jm, x_69v hX H hXT (by omega) (by omega) (by omega) x1 x2 hk1 h53 (Or.inl ⟨hv, rfl⟩) (x_45 H hp hP hNX1.1 t1 v1), m_112h hX hS.1 hMR (by omega) (m_63V hX hS.1 hMR (by omega) (by omega) m1 m3 hk1 e114 v2 e115), FEx_t fx1 v3, FMx_t (Nat.le_refl _) (FMx_t (Nat.le_refl _) fm1 u2) v4, WG_r, by omega, fun _ => by omega, fun z => by omega, JS_m (fun q => ⟨q.1, Ext_b (by omega) (Ext_1 (Or.inr (Or.inr (Or.inr (Or.inl ⟨rfl, by omega, rfl⟩)))) (by omega) (by omega)), t3, rfl⟩) (Nat.le_refl _) v5⟩
  · have hve : vix vn (tvl bs t c) cnt = -1 := by omega
    rw [hve] at z1 z2 z3 h53 hv
    obtain ⟨Ix2, Im2, p1, p2, p3, p4, p5⟩ := JS_nm (K := K) (d := dx + 2) (e := dy + 6) (Jm := Jm) (p := tst bs t c) False ha H hS1.1 hJ1 htc (fun q => q)
    have hS2 := SM_f (WG_r (k := 0)) p4 hS1
    have hNX2 := NX_f ha p3 hNX1
    obtain ⟨gt, t1, t2⟩ := s_70g (K := K) (d := dx + 2) (I := Ix2) (J := Jx) (x := it f) (y := it (-1)) hP
    obtain ⟨Ix3, Jx3, Im3, v1, v2, v3, v4, v5⟩ := JS_em (K := K) (d := dx + 1) (e := dy + 7) (Jm := Jm) (o := 3) (g := 0) (k := 0) (gx := it (-1)) (gm := it 0) (tyx := gt) (b := decide (¬ gt = it (-1))) ha H hp hS2.1 p5 hn (by omega) (by simp) 0 [] (G.2.2.2 G.1) (fun q => q.elim)
    have hNM3 := NM_f hS.2.2.2 (FMx_t (Nat.le_refl _) (FMx_t (Nat.le_refl _) fm1 p4) v4) hNM
    have e114 := m_114 (d := dy + 6) (J := Jm) (pl := it (tst bs t c : Nat)) (I' := Im2) hS1.1 (by omega) (by omega) z1 (by rw [if_neg (by omega)]; exact p2)
    rw [if_neg (by omega)] at e114
    have e115 := m_115 (K := K) (d := dy + 7) (J := Jm) (v := 0) (f := f) hS2.1 hNM3.1 np1 (by omega)
    exact ⟨c + 1, 0, _, 0, _, Ix3, Jx3, wm, Im3, Jm, x_69v hX H hXT (by omega) (by omega) (by omega) x1 x2 hk1 h53 (Or.inr ⟨by omega, p1⟩) (x_45 H hp hP hNX2.1 t1 v1), m_112h hX hS.1 hMR (by omega) (m_63V hX hS.1 hMR (by omega) (by omega) m1 m3 hk1 e114 v2 e115), FEx_t (FEx_t fx1 p3) v3, FMx_t (Nat.le_refl _) (FMx_t (Nat.le_refl _) fm1 p4) v4, WG_r, by omega, fun _ => by omega, fun z => by omega, JS_m (fun q => q.elim) (Nat.le_refl _) v5⟩
/-- E in brackets -/
theorem O_p {dx dy b1 : Nat} {X : Option aR} (ha : a = B + 8 ∨ a = B + 22) (hX : TX bs t n) (H : Lay B w) (hb : b1 ≤ b)
    (hE : Con K B a bs t n pd dp w f cnt vn fa ln gd (fun Ix Jx => Cl K (dx + 4) 63 [.ref (B + 2), .int (it ((0 : Nat) : Int)), .int (it ((s : Nat) : Int))] w Ix Jx) (fun wm Im Jm => Cl K (dy + 8) 101 [.ref (B + 46)] wm Im Jm) s b1)
    (hO : StO K B w Ix) (hNX : NX B a f cnt vn fa ln gd Ix) (hNM : NM B f cnt vn fa ln gd Im) (hS : SM K B wm Im) (h : JS B a bs t n pd dp c 0 s sl G Q Ix Jx Im) (hk : kX bs t c 0 = 40) (hQ : Q → gd ∧ 2 * (G.2.2.2 G.1).length ≤ c) (hD : gd ∨ (0 ≤ dp ∧ dp ≤ tst bs t c))
    (hx : ∀ Ix1 Ix2 Jx2 Ix3, Cl K (dx + 4) 42 [.ref (B + 3)] w Ix Jx = some (none, w, Ix1, Jx) → Cl K (dx + 4) 63 [.ref (B + 2), .int (it ((0 : Nat) : Int)), .int (it ((s : Nat) : Int))] w Ix1 Jx = some (none, w, Ix2, Jx2) → Cl K (dx + 4) 41 [.ref (B + 3), .int (it 41)] w Ix2 Jx2 = some (none, w, Ix3, Jx2) → X = some (none, w, Ix3, Jx2)) : Cnc B a bs t n pd dp w f fa X (Cl K (dy + 9) 112 [.ref (B + 46)] wm Im Jm) s b c sl G Q Ix Jx wm Im Jm := by
  obtain ⟨hcn, _, hXT, hMR⟩ := JS_c h
  obtain ⟨hc, Ix1, Im1, x1, m1, fx1, fm1, hJ1⟩ := JS_nx (K := K) (d := dx + 3) (e := dy + 2) (Jm := Jm) ha hX H hS h (by omega) (by omega)
  have hS1 := SM_f (WG_r (k := 0)) fm1 hS
  obtain ⟨c2, r2, G2, τ2, ty2, Ix2, Jx2, wm2, Im2, Jm2, y1, y2, y3, y4, y5, y6, y7, y8, y9⟩ := hE (c + 1) (sl + 1) G Q Ix1 Jx wm Im1 Jm (StO_F ha fx1 hO) (NX_f ha fx1 hNX) hS1 (NM_f hS.2.2.2 fm1 hNM) hJ1 (fun z => ⟨(hQ z).1, by have := (hQ z).2; omega⟩) (hD.imp id (fun z => ⟨z.1, by have := tst_m hX (show c ≤ c + 1 by omega) hc; omega⟩))
  have hS2 : SM K B wm2 Im2 := SM_f y5 y4 hS1
  obtain ⟨Ix3, Im3, t1, t2, fx3, fm3, hJ3⟩ := JS_tk (K := K) (d := dx + 2) (e := dy) (Jm := Jm2) (k := 41) (by decide) ha hX H hS2 y9
  have hnx := nxC_b (bs := bs) (t := t) (c := c2) (r := r2) (k := 41)
  exact ⟨nxC bs t c2 r2 41, nxR bs t c2 r2 41, G2, τ2, ty2, Ix3, Jx2, wm2, Im3, Jm2, hx _ _ _ _ x1 y1 t1, m_112h hX hS.1 hMR (by omega) (m_63P hX hS.1 hS2.1 hMR (by omega) hk m1 y2 t2), FEx_t (FEx_t fx1 y3) fx3, FMx_t (Nat.le_refl _) (FMx_t (Nat.le_refl _) fm1 y4) (FMx_w y5.2.1 fm3), WG_k (by omega) y5, by omega, fun _ => by omega, fun z => by omega, JS_m (fun z => ⟨z.1, Ext_b hb z.2.1, z.2.2⟩) (by omega) hJ3⟩
end ONE

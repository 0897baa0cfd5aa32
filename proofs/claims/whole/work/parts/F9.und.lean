/-! UNDER, and all of E -/
section UND
variable {K : Nat → Value} {B d e a : Nat} {w wm : aW} {Ix Im I : aI} {Jx Jm J : aJ} {bs : Nat → Nat} {t n c r s sl b : Nat} {pd dp : Int} {G G1 : gG} {Q gd : Prop} {f cnt : Nat} {vn ln : Nat → Nat} {fa : Nat → Nat → Nat}
theorem m_108o {dy o : Nat} {Ia Im1 Im2 Im3 Im4 : aI} {wm2 : aW} {Jm2 : aJ} {ty2 at0 : Int32} (H : Lay B wm) (H2 : Lay B wm2) (o5 : 5 ≤ o) (o10 : o ≤ 10) (a1 : Cl K (dy + 8) 102 [.ref (B + 46)] wm Im Jm = some (some (.int (it 0)), wm, Ia, Jm)) (h29 : Ia (B + 46) 29 = it s) (h109 : Cl K (dy + 8) 109 [.ref (B + 46)] wm (sm_up2 Ia (B + 46) 29 (it ((s + 1 : Nat) : Int))) Jm = some (some (.int (it o)), wm, sm_up2 Ia (B + 46) 29 (it ((s + 1 : Nat) : Int)), Jm)) (h22 : sm_up2 Ia (B + 46) 29 (it ((s + 1 : Nat) : Int)) (B + 46) 22 = at0) (h84 : Cl K (dy + 8) 84 [.ref (B + 46)] wm (sm_up2 Ia (B + 46) 29 (it ((s + 1 : Nat) : Int))) Jm = some (none, wm, Im1, Jm)) (h108 : Cl K (dy + 8) 108 [.ref (B + 46)] wm Im1 Jm = some (some (.int ty2), wm2, Im2, Jm2)) (h110 : Cl K (dy + 8) 110 [.ref (B + 46), .int (it (if ty2 = it (uo o : Nat) then 1 else 0)), .int at0] wm2 Im2 Jm2 = some (none, wm2, Im3, Jm2)) (h111 : Cl K (dy + 8) 111 [.ref (B + 46), .int (it o), .int (it 0)] wm2 Im3 Jm2 = some (none, wm2, Im4, Jm2)) (h9 : Im4 (B + 46) 29 = it ((s + 1 : Nat) : Int)) : Cl K (dy + 9) 108 [.ref (B + 46)] wm Im Jm = some (some (.int (it (po o : Nat))), wm2, sm_up2 Im4 (B + 46) 29 (it s), Jm2) := by
  have t91 : ∀ x : Int32, x = it (if ty2 = it (uo o : Nat) then 1 else 0) → f_108_91 K 0 (dy + 8) (B + 46) (it o) at0 ty2 (B + 46) x wm2 Im2 Jm2 = some (some (.int (it (po o : Nat))), wm2, sm_up2 Im4 (B + 46) 29 (it s), Jm2) := by
    intro x hx
    subst hx
    unfold f_108_91
    simp only [it_lit, gO_e (yt46 H2)]
    rw [h110]
    simp only [cV_e, gO_e (yt46 H2)]
    rw [h111]
    simp only [cV_e]
    have t132 : ∀ x : Int32, f_108_132 K 0 (dy + 8) (B + 46) (it o) at0 ty2 x wm2 Im4 Jm2 = some (some (.int x), wm2, sm_up2 Im4 (B + 46) 29 (it s), Jm2) := by
      intro x
      unfold f_108_132
      exact m_203 H2 h9
    simp only [t132]
    have oo : o = 5 ∨ o = 6 ∨ o = 7 ∨ o = 8 ∨ o = 9 ∨ o = 10 := by omega
    rcases oo with rfl | rfl | rfl | rfl | rfl | rfl
    · rw [if_pos (by decide), if_pos (by decide), if_pos (by decide)]; rfl
    · rw [if_neg (by decide)]; rfl
    · rw [if_pos (by decide), if_pos (by decide), if_pos (by decide)]; rfl
    · rw [if_pos (by decide), if_pos (by decide), if_pos (by decide)]; rfl
    · rw [if_pos (by decide), if_neg (by decide)]; rfl
    · rw [if_pos (by decide), if_pos (by decide), if_neg (by decide)]; rfl
  have t83 : ∀ x : Int32, x = it (uo o : Nat) → f_108_83 K 0 (dy + 8) (B + 46) (it o) at0 ty2 (B + 46) ty2 x wm2 Im2 Jm2 = some (some (.int (it (po o : Nat))), wm2, sm_up2 Im4 (B + 46) 29 (it s), Jm2) := by
    intro x hx
    subst hx
    unfold f_108_83
    simp only [it_lit]
    by_cases z : ty2 = it (uo o : Nat)
    · rw [if_neg (fun q => q z)]
      exact t91 _ (by rw [if_pos z])
    · rw [if_pos z]
      exact t91 _ (by rw [if_neg z])
  have t78 : uo o = 3 → f_108_78 K 0 (dy + 8) (B + 46) (it o) at0 ty2 (B + 46) ty2 wm2 Im2 Jm2 = some (some (.int (it (po o : Nat))), wm2, sm_up2 Im4 (B + 46) 29 (it s), Jm2) := by
    intro h3
    unfold f_108_78
    simp only [it_lit]
    exact t83 _ (by rw [h3]; rfl)
  apply cl_108 (k := 0)
  unfold f_108
  simp only [it_lit, gO_e (yt46 H)]
  rw [a1]
  simp only [cI_e, gO_e (yt46 H)]
  rw [if_pos trivial, lt_p, h29, it_add, show (s : Int) + 1 = ((s + 1 : Nat) : Int) by omega, h109]
  simp only [cI_e, gO_e (yt46 H)]
  rw [if_neg (fun q => by have := (it_le (by omega) (by omega) (by omega) (by omega)).mp q; omega), lt_p, h22, h84]
  simp only [cV_e, gO_e (yt46 H)]
  rw [h108]
  simp only [cI_e]
  have oo : o = 5 ∨ o = 6 ∨ o = 7 ∨ o = 8 ∨ o = 9 ∨ o = 10 := by omega
  rcases oo with rfl | rfl | rfl | rfl | rfl | rfl
  · rw [if_pos (by decide), if_pos (by decide), if_neg (by decide), if_pos (by decide)]; exact t83 _ rfl
  · rw [if_neg (by decide)]; exact t83 _ rfl
  · rw [if_pos (by decide), if_neg (by decide)]; exact t83 _ rfl
  · rw [if_pos (by decide), if_pos (by decide), if_pos (by decide)]; exact t78 rfl
  · rw [if_pos (by decide), if_pos (by decide), if_neg (by decide), if_neg (by decide)]; exact t78 rfl
  · rw [if_pos (by decide), if_pos (by decide), if_neg (by decide), if_pos (by decide)]; exact t83 _ rfl
theorem m_108k {dy : Nat} {Ia Im1 : aI} {wm1 : aW} {Jm1 : aJ} {ty : Int32} {R : aR} (H : Lay B wm) (a1 : Cl K (dy + 8) 102 [.ref (B + 46)] wm Im Jm = some (some (.int (it 0)), wm, Ia, Jm)) (h29 : Ia (B + 46) 29 = it s) (h109 : Cl K (dy + 8) 109 [.ref (B + 46)] wm (sm_up2 Ia (B + 46) 29 (it ((s + 1 : Nat) : Int))) Jm = some (some (.int (it 0)), wm, sm_up2 Ia (B + 46) 29 (it ((s + 1 : Nat) : Int)), Jm)) (h112 : Cl K (dy + 8) 112 [.ref (B + 46)] wm (sm_up2 Ia (B + 46) 29 (it ((s + 1 : Nat) : Int))) Jm = some (some (.int ty), wm1, Im1, Jm1)) (h : f_108_141 K 300 (dy + 8) (B + 46) (it 0) ty wm1 Im1 Jm1 = some R) : Cl K (dy + 9) 108 [.ref (B + 46)] wm Im Jm = some R := by
  apply cl_108 (k := 300)
  unfold f_108
  simp only [it_lit, gO_e (yt46 H)]
  rw [a1]
  simp only [cI_e, gO_e (yt46 H)]
  rw [if_pos trivial, lt_p, h29, it_add, show (s : Int) + 1 = ((s + 1 : Nat) : Int) by omega, h109]
  simp only [cI_e, gO_e (yt46 H)]
  rw [if_pos (by decide), h112]
  exact h
theorem U_8 {dx dy : Nat} (ha : a = B + 8 ∨ a = B + 22) (H : Lay B w) (hX : TX bs t n) : Con K B a bs t n pd dp w f cnt vn fa ln gd (fun Ix Jx => Cl K (dx + 5) 64 [.ref (B + 2), .int (it ((8 : Nat) : Int))] w Ix Jx) (fun wm Im Jm => Cl K (dy + 8) 108 [.ref (B + 46)] wm Im Jm) 8 b := by
  intro c sl G Q Ix Jx wm Im Jm hO hNX hS hNM hJ hQ hD
  obtain ⟨hcn, hr1, hXT, hMR⟩ := JS_c hJ
  obtain ⟨Ix1, x1, x2, x3⟩ := s_43 (K := K) (d := dx + 3) (J := Jx) H hXT
  obtain ⟨Im1, m1, m2, m3⟩ := s_102b (K := K) (d := dy + 6) (J := Jm) hS.1 hMR (JS_s (s' := 8) (by omega) hJ).2 (Or.inr rfl)
  refine ⟨c, 1, G, 0, it 0, Ix1, Jx, wm, Im1, Jm, ?_, ?_, FX3_E ha x3, FMx_6 m2, WG_r, Nat.le_refl _, fun z => by omega, fun _ => ⟨rfl, rfl⟩, JS_Q rfl (JS_k (sl' := sl) ha hJ x3 x2 m2 m3 (by omega) (fun z => by omega))⟩
  · apply cl_64 (k := 0)
    unfold f_64
    simp only [it_lit]
    rw [if_neg (by decide)]
    simp only [gO_e (yt2 H), gV_e (yp2_0 H), gO_e (yt3 H)]
    rw [x1]
    rfl
  · apply cl_108 (k := 0)
    unfold f_108
    simp only [it_lit, gO_e (yt46 hS.1)]
    rw [m1]
    simp only [cI_e]
    rw [if_neg (by decide)]
theorem U_s {dx dy bE bU D : Nat} (ha : a = B + 8 ∨ a = B + 22) (hX : TX bs t n) (H : Lay B w) (hp : w.2.1 (B + 2) 1 = some a) (hNP : NP f cnt vn fa ln gd) (hs : s < 8) (hb : 6 + bE ≤ b) (hb2 : bU ≤ b) (d1 : D ≤ dx + 3) (d2 : D ≤ dy + 8)
    (hE : ∀ x y, D ≤ x → D ≤ y → Con K B a bs t n pd dp w f cnt vn fa ln gd (fun Ix Jx => Cl K x 63 [.ref (B + 2), .int (it ((0 : Nat) : Int)), .int (it ((s + 1 : Nat) : Int))] w Ix Jx) (fun wm Im Jm => Cl K y 101 [.ref (B + 46)] wm Im Jm) (s + 1) bE)
    (hU : ∀ x y, D ≤ x → D ≤ y → Con K B a bs t n pd dp w f cnt vn fa ln gd (fun Ix Jx => Cl K x 64 [.ref (B + 2), .int (it ((s + 1 : Nat) : Int))] w Ix Jx) (fun wm Im Jm => Cl K y 108 [.ref (B + 46)] wm Im Jm) (s + 1) bU) :
    Con K B a bs t n pd dp w f cnt vn fa ln gd (fun Ix Jx => Cl K (dx + 5) 64 [.ref (B + 2), .int (it s)] w Ix Jx) (fun wm Im Jm => Cl K (dy + 11) 108 [.ref (B + 46)] wm Im Jm) s b := by
  intro c sl G Q Ix Jx wm Im Jm hO hNX hS hNM hJ hQ hD
  obtain ⟨hcn, _, hXT0, hMR0⟩ := JS_c hJ
  have hn := hX.2.1
  have hkb := kX_b (bs := bs) (t := t) (c := c) (r := 0)
  have hsx : it ((s + 1 : Nat) : Int) = it ((s : Int) + 1) := by rw [show ((s + 1 : Nat) : Int) = (s : Int) + 1 by omega]
  obtain ⟨Ia, a1, a2, a3⟩ := s_102a (K := K) (d := dy + 9) (J := Jm) hS.1 hMR0 (JS_s (s' := s) (by omega) hJ).2 hs
  have hJa := JS_k (sl' := sl) (Ix' := Ix) ha hJ (fun _ _ => rfl) hXT0 a2 a3 (by omega) (fun z => z)
  obtain ⟨hJb, h29⟩ := JS_s (s' := s + 1) (by omega) hJa
  have fmb : FMx B wm.2.2.1 Im Jm (sm_up2 Ia (B + 46) 29 (it ((s + 1 : Nat) : Int))) Jm := FMx_t (Nat.le_refl _) (FMx_6 a2) (FMx_u (m := wm.2.2.1) (by omega))
  have hSb := SM_f (WG_r (k := 0)) fmb hS
  have hNMb := NM_f hS.2.2.2 fmb hNM
  obtain ⟨_, _, hXT, hMR⟩ := JS_c hJb
  have e109 := s_109 (K := K) (d := dy + 8) (J := Jm) hX hSb.1 hMR
  rcases opa_i ⟨kX bs t c 0, by omega⟩ with e | ⟨e1, e2, e3, e4⟩
  · simp only at e
    rw [if_pos e] at e109
    obtain ⟨c1, r1, G1, τ1, ty1, Ix1, Jx1, wm1, Im1, Jm1, y1, y2, y3, y4, y5, y6, y7, y8, y9⟩ := O_all (K := K) (dx := dx) (dy := dy) (b := b) ha hX H hp hNP hb d1 d2 hE c sl G Q Ix Jx wm _ Jm hO hNX hSb hNMb hJb hQ hD
    obtain ⟨c1n, r11, _⟩ := JS_c y9
    obtain ⟨c', r', G', τ', ty', Ix', Jx', wm', Im', Jm', v1, v2, v3, v4, v5, v6, v7, v8, v9⟩ := I_loop (K := K) (G := G) (Q := Q) (sl := sl) (dx := dx) (dy := dy + 2) (l2 := it (tst bs t c : Nat)) (l3 := it (kX bs t c 0 : Nat)) (l4 := it (-1)) (y := it 0) (bb := b) ha H hp hX hs (hE (dx + 4) (dy + 10) (by omega) (by omega)) (by omega) (by omega) 241 c1 r1 0 300 300 G1 τ1 ty1 Ix1 Jx1 wm1 Im1 Jm1 (by omega) (by omega) (by omega) ⟨fun z => by have := y7 z; omega, by omega⟩ (StO_F ha y3 hO) (NX_f ha y3 hNX) (SM_f y5 y4 hSb) (NM_f hSb.2.2.2 y4 hNMb) y9 (fun z q => ⟨(hQ q).1, by have := (hQ q).2; have := y7 z; omega⟩) (hD.imp id (fun z => ⟨z.1, by have := tst_m hX y6 c1n; omega⟩))
    obtain ⟨hJe, h9⟩ := JS_s (s' := s) (by omega) v9
    refine ⟨c', r', G', τ', ty', Ix', Jx', wm', sm_up2 Im' (B + 46) 29 (it s), Jm', x_64k hX H hXT0 hs hsx e y1 v1, m_108k (dy := dy + 2) hS.1 a1 h29 e109 y2 v2, FEx_t y3 v3, FMx_t (Nat.le_refl _) (FMx_t y5.2.1 (FMx_t (Nat.le_refl _) fmb y4) v4) (FMx_u (m := wm.2.2.1) (by omega)), WG_k (by omega) (WG_t y5 v5), by omega, fun z => by have := y7 (v7 z); omega, fun z => ?_, hJe⟩
    obtain ⟨z1, z2⟩ := y8 z
    obtain ⟨z3, z4⟩ := v8 z2
    exact ⟨by omega, z4⟩
  · simp only at e1 e2 e3 e4
    obtain ⟨o, ho⟩ : ∃ o : Nat, opa (kX bs t c 0) = o := ⟨(opa (kX bs t c 0)).toNat, by omega⟩
    rw [if_neg (by omega), ho] at e109
    have htc : tst bs t c ≤ 240 := by have := tst_t bs t c; have := hX.1; omega
    obtain ⟨hc, Ix1, Im1, x1, m1, fx1, fm1, hJ1⟩ := JS_nx (K := K) (d := dx + 3) (e := dy + 4) (Jm := Jm) ha hX H hSb hJb e3 e4
    have hS1 := SM_f (WG_r (k := 0)) fm1 hSb
    obtain ⟨c2, r2, G2, τ2, ty2, Ix2, Jx2, wm2, Im2, Jm2, y1, y2, y3, y4, y5, y6, y7, y8, y9⟩ := hU (dx + 4) (dy + 10) (by omega) (by omega) (c + 1) (sl + 1) G Q Ix1 Jx wm Im1 Jm (StO_F ha fx1 hO) (NX_f ha fx1 hNX) hS1 (NM_f hSb.2.2.2 fm1 hNMb) hJ1 (fun z => ⟨(hQ z).1, by have := (hQ z).2; omega⟩) (hD.imp id (fun z => ⟨z.1, by have := tst_m hX (show c ≤ c + 1 by omega) hc; omega⟩))
    have hS2 : SM K B wm2 Im2 := SM_f y5 y4 hS1
    have fx2 := FEx_t fx1 y3
    obtain ⟨Ix3, Jx3, Im3, Im4, z1, z2, z3, z4, z5, z6⟩ := JS_op (K := K) (d := dx + 1) (e := dy + 9) (Jm := Jm2) (o := o) (p := tst bs t c) (ty2 = it (uo o : Nat)) 1 ha H (StO_F ha fx2 hO) hp hS2.1 y9 hn (by omega) (by omega) htc τ2 0 (G.2.2.2 G.1) (by rw [if_pos (by omega)]) (by
      rintro ⟨w1, w5, w6, w7⟩
      refine ⟨w6, by omega, ?_, ?_, ?_⟩
      · rw [if_pos (by omega), w5.2.2.2.1]
      · have := (hQ w1).2; omega
      · rw [w7]; exact (uo_f (by omega) (by omega) w6).1) (po o) (uo_f (o := o) (u := 0) (by omega) (by omega) (by omega)).2.1 (uo_f (o := o) (u := 0) (by omega) (by omega) (by omega)).2.2
    have p3 := (uo_f (o := o) (u := 0) (by omega) (by omega) (by omega)).2.2
    obtain ⟨hJe, h9⟩ := JS_s (s' := s) (by omega) z6
    have fm4 := FMx_t (Nat.le_refl _) (FMx_t (Nat.le_refl _) (FMx_t (Nat.le_refl _) fmb fm1) y4) (FMx_w y5.2.1 z5)
    refine ⟨c2, r2, gE1 G2 o 0 (po o :: G.2.2.2 G.1), po o, it (po o : Nat), Ix3, Jx3, wm2, sm_up2 Im4 (B + 46) 29 (it s), Jm2, x_64o hX H hXT0 hs hsx ho x1 y1 z1, m_108o (dy := dy + 2) hS.1 hS2.1 (by omega) (by omega) a1 h29 e109 hMR.2.2.2.2.1 m1 y2 z2 z3 h9, FEx_t fx2 z4, FMx_t (Nat.le_refl _) fm4 (FMx_u (m := wm.2.2.1) (by omega)), WG_k (by omega) y5, by omega, fun _ => by omega, fun z => by omega, JS_m ?_ (Nat.le_refl _) hJe⟩
    rintro ⟨⟨w1, w5, w6, w7⟩, w8⟩
    exact ⟨w1, Ext_o (Ext_b hb2 w5) (by omega) (gEf_1 (by omega) (by omega) w6 p3 w8 (uo_f (o := o) (u := 0) (by omega) (by omega) (by omega)).2.1) (by omega), p3, rfl⟩
/-- level 6 is UNDER -/
theorem L_6 {dx : Nat} {M : aW → aI → aJ → Option aR} (H : Lay B w) (hU : Con K B a bs t n pd dp w f cnt vn fa ln gd (fun Ix Jx => Cl K (dx + 3) 64 [.ref (B + 2), .int (it s)] w Ix Jx) M s b) : Con K B a bs t n pd dp w f cnt vn fa ln gd (fun Ix Jx => Cl K (dx + 4) 63 [.ref (B + 2), .int (it ((5 + 1 : Nat) : Int)), .int (it s)] w Ix Jx) M s b := by
  intro c sl G Q Ix Jx wm Im Jm hO hNX hS hNM hJ hQ hD
  obtain ⟨c2, r2, G2, τ2, ty2, Ix2, Jx2, wm2, Im2, Jm2, y1, y2⟩ := hU c sl G Q Ix Jx wm Im Jm hO hNX hS hNM hJ hQ hD
  refine ⟨c2, r2, G2, τ2, ty2, Ix2, Jx2, wm2, Im2, Jm2, ?_, y2⟩
  apply cl_63 (k := 0)
  unfold f_63
  simp only [it_lit]
  rw [if_neg (by decide)]
  simp only [gO_e (yt2 H)]
  have y1' : Cl K (dx + 3) 64 [.ref (B + 2), .int (it s)] w Ix Jx = some (none, w, Ix2, Jx2) := y1
  rw [y1']
  rfl
/-- E and UNDER, at any nest -/
theorem E_all (ha : a = B + 8 ∨ a = B + 22) (hX : TX bs t n) (H : Lay B w) (hp : w.2.1 (B + 2) 1 = some a) (hNP : NP f cnt vn fa ln gd) : ∀ m, m ≤ 8 →
    (∀ x y, 20 * m + 20 ≤ x → 20 * m + 20 ≤ y → Con K B a bs t n pd dp w f cnt vn fa ln gd (fun Ix Jx => Cl K x 63 [.ref (B + 2), .int (it ((0 : Nat) : Int)), .int (it ((8 - m : Nat) : Int))] w Ix Jx) (fun wm Im Jm => Cl K y 101 [.ref (B + 46)] wm Im Jm) (8 - m) (6 * m + 2))
    ∧ (∀ x y, 20 * m + 20 ≤ x → 20 * m + 20 ≤ y → Con K B a bs t n pd dp w f cnt vn fa ln gd (fun Ix Jx => Cl K x 64 [.ref (B + 2), .int (it ((8 - m : Nat) : Int))] w Ix Jx) (fun wm Im Jm => Cl K y 108 [.ref (B + 46)] wm Im Jm) (8 - m) (6 * m + 2)) := by
  intro m
  induction m with
  | zero =>
    intro _
    refine ⟨fun x y hx hy => ?_, fun x y hx hy => ?_⟩
    · obtain ⟨x', rfl⟩ : ∃ x', x = x' + 5 := ⟨x - 5, by omega⟩
      obtain ⟨y', rfl⟩ : ∃ y', y = y' + 8 := ⟨y - 8, by omega⟩
      exact L_08 ha H hX
    · obtain ⟨x', rfl⟩ : ∃ x', x = x' + 5 := ⟨x - 5, by omega⟩
      obtain ⟨y', rfl⟩ : ∃ y', y = y' + 8 := ⟨y - 8, by omega⟩
      exact U_8 ha H hX
  | succ m ih =>
    intro hm
    obtain ⟨ihE, ihU⟩ := ih (by omega)
    have es : 8 - m = 8 - (m + 1) + 1 := by omega
    rw [es] at ihE ihU
    refine ⟨fun x y hx hy => ?_, fun x y hx hy => ?_⟩
    · obtain ⟨x', rfl⟩ : ∃ x', x = x' + 10 := ⟨x - 10, by omega⟩
      obtain ⟨y', rfl⟩ : ∃ y', y = y' + 12 := ⟨y - 12, by omega⟩
      have h6 := L_6 (dx := x') H (ihU (x' + 3) (y' + 6) (by omega) (by omega))
      have h5 := L_5 (dx := x') (dy := y') ha H hp hX h6 (by omega) (by omega)
      have h4 := L_4 (dx := x' + 1) (dy := y' + 1) ha H hp hX h5 (by omega) (by omega)
      have h3 := L_3 (dx := x' + 2) (dy := y' + 2) ha H hp hX h4 (by omega) (by omega)
      have h2 := L_2 (dx := x' + 3) (dy := y' + 3) ha H hp hX h3 (by omega) (by omega)
      have h1 := L_1 (dx := x' + 4) (dy := y' + 4) ha H hp hX h2 (by omega) (by omega)
      exact L_0 (dx := x' + 5) (dy := y' + 5) (b1 := 6 * m + 2 + 1 + 1 + 1 + 1 + 1) (b2 := 6 * m + 2) ha H hp hX (by omega) h1 (ihE (x' + 9) (y' + 11) (by omega) (by omega)) (by omega) (by omega) (by omega)
    · obtain ⟨x', rfl⟩ : ∃ x', x = x' + 5 := ⟨x - 5, by omega⟩
      obtain ⟨y', rfl⟩ : ∃ y', y = y' + 11 := ⟨y - 11, by omega⟩
      exact U_s (D := 20 * m + 20) (bE := 6 * m + 2) (bU := 6 * m + 2) ha hX H hp hNP (by omega) (by omega) (by omega) (by omega) (by omega) ihE ihU
end UND

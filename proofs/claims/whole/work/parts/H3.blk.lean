/-! blocks: the pieces -/
section BLK
variable {K : Nat → Value} {B d e a : Nat} {w wm wm' : aW} {Ix Im I I' I'' Ix' Im' : aI} {Jx Jm J J' J'' Jx' Jm' : aJ} {bs : Nat → Nat} {t n c r s sl b op m m' : Nat} {pd dp : Int} {G G1 : gG} {Q gd Q0 : Prop} {f cnt st : Nat} {vn ln : Nat → Nat} {fa fa0 : Nat → Nat → Nat} {G0 : gG} {P P' : Nat → Prop}
theorem tst_1 (hX : TX bs t n) (hc : c < n) : tst bs t c + 1 ≤ tst bs t (c + 1) := by
  have h2 := lxe_b (bs := bs) (hX.2.2.2.1 c hc)
  have h3 := wsk_b bs (t - lxe bs t (tst bs t c)) (lxe bs t (tst bs t c))
  rw [tst]
  omega
theorem tst_2 (hX : TX bs t n) (hc : c < n) (hk : 256 ≤ kX bs t c 0) : tst bs t c + 2 ≤ tst bs t (c + 1) := by
  have h2 := lxe_b (bs := bs) (hX.2.2.2.1 c hc)
  have h3 := wsk_b bs (t - lxe bs t (tst bs t c)) (lxe bs t (tst bs t c))
  have h4 : ¬ lxe bs t (tst bs t c) - tst bs t c = 1 := by
    intro q
    unfold kX tkd kdo at hk
    rw [if_pos rfl, if_neg (by have := hX.2.2.2.1 c hc; omega)] at hk
    by_cases e : isL (bs (tst bs t c))
    · rw [if_pos e, if_pos q] at hk; omega
    · rw [if_neg e] at hk
      split at hk
      · split at hk <;> omega
      · split at hk
        · have := sgs_b _ (by assumption); omega
        · omega
  rw [tst]
  omega
/-- a block is opened -/
def oB (B op : Nat) (k br bg : Int32) (I : aI) : aI := sm_up2 (sm_up2 (sm_up2 (sm_up2 I (B + 19) op k) (B + 20) op br) (B + 21) op bg) (B + 2) 11 (it ((op + 1 : Nat) : Int))
theorem s_56 {k br bg : Int32} {I1 : aI} (H : Lay B w) (h41 : Cl K (d + 1) 41 [.ref (B + 3), .int (it 123)] w I J = some (none, w, I1, J)) (h11 : I1 (B + 2) 11 = it op) (ho : op < 64) : Cl K (d + 2) 56 [.ref (B + 2), .int k, .int br, .int bg] w I J = some (none, w, oB B op k br bg I1, J) := by
  apply cl_56 (k := 0)
  unfold f_56
  simp only [it_lit, gO_e (yt2 H), gV_e (yp2_0 H), gO_e (yt3 H), gV_e (yp2_12 H), gV_e (yp2_13 H), gV_e (yp2_14 H), lt_p]
  rw [h41]
  simp only [cV_e, gO_e (yt2 H), gV_e (yp2_12 H), gV_e (yp2_13 H), gV_e (yp2_14 H)]
  rw [h11, if_neg (fun q => by have := (it_le (by omega) (by omega) (by omega) (by omega)).mp q; omega), gA_e (yt19 H) (Or.inl rfl) (ix (by omega) (by omega) (by omega)), it_n (by omega)]
  rw [up2_n (a := B + 19) (b := B + 2) (by omega), h11, gA_e (yt20 H) (Or.inl rfl) (ix (by omega) (by omega) (by omega)), it_n (by omega)]
  rw [up2_n (a := B + 20) (b := B + 2) (by omega), up2_n (a := B + 19) (b := B + 2) (by omega), h11, gA_e (yt21 H) (Or.inl rfl) (ix (by omega) (by omega) (by omega)), it_n (by omega)]
  rw [up2_n (a := B + 21) (b := B + 2) (by omega), up2_n (a := B + 20) (b := B + 2) (by omega), up2_n (a := B + 19) (b := B + 2) (by omega), h11, it_add]
  unfold oB
  rw [show (op : Int) + 1 = ((op + 1 : Nat) : Int) by omega]
theorem oB_o {k br bg : Int32} {b : Nat} (h : ¬ b = B + 19 ∧ ¬ b = B + 20 ∧ ¬ b = B + 21 ∧ ¬ b = B + 2) : oB B op k br bg I b = I b := by
  unfold oB; rw [up2_n (by omega), up2_n (by omega), up2_n (by omega), up2_n (by omega)]
theorem oB_2 {k br bg : Int32} {j : Nat} (h : ¬ j = 11) : oB B op k br bg I (B + 2) j = I (B + 2) j := by
  unfold oB; rw [up2_r, up1_n h, up2_n (by omega), up2_n (by omega), up2_n (by omega)]
theorem oB_e {k br bg : Int32} : oB B op k br bg I (B + 2) 11 = it ((op + 1 : Nat) : Int) ∧ oB B op k br bg I (B + 19) op = k ∧ oB B op k br bg I (B + 20) op = br ∧ oB B op k br bg I (B + 21) op = bg := by
  unfold oB
  refine ⟨by rw [up2_r, up1_s], ?_, ?_, ?_⟩
  · rw [up2_n (by omega), up2_n (by omega), up2_n (by omega), up2_r, up1_s]
  · rw [up2_n (by omega), up2_n (by omega), up2_r, up1_s]
  · rw [up2_n (by omega), up2_r, up1_s]
theorem FSx_o {k br bg : Int32} (ha : a = B + 8 ∨ a = B + 22) : FSx B a f op I J (oB B op k br bg I) J := by
  refine ⟨fun b x => ?_, fun k x => oB_2 x.2.2.2, fun k _ => ?_, fun k x => ?_, fun k x => ?_, fun j hj => ⟨?_, ?_, ?_⟩, fun _ _ _ => rfl⟩
  · unfold oX at x; exact oB_o (by omega)
  · rw [oB_o (by omega)]
  · rw [oB_o (by omega)]
  · rw [oB_o (by omega)]
  · unfold oB; rw [up2_n (by omega), up2_n (by omega), up2_n (by omega), up2_r, up1_n (by omega)]
  · unfold oB; rw [up2_n (by omega), up2_n (by omega), up2_r, up1_n (by omega), up2_n (by omega)]
  · unfold oB; rw [up2_n (by omega), up2_r, up1_n (by omega), up2_n (by omega), up2_n (by omega)]
/-- the number of open blocks and the rows of them don't matter to code and tokens -/
theorem JS_11 {x : Int32} (ha : a = B + 8 ∨ a = B + 22) (h1 : ∀ b, b = B + 3 ∨ b = B + 4 ∨ b = B + 5 ∨ b = B + 6 ∨ b = B + 17 ∨ b = a ∨ b = a + 1 ∨ b = a + 2 → Ix' b = Ix b) (h2 : ∀ k, ¬ k = 11 → Ix' (B + 2) k = Ix (B + 2) k) (h : JS B a bs t n pd dp c r s sl G Q Ix Jx Im) : JS B a bs t n pd dp c r s sl G Q Ix' Jx Im := by
  obtain ⟨h, Nx, Nm, nfx, nfm, tfx, tfm, ⟨x0, xr⟩, mE, b1, b2, f⟩ := h
  refine ⟨h, Nx, Nm, nfx, nfm, tfx, tfm, ⟨XT_f (h1 _ (by omega)) (h1 _ (by omega)) (h1 _ (by omega)) (h1 _ (by omega)) x0, ?_⟩, mE, b1, b2, fun r0 => ⟨(f r0).1, (f r0).2.imp id ?_⟩⟩
  · rw [h2 6 (by omega), h2 7 (by omega), h2 8 (by omega), h1 a (by omega)]; exact xr
  · rintro ⟨⟨g1, g2, g3, g4, g5, g6, ⟨w1, w2, w3, w4⟩, g8⟩, hq⟩
    refine ⟨⟨g1, g2, g3, g4, g5, g6, ⟨w1, ?_, w3, ?_⟩, g8⟩, hq⟩
    · rw [h1 (B + 17) (by omega)]; exact w2
    · rw [h1 (a + 1) (by omega), h1 (a + 2) (by omega)]; exact w4
/-- else: the class goes on, puts and takes; the reference puts, patches, goes on and takes -/
theorem JS_el {q qx qm : Nat} {dx dy : Nat} (ha : a = B + 8 ∨ a = B + 22) (hX : TX bs t n) (H : Lay B w) (hp : w.2.1 (B + 2) 1 = some a) (hS : SM K B wm Im) (h : JS B a bs t n pd dp c 0 0 sl G Q Ix Jx Im) (hk : kX bs t c 0 = 258) (x1 : qx ≤ 1000) (m1 : qm ≤ 1000) (hQ : Q → qx = q ∧ qm = q ∧ q < G.1 ∧ G.2.2.2 G.1 = []) :
    ∃ (Ix1 Ix2 Ix3 : aI) (Jx2 : aJ) (Im1 Im2 Im3 Im4 : aI), c < n ∧ Cl K (dx + 3) 42 [.ref (B + 3)] w Ix Jx = some (none, w, Ix1, Jx) ∧ FX3 B Ix Ix1 ∧ Cl K (dx + 3) 58 [.ref (B + 2), .int (it 24), .int (it 0), .int (it ((0 : Nat) : Int)), .int (it (-1))] w Ix1 Jx = some (none, w, Ix2, Jx2) ∧ Cl K (dx + 2) 41 [.ref (B + 3), .int (it 123)] w Ix2 Jx2 = some (none, w, Ix3, Jx2) ∧ FEx B a Ix Jx Ix3 Jx2
      ∧ (∀ Ix4 : aI, (∀ b, b = B + 3 ∨ b = B + 4 ∨ b = B + 5 ∨ b = B + 6 ∨ b = B + 17 ∨ b = a ∨ b = a + 1 ∨ b = a + 2 → Ix4 b = Ix3 b) → (∀ k, ¬ k = 11 → Ix4 (B + 2) k = Ix3 (B + 2) k) → ∃ Ix5, Cl K (dx + 3) 60 [.ref a, .int (it qx)] w Ix4 Jx2 = some (none, w, Ix5, Jx2) ∧ FEx B a Ix4 Jx2 Ix5 Jx2 ∧ JS B a bs t n pd dp (nxC bs t (c + 1) 0 123) (nxR bs t (c + 1) 0 123) 0 sl (pG (gE1 G 24 0 []) q) Q Ix5 Jx2 Im4)
      ∧ Cl K (dy + 8) 111 [.ref (B + 46), .int (it 24), .int (it 0)] wm Im Jm = some (none, wm, Im1, Jm) ∧ Cl K (dy + 8) 117 [.ref (B + 46), .int (it qm)] wm Im1 Jm = some (none, wm, Im2, Jm) ∧ Cl K (dy + 8) 84 [.ref (B + 46)] wm Im2 Jm = some (none, wm, Im3, Jm) ∧ Cl K (e + 8) 93 [.ref (B + 46), .int (it 123)] wm Im3 Jm = some (none, wm, Im4, Jm) ∧ FMx B wm.2.2.1 Im Jm Im3 Jm ∧ FMx B wm.2.2.1 Im Jm Im4 Jm := by
  have hn := hX.2.1
  obtain ⟨h, Nx, Nm, nfx, nfm, tfx, tfm, x, m, b1, b2, f⟩ := h
  have hc := x.1.2.2.2.1
  obtain ⟨_, hcn, _⟩ := kX_n hX hc hk (by omega) (by omega)
  obtain ⟨Ix1, y1, y2, y3⟩ := s_42k (K := K) (d := dx + 2) (J := Jx) hX H x.1 hk (by omega) (by omega)
  have xE1 := XE_3 ha x y3 y2
  obtain ⟨Ix2, Jx2, z0, z1, z2, z3, z4, z5, _⟩ := s_58 (K := K) (d := dx + 1) (J := Jx) (o := it 24) (g := it 0) (ty := it (-1)) (k := 0) (b := false) ha H hp xE1 (by omega) (by omega) ⟨fun q => (by cases q), fun q => absurd rfl q⟩
  obtain ⟨Ix3, u1, u2, u3⟩ := s_41 (K := K) (d := dx) (J := Jx2) hX H z2.1 (k := 123) (show it 123 = it ((123 : Nat) : Int) from rfl) (by omega) (by omega) (by omega)
  have xE3 := XE_3 ha z2 u3 u2
  obtain ⟨Im1, v1, v2, v3, v4⟩ := s_111 (K := K) (d := dy + 7) (J := Jm) (o := it 24) (g := it 0) (m := wm.2.2.1) hS.1 m (by omega)
  have hS1 := SM_f (WG_r (k := 0)) v2 hS
  have hM1 := v3.2.2.2.2.2.2.2.2.2.1
  have e117 := s_117 (K := K) (d := dy + 7) (Jm := Jm) hS1.1 hM1 m1
  obtain ⟨Im2, hi2⟩ : ∃ Im2, (if qm < 300 then sm_up2 Im1 (B + 57) qm (it ((Nm + 1 : Nat) : Int)) else Im1) = Im2 := ⟨_, rfl⟩
  rw [hi2] at e117
  have f2 : FMx B wm.2.2.1 Im1 Jm Im2 Jm ∧ ME B bs t n c 0 0 (Nm + 1) nfm tfm Im2 ∧ Im2 (B + 56) = Im1 (B + 56) ∧ ∀ p, Im2 (B + 57) p = if p = qm ∧ qm < 300 then it ((Nm + 1 : Nat) : Int) else Im1 (B + 57) p := by
    subst hi2
    by_cases e : qm < 300
    · rw [if_pos e]
      refine ⟨⟨fun b _ _ _ h6 => up2_n h6, fun k _ _ _ _ _ _ _ _ _ => by rw [up2_n (by omega)], fun _ _ => rfl⟩, ⟨MR_g (up2_n (by omega)) (up2_n (by omega)) v3.1, by rw [up2_n (by omega)]; exact v3.2⟩, up2_n (by omega), fun p => ?_⟩
      rw [up2_r]
      by_cases e2 : p = qm
      · rw [if_pos ⟨e2, e⟩, e2, up1_s]
      · rw [if_neg (fun q => e2 q.1), up1_n e2]
    · rw [if_neg e]
      exact ⟨FMx_r, v3, rfl, fun p => by rw [if_neg (fun q => e q.2)]⟩
  obtain ⟨f2a, f2b, f2c, f2d⟩ := f2
  have hS2 := SM_f (WG_r (k := 0)) f2a hS1
  obtain ⟨Im3, w1, w2, w3⟩ := s_84k (K := K) (d := dy + 2) (J := Jm) hX hS.1 hS2.2.1 hS2.2.2.1 f2b.1 hcn
  have mE3 := ME_6 f2b w2 w3
  have hS3 := SM_f (WG_r (k := 0)) (FMx_6 (m := wm.2.2.1) (J := Jm) w2) hS2
  obtain ⟨Im4, ia, ib, ic⟩ := s_93 (K := K) (d := e) (J := Jm) hX hS3.1 hS3.2.1 hS3.2.2.1 w3 (x := 123) (show it 123 = it ((123 : Nat) : Int) from rfl) (by decide)
  have mE4 := ME_6 mE3 ib ic
  have fm13 : FMx B wm.2.2.1 Im Jm Im3 Jm := FMx_t (Nat.le_refl _) (FMx_t (Nat.le_refl _) v2 f2a) (FMx_6 w2)
  have hnx := nxC_b (bs := bs) (t := t) (c := c + 1) (r := 0) (k := 123)
  refine ⟨Ix1, Ix2, Ix3, Jx2, Im1, Im2, Im3, Im4, hcn, y1, y3, z0, u1, FEx_t (FEx_t (FX3_E ha y3) z1) (FX3_E ha u3), fun Ix4 g1 g2 => ?_, v1, e117, w1, ia, fm13, FMx_t (Nat.le_refl _) fm13 (FMx_6 ib)⟩
  have hN3 := xE3.2.2.2.2.2.2.2.2.2.1
  have hN4 : Ix4 a 6 = it ((Nx + 1 : Nat) : Int) := by rw [g1 a (by omega)]; exact hN3
  have e60 := s_60 (K := K) (d := dx + 1) (J := Jx2) (PLx H ha) hN4 (by omega) x1
  refine ⟨_, e60, ?_, hE h 0 false, Nx + 1, Nm + 1, nfx, nfm, tfx, tfm, ?_, mE4, by omega, by omega, fun r0 => ⟨(f rfl).1, (f rfl).2.imp id ?_⟩⟩
  · split
    · exact ⟨fun b _ _ _ _ _ h6 => up2_n h6, fun k _ _ _ => by rw [up2_n (by omega)], fun k _ => by rw [up2_n (by omega)], fun _ _ _ => rfl⟩
    · exact FEx_r
  · have xE4 : XE B a bs t n (nxC bs t (c + 1) 0 123) (nxR bs t (c + 1) 0 123) (hE h 0 false) (Nx + 1) nfx tfx Ix4 := by
      obtain ⟨x0, xr⟩ := xE3
      refine ⟨XT_f (g1 _ (by omega)) (g1 _ (by omega)) (g1 _ (by omega)) (g1 _ (by omega)) x0, ?_⟩
      rw [g2 6 (by omega), g2 7 (by omega), g2 8 (by omega), g1 a (by omega)]
      exact xr
    split
    · obtain ⟨x0, xr⟩ := xE4
      refine ⟨XT_f (up2_n (by omega)) (up2_n (by omega)) (up2_n (by omega)) (up2_n (by omega)) x0, ?_⟩
      rw [up2_n (by omega), up2_n (a := a + 2) (b := a) (by omega)]
      exact xr
    · exact xE4
  · rintro ⟨⟨k1, k2, k3, k4, k5, k6, ⟨j1, j2, j3, j4⟩, k8⟩, hq⟩
    obtain ⟨l1, l2, l3, l4⟩ := hQ hq
    have g7 : CX B a G.1 G.2.1 G.2.2.1 G.2.2.2 h Ix1 Jx := ⟨j1, by rw [y3 (B + 17) (by omega)]; exact j2, j3, by rw [y3 (a + 1) (by omega), y3 (a + 2) (by omega)]; exact j4⟩
    subst k5
    obtain ⟨cx, _⟩ := CX_e (I' := Ix2) (J' := Jx2) (oo := 24) (gg := 0) (pre := []) (rest := G.2.2.2 G.1) (k := 0) g7 rfl rfl rfl rfl z3 z4 z5
    have hh : hE h 0 false = h - 0 := by unfold hE; rw [if_neg (by decide)]
    rw [hh]
    rw [l4] at cx
    obtain ⟨c1, c2, c3, c4⟩ := cx
    have up1 : ∀ p, (pG (gE1 G 24 0 []) q).2.2.1 p = if p = q then G.1 + 1 else (gE1 G 24 0 []).2.2.1 p := fun p => rfl
    refine ⟨⟨k1, k2, k3, k4, rfl, by show Nm + 1 = G.1 + 1; rw [k6], ⟨c1, ?_, c3, fun p p1 p2 => ?_⟩, fun p p1 p2 => ?_⟩, hq⟩
    · have e17 : Ix4 (B + 17) = Ix2 (B + 17) := by rw [g1 (B + 17) (by omega), u3 (B + 17) (by omega)]
      split
      · rw [up2_n (by omega), e17]; exact c2
      · rw [e17]; exact c2
    · have p1' : p < G.1 + 1 := p1
      obtain ⟨o1, o2, o3⟩ := c4 p p1' p2
      have e1 : Ix4 (a + 1) = Ix2 (a + 1) := by rw [g1 (a + 1) (by omega), u3 (a + 1) (by omega)]
      have e2 : Ix4 (a + 2) = Ix2 (a + 2) := by rw [g1 (a + 2) (by omega), u3 (a + 2) (by omega)]
      rw [up1]
      by_cases ep : p = q
      · rw [if_pos ep, if_pos ⟨by omega, by omega⟩, up2_n (by omega), e1, up2_r, l1, ep, up1_s]
        rw [ep] at o1 o3
        exact ⟨o1, rfl, o3⟩
      · rw [if_neg ep]
        split
        · rw [up2_n (by omega), e1, up2_r, up1_n (by omega), e2]; exact ⟨o1, o2, o3⟩
        · rw [e1, e2]; exact ⟨o1, o2, o3⟩
    · have p1' : p < G.1 + 1 := p1
      have e63 : Im4 (B + 56) = Im1 (B + 56) := by rw [ib.1 (B + 56) (by omega), w2.1 (B + 56) (by omega), f2c]
      have e64 : Im4 (B + 57) = Im2 (B + 57) := by rw [ib.1 (B + 57) (by omega), w2.1 (B + 57) (by omega)]
      obtain ⟨i1, i2⟩ := v4 p p2
      have h63 : Im4 (B + 56) p = it (sm_up1 G.2.1 G.1 24 p : Nat) := by
        rw [e63, i1, k6]
        by_cases en : p = G.1
        · rw [if_pos en, en, up1_s]; rfl
        · rw [if_neg en, up1_n en]; exact (k8 p (by omega) p2).1
      have h64 : Im4 (B + 57) p = it ((pG (gE1 G 24 0 []) q).2.2.1 p : Nat) := by
        rw [e64, f2d, up1]
        by_cases ep : p = q
        · rw [if_pos (show p = qm ∧ qm < 300 from ⟨by omega, by omega⟩), if_pos ep, k6]
        · rw [if_neg (show ¬ (p = qm ∧ qm < 300) from fun z => ep (by omega)), if_neg ep, i2, k6]
          show (if p = G.1 then it 0 else Im (B + 57) p) = it (sm_up1 G.2.2.1 G.1 0 p : Nat)
          by_cases en : p = G.1
          · rw [if_pos en, en, up1_s]; rfl
          · rw [if_neg en, up1_n en]; exact (k8 p (by omega) p2).2
      exact ⟨h63, h64⟩
end BLK

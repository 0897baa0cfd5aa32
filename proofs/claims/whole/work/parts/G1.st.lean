/-! what statements need: E behind a fault, types on top, places, patches -/
section STM
variable {K : Nat → Value} {B d e a : Nat} {w wm : aW} {Ix Im I : aI} {Jx Jm J : aJ} {bs : Nat → Nat} {t n c r s sl b : Nat} {pd dp : Int} {G G1 : gG} {Q gd : Prop} {f cnt : Nat} {vn ln : Nat → Nat} {fa : Nat → Nat → Nat}
theorem c_end {lv dx kx : Nat} {l3 inn lm : Int32} (hX : TX bs t n) (H : Lay B w) (hT : XT B bs t n c 1 Ix) (hl : ¬ lm ≤ it 0) : f_63_83 K (kx + 1) (dx + 4) (B + 2) (it lv) (it s) l3 inn lm (it 0) w Ix Jx = some (none, w, Ix, Jx) := by
  have hk : kX bs t c 1 = 3 := by unfold kX; rw [if_neg (by omega)]
  rw [f_63_83]
  simp only [it_lit, lt_p, gO_e (yt2 H), gV_e (yp2_0 H), gO_e (yt3 H)]
  rw [if_neg hl, s_37 (d := dx + 3) H hT hX.2.1]
  simp only [cI_e]
  rw [s_73 (d := dx + 3) (kX_b (bs := bs)), hk]
  simp only [cI_e]
  rw [if_pos (by decide)]
theorem x_72z {dx : Nat} (hX : TX bs t n) (H : Lay B w) (hT : XT B bs t n c 1 Ix) : ∃ Ix', Cl K (dx + 4) 72 [.ref (B + 2)] w Ix Jx = some (none, w, Ix', Jx) ∧ XT B bs t n c 1 Ix' ∧ FX3 B Ix Ix' := by
  have hk : kX bs t c 1 = 3 := by unfold kX; rw [if_neg (by omega)]
  obtain ⟨Ix1, x1, x2, x3⟩ := s_43 (K := K) (d := dx + 2) (J := Jx) H hT
  obtain ⟨Ix2, x4, x5, x6⟩ := s_42 (K := K) (d := dx + 2) (J := Jx) H x2 hX.2.1
  rw [if_neg (fun q => by omega)] at x5
  refine ⟨Ix2, ?_, x5, fun b hb => (x6 b hb).trans (x3 b hb)⟩
  apply cl_72 (k := 0)
  unfold f_72
  simp only [it_lit, gO_e (yt2 H), gV_e (yp2_0 H), gO_e (yt3 H)]
  rw [s_37 (d := dx + 2) H hT hX.2.1, hk]
  simp only [cI_e, gO_e (yt2 H), gV_e (yp2_0 H), gO_e (yt3 H)]
  rw [if_neg (by decide), if_neg (by decide), if_neg (by decide), if_neg (by decide), x1]
  simp only [cV_e]
  unfold f_72_105
  simp only [gO_e (yt2 H), gV_e (yp2_0 H), gO_e (yt3 H)]
  rw [x4]
  rfl
theorem x_64z {dx : Nat} (hX : TX bs t n) (H : Lay B w) (hs : s < 8) (hT : XT B bs t n c 1 Ix) : ∃ Ix', Cl K (dx + 5) 64 [.ref (B + 2), .int (it s)] w Ix Jx = some (none, w, Ix', Jx) ∧ XT B bs t n c 1 Ix' ∧ FX3 B Ix Ix' := by
  have hk : kX bs t c 1 = 3 := by unfold kX; rw [if_neg (by omega)]
  obtain ⟨Ix1, x1, x2, x3⟩ := x_72z (K := K) (dx := dx) (Jx := Jx) hX H hT
  refine ⟨Ix1, ?_, x2, x3⟩
  apply cl_64 (k := 1)
  unfold f_64
  simp only [it_lit, gO_e (yt2 H), gV_e (yp2_0 H), gO_e (yt3 H)]
  rw [if_pos ((it_lt (by omega) (by omega) (by omega) (by omega)).mpr (by omega)), s_44 (d := dx + 3) H hT hX.2.1]
  simp only [cI_e, gO_e (yt2 H), gV_e (yp2_0 H), gO_e (yt3 H)]
  rw [s_37 (d := dx + 3) H hT hX.2.1]
  simp only [cI_e]
  rw [s_65 (d := dx + 3) (kX_b (bs := bs)), hk]
  simp only [cI_e, it_neg, gO_e (yt2 H), gV_e (yp2_0 H), gO_e (yt3 H), it_add]
  rw [if_pos (by decide), if_pos (by decide), if_pos (by decide), x1]
  simp only [cV_e]
  unfold f_64_116
  exact x_64n (kx := 0) (i := 0) hX H x2 (by omega) (by rw [hk]; omega)
theorem x_63z {dx : Nat} (hX : TX bs t n) (H : Lay B w) : ∀ (m lv s : Nat) (Ix : aI), lv + m = 6 → s ≤ 7 → (lv = 0 → s ≤ 6) → XT B bs t n c 1 Ix → ∃ Ix', Cl K (dx + 6 + m) 63 [.ref (B + 2), .int (it lv), .int (it s)] w Ix Jx = some (none, w, Ix', Jx) ∧ XT B bs t n c 1 Ix' ∧ FX3 B Ix Ix' := by
  intro m
  induction m with
  | zero =>
    intro lv s Ix h1 h2 h3 hT
    obtain ⟨Ix1, x1, x2, x3⟩ := x_64z (K := K) (dx := dx) (Jx := Jx) (s := s) hX H (by omega) hT
    refine ⟨Ix1, ?_, x2, x3⟩
    apply cl_63 (k := 0)
    unfold f_63
    simp only [it_lit]
    rw [if_neg (fun q => by have := (it_lt (by omega) (by omega) (by omega) (by omega)).mp q; omega)]
    simp only [gO_e (yt2 H)]
    rw [x1]
    rfl
  | succ m ih =>
    intro lv s Ix h1 h2 h3 hT
    by_cases h0 : lv = 0
    · subst h0
      obtain ⟨Ix1, x1, x2, x3⟩ := ih 1 (s + 1) Ix (by omega) (by omega) (by omega) hT
      refine ⟨Ix1, ?_, x2, x3⟩
      rw [show dx + 6 + (m + 1) = dx + 2 + m + 5 by omega]
      rw [show dx + 6 + m = dx + 2 + m + 4 by omega] at x1
      exact x_630 (s := s) (dx := dx + 2 + m) (lv := 0) (inn := it ((s + 1 : Nat) : Int)) (l1 := it ((1 : Nat) : Int)) (Ix1 := Ix1) (Jx1 := Jx) H rfl (by omega) (by rw [show ((s + 1 : Nat) : Int) = (s : Int) + 1 by omega]) rfl x1 (c_end (kx := 299) hX H x2 (by decide))
    · obtain ⟨Ix1, x1, x2, x3⟩ := ih (lv + 1) s Ix (by omega) h2 (by omega) hT
      refine ⟨Ix1, ?_, x2, x3⟩
      rw [show dx + 6 + (m + 1) = dx + 2 + m + 5 by omega]
      rw [show dx + 6 + m = dx + 2 + m + 4 by omega, show ((lv + 1 : Nat) : Int) = (lv : Int) + 1 by omega] at x1
      apply cl_63 (k := 1)
      unfold f_63
      simp only [it_lit]
      rw [if_pos ((it_lt (by omega) (by omega) (by omega) (by omega)).mpr (by omega)), if_pos (fun q => by have := (it_eq (by omega) (by omega) (by omega) (by omega)).mp q; omega)]
      unfold f_63_21
      simp only [it_lit]
      rw [if_pos trivial]
      unfold f_63_40
      simp only [it_lit]
      rw [if_pos trivial]
      unfold f_63_51
      simp only [it_lit, gO_e (yt2 H), it_add]
      rw [x1]
      simp only [cV_e]
      rw [if_neg (fun q => q trivial)]
      by_cases h3 : it (lv : Int) = it 3
      · rw [if_neg (fun q => q h3)]
        unfold f_63_71 f_63_78
        simp only [it_lit]
        exact c_end hX H x2 (by decide)
      · rw [if_pos h3]
        unfold f_63_78
        simp only [it_lit]
        exact c_end hX H x2 (by decide)
/-- what a read E leaves, refused ahead or not -/
theorem E_any {x y : Nat} (ha : a = B + 8 ∨ a = B + 22) (hX : TX bs t n) (H : Lay B w) (hp : w.2.1 (B + 2) 1 = some a) (f4 : r = 0 → NP f cnt vn fa ln gd) (hx : 180 ≤ x) (hy : 180 ≤ y) (hO : StO K B w Ix) (hN : r = 0 → NX B a f cnt vn fa ln gd Ix ∧ NM B f cnt vn fa ln gd Im) (hS : SM K B wm Im) (hJ : JS B a bs t n pd dp c r 0 sl G Q Ix Jx Im) (hQ : Q → gd ∧ 2 * (G.2.2.2 G.1).length ≤ c) (hD : r = 0 → gd ∨ (0 ≤ dp ∧ dp ≤ tst bs t c)) :
    ∃ (c' r' : Nat) (G' : gG) (τ : Nat) (ty : Int32) (Ix' : aI) (Jx' : aJ) (wm' : aW) (Im' : aI) (Jm' : aJ), Cl K x 63 [.ref (B + 2), .int (it 0), .int (it 0)] w Ix Jx = some (none, w, Ix', Jx') ∧ Cl K y 101 [.ref (B + 46)] wm Im Jm = some (some (.int ty), wm', Im', Jm') ∧ FEx B a Ix Jx Ix' Jx' ∧ FMx B wm.2.2.1 Im Jm Im' Jm' ∧ WG' wm wm' (c' - c) ∧ c ≤ c' ∧ (r' = 0 → r = 0 ∧ c < c') ∧ JS B a bs t n pd dp c' r' 0 sl G' (Q ∧ Ext fa f G G' τ 50 ∧ τ ≤ 3 ∧ ty = it τ) Ix' Jx' Im' := by
  obtain ⟨hcn, hr1, hXT, hMR⟩ := JS_c hJ
  by_cases r0 : r = 0
  · subst r0
    obtain ⟨n1, n2⟩ := hN rfl
    obtain ⟨c', r', G', τ, ty, Ix', Jx', wm', Im', Jm', y1, y2, y3, y4, y5, y6, y7, y8, y9⟩ := (E_all (K := K) (pd := pd) (dp := dp) ha hX H hp (f4 rfl) 8 (by omega)).1 x y (by omega) (by omega) c sl G Q Ix Jx wm Im Jm hO n1 hS n2 hJ hQ (hD rfl)
    exact ⟨c', r', G', τ, ty, Ix', Jx', wm', Im', Jm', y1, y2, y3, y4, y5, y6, fun z => ⟨rfl, y7 z⟩, y9⟩
  · have r1 : r = 1 := by omega
    subst r1
    obtain ⟨x', rfl⟩ : ∃ x', x = x' + 6 + 6 := ⟨x - 12, by omega⟩
    obtain ⟨y', rfl⟩ : ∃ y', y = y' + 8 := ⟨y - 8, by omega⟩
    obtain ⟨Ix1, x1, x2, x3⟩ := x_63z (K := K) (dx := x') (Jx := Jx) (c := c) hX H 6 0 0 Ix (by omega) (by omega) (by omega) hXT
    obtain ⟨Im1, m1, m2, m3⟩ := s_102b (K := K) (d := y' + 6) (J := Jm) hS.1 hMR (JS_s (s' := 0) (by omega) hJ).2 (Or.inl rfl)
    refine ⟨c, 1, G, 0, it 0, Ix1, Jx, wm, Im1, Jm, x1, ?_, FX3_E ha x3, FMx_6 m2, WG_r, Nat.le_refl _, fun z => by omega, JS_Q rfl (JS_k (sl' := sl) ha hJ x3 x2 m2 m3 (by omega) (fun z => by omega))⟩
    apply cl_101 (k := 0)
    unfold f_101
    simp only [it_lit, gO_e (yt46 hS.1)]
    rw [m1]
    simp only [cI_e]
    rw [if_neg (by decide)]
/-- the type at i from the top, as the class reads it -/
theorem JS_67 {i : Nat} (H : Lay B w) (h : JS B a bs t n pd dp c r s sl G Q Ix Jx Im) (i1 : 1 ≤ i) (i2 : i < 1000) (hi : Q → i ≤ (G.2.2.2 G.1).length) : ∃ v, Cl K (d + 1) 67 [.ref (B + 2), .int (it i)] w Ix Jx = some (some (.int v), w, Ix, Jx) ∧ JS B a bs t n pd dp c r s sl G (Q ∧ v = it ((G.2.2.2 G.1).getD (i - 1) 0 : Nat)) Ix Jx Im := by
  obtain ⟨h, Nx, Nm, nfx, nfm, tfx, tfm, x, m, b1, b2, f⟩ := h
  refine ⟨_, s_67 (K := K) (d := d) (J := Jx) (i := i) H x i1 i2, h, Nx, Nm, nfx, nfm, tfx, tfm, x, m, b1, b2, fun r0 => ⟨(f r0).1, (f r0).2.imp id (fun z => ⟨z.1, z.2, ?_⟩)⟩⟩
  have := tTop_e (i := i) z.1.2.2.2.2.2.2.1 i1 (hi z.2)
  unfold tTop at this
  exact this
/-- how many places there are, as both have it -/
theorem JS_N (h : JS B a bs t n pd dp c r s sl G Q Ix Jx Im) : ∃ Nx Nm : Nat, Ix a 6 = it Nx ∧ Im (B + 46) 13 = it Nm ∧ Nx ≤ 1000 ∧ Nm ≤ 1000 ∧ JS B a bs t n pd dp c r s sl G (Q ∧ Nx = G.1 ∧ Nm = G.1) Ix Jx Im := by
  obtain ⟨h, Nx, Nm, nfx, nfm, tfx, tfm, x, m, b1, b2, f⟩ := h
  refine ⟨Nx, Nm, x.2.2.2.2.2.2.2.2.2.1, m.2.2.2.2.2.2.2.2.2.1, x.2.2.2.2.2.2.2.2.2.2, m.2.2.2.2.2.2.2.2.2.2, h, Nx, Nm, nfx, nfm, tfx, tfm, x, m, b1, b2, fun r0 => ⟨(f r0).1, (f r0).2.imp id (fun z => ⟨z.1, z.2, z.1.2.2.2.2.1, z.1.2.2.2.2.2.1⟩)⟩⟩
/-- an argument is patched -/
def pG (G : gG) (q : Nat) : gG := (G.1, G.2.1, sm_up1 G.2.2.1 q G.1, G.2.2.2)
theorem s_60 {N q : Nat} (hP : PL w a) (hN : I a 6 = it N) (N1 : N ≤ 1000) (q1 : q ≤ 1000) : Cl K (d + 2) 60 [.ref a, .int (it q)] w I J = some (none, w, (if q < N ∧ q < 200 then sm_up2 I (a + 2) q (it N) else I), J) := by
  obtain ⟨p0, p1, p2, p3, p4, p5, p6, q0, q1', q2, q3, q4, q5⟩ := hP
  have e61 : Cl K (d + 1) 61 [.ref a, .int (it q)] w I J = some (some (.int (it (if q < N ∧ q < 200 then 1 else 0))), w, I, J) := by
    apply cl_61 (k := 0)
    unfold f_61
    simp only [it_lit, gO_e p0]
    rw [hN, if_neg (fun q => by have := (it_lt (by omega) (by omega) (by omega) (by omega)).mp q; omega)]
    by_cases e1 : q < N
    · rw [if_neg (fun q => by have := (it_le (by omega) (by omega) (by omega) (by omega)).mp q; omega)]
      by_cases e2 : q < 200
      · rw [if_neg (fun q => by have := (it_le (by omega) (by omega) (by omega) (by omega)).mp q; omega), if_pos ⟨e1, e2⟩]
      · rw [if_pos ((it_le (by omega) (by omega) (by omega) (by omega)).mpr (by omega)), if_neg (fun z => e2 z.2)]
    · rw [if_pos ((it_le (by omega) (by omega) (by omega) (by omega)).mpr (by omega)), if_neg (fun z => e1 z.1)]
  apply cl_60 (k := 0)
  unfold f_60
  simp only [it_lit, gO_e p0, gV_e q1', lt_p]
  rw [e61]
  simp only [cI_e, gO_e p0, gV_e q1']
  by_cases e : q < N ∧ q < 200
  · rw [if_pos e, if_pos e, if_neg (by decide), gA_e p2 (Or.inl rfl) (ix (by omega) (by omega) (by omega)), it_n (by omega), hN]
  · rw [if_neg e, if_neg e, if_pos rfl]
theorem s_117 {N q : Nat} (H : Lay B wm) (h13 : Im (B + 46) 13 = it N) (q1 : q ≤ 1000) : Cl K (d + 1) 117 [.ref (B + 46), .int (it q)] wm Im Jm = some (none, wm, (if q < 300 then sm_up2 Im (B + 57) q (it N) else Im), Jm) := by
  apply cl_117 (k := 0)
  unfold f_117
  simp only [it_lit, gO_e (yt46 H), gV_e (yp46_15 H), lt_p]
  by_cases e : q < 300
  · rw [if_neg (fun q => by have := (it_le (by omega) (by omega) (by omega) (by omega)).mp q; omega), if_pos e, gA_e (yt57 H) (Or.inl rfl) (ix (by omega) (by omega) (by omega)), it_n (by omega), h13]
  · rw [if_pos ((it_le (by omega) (by omega) (by omega) (by omega)).mpr (by omega)), if_neg e]
theorem JS_ld {qx qm q : Nat} (ha : a = B + 8 ∨ a = B + 22) (H : Lay B w) (hS : SM K B wm Im) (h : JS B a bs t n pd dp c r s sl G Q Ix Jx Im) (x1 : qx ≤ 1000) (m1 : qm ≤ 1000) (hQ : Q → qx = q ∧ qm = q ∧ q < G.1) : ∃ Ix' Im', Cl K (d + 2) 60 [.ref a, .int (it qx)] w Ix Jx = some (none, w, Ix', Jx) ∧ Cl K (e + 1) 117 [.ref (B + 46), .int (it qm)] wm Im Jm = some (none, wm, Im', Jm) ∧ FEx B a Ix Jx Ix' Jx ∧ FMx B wm.2.2.1 Im Jm Im' Jm ∧ JS B a bs t n pd dp c r s sl (pG G q) Q Ix' Jx Im' := by
  obtain ⟨h, Nx, Nm, nfx, nfm, tfx, tfm, x, m, b1, b2, f⟩ := h
  have hN := x.2.2.2.2.2.2.2.2.2.1
  have N1 := x.2.2.2.2.2.2.2.2.2.2
  have hM := m.2.2.2.2.2.2.2.2.2.1
  refine ⟨_, _, s_60 (d := d) (PLx H ha) hN N1 x1, s_117 (d := e) hS.1 hM m1, ?_, ?_, h, Nx, Nm, nfx, nfm, tfx, tfm, ?_, ?_, b1, b2, fun r0 => ⟨(f r0).1, (f r0).2.imp id ?_⟩⟩
  · split
    · exact ⟨fun b _ _ _ _ _ h6 => up2_n h6, fun k _ _ _ => by rw [up2_n (by omega)], fun k _ => by rw [up2_n (by omega)], fun _ _ _ => rfl⟩
    · exact FEx_r
  · split
    · exact ⟨fun b _ _ _ h6 => up2_n h6, fun k _ _ _ _ _ _ _ _ _ => by rw [up2_n (by omega)], fun _ _ => rfl⟩
    · exact FMx_r
  · split
    · obtain ⟨x0, xr⟩ := x
      refine ⟨XT_f (up2_n (by omega)) (up2_n (by omega)) (up2_n (by omega)) (up2_n (by omega)) x0, ?_⟩
      rw [up2_n (by omega), up2_n (a := a + 2) (b := a) (by omega)]
      exact xr
    · exact x
  · split
    · obtain ⟨x0, xr⟩ := m
      refine ⟨MR_g (up2_n (by omega)) (up2_n (by omega)) x0, ?_⟩
      rw [up2_n (by omega)]
      exact xr
    · exact m
  · rintro ⟨⟨g1, g2, g3, g4, g5, g6, ⟨w1, w2, w3, w4⟩, g8⟩, hq⟩
    obtain ⟨k1, k2, k3⟩ := hQ hq
    refine ⟨⟨g1, g2, g3, g4, g5, g6, ⟨w1, ?_, w3, fun p p1 p2 => ?_⟩, fun p p1 p2 => ?_⟩, hq⟩
    · split
      · rw [up2_n (by omega)]; exact w2
      · exact w2
    · have p1' : p < G.1 := p1
      obtain ⟨v1, v2, v3⟩ := w4 p p1' p2
      show _ ∧ _ = it (sm_up1 G.2.2.1 q G.1 p : Nat) ∧ _
      by_cases ep : p = q
      · subst ep
        rw [if_pos ⟨by omega, by omega⟩, up1_s, up2_n (by omega), k1, up2_r, up1_s, g5]
        exact ⟨v1, rfl, v3⟩
      · rw [up1_n ep]
        split
        · rw [up2_n (by omega), up2_r, up1_n (by omega)]; exact ⟨v1, v2, v3⟩
        · exact ⟨v1, v2, v3⟩
    · have p1' : p < G.1 := p1
      obtain ⟨v1, v2⟩ := g8 p p1' p2
      show _ ∧ _ = it (sm_up1 G.2.2.1 q G.1 p : Nat)
      by_cases ep : p = q
      · subst ep
        rw [if_pos (by omega), up1_s, up2_n (by omega), k2, up2_r, up1_s, g6]
        exact ⟨v1, rfl⟩
      · rw [up1_n ep]
        split
        · rw [up2_n (by omega), up2_r, up1_n (by omega)]; exact ⟨v1, v2⟩
        · exact ⟨v1, v2⟩
end STM

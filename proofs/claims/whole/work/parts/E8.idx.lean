/-! both take a sign, go on to the next token; places in brackets -/
section TAK
variable {K : Nat → Value} {B d e a : Nat} {w wm : aW} {Ix Im : aI} {Jx Jm : aJ} {bs : Nat → Nat} {t n c r s sl k : Nat} {pd dp : Int} {G : gG} {Q : Prop}
theorem nxC_b : c ≤ nxC bs t c r k ∧ nxC bs t c r k ≤ c + 1 ∧ (nxR bs t c r k = 0 → r = 0 ∧ nxC bs t c r k = c + 1 ∧ kX bs t c r = k) ∧ (r ≤ 1 → nxR bs t c r k ≤ 1) ∧ (r = 1 → ¬ k = 3 → nxC bs t c r k = c ∧ nxR bs t c r k = 1) := by
  unfold nxC nxR
  by_cases h : kX bs t c r = k
  · rw [if_pos h, if_pos h]
    refine ⟨by omega, by omega, fun z => ⟨z, rfl, h⟩, fun z => z, fun z h3 => ?_⟩
    subst z
    exact absurd (h.symm.trans (by unfold kX; rw [if_neg (by omega)])) h3
  · rw [if_neg h, if_neg h]
    exact ⟨by omega, by omega, fun z => by omega, fun z => by omega, fun z _ => ⟨rfl, rfl⟩⟩
theorem JS_tk (hk : k ∈ sgs) (ha : a = B + 8 ∨ a = B + 22) (hX : TX bs t n) (H : Lay B w) (hS : SM K B wm Im) (h : JS B a bs t n pd dp c r s sl G Q Ix Jx Im) : ∃ Ix' Im', Cl K (d + 2) 41 [.ref (B + 3), .int (it k)] w Ix Jx = some (none, w, Ix', Jx) ∧ Cl K (e + 8) 93 [.ref (B + 46), .int (it k)] wm Im Jm = some (none, wm, Im', Jm) ∧ FEx B a Ix Jx Ix' Jx ∧ FMx B wm.2.2.1 Im Jm Im' Jm ∧ JS B a bs t n pd dp (nxC bs t c r k) (nxR bs t c r k) s sl G Q Ix' Jx Im' := by
  obtain ⟨_, _, hXT, hMR⟩ := JS_c h
  have hb := sgs_k hk
  obtain ⟨Ix', x1, x2, x3⟩ := s_41 (K := K) (d := d) (J := Jx) hX H hXT (k := k) rfl hb.2.2.2.1 (by omega) hb.1
  obtain ⟨Im', m1, m2, m3⟩ := s_93 (K := K) (d := e) (J := Jm) hX hS.1 hS.2.1 hS.2.2.1 hMR (x := k) rfl hk
  have hn := nxC_b (bs := bs) (t := t) (c := c) (r := r) (k := k)
  exact ⟨Ix', Im', x1, m1, FX3_E ha x3, FMx_6 m2, JS_k ha h x3 x2 m2 m3 (by omega) (fun z => (hn.2.2.1 z).1)⟩
theorem JS_nx (ha : a = B + 8 ∨ a = B + 22) (hX : TX bs t n) (H : Lay B w) (hS : SM K B wm Im) (h : JS B a bs t n pd dp c 0 s sl G Q Ix Jx Im) (h0 : ¬ kX bs t c 0 = 0) (h3 : ¬ kX bs t c 0 = 3) : c < n ∧ ∃ Ix' Im', Cl K (d + 1) 42 [.ref (B + 3)] w Ix Jx = some (none, w, Ix', Jx) ∧ Cl K (e + 6) 84 [.ref (B + 46)] wm Im Jm = some (none, wm, Im', Jm) ∧ FEx B a Ix Jx Ix' Jx ∧ FMx B wm.2.2.1 Im Jm Im' Jm ∧ JS B a bs t n pd dp (c + 1) 0 s (sl + 1) G Q Ix' Jx Im' := by
  obtain ⟨hcn, _, hXT, hMR⟩ := JS_c h
  obtain ⟨_, hc, _⟩ := kX_n hX hcn rfl h0 h3
  obtain ⟨Ix1, x1, x2, x3⟩ := s_42k (K := K) (d := d) (J := Jx) hX H hXT rfl h0 h3
  obtain ⟨Im1, m1, m2, m3⟩ := s_84k (K := K) (d := e) (J := Jm) hX hS.1 hS.2.1 hS.2.2.1 hMR hc
  exact ⟨hc, Ix1, Im1, x1, m1, FX3_E ha x3, FMx_6 m2, JS_k ha h x3 x2 m2 m3 (by omega) (fun z => z)⟩
/-- the reference's frame from a later heap -/
theorem FMx_w {m m' : Nat} {I I' : aI} {J J' : aJ} (hm : m ≤ m') (h : FMx B m' I J I' J') : FMx B m I J I' J' := ⟨fun b h1 => h.1 b (by omega), h.2.1, fun b hb => h.2.2 b (by omega)⟩
theorem JS_Q {Q' : Prop} (h1 : r = 1) (h : JS B a bs t n pd dp c r s sl G Q Ix Jx Im) {G' : gG} : JS B a bs t n pd dp c r s sl G' Q' Ix Jx Im := by
  obtain ⟨h, Nx, Nm, nfx, nfm, tfx, tfm, q1, q2, q3, q4, _⟩ := h
  exact ⟨h, Nx, Nm, nfx, nfm, tfx, tfm, q1, q2, q3, q4, fun z => by omega⟩
end TAK
abbrev qix (ty ty2 : Int32) : Prop := ty = it 2 ∧ ty2 = it 0
theorem qix_f {u l : Nat} (u3 : u ≤ 3) (l3 : l ≤ 3) : qix (it l) (it u) ↔ fitN 11 u l := by
  have : ∀ u l : Fin 4, (qix (it l.val) (it u.val) ↔ fitN 11 u.val l.val) := by decide +kernel
  exact this ⟨u, by omega⟩ ⟨l, by omega⟩
section IDX
variable {K : Nat → Value} {B d a : Nat} {w : aW} {bs : Nat → Nat} {t n s sl : Nat} {pd dp : Int} {G : gG} {Q gd : Prop} {f cnt : Nat} {vn ln : Nat → Nat} {fa : Nat → Nat → Nat}
theorem x_64n {dx c r i kx : Nat} {l2 l3 l4 : Int32} {Ix : aI} {Jx : aJ} (hX : TX bs t n) (H : Lay B w) (hXT : XT B bs t n c r Ix) (hi : i ≤ 239) (hk : ¬ kX bs t c r = 91) : f_64_119 K (kx + 1) (dx + 4) (B + 2) (it s) l2 l3 l4 (it i) w Ix Jx = some (none, w, Ix, Jx) := by
  have hkb := kX_b (bs := bs) (t := t) (c := c) (r := r)
  rw [f_64_119]
  simp only [it_lit, lt_p, gO_e (yt2 H), gV_e (yp2_0 H), gO_e (yt3 H)]
  rw [if_neg (fun q => by have := (it_le (by omega) (by omega) (by omega) (by omega)).mp q; omega), s_37 (d := dx + 3) H hXT hX.2.1]
  simp only [cI_e]
  rw [if_pos (fun q => by have := (it_eq (by omega) (by omega) (by omega) (by omega)).mp q; omega)]
theorem x_64y {dx c r i kx : Nat} {l2 l3 l4 : Int32} {Ix Ix1 Ix2 Ix3 Ix4 : aI} {Jx Jx2 Jx4 : aJ} {R : aR} (hX : TX bs t n) (H : Lay B w) (hXT : XT B bs t n c r Ix) (hi : i ≤ 239) (hs : s < 8) (hk : kX bs t c r = 91) (h2 : Cl K (dx + 4) 42 [.ref (B + 3)] w Ix Jx = some (none, w, Ix1, Jx)) (h3 : Cl K (dx + 4) 63 [.ref (B + 2), .int (it ((0 : Nat) : Int)), .int (it ((s + 1 : Nat) : Int))] w Ix1 Jx = some (none, w, Ix2, Jx2)) (h4 : Cl K (dx + 4) 41 [.ref (B + 3), .int (it 93)] w Ix2 Jx2 = some (none, w, Ix3, Jx2)) (h5 : Cl K (dx + 4) 66 [.ref (B + 2), .int (it 11), .int (it (tst bs t c : Nat))] w Ix3 Jx2 = some (none, w, Ix4, Jx4)) (h6 : f_64_119 K kx (dx + 4) (B + 2) (it s) l2 l3 l4 (it ((i + 1 : Nat) : Int)) w Ix4 Jx4 = some R) : f_64_119 K (kx + 1) (dx + 4) (B + 2) (it s) l2 l3 l4 (it i) w Ix Jx = some R := by
  have hkb := kX_b (bs := bs) (t := t) (c := c) (r := r)
  rw [f_64_119]
  simp only [it_lit, lt_p, gO_e (yt2 H), gV_e (yp2_0 H), gO_e (yt3 H)]
  rw [if_neg (fun q => by have := (it_le (by omega) (by omega) (by omega) (by omega)).mp q; omega), s_37 (d := dx + 3) H hXT hX.2.1]
  simp only [cI_e, gO_e (yt2 H), gV_e (yp2_0 H), gO_e (yt3 H)]
  rw [if_neg (fun q => q (by rw [hk]; rfl)), s_44 (d := dx + 3) H hXT hX.2.1]
  simp only [cI_e, gO_e (yt2 H), gV_e (yp2_0 H), gO_e (yt3 H)]
  rw [h2]
  simp only [cV_e, gO_e (yt2 H), gV_e (yp2_0 H), gO_e (yt3 H), it_add]
  have h3' : Cl K (dx + 4) 63 [.ref (B + 2), .int (it 0), .int (it ((s + 1 : Nat) : Int))] w Ix1 Jx = some (none, w, Ix2, Jx2) := h3
  rw [show (s : Int) + 1 = ((s + 1 : Nat) : Int) by omega, h3', show (i : Int) + 1 = ((i + 1 : Nat) : Int) by omega]
  simp only [cV_e, gO_e (yt2 H), gV_e (yp2_0 H), gO_e (yt3 H)]
  rw [h4]
  simp only [cV_e, gO_e (yt2 H)]
  rw [h5]
  exact h6
theorem m_203 {dy km : Nat} {wz : aW} {Iz : aI} {Jz : aJ} {x y : Int32} (hz : Lay B wz) (h9 : Iz (B + 46) 29 = it ((s + 1 : Nat) : Int)) : f_108_203 K km (dy + 8) (B + 46) y x wz Iz Jz = some (some (.int x), wz, sm_up2 Iz (B + 46) 29 (it s), Jz) := by
  unfold f_108_203
  simp only [it_lit, gO_e (yt46 hz), lt_p]
  rw [h9, it_sub, show (((s + 1 : Nat) : Int) - 1) = (s : Int) by omega]
theorem m_108n {dy c r km : Nat} {y ty : Int32} {wm : aW} {Im : aI} {Jm : aJ} (hX : TX bs t n) (H : Lay B wm) (hMR : MR B bs t n c r Im) (hk : ¬ kX bs t c r = 91) (h9 : Im (B + 46) 29 = it ((s + 1 : Nat) : Int)) : f_108_141 K (km + 1) (dy + 8) (B + 46) y ty wm Im Jm = some (some (.int ty), wm, sm_up2 Im (B + 46) 29 (it s), Jm) := by
  rw [f_108_141]
  simp only [it_lit, lt_p, gO_e (yt46 H)]
  rw [s_94 (d := dy + 7) H hMR hX (show it 91 = it ((91 : Nat) : Int) from rfl) (by decide), if_neg hk]
  simp only [cI_e]
  rw [if_pos trivial]
  exact m_203 H h9
theorem m_108y {dy c r km : Nat} {y ty ty2 : Int32} {wm wm2 : aW} {Im Im1 Im2 Im3 Im4 Im5 : aI} {Jm Jm2 : aJ} {R : aR} (hX : TX bs t n) (H : Lay B wm) (H2 : Lay B wm2) (hMR : MR B bs t n c r Im) (hk : kX bs t c r = 91) (h2 : Cl K (dy + 8) 84 [.ref (B + 46)] wm Im Jm = some (none, wm, Im1, Jm)) (h3 : Cl K (dy + 8) 101 [.ref (B + 46)] wm Im1 Jm = some (some (.int ty2), wm2, Im2, Jm2)) (h4 : Cl K (dy + 8) 93 [.ref (B + 46), .int (it 93)] wm2 Im2 Jm2 = some (none, wm2, Im3, Jm2)) (h5 : Cl K (dy + 8) 110 [.ref (B + 46), .int (it (if qix ty ty2 then 1 else 0)), .int (it (tst bs t c : Nat))] wm2 Im3 Jm2 = some (none, wm2, Im4, Jm2)) (h6 : Cl K (dy + 8) 111 [.ref (B + 46), .int (it 11), .int (it 0)] wm2 Im4 Jm2 = some (none, wm2, Im5, Jm2)) (h7 : f_108_141 K km (dy + 8) (B + 46) y (it 0) wm2 Im5 Jm2 = some R) : f_108_141 K (km + 1) (dy + 8) (B + 46) y ty wm Im Jm = some R := by
  have tail : ∀ x : Int32, x = it (if qix ty ty2 then 1 else 0) → f_108_187 K km (dy + 8) (f_108_141 K km (dy + 8)) (B + 46) y ty (it (tst bs t c : Nat)) ty2 (B + 46) x wm2 Im3 Jm2 = some R := by
    intro x hx
    subst hx
    unfold f_108_187
    simp only [it_lit, gO_e (yt46 H2)]
    rw [h5]
    simp only [cV_e, gO_e (yt46 H2)]
    rw [h6]
    exact h7
  rw [f_108_141]
  simp only [it_lit, lt_p, gO_e (yt46 H)]
  rw [s_94 (d := dy + 7) H hMR hX (show it 91 = it ((91 : Nat) : Int) from rfl) (by decide), if_pos hk]
  simp only [cI_e, gO_e (yt46 H)]
  rw [if_neg (by decide), h2]
  simp only [cV_e, gO_e (yt46 H)]
  rw [h3]
  simp only [cI_e, gO_e (yt46 H2)]
  rw [h4, hMR.2.2.2.2.1]
  simp only [cV_e]
  by_cases z1 : ty = it 2
  · rw [if_neg (fun q => q z1)]
    by_cases z2 : ty2 = it 0
    · rw [if_neg (fun q => q z2)]
      exact tail _ (by rw [if_pos ⟨z1, z2⟩])
    · rw [if_pos z2]
      unfold f_108_186
      simp only [it_lit]
      exact tail _ (by rw [if_neg (fun q => z2 q.2)])
  · rw [if_pos z1]
    unfold f_108_186
    simp only [it_lit]
    exact tail _ (by rw [if_neg (fun q => z1 q.1)])
theorem I_loop {b bb dx dy : Nat} {l2 l3 l4 y : Int32} (ha : a = B + 8 ∨ a = B + 22) (H : Lay B w) (hp : w.2.1 (B + 2) 1 = some a) (hX : TX bs t n) (hs : s < 8)
    (hR : Con K B a bs t n pd dp w f cnt vn fa ln gd (fun Ix Jx => Cl K (dx + 4) 63 [.ref (B + 2), .int (it ((0 : Nat) : Int)), .int (it ((s + 1 : Nat) : Int))] w Ix Jx) (fun wm Im Jm => Cl K (dy + 8) 101 [.ref (B + 46)] wm Im Jm) (s + 1) b) (hb1 : b + 1 ≤ bb) (hb2 : 2 ≤ bb) :
    ∀ (m c r i kx km : Nat) (G1 : gG) (τ : Nat) (ty : Int32) (Ix : aI) (Jx : aJ) (wm : aW) (Im : aI) (Jm : aJ), n + 1 ≤ c + m → m < kx → m < km → ((r = 0 → i + 1 ≤ c) ∧ i ≤ 239) → StO K B w Ix → NX B a f cnt vn fa ln gd Ix → SM K B wm Im → NM B f cnt vn fa ln gd Im → JS B a bs t n pd dp c r (s + 1) sl G1 (Q ∧ Ext fa f G G1 τ bb ∧ τ ≤ 3 ∧ ty = it τ) Ix Jx Im → (r = 0 → Q → gd ∧ 2 * (G.2.2.2 G.1).length + 1 ≤ c) → (gd ∨ (0 ≤ dp ∧ dp ≤ tst bs t c)) →
    ∃ (c' r' : Nat) (G' : gG) (τ' : Nat) (ty' : Int32) (Ix' : aI) (Jx' : aJ) (wm' : aW) (Im' : aI) (Jm' : aJ), f_64_119 K kx (dx + 4) (B + 2) (it s) l2 l3 l4 (it i) w Ix Jx = some (none, w, Ix', Jx') ∧ f_108_141 K km (dy + 8) (B + 46) y ty wm Im Jm = some (some (.int ty'), wm', sm_up2 Im' (B + 46) 29 (it s), Jm') ∧ FEx B a Ix Jx Ix' Jx' ∧ FMx B wm.2.2.1 Im Jm Im' Jm' ∧ WG' wm wm' (c' - c) ∧ c ≤ c' ∧ (r' = 0 → r = 0) ∧ (r = 1 → c' = c ∧ r' = 1) ∧ JS B a bs t n pd dp c' r' (s + 1) sl G' (Q ∧ Ext fa f G G' τ' bb ∧ τ' ≤ 3 ∧ ty' = it τ') Ix' Jx' Im' := by
  intro m
  induction m using Nat.strongRecOn with
  | ind m ih =>
    intro c r i kx km G1 τ ty Ix Jx wm Im Jm hm hkx hkm hi hO hNX hS hNM hJ hQ hD
    obtain ⟨kx, rfl⟩ : ∃ k', kx = k' + 1 := ⟨kx - 1, by omega⟩
    obtain ⟨km, rfl⟩ : ∃ k', km = k' + 1 := ⟨km - 1, by omega⟩
    obtain ⟨hcn, hr1, hXT, hMR⟩ := JS_c hJ
    have hn := hX.2.1
    have h29 := (JS_s (s' := s) (by omega) hJ).2
    by_cases hk : kX bs t c r = 91
    · have r0 : r = 0 := (kX_n hX hcn hk (by omega) (by omega)).1
      subst r0
      obtain ⟨hc, Ix1, Im1, x1, m1, fx1, fm1, hJ1⟩ := JS_nx (K := K) (d := dx + 3) (e := dy + 2) (Jm := Jm) ha hX H hS hJ (by omega) (by omega)
      have hS1 := SM_f (WG_r (k := 0)) fm1 hS
      obtain ⟨c2, r2, G2, τ2, ty2, Ix2, Jx2, wm2, Im2, Jm2, y1, y2, y3, y4, y5, y6, y7, y8, y9⟩ := hR (c + 1) (sl + 1) G1 _ Ix1 Jx wm Im1 Jm (StO_F ha fx1 hO) (NX_f ha fx1 hNX) hS1 (NM_f hS.2.2.2 fm1 hNM) hJ1 (fun z => ⟨(hQ rfl z.1).1, by
        have h1 := (hQ rfl z.1).2
        rw [z.2.1.2.2.2.1, List.length_cons]
        omega⟩) (hD.imp id (fun z => ⟨z.1, by have := tst_m hX (show c ≤ c + 1 by omega) hc; omega⟩))
      have hS2 : SM K B wm2 Im2 := SM_f y5 y4 hS1
      have fx2 : FEx B a Ix Jx Ix2 Jx2 := FEx_t fx1 y3
      have fm2 : FMx B wm.2.2.1 Im Jm Im2 Jm2 := FMx_t (Nat.le_refl _) fm1 y4
      obtain ⟨Ix3, Im3, t1, t2, fx3, fm3, hJ3⟩ := JS_tk (K := K) (d := dx + 2) (e := dy) (Jm := Jm2) (k := 93) (by decide) ha hX H hS2 y9
      have hS3 := SM_f (WG_r (k := 0)) fm3 hS2
      have hnx := nxC_b (bs := bs) (t := t) (c := c2) (r := r2) (k := 93)
      have htc : tst bs t c ≤ 240 := by have := tst_t bs t c; have := hX.1; omega
      obtain ⟨h, Nx, Nm, nfx, nfm, tfx, tfm, xE, mE, _⟩ := id hJ3
      obtain ⟨Ix4, Jx4, Im4, Im5, z1, z2, z3, z4, z5, z6⟩ := JS_op (K := K) (d := dx + 1) (e := dy + 7) (Jm := Jm2) (o := 11) (p := tst bs t c) (qix ty ty2) 2 ha H (StO_F ha (FEx_t fx2 fx3) hO) hp hS3.1 hJ3 hn (by omega) (by omega) htc τ2 τ (G.2.2.2 G.1) (by rw [if_neg (by omega)]) (by
        rintro ⟨⟨w1, w2, w3, w4⟩, w5, w6, w7⟩
        refine ⟨w6, w3, ?_, ?_, ?_⟩
        · rw [if_neg (by omega), w5.2.2.2.1, w2.2.2.2.1]
        · have := (hQ rfl w1).2; omega
        · rw [w4, w7]; exact qix_f w6 w3) 0 (by decide +kernel) (by omega)
      have hJ4 : JS B a bs t n pd dp (nxC bs t c2 r2 93) (nxR bs t c2 r2 93) (s + 1) sl (gE1 G2 11 0 (0 :: G.2.2.2 G.1)) (Q ∧ Ext fa f G (gE1 G2 11 0 (0 :: G.2.2.2 G.1)) 0 bb ∧ 0 ≤ 3 ∧ it 0 = it ((0 : Nat) : Int)) Ix4 Jx4 Im5 := JS_m (by
        rintro ⟨⟨⟨w1, w2, w3, w4⟩, w5, w6, w7⟩, w8⟩
        refine ⟨w1, Ext_2 w2 w5 (by omega) (gEf_2 (by omega) (by omega) w6 w3 (by omega) w8 (by decide +kernel)) (by omega) (by omega) (by omega), by omega, rfl⟩) (Nat.le_refl _) z6
      have c2n := (JS_c hJ4).1
      have fx4 := FEx_t (FEx_t fx2 fx3) z4
      have hS5 : SM K B wm2 Im5 := SM_f (WG_r (k := 0)) z5 hS3
      have fm5 : FMx B wm.2.2.1 Im Jm Im5 Jm2 := FMx_t (Nat.le_refl _) (FMx_t (Nat.le_refl _) fm2 (FMx_w y5.2.1 fm3)) (FMx_w y5.2.1 z5)
      obtain ⟨c', r', G', τ', ty', Ix', Jx', wm', Im', Jm', v1, v2, v3, v4, v5, v6, v7, v8, v9⟩ := ih (m - 1) (by omega) (nxC bs t c2 r2 93) (nxR bs t c2 r2 93) (i + 1) kx km _ _ (it 0) Ix4 Jx4 wm2 Im5 Jm2 (by omega) (by omega) (by omega) ⟨fun _ => by have := hi.1 rfl; omega, by have := hi.1 rfl; omega⟩ (StO_F ha fx4 hO) (NX_f ha fx4 hNX) hS5 (NM_f hS.2.2.2 fm5 hNM) hJ4 (fun _ z => ⟨(hQ rfl z).1, by have := (hQ rfl z).2; omega⟩) (hD.imp id (fun z => ⟨z.1, by have := tst_m hX (show c ≤ nxC bs t c2 r2 93 by omega) c2n; omega⟩))
      refine ⟨c', r', G', τ', ty', Ix', Jx', wm', Im', Jm', x_64y hX H hXT hi.2 hs hk x1 y1 t1 z1 v1, m_108y hX hS.1 hS2.1 hMR hk m1 y2 t2 z2 z3 v2, FEx_t fx4 v3, FMx_t y5.2.1 fm5 v4, WG_k (by omega) (WG_t y5 v5), by omega, fun _ => rfl, fun z => by omega, v9⟩
    · exact ⟨c, r, G1, τ, ty, Ix, Jx, wm, Im, Jm, x_64n hX H hXT hi.2 hk, m_108n hX hS.1 hMR hk h29, FEx_r, FMx_r, WG_r, Nat.le_refl _, fun z => z, fun z => ⟨rfl, z⟩, hJ⟩
end IDX

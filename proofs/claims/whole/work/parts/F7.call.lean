/-! a call from its name on -/
section CAL
variable {K : Nat → Value} {B d e a : Nat} {w wm : aW} {Ix Im I : aI} {Jx Jm J : aJ} {bs : Nat → Nat} {t n c r s sl b : Nat} {pd dp : Int} {G G1 : gG} {Q gd : Prop} {f cnt : Nat} {vn ln : Nat → Nat} {fa : Nat → Nat → Nat}
theorem x_69c {dx l : Nat} {sx : Int32} {Ix1 Ix2 : aI} {R : aR} (hX : TX bs t n) (H : Lay B w) (hXT : XT B bs t n c 0 Ix) (h45 : Cl K (dx + 3) 45 [.ref (B + 3)] w Ix Jx = some (some (.int (it l)), w, Ix1, Jx)) (hXT1 : XT B bs t n (c + 1) 0 Ix1) (h40 : kX bs t (c + 1) 0 = 40) (h42 : Cl K (dx + 3) 42 [.ref (B + 3)] w Ix1 Jx = some (none, w, Ix2, Jx)) (h : f_69_77 K 300 (dx + 3) (B + 2) sx (it (tst bs t c : Nat)) (it l) (it 0) w Ix2 Jx = some R) : Cl K (dx + 4) 69 [.ref (B + 2), .int sx] w Ix Jx = some R := by
  apply cl_69 (k := 300)
  unfold f_69
  simp only [it_lit, gO_e (yt2 H), gV_e (yp2_0 H), gO_e (yt3 H)]
  rw [s_44 (d := dx + 2) H hXT hX.2.1]
  simp only [cI_e, gO_e (yt2 H), gV_e (yp2_0 H), gO_e (yt3 H)]
  rw [h45]
  simp only [cI_e, gO_e (yt2 H), gV_e (yp2_0 H), gO_e (yt3 H)]
  rw [s_37 (d := dx + 2) H hXT1 hX.2.1]
  simp only [cI_e, gO_e (yt2 H), gV_e (yp2_0 H), gO_e (yt3 H)]
  rw [if_pos (show it (kX bs t (c + 1) 0 : Nat) = it 40 by rw [h40]; rfl), h42]
  exact h
theorem m_113 {dy : Nat} {l1 pl x : Int32} {Im1 : aI} {Jm1 : aJ} {R : aR} (H : Lay B (sm_alc wm 10 6 6)) (hJ1 : Jm1 = sm_up1 Jm wm.2.2.1 (fun _ => 0)) (h84 : Cl K (dy + 8) 84 [.ref (B + 46)] (sm_alc wm 10 6 6) (sm_up1 Im wm.2.2.1 (fun _ => it 0)) Jm1 = some (none, sm_alc wm 10 6 6, Im1, Jm1)) (h94 : Cl K (dy + 8) 94 [.ref (B + 46), .int (it 41)] (sm_alc wm 10 6 6) Im1 Jm1 = some (some (.int x), sm_alc wm 10 6 6, Im1, Jm1)) (h : f_113_28 K 1000 (dy + 8) (B + 46) l1 pl wm.2.2.1 (it 0) (if x = it 0 then it 1 else it 0) (sm_alc wm 10 6 6) Im1 Jm1 = some R) : Cl K (dy + 9) 113 [.ref (B + 46), .int l1, .int pl] wm Im Jm = some R := by
  subst hJ1
  apply cl_113 (k := 1000)
  unfold f_113
  simp only [it_lit, lt_p]
  rw [gC_e (by decide), show (it 6).toNatClampNeg = 6 from rfl]
  simp only [gO_e (yt46 H)]
  rw [h84]
  simp only [cV_e, gO_e (yt46 H)]
  rw [h94]
  simp only [cI_e]
  unfold f_113_26
  by_cases e : x = it 0
  · rw [if_pos e] at h
    rw [if_neg (fun q => q e)]
    exact h
  · rw [if_neg e] at h
    rw [if_pos e]
    exact h
theorem O_k {dx dy bE : Nat} (ha : a = B + 8 ∨ a = B + 22) (hX : TX bs t n) (H : Lay B w) (hp : w.2.1 (B + 2) 1 = some a) (hNP : NP f cnt vn fa ln gd) (hO : StO K B w Ix) (hNX : NX B a f cnt vn fa ln gd Ix) (hNM : NM B f cnt vn fa ln gd Im) (hS : SM K B wm Im) (h : JS B a bs t n pd dp c 0 s sl G Q Ix Jx Im) (hk : kX bs t c 0 = 1) (hk1 : kX bs t (c + 1) 0 = 40) (hQ : Q → gd ∧ 2 * (G.2.2.2 G.1).length ≤ c) (hD : gd ∨ (0 ≤ dp ∧ dp ≤ tst bs t c)) (hb : 6 + bE ≤ b)
    (hE : Con K B a bs t n pd dp w f cnt vn fa ln gd (fun Ix Jx => Cl K (dx + 3) 63 [.ref (B + 2), .int (it ((0 : Nat) : Int)), .int (it ((s : Nat) : Int))] w Ix Jx) (fun wm Im Jm => Cl K (dy + 8) 101 [.ref (B + 46)] wm Im Jm) s bE) :
    Cnc B a bs t n pd dp w f fa (Cl K (dx + 4) 69 [.ref (B + 2), .int (it s)] w Ix Jx) (Cl K (dy + 10) 112 [.ref (B + 46)] wm Im Jm) s b c sl G Q Ix Jx wm Im Jm := by
  obtain ⟨hcn, _, hXT, hMR⟩ := JS_c h
  have hn := hX.2.1
  have hB82 := hS.2.2.2
  have htc : tst bs t c ≤ 240 := by have := tst_t bs t c; have := hX.1; omega
  obtain ⟨l1, l2, l3, l4⟩ := nam_l (bs := bs) (t := t) (c := c) (by unfold kX at hk; rw [if_pos rfl] at hk; exact hk)
  obtain ⟨_, hcn1, _⟩ := kX_n hX hcn hk (by omega) (by omega)
  obtain ⟨Ix1, x1, x2, x3⟩ := s_45 (K := K) (d := dx + 1) (J := Jx) hX H hXT
  obtain ⟨Im1, m1, m2, m3⟩ := s_91 (K := K) (d := dy + 1) (J := Jm) hX hS.1 hS.2.1 hS.2.2.1 hMR
  unfold nxC nxR at x2 m3
  rw [if_pos hk, if_pos hk] at x2 m3
  rw [if_pos hk] at x1 m1
  have hJ1 : JS B a bs t n pd dp (c + 1) 0 s (sl + 1) G Q Ix1 Jx Im1 := JS_k ha h x3 x2 m2 m3 (by omega) (fun z => z)
  have fx1 : FEx B a Ix Jx Ix1 Jx := FX3_E ha x3
  have fm1 : FMx B wm.2.2.1 Im Jm Im1 Jm := FMx_6 m2
  have hS1 := SM_f (WG_r (k := 0)) fm1 hS
  have fma : FMx B wm.2.2.1 Im1 Jm (sm_up1 Im1 wm.2.2.1 (fun _ => it 0)) (sm_up1 Jm wm.2.2.1 (fun _ => 0)) := FMx_a.resolve_right (by omega)
  have hWa : WG' wm (sm_alc wm 10 6 6) 1 := WG_a
  have hSa := SM_f hWa fma hS1
  have hJa := JS_qn (q := wm.2.2.1) (x := fun _ => it 0) hB82 hJ1
  obtain ⟨hc2, Ix2, Im2, x4, m4, fx2, fm2, hJ2'⟩ := JS_nx (K := K) (d := dx + 2) (e := dy + 2) (Jm := sm_up1 Jm wm.2.2.1 (fun _ => 0)) ha hX H hSa hJa (by omega) (by omega)
  have hJ2 : JS B a bs t n pd dp (c + 2) 0 s (sl + 1) G Q Ix2 Jx Im2 := JS_m (fun z => z) (by omega) hJ2'
  have hS2 := SM_f (WG_r (k := 0)) fm2 hSa
  have hsz : (sm_alc wm 10 6 6).2.2.1 = wm.2.2.1 + 1 := rfl
  have fm02 : FMx B wm.2.2.1 Im Jm Im2 (sm_up1 Jm wm.2.2.1 (fun _ => 0)) := FMx_t (Nat.le_refl _) (FMx_t (Nat.le_refl _) fm1 fma) (FMx_w (by omega) fm2)
  have hNM2 := NM_f hS.2.2.2 fm02 hNM
  have fx02 := FEx_t fx1 fx2
  have hNX2 := NX_f ha fx02 hNX
  have hO2 := StO_F ha fx02 hO
  have hq : (sm_alc wm 10 6 6).1 wm.2.2.1 = some (10, 6) := up1_s _ _ _
  obtain ⟨hcn2, _, hXT2, hMR2⟩ := JS_c hJ2
  have e94 := s_94 (K := K) (d := dy + 7) (J := sm_up1 Jm wm.2.2.1 (fun _ => 0)) hS2.1 hMR2 hX (show it 41 = it ((41 : Nat) : Int) from rfl) (by decide)
  have e49 := s_49z (K := K) (d := dx + 1) (J := Jx) hX H hXT2
  have fin : ∀ (c' r' : Nat) (G' : gG) (τ : Nat) (ty : Int32) (Ix' : aI) (Jx' : aJ) (wm' : aW) (Im' : aI) (Jm' : aJ), f_69_77 K 300 (dx + 3) (B + 2) (it s) (it (tst bs t c : Nat)) (it (tvl bs t c : Nat)) (it 0) w Ix2 Jx = some (none, w, Ix', Jx') → f_113_28 K 1000 (dy + 8) (B + 46) (it ((tvl bs t c + 97 : Nat) : Int)) (it (tst bs t c : Nat)) wm.2.2.1 (it 0) (if it (if kX bs t (c + 2) 0 = 41 then 1 else 0) = it 0 then it 1 else it 0) (sm_alc wm 10 6 6) Im2 (sm_up1 Jm wm.2.2.1 (fun _ => 0)) = some (some (.int ty), wm', Im', Jm') → FEx B a Ix2 Jx Ix' Jx' → FMx B wm.2.2.1 Im2 (sm_up1 Jm wm.2.2.1 (fun _ => 0)) Im' Jm' → WG' (sm_alc wm 10 6 6) wm' (c' - (c + 2)) → c + 2 ≤ c' → JS B a bs t n pd dp c' r' s sl G' (Q ∧ Ext fa f G G' τ b ∧ τ ≤ 3 ∧ ty = it τ) Ix' Jx' Im' → Cnc B a bs t n pd dp w f fa (Cl K (dx + 4) 69 [.ref (B + 2), .int (it s)] w Ix Jx) (Cl K (dy + 10) 112 [.ref (B + 46)] wm Im Jm) s b c sl G Q Ix Jx wm Im Jm := by
    intro c' r' G' τ ty Ix' Jx' wm' Im' Jm' h1 h2 h3 h4 h5 h6 h7
    exact ⟨c', r', G', τ, ty, Ix', Jx', wm', Im', Jm', x_69c hX H hXT x1 x2 hk1 x4 h1, m_112h hX hS.1 hMR (by omega) (m_63C hX hS.1 hMR (by omega) (by omega) m1 m3 hk1 (m_113 hSa.1 rfl m4 e94 h2)), FEx_t fx02 h3, FMx_t (Nat.le_refl _) fm02 h4, WG_k (by omega) (WG_t hWa h5), by omega, fun _ => by omega, fun z => by omega, h7⟩
  rw [show tvl bs t c + 97 = 97 + tvl bs t c by omega] at fin
  have hex : Q → Q ∧ Exs fa f G G [] (0 + bE) ∧ ([] : List Nat).length = 0 ∧ (∀ τ ∈ ([] : List Nat), τ ≤ 3) ∧ ∀ k, k < 0 → k < 6 → Im2 wm.2.2.1 k = it ((([] : List Nat).getD (0 - 1 - k) 0 : Nat) : Int) := fun z => ⟨z, Exs_0, rfl, fun τ hτ => by simp at hτ, fun k hk => by omega⟩
  have hD2 : gd ∨ (0 ≤ dp ∧ dp ≤ tst bs t (c + 2)) := hD.imp id (fun z => ⟨z.1, by have := tst_m hX (show c ≤ c + 2 by omega) hcn2; omega⟩)
  by_cases k41 : kX bs t (c + 2) 0 = 41
  · rw [if_pos (Or.inl k41)] at e49
    rw [if_pos k41, if_neg (show ¬ it 1 = it 0 by decide)] at fin
    obtain ⟨G', τ', ty', Ix', Jx', Im', v1, v2, v3, v4, v5⟩ := C_end (K := K) (dx := dx) (dy := dy) (i := 0) (kx := 299) (km := 999) (q := wm.2.2.1) (bE := bE) (l := tvl bs t c) (pl := tst bs t c) (sx := it s) (ts := []) (Jm := sm_up1 Jm wm.2.2.1 (fun _ => 0)) (G := G) (Q := Q) (b := b) ha hX H hp hNP hNX2 hNM2 hS2 hq (by omega) hB82 (JS_m hex (Nat.le_refl _) hJ2) (by omega) (by omega) htc (fun z => ⟨(hQ z).1, by have := (hQ z).2; omega⟩) hD hb (by omega)
    have hnx := nxC_b (bs := bs) (t := t) (c := c + 2) (r := 0) (k := 41)
    exact fin _ _ G' τ' ty' Ix' Jx' _ Im' _ (x_77e (i := 0) H (by omega) e49 v1) v2 v3 (FMx_w (by omega) v4) WG_r (by omega) v5
  · rw [if_neg k41, if_pos (show it 0 = it 0 from rfl)] at fin
    obtain ⟨c2, r2, G2, τ2, ty2, Ix3, Jx3, wm3, Im3, Jm3, y1, y2, y3, y4, y5, y6, y7, y8, y9⟩ := hE (c + 2) (sl + 1) G Q Ix2 Jx _ Im2 _ hO2 hNX2 hS2 hNM2 hJ2 (fun z => ⟨(hQ z).1, by have := (hQ z).2; omega⟩) hD2
    have hq3 : wm3.1 wm.2.2.1 = some (10, 6) := by rw [(y5.1 _ (by omega)).1]; exact hq
    have hqs3 : wm.2.2.1 < wm3.2.2.1 := by have := y5.2.1; omega
    have hS3 := SM_f y5 y4 hS2
    have fm23 : FMx B wm.2.2.1 Im2 (sm_up1 Jm wm.2.2.1 (fun _ => 0)) Im3 Jm3 := FMx_w (by omega) y4
    have hNM3 := NM_f hS2.2.2.2 y4 hNM2
    obtain ⟨c2n, r21, hXT3, hMR3⟩ := JS_c y9
    by_cases k3 : kX bs t (c + 2) 0 = 3
    · rw [if_pos (Or.inr k3)] at e49
      obtain ⟨z1, z2⟩ := y8 k3
      subst z1 z2
      obtain ⟨Ix4, w1, w2, w3⟩ := s_41 (K := K) (d := dx + 1) (J := Jx) hX H hXT2 (k := 41) (show it 41 = it ((41 : Nat) : Int) from rfl) (by omega) (by omega) (by omega)
      unfold nxC nxR at w2
      rw [if_neg k41, if_neg k41] at w2
      have hS3k : SM K B wm3 (tyk wm.2.2.1 0 ty2 Im3) := tyk_S hB82 hS3
      have hJm := JS_mix (G' := G) (Q' := False) ha hJ2 (tyk_J (i := 0) (ty := ty2) hB82 y9) w3 w2
      obtain ⟨_, _, _, hMR4⟩ := JS_c hJm
      obtain ⟨Im5, u1, u2, u3⟩ := s_93 (K := K) (d := dy) (J := Jm3) hX hS3k.1 hS3k.2.1 hS3k.2.2.1 hMR4 (x := 41) (show it 41 = it ((41 : Nat) : Int) from rfl) (by decide)
      have kn : ¬ kX bs t (c + 2) 1 = 41 := by unfold kX; rw [if_neg (by omega)]; omega
      have kn4 : ¬ kX bs t (c + 2) 1 = 44 := by unfold kX; rw [if_neg (by omega)]; omega
      unfold nxC nxR at u3
      rw [if_neg kn, if_neg kn] at u3
      have hJ5 := JS_k (sl' := sl + 1) ha hJm (fun _ _ => rfl) w2 u2 u3 (by omega) (fun z => z)
      have fm5 : FMx B wm3.2.2.1 (tyk wm.2.2.1 0 ty2 Im3) Jm3 Im5 Jm3 := FMx_6 u2
      have hS5 := SM_f (WG_r (k := 0)) fm5 hS3k
      have hNM5 := NM_f hS3.2.2.2 fm5 (tyk_N (i := 0) (ty := ty2) hB82 hNM3)
      obtain ⟨ty, Ix6, Jx6, Im6, v1, v2, v3, v4, v5⟩ := C_bd (K := K) (dx := dx) (dy := dy) (ix := 0) (im := 1) (kx := 299) (km := 998) (q := wm.2.2.1) (l := tvl bs t c) (pl := tst bs t c) (sx := it s) (l1 := it (97 + tvl bs t c : Nat)) (Jm := Jm3) (f := f) ha hX H hp hNP.1 hNM5.1 hS5 hq3 w1 u1 hJ5 (by omega) (by omega) (by omega) htc (fun z => by omega) (by omega)
      have e44 := s_94 (K := K) (d := dy + 7) (J := Jm3) hS3k.1 hMR4 hX (show it 44 = it ((44 : Nat) : Int) from rfl) (by decide)
      rw [if_neg kn4] at e44
      refine fin (c + 2) 1 G 0 ty Ix6 Jx6 wm3 Im6 Jm3 (x_77e (i := 0) H (by omega) e49 v1) ?_ (FEx_t (FX3_E ha w3) v3) (FMx_t (Nat.le_refl _) (FMx_t (Nat.le_refl _) (FMx_t (Nat.le_refl _) fm23 (tyk_F (Nat.le_refl _) hB82)) (FMx_w (by omega) fm5)) (FMx_w (by omega) v4)) y5 (Nat.le_refl _) (v5 _ _)
      have e28 := m_28s (km := 999) (i := 0) (l1 := it (97 + tvl bs t c : Nat)) (pl := it (tst bs t c : Nat)) hS2.1 hq3 (by omega) y2
      refine e28.trans ?_
      rw [m_52e hS3k.1 e44]
      exact v2
    · rw [if_neg (by omega)] at e49
      have hJ3 : JS B a bs t n pd dp c2 r2 s (sl + 1) G2 (Q ∧ Exs fa f G G2 [τ2] (0 + 1 + bE) ∧ [τ2].length = 0 + 1 ∧ (∀ τ ∈ [τ2], τ ≤ 3) ∧ ∀ k, k < 0 + 1 → k < 6 → tyk wm.2.2.1 0 ty2 Im3 wm.2.2.1 k = it (([τ2] : List Nat).getD (0 + 1 - 1 - k) 0 : Nat)) Ix3 Jx3 (tyk wm.2.2.1 0 ty2 Im3) := tyk_J hB82 (JS_m (by
        rintro ⟨q1, q6, q7, q8⟩
        refine ⟨q1, Exs_c (b1 := 0) Exs_0 q6 (by omega) (by simp), rfl, ?_, fun k k1 k2 => ?_⟩
        · intro τ hτ
          rw [List.mem_singleton.mp hτ]; exact q7
        · have ek : k = 0 := by omega
          subst ek
          rw [tyk_q k2, if_pos rfl, q8]; rfl) (Nat.le_refl _) y9)
      obtain ⟨c', r', G', τ', ty', Ix', Jx', wm', Im', Jm', v1, v2, v3, v4, v5, v6, v7⟩ := C_loop (K := K) (bE := bE) (dx := dx) (dy := dy) (l := tvl bs t c) (pl := tst bs t c) (q := wm.2.2.1) (m0 := wm.2.2.1) (c0 := c) (G := G) (Q := Q) (b := b) ha hX H hp hNP (Nat.le_refl _) hB82 (by omega) htc hQ hD (Nat.le_refl _) hb hE 241 c2 r2 0 299 999 G2 [τ2] (it 1) ty2 Ix3 Jx3 wm3 (tyk wm.2.2.1 0 ty2 Im3) Jm3 (by omega) (by omega) (by omega) (by omega) (StO_F ha y3 hO2) (NX_f ha y3 hNX2) (tyk_S hB82 hS3) (tyk_N hB82 hNM3) hq3 hqs3 hJ3
      refine fin c' r' G' τ' ty' Ix' Jx' wm' Im' Jm' (x_77s (i := 0) H (by omega) e49 y1 v1) ?_ (FEx_t y3 v3) (FMx_t (Nat.le_refl _) (FMx_t (Nat.le_refl _) fm23 (tyk_F (Nat.le_refl _) hB82)) v4) (WG_k (by omega) (WG_t y5 v5)) (by omega) v7
      have e28 := m_28s (km := 999) (i := 0) (l1 := it (97 + tvl bs t c : Nat)) (pl := it (tst bs t c : Nat)) hS2.1 hq3 (by omega) y2
      exact e28.trans v2
end CAL

/-! a call -/
section CAL
variable {K : Nat → Value} {B d e a : Nat} {w wm : aW} {Ix Im I : aI} {Jx Jm J : aJ} {bs : Nat → Nat} {t n c r s sl b : Nat} {pd dp : Int} {G G1 : gG} {Q gd : Prop} {f cnt : Nat} {vn ln : Nat → Nat} {fa : Nat → Nat → Nat}
theorem SM_q {q k : Nat} {x : Int32} (hB : B + 75 ≤ q) (hS : SM K B wm I) : SM K B wm (sm_up2 I q k x) := ⟨hS.1, hS.2.1, StO_c (fun b hb => ⟨up2_n (by omega), rfl, rfl⟩) hS.2.2.1, hS.2.2.2⟩
theorem NM_q {q k : Nat} {x : Int32} (hB : B + 75 ≤ q) (hN : NM B f cnt vn fa ln gd I) : NM B f cnt vn fa ln gd (sm_up2 I q k x) := by
  unfold NM at hN ⊢
  rw [up2_n (by omega), up2_n (a := q) (b := B + 52) (by omega), up2_n (a := q) (b := B + 54) (by omega), up2_n (a := q) (b := B + 55) (by omega), up2_n (a := q) (b := B + 49) (by omega), up2_n (a := q) (b := B + 51) (by omega), up2_n (a := q) (b := B + 53) (by omega)]
  exact hN
theorem JS_mix {G2 G' : gG} {Q2 Q' : Prop} {Ix' Ix2 Im2 : aI} {Jx2 : aJ} (ha : a = B + 8 ∨ a = B + 22) (h1 : JS B a bs t n pd dp c r s sl G Q Ix Jx Im) (h2 : JS B a bs t n pd dp c 1 s sl G2 Q2 Ix2 Jx2 Im2) (x3 : FX3 B Ix Ix') (xT : XT B bs t n c 1 Ix') : JS B a bs t n pd dp c 1 s sl G' Q' Ix' Jx Im2 := by
  obtain ⟨h, Nx, Nm, nfx, nfm, tfx, tfm, x, m, b1, b2, f⟩ := h1
  obtain ⟨h', Nx', Nm', nfx', nfm', tfx', tfm', x', m', b1', b2', f'⟩ := h2
  exact ⟨h, Nx, Nm', nfx, nfm', tfx, tfm', XE_3 ha x x3 xT, m', b1, b2', fun z => by omega⟩
theorem x_77e {dx kx i l : Nat} {sx pl : Int32} {Ix1 : aI} {R : aR} (H : Lay B w) (hi : i < 240) (h49 : Cl K (dx + 3) 49 [.ref (B + 2), .int (it i)] w Ix Jx = some (some (.int (it 0)), w, Ix1, Jx)) (h : f_69_106 K kx (dx + 3) (B + 2) sx pl (it l) (it i) w Ix1 Jx = some R) : f_69_77 K (kx + 1) (dx + 3) (B + 2) sx pl (it l) (it i) w Ix Jx = some R := by
  rw [f_69_77]
  simp only [it_lit, lt_p, gO_e (yt2 H)]
  rw [if_neg (fun q => by have := (it_le (by omega) (by omega) (by omega) (by omega)).mp q; omega), h49]
  simp only [cI_e]
  rw [if_pos trivial]
  exact h
theorem x_77s {dx kx i l : Nat} {sx pl : Int32} {Ix1 Ix2 : aI} {Jx2 : aJ} {R : aR} (H : Lay B w) (hi : i < 240) (h49 : Cl K (dx + 3) 49 [.ref (B + 2), .int (it i)] w Ix Jx = some (some (.int (it 1)), w, Ix1, Jx)) (h63 : Cl K (dx + 3) 63 [.ref (B + 2), .int (it ((0 : Nat) : Int)), .int sx] w Ix1 Jx = some (none, w, Ix2, Jx2)) (h : f_69_77 K kx (dx + 3) (B + 2) sx pl (it l) (it ((i + 1 : Nat) : Int)) w Ix2 Jx2 = some R) : f_69_77 K (kx + 1) (dx + 3) (B + 2) sx pl (it l) (it i) w Ix Jx = some R := by
  have h63' : Cl K (dx + 3) 63 [.ref (B + 2), .int (it 0), .int sx] w Ix1 Jx = some (none, w, Ix2, Jx2) := h63
  rw [f_69_77]
  simp only [it_lit, lt_p, gO_e (yt2 H)]
  rw [if_neg (fun q => by have := (it_le (by omega) (by omega) (by omega) (by omega)).mp q; omega), h49]
  simp only [cI_e, gO_e (yt2 H)]
  rw [if_neg (by decide), h63']
  simp only [cV_e, it_add]
  rw [show (i : Int) + 1 = ((i + 1 : Nat) : Int) by omega]
  exact h
theorem m_52e {dy km j q : Nat} {l1 pl l5 l6 : Int32} {r28 : Nat → Int32 → Int32 → Nat → Int32 → Int32 → aW → aI → aJ → Option aR} (H : Lay B wm) (h94 : Cl K (dy + 8) 94 [.ref (B + 46), .int (it 44)] wm Im Jm = some (some (.int (it 0)), wm, Im, Jm)) : f_113_52 K km (dy + 8) r28 (B + 46) l1 pl q (it j) l5 l6 wm Im Jm = r28 (B + 46) l1 pl q (it ((j + 1 : Nat) : Int)) (it 0) wm Im Jm := by
  unfold f_113_52
  simp only [it_lit, lt_p, gO_e (yt46 H), it_add]
  rw [h94]
  simp only [cI_e]
  rw [if_pos trivial]
  unfold f_113_72
  rw [show (j : Int) + 1 = ((j + 1 : Nat) : Int) by omega]
theorem m_52s {dy km j q : Nat} {l1 pl l5 l6 : Int32} {Im1 : aI} {r28 : Nat → Int32 → Int32 → Nat → Int32 → Int32 → aW → aI → aJ → Option aR} (H : Lay B wm) (h94 : Cl K (dy + 8) 94 [.ref (B + 46), .int (it 44)] wm Im Jm = some (some (.int (it 1)), wm, Im, Jm)) (h84 : Cl K (dy + 8) 84 [.ref (B + 46)] wm Im Jm = some (none, wm, Im1, Jm)) : f_113_52 K km (dy + 8) r28 (B + 46) l1 pl q (it j) l5 l6 wm Im Jm = r28 (B + 46) l1 pl q (it ((j + 1 : Nat) : Int)) (it 1) wm Im1 Jm := by
  unfold f_113_52
  simp only [it_lit, lt_p, gO_e (yt46 H), it_add]
  rw [h94]
  simp only [cI_e, gO_e (yt46 H)]
  rw [if_neg (by decide), h84]
  simp only [cV_e]
  unfold f_113_72
  rw [show (j : Int) + 1 = ((j + 1 : Nat) : Int) by omega]
/-- a value given is kept -/
def tyk (q i : Nat) (ty : Int32) (I : aI) : aI := if 6 ≤ i then I else sm_up2 I q i ty
theorem m_28s {dy km i q : Nat} {l1 pl ty : Int32} {wm2 : aW} {Im2 : aI} {Jm2 : aJ} (H : Lay B wm) (hq : wm2.1 q = some (10, 6)) (hi : i ≤ 240) (h101 : Cl K (dy + 8) 101 [.ref (B + 46)] wm Im Jm = some (some (.int ty), wm2, Im2, Jm2)) : f_113_28 K (km + 1) (dy + 8) (B + 46) l1 pl q (it i) (it 1) wm Im Jm = f_113_52 K km (dy + 8) (f_113_28 K km (dy + 8)) (B + 46) l1 pl q (it i) (it 1) ty wm2 (tyk q i ty Im2) Jm2 := by
  rw [f_113_28]
  simp only [it_lit, lt_p, gO_e (yt46 H)]
  rw [if_neg (by decide), h101]
  simp only [cI_e]
  unfold tyk
  by_cases e : 6 ≤ i
  · rw [if_pos ((it_le (by omega) (by omega) (by omega) (by omega)).mpr (by omega)), if_pos e]
  · rw [if_neg (fun q => by have := (it_le (by omega) (by omega) (by omega) (by omega)).mp q; omega), if_neg e, gA_e hq (Or.inl rfl) (ix (by omega) (by omega) (by omega)), it_n (by omega)]
theorem tyk_S {q i : Nat} {ty : Int32} (hB : B + 75 ≤ q) (hS : SM K B wm I) : SM K B wm (tyk q i ty I) := by
  unfold tyk; split
  · exact hS
  · exact SM_q hB hS
theorem tyk_N {q i : Nat} {ty : Int32} (hB : B + 75 ≤ q) (hN : NM B f cnt vn fa ln gd I) : NM B f cnt vn fa ln gd (tyk q i ty I) := by
  unfold tyk; split
  · exact hN
  · exact NM_q hB hN
theorem tyk_J {q i : Nat} {ty : Int32} (hB : B + 75 ≤ q) (h : JS B a bs t n pd dp c r s sl G Q Ix Jx Im) : JS B a bs t n pd dp c r s sl G Q Ix Jx (tyk q i ty Im) := by
  unfold tyk; split
  · exact h
  · exact JS_q hB h
theorem tyk_F {m0 q i : Nat} {ty : Int32} (hq : m0 ≤ q) (hB : B + 75 ≤ m0) : FMx B m0 I J (tyk q i ty I) J := by
  unfold tyk; split
  · exact FMx_r
  · exact FMx_qu hq hB
theorem tyk_q {q i k : Nat} {ty : Int32} (hk : k < 6) : tyk q i ty I q k = if k = i then ty else I q k := by
  unfold tyk
  by_cases e : 6 ≤ i
  · rw [if_pos e, if_neg (by omega)]
  · rw [if_neg e, up2_r]; rfl
theorem C_loop {bE dx dy l pl q m0 c0 : Nat} (ha : a = B + 8 ∨ a = B + 22) (hX : TX bs t n) (H : Lay B w) (hp : w.2.1 (B + 2) 1 = some a) (hNP : NP f cnt vn fa ln gd) (hmq : m0 ≤ q) (hB : B + 75 ≤ m0) (hl : l < 26) (hpl : pl ≤ 240) (hQ : Q → gd ∧ 2 * (G.2.2.2 G.1).length ≤ c0) (hD : gd ∨ (0 ≤ dp ∧ dp ≤ pl)) (hpc : pl ≤ tst bs t c0) (hb : 6 + bE ≤ b)
    (hE : Con K B a bs t n pd dp w f cnt vn fa ln gd (fun Ix Jx => Cl K (dx + 3) 63 [.ref (B + 2), .int (it ((0 : Nat) : Int)), .int (it ((s : Nat) : Int))] w Ix Jx) (fun wm Im Jm => Cl K (dy + 8) 101 [.ref (B + 46)] wm Im Jm) s bE) :
    ∀ (m c r i kx km : Nat) (G1 : gG) (ts : List Nat) (l5 l6 : Int32) (Ix : aI) (Jx : aJ) (wm : aW) (Im : aI) (Jm : aJ), n + 1 ≤ c + m → m < kx → 100 + m < km → c0 + 2 * i + 2 ≤ c + r → StO K B w Ix → NX B a f cnt vn fa ln gd Ix → SM K B wm Im → NM B f cnt vn fa ln gd Im → wm.1 q = some (10, 6) → q < wm.2.2.1 → JS B a bs t n pd dp c r s (sl + 1) G1 (Q ∧ Exs fa f G G1 ts (i + 1 + bE) ∧ ts.length = i + 1 ∧ (∀ τ ∈ ts, τ ≤ 3) ∧ ∀ k, k < i + 1 → k < 6 → Im q k = it (ts.getD (i + 1 - 1 - k) 0 : Nat)) Ix Jx Im →
    ∃ (c' r' : Nat) (G' : gG) (τ : Nat) (ty : Int32) (Ix' : aI) (Jx' : aJ) (wm' : aW) (Im' : aI) (Jm' : aJ), f_69_77 K kx (dx + 3) (B + 2) (it s) (it pl) (it l) (it ((i + 1 : Nat) : Int)) w Ix Jx = some (none, w, Ix', Jx') ∧ f_113_52 K km (dy + 8) (f_113_28 K km (dy + 8)) (B + 46) (it (97 + l : Nat)) (it pl) q (it i) l5 l6 wm Im Jm = some (some (.int ty), wm', Im', Jm') ∧ FEx B a Ix Jx Ix' Jx' ∧ FMx B m0 Im Jm Im' Jm' ∧ WG' wm wm' (c' - c) ∧ c ≤ c' ∧ JS B a bs t n pd dp c' r' s sl G' (Q ∧ Ext fa f G G' τ b ∧ τ ≤ 3 ∧ ty = it τ) Ix' Jx' Im' := by
  intro m
  induction m using Nat.strongRecOn with
  | ind m ih =>
    intro c r i kx km G1 ts l5 l6 Ix Jx wm Im Jm hm hkx hkm hic hO hNX hS hNM hq hqs hJ
    obtain ⟨kx, rfl⟩ : ∃ k', kx = k' + 1 := ⟨kx - 1, by omega⟩
    obtain ⟨km, rfl⟩ : ∃ k', km = k' + 1 := ⟨km - 1, by omega⟩
    obtain ⟨hcn, hr1, hXT, hMR⟩ := JS_c hJ
    have hn := hX.2.1
    have hBq : B + 75 ≤ q := by omega
    have e94 := s_94 (K := K) (d := dy + 7) (J := Jm) hS.1 hMR hX (show it 44 = it ((44 : Nat) : Int) from rfl) (by decide)
    obtain ⟨Ix1, x1, x2, x3⟩ := s_49s (K := K) (d := dx + 1) (J := Jx) (i := i + 1) hX H hXT (by omega) (by omega)
    have fx1 : FEx B a Ix Jx Ix1 Jx := FX3_E ha x3
    by_cases hk : kX bs t c r = 44
    · obtain ⟨r0, hc, _⟩ := kX_n hX hcn hk (by omega) (by omega)
      subst r0
      rw [if_pos hk] at x1 x2 e94
      obtain ⟨Im1, m1, m2, m3⟩ := s_84k (K := K) (d := dy + 2) (J := Jm) hX hS.1 hS.2.1 hS.2.2.1 hMR hc
      have fm1 : FMx B wm.2.2.1 Im Jm Im1 Jm := FMx_6 m2
      have hS1 := SM_f (WG_r (k := 0)) fm1 hS
      have hJ1 := JS_k (sl' := sl + 1) ha hJ x3 x2 m2 m3 (by omega) (fun z => z)
      obtain ⟨c2, r2, G2, τ2, ty2, Ix2, Jx2, wm2, Im2, Jm2, y1, y2, y3, y4, y5, y6, y7, y8, y9⟩ := hE (c + 1) (sl + 1) G1 _ Ix1 Jx wm Im1 Jm (StO_F ha fx1 hO) (NX_f ha fx1 hNX) hS1 (NM_f hS.2.2.2 fm1 hNM) hJ1 (fun z => ⟨(hQ z.1).1, by
        have h1 := (hQ z.1).2
        rw [z.2.1.2.2.2.1, List.length_append, z.2.2.1]
        omega⟩) (hD.imp id (fun z => ⟨z.1, by have := tst_m hX (show c0 ≤ c + 1 by omega) hc; omega⟩))
      have hq2 : wm2.1 q = some (10, 6) := by rw [(y5.1 q hqs).1]; exact hq
      have hqs2 : q < wm2.2.2.1 := by have := y5.2.1; omega
      have hS2 : SM K B wm2 Im2 := SM_f y5 y4 hS1
      have fm2 : FMx B wm.2.2.1 Im Jm Im2 Jm2 := FMx_t (Nat.le_refl _) fm1 y4
      have hqq : Im2 q = Im q := FMx_q fm2 hqs hBq
      have hNM2 := NM_f hS.2.2.2 fm2 hNM
      have fx2 := FEx_t fx1 y3
      obtain ⟨c2n, r21, _⟩ := JS_c y9
      have hJ3 : JS B a bs t n pd dp c2 r2 s (sl + 1) G2 (Q ∧ Exs fa f G G2 (τ2 :: ts) (i + 1 + 1 + bE) ∧ (τ2 :: ts).length = i + 1 + 1 ∧ (∀ τ ∈ (τ2 :: ts), τ ≤ 3) ∧ ∀ k, k < i + 1 + 1 → k < 6 → tyk q (i + 1) ty2 Im2 q k = it ((τ2 :: ts).getD (i + 1 + 1 - 1 - k) 0 : Nat)) Ix2 Jx2 (tyk q (i + 1) ty2 Im2) := tyk_J hBq (JS_m (by
        rintro ⟨⟨q1, q2, q3, q4, q5⟩, q6, q7, q8⟩
        refine ⟨q1, Exs_c q2 q6 (by omega) (by omega), by rw [List.length_cons, q3], ?_, fun k k1 k2 => ?_⟩
        · intro τ hτ
          rcases List.mem_cons.mp hτ with z | z
          · rw [z]; exact q7
          · exact q4 τ z
        · rw [tyk_q k2]
          by_cases ek : k = i + 1
          · rw [if_pos ek, ek, show i + 1 + 1 - 1 - (i + 1) = 0 by omega, q8]; rfl
          · rw [if_neg ek, hqq, q5 k (by omega) k2, show i + 1 + 1 - 1 - k = (i + 1 - 1 - k) + 1 by omega]; rfl) (Nat.le_refl _) y9)
      obtain ⟨c', r', G', τ', ty', Ix', Jx', wm', Im', Jm', v1, v2, v3, v4, v5, v6, v7⟩ := ih (m - 1) (by omega) c2 r2 (i + 1) kx km G2 (τ2 :: ts) (it 1) ty2 Ix2 Jx2 wm2 (tyk q (i + 1) ty2 Im2) Jm2 (by omega) (by omega) (by omega) (by
        by_cases z : r2 = 0
        · have := y7 z; omega
        · omega) (StO_F ha fx2 hO) (NX_f ha fx2 hNX) (tyk_S hBq hS2) (tyk_N hBq hNM2) hq2 hqs2 hJ3
      refine ⟨c', r', G', τ', ty', Ix', Jx', wm', Im', Jm', x_77s H (by omega) x1 y1 v1, ?_, FEx_t fx2 v3, FMx_t (Nat.le_refl _) (FMx_t (Nat.le_refl _) (FMx_w (by omega) fm2) (tyk_F hmq hB)) v4, WG_k (by omega) (WG_t y5 v5), by omega, v7⟩
      rw [m_52s hS.1 e94 m1, m_28s hS.1 hq2 (by omega) y2]
      exact v2
    · rw [if_neg hk] at x1 x2 e94
      have hJ1 := JS_k (Im' := Im) (sl' := sl + 1) ha hJ x3 x2 FM6_r hMR (by omega) (fun z => z)
      have hnx := nxC_b (bs := bs) (t := t) (c := c) (r := r) (k := 41)
      obtain ⟨G', τ', ty', Ix', Jx', Im', v1, v2, v3, v4, v5⟩ := C_end (K := K) (dx := dx) (dy := dy) (i := i + 1) (kx := kx) (km := km) (q := q) (bE := bE) (l := l) (pl := pl) (sx := it s) (ts := ts) (Jm := Jm) (G := G) (Q := Q) (b := b) ha hX H hp hNP (NX_f ha fx1 hNX) hNM hS hq hqs hBq hJ1 (by omega) hl hpl (fun z => ⟨(hQ z).1, by have := (hQ z).2; omega⟩) hD hb (by omega)
      refine ⟨_, _, G', τ', ty', Ix', Jx', wm, Im', Jm, x_77e H (by omega) x1 v1, ?_, FEx_t fx1 v3, FMx_w (by omega) v4, WG_r, hnx.1, v5⟩
      rw [m_52e hS.1 e94]
      exact v2
end CAL

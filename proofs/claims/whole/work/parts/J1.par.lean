/-! a parameter, both -/
section PAR
variable {K : Nat → Value} {B d e a : Nat} {w wm wm' : aW} {Ix Im I I' I'' Ix' Im' : aI} {Jx Jm J J' J'' Jx' Jm' : aJ} {bs : Nat → Nat} {t n c r s sl sl' b op op' m m' : Nat} {pd dp : Int} {G G1 G' Gs G2 G3 : gG} {Q gd Q0 Q0' : Prop} {f cnt cnt' st st' : Nat} {vn vn' ln : Nat → Nat} {fa fa' fa0 fa0' fs : Nat → Nat → Nat} {G0 G0' : gG} {P P' : Nat → Prop}
/-- both note a name; from here on there is a name fault up to p -/
theorem JS_nq {p : Nat} {dp' : Int} (ha : a = B + 8 ∨ a = B + 22) (H : Lay B w) (Hm : Lay B wm) (h : JS B a bs t n pd dp c r s sl G Q Ix Jx Im) (hpp : p ≤ 240) (hdp : dp' = if dp < 0 then (p : Int) else dp) :
    ∃ Ix' Im', Cl K (d + 1) 48 [.ref (B + 2), .int (it p)] w Ix Jx = some (none, w, Ix', Jx) ∧ Cl K (e + 1) 92 [.ref (B + 46), .int (it 0), .int (it p)] wm Im Jm = some (none, wm, Im', Jm) ∧ FEx B a Ix Jx Ix' Jx ∧ FMx B wm.2.2.1 Im Jm Im' Jm ∧ JS B a bs t n pd dp' c r s sl G False Ix' Jx Im' := by
  obtain ⟨h, Nx, Nm, nfx, nfm, tfx, tfm, x, m, b1, b2, f⟩ := h
  obtain ⟨Ix', y1, y2, y3, y4, y5, y6⟩ := s_48 (K := K) (d := d) (J := Jx) (p := p) ha H x hpp
  obtain ⟨Im', v1, v2, v3, v4, v5⟩ := s_92 (K := K) (d := e) (J := Jm) (p := p) (m := wm.2.2.1) False Hm m hpp
  refine ⟨Ix', Im', y1, v1, y2, v2, _, _, _, _, _, _, _, y3, v3, b1, b2, fun r0 => ?_⟩
  obtain ⟨⟨f1, f2⟩, f3⟩ := f r0
  have e : mN r False nfm p = mnf nfm p := by unfold mN; rw [if_pos ⟨r0, fun z => z⟩]
  rw [e]
  refine ⟨⟨by rw [mm_n, f1], fun z => ?_⟩, Or.inl (Or.inl ?_)⟩
  · subst hdp
    by_cases q : dp < 0
    · rw [if_pos q]
      unfold mnf
      split <;> (try split) <;> omega
    · rw [if_neg q]
      have := f2 (by omega)
      unfold mnf
      split <;> (try split) <;> omega
  · unfold mnf
    split <;> (try split) <;> omega
theorem Wf_0 (h : G.2.2.2 G.1 = []) : Wf fa f G.1 P G G := ⟨Nat.le_refl _, h, fun _ _ => ⟨rfl, rfl⟩, fun _ _ => rfl, fun p h1 h2 => by omega, fun p q h1 h2 _ _ h3 h4 => by omega⟩
/-- both in a head: names of variables alike, nothing of the funs' names -/
def PJ (K : Nat → Value) (B a : Nat) (bs : Nat → Nat) (t n : Nat) (dp : Int) (w : aW) (f : Nat) (ln : Nat → Nat) (c r sl cnt : Nat) (vn : Nat → Nat) (fa : Nat → Nat → Nat) (G : gG) (op : Nat) (Q : Prop) (Ix : aI) (Jx : aJ) (wm : aW) (Im : aI) : Prop :=
  JS B a bs t n (-1) dp c r 0 sl G Q Ix Jx Im ∧ StO K B w Ix ∧ SM K B wm Im ∧ Ix (B + 2) 2 = it f ∧ Im (B + 46) 30 = it f ∧ (∃ cx : Nat, cx ≤ 6 ∧ Ix (a + 5) (4 * f + 2) = it cx) ∧ (∃ cm : Nat, cm ≤ 6 ∧ Im (B + 52) f = it cm) ∧ dp ≤ (tst bs t c : Nat) ∧ Ix (B + 2) 11 = it op
  ∧ (r = 0 → NP f cnt vn fa ln False ∧ NX B a f cnt vn fa ln False Ix ∧ NM B f cnt vn fa ln False Im ∧ Ix (a + 5) (4 * f + 2) = it cnt)
theorem P_st {dx dy : Nat} (ha : a = B + 8 ∨ a = B + 22) (hX : TX bs t n) (H : Lay B w) (hp : w.2.1 (B + 2) 1 = some a) (h : PJ K B a bs t n dp w f ln c 0 sl cnt vn fa G op Q Ix Jx wm Im) :
    ∃ (c' r' cnt' : Nat) (vn' : Nat → Nat) (fa' : Nat → Nat → Nat) (Q' : Prop) (dp' : Int) (tt xl xm : Int32) (pp : Nat) (Ix1 Ix2 Ix3 Im1 Im2 Im3 : aI), Cl K (dx + 4) 50 [.ref (B + 3)] w Ix Jx = some (some (.int tt), w, Ix1, Jx) ∧ Cl K (dx + 4) 44 [.ref (B + 3)] w Ix1 Jx = some (some (.int (it pp)), w, Ix1, Jx) ∧ Cl K (dx + 4) 45 [.ref (B + 3)] w Ix1 Jx = some (some (.int xl), w, Ix2, Jx) ∧ Cl K (dx + 4) 51 [.ref (B + 2), .int xl, .int tt, .int (it pp)] w Ix2 Jx = some (none, w, Ix3, Jx)
      ∧ Cl K (dy + 8) 95 [.ref (B + 46)] wm Im Jm = some (some (.int tt), wm, Im1, Jm) ∧ Im1 (B + 46) 22 = it pp ∧ Cl K (dy + 8) 91 [.ref (B + 46)] wm Im1 Jm = some (some (.int xm), wm, Im2, Jm) ∧ Cl K (dy + 8) 96 [.ref (B + 46), .int xm, .int tt, .int (it pp)] wm Im2 Jm = some (none, wm, Im3, Jm) ∧ FSx B a f op Ix Jx Ix3 Jx ∧ FSm B f wm.2.2.1 Im Jm Im3 Jm ∧ c ≤ c' ∧ (r' = 0 → c + 2 ≤ c' ∧ 1 ≤ cnt') ∧ ((Q' = Q ∧ dp' = dp ∧ cnt' = cnt + 1) ∨ (Q' = False ∧ 0 ≤ dp')) ∧ (∀ k, k < 4 → ¬ k = 2 → fa' f k = fa f k) ∧ (∀ g k, g < f → fa' g k = fa g k) ∧ PJ K B a bs t n dp' w f ln c' r' sl cnt' vn' fa' G op Q' Ix3 Jx wm Im3 := by
  obtain ⟨hJ, hO, hS, i2, i30, ⟨cx, cx1, cx2⟩, ⟨cm, cm1, cm2⟩, hdp, n5, nn⟩ := h
  obtain ⟨n1, n2, n3, n4⟩ := nn rfl
  obtain ⟨np1, np2, np3, np4, np5⟩ := id n1
  have hn := hX.2.1
  have h82 := hS.2.2.2
  obtain ⟨hcn, _, hXT, hMR⟩ := JS_c hJ
  obtain ⟨Ix1, x1, x2, x3⟩ := s_50 (K := K) (d := dx + 2) (J := Jx) hX H hXT
  obtain ⟨Im1, m1, m2, m3⟩ := s_95 (K := K) (d := dy) (J := Jm) hX hS.1 hS.2.1 hS.2.2.1 hMR
  obtain ⟨c1, hc1⟩ : ∃ c1, (if isT (kX bs t c 0) then c + 1 else c) = c1 := ⟨_, rfl⟩
  obtain ⟨r1, hr1⟩ : ∃ r1, (if isT (kX bs t c 0) then 0 else 1) = r1 := ⟨_, rfl⟩
  obtain ⟨td, htd⟩ : ∃ td : Nat, (if isT (kX bs t c 0) then kX bs t c 0 - 262 else 0) = td := ⟨_, rfl⟩
  rw [hc1, hr1] at x2 m3
  rw [htd] at x1 m1
  have hf1 : c ≤ c1 ∧ (r1 = 0 → c1 = c + 1) ∧ td ≤ 3 := by
    by_cases q : isT (kX bs t c 0)
    · rw [if_pos q] at hc1 hr1 htd; unfold isT at q; omega
    · rw [if_neg q] at hc1 hr1 htd; omega
  have hJ1 := JS_k (sl' := sl) ha hJ x3 x2 m2 m3 (by omega) (fun z => rfl)
  have fx1 : FEx B a Ix Jx Ix1 Jx := FX3_E ha x3
  have fm1 : FMx B wm.2.2.1 Im Jm Im1 Jm := FMx_6 m2
  have hS1 := SM_f (WG_r (k := 0)) fm1 hS
  obtain ⟨Ix2, x4, x5, x6⟩ := s_45 (K := K) (d := dx + 2) (J := Jx) hX H x2
  obtain ⟨Im2, m4, m5, m6⟩ := s_91 (K := K) (d := dy) (J := Jm) hX hS1.1 hS1.2.1 hS1.2.2.1 m3
  have hnx := nxC_b (bs := bs) (t := t) (c := c1) (r := r1) (k := 1)
  have hJ2 := JS_k (sl' := sl) ha hJ1 x6 x5 m5 m6 (by omega) (fun z => (hnx.2.2.1 z).1)
  have fx2 : FEx B a Ix Jx Ix2 Jx := FEx_t fx1 (FX3_E ha x6)
  have fm2 : FMx B wm.2.2.1 Im Jm Im2 Jm := FMx_t (Nat.le_refl _) fm1 (FMx_6 m5)
  have hS2 := SM_f (WG_r (k := 0)) fm2 hS
  have n2b := NX_f ha fx2 n2
  have n3b := NM_f h82 fm2 n3
  have htc1 : tst bs t c1 ≤ 240 := by have := tst_t bs t c1; have := hX.1; omega
  obtain ⟨lx, hlx⟩ : ∃ lx : Nat, (if kX bs t c1 r1 = 1 then tvl bs t c1 else 0) = lx := ⟨_, rfl⟩
  obtain ⟨lm, hlm⟩ : ∃ lm : Nat, (if kX bs t c1 r1 = 1 then tvl bs t c1 + 97 else 0) = lm := ⟨_, rfl⟩
  rw [hlx] at x4
  rw [hlm] at m4
  have hl26 : lx < 26 ∧ (nxR bs t c1 r1 1 = 0 → lm = lx + 97) := by
    by_cases k1 : kX bs t c1 r1 = 1
    · have r10 : r1 = 0 := (kX_n hX (JS_c hJ1).1 k1 (by omega) (by omega)).1
      subst r10
      obtain ⟨l1, l2, l3, l4⟩ := nam_l (bs := bs) (t := t) (c := c1) (by unfold kX at k1; rw [if_pos rfl] at k1; exact k1)
      rw [if_pos k1] at hlx hlm
      exact ⟨by omega, fun _ => by omega⟩
    · rw [if_neg k1] at hlx
      exact ⟨by omega, fun z => absurd (hnx.2.2.1 z).2.2 k1⟩
  have e55 : Ix2 (a + 5) (4 * f + 2) = it cnt := by rw [fx2.1 (a + 5) (by omega) (by omega) (by omega) (by omega) (by omega) (by omega)]; exact n4
  have i11 : Ix2 (B + 2) 11 = it op := by rw [fx2.2.1 11 (by omega) (by omega) (by omega)]; exact n5
  have hO2 := StO_F ha fx2 hO
  obtain ⟨c2n, r21, _, hMR2⟩ := JS_c hJ2
  have hdp2 : dp ≤ (tst bs t (nxC bs t c1 r1 1) : Nat) := by have := tst_m hX (show c ≤ nxC bs t c1 r1 1 by omega) c2n; omega
  obtain ⟨z, z1, z2, z3, z4⟩ := s_97 (K := K) (d := dy + 6) (J := Jm) (lt := it ((lm : Nat) : Int)) hS2.1 n3b.1 np1 n3b.2.1 np2
  have h44 := s_44 (K := K) (d := dx + 3) (J := Jx) H x2 hn
  have hm22 := m3.2.2.2.2.1
  by_cases r20 : nxR bs t c1 r1 1 = 0
  · have hlm97 := hl26.2 r20
    subst hlm97
    have ez := z4 vn lx (fun v hv => ⟨(np3 v hv).1, (n3b.2.2.1 v hv).1⟩) hl26.1 (by rw [Nat.add_comm])
    have hr10 := (hnx.2.2.1 r20).1
    have hcc := (hnx.2.2.1 r20).2.1
    have hc1' := hf1.2.1 hr10
    have h53x := n2b.2.1 lx hl26.1
    have hvb := vix_b vn lx cnt
    rw [r20] at hJ2 hMR2
    by_cases g : ¬ 0 ≤ z ∧ cnt < 6
    · obtain ⟨h', Nx, Nm, nfx, nfm, tfx, tfm, xE, mE, _⟩ := id hJ2
      obtain ⟨In, w1, _⟩ := s_48 (K := K) (d := dx + 2) (J := Jx) (p := tst bs t c1) ha H xE htc1
      have e51 := s_51 (K := K) (d := dx + 1) (ty := it ((td : Nat) : Int)) (l := lx) ha H hp np1 hl26.1 n2b.1 e55 (by omega) w1
      have hno : ¬ (it 0 ≤ Ix2 (B + 16) lx ∨ 6 ≤ cnt) := by
        rw [h53x]
        rintro (q | q)
        · have := (it_le (by omega) (by omega) (by omega) (by omega)).mp q; omega
        · omega
      rw [if_neg hno] at e51
      obtain ⟨Im3, j1, j2, j3⟩ := JS_nd (K := K) (e := dy + 6) (Jm := Jm) (p := tst bs t c1) (¬ 0 ≤ z ∧ cnt < 6) hS2.1 hJ2 htc1 (fun _ => Or.inl g)
      have n3f := NM_f h82 (FMx_t (Nat.le_refl _) fm2 j2) n3
      have hMR3 := (JS_c j3).2.2.2
      have e96 := s_96 (K := K) (d := dy + 6) (ty := it ((td : Nat) : Int)) (r := 0) hS2.1 np1 z2 (by omega) np2 n3b.2.1 n3b.1 z1 j1 hMR3.2.1 (by omega) n3f.1 n3f.2.1
      rw [if_pos ⟨g, rfl⟩] at e96
      have hvl : vix vn lx cnt < 0 := by omega
      have n2n := NX_d (ty := td) ha n1 n2b hl26.1 hvl
      have n3n := NM_d (l := lx) (ty := td) n1 n3f
      obtain ⟨q1, q2, q3⟩ := faD_e (fa := fa) (f := f) (cnt := cnt) (ty := td)
      have e5n : dX B a f lx cnt (it ((td : Nat) : Int)) Ix2 (a + 5) (4 * f + 2) = it ((cnt + 1 : Nat) : Int) := by unfold dX; rw [up2_r, up1_s]
      have hJf := JS_o (Ix' := dX B a f lx cnt (it ((td : Nat) : Int)) Ix2) (Im' := dM B f cnt (it ((lx + 97 : Nat) : Int)) (it ((td : Nat) : Int)) Im3) ha (fun b hb => dX_o (by omega)) (fun b hb => dM_o (by omega)) j3
      have hS3 := SM_f (WG_r (k := 0)) j2 hS2
      exact ⟨_, 0, cnt + 1, sm_up1 vn cnt lx, faD fa f cnt td, Q, dp, _, _, _, tst bs t c1, Ix1, Ix2, _, Im1, Im2, _, x1, h44, x4, e51, m1, hm22, m4, e96, FSx_t (Nat.le_refl _) (FSx_e ha fx2) (FSx_d ha), FSm_t (Nat.le_refl _) (FSm_e h82 (FMx_t (Nat.le_refl _) fm2 j2)) FSm_d, show c ≤ nxC bs t c1 r1 1 by omega, fun _ => ⟨by omega, by omega⟩, Or.inl ⟨rfl, rfl, rfl⟩, fun k hk hk2 => q3 f k (by omega) (by omega), fun g' k hg' => q3 g' k (by omega) (by omega), JS_m (fun y => y.1) (Nat.le_refl _) hJf, StO_c (fun b hb => ⟨dX_o (by omega), rfl, rfl⟩) hO2, ⟨hS3.1, hS3.2.1, StO_c (fun b hb => ⟨dM_o (by omega), rfl, rfl⟩) hS3.2.2.1, hS3.2.2.2⟩, n2n.1, n3n.1, ⟨cnt + 1, by omega, e5n⟩, ⟨cnt + 1, by omega, n3n.2.1⟩, hdp2, by rw [dX_o (by omega)]; exact i11, fun _ => ⟨NP_d n1 g.2 hl26.1 hf1.2.2, n2n, n3n, e5n⟩⟩
    · obtain ⟨In, Im3, p1, p2, p3, p4, p5⟩ := JS_nq (K := K) (d := dx + 2) (e := dy + 6) (Jm := Jm) (p := tst bs t c1) (dp' := if dp < 0 then ((tst bs t c1 : Nat) : Int) else dp) ha H hS2.1 hJ2 htc1 rfl
      have e51 := s_51 (K := K) (d := dx + 1) (ty := it ((td : Nat) : Int)) (l := lx) ha H hp np1 hl26.1 n2b.1 e55 (by omega) p1
      have hno : it 0 ≤ Ix2 (B + 16) lx ∨ 6 ≤ cnt := by
        rw [h53x]
        by_cases q : 6 ≤ cnt
        · exact Or.inr q
        · left
          have : 0 ≤ vix vn lx cnt := by omega
          exact ((it_le (by omega) (by omega) (by omega) (by omega)).mpr (by omega))
      rw [if_pos hno] at e51
      have fxn := FEx_t fx2 p3
      have fmn := FMx_t (Nat.le_refl _) fm2 p4
      have n2f := NX_f ha fxn n2
      have n3f := NM_f h82 fmn n3
      have hMR3 := (JS_c p5).2.2.2
      have e96 := s_96 (K := K) (d := dy + 6) (ty := it ((td : Nat) : Int)) (pl := it (tst bs t c1 : Nat)) (In := Im3) (r := 0) hS2.1 np1 z2 (by omega) np2 n3b.2.1 n3b.1 z1 (by rw [if_neg g]; exact p2) hMR3.2.1 (by omega) n3f.1 n3f.2.1
      rw [if_neg (fun q => g q.1)] at e96
      have e5n : In (a + 5) (4 * f + 2) = it cnt := by rw [p3.1 (a + 5) (by omega) (by omega) (by omega) (by omega) (by omega) (by omega)]; exact e55
      have c1le : tst bs t c1 ≤ tst bs t (nxC bs t c1 r1 1) := tst_m hX (by omega) c2n
      have cpos : 1 ≤ cnt := by omega
      refine ⟨_, 0, cnt, vn, fa, False, (if dp < 0 then ((tst bs t c1 : Nat) : Int) else dp), _, _, _, tst bs t c1, Ix1, Ix2, In, Im1, Im2, Im3, x1, h44, x4, e51, m1, hm22, m4, e96, FSx_e ha fxn, FSm_e h82 fmn, show c ≤ nxC bs t c1 r1 1 by omega, fun _ => ⟨by omega, cpos⟩, Or.inr ⟨rfl, ?_⟩, fun _ _ _ => rfl, fun _ _ _ => rfl, p5, StO_F ha fxn hO, SM_f (WG_r (k := 0)) fmn hS, n2f.1, n3f.1, ⟨cnt, np2, e5n⟩, ⟨cnt, np2, n3f.2.1⟩, ?_, by rw [p3.2.1 11 (by omega) (by omega) (by omega)]; exact i11, fun _ => ⟨n1, n2f, n3f, e5n⟩⟩
      · by_cases q : dp < 0
        · rw [if_pos q]; omega
        · rw [if_neg q]; omega
      · by_cases q : dp < 0
        · rw [if_pos q]; omega
        · rw [if_neg q]; exact hdp2
  · have r21' : nxR bs t c1 r1 1 = 1 := by omega
    rw [r21'] at hJ2 hMR2
    obtain ⟨In, w1, w2, w3⟩ := JS_xd (K := K) (d := dx + 2) (p := tst bs t c1) ha H hJ2 htc1 (fun z => by omega)
    have e51 := s_51 (K := K) (d := dx + 1) (ty := it ((td : Nat) : Int)) (l := lx) ha H hp np1 hl26.1 n2b.1 e55 (by omega) w1
    obtain ⟨Ix3, h3⟩ : ∃ Ix3, (if it 0 ≤ Ix2 (B + 16) lx ∨ 6 ≤ cnt then In else dX B a f lx cnt (it ((td : Nat) : Int)) Ix2) = Ix3 := ⟨_, rfl⟩
    rw [h3] at e51
    have p6 : JS B a bs t n (-1) dp (nxC bs t c1 r1 1) 1 0 sl G False Ix3 Jx Im2 ∧ FSx B a f op Ix2 Jx Ix3 Jx ∧ StO K B w Ix3 ∧ Ix3 (B + 2) 2 = it f ∧ Ix3 (B + 2) 11 = it op ∧ ∃ cx : Nat, cx ≤ 6 ∧ Ix3 (a + 5) (4 * f + 2) = it cx := by
      subst h3
      by_cases q : it 0 ≤ Ix2 (B + 16) lx ∨ 6 ≤ cnt
      · rw [if_pos q]
        exact ⟨w3, FSx_e ha w2, StO_F ha w2 hO2, (NX_f ha w2 n2b).1, by rw [w2.2.1 11 (by omega) (by omega) (by omega)]; exact i11, cnt, np2, by rw [w2.1 (a + 5) (by omega) (by omega) (by omega) (by omega) (by omega) (by omega)]; exact e55⟩
      · rw [if_neg q]
        exact ⟨JS_Q rfl (JS_o ha (fun b hb => dX_o (by omega)) (fun _ _ => rfl) hJ2), FSx_d ha, StO_c (fun b hb => ⟨dX_o (by omega), rfl, rfl⟩) hO2, by rw [dX_o (by omega)]; exact n2b.1, by rw [dX_o (by omega)]; exact i11, cnt + 1, by omega, by unfold dX; rw [up2_r, up1_s]⟩
    obtain ⟨p61, p62, p63, p64, p67, cx', p65, p66⟩ := p6
    obtain ⟨Im3, j1, j2, j3⟩ := JS_nd (K := K) (e := dy + 6) (Jm := Jm) (p := tst bs t c1) (¬ 0 ≤ z ∧ cnt < 6) hS2.1 p61 htc1 (fun z => by omega)
    have fmn := FMx_t (Nat.le_refl _) fm2 j2
    have n3f := NM_f h82 fmn n3
    have hMR3 := (JS_c j3).2.2.2
    have e96 := s_96 (K := K) (d := dy + 6) (ty := it ((td : Nat) : Int)) (r := 1) hS2.1 np1 z2 (by omega) np2 n3b.2.1 n3b.1 z1 j1 hMR3.2.1 (by omega) n3f.1 n3f.2.1
    rw [if_neg (fun q => by have := q.2; omega)] at e96
    exact ⟨_, 1, cnt + 1, vn, fa, Q, dp, _, _, _, tst bs t c1, Ix1, Ix2, Ix3, Im1, Im2, Im3, x1, h44, x4, e51, m1, hm22, m4, e96, FSx_t (Nat.le_refl _) (FSx_e ha fx2) p62, FSm_e h82 fmn, show c ≤ nxC bs t c1 r1 1 by omega, fun z => by omega, Or.inl ⟨rfl, rfl, rfl⟩, fun _ _ _ => rfl, fun _ _ _ => rfl, JS_Q rfl j3, p63, SM_f (WG_r (k := 0)) fmn hS, p64, n3f.1, ⟨cx', p65, p66⟩, ⟨cnt, np2, n3f.2.1⟩, hdp2, p67, fun z => by omega⟩
end PAR

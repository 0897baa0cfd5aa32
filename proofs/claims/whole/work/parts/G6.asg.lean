/-! a variable becomes something, both -/
section ASG
variable {K : Nat → Value} {B d e a : Nat} {w wm wm' : aW} {Ix Im I I' I'' Ix' Im' : aI} {Jx Jm J J' J'' Jx' Jm' : aJ} {bs : Nat → Nat} {t n c r s sl b op m m' : Nat} {pd dp : Int} {G G1 : gG} {Q gd Q0 : Prop} {f cnt st : Nat} {vn ln : Nat → Nat} {fa fa0 : Nat → Nat → Nat} {G0 : gG} {P P' : Nat → Prop}
theorem S_74 {dx dy : Nat} (ha : a = B + 8 ∨ a = B + 22) (hX : TX bs t n) (H : Lay B w) (hp : w.2.1 (B + 2) 1 = some a) (hdx : 180 ≤ dx) (hdy : 180 ≤ dy) (hc4 : 4 ≤ c) (h : SJ K B a bs t n dp w f ln gd st fa0 G0 Q0 P c 0 sl cnt vn fa G op Ix Jx wm Im) (hk : kX bs t c 0 = 1) : Stm K B a bs t n dp w f ln gd st fa0 G0 Q0 P (Cl K (dx + 4) 74 [.ref (B + 2)] w Ix Jx) (Cl K (dy + 10) 99 [.ref (B + 46)] wm Im Jm) c sl op Ix Jx wm Im Jm := by
  obtain ⟨hJ, hO, hS, i2, i30, _, _, hd, nn⟩ := id h
  obtain ⟨n1, n2, n3, n4, n5, n6, n7⟩ := nn rfl
  have hP : PL w a := PLx H ha
  have hn := hX.2.1
  obtain ⟨np1, np2, np3, np4, np5⟩ := id n1
  obtain ⟨hcn, _, hXT, hMR⟩ := JS_c hJ
  have htc : tst bs t c ≤ 240 := by have := tst_t bs t c; have := hX.1; omega
  obtain ⟨l1, l2, l3, l4⟩ := nam_l (bs := bs) (t := t) (c := c) (by unfold kX at hk; rw [if_pos rfl] at hk; exact hk)
  obtain ⟨_, hcn1, _⟩ := kX_n hX hcn hk (by omega) (by omega)
  obtain ⟨Ix1, x1, x2, x3⟩ := s_45 (K := K) (d := dx + 1) (J := Jx) hX H hXT
  obtain ⟨Im1, m1, m2, m3⟩ := s_91 (K := K) (d := dy) (J := Jm) hX hS.1 hS.2.1 hS.2.2.1 hMR
  unfold nxC nxR at x2 m3
  rw [if_pos hk, if_pos hk] at x2 m3
  rw [if_pos hk] at x1 m1
  have hJ1 := JS_k (sl' := sl + 1) ha hJ x3 x2 m2 m3 (by omega) (fun z => z)
  have fx1 : FEx B a Ix Jx Ix1 Jx := FX3_E ha x3
  have fm1 : FMx B wm.2.2.1 Im Jm Im1 Jm := FMx_6 m2
  have hS1 := SM_f (WG_r (k := 0)) fm1 hS
  obtain ⟨vi, vr, gt, Ix2, Im2, k1, k2, k3, k4, k5, k6, k7, k8, k9, k10⟩ := JS_kn (K := K) (dx := dx) (dy := dy) (l := tvl bs t c) (pl := tst bs t c) (Jm := Jm) ha H n1 (NX_f ha fx1 n2) (NM_f hS.2.2.2 fm1 n3) hS1 hJ1 (by omega) htc
  have hS2 := SM_f (WG_r (k := 0)) k9 hS1
  have fx2 := FEx_t fx1 k8
  have fm2 : FMx B wm.2.2.1 Im Jm Im2 Jm := FMx_t (Nat.le_refl _) fm1 k9
  have n2b := NX_f ha fx2 n2
  have n3b := NM_f hS.2.2.2 fm2 n3
  obtain ⟨hcn2, _, hXT2, hMR2⟩ := JS_c k10
  have e94 := s_94 (K := K) (d := dy + 7) (J := Jm) hS2.1 hMR2 hX (show it 91 = it ((91 : Nat) : Int) from rfl) (by decide)
  have hdc : ∀ c', c ≤ c' → c' ≤ n → gd ∨ (0 ≤ dp ∧ dp ≤ tst bs t c') := fun c' h1 h2 => hd.imp id (fun z => ⟨z.1, by have := tst_m hX h1 h2; omega⟩)
  by_cases hb : kX bs t (c + 1) 0 = 91
  · rw [if_pos hb] at e94
    obtain ⟨Ix3, Jx3, Im3, a1, a2, a3, a4, a5⟩ := JS_e3 (K := K) (d := dx + 1) (e := dy + 7) (Jm := Jm) (g := vr) (τ := fa f (4 + vr)) (gx := it vi) (gm := it ((vr : Nat) : Int)) (gt := gt) ha H hp hS2.1 k10 hn (fun z => ⟨by rw [z.2.1], rfl, z.2.2.2, (np3 vr z.2.2.1).2, by rw [z.1.2.2.2.1]; simp⟩)
    have hS3 := SM_f (WG_r (k := 0)) a4 hS2
    obtain ⟨hc1, Ix4, Im4, b1, b2, b3, b4, b5⟩ := JS_nx (K := K) (d := dx + 2) (e := dy + 2) (Jm := Jm) ha hX H hS3 a5 (by omega) (by omega)
    have hS4 := SM_f (WG_r (k := 0)) b4 hS3
    have fx4 := FEx_t (FEx_t fx2 a3) b3
    have fm4 : FMx B wm.2.2.1 Im Jm Im4 Jm := FMx_t (Nat.le_refl _) (FMx_t (Nat.le_refl _) fm2 a4) b4
    have st1 : ∀ z : Wf fa f st P G0 G, (gE1 G 3 vr (fa f (4 + vr) :: G.2.2.2 G.1)).2.2.2 (gE1 G 3 vr (fa f (4 + vr) :: G.2.2.2 G.1)).1 = [fa f (4 + vr)] := fun z => by
      obtain ⟨g1, g2, g3, g4, g5, g6⟩ := gE1_o (G := G) (o := 3) (g := vr) (st := fa f (4 + vr) :: G.2.2.2 G.1)
      rw [g1, g6, z.2.1]
    obtain ⟨c5, r5, G5, τ5, ty5, Ix5, Jx5, wm5, Im5, Jm5, y1, y2, y3, y4, y5, y6, y7, y9⟩ := E_any (K := K) (x := dx + 3) (y := dy + 8) (Jm := Jm) ha hX H hp (fun _ => n1) (by omega) (by omega) (StO_F ha fx4 hO) (fun _ => ⟨NX_f ha fx4 n2, NM_f hS.2.2.2 fm4 n3⟩) hS4 b5 (fun z => ⟨z.1.2.1, by rw [st1 z.1.2.2]; simp⟩) (fun _ => hdc _ (by omega) (by omega))
    have hS5 := SM_f y5 y4 hS4
    obtain ⟨Ix6, Im6, p1, p2, p3, p4, p5⟩ := JS_tk (K := K) (d := dx + 1) (e := dy) (Jm := Jm5) (k := 93) (by decide) ha hX H hS5 y9
    have hS6 := SM_f (WG_r (k := 0)) p4 hS5
    obtain ⟨Ix7, Im7, q1, q2, q3, q4, q5⟩ := JS_tk (K := K) (d := dx + 1) (e := dy) (Jm := Jm5) (k := 61) (by decide) ha hX H hS6 p5
    have hS7 := SM_f (WG_r (k := 0)) q4 hS6
    have hnx1 := nxC_b (bs := bs) (t := t) (c := c5) (r := r5) (k := 93)
    have hnx2 := nxC_b (bs := bs) (t := t) (c := nxC bs t c5 r5 93) (r := nxR bs t c5 r5 93) (k := 61)
    have fx7 := FEx_t (FEx_t (FEx_t fx4 y3) p3) q3
    have fm7 : FMx B wm.2.2.1 Im Jm Im7 Jm5 := FMx_t (Nat.le_refl _) (FMx_t (Nat.le_refl _) (FMx_t (Nat.le_refl _) fm4 y4) (FMx_w y5.2.1 p4)) (FMx_w y5.2.1 q4)
    have c7n := (JS_c q5).1
    have st2 : ∀ z : Wf fa f st P G0 G, Ext fa f (gE1 G 3 vr (fa f (4 + vr) :: G.2.2.2 G.1)) G5 τ5 50 → G5.2.2.2 G5.1 = [τ5, fa f (4 + vr)] := fun z z2 => by rw [z2.2.2.2.1, st1 z]
    obtain ⟨c8, r8, G8, τ8, ty8, Ix8, Jx8, wm8, Im8, Jm8, v1, v2, v3, v4, v5, v6, v7, v9⟩ := E_any (K := K) (x := dx + 3) (y := dy + 8) (Jm := Jm5) ha hX H hp (fun _ => n1) (by omega) (by omega) (StO_F ha fx7 hO) (fun _ => ⟨NX_f ha fx7 n2, NM_f hS.2.2.2 fm7 n3⟩) hS7 q5 (fun z => ⟨z.1.1.2.1, by rw [st2 z.1.1.2.2 z.2.1]; simp; omega⟩) (fun _ => hdc _ (by omega) c7n)
    have hS8 := SM_f v5 v4 hS7
    obtain ⟨Ix9, Im9, u1, u2, u3, u4, u5⟩ := JS_tk (K := K) (d := dx + 1) (e := dy) (Jm := Jm8) (k := 59) (by decide) ha hX H hS8 v9
    have hS9 := SM_f (WG_r (k := 0)) u4 hS8
    have hnx3 := nxC_b (bs := bs) (t := t) (c := c8) (r := r8) (k := 59)
    have sz8 := v5.2.1
    have sz5 := y5.2.1
    have fx9 := FEx_t (FEx_t fx7 v3) u3
    have fm9 : FMx B wm.2.2.1 Im Jm Im9 Jm8 := FMx_t (Nat.le_refl _) (FMx_t sz5 fm7 v4) (FMx_w (by omega) u4)
    have n2c := NX_f ha fx9 n2
    have n3c := NM_f hS.2.2.2 fm9 n3
    have st3 : ∀ z : Wf fa f st P G0 G, Ext fa f (gE1 G 3 vr (fa f (4 + vr) :: G.2.2.2 G.1)) G5 τ5 50 → Ext fa f G5 G8 τ8 50 → G8.2.2.2 G8.1 = [τ8, τ5, fa f (4 + vr)] := fun z z2 z3 => by rw [z3.2.2.2.1, st2 z z2]
    obtain ⟨w2, o1, hJa⟩ := JS_67 (K := K) (d := dx + 2) (i := 2) H u5 (by omega) (by omega) (fun z => by rw [st3 z.1.1.1.2.2 z.1.2.1 z.2.1]; simp)
    obtain ⟨w1, o2, hJb⟩ := JS_67 (K := K) (d := dx + 2) (i := 1) H hJa (by omega) (by omega) (fun z => by rw [st3 z.1.1.1.1.2.2 z.1.1.2.1 z.1.2.1]; simp)
    have e115 := m_115 (K := K) (d := dy + 7) (J := Jm8) (v := vr) (f := f) hS9.1 n3c.1 np1 k3
    obtain ⟨Ixa, Ima, s1, s2, s3, s4, s5, _⟩ := JS_ty (K := K) (d := dx + 2) (e := dy + 7) (Jm := Jm8) (p := tst bs t c) (gt = it 2 ∧ w2 = it 0 ∧ w1 = it 0) (Im9 (B + 55) (6 * f + vr) = it 2 ∧ ty5 = it 0 ∧ ty8 = it 0) ha H hS9.1 hJb htc (by
      rintro ⟨⟨⟨⟨⟨z1, z2, z3, z4⟩, z5, z6, z7⟩, z8, z9, z10⟩, z11⟩, z12⟩
      rw [st3 z1.2.2 z5 z8] at z11 z12
      rw [z11, z12, z4, (n3c.2.2.1 vr z3).2, z7, z10]
      exact Iff.rfl)
    have hSa := SM_f (WG_r (k := 0)) s4 hS9
    obtain ⟨Ixb, Jxb, Imb, e1, e2, e3, e4, e5⟩ := JS_em (K := K) (d := dx + 1) (e := dy + 7) (Jm := Jm8) (o := 22) (g := 0) (k := 3) (gx := it ((0 : Nat) : Int)) (gm := it ((0 : Nat) : Int)) (tyx := it (-1)) (b := false) ha H hp hSa.1 (JS_m (sl' := sl + 1) (fun z => z) (by omega) s5) hn (by omega) ⟨fun z => (by cases z), fun z => absurd rfl z⟩ 0 [τ8, τ5, fa f (4 + vr)] [] (by
      rintro ⟨⟨⟨⟨⟨⟨z1, z2, z3, z4⟩, z5, z6, z7⟩, z8, z9, z10⟩, z11⟩, z12⟩, z13⟩
      exact ⟨rfl, rfl, by rw [st3 z1.2.2 z5 z8]; rfl, rfl, by simp, fun z => (by cases z)⟩)
    have fxb := FEx_t (FEx_t fx9 s3) e3
    have fmb : FMx B wm.2.2.1 Im Jm Imb Jm8 := FMx_t (Nat.le_refl _) (FMx_t (Nat.le_refl _) fm9 (FMx_w (by omega) s4)) (FMx_w (by omega) e4)
    refine ⟨nxC bs t c8 r8 59, nxR bs t c8 r8 59, cnt, vn, fa, gE1 G8 22 0 [], Ixb, Jxb, wm8, Imb, Jm8, x_74h hX H hp hP hXT (by omega) k1 k2 x1 k4 k5 n2b.1 k7 hXT2 (by rw [if_pos hb]; exact x_96b H Iff.rfl a1 b1 y1 p1 q1 v1 u1 o1 o2 s1 e1), m_99b (R := (none, wm8, Imb, Jm8)) hS.1 hMR hk (m_116b hS.1 hS5.1 hS8.1 Iff.rfl m1 k6 e94 a2 b2 y2 p2 q2 v2 u2 e115 s2 e2), FSx_e ha fxb, FSm_e hS.2.2.2 fmb, WG_k (by omega) (WG_t y5 v5), by omega, SJ_b ha hX h fxb fmb (WG_t y5 v5) (by omega) (JS_m ?_ (by omega) e5)⟩
    rintro ⟨⟨⟨⟨⟨⟨z1, z2, z3, z4⟩, z5, z6, z7⟩, z8, z9, z10⟩, z11⟩, z12⟩, z13⟩
    rw [st3 z1.2.2 z5 z8] at z11 z12
    obtain ⟨g1, g2, g3⟩ := z13
    have e8 : τ8 = 0 := by
      rw [g3] at z12
      have : it 0 = it (τ8 : Nat) := z12
      have := (it_eq (by omega) (by omega) (by omega) (by omega)).mp this
      omega
    have e5' : τ5 = 0 := by
      rw [g2] at z11
      have : it 0 = it (τ5 : Nat) := z11
      have := (it_eq (by omega) (by omega) (by omega) (by omega)).mp this
      omega
    have e4' : fa f (4 + vr) = 2 := by
      rw [z4] at g1
      have h3 := (np3 vr z3).2
      have := (it_eq (by omega) (by omega) (by omega) (by omega)).mp g1
      omega
    have ex0 : Ext fa f G (gE1 G 3 vr (fa f (4 + vr) :: G.2.2.2 G.1)) (fa f (4 + vr)) 0 := Ext_1 (Or.inr (Or.inr (Or.inr (Or.inl ⟨rfl, by omega, rfl⟩)))) (by omega) (by omega)
    have exs := Exs_c (b := 52) (Exs_c (b := 51) (Ext_x ex0) z5 (by omega) (by simp)) z8 (by omega) (by simp)
    refine ⟨z1.1, z1.2.1, Wf_e z1.2.2 exs (by omega) (by omega) (by omega) (by simp) ?_ (fun p z => z) (fun z => by rcases z with z | z <;> omega)⟩
    rw [e8, e5', e4']
    exact Or.inr (Or.inr (Or.inr (Or.inr (Or.inr (Or.inr (Or.inr (Or.inl ⟨rfl, rfl, rfl⟩)))))))
  · rw [if_neg hb] at e94
    obtain ⟨Ix3, Im3, p1, p2, p3, p4, p5⟩ := JS_tk (K := K) (d := dx + 1) (e := dy) (Jm := Jm) (k := 61) (by decide) ha hX H hS2 k10
    have hS3 := SM_f (WG_r (k := 0)) p4 hS2
    have hnx1 := nxC_b (bs := bs) (t := t) (c := c + 1) (r := 0) (k := 61)
    have fx3 := FEx_t fx2 p3
    have fm3 : FMx B wm.2.2.1 Im Jm Im3 Jm := FMx_t (Nat.le_refl _) fm2 p4
    have c3n := (JS_c p5).1
    obtain ⟨c8, r8, G8, τ8, ty8, Ix8, Jx8, wm8, Im8, Jm8, v1, v2, v3, v4, v5, v6, v7, v9⟩ := E_any (K := K) (x := dx + 3) (y := dy + 8) (Jm := Jm) ha hX H hp (fun _ => n1) (by omega) (by omega) (StO_F ha fx3 hO) (fun _ => ⟨NX_f ha fx3 n2, NM_f hS.2.2.2 fm3 n3⟩) hS3 p5 (fun z => ⟨z.1.2.1, by rw [z.1.2.2.2.1]; simp⟩) (fun _ => hdc _ (by omega) c3n)
    have hS8 := SM_f v5 v4 hS3
    obtain ⟨Ix9, Im9, u1, u2, u3, u4, u5⟩ := JS_tk (K := K) (d := dx + 1) (e := dy) (Jm := Jm8) (k := 59) (by decide) ha hX H hS8 v9
    have hS9 := SM_f (WG_r (k := 0)) u4 hS8
    have hnx3 := nxC_b (bs := bs) (t := t) (c := c8) (r := r8) (k := 59)
    have sz8 := v5.2.1
    have fx9 := FEx_t (FEx_t fx3 v3) u3
    have fm9 : FMx B wm.2.2.1 Im Jm Im9 Jm8 := FMx_t (Nat.le_refl _) (FMx_t (Nat.le_refl _) fm3 v4) (FMx_w (by omega) u4)
    have n2c := NX_f ha fx9 n2
    have n3c := NM_f hS.2.2.2 fm9 n3
    have st3 : ∀ z : Wf fa f st P G0 G, Ext fa f G G8 τ8 50 → G8.2.2.2 G8.1 = [τ8] := fun z z3 => by rw [z3.2.2.2.1, z.2.1]
    obtain ⟨w1, o2, hJb⟩ := JS_67 (K := K) (d := dx + 2) (i := 1) H u5 (by omega) (by omega) (fun z => by rw [st3 z.1.1.2.2 z.2.1]; simp)
    have e115 := m_115 (K := K) (d := dy + 7) (J := Jm8) (v := vr) (f := f) hS9.1 n3c.1 np1 k3
    obtain ⟨Ixa, Ima, s1, s2, s3, s4, s5, _⟩ := JS_ty (K := K) (d := dx + 2) (e := dy + 7) (Jm := Jm8) (p := tst bs t c) (w1 = gt) (ty8 = Im9 (B + 55) (6 * f + vr)) ha H hS9.1 hJb htc (by
      rintro ⟨⟨⟨z1, z2, z3, z4⟩, z8, z9, z10⟩, z12⟩
      rw [st3 z1.2.2 z8] at z12
      rw [z12, z4, (n3c.2.2.1 vr z3).2, z10]
      exact Iff.rfl)
    have hSa := SM_f (WG_r (k := 0)) s4 hS9
    obtain ⟨Ixb, Jxb, Imb, e1, e2, e3, e4, e5⟩ := JS_em (K := K) (d := dx + 1) (e := dy + 7) (Jm := Jm8) (o := 21) (g := vr) (k := 1) (gx := it vi) (gm := it ((vr : Nat) : Int)) (tyx := it (-1)) (b := false) ha H hp hSa.1 s5 hn (by omega) ⟨fun z => (by cases z), fun z => absurd rfl z⟩ 0 [τ8] [] (by
      rintro ⟨⟨⟨⟨z1, z2, z3, z4⟩, z8, z9, z10⟩, z12⟩, z13⟩
      exact ⟨by rw [z2], rfl, by rw [st3 z1.2.2 z8]; rfl, rfl, by simp, fun z => (by cases z)⟩)
    have fxb := FEx_t (FEx_t fx9 s3) e3
    have fmb : FMx B wm.2.2.1 Im Jm Imb Jm8 := FMx_t (Nat.le_refl _) (FMx_t (Nat.le_refl _) fm9 (FMx_w (by omega) s4)) (FMx_w (by omega) e4)
    refine ⟨nxC bs t c8 r8 59, nxR bs t c8 r8 59, cnt, vn, fa, gE1 G8 21 vr [], Ixb, Jxb, wm8, Imb, Jm8, x_74h hX H hp hP hXT (by omega) k1 k2 x1 k4 k5 n2b.1 k7 hXT2 (by rw [if_neg hb]; exact x_96a H Iff.rfl p1 v1 u1 o2 s1 e1), m_99b (R := (none, wm8, Imb, Jm8)) hS.1 hMR hk (m_116a hS.1 hS8.1 Iff.rfl m1 k6 e94 p2 v2 u2 e115 s2 e2), FSx_e ha fxb, FSm_e hS.2.2.2 fmb, WG_k (by omega) v5, by omega, SJ_b ha hX h fxb fmb v5 (by omega) (JS_m ?_ (by omega) e5)⟩
    rintro ⟨⟨⟨⟨z1, z2, z3, z4⟩, z8, z9, z10⟩, z12⟩, z13⟩
    rw [st3 z1.2.2 z8] at z12
    have e8 : τ8 = fa f (4 + vr) := by
      rw [z4, z12] at z13
      have h3 := (np3 vr z3).2
      exact it_inj (by show τ8 < _; omega) (by omega) z13
    refine ⟨z1.1, z1.2.1, Wf_e z1.2.2 (Ext_x z8) (by omega) (by omega) (by omega) (by simp) ?_ (fun p z => z) (fun z => by rcases z with z | z <;> omega)⟩
    rw [e8]
    exact Or.inr (Or.inr (Or.inr (Or.inr (Or.inr (Or.inr (Or.inl ⟨rfl, by omega, rfl, rfl⟩))))))
end ASG

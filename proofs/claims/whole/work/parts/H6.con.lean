/-! a condition up to its block, both -/
section BLK
variable {K : Nat → Value} {B d e a : Nat} {w wm wm' : aW} {Ix Im I I' I'' Ix' Im' : aI} {Jx Jm J J' J'' Jx' Jm' : aJ} {bs : Nat → Nat} {t n c r s sl sl' b op op' m m' : Nat} {pd dp : Int} {G G1 G' : gG} {Q gd Q0 Q0' : Prop} {f cnt cnt' st st' : Nat} {vn vn' ln : Nat → Nat} {fa fa' fa0 fa0' : Nat → Nat → Nat} {G0 G0' : gG} {P P' : Nat → Prop}
theorem JS_tk1 {k : Nat} (hk : k ∈ sgs) (ha : a = B + 8 ∨ a = B + 22) (hX : TX bs t n) (H : Lay B w) (hS : SM K B wm Im) (h : JS B a bs t n pd dp c r s sl G Q Ix Jx Im) (hs : sl' + c ≤ sl + nxC bs t c r k) : ∃ Ix' Im', Cl K (d + 2) 41 [.ref (B + 3), .int (it k)] w Ix Jx = some (none, w, Ix', Jx) ∧ Cl K (e + 8) 93 [.ref (B + 46), .int (it k)] wm Im Jm = some (none, wm, Im', Jm) ∧ FX3 B Ix Ix' ∧ FMx B wm.2.2.1 Im Jm Im' Jm ∧ JS B a bs t n pd dp (nxC bs t c r k) (nxR bs t c r k) s sl' G Q Ix' Jx Im' := by
  obtain ⟨_, _, hXT, hMR⟩ := JS_c h
  have hb := sgs_k hk
  obtain ⟨Ix', x1, x2, x3⟩ := s_41 (K := K) (d := d) (J := Jx) hX H hXT (k := k) rfl hb.2.2.2.1 (by omega) hb.1
  obtain ⟨Im', m1, m2, m3⟩ := s_93 (K := K) (d := e) (J := Jm) hX hS.1 hS.2.1 hS.2.2.1 hMR (x := k) rfl hk
  have hn := nxC_b (bs := bs) (t := t) (c := c) (r := r) (k := k)
  exact ⟨Ix', Im', x1, m1, x3, FMx_6 m2, JS_k ha h x3 x2 m2 m3 hs (fun z => (hn.2.2.1 z).1)⟩
/-- what is known of the code at a block's beginning -/
def Qc (Q0 gd : Prop) (fa : Nat → Nat → Nat) (f st : Nat) (P : Nat → Prop) (G0 Gs G2 G3 : gG) (bgx bgm brx brm : Nat) : Prop := (Q0 ∧ gd) ∧ Wf fa f st P G0 Gs ∧ Wf fa f st (fun p => P p ∨ p = G2.1) G0 G3 ∧ bgx = Gs.1 ∧ bgm = Gs.1 ∧ brx = G2.1 ∧ brm = G2.1 ∧ Gs.1 ≤ G2.1 ∧ G3.1 = G2.1 + 1 ∧ G3.2.1 G2.1 = 23 ∧ (∀ p, p < Gs.1 → G3.2.1 p = Gs.2.1 p ∧ G3.2.2.1 p = Gs.2.2.1 p) ∧ ∀ p, p ≤ Gs.1 → G3.2.2.2 p = Gs.2.2.2 p
theorem C_75 {dx dy k : Nat} (ha : a = B + 8 ∨ a = B + 22) (hX : TX bs t n) (H : Lay B w) (hp : w.2.1 (B + 2) 1 = some a) (hdx : 180 ≤ dx) (hdy : 180 ≤ dy) (hop : op < 64) (h : SJ K B a bs t n dp w f ln gd st fa0 G0 Q0 P c 0 (sl + 2) cnt vn fa G op Ix Jx wm Im) (hk : (kX bs t c 0 = 257 ∧ k = 1) ∨ (kX bs t c 0 = 259 ∧ k = 3)) :
    ∃ (c3 r3 : Nat) (G2 G3 : gG) (bgx bgm brx brm : Nat) (ty : Int32) (Ix5 : aI) (Jx4 : aJ) (wm2 : aW) (Im1 Im2 Im3 Im4 Im5 : aI) (Jm2 : aJ), Cl K (dx + 5) 75 [.ref (B + 2)] w Ix Jx = some (none, w, Ix5, Jx4) ∧ Cl K (dy + 8) 84 [.ref (B + 46)] wm Im Jm = some (none, wm, Im1, Jm) ∧ Im1 (B + 46) 13 = it bgm ∧ Cl K (dy + 8) 101 [.ref (B + 46)] wm Im1 Jm = some (some (.int ty), wm2, Im2, Jm2) ∧ Cl K (dy + 8) 110 [.ref (B + 46), .int (it (if ty = it 1 then 1 else 0)), .int (it (tst bs t c : Nat))] wm2 Im2 Jm2 = some (none, wm2, Im3, Jm2) ∧ Im3 (B + 46) 13 = it brm ∧ Cl K (dy + 8) 111 [.ref (B + 46), .int (it 23), .int (it 0)] wm2 Im3 Jm2 = some (none, wm2, Im4, Jm2) ∧ Cl K (dy + 7) 93 [.ref (B + 46), .int (it 123)] wm2 Im4 Jm2 = some (none, wm2, Im5, Jm2)
      ∧ Lay B wm2 ∧ FSx B a f op Ix Jx Ix5 Jx4 ∧ FSm B f wm.2.2.1 Im Jm Im5 Jm2 ∧ WG' wm wm2 (c3 - c) ∧ c < c3 ∧ (r3 = 0 → tst bs t c + 4 ≤ tst bs t c3) ∧ bgx ≤ 1000 ∧ bgm ≤ 1000 ∧ brx ≤ 1000 ∧ brm ≤ 1000 ∧ Ix5 (B + 2) 11 = it ((op + 1 : Nat) : Int) ∧ Ix5 (B + 19) op = it k ∧ Ix5 (B + 20) op = it brx ∧ Ix5 (B + 21) op = it bgx
      ∧ SJ K B a bs t n dp w f ln gd G3.1 fa G3 (Qc Q0 gd fa f st P G0 G G2 G3 bgx bgm brx brm) (fun _ => False) c3 r3 (sl + (if r3 = 0 then 3 else 2)) cnt vn fa G3 (op + 1) Ix5 Jx4 wm2 Im5 := by
  obtain ⟨hJ, hO, hS, i2, i30, hcx, hcm, hd, nn⟩ := id h
  obtain ⟨n1, n2, n3, n4, n5, n6, n7⟩ := nn rfl
  have hP : PL w a := PLx H ha
  have hn := hX.2.1
  have h82 := hS.2.2.2
  obtain ⟨hcn, _, hXT, hMR⟩ := JS_c hJ
  have hkk : 256 ≤ kX bs t c 0 := by omega
  have htc : tst bs t c ≤ 240 := by have := tst_t bs t c; have := hX.1; omega
  obtain ⟨bgx, bgm', N1, N2, N3, N4, hJN⟩ := JS_N hJ
  obtain ⟨hc, Ix1, Im1, x1, m1, fx1, fm1, hJ1⟩ := JS_nx (K := K) (d := dx + 3) (e := dy + 2) (Jm := Jm) ha hX H hS hJN (by omega) (by omega)
  have hS1 := SM_f (WG_r (k := 0)) fm1 hS
  obtain ⟨bgx2, bgm, _, N6, _, N8, hJ1'⟩ := JS_N hJ1
  obtain ⟨c2, r2, G2, τ2, ty2, Ix2, Jx2, wm2, Im2, Jm2, y1, y2, y3, y4, y5, y6, y7, y9⟩ := E_any (K := K) (x := dx + 4) (y := dy + 8) (Jm := Jm) ha hX H hp (fun _ => n1) (by omega) (by omega) (StO_F ha fx1 hO) (fun _ => ⟨NX_f ha fx1 n2, NM_f h82 fm1 n3⟩) hS1 hJ1' (fun z => ⟨z.1.1.2.1, by rw [z.1.1.2.2.2.1]; simp⟩) (fun _ => hd.imp id (fun z => ⟨z.1, by have := tst_m hX (show c ≤ c + 1 by omega) hc; omega⟩))
  have hS2 := SM_f y5 y4 hS1
  have sz2 := y5.2.1
  have st2 : ∀ z : Wf fa f st P G0 G, Ext fa f G G2 τ2 50 → G2.2.2.2 G2.1 = [τ2] := fun z z2 => by rw [z2.2.2.2.1, z.2.1]
  obtain ⟨v, u1, hJ2⟩ := JS_67 (K := K) (d := dx + 3) (i := 1) H y9 (by omega) (by omega) (fun z => by rw [st2 z.1.1.1.2.2 z.2.1]; simp)
  obtain ⟨Ix3, Im3, a1, a2, a3, a4, a5, _⟩ := JS_ty (K := K) (d := dx + 3) (e := dy + 7) (Jm := Jm2) (p := tst bs t c) (v = it 1) (ty2 = it 1) ha H hS2.1 hJ2 htc (by
    rintro ⟨⟨z1, z2, z3, z4⟩, z5⟩
    rw [st2 z1.1.1.2.2 z2] at z5
    rw [z5, z4]
    exact Iff.rfl)
  have hS3 := SM_f (WG_r (k := 0)) a4 hS2
  obtain ⟨brx, brm, N9, N10, N11, N12, hJ3⟩ := JS_N a5
  obtain ⟨Ix4, Jx4, Im4, b1, b2, b3, b4, b5⟩ := JS_em (K := K) (d := dx + 2) (e := dy + 7) (Jm := Jm2) (o := 23) (g := 0) (k := 1) (gx := it ((0 : Nat) : Int)) (gm := it ((0 : Nat) : Int)) (tyx := it (-1)) (b := false) ha H hp hS3.1 hJ3 hn (by omega) ⟨fun z => (by cases z), fun z => absurd rfl z⟩ 0 [τ2] [] (by
    rintro ⟨⟨⟨⟨z1, z2, z3, z4⟩, z5⟩, z6⟩, z7⟩
    exact ⟨rfl, rfl, by rw [st2 z1.1.1.2.2 z2]; rfl, rfl, by simp, fun z => (by cases z)⟩)
  have hS4 := SM_f (WG_r (k := 0)) b4 hS3
  have hnx := nxC_b (bs := bs) (t := t) (c := c2) (r := r2) (k := 123)
  obtain ⟨Ix6, Im5, p1, p2, p3, p4, p5⟩ := JS_tk1 (K := K) (d := dx + 1) (e := dy - 1) (Jm := Jm2) (k := 123) (sl' := sl + (if nxR bs t c2 r2 123 = 0 then 3 else 2)) (by decide) ha hX H hS4 b5 (by
    split
    · have := (hnx.2.2.1 (by assumption)).2.1; omega
    · omega)
  rw [show dy - 1 + 8 = dy + 7 by omega] at p2
  have fx6 : FEx B a Ix Jx Ix6 Jx4 := FEx_t (FEx_t (FEx_t (FEx_t fx1 y3) a3) b3) (FX3_E ha p3)
  have fm5 : FMx B wm.2.2.1 Im Jm Im5 Jm2 := FMx_t (Nat.le_refl _) (FMx_t (Nat.le_refl _) (FMx_t (Nat.le_refl _) (FMx_t (Nat.le_refl _) fm1 y4) (FMx_w sz2 a4)) (FMx_w sz2 b4)) (FMx_w sz2 p4)
  have h11 : Ix6 (B + 2) 11 = it op := by rw [fx6.2.1 11 (by omega) (by omega) (by omega)]; exact n5
  have e56 := s_56 (K := K) (d := dx + 2) (k := it k) (br := it brx) (bg := it bgx) H p1 h11 hop
  obtain ⟨o1, o2, o3, o4⟩ := oB_e (B := B) (op := op) (k := it k) (br := it brx) (bg := it bgx) (I := Ix6)
  have c3n := (JS_c p5).1
  refine ⟨nxC bs t c2 r2 123, nxR bs t c2 r2 123, G2, gE1 G2 23 0 [], bgx, bgm, brx, brm, ty2, oB B op (it k) (it brx) (it bgx) Ix6, Jx4, wm2, Im1, Im2, Im3, Im4, Im5, Jm2, x_75 hX H hp hP hXT hk N1 x1 y1 u1 Iff.rfl a1 N9 b1 e56, m1, N6, y2, a2, N10, b2, p2, hS2.1, FSx_t (Nat.le_refl _) (FSx_e ha fx6) (FSx_o ha), FSm_e h82 fm5, WG_k (by omega) y5, by omega, fun z => ?_, N3, N8, N11, N12, o1, o2, o3, o4, ?_⟩
  · obtain ⟨q1, q2, q3⟩ := hnx.2.2.1 z
    have q4 := (y7 q1).2
    have t1 := tst_2 hX hc hkk
    have t2 := tst_1 hX (show c + 1 < n by omega)
    have t3 := tst_m hX (show c + 1 + 1 ≤ c2 by omega) (by omega)
    have t4 := tst_1 hX (show c2 < n by omega)
    rw [q2]
    omega
  · have hb := SJ_b (P' := P) (c' := nxC bs t c2 r2 123) (r' := nxR bs t c2 r2 123) (sl' := sl + (if nxR bs t c2 r2 123 = 0 then 3 else 2)) (G' := gE1 G2 23 0 []) ha hX h fx6 fm5 y5 (by omega)
    have j6 : JS B a bs t n (-1) dp (nxC bs t c2 r2 123) (nxR bs t c2 r2 123) 0 (sl + (if nxR bs t c2 r2 123 = 0 then 3 else 2)) (gE1 G2 23 0 []) (Qc Q0 gd fa f st P G0 G G2 (gE1 G2 23 0 []) bgx bgm brx brm ∧ gd ∧ Wf fa f (gE1 G2 23 0 []).1 (fun _ => False) (gE1 G2 23 0 []) (gE1 G2 23 0 [])) (oB B op (it k) (it brx) (it bgx) Ix6) Jx4 Im5 := by
      refine JS_11 (x := it 0) ha (fun b hb => oB_o (by omega)) (fun k hk => oB_2 hk) (JS_m ?_ (Nat.le_refl _) p5)
      rintro ⟨⟨⟨⟨z1, z2, z3, z4⟩, z5⟩, z6⟩, z7, z8⟩
      obtain ⟨⟨z9, z10, z11⟩, z12, z13⟩ := z1
      obtain ⟨g1, g2, g3, g4, g5, g6⟩ := gE1_o (G := G2) (o := 23) (g := 0) (st := [])
      have et : τ2 = 1 := by
        have zz := z9.2.2
        rw [z6, st2 zz z2] at z5
        have : it 1 = it (τ2 : Nat) := z5
        have := (it_eq (by omega) (by omega) (by omega) (by omega)).mp this
        omega
      refine ⟨⟨⟨z9.1, z9.2.1⟩, z9.2.2, Wf_e z9.2.2 (Ext_x z2) (by omega) (by omega) (by omega) (by simp) ?_ (fun p q q2 => q (Or.inl q2)) (fun _ => Or.inl (Or.inr rfl)), z10, z13, z7, z8, z2.1, g1, g3, fun p hp => ?_, fun p hp => ?_⟩, z9.2.1, Nat.le_refl _, ?_, fun _ _ => ⟨rfl, rfl⟩, fun _ _ => rfl, fun p q1 q2 => by omega, fun p q q1 q2 _ _ q3 q4 => by omega⟩
      · rw [et]; exact Or.inr (Or.inr (Or.inr (Or.inr (Or.inr (Or.inr (Or.inr (Or.inr (Or.inl ⟨rfl, rfl, rfl⟩))))))))
      · have := z2.1
        rw [(g2 p (by omega)).1, (g2 p (by omega)).2]; exact z2.2.1 p hp
      · have := z2.1
        rw [g5 p (by omega)]; exact z2.2.2.1 p hp
      · rw [g1, g6]
    have e59 : Im5 (B + 52) = Im (B + 52) := fm5.1 (B + 52) (by omega) (by omega) (by omega) (by omega)
    have e5 : oB B op (it k) (it brx) (it bgx) Ix6 (a + 5) = Ix (a + 5) := by rw [oB_o (by omega), fx6.1 (a + 5) (by omega) (by omega) (by omega) (by omega) (by omega) (by omega)]
    obtain ⟨cx, c1, c2'⟩ := hcx
    obtain ⟨cm, c3', c4⟩ := hcm
    have nx : NX B a f cnt vn fa ln gd (oB B op (it k) (it brx) (it bgx) Ix6) := by
      have := NX_f ha fx6 n2
      unfold NX at this ⊢
      rw [oB_2 (by omega), oB_o (b := B + 16) (by omega), oB_o (b := B + 15) (by omega), oB_o (b := a + 5) (by omega), oB_o (b := a + 6) (by omega)]
      exact this
    refine ⟨j6, StO_c (fun b hb => ⟨oB_o (by omega), rfl, rfl⟩) (StO_F ha fx6 hO), SM_f y5 fm5 hS, nx.1, (NM_f h82 fm5 n3).1, ⟨cx, c1, by rw [e5]; exact c2'⟩, ⟨cm, c3', by rw [e59]; exact c4⟩, hd.imp id (fun z => ⟨z.1, by have := tst_m hX (show c ≤ nxC bs t c2 r2 123 by omega) c3n; omega⟩), fun _ => ⟨n1, nx, NM_f h82 fm5 n3, by rw [e5]; exact n4, o1, fun _ _ _ => rfl, fun _ _ _ => rfl, Nat.le_refl _, fun _ _ => rfl⟩⟩
end BLK

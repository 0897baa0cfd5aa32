/-! a declaration, both: all of it -/
section DEC
variable {K : Nat → Value} {B d e a : Nat} {w wm wm' : aW} {Ix Im I I' I'' Ix' Im' : aI} {Jx Jm J J' J'' Jx' Jm' : aJ} {bs : Nat → Nat} {t n c r s sl b op m m' : Nat} {pd dp : Int} {G G1 : gG} {Q gd Q0 : Prop} {f cnt st : Nat} {vn ln : Nat → Nat} {fa fa0 : Nat → Nat → Nat} {G0 : gG} {P P' : Nat → Prop}
theorem S_62 {dx dy : Nat} (ha : a = B + 8 ∨ a = B + 22) (hX : TX bs t n) (H : Lay B w) (hp : w.2.1 (B + 2) 1 = some a) (hdx : 180 ≤ dx) (hdy : 180 ≤ dy) (h : SJ K B a bs t n dp w f ln gd st fa0 G0 Q0 P c 0 sl cnt vn fa G op Ix Jx wm Im) (hk : isT (kX bs t c 0)) : Stm K B a bs t n dp w f ln gd st fa0 G0 Q0 P (Cl K (dx + 5) 62 [.ref (B + 2)] w Ix Jx) (Cl K (dy + 10) 99 [.ref (B + 46)] wm Im Jm) c sl op Ix Jx wm Im Jm := by
  obtain ⟨hJ, hO, hS, i2, i30, _, _, hd, nn⟩ := id h
  obtain ⟨n1, n2, n3, n4, n5, n6, n7⟩ := nn rfl
  obtain ⟨np1, np2, np3, np4, np5⟩ := id n1
  have hP : PL w a := PLx H ha
  have hn := hX.2.1
  have h82 := hS.2.2.2
  obtain ⟨hcn, _, hXT, hMR⟩ := JS_c hJ
  have htc : tst bs t c ≤ 240 := by have := tst_t bs t c; have := hX.1; omega
  have htc1 : tst bs t (c + 1) ≤ 240 := by have := tst_t bs t (c + 1); have := hX.1; omega
  obtain ⟨_, hcn1, _⟩ := kX_n (k := kX bs t c 0) hX hcn rfl (by omega) (by omega)
  obtain ⟨Ix1, x1, x2, x3⟩ := s_50 (K := K) (d := dx + 2) (J := Jx) hX H hXT
  obtain ⟨Im1, m1, m2, m3⟩ := s_95 (K := K) (d := dy) (J := Jm) hX hS.1 hS.2.1 hS.2.2.1 hMR
  rw [if_pos hk, if_pos hk] at x2 m3
  rw [if_pos hk] at x1 m1
  obtain ⟨td, htd⟩ : ∃ td : Nat, kX bs t c 0 - 262 = td := ⟨_, rfl⟩
  have t3 : td ≤ 3 := by omega
  rw [htd] at x1 m1
  have hJ1 := JS_k (sl' := sl + 1) ha hJ x3 x2 m2 m3 (by omega) (fun z => z)
  have fx1 : FEx B a Ix Jx Ix1 Jx := FX3_E ha x3
  have fm1 : FMx B wm.2.2.1 Im Jm Im1 Jm := FMx_6 m2
  have hS1 := SM_f (WG_r (k := 0)) fm1 hS
  obtain ⟨Ix2, x4, x5, x6⟩ := s_45 (K := K) (d := dx + 2) (J := Jx) hX H x2
  obtain ⟨Im2, m4, m5, m6⟩ := s_91 (K := K) (d := dy) (J := Jm) hX hS1.1 hS1.2.1 hS1.2.2.1 m3
  have hnx0 := nxC_b (bs := bs) (t := t) (c := c + 1) (r := 0) (k := 1)
  have hJ2 := JS_k (sl' := sl + 1) ha hJ1 x6 x5 m5 m6 (by omega) (fun z => (hnx0.2.2.1 z).1)
  have fx2 : FEx B a Ix Jx Ix2 Jx := FEx_t fx1 (FX3_E ha x6)
  have fm2 : FMx B wm.2.2.1 Im Jm Im2 Jm := FMx_t (Nat.le_refl _) fm1 (FMx_6 m5)
  have hS2 := SM_f (WG_r (k := 0)) fm2 hS
  have n3b := NM_f h82 fm2 n3
  obtain ⟨lx, hlx⟩ : ∃ lx : Nat, (if kX bs t (c + 1) 0 = 1 then tvl bs t (c + 1) else 0) = lx := ⟨_, rfl⟩
  obtain ⟨lm, hlm⟩ : ∃ lm : Nat, (if kX bs t (c + 1) 0 = 1 then tvl bs t (c + 1) + 97 else 0) = lm := ⟨_, rfl⟩
  rw [hlx] at x4
  rw [hlm] at m4
  have hl26 : lx < 26 ∧ (kX bs t (c + 1) 0 = 1 → lm = lx + 97) := by
    by_cases k1 : kX bs t (c + 1) 0 = 1
    · obtain ⟨l1, l2, l3, l4⟩ := nam_l (bs := bs) (t := t) (c := c + 1) (by unfold kX at k1; rw [if_pos rfl] at k1; exact k1)
      rw [if_pos k1] at hlx hlm
      exact ⟨by omega, fun _ => by omega⟩
    · rw [if_neg k1] at hlx
      exact ⟨by omega, fun z => absurd z k1⟩
  have vz8 : ∀ (I : aI), NM B f cnt vn fa ln gd I → ∀ (wz : aW) (Jz : aJ), Lay B wz → ∃ z : Int, Cl K (dy + 8) 97 [.ref (B + 46), .int (it ((lm : Nat) : Int))] wz I Jz = some (some (.int (it z)), wz, I, Jz) ∧ -1 ≤ z ∧ z < 6 ∧ (kX bs t (c + 1) 0 = 1 → z = vix vn lx cnt) := by
    intro I hI wz Jz hL
    obtain ⟨z, z1, z2, z3, z4⟩ := s_97 (K := K) (d := dy + 7) (J := Jz) (lt := it ((lm : Nat) : Int)) hL hI.1 np1 hI.2.1 np2
    exact ⟨z, z1, z2, by omega, fun k1 => z4 vn lx (fun v hv => ⟨(np3 v hv).1, (hI.2.2.1 v hv).1⟩) hl26.1 (by rw [hl26.2 k1, Nat.add_comm])⟩
  obtain ⟨z, z1, z2, z3, z4⟩ := vz8 Im2 n3b wm Jm hS2.1
  have s3 : ∃ (pd3 : Int) (Q3 : Prop) (Im3 : aI), Cl K (dy + 8) 92 [.ref (B + 46), .int (it (if ¬ 0 ≤ z ∧ cnt < 6 then 1 else 0)), .int (it (tst bs t (c + 1) : Nat))] wm Im2 Jm = some (none, wm, Im3, Jm) ∧ FMx B wm.2.2.1 Im2 Jm Im3 Jm ∧ JS B a bs t n pd3 dp (nxC bs t (c + 1) 0 1) (nxR bs t (c + 1) 0 1) 0 (sl + 1) G Q3 Ix2 Jx Im3 ∧ (Q3 → Q0 ∧ gd ∧ Wf fa f st P G0 G) ∧ ((¬ 0 ≤ z ∧ cnt < 6) → pd3 = -1) ∧ (¬ (¬ 0 ≤ z ∧ cnt < 6) → pd3 = (tst bs t (c + 1) : Nat) ∧ ¬ Q3) := by
    by_cases g : ¬ 0 ≤ z ∧ cnt < 6
    · obtain ⟨Im3, u1, u2, u3⟩ := JS_nd (K := K) (e := dy + 7) (Jm := Jm) (p := tst bs t (c + 1)) (¬ 0 ≤ z ∧ cnt < 6) hS2.1 hJ2 htc1 (fun _ => Or.inl g)
      exact ⟨-1, _, Im3, u1, u2, u3, fun q => q.1, fun _ => rfl, fun q => absurd g q⟩
    · obtain ⟨Im3, u1, u2, u3⟩ := JS_pd (K := K) (e := dy + 7) (Jm := Jm) (p := tst bs t (c + 1)) hS2.1 hJ2 htc1
      exact ⟨_, False, Im3, by rw [if_neg g]; exact u1, u2, u3, fun q => q.elim, fun q => absurd q g, fun _ => ⟨rfl, id⟩⟩
  obtain ⟨pd3, Q3, Im3, y1, y2, y3, y4, y5, y6⟩ := s3
  have hS3 := SM_f (WG_r (k := 0)) y2 hS2
  have fm3 : FMx B wm.2.2.1 Im Jm Im3 Jm := FMx_t (Nat.le_refl _) fm2 y2
  obtain ⟨Ix3, Im4, p1, p2, p3, p4, p5⟩ := JS_tk (K := K) (d := dx + 2) (e := dy) (Jm := Jm) (k := 61) (by decide) ha hX H hS3 y3
  have hS4 := SM_f (WG_r (k := 0)) p4 hS3
  have hnx1 := nxC_b (bs := bs) (t := t) (c := nxC bs t (c + 1) 0 1) (r := nxR bs t (c + 1) 0 1) (k := 61)
  have fx3 := FEx_t fx2 p3
  have fm4 : FMx B wm.2.2.1 Im Jm Im4 Jm := FMx_t (Nat.le_refl _) fm3 p4
  have c4n := (JS_c p5).1
  obtain ⟨c5, r5, G5, τ5, ty5, Ix4, Jx4, wm5, Im5, Jm5, v1, v2, v3, v4, v5, v6, v7, v9⟩ := E_any (K := K) (x := dx + 4) (y := dy + 8) (Jm := Jm) ha hX H hp (fun _ => n1) (by omega) (by omega) (StO_F ha fx3 hO) (fun _ => ⟨NX_f ha fx3 n2, NM_f h82 fm4 n3⟩) hS4 p5 (fun q => ⟨(y4 q).2.1, by rw [(y4 q).2.2.2.1]; simp⟩) (fun _ => hd.imp id (fun q => ⟨q.1, by have := tst_m hX (show c ≤ nxC bs t (nxC bs t (c + 1) 0 1) (nxR bs t (c + 1) 0 1) 61 by omega) c4n; omega⟩))
  have hS5 := SM_f v5 v4 hS4
  obtain ⟨Ix5, Im6, o1, o2, o3, o4, o5⟩ := JS_tk (K := K) (d := dx + 2) (e := dy) (Jm := Jm5) (k := 59) (by decide) ha hX H hS5 v9
  have hS6 := SM_f (WG_r (k := 0)) o4 hS5
  have hnx2 := nxC_b (bs := bs) (t := t) (c := c5) (r := r5) (k := 59)
  have sz5 := v5.2.1
  have fx5 := FEx_t (FEx_t fx3 v3) o3
  have fm6 : FMx B wm.2.2.1 Im Jm Im6 Jm5 := FMx_t (Nat.le_refl _) (FMx_t (Nat.le_refl _) fm4 v4) (FMx_w sz5 o4)
  have n2c := NX_f ha fx5 n2
  have n3c := NM_f h82 fm6 n3
  have e55 : Ix5 (a + 5) (4 * f + 2) = it cnt := by rw [fx5.1 (a + 5) (by omega) (by omega) (by omega) (by omega) (by omega) (by omega)]; exact n4
  have h2x : Ix5 (B + 2) 2 = it f := n2c.1
  obtain ⟨c6n, r61, hXT6, hMR6⟩ := JS_c o5
  have cc6 : c < nxC bs t c5 r5 59 := by omega
  have hdd : gd ∨ (0 ≤ dp ∧ dp ≤ tst bs t (nxC bs t c5 r5 59)) := hd.imp id (fun q => ⟨q.1, by have := tst_m hX (show c ≤ nxC bs t c5 r5 59 by omega) c6n; omega⟩)
  have hwg : WG' wm wm5 (nxC bs t c5 r5 59 - c) := WG_k (by omega) v5
  -- what is left: the class from Ix5 on, the reference from Im6 on
  have top : ∀ (Ix6 Ix7 Ix8 : aI) (Jx8 : aJ) (v xv : Int32) (Im7 Im8 Im9 : aI), Cl K (dx + 4) 51 [.ref (B + 2), .int (it ((lx : Nat) : Int)), .int (it ((td : Nat) : Int)), .int (it (tst bs t (c + 1) : Nat))] w Ix5 Jx4 = some (none, w, Ix6, Jx4) → Cl K (dx + 4) 67 [.ref (B + 2), .int (it 1)] w Ix6 Jx4 = some (some (.int v), w, Ix6, Jx4) → Cl K (dx + 4) 68 [.ref (B + 2), .int (it (if v = it ((td : Nat) : Int) then 1 else 0)), .int (it (tst bs t c : Nat))] w Ix6 Jx4 = some (none, w, Ix7, Jx4) → Ix7 (B + 16) lx = xv → Cl K (dx + 4) 58 [.ref (B + 2), .int (it 21), .int xv, .int (it ((1 : Nat) : Int)), .int (it (-1))] w Ix7 Jx4 = some (none, w, Ix8, Jx8) → Cl K (dy + 8) 110 [.ref (B + 46), .int (it (if ty5 = it ((td : Nat) : Int) then 1 else 0)), .int (it (tst bs t c : Nat))] wm5 Im6 Jm5 = some (none, wm5, Im7, Jm5) → FMx B wm5.2.2.1 Im6 Jm5 Im7 Jm5 → Cl K (dy + 8) 111 [.ref (B + 46), .int (it 21), .int (it cnt)] wm5 Im7 Jm5 = some (none, wm5, Im8, Jm5) → Cl K (dy + 8) 96 [.ref (B + 46), .int (it ((lm : Nat) : Int)), .int (it ((td : Nat) : Int)), .int (it (tst bs t (c + 1) : Nat))] wm5 Im8 Jm5 = some (none, wm5, Im9, Jm5) → Cl K (dx + 5) 62 [.ref (B + 2)] w Ix Jx = some (none, w, Ix8, Jx8) ∧ Cl K (dy + 10) 99 [.ref (B + 46)] wm Im Jm = some (none, wm5, Im9, Jm5) := by
    intro Ix6 Ix7 Ix8 Jx8 v xv Im7 Im8 Im9 h51 h67 h68 h53 h58 h110 f110 h111 h96
    have n3d := NM_f (by have := hS5.2.2.2; omega) f110 n3c
    refine ⟨x_62 hX H hXT x1 x2 x4 p1 v1 o1 h51 h67 Iff.rfl h68 (by rw [s_53 (d := dx + 3) H hl26.1, h53]) h58, m_99a (R := (none, wm5, Im9, Jm5)) hS.1 hMR hk (m_100 hS.1 hS5.1 np1 z2 z3 np2 m1 m3.2.2.2.2.1 m4 z1 n3b.1 n3b.2.1 y1 p2 v2 o2 Iff.rfl h110 n3d.1 n3d.2.1 h111 h96)⟩
  have fin : DT K B a bs t n dp w f ln gd st fa0 G0 Q0 P dx dy lx lm td (tst bs t c) (tst bs t (c + 1)) cnt (nxC bs t c5 r5 59) (nxR bs t c5 r5 59) sl op ty5 Ix5 Jx4 wm5 Im6 Jm5 := by
    have i11 : Ix5 (B + 2) 11 = it op := by rw [fx5.2.1 11 (by omega) (by omega) (by omega)]; exact n5
    by_cases r60 : nxR bs t c5 r5 59 = 0
    · have r50 := (hnx2.2.2.1 r60).1
      have r20 := (v7 r50).1
      have k1 : kX bs t (c + 1) 0 = 1 := (hnx0.2.2.1 ((hnx1.2.2.1 r20).1)).2.2
      have hzv := z4 k1
      have hlm97 := hl26.2 k1
      rw [r60] at o5 ⊢
      by_cases g : ¬ 0 ≤ z ∧ cnt < 6
      · rw [y5 g] at o5
        exact D_ok ha hX H hp n1 hl26.1 t3 htc htc1 (StO_F ha fx5 hO) hS6 n2c n3c e55 i11 n6 n7 hdd y4 (by omega) g.2 hlm97 o5
      · obtain ⟨hpd, hq3⟩ := y6 g
        rw [hpd] at o5
        exact D_no (G5 := G5) ha hX H hp n1 hl26.1 t3 htc htc1 (StO_F ha fx5 hO) hS6 n2c n3c e55 i11 n6 n7 hdd (by omega) hlm97 (JS_m (fun q => hq3 q.1) (Nat.le_refl _) o5)
    · have r61' : nxR bs t c5 r5 59 = 1 := by omega
      rw [r61'] at o5 ⊢
      exact D_r1 ha hX H hp n1 hl26.1 t3 htc htc1 (StO_F ha fx5 hO) hS6 n2c n3c e55 i11 n6 n7 hdd o5
  obtain ⟨Ix6, Ix7, Ix8, Jx8, v, xv, Im7, Im8, Im9, cnt', vn', fa', G', q1, q2, q3, q4, q5, q6, q7, q8, q9, q10, q11, q12⟩ := fin
  obtain ⟨t1, t2⟩ := top Ix6 Ix7 Ix8 Jx8 v xv Im7 Im8 Im9 q1 q2 q3 q4 q5 q6 q7 q8 q9
  exact ⟨nxC bs t c5 r5 59, nxR bs t c5 r5 59, cnt', vn', fa', G', Ix8, Jx8, wm5, Im9, Jm5, t1, t2, FSx_t (Nat.le_refl _) (FSx_e ha fx5) q10, FSm_t sz5 (FSm_e h82 fm6) q11, hwg, cc6, q12⟩
end DEC

/-! return and print, both -/
/-- what a statement leaves -/
def Stm (K : Nat → Value) (B a : Nat) (bs : Nat → Nat) (t n : Nat) (dp : Int) (w : aW) (f : Nat) (ln : Nat → Nat) (gd : Prop) (st : Nat) (fa0 : Nat → Nat → Nat) (G0 : gG) (Q0 : Prop) (P : Nat → Prop) (X M : Option aR) (c sl op : Nat) (Ix : aI) (Jx : aJ) (wm : aW) (Im : aI) (Jm : aJ) : Prop :=
  ∃ (c' r' cnt' : Nat) (vn' : Nat → Nat) (fa' : Nat → Nat → Nat) (G' : gG) (Ix' : aI) (Jx' : aJ) (wm' : aW) (Im' : aI) (Jm' : aJ), X = some (none, w, Ix', Jx') ∧ M = some (none, wm', Im', Jm') ∧ FSx B a f op Ix Jx Ix' Jx' ∧ FSm B f wm.2.2.1 Im Jm Im' Jm' ∧ WG' wm wm' (c' - c) ∧ c < c' ∧ SJ K B a bs t n dp w f ln gd st fa0 G0 Q0 P c' r' sl cnt' vn' fa' G' op Ix' Jx' wm' Im'
section RET
variable {K : Nat → Value} {B d e a : Nat} {w wm wm' : aW} {Ix Im I I' I'' Ix' Im' : aI} {Jx Jm J J' J'' Jx' Jm' : aJ} {bs : Nat → Nat} {t n c r s sl b op m m' : Nat} {pd dp : Int} {G G1 : gG} {Q gd Q0 : Prop} {f cnt st : Nat} {vn ln : Nat → Nat} {fa fa0 : Nat → Nat → Nat} {G0 : gG} {P P' : Nat → Prop}
theorem S_76 {dx dy : Nat} (ha : a = B + 8 ∨ a = B + 22) (hX : TX bs t n) (H : Lay B w) (hp : w.2.1 (B + 2) 1 = some a) (hdx : 180 ≤ dx) (hdy : 180 ≤ dy) (h : SJ K B a bs t n dp w f ln gd st fa0 G0 Q0 P c 0 sl cnt vn fa G op Ix Jx wm Im) (hk : kX bs t c 0 = 260 ∨ kX bs t c 0 = 261) : Stm K B a bs t n dp w f ln gd st fa0 G0 Q0 P (Cl K (dx + 5) 76 [.ref (B + 2)] w Ix Jx) (Cl K (dy + 9) 99 [.ref (B + 46)] wm Im Jm) c sl op Ix Jx wm Im Jm := by
  obtain ⟨hJ, hO, hS, i2, i30, _, _, hd, nn⟩ := id h
  obtain ⟨n1, n2, n3, n4, n5, n6, n7⟩ := nn rfl
  have hP : PL w a := PLx H ha
  have hn := hX.2.1
  obtain ⟨hcn, _, hXT, hMR⟩ := JS_c hJ
  have htc : tst bs t c ≤ 240 := by have := tst_t bs t c; have := hX.1; omega
  obtain ⟨hc, Ix1, Im1, x1, m1, fx1, fm1, hJ1⟩ := JS_nx (K := K) (d := dx + 3) (e := dy + 2) (Jm := Jm) ha hX H hS hJ (by omega) (by omega)
  have hS1 := SM_f (WG_r (k := 0)) fm1 hS
  have hd1 : gd ∨ (0 ≤ dp ∧ dp ≤ tst bs t (c + 1)) := hd.imp id (fun z => ⟨z.1, by have := tst_m hX (show c ≤ c + 1 by omega) hc; omega⟩)
  obtain ⟨c2, r2, G2, τ2, ty2, Ix2, Jx2, wm2, Im2, Jm2, y1, y2, y3, y4, y5, y6, y7, y9⟩ := E_any (K := K) (x := dx + 4) (y := dy + 8) (Jm := Jm) ha hX H hp (fun _ => n1) (by omega) (by omega) (StO_F ha fx1 hO) (fun _ => ⟨NX_f ha fx1 n2, NM_f hS.2.2.2 fm1 n3⟩) hS1 hJ1 (fun z => ⟨z.2.1, by rw [z.2.2.2.1]; simp⟩) (fun _ => hd1)
  have hS2 := SM_f y5 y4 hS1
  obtain ⟨Ix3, Im3, t1, t2, fx3, fm3, hJ3⟩ := JS_tk (K := K) (d := dx + 2) (e := dy) (Jm := Jm2) (k := 59) (by decide) ha hX H hS2 y9
  have hnx := nxC_b (bs := bs) (t := t) (c := c2) (r := r2) (k := 59)
  have hS3 := SM_f (WG_r (k := 0)) fm3 hS2
  have fx03 := FEx_t (FEx_t fx1 y3) fx3
  have fm03 : FMx B wm.2.2.1 Im Jm Im3 Jm2 := FMx_t (Nat.le_refl _) (FMx_t (Nat.le_refl _) fm1 y4) (FMx_w y5.2.1 fm3)
  have n2' := NX_f ha fx03 n2
  have n3' := NM_f hS.2.2.2 fm03 n3
  obtain ⟨v, u1, hJ3'⟩ := JS_67 (K := K) (d := dx + 3) (i := 1) H hJ3 (by omega) (by omega) (fun z => by rw [z.2.1.2.2.2.1]; simp)
  obtain ⟨v3, o1, o2⟩ := s_52g (K := K) (d := dx + 3) (w := w) (I := Ix3) (J := Jx2) (x := it f) (k := 3) hP
  have key : ∀ (o : Nat) (qx qm : Prop) [Decidable qx] [Decidable qm], (o = 25 ∨ o = 26) → (∀ (z : Q0 ∧ gd ∧ Wf fa f st P G0 G) (z3 : τ2 ≤ 3), v = it (τ2 : Nat) → ty2 = it (τ2 : Nat) → (qx ↔ qm) ∧ (qx → gEf fa f o 0 [τ2] [])) → ((kX bs t c 0 = 260 ∧ o = 25 ∧ (qx ↔ v = v3)) ∨ (kX bs t c 0 = 261 ∧ o = 26 ∧ (qx ↔ v = it 0 ∨ v = it 1))) → ((kX bs t c 0 = 260 ∧ o = 25 ∧ (qm ↔ ty2 = Im3 (B + 53) f)) ∨ (kX bs t c 0 = 261 ∧ o = 26 ∧ (qm ↔ ty2 = it 0 ∨ ty2 = it 1))) → Stm K B a bs t n dp w f ln gd st fa0 G0 Q0 P (Cl K (dx + 5) 76 [.ref (B + 2)] w Ix Jx) (Cl K (dy + 9) 99 [.ref (B + 46)] wm Im Jm) c sl op Ix Jx wm Im Jm := by
    intro o qx qm _ _ ho hq hkx hkm
    have top : ∀ z : Ext fa f G G2 τ2 50, Wf fa f st P G0 G → (G2.2.2.2 G2.1).getD (1 - 1) 0 = τ2 := fun z _ => by rw [z.2.2.2.1]; rfl
    obtain ⟨Ix4, Im4, a1, a2, a3, a4, a5, _⟩ := JS_ty (K := K) (d := dx + 3) (e := dy + 7) (Jm := Jm2) (p := tst bs t c) qx qm ha H hS3.1 hJ3' htc (fun z => (hq z.1.1 z.1.2.2.1 (by rw [z.2, top z.1.2.1 z.1.1.2.2]) z.1.2.2.2).1)
    have hS4 := SM_f (WG_r (k := 0)) a4 hS3
    obtain ⟨Ix5, Jx5, Im5, b1, b2, b3, b4, b5⟩ := JS_em (K := K) (d := dx + 2) (e := dy + 7) (Jm := Jm2) (o := o) (g := 0) (k := 1) (gx := it ((0 : Nat) : Int)) (gm := it ((0 : Nat) : Int)) (tyx := it (-1)) (b := false) ha H hp hS4.1 a5 hn (by omega) ⟨fun z => (by cases z), fun z => absurd rfl z⟩ 0 [τ2] [] (fun z => ⟨rfl, rfl, by rw [z.1.1.2.1.2.2.2.1, z.1.1.1.2.2.2.1]; rfl, rfl, by simp, fun z => by cases z⟩)
    have fx05 := FEx_t (FEx_t fx03 a3) b3
    have fm05 : FMx B wm.2.2.1 Im Jm Im5 Jm2 := FMx_t (Nat.le_refl _) (FMx_t (Nat.le_refl _) fm03 (FMx_w y5.2.1 a4)) (FMx_w y5.2.1 b4)
    obtain ⟨N, _, _, _, _, _, hJN⟩ := JS_N b5
    refine ⟨nxC bs t c2 r2 59, nxR bs t c2 r2 59, cnt, vn, fa, gE1 G2 o 0 [], Ix5, Jx5, wm2, Im5, Jm2, x_76 hX H hp hP hXT hkx x1 y1 t1 u1 n2'.1 o1 a1 b1, m_99c (R := (none, wm2, Im5, Jm2)) (kf := 0) hS.1 hMR (by unfold isT; omega) (by omega) (m_59r (d' := dy + 7) hS.1 hMR hk (m_240 hX hS.1 hS2.1 hMR n1.1 hkm n3'.1 m1 y2 t2 a2 b2)), FSx_e ha fx05, FSm_e hS.2.2.2 fm05, WG_k (by omega) y5, by omega, SJ_b ha hX h fx05 fm05 y5 (by omega) (JS_m ?_ (Nat.le_refl _) b5)⟩
    rintro ⟨⟨⟨z1, z2, z3, z4⟩, z5⟩, z6⟩
    exact ⟨z1.1, z1.2.1, Wf_e z1.2.2 (Ext_x z2) (by omega) (by omega) (by omega) (by simp) ((hq z1 z3 (by rw [z5, top z2 z1.2.2]) z4).2 z6) (fun p z => z) (fun z => by rcases z with z | z <;> omega)⟩
  rcases hk with hk | hk
  · refine key 25 (v = v3) (ty2 = Im3 (B + 53) f) (Or.inl rfl) (fun z z3 zv zt => ?_) (Or.inl ⟨hk, rfl, Iff.rfl⟩) (Or.inl ⟨hk, rfl, Iff.rfl⟩)
    have e1 : v3 = it (fa f 3 : Nat) := by rw [o2 f (by have := n1.1; omega) (by omega) rfl]; exact ((n2'.2.2.2 z.2.1).2 f (Nat.le_refl _)).2.1
    have e2 : Im3 (B + 53) f = it (fa f 3 : Nat) := (n3'.2.2.2 z.2.1 f (Nat.le_refl _)).2.2.2.1
    have f3 := ((n1.2.2.2.2 z.2.1).1 f (Nat.le_refl _)).2.2.2.1
    rw [zv, zt, e1, e2]
    refine ⟨Iff.rfl, fun q => ?_⟩
    have := it_inj (by omega) (by omega) q
    exact Or.inr (Or.inr (Or.inr (Or.inr (Or.inr (Or.inr (Or.inr (Or.inr (Or.inr (Or.inr (Or.inl ⟨rfl, by rw [show τ2 = fa f 3 by omega], rfl⟩))))))))))
  · refine key 26 (v = it 0 ∨ v = it 1) (ty2 = it 0 ∨ ty2 = it 1) (Or.inr rfl) (fun z z3 zv zt => ?_) (Or.inr ⟨hk, rfl, Iff.rfl⟩) (Or.inr ⟨hk, rfl, Iff.rfl⟩)
    rw [zv, zt]
    refine ⟨Iff.rfl, fun q => ?_⟩
    have : τ2 ≤ 1 := by
      rcases q with q | q
      · have := (it_eq (by omega) (by omega) (by omega) (by omega)).mp q; omega
      · have := (it_eq (by omega) (by omega) (by omega) (by omega)).mp q; omega
    exact Or.inr (Or.inr (Or.inr (Or.inr (Or.inr (Or.inr (Or.inr (Or.inr (Or.inr (Or.inr (Or.inr (Or.inl ⟨rfl, ⟨τ2, this, rfl⟩, rfl⟩)))))))))))
end RET

/-! text -/
section PRT
variable {K : Nat → Value} {B d n b L : Nat} {w0 : aW} {I0 : aI} {xs : Nat → Int32}
theorem so_inj {v v' : Int64} {w w' : aW} {I I' : aI} {J J' : aJ} (h : (some (some (Value.long v), w, I, J) : Option aR) = some (some (Value.long v'), w', I', J')) : v = v' ∧ w = w' ∧ I = I' ∧ J = J' := by
  cases h
  exact ⟨rfl, rfl, rfl, rfl⟩
theorem pr_text (hd : 1000 ≤ d) (hs : gSc b L B xs w0 I0) (hst : StO K B w0 I0) : Pr K (d + 20) (rR K B w0 I0 n) (rR K B w0 I0 (n + 1)) (Sc b B (B + 46) L xs) B (B + 46) 21 83 [] := by
  intro w I J hR
  have H := hR.1
  obtain ⟨⟨N, F, fa, oc, ar, sh, rc⟩, a, a', bg, ha, p1, p2, p3, TC, gx, gm, b1, b2, b3, b4, b5⟩ := id hR.2.2.2.2.2.2.2.2.2
  obtain ⟨t, t1, t2, t3, t4⟩ := id hR.2.2.2.2.2.2.2.1
  have sz := hR.2.2.2.1
  have sz1 := sz.1
  have ha' : a' = B + 8 ∨ a' = B + 22 := by omega
  obtain ⟨bs, hbs⟩ : ∃ bs : Nat → Nat, ∀ i, i < t → bs i < 256 ∧ I (B + 1) i = it (bs i) ∧ I (B + 48) i = it (bs i) := ⟨fun i => (I (B + 1) i).toNatClampNeg, fun i hi => by
    obtain ⟨v, v1, v2, v3⟩ := t4 i hi
    show (I (B + 1) i).toNatClampNeg < 256 ∧ I (B + 1) i = it ((I (B + 1) i).toNatClampNeg : Nat) ∧ I (B + 48) i = it ((I (B + 1) i).toNatClampNeg : Nat)
    rw [v2, it_n (by omega)]
    exact ⟨v1, rfl, v3⟩⟩
  have hO : StO K B w I := StO_c (fun x hx => hR.2.1 x hx) hst
  have hS0 : SM K B w I := ⟨H, hR.2.2.1, hO, sz1⟩
  have hM0 : MTp B bs t I := ⟨t3, fun i hi => ⟨(hbs i hi).1, (hbs i hi).2.2⟩⟩
  have hI : ∀ i, i < t → bs i < 256 ∧ I (B + 1) i = it (bs i) := fun i hi => ⟨(hbs i hi).1, (hbs i hi).2.1⟩
  have hC := hR.2.2.2.2.1
  obtain ⟨kk, hkk⟩ : ∃ kk : Nat, kk = 1000 := ⟨1000, rfl⟩
  obtain ⟨n1, c1, r1, f1, h1, N1, Nm1, nfx1, nfm1, tfx1, tfm1, rc1, fa1, G1, X1, JX1, wm1, Z1, JZ1, km1, hX1, e22, _, _, fx, _, _, xE1, _, _⟩ := T_read (K := K) (dx := d + 12) (dy := d + 10) (km := kk) (Jm := J) ha' H p2 t1 hC hO hI p3.2 hS0 hM0 (by omega) (by omega) (by omega)
  have xb : ∀ (X : aI) (JX : aJ), FTx B a' I J X JX → ∀ b, (b ≤ B + 1 ∨ b = B + 7 ∨ a ≤ b ∧ b ≤ a + 6 ∨ B + 29 ≤ b) → X b = I b := fun X JX hF b hb => hF.1 b (by unfold oX; omega) (by omega) (by omega) (by omega) (by omega) (by omega)
  have cx := x_21 (K := K) (d := d + 16) (ao := a) ha' H p1 p2 hX1 t2 (by rw [xb _ _ fx B (by omega)]; exact t2) xE1 e22
  obtain ⟨v, w1, I1, J1, q21, qw1, qw2, qw3, qL, qI, qJ⟩ : ∃ (v : Int64) (w1 : aW) (I1 : aI) (J1 : aJ), Cl K (d + 20) 21 [.ref B] w I J = some (some (.long v), w1, I1, J1) ∧ w1.1 = w.1 ∧ (∀ b, ¬ b = B → ¬ b = B + 2 → w1.2.1 b = w.2.1 b) ∧ w1.2.2 = w.2.2 ∧ Lay B w1 ∧ (∀ b, ¬ b = B → I1 b = X1 b) ∧ J1 = JX1 := by
    by_cases hk : fk r1 N1 nfx1 tfx1 = 0
    · refine ⟨_, _, _, _, cx.2 hk, rfl, fun b b1 b2 => ?_, rfl, Lay_xW H, fun b hb => ?_, rfl⟩
      · show sm_up2 (sm_up2 w.2.1 (B + 2) 1 (some a)) B 3 (some a') b = _
        rw [up2_n b1, up2_n b2]
      · unfold xI
        rw [up2_n hb, up2_n hb, up2_n hb, up2_n hb]
    · refine ⟨_, _, _, _, cx.1 hk, rfl, fun _ _ _ => rfl, rfl, H, fun b hb => ?_, rfl⟩
      unfold xI
      rw [up2_n hb, up2_n hb, up2_n hb]
  have iB : ∀ b, (b < B ∨ b = B + 1 ∨ b = B + 7 ∨ a ≤ b ∧ b ≤ a + 6 ∨ B + 29 ≤ b) → I1 b = I b := fun b hb => by rw [qI b (by omega), xb _ _ fx b (by omega)]
  have hS1 : SM K B w1 I1 := by
    refine ⟨qL, fun i hi => ?_, StO_c (fun x hx => ⟨iB x (by omega), by rw [qw1], by rw [qw2 x (by omega) (by omega)]⟩) hO, by rw [qw3]; exact sz1⟩
    obtain ⟨q, q1, q2⟩ := hR.2.2.1 i hi
    exact ⟨q, q1, by rw [qw2 (B + 61) (by omega) (by omega)]; exact q2⟩
  have hM1 : MTp B bs t I1 := by
    unfold MTp
    rw [iB (B + 46) (by omega), iB (B + 48) (by omega)]
    exact hM0
  obtain ⟨n2, c2, r2, f2, h2, N2, Nm2, nfx, nfm, tfx, tfm, rc2, fa2, G2, X, JX, wm2, Z, JZ, km2, hX2, e22', e83, hkm, fx2, fm2, wg, xE, mE, hfl⟩ := T_read (K := K) (dx := d + 12) (dy := d + 10) (km := kk) (wm := w1) (Im := I1) (Jm := J1) ha' H p2 t1 hC hO hI p3.2 hS1 hM1 (by omega) (by omega) (by omega)
  have cx2 := x_21 (K := K) (d := d + 16) (ao := a) ha' H p1 p2 hX2 t2 (by rw [xb _ _ fx2 B (by omega)]; exact t2) xE e22'
  obtain ⟨ek, ep⟩ := fk_eq (pl := tst bs t c2) (t := t) hfl
  have ws : w1.2.2.1 = w.2.2.1 := by rw [qw3]
  have ws2 : w1.2.2.2 = w.2.2.2 := by rw [qw3]
  have zb : ∀ b, b < B + 75 → oF B b → Z b = I1 b := fun b hb ho => fm2.1 b (by omega) ho
  have zk : ∀ k, ¬ k = 5 → ¬ k = 13 → k < 22 ∨ 31 < k → Z (B + 46) k = I (B + 46) k := fun k k1 k2 k3 => by rw [fm2.2.1 k k1 k2 k3, iB (B + 46) (by omega)]
  have zI1 : ∀ b, b < B + 75 → oF B b → (b < B ∨ b = B + 1 ∨ b = B + 7 ∨ a ≤ b ∧ b ≤ a + 6 ∨ B + 29 ≤ b) → Z b = I b := fun b hb ho hc => by rw [zb b hb ho, iB b hc]
  have L2 : Lay B wm2 := Lay_g qL (by omega) wg
  have wt : ∀ b, b < B + 75 → wm2.1 b = w.1 b := fun b hb => by rw [(wg.1 b (by omega)).1, qw1]
  have wp : ∀ b, b < B + 75 → wm2.2.1 b = w1.2.1 b := fun b hb => (wg.1 b (by omega)).2
  have wp2 : ∀ b, b < B + 75 → ¬ b = B → ¬ b = B + 2 → wm2.2.1 b = w.2.1 b := fun b hb b1 b2 => by rw [wp b hb, qw2 b b1 b2]
  have g1 := wg.2.1
  have g2 := wg.2.2.1
  have g3 := wg.2.2.2
  have e98 := m_83e (K := K) (k := km2) (d := d + 19) (J := JZ) L2 mE hX2 (by rw [zk 2 (by omega) (by omega) (by omega)]; exact t3)
  rw [ek, ep] at e98
  have hm83 : ∀ R, f_83_98 K km2 (d + 19) (B + 46) wm2 Z JZ = some R → Cl K (d + 20) 83 [.ref (B + 46)] w1 I1 J1 = some R := fun R hR => cl_83 (k := kk) (e83.trans hR)
  have hsc : Sc b B (B + 46) L xs w1 I1 := sc_of hs qL (by rw [qw1]; exact (hR.2.1 b hs.1).2.1) (by rw [iB b (Or.inl hs.1)]; exact (hR.2.1 b hs.1).1)
  have jx0 : JX (B + 18) 0 = 0 := by
    have := congrFun (fx2.2 (B + 18) (by omega)) 0
    rw [jv_0, jv_0] at this
    rw [this]; exact p3.2
  by_cases hk : fk r2 N2 nfx tfx = 0
  · obtain ⟨ev, ew, eI, eJ⟩ := so_inj (q21.symm.trans (cx2.2 hk))
    obtain ⟨rk0, nf0, tf0, N200⟩ := fk_0 hk
    obtain ⟨en, hfl2⟩ := hfl rk0
    rcases hfl2 with z | ⟨_, z⟩ | ⟨_, _, _, eN, eNm, hT⟩
    · omega
    · omega
    rw [if_pos hk] at e98
    obtain ⟨I2, u1, u2, u3, u4, u5, u6, u7, u8⟩ := m_ok (K := K) (d := d + 17) (J := JZ) (kx := km2) L2 hT (by omega) (by rw [← eNm]; exact mE.2.2.2.2.2.2.2.2.2.1) (by omega)
    have I1B : ∀ k, ¬ k = 8 → ¬ k = 9 → ¬ k = 1 → ¬ k = 5 → I1 B k = I B k := fun k k1 k2 k3 k4 => by
      rw [eI, up2_r, up1_n k4]
      unfold xI
      rw [up2_r, up1_n k3, up2_r, up1_n k2, up2_r, up1_n k1, xb _ _ fx2 B (by omega)]
    have I1X : ∀ b, ¬ b = B → I1 b = X b := fun b hb => by
      rw [eI, up2_n hb]
      unfold xI
      rw [up2_n hb, up2_n hb, up2_n hb]
    have b8 : I1 B 8 = it 0 := by rw [eI, up2_r, up1_n (by omega)]; unfold xI; rw [up2_r, up1_n (by omega), up2_r, up1_n (by omega), up2_r, up1_s]; rfl
    have b9 : I1 B 9 = it (-1) := by rw [eI, up2_r, up1_n (by omega)]; unfold xI; rw [up2_r, up1_n (by omega), up2_r, up1_s]
    have b1' : I1 B 1 = it 0 := by rw [eI, up2_r, up1_n (by omega)]; unfold xI; rw [up2_r, up1_s]
    have b5' : I1 B 5 = it 0 := by rw [eI, up2_r, up1_s]
    have IB : I2 B = I1 B := by rw [u2 B (by omega) (by omega) (by omega) (by omega) (by omega) (by omega) (by omega), zb B (by omega) (by unfold oF; omega)]
    have I29 : I2 (B + 29) = I (B + 29) := by rw [u2 _ (by omega) (by omega) (by omega) (by omega) (by omega) (by omega) (by omega), zI1 _ (by omega) (by unfold oF; omega) (by omega)]
    have d2 : d + 17 + 2 = d + 19 := by omega
    rw [d2] at u1
    refine ⟨v, w1, I1, J1, wm2, I2, JZ, q21, hsc, hm83 _ (e98.trans (by rw [u1, ev, eN])), rR_tx hR L2 wt wp2 (by omega) (by omega) (by omega) (fun b hb => ?_) (by rw [IB, b8, u5]) (by rw [IB, b9, u6]) (by rw [IB, b1']) u4 (rPM_ok (a := a) (a' := a') ha ?_ ?_ ⟨?_, ?_⟩ hT (by omega) (by rw [← eN]; exact xE.2.2.2.2.2.2.2.2.2.1) (fun b b1 b2 => ?_) ?_ u8 (by rw [IB, b5']) u7 (by rw [I29]; exact b4))⟩
    · rw [u2 b (by omega) (by omega) (by omega) (by omega) (by omega) (by omega) (by omega), zI1 b (by omega) (by unfold oF; omega) (by omega)]
    · rw [wp B (by omega), ew]
      show sm_up2 (sm_up2 w.2.1 (B + 2) 1 (some a)) B 3 (some a') B 3 = _
      rw [up2_r, up1_s]
    · rw [wp (B + 2) (by omega), ew]
      show sm_up2 (sm_up2 w.2.1 (B + 2) 1 (some a)) B 3 (some a') (B + 2) 1 = _
      rw [up2_n (by omega), up2_r, up1_s]
    · rw [wp2 (B + 29) (by omega) (by omega) (by omega)]; exact p3.1
    · rw [fm2.2.2 (B + 18) (by omega), eJ]; exact jx0
    · rw [u2 b (by omega) (by omega) (by omega) (by omega) (by omega) (by omega) (by omega), zb b (by omega) (by unfold oF; omega), I1X b (by omega)]
    · rw [fm2.2.2 (a' + 3) (by omega), eJ]
  · obtain ⟨ev, ew, eI, eJ⟩ := so_inj (q21.symm.trans (cx2.1 hk))
    rw [if_neg hk] at e98
    have zo : ∀ b, ¬ b = B + 46 → zI B (fk r2 N2 nfx tfx) (fpl r2 N2 nfx tfx (tst bs t c2) t) Z b = Z b := fun b hb => by unfold zI; rw [up2_n hb, up2_n hb, up2_n hb]
    have z3 : zI B (fk r2 N2 nfx tfx) (fpl r2 N2 nfx tfx (tst bs t c2) t) Z (B + 46) 3 = it (fk r2 N2 nfx tfx : Nat) := by unfold zI; rw [up2_r, up1_n (by omega), up2_r, up1_n (by omega), up2_r, up1_s]
    have z4 : zI B (fk r2 N2 nfx tfx) (fpl r2 N2 nfx tfx (tst bs t c2) t) Z (B + 46) 4 = it (fpl r2 N2 nfx tfx (tst bs t c2) t) := by unfold zI; rw [up2_r, up1_n (by omega), up2_r, up1_s]
    have z2 : zI B (fk r2 N2 nfx tfx) (fpl r2 N2 nfx tfx (tst bs t c2) t) Z (B + 46) 2 = it 0 := by unfold zI; rw [up2_r, up1_s]
    have zz : ∀ k, ¬ k = 2 → ¬ k = 3 → ¬ k = 4 → zI B (fk r2 N2 nfx tfx) (fpl r2 N2 nfx tfx (tst bs t c2) t) Z (B + 46) k = Z (B + 46) k := fun k k1 k2 k3 => by unfold zI; rw [up2_r, up1_n k1, up2_r, up1_n k3, up2_r, up1_n k2]
    have b8 : I1 B 8 = it (fk r2 N2 nfx tfx : Nat) := by rw [eI]; unfold xI; rw [up2_r, up1_n (by omega), up2_r, up1_n (by omega), up2_r, up1_s]
    have b9 : I1 B 9 = it (fpl r2 N2 nfx tfx (tst bs t c2) t) := by rw [eI]; unfold xI; rw [up2_r, up1_n (by omega), up2_r, up1_s]
    have b1' : I1 B 1 = it 0 := by rw [eI]; unfold xI; rw [up2_r, up1_s]
    have b5' : I1 B 5 = I B 5 := by rw [eI]; unfold xI; rw [up2_r, up1_n (by omega), up2_r, up1_n (by omega), up2_r, up1_n (by omega), xb _ _ fx2 B (by omega)]
    have IB : zI B (fk r2 N2 nfx tfx) (fpl r2 N2 nfx tfx (tst bs t c2) t) Z B = I1 B := by rw [zo B (by omega), zb B (by omega) (by unfold oF; omega)]
    refine ⟨v, w1, I1, J1, wm2, zI B (fk r2 N2 nfx tfx) (fpl r2 N2 nfx tfx (tst bs t c2) t) Z, JZ, q21, hsc, by rw [ev]; exact hm83 _ e98, rR_tx hR L2 wt wp2 (by omega) (by omega) (by omega) (fun b hb => ?_) (by rw [IB, b8, z3]) (by rw [IB, b9, z4]) (by rw [IB, b1']) z2 (rPM_tf (a := a) (a' := a') (GA := (N, F, fa, oc, ar, sh, rc)) (I := I) (J := J) ha ?_ ?_ ⟨?_, ?_⟩ TC gx gm b1 b2 b3 b4 (fun hb => ?_) (fun b hb => ?_) ?_ (by rw [IB, b5']) (by rw [zz 16 (by omega) (by omega) (by omega), zk 16 (by omega) (by omega) (by omega)]) (by rw [zz 17 (by omega) (by omega) (by omega), zk 17 (by omega) (by omega) (by omega)]) (by rw [zz 41 (by omega) (by omega) (by omega), zk 41 (by omega) (by omega) (by omega)]) (by rw [zz 42 (by omega) (by omega) (by omega), zk 42 (by omega) (by omega) (by omega)]))⟩
    · rw [zo b (by omega), zI1 b (by omega) (by unfold oF; omega) (by omega)]
    · rw [wp B (by omega), ew]; exact p1
    · rw [wp (B + 2) (by omega), ew]; exact p2
    · rw [wp2 (B + 29) (by omega) (by omega) (by omega)]; exact p3.1
    · rw [fm2.2.2 (B + 18) (by omega), eJ]; exact jx0
    · obtain ⟨k1, k2, k3⟩ := b5 hb
      exact ⟨by rw [wp2 (B + 29) (by omega) (by omega) (by omega)]; exact k1, k2, k3⟩
    · rw [zo b (by omega), zI1 b (by omega) (by unfold oF; omega) (by omega)]
    · rw [fm2.2.2 (a + 3) (by omega), eJ]
      have := fx2.2 (a + 3) (by omega)
      rw [jv_n (by omega), jv_n (by omega)] at this
      exact this
end PRT

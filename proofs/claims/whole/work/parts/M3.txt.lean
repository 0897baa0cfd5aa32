/-! a whole text, both -/
section TRD
variable {K : Nat → Value} {B d e a : Nat} {w wm wm' : aW} {Ix Im Im0 I I' I'' Ix' Im' : aI} {Jx Jm J J' J'' Jx' Jm' : aJ} {bs : Nat → Nat} {t n c r s sl sl' b op op' m m' : Nat} {pd dp dp0 : Int} {G G1 G' : gG} {Q Q' gd Y : Prop} {f lp pc pm : Nat} {ln : Nat → Nat} {fa fa' : Nat → Nat → Nat}
/-- cells that a text of the class leaves -/
def FTx (B a : Nat) (I : aI) (J : aJ) (X : aI) (JX : aJ) : Prop := (∀ b, oX B a b → ¬ b = B + 15 → ¬ b = B + 4 → ¬ b = B + 5 → ¬ b = B + 6 → ¬ b = a + 4 → X b = I b) ∧ ∀ b, ¬ b = a + 3 → jv B JX b = jv B J b
theorem T_read {dx dy km : Nat} (ha : a = B + 8 ∨ a = B + 22) (H : Lay B w) (hp : w.2.1 (B + 2) 1 = some a) (ht : t ≤ 240) (hC : rCo B I) (hO : StO K B w I) (hI : ∀ i, i < t → bs i < 256 ∧ I (B + 1) i = it (bs i)) (j0 : J (B + 18) 0 = 0) (hS : SM K B wm Im) (hM : MTp B bs t Im) (hdx : 181 ≤ dx) (hdy : 1000 ≤ dy) (hkm : 10 ≤ km) :
    ∃ (n c r f h N Nm : Nat) (nfx nfm tfx tfm : Int) (rc : Nat → Bool) (fa : Nat → Nat → Nat) (G : gG) (X : aI) (JX : aJ) (wm' : aW) (Z : aI) (JZ : aJ) (km' : Nat), TX bs t n ∧ Cl K (dx + 7) 22 [.ref (B + 2), .ref (B + 1), .int (it t)] w I J = some (none, w, X, JX) ∧ f_83 K km (dy + 9) (B + 46) wm Im Jm = f_83_98 K km' (dy + 9) (B + 46) wm' Z JZ ∧ km ≤ km' + 10 ∧ FTx B a I J X JX ∧ FGm B wm.2.2.1 Im Jm Z JZ ∧ WG' wm wm' 240 ∧ XE B a bs t n c r h N nfx tfx X ∧ ME B bs t n c r 0 Nm nfm tfm Z ∧ (r = 0 → TFl B a f fa G rc X JX Z N Nm nfx nfm tfx tfm) := by
  obtain ⟨n, Ix, hX, e22, xt, i6, i7, a6, a7, a5, i15, fr⟩ := x_22 (K := K) (d := dx) (J := J) (l1 := 0) ha H hp ht hC hO hI
  obtain ⟨Im1, e83, mr, m27, m28, m29, m5, m13, mo, mk⟩ := m_83 (K := K) (dy := dy) (Jm := Jm) hS ht hX hM
  have hS1 : SM K B wm Im1 := ⟨hS.1, hS.2.1, StO_c (fun b hb => ⟨mo b (by omega), rfl, rfl⟩) hS.2.2.1, hS.2.2.2⟩
  have hO1 : StO K B w (sm_up2 Ix (B + 2) 8 (it 0)) := StO_c (fun b hb => ⟨by rw [up2_n (by omega), fr b (by unfold oX; omega) (by omega) (by omega) (by omega) (by omega)], rfl, rfl⟩) hO
  have h0 := FJ_0 (K := K) (w := w) (Ix := sm_up2 Ix (B + 2) 8 (it 0)) (Jx := J) (sl := 0 + 4 * 4 + 4) ha (XT_f (up2_n (by omega)) (up2_n (by omega)) (up2_n (by omega)) (up2_n (by omega)) xt) (by rw [up2_r, up1_n (by omega)]; exact i6) (by rw [up2_r, up1_n (by omega)]; exact i7) (by rw [up2_r, up1_s]) (by rw [up2_n (by omega)]; exact a6) (by rw [up2_n (by omega)]; exact a7) (by rw [up2_n (by omega)]; exact a5) (by rw [up2_n (by omega)]; exact i15) j0 hO1 hS1 mr m27 m28 m29 m5 m13 (by omega)
  obtain ⟨c1, r1, dp1, gd1, Y1, ln1, fa1, G1, lp1, pc1, pm1, Ix1, Ix2, Ix3, Jx3, Ix4, Jx4, wm1, Im2, Jm2, q38, q40, q55, q77, q88, fx1, fm1, wg1, hJ1, hY1⟩ := T_one (K := K) (dx := dx) (dy := dy) (Jm := Jm) ha hX H hp hdx hdy a6 (i15 0 (by omega)) h0
  obtain ⟨kk, hkk⟩ : ∃ kk : Nat, kk = 100 := ⟨100, rfl⟩
  obtain ⟨f', c', r', kx', km', lp', pc', pm', dp', gd', Y', ln', fa', G', Ix', Jx', wm', Im0, Im', Jm', t1, t2, t3, t4, t5, t6, t7, t8, t9, t10, t11, t12, t13, t14⟩ := T_loop (K := K) (dx := dx) (dy := dy) (l1 := B + 1) (l2 := it t) (sl := 0) ha hX H hp hdx hdy 4 1 c1 r1 kk km lp1 pc1 pm1 dp1 gd1 Y1 ln1 fa1 G1 Ix4 Jx4 wm1 Im2 Jm2 (by omega) (by omega) (by omega) (by omega) hJ1 hY1
  obtain ⟨r2, h2, N, Nm, nfx, nfm, tfx, tfm, rc, X, JX, Z, u1, u2, u3, u4, u5, u6, u7, u8⟩ := T_fin (K := K) (dx := dx) (dy := dy) (kx := kx') (km := km') (l1 := B + 1) (l2 := it t) (l3 := it f') (Jm := Jm') ha hX H hp t4 t5 t13 t14 t10 t11 t12
  have hc' := (JS_c t13.1).1
  have hn := hX.2.1
  refine ⟨n, c', r2, f', h2, N, Nm, nfx, nfm, tfx, tfm, rc, fa', G', X, JX, wm', Z, Jm', km', hX, cl_22 (k := kk + 1) ?_, ?_, by omega, ⟨fun b b1 b2 b3 b4 b5 b6 => ?_, fun b hb => ?_⟩, ?_, WG_k (by omega) (WG_t wg1 t8), u6, u7, u8⟩
  · rw [e22]
    have s1 := x_36s (K := K) (dx := dx) (k := kk) (l1 := B + 1) (l2 := it t) (f := 0) hX H xt (by omega) (Or.inl rfl) q38 q40 q55 q77
    have s1' : f_22_36 K (kk + 1) (dx + 6) (B + 2) (B + 1) (it t) (it 0) w Ix J = _ := s1
    rw [s1']
    exact t1.trans u1
  · rw [e83 km wm1 Im2 Jm2 q88, t2, u2]
  · rw [u3 b b1 b6, t6.1 b b1 b2, fx1.1 b b1 b2, fr b b1 b2 b3 b4 b5]
  · exact ((u4 b hb).trans (t6.2 b hb hb)).trans (fx1.2 b hb hb)
  · have f0 : FGm B wm.2.2.1 Im Jm Im1 Jm := ⟨fun b _ hb => mo b hb.1, mk, fun _ _ => rfl⟩
    have f3 : FGm B wm'.2.2.1 Im' Jm' Z Jm' := ⟨fun b hb ho => u5.1 b hb ho.1 ho.2.2.2.2.2.2.2.2.1 ho.2.2.2.2.2.2.2.2.2, fun k k1 k2 k3 => u5.2.1 k (by omega) (by omega) (by omega) (by omega) (by omega) (by omega) (by omega) (by omega) (by omega), fun b hb => u5.2.2 b hb⟩
    have w1 := wg1.2.1
    have w2 := t8.2.1
    exact FGm_t (Nat.le_refl _) f0 (FGm_t w1 fm1 (FGm_t w2 t7 f3))
end TRD

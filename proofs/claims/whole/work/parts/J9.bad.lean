/-! a head whose brackets hold what no parameter begins with -/
section BADH
variable {K : Nat → Value} {B d e a : Nat} {w wm wm' : aW} {Ix Im I I' I'' Ix' Im' : aI} {Jx Jm J J' J'' Jx' Jm' : aJ} {bs : Nat → Nat} {t n c r s sl sl' b op op' m m' : Nat} {pd dp dp0 : Int} {G G1 G' Gs G2 G3 : gG} {Q Q' Qh Qx gd Q0 Q0' : Prop} {f cnt cnt' st st' lp pc pm : Nat} {vn vn' ln : Nat → Nat} {fa fa' fa0 fa0' fs : Nat → Nat → Nat} {G0 G0' : gG} {P P' : Nat → Prop}
theorem s_41x {k : Nat} (hX : TX bs t n) (H : Lay B w) (hT : XT B bs t n c r I) (hk : ¬ kX bs t c r = k) (k1 : k < 1000) : Cl K (d + 2) 41 [.ref (B + 3), .int (it k)] w I J = some (none, w, sm_up2 I (B + 3) 6 (it 1), J) := by
  have hb := kX_b (bs := bs) (t := t) (c := c) (r := r)
  have e43 : Cl K (d + 1) 43 [.ref (B + 3)] w I J = some (none, w, sm_up2 I (B + 3) 6 (it 1), J) := by
    apply cl_43 (k := 0)
    unfold f_43
    simp only [it_lit, lt_p, gO_e (yt3 H)]
  apply cl_41 (k := 0)
  unfold f_41
  simp only [gO_e (yt3 H)]
  rw [s_37 H hT hX.2.1]
  simp only [cI_e, gO_e (yt3 H)]
  rw [if_pos (fun q => by have := (it_eq (by omega) (by omega) (by omega) (by omega)).mp q; omega), e43]
  rfl
theorem up2_2 {α : Type} (g : Nat → Nat → α) (p k : Nat) (x : α) : sm_up2 (sm_up2 g p k x) p k x = sm_up2 g p k x := by
  funext i j
  by_cases e : i = p
  · subst e
    rw [up2_r, up2_r]
    by_cases e2 : j = k
    · rw [e2, up1_s, up1_s]
    · rw [up1_n e2]
  · rw [up2_n e]
theorem P_bad {dx dy km : Nat} {l1 l2 : Int32} (ha : a = B + 8 ∨ a = B + 22) (hX : TX bs t n) (H : Lay B w) (f4 : f ≤ 4) (h : PJ K B a bs t n dp w f ln c r sl cnt vn fa G op Q Ix Jx wm Im) (hk : kX bs t c r = 3) (hnm : NM B f 0 vn fa ln False Im) (h58 : Im (B + 51) f = it 0) :
    ∃ Im4 : aI, f_88_165 K (km + 1) (dy + 8) (B + 46) l1 l2 (it 1) wm Im Jm = f_88_165 K km (dy + 8) (B + 46) l1 l2 (it 0) wm Im4 Jm ∧ (∀ kx x y, f_40_131 K kx (dx + 4) (B + 2) x y w Ix Jx = f_40_131 K kx (dx + 4) (B + 2) x y w (sm_up2 Ix (B + 3) 6 (it 1)) Jx) ∧ (∀ b, b < wm.2.2.1 → ¬ b = B + 46 → ¬ b = B + 51 → ¬ b = B + 56 → ¬ b = B + 57 → Im4 b = Im b) ∧ (∀ k, ¬ k = f → Im4 (B + 51) k = Im (B + 51) k) ∧ (∀ k, ¬ k = 13 ∧ ¬ k = 22 ∧ ¬ k = 23 ∧ ¬ k = 24 ∧ ¬ k = 25 ∧ ¬ k = 26 ∧ ¬ k = 27 ∧ ¬ k = 28 ∧ ¬ k = 29 → Im4 (B + 46) k = Im (B + 46) k) ∧ Im4 (B + 51) f = it ((1 : Nat) : Int) ∧ PJ K B a bs t n dp w f ln c 1 sl cnt vn fa G op Q' (sm_up2 Ix (B + 3) 6 (it 1)) Jx wm Im4 := by
  obtain ⟨hJ, hO, hS, i2, i30, ⟨cx, cx1, cx2⟩, ⟨cm, cm1, cm2⟩, hdp, i11, nn⟩ := h
  have hn := hX.2.1
  have h82 := hS.2.2.2
  obtain ⟨hcn, hr1, hXT, hMR⟩ := JS_c hJ
  have nT : ¬ isT (kX bs t c r) := by rw [hk]; unfold isT; omega
  obtain ⟨Im1, p1, p2, p3⟩ := s_95 (K := K) (d := dy) (J := Jm) hX hS.1 hS.2.1 hS.2.2.1 hMR
  rw [if_neg nT, if_neg nT] at p3
  rw [if_neg nT] at p1
  have hS1 : SM K B wm Im1 := ⟨hS.1, hS.2.1, StO_c (fun b hb => ⟨p2.1 b (by omega), rfl, rfl⟩) hS.2.2.1, hS.2.2.2⟩
  obtain ⟨Im2, q1, q2, q3⟩ := s_91 (K := K) (d := dy) (J := Jm) hX hS1.1 hS1.2.1 hS1.2.2.1 p3
  have k1 : ¬ kX bs t c 1 = 1 := by unfold kX; rw [if_neg (by omega)]; omega
  unfold nxC nxR at q3
  rw [if_neg k1, if_neg k1] at q3
  rw [if_neg k1] at q1
  have f12 : FM6 B Im Im2 := FM6_t p2 q2
  have hS2 : SM K B wm Im2 := ⟨hS.1, hS.2.1, StO_c (fun b hb => ⟨f12.1 b (by omega), rfl, rfl⟩) hS.2.2.1, hS.2.2.2⟩
  have xTr : XT B bs t n c 1 (sm_up2 Ix (B + 3) 6 (it 1)) := XT_u (Or.inr rfl) (by rw [up2_r, up1_n (by omega)]; exact hXT.2.1) (by rw [up2_r, up1_s]; rfl) hcn (by omega) hXT
  have fxr : FX3 B Ix (sm_up2 Ix (B + 3) 6 (it 1)) := fun b hb => up2_n hb
  have hJ2 : JS B a bs t n (-1) dp c 1 0 sl G False (sm_up2 Ix (B + 3) 6 (it 1)) Jx Im2 := JS_Q rfl (JS_k (sl' := sl) ha hJ fxr xTr f12 q3 (by omega) (fun z => by omega))
  have htc : tst bs t c ≤ 240 := by have := tst_t bs t c; have := hX.1; omega
  have m30 : Im2 (B + 46) 30 = it f := by rw [f12.2 30 (by omega) (by omega) (by omega) (by omega) (by omega)]; exact i30
  have m59 : Im2 (B + 52) f = it ((0 : Nat) : Int) := by rw [f12.1 (B + 52) (by omega)]; exact hnm.2.1
  obtain ⟨z, z1, z2, z3, _⟩ := s_97 (K := K) (d := dy + 6) (J := Jm) (lt := it ((0 : Nat) : Int)) hS2.1 m30 f4 m59 (by omega)
  obtain ⟨Im3, j1, j2, j3⟩ := JS_nd (K := K) (e := dy + 6) (Jm := Jm) (p := tst bs t c) (¬ 0 ≤ z ∧ 0 < 6) hS2.1 hJ2 htc (fun z => by omega)
  have hMR3 := (JS_c j3).2.2.2
  have n30 : Im3 (B + 46) 30 = it f := by rw [j2.2.1 30 (by omega) (by omega) (by omega) (by omega) (by omega) (by omega) (by omega) (by omega) (by omega)]; exact m30
  have n59 : Im3 (B + 52) f = it ((0 : Nat) : Int) := by rw [j2.1 (B + 52) (by omega) (by omega) (by omega) (by omega)]; exact m59
  have n58 : Im3 (B + 51) f = it ((0 : Nat) : Int) := by rw [j2.1 (B + 51) (by omega) (by omega) (by omega) (by omega), f12.1 (B + 51) (by omega)]; exact h58
  have e96 := s_96 (K := K) (d := dy + 6) (ty := it ((0 : Nat) : Int)) (r := 1) hS2.1 f4 z2 (by omega) (by omega) m59 m30 z1 j1 hMR3.2.1 (by omega) n30 n59
  rw [if_neg (fun q => by have := q.2; omega)] at e96
  have hJ4 := JS_o (Ix' := sm_up2 Ix (B + 3) 6 (it 1)) (Im' := sm_up2 Im3 (B + 51) f (it ((0 + 1 : Nat) : Int))) ha (fun _ _ => rfl) (fun b hb => up2_n (by omega)) j3
  have hMR4 := (JS_c hJ4).2.2.2
  have e94 := s_94 (K := K) (d := dy + 7) (J := Jm) hS.1 hMR4 hX (show it 44 = it ((44 : Nat) : Int) from rfl) (by decide)
  have k44 : ¬ kX bs t c 1 = 44 := by unfold kX; rw [if_neg (by omega)]; omega
  rw [if_neg k44] at e94
  have e165 := m_165s (km := km) (l1 := l1) (l2 := l2) hS.1 f4 (by omega) p1 p3.2.2.2.2.1 q1 e96 n30 n58 e94
  rw [if_pos rfl] at e165
  have hS3 := SM_f (WG_r (k := 0)) j2 hS2
  refine ⟨_, e165, fun kx x y => ?_, fun b q0 r1 r2 r3 r4 => by rw [up2_n r2, j2.1 b q0 r1 r3 r4, f12.1 b r1], fun k q => by rw [up2_r, up1_n q, j2.1 (B + 51) (by omega) (by omega) (by omega) (by omega), f12.1 (B + 51) (by omega)], fun k q => by rw [up2_n (by omega), j2.2.1 k (by omega) (by omega) (by omega) (by omega) (by omega) (by omega) (by omega) (by omega) (by omega), f12.2 k (by omega) (by omega) (by omega) (by omega) (by omega)], by rw [up2_r, up1_s], JS_Q rfl hJ4, StO_c (fun b hb => ⟨up2_n (by omega), rfl, rfl⟩) hO, ⟨hS3.1, hS3.2.1, StO_c (fun b hb => ⟨up2_n (by omega), rfl, rfl⟩) hS3.2.2.1, hS3.2.2.2⟩, by rw [up2_n (by omega)]; exact i2, by rw [up2_n (by omega)]; exact n30, ⟨cx, cx1, by rw [up2_n (by omega)]; exact cx2⟩, ⟨0, by omega, by rw [up2_n (by omega)]; exact n59⟩, hdp, by rw [up2_n (by omega)]; exact i11, fun z => by omega⟩
  have ea := s_41x (K := K) (d := dx + 2) (J := Jx) (k := 41) hX H hXT (by omega) (by omega)
  have eb := s_41x (K := K) (d := dx + 2) (J := Jx) (k := 41) hX H xTr (by unfold kX; rw [if_neg (by omega)]; omega) (by omega)
  rw [up2_2] at eb
  have ea' : Cl K (dx + 4) 41 [.ref (B + 3), .int (it 41)] w Ix Jx = some (none, w, sm_up2 Ix (B + 3) 6 (it 1), Jx) := ea
  have eb' : Cl K (dx + 4) 41 [.ref (B + 3), .int (it 41)] w (sm_up2 Ix (B + 3) 6 (it 1)) Jx = some (none, w, sm_up2 Ix (B + 3) 6 (it 1), Jx) := eb
  unfold f_40_131
  simp only [it_lit, gO_e (yt2 H), gV_e (yp2_0 H), gO_e (yt3 H)]
  rw [ea', eb']
end BADH

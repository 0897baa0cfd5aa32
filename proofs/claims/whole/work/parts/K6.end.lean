/-! behind the last fun, both -/
section TEND
variable {K : Nat → Value} {B d e a : Nat} {w wm wm' : aW} {Ix Im Im0 I I' I'' Ix' Im' : aI} {Jx Jm J J' J'' Jx' Jm' : aJ} {bs : Nat → Nat} {t n c r s sl sl' b op op' m m' : Nat} {pd dp dp0 : Int} {G G1 G' Gs G2 G3 : gG} {Q Q' Qh Qx gd Y Q0 Q0' : Prop} {f cnt cnt' st st' lp pc pm : Nat} {vn vn' ln : Nat → Nat} {fa fa' fa0 fa0' fs : Nat → Nat → Nat} {G0 G0' : gG} {P P' : Nat → Prop}
theorem x_81 {dx k : Nat} {l1 : Nat} {l2 l3 : Int32} {Ix1 Ix2 : aI} {R : aR} (ha : a = B + 8 ∨ a = B + 22) (H : Lay B w) (hp : w.2.1 (B + 2) 1 = some a) (f1 : 1 ≤ f) (f5 : f ≤ 5) (h2 : Ix (B + 2) 2 = it ((f - 1 : Nat) : Int)) (h3 : Ix (B + 2) 3 = it lp) (hpc : Ix (a + 5) (4 * (f - 1) + 1) = it pc) (pc6 : pc ≤ 6) (h48 : (pc = 0 ∧ Ix1 = Ix) ∨ (¬ pc = 0 ∧ Cl K (dx + 6) 48 [.ref (B + 2), .int (it lp)] w Ix Jx = some (none, w, Ix1, Jx))) (h41 : Cl K (dx + 6) 41 [.ref (B + 3), .int (it 0)] w Ix1 Jx = some (none, w, Ix2, Jx)) (h78 : Cl K (dx + 6) 78 [.ref a] w Ix2 Jx = some R) (hR : R.1 = none) : f_22_81 K k (dx + 6) (B + 2) l1 l2 l3 w Ix Jx = some R := by
  have hP : PL w a := PLx H ha
  obtain ⟨v, o1, o2⟩ := s_52g (K := K) (d := dx + 5) (w := w) (I := Ix) (J := Jx) (x := it ((f - 1 : Nat) : Int)) (k := 1) hP
  have hv := o2 (f - 1) (by omega) (by omega) rfl
  rw [hpc] at hv
  have tail : f_22_104 K k (dx + 6) (B + 2) l1 l2 l3 w Ix1 Jx = some R := by
    unfold f_22_104
    simp only [it_lit, gO_e (yt2 H), gV_e (yp2_0 H), gO_e (yt3 H), gV_e hp, gO_e hP.1]
    rw [h41]
    simp only [cV_e, gO_e (yt2 H), gV_e hp, gO_e hP.1]
    rw [h78]
    obtain ⟨x, w', I', J'⟩ := R
    have : x = none := hR
    subst this
    rfl
  unfold f_22_81
  simp only [it_lit, gO_e (yt2 H), gV_e hp, gO_e hP.1]
  have o1' : Cl K (dx + 6) 52 [.ref a, .int (it ((f - 1 : Nat) : Int)), .int (it 1)] w Ix Jx = some (some (.int v), w, Ix, Jx) := o1
  rw [h2, o1']
  simp only [cI_e, gO_e (yt2 H)]
  rw [hv]
  rcases h48 with ⟨q1, q2⟩ | ⟨q1, q2⟩
  · rw [if_pos ((it_le (by omega) (by omega) (by omega) (by omega)).mpr (by omega)), ← q2]
    exact tail
  · rw [if_neg (fun q => by have := (it_le (by omega) (by omega) (by omega) (by omega)).mp q; omega), h3, q2]
    exact tail
theorem m_64r {dy k : Nat} (H : Lay B wm) (hT : MR B bs t n c 1 Im) : f_83_64 K k dy (B + 46) wm Im Jm = f_83_98 K k dy (B + 46) wm Im Jm := by
  unfold f_83_64
  simp only [it_lit, gO_e (yt46 H)]
  rw [hT.2.1, if_pos (by decide)]
theorem m_64n {dy k : Nat} {Im1 : aI} (H : Lay B wm) (hT : MR B bs t n c 0 Im) (f1 : 1 ≤ f) (f5 : f ≤ 5) (h5 : Im (B + 46) 5 = it f) (h31 : Im (B + 46) 31 = it lp) (h58 : Im (B + 51) (f - 1) = it pm) (pm240 : pm ≤ 240) (h92 : Cl K dy 92 [.ref (B + 46), .int (it (if pm = 0 then 1 else 0)), .int (it lp)] wm Im Jm = some (none, wm, Im1, Jm)) : f_83_64 K k dy (B + 46) wm Im Jm = f_83_98 K k dy (B + 46) wm Im1 Jm := by
  unfold f_83_64
  simp only [it_lit, gO_e (yt46 H), gV_e (yp46_8 H)]
  rw [hT.2.1, if_neg (fun z => z rfl), h5]
  simp only [it_sub]
  rw [show (f : Int) - 1 = ((f - 1 : Nat) : Int) by omega, gA_e (yt51 H) (Or.inl rfl) (ix (by omega) (by omega) (by omega)), it_n (by omega), h58]
  by_cases q : pm = 0
  · rw [if_pos q] at h92
    rw [if_neg (show ¬ ¬ it pm = it 0 from fun z => z (by rw [q]; rfl))]
    unfold f_83_91
    simp only [it_lit, gO_e (yt46 H)]
    rw [h31]
    have h92' : Cl K dy 92 [.ref (B + 46), .int (it 1), .int (it lp)] wm Im Jm = some (none, wm, Im1, Jm) := h92
    rw [h92']
    rfl
  · rw [if_neg q] at h92
    rw [if_pos (fun q => by have := (it_eq (by omega) (by omega) (by omega) (by omega)).mp q; omega)]
    unfold f_83_91
    simp only [it_lit, gO_e (yt46 H)]
    rw [h31]
    have h92' : Cl K dy 92 [.ref (B + 46), .int (it 0), .int (it lp)] wm Im Jm = some (none, wm, Im1, Jm) := h92
    rw [h92']
    rfl
theorem T_end {dx dy kx km : Nat} {l1 : Nat} {l2 l3 : Int32} (ha : a = B + 8 ∨ a = B + 22) (hX : TX bs t n) (H : Lay B w) (hp : w.2.1 (B + 2) 1 = some a) (f1 : 1 ≤ f) (f5 : f ≤ 5) (h : FJ K B a bs t n w f c r sl dp gd Y ln fa G lp pc pm Ix Jx wm Im0) (h6 : FM6 B Im0 Im) (hT : MR B bs t n c (nxR bs t c r 0) Im) (he : nxR bs t c r 0 = 0 → Im = Im0) :
    ∃ (r' : Nat) (dp' : Int) (Ix2 Im3 : aI), (∀ R, R.1 = none → Cl K (dx + 6) 78 [.ref a] w Ix2 Jx = some R → f_22_81 K kx (dx + 6) (B + 2) l1 l2 l3 w Ix Jx = some R) ∧ f_83_64 K km (dy + 9) (B + 46) wm Im Jm = f_83_98 K km (dy + 9) (B + 46) wm Im3 Jm ∧ FEx B a Ix Jx Ix2 Jx ∧ FMx B wm.2.2.1 Im Jm Im3 Jm ∧ (r' = 0 → r = 0 ∧ Im = Im0) ∧ JS B a bs t n (-1) dp' c r' 0 sl G ((gd ∧ TF fa f G ∧ Y) ∧ pc = 0) Ix2 Jx Im3 := by
  obtain ⟨hJ, hO, hS, hdp, hg, i7, hz, hl, hr0⟩ := h
  obtain ⟨l1', l2', l3', l4', l5'⟩ := hl f1
  obtain ⟨hcn, hr1, hXT, hMR⟩ := JS_c hJ
  have hS' : SM K B wm Im := ⟨hS.1, hS.2.1, StO_c (fun b hb => ⟨h6.1 b (by omega), rfl, rfl⟩) hS.2.2.1, hS.2.2.2⟩
  by_cases r0 : nxR bs t c r 0 = 0
  · obtain ⟨rr, k0⟩ : r = 0 ∧ kX bs t c r = 0 := by
      unfold nxR at r0
      by_cases z : kX bs t c r = 0
      · rw [if_pos z] at r0; exact ⟨r0, z⟩
      · rw [if_neg z] at r0; omega
    subst rr
    have hI := he r0
    subst hI
    obtain ⟨q5, ql, _⟩ := hr0 rfl
    obtain ⟨q31, q58, q240, qpp⟩ := ql f1
    by_cases pc0 : pc = 0
    · have pm0 := qpp.mp pc0
      obtain ⟨Im3, j1, j2, j3⟩ := JS_nd (K := K) (e := dy + 8) (Jm := Jm) (p := lp) (pm = 0) hS.1 hJ l3' (fun _ => Or.inl pm0)
      obtain ⟨Ix2, x1, x2, x3⟩ := s_41e (K := K) (d := dx + 4) (J := Jx) hX H hXT
      rw [r0] at x2
      refine ⟨0, dp, Ix2, Im3, fun R hR h78 => x_81 ha H hp f1 f5 l1' l2' l4' l5' (Or.inl ⟨pc0, rfl⟩) x1 h78 hR, m_64n hS.1 hMR f1 f5 q5 q31 q58 q240 j1, FX3_E ha x3, j2, fun _ => ⟨rfl, rfl⟩, ?_⟩
      exact JS_k (sl' := sl) ha (JS_m (fun q => ⟨q.1, pc0⟩) (Nat.le_refl _) j3) x3 x2 FM6_r (JS_c j3).2.2.2 (by omega) (fun z => z)
    · have pm0 : ¬ pm = 0 := fun z => pc0 (qpp.mpr z)
      obtain ⟨Ix1, Im3, p1, p2, p3, p4, p5⟩ := JS_nq (K := K) (d := dx + 5) (e := dy + 8) (Jm := Jm) (p := lp) (dp' := if dp < 0 then (lp : Int) else dp) ha H hS.1 hJ l3' rfl
      obtain ⟨_, _, hXT1, hMR1⟩ := JS_c p5
      obtain ⟨Ix2, x1, x2, x3⟩ := s_41e (K := K) (d := dx + 4) (J := Jx) hX H hXT1
      rw [r0] at x2
      refine ⟨0, (if dp < 0 then (lp : Int) else dp), Ix2, Im3, fun R hR h78 => x_81 ha H hp f1 f5 l1' l2' l4' l5' (Or.inr ⟨pc0, p1⟩) x1 h78 hR, m_64n hS.1 hMR f1 f5 q5 q31 q58 q240 (by rw [if_neg pm0]; exact p2), FEx_t p3 (FX3_E ha x3), p4, fun _ => ⟨rfl, rfl⟩, ?_⟩
      exact JS_k (sl' := sl) ha (JS_m (fun q => q.elim) (Nat.le_refl _) p5) x3 x2 FM6_r hMR1 (by omega) (fun z => z)
  · have r1 : nxR bs t c r 0 = 1 := by have := (nxC_b (bs := bs) (t := t) (c := c) (r := r) (k := 0)).2.2.2.1 hr1; omega
    rw [r1] at hT
    obtain ⟨hh, Nx, Nm, nfx, nfm, tfx, tfm, xE, mE, b1, b2, _⟩ := hJ
    have mE' := ME_6 mE h6 hT
    by_cases pc0 : pc = 0
    · obtain ⟨Ix2, x1, x2, x3⟩ := s_41e (K := K) (d := dx + 4) (J := Jx) hX H hXT
      rw [r1] at x2
      exact ⟨1, dp, Ix2, Im, fun R hR h78 => x_81 ha H hp f1 f5 l1' l2' l4' l5' (Or.inl ⟨pc0, rfl⟩) x1 h78 hR, m_64r hS.1 hT, FX3_E ha x3, FMx_6 FM6_r, fun z => by omega, hh, Nx, Nm, nfx, nfm, tfx, tfm, XE_3 ha xE x3 x2, mE', b1, b2, fun z => by omega⟩
    · obtain ⟨Ix1, y1, y2, y3, y4, y5, y6⟩ := s_48 (K := K) (d := dx + 5) (J := Jx) (p := lp) ha H xE l3'
      obtain ⟨Ix2, x1, x2, x3⟩ := s_41e (K := K) (d := dx + 4) (J := Jx) hX H y3.1
      rw [r1] at x2
      exact ⟨1, dp, Ix2, Im, fun R hR h78 => x_81 ha H hp f1 f5 l1' l2' l4' l5' (Or.inr ⟨pc0, y1⟩) x1 h78 hR, m_64r hS.1 hT, FEx_t y2 (FX3_E ha x3), FMx_6 FM6_r, fun z => by omega, hh, Nx, Nm, _, nfm, tfx, tfm, XE_3 ha y3 x3 x2, mE', b1, b2, fun z => by omega⟩
end TEND

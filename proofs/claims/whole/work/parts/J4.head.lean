/-! the head of a fun: the pieces -/
section HEAD
variable {K : Nat → Value} {B d e a : Nat} {w wm wm' : aW} {Ix Im I I' I'' Ix' Im' : aI} {Jx Jm J J' J'' Jx' Jm' : aJ} {bs : Nat → Nat} {t n c r s sl sl' b op op' m m' : Nat} {pd dp dp0 : Int} {G G1 G' Gs G2 G3 : gG} {Q Qh gd Q0 Q0' : Prop} {f cnt cnt' st st' : Nat} {vn vn' ln : Nat → Nat} {fa fa' fa0 fa0' fs : Nat → Nat → Nat} {G0 G0' : gG} {P P' : Nat → Prop}
/-- only these cells matter to code and tokens -/
theorem JS_g (h1 : ∀ b, b = B + 3 ∨ b = B + 4 ∨ b = B + 5 ∨ b = B + 6 ∨ b = B + 17 ∨ b = a + 1 ∨ b = a + 2 → Ix' b = Ix b) (h2 : ∀ k, k = 6 ∨ k = 7 ∨ k = 8 → Ix' (B + 2) k = Ix (B + 2) k) (h3 : Ix' a 6 = Ix a 6) (h4 : ∀ b, b = B + 48 ∨ b = B + 56 ∨ b = B + 57 → Im' b = Im b) (h5 : ∀ k, ¬ k = 5 ∧ ¬ k = 30 ∧ ¬ k = 31 → Im' (B + 46) k = Im (B + 46) k) (h : JS B a bs t n pd dp c r s sl G Q Ix Jx Im) : JS B a bs t n pd dp c r s sl G Q Ix' Jx Im' := by
  obtain ⟨h, Nx, Nm, nfx, nfm, tfx, tfm, ⟨x0, xr⟩, ⟨m0, mr⟩, b1, b2, f⟩ := h
  refine ⟨h, Nx, Nm, nfx, nfm, tfx, tfm, ⟨XT_f (h1 _ (by omega)) (h1 _ (by omega)) (h1 _ (by omega)) (h1 _ (by omega)) x0, ?_⟩, ⟨?_, ?_⟩, b1, b2, fun r0 => ⟨(f r0).1, (f r0).2.imp id ?_⟩⟩
  · rw [h2 6 (by omega), h2 7 (by omega), h2 8 (by omega), h3]; exact xr
  · unfold MR MTp MT at m0 ⊢
    rw [h5 2 (by omega), h5 22 (by omega), h5 23 (by omega), h5 24 (by omega), h5 25 (by omega), h5 26 (by omega), h4 (B + 48) (by omega)]
    exact m0
  · rw [h5 27 (by omega), h5 28 (by omega), h5 29 (by omega), h5 13 (by omega)]; exact mr
  · rintro ⟨⟨g1, g2, g3, g4, g5, g6, ⟨w1, w2, w3, w4⟩, g8⟩, hq⟩
    refine ⟨⟨g1, g2, g3, g4, g5, g6, ⟨w1, ?_, w3, ?_⟩, ?_⟩, hq⟩
    · rw [h1 (B + 17) (by omega)]; exact w2
    · rw [h1 (a + 1) (by omega), h1 (a + 2) (by omega)]; exact w4
    · intro p; rw [h4 (B + 56) (by omega), h4 (B + 57) (by omega)]; exact g8 p
theorem x_40h {dx lx lp kk : Nat} {Ix2 Ix4 Ix5 Ix6 : aI} {R : aR} (hX : TX bs t n) (H : Lay B w) (h41 : Cl K (dx + 4) 41 [.ref (B + 3), .int (it 256)] w Ix Jx = some (none, w, Ix2, Jx)) (h44 : Cl K (dx + 4) 44 [.ref (B + 3)] w Ix2 Jx = some (some (.int (it lp)), w, Ix2, Jx)) (h45 : Cl K (dx + 4) 45 [.ref (B + 3)] w (sm_up2 Ix2 (B + 2) 3 (it lp)) Jx = some (some (.int (it lx)), w, Ix4, Jx)) (hl : lx < 26) (h3 : Ix4 (B + 2) 3 = it lp) (h5 : (Ix4 (B + 15) lx < it 0 ∧ Ix5 = sm_up2 Ix4 (B + 15) lx (Ix4 (B + 2) 2)) ∨ (¬ Ix4 (B + 15) lx < it 0 ∧ Cl K (dx + 4) 48 [.ref (B + 2), .int (it lp)] w Ix4 Jx = some (none, w, Ix5, Jx))) (h41b : Cl K (dx + 4) 41 [.ref (B + 3), .int (it 40)] w Ix5 Jx = some (none, w, Ix6, Jx)) (h : f_40_79 K kk (dx + 4) (B + 2) (it lx) (it 0) w Ix6 Jx = some R) : Cl K (dx + 5) 40 [.ref (B + 2)] w Ix Jx = some R := by
  have t68 : f_40_68 K kk (dx + 4) (B + 2) (it lx) w Ix5 Jx = some R := by
    unfold f_40_68
    simp only [it_lit, gO_e (yt2 H), gV_e (yp2_0 H), gO_e (yt3 H)]
    rw [h41b]
    exact h
  apply cl_40 (k := kk)
  unfold f_40
  simp only [it_lit, gO_e (yt2 H), gV_e (yp2_0 H), gO_e (yt3 H), gV_e (yp2_4 H), lt_p]
  rw [h41]
  simp only [cV_e, gO_e (yt2 H), gV_e (yp2_0 H), gO_e (yt3 H)]
  rw [h44]
  simp only [cI_e, gO_e (yt2 H), gV_e (yp2_0 H), gO_e (yt3 H)]
  rw [h45]
  simp only [cI_e, gO_e (yt2 H)]
  rw [s_47 (d := dx + 3) H hl]
  simp only [cI_e, gO_e (yt2 H), gV_e (yp2_4 H)]
  rcases h5 with ⟨q1, q2⟩ | ⟨q1, q2⟩
  · rw [if_pos q1, if_neg (fun q => by have := (it_lt (by omega) (by omega) (by omega) (by omega)).mp q; omega), if_neg (fun q => by have := (it_le (by omega) (by omega) (by omega) (by omega)).mp q; omega), gA_e (yt15 H) (Or.inl rfl) (ix (by omega) (by omega) (by omega)), it_n (by omega)]
    rw [q2] at t68
    exact t68
  · rw [if_neg q1, h3, q2]
    exact t68
/-- the reference's tables as a fun begins -/
def nF (B f : Nat) (xm N : Int32) (I : aI) : aI := sm_up2 (sm_up2 (sm_up2 (sm_up2 I (B + 49) f xm) (B + 50) f N) (B + 52) f (it 0)) (B + 51) f (it 0)
theorem nF_o {xm N : Int32} {b : Nat} (h : ¬ b = B + 49 ∧ ¬ b = B + 50 ∧ ¬ b = B + 51 ∧ ¬ b = B + 52) : nF B f xm N I b = I b := by
  unfold nF; rw [up2_n (by omega), up2_n (by omega), up2_n (by omega), up2_n (by omega)]
theorem nF_e {xm N : Int32} : nF B f xm N I (B + 49) f = xm ∧ nF B f xm N I (B + 50) f = N ∧ nF B f xm N I (B + 51) f = it 0 ∧ nF B f xm N I (B + 52) f = it 0 ∧ ∀ k, ¬ k = f → nF B f xm N I (B + 49) k = I (B + 49) k ∧ nF B f xm N I (B + 50) k = I (B + 50) k ∧ nF B f xm N I (B + 51) k = I (B + 51) k ∧ nF B f xm N I (B + 52) k = I (B + 52) k := by
  unfold nF
  refine ⟨?_, ?_, ?_, ?_, fun k hk => ⟨?_, ?_, ?_, ?_⟩⟩
  · rw [up2_n (by omega), up2_n (by omega), up2_n (by omega), up2_r, up1_s]
  · rw [up2_n (by omega), up2_n (by omega), up2_r, up1_s]
  · rw [up2_r, up1_s]
  · rw [up2_n (by omega), up2_r, up1_s]
  · rw [up2_n (by omega), up2_n (by omega), up2_n (by omega), up2_r, up1_n hk]
  · rw [up2_n (by omega), up2_n (by omega), up2_r, up1_n hk, up2_n (by omega)]
  · rw [up2_r, up1_n hk, up2_n (by omega), up2_n (by omega), up2_n (by omega)]
  · rw [up2_n (by omega), up2_r, up1_n hk, up2_n (by omega), up2_n (by omega)]
/-- the reference's head behind its name -/
theorem m_58e {dy km : Nat} {lt N x : Int32} {nw : Int32} {lp : Nat} {Im5 Im7 : aI} (H : Lay B wm) (f4 : f ≤ 4) (h30 : Im (B + 46) 30 = it f) (h31 : Im (B + 46) 31 = it lp) (h92 : Cl K (dy + 8) 92 [.ref (B + 46), .int nw, .int (it lp)] wm Im Jm = some (none, wm, Im5, Jm)) (h30b : Im5 (B + 46) 30 = it f) (h13 : Im5 (B + 46) 13 = N) (h93 : Cl K (dy + 8) 93 [.ref (B + 46), .int (it 40)] wm (nF B f lt N Im5) Jm = some (none, wm, Im7, Jm)) (h94 : Cl K (dy + 8) 94 [.ref (B + 46), .int (it 41)] wm Im7 Jm = some (some (.int x), wm, Im7, Jm)) : f_88_58 K (km + 1) (dy + 8) (B + 46) lt nw (it f) wm Im Jm = f_88_165 K km (dy + 8) (B + 46) lt nw (if x = it 0 then it 1 else it 0) wm Im7 Jm := by
  rw [f_88_58]
  simp only [it_lit, lt_p, gO_e (yt46 H), gV_e (yp46_6 H), gV_e (yp46_7 H), gV_e (yp46_8 H), gV_e (yp46_9 H)]
  rw [h30, if_pos ((it_le (by omega) (by omega) (by omega) (by omega)).mpr (by omega)), h31, h92]
  simp only [cV_e, gO_e (yt46 H), gV_e (yp46_6 H), gV_e (yp46_7 H), gV_e (yp46_8 H), gV_e (yp46_9 H)]
  rw [h30b, gA_e (yt49 H) (Or.inl rfl) (ix (by omega) (by omega) (by omega)), it_n (by omega)]
  rw [up2_n (a := B + 49) (b := B + 46) (by omega), h30b, h13, gA_e (yt50 H) (Or.inl rfl) (ix (by omega) (by omega) (by omega)), it_n (by omega)]
  rw [up2_n (a := B + 50) (b := B + 46) (by omega), up2_n (a := B + 49) (b := B + 46) (by omega), h30b, gA_e (yt52 H) (Or.inl rfl) (ix (by omega) (by omega) (by omega)), it_n (by omega)]
  rw [up2_n (a := B + 52) (b := B + 46) (by omega), up2_n (a := B + 50) (b := B + 46) (by omega), up2_n (a := B + 49) (b := B + 46) (by omega), h30b, gA_e (yt51 H) (Or.inl rfl) (ix (by omega) (by omega) (by omega)), it_n (by omega)]
  have h93' : Cl K (dy + 8) 93 [.ref (B + 46), .int (it 40)] wm (sm_up2 (sm_up2 (sm_up2 (sm_up2 Im5 (B + 49) f lt) (B + 50) f N) (B + 52) f (it 0)) (B + 51) f (it 0)) Jm = some (none, wm, Im7, Jm) := h93
  rw [h93']
  simp only [cV_e, gO_e (yt46 H)]
  rw [h94]
  simp only [cI_e]
  unfold f_88_164
  by_cases e : x = it 0
  · rw [if_pos e, if_neg (fun q => q e)]
  · rw [if_neg e, if_pos e]
/-- the reference's head up to its name -/
theorem m_88h {dy kk lp : Nat} {xm : Int32} {Im1 Im4 : aI} {R : aR} (H : Lay B wm) (hT : MR B bs t n c 0 Im) (hk : kX bs t c 0 = 256) (f4 : f ≤ 4) (h5 : Im (B + 46) 5 = it f) (h90 : Cl K (dy + 8) 90 [.ref (B + 46), .int (it 1)] wm Im Jm = some (none, wm, Im1, Jm)) (h26 : Im1 (B + 46) 26 = it 0) (h5b : Im1 (B + 46) 5 = it f) (h22 : Im1 (B + 46) 22 = it lp) (h91 : Cl K (dy + 8) 91 [.ref (B + 46)] wm (sm_up2 (sm_up2 Im1 (B + 46) 30 (it f)) (B + 46) 31 (it lp)) Jm = some (some (.int xm), wm, Im4, Jm)) (h : f_88_58 K kk (dy + 8) (B + 46) xm (it 1) (it 0) wm Im4 Jm = some R) : Cl K (dy + 9) 88 [.ref (B + 46)] wm Im Jm = some R := by
  have e4 := s_89 (K := K) (d := dy + 7) (J := Jm) H hT (show it 4 = it ((4 : Nat) : Int) from rfl) (by omega)
  rw [if_pos (show kX bs t c 0 = cvt 4 from hk)] at e4
  apply cl_88 (k := kk)
  unfold f_88
  simp only [it_lit, gO_e (yt46 H)]
  rw [e4]
  simp only [cI_e, gO_e (yt46 H)]
  rw [if_neg (by decide), h5, if_neg (fun q => by have := (it_le (by omega) (by omega) (by omega) (by omega)).mp q; omega)]
  unfold f_88_22
  simp only [it_lit, gO_e (yt46 H), lt_p]
  rw [h90]
  simp only [cV_e, gO_e (yt46 H)]
  rw [h26, if_pos rfl, h5b, up2_r, up1_n (by omega), h22, h91]
  exact h
end HEAD

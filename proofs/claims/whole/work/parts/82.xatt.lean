/-! the class's machine: an attempt -/
def pfr (B s : Nat) (x0 x1 x2 x3 : Int32) (I : aI) : aI := sm_up2 (sm_up2 (sm_up2 (sm_up2 I (B + 35) (4 * s) x0) (B + 35) (4 * s + 1) x1) (B + 35) (4 * s + 2) x2) (B + 35) (4 * s + 3) x3
theorem pfr_o {B s a : Nat} {x0 x1 x2 x3 : Int32} {I : aI} (h : ¬ a = B + 35) : pfr B s x0 x1 x2 x3 I a = I a := by
  unfold pfr
  rw [up2_n h, up2_n h, up2_n h, up2_n h]
section XATT
variable {K : Nat → Value} {B d k s m hi fr a N p o ar hc : Nat} {w : aW} {I : aI} {J : aJ} {c : Nat → Int32} {z : Int} {nd : Prop} {wc ws : List (Nat × Int32)}
theorem s_142 (H : Lay B w) : Cl K (d + 1) 142 [.ref (B + 29)] w I J = some (some (.int (bi (¬ I (B + 30) 0 = it 0))), w, I, J) := by
  apply cl_142 (k := 0)
  unfold f_142
  simp only [it_lit, gO_e (yt29 H), gV_e (yp29_1 H), gc0 H, gc1 H, gc2 H, gc3 H, gc4 H, gc5 H, gc6 H, cl0, cl1, cl2, cl3, cl4, cl5, cl6, cI_e, cV_e, cA_e, cJ_e, lt_]
  by_cases h : I (B + 30) 0 = it 0
  · rw [if_pos h, bi_f (fun q => q h)]
  · rw [if_neg h, bi_t h]
/-- before the op: the slot is begun, the clearings noted -/
def att0 (B s : Nat) (I : aI) : aI := wr B s 0 2 (I (B + 30) 2) (sm_up2 I (B + 32) s (it 0))
theorem att0_X (hs : I (B + 29) 7 = it s) (s32 : s < 32) : XM B s 1 (I (B + 30)) (att0 B s I) := by
  have X0 : XM B s 0 (I (B + 30)) (sm_up2 I (B + 32) s (it 0)) := ⟨by rw [up2_n (by omega)]; exact hs, s32, by rw [up2_r, up1_s]; rfl, up2_n (by omega)⟩
  have := X0.wr 2 (I (B + 30) 2)
  rw [up1_id] at this
  exact this
theorem att0_o {b : Nat} (h1 : ¬ b = B + 30) (h2 : ¬ b = B + 32) (h3 : ¬ b = B + 33) (h4 : ¬ b = B + 34) : att0 B s I b = I b := by
  unfold att0
  rw [wr_o h1 h2 h3 h4, up2_n h2]
/-- the part behind the clearing -/
theorem a_74 (H : Lay B w) (hp : w.2.1 (B + 29) 0 = some a) (hP : PL w a) (ha : a + 7 ≤ B + 29) (hN : I a 6 = it N) (N2 : N ≤ 200) (pN : p < N) (har : I (a + 2) p = it ar) (X : XM B s m c I) (hm : m + ws.length < 36) (hpf : Cl K (d + 5) 159 [.ref (B + 29), .int (it o), .int (it ar)] w I J = some (some (.int (it 0)), w, wrs B s m ws I, J)) (h3 : ap ws c 3 = it hi) (h0 : hi ≤ 30) (x1 : Int32) :
    f_143_74 K k (d + 5) (B + 29) x1 (it p) (it o) w I J = some (some (.int (it 1)), w, pfr B s (it p) x1 (it hi) (if hi = 0 then it 0 else ap ws c (6 + hi)) (wrs B s m (ws ++ [(1, ap ws c 1 + it 1)]) I), J) := by
  unfold f_143_74 f_143_187
  simp only [it_lit, gO_e (yt29 H), gV_e (yp29_1 H), gc0 H, gc1 H, gc2 H, gc3 H, gc4 H, gc5 H, gc6 H, cl0, cl1, cl2, cl3, cl4, cl5, cl6, cI_e, cV_e, cA_e, cJ_e, lt_, gV_e hp, gO_e hP.1]
  rw [s_126 hP hN (by omega) (by omega) (by omega) (by omega), Int.toNat_natCast, har]
  simp only [gO_e (yt29 H), gV_e (yp29_1 H), gc0 H, gc1 H, gc2 H, gc3 H, gc4 H, gc5 H, gc6 H, cl0, cl1, cl2, cl3, cl4, cl5, cl6, cI_e, cV_e, cA_e, cJ_e, lt_]
  rw [hpf]
  simp only [gO_e (yt29 H), gV_e (yp29_1 H), gc0 H, gc1 H, gc2 H, gc3 H, gc4 H, gc5 H, gc6 H, cl0, cl1, cl2, cl3, cl4, cl5, cl6, cI_e, cV_e, cA_e, cJ_e, lt_]
  rw [if_pos trivial]
  have X1 := X.wrs ws
  have e1 : wrs B s m ws I (B + 30) = ap ws c := X1.2.2.2
  rw [z_144 H X1 (by omega) (by omega) (by omega), e1, Int.toNat_one]
  have X2 := X1.wr 1 (ap ws c 1 + it 1)
  have e2 : wr B s (m + ws.length) 1 (ap ws c 1 + it 1) (wrs B s m ws I) = wrs B s m (ws ++ [(1, ap ws c 1 + it 1)]) I := by rw [wrs_app]; rfl
  rw [e2] at X2 ⊢
  have e3 : wrs B s m (ws ++ [(1, ap ws c 1 + it 1)]) I (B + 30) 3 = it hi := by rw [X2.2.2.2, up1_n (by omega)]; exact h3
  have e4 : wrs B s m (ws ++ [(1, ap ws c 1 + it 1)]) I (B + 29) 7 = it s := X2.1
  have s32 : s < 32 := X2.2.1
  simp only [gO_e (yt29 H), gV_e (yp29_1 H), gc0 H, gc1 H, gc2 H, gc3 H, gc4 H, gc5 H, gc6 H, cl0, cl1, cl2, cl3, cl4, cl5, cl6, cI_e, cV_e, cA_e, cJ_e, lt_, e3, e4, and31 s32, it_mul, it_add, gV_e (yp29_6 H)]
  rw [gA_e (yt35 H) (Or.inl rfl) (ix (by omega) (by omega) (by omega)), gA_e (yt35 H) (Or.inl rfl) (ix (by omega) (by omega) (by omega)), gA_e (yt35 H) (Or.inl rfl) (ix (by omega) (by omega) (by omega))]
  rw [it_cl (by omega) (by omega), it_cl (by omega) (by omega), it_cl (by omega) (by omega), it_cl (by omega) (by omega)]
  rw [show ((s : Int) * 4).toNat = 4 * s by omega, show ((s : Int) * 4 + 1).toNat = 4 * s + 1 by omega, show ((s : Int) * 4 + 2).toNat = 4 * s + 2 by omega, show ((s : Int) * 4 + 3).toNat = 4 * s + 3 by omega]
  by_cases hz : hi = 0
  · rw [if_pos ((it_le (by omega) (by omega) (by omega) (by omega)).mpr (by omega)), gA_e (yt35 H) (Or.inl rfl) (ix (by omega) (by omega) (by omega)), if_pos hz]
    rfl
  · rw [if_neg (fun q => by have := (it_le (by omega) (by omega) (by omega) (by omega)).mp q; omega)]
    have r7 : ∀ (x y z : Int32) (I' : aI), sm_up2 (sm_up2 (sm_up2 I' (B + 35) (4 * s) x) (B + 35) (4 * s + 1) y) (B + 35) (4 * s + 2) z (B + 30) = I' (B + 30) := fun x y z I' => by rw [up2_n (by omega), up2_n (by omega), up2_n (by omega)]
    rw [s_149 H (hi := hi) (by rw [r7]; exact e3) (by omega) (by omega) h0, r7, X2.2.2.2, Int.toNat_one, up1_n (by omega)]
    simp only [gO_e (yt29 H), gV_e (yp29_1 H), gc0 H, gc1 H, gc2 H, gc3 H, gc4 H, gc5 H, gc6 H, cl0, cl1, cl2, cl3, cl4, cl5, cl6, cI_e, cV_e, cA_e, cJ_e, lt_]
    rw [gA_e (yt35 H) (Or.inl rfl) (ix (by omega) (by omega) (by omega)), if_neg hz, show 7 + hi - 1 = 6 + hi by omega]
    rfl
theorem b_74 (H : Lay B w) (hp : w.2.1 (B + 29) 0 = some a) (hP : PL w a) (ha : a + 7 ≤ B + 29) (hN : I a 6 = it N) (N2 : N ≤ 200) (pN : p < N) (har : I (a + 2) p = it ar) (h1 : 1 ≤ hc) (h2 : hc ≤ 8) (hpf : Cl K (d + 5) 159 [.ref (B + 29), .int (it o), .int (it ar)] w I J = some (some (.int (it hc)), w, I, J)) (x1 : Int32) :
    f_143_74 K k (d + 5) (B + 29) x1 (it p) (it o) w I J = some (some (.int (it 0)), w, sm_up2 I (B + 30) 0 (it hc), J) := by
  unfold f_143_74 f_143_187
  simp only [it_lit, gO_e (yt29 H), gV_e (yp29_1 H), gc0 H, gc1 H, gc2 H, gc3 H, gc4 H, gc5 H, gc6 H, cl0, cl1, cl2, cl3, cl4, cl5, cl6, cI_e, cV_e, cA_e, cJ_e, lt_, gV_e hp, gO_e hP.1]
  rw [s_126 hP hN (by omega) (by omega) (by omega) (by omega), Int.toNat_natCast, har]
  simp only [gO_e (yt29 H), gV_e (yp29_1 H), gc0 H, gc1 H, gc2 H, gc3 H, gc4 H, gc5 H, gc6 H, cl0, cl1, cl2, cl3, cl4, cl5, cl6, cI_e, cV_e, cA_e, cJ_e, lt_]
  rw [hpf]
  simp only [gO_e (yt29 H), gV_e (yp29_1 H), gc0 H, gc1 H, gc2 H, gc3 H, gc4 H, gc5 H, gc6 H, cl0, cl1, cl2, cl3, cl4, cl5, cl6, cI_e, cV_e, cA_e, cJ_e, lt_]
  rw [if_neg (fun q => by have := (it_eq (by omega) (by omega) (by omega) (by omega)).mp q; omega), gA_e (yt30 H) (Or.inl rfl) (ix (z := 0) (by omega) (by omega) (by omega))]
/-- an attempt up to the op -/
theorem a_143 {q : Int32} (H : Lay B w) (hp : w.2.1 (B + 29) 0 = some a) (hP : PL w a) (ha : a + 7 ≤ B + 29) (hs : I (B + 29) 7 = it s) (s32 : s < 32) (c0 : I (B + 30) 0 = it 0) (h4 : I (B + 30) 4 = it fr) (f1 : 1 ≤ fr) (f2 : fr ≤ 8) (hN : I a 6 = it N) (N2 : N ≤ 200) (hpl : I (B + 30) (88 + 8 * (fr - 1)) = it p) (pN : p < N) (ho : I (a + 1) p = it o)
    (h148 : Cl K (d + 5) 148 [.ref (B + 29), .int (it o)] w (att0 B s I) J = some (some (.int (bi nd)), w, att0 B s I, J)) (hwc : wc = [] ∧ (¬ nd ∨ ¬ lfree (fun q => I (B + 30) (140 + 11 * q)) 16 1 = 0) ∨ nd ∧ lfree (fun q => I (B + 30) (140 + 11 * q)) 16 1 = 0 ∧ Cl K (d + 5) 153 [.ref (B + 29)] w (att0 B s I) J = some (some (.int q), w, wrs B s 1 wc (att0 B s I), J)) :
    f_143 K k (d + 5) (B + 29) w I J = f_143_74 K k (d + 5) (B + 29) (I (B + 30) 3) (it p) (it o) w (wrs B s 1 wc (att0 B s I)) J := by
  unfold f_143
  simp only [it_lit, gO_e (yt29 H), gV_e (yp29_1 H), gc0 H, gc1 H, gc2 H, gc3 H, gc4 H, gc5 H, gc6 H, cl0, cl1, cl2, cl3, cl4, cl5, cl6, cI_e, cV_e, cA_e, cJ_e, lt_]
  rw [s_142 H]
  simp only [gO_e (yt29 H), gV_e (yp29_1 H), gc0 H, gc1 H, gc2 H, gc3 H, gc4 H, gc5 H, gc6 H, cl0, cl1, cl2, cl3, cl4, cl5, cl6, cI_e, cV_e, cA_e, cJ_e, lt_, bi0]
  rw [if_pos (fun q => q c0)]
  simp only [hs, and31 s32, gV_e (yp29_3 H)]
  rw [gA_e (yt32 H) (Or.inl rfl) (ix (by omega) (by omega) (by omega)), it_cl (by omega) (by omega), Int.toNat_natCast, up2_n (a := B + 32) (b := B + 30) (by omega)]
  have X0 : XM B s 0 (I (B + 30)) (sm_up2 I (B + 32) s (it 0)) := ⟨by rw [up2_n (by omega)]; exact hs, s32, by rw [up2_r, up1_s]; rfl, up2_n (by omega)⟩
  rw [z_144 H X0 (by omega) (by omega) (by omega)]
  have ea : wr B s 0 (Int.toNat 2) (I (B + 30) 2) (sm_up2 I (B + 32) s (it 0)) = att0 B s I := rfl
  rw [ea]
  have X1 := att0_X (I := I) hs s32
  simp only [gO_e (yt29 H), gV_e (yp29_1 H), gc0 H, gc1 H, gc2 H, gc3 H, gc4 H, gc5 H, gc6 H, cl0, cl1, cl2, cl3, cl4, cl5, cl6, cI_e, cV_e, cA_e, cJ_e, lt_]
  have e37 : att0 B s I (B + 30) = I (B + 30) := X1.2.2.2
  rw [s_145 H (fr := fr) (by rw [e37]; exact h4) f1 f2, e37, hpl]
  simp only [gO_e (yt29 H), gV_e (yp29_1 H), gc0 H, gc1 H, gc2 H, gc3 H, gc4 H, gc5 H, gc6 H, cl0, cl1, cl2, cl3, cl4, cl5, cl6, cI_e, cV_e, cA_e, cJ_e, lt_, gV_e hp, gO_e hP.1]
  have ra : ∀ j, j ≤ 6 → att0 B s I (a + j) = I (a + j) := fun j hj => att0_o (by omega) (by omega) (by omega) (by omega)
  have ra0 : att0 B s I a = I a := ra 0 (by omega)
  rw [s_127 hP (N := N) (by rw [ra0]; exact hN) (by omega) (by omega) (by omega) (by omega), ra 1 (by omega), Int.toNat_natCast, ho]
  simp only [gO_e (yt29 H), gV_e (yp29_1 H), gc0 H, gc1 H, gc2 H, gc3 H, gc4 H, gc5 H, gc6 H, cl0, cl1, cl2, cl3, cl4, cl5, cl6, cI_e, cV_e, cA_e, cJ_e, lt_]
  rw [h148]
  simp only [gO_e (yt29 H), gV_e (yp29_1 H), gc0 H, gc1 H, gc2 H, gc3 H, gc4 H, gc5 H, gc6 H, cl0, cl1, cl2, cl3, cl4, cl5, cl6, cI_e, cV_e, cA_e, cJ_e, lt_, bi0]
  rcases hwc with ⟨rfl, hn⟩ | ⟨h1, h2, h3⟩
  · by_cases hnd : nd
    · have hl : ¬ lfree (fun q => I (B + 30) (140 + 11 * q)) 16 1 = 0 := hn.resolve_left (fun q => q hnd)
      rw [if_neg (by rw [bi_t hnd]; decide), s_151 H X1]
      simp only [gO_e (yt29 H), gV_e (yp29_1 H), gc0 H, gc1 H, gc2 H, gc3 H, gc4 H, gc5 H, gc6 H, cl0, cl1, cl2, cl3, cl4, cl5, cl6, cI_e, cV_e, cA_e, cJ_e, lt_]
      have hle := lfree_le (fun q => I (B + 30) (140 + 11 * q)) 16 1
      rw [if_pos (fun q => by have := (it_eq (by omega) (by omega) (by omega) (by omega)).mp q; omega)]
      rfl
    · rw [if_pos (by rw [bi_f hnd])]
      rfl
  · rw [if_neg (by rw [bi_t h1]; decide), s_151 H X1, h2]
    simp only [gO_e (yt29 H), gV_e (yp29_1 H), gc0 H, gc1 H, gc2 H, gc3 H, gc4 H, gc5 H, gc6 H, cl0, cl1, cl2, cl3, cl4, cl5, cl6, cI_e, cV_e, cA_e, cJ_e, lt_]
    rw [if_neg (fun q => q rfl), h3]
    rfl
end XATT

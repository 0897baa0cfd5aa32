section PRR
variable {K : Nat → Value} {B d n b L : Nat} {w0 : aW} {I0 : aI} {xs : Nat → Int32}
theorem pr_stack (hs : gSc b L B xs w0 I0) (a0 a1 : Int32) (ht : a1 = 0 ∨ a1 = 1) : Pr K (d + 20) (rR K B w0 I0 n) (rR K B w0 I0 (n + 1)) (Sc b B (B + 46) L xs) B (B + 46) 204 205 [.int a0, .int a1] := by
  intro w I J hR
  have H := hR.1
  obtain ⟨z, z1, z2, rfl⟩ := it_ex a0
  obtain ⟨⟨N, F, fa, oc, ar, sh, rc⟩, a, a', bg, ha, p1, p2, p3, TC, gx, gm, b1, b2, b3, b4, b5⟩ := id hR.2.2.2.2.2.2.2.2.2
  by_cases hb : bg = 1
  · subst hb
    obtain ⟨hp, hN, K2⟩ := b5 rfl; obtain ⟨kp, sl, k30, s32, h8, h41, h7, R, M, Hs⟩ := id K2; obtain ⟨⟨hh, fr, hi, pr, m0, m1, m2, m3, m4, m5, m6, m7, m8, m9, m10, m11, m12⟩, aO⟩ := id M
    have e3 : I (B + 30) 3 = it hi := R.2.2.2.1.trans m2
    by_cases hz : 0 ≤ z ∧ z < hi
    · obtain ⟨i, rfl⟩ := z_nat hz.1
      have r7 := R.2.2.2.2.2.2.2.1 i (by omega)
      rcases ht with rfl | rfl
      · refine pr_eq hs hR (I (B + 65) (10 + i)).toInt64 (cl_204 (k := 0) ?_) (cl_205 (k := 0) ?_)
        · unfold f_204 f_204_51
          simp only [it_lit, gO_e (yt H), gV_e (yp_4 H), gO_e (yt29 H), it_add]
          rw [b2, if_pos (by decide), if_neg (fun q => by have := (it_lt (by omega) (by omega) (by omega) (by omega)).mp q; omega), s_147 H (by omega) (by omega)]
          simp only [cI_e, gO_e (yt H), gV_e (yp_4 H), gO_e (yt29 H)]
          rw [show (3 : Int).toNat = 3 from rfl, e3, if_pos ((it_lt (by omega) (by omega) (by omega) (by omega)).mpr (by omega))]
          repeat (first | rw [if_pos (by decide)] | rw [if_neg (by decide)])
          rw [s_147 H (by omega) (by omega), show (7 + (i : Int)).toNat = 7 + i by omega, r7.1]
          rfl
        · unfold f_205
          simp only [it_lit, gO_e (yt46 H), gV_e (yp46_36 H), it_add, gn2 H, cl2, m2, it_sub]
          rw [b3, if_pos (by decide), s_19i (by omega) (by omega) (by omega) (by omega) (by omega) (by omega)]
          simp only [cI_e, bi0, gO_e (yt46 H), gV_e (yp46_36 H)]
          rw [if_pos (fun q => q ⟨by omega, by omega⟩)]
          repeat (first | rw [if_pos (by decide)] | rw [if_neg (by decide)])
          rw [gA_e (yt65 H) (Or.inl rfl) (ix (by omega) (by omega) (by omega)), it_cl (by omega) (by omega), show (10 + (i : Int)).toNat = 10 + i by omega]
      · refine pr_eq hs hR (I (B + 65) (40 + i)).toInt64 (cl_204 (k := 0) ?_) (cl_205 (k := 0) ?_)
        · unfold f_204 f_204_51
          simp only [it_lit, gO_e (yt H), gV_e (yp_4 H), gO_e (yt29 H), it_add]
          rw [b2, if_pos (by decide), if_neg (fun q => by have := (it_lt (by omega) (by omega) (by omega) (by omega)).mp q; omega), s_147 H (by omega) (by omega)]
          simp only [cI_e, gO_e (yt H), gV_e (yp_4 H), gO_e (yt29 H)]
          rw [show (3 : Int).toNat = 3 from rfl, e3, if_pos ((it_lt (by omega) (by omega) (by omega) (by omega)).mpr (by omega))]
          repeat (first | rw [if_pos (by decide)] | rw [if_neg (by decide)])
          rw [s_147 H (by omega) (by omega), show (37 + (i : Int)).toNat = 37 + i by omega, r7.2]
          rfl
        · unfold f_205
          simp only [it_lit, gO_e (yt46 H), gV_e (yp46_36 H), it_add, gn2 H, cl2, m2, it_sub]
          rw [b3, if_pos (by decide), s_19i (by omega) (by omega) (by omega) (by omega) (by omega) (by omega)]
          simp only [cI_e, bi0, gO_e (yt46 H), gV_e (yp46_36 H)]
          rw [if_pos (fun q => q ⟨by omega, by omega⟩)]
          repeat (first | rw [if_pos (by decide)] | rw [if_neg (by decide)])
          rw [gA_e (yt65 H) (Or.inl rfl) (ix (by omega) (by omega) (by omega)), it_cl (by omega) (by omega), show (40 + (i : Int)).toNat = 40 + i by omega]
    · refine pr_fd hs hR 1 (by omega) (by omega) (cl_204 (k := 0) ?_) (fun I' hI => cl_205 (k := 0) ?_)
      · unfold f_204 f_204_30
        simp only [it_lit, gO_e (yt H), gV_e (yp_4 H), gO_e (yt29 H), it_add]
        rw [b2, if_pos (by decide)]
        by_cases h0 : z < 0
        · rw [if_pos ((it_lt (by omega) (by omega) (by omega) (by omega)).mpr (by omega)), s_17 H (by omega) (by omega)]; rfl
        · rw [if_neg (fun q => by have := (it_lt (by omega) (by omega) (by omega) (by omega)).mp q; omega), s_147 H (by omega) (by omega)]
          simp only [cI_e, gO_e (yt H)]
          rw [show (3 : Int).toNat = 3 from rfl, e3, if_neg (fun q => by have := (it_lt (by omega) (by omega) (by omega) (by omega)).mp q; omega), s_17 H (by omega) (by omega)]
          rfl
      · have e72 := hI (B + 65) (by omega)
        have e53 := hI (B + 46) (by omega)
        unfold f_205
        simp only [it_lit, gO_e (yt46 H), gV_e (yp46_36 H), gn2 H, cl2, e72, e53, m2, it_sub]
        rw [b3, if_pos (by decide), s_19i (by omega) (by omega) (by omega) (by omega) (by omega) (by omega)]
        simp only [cI_e, bi0, gO_e (yt46 H)]
        rw [if_neg (by omega), s_20 H (by omega) (by omega)]
        rfl
  · have hb0 := bg_01 b1 hb
    subst hb0
    refine pr_fd hs hR 6 (by omega) (by omega) (cl_204 (k := 0) ?_) (fun I' hI => cl_205 (k := 0) ?_)
    · unfold f_204; simp only [it_lit, gO_e (yt H)]; (rw [b2, if_neg (fun q => q rfl), s_17 H (by omega) (by omega)]; rfl)
    · unfold f_205; simp only [it_lit, gO_e (yt46 H)]; (rw [hI (B + 46) (by omega), b3, if_neg (fun q => q rfl), s_20 H (by omega) (by omega)]; rfl)
theorem pr_printed (hs : gSc b L B xs w0 I0) (a0 : Int32) : Pr K (d + 20) (rR K B w0 I0 n) (rR K B w0 I0 (n + 1)) (Sc b B (B + 46) L xs) B (B + 46) 212 213 [.int a0] := by
  intro w I J hR
  have H := hR.1
  obtain ⟨z, z1, z2, rfl⟩ := it_ex a0
  obtain ⟨⟨N, F, fa, oc, ar, sh, rc⟩, a, a', bg, ha, p1, p2, p3, TC, gx, gm, b1, b2, b3, b4, b5⟩ := id hR.2.2.2.2.2.2.2.2.2
  by_cases hb : bg = 1
  · subst hb
    obtain ⟨hp, hN, K2⟩ := b5 rfl; obtain ⟨kp, sl, k30, s32, h8, h41, h7, R, M, Hs⟩ := id K2; obtain ⟨⟨hh, fr, hi, pr, m0, m1, m2, m3, m4, m5, m6, m7, m8, m9, m10, m11, m12⟩, aO⟩ := id M
    have e5 : I (B + 30) 5 = it pr := R.2.2.2.2.2.1.trans m3
    by_cases hz : 0 ≤ z ∧ z < pr
    · obtain ⟨i, rfl⟩ := z_nat hz.1
      have r8 := R.2.2.2.2.2.2.2.2.1 i (by omega)
      refine pr_eq hs hR (I (B + 65) (134 + i)).toInt64 (cl_212 (k := 0) ?_) (cl_213 (k := 0) ?_)
      · unfold f_212
        simp only [it_lit, gO_e (yt H), gV_e (yp_4 H), gO_e (yt29 H), it_add]
        rw [b2, if_pos (by decide), if_neg (fun q => by have := (it_lt (by omega) (by omega) (by omega) (by omega)).mp q; omega), s_147 H (by omega) (by omega)]
        simp only [cI_e, gO_e (yt H), gV_e (yp_4 H), gO_e (yt29 H)]
        rw [show (5 : Int).toNat = 5 from rfl, e5, if_pos ((it_lt (by omega) (by omega) (by omega) (by omega)).mpr (by omega)), s_147 H (by omega) (by omega), show (67 + (i : Int)).toNat = 67 + i by omega, r8]
        rfl
      · unfold f_213
        simp only [it_lit, gO_e (yt46 H), gV_e (yp46_36 H), it_add, gn3 H, cl3, m3, it_sub]
        rw [b3, if_pos (by decide), s_19i (by omega) (by omega) (by omega) (by omega) (by omega) (by omega)]
        simp only [cI_e, bi0, gO_e (yt46 H), gV_e (yp46_36 H)]
        rw [if_neg (fun q => q ⟨by omega, by omega⟩), gA_e (yt65 H) (Or.inl rfl) (ix (by omega) (by omega) (by omega)), it_cl (by omega) (by omega), show (134 + (i : Int)).toNat = 134 + i by omega]
    · refine pr_fd hs hR 1 (by omega) (by omega) (cl_212 (k := 0) ?_) (fun I' hI => cl_213 (k := 0) ?_)
      · unfold f_212 f_212_30
        simp only [it_lit, gO_e (yt H), gV_e (yp_4 H), gO_e (yt29 H), it_add]
        rw [b2, if_pos (by decide)]
        by_cases h0 : z < 0
        · rw [if_pos ((it_lt (by omega) (by omega) (by omega) (by omega)).mpr (by omega)), s_17 H (by omega) (by omega)]; rfl
        · rw [if_neg (fun q => by have := (it_lt (by omega) (by omega) (by omega) (by omega)).mp q; omega), s_147 H (by omega) (by omega)]
          simp only [cI_e, gO_e (yt H)]
          rw [show (5 : Int).toNat = 5 from rfl, e5, if_neg (fun q => by have := (it_lt (by omega) (by omega) (by omega) (by omega)).mp q; omega), s_17 H (by omega) (by omega)]
          rfl
      · have e72 := hI (B + 65) (by omega)
        have e53 := hI (B + 46) (by omega)
        unfold f_213
        simp only [it_lit, gO_e (yt46 H), gV_e (yp46_36 H), gn3 H, cl3, e72, e53, m3, it_sub]
        rw [b3, if_pos (by decide), s_19i (by omega) (by omega) (by omega) (by omega) (by omega) (by omega)]
        simp only [cI_e, bi0, gO_e (yt46 H)]
        rw [if_pos (by omega), s_20 H (by omega) (by omega)]
        rfl
  · have hb0 := bg_01 b1 hb
    subst hb0
    refine pr_fd hs hR 6 (by omega) (by omega) (cl_212 (k := 0) ?_) (fun I' hI => cl_213 (k := 0) ?_)
    · unfold f_212; simp only [it_lit, gO_e (yt H)]; (rw [b2, if_neg (fun q => q rfl), s_17 H (by omega) (by omega)]; rfl)
    · unfold f_213; simp only [it_lit, gO_e (yt46 H)]; (rw [hI (B + 46) (by omega), b3, if_neg (fun q => q rfl), s_20 H (by omega) (by omega)]; rfl)
theorem pr_result (hs : gSc b L B xs w0 I0) : Pr K (d + 20) (rR K B w0 I0 n) (rR K B w0 I0 (n + 1)) (Sc b B (B + 46) L xs) B (B + 46) 214 215 [] := by
  intro w I J hR
  have H := hR.1
  obtain ⟨⟨N, F, fa, oc, ar, sh, rc⟩, a, a', bg, ha, p1, p2, p3, TC, gx, gm, b1, b2, b3, b4, b5⟩ := id hR.2.2.2.2.2.2.2.2.2
  by_cases hb : bg = 1
  · subst hb
    obtain ⟨hp, hN, K2⟩ := b5 rfl; obtain ⟨kp, sl, k30, s32, h8, h41, h7, R, M, Hs⟩ := id K2; obtain ⟨⟨hh, fr, hi, pr, m0, m1, m2, m3, m4, m5, m6, m7, m8, m9, m10, m11, m12⟩, aO⟩ := id M
    by_cases hd : I (B + 30) 0 = it 1
    · refine pr_eq hs hR (I (B + 65) 6).toInt64 (cl_214 (k := 0) ?_) (cl_215 (k := 0) ?_)
      · unfold f_214
        simp only [it_lit, gO_e (yt H), gV_e (yp_4 H), gO_e (yt29 H)]
        rw [b2, if_neg (by decide), s_201 H]
        simp only [cI_e, bi0, gO_e (yt H), gV_e (yp_4 H), gO_e (yt29 H)]
        rw [if_pos (fun q => q hd), s_147 H (by omega) (by omega), show (6 : Int).toNat = 6 from rfl, R.2.2.2.2.2.2.1]
        rfl
      · unfold f_215
        simp only [it_lit, gO_e (yt46 H), gV_e (yp46_36 H), gn0 H, cl0, gn6 H, cl6]
        rw [b3, if_neg (by decide), if_pos (by rw [← R.1]; exact hd)]
    · refine pr_fd hs hR 6 (by omega) (by omega) (cl_214 (k := 0) ?_) (fun I' hI => cl_215 (k := 0) ?_)
      · unfold f_214 f_214_17
        simp only [it_lit, gO_e (yt H), gV_e (yp_4 H), gO_e (yt29 H)]
        rw [b2, if_neg (by decide), s_201 H]
        simp only [cI_e, bi0, gO_e (yt H)]
        rw [if_neg (fun q => q hd), s_17 H (by omega) (by omega)]
        rfl
      · have e72 := hI (B + 65) (by omega)
        have e53 := hI (B + 46) (by omega)
        unfold f_215 f_215_17
        simp only [it_lit, gO_e (yt46 H), gV_e (yp46_36 H), gn0 H, cl0, gn6 H, cl6, e72, e53]
        rw [b3, if_neg (by decide), if_neg (by rw [← R.1]; exact hd), s_20 H (by omega) (by omega)]
        rfl
  · have hb0 := bg_01 b1 hb
    subst hb0
    refine pr_fd hs hR 6 (by omega) (by omega) (cl_214 (k := 0) ?_) (fun I' hI => cl_215 (k := 0) ?_)
    · unfold f_214 f_214_17
      simp only [it_lit, gO_e (yt H)]
      rw [b2, if_pos (by decide), s_17 H (by omega) (by omega)]
      rfl
    · have e53 := hI (B + 46) (by omega)
      unfold f_215 f_215_17
      simp only [it_lit, gO_e (yt46 H), e53]
      rw [b3, if_pos (by decide), s_20 H (by omega) (by omega)]
      rfl
theorem hst_p {OK : (Nat → Int32) → (Nat → Int32) → Prop} {nd nc nn xp pa mp : Nat → Int32} : ∀ (k s i : Nat) (c : Nat → Int32), s < 32 → k ≤ 30 → i < k → hst OK nd nc nn xp pa mp k s c → ∀ j, j < 4 → xp (4 * ((s + 31 - i) % 32) + j) = mp (4 * (k - 1 - i) + j) := by
  intro k
  induction k with
  | zero => intro s i c _ _ hi; omega
  | succ k ih =>
    intro s i c hs hk hi h j hj
    obtain ⟨m, m1, m2, m3, m4, m5, m6, m7, m8, m9⟩ := h
    cases i with
    | zero => exact m6 j hj
    | succ i =>
      have := ih _ i _ (by omega) (by omega) (by omega) m9 j hj
      rw [show ((s + 31) % 32 + 31 - i) % 32 = (s + 31 - (i + 1)) % 32 by omega, show k - 1 - i = k + 1 - 1 - (i + 1) by omega] at this
      exact this
theorem pr_proof (hs : gSc b L B xs w0 I0) (a0 a1 : Int32) : Pr K (d + 20) (rR K B w0 I0 n) (rR K B w0 I0 (n + 1)) (Sc b B (B + 46) L xs) B (B + 46) 219 221 [.int a0, .int a1] := by
  intro w I J hR
  have H := hR.1
  obtain ⟨z, z1, z2, rfl⟩ := it_ex a0
  obtain ⟨y, y1, y2, rfl⟩ := it_ex a1
  obtain ⟨⟨N, F, fa, oc, ar, sh, rc⟩, a, a', bg, ha, p1, p2, p3, TC, gx, gm, b1, b2, b3, b4, b5⟩ := id hR.2.2.2.2.2.2.2.2.2
  by_cases hb : bg = 1
  · subst hb
    obtain ⟨hp, hN, K2⟩ := b5 rfl; obtain ⟨kp, sl, k30, s32, h8, h41, h7, R, M, Hs⟩ := id K2; obtain ⟨⟨hh, fr, hi, pr, m0, m1, m2, m3, m4, m5, m6, m7, m8, m9, m10, m11, m12⟩, aO⟩ := id M
    by_cases hz : (0 ≤ z ∧ z < kp) ∧ 0 ≤ y ∧ y < 4
    · obtain ⟨i, rfl⟩ := z_nat hz.1.1
      obtain ⟨k, rfl⟩ := z_nat hz.2.1
      have hx := hst_p kp sl i _ s32 k30 (by omega) Hs k (by omega)
      refine pr_eq hs hR (I (B + 68) (4 * (kp - 1 - i) + k)).toInt64 (cl_219 (k := 0) ?_) (cl_221 (k := 0) ?_)
      · unfold f_219
        simp only [it_lit, gO_e (yt H), gV_e (yp_4 H), gO_e (yt29 H), it_add, h8]
        have e1 : it ((i : Int) + 1) = it ((i + 1 : Nat) : Int) := rfl
        rw [b2, if_pos (by decide), if_neg (fun q => by have := (it_lt (by omega) (by omega) (by omega) (by omega)).mp q; omega), if_neg (fun q => by have := (it_le (by omega) (by omega) (by omega) (by omega)).mp q; omega), if_neg (fun q => by have := (it_lt (by omega) (by omega) (by omega) (by omega)).mp q; omega), if_pos ((it_lt (by omega) (by omega) (by omega) (by omega)).mpr (by omega)), e1, s_220 H h7 s32 (by omega) (by omega)]
        simp only [cI_e]
        rw [show sl + 32 - (i + 1) = sl + 31 - i by omega, hx]
      · unfold f_221
        simp only [it_lit, gO_e (yt46 H), gV_e (yp46_39 H), h41, it_sub]
        rw [b3, if_pos (by decide), s_19i (by omega) (by omega) (by omega) (by omega) (by omega) (by omega)]
        simp only [cI_e, bi0]
        rw [if_neg (fun q => q ⟨by omega, by omega⟩), s_19i (by omega) (by omega) (by omega) (by omega) (by omega) (by omega)]
        simp only [cI_e, bi0, gO_e (yt46 H), gV_e (yp46_39 H), h41, it_sub, it_mul, it_add]
        rw [if_pos (fun q => q ⟨by omega, by omega⟩), gA_e (yt68 H) (Or.inl rfl) (ix (by omega) (by omega) (by omega)), it_cl (by omega) (by omega), show (4 * ((kp : Int) - 1 - i) + k).toNat = 4 * (kp - 1 - i) + k by omega]
    · refine pr_fd hs hR 1 (by omega) (by omega) (cl_219 (k := 0) ?_) (fun I' hI => cl_221 (k := 0) ?_)
      · unfold f_219 f_219_38
        simp only [it_lit, gO_e (yt H), gV_e (yp_4 H), gO_e (yt29 H), h8]
        rw [b2, if_pos (by decide), s_17 H (by omega) (by omega)]
        by_cases h0 : z < 0
        · rw [if_pos ((it_lt (by omega) (by omega) (by omega) (by omega)).mpr (by omega))]; rfl
        · rw [if_neg (fun q => by have := (it_lt (by omega) (by omega) (by omega) (by omega)).mp q; omega)]
          by_cases h1 : (kp : Int) ≤ z
          · rw [if_pos ((it_le (by omega) (by omega) (by omega) (by omega)).mpr (by omega))]; rfl
          · rw [if_neg (fun q => by have := (it_le (by omega) (by omega) (by omega) (by omega)).mp q; omega)]
            by_cases h2 : y < 0
            · rw [if_pos ((it_lt (by omega) (by omega) (by omega) (by omega)).mpr (by omega))]; rfl
            · rw [if_neg (fun q => by have := (it_lt (by omega) (by omega) (by omega) (by omega)).mp q; omega), if_neg (fun q => by have := (it_lt (by omega) (by omega) (by omega) (by omega)).mp q; omega)]; rfl
      · have e53 := hI (B + 46) (by omega)
        unfold f_221 f_221_37
        simp only [it_lit, gO_e (yt46 H), gV_e (yp46_39 H), e53, h41, it_sub]
        rw [b3, if_pos (by decide), s_19i (by omega) (by omega) (by omega) (by omega) (by omega) (by omega)]
        simp only [cI_e, bi0]
        by_cases h0 : 0 ≤ z ∧ z < kp
        · rw [if_neg (fun q => q ⟨by omega, by omega⟩), s_19i (by omega) (by omega) (by omega) (by omega) (by omega) (by omega)]
          simp only [cI_e, bi0, gO_e (yt46 H)]
          rw [if_neg (by omega), s_20 H (by omega) (by omega)]
          rfl
        · rw [if_pos (by omega), gO_e (yt46 H), s_20 H (by omega) (by omega)]
          rfl
  · have hb0 := bg_01 b1 hb
    subst hb0
    refine pr_fd hs hR 6 (by omega) (by omega) (cl_219 (k := 0) ?_) (fun I' hI => cl_221 (k := 0) ?_)
    · unfold f_219; simp only [it_lit, gO_e (yt H)]; (rw [b2, if_neg (fun q => q rfl), s_17 H (by omega) (by omega)]; rfl)
    · unfold f_221; simp only [it_lit, gO_e (yt46 H)]; (rw [hI (B + 46) (by omega), b3, if_neg (fun q => q rfl), s_20 H (by omega) (by omega)]; rfl)
theorem pr_variable (hs : gSc b L B xs w0 I0) (a0 a1 : Int32) : Pr K (d + 20) (rR K B w0 I0 n) (rR K B w0 I0 (n + 1)) (Sc b B (B + 46) L xs) B (B + 46) 206 207 [.int a0, .int a1] := by
  intro w I J hR
  have H := hR.1
  obtain ⟨z, z1, z2, rfl⟩ := it_ex a0
  obtain ⟨y, y1, y2, rfl⟩ := it_ex a1
  obtain ⟨⟨N, F, fa, oc, ar, sh, rc⟩, a, a', bg, ha, p1, p2, p3, TC, gx, gm, b1, b2, b3, b4, b5⟩ := id hR.2.2.2.2.2.2.2.2.2
  by_cases hb : bg = 1
  · subst hb
    obtain ⟨hp, hN, K2⟩ := b5 rfl; obtain ⟨kp, sl, k30, s32, h8, h41, h7, R, M, Hs⟩ := id K2; obtain ⟨⟨hh, fr, hi, pr, m0, m1, m2, m3, m4, m5, m6, m7, m8, m9, m10, m11, m12⟩, aO⟩ := id M
    obtain ⟨g1, g2, g3, g4, g5, g6, g7, g8, g9⟩ := tc_g TC
    have e4 : I (B + 30) 4 = it fr := R.2.2.2.2.1.trans m1
    by_cases hz : 0 ≤ z ∧ z < fr
    · obtain ⟨j, rfl⟩ := z_nat hz.1
      obtain ⟨f, p, f1, f2, f3, f4, f5⟩ := m12 j (by omega)
      have er := R.2.2.2.2.2.2.2.2.2.1 j (by rw [m1, it_toInt (by omega) (by omega)]; omega)
      have ec : I (B + 30) (87 + 8 * j) = it f := er.1.trans f3
      have xc : I (a + 5) (4 * f + 2) = it (fa f 2) := (gx.2.2.2 f f1).1 2 (by omega)
      have yc : I (B + 58) (10 * f + 2) = it (fa f 2) := (gm.2.2.2 f f1).1 2 (by omega)
      have h6 : fa f 2 ≤ 6 := g3 f f1
      have mid : ∀ I' : aI, (∀ a, ¬ a = B + 37 → I' a = I a) → f_207 K 0 (d + 19) (B + 46) (it j) (it y) w I' J = if 0 ≤ y ∧ y < fa f 2 then some (some (.long (I (B + 65) (72 + 8 * j + y.toNat)).toInt64), w, I', J) else f_207_62 K 0 (d + 19) (B + 46) (it j) (it y) w I' J := by
        intro I' hI
        have e72 := hI (B + 65) (by omega)
        have e53 := hI (B + 46) (by omega)
        have e65 := hI (B + 58) (by omega)
        unfold f_207
        simp only [it_lit, gO_e (yt46 H), gV_e (yp46_36 H), gV_e (yp46_18 H), gn1 H, cl1, e72, e53, m1, it_sub]
        rw [b3, if_pos (by decide), s_19i (by omega) (by omega) (by omega) (by omega) (by omega) (by omega)]
        simp only [cI_e, bi0, gO_e (yt46 H), gV_e (yp46_36 H), gV_e (yp46_18 H), e72, it_mul, it_add]
        rw [if_neg (fun q => q ⟨by omega, by omega⟩), gA_e (yt65 H) (Or.inl rfl) (ix (by omega) (by omega) (by omega)), it_cl (a := 70 + 8 * (j : Int)) (by omega) (by omega), show (70 + 8 * (j : Int)).toNat = 70 + 8 * j by omega, f3]
        simp only [it_mul, it_add]
        rw [gA_e (yt58 H) (Or.inl rfl) (ix (by omega) (by omega) (by omega)), it_cl (a := 10 * (f : Int) + 2) (by omega) (by omega), show (10 * (f : Int) + 2).toNat = 10 * f + 2 by omega, e65, yc, it_sub, s_19i (by omega) (by omega) (by omega) (by omega) (by omega) (by omega)]
        simp only [cI_e, bi0, gO_e (yt46 H), gV_e (yp46_36 H), e72]
        by_cases hy : 0 ≤ y ∧ y < fa f 2
        · rw [if_pos hy, if_pos (fun q => q ⟨by omega, by omega⟩), gA_e (yt65 H) (Or.inl rfl) (ix (by omega) (by omega) (by omega)), it_cl (by omega) (by omega), show (70 + 8 * (j : Int) + 2 + y).toNat = 72 + 8 * j + y.toNat by omega]
        · rw [if_neg hy, if_neg (by omega)]
      by_cases hy : 0 ≤ y ∧ y < fa f 2
      · obtain ⟨v, rfl⟩ := z_nat hy.1
        have hv2 : v < fa f 2 := by omega
        have ev := er.2.2 f v f3 (by omega) hv2 (by omega)
        refine pr_eq hs hR (I (B + 65) (72 + 8 * j + v)).toInt64 (cl_206 (k := 0) ?_) (cl_207 (k := 0) ?_)
        · unfold f_206
          simp only [it_lit, gO_e (yt H), gV_e (yp_4 H), gO_e (yt29 H)]
          rw [b2, if_pos (by decide), if_neg (fun q => by have := (it_lt (by omega) (by omega) (by omega) (by omega)).mp q; omega), s_147 H (by omega) (by omega)]
          simp only [cI_e, gO_e (yt H), gV_e (yp_4 H), gO_e (yt29 H)]
          rw [show (4 : Int).toNat = 4 from rfl, e4, if_neg (fun q => by have := (it_le (by omega) (by omega) (by omega) (by omega)).mp q; omega), if_neg (fun q => by have := (it_lt (by omega) (by omega) (by omega) (by omega)).mp q; omega), u_156 H hp (PLx H (or_a ha)) (by omega) ec (by omega), xc]
          simp only [cI_e, gO_e (yt H), gV_e (yp_4 H), gO_e (yt29 H)]
          rw [if_pos ((it_lt (by omega) (by omega) (by omega) (by omega)).mpr (by omega)), u_158 H (by omega) (by omega), ev]
          rfl
        · rw [mid I (fun _ _ => rfl), if_pos hy, Int.toNat_natCast]
      · refine pr_fd hs hR 1 (by omega) (by omega) (cl_206 (k := 0) ?_) (fun I' hI => cl_207 (k := 0) ?_)
        · unfold f_206 f_206_46
          simp only [it_lit, gO_e (yt H), gV_e (yp_4 H), gO_e (yt29 H)]
          rw [b2, if_pos (by decide), if_neg (fun q => by have := (it_lt (by omega) (by omega) (by omega) (by omega)).mp q; omega), s_147 H (by omega) (by omega)]
          simp only [cI_e, gO_e (yt H), gV_e (yp_4 H), gO_e (yt29 H)]
          rw [show (4 : Int).toNat = 4 from rfl, e4, if_neg (fun q => by have := (it_le (by omega) (by omega) (by omega) (by omega)).mp q; omega)]
          by_cases h0 : y < 0
          · rw [if_pos ((it_lt (by omega) (by omega) (by omega) (by omega)).mpr (by omega)), s_17 H (by omega) (by omega)]; rfl
          · rw [if_neg (fun q => by have := (it_lt (by omega) (by omega) (by omega) (by omega)).mp q; omega), u_156 H hp (PLx H (or_a ha)) (by omega) ec (by omega), xc]
            simp only [cI_e, gO_e (yt H)]
            rw [if_neg (fun q => by have := (it_lt (by omega) (by omega) (by omega) (by omega)).mp q; omega), s_17 H (by omega) (by omega)]
            rfl
        · rw [mid I' hI, if_neg hy]
          unfold f_207_62
          simp only [it_lit, gO_e (yt46 H)]
          rw [s_20 H (by omega) (by omega)]
          rfl
    · refine pr_fd hs hR 1 (by omega) (by omega) (cl_206 (k := 0) ?_) (fun I' hI => cl_207 (k := 0) ?_)
      · unfold f_206 f_206_46
        simp only [it_lit, gO_e (yt H), gV_e (yp_4 H), gO_e (yt29 H)]
        rw [b2, if_pos (by decide)]
        by_cases h0 : z < 0
        · rw [if_pos ((it_lt (by omega) (by omega) (by omega) (by omega)).mpr (by omega)), s_17 H (by omega) (by omega)]; rfl
        · rw [if_neg (fun q => by have := (it_lt (by omega) (by omega) (by omega) (by omega)).mp q; omega), s_147 H (by omega) (by omega)]
          simp only [cI_e, gO_e (yt H)]
          rw [show (4 : Int).toNat = 4 from rfl, e4, if_pos ((it_le (by omega) (by omega) (by omega) (by omega)).mpr (by omega)), s_17 H (by omega) (by omega)]
          rfl
      · have e72 := hI (B + 65) (by omega)
        have e53 := hI (B + 46) (by omega)
        unfold f_207 f_207_62
        simp only [it_lit, gO_e (yt46 H), gV_e (yp46_36 H), gV_e (yp46_18 H), gn1 H, cl1, e72, e53, m1, it_sub]
        rw [b3, if_pos (by decide), s_19i (by omega) (by omega) (by omega) (by omega) (by omega) (by omega)]
        simp only [cI_e, bi0, gO_e (yt46 H)]
        rw [if_pos (by omega), s_20 H (by omega) (by omega)]
        rfl
  · have hb0 := bg_01 b1 hb
    subst hb0
    refine pr_fd hs hR 6 (by omega) (by omega) (cl_206 (k := 0) ?_) (fun I' hI => cl_207 (k := 0) ?_)
    · unfold f_206; simp only [it_lit, gO_e (yt H)]; (rw [b2, if_neg (fun q => q rfl), s_17 H (by omega) (by omega)]; rfl)
    · unfold f_207; simp only [it_lit, gO_e (yt46 H)]; (rw [hI (B + 46) (by omega), b3, if_neg (fun q => q rfl), s_20 H (by omega) (by omega)]; rfl)
end PRR

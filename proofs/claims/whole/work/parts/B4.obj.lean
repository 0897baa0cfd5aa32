section OBJ
variable {K : Nat → Value} {B d s m a N F hi pr j f p b : Nat} {fa : Nat → Nat → Nat} {oc ar : Nat → Nat} {sh : Nat → List Nat} {rc : Nat → Bool} {w : aW} {I I' : aI} {J : aJ} {c n : Nat → Int32}
/-- objects: what each has -/
def hasO (kd sz : Nat) (y : Int) : Prop := y = 0 ∨ kd = 1 ∧ (y = 1 ∨ 10 ≤ y ∧ y < 10 + sz) ∨ kd = 2 ∧ (y = 1 ∨ y = 2)
theorem s_209 {o kd sz : Nat} {y : Int} (H : Lay B w) (o1 : 1 ≤ o) (o2 : o ≤ 16) (hk : I (B + 30) (140 + 11 * o) = it kd) (k2 : kd ≤ 2) (hz : kd = 1 → I (B + 30) (141 + 11 * o) = it sz) (s9 : sz ≤ 9) (y1 : -2147483648 ≤ y) (y2 : y < 2147483648) : Cl K (d + 2) 209 [.ref (B + 29), .int (it o), .int (it y)] w I J = some (some (.int (bi (hasO kd sz y))), w, I, J) := by
  apply cl_209 (k := 0)
  unfold f_209
  simp only [it_lit]
  rw [s_152]
  simp only [gO_e (yt29 H), gV_e (yp29_1 H), gc0 H, gc1 H, gc2 H, gc3 H, gc4 H, gc5 H, gc6 H, cl0, cl1, cl2, cl3, cl4, cl5, cl6, cI_e, cV_e, cA_e, cJ_e, lt_]
  rw [s_147 H (by omega) (by omega), show (151 + ((o : Int) - 1) * 11).toNat = 140 + 11 * o by omega, hk]
  simp only [gO_e (yt29 H), gV_e (yp29_1 H), gc0 H, gc1 H, gc2 H, gc3 H, gc4 H, gc5 H, gc6 H, cl0, cl1, cl2, cl3, cl4, cl5, cl6, cI_e, cV_e, cA_e, cJ_e, lt_]
  by_cases h0 : y = 0
  · subst h0
    rw [if_neg (fun q => q rfl), bi_t (by unfold hasO; omega)]
  · rw [if_pos (fun q => by have := (it_eq (by omega) (by omega) (by omega) (by omega)).mp q; omega)]
    by_cases k1 : kd = 1
    · subst k1
      rw [if_neg (fun q => q rfl)]
      by_cases h1 : y = 1
      · subst h1
        rw [if_pos rfl, bi_t (by unfold hasO; omega)]
      · rw [if_neg (fun q => by have := (it_eq (by omega) (by omega) (by omega) (by omega)).mp q; omega)]
        by_cases h10 : y < 10
        · rw [if_pos ((it_lt (by omega) (by omega) (by omega) (by omega)).mpr (by omega)), bi_f (by unfold hasO; omega)]
        · rw [if_neg (fun q => by have := (it_lt (by omega) (by omega) (by omega) (by omega)).mp q; omega), s_152]
          simp only [gO_e (yt29 H), gV_e (yp29_1 H), gc0 H, gc1 H, gc2 H, gc3 H, gc4 H, gc5 H, gc6 H, cl0, cl1, cl2, cl3, cl4, cl5, cl6, cI_e, cV_e, cA_e, cJ_e, lt_, it_add, it_sub]
          rw [s_147 H (by omega) (by omega), show (151 + ((o : Int) - 1) * 11 + 1).toNat = 141 + 11 * o by omega, hz rfl]
          simp only [gO_e (yt29 H), gV_e (yp29_1 H), gc0 H, gc1 H, gc2 H, gc3 H, gc4 H, gc5 H, gc6 H, cl0, cl1, cl2, cl3, cl4, cl5, cl6, cI_e, cV_e, cA_e, cJ_e, lt_]
          by_cases hs : y < 10 + sz
          · rw [if_neg (fun q => by have := (it_le (by omega) (by omega) (by omega) (by omega)).mp q; omega), bi_t (by unfold hasO; omega)]
          · rw [if_pos ((it_le (by omega) (by omega) (by omega) (by omega)).mpr (by omega)), bi_f (by unfold hasO; omega)]
    · rw [if_pos (fun q => by have := (it_eq (by omega) (by omega) (by omega) (by omega)).mp q; omega)]
      by_cases k2' : kd = 2
      · subst k2'
        rw [if_neg (fun q => q rfl)]
        by_cases h1 : y = 1
        · subst h1
          rw [if_pos rfl, bi_t (by unfold hasO; omega)]
        · rw [if_neg (fun q => by have := (it_eq (by omega) (by omega) (by omega) (by omega)).mp q; omega)]
          by_cases h2 : y = 2
          · subst h2
            rw [if_neg (fun q => q rfl), bi_t (by unfold hasO; omega)]
          · rw [if_pos (fun q => by have := (it_eq (by omega) (by omega) (by omega) (by omega)).mp q; omega), bi_f (by unfold hasO; omega)]
      · rw [if_pos (fun q => by have := (it_eq (by omega) (by omega) (by omega) (by omega)).mp q; omega), bi_f (by unfold hasO; omega)]
theorem s_210 {o : Nat} {y : Int} (H : Lay B w) (o1 : 1 ≤ o) (o2 : o ≤ 16) (hy : 0 ≤ y ∧ y ≤ 2 ∨ 10 ≤ y ∧ y ≤ 18) : Cl K (d + 2) 210 [.ref (B + 29), .int (it o), .int (it y)] w I J = some (some (.int (I (B + 30) (if y < 10 then 140 + 11 * o + y.toNat else 132 + 11 * o + y.toNat))), w, I, J) := by
  apply cl_210 (k := 0)
  unfold f_210 f_210_19
  simp only [it_lit]
  rw [s_152]
  simp only [gO_e (yt29 H), gV_e (yp29_1 H), gc0 H, gc1 H, gc2 H, gc3 H, gc4 H, gc5 H, gc6 H, cl0, cl1, cl2, cl3, cl4, cl5, cl6, cI_e, cV_e, cA_e, cJ_e, lt_, it_add, it_sub]
  by_cases h : y < 10
  · rw [if_pos ((it_lt (by omega) (by omega) (by omega) (by omega)).mpr (by omega)), s_147 H (by omega) (by omega), show (151 + ((o : Int) - 1) * 11 + y).toNat = 140 + 11 * o + y.toNat by omega, if_pos h]
    rfl
  · rw [if_neg (fun q => by have := (it_lt (by omega) (by omega) (by omega) (by omega)).mp q; omega), s_147 H (by omega) (by omega), show (151 + ((o : Int) - 1) * 11 + (y - 8)).toNat = 132 + 11 * o + y.toNat by omega, if_neg h]
    rfl
/-- the reference's object -/
theorem m_211 {o kd sz : Nat} {y : Int} (H : Lay B w) (hb : I (B + 46) 42 = it ((1 : Nat) : Int)) (o1 : 1 ≤ o) (o2 : o ≤ 16) (hk : I (B + 65) (154 + 12 * o) = it kd) (k2 : kd ≤ 2) (hz : kd = 1 → I (B + 65) (155 + 12 * o) = it sz) (s9 : sz ≤ 9) (y1 : -2147483648 ≤ y) (y2 : y < 2147483648) :
    (hasO kd sz y → f_211 K 0 (d + 2) (B + 46) (it o) (it y) w I J = some (some (.long (I (B + 65) (if y < 10 then 154 + 12 * o + y.toNat else 147 + 12 * o + y.toNat)).toInt64), w, I, J))
    ∧ (¬ hasO kd sz y → f_211 K 0 (d + 2) (B + 46) (it o) (it y) w I J = some (some (.long (lowk 1)), w, mf B 1 I, J)) := by
  have fin : hasO kd sz y → f_211_91 K 0 (d + 2) (B + 46) (it o) (it y) (it kd) w I J = some (some (.long (I (B + 65) (if y < 10 then 154 + 12 * o + y.toNat else 147 + 12 * o + y.toNat)).toInt64), w, I, J) := by
    intro h
    have hy : 0 ≤ y ∧ y ≤ 2 ∨ 10 ≤ y ∧ y ≤ 18 := by unfold hasO at h; omega
    unfold f_211_91 f_211_96 f_211_130
    simp only [it_lit, gO_e (yt46 H), gV_e (yp46_36 H), it_sub]
    rw [if_pos (by decide)]
    by_cases h10 : y < 10
    · rw [if_neg (fun q => by have := (it_le (by omega) (by omega) (by omega) (by omega)).mp q; omega), s_183]
      simp only [cI_e]
      rw [gA_e (yt65 H) (Or.inl rfl) (ix (by omega) (by omega) (by omega)), it_cl (by omega) (by omega), show (154 + 12 * (o : Int) + y).toNat = 154 + 12 * o + y.toNat by omega, if_pos h10]
    · rw [if_pos ((it_le (by omega) (by omega) (by omega) (by omega)).mpr (by omega)), s_183]
      simp only [cI_e]
      rw [gA_e (yt65 H) (Or.inl rfl) (ix (by omega) (by omega) (by omega)), it_cl (by omega) (by omega), show (154 + 12 * (o : Int) + (y - 7)).toNat = 147 + 12 * o + y.toNat by omega, if_neg h10]
  have bad : f_211_95 K 0 (d + 2) (B + 46) (it o) (it y) (it kd) w I J = some (some (.long (lowk 1)), w, mf B 1 I, J) := by
    unfold f_211_95 f_211_96
    simp only [it_lit, gO_e (yt46 H)]
    rw [if_neg (fun q => q trivial), s_20 H (by omega) (by omega)]
    rfl
  have mid : f_211_77 K 0 (d + 2) (B + 46) (it o) (it y) (it kd) w I J = if kd = 2 ∧ (y = 1 ∨ y = 2) then f_211_91 K 0 (d + 2) (B + 46) (it o) (it y) (it kd) w I J else f_211_95 K 0 (d + 2) (B + 46) (it o) (it y) (it kd) w I J := by
    unfold f_211_77
    simp only [it_lit]
    by_cases h2 : kd = 2
    · subst h2
      rw [if_neg (fun q => q rfl), s_19i (by omega) (by omega) (by omega) (by omega) (by omega) (by omega)]
      simp only [cI_e, bi0]
      by_cases hy : y = 1 ∨ y = 2
      · rw [if_neg (fun q => q (by omega)), if_pos ⟨trivial, hy⟩]
      · rw [if_pos (by omega), if_neg (fun q => hy q.2)]
    · rw [if_pos (fun q => by have := (it_eq (by omega) (by omega) (by omega) (by omega)).mp q; omega), if_neg (fun q => h2 q.1)]
  have pre : f_211 K 0 (d + 2) (B + 46) (it o) (it y) w I J = if it y = it 0 then f_211_91 K 0 (d + 2) (B + 46) (it o) (it y) (it kd) w I J else if ¬ it (kd : Int) = it 1 then f_211_77 K 0 (d + 2) (B + 46) (it o) (it y) (it kd) w I J else if it y = it 1 then f_211_91 K 0 (d + 2) (B + 46) (it o) (it y) (it kd) w I J else (gO w 6 (B + 46) (gV w (B + 46) 36 fun q_11 => cI (Cl K (d + 2) 183 [.int (it o), .int (it 1)] w I J) fun x_15 w_12 I_13 J_14 => gA w_12 10 20 q_11 x_15 (cI (Cl K (d + 2) 19 [.int (it y), .int (it 10), .int (it 9 + I_13 q_11 (x_15 : Int32).toNatClampNeg)] w_12 I_13 J_14) fun x_19 w_16 I_17 J_18 => if ¬ x_19 = it 0 then f_211_91 K 0 (d + 2) (B + 46) (it o) (it y) (it kd) w_16 I_17 J_18 else f_211_77 K 0 (d + 2) (B + 46) (it o) (it y) (it kd) w_16 I_17 J_18))) := by
    unfold f_211
    simp only [it_lit, gO_e (yt46 H), gV_e (yp46_36 H)]
    rw [hb, if_pos (by decide), s_19i (by omega) (by omega) (by omega) (by omega) (by omega) (by omega)]
    simp only [cI_e, bi0, gO_e (yt46 H), gV_e (yp46_36 H)]
    rw [if_pos (fun q => q ⟨by omega, by omega⟩), s_183]
    simp only [cI_e, lt_]
    rw [gA_e (yt65 H) (Or.inl rfl) (ix (by omega) (by omega) (by omega)), it_cl (by omega) (by omega), show (154 + 12 * (o : Int) + 0).toNat = 154 + 12 * o by omega, hk]
    simp only [gO_e (yt46 H), gV_e (yp46_36 H)]
  have row : kd = 1 → ¬ y = 0 → ¬ y = 1 → f_211 K 0 (d + 2) (B + 46) (it o) (it y) w I J = if 10 ≤ y ∧ y < 10 + sz then f_211_91 K 0 (d + 2) (B + 46) (it o) (it y) (it kd) w I J else f_211_77 K 0 (d + 2) (B + 46) (it o) (it y) (it kd) w I J := by
    intro k1 h0 h1
    rw [pre, if_neg (fun q => by have := (it_eq (by omega) (by omega) (by omega) (by omega)).mp q; omega), if_neg (fun q => q (by rw [k1]; rfl)), if_neg (fun q => by have := (it_eq (by omega) (by omega) (by omega) (by omega)).mp q; omega), gO_e (yt46 H), gV_e (yp46_36 H), s_183]
    simp only [cI_e]
    rw [gA_e (yt65 H) (Or.inl rfl) (ix (by omega) (by omega) (by omega)), it_cl (by omega) (by omega), show (154 + 12 * (o : Int) + 1).toNat = 155 + 12 * o by omega, hz k1, it_add, s_19i (by omega) (by omega) (by omega) (by omega) (by omega) (by omega)]
    simp only [cI_e, bi0]
    by_cases h : 10 ≤ y ∧ y < 10 + sz
    · rw [if_pos h, if_pos (fun q => q (by omega))]
    · rw [if_neg h, if_neg (by omega)]
  constructor
  · intro h
    by_cases h0 : y = 0
    · rw [pre, if_pos (by rw [h0])]
      exact fin h
    · by_cases k1 : kd = 1
      · by_cases h1 : y = 1
        · rw [pre, if_neg (fun q => by have := (it_eq (by omega) (by omega) (by omega) (by omega)).mp q; omega), if_neg (fun q => q (by rw [k1]; rfl)), if_pos (by rw [h1])]
          exact fin h
        · rw [row k1 h0 h1, if_pos (by unfold hasO at h; omega)]
          exact fin h
      · rw [pre, if_neg (fun q => by have := (it_eq (by omega) (by omega) (by omega) (by omega)).mp q; omega), if_pos (fun q => by have := (it_eq (by omega) (by omega) (by omega) (by omega)).mp q; omega), mid, if_pos (by unfold hasO at h; omega)]
        exact fin h
  · intro h
    have h0 : ¬ y = 0 := fun e => h (Or.inl e)
    by_cases k1 : kd = 1
    · have h1 : ¬ y = 1 := fun e => h (Or.inr (Or.inl ⟨k1, Or.inl e⟩))
      rw [row k1 h0 h1, if_neg (fun q => h (Or.inr (Or.inl ⟨k1, Or.inr q⟩))), mid, if_neg (by omega)]
      exact bad
    · rw [pre, if_neg (fun q => by have := (it_eq (by omega) (by omega) (by omega) (by omega)).mp q; omega), if_pos (fun q => by have := (it_eq (by omega) (by omega) (by omega) (by omega)).mp q; omega), mid, if_neg (fun q => h (Or.inr (Or.inr q)))]
      exact bad
end OBJ
section PRR
variable {K : Nat → Value} {B d n b L : Nat} {w0 : aW} {I0 : aI} {xs : Nat → Int32}
theorem pr_object (hs : gSc b L B xs w0 I0) (a0 a1 : Int32) : Pr K (d + 20) (rR K B w0 I0 n) (rR K B w0 I0 (n + 1)) (Sc b B (B + 46) L xs) B (B + 46) 208 211 [.int a0, .int a1] := by
  intro w I J hR
  have H := hR.1
  obtain ⟨z, z1, z2, rfl⟩ := it_ex a0
  obtain ⟨y, y1, y2, rfl⟩ := it_ex a1
  obtain ⟨⟨N, F, fa, oc, ar, sh, rc⟩, a, a', bg, ha, p1, p2, p3, TC, gx, gm, b1, b2, b3, b4, b5⟩ := id hR.2.2.2.2.2.2.2.2.2
  by_cases hb : bg = 1
  · subst hb
    obtain ⟨hp, hN, K2⟩ := b5 rfl; obtain ⟨kp, sl, k30, s32, h8, h41, h7, R, M, Hs⟩ := id K2; obtain ⟨⟨hh, fr, hi, pr, m0, m1, m2, m3, m4, m5, m6, m7, m8, m9, m10, m11, m12⟩, aO⟩ := id M
    by_cases hz : 1 ≤ z ∧ z ≤ 16
    · obtain ⟨o, rfl⟩ := z_nat (by omega : 0 ≤ z)
      have ro := R.2.2.2.2.2.2.2.2.2.2 o (by omega) (by omega)
      have hk : ∃ kd sz : Nat, kd ≤ 2 ∧ sz ≤ 9 ∧ I (B + 65) (154 + 12 * o) = it kd ∧ (kd = 1 → I (B + 65) (155 + 12 * o) = it sz) := by
        rcases aO o (by omega) (by omega) with ⟨h, _⟩ | ⟨h, s, h1, h2⟩ | ⟨h, _⟩
        · exact ⟨0, 0, by omega, by omega, h, fun e => by omega⟩
        · exact ⟨1, s, by omega, h1, h, fun _ => h2⟩
        · exact ⟨2, 0, by omega, by omega, h, fun e => by omega⟩
      obtain ⟨kd, sz, k2, s9, hk, hsz⟩ := hk
      have ck : I (B + 30) (140 + 11 * o) = it kd := ro.1.trans hk
      have csz : kd = 1 → I (B + 30) (141 + 11 * o) = it sz := fun e => by
        subst e
        exact ((ro.2.1 hk).1).trans (hsz rfl)
      by_cases hh' : hasO kd sz y
      · have hy : 0 ≤ y ∧ y ≤ 2 ∨ 10 ≤ y ∧ y ≤ 18 := by unfold hasO at hh'; omega
        refine pr_eq hs hR (I (B + 65) (if y < 10 then 154 + 12 * o + y.toNat else 147 + 12 * o + y.toNat)).toInt64 (cl_208 (k := 0) ?_) (cl_211 (k := 0) ((m_211 (d := d + 17) H b3 (by omega) (by omega) hk k2 hsz s9 y1 y2).1 hh'))
        · unfold f_208
          simp only [it_lit, gO_e (yt H), gV_e (yp_4 H), gO_e (yt29 H)]
          rw [b2, if_pos (by decide), if_neg (fun q => by have := (it_lt (by omega) (by omega) (by omega) (by omega)).mp q; omega), if_neg (fun q => by have := (it_lt (by omega) (by omega) (by omega) (by omega)).mp q; omega), s_209 H (by omega) (by omega) ck k2 csz s9 y1 y2]
          simp only [cI_e, gO_e (yt H), gV_e (yp_4 H), gO_e (yt29 H)]
          rw [if_pos (by rw [bi_t hh']; decide), s_210 H (by omega) (by omega) hy]
          simp only [cI_e]
          have ev : I (B + 30) (if y < 10 then 140 + 11 * o + y.toNat else 132 + 11 * o + y.toNat) = I (B + 65) (if y < 10 then 154 + 12 * o + y.toNat else 147 + 12 * o + y.toNat) := by
            rcases hh' with h | ⟨h, h'⟩ | ⟨h, h'⟩
            · subst h
              exact ro.1
            · subst h
              rcases h' with h' | h'
              · subst h'
                rw [if_pos (by omega), if_pos (by omega), show 140 + 11 * o + Int.toNat 1 = 141 + 11 * o by omega, show 154 + 12 * o + Int.toNat 1 = 155 + 12 * o by omega]
                exact (ro.2.1 hk).1
              · rw [if_neg (by omega), if_neg (by omega)]
                have := (ro.2.1 hk).2 (y.toNat - 10) (by rw [hsz rfl, it_toInt (by omega) (by omega)]; omega) (by omega)
                rw [show 142 + 11 * o + (y.toNat - 10) = 132 + 11 * o + y.toNat by omega, show 157 + 12 * o + (y.toNat - 10) = 147 + 12 * o + y.toNat by omega] at this
                exact this
            · subst h
              rcases h' with h' | h'
              · subst h'
                rw [if_pos (by omega), if_pos (by omega), show 140 + 11 * o + Int.toNat 1 = 141 + 11 * o by omega, show 154 + 12 * o + Int.toNat 1 = 155 + 12 * o by omega]
                exact (ro.2.2 hk).1
              · subst h'
                rw [if_pos (by omega), if_pos (by omega), show 140 + 11 * o + Int.toNat 2 = 142 + 11 * o by omega, show 154 + 12 * o + Int.toNat 2 = 156 + 12 * o by omega]
                exact (ro.2.2 hk).2
          rw [ev]
      · refine pr_fd hs hR 1 (by omega) (by omega) (cl_208 (k := 0) ?_) (fun I' hI => cl_211 (k := 0) ((m_211 (d := d + 17) (I := I') (kd := kd) (sz := sz) H (by rw [hI _ (by omega)]; exact b3) (by omega) (by omega) (by rw [hI _ (by omega)]; exact hk) k2 (by rw [hI _ (by omega)]; exact hsz) s9 y1 y2).2 hh'))
        unfold f_208 f_208_37
        simp only [it_lit, gO_e (yt H), gV_e (yp_4 H), gO_e (yt29 H)]
        rw [b2, if_pos (by decide), if_neg (fun q => by have := (it_lt (by omega) (by omega) (by omega) (by omega)).mp q; omega), if_neg (fun q => by have := (it_lt (by omega) (by omega) (by omega) (by omega)).mp q; omega), s_209 H (by omega) (by omega) ck k2 csz s9 y1 y2]
        simp only [cI_e, gO_e (yt H)]
        rw [if_neg (by rw [bi_f hh']; decide), s_17 H (by omega) (by omega)]
        rfl
    · refine pr_fd hs hR 1 (by omega) (by omega) (cl_208 (k := 0) ?_) (fun I' hI => cl_211 (k := 0) ?_)
      · unfold f_208 f_208_37
        simp only [it_lit, gO_e (yt H), gV_e (yp_4 H), gO_e (yt29 H)]
        rw [b2, if_pos (by decide), s_17 H (by omega) (by omega)]
        by_cases h0 : z < 1
        · rw [if_pos ((it_lt (by omega) (by omega) (by omega) (by omega)).mpr (by omega))]; rfl
        · rw [if_neg (fun q => by have := (it_lt (by omega) (by omega) (by omega) (by omega)).mp q; omega), if_pos ((it_lt (by omega) (by omega) (by omega) (by omega)).mpr (by omega))]; rfl
      · have e53 := hI (B + 46) (by omega)
        unfold f_211
        simp only [it_lit, gO_e (yt46 H), e53]
        rw [b3, if_pos (by decide), s_19i (by omega) (by omega) (by omega) (by omega) (by omega) (by omega)]
        simp only [cI_e, bi0, gO_e (yt46 H)]
        rw [if_neg (by omega), s_20 H (by omega) (by omega)]
        rfl
  · have hb0 := bg_01 b1 hb
    subst hb0
    refine pr_fd hs hR 6 (by omega) (by omega) (cl_208 (k := 0) ?_) (fun I' hI => cl_211 (k := 0) ?_)
    · unfold f_208; simp only [it_lit, gO_e (yt H)]; (rw [b2, if_neg (fun q => q rfl), s_17 H (by omega) (by omega)]; rfl)
    · unfold f_211; simp only [it_lit, gO_e (yt46 H)]; (rw [hI (B + 46) (by omega), b3, if_neg (fun q => q rfl), s_20 H (by omega) (by omega)]; rfl)
end PRR

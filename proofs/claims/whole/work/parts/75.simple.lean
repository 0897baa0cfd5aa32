section CALLS
variable {K : Nat → Value} {B d n b L : Nat} {w0 : aW} {I0 : aI} {xs : Nat → Int32}
theorem pr_found (hs : gSc b L B xs w0 I0) (a0 : Int32) : Pr K (d + 20) (rR K B w0 I0 n) (rR K B w0 I0 (n + 1)) (Sc b B (B + 46) L xs) B (B + 46) 239 240 [.int a0] := by
  intro w I J hR
  have H := hR.1
  obtain ⟨z, z1, z2, rfl⟩ := it_ex a0
  by_cases hc : 1 ≤ z ∧ z ≤ 7
  · refine pr_eq hs hR (I (B + 37) z.toNat).toInt64 (cl_239 (k := 0) ?_) (cl_240 (k := 0) ?_)
    · unfold f_239
      simp (disch := omega) only [gO, gV, gA, gL, gC, gY, lt_, cI, cJ, cV, cA, ↓reduceIte, true_or, or_true, true_and, and_true, false_or, or_false, false_and, and_false, not_false_eq_true, not_true_eq_false, it_lit, it_lt, it_le, it_eq, it_add, it_sub, it_mul, it_neg, it_cl, it_nat, yt0 H, yt H, yp0_0 H, yp_0 H, yt1 H, yp0_2 H, yp_2 H, yt2 H, yp0_4 H, yp_4 H, yt29 H, yp0_6 H, yp_6 H, yt36 H, yp0_7 H, yp_7 H, yt37 H]
      repeat (first | rw [if_pos (by omega)] | rw [if_neg (by omega)])
    · unfold f_240
      rw [hR.2.2.2.2.2.1 z.toNat (by omega)]
      simp (disch := omega) only [gO, gV, gA, gL, gC, gY, lt_, cI, cJ, cV, cA, ↓reduceIte, true_or, or_true, true_and, and_true, false_or, or_false, false_and, and_false, not_false_eq_true, not_true_eq_false, it_lit, it_lt, it_le, it_eq, it_add, it_sub, it_mul, it_neg, it_cl, it_nat, yt46 H, yt47 H, yt48 H, yt49 H, yt50 H, yt51 H, yt52 H, yt53 H, yt54 H, yt55 H, yt56 H, yt57 H, yt58 H, yt59 H, yt60 H, yt61 H, yt62 H, yt63 H, yt64 H, yt65 H, yt66 H, yt67 H, yt68 H, yt69 H, yt70 H, yt71 H, yt72 H, yt73 H, yt74 H, yp46_0 H, yp46_1 H, yp46_6 H, yp46_7 H, yp46_8 H, yp46_9 H, yp46_10 H, yp46_11 H, yp46_12 H, yp46_14 H, yp46_15 H, yp46_18 H, yp46_19 H, yp46_20 H, yp46_21 H, yp46_32 H, yp46_33 H, yp46_34 H, yp46_36 H, yp46_37 H, yp46_38 H, yp46_39 H, yp46_40 H, yp46_43 H, yp46_44 H, yp46_45 H, yp46_46 H, yp46_47 H, s_19i, bi0, bi1, nc_c, c_nc]
      repeat (first | rw [if_pos (by omega)] | rw [if_neg (by omega)])
  · refine pr_fd hs hR 1 (by omega) (by omega) (cl_239 (k := 0) ?_) (fun I' hI => cl_240 (k := 0) ?_)
    · unfold f_239 f_239_11
      simp (disch := omega) only [gO, gV, gA, gL, gC, gY, lt_, cI, cJ, cV, cA, ↓reduceIte, true_or, or_true, true_and, and_true, false_or, or_false, false_and, and_false, not_false_eq_true, not_true_eq_false, it_lit, it_lt, it_le, it_eq, it_add, it_sub, it_mul, it_neg, it_cl, it_nat, yt0 H, yt H, yp0_0 H, yp_0 H, yt1 H, yp0_2 H, yp_2 H, yt2 H, yp0_4 H, yp_4 H, yt29 H, yp0_6 H, yp_6 H, yt36 H, yp0_7 H, yp_7 H, yt37 H, s_17 H]
      by_cases h0 : z < 1
      · repeat (first | rw [if_pos (by omega)] | rw [if_neg (by omega)])
      · repeat (first | rw [if_pos (by omega)] | rw [if_neg (by omega)])
    · unfold f_240
      simp (disch := omega) only [gO, gV, gA, gL, gC, gY, lt_, cI, cJ, cV, cA, ↓reduceIte, true_or, or_true, true_and, and_true, false_or, or_false, false_and, and_false, not_false_eq_true, not_true_eq_false, it_lit, it_lt, it_le, it_eq, it_add, it_sub, it_mul, it_neg, it_cl, it_nat, yt46 H, yt47 H, yt48 H, yt49 H, yt50 H, yt51 H, yt52 H, yt53 H, yt54 H, yt55 H, yt56 H, yt57 H, yt58 H, yt59 H, yt60 H, yt61 H, yt62 H, yt63 H, yt64 H, yt65 H, yt66 H, yt67 H, yt68 H, yt69 H, yt70 H, yt71 H, yt72 H, yt73 H, yt74 H, yp46_0 H, yp46_1 H, yp46_6 H, yp46_7 H, yp46_8 H, yp46_9 H, yp46_10 H, yp46_11 H, yp46_12 H, yp46_14 H, yp46_15 H, yp46_18 H, yp46_19 H, yp46_20 H, yp46_21 H, yp46_32 H, yp46_33 H, yp46_34 H, yp46_36 H, yp46_37 H, yp46_38 H, yp46_39 H, yp46_40 H, yp46_43 H, yp46_44 H, yp46_45 H, yp46_46 H, yp46_47 H, s_19i, bi0, bi1, nc_c, c_nc, s_20 H]
      repeat (first | rw [if_pos (by omega)] | rw [if_neg (by omega)])
theorem pr_fault (hs : gSc b L B xs w0 I0) (a0 : Int32) : Pr K (d + 20) (rR K B w0 I0 n) (rR K B w0 I0 (n + 1)) (Sc b B (B + 46) L xs) B (B + 46) 123 124 [.int a0] := by
  intro w I J hR
  have H := hR.1
  have hl := hR.2.2.2.2.2.2.1
  obtain ⟨z, z1, z2, rfl⟩ := it_ex a0
  by_cases h0 : z = 0
  · refine pr_eq hs hR (I B 8).toInt64 (cl_123 (k := 0) ?_) (cl_124 (k := 0) ?_)
    · unfold f_123
      simp (disch := omega) only [gO, gV, gA, gL, gC, gY, lt_, cI, cJ, cV, cA, ↓reduceIte, true_or, or_true, true_and, and_true, false_or, or_false, false_and, and_false, not_false_eq_true, not_true_eq_false, it_lit, it_lt, it_le, it_eq, it_add, it_sub, it_mul, it_neg, it_cl, it_nat, yt0 H, yt H, yp0_0 H, yp_0 H, yt1 H, yp0_2 H, yp_2 H, yt2 H, yp0_4 H, yp_4 H, yt29 H, yp0_6 H, yp_6 H, yt36 H, yp0_7 H, yp_7 H, yt37 H]
      repeat (first | rw [if_pos (by omega)] | rw [if_neg (by omega)])
    · unfold f_124
      rw [hl.1]
      simp (disch := omega) only [gO, gV, gA, gL, gC, gY, lt_, cI, cJ, cV, cA, ↓reduceIte, true_or, or_true, true_and, and_true, false_or, or_false, false_and, and_false, not_false_eq_true, not_true_eq_false, it_lit, it_lt, it_le, it_eq, it_add, it_sub, it_mul, it_neg, it_cl, it_nat, yt46 H, yt47 H, yt48 H, yt49 H, yt50 H, yt51 H, yt52 H, yt53 H, yt54 H, yt55 H, yt56 H, yt57 H, yt58 H, yt59 H, yt60 H, yt61 H, yt62 H, yt63 H, yt64 H, yt65 H, yt66 H, yt67 H, yt68 H, yt69 H, yt70 H, yt71 H, yt72 H, yt73 H, yt74 H, yp46_0 H, yp46_1 H, yp46_6 H, yp46_7 H, yp46_8 H, yp46_9 H, yp46_10 H, yp46_11 H, yp46_12 H, yp46_14 H, yp46_15 H, yp46_18 H, yp46_19 H, yp46_20 H, yp46_21 H, yp46_32 H, yp46_33 H, yp46_34 H, yp46_36 H, yp46_37 H, yp46_38 H, yp46_39 H, yp46_40 H, yp46_43 H, yp46_44 H, yp46_45 H, yp46_46 H, yp46_47 H]
      repeat (first | rw [if_pos (by omega)] | rw [if_neg (by omega)])
  · by_cases h1 : z = 1
    · refine pr_eq hs hR (I B 9).toInt64 (cl_123 (k := 0) ?_) (cl_124 (k := 0) ?_)
      · unfold f_123
        simp (disch := omega) only [gO, gV, gA, gL, gC, gY, lt_, cI, cJ, cV, cA, ↓reduceIte, true_or, or_true, true_and, and_true, false_or, or_false, false_and, and_false, not_false_eq_true, not_true_eq_false, it_lit, it_lt, it_le, it_eq, it_add, it_sub, it_mul, it_neg, it_cl, it_nat, yt0 H, yt H, yp0_0 H, yp_0 H, yt1 H, yp0_2 H, yp_2 H, yt2 H, yp0_4 H, yp_4 H, yt29 H, yp0_6 H, yp_6 H, yt36 H, yp0_7 H, yp_7 H, yt37 H]
        repeat (first | rw [if_pos (by omega)] | rw [if_neg (by omega)])
      · unfold f_124
        rw [hl.2]
        simp (disch := omega) only [gO, gV, gA, gL, gC, gY, lt_, cI, cJ, cV, cA, ↓reduceIte, true_or, or_true, true_and, and_true, false_or, or_false, false_and, and_false, not_false_eq_true, not_true_eq_false, it_lit, it_lt, it_le, it_eq, it_add, it_sub, it_mul, it_neg, it_cl, it_nat, yt46 H, yt47 H, yt48 H, yt49 H, yt50 H, yt51 H, yt52 H, yt53 H, yt54 H, yt55 H, yt56 H, yt57 H, yt58 H, yt59 H, yt60 H, yt61 H, yt62 H, yt63 H, yt64 H, yt65 H, yt66 H, yt67 H, yt68 H, yt69 H, yt70 H, yt71 H, yt72 H, yt73 H, yt74 H, yp46_0 H, yp46_1 H, yp46_6 H, yp46_7 H, yp46_8 H, yp46_9 H, yp46_10 H, yp46_11 H, yp46_12 H, yp46_14 H, yp46_15 H, yp46_18 H, yp46_19 H, yp46_20 H, yp46_21 H, yp46_32 H, yp46_33 H, yp46_34 H, yp46_36 H, yp46_37 H, yp46_38 H, yp46_39 H, yp46_40 H, yp46_43 H, yp46_44 H, yp46_45 H, yp46_46 H, yp46_47 H]
        repeat (first | rw [if_pos (by omega)] | rw [if_neg (by omega)])
    · refine pr_fd hs hR 1 (by omega) (by omega) (cl_123 (k := 0) ?_) (fun I' hI => cl_124 (k := 0) ?_)
      · unfold f_123
        simp (disch := omega) only [gO, gV, gA, gL, gC, gY, lt_, cI, cJ, cV, cA, ↓reduceIte, true_or, or_true, true_and, and_true, false_or, or_false, false_and, and_false, not_false_eq_true, not_true_eq_false, it_lit, it_lt, it_le, it_eq, it_add, it_sub, it_mul, it_neg, it_cl, it_nat, yt0 H, yt H, yp0_0 H, yp_0 H, yt1 H, yp0_2 H, yp_2 H, yt2 H, yp0_4 H, yp_4 H, yt29 H, yp0_6 H, yp_6 H, yt36 H, yp0_7 H, yp_7 H, yt37 H, s_17 H]
        repeat (first | rw [if_pos (by omega)] | rw [if_neg (by omega)])
      · unfold f_124
        simp (disch := omega) only [gO, gV, gA, gL, gC, gY, lt_, cI, cJ, cV, cA, ↓reduceIte, true_or, or_true, true_and, and_true, false_or, or_false, false_and, and_false, not_false_eq_true, not_true_eq_false, it_lit, it_lt, it_le, it_eq, it_add, it_sub, it_mul, it_neg, it_cl, it_nat, yt46 H, yt47 H, yt48 H, yt49 H, yt50 H, yt51 H, yt52 H, yt53 H, yt54 H, yt55 H, yt56 H, yt57 H, yt58 H, yt59 H, yt60 H, yt61 H, yt62 H, yt63 H, yt64 H, yt65 H, yt66 H, yt67 H, yt68 H, yt69 H, yt70 H, yt71 H, yt72 H, yt73 H, yt74 H, yp46_0 H, yp46_1 H, yp46_6 H, yp46_7 H, yp46_8 H, yp46_9 H, yp46_10 H, yp46_11 H, yp46_12 H, yp46_14 H, yp46_15 H, yp46_18 H, yp46_19 H, yp46_20 H, yp46_21 H, yp46_32 H, yp46_33 H, yp46_34 H, yp46_36 H, yp46_37 H, yp46_38 H, yp46_39 H, yp46_40 H, yp46_43 H, yp46_44 H, yp46_45 H, yp46_46 H, yp46_47 H, s_20 H]
        repeat (first | rw [if_pos (by omega)] | rw [if_neg (by omega)])
end CALLS

section PRX
variable {K : Nat → Value} {B d s m a N F hi pr j f p b : Nat} {fa : Nat → Nat → Nat} {oc ar : Nat → Nat} {sh : Nat → List Nat} {rc : Nat → Bool} {w : aW} {I I' : aI} {J : aJ} {c n : Nat → Int32}
theorem s_129 {N : Nat} {z : Int} (H : Lay B w) (h17 : I (B + 46) 17 = it N) (n2 : N ≤ 200) (z1 : -2147483648 ≤ z) (z2 : z < 2147483648) : Cl K (d + 2) 129 [.ref (B + 46), .int (it z)] w I J = some (some (.int (bi (0 ≤ z ∧ z < N))), w, I, J) := by
  apply cl_129 (k := 0)
  unfold f_129
  simp only [it_lit, gO_e (yt46 H), h17, it_sub]
  rw [s_19i z1 z2 (by omega) (by omega) (by omega) (by omega)]
  simp only [cI_e]
  by_cases h : 0 ≤ z ∧ z < N
  · rw [bi_t h, bi_t (show 0 ≤ z ∧ z ≤ (N : Int) - 1 by omega), gC_e (Or.inr rfl)]
  · rw [bi_f h, bi_f (show ¬ (0 ≤ z ∧ z ≤ (N : Int) - 1) by omega), gC_e (Or.inl rfl)]
/-- kinds of ops -/
def asK (o : Nat) (z : Int) : Prop := z = 0 ∨ z = 1 ∧ (o = 23 ∨ o = 24) ∨ z = 2 ∧ 4 ≤ o ∧ o ≤ 20 ∨ z = 3 ∧ o = 4
theorem s_131 {o : Nat} {z : Int} (h1 : 0 ≤ z) (h2 : z ≤ 3) (o2 : o ≤ 27) : Cl K (d + 1) 131 [.int (it o), .int (it z)] w I J = some (some (.int (bi (asK o z))), w, I, J) := by
  apply cl_131 (k := 0)
  unfold f_131
  simp only [it_lit]
  have h : z = 0 ∨ z = 1 ∨ z = 2 ∨ z = 3 := by omega
  rcases h with rfl | rfl | rfl | rfl
  · rw [if_pos (by decide), bi_t (by unfold asK; omega)]
  · rw [if_neg (by decide), if_pos (by decide)]
    by_cases e : o = 23
    · rw [if_pos (by rw [e]; rfl), bi_t (by unfold asK; omega)]
    · rw [if_neg (fun q => by have := (it_eq (by omega) (by omega) (by omega) (by omega)).mp q; omega)]
      by_cases e2 : o = 24
      · rw [if_neg (fun q => q (by rw [e2]; rfl)), bi_t (by unfold asK; omega)]
      · rw [if_pos (fun q => by have := (it_eq (by omega) (by omega) (by omega) (by omega)).mp q; omega), bi_f (by unfold asK; omega)]
  · rw [if_neg (by decide), if_neg (by decide), if_pos (by decide)]
    by_cases e : o < 4
    · rw [if_pos ((it_lt (by omega) (by omega) (by omega) (by omega)).mpr (by omega)), bi_f (by unfold asK; omega)]
    · rw [if_neg (fun q => by have := (it_lt (by omega) (by omega) (by omega) (by omega)).mp q; omega)]
      by_cases e2 : 20 < o
      · rw [if_pos ((it_lt (by omega) (by omega) (by omega) (by omega)).mpr (by omega)), bi_f (by unfold asK; omega)]
      · rw [if_neg (fun q => by have := (it_lt (by omega) (by omega) (by omega) (by omega)).mp q; omega), bi_t (by unfold asK; omega)]
  · rw [if_neg (by decide), if_neg (by decide), if_neg (by decide)]
    by_cases e : o = 4
    · rw [if_neg (fun q => q (by rw [e]; rfl)), bi_t (by unfold asK; omega)]
    · rw [if_pos (fun q => by have := (it_eq (by omega) (by omega) (by omega) (by omega)).mp q; omega), bi_f (by unfold asK; omega)]
theorem m_132 {o : Nat} {z : Int} {l1 : Int32} (H : Lay B w) (h1 : 0 ≤ z) (h2 : z ≤ 3) (o2 : o ≤ 27) : (if it z = it 0 then f_132_75 K 0 (d + 1) (B + 46) l1 (it z) (it o) w I J else if ¬ it z = it 1 then f_132_50 K 0 (d + 1) (B + 46) l1 (it z) (it o) w I J else cI (Cl K (d + 1) 19 [.int (it o), .int (it 23), .int (it 24)] w I J) fun x_14 w_11 I_12 J_13 => if ¬ x_14 = it 0 then f_132_75 K 0 (d + 1) (B + 46) l1 (it z) (it o) w_11 I_12 J_13 else f_132_50 K 0 (d + 1) (B + 46) l1 (it z) (it o) w_11 I_12 J_13) = f_132_80 K 0 (d + 1) (B + 46) l1 (it z) (it o) (bi (asK o z)) w I J := by
  have h : z = 0 ∨ z = 1 ∨ z = 2 ∨ z = 3 := by omega
  rcases h with rfl | rfl | rfl | rfl
  · rw [if_pos (by decide), bi_t (by unfold asK; omega)]; rfl
  · rw [if_neg (by decide), if_neg (fun q => q (by decide)), s_19i (by omega) (by omega) (by omega) (by omega) (by omega) (by omega)]
    simp only [cI_e]
    by_cases e : 23 ≤ o ∧ o ≤ 24
    · rw [if_pos (by rw [bi_t (by omega)]; decide), bi_t (by unfold asK; omega)]; rfl
    · rw [if_neg (by rw [bi_f (by omega)]; decide), bi_f (by unfold asK; omega)]
      unfold f_132_50 f_132_65
      simp only [it_lit]
      rw [if_pos (by decide), if_pos (by decide)]
      rfl
  · rw [if_neg (by decide), if_pos (by decide)]
    unfold f_132_50 f_132_65
    simp only [it_lit]
    rw [if_neg (fun q => q (by decide)), s_19i (by omega) (by omega) (by omega) (by omega) (by omega) (by omega)]
    simp only [cI_e]
    by_cases e : 4 ≤ o ∧ o ≤ 20
    · rw [if_pos (by rw [bi_t (by omega)]; decide), bi_t (by unfold asK; omega)]; rfl
    · rw [if_neg (by rw [bi_f (by omega)]; decide), bi_f (by unfold asK; omega), if_pos (by decide)]; rfl
  · rw [if_neg (by decide), if_pos (by decide)]
    unfold f_132_50 f_132_65
    simp only [it_lit]
    rw [if_pos (by decide), if_neg (fun q => q (by decide))]
    by_cases e : o = 4
    · rw [if_neg (fun q => q (by rw [e]; rfl)), bi_t (by unfold asK; omega)]; rfl
    · rw [if_pos (fun q => by have := (it_eq (by omega) (by omega) (by omega) (by omega)).mp q; omega), bi_f (by unfold asK; omega)]; rfl
theorem gPk_app : ∀ (s : List Nat) (t : Nat), gPk (t :: s) = gPk s * 5 + Int64.ofInt t + 1 := fun s t => rfl
/-- the reference's shape, number by number -/
theorem l_135 {p N : Nat} {sh : List Nat} (H : Lay B w) (pN : p < 200) (h69 : I (B + 62) p = it sh.length) (hl : sh.length ≤ 60) (t9 : ∀ t ∈ sh, t ≤ 9) (h70 : ∀ k, k < sh.length → I (B + 63) (64 * p + k) = it (sh.reverse.getD k 0)) : ∀ (m k : Nat), k + m = sh.length → f_135_32 K (m + 1) d (B + 46) (it p) (gPk (sh.drop m)) (it k) w I J = some (some (.long (gPk sh)), w, I, J) := by
  intro m
  induction m with
  | zero =>
    intro k hk
    rw [f_135_32]
    simp only [it_lit, lt_p, gO_e (yt46 H), gV_e (yp46_32 H)]
    rw [gA_e (yt62 H) (Or.inl rfl) (ix (by omega) (by omega) (by omega)), it_n (k := p) (by omega), h69, if_pos ((it_le (by omega) (by omega) (by omega) (by omega)).mpr (by omega)), List.drop_zero]
  | succ m ih =>
    intro k hk
    rw [f_135_32]
    simp only [it_lit, lt_p, gO_e (yt46 H), gV_e (yp46_32 H), gV_e (yp46_33 H), it_mul, it_add]
    rw [gA_e (yt62 H) (Or.inl rfl) (ix (by omega) (by omega) (by omega)), it_n (k := p) (by omega), h69, if_neg (fun q => by have := (it_le (by omega) (by omega) (by omega) (by omega)).mp q; omega), gA_e (yt63 H) (Or.inl rfl) (ix (by omega) (by omega) (by omega)), it_cl (a := 64 * (p : Int) + k) (by omega) (by omega), show (64 * (p : Int) + k).toNat = 64 * p + k by omega, h70 k (by omega)]
    have hm : m < sh.length := by omega
    have e1 : sh.drop m = sh[m] :: sh.drop (m + 1) := (List.drop_eq_getElem_cons hm)
    have e2 : sh.reverse.getD k 0 = sh[m] := by
      rw [List.getD_eq_getElem?_getD, List.getElem?_reverse (by omega), show sh.length - 1 - k = m by omega, List.getElem?_eq_getElem hm]
      rfl
    have ht : sh[m] ≤ 9 := t9 _ (List.getElem_mem hm)
    have e3 : 5 * gPk (sh.drop (m + 1)) + (it (sh.reverse.getD k 0 : Nat)).toInt64 + 1 = gPk (sh.drop m) := by
      rw [e1, gPk_app, e2, it_64 (by omega) (by omega), Int64.mul_comm]
    rw [e3]
    exact ih (k + 1) (by omega)
end PRX
section PRX
variable {K : Nat → Value} {B d n b L : Nat} {w0 : aW} {I0 : aI} {xs : Nat → Int32}
theorem pr_all (hs : gSc b L B xs w0 I0) (a0 : Int32) : Pr K (d + 20) (rR K B w0 I0 n) (rR K B w0 I0 (n + 1)) (Sc b B (B + 46) L xs) B (B + 46) 241 242 [.int a0] := by
  intro w I J hR
  have H := hR.1
  obtain ⟨z, z1, z2, rfl⟩ := it_ex a0
  obtain ⟨⟨N, F, fa, oc, ar, sh, rc⟩, a, a', bg, ha, p1, p2, p3, TC, gx, gm, b1, b2, b3, b4, b5⟩ := id hR.2.2.2.2.2.2.2.2.2
  obtain ⟨t, t1, t2, t3, t4⟩ := hR.2.2.2.2.2.2.2.1
  have hP := PLx H (or_a ha)
  by_cases h0 : z = 0
  · subst h0
    refine pr_eq hs hR (it t).toInt64 (cl_241 (k := 0) ?_) (cl_242 (k := 0) ?_)
    · unfold f_241; simp only [it_lit, gO_e (yt H)]; rw [if_pos (by decide), t2]
    · unfold f_242; simp only [it_lit, gO_e (yt46 H)]; rw [if_pos (by decide), t3]
  · by_cases h1 : z = 1
    · subst h1
      refine pr_eq hs hR (it N).toInt64 (cl_241 (k := 0) ?_) (cl_242 (k := 0) ?_)
      · unfold f_241; simp only [it_lit, gO_e (yt H), gV_e p1, gO_e hP.1]; rw [if_neg (by decide), if_pos (by decide), gx.1]
      · unfold f_242; simp only [it_lit, gO_e (yt46 H)]; rw [if_neg (by decide), if_pos (by decide), gm.1]
    · by_cases h2 : z = 2
      · subst h2
        refine pr_eq hs hR (it F).toInt64 (cl_241 (k := 0) ?_) (cl_242 (k := 0) ?_)
        · unfold f_241; simp only [it_lit, gO_e (yt H), gV_e p1, gO_e hP.1]; rw [if_neg (by decide), if_neg (by decide), if_pos (by decide), gx.2.1]
        · unfold f_242; simp only [it_lit, gO_e (yt46 H)]; rw [if_neg (by decide), if_neg (by decide), if_pos (by decide), gm.2.1]
      · by_cases h3 : z = 3
        · subst h3
          have hb : bg = 0 ∨ bg = 1 := by omega
          rcases hb with rfl | rfl
          · refine pr_eq hs hR 0 (cl_241 (k := 0) ?_) (cl_242 (k := 0) ?_)
            · unfold f_241; simp only [it_lit, gO_e (yt H)]; rw [if_neg (by decide), if_neg (by decide), if_neg (by decide), if_pos (by decide), b2, if_pos (by decide)]
            · unfold f_242; simp only [it_lit, gO_e (yt46 H)]; rw [if_neg (by decide), if_neg (by decide), if_neg (by decide), if_pos (by decide), b3, if_pos (by decide)]
          · refine pr_eq hs hR 1 (cl_241 (k := 0) ?_) (cl_242 (k := 0) ?_)
            · unfold f_241; simp only [it_lit, gO_e (yt H)]; rw [if_neg (by decide), if_neg (by decide), if_neg (by decide), if_pos (by decide), b2, if_neg (by decide)]
            · unfold f_242; simp only [it_lit, gO_e (yt46 H)]; rw [if_neg (by decide), if_neg (by decide), if_neg (by decide), if_pos (by decide), b3, if_neg (by decide)]
        · refine pr_fd hs hR 1 (by omega) (by omega) (cl_241 (k := 0) ?_) (fun I' hI => cl_242 (k := 0) ?_)
          · unfold f_241; simp only [it_lit, gO_e (yt H)]; rw [if_neg (fun q => by have := (it_eq (by omega) (by omega) (by omega) (by omega)).mp q; omega), if_neg (fun q => by have := (it_eq (by omega) (by omega) (by omega) (by omega)).mp q; omega), if_neg (fun q => by have := (it_eq (by omega) (by omega) (by omega) (by omega)).mp q; omega), if_neg (fun q => by have := (it_eq (by omega) (by omega) (by omega) (by omega)).mp q; omega), s_17 H (by omega) (by omega)]; rfl
          · unfold f_242; simp only [it_lit, gO_e (yt46 H)]; rw [if_neg (fun q => by have := (it_eq (by omega) (by omega) (by omega) (by omega)).mp q; omega), if_neg (fun q => by have := (it_eq (by omega) (by omega) (by omega) (by omega)).mp q; omega), if_neg (fun q => by have := (it_eq (by omega) (by omega) (by omega) (by omega)).mp q; omega), if_neg (fun q => by have := (it_eq (by omega) (by omega) (by omega) (by omega)).mp q; omega), s_20 H (by omega) (by omega)]; rfl
theorem pr_code (hs : gSc b L B xs w0 I0) (a0 a1 : Int32) (ht : a1 = 0 ∨ a1 = 1) : Pr K (d + 20) (rR K B w0 I0 n) (rR K B w0 I0 (n + 1)) (Sc b B (B + 46) L xs) B (B + 46) 125 128 [.int a0, .int a1] := by
  intro w I J hR
  have H := hR.1
  obtain ⟨z, z1, z2, rfl⟩ := it_ex a0
  obtain ⟨⟨N, F, fa, oc, ar, sh, rc⟩, a, a', bg, ha, p1, p2, p3, TC, gx, gm, b1, b2, b3, b4, b5⟩ := id hR.2.2.2.2.2.2.2.2.2
  obtain ⟨g1, g2, g3, g4, g5, g6, g7, g8, g9⟩ := tc_g TC
  have hP := PLx H (or_a ha)
  by_cases hz : 0 ≤ z ∧ z < N
  · obtain ⟨p, rfl⟩ := z_nat hz.1
    have x3 := gx.2.2.1 p (by omega)
    have y3 := gm.2.2.1 p (by omega)
    rcases ht with rfl | rfl
    · refine pr_eq hs hR (it (oc p)).toInt64 (cl_125 (k := 0) ?_) (cl_128 (k := 0) ?_)
      · unfold f_125
        simp only [it_lit, gO_e (yt H), gV_e p1, gO_e hP.1]
        rw [s_61 hP gx.1 (by omega) z1 z2]
        simp only [cI_e, gO_e (yt H), gV_e p1, gO_e hP.1]
        rw [if_pos (by rw [bi_t (by omega)]; decide), if_pos (by decide), s_127 hP gx.1 (by omega) (by omega) (by omega) (by omega), Int.toNat_natCast, x3.1]
        rfl
      · unfold f_128
        simp only [it_lit, gO_e (yt46 H)]
        rw [s_129 H gm.1 g1 z1 z2]
        simp only [cI_e, gO_e (yt46 H), gV_e (yp46_19 H)]
        rw [if_pos (by rw [bi_t (by omega)]; decide), if_pos (by decide), gA_e (yt59 H) (Or.inl rfl) (ix (by omega) (by omega) (by omega)), it_n (k := p) (by omega), y3.1]
    · refine pr_eq hs hR (it (ar p)).toInt64 (cl_125 (k := 0) ?_) (cl_128 (k := 0) ?_)
      · unfold f_125
        simp only [it_lit, gO_e (yt H), gV_e p1, gO_e hP.1]
        rw [s_61 hP gx.1 (by omega) z1 z2]
        simp only [cI_e, gO_e (yt H), gV_e p1, gO_e hP.1]
        rw [if_pos (by rw [bi_t (by omega)]; decide), if_neg (by decide), s_126 hP gx.1 (by omega) (by omega) (by omega) (by omega), Int.toNat_natCast, x3.2.1]
        rfl
      · unfold f_128
        simp only [it_lit, gO_e (yt46 H)]
        rw [s_129 H gm.1 g1 z1 z2]
        simp only [cI_e, gO_e (yt46 H), gV_e (yp46_20 H)]
        rw [if_pos (by rw [bi_t (by omega)]; decide), if_neg (by decide), gA_e (yt60 H) (Or.inl rfl) (ix (by omega) (by omega) (by omega)), it_n (k := p) (by omega), y3.2.1]
  · refine pr_fd hs hR 1 (by omega) (by omega) (cl_125 (k := 0) ?_) (fun I' hI => cl_128 (k := 0) ?_)
    · unfold f_125
      simp only [it_lit, gO_e (yt H), gV_e p1, gO_e hP.1]
      rw [s_61 hP gx.1 (by omega) z1 z2]
      simp only [cI_e, gO_e (yt H)]
      rw [if_neg (by rw [bi_f (by omega)]; decide), s_17 H (by omega) (by omega)]
      rfl
    · unfold f_128
      simp only [it_lit, gO_e (yt46 H)]
      rw [s_129 H (N := N) (by rw [hI _ (by omega)]; exact gm.1) g1 z1 z2]
      simp only [cI_e, gO_e (yt46 H)]
      rw [if_neg (by rw [bi_f hz]; decide), s_20 H (by omega) (by omega)]
      rfl
theorem oc_27 {p N F : Nat} {fa : Nat → Nat → Nat} {oc ar : Nat → Nat} {sh : Nat → List Nat} {rc : Nat → Bool} (TC : gTC (N, F, fa, oc, ar, sh, rc)) (h : p < N) : oc p ≤ 27 := (TC.2.2.2.2.2.2 p h).1
theorem sh_9 {p N F : Nat} {fa : Nat → Nat → Nat} {oc ar : Nat → Nat} {sh : Nat → List Nat} {rc : Nat → Bool} (TC : gTC (N, F, fa, oc, ar, sh, rc)) (h : p < N) : ∀ t ∈ sh p, t ≤ 9 := fun t ht => by have := (TC.2.2.2.2.2.2 p h).2 t ht; omega
theorem pr_as (hs : gSc b L B xs w0 I0) (a0 a1 : Int32) : Pr K (d + 20) (rR K B w0 I0 n) (rR K B w0 I0 (n + 1)) (Sc b B (B + 46) L xs) B (B + 46) 130 132 [.int a0, .int a1] := by
  intro w I J hR
  have H := hR.1
  obtain ⟨z, z1, z2, rfl⟩ := it_ex a0
  obtain ⟨y, y1, y2, rfl⟩ := it_ex a1
  obtain ⟨⟨N, F, fa, oc, ar, sh, rc⟩, a, a', bg, ha, p1, p2, p3, TC, gx, gm, b1, b2, b3, b4, b5⟩ := id hR.2.2.2.2.2.2.2.2.2
  obtain ⟨g1, g2, g3, g4, g5, g6, g7, g8, g9⟩ := tc_g TC
  have hP := PLx H (or_a ha)
  by_cases hz : 0 ≤ z ∧ z < N
  · obtain ⟨p, rfl⟩ := z_nat hz.1
    have x3 := gx.2.2.1 p (by omega)
    have y3 := gm.2.2.1 p (by omega)
    have o27 : oc p ≤ 27 := oc_27 TC (by omega)
    by_cases hy : 0 ≤ y ∧ y ≤ 3
    · have preM : ∀ I' : aI, (∀ a, ¬ a = B + 37 → I' a = I a) → f_132 K 0 (d + 19) (B + 46) (it p) (it y) w I' J = f_132_80 K 0 (d + 19) (B + 46) (it p) (it y) (it (oc p)) (bi (asK (oc p) y)) w I' J := by
        intro I' hI
        unfold f_132
        simp only [it_lit, gO_e (yt46 H)]
        rw [s_129 H (N := N) (by rw [hI _ (by omega)]; exact gm.1) g1 z1 z2]
        simp only [cI_e]
        rw [if_neg (by rw [bi_t hz]; decide), s_19i y1 y2 (by omega) (by omega) (by omega) (by omega)]
        simp only [cI_e, gO_e (yt46 H), gV_e (yp46_19 H)]
        rw [if_pos (by rw [bi_t hy]; decide), gA_e (yt59 H) (Or.inl rfl) (ix (by omega) (by omega) (by omega)), it_n (k := p) (by omega), hI (B + 59) (by omega), y3.1]
        simp only [lt_]
        exact m_132 (d := d + 18) H hy.1 hy.2 o27
      by_cases hk : asK (oc p) y
      · refine pr_eq hs hR (it (oc p)).toInt64 (cl_130 (k := 0) ?_) (cl_132 (k := 0) ((preM I (fun _ _ => rfl)).trans ?_))
        · unfold f_130
          simp only [it_lit, gO_e (yt H), gV_e p1, gO_e hP.1]
          rw [s_61 hP gx.1 (by omega) z1 z2]
          simp only [cI_e, gO_e (yt H), gV_e p1, gO_e hP.1]
          rw [if_neg (by rw [bi_t (by omega)]; decide), if_neg (fun q => by have := (it_lt (by omega) (by omega) (by omega) (by omega)).mp q; omega), if_pos ((it_le (by omega) (by omega) (by omega) (by omega)).mpr (by omega)), s_127 hP gx.1 (by omega) (by omega) (by omega) (by omega), Int.toNat_natCast, x3.1]
          simp only [cI_e]
          rw [s_131 hy.1 hy.2 o27]
          simp only [cI_e]
          rw [if_neg (by rw [bi_t hk]; decide)]
        · unfold f_132_80
          simp only [it_lit]
          rw [if_neg (by rw [bi_t hk]; decide)]
      · refine pr_fd hs hR 4 (by omega) (by omega) (cl_130 (k := 0) ?_) (fun I' hI => cl_132 (k := 0) ((preM I' hI).trans ?_))
        · unfold f_130
          simp only [it_lit, gO_e (yt H), gV_e p1, gO_e hP.1]
          rw [s_61 hP gx.1 (by omega) z1 z2]
          simp only [cI_e, gO_e (yt H), gV_e p1, gO_e hP.1]
          rw [if_neg (by rw [bi_t (by omega)]; decide), if_neg (fun q => by have := (it_lt (by omega) (by omega) (by omega) (by omega)).mp q; omega), if_pos ((it_le (by omega) (by omega) (by omega) (by omega)).mpr (by omega)), s_127 hP gx.1 (by omega) (by omega) (by omega) (by omega), Int.toNat_natCast, x3.1]
          simp only [cI_e]
          rw [s_131 hy.1 hy.2 o27]
          simp only [cI_e, gO_e (yt H)]
          rw [if_pos (by rw [bi_f hk]), s_17 H (by omega) (by omega)]
          rfl
        · unfold f_132_80
          simp only [it_lit, gO_e (yt46 H)]
          rw [if_pos (by rw [bi_f hk]), s_20 H (by omega) (by omega)]
          rfl
    · refine pr_fd hs hR 1 (by omega) (by omega) (cl_130 (k := 0) ?_) (fun I' hI => cl_132 (k := 0) ?_)
      · unfold f_130 f_130_20
        simp only [it_lit, gO_e (yt H), gV_e p1, gO_e hP.1]
        rw [s_61 hP gx.1 (by omega) z1 z2]
        simp only [cI_e, gO_e (yt H)]
        rw [if_neg (by rw [bi_t (by omega)]; decide), s_17 H (by omega) (by omega)]
        by_cases h0 : y < 0
        · rw [if_pos ((it_lt (by omega) (by omega) (by omega) (by omega)).mpr (by omega))]; rfl
        · rw [if_neg (fun q => by have := (it_lt (by omega) (by omega) (by omega) (by omega)).mp q; omega), if_neg (fun q => by have := (it_le (by omega) (by omega) (by omega) (by omega)).mp q; omega)]; rfl
      · unfold f_132 f_132_17
        simp only [it_lit, gO_e (yt46 H)]
        rw [s_129 H (N := N) (by rw [hI _ (by omega)]; exact gm.1) g1 z1 z2]
        simp only [cI_e]
        rw [if_neg (by rw [bi_t hz]; decide), s_19i y1 y2 (by omega) (by omega) (by omega) (by omega)]
        simp only [cI_e, gO_e (yt46 H)]
        rw [if_neg (by rw [bi_f hy]; decide), s_20 H (by omega) (by omega)]
        rfl
  · refine pr_fd hs hR 1 (by omega) (by omega) (cl_130 (k := 0) ?_) (fun I' hI => cl_132 (k := 0) ?_)
    · unfold f_130 f_130_20
      simp only [it_lit, gO_e (yt H), gV_e p1, gO_e hP.1]
      rw [s_61 hP gx.1 (by omega) z1 z2]
      simp only [cI_e, gO_e (yt H)]
      rw [if_pos (by rw [bi_f (by omega)]), s_17 H (by omega) (by omega)]
      rfl
    · unfold f_132 f_132_17
      simp only [it_lit, gO_e (yt46 H)]
      rw [s_129 H (N := N) (by rw [hI _ (by omega)]; exact gm.1) g1 z1 z2]
      simp only [cI_e, gO_e (yt46 H)]
      rw [if_pos (by rw [bi_f hz]), s_20 H (by omega) (by omega)]
      rfl
theorem pr_fun (hs : gSc b L B xs w0 I0) (a0 a1 : Int32) : Pr K (d + 20) (rR K B w0 I0 n) (rR K B w0 I0 (n + 1)) (Sc b B (B + 46) L xs) B (B + 46) 136 137 [.int a0, .int a1] := by
  intro w I J hR
  have H := hR.1
  obtain ⟨z, z1, z2, rfl⟩ := it_ex a0
  obtain ⟨y, y1, y2, rfl⟩ := it_ex a1
  obtain ⟨⟨N, F, fa, oc, ar, sh, rc⟩, a, a', bg, ha, p1, p2, p3, TC, gx, gm, b1, b2, b3, b4, b5⟩ := id hR.2.2.2.2.2.2.2.2.2
  obtain ⟨g1, g2, g3, g4, g5, g6, g7, g8, g9⟩ := tc_g TC
  have hP := PLx H (or_a ha)
  by_cases hz : (0 ≤ z ∧ z < F) ∧ 0 ≤ y ∧ y < 4
  · obtain ⟨f, rfl⟩ := z_nat hz.1.1
    obtain ⟨k, rfl⟩ := z_nat hz.2.1
    have x4 := (gx.2.2.2 f (by omega)).1 k (by omega)
    have y4 := (gm.2.2.2 f (by omega)).1 k (by omega)
    refine pr_eq hs hR (it (fa f k)).toInt64 (cl_136 (k := 0) ?_) (cl_137 (k := 0) ?_)
    · unfold f_136
      simp only [it_lit, gO_e (yt H), gV_e p1, gO_e hP.1]
      rw [if_neg (fun q => by have := (it_lt (by omega) (by omega) (by omega) (by omega)).mp q; omega), gx.2.1, if_neg (fun q => by have := (it_le (by omega) (by omega) (by omega) (by omega)).mp q; omega), if_neg (fun q => by have := (it_lt (by omega) (by omega) (by omega) (by omega)).mp q; omega), if_pos ((it_lt (by omega) (by omega) (by omega) (by omega)).mpr (by omega)), s_52 hP (by omega) (by omega) (by omega) (by omega), show ((f : Int) * 4 + k).toNat = 4 * f + k by omega, x4]
      rfl
    · unfold f_137
      simp only [it_lit, gO_e (yt46 H)]
      rw [gm.2.1, it_sub, s_19i z1 z2 (by omega) (by omega) (by omega) (by omega)]
      simp only [cI_e]
      rw [if_neg (by rw [bi_t (by omega)]; decide), s_19i y1 y2 (by omega) (by omega) (by omega) (by omega)]
      simp only [cI_e, gO_e (yt46 H), gV_e (yp46_18 H), it_mul, it_add]
      rw [if_pos (by rw [bi_t (by omega)]; decide), gA_e (yt58 H) (Or.inl rfl) (ix (by omega) (by omega) (by omega)), it_cl (by omega) (by omega), show (10 * (f : Int) + k).toNat = 10 * f + k by omega, y4]
  · refine pr_fd hs hR 1 (by omega) (by omega) (cl_136 (k := 0) ?_) (fun I' hI => cl_137 (k := 0) ?_)
    · unfold f_136 f_136_24
      simp only [it_lit, gO_e (yt H), gV_e p1, gO_e hP.1]
      rw [s_17 H (by omega) (by omega), gx.2.1]
      by_cases h0 : z < 0
      · rw [if_pos ((it_lt (by omega) (by omega) (by omega) (by omega)).mpr (by omega))]; rfl
      · rw [if_neg (fun q => by have := (it_lt (by omega) (by omega) (by omega) (by omega)).mp q; omega)]
        by_cases h1 : (F : Int) ≤ z
        · rw [if_pos ((it_le (by omega) (by omega) (by omega) (by omega)).mpr (by omega))]; rfl
        · rw [if_neg (fun q => by have := (it_le (by omega) (by omega) (by omega) (by omega)).mp q; omega)]
          by_cases h2 : y < 0
          · rw [if_pos ((it_lt (by omega) (by omega) (by omega) (by omega)).mpr (by omega))]; rfl
          · rw [if_neg (fun q => by have := (it_lt (by omega) (by omega) (by omega) (by omega)).mp q; omega), if_neg (fun q => by have := (it_lt (by omega) (by omega) (by omega) (by omega)).mp q; omega)]; rfl
    · unfold f_137 f_137_23
      simp only [it_lit, gO_e (yt46 H)]
      rw [hI (B + 46) (by omega), gm.2.1, it_sub, s_19i z1 z2 (by omega) (by omega) (by omega) (by omega)]
      simp only [cI_e, gO_e (yt46 H)]
      by_cases h0 : 0 ≤ z ∧ z < F
      · rw [if_neg (by rw [bi_t (by omega)]; decide), s_19i y1 y2 (by omega) (by omega) (by omega) (by omega)]
        simp only [cI_e, gO_e (yt46 H)]
        rw [if_neg (by rw [bi_f (by omega)]; decide), s_20 H (by omega) (by omega)]
        rfl
      · rw [if_pos (by rw [bi_f (by omega)]), s_20 H (by omega) (by omega)]
        rfl
theorem pr_shape (hs : gSc b L B xs w0 I0) (a0 : Int32) : Pr K (d + 20) (rR K B w0 I0 n) (rR K B w0 I0 (n + 1)) (Sc b B (B + 46) L xs) B (B + 46) 133 135 [.int a0] := by
  intro w I J hR
  have H := hR.1
  obtain ⟨z, z1, z2, rfl⟩ := it_ex a0
  obtain ⟨⟨N, F, fa, oc, ar, sh, rc⟩, a, a', bg, ha, p1, p2, p3, TC, gx, gm, b1, b2, b3, b4, b5⟩ := id hR.2.2.2.2.2.2.2.2.2
  obtain ⟨g1, g2, g3, g4, g5, g6, g7, g8, g9⟩ := tc_g TC
  have hP := PLx H (or_a ha)
  by_cases hz : 0 ≤ z ∧ z < N
  · obtain ⟨p, rfl⟩ := z_nat hz.1
    have x3 := gx.2.2.1 p (by omega)
    have y3 := gm.2.2.1 p (by omega)
    have preX : ∀ v : Int64, J (a + 3) p = v → f_133 K 0 (d + 19) B (it p) w I J = some (some (.long v), w, I, J) := by
      intro v hv
      unfold f_133
      simp only [it_lit, gO_e (yt H), gV_e p1, gO_e hP.1]
      rw [s_61 hP gx.1 (by omega) z1 z2]
      simp only [cI_e, gO_e (yt H), gV_e p1, gO_e hP.1]
      rw [if_neg (by rw [bi_t (by omega)]; decide), s_134 hP gx.1 (by omega) (by omega) (by omega) (by omega), Int.toNat_natCast, hv]
      rfl
    cases hr : rc p with
    | false =>
      have e1 : J (a + 3) p = 3125 := by rw [x3.2.2, hr]; rfl
      refine pr_eq hs hR 3125 (cl_133 (k := 0) (preX _ e1)) (cl_135 (k := 0) ?_)
      unfold f_135
      simp only [it_lit, gO_e (yt46 H)]
      rw [s_129 H gm.1 g1 z1 z2]
      simp only [cI_e, gO_e (yt46 H), gV_e (yp46_32 H)]
      rw [if_pos (by rw [bi_t (by omega)]; decide), gA_e (yt62 H) (Or.inl rfl) (ix (by omega) (by omega) (by omega)), it_n (k := p) (by omega), y3.2.2.1 hr, if_neg (by decide)]
    | true =>
      have e1 : J (a + 3) p = gPk (sh p) := by rw [x3.2.2, hr]; rfl
      have hl := (TC.2.2.2.2.1 p (by omega)).1
      obtain ⟨k1, k2⟩ := y3.2.2.2 hr
      refine pr_eq hs hR (gPk (sh p)) (cl_133 (k := 0) (preX _ e1)) (cl_135 (k := (sh p).length + 1) ?_)
      unfold f_135
      simp only [it_lit, gO_e (yt46 H)]
      rw [s_129 H gm.1 g1 z1 z2]
      simp only [cI_e, gO_e (yt46 H), gV_e (yp46_32 H)]
      rw [if_pos (by rw [bi_t (by omega)]; decide), gA_e (yt62 H) (Or.inl rfl) (ix (by omega) (by omega) (by omega)), it_n (k := p) (by omega), k1, if_pos ((it_le (by omega) (by omega) (by omega) (by omega)).mpr (by omega))]
      have := l_135 (K := K) (d := d + 19) (J := J) (N := N) H (by omega) k1 hl (sh_9 TC (by omega)) k2 (sh p).length 0 (by omega)
      rw [List.drop_length] at this
      exact this
  · refine pr_fd hs hR 1 (by omega) (by omega) (cl_133 (k := 0) ?_) (fun I' hI => cl_135 (k := 0) ?_)
    · unfold f_133
      simp only [it_lit, gO_e (yt H), gV_e p1, gO_e hP.1]
      rw [s_61 hP gx.1 (by omega) z1 z2]
      simp only [cI_e, gO_e (yt H)]
      rw [if_pos (by rw [bi_f (by omega)]), s_17 H (by omega) (by omega)]
      rfl
    · unfold f_135
      simp only [it_lit, gO_e (yt46 H)]
      rw [s_129 H (N := N) (by rw [hI _ (by omega)]; exact gm.1) g1 z1 z2]
      simp only [cI_e, gO_e (yt46 H)]
      rw [if_neg (by rw [bi_f hz]; decide), s_20 H (by omega) (by omega)]
      rfl
end PRX

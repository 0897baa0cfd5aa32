/-! THE REFERENCE'S MACHINE: n its row 'now' -/
def nw (B : Nat) (n : Nat → Int32) (I : aI) : aI := sm_up1 I (B + 65) n
theorem nw_r {B : Nat} {n : Nat → Int32} {I : aI} : nw B n I (B + 65) = n := up1_s _ _ _
theorem nw_o {B b : Nat} {n : Nat → Int32} {I : aI} (h : ¬ b = B + 65) : nw B n I b = I b := up1_n h
theorem nw_u {B k : Nat} {n : Nat → Int32} {I : aI} {v : Int32} : sm_up2 (nw B n I) (B + 65) k v = nw B (sm_up1 n k v) I := by
  unfold sm_up2
  rw [nw_r]
  exact up1_up1 _ _ _ _
theorem nw_id {B : Nat} {I : aI} : nw B (I (B + 65)) I = I := up1_id _ _
section MM
variable {K : Nat → Value} {B d k hi fr pr : Nat} {w : aW} {I : aI} {J : aJ} {n : Nat → Int32} {z : Int}
theorem gn0 {α : Type} {k : Option α} (H : Lay B w) : gA w 10 20 (B + 65) (it 0) k = k := gA_e (yt65 H) (Or.inl rfl) (ix (z := 0) (by omega) (by omega) (by omega))
theorem gw0 {α : Type} {k : Option α} (H : Lay B w) : gA w 10 10 (B + 65) (it 0) k = k := gA_e (yt65 H) (Or.inl rfl) (ix (z := 0) (by omega) (by omega) (by omega))
theorem gn1 {α : Type} {k : Option α} (H : Lay B w) : gA w 10 20 (B + 65) (it 1) k = k := gA_e (yt65 H) (Or.inl rfl) (ix (z := 1) (by omega) (by omega) (by omega))
theorem gw1 {α : Type} {k : Option α} (H : Lay B w) : gA w 10 10 (B + 65) (it 1) k = k := gA_e (yt65 H) (Or.inl rfl) (ix (z := 1) (by omega) (by omega) (by omega))
theorem gn2 {α : Type} {k : Option α} (H : Lay B w) : gA w 10 20 (B + 65) (it 2) k = k := gA_e (yt65 H) (Or.inl rfl) (ix (z := 2) (by omega) (by omega) (by omega))
theorem gw2 {α : Type} {k : Option α} (H : Lay B w) : gA w 10 10 (B + 65) (it 2) k = k := gA_e (yt65 H) (Or.inl rfl) (ix (z := 2) (by omega) (by omega) (by omega))
theorem gn3 {α : Type} {k : Option α} (H : Lay B w) : gA w 10 20 (B + 65) (it 3) k = k := gA_e (yt65 H) (Or.inl rfl) (ix (z := 3) (by omega) (by omega) (by omega))
theorem gw3 {α : Type} {k : Option α} (H : Lay B w) : gA w 10 10 (B + 65) (it 3) k = k := gA_e (yt65 H) (Or.inl rfl) (ix (z := 3) (by omega) (by omega) (by omega))
theorem gn4 {α : Type} {k : Option α} (H : Lay B w) : gA w 10 20 (B + 65) (it 4) k = k := gA_e (yt65 H) (Or.inl rfl) (ix (z := 4) (by omega) (by omega) (by omega))
theorem gw4 {α : Type} {k : Option α} (H : Lay B w) : gA w 10 10 (B + 65) (it 4) k = k := gA_e (yt65 H) (Or.inl rfl) (ix (z := 4) (by omega) (by omega) (by omega))
theorem gn5 {α : Type} {k : Option α} (H : Lay B w) : gA w 10 20 (B + 65) (it 5) k = k := gA_e (yt65 H) (Or.inl rfl) (ix (z := 5) (by omega) (by omega) (by omega))
theorem gw5 {α : Type} {k : Option α} (H : Lay B w) : gA w 10 10 (B + 65) (it 5) k = k := gA_e (yt65 H) (Or.inl rfl) (ix (z := 5) (by omega) (by omega) (by omega))
theorem gn6 {α : Type} {k : Option α} (H : Lay B w) : gA w 10 20 (B + 65) (it 6) k = k := gA_e (yt65 H) (Or.inl rfl) (ix (z := 6) (by omega) (by omega) (by omega))
theorem gw6 {α : Type} {k : Option α} (H : Lay B w) : gA w 10 10 (B + 65) (it 6) k = k := gA_e (yt65 H) (Or.inl rfl) (ix (z := 6) (by omega) (by omega) (by omega))
theorem s_179 (H : Lay B w) (h1 : n 1 = it fr) : Cl K (d + 1) 179 [.ref (B + 46)] w (nw B n I) J = some (some (.int (it (70 + 8 * ((fr : Int) - 1)))), w, nw B n I, J) := by
  apply cl_179 (k := 0)
  unfold f_179
  simp only [it_lit, gO_e (yt46 H), gV_e (yp46_36 H), gV_e (yp46_18 H), gV_e (yp46_19 H), gV_e (yp46_20 H), gV_e (yp46_37 H), gV_e (yp46_38 H), gV_e (yp46_39 H), gV_e (yp46_40 H), gV_e (yp46_43 H), gn0 H, gn1 H, gn2 H, gn3 H, gn4 H, gn5 H, gn6 H, gw0 H, gw1 H, gw2 H, gw3 H, gw4 H, gw5 H, gw6 H, cl0, cl1, cl2, cl3, cl4, cl5, cl6, cI_e, cV_e, cA_e, cJ_e, lt_, nw_r, nw_u, h1, it_sub, it_mul, it_add]
theorem s_181 (H : Lay B w) (h2 : n 2 = it hi) (h0 : hi ≤ 30) (z1 : 0 ≤ z) (z2 : z ≤ 9) : Cl K (d + 1) 181 [.ref (B + 46), .int (it z)] w (nw B n I) J = some (some (.int (n (10 + hi - z.toNat))), w, nw B n I, J) := by
  apply cl_181 (k := 0)
  unfold f_181
  simp only [it_lit, gO_e (yt46 H), gV_e (yp46_36 H), gV_e (yp46_18 H), gV_e (yp46_19 H), gV_e (yp46_20 H), gV_e (yp46_37 H), gV_e (yp46_38 H), gV_e (yp46_39 H), gV_e (yp46_40 H), gV_e (yp46_43 H), gn0 H, gn1 H, gn2 H, gn3 H, gn4 H, gn5 H, gn6 H, gw0 H, gw1 H, gw2 H, gw3 H, gw4 H, gw5 H, gw6 H, cl0, cl1, cl2, cl3, cl4, cl5, cl6, cI_e, cV_e, cA_e, cJ_e, lt_, nw_r, nw_u, h2, it_sub, it_mul, it_add]
  rw [gA_e (yt65 H) (Or.inl rfl) (ix (by omega) (by omega) (by omega)), it_cl (by omega) (by omega), show (10 + (hi : Int) - z).toNat = 10 + hi - z.toNat by omega]
theorem s_183 {x y : Int} : Cl K (d + 1) 183 [.int (it x), .int (it y)] w I J = some (some (.int (it (154 + 12 * x + y))), w, I, J) := by
  apply cl_183 (k := 0)
  unfold f_183
  simp only [it_lit, it_mul, it_add]
theorem s_191 {ty v : Int32} (H : Lay B w) (h2 : n 2 = it hi) (h0 : hi < 30) : Cl K (d + 1) 191 [.ref (B + 46), .int ty, .int v] w (nw B n I) J = some (none, w, nw B (ap [(10 + hi, v), (40 + hi, ty), (2, it (hi + 1))] n) I, J) := by
  apply cl_191 (k := 0)
  unfold f_191
  simp only [it_lit, gO_e (yt46 H), gV_e (yp46_36 H), gV_e (yp46_18 H), gV_e (yp46_19 H), gV_e (yp46_20 H), gV_e (yp46_37 H), gV_e (yp46_38 H), gV_e (yp46_39 H), gV_e (yp46_40 H), gV_e (yp46_43 H), gn0 H, gn1 H, gn2 H, gn3 H, gn4 H, gn5 H, gn6 H, gw0 H, gw1 H, gw2 H, gw3 H, gw4 H, gw5 H, gw6 H, cl0, cl1, cl2, cl3, cl4, cl5, cl6, cI_e, cV_e, cA_e, cJ_e, lt_, nw_r, nw_u, h2, it_sub, it_mul, it_add]
  rw [gA_e (yt65 H) (Or.inl rfl) (ix (by omega) (by omega) (by omega)), it_cl (by omega) (by omega), show (10 + (hi : Int)).toNat = 10 + hi by omega, up1_n (by omega), h2]
  simp only [it_add]
  rw [gA_e (yt65 H) (Or.inl rfl) (ix (by omega) (by omega) (by omega)), it_cl (by omega) (by omega), show (40 + (hi : Int)).toNat = 40 + hi by omega, up1_n (by omega), up1_n (by omega), h2]
  simp only [it_add]
  rfl
theorem l_184 (H : Lay B w) : ∀ (m o : Nat), o + m = 17 → 1 ≤ o → f_184_2 K (m + 1) (d + 1) (B + 46) (it o) w (nw B n I) J = some (some (.int (it (lfree (fun q => n (154 + 12 * q)) m o))), w, nw B n I, J) := by
  intro m
  induction m with
  | zero =>
    intro o h1 h2
    rw [f_184_2]
    simp only [it_lit, gO_e (yt46 H), gV_e (yp46_36 H), gV_e (yp46_18 H), gV_e (yp46_19 H), gV_e (yp46_20 H), gV_e (yp46_37 H), gV_e (yp46_38 H), gV_e (yp46_39 H), gV_e (yp46_40 H), gV_e (yp46_43 H), gn0 H, gn1 H, gn2 H, gn3 H, gn4 H, gn5 H, gn6 H, gw0 H, gw1 H, gw2 H, gw3 H, gw4 H, gw5 H, gw6 H, cl0, cl1, cl2, cl3, cl4, cl5, cl6, cI_e, cV_e, cA_e, cJ_e, lt_, nw_r, nw_u]
    rw [if_pos ((it_lt (by omega) (by omega) (by omega) (by omega)).mpr (by omega))]
    rfl
  | succ m ih =>
    intro o h1 h2
    rw [f_184_2]
    simp only [it_lit, gO_e (yt46 H), gV_e (yp46_36 H), gV_e (yp46_18 H), gV_e (yp46_19 H), gV_e (yp46_20 H), gV_e (yp46_37 H), gV_e (yp46_38 H), gV_e (yp46_39 H), gV_e (yp46_40 H), gV_e (yp46_43 H), gn0 H, gn1 H, gn2 H, gn3 H, gn4 H, gn5 H, gn6 H, gw0 H, gw1 H, gw2 H, gw3 H, gw4 H, gw5 H, gw6 H, cl0, cl1, cl2, cl3, cl4, cl5, cl6, cI_e, cV_e, cA_e, cJ_e, lt_, nw_r, nw_u]
    rw [if_neg (fun q => by have := (it_lt (by omega) (by omega) (by omega) (by omega)).mp q; omega), s_183]
    simp only [gO_e (yt46 H), gV_e (yp46_36 H), gV_e (yp46_18 H), gV_e (yp46_19 H), gV_e (yp46_20 H), gV_e (yp46_37 H), gV_e (yp46_38 H), gV_e (yp46_39 H), gV_e (yp46_40 H), gV_e (yp46_43 H), gn0 H, gn1 H, gn2 H, gn3 H, gn4 H, gn5 H, gn6 H, gw0 H, gw1 H, gw2 H, gw3 H, gw4 H, gw5 H, gw6 H, cl0, cl1, cl2, cl3, cl4, cl5, cl6, cI_e, cV_e, cA_e, cJ_e, lt_, nw_r, nw_u]
    rw [gA_e (yt65 H) (Or.inl rfl) (ix (by omega) (by omega) (by omega)), it_cl (by omega) (by omega), show (154 + 12 * (o : Int) + 0).toNat = 154 + 12 * o by omega]
    simp only [lfree, it_add]
    by_cases hc : n (154 + 12 * o) = it 0
    · rw [if_neg (fun q => q hc), if_pos hc]
    · rw [if_pos hc, if_neg hc]
      exact ih (o + 1) (by omega) (by omega)
theorem s_184 (H : Lay B w) : Cl K (d + 2) 184 [.ref (B + 46)] w (nw B n I) J = some (some (.int (it (lfree (fun q => n (154 + 12 * q)) 16 1))), w, nw B n I, J) :=
  cl_184 (k := 17) (l_184 H 16 1 (by omega) (by omega))
theorem s_182 {q sz : Nat} {x : Int} (H : Lay B w) (q2 : q ≤ 16) (hs : 1 ≤ q → n (155 + 12 * q) = it sz) (z1 : sz ≤ 9) (x1 : -2147483648 ≤ x) (x2 : x < 2147483648) : Cl K (d + 2) 182 [.ref (B + 46), .int (it q), .int (it x)] w (nw B n I) J = some (some (.int (it (if q = 0 then 4 else if 0 ≤ x ∧ x < sz then 0 else 3))), w, nw B n I, J) := by
  apply cl_182 (k := 0)
  unfold f_182
  simp only [it_lit, gO_e (yt46 H), gV_e (yp46_36 H), gV_e (yp46_18 H), gV_e (yp46_19 H), gV_e (yp46_20 H), gV_e (yp46_37 H), gV_e (yp46_38 H), gV_e (yp46_39 H), gV_e (yp46_40 H), gV_e (yp46_43 H), gn0 H, gn1 H, gn2 H, gn3 H, gn4 H, gn5 H, gn6 H, gw0 H, gw1 H, gw2 H, gw3 H, gw4 H, gw5 H, gw6 H, cl0, cl1, cl2, cl3, cl4, cl5, cl6, cI_e, cV_e, cA_e, cJ_e, lt_, nw_r, nw_u]
  by_cases h0 : q = 0
  · subst h0
    rw [if_neg (fun q => q rfl), if_pos rfl]
  · rw [if_pos (fun q => by have := (it_eq (by omega) (by omega) (by omega) (by omega)).mp q; omega), if_neg h0, s_183]
    simp only [gO_e (yt46 H), gV_e (yp46_36 H), gV_e (yp46_18 H), gV_e (yp46_19 H), gV_e (yp46_20 H), gV_e (yp46_37 H), gV_e (yp46_38 H), gV_e (yp46_39 H), gV_e (yp46_40 H), gV_e (yp46_43 H), gn0 H, gn1 H, gn2 H, gn3 H, gn4 H, gn5 H, gn6 H, gw0 H, gw1 H, gw2 H, gw3 H, gw4 H, gw5 H, gw6 H, cl0, cl1, cl2, cl3, cl4, cl5, cl6, cI_e, cV_e, cA_e, cJ_e, lt_, nw_r, nw_u]
    rw [gA_e (yt65 H) (Or.inl rfl) (ix (by omega) (by omega) (by omega)), it_cl (by omega) (by omega), show (154 + 12 * (q : Int) + 1).toNat = 155 + 12 * q by omega, hs (by omega), it_sub, s_19i (by omega) (by omega) (by omega) (by omega) (by omega) (by omega)]
    simp only [gO_e (yt46 H), gV_e (yp46_36 H), gV_e (yp46_18 H), gV_e (yp46_19 H), gV_e (yp46_20 H), gV_e (yp46_37 H), gV_e (yp46_38 H), gV_e (yp46_39 H), gV_e (yp46_40 H), gV_e (yp46_43 H), gn0 H, gn1 H, gn2 H, gn3 H, gn4 H, gn5 H, gn6 H, gw0 H, gw1 H, gw2 H, gw3 H, gw4 H, gw5 H, gw6 H, cl0, cl1, cl2, cl3, cl4, cl5, cl6, cI_e, cV_e, cA_e, cJ_e, lt_, nw_r, nw_u, bi0]
    by_cases hy : 0 ≤ x ∧ x < sz
    · rw [if_neg (by omega), if_pos hy]
    · rw [if_pos (by omega), if_neg hy]
theorem s_194 {o : Nat} {a b : Int32} (o1 : 13 ≤ o) (o2 : o ≤ 20) (hz : o = 20 → ¬ b = it 0) : Cl K (d + 1) 194 [.int (it o), .int a, .int b] w I J = some (some (.int (vOp o a b)), w, I, J) := by
  apply cl_194 (k := 0)
  unfold f_194
  simp only [it_lit]
  have h8 : o = 13 ∨ o = 14 ∨ o = 15 ∨ o = 16 ∨ o = 17 ∨ o = 18 ∨ o = 19 ∨ o = 20 := by omega
  rcases h8 with rfl | rfl | rfl | rfl | rfl | rfl | rfl | rfl
  · rw [if_pos (by decide)]; rfl
  · rw [if_neg (by decide), if_pos (by decide)]; rfl
  · rw [if_neg (by decide), if_neg (by decide), if_pos (by decide)]
    by_cases h : a < b
    · rw [if_neg (Int32.not_le.mpr h)]; simp only [vOp, if_pos h]; rfl
    · rw [if_pos (Int32.not_lt.mp h)]; simp only [vOp, if_neg h]; rfl
  · rw [if_neg (by decide), if_neg (by decide), if_neg (by decide), if_pos (by decide)]
    by_cases h : a = b
    · rw [if_neg (fun q => q h)]; simp only [vOp, if_pos h]; rfl
    · rw [if_pos h]; simp only [vOp, if_neg h]; rfl
  · rw [if_neg (by decide), if_neg (by decide), if_neg (by decide), if_neg (by decide), if_pos (by decide)]; rfl
  · rw [if_neg (by decide), if_neg (by decide), if_neg (by decide), if_neg (by decide), if_neg (by decide), if_pos (by decide)]; rfl
  · rw [if_neg (by decide), if_neg (by decide), if_neg (by decide), if_neg (by decide), if_neg (by decide), if_neg (by decide), if_pos (by decide)]; rfl
  · rw [if_neg (by decide), if_neg (by decide), if_neg (by decide), if_neg (by decide), if_neg (by decide), if_neg (by decide), if_neg (by decide), gC_e (hz rfl)]; rfl
theorem s_193 {o q : Nat} {a b : Int32} (H : Lay B w) (ho : o = 10 ∨ o = 12) (q1 : 1 ≤ q) (q2 : q ≤ 16) : Cl K (d + 2) 193 [.ref (B + 46), .int (it o), .int (it q), .int a, .int b] w (nw B n I) J = some (some (.int (it q)), w, nw B (ap [(154 + 12 * q, if o = 10 then it 1 else it 2), (155 + 12 * q, a), (156 + 12 * q, b)] n) I, J) := by
  apply cl_193 (k := 0)
  unfold f_193 f_193_20
  simp only [it_lit, gO_e (yt46 H), gV_e (yp46_36 H), gV_e (yp46_18 H), gV_e (yp46_19 H), gV_e (yp46_20 H), gV_e (yp46_37 H), gV_e (yp46_38 H), gV_e (yp46_39 H), gV_e (yp46_40 H), gV_e (yp46_43 H), gn0 H, gn1 H, gn2 H, gn3 H, gn4 H, gn5 H, gn6 H, gw0 H, gw1 H, gw2 H, gw3 H, gw4 H, gw5 H, gw6 H, cl0, cl1, cl2, cl3, cl4, cl5, cl6, cI_e, cV_e, cA_e, cJ_e, lt_, nw_r, nw_u]
  rw [s_183]
  simp only [gO_e (yt46 H), gV_e (yp46_36 H), gV_e (yp46_18 H), gV_e (yp46_19 H), gV_e (yp46_20 H), gV_e (yp46_37 H), gV_e (yp46_38 H), gV_e (yp46_39 H), gV_e (yp46_40 H), gV_e (yp46_43 H), gn0 H, gn1 H, gn2 H, gn3 H, gn4 H, gn5 H, gn6 H, gw0 H, gw1 H, gw2 H, gw3 H, gw4 H, gw5 H, gw6 H, cl0, cl1, cl2, cl3, cl4, cl5, cl6, cI_e, cV_e, cA_e, cJ_e, lt_, nw_r, nw_u]
  rcases ho with rfl | rfl
  · rw [if_neg (fun q => q (by decide)), gA_e (yt65 H) (Or.inl rfl) (ix (by omega) (by omega) (by omega)), s_183]
    simp only [gO_e (yt46 H), gV_e (yp46_36 H), gV_e (yp46_18 H), gV_e (yp46_19 H), gV_e (yp46_20 H), gV_e (yp46_37 H), gV_e (yp46_38 H), gV_e (yp46_39 H), gV_e (yp46_40 H), gV_e (yp46_43 H), gn0 H, gn1 H, gn2 H, gn3 H, gn4 H, gn5 H, gn6 H, gw0 H, gw1 H, gw2 H, gw3 H, gw4 H, gw5 H, gw6 H, cl0, cl1, cl2, cl3, cl4, cl5, cl6, cI_e, cV_e, cA_e, cJ_e, lt_, nw_r, nw_u]
    rw [gA_e (yt65 H) (Or.inl rfl) (ix (by omega) (by omega) (by omega)), s_183]
    simp only [gO_e (yt46 H), gV_e (yp46_36 H), gV_e (yp46_18 H), gV_e (yp46_19 H), gV_e (yp46_20 H), gV_e (yp46_37 H), gV_e (yp46_38 H), gV_e (yp46_39 H), gV_e (yp46_40 H), gV_e (yp46_43 H), gn0 H, gn1 H, gn2 H, gn3 H, gn4 H, gn5 H, gn6 H, gw0 H, gw1 H, gw2 H, gw3 H, gw4 H, gw5 H, gw6 H, cl0, cl1, cl2, cl3, cl4, cl5, cl6, cI_e, cV_e, cA_e, cJ_e, lt_, nw_r, nw_u]
    rw [gA_e (yt65 H) (Or.inl rfl) (ix (by omega) (by omega) (by omega)), it_cl (by omega) (by omega), it_cl (by omega) (by omega), it_cl (by omega) (by omega), show (154 + 12 * (q : Int) + 0).toNat = 154 + 12 * q by omega, show (154 + 12 * (q : Int) + 1).toNat = 155 + 12 * q by omega, show (154 + 12 * (q : Int) + 2).toNat = 156 + 12 * q by omega]
    rfl
  · rw [if_pos (by decide), gA_e (yt65 H) (Or.inl rfl) (ix (by omega) (by omega) (by omega)), s_183]
    simp only [gO_e (yt46 H), gV_e (yp46_36 H), gV_e (yp46_18 H), gV_e (yp46_19 H), gV_e (yp46_20 H), gV_e (yp46_37 H), gV_e (yp46_38 H), gV_e (yp46_39 H), gV_e (yp46_40 H), gV_e (yp46_43 H), gn0 H, gn1 H, gn2 H, gn3 H, gn4 H, gn5 H, gn6 H, gw0 H, gw1 H, gw2 H, gw3 H, gw4 H, gw5 H, gw6 H, cl0, cl1, cl2, cl3, cl4, cl5, cl6, cI_e, cV_e, cA_e, cJ_e, lt_, nw_r, nw_u]
    rw [gA_e (yt65 H) (Or.inl rfl) (ix (by omega) (by omega) (by omega)), s_183]
    simp only [gO_e (yt46 H), gV_e (yp46_36 H), gV_e (yp46_18 H), gV_e (yp46_19 H), gV_e (yp46_20 H), gV_e (yp46_37 H), gV_e (yp46_38 H), gV_e (yp46_39 H), gV_e (yp46_40 H), gV_e (yp46_43 H), gn0 H, gn1 H, gn2 H, gn3 H, gn4 H, gn5 H, gn6 H, gw0 H, gw1 H, gw2 H, gw3 H, gw4 H, gw5 H, gw6 H, cl0, cl1, cl2, cl3, cl4, cl5, cl6, cI_e, cV_e, cA_e, cJ_e, lt_, nw_r, nw_u]
    rw [gA_e (yt65 H) (Or.inl rfl) (ix (by omega) (by omega) (by omega)), it_cl (by omega) (by omega), it_cl (by omega) (by omega), it_cl (by omega) (by omega), show (154 + 12 * (q : Int) + 0).toNat = 154 + 12 * q by omega, show (154 + 12 * (q : Int) + 1).toNat = 155 + 12 * q by omega, show (154 + 12 * (q : Int) + 2).toNat = 156 + 12 * q by omega]
    rfl
end MM

section MACT
variable {K : Nat → Value} {B d k hi fr pr o p q : Nat} {w : aW} {I : aI} {J : aJ} {n : Nat → Int32} {z : Int} {a v ty : Int32}
theorem s_192a (H : Lay B w) (h2 : n 2 = it hi) (h0 : hi ≤ 30)  : Cl K (d + 3) 192 [.ref (B + 46), .int (it 5), .int a] w (nw B n I) J = some (some (.int (- n (9 + hi))), w, nw B (ap [] n) I, J) := by
  apply cl_192 (k := 0)
  unfold f_192
  simp only [it_lit, gO_e (yt46 H), gV_e (yp46_36 H), gV_e (yp46_18 H), gV_e (yp46_19 H), gV_e (yp46_20 H), gV_e (yp46_37 H), gV_e (yp46_38 H), gV_e (yp46_39 H), gV_e (yp46_40 H), gV_e (yp46_43 H), gn0 H, gn1 H, gn2 H, gn3 H, gn4 H, gn5 H, gn6 H, gw0 H, gw1 H, gw2 H, gw3 H, gw4 H, gw5 H, gw6 H, cl0, cl1, cl2, cl3, cl4, cl5, cl6, cI_e, cV_e, cA_e, cJ_e, lt_, nw_r, nw_u]
  rw [s_181 H h2 h0 (by omega) (by omega), Int.toNat_one, show 10 + hi - 1 = 9 + hi by omega]
  simp only [gO_e (yt46 H), gV_e (yp46_36 H), gV_e (yp46_18 H), gV_e (yp46_19 H), gV_e (yp46_20 H), gV_e (yp46_37 H), gV_e (yp46_38 H), gV_e (yp46_39 H), gV_e (yp46_40 H), gV_e (yp46_43 H), gn0 H, gn1 H, gn2 H, gn3 H, gn4 H, gn5 H, gn6 H, gw0 H, gw1 H, gw2 H, gw3 H, gw4 H, gw5 H, gw6 H, cl0, cl1, cl2, cl3, cl4, cl5, cl6, cI_e, cV_e, cA_e, cJ_e, lt_, nw_r, nw_u]
  repeat (first | rw [if_pos (by decide)] | rw [if_neg (by decide)])
  rfl
theorem s_192b (H : Lay B w) (h2 : n 2 = it hi) (h0 : hi ≤ 30)  : Cl K (d + 3) 192 [.ref (B + 46), .int (it 6), .int a] w (nw B n I) J = some (some (.int (it 1 - n (9 + hi))), w, nw B (ap [] n) I, J) := by
  apply cl_192 (k := 0)
  unfold f_192
  simp only [it_lit, gO_e (yt46 H), gV_e (yp46_36 H), gV_e (yp46_18 H), gV_e (yp46_19 H), gV_e (yp46_20 H), gV_e (yp46_37 H), gV_e (yp46_38 H), gV_e (yp46_39 H), gV_e (yp46_40 H), gV_e (yp46_43 H), gn0 H, gn1 H, gn2 H, gn3 H, gn4 H, gn5 H, gn6 H, gw0 H, gw1 H, gw2 H, gw3 H, gw4 H, gw5 H, gw6 H, cl0, cl1, cl2, cl3, cl4, cl5, cl6, cI_e, cV_e, cA_e, cJ_e, lt_, nw_r, nw_u]
  rw [s_181 H h2 h0 (by omega) (by omega), Int.toNat_one, show 10 + hi - 1 = 9 + hi by omega]
  simp only [gO_e (yt46 H), gV_e (yp46_36 H), gV_e (yp46_18 H), gV_e (yp46_19 H), gV_e (yp46_20 H), gV_e (yp46_37 H), gV_e (yp46_38 H), gV_e (yp46_39 H), gV_e (yp46_40 H), gV_e (yp46_43 H), gn0 H, gn1 H, gn2 H, gn3 H, gn4 H, gn5 H, gn6 H, gw0 H, gw1 H, gw2 H, gw3 H, gw4 H, gw5 H, gw6 H, cl0, cl1, cl2, cl3, cl4, cl5, cl6, cI_e, cV_e, cA_e, cJ_e, lt_, nw_r, nw_u]
  repeat (first | rw [if_pos (by decide)] | rw [if_neg (by decide)])
  rfl
theorem s_192c (H : Lay B w) (h2 : n 2 = it hi) (h0 : hi ≤ 30) (ho : o = 7 ∨ o = 8) (hq : n (9 + hi) = it q) (q2 : q ≤ 16) : Cl K (d + 3) 192 [.ref (B + 46), .int (it o), .int a] w (nw B n I) J = some (some (.int (n (155 + 12 * q))), w, nw B (ap [] n) I, J) := by
  apply cl_192 (k := 0)
  unfold f_192
  simp only [it_lit, gO_e (yt46 H), gV_e (yp46_36 H), gV_e (yp46_18 H), gV_e (yp46_19 H), gV_e (yp46_20 H), gV_e (yp46_37 H), gV_e (yp46_38 H), gV_e (yp46_39 H), gV_e (yp46_40 H), gV_e (yp46_43 H), gn0 H, gn1 H, gn2 H, gn3 H, gn4 H, gn5 H, gn6 H, gw0 H, gw1 H, gw2 H, gw3 H, gw4 H, gw5 H, gw6 H, cl0, cl1, cl2, cl3, cl4, cl5, cl6, cI_e, cV_e, cA_e, cJ_e, lt_, nw_r, nw_u]
  rw [s_181 H h2 h0 (by omega) (by omega), Int.toNat_one, show 10 + hi - 1 = 9 + hi by omega]
  simp only [gO_e (yt46 H), gV_e (yp46_36 H), gV_e (yp46_18 H), gV_e (yp46_19 H), gV_e (yp46_20 H), gV_e (yp46_37 H), gV_e (yp46_38 H), gV_e (yp46_39 H), gV_e (yp46_40 H), gV_e (yp46_43 H), gn0 H, gn1 H, gn2 H, gn3 H, gn4 H, gn5 H, gn6 H, gw0 H, gw1 H, gw2 H, gw3 H, gw4 H, gw5 H, gw6 H, cl0, cl1, cl2, cl3, cl4, cl5, cl6, cI_e, cV_e, cA_e, cJ_e, lt_, nw_r, nw_u]
  rw [hq]
  rcases ho with rfl | rfl
  · repeat (first | rw [if_pos (by decide)] | rw [if_neg (by decide)])
    rw [s_183]
    simp only [gO_e (yt46 H), gV_e (yp46_36 H), gV_e (yp46_18 H), gV_e (yp46_19 H), gV_e (yp46_20 H), gV_e (yp46_37 H), gV_e (yp46_38 H), gV_e (yp46_39 H), gV_e (yp46_40 H), gV_e (yp46_43 H), gn0 H, gn1 H, gn2 H, gn3 H, gn4 H, gn5 H, gn6 H, gw0 H, gw1 H, gw2 H, gw3 H, gw4 H, gw5 H, gw6 H, cl0, cl1, cl2, cl3, cl4, cl5, cl6, cI_e, cV_e, cA_e, cJ_e, lt_, nw_r, nw_u]
    rw [gA_e (yt65 H) (Or.inl rfl) (ix (by omega) (by omega) (by omega)), it_cl (by omega) (by omega), show (154 + 12 * (q : Int) + 1).toNat = 155 + 12 * q by omega]
    rfl
  · repeat (first | rw [if_pos (by decide)] | rw [if_neg (by decide)])
    rw [s_183]
    simp only [gO_e (yt46 H), gV_e (yp46_36 H), gV_e (yp46_18 H), gV_e (yp46_19 H), gV_e (yp46_20 H), gV_e (yp46_37 H), gV_e (yp46_38 H), gV_e (yp46_39 H), gV_e (yp46_40 H), gV_e (yp46_43 H), gn0 H, gn1 H, gn2 H, gn3 H, gn4 H, gn5 H, gn6 H, gw0 H, gw1 H, gw2 H, gw3 H, gw4 H, gw5 H, gw6 H, cl0, cl1, cl2, cl3, cl4, cl5, cl6, cI_e, cV_e, cA_e, cJ_e, lt_, nw_r, nw_u]
    rw [gA_e (yt65 H) (Or.inl rfl) (ix (by omega) (by omega) (by omega)), it_cl (by omega) (by omega), show (154 + 12 * (q : Int) + 1).toNat = 155 + 12 * q by omega]
    rfl
theorem s_192d (H : Lay B w) (h2 : n 2 = it hi) (h0 : hi ≤ 30) (hq : n (9 + hi) = it q) (q2 : q ≤ 16) : Cl K (d + 3) 192 [.ref (B + 46), .int (it 9), .int a] w (nw B n I) J = some (some (.int (n (156 + 12 * q))), w, nw B (ap [] n) I, J) := by
  apply cl_192 (k := 0)
  unfold f_192
  simp only [it_lit, gO_e (yt46 H), gV_e (yp46_36 H), gV_e (yp46_18 H), gV_e (yp46_19 H), gV_e (yp46_20 H), gV_e (yp46_37 H), gV_e (yp46_38 H), gV_e (yp46_39 H), gV_e (yp46_40 H), gV_e (yp46_43 H), gn0 H, gn1 H, gn2 H, gn3 H, gn4 H, gn5 H, gn6 H, gw0 H, gw1 H, gw2 H, gw3 H, gw4 H, gw5 H, gw6 H, cl0, cl1, cl2, cl3, cl4, cl5, cl6, cI_e, cV_e, cA_e, cJ_e, lt_, nw_r, nw_u]
  rw [s_181 H h2 h0 (by omega) (by omega), Int.toNat_one, show 10 + hi - 1 = 9 + hi by omega]
  simp only [gO_e (yt46 H), gV_e (yp46_36 H), gV_e (yp46_18 H), gV_e (yp46_19 H), gV_e (yp46_20 H), gV_e (yp46_37 H), gV_e (yp46_38 H), gV_e (yp46_39 H), gV_e (yp46_40 H), gV_e (yp46_43 H), gn0 H, gn1 H, gn2 H, gn3 H, gn4 H, gn5 H, gn6 H, gw0 H, gw1 H, gw2 H, gw3 H, gw4 H, gw5 H, gw6 H, cl0, cl1, cl2, cl3, cl4, cl5, cl6, cI_e, cV_e, cA_e, cJ_e, lt_, nw_r, nw_u]
  rw [hq]
  · repeat (first | rw [if_pos (by decide)] | rw [if_neg (by decide)])
    rw [s_183]
    simp only [gO_e (yt46 H), gV_e (yp46_36 H), gV_e (yp46_18 H), gV_e (yp46_19 H), gV_e (yp46_20 H), gV_e (yp46_37 H), gV_e (yp46_38 H), gV_e (yp46_39 H), gV_e (yp46_40 H), gV_e (yp46_43 H), gn0 H, gn1 H, gn2 H, gn3 H, gn4 H, gn5 H, gn6 H, gw0 H, gw1 H, gw2 H, gw3 H, gw4 H, gw5 H, gw6 H, cl0, cl1, cl2, cl3, cl4, cl5, cl6, cI_e, cV_e, cA_e, cJ_e, lt_, nw_r, nw_u]
    rw [gA_e (yt65 H) (Or.inl rfl) (ix (by omega) (by omega) (by omega)), it_cl (by omega) (by omega), show (154 + 12 * (q : Int) + 2).toNat = 156 + 12 * q by omega]
    rfl
theorem s_192e (H : Lay B w) (h2 : n 2 = it hi) (h0 : hi ≤ 30) (hq : lfree (fun q => n (154 + 12 * q)) 16 1 = q) (q1 : 1 ≤ q) (q2 : q ≤ 16) : Cl K (d + 3) 192 [.ref (B + 46), .int (it 10), .int a] w (nw B n I) J = some (some (.int (it q)), w, nw B (ap [(154 + 12 * q, it 1), (155 + 12 * q, n (9 + hi)), (156 + 12 * q, it 0)] n) I, J) := by
  apply cl_192 (k := 0)
  unfold f_192
  simp only [it_lit, gO_e (yt46 H), gV_e (yp46_36 H), gV_e (yp46_18 H), gV_e (yp46_19 H), gV_e (yp46_20 H), gV_e (yp46_37 H), gV_e (yp46_38 H), gV_e (yp46_39 H), gV_e (yp46_40 H), gV_e (yp46_43 H), gn0 H, gn1 H, gn2 H, gn3 H, gn4 H, gn5 H, gn6 H, gw0 H, gw1 H, gw2 H, gw3 H, gw4 H, gw5 H, gw6 H, cl0, cl1, cl2, cl3, cl4, cl5, cl6, cI_e, cV_e, cA_e, cJ_e, lt_, nw_r, nw_u]
  rw [s_181 H h2 h0 (by omega) (by omega), Int.toNat_one, show 10 + hi - 1 = 9 + hi by omega]
  simp only [gO_e (yt46 H), gV_e (yp46_36 H), gV_e (yp46_18 H), gV_e (yp46_19 H), gV_e (yp46_20 H), gV_e (yp46_37 H), gV_e (yp46_38 H), gV_e (yp46_39 H), gV_e (yp46_40 H), gV_e (yp46_43 H), gn0 H, gn1 H, gn2 H, gn3 H, gn4 H, gn5 H, gn6 H, gw0 H, gw1 H, gw2 H, gw3 H, gw4 H, gw5 H, gw6 H, cl0, cl1, cl2, cl3, cl4, cl5, cl6, cI_e, cV_e, cA_e, cJ_e, lt_, nw_r, nw_u]
  repeat (first | rw [if_pos (by decide)] | rw [if_neg (by decide)])
  rw [s_184 H, hq]
  simp only [gO_e (yt46 H), gV_e (yp46_36 H), gV_e (yp46_18 H), gV_e (yp46_19 H), gV_e (yp46_20 H), gV_e (yp46_37 H), gV_e (yp46_38 H), gV_e (yp46_39 H), gV_e (yp46_40 H), gV_e (yp46_43 H), gn0 H, gn1 H, gn2 H, gn3 H, gn4 H, gn5 H, gn6 H, gw0 H, gw1 H, gw2 H, gw3 H, gw4 H, gw5 H, gw6 H, cl0, cl1, cl2, cl3, cl4, cl5, cl6, cI_e, cV_e, cA_e, cJ_e, lt_, nw_r, nw_u]
  refine Eq.trans (congrArg (fun t => cI t _) (s_193 (o := 10) H (Or.inl rfl) q1 q2)) ?_
  rfl
theorem s_192f (H : Lay B w) (h2 : n 2 = it hi) (h0 : hi ≤ 30) {i : Nat} (hi2 : n (9 + hi) = it i) (i9 : i < 9) (hq : n (8 + hi) = it q) (q2 : q ≤ 16) : Cl K (d + 3) 192 [.ref (B + 46), .int (it 11), .int a] w (nw B n I) J = some (some (.int (n (157 + 12 * q + i))), w, nw B (ap [] n) I, J) := by
  apply cl_192 (k := 0)
  unfold f_192
  simp only [it_lit, gO_e (yt46 H), gV_e (yp46_36 H), gV_e (yp46_18 H), gV_e (yp46_19 H), gV_e (yp46_20 H), gV_e (yp46_37 H), gV_e (yp46_38 H), gV_e (yp46_39 H), gV_e (yp46_40 H), gV_e (yp46_43 H), gn0 H, gn1 H, gn2 H, gn3 H, gn4 H, gn5 H, gn6 H, gw0 H, gw1 H, gw2 H, gw3 H, gw4 H, gw5 H, gw6 H, cl0, cl1, cl2, cl3, cl4, cl5, cl6, cI_e, cV_e, cA_e, cJ_e, lt_, nw_r, nw_u]
  rw [s_181 H h2 h0 (by omega) (by omega), Int.toNat_one, show 10 + hi - 1 = 9 + hi by omega]
  simp only [gO_e (yt46 H), gV_e (yp46_36 H), gV_e (yp46_18 H), gV_e (yp46_19 H), gV_e (yp46_20 H), gV_e (yp46_37 H), gV_e (yp46_38 H), gV_e (yp46_39 H), gV_e (yp46_40 H), gV_e (yp46_43 H), gn0 H, gn1 H, gn2 H, gn3 H, gn4 H, gn5 H, gn6 H, gw0 H, gw1 H, gw2 H, gw3 H, gw4 H, gw5 H, gw6 H, cl0, cl1, cl2, cl3, cl4, cl5, cl6, cI_e, cV_e, cA_e, cJ_e, lt_, nw_r, nw_u]
  rw [hi2]
  repeat (first | rw [if_pos (by decide)] | rw [if_neg (by decide)])
  rw [s_181 H h2 h0 (by omega) (by omega), show (2 : Int).toNat = 2 from rfl, show 10 + hi - 2 = 8 + hi by omega]
  simp only [gO_e (yt46 H), gV_e (yp46_36 H), gV_e (yp46_18 H), gV_e (yp46_19 H), gV_e (yp46_20 H), gV_e (yp46_37 H), gV_e (yp46_38 H), gV_e (yp46_39 H), gV_e (yp46_40 H), gV_e (yp46_43 H), gn0 H, gn1 H, gn2 H, gn3 H, gn4 H, gn5 H, gn6 H, gw0 H, gw1 H, gw2 H, gw3 H, gw4 H, gw5 H, gw6 H, cl0, cl1, cl2, cl3, cl4, cl5, cl6, cI_e, cV_e, cA_e, cJ_e, lt_, nw_r, nw_u]
  rw [hq, it_add, s_183]
  simp only [gO_e (yt46 H), gV_e (yp46_36 H), gV_e (yp46_18 H), gV_e (yp46_19 H), gV_e (yp46_20 H), gV_e (yp46_37 H), gV_e (yp46_38 H), gV_e (yp46_39 H), gV_e (yp46_40 H), gV_e (yp46_43 H), gn0 H, gn1 H, gn2 H, gn3 H, gn4 H, gn5 H, gn6 H, gw0 H, gw1 H, gw2 H, gw3 H, gw4 H, gw5 H, gw6 H, cl0, cl1, cl2, cl3, cl4, cl5, cl6, cI_e, cV_e, cA_e, cJ_e, lt_, nw_r, nw_u]
  rw [gA_e (yt65 H) (Or.inl rfl) (ix (by omega) (by omega) (by omega)), it_cl (by omega) (by omega), show (154 + 12 * (q : Int) + (3 + i)).toNat = 157 + 12 * q + i by omega]
  rfl
theorem s_192g (H : Lay B w) (h2 : n 2 = it hi) (h0 : hi ≤ 30) (hq : lfree (fun q => n (154 + 12 * q)) 16 1 = q) (q1 : 1 ≤ q) (q2 : q ≤ 16) : Cl K (d + 3) 192 [.ref (B + 46), .int (it 12), .int a] w (nw B n I) J = some (some (.int (it q)), w, nw B (ap [(154 + 12 * q, it 2), (155 + 12 * q, n (8 + hi)), (156 + 12 * q, n (9 + hi))] n) I, J) := by
  apply cl_192 (k := 0)
  unfold f_192
  simp only [it_lit, gO_e (yt46 H), gV_e (yp46_36 H), gV_e (yp46_18 H), gV_e (yp46_19 H), gV_e (yp46_20 H), gV_e (yp46_37 H), gV_e (yp46_38 H), gV_e (yp46_39 H), gV_e (yp46_40 H), gV_e (yp46_43 H), gn0 H, gn1 H, gn2 H, gn3 H, gn4 H, gn5 H, gn6 H, gw0 H, gw1 H, gw2 H, gw3 H, gw4 H, gw5 H, gw6 H, cl0, cl1, cl2, cl3, cl4, cl5, cl6, cI_e, cV_e, cA_e, cJ_e, lt_, nw_r, nw_u]
  rw [s_181 H h2 h0 (by omega) (by omega), Int.toNat_one, show 10 + hi - 1 = 9 + hi by omega]
  simp only [gO_e (yt46 H), gV_e (yp46_36 H), gV_e (yp46_18 H), gV_e (yp46_19 H), gV_e (yp46_20 H), gV_e (yp46_37 H), gV_e (yp46_38 H), gV_e (yp46_39 H), gV_e (yp46_40 H), gV_e (yp46_43 H), gn0 H, gn1 H, gn2 H, gn3 H, gn4 H, gn5 H, gn6 H, gw0 H, gw1 H, gw2 H, gw3 H, gw4 H, gw5 H, gw6 H, cl0, cl1, cl2, cl3, cl4, cl5, cl6, cI_e, cV_e, cA_e, cJ_e, lt_, nw_r, nw_u]
  repeat (first | rw [if_pos (by decide)] | rw [if_neg (by decide)])
  rw [s_184 H, hq]
  simp only [gO_e (yt46 H), gV_e (yp46_36 H), gV_e (yp46_18 H), gV_e (yp46_19 H), gV_e (yp46_20 H), gV_e (yp46_37 H), gV_e (yp46_38 H), gV_e (yp46_39 H), gV_e (yp46_40 H), gV_e (yp46_43 H), gn0 H, gn1 H, gn2 H, gn3 H, gn4 H, gn5 H, gn6 H, gw0 H, gw1 H, gw2 H, gw3 H, gw4 H, gw5 H, gw6 H, cl0, cl1, cl2, cl3, cl4, cl5, cl6, cI_e, cV_e, cA_e, cJ_e, lt_, nw_r, nw_u]
  rw [s_181 H h2 h0 (by omega) (by omega), show (2 : Int).toNat = 2 from rfl, show 10 + hi - 2 = 8 + hi by omega]
  simp only [gO_e (yt46 H), gV_e (yp46_36 H), gV_e (yp46_18 H), gV_e (yp46_19 H), gV_e (yp46_20 H), gV_e (yp46_37 H), gV_e (yp46_38 H), gV_e (yp46_39 H), gV_e (yp46_40 H), gV_e (yp46_43 H), gn0 H, gn1 H, gn2 H, gn3 H, gn4 H, gn5 H, gn6 H, gw0 H, gw1 H, gw2 H, gw3 H, gw4 H, gw5 H, gw6 H, cl0, cl1, cl2, cl3, cl4, cl5, cl6, cI_e, cV_e, cA_e, cJ_e, lt_, nw_r, nw_u]
  refine Eq.trans (congrArg (fun t => cI t _) (s_193 (o := 12) H (Or.inr rfl) q1 q2)) ?_
  rfl
theorem s_192h (H : Lay B w) (h2 : n 2 = it hi) (h0 : hi ≤ 30) (o1 : 13 ≤ o) (o2 : o ≤ 20) (hz : o = 20 → ¬ n (9 + hi) = it 0) : Cl K (d + 3) 192 [.ref (B + 46), .int (it o), .int a] w (nw B n I) J = some (some (.int (vOp o (n (8 + hi)) (n (9 + hi)))), w, nw B (ap [] n) I, J) := by
  apply cl_192 (k := 0)
  unfold f_192
  simp only [it_lit, gO_e (yt46 H), gV_e (yp46_36 H), gV_e (yp46_18 H), gV_e (yp46_19 H), gV_e (yp46_20 H), gV_e (yp46_37 H), gV_e (yp46_38 H), gV_e (yp46_39 H), gV_e (yp46_40 H), gV_e (yp46_43 H), gn0 H, gn1 H, gn2 H, gn3 H, gn4 H, gn5 H, gn6 H, gw0 H, gw1 H, gw2 H, gw3 H, gw4 H, gw5 H, gw6 H, cl0, cl1, cl2, cl3, cl4, cl5, cl6, cI_e, cV_e, cA_e, cJ_e, lt_, nw_r, nw_u]
  rw [s_181 H h2 h0 (by omega) (by omega), Int.toNat_one, show 10 + hi - 1 = 9 + hi by omega]
  simp only [gO_e (yt46 H), gV_e (yp46_36 H), gV_e (yp46_18 H), gV_e (yp46_19 H), gV_e (yp46_20 H), gV_e (yp46_37 H), gV_e (yp46_38 H), gV_e (yp46_39 H), gV_e (yp46_40 H), gV_e (yp46_43 H), gn0 H, gn1 H, gn2 H, gn3 H, gn4 H, gn5 H, gn6 H, gw0 H, gw1 H, gw2 H, gw3 H, gw4 H, gw5 H, gw6 H, cl0, cl1, cl2, cl3, cl4, cl5, cl6, cI_e, cV_e, cA_e, cJ_e, lt_, nw_r, nw_u]
  have ho : o = 13 ∨ o = 14 ∨ o = 15 ∨ o = 16 ∨ o = 17 ∨ o = 18 ∨ o = 19 ∨ o = 20 := by omega
  have hh : cI (Cl K (d + 2) 181 [Value.ref (B + 46), Value.int (it 2)] w (nw B n I) J) (fun x_52 w_49 I_50 J_51 => cI (Cl K (d + 2) 194 [Value.int (it o), Value.int x_52, Value.int (n (9 + hi))] w_49 I_50 J_51) fun x_56 w_53 I_54 J_55 => some (some (Value.int x_56), w_53, I_54, J_55)) = some (some (Value.int (vOp o (n (8 + hi)) (n (9 + hi)))), w, nw B (ap [] n) I, J) := by
    rw [s_181 H h2 h0 (by omega) (by omega), show (2 : Int).toNat = 2 from rfl, show 10 + hi - 2 = 8 + hi by omega]
    simp only [gO_e (yt46 H), gV_e (yp46_36 H), gV_e (yp46_18 H), gV_e (yp46_19 H), gV_e (yp46_20 H), gV_e (yp46_37 H), gV_e (yp46_38 H), gV_e (yp46_39 H), gV_e (yp46_40 H), gV_e (yp46_43 H), gn0 H, gn1 H, gn2 H, gn3 H, gn4 H, gn5 H, gn6 H, gw0 H, gw1 H, gw2 H, gw3 H, gw4 H, gw5 H, gw6 H, cl0, cl1, cl2, cl3, cl4, cl5, cl6, cI_e, cV_e, cA_e, cJ_e, lt_, nw_r, nw_u]
    rw [s_194 o1 o2 hz]
    rfl
  rcases ho with rfl | rfl | rfl | rfl | rfl | rfl | rfl | rfl <;> (repeat (first | rw [if_pos (by decide)] | rw [if_neg (by decide)]); exact hh)
theorem s_195a (H : Lay B w) (h2 : n 2 = it hi) (h0 : hi ≤ 30) (z0 : 0 ≤ z) (z6 : z < 6) (f1 : 1 ≤ fr) (f2 : fr ≤ 8) : Cl K (d + 2) 195 [.ref (B + 46), .int (it 21), .int (it z), .int (it (70 + 8 * ((fr : Int) - 1)))] w (nw B n I) J = some (none, w, nw B (ap [(72 + 8 * (fr - 1) + z.toNat, n (9 + hi))] n) I, J) := by
  apply cl_195 (k := 0)
  unfold f_195
  simp only [it_lit, gO_e (yt46 H), gV_e (yp46_36 H), gV_e (yp46_18 H), gV_e (yp46_19 H), gV_e (yp46_20 H), gV_e (yp46_37 H), gV_e (yp46_38 H), gV_e (yp46_39 H), gV_e (yp46_40 H), gV_e (yp46_43 H), gn0 H, gn1 H, gn2 H, gn3 H, gn4 H, gn5 H, gn6 H, gw0 H, gw1 H, gw2 H, gw3 H, gw4 H, gw5 H, gw6 H, cl0, cl1, cl2, cl3, cl4, cl5, cl6, cI_e, cV_e, cA_e, cJ_e, lt_, nw_r, nw_u, it_add]
  repeat (first | rw [if_pos (by decide)] | rw [if_neg (by decide)])
  rw [s_181 H h2 h0 (by omega) (by omega), Int.toNat_one, show 10 + hi - 1 = 9 + hi by omega]
  simp only [gO_e (yt46 H), gV_e (yp46_36 H), gV_e (yp46_18 H), gV_e (yp46_19 H), gV_e (yp46_20 H), gV_e (yp46_37 H), gV_e (yp46_38 H), gV_e (yp46_39 H), gV_e (yp46_40 H), gV_e (yp46_43 H), gn0 H, gn1 H, gn2 H, gn3 H, gn4 H, gn5 H, gn6 H, gw0 H, gw1 H, gw2 H, gw3 H, gw4 H, gw5 H, gw6 H, cl0, cl1, cl2, cl3, cl4, cl5, cl6, cI_e, cV_e, cA_e, cJ_e, lt_, nw_r, nw_u]
  rw [gA_e (yt65 H) (Or.inl rfl) (ix (by omega) (by omega) (by omega)), it_cl (by omega) (by omega), show (70 + 8 * ((fr : Int) - 1) + 2 + z).toNat = 72 + 8 * (fr - 1) + z.toNat by omega]
  rfl
theorem s_195b (H : Lay B w) (h2 : n 2 = it hi) (h0 : hi ≤ 30) {i : Nat} (hi2 : n (8 + hi) = it i) (i9 : i < 9) (hq : n (7 + hi) = it q) (q2 : q ≤ 16) : Cl K (d + 2) 195 [.ref (B + 46), .int (it 22), .int (it z), .int (it (70 + 8 * ((fr : Int) - 1)))] w (nw B n I) J = some (none, w, nw B (ap [(157 + 12 * q + i, n (9 + hi))] n) I, J) := by
  apply cl_195 (k := 0)
  unfold f_195
  simp only [it_lit, gO_e (yt46 H), gV_e (yp46_36 H), gV_e (yp46_18 H), gV_e (yp46_19 H), gV_e (yp46_20 H), gV_e (yp46_37 H), gV_e (yp46_38 H), gV_e (yp46_39 H), gV_e (yp46_40 H), gV_e (yp46_43 H), gn0 H, gn1 H, gn2 H, gn3 H, gn4 H, gn5 H, gn6 H, gw0 H, gw1 H, gw2 H, gw3 H, gw4 H, gw5 H, gw6 H, cl0, cl1, cl2, cl3, cl4, cl5, cl6, cI_e, cV_e, cA_e, cJ_e, lt_, nw_r, nw_u, it_add]
  repeat (first | rw [if_pos (by decide)] | rw [if_neg (by decide)])
  rw [s_181 H h2 h0 (by omega) (by omega), show (3 : Int).toNat = 3 from rfl, show 10 + hi - 3 = 7 + hi by omega, hq]
  simp only [gO_e (yt46 H), gV_e (yp46_36 H), gV_e (yp46_18 H), gV_e (yp46_19 H), gV_e (yp46_20 H), gV_e (yp46_37 H), gV_e (yp46_38 H), gV_e (yp46_39 H), gV_e (yp46_40 H), gV_e (yp46_43 H), gn0 H, gn1 H, gn2 H, gn3 H, gn4 H, gn5 H, gn6 H, gw0 H, gw1 H, gw2 H, gw3 H, gw4 H, gw5 H, gw6 H, cl0, cl1, cl2, cl3, cl4, cl5, cl6, cI_e, cV_e, cA_e, cJ_e, lt_, nw_r, nw_u]
  rw [s_181 H h2 h0 (by omega) (by omega), show (2 : Int).toNat = 2 from rfl, show 10 + hi - 2 = 8 + hi by omega]
  simp only [gO_e (yt46 H), gV_e (yp46_36 H), gV_e (yp46_18 H), gV_e (yp46_19 H), gV_e (yp46_20 H), gV_e (yp46_37 H), gV_e (yp46_38 H), gV_e (yp46_39 H), gV_e (yp46_40 H), gV_e (yp46_43 H), gn0 H, gn1 H, gn2 H, gn3 H, gn4 H, gn5 H, gn6 H, gw0 H, gw1 H, gw2 H, gw3 H, gw4 H, gw5 H, gw6 H, cl0, cl1, cl2, cl3, cl4, cl5, cl6, cI_e, cV_e, cA_e, cJ_e, lt_, nw_r, nw_u]
  rw [hi2, it_add, s_183]
  simp only [gO_e (yt46 H), gV_e (yp46_36 H), gV_e (yp46_18 H), gV_e (yp46_19 H), gV_e (yp46_20 H), gV_e (yp46_37 H), gV_e (yp46_38 H), gV_e (yp46_39 H), gV_e (yp46_40 H), gV_e (yp46_43 H), gn0 H, gn1 H, gn2 H, gn3 H, gn4 H, gn5 H, gn6 H, gw0 H, gw1 H, gw2 H, gw3 H, gw4 H, gw5 H, gw6 H, cl0, cl1, cl2, cl3, cl4, cl5, cl6, cI_e, cV_e, cA_e, cJ_e, lt_, nw_r, nw_u]
  rw [s_181 H h2 h0 (by omega) (by omega), Int.toNat_one, show 10 + hi - 1 = 9 + hi by omega]
  simp only [gO_e (yt46 H), gV_e (yp46_36 H), gV_e (yp46_18 H), gV_e (yp46_19 H), gV_e (yp46_20 H), gV_e (yp46_37 H), gV_e (yp46_38 H), gV_e (yp46_39 H), gV_e (yp46_40 H), gV_e (yp46_43 H), gn0 H, gn1 H, gn2 H, gn3 H, gn4 H, gn5 H, gn6 H, gw0 H, gw1 H, gw2 H, gw3 H, gw4 H, gw5 H, gw6 H, cl0, cl1, cl2, cl3, cl4, cl5, cl6, cI_e, cV_e, cA_e, cJ_e, lt_, nw_r, nw_u]
  rw [gA_e (yt65 H) (Or.inl rfl) (ix (by omega) (by omega) (by omega)), it_cl (by omega) (by omega), show (154 + 12 * (q : Int) + (3 + i)).toNat = 157 + 12 * q + i by omega]
  rfl
theorem s_195c (H : Lay B w) (h2 : n 2 = it hi) (h0 : hi ≤ 30) (h3 : n 3 = it pr) (p2 : pr < 20) : Cl K (d + 2) 195 [.ref (B + 46), .int (it 26), .int (it z), .int (it (70 + 8 * ((fr : Int) - 1)))] w (nw B n I) J = some (none, w, nw B (ap [(134 + pr, n (9 + hi)), (3, it (pr + 1))] n) I, J) := by
  apply cl_195 (k := 0)
  unfold f_195
  simp only [it_lit, gO_e (yt46 H), gV_e (yp46_36 H), gV_e (yp46_18 H), gV_e (yp46_19 H), gV_e (yp46_20 H), gV_e (yp46_37 H), gV_e (yp46_38 H), gV_e (yp46_39 H), gV_e (yp46_40 H), gV_e (yp46_43 H), gn0 H, gn1 H, gn2 H, gn3 H, gn4 H, gn5 H, gn6 H, gw0 H, gw1 H, gw2 H, gw3 H, gw4 H, gw5 H, gw6 H, cl0, cl1, cl2, cl3, cl4, cl5, cl6, cI_e, cV_e, cA_e, cJ_e, lt_, nw_r, nw_u, it_add]
  repeat (first | rw [if_pos (by decide)] | rw [if_neg (by decide)])
  rw [s_181 H h2 h0 (by omega) (by omega), Int.toNat_one, show 10 + hi - 1 = 9 + hi by omega]
  simp only [gO_e (yt46 H), gV_e (yp46_36 H), gV_e (yp46_18 H), gV_e (yp46_19 H), gV_e (yp46_20 H), gV_e (yp46_37 H), gV_e (yp46_38 H), gV_e (yp46_39 H), gV_e (yp46_40 H), gV_e (yp46_43 H), gn0 H, gn1 H, gn2 H, gn3 H, gn4 H, gn5 H, gn6 H, gw0 H, gw1 H, gw2 H, gw3 H, gw4 H, gw5 H, gw6 H, cl0, cl1, cl2, cl3, cl4, cl5, cl6, cI_e, cV_e, cA_e, cJ_e, lt_, nw_r, nw_u]
  rw [h3, it_add, gA_e (yt65 H) (Or.inl rfl) (ix (by omega) (by omega) (by omega)), it_cl (by omega) (by omega), show (134 + (pr : Int)).toNat = 134 + pr by omega]
  rw [up1_n (by omega), h3, it_add]
  rfl
theorem s_195d (H : Lay B w) (h2 : n 2 = it hi) (h0 : hi ≤ 30) (ho : o = 23 ∨ o = 24) : Cl K (d + 2) 195 [.ref (B + 46), .int (it o), .int (it z), .int (it (70 + 8 * ((fr : Int) - 1)))] w (nw B n I) J = some (none, w, nw B (ap [] n) I, J) := by
  apply cl_195 (k := 0)
  unfold f_195
  simp only [it_lit, gO_e (yt46 H), gV_e (yp46_36 H), gV_e (yp46_18 H), gV_e (yp46_19 H), gV_e (yp46_20 H), gV_e (yp46_37 H), gV_e (yp46_38 H), gV_e (yp46_39 H), gV_e (yp46_40 H), gV_e (yp46_43 H), gn0 H, gn1 H, gn2 H, gn3 H, gn4 H, gn5 H, gn6 H, gw0 H, gw1 H, gw2 H, gw3 H, gw4 H, gw5 H, gw6 H, cl0, cl1, cl2, cl3, cl4, cl5, cl6, cI_e, cV_e, cA_e, cJ_e, lt_, nw_r, nw_u, it_add]
  rcases ho with rfl | rfl <;> (repeat (first | rw [if_pos (by decide)] | rw [if_neg (by decide)]); rfl)
end MACT

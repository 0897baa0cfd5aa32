section XOP
variable {K : Nat → Value} {B d k s m hi fr : Nat} {w : aW} {I : aI} {J : aJ} {c : Nat → Int32} {z : Int}
theorem s_173a (H : Lay B w) (X : XM B s m c I) (h3 : c 3 = it hi) (h4 : c 4 = it fr) (f1 : 1 ≤ fr) (f2 : fr ≤ 8) (h0 : hi ≤ 30) (hm : m < 33) (h2 : 1 ≤ hi) : Cl K (d + 4) 173 [.ref (B + 29), .int (it 5)] w I J = some (some (.int (it 0)), w, wrs B s m (wR hi fr 1 (c (88 + 8 * (fr - 1))) (- c (6 + hi)) (it 0)) I, J) := by
  apply cl_173 (k := 0)
  unfold f_173
  have e1 : c (7 + hi - 1) = c (6 + hi) := congrArg c (by omega)
  simp only [it_lit, gO_e (yt29 H), gV_e (yp29_1 H), gc0 H, gc1 H, gc2 H, gc3 H, gc4 H, gc5 H, gc6 H, cl0, cl1, cl2, cl3, cl4, cl5, cl6, cI_e, cV_e, cA_e, cJ_e, lt_]
  rw [z_149 H X h3 h0 (by omega) (by omega)]
  simp only [gO_e (yt29 H), gV_e (yp29_1 H), gc0 H, gc1 H, gc2 H, gc3 H, gc4 H, gc5 H, gc6 H, cl0, cl1, cl2, cl3, cl4, cl5, cl6, cI_e, cV_e, cA_e, cJ_e, lt_, Int.reduceToNat, e1]
  rw [if_neg (by decide), z_161 H X h3 h4 f1 f2 h0 hm (by omega) (by omega) (by omega)]
  rfl
theorem s_173b (H : Lay B w) (X : XM B s m c I) (h3 : c 3 = it hi) (h4 : c 4 = it fr) (f1 : 1 ≤ fr) (f2 : fr ≤ 8) (h0 : hi ≤ 30) (hm : m < 33) (h2 : 1 ≤ hi) : Cl K (d + 4) 173 [.ref (B + 29), .int (it 6)] w I J = some (some (.int (it 0)), w, wrs B s m (wR hi fr 1 (c (88 + 8 * (fr - 1))) (it 1 - c (6 + hi)) (it 1)) I, J) := by
  apply cl_173 (k := 0)
  unfold f_173
  have e1 : c (7 + hi - 1) = c (6 + hi) := congrArg c (by omega)
  simp only [it_lit, gO_e (yt29 H), gV_e (yp29_1 H), gc0 H, gc1 H, gc2 H, gc3 H, gc4 H, gc5 H, gc6 H, cl0, cl1, cl2, cl3, cl4, cl5, cl6, cI_e, cV_e, cA_e, cJ_e, lt_]
  rw [z_149 H X h3 h0 (by omega) (by omega)]
  simp only [gO_e (yt29 H), gV_e (yp29_1 H), gc0 H, gc1 H, gc2 H, gc3 H, gc4 H, gc5 H, gc6 H, cl0, cl1, cl2, cl3, cl4, cl5, cl6, cI_e, cV_e, cA_e, cJ_e, lt_, Int.reduceToNat, e1]
  rw [if_pos (by decide), if_neg (by decide), z_161 H X h3 h4 f1 f2 h0 hm (by omega) (by omega) (by omega)]
  rfl
theorem s_173c {o q : Nat} (H : Lay B w) (X : XM B s m c I) (h3 : c 3 = it hi) (h4 : c 4 = it fr) (f1 : 1 ≤ fr) (f2 : fr ≤ 8) (h0 : hi ≤ 30) (hm : m < 33) (h2 : 1 ≤ hi) (ho : o = 7 ∨ o = 8) (hq : c (6 + hi) = it q) (q1 : 1 ≤ q) (q2 : q ≤ 16) : Cl K (d + 4) 173 [.ref (B + 29), .int (it o)] w I J = some (some (.int (it 0)), w, wrs B s m (wR hi fr 1 (c (88 + 8 * (fr - 1))) (c (141 + 11 * q)) (it 0)) I, J) := by
  apply cl_173 (k := 0)
  unfold f_173
  have e1 : c (7 + hi - 1) = it q := by rw [← hq]; exact congrArg c (by omega)
  simp only [it_lit, gO_e (yt29 H), gV_e (yp29_1 H), gc0 H, gc1 H, gc2 H, gc3 H, gc4 H, gc5 H, gc6 H, cl0, cl1, cl2, cl3, cl4, cl5, cl6, cI_e, cV_e, cA_e, cJ_e, lt_]
  rw [z_149 H X h3 h0 (by omega) (by omega)]
  simp only [gO_e (yt29 H), gV_e (yp29_1 H), gc0 H, gc1 H, gc2 H, gc3 H, gc4 H, gc5 H, gc6 H, cl0, cl1, cl2, cl3, cl4, cl5, cl6, cI_e, cV_e, cA_e, cJ_e, lt_, Int.reduceToNat, e1]
  have e0 : ¬ it (q : Int) = it 0 := by rw [it_eq (by omega) (by omega) (by omega) (by omega)]; omega
  rw [if_pos (by rw [it_eq (by omega) (by omega) (by omega) (by omega)]; omega), if_pos (by rw [it_eq (by omega) (by omega) (by omega) (by omega)]; omega), if_pos e0, if_pos (by rw [it_eq (by omega) (by omega) (by omega) (by omega)]; omega), s_152]
  simp only [gO_e (yt29 H), gV_e (yp29_1 H), gc0 H, gc1 H, gc2 H, gc3 H, gc4 H, gc5 H, gc6 H, cl0, cl1, cl2, cl3, cl4, cl5, cl6, cI_e, cV_e, cA_e, cJ_e, lt_, it_add]
  rw [z_147 H X (by omega) (by omega)]
  simp only [gO_e (yt29 H), gV_e (yp29_1 H), gc0 H, gc1 H, gc2 H, gc3 H, gc4 H, gc5 H, gc6 H, cl0, cl1, cl2, cl3, cl4, cl5, cl6, cI_e, cV_e, cA_e, cJ_e, lt_]
  rw [z_161 H X h3 h4 f1 f2 h0 hm (by omega) (by omega) (by omega)]
  simp only [gO_e (yt29 H), gV_e (yp29_1 H), gc0 H, gc1 H, gc2 H, gc3 H, gc4 H, gc5 H, gc6 H, cl0, cl1, cl2, cl3, cl4, cl5, cl6, cI_e, cV_e, cA_e, cJ_e, lt_]
  rw [show (151 + ((q : Int) - 1) * 11 + 1).toNat = 141 + 11 * q by omega]
  rfl
theorem s_173d {q : Nat} (H : Lay B w) (X : XM B s m c I) (h3 : c 3 = it hi) (h4 : c 4 = it fr) (f1 : 1 ≤ fr) (f2 : fr ≤ 8) (h0 : hi ≤ 30) (hm : m < 33) (h2 : 1 ≤ hi) (hq : c (6 + hi) = it q) (q1 : 1 ≤ q) (q2 : q ≤ 16) : Cl K (d + 4) 173 [.ref (B + 29), .int (it 9)] w I J = some (some (.int (it 0)), w, wrs B s m (wR hi fr 1 (c (88 + 8 * (fr - 1))) (c (142 + 11 * q)) (it 3)) I, J) := by
  apply cl_173 (k := 0)
  unfold f_173
  have e1 : c (7 + hi - 1) = it q := by rw [← hq]; exact congrArg c (by omega)
  simp only [it_lit, gO_e (yt29 H), gV_e (yp29_1 H), gc0 H, gc1 H, gc2 H, gc3 H, gc4 H, gc5 H, gc6 H, cl0, cl1, cl2, cl3, cl4, cl5, cl6, cI_e, cV_e, cA_e, cJ_e, lt_]
  rw [z_149 H X h3 h0 (by omega) (by omega)]
  simp only [gO_e (yt29 H), gV_e (yp29_1 H), gc0 H, gc1 H, gc2 H, gc3 H, gc4 H, gc5 H, gc6 H, cl0, cl1, cl2, cl3, cl4, cl5, cl6, cI_e, cV_e, cA_e, cJ_e, lt_, Int.reduceToNat, e1]
  have e0 : ¬ it (q : Int) = it 0 := by rw [it_eq (by omega) (by omega) (by omega) (by omega)]; omega
  rw [if_pos (by decide), if_pos (by decide), if_pos e0, if_neg (by decide), s_152]
  simp only [gO_e (yt29 H), gV_e (yp29_1 H), gc0 H, gc1 H, gc2 H, gc3 H, gc4 H, gc5 H, gc6 H, cl0, cl1, cl2, cl3, cl4, cl5, cl6, cI_e, cV_e, cA_e, cJ_e, lt_, it_add]
  rw [z_147 H X (by omega) (by omega)]
  simp only [gO_e (yt29 H), gV_e (yp29_1 H), gc0 H, gc1 H, gc2 H, gc3 H, gc4 H, gc5 H, gc6 H, cl0, cl1, cl2, cl3, cl4, cl5, cl6, cI_e, cV_e, cA_e, cJ_e, lt_]
  rw [z_161 H X h3 h4 f1 f2 h0 hm (by omega) (by omega) (by omega)]
  simp only [gO_e (yt29 H), gV_e (yp29_1 H), gc0 H, gc1 H, gc2 H, gc3 H, gc4 H, gc5 H, gc6 H, cl0, cl1, cl2, cl3, cl4, cl5, cl6, cI_e, cV_e, cA_e, cJ_e, lt_]
  rw [show (151 + ((q : Int) - 1) * 11 + 2).toNat = 142 + 11 * q by omega]
  rfl
theorem h_173 {o : Nat} (H : Lay B w) (X : XM B s m c I) (h3 : c 3 = it hi) (h4 : c 4 = it fr) (f1 : 1 ≤ fr) (f2 : fr ≤ 8) (h0 : hi ≤ 30) (h2 : 1 ≤ hi) (o1 : 7 ≤ o) (o2 : o ≤ 9) (hq : c (6 + hi) = it 0) : Cl K (d + 4) 173 [.ref (B + 29), .int (it o)] w I J = some (some (.int (it 4)), w, I, J) := by
  apply cl_173 (k := 0)
  unfold f_173
  have e1 : c (7 + hi - 1) = it 0 := by rw [← hq]; exact congrArg c (by omega)
  simp only [it_lit, gO_e (yt29 H), gV_e (yp29_1 H), gc0 H, gc1 H, gc2 H, gc3 H, gc4 H, gc5 H, gc6 H, cl0, cl1, cl2, cl3, cl4, cl5, cl6, cI_e, cV_e, cA_e, cJ_e, lt_]
  rw [z_149 H X h3 h0 (by omega) (by omega)]
  simp only [gO_e (yt29 H), gV_e (yp29_1 H), gc0 H, gc1 H, gc2 H, gc3 H, gc4 H, gc5 H, gc6 H, cl0, cl1, cl2, cl3, cl4, cl5, cl6, cI_e, cV_e, cA_e, cJ_e, lt_, Int.reduceToNat, e1]
  rw [if_pos (by rw [it_eq (by omega) (by omega) (by omega) (by omega)]; omega), if_pos (by rw [it_eq (by omega) (by omega) (by omega) (by omega)]; omega), if_neg (by simp)]
theorem s_168 {q sz : Nat} {x : Int} (H : Lay B w) (X : XM B s m c I) (q2 : q ≤ 16) (hs : 1 ≤ q → c (141 + 11 * q) = it sz) (z1 : sz ≤ 9) (x1 : -2147483648 ≤ x) (x2 : x < 2147483648) : Cl K (d + 2) 168 [.ref (B + 29), .int (it q), .int (it x)] w I J = some (some (.int (it (if q = 0 then 4 else if 0 ≤ x ∧ x < sz then 0 else 3))), w, I, J) := by
  apply cl_168 (k := 0)
  unfold f_168
  simp only [it_lit, gO_e (yt29 H), gV_e (yp29_1 H), gc0 H, gc1 H, gc2 H, gc3 H, gc4 H, gc5 H, gc6 H, cl0, cl1, cl2, cl3, cl4, cl5, cl6, cI_e, cV_e, cA_e, cJ_e, lt_]
  by_cases h0 : q = 0
  · subst h0
    rw [if_neg (fun q => q rfl), if_pos rfl]
  · rw [if_pos (by rw [it_eq (by omega) (by omega) (by omega) (by omega)]; omega), if_neg h0]
    by_cases hx : x < 0
    · rw [if_pos (by rw [it_lt (by omega) (by omega) (by omega) (by omega)]; omega), if_neg (by omega)]
    · rw [if_neg (by rw [it_lt (by omega) (by omega) (by omega) (by omega)]; omega), s_152]
      simp only [gO_e (yt29 H), gV_e (yp29_1 H), gc0 H, gc1 H, gc2 H, gc3 H, gc4 H, gc5 H, gc6 H, cl0, cl1, cl2, cl3, cl4, cl5, cl6, cI_e, cV_e, cA_e, cJ_e, lt_, it_add]
      rw [z_147 H X (by omega) (by omega)]
      simp only [gO_e (yt29 H), gV_e (yp29_1 H), gc0 H, gc1 H, gc2 H, gc3 H, gc4 H, gc5 H, gc6 H, cl0, cl1, cl2, cl3, cl4, cl5, cl6, cI_e, cV_e, cA_e, cJ_e, lt_]
      rw [show (151 + ((q : Int) - 1) * 11 + 1).toNat = 141 + 11 * q by omega, hs (by omega)]
      by_cases hy : x < sz
      · rw [if_pos ((it_lt (by omega) (by omega) (by omega) (by omega)).mpr hy), if_pos ⟨by omega, hy⟩]
      · rw [if_neg (fun q => hy ((it_lt (by omega) (by omega) (by omega) (by omega)).mp q)), if_neg (by omega)]
theorem s_167 {q sz i : Nat} (H : Lay B w) (X : XM B s m c I) (h3 : c 3 = it hi) (h4 : c 4 = it fr) (f1 : 1 ≤ fr) (f2 : fr ≤ 8) (h0 : hi ≤ 30) (hm : m < 33) (h2 : 2 ≤ hi) (hq : c (5 + hi) = it q) (q1 : 1 ≤ q) (q2 : q ≤ 16) (hs : c (141 + 11 * q) = it sz) (z1 : sz ≤ 9) (hx : c (6 + hi) = it i) (i2 : i < sz) : Cl K (d + 4) 167 [.ref (B + 29)] w I J = some (some (.int (it 0)), w, wrs B s m (wR hi fr 2 (c (88 + 8 * (fr - 1))) (c (142 + 11 * q + i)) (it 0)) I, J) := by
  apply cl_167 (k := 0)
  unfold f_167
  have e1 : c (7 + hi - 1) = it i := by rw [← hx]; exact congrArg c (by omega)
  have e2 : c (7 + hi - 2) = it q := by rw [← hq]; exact congrArg c (by omega)
  simp only [it_lit, gO_e (yt29 H), gV_e (yp29_1 H), gc0 H, gc1 H, gc2 H, gc3 H, gc4 H, gc5 H, gc6 H, cl0, cl1, cl2, cl3, cl4, cl5, cl6, cI_e, cV_e, cA_e, cJ_e, lt_]
  rw [z_149 H X h3 h0 (by omega) (by omega)]
  simp only [gO_e (yt29 H), gV_e (yp29_1 H), gc0 H, gc1 H, gc2 H, gc3 H, gc4 H, gc5 H, gc6 H, cl0, cl1, cl2, cl3, cl4, cl5, cl6, cI_e, cV_e, cA_e, cJ_e, lt_]
  rw [z_149 H X h3 h0 (by omega) (by omega)]
  simp only [gO_e (yt29 H), gV_e (yp29_1 H), gc0 H, gc1 H, gc2 H, gc3 H, gc4 H, gc5 H, gc6 H, cl0, cl1, cl2, cl3, cl4, cl5, cl6, cI_e, cV_e, cA_e, cJ_e, lt_, Int.reduceToNat, e1, e2]
  have e0 : (if q = 0 then (4 : Int) else if 0 ≤ (i : Int) ∧ (i : Int) < sz then 0 else 3) = 0 := by rw [if_neg (by omega), if_pos (by omega)]
  rw [s_168 H X q2 (fun _ => hs) z1 (by omega) (by omega), e0]
  simp only [gO_e (yt29 H), gV_e (yp29_1 H), gc0 H, gc1 H, gc2 H, gc3 H, gc4 H, gc5 H, gc6 H, cl0, cl1, cl2, cl3, cl4, cl5, cl6, cI_e, cV_e, cA_e, cJ_e, lt_]
  rw [if_pos trivial, s_152]
  simp only [gO_e (yt29 H), gV_e (yp29_1 H), gc0 H, gc1 H, gc2 H, gc3 H, gc4 H, gc5 H, gc6 H, cl0, cl1, cl2, cl3, cl4, cl5, cl6, cI_e, cV_e, cA_e, cJ_e, lt_, it_add]
  rw [z_147 H X (by omega) (by omega)]
  simp only [gO_e (yt29 H), gV_e (yp29_1 H), gc0 H, gc1 H, gc2 H, gc3 H, gc4 H, gc5 H, gc6 H, cl0, cl1, cl2, cl3, cl4, cl5, cl6, cI_e, cV_e, cA_e, cJ_e, lt_]
  rw [z_161 H X h3 h4 f1 f2 h0 hm (by omega) (by omega) (by omega)]
  simp only [gO_e (yt29 H), gV_e (yp29_1 H), gc0 H, gc1 H, gc2 H, gc3 H, gc4 H, gc5 H, gc6 H, cl0, cl1, cl2, cl3, cl4, cl5, cl6, cI_e, cV_e, cA_e, cJ_e, lt_]
  rw [show (151 + ((q : Int) - 1) * 11 + 2 + i).toNat = 142 + 11 * q + i by omega]
  rfl
theorem h_167 {q sz : Nat} {x : Int} (H : Lay B w) (X : XM B s m c I) (h3 : c 3 = it hi) (h4 : c 4 = it fr) (f1 : 1 ≤ fr) (f2 : fr ≤ 8) (h0 : hi ≤ 30) (h2 : 2 ≤ hi) (hq : c (5 + hi) = it q) (q2 : q ≤ 16) (hs : 1 ≤ q → c (141 + 11 * q) = it sz) (z1 : sz ≤ 9) (hx : c (6 + hi) = it x) (x1 : -2147483648 ≤ x) (x2 : x < 2147483648) (hn : q = 0 ∨ ¬ (0 ≤ x ∧ x < sz)) : Cl K (d + 4) 167 [.ref (B + 29)] w I J = some (some (.int (it (if q = 0 then 4 else 3))), w, I, J) := by
  apply cl_167 (k := 0)
  unfold f_167
  have e1 : c (7 + hi - 1) = it x := by rw [← hx]; exact congrArg c (by omega)
  have e2 : c (7 + hi - 2) = it q := by rw [← hq]; exact congrArg c (by omega)
  simp only [it_lit, gO_e (yt29 H), gV_e (yp29_1 H), gc0 H, gc1 H, gc2 H, gc3 H, gc4 H, gc5 H, gc6 H, cl0, cl1, cl2, cl3, cl4, cl5, cl6, cI_e, cV_e, cA_e, cJ_e, lt_]
  rw [z_149 H X h3 h0 (by omega) (by omega)]
  simp only [gO_e (yt29 H), gV_e (yp29_1 H), gc0 H, gc1 H, gc2 H, gc3 H, gc4 H, gc5 H, gc6 H, cl0, cl1, cl2, cl3, cl4, cl5, cl6, cI_e, cV_e, cA_e, cJ_e, lt_]
  rw [z_149 H X h3 h0 (by omega) (by omega)]
  simp only [gO_e (yt29 H), gV_e (yp29_1 H), gc0 H, gc1 H, gc2 H, gc3 H, gc4 H, gc5 H, gc6 H, cl0, cl1, cl2, cl3, cl4, cl5, cl6, cI_e, cV_e, cA_e, cJ_e, lt_, Int.reduceToNat, e1, e2]
  have e0 : (if q = 0 then (4 : Int) else if 0 ≤ x ∧ x < sz then 0 else 3) = if q = 0 then 4 else 3 := by
    by_cases h : q = 0
    · rw [if_pos h, if_pos h]
    · rw [if_neg h, if_neg (by omega), if_neg h]
  rw [s_168 H X q2 hs z1 (by omega) (by omega), e0]
  simp only [gO_e (yt29 H), gV_e (yp29_1 H), gc0 H, gc1 H, gc2 H, gc3 H, gc4 H, gc5 H, gc6 H, cl0, cl1, cl2, cl3, cl4, cl5, cl6, cI_e, cV_e, cA_e, cJ_e, lt_]
  rw [if_neg]
  by_cases h : q = 0
  · rw [if_pos h]; decide
  · rw [if_neg h]; decide
/-- an index into a row that is stored -/
theorem s_169 {q sz i : Nat} (H : Lay B w) (X : XM B s m c I) (h3 : c 3 = it hi) (h4 : c 4 = it fr) (f1 : 1 ≤ fr) (f2 : fr ≤ 8) (h0 : hi ≤ 30) (hm : m < 33) (h2 : 3 ≤ hi) (hq : c (4 + hi) = it q) (q1 : 1 ≤ q) (q2 : q ≤ 16) (hs : c (141 + 11 * q) = it sz) (z1 : sz ≤ 9) (hx : c (5 + hi) = it i) (i2 : i < sz) : Cl K (d + 4) 169 [.ref (B + 29)] w I J = some (some (.int (it 0)), w, wrs B s m ((142 + 11 * q + i, c (6 + hi)) :: wD hi fr 3 (c (88 + 8 * (fr - 1)))) I, J) := by
  apply cl_169 (k := 0)
  unfold f_169
  have e1 : c (7 + hi - 1) = c (6 + hi) := congrArg c (by omega)
  have e2 : c (7 + hi - 2) = it i := by rw [← hx]; exact congrArg c (by omega)
  have e3 : c (7 + hi - 3) = it q := by rw [← hq]; exact congrArg c (by omega)
  simp only [it_lit, gO_e (yt29 H), gV_e (yp29_1 H), gc0 H, gc1 H, gc2 H, gc3 H, gc4 H, gc5 H, gc6 H, cl0, cl1, cl2, cl3, cl4, cl5, cl6, cI_e, cV_e, cA_e, cJ_e, lt_]
  rw [z_149 H X h3 h0 (by omega) (by omega)]
  simp only [gO_e (yt29 H), gV_e (yp29_1 H), gc0 H, gc1 H, gc2 H, gc3 H, gc4 H, gc5 H, gc6 H, cl0, cl1, cl2, cl3, cl4, cl5, cl6, cI_e, cV_e, cA_e, cJ_e, lt_]
  rw [z_149 H X h3 h0 (by omega) (by omega)]
  simp only [gO_e (yt29 H), gV_e (yp29_1 H), gc0 H, gc1 H, gc2 H, gc3 H, gc4 H, gc5 H, gc6 H, cl0, cl1, cl2, cl3, cl4, cl5, cl6, cI_e, cV_e, cA_e, cJ_e, lt_, Int.reduceToNat, e2, e3]
  have e0 : (if q = 0 then (4 : Int) else if 0 ≤ (i : Int) ∧ (i : Int) < sz then 0 else 3) = 0 := by rw [if_neg (by omega), if_pos (by omega)]
  rw [s_168 H X q2 (fun _ => hs) z1 (by omega) (by omega), e0]
  simp only [gO_e (yt29 H), gV_e (yp29_1 H), gc0 H, gc1 H, gc2 H, gc3 H, gc4 H, gc5 H, gc6 H, cl0, cl1, cl2, cl3, cl4, cl5, cl6, cI_e, cV_e, cA_e, cJ_e, lt_]
  rw [if_pos trivial, s_152]
  simp only [gO_e (yt29 H), gV_e (yp29_1 H), gc0 H, gc1 H, gc2 H, gc3 H, gc4 H, gc5 H, gc6 H, cl0, cl1, cl2, cl3, cl4, cl5, cl6, cI_e, cV_e, cA_e, cJ_e, lt_, it_add]
  rw [z_149 H X h3 h0 (by omega) (by omega)]
  simp only [gO_e (yt29 H), gV_e (yp29_1 H), gc0 H, gc1 H, gc2 H, gc3 H, gc4 H, gc5 H, gc6 H, cl0, cl1, cl2, cl3, cl4, cl5, cl6, cI_e, cV_e, cA_e, cJ_e, lt_, Int.reduceToNat, e1]
  rw [z_144 H X (by omega) (by omega) (by omega)]
  simp only [gO_e (yt29 H), gV_e (yp29_1 H), gc0 H, gc1 H, gc2 H, gc3 H, gc4 H, gc5 H, gc6 H, cl0, cl1, cl2, cl3, cl4, cl5, cl6, cI_e, cV_e, cA_e, cJ_e, lt_]
  rw [show (151 + ((q : Int) - 1) * 11 + 2 + i).toNat = 142 + 11 * q + i by omega]
  have X1 := X.wr (142 + 11 * q + i) (c (6 + hi))
  rw [z_164 H X1 (hi := hi) (fr := fr) (by rw [up1_n (by omega)]; exact h3) (by rw [up1_n (by omega)]; exact h4) f1 f2 h0 (by omega) (by omega) (by omega)]
  simp only [gO_e (yt29 H), gV_e (yp29_1 H), gc0 H, gc1 H, gc2 H, gc3 H, gc4 H, gc5 H, gc6 H, cl0, cl1, cl2, cl3, cl4, cl5, cl6, cI_e, cV_e, cA_e, cJ_e, lt_]
  rw [up1_n (by omega)]
  rfl
theorem h_169 {q sz : Nat} {x : Int} (H : Lay B w) (X : XM B s m c I) (h3 : c 3 = it hi) (h4 : c 4 = it fr) (f1 : 1 ≤ fr) (f2 : fr ≤ 8) (h0 : hi ≤ 30) (h2 : 3 ≤ hi) (hq : c (4 + hi) = it q) (q2 : q ≤ 16) (hs : 1 ≤ q → c (141 + 11 * q) = it sz) (z1 : sz ≤ 9) (hx : c (5 + hi) = it x) (x1 : -2147483648 ≤ x) (x2 : x < 2147483648) (hn : q = 0 ∨ ¬ (0 ≤ x ∧ x < sz)) : Cl K (d + 4) 169 [.ref (B + 29)] w I J = some (some (.int (it (if q = 0 then 4 else 3))), w, I, J) := by
  apply cl_169 (k := 0)
  unfold f_169
  have e2 : c (7 + hi - 2) = it x := by rw [← hx]; exact congrArg c (by omega)
  have e3 : c (7 + hi - 3) = it q := by rw [← hq]; exact congrArg c (by omega)
  simp only [it_lit, gO_e (yt29 H), gV_e (yp29_1 H), gc0 H, gc1 H, gc2 H, gc3 H, gc4 H, gc5 H, gc6 H, cl0, cl1, cl2, cl3, cl4, cl5, cl6, cI_e, cV_e, cA_e, cJ_e, lt_]
  rw [z_149 H X h3 h0 (by omega) (by omega)]
  simp only [gO_e (yt29 H), gV_e (yp29_1 H), gc0 H, gc1 H, gc2 H, gc3 H, gc4 H, gc5 H, gc6 H, cl0, cl1, cl2, cl3, cl4, cl5, cl6, cI_e, cV_e, cA_e, cJ_e, lt_]
  rw [z_149 H X h3 h0 (by omega) (by omega)]
  simp only [gO_e (yt29 H), gV_e (yp29_1 H), gc0 H, gc1 H, gc2 H, gc3 H, gc4 H, gc5 H, gc6 H, cl0, cl1, cl2, cl3, cl4, cl5, cl6, cI_e, cV_e, cA_e, cJ_e, lt_, Int.reduceToNat, e2, e3]
  have e0 : (if q = 0 then (4 : Int) else if 0 ≤ x ∧ x < sz then 0 else 3) = if q = 0 then 4 else 3 := by
    by_cases h : q = 0
    · rw [if_pos h, if_pos h]
    · rw [if_neg h, if_neg (by omega), if_neg h]
  rw [s_168 H X q2 hs z1 (by omega) (by omega), e0]
  simp only [gO_e (yt29 H), gV_e (yp29_1 H), gc0 H, gc1 H, gc2 H, gc3 H, gc4 H, gc5 H, gc6 H, cl0, cl1, cl2, cl3, cl4, cl5, cl6, cI_e, cV_e, cA_e, cJ_e, lt_]
  rw [if_neg]
  by_cases h : q = 0
  · rw [if_pos h]; decide
  · rw [if_neg h]; decide
theorem s_170 {v : Int32} (H : Lay B w) (X : XM B s m c I) (h3 : c 3 = it hi) (h4 : c 4 = it fr) (f1 : 1 ≤ fr) (f2 : fr ≤ 8) (h0 : hi ≤ 30) (hm : m < 33) (h2 : 1 ≤ hi) : Cl K (d + 4) 170 [.ref (B + 29), .int v] w I J = some (some (.int (it 0)), w, wrs B s m (wD hi fr 1 (c (88 + 8 * (fr - 1))) ++ (if c (6 + hi) = it 0 then [(88 + 8 * (fr - 1), v)] else [])) I, J) := by
  apply cl_170 (k := 0)
  unfold f_170 f_170_13
  have e1 : c (7 + hi - 1) = c (6 + hi) := congrArg c (by omega)
  simp only [it_lit, gO_e (yt29 H), gV_e (yp29_1 H), gc0 H, gc1 H, gc2 H, gc3 H, gc4 H, gc5 H, gc6 H, cl0, cl1, cl2, cl3, cl4, cl5, cl6, cI_e, cV_e, cA_e, cJ_e, lt_]
  rw [z_149 H X h3 h0 (by omega) (by omega)]
  simp only [gO_e (yt29 H), gV_e (yp29_1 H), gc0 H, gc1 H, gc2 H, gc3 H, gc4 H, gc5 H, gc6 H, cl0, cl1, cl2, cl3, cl4, cl5, cl6, cI_e, cV_e, cA_e, cJ_e, lt_, Int.reduceToNat, e1]
  rw [z_164 H X h3 h4 f1 f2 h0 (by omega) (by omega) (by omega)]
  simp only [gO_e (yt29 H), gV_e (yp29_1 H), gc0 H, gc1 H, gc2 H, gc3 H, gc4 H, gc5 H, gc6 H, cl0, cl1, cl2, cl3, cl4, cl5, cl6, cI_e, cV_e, cA_e, cJ_e, lt_, Int.reduceToNat]
  have X1 := X.wrs (wD hi fr 1 (c (88 + 8 * (fr - 1))))
  by_cases h : c (6 + hi) = it 0
  · rw [if_pos h, if_pos trivial, if_pos h]
    rw [s_162 H X1 (fr := fr) (by show m + 2 < 36; omega) (by simp only [ap, wD]; rw [up1_n (by omega), up1_n (by omega)]; exact h4) f1 f2]
    rw [wrs_app]
    rfl
  · rw [if_neg h, if_neg (by decide), if_neg h, List.append_nil]
theorem s_172 {pr : Nat} (H : Lay B w) (X : XM B s m c I) (h3 : c 3 = it hi) (h4 : c 4 = it fr) (f1 : 1 ≤ fr) (f2 : fr ≤ 8) (h0 : hi ≤ 30) (hm : m < 33) (h2 : 1 ≤ hi) (h5 : c 5 = it pr) (p1 : pr < 20) : Cl K (d + 4) 172 [.ref (B + 29)] w I J = some (some (.int (it 0)), w, wrs B s m ((67 + pr, c (6 + hi)) :: (5, it (pr + 1)) :: wD hi fr 1 (c (88 + 8 * (fr - 1)))) I, J) := by
  apply cl_172 (k := 0)
  unfold f_172
  have e1 : c (7 + hi - 1) = c (6 + hi) := congrArg c (by omega)
  have h5' : I (B + 30) 5 = it pr := by rw [X.2.2.2]; exact h5
  simp only [it_lit, gO_e (yt29 H), gV_e (yp29_1 H), gc0 H, gc1 H, gc2 H, gc3 H, gc4 H, gc5 H, gc6 H, cl0, cl1, cl2, cl3, cl4, cl5, cl6, cI_e, cV_e, cA_e, cJ_e, lt_, h5']
  rw [if_pos (by rw [it_lt (by omega) (by omega) (by omega) (by omega)]; omega)]
  rw [z_149 H X h3 h0 (by omega) (by omega)]
  simp only [gO_e (yt29 H), gV_e (yp29_1 H), gc0 H, gc1 H, gc2 H, gc3 H, gc4 H, gc5 H, gc6 H, cl0, cl1, cl2, cl3, cl4, cl5, cl6, cI_e, cV_e, cA_e, cJ_e, lt_, it_add, Int.reduceToNat, e1]
  rw [z_144 H X (by omega) (by omega) (by omega)]
  simp only [gO_e (yt29 H), gV_e (yp29_1 H), gc0 H, gc1 H, gc2 H, gc3 H, gc4 H, gc5 H, gc6 H, cl0, cl1, cl2, cl3, cl4, cl5, cl6, cI_e, cV_e, cA_e, cJ_e, lt_]
  rw [show (67 + (pr : Int)).toNat = 67 + pr by omega]
  have X1 := X.wr (67 + pr) (c (6 + hi))
  rw [z_144 H X1 (by omega) (by omega) (by omega)]
  simp only [gO_e (yt29 H), gV_e (yp29_1 H), gc0 H, gc1 H, gc2 H, gc3 H, gc4 H, gc5 H, gc6 H, cl0, cl1, cl2, cl3, cl4, cl5, cl6, cI_e, cV_e, cA_e, cJ_e, lt_, Int.reduceToNat]
  have X2 := X1.wr 5 (it (pr + 1))
  rw [z_164 H X2 (hi := hi) (fr := fr) (by rw [up1_n (by omega), up1_n (by omega)]; exact h3) (by rw [up1_n (by omega), up1_n (by omega)]; exact h4) f1 f2 h0 (by omega) (by omega) (by omega)]
  simp only [gO_e (yt29 H), gV_e (yp29_1 H), gc0 H, gc1 H, gc2 H, gc3 H, gc4 H, gc5 H, gc6 H, cl0, cl1, cl2, cl3, cl4, cl5, cl6, cI_e, cV_e, cA_e, cJ_e, lt_]
  rw [up1_n (by omega), up1_n (by omega)]
  rfl
theorem h_172 {pr : Nat} (H : Lay B w) (X : XM B s m c I) (h3 : c 3 = it hi) (h4 : c 4 = it fr) (f1 : 1 ≤ fr) (f2 : fr ≤ 8) (h0 : hi ≤ 30) (h5 : c 5 = it pr) (p1 : 20 ≤ pr) (p2 : pr ≤ 100) : Cl K (d + 4) 172 [.ref (B + 29)] w I J = some (some (.int (it 8)), w, I, J) := by
  apply cl_172 (k := 0)
  unfold f_172
  have h5' : I (B + 30) 5 = it pr := by rw [X.2.2.2]; exact h5
  simp only [it_lit, gO_e (yt29 H), gV_e (yp29_1 H), gc0 H, gc1 H, gc2 H, gc3 H, gc4 H, gc5 H, gc6 H, cl0, cl1, cl2, cl3, cl4, cl5, cl6, cI_e, cV_e, cA_e, cJ_e, lt_, h5']
  rw [if_neg (by rw [it_lt (by omega) (by omega) (by omega) (by omega)]; omega)]
end XOP

section XOP
variable {K : Nat → Value} {B d k s m hi fr a : Nat} {w : aW} {I : aI} {J : aJ} {c : Nat → Int32} {z : Int}
theorem s_156 {f j : Nat} (H : Lay B w) (X : XM B s m c I) (hp : w.2.1 (B + 29) 0 = some a) (hP : PL w a) (hj : j < 8) (hf : c (87 + 8 * j) = it f) (f5 : f < 5) : Cl K (d + 2) 156 [.ref (B + 29), .int (it j)] w I J = some (some (.int (I (a + 5) (4 * f + 2))), w, I, J) := by
  apply cl_156 (k := 0)
  unfold f_156
  simp only [it_lit, gO_e (yt29 H), gV_e (yp29_1 H), gc0 H, gc1 H, gc2 H, gc3 H, gc4 H, gc5 H, gc6 H, cl0, cl1, cl2, cl3, cl4, cl5, cl6, cI_e, cV_e, cA_e, cJ_e, lt_, gV_e hp]
  rw [s_146]
  simp only [gO_e (yt29 H), gV_e (yp29_1 H), gc0 H, gc1 H, gc2 H, gc3 H, gc4 H, gc5 H, gc6 H, cl0, cl1, cl2, cl3, cl4, cl5, cl6, cI_e, cV_e, cA_e, cJ_e, lt_]
  rw [z_147 H X (by omega) (by omega), show (87 + (j : Int) * 8).toNat = 87 + 8 * j by omega, hf]
  simp only [gO_e (yt29 H), gV_e (yp29_1 H), gc0 H, gc1 H, gc2 H, gc3 H, gc4 H, gc5 H, gc6 H, cl0, cl1, cl2, cl3, cl4, cl5, cl6, cI_e, cV_e, cA_e, cJ_e, lt_, gO_e hP.1]
  rw [s_52 hP (by omega) (by omega) (by omega) (by omega), show ((f : Int) * 4 + 2).toNat = 4 * f + 2 by omega]
  rfl
theorem s_157 {f j v : Nat} (H : Lay B w) (X : XM B s m c I) (hp : w.2.1 (B + 29) 0 = some a) (hP : PL w a) (hj : j < 8) (hf : c (87 + 8 * j) = it f) (f5 : f < 5) (hv : v < 6) : Cl K (d + 2) 157 [.ref (B + 29), .int (it j), .int (it v)] w I J = some (some (.int (I (a + 6) (6 * f + v))), w, I, J) := by
  apply cl_157 (k := 0)
  unfold f_157
  simp only [it_lit, gO_e (yt29 H), gV_e (yp29_1 H), gc0 H, gc1 H, gc2 H, gc3 H, gc4 H, gc5 H, gc6 H, cl0, cl1, cl2, cl3, cl4, cl5, cl6, cI_e, cV_e, cA_e, cJ_e, lt_, gV_e hp]
  rw [s_146]
  simp only [gO_e (yt29 H), gV_e (yp29_1 H), gc0 H, gc1 H, gc2 H, gc3 H, gc4 H, gc5 H, gc6 H, cl0, cl1, cl2, cl3, cl4, cl5, cl6, cI_e, cV_e, cA_e, cJ_e, lt_]
  rw [z_147 H X (by omega) (by omega), show (87 + (j : Int) * 8).toNat = 87 + 8 * j by omega, hf]
  simp only [gO_e (yt29 H), gV_e (yp29_1 H), gc0 H, gc1 H, gc2 H, gc3 H, gc4 H, gc5 H, gc6 H, cl0, cl1, cl2, cl3, cl4, cl5, cl6, cI_e, cV_e, cA_e, cJ_e, lt_, gO_e hP.1]
  rw [s_70 hP (by omega) (by omega) (by omega) (by omega), show ((f : Int) * 6 + v).toNat = 6 * f + v by omega]
  rfl
theorem s_158 {j v : Nat} (H : Lay B w) (X : XM B s m c I) (hj : j < 8) (hv : v < 6) : Cl K (d + 2) 158 [.ref (B + 29), .int (it j), .int (it v)] w I J = some (some (.int (c (89 + 8 * j + v))), w, I, J) := by
  apply cl_158 (k := 0)
  unfold f_158
  simp only [it_lit, gO_e (yt29 H), gV_e (yp29_1 H), gc0 H, gc1 H, gc2 H, gc3 H, gc4 H, gc5 H, gc6 H, cl0, cl1, cl2, cl3, cl4, cl5, cl6, cI_e, cV_e, cA_e, cJ_e, lt_]
  rw [s_146]
  simp only [gO_e (yt29 H), gV_e (yp29_1 H), gc0 H, gc1 H, gc2 H, gc3 H, gc4 H, gc5 H, gc6 H, cl0, cl1, cl2, cl3, cl4, cl5, cl6, cI_e, cV_e, cA_e, cJ_e, lt_, it_add]
  rw [z_147 H X (by omega) (by omega), show (87 + (j : Int) * 8 + 2 + v).toNat = 89 + 8 * j + v by omega]
  rfl
theorem h_160 {o v : Int32} (H : Lay B w) (X : XM B s m c I) (h3 : c 3 = it hi) (h4 : c 4 = it fr) (f1 : 1 ≤ fr) (f2 : fr ≤ 8) (h0 : hi ≤ 30) (h30 : hi = 30) : Cl K (d + 4) 160 [.ref (B + 29), .int o, .int v] w I J = some (some (.int (it 7)), w, I, J) := by
  apply cl_160 (k := 0)
  unfold f_160
  have h3' : I (B + 30) 3 = it hi := by rw [X.2.2.2]; exact h3
  simp only [it_lit, gO_e (yt29 H), gV_e (yp29_1 H), gc0 H, gc1 H, gc2 H, gc3 H, gc4 H, gc5 H, gc6 H, cl0, cl1, cl2, cl3, cl4, cl5, cl6, cI_e, cV_e, cA_e, cJ_e, lt_, h3']
  rw [if_neg (fun q => by have := (it_lt (by omega) (by omega) (by omega) (by omega)).mp q; omega)]
theorem s_160 {o v : Nat} {vv ty : Int32} (H : Lay B w) (X : XM B s m c I) (h3 : c 3 = it hi) (h4 : c 4 = it fr) (f1 : 1 ≤ fr) (f2 : fr ≤ 8) (h0 : hi ≤ 30) (hp : w.2.1 (B + 29) 0 = some a) (hP : PL w a) (hm : m < 33) (h30 : hi < 30) (ho : o = 0 ∧ vv = it v ∧ ty = it 0 ∨ o = 1 ∧ vv = it v ∧ ty = it 1 ∨ o = 2 ∧ vv = it 0 ∧ ty = it 3 ∨ (o = 3 ∧ v < 6 ∧ vv = c (89 + 8 * (fr - 1) + v) ∧ ∃ f : Nat, c (87 + 8 * (fr - 1)) = it f ∧ f < 5 ∧ ty = I (a + 6) (6 * f + v)) ∨ o = 27 ∧ vv = it 0 ∧ ty = it v) :
    Cl K (d + 4) 160 [.ref (B + 29), .int (it o), .int (it v)] w I J = some (some (.int (it 0)), w, wrs B s m (wR hi fr 0 (c (88 + 8 * (fr - 1))) vv ty) I, J) := by
  apply cl_160 (k := 0)
  unfold f_160
  have h3' : I (B + 30) 3 = it hi := by rw [X.2.2.2]; exact h3
  have h4' : I (B + 30) 4 = it fr := by rw [X.2.2.2]; exact h4
  have ef : it (fr : Int) - it 1 = it ((fr - 1 : Nat) : Int) := by rw [it_sub]; congr 1; omega
  simp only [it_lit, gO_e (yt29 H), gV_e (yp29_1 H), gc0 H, gc1 H, gc2 H, gc3 H, gc4 H, gc5 H, gc6 H, cl0, cl1, cl2, cl3, cl4, cl5, cl6, cI_e, cV_e, cA_e, cJ_e, lt_, h3', h4', ef]
  rw [if_pos ((it_lt (by omega) (by omega) (by omega) (by omega)).mpr (by omega))]
  have hX : ∀ (v ty : Int32), Cl K (d + 3) 161 [.ref (B + 29), .int (it 0), .int v, .int ty] w I J = some (some (.int (it 0)), w, wrs B s m (wR hi fr 0 (c (88 + 8 * (fr - 1))) v ty) I, J) := fun v ty => z_161 H X h3 h4 f1 f2 h0 hm (by omega) (by omega) (by omega)
  rcases ho with ⟨rfl, rfl, rfl⟩ | ⟨rfl, rfl, rfl⟩ | ⟨rfl, rfl, rfl⟩ | ⟨rfl, hv, rfl, f, hf, f5, rfl⟩ | ⟨rfl, rfl, rfl⟩
  · rw [if_pos (by decide), hX]; rfl
  · rw [if_neg (by decide), if_pos (by decide), hX]; rfl
  · rw [if_neg (by decide), if_neg (by decide), if_pos (by decide), hX]; rfl
  · rw [if_neg (by decide), if_neg (by decide), if_neg (by decide), if_pos (by decide), s_158 H X (by omega) hv]
    simp only [gO_e (yt29 H), gV_e (yp29_1 H), gc0 H, gc1 H, gc2 H, gc3 H, gc4 H, gc5 H, gc6 H, cl0, cl1, cl2, cl3, cl4, cl5, cl6, cI_e, cV_e, cA_e, cJ_e, lt_]
    rw [s_157 H X hp hP (by omega) hf f5 hv]
    simp only [gO_e (yt29 H), gV_e (yp29_1 H), gc0 H, gc1 H, gc2 H, gc3 H, gc4 H, gc5 H, gc6 H, cl0, cl1, cl2, cl3, cl4, cl5, cl6, cI_e, cV_e, cA_e, cJ_e, lt_]
    rw [hX]; rfl
  · rw [if_neg (by decide), if_neg (by decide), if_neg (by decide), if_neg (by decide), hX]; rfl
theorem s_171a (H : Lay B w) (X : XM B s m c I) (h3 : c 3 = it hi) (h4 : c 4 = it fr) (f1 : 1 ≤ fr) (f2 : fr ≤ 8) (h0 : hi ≤ 30) (hm : m < 33) (hf : 2 ≤ fr) : Cl K (d + 4) 171 [.ref (B + 29)] w I J = some (some (.int (it 0)), w, wrs B s m [(4, it ((fr - 1 : Nat) : Int))] I, J) := by
  apply cl_171 (k := 0)
  unfold f_171
  have h4' : I (B + 30) 4 = it fr := by rw [X.2.2.2]; exact h4
  have ef : it (fr : Int) - it 1 = it ((fr - 1 : Nat) : Int) := by rw [it_sub]; congr 1; omega
  simp only [it_lit, gO_e (yt29 H), gV_e (yp29_1 H), gc0 H, gc1 H, gc2 H, gc3 H, gc4 H, gc5 H, gc6 H, cl0, cl1, cl2, cl3, cl4, cl5, cl6, cI_e, cV_e, cA_e, cJ_e, lt_, h4', ef]
  rw [z_144 H X (by omega) (by omega) (by omega)]
  simp only [gO_e (yt29 H), gV_e (yp29_1 H), gc0 H, gc1 H, gc2 H, gc3 H, gc4 H, gc5 H, gc6 H, cl0, cl1, cl2, cl3, cl4, cl5, cl6, cI_e, cV_e, cA_e, cJ_e, lt_, Int.reduceToNat]
  rw [wr_37, up1_s, if_pos (fun q => by have := (it_eq (by omega) (by omega) (by omega) (by omega)).mp q; omega)]
  rfl
theorem s_171b (H : Lay B w) (X : XM B s m c I) (h3 : c 3 = it hi) (h4 : c 4 = it fr) (f1 : 1 ≤ fr) (f2 : fr ≤ 8) (h0 : hi ≤ 30) (hm : m < 30) (hf : fr = 1) (h1 : 1 ≤ hi) : Cl K (d + 4) 171 [.ref (B + 29)] w I J = some (some (.int (it 0)), w, wrs B s m [(4, it 0), (6, c (6 + hi)), (3, it ((hi - 1 : Nat) : Int)), (0, it 1)] I, J) := by
  apply cl_171 (k := 0)
  unfold f_171
  have e1 : c (7 + hi - 1) = c (6 + hi) := congrArg c (by omega)
  have h4' : I (B + 30) 4 = it fr := by rw [X.2.2.2]; exact h4
  have ef : it (fr : Int) - it 1 = it 0 := by rw [it_sub]; congr 1; omega
  have eh : it (hi : Int) - it 1 = it ((hi - 1 : Nat) : Int) := by rw [it_sub]; congr 1; omega
  simp only [it_lit, gO_e (yt29 H), gV_e (yp29_1 H), gc0 H, gc1 H, gc2 H, gc3 H, gc4 H, gc5 H, gc6 H, cl0, cl1, cl2, cl3, cl4, cl5, cl6, cI_e, cV_e, cA_e, cJ_e, lt_, h4', ef]
  rw [z_144 H X (by omega) (by omega) (by omega)]
  simp only [gO_e (yt29 H), gV_e (yp29_1 H), gc0 H, gc1 H, gc2 H, gc3 H, gc4 H, gc5 H, gc6 H, cl0, cl1, cl2, cl3, cl4, cl5, cl6, cI_e, cV_e, cA_e, cJ_e, lt_, Int.reduceToNat]
  rw [wr_37, up1_s, if_neg (fun q => q rfl)]
  have X1 := X.wr 4 (it 0)
  rw [z_149 H X1 (hi := hi) (by rw [up1_n (by omega)]; exact h3) h0 (by omega) (by omega)]
  simp only [gO_e (yt29 H), gV_e (yp29_1 H), gc0 H, gc1 H, gc2 H, gc3 H, gc4 H, gc5 H, gc6 H, cl0, cl1, cl2, cl3, cl4, cl5, cl6, cI_e, cV_e, cA_e, cJ_e, lt_, Int.reduceToNat]
  rw [up1_n (by omega), e1, z_144 H X1 (by omega) (by omega) (by omega)]
  simp only [gO_e (yt29 H), gV_e (yp29_1 H), gc0 H, gc1 H, gc2 H, gc3 H, gc4 H, gc5 H, gc6 H, cl0, cl1, cl2, cl3, cl4, cl5, cl6, cI_e, cV_e, cA_e, cJ_e, lt_, Int.reduceToNat]
  have X2 := X1.wr 6 (c (6 + hi))
  rw [wr_37, wr_37, up1_n (by omega), up1_n (by omega), X.2.2.2, h3, eh, z_144 H X2 (by omega) (by omega) (by omega)]
  simp only [gO_e (yt29 H), gV_e (yp29_1 H), gc0 H, gc1 H, gc2 H, gc3 H, gc4 H, gc5 H, gc6 H, cl0, cl1, cl2, cl3, cl4, cl5, cl6, cI_e, cV_e, cA_e, cJ_e, lt_, Int.reduceToNat]
  rw [z_144 H (X2.wr _ _) (by omega) (by omega) (by omega)]
  rfl
/-- the variables of a new frame -/
def wV (fr pa b : Nat) (c : Nat → Int32) : Nat → Nat → List (Nat × Int32)
  | 0, _ => []
  | k + 1, v => (89 + 8 * fr + v, if v < pa then c (7 + b + v) else it 0) :: wV fr pa b c k (v + 1)
theorem wV_len (fr pa b : Nat) (c : Nat → Int32) : ∀ k v, (wV fr pa b c k v).length = k := by
  intro k
  induction k with
  | zero => intro i; rfl
  | succ k ih => intro i; show (wV fr pa b c k (i + 1)).length + 1 = k + 1; rw [ih]
theorem l_163 {g pa cn b : Nat} (H : Lay B w) (hp : w.2.1 (B + 29) 0 = some a) (hP : PL w a) (hg : g < 5) (f2 : fr < 8) (hb : b + pa ≤ 30) (hcn : cn ≤ 6) (hpa : pa ≤ cn) : ∀ (n v m : Nat) (I : aI) (c' : Nat → Int32), v + n = cn → XM B s m c' I → I (a + 5) (4 * g + 2) = it cn → (∀ m k x, wr B s m k x I (a + 5) = I (a + 5)) → c' 3 = it b → (∀ j, 7 ≤ j → j < 37 → c' j = c j) → m + n < 36 → (¬ a + 5 = B + 30 ∧ ¬ a + 5 = B + 32 ∧ ¬ a + 5 = B + 33 ∧ ¬ a + 5 = B + 34) → f_163_65 K (n + 1) (d + 1) (B + 29) (it g) (it fr) (it pa) (it (87 + (fr : Int) * 8)) (it v) w I J = some (some (.int (it 0)), w, wrs B s m (wV fr pa b c n v ++ [(4, it (fr + 1))]) I, J) := by
  intro n
  induction n with
  | zero =>
    intro v m I c' hv X hI hw c3 hc hm ha
    rw [f_163_65]
    simp only [it_lit, gO_e (yt29 H), gV_e (yp29_1 H), gc0 H, gc1 H, gc2 H, gc3 H, gc4 H, gc5 H, gc6 H, cl0, cl1, cl2, cl3, cl4, cl5, cl6, cI_e, cV_e, cA_e, cJ_e, lt_, gV_e hp, gO_e hP.1]
    rw [s_52 hP (by omega) (by omega) (by omega) (by omega), show ((g : Int) * 4 + 2).toNat = 4 * g + 2 by omega, hI]
    simp only [gO_e (yt29 H), gV_e (yp29_1 H), gc0 H, gc1 H, gc2 H, gc3 H, gc4 H, gc5 H, gc6 H, cl0, cl1, cl2, cl3, cl4, cl5, cl6, cI_e, cV_e, cA_e, cJ_e, lt_, it_add]
    rw [if_pos ((it_le (by omega) (by omega) (by omega) (by omega)).mpr (by omega)), z_144 H X (by omega) (by omega) (by omega)]
    rfl
  | succ n ih =>
    intro v m I c' hv X hI hw c3 hc hm ha
    rw [f_163_65]
    unfold f_163_113
    simp only [it_lit, gO_e (yt29 H), gV_e (yp29_1 H), gc0 H, gc1 H, gc2 H, gc3 H, gc4 H, gc5 H, gc6 H, cl0, cl1, cl2, cl3, cl4, cl5, cl6, cI_e, cV_e, cA_e, cJ_e, lt_, gV_e hp, gO_e hP.1]
    rw [s_52 hP (by omega) (by omega) (by omega) (by omega), show ((g : Int) * 4 + 2).toNat = 4 * g + 2 by omega, hI]
    have c3' : I (B + 30) 3 = it b := by rw [X.2.2.2]; exact c3
    simp only [gO_e (yt29 H), gV_e (yp29_1 H), gc0 H, gc1 H, gc2 H, gc3 H, gc4 H, gc5 H, gc6 H, cl0, cl1, cl2, cl3, cl4, cl5, cl6, cI_e, cV_e, cA_e, cJ_e, lt_, it_add, c3']
    rw [if_neg (fun q => by have := (it_le (by omega) (by omega) (by omega) (by omega)).mp q; omega)]
    have hgo : ∀ x : Int32, f_163_65 K (n + 1) (d + 1) (B + 29) (it g) (it fr) (it pa) (it (87 + (fr : Int) * 8)) (it (v + 1)) w (wr B s m (89 + 8 * fr + v) x I) J = some (some (.int (it 0)), w, wrs B s (m + 1) (wV fr pa b c n (v + 1) ++ [(4, it (fr + 1))]) (wr B s m (89 + 8 * fr + v) x I), J) := fun x =>
      ih (v + 1) (m + 1) _ _ (by omega) (X.wr (89 + 8 * fr + v) x) (by rw [wr_o ha.1 ha.2.1 ha.2.2.1 ha.2.2.2]; exact hI) (fun m' k' x' => wr_o ha.1 ha.2.1 ha.2.2.1 ha.2.2.2) (by rw [up1_n (by omega)]; exact c3) (fun j h1 h2 => by rw [up1_n (by omega)]; exact hc j h1 h2) (by omega) ha
    by_cases hvp : v < pa
    · rw [if_neg (fun q => by have := (it_le (by omega) (by omega) (by omega) (by omega)).mp q; omega), z_147 H X (by omega) (by omega), show (7 + (b : Int) + v).toNat = 7 + b + v by omega, hc (7 + b + v) (by omega) (by omega)]
      simp only [gO_e (yt29 H), gV_e (yp29_1 H), gc0 H, gc1 H, gc2 H, gc3 H, gc4 H, gc5 H, gc6 H, cl0, cl1, cl2, cl3, cl4, cl5, cl6, cI_e, cV_e, cA_e, cJ_e, lt_, it_add]
      rw [z_144 H X (by omega) (by omega) (by omega), show (87 + (fr : Int) * 8 + 2 + v).toNat = 89 + 8 * fr + v by omega]
      simp only [gO_e (yt29 H), gV_e (yp29_1 H), gc0 H, gc1 H, gc2 H, gc3 H, gc4 H, gc5 H, gc6 H, cl0, cl1, cl2, cl3, cl4, cl5, cl6, cI_e, cV_e, cA_e, cJ_e, lt_, it_add]
      rw [hgo]
      simp only [wV, if_pos hvp]
      rfl
    · rw [if_pos ((it_le (by omega) (by omega) (by omega) (by omega)).mpr (by omega))]
      rw [z_144 H X (by omega) (by omega) (by omega), show (87 + (fr : Int) * 8 + 2 + v).toNat = 89 + 8 * fr + v by omega]
      simp only [gO_e (yt29 H), gV_e (yp29_1 H), gc0 H, gc1 H, gc2 H, gc3 H, gc4 H, gc5 H, gc6 H, cl0, cl1, cl2, cl3, cl4, cl5, cl6, cI_e, cV_e, cA_e, cJ_e, lt_, it_add]
      rw [hgo]
      simp only [wV, if_neg hvp]
      rfl
theorem s_163 {g pa cn at0 : Nat} (H : Lay B w) (X : XM B s m c I) (h3 : c 3 = it hi) (h4 : c 4 = it fr) (f1 : 1 ≤ fr) (f2 : fr ≤ 8) (h0 : hi ≤ 30) (hp : w.2.1 (B + 29) 0 = some a) (hP : PL w a) (ha : ¬ a + 5 = B + 30 ∧ ¬ a + 5 = B + 32 ∧ ¬ a + 5 = B + 33 ∧ ¬ a + 5 = B + 34) (hm : m < 20) (hfr : fr < 8) (hg : g < 5) (hpc : pa ≤ cn) (hcn : cn ≤ 6) (hph : pa ≤ hi) (i0 : I (a + 5) (4 * g) = it at0) (i1 : I (a + 5) (4 * g + 1) = it pa) (i2 : I (a + 5) (4 * g + 2) = it cn) :
    Cl K (d + 4) 163 [.ref (B + 29), .int (it g)] w I J = some (some (.int (it 0)), w, wrs B s m (wD hi fr pa (c (88 + 8 * (fr - 1))) ++ (87 + 8 * fr, it g) :: (88 + 8 * fr, it at0) :: (wV fr pa (hi - pa) c cn 0 ++ [(4, it (fr + 1))])) I, J) := by
  apply cl_163 (k := cn + 1)
  unfold f_163
  have h4' : I (B + 30) 4 = it fr := by rw [X.2.2.2]; exact h4
  simp only [it_lit, gO_e (yt29 H), gV_e (yp29_1 H), gc0 H, gc1 H, gc2 H, gc3 H, gc4 H, gc5 H, gc6 H, cl0, cl1, cl2, cl3, cl4, cl5, cl6, cI_e, cV_e, cA_e, cJ_e, lt_, h4', gV_e hp, gO_e hP.1]
  rw [if_pos ((it_lt (by omega) (by omega) (by omega) (by omega)).mpr (by omega)), s_52 hP (by omega) (by omega) (by omega) (by omega), show ((g : Int) * 4 + 1).toNat = 4 * g + 1 by omega, i1]
  simp only [gO_e (yt29 H), gV_e (yp29_1 H), gc0 H, gc1 H, gc2 H, gc3 H, gc4 H, gc5 H, gc6 H, cl0, cl1, cl2, cl3, cl4, cl5, cl6, cI_e, cV_e, cA_e, cJ_e, lt_]
  rw [z_164 H X h3 h4 f1 f2 h0 (by omega) (by omega) (by omega), Int.toNat_natCast]
  simp only [gO_e (yt29 H), gV_e (yp29_1 H), gc0 H, gc1 H, gc2 H, gc3 H, gc4 H, gc5 H, gc6 H, cl0, cl1, cl2, cl3, cl4, cl5, cl6, cI_e, cV_e, cA_e, cJ_e, lt_]
  rw [s_146]
  have X1 := X.wrs (wD hi fr pa (c (88 + 8 * (fr - 1))))
  simp only [gO_e (yt29 H), gV_e (yp29_1 H), gc0 H, gc1 H, gc2 H, gc3 H, gc4 H, gc5 H, gc6 H, cl0, cl1, cl2, cl3, cl4, cl5, cl6, cI_e, cV_e, cA_e, cJ_e, lt_, gV_e hp, gO_e hP.1]
  rw [z_144 H X1 (by show m + 2 < 36; omega) (by omega) (by omega)]
  simp only [gO_e (yt29 H), gV_e (yp29_1 H), gc0 H, gc1 H, gc2 H, gc3 H, gc4 H, gc5 H, gc6 H, cl0, cl1, cl2, cl3, cl4, cl5, cl6, cI_e, cV_e, cA_e, cJ_e, lt_, gV_e hp, gO_e hP.1, it_add]
  rw [s_52 hP (by omega) (by omega) (by omega) (by omega), show ((g : Int) * 4 + 0).toNat = 4 * g by omega, show (87 + (fr : Int) * 8).toNat = 87 + 8 * fr by omega, wr_o ha.1 ha.2.1 ha.2.2.1 ha.2.2.2, wrs_o ha.1 ha.2.1 ha.2.2.1 ha.2.2.2, i0]
  simp only [gO_e (yt29 H), gV_e (yp29_1 H), gc0 H, gc1 H, gc2 H, gc3 H, gc4 H, gc5 H, gc6 H, cl0, cl1, cl2, cl3, cl4, cl5, cl6, cI_e, cV_e, cA_e, cJ_e, lt_]
  have X2 := X1.wr (87 + 8 * fr) (it g)
  rw [z_144 H X2 (by show m + 2 + 1 < 36; omega) (by omega) (by omega), show (87 + (fr : Int) * 8 + 1).toNat = 88 + 8 * fr by omega]
  simp only [gO_e (yt29 H), gV_e (yp29_1 H), gc0 H, gc1 H, gc2 H, gc3 H, gc4 H, gc5 H, gc6 H, cl0, cl1, cl2, cl3, cl4, cl5, cl6, cI_e, cV_e, cA_e, cJ_e, lt_]
  have X3 := X2.wr (88 + 8 * fr) (it at0)
  refine Eq.trans (l_163 (c := c) (cn := cn) (b := hi - pa) H hp hP hg hfr (by omega) hcn hpc cn 0 _ _ _ (by omega) X3 (by rw [wr_o ha.1 ha.2.1 ha.2.2.1 ha.2.2.2, wr_o ha.1 ha.2.1 ha.2.2.1 ha.2.2.2, wrs_o ha.1 ha.2.1 ha.2.2.1 ha.2.2.2]; exact i2) (fun m' k' x' => wr_o ha.1 ha.2.1 ha.2.2.1 ha.2.2.2) (by simp only [wD, ap]; rw [up1_n (by omega), up1_n (by omega), up1_n (by omega), up1_s]) (fun j h1 h2 => by simp only [wD, ap]; rw [up1_n (by omega), up1_n (by omega), up1_n (by omega), up1_n (by omega)]) (by show m + 2 + 1 + 1 + cn < 36; omega) ha) ?_
  rw [wrs_app B s m (wD hi fr pa (c (88 + 8 * (fr - 1))))]
  rfl
theorem h_163 {v : Int32} (H : Lay B w) (X : XM B s m c I) (h3 : c 3 = it hi) (h4 : c 4 = it fr) (f1 : 1 ≤ fr) (f2 : fr ≤ 8) (h0 : hi ≤ 30) (hfr : fr = 8) : Cl K (d + 4) 163 [.ref (B + 29), .int v] w I J = some (some (.int (it 7)), w, I, J) := by
  apply cl_163 (k := 0)
  unfold f_163
  have h4' : I (B + 30) 4 = it fr := by rw [X.2.2.2]; exact h4
  simp only [it_lit, gO_e (yt29 H), gV_e (yp29_1 H), gc0 H, gc1 H, gc2 H, gc3 H, gc4 H, gc5 H, gc6 H, cl0, cl1, cl2, cl3, cl4, cl5, cl6, cI_e, cV_e, cA_e, cJ_e, lt_, h4']
  rw [if_neg (fun q => by have := (it_lt (by omega) (by omega) (by omega) (by omega)).mp q; omega)]
end XOP

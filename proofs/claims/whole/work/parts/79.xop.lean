/-- the least free object -/
def lfree (g : Nat → Int32) : Nat → Nat → Nat
  | 0, _ => 0
  | k + 1, o => if g o = it 0 then o else lfree g k (o + 1)
theorem lfree_le (g : Nat → Int32) : ∀ k o, lfree g k o < o + k ∨ lfree g k o = 0 := by
  intro k
  induction k with
  | zero => intro o; exact Or.inr rfl
  | succ k ih =>
    intro o
    simp only [lfree]
    split
    · omega
    · have := ih (o + 1); omega
theorem lfree_z (g : Nat → Int32) : ∀ k o, ¬ lfree g k o = 0 → g (lfree g k o) = it 0 ∧ o ≤ lfree g k o := by
  intro k
  induction k with
  | zero => intro o h; exact absurd rfl h
  | succ k ih =>
    intro o h
    simp only [lfree] at h ⊢
    split
    · rename_i hc; exact ⟨hc, Nat.le_refl _⟩
    · rename_i hc
      rw [if_neg hc] at h
      have := ih (o + 1) h
      exact ⟨this.1, by omega⟩
theorem lfree_n (g : Nat → Int32) : ∀ k o, lfree g k o = 0 → 1 ≤ o → ∀ q, o ≤ q → q < o + k → ¬ g q = it 0 := by
  intro k
  induction k with
  | zero => intro o h ho q h1 h2; omega
  | succ k ih =>
    intro o h ho q h1 h2
    simp only [lfree] at h
    split at h
    · omega
    · rename_i hc
      by_cases hq : q = o
      · rw [hq]; exact hc
      · exact ih (o + 1) h (by omega) q (by omega) (by omega)
theorem lfree_c {g g' : Nat → Int32} : ∀ k o, (∀ q, o ≤ q → q < o + k → g q = g' q) → lfree g k o = lfree g' k o := by
  intro k
  induction k with
  | zero => intro o h; rfl
  | succ k ih =>
    intro o h
    simp only [lfree]
    rw [h o (by omega) (by omega), ih (o + 1) (fun q h1 h2 => h q (by omega) (by omega))]
section XOP
variable {K : Nat → Value} {B d k s m hi fr a : Nat} {w : aW} {I : aI} {J : aJ} {c : Nat → Int32} {z : Int}
theorem l_151 (H : Lay B w) (X : XM B s m c I) : ∀ (n o : Nat), o + n = 17 → 1 ≤ o → f_151_2 K (n + 1) (d + 1) (B + 29) (it o) w I J = some (some (.int (it (lfree (fun q => c (140 + 11 * q)) n o))), w, I, J) := by
  intro n
  induction n with
  | zero =>
    intro o h1 h2
    rw [f_151_2]
    simp only [it_lit, gO_e (yt29 H), gV_e (yp29_1 H), gc0 H, gc1 H, gc2 H, gc3 H, gc4 H, gc5 H, gc6 H, cl0, cl1, cl2, cl3, cl4, cl5, cl6, cI_e, cV_e, cA_e, cJ_e, lt_]
    rw [if_pos ((it_lt (by omega) (by omega) (by omega) (by omega)).mpr (by omega))]
    rfl
  | succ n ih =>
    intro o h1 h2
    rw [f_151_2]
    simp only [it_lit, gO_e (yt29 H), gV_e (yp29_1 H), gc0 H, gc1 H, gc2 H, gc3 H, gc4 H, gc5 H, gc6 H, cl0, cl1, cl2, cl3, cl4, cl5, cl6, cI_e, cV_e, cA_e, cJ_e, lt_]
    rw [if_neg (fun q => by have := (it_lt (by omega) (by omega) (by omega) (by omega)).mp q; omega), s_152]
    simp only [gO_e (yt29 H), gV_e (yp29_1 H), gc0 H, gc1 H, gc2 H, gc3 H, gc4 H, gc5 H, gc6 H, cl0, cl1, cl2, cl3, cl4, cl5, cl6, cI_e, cV_e, cA_e, cJ_e, lt_]
    rw [gA_e (yt30 H) (Or.inl rfl) (ix (by omega) (by omega) (by omega)), it_cl (by omega) (by omega), X.2.2.2, show (151 + ((o : Int) - 1) * 11).toNat = 140 + 11 * o by omega]
    simp only [lfree, it_add]
    by_cases hc : c (140 + 11 * o) = it 0
    · rw [if_neg (fun q => q hc), if_pos hc]
    · rw [if_pos hc, if_neg hc]
      exact ih (o + 1) (by omega) (by omega)
theorem s_151 (H : Lay B w) (X : XM B s m c I) : Cl K (d + 2) 151 [.ref (B + 29)] w I J = some (some (.int (it (lfree (fun q => c (140 + 11 * q)) 16 1))), w, I, J) :=
  cl_151 (k := 17) (l_151 H X 16 1 (by omega) (by omega))
/-- zeros of a new row -/
def wZ (o : Nat) : Nat → Nat → List (Nat × Int32)
  | 0, _ => []
  | k + 1, i => (142 + 11 * o + i, it 0) :: wZ o k (i + 1)
theorem wZ_len (o : Nat) : ∀ k i, (wZ o k i).length = k := by
  intro k
  induction k with
  | zero => intro i; rfl
  | succ k ih => intro i; show (wZ o k (i + 1)).length + 1 = k + 1; rw [ih]
theorem l_165 {o sz : Nat} (H : Lay B w) (h3 : c 3 = it hi) (h4 : c 4 = it fr) (f1 : 1 ≤ fr) (f2 : fr ≤ 8) (h0 : hi ≤ 30) (h1 : 1 ≤ hi) (o1 : 1 ≤ o) (o2 : o ≤ 16) (z1 : sz ≤ 9) : ∀ (n i m : Nat) (I : aI) (c' : Nat → Int32), i + n = sz → XM B s m c' I → (∀ j, j < 151 → c' j = c j) → m + n < 33 → f_165_49 K (n + 1) (d + 3) (B + 29) (it sz) (it o) (it i) w I J = some (some (.int (it 0)), w, wrs B s m (wZ o n i ++ wR hi fr 1 (c (88 + 8 * (fr - 1))) (it o) (it 2)) I, J) := by
  intro n
  induction n with
  | zero =>
    intro i m I c' hi' X hc hm
    rw [f_165_49]
    simp only [it_lit, gO_e (yt29 H), gV_e (yp29_1 H), gc0 H, gc1 H, gc2 H, gc3 H, gc4 H, gc5 H, gc6 H, cl0, cl1, cl2, cl3, cl4, cl5, cl6, cI_e, cV_e, cA_e, cJ_e, lt_]
    rw [if_pos ((it_le (by omega) (by omega) (by omega) (by omega)).mpr (by omega)), z_161 H X (hi := hi) (fr := fr) (by rw [hc _ (by omega)]; exact h3) (by rw [hc _ (by omega)]; exact h4) f1 f2 h0 (by omega) (by omega) (by omega) (by omega), hc _ (by omega)]
    rfl
  | succ n ih =>
    intro i m I c' hi' X hc hm
    rw [f_165_49]
    simp only [it_lit, gO_e (yt29 H), gV_e (yp29_1 H), gc0 H, gc1 H, gc2 H, gc3 H, gc4 H, gc5 H, gc6 H, cl0, cl1, cl2, cl3, cl4, cl5, cl6, cI_e, cV_e, cA_e, cJ_e, lt_]
    rw [if_neg (fun q => by have := (it_le (by omega) (by omega) (by omega) (by omega)).mp q; omega), s_152]
    simp only [gO_e (yt29 H), gV_e (yp29_1 H), gc0 H, gc1 H, gc2 H, gc3 H, gc4 H, gc5 H, gc6 H, cl0, cl1, cl2, cl3, cl4, cl5, cl6, cI_e, cV_e, cA_e, cJ_e, lt_, it_add]
    rw [z_144 H X (by omega) (by omega) (by omega)]
    simp only [gO_e (yt29 H), gV_e (yp29_1 H), gc0 H, gc1 H, gc2 H, gc3 H, gc4 H, gc5 H, gc6 H, cl0, cl1, cl2, cl3, cl4, cl5, cl6, cI_e, cV_e, cA_e, cJ_e, lt_]
    rw [show (151 + ((o : Int) - 1) * 11 + 2 + i).toNat = 142 + 11 * o + i by omega]
    exact ih (i + 1) (m + 1) _ _ (by omega) (X.wr (142 + 11 * o + i) (it 0)) (fun j hj => by rw [up1_n (by omega)]; exact hc j hj) (by omega)
theorem s_165 {o sz : Nat} (H : Lay B w) (X : XM B s m c I) (h3 : c 3 = it hi) (h4 : c 4 = it fr) (f1 : 1 ≤ fr) (f2 : fr ≤ 8) (h0 : hi ≤ 30) (hm : m < 20) (h1 : 1 ≤ hi) (hz : c (6 + hi) = it sz) (z1 : sz ≤ 9) (ho : lfree (fun q => c (140 + 11 * q)) 16 1 = o) (o1 : 1 ≤ o) (o2 : o ≤ 16) : Cl K (d + 4) 165 [.ref (B + 29)] w I J = some (some (.int (it 0)), w, wrs B s m ((140 + 11 * o, it 1) :: (141 + 11 * o, it sz) :: (wZ o sz 0 ++ wR hi fr 1 (c (88 + 8 * (fr - 1))) (it o) (it 2))) I, J) := by
  apply cl_165 (k := sz + 1)
  unfold f_165
  have e1 : c (7 + hi - 1) = it sz := by rw [← hz]; exact congrArg c (by omega)
  simp only [it_lit, gO_e (yt29 H), gV_e (yp29_1 H), gc0 H, gc1 H, gc2 H, gc3 H, gc4 H, gc5 H, gc6 H, cl0, cl1, cl2, cl3, cl4, cl5, cl6, cI_e, cV_e, cA_e, cJ_e, lt_]
  rw [z_149 H X h3 h0 (by omega) (by omega)]
  simp only [gO_e (yt29 H), gV_e (yp29_1 H), gc0 H, gc1 H, gc2 H, gc3 H, gc4 H, gc5 H, gc6 H, cl0, cl1, cl2, cl3, cl4, cl5, cl6, cI_e, cV_e, cA_e, cJ_e, lt_, Int.reduceToNat, e1]
  rw [s_150 (by omega) (by omega)]
  simp only [gO_e (yt29 H), gV_e (yp29_1 H), gc0 H, gc1 H, gc2 H, gc3 H, gc4 H, gc5 H, gc6 H, cl0, cl1, cl2, cl3, cl4, cl5, cl6, cI_e, cV_e, cA_e, cJ_e, lt_, bi0]
  rw [if_pos (fun q => q ⟨by omega, by omega⟩), s_151 H X, ho]
  simp only [gO_e (yt29 H), gV_e (yp29_1 H), gc0 H, gc1 H, gc2 H, gc3 H, gc4 H, gc5 H, gc6 H, cl0, cl1, cl2, cl3, cl4, cl5, cl6, cI_e, cV_e, cA_e, cJ_e, lt_]
  rw [if_pos (fun q => by have := (it_eq (by omega) (by omega) (by omega) (by omega)).mp q; omega), s_152]
  simp only [gO_e (yt29 H), gV_e (yp29_1 H), gc0 H, gc1 H, gc2 H, gc3 H, gc4 H, gc5 H, gc6 H, cl0, cl1, cl2, cl3, cl4, cl5, cl6, cI_e, cV_e, cA_e, cJ_e, lt_]
  rw [z_144 H X (by omega) (by omega) (by omega)]
  simp only [gO_e (yt29 H), gV_e (yp29_1 H), gc0 H, gc1 H, gc2 H, gc3 H, gc4 H, gc5 H, gc6 H, cl0, cl1, cl2, cl3, cl4, cl5, cl6, cI_e, cV_e, cA_e, cJ_e, lt_]
  rw [s_152]
  simp only [gO_e (yt29 H), gV_e (yp29_1 H), gc0 H, gc1 H, gc2 H, gc3 H, gc4 H, gc5 H, gc6 H, cl0, cl1, cl2, cl3, cl4, cl5, cl6, cI_e, cV_e, cA_e, cJ_e, lt_, it_add]
  rw [show (151 + ((o : Int) - 1) * 11).toNat = 140 + 11 * o by omega, z_144 H (X.wr _ _) (by omega) (by omega) (by omega)]
  simp only [gO_e (yt29 H), gV_e (yp29_1 H), gc0 H, gc1 H, gc2 H, gc3 H, gc4 H, gc5 H, gc6 H, cl0, cl1, cl2, cl3, cl4, cl5, cl6, cI_e, cV_e, cA_e, cJ_e, lt_]
  rw [show (151 + ((o : Int) - 1) * 11 + 1).toNat = 141 + 11 * o by omega]
  exact l_165 H h3 h4 f1 f2 h0 h1 o1 o2 z1 sz 0 (m + 2) _ _ (by omega) ((X.wr (140 + 11 * o) (it 1)).wr (141 + 11 * o) (it sz)) (fun j hj => by rw [up1_n (by omega), up1_n (by omega)]) (by omega)
theorem h_165 {x : Int} (H : Lay B w) (X : XM B s m c I) (h3 : c 3 = it hi) (h4 : c 4 = it fr) (f1 : 1 ≤ fr) (f2 : fr ≤ 8) (h0 : hi ≤ 30) (h1 : 1 ≤ hi) (hz : c (6 + hi) = it x) (x1 : -2147483648 ≤ x) (x2 : x < 2147483648) (hn : ¬ (0 ≤ x ∧ x ≤ 9)) : Cl K (d + 4) 165 [.ref (B + 29)] w I J = some (some (.int (it 5)), w, I, J) := by
  apply cl_165 (k := 0)
  unfold f_165
  have e1 : c (7 + hi - 1) = it x := by rw [← hz]; exact congrArg c (by omega)
  simp only [it_lit, gO_e (yt29 H), gV_e (yp29_1 H), gc0 H, gc1 H, gc2 H, gc3 H, gc4 H, gc5 H, gc6 H, cl0, cl1, cl2, cl3, cl4, cl5, cl6, cI_e, cV_e, cA_e, cJ_e, lt_]
  rw [z_149 H X h3 h0 (by omega) (by omega)]
  simp only [gO_e (yt29 H), gV_e (yp29_1 H), gc0 H, gc1 H, gc2 H, gc3 H, gc4 H, gc5 H, gc6 H, cl0, cl1, cl2, cl3, cl4, cl5, cl6, cI_e, cV_e, cA_e, cJ_e, lt_, Int.reduceToNat, e1]
  rw [s_150 (by omega) (by omega)]
  simp only [gO_e (yt29 H), gV_e (yp29_1 H), gc0 H, gc1 H, gc2 H, gc3 H, gc4 H, gc5 H, gc6 H, cl0, cl1, cl2, cl3, cl4, cl5, cl6, cI_e, cV_e, cA_e, cJ_e, lt_, bi0]
  rw [if_neg (fun q => q hn)]
theorem g_165 {sz : Nat} (H : Lay B w) (X : XM B s m c I) (h3 : c 3 = it hi) (h4 : c 4 = it fr) (f1 : 1 ≤ fr) (f2 : fr ≤ 8) (h0 : hi ≤ 30) (h1 : 1 ≤ hi) (hz : c (6 + hi) = it sz) (z1 : sz ≤ 9) (ho : lfree (fun q => c (140 + 11 * q)) 16 1 = 0) : Cl K (d + 4) 165 [.ref (B + 29)] w I J = some (some (.int (it 6)), w, I, J) := by
  apply cl_165 (k := 0)
  unfold f_165
  have e1 : c (7 + hi - 1) = it sz := by rw [← hz]; exact congrArg c (by omega)
  simp only [it_lit, gO_e (yt29 H), gV_e (yp29_1 H), gc0 H, gc1 H, gc2 H, gc3 H, gc4 H, gc5 H, gc6 H, cl0, cl1, cl2, cl3, cl4, cl5, cl6, cI_e, cV_e, cA_e, cJ_e, lt_]
  rw [z_149 H X h3 h0 (by omega) (by omega)]
  simp only [gO_e (yt29 H), gV_e (yp29_1 H), gc0 H, gc1 H, gc2 H, gc3 H, gc4 H, gc5 H, gc6 H, cl0, cl1, cl2, cl3, cl4, cl5, cl6, cI_e, cV_e, cA_e, cJ_e, lt_, Int.reduceToNat, e1]
  rw [s_150 (by omega) (by omega)]
  simp only [gO_e (yt29 H), gV_e (yp29_1 H), gc0 H, gc1 H, gc2 H, gc3 H, gc4 H, gc5 H, gc6 H, cl0, cl1, cl2, cl3, cl4, cl5, cl6, cI_e, cV_e, cA_e, cJ_e, lt_, bi0]
  rw [if_pos (fun q => q ⟨by omega, by omega⟩), s_151 H X, ho]
  simp only [gO_e (yt29 H), gV_e (yp29_1 H), gc0 H, gc1 H, gc2 H, gc3 H, gc4 H, gc5 H, gc6 H, cl0, cl1, cl2, cl3, cl4, cl5, cl6, cI_e, cV_e, cA_e, cJ_e, lt_]
  rw [if_neg (fun q => q rfl)]
theorem s_166 {o : Nat} (H : Lay B w) (X : XM B s m c I) (h3 : c 3 = it hi) (h4 : c 4 = it fr) (f1 : 1 ≤ fr) (f2 : fr ≤ 8) (h0 : hi ≤ 30) (hm : m < 20) (h2 : 2 ≤ hi) (ho : lfree (fun q => c (140 + 11 * q)) 16 1 = o) (o1 : 1 ≤ o) (o2 : o ≤ 16) : Cl K (d + 4) 166 [.ref (B + 29)] w I J = some (some (.int (it 0)), w, wrs B s m ((140 + 11 * o, it 2) :: (141 + 11 * o, c (5 + hi)) :: (142 + 11 * o, c (6 + hi)) :: wR hi fr 2 (c (88 + 8 * (fr - 1))) (it o) (it 3)) I, J) := by
  apply cl_166 (k := 0)
  unfold f_166
  have e1 : c (7 + hi - 1) = c (6 + hi) := congrArg c (by omega)
  have e2 : c (7 + hi - 2) = c (5 + hi) := congrArg c (by omega)
  simp only [it_lit, gO_e (yt29 H), gV_e (yp29_1 H), gc0 H, gc1 H, gc2 H, gc3 H, gc4 H, gc5 H, gc6 H, cl0, cl1, cl2, cl3, cl4, cl5, cl6, cI_e, cV_e, cA_e, cJ_e, lt_]
  rw [s_151 H X, ho]
  simp only [gO_e (yt29 H), gV_e (yp29_1 H), gc0 H, gc1 H, gc2 H, gc3 H, gc4 H, gc5 H, gc6 H, cl0, cl1, cl2, cl3, cl4, cl5, cl6, cI_e, cV_e, cA_e, cJ_e, lt_]
  rw [if_pos (fun q => by have := (it_eq (by omega) (by omega) (by omega) (by omega)).mp q; omega), s_152]
  simp only [gO_e (yt29 H), gV_e (yp29_1 H), gc0 H, gc1 H, gc2 H, gc3 H, gc4 H, gc5 H, gc6 H, cl0, cl1, cl2, cl3, cl4, cl5, cl6, cI_e, cV_e, cA_e, cJ_e, lt_]
  rw [z_144 H X (by omega) (by omega) (by omega)]
  simp only [gO_e (yt29 H), gV_e (yp29_1 H), gc0 H, gc1 H, gc2 H, gc3 H, gc4 H, gc5 H, gc6 H, cl0, cl1, cl2, cl3, cl4, cl5, cl6, cI_e, cV_e, cA_e, cJ_e, lt_]
  rw [s_152, show (151 + ((o : Int) - 1) * 11).toNat = 140 + 11 * o by omega]
  simp only [gO_e (yt29 H), gV_e (yp29_1 H), gc0 H, gc1 H, gc2 H, gc3 H, gc4 H, gc5 H, gc6 H, cl0, cl1, cl2, cl3, cl4, cl5, cl6, cI_e, cV_e, cA_e, cJ_e, lt_, it_add]
  have X1 := X.wr (140 + 11 * o) (it 2)
  rw [z_149 H X1 (hi := hi) (by rw [up1_n (by omega)]; exact h3) h0 (by omega) (by omega)]
  simp only [gO_e (yt29 H), gV_e (yp29_1 H), gc0 H, gc1 H, gc2 H, gc3 H, gc4 H, gc5 H, gc6 H, cl0, cl1, cl2, cl3, cl4, cl5, cl6, cI_e, cV_e, cA_e, cJ_e, lt_, Int.reduceToNat]
  rw [z_144 H X1 (by omega) (by omega) (by omega)]
  simp only [gO_e (yt29 H), gV_e (yp29_1 H), gc0 H, gc1 H, gc2 H, gc3 H, gc4 H, gc5 H, gc6 H, cl0, cl1, cl2, cl3, cl4, cl5, cl6, cI_e, cV_e, cA_e, cJ_e, lt_]
  rw [s_152, show (151 + ((o : Int) - 1) * 11 + 1).toNat = 141 + 11 * o by omega, up1_n (by omega), e2]
  simp only [gO_e (yt29 H), gV_e (yp29_1 H), gc0 H, gc1 H, gc2 H, gc3 H, gc4 H, gc5 H, gc6 H, cl0, cl1, cl2, cl3, cl4, cl5, cl6, cI_e, cV_e, cA_e, cJ_e, lt_, it_add]
  have X2 := X1.wr (141 + 11 * o) (c (5 + hi))
  rw [z_149 H X2 (hi := hi) (by rw [up1_n (by omega), up1_n (by omega)]; exact h3) h0 (by omega) (by omega)]
  simp only [gO_e (yt29 H), gV_e (yp29_1 H), gc0 H, gc1 H, gc2 H, gc3 H, gc4 H, gc5 H, gc6 H, cl0, cl1, cl2, cl3, cl4, cl5, cl6, cI_e, cV_e, cA_e, cJ_e, lt_, Int.reduceToNat]
  rw [z_144 H X2 (by omega) (by omega) (by omega)]
  simp only [gO_e (yt29 H), gV_e (yp29_1 H), gc0 H, gc1 H, gc2 H, gc3 H, gc4 H, gc5 H, gc6 H, cl0, cl1, cl2, cl3, cl4, cl5, cl6, cI_e, cV_e, cA_e, cJ_e, lt_]
  rw [show (151 + ((o : Int) - 1) * 11 + 2).toNat = 142 + 11 * o by omega, up1_n (by omega), up1_n (by omega), e1]
  have X3 := X2.wr (142 + 11 * o) (c (6 + hi))
  rw [z_161 H X3 (hi := hi) (fr := fr) (by rw [up1_n (by omega), up1_n (by omega), up1_n (by omega)]; exact h3) (by rw [up1_n (by omega), up1_n (by omega), up1_n (by omega)]; exact h4) f1 f2 h0 (by omega) (by omega) (by omega) (by omega)]
  simp only [gO_e (yt29 H), gV_e (yp29_1 H), gc0 H, gc1 H, gc2 H, gc3 H, gc4 H, gc5 H, gc6 H, cl0, cl1, cl2, cl3, cl4, cl5, cl6, cI_e, cV_e, cA_e, cJ_e, lt_]
  rw [up1_n (by omega), up1_n (by omega), up1_n (by omega)]
  rfl
theorem g_166 (H : Lay B w) (X : XM B s m c I) (h3 : c 3 = it hi) (h4 : c 4 = it fr) (f1 : 1 ≤ fr) (f2 : fr ≤ 8) (h0 : hi ≤ 30) (ho : lfree (fun q => c (140 + 11 * q)) 16 1 = 0) : Cl K (d + 4) 166 [.ref (B + 29)] w I J = some (some (.int (it 6)), w, I, J) := by
  apply cl_166 (k := 0)
  unfold f_166
  simp only [it_lit, gO_e (yt29 H), gV_e (yp29_1 H), gc0 H, gc1 H, gc2 H, gc3 H, gc4 H, gc5 H, gc6 H, cl0, cl1, cl2, cl3, cl4, cl5, cl6, cI_e, cV_e, cA_e, cJ_e, lt_]
  rw [s_151 H X, ho]
  simp only [gO_e (yt29 H), gV_e (yp29_1 H), gc0 H, gc1 H, gc2 H, gc3 H, gc4 H, gc5 H, gc6 H, cl0, cl1, cl2, cl3, cl4, cl5, cl6, cI_e, cV_e, cA_e, cJ_e, lt_]
  rw [if_neg (fun q => q rfl)]
end XOP

/-! the class's clearing -/
def bt1 (o : Nat) : Int32 := it 1 <<< (it o &&& it 31)
/-- the chain of an object: tl the next one -/
def chb (tl : Nat → Nat) : Nat → Nat → Int32 → Int32
  | 0, _, b => b
  | k + 1, o, b => if o = 0 then b else chb tl k (tl o) (b ||| bt1 o)
def heldB (tl : Nat → Nat) : List Nat → Int32 → Int32
  | [], b => b
  | r :: l, b => heldB tl l (b ||| chb tl 16 r (it 0))
theorem heldB_app (tl : Nat → Nat) (l l' : List Nat) (b : Int32) : heldB tl (l ++ l') b = heldB tl l' (heldB tl l b) := by
  induction l generalizing b with
  | nil => rfl
  | cons r l ih => exact ih _
/-- what hangs on the stack, on a frame's variables, on the frames -/
def rtS (ty v : Nat → Nat) : Nat → Nat → List Nat
  | 0, _ => []
  | k + 1, i => (if 2 ≤ ty i then [v i] else []) ++ rtS ty v k (i + 1)
def rtF (cn : Nat → Nat) (vt vv : Nat → Nat → Nat) : Nat → Nat → List Nat
  | 0, _ => []
  | k + 1, j => rtS (vt j) (vv j) (cn j) 0 ++ rtF cn vt vv k (j + 1)
/-- objects' tails -/
def okTl (c : Nat → Int32) (tl : Nat → Nat) : Prop := ∀ o, 1 ≤ o → o ≤ 16 → tl o ≤ 16 ∧ (c (140 + 11 * o) = it 2 → c (142 + 11 * o) = it (tl o)) ∧ (¬ c (140 + 11 * o) = it 2 → tl o = 0)
section XGC
variable {K : Nat → Value} {B d k s m hi fr a : Nat} {w : aW} {I : aI} {J : aJ} {c : Nat → Int32} {z : Int} {tl : Nat → Nat}
theorem l_155 {l1 : Int32} (H : Lay B w) (X : XM B s m c I) (ht : okTl c tl) : ∀ (n i o : Nat) (b : Int32), i + n = 16 → o ≤ 16 → f_155_7 K (n + 1) (d + 1) (B + 29) l1 b (it o) (it i) w I J = some (some (.int (chb tl n o b)), w, I, J) := by
  intro n
  induction n with
  | zero =>
    intro i o b h1 h2
    rw [f_155_7]
    unfold f_155_66
    simp only [it_lit, gO_e (yt29 H), gV_e (yp29_1 H), gc0 H, gc1 H, gc2 H, gc3 H, gc4 H, gc5 H, gc6 H, cl0, cl1, cl2, cl3, cl4, cl5, cl6, cI_e, cV_e, cA_e, cJ_e, lt_]
    rw [if_pos ((it_le (by omega) (by omega) (by omega) (by omega)).mpr (by omega))]
    rfl
  | succ n ih =>
    intro i o b h1 h2
    rw [f_155_7]
    unfold f_155_66 f_155_59
    simp only [it_lit, gO_e (yt29 H), gV_e (yp29_1 H), gc0 H, gc1 H, gc2 H, gc3 H, gc4 H, gc5 H, gc6 H, cl0, cl1, cl2, cl3, cl4, cl5, cl6, cI_e, cV_e, cA_e, cJ_e, lt_]
    rw [if_neg (fun q => by have := (it_le (by omega) (by omega) (by omega) (by omega)).mp q; omega)]
    by_cases h0 : o = 0
    · rw [if_pos ((it_lt (by omega) (by omega) (by omega) (by omega)).mpr (by omega))]
      simp only [chb, if_pos h0]
    · rw [if_neg (fun q => by have := (it_lt (by omega) (by omega) (by omega) (by omega)).mp q; omega), if_neg (fun q => by have := (it_lt (by omega) (by omega) (by omega) (by omega)).mp q; omega), s_152]
      simp only [gO_e (yt29 H), gV_e (yp29_1 H), gc0 H, gc1 H, gc2 H, gc3 H, gc4 H, gc5 H, gc6 H, cl0, cl1, cl2, cl3, cl4, cl5, cl6, cI_e, cV_e, cA_e, cJ_e, lt_]
      rw [gA_e (yt30 H) (Or.inl rfl) (ix (by omega) (by omega) (by omega)), it_cl (by omega) (by omega), X.2.2.2, show (151 + ((o : Int) - 1) * 11).toNat = 140 + 11 * o by omega]
      obtain ⟨t1, t2, t3⟩ := ht o (by omega) h2
      simp only [it_add, chb, if_neg h0]
      by_cases hc : c (140 + 11 * o) = it 2
      · rw [if_neg (fun q => q hc), s_152]
        simp only [gO_e (yt29 H), gV_e (yp29_1 H), gc0 H, gc1 H, gc2 H, gc3 H, gc4 H, gc5 H, gc6 H, cl0, cl1, cl2, cl3, cl4, cl5, cl6, cI_e, cV_e, cA_e, cJ_e, lt_, it_add]
        rw [gA_e (yt30 H) (Or.inl rfl) (ix (by omega) (by omega) (by omega)), it_cl (by omega) (by omega), X.2.2.2, show (151 + ((o : Int) - 1) * 11 + 2).toNat = 142 + 11 * o by omega, t2 hc]
        exact ih (i + 1) (tl o) _ (by omega) t1
      · rw [if_pos hc, t3 hc]
        exact ih (i + 1) 0 _ (by omega) (by omega)
theorem s_155 {o : Nat} (H : Lay B w) (X : XM B s m c I) (ht : okTl c tl) (ho : o ≤ 16) : Cl K (d + 2) 155 [.ref (B + 29), .int (it o)] w I J = some (some (.int (chb tl 16 o (it 0))), w, I, J) := by
  apply cl_155 (k := 17)
  unfold f_155
  exact l_155 H X ht 16 0 o (it 0) (by omega) ho
theorem l_154a {ty v : Nat → Nat} (H : Lay B w) (X : XM B s m c I) (ht : okTl c tl) (h3 : c 3 = it hi) (h0 : hi ≤ 30) (hv : ∀ i, i < hi → c (37 + i) = it (ty i) ∧ ty i ≤ 3 ∧ (2 ≤ ty i → c (7 + i) = it (v i) ∧ v i ≤ 16)) : ∀ (n i kk : Nat) (b : Int32), i + n = hi → f_154_4 K (n + kk + 1) (d + 2) (B + 29) b (it i) w I J = f_154_49 K kk (d + 2) (B + 29) (heldB tl (rtS ty v n i) b) (it 0) w I J := by
  intro n
  induction n with
  | zero =>
    intro i kk b h1
    rw [f_154_4]
    have h3' : I (B + 30) 3 = it hi := by rw [X.2.2.2]; exact h3
    simp only [it_lit, gO_e (yt29 H), gV_e (yp29_1 H), gc0 H, gc1 H, gc2 H, gc3 H, gc4 H, gc5 H, gc6 H, cl0, cl1, cl2, cl3, cl4, cl5, cl6, cI_e, cV_e, cA_e, cJ_e, lt_, h3']
    rw [if_pos ((it_le (by omega) (by omega) (by omega) (by omega)).mpr (by omega)), Nat.zero_add]
    rfl
  | succ n ih =>
    intro i kk b h1
    rw [show n + 1 + kk + 1 = (n + kk + 1) + 1 by omega, f_154_4]
    unfold f_154_41
    have h3' : I (B + 30) 3 = it hi := by rw [X.2.2.2]; exact h3
    obtain ⟨v1, v2, v3⟩ := hv i (by omega)
    simp only [it_lit, gO_e (yt29 H), gV_e (yp29_1 H), gc0 H, gc1 H, gc2 H, gc3 H, gc4 H, gc5 H, gc6 H, cl0, cl1, cl2, cl3, cl4, cl5, cl6, cI_e, cV_e, cA_e, cJ_e, lt_, h3', it_add]
    rw [if_neg (fun q => by have := (it_le (by omega) (by omega) (by omega) (by omega)).mp q; omega), z_147 H X (by omega) (by omega), show (37 + (i : Int)).toNat = 37 + i by omega, v1]
    simp only [gO_e (yt29 H), gV_e (yp29_1 H), gc0 H, gc1 H, gc2 H, gc3 H, gc4 H, gc5 H, gc6 H, cl0, cl1, cl2, cl3, cl4, cl5, cl6, cI_e, cV_e, cA_e, cJ_e, lt_]
    by_cases hc : 2 ≤ ty i
    · rw [if_neg (fun q => by have := (it_lt (by omega) (by omega) (by omega) (by omega)).mp q; omega), z_147 H X (by omega) (by omega), show (7 + (i : Int)).toNat = 7 + i by omega, (v3 hc).1]
      simp only [gO_e (yt29 H), gV_e (yp29_1 H), gc0 H, gc1 H, gc2 H, gc3 H, gc4 H, gc5 H, gc6 H, cl0, cl1, cl2, cl3, cl4, cl5, cl6, cI_e, cV_e, cA_e, cJ_e, lt_]
      rw [s_155 H X ht (v3 hc).2]
      simp only [gO_e (yt29 H), gV_e (yp29_1 H), gc0 H, gc1 H, gc2 H, gc3 H, gc4 H, gc5 H, gc6 H, cl0, cl1, cl2, cl3, cl4, cl5, cl6, cI_e, cV_e, cA_e, cJ_e, lt_, rtS, if_pos hc]
      exact ih (i + 1) kk _ (by omega)
    · rw [if_pos ((it_lt (by omega) (by omega) (by omega) (by omega)).mpr (by omega))]
      simp only [rtS, if_neg hc]
      exact ih (i + 1) kk _ (by omega)
theorem l_154b {f j cn : Nat} {vt vv : Nat → Nat} (r49 : Nat → Int32 → Int32 → aW → aI → aJ → Option aR) (H : Lay B w) (X : XM B s m c I) (hp : w.2.1 (B + 29) 0 = some a) (hP : PL w a) (ht : okTl c tl) (hj : j < 8) (hf : c (87 + 8 * j) = it f) (f5 : f < 5) (i2 : I (a + 5) (4 * f + 2) = it cn) (c6 : cn ≤ 6) (hv : ∀ v, v < cn → I (a + 6) (6 * f + v) = it (vt v) ∧ vt v ≤ 3 ∧ (2 ≤ vt v → c (89 + 8 * j + v) = it (vv v) ∧ vv v ≤ 16)) : ∀ (n v k : Nat) (b : Int32), v + n = cn → n < k → f_154_61 K k (d + 3) r49 (B + 29) b (it j) (it v) w I J = r49 (B + 29) (heldB tl (rtS vt vv n v) b) (it (j + 1)) w I J := by
  intro n
  induction n with
  | zero =>
    intro v k b h1 hk
    obtain ⟨k, rfl⟩ : ∃ k', k = k' + 1 := ⟨k - 1, by omega⟩
    rw [f_154_61]
    simp only [it_lit, gO_e (yt29 H), gV_e (yp29_1 H), gc0 H, gc1 H, gc2 H, gc3 H, gc4 H, gc5 H, gc6 H, cl0, cl1, cl2, cl3, cl4, cl5, cl6, cI_e, cV_e, cA_e, cJ_e, lt_]
    rw [s_156 H X hp hP hj hf f5, i2]
    simp only [gO_e (yt29 H), gV_e (yp29_1 H), gc0 H, gc1 H, gc2 H, gc3 H, gc4 H, gc5 H, gc6 H, cl0, cl1, cl2, cl3, cl4, cl5, cl6, cI_e, cV_e, cA_e, cJ_e, lt_, it_add]
    rw [if_pos ((it_le (by omega) (by omega) (by omega) (by omega)).mpr (by omega))]
    rfl
  | succ n ih =>
    intro v k b h1 hk
    obtain ⟨k, rfl⟩ : ∃ k', k = k' + 1 := ⟨k - 1, by omega⟩
    rw [f_154_61]
    unfold f_154_93
    obtain ⟨v1, v2, v3⟩ := hv v (by omega)
    simp only [it_lit, gO_e (yt29 H), gV_e (yp29_1 H), gc0 H, gc1 H, gc2 H, gc3 H, gc4 H, gc5 H, gc6 H, cl0, cl1, cl2, cl3, cl4, cl5, cl6, cI_e, cV_e, cA_e, cJ_e, lt_]
    rw [s_156 H X hp hP hj hf f5, i2]
    simp only [gO_e (yt29 H), gV_e (yp29_1 H), gc0 H, gc1 H, gc2 H, gc3 H, gc4 H, gc5 H, gc6 H, cl0, cl1, cl2, cl3, cl4, cl5, cl6, cI_e, cV_e, cA_e, cJ_e, lt_, it_add]
    rw [if_neg (fun q => by have := (it_le (by omega) (by omega) (by omega) (by omega)).mp q; omega), s_157 H X hp hP hj hf f5 (by omega), v1]
    simp only [gO_e (yt29 H), gV_e (yp29_1 H), gc0 H, gc1 H, gc2 H, gc3 H, gc4 H, gc5 H, gc6 H, cl0, cl1, cl2, cl3, cl4, cl5, cl6, cI_e, cV_e, cA_e, cJ_e, lt_]
    by_cases hc : 2 ≤ vt v
    · rw [if_neg (fun q => by have := (it_lt (by omega) (by omega) (by omega) (by omega)).mp q; omega), s_158 H X hj (by omega), (v3 hc).1]
      simp only [gO_e (yt29 H), gV_e (yp29_1 H), gc0 H, gc1 H, gc2 H, gc3 H, gc4 H, gc5 H, gc6 H, cl0, cl1, cl2, cl3, cl4, cl5, cl6, cI_e, cV_e, cA_e, cJ_e, lt_]
      rw [s_155 H X ht (v3 hc).2]
      simp only [gO_e (yt29 H), gV_e (yp29_1 H), gc0 H, gc1 H, gc2 H, gc3 H, gc4 H, gc5 H, gc6 H, cl0, cl1, cl2, cl3, cl4, cl5, cl6, cI_e, cV_e, cA_e, cJ_e, lt_, rtS, if_pos hc]
      exact ih (v + 1) k _ (by omega) (by omega)
    · rw [if_pos ((it_lt (by omega) (by omega) (by omega) (by omega)).mpr (by omega))]
      simp only [rtS, if_neg hc]
      exact ih (v + 1) k _ (by omega) (by omega)
theorem l_154c {ff cn : Nat → Nat} {vt vv : Nat → Nat → Nat} (H : Lay B w) (X : XM B s m c I) (hp : w.2.1 (B + 29) 0 = some a) (hP : PL w a) (ht : okTl c tl) (h4 : c 4 = it fr) (f2 : fr ≤ 8) (hf : ∀ j, j < fr → c (87 + 8 * j) = it (ff j) ∧ ff j < 5 ∧ I (a + 5) (4 * ff j + 2) = it (cn j) ∧ cn j ≤ 6 ∧ ∀ v, v < cn j → I (a + 6) (6 * ff j + v) = it (vt j v) ∧ vt j v ≤ 3 ∧ (2 ≤ vt j v → c (89 + 8 * j + v) = it (vv j v) ∧ vv j v ≤ 16)) : ∀ (n j kk : Nat) (b : Int32), j + n = fr → 7 ≤ kk → f_154_49 K (n + kk + 1) (d + 3) (B + 29) b (it j) w I J = some (some (.int (heldB tl (rtF cn vt vv n j) b)), w, I, J) := by
  intro n
  induction n with
  | zero =>
    intro j kk b h1 hk
    rw [f_154_49]
    have h4' : I (B + 30) 4 = it fr := by rw [X.2.2.2]; exact h4
    simp only [it_lit, gO_e (yt29 H), gV_e (yp29_1 H), gc0 H, gc1 H, gc2 H, gc3 H, gc4 H, gc5 H, gc6 H, cl0, cl1, cl2, cl3, cl4, cl5, cl6, cI_e, cV_e, cA_e, cJ_e, lt_, h4']
    rw [if_pos ((it_le (by omega) (by omega) (by omega) (by omega)).mpr (by omega))]
    rfl
  | succ n ih =>
    intro j kk b h1 hk
    rw [show n + 1 + kk + 1 = (n + kk + 1) + 1 by omega, f_154_49]
    have h4' : I (B + 30) 4 = it fr := by rw [X.2.2.2]; exact h4
    obtain ⟨g1, g2, g3, g4, g5⟩ := hf j (by omega)
    simp only [it_lit, gO_e (yt29 H), gV_e (yp29_1 H), gc0 H, gc1 H, gc2 H, gc3 H, gc4 H, gc5 H, gc6 H, cl0, cl1, cl2, cl3, cl4, cl5, cl6, cI_e, cV_e, cA_e, cJ_e, lt_, h4']
    rw [if_neg (fun q => by have := (it_le (by omega) (by omega) (by omega) (by omega)).mp q; omega)]
    refine Eq.trans (l_154b (vt := vt j) (vv := vv j) _ H X hp hP ht (by omega) g1 g2 g3 g4 g5 (cn j) 0 (n + kk + 1) b (by omega) (by omega)) ?_
    refine Eq.trans (ih (j + 1) kk _ (by omega) hk) ?_
    simp only [rtF]
    rw [heldB_app]
theorem s_154 {ff cn ty v : Nat → Nat} {vt vv : Nat → Nat → Nat} (H : Lay B w) (X : XM B s m c I) (hp : w.2.1 (B + 29) 0 = some a) (hP : PL w a) (ht : okTl c tl) (h3 : c 3 = it hi) (h0 : hi ≤ 30) (h4 : c 4 = it fr) (f2 : fr ≤ 8) (hv : ∀ i, i < hi → c (37 + i) = it (ty i) ∧ ty i ≤ 3 ∧ (2 ≤ ty i → c (7 + i) = it (v i) ∧ v i ≤ 16)) (hf : ∀ j, j < fr → c (87 + 8 * j) = it (ff j) ∧ ff j < 5 ∧ I (a + 5) (4 * ff j + 2) = it (cn j) ∧ cn j ≤ 6 ∧ ∀ v, v < cn j → I (a + 6) (6 * ff j + v) = it (vt j v) ∧ vt j v ≤ 3 ∧ (2 ≤ vt j v → c (89 + 8 * j + v) = it (vv j v) ∧ vv j v ≤ 16)) :
    Cl K (d + 4) 154 [.ref (B + 29)] w I J = some (some (.int (heldB tl (rtS ty v hi 0 ++ rtF cn vt vv fr 0) (it 0))), w, I, J) := by
  apply cl_154 (k := hi + (fr + 7 + 1) + 1)
  unfold f_154
  refine Eq.trans (l_154a (ty := ty) (v := v) H X ht h3 h0 hv hi 0 (fr + 7 + 1) (it 0) (by omega)) ?_
  refine Eq.trans (l_154c (ff := ff) (cn := cn) (vt := vt) (vv := vv) H X hp hP ht h4 f2 hf fr 0 7 _ (by omega) (by omega)) ?_
  rw [heldB_app]
/-- what a clearing frees -/
def wFr (fd : Nat → Bool) : Nat → Nat → List (Nat × Int32)
  | 0, _ => []
  | k + 1, o => (if fd o = true then [(140 + 11 * o, it 0)] else []) ++ wFr fd k (o + 1)
theorem wFr_len (fd : Nat → Bool) : ∀ k o, (wFr fd k o).length ≤ k := by
  intro k
  induction k with
  | zero => intro o; exact Nat.le_refl _
  | succ k ih =>
    intro o
    simp only [wFr, List.length_append]
    have := ih (o + 1)
    split
    · show 1 + _ ≤ _; omega
    · show 0 + _ ≤ _; omega
theorem l_153 {fd : Nat → Bool} {hb : Int32} (H : Lay B w) (hfd : ∀ o, 1 ≤ o → o ≤ 16 → (fd o = true ↔ (hb >>> (it o &&& it 31)) &&& it 1 = it 0 ∧ ¬ c (140 + 11 * o) = it 0)) : ∀ (n o m q : Nat) (I : aI) (c' : Nat → Int32), o + n = 17 → 1 ≤ o → XM B s m c' I → m + n < 35 → q < o → (∀ j, 140 + 11 * o ≤ j → c' j = c j) → c' 2 = c 2 → f_153_9 K (n + 1) (d + 1) (B + 29) hb (it q) (it o) w I J = some (some (.int (it ((q + (wFr fd n o).length : Nat) : Int))), w, wrs B s m (wFr fd n o ++ [(2, c 2 + it 1)]) I, J) := by
  intro n
  induction n with
  | zero =>
    intro o m q I c' h1 h2 X hm hq hc c2
    rw [f_153_9]
    have h2' : I (B + 30) 2 = c 2 := by rw [X.2.2.2]; exact c2
    simp only [it_lit, gO_e (yt29 H), gV_e (yp29_1 H), gc0 H, gc1 H, gc2 H, gc3 H, gc4 H, gc5 H, gc6 H, cl0, cl1, cl2, cl3, cl4, cl5, cl6, cI_e, cV_e, cA_e, cJ_e, lt_, h2']
    rw [if_pos ((it_lt (by omega) (by omega) (by omega) (by omega)).mpr (by omega)), z_144 H X (by omega) (by omega) (by omega)]
    rfl
  | succ n ih =>
    intro o m q I c' h1 h2 X hm hq hc c2
    rw [f_153_9]
    unfold f_153_47
    have hfo := hfd o h2 (by omega)
    simp only [it_lit, gO_e (yt29 H), gV_e (yp29_1 H), gc0 H, gc1 H, gc2 H, gc3 H, gc4 H, gc5 H, gc6 H, cl0, cl1, cl2, cl3, cl4, cl5, cl6, cI_e, cV_e, cA_e, cJ_e, lt_, it_add]
    rw [if_neg (fun q => by have := (it_lt (by omega) (by omega) (by omega) (by omega)).mp q; omega)]
    by_cases hb0 : (hb >>> (it o &&& it 31)) &&& it 1 = it 0
    · rw [if_neg (fun q => q hb0), s_152]
      simp only [gO_e (yt29 H), gV_e (yp29_1 H), gc0 H, gc1 H, gc2 H, gc3 H, gc4 H, gc5 H, gc6 H, cl0, cl1, cl2, cl3, cl4, cl5, cl6, cI_e, cV_e, cA_e, cJ_e, lt_]
      rw [gA_e (yt30 H) (Or.inl rfl) (ix (by omega) (by omega) (by omega)), it_cl (by omega) (by omega), X.2.2.2, show (151 + ((o : Int) - 1) * 11).toNat = 140 + 11 * o by omega, hc (140 + 11 * o) (by omega)]
      by_cases hc0 : c (140 + 11 * o) = it 0
      · rw [if_pos hc0]
        have hfn : ¬ fd o = true := fun q => (hfo.mp q).2 hc0
        simp only [wFr, if_neg hfn]
        exact ih (o + 1) m q I c' (by omega) (by omega) X (by omega) (by omega) (fun j hj => hc j (by omega)) c2
      · rw [if_neg hc0, s_152]
        simp only [gO_e (yt29 H), gV_e (yp29_1 H), gc0 H, gc1 H, gc2 H, gc3 H, gc4 H, gc5 H, gc6 H, cl0, cl1, cl2, cl3, cl4, cl5, cl6, cI_e, cV_e, cA_e, cJ_e, lt_]
        rw [z_144 H X (by omega) (by omega) (by omega), show (151 + ((o : Int) - 1) * 11).toNat = 140 + 11 * o by omega]
        simp only [gO_e (yt29 H), gV_e (yp29_1 H), gc0 H, gc1 H, gc2 H, gc3 H, gc4 H, gc5 H, gc6 H, cl0, cl1, cl2, cl3, cl4, cl5, cl6, cI_e, cV_e, cA_e, cJ_e, lt_]
        have hft : fd o = true := hfo.mpr ⟨hb0, hc0⟩
        simp only [wFr, if_pos hft]
        refine Eq.trans (ih (o + 1) (m + 1) (q + 1) _ _ (by omega) (by omega) (X.wr (140 + 11 * o) (it 0)) (by omega) (by omega) (fun j hj => by rw [up1_n (by omega)]; exact hc j (by omega)) (by rw [up1_n (by omega)]; exact c2)) ?_
        have e : q + 1 + (wFr fd n (o + 1)).length = q + ([(140 + 11 * o, it 0)] ++ wFr fd n (o + 1)).length := by simp only [List.length_append, List.length_cons, List.length_nil]; omega
        rw [← e]
        rfl
    · rw [if_pos hb0]
      have hfn : ¬ fd o = true := fun q => hb0 (hfo.mp q).1
      simp only [wFr, if_neg hfn]
      exact ih (o + 1) m q I c' (by omega) (by omega) X (by omega) (by omega) (fun j hj => hc j (by omega)) c2
theorem s_153 {fd : Nat → Bool} {hb : Int32} (H : Lay B w) (X : XM B s m c I) (hm : m < 19) (hh : Cl K (d + 1) 154 [.ref (B + 29)] w I J = some (some (.int hb), w, I, J)) (hfd : ∀ o, 1 ≤ o → o ≤ 16 → (fd o = true ↔ (hb >>> (it o &&& it 31)) &&& it 1 = it 0 ∧ ¬ c (140 + 11 * o) = it 0)) : Cl K (d + 2) 153 [.ref (B + 29)] w I J = some (some (.int (it ((wFr fd 16 1).length : Int))), w, wrs B s m (wFr fd 16 1 ++ [(2, c 2 + it 1)]) I, J) := by
  apply cl_153 (k := 17)
  unfold f_153
  simp only [it_lit, gO_e (yt29 H), gV_e (yp29_1 H), gc0 H, gc1 H, gc2 H, gc3 H, gc4 H, gc5 H, gc6 H, cl0, cl1, cl2, cl3, cl4, cl5, cl6, cI_e, cV_e, cA_e, cJ_e, lt_]
  rw [hh]
  simp only [gO_e (yt29 H), gV_e (yp29_1 H), gc0 H, gc1 H, gc2 H, gc3 H, gc4 H, gc5 H, gc6 H, cl0, cl1, cl2, cl3, cl4, cl5, cl6, cI_e, cV_e, cA_e, cJ_e, lt_]
  refine Eq.trans (l_153 (fd := fd) (c := c) H hfd 16 1 m 0 I c (by omega) (by omega) X (by omega) (by omega) (fun _ _ => rfl) rfl) ?_
  rw [Nat.zero_add]
end XGC

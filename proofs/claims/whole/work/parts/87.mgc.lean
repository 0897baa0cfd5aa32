/-! the reference's clearing -/
def bb (b : Bool) : Int32 := if b = true then it 1 else it 0
theorem bb0 {b : Bool} : bb b = it 0 ↔ b = false := by cases b <;> decide
def setB (h : Nat → Bool) (v : Nat) : Nat → Bool := fun i => if i = v then true else h i
/-- the row isHeld -/
def rowB (h0 : Nat → Int32) (h : Nat → Bool) : Nat → Int32 := fun i => if i < 17 then bb (h i) else h0 i
theorem rowB_r {h0 : Nat → Int32} {h : Nat → Bool} {i : Nat} (hi : i < 17) : rowB h0 h i = bb (h i) := if_pos hi
theorem rowB_u {h0 : Nat → Int32} {h : Nat → Bool} {v : Nat} (hv : v < 17) : sm_up1 (rowB h0 h) v (it 1) = rowB h0 (setB h v) := by
  funext j
  simp only [up1_a, rowB, setB]
  by_cases hj : j = v
  · subst hj
    rw [if_pos rfl, if_pos hv, if_pos rfl]
    rfl
  · rw [if_neg hj, if_neg hj]
theorem rowB_s {h0 : Nat → Int32} {h : Nat → Bool} {v : Nat} (hv : v < 17) (hh : h v = true) : sm_up1 (rowB h0 h) v (it 1) = rowB h0 h := by
  rw [rowB_u hv]
  congr 1
  funext j
  simp only [setB]
  split
  · rename_i e; rw [e, hh]
  · rfl
theorem rowB_f {h0 : Nat → Int32} {h : Nat → Bool} {v : Nat} (hv : v < 17) (hh : h v = false) : sm_up1 (rowB h0 h) v (it 0) = rowB h0 h := by
  funext j
  simp only [up1_a, rowB]
  split
  · rename_i e; subst e; rw [if_pos hv, hh]; rfl
  · rfl
def nh (B : Nat) (n h : Nat → Int32) (I : aI) : aI := nw B n (sm_up1 I (B + 70) h)
theorem nh_r {B : Nat} {n h : Nat → Int32} {I : aI} : nh B n h I (B + 65) = n := nw_r
theorem nh_77 {B : Nat} {n h : Nat → Int32} {I : aI} : nh B n h I (B + 70) = h := by
  unfold nh
  rw [nw_o (by omega), up1_s]
theorem nh_o {B b : Nat} {n h : Nat → Int32} {I : aI} (h1 : ¬ b = B + 65) (h2 : ¬ b = B + 70) : nh B n h I b = I b := by
  unfold nh
  rw [nw_o h1, up1_n h2]
theorem nh_u {B k : Nat} {n h : Nat → Int32} {I : aI} {v : Int32} : sm_up2 (nh B n h I) (B + 65) k v = nh B (sm_up1 n k v) h I := nw_u
theorem nh_u77 {B k : Nat} {n h : Nat → Int32} {I : aI} {v : Int32} : sm_up2 (nh B n h I) (B + 70) k v = nh B n (sm_up1 h k v) I := by
  funext b
  by_cases h1 : b = B + 70
  · subst h1
    rw [up2_r, nh_77, nh_77]
  · rw [up2_n h1]
    by_cases h2 : b = B + 65
    · subst h2; rw [nh_r, nh_r]
    · rw [nh_o h2 h1, nh_o h2 h1]
/-- marks of roots -/
def marks : List Nat → (Nat → Bool) → Nat → Bool
  | [], h => h
  | r :: l, h => marks l (if r = 0 then h else setB h r)
theorem marks_app (l l' : List Nat) (h : Nat → Bool) : marks (l ++ l') h = marks l' (marks l h) := by
  induction l generalizing h with
  | nil => rfl
  | cons r l ih => exact ih _
def pas (tl : Nat → Nat) : Nat → Nat → Bool → (Nat → Bool) → Bool × (Nat → Bool)
  | 0, _, m, h => (m, h)
  | k + 1, o, m, h => if h o = true ∧ ¬ tl o = 0 ∧ h (tl o) = false then pas tl k (o + 1) true (setB h (tl o)) else pas tl k (o + 1) m h
section MGC
variable {K : Nat → Value} {B d k hi fr : Nat} {w : aW} {I : aI} {J : aJ} {n h0 : Nat → Int32} {z : Int} {tl : Nat → Nat} {h : Nat → Bool}
theorem s_186 {t : Nat} {v : Int32} (ht : t ≤ 3) : Cl K (d + 1) 186 [.int (it t), .int v] w I J = some (some (.int (if 2 ≤ t then v else it 0)), w, I, J) := by
  apply cl_186 (k := 0)
  unfold f_186
  simp only [it_lit]
  by_cases h : 2 ≤ t
  · rw [if_neg (fun q => by have := (it_lt (by omega) (by omega) (by omega) (by omega)).mp q; omega), if_pos h]
  · rw [if_pos ((it_lt (by omega) (by omega) (by omega) (by omega)).mpr (by omega)), if_neg h]
theorem s_187 {t v : Nat} (H : Lay B w) (ht : t ≤ 3) (hv : v ≤ 16) (hz : t < 2 → v = 0) (h00 : h 0 = false) : Cl K (d + 1) 187 [.ref (B + 46), .int (it t), .int (it v)] w (nh B n (rowB h0 h) I) J = some (none, w, nh B n (rowB h0 (if v = 0 then h else setB h v)) I, J) := by
  apply cl_187 (k := 0)
  unfold f_187 f_187_27 f_187_23 f_187_28
  simp only [it_lit, gO_e (yt46 H), gV_e (yp46_36 H), gV_e (yp46_18 H), gV_e (yp46_43 H), gn1 H, gn2 H, gn5 H, gw5 H, cl0, cl1, cl2, cl3, cl4, cl5, cl6, cI_e, cV_e, cA_e, cJ_e, lt_, nw_r, nw_u]
  rw [gA_e (yt70 H) (Or.inl rfl) (ix (by omega) (by omega) (by omega)), it_cl (by omega) (by omega), Int.toNat_natCast, nh_77, rowB_r (by omega)]
  simp only [nh_u77]
  rw [gC_e (Or.inr trivial), gC_e (Or.inl trivial), gA_e (yt70 H) (Or.inl rfl) (ix (by omega) (by omega) (by omega)), gA_e (yt70 H) (Or.inl rfl) (ix (by omega) (by omega) (by omega))]
  by_cases h1 : v = 0
  · subst h1
    rw [if_neg (fun q => q (bb0.mpr h00)), if_pos rfl]
    by_cases h2 : t < 2
    · rw [if_pos ((it_lt (by omega) (by omega) (by omega) (by omega)).mpr (by omega)), rowB_f (by omega) h00]
    · rw [if_neg (fun q => by have := (it_lt (by omega) (by omega) (by omega) (by omega)).mp q; omega), if_pos ((it_le (by omega) (by omega) (by omega) (by omega)).mpr (by omega)), rowB_f (by omega) h00]
  · rw [if_neg h1]
    by_cases hh : h v = true
    · rw [if_pos (fun q => by have := bb0.mp q; rw [hh] at this; cases this), rowB_u (by omega)]
    · rw [if_neg (fun q => q (bb0.mpr (by simpa using hh))), if_neg (fun q => by have := (it_lt (by omega) (by omega) (by omega) (by omega)).mp q; omega), if_neg (fun q => by have := (it_le (by omega) (by omega) (by omega) (by omega)).mp q; omega), rowB_u (by omega)]
theorem s_187z {t : Nat} (H : Lay B w) (ht : t ≤ 3) (h00 : h 0 = false) : Cl K (d + 1) 187 [.ref (B + 46), .int (it t), .int (it 0)] w (nh B n (rowB h0 h) I) J = some (none, w, nh B n (rowB h0 h) I, J) := s_187 (v := 0) H ht (by omega) (fun _ => rfl) h00
theorem l_185a (H : Lay B w) : ∀ (m i kk : Nat) (hr : Nat → Int32), i + m = 17 → (∀ j, j < i → hr j = it 0) → f_185_2 K (m + kk + 1) d (B + 46) (it i) w (nh B n hr I) J = f_185_23 K kk d (B + 46) (it 0) w (nh B n (rowB hr (fun _ => false)) I) J := by
  intro m
  induction m with
  | zero =>
    intro i kk hr h1 h2
    rw [Nat.zero_add, f_185_2]
    simp only [it_lit, gO_e (yt46 H), gV_e (yp46_36 H), gV_e (yp46_18 H), gV_e (yp46_43 H), gn1 H, gn2 H, gn5 H, gw5 H, cl0, cl1, cl2, cl3, cl4, cl5, cl6, cI_e, cV_e, cA_e, cJ_e, lt_, nw_r, nw_u]
    rw [if_pos ((it_lt (by omega) (by omega) (by omega) (by omega)).mpr (by omega))]
    have e : rowB hr (fun _ => false) = hr := by
      funext j
      unfold rowB
      split
      · rw [h2 j (by omega)]; rfl
      · rfl
    rw [e]
  | succ m ih =>
    intro i kk hr h1 h2
    rw [show m + 1 + kk + 1 = (m + kk + 1) + 1 by omega, f_185_2]
    simp only [it_lit, gO_e (yt46 H), gV_e (yp46_36 H), gV_e (yp46_18 H), gV_e (yp46_43 H), gn1 H, gn2 H, gn5 H, gw5 H, cl0, cl1, cl2, cl3, cl4, cl5, cl6, cI_e, cV_e, cA_e, cJ_e, lt_, nw_r, nw_u, it_add, nh_u77]
    rw [if_neg (fun q => by have := (it_lt (by omega) (by omega) (by omega) (by omega)).mp q; omega), gA_e (yt70 H) (Or.inl rfl) (ix (by omega) (by omega) (by omega)), it_cl (by omega) (by omega), Int.toNat_natCast]
    refine Eq.trans (ih (i + 1) kk (sm_up1 hr i (it 0)) (by omega) (fun j hj => by
      by_cases e : j = i
      · rw [e, up1_s]
      · rw [up1_n e]; exact h2 j (by omega))) ?_
    congr 2
    funext j
    unfold rowB
    split
    · rfl
    · rw [up1_n (by omega)]
theorem l_185b {ty v : Nat → Nat} (H : Lay B w) (h2 : n 2 = it hi) (hh : hi ≤ 30) (hv : ∀ i, i < hi → n (40 + i) = it (ty i) ∧ ty i ≤ 3 ∧ (2 ≤ ty i → n (10 + i) = it (v i) ∧ v i ≤ 16)) : ∀ (m i kk : Nat) (h : Nat → Bool), h 0 = false → i + m = hi → f_185_23 K (m + kk + 1) (d + 1) (B + 46) (it i) w (nh B n (rowB h0 h) I) J = f_185_75 K kk (d + 1) (B + 46) (it 0) w (nh B n (rowB h0 (marks (rtS ty v m i) h)) I) J := by
  intro m
  induction m with
  | zero =>
    intro i kk h h00 h1
    rw [Nat.zero_add, f_185_23]
    simp only [it_lit, gO_e (yt46 H), gV_e (yp46_36 H), gV_e (yp46_18 H), gV_e (yp46_43 H), gn1 H, gn2 H, gn5 H, gw5 H, cl0, cl1, cl2, cl3, cl4, cl5, cl6, cI_e, cV_e, cA_e, cJ_e, lt_, nw_r, nw_u, nh_r, h2]
    rw [if_pos ((it_le (by omega) (by omega) (by omega) (by omega)).mpr (by omega))]
    rfl
  | succ m ih =>
    intro i kk h h00 h1
    rw [show m + 1 + kk + 1 = (m + kk + 1) + 1 by omega, f_185_23]
    obtain ⟨v1, v2, v3⟩ := hv i (by omega)
    simp only [it_lit, gO_e (yt46 H), gV_e (yp46_36 H), gV_e (yp46_18 H), gV_e (yp46_43 H), gn1 H, gn2 H, gn5 H, gw5 H, cl0, cl1, cl2, cl3, cl4, cl5, cl6, cI_e, cV_e, cA_e, cJ_e, lt_, nw_r, nw_u, nh_r, h2, it_add]
    rw [if_neg (fun q => by have := (it_le (by omega) (by omega) (by omega) (by omega)).mp q; omega), gA_e (yt65 H) (Or.inl rfl) (ix (by omega) (by omega) (by omega)), gA_e (yt65 H) (Or.inl rfl) (ix (by omega) (by omega) (by omega)), gA_e (yt65 H) (Or.inl rfl) (ix (by omega) (by omega) (by omega)), it_cl (by omega) (by omega), it_cl (by omega) (by omega), show (40 + (i : Int)).toNat = 40 + i by omega, show (10 + (i : Int)).toNat = 10 + i by omega, v1, s_186 v2]
    simp only [gO_e (yt46 H), gV_e (yp46_36 H), gV_e (yp46_18 H), gV_e (yp46_43 H), gn1 H, gn2 H, gn5 H, gw5 H, cl0, cl1, cl2, cl3, cl4, cl5, cl6, cI_e, cV_e, cA_e, cJ_e, lt_, nw_r, nw_u]
    by_cases hc : 2 ≤ ty i
    · rw [if_pos hc, (v3 hc).1, s_187 H v2 (v3 hc).2 (by omega) h00]
      simp only [gO_e (yt46 H), gV_e (yp46_36 H), gV_e (yp46_18 H), gV_e (yp46_43 H), gn1 H, gn2 H, gn5 H, gw5 H, cl0, cl1, cl2, cl3, cl4, cl5, cl6, cI_e, cV_e, cA_e, cJ_e, lt_, nw_r, nw_u, rtS, if_pos hc]
      refine Eq.trans (ih (i + 1) kk _ ?_ (by omega)) rfl
      by_cases e : v i = 0
      · rw [if_pos e]; exact h00
      · rw [if_neg e]; unfold setB; rw [if_neg (by omega)]; exact h00
    · rw [if_neg hc, s_187z H v2 h00]
      simp only [gO_e (yt46 H), gV_e (yp46_36 H), gV_e (yp46_18 H), gV_e (yp46_43 H), gn1 H, gn2 H, gn5 H, gw5 H, cl0, cl1, cl2, cl3, cl4, cl5, cl6, cI_e, cV_e, cA_e, cJ_e, lt_, nw_r, nw_u, rtS, if_neg hc]
      exact ih (i + 1) kk h h00 (by omega)
theorem mk0 (l : List Nat) : ∀ h : Nat → Bool, h 0 = false → marks l h 0 = false := by
  induction l with
  | nil => intro h h0; exact h0
  | cons r l ih =>
    intro h h0
    refine ih _ ?_
    by_cases e : r = 0
    · rw [if_pos e]; exact h0
    · rw [if_neg e]; unfold setB; rw [if_neg (by omega)]; exact h0
theorem l_185c {j f cn : Nat} {vt vv : Nat → Nat} (r75 : Nat → Int32 → aW → aI → aJ → Option aR) (H : Lay B w) (hj : j < 8) (f5 : f < 5) (i2 : I (B + 58) (10 * f + 2) = it cn) (c6 : cn ≤ 6) (hv : ∀ v, v < cn → I (B + 58) (10 * f + 4 + v) = it (vt v) ∧ vt v ≤ 3 ∧ (2 ≤ vt v → n (72 + 8 * j + v) = it (vv v) ∧ vv v ≤ 16)) : ∀ (m v k : Nat) (h : Nat → Bool), h 0 = false → v + m = cn → m < k → f_185_100 K k (d + 1) r75 (B + 46) (it j) (it f) (it v) w (nh B n (rowB h0 h) I) J = r75 (B + 46) (it (j + 1)) w (nh B n (rowB h0 (marks (rtS vt vv m v) h)) I) J := by
  intro m
  induction m with
  | zero =>
    intro v k h h00 h1 hk
    obtain ⟨k, rfl⟩ : ∃ k', k = k' + 1 := ⟨k - 1, by omega⟩
    rw [f_185_100]
    simp only [it_lit, gO_e (yt46 H), gV_e (yp46_36 H), gV_e (yp46_18 H), gV_e (yp46_43 H), gn1 H, gn2 H, gn5 H, gw5 H, cl0, cl1, cl2, cl3, cl4, cl5, cl6, cI_e, cV_e, cA_e, cJ_e, lt_, nw_r, nw_u, it_add, it_mul]
    rw [gA_e (yt58 H) (Or.inl rfl) (ix (by omega) (by omega) (by omega)), it_cl (a := 10 * (f : Int) + 2) (by omega) (by omega), show (10 * (f : Int) + 2).toNat = 10 * f + 2 by omega, nh_o (by omega) (by omega), i2, if_pos ((it_le (by omega) (by omega) (by omega) (by omega)).mpr (by omega))]
    rfl
  | succ m ih =>
    intro v k h h00 h1 hk
    obtain ⟨k, rfl⟩ : ∃ k', k = k' + 1 := ⟨k - 1, by omega⟩
    rw [f_185_100]
    obtain ⟨v1, v2, v3⟩ := hv v (by omega)
    simp only [it_lit, gO_e (yt46 H), gV_e (yp46_36 H), gV_e (yp46_18 H), gV_e (yp46_43 H), gn1 H, gn2 H, gn5 H, gw5 H, cl0, cl1, cl2, cl3, cl4, cl5, cl6, cI_e, cV_e, cA_e, cJ_e, lt_, nw_r, nw_u, it_add, it_mul, nh_r]
    rw [gA_e (yt58 H) (Or.inl rfl) (ix (by omega) (by omega) (by omega)), it_cl (a := 10 * (f : Int) + 2) (by omega) (by omega), show (10 * (f : Int) + 2).toNat = 10 * f + 2 by omega, nh_o (by omega) (by omega), i2, if_neg (fun q => by have := (it_le (by omega) (by omega) (by omega) (by omega)).mp q; omega)]
    rw [gA_e (yt58 H) (Or.inl rfl) (ix (by omega) (by omega) (by omega)), it_cl (a := 10 * (f : Int) + 4 + v) (by omega) (by omega), show (10 * (f : Int) + 4 + v).toNat = 10 * f + 4 + v by omega, v1]
    rw [gA_e (yt65 H) (Or.inl rfl) (ix (by omega) (by omega) (by omega)), it_cl (a := 70 + 8 * (j : Int) + 2 + v) (by omega) (by omega), show (70 + 8 * (j : Int) + 2 + v).toNat = 72 + 8 * j + v by omega, s_186 v2]
    simp only [gO_e (yt46 H), gV_e (yp46_36 H), gV_e (yp46_18 H), gV_e (yp46_43 H), gn1 H, gn2 H, gn5 H, gw5 H, cl0, cl1, cl2, cl3, cl4, cl5, cl6, cI_e, cV_e, cA_e, cJ_e, lt_, nw_r, nw_u]
    by_cases hc : 2 ≤ vt v
    · rw [if_pos hc, (v3 hc).1, s_187 H v2 (v3 hc).2 (by omega) h00]
      simp only [gO_e (yt46 H), gV_e (yp46_36 H), gV_e (yp46_18 H), gV_e (yp46_43 H), gn1 H, gn2 H, gn5 H, gw5 H, cl0, cl1, cl2, cl3, cl4, cl5, cl6, cI_e, cV_e, cA_e, cJ_e, lt_, nw_r, nw_u, rtS, if_pos hc]
      refine Eq.trans (ih (v + 1) k _ ?_ (by omega) (by omega)) rfl
      by_cases e : vv v = 0
      · rw [if_pos e]; exact h00
      · rw [if_neg e]; unfold setB; rw [if_neg (by omega)]; exact h00
    · rw [if_neg hc, s_187z H v2 h00]
      simp only [gO_e (yt46 H), gV_e (yp46_36 H), gV_e (yp46_18 H), gV_e (yp46_43 H), gn1 H, gn2 H, gn5 H, gw5 H, cl0, cl1, cl2, cl3, cl4, cl5, cl6, cI_e, cV_e, cA_e, cJ_e, lt_, nw_r, nw_u, rtS, if_neg hc]
      exact ih (v + 1) k h h00 (by omega) (by omega)
theorem l_185d {ff cn : Nat → Nat} {vt vv : Nat → Nat → Nat} (H : Lay B w) (h1 : n 1 = it fr) (f8 : fr ≤ 8) (hf : ∀ j, j < fr → n (70 + 8 * j) = it (ff j) ∧ ff j < 5 ∧ I (B + 58) (10 * ff j + 2) = it (cn j) ∧ cn j ≤ 6 ∧ ∀ v, v < cn j → I (B + 58) (10 * ff j + 4 + v) = it (vt j v) ∧ vt j v ≤ 3 ∧ (2 ≤ vt j v → n (72 + 8 * j + v) = it (vv j v) ∧ vv j v ≤ 16)) : ∀ (m j kk : Nat) (h : Nat → Bool), h 0 = false → j + m = fr → 7 ≤ kk → f_185_75 K (m + kk + 1) (d + 1) (B + 46) (it j) w (nh B n (rowB h0 h) I) J = f_185_171 K kk (d + 1) (B + 46) (it 1) w (nh B n (rowB h0 (marks (rtF cn vt vv m j) h)) I) J := by
  intro m
  induction m with
  | zero =>
    intro j kk h h00 hj hk
    rw [Nat.zero_add, f_185_75]
    simp only [it_lit, gO_e (yt46 H), gV_e (yp46_36 H), gV_e (yp46_18 H), gV_e (yp46_43 H), gn1 H, gn2 H, gn5 H, gw5 H, cl0, cl1, cl2, cl3, cl4, cl5, cl6, cI_e, cV_e, cA_e, cJ_e, lt_, nw_r, nw_u, nh_r, h1]
    rw [if_pos ((it_le (by omega) (by omega) (by omega) (by omega)).mpr (by omega))]
    rfl
  | succ m ih =>
    intro j kk h h00 hj hk
    rw [show m + 1 + kk + 1 = (m + kk + 1) + 1 by omega, f_185_75]
    obtain ⟨g1, g2, g3, g4, g5⟩ := hf j (by omega)
    simp only [it_lit, gO_e (yt46 H), gV_e (yp46_36 H), gV_e (yp46_18 H), gV_e (yp46_43 H), gn1 H, gn2 H, gn5 H, gw5 H, cl0, cl1, cl2, cl3, cl4, cl5, cl6, cI_e, cV_e, cA_e, cJ_e, lt_, nw_r, nw_u, nh_r, h1, it_add, it_mul]
    rw [if_neg (fun q => by have := (it_le (by omega) (by omega) (by omega) (by omega)).mp q; omega), gA_e (yt65 H) (Or.inl rfl) (ix (by omega) (by omega) (by omega)), it_cl (by omega) (by omega), show (70 + 8 * (j : Int)).toNat = 70 + 8 * j by omega, g1]
    refine Eq.trans (l_185c (vt := vt j) (vv := vv j) _ H (by omega) g2 g3 g4 g5 (cn j) 0 (m + kk + 1) h h00 (by omega) (by omega)) ?_
    refine Eq.trans (ih (j + 1) kk _ (mk0 _ _ h00) (by omega) hk) ?_
    simp only [rtF]
    rw [marks_app]
theorem l_185e (r171 : Nat → Int32 → aW → aI → aJ → Option aR) (H : Lay B w) (ht : ∀ o, 1 ≤ o → o ≤ 16 → tl o ≤ 16 ∧ (n (154 + 12 * o) = it 2 → n (156 + 12 * o) = it (tl o)) ∧ (¬ n (154 + 12 * o) = it 2 → tl o = 0)) : ∀ (m o k : Nat) (mo : Bool) (h : Nat → Bool), 1 ≤ o → o + m = 17 → m < k → f_185_179 K k (d + 1) r171 (B + 46) (bb mo) (it o) w (nh B n (rowB h0 h) I) J = r171 (B + 46) (bb (pas tl m o mo h).1) w (nh B n (rowB h0 (pas tl m o mo h).2) I) J := by
  intro m
  induction m with
  | zero =>
    intro o k mo h o1 h1 hk
    obtain ⟨k, rfl⟩ : ∃ k', k = k' + 1 := ⟨k - 1, by omega⟩
    rw [f_185_179]
    simp only [it_lit, gO_e (yt46 H), gV_e (yp46_36 H), gV_e (yp46_18 H), gV_e (yp46_43 H), gn1 H, gn2 H, gn5 H, gw5 H, cl0, cl1, cl2, cl3, cl4, cl5, cl6, cI_e, cV_e, cA_e, cJ_e, lt_, nw_r, nw_u]
    rw [if_pos ((it_lt (by omega) (by omega) (by omega) (by omega)).mpr (by omega))]
    rfl
  | succ m ih =>
    intro o k mo h o1 h1 hk
    obtain ⟨k, rfl⟩ : ∃ k', k = k' + 1 := ⟨k - 1, by omega⟩
    rw [f_185_179]
    obtain ⟨t1, t2, t3⟩ := ht o o1 (by omega)
    unfold f_185_213 f_185_245
    simp only [it_lit, gO_e (yt46 H), gV_e (yp46_36 H), gV_e (yp46_18 H), gV_e (yp46_43 H), gn1 H, gn2 H, gn5 H, gw5 H, cl0, cl1, cl2, cl3, cl4, cl5, cl6, cI_e, cV_e, cA_e, cJ_e, lt_, nw_r, nw_u, nh_r, it_add]
    rw [if_neg (fun q => by have := (it_lt (by omega) (by omega) (by omega) (by omega)).mp q; omega), s_183]
    simp only [gO_e (yt46 H), gV_e (yp46_36 H), gV_e (yp46_18 H), gV_e (yp46_43 H), gn1 H, gn2 H, gn5 H, gw5 H, cl0, cl1, cl2, cl3, cl4, cl5, cl6, cI_e, cV_e, cA_e, cJ_e, lt_, nw_r, nw_u, nh_r]
    rw [gA_e (yt65 H) (Or.inl rfl) (ix (by omega) (by omega) (by omega)), it_cl (a := 154 + 12 * (o : Int) + 0) (by omega) (by omega), show (154 + 12 * (o : Int) + 0).toNat = 154 + 12 * o by omega]
    have go : ∀ (t : Nat), tl o = t → (gA w 12 21 (B + 70) (it o) (if nh B n (rowB h0 h) I (B + 70) (it (o : Int)).toNatClampNeg = it 0 then f_185_179 K k (d + 1) r171 (B + 46) (bb mo) (it (o + 1)) w (nh B n (rowB h0 h) I) J else if it (t : Int) ≤ it 0 then f_185_179 K k (d + 1) r171 (B + 46) (bb mo) (it (o + 1)) w (nh B n (rowB h0 h) I) J else gA w 12 21 (B + 70) (it t) (if ¬ nh B n (rowB h0 h) I (B + 70) (it (t : Int)).toNatClampNeg = it 0 then f_185_179 K k (d + 1) r171 (B + 46) (bb mo) (it (o + 1)) w (nh B n (rowB h0 h) I) J else gA w 12 12 (B + 70) (it t) (f_185_179 K k (d + 1) r171 (B + 46) (it 1) (it (o + 1)) w (sm_up2 (nh B n (rowB h0 h) I) (B + 70) (it (t : Int)).toNatClampNeg (it 1)) J)))) = r171 (B + 46) (bb (pas tl (m + 1) o mo h).1) w (nh B n (rowB h0 (pas tl (m + 1) o mo h).2) I) J := by
      intro t et
      subst et
      rw [gA_e (yt70 H) (Or.inl rfl) (ix (by omega) (by omega) (by omega)), it_cl (a := (o : Int)) (by omega) (by omega), Int.toNat_natCast, nh_77, rowB_r (by omega)]
      by_cases hho : h o = true
      · rw [if_neg (fun q => by have := bb0.mp q; rw [hho] at this; cases this)]
        by_cases htz : tl o = 0
        · rw [if_pos ((it_le (by omega) (by omega) (by omega) (by omega)).mpr (by omega))]
          simp only [pas]
          rw [if_neg (fun q => q.2.1 htz)]
          exact ih (o + 1) k mo h (by omega) (by omega) (by omega)
        · rw [if_neg (fun q => by have := (it_le (by omega) (by omega) (by omega) (by omega)).mp q; omega), gA_e (yt70 H) (Or.inl rfl) (ix (by omega) (by omega) (by omega)), it_cl (a := (tl o : Int)) (by omega) (by omega), Int.toNat_natCast, rowB_r (by omega)]
          by_cases hht : h (tl o) = true
          · rw [if_pos (fun q => by have := bb0.mp q; rw [hht] at this; cases this)]
            simp only [pas]
            rw [if_neg (fun q => by have := q.2.2; rw [hht] at this; cases this)]
            exact ih (o + 1) k mo h (by omega) (by omega) (by omega)
          · rw [if_neg (fun q => q (bb0.mpr (by simpa using hht))), gA_e (yt70 H) (Or.inl rfl) (ix (by omega) (by omega) (by omega)), nh_u77, rowB_u (by omega)]
            simp only [pas]
            rw [if_pos ⟨hho, htz, by simpa using hht⟩]
            exact ih (o + 1) k true _ (by omega) (by omega) (by omega)
      · rw [if_pos (bb0.mpr (by simpa using hho))]
        simp only [pas]
        rw [if_neg (fun q => hho q.1)]
        exact ih (o + 1) k mo h (by omega) (by omega) (by omega)
    by_cases hc : n (154 + 12 * o) = it 2
    · rw [if_neg (fun q => q hc), s_183]
      simp only [gO_e (yt46 H), gV_e (yp46_36 H), gV_e (yp46_18 H), gV_e (yp46_43 H), gn1 H, gn2 H, gn5 H, gw5 H, cl0, cl1, cl2, cl3, cl4, cl5, cl6, cI_e, cV_e, cA_e, cJ_e, lt_, nw_r, nw_u, nh_r]
      rw [gA_e (yt65 H) (Or.inl rfl) (ix (by omega) (by omega) (by omega)), it_cl (a := 154 + 12 * (o : Int) + 2) (by omega) (by omega), show (154 + 12 * (o : Int) + 2).toNat = 156 + 12 * o by omega, t2 hc]
      exact go (tl o) rfl
    · rw [if_pos hc]
      exact go 0 (t3 hc)
end MGC

section MOP
variable {K : Nat → Value} {B d k hi fr pr o : Nat} {w : aW} {I : aI} {J : aJ} {n : Nat → Int32} {z : Int}
/-- types that ops put, values that they take -/
def pT (o : Nat) : Int := if o = 1 ∨ o = 6 ∨ 13 ≤ o ∧ o ≤ 16 then 1 else if o = 2 ∨ o = 9 ∨ o = 12 then 3 else if o = 10 then 2 else if 21 ≤ o then -1 else 0
def tK (o : Nat) : Nat := if o < 4 ∨ o = 24 ∨ o = 27 then 0 else if o < 11 ∨ o = 21 ∨ o = 23 ∨ o = 25 ∨ o = 26 then 1 else if o = 22 then 3 else 2
theorem s_122 {a f : Int32} (ho : o ≤ 26) (n3 : ¬ o = 3) (n4 : ¬ o = 4) : Cl K (d + 1) 122 [.ref (B + 46), .int (it o), .int a, .int f] w I J = some (some (.int (it (pT o))), w, I, J) := by
  apply cl_122 (k := 0)
  unfold f_122
  simp only [it_lit, it_neg]
  have h : o = 0 ∨ o = 1 ∨ o = 2 ∨ o = 5 ∨ o = 6 ∨ o = 7 ∨ o = 8 ∨ o = 9 ∨ o = 10 ∨ o = 11 ∨ o = 12 ∨ o = 13 ∨ o = 14 ∨ o = 15 ∨ o = 16 ∨ o = 17 ∨ o = 18 ∨ o = 19 ∨ o = 20 ∨ o = 21 ∨ o = 22 ∨ o = 23 ∨ o = 24 ∨ o = 25 ∨ o = 26 := by omega
  rcases h with rfl | rfl | rfl | rfl | rfl | rfl | rfl | rfl | rfl | rfl | rfl | rfl | rfl | rfl | rfl | rfl | rfl | rfl | rfl | rfl | rfl | rfl | rfl | rfl | rfl <;> (repeat (first | rw [if_pos (by decide)] | rw [if_neg (by decide)]); rfl)
theorem s_122v {a f : Nat} (H : Lay B w) (ha : a < 6) (hf : f < 5) : Cl K (d + 1) 122 [.ref (B + 46), .int (it 3), .int (it a), .int (it f)] w I J = some (some (.int (I (B + 58) (10 * f + 4 + a))), w, I, J) := by
  apply cl_122 (k := 0)
  unfold f_122
  simp only [it_lit, gO_e (yt46 H), gV_e (yp46_36 H), gV_e (yp46_18 H), gV_e (yp46_19 H), gV_e (yp46_20 H), gV_e (yp46_37 H), gV_e (yp46_38 H), gV_e (yp46_39 H), gV_e (yp46_40 H), gV_e (yp46_43 H), gn0 H, gn1 H, gn2 H, gn3 H, gn4 H, gn5 H, gn6 H, gw0 H, gw1 H, gw2 H, gw3 H, gw4 H, gw5 H, gw6 H, cl0, cl1, cl2, cl3, cl4, cl5, cl6, cI_e, cV_e, cA_e, cJ_e, lt_, nw_r, nw_u, it_add, it_mul]
  repeat (first | rw [if_pos (by decide)] | rw [if_neg (by decide)])
  rw [gA_e (yt58 H) (Or.inl rfl) (ix (by omega) (by omega) (by omega)), it_cl (by omega) (by omega), show (10 * (f : Int) + 4 + a).toNat = 10 * f + 4 + a by omega]
theorem s_122c {a : Nat} {f : Int32} (H : Lay B w) (ha : a < 5) : Cl K (d + 1) 122 [.ref (B + 46), .int (it 4), .int (it a), .int f] w I J = some (some (.int (I (B + 58) (10 * a + 3))), w, I, J) := by
  apply cl_122 (k := 0)
  unfold f_122
  simp only [it_lit, gO_e (yt46 H), gV_e (yp46_36 H), gV_e (yp46_18 H), gV_e (yp46_19 H), gV_e (yp46_20 H), gV_e (yp46_37 H), gV_e (yp46_38 H), gV_e (yp46_39 H), gV_e (yp46_40 H), gV_e (yp46_43 H), gn0 H, gn1 H, gn2 H, gn3 H, gn4 H, gn5 H, gn6 H, gw0 H, gw1 H, gw2 H, gw3 H, gw4 H, gw5 H, gw6 H, cl0, cl1, cl2, cl3, cl4, cl5, cl6, cI_e, cV_e, cA_e, cJ_e, lt_, nw_r, nw_u, it_add, it_mul]
  repeat (first | rw [if_pos (by decide)] | rw [if_neg (by decide)])
  rw [gA_e (yt58 H) (Or.inl rfl) (ix (by omega) (by omega) (by omega)), it_cl (by omega) (by omega), show (10 * (a : Int) + 3).toNat = 10 * a + 3 by omega]
theorem s_122t {a f : Int32} : Cl K (d + 1) 122 [.ref (B + 46), .int (it 27), .int a, .int f] w I J = some (some (.int a), w, I, J) := by
  apply cl_122 (k := 0)
  unfold f_122
  simp only [it_lit, it_neg]
  repeat (first | rw [if_pos (by decide)] | rw [if_neg (by decide)])
theorem s_120 {a : Int32} (ho : o ≤ 27) (n4 : ¬ o = 4) : Cl K (d + 1) 120 [.ref (B + 46), .int (it o), .int a] w I J = some (some (.int (it (tK o))), w, I, J) := by
  apply cl_120 (k := 0)
  unfold f_120
  simp only [it_lit]
  have h : o = 0 ∨ o = 1 ∨ o = 2 ∨ o = 3 ∨ o = 5 ∨ o = 6 ∨ o = 7 ∨ o = 8 ∨ o = 9 ∨ o = 10 ∨ o = 11 ∨ o = 12 ∨ o = 13 ∨ o = 14 ∨ o = 15 ∨ o = 16 ∨ o = 17 ∨ o = 18 ∨ o = 19 ∨ o = 20 ∨ o = 21 ∨ o = 22 ∨ o = 23 ∨ o = 24 ∨ o = 25 ∨ o = 26 ∨ o = 27 := by omega
  rcases h with rfl | rfl | rfl | rfl | rfl | rfl | rfl | rfl | rfl | rfl | rfl | rfl | rfl | rfl | rfl | rfl | rfl | rfl | rfl | rfl | rfl | rfl | rfl | rfl | rfl | rfl | rfl <;> (repeat (first | rw [if_pos (by decide)] | rw [if_neg (by decide)]); rfl)
theorem s_120c {a : Nat} (H : Lay B w) (ha : a < 5) : Cl K (d + 1) 120 [.ref (B + 46), .int (it 4), .int (it a)] w I J = some (some (.int (I (B + 58) (10 * a + 1))), w, I, J) := by
  apply cl_120 (k := 0)
  unfold f_120
  simp only [it_lit, gO_e (yt46 H), gV_e (yp46_36 H), gV_e (yp46_18 H), gV_e (yp46_19 H), gV_e (yp46_20 H), gV_e (yp46_37 H), gV_e (yp46_38 H), gV_e (yp46_39 H), gV_e (yp46_40 H), gV_e (yp46_43 H), gn0 H, gn1 H, gn2 H, gn3 H, gn4 H, gn5 H, gn6 H, gw0 H, gw1 H, gw2 H, gw3 H, gw4 H, gw5 H, gw6 H, cl0, cl1, cl2, cl3, cl4, cl5, cl6, cI_e, cV_e, cA_e, cJ_e, lt_, nw_r, nw_u, it_add, it_mul]
  repeat (first | rw [if_pos (by decide)] | rw [if_neg (by decide)])
  rw [gA_e (yt58 H) (Or.inl rfl) (ix (by omega) (by omega) (by omega)), it_cl (by omega) (by omega), show (10 * (a : Int) + 1).toNat = 10 * a + 1 by omega]
theorem s_180a (H : Lay B w) (h2 : n 2 = it hi) (h0 : hi ≤ 30) (ho : o = 0 ∨ o = 1 ∨ o = 2 ∨ o = 3 ∨ o = 27) : Cl K (d + 2) 180 [.ref (B + 46), .int (it o)] w (nw B n I) J = some (some (.int (it (if hi = 30 then 7 else 0))), w, nw B n I, J) := by
  apply cl_180 (k := 0)
  unfold f_180
  simp only [it_lit, gO_e (yt46 H), gV_e (yp46_36 H), gV_e (yp46_18 H), gV_e (yp46_19 H), gV_e (yp46_20 H), gV_e (yp46_37 H), gV_e (yp46_38 H), gV_e (yp46_39 H), gV_e (yp46_40 H), gV_e (yp46_43 H), gn0 H, gn1 H, gn2 H, gn3 H, gn4 H, gn5 H, gn6 H, gw0 H, gw1 H, gw2 H, gw3 H, gw4 H, gw5 H, gw6 H, cl0, cl1, cl2, cl3, cl4, cl5, cl6, cI_e, cV_e, cA_e, cJ_e, lt_, nw_r, nw_u, h2]
  by_cases h : hi = 30
  · subst h
    rcases ho with rfl | rfl | rfl | rfl | rfl <;> (repeat (first | rw [if_pos (by decide)] | rw [if_neg (by decide)]); rfl)
  · have e : ¬ it (hi : Int) = it 30 := (fun q => by have := (it_eq (by omega) (by omega) (by omega) (by omega)).mp q; omega)
    rcases ho with rfl | rfl | rfl | rfl | rfl <;> (simp only [if_pos e, if_neg h]; repeat (first | rw [if_pos (by decide)] | rw [if_neg (by decide)]))
theorem s_180b (H : Lay B w) (h1 : n 1 = it fr) (f2 : fr ≤ 8) : Cl K (d + 2) 180 [.ref (B + 46), .int (it 4)] w (nw B n I) J = some (some (.int (it (if fr = 8 then 7 else 0))), w, nw B n I, J) := by
  apply cl_180 (k := 0)
  unfold f_180
  simp only [it_lit, gO_e (yt46 H), gV_e (yp46_36 H), gV_e (yp46_18 H), gV_e (yp46_19 H), gV_e (yp46_20 H), gV_e (yp46_37 H), gV_e (yp46_38 H), gV_e (yp46_39 H), gV_e (yp46_40 H), gV_e (yp46_43 H), gn0 H, gn1 H, gn2 H, gn3 H, gn4 H, gn5 H, gn6 H, gw0 H, gw1 H, gw2 H, gw3 H, gw4 H, gw5 H, gw6 H, cl0, cl1, cl2, cl3, cl4, cl5, cl6, cI_e, cV_e, cA_e, cJ_e, lt_, nw_r, nw_u, h1]
  by_cases h : fr = 8
  · subst h
    repeat (first | rw [if_pos (by decide)] | rw [if_neg (by decide)])
  · have e : ¬ it (fr : Int) = it 8 := (fun q => by have := (it_eq (by omega) (by omega) (by omega) (by omega)).mp q; omega)
    repeat (first | rw [if_pos (by decide)] | rw [if_neg (by decide)])
    rw [if_pos e, if_neg h]
theorem s_180c (H : Lay B w) (h2 : n 2 = it hi) (h0 : hi ≤ 30) (ho : o = 7 ∨ o = 8 ∨ o = 9) : Cl K (d + 2) 180 [.ref (B + 46), .int (it o)] w (nw B n I) J = some (some (.int (if n (9 + hi) = it 0 then it 4 else it 0)), w, nw B n I, J) := by
  apply cl_180 (k := 0)
  unfold f_180
  simp only [it_lit, gO_e (yt46 H), gV_e (yp46_36 H), gV_e (yp46_18 H), gV_e (yp46_19 H), gV_e (yp46_20 H), gV_e (yp46_37 H), gV_e (yp46_38 H), gV_e (yp46_39 H), gV_e (yp46_40 H), gV_e (yp46_43 H), gn0 H, gn1 H, gn2 H, gn3 H, gn4 H, gn5 H, gn6 H, gw0 H, gw1 H, gw2 H, gw3 H, gw4 H, gw5 H, gw6 H, cl0, cl1, cl2, cl3, cl4, cl5, cl6, cI_e, cV_e, cA_e, cJ_e, lt_, nw_r, nw_u]
  rcases ho with rfl | rfl | rfl
  · repeat (first | rw [if_pos (by decide)] | rw [if_neg (by decide)])
    rw [s_181 H h2 h0 (by omega) (by omega), Int.toNat_one, show 10 + hi - 1 = 9 + hi by omega]
    simp only [gO_e (yt46 H), gV_e (yp46_36 H), gV_e (yp46_18 H), gV_e (yp46_19 H), gV_e (yp46_20 H), gV_e (yp46_37 H), gV_e (yp46_38 H), gV_e (yp46_39 H), gV_e (yp46_40 H), gV_e (yp46_43 H), gn0 H, gn1 H, gn2 H, gn3 H, gn4 H, gn5 H, gn6 H, gw0 H, gw1 H, gw2 H, gw3 H, gw4 H, gw5 H, gw6 H, cl0, cl1, cl2, cl3, cl4, cl5, cl6, cI_e, cV_e, cA_e, cJ_e, lt_, nw_r, nw_u]
    by_cases h : n (9 + hi) = it 0
    · rw [if_neg (fun q => q h), if_pos h]
    · rw [if_pos h, if_neg h]
  · repeat (first | rw [if_pos (by decide)] | rw [if_neg (by decide)])
    rw [s_181 H h2 h0 (by omega) (by omega), Int.toNat_one, show 10 + hi - 1 = 9 + hi by omega]
    simp only [gO_e (yt46 H), gV_e (yp46_36 H), gV_e (yp46_18 H), gV_e (yp46_19 H), gV_e (yp46_20 H), gV_e (yp46_37 H), gV_e (yp46_38 H), gV_e (yp46_39 H), gV_e (yp46_40 H), gV_e (yp46_43 H), gn0 H, gn1 H, gn2 H, gn3 H, gn4 H, gn5 H, gn6 H, gw0 H, gw1 H, gw2 H, gw3 H, gw4 H, gw5 H, gw6 H, cl0, cl1, cl2, cl3, cl4, cl5, cl6, cI_e, cV_e, cA_e, cJ_e, lt_, nw_r, nw_u]
    by_cases h : n (9 + hi) = it 0
    · rw [if_neg (fun q => q h), if_pos h]
    · rw [if_pos h, if_neg h]
  · repeat (first | rw [if_pos (by decide)] | rw [if_neg (by decide)])
    rw [s_181 H h2 h0 (by omega) (by omega), Int.toNat_one, show 10 + hi - 1 = 9 + hi by omega]
    simp only [gO_e (yt46 H), gV_e (yp46_36 H), gV_e (yp46_18 H), gV_e (yp46_19 H), gV_e (yp46_20 H), gV_e (yp46_37 H), gV_e (yp46_38 H), gV_e (yp46_39 H), gV_e (yp46_40 H), gV_e (yp46_43 H), gn0 H, gn1 H, gn2 H, gn3 H, gn4 H, gn5 H, gn6 H, gw0 H, gw1 H, gw2 H, gw3 H, gw4 H, gw5 H, gw6 H, cl0, cl1, cl2, cl3, cl4, cl5, cl6, cI_e, cV_e, cA_e, cJ_e, lt_, nw_r, nw_u]
    by_cases h : n (9 + hi) = it 0
    · rw [if_neg (fun q => q h), if_pos h]
    · rw [if_pos h, if_neg h]
theorem s_180d {x : Int} (H : Lay B w) (h2 : n 2 = it hi) (h0 : hi ≤ 30) (hx : n (9 + hi) = it x) (x1 : -2147483648 ≤ x) (x2 : x < 2147483648) : Cl K (d + 2) 180 [.ref (B + 46), .int (it 10)] w (nw B n I) J = some (some (.int (if 0 ≤ x ∧ x ≤ 9 then it 0 else it 5)), w, nw B n I, J) := by
  apply cl_180 (k := 0)
  unfold f_180
  simp only [it_lit, gO_e (yt46 H), gV_e (yp46_36 H), gV_e (yp46_18 H), gV_e (yp46_19 H), gV_e (yp46_20 H), gV_e (yp46_37 H), gV_e (yp46_38 H), gV_e (yp46_39 H), gV_e (yp46_40 H), gV_e (yp46_43 H), gn0 H, gn1 H, gn2 H, gn3 H, gn4 H, gn5 H, gn6 H, gw0 H, gw1 H, gw2 H, gw3 H, gw4 H, gw5 H, gw6 H, cl0, cl1, cl2, cl3, cl4, cl5, cl6, cI_e, cV_e, cA_e, cJ_e, lt_, nw_r, nw_u]
  repeat (first | rw [if_pos (by decide)] | rw [if_neg (by decide)])
  rw [s_181 H h2 h0 (by omega) (by omega), Int.toNat_one, show 10 + hi - 1 = 9 + hi by omega, hx]
  simp only [gO_e (yt46 H), gV_e (yp46_36 H), gV_e (yp46_18 H), gV_e (yp46_19 H), gV_e (yp46_20 H), gV_e (yp46_37 H), gV_e (yp46_38 H), gV_e (yp46_39 H), gV_e (yp46_40 H), gV_e (yp46_43 H), gn0 H, gn1 H, gn2 H, gn3 H, gn4 H, gn5 H, gn6 H, gw0 H, gw1 H, gw2 H, gw3 H, gw4 H, gw5 H, gw6 H, cl0, cl1, cl2, cl3, cl4, cl5, cl6, cI_e, cV_e, cA_e, cJ_e, lt_, nw_r, nw_u]
  rw [s_19i (by omega) (by omega) (by omega) (by omega) (by omega) (by omega)]
  simp only [gO_e (yt46 H), gV_e (yp46_36 H), gV_e (yp46_18 H), gV_e (yp46_19 H), gV_e (yp46_20 H), gV_e (yp46_37 H), gV_e (yp46_38 H), gV_e (yp46_39 H), gV_e (yp46_40 H), gV_e (yp46_43 H), gn0 H, gn1 H, gn2 H, gn3 H, gn4 H, gn5 H, gn6 H, gw0 H, gw1 H, gw2 H, gw3 H, gw4 H, gw5 H, gw6 H, cl0, cl1, cl2, cl3, cl4, cl5, cl6, cI_e, cV_e, cA_e, cJ_e, lt_, nw_r, nw_u, bi0]
  by_cases h : 0 ≤ x ∧ x ≤ 9
  · rw [if_neg (by omega), if_pos h]
  · rw [if_pos (by omega), if_neg h]
theorem s_180e {q sz : Nat} {x : Int} (H : Lay B w) (h2 : n 2 = it hi) (h0 : hi ≤ 30) (hx : n (9 + hi) = it x) (x1 : -2147483648 ≤ x) (x2 : x < 2147483648) (hq : n (8 + hi) = it q) (q2 : q ≤ 16) (hs : 1 ≤ q → n (155 + 12 * q) = it sz) (z1 : sz ≤ 9) : Cl K (d + 3) 180 [.ref (B + 46), .int (it 11)] w (nw B n I) J = some (some (.int (it (if q = 0 then 4 else if 0 ≤ x ∧ x < sz then 0 else 3))), w, nw B n I, J) := by
  apply cl_180 (k := 0)
  unfold f_180
  simp only [it_lit, gO_e (yt46 H), gV_e (yp46_36 H), gV_e (yp46_18 H), gV_e (yp46_19 H), gV_e (yp46_20 H), gV_e (yp46_37 H), gV_e (yp46_38 H), gV_e (yp46_39 H), gV_e (yp46_40 H), gV_e (yp46_43 H), gn0 H, gn1 H, gn2 H, gn3 H, gn4 H, gn5 H, gn6 H, gw0 H, gw1 H, gw2 H, gw3 H, gw4 H, gw5 H, gw6 H, cl0, cl1, cl2, cl3, cl4, cl5, cl6, cI_e, cV_e, cA_e, cJ_e, lt_, nw_r, nw_u]
  repeat (first | rw [if_pos (by decide)] | rw [if_neg (by decide)])
  rw [s_181 H h2 h0 (by omega) (by omega), show (2 : Int).toNat = 2 from rfl, show 10 + hi - 2 = 8 + hi by omega, hq]
  simp only [gO_e (yt46 H), gV_e (yp46_36 H), gV_e (yp46_18 H), gV_e (yp46_19 H), gV_e (yp46_20 H), gV_e (yp46_37 H), gV_e (yp46_38 H), gV_e (yp46_39 H), gV_e (yp46_40 H), gV_e (yp46_43 H), gn0 H, gn1 H, gn2 H, gn3 H, gn4 H, gn5 H, gn6 H, gw0 H, gw1 H, gw2 H, gw3 H, gw4 H, gw5 H, gw6 H, cl0, cl1, cl2, cl3, cl4, cl5, cl6, cI_e, cV_e, cA_e, cJ_e, lt_, nw_r, nw_u]
  rw [s_181 H h2 h0 (by omega) (by omega), Int.toNat_one, show 10 + hi - 1 = 9 + hi by omega, hx]
  simp only [gO_e (yt46 H), gV_e (yp46_36 H), gV_e (yp46_18 H), gV_e (yp46_19 H), gV_e (yp46_20 H), gV_e (yp46_37 H), gV_e (yp46_38 H), gV_e (yp46_39 H), gV_e (yp46_40 H), gV_e (yp46_43 H), gn0 H, gn1 H, gn2 H, gn3 H, gn4 H, gn5 H, gn6 H, gw0 H, gw1 H, gw2 H, gw3 H, gw4 H, gw5 H, gw6 H, cl0, cl1, cl2, cl3, cl4, cl5, cl6, cI_e, cV_e, cA_e, cJ_e, lt_, nw_r, nw_u]
  rw [s_182 H q2 hs z1 x1 x2]
  rfl
theorem s_180f {q sz : Nat} {x : Int} (H : Lay B w) (h2 : n 2 = it hi) (h0 : hi ≤ 30) (hx : n (8 + hi) = it x) (x1 : -2147483648 ≤ x) (x2 : x < 2147483648) (hq : n (7 + hi) = it q) (q2 : q ≤ 16) (hs : 1 ≤ q → n (155 + 12 * q) = it sz) (z1 : sz ≤ 9) : Cl K (d + 3) 180 [.ref (B + 46), .int (it 22)] w (nw B n I) J = some (some (.int (it (if q = 0 then 4 else if 0 ≤ x ∧ x < sz then 0 else 3))), w, nw B n I, J) := by
  apply cl_180 (k := 0)
  unfold f_180
  simp only [it_lit, gO_e (yt46 H), gV_e (yp46_36 H), gV_e (yp46_18 H), gV_e (yp46_19 H), gV_e (yp46_20 H), gV_e (yp46_37 H), gV_e (yp46_38 H), gV_e (yp46_39 H), gV_e (yp46_40 H), gV_e (yp46_43 H), gn0 H, gn1 H, gn2 H, gn3 H, gn4 H, gn5 H, gn6 H, gw0 H, gw1 H, gw2 H, gw3 H, gw4 H, gw5 H, gw6 H, cl0, cl1, cl2, cl3, cl4, cl5, cl6, cI_e, cV_e, cA_e, cJ_e, lt_, nw_r, nw_u]
  repeat (first | rw [if_pos (by decide)] | rw [if_neg (by decide)])
  rw [s_181 H h2 h0 (by omega) (by omega), show (3 : Int).toNat = 3 from rfl, show 10 + hi - 3 = 7 + hi by omega, hq]
  simp only [gO_e (yt46 H), gV_e (yp46_36 H), gV_e (yp46_18 H), gV_e (yp46_19 H), gV_e (yp46_20 H), gV_e (yp46_37 H), gV_e (yp46_38 H), gV_e (yp46_39 H), gV_e (yp46_40 H), gV_e (yp46_43 H), gn0 H, gn1 H, gn2 H, gn3 H, gn4 H, gn5 H, gn6 H, gw0 H, gw1 H, gw2 H, gw3 H, gw4 H, gw5 H, gw6 H, cl0, cl1, cl2, cl3, cl4, cl5, cl6, cI_e, cV_e, cA_e, cJ_e, lt_, nw_r, nw_u]
  rw [s_181 H h2 h0 (by omega) (by omega), show (2 : Int).toNat = 2 from rfl, show 10 + hi - 2 = 8 + hi by omega, hx]
  simp only [gO_e (yt46 H), gV_e (yp46_36 H), gV_e (yp46_18 H), gV_e (yp46_19 H), gV_e (yp46_20 H), gV_e (yp46_37 H), gV_e (yp46_38 H), gV_e (yp46_39 H), gV_e (yp46_40 H), gV_e (yp46_43 H), gn0 H, gn1 H, gn2 H, gn3 H, gn4 H, gn5 H, gn6 H, gw0 H, gw1 H, gw2 H, gw3 H, gw4 H, gw5 H, gw6 H, cl0, cl1, cl2, cl3, cl4, cl5, cl6, cI_e, cV_e, cA_e, cJ_e, lt_, nw_r, nw_u]
  rw [s_182 H q2 hs z1 x1 x2]
  rfl
theorem s_180g (H : Lay B w) (h2 : n 2 = it hi) (h0 : hi ≤ 30) : Cl K (d + 2) 180 [.ref (B + 46), .int (it 20)] w (nw B n I) J = some (some (.int (if n (9 + hi) = it 0 then it 2 else it 0)), w, nw B n I, J) := by
  apply cl_180 (k := 0)
  unfold f_180
  simp only [it_lit, gO_e (yt46 H), gV_e (yp46_36 H), gV_e (yp46_18 H), gV_e (yp46_19 H), gV_e (yp46_20 H), gV_e (yp46_37 H), gV_e (yp46_38 H), gV_e (yp46_39 H), gV_e (yp46_40 H), gV_e (yp46_43 H), gn0 H, gn1 H, gn2 H, gn3 H, gn4 H, gn5 H, gn6 H, gw0 H, gw1 H, gw2 H, gw3 H, gw4 H, gw5 H, gw6 H, cl0, cl1, cl2, cl3, cl4, cl5, cl6, cI_e, cV_e, cA_e, cJ_e, lt_, nw_r, nw_u]
  repeat (first | rw [if_pos (by decide)] | rw [if_neg (by decide)])
  rw [s_181 H h2 h0 (by omega) (by omega), Int.toNat_one, show 10 + hi - 1 = 9 + hi by omega]
  simp only [gO_e (yt46 H), gV_e (yp46_36 H), gV_e (yp46_18 H), gV_e (yp46_19 H), gV_e (yp46_20 H), gV_e (yp46_37 H), gV_e (yp46_38 H), gV_e (yp46_39 H), gV_e (yp46_40 H), gV_e (yp46_43 H), gn0 H, gn1 H, gn2 H, gn3 H, gn4 H, gn5 H, gn6 H, gw0 H, gw1 H, gw2 H, gw3 H, gw4 H, gw5 H, gw6 H, cl0, cl1, cl2, cl3, cl4, cl5, cl6, cI_e, cV_e, cA_e, cJ_e, lt_, nw_r, nw_u]
  by_cases h : n (9 + hi) = it 0
  · rw [if_neg (fun q => q h), if_pos h]
  · rw [if_pos h, if_neg h]
theorem s_180h (H : Lay B w) (h3 : n 3 = it pr) (p2 : pr ≤ 20) : Cl K (d + 2) 180 [.ref (B + 46), .int (it 26)] w (nw B n I) J = some (some (.int (it (if pr = 20 then 8 else 0))), w, nw B n I, J) := by
  apply cl_180 (k := 0)
  unfold f_180
  simp only [it_lit, gO_e (yt46 H), gV_e (yp46_36 H), gV_e (yp46_18 H), gV_e (yp46_19 H), gV_e (yp46_20 H), gV_e (yp46_37 H), gV_e (yp46_38 H), gV_e (yp46_39 H), gV_e (yp46_40 H), gV_e (yp46_43 H), gn0 H, gn1 H, gn2 H, gn3 H, gn4 H, gn5 H, gn6 H, gw0 H, gw1 H, gw2 H, gw3 H, gw4 H, gw5 H, gw6 H, cl0, cl1, cl2, cl3, cl4, cl5, cl6, cI_e, cV_e, cA_e, cJ_e, lt_, nw_r, nw_u, h3]
  by_cases h : pr = 20
  · subst h
    repeat (first | rw [if_pos (by decide)] | rw [if_neg (by decide)])
  · have e : ¬ it (pr : Int) = it 20 := (fun q => by have := (it_eq (by omega) (by omega) (by omega) (by omega)).mp q; omega)
    repeat (first | rw [if_pos (by decide)] | rw [if_neg (by decide)])
    rw [if_pos e, if_neg h]
theorem s_180i (ho : o = 5 ∨ o = 6 ∨ o = 12 ∨ o = 13 ∨ o = 14 ∨ o = 15 ∨ o = 16 ∨ o = 17 ∨ o = 18 ∨ o = 19 ∨ o = 21 ∨ o = 23 ∨ o = 24 ∨ o = 25) : Cl K (d + 2) 180 [.ref (B + 46), .int (it o)] w I J = some (some (.int (it 0)), w, I, J) := by
  apply cl_180 (k := 0)
  unfold f_180
  simp only [it_lit]
  rcases ho with rfl | rfl | rfl | rfl | rfl | rfl | rfl | rfl | rfl | rfl | rfl | rfl | rfl | rfl <;> (repeat (first | rw [if_pos (by decide)] | rw [if_neg (by decide)]))
end MOP

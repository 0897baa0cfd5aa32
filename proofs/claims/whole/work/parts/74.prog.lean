/-! answers that are true or false; a Program's methods -/
noncomputable def bi (c : Prop) : Int32 := @ite _ c (Classical.propDecidable c) (it 1) (it 0)
theorem bi_t {c : Prop} (h : c) : bi c = it 1 := if_pos h
theorem bi_f {c : Prop} (h : ¬ c) : bi c = it 0 := if_neg h
theorem bi0 (c : Prop) : (bi c = it 0) = ¬ c := by
  by_cases h : c
  · rw [bi_t h]; simp [h]; decide
  · rw [bi_f h]; simp [h]
theorem bi1 (c : Prop) : (bi c = it 1) = c := by
  by_cases h : c
  · rw [bi_t h]; simp [h]
  · rw [bi_f h]; simp [h]; decide
theorem nc_c (c : Prop) : (¬ c ∨ c) = True := by by_cases h : c <;> simp [h]
theorem c_nc (c : Prop) : (c ∨ ¬ c) = True := by by_cases h : c <;> simp [h]
section PROG
variable {K : Nat → Value} {B d n k a N : Nat} {w : aW} {I : aI} {J : aJ} {x y z : Int}
theorem s_19i (x1 : -2147483648 ≤ x) (x2 : x < 2147483648) (y1 : -2147483648 ≤ y) (y2 : y < 2147483648) (z1 : -2147483648 ≤ z) (z2 : z < 2147483648) : Cl K (d + 1) 19 [.int (it x), .int (it y), .int (it z)] w I J = some (some (.int (bi (y ≤ x ∧ x ≤ z))), w, I, J) := by
  rw [s_19]
  simp (disch := omega) only [it_lit, it_lt, it_le, it_eq, it_add, it_sub, it_mul, it_neg, it_cl, it_nat]
  by_cases h1 : x < y
  · rw [if_pos h1, bi_f (by omega)]
  · rw [if_neg h1]
    by_cases h2 : z < x
    · rw [if_pos h2, bi_f (by omega)]
    · rw [if_neg h2, bi_t (by omega)]
theorem s_61 (hP : PL w a) (hN : I a 6 = it N) (hb : N ≤ 1000000) (z1 : -2147483648 ≤ z) (z2 : z < 2147483648) : Cl K (d + 1) 61 [.ref a, .int (it z)] w I J = some (some (.int (bi (0 ≤ z ∧ z < N ∧ z < 200))), w, I, J) := by
  apply cl_61 (k := 0)
  unfold f_61
  simp (disch := omega) only [gO, gV, gA, gL, gC, gY, lt_, cI, cJ, cV, cA, ↓reduceIte, true_or, or_true, true_and, and_true, false_or, or_false, false_and, and_false, not_false_eq_true, not_true_eq_false, it_lit, it_lt, it_le, it_eq, it_add, it_sub, it_mul, it_neg, it_cl, it_nat, hP.1, hP.2.1, hP.2.2.1, hP.2.2.2.1, hP.2.2.2.2.1, hP.2.2.2.2.2.1, hP.2.2.2.2.2.2.1, hP.2.2.2.2.2.2.2.1, hP.2.2.2.2.2.2.2.2.1, hP.2.2.2.2.2.2.2.2.2.1, hP.2.2.2.2.2.2.2.2.2.2.1, hP.2.2.2.2.2.2.2.2.2.2.2.1, hP.2.2.2.2.2.2.2.2.2.2.2.2, hN]
  by_cases h : 0 ≤ z ∧ z < N ∧ z < 200
  · rw [bi_t h]
    repeat (first | rw [if_pos (by omega)] | rw [if_neg (by omega)])
  · rw [bi_f h]
    repeat' split
    all_goals first | rfl | omega
theorem s_127 (hP : PL w a) (hN : I a 6 = it N) (hb : N ≤ 1000000) (z1 : 0 ≤ z) (z2 : z < N) (z3 : z < 200) : Cl K (d + 2) 127 [.ref a, .int (it z)] w I J = some (some (.int (I (a + 1) z.toNat)), w, I, J) := by
  apply cl_127 (k := 0)
  unfold f_127
  simp (disch := omega) only [gO, gV, gA, gL, gC, gY, lt_, cI, cJ, cV, cA, ↓reduceIte, true_or, or_true, true_and, and_true, false_or, or_false, false_and, and_false, not_false_eq_true, not_true_eq_false, it_lit, it_lt, it_le, it_eq, it_add, it_sub, it_mul, it_neg, it_cl, it_nat, hP.1, hP.2.1, hP.2.2.1, hP.2.2.2.1, hP.2.2.2.2.1, hP.2.2.2.2.2.1, hP.2.2.2.2.2.2.1, hP.2.2.2.2.2.2.2.1, hP.2.2.2.2.2.2.2.2.1, hP.2.2.2.2.2.2.2.2.2.1, hP.2.2.2.2.2.2.2.2.2.2.1, hP.2.2.2.2.2.2.2.2.2.2.2.1, hP.2.2.2.2.2.2.2.2.2.2.2.2, s_61 hP hN hb, bi0, bi1, nc_c, c_nc]
  repeat (first | rw [if_pos (by omega)] | rw [if_neg (by omega)])
theorem s_126 (hP : PL w a) (hN : I a 6 = it N) (hb : N ≤ 1000000) (z1 : 0 ≤ z) (z2 : z < N) (z3 : z < 200) : Cl K (d + 2) 126 [.ref a, .int (it z)] w I J = some (some (.int (I (a + 2) z.toNat)), w, I, J) := by
  apply cl_126 (k := 0)
  unfold f_126
  simp (disch := omega) only [gO, gV, gA, gL, gC, gY, lt_, cI, cJ, cV, cA, ↓reduceIte, true_or, or_true, true_and, and_true, false_or, or_false, false_and, and_false, not_false_eq_true, not_true_eq_false, it_lit, it_lt, it_le, it_eq, it_add, it_sub, it_mul, it_neg, it_cl, it_nat, hP.1, hP.2.1, hP.2.2.1, hP.2.2.2.1, hP.2.2.2.2.1, hP.2.2.2.2.2.1, hP.2.2.2.2.2.2.1, hP.2.2.2.2.2.2.2.1, hP.2.2.2.2.2.2.2.2.1, hP.2.2.2.2.2.2.2.2.2.1, hP.2.2.2.2.2.2.2.2.2.2.1, hP.2.2.2.2.2.2.2.2.2.2.2.1, hP.2.2.2.2.2.2.2.2.2.2.2.2, s_61 hP hN hb, bi0, bi1, nc_c, c_nc]
  repeat (first | rw [if_pos (by omega)] | rw [if_neg (by omega)])
theorem s_134 (hP : PL w a) (hN : I a 6 = it N) (hb : N ≤ 1000000) (z1 : 0 ≤ z) (z2 : z < N) (z3 : z < 200) : Cl K (d + 2) 134 [.ref a, .int (it z)] w I J = some (some (.long (J (a + 3) z.toNat)), w, I, J) := by
  apply cl_134 (k := 0)
  unfold f_134
  simp (disch := omega) only [gO, gV, gA, gL, gC, gY, lt_, cI, cJ, cV, cA, ↓reduceIte, true_or, or_true, true_and, and_true, false_or, or_false, false_and, and_false, not_false_eq_true, not_true_eq_false, it_lit, it_lt, it_le, it_eq, it_add, it_sub, it_mul, it_neg, it_cl, it_nat, hP.1, hP.2.1, hP.2.2.1, hP.2.2.2.1, hP.2.2.2.2.1, hP.2.2.2.2.2.1, hP.2.2.2.2.2.2.1, hP.2.2.2.2.2.2.2.1, hP.2.2.2.2.2.2.2.2.1, hP.2.2.2.2.2.2.2.2.2.1, hP.2.2.2.2.2.2.2.2.2.2.1, hP.2.2.2.2.2.2.2.2.2.2.2.1, hP.2.2.2.2.2.2.2.2.2.2.2.2, s_61 hP hN hb, bi0, bi1, nc_c, c_nc]
  repeat (first | rw [if_pos (by omega)] | rw [if_neg (by omega)])
theorem s_52 (hP : PL w a) (x1 : 0 ≤ x) (x2 : x < 5) (y1 : 0 ≤ y) (y2 : y < 4) : Cl K (d + 1) 52 [.ref a, .int (it x), .int (it y)] w I J = some (some (.int (I (a + 5) (x * 4 + y).toNat)), w, I, J) := by
  apply cl_52 (k := 0)
  unfold f_52
  simp (disch := omega) only [gO, gV, gA, gL, gC, gY, lt_, cI, cJ, cV, cA, ↓reduceIte, true_or, or_true, true_and, and_true, false_or, or_false, false_and, and_false, not_false_eq_true, not_true_eq_false, it_lit, it_lt, it_le, it_eq, it_add, it_sub, it_mul, it_neg, it_cl, it_nat, hP.1, hP.2.1, hP.2.2.1, hP.2.2.2.1, hP.2.2.2.2.1, hP.2.2.2.2.2.1, hP.2.2.2.2.2.2.1, hP.2.2.2.2.2.2.2.1, hP.2.2.2.2.2.2.2.2.1, hP.2.2.2.2.2.2.2.2.2.1, hP.2.2.2.2.2.2.2.2.2.2.1, hP.2.2.2.2.2.2.2.2.2.2.2.1, hP.2.2.2.2.2.2.2.2.2.2.2.2]
  repeat (first | rw [if_pos (by omega)] | rw [if_neg (by omega)])
theorem s_70 (hP : PL w a) (x1 : 0 ≤ x) (x2 : x < 5) (y1 : 0 ≤ y) (y2 : y < 6) : Cl K (d + 1) 70 [.ref a, .int (it x), .int (it y)] w I J = some (some (.int (I (a + 6) (x * 6 + y).toNat)), w, I, J) := by
  apply cl_70 (k := 0)
  unfold f_70
  simp (disch := omega) only [gO, gV, gA, gL, gC, gY, lt_, cI, cJ, cV, cA, ↓reduceIte, true_or, or_true, true_and, and_true, false_or, or_false, false_and, and_false, not_false_eq_true, not_true_eq_false, it_lit, it_lt, it_le, it_eq, it_add, it_sub, it_mul, it_neg, it_cl, it_nat, hP.1, hP.2.1, hP.2.2.1, hP.2.2.2.1, hP.2.2.2.2.1, hP.2.2.2.2.2.1, hP.2.2.2.2.2.2.1, hP.2.2.2.2.2.2.2.1, hP.2.2.2.2.2.2.2.2.1, hP.2.2.2.2.2.2.2.2.2.1, hP.2.2.2.2.2.2.2.2.2.2.1, hP.2.2.2.2.2.2.2.2.2.2.2.1, hP.2.2.2.2.2.2.2.2.2.2.2.2]
  repeat (first | rw [if_pos (by omega)] | rw [if_neg (by omega)])
end PROG

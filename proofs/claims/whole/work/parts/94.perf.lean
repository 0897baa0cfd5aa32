/-! the class's perform, op by op -/
section PERF
variable {K : Nat → Value} {B d k s m hi fr a : Nat} {w : aW} {I I' : aI} {J : aJ} {c : Nat → Int32} {o y : Nat} {v x : Int32}
theorem p159a (H : Lay B w) (ho : o = 0 ∨ o = 1 ∨ o = 2 ∨ o = 3 ∨ o = 27) (h : Cl K d 160 [.ref (B + 29), .int (it o), .int v] w I J = some (some (.int x), w, I', J)) : Cl K (d + 1) 159 [.ref (B + 29), .int (it o), .int v] w I J = some (some (.int x), w, I', J) := by
  apply cl_159 (k := 0)
  unfold f_159
  simp only [it_lit, gO_e (yt29 H)]
  rcases ho with rfl | rfl | rfl | rfl | rfl <;> (repeat (first | rw [if_pos (by decide)] | rw [if_neg (by decide)]); rw [h]; rfl)
theorem p159b (H : Lay B w) (ho : o = 4 ∧ y = 163 ∨ o = 23 ∧ y = 170 ∨ o = 24 ∧ y = 162) (h : Cl K d y [.ref (B + 29), .int v] w I J = some (some (.int x), w, I', J)) : Cl K (d + 1) 159 [.ref (B + 29), .int (it o), .int v] w I J = some (some (.int x), w, I', J) := by
  apply cl_159 (k := 0)
  unfold f_159
  simp only [it_lit, gO_e (yt29 H)]
  rcases ho with ⟨rfl, rfl⟩ | ⟨rfl, rfl⟩ | ⟨rfl, rfl⟩ <;> (repeat (first | rw [if_pos (by decide)] | rw [if_neg (by decide)]); rw [h]; rfl)
theorem p159c (H : Lay B w) (ho : o = 10 ∧ y = 165 ∨ o = 11 ∧ y = 167 ∨ o = 12 ∧ y = 166 ∨ o = 22 ∧ y = 169 ∨ o = 25 ∧ y = 171 ∨ o = 26 ∧ y = 172) (h : Cl K d y [.ref (B + 29)] w I J = some (some (.int x), w, I', J)) : Cl K (d + 1) 159 [.ref (B + 29), .int (it o), .int v] w I J = some (some (.int x), w, I', J) := by
  apply cl_159 (k := 0)
  unfold f_159
  simp only [it_lit, gO_e (yt29 H)]
  rcases ho with ⟨rfl, rfl⟩ | ⟨rfl, rfl⟩ | ⟨rfl, rfl⟩ | ⟨rfl, rfl⟩ | ⟨rfl, rfl⟩ | ⟨rfl, rfl⟩ <;> (repeat (first | rw [if_pos (by decide)] | rw [if_neg (by decide)]); rw [h]; rfl)
theorem p159d (H : Lay B w) (o1 : 13 ≤ o) (o2 : o ≤ 20) (h : Cl K d 174 [.ref (B + 29), .int (it o)] w I J = some (some (.int x), w, I', J)) : Cl K (d + 1) 159 [.ref (B + 29), .int (it o), .int v] w I J = some (some (.int x), w, I', J) := by
  apply cl_159 (k := 0)
  unfold f_159
  simp only [it_lit, gO_e (yt29 H)]
  have ho : o = 13 ∨ o = 14 ∨ o = 15 ∨ o = 16 ∨ o = 17 ∨ o = 18 ∨ o = 19 ∨ o = 20 := by omega
  rcases ho with rfl | rfl | rfl | rfl | rfl | rfl | rfl | rfl <;> (repeat (first | rw [if_pos (by decide)] | rw [if_neg (by decide)]); rw [h]; rfl)
theorem p159e (H : Lay B w) (o1 : 5 ≤ o) (o2 : o ≤ 9) (h : Cl K d 173 [.ref (B + 29), .int (it o)] w I J = some (some (.int x), w, I', J)) : Cl K (d + 1) 159 [.ref (B + 29), .int (it o), .int v] w I J = some (some (.int x), w, I', J) := by
  apply cl_159 (k := 0)
  unfold f_159
  simp only [it_lit, gO_e (yt29 H)]
  have ho : o = 5 ∨ o = 6 ∨ o = 7 ∨ o = 8 ∨ o = 9 := by omega
  rcases ho with rfl | rfl | rfl | rfl | rfl <;> (repeat (first | rw [if_pos (by decide)] | rw [if_neg (by decide)]); rw [h]; rfl)
theorem p159s {v : Nat} (H : Lay B w) (X : XM B s m c I) (h3 : c 3 = it hi) (h4 : c 4 = it fr) (f1 : 1 ≤ fr) (f2 : fr ≤ 8) (h0 : hi ≤ 30) (hm : m < 33) (h2 : 1 ≤ hi) (v6 : v < 6) : Cl K (d + 4) 159 [.ref (B + 29), .int (it 21), .int (it v)] w I J = some (some (.int (it 0)), w, wrs B s m ((89 + 8 * (fr - 1) + v, c (6 + hi)) :: wD hi fr 1 (c (88 + 8 * (fr - 1)))) I, J) := by
  apply cl_159 (k := 0)
  unfold f_159
  have e1 : c (7 + hi - 1) = c (6 + hi) := congrArg c (by omega)
  have h4' : I (B + 30) 4 = it fr := by rw [X.2.2.2]; exact h4
  simp only [it_lit, gO_e (yt29 H), gV_e (yp29_1 H), gc0 H, gc1 H, gc2 H, gc3 H, gc4 H, gc5 H, gc6 H, cl0, cl1, cl2, cl3, cl4, cl5, cl6, cI_e, cV_e, cA_e, cJ_e, lt_, h4', it_sub]
  repeat (first | rw [if_pos (by decide)] | rw [if_neg (by decide)])
  rw [s_146]
  simp only [gO_e (yt29 H), gV_e (yp29_1 H), gc0 H, gc1 H, gc2 H, gc3 H, gc4 H, gc5 H, gc6 H, cl0, cl1, cl2, cl3, cl4, cl5, cl6, cI_e, cV_e, cA_e, cJ_e, lt_, it_add]
  rw [z_149 H X h3 h0 (by omega) (by omega)]
  simp only [gO_e (yt29 H), gV_e (yp29_1 H), gc0 H, gc1 H, gc2 H, gc3 H, gc4 H, gc5 H, gc6 H, cl0, cl1, cl2, cl3, cl4, cl5, cl6, cI_e, cV_e, cA_e, cJ_e, lt_, it_add, Int.reduceToNat, e1]
  rw [z_144 H X (by omega) (by omega) (by omega)]
  simp only [gO_e (yt29 H), gV_e (yp29_1 H), gc0 H, gc1 H, gc2 H, gc3 H, gc4 H, gc5 H, gc6 H, cl0, cl1, cl2, cl3, cl4, cl5, cl6, cI_e, cV_e, cA_e, cJ_e, lt_]
  rw [show (87 + ((fr : Int) - 1) * 8 + 2 + v).toNat = 89 + 8 * (fr - 1) + v by omega]
  have X1 := X.wr (89 + 8 * (fr - 1) + v) (c (6 + hi))
  rw [z_164 H X1 (hi := hi) (fr := fr) (by rw [up1_n (by omega)]; exact h3) (by rw [up1_n (by omega)]; exact h4) f1 f2 h0 (by omega) (by omega) (by omega)]
  simp only [gO_e (yt29 H), gV_e (yp29_1 H), gc0 H, gc1 H, gc2 H, gc3 H, gc4 H, gc5 H, gc6 H, cl0, cl1, cl2, cl3, cl4, cl5, cl6, cI_e, cV_e, cA_e, cJ_e, lt_]
  rw [up1_n (by omega)]
  rfl
theorem s_148 {x : Int} (H : Lay B w) (X : XM B s m c I) (h3 : c 3 = it hi) (h0 : hi ≤ 30) (hx : o = 10 → c (6 + hi) = it x ∧ 1 ≤ hi ∧ -2147483648 ≤ x ∧ x < 2147483648) (o27 : o ≤ 27) : Cl K (d + 3) 148 [.ref (B + 29), .int (it o)] w I J = some (some (.int (bi (o = 12 ∨ o = 10 ∧ 0 ≤ x ∧ x ≤ 9))), w, I, J) := by
  apply cl_148 (k := 0)
  unfold f_148
  simp only [it_lit, gO_e (yt29 H)]
  by_cases e12 : o = 12
  · subst e12
    rw [if_pos (by decide), bi_t (Or.inl rfl)]
  · rw [if_neg (fun q => by have := (it_eq (by omega) (by omega) (by omega) (by omega)).mp q; omega)]
    by_cases e10 : o = 10
    · subst e10
      obtain ⟨x0, x1, x2, x3⟩ := hx rfl
      rw [if_neg (by decide), z_149 H X h3 h0 (by omega) (by omega), Int.toNat_one, show 7 + hi - 1 = 6 + hi by omega, x0]
      simp only [gO_e (yt29 H), gV_e (yp29_1 H), gc0 H, gc1 H, gc2 H, gc3 H, gc4 H, gc5 H, gc6 H, cl0, cl1, cl2, cl3, cl4, cl5, cl6, cI_e, cV_e, cA_e, cJ_e, lt_]
      rw [s_150 x2 x3]
      simp only [gO_e (yt29 H), gV_e (yp29_1 H), gc0 H, gc1 H, gc2 H, gc3 H, gc4 H, gc5 H, gc6 H, cl0, cl1, cl2, cl3, cl4, cl5, cl6, cI_e, cV_e, cA_e, cJ_e, lt_, bi0]
      by_cases hz : 0 ≤ x ∧ x ≤ 9
      · rw [if_neg (fun q => q hz), bi_t (Or.inr ⟨trivial, hz⟩)]
      · rw [if_pos hz, bi_f (fun q => q.elim (by omega) (fun q => hz q.2))]
    · rw [if_pos (fun q => by have := (it_eq (by omega) (by omega) (by omega) (by omega)).mp q; omega), bi_f (by omega)]
end PERF

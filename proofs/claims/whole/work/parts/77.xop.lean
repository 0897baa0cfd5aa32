/-! the class's machine: what each op writes -/
section XOP
variable {K : Nat → Value} {B d k s m hi fr : Nat} {w : aW} {I : aI} {J : aJ} {c : Nat → Int32} {z : Int}
theorem gc0 {α : Type} {k : Option α} (H : Lay B w) : gA w 10 20 (B + 30) (it 0) k = k := gA_e (yt30 H) (Or.inl rfl) (ix (z := 0) (by omega) (by omega) (by omega))
theorem cl0 : (it 0).toNatClampNeg = 0 := rfl
theorem gc1 {α : Type} {k : Option α} (H : Lay B w) : gA w 10 20 (B + 30) (it 1) k = k := gA_e (yt30 H) (Or.inl rfl) (ix (z := 1) (by omega) (by omega) (by omega))
theorem cl1 : (it 1).toNatClampNeg = 1 := rfl
theorem gc2 {α : Type} {k : Option α} (H : Lay B w) : gA w 10 20 (B + 30) (it 2) k = k := gA_e (yt30 H) (Or.inl rfl) (ix (z := 2) (by omega) (by omega) (by omega))
theorem cl2 : (it 2).toNatClampNeg = 2 := rfl
theorem gc3 {α : Type} {k : Option α} (H : Lay B w) : gA w 10 20 (B + 30) (it 3) k = k := gA_e (yt30 H) (Or.inl rfl) (ix (z := 3) (by omega) (by omega) (by omega))
theorem cl3 : (it 3).toNatClampNeg = 3 := rfl
theorem gc4 {α : Type} {k : Option α} (H : Lay B w) : gA w 10 20 (B + 30) (it 4) k = k := gA_e (yt30 H) (Or.inl rfl) (ix (z := 4) (by omega) (by omega) (by omega))
theorem cl4 : (it 4).toNatClampNeg = 4 := rfl
theorem gc5 {α : Type} {k : Option α} (H : Lay B w) : gA w 10 20 (B + 30) (it 5) k = k := gA_e (yt30 H) (Or.inl rfl) (ix (z := 5) (by omega) (by omega) (by omega))
theorem cl5 : (it 5).toNatClampNeg = 5 := rfl
theorem gc6 {α : Type} {k : Option α} (H : Lay B w) : gA w 10 20 (B + 30) (it 6) k = k := gA_e (yt30 H) (Or.inl rfl) (ix (z := 6) (by omega) (by omega) (by omega))
theorem cl6 : (it 6).toNatClampNeg = 6 := rfl
theorem z_nat {z : Int} (h : 0 ≤ z) : ∃ k : Nat, z = (k : Int) := Int.eq_ofNat_of_zero_le h
theorem z_144 {v : Int32} (H : Lay B w) (X : XM B s m c I) (hm : m < 36) (z0 : 0 ≤ z) (z1 : z < 327) : Cl K (d + 1) 144 [.ref (B + 29), .int (it z), .int v] w I J = some (none, w, wr B s m z.toNat v I, J) := by
  obtain ⟨k, rfl⟩ := z_nat z0
  exact s_144 H X hm (by omega)
theorem z_149 (H : Lay B w) (X : XM B s m c I) (h3 : c 3 = it hi) (h0 : hi ≤ 30) (z1 : 0 ≤ z) (z2 : z ≤ 4) : Cl K (d + 2) 149 [.ref (B + 29), .int (it z)] w I J = some (some (.int (c (7 + hi - z.toNat))), w, I, J) := by
  rw [s_149 H (by rw [X.2.2.2]; exact h3) z1 z2 h0, X.2.2.2]
theorem z_147 (H : Lay B w) (X : XM B s m c I) (z1 : 0 ≤ z) (z2 : z < 327) : Cl K (d + 1) 147 [.ref (B + 29), .int (it z)] w I J = some (some (.int (c z.toNat)), w, I, J) := by
  rw [s_147 H z1 z2, X.2.2.2]
theorem z_161 {v ty : Int32} (H : Lay B w) (X : XM B s m c I) (h3 : c 3 = it hi) (h4 : c 4 = it fr) (f1 : 1 ≤ fr) (f2 : fr ≤ 8) (h0 : hi ≤ 30) (hm : m < 33) (z0 : 0 ≤ z) (z1 : z ≤ hi) (z2 : hi - z < 30) : Cl K (d + 3) 161 [.ref (B + 29), .int (it z), .int v, .int ty] w I J = some (some (.int (it 0)), w, wrs B s m (wR hi fr z.toNat (c (88 + 8 * (fr - 1))) v ty) I, J) := by
  obtain ⟨k, rfl⟩ := z_nat z0
  exact s_161 H X hm h3 h4 f1 f2 (by omega) (by omega) h0
theorem z_164 (H : Lay B w) (X : XM B s m c I) (h3 : c 3 = it hi) (h4 : c 4 = it fr) (f1 : 1 ≤ fr) (f2 : fr ≤ 8) (h0 : hi ≤ 30) (hm : m < 35) (z0 : 0 ≤ z) (z1 : z ≤ hi) : Cl K (d + 3) 164 [.ref (B + 29), .int (it z)] w I J = some (some (.int (it 0)), w, wrs B s m (wD hi fr z.toNat (c (88 + 8 * (fr - 1)))) I, J) := by
  obtain ⟨k, rfl⟩ := z_nat z0
  exact s_164 H X hm h3 h4 f1 f2 (by omega) h0
theorem div_m1 (a : Int32) : a / (-1) = -a := by
  apply Int32.toInt_inj.1
  have e : (-1 : Int32).toInt = -1 := by decide
  rw [Int32.toInt_div, e, Int32.toInt_neg, Int.tdiv_neg, Int.tdiv_one]
/-- the values of the ops that take two -/
def vOp (o : Nat) (a b : Int32) : Int32 := if o = 13 then a ||| b else if o = 14 then a &&& b else if o = 15 then (if a < b then it 1 else it 0) else if o = 16 then (if a = b then it 1 else it 0) else if o = 17 then a + b else if o = 18 then a - b else if o = 19 then a * b else a / b
def tOp (o : Nat) : Int := if o ≤ 16 then 1 else 0
theorem s_174 {o : Nat} (H : Lay B w) (X : XM B s m c I) (h3 : c 3 = it hi) (h4 : c 4 = it fr) (f1 : 1 ≤ fr) (f2 : fr ≤ 8) (h0 : hi ≤ 30) (hm : m < 33) (h2 : 2 ≤ hi) (o1 : 13 ≤ o) (o2 : o ≤ 20) (hz : o = 20 → ¬ c (6 + hi) = it 0) : Cl K (d + 4) 174 [.ref (B + 29), .int (it o)] w I J = some (some (.int (it 0)), w, wrs B s m (wR hi fr 2 (c (88 + 8 * (fr - 1))) (vOp o (c (5 + hi)) (c (6 + hi))) (it (tOp o))) I, J) := by
  apply cl_174 (k := 0)
  unfold f_174 f_174_161 f_174_105 f_174_88
  have e1 : c (7 + hi - 1) = c (6 + hi) := congrArg c (by omega)
  have e2 : c (7 + hi - 2) = c (5 + hi) := congrArg c (by omega)
  simp only [it_lit, gO_e (yt29 H), gV_e (yp29_1 H), gc0 H, gc1 H, gc2 H, gc3 H, gc4 H, gc5 H, gc6 H, cl0, cl1, cl2, cl3, cl4, cl5, cl6, cI_e, cV_e, cA_e, cJ_e, lt_]
  rw [z_149 H X h3 h0 (by omega) (by omega)]
  simp only [gO_e (yt29 H), gV_e (yp29_1 H), gc0 H, gc1 H, gc2 H, gc3 H, gc4 H, gc5 H, gc6 H, cl0, cl1, cl2, cl3, cl4, cl5, cl6, cI_e, cV_e, cA_e, cJ_e, lt_]
  rw [z_149 H X h3 h0 (by omega) (by omega)]
  simp only [gO_e (yt29 H), gV_e (yp29_1 H), gc0 H, gc1 H, gc2 H, gc3 H, gc4 H, gc5 H, gc6 H, cl0, cl1, cl2, cl3, cl4, cl5, cl6, cI_e, cV_e, cA_e, cJ_e, lt_, Int.reduceToNat, e1, e2, gO_e (yt29 H)]
  have hX : ∀ (v ty : Int32), Cl K (d + 3) 161 [.ref (B + 29), .int (it 2), .int v, .int ty] w I J = some (some (.int (it 0)), w, wrs B s m (wR hi fr 2 (c (88 + 8 * (fr - 1))) v ty) I, J) := fun v ty => z_161 H X h3 h4 f1 f2 h0 hm (by omega) (by omega) (by omega)
  have h8 : o = 13 ∨ o = 14 ∨ o = 15 ∨ o = 16 ∨ o = 17 ∨ o = 18 ∨ o = 19 ∨ o = 20 := by omega
  rcases h8 with rfl | rfl | rfl | rfl | rfl | rfl | rfl | rfl
  · rw [if_pos (by decide)]
    simp only [hX, gO_e (yt29 H), gV_e (yp29_1 H), gc0 H, gc1 H, gc2 H, gc3 H, gc4 H, gc5 H, gc6 H, cl0, cl1, cl2, cl3, cl4, cl5, cl6, cI_e, cV_e, cA_e, cJ_e, lt_]
    rfl
  · rw [if_neg (by decide), if_pos (by decide)]
    simp only [hX, gO_e (yt29 H), gV_e (yp29_1 H), gc0 H, gc1 H, gc2 H, gc3 H, gc4 H, gc5 H, gc6 H, cl0, cl1, cl2, cl3, cl4, cl5, cl6, cI_e, cV_e, cA_e, cJ_e, lt_]
    rfl
  · rw [if_neg (by decide), if_neg (by decide), if_pos (by decide)]
    simp only [hX, gO_e (yt29 H), gV_e (yp29_1 H), gc0 H, gc1 H, gc2 H, gc3 H, gc4 H, gc5 H, gc6 H, cl0, cl1, cl2, cl3, cl4, cl5, cl6, cI_e, cV_e, cA_e, cJ_e, lt_]
    by_cases h : c (5 + hi) < c (6 + hi)
    · rw [if_neg (Int32.not_le.mpr h)]
      simp only [vOp, if_pos h]
      rfl
    · rw [if_pos (Int32.not_lt.mp h)]
      simp only [vOp, if_neg h]
      rfl
  · rw [if_neg (by decide), if_neg (by decide), if_neg (by decide), if_pos (by decide)]
    simp only [hX, gO_e (yt29 H), gV_e (yp29_1 H), gc0 H, gc1 H, gc2 H, gc3 H, gc4 H, gc5 H, gc6 H, cl0, cl1, cl2, cl3, cl4, cl5, cl6, cI_e, cV_e, cA_e, cJ_e, lt_]
    by_cases h : c (5 + hi) = c (6 + hi)
    · rw [if_neg (fun q => q h)]
      simp only [vOp, if_pos h]
      rfl
    · rw [if_pos h]
      simp only [vOp, if_neg h]
      rfl
  · rw [if_neg (by decide), if_neg (by decide), if_neg (by decide), if_neg (by decide), if_pos (by decide)]
    simp only [hX, gO_e (yt29 H), gV_e (yp29_1 H), gc0 H, gc1 H, gc2 H, gc3 H, gc4 H, gc5 H, gc6 H, cl0, cl1, cl2, cl3, cl4, cl5, cl6, cI_e, cV_e, cA_e, cJ_e, lt_]
    rfl
  · rw [if_neg (by decide), if_neg (by decide), if_neg (by decide), if_neg (by decide), if_neg (by decide), if_pos (by decide)]
    simp only [hX, gO_e (yt29 H), gV_e (yp29_1 H), gc0 H, gc1 H, gc2 H, gc3 H, gc4 H, gc5 H, gc6 H, cl0, cl1, cl2, cl3, cl4, cl5, cl6, cI_e, cV_e, cA_e, cJ_e, lt_]
    rfl
  · rw [if_neg (by decide), if_neg (by decide), if_neg (by decide), if_neg (by decide), if_neg (by decide), if_neg (by decide), if_pos (by decide)]
    simp only [hX, gO_e (yt29 H), gV_e (yp29_1 H), gc0 H, gc1 H, gc2 H, gc3 H, gc4 H, gc5 H, gc6 H, cl0, cl1, cl2, cl3, cl4, cl5, cl6, cI_e, cV_e, cA_e, cJ_e, lt_]
    rfl
  · rw [if_neg (by decide), if_neg (by decide), if_neg (by decide), if_neg (by decide), if_neg (by decide), if_neg (by decide), if_neg (by decide)]
    have hz' := hz rfl
    rw [if_pos hz']
    simp only [hX, gO_e (yt29 H), gV_e (yp29_1 H), gc0 H, gc1 H, gc2 H, gc3 H, gc4 H, gc5 H, gc6 H, cl0, cl1, cl2, cl3, cl4, cl5, cl6, cI_e, cV_e, cA_e, cJ_e, lt_]
    by_cases h : c (6 + hi) = - it 1
    · rw [if_neg (fun q => q h)]
      have : vOp 20 (c (5 + hi)) (c (6 + hi)) = - c (5 + hi) := by rw [h]; exact div_m1 _
      rw [this]
      rfl
    · rw [if_pos h, gC_e hz']
      rfl
theorem h_174 (H : Lay B w) (X : XM B s m c I) (h3 : c 3 = it hi) (h4 : c 4 = it fr) (f1 : 1 ≤ fr) (f2 : fr ≤ 8) (h0 : hi ≤ 30) (hz : c (6 + hi) = it 0) : Cl K (d + 4) 174 [.ref (B + 29), .int (it 20)] w I J = some (some (.int (it 2)), w, I, J) := by
  apply cl_174 (k := 0)
  unfold f_174
  have e1 : c (7 + hi - 1) = c (6 + hi) := congrArg c (by omega)
  simp only [it_lit, gO_e (yt29 H), gV_e (yp29_1 H), gc0 H, gc1 H, gc2 H, gc3 H, gc4 H, gc5 H, gc6 H, cl0, cl1, cl2, cl3, cl4, cl5, cl6, cI_e, cV_e, cA_e, cJ_e, lt_]
  rw [z_149 H X h3 h0 (by omega) (by omega)]
  simp only [gO_e (yt29 H), gV_e (yp29_1 H), gc0 H, gc1 H, gc2 H, gc3 H, gc4 H, gc5 H, gc6 H, cl0, cl1, cl2, cl3, cl4, cl5, cl6, cI_e, cV_e, cA_e, cJ_e, lt_]
  rw [z_149 H X h3 h0 (by omega) (by omega)]
  simp only [gO_e (yt29 H), gV_e (yp29_1 H), gc0 H, gc1 H, gc2 H, gc3 H, gc4 H, gc5 H, gc6 H, cl0, cl1, cl2, cl3, cl4, cl5, cl6, cI_e, cV_e, cA_e, cJ_e, lt_, Int.reduceToNat, e1]
  rw [if_neg (by decide), if_neg (by decide), if_neg (by decide), if_neg (by decide), if_neg (by decide), if_neg (by decide), if_neg (by decide), if_neg (fun q => q hz)]
end XOP

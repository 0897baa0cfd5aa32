section MACT
variable {K : Nat → Value} {B d k hi fr pr o p q f : Nat} {w : aW} {I : aI} {J : aJ} {n : Nat → Int32} {z : Int} {a v ty : Int32}
/-- acts, up to the place -/
theorem a_188 (H : Lay B w) (f1 : 1 ≤ fr) (f2 : fr ≤ 8) (hf : n (70 + 8 * (fr - 1)) = it f) (hp : n (71 + 8 * (fr - 1)) = it p) (p2 : p ≤ 1000) (n4 : ¬ o = 4) (n25 : ¬ o = 25) (o27 : o ≤ 27) (hty : Cl K (d + 3) 122 [.ref (B + 46), .int (it o), .int a, .int (it f)] w (nw B n I) J = some (some (.int ty), w, nw B n I, J)) (n23 : ¬ o = 23) (n24 : ¬ o = 24) :
    f_188 K k (d + 3) (B + 46) (it o) a (it (70 + 8 * ((fr : Int) - 1))) w (nw B n I) J = f_188_71 K k (d + 3) (B + 46) (it o) a (it (70 + 8 * ((fr : Int) - 1))) ty (it (p + 1)) w (nw B n I) J := by
  unfold f_188
  simp only [it_lit, gO_e (yt46 H), gV_e (yp46_36 H), gV_e (yp46_18 H), gV_e (yp46_19 H), gV_e (yp46_20 H), gV_e (yp46_37 H), gV_e (yp46_38 H), gV_e (yp46_39 H), gV_e (yp46_40 H), gV_e (yp46_43 H), gn0 H, gn1 H, gn2 H, gn3 H, gn4 H, gn5 H, gn6 H, gw0 H, gw1 H, gw2 H, gw3 H, gw4 H, gw5 H, gw6 H, cl0, cl1, cl2, cl3, cl4, cl5, cl6, cI_e, cV_e, cA_e, cJ_e, lt_, nw_r, nw_u, it_add]
  rw [gA_e (yt65 H) (Or.inl rfl) (ix (by omega) (by omega) (by omega)), it_cl (by omega) (by omega), show (70 + 8 * ((fr : Int) - 1)).toNat = 70 + 8 * (fr - 1) by omega, hf, hty]
  simp only [gO_e (yt46 H), gV_e (yp46_36 H), gV_e (yp46_18 H), gV_e (yp46_19 H), gV_e (yp46_20 H), gV_e (yp46_37 H), gV_e (yp46_38 H), gV_e (yp46_39 H), gV_e (yp46_40 H), gV_e (yp46_43 H), gn0 H, gn1 H, gn2 H, gn3 H, gn4 H, gn5 H, gn6 H, gw0 H, gw1 H, gw2 H, gw3 H, gw4 H, gw5 H, gw6 H, cl0, cl1, cl2, cl3, cl4, cl5, cl6, cI_e, cV_e, cA_e, cJ_e, lt_, nw_r, nw_u]
  rw [gA_e (yt65 H) (Or.inl rfl) (ix (by omega) (by omega) (by omega)), it_cl (by omega) (by omega), show (70 + 8 * ((fr : Int) - 1) + 1).toNat = 71 + 8 * (fr - 1) by omega, hp, it_add]
  rw [if_pos (fun q => by have := (it_eq (by omega) (by omega) (by omega) (by omega)).mp q; omega), if_pos (fun q => by have := (it_eq (by omega) (by omega) (by omega) (by omega)).mp q; omega), if_neg (fun q => by have := (it_eq (by omega) (by omega) (by omega) (by omega)).mp q; omega), if_pos (fun q => by have := (it_eq (by omega) (by omega) (by omega) (by omega)).mp q; omega)]
/-- acts, a jump or a branch -/
theorem b_188 {t : Nat} (H : Lay B w) (h2 : n 2 = it hi) (h0 : hi ≤ 30) (f1 : 1 ≤ fr) (f2 : fr ≤ 8) (hf : n (70 + 8 * (fr - 1)) = it f) (hp : n (71 + 8 * (fr - 1)) = it p) (p2 : p ≤ 1000) (ho : o = 23 ∨ o = 24) (t1 : t ≤ 99999) (hk : tK o ≤ hi) :
    Cl K (d + 4) 188 [.ref (B + 46), .int (it o), .int (it t), .int (it (70 + 8 * ((fr : Int) - 1)))] w (nw B n I) J = some (none, w, nw B (ap [(71 + 8 * (fr - 1), if o = 24 ∨ n (9 + hi) = it 0 then it t else it (p + 1)), (2, it ((hi - tK o : Nat) : Int))] n) I, J) := by
  apply cl_188 (k := 0)
  unfold f_188
  simp only [it_lit, gO_e (yt46 H), gV_e (yp46_36 H), gV_e (yp46_18 H), gV_e (yp46_19 H), gV_e (yp46_20 H), gV_e (yp46_37 H), gV_e (yp46_38 H), gV_e (yp46_39 H), gV_e (yp46_40 H), gV_e (yp46_43 H), gn0 H, gn1 H, gn2 H, gn3 H, gn4 H, gn5 H, gn6 H, gw0 H, gw1 H, gw2 H, gw3 H, gw4 H, gw5 H, gw6 H, cl0, cl1, cl2, cl3, cl4, cl5, cl6, cI_e, cV_e, cA_e, cJ_e, lt_, nw_r, nw_u, it_add]
  rw [gA_e (yt65 H) (Or.inl rfl) (ix (by omega) (by omega) (by omega)), it_cl (by omega) (by omega), show (70 + 8 * ((fr : Int) - 1)).toNat = 70 + 8 * (fr - 1) by omega, hf, s_122 (by omega) (by omega) (by omega)]
  simp only [gO_e (yt46 H), gV_e (yp46_36 H), gV_e (yp46_18 H), gV_e (yp46_19 H), gV_e (yp46_20 H), gV_e (yp46_37 H), gV_e (yp46_38 H), gV_e (yp46_39 H), gV_e (yp46_40 H), gV_e (yp46_43 H), gn0 H, gn1 H, gn2 H, gn3 H, gn4 H, gn5 H, gn6 H, gw0 H, gw1 H, gw2 H, gw3 H, gw4 H, gw5 H, gw6 H, cl0, cl1, cl2, cl3, cl4, cl5, cl6, cI_e, cV_e, cA_e, cJ_e, lt_, nw_r, nw_u]
  rw [gA_e (yt65 H) (Or.inl rfl) (ix (by omega) (by omega) (by omega)), it_cl (by omega) (by omega), show (70 + 8 * ((fr : Int) - 1) + 1).toNat = 71 + 8 * (fr - 1) by omega, hp, it_add]
  have go : ∀ x : Int32, f_188_71 K 0 (d + 3) (B + 46) (it o) (it t) (it (70 + 8 * ((fr : Int) - 1))) (it (pT o)) x w (nw B n I) J = some (none, w, nw B (ap [(71 + 8 * (fr - 1), x), (2, it ((hi - tK o : Nat) : Int))] n) I, J) := by
    intro x
    unfold f_188_71
    simp only [it_lit, gO_e (yt46 H), gV_e (yp46_36 H), gV_e (yp46_18 H), gV_e (yp46_19 H), gV_e (yp46_20 H), gV_e (yp46_37 H), gV_e (yp46_38 H), gV_e (yp46_39 H), gV_e (yp46_40 H), gV_e (yp46_43 H), gn0 H, gn1 H, gn2 H, gn3 H, gn4 H, gn5 H, gn6 H, gw0 H, gw1 H, gw2 H, gw3 H, gw4 H, gw5 H, gw6 H, cl0, cl1, cl2, cl3, cl4, cl5, cl6, cI_e, cV_e, cA_e, cJ_e, lt_, nw_r, nw_u, it_add]
    rw [gA_e (yt65 H) (Or.inl rfl) (ix (by omega) (by omega) (by omega)), it_cl (by omega) (by omega), show (70 + 8 * ((fr : Int) - 1) + 1).toNat = 71 + 8 * (fr - 1) by omega]
    have h2' : sm_up1 n (71 + 8 * (fr - 1)) x 2 = it hi := by rw [up1_n (by omega)]; exact h2
    rw [if_neg (fun q => by have := (it_lt (by omega) (by omega) (by omega) (by omega)).mp q; omega), if_pos (fun q => by have := (it_eq (by omega) (by omega) (by omega) (by omega)).mp q; omega), if_pos ((it_le (by omega) (by omega) (by omega) (by omega)).mpr (by omega)), s_195d H h2' h0 ho]
    simp only [gO_e (yt46 H), gV_e (yp46_36 H), gV_e (yp46_18 H), gV_e (yp46_19 H), gV_e (yp46_20 H), gV_e (yp46_37 H), gV_e (yp46_38 H), gV_e (yp46_39 H), gV_e (yp46_40 H), gV_e (yp46_43 H), gn0 H, gn1 H, gn2 H, gn3 H, gn4 H, gn5 H, gn6 H, gw0 H, gw1 H, gw2 H, gw3 H, gw4 H, gw5 H, gw6 H, cl0, cl1, cl2, cl3, cl4, cl5, cl6, cI_e, cV_e, cA_e, cJ_e, lt_, nw_r, nw_u]
    rw [s_120 (by omega) (by omega)]
    simp only [gO_e (yt46 H), gV_e (yp46_36 H), gV_e (yp46_18 H), gV_e (yp46_19 H), gV_e (yp46_20 H), gV_e (yp46_37 H), gV_e (yp46_38 H), gV_e (yp46_39 H), gV_e (yp46_40 H), gV_e (yp46_43 H), gn0 H, gn1 H, gn2 H, gn3 H, gn4 H, gn5 H, gn6 H, gw0 H, gw1 H, gw2 H, gw3 H, gw4 H, gw5 H, gw6 H, cl0, cl1, cl2, cl3, cl4, cl5, cl6, cI_e, cV_e, cA_e, cJ_e, lt_, nw_r, nw_u, ap]
    rw [h2', it_sub, show ((hi : Int) - (tK o : Int)) = ((hi - tK o : Nat) : Int) by omega]
  rw [if_pos (fun q => by have := (it_eq (by omega) (by omega) (by omega) (by omega)).mp q; omega), if_pos (fun q => by have := (it_eq (by omega) (by omega) (by omega) (by omega)).mp q; omega)]
  rcases ho with rfl | rfl
  · rw [if_neg (by decide), if_neg (by decide), s_181 H h2 h0 (by omega) (by omega), Int.toNat_one, show 10 + hi - 1 = 9 + hi by omega]
    simp only [gO_e (yt46 H), gV_e (yp46_36 H), gV_e (yp46_18 H), gV_e (yp46_19 H), gV_e (yp46_20 H), gV_e (yp46_37 H), gV_e (yp46_38 H), gV_e (yp46_39 H), gV_e (yp46_40 H), gV_e (yp46_43 H), gn0 H, gn1 H, gn2 H, gn3 H, gn4 H, gn5 H, gn6 H, gw0 H, gw1 H, gw2 H, gw3 H, gw4 H, gw5 H, gw6 H, cl0, cl1, cl2, cl3, cl4, cl5, cl6, cI_e, cV_e, cA_e, cJ_e, lt_, nw_r, nw_u]
    by_cases hz : n (9 + hi) = it 0
    · rw [if_neg (fun q => q hz), if_pos (Or.inr hz)]
      exact go _
    · rw [if_pos hz, if_neg (fun q => q.elim (by omega) hz)]
      exact go _
  · rw [if_pos (by decide), if_pos (Or.inl rfl)]
    exact go _
/-- acts: ops that put one -/
theorem c_188 {ar : Nat} (H : Lay B w) (h2 : n 2 = it hi) (h0 : hi < 30) (f1 : 1 ≤ fr) (f2 : fr ≤ 8) (hf : n (70 + 8 * (fr - 1)) = it f) (hp : n (71 + 8 * (fr - 1)) = it p) (p2 : p ≤ 1000) (ar2 : ar ≤ 99999) (hty : Cl K (d + 3) 122 [.ref (B + 46), .int (it o), .int (it ar), .int (it f)] w (nw B n I) J = some (some (.int ty), w, nw B n I, J)) (ho : (o = 0 ∨ o = 1) ∧ v = it ar ∨ (o = 2 ∨ o = 27) ∧ v = it 0 ∨ o = 3 ∧ ar < 6 ∧ v = n (72 + 8 * (fr - 1) + ar)) :
    Cl K (d + 4) 188 [.ref (B + 46), .int (it o), .int (it ar), .int (it (70 + 8 * ((fr : Int) - 1)))] w (nw B n I) J = some (none, w, nw B (ap [(71 + 8 * (fr - 1), it (p + 1)), (10 + hi, v), (40 + hi, ty), (2, it (hi + 1))] n) I, J) := by
  apply cl_188 (k := 0)
  rw [a_188 H f1 f2 hf hp p2 (by omega) (by omega) (by omega) hty (by omega) (by omega)]
  unfold f_188_71 f_188_92 f_188_123
  simp only [it_lit, gO_e (yt46 H), gV_e (yp46_36 H), gV_e (yp46_18 H), gV_e (yp46_19 H), gV_e (yp46_20 H), gV_e (yp46_37 H), gV_e (yp46_38 H), gV_e (yp46_39 H), gV_e (yp46_40 H), gV_e (yp46_43 H), gn0 H, gn1 H, gn2 H, gn3 H, gn4 H, gn5 H, gn6 H, gw0 H, gw1 H, gw2 H, gw3 H, gw4 H, gw5 H, gw6 H, cl0, cl1, cl2, cl3, cl4, cl5, cl6, cI_e, cV_e, cA_e, cJ_e, lt_, nw_r, nw_u, it_add]
  rw [gA_e (yt65 H) (Or.inl rfl) (ix (by omega) (by omega) (by omega)), it_cl (by omega) (by omega), show (70 + 8 * ((fr : Int) - 1) + 1).toNat = 71 + 8 * (fr - 1) by omega]
  have h2' : sm_up1 n (71 + 8 * (fr - 1)) (it (p + 1)) 2 = it hi := by rw [up1_n (by omega)]; exact h2
  have hP : ∀ v : Int32, Cl K (d + 3) 191 [.ref (B + 46), .int ty, .int v] w (nw B (sm_up1 n (71 + 8 * (fr - 1)) (it (p + 1))) I) J = some (none, w, nw B (ap [(10 + hi, v), (40 + hi, ty), (2, it (hi + 1))] (sm_up1 n (71 + 8 * (fr - 1)) (it (p + 1)))) I, J) := fun v => s_191 H h2' h0
  rcases ho with ⟨ho, rfl⟩ | ⟨ho, rfl⟩ | ⟨rfl, ha, rfl⟩
  · rw [if_pos ((it_lt (by omega) (by omega) (by omega) (by omega)).mpr (by omega)), if_pos (fun q => by have := (it_eq (by omega) (by omega) (by omega) (by omega)).mp q; omega), if_neg (fun q => by have := (it_le (by omega) (by omega) (by omega) (by omega)).mp q; omega), hP]
    rfl
  · rcases ho with rfl | rfl
    · repeat (first | rw [if_pos (by decide)] | rw [if_neg (by decide)])
      rw [hP]
      rfl
    · repeat (first | rw [if_pos (by decide)] | rw [if_neg (by decide)])
      rw [hP]
      rfl
  · repeat (first | rw [if_pos (by decide)] | rw [if_neg (by decide)])
    rw [gA_e (yt65 H) (Or.inl rfl) (ix (by omega) (by omega) (by omega)), it_cl (by omega) (by omega), show (70 + 8 * ((fr : Int) - 1) + 2 + (ar : Int)).toNat = 72 + 8 * (fr - 1) + ar by omega, up1_n (by omega), hP]
    rfl
/-- acts: ops that take and put -/
theorem d_188 {wg : List (Nat × Int32)} (H : Lay B w) (f1 : 1 ≤ fr) (f2 : fr ≤ 8) (h0 : hi ≤ 30) (hf : n (70 + 8 * (fr - 1)) = it f) (hp : n (71 + 8 * (fr - 1)) = it p) (p2 : p ≤ 1000) (o5 : 5 ≤ o) (o20 : o ≤ 20) (hk : tK o ≤ hi) (k1 : 1 ≤ tK o) (hG : Cl K (d + 3) 192 [.ref (B + 46), .int (it o), .int a] w (nw B (sm_up1 n (71 + 8 * (fr - 1)) (it (p + 1))) I) J = some (some (.int v), w, nw B (ap wg (sm_up1 n (71 + 8 * (fr - 1)) (it (p + 1)))) I, J)) (h2 : ap wg (sm_up1 n (71 + 8 * (fr - 1)) (it (p + 1))) 2 = it hi) :
    Cl K (d + 4) 188 [.ref (B + 46), .int (it o), .int a, .int (it (70 + 8 * ((fr : Int) - 1)))] w (nw B n I) J = some (none, w, nw B (ap ((71 + 8 * (fr - 1), it (p + 1)) :: (wg ++ [(2, it ((hi - tK o : Nat) : Int)), (10 + hi - tK o, v), (40 + hi - tK o, it (pT o)), (2, it ((hi - tK o + 1 : Nat) : Int))])) n) I, J) := by
  apply cl_188 (k := 0)
  rw [a_188 H f1 f2 hf hp p2 (by omega) (by omega) (by omega) (s_122 (by omega) (by omega) (by omega)) (by omega) (by omega)]
  unfold f_188_71
  simp only [it_lit, gO_e (yt46 H), gV_e (yp46_36 H), gV_e (yp46_18 H), gV_e (yp46_19 H), gV_e (yp46_20 H), gV_e (yp46_37 H), gV_e (yp46_38 H), gV_e (yp46_39 H), gV_e (yp46_40 H), gV_e (yp46_43 H), gn0 H, gn1 H, gn2 H, gn3 H, gn4 H, gn5 H, gn6 H, gw0 H, gw1 H, gw2 H, gw3 H, gw4 H, gw5 H, gw6 H, cl0, cl1, cl2, cl3, cl4, cl5, cl6, cI_e, cV_e, cA_e, cJ_e, lt_, nw_r, nw_u, it_add]
  rw [gA_e (yt65 H) (Or.inl rfl) (ix (by omega) (by omega) (by omega)), it_cl (by omega) (by omega), show (70 + 8 * ((fr : Int) - 1) + 1).toNat = 71 + 8 * (fr - 1) by omega]
  rw [if_neg (fun q => by have := (it_lt (by omega) (by omega) (by omega) (by omega)).mp q; omega), if_pos (fun q => by have := (it_eq (by omega) (by omega) (by omega) (by omega)).mp q; omega), if_neg (fun q => by have := (it_le (by omega) (by omega) (by omega) (by omega)).mp q; omega), hG]
  simp only [gO_e (yt46 H), gV_e (yp46_36 H), gV_e (yp46_18 H), gV_e (yp46_19 H), gV_e (yp46_20 H), gV_e (yp46_37 H), gV_e (yp46_38 H), gV_e (yp46_39 H), gV_e (yp46_40 H), gV_e (yp46_43 H), gn0 H, gn1 H, gn2 H, gn3 H, gn4 H, gn5 H, gn6 H, gw0 H, gw1 H, gw2 H, gw3 H, gw4 H, gw5 H, gw6 H, cl0, cl1, cl2, cl3, cl4, cl5, cl6, cI_e, cV_e, cA_e, cJ_e, lt_, nw_r, nw_u]
  rw [s_120 (by omega) (by omega)]
  simp only [gO_e (yt46 H), gV_e (yp46_36 H), gV_e (yp46_18 H), gV_e (yp46_19 H), gV_e (yp46_20 H), gV_e (yp46_37 H), gV_e (yp46_38 H), gV_e (yp46_39 H), gV_e (yp46_40 H), gV_e (yp46_43 H), gn0 H, gn1 H, gn2 H, gn3 H, gn4 H, gn5 H, gn6 H, gw0 H, gw1 H, gw2 H, gw3 H, gw4 H, gw5 H, gw6 H, cl0, cl1, cl2, cl3, cl4, cl5, cl6, cI_e, cV_e, cA_e, cJ_e, lt_, nw_r, nw_u]
  rw [h2, it_sub, show ((hi : Int) - (tK o : Int)) = ((hi - tK o : Nat) : Int) by omega]
  rw [s_191 H (hi := hi - tK o) (up1_s _ _ _) (by omega)]
  simp only [gO_e (yt46 H), gV_e (yp46_36 H), gV_e (yp46_18 H), gV_e (yp46_19 H), gV_e (yp46_20 H), gV_e (yp46_37 H), gV_e (yp46_38 H), gV_e (yp46_39 H), gV_e (yp46_40 H), gV_e (yp46_43 H), gn0 H, gn1 H, gn2 H, gn3 H, gn4 H, gn5 H, gn6 H, gw0 H, gw1 H, gw2 H, gw3 H, gw4 H, gw5 H, gw6 H, cl0, cl1, cl2, cl3, cl4, cl5, cl6, cI_e, cV_e, cA_e, cJ_e, lt_, nw_r, nw_u]
  rw [show 10 + (hi - tK o) = 10 + hi - tK o by omega, show 40 + (hi - tK o) = 40 + hi - tK o by omega]
  simp only [ap, ap_app]
  rfl
/-- acts: ops that leave something -/
theorem e_188 {wl : List (Nat × Int32)} (H : Lay B w) (f1 : 1 ≤ fr) (f2 : fr ≤ 8) (h0 : hi ≤ 30) (hf : n (70 + 8 * (fr - 1)) = it f) (hp : n (71 + 8 * (fr - 1)) = it p) (p2 : p ≤ 1000) (ho : o = 21 ∨ o = 22 ∨ o = 26) (hk : tK o ≤ hi) (hG : Cl K (d + 3) 195 [.ref (B + 46), .int (it o), .int a, .int (it (70 + 8 * ((fr : Int) - 1)))] w (nw B (sm_up1 n (71 + 8 * (fr - 1)) (it (p + 1))) I) J = some (none, w, nw B (ap wl (sm_up1 n (71 + 8 * (fr - 1)) (it (p + 1)))) I, J)) (h2 : ap wl (sm_up1 n (71 + 8 * (fr - 1)) (it (p + 1))) 2 = it hi) :
    Cl K (d + 4) 188 [.ref (B + 46), .int (it o), .int a, .int (it (70 + 8 * ((fr : Int) - 1)))] w (nw B n I) J = some (none, w, nw B (ap ((71 + 8 * (fr - 1), it (p + 1)) :: (wl ++ [(2, it ((hi - tK o : Nat) : Int))])) n) I, J) := by
  apply cl_188 (k := 0)
  rw [a_188 H f1 f2 hf hp p2 (by omega) (by omega) (by omega) (s_122 (by omega) (by omega) (by omega)) (by omega) (by omega)]
  unfold f_188_71
  simp only [it_lit, gO_e (yt46 H), gV_e (yp46_36 H), gV_e (yp46_18 H), gV_e (yp46_19 H), gV_e (yp46_20 H), gV_e (yp46_37 H), gV_e (yp46_38 H), gV_e (yp46_39 H), gV_e (yp46_40 H), gV_e (yp46_43 H), gn0 H, gn1 H, gn2 H, gn3 H, gn4 H, gn5 H, gn6 H, gw0 H, gw1 H, gw2 H, gw3 H, gw4 H, gw5 H, gw6 H, cl0, cl1, cl2, cl3, cl4, cl5, cl6, cI_e, cV_e, cA_e, cJ_e, lt_, nw_r, nw_u, it_add]
  rw [gA_e (yt65 H) (Or.inl rfl) (ix (by omega) (by omega) (by omega)), it_cl (by omega) (by omega), show (70 + 8 * ((fr : Int) - 1) + 1).toNat = 71 + 8 * (fr - 1) by omega]
  rw [if_neg (fun q => by have := (it_lt (by omega) (by omega) (by omega) (by omega)).mp q; omega), if_pos (fun q => by have := (it_eq (by omega) (by omega) (by omega) (by omega)).mp q; omega), if_pos ((it_le (by omega) (by omega) (by omega) (by omega)).mpr (by omega)), hG]
  simp only [gO_e (yt46 H), gV_e (yp46_36 H), gV_e (yp46_18 H), gV_e (yp46_19 H), gV_e (yp46_20 H), gV_e (yp46_37 H), gV_e (yp46_38 H), gV_e (yp46_39 H), gV_e (yp46_40 H), gV_e (yp46_43 H), gn0 H, gn1 H, gn2 H, gn3 H, gn4 H, gn5 H, gn6 H, gw0 H, gw1 H, gw2 H, gw3 H, gw4 H, gw5 H, gw6 H, cl0, cl1, cl2, cl3, cl4, cl5, cl6, cI_e, cV_e, cA_e, cJ_e, lt_, nw_r, nw_u]
  rw [s_120 (by omega) (by omega)]
  simp only [gO_e (yt46 H), gV_e (yp46_36 H), gV_e (yp46_18 H), gV_e (yp46_19 H), gV_e (yp46_20 H), gV_e (yp46_37 H), gV_e (yp46_38 H), gV_e (yp46_39 H), gV_e (yp46_40 H), gV_e (yp46_43 H), gn0 H, gn1 H, gn2 H, gn3 H, gn4 H, gn5 H, gn6 H, gw0 H, gw1 H, gw2 H, gw3 H, gw4 H, gw5 H, gw6 H, cl0, cl1, cl2, cl3, cl4, cl5, cl6, cI_e, cV_e, cA_e, cJ_e, lt_, nw_r, nw_u]
  rw [h2, it_sub, show ((hi : Int) - (tK o : Int)) = ((hi - tK o : Nat) : Int) by omega]
  simp only [ap, ap_app]
/-- the variables of a new frame -/
def wMV (fr pa hi : Nat) (n : Nat → Int32) : Nat → Nat → List (Nat × Int32)
  | 0, _ => []
  | k + 1, v => (72 + 8 * fr + v, if v < pa then n (10 + hi - (pa - v)) else it 0) :: wMV fr pa hi n k (v + 1)
theorem l_189 {g pa at0 : Nat} (H : Lay B w) (f1 : 1 ≤ fr) (f2 : fr < 8) (h0 : hi ≤ 30) (hg : g < 5) (pa6 : pa ≤ 6) (pah : pa ≤ hi) (i0 : I (B + 58) (10 * g) = it at0) : ∀ (m v : Nat) (n' : Nat → Int32), v + m = 6 → (∀ j, j < 70 → n' j = n j) → n 2 = it hi → n 1 = it fr → f_189_28 K (m + 1) (d + 1) (B + 46) (it g) (it pa) (it (70 + 8 * (fr : Int))) (it v) w (nw B n' I) J = some (none, w, nw B (ap (wMV fr pa hi n m v ++ [(70 + 8 * fr, it g), (71 + 8 * fr, it at0), (2, it ((hi - pa : Nat) : Int)), (1, it (fr + 1))]) n') I, J) := by
  intro m
  induction m with
  | zero =>
    intro v n' hv hn h2 h1
    rw [f_189_28]
    simp only [it_lit, gO_e (yt46 H), gV_e (yp46_36 H), gV_e (yp46_18 H), gV_e (yp46_19 H), gV_e (yp46_20 H), gV_e (yp46_37 H), gV_e (yp46_38 H), gV_e (yp46_39 H), gV_e (yp46_40 H), gV_e (yp46_43 H), gn0 H, gn1 H, gn2 H, gn3 H, gn4 H, gn5 H, gn6 H, gw0 H, gw1 H, gw2 H, gw3 H, gw4 H, gw5 H, gw6 H, cl0, cl1, cl2, cl3, cl4, cl5, cl6, cI_e, cV_e, cA_e, cJ_e, lt_, nw_r, nw_u, it_add, it_mul]
    have e2 : n' 2 = it hi := by rw [hn 2 (by omega)]; exact h2
    have e1 : n' 1 = it fr := by rw [hn 1 (by omega)]; exact h1
    rw [if_pos ((it_le (by omega) (by omega) (by omega) (by omega)).mpr (by omega)), gA_e (yt65 H) (Or.inl rfl) (ix (by omega) (by omega) (by omega)), it_cl (by omega) (by omega), show (70 + 8 * (fr : Int)).toNat = 70 + 8 * fr by omega]
    rw [gA_e (yt58 H) (Or.inl rfl) (ix (by omega) (by omega) (by omega)), it_cl (a := 10 * (g : Int)) (by omega) (by omega), show (10 * (g : Int)).toNat = 10 * g by omega]
    rw [gA_e (yt65 H) (Or.inl rfl) (ix (by omega) (by omega) (by omega)), it_cl (by omega) (by omega), show (70 + 8 * (fr : Int) + 1).toNat = 71 + 8 * fr by omega, nw_o (by omega), i0]
    rw [up1_n (k := 71 + 8 * fr) (j := 2) (by omega), up1_n (k := 70 + 8 * fr) (j := 2) (by omega), e2, it_sub, show ((hi : Int) - (pa : Int)) = ((hi - pa : Nat) : Int) by omega]
    rw [up1_n (k := 2) (j := 1) (by omega), up1_n (k := 71 + 8 * fr) (j := 1) (by omega), up1_n (k := 70 + 8 * fr) (j := 1) (by omega), e1, it_add]
    rfl
  | succ m ih =>
    intro v n' hv hn h2 h1
    rw [f_189_28]
    unfold f_189_63
    simp only [it_lit, gO_e (yt46 H), gV_e (yp46_36 H), gV_e (yp46_18 H), gV_e (yp46_19 H), gV_e (yp46_20 H), gV_e (yp46_37 H), gV_e (yp46_38 H), gV_e (yp46_39 H), gV_e (yp46_40 H), gV_e (yp46_43 H), gn0 H, gn1 H, gn2 H, gn3 H, gn4 H, gn5 H, gn6 H, gw0 H, gw1 H, gw2 H, gw3 H, gw4 H, gw5 H, gw6 H, cl0, cl1, cl2, cl3, cl4, cl5, cl6, cI_e, cV_e, cA_e, cJ_e, lt_, nw_r, nw_u, it_add, it_mul]
    have e2 : n' 2 = it hi := by rw [hn 2 (by omega)]; exact h2
    rw [if_neg (fun q => by have := (it_le (by omega) (by omega) (by omega) (by omega)).mp q; omega)]
    have go : ∀ x : Int32, f_189_28 K (m + 1) (d + 1) (B + 46) (it g) (it pa) (it (70 + 8 * (fr : Int))) (it (v + 1)) w (nw B (sm_up1 n' (72 + 8 * fr + v) x) I) J = some (none, w, nw B (ap (wMV fr pa hi n m (v + 1) ++ [(70 + 8 * fr, it g), (71 + 8 * fr, it at0), (2, it ((hi - pa : Nat) : Int)), (1, it (fr + 1))]) (sm_up1 n' (72 + 8 * fr + v) x)) I, J) :=
      fun x => ih (v + 1) _ (by omega) (fun j hj => by rw [up1_n (by omega)]; exact hn j hj) h2 h1
    by_cases hvp : v < pa
    · rw [if_neg (fun q => by have := (it_le (by omega) (by omega) (by omega) (by omega)).mp q; omega), it_sub, s_181 H e2 h0 (by omega) (by omega), show ((pa : Int) - v).toNat = pa - v by omega]
      simp only [gO_e (yt46 H), gV_e (yp46_36 H), gV_e (yp46_18 H), gV_e (yp46_19 H), gV_e (yp46_20 H), gV_e (yp46_37 H), gV_e (yp46_38 H), gV_e (yp46_39 H), gV_e (yp46_40 H), gV_e (yp46_43 H), gn0 H, gn1 H, gn2 H, gn3 H, gn4 H, gn5 H, gn6 H, gw0 H, gw1 H, gw2 H, gw3 H, gw4 H, gw5 H, gw6 H, cl0, cl1, cl2, cl3, cl4, cl5, cl6, cI_e, cV_e, cA_e, cJ_e, lt_, nw_r, nw_u]
      rw [gA_e (yt65 H) (Or.inl rfl) (ix (by omega) (by omega) (by omega)), it_cl (by omega) (by omega), show (70 + 8 * (fr : Int) + 2 + v).toNat = 72 + 8 * fr + v by omega, hn _ (by omega)]
      rw [go]
      simp only [wMV, if_pos hvp]
      rfl
    · rw [if_pos ((it_le (by omega) (by omega) (by omega) (by omega)).mpr (by omega))]
      rw [gA_e (yt65 H) (Or.inl rfl) (ix (by omega) (by omega) (by omega)), it_cl (by omega) (by omega), show (70 + 8 * (fr : Int) + 2 + v).toNat = 72 + 8 * fr + v by omega]
      rw [go]
      simp only [wMV, if_neg hvp]
      rfl
theorem s_189 {g pa at0 : Nat} (H : Lay B w) (h1 : n 1 = it fr) (h2 : n 2 = it hi) (f1 : 1 ≤ fr) (f2 : fr < 8) (h0 : hi ≤ 30) (hg : g < 5) (pa6 : pa ≤ 6) (pah : pa ≤ hi) (i0 : I (B + 58) (10 * g) = it at0) (i1 : I (B + 58) (10 * g + 1) = it pa) : Cl K (d + 2) 189 [.ref (B + 46), .int (it g)] w (nw B n I) J = some (none, w, nw B (ap (wMV fr pa hi n 6 0 ++ [(70 + 8 * fr, it g), (71 + 8 * fr, it at0), (2, it ((hi - pa : Nat) : Int)), (1, it (fr + 1))]) n) I, J) := by
  apply cl_189 (k := 7)
  unfold f_189
  simp only [it_lit, gO_e (yt46 H), gV_e (yp46_36 H), gV_e (yp46_18 H), gV_e (yp46_19 H), gV_e (yp46_20 H), gV_e (yp46_37 H), gV_e (yp46_38 H), gV_e (yp46_39 H), gV_e (yp46_40 H), gV_e (yp46_43 H), gn0 H, gn1 H, gn2 H, gn3 H, gn4 H, gn5 H, gn6 H, gw0 H, gw1 H, gw2 H, gw3 H, gw4 H, gw5 H, gw6 H, cl0, cl1, cl2, cl3, cl4, cl5, cl6, cI_e, cV_e, cA_e, cJ_e, lt_, nw_r, nw_u, it_add, it_mul]
  rw [gA_e (yt58 H) (Or.inl rfl) (ix (by omega) (by omega) (by omega)), it_cl (by omega) (by omega), show (10 * (g : Int) + 1).toNat = 10 * g + 1 by omega, nw_o (by omega), i1, h1]
  simp only [it_add, it_mul]
  exact l_189 H f1 f2 h0 hg pa6 pah i0 6 0 n (by omega) (fun _ _ => rfl) h2 h1
/-- acts: a call -/
theorem f_188c {g pa at0 : Nat} (H : Lay B w) (h1 : n 1 = it fr) (h2 : n 2 = it hi) (f1 : 1 ≤ fr) (f2 : fr < 8) (h0 : hi ≤ 30) (hg : g < 5) (pa6 : pa ≤ 6) (pah : pa ≤ hi) (i0 : I (B + 58) (10 * g) = it at0) (i1 : I (B + 58) (10 * g + 1) = it pa) (hp : n (71 + 8 * (fr - 1)) = it p) (p2 : p ≤ 1000) : Cl K (d + 4) 188 [.ref (B + 46), .int (it 4), .int (it g), .int (it (70 + 8 * ((fr : Int) - 1)))] w (nw B n I) J = some (none, w, nw B (ap (wMV fr pa hi n 6 0 ++ [(70 + 8 * fr, it g), (71 + 8 * fr, it at0), (2, it ((hi - pa : Nat) : Int)), (1, it (fr + 1))]) n) I, J) := by
  apply cl_188 (k := 0)
  unfold f_188
  simp only [it_lit, gO_e (yt46 H), gV_e (yp46_36 H), gV_e (yp46_18 H), gV_e (yp46_19 H), gV_e (yp46_20 H), gV_e (yp46_37 H), gV_e (yp46_38 H), gV_e (yp46_39 H), gV_e (yp46_40 H), gV_e (yp46_43 H), gn0 H, gn1 H, gn2 H, gn3 H, gn4 H, gn5 H, gn6 H, gw0 H, gw1 H, gw2 H, gw3 H, gw4 H, gw5 H, gw6 H, cl0, cl1, cl2, cl3, cl4, cl5, cl6, cI_e, cV_e, cA_e, cJ_e, lt_, nw_r, nw_u, it_add]
  rw [gA_e (yt65 H) (Or.inl rfl) (ix (by omega) (by omega) (by omega)), s_122c H hg]
  simp only [gO_e (yt46 H), gV_e (yp46_36 H), gV_e (yp46_18 H), gV_e (yp46_19 H), gV_e (yp46_20 H), gV_e (yp46_37 H), gV_e (yp46_38 H), gV_e (yp46_39 H), gV_e (yp46_40 H), gV_e (yp46_43 H), gn0 H, gn1 H, gn2 H, gn3 H, gn4 H, gn5 H, gn6 H, gw0 H, gw1 H, gw2 H, gw3 H, gw4 H, gw5 H, gw6 H, cl0, cl1, cl2, cl3, cl4, cl5, cl6, cI_e, cV_e, cA_e, cJ_e, lt_, nw_r, nw_u]
  rw [gA_e (yt65 H) (Or.inl rfl) (ix (by omega) (by omega) (by omega)), if_neg (by simp), s_189 H h1 h2 f1 f2 h0 hg pa6 pah i0 i1]
  rfl
/-- acts: an end -/
theorem s_190a (H : Lay B w) (h1 : n 1 = it fr) (h2 : n 2 = it hi) (f1 : 2 ≤ fr) (f2 : fr ≤ 8) (h0 : hi ≤ 30) (hh : 1 ≤ hi) : Cl K (d + 2) 190 [.ref (B + 46)] w (nw B n I) J = some (none, w, nw B (ap [(2, it ((hi - 1 : Nat) : Int)), (1, it ((fr - 1 : Nat) : Int)), (10 + (hi - 1), n (9 + hi)), (40 + (hi - 1), n (39 + hi)), (2, it ((hi - 1 : Nat) + 1)), (71 + 8 * (fr - 2), n (71 + 8 * (fr - 2)) + it 1)] n) I, J) := by
  apply cl_190 (k := 0)
  unfold f_190
  simp only [it_lit, gO_e (yt46 H), gV_e (yp46_36 H), gV_e (yp46_18 H), gV_e (yp46_19 H), gV_e (yp46_20 H), gV_e (yp46_37 H), gV_e (yp46_38 H), gV_e (yp46_39 H), gV_e (yp46_40 H), gV_e (yp46_43 H), gn0 H, gn1 H, gn2 H, gn3 H, gn4 H, gn5 H, gn6 H, gw0 H, gw1 H, gw2 H, gw3 H, gw4 H, gw5 H, gw6 H, cl0, cl1, cl2, cl3, cl4, cl5, cl6, cI_e, cV_e, cA_e, cJ_e, lt_, nw_r, nw_u, it_add, h2]
  rw [s_181 H h2 h0 (by omega) (by omega), Int.toNat_one, show 10 + hi - 1 = 9 + hi by omega]
  simp only [gO_e (yt46 H), gV_e (yp46_36 H), gV_e (yp46_18 H), gV_e (yp46_19 H), gV_e (yp46_20 H), gV_e (yp46_37 H), gV_e (yp46_38 H), gV_e (yp46_39 H), gV_e (yp46_40 H), gV_e (yp46_43 H), gn0 H, gn1 H, gn2 H, gn3 H, gn4 H, gn5 H, gn6 H, gw0 H, gw1 H, gw2 H, gw3 H, gw4 H, gw5 H, gw6 H, cl0, cl1, cl2, cl3, cl4, cl5, cl6, cI_e, cV_e, cA_e, cJ_e, lt_, nw_r, nw_u, h2, it_sub, it_add]
  rw [gA_e (yt65 H) (Or.inl rfl) (ix (by omega) (by omega) (by omega)), it_cl (by omega) (by omega), show (40 + (hi : Int) - 1).toNat = 39 + hi by omega, show ((hi : Int) - 1) = ((hi - 1 : Nat) : Int) by omega]
  rw [up1_n (k := 2) (j := 1) (by omega), h1, it_sub, show ((fr : Int) - 1) = ((fr - 1 : Nat) : Int) by omega, up1_s, if_pos (fun q => by have := (it_eq (by omega) (by omega) (by omega) (by omega)).mp q; omega)]
  have h2' : sm_up1 (sm_up1 n 2 (it ((hi - 1 : Nat) : Int))) 1 (it ((fr - 1 : Nat) : Int)) 2 = it ((hi - 1 : Nat) : Int) := by rw [up1_n (by omega), up1_s]
  rw [s_191 H h2' (by omega)]
  simp only [gO_e (yt46 H), gV_e (yp46_36 H), gV_e (yp46_18 H), gV_e (yp46_19 H), gV_e (yp46_20 H), gV_e (yp46_37 H), gV_e (yp46_38 H), gV_e (yp46_39 H), gV_e (yp46_40 H), gV_e (yp46_43 H), gn0 H, gn1 H, gn2 H, gn3 H, gn4 H, gn5 H, gn6 H, gw0 H, gw1 H, gw2 H, gw3 H, gw4 H, gw5 H, gw6 H, cl0, cl1, cl2, cl3, cl4, cl5, cl6, cI_e, cV_e, cA_e, cJ_e, lt_, nw_r, nw_u]
  have h1' : ap [(10 + (hi - 1), n (9 + hi)), (40 + (hi - 1), n (39 + hi)), (2, it ((hi - 1 : Nat) + 1))] (sm_up1 (sm_up1 n 2 (it ((hi - 1 : Nat) : Int))) 1 (it ((fr - 1 : Nat) : Int))) 1 = it ((fr - 1 : Nat) : Int) := by
    simp only [ap]
    rw [up1_n (by omega), up1_n (by omega), up1_n (by omega), up1_s]
  rw [s_179 H h1']
  simp only [gO_e (yt46 H), gV_e (yp46_36 H), gV_e (yp46_18 H), gV_e (yp46_19 H), gV_e (yp46_20 H), gV_e (yp46_37 H), gV_e (yp46_38 H), gV_e (yp46_39 H), gV_e (yp46_40 H), gV_e (yp46_43 H), gn0 H, gn1 H, gn2 H, gn3 H, gn4 H, gn5 H, gn6 H, gw0 H, gw1 H, gw2 H, gw3 H, gw4 H, gw5 H, gw6 H, cl0, cl1, cl2, cl3, cl4, cl5, cl6, cI_e, cV_e, cA_e, cJ_e, lt_, nw_r, nw_u, it_add]
  rw [gA_e (yt65 H) (Or.inl rfl) (ix (by omega) (by omega) (by omega)), gA_e (yt65 H) (Or.inl rfl) (ix (by omega) (by omega) (by omega)), it_cl (by omega) (by omega), show (70 + 8 * (((fr - 1 : Nat) : Int) - 1) + 1).toNat = 71 + 8 * (fr - 2) by omega]
  have h3' : ap [(10 + (hi - 1), n (9 + hi)), (40 + (hi - 1), n (39 + hi)), (2, it ((hi - 1 : Nat) + 1))] (sm_up1 (sm_up1 n 2 (it ((hi - 1 : Nat) : Int))) 1 (it ((fr - 1 : Nat) : Int))) (71 + 8 * (fr - 2)) = n (71 + 8 * (fr - 2)) := by
    simp only [ap]
    rw [up1_n (by omega), up1_n (by omega), up1_n (by omega), up1_n (by omega), up1_n (by omega)]
  rw [h3']
  rfl
theorem s_190b (H : Lay B w) (h1 : n 1 = it 1) (h2 : n 2 = it hi) (h0 : hi ≤ 30) (hh : 1 ≤ hi) : Cl K (d + 2) 190 [.ref (B + 46)] w (nw B n I) J = some (none, w, nw B (ap [(2, it ((hi - 1 : Nat) : Int)), (1, it 0), (6, n (9 + hi)), (0, it 1)] n) I, J) := by
  apply cl_190 (k := 0)
  unfold f_190
  simp only [it_lit, gO_e (yt46 H), gV_e (yp46_36 H), gV_e (yp46_18 H), gV_e (yp46_19 H), gV_e (yp46_20 H), gV_e (yp46_37 H), gV_e (yp46_38 H), gV_e (yp46_39 H), gV_e (yp46_40 H), gV_e (yp46_43 H), gn0 H, gn1 H, gn2 H, gn3 H, gn4 H, gn5 H, gn6 H, gw0 H, gw1 H, gw2 H, gw3 H, gw4 H, gw5 H, gw6 H, cl0, cl1, cl2, cl3, cl4, cl5, cl6, cI_e, cV_e, cA_e, cJ_e, lt_, nw_r, nw_u, it_add, h2]
  rw [s_181 H h2 h0 (by omega) (by omega), Int.toNat_one, show 10 + hi - 1 = 9 + hi by omega]
  simp only [gO_e (yt46 H), gV_e (yp46_36 H), gV_e (yp46_18 H), gV_e (yp46_19 H), gV_e (yp46_20 H), gV_e (yp46_37 H), gV_e (yp46_38 H), gV_e (yp46_39 H), gV_e (yp46_40 H), gV_e (yp46_43 H), gn0 H, gn1 H, gn2 H, gn3 H, gn4 H, gn5 H, gn6 H, gw0 H, gw1 H, gw2 H, gw3 H, gw4 H, gw5 H, gw6 H, cl0, cl1, cl2, cl3, cl4, cl5, cl6, cI_e, cV_e, cA_e, cJ_e, lt_, nw_r, nw_u, h2, it_sub, it_add]
  rw [gA_e (yt65 H) (Or.inl rfl) (ix (by omega) (by omega) (by omega)), it_cl (by omega) (by omega), show (40 + (hi : Int) - 1).toNat = 39 + hi by omega, show ((hi : Int) - 1) = ((hi - 1 : Nat) : Int) by omega]
  rw [up1_n (k := 2) (j := 1) (by omega), h1, it_sub, up1_s, if_neg (fun q => q (by decide))]
  rfl
theorem f_188e {n' : Nat → Int32} (H : Lay B w) (f1 : 1 ≤ fr) (f2 : fr ≤ 8) (he : Cl K (d + 3) 190 [.ref (B + 46)] w (nw B n I) J = some (none, w, nw B n' I, J)) : Cl K (d + 4) 188 [.ref (B + 46), .int (it 25), .int a, .int (it (70 + 8 * ((fr : Int) - 1)))] w (nw B n I) J = some (none, w, nw B n' I, J) := by
  apply cl_188 (k := 0)
  unfold f_188
  simp only [it_lit, gO_e (yt46 H), gV_e (yp46_36 H), gV_e (yp46_18 H), gV_e (yp46_19 H), gV_e (yp46_20 H), gV_e (yp46_37 H), gV_e (yp46_38 H), gV_e (yp46_39 H), gV_e (yp46_40 H), gV_e (yp46_43 H), gn0 H, gn1 H, gn2 H, gn3 H, gn4 H, gn5 H, gn6 H, gw0 H, gw1 H, gw2 H, gw3 H, gw4 H, gw5 H, gw6 H, cl0, cl1, cl2, cl3, cl4, cl5, cl6, cI_e, cV_e, cA_e, cJ_e, lt_, nw_r, nw_u, it_add]
  have e := s_122 (o := 25) (K := K) (B := B) (d := d + 2) (w := w) (I := nw B n I) (J := J) (a := a) (f := n (it (70 + 8 * ((fr : Int) - 1))).toNatClampNeg) (by omega) (by omega) (by omega)
  rw [gA_e (yt65 H) (Or.inl rfl) (ix (by omega) (by omega) (by omega))]
  refine Eq.trans (congrArg (fun t => cI t _) e) ?_
  simp only [gO_e (yt46 H), gV_e (yp46_36 H), gV_e (yp46_18 H), gV_e (yp46_19 H), gV_e (yp46_20 H), gV_e (yp46_37 H), gV_e (yp46_38 H), gV_e (yp46_39 H), gV_e (yp46_40 H), gV_e (yp46_43 H), gn0 H, gn1 H, gn2 H, gn3 H, gn4 H, gn5 H, gn6 H, gw0 H, gw1 H, gw2 H, gw3 H, gw4 H, gw5 H, gw6 H, cl0, cl1, cl2, cl3, cl4, cl5, cl6, cI_e, cV_e, cA_e, cJ_e, lt_, nw_r, nw_u]
  rw [gA_e (yt65 H) (Or.inl rfl) (ix (by omega) (by omega) (by omega))]
  repeat (first | rw [if_pos (by decide)] | rw [if_neg (by decide)])
  rw [he]
  rfl
end MACT

/-! a step of both -/
section STP
variable {K : Nat → Value} {B d s m a N F hi pr j f p b : Nat} {fa : Nat → Nat → Nat} {oc ar : Nat → Nat} {sh : Nat → List Nat} {rc : Nat → Bool} {w : aW} {I I' : aI} {J : aJ} {c n : Nat → Int32}
theorem gM_c {G : aG} (h : ∀ b, (b = B + 46 ∨ B + 58 ≤ b ∧ b ≤ B + 63) → I' b = I b) (gm : gM G B I) : gM G B I' := by
  obtain ⟨N, F, fa, oc, ar, sh, rc⟩ := G
  simp only [gM] at gm ⊢
  rw [h (B + 46) (Or.inl rfl), h (B + 58) (by omega), h (B + 59) (by omega), h (B + 60) (by omega), h (B + 62) (by omega), h (B + 63) (by omega)]
  exact gm
theorem gX_c {G : aG} (ha : a = B + 8 ∨ a = B + 22) (h : ∀ b, B + 8 ≤ b → b < B + 29 → I' b = I b) (gx : gX G a I J) : gX G a I' J := by
  obtain ⟨N, F, fa, oc, ar, sh, rc⟩ := G
  simp only [gX] at gx ⊢
  rw [h a (by omega) (by omega), h (a + 1) (by omega) (by omega), h (a + 2) (by omega) (by omega), h (a + 5) (by omega) (by omega), h (a + 6) (by omega) (by omega)]
  exact gx
theorem nw_76 {k : Nat} {x : Int32} : sm_up2 (nw B n I) (B + 69) k x = nw B n (sm_up2 I (B + 69) k x) := by
  funext b
  by_cases h1 : b = B + 69
  · subst h1
    rw [up2_r, nw_o (by omega), nw_o (by omega), up2_r]
  · rw [up2_n h1]
    by_cases h2 : b = B + 65
    · subst h2; rw [nw_r, nw_r]
    · rw [nw_o h2, nw_o h2, up2_n h1]
theorem gp0 {α : Type} {k : Option α} (H : Lay B w) : gA w 10 10 (B + 69) (it 0) k = k := gA_e (yt69 H) (Or.inl rfl) (ix (z := 0) (by omega) (by omega) (by omega))
theorem gp1 {α : Type} {k : Option α} (H : Lay B w) : gA w 10 10 (B + 69) (it 1) k = k := gA_e (yt69 H) (Or.inl rfl) (ix (z := 1) (by omega) (by omega) (by omega))
theorem gp2 {α : Type} {k : Option α} (H : Lay B w) : gA w 10 10 (B + 69) (it 2) k = k := gA_e (yt69 H) (Or.inl rfl) (ix (z := 2) (by omega) (by omega) (by omega))
theorem gp3 {α : Type} {k : Option α} (H : Lay B w) : gA w 10 10 (B + 69) (it 3) k = k := gA_e (yt69 H) (Or.inl rfl) (ix (z := 3) (by omega) (by omega) (by omega))
/-- does, behind the halts -/
theorem d_79 {k o av : Nat} {n' : Nat → Int32} {fm : Int32} {G : aG} (H : Lay B w) (gm : gM G B I) (hM : ∀ I' : aI, gM G B I' → Cl K (d + 1) 188 [.ref (B + 46), .int (it o), .int (it av), .int fm] w (nw B n I') J = some (none, w, nw B n' I', J)) (h2 : n' 2 = it hi) (h30 : hi ≤ 30) :
    ∃ I'' : aI, f_178_79 K k (d + 1) (B + 46) fm (it p) (it o) (it av) (it 0) w (nw B n I) J = some (some (.int (it 1)), w, I'', J) ∧ I'' (B + 65) = sm_up1 n' 4 (n' 4 + it 1) ∧ I'' (B + 69) 0 = it p ∧ I'' (B + 69) 1 = n 2 ∧ I'' (B + 69) 2 = it hi ∧ I'' (B + 69) 3 = (if hi = 0 then it 0 else n' (9 + hi)) ∧ ∀ b, ¬ b = B + 65 → ¬ b = B + 69 → I'' b = I b := by
  unfold f_178_79 f_178_166
  simp only [it_lit, gO_e (yt46 H), gV_e (yp46_36 H), gV_e (yp46_18 H), gV_e (yp46_19 H), gV_e (yp46_20 H), gV_e (yp46_37 H), gV_e (yp46_38 H), gV_e (yp46_39 H), gV_e (yp46_40 H), gV_e (yp46_43 H), gn0 H, gn1 H, gn2 H, gn3 H, gn4 H, gn5 H, gn6 H, gw0 H, gw1 H, gw2 H, gw3 H, gw4 H, gw5 H, gw6 H, cl0, cl1, cl2, cl3, cl4, cl5, cl6, cI_e, cV_e, cA_e, cJ_e, lt_, nw_r, nw_u, nw_76]
  rw [if_pos trivial]
  rw [gp0 H, gp1 H, hM _ (gM_c (I := I) (fun b hb => by rw [up2_n (by omega), up2_n (by omega)]) gm)]
  simp only [gO_e (yt46 H), gV_e (yp46_36 H), gV_e (yp46_18 H), gV_e (yp46_19 H), gV_e (yp46_20 H), gV_e (yp46_37 H), gV_e (yp46_38 H), gV_e (yp46_39 H), gV_e (yp46_40 H), gV_e (yp46_43 H), gn0 H, gn1 H, gn2 H, gn3 H, gn4 H, gn5 H, gn6 H, gw0 H, gw1 H, gw2 H, gw3 H, gw4 H, gw5 H, gw6 H, cl0, cl1, cl2, cl3, cl4, cl5, cl6, cI_e, cV_e, cA_e, cJ_e, lt_, nw_r, nw_u, nw_76]
  rw [gp2 H, up1_n (k := 4) (j := 2) (by omega), h2]
  by_cases hz : hi = 0
  · subst hz
    rw [if_neg (fun q => q rfl), gp3 H]
    simp only [gO_e (yt46 H), gV_e (yp46_36 H), gV_e (yp46_18 H), gV_e (yp46_19 H), gV_e (yp46_20 H), gV_e (yp46_37 H), gV_e (yp46_38 H), gV_e (yp46_39 H), gV_e (yp46_40 H), gV_e (yp46_43 H), gn0 H, gn1 H, gn2 H, gn3 H, gn4 H, gn5 H, gn6 H, gw0 H, gw1 H, gw2 H, gw3 H, gw4 H, gw5 H, gw6 H, cl0, cl1, cl2, cl3, cl4, cl5, cl6, cI_e, cV_e, cA_e, cJ_e, lt_, nw_r, nw_u, nw_76]
    refine ⟨_, rfl, nw_r, ?_, ?_, ?_, ?_, fun b b1 b2 => ?_⟩
    · rw [nw_o (by omega)]; simp only [up2_r, up1_a]; rfl
    · rw [nw_o (by omega)]; simp only [up2_r, up1_a]; rfl
    · rw [nw_o (by omega)]; simp only [up2_r, up1_a]; rfl
    · rw [nw_o (by omega)]; simp only [up2_r, up1_a]; rfl
    · rw [nw_o b1, up2_n b2, up2_n b2, up2_n b2, up2_n b2]
  · rw [if_pos (fun q => by have := (it_eq (by omega) (by omega) (by omega) (by omega)).mp q; omega), s_181 H (hi := hi) (by rw [up1_n (by omega)]; exact h2) h30 (by omega) (by omega)]
    simp only [gO_e (yt46 H), gV_e (yp46_36 H), gV_e (yp46_18 H), gV_e (yp46_19 H), gV_e (yp46_20 H), gV_e (yp46_37 H), gV_e (yp46_38 H), gV_e (yp46_39 H), gV_e (yp46_40 H), gV_e (yp46_43 H), gn0 H, gn1 H, gn2 H, gn3 H, gn4 H, gn5 H, gn6 H, gw0 H, gw1 H, gw2 H, gw3 H, gw4 H, gw5 H, gw6 H, cl0, cl1, cl2, cl3, cl4, cl5, cl6, cI_e, cV_e, cA_e, cJ_e, lt_, nw_r, nw_u, nw_76]
    rw [gp3 H]
    refine ⟨_, rfl, nw_r, ?_, ?_, ?_, ?_, fun b b1 b2 => ?_⟩
    · rw [nw_o (by omega)]; simp only [up2_r, up1_a]; rfl
    · rw [nw_o (by omega)]; simp only [up2_r, up1_a]; rfl
    · rw [nw_o (by omega)]; simp only [up2_r, up1_a]; rfl
    · rw [nw_o (by omega), if_neg hz]
      simp only [up2_r]
      rw [up1_s, Int.toNat_one, show 10 + hi - 1 = 9 + hi by omega, up1_n (by omega)]
    · rw [nw_o b1, up2_n b2, up2_n b2, up2_n b2, up2_n b2]
theorem d_79h {k hc : Nat} {fm l2 l3 l4 : Int32} (H : Lay B w) (h1 : 1 ≤ hc) (h8 : hc ≤ 8) : f_178_79 K k d (B + 46) fm l2 l3 l4 (it hc) w (nw B n I) J = some (some (.int (it 0)), w, nw B (sm_up1 n 0 (it hc)) I, J) := by
  unfold f_178_79
  simp only [it_lit, gO_e (yt46 H), gV_e (yp46_36 H), gV_e (yp46_18 H), gV_e (yp46_19 H), gV_e (yp46_20 H), gV_e (yp46_37 H), gV_e (yp46_38 H), gV_e (yp46_39 H), gV_e (yp46_40 H), gV_e (yp46_43 H), gn0 H, gn1 H, gn2 H, gn3 H, gn4 H, gn5 H, gn6 H, gw0 H, gw1 H, gw2 H, gw3 H, gw4 H, gw5 H, gw6 H, cl0, cl1, cl2, cl3, cl4, cl5, cl6, cI_e, cV_e, cA_e, cJ_e, lt_, nw_r, nw_u]
  rw [if_neg (fun q => by have := (it_eq (by omega) (by omega) (by omega) (by omega)).mp q; omega)]
/-- does, up to the halts -/
theorem d_178 {k : Nat} {G : aG} (H : Lay B w) (gm : gM (N, F, fa, oc, ar, sh, rc) B I) (T : mTop N F fa oc ar sh n hi pr j f p b) (pN : p < N) {x : Int32} (hw : Cl K (d + 5) 180 [.ref (B + 46), .int (it (oc p))] w (nw B n I) J = some (some (.int x), w, nw B n I, J)) :
    f_178 K k (d + 5) (B + 46) w (nw B n I) J = if ¬ x = it 0 then f_178_79 K k (d + 5) (B + 46) (it (70 + 8 * (((j + 1 : Nat) : Int) - 1))) (it p) (it (oc p)) (it (ar p)) x w (nw B n I) J else if it (oc p) = it 10 then f_178_53 K k (d + 5) (B + 46) (it (70 + 8 * (((j + 1 : Nat) : Int) - 1))) (it p) (it (oc p)) (it (ar p)) x w (nw B n I) J else if ¬ it (oc p) = it 12 then f_178_79 K k (d + 5) (B + 46) (it (70 + 8 * (((j + 1 : Nat) : Int) - 1))) (it p) (it (oc p)) (it (ar p)) x w (nw B n I) J else f_178_53 K k (d + 5) (B + 46) (it (70 + 8 * (((j + 1 : Nat) : Int) - 1))) (it p) (it (oc p)) (it (ar p)) x w (nw B n I) J := by
  obtain ⟨a1, a2, a3, a4, a5, a6, a7, a8, a9, a10, a11, a12, a13, a14, a15, a16, a17, a18⟩ := T
  obtain ⟨y1, y2, y3, y4⟩ := gm
  unfold f_178
  simp only [it_lit, gO_e (yt46 H), gV_e (yp46_36 H), gV_e (yp46_18 H), gV_e (yp46_19 H), gV_e (yp46_20 H), gV_e (yp46_37 H), gV_e (yp46_38 H), gV_e (yp46_39 H), gV_e (yp46_40 H), gV_e (yp46_43 H), gn0 H, gn1 H, gn2 H, gn3 H, gn4 H, gn5 H, gn6 H, gw0 H, gw1 H, gw2 H, gw3 H, gw4 H, gw5 H, gw6 H, cl0, cl1, cl2, cl3, cl4, cl5, cl6, cI_e, cV_e, cA_e, cJ_e, lt_, nw_r, nw_u]
  rw [s_179 (fr := j + 1) H a1]
  simp only [gO_e (yt46 H), gV_e (yp46_36 H), gV_e (yp46_18 H), gV_e (yp46_19 H), gV_e (yp46_20 H), gV_e (yp46_37 H), gV_e (yp46_38 H), gV_e (yp46_39 H), gV_e (yp46_40 H), gV_e (yp46_43 H), gn0 H, gn1 H, gn2 H, gn3 H, gn4 H, gn5 H, gn6 H, gw0 H, gw1 H, gw2 H, gw3 H, gw4 H, gw5 H, gw6 H, cl0, cl1, cl2, cl3, cl4, cl5, cl6, cI_e, cV_e, cA_e, cJ_e, lt_, nw_r, nw_u, it_add]
  rw [gA_e (yt65 H) (Or.inl rfl) (ix (by omega) (by omega) (by omega)), it_cl (a := 70 + 8 * (((j + 1 : Nat) : Int) - 1) + 1) (by omega) (by omega), show (70 + 8 * (((j + 1 : Nat) : Int) - 1) + 1).toNat = 71 + 8 * j by omega, a8]
  rw [gA_e (yt59 H) (Or.inl rfl) (ix (by omega) (by omega) (by omega)), gA_e (yt60 H) (Or.inl rfl) (ix (by omega) (by omega) (by omega)), it_cl (a := (p : Int)) (by omega) (by omega), Int.toNat_natCast, nw_o (by omega), nw_o (by omega), (y3 p pN).1, (y3 p pN).2.1, hw]
  rfl
end STP

/-! proves -/
section SHEET
variable {K : Nat → Value} {B d s m a N F hi pr j f p b : Nat} {fa : Nat → Nat → Nat} {oc ar : Nat → Nat} {sh : Nat → List Nat} {rc : Nat → Bool} {w : aW} {I I' : aI} {J : aJ} {c n : Nat → Int32}
theorem shp {s : Nat} (H : Lay B w) (h : s < 4) : w.2.1 (B + 36) s = some (B + 38 + 2 * s) := by
  have : s = 0 ∨ s = 1 ∨ s = 2 ∨ s = 3 := by omega
  rcases this with rfl | rfl | rfl | rfl
  · exact yp36_0 H
  · exact yp36_1 H
  · exact yp36_2 H
  · exact yp36_3 H
theorem sht {s : Nat} (H : Lay B w) (h : s < 4) : w.1 (B + 38 + 2 * s) = some (3, 0) := by
  have : s = 0 ∨ s = 1 ∨ s = 2 ∨ s = 3 := by omega
  rcases this with rfl | rfl | rfl | rfl
  · exact yt38 H
  · exact yt40 H
  · exact yt42 H
  · exact yt44 H
theorem shn {s : Nat} (H : Lay B w) (h : s < 4) : w.2.1 (B + 38 + 2 * s) 0 = some (B + 39 + 2 * s) := by
  have : s = 0 ∨ s = 1 ∨ s = 2 ∨ s = 3 := by omega
  rcases this with rfl | rfl | rfl | rfl
  · exact yp38_0 H
  · exact yp40_0 H
  · exact yp42_0 H
  · exact yp44_0 H
theorem sha {s : Nat} (H : Lay B w) (h : s < 4) : w.1 (B + 39 + 2 * s) = some (10, 40) := by
  have : s = 0 ∨ s = 1 ∨ s = 2 ∨ s = 3 := by omega
  rcases this with rfl | rfl | rfl | rfl
  · exact yt39 H
  · exact yt41 H
  · exact yt43 H
  · exact yt45 H
theorem s_223 {z : Int} (z1 : -2147483648 ≤ z) (z2 : z < 2147483648) : Cl K (d + 1) 223 [.int (it z)] w I J = some (some (.int (bi (0 ≤ z ∧ z < 4))), w, I, J) := by
  apply cl_223 (k := 0)
  unfold f_223
  simp only [it_lit]
  by_cases h0 : z < 0
  · rw [if_pos ((it_lt (by omega) (by omega) (by omega) (by omega)).mpr (by omega)), bi_f (by omega)]
  · rw [if_neg (fun q => by have := (it_lt (by omega) (by omega) (by omega) (by omega)).mp q; omega)]
    by_cases h4 : 4 ≤ z
    · rw [if_pos ((it_le (by omega) (by omega) (by omega) (by omega)).mpr (by omega)), bi_f (by omega)]
    · rw [if_neg (fun q => by have := (it_le (by omega) (by omega) (by omega) (by omega)).mp q; omega), bi_t (by omega)]
theorem s_229 {z : Int} (z1 : -2147483648 ≤ z) (z2 : z < 2147483648) : Cl K (d + 2) 229 [.int (it z)] w I J = some (some (.int (bi (0 ≤ z ∧ z < 4))), w, I, J) := by
  apply cl_229 (k := 0)
  unfold f_229
  simp only [it_lit]
  rw [s_19i z1 z2 (by omega) (by omega) (by omega) (by omega)]
  simp only [cI_e]
  by_cases h : 0 ≤ z ∧ z < 4
  · rw [bi_t h, bi_t (show 0 ≤ z ∧ z ≤ 3 by omega), gC_e (Or.inr rfl)]
  · rw [bi_f h, bi_f (show ¬ (0 ≤ z ∧ z ≤ 3) by omega), gC_e (Or.inl rfl)]
theorem s_226 {q ln : Nat} {x y : Int} (ht : w.1 q = some (3, 0)) (hl : I q 2 = it ln) (l40 : ln ≤ 40) (x1 : -2147483648 ≤ x) (x2 : x < 2147483648) (y1 : -2147483648 ≤ y) (y2 : y < 2147483648) : Cl K (d + 1) 226 [.ref q, .int (it x), .int (it y)] w I J = some (some (.int (bi (0 ≤ x ∧ 0 ≤ y ∧ x + y ≤ ln))), w, I, J) := by
  apply cl_226 (k := 0)
  unfold f_226
  simp only [it_lit, gO_e ht, hl]
  by_cases h0 : x < 0
  · rw [if_pos ((it_lt (by omega) (by omega) (by omega) (by omega)).mpr (by omega)), bi_f (by omega)]
  · rw [if_neg (fun q => by have := (it_lt (by omega) (by omega) (by omega) (by omega)).mp q; omega)]
    by_cases h1 : y < 0
    · rw [if_pos ((it_lt (by omega) (by omega) (by omega) (by omega)).mpr (by omega)), bi_f (by omega)]
    · rw [if_neg (fun q => by have := (it_lt (by omega) (by omega) (by omega) (by omega)).mp q; omega)]
      by_cases h2 : (ln : Int) < x
      · rw [if_pos ((it_lt (by omega) (by omega) (by omega) (by omega)).mpr (by omega)), bi_f (by omega)]
      · rw [if_neg (fun q => by have := (it_lt (by omega) (by omega) (by omega) (by omega)).mp q; omega), it_sub]
        by_cases h3 : (ln : Int) - x < y
        · rw [if_pos ((it_lt (by omega) (by omega) (by omega) (by omega)).mpr (by omega)), bi_f (by omega)]
        · rw [if_neg (fun q => by have := (it_lt (by omega) (by omega) (by omega) (by omega)).mp q; omega), bi_t (by omega)]
theorem gY_e {α : Type} {q1 q2 n1 n2 : Nat} {sp dp m : Int32} {k : Option α} (h1 : w.1 q1 = some (10, n1)) (h2 : w.1 q2 = some (10, n2)) (hc : ¬ sp < 0 ∧ ¬ dp < 0 ∧ ¬ m < 0 ∧ sp.toNatClampNeg + m.toNatClampNeg ≤ n1 ∧ dp.toNatClampNeg + m.toNatClampNeg ≤ n2) : gY w q1 q2 sp dp m k = k := by
  unfold gY
  rw [h1, h2]
  simp only
  rw [if_pos ⟨trivial, trivial, hc⟩]
theorem s_224 (H : Lay B w) : Cl K (d + 1) 224 [.ref (B + 29)] w I J = some (none, w, sm_up1 I (B + 31) (fun k => if k < 327 then I (B + 30) k else I (B + 31) k), J) := by
  apply cl_224 (k := 0)
  unfold f_224
  simp only [gO_e (yt29 H), gV_e (yp29_1 H), gV_e (yp29_2 H), lt_]
  rw [gY_e (yt30 H) (yt31 H) ⟨by decide, by decide, by decide, by decide, by decide⟩]
  congr 4
  have c0 : (0 : Int32).toNatClampNeg = 0 := rfl
  have c3 : (327 : Int32).toNatClampNeg = 327 := by decide
  rw [c0, c3]
  congr 1
  funext k
  unfold va_cpy
  by_cases h : k < 327
  · rw [if_pos (by omega), if_pos h]; congr 1; omega
  · rw [if_neg (by omega), if_neg h]
theorem s_227 (H : Lay B w) : Cl K (d + 1) 227 [.ref (B + 29)] w I J = some (none, w, sm_up1 I (B + 30) (fun k => if k < 327 then I (B + 31) k else I (B + 30) k), J) := by
  apply cl_227 (k := 0)
  unfold f_227
  simp only [gO_e (yt29 H), gV_e (yp29_1 H), gV_e (yp29_2 H), lt_]
  rw [gY_e (yt31 H) (yt30 H) ⟨by decide, by decide, by decide, by decide, by decide⟩]
  congr 4
  have c0 : (0 : Int32).toNatClampNeg = 0 := rfl
  have c3 : (327 : Int32).toNatClampNeg = 327 := by decide
  rw [c0, c3]
  congr 1
  funext k
  unfold va_cpy
  by_cases h : k < 327
  · rw [if_pos (by omega), if_pos h]; congr 1; omega
  · rw [if_neg (by omega), if_neg h]
/-- the four numbers of a proof beside a sheet's -/
theorem inn {s sl at0 : Nat} {Ih : aI} {r2 : Nat → Nat → Int32 → aW → aI → aJ → Option aR} {r2' : Nat → Int32 → Int32 → aW → aI → aJ → Option aR} (H : Lay B w) (s4 : s < 4) (h7 : I (B + 29) 7 = it sl) (s32 : sl < 32) (a40 : at0 + 4 ≤ 40) (hx : ∀ k, k < 4 → I (B + 35) (4 * sl + k) = Ih (B + 69) k) (hn : ∀ i, i < 40 → I (B + 39 + 2 * s) i = Ih (B + 73) (40 * s + i)) : ∀ (m k kk kk' : Nat), k + m = 4 → m < kk → m < kk' →
    (∃ k', k' < 4 ∧ f_225_38 K kk (d + 1) r2 B (B + 38 + 2 * s) (it at0) (it k) w I J = some (some (.int (it ((at0 + k' : Nat) : Int))), w, I, J) ∧ f_230_51 K kk' (d + 1) r2' (B + 46) (it s) (it at0) (it k) w Ih J = some (some (.int (it ((at0 + k' : Nat) : Int))), w, Ih, J))
    ∨ (f_225_38 K kk (d + 1) r2 B (B + 38 + 2 * s) (it at0) (it k) w I J = r2 B (B + 38 + 2 * s) (it ((at0 + 4 : Nat) : Int)) w I J ∧ f_230_51 K kk' (d + 1) r2' (B + 46) (it s) (it at0) (it k) w Ih J = r2' (B + 46) (it s) (it ((at0 + 4 : Nat) : Int)) w Ih J) := by
  intro m
  induction m with
  | zero =>
    intro k kk kk' hk h1 h2
    obtain ⟨kk, rfl⟩ : ∃ k', kk = k' + 1 := ⟨kk - 1, by omega⟩
    obtain ⟨kk', rfl⟩ : ∃ k', kk' = k' + 1 := ⟨kk' - 1, by omega⟩
    refine Or.inr ⟨?_, ?_⟩
    · rw [f_225_38]
      simp only [it_lit, lt_, it_add]
      rw [if_pos ((it_le (by omega) (by omega) (by omega) (by omega)).mpr (by omega))]
      rfl
    · rw [f_230_51]
      simp only [it_lit, lt_, it_add]
      rw [if_pos ((it_le (by omega) (by omega) (by omega) (by omega)).mpr (by omega))]
      rfl
  | succ m ih =>
    intro k kk kk' hk h1 h2
    obtain ⟨kk, rfl⟩ : ∃ k', kk = k' + 1 := ⟨kk - 1, by omega⟩
    obtain ⟨kk', rfl⟩ : ∃ k', kk' = k' + 1 := ⟨kk' - 1, by omega⟩
    have c220 := s_220 (K := K) (d := d) (J := J) (i := 0) (k := k) H h7 s32 (by omega) (by omega)
    rw [show (sl + 32 - 0) % 32 = sl by omega, hx k (by omega)] at c220
    have pX : f_225_38 K (kk + 1) (d + 1) r2 B (B + 38 + 2 * s) (it at0) (it k) w I J = if Ih (B + 69) k = Ih (B + 73) (40 * s + at0 + k) then f_225_38 K kk (d + 1) r2 B (B + 38 + 2 * s) (it at0) (it (k + 1)) w I J else some (some (.int (it ((at0 + k : Nat) : Int))), w, I, J) := by
      rw [f_225_38]
      simp only [it_lit, lt_p, it_add, gO_e (yt H), gV_e (yp_4 H), gO_e (yt29 H)]
      have c220' : Cl K (d + 1) 220 [.ref (B + 29), .int (it 0), .int (it k)] w I J = some (some (.int (Ih (B + 69) k)), w, I, J) := c220
      rw [if_neg (fun q => by have := (it_le (by omega) (by omega) (by omega) (by omega)).mp q; omega), c220']
      simp only [cI_e, gO_e (sht H s4), gV_e (shn H s4)]
      rw [gA_e (sha H s4) (Or.inl rfl) (ix (by omega) (by omega) (by omega)), it_cl (a := (at0 : Int) + k) (by omega) (by omega), show ((at0 : Int) + k).toNat = at0 + k by omega, hn (at0 + k) (by omega), show 40 * s + (at0 + k) = 40 * s + at0 + k by omega]
      rfl
    have pM : f_230_51 K (kk' + 1) (d + 1) r2' (B + 46) (it s) (it at0) (it k) w Ih J = if Ih (B + 69) k = Ih (B + 73) (40 * s + at0 + k) then f_230_51 K kk' (d + 1) r2' (B + 46) (it s) (it at0) (it (k + 1)) w Ih J else some (some (.int (it ((at0 + k : Nat) : Int))), w, Ih, J) := by
      rw [f_230_51]
      simp only [it_lit, lt_p, it_add, it_mul, gO_e (yt46 H), gV_e (yp46_46 H), gV_e (yp46_40 H)]
      rw [if_neg (fun q => by have := (it_le (by omega) (by omega) (by omega) (by omega)).mp q; omega), gA_e (yt73 H) (Or.inl rfl) (ix (by omega) (by omega) (by omega)), gA_e (yt69 H) (Or.inl rfl) (ix (by omega) (by omega) (by omega)), it_cl (a := 40 * (s : Int) + at0 + k) (by omega) (by omega), show (40 * (s : Int) + at0 + k).toNat = 40 * s + at0 + k by omega, it_n (k := k) (by omega)]
      by_cases e : Ih (B + 69) k = Ih (B + 73) (40 * s + at0 + k)
      · rw [if_pos e.symm, if_pos e]
      · rw [if_neg (fun q => e q.symm), if_neg e]
        rfl
    by_cases e : Ih (B + 69) k = Ih (B + 73) (40 * s + at0 + k)
    · rw [pX, pM, if_pos e, if_pos e]
      exact ih (k + 1) kk kk' (by omega) (by omega) (by omega)
    · rw [pX, pM, if_neg e, if_neg e]
      exact Or.inl ⟨k, by omega, rfl, rfl⟩
/-- what the class's rows keep while a sheet is tried -/
def prf (B sl : Nat) (I1 I : aI) : Prop := (∀ b, ¬ b = B + 30 → ¬ (B + 32 ≤ b ∧ b ≤ B + 35) → I1 b = I b) ∧ (∀ i, ¬ i = sl → I1 (B + 32) i = I (B + 32) i) ∧ (∀ i, (i < 36 * sl ∨ 36 * sl + 36 ≤ i) → I1 (B + 33) i = I (B + 33) i ∧ I1 (B + 34) i = I (B + 34) i) ∧ (∀ i, (i < 4 * sl ∨ 4 * sl + 4 ≤ i) → I1 (B + 35) i = I (B + 35) i) ∧ ∀ i, 327 ≤ i → I1 (B + 30) i = I (B + 30) i
theorem prf_t {sl : Nat} {I1 I2 : aI} (h1 : prf B sl I2 I1) (h2 : prf B sl I1 I) : prf B sl I2 I :=
  ⟨fun b b1 b2 => (h1.1 b b1 b2).trans (h2.1 b b1 b2), fun i hi => (h1.2.1 i hi).trans (h2.2.1 i hi), fun i hi => ⟨((h1.2.2.1 i hi).1).trans (h2.2.2.1 i hi).1, ((h1.2.2.1 i hi).2).trans (h2.2.2.1 i hi).2⟩, fun i hi => (h1.2.2.2.1 i hi).trans (h2.2.2.2.1 i hi), fun i hi => (h1.2.2.2.2 i hi).trans (h2.2.2.2.2 i hi)⟩
theorem prf_r {sl : Nat} : prf B sl I I := ⟨fun _ _ _ => rfl, fun _ _ => rfl, fun _ _ => ⟨rfl, rfl⟩, fun _ _ => rfl, fun _ _ => rfl⟩
/-- a step that is only tried -/
theorem pv_go {sl : Nat} {Ih : aI} (H : Lay B w) (hp : w.2.1 (B + 29) 0 = some a) (ha : a = B + 8 ∨ a = B + 22) (TC : gTC (N, F, fa, oc, ar, sh, rc)) (gx : gX (N, F, fa, oc, ar, sh, rc) a I J) (gm : gM (N, F, fa, oc, ar, sh, rc) B Ih) (h7 : I (B + 29) 7 = it sl) (s32 : sl < 32) (R : mRel fa (I (B + 30)) (Ih (B + 65))) (M : mOK (N, F, fa, oc, ar, sh, rc) (Ih (B + 65))) (n0 : Ih (B + 65) 0 = it 0) :
    (∃ I1 I2 : aI, Cl K (d + 6) 143 [.ref (B + 29)] w I J = some (some (.int (it 1)), w, I1, J) ∧ Cl K (d + 6) 178 [.ref (B + 46)] w Ih J = some (some (.int (it 1)), w, I2, J) ∧ prf B sl I1 I ∧ (∀ b, ¬ b = B + 65 → ¬ b = B + 69 → ¬ b = B + 70 → I2 b = Ih b) ∧ mRel fa (I1 (B + 30)) (I2 (B + 65)) ∧ mOK (N, F, fa, oc, ar, sh, rc) (I2 (B + 65)) ∧ ∀ k, k < 4 → I1 (B + 35) (4 * sl + k) = I2 (B + 69) k)
    ∨ (∃ I1 I2 : aI, Cl K (d + 6) 143 [.ref (B + 29)] w I J = some (some (.int (it 0)), w, I1, J) ∧ Cl K (d + 6) 178 [.ref (B + 46)] w Ih J = some (some (.int (it 0)), w, I2, J) ∧ prf B sl I1 I ∧ (∀ b, ¬ b = B + 65 → ¬ b = B + 69 → ¬ b = B + 70 → I2 b = Ih b)) := by
  have ea : nw B (Ih (B + 65)) Ih = Ih := nw_id
  have hX0 : sm_up2 I (B + 32) sl (it 0) (B + 30) = I (B + 30) := up2_n (by omega)
  have prw : ∀ ws : List (Nat × Int32), ws.length ≤ 35 → (∀ e ∈ ws, e.1 < 327) → prf B sl (wrs B sl 1 ws (att0 B sl I)) I := by
    intro ws l35 wb
    have X1 := (att0_X (I := I) h7 s32).wrs ws
    have wb' : ∀ e ∈ ((2, I (B + 30) 2) :: ws), e.1 < 327 := fun e he => by
      rcases List.mem_cons.mp he with rfl | he
      · dsimp only; omega
      · exact wb e he
    obtain ⟨q1, q2, q3, q4, q5⟩ := wrs_nd (B := B) (s := sl) ((2, I (B + 30) 2) :: ws) (m := 0) (I := sm_up2 I (B + 32) sl (it 0)) (I (B + 30)) hX0 wb'
    have hw : wrs B sl 0 ((2, I (B + 30) 2) :: ws) (sm_up2 I (B + 32) sl (it 0)) = wrs B sl 1 ws (att0 B sl I) := rfl
    have hl : ((2, I (B + 30) 2) :: ws).length = ws.length + 1 := rfl
    rw [hw] at q4 q5
    rw [hl] at q4
    refine ⟨fun b b1 b2 => ?_, fun i hi => ?_, fun i hi => ?_, fun i hi => ?_, fun i hi => ?_⟩
    · rw [wrs_o b1 (by omega) (by omega) (by omega), att0_o b1 (by omega) (by omega) (by omega)]
    · rw [q5 i hi, up2_r, up1_n hi]
    · have := q4 i (by omega)
      rw [up2_n (by omega), up2_n (by omega)] at this
      exact this
    · rw [wrs_o (by omega) (by omega) (by omega) (by omega), att0_o (by omega) (by omega) (by omega) (by omega)]
    · rw [X1.2.2.2, ap_o (fun e he => by have := wb e he; omega)]
  rcases stp (K := K) (d := d) H hp ha TC gx ⟨Ih, gm⟩ M R n0 h7 s32 with ⟨ws, n', x0, x1, x2, x3, l35, wb, c143, R', M', hM⟩ | ⟨ws, n', hc, c143, l35, wb, w2, R', M', nz, hM⟩
  · obtain ⟨Ib, c178, d2, d3, d4, d5, d6, d7⟩ := hM Ih gm
    rw [ea] at c178
    have X1 := (att0_X (I := I) h7 s32).wrs ws
    have p0 := prw ws l35 wb
    refine Or.inl ⟨_, Ib, c143, c178, ⟨fun b b1 b2 => ?_, fun i hi => ?_, fun i hi => ?_, fun i hi => ?_, fun i hi => ?_⟩, d7, ?_, by rw [d2]; exact M', fun k hk => ?_⟩
    · rw [pfr_o (by omega)]; exact p0.1 b b1 b2
    · rw [pfr_o (by omega)]; exact p0.2.1 i hi
    · rw [pfr_o (by omega), pfr_o (by omega)]; exact p0.2.2.1 i hi
    · unfold pfr
      simp only [up2_r]
      rw [up1_n (by omega), up1_n (by omega), up1_n (by omega), up1_n (by omega)]
      exact p0.2.2.2.1 i hi
    · rw [pfr_o (by omega)]; exact p0.2.2.2.2 i hi
    · rw [pfr_o (by omega), X1.2.2.2, d2]; exact R'
    · unfold pfr
      simp only [up2_r]
      have h4 : k = 0 ∨ k = 1 ∨ k = 2 ∨ k = 3 := by omega
      rcases h4 with rfl | rfl | rfl | rfl
      · rw [up1_n (by omega), up1_n (by omega), up1_n (by omega)]
        exact (up1_s _ _ _).trans d3.symm
      · rw [up1_n (by omega), up1_n (by omega), up1_s, d4]
      · rw [up1_n (by omega), up1_s, d5]
      · rw [up1_s, d6]
  · obtain ⟨Ib, c178, d2, d7⟩ := hM Ih gm
    rw [ea] at c178
    have p0 := prw ws l35 wb
    refine Or.inr ⟨_, Ib, c143, c178, ⟨fun b b1 b2 => ?_, fun i hi => ?_, fun i hi => ?_, fun i hi => ?_, fun i hi => ?_⟩, d7⟩
    · rw [up2_n b1]; exact p0.1 b b1 b2
    · rw [up2_n (by omega)]; exact p0.2.1 i hi
    · rw [up2_n (by omega), up2_n (by omega)]; exact p0.2.2.1 i hi
    · rw [up2_n (by omega)]; exact p0.2.2.2.1 i hi
    · rw [up2_r, up1_n (by omega)]; exact p0.2.2.2.2 i hi
theorem lp_pv {s sl ln : Nat} (H : Lay B w) (hp : w.2.1 (B + 29) 0 = some a) (ha : a = B + 8 ∨ a = B + 22) (TC : gTC (N, F, fa, oc, ar, sh, rc)) (s4 : s < 4) (s32 : sl < 32) (l40 : ln ≤ 40) : ∀ (q at0 : Nat) (I Ih : aI), ln ≤ at0 + 4 * q → gX (N, F, fa, oc, ar, sh, rc) a I J → gM (N, F, fa, oc, ar, sh, rc) B Ih → I (B + 29) 7 = it sl → mRel fa (I (B + 30)) (Ih (B + 65)) → mOK (N, F, fa, oc, ar, sh, rc) (Ih (B + 65)) → I (B + 38 + 2 * s) 2 = it ln → Ih (B + 72) s = it ln → (∀ i, i < 40 → I (B + 39 + 2 * s) i = Ih (B + 73) (40 * s + i)) → at0 ≤ 44 →
    ∃ (v : Int32) (I1 I2 : aI), f_225_2 K (q + 6) (d + 6) B (B + 38 + 2 * s) (it at0) w I J = some (some (.int v), w, I1, J) ∧ f_230_2 K (q + 6) (d + 6) (B + 46) (it s) (it at0) w Ih J = some (some (.int v), w, I2, J) ∧ prf B sl I1 I ∧ ∀ b, ¬ b = B + 65 → ¬ b = B + 69 → ¬ b = B + 70 → I2 b = Ih b := by
  intro q
  induction q with
  | zero =>
    intro at0 I Ih hq gx gm h7 R M hl hl' hn a44
    refine ⟨- it 1, I, Ih, ?_, ?_, prf_r, fun _ _ _ _ => rfl⟩
    · rw [f_225_2]
      simp only [it_lit, lt_p, gO_e (sht H s4), hl]
      rw [if_pos ((it_le (by omega) (by omega) (by omega) (by omega)).mpr (by omega))]
    · rw [f_230_2]
      simp only [it_lit, lt_p, gO_e (yt46 H), gV_e (yp46_45 H)]
      rw [gA_e (yt72 H) (Or.inl rfl) (ix (by omega) (by omega) (by omega)), it_n (k := s) (by omega), hl', if_pos ((it_le (by omega) (by omega) (by omega) (by omega)).mpr (by omega))]
  | succ q ih =>
    intro at0 I Ih hq gx gm h7 R M hl hl' hn a44
    have pX : f_225_2 K (q + 1 + 6) (d + 6) B (B + 38 + 2 * s) (it at0) w I J = if it (ln : Int) ≤ it at0 then some (some (.int (- it 1)), w, I, J) else cI (Cl K (d + 6) 226 [.ref (B + 38 + 2 * s), .int (it at0), .int (it 4)] w I J) fun x_4 w_1 I_2 J_3 => if ¬ x_4 = it 0 then gO w_1 5 B (gV w_1 B 4 fun q_5 => gO w_1 0 q_5 (cI (Cl K (d + 6) 143 [.ref q_5] w_1 I_2 J_3) fun x_9 w_6 I_7 J_8 => if ¬ x_9 = it 0 then f_225_38 K (q + 6) (d + 6) (f_225_2 K (q + 6) (d + 6)) B (B + 38 + 2 * s) (it at0) (it 0) w_6 I_7 J_8 else some (some (.int (it at0)), w_6, I_7, J_8))) else gO w_1 3 (B + 38 + 2 * s) (some (some (.int (I_2 (B + 38 + 2 * s) 2)), w_1, I_2, J_3)) := by
      rw [show q + 1 + 6 = (q + 6) + 1 by omega, f_225_2]
      simp only [it_lit, lt_p, gO_e (sht H s4), hl]
    have pM : f_230_2 K (q + 1 + 6) (d + 6) (B + 46) (it s) (it at0) w Ih J = if it (ln : Int) ≤ it at0 then some (some (.int (- it 1)), w, Ih, J) else if it (at0 + 4) ≤ it (ln : Int) then (if ¬ Ih (B + 65) 0 = it 0 then some (some (.int (it at0)), w, Ih, J) else cI (Cl K (d + 6) 178 [.ref (B + 46)] w Ih J) fun x_7 w_4 I_5 J_6 => if ¬ x_7 = it 0 then f_230_51 K (q + 6) (d + 6) (f_230_2 K (q + 6) (d + 6)) (B + 46) (it s) (it at0) (it 0) w_4 I_5 J_6 else some (some (.int (it at0)), w_4, I_5, J_6)) else some (some (.int (it ln)), w, Ih, J) := by
      rw [show q + 1 + 6 = (q + 6) + 1 by omega, f_230_2]
      unfold f_230_47
      simp only [it_lit, lt_p, it_add, gO_e (yt46 H), gV_e (yp46_45 H), gV_e (yp46_36 H), gn0 H, cl0]
      rw [gA_e (yt72 H) (Or.inl rfl) (ix (by omega) (by omega) (by omega)), gA_e (yt72 H) (Or.inl rfl) (ix (by omega) (by omega) (by omega)), gA_e (yt72 H) (Or.inl rfl) (ix (by omega) (by omega) (by omega)), it_n (k := s) (by omega), hl']
    by_cases hend : ln ≤ at0
    · refine ⟨- it 1, I, Ih, ?_, ?_, prf_r, fun _ _ _ _ => rfl⟩
      · rw [pX, if_pos ((it_le (by omega) (by omega) (by omega) (by omega)).mpr (by omega))]
      · rw [pM, if_pos ((it_le (by omega) (by omega) (by omega) (by omega)).mpr (by omega))]
    · have c226 := s_226 (K := K) (d := d + 5) (J := J) (x := (at0 : Int)) (y := 4) (sht H s4) hl l40 (by omega) (by omega) (by omega) (by omega)
      by_cases hw : at0 + 4 ≤ ln
      · by_cases n0 : Ih (B + 65) 0 = it 0
        · rcases pv_go (K := K) (d := d) H hp ha TC gx gm h7 s32 R M n0 with ⟨I1, I2, c1, c2, c3, c4, c5, c6, c7⟩ | ⟨I1, I2, c1, c2, c3, c4⟩
          · have e46 : I1 (B + 39 + 2 * s) = I (B + 39 + 2 * s) := c3.1 _ (by omega) (by omega)
            have e45 : I1 (B + 38 + 2 * s) = I (B + 38 + 2 * s) := c3.1 _ (by omega) (by omega)
            have e80 : I2 (B + 73) = Ih (B + 73) := c4 _ (by omega) (by omega) (by omega)
            have e79 : I2 (B + 72) = Ih (B + 72) := c4 _ (by omega) (by omega) (by omega)
            have e29 : I1 (B + 29) 7 = it sl := by rw [c3.1 _ (by omega) (by omega)]; exact h7
            have hn' : ∀ i, i < 40 → I1 (B + 39 + 2 * s) i = I2 (B + 73) (40 * s + i) := fun i hi => by rw [e46, e80]; exact hn i hi
            have qX : f_225_2 K (q + 1 + 6) (d + 6) B (B + 38 + 2 * s) (it at0) w I J = f_225_38 K (q + 6) (d + 6) (f_225_2 K (q + 6) (d + 6)) B (B + 38 + 2 * s) (it at0) (it ((0 : Nat) : Int)) w I1 J := by
              rw [pX, if_neg (fun q => by have := (it_le (by omega) (by omega) (by omega) (by omega)).mp q; omega), c226]
              simp only [cI_e]
              rw [if_pos (by rw [bi_t (by omega)]; decide), gO_e (yt H), gV_e (yp_4 H), gO_e (yt29 H), c1]
              simp only [cI_e]
              rw [if_pos (by decide)]
              rfl
            have qM : f_230_2 K (q + 1 + 6) (d + 6) (B + 46) (it s) (it at0) w Ih J = f_230_51 K (q + 6) (d + 6) (f_230_2 K (q + 6) (d + 6)) (B + 46) (it s) (it at0) (it ((0 : Nat) : Int)) w I2 J := by
              rw [pM, if_neg (fun q => by have := (it_le (by omega) (by omega) (by omega) (by omega)).mp q; omega), if_pos ((it_le (by omega) (by omega) (by omega) (by omega)).mpr (by omega)), if_neg (fun q => q n0), c2]
              simp only [cI_e]
              rw [if_pos (by decide)]
              rfl
            rcases inn (K := K) (d := d + 5) (J := J) (r2 := f_225_2 K (q + 6) (d + 6)) (r2' := f_230_2 K (q + 6) (d + 6)) (at0 := at0) H s4 e29 s32 (by omega) c7 hn' 4 0 (q + 6) (q + 6) (by omega) (by omega) (by omega) with ⟨k', k4, r1, r2⟩ | ⟨r1, r2⟩
            · exact ⟨_, I1, I2, qX.trans r1, qM.trans r2, c3, c4⟩
            · obtain ⟨v, I3, I4, t1, t2, t3, t4⟩ := ih (at0 + 4) I1 I2 (by omega) (gX_c ha (fun b b1 b2 => c3.1 b (by omega) (by omega)) gx) (gM_c (I := Ih) (fun b hb => c4 b (by omega) (by omega) (by omega)) gm) e29 c5 c6 (by rw [e45]; exact hl) (by rw [e79]; exact hl') hn' (by omega)
              exact ⟨v, I3, I4, (qX.trans r1).trans t1, (qM.trans r2).trans t2, prf_t t3 c3, fun b b1 b2 b3 => (t4 b b1 b2 b3).trans (c4 b b1 b2 b3)⟩
          · refine ⟨it at0, I1, I2, ?_, ?_, c3, c4⟩
            · rw [pX, if_neg (fun q => by have := (it_le (by omega) (by omega) (by omega) (by omega)).mp q; omega), c226]
              simp only [cI_e]
              rw [if_pos (by rw [bi_t (by omega)]; decide), gO_e (yt H), gV_e (yp_4 H), gO_e (yt29 H), c1]
              simp only [cI_e]
              rw [if_neg (by decide)]
            · rw [pM, if_neg (fun q => by have := (it_le (by omega) (by omega) (by omega) (by omega)).mp q; omega), if_pos ((it_le (by omega) (by omega) (by omega) (by omega)).mpr (by omega)), if_neg (fun q => q n0), c2]
              simp only [cI_e]
              rw [if_neg (by decide)]
        · refine ⟨it at0, I, Ih, ?_, ?_, prf_r, fun _ _ _ _ => rfl⟩
          · rw [pX, if_neg (fun q => by have := (it_le (by omega) (by omega) (by omega) (by omega)).mp q; omega), c226]
            simp only [cI_e]
            rw [if_pos (by rw [bi_t (by omega)]; decide), gO_e (yt H), gV_e (yp_4 H), gO_e (yt29 H), s_143h (d := d + 4) H (by rw [R.1]; exact n0)]
            simp only [cI_e]
            rw [if_neg (by decide)]
          · rw [pM, if_neg (fun q => by have := (it_le (by omega) (by omega) (by omega) (by omega)).mp q; omega), if_pos ((it_le (by omega) (by omega) (by omega) (by omega)).mpr (by omega)), if_pos n0]
      · refine ⟨it ln, I, Ih, ?_, ?_, prf_r, fun _ _ _ _ => rfl⟩
        · rw [pX, if_neg (fun q => by have := (it_le (by omega) (by omega) (by omega) (by omega)).mp q; omega), c226]
          simp only [cI_e]
          rw [if_neg (by rw [bi_f (by omega)]; decide), gO_e (sht H s4), hl]
        · rw [pM, if_neg (fun q => by have := (it_le (by omega) (by omega) (by omega) (by omega)).mp q; omega), if_neg (fun q => by have := (it_le (by omega) (by omega) (by omega) (by omega)).mp q; omega)]
end SHEET

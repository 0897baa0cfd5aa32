/-! what the class writes while it reads an E -/
section CEM
variable {K : Nat → Value} {B d a : Nat} {w : aW} {I : aI} {J : aJ} {bs : Nat → Nat} {t n c r h N : Nat} {nf tf : Int}
/-- a row of longs; of the shapes by height only the lowest -/
def jv (B : Nat) (J : aJ) (b : Nat) : Nat → Int64 := fun k => if b = B + 18 ∧ ¬ k = 0 then 0 else J b k
theorem jv_n {b : Nat} (h : ¬ b = B + 18) : jv B J b = J b := by funext k; unfold jv; rw [if_neg (fun z => h z.1)]
theorem jv_0 : jv B J (B + 18) 0 = J (B + 18) 0 := if_neg (fun z => z.2 rfl)
theorem jv_c {b : Nat} {J' : aJ} (h0 : J' (B + 18) 0 = J (B + 18) 0) (h : ¬ b = B + 18 → J' b = J b) : jv B J' b = jv B J b := by
  by_cases e : b = B + 18
  · subst e
    funext k
    unfold jv
    by_cases z : k = 0
    · subst z
      rw [if_neg (fun z => z.2 rfl), if_neg (fun z => z.2 rfl)]
      exact h0
    · rw [if_pos ⟨rfl, z⟩, if_pos ⟨rfl, z⟩]
  · rw [jv_n e, jv_n e, h e]
/-- what an E of the class may change -/
def FEx (B a : Nat) (I : aI) (J : aJ) (I' : aI) (J' : aJ) : Prop := (∀ b, ¬ b = B + 2 → ¬ b = B + 3 → ¬ b = B + 17 → ¬ b = a → ¬ b = a + 1 → ¬ b = a + 2 → I' b = I b) ∧ (∀ k, ¬ k = 6 → ¬ k = 7 → ¬ k = 8 → I' (B + 2) k = I (B + 2) k) ∧ (∀ k, ¬ k = 6 → I' a k = I a k) ∧ (∀ b, ¬ b = a + 3 → ¬ b = a + 3 → jv B J' b = jv B J b)
theorem FEx_r : FEx B a I J I J := ⟨fun _ _ _ _ _ _ _ => rfl, fun _ _ _ _ => rfl, fun _ _ => rfl, fun _ _ _ => rfl⟩
theorem FEx_t {I' I'' : aI} {J' J'' : aJ} (h1 : FEx B a I J I' J') (h2 : FEx B a I' J' I'' J'') : FEx B a I J I'' J'' := ⟨fun b a1 a2 a3 a4 a5 a6 => (h2.1 b a1 a2 a3 a4 a5 a6).trans (h1.1 b a1 a2 a3 a4 a5 a6), fun k a1 a2 a3 => (h2.2.1 k a1 a2 a3).trans (h1.2.1 k a1 a2 a3), fun k a1 => (h2.2.2.1 k a1).trans (h1.2.2.1 k a1), fun b a1 a2 => (h2.2.2.2 b a1 a2).trans (h1.2.2.2 b a1 a2)⟩
/-- the class at an E: token c, refused r, h values, N places, faults -/
def XE (B a : Nat) (bs : Nat → Nat) (t n c r h N : Nat) (nf tf : Int) (I : aI) : Prop := XT B bs t n c r I ∧ I (B + 2) 6 = it nf ∧ -1 ≤ nf ∧ nf ≤ 240 ∧ I (B + 2) 7 = it tf ∧ -1 ≤ tf ∧ tf ≤ 240 ∧ I (B + 2) 8 = it h ∧ h ≤ 128 ∧ I a 6 = it N ∧ N ≤ 1000
theorem FX3_E (ha : a = B + 8 ∨ a = B + 22) {I' : aI} (h : FX3 B I I') : FEx B a I J I' J := ⟨fun b _ a2 _ _ _ _ => h b a2, fun k _ _ _ => by rw [h (B + 2) (by omega)], fun k _ => by rw [h a (by omega)], fun _ _ _ => rfl⟩
theorem XE_3 (ha : a = B + 8 ∨ a = B + 22) {I' : aI} {c' r' : Nat} (hE : XE B a bs t n c r h N nf tf I) (h3 : FX3 B I I') (hT : XT B bs t n c' r' I') : XE B a bs t n c' r' h N nf tf I' := by
  obtain ⟨_, x⟩ := hE
  refine ⟨hT, ?_⟩
  rw [h3 (B + 2) (by omega), h3 a (by omega)]
  exact x
theorem XT_f {I I' : aI} (h3 : I' (B + 3) = I (B + 3)) (h4 : I' (B + 4) = I (B + 4)) (h5 : I' (B + 5) = I (B + 5)) (h6 : I' (B + 6) = I (B + 6)) (hT : XT B bs t n c r I) : XT B bs t n c r I' := by
  unfold XT TS at hT ⊢
  rw [h3, h4, h5, h6]
  exact hT
/-- the least of two faults -/
def mnf (x y : Int) : Int := if x < 0 then y else if y < x then y else x
theorem s_48 {p : Nat} (ha : a = B + 8 ∨ a = B + 22) (H : Lay B w) (hE : XE B a bs t n c r h N nf tf I) (hp : p ≤ 240) : ∃ I', Cl K (d + 1) 48 [.ref (B + 2), .int (it p)] w I J = some (none, w, I', J) ∧ FEx B a I J I' J ∧ XE B a bs t n c r h N (mnf nf p) tf I' ∧ I' (B + 17) = I (B + 17) ∧ I' (a + 1) = I (a + 1) ∧ I' (a + 2) = I (a + 2) := by
  obtain ⟨hT, h6, n1, n2, h7, t1, t2, h8, hh, hN, N1⟩ := hE
  refine ⟨sm_up2 I (B + 2) 6 (it (mnf nf p)), ?_, ⟨fun b a1 _ _ _ _ _ => up2_n a1, fun k a1 _ _ => by rw [up2_r, up1_n a1], fun k _ => by rw [up2_n (by omega)], fun _ _ _ => rfl⟩, ⟨XT_f (up2_n (by omega)) (up2_n (by omega)) (up2_n (by omega)) (up2_n (by omega)) hT, by rw [up2_r, up1_s], ?_, ?_, by rw [up2_r, up1_n (by omega)]; exact h7, t1, t2, by rw [up2_r, up1_n (by omega)]; exact h8, hh, by rw [up2_n (by omega)]; exact hN, N1⟩, up2_n (by omega), up2_n (by omega), up2_n (by omega)⟩
  · apply cl_48 (k := 0)
    unfold f_48
    simp only [it_lit, gO_e (yt2 H)]
    rw [h6]
    unfold f_48_20 mnf
    simp only [gO_e (yt2 H), lt_p]
    by_cases e : nf < 0
    · rw [if_neg (fun q => by have := (it_le (by omega) (by omega) (by omega) (by omega)).mp q; omega), if_pos e]
    · rw [if_pos ((it_le (by omega) (by omega) (by omega) (by omega)).mpr (by omega)), if_neg e]
      by_cases e2 : (p : Int) < nf
      · rw [if_pos ((it_lt (by omega) (by omega) (by omega) (by omega)).mpr (by omega)), if_pos e2]
      · rw [if_neg (fun q => by have := (it_lt (by omega) (by omega) (by omega) (by omega)).mp q; omega), if_neg e2]
  · unfold mnf; split <;> (try split) <;> omega
  · unfold mnf; split <;> (try split) <;> omega
theorem s_68 {p : Nat} (q : Prop) [Decidable q] (ha : a = B + 8 ∨ a = B + 22) (H : Lay B w) (hE : XE B a bs t n c r h N nf tf I) (hp : p ≤ 240) : ∃ I', Cl K (d + 1) 68 [.ref (B + 2), .int (it (if q then 1 else 0)), .int (it p)] w I J = some (none, w, I', J) ∧ FEx B a I J I' J ∧ XE B a bs t n c r h N nf (if ¬ q ∧ tf < 0 then p else tf) I' ∧ I' (B + 17) = I (B + 17) ∧ I' (a + 1) = I (a + 1) ∧ I' (a + 2) = I (a + 2) := by
  have hE' := hE
  obtain ⟨hT, h6, n1, n2, h7, t1, t2, h8, hh, hN, N1⟩ := hE'
  by_cases e : ¬ q ∧ tf < 0
  · rw [if_pos e]
    refine ⟨sm_up2 I (B + 2) 7 (it p), ?_, ⟨fun b a1 _ _ _ _ _ => up2_n a1, fun k _ a1 _ => by rw [up2_r, up1_n a1], fun k _ => by rw [up2_n (by omega)], fun _ _ _ => rfl⟩, ⟨XT_f (up2_n (by omega)) (up2_n (by omega)) (up2_n (by omega)) (up2_n (by omega)) hT, by rw [up2_r, up1_n (by omega)]; exact h6, n1, n2, by rw [up2_r, up1_s], by omega, by omega, by rw [up2_r, up1_n (by omega)]; exact h8, hh, by rw [up2_n (by omega)]; exact hN, N1⟩, up2_n (by omega), up2_n (by omega), up2_n (by omega)⟩
    apply cl_68 (k := 0)
    unfold f_68
    simp only [it_lit, gO_e (yt2 H), lt_p]
    rw [if_neg e.1, if_neg (fun q => q rfl), h7, if_neg (fun q => by have := (it_le (by omega) (by omega) (by omega) (by omega)).mp q; omega)]
  · rw [if_neg e]
    refine ⟨I, ?_, FEx_r, hE, rfl, rfl, rfl⟩
    apply cl_68 (k := 0)
    unfold f_68
    simp only [it_lit, gO_e (yt2 H), lt_p]
    by_cases e2 : q
    · rw [if_pos e2, if_pos (by decide)]
    · have ht : ¬ tf < 0 := fun q => e ⟨e2, q⟩
      rw [if_neg e2, if_neg (fun q => q rfl), h7, if_pos ((it_le (by omega) (by omega) (by omega) (by omega)).mpr (by omega))]
/-- the type at i from the top -/
theorem s_67 {i : Nat} (H : Lay B w) (hE : XE B a bs t n c r h N nf tf I) (i1 : 1 ≤ i) (i2 : i < 1000) : Cl K (d + 1) 67 [.ref (B + 2), .int (it i)] w I J = some (some (.int (if i ≤ h then I (B + 17) (h - i) else it (-1))), w, I, J) := by
  obtain ⟨hT, h6, n1, n2, h7, t1, t2, h8, hh, hN, N1⟩ := hE
  apply cl_67 (k := 0)
  unfold f_67
  simp only [it_lit, it_neg, gO_e (yt2 H), gV_e (yp2_9 H), h8]
  rw [if_neg (fun q => by have := (it_lt (by omega) (by omega) (by omega) (by omega)).mp q; omega)]
  by_cases e : i ≤ h
  · rw [if_neg (fun q => by have := (it_lt (by omega) (by omega) (by omega) (by omega)).mp q; omega), it_sub, gA_e (yt17 H) (Or.inl rfl) (ix (by omega) (by omega) (by omega)), if_pos e, it_cl (by omega) (by omega), show ((h : Int) - (i : Int)).toNat = h - i by omega]
  · rw [if_pos ((it_lt (by omega) (by omega) (by omega) (by omega)).mpr (by omega)), if_neg e]
/-- the class puts a place -/
def eI (a N : Nat) (o g : Int32) (I : aI) : aI := sm_up2 (if N < 200 then sm_up2 (sm_up2 I (a + 1) N o) (a + 2) N g else I) a 6 (it ((N + 1 : Nat) : Int))
def eJ (a N : Nat) (s : Int64) (J : aJ) : aJ := if N < 200 then sm_up2 J (a + 3) N s else J
theorem s_59 {o g : Int32} {s : Int64} (hP : PL w a) (hN : I a 6 = it N) (N1 : N ≤ 1000) : Cl K (d + 1) 59 [.ref a, .int o, .int g, .long s] w I J = some (none, w, eI a N o g I, eJ a N s J) := by
  obtain ⟨p0, p1, p2, p3, p4, p5, p6, q0, q1, q2, q3, q4, q5⟩ := hP
  apply cl_59 (k := 0)
  unfold f_59 eI eJ
  simp only [it_lit, gO_e p0, gV_e q0, gV_e q1, gV_e q2, lt_p]
  rw [hN]
  by_cases e : N < 200
  · rw [if_neg (fun q => by have := (it_le (by omega) (by omega) (by omega) (by omega)).mp q; omega), if_pos e, if_pos e, gA_e p1 (Or.inl rfl) (ix (by omega) (by omega) (by omega)), it_n (by omega)]
    rw [up2_n (a := a + 1) (b := a) (by omega), hN, gA_e p2 (Or.inl rfl) (ix (by omega) (by omega) (by omega)), it_n (by omega)]
    rw [up2_n (a := a + 2) (b := a) (by omega), up2_n (a := a + 1) (b := a) (by omega), hN, gA_e p3 (Or.inl rfl) (ix (by omega) (by omega) (by omega)), it_n (by omega)]
    unfold f_59_40
    simp only [it_lit, gO_e p0, lt_p]
    rw [up2_n (a := a + 2) (b := a) (by omega), up2_n (a := a + 1) (b := a) (by omega), hN, it_add]
    rfl
  · rw [if_pos ((it_le (by omega) (by omega) (by omega) (by omega)).mpr (by omega)), if_neg e, if_neg e]
    unfold f_59_40
    simp only [it_lit, gO_e p0, lt_p]
    rw [hN, it_add]
    rfl
theorem eI_n {o g : Int32} {b : Nat} (h0 : ¬ b = a) (h1 : ¬ b = a + 1) (h2 : ¬ b = a + 2) : eI a N o g I b = I b := by
  unfold eI
  rw [up2_n h0]
  split
  · rw [up2_n h2, up2_n h1]
  · rfl
theorem eI_k {o g : Int32} {k : Nat} (h : ¬ k = 6) : eI a N o g I a k = I a k := by
  unfold eI
  rw [up2_r, up1_n h]
  split
  · rw [up2_n (by omega), up2_n (by omega)]
  · rfl
theorem eI_6 {o g : Int32} : eI a N o g I a 6 = it ((N + 1 : Nat) : Int) := by
  unfold eI
  rw [up2_r, up1_s]
theorem eI_1 {o g : Int32} {p : Nat} (h : p < 200) : eI a N o g I (a + 1) p = (if p = N then o else I (a + 1) p) ∧ eI a N o g I (a + 2) p = if p = N then g else I (a + 2) p := by
  unfold eI
  rw [up2_n (by omega), up2_n (by omega)]
  by_cases e : N < 200
  · rw [if_pos e, up2_n (a := a + 2) (b := a + 1) (by omega), up2_r, up2_r, up2_n (a := a + 1) (b := a + 2) (by omega)]
    exact ⟨rfl, rfl⟩
  · rw [if_neg e, if_neg (by omega), if_neg (by omega)]
    exact ⟨rfl, rfl⟩
theorem eJ_1 {s : Int64} {p : Nat} (h : p < 200) : eJ a N s J (a + 3) p = if p = N then s else J (a + 3) p := by
  unfold eJ
  by_cases e : N < 200
  · rw [if_pos e, up2_r]; rfl
  · rw [if_neg e, if_neg (by omega)]
theorem eJ_n {s : Int64} {b : Nat} (h : ¬ b = a + 3) : eJ a N s J b = J b := by
  unfold eJ
  split
  · rw [up2_n h]
  · rfl
/-- the code so far and the stack now, as the class has them -/
def CX (B a N : Nat) (oc ar : Nat → Nat) (sh : Nat → List Nat) (h : Nat) (I : aI) (J : aJ) : Prop := h = (sh N).length ∧ (∀ i, i < h → I (B + 17) i = it ((sh N).reverse.getD i 0 : Nat)) ∧ (∀ i, i ≤ h → J (B + 18) i = gPk ((sh N).drop (h - i))) ∧ ∀ p, p < N → p < 200 → I (a + 1) p = it (oc p) ∧ I (a + 2) p = it (ar p) ∧ J (a + 3) p = gPk (sh p)
end CEM

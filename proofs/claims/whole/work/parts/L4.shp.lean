/-! the reference finds the shapes -/
section SHP
variable {K : Nat → Value} {B d N F f p q l m k : Nat} {w : aW} {I I' I'' : aI} {J : aJ} {mo : Int} {sh : Nat → List Nat} {V rc : Nat → Bool} {D oc ar : Nat → Nat} {fa : Nat → Nat → Nat} {G : gG}
theorem s_121 (H : Lay B w) (F5 : F ≤ 5) (h16 : I (B + 46) 16 = it F) (h65 : ∀ g, g < F → I (B + 58) (10 * g) = it (fa g 0)) (hb : ∀ g, g < F → fa g 0 ≤ 200) (hp : p ≤ 200) (hf : f < F) (h1 : fa f 0 ≤ p) (h2 : ∀ g, f < g → g < F → p < fa g 0) : Cl K (d + 1) 121 [.ref (B + 46), .int (it p)] w I J = some (some (.int (it f)), w, I, J) := by
  have lp : ∀ m kx, f + m < F → m < kx → f_121_7 K kx d (B + 46) (it p) (it ((f + m : Nat) : Int)) w I J = some (some (.int (it f)), w, I, J) := by
    intro m
    induction m with
    | zero =>
      intro kx hm hk
      obtain ⟨kx, rfl⟩ : ∃ k', kx = k' + 1 := ⟨kx - 1, by omega⟩
      have := hb f hf
      rw [show ((f + 0 : Nat) : Int) = (f : Int) by omega, f_121_7]
      simp only [it_lit, lt_p, gO_e (yt46 H), gV_e (yp46_18 H), it_mul]
      rw [gA_e (yt58 H) (Or.inl rfl) (ix (by omega) (by omega) (by omega)), it_cl (by omega) (by omega), show (10 * (f : Int)).toNat = 10 * f by omega, h65 f hf, if_pos ((it_le (by omega) (by omega) (by omega) (by omega)).mpr (by omega))]
    | succ m ih =>
      intro kx hm hk
      obtain ⟨kx, rfl⟩ : ∃ k', kx = k' + 1 := ⟨kx - 1, by omega⟩
      have := hb (f + (m + 1)) hm
      have h3 := h2 (f + (m + 1)) (by omega) hm
      rw [f_121_7]
      simp only [it_lit, lt_p, gO_e (yt46 H), gV_e (yp46_18 H), it_mul, it_neg, it_add]
      rw [gA_e (yt58 H) (Or.inl rfl) (ix (by omega) (by omega) (by omega)), it_cl (by omega) (by omega), show (10 * ((f + (m + 1) : Nat) : Int)).toNat = 10 * (f + (m + 1)) by omega, h65 _ hm, if_neg (fun q => by have := (it_le (by omega) (by omega) (by omega) (by omega)).mp q; omega), show ((f + (m + 1) : Nat) : Int) + -1 = ((f + m : Nat) : Int) by omega]
      exact ih kx (by omega) (by omega)
  apply cl_121 (k := F + 1)
  unfold f_121
  simp only [it_lit, lt_p, gO_e (yt46 H), h16, it_sub]
  have := lp (F - 1 - f) (F + 1) (by omega) (by omega)
  rw [show f + (F - 1 - f) = F - 1 by omega] at this
  rw [show (F : Int) - 1 = ((F - 1 : Nat) : Int) by omega]
  exact this
/-- values that an op takes, the type that it puts -/
def tkN (fa : Nat → Nat → Nat) (o a : Nat) : Nat := if o = 4 then fa a 1 else tK o
def ptN (fa : Nat → Nat → Nat) (f o a : Nat) : Int := if o = 3 then fa f (4 + a) else if o = 4 then fa a 3 else if o = 27 then a else pT o
theorem gEf_t {o a : Nat} {s s' : List Nat} (h : gEf fa f o a s s') : tkN fa o a ≤ s.length ∧ -1 ≤ ptN fa f o a ∧ s' = (if ptN fa f o a < 0 then s.drop (tkN fa o a) else (ptN fa f o a).toNat :: s.drop (tkN fa o a)) ∧ (o = 3 → a < fa f 2) ∧ (o = 4 → a ≤ f) := by
  unfold gEf at h
  rcases h with ⟨rfl, h⟩ | ⟨rfl, _, h⟩ | ⟨rfl, h⟩ | ⟨rfl, h1, h⟩ | ⟨rfl, h1, r, h2, h⟩ | ⟨r, h⟩ | ⟨rfl, _, h1, h⟩ | ⟨rfl, h1, h⟩ | ⟨rfl, h1, h⟩ | ⟨rfl, h1, h⟩ | ⟨rfl, h1, h⟩ | ⟨rfl, ⟨_, _, h1⟩, h⟩ | ⟨rfl, h1, h2, h⟩
  · exact ⟨Nat.zero_le _, by simp [ptN, pT], h, fun z => by omega, fun z => by omega⟩
  · exact ⟨Nat.zero_le _, by simp [ptN, pT], h, fun z => by omega, fun z => by omega⟩
  · exact ⟨Nat.zero_le _, by simp [ptN, pT], h, fun z => by omega, fun z => by omega⟩
  · have e : ptN fa f 3 a = fa f (4 + a) := if_pos rfl
    rw [e, if_neg (by omega)]
    exact ⟨Nat.zero_le _, by omega, h, fun _ => h1, fun z => by omega⟩
  · have e : ptN fa f 4 a = fa a 3 := rfl
    have e2 : tkN fa 4 a = fa a 1 := rfl
    have el : (gPar fa a (fa a 1)).length = fa a 1 := gPar_len fa a _
    rw [e, e2, if_neg (by omega), h2]
    refine ⟨by rw [List.length_append, el]; omega, by omega, ?_, fun z => by omega, fun _ => h1⟩
    rw [h]
    have : (gPar fa a (fa a 1) ++ r).drop (fa a 1) = r := by
      have := List.drop_left (l₁ := gPar fa a (fa a 1)) (l₂ := r)
      rw [el] at this
      exact this
    rw [this]
    rfl
  · rcases h with ⟨rfl, h1, h⟩ | ⟨rfl, h1, h⟩ | ⟨rfl, h1, h⟩ | ⟨rfl, h1, h⟩ | ⟨rfl, h1, h⟩ | ⟨rfl, h1, h⟩ | ⟨rfl, h1, h⟩ | ⟨rfl, h1, h⟩ | ⟨ho, h1, h⟩ | ⟨rfl, h1, h⟩ | ⟨rfl, ⟨_, _, h1⟩, h⟩ | ⟨o1, o2, h1, h⟩
    · rw [h1, h]; exact ⟨Nat.le_add_left _ _, by simp [ptN, pT], rfl, fun z => by omega, fun z => by omega⟩
    · rw [h1, h]; exact ⟨Nat.le_add_left _ _, by simp [ptN, pT], rfl, fun z => by omega, fun z => by omega⟩
    · rw [h1, h]; exact ⟨Nat.le_add_left _ _, by simp [ptN, pT], rfl, fun z => by omega, fun z => by omega⟩
    · rw [h1, h]; exact ⟨Nat.le_add_left _ _, by simp [ptN, pT], rfl, fun z => by omega, fun z => by omega⟩
    · rw [h1, h]; exact ⟨Nat.le_add_left _ _, by simp [ptN, pT], rfl, fun z => by omega, fun z => by omega⟩
    · rw [h1, h]; exact ⟨Nat.le_add_left _ _, by simp [ptN, pT], rfl, fun z => by omega, fun z => by omega⟩
    · rw [h1, h]; exact ⟨Nat.le_add_left 2 _, by simp [ptN, pT], rfl, fun z => by omega, fun z => by omega⟩
    · rw [h1, h]; exact ⟨Nat.le_add_left 2 _, by simp [ptN, pT], rfl, fun z => by omega, fun z => by omega⟩
    · rw [h1, h]; rcases ho with rfl | rfl <;> exact ⟨Nat.le_add_left 2 _, by simp [ptN, pT], rfl, fun z => by omega, fun z => by omega⟩
    · rw [h1, h]; exact ⟨Nat.le_add_left 2 _, by simp [ptN, pT], rfl, fun z => by omega, fun z => by omega⟩
    · rw [h1, h]; exact ⟨Nat.le_add_left 2 _, by simp [ptN, pT], rfl, fun z => by omega, fun z => by omega⟩
    · rw [h1, h]
      have ho : o = 17 ∨ o = 18 ∨ o = 19 ∨ o = 20 := by omega
      rcases ho with rfl | rfl | rfl | rfl <;> exact ⟨Nat.le_add_left 2 _, by simp [ptN, pT], rfl, fun z => by omega, fun z => by omega⟩
  · rw [h1, h]; exact ⟨Nat.le_refl 1, by simp [ptN, pT], rfl, fun z => by omega, fun z => by omega⟩
  · rw [h1, h]; exact ⟨Nat.le_refl 3, by simp [ptN, pT], rfl, fun z => by omega, fun z => by omega⟩
  · rw [h1, h]; exact ⟨Nat.le_refl 1, by simp [ptN, pT], rfl, fun z => by omega, fun z => by omega⟩
  · rw [h1, h]; exact ⟨Nat.le_refl 0, by simp [ptN, pT], rfl, fun z => by omega, fun z => by omega⟩
  · rw [h1, h]; exact ⟨Nat.le_refl 1, by simp [ptN, pT], rfl, fun z => by omega, fun z => by omega⟩
  · rw [h1, h]; exact ⟨Nat.le_refl 1, by simp [ptN, pT], rfl, fun z => by omega, fun z => by omega⟩
  · have e : ptN fa f 27 a = a := rfl
    rw [h1, h, e, if_neg (by omega)]
    exact ⟨Nat.le_refl 0, by omega, rfl, fun z => by omega, fun z => by omega⟩
theorem drop_rev {s : List Nat} {t k : Nat} (ht : t ≤ s.length) (hk : k < s.length - t) : (s.drop t).reverse.getD k 0 = s.reverse.getD k 0 := by
  have e : s.reverse = (s.drop t).reverse ++ (s.take t).reverse := by
    rw [← List.reverse_append, List.take_append_drop]
  rw [e, List.getD_eq_getElem?_getD, List.getD_eq_getElem?_getD, List.getElem?_append_left (by rw [List.length_reverse, List.length_drop]; exact hk)]
/-- the shape behind an op, from the lowest -/
theorem shp_n {o a : Nat} {s s' : List Nat} (h : gEf fa f o a s s') : s'.length = (if ptN fa f o a < 0 then s.length - tkN fa o a else s.length - tkN fa o a + 1) ∧ (∀ k, k < s.length - tkN fa o a → s'.reverse.getD k 0 = s.reverse.getD k 0) ∧ (¬ ptN fa f o a < 0 → ptN fa f o a = (s'.reverse.getD (s.length - tkN fa o a) 0 : Nat)) := by
  obtain ⟨h1, h2, h3, _⟩ := gEf_t h
  by_cases z : ptN fa f o a < 0
  · rw [if_pos z] at h3
    rw [h3, if_pos z]
    exact ⟨List.length_drop, fun k hk => drop_rev h1 hk, fun y => absurd z y⟩
  · rw [if_neg z] at h3
    have hl : (s.drop (tkN fa o a)).reverse.length = s.length - tkN fa o a := by rw [List.length_reverse, List.length_drop]
    rw [h3, if_neg z]
    refine ⟨by rw [List.length_cons, List.length_drop], fun k hk => ?_, fun _ => ?_⟩
    · rw [List.reverse_cons, List.getD_eq_getElem?_getD, List.getElem?_append_left (by rw [hl]; exact hk), ← List.getD_eq_getElem?_getD]
      exact drop_rev h1 hk
    · rw [List.reverse_cons, List.getD_eq_getElem?_getD, List.getElem?_append_right (by rw [hl]; exact Nat.le_refl _), hl, Nat.sub_self]
      show ptN fa f o a = ((ptN fa f o a).toNat : Int)
      omega
end SHP

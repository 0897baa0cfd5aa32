/-! code that an E adds -/
section EXT
variable {K : Nat → Value} {B d a : Nat} {w wm : aW} {I I' : aI} {J J' : aJ}
/-- G' is G with one value of the type τ more; no stack in it is higher than b above that of G -/
def Ext (fa : Nat → Nat → Nat) (f : Nat) (G G' : gG) (τ b : Nat) : Prop := G.1 ≤ G'.1 ∧ (∀ p, p < G.1 → G'.2.1 p = G.2.1 p ∧ G'.2.2.1 p = G.2.2.1 p) ∧ (∀ p, p ≤ G.1 → G'.2.2.2 p = G.2.2.2 p) ∧ G'.2.2.2 G'.1 = τ :: G.2.2.2 G.1 ∧ ∀ p, G.1 ≤ p → p < G'.1 → gEf fa f (G'.2.1 p) (G'.2.2.1 p) (G'.2.2.2 p) (G'.2.2.2 (p + 1)) ∧ G'.2.1 p ≤ 20 ∧ G'.2.2.1 p ≤ 99999 ∧ (G'.2.2.2 p).length ≤ (G.2.2.2 G.1).length + b
theorem Ext_b {fa : Nat → Nat → Nat} {f τ b b' : Nat} {G G' : gG} (h : b ≤ b') (hE : Ext fa f G G' τ b) : Ext fa f G G' τ b' := by
  obtain ⟨e1, e2, e3, e4, e5⟩ := hE
  exact ⟨e1, e2, e3, e4, fun p p1 p2 => ⟨(e5 p p1 p2).1, (e5 p p1 p2).2.1, (e5 p p1 p2).2.2.1, by have := (e5 p p1 p2).2.2.2; omega⟩⟩
theorem gE1_o {G : gG} {o g : Nat} {st : List Nat} : (gE1 G o g st).1 = G.1 + 1 ∧ (∀ p, ¬ p = G.1 → (gE1 G o g st).2.1 p = G.2.1 p ∧ (gE1 G o g st).2.2.1 p = G.2.2.1 p) ∧ (gE1 G o g st).2.1 G.1 = o ∧ (gE1 G o g st).2.2.1 G.1 = g ∧ (∀ p, ¬ p = G.1 + 1 → (gE1 G o g st).2.2.2 p = G.2.2.2 p) ∧ (gE1 G o g st).2.2.2 (G.1 + 1) = st := by
  unfold gE1
  exact ⟨rfl, fun p h => ⟨up1_n h, up1_n h⟩, up1_s _ _ _, up1_s _ _ _, fun p h => up1_n h, up1_s _ _ _⟩
/-- one place that puts a value -/
theorem Ext_1 {fa : Nat → Nat → Nat} {f o g τ : Nat} {G : gG} (hf : gEf fa f o g (G.2.2.2 G.1) (τ :: G.2.2.2 G.1)) (ho : o ≤ 20) (hg : g ≤ 99999) : Ext fa f G (gE1 G o g (τ :: G.2.2.2 G.1)) τ 0 := by
  obtain ⟨h1, h2, h3, h4, h5, h6⟩ := gE1_o (G := G) (o := o) (g := g) (st := τ :: G.2.2.2 G.1)
  refine ⟨by omega, fun p hp => h2 p (by omega), fun p hp => h5 p (by omega), by rw [h1, h6], fun p p1 p2 => ?_⟩
  have e : p = G.1 := by omega
  subst e
  rw [h3, h4, h5 _ (by omega), h6]
  exact ⟨hf, ho, hg, by omega⟩
/-- an op behind what puts its values -/
theorem Ext_o {fa : Nat → Nat → Nat} {f o τ b : Nat} {G G' : gG} {u : Nat} (hE : Ext fa f G G' u b) (ho : o ≤ 20) (hf : gEf fa f o 0 (u :: G.2.2.2 G.1) (τ :: G.2.2.2 G.1)) (hb : 1 ≤ b) : Ext fa f G (gE1 G' o 0 (τ :: G.2.2.2 G.1)) τ b := by
  obtain ⟨e1, e2, e3, e4, e5⟩ := hE
  obtain ⟨h1, h2, h3, h4, h5, h6⟩ := gE1_o (G := G') (o := o) (g := 0) (st := τ :: G.2.2.2 G.1)
  refine ⟨by omega, fun p hp => ?_, fun p hp => ?_, by rw [h1, h6], fun p p1 p2 => ?_⟩
  · rw [(h2 p (by omega)).1, (h2 p (by omega)).2]; exact e2 p hp
  · rw [h5 p (by omega)]; exact e3 p hp
  · by_cases e : p = G'.1
    · subst e
      rw [h3, h4, h5 _ (by omega), h6, e4]
      exact ⟨hf, ho, by omega, by rw [List.length_cons]; omega⟩
    · rw [(h2 p e).1, (h2 p e).2, h5 p (by omega), h5 (p + 1) (by omega)]
      exact e5 p p1 (by omega)
theorem Ext_2 {fa : Nat → Nat → Nat} {f o τ b b1 b2 : Nat} {G G1 G2 : gG} {u l : Nat} (hL : Ext fa f G G1 l b1) (hR : Ext fa f G1 G2 u b2) (ho : o ≤ 20) (hf : gEf fa f o 0 (u :: l :: G.2.2.2 G.1) (τ :: G.2.2.2 G.1)) (h1 : b1 ≤ b) (h2 : b2 + 1 ≤ b) (hb : 2 ≤ b) : Ext fa f G (gE1 G2 o 0 (τ :: G.2.2.2 G.1)) τ b := by
  obtain ⟨a1, a2, a3, a4, a5⟩ := hL
  obtain ⟨e1, e2, e3, e4, e5⟩ := hR
  obtain ⟨g1, g2, g3, g4, g5, g6⟩ := gE1_o (G := G2) (o := o) (g := 0) (st := τ :: G.2.2.2 G.1)
  refine ⟨by omega, fun p hp => ?_, fun p hp => ?_, by rw [g1, g6], fun p p1 p2 => ?_⟩
  · rw [(g2 p (by omega)).1, (g2 p (by omega)).2, (e2 p (by omega)).1, (e2 p (by omega)).2]; exact a2 p hp
  · rw [g5 p (by omega), e3 p (by omega)]; exact a3 p hp
  · by_cases e : p = G2.1
    · subst e
      rw [g3, g4, g5 _ (by omega), g6, e4, a4]
      exact ⟨hf, ho, by omega, by rw [List.length_cons, List.length_cons]; omega⟩
    · rw [(g2 p e).1, (g2 p e).2, g5 p (by omega), g5 (p + 1) (by omega)]
      by_cases e' : p < G1.1
      · rw [(e2 p e').1, (e2 p e').2, e3 p (by omega), e3 (p + 1) (by omega)]
        obtain ⟨z1, z2, z3, z4⟩ := a5 p p1 e'
        exact ⟨z1, z2, z3, by omega⟩
      · obtain ⟨z1, z2, z3, z4⟩ := e5 p (by omega) (by omega)
        refine ⟨z1, z2, z3, ?_⟩
        rw [a4, List.length_cons] at z4
        omega
theorem gEf_2 {fa : Nat → Nat → Nat} {f o u l τ : Nat} {rest : List Nat} (o11 : 11 ≤ o) (o20 : o ≤ 20) (u3 : u ≤ 3) (l3 : l ≤ 3) (t3 : τ ≤ 3) (hf : fitN o u l) (ht : tbl 2 (o - 5) = it (τ : Int)) : gEf fa f o 0 (u :: l :: rest) (τ :: rest) := by
  have oo : o = 11 ∨ o = 12 ∨ o = 13 ∨ o = 14 ∨ o = 15 ∨ o = 16 ∨ o = 17 ∨ o = 18 ∨ o = 19 ∨ o = 20 := by omega
  unfold gEf
  refine Or.inr (Or.inr (Or.inr (Or.inr (Or.inr (Or.inl ⟨rest, ?_⟩)))))
  rcases oo with rfl | rfl | rfl | rfl | rfl | rfl | rfl | rfl | rfl | rfl
  · have key : ∀ u l τ : Fin 4, fitN 11 u.val l.val → tbl 2 6 = it ((τ.val : Nat) : Int) → u.val = 0 ∧ l.val = 2 ∧ τ.val = 0 := by decide +kernel
    obtain ⟨e2, e3, e4⟩ := key ⟨u, by omega⟩ ⟨l, by omega⟩ ⟨τ, by omega⟩ hf ht
    simp only at e2 e3 e4
    subst e2 e3 e4
    simp
  · have key : ∀ u l τ : Fin 4, fitN 12 u.val l.val → tbl 2 7 = it ((τ.val : Nat) : Int) → u.val = 3 ∧ l.val = 0 ∧ τ.val = 3 := by decide +kernel
    obtain ⟨e2, e3, e4⟩ := key ⟨u, by omega⟩ ⟨l, by omega⟩ ⟨τ, by omega⟩ hf ht
    simp only at e2 e3 e4
    subst e2 e3 e4
    simp
  · have key : ∀ u l τ : Fin 4, fitN 13 u.val l.val → tbl 2 8 = it ((τ.val : Nat) : Int) → u.val = 1 ∧ l.val = 1 ∧ τ.val = 1 := by decide +kernel
    obtain ⟨e2, e3, e4⟩ := key ⟨u, by omega⟩ ⟨l, by omega⟩ ⟨τ, by omega⟩ hf ht
    simp only at e2 e3 e4
    subst e2 e3 e4
    simp
  · have key : ∀ u l τ : Fin 4, fitN 14 u.val l.val → tbl 2 9 = it ((τ.val : Nat) : Int) → u.val = 1 ∧ l.val = 1 ∧ τ.val = 1 := by decide +kernel
    obtain ⟨e2, e3, e4⟩ := key ⟨u, by omega⟩ ⟨l, by omega⟩ ⟨τ, by omega⟩ hf ht
    simp only at e2 e3 e4
    subst e2 e3 e4
    simp
  · have key : ∀ u l τ : Fin 4, fitN 15 u.val l.val → tbl 2 10 = it ((τ.val : Nat) : Int) → u.val = 0 ∧ l.val = 0 ∧ τ.val = 1 := by decide +kernel
    obtain ⟨e2, e3, e4⟩ := key ⟨u, by omega⟩ ⟨l, by omega⟩ ⟨τ, by omega⟩ hf ht
    simp only at e2 e3 e4
    subst e2 e3 e4
    simp
  · have key : ∀ u l τ : Fin 4, fitN 16 u.val l.val → tbl 2 11 = it ((τ.val : Nat) : Int) → u.val = l.val ∧ u.val ≤ 1 ∧ τ.val = 1 := by decide +kernel
    obtain ⟨e2, e3, e4⟩ := key ⟨u, by omega⟩ ⟨l, by omega⟩ ⟨τ, by omega⟩ hf ht
    simp only at e2 e3 e4
    subst e2 e4
    exact Or.inr (Or.inr (Or.inr (Or.inr (Or.inr (Or.inr (Or.inr (Or.inr (Or.inr (Or.inr (Or.inl ⟨rfl, ⟨u, e3, rfl⟩, rfl⟩))))))))))
  · have key : ∀ u l τ : Fin 4, fitN 17 u.val l.val → tbl 2 12 = it ((τ.val : Nat) : Int) → u.val = 0 ∧ l.val = 0 ∧ τ.val = 0 := by decide +kernel
    obtain ⟨e2, e3, e4⟩ := key ⟨u, by omega⟩ ⟨l, by omega⟩ ⟨τ, by omega⟩ hf ht
    simp only at e2 e3 e4
    subst e2 e3 e4
    simp
  · have key : ∀ u l τ : Fin 4, fitN 18 u.val l.val → tbl 2 13 = it ((τ.val : Nat) : Int) → u.val = 0 ∧ l.val = 0 ∧ τ.val = 0 := by decide +kernel
    obtain ⟨e2, e3, e4⟩ := key ⟨u, by omega⟩ ⟨l, by omega⟩ ⟨τ, by omega⟩ hf ht
    simp only at e2 e3 e4
    subst e2 e3 e4
    simp
  · have key : ∀ u l τ : Fin 4, fitN 19 u.val l.val → tbl 2 14 = it ((τ.val : Nat) : Int) → u.val = 0 ∧ l.val = 0 ∧ τ.val = 0 := by decide +kernel
    obtain ⟨e2, e3, e4⟩ := key ⟨u, by omega⟩ ⟨l, by omega⟩ ⟨τ, by omega⟩ hf ht
    simp only at e2 e3 e4
    subst e2 e3 e4
    simp
  · have key : ∀ u l τ : Fin 4, fitN 20 u.val l.val → tbl 2 15 = it ((τ.val : Nat) : Int) → u.val = 0 ∧ l.val = 0 ∧ τ.val = 0 := by decide +kernel
    obtain ⟨e2, e3, e4⟩ := key ⟨u, by omega⟩ ⟨l, by omega⟩ ⟨τ, by omega⟩ hf ht
    simp only at e2 e3 e4
    subst e2 e3 e4
    simp
theorem gEf_1 {fa : Nat → Nat → Nat} {f o u τ : Nat} {rest : List Nat} (o5 : 5 ≤ o) (o10 : o ≤ 10) (u3 : u ≤ 3) (t3 : τ ≤ 3) (hf : fitN o u 0) (ht : tbl 2 (o - 5) = it (τ : Int)) : gEf fa f o 0 (u :: rest) (τ :: rest) := by
  have oo : o = 5 ∨ o = 6 ∨ o = 7 ∨ o = 8 ∨ o = 9 ∨ o = 10 := by omega
  unfold gEf
  refine Or.inr (Or.inr (Or.inr (Or.inr (Or.inr (Or.inl ⟨rest, ?_⟩)))))
  rcases oo with rfl | rfl | rfl | rfl | rfl | rfl
  · have key : ∀ u τ : Fin 4, fitN 5 u.val 0 → tbl 2 0 = it ((τ.val : Nat) : Int) → u.val = 0 ∧ τ.val = 0 := by decide +kernel
    obtain ⟨e2, e4⟩ := key ⟨u, by omega⟩ ⟨τ, by omega⟩ hf ht
    simp only at e2 e4
    subst e2 e4
    simp
  · have key : ∀ u τ : Fin 4, fitN 6 u.val 0 → tbl 2 1 = it ((τ.val : Nat) : Int) → u.val = 1 ∧ τ.val = 1 := by decide +kernel
    obtain ⟨e2, e4⟩ := key ⟨u, by omega⟩ ⟨τ, by omega⟩ hf ht
    simp only at e2 e4
    subst e2 e4
    simp
  · have key : ∀ u τ : Fin 4, fitN 7 u.val 0 → tbl 2 2 = it ((τ.val : Nat) : Int) → u.val = 2 ∧ τ.val = 0 := by decide +kernel
    obtain ⟨e2, e4⟩ := key ⟨u, by omega⟩ ⟨τ, by omega⟩ hf ht
    simp only at e2 e4
    subst e2 e4
    simp
  · have key : ∀ u τ : Fin 4, fitN 8 u.val 0 → tbl 2 3 = it ((τ.val : Nat) : Int) → u.val = 3 ∧ τ.val = 0 := by decide +kernel
    obtain ⟨e2, e4⟩ := key ⟨u, by omega⟩ ⟨τ, by omega⟩ hf ht
    simp only at e2 e4
    subst e2 e4
    simp
  · have key : ∀ u τ : Fin 4, fitN 9 u.val 0 → tbl 2 4 = it ((τ.val : Nat) : Int) → u.val = 3 ∧ τ.val = 3 := by decide +kernel
    obtain ⟨e2, e4⟩ := key ⟨u, by omega⟩ ⟨τ, by omega⟩ hf ht
    simp only at e2 e4
    subst e2 e4
    simp
  · have key : ∀ u τ : Fin 4, fitN 10 u.val 0 → tbl 2 5 = it ((τ.val : Nat) : Int) → u.val = 0 ∧ τ.val = 2 := by decide +kernel
    obtain ⟨e2, e4⟩ := key ⟨u, by omega⟩ ⟨τ, by omega⟩ hf ht
    simp only at e2 e4
    subst e2 e4
    simp
/-! what stands still while an E is read -/
/-- names as both have them: fun f, cnt variables, gd: the funs' names are good -/
def NP (f cnt : Nat) (vn : Nat → Nat) (fa : Nat → Nat → Nat) (ln : Nat → Nat) (gd : Prop) : Prop := f ≤ 4 ∧ cnt ≤ 6 ∧ (∀ v, v < cnt → vn v < 26 ∧ fa f (4 + v) ≤ 3) ∧ cnt = fa f 2 ∧ (gd → (∀ g, g ≤ f → ln g < 26 ∧ fa g 1 ≤ fa g 2 ∧ fa g 2 ≤ 6 ∧ fa g 3 ≤ 3 ∧ ∀ v, v < fa g 1 → fa g (4 + v) ≤ 3) ∧ ∀ g g', g ≤ f → g' ≤ f → ln g = ln g' → g = g')
def NX (B a f cnt : Nat) (vn : Nat → Nat) (fa : Nat → Nat → Nat) (ln : Nat → Nat) (gd : Prop) (I : aI) : Prop := I (B + 2) 2 = it f ∧ (∀ l, l < 26 → I (B + 16) l = it (vix vn l cnt)) ∧ (∀ v, v < cnt → I (a + 6) (6 * f + v) = it (fa f (4 + v))) ∧ (gd → (∀ l, l < 26 → I (B + 15) l = it (vix ln l (f + 1))) ∧ ∀ g, g ≤ f → I (a + 5) (4 * g + 1) = it (fa g 1) ∧ I (a + 5) (4 * g + 3) = it (fa g 3) ∧ ∀ v, v < fa g 1 → I (a + 6) (6 * g + v) = it (fa g (4 + v)))
def NM (B f cnt : Nat) (vn : Nat → Nat) (fa : Nat → Nat → Nat) (ln : Nat → Nat) (gd : Prop) (I : aI) : Prop := I (B + 46) 30 = it f ∧ I (B + 52) f = it cnt ∧ (∀ v, v < cnt → I (B + 54) (6 * f + v) = it (97 + vn v : Nat) ∧ I (B + 55) (6 * f + v) = it (fa f (4 + v))) ∧ (gd → ∀ g, g ≤ f → I (B + 49) g = it (97 + ln g : Nat) ∧ I (B + 51) g = it (fa g 1) ∧ I (B + 52) g = it (fa g 2) ∧ I (B + 53) g = it (fa g 3) ∧ ∀ v, v < fa g 1 → I (B + 55) (6 * g + v) = it (fa g (4 + v)))
theorem NX_f {f cnt : Nat} {vn : Nat → Nat} {fa : Nat → Nat → Nat} {ln : Nat → Nat} {gd : Prop} (ha : a = B + 8 ∨ a = B + 22) (h : FEx B a I J I' J') (hN : NX B a f cnt vn fa ln gd I) : NX B a f cnt vn fa ln gd I' := by
  unfold NX at hN ⊢
  rw [h.2.1 2 (by omega) (by omega) (by omega), h.1 (B + 16) (by omega) (by omega) (by omega) (by omega) (by omega) (by omega), h.1 (B + 15) (by omega) (by omega) (by omega) (by omega) (by omega) (by omega), h.1 (a + 5) (by omega) (by omega) (by omega) (by omega) (by omega) (by omega), h.1 (a + 6) (by omega) (by omega) (by omega) (by omega) (by omega) (by omega)]
  exact hN
theorem NM_f {m f cnt : Nat} {vn : Nat → Nat} {fa : Nat → Nat → Nat} {ln : Nat → Nat} {gd : Prop} (hm : B + 75 ≤ m) (h : FMx B m I J I' J') (hN : NM B f cnt vn fa ln gd I) : NM B f cnt vn fa ln gd I' := by
  unfold NM at hN ⊢
  rw [h.2.1 30 (by omega) (by omega) (by omega) (by omega) (by omega) (by omega) (by omega) (by omega) (by omega), h.1 (B + 52) (by omega) (by omega) (by omega) (by omega), h.1 (B + 54) (by omega) (by omega) (by omega) (by omega), h.1 (B + 55) (by omega) (by omega) (by omega) (by omega), h.1 (B + 49) (by omega) (by omega) (by omega) (by omega), h.1 (B + 51) (by omega) (by omega) (by omega) (by omega), h.1 (B + 53) (by omega) (by omega) (by omega) (by omega)]
  exact hN
theorem gLy_b : ∀ x ∈ layT, x.1 < 75 := by decide +kernel
theorem gLp_b : ∀ x ∈ layP, x.1 < 75 := by decide +kernel
/-- the reference's heap: what stands still -/
def SM (K : Nat → Value) (B : Nat) (w : aW) (I : aI) : Prop := Lay B w ∧ rKy K B w ∧ StO K B w I ∧ B + 75 ≤ w.2.2.1
/-- new cells only, at most k -/
def WG' (w w' : aW) (k : Nat) : Prop := (∀ b, b < w.2.2.1 → w'.1 b = w.1 b ∧ w'.2.1 b = w.2.1 b) ∧ w.2.2.1 ≤ w'.2.2.1 ∧ w'.2.2.1 ≤ w.2.2.1 + k ∧ w'.2.2.2 ≤ w.2.2.2 + 6 * k
theorem WG_r {w : aW} {k : Nat} : WG' w w k := ⟨fun _ _ => ⟨rfl, rfl⟩, Nat.le_refl _, by omega, by omega⟩
theorem WG_t {w w' w'' : aW} {k k' : Nat} (h1 : WG' w w' k) (h2 : WG' w' w'' k') : WG' w w'' (k + k') := ⟨fun b hb => ⟨((h2.1 b (by have := h1.2.1; omega)).1).trans (h1.1 b hb).1, ((h2.1 b (by have := h1.2.1; omega)).2).trans (h1.1 b hb).2⟩, by have := h1.2.1; have := h2.2.1; omega, by have := h1.2.2.1; have := h2.2.2.1; omega, by have := h1.2.2.2; have := h2.2.2.2; omega⟩
theorem WG_k {w w' : aW} {k k' : Nat} (hk : k ≤ k') (h : WG' w w' k) : WG' w w' k' := ⟨h.1, h.2.1, by have := h.2.2.1; omega, by have := h.2.2.2; omega⟩
theorem SM_f {w w' : aW} {k : Nat} (hw : WG' w w' k) (h : FMx B w.2.2.1 I J I' J') (hS : SM K B w I) : SM K B w' I' := by
  obtain ⟨s1, s2, s3, s4⟩ := hS
  refine ⟨⟨fun x hx => ?_, fun x hx => ?_⟩, fun i hi => ?_, ?_, by have := hw.2.1; omega⟩
  · rw [(hw.1 _ (by have := gLy_b x hx; omega)).1]; exact s1.1 x hx
  · rw [(hw.1 _ (by have := gLp_b x hx; omega)).2]; exact s1.2 x hx
  · rw [(hw.1 (B + 61) (by omega)).2]; exact s2 i hi
  · exact StO_c (fun b hb => ⟨h.1 b (by omega) (by omega) (by omega) (by omega), (hw.1 b (by omega)).1, (hw.1 b (by omega)).2⟩) s3
end EXT

/-! levels of an E, of both -/
def opb (k : Nat) : Int := if k = 42 then 19 else if k = 43 then 17 else if k = 45 then 18 else if k = 47 then 20 else if k = 58 then 12 else if k = 60 then 15 else if k = 61 then 16 else if k = 270 then 14 else if k = 271 then 13 else -1
def opa (k : Nat) : Int := if k = 45 then 5 else if k = 269 then 6 else if k = 272 then 10 else if k = 273 then 7 else if k = 274 then 8 else if k = 275 then 9 else -1
/-- the level of an op -/
def lvo (o : Nat) : Nat := if o = 12 then 0 else if o = 13 then 1 else if o = 14 then 2 else if o ≤ 16 then 3 else if o ≤ 18 then 4 else 5
theorem opb_k : ∀ k : Fin 276, opb k.val = -1 ∨ (12 ≤ opb k.val ∧ opb k.val ≤ 20 ∧ ¬ k.val = 0 ∧ ¬ k.val = 3) := by decide +kernel
theorem lvo_t : ∀ o : Fin 21, 12 ≤ o.val → tbl 0 (o.val - 12) = it (lvo o.val : Nat) := by decide +kernel
section CON
variable {K : Nat → Value} {B d a : Nat} {w wm : aW} {Ix Im I : aI} {Jx Jm J : aJ} {bs : Nat → Nat} {t n c r s sl : Nat} {pd dp : Int} {G : gG} {Q gd : Prop} {f cnt : Nat} {vn ln : Nat → Nat} {fa : Nat → Nat → Nat}
theorem s_73 {k : Nat} (hk : k ≤ 275) : Cl K (d + 1) 73 [.int (it k)] w I J = some (some (.int (it (opb k))), w, I, J) := by
  apply cl_73 (k := 0)
  unfold f_73 opb
  simp only [it_lit, it_neg]
  by_cases e0 : k = 42
  · rw [if_pos (show it (k : Int) = it 42 by rw [e0]; rfl), if_pos e0]
  · rw [if_neg (show ¬ it (k : Int) = it 42 from (fun q => by have := (it_eq (by omega) (by omega) (by omega) (by omega)).mp q; omega)), if_neg e0]
    by_cases e1 : k = 43
    · rw [if_pos (show it (k : Int) = it 43 by rw [e1]; rfl), if_pos e1]
    · rw [if_neg (show ¬ it (k : Int) = it 43 from (fun q => by have := (it_eq (by omega) (by omega) (by omega) (by omega)).mp q; omega)), if_neg e1]
      by_cases e2 : k = 45
      · rw [if_pos (show it (k : Int) = it 45 by rw [e2]; rfl), if_pos e2]
      · rw [if_neg (show ¬ it (k : Int) = it 45 from (fun q => by have := (it_eq (by omega) (by omega) (by omega) (by omega)).mp q; omega)), if_neg e2]
        by_cases e3 : k = 47
        · rw [if_pos (show it (k : Int) = it 47 by rw [e3]; rfl), if_pos e3]
        · rw [if_neg (show ¬ it (k : Int) = it 47 from (fun q => by have := (it_eq (by omega) (by omega) (by omega) (by omega)).mp q; omega)), if_neg e3]
          by_cases e4 : k = 58
          · rw [if_pos (show it (k : Int) = it 58 by rw [e4]; rfl), if_pos e4]
          · rw [if_neg (show ¬ it (k : Int) = it 58 from (fun q => by have := (it_eq (by omega) (by omega) (by omega) (by omega)).mp q; omega)), if_neg e4]
            by_cases e5 : k = 60
            · rw [if_pos (show it (k : Int) = it 60 by rw [e5]; rfl), if_pos e5]
            · rw [if_neg (show ¬ it (k : Int) = it 60 from (fun q => by have := (it_eq (by omega) (by omega) (by omega) (by omega)).mp q; omega)), if_neg e5]
              by_cases e6 : k = 61
              · rw [if_pos (show it (k : Int) = it 61 by rw [e6]; rfl), if_pos e6]
              · rw [if_neg (show ¬ it (k : Int) = it 61 from (fun q => by have := (it_eq (by omega) (by omega) (by omega) (by omega)).mp q; omega)), if_neg e6]
                by_cases e7 : k = 270
                · rw [if_pos (show it (k : Int) = it 270 by rw [e7]; rfl), if_pos e7]
                · rw [if_neg (show ¬ it (k : Int) = it 270 from (fun q => by have := (it_eq (by omega) (by omega) (by omega) (by omega)).mp q; omega)), if_neg e7]
                  by_cases e8 : k = 271
                  · rw [if_pos (show it (k : Int) = it 271 by rw [e8]; rfl), if_pos e8]
                  · rw [if_neg (show ¬ it (k : Int) = it 271 from (fun q => by have := (it_eq (by omega) (by omega) (by omega) (by omega)).mp q; omega)), if_neg e8]
theorem s_65 {k : Nat} (hk : k ≤ 275) : Cl K (d + 1) 65 [.int (it k)] w I J = some (some (.int (it (opa k))), w, I, J) := by
  apply cl_65 (k := 0)
  unfold f_65 opa
  simp only [it_lit, it_neg]
  by_cases e0 : k = 45
  · rw [if_pos (show it (k : Int) = it 45 by rw [e0]; rfl), if_pos e0]
  · rw [if_neg (show ¬ it (k : Int) = it 45 from (fun q => by have := (it_eq (by omega) (by omega) (by omega) (by omega)).mp q; omega)), if_neg e0]
    by_cases e1 : k = 269
    · rw [if_pos (show it (k : Int) = it 269 by rw [e1]; rfl), if_pos e1]
    · rw [if_neg (show ¬ it (k : Int) = it 269 from (fun q => by have := (it_eq (by omega) (by omega) (by omega) (by omega)).mp q; omega)), if_neg e1]
      by_cases e2 : k = 272
      · rw [if_pos (show it (k : Int) = it 272 by rw [e2]; rfl), if_pos e2]
      · rw [if_neg (show ¬ it (k : Int) = it 272 from (fun q => by have := (it_eq (by omega) (by omega) (by omega) (by omega)).mp q; omega)), if_neg e2]
        by_cases e3 : k = 273
        · rw [if_pos (show it (k : Int) = it 273 by rw [e3]; rfl), if_pos e3]
        · rw [if_neg (show ¬ it (k : Int) = it 273 from (fun q => by have := (it_eq (by omega) (by omega) (by omega) (by omega)).mp q; omega)), if_neg e3]
          by_cases e4 : k = 274
          · rw [if_pos (show it (k : Int) = it 274 by rw [e4]; rfl), if_pos e4]
          · rw [if_neg (show ¬ it (k : Int) = it 274 from (fun q => by have := (it_eq (by omega) (by omega) (by omega) (by omega)).mp q; omega)), if_neg e4]
            by_cases e5 : k = 275
            · rw [if_pos (show it (k : Int) = it 275 by rw [e5]; rfl), if_pos e5]
            · rw [if_neg (show ¬ it (k : Int) = it 275 from (fun q => by have := (it_eq (by omega) (by omega) (by omega) (by omega)).mp q; omega)), if_neg e5]
/-- a construct that puts one value, read by both: X by the class, M by the reference -/
def Con (K : Nat → Value) (B a : Nat) (bs : Nat → Nat) (t n : Nat) (pd dp : Int) (w : aW) (f cnt : Nat) (vn : Nat → Nat) (fa : Nat → Nat → Nat) (ln : Nat → Nat) (gd : Prop) (X : aI → aJ → Option aR) (M : aW → aI → aJ → Option aR) (s b : Nat) : Prop :=
  ∀ (c sl : Nat) (G : gG) (Q : Prop) (Ix : aI) (Jx : aJ) (wm : aW) (Im : aI) (Jm : aJ), StO K B w Ix → NX B a f cnt vn fa ln gd Ix → SM K B wm Im → NM B f cnt vn fa ln gd Im → JS B a bs t n pd dp c 0 s sl G Q Ix Jx Im → (Q → gd ∧ 2 * (G.2.2.2 G.1).length ≤ c) → (gd ∨ (0 ≤ dp ∧ dp ≤ tst bs t c)) →
  ∃ (c' r' : Nat) (G' : gG) (τ : Nat) (ty : Int32) (Ix' : aI) (Jx' : aJ) (wm' : aW) (Im' : aI) (Jm' : aJ), X Ix Jx = some (none, w, Ix', Jx') ∧ M wm Im Jm = some (some (.int ty), wm', Im', Jm') ∧ FEx B a Ix Jx Ix' Jx' ∧ FMx B wm.2.2.1 Im Jm Im' Jm' ∧ WG' wm wm' (c' - c) ∧ c ≤ c' ∧ (r' = 0 → c < c') ∧ (kX bs t c 0 = 3 → c' = c ∧ r' = 1) ∧ JS B a bs t n pd dp c' r' s sl G' (Q ∧ Ext fa f G G' τ b ∧ τ ≤ 3 ∧ ty = it τ) Ix' Jx' Im'
theorem tst_m {c c' : Nat} (hX : TX bs t n) (h : c ≤ c') (hc : c' ≤ n) : tst bs t c ≤ tst bs t c' := by
  induction c' with
  | zero => have : c = 0 := by omega
            subst this; exact Nat.le_refl _
  | succ k ih =>
    by_cases e : c = k + 1
    · subst e; exact Nat.le_refl _
    · have h1 := ih (by omega) (by omega)
      have h2 := lxe_b (bs := bs) (hX.2.2.2.1 k (by omega))
      have h3 := wsk_b bs (t - lxe bs t (tst bs t k)) (lxe bs t (tst bs t k))
      rw [tst]
      omega
end CON

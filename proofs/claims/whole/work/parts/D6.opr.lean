/-! the class's operate -/
section OPR
variable {K : Nat → Value} {B d a : Nat} {w : aW} {I : aI} {J : aJ} {bs : Nat → Nat} {t n c r h N : Nat} {nf tf : Int}
/-- tables of the class -/
def tbl (i j : Nat) : Int32 := (gsa.getD i []).getD j 0
theorem tb_g (hO : StO K B w I) {i j : Nat} (hi : i < 4) (hj : j < (gsa.getD i []).length) : ∃ q, K (23 + i) = .ref q ∧ w.1 q = some (20, (gsa.getD i []).length) ∧ I q j = tbl i j := by
  obtain ⟨q, q1, q2, q3, q4⟩ := hO.2.1 i hi
  exact ⟨q, q1, q3, q4 j hj⟩
/-- what an emit leaves -/
def EmC (B a : Nat) (bs : Nat → Nat) (t n c r h N : Nat) (nf tf : Int) (k : Nat) (o g ty : Int32) (I : aI) (J : aJ) (I' : aI) (J' : aJ) : Prop := FEx B a I J I' J' ∧ XE B a bs t n c r (hE h k true) (N + 1) nf tf I'
    ∧ (∀ p, p < 200 → I' (a + 1) p = (if p = N then o else I (a + 1) p) ∧ I' (a + 2) p = (if p = N then g else I (a + 2) p) ∧ J' (a + 3) p = if p = N then J (B + 18) h else J (a + 3) p)
    ∧ (∀ i, ¬ i = h - k → I' (B + 17) i = I (B + 17) i) ∧ (∀ i, i ≤ h - k → J' (B + 18) i = J (B + 18) i) ∧ (h - k < 128 → I' (B + 17) (h - k) = ty ∧ J' (B + 18) (h - k + 1) = J (B + 18) (h - k) * 5 + ty.toInt64 + 1)
theorem StO_F {I' : aI} {J' : aJ} (ha : a = B + 8 ∨ a = B + 22) (h : FEx B a I J I' J') (hO : StO K B w I) : StO K B w I' := StO_c (fun b hb => ⟨h.1 b (by omega) (by omega) (by omega) (by omega) (by omega) (by omega), rfl, rfl⟩) hO
theorem t_66 {o p : Nat} {u x : Int32} (ha : a = B + 8 ∨ a = B + 22) (H : Lay B w) (hO : StO K B w I) (hp : w.2.1 (B + 2) 1 = some a) (hX : XE B a bs t n c r h N nf tf I) (N1 : N < 1000) (o5 : 5 ≤ o) (o20 : o ≤ 20) : ∃ I' J', f_66_110 K 0 (d + 2) (B + 2) (it o) (it p) (it ((o - 5 : Nat) : Int)) u x w I J = some (none, w, I', J') ∧ EmC B a bs t n c r h N nf tf (if x = it (-1) then 1 else 2) (it o) (it 0) (tbl 2 (o - 5)) I J I' J' := by
  obtain ⟨q, q1, q2, q3⟩ := tb_g hO (i := 2) (j := o - 5) (by omega) (by show o - 5 < 16; omega)
  have hne : ¬ tbl 2 (o - 5) = it (-1) := by
    have : ∀ j : Fin 16, ¬ tbl 2 j.val = it (-1) := by decide +kernel
    exact this ⟨o - 5, by omega⟩
  have q2' : w.1 q = some (20, 16) := q2
  have k25 : K 25 = .ref q := q1
  have fin : ∀ k : Nat, k = 1 ∨ k = 2 → ∃ I' J', f_66_124 K 0 (d + 2) (B + 2) (it o) (it p) (it ((o - 5 : Nat) : Int)) u x (B + 2) (it o) (it 0) (it k) w I J = some (none, w, I', J') ∧ EmC B a bs t n c r h N nf tf k (it o) (it 0) (tbl 2 (o - 5)) I J I' J' := by
    intro k hk
    obtain ⟨I', J', e1, e2, e3, e4, e5, e6, e7⟩ := s_58 (K := K) (d := d) (o := it o) (g := it 0) (ty := tbl 2 (o - 5)) (k := k) (b := true) (J := J) ha H hp hX N1 (by omega) ⟨fun _ => hne, fun _ => rfl⟩
    refine ⟨I', J', ?_, e2, e3, e4, e5, e6, e7 rfl⟩
    unfold f_66_124
    rw [k25]
    simp only [kR]
    rw [gA_e q2' (Or.inr rfl) (ix (by omega) (by omega) (by omega)), gO_e (yt2 H), it_n (by omega), q3, e1]
    rfl
  unfold f_66_110
  simp only [it_lit, it_neg]
  by_cases e : x = it (-1)
  · rw [if_neg (fun q => q e), if_pos e]
    exact fin 1 (Or.inl rfl)
  · rw [if_pos e, if_neg e]
    exact fin 2 (Or.inr rfl)
/-- the type at i from the top -/
def tTop (B h i : Nat) (I : aI) : Int32 := if i ≤ h then I (B + 17) (h - i) else it (-1)
def lTop (B h o : Nat) (I : aI) : Int32 := if o < 11 then it (-1) else tTop B h 2 I
abbrev oFit (B h o : Nat) (I : aI) : Prop := (o = 16 ∧ tTop B h 1 I = lTop B h o I ∧ (tTop B h 1 I = it 0 ∨ tTop B h 1 I = it 1)) ∨ (¬ o = 16 ∧ tTop B h 1 I = tbl 3 (o - 5) ∧ lTop B h o I = tbl 1 (o - 5))
theorem s_66 {o p : Nat} (ha : a = B + 8 ∨ a = B + 22) (H : Lay B w) (hO : StO K B w I) (hp : w.2.1 (B + 2) 1 = some a) (hX : XE B a bs t n c r h N nf tf I) (N1 : N < 1000) (o5 : 5 ≤ o) (o20 : o ≤ 20) (hpp : p ≤ 240) : ∃ I' J' I1, Cl K (d + 3) 66 [.ref (B + 2), .int (it o), .int (it p)] w I J = some (none, w, I', J') ∧ FEx B a I J I1 J ∧ I1 (B + 17) = I (B + 17) ∧ I1 (a + 1) = I (a + 1) ∧ I1 (a + 2) = I (a + 2) ∧ EmC B a bs t n c r h N nf (if ¬ oFit B h o I ∧ tf < 0 then p else tf) (if lTop B h o I = it (-1) then 1 else 2) (it o) (it 0) (tbl 2 (o - 5)) I1 J I' J' := by
  obtain ⟨q2, a1, a2, a3⟩ := tb_g hO (i := 2) (j := o - 5) (by omega) (by show o - 5 < 16; omega)
  obtain ⟨q1, b1, b2, b3⟩ := tb_g hO (i := 1) (j := o - 5) (by omega) (by show o - 5 < 16; omega)
  obtain ⟨q3, c1, c2, c3⟩ := tb_g hO (i := 3) (j := o - 5) (by omega) (by show o - 5 < 16; omega)
  have k25 : K 25 = .ref q2 := a1
  have k24 : K 24 = .ref q1 := b1
  have k26 : K 26 = .ref q3 := c1
  have a2' : w.1 q2 = some (20, 16) := a2
  have b2' : w.1 q1 = some (20, 16) := b2
  have c2' : w.1 q3 = some (20, 16) := c2
  obtain ⟨I1, x1, x2, x3, x4, x5, x6⟩ := s_68 (K := K) (d := d + 1) (J := J) (p := p) (oFit B h o I) ha H hX hpp
  obtain ⟨I', J', y1, y2⟩ := t_66 (K := K) (d := d) (J := J) (o := o) (p := p) (u := tTop B h 1 I) (x := lTop B h o I) ha H (StO_F ha x2 hO) hp x3 N1 o5 o20
  refine ⟨I', J', I1, ?_, x2, x4, x5, x6, y2⟩
  have f106 : oFit B h o I → f_66_106 K 0 (d + 2) (B + 2) (it o) (it p) (it ((o - 5 : Nat) : Int)) (tTop B h 1 I) (lTop B h o I) (B + 2) (it 1) w I J = some (none, w, I', J') := by
    intro hf
    rw [if_pos hf] at x1
    unfold f_66_106
    rw [gO_e (yt2 H), x1]
    exact y1
  have f105 : ¬ oFit B h o I → f_66_105 K 0 (d + 2) (B + 2) (it o) (it p) (it ((o - 5 : Nat) : Int)) (tTop B h 1 I) (lTop B h o I) (B + 2) w I J = some (none, w, I', J') := by
    intro hf
    rw [if_neg hf] at x1
    unfold f_66_105 f_66_106
    simp only [it_lit]
    rw [gO_e (yt2 H), x1]
    exact y1
  have f68 : oFit B h o I → f_66_68 K 0 (d + 2) (B + 2) (it o) (it p) (it ((o - 5 : Nat) : Int)) (tTop B h 1 I) (lTop B h o I) (B + 2) w I J = some (none, w, I', J') := by
    intro hf
    rw [if_pos hf] at x1
    unfold f_66_68 f_66_73
    simp only [it_lit]
    rw [gO_e (yt2 H), x1]
    exact y1
  have f72 : ¬ oFit B h o I → f_66_72 K 0 (d + 2) (B + 2) (it o) (it p) (it ((o - 5 : Nat) : Int)) (tTop B h 1 I) (lTop B h o I) (B + 2) w I J = some (none, w, I', J') := by
    intro hf
    rw [if_neg hf] at x1
    unfold f_66_72 f_66_73
    simp only [it_lit]
    rw [gO_e (yt2 H), x1]
    exact y1
  have main : f_66_41 K 0 (d + 2) (B + 2) (it o) (it p) (it ((o - 5 : Nat) : Int)) (tTop B h 1 I) (lTop B h o I) w I J = some (none, w, I', J') := by
    unfold f_66_41
    simp only [it_lit]
    by_cases e : o = 16
    · rw [if_neg (fun q => q (by rw [e]; rfl))]
      have hfit : oFit B h o I ↔ tTop B h 1 I = lTop B h o I ∧ (tTop B h 1 I = it 0 ∨ tTop B h 1 I = it 1) := ⟨fun z => z.elim (fun q => q.2) (fun q => absurd e q.1), fun z => Or.inl ⟨e, z⟩⟩
      by_cases e1 : tTop B h 1 I = lTop B h o I
      · rw [if_neg (fun q => q e1)]
        by_cases e2 : tTop B h 1 I = it 0
        · rw [if_pos e2]; exact f68 (hfit.mpr ⟨e1, Or.inl e2⟩)
        · rw [if_neg e2]
          by_cases e3 : tTop B h 1 I = it 1
          · rw [if_neg (fun q => q e3)]; exact f68 (hfit.mpr ⟨e1, Or.inr e3⟩)
          · rw [if_pos e3]; exact f72 (fun q => by rcases (hfit.mp q).2 with z | z <;> contradiction)
      · rw [if_pos e1]; exact f72 (fun q => e1 (hfit.mp q).1)
    · have hfit : oFit B h o I ↔ tTop B h 1 I = tbl 3 (o - 5) ∧ lTop B h o I = tbl 1 (o - 5) := ⟨fun z => z.elim (fun q => absurd q.1 e) (fun q => q.2), fun z => Or.inr ⟨e, z⟩⟩
      rw [if_pos (fun q => by have := (it_eq (by omega) (by omega) (by omega) (by omega)).mp q; omega), k26, k24]
      simp only [kR]
      rw [gA_e c2' (Or.inr rfl) (ix (by omega) (by omega) (by omega)), it_n (by omega), c3]
      by_cases e1 : tTop B h 1 I = tbl 3 (o - 5)
      · rw [if_neg (fun q => q e1), gA_e b2' (Or.inr rfl) (ix (by omega) (by omega) (by omega)), b3]
        by_cases e2 : lTop B h o I = tbl 1 (o - 5)
        · rw [if_neg (fun q => q e2)]; exact f106 (hfit.mpr ⟨e1, e2⟩)
        · rw [if_pos e2]; exact f105 (fun q => e2 (hfit.mp q).2)
      · rw [if_pos e1]; exact f105 (fun q => e1 (hfit.mp q).1)
  apply cl_66 (k := 0)
  unfold f_66
  simp only [it_lit, it_neg, lt_p, it_sub]
  rw [show ((o : Int) - 5) = ((o - 5 : Nat) : Int) by omega, if_neg (fun q => by have := (it_lt (by omega) (by omega) (by omega) (by omega)).mp q; omega), k25]
  simp only [kR]
  have e67 := s_67 (K := K) (d := d + 1) (J := J) (i := 1) H hX (by omega) (by omega)
  have e67' := s_67 (K := K) (d := d + 1) (J := J) (i := 2) H hX (by omega) (by omega)
  rw [gL_e a2' (by omega), it_nat, if_pos ((it_lt (by omega) (by omega) (by omega) (by omega)).mpr (by omega)), gO_e (yt2 H)]
  refine Eq.trans (congrArg (fun z => cI z _) e67) ?_
  simp only [cI_e]
  rw [k24]
  simp only [kR, gO_e (yt2 H)]
  rw [gA_e b2' (Or.inr rfl) (ix (by omega) (by omega) (by omega)), it_n (by omega), b3]
  by_cases e : o < 11
  · have : ¬ it 0 ≤ tbl 1 (o - 5) := by
      have : ∀ j : Fin 6, ¬ it 0 ≤ tbl 1 j.val := by decide +kernel
      exact this ⟨o - 5, by omega⟩
    rw [if_neg this]
    have el : lTop B h o I = it (-1) := by unfold lTop; rw [if_pos e]
    rw [el] at main
    exact main
  · have : it 0 ≤ tbl 1 (o - 5) := by
      have : ∀ j : Fin 16, 6 ≤ j.val → it 0 ≤ tbl 1 j.val := by decide +kernel
      exact this ⟨o - 5, by omega⟩ (by simp only; omega)
    rw [if_pos this]
    refine Eq.trans (congrArg (fun z => cI z _) e67') ?_
    simp only [cI_e]
    have el : lTop B h o I = tTop B h 2 I := by unfold lTop; rw [if_neg e]
    rw [el] at main
    exact main
end OPR

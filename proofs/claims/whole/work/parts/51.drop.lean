/-! a run with fewer locals known is a run with more -/
def sm_le : aL → aL → Prop
  | [], [] => True
  | none :: a, none :: b => sm_le a b
  | none :: a, some v :: b => v.category = 1 ∧ sm_le a b
  | some u :: a, some v :: b => u = v ∧ sm_le a b
  | _, _ => False
theorem sm_le.len : ∀ {L L' : aL}, sm_le L L' → L.length = L'.length := by
  intro L
  induction L with
  | nil => intro L' h; cases L' with
    | nil => rfl
    | cons x r => cases x <;> exact absurd h (by simp [sm_le])
  | cons x r ih =>
    intro L' h
    cases L' with
    | nil => cases x <;> exact absurd h (by simp [sm_le])
    | cons x' r' =>
      cases x <;> cases x' <;> simp only [sm_le] at h
      · simp [ih h]
      · simp [ih h.2]
      · simp [ih h.2]
theorem sm_le.get : ∀ {L L' : aL} {i : Nat} {v : Value}, sm_le L L' → L.getD i none = some v → L'.getD i none = some v := by
  intro L
  induction L with
  | nil => intro L' i v h e; simp at e
  | cons x r ih =>
    intro L' i v h e
    cases L' with
    | nil => cases x <;> exact absurd h (by simp [sm_le])
    | cons x' r' =>
      cases i with
      | zero =>
        simp at e
        subst e
        cases x' <;> simp only [sm_le] at h
        simp [h.1]
      | succ i =>
        simp only [List.getD_cons_succ] at e ⊢
        cases x <;> cases x' <;> simp only [sm_le] at h
        · exact ih h e
        · exact ih h.2 e
        · exact ih h.2 e
theorem sm_le.cat : ∀ {L L' : aL} {i : Nat} {v : Value}, sm_le L L' → L'.getD i none = some v → L.getD i none = some v ∨ v.category = 1 := by
  intro L
  induction L with
  | nil => intro L' i v h e; cases L' with
    | nil => simp at e
    | cons x r => cases x <;> exact absurd h (by simp [sm_le])
  | cons x r ih =>
    intro L' i v h e
    cases L' with
    | nil => cases x <;> exact absurd h (by simp [sm_le])
    | cons x' r' =>
      cases i with
      | zero =>
        simp at e
        subst e
        cases x <;> simp only [sm_le] at h
        · exact Or.inr h.1
        · left; simp [h.1]
      | succ i =>
        simp only [List.getD_cons_succ] at e ⊢
        cases x <;> cases x' <;> simp only [sm_le] at h
        · exact ih h e
        · exact ih h.2 e
        · exact ih h.2 e
theorem sm_le.okS {L L' : aL} {i : Nat} (h : sm_le L L') (e : sm_okS L i = true) : sm_okS L' i = true := by
  cases i with
  | zero => rfl
  | succ j =>
    simp only [sm_okS] at e ⊢
    cases h1 : L'.getD j none with
    | none => rfl
    | some v =>
      rcases h.cat h1 with h2 | h2
      · rw [h2] at e; exact e
      · simp [h2]
theorem sm_le.set : ∀ {L L' : aL} (i : Nat) (v : Value), sm_le L L' → sm_le (L.set i (some v)) (L'.set i (some v)) := by
  intro L
  induction L with
  | nil => intro L' i v h; cases L' with
    | nil => simp [sm_le]
    | cons x r => cases x <;> exact absurd h (by simp [sm_le])
  | cons x r ih =>
    intro L' i v h
    cases L' with
    | nil => cases x <;> exact absurd h (by simp [sm_le])
    | cons x' r' =>
      cases i with
      | zero => cases x <;> cases x' <;> simp only [sm_le] at h <;> simp only [List.set_cons_zero, sm_le] <;> first | exact ⟨trivial, h⟩ | exact ⟨trivial, h.2⟩ | exact ⟨rfl, h⟩ | exact ⟨rfl, h.2⟩
      | succ i => cases x <;> cases x' <;> simp only [sm_le] at h <;> simp only [List.set_cons_succ, sm_le] <;> first | exact ih i v h | exact ⟨h.1, ih i v h.2⟩
theorem sm_le.set0 : ∀ {L L' : aL} (i : Nat), sm_le L L' → sm_le (L.set i none) (L'.set i none) := by
  intro L
  induction L with
  | nil => intro L' i h; cases L' with
    | nil => simp [sm_le]
    | cons x r => cases x <;> exact absurd h (by simp [sm_le])
  | cons x r ih =>
    intro L' i h
    cases L' with
    | nil => cases x <;> exact absurd h (by simp [sm_le])
    | cons x' r' =>
      cases i with
      | zero => cases x <;> cases x' <;> simp only [sm_le] at h <;> simp only [List.set_cons_zero, sm_le] <;> first | exact h | exact h.2
      | succ i => cases x <;> cases x' <;> simp only [sm_le] at h <;> simp only [List.set_cons_succ, sm_le] <;> first | exact ih i h | exact ⟨h.1, ih i h.2⟩
theorem sm_le.st1 {L L' L1 : aL} {i : Nat} {v : Value} (h : sm_le L L') (e : sm_st1 L i v = some L1) : ∃ L2, sm_st1 L' i v = some L2 ∧ sm_le L1 L2 := by
  unfold sm_st1 at *
  split at e
  · rename_i hc
    cases e
    simp only [Bool.and_eq_true, decide_eq_true_eq] at hc
    rw [if_pos (by simp only [Bool.and_eq_true, decide_eq_true_eq]; exact ⟨h.okS hc.1, by rw [← h.len]; exact hc.2⟩)]
    exact ⟨_, rfl, h.set i v⟩
  · cases e
theorem sm_le.st2 {L L' L1 : aL} {i : Nat} {v : Value} (h : sm_le L L') (e : sm_st2 L i v = some L1) : ∃ L2, sm_st2 L' i v = some L2 ∧ sm_le L1 L2 := by
  unfold sm_st2 at *
  split at e
  · rename_i hc
    cases e
    simp only [Bool.and_eq_true, decide_eq_true_eq] at hc
    rw [if_pos (by simp only [Bool.and_eq_true, decide_eq_true_eq]; exact ⟨h.okS hc.1, by rw [← h.len]; exact hc.2⟩)]
    exact ⟨_, rfl, (h.set i v).set0 (i + 1)⟩
  · cases e
set_option maxHeartbeats 2000000 in
theorem sm_le.stp {K : Nat → Value} {r : aRow} {pc pc1 : Nat} {L L' L1 : aL} {st st1 : List Value} {w w1 : aW} {I I1 : aI} {J J1 : aJ} (h : sm_le L L') (e : sm_stp K r pc L st w I J = some (pc1, L1, st1, w1, I1, J1)) : ∃ L2, sm_stp K r pc L' st w I J = some (pc1, L2, st1, w1, I1, J1) ∧ sm_le L1 L2 := by
  obtain ⟨i, len, a, b, k0, e0, f0, z, zl⟩ := r
  cases i
  case iload_n => simp only [sm_stp] at e ⊢; split at e; (rename_i h1; rw [h.get h1]; cases e; exact ⟨_, rfl, h⟩); cases e
  case iload => simp only [sm_stp] at e ⊢; split at e; (rename_i h1; rw [h.get h1]; cases e; exact ⟨_, rfl, h⟩); cases e
  case lload_n => simp only [sm_stp] at e ⊢; split at e; (rename_i h1; rw [h.get h1]; cases e; exact ⟨_, rfl, h⟩); cases e
  case lload => simp only [sm_stp] at e ⊢; split at e; (rename_i h1; rw [h.get h1]; cases e; exact ⟨_, rfl, h⟩); cases e
  case aload_n => simp only [sm_stp] at e ⊢; split at e; (rename_i h1; rw [h.get h1]; cases e; exact ⟨_, rfl, h⟩); cases e
  case aload => simp only [sm_stp] at e ⊢; split at e; (rename_i h1; rw [h.get h1]; cases e; exact ⟨_, rfl, h⟩); cases e
  case istore_n => simp only [sm_stp] at e ⊢; split at e; (obtain ⟨h1, rfl, rfl, rfl, rfl, rfl⟩ := sm_nl_s e; obtain ⟨L2, h2, h3⟩ := h.st1 h1; exact ⟨L2, by rw [h2]; rfl, h3⟩); cases e
  case istore => simp only [sm_stp] at e ⊢; split at e; (obtain ⟨h1, rfl, rfl, rfl, rfl, rfl⟩ := sm_nl_s e; obtain ⟨L2, h2, h3⟩ := h.st1 h1; exact ⟨L2, by rw [h2]; rfl, h3⟩); cases e
  case lstore_n => simp only [sm_stp] at e ⊢; split at e; (obtain ⟨h1, rfl, rfl, rfl, rfl, rfl⟩ := sm_nl_s e; obtain ⟨L2, h2, h3⟩ := h.st2 h1; exact ⟨L2, by rw [h2]; rfl, h3⟩); cases e
  case lstore => simp only [sm_stp] at e ⊢; split at e; (obtain ⟨h1, rfl, rfl, rfl, rfl, rfl⟩ := sm_nl_s e; obtain ⟨L2, h2, h3⟩ := h.st2 h1; exact ⟨L2, by rw [h2]; rfl, h3⟩); cases e
  case astore_n => simp only [sm_stp] at e ⊢; split at e; (obtain ⟨h1, rfl, rfl, rfl, rfl, rfl⟩ := sm_nl_s e; obtain ⟨L2, h2, h3⟩ := h.st1 h1; exact ⟨L2, by rw [h2]; rfl, h3⟩); cases e
  case astore => simp only [sm_stp] at e ⊢; split at e; (obtain ⟨h1, rfl, rfl, rfl, rfl, rfl⟩ := sm_nl_s e; obtain ⟨L2, h2, h3⟩ := h.st1 h1; exact ⟨L2, by rw [h2]; rfl, h3⟩); cases e
  case iinc => simp only [sm_stp] at e ⊢; split at e; (rename_i h0; rw [h.get h0]; obtain ⟨h1, rfl, rfl, rfl, rfl, rfl⟩ := sm_nl_s e; obtain ⟨L2, h2, h3⟩ := h.st1 h1; exact ⟨L2, by simp only [h2]; rfl, h3⟩); cases e
  all_goals
    simp only [sm_stp, sm_nx, sm_jm, sm_putf, sm_iast, sm_zast, sm_last, sm_rast, sm_newa] at e ⊢
    repeat' split at e
    all_goals first
      | (cases e; exact ⟨_, rfl, h⟩)
      | (cases e; simp_all; done)
      | cases e
theorem sm_prm_L {b pc : Nat} (L : aL) {st : List Value} {w : aW} {I : aI} {J : aJ} : sm_prm b pc L st w I J = (sm_prm b pc [] st w I J).map (fun q => (q.1, L, q.2.2)) := by
  unfold sm_prm
  by_cases h3 : b = 3
  · rw [if_pos h3, if_pos h3]
    unfold sm_oin
    split
    · split <;> rfl
    · rfl
  · rw [if_neg h3, if_neg h3]
    by_cases h4 : b = 4
    · rw [if_pos h4, if_pos h4]
      unfold sm_acp
      split
      · split
        · split <;> rfl
        · rfl
      · rfl
    · rw [if_neg h4, if_neg h4]
      by_cases h6 : b = 6
      · rw [if_pos h6, if_pos h6]
        unfold sm_mm
        split
        · rename_i rr
          by_cases hc : sm_cs rr ≤ 8
          · rw [if_pos hc, if_pos hc]; rfl
          · rw [if_neg hc, if_neg hc]; rfl
        · rfl
      · rw [if_neg h6, if_neg h6]
        unfold sm_mm
        split
        · rename_i rr
          by_cases hc : sm_cs rr ≤ 8
          · rw [if_pos hc, if_pos hc]; rfl
          · rw [if_neg hc, if_neg hc]; rfl
        · rfl
theorem sm_le.prm {b pc pc1 : Nat} {L L' L1 : aL} {st st1 : List Value} {w w1 : aW} {I I1 : aI} {J J1 : aJ} (_ : sm_le L L') (e : sm_prm b pc L st w I J = some (pc1, L1, st1, w1, I1, J1)) : sm_prm b pc L' st w I J = some (pc1, L', st1, w1, I1, J1) ∧ L1 = L := by
  rw [sm_prm_L] at e ⊢
  cases h : sm_prm b pc [] st w I J with
  | none => rw [h] at e; cases e
  | some q => obtain ⟨q1, q2, q3, q4, q5, q6⟩ := q; rw [h] at e; cases e; exact ⟨rfl, rfl⟩
theorem sm_le.run {K : Nat → Value} : ∀ (n d y pc : Nat) (L L' : aL) (st : List Value) (w : aW) (I : aI) (J : aJ) (R : aR), sm_le L L' → sm_run K n d y pc L st w I J = some R → sm_run K n d y pc L' st w I J = some R := by
  intro n
  induction n with
  | zero => intro d y pc L L' st w I J R h e; cases e
  | succ n ih =>
    intro d y pc L L' st w I J R h e
    rw [sm_run] at e ⊢
    split at e
    · cases e
    · rename_i r hr
      split at e
      · rename_i hk
        split at e
        · rename_i pc1 L1 st1 w1 I1 J1 hs
          obtain ⟨L2, h2, h3⟩ := h.stp hs
          simp only [h2]
          exact ih _ _ _ _ _ _ _ _ _ _ h3 e
        · cases e
      · exact e
      · rename_i hk1 hk2
        split at e
        · cases e
        · split at e
          · rename_i hp
            rw [if_pos hp]
            split at e
            · rename_i pc1 L1 st1 w1 I1 J1 hs
              obtain ⟨h2, rfl⟩ := h.prm hs
              simp only [h2]
              exact ih _ _ _ _ _ _ _ _ _ _ h e
            · cases e
          · rename_i hp
            rw [if_neg hp]
            split at e
            · cases e
            · split at e
              · rename_i hq
                rw [if_pos hq]
                split at e
                · exact ih _ _ _ _ _ _ _ _ _ _ h e
                · cases e
              · cases e
theorem go_drop {K : Nat → Value} {d y pc : Nat} (L : aL) {L' : aL} {st : List Value} {w : aW} {I : aI} {J : aJ} {R : aR} (h : sm_le L L') (g : Go K d y pc L st w I J R) : Go K d y pc L' st w I J R := by
  obtain ⟨n, e⟩ := g
  exact ⟨n, sm_le.run _ _ _ _ _ _ _ _ _ _ _ h e⟩
theorem gs_ri {K : Nat → Value} {d y pc a b c e f : Nat} {z x : Int32} {zl : Int64} {L : aL} {w : aW} {I : aI} {J : aJ} (hcd : sm_cd y pc = some (.ireturn, 1, a, b, c, e, f, z, zl)) (hc : c = 1 ∨ c = 2 ∧ (x = 0 ∨ x = 1) ∨ c = 5 ∧ (x.toUInt32 % 65536).toInt32 = x ∨ c = 6 ∧ x.toInt8.toInt32 = x) : Go K d y pc L [.int x] w I J (some (.int x), w, I, J) :=
  gsr hcd rfl (by simp only [sm_ret]; rw [if_pos hc])

/-! the real machine does what the small one does -/
theorem sm_stp_le {K : Nat → Value} {r : aRow} {pc pc' : Nat} {L L' : aL} {st st' : List Value} {w w' : aW} {I I' : aI} {J J' : aJ} (h : sm_stp K r pc L st w I J = some (pc', L', st', w', I', J')) : w.2.2.1 ≤ w'.2.2.1 ∧ w.2.2.2 ≤ w'.2.2.2 := by
  obtain ⟨i, len, a, b, k0, e0, f0, z, zl⟩ := r
  cases i <;> simp only [sm_stp, sm_nx, sm_nl, sm_jm, sm_putf, sm_iast, sm_zast, sm_last, sm_rast, sm_newa] at h
  all_goals
    repeat' split at h
    all_goals first
      | (cases h; exact ⟨Nat.le_refl _, Nat.le_refl _⟩)
      | (cases h; exact ⟨Nat.le_succ _, Nat.le_add_right _ _⟩)
      | cases h
theorem sm_prm_le {b pc pc' : Nat} {L L' : aL} {st st' : List Value} {w w' : aW} {I I' : aI} {J J' : aJ} (h : sm_prm b pc L st w I J = some (pc', L', st', w', I', J')) : w' = w ∧ L' = L := by
  simp only [sm_prm, sm_oin, sm_acp, sm_mm] at h
  repeat' split at h
  all_goals first
    | (cases h; exact ⟨rfl, rfl⟩)
    | cases h
theorem sm_ret_s {k : Nat} {i : Instr} {st : List Value} {w w' : aW} {I I' : aI} {J J' : aJ} {v : Option Value} (h : sm_ret k i st w I J = some (v, w', I', J')) : w' = w ∧ I' = I ∧ J' = J ∧ st = v.toList := by
  unfold sm_ret at h
  cases i <;> simp only at h
  all_goals
    repeat' split at h
    all_goals first
      | (cases h; exact ⟨rfl, rfl, rfl, rfl⟩)
      | cases h
theorem sm_run_le {K : Nat → Value} : ∀ (n d y pc : Nat) (L : aL) (st : List Value) (w : aW) (I : aI) (J : aJ) (v : Option Value) (w' : aW) (I' : aI) (J' : aJ), sm_run K n d y pc L st w I J = some (v, w', I', J') → w.2.2.1 ≤ w'.2.2.1 ∧ w.2.2.2 ≤ w'.2.2.2 := by
  intro n
  induction n with
  | zero => intro d y pc L st w I J v w' I' J' h; cases h
  | succ n ih =>
    intro d y pc L st w I J v w' I' J' h
    simp only [sm_run] at h
    split at h
    · cases h
    · rename_i r hr
      split at h
      · split at h
        · rename_i pc1 L1 st1 w1 I1 J1 hs
          have h1 := sm_stp_le hs
          have h2 := ih _ _ _ _ _ _ _ _ _ _ _ _ h
          omega
        · cases h
      · obtain ⟨rfl, -, -, -⟩ := sm_ret_s h
        exact ⟨Nat.le_refl _, Nat.le_refl _⟩
      · split at h
        · cases h
        · split at h
          · split at h
            · rename_i pc1 L1 st1 w1 I1 J1 hs
              obtain ⟨rfl, rfl⟩ := sm_prm_le hs
              exact ih _ _ _ _ _ _ _ _ _ _ _ _ h
            · cases h
          · split at h
            · cases h
            · split at h
              · split at h
                · rename_i v1 w1 I1 J1 hs
                  have h1 := ih _ _ _ _ _ _ _ _ _ _ _ _ hs
                  have h2 := ih _ _ _ _ _ _ _ _ _ _ _ _ h
                  omega
                · cases h
              · cases h
/-- what a return instruction of a method brings -/
def sm_rok (y : Nat) (i : Instr) (v : Option Value) : Prop :=
  (i = .return_ ∧ v = none ∧ (gm y).2.2.2.2.1 = none) ∨ (i = .ireturn ∧ ∃ (x : Int32) (ty : FieldType), v = some (.int x) ∧ (gm y).2.2.2.2.1 = some ty ∧ narrow ty (.int x) = .int x)
  ∨ (i = .lreturn ∧ ∃ x : Int64, v = some (.long x) ∧ (gm y).2.2.2.2.1 = some .long) ∨ (i = .areturn ∧ ∃ q : Nat, v = some (.ref q) ∧ (gm y).2.2.2.2.1 = some (.object "ProvedMachine$Program"))
theorem sm_narC {x : Int32} (h : (x.toUInt32 % 65536).toInt32 = x) : narrow .char (.int x) = .int x := by
  have := pk_nc x
  rw [h] at this
  exact this
theorem sm_rok_of {y pc len a b k0 e0 f0 : Nat} {i : Instr} {z : Int32} {zl : Int64} {st : List Value} {w w' : aW} {I I' : aI} {J J' : aJ} {v : Option Value} (hr : sm_okI (gm y).1 y pc i len a b k0 e0 f0 z zl = true) (h : sm_ret k0 i st w I J = some (v, w', I', J')) : len = 1 ∧ sm_rok y i v := by
  unfold sm_ret at h
  cases i <;> simp only at h
  case return_ =>
    obtain ⟨rfl, h1⟩ := of_decide_eq_true hr
    split at h
    · cases h; exact ⟨rfl, Or.inl ⟨rfl, rfl, h1⟩⟩
    · cases h
  case ireturn =>
    obtain ⟨rfl, h1⟩ := of_decide_eq_true hr
    split at h
    · rename_i x
      split at h
      · rename_i hc
        cases h
        refine ⟨rfl, Or.inr (Or.inl ⟨rfl, x, ?_⟩)⟩
        rcases h1 with ⟨g1, g2⟩ | ⟨g1, g2⟩ | ⟨g1, g2⟩ | ⟨g1, g2⟩
        · exact ⟨_, rfl, g2, rfl⟩
        · refine ⟨_, rfl, g2, ?_⟩
          rcases hc with q | ⟨-, q | q⟩ | ⟨q, -⟩ | ⟨q, -⟩
          · omega
          · rw [q]; decide
          · rw [q]; decide
          · omega
          · omega
        · refine ⟨_, rfl, g2, ?_⟩
          rcases hc with q | ⟨q, -⟩ | ⟨-, q⟩ | ⟨q, -⟩
          · omega
          · omega
          · exact sm_narC q
          · omega
        · refine ⟨_, rfl, g2, ?_⟩
          rcases hc with q | ⟨q, -⟩ | ⟨q, -⟩ | ⟨-, q⟩
          · omega
          · omega
          · omega
          · show Value.int x.toInt8.toInt32 = _; rw [q]
      · cases h
    · cases h
  case lreturn =>
    obtain ⟨rfl, h1⟩ := of_decide_eq_true hr
    split at h
    · cases h; exact ⟨rfl, Or.inr (Or.inr (Or.inl ⟨rfl, _, rfl, h1⟩))⟩
    · cases h
  case areturn =>
    obtain ⟨rfl, h1⟩ := of_decide_eq_true hr
    split at h
    · cases h; exact ⟨rfl, Or.inr (Or.inr (Or.inr ⟨rfl, _, rfl, h1⟩))⟩
    · cases h
  all_goals cases h
theorem sm_as_s {b k : Nat} {st as rest : List Value} (h : sm_as b k st = some (as, rest)) : (b = 1 ∧ as.length = k ∧ st = as.reverse ++ rest) ∨ (¬ b = 1 ∧ ∃ (q : Nat) (As : List Value), as = .ref q :: As ∧ As.length = k ∧ st = As.reverse ++ .ref q :: rest) := by
  unfold sm_as at h
  split at h
  · rename_i hb
    split at h
    · rename_i hk
      cases h
      refine Or.inl ⟨hb, by simp; omega, ?_⟩
      rw [List.reverse_reverse, List.take_append_drop]
    · cases h
  · rename_i hb
    split at h
    · rename_i q r hq
      cases h
      refine Or.inr ⟨hb, q, (st.take k).reverse, rfl, ?_, ?_⟩
      · have : k < st.length := by
          have h1 := congrArg List.length hq
          simp at h1
          omega
        simp
        omega
      · rw [List.reverse_reverse, ← hq, List.take_append_drop]
    · cases h
theorem sm_mk0 : gmk.all (fun q => decide (¬ q.2.2.2 = 0) || decide ((gm q.2.2.1).1 < 8)) = true := by decide +kernel
theorem sm_mk_rng : gmk.all (fun q => decide (q.2.2.2 < 8)) = true := by decide +kernel
theorem sm_mfit_of {y : Nat} (h : y < gml.length) : (gm y).2.1.cls = gcn (gm y).1 ∧ (parseMethodDescriptor (gm y).2.1.desc).map (fun d => d.parameters.length) = some (gm y).2.2.2.2.2.1 ∧ plainName (gm y).2.1.cls = true ∧ (gm y).2.2.2.1 ≤ 22 ∧ (gm y).2.1.cls ≠ "java/lang/invoke/MethodHandle" ∧ (gm y).2.1.cls ≠ "java/lang/invoke/VarHandle" := by
  have h1 := List.all_eq_true.mp sm_mfit_all y (List.mem_range.mpr h)
  simp only [sm_mfit, Bool.and_eq_true, decide_eq_true_eq] at h1
  exact ⟨h1.1.1.1.1.1, h1.1.1.1.1.2, h1.1.1.1.2, h1.1.1.2, h1.1.2, h1.2⟩
theorem sm_mrow_of {y : Nat} (h0 : 0 < y) (h : y < gml.length) : (if gmlS.getD y false = true then Cond.static (gm y).2.1 else Cond.instanceMethod (gm y).2.1) ∈ tables_1 ∧ Cond.initialized (gm y).2.1.cls ∈ tables_1 := by
  have hy : y ∈ (List.range gml.length).drop 1 := List.mem_iff_getElem?.mpr ⟨y - 1, by rw [List.getElem?_drop, List.getElem?_range (by omega)]; congr 1; omega⟩
  obtain ⟨p, hp⟩ := sm_zip (f := fun q => sm_mrow q.1 q.2) (by decide +kernel) sm_mrow_all y hy
  simp only [sm_mrow, Bool.and_eq_true, decide_eq_true_eq] at hp
  exact ⟨List.mem_of_getElem? hp.1, List.mem_of_getElem? hp.2⟩
theorem sm_gS {y : Nat} (h : gmlS.getD y true = false) : gmlS.getD y false = false := by
  rw [List.getD_eq_getElem?_getD] at *
  cases h1 : gmlS[y]? with
  | none => rfl
  | some x => rw [h1] at h; exact h

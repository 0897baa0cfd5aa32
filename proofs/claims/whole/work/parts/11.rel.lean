/-! the small machine's cells beside the heap, its locals beside the frame's -/
def sm_cv (c : Nat) (i : Int32) (q : Option Nat) : Value := if c = 2 then va_rf q else .int i
/-- layouts, array classes, the border behind which all may be written, the constants -/
abbrev sm_G : Type := va_G × (Nat → ClassId) × Nat × (Nat → Value)
def sm_cell (G : sm_G) (U : State) (H : Heap) (w : aW) (I : aI) (J : aJ) (a t n : Nat) : Prop :=
  if t < 7 then G.2.2.1 ≤ a ∧ ∃ r : vw_C, gcl[t]? = some r ∧ t_OB a (G.1.1 t) r.2.2 (G.1.2 t) H (fun k => sm_cv (gft t k) (I a k) (w.2.1 a k))
  else if t = 10 then G.2.2.1 ≤ a ∧ H[a]? = some (arrV (G.2.1 10) n (fun j => .int (I a j)))
  else if t = 11 then G.2.2.1 ≤ a ∧ H[a]? = some (arrV (G.2.1 11) n (fun j => .long (J a j)))
  else if t = 12 then G.2.2.1 ≤ a ∧ H[a]? = some (arrV (G.2.1 12) n (fun j => .int (I a j)))
  else if t = 14 then G.2.2.1 ≤ a ∧ H[a]? = some (arrV (G.2.1 14) n (fun j => va_rf (w.2.1 a j)))
  else if t = 15 then G.2.2.1 ≤ a ∧ H[a]? = some (arrV (G.2.1 15) n (fun j => va_rf (w.2.1 a j)))
  else if t = 20 then va_T .int a n (fun j => .int (I a j)) (fun q => G.2.2.1 ≤ q) U H
  else t = 21 ∧ va_T .byte a n (fun j => .int (I a j)) (fun q => G.2.2.1 ≤ q) U H
theorem sm_cell.kept {G : sm_G} {U : State} {H H1 : Heap} {w w1 : aW} {I I1 : aI} {J J1 : aJ} {a t n : Nat} (h : sm_cell G U H w I J a t n) (hH : H1[a]? = H[a]?) (hI : I1 a = I a) (hJ : J1 a = J a) (hP : w1.2.1 a = w.2.1 a) : sm_cell G U H1 w1 I1 J1 a t n := by
  unfold sm_cell t_OB va_T at *
  simp only [hI, hJ, hP, hH]
  exact h
theorem sm_cell.lt {G : sm_G} {U : State} {H : Heap} {w : aW} {I : aI} {J : aJ} {a t n : Nat} (h : sm_cell G U H w I J a t n) : a < H.size := by
  have q : ∀ {c : Cell}, H[a]? = some c → a < H.size := fun h => (Array.getElem?_eq_some_iff.mp h).1
  unfold sm_cell at h
  split at h
  · obtain ⟨-, r, -, c, h1, -⟩ := h; exact q h1
  · split at h
    · exact q h.2
    · split at h
      · exact q h.2
      · split at h
        · exact q h.2
        · split at h
          · exact q h.2
          · split at h
            · exact q h.2
            · split at h
              · obtain ⟨c, h1, -⟩ := h; exact q h1
              · obtain ⟨-, c, h1, -⟩ := h; exact q h1
theorem sm_cell.moved {G : sm_G} {u U : State} {H : Heap} {w : aW} {I : aI} {J : aJ} {a t n : Nat} (hvm : u.vm.Alike U.vm) (h : sm_cell G u H w I J a t n) : sm_cell G U H w I J a t n := by
  unfold sm_cell at *
  split
  · rename_i h7; rw [if_pos h7] at h; exact h
  · rename_i h7; rw [if_neg h7] at h
    split
    · rename_i h1; rw [if_pos h1] at h; exact h
    · rename_i h1; rw [if_neg h1] at h
      split
      · rename_i h1; rw [if_pos h1] at h; exact h
      · rename_i h1; rw [if_neg h1] at h
        split
        · rename_i h1; rw [if_pos h1] at h; exact h
        · rename_i h1; rw [if_neg h1] at h
          split
          · rename_i h1; rw [if_pos h1] at h; exact h
          · rename_i h1; rw [if_neg h1] at h
            split
            · rename_i h1; rw [if_pos h1] at h; exact h
            · rename_i h1; rw [if_neg h1] at h
              split
              · rename_i h1; rw [if_pos h1] at h; exact va_T.moved hvm h
              · rename_i h1; rw [if_neg h1] at h; exact ⟨h.1, va_T.moved hvm h.2⟩
/-- a String constant's cell -/
def sm_str (G : sm_G) (U : State) (H : Heap) (w : aW) (q : Nat) : Prop := va_O "java/lang/String" q (fun x => G.2.2.1 ≤ x) U H ∧ va_OF "java/lang/String" "value" "[B" (va_rf (w.2.1 q 0)) q (fun x => G.2.2.1 ≤ x) U H ∧ va_OF "java/lang/String" "coder" "B" (.int 0) q (fun x => G.2.2.1 ≤ x) U H
theorem sm_str.moved {G : sm_G} {u U : State} {H : Heap} {w : aW} {q : Nat} (hvm : u.vm.Alike U.vm) (h : sm_str G u H w q) : sm_str G U H w q := ⟨va_O.moved hvm h.1, va_OF.moved hvm h.2.1, va_OF.moved hvm h.2.2⟩
theorem sm_str.kept {G : sm_G} {U : State} {H H1 : Heap} {w w1 : aW} {q : Nat} (h : sm_str G U H w q) (hH : ∀ b : Nat, b < H.size → ¬ G.2.2.1 ≤ b → H1[b]? = H[b]?) (hP : ¬ G.2.2.1 ≤ q → w1.2.1 q = w.2.1 q) : sm_str G U H1 w1 q := by
  obtain ⟨h1, h2, h3⟩ := h
  have hq : ¬ G.2.2.1 ≤ q := by obtain ⟨_, _, _, _, h4⟩ := h1; exact h4
  refine ⟨h1.kept hH, ?_, h3.kept hH⟩
  rw [hP hq]
  exact h2.kept hH
/-- the heap holds the cells -/
def sm_HX (G : sm_G) (U : State) (H : Heap) (w : aW) (I : aI) (J : aJ) : Prop :=
  H.size = w.2.2.1 ∧ G.2.2.1 ≤ w.2.2.1 ∧ (∀ a t n : Nat, w.1 a = some (t, n) → sm_cell G U H w I J a t n) ∧ (∀ (i : Nat) (q : String × String × String), gsnL[i]? = some q → va_Z q.1 q.2.1 q.2.2 (G.2.2.2 (gs0 + i)) (fun a => G.2.2.1 ≤ a) U H) ∧ ∀ i q : Nat, i < gstr.length → G.2.2.2 i = .ref q → sm_str G U H w q
theorem sm_HX.moved {G : sm_G} {u U : State} {H : Heap} {w : aW} {I : aI} {J : aJ} (hvm : u.vm.Alike U.vm) (h : sm_HX G u H w I J) : sm_HX G U H w I J :=
  ⟨h.1, h.2.1, fun a t n e => (h.2.2.1 a t n e).moved hvm, fun i q e => va_Z.moved hvm (h.2.2.2.1 i q e), fun i q hi e => (h.2.2.2.2 i q hi e).moved hvm⟩
theorem sm_HX.put {G : sm_G} {U : State} {H H1 : Heap} {w w1 : aW} {I I1 : aI} {J J1 : aJ} (h : sm_HX G U H w I J) {a : Nat} (ha : G.2.2.1 ≤ a) (hz : H1.size = H.size) (ho : ∀ q : Nat, q ≠ a → H1[q]? = H[q]?) (hw : w1.1 = w.1) (hw2 : w1.2.2 = w.2.2)
    (hI : ∀ q : Nat, q ≠ a → I1 q = I q) (hJ : ∀ q : Nat, q ≠ a → J1 q = J q) (hP : ∀ q : Nat, q ≠ a → w1.2.1 q = w.2.1 q) (hc : ∀ t n : Nat, w.1 a = some (t, n) → sm_cell G U H1 w1 I1 J1 a t n) : sm_HX G U H1 w1 I1 J1 := by
  have ko : ∀ b : Nat, b < H.size → ¬ G.2.2.1 ≤ b → H1[b]? = H[b]? := fun b _ hb => ho b (fun e => hb (by rw [e]; exact ha))
  refine ⟨by rw [hz, hw2]; exact h.1, by rw [hw2]; exact h.2.1, fun q t n e => ?_, fun i q e => ?_, fun i q hi e => ?_⟩
  · rw [hw] at e
    by_cases hq : q = a
    · subst hq; exact hc t n e
    · exact (h.2.2.1 q t n e).kept (ho q hq) (hI q hq) (hJ q hq) (hP q hq)
  · exact (h.2.2.2.1 i q e).kept ko
  · exact (h.2.2.2.2 i q hi e).kept ko (fun hq => hP q (fun e => hq (by rw [e]; exact ha)))
theorem sm_HX.new {G : sm_G} {U : State} {H H1 : Heap} {w : aW} {I I1 : aI} {J J1 : aJ} (h : sm_HX G U H w I J) {t n k : Nat} (hz : H1.size = H.size + 1) (ho : ∀ q : Nat, q < H.size → H1[q]? = H[q]?)
    (hI : ∀ q : Nat, q ≠ w.2.2.1 → I1 q = I q) (hJ : ∀ q : Nat, q ≠ w.2.2.1 → J1 q = J q) (hc : sm_cell G U H1 (sm_alc w t n k) I1 J1 w.2.2.1 t n) : sm_HX G U H1 (sm_alc w t n k) I1 J1 := by
  refine ⟨by rw [hz, h.1]; rfl, Nat.le_succ_of_le h.2.1, fun q t' n' e => ?_, fun i q e => ?_, fun i q hi e => ?_⟩
  · by_cases hq : q = w.2.2.1
    · subst hq
      have e2 : some (t, n) = some (t', n') := by
        have : (sm_alc w t n k).1 w.2.2.1 = some (t, n) := by simp [sm_alc, sm_up1]
        rw [this] at e; exact e
      cases e2
      exact hc
    · have e2 : w.1 q = some (t', n') := by
        have : (sm_alc w t n k).1 q = w.1 q := by simp [sm_alc, sm_up1, hq]
        rw [this] at e; exact e
      have hk := h.2.2.1 q t' n' e2
      exact hk.kept (ho q hk.lt) (hI q hq) (hJ q hq) (by simp [sm_alc, sm_up1, hq])
  · exact (h.2.2.2.1 i q e).kept (fun b hb _ => ho b hb)
  · exact (h.2.2.2.2 i q hi e).kept (fun b hb _ => ho b hb) (fun hq => by
      have : q ≠ w.2.2.1 := fun e => hq (by rw [e]; exact h.2.1)
      simp [sm_alc, sm_up1, this])
theorem sm_isS_of {G : sm_G} {U : State} {H : Heap} {w : aW} {I : aI} {J : aJ} {q : Nat} (h : sm_HX G U H w I J) (hq : sm_isS G.2.2.2 q = true) : sm_str G U H w q := by
  unfold sm_isS at hq
  obtain ⟨i, h1, h2⟩ := List.any_eq_true.mp hq
  exact h.2.2.2.2 i q (List.mem_range.mp h1) (of_decide_eq_true h2)
/-- locals by their places -/
def sm_asc : Nat → aL → List (Nat × Value)
  | _, [] => []
  | k, some v :: r => (k, v) :: sm_asc (k + 1) r
  | k, none :: r => sm_asc (k + 1) r
theorem sm_asc_mem {L : aL} : ∀ {k i : Nat} {v : Value}, (i, v) ∈ sm_asc k L ↔ ∃ j : Nat, i = k + j ∧ L[j]? = some (some v) := by
  induction L with
  | nil => intro k i v; simp [sm_asc]
  | cons x r ih =>
    intro k i v
    cases x with
    | none =>
      simp only [sm_asc]
      rw [ih]
      constructor
      · rintro ⟨j, h1, h2⟩; exact ⟨j + 1, by omega, by simpa using h2⟩
      · rintro ⟨j, h1, h2⟩
        cases j with
        | zero => simp at h2
        | succ j => exact ⟨j, by omega, by simpa using h2⟩
    | some y =>
      simp only [sm_asc, List.mem_cons]
      rw [ih]
      constructor
      · rintro (h | ⟨j, h1, h2⟩)
        · cases h; exact ⟨0, by omega, by simp⟩
        · exact ⟨j + 1, by omega, by simpa using h2⟩
      · rintro ⟨j, h1, h2⟩
        cases j with
        | zero => left; simp at h2; subst h2; simp at h1; subst h1; rfl
        | succ j => exact Or.inr ⟨j, by omega, by simpa using h2⟩
def sm_lv (ls : Array Slot) (nL : Nat) (L : aL) : Prop := lv_has ls nL (sm_asc 0 L) ∧ L.length = nL
theorem sm_gd {L : aL} {a : Nat} {v : Value} : L.getD a none = some v ↔ L[a]? = some (some v) := by
  rw [List.getD_eq_getElem?_getD]
  cases h : L[a]? with
  | none => simp
  | some x => simp
theorem sm_lv.get {ls : Array Slot} {nL : Nat} {L : aL} (h : sm_lv ls nL L) {a : Nat} {v : Value} (e : L.getD a none = some v) : ls[a]? = some (.val v) :=
  h.1.2.2 (a, v) (sm_asc_mem.mpr ⟨a, by omega, sm_gd.mp e⟩)
theorem sm_lv.size {ls : Array Slot} {nL : Nat} {L : aL} (h : sm_lv ls nL L) : ls.size = nL := h.1.1
theorem sm_okS_ne {L : aL} {i j : Nat} {v : Value} (h : sm_okS L i = true) (hj : L[j]? = some (some v)) (e : j + 1 = i) : ¬ v.category = 2 := by
  subst e
  have hg := sm_gd.mpr hj
  simp only [sm_okS, hg] at h
  have : v.category = 1 := by simpa using h
  omega
theorem sm_lv.set1 {nL : Nat} {L L' : aL} {i : Nat} {v : Value} (hn : L.length = nL) (e : sm_st1 L i v = some L') : i < nL ∧ ∀ ls' : Array Slot, lv_has ls' nL ((i, v) :: (sm_asc 0 L).filter (fun q => !(q.1 == i) && !(q.1 + 1 == i && q.2.category == 2))) → sm_lv ls' nL L' := by
  unfold sm_st1 at e
  split at e
  · rename_i hc
    simp only [Bool.and_eq_true, decide_eq_true_eq] at hc
    cases e
    refine ⟨by omega, fun ls' h => ⟨⟨h.1, h.2.1, fun q hq => h.2.2 q ?_⟩, by simp [hn]⟩⟩
    obtain ⟨j, u⟩ := q
    obtain ⟨k, e1, e2⟩ := sm_asc_mem.mp hq
    have e1 : j = k := by omega
    subst e1
    by_cases hj : j = i
    · subst hj
      rw [List.getElem?_set_self (by omega)] at e2
      cases e2
      exact List.mem_cons_self
    · rw [List.getElem?_set_ne (Ne.symm hj)] at e2
      refine List.mem_cons_of_mem _ (List.mem_filter.mpr ⟨sm_asc_mem.mpr ⟨j, by omega, e2⟩, ?_⟩)
      by_cases hk : j + 1 = i
      · have := sm_okS_ne hc.1 e2 hk
        simp [hj, this]
      · simp [hj, hk]
  · cases e
theorem sm_lv.set2 {nL : Nat} {L L' : aL} {i : Nat} {v : Value} (hn : L.length = nL) (e : sm_st2 L i v = some L') : i + 1 < nL ∧ ∀ ls' : Array Slot, lv_has ls' nL ((i, v) :: (sm_asc 0 L).filter (fun q => !(q.1 == i) && (!(q.1 == i + 1) && !(q.1 + 1 == i && q.2.category == 2)))) → sm_lv ls' nL L' := by
  unfold sm_st2 at e
  split at e
  · rename_i hc
    simp only [Bool.and_eq_true, decide_eq_true_eq] at hc
    cases e
    refine ⟨by omega, fun ls' h => ⟨⟨h.1, h.2.1, fun q hq => h.2.2 q ?_⟩, by simp [hn]⟩⟩
    obtain ⟨j, u⟩ := q
    obtain ⟨k, e1, e2⟩ := sm_asc_mem.mp hq
    have e1 : j = k := by omega
    subst e1
    by_cases h2 : j = i + 1
    · subst h2
      rw [List.getElem?_set_self (by simp; omega)] at e2
      cases e2
    · rw [List.getElem?_set_ne (Ne.symm h2)] at e2
      by_cases hj : j = i
      · subst hj
        rw [List.getElem?_set_self (by omega)] at e2
        cases e2
        exact List.mem_cons_self
      · rw [List.getElem?_set_ne (Ne.symm hj)] at e2
        refine List.mem_cons_of_mem _ (List.mem_filter.mpr ⟨sm_asc_mem.mpr ⟨j, by omega, e2⟩, ?_⟩)
        by_cases hk : j + 1 = i
        · have := sm_okS_ne hc.1 e2 hk
          simp [hj, h2, this]
        · simp [hj, h2, hk]
  · cases e
/-- a method's entry -/
theorem sm_slv_args {vs : List Value} : ∀ (k : Nat), sm_asc k (sm_slv vs) = lv_args k vs := by
  induction vs with
  | nil => intro k; rfl
  | cons v r ih =>
    intro k
    by_cases hc : v.category = 2
    · simp [sm_slv, lv_args, hc, sm_asc, ih]
    · simp [sm_slv, lv_args, hc, sm_asc, ih]
theorem sm_slv_len {vs : List Value} : (sm_slv vs).length = (lg_sl vs).length := by
  induction vs with
  | nil => rfl
  | cons v r ih =>
    by_cases hc : v.category = 2
    · simp [sm_slv, lg_sl, hc] at ih ⊢; exact ih
    · simp [sm_slv, lg_sl, hc] at ih ⊢; omega
theorem sm_lv.entry {vs : List Value} {n : Nat} (h : (sm_slv vs).length ≤ n) : sm_lv ((lg_sl vs ++ List.replicate (n - (lg_sl vs).length) Slot.unset).toArray) n (sm_ent n vs) := by
  have h0 := lv_entry vs (n := n) (by rw [← sm_slv_len]; exact h)
  refine ⟨⟨h0.1, h0.2.1, fun q hq => h0.2.2 q ?_⟩, by simp [sm_ent]; omega⟩
  obtain ⟨j, u⟩ := q
  rw [← sm_slv_args]
  obtain ⟨k, e1, e2⟩ := sm_asc_mem.mp hq
  refine sm_asc_mem.mpr ⟨k, e1, ?_⟩
  unfold sm_ent at e2
  by_cases hk : k < (sm_slv vs).length
  · rw [List.getElem?_append_left hk] at e2; exact e2
  · rw [List.getElem?_append_right (by omega)] at e2
    rw [List.getElem?_replicate] at e2
    split at e2 <;> cases e2

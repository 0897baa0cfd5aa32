/-! runs of the small machine, with the fuel hidden; what a method does as a function -/
def Go (K : Nat → Value) (d y pc : Nat) (L : aL) (st : List Value) (w : aW) (I : aI) (J : aJ) (R : aR) : Prop := ∃ n, sm_run K n d y pc L st w I J = some R
theorem sm_mono {K : Nat → Value} : ∀ (n d y pc : Nat) (L : aL) (st : List Value) (w : aW) (I : aI) (J : aJ) (R : aR), sm_run K n d y pc L st w I J = some R → sm_run K (n + 1) d y pc L st w I J = some R := by
  intro n
  induction n with
  | zero => intro d y pc L st w I J R h; cases h
  | succ n ih =>
    intro d y pc L st w I J R h
    rw [sm_run] at h ⊢
    split at h
    · cases h
    · rename_i r hr
      split at h
      · rename_i hk
        try simp only [hr, hk]
        split at h
        · rename_i pc1 L1 st1 w1 I1 J1 hs
          try simp only [hs]
          exact ih _ _ _ _ _ _ _ _ _ h
        · cases h
      · rename_i hk
        try simp only [hr, hk]
        exact h
      · rename_i hk1 hk2
        have hk : sm_knd r.1 = 2 := by
          have h3 : sm_knd r.1 = 0 ∨ sm_knd r.1 = 1 ∨ sm_knd r.1 = 2 := by cases r.1 <;> simp [sm_knd]
          rcases h3 with h3 | h3 | h3
          · exact absurd h3 hk1
          · exact absurd h3 hk2
          · exact h3
        try simp only [hr, hk]
        split at h
        · cases h
        · split at h
          · rename_i hp
            try rw [if_pos hp]
            split at h
            · rename_i pc1 L1 st1 w1 I1 J1 hs
              try simp only [hs]
              exact ih _ _ _ _ _ _ _ _ _ h
            · cases h
          · rename_i hp
            try rw [if_neg hp]
            split at h
            · cases h
            · rename_i as rest has
              try simp only [has]
              split at h
              · rename_i hq
                try rw [if_pos hq]
                split at h
                · rename_i v1 w1 I1 J1 hs
                  simp only [ih _ _ _ _ _ _ _ _ _ hs]
                  exact ih _ _ _ _ _ _ _ _ _ h
                · cases h
              · cases h
theorem sm_mono' {K : Nat → Value} {n m d y pc : Nat} {L : aL} {st : List Value} {w : aW} {I : aI} {J : aJ} {R : aR} (h : sm_run K n d y pc L st w I J = some R) (hm : n ≤ m) : sm_run K m d y pc L st w I J = some R := by
  induction hm with
  | refl => exact h
  | step _ ih => exact sm_mono _ _ _ _ _ _ _ _ _ _ ih
section GO
variable {K : Nat → Value} {d y pc pc' : Nat} {L L' : aL} {st st' : List Value} {w w' : aW} {I I' : aI} {J J' : aJ} {R R' : aR}
theorem Go.det (h : Go K d y pc L st w I J R) (h' : Go K d y pc L st w I J R') : R = R' := by
  obtain ⟨n, e⟩ := h
  obtain ⟨m, e'⟩ := h'
  have h1 := sm_mono' e (Nat.le_max_left n m)
  have h2 := sm_mono' e' (Nat.le_max_right n m)
  exact Option.some.inj (h1.symm.trans h2)
theorem gs_0 {r : aRow} (hcd : sm_cd y pc = some r) (hk : sm_knd r.1 = 0) (hs : sm_stp K r pc L st w I J = some (pc', L', st', w', I', J')) (h : Go K d y pc' L' st' w' I' J' R) : Go K d y pc L st w I J R := by
  obtain ⟨n, e⟩ := h
  exact ⟨n + 1, by simp only [sm_run, hcd, hk, hs]; exact e⟩
theorem gsr {r : aRow} (hcd : sm_cd y pc = some r) (hk : sm_knd r.1 = 1) (hs : sm_ret r.2.2.2.2.1 r.1 st w I J = some R) : Go K d y pc L st w I J R :=
  ⟨1, by simp only [sm_run, hcd, hk]; exact hs⟩
theorem go_ite {c : Prop} [Decidable c] {a b : Nat} (h1 : c → Go K d y a L st w I J R) (h2 : ¬ c → Go K d y b L st w I J R) : Go K d y (if c then a else b) L st w I J R := by
  by_cases h : c
  · rw [if_pos h]; exact h1 h
  · rw [if_neg h]; exact h2 h
theorem gsp {r : aRow} (hcd : sm_cd y pc = some r) (hk : sm_knd r.1 = 2) (hb : r.2.2.2.1 = 3 ∨ r.2.2.2.1 = 4 ∨ r.2.2.2.1 = 6 ∨ r.2.2.2.1 = 7) (hs : sm_prm r.2.2.2.1 (pc + 3) L st w I J = some (pc', L', st', w', I', J')) (h : Go K (d + 1) y pc' L' st' w' I' J' R) : Go K (d + 1) y pc L st w I J R := by
  obtain ⟨n, e⟩ := h
  refine ⟨n + 1, ?_⟩
  rw [sm_run]
  simp only [hcd, hk]
  rw [if_pos hb]
  simp only [hs]
  exact e
theorem gsc {r : aRow} {as rest : List Value} {v : Option Value} (hcd : sm_cd y pc = some r) (hk : sm_knd r.1 = 2) (hb : ¬ (r.2.2.2.1 = 3 ∨ r.2.2.2.1 = 4 ∨ r.2.2.2.1 = 6 ∨ r.2.2.2.1 = 7)) (has : sm_as r.2.2.2.1 r.2.2.2.2.1 st = some (as, rest))
    (hc : (sm_rv K r.2.2.2.1 r.2.2.2.2.2.2.1 as w && decide (sm_cs rest ≤ 8) && decide ((sm_slv as).length ≤ r.2.2.2.2.2.1)) = true) (hcall : Go K d r.2.2.1 0 (sm_ent r.2.2.2.2.2.1 as) [] w I J (v, w', I', J')) (h : Go K (d + 1) y (pc + 3) L (v.toList ++ rest) w' I' J' R) : Go K (d + 1) y pc L st w I J R := by
  obtain ⟨n, e⟩ := hcall
  obtain ⟨m, e'⟩ := h
  have e1 := sm_mono' e (Nat.le_max_left n m)
  have e2 := sm_mono' e' (Nat.le_max_right n m)
  refine ⟨max n m + 1, ?_⟩
  rw [sm_run]
  simp only [hcd, hk]
  rw [if_neg hb]
  simp only [has]
  rw [if_pos hc]
  simp only [e1]
  exact e2
/-- what a method answers and leaves, as a function (none: it has no good end) -/
noncomputable def Cl (K : Nat → Value) (d y : Nat) (as : List Value) (w : aW) (I : aI) (J : aJ) : Option aR :=
  @dite _ (∃ R, Go K d y 0 (sm_ent (gm y).2.2.2.1 as) [] w I J R) (Classical.propDecidable _) (fun h => some (Classical.choose h)) (fun _ => none)
theorem Cl_go {as : List Value} (h : Cl K d y as w I J = some R) : Go K d y 0 (sm_ent (gm y).2.2.2.1 as) [] w I J R := by
  unfold Cl at h
  split at h
  · rename_i hx
    cases h
    exact Classical.choose_spec hx
  · cases h
theorem Cl_of {as : List Value} (h : Go K d y 0 (sm_ent (gm y).2.2.2.1 as) [] w I J R) : Cl K d y as w I J = some R := by
  unfold Cl
  rw [dif_pos ⟨R, h⟩]
  have hx : ∃ R, Go K d y 0 (sm_ent (gm y).2.2.2.1 as) [] w I J R := ⟨R, h⟩
  exact congrArg some (Go.det (Classical.choose_spec hx) h)
/-! guards: what a step asks for -/
def gO {α : Type} (w : aW) (t q : Nat) (k : Option α) : Option α := match w.1 q with
  | some (t', _) => if t' = t then k else none
  | none => none
theorem gO_s {α : Type} {t q : Nat} {k : Option α} {x : α} (h : gO w t q k = some x) : (∃ n, w.1 q = some (t, n)) ∧ k = some x := by
  unfold gO at h
  split at h
  · rename_i t' n hw
    split at h
    · rename_i ht; subst ht; exact ⟨⟨n, hw⟩, h⟩
    · cases h
  · cases h
theorem gO_e {α : Type} {t q n : Nat} {k : Option α} (h : w.1 q = some (t, n)) : gO w t q k = k := by
  unfold gO
  rw [h]
  simp
def gV {α : Type} (w : aW) (q b : Nat) (k : Nat → Option α) : Option α := match w.2.1 q b with
  | some v => k v
  | none => none
theorem gV_s {α : Type} {q b : Nat} {k : Nat → Option α} {x : α} (h : gV w q b k = some x) : ∃ v, w.2.1 q b = some v ∧ k v = some x := by
  unfold gV at h
  split at h
  · rename_i v hv; exact ⟨v, hv, h⟩
  · cases h
theorem gV_e {α : Type} {q b v : Nat} {k : Nat → Option α} (h : w.2.1 q b = some v) : gV w q b k = k v := by
  unfold gV
  rw [h]
def gA {α : Type} (w : aW) (t1 t2 q : Nat) (i : Int32) (k : Option α) : Option α := match w.1 q with
  | some (t, n) => if (t = t1 ∨ t = t2) ∧ ¬ (i < 0 ∨ n ≤ i.toNatClampNeg) then k else none
  | none => none
theorem gA_s {α : Type} {t1 t2 q : Nat} {i : Int32} {k : Option α} {x : α} (h : gA w t1 t2 q i k = some x) : (∃ t n, w.1 q = some (t, n) ∧ (t = t1 ∨ t = t2) ∧ ¬ (i < 0 ∨ n ≤ i.toNatClampNeg)) ∧ k = some x := by
  unfold gA at h
  split at h
  · rename_i t n hw
    split at h
    · rename_i hc; exact ⟨⟨t, n, hw, hc.1, hc.2⟩, h⟩
    · cases h
  · cases h
theorem gA_e {α : Type} {t1 t2 q t n : Nat} {i : Int32} {k : Option α} (h : w.1 q = some (t, n)) (ht : t = t1 ∨ t = t2) (hi : ¬ (i < 0 ∨ n ≤ i.toNatClampNeg)) : gA w t1 t2 q i k = k := by
  unfold gA
  rw [h]
  simp only
  rw [if_pos ⟨ht, hi⟩]
def gL {α : Type} (w : aW) (q : Nat) (k : Int32 → Option α) : Option α := match w.1 q with
  | some (t, n) => if 10 ≤ t then k (Int32.ofNat n) else none
  | none => none
theorem gL_s {α : Type} {q : Nat} {k : Int32 → Option α} {x : α} (h : gL w q k = some x) : ∃ t n, w.1 q = some (t, n) ∧ 10 ≤ t ∧ k (Int32.ofNat n) = some x := by
  unfold gL at h
  split at h
  · rename_i t n hw
    split at h
    · rename_i hc; exact ⟨t, n, hw, hc, h⟩
    · cases h
  · cases h
theorem gL_e {α : Type} {q t n : Nat} {k : Int32 → Option α} (h : w.1 q = some (t, n)) (ht : 10 ≤ t) : gL w q k = k (Int32.ofNat n) := by
  unfold gL
  rw [h]
  simp only
  rw [if_pos ht]
/-- a condition that must hold -/
def gC {α : Type} (c : Prop) [Decidable c] (k : Option α) : Option α := if c then k else none
theorem gC_s {α : Type} {c : Prop} [Decidable c] {k : Option α} {x : α} (h : gC c k = some x) : c ∧ k = some x := by
  unfold gC at h
  split at h
  · rename_i hc; exact ⟨hc, h⟩
  · cases h
theorem gC_e {α : Type} {c : Prop} [Decidable c] {k : Option α} (h : c) : gC c k = k := if_pos h
def kR {α : Type} (v : Value) (k : Nat → Option α) : Option α := match v with
  | .ref q => k q
  | _ => none
theorem kR_s {α : Type} {v : Value} {k : Nat → Option α} {x : α} (h : kR v k = some x) : ∃ q, v = .ref q ∧ k q = some x := by
  unfold kR at h
  split at h
  · exact ⟨_, rfl, h⟩
  · cases h
def kI {α : Type} (v : Value) (k : Int32 → Option α) : Option α := match v with
  | .int q => k q
  | _ => none
theorem kI_s {α : Type} {v : Value} {k : Int32 → Option α} {x : α} (h : kI v k = some x) : ∃ q, v = .int q ∧ k q = some x := by
  unfold kI at h
  split at h
  · exact ⟨_, rfl, h⟩
  · cases h
/-- a name for a value -/
def lt_ {α β : Type} (v : α) (k : α → Option β) : Option β := k v
theorem lt_s_ {α β : Type} {v : α} {k : α → Option β} {x : β} (h : lt_ v k = some x) : ∃ z, v = z ∧ k z = some x := ⟨v, rfl, h⟩
/-- calls -/
def cI {α : Type} (o : Option aR) (k : Int32 → aW → aI → aJ → Option α) : Option α := match o with
  | some (some (.int x), w, I, J) => k x w I J
  | _ => none
theorem cI_s {α : Type} {o : Option aR} {k : Int32 → aW → aI → aJ → Option α} {r : α} (h : cI o k = some r) : ∃ x w I J, o = some (some (.int x), w, I, J) ∧ k x w I J = some r := by
  unfold cI at h
  split at h
  · exact ⟨_, _, _, _, rfl, h⟩
  · cases h
def cJ {α : Type} (o : Option aR) (k : Int64 → aW → aI → aJ → Option α) : Option α := match o with
  | some (some (.long x), w, I, J) => k x w I J
  | _ => none
theorem cJ_s {α : Type} {o : Option aR} {k : Int64 → aW → aI → aJ → Option α} {r : α} (h : cJ o k = some r) : ∃ x w I J, o = some (some (.long x), w, I, J) ∧ k x w I J = some r := by
  unfold cJ at h
  split at h
  · exact ⟨_, _, _, _, rfl, h⟩
  · cases h
def cA {α : Type} (o : Option aR) (k : Nat → aW → aI → aJ → Option α) : Option α := match o with
  | some (some (.ref x), w, I, J) => k x w I J
  | _ => none
theorem cA_s {α : Type} {o : Option aR} {k : Nat → aW → aI → aJ → Option α} {r : α} (h : cA o k = some r) : ∃ x w I J, o = some (some (.ref x), w, I, J) ∧ k x w I J = some r := by
  unfold cA at h
  split at h
  · exact ⟨_, _, _, _, rfl, h⟩
  · cases h
def cV {α : Type} (o : Option aR) (k : aW → aI → aJ → Option α) : Option α := match o with
  | some (none, w, I, J) => k w I J
  | _ => none
theorem cV_s {α : Type} {o : Option aR} {k : aW → aI → aJ → Option α} {r : α} (h : cV o k = some r) : ∃ w I J, o = some (none, w, I, J) ∧ k w I J = some r := by
  unfold cV at h
  split at h
  · exact ⟨_, _, _, rfl, h⟩
  · cases h
/-! steps that touch cells -/
variable {k len a b c e f q n t v : Nat} {z x i : Int32} {zl : Int64} {u : Int64}
theorem gs_gfI (hcd : sm_cd y pc = some (.getfield k, 3, a, b, c, e, f, z, zl)) (h7 : ¬ a = 7) (hc : ¬ c = 2) (ht : ∃ n, w.1 q = some (a, n)) (h : Go K d y (pc + 3) L (.int (I q b) :: st) w I J R) : Go K d y pc L (.ref q :: st) w I J R := by
  obtain ⟨n, ht⟩ := ht
  exact gs_0 hcd rfl (by simp [sm_stp, sm_nx, sm_getf, h7, ht, hc]) h
theorem gs_gfR (hcd : sm_cd y pc = some (.getfield k, 3, a, b, 2, e, f, z, zl)) (h7 : ¬ a = 7) (ht : ∃ n, w.1 q = some (a, n)) (hv : w.2.1 q b = some v) (h : Go K d y (pc + 3) L (.ref v :: st) w I J R) : Go K d y pc L (.ref q :: st) w I J R := by
  obtain ⟨n, ht⟩ := ht
  exact gs_0 hcd rfl (by simp [sm_stp, sm_nx, sm_getf, h7, ht, hv]) h
theorem gs_gfS0 (hcd : sm_cd y pc = some (.getfield k, 3, 7, 0, c, e, f, z, zl)) (hS : sm_isS K q = true) (hv : w.2.1 q 0 = some v) (h : Go K d y (pc + 3) L (.ref v :: st) w I J R) : Go K d y pc L (.ref q :: st) w I J R :=
  gs_0 hcd rfl (by simp [sm_stp, sm_nx, sm_getf, hS, hv]) h
theorem gs_gfS1 (hcd : sm_cd y pc = some (.getfield k, 3, 7, 1, c, e, f, z, zl)) (hS : sm_isS K q = true) (h : Go K d y (pc + 3) L (.int 0 :: st) w I J R) : Go K d y pc L (.ref q :: st) w I J R :=
  gs_0 hcd rfl (by simp [sm_stp, sm_nx, sm_getf, hS]) h
theorem gs_pfI (hcd : sm_cd y pc = some (.putfield k, 3, a, b, c, e, f, z, zl)) (ha : a < 7) (hc : c = 0 ∨ c = 1 ∧ (x = 0 ∨ x = 1)) (ht : ∃ n, w.1 q = some (a, n)) (h : Go K d y (pc + 3) L st w (sm_up2 I q b x) J R) : Go K d y pc L (.int x :: .ref q :: st) w I J R := by
  obtain ⟨n, ht⟩ := ht
  exact gs_0 hcd rfl (by simp only [sm_stp, sm_putf, ht]; rw [if_pos ⟨trivial, ha, hc⟩]) h
theorem gs_pfR (hcd : sm_cd y pc = some (.putfield k, 3, a, b, 2, e, f, z, zl)) (ha : a < 7) (ht : ∃ n, w.1 q = some (a, n)) (h : Go K d y (pc + 3) L st (w.1, sm_up2 w.2.1 q b (some v), w.2.2) I J R) : Go K d y pc L (.ref v :: .ref q :: st) w I J R := by
  obtain ⟨n, ht⟩ := ht
  exact gs_0 hcd rfl (by simp only [sm_stp, sm_putf, ht]; rw [if_pos ⟨trivial, ha, trivial⟩]) h
theorem gs_iald (hcd : sm_cd y pc = some (.iaload, 1, a, b, c, e, f, z, zl)) (hg : ∃ t n, w.1 q = some (t, n) ∧ (t = 10 ∨ t = 20) ∧ ¬ (i < 0 ∨ n ≤ i.toNatClampNeg)) (h : Go K d y (pc + 1) L (.int (I q i.toNatClampNeg) :: st) w I J R) : Go K d y pc L (.int i :: .ref q :: st) w I J R := by
  obtain ⟨t, n, h1, h2, h3⟩ := hg
  exact gs_0 hcd rfl (by simp only [sm_stp, sm_nx, sm_ald, h1]; rw [if_pos ⟨h2, h3⟩]) h
theorem gs_bald (hcd : sm_cd y pc = some (.baload, 1, a, b, c, e, f, z, zl)) (hg : ∃ t n, w.1 q = some (t, n) ∧ (t = 12 ∨ t = 21) ∧ ¬ (i < 0 ∨ n ≤ i.toNatClampNeg)) (h : Go K d y (pc + 1) L (.int (I q i.toNatClampNeg) :: st) w I J R) : Go K d y pc L (.int i :: .ref q :: st) w I J R := by
  obtain ⟨t, n, h1, h2, h3⟩ := hg
  exact gs_0 hcd rfl (by simp only [sm_stp, sm_nx, sm_ald, h1]; rw [if_pos ⟨h2, h3⟩]) h
theorem gs_lald (hcd : sm_cd y pc = some (.laload, 1, a, b, c, e, f, z, zl)) (hg : ∃ t n, w.1 q = some (t, n) ∧ (t = 11 ∨ t = 11) ∧ ¬ (i < 0 ∨ n ≤ i.toNatClampNeg)) (h : Go K d y (pc + 1) L (.long (J q i.toNatClampNeg) :: st) w I J R) : Go K d y pc L (.int i :: .ref q :: st) w I J R := by
  obtain ⟨t, n, h1, h2, h3⟩ := hg
  have h2 : t = 11 := by omega
  subst h2
  exact gs_0 hcd rfl (by simp only [sm_stp, sm_nx, sm_lald, h1]; rw [if_pos ⟨trivial, h3⟩]) h
theorem gs_rald (hcd : sm_cd y pc = some (.aaload, 1, a, b, c, e, f, z, zl)) (hg : ∃ t n, w.1 q = some (t, n) ∧ (t = 14 ∨ t = 15) ∧ ¬ (i < 0 ∨ n ≤ i.toNatClampNeg)) (hv : w.2.1 q i.toNatClampNeg = some v) (h : Go K d y (pc + 1) L (.ref v :: st) w I J R) : Go K d y pc L (.int i :: .ref q :: st) w I J R := by
  obtain ⟨t, n, h1, h2, h3⟩ := hg
  exact gs_0 hcd rfl (by simp only [sm_stp, sm_nx, sm_rald, h1]; rw [if_pos ⟨h2, h3⟩]; simp only [hv]) h
theorem gs_alen (hcd : sm_cd y pc = some (.arraylength, 1, a, b, c, e, f, z, zl)) (h1 : w.1 q = some (t, n)) (h2 : 10 ≤ t) (h : Go K d y (pc + 1) L (.int (Int32.ofNat n) :: st) w I J R) : Go K d y pc L (.ref q :: st) w I J R :=
  gs_0 hcd rfl (by simp only [sm_stp, sm_nx, sm_alen, h1]; rw [if_pos h2]) h
theorem gs_iast (hcd : sm_cd y pc = some (.iastore, 1, a, b, c, e, f, z, zl)) (hg : ∃ t n, w.1 q = some (t, n) ∧ (t = 10 ∨ t = 10) ∧ ¬ (i < 0 ∨ n ≤ i.toNatClampNeg)) (h : Go K d y (pc + 1) L st w (sm_up2 I q i.toNatClampNeg x) J R) : Go K d y pc L (.int x :: .int i :: .ref q :: st) w I J R := by
  obtain ⟨t, n, h1, h2, h3⟩ := hg
  have h2 : t = 10 := by omega
  subst h2
  exact gs_0 hcd rfl (by simp only [sm_stp, sm_iast, h1]; rw [if_pos ⟨trivial, h3⟩]) h
theorem gs_zast (hcd : sm_cd y pc = some (.bastore, 1, a, b, c, e, f, z, zl)) (h01 : x = 0 ∨ x = 1) (hg : ∃ t n, w.1 q = some (t, n) ∧ (t = 12 ∨ t = 12) ∧ ¬ (i < 0 ∨ n ≤ i.toNatClampNeg)) (h : Go K d y (pc + 1) L st w (sm_up2 I q i.toNatClampNeg x) J R) : Go K d y pc L (.int x :: .int i :: .ref q :: st) w I J R := by
  obtain ⟨t, n, h1, h2, h3⟩ := hg
  have h2 : t = 12 := by omega
  subst h2
  exact gs_0 hcd rfl (by simp only [sm_stp, sm_zast, h1]; rw [if_pos ⟨trivial, h3, h01⟩]) h
theorem gs_last (hcd : sm_cd y pc = some (.lastore, 1, a, b, c, e, f, z, zl)) (hg : ∃ t n, w.1 q = some (t, n) ∧ (t = 11 ∨ t = 11) ∧ ¬ (i < 0 ∨ n ≤ i.toNatClampNeg)) (h : Go K d y (pc + 1) L st w I (sm_up2 J q i.toNatClampNeg u) R) : Go K d y pc L (.long u :: .int i :: .ref q :: st) w I J R := by
  obtain ⟨t, n, h1, h2, h3⟩ := hg
  have h2 : t = 11 := by omega
  subst h2
  exact gs_0 hcd rfl (by simp only [sm_stp, sm_last, h1]; rw [if_pos ⟨trivial, h3⟩]) h
theorem gs_rast (hcd : sm_cd y pc = some (.aastore, 1, a, b, c, e, f, z, zl)) (hE : sm_isE K w t v = true) (hg : ∃ t' n, w.1 q = some (t', n) ∧ (t' = t ∨ t' = t) ∧ ¬ (i < 0 ∨ n ≤ i.toNatClampNeg)) (h : Go K d y (pc + 1) L st (w.1, sm_up2 w.2.1 q i.toNatClampNeg (some v), w.2.2) I J R) : Go K d y pc L (.ref v :: .int i :: .ref q :: st) w I J R := by
  obtain ⟨t', n, h1, h2, h3⟩ := hg
  have h2 : t' = t := by omega
  subst h2
  exact gs_0 hcd rfl (by simp only [sm_stp, sm_rast, h1]; rw [if_pos ⟨hE, h3⟩]) h
theorem gs_newa (hcd : sm_cd y pc = some (.newarray .int, 2, a, b, c, e, f, z, zl)) (hn : ¬ i < 0 ∧ i.toNatClampNeg ≤ 1000000) (h : Go K d y (pc + 2) L (.ref w.2.2.1 :: st) (sm_alc w a i.toNatClampNeg i.toNatClampNeg) (sm_up1 I w.2.2.1 (fun _ => 0)) (sm_up1 J w.2.2.1 (fun _ => 0)) R) : Go K d y pc L (.int i :: st) w I J R :=
  gs_0 hcd rfl (by simp only [sm_stp, sm_newa]; rw [if_pos hn]) h
theorem gs_newl (hcd : sm_cd y pc = some (.newarray .long, 2, a, b, c, e, f, z, zl)) (hn : ¬ i < 0 ∧ i.toNatClampNeg ≤ 1000000) (h : Go K d y (pc + 2) L (.ref w.2.2.1 :: st) (sm_alc w a i.toNatClampNeg i.toNatClampNeg) (sm_up1 I w.2.2.1 (fun _ => 0)) (sm_up1 J w.2.2.1 (fun _ => 0)) R) : Go K d y pc L (.int i :: st) w I J R :=
  gs_0 hcd rfl (by simp only [sm_stp, sm_newa]; rw [if_pos hn]) h
theorem gs_newz (hcd : sm_cd y pc = some (.newarray .boolean, 2, a, b, c, e, f, z, zl)) (hn : ¬ i < 0 ∧ i.toNatClampNeg ≤ 1000000) (h : Go K d y (pc + 2) L (.ref w.2.2.1 :: st) (sm_alc w a i.toNatClampNeg i.toNatClampNeg) (sm_up1 I w.2.2.1 (fun _ => 0)) (sm_up1 J w.2.2.1 (fun _ => 0)) R) : Go K d y pc L (.int i :: st) w I J R :=
  gs_0 hcd rfl (by simp only [sm_stp, sm_newa]; rw [if_pos hn]) h
theorem gs_newr (hcd : sm_cd y pc = some (.anewarray k, 3, a, b, c, e, f, z, zl)) (hn : ¬ i < 0 ∧ i.toNatClampNeg ≤ 1000000) (h : Go K d y (pc + 3) L (.ref w.2.2.1 :: st) (sm_alc w a i.toNatClampNeg i.toNatClampNeg) (sm_up1 I w.2.2.1 (fun _ => 0)) (sm_up1 J w.2.2.1 (fun _ => 0)) R) : Go K d y pc L (.int i :: st) w I J R :=
  gs_0 hcd rfl (by simp only [sm_stp, sm_newa]; rw [if_pos hn]) h
theorem gs_div (hcd : sm_cd y pc = some (.idiv, 1, a, b, c, e, f, z, zl)) (hn : ¬ i = 0) (h : Go K d y (pc + 1) L (.int (x / i) :: st) w I J R) : Go K d y pc L (.int i :: .int x :: st) w I J R :=
  gs_0 hcd rfl (by simp only [sm_stp]; rw [if_neg hn]) h
theorem gs_acp {m dp sp : Int32} {q1 q2 n1 n2 : Nat} {rest : List Value} (hcd : sm_cd y pc = some (.invokestatic k, 3, a, 4, c, e, f, z, zl)) (h1 : w.1 q1 = some (10, n1)) (h2 : w.1 q2 = some (10, n2)) (hc : ¬ sp < 0 ∧ ¬ dp < 0 ∧ ¬ m < 0 ∧ sp.toNatClampNeg + m.toNatClampNeg ≤ n1 ∧ dp.toNatClampNeg + m.toNatClampNeg ≤ n2) (hr : sm_cs rest ≤ 8)
    (h : Go K (d + 1) y (pc + 3) L rest w (sm_up1 I q2 (va_cpy (I q1) (I q2) sp.toNatClampNeg dp.toNatClampNeg m.toNatClampNeg)) J R) : Go K (d + 1) y pc L (.int m :: .int dp :: .ref q2 :: .int sp :: .ref q1 :: rest) w I J R :=
  gsp hcd rfl (Or.inr (Or.inl rfl)) (by simp only [sm_prm, sm_acp, h1, h2]; rw [if_neg (by decide), if_pos trivial, if_pos ⟨trivial, trivial, hc.1, hc.2.1, hc.2.2.1, hc.2.2.2.1, hc.2.2.2.2, hr⟩]) h
/-- the guard of arraycopy -/
def gY {α : Type} (w : aW) (q1 q2 : Nat) (sp dp m : Int32) (k : Option α) : Option α := match w.1 q1, w.1 q2 with
  | some (t1, n1), some (t2, n2) => if t1 = 10 ∧ t2 = 10 ∧ ¬ sp < 0 ∧ ¬ dp < 0 ∧ ¬ m < 0 ∧ sp.toNatClampNeg + m.toNatClampNeg ≤ n1 ∧ dp.toNatClampNeg + m.toNatClampNeg ≤ n2 then k else none
  | _, _ => none
theorem gY_s {α : Type} {q1 q2 : Nat} {sp dp m : Int32} {k : Option α} {x : α} (h : gY w q1 q2 sp dp m k = some x) : ∃ n1 n2, w.1 q1 = some (10, n1) ∧ w.1 q2 = some (10, n2) ∧ (¬ sp < 0 ∧ ¬ dp < 0 ∧ ¬ m < 0 ∧ sp.toNatClampNeg + m.toNatClampNeg ≤ n1 ∧ dp.toNatClampNeg + m.toNatClampNeg ≤ n2) ∧ k = some x := by
  unfold gY at h
  split at h
  · rename_i t1 n1 t2 n2 h1 h2
    split at h
    · rename_i hc
      obtain ⟨rfl, rfl, g⟩ := hc
      exact ⟨n1, n2, h1, h2, g, h⟩
    · cases h
  · cases h
theorem sm_rv_ok {t : Nat} {as : List Value} (h7 : ¬ t = 7) (h : ∃ n, w.1 q = some (t, n)) : sm_rv K 0 t (.ref q :: as) w = true := by
  obtain ⟨n, h⟩ := h
  simp [sm_rv, h, h7]
theorem sm_rv_S {as : List Value} (h : sm_isS K q = true) : sm_rv K 0 7 (.ref q :: as) w = true := by
  simp [sm_rv, h]
/-- a call of a method by its function -/
theorem gs_call {r : aRow} {as rest : List Value} {vv : Option Value} (hcd : sm_cd y pc = some r) (hk : sm_knd r.1 = 2) (hb : ¬ (r.2.2.2.1 = 3 ∨ r.2.2.2.1 = 4 ∨ r.2.2.2.1 = 6 ∨ r.2.2.2.1 = 7)) (has : sm_as r.2.2.2.1 r.2.2.2.2.1 st = some (as, rest))
    (hrv : sm_rv K r.2.2.2.1 r.2.2.2.2.2.2.1 as w = true) (hcs : sm_cs rest ≤ 8) (hsl : (sm_slv as).length ≤ r.2.2.2.2.2.1) (hml : (gm r.2.2.1).2.2.2.1 = r.2.2.2.2.2.1) (hcall : Cl K d r.2.2.1 as w I J = some (vv, w', I', J')) (h : Go K (d + 1) y (pc + 3) L (vv.toList ++ rest) w' I' J' R) : Go K (d + 1) y pc L st w I J R :=
  gsc hcd hk hb has (by rw [hrv]; simp [hcs, hsl]) (by rw [← hml]; exact Cl_go hcall) h
end GO
theorem cd_of {y pc : Nat} {l : List (Nat × aRow)} {r : aRow} (h : gcd.lookup y = some l) (h2 : l.lookup pc = some r) : sm_cd y pc = some r := by
  unfold sm_cd
  rw [h]
  exact h2

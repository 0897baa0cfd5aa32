/-! instructions that touch cells -/
def sm_fN (a : Nat) : Nat := (gflL.getD a []).length
theorem sm_gcl {a : Nat} (h : a < 7) : gcl[a]? = some (gcn a, gF a, sm_fN a) := by
  match a, h with
  | 0, _ => rfl
  | 1, _ => rfl
  | 2, _ => rfl
  | 3, _ => rfl
  | 4, _ => rfl
  | 5, _ => rfl
  | 6, _ => rfl
  | n + 7, h => omega
def sm_isRf (t : FieldType) : Bool := match t with
  | .object _ => true
  | .array _ => true
  | _ => false
/-- what a program decides of the fields -/
def sm_fok (a b : Nat) : Bool := decide ((gF a b).1 = gcn a) && decide (parseFieldDescriptor (gF a b).2.2.1 = some (gty a b)) && (decide (gft a b = 0 ∧ gty a b = .int) || decide (gft a b = 1 ∧ gty a b = .boolean) || (decide (gft a b = 2) && sm_isRf (gty a b)))
theorem sm_fok_all : (List.range 7).all (fun a => (List.range (sm_fN a)).all fun b => sm_fok a b) = true := by decide +kernel
theorem sm_fok_of {a b : Nat} (ha : a < 7) (hb : b < sm_fN a) : sm_fok a b = true :=
  List.all_eq_true.mp (List.all_eq_true.mp sm_fok_all a (List.mem_range.mpr ha)) b (List.mem_range.mpr hb)
theorem sm_fdec {a b : Nat} (ha : a < 7) (hb : b < sm_fN a) : (gF a b).1 = gcn a := by
  have h := sm_fok_of ha hb
  simp only [sm_fok, Bool.and_eq_true, decide_eq_true_eq] at h
  exact h.1.1
theorem sm_fdsc {a b : Nat} (ha : a < 7) (hb : b < sm_fN a) : parseFieldDescriptor (gF a b).2.2.1 = some (gty a b) := by
  have h := sm_fok_of ha hb
  simp only [sm_fok, Bool.and_eq_true, decide_eq_true_eq] at h
  exact h.1.2
theorem sm_fkind {a b : Nat} (ha : a < 7) (hb : b < sm_fN a) : (gft a b = 0 ∧ gty a b = .int) ∨ (gft a b = 1 ∧ gty a b = .boolean) ∨ (gft a b = 2 ∧ sm_isRf (gty a b) = true) := by
  have h := sm_fok_of ha hb
  simp only [sm_fok, Bool.and_eq_true, Bool.or_eq_true, decide_eq_true_eq] at h
  rcases h.2 with (h | h) | h
  · exact Or.inl h
  · exact Or.inr (Or.inl h)
  · exact Or.inr (Or.inr h)
theorem sm_fnm_all : (List.range 7).all (fun a => (List.range (sm_fN a)).all fun b => (List.range (sm_fN a)).all fun c => decide (b = c) || decide ((gF a b).2.1 ≠ (gF a c).2.1)) = true := by decide +kernel
theorem sm_fnm {a : Nat} (ha : a < 7) : ∀ b, b < sm_fN a → ∀ c, c < sm_fN a → b ≠ c → (gF a b).2.1 ≠ (gF a c).2.1 := fun b hb c hc hne => by
  have h := List.all_eq_true.mp (List.all_eq_true.mp (List.all_eq_true.mp sm_fnm_all a (List.mem_range.mpr ha)) b (List.mem_range.mpr hb)) c (List.mem_range.mpr hc)
  simp only [Bool.or_eq_true, decide_eq_true_eq] at h
  exact h.resolve_left hne
theorem sm_fk_n : gfk.all (fun q => if q.2.2.1 = 7 then decide (q.2.2.2.1 < 2) else decide (q.2.2.2.1 < sm_fN q.2.2.1)) = true := by decide +kernel
theorem sm_fk_lt {o k a b e : Nat} (h : (o, k, a, b, e) ∈ gfk) (ha : a < 7) : b < sm_fN a := by
  have h1 := List.all_eq_true.mp sm_fk_n _ h
  rw [if_neg (by show ¬ a = 7; omega)] at h1
  exact of_decide_eq_true h1
theorem sm_fk_7 {o k b e : Nat} (h : (o, k, 7, b, e) ∈ gfk) : b < 2 := by
  have h1 := List.all_eq_true.mp sm_fk_n _ h
  rw [if_pos rfl] at h1
  exact of_decide_eq_true h1
theorem sm_lay_in {a : Nat} (h : a < 7) : ∀ w ∈ u_ws (gcn a) (gF a) (sm_fN a), w ∈ gtbl := fun w hw => by
  have h1 := List.all_eq_true.mp sm_lay _ (List.mem_of_getElem? (sm_gcl h))
  have h2 := List.all_eq_true.mp h1 w hw
  simp only [Bool.and_eq_true, decide_eq_true_eq] at h2
  exact sm_gt h2.1 h2.2
/-- the word of a field's link -/
theorem sm_flw {o k a b : Nat} (h : (o, k, a, b, 0) ∈ gfk) : Cond.fieldLink (gcn o) k (gcn a) (gF a b).2.1 (gF a b).2.2.1 ∈ gtbl := sm_gt (sm_fw_in _ h) rfl
theorem sm_flN {o k a b e : Nat} (h : (o, k, a, b, e) ∈ gfk) (he : ¬ e = 0) : Cond.fieldLinkNest (gcn o) k (gcn a) (gF a b).2.1 (gF a b).2.2.1 "ProvedMachine" ∈ gnst := by
  have h1 := List.all_eq_true.mp sm_fw_nst _ h
  simp only [Bool.or_eq_true, decide_eq_true_eq] at h1
  have h2 := h1.resolve_left he
  unfold sm_fw at h2
  rw [if_neg he] at h2
  exact h2
theorem sm_getf_s {K : Nat → Value} {a b k : Nat} {st st' : List Value} {w : aW} {I : aI} (h : sm_getf K a b k st w I = some st') : (a = 7 ∧ ∃ (q : Nat) (r : List Value), st = .ref q :: r ∧ sm_isS K q = true ∧ ((b = 0 ∧ ∃ v, w.2.1 q 0 = some v ∧ st' = .ref v :: r) ∨ (¬ b = 0 ∧ st' = .int 0 :: r)))
    ∨ (¬ a = 7 ∧ ∃ (q n : Nat) (r : List Value), st = .ref q :: r ∧ w.1 q = some (a, n) ∧ ((k = 2 ∧ ∃ v, w.2.1 q b = some v ∧ st' = .ref v :: r) ∨ (¬ k = 2 ∧ st' = .int (I q b) :: r))) := by
  unfold sm_getf at h
  split at h
  · rename_i q r
    split at h
    · rename_i h7
      split at h
      · rename_i hS
        split at h
        · rename_i hb
          split at h
          · rename_i v hv
            cases h
            exact Or.inl ⟨h7, q, r, rfl, hS, Or.inl ⟨hb, v, hv, rfl⟩⟩
          · cases h
        · rename_i hb
          cases h
          exact Or.inl ⟨h7, q, r, rfl, hS, Or.inr ⟨hb, rfl⟩⟩
      · cases h
    · rename_i h7
      refine Or.inr ⟨h7, ?_⟩
      split at h
      · rename_i t n hw
        split at h
        · rename_i ht
          subst ht
          split at h
          · rename_i hk
            split at h
            · rename_i v hv
              cases h
              exact ⟨q, n, r, rfl, hw, Or.inl ⟨hk, v, hv, rfl⟩⟩
            · cases h
          · rename_i hk
            cases h
            exact ⟨q, n, r, rfl, hw, Or.inr ⟨hk, rfl⟩⟩
        · cases h
      · cases h
  · cases h
section SMH
variable {p : Program} {l : Launch} {e : Env} {R : Room} {s : State} {m : MethodId} {args : Array Value} {below : List Frame} {meth : Method} {c : Code} {H : Heap} {locs : List Loc} {cells slots : Nat} {Q : State → Prop}
variable {G : sm_G} {y pc : Nat} {ls : Array Slot} {w : aW} {I : aI} {J : aJ}
theorem sm_getfield_ok {k a b k0 e0 : Nat} {st st' : List Value} (hC : sm_Cx G y p s m args meth c) (hd : decode (gm y).2.2.1 pc = .ok (.getfield k, 3)) (hf : ((gm y).1, k, a, b, e0) ∈ gfk) (hk : gft a b = k0) (ha : a < 8) (h7 : a = 7 → e0 = 0) (hs : sm_getf G.2.2.2 a b k0 st w I = some st') (hH : sm_HX G s H w I J)
    (kk : W p l e R s m args below meth c H locs cells slots Q (F0 m (pc + 3) ls st')) : W p l e R s m args below meth c H locs cells slots Q (F0 m pc ls st) := by
  obtain ⟨hx, hb, hml, hown, hts, hK, hlk, hin, hrt⟩ := hC
  rcases sm_getf_s hs with ⟨h7', q, r, rfl, hS, hv⟩ | ⟨hn7, q, n, r, rfl, hw, hv⟩
  · subst h7'
    have h0 := h7 rfl
    subst h0
    have hb2 := sm_fk_7 hf
    have hl := hts _ (sm_flw hf)
    obtain ⟨-, hv1, hv2⟩ := sm_isS_of hH hS
    match b, hb2 with
    | 0, _ =>
      obtain ⟨cf, k1, fi, f, cell, g1, g2, g3, g4, g5, g6⟩ := hv1
      rcases hv with ⟨h2, v, h3, rfl⟩ | ⟨h2, rfl⟩
      · rw [h3] at g5
        exact W.getf hx hb hown hl g1 g2 g3 g4 g5 rfl rfl hd kk
      · exact absurd rfl h2
    | 1, _ =>
      obtain ⟨cf, k1, fi, f, cell, g1, g2, g3, g4, g5, g6⟩ := hv2
      rcases hv with ⟨h2, v, h3, rfl⟩ | ⟨h2, rfl⟩
      · cases h2
      · exact W.getf hx hb hown hl g1 g2 g3 g4 g5 rfl rfl hd kk
    | n + 2, h => omega
  · have h : a < 7 := by omega
    have hcell := hH.2.2.1 q a n hw
    unfold sm_cell at hcell
    rw [if_pos h] at hcell
    obtain ⟨-, r0, hr0, cell, q1, q2, q3, q4⟩ := hcell
    have hr1 := sm_gcl h
    cases hr0.symm.trans hr1
    have hbn := sm_fk_lt hf h
    obtain ⟨hS, hfc, kC, hkC, hkind⟩ := hK.1.1 a _ hr1
    obtain ⟨cf, kf, fi, f, hi, hsl⟩ := hS b hbn
    have hst := (u_facts hfc hkC (u_lays hts (sm_lay_in h) hbn) hi).1
    have hslot : cell.slots[f.slot]? = some (sm_cv (gft a b) (I q b) (w.2.1 q b)) := by rw [hsl]; exact q4 b hbn
    have hval : W p l e R s m args below meth c H locs cells slots Q (F0 m (pc + 3) ls (sm_cv (gft a b) (I q b) (w.2.1 q b) :: r)) := by
      rcases hv with ⟨h2, v, h3, rfl⟩ | ⟨h2, rfl⟩
      · rw [hk, h2, h3]; exact kk
      · rw [hk]; unfold sm_cv; rw [if_neg h2]; exact kk
    have hi' : s.fieldFound? (gcn a) (gF a b).2.1 (gF a b).2.2.1 = some (cf, kf, fi, f) := by rw [← sm_fdec h hbn]; exact hi
    have hkn : cell.vm ≠ .unknown := by rw [q3]; exact fun h => by cases h
    by_cases h0 : e0 = 0
    · subst h0
      exact W.getf hx hb hown (hts _ (sm_flw hf)) hi' hst q1 hkn hslot rfl rfl hd hval
    · exact va_Wgetf hx hb hown (va_Nw.use rfl (hK.2.1 _ (sm_flN hf h0))) hi' hst q1 hkn hslot rfl rfl hd hval
/-- a value written into a field -/
theorem sm_putfield_ok {k a b e0 q n : Nat} {v : Value} {r : List Value} {w' : aW} {I' : aI} (hC : sm_Cx G y p s m args meth c) (hd : decode (gm y).2.2.1 pc = .ok (.putfield k, 3)) (hf : ((gm y).1, k, a, b, e0) ∈ gfk) (ha : a < 7)
    (hfin : (gF a b).2.2.2 = false ∨ e0 = 0 ∧ (gm y).2.1.name = "<init>" ∧ (gF a b).2.2.2 = true ∧ (gF a b).1 = gcn (gm y).1) (hw : w.1 q = some (a, n)) (hn : narrow (gty a b) v = v) (hfit : fits (gty a b) v = true) (hH : sm_HX G s H w I J)
    (hw1 : w'.1 = w.1) (hw2 : w'.2.2 = w.2.2) (hI : ∀ x : Nat, x ≠ q → I' x = I x) (hP : ∀ x : Nat, x ≠ q → w'.2.1 x = w.2.1 x) (hV : ∀ j, j < sm_fN a → updV (fun k => sm_cv (gft a k) (I q k) (w.2.1 q k)) b v j = sm_cv (gft a j) (I' q j) (w'.2.1 q j)) (hlo : ∀ x ∈ locs, G.2.2.1 ≤ x.base)
    (kk : ∀ (H' : Heap) (locs' : List Loc), sm_HX G s H' w' I' J → (∀ x ∈ locs', G.2.2.1 ≤ x.base) → W p l e R s m args below meth c H' locs' cells slots Q (F0 m (pc + 3) ls r)) : W p l e R s m args below meth c H locs cells slots Q (F0 m pc ls (v :: .ref q :: r)) := by
  obtain ⟨hx, hb, hml, hown, hts, hK, hlk, hin, hrt⟩ := hC
  have hcell := hH.2.2.1 q a n hw
  unfold sm_cell at hcell
  rw [if_pos ha] at hcell
  obtain ⟨hB, r0, hr0, cell, q1, q2, q3, q4⟩ := hcell
  have hr1 := sm_gcl ha
  cases hr0.symm.trans hr1
  have hbn := sm_fk_lt hf ha
  have hap := va_apart (own := gcn a) hts (sm_lay_in ha) (gty a) (fun j hj => sm_fdsc ha hj) (sm_fnm ha) hK.1 hr1
  obtain ⟨hS, hfc, kC, hkC, hkind⟩ := hK.1.1 a _ hr1
  obtain ⟨cf, kf, fi, f, hi, hsl⟩ := hS b hbn
  have hlay := hts _ (sm_lay_in ha _ (u_in_lay hbn))
  unfold u_lay at hlay
  have hst := (u_facts hfc hkC (u_lays hts (sm_lay_in ha) hbn) hi).1
  have hi' : s.fieldFound? (gcn a) (gF a b).2.1 (gF a b).2.2.1 = some (cf, kf, fi, f) := by rw [← sm_fdec ha hbn]; exact hi
  have hlt : f.slot < cell.slots.size := by rw [hsl]; exact k2_hasslot (q4 b hbn)
  have fin : ∀ H' : Heap, H'[q]? = some (cell.setSlot f.slot v) → H'.size = H.size → (∀ x, x ≠ q → H'[x]? = H[x]?) → W p l e R s m args below meth c H' (locs ++ [⟨q, f.slot⟩]) cells slots Q (F0 m (pc + 3) ls r) := by
    intro H' e1 e2 e3
    refine kk H' _ (hH.put hB e2 e3 hw1 hw2 hI (fun _ _ => rfl) hP (fun t' n' ht => ?_)) (fun x hx => ?_)
    · rw [hw] at ht
      cases ht
      unfold sm_cell
      rw [if_pos ha]
      rw [hsl] at e1
      exact ⟨hB, _, hr1, t_OB.to ⟨_, e1, q2, q3, t_set q4 hap hbn v⟩ hV⟩
    · rcases List.mem_append.mp hx with h | h
      · exact hlo x h
      · rw [List.mem_singleton.mp h]; exact hB
  rcases hfin with hfin | ⟨h0, hnm, hfin, hdecl⟩
  · rw [if_neg (by rw [hfin]; decide)] at hlay
    have h6 := u_store hfc hkC hkind hlay hi (sm_fdsc ha hbn) hn hfit
    by_cases h0 : e0 = 0
    · subst h0
      exact W.putK hx hb (f := f) ⟨hown, hts _ (sm_flw hf), ⟨_, _, _, hi'⟩, hst⟩ (by rw [q2]; exact h6) q1 q3 hlt rfl rfl hd fin
    · exact va_WputK hx hb (f := f) hown (va_Nw.use rfl (hK.2.1 _ (sm_flN hf h0))) hi' hst (by rw [q2]; exact h6) q1 q3 hlt rfl rfl hd fin
  · subst h0
    rw [if_pos hfin] at hlay
    have hcf : m.cls = cf := by
      obtain ⟨_, _, c', _, _, _, -, -, hf', -, -, -, hown2, -⟩ := Cond.laysFinal_spec hlay
      have e1 : c' = cf := by have := hi.symm.trans hf'; simp at this; exact this.1.symm
      rw [hdecl] at hown2
      rw [← e1]; exact Option.some.inj (hown.symm.trans hown2)
    have h6 := u_fits hfc hkC hkind (Or.inr hlay) hi (sm_fdsc ha hbn) hn hfit
    exact W.putFinK hx hb hown (hts _ (sm_flw hf)) hi' hst hcf (hin hnm) (by rw [q2]; exact h6) q1 q3 hlt rfl rfl hd fin
end SMH

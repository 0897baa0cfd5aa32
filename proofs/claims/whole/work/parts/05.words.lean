/-! what the tables say of the words -/
theorem sm_zip {α β : Type} {l : List α} {ps : List β} {f : α × β → Bool} (hl : l.length ≤ ps.length) (h : (l.zip ps).all f = true) : ∀ q ∈ l, ∃ p, f (q, p) = true := by
  intro q hq
  obtain ⟨i, hi, rfl⟩ := List.getElem_of_mem hq
  refine ⟨ps[i]'(Nat.lt_of_lt_of_le hi hl), ?_⟩
  exact List.all_eq_true.mp h _ (List.mem_of_getElem (i := i) (h := by simp; omega) (by simp))
def sm_fw (q : Nat × Nat × Nat × Nat × Nat) : Cond := if q.2.2.2.2 = 0 then .fieldLink (gcn q.1) q.2.1 (gcn q.2.2.1) (gF q.2.2.1 q.2.2.2.1).2.1 (gF q.2.2.1 q.2.2.2.1).2.2.1 else .fieldLinkNest (gcn q.1) q.2.1 (gcn q.2.2.1) (gF q.2.2.1 q.2.2.2.1).2.1 (gF q.2.2.1 q.2.2.2.1).2.2.1 "ProvedMachine"
theorem sm_fw_all : (gfk.zip gfkP).all (fun q => decide (tables_1[q.2]? = some (sm_fw q.1))) = true := by decide +kernel
theorem sm_fw_in : ∀ q ∈ gfk, sm_fw q ∈ tables_1 := fun q hq => by
  obtain ⟨p, hp⟩ := sm_zip (f := fun q => decide (tables_1[q.2]? = some (sm_fw q.1))) (by decide +kernel) sm_fw_all q hq
  exact List.mem_of_getElem? (of_decide_eq_true hp)
theorem sm_nst_all : (gnst.zip gnstP).all (fun q => decide (tables_1[q.2]? = some q.1)) = true := by decide +kernel
theorem sm_fw_nst : gfk.all (fun q => decide (q.2.2.2.2 = 0) || decide (sm_fw q ∈ gnst)) = true := by decide +kernel
/-- a method's link -/
def sm_mw (q : Nat × Nat × Nat × Nat) : Cond :=
  if q.2.2.2 = 3 then .methodLink (gcn q.1) q.2.1 objectInit
  else if q.2.2.2 = 4 then .methodLink (gcn q.1) q.2.1 arraycopyName
  else if q.2.2.2 = 6 then .methodLink (gcn q.1) q.2.1 Lib.Math.min.name
  else if q.2.2.2 = 7 then .methodLink (gcn q.1) q.2.1 Lib.Math.max.name
  else if q.2.2.2 = 5 then .methodLinkNest (gcn q.1) q.2.1 (gm q.2.2.1).2.1 "ProvedMachine"
  else .methodLink (gcn q.1) q.2.1 (gm q.2.2.1).2.1
theorem sm_mw_all : (gmk.zip gmkP).all (fun q => decide (tables_1[q.2]? = some (sm_mw q.1))) = true := by decide +kernel
theorem sm_mw_in : ∀ q ∈ gmk, sm_mw q ∈ tables_1 := fun q hq => by
  obtain ⟨p, hp⟩ := sm_zip (f := fun q => decide (tables_1[q.2]? = some (sm_mw q.1))) (by decide +kernel) sm_mw_all q hq
  exact List.mem_of_getElem? (of_decide_eq_true hp)
theorem sm_mw_nst : gmk.all (fun q => decide (q.2.2.2 ≠ 5) || decide (sm_mw q ∈ gnst)) = true := by decide +kernel
def sm_sw (q : Nat × Nat × Nat) : Cond := .fieldLink (gcn q.1) q.2.1 (gsnL.getD (q.2.2 - gs0) ("", "", "")).1 (gsnL.getD (q.2.2 - gs0) ("", "", "")).2.1 (gsnL.getD (q.2.2 - gs0) ("", "", "")).2.2
theorem sm_sw_all : (gsk.zip gskP).all (fun q => decide (tables_1[q.2]? = some (sm_sw q.1)) && decide (gs0 ≤ q.1.2.2) && decide (q.1.2.2 < gs0 + gsnL.length)) = true := by decide +kernel
def sm_cnm (t : Nat) : String := if t = 14 then "ProvedMachine$Sheet" else if t = 15 then "java/lang/String" else gcn t
def sm_cw (q : Nat × Nat × Nat) : Cond := .classLink (gcn q.1) q.2.1 (sm_cnm q.2.2)
theorem sm_cw_all : (gck.zip gckP).all (fun q => decide (tables_1[q.2]? = some (sm_cw q.1))) = true := by decide +kernel
theorem sm_cw_in : ∀ q ∈ gck, sm_cw q ∈ tables_1 := fun q hq => by
  obtain ⟨p, hp⟩ := sm_zip (f := fun q => decide (tables_1[q.2]? = some (sm_cw q.1))) (by decide +kernel) sm_cw_all q hq
  exact List.mem_of_getElem? (of_decide_eq_true hp)
def sm_lgw (q : Nat × Nat × Int64) : Cond := .constantLong (gcn q.1) q.2.1 q.2.2
theorem sm_lg_all : (glng.zip glngP).all (fun q => decide (tables_1[q.2]? = some (sm_lgw q.1))) = true := by decide +kernel
theorem sm_lg_in : ∀ q ∈ glng, sm_lgw q ∈ tables_1 := fun q hq => by
  obtain ⟨p, hp⟩ := sm_zip (f := fun q => decide (tables_1[q.2]? = some (sm_lgw q.1))) (by decide +kernel) sm_lg_all q hq
  exact List.mem_of_getElem? (of_decide_eq_true hp)
/-- the words of every method: those of the tables that last -/
def gtbl : List Cond := lw_tbl.filter goodWord
theorem sm_gt {w : Cond} (h : w ∈ tables_1) (hg : goodWord w = true) : w ∈ gtbl := List.mem_filter.mpr ⟨List.mem_append_right _ h, hg⟩
theorem sm_gt2 {w : Cond} (h : w ∈ lw_tbl) (hg : goodWord w = true) : w ∈ gtbl := List.mem_filter.mpr ⟨h, hg⟩
theorem sm_goodIn : ∀ w ∈ gtbl, (w.onTables && w.keeps) = true ∨ ∃ ty, w = .arrayClass ty := fun w hw => good_of_word (List.mem_filter.mp hw).2
/-- a method's own words -/
def sm_code (y : Nat) : Cond := .code (gm y).2.1 (gm y).2.2.1 (gm y).2.2.2.1 (gm y).2.2.2.2.1
def sm_mrow (y : Nat) (q : Nat × Nat × Nat) : Bool := decide (tables_1[q.2.1]? = some (if gmlS.getD y false = true then Cond.static (gm y).2.1 else Cond.instanceMethod (gm y).2.1)) && decide (tables_1[q.2.2]? = some (.initialized (gm y).2.1.cls))
def sm_mfit (y : Nat) : Bool := decide ((gm y).2.1.cls = gcn (gm y).1) && decide ((parseMethodDescriptor (gm y).2.1.desc).map (fun d => d.parameters.length) = some (gm y).2.2.2.2.2.1) && plainName (gm y).2.1.cls && decide ((gm y).2.2.2.1 ≤ 22) && decide ((gm y).2.1.cls ≠ "java/lang/invoke/MethodHandle") && decide ((gm y).2.1.cls ≠ "java/lang/invoke/VarHandle")
theorem sm_mrow_all : (((List.range gml.length).drop 1).zip (gmlP.drop 1)).all (fun q => sm_mrow q.1 q.2) = true := by decide +kernel
theorem sm_mfit_all : ((List.range gml.length).all sm_mfit) = true := by decide +kernel
/-- the classes' layouts -/
theorem sm_lay : (gcl.all fun q => (u_ws q.1 q.2.1 q.2.2).all fun w => decide (w ∈ tables_1) && goodWord w) = true := by decide +kernel

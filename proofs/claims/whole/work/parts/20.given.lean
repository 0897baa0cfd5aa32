/-! what the Statement gives of the start, by places (own program: wip/whole/gen_start.py) -/
def sm_fl : List Cond := flatC (Jvm.Cond.and given_1 narrow_1)
def gsb : List (List Int32) := [[102, 117, 110, 32, 105, 102, 32, 101, 108, 115, 101, 32, 119, 104, 105, 108, 101, 32, 114, 101, 116, 117, 114, 110, 32, 112, 114, 105, 110, 116, 32, 105, 110, 116, 32, 98, 111, 111, 108, 32, 114, 111, 119, 32, 108, 105, 115, 116, 32, 116, 114, 117, 101, 32, 102, 97, 108, 115, 101, 32, 110, 111, 110, 101, 32, 110, 111, 116, 32, 97, 110, 100, 32, 111, 114, 32, 110, 101, 119, 32, 115, 105, 122, 101, 32, 104, 101, 97, 100, 32, 116, 97, 105, 108, 32],
  [40, 41, 123, 125, 91, 93, 44, 59, 58, 61, 60, 43, 45, 42, 47],
  [105, 110, 116],
  [98, 111, 111, 108],
  [114, 111, 119],
  [108, 105, 115, 116],
  [102, 117, 110],
  [105, 102],
  [101, 108, 115, 101],
  [119, 104, 105, 108, 101],
  [114, 101, 116, 117, 114, 110],
  [112, 114, 105, 110, 116],
  [116, 114, 117, 101],
  [102, 97, 108, 115, 101],
  [110, 111, 110, 101],
  [110, 111, 116],
  [97, 110, 100],
  [111, 114],
  [110, 101, 119],
  [115, 105, 122, 101],
  [104, 101, 97, 100],
  [116, 97, 105, 108],
  [40, 41, 123, 125, 91, 93, 44, 59, 58, 61, 60, 43, 45, 42, 47]]
def gsa : List (List Int32) := [[0, 1, 2, 3, 3, 4, 4, 5, 5],
  [(-1), (-1), (-1), (-1), (-1), (-1), 2, 0, 1, 1, 0, 0, 0, 0, 0, 0],
  [0, 1, 0, 0, 3, 2, 0, 3, 1, 1, 1, 1, 0, 0, 0, 0],
  [0, 1, 2, 3, 3, 0, 0, 3, 1, 1, 0, 0, 0, 0, 0, 0]]
def gsbP : List (List Nat) := [[78, 79, 80, 81, 82, 83, 84, 85, 86, 87, 88, 89, 90, 91, 92, 93, 94, 95, 96, 97, 98, 99, 100, 101, 102, 103, 104, 105, 106, 107, 108, 109, 110, 111, 112, 113, 114, 115, 116, 117, 118, 119, 120, 121, 122, 123, 124, 125, 126, 127, 128, 129, 130, 131, 132, 133, 134, 135, 136, 137, 138, 139, 140, 141, 142, 143, 144, 145, 146, 147, 148, 149, 150, 151, 152, 153, 154, 155, 156, 157, 158, 159, 160, 161, 162, 163, 164, 165, 166, 167, 168, 169, 170, 171, 172, 173, 174, 175, 176],
  [177, 178, 179, 180, 181, 182, 183, 184, 185, 186, 187, 188, 189, 190, 191, 192, 193, 194, 195],
  [197, 198, 199, 200, 201, 202, 203],
  [206, 207, 208, 209, 210, 211, 212, 213],
  [217, 218, 219, 220, 221, 222, 223],
  [228, 229, 230, 231, 232, 233, 234, 235],
  [241, 242, 243, 244, 245, 246, 247],
  [254, 255, 256, 257, 258, 259],
  [267, 268, 269, 270, 271, 272, 273, 274],
  [283, 284, 285, 286, 287, 288, 289, 290, 291],
  [301, 302, 303, 304, 305, 306, 307, 308, 309, 310],
  [321, 322, 323, 324, 325, 326, 327, 328, 329],
  [341, 342, 343, 344, 345, 346, 347, 348],
  [361, 362, 363, 364, 365, 366, 367, 368, 369],
  [383, 384, 385, 386, 387, 388, 389, 390],
  [405, 406, 407, 408, 409, 410, 411],
  [427, 428, 429, 430, 431, 432, 433],
  [450, 451, 452, 453, 454, 455],
  [473, 474, 475, 476, 477, 478, 479],
  [498, 499, 500, 501, 502, 503, 504, 505],
  [525, 526, 527, 528, 529, 530, 531, 532],
  [553, 554, 555, 556, 557, 558, 559, 560],
  [582, 583, 584, 585, 586, 587, 588, 589, 590, 591, 592, 593, 594, 595, 596, 597, 598, 599, 600]]
def gsaP : List (List Nat) := [[67, 68, 69, 70, 71, 72, 73, 74, 75, 76, 77],
  [29, 30, 31, 32, 33, 34, 35, 36, 37, 38, 39, 40, 41, 42, 43, 44, 45, 46],
  [10, 11, 12, 13, 14, 15, 16, 17, 18, 19, 20, 21, 22, 23, 24, 25, 26, 27],
  [48, 49, 50, 51, 52, 53, 54, 55, 56, 57, 58, 59, 60, 61, 62, 63, 64, 65]]
def gsfP : Nat := 5
def gscP : Nat := 4
def gstrP : List Nat := [36, 331, 921, 922, 923, 924, 925, 926, 927, 928, 929, 930, 931, 932, 933, 934, 935, 936, 937, 938, 939, 940, 1121]
def gsnP : List (Nat × Nat) := [(557, 2), (529, 2), (523, 2), (535, 2), (62, 6), (46, 4)]
def sm_tm (i : Nat) : Term := .string (gcn (gstr.getD i (0, 0, "")).1) (gstr.getD i (0, 0, "")).2.1
def sm_vl (i : Nat) : Term := .field (sm_tm i) "java/lang/String" "value" "[B"
def sm_sn (i : Nat) : Term := .static (gsnL.getD i ("", "", "")).1 (gsnL.getD i ("", "", "")).2.1 (gsnL.getD i ("", "", "")).2.2
def sm_c1 (i : Nat) : List Cond := [.exactly (sm_tm i) "java/lang/String", .eq (.field (sm_tm i) "java/lang/String" "coder" "B") (.int 0), .arrayOf (sm_vl i) .byte, .eq (.length (sm_vl i)) (.int (Int32.ofNat (gsb.getD i []).length))] ++ (List.range (gsb.getD i []).length).map (fun j => .eq (.elem (sm_vl i) (.int (Int32.ofNat j))) (.int ((gsb.getD i []).getD j 0)))
def sm_c2 (i : Nat) : List Cond := [.arrayOf (sm_sn i) .int, .eq (.length (sm_sn i)) (.int (Int32.ofNat (gsa.getD i []).length))] ++ (List.range (gsa.getD i []).length).map (fun j => .eq (.elem (sm_sn i) (.int (Int32.ofNat j))) (.int ((gsa.getD i []).getD j 0)))
def sm_pin (q : Cond × Nat) : Bool := decide (sm_fl[q.2]? = some q.1)
theorem sm_pin_in {l : List Cond} {ps : List Nat} (hl : l.length ≤ ps.length) (h : (l.zip ps).all sm_pin = true) : ∀ q ∈ l, q ∈ sm_fl := fun q hq => by
  obtain ⟨p, hp⟩ := sm_zip (f := sm_pin) hl h q hq
  exact List.mem_of_getElem? (of_decide_eq_true hp)
theorem sm_c1_len : (List.range 23).all (fun i => decide ((sm_c1 i).length ≤ (gsbP.getD i []).length)) = true := by decide +kernel
theorem sm_c1_all : (List.range 23).all (fun i => ((sm_c1 i).zip (gsbP.getD i [])).all sm_pin) = true := by decide +kernel
theorem sm_c2_len : (List.range 4).all (fun i => decide ((sm_c2 i).length ≤ (gsaP.getD i []).length)) = true := by decide +kernel
theorem sm_c2_all : (List.range 4).all (fun i => ((sm_c2 i).zip (gsaP.getD i [])).all sm_pin) = true := by decide +kernel
theorem sm_c3_all : sm_pin (.isRef (sm_sn 4), gsfP) = true ∧ sm_pin (.eq (sm_sn 5) (.int 1), gscP) = true := by decide +kernel
theorem sm_c1_in {i : Nat} (h : i < 23) : ∀ q ∈ sm_c1 i, q ∈ sm_fl := sm_pin_in (of_decide_eq_true (List.all_eq_true.mp sm_c1_len i (List.mem_range.mpr h))) (List.all_eq_true.mp sm_c1_all i (List.mem_range.mpr h))
theorem sm_c2_in {i : Nat} (h : i < 4) : ∀ q ∈ sm_c2 i, q ∈ sm_fl := sm_pin_in (of_decide_eq_true (List.all_eq_true.mp sm_c2_len i (List.mem_range.mpr h))) (List.all_eq_true.mp sm_c2_all i (List.mem_range.mpr h))
def sm_w1f (q : Nat × Nat) : Bool := decide (tables_1[q.2]? = some (.stringRef (gcn (gstr.getD q.1 (0, 0, "")).1) (gstr.getD q.1 (0, 0, "")).2.1 (gstr.getD q.1 (0, 0, "")).2.2))
theorem sm_w1_all : ((List.range 23).zip gstrP).all sm_w1f = true := by decide +kernel
def sm_w2f (q : Nat × Nat × Nat) : Bool := decide (tables_1[q.2.1]? = some (.laysStatic (gsnL.getD q.1 ("", "", "")).1 (gsnL.getD q.1 ("", "", "")).2.1 (gsnL.getD q.1 ("", "", "")).2.2)) && decide (tables_1[q.2.2]? = some (.initialized (gsnL.getD q.1 ("", "", "")).1))
theorem sm_w2_all : ((List.range 6).zip gsnP).all sm_w2f = true := by decide +kernel
theorem sm_w1_in {i : Nat} (h : i < 23) : Cond.stringRef (gcn (gstr.getD i (0, 0, "")).1) (gstr.getD i (0, 0, "")).2.1 (gstr.getD i (0, 0, "")).2.2 ∈ tables_1 := by
  obtain ⟨p, hp⟩ := sm_zip (f := sm_w1f) (by decide +kernel) sm_w1_all i (List.mem_range.mpr h)
  exact List.mem_of_getElem? (of_decide_eq_true hp)
theorem sm_w2_in {i : Nat} (h : i < 6) : Cond.laysStatic (gsnL.getD i ("", "", "")).1 (gsnL.getD i ("", "", "")).2.1 (gsnL.getD i ("", "", "")).2.2 ∈ tables_1 ∧ Cond.initialized (gsnL.getD i ("", "", "")).1 ∈ tables_1 := by
  obtain ⟨p, hp⟩ := sm_zip (f := sm_w2f) (by decide +kernel) sm_w2_all i (List.mem_range.mpr h)
  simp only [sm_w2f, Bool.and_eq_true, decide_eq_true_eq] at hp
  exact ⟨List.mem_of_getElem? hp.1, List.mem_of_getElem? hp.2⟩
theorem sm_gsb_small : (List.range 23).all (fun i => decide ((gsb.getD i []).length < 128)) = true := by decide +kernel
theorem sm_gsa_small : (List.range 4).all (fun i => decide ((gsa.getD i []).length < 128)) = true := by decide +kernel
/-- a string constant of the start -/
theorem sm_str_at {args : Array Value} {s : State} {A : Nat → Prop} (hs : ∀ c ∈ sm_fl, c.before args s = true) (hA : ∀ a : Nat, a < s.heap.size → ¬ A a) {i : Nat} (hi : i < 23) :
    ∃ q : Nat × Nat, (sm_tm i).eval args s none [] s = some (.ref q.1) ∧ va_O "java/lang/String" q.1 A s s.heap ∧ va_OF "java/lang/String" "coder" "B" (.int 0) q.1 A s s.heap ∧ va_OF "java/lang/String" "value" "[B" (.ref q.2) q.1 A s s.heap ∧ va_T .byte q.2 (gsb.getD i []).length (fun j => .int ((gsb.getD i []).getD j 0)) A s s.heap := by
  have hin := sm_c1_in hi
  have hsm : (gsb.getD i []).length < 128 := of_decide_eq_true (List.all_eq_true.mp sm_gsb_small i (List.mem_range.mpr hi))
  have h1 := hs _ (hin _ (List.mem_append_left _ (List.mem_of_getElem? (i := 0) rfl)))
  have h2 := hs _ (hin _ (List.mem_append_left _ (List.mem_of_getElem? (i := 1) rfl)))
  have h3 := hs _ (hin _ (List.mem_append_left _ (List.mem_of_getElem? (i := 2) rfl)))
  have h4 := hs _ (hin _ (List.mem_append_left _ (List.mem_of_getElem? (i := 3) rfl)))
  have h5 : ∀ j : Nat, j < (gsb.getD i []).length → (Cond.eq (.elem (sm_vl i) (.int (Int32.ofNat j))) (.int ((gsb.getD i []).getD j 0))).before args s = true := fun j hj => hs _ (hin _ (List.mem_append_right _ (List.mem_map.mpr ⟨j, List.mem_range.mpr hj, rfl⟩)))
  obtain ⟨a, c, cA, kA, q1, q2, q3, q4, q5, q6, -⟩ := Cond.exactly_spec (args := args) (first := s) (o := none) (s := s) (idx := []) (t := sm_tm i) (cls := "java/lang/String") h1
  obtain ⟨t, ht, hT⟩ := va_Tof (f := fun j => .int ((gsb.getD i []).getD j 0)) (A := A) (by omega) h3 (va_eqt h4) (fun j hj => va_eqt (h5 j hj)) hA
  exact ⟨(a, t), q1, ⟨cA, q3, q5, by rw [q6]; exact q2, hA a (Array.getElem?_eq_some_iff.mp q3).1⟩, vk_OFof q1 (va_eqt h2) hA, vk_OFof q1 ht hA, hT⟩
/-- a static array of the start -/
theorem sm_sa_at {args : Array Value} {s : State} {A : Nat → Prop} (hs : ∀ c ∈ sm_fl, c.before args s = true) (hts : ∀ w ∈ tables_1, w.before args s = true) (hA : ∀ a : Nat, a < s.heap.size → ¬ A a) {i : Nat} (hi : i < 4) :
    ∃ t : Nat, va_Z (gsnL.getD i ("", "", "")).1 (gsnL.getD i ("", "", "")).2.1 (gsnL.getD i ("", "", "")).2.2 (.ref t) A s s.heap ∧ va_T .int t (gsa.getD i []).length (fun j => .int ((gsa.getD i []).getD j 0)) A s s.heap := by
  have hin := sm_c2_in hi
  have hsm : (gsa.getD i []).length < 128 := of_decide_eq_true (List.all_eq_true.mp sm_gsa_small i (List.mem_range.mpr hi))
  have h3 := hs _ (hin _ (List.mem_append_left _ (List.mem_of_getElem? (i := 0) rfl)))
  have h4 := hs _ (hin _ (List.mem_append_left _ (List.mem_of_getElem? (i := 1) rfl)))
  have h5 : ∀ j : Nat, j < (gsa.getD i []).length → (Cond.eq (.elem (sm_sn i) (.int (Int32.ofNat j))) (.int ((gsa.getD i []).getD j 0))).before args s = true := fun j hj => hs _ (hin _ (List.mem_append_right _ (List.mem_map.mpr ⟨j, List.mem_range.mpr hj, rfl⟩)))
  obtain ⟨t, ht, hT⟩ := va_Tof (f := fun j => .int ((gsa.getD i []).getD j 0)) (A := A) (by omega) h3 (va_eqt h4) (fun j hj => va_eqt (h5 j hj)) hA
  obtain ⟨w1, w2⟩ := sm_w2_in (i := i) (by omega)
  exact ⟨t, va_Zof (hts _ w1) (hts _ w2) ht hA, hT⟩
theorem sm_sf_at {args : Array Value} {s : State} {A : Nat → Prop} (hs : ∀ c ∈ sm_fl, c.before args s = true) (hts : ∀ w ∈ tables_1, w.before args s = true) (hA : ∀ a : Nat, a < s.heap.size → ¬ A a) :
    ∃ v : Value, (v = .null ∨ ∃ q, v = .ref q) ∧ va_Z (gsnL.getD 4 ("", "", "")).1 (gsnL.getD 4 ("", "", "")).2.1 (gsnL.getD 4 ("", "", "")).2.2 v A s s.heap := by
  have h1 := hs _ (List.mem_of_getElem? (of_decide_eq_true sm_c3_all.1))
  obtain ⟨v, hv, hr⟩ := Cond.isRef_spec (args := args) (first := s) (o := none) (s := s) (idx := []) (t := sm_sn 4) h1
  obtain ⟨w1, w2⟩ := sm_w2_in (i := 4) (by omega)
  refine ⟨v, ?_, va_Zof (hts _ w1) (hts _ w2) hv hA⟩
  cases v <;> first | exact Or.inl rfl | exact Or.inr ⟨_, rfl⟩ | cases hr
theorem sm_sc_at {args : Array Value} {s : State} {A : Nat → Prop} (hs : ∀ c ∈ sm_fl, c.before args s = true) (hts : ∀ w ∈ tables_1, w.before args s = true) (hA : ∀ a : Nat, a < s.heap.size → ¬ A a) :
    va_Z (gsnL.getD 5 ("", "", "")).1 (gsnL.getD 5 ("", "", "")).2.1 (gsnL.getD 5 ("", "", "")).2.2 (.int 1) A s s.heap := by
  have h1 := hs _ (List.mem_of_getElem? (of_decide_eq_true sm_c3_all.2))
  obtain ⟨w1, w2⟩ := sm_w2_in (i := 5) (by omega)
  exact va_Zof (hts _ w1) (hts _ w2) (va_eqt h1) hA
/-- the classes and array classes of the start -/
theorem sm_K0 {args : Array Value} {s : State} (hts : ∀ w ∈ lw_tbl, w.before args s = true) : ∃ (D : va_G) (aC : Nat → ClassId), va_K D gcl [(aC 10, .int), (aC 11, .long), (aC 12, .boolean), (aC 14, .object "ProvedMachine$Sheet"), (aC 15, .object "java/lang/String")] s ∧ va_AO "ProvedMachine$Sheet" s ∧ va_AO "java/lang/String" s := by
  have hg : ∀ w ∈ gtbl, w.before args s = true := fun w hw => hts w (List.mem_filter.mp hw).1
  have h1 : ∀ c : Nat, ∃ q : ClassId × (Nat → Nat), c < 7 → u_Kn s (gcn c) (gF c) (sm_fN c) q.1 q.2 := by
    intro c
    by_cases hc : c < 7
    · obtain ⟨cC, iS, h⟩ := u_known hg (sm_lay_in hc) (hg _ (sm_inst hc).1)
      exact ⟨(cC, iS), fun _ => h⟩
    · exact ⟨(0, fun _ => 0), fun h => absurd h hc⟩
  obtain ⟨D, hD⟩ := Classical.axiomOfChoice h1
  have pr : ∀ ty : FieldType, (∀ C, ty ≠ .object C) → Cond.arrayClass ty ∈ gtbl → ∃ cA : ClassId, ArrOfT s cA ty ∧ va_RA s cA ty := by
    intro ty hty hw
    obtain ⟨cA, kA, comp, f1, f2, f3⟩ := Cond.arrayClass_spec (args := args) (first := s) (o := none) (s := s) (idx := []) (hg _ hw)
    refine ⟨cA, fun n z => ⟨fun k h => (by cases h), kA, f2, comp, f3⟩, ?_⟩
    cases ty <;> first | exact f1 | exact absurd rfl (hty _)
  have ob : ∀ C : String, Cond.arrayOver (.object C) ∈ lw_tbl → ∃ cA : ClassId, ArrOfT s cA (.object C) ∧ va_RA s cA (.object C) := by
    intro C hw
    obtain ⟨comp, cA, kA, f1, -, f2, f3, f4⟩ := Cond.arrayOver_spec (args := args) (first := s) (o := none) (s := s) (idx := []) (hts _ hw)
    exact ⟨cA, fun n z => ⟨fun k h => (by cases h), kA, f2, comp, f3⟩, kA, comp, f2, f3, f1, f4⟩
  obtain ⟨c1, k1⟩ := pr .int (fun _ h => by cases h) sm_arw.1.1
  obtain ⟨c2, k2⟩ := pr .long (fun _ h => by cases h) sm_arw.1.2
  obtain ⟨c3, k3⟩ := pr .boolean (fun _ h => by cases h) sm_arw.2
  have o1 : Cond.arrayOver (.object "ProvedMachine$Sheet") ∈ lw_tbl := List.mem_append_right _ (by decide +kernel)
  have o2 : Cond.arrayOver (.object "java/lang/String") ∈ lw_tbl := List.mem_append_right _ (by decide +kernel)
  obtain ⟨c4, k4⟩ := ob _ o1
  obtain ⟨c5, k5⟩ := ob _ o2
  refine ⟨(fun c => (D c).1, fun c => (D c).2), fun t => if t = 10 then c1 else if t = 11 then c2 else if t = 12 then c3 else if t = 14 then c4 else c5, ⟨fun c q hq => ?_, fun k q hk => ?_⟩, va_AO.of (hts _ o1), va_AO.of (hts _ o2)⟩
  · have hc : c < 7 := (List.getElem?_eq_some_iff.mp hq).1
    cases hq.symm.trans (sm_gcl hc)
    exact hD c hc
  · match k, hk with
    | 0, hk => cases hk; exact k1
    | 1, hk => cases hk; exact k2
    | 2, hk => cases hk; exact k3
    | 3, hk => cases hk; exact k4
    | 4, hk => cases hk; exact k5
    | n + 5, hk => simp at hk
theorem sm_T_len {ty ty' : FieldType} {t N N' : Nat} {f f' : Nat → Value} {A : Nat → Prop} {U : State} {H : Heap} (h : va_T ty t N f A U H) (h' : va_T ty' t N' f' A U H) (hN : N < 2 ^ 31) (hN' : N' < 2 ^ 31) : N = N' ∧ ty = ty' := by
  obtain ⟨cell, h1, ⟨-, k, hk, comp, hkk⟩, h3, h4, h5, h6, h7⟩ := h
  obtain ⟨cell', g1, ⟨-, k', hk', comp', hkk'⟩, g3, g4, g5, g6, g7⟩ := h'
  cases h1.symm.trans g1
  cases hk.symm.trans hk'
  have e := hkk.symm.trans hkk'
  have e5 : nI N = nI N' := h5.symm.trans g5
  refine ⟨(nI_eq hN hN').mp e5, ?_⟩
  cases e
  rfl
theorem sm_OF_u {o n d : String} {v v' : Value} {t : Nat} {A : Nat → Prop} {U : State} {H : Heap} (h : va_OF o n d v t A U H) (h' : va_OF o n d v' t A U H) : v = v' := by
  obtain ⟨cf, k, i, f, cell, h1, h2, h3, h4, h5, h6⟩ := h
  obtain ⟨cf', k', i', f', cell', g1, g2, g3, g4, g5, g6⟩ := h'
  cases h1.symm.trans g1
  cases h3.symm.trans g3
  exact Option.some.inj (h5.symm.trans g5)
/-- the cells that are there at the start -/
def sm_init (G : sm_G) (w : aW) (I : aI) (b L : Nat) (xs : Nat → Int32) : Prop :=
  w.2.2.1 = G.2.2.1 ∧ w.2.2.2 = 0 ∧ w.1 b = some (20, L) ∧ (∀ j, j < L → I b j = xs j)
  ∧ (∀ i, i < 23 → ∃ a v, G.2.2.2 i = .ref a ∧ a < G.2.2.1 ∧ w.2.1 a 0 = some v ∧ w.1 v = some (21, (gsb.getD i []).length) ∧ ∀ j, j < (gsb.getD i []).length → I v j = (gsb.getD i []).getD j 0)
  ∧ (∀ i, i < 4 → ∃ a, G.2.2.2 (gs0 + i) = .ref a ∧ w.1 a = some (20, (gsa.getD i []).length) ∧ ∀ j, j < (gsa.getD i []).length → I a j = (gsa.getD i []).getD j 0)
  ∧ (G.2.2.2 (gs0 + 4) = .null ∨ ∃ q, G.2.2.2 (gs0 + 4) = .ref q) ∧ G.2.2.2 (gs0 + 5) = .int 1 ∧ ∀ a t n, w.1 a = some (t, n) → a < G.2.2.1
def sm_I0 (H : Heap) : aI := fun a j => match H[a]? with
  | some cl0 => (match cl0.slots[j]? with | some (.int x) => x | _ => 0)
  | none => 0
theorem sm_I0_T {ty : FieldType} {t N : Nat} {f : Nat → Int32} {A : Nat → Prop} {U : State} {H : Heap} (h : va_T ty t N (fun j => .int (f j)) A U H) : (∀ j, j < N → sm_I0 H t j = f j) ∧ va_T ty t N (fun j => .int (sm_I0 H t j)) A U H := by
  obtain ⟨cell, h1, h2, h3, h4, h5, h6, h7⟩ := h
  have e : ∀ j, j < N → sm_I0 H t j = f j := fun j hj => by
    unfold sm_I0
    rw [h1]
    simp only [h6 j hj]
  exact ⟨e, cell, h1, h2, h3, h4, h5, fun j hj => by show cell.slots[j]? = some (Value.int (sm_I0 H t j)); rw [e j hj]; exact h6 j hj, h7⟩
theorem sm_fnd {n : Nat} {p : Nat → Bool} {i : Nat} (hi : i < n) (h : p i = true) : ∃ j, (List.range n).find? p = some j ∧ j < n ∧ p j = true := by
  cases hf : (List.range n).find? p with
  | none => exact absurd h (by have := List.find?_eq_none.mp hf i (List.mem_range.mpr hi); simpa using this)
  | some j => exact ⟨j, rfl, List.mem_range.mp (List.mem_of_find?_eq_some hf), List.find?_some hf⟩
set_option maxHeartbeats 2000000 in
theorem sm_start {args : Array Value} {s : State} {b L : Nat} {xs : Nat → Int32} (hn : (Jvm.Cond.and given_1 narrow_1).before args s = true) (hts : ∀ w ∈ lw_tbl, w.before args s = true) (hX : va_X b L xs s s.heap) (hL : L ≤ 384) :
    ∃ (G : sm_G) (w : aW) (I : aI), G.2.2.1 = s.heap.size ∧ sm_KX G s ∧ sm_HX G s s.heap w I (fun _ _ => 0) ∧ sm_init G w I b L xs := by
  have hs : ∀ c ∈ sm_fl, c.before args s = true := flat_of_before _ hn
  have ht1 : ∀ w ∈ tables_1, w.before args s = true := fun w hw => hts w (List.mem_append_right _ hw)
  have hA : ∀ a : Nat, a < s.heap.size → ¬ (fun x => s.heap.size ≤ x) a := fun a h1 h2 => by simp only at h2; omega
  obtain ⟨D, aC, hK, hA1, hA2⟩ := sm_K0 hts
  have hS : ∀ i : Nat, ∃ q : Nat × Nat, i < 23 → (sm_tm i).eval args s none [] s = some (.ref q.1) ∧ va_O "java/lang/String" q.1 (fun x => s.heap.size ≤ x) s s.heap ∧ va_OF "java/lang/String" "coder" "B" (.int 0) q.1 (fun x => s.heap.size ≤ x) s s.heap ∧ va_OF "java/lang/String" "value" "[B" (.ref q.2) q.1 (fun x => s.heap.size ≤ x) s s.heap ∧ va_T .byte q.2 (gsb.getD i []).length (fun j => .int ((gsb.getD i []).getD j 0)) (fun x => s.heap.size ≤ x) s s.heap := by
    intro i
    by_cases hi : i < 23
    · obtain ⟨q, h⟩ := sm_str_at hs hA hi
      exact ⟨q, fun _ => h⟩
    · exact ⟨(0, 0), fun h => absurd h hi⟩
  obtain ⟨f, hf⟩ := Classical.axiomOfChoice hS
  have hT : ∀ i : Nat, ∃ t : Nat, i < 4 → va_Z (gsnL.getD i ("", "", "")).1 (gsnL.getD i ("", "", "")).2.1 (gsnL.getD i ("", "", "")).2.2 (.ref t) (fun x => s.heap.size ≤ x) s s.heap ∧ va_T .int t (gsa.getD i []).length (fun j => .int ((gsa.getD i []).getD j 0)) (fun x => s.heap.size ≤ x) s s.heap := by
    intro i
    by_cases hi : i < 4
    · obtain ⟨t, h⟩ := sm_sa_at hs ht1 hA hi
      exact ⟨t, fun _ => h⟩
    · exact ⟨0, fun h => absurd h hi⟩
  obtain ⟨g, hg⟩ := Classical.axiomOfChoice hT
  obtain ⟨vf, hvf, hZf⟩ := sm_sf_at hs ht1 hA
  have hZc := sm_sc_at hs ht1 hA
  have sb : ∀ i, i < 23 → (gsb.getD i []).length < 128 := fun i hi => of_decide_eq_true (List.all_eq_true.mp sm_gsb_small i (List.mem_range.mpr hi))
  have sa : ∀ i, i < 4 → (gsa.getD i []).length < 128 := fun i hi => of_decide_eq_true (List.all_eq_true.mp sm_gsa_small i (List.mem_range.mpr hi))
  have hXT : va_T .int b L (fun j => .int (xs j)) (fun x => s.heap.size ≤ x) s s.heap := by
    obtain ⟨scr, h1, h2, h3, h4, h5⟩ := hX
    have hb : b < s.heap.size := (Array.getElem?_eq_some_iff.mp h1).1
    exact ⟨scr, h1, h2, h3, by omega, by rw [h4], h5, hA b hb⟩
  let K : Nat → Value := fun i => if i < 23 then .ref (f i).1 else if i < 27 then .ref (g (i - 23)) else if i = 27 then vf else .int 1
  let TT : Nat → Option (Nat × Nat) := fun a => match (List.range 23).find? (fun i => decide ((f i).2 = a)) with
    | some i => some (21, (gsb.getD i []).length)
    | none => match (List.range 4).find? (fun i => decide (g i = a)) with
      | some i => some (20, (gsa.getD i []).length)
      | none => if a = b then some (20, L) else none
  let PP : Nat → Nat → Option Nat := fun a k => match (List.range 23).find? (fun i => decide ((f i).1 = a)) with
    | some i => if k = 0 then some (f i).2 else none
    | none => none
  have hP0 : ∀ i, i < 23 → PP (f i).1 0 = some (f i).2 := by
    intro i hi
    obtain ⟨j, e1, e2, e3⟩ := sm_fnd (p := fun k => decide ((f k).1 = (f i).1)) hi (by simp)
    have e3 : (f j).1 = (f i).1 := by simpa using e3
    have e4 : (f j).2 = (f i).2 := by
      have u1 := (hf j e2).2.2.2.1
      rw [e3] at u1
      exact Value.ref.inj (sm_OF_u u1 (hf i hi).2.2.2.1)
    show (match (List.range 23).find? (fun k => decide ((f k).1 = (f i).1)) with | some i => if 0 = 0 then some (f i).2 else none | none => none) = _
    rw [e1]
    simp [e4]
  have hTB : ∀ i, i < 23 → TT (f i).2 = some (21, (gsb.getD i []).length) := by
    intro i hi
    obtain ⟨j, e1, e2, e3⟩ := sm_fnd (p := fun k => decide ((f k).2 = (f i).2)) hi (by simp)
    have e3 : (f j).2 = (f i).2 := by simpa using e3
    have u1 := (hf j e2).2.2.2.2
    rw [e3] at u1
    have hlen := (sm_T_len u1 (hf i hi).2.2.2.2 (by have := sb j e2; omega) (by have := sb i hi; omega)).1
    show (match (List.range 23).find? (fun k => decide ((f k).2 = (f i).2)) with | some i => some (21, (gsb.getD i []).length) | none => _) = _
    rw [e1]
    simp only [hlen]
  have hnB : ∀ (a N : Nat) (h : Nat → Value), va_T .int a N h (fun x => s.heap.size ≤ x) s s.heap → N < 2 ^ 31 → (List.range 23).find? (fun k => decide ((f k).2 = a)) = none := by
    intro a N h hv hN
    cases hfd : (List.range 23).find? (fun k => decide ((f k).2 = a)) with
    | none => rfl
    | some j =>
      have e2 := List.mem_range.mp (List.mem_of_find?_eq_some hfd)
      have e3 : (f j).2 = a := by simpa using List.find?_some hfd
      have u1 := (hf j e2).2.2.2.2
      rw [e3] at u1
      have := (sm_T_len u1 hv (by have := sb j e2; omega) hN).2
      cases this
  have hTS : ∀ i, i < 4 → TT (g i) = some (20, (gsa.getD i []).length) := by
    intro i hi
    obtain ⟨j, e1, e2, e3⟩ := sm_fnd (p := fun k => decide (g k = g i)) hi (by simp)
    have e3 : g j = g i := by simpa using e3
    have u1 := (hg j e2).2
    rw [e3] at u1
    have hlen := (sm_T_len u1 (hg i hi).2 (by have := sa j e2; omega) (by have := sa i hi; omega)).1
    show (match (List.range 23).find? (fun k => decide ((f k).2 = g i)) with | some i => some (21, (gsb.getD i []).length) | none => match (List.range 4).find? (fun k => decide (g k = g i)) with | some i => some (20, (gsa.getD i []).length) | none => _) = _
    rw [hnB _ _ _ (hg i hi).2 (by have := sa i hi; omega)]
    simp only [e1, hlen]
  have hTb : TT b = some (20, L) := by
    show (match (List.range 23).find? (fun k => decide ((f k).2 = b)) with | some i => some (21, (gsb.getD i []).length) | none => match (List.range 4).find? (fun k => decide (g k = b)) with | some i => some (20, (gsa.getD i []).length) | none => if b = b then some (20, L) else none) = _
    rw [hnB _ _ _ hXT (by omega)]
    cases hfd : (List.range 4).find? (fun k => decide (g k = b)) with
    | none => simp
    | some j =>
      have e2 := List.mem_range.mp (List.mem_of_find?_eq_some hfd)
      have e3 : g j = b := by simpa using List.find?_some hfd
      have u1 := (hg j e2).2
      rw [e3] at u1
      have hlen := (sm_T_len u1 hXT (by have := sa j e2; omega) (by omega)).1
      simp only [hlen]
  have hcell : ∀ a t n, TT a = some (t, n) → (t = 21 ∧ ∃ h : Nat → Int32, va_T .byte a n (fun j => .int (h j)) (fun x => s.heap.size ≤ x) s s.heap) ∨ (t = 20 ∧ ∃ h : Nat → Int32, va_T .int a n (fun j => .int (h j)) (fun x => s.heap.size ≤ x) s s.heap) := by
    intro a t n e
    have e : (match (List.range 23).find? (fun k => decide ((f k).2 = a)) with | some i => some (21, (gsb.getD i []).length) | none => match (List.range 4).find? (fun k => decide (g k = a)) with | some i => some (20, (gsa.getD i []).length) | none => if a = b then some (20, L) else none) = some (t, n) := e
    cases h1 : (List.range 23).find? (fun k => decide ((f k).2 = a)) with
    | some j =>
      rw [h1] at e
      cases e
      have e2 := List.mem_range.mp (List.mem_of_find?_eq_some h1)
      have e3 : (f j).2 = a := by simpa using List.find?_some h1
      exact Or.inl ⟨rfl, _, e3 ▸ (hf j e2).2.2.2.2⟩
    | none =>
      rw [h1] at e
      simp only at e
      cases h2 : (List.range 4).find? (fun k => decide (g k = a)) with
      | some j =>
        rw [h2] at e
        cases e
        have e2 := List.mem_range.mp (List.mem_of_find?_eq_some h2)
        have e3 : g j = a := by simpa using List.find?_some h2
        exact Or.inr ⟨rfl, _, e3 ▸ (hg j e2).2⟩
      | none =>
        rw [h2] at e
        simp only at e
        split at e
        · rename_i hab
          cases e
          exact Or.inr ⟨rfl, _, hab ▸ hXT⟩
        · cases e
  have hK23 : ∀ i, i < 23 → K i = .ref (f i).1 := fun i hi => if_pos hi
  refine ⟨(D, aC, s.heap.size, K), (TT, PP, s.heap.size, 0), sm_I0 s.heap, rfl, ⟨hK, fun x hx => ?_, fun i q e => ?_, hA1, hA2⟩, ⟨rfl, Nat.le_refl _, fun a t n e => ?_, fun i q e => ?_, fun i q hi e => ?_⟩, rfl, rfl, hTb, fun j hj => (sm_I0_T hXT).1 j hj, fun i hi => ?_, fun i hi => ?_, ?_, ?_, fun a t n e => ?_⟩
  · have hx1 : x ∈ tables_1 := by
      obtain ⟨p, hp⟩ := sm_zip (f := fun q => decide (tables_1[q.2]? = some q.1)) (by decide +kernel) sm_nst_all x hx
      exact List.mem_of_getElem? (of_decide_eq_true hp)
    exact va_Nw.of (sm_nst_on x hx) (ht1 x hx1)
  · have hi : i < 23 := (List.getElem?_eq_some_iff.mp e).1
    have hgd : gstr.getD i (0, 0, "") = q := by rw [List.getD_eq_getElem?_getD, e]; rfl
    refine ⟨(f i).1, hK23 i hi, vk_R.of (A := args) ?_ ?_⟩
    · have := ht1 _ (sm_w1_in hi)
      rw [hgd] at this
      exact this
    · have := (hf i hi).1
      unfold sm_tm at this
      rw [hgd] at this
      exact this
  · rcases hcell a t n e with ⟨rfl, h, hv⟩ | ⟨rfl, h, hv⟩
    · have := (sm_I0_T hv).2
      simpa [sm_cell] using this
    · have := (sm_I0_T hv).2
      simpa [sm_cell] using this
  · have hi : i < 6 := (List.getElem?_eq_some_iff.mp e).1
    have hgd : gsnL.getD i ("", "", "") = q := by rw [List.getD_eq_getElem?_getD, e]; rfl
    show va_Z q.1 q.2.1 q.2.2 (K (gs0 + i)) _ s s.heap
    rw [← hgd]
    match i, hi with
    | 0, _ => exact (hg 0 (by decide)).1
    | 1, _ => exact (hg 1 (by decide)).1
    | 2, _ => exact (hg 2 (by decide)).1
    | 3, _ => exact (hg 3 (by decide)).1
    | 4, _ => exact hZf
    | 5, _ => exact hZc
    | n + 6, h => omega
  · have hi : i < 23 := hi
    have e : Value.ref (f i).1 = .ref q := (hK23 i hi).symm.trans e
    cases e
    refine ⟨(hf i hi).2.1, ?_, (hf i hi).2.2.1⟩
    show va_OF "java/lang/String" "value" "[B" (va_rf (PP (f i).1 0)) _ _ s s.heap
    rw [hP0 i hi]
    exact (hf i hi).2.2.2.1
  · exact ⟨(f i).1, (f i).2, hK23 i hi, (by obtain ⟨cell, h1, -⟩ := (hf i hi).2.1; exact (Array.getElem?_eq_some_iff.mp h1).1), hP0 i hi, hTB i hi, (sm_I0_T (hf i hi).2.2.2.2).1⟩
  · refine ⟨g i, ?_, hTS i hi, (sm_I0_T (hg i hi).2).1⟩
    show K (gs0 + i) = _
    match i, hi with
    | 0, _ => rfl
    | 1, _ => rfl
    | 2, _ => rfl
    | 3, _ => rfl
    | n + 4, h => omega
  · exact hvf
  · rfl
  · rcases hcell a t n e with ⟨-, h, cell, h1, -⟩ | ⟨-, h, cell, h1, -⟩
    · exact (Array.getElem?_eq_some_iff.mp h1).1
    · exact (Array.getElem?_eq_some_iff.mp h1).1

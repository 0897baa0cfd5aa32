/-! calls -/
theorem sm_w_oi : (Cond.instanceMethod objectInit ∈ gtbl ∧ Cond.code objectInit ⟨#[0xb1]⟩ 1 none ∈ gtbl) := ⟨sm_gt (gin_1 (List.mem_of_getElem? (i := 22) rfl)) rfl, sm_gt (gin_1 (List.mem_of_getElem? (i := 23) rfl)) rfl⟩
theorem sm_w_mn : Cond.static Lib.Math.min.name ∈ gtbl ∧ Cond.initialized "java/lang/Math" ∈ gtbl ∧ Cond.static Lib.Math.max.name ∈ gtbl := ⟨sm_gt (by decide +kernel) rfl, sm_gt (by decide +kernel) rfl, sm_gt (by decide +kernel) rfl⟩
theorem sm_w_mc : Cond.code Lib.Math.min.name Lib.Math.min.code 2 (some .int) ∈ gtbl ∧ Cond.code Lib.Math.max.name Lib.Math.max.code 2 (some .int) ∈ gtbl := ⟨sm_gt (List.mem_of_getElem? (i := 308) rfl) rfl, sm_gt (List.mem_of_getElem? (i := 349) rfl) rfl⟩
theorem sm_w_ac : Cond.native arraycopyName ∈ gtbl ∧ Cond.static arraycopyName ∈ gtbl ∧ Cond.initialized "java/lang/System" ∈ gtbl := ⟨sm_gt (by decide +kernel) rfl, sm_gt (by decide +kernel) rfl, sm_gt (by decide +kernel) rfl⟩
theorem sm_nfw : nativeFrameWords "java/lang/System" "arraycopy" 5 + 11 ≤ 33 := by decide +kernel
def sm_isN (x : Cond) : Bool := match x with
  | .fieldLinkNest _ _ _ _ _ _ => true
  | .methodLinkNest _ _ _ _ => true
  | _ => false
theorem sm_nst_n : gnst.all sm_isN = true := by decide +kernel
theorem sm_nst_on (x : Cond) (hx : x ∈ gnst) : x.onTables = true := by
  have h := List.all_eq_true.mp sm_nst_n x hx
  cases x <;> first | rfl | cases h
theorem sm_nst_warm {s U : State} (hW : s.WarmedH U.vm) (x : Cond) (hx : x ∈ gnst) (h : va_Nw x s) : va_Nw x U := by
  have hn := List.all_eq_true.mp sm_nst_n x hx
  cases x <;> first | exact va_Nw.warmF hW h | exact va_Nw.warmM hW h | cases hn
section SMC
variable {p : Program} {l : Launch} {e : Env} {R : Room} {s : State} {m : MethodId} {args : Array Value} {below : List Frame} {meth : Method} {c : Code} {H : Heap} {locs : List Loc} {cells slots : Nat} {Q : State → Prop}
variable {G : sm_G} {y pc : Nat} {ls : Array Slot} {w w' : aW} {I I' : aI} {J J' : aJ} {L L' : aL} {st st' : List Value} {pc' : Nat}
theorem sm_acp_ok {k a : Nat} {sp dp n : Int32} {q0 q1 n0 n1 : Nat} {r : List Value} (hC : sm_Cx G y p s m args meth c) (hd : decode (gm y).2.2.1 pc = .ok (.invokestatic k, 3)) (hk : ((gm y).1, k, a, 4) ∈ gmk) (hl : ls.size = (gm y).2.2.2.1) (hf : 1 ≤ R.frames) (hlc : 41 ≤ R.locals)
    (hw0 : w.1 q0 = some (10, n0)) (hw1 : w.1 q1 = some (10, n1)) (h1 : ¬ sp < 0) (h2 : ¬ dp < 0) (h3 : ¬ n < 0) (h4 : sp.toNatClampNeg + n.toNatClampNeg ≤ n0) (h5 : dp.toNatClampNeg + n.toNatClampNeg ≤ n1) (hcs : sm_cs r ≤ 8) (hH : sm_HX G s H w I J) (hlo : ∀ x ∈ locs, G.2.2.1 ≤ x.base)
    (kk : ∀ (H' : Heap) (locs' : List Loc), sm_HX G s H' w (sm_up1 I q1 (va_cpy (I q0) (I q1) sp.toNatClampNeg dp.toNatClampNeg n.toNatClampNeg)) J → (∀ x ∈ locs', G.2.2.1 ≤ x.base) → W p l e R s m args below meth c H' locs' cells slots Q (F0 m (pc + 3) ls r)) : W p l e R s m args below meth c H locs cells slots Q (F0 m pc ls (.int n :: .int dp :: .ref q1 :: .int sp :: .ref q0 :: r)) := by
  obtain ⟨hx, hb, hml, hown, hts, hK, hlk, hin, hrt⟩ := hC
  have nn : ∀ z : Int32, ¬ z < 0 → z.toInt = (z.toNatClampNeg : Int) := by
    intro z hz
    have hz0 : (0 : Int) ≤ z.toInt := by
      have := Int32.not_lt.mp hz
      simpa using Int32.le_iff_toInt_le.mp this
    show z.toInt = ((z.toInt.toNat : Nat) : Int)
    omega
  have hlink : (Cond.methodLink (gcn (gm y).1) k arraycopyName).before args s = true := hts _ (sm_gt (sm_mw_in _ hk) rfl)
  obtain ⟨hB0, hc0⟩ := sm_c10 (hH.2.2.1 q0 10 n0 hw0)
  obtain ⟨hB1, hc1⟩ := sm_c10 (hH.2.2.1 q1 10 n1 hw1)
  have hA := (sm_kA hK).1
  intro T hT X
  obtain ⟨-, k0, hk0, cm0, hkk0⟩ := hA n0 (fun j => .int (I q0 j))
  obtain ⟨-, k1, hk1, cm1, hkk1⟩ := hA n1 (fun j => .int (I q1 j))
  obtain ⟨vm', X', step⟩ := X.arraycopy hx hown hlink (hts _ sm_w_ac.1) (hts _ sm_w_ac.2.1) (hts _ sm_w_ac.2.2) (src := q0) (dst := q1) (cs := arrV (G.2.1 10) n0 (fun j => .int (I q0 j))) (cd := arrV (G.2.1 10) n1 (fun j => .int (I q1 j))) (srcPos := sp) (destPos := dp) (n := n) (by rw [hT]; exact hc0) (by rw [hT]; exact hc1)
    (fun _ h => by cases h) (fun _ h => by cases h) (fun h => by cases h) (fun h => by cases h) hk0 hk1 hkk0 hkk1 (by simp [refKind]) h1 h2 h3
    (by rw [nn sp h1, nn n h3, arrV_size]; omega)
    (by rw [nn dp h2, nn n h3, arrV_size]; omega)
    (fun vm₁ _ i hi => by
      have e : (arrV (G.2.1 10) n0 (fun j => .int (I q0 j))).slots.getD (sp.toNatClampNeg + i) .null = .int (I q0 (sp.toNatClampNeg + i)) := by
        rw [Array.getD_eq_getD_getElem?, arrV_read _ _ (by omega)]
        rfl
      refine ⟨?_, ?_⟩
      · rw [e]
        rfl
      · rw [e]
        exact trivial)
    (g := F0 m pc ls (.int n :: .int dp :: .ref q1 :: .int sp :: .ref q0 :: r)) rfl (by rw [hml]; exact hl) (rest := r) rfl (by rw [hb]; exact hd) hf (by show 2 * 0 + sm_cs r + _ ≤ _; have := sm_nfw; omega)
  have e1 : copied (arrV (G.2.1 10) n0 (fun j => .int (I q0 j))) (arrV (G.2.1 10) n1 (fun j => .int (I q1 j))) sp dp n = arrV (G.2.1 10) n1 (fun j => .int (va_cpy (I q0) (I q1) sp.toNatClampNeg dp.toNatClampNeg n.toNatClampNeg j)) := va_copied (fun z => .int z) _ _ (I q0) (I q1) h4
  rw [e1] at X' step
  have hlt : q1 < H.size := (Array.getElem?_eq_some_iff.mp hc1).1
  have hheap : ((T.setVm vm').setCell q1 (arrV (G.2.1 10) n1 (fun j => .int (va_cpy (I q0) (I q1) sp.toNatClampNeg dp.toNatClampNeg n.toNatClampNeg j)))).heap = H.setIfInBounds q1 (arrV (G.2.1 10) n1 (fun j => .int (va_cpy (I q0) (I q1) sp.toNatClampNeg dp.toNatClampNeg n.toNatClampNeg j))) := by rw [← hT]; rfl
  obtain ⟨t, a1, b1⟩ := kk _ _ (hH.put (a := q1) hB1 (by simp) (fun q hq => by simp [Array.getElem?_setIfInBounds, Ne.symm hq]) rfl rfl (fun z hz => sm_up1_ne hz) (fun _ _ => rfl) (fun _ _ => rfl) (fun t' n' ht => by
      rw [hw1] at ht
      cases ht
      have h6 : G.2.2.1 ≤ q1 ∧ (H.setIfInBounds q1 (arrV (G.2.1 10) n1 (fun j => .int (va_cpy (I q0) (I q1) sp.toNatClampNeg dp.toNatClampNeg n.toNatClampNeg j))))[q1]? = some (arrV (G.2.1 10) n1 (fun j => .int (sm_up1 I q1 (va_cpy (I q0) (I q1) sp.toNatClampNeg dp.toNatClampNeg n.toNatClampNeg) q1 j))) := ⟨hB1, by rw [sm_up1_eq]; simp [Array.getElem?_setIfInBounds, hlt]⟩
      simpa [sm_cell] using h6)) (fun x hx => by
      rcases List.mem_append.mp hx with h | h
      · exact hlo x h
      · obtain ⟨z, -, hz⟩ := List.mem_map.mp h
        rw [← hz]
        exact hB1) _ hheap X'
  exact ⟨t, step t a1, b1⟩
/-- the calls that are taken as one step -/
theorem sm_prm_ok {i : Instr} {a b k0 e0 f0 : Nat} {z : Int32} {zl : Int64} {len : Nat} (hC : sm_Cx G y p s m args meth c) (hd : decode (gm y).2.2.1 pc = .ok (i, len)) (hr : sm_okI (gm y).1 y pc i len a b k0 e0 f0 z zl = true) (hi : sm_knd i = 2) (hb0 : b = 3 ∨ b = 4 ∨ b = 6 ∨ b = 7) (hs : sm_prm b (pc + 3) L st w I J = some (pc', L', st', w', I', J'))
    (hl : sm_lv ls (gm y).2.2.2.1 L) (hH : sm_HX G s H w I J) (hlo : ∀ x ∈ locs, G.2.2.1 ≤ x.base) (hf : 1 ≤ R.frames) (hlc : 41 ≤ R.locals) (hc : cells ≤ R.cells) (hsl : slots ≤ R.slots)
    (kk : ∀ (H' : Heap) (locs' : List Loc), w' = w → L' = L → sm_HX G s H' w' I' J' → (∀ x ∈ locs', G.2.2.1 ≤ x.base) → W p l e R s m args below meth c H' locs' cells slots Q (F0 m pc' ls st')) : W p l e R s m args below meth c H locs cells slots Q (F0 m pc ls st) := by
  have hC' := hC
  obtain ⟨hx, hb, hml, hown, hts, hK, hlk, hin, hrt⟩ := hC
  have hsz : c.maxLocals = ls.size := by rw [hml, hl.size]
  unfold sm_prm at hs
  cases i <;> first | exact absurd hi (show ¬ (0 : Nat) = 2 by decide) | exact absurd hi (show ¬ (1 : Nat) = 2 by decide) | skip
  case invokespecial k =>
    obtain ⟨rfl, hk, hkb⟩ := of_decide_eq_true hr
    have hk := sm_e4_in hk
    have h3 : b = 3 := by omega
    subst h3
    rw [if_pos rfl] at hs
    unfold sm_oin at hs
    split at hs
    · split at hs
      · rename_i hcs
        cases hs
        exact W.objInit hx hb hown (hts _ (sm_gt (sm_mw_in _ hk) rfl)) (hts _ sm_w_oi.1) (hts _ sm_w_oi.2) rfl hsz.symm rfl hd hf (by show 2 * 0 + sm_cs _ + 12 ≤ _; omega) (kk H locs rfl rfl hH hlo)
      · cases hs
    · cases hs
  case invokestatic k =>
    obtain ⟨rfl, hk, hkb⟩ := of_decide_eq_true hr
    have hk := sm_e4_in hk
    by_cases h4 : b = 4
    · subst h4
      rw [if_neg (by decide), if_pos rfl] at hs
      unfold sm_acp at hs
      split at hs
      · split at hs
        · rename_i t1 n1 t2 n2 hw0 hw1
          split at hs
          · rename_i hcond
            obtain ⟨rfl, rfl, g1, g2, g3, g4, g5, g6⟩ := hcond
            cases hs
            exact sm_acp_ok hC' hd hk hl.size hf hlc hw0 hw1 g1 g2 g3 g4 g5 g6 hH hlo (fun H' locs' hH' hlo' => kk H' locs' rfl rfl hH' hlo')
          · cases hs
        · cases hs
      · cases hs
    · by_cases h6 : b = 6
      · subst h6
        rw [if_neg (by decide), if_neg (by decide), if_pos rfl] at hs
        unfold sm_mm at hs
        split at hs
        · split at hs
          · rename_i hcs
            cases hs
            exact va_mmin hx hb hsz hown (hts _ (sm_gt (sm_mw_in _ hk) rfl)) (hts _ sm_w_mn.1) (hts _ sm_w_mn.2.1) (hts _ sm_w_mc.1) hf (by show sm_cs _ + 13 ≤ _; omega) hc hsl hd (kk H locs rfl rfl hH hlo)
          · cases hs
        · cases hs
      · have h7 : b = 7 := by omega
        subst h7
        rw [if_neg (by decide), if_neg (by decide), if_neg (by decide)] at hs
        unfold sm_mm at hs
        split at hs
        · split at hs
          · rename_i hcs
            cases hs
            exact va_mmax hx hb hsz hown (hts _ (sm_gt (sm_mw_in _ hk) rfl)) (hts _ sm_w_mn.2.2) (hts _ sm_w_mn.2.1) (hts _ sm_w_mc.2) hf (by show sm_cs _ + 13 ≤ _; omega) hc hsl hd (kk H locs rfl rfl hH hlo)
          · cases hs
        · cases hs
  case invokevirtual k =>
    obtain ⟨rfl, hk, hkb, -⟩ := of_decide_eq_true hr
    omega
/-! the contract of a method, as the small machine runs it -/
def sm_ws (y : Nat) : List Cond := sm_code y :: gtbl
def sm_Pc (G : sm_G) (as : List Value) (w : aW) (I : aI) (J : aJ) : Array Value → State → Prop := fun v U => v = as.toArray ∧ sm_KX G U ∧ sm_HX G U U.heap w I J
def sm_Qc (G : sm_G) (r : Option Value) (w : aW) (I : aI) (J : aJ) : Array Value → State → Outcome → State → Prop := fun _ _ oc t => oc = .returned r ∧ sm_HX G t t.heap w I J
def sm_rm (d mc ms : Nat) : Room := { frames := d, cells := mc, slots := ms, locals := 41 * d }
theorem sm_KX.same {u U : State} (h : u.vm = U.vm) (hK : sm_KX G u) : sm_KX G U := by
  have ha : u.vm.Alike U.vm := by rw [h]; exact Vm.Alike.refl _
  refine ⟨va_K.moved ha hK.1, fun x hx => ?_, fun i q e => ?_, hK.2.2.2.1.moved ha, hK.2.2.2.2.moved ha⟩
  · exact va_tabs (sm_nst_on x hx) h (hK.2.1 x hx)
  · obtain ⟨a, h1, h2⟩ := hK.2.2.1 i q e
    exact ⟨a, h1, vk_R.same h.symm h2⟩
theorem sm_KX.warm {U : State} (hW : s.WarmedH U.vm) (hK : sm_KX G s) : sm_KX G U := by
  refine ⟨va_K.moved hW.alike hK.1, fun x hx => sm_nst_warm hW x hx (hK.2.1 x hx), fun i q e => ?_, hK.2.2.2.1.moved hW.alike, hK.2.2.2.2.moved hW.alike⟩
  obtain ⟨a, h1, h2⟩ := hK.2.2.1 i q e
  exact ⟨a, h1, vk_R.warm hW h2⟩
theorem sm_Pc.blind {as : List Value} : FrameBlind (sm_Pc G as w I J) := fun a U g mk q => ⟨q.1, sm_KX.same (u := U) (U := U.calling g mk a) rfl q.2.1, sm_HX.moved (u := U) (U := U.calling g mk a) (Vm.Alike.refl U.vm) q.2.2⟩
theorem sm_good {y' : Nat} (h0 : 0 < y') (h : y' < gml.length) : GoodIn gtbl (sm_ws y') := fun x hx => by
  have hm : x ∈ gtbl := by
    rcases List.mem_cons.mp hx with rfl | hx
    · exact sm_gt (sm_code_in h0 h) rfl
    · exact hx
  exact ⟨hm, sm_goodIn x hm⟩
end SMC

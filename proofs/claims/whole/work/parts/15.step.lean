/-! new cells, statics; one step of the small machine -/
theorem sm_inst_all : (List.range 7).all (fun a => decide (Cond.instantiable (gcn a) (sm_fN a) ∈ tables_1) && goodWord (Cond.instantiable (gcn a) (sm_fN a)) && decide (Cond.initialized (gcn a) ∈ tables_1) && goodWord (Cond.initialized (gcn a)) && decide (sm_cnm a = gcn a)) = true := by decide +kernel
theorem sm_inst {a : Nat} (h : a < 7) : Cond.instantiable (gcn a) (sm_fN a) ∈ gtbl ∧ Cond.initialized (gcn a) ∈ gtbl ∧ sm_cnm a = gcn a := by
  have h1 := List.all_eq_true.mp sm_inst_all a (List.mem_range.mpr h)
  simp only [Bool.and_eq_true, decide_eq_true_eq] at h1
  exact ⟨sm_gt h1.1.1.1.1 h1.1.1.1.2, sm_gt h1.1.1.2 h1.1.2, h1.2⟩
theorem sm_arw : (Cond.arrayClass .int ∈ gtbl ∧ Cond.arrayClass .long ∈ gtbl) ∧ Cond.arrayClass .boolean ∈ gtbl := ⟨⟨sm_gt (by decide +kernel) rfl, sm_gt (by decide +kernel) rfl⟩, sm_gt (by decide +kernel) rfl⟩
theorem sm_dflt {a k : Nat} (ha : a < 7) (hk : k < sm_fN a) : defaultValue (gty a k) = sm_cv (gft a k) 0 none := by
  rcases sm_fkind ha hk with ⟨h1, h2⟩ | ⟨h1, h2⟩ | ⟨h1, h2⟩
  · rw [h1, h2]; rfl
  · rw [h1, h2]; rfl
  · rw [h1]
    cases h3 : gty a k <;> rw [h3] at h2 <;> first | rfl | cases h2
def sm_swf (q : (Nat × Nat × Nat) × Nat) : Bool := decide (tables_1[q.2]? = some (sm_sw q.1)) && decide (gs0 ≤ q.1.2.2) && decide (q.1.2.2 < gs0 + gsnL.length)
theorem sm_swf_all : (gsk.zip gskP).all sm_swf = true := by decide +kernel
section SMN
variable {p : Program} {l : Launch} {e : Env} {R : Room} {s : State} {m : MethodId} {args : Array Value} {below : List Frame} {meth : Method} {c : Code} {H : Heap} {locs : List Loc} {cells slots : Nat} {Q : State → Prop}
variable {G : sm_G} {y pc : Nat} {ls : Array Slot} {w : aW} {I : aI} {J : aJ}
theorem sm_new_ok {k a b : Nat} {st : List Value} (hC : sm_Cx G y p s m args meth c) (hd : decode (gm y).2.2.1 pc = .ok (.new k, 3)) (hk : ((gm y).1, k, a) ∈ gck) (ha : a < 7) (hb : (gcl[a]?).map (fun q => q.2.2) = some b) (hH : sm_HX G s H w I J) (hc : cells + 1 ≤ R.cells) (hsl : slots + b ≤ R.slots)
    (kk : ∀ H' : Heap, sm_HX G s H' (sm_alc w a 0 b) (sm_up1 I w.2.2.1 (fun _ => 0)) (sm_up1 J w.2.2.1 (fun _ => 0)) → W p l e R s m args below meth c H' locs (cells + 1) (slots + b) Q (F0 m (pc + 3) ls (.ref w.2.2.1 :: st))) : W p l e R s m args below meth c H locs cells slots Q (F0 m pc ls st) := by
  obtain ⟨hx, hb0, hml, hown, hts, hK, hlk, hin, hrt⟩ := hC
  have hg := sm_gcl ha
  rw [hg] at hb
  have hb : sm_fN a = b := Option.some.inj hb
  subst hb
  obtain ⟨w1, w2, w3⟩ := sm_inst ha
  have hcl : (Cond.classLink (gcn (gm y).1) k (gcn a)).before args s = true := by
    have := hts _ (sm_gt (sm_cw_in _ hk) rfl)
    unfold sm_cw at this
    rw [w3] at this
    exact this
  have hKn := hK.1.1 a _ hg
  refine W.newcK hx hb0 hown hcl (hts _ w1) (hts _ w2) rfl hd hc hsl hKn.2.1 hH.1 fun H' kC hkC e1 z1 o1 => ?_
  refine kk H' (hH.new (by rw [z1, hH.1]) (fun q hq => o1 q (by rw [← hH.1]; exact hq)) (fun q hq => sm_up1_ne hq) (fun q hq => sm_up1_ne hq) ?_)
  unfold sm_cell
  rw [if_pos ha]
  refine ⟨hH.2.1, _, hg, (u_born (gty a) hts (sm_lay_in ha) hKn hkC e1 (fun j hj => sm_fdsc ha hj)).to (fun j hj => ?_)⟩
  rw [sm_dflt ha hj]
  simp [sm_alc, sm_up1]
theorem sm_newarray_ok {t : ArrayType} {a : Nat} {n : Int32} {r : List Value} (hC : sm_Cx G y p s m args meth c) (hd : decode (gm y).2.2.1 pc = .ok (.newarray t, 2)) (ht : t = .int ∧ a = 10 ∨ t = .long ∧ a = 11 ∨ t = .boolean ∧ a = 12) (hn : ¬ n < 0) (hm : n.toNatClampNeg ≤ 1000000) (hH : sm_HX G s H w I J) (hc : cells + 1 ≤ R.cells) (hsl : slots + n.toNatClampNeg ≤ R.slots)
    (kk : ∀ H' : Heap, sm_HX G s H' (sm_alc w a n.toNatClampNeg n.toNatClampNeg) (sm_up1 I w.2.2.1 (fun _ => 0)) (sm_up1 J w.2.2.1 (fun _ => 0)) → W p l e R s m args below meth c H' locs (cells + 1) (slots + n.toNatClampNeg) Q (F0 m (pc + 2) ls (.ref w.2.2.1 :: r))) : W p l e R s m args below meth c H locs cells slots Q (F0 m pc ls (.int n :: r)) := by
  obtain ⟨hx, hb0, hml, hown, hts, hK, hlk, hin, hrt⟩ := hC
  rcases ht with ⟨rfl, rfl⟩ | ⟨rfl, rfl⟩ | ⟨rfl, rfl⟩
  · refine va_newaK (atype := .int) hx hb0 (hts _ sm_arw.1.1) rfl hd rfl hn rfl (by have : componentBytes (newarray.typeOf .int) = 4 := rfl; rw [this]; omega) hc hsl hH.1 fun H' cA e1 z1 o1 hAr hNm => ?_
    have hA : cA = G.2.1 10 := Option.some.inj (hNm.symm.trans (hK.1.2 0 _ rfl).2)
    subst hA
    refine kk H' (hH.new (by rw [z1, hH.1]) (fun q hq => o1 q (by rw [← hH.1]; exact hq)) (fun q hq => sm_up1_ne hq) (fun q hq => sm_up1_ne hq) ?_)
    have h2 : G.2.2.1 ≤ w.2.2.1 ∧ H'[w.2.2.1]? = some (arrV (G.2.1 10) n.toNatClampNeg (fun j => .int (sm_up1 I w.2.2.1 (fun _ => 0) w.2.2.1 j))) := ⟨hH.2.1, by rw [sm_up1_eq]; exact e1⟩
    simpa [sm_cell] using h2
  · refine va_newaK (atype := .long) hx hb0 (hts _ sm_arw.1.2) rfl hd rfl hn rfl (by have : componentBytes (newarray.typeOf .long) = 8 := rfl; rw [this]; omega) hc hsl hH.1 fun H' cA e1 z1 o1 hAr hNm => ?_
    have hA : cA = G.2.1 11 := Option.some.inj (hNm.symm.trans (hK.1.2 1 _ rfl).2)
    subst hA
    refine kk H' (hH.new (by rw [z1, hH.1]) (fun q hq => o1 q (by rw [← hH.1]; exact hq)) (fun q hq => sm_up1_ne hq) (fun q hq => sm_up1_ne hq) ?_)
    have h2 : G.2.2.1 ≤ w.2.2.1 ∧ H'[w.2.2.1]? = some (arrV (G.2.1 11) n.toNatClampNeg (fun j => .long (sm_up1 J w.2.2.1 (fun _ => 0) w.2.2.1 j))) := ⟨hH.2.1, by rw [sm_up1_eq]; exact e1⟩
    simpa [sm_cell] using h2
  · refine va_newaK (atype := .boolean) hx hb0 (hts _ sm_arw.2) rfl hd rfl hn rfl (by have : componentBytes (newarray.typeOf .boolean) = 1 := rfl; rw [this]; omega) hc hsl hH.1 fun H' cA e1 z1 o1 hAr hNm => ?_
    have hA : cA = G.2.1 12 := Option.some.inj (hNm.symm.trans (hK.1.2 2 _ rfl).2)
    subst hA
    refine kk H' (hH.new (by rw [z1, hH.1]) (fun q hq => o1 q (by rw [← hH.1]; exact hq)) (fun q hq => sm_up1_ne hq) (fun q hq => sm_up1_ne hq) ?_)
    have h2 : G.2.2.1 ≤ w.2.2.1 ∧ H'[w.2.2.1]? = some (arrV (G.2.1 12) n.toNatClampNeg (fun j => .int (sm_up1 I w.2.2.1 (fun _ => 0) w.2.2.1 j))) := ⟨hH.2.1, by rw [sm_up1_eq]; exact e1⟩
    simpa [sm_cell] using h2
theorem sm_anewarray_ok {k a : Nat} {n : Int32} {r : List Value} (hC : sm_Cx G y p s m args meth c) (hd : decode (gm y).2.2.1 pc = .ok (.anewarray k, 3)) (hk : ((gm y).1, k, a) ∈ gck) (ht : a = 14 ∨ a = 15) (hn : ¬ n < 0) (hm : n.toNatClampNeg ≤ 1000000) (hH : sm_HX G s H w I J) (hc : cells + 1 ≤ R.cells) (hsl : slots + n.toNatClampNeg ≤ R.slots)
    (kk : ∀ H' : Heap, sm_HX G s H' (sm_alc w a n.toNatClampNeg n.toNatClampNeg) (sm_up1 I w.2.2.1 (fun _ => 0)) (sm_up1 J w.2.2.1 (fun _ => 0)) → W p l e R s m args below meth c H' locs (cells + 1) (slots + n.toNatClampNeg) Q (F0 m (pc + 3) ls (.ref w.2.2.1 :: r))) : W p l e R s m args below meth c H locs cells slots Q (F0 m pc ls (.int n :: r)) := by
  obtain ⟨hx, hb0, hml, hown, hts, hK, hlk, hin, hrt⟩ := hC
  have hcl := hts _ (sm_gt (sm_cw_in _ hk) rfl)
  have fin : ∀ (cA : ClassId) (H1 : Heap), H1 = H.push ({ cls := cA, slots := Array.replicate n.toNatClampNeg .null, vm := .none } : Cell) → H1.size = H.size + 1 ∧ H1[w.2.2.1]? = some (arrV cA n.toNatClampNeg (fun _ => .null)) ∧ ∀ q : Nat, q < H.size → H1[q]? = H[q]? := by
    intro cA H1 hH1
    refine ⟨by rw [hH1, Array.size_push], by rw [← hH.1, hH1, Array.getElem?_push_size, ← arrV_new], fun q hq => by rw [hH1, Array.getElem?_push, if_neg (Nat.ne_of_lt hq)]⟩
  rcases ht with rfl | rfl
  · refine W.anew hx hb0 hown hcl (va_AO.use hK.2.2.2.1) rfl hd rfl hn (by omega) hc hsl fun cA kA comp f1 f2 f3 f4 => ?_
    obtain ⟨z1, e1, o1⟩ := fin cA _ rfl
    obtain ⟨_, _, _, _, _, hNm⟩ := (hK.1.2 3 _ rfl).2
    have hA : cA = G.2.1 14 := Option.some.inj (f1.symm.trans hNm)
    subst hA
    have hst : (F0 m (pc + 3) ls (Value.ref H.size :: r)) = F0 m (pc + 3) ls (Value.ref w.2.2.1 :: r) := by rw [hH.1]
    refine W.eq hst (kk _ (hH.new z1 o1 (fun q hq => sm_up1_ne hq) (fun q hq => sm_up1_ne hq) ?_))
    have h2 : G.2.2.1 ≤ w.2.2.1 ∧ (H.push ({ cls := G.2.1 14, slots := Array.replicate n.toNatClampNeg .null, vm := .none } : Cell))[w.2.2.1]? = some (arrV (G.2.1 14) n.toNatClampNeg (fun j => va_rf ((sm_alc w 14 n.toNatClampNeg n.toNatClampNeg).2.1 w.2.2.1 j))) := ⟨hH.2.1, by rw [e1]; simp [sm_alc, sm_up1, va_rf]⟩
    simpa only [sm_cell, if_neg (by decide : ¬ (14 : Nat) < 7), if_neg (by decide : ¬ (14 : Nat) = 10), if_neg (by decide : ¬ (14 : Nat) = 11), if_neg (by decide : ¬ (14 : Nat) = 12), if_true] using h2
  · refine W.anew hx hb0 hown hcl (va_AO.use hK.2.2.2.2) rfl hd rfl hn (by omega) hc hsl fun cA kA comp f1 f2 f3 f4 => ?_
    obtain ⟨z1, e1, o1⟩ := fin cA _ rfl
    obtain ⟨_, _, _, _, _, hNm⟩ := (hK.1.2 4 _ rfl).2
    have hA : cA = G.2.1 15 := Option.some.inj (f1.symm.trans hNm)
    subst hA
    have hst : (F0 m (pc + 3) ls (Value.ref H.size :: r)) = F0 m (pc + 3) ls (Value.ref w.2.2.1 :: r) := by rw [hH.1]
    refine W.eq hst (kk _ (hH.new z1 o1 (fun q hq => sm_up1_ne hq) (fun q hq => sm_up1_ne hq) ?_))
    have h2 : G.2.2.1 ≤ w.2.2.1 ∧ (H.push ({ cls := G.2.1 15, slots := Array.replicate n.toNatClampNeg .null, vm := .none } : Cell))[w.2.2.1]? = some (arrV (G.2.1 15) n.toNatClampNeg (fun j => va_rf ((sm_alc w 15 n.toNatClampNeg n.toNatClampNeg).2.1 w.2.2.1 j))) := ⟨hH.2.1, by rw [e1]; simp [sm_alc, sm_up1, va_rf]⟩
    simpa only [sm_cell, if_neg (by decide : ¬ (15 : Nat) < 7), if_neg (by decide : ¬ (15 : Nat) = 10), if_neg (by decide : ¬ (15 : Nat) = 11), if_neg (by decide : ¬ (15 : Nat) = 12), if_neg (by decide : ¬ (15 : Nat) = 14), if_true] using h2
theorem sm_getstatic_ok {k a : Nat} {st : List Value} (hC : sm_Cx G y p s m args meth c) (hd : decode (gm y).2.2.1 pc = .ok (.getstatic k, 3)) (hk : ((gm y).1, k, a) ∈ gsk) (hH : sm_HX G s H w I J)
    (kk : W p l e R s m args below meth c H locs cells slots Q (F0 m (pc + 3) ls (G.2.2.2 a :: st))) : W p l e R s m args below meth c H locs cells slots Q (F0 m pc ls st) := by
  obtain ⟨hx, hb0, hml, hown, hts, hK, hlk, hin, hrt⟩ := hC
  obtain ⟨pp, hp⟩ := sm_zip (f := sm_swf) (by decide +kernel) sm_swf_all _ hk
  simp only [sm_swf, Bool.and_eq_true, decide_eq_true_eq] at hp
  obtain ⟨⟨h1, h2⟩, h3⟩ := hp
  have hlink := hts _ (sm_gt (List.mem_of_getElem? h1) rfl)
  unfold sm_sw at hlink
  have hq : gsnL[a - gs0]? = some (gsnL.getD (a - gs0) ("", "", "")) := by
    rw [List.getD_eq_getElem?_getD, List.getElem?_eq_getElem (show a - gs0 < gsnL.length by omega)]
    rfl
  obtain ⟨cf, kf, fi, f, a1, cell, g1, g2, g3, g4, g5, g6, g7, g8⟩ := hH.2.2.2.1 _ _ hq
  have ha : gs0 + (a - gs0) = a := by omega
  rw [ha] at g7
  exact W.gets hx hb0 hown hlink g1 g2 g3 g4 g5 (fun e => by rw [e] at g6; cases g6) g7 rfl hd kk
end SMN

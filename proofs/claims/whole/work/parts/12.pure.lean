/-! one step of the small machine is one of the real machine's -/
def sm_KX (G : sm_G) (U : State) : Prop := va_K G.1 gcl [(G.2.1 10, .int), (G.2.1 11, .long), (G.2.1 12, .boolean), (G.2.1 14, .object "ProvedMachine$Sheet"), (G.2.1 15, .object "java/lang/String")] U ∧ (∀ w ∈ gnst, va_Nw w U) ∧ (∀ (i : Nat) (q : Nat × Nat × String), gstr[i]? = some q → ∃ a : Nat, G.2.2.2 i = .ref a ∧ vk_R (gcn q.1) q.2.1 q.2.2 a U) ∧ va_AO "ProvedMachine$Sheet" U ∧ va_AO "java/lang/String" U
def sm_Cx (G : sm_G) (y : Nat) (p : Program) (s : State) (m : MethodId) (args : Array Value) (meth : Method) (c : Code) : Prop :=
  p.tables.exec = Jvm.exec ∧ c.code = (gm y).2.2.1 ∧ c.maxLocals = (gm y).2.2.2.1 ∧ s.vm.findClass (gcn (gm y).1) = some m.cls ∧ (∀ w ∈ gtbl, w.before args s = true) ∧ sm_KX G s ∧ meth.locks = false ∧ ((gm y).2.1.name = "<init>" → meth.name = "<init>") ∧ meth.sig.returnType = (gm y).2.2.2.2.1
theorem sm_nl_s {pc pc' : Nat} {st st' : List Value} {w w' : aW} {I I' : aI} {J J' : aJ} {o : Option aL} {L' : aL} (h : sm_nl pc st w I J o = some (pc', L', st', w', I', J')) : o = some L' ∧ pc' = pc ∧ st' = st ∧ w' = w ∧ I' = I ∧ J' = J := by
  cases o with
  | none => cases h
  | some x => cases h; exact ⟨rfl, rfl, rfl, rfl, rfl, rfl⟩
theorem sm_nx_s {pc pc' : Nat} {L L' : aL} {st' : List Value} {w w' : aW} {I I' : aI} {J J' : aJ} {o : Option (List Value)} (h : sm_nx pc L w I J o = some (pc', L', st', w', I', J')) : o = some st' ∧ pc' = pc ∧ L' = L ∧ w' = w ∧ I' = I ∧ J' = J := by
  cases o with
  | none => cases h
  | some x => cases h; exact ⟨rfl, rfl, rfl, rfl, rfl, rfl⟩
theorem sm_jm_s {pc' : Nat} {L L' : aL} {st st' : List Value} {w w' : aW} {I I' : aI} {J J' : aJ} {o : Option Nat} (h : sm_jm o L st w I J = some (pc', L', st', w', I', J')) : o = some pc' ∧ L' = L ∧ st' = st ∧ w' = w ∧ I' = I ∧ J' = J := by
  cases o with
  | none => cases h
  | some x => cases h; exact ⟨rfl, rfl, rfl, rfl, rfl, rfl⟩
theorem sm_o1_s {f : Int32 → Int32} {st st' : List Value} (h : sm_o1 f st = some st') : ∃ (x : Int32) (r : List Value), st = .int x :: r ∧ st' = .int (f x) :: r := by
  unfold sm_o1 at h
  split at h
  · cases h; exact ⟨_, _, rfl, rfl⟩
  · cases h
theorem sm_o2_s {f : Int32 → Int32 → Int32} {st st' : List Value} (h : sm_o2 f st = some st') : ∃ (x y : Int32) (r : List Value), st = .int y :: .int x :: r ∧ st' = .int (f x y) :: r := by
  unfold sm_o2 at h
  split at h
  · cases h; exact ⟨_, _, _, rfl, rfl⟩
  · cases h
theorem sm_oL_s {f : Int64 → Int64 → Int64} {st st' : List Value} (h : sm_oL f st = some st') : ∃ (x y : Int64) (r : List Value), st = .long y :: .long x :: r ∧ st' = .long (f x y) :: r := by
  unfold sm_oL at h
  split at h
  · cases h; exact ⟨_, _, _, rfl, rfl⟩
  · cases h
theorem sm_oH_s {f : Int64 → Int32 → Int64} {st st' : List Value} (h : sm_oH f st = some st') : ∃ (x : Int64) (y : Int32) (r : List Value), st = .int y :: .long x :: r ∧ st' = .long (f x y) :: r := by
  unfold sm_oH at h
  split at h
  · cases h; exact ⟨_, _, _, rfl, rfl⟩
  · cases h
theorem sm_jmp_s {pc q : Nat} {off : Int} (h : sm_jmp pc off = some q) : (pc : Int) + off = (q : Int) := by
  unfold sm_jmp at h
  split at h
  · cases h; omega
  · cases h
section SMP
variable {p : Program} {l : Launch} {e : Env} {R : Room} {s : State} {m : MethodId} {args : Array Value} {below : List Frame} {meth : Method} {c : Code} {H : Heap} {locs : List Loc} {cells slots : Nat} {Q : State → Prop}
variable {cc : ByteArray} {pc : Nat} {ls : Array Slot}
/-- a branch, by its condition -/
theorem sm_b0_ok (hx : p.tables.exec = Jvm.exec) (hb : c.code = cc) {k : ClassFile.Cond} {x : Int32} {off : Int} {tgt : Nat} {r : List Value} (hd : decode cc pc = .ok (.ifCond k off, 3)) (ht : (pc : Int) + off = (tgt : Int)) (kk : W p l e R s m args below meth c H locs cells slots Q (F0 m (sm_b0 k x tgt (pc + 3)) ls r)) : W p l e R s m args below meth c H locs cells slots Q (F0 m pc ls (.int x :: r)) := by
  cases k
  case eq => exact lv_if_eq hx hb hd ht (fun h => by simp only [sm_b0] at kk; rw [if_pos h] at kk; exact kk) (fun h => by simp only [sm_b0] at kk; rw [if_neg h] at kk; exact kk)
  case ne => exact lv_if_ne hx hb hd ht (fun h => by simp only [sm_b0] at kk; rw [if_pos h] at kk; exact kk) (fun h => by simp only [sm_b0] at kk; rw [if_neg (fun q => q h)] at kk; exact kk)
  case lt => exact lv_if_lt hx hb hd ht (fun h => by simp only [sm_b0] at kk; rw [if_pos h] at kk; exact kk) (fun h => by simp only [sm_b0] at kk; rw [if_neg h] at kk; exact kk)
  case ge => exact lv_if_ge hx hb hd ht (fun h => by simp only [sm_b0] at kk; rw [if_pos h] at kk; exact kk) (fun h => by simp only [sm_b0] at kk; rw [if_neg h] at kk; exact kk)
  case gt => exact lv_if_gt hx hb hd ht (fun h => by simp only [sm_b0] at kk; rw [if_pos h] at kk; exact kk) (fun h => by simp only [sm_b0] at kk; rw [if_neg h] at kk; exact kk)
  case le => exact lv_if_le hx hb hd ht (fun h => by simp only [sm_b0] at kk; rw [if_pos h] at kk; exact kk) (fun h => by simp only [sm_b0] at kk; rw [if_neg h] at kk; exact kk)
theorem sm_b2_ok (hx : p.tables.exec = Jvm.exec) (hb : c.code = cc) {k : ClassFile.Cond} {x y : Int32} {off : Int} {tgt : Nat} {r : List Value} (hd : decode cc pc = .ok (.if_icmp k off, 3)) (ht : (pc : Int) + off = (tgt : Int)) (kk : W p l e R s m args below meth c H locs cells slots Q (F0 m (sm_b2 k x y tgt (pc + 3)) ls r)) : W p l e R s m args below meth c H locs cells slots Q (F0 m pc ls (.int y :: .int x :: r)) := by
  cases k
  case eq => exact lv_icmp_eq hx hb hd ht (fun h => by simp only [sm_b2] at kk; rw [if_pos h] at kk; exact kk) (fun h => by simp only [sm_b2] at kk; rw [if_neg h] at kk; exact kk)
  case ne => exact lv_icmp_ne hx hb hd ht (fun h => by simp only [sm_b2] at kk; rw [if_pos h] at kk; exact kk) (fun h => by simp only [sm_b2] at kk; rw [if_neg (fun q => q h)] at kk; exact kk)
  case lt => exact lv_icmp_lt hx hb hd ht (fun h => by simp only [sm_b2] at kk; rw [if_pos h] at kk; exact kk) (fun h => by simp only [sm_b2] at kk; rw [if_neg h] at kk; exact kk)
  case ge => exact lv_icmp_ge hx hb hd ht (fun h => by simp only [sm_b2] at kk; rw [if_pos h] at kk; exact kk) (fun h => by simp only [sm_b2] at kk; rw [if_neg h] at kk; exact kk)
  case gt => exact lv_icmp_gt hx hb hd ht (fun h => by simp only [sm_b2] at kk; rw [if_pos h] at kk; exact kk) (fun h => by simp only [sm_b2] at kk; rw [if_neg h] at kk; exact kk)
  case le => exact lv_icmp_le hx hb hd ht (fun h => by simp only [sm_b2] at kk; rw [if_pos h] at kk; exact kk) (fun h => by simp only [sm_b2] at kk; rw [if_neg h] at kk; exact kk)
end SMP
/-- instructions that touch no cell -/
def sm_isP (i : Instr) : Bool := match i with
  | .iconst _ => true
  | .bipush _ => true
  | .sipush _ => true
  | .lconst _ => true
  | .ldc _ => true
  | .ldc2_w _ => true
  | .iload_n _ => true
  | .iload _ => true
  | .lload_n _ => true
  | .lload _ => true
  | .aload_n _ => true
  | .aload _ => true
  | .istore_n _ => true
  | .istore _ => true
  | .lstore_n _ => true
  | .lstore _ => true
  | .astore_n _ => true
  | .astore _ => true
  | .iinc _ _ => true
  | .iadd => true
  | .isub => true
  | .imul => true
  | .iand => true
  | .ior => true
  | .ishl => true
  | .ishr => true
  | .idiv => true
  | .ineg => true
  | .i2b => true
  | .i2c => true
  | .i2l => true
  | .l2i => true
  | .ladd => true
  | .lsub => true
  | .lmul => true
  | .land => true
  | .lor => true
  | .lshl => true
  | .lshr => true
  | .lushr => true
  | .lcmp => true
  | .dup => true
  | .dup2 => true
  | .pop => true
  | .ifCond _ _ => true
  | .if_icmp _ _ => true
  | .goto _ => true
  | .tableswitch _ _ _ _ => true
  | .lookupswitch _ _ => true
  | _ => false
set_option maxHeartbeats 2000000 in
theorem sm_pure_ok {p : Program} {l : Launch} {e : Env} {R : Room} {s : State} {m : MethodId} {args : Array Value} {below : List Frame} {meth : Method} {c : Code} {H : Heap} {locs : List Loc} {cells slots : Nat} {Q : State → Prop} {G : sm_G} {y pc pc' : Nat} {i : Instr} {len a b k0 e0 f0 : Nat} {z : Int32} {zl : Int64} {L L' : aL} {st st' : List Value} {w w' : aW} {I I' : aI} {J J' : aJ} {ls : Array Slot}
    (hC : sm_Cx G y p s m args meth c) (hd : decode (gm y).2.2.1 pc = .ok (i, len)) (hr : sm_okI (gm y).1 y pc i len a b k0 e0 f0 z zl = true) (hi : sm_isP i = true) (hs : sm_stp G.2.2.2 (i, len, a, b, k0, e0, f0, z, zl) pc L st w I J = some (pc', L', st', w', I', J'))
    (hl : sm_lv ls (gm y).2.2.2.1 L) (kk : w' = w → I' = I → J' = J → ∀ ls' : Array Slot, sm_lv ls' (gm y).2.2.2.1 L' → W p l e R s m args below meth c H locs cells slots Q (F0 m pc' ls' st')) : W p l e R s m args below meth c H locs cells slots Q (F0 m pc ls st) := by
  obtain ⟨hx, hb, hml, hown, hts, hK, hlk, hin, hrt⟩ := hC
  cases i
  case iconst n =>
    obtain ⟨rfl, hz⟩ := of_decide_eq_true hr
    cases hs
    exact lv_iconst hx hb hd hz (kk rfl rfl rfl _ hl)
  case bipush n =>
    obtain ⟨rfl, hz⟩ := of_decide_eq_true hr
    cases hs
    exact lv_bipush hx hb hd hz (kk rfl rfl rfl _ hl)
  case sipush n =>
    obtain ⟨rfl, hz⟩ := of_decide_eq_true hr
    cases hs
    exact lv_sipush hx hb hd hz (kk rfl rfl rfl _ hl)
  case lconst n =>
    obtain ⟨rfl, hz⟩ := of_decide_eq_true hr
    cases hs
    exact lv_lconst hx hb hd hz (kk rfl rfl rfl _ hl)
  case ldc n =>
    obtain ⟨rfl, rfl, hz⟩ := of_decide_eq_true hr
    cases hs
    cases hg : gstr[a]? with
    | none => rw [hg] at hz; cases hz
    | some q =>
      rw [hg] at hz
      obtain ⟨q1, q2, q3⟩ := q
      cases hz
      obtain ⟨v, hv, hR⟩ := hK.2.2.1 a _ hg
      refine va_ldcS hx hb hown hR hd ?_
      rw [← hv]
      exact (kk rfl rfl rfl _ hl)
  case ldc2_w n =>
    obtain ⟨rfl, hz⟩ := of_decide_eq_true hr
    cases hs
    exact lv_ldc2 hx hb hown (hts _ (sm_gt (sm_lg_in _ hz) rfl)) hd (kk rfl rfl rfl _ hl)
  case iload_n n =>
    obtain ⟨rfl, hz⟩ := of_decide_eq_true hr
    simp only [sm_stp] at hs
    split at hs
    · rename_i x h1
      cases hs
      exact lv_iload_n hx hb hd hz (hl.get h1) (kk rfl rfl rfl _ hl)
    · cases hs
  case istore_n n =>
    obtain ⟨rfl, hz⟩ := of_decide_eq_true hr
    simp only [sm_stp] at hs
    split at hs
    · obtain ⟨h1, rfl, rfl, rfl, rfl, rfl⟩ := sm_nl_s hs
      obtain ⟨h2, h3⟩ := sm_lv.set1 hl.2 h1
      exact lv_istore_n hx hb hd hz hl.1 h2 rfl (fun ls' h => kk rfl rfl rfl ls' (h3 ls' h))
    · cases hs
  case iload n =>
    obtain ⟨rfl, hz⟩ := of_decide_eq_true hr
    simp only [sm_stp] at hs
    split at hs
    · rename_i x h1
      cases hs
      exact lv_iload hx hb hd (hl.get (hz ▸ h1)) (kk rfl rfl rfl _ hl)
    · cases hs
  case istore n =>
    obtain ⟨rfl, hz⟩ := of_decide_eq_true hr
    simp only [sm_stp] at hs
    split at hs
    · obtain ⟨h1, rfl, rfl, rfl, rfl, rfl⟩ := sm_nl_s hs
      obtain ⟨h2, h3⟩ := sm_lv.set1 hl.2 h1
      exact lv_istore hx hb hd  hl.1 (by rw [hz]; exact h2) rfl (fun ls' h => kk rfl rfl rfl ls' (h3 ls' (by rw [hz] at h; exact h)))
    · cases hs
  case lload_n n =>
    obtain ⟨rfl, hz⟩ := of_decide_eq_true hr
    simp only [sm_stp] at hs
    split at hs
    · rename_i x h1
      cases hs
      exact lv_lload_n hx hb hd hz (hl.get h1) (kk rfl rfl rfl _ hl)
    · cases hs
  case lstore_n n =>
    obtain ⟨rfl, hz⟩ := of_decide_eq_true hr
    simp only [sm_stp] at hs
    split at hs
    · obtain ⟨h1, rfl, rfl, rfl, rfl, rfl⟩ := sm_nl_s hs
      obtain ⟨h2, h3⟩ := sm_lv.set2 hl.2 h1
      exact lv_lstore_n hx hb hd hz hl.1 h2 rfl (fun ls' h => kk rfl rfl rfl ls' (h3 ls' h))
    · cases hs
  case lload n =>
    obtain ⟨rfl, hz⟩ := of_decide_eq_true hr
    simp only [sm_stp] at hs
    split at hs
    · rename_i x h1
      cases hs
      exact lv_lload hx hb hd (hl.get (hz ▸ h1)) (kk rfl rfl rfl _ hl)
    · cases hs
  case lstore n =>
    obtain ⟨rfl, hz⟩ := of_decide_eq_true hr
    simp only [sm_stp] at hs
    split at hs
    · obtain ⟨h1, rfl, rfl, rfl, rfl, rfl⟩ := sm_nl_s hs
      obtain ⟨h2, h3⟩ := sm_lv.set2 hl.2 h1
      exact lv_lstore hx hb hd  hl.1 (by rw [hz]; exact h2) rfl (fun ls' h => kk rfl rfl rfl ls' (h3 ls' (by rw [hz] at h; exact h)))
    · cases hs
  case aload_n n =>
    obtain ⟨rfl, hz⟩ := of_decide_eq_true hr
    simp only [sm_stp] at hs
    split at hs
    · rename_i x h1
      cases hs
      exact lv_aload_n hx hb hd hz (hl.get h1) (kk rfl rfl rfl _ hl)
    · cases hs
  case astore_n n =>
    obtain ⟨rfl, hz⟩ := of_decide_eq_true hr
    simp only [sm_stp] at hs
    split at hs
    · obtain ⟨h1, rfl, rfl, rfl, rfl, rfl⟩ := sm_nl_s hs
      obtain ⟨h2, h3⟩ := sm_lv.set1 hl.2 h1
      exact lv_astore_n hx hb hd hz hl.1 h2 rfl (fun ls' h => kk rfl rfl rfl ls' (h3 ls' h))
    · cases hs
  case aload n =>
    obtain ⟨rfl, hz⟩ := of_decide_eq_true hr
    simp only [sm_stp] at hs
    split at hs
    · rename_i x h1
      cases hs
      exact lv_aload hx hb hd (hl.get (hz ▸ h1)) (kk rfl rfl rfl _ hl)
    · cases hs
  case astore n =>
    obtain ⟨rfl, hz⟩ := of_decide_eq_true hr
    simp only [sm_stp] at hs
    split at hs
    · obtain ⟨h1, rfl, rfl, rfl, rfl, rfl⟩ := sm_nl_s hs
      obtain ⟨h2, h3⟩ := sm_lv.set1 hl.2 h1
      exact lv_astore hx hb hd  hl.1 (by rw [hz]; exact h2) rfl (fun ls' h => kk rfl rfl rfl ls' (h3 ls' (by rw [hz] at h; exact h)))
    · cases hs
  case iinc n v =>
    obtain ⟨rfl, rfl, hz⟩ := of_decide_eq_true hr
    simp only [sm_stp] at hs
    split at hs
    · rename_i x h0
      obtain ⟨h1, rfl, rfl, rfl, rfl, rfl⟩ := sm_nl_s hs
      obtain ⟨h2, h3⟩ := sm_lv.set1 hl.2 h1
      obtain ⟨j, hj⟩ := List.getElem?_of_mem (sm_asc_mem.mpr ⟨n, (Nat.zero_add n).symm, sm_gd.mp h0⟩)
      exact lv_iinc hx hb hd hl.1 hj (by rw [hz]) h2 rfl (fun ls' h => kk rfl rfl rfl ls' (h3 ls' h))
    · cases hs
  case iadd =>
    obtain rfl := of_decide_eq_true hr
    obtain ⟨h1, rfl, rfl, rfl, rfl, rfl⟩ := sm_nx_s hs
    obtain ⟨x, y, r, rfl, rfl⟩ := sm_o2_s h1
    exact lv_iadd hx hb hd (kk rfl rfl rfl _ hl)
  case isub =>
    obtain rfl := of_decide_eq_true hr
    obtain ⟨h1, rfl, rfl, rfl, rfl, rfl⟩ := sm_nx_s hs
    obtain ⟨x, y, r, rfl, rfl⟩ := sm_o2_s h1
    exact lv_isub hx hb hd (kk rfl rfl rfl _ hl)
  case imul =>
    obtain rfl := of_decide_eq_true hr
    obtain ⟨h1, rfl, rfl, rfl, rfl, rfl⟩ := sm_nx_s hs
    obtain ⟨x, y, r, rfl, rfl⟩ := sm_o2_s h1
    exact lv_imul hx hb hd (kk rfl rfl rfl _ hl)
  case iand =>
    obtain rfl := of_decide_eq_true hr
    obtain ⟨h1, rfl, rfl, rfl, rfl, rfl⟩ := sm_nx_s hs
    obtain ⟨x, y, r, rfl, rfl⟩ := sm_o2_s h1
    exact lv_iand hx hb hd (kk rfl rfl rfl _ hl)
  case ior =>
    obtain rfl := of_decide_eq_true hr
    obtain ⟨h1, rfl, rfl, rfl, rfl, rfl⟩ := sm_nx_s hs
    obtain ⟨x, y, r, rfl, rfl⟩ := sm_o2_s h1
    exact lv_ior hx hb hd (kk rfl rfl rfl _ hl)
  case ishl =>
    obtain rfl := of_decide_eq_true hr
    obtain ⟨h1, rfl, rfl, rfl, rfl, rfl⟩ := sm_nx_s hs
    obtain ⟨x, y, r, rfl, rfl⟩ := sm_o2_s h1
    exact lv_ishl hx hb hd (kk rfl rfl rfl _ hl)
  case ishr =>
    obtain rfl := of_decide_eq_true hr
    obtain ⟨h1, rfl, rfl, rfl, rfl, rfl⟩ := sm_nx_s hs
    obtain ⟨x, y, r, rfl, rfl⟩ := sm_o2_s h1
    exact lv_ishr hx hb hd (kk rfl rfl rfl _ hl)
  case idiv =>
    obtain rfl := of_decide_eq_true hr
    simp only [sm_stp] at hs
    split at hs
    · split at hs
      · cases hs
      · rename_i h0
        cases hs
        exact lv_idiv hx hb hd h0 (kk rfl rfl rfl _ hl)
    · cases hs
  case ineg =>
    obtain rfl := of_decide_eq_true hr
    obtain ⟨h1, rfl, rfl, rfl, rfl, rfl⟩ := sm_nx_s hs
    obtain ⟨x, r, rfl, rfl⟩ := sm_o1_s h1
    exact lv_ineg hx hb hd (kk rfl rfl rfl _ hl)
  case i2b =>
    obtain rfl := of_decide_eq_true hr
    obtain ⟨h1, rfl, rfl, rfl, rfl, rfl⟩ := sm_nx_s hs
    obtain ⟨x, r, rfl, rfl⟩ := sm_o1_s h1
    exact lv_i2b hx hb hd rfl (kk rfl rfl rfl _ hl)
  case i2c =>
    obtain rfl := of_decide_eq_true hr
    obtain ⟨h1, rfl, rfl, rfl, rfl, rfl⟩ := sm_nx_s hs
    obtain ⟨x, r, rfl, rfl⟩ := sm_o1_s h1
    exact lv_i2c hx hb hd rfl (kk rfl rfl rfl _ hl)
  case i2l =>
    obtain rfl := of_decide_eq_true hr
    simp only [sm_stp] at hs
    split at hs
    · cases hs
      exact lv_i2l hx hb hd rfl (kk rfl rfl rfl _ hl)
    · cases hs
  case l2i =>
    obtain rfl := of_decide_eq_true hr
    simp only [sm_stp] at hs
    split at hs
    · cases hs
      exact lv_l2i hx hb hd rfl (kk rfl rfl rfl _ hl)
    · cases hs
  case ladd =>
    obtain rfl := of_decide_eq_true hr
    obtain ⟨h1, rfl, rfl, rfl, rfl, rfl⟩ := sm_nx_s hs
    obtain ⟨x, y, r, rfl, rfl⟩ := sm_oL_s h1
    exact lv_ladd hx hb hd (kk rfl rfl rfl _ hl)
  case lsub =>
    obtain rfl := of_decide_eq_true hr
    obtain ⟨h1, rfl, rfl, rfl, rfl, rfl⟩ := sm_nx_s hs
    obtain ⟨x, y, r, rfl, rfl⟩ := sm_oL_s h1
    exact lv_lsub hx hb hd (kk rfl rfl rfl _ hl)
  case lmul =>
    obtain rfl := of_decide_eq_true hr
    obtain ⟨h1, rfl, rfl, rfl, rfl, rfl⟩ := sm_nx_s hs
    obtain ⟨x, y, r, rfl, rfl⟩ := sm_oL_s h1
    exact lv_lmul hx hb hd (kk rfl rfl rfl _ hl)
  case land =>
    obtain rfl := of_decide_eq_true hr
    obtain ⟨h1, rfl, rfl, rfl, rfl, rfl⟩ := sm_nx_s hs
    obtain ⟨x, y, r, rfl, rfl⟩ := sm_oL_s h1
    exact lv_land hx hb hd (kk rfl rfl rfl _ hl)
  case lor =>
    obtain rfl := of_decide_eq_true hr
    obtain ⟨h1, rfl, rfl, rfl, rfl, rfl⟩ := sm_nx_s hs
    obtain ⟨x, y, r, rfl, rfl⟩ := sm_oL_s h1
    exact lv_lor hx hb hd (kk rfl rfl rfl _ hl)
  case lshl =>
    obtain rfl := of_decide_eq_true hr
    obtain ⟨h1, rfl, rfl, rfl, rfl, rfl⟩ := sm_nx_s hs
    obtain ⟨x, y, r, rfl, rfl⟩ := sm_oH_s h1
    exact lv_lshl hx hb hd rfl (kk rfl rfl rfl _ hl)
  case lshr =>
    obtain rfl := of_decide_eq_true hr
    obtain ⟨h1, rfl, rfl, rfl, rfl, rfl⟩ := sm_nx_s hs
    obtain ⟨x, y, r, rfl, rfl⟩ := sm_oH_s h1
    exact lv_lshr hx hb hd rfl (kk rfl rfl rfl _ hl)
  case lushr =>
    obtain rfl := of_decide_eq_true hr
    obtain ⟨h1, rfl, rfl, rfl, rfl, rfl⟩ := sm_nx_s hs
    obtain ⟨x, y, r, rfl, rfl⟩ := sm_oH_s h1
    exact lv_lushr hx hb hd rfl (kk rfl rfl rfl _ hl)
  case lcmp =>
    obtain rfl := of_decide_eq_true hr
    simp only [sm_stp] at hs
    split at hs
    · cases hs
      exact W.lcmp hx hb hd (kk rfl rfl rfl _ hl)
    · cases hs
  case dup =>
    obtain rfl := of_decide_eq_true hr
    simp only [sm_stp] at hs
    split at hs
    · split at hs
      · rename_i h0
        cases hs
        exact lv_dup hx hb hd h0 (kk rfl rfl rfl _ hl)
      · cases hs
    · cases hs
  case dup2 =>
    obtain rfl := of_decide_eq_true hr
    simp only [sm_stp] at hs
    split at hs
    · split at hs
      · rename_i h0
        cases hs
        exact lv_dup2_11 hx hb hd h0.1 h0.2 (kk rfl rfl rfl _ hl)
      · cases hs
    · cases hs
  case pop =>
    obtain rfl := of_decide_eq_true hr
    simp only [sm_stp] at hs
    split at hs
    · split at hs
      · rename_i h0
        cases hs
        exact lv_pop hx hb hd h0 (kk rfl rfl rfl _ hl)
      · cases hs
    · cases hs
  case ifCond k off =>
    obtain ⟨rfl, hz⟩ := of_decide_eq_true hr
    simp only [sm_stp] at hs
    split at hs
    · cases hs
      exact sm_b0_ok hx hb hd hz (kk rfl rfl rfl _ hl)
    · cases hs
  case if_icmp k off =>
    obtain ⟨rfl, hz⟩ := of_decide_eq_true hr
    simp only [sm_stp] at hs
    split at hs
    · cases hs
      exact sm_b2_ok hx hb hd hz (kk rfl rfl rfl _ hl)
    · cases hs
  case goto off =>
    obtain ⟨rfl, hz⟩ := of_decide_eq_true hr
    cases hs
    exact lv_goto hx hb hd hz (kk rfl rfl rfl _ hl)
  case tableswitch d lo hh offs =>
    simp only [sm_stp] at hs
    split at hs
    · obtain ⟨h1, rfl, rfl, rfl, rfl, rfl⟩ := sm_jm_s hs
      unfold sm_swt at h1
      split at h1
      · rename_i h2
        exact lv_tableOut hx hb hd h2 (sm_jmp_s h1) (kk rfl rfl rfl _ hl)
      · rename_i h2
        split at h1
        · rename_i off h3
          exact lv_tableIn hx hb hd (fun q => h2 (Or.inl q)) (fun q => h2 (Or.inr q)) h3 (sm_jmp_s h1) (kk rfl rfl rfl _ hl)
        · cases h1
    · cases hs
  case lookupswitch d ps =>
    simp only [sm_stp] at hs
    split at hs
    · obtain ⟨h1, rfl, rfl, rfl, rfl, rfl⟩ := sm_jm_s hs
      unfold sm_swl at h1
      split at h1
      · rename_i h2
        exact lv_lookup hx hb hd h2 rfl (sm_jmp_s h1) (kk rfl rfl rfl _ hl)
      · cases h1
    · cases hs
  all_goals cases hi

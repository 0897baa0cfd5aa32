/-! soundness: a run of the small machine is one of the real machine -/
section SMV
variable {p : Program} {l : Launch} {e : Env} {R : Room} {s : State} {m : MethodId} {args : Array Value} {below : List Frame} {meth : Method} {c : Code} {H : Heap} {locs : List Loc} {cells slots : Nat} {Q : State → Prop}
variable {G : sm_G} {y pc : Nat} {ls : Array Slot} {w w' : aW} {I I' : aI} {J J' : aJ} {L L' : aL} {st st' : List Value} {pc' : Nat}
/-- behind a call -/
theorem sm_callW {mc ms : Nat} {rest : List Value} {v : Option Value} {a : Array Value} (hr : va_Run p l e R s m args below meth c H locs cells slots mc ms (F0 m pc ls st) rest (sm_Qc G v w' I' J' a) (fun q => G.2.2.1 ≤ q)) (hlo : ∀ x ∈ locs, G.2.2.1 ≤ x.base)
    (kk : ∀ (H' : Heap) (locs' : List Loc), sm_HX G s H' w' I' J' → (∀ x ∈ locs', G.2.2.1 ≤ x.base) → W p l e R s m args below meth c H' locs' (cells + mc) (slots + ms) Q (F0 m (pc + 3) ls (v.toList ++ rest))) : W p l e R s m args below meth c H locs cells slots Q (F0 m pc ls st) := by
  intro T hT X
  obtain ⟨v', st₀, t, T', L, h0, X', hL, e1, e2, ⟨hv, hHt⟩, hst⟩ := hr T hT X
  cases hv
  obtain ⟨t2, a1, b1⟩ := kk T'.heap (locs ++ L) (by rw [e1]; exact hHt.moved (by rw [← e2]; exact X'.warmed.alike.symm)) (fun x hx => by
    rcases List.mem_append.mp hx with h | h
    · exact hlo x h
    · exact hL x h) T' rfl X'
  exact ⟨t2, hst t2 a1, b1⟩
/-- the cell of a receiver -/
theorem sm_recv {q t n : Nat} (hK : sm_KX G s) (hH : sm_HX G s H w I J) (hw : w.1 q = some (t, n)) (h7 : t < 7) : ∃ cellB : Cell, H[q]? = some cellB ∧ cellB.vm.isStatics = false ∧ s.vm.findClass (gcn t) = some cellB.cls := by
  have hcell := hH.2.2.1 q t n hw
  unfold sm_cell at hcell
  rw [if_pos h7] at hcell
  obtain ⟨-, r0, hr0, cell, q1, q2, q3, q4⟩ := hcell
  exact ⟨cell, q1, by rw [q3]; rfl, by rw [q2]; exact (hK.1.1 t _ (sm_gcl h7)).2.1⟩
end SMV
/-- what the small machine's runs say of the real machine -/
def sm_Snd (G : sm_G) (n : Nat) : Prop := ∀ (d y pc : Nat) (L : aL) (st : List Value) (w : aW) (I : aI) (J : aJ) (v : Option Value) (w' : aW) (I' : aI) (J' : aJ), sm_run G.2.2.2 n d y pc L st w I J = some (v, w', I', J') →
  ∀ (p : Program) (l : Launch) (e : Env) (R : Room) (s : State) (m : MethodId) (args : Array Value) (below : List Frame) (meth : Method) (c : Code) (H : Heap) (ls : Array Slot) (locs : List Loc) (cells slots s0 t0 : Nat) (Q : State → Prop),
  sm_Cx G y p s m args meth c → sm_lv ls (gm y).2.2.2.1 L → sm_HX G s H w I J → (∀ x ∈ locs, G.2.2.1 ≤ x.base) → cells + s0 = w.2.2.1 → slots + t0 = w.2.2.2 → w'.2.2.1 ≤ s0 + R.cells → w'.2.2.2 ≤ t0 + R.slots → d ≤ R.frames → 41 * d ≤ R.locals →
  (∀ (H' : Heap) (ls' : Array Slot) (locs' : List Loc) (cells' slots' pc' : Nat) (i : Instr), decode (gm y).2.2.1 pc' = .ok (i, 1) → sm_rok y i v → sm_HX G s H' w' I' J' → (∀ x ∈ locs', G.2.2.1 ≤ x.base) → cells' + s0 = w'.2.2.1 → slots' + t0 = w'.2.2.2 → W p l e R s m args below meth c H' locs' cells' slots' Q (F0 m pc' ls' v.toList)) →
  W p l e R s m args below meth c H locs cells slots Q (F0 m pc ls st)
/-- a method's contract out of its run -/
theorem sm_Met {G : sm_G} {n d y : Nat} {as : List Value} {w w' : aW} {I I' : aI} {J J' : aJ} {v : Option Value} (ih : sm_Snd G n) (h0 : 0 < y) (hy : y < gml.length) (hlen : (sm_slv as).length ≤ (gm y).2.2.2.1) (h : sm_run G.2.2.2 n d y 0 (sm_ent (gm y).2.2.2.1 as) [] w I J = some (v, w', I', J')) (l : Launch) :
    Met l (gm y).2.1 (sm_ws y) (sm_rm d (w'.2.2.1 - w.2.2.1) (w'.2.2.2 - w.2.2.2)) (sm_Pc G as w I J) (sm_Qc G v w' I' J') (w'.2.2.1 - w.2.2.1) (w'.2.2.2 - w.2.2.2) (fun q => G.2.2.1 ≤ q) := by
  obtain ⟨f1, f2, f3, f4, f5, f6⟩ := sm_mfit_of hy
  obtain ⟨hle1, hle2⟩ := sm_run_le _ _ _ _ _ _ _ _ _ _ _ _ _ h
  refine Met.ofW (cc := (gm y).2.2.1) (maxL := (gm y).2.2.2.1) (ret := (gm y).2.2.2.2.1) f3 rfl ?_
  intro p e s m args below meth c s₁ B hml hv
  obtain ⟨rfl, hK, hH⟩ := hv
  have hts := atoms_spec (ws := sm_ws y) B.pre
  have hown : s.vm.findClass (gcn (gm y).1) = some m.cls := by rw [← f1]; exact findClass_of_methodNamed B.named
  have hnm : meth.name = (gm y).2.1.name := (name_of_methodNamed B.named B.method).1
  have hlk := B.notSynchronized
  rw [lg_entry_eq]
  refine ih d y 0 _ [] w I J v w' I' J' h p l e _ s m as.toArray below meth c s.heap _ [] 0 0 w.2.2.1 w.2.2.2 _ ⟨B.exec, B.bytes, hml, hown, fun x hx => hts x (List.mem_cons_of_mem _ hx), hK, hlk, fun hi => hnm.trans hi, B.returns⟩ (sm_lv.entry hlen) hH (fun _ h => by cases h) (Nat.zero_add _) (Nat.zero_add _) ?_ ?_ ?_ ?_ ?_
  · show _ ≤ _ + (w'.2.2.1 - w.2.2.1); omega
  · show _ ≤ _ + (w'.2.2.2 - w.2.2.2); omega
  · exact Nat.le_refl d
  · exact Nat.le_refl (41 * d)
  · intro H' ls' locs' cells' slots' pc' i hd hrk hH' hlo' hc' hs'
    have hc2 : cells' = w'.2.2.1 - w.2.2.1 := by omega
    have hs2 : slots' = w'.2.2.2 - w.2.2.2 := by omega
    subst hc2
    subst hs2
    have hq : ∀ t : State, t.heap = H' → s.WarmedH t.vm → sm_Qc G v w' I' J' as.toArray s (.returned v) t := fun t ht hW => ⟨rfl, by rw [ht]; exact hH'.moved hW.alike⟩
    rcases hrk with ⟨rfl, rfl, hr⟩ | ⟨rfl, x, ty, rfl, hr, hn⟩ | ⟨rfl, x, rfl, hr⟩ | ⟨rfl, q, rfl, hr⟩
    · exact W.vret B.exec B.bytes (B.returns.trans hr) hq hlo' hd hlk
    · exact W.zret B.exec B.bytes (B.returns.trans hr) hn hq hlo' hd hlk
    · exact W.lret B.exec B.bytes (B.returns.trans hr) hq hlo' hd hlk
    · exact W.aret B.exec B.bytes (B.returns.trans hr) (Or.inl ⟨_, rfl⟩) (Or.inr ⟨_, rfl⟩) hq hlo' hd hlk
set_option maxHeartbeats 4000000 in
theorem sm_sound (hrows : ∀ (y pc : Nat) (r : aRow), sm_cd y pc = some r → sm_okb y pc r = true) (G : sm_G) : ∀ n, sm_Snd G n := by
  intro n
  induction n with
  | zero => intro d y pc L st w I J v w' I' J' h; cases h
  | succ n ih =>
    intro d y pc L st w I J v w' I' J' h p l e R s m args below meth c H ls locs cells slots s0 t0 Q hC hl hH hlo hc hsl hRc hRs hfr hlc hret
    obtain ⟨hle1, hle2⟩ := sm_run_le _ _ _ _ _ _ _ _ _ _ _ _ _ h
    simp only [sm_run] at h
    split at h
    · cases h
    · rename_i r hr
      have hok := hrows y pc r hr
      split at h
      · split at h
        · rename_i pc1 L1 st1 w1 I1 J1 hs
          obtain ⟨hm1, hm2⟩ := sm_run_le _ _ _ _ _ _ _ _ _ _ _ _ _ h
          exact sm_step_ok hC hok hs hl hH hlo hc hsl (Nat.le_trans hm1 hRc) (Nat.le_trans hm2 hRs) (fun H' ls' locs' cells' slots' g1 g2 g3 g4 g5 => ih _ _ _ _ _ _ _ _ _ _ _ _ h p l e R s m args below meth c H' ls' locs' cells' slots' s0 t0 Q hC g1 g2 g3 g4 g5 hRc hRs hfr hlc hret)
        · cases h
      · obtain ⟨i, len, a, b, k0, e0, f0, z, zl⟩ := r
        simp only [sm_okb, Bool.and_eq_true, decide_eq_true_eq] at hok
        obtain ⟨rfl, rfl, rfl, rfl⟩ := sm_ret_s h
        obtain ⟨rfl, hrk⟩ := sm_rok_of hok.2 h
        exact hret H ls locs cells slots pc i hok.1 hrk hH hlo hc hsl
      · rename_i hk1 hk2
        split at h
        · cases h
        · rename_i d'
          have hknd : sm_knd r.1 = 2 := by
            have h3 : sm_knd r.1 = 0 ∨ sm_knd r.1 = 1 ∨ sm_knd r.1 = 2 := by cases r.1 <;> simp [sm_knd]
            rcases h3 with h3 | h3 | h3
            · exact absurd h3 hk1
            · exact absurd h3 hk2
            · exact h3
          obtain ⟨i, len, a, b, k0, e0, f0, z, zl⟩ := r
          simp only [sm_okb, Bool.and_eq_true, decide_eq_true_eq] at hok
          obtain ⟨hd, hokI⟩ := hok
          dsimp only at h hknd
          split at h
          · rename_i hb0
            split at h
            · rename_i pc1 L1 st1 w1 I1 J1 hs
              obtain ⟨rfl, rfl⟩ := sm_prm_le hs
              exact sm_prm_ok hC hd hokI hknd hb0 hs hl hH hlo (by omega) (by omega) (by omega) (by omega) (fun H' locs' _ _ hH' hlo' => ih _ _ _ _ _ _ _ _ _ _ _ _ h p l e R s m args below meth c H' ls locs' cells slots s0 t0 Q hC hl hH' hlo' hc hsl hRc hRs hfr hlc hret)
            · cases h
          · rename_i hb0
            split at h
            · cases h
            · rename_i as rest has
              split at h
              · rename_i hcond
                simp only [Bool.and_eq_true, decide_eq_true_eq] at hcond
                obtain ⟨⟨hrv, hcs⟩, hsl2⟩ := hcond
                split at h
                · rename_i v1 w1 I1 J1 hrun
                  obtain ⟨hm1, hm2⟩ := sm_run_le _ _ _ _ _ _ _ _ _ _ _ _ _ h
                  obtain ⟨hn1, hn2⟩ := sm_run_le _ _ _ _ _ _ _ _ _ _ _ _ _ hrun
                  have hC' := hC
                  obtain ⟨hx, hb, hml, hown, hts, hK, hlk, hin, hrt⟩ := hC'
                  have goes : ∀ (H' : Heap) (locs' : List Loc), sm_HX G s H' w1 I1 J1 → (∀ x ∈ locs', G.2.2.1 ≤ x.base) → W p l e R s m args below meth c H' locs' (cells + (w1.2.2.1 - w.2.2.1)) (slots + (w1.2.2.2 - w.2.2.2)) Q (F0 m (pc + 3) ls (v1.toList ++ rest)) := fun H' locs' hH' hlo' =>
                    ih _ _ _ _ _ _ _ _ _ _ _ _ h p l e R s m args below meth c H' ls locs' _ _ s0 t0 Q hC hl hH' hlo' (by omega) (by omega) hRc hRs hfr hlc hret
                  have hroom : cells + (w1.2.2.1 - w.2.2.1) ≤ R.cells ∧ slots + (w1.2.2.2 - w.2.2.2) ≤ R.slots := ⟨by omega, by omega⟩
                  have hpre : ∀ U : State, U.heap = H → s.WarmedH U.vm → sm_Pc G as w I J as.toArray U := fun U hU hW => ⟨rfl, hK.warm hW, by rw [hU]; exact hH.moved hW.alike⟩
                  have callee : ∀ {k : Nat}, sm_e4 (gm y).1 k a b = true → k0 = (gm a).2.2.2.2.2.1 → e0 = (gm a).2.2.2.1 → ((gm y).1, k, a, b) ∈ gmk ∧ 0 < a ∧ a < gml.length ∧ sm_mkb ((gm y).1, k, a, b) = true ∧ Met l (gm a).2.1 (sm_ws a) (sm_rm d' (w1.2.2.1 - w.2.2.1) (w1.2.2.2 - w.2.2.2)) (sm_Pc G as w I J) (sm_Qc G v1 w1 I1 J1) (w1.2.2.1 - w.2.2.1) (w1.2.2.2 - w.2.2.2) (fun q => G.2.2.1 ≤ q) := by
                    intro k hk4 hk0 he0
                    have hkin := sm_e4_in hk4
                    have hmk := List.all_eq_true.mp sm_mk_all _ hkin
                    have hmk0 := hmk
                    unfold sm_mkb at hmk
                    rw [if_neg hb0] at hmk
                    simp only [Bool.and_eq_true, decide_eq_true_eq] at hmk
                    obtain ⟨⟨g1, g2⟩, -⟩ := hmk
                    rw [he0] at hrun hsl2
                    exact ⟨hkin, g1, g2, hmk0, sm_Met ih g1 g2 hsl2 hrun l⟩
                  have hR4 : ∀ {k : Nat}, a < gml.length → (sm_rm d' (w1.2.2.1 - w.2.2.1) (w1.2.2.2 - w.2.2.2)).frames + 1 ≤ R.frames ∧ 8 + ((gm a).2.2.2.1 + 11) + (sm_rm d' (w1.2.2.1 - w.2.2.1) (w1.2.2.2 - w.2.2.2)).locals ≤ R.locals := fun hal => by
                    have := (sm_mfit_of hal).2.2.2.1
                    refine ⟨hfr, ?_⟩
                    show 8 + ((gm a).2.2.2.1 + 11) + 41 * d' ≤ R.locals
                    omega
                  have hsz : ls.size = (gm y).2.2.2.1 := hl.size
                  cases i <;> first | exact absurd hknd (show ¬ (0 : Nat) = 2 by decide) | exact absurd hknd (show ¬ (1 : Nat) = 2 by decide) | skip
                  case invokevirtual k =>
                    obtain ⟨rfl, hk4, rfl, hk0, he0, hf0⟩ := of_decide_eq_true hokI
                    obtain ⟨hkin, g1, g2, hmk, hM⟩ := callee hk4 hk0 he0
                    obtain ⟨f1, f2, f3, f4, f5, f6⟩ := sm_mfit_of g2
                    rcases sm_as_s has with ⟨h1, -⟩ | ⟨-, q, As, rfl, hAl, hst⟩
                    · cases h1
                    · have hcl8 : (gm a).1 < 8 := by
                        have := List.all_eq_true.mp sm_mk0 _ hkin
                        simpa using this
                      have hrec : ∃ cellB : Cell, H[q]? = some cellB ∧ cellB.vm.isStatics = false ∧ s.vm.findClass (gm a).2.1.cls = some cellB.cls := by
                        simp only [sm_rv, if_true] at hrv
                        split at hrv
                        · rename_i h7
                          obtain ⟨⟨cell, k1, k2, k3, -⟩, -⟩ := sm_isS_of hH hrv
                          rw [f1, ← hf0, h7]
                          exact ⟨cell, k1, k2, k3⟩
                        · rename_i h7
                          split at hrv
                          · rename_i t n hw
                            have ht : t = (gm a).1 := by rw [← hf0]; simpa using hrv
                            rw [f1, ← ht]
                            exact sm_recv hK hH hw (by omega)
                          · cases hrv
                      have hns : gmlS.getD a true = false := by
                        unfold sm_mkb at hmk
                        rw [if_neg hb0] at hmk
                        simp only [Bool.and_eq_true] at hmk
                        simpa using hmk.2
                      have hin2 : Cond.instanceMethod (gm a).2.1 ∈ gtbl := by
                        have := (sm_mrow_of g1 g2).1
                        rw [if_neg (by rw [sm_gS hns]; decide)] at this
                        exact sm_gt this rfl
                      have hsel : Cond.selects (gm a).2.1.cls (gm a).2.1 (gm a).2.1 ∈ gtbl := sm_gt2 (sm_sel_in _ hkin rfl) rfl
                      have hcw : CallW R s args (gcn (gm y).1) (gm a).2.1.cls k (gm a).2.1 (gm a).2.2.1 (gm a).2.2.2.1 (gm a).2.2.2.2.1 (sm_ws a) (sm_rm d' (w1.2.2.1 - w.2.2.1) (w1.2.2.2 - w.2.2.2)) (w1.2.2.1 - w.2.2.1) (w1.2.2.2 - w.2.2.2) k0 :=
                        ⟨callB_of k0 hts (sm_good g1 g2) rfl rfl rfl (hts _ (sm_gt (sm_mrow_of g1 g2).2 rfl)) (hts _ (sm_gt (sm_mw_in _ hkin) rfl)) ⟨f5, f6, by rw [hk0]; exact f2⟩ (hR4 (k := 0) g2), hts _ hin2, hts _ hsel⟩
                      exact sm_callW (va_runV (As := As) (rest := rest) ⟨hx, hb, hml, hown, hts⟩ hM hcw ⟨sm_Pc.blind, hrec, hpre⟩ rfl hAl hsz hst (lv_room hcs) hd hroom) hlo goes
                  case invokestatic k =>
                    obtain ⟨rfl, hk4, hkb⟩ := of_decide_eq_true hokI
                    have hb1 : b = 1 ∧ k0 = (gm a).2.2.2.2.2.1 ∧ e0 = (gm a).2.2.2.1 := by
                      rcases hkb with q | q | q | q
                      · exact absurd (Or.inr (Or.inl q)) hb0
                      · exact absurd (Or.inr (Or.inr (Or.inl q))) hb0
                      · exact absurd (Or.inr (Or.inr (Or.inr q))) hb0
                      · exact q
                    obtain ⟨rfl, hk0, he0⟩ := hb1
                    obtain ⟨hkin, g1, g2, hmk, hM⟩ := callee hk4 hk0 he0
                    obtain ⟨f1, f2, f3, f4, f5, f6⟩ := sm_mfit_of g2
                    rcases sm_as_s has with ⟨-, hAl, hst⟩ | ⟨h1, -⟩
                    · have hns : gmlS.getD a false = true := by
                        unfold sm_mkb at hmk
                        rw [if_neg hb0] at hmk
                        simp only [Bool.and_eq_true] at hmk
                        simpa using hmk.2
                      have hin2 : Cond.static (gm a).2.1 ∈ gtbl := by
                        have := (sm_mrow_of g1 g2).1
                        rw [if_pos hns] at this
                        exact sm_gt this rfl
                      have hcw : CallB R s args (gcn (gm y).1) k (gm a).2.1 (gm a).2.2.1 (gm a).2.2.2.1 (gm a).2.2.2.2.1 (sm_ws a) (sm_rm d' (w1.2.2.1 - w.2.2.1) (w1.2.2.2 - w.2.2.2)) (w1.2.2.1 - w.2.2.1) (w1.2.2.2 - w.2.2.2) k0 :=
                        callB_of k0 hts (sm_good g1 g2) rfl rfl rfl (hts _ (sm_gt (sm_mrow_of g1 g2).2 rfl)) (hts _ (sm_gt (sm_mw_in _ hkin) rfl)) ⟨f5, f6, by rw [hk0]; exact f2⟩ (hR4 (k := 0) g2)
                      exact sm_callW (va_runS (As := as) (rest := rest) ⟨hx, hb, hml, hown, hts⟩ hM ⟨hcw, hts _ hin2⟩ ⟨sm_Pc.blind, hpre⟩ rfl hAl hsz hst (lv_room hcs) hd hroom) hlo goes
                    · exact absurd rfl h1
                  case invokespecial k =>
                    obtain ⟨rfl, hk4, hkb⟩ := of_decide_eq_true hokI
                    have hb1 : (b = 2 ∨ b = 5) ∧ k0 = (gm a).2.2.2.2.2.1 ∧ e0 = (gm a).2.2.2.1 := by
                      rcases hkb with q | q
                      · exact absurd (Or.inl q) hb0
                      · exact q
                    obtain ⟨hb25, hk0, he0⟩ := hb1
                    obtain ⟨hkin, g1, g2, hmk, hM⟩ := callee hk4 hk0 he0
                    obtain ⟨f1, f2, f3, f4, f5, f6⟩ := sm_mfit_of g2
                    have hini : (gm a).2.1.name = "<init>" ∧ gmlS.getD a true = false ∧ (gm a).2.2.2.2.1 = none := by
                      unfold sm_mkb at hmk
                      rw [if_neg hb0] at hmk
                      rcases hb25 with rfl | rfl
                      · simp at hmk; exact ⟨hmk.2.1.2, hmk.2.1.1, hmk.2.2⟩
                      · simp at hmk; exact ⟨hmk.2.1.2, hmk.2.1.1, hmk.2.2⟩
                    have hin2 : Cond.instanceMethod (gm a).2.1 ∈ gtbl := by
                      have := (sm_mrow_of g1 g2).1
                      rw [if_neg (by rw [sm_gS hini.2.1]; decide)] at this
                      exact sm_gt this rfl
                    have hwc : sm_ws a = Cond.code (gm a).2.1 (gm a).2.2.1 (gm a).2.2.2.1 none :: gtbl := by
                      unfold sm_ws sm_code
                      rw [hini.2.2]
                    rcases sm_as_s has with ⟨h1, -⟩ | ⟨-, q, As, rfl, hAl, hst⟩
                    · rcases hb25 with rfl | rfl <;> cases h1
                    · by_cases hb2 : b = 2
                      · subst hb2
                        have hcw : CallB R s args (gcn (gm y).1) k (gm a).2.1 (gm a).2.2.1 (gm a).2.2.2.1 none (sm_ws a) (sm_rm d' (w1.2.2.1 - w.2.2.1) (w1.2.2.2 - w.2.2.2)) (w1.2.2.1 - w.2.2.1) (w1.2.2.2 - w.2.2.2) k0 :=
                          callB_of k0 hts (sm_good g1 g2) hwc rfl rfl (hts _ (sm_gt (sm_mrow_of g1 g2).2 rfl)) (hts _ (sm_gt (sm_mw_in _ hkin) rfl)) ⟨f5, f6, by rw [hk0]; exact f2⟩ (hR4 (k := 0) g2)
                        exact sm_callW (va_runI (As := As) (rest := rest) ⟨hx, hb, hml, hown, hts⟩ hM ⟨hcw, hini.1, hts _ hin2⟩ ⟨sm_Pc.blind, hpre⟩ rfl hAl hsz hst (lv_room hcs) hd hroom) hlo goes
                      · have hb5 : b = 5 := by omega
                        subst hb5
                        have hnst : Cond.methodLinkNest (gcn (gm y).1) k (gm a).2.1 "ProvedMachine" ∈ gnst := by
                          have := List.all_eq_true.mp sm_mw_nst _ hkin
                          simp only [Bool.or_eq_true, decide_eq_true_eq] at this
                          exact this.resolve_left (fun h => h rfl)
                        have hcw : va_CN R s args (gcn (gm y).1) k (gm a).2.1 "ProvedMachine" (gm a).2.2.1 (gm a).2.2.2.1 none (sm_ws a) (sm_rm d' (w1.2.2.1 - w.2.2.1) (w1.2.2.2 - w.2.2.2)) (w1.2.2.1 - w.2.2.1) (w1.2.2.2 - w.2.2.2) k0 :=
                          va_cnB k0 hts (sm_good g1 g2) hwc rfl rfl (hK.2.1 _ hnst) (hts _ (sm_gt (sm_mrow_of g1 g2).2 rfl)) ⟨f5, f6, by rw [hk0]; exact f2⟩ (hR4 (k := 0) g2)
                        exact sm_callW (va_runIN (As := As) (rest := rest) ⟨hx, hb, hml, hown, hts⟩ hM ⟨hcw, hini.1, hts _ hin2⟩ ⟨sm_Pc.blind, hpre⟩ rfl hAl hsz hst (lv_room hcs) hd hroom) hlo goes
                · cases h
              · cases h

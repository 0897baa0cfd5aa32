/-! one step of the small machine, whatever the instruction -/
section SMS
variable {p : Program} {l : Launch} {e : Env} {R : Room} {s : State} {m : MethodId} {args : Array Value} {below : List Frame} {meth : Method} {c : Code} {H : Heap} {locs : List Loc} {cells slots : Nat} {Q : State → Prop}
variable {G : sm_G} {y pc : Nat} {ls : Array Slot} {w w' : aW} {I I' : aI} {J J' : aJ} {L L' : aL} {st st' : List Value} {pc' s0 t0 : Nat}
set_option maxHeartbeats 2000000 in
theorem sm_step_ok {r : aRow} (hC : sm_Cx G y p s m args meth c) (hr : sm_okb y pc r = true) (hs : sm_stp G.2.2.2 r pc L st w I J = some (pc', L', st', w', I', J')) (hl : sm_lv ls (gm y).2.2.2.1 L) (hH : sm_HX G s H w I J) (hlo : ∀ x ∈ locs, G.2.2.1 ≤ x.base)
    (hc : cells + s0 = w.2.2.1) (hsl : slots + t0 = w.2.2.2) (hRc : w'.2.2.1 ≤ s0 + R.cells) (hRs : w'.2.2.2 ≤ t0 + R.slots)
    (kk : ∀ (H' : Heap) (ls' : Array Slot) (locs' : List Loc) (cells' slots' : Nat), sm_lv ls' (gm y).2.2.2.1 L' → sm_HX G s H' w' I' J' → (∀ x ∈ locs', G.2.2.1 ≤ x.base) → cells' + s0 = w'.2.2.1 → slots' + t0 = w'.2.2.2 → W p l e R s m args below meth c H' locs' cells' slots' Q (F0 m pc' ls' st')) : W p l e R s m args below meth c H locs cells slots Q (F0 m pc ls st) := by
  obtain ⟨i, len, a, b, k0, e0, f0, z, zl⟩ := r
  simp only [sm_okb, Bool.and_eq_true, decide_eq_true_eq] at hr
  obtain ⟨hd, hr⟩ := hr
  by_cases hP : sm_isP i = true
  · exact sm_pure_ok hC hd hr hP hs hl (fun e1 e2 e3 ls' h => kk H ls' locs cells slots h (by rw [e1, e2, e3]; exact hH) hlo (by rw [e1]; exact hc) (by rw [e1]; exact hsl))
  · cases i
    case getfield k =>
      obtain ⟨rfl, hf, hk, ha, -, h7⟩ := of_decide_eq_true hr
      have hf := sm_e5_in hf
      obtain ⟨h1, rfl, rfl, rfl, rfl, rfl⟩ := sm_nx_s hs
      exact sm_getfield_ok hC hd hf hk ha h7 h1 hH (kk H ls locs cells slots hl hH hlo hc hsl)
    case putfield k =>
      obtain ⟨rfl, hf, hk, ha, hfin⟩ := of_decide_eq_true hr
      have hf := sm_e5_in hf
      have hbn := sm_fk_lt hf ha
      simp only [sm_stp, sm_putf] at hs
      split at hs
      · rename_i x q r
        split at hs
        · rename_i t n hw
          split at hs
          · rename_i hcond
            obtain ⟨rfl, -, hk0⟩ := hcond
            cases hs
            have hne : ¬ k0 = 2 := by rcases hk0 with h | ⟨h, -⟩ <;> omega
            have hty : narrow (gty t b) (.int x) = .int x ∧ fits (gty t b) (.int x) = true := by
              rcases sm_fkind ha hbn with ⟨g1, g2⟩ | ⟨g1, g2⟩ | ⟨g1, g2⟩
              · rw [g2]; exact ⟨rfl, rfl⟩
              · rw [g2]
                rcases hk0 with h | ⟨-, h | h⟩
                · exact absurd (g1.symm.trans (hk.trans h)) (by decide)
                · rw [h]; decide
                · rw [h]; decide
              · exact absurd (hk.symm.trans g1) hne
            refine sm_putfield_ok (w' := w) (I' := sm_up2 I q b x) hC hd hf ha hfin hw hty.1 hty.2 hH rfl rfl (fun x hx => sm_up2_ne hx) (fun _ _ => rfl) (fun j hj => ?_) hlo (fun H' locs' hH' hlo' => kk H' ls locs' cells slots hl hH' hlo' hc hsl)
            rw [sm_up2_eq]
            by_cases hj2 : j = b
            · subst hj2
              simp [updV, sm_up1, sm_cv, hk, hne]
            · simp [updV, sm_up1, hj2]
          · cases hs
        · cases hs
      · rename_i v q r
        split at hs
        · rename_i t n hw
          split at hs
          · rename_i hcond
            obtain ⟨rfl, -, hk0⟩ := hcond
            cases hs
            have hty : narrow (gty t b) (.ref v) = .ref v ∧ fits (gty t b) (.ref v) = true := by
              rcases sm_fkind ha hbn with ⟨g1, g2⟩ | ⟨g1, g2⟩ | ⟨g1, g2⟩
              · exact absurd (g1.symm.trans (hk.trans hk0)) (by decide)
              · exact absurd (g1.symm.trans (hk.trans hk0)) (by decide)
              · cases h3 : gty t b <;> rw [h3] at g2 <;> first | exact ⟨rfl, rfl⟩ | cases g2
            refine sm_putfield_ok (w' := (w.1, sm_up2 w.2.1 q b (some v), w.2.2)) (I' := I) hC hd hf ha hfin hw hty.1 hty.2 hH rfl rfl (fun _ _ => rfl) (fun x hx => sm_up2_ne hx) (fun j hj => ?_) hlo (fun H' locs' hH' hlo' => kk H' ls locs' cells slots hl hH' hlo' hc hsl)
            show _ = sm_cv (gft t j) (I q j) (sm_up2 w.2.1 q b (some v) q j)
            rw [sm_up2_eq]
            by_cases hj2 : j = b
            · subst hj2
              simp [updV, sm_up1, sm_cv, hk, hk0, va_rf]
            · simp [updV, sm_up1, hj2]
          · cases hs
        · cases hs
      · cases hs
    case getstatic k =>
      obtain ⟨rfl, hk⟩ := of_decide_eq_true hr
      cases hs
      exact sm_getstatic_ok hC hd hk hH (kk H ls locs cells slots hl hH hlo hc hsl)
    case new k =>
      obtain ⟨rfl, hk, ha, hb⟩ := of_decide_eq_true hr
      cases hs
      have z1 : (sm_alc w a 0 b).2.2.1 = w.2.2.1 + 1 := rfl
      have z2 : (sm_alc w a 0 b).2.2.2 = w.2.2.2 + b := rfl
      exact sm_new_ok hC hd hk ha hb hH (by omega) (by omega) (fun H' hH' => kk H' ls locs (cells + 1) (slots + b) hl hH' hlo (by omega) (by omega))
    case newarray t =>
      obtain ⟨rfl, ht⟩ := of_decide_eq_true hr
      simp only [sm_stp, sm_newa] at hs
      split at hs
      · rename_i n r
        split at hs
        · rename_i hn
          cases hs
          have z1 : (sm_alc w a n.toNatClampNeg n.toNatClampNeg).2.2.1 = w.2.2.1 + 1 := rfl
          have z2 : (sm_alc w a n.toNatClampNeg n.toNatClampNeg).2.2.2 = w.2.2.2 + n.toNatClampNeg := rfl
          exact sm_newarray_ok hC hd ht hn.1 hn.2 hH (by omega) (by omega) (fun H' hH' => kk H' ls locs (cells + 1) (slots + n.toNatClampNeg) hl hH' hlo (by omega) (by omega))
        · cases hs
      · cases hs
    case anewarray k =>
      obtain ⟨rfl, hk, ht⟩ := of_decide_eq_true hr
      simp only [sm_stp, sm_newa] at hs
      split at hs
      · rename_i n r
        split at hs
        · rename_i hn
          cases hs
          have z1 : (sm_alc w a n.toNatClampNeg n.toNatClampNeg).2.2.1 = w.2.2.1 + 1 := rfl
          have z2 : (sm_alc w a n.toNatClampNeg n.toNatClampNeg).2.2.2 = w.2.2.2 + n.toNatClampNeg := rfl
          exact sm_anewarray_ok hC hd hk ht hn.1 hn.2 hH (by omega) (by omega) (fun H' hH' => kk H' ls locs (cells + 1) (slots + n.toNatClampNeg) hl hH' hlo (by omega) (by omega))
        · cases hs
      · cases hs
    case arraylength =>
      obtain rfl := of_decide_eq_true hr
      obtain ⟨h1, rfl, rfl, rfl, rfl, rfl⟩ := sm_nx_s hs
      exact sm_alen_ok hC hd h1 hH (kk H ls locs cells slots hl hH hlo hc hsl)
    case iaload =>
      obtain rfl := of_decide_eq_true hr
      obtain ⟨h1, rfl, rfl, rfl, rfl, rfl⟩ := sm_nx_s hs
      exact sm_iaload_ok hC hd h1 hH (kk H ls locs cells slots hl hH hlo hc hsl)
    case baload =>
      obtain rfl := of_decide_eq_true hr
      obtain ⟨h1, rfl, rfl, rfl, rfl, rfl⟩ := sm_nx_s hs
      exact sm_baload_ok hC hd h1 hH (kk H ls locs cells slots hl hH hlo hc hsl)
    case laload =>
      obtain rfl := of_decide_eq_true hr
      obtain ⟨h1, rfl, rfl, rfl, rfl, rfl⟩ := sm_nx_s hs
      exact sm_laload_ok hC hd h1 hH (kk H ls locs cells slots hl hH hlo hc hsl)
    case aaload =>
      obtain rfl := of_decide_eq_true hr
      obtain ⟨h1, rfl, rfl, rfl, rfl, rfl⟩ := sm_nx_s hs
      exact sm_aaload_ok hC hd h1 hH (kk H ls locs cells slots hl hH hlo hc hsl)
    case iastore =>
      obtain rfl := of_decide_eq_true hr
      simp only [sm_stp, sm_iast] at hs
      split at hs
      · split at hs
        · rename_i t n hw
          split at hs
          · rename_i hcond
            obtain ⟨rfl, hin⟩ := hcond
            cases hs
            exact sm_iastore_ok hC hd hw hin hH hlo (fun H' locs' hH' hlo' => kk H' ls locs' cells slots hl hH' hlo' hc hsl)
          · cases hs
        · cases hs
      · cases hs
    case bastore =>
      obtain rfl := of_decide_eq_true hr
      simp only [sm_stp, sm_zast] at hs
      split at hs
      · split at hs
        · rename_i t n hw
          split at hs
          · rename_i hcond
            obtain ⟨rfl, hin, h01⟩ := hcond
            cases hs
            exact sm_bastore_ok hC hd hw hin h01 hH hlo (fun H' locs' hH' hlo' => kk H' ls locs' cells slots hl hH' hlo' hc hsl)
          · cases hs
        · cases hs
      · cases hs
    case lastore =>
      obtain rfl := of_decide_eq_true hr
      simp only [sm_stp, sm_last] at hs
      split at hs
      · split at hs
        · rename_i t n hw
          split at hs
          · rename_i hcond
            obtain ⟨rfl, hin⟩ := hcond
            cases hs
            exact sm_lastore_ok hC hd hw hin hH hlo (fun H' locs' hH' hlo' => kk H' ls locs' cells slots hl hH' hlo' hc hsl)
          · cases hs
        · cases hs
      · cases hs
    case aastore =>
      obtain rfl := of_decide_eq_true hr
      simp only [sm_stp, sm_rast] at hs
      split at hs
      · split at hs
        · rename_i t n hw
          split at hs
          · rename_i hcond
            cases hs
            refine sm_aastore_ok hC hd hw ?_ hcond.2 hH hlo (fun H' locs' hH' hlo' => kk H' ls locs' cells slots hl hH' hlo' hc hsl)
            have h1 := hcond.1
            unfold sm_isE at h1
            split at h1
            · rename_i h14
              split at h1
              · rename_i tv nv hv
                have : tv = 3 := by simpa using h1
                subst this
                exact Or.inl ⟨h14, nv, hv⟩
              · cases h1
            · split at h1
              · rename_i h15
                exact Or.inr ⟨h15, h1⟩
              · cases h1
          · cases hs
        · cases hs
      · cases hs
    all_goals first | exact absurd rfl hP | (exact absurd hs (by simp [sm_stp]))
end SMS

section PRP
variable {K : Nat → Value} {B d n b L : Nat} {w0 : aW} {I0 : aI} {xs : Nat → Int32}
theorem pr_proves (hs : gSc b L B xs w0 I0) (a0 : Int32) : Pr K (d + 20) (rR K B w0 I0 n) (rR K B w0 I0 (n + 1)) (Sc b B (B + 46) L xs) B (B + 46) 222 228 [.int a0] := by
  intro w I J hR
  have H := hR.1
  obtain ⟨z, z1, z2, rfl⟩ := it_ex a0
  obtain ⟨⟨N, F, fa, oc, ar, sh, rc⟩, a, a', bg, ha, p1, p2, p3, TC, gx, gm, b1, b2, b3, b4, b5⟩ := id hR.2.2.2.2.2.2.2.2.2
  by_cases hz : 0 ≤ z ∧ z < 4
  · obtain ⟨s, rfl⟩ := z_nat hz.1
    have s4 : s < 4 := by omega
    obtain ⟨bt, ln, q1, q2, q3, q4, q5, q6, q7, q8⟩ := hR.2.2.2.2.2.2.2.2.1 s s4
    have pX : f_222 K 20 (d + 19) B (it s) w I J = if ¬ it (bt : Int) = it 0 then (if it (bt : Int) = it 32 then gO w 5 B (if ¬ I B 5 = it 0 then gO w 5 B (gV w B 4 fun q_7 => gO w 0 q_7 (cI (Cl K (d + 19) 142 [.ref q_7] w I J) fun x_11 w_8 I_9 J_10 => if x_11 = it 0 then gO w_8 5 B (gV w_8 B 4 fun q_12 => gO w_8 0 q_12 (cV (Cl K (d + 19) 224 [.ref q_12] w_8 I_9 J_10) fun w_13 I_14 J_15 => gO w_13 5 B (cI (Cl K (d + 19) 225 [.ref B, .ref (B + 38 + 2 * s)] w_13 I_14 J_15) fun x_19 w_16 I_17 J_18 => gO w_16 5 B (gV w_16 B 4 fun q_20 => gO w_16 0 q_20 (cV (Cl K (d + 19) 227 [.ref q_20] w_16 I_17 J_18) fun w_21 I_22 J_23 => some (some (.long ((x_19 : Int32).toInt64)), w_21, I_22, J_23)))))) else gO w_8 5 B (cJ (Cl K (d + 19) 17 [.ref B, .int (it 7)] w_8 I_9 J_10) fun v_27 w_24 I_25 J_26 => some (some (.long v_27), w_24, I_25, J_26)))) else gO w 5 B (cJ (Cl K (d + 19) 17 [.ref B, .int (it 6)] w I J) fun v_31 w_28 I_29 J_30 => some (some (.long v_31), w_28, I_29, J_30))) else gO w 5 B (cJ (Cl K (d + 19) 17 [.ref B, .int (it 4)] w I J) fun v_35 w_32 I_33 J_34 => some (some (.long v_35), w_32, I_33, J_34))) else gO w 5 B (cJ (Cl K (d + 19) 17 [.ref B, .int (it 2)] w I J) fun v_39 w_36 I_37 J_38 => some (some (.long v_39), w_36, I_37, J_38)) := by
      unfold f_222
      simp only [it_lit]
      rw [s_223 (by omega) (by omega)]
      simp only [cI_e]
      rw [if_pos (by rw [bi_t (by omega)]; decide), gO_e (yt H), gV_e (yp_6 H), gA_e (yt36 H) (Or.inl rfl) (ix (by omega) (by omega) (by omega)), it_n (k := s) (by omega), gV_e (shp H s4), gO_e (sht H s4), gO_e (sht H s4), q4]
    have pM : ∀ I' : aI, (∀ b, ¬ b = B + 37 → I' b = I b ∨ B ≤ b ∧ b ≤ B + 45) → f_228 K 20 (d + 19) (B + 46) (it s) w I' J = if ¬ it (bt : Int) = it 0 then (if it (bt : Int) = it 32 then (if ¬ I' (B + 46) 42 = it 0 then (if I' (B + 65) 0 = it 0 then cV (Cl K (d + 19) 177 [.ref (B + 65), .int (it 0), .ref (B + 66), .int (it 0), .int (it 360)] w I' J) fun w_10 I_11 J_12 => gO w_10 6 (B + 46) (cI (Cl K (d + 19) 230 [.ref (B + 46), .int (it s)] w_10 I_11 J_12) fun x_16 w_13 I_14 J_15 => gO w_13 6 (B + 46) (gV w_13 (B + 46) 37 fun q_17 => gO w_13 6 (B + 46) (gV w_13 (B + 46) 36 fun q_18 => cV (Cl K (d + 19) 177 [.ref q_17, .int (it 0), .ref q_18, .int (it 0), .int (it 360)] w_13 I_14 J_15) fun w_19 I_20 J_21 => some (some (.long ((x_16 : Int32).toInt64)), w_19, I_20, J_21)))) else cJ (Cl K (d + 19) 20 [.ref (B + 46), .int (it 7)] w I' J) fun v_25 w_22 I_23 J_24 => some (some (.long v_25), w_22, I_23, J_24)) else cJ (Cl K (d + 19) 20 [.ref (B + 46), .int (it 6)] w I' J) fun v_29 w_26 I_27 J_28 => some (some (.long v_29), w_26, I_27, J_28)) else cJ (Cl K (d + 19) 20 [.ref (B + 46), .int (it 4)] w I' J) fun v_33 w_30 I_31 J_32 => some (some (.long v_33), w_30, I_31, J_32)) else cJ (Cl K (d + 19) 20 [.ref (B + 46), .int (it 2)] w I' J) fun v_37 w_34 I_35 J_36 => some (some (.long v_37), w_34, I_35, J_36) := by
      intro I' hI
      have e78 : I' (B + 71) = I (B + 71) := (hI (B + 71) (by omega)).resolve_right (by omega)
      unfold f_228
      simp only [it_lit]
      rw [s_229 (by omega) (by omega)]
      simp only [cI_e]
      rw [if_pos (by rw [bi_t (by omega)]; decide)]
      simp only [gO_e (yt46 H), gV_e (yp46_44 H), gV_e (yp46_36 H), gV_e (yp46_37 H), gn0 H, cl0]
      rw [gA_e (yt71 H) (Or.inl rfl) (ix (by omega) (by omega) (by omega)), gA_e (yt71 H) (Or.inl rfl) (ix (by omega) (by omega) (by omega)), it_n (k := s) (by omega), e78, q6]
    by_cases hb0 : bt = 0
    · refine pr_fd hs hR 2 (by omega) (by omega) (cl_222 (k := 20) (pX.trans ?_)) (fun I' hI => cl_228 (k := 20) ((pM I' (fun b hb => Or.inl (hI b hb))).trans ?_))
      · rw [if_neg (fun q => q (by rw [hb0]; rfl)), gO_e (yt H), s_17 H (by omega) (by omega)]; rfl
      · rw [if_neg (fun q => q (by rw [hb0]; rfl)), s_20 H (by omega) (by omega)]; rfl
    · by_cases h32 : bt = 32
      · subst h32
        by_cases hb : bg = 1
        · subst hb
          obtain ⟨hp, hN, K2⟩ := b5 rfl; obtain ⟨kp, sl, k30, s32, h8, h41, h7, R, M, Hs⟩ := id K2; obtain ⟨⟨hh, fr, hi, pr, m0, m1, m2, m3, m4, m5, m6, m7, m8, m9, m10, m11, m12⟩, aO⟩ := id M
          by_cases n0 : I (B + 65) 0 = it 0
          · -- the sheet is tried
            have cH : I (B + 30) 0 = it 0 := R.1.trans n0
            obtain ⟨g1, g2, g3, g4, g5, g6, g7, g8, g9⟩ := tc_g TC
            have c224 := s_224 (K := K) (d := d + 18) (I := I) (J := J) H
            obtain ⟨Ia, eIa⟩ : ∃ Ia : aI, Ia = sm_up1 I (B + 31) (fun k => if k < 327 then I (B + 30) k else I (B + 31) k) := ⟨_, rfl⟩
            rw [← eIa] at c224
            have ia : ∀ b, ¬ b = B + 31 → Ia b = I b := fun b hb => by rw [eIa, up1_n hb]
            have i38 : ∀ k, k < 327 → Ia (B + 31) k = I (B + 30) k := fun k hk => by rw [eIa, up1_s, if_pos hk]
            -- the class alone, with the reference's heap as it stands
            have gxa : gX (N, F, fa, oc, ar, sh, rc) a Ia J := gX_c (or_a ha) (fun b b1 b2 => ia b (by omega)) gx
            have run := fun (Ih : aI) (hh : ∀ b, B + 46 ≤ b → ¬ b = B + 66 → Ih b = I b) => lp_pv (K := K) (d := d + 12) (J := J) (s := s) (sl := sl) (ln := ln) H hp (or_a ha) TC s4 s32 q2 11 0 Ia Ih (by omega) gxa (gM_c (I := I) (fun b hb => hh b (by omega) (by omega)) gm) (by rw [ia _ (by omega)]; exact h7) (by rw [ia _ (by omega), hh _ (by omega) (by omega)]; exact R) (by rw [hh _ (by omega) (by omega)]; exact M) (by rw [ia _ (by omega)]; exact q5) (by rw [hh _ (by omega) (by omega)]; exact q7) (fun i hi => by rw [ia _ (by omega), hh _ (by omega) (by omega)]; exact q8 rfl i hi) (by omega)
            obtain ⟨v, I1, _, r1, _, r3, _⟩ := run I (fun _ _ _ => rfl)
            have c225 : Cl K (d + 19) 225 [.ref B, .ref (B + 38 + 2 * s)] w Ia J = some (some (.int v), w, I1, J) := cl_225 (k := 17) (d := d + 18) r1
            have c227 := s_227 (K := K) (d := d + 18) (I := I1) (J := J) H
            obtain ⟨Ic, eIc⟩ : ∃ Ic : aI, Ic = sm_up1 I1 (B + 30) (fun k => if k < 327 then I1 (B + 31) k else I1 (B + 30) k) := ⟨_, rfl⟩
            rw [← eIc] at c227
            have r38 : I1 (B + 31) = Ia (B + 31) := r3.1 _ (by omega) (by omega)
            have ic37 : Ic (B + 30) = I (B + 30) := by
              rw [eIc, up1_s]
              funext k
              by_cases hk : k < 327
              · rw [if_pos hk, r38, i38 k hk]
              · rw [if_neg hk, r3.2.2.2.2 k (by omega), ia _ (by omega)]
            have ico : ∀ b, ¬ b = B + 30 → ¬ b = B + 31 → ¬ (B + 32 ≤ b ∧ b ≤ B + 35) → Ic b = I b := fun b h1 h2 h3 => by rw [eIc, up1_n h1, r3.1 b h1 h3, ia b h2]
            -- the reference behind it
            have c177 := s_177 (K := K) (d := d + 18) (J := J) (I := Ic) (fr := 0) (tz := 0) (len := 360) (yt65 H) (yt66 H) (by omega) (by omega) (by omega) (by omega) (fun e => by omega)
            obtain ⟨Id, eId⟩ : ∃ Id : aI, Id = sm_up1 Ic (B + 66) (cpr (Ic (B + 65)) (Ic (B + 66)) 0 0 360) := ⟨_, rfl⟩
            rw [← eId] at c177
            have id0 : ∀ b, ¬ b = B + 66 → Id b = Ic b := fun b hb => by rw [eId, up1_n hb]
            have id73 : ∀ i, i < 360 → Id (B + 66) i = I (B + 65) i := fun i hi => by
              rw [eId, up1_s]
              unfold cpr
              rw [if_pos (by omega), show 0 + (i - 0) = i by omega, ico _ (by omega) (by omega) (by omega)]
            obtain ⟨v', I1', I2, s1, s2, _, s4'⟩ := run Id (fun b b1 b2 => by rw [id0 b b2, ico b (by omega) (by omega) (by omega)])
            have e := Option.some.inj (r1.symm.trans s1)
            have ev : v = v' := by
              have := congrArg Prod.fst e
              exact Value.int.inj (Option.some.inj this)
            subst ev
            have c230 : Cl K (d + 19) 230 [.ref (B + 46), .int (it s)] w Id J = some (some (.int v), w, I2, J) := cl_230 (k := 17) (d := d + 18) s2
            have c177' := s_177 (K := K) (d := d + 18) (J := J) (I := I2) (fr := 0) (tz := 0) (len := 360) (yt66 H) (yt65 H) (by omega) (by omega) (by omega) (by omega) (fun e => by omega)
            obtain ⟨Ie, eIe⟩ : ∃ Ie : aI, Ie = sm_up1 I2 (B + 65) (cpr (I2 (B + 66)) (I2 (B + 65)) 0 0 360) := ⟨_, rfl⟩
            rw [← eIe] at c177'
            have ie0 : ∀ b, ¬ b = B + 65 → ¬ b = B + 66 → ¬ b = B + 69 → ¬ b = B + 70 → Ie b = Ic b := fun b h1 h2 h3 h4 => by rw [eIe, up1_n h1, s4' b h1 h3 h4, id0 b h2]
            have ie72 : ∀ i, i < 360 → Ie (B + 65) i = I (B + 65) i := fun i hi => by
              rw [eIe, up1_s]
              unfold cpr
              rw [if_pos (by omega), show 0 + (i - 0) = i by omega, s4' _ (by omega) (by omega) (by omega), id73 i hi]
            refine ⟨v.toInt64, w, Ic, J, w, Ie, J, cl_222 (k := 20) (d := d + 19) (pX.trans ?_), sc_of hs H (hR.2.1 b hs.1).2.1 ?_, cl_228 (k := 20) (d := d + 19) ((pM Ic (fun b hb => ?_)).trans ?_), rR_ma hR H rfl rfl (fun _ _ => rfl) (fun b b1 b2 b3 b4 => ?_) (fun k hk => ?_) (fun k k1 k2 => ?_) ?_⟩
            · rw [if_pos (by decide), if_pos (by decide), gO_e (yt H), b2, if_pos (by decide), gO_e (yt H), gV_e (yp_4 H), gO_e (yt29 H), s_142 H]
              simp only [cI_e]
              rw [if_pos (by rw [bi_f (fun q => q cH)]), gO_e (yt H), gV_e (yp_4 H), gO_e (yt29 H), c224]
              simp only [cV_e]
              rw [gO_e (yt H), c225]
              simp only [cI_e]
              rw [gO_e (yt H), gV_e (yp_4 H), gO_e (yt29 H), c227]
              rfl
            · rw [ico b (by have := hs.1; omega) (by have := hs.1; omega) (by have := hs.1; omega)]; exact (hR.2.1 b hs.1).1
            · by_cases h : B ≤ b ∧ b ≤ B + 45
              · exact Or.inr h
              · exact Or.inl (ico b (by omega) (by omega) (by omega))
            · rw [if_pos (by decide), if_pos (by decide), ico (B + 46) (by omega) (by omega) (by omega), b3, if_pos (by decide), ico (B + 65) (by omega) (by omega) (by omega), if_pos n0]
              have c177a : Cl K (d + 19) 177 [.ref (B + 65), .int (it 0), .ref (B + 66), .int (it 0), .int (it 360)] w Ic J = some (none, w, Id, J) := c177
              have c177b : Cl K (d + 19) 177 [.ref (B + 66), .int (it 0), .ref (B + 65), .int (it 0), .int (it 360)] w I2 J = some (none, w, Ie, J) := c177'
              rw [c177a]
              simp only [cV_e]
              rw [gO_e (yt46 H), c230]
              simp only [cI_e]
              rw [gO_e (yt46 H), gV_e (yp46_37 H), gO_e (yt46 H), gV_e (yp46_36 H), c177b]
              rfl
            · rw [ie0 b (by omega) (by omega) (by omega) (by omega), ico b (by omega) (by omega) (by omega)]
            · rw [ie0 B (by omega) (by omega) (by omega) (by omega), ico B (by omega) (by omega) (by omega)]
            · rw [ie0 (B + 46) (by omega) (by omega) (by omega) (by omega), ico (B + 46) (by omega) (by omega) (by omega)]
            · have fX : ∀ b, ¬ (B + 30 ≤ b ∧ b ≤ B + 35) → ¬ b = B + 65 → ¬ b = B + 66 → ¬ b = B + 69 → ¬ b = B + 70 → Ie b = I b := fun b h1 h2 h3 h4 h5 => by rw [ie0 b h2 h3 h4 h5, ico b (by omega) (by omega) (by omega)]
              have hOK : ∀ c n n' : Nat → Int32, (∀ i, i < 360 → n' i = n i) → okH (N, F, fa, oc, ar, sh, rc) c n → okH (N, F, fa, oc, ar, sh, rc) c n' := fun c n n' h o => okH_x (G := (N, F, fa, oc, ar, sh, rc)) g2 g3 h o
              have oo : okH (N, F, fa, oc, ar, sh, rc) (I (B + 30)) (Ie (B + 65)) := hOK _ _ _ ie72 ⟨R, M⟩
              refine rPM_m (G := (N, F, fa, oc, ar, sh, rc)) ha p1 p2 hp p3.2 TC (gX_c (or_a ha) (fun b b1 b2 => fX b (by omega) (by omega) (by omega) (by omega) (by omega)) gx) (gM_c (I := I) (fun b hb => fX b (by omega) (by omega) (by omega) (by omega) (by omega)) gm) ?_ ?_ hN ⟨kp, sl, k30, s32, ?_, ?_, ?_, ?_, ?_, ?_⟩
              · rw [fX B (by omega) (by omega) (by omega) (by omega) (by omega)]; exact b2
              · rw [fX _ (by omega) (by omega) (by omega) (by omega) (by omega)]; exact b3
              · rw [fX _ (by omega) (by omega) (by omega) (by omega) (by omega)]; exact h8
              · rw [fX _ (by omega) (by omega) (by omega) (by omega) (by omega)]; exact h41
              · rw [fX _ (by omega) (by omega) (by omega) (by omega) (by omega)]; exact h7
              · rw [ie0 (B + 30) (by omega) (by omega) (by omega) (by omega), ic37]; exact oo.1
              · exact oo.2
              · rw [ie0 (B + 30) (by omega) (by omega) (by omega) (by omega), ic37, ie0 (B + 32) (by omega) (by omega) (by omega) (by omega), ie0 (B + 33) (by omega) (by omega) (by omega) (by omega), ie0 (B + 34) (by omega) (by omega) (by omega) (by omega), ie0 (B + 35) (by omega) (by omega) (by omega) (by omega), fX (B + 67) (by omega) (by omega) (by omega) (by omega) (by omega), fX (B + 68) (by omega) (by omega) (by omega) (by omega) (by omega)]
                have k9 : ∀ b, ¬ b = B + 30 → Ic b = I1 b := fun b hb => by rw [eIc, up1_n hb]
                rw [k9 (B + 32) (by omega), k9 (B + 33) (by omega), k9 (B + 34) (by omega), k9 (B + 35) (by omega)]
                exact hst_c hOK (t := sl) (fun i hi => by rw [r3.2.1 i hi, ia _ (by omega)]) (fun i hi => by rw [(r3.2.2.1 i hi).1, (r3.2.2.1 i hi).2, ia _ (by omega), ia _ (by omega)]; exact ⟨rfl, rfl⟩) (fun i hi => by rw [r3.2.2.2.1 i hi, ia _ (by omega)]) kp sl 0 _ (by omega) s32 (by omega) (fun _ _ => rfl) (fun _ _ => rfl) Hs
          · refine pr_fd hs hR 7 (by omega) (by omega) (cl_222 (k := 20) (pX.trans ?_)) (fun I' hI => cl_228 (k := 20) ((pM I' (fun b hb => Or.inl (hI b hb))).trans ?_))
            · rw [if_pos (by decide), if_pos (by decide), gO_e (yt H), b2, if_pos (by decide), gO_e (yt H), gV_e (yp_4 H), gO_e (yt29 H), s_142 H]
              simp only [cI_e]
              rw [if_neg (by rw [bi_t (by rw [R.1]; exact n0)]; decide), gO_e (yt H), s_17 H (by omega) (by omega)]
              rfl
            · rw [if_pos (by decide), if_pos (by decide), hI (B + 46) (by omega), b3, if_pos (by decide), hI (B + 65) (by omega), if_neg n0, s_20 H (by omega) (by omega)]
              rfl
        · have hb0' := bg_01 b1 hb
          subst hb0'
          refine pr_fd hs hR 6 (by omega) (by omega) (cl_222 (k := 20) (pX.trans ?_)) (fun I' hI => cl_228 (k := 20) ((pM I' (fun b hb => Or.inl (hI b hb))).trans ?_))
          · rw [if_pos (by decide), if_pos (by decide), gO_e (yt H), b2, if_neg (fun q => q rfl), gO_e (yt H), s_17 H (by omega) (by omega)]
            rfl
          · rw [if_pos (by decide), if_pos (by decide), hI (B + 46) (by omega), b3, if_neg (fun q => q rfl), s_20 H (by omega) (by omega)]
            rfl
      · refine pr_fd hs hR 4 (by omega) (by omega) (cl_222 (k := 20) (pX.trans ?_)) (fun I' hI => cl_228 (k := 20) ((pM I' (fun b hb => Or.inl (hI b hb))).trans ?_))
        · rw [if_pos (fun q => by have := (it_eq (by omega) (by omega) (by omega) (by omega)).mp q; omega), if_neg (fun q => by have := (it_eq (by omega) (by omega) (by omega) (by omega)).mp q; omega), gO_e (yt H), s_17 H (by omega) (by omega)]; rfl
        · rw [if_pos (fun q => by have := (it_eq (by omega) (by omega) (by omega) (by omega)).mp q; omega), if_neg (fun q => by have := (it_eq (by omega) (by omega) (by omega) (by omega)).mp q; omega), s_20 H (by omega) (by omega)]; rfl
  · refine pr_fd hs hR 1 (by omega) (by omega) (cl_222 (k := 0) ?_) (fun I' hI => cl_228 (k := 0) ?_)
    · unfold f_222
      simp only [it_lit]
      rw [s_223 z1 z2]
      simp only [cI_e]
      rw [if_neg (by rw [bi_f hz]; decide), gO_e (yt H), s_17 H (by omega) (by omega)]
      rfl
    · unfold f_228
      simp only [it_lit]
      rw [s_229 z1 z2]
      simp only [cI_e]
      rw [if_neg (by rw [bi_f hz]; decide), gO_e (yt46 H), s_20 H (by omega) (by omega)]
      rfl
end PRP

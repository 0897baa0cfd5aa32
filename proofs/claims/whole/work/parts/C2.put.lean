section PRT
variable {K : Nat → Value} {B d n b L : Nat} {w0 : aW} {I0 : aI} {xs : Nat → Int32}
theorem shl0 (v : Int32) : (v <<< ((it 32 - it 32) &&& it 31)) >>> ((it 32 - it 32) &&& it 31) = v := by
  have e : (it 32 - it 32) &&& it 31 = 0 := by decide
  rw [e, Int32.shiftLeft_zero, Int32.shiftRight_zero]
theorem pr_put (hs : gSc b L B xs w0 I0) (a0 a1 a2 : Int32) : Pr K (d + 20) (rR K B w0 I0 n) (rR K B w0 I0 (n + 1)) (Sc b B (B + 46) L xs) B (B + 46) 234 236 [.int a0, .int a1, .int a2] := by
  intro w I J hR
  have H := hR.1
  obtain ⟨z, z1, z2, rfl⟩ := it_ex a0
  obtain ⟨y, y1, y2, rfl⟩ := it_ex a1
  have rS := hR.2.2.2.2.2.2.2.2.1
  by_cases hz : 0 ≤ z ∧ z < 4
  · obtain ⟨s, rfl⟩ := z_nat hz.1
    have s4 : s < 4 := by omega
    obtain ⟨bt, ln, q1, q2, q3, q4, q5, q6, q7, q8⟩ := rS s s4
    have gX4 : ∀ {α : Type} {k : Option α}, gA w 14 15 (B + 36) (it s) k = k := fun {α} {k} => gA_e (yt36 H) (Or.inl rfl) (ix (by omega) (by omega) (by omega))
    have cs : (it (s : Int)).toNatClampNeg = s := it_n (by omega)
    have preX : f_234 K 0 (d + 19) B (it s) (it y) a2 w I J = if ¬ it (bt : Int) = it 0 then cI (Cl K (d + 19) 226 [.ref (B + 38 + 2 * s), .int (it y), .int (it 1)] w I J) fun x_12 w_9 I_10 J_11 => if ¬ x_12 = it 0 then gO w_9 5 B (gV w_9 B 6 fun q_13 => gA w_9 14 15 q_13 (it s) (gV w_9 q_13 s fun q_14 => gO w_9 3 q_14 (cV (Cl K (d + 19) 235 [.ref q_14, .int (it y), .int a2] w_9 I_10 J_11) fun w_15 I_16 J_17 => some (some (.long 0), w_15, I_16, J_17)))) else gO w_9 5 B (cJ (Cl K (d + 19) 17 [.ref B, .int (it 1)] w_9 I_10 J_11) fun v_21 w_18 I_19 J_20 => some (some (.long v_21), w_18, I_19, J_20)) else cJ (Cl K (d + 19) 17 [.ref B, .int (it 2)] w I J) fun v_25 w_22 I_23 J_24 => some (some (.long v_25), w_22, I_23, J_24) := by
      unfold f_234
      simp only [it_lit]
      rw [s_223 z1 z2]
      simp only [cI_e]
      rw [if_pos (by rw [bi_t (by omega)]; decide)]
      simp only [gO_e (yt H), gV_e (yp_6 H), gX4, cs, gV_e (shp H s4), gO_e (sht H s4), q4]
    have preM : ∀ I' : aI, I' (B + 71) = I (B + 71) → I' (B + 72) = I (B + 72) → f_236 K 0 (d + 19) (B + 46) (it s) (it y) a2 w I' J = if ¬ it (bt : Int) = it 0 then (if 0 ≤ y ∧ y < ln then some (some (.long 0), w, sm_up2 I' (B + 73) (40 * s + y.toNat) ((a2 <<< ((it 32 - it bt) &&& it 31)) >>> ((it 32 - it bt) &&& it 31)), J) else cJ (Cl K (d + 19) 20 [.ref (B + 46), .int (it 1)] w I' J) fun v_18 w_15 I_16 J_17 => some (some (.long v_18), w_15, I_16, J_17)) else cJ (Cl K (d + 19) 20 [.ref (B + 46), .int (it 2)] w I' J) fun v_22 w_19 I_20 J_21 => some (some (.long v_22), w_19, I_20, J_21) := by
      intro I' e78 e79
      unfold f_236
      simp only [it_lit]
      rw [s_229 z1 z2]
      simp only [cI_e]
      rw [if_pos (by rw [bi_t (by omega)]; decide)]
      simp only [gO_e (yt46 H), gV_e (yp46_44 H), gV_e (yp46_45 H), gA_e (yt71 H) (Or.inl rfl) (ix (z := (s : Int)) (by omega) (by omega) (by omega)), gA_e (yt72 H) (Or.inl rfl) (ix (z := (s : Int)) (by omega) (by omega) (by omega)), cs, e78, e79, q6, q7, it_sub]
      rw [s_19i y1 y2 (by omega) (by omega) (by omega) (by omega)]
      simp only [cI_e, gO_e (yt46 H), gV_e (yp46_44 H), gV_e (yp46_46 H), gA_e (yt71 H) (Or.inl rfl) (ix (z := (s : Int)) (by omega) (by omega) (by omega)), cs, e78, q6, it_mul, it_add, lt_]
      by_cases hy : 0 ≤ y ∧ y < ln
      · have hb : bi (0 ≤ y ∧ y ≤ (ln : Int) - 1) = it 1 := bi_t (by omega)
        rw [hb, if_pos hy, if_pos (show ¬ it 1 = it 0 by decide), gA_e (yt73 H) (Or.inl rfl) (ix (by omega) (by omega) (by omega)), it_cl (a := 40 * (s : Int) + y) (by omega) (by omega), show (40 * (s : Int) + y).toNat = 40 * s + y.toNat by omega]
        simp only [it_sub]
      · have hb : bi (0 ≤ y ∧ y ≤ (ln : Int) - 1) = it 0 := bi_f (by omega)
        rw [hb, if_neg hy, if_neg (show ¬ ¬ it 0 = it 0 from fun q => q rfl)]
    by_cases hb0 : bt = 0
    · refine pr_fd hs hR 2 (by omega) (by omega) (cl_234 (k := 0) (preX.trans ?_)) (fun I' hI => cl_236 (k := 0) ((preM I' (hI _ (by omega)) (hI _ (by omega))).trans ?_))
      · rw [if_neg (fun q => q (by rw [hb0]; rfl)), s_17 H (by omega) (by omega)]; rfl
      · rw [if_neg (fun q => q (by rw [hb0]; rfl)), s_20 H (by omega) (by omega)]; rfl
    · have c226 := fun d' => s_226 (K := K) (d := d') (J := J) (x := y) (y := 1) (sht H s4) q5 q2 y1 y2 (by omega) (by omega)
      by_cases hy : 0 ≤ y ∧ y < ln
      · obtain ⟨i, rfl⟩ := z_nat hy.1
        have c235 : ∃ v : Int32, (bt = 32 → v = a2) ∧ Cl K (d + 19) 235 [.ref (B + 38 + 2 * s), .int (it i), .int a2] w I J = some (none, w, sm_up2 I (B + 39 + 2 * s) i v, J) := by
          by_cases h32 : bt = 32
          · refine ⟨a2, fun _ => rfl, cl_235 (k := 0) (d := d + 18) ?_⟩
            unfold f_235 f_235_37
            simp only [it_lit, lt_, gO_e (sht H s4)]
            have := c226 (d + 17)
            rw [this]
            simp only [cI_e, gO_e (sht H s4), gV_e (shn H s4), q4]
            rw [if_neg (by rw [bi_t (by omega)]; decide), if_neg (fun q => q (by rw [h32]; rfl)), gA_e (sha H s4) (Or.inl rfl) (ix (by omega) (by omega) (by omega)), it_n (k := i) (by omega)]
          · refine ⟨_, fun e => absurd e h32, cl_235 (k := 0) (d := d + 18) (show f_235 K 0 (d + 18) (B + 38 + 2 * s) (it i) a2 w I J = some (none, w, sm_up2 I (B + 39 + 2 * s) i (a2 &&& ((it 1 <<< (it bt &&& it 31)) - it 1)), J) from ?_)⟩
            unfold f_235 f_235_37
            simp only [it_lit, lt_, gO_e (sht H s4)]
            have := c226 (d + 17)
            rw [this]
            simp only [cI_e, gO_e (sht H s4), gV_e (shn H s4), q4]
            rw [if_neg (by rw [bi_t (by omega)]; decide), if_pos (fun q => by have := (it_eq (by omega) (by omega) (by omega) (by omega)).mp q; omega), gA_e (sha H s4) (Or.inl rfl) (ix (by omega) (by omega) (by omega)), it_n (k := i) (by omega)]
        obtain ⟨v, hv, c235⟩ := c235
        refine ⟨0, w, sm_up2 I (B + 39 + 2 * s) i v, J, w, _, J, cl_234 (k := 0) (d := d + 19) (preX.trans ?_), sc_of hs H (hR.2.1 b hs.1).2.1 ?_, cl_236 (k := 0) (d := d + 19) ((preM _ (up2_n (by omega)) (up2_n (by omega))).trans (by rw [if_pos (fun q => by have := (it_eq (by omega) (by omega) (by omega) (by omega)).mp q; omega), if_pos hy])), rR_sh hR (fun b h1 h2 => ?_) (fun s' hs' => ?_)⟩
        · rw [if_pos (fun q => by have := (it_eq (by omega) (by omega) (by omega) (by omega)).mp q; omega), c226 (d + 18)]
          simp only [cI_e]
          rw [if_pos (by rw [bi_t (by omega)]; decide), gO_e (yt H), gV_e (yp_6 H), gX4, gV_e (shp H s4), gO_e (sht H s4), c235]
          rfl
        · rw [up2_n (by have := hs.1; omega)]; exact (hR.2.1 b hs.1).1
        · rw [up2_n (by omega), up2_n (by omega)]
        · obtain ⟨bt', ln', r1, r2, r3, r4, r5, r6, r7, r8⟩ := rS s' hs'
          refine ⟨bt', ln', r1, r2, r3, ?_, ?_, ?_, ?_, fun h j hj => ?_⟩
          · rw [up2_n (by omega), up2_n (by omega)]; exact r4
          · rw [up2_n (by omega), up2_n (by omega)]; exact r5
          · rw [up2_n (by omega), up2_n (by omega)]; exact r6
          · rw [up2_n (by omega), up2_n (by omega)]; exact r7
          · rw [up2_n (b := B + 39 + 2 * s') (by omega), up2_r (f := sm_up2 I (B + 39 + 2 * s) i v), Int.toNat_natCast, up2_n (b := B + 73) (by omega)]
            by_cases e : s' = s
            · subst e
              have h32 : bt = 32 := by
                have : bt' = bt := it_inj (by omega) (by omega) (r4.symm.trans q4)
                omega
              rw [up2_r, up1_a, up1_a, hv h32, h32]
              by_cases ej : j = i
              · rw [if_pos ej, if_pos (by omega)]
                exact (shl0 a2).symm
              · rw [if_neg ej, if_neg (by omega)]
                exact r8 h j hj
            · rw [up2_n (by omega), up1_n (by omega)]
              exact r8 h j hj
      · refine pr_fd hs hR 1 (by omega) (by omega) (cl_234 (k := 0) (preX.trans ?_)) (fun I' hI => cl_236 (k := 0) ((preM I' (hI _ (by omega)) (hI _ (by omega))).trans ?_))
        · rw [if_pos (fun q => by have := (it_eq (by omega) (by omega) (by omega) (by omega)).mp q; omega), c226 (d + 18)]
          simp only [cI_e]
          rw [if_neg (by rw [bi_f (by omega)]; decide), gO_e (yt H), s_17 H (by omega) (by omega)]; rfl
        · rw [if_pos (fun q => by have := (it_eq (by omega) (by omega) (by omega) (by omega)).mp q; omega), if_neg hy, s_20 H (by omega) (by omega)]; rfl
  · refine pr_fd hs hR 1 (by omega) (by omega) (cl_234 (k := 0) ?_) (fun I' hI => cl_236 (k := 0) ?_)
    · unfold f_234
      simp only [it_lit]
      rw [s_223 z1 z2]
      simp only [cI_e]
      rw [if_neg (by rw [bi_f hz]; decide), gO_e (yt H), s_17 H (by omega) (by omega)]
      rfl
    · unfold f_236
      simp only [it_lit]
      rw [s_229 z1 z2]
      simp only [cI_e]
      rw [if_neg (by rw [bi_f hz]; decide), gO_e (yt46 H), s_20 H (by omega) (by omega)]
      rfl
theorem pr_copy (hs : gSc b L B xs w0 I0) (a0 a1 a2 a3 a4 : Int32) : Pr K (d + 20) (rR K B w0 I0 n) (rR K B w0 I0 (n + 1)) (Sc b B (B + 46) L xs) B (B + 46) 237 238 [.int a0, .int a1, .int a2, .int a3, .int a4] := by
  intro w I J hR
  have H := hR.1
  obtain ⟨z, z1, z2, rfl⟩ := it_ex a0
  obtain ⟨u, u1, u2, rfl⟩ := it_ex a1
  obtain ⟨y, y1, y2, rfl⟩ := it_ex a2
  obtain ⟨v, v1, v2, rfl⟩ := it_ex a3
  obtain ⟨x, x1, x2, rfl⟩ := it_ex a4
  have rS := hR.2.2.2.2.2.2.2.2.1
  by_cases hz : (0 ≤ z ∧ z < 4) ∧ 0 ≤ y ∧ y < 4
  · obtain ⟨s, rfl⟩ := z_nat hz.1.1
    obtain ⟨t, rfl⟩ := z_nat hz.2.1
    have s4 : s < 4 := by omega
    have t4 : t < 4 := by omega
    obtain ⟨bs, ls, q1, q2, q3, q4, q5, q6, q7, q8⟩ := rS s s4
    obtain ⟨bt, lt, r1, r2, r3, r4, r5, r6, r7, r8⟩ := rS t t4
    have gS : ∀ {α : Type} {k : Option α}, gA w 14 15 (B + 36) (it s) k = k := fun {α} {k} => gA_e (yt36 H) (Or.inl rfl) (ix (by omega) (by omega) (by omega))
    have gT : ∀ {α : Type} {k : Option α}, gA w 14 15 (B + 36) (it t) k = k := fun {α} {k} => gA_e (yt36 H) (Or.inl rfl) (ix (by omega) (by omega) (by omega))
    have cs : (it (s : Int)).toNatClampNeg = s := it_n (by omega)
    have ct : (it (t : Int)).toNatClampNeg = t := it_n (by omega)
    have g8s : ∀ {α : Type} {k : Option α}, gA w 10 20 (B + 71) (it s) k = k := fun {α} {k} => gA_e (yt71 H) (Or.inl rfl) (ix (by omega) (by omega) (by omega))
    have g8t : ∀ {α : Type} {k : Option α}, gA w 10 20 (B + 71) (it t) k = k := fun {α} {k} => gA_e (yt71 H) (Or.inl rfl) (ix (by omega) (by omega) (by omega))
    have g9s : ∀ {α : Type} {k : Option α}, gA w 10 20 (B + 72) (it s) k = k := fun {α} {k} => gA_e (yt72 H) (Or.inl rfl) (ix (by omega) (by omega) (by omega))
    have g9t : ∀ {α : Type} {k : Option α}, gA w 10 20 (B + 72) (it t) k = k := fun {α} {k} => gA_e (yt72 H) (Or.inl rfl) (ix (by omega) (by omega) (by omega))
    have preX : f_237 K 0 (d + 19) B (it s) (it u) (it t) (it v) (it x) w I J = if it (bs : Int) = it 0 then f_237_44 K 0 (d + 19) B (it s) (it u) (it t) (it v) (it x) w I J else if ¬ it (bt : Int) = it 0 then (if it (bs : Int) = it (bt : Int) then cI (Cl K (d + 19) 226 [.ref (B + 38 + 2 * s), .int (it u), .int (it x)] w I J) fun x_22 w_19 I_20 J_21 => if x_22 = it 0 then f_237_108 K 0 (d + 19) B (it s) (it u) (it t) (it v) (it x) w_19 I_20 J_21 else gO w_19 5 B (gV w_19 B 6 fun q_23 => gA w_19 14 15 q_23 (it t) (gV w_19 q_23 t fun q_24 => gO w_19 3 q_24 (cI (Cl K (d + 19) 226 [.ref q_24, .int (it v), .int (it x)] w_19 I_20 J_21) fun x_28 w_25 I_26 J_27 => if ¬ x_28 = it 0 then gO w_25 5 B (gV w_25 B 6 fun q_29 => gA w_25 14 15 q_29 (it s) (gV w_25 q_29 s fun q_30 => gO w_25 3 q_30 (gV w_25 q_30 0 fun q_31 => gO w_25 5 B (gV w_25 B 6 fun q_32 => gA w_25 14 15 q_32 (it t) (gV w_25 q_32 t fun q_33 => gO w_25 3 q_33 (gV w_25 q_33 0 fun q_34 => gY w_25 q_31 q_34 (it u) (it v) (it x) (lt_ (sm_up1 I_26 q_34 (va_cpy (I_26 q_31) (I_26 q_34) (it u).toNatClampNeg (it v).toNatClampNeg (it x).toNatClampNeg)) fun I_35 => some (some (.long ((it x : Int32).toInt64)), w_25, I_35, J_27)))))))) else f_237_108 K 0 (d + 19) B (it s) (it u) (it t) (it v) (it x) w_25 I_26 J_27))) else cJ (Cl K (d + 19) 17 [.ref B, .int (it 4)] w I J) fun v_39 w_36 I_37 J_38 => some (some (.long v_39), w_36, I_37, J_38)) else f_237_44 K 0 (d + 19) B (it s) (it u) (it t) (it v) (it x) w I J := by
      unfold f_237
      simp only [it_lit]
      rw [s_223 z1 z2]
      simp only [cI_e]
      rw [if_neg (by rw [bi_t hz.1]; decide), s_223 y1 y2]
      simp only [cI_e]
      rw [if_pos (by rw [bi_t hz.2]; decide)]
      simp only [gO_e (yt H), gV_e (yp_6 H), gS, gT, cs, ct, gV_e (shp H s4), gO_e (sht H s4), gV_e (shp H t4), gO_e (sht H t4), q4, r4]
    have preM : ∀ I' : aI, I' (B + 71) = I (B + 71) → I' (B + 72) = I (B + 72) → f_238 K 0 (d + 19) (B + 46) (it s) (it u) (it t) (it v) (it x) w I' J = if it (bs : Int) = it 0 then f_238_38 K 0 (d + 19) (B + 46) (it s) (it u) (it t) (it v) (it x) w I' J else if ¬ it (bt : Int) = it 0 then (if it (bs : Int) = it (bt : Int) then (if it u < it 0 then f_238_113 K 0 (d + 19) (B + 46) (it s) (it u) (it t) (it v) (it x) w I' J else if it v < it 0 then f_238_113 K 0 (d + 19) (B + 46) (it s) (it u) (it t) (it v) (it x) w I' J else if it x < it 0 then f_238_113 K 0 (d + 19) (B + 46) (it s) (it u) (it t) (it v) (it x) w I' J else if it 40 < it x then f_238_113 K 0 (d + 19) (B + 46) (it s) (it u) (it t) (it v) (it x) w I' J else if it ((ls : Int) - x) < it u then f_238_113 K 0 (d + 19) (B + 46) (it s) (it u) (it t) (it v) (it x) w I' J else if it v ≤ it ((lt : Int) - x) then cV (Cl K (d + 19) 177 [.ref (B + 73), .int (it (40 * (s : Int) + u)), .ref (B + 74), .int (it 0), .int (it x)] w I' J) fun w_17 I_18 J_19 => gO w_17 6 (B + 46) (gV w_17 (B + 46) 47 fun q_20 => gO w_17 6 (B + 46) (gV w_17 (B + 46) 46 fun q_21 => cV (Cl K (d + 19) 177 [.ref q_20, .int (it 0), .ref q_21, .int (it (40 * (t : Int) + v)), .int (it x)] w_17 I_18 J_19) fun w_22 I_23 J_24 => some (some (.long ((it x : Int32).toInt64)), w_22, I_23, J_24))) else f_238_113 K 0 (d + 19) (B + 46) (it s) (it u) (it t) (it v) (it x) w I' J) else cJ (Cl K (d + 19) 20 [.ref (B + 46), .int (it 4)] w I' J) fun v_28 w_25 I_26 J_27 => some (some (.long v_28), w_25, I_26, J_27)) else f_238_38 K 0 (d + 19) (B + 46) (it s) (it u) (it t) (it v) (it x) w I' J := by
      intro I' e78 e79
      unfold f_238
      simp only [it_lit]
      rw [s_229 z1 z2]
      simp only [cI_e]
      rw [if_neg (by rw [bi_t hz.1]; decide), s_229 y1 y2]
      simp only [cI_e]
      rw [if_pos (by rw [bi_t hz.2]; decide)]
      simp only [gO_e (yt46 H), gV_e (yp46_44 H), gV_e (yp46_45 H), gV_e (yp46_46 H), gV_e (yp46_47 H), g8s, g8t, g9s, g9t, cs, ct, e78, e79, q6, q7, r6, r7, it_sub, it_mul, it_add]
    have bad108 : f_237_108 K 0 (d + 19) B (it s) (it u) (it t) (it v) (it x) w I J = some (some (.long (lowk 1)), w, xf B 1 I, J) := by
      unfold f_237_108
      simp only [it_lit, gO_e (yt H)]
      rw [s_17 H (by omega) (by omega)]; rfl
    have bad44 : f_237_44 K 0 (d + 19) B (it s) (it u) (it t) (it v) (it x) w I J = some (some (.long (lowk 2)), w, xf B 2 I, J) := by
      unfold f_237_44
      simp only [it_lit, gO_e (yt H)]
      rw [s_17 H (by omega) (by omega)]; rfl
    have bad113 : ∀ I' : aI, f_238_113 K 0 (d + 19) (B + 46) (it s) (it u) (it t) (it v) (it x) w I' J = some (some (.long (lowk 1)), w, mf B 1 I', J) := by
      intro I'
      unfold f_238_113
      simp only [it_lit, gO_e (yt46 H)]
      rw [s_20 H (by omega) (by omega)]; rfl
    have bad38 : ∀ I' : aI, f_238_38 K 0 (d + 19) (B + 46) (it s) (it u) (it t) (it v) (it x) w I' J = some (some (.long (lowk 2)), w, mf B 2 I', J) := by
      intro I'
      unfold f_238_38
      simp only [it_lit, gO_e (yt46 H)]
      rw [s_20 H (by omega) (by omega)]; rfl
    by_cases h0 : bs = 0 ∨ bt = 0
    · refine pr_fd hs hR 2 (by omega) (by omega) (cl_237 (k := 0) (preX.trans ?_)) (fun I' hI => cl_238 (k := 0) ((preM I' (hI _ (by omega)) (hI _ (by omega))).trans ?_))
      · by_cases hs0 : bs = 0
        · rw [if_pos (by rw [hs0]; rfl)]; exact bad44
        · rw [if_neg (fun q => by have := (it_eq (by omega) (by omega) (by omega) (by omega)).mp q; omega), if_neg (fun q => q (by rw [h0.resolve_left hs0]; rfl))]; exact bad44
      · by_cases hs0 : bs = 0
        · rw [if_pos (by rw [hs0]; rfl)]; exact bad38 I'
        · rw [if_neg (fun q => by have := (it_eq (by omega) (by omega) (by omega) (by omega)).mp q; omega), if_neg (fun q => q (by rw [h0.resolve_left hs0]; rfl))]; exact bad38 I'
    · by_cases heq : bs = bt
      · have c226s := s_226 (K := K) (d := d + 18) (J := J) (x := u) (y := x) (sht H s4) q5 q2 u1 u2 x1 x2
        have c226t := s_226 (K := K) (d := d + 18) (J := J) (x := v) (y := x) (sht H t4) r5 r2 v1 v2 x1 x2
        by_cases hok : (0 ≤ u ∧ 0 ≤ x ∧ u + x ≤ ls) ∧ 0 ≤ v ∧ 0 ≤ x ∧ v + x ≤ lt
        · obtain ⟨un, rfl⟩ := z_nat hok.1.1
          obtain ⟨vn, rfl⟩ := z_nat hok.2.1
          obtain ⟨xn, rfl⟩ := z_nat hok.1.2.1
          have cu : (it (un : Int)).toNatClampNeg = un := it_n (by omega)
          have cv : (it (vn : Int)).toNatClampNeg = vn := it_n (by omega)
          have cx : (it (xn : Int)).toNatClampNeg = xn := it_n (by omega)
          obtain ⟨I1, eI1⟩ : ∃ I1 : aI, I1 = sm_up1 I (B + 39 + 2 * t) (va_cpy (I (B + 39 + 2 * s)) (I (B + 39 + 2 * t)) un vn xn) := ⟨_, rfl⟩
          have i1o : ∀ b, ¬ b = B + 39 + 2 * t → I1 b = I b := fun b h => by rw [eI1, up1_n h]
          have cA := s_177 (K := K) (d := d + 18) (J := J) (I := I1) (fr := 40 * s + un) (tz := 0) (len := xn) (yt73 H) (yt74 H) (by omega) (by omega) (by omega) (by omega) (fun e => by omega)
          obtain ⟨Ia, eIa⟩ : ∃ Ia : aI, Ia = sm_up1 I1 (B + 74) (cpr (I1 (B + 73)) (I1 (B + 74)) (40 * s + un) 0 xn) := ⟨_, rfl⟩
          rw [← eIa] at cA
          have cB := s_177 (K := K) (d := d + 18) (J := J) (I := Ia) (fr := 0) (tz := 40 * t + vn) (len := xn) (yt74 H) (yt73 H) (by omega) (by omega) (by omega) (by omega) (fun e => by omega)
          obtain ⟨I2, eI2⟩ : ∃ I2 : aI, I2 = sm_up1 Ia (B + 73) (cpr (Ia (B + 74)) (Ia (B + 73)) 0 (40 * t + vn) xn) := ⟨_, rfl⟩
          rw [← eI2] at cB
          have fo : ∀ b, ¬ b = B + 73 → ¬ b = B + 74 → I2 b = I1 b := fun b h1 h2 => by rw [eI2, up1_n h1, eIa, up1_n h2]
          have i80 : ∀ k, I2 (B + 73) k = if 40 * t + vn ≤ k ∧ k < 40 * t + vn + xn then I (B + 73) (40 * s + un + (k - (40 * t + vn))) else I (B + 73) k := by
            intro k
            rw [eI2, up1_s]
            unfold cpr
            by_cases h : 40 * t + vn ≤ k ∧ k < 40 * t + vn + xn
            · rw [if_pos h, if_pos h, eIa, up1_s]
              unfold cpr
              rw [if_pos (by omega), i1o _ (by omega), show 40 * s + un + (0 + (k - (40 * t + vn)) - 0) = 40 * s + un + (k - (40 * t + vn)) by omega]
            · rw [if_neg h, if_neg h, eIa, up1_n (by omega), i1o _ (by omega)]
          refine ⟨(it (xn : Int)).toInt64, w, I1, J, w, I2, J, cl_237 (k := 0) (d := d + 19) (preX.trans ?_), sc_of hs H (hR.2.1 b hs.1).2.1 ?_, cl_238 (k := 0) (d := d + 19) ((preM I1 (i1o _ (by omega)) (i1o _ (by omega))).trans ?_), rR_sh hR (fun b h1 h2 => ?_) (fun s' hs' => ?_)⟩
          · rw [if_neg (fun q => by have := (it_eq (by omega) (by omega) (by omega) (by omega)).mp q; omega), if_pos (fun q => by have := (it_eq (by omega) (by omega) (by omega) (by omega)).mp q; omega), if_pos (by rw [heq]), c226s]
            simp only [cI_e]
            rw [if_neg (by rw [bi_t hok.1]; decide), gO_e (yt H), gV_e (yp_6 H), gT, gV_e (shp H t4), gO_e (sht H t4), c226t]
            simp only [cI_e]
            rw [if_pos (by rw [bi_t hok.2]; decide), gO_e (yt H), gV_e (yp_6 H), gS, gV_e (shp H s4), gO_e (sht H s4), gV_e (shn H s4), gO_e (yt H), gV_e (yp_6 H), gT, gV_e (shp H t4), gO_e (sht H t4), gV_e (shn H t4), cu, cv, cx]
            have z0 : (0 : Int32) = it 0 := rfl
            rw [gY_e (sha H s4) (sha H t4) ⟨by rw [z0]; exact (fun q => by have := (it_lt (by omega) (by omega) (by omega) (by omega)).mp q; omega), by rw [z0]; exact (fun q => by have := (it_lt (by omega) (by omega) (by omega) (by omega)).mp q; omega), by rw [z0]; exact (fun q => by have := (it_lt (by omega) (by omega) (by omega) (by omega)).mp q; omega), by rw [cu, cx]; omega, by rw [cv, cx]; omega⟩]
            rw [eI1]
            rfl
          · rw [i1o b (by have := hs.1; omega)]; exact (hR.2.1 b hs.1).1
          · have cA' : Cl K (d + 19) 177 [.ref (B + 73), .int (it (40 * (s : Int) + (un : Int))), .ref (B + 74), .int (it 0), .int (it xn)] w I1 J = some (none, w, Ia, J) := cA
            have cB' : Cl K (d + 19) 177 [.ref (B + 74), .int (it 0), .ref (B + 73), .int (it (40 * (t : Int) + (vn : Int))), .int (it xn)] w Ia J = some (none, w, I2, J) := cB
            rw [if_neg (fun q => by have := (it_eq (by omega) (by omega) (by omega) (by omega)).mp q; omega), if_pos (fun q => by have := (it_eq (by omega) (by omega) (by omega) (by omega)).mp q; omega), if_pos (by rw [heq]), if_neg (fun q => by have := (it_lt (by omega) (by omega) (by omega) (by omega)).mp q; omega), if_neg (fun q => by have := (it_lt (by omega) (by omega) (by omega) (by omega)).mp q; omega), if_neg (fun q => by have := (it_lt (by omega) (by omega) (by omega) (by omega)).mp q; omega), if_neg (fun q => by have := (it_lt (by omega) (by omega) (by omega) (by omega)).mp q; omega), if_neg (fun q => by have := (it_lt (by omega) (by omega) (by omega) (by omega)).mp q; omega), if_pos ((it_le (by omega) (by omega) (by omega) (by omega)).mpr (by omega)), cA']
            simp only [cV_e]
            rw [gO_e (yt46 H), gV_e (yp46_47 H), gO_e (yt46 H), gV_e (yp46_46 H), cB']
            rfl
          · rw [fo b (by omega) (by omega), i1o b (by omega)]
          · obtain ⟨bt', ln', k1, k2, k3, k4, k5, k6, k7, k8⟩ := rS s' hs'
            refine ⟨bt', ln', k1, k2, k3, ?_, ?_, ?_, ?_, fun h j hj => ?_⟩
            · rw [fo _ (by omega) (by omega), i1o _ (by omega)]; exact k4
            · rw [fo _ (by omega) (by omega), i1o _ (by omega)]; exact k5
            · rw [fo _ (by omega) (by omega), i1o _ (by omega)]; exact k6
            · rw [fo _ (by omega) (by omega), i1o _ (by omega)]; exact k7
            · rw [fo _ (by omega) (by omega), i80]
              by_cases e : s' = t
              · subst e
                have hbt : bt' = bt := it_inj (by omega) (by omega) (k4.symm.trans r4)
                rw [eI1, up1_s]
                unfold va_cpy
                by_cases hj2 : vn ≤ j ∧ j < vn + xn
                · rw [if_pos hj2, if_pos (by omega), q8 (by omega) _ (by omega), show 40 * s + (un + (j - vn)) = 40 * s + un + (40 * s' + j - (40 * s' + vn)) by omega]
                · rw [if_neg hj2, if_neg (by omega)]
                  exact k8 h j hj
              · rw [i1o _ (by omega), if_neg (by omega)]
                exact k8 h j hj
        · refine pr_fd hs hR 1 (by omega) (by omega) (cl_237 (k := 0) (preX.trans ?_)) (fun I' hI => cl_238 (k := 0) ((preM I' (hI _ (by omega)) (hI _ (by omega))).trans ?_))
          · rw [if_neg (fun q => by have := (it_eq (by omega) (by omega) (by omega) (by omega)).mp q; omega), if_pos (fun q => by have := (it_eq (by omega) (by omega) (by omega) (by omega)).mp q; omega), if_pos (by rw [heq]), c226s]
            simp only [cI_e]
            by_cases ho : 0 ≤ u ∧ 0 ≤ x ∧ u + x ≤ ls
            · rw [if_neg (by rw [bi_t ho]; decide), gO_e (yt H), gV_e (yp_6 H), gT, gV_e (shp H t4), gO_e (sht H t4), c226t]
              simp only [cI_e]
              rw [if_neg (by rw [bi_f (fun q => hok ⟨ho, q⟩)]; decide)]
              exact bad108
            · rw [if_pos (by rw [bi_f ho])]
              exact bad108
          · rw [if_neg (fun q => by have := (it_eq (by omega) (by omega) (by omega) (by omega)).mp q; omega), if_pos (fun q => by have := (it_eq (by omega) (by omega) (by omega) (by omega)).mp q; omega), if_pos (by rw [heq])]
            by_cases c1 : u < 0
            · rw [if_pos ((it_lt (by omega) (by omega) (by omega) (by omega)).mpr (by omega))]; exact bad113 I'
            · rw [if_neg (fun q => by have := (it_lt (by omega) (by omega) (by omega) (by omega)).mp q; omega)]
              by_cases c2 : v < 0
              · rw [if_pos ((it_lt (by omega) (by omega) (by omega) (by omega)).mpr (by omega))]; exact bad113 I'
              · rw [if_neg (fun q => by have := (it_lt (by omega) (by omega) (by omega) (by omega)).mp q; omega)]
                by_cases c3 : x < 0
                · rw [if_pos ((it_lt (by omega) (by omega) (by omega) (by omega)).mpr (by omega))]; exact bad113 I'
                · rw [if_neg (fun q => by have := (it_lt (by omega) (by omega) (by omega) (by omega)).mp q; omega)]
                  by_cases c4 : 40 < x
                  · rw [if_pos ((it_lt (by omega) (by omega) (by omega) (by omega)).mpr (by omega))]; exact bad113 I'
                  · rw [if_neg (fun q => by have := (it_lt (by omega) (by omega) (by omega) (by omega)).mp q; omega)]
                    by_cases c5 : (ls : Int) - x < u
                    · rw [if_pos ((it_lt (by omega) (by omega) (by omega) (by omega)).mpr (by omega))]; exact bad113 I'
                    · rw [if_neg (fun q => by have := (it_lt (by omega) (by omega) (by omega) (by omega)).mp q; omega), if_neg (fun q => by have := (it_le (by omega) (by omega) (by omega) (by omega)).mp q; omega)]; exact bad113 I'
      · refine pr_fd hs hR 4 (by omega) (by omega) (cl_237 (k := 0) (preX.trans ?_)) (fun I' hI => cl_238 (k := 0) ((preM I' (hI _ (by omega)) (hI _ (by omega))).trans ?_))
        · rw [if_neg (fun q => by have := (it_eq (by omega) (by omega) (by omega) (by omega)).mp q; omega), if_pos (fun q => by have := (it_eq (by omega) (by omega) (by omega) (by omega)).mp q; omega), if_neg (fun q => by have := (it_eq (by omega) (by omega) (by omega) (by omega)).mp q; omega), s_17 H (by omega) (by omega)]; rfl
        · rw [if_neg (fun q => by have := (it_eq (by omega) (by omega) (by omega) (by omega)).mp q; omega), if_pos (fun q => by have := (it_eq (by omega) (by omega) (by omega) (by omega)).mp q; omega), if_neg (fun q => by have := (it_eq (by omega) (by omega) (by omega) (by omega)).mp q; omega), s_20 H (by omega) (by omega)]; rfl
  · refine pr_fd hs hR 1 (by omega) (by omega) (cl_237 (k := 0) ?_) (fun I' hI => cl_238 (k := 0) ?_)
    · unfold f_237 f_237_14
      simp only [it_lit]
      rw [s_223 z1 z2]
      simp only [cI_e]
      by_cases h4 : 0 ≤ z ∧ z < 4
      · rw [if_neg (by rw [bi_t h4]; decide), s_223 y1 y2]
        simp only [cI_e]
        rw [if_neg (by rw [bi_f (fun q => hz ⟨h4, q⟩)]; decide), gO_e (yt H), s_17 H (by omega) (by omega)]
        rfl
      · rw [if_pos (by rw [bi_f h4]), gO_e (yt H), s_17 H (by omega) (by omega)]
        rfl
    · unfold f_238 f_238_14
      simp only [it_lit]
      rw [s_229 z1 z2]
      simp only [cI_e]
      by_cases h4 : 0 ≤ z ∧ z < 4
      · rw [if_neg (by rw [bi_t h4]; decide), s_229 y1 y2]
        simp only [cI_e]
        rw [if_neg (by rw [bi_f (fun q => hz ⟨h4, q⟩)]; decide), gO_e (yt46 H), s_20 H (by omega) (by omega)]
        rfl
      · rw [if_pos (by rw [bi_f h4]), gO_e (yt46 H), s_20 H (by omega) (by omega)]
        rfl
end PRT

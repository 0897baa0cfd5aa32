/-! sheets -/
section SHT
variable {K : Nat → Value} {B d s m a N F hi pr j f p b : Nat} {fa : Nat → Nat → Nat} {oc ar : Nat → Nat} {sh : Nat → List Nat} {rc : Nat → Bool} {w : aW} {I I' : aI} {J : aJ} {c n : Nat → Int32}
theorem rR_sh {n : Nat} {w0 : aW} {I0 I2 : aI} (hR : rR K B w0 I0 n w I J) (hf : ∀ b, ¬ (B + 38 ≤ b ∧ b ≤ B + 45) → ¬ (B + 71 ≤ b ∧ b ≤ B + 74) → I2 b = I b) (hsh : rSh B I2) : rR K B w0 I0 (n + 1) w I2 J := by
  obtain ⟨H, ol, ky, sz, co, fd, fl, tp, sh, pm⟩ := hR
  refine ⟨H, fun a ha => ?_, ky, ⟨sz.1, by have := sz.2.1; omega, by have := sz.2.2; omega⟩, fun i hi => ?_, fun k hk => ?_, ?_, ?_, hsh, ?_⟩
  · rw [hf a (by omega) (by omega)]; exact ol a ha
  · rw [hf _ (by omega) (by omega)]; exact co i hi
  · rw [hf _ (by omega) (by omega), hf _ (by omega) (by omega)]; exact fd k hk
  · unfold rFl
    rw [hf B (by omega) (by omega), hf (B + 46) (by omega) (by omega)]; exact fl
  · unfold rTp
    rw [hf B (by omega) (by omega), hf (B + 46) (by omega) (by omega), hf (B + 1) (by omega) (by omega), hf (B + 48) (by omega) (by omega)]; exact tp
  · exact rPM_fr pm (fun a h1 h2 => hf a (by omega) (by omega)) (fun a h1 h2 => hf a (by omega) (by omega)) (by rw [hf B (by omega) (by omega)]) (by rw [hf (B + 46) (by omega) (by omega)]) (by rw [hf (B + 46) (by omega) (by omega)]) (by rw [hf (B + 46) (by omega) (by omega)]) (by rw [hf (B + 46) (by omega) (by omega)])
theorem s_232 {s : Nat} {l1 l2 : Int32} (H : Lay B w) (s4 : s < 4) : Cl K (d + 2) 232 [.ref (B + 38 + 2 * s), .int l1, .int l2] w I J = some (none, w, sm_up1 (sm_up2 (sm_up2 I (B + 38 + 2 * s) 1 l1) (B + 38 + 2 * s) 2 l2) (B + 39 + 2 * s) (fun k => if k < 40 then it 0 else I (B + 39 + 2 * s) k), J) := by
  apply cl_232 (k := 0)
  unfold f_232
  simp only [it_lit, lt_, gO_e (sht H s4), gV_e (shn H s4)]
  rw [s_36 (sha H s4) (by omega), up2_n (by omega), up2_n (by omega)]
  rfl
theorem l_233 {s : Nat} {l2 l3 : Int32} (H : Lay B w) (s4 : s < 4) : ∀ (m i : Nat), i + m = 40 → f_233_82 K (m + 1) d (B + 46) (it s) l2 l3 (it i) w (sm_up1 I (B + 73) (fun k => if 40 * s ≤ k ∧ k < 40 * s + i then it 0 else I (B + 73) k)) J = some (some (.long (I (B + 72) s).toInt64), w, sm_up1 I (B + 73) (fun k => if 40 * s ≤ k ∧ k < 40 * s + 40 then it 0 else I (B + 73) k), J) := by
  intro m
  induction m with
  | zero =>
    intro i hi
    have e : i = 40 := by omega
    subst e
    rw [f_233_82]
    simp only [it_lit, lt_p, gO_e (yt46 H), gV_e (yp46_45 H)]
    rw [if_pos ((it_le (by omega) (by omega) (by omega) (by omega)).mpr (by omega)), gA_e (yt72 H) (Or.inl rfl) (ix (by omega) (by omega) (by omega)), it_n (k := s) (by omega), up1_n (by omega)]
  | succ m ih =>
    intro i hi
    rw [f_233_82]
    simp only [it_lit, lt_p, it_add, it_mul, gO_e (yt46 H), gV_e (yp46_46 H)]
    rw [if_neg (fun q => by have := (it_le (by omega) (by omega) (by omega) (by omega)).mp q; omega), gA_e (yt73 H) (Or.inl rfl) (ix (by omega) (by omega) (by omega)), it_cl (a := 40 * (s : Int) + i) (by omega) (by omega), show (40 * (s : Int) + i).toNat = 40 * s + i by omega]
    have e2 : sm_up2 (sm_up1 I (B + 73) (fun k => if 40 * s ≤ k ∧ k < 40 * s + i then it 0 else I (B + 73) k)) (B + 73) (40 * s + i) (it 0) = sm_up1 I (B + 73) (fun k => if 40 * s ≤ k ∧ k < 40 * s + (i + 1) then it 0 else I (B + 73) k) := by
      unfold sm_up2
      rw [up1_s, up1_up1]
      congr 1
      funext k
      simp only [up1_a]
      by_cases e : k = 40 * s + i
      · rw [if_pos e, if_pos (by omega)]
      · rw [if_neg e]
        by_cases e3 : 40 * s ≤ k ∧ k < 40 * s + i
        · rw [if_pos e3, if_pos (by omega)]
        · rw [if_neg e3, if_neg (by omega)]
    rw [e2]
    exact ih (i + 1) (by omega)
end SHT
section PRT
variable {K : Nat → Value} {B d n b L : Nat} {w0 : aW} {I0 : aI} {xs : Nat → Int32}
theorem pr_sheet (hs : gSc b L B xs w0 I0) (a0 a1 a2 : Int32) : Pr K (d + 20) (rR K B w0 I0 n) (rR K B w0 I0 (n + 1)) (Sc b B (B + 46) L xs) B (B + 46) 231 233 [.int a0, .int a1, .int a2] := by
  intro w I J hR
  have H := hR.1
  obtain ⟨z, z1, z2, rfl⟩ := it_ex a0
  obtain ⟨y, y1, y2, rfl⟩ := it_ex a1
  obtain ⟨x, x1, x2, rfl⟩ := it_ex a2
  have rS := hR.2.2.2.2.2.2.2.2.1
  by_cases hz : (0 ≤ z ∧ z < 4) ∧ (y = 0 ∨ y = 8 ∨ y = 16 ∨ y = 32)
  · obtain ⟨s, rfl⟩ := z_nat hz.1.1
    have s4 : s < 4 := by omega
    have preX : ∀ k, f_231 K k (d + 19) B (it s) (it y) (it x) w I J = f_231_35 K k (d + 19) B (it s) (it y) (it x) w I J := by
      intro k
      unfold f_231
      simp only [it_lit]
      rw [s_223 z1 z2]
      simp only [cI_e]
      rw [if_neg (by rw [bi_t (by omega)]; decide)]
      rcases hz.2 with h | h | h | h
      · rw [if_pos (by rw [h])]
      · rw [if_neg (fun q => by have := (it_eq (by omega) (by omega) (by omega) (by omega)).mp q; omega), if_pos (by rw [h])]
      · rw [if_neg (fun q => by have := (it_eq (by omega) (by omega) (by omega) (by omega)).mp q; omega), if_neg (fun q => by have := (it_eq (by omega) (by omega) (by omega) (by omega)).mp q; omega), if_pos (by rw [h])]
      · rw [if_neg (fun q => by have := (it_eq (by omega) (by omega) (by omega) (by omega)).mp q; omega), if_neg (fun q => by have := (it_eq (by omega) (by omega) (by omega) (by omega)).mp q; omega), if_neg (fun q => by have := (it_eq (by omega) (by omega) (by omega) (by omega)).mp q; omega), if_pos (by rw [h])]
    have preM : ∀ k I', f_233 K k (d + 19) (B + 46) (it s) (it y) (it x) w I' J = f_233_35 K k (d + 19) (B + 46) (it s) (it y) (it x) w I' J := by
      intro k I'
      unfold f_233
      simp only [it_lit]
      rw [s_229 z1 z2]
      simp only [cI_e]
      rw [if_neg (by rw [bi_t (by omega)]; decide)]
      rcases hz.2 with h | h | h | h
      · rw [if_pos (by rw [h])]
      · rw [if_neg (fun q => by have := (it_eq (by omega) (by omega) (by omega) (by omega)).mp q; omega), if_pos (by rw [h])]
      · rw [if_neg (fun q => by have := (it_eq (by omega) (by omega) (by omega) (by omega)).mp q; omega), if_neg (fun q => by have := (it_eq (by omega) (by omega) (by omega) (by omega)).mp q; omega), if_pos (by rw [h])]
      · rw [if_neg (fun q => by have := (it_eq (by omega) (by omega) (by omega) (by omega)).mp q; omega), if_neg (fun q => by have := (it_eq (by omega) (by omega) (by omega) (by omega)).mp q; omega), if_neg (fun q => by have := (it_eq (by omega) (by omega) (by omega) (by omega)).mp q; omega), if_pos (by rw [h])]
    by_cases hx : 0 ≤ x ∧ x ≤ 40
    · obtain ⟨bt, rfl⟩ := z_nat (by omega : 0 ≤ y)
      obtain ⟨xn, rfl⟩ := z_nat hx.1
      obtain ⟨ln, eln⟩ : ∃ ln : Nat, ln = if bt = 0 then 0 else xn := ⟨_, rfl⟩
      have l40 : ln ≤ 40 := by rw [eln]; split <;> omega
      have l0 : bt = 0 → ln = 0 := fun e => by rw [eln, if_pos e]
      obtain ⟨I1, eI1⟩ : ∃ I1 : aI, I1 = sm_up1 (sm_up2 (sm_up2 I (B + 38 + 2 * s) 1 (it bt)) (B + 38 + 2 * s) 2 (it ln)) (B + 39 + 2 * s) (fun k => if k < 40 then it 0 else I (B + 39 + 2 * s) k) := ⟨_, rfl⟩
      have i1o : ∀ b, ¬ b = B + 38 + 2 * s → ¬ b = B + 39 + 2 * s → I1 b = I b := fun b h1 h2 => by rw [eI1, up1_n h2, up2_n h1, up2_n h1]
      have i45 : I1 (B + 38 + 2 * s) = sm_up1 (sm_up1 (I (B + 38 + 2 * s)) 1 (it bt)) 2 (it ln) := by rw [eI1, up1_n (by omega), up2_r, up2_r]
      have i46 : I1 (B + 39 + 2 * s) = fun k => if k < 40 then it 0 else I (B + 39 + 2 * s) k := by rw [eI1, up1_s]
      obtain ⟨Im, eIm⟩ : ∃ Im : aI, Im = sm_up2 (sm_up2 I1 (B + 71) s (it bt)) (B + 72) s (it ln) := ⟨_, rfl⟩
      have imo : ∀ b, ¬ b = B + 71 → ¬ b = B + 72 → Im b = I1 b := fun b h1 h2 => by rw [eIm, up2_n h2, up2_n h1]
      have c233 := l_233 (K := K) (d := d + 19) (I := Im) (J := J) (l2 := it bt) (l3 := it xn) H s4 40 0 (by omega)
      have e0 : sm_up1 Im (B + 73) (fun k => if 40 * s ≤ k ∧ k < 40 * s + 0 then it 0 else Im (B + 73) k) = Im := by
        have : (fun k => if 40 * s ≤ k ∧ k < 40 * s + 0 then it 0 else Im (B + 73) k) = Im (B + 73) := by
          funext k
          rw [if_neg (by omega)]
        rw [this, up1_id]
      rw [e0] at c233
      have e79 : Im (B + 72) s = it ln := by rw [eIm, up2_r, up1_s]
      rw [e79] at c233
      obtain ⟨I2, eI2⟩ : ∃ I2 : aI, I2 = sm_up1 Im (B + 73) (fun k => if 40 * s ≤ k ∧ k < 40 * s + 40 then it 0 else Im (B + 73) k) := ⟨_, rfl⟩
      rw [← eI2] at c233
      have i2o : ∀ b, ¬ b = B + 73 → I2 b = Im b := fun b h => by rw [eI2, up1_n h]
      have i80 : ∀ k, I2 (B + 73) k = if 40 * s ≤ k ∧ k < 40 * s + 40 then it 0 else I (B + 73) k := fun k => by
        rw [eI2, up1_s, imo _ (by omega) (by omega), i1o _ (by omega) (by omega)]
      have i78 : ∀ k, I2 (B + 71) k = if k = s then it bt else I (B + 71) k := fun k => by
        rw [i2o _ (by omega), eIm, up2_n (by omega), up2_r, up1_a, i1o _ (by omega) (by omega)]
      have i79 : ∀ k, I2 (B + 72) k = if k = s then it ln else I (B + 72) k := fun k => by
        rw [i2o _ (by omega), eIm, up2_r, up1_a, up2_n (by omega), i1o _ (by omega) (by omega)]
      have fo : ∀ b, ¬ b = B + 71 → ¬ b = B + 72 → ¬ b = B + 73 → I2 b = I1 b := fun b h1 h2 h3 => by rw [i2o b h3, imo b h1 h2]
      refine ⟨(it ln).toInt64, w, I1, J, w, I2, J, cl_231 (k := 0) (d := d + 19) ((preX 0).trans ?_), sc_of hs H (hR.2.1 b hs.1).2.1 ?_, cl_233 (k := 41) (d := d + 19) ((preM 41 I1).trans ?_), rR_sh hR (fun b h1 h2 => ?_) (fun s' hs' => ?_)⟩
      · unfold f_231_35 f_231_66
        simp only [it_lit, gO_e (yt H), gV_e (yp_6 H)]
        rw [if_pos ((it_le (by omega) (by omega) (by omega) (by omega)).mpr (by omega)), if_pos ((it_le (by omega) (by omega) (by omega) (by omega)).mpr (by omega))]
        simp only [gA_e (yt36 H) (Or.inl rfl) (ix (z := (s : Int)) (by omega) (by omega) (by omega)), it_n (k := s) (by omega), gV_e (shp H s4), gO_e (sht H s4)]
        by_cases hb : bt = 0
        · rw [if_neg (fun q => q (by rw [hb]; rfl)), s_232 H s4]
          have : ln = 0 := l0 hb
          rw [eI1, this]
          rfl
        · have : ln = xn := by rw [eln, if_neg hb]
          rw [if_pos (fun q => by have := (it_eq (by omega) (by omega) (by omega) (by omega)).mp q; omega), s_232 H s4, eI1, this]
          rfl
      · rw [i1o b (by have := hs.1; omega) (by have := hs.1; omega)]; exact (hR.2.1 b hs.1).1
      · unfold f_233_35 f_233_78
        simp only [it_lit, lt_, gO_e (yt46 H), gV_e (yp46_44 H), gV_e (yp46_45 H)]
        rw [if_pos ((it_le (by omega) (by omega) (by omega) (by omega)).mpr (by omega)), if_pos ((it_le (by omega) (by omega) (by omega) (by omega)).mpr (by omega))]
        simp only [gA_e (yt71 H) (Or.inl rfl) (ix (z := (s : Int)) (by omega) (by omega) (by omega)), gA_e (yt72 H) (Or.inl rfl) (ix (z := (s : Int)) (by omega) (by omega) (by omega)), it_n (k := s) (by omega)]
        by_cases hb : bt = 0
        · have : ln = 0 := l0 hb
          rw [this] at eIm
          have eIm' : Im = sm_up2 (sm_up2 I1 (B + 71) s (it bt)) (B + 72) s (it 0) := eIm
          rw [if_neg (fun q => q (by rw [hb]; rfl)), ← eIm']
          exact c233
        · have : ln = xn := by rw [eln, if_neg hb]
          rw [if_pos (fun q => by have := (it_eq (by omega) (by omega) (by omega) (by omega)).mp q; omega), ← this, ← eIm]
          rw [← this] at c233
          exact c233
      · rw [fo b (by omega) (by omega) (by omega), i1o b (by omega) (by omega)]
      · by_cases e : s' = s
        · subst e
          refine ⟨bt, ln, by omega, l40, l0, ?_, ?_, ?_, ?_, fun _ i hi => ?_⟩
          · rw [fo _ (by omega) (by omega) (by omega), i45, up1_n (by omega), up1_s]
          · rw [fo _ (by omega) (by omega) (by omega), i45, up1_s]
          · rw [i78, if_pos rfl]
          · rw [i79, if_pos rfl]
          · rw [fo _ (by omega) (by omega) (by omega), i46, i80, if_pos (by omega)]
            exact if_pos hi
        · obtain ⟨bt', ln', q1, q2, q3, q4, q5, q6, q7, q8⟩ := rS s' hs'
          refine ⟨bt', ln', q1, q2, q3, ?_, ?_, ?_, ?_, fun h i hi => ?_⟩
          · rw [fo _ (by omega) (by omega) (by omega), i1o _ (by omega) (by omega)]; exact q4
          · rw [fo _ (by omega) (by omega) (by omega), i1o _ (by omega) (by omega)]; exact q5
          · rw [i78, if_neg e]; exact q6
          · rw [i79, if_neg e]; exact q7
          · rw [fo _ (by omega) (by omega) (by omega), i1o _ (by omega) (by omega), i80, if_neg (by omega)]; exact q8 h i hi
    · by_cases h0 : 0 ≤ x
      · refine pr_fd hs hR 1 (by omega) (by omega) (cl_231 (k := 0) ((preX 0).trans ?_)) (fun I' hI => cl_233 (k := 0) ((preM 0 I').trans ?_))
        · unfold f_231_35
          simp only [it_lit, gO_e (yt H)]
          rw [if_pos ((it_le (by omega) (by omega) (by omega) (by omega)).mpr (by omega)), if_neg (fun q => by have := (it_le (by omega) (by omega) (by omega) (by omega)).mp q; omega), s_17 H (by omega) (by omega)]; rfl
        · unfold f_233_35
          simp only [it_lit, gO_e (yt46 H)]
          rw [if_pos ((it_le (by omega) (by omega) (by omega) (by omega)).mpr (by omega)), if_neg (fun q => by have := (it_le (by omega) (by omega) (by omega) (by omega)).mp q; omega), s_20 H (by omega) (by omega)]; rfl
      · refine pr_fd hs hR 3 (by omega) (by omega) (cl_231 (k := 0) ((preX 0).trans ?_)) (fun I' hI => cl_233 (k := 0) ((preM 0 I').trans ?_))
        · unfold f_231_35
          simp only [it_lit, gO_e (yt H)]
          rw [if_neg (fun q => by have := (it_le (by omega) (by omega) (by omega) (by omega)).mp q; omega), s_17 H (by omega) (by omega)]; rfl
        · unfold f_233_35
          simp only [it_lit, gO_e (yt46 H)]
          rw [if_neg (fun q => by have := (it_le (by omega) (by omega) (by omega) (by omega)).mp q; omega), s_20 H (by omega) (by omega)]; rfl
  · refine pr_fd hs hR 1 (by omega) (by omega) (cl_231 (k := 0) ?_) (fun I' hI => cl_233 (k := 0) ?_)
    · unfold f_231 f_231_29
      simp only [it_lit, gO_e (yt H)]
      rw [s_223 z1 z2]
      simp only [cI_e, gO_e (yt H)]
      rw [s_17 H (by omega) (by omega)]
      by_cases h4 : 0 ≤ z ∧ z < 4
      · rw [if_neg (by rw [bi_t h4]; decide), if_neg (fun q => by have := (it_eq (by omega) (by omega) (by omega) (by omega)).mp q; omega), if_neg (fun q => by have := (it_eq (by omega) (by omega) (by omega) (by omega)).mp q; omega), if_neg (fun q => by have := (it_eq (by omega) (by omega) (by omega) (by omega)).mp q; omega), if_neg (fun q => by have := (it_eq (by omega) (by omega) (by omega) (by omega)).mp q; omega)]; rfl
      · rw [if_pos (by rw [bi_f h4])]; rfl
    · unfold f_233 f_233_29
      simp only [it_lit, gO_e (yt46 H)]
      rw [s_229 z1 z2]
      simp only [cI_e, gO_e (yt46 H)]
      rw [s_20 H (by omega) (by omega)]
      by_cases h4 : 0 ≤ z ∧ z < 4
      · rw [if_neg (by rw [bi_t h4]; decide), if_neg (fun q => by have := (it_eq (by omega) (by omega) (by omega) (by omega)).mp q; omega), if_neg (fun q => by have := (it_eq (by omega) (by omega) (by omega) (by omega)).mp q; omega), if_neg (fun q => by have := (it_eq (by omega) (by omega) (by omega) (by omega)).mp q; omega), if_neg (fun q => by have := (it_eq (by omega) (by omega) (by omega) (by omega)).mp q; omega)]; rfl
      · rw [if_pos (by rw [bi_f h4])]; rfl
end PRT

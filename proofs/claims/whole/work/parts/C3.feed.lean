/-! feed -/
theorem and255 (y : Int32) : ∃ v : Nat, v < 256 ∧ y &&& it 255 = it v := by
  refine ⟨(y.toBitVec &&& 255#32).toNat, ?_, ?_⟩
  · rw [BitVec.toNat_and]
    exact Nat.lt_of_le_of_lt Nat.and_le_right (by decide)
  · apply Int32.toBitVec_inj.mp
    rw [Int32.toBitVec_and]
    show y.toBitVec &&& (it 255).toBitVec = BitVec.ofInt 32 (((y.toBitVec &&& 255#32).toNat : Nat) : Int)
    rw [show (it 255).toBitVec = 255#32 from rfl]
    apply BitVec.eq_of_toNat_eq
    rw [BitVec.toNat_ofInt]
    have h : (y.toBitVec &&& 255#32).toNat < 2 ^ 32 := BitVec.isLt _
    omega
theorem sh8 : ∀ i : Fin 8, ((it (8 * (i.val : Int))).toInt64.toUInt64 &&& Int64.toUInt64 63).toBitVec = BitVec.ofNat 64 (8 * i.val) := by decide +kernel
theorem sh8' : ∀ i : Fin 8, ((it (8 * (i.val : Int))).toInt64 &&& 63).toBitVec = BitVec.ofNat 64 (8 * i.val) := by decide +kernel
theorem byte_x (x : Int64) {i : Nat} (hi : i < 8) : (((x.toUInt64 >>> ((it (8 * (i : Int))).toInt64.toUInt64 &&& Int64.toUInt64 63)).toInt64).toInt32) &&& it 255 = ((x >>> ((it (8 * (i : Int))).toInt64 &&& 63)) &&& 255).toInt32 := by
  apply Int32.toBitVec_inj.mp
  have e1 := sh8 ⟨i, hi⟩
  have e2 := sh8' ⟨i, hi⟩
  simp only at e1 e2
  have m1 : BitVec.ofNat 64 (8 * i) % 64 = BitVec.ofNat 64 (8 * i) := by
    have : ∀ i : Fin 8, BitVec.ofNat 64 (8 * i.val) % 64 = BitVec.ofNat 64 (8 * i.val) := by decide +kernel
    exact this ⟨i, hi⟩
  have m2 : (BitVec.ofNat 64 (8 * i)).smod 64 = BitVec.ofNat 64 (8 * i) := by
    have : ∀ i : Fin 8, (BitVec.ofNat 64 (8 * i.val)).smod 64 = BitVec.ofNat 64 (8 * i.val) := by decide +kernel
    exact this ⟨i, hi⟩
  have hn : (BitVec.ofNat 64 (8 * i)).toNat = 8 * i := by
    rw [BitVec.toNat_ofNat]; omega
  rw [Int32.toBitVec_and, Int64.toBitVec_toInt32, UInt64.toBitVec_toInt64, UInt64.toBitVec_shiftRight, e1, m1, Int64.toBitVec_toUInt64, Int64.toBitVec_toInt32, Int64.toBitVec_and, Int64.toBitVec_shiftRight, e2, m2]
  rw [show (it 255).toBitVec = 255#32 from rfl, show (255 : Int64).toBitVec = 255#64 from rfl]
  apply BitVec.eq_of_getLsbD_eq
  intro j hj
  have b1 : (255#32).getLsbD j = decide (j < 8) := by
    have : ∀ j : Fin 32, (255#32).getLsbD j.val = decide (j.val < 8) := by decide +kernel
    exact this ⟨j, hj⟩
  have b2 : (255#64).getLsbD j = decide (j < 8) := by
    have : ∀ j : Fin 32, (255#64).getLsbD j.val = decide (j.val < 8) := by decide +kernel
    exact this ⟨j, hj⟩
  rw [BitVec.getLsbD_and, BitVec.getLsbD_signExtend, BitVec.getLsbD_signExtend, BitVec.getLsbD_and, b1, b2]
  rw [BitVec.ushiftRight_eq', BitVec.sshiftRight_eq', BitVec.getLsbD_ushiftRight, BitVec.getLsbD_sshiftRight, hn]
  by_cases h8 : j < 8
  · simp only [h8, hj, decide_true, Bool.and_true, show j < 64 by omega, if_true, show 8 * i + j < 64 by omega, Bool.true_and]
    simp
    omega
  · simp only [h8, decide_false, Bool.and_false, if_true, show j < 64 by omega]
section FEED
variable {K : Nat → Value} {B d s m a N F hi pr j f p b : Nat} {fa : Nat → Nat → Nat} {oc ar : Nat → Nat} {sh : Nat → List Nat} {rc : Nat → Bool} {w : aW} {I I' : aI} {J : aJ} {c n : Nat → Int32}
/-- the bytes of a number -/
def bys (x : Int64) (i : Nat) : Int32 := (((x.toUInt64 >>> ((it (8 * (i : Int))).toInt64.toUInt64 &&& Int64.toUInt64 63)).toInt64).toInt32) &&& it 255
theorem l_16 {x : Int64} {t n : Nat} (H : Lay B w) (ht : I B 1 = it t) (hn : t + n ≤ 240) (n8 : n ≤ 8) : ∀ (m i : Nat), i + m = n → f_16_38 K (m + 1) d B (it n) x (it i) w (sm_up1 I (B + 1) (fun k => if t ≤ k ∧ k < t + i then bys x (k - t) else I (B + 1) k)) J = some (some (.long (it ((t + n : Nat) : Int)).toInt64), w, sm_up2 (sm_up1 I (B + 1) (fun k => if t ≤ k ∧ k < t + n then bys x (k - t) else I (B + 1) k)) B 1 (it ((t + n : Nat) : Int)), J) := by
  intro m
  induction m with
  | zero =>
    intro i hi
    have e : i = n := by omega
    subst e
    rw [f_16_38]
    simp only [it_lit, lt_p, gO_e (yt H)]
    rw [if_pos ((it_le (by omega) (by omega) (by omega) (by omega)).mpr (by omega)), up2_r, up1_s, up1_n (by omega), ht, it_add]
    rfl
  | succ m ih =>
    intro i hi
    rw [f_16_38]
    simp only [it_lit, lt_p, gO_e (yt H), gV_e (yp_0 H), it_mul]
    rw [if_neg (fun q => by have := (it_le (by omega) (by omega) (by omega) (by omega)).mp q; omega), up1_n (k := B + 1) (j := B) (by omega), ht]
    simp only [it_add]
    rw [gA_e (yt1 H) (Or.inl rfl) (ix (by omega) (by omega) (by omega)), it_cl (a := (t : Int) + i) (by omega) (by omega), show ((t : Int) + i).toNat = t + i by omega]
    have e2 : sm_up2 (sm_up1 I (B + 1) (fun k => if t ≤ k ∧ k < t + i then bys x (k - t) else I (B + 1) k)) (B + 1) (t + i) (bys x i) = sm_up1 I (B + 1) (fun k => if t ≤ k ∧ k < t + (i + 1) then bys x (k - t) else I (B + 1) k) := by
      unfold sm_up2
      rw [up1_s, up1_up1]
      congr 1
      funext k
      simp only [up1_a]
      by_cases e : k = t + i
      · subst e
        rw [if_pos rfl, if_pos (by omega), show t + i - t = i by omega]
      · rw [if_neg e]
        by_cases e3 : t ≤ k ∧ k < t + i
        · rw [if_pos e3, if_pos (by omega)]
        · rw [if_neg e3, if_neg (by omega)]
    have e4 : (((x.toUInt64 >>> ((it (8 * (i : Int))).toInt64.toUInt64 &&& Int64.toUInt64 63)).toInt64).toInt32) &&& it 255 = bys x i := rfl
    rw [e4, e2]
    exact ih (i + 1) (by omega)
theorem l_18 {x : Int64} {t n : Nat} (H : Lay B w) (hn : t + n ≤ 240) (n8 : n ≤ 8) : ∀ (m i : Nat), i + m = n → f_18_37 K (m + 1) d (B + 46) (it n) x (it i) w (sm_up2 (sm_up1 I (B + 48) (fun k => if t ≤ k ∧ k < t + i then bys x (k - t) else I (B + 48) k)) (B + 46) 2 (it ((t + i : Nat) : Int))) J = some (some (.long (it ((t + n : Nat) : Int)).toInt64), w, sm_up2 (sm_up1 I (B + 48) (fun k => if t ≤ k ∧ k < t + n then bys x (k - t) else I (B + 48) k)) (B + 46) 2 (it ((t + n : Nat) : Int)), J) := by
  intro m
  induction m with
  | zero =>
    intro i hi
    have e : i = n := by omega
    subst e
    rw [f_18_37]
    simp only [it_lit, lt_p, gO_e (yt46 H)]
    rw [if_pos ((it_le (by omega) (by omega) (by omega) (by omega)).mpr (by omega)), up2_r, up1_s]
  | succ m ih =>
    intro i hi
    rw [f_18_37]
    simp only [it_lit, lt_p, gO_e (yt46 H), gV_e (yp46_1 H), it_mul]
    have r2 : sm_up2 (sm_up1 I (B + 48) (fun k => if t ≤ k ∧ k < t + i then bys x (k - t) else I (B + 48) k)) (B + 46) 2 (it ((t + i : Nat) : Int)) (B + 46) 2 = it ((t + i : Nat) : Int) := by rw [up2_r, up1_s]
    rw [if_neg (fun q => by have := (it_le (by omega) (by omega) (by omega) (by omega)).mp q; omega), r2, gA_e (yt48 H) (Or.inl rfl) (ix (by omega) (by omega) (by omega)), it_n (k := t + i) (by omega)]
    have hb : ((x >>> ((it (8 * (i : Int))).toInt64 &&& 63)) &&& 255).toInt32 = bys x i := (byte_x x (by omega)).symm
    have r3 : ∀ v : Int32, sm_up2 (sm_up2 (sm_up1 I (B + 48) (fun k => if t ≤ k ∧ k < t + i then bys x (k - t) else I (B + 48) k)) (B + 46) 2 (it ((t + i : Nat) : Int))) (B + 48) (t + i) v (B + 46) 2 = it ((t + i : Nat) : Int) := fun v => by rw [up2_n (by omega)]; exact r2
    rw [r3, it_add, it_add]
    have e2 : sm_up2 (sm_up2 (sm_up2 (sm_up1 I (B + 48) (fun k => if t ≤ k ∧ k < t + i then bys x (k - t) else I (B + 48) k)) (B + 46) 2 (it ((t + i : Nat) : Int))) (B + 48) (t + i) (bys x i)) (B + 46) 2 (it (((t + i : Nat) : Int) + 1)) = sm_up2 (sm_up1 I (B + 48) (fun k => if t ≤ k ∧ k < t + (i + 1) then bys x (k - t) else I (B + 48) k)) (B + 46) 2 (it ((t + (i + 1) : Nat) : Int)) := by
      funext b
      by_cases h1 : b = B + 46
      · subst h1
        rw [up2_r, up2_n (by omega), up2_r, up1_up1, up1_n (by omega), up2_r, up1_n (by omega)]
        rfl
      · rw [up2_n h1, up2_n h1]
        by_cases h2 : b = B + 48
        · subst h2
          rw [up2_r, up2_n (by omega), up1_s, up1_s]
          funext k
          simp only [up1_a]
          by_cases e : k = t + i
          · subst e
            rw [if_pos rfl, if_pos (by omega), show t + i - t = i by omega]
          · rw [if_neg e]
            by_cases e3 : t ≤ k ∧ k < t + i
            · rw [if_pos e3, if_pos (by omega)]
            · rw [if_neg e3, if_neg (by omega)]
        · rw [up2_n h2, up2_n h1, up1_n h2, up1_n h2]
    rw [show ((x >>> ((it (8 * (i : Int))).toInt64 &&& 63)) &&& 255).toInt32 = bys x i from hb, e2]
    exact ih (i + 1) (by omega)
end FEED
section PRF
variable {K : Nat → Value} {B d n b L : Nat} {w0 : aW} {I0 : aI} {xs : Nat → Int32}
theorem pr_feed (hs : gSc b L B xs w0 I0) (a0 : Int32) (a1 : Int64) : Pr K (d + 20) (rR K B w0 I0 n) (rR K B w0 I0 (n + 1)) (Sc b B (B + 46) L xs) B (B + 46) 16 18 [.int a0, .long a1] := by
  intro w I J hR
  have H := hR.1
  obtain ⟨z, z1, z2, rfl⟩ := it_ex a0
  obtain ⟨t, t1, t2, t3, t4⟩ := id hR.2.2.2.2.2.2.2.1
  by_cases hz : 1 ≤ z ∧ z ≤ 8
  · obtain ⟨zn, rfl⟩ := z_nat (by omega : 0 ≤ z)
    by_cases hf : t + zn ≤ 240
    · obtain ⟨I1, eI1⟩ : ∃ I1 : aI, I1 = sm_up2 (sm_up1 I (B + 1) (fun k => if t ≤ k ∧ k < t + zn then bys a1 (k - t) else I (B + 1) k)) B 1 (it ((t + zn : Nat) : Int)) := ⟨_, rfl⟩
      have c16 := l_16 (K := K) (d := d + 19) (J := J) (x := a1) H t2 hf (by omega) zn 0 (by omega)
      have e0 : sm_up1 I (B + 1) (fun k => if t ≤ k ∧ k < t + 0 then bys a1 (k - t) else I (B + 1) k) = I := by
        have : (fun k => if t ≤ k ∧ k < t + 0 then bys a1 (k - t) else I (B + 1) k) = I (B + 1) := by
          funext k
          rw [if_neg (by omega)]
        rw [this, up1_id]
      rw [e0, ← eI1] at c16
      have i1o : ∀ b, ¬ b = B → ¬ b = B + 1 → I1 b = I b := fun b h1 h2 => by rw [eI1, up2_n h1, up1_n h2]
      have iB : I1 B = sm_up1 (I B) 1 (it ((t + zn : Nat) : Int)) := by rw [eI1, up2_r, up1_n (by omega)]
      have i1 : ∀ k, I1 (B + 1) k = if t ≤ k ∧ k < t + zn then bys a1 (k - t) else I (B + 1) k := fun k => by rw [eI1, up2_n (by omega), up1_s]
      have c18 := l_18 (K := K) (d := d + 19) (I := I1) (J := J) (x := a1) (t := t) (n := zn) H hf (by omega) zn 0 (by omega)
      have e1 : sm_up2 (sm_up1 I1 (B + 48) (fun k => if t ≤ k ∧ k < t + 0 then bys a1 (k - t) else I1 (B + 48) k)) (B + 46) 2 (it ((t + 0 : Nat) : Int)) = I1 := by
        have : (fun k => if t ≤ k ∧ k < t + 0 then bys a1 (k - t) else I1 (B + 48) k) = I1 (B + 48) := by
          funext k
          rw [if_neg (by omega)]
        rw [this, up1_id]
        have e53 : it ((t + 0 : Nat) : Int) = I1 (B + 46) 2 := by rw [i1o _ (by omega) (by omega), t3]; rfl
        rw [e53]
        funext b
        by_cases h : b = B + 46
        · subst h; rw [up2_r, up1_id]
        · rw [up2_n h]
      rw [e1] at c18
      obtain ⟨I2, eI2⟩ : ∃ I2 : aI, I2 = sm_up2 (sm_up1 I1 (B + 48) (fun k => if t ≤ k ∧ k < t + zn then bys a1 (k - t) else I1 (B + 48) k)) (B + 46) 2 (it ((t + zn : Nat) : Int)) := ⟨_, rfl⟩
      rw [← eI2] at c18
      have i2o : ∀ b, ¬ b = B + 46 → ¬ b = B + 48 → I2 b = I1 b := fun b h1 h2 => by rw [eI2, up2_n h1, up1_n h2]
      have i53 : I2 (B + 46) = sm_up1 (I (B + 46)) 2 (it ((t + zn : Nat) : Int)) := by rw [eI2, up2_r, up1_n (by omega), i1o _ (by omega) (by omega)]
      have i55 : ∀ k, I2 (B + 48) k = if t ≤ k ∧ k < t + zn then bys a1 (k - t) else I (B + 48) k := fun k => by rw [eI2, up2_n (by omega), up1_s, i1o _ (by omega) (by omega)]
      have fo : ∀ b, ¬ b = B → ¬ b = B + 1 → ¬ b = B + 46 → ¬ b = B + 48 → I2 b = I b := fun b h1 h2 h3 h4 => by rw [i2o b h3 h4, i1o b h1 h2]
      refine ⟨(it ((t + zn : Nat) : Int)).toInt64, w, I1, J, w, I2, J, cl_16 (k := zn + 1) (d := d + 19) ?_, sc_of hs H (hR.2.1 b hs.1).2.1 ?_, cl_18 (k := zn + 1) (d := d + 19) ?_, ?_⟩
      · unfold f_16
        simp only [it_lit, gO_e (yt H)]
        rw [if_neg (fun q => by have := (it_lt (by omega) (by omega) (by omega) (by omega)).mp q; omega), if_pos ((it_le (by omega) (by omega) (by omega) (by omega)).mpr (by omega)), t2, it_add, if_pos ((it_le (by omega) (by omega) (by omega) (by omega)).mpr (by omega))]
        exact c16
      · rw [i1o b (by have := hs.1; omega) (by have := hs.1; omega)]; exact (hR.2.1 b hs.1).1
      · unfold f_18
        simp only [it_lit]
        rw [s_19i z1 z2 (by omega) (by omega) (by omega) (by omega)]
        simp only [cI_e, gO_e (yt46 H)]
        rw [if_pos (by rw [bi_t (by omega)]; decide), i1o (B + 46) (by omega) (by omega), t3, it_add, if_pos ((it_le (by omega) (by omega) (by omega) (by omega)).mpr (by omega))]
        exact c18
      · obtain ⟨_, ol, ky, sz, co, fd, fl, tp, sh, pm⟩ := hR
        refine ⟨H, fun a ha => ?_, ky, ⟨sz.1, by have := sz.2.1; omega, by have := sz.2.2; omega⟩, fun i hi => ?_, fun k hk => ?_, ?_, ?_, fun s hs => ?_, ?_⟩
        · rw [fo a (by omega) (by omega) (by omega) (by omega)]; exact ol a ha
        · rw [fo _ (by omega) (by omega) (by omega) (by omega)]; exact co i hi
        · rw [fo _ (by omega) (by omega) (by omega) (by omega), fo _ (by omega) (by omega) (by omega) (by omega)]; exact fd k hk
        · unfold rFl
          rw [i2o B (by omega) (by omega), iB, i53, up1_n (by omega), up1_n (by omega), up1_n (by omega), up1_n (by omega)]; exact fl
        · refine ⟨t + zn, hf, by rw [i2o B (by omega) (by omega), iB, up1_s], by rw [i53, up1_s], fun i hi => ?_⟩
          rw [i2o _ (by omega) (by omega), i1, i55]
          by_cases h : t ≤ i ∧ i < t + zn
          · obtain ⟨v, v1, v2⟩ := and255 ((((a1.toUInt64 >>> ((it (8 * ((i - t : Nat) : Int))).toInt64.toUInt64 &&& Int64.toUInt64 63)).toInt64).toInt32))
            rw [if_pos h, if_pos h]
            exact ⟨v, v1, v2, v2⟩
          · rw [if_neg h, if_neg h]
            exact t4 i (by omega)
        · rw [fo (B + 38 + 2 * s) (by omega) (by omega) (by omega) (by omega), fo (B + 39 + 2 * s) (by omega) (by omega) (by omega) (by omega), fo (B + 71) (by omega) (by omega) (by omega) (by omega), fo (B + 72) (by omega) (by omega) (by omega) (by omega), fo (B + 73) (by omega) (by omega) (by omega) (by omega)]
          exact sh s hs
        · exact rPM_fr pm (fun a h1 h2 => fo a (by omega) (by omega) (by omega) (by omega)) (fun a h1 h2 => fo a (by omega) (by omega) (by omega) (by omega)) (by rw [i2o B (by omega) (by omega), iB, up1_n (by omega)]) (by rw [i53, up1_n (by omega)]) (by rw [i53, up1_n (by omega)]) (by rw [i53, up1_n (by omega)]) (by rw [i53, up1_n (by omega)])
    · refine pr_fd hs hR 5 (by omega) (by omega) (cl_16 (k := 0) ?_) (fun I' hI => cl_18 (k := 0) ?_)
      · unfold f_16
        simp only [it_lit, gO_e (yt H)]
        rw [if_neg (fun q => by have := (it_lt (by omega) (by omega) (by omega) (by omega)).mp q; omega), if_pos ((it_le (by omega) (by omega) (by omega) (by omega)).mpr (by omega)), t2, it_add, if_neg (fun q => by have := (it_le (by omega) (by omega) (by omega) (by omega)).mp q; omega), s_17 H (by omega) (by omega)]
        rfl
      · unfold f_18
        simp only [it_lit]
        rw [s_19i z1 z2 (by omega) (by omega) (by omega) (by omega)]
        simp only [cI_e, gO_e (yt46 H)]
        rw [if_pos (by rw [bi_t (by omega)]; decide), hI (B + 46) (by omega), t3, it_add, if_neg (fun q => by have := (it_le (by omega) (by omega) (by omega) (by omega)).mp q; omega), s_20 H (by omega) (by omega)]
        rfl
  · refine pr_fd hs hR 1 (by omega) (by omega) (cl_16 (k := 0) ?_) (fun I' hI => cl_18 (k := 0) ?_)
    · unfold f_16 f_16_11
      simp only [it_lit, gO_e (yt H)]
      rw [s_17 H (by omega) (by omega)]
      by_cases h0 : z < 1
      · rw [if_pos ((it_lt (by omega) (by omega) (by omega) (by omega)).mpr (by omega))]; rfl
      · rw [if_neg (fun q => by have := (it_lt (by omega) (by omega) (by omega) (by omega)).mp q; omega), if_neg (fun q => by have := (it_le (by omega) (by omega) (by omega) (by omega)).mp q; omega)]; rfl
    · unfold f_18
      simp only [it_lit]
      rw [s_19i z1 z2 (by omega) (by omega) (by omega) (by omega)]
      simp only [cI_e, gO_e (yt46 H)]
      rw [if_neg (by rw [bi_f hz]; decide), s_20 H (by omega) (by omega)]
      rfl
end PRF

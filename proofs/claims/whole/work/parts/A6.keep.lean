/-! a step is kept -/
theorem and31s : ∀ s : Fin 32, (it (s.val : Int) + it 1) &&& it 31 = it (((s.val + 1) % 32 : Nat) : Int) := by decide +kernel
theorem and31b : ∀ s : Fin 32, (it (s.val : Int) + it 32 - it 1) &&& it 31 = it (((s.val + 31) % 32 : Nat) : Int) := by decide +kernel
section KEEP
variable {K : Nat → Value} {B d s m a N F hi pr j f p b : Nat} {fa : Nat → Nat → Nat} {oc ar : Nat → Nat} {sh : Nat → List Nat} {rc : Nat → Bool} {w : aW} {I I' : aI} {J : aJ} {c n : Nat → Int32}
theorem s_175 {kp sl : Nat} (H : Lay B w) (h7 : I (B + 29) 7 = it sl) (s32 : sl < 32) (h8 : I (B + 29) 8 = it kp) (k30 : kp ≤ 30) : Cl K (d + 1) 175 [.ref (B + 29)] w I J = some (none, w, sm_up2 (sm_up2 I (B + 29) 7 (it ((sl + 1) % 32 : Nat))) (B + 29) 8 (it ((if kp = 30 then 30 else kp + 1 : Nat) : Int)), J) := by
  apply cl_175 (k := 0)
  unfold f_175
  simp only [it_lit, gO_e (yt29 H), lt_, h7]
  rw [and31s ⟨sl, s32⟩, up2_r, up1_n (by omega), h8, it_add]
  by_cases e : kp = 30
  · subst e
    rw [if_pos (by decide), if_pos rfl]
    rfl
  · rw [if_neg (fun q => by have := (it_lt (by omega) (by omega) (by omega) (by omega)).mp q; omega), if_neg e]
    rfl
theorem s_196 {kp : Nat} (H : Lay B w) (h41 : I (B + 46) 41 = it kp) (k30 : kp ≤ 30) : ∃ I2 : aI, Cl K (d + 2) 196 [.ref (B + 46)] w I J = some (none, w, I2, J) ∧ I2 (B + 46) = sm_up1 (I (B + 46)) 41 (it ((if kp = 30 then 30 else kp + 1 : Nat) : Int)) ∧ (∀ b, ¬ b = B + 46 → ¬ b = B + 67 → ¬ b = B + 68 → I2 b = I b)
    ∧ (∀ i, i < 360 → I2 (B + 67) (360 * (if kp = 30 then 29 else kp) + i) = I (B + 66) i) ∧ (∀ i, i < 4 → I2 (B + 68) (4 * (if kp = 30 then 29 else kp) + i) = I (B + 69) i)
    ∧ (∀ i, i < 360 * (if kp = 30 then 29 else kp) → I2 (B + 67) i = if kp = 30 then I (B + 67) (360 + i) else I (B + 67) i) ∧ (∀ i, i < 4 * (if kp = 30 then 29 else kp) → I2 (B + 68) i = if kp = 30 then I (B + 68) (4 + i) else I (B + 68) i) := by
  have c360 : it (kp : Int) * it 360 = it ((360 * kp : Nat) : Int) := by rw [it_mul]; congr 1; omega
  have c4 : it (kp : Int) * it 4 = it ((4 * kp : Nat) : Int) := by rw [it_mul]; congr 1; omega
  -- the part behind
  have tail : ∀ (q : Nat) (I : aI), q < 30 → I (B + 46) 41 = it q → f_196_52 K 0 (d + 1) (B + 46) w I J = some (none, w, sm_up2 (sm_up1 (sm_up1 I (B + 67) (cpr (I (B + 66)) (I (B + 67)) 0 (360 * q) 360)) (B + 68) (cpr (I (B + 69)) (I (B + 68)) 0 (4 * q) 4)) (B + 46) 41 (it (q + 1)), J) := by
    intro q I hq h41
    have c360 : it (q : Int) * it 360 = it ((360 * q : Nat) : Int) := by rw [it_mul]; congr 1; omega
    have c4 : it (q : Int) * it 4 = it ((4 * q : Nat) : Int) := by rw [it_mul]; congr 1; omega
    unfold f_196_52
    simp only [it_lit, gO_e (yt46 H), gV_e (yp46_37 H), gV_e (yp46_38 H), gV_e (yp46_39 H), gV_e (yp46_40 H), h41]
    have e0 : it 0 = it ((0 : Nat) : Int) := rfl
    have e360 : it 360 = it ((360 : Nat) : Int) := rfl
    have e4 : it 4 = it ((4 : Nat) : Int) := rfl
    rw [c360, e0, e360, s_177 (fr := 0) (tz := 360 * q) (len := 360) (yt66 H) (yt67 H) (by omega) (by omega) (by omega) (by omega) (fun e => by omega)]
    simp only [cV_e, gO_e (yt46 H), gV_e (yp46_37 H), gV_e (yp46_38 H), gV_e (yp46_39 H), gV_e (yp46_40 H)]
    rw [up1_n (k := B + 67) (j := B + 46) (by omega), h41, c4, e4, s_177 (fr := 0) (tz := 4 * q) (len := 4) (yt69 H) (yt68 H) (by omega) (by omega) (by omega) (by omega) (fun e => by omega)]
    simp only [cV_e, lt_, gO_e (yt46 H), gV_e (yp46_37 H), gV_e (yp46_38 H), gV_e (yp46_39 H), gV_e (yp46_40 H)]
    rw [up1_n (k := B + 67) (j := B + 69) (by omega), up1_n (k := B + 67) (j := B + 68) (by omega), up1_n (k := B + 68) (j := B + 46) (by omega), up1_n (k := B + 67) (j := B + 46) (by omega), h41, it_add]
  by_cases e30 : kp = 30
  · subst e30
    refine ⟨_, cl_196 (k := 0) (show f_196 K 0 (d + 1) (B + 46) w I J = some (none, w, ?_, J) from ?_), ?_⟩
    · exact sm_up2 (sm_up1 (sm_up1 (sm_up2 (sm_up1 (sm_up1 I (B + 67) (cpr (I (B + 67)) (I (B + 67)) 360 0 10440)) (B + 68) (cpr (I (B + 68)) (I (B + 68)) 4 0 116)) (B + 46) 41 (it 29)) (B + 67) (cpr (I (B + 66)) (cpr (I (B + 67)) (I (B + 67)) 360 0 10440) 0 (360 * 29) 360)) (B + 68) (cpr (I (B + 69)) (cpr (I (B + 68)) (I (B + 68)) 4 0 116) 0 (4 * 29) 4)) (B + 46) 41 (it (29 + 1))
    · unfold f_196
      simp only [it_lit, gO_e (yt46 H), gV_e (yp46_37 H), gV_e (yp46_38 H), gV_e (yp46_39 H), gV_e (yp46_40 H), h41]
      rw [if_neg (fun q => q rfl)]
      have e0 : it 0 = it ((0 : Nat) : Int) := rfl
      have e360 : it 360 = it ((360 : Nat) : Int) := rfl
      have e4 : it 4 = it ((4 : Nat) : Int) := rfl
      have e104 : it 10440 = it ((10440 : Nat) : Int) := rfl
      have e116 : it 116 = it ((116 : Nat) : Int) := rfl
      rw [e0, e360, e104, s_177 (fr := 360) (tz := 0) (len := 10440) (yt67 H) (yt67 H) (by omega) (by omega) (by omega) (by omega) (fun e => by omega)]
      simp only [cV_e, gO_e (yt46 H), gV_e (yp46_37 H), gV_e (yp46_38 H), gV_e (yp46_39 H), gV_e (yp46_40 H)]
      rw [e4, e116, s_177 (fr := 4) (tz := 0) (len := 116) (yt68 H) (yt68 H) (by omega) (by omega) (by omega) (by omega) (fun e => by omega)]
      simp only [cV_e, lt_, gO_e (yt46 H), gV_e (yp46_37 H), gV_e (yp46_38 H), gV_e (yp46_39 H), gV_e (yp46_40 H)]
      rw [up1_n (k := B + 68) (j := B + 46) (by omega), up1_n (k := B + 67) (j := B + 46) (by omega), h41, up1_n (k := B + 67) (j := B + 68) (by omega)]
      have e29 : it ((30 : Nat) : Int) - it 1 = it ((29 : Nat) : Int) := by decide
      rw [e29, tail 29 _ (by omega) (by rw [up2_r, up1_s])]
      have r73 : ∀ x : Int32, sm_up2 (sm_up1 (sm_up1 I (B + 67) (cpr (I (B + 67)) (I (B + 67)) 360 0 10440)) (B + 68) (cpr (I (B + 68)) (I (B + 68)) 4 0 116)) (B + 46) 41 x (B + 66) = I (B + 66) := fun x => by rw [up2_n (by omega), up1_n (by omega), up1_n (by omega)]
      have r76 : ∀ x : Int32, sm_up2 (sm_up1 (sm_up1 I (B + 67) (cpr (I (B + 67)) (I (B + 67)) 360 0 10440)) (B + 68) (cpr (I (B + 68)) (I (B + 68)) 4 0 116)) (B + 46) 41 x (B + 69) = I (B + 69) := fun x => by rw [up2_n (by omega), up1_n (by omega), up1_n (by omega)]
      have r74 : ∀ x : Int32, sm_up2 (sm_up1 (sm_up1 I (B + 67) (cpr (I (B + 67)) (I (B + 67)) 360 0 10440)) (B + 68) (cpr (I (B + 68)) (I (B + 68)) 4 0 116)) (B + 46) 41 x (B + 67) = cpr (I (B + 67)) (I (B + 67)) 360 0 10440 := fun x => by rw [up2_n (by omega), up1_n (by omega), up1_s]
      have r75 : ∀ x : Int32, sm_up2 (sm_up1 (sm_up1 I (B + 67) (cpr (I (B + 67)) (I (B + 67)) 360 0 10440)) (B + 68) (cpr (I (B + 68)) (I (B + 68)) 4 0 116)) (B + 46) 41 x (B + 68) = cpr (I (B + 68)) (I (B + 68)) 4 0 116 := fun x => by rw [up2_n (by omega), up1_s]
      rw [r73, r74, r75, r76]
      rfl
    · simp only [if_true, eq_self]
      refine ⟨?_, fun b b1 b2 b3 => ?_, fun i hi => ?_, fun i hi => ?_, fun i hi => ?_, fun i hi => ?_⟩
      · rw [up2_r, up1_n (k := B + 68) (by omega), up1_n (k := B + 67) (by omega), up2_r, up1_n (k := B + 68) (by omega), up1_n (k := B + 67) (by omega), up1_up1]
        rfl
      · rw [up2_n b1, up1_n b3, up1_n b2, up2_n b1, up1_n b3, up1_n b2]
      · rw [up2_n (by omega), up1_n (by omega), up1_s]
        unfold cpr
        rw [if_pos (by omega), show 0 + (360 * 29 + i - 360 * 29) = i by omega]
      · rw [up2_n (by omega), up1_s]
        unfold cpr
        rw [if_pos (by omega), show 0 + (4 * 29 + i - 4 * 29) = i by omega]
      · rw [up2_n (by omega), up1_n (by omega), up1_s]
        unfold cpr
        rw [if_neg (by omega), if_pos (by omega), show 360 + (i - 0) = 360 + i by omega]
      · rw [up2_n (by omega), up1_s]
        unfold cpr
        rw [if_neg (by omega), if_pos (by omega), show 4 + (i - 0) = 4 + i by omega]
  · refine ⟨_, cl_196 (k := 0) (show f_196 K 0 (d + 1) (B + 46) w I J = some (none, w, ?_, J) from ?_), ?_⟩
    · exact sm_up2 (sm_up1 (sm_up1 I (B + 67) (cpr (I (B + 66)) (I (B + 67)) 0 (360 * kp) 360)) (B + 68) (cpr (I (B + 69)) (I (B + 68)) 0 (4 * kp) 4)) (B + 46) 41 (it (kp + 1))
    · unfold f_196
      simp only [it_lit, gO_e (yt46 H), h41]
      rw [if_pos (fun q => by have := (it_eq (by omega) (by omega) (by omega) (by omega)).mp q; omega), tail kp I (by omega) h41]
    · simp only [if_neg e30]
      refine ⟨?_, fun b b1 b2 b3 => ?_, fun i hi => ?_, fun i hi => ?_, fun i hi => ?_, fun i hi => ?_⟩
      · rw [up2_r, up1_n (k := B + 68) (by omega), up1_n (k := B + 67) (by omega)]
        rfl
      · rw [up2_n b1, up1_n b3, up1_n b2]
      · rw [up2_n (by omega), up1_n (by omega), up1_s]
        unfold cpr
        rw [if_pos (by omega), show 0 + (360 * kp + i - 360 * kp) = i by omega]
      · rw [up2_n (by omega), up1_s]
        unfold cpr
        rw [if_pos (by omega), show 0 + (4 * kp + i - 4 * kp) = i by omega]
      · rw [up2_n (by omega), up1_n (by omega), up1_s]
        unfold cpr
        rw [if_neg (by omega)]
      · rw [up2_n (by omega), up1_s]
        unfold cpr
        rw [if_neg (by omega)]
end KEEP

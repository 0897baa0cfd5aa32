/-! pairs of writes keep the relation of the two machines -/
section EREL
variable {fa : Nat → Nat → Nat} {c n : Nat → Int32} {v : Int32}
theorem e_0 (R : mRel fa c n) : mRel fa (sm_up1 c (0) v) (sm_up1 n (0) v) := by
  obtain ⟨r0, r1, r2, r3, r4, r5, r6, r7, r8, r9, r10⟩ := R
  refine ⟨?_, ?_, ?_, ?_, ?_, ?_, ?_, fun i hi => ⟨?_, ?_⟩, fun i hi => ?_, fun j hj => ?_, fun o o1 o2 => ?_⟩
  · rw [up1_s, up1_s]
  · rw [up1_n (by omega), up1_n (by omega)]; exact r1
  · rw [up1_n (by omega), up1_n (by omega)]; exact r2
  · rw [up1_n (by omega), up1_n (by omega)]; exact r3
  · rw [up1_n (by omega), up1_n (by omega)]; exact r4
  · rw [up1_n (by omega), up1_n (by omega)]; exact r5
  · rw [up1_n (by omega), up1_n (by omega)]; exact r6
  · rw [up1_n (by omega), up1_n (by omega)]; exact (r7 i hi).1
  · rw [up1_n (by omega), up1_n (by omega)]; exact (r7 i hi).2
  · rw [up1_n (by omega), up1_n (by omega)]; exact r8 i hi
  · rw [up1_n (j := 1) (by omega)] at hj ⊢
    obtain ⟨s1, s2, s3⟩ := r9 j hj
    refine ⟨by rw [up1_n (by omega), up1_n (by omega)]; exact s1, by rw [up1_n (by omega), up1_n (by omega)]; exact s2, fun f w hf f5 hw w6 => ?_⟩
    rw [up1_n (by omega)] at hf
    rw [up1_n (by omega), up1_n (by omega)]
    exact s3 f w hf f5 hw w6
  · obtain ⟨s1, s2, s3⟩ := r10 o o1 o2
    rw [up1_n (j := 140 + 11 * o) (by omega), up1_n (j := 154 + 12 * o) (by omega)]
    refine ⟨s1, fun h => ?_, fun h => ?_⟩
    · rw [up1_n (j := 141 + 11 * o) (by omega), up1_n (j := 155 + 12 * o) (by omega)]
      refine ⟨(s2 h).1, fun i i1 i2 => ?_⟩
      rw [up1_n (by omega), up1_n (by omega)]
      exact (s2 h).2 i i1 i2
    · rw [up1_n (by omega), up1_n (by omega), up1_n (by omega), up1_n (by omega)]
      exact s3 h
theorem e_1 (R : mRel fa c n) : mRel fa (sm_up1 c (1) v) (sm_up1 n (4) v) := by
  obtain ⟨r0, r1, r2, r3, r4, r5, r6, r7, r8, r9, r10⟩ := R
  refine ⟨?_, ?_, ?_, ?_, ?_, ?_, ?_, fun i hi => ⟨?_, ?_⟩, fun i hi => ?_, fun j hj => ?_, fun o o1 o2 => ?_⟩
  · rw [up1_n (by omega), up1_n (by omega)]; exact r0
  · rw [up1_s, up1_s]
  · rw [up1_n (by omega), up1_n (by omega)]; exact r2
  · rw [up1_n (by omega), up1_n (by omega)]; exact r3
  · rw [up1_n (by omega), up1_n (by omega)]; exact r4
  · rw [up1_n (by omega), up1_n (by omega)]; exact r5
  · rw [up1_n (by omega), up1_n (by omega)]; exact r6
  · rw [up1_n (by omega), up1_n (by omega)]; exact (r7 i hi).1
  · rw [up1_n (by omega), up1_n (by omega)]; exact (r7 i hi).2
  · rw [up1_n (by omega), up1_n (by omega)]; exact r8 i hi
  · rw [up1_n (j := 1) (by omega)] at hj ⊢
    obtain ⟨s1, s2, s3⟩ := r9 j hj
    refine ⟨by rw [up1_n (by omega), up1_n (by omega)]; exact s1, by rw [up1_n (by omega), up1_n (by omega)]; exact s2, fun f w hf f5 hw w6 => ?_⟩
    rw [up1_n (by omega)] at hf
    rw [up1_n (by omega), up1_n (by omega)]
    exact s3 f w hf f5 hw w6
  · obtain ⟨s1, s2, s3⟩ := r10 o o1 o2
    rw [up1_n (j := 140 + 11 * o) (by omega), up1_n (j := 154 + 12 * o) (by omega)]
    refine ⟨s1, fun h => ?_, fun h => ?_⟩
    · rw [up1_n (j := 141 + 11 * o) (by omega), up1_n (j := 155 + 12 * o) (by omega)]
      refine ⟨(s2 h).1, fun i i1 i2 => ?_⟩
      rw [up1_n (by omega), up1_n (by omega)]
      exact (s2 h).2 i i1 i2
    · rw [up1_n (by omega), up1_n (by omega), up1_n (by omega), up1_n (by omega)]
      exact s3 h
theorem e_2 (R : mRel fa c n) : mRel fa (sm_up1 c (2) v) (sm_up1 n (5) v) := by
  obtain ⟨r0, r1, r2, r3, r4, r5, r6, r7, r8, r9, r10⟩ := R
  refine ⟨?_, ?_, ?_, ?_, ?_, ?_, ?_, fun i hi => ⟨?_, ?_⟩, fun i hi => ?_, fun j hj => ?_, fun o o1 o2 => ?_⟩
  · rw [up1_n (by omega), up1_n (by omega)]; exact r0
  · rw [up1_n (by omega), up1_n (by omega)]; exact r1
  · rw [up1_s, up1_s]
  · rw [up1_n (by omega), up1_n (by omega)]; exact r3
  · rw [up1_n (by omega), up1_n (by omega)]; exact r4
  · rw [up1_n (by omega), up1_n (by omega)]; exact r5
  · rw [up1_n (by omega), up1_n (by omega)]; exact r6
  · rw [up1_n (by omega), up1_n (by omega)]; exact (r7 i hi).1
  · rw [up1_n (by omega), up1_n (by omega)]; exact (r7 i hi).2
  · rw [up1_n (by omega), up1_n (by omega)]; exact r8 i hi
  · rw [up1_n (j := 1) (by omega)] at hj ⊢
    obtain ⟨s1, s2, s3⟩ := r9 j hj
    refine ⟨by rw [up1_n (by omega), up1_n (by omega)]; exact s1, by rw [up1_n (by omega), up1_n (by omega)]; exact s2, fun f w hf f5 hw w6 => ?_⟩
    rw [up1_n (by omega)] at hf
    rw [up1_n (by omega), up1_n (by omega)]
    exact s3 f w hf f5 hw w6
  · obtain ⟨s1, s2, s3⟩ := r10 o o1 o2
    rw [up1_n (j := 140 + 11 * o) (by omega), up1_n (j := 154 + 12 * o) (by omega)]
    refine ⟨s1, fun h => ?_, fun h => ?_⟩
    · rw [up1_n (j := 141 + 11 * o) (by omega), up1_n (j := 155 + 12 * o) (by omega)]
      refine ⟨(s2 h).1, fun i i1 i2 => ?_⟩
      rw [up1_n (by omega), up1_n (by omega)]
      exact (s2 h).2 i i1 i2
    · rw [up1_n (by omega), up1_n (by omega), up1_n (by omega), up1_n (by omega)]
      exact s3 h
theorem e_3 (R : mRel fa c n) : mRel fa (sm_up1 c (3) v) (sm_up1 n (2) v) := by
  obtain ⟨r0, r1, r2, r3, r4, r5, r6, r7, r8, r9, r10⟩ := R
  refine ⟨?_, ?_, ?_, ?_, ?_, ?_, ?_, fun i hi => ⟨?_, ?_⟩, fun i hi => ?_, fun j hj => ?_, fun o o1 o2 => ?_⟩
  · rw [up1_n (by omega), up1_n (by omega)]; exact r0
  · rw [up1_n (by omega), up1_n (by omega)]; exact r1
  · rw [up1_n (by omega), up1_n (by omega)]; exact r2
  · rw [up1_s, up1_s]
  · rw [up1_n (by omega), up1_n (by omega)]; exact r4
  · rw [up1_n (by omega), up1_n (by omega)]; exact r5
  · rw [up1_n (by omega), up1_n (by omega)]; exact r6
  · rw [up1_n (by omega), up1_n (by omega)]; exact (r7 i hi).1
  · rw [up1_n (by omega), up1_n (by omega)]; exact (r7 i hi).2
  · rw [up1_n (by omega), up1_n (by omega)]; exact r8 i hi
  · rw [up1_n (j := 1) (by omega)] at hj ⊢
    obtain ⟨s1, s2, s3⟩ := r9 j hj
    refine ⟨by rw [up1_n (by omega), up1_n (by omega)]; exact s1, by rw [up1_n (by omega), up1_n (by omega)]; exact s2, fun f w hf f5 hw w6 => ?_⟩
    rw [up1_n (by omega)] at hf
    rw [up1_n (by omega), up1_n (by omega)]
    exact s3 f w hf f5 hw w6
  · obtain ⟨s1, s2, s3⟩ := r10 o o1 o2
    rw [up1_n (j := 140 + 11 * o) (by omega), up1_n (j := 154 + 12 * o) (by omega)]
    refine ⟨s1, fun h => ?_, fun h => ?_⟩
    · rw [up1_n (j := 141 + 11 * o) (by omega), up1_n (j := 155 + 12 * o) (by omega)]
      refine ⟨(s2 h).1, fun i i1 i2 => ?_⟩
      rw [up1_n (by omega), up1_n (by omega)]
      exact (s2 h).2 i i1 i2
    · rw [up1_n (by omega), up1_n (by omega), up1_n (by omega), up1_n (by omega)]
      exact s3 h
theorem e_5 (R : mRel fa c n) : mRel fa (sm_up1 c (5) v) (sm_up1 n (3) v) := by
  obtain ⟨r0, r1, r2, r3, r4, r5, r6, r7, r8, r9, r10⟩ := R
  refine ⟨?_, ?_, ?_, ?_, ?_, ?_, ?_, fun i hi => ⟨?_, ?_⟩, fun i hi => ?_, fun j hj => ?_, fun o o1 o2 => ?_⟩
  · rw [up1_n (by omega), up1_n (by omega)]; exact r0
  · rw [up1_n (by omega), up1_n (by omega)]; exact r1
  · rw [up1_n (by omega), up1_n (by omega)]; exact r2
  · rw [up1_n (by omega), up1_n (by omega)]; exact r3
  · rw [up1_n (by omega), up1_n (by omega)]; exact r4
  · rw [up1_s, up1_s]
  · rw [up1_n (by omega), up1_n (by omega)]; exact r6
  · rw [up1_n (by omega), up1_n (by omega)]; exact (r7 i hi).1
  · rw [up1_n (by omega), up1_n (by omega)]; exact (r7 i hi).2
  · rw [up1_n (by omega), up1_n (by omega)]; exact r8 i hi
  · rw [up1_n (j := 1) (by omega)] at hj ⊢
    obtain ⟨s1, s2, s3⟩ := r9 j hj
    refine ⟨by rw [up1_n (by omega), up1_n (by omega)]; exact s1, by rw [up1_n (by omega), up1_n (by omega)]; exact s2, fun f w hf f5 hw w6 => ?_⟩
    rw [up1_n (by omega)] at hf
    rw [up1_n (by omega), up1_n (by omega)]
    exact s3 f w hf f5 hw w6
  · obtain ⟨s1, s2, s3⟩ := r10 o o1 o2
    rw [up1_n (j := 140 + 11 * o) (by omega), up1_n (j := 154 + 12 * o) (by omega)]
    refine ⟨s1, fun h => ?_, fun h => ?_⟩
    · rw [up1_n (j := 141 + 11 * o) (by omega), up1_n (j := 155 + 12 * o) (by omega)]
      refine ⟨(s2 h).1, fun i i1 i2 => ?_⟩
      rw [up1_n (by omega), up1_n (by omega)]
      exact (s2 h).2 i i1 i2
    · rw [up1_n (by omega), up1_n (by omega), up1_n (by omega), up1_n (by omega)]
      exact s3 h
theorem e_6 (R : mRel fa c n) : mRel fa (sm_up1 c (6) v) (sm_up1 n (6) v) := by
  obtain ⟨r0, r1, r2, r3, r4, r5, r6, r7, r8, r9, r10⟩ := R
  refine ⟨?_, ?_, ?_, ?_, ?_, ?_, ?_, fun i hi => ⟨?_, ?_⟩, fun i hi => ?_, fun j hj => ?_, fun o o1 o2 => ?_⟩
  · rw [up1_n (by omega), up1_n (by omega)]; exact r0
  · rw [up1_n (by omega), up1_n (by omega)]; exact r1
  · rw [up1_n (by omega), up1_n (by omega)]; exact r2
  · rw [up1_n (by omega), up1_n (by omega)]; exact r3
  · rw [up1_n (by omega), up1_n (by omega)]; exact r4
  · rw [up1_n (by omega), up1_n (by omega)]; exact r5
  · rw [up1_s, up1_s]
  · rw [up1_n (by omega), up1_n (by omega)]; exact (r7 i hi).1
  · rw [up1_n (by omega), up1_n (by omega)]; exact (r7 i hi).2
  · rw [up1_n (by omega), up1_n (by omega)]; exact r8 i hi
  · rw [up1_n (j := 1) (by omega)] at hj ⊢
    obtain ⟨s1, s2, s3⟩ := r9 j hj
    refine ⟨by rw [up1_n (by omega), up1_n (by omega)]; exact s1, by rw [up1_n (by omega), up1_n (by omega)]; exact s2, fun f w hf f5 hw w6 => ?_⟩
    rw [up1_n (by omega)] at hf
    rw [up1_n (by omega), up1_n (by omega)]
    exact s3 f w hf f5 hw w6
  · obtain ⟨s1, s2, s3⟩ := r10 o o1 o2
    rw [up1_n (j := 140 + 11 * o) (by omega), up1_n (j := 154 + 12 * o) (by omega)]
    refine ⟨s1, fun h => ?_, fun h => ?_⟩
    · rw [up1_n (j := 141 + 11 * o) (by omega), up1_n (j := 155 + 12 * o) (by omega)]
      refine ⟨(s2 h).1, fun i i1 i2 => ?_⟩
      rw [up1_n (by omega), up1_n (by omega)]
      exact (s2 h).2 i i1 i2
    · rw [up1_n (by omega), up1_n (by omega), up1_n (by omega), up1_n (by omega)]
      exact s3 h
theorem e_v {q : Nat} (R : mRel fa c n) (hq : q < 30) (h8 : ∀ j : Nat, (j : Int) < (n 1).toInt → j < 8) : mRel fa (sm_up1 c (7 + q) v) (sm_up1 n (10 + q) v) := by
  obtain ⟨r0, r1, r2, r3, r4, r5, r6, r7, r8, r9, r10⟩ := R
  refine ⟨?_, ?_, ?_, ?_, ?_, ?_, ?_, fun i hi => ⟨?_, ?_⟩, fun i hi => ?_, fun j hj => ?_, fun o o1 o2 => ?_⟩
  · rw [up1_n (by omega), up1_n (by omega)]; exact r0
  · rw [up1_n (by omega), up1_n (by omega)]; exact r1
  · rw [up1_n (by omega), up1_n (by omega)]; exact r2
  · rw [up1_n (by omega), up1_n (by omega)]; exact r3
  · rw [up1_n (by omega), up1_n (by omega)]; exact r4
  · rw [up1_n (by omega), up1_n (by omega)]; exact r5
  · rw [up1_n (by omega), up1_n (by omega)]; exact r6
  · by_cases e : i = q
    · subst e; rw [up1_s, up1_s]
    · rw [up1_n (by omega), up1_n (by omega)]; exact (r7 i hi).1
  · rw [up1_n (by omega), up1_n (by omega)]; exact (r7 i hi).2
  · rw [up1_n (by omega), up1_n (by omega)]; exact r8 i hi
  · rw [up1_n (j := 1) (by omega)] at hj ⊢
    obtain ⟨s1, s2, s3⟩ := r9 j hj
    have j8 := h8 j hj
    refine ⟨by rw [up1_n (by omega), up1_n (by omega)]; exact s1, by rw [up1_n (by omega), up1_n (by omega)]; exact s2, fun f w hf f5 hw w6 => ?_⟩
    rw [up1_n (by omega)] at hf
    rw [up1_n (by omega), up1_n (by omega)]
    exact s3 f w hf f5 hw w6
  · obtain ⟨s1, s2, s3⟩ := r10 o o1 o2
    rw [up1_n (j := 140 + 11 * o) (by omega), up1_n (j := 154 + 12 * o) (by omega)]
    refine ⟨s1, fun h => ?_, fun h => ?_⟩
    · rw [up1_n (j := 141 + 11 * o) (by omega), up1_n (j := 155 + 12 * o) (by omega)]
      refine ⟨(s2 h).1, fun i i1 i2 => ?_⟩
      rw [up1_n (by omega), up1_n (by omega)]
      exact (s2 h).2 i i1 i2
    · rw [up1_n (by omega), up1_n (by omega), up1_n (by omega), up1_n (by omega)]
      exact s3 h
theorem e_t {q : Nat} (R : mRel fa c n) (hq : q < 30) (h8 : ∀ j : Nat, (j : Int) < (n 1).toInt → j < 8) : mRel fa (sm_up1 c (37 + q) v) (sm_up1 n (40 + q) v) := by
  obtain ⟨r0, r1, r2, r3, r4, r5, r6, r7, r8, r9, r10⟩ := R
  refine ⟨?_, ?_, ?_, ?_, ?_, ?_, ?_, fun i hi => ⟨?_, ?_⟩, fun i hi => ?_, fun j hj => ?_, fun o o1 o2 => ?_⟩
  · rw [up1_n (by omega), up1_n (by omega)]; exact r0
  · rw [up1_n (by omega), up1_n (by omega)]; exact r1
  · rw [up1_n (by omega), up1_n (by omega)]; exact r2
  · rw [up1_n (by omega), up1_n (by omega)]; exact r3
  · rw [up1_n (by omega), up1_n (by omega)]; exact r4
  · rw [up1_n (by omega), up1_n (by omega)]; exact r5
  · rw [up1_n (by omega), up1_n (by omega)]; exact r6
  · rw [up1_n (by omega), up1_n (by omega)]; exact (r7 i hi).1
  · by_cases e : i = q
    · subst e; rw [up1_s, up1_s]
    · rw [up1_n (by omega), up1_n (by omega)]; exact (r7 i hi).2
  · rw [up1_n (by omega), up1_n (by omega)]; exact r8 i hi
  · rw [up1_n (j := 1) (by omega)] at hj ⊢
    obtain ⟨s1, s2, s3⟩ := r9 j hj
    have j8 := h8 j hj
    refine ⟨by rw [up1_n (by omega), up1_n (by omega)]; exact s1, by rw [up1_n (by omega), up1_n (by omega)]; exact s2, fun f w hf f5 hw w6 => ?_⟩
    rw [up1_n (by omega)] at hf
    rw [up1_n (by omega), up1_n (by omega)]
    exact s3 f w hf f5 hw w6
  · obtain ⟨s1, s2, s3⟩ := r10 o o1 o2
    rw [up1_n (j := 140 + 11 * o) (by omega), up1_n (j := 154 + 12 * o) (by omega)]
    refine ⟨s1, fun h => ?_, fun h => ?_⟩
    · rw [up1_n (j := 141 + 11 * o) (by omega), up1_n (j := 155 + 12 * o) (by omega)]
      refine ⟨(s2 h).1, fun i i1 i2 => ?_⟩
      rw [up1_n (by omega), up1_n (by omega)]
      exact (s2 h).2 i i1 i2
    · rw [up1_n (by omega), up1_n (by omega), up1_n (by omega), up1_n (by omega)]
      exact s3 h
theorem e_p {q : Nat} (R : mRel fa c n) (hq : q < 20) (h8 : ∀ j : Nat, (j : Int) < (n 1).toInt → j < 8) : mRel fa (sm_up1 c (67 + q) v) (sm_up1 n (134 + q) v) := by
  obtain ⟨r0, r1, r2, r3, r4, r5, r6, r7, r8, r9, r10⟩ := R
  refine ⟨?_, ?_, ?_, ?_, ?_, ?_, ?_, fun i hi => ⟨?_, ?_⟩, fun i hi => ?_, fun j hj => ?_, fun o o1 o2 => ?_⟩
  · rw [up1_n (by omega), up1_n (by omega)]; exact r0
  · rw [up1_n (by omega), up1_n (by omega)]; exact r1
  · rw [up1_n (by omega), up1_n (by omega)]; exact r2
  · rw [up1_n (by omega), up1_n (by omega)]; exact r3
  · rw [up1_n (by omega), up1_n (by omega)]; exact r4
  · rw [up1_n (by omega), up1_n (by omega)]; exact r5
  · rw [up1_n (by omega), up1_n (by omega)]; exact r6
  · rw [up1_n (by omega), up1_n (by omega)]; exact (r7 i hi).1
  · rw [up1_n (by omega), up1_n (by omega)]; exact (r7 i hi).2
  · by_cases e : i = q
    · subst e; rw [up1_s, up1_s]
    · rw [up1_n (by omega), up1_n (by omega)]; exact r8 i hi
  · rw [up1_n (j := 1) (by omega)] at hj ⊢
    obtain ⟨s1, s2, s3⟩ := r9 j hj
    have j8 := h8 j hj
    refine ⟨by rw [up1_n (by omega), up1_n (by omega)]; exact s1, by rw [up1_n (by omega), up1_n (by omega)]; exact s2, fun f w hf f5 hw w6 => ?_⟩
    rw [up1_n (by omega)] at hf
    rw [up1_n (by omega), up1_n (by omega)]
    exact s3 f w hf f5 hw w6
  · obtain ⟨s1, s2, s3⟩ := r10 o o1 o2
    rw [up1_n (j := 140 + 11 * o) (by omega), up1_n (j := 154 + 12 * o) (by omega)]
    refine ⟨s1, fun h => ?_, fun h => ?_⟩
    · rw [up1_n (j := 141 + 11 * o) (by omega), up1_n (j := 155 + 12 * o) (by omega)]
      refine ⟨(s2 h).1, fun i i1 i2 => ?_⟩
      rw [up1_n (by omega), up1_n (by omega)]
      exact (s2 h).2 i i1 i2
    · rw [up1_n (by omega), up1_n (by omega), up1_n (by omega), up1_n (by omega)]
      exact s3 h
theorem e_pl {t : Nat} (R : mRel fa c n) (ht : n 1 = it (t + 1)) (t8 : t < 8) : mRel fa (sm_up1 c (88 + 8 * t) v) (sm_up1 n (71 + 8 * t) v) := by
  obtain ⟨r0, r1, r2, r3, r4, r5, r6, r7, r8, r9, r10⟩ := R
  refine ⟨?_, ?_, ?_, ?_, ?_, ?_, ?_, fun i hi => ⟨?_, ?_⟩, fun i hi => ?_, fun j hj => ?_, fun o o1 o2 => ?_⟩
  · rw [up1_n (by omega), up1_n (by omega)]; exact r0
  · rw [up1_n (by omega), up1_n (by omega)]; exact r1
  · rw [up1_n (by omega), up1_n (by omega)]; exact r2
  · rw [up1_n (by omega), up1_n (by omega)]; exact r3
  · rw [up1_n (by omega), up1_n (by omega)]; exact r4
  · rw [up1_n (by omega), up1_n (by omega)]; exact r5
  · rw [up1_n (by omega), up1_n (by omega)]; exact r6
  · rw [up1_n (by omega), up1_n (by omega)]; exact (r7 i hi).1
  · rw [up1_n (by omega), up1_n (by omega)]; exact (r7 i hi).2
  · rw [up1_n (by omega), up1_n (by omega)]; exact r8 i hi
  · rw [up1_n (j := 1) (by omega)] at hj ⊢
    obtain ⟨s1, s2, s3⟩ := r9 j hj
    rw [ht, it_toInt (by omega) (by omega)] at hj s2 ⊢
    refine ⟨by rw [up1_n (by omega), up1_n (by omega)]; exact s1, ?_, fun f w hf f5 hw w6 => ?_⟩
    · by_cases e : j = t
      · subst e
        rw [up1_s, if_pos rfl, up1_s]
      · rw [up1_n (by omega), up1_n (by omega)]; exact s2
    · rw [up1_n (by omega)] at hf
      rw [up1_n (by omega), up1_n (by omega)]
      exact s3 f w hf f5 hw w6
  · obtain ⟨s1, s2, s3⟩ := r10 o o1 o2
    rw [up1_n (j := 140 + 11 * o) (by omega), up1_n (j := 154 + 12 * o) (by omega)]
    refine ⟨s1, fun h => ?_, fun h => ?_⟩
    · rw [up1_n (j := 141 + 11 * o) (by omega), up1_n (j := 155 + 12 * o) (by omega)]
      refine ⟨(s2 h).1, fun i i1 i2 => ?_⟩
      rw [up1_n (by omega), up1_n (by omega)]
      exact (s2 h).2 i i1 i2
    · rw [up1_n (by omega), up1_n (by omega), up1_n (by omega), up1_n (by omega)]
      exact s3 h
theorem e_va {t q : Nat} (R : mRel fa c n) (t8 : t < 8) (q6 : q < 6) (h8 : ∀ j : Nat, (j : Int) < (n 1).toInt → j < 8) : mRel fa (sm_up1 c (89 + 8 * t + q) v) (sm_up1 n (72 + 8 * t + q) v) := by
  obtain ⟨r0, r1, r2, r3, r4, r5, r6, r7, r8, r9, r10⟩ := R
  refine ⟨?_, ?_, ?_, ?_, ?_, ?_, ?_, fun i hi => ⟨?_, ?_⟩, fun i hi => ?_, fun j hj => ?_, fun o o1 o2 => ?_⟩
  · rw [up1_n (by omega), up1_n (by omega)]; exact r0
  · rw [up1_n (by omega), up1_n (by omega)]; exact r1
  · rw [up1_n (by omega), up1_n (by omega)]; exact r2
  · rw [up1_n (by omega), up1_n (by omega)]; exact r3
  · rw [up1_n (by omega), up1_n (by omega)]; exact r4
  · rw [up1_n (by omega), up1_n (by omega)]; exact r5
  · rw [up1_n (by omega), up1_n (by omega)]; exact r6
  · rw [up1_n (by omega), up1_n (by omega)]; exact (r7 i hi).1
  · rw [up1_n (by omega), up1_n (by omega)]; exact (r7 i hi).2
  · rw [up1_n (by omega), up1_n (by omega)]; exact r8 i hi
  · rw [up1_n (j := 1) (by omega)] at hj ⊢
    obtain ⟨s1, s2, s3⟩ := r9 j hj
    have j8 := h8 j hj
    refine ⟨by rw [up1_n (by omega), up1_n (by omega)]; exact s1, by rw [up1_n (by omega), up1_n (by omega)]; exact s2, fun f w hf f5 hw w6 => ?_⟩
    rw [up1_n (by omega)] at hf
    by_cases e : 89 + 8 * j + w = 89 + 8 * t + q
    · have e' : 72 + 8 * j + w = 72 + 8 * t + q := by omega
      rw [e, e', up1_s, up1_s]
    · rw [up1_n e, up1_n (by omega)]
      exact s3 f w hf f5 hw w6
  · obtain ⟨s1, s2, s3⟩ := r10 o o1 o2
    rw [up1_n (j := 140 + 11 * o) (by omega), up1_n (j := 154 + 12 * o) (by omega)]
    refine ⟨s1, fun h => ?_, fun h => ?_⟩
    · rw [up1_n (j := 141 + 11 * o) (by omega), up1_n (j := 155 + 12 * o) (by omega)]
      refine ⟨(s2 h).1, fun i i1 i2 => ?_⟩
      rw [up1_n (by omega), up1_n (by omega)]
      exact (s2 h).2 i i1 i2
    · rw [up1_n (by omega), up1_n (by omega), up1_n (by omega), up1_n (by omega)]
      exact s3 h
end EREL

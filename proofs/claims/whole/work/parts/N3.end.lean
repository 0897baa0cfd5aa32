/-! after both constructors; the law; the claim's pure part -/
theorem ly_T : ∀ e ∈ layT, e.1 < 75 ∧ layT.lookup e.1 = some e.2 := by decide +kernel
theorem ly_P : ∀ e ∈ layP, e ∈ lpW.take 74 := by decide +kernel
theorem ly_W : ∀ i, i < 20 → vv5 7 i = it ([6830, 294, 176741, 24388997, 609900110, 17376724, 9684, 81388, 18935, 403060, 674469, 6337125, 474565, 14836, 1476, 498, 14519, 632645, 267300, 656684].getD i 0) := by decide +kernel
section PURE
variable {K : Nat → Value} {B d b L : Nat} {w0 : aW} {I0 : aI} {xs : Nat → Int32}
theorem rR_0 {w : aW} {I : aI} {J : aJ} (h : CBd K lpW B w0 I0 75 74 20 vv5 33080 w I J) : rR K B w0 I0 0 w I J := by
  obtain ⟨h1, h2, h3, h4, h5, h6, h7, h8⟩ := h
  have z0 : (0 : Int32) = it 0 := by decide
  have hz : ∀ i k, i < 75 → vv5 i k = it 0 → I (B + i) k = it 0 := fun i k hi e => (h6 i k hi).trans e
  have hB : ∀ k, vv5 0 k = it 0 → I B k = it 0 := fun k e => (h6 0 k (by omega)).trans e
  refine ⟨⟨fun e he => ?_, fun e he => ?_⟩, h8, fun i hi => h5 i hi, ⟨by omega, by omega, by omega⟩, fun i hi => (h6 7 i (by omega)).trans (ly_W i hi), fun k hk => ?_, ⟨?_, ?_⟩, ⟨0, by omega, ?_, ?_, fun i hi => absurd hi (by omega)⟩, fun s hs => ?_, ?_⟩
  · exact (h3 e.1 (ly_T e he).1).trans (ly_T e he).2
  · exact (h4 e (ly_P e he)).2
  · rw [hz 37 k (by omega) (by rw [← z0]; rfl), hz 47 k (by omega) (by rw [← z0]; rfl)]
  · rw [hB 8 (by decide +kernel), hz 46 3 (by omega) (by decide +kernel)]
  · have e1 : I B 9 = vv5 0 9 := h6 0 9 (by omega)
    have e2 : I (B + 46) 4 = vv5 46 4 := h6 46 4 (by omega)
    rw [e1, e2]
    decide +kernel
  · exact hB 1 (by decide +kernel)
  · exact hz 46 2 (by omega) (by decide +kernel)
  · have hsh : ∀ i, i < 4 → (vv5 (38 + 2 * i) 1 = it 0 ∧ vv5 (38 + 2 * i) 2 = it 0) := by decide +kernel
    refine ⟨0, 0, Or.inl rfl, by omega, fun _ => rfl, ?_, ?_, ?_, ?_, fun q => absurd q (by omega)⟩
    · rw [Nat.add_assoc]
      exact hz (38 + 2 * s) 1 (by omega) (hsh s hs).1
    · rw [Nat.add_assoc]
      exact hz (38 + 2 * s) 2 (by omega) (hsh s hs).2
    · exact hz 71 s (by omega) (by rw [← z0]; rfl)
    · exact hz 72 s (by omega) (by rw [← z0]; rfl)
  · refine ⟨(0, 0, fun _ _ => 0, fun _ => 0, fun _ => 0, fun _ => [], fun _ => false), B + 22, B + 8, 0, Or.inr ⟨rfl, rfl⟩, (h4 (0, 3, 22) (by decide +kernel)).2, (h4 (2, 1, 8) (by decide +kernel)).2, ⟨⟨B + 22, (h4 (29, 0, 22) (by decide +kernel)).2⟩, h7 18 0 (by omega)⟩, ?_, ?_, ?_, by omega, hB 5 (by decide +kernel), hz 46 42 (by omega) (by decide +kernel), ⟨0, by omega, hz 29 7 (by omega) (by decide +kernel)⟩, fun q => absurd q (by omega)⟩
    · exact ⟨by omega, by omega, Iff.rfl, fun f hf => absurd hf (by omega), fun p hp => absurd hp (by omega), fun hf => absurd hf (by omega), fun p hp => absurd hp (by omega)⟩
    · exact ⟨hz 22 6 (by omega) (by decide +kernel), hz 22 7 (by omega) (by decide +kernel), fun p hp => absurd hp (by omega), fun f hf => absurd hf (by omega)⟩
    · exact ⟨hz 46 17 (by omega) (by decide +kernel), hz 46 16 (by omega) (by decide +kernel), fun p hp => absurd hp (by omega), fun f hf => absurd hf (by omega)⟩
theorem all_calls (hd : 1000 ≤ d) (hs : gSc b L B xs w0 I0) (hst : StO K B w0 I0) (n : Nat) : Calls K (d + 20) (rR K B w0 I0 n) (rR K B w0 I0 (n + 1)) (Sc b B (B + 46) L xs) B (B + 46) :=
  ⟨fun a0 a1 => pr_feed hs a0 a1, pr_text hd hs hst, fun a0 => pr_fault hs a0, fun a0 a1 h => pr_code hs a0 a1 h, fun a0 a1 => pr_as hs a0 a1, fun a0 => pr_shape hs a0, fun a0 a1 => pr_fun hs a0 a1, pr_start hs, fun a0 => pr_step hs a0, fun a0 => pr_back hs a0, fun a0 => pr_now hs a0, fun a0 a1 h => pr_stack hs a0 a1 h, fun a0 a1 => pr_variable hs a0 a1, fun a0 a1 => pr_object hs a0 a1, fun a0 => pr_printed hs a0, pr_result hs, pr_clear hs, fun a0 a1 => pr_proof hs a0 a1, fun a0 => pr_proves hs a0, fun a0 a1 a2 => pr_sheet hs a0 a1 a2, fun a0 a1 a2 => pr_put hs a0 a1 a2, fun a0 a1 a2 a3 a4 => pr_copy hs a0 a1 a2 a3 a4, fun a0 => pr_found hs a0, fun a0 => pr_all hs a0⟩
theorem f0_run {w : aW} {I : aI} {J : aJ} (hL : L ≤ 384) (hd : 1000 ≤ d) (hs : gSc b L B xs w0 I0) (hst : StO K B w0 I0) (h : CBd K lpW B w0 I0 0 0 0 vv0 0 w I J) : Fi (f_0 K 65 (d + 20) b w I J) (fun R => R.1 = some (.int 1) ∧ ∃ n, n ≤ 64 ∧ rR K B w0 I0 n R.2.1 R.2.2.1 R.2.2.2) := by
  unfold f_0
  refine F_al (n := 0) (n' := 1) (s' := 10) h (by decide +kernel) (fun _ => rfl) (by decide) rfl (by decide +kernel) ?_
  clear h w I J
  intro w I J h
  refine F_cV (con1_0 hst h) ?_
  clear h w I J
  intro w I J h
  refine F_al (n := 46) (n' := 47) (s' := 6591) h (by decide +kernel) (fun _ => rfl) (by decide) rfl (by decide +kernel) ?_
  clear h w I J
  intro w I J h
  refine F_cV (con15_46 hst h) ?_
  clear h w I J
  intro w I J h
  obtain ⟨n, w', I', J', e, n64, hR⟩ := law_loop (K := K) (d := d + 20) (b := b) (x := B) (m := B + 46) (L := L) (xs := xs) (R := rR K B w0 I0) hL (fun n _ => all_calls hd hs hst n) (fun n w I J hR => sc_of hs hR.1 (hR.2.1 b hs.1).2.1 (hR.2.1 b hs.1).1) (fun n w I J hR => rR_up hR) 64 0 w I J (by omega) (rR_0 h) (by omega)
  rw [show nI (6 * 0) = 0 by decide +kernel] at e
  show Fi (f_0_18 K (64 + 1) (d + 20) b B (B + 46) 0 w I J) _
  exact ⟨_, e, rfl, n, n64, hR⟩
end PURE
theorem pure_ok : sm_Pure := by
  intro G w I b L xs hL hi
  obtain ⟨i1, i2, i3, i4, i5, i6, i7, i8, i9⟩ := hi
  have hst : StO G.2.2.2 w.2.2.1 w I := by
    refine ⟨fun i hi => ?_, fun i hi => ?_, i7, i8⟩
    · obtain ⟨a, v, k1, k2, k3, k4, k5⟩ := i5 i hi
      exact ⟨a, v, k1, by rw [i1]; exact k2, by rw [i1]; exact i9 v _ _ k4, k3, k4, k5⟩
    · obtain ⟨a, k1, k2, k3⟩ := i6 i hi
      exact ⟨a, k1, by rw [i1]; exact i9 a _ _ k2, k2, k3⟩
  have hs : gSc b L w.2.2.1 xs w I := ⟨by rw [i1]; exact i9 b _ _ i3, i3, i4⟩
  have h0 : CBd G.2.2.2 lpW w.2.2.1 w I 0 0 0 vv0 0 w I (fun _ _ => 0) := ⟨rfl, i2, fun i hi => absurd hi (by omega), fun e he => absurd he (by simp), fun i hi => absurd hi (by omega), fun i k hi => absurd hi (by omega), fun i k hi => absurd hi (by omega), fun a _ => ⟨rfl, rfl, rfl⟩⟩
  obtain ⟨⟨v, w', I', J'⟩, e, hv, n, n64, hR⟩ := f0_run (d := 1979) hL (by omega) hs hst h0
  have hv' : v = some (.int 1) := hv
  subst hv'
  have z1 : w'.2.2.1 ≤ w.2.2.1 + 75 + 300 * n := hR.2.2.2.1.2.1
  have z2 : w'.2.2.2 ≤ 100000 + 2000 * n := hR.2.2.2.1.2.2
  exact ⟨w', I', J', ok_0 e, by omega, by omega⟩

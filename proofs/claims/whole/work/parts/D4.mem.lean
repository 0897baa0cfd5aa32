/-! what the reference writes while it reads an E -/
section MEM
variable {K : Nat → Value} {B d : Nat} {w : aW} {I : aI} {J : aJ} {bs : Nat → Nat} {t n c r N s : Nat} {nf tf : Int}
/-- the shape of the cells: only new ones come -/
def WG (B : Nat) (w w' : aW) : Prop := (∀ b, b < w.2.2.1 → w'.1 b = w.1 b ∧ w'.2.1 b = w.2.1 b) ∧ w.2.2.1 ≤ w'.2.2.1 ∧ w.2.2.2 ≤ w'.2.2.2
/-- what an E of the reference may change -/
def FMx (B m : Nat) (I : aI) (J : aJ) (I' : aI) (J' : aJ) : Prop := (∀ b, b < m → ¬ b = B + 46 → ¬ b = B + 56 → ¬ b = B + 57 → I' b = I b) ∧ (∀ k, ¬ k = 13 → ¬ k = 22 → ¬ k = 23 → ¬ k = 24 → ¬ k = 25 → ¬ k = 26 → ¬ k = 27 → ¬ k = 28 → ¬ k = 29 → I' (B + 46) k = I (B + 46) k) ∧ ∀ b, b < m → J' b = J b
theorem FMx_r {m : Nat} : FMx B m I J I J := ⟨fun _ _ _ _ _ => rfl, fun _ _ _ _ _ _ _ _ _ _ => rfl, fun _ _ => rfl⟩
theorem FMx_t {m m' : Nat} {I' I'' : aI} {J' J'' : aJ} (hm : m ≤ m') (h1 : FMx B m I J I' J') (h2 : FMx B m' I' J' I'' J'') : FMx B m I J I'' J'' := ⟨fun b a0 a1 a2 a3 => (h2.1 b (by omega) a1 a2 a3).trans (h1.1 b a0 a1 a2 a3), fun k a1 a2 a3 a4 a5 a6 a7 a8 a9 => (h2.2.1 k a1 a2 a3 a4 a5 a6 a7 a8 a9).trans (h1.2.1 k a1 a2 a3 a4 a5 a6 a7 a8 a9), fun b a0 => (h2.2.2 b (by omega)).trans (h1.2.2 b a0)⟩
theorem FMx_6 {m : Nat} {I' : aI} (h : FM6 B I I') : FMx B m I J I' J := ⟨fun b _ a1 _ _ => h.1 b a1, fun k _ a2 a3 a4 a5 a6 _ _ _ => h.2 k a2 a3 a4 a5 a6, fun _ _ => rfl⟩
/-- the reference at an E: token c, fault r, nest s, N places, faults -/
def ME (B : Nat) (bs : Nat → Nat) (t n c r s N : Nat) (nf tf : Int) (I : aI) : Prop := MR B bs t n c r I ∧ I (B + 46) 27 = it nf ∧ -1 ≤ nf ∧ nf ≤ 240 ∧ I (B + 46) 28 = it tf ∧ -1 ≤ tf ∧ tf ≤ 240 ∧ I (B + 46) 29 = it s ∧ s ≤ 8 ∧ I (B + 46) 13 = it N ∧ N ≤ 1000
theorem ME_6 {I' : aI} {c' r' : Nat} (hE : ME B bs t n c r s N nf tf I) (h6 : FM6 B I I') (hT : MR B bs t n c' r' I') : ME B bs t n c' r' s N nf tf I' := by
  obtain ⟨_, x⟩ := hE
  refine ⟨hT, ?_⟩
  rw [h6.2 27 (by omega) (by omega) (by omega) (by omega) (by omega), h6.2 28 (by omega) (by omega) (by omega) (by omega) (by omega), h6.2 29 (by omega) (by omega) (by omega) (by omega) (by omega), h6.2 13 (by omega) (by omega) (by omega) (by omega) (by omega)]
  exact x
theorem MR_u {k : Nat} {x : Int32} (h : k = 13 ∨ k = 27 ∨ k = 28 ∨ k = 29) (hT : MR B bs t n c r I) : MR B bs t n c r (sm_up2 I (B + 46) k x) := by
  obtain ⟨hM, h26, hr, hc, h22, hT⟩ := hT
  refine ⟨⟨by rw [up2_r, up1_n (by omega)]; exact hM.1, by rw [up2_n (by omega)]; exact hM.2⟩, by rw [up2_r, up1_n (by omega)]; exact h26, hr, hc, by rw [up2_r, up1_n (by omega)]; exact h22, fun e => ?_⟩
  obtain ⟨g1, g2, s, kk, g3, g4, g5⟩ := hT e
  exact ⟨by rw [up2_r, up1_n (by omega)]; exact g1, by rw [up2_r, up1_n (by omega)]; exact g2, s, kk, by rw [up2_r, up1_n (by omega)]; exact g3, by rw [up2_r, up1_n (by omega)]; exact g4, g5⟩
theorem MR_g {I I' : aI} (h1 : I' (B + 46) = I (B + 46)) (h2 : I' (B + 48) = I (B + 48)) (hT : MR B bs t n c r I) : MR B bs t n c r I' := by
  unfold MR MTp MT at hT ⊢
  rw [h1, h2]
  exact hT
theorem FMx_u {m k : Nat} {x : Int32} (h : k = 13 ∨ k = 27 ∨ k = 28 ∨ k = 29) : FMx B m I J (sm_up2 I (B + 46) k x) J := ⟨fun b _ a1 _ _ => up2_n a1, fun j _ _ _ _ _ _ _ _ _ => by rw [up2_r, up1_n (by omega)], fun _ _ => rfl⟩
/-- a name fault of the reference -/
def mN (r : Nat) (q : Prop) [Decidable q] (nf p : Int) : Int := if r = 0 ∧ ¬ q then mnf nf p else nf
theorem s_92 {p m : Nat} (q : Prop) [Decidable q] (H : Lay B w) (hX : ME B bs t n c r s N nf tf I) (hp : p ≤ 240) : ∃ I', Cl K (d + 1) 92 [.ref (B + 46), .int (it (if q then 1 else 0)), .int (it p)] w I J = some (none, w, I', J) ∧ FMx B m I J I' J ∧ ME B bs t n c r s N (mN r q nf p) tf I' ∧ I' (B + 56) = I (B + 56) ∧ I' (B + 57) = I (B + 57) := by
  have hX' := hX
  obtain ⟨hT, h27, n1, n2, h28, t1, t2, h29, hs, h13, N1⟩ := hX'
  have h26 := hT.2.1
  have hr := hT.2.2.1
  unfold mN
  have keep : (if r = 0 ∧ ¬ q then mnf nf p else nf) = nf → Cl K (d + 1) 92 [.ref (B + 46), .int (it (if q then 1 else 0)), .int (it p)] w I J = some (none, w, I, J) → ∃ I', Cl K (d + 1) 92 [.ref (B + 46), .int (it (if q then 1 else 0)), .int (it p)] w I J = some (none, w, I', J) ∧ FMx B m I J I' J ∧ ME B bs t n c r s N (if r = 0 ∧ ¬ q then mnf nf p else nf) tf I' ∧ I' (B + 56) = I (B + 56) ∧ I' (B + 57) = I (B + 57) := by
    intro e1 e2
    rw [e1]
    exact ⟨I, e2, FMx_r, hX, rfl, rfl⟩
  by_cases r0 : r = 0
  · by_cases hq : q
    · apply keep (by rw [if_neg (fun z => z.2 hq)])
      apply cl_92 (k := 0)
      unfold f_92
      simp only [it_lit, gO_e (yt46 H)]
      subst r0
      rw [h26, if_neg (fun q => q rfl), if_pos hq, if_pos (by decide)]
    · by_cases hn : 0 ≤ nf ∧ nf ≤ p
      · apply keep (by rw [if_pos ⟨r0, hq⟩]; unfold mnf; rw [if_neg (by omega), if_neg (by omega)])
        apply cl_92 (k := 0)
        unfold f_92
        simp only [it_lit, gO_e (yt46 H)]
        subst r0
        rw [h26, if_neg (fun q => q rfl), if_neg hq, if_neg (fun q => q rfl), h27, if_neg (fun q => by have := (it_lt (by omega) (by omega) (by omega) (by omega)).mp q; omega), if_pos ((it_le (by omega) (by omega) (by omega) (by omega)).mpr (by omega))]
      · have em : mnf nf p = p := by unfold mnf; split <;> (try split) <;> omega
        rw [if_pos (show r = 0 ∧ ¬ q from ⟨r0, hq⟩), em]
        refine ⟨sm_up2 I (B + 46) 27 (it p), ?_, FMx_u (by omega), ⟨MR_u (by omega) hT, by rw [up2_r, up1_s], by omega, by omega, by rw [up2_r, up1_n (by omega)]; exact h28, t1, t2, by rw [up2_r, up1_n (by omega)]; exact h29, hs, by rw [up2_r, up1_n (by omega)]; exact h13, N1⟩, up2_n (by omega), up2_n (by omega)⟩
        apply cl_92 (k := 0)
        unfold f_92
        simp only [it_lit, gO_e (yt46 H)]
        subst r0
        rw [h26, if_neg (fun q => q rfl), if_neg hq, if_neg (fun q => q rfl), h27]
        unfold f_92_26
        simp only [lt_p, gO_e (yt46 H)]
        by_cases e : nf < 0
        · rw [if_pos ((it_lt (by omega) (by omega) (by omega) (by omega)).mpr (by omega))]
        · rw [if_neg (fun q => by have := (it_lt (by omega) (by omega) (by omega) (by omega)).mp q; omega), if_neg (fun q => by have := (it_le (by omega) (by omega) (by omega) (by omega)).mp q; omega)]
  · apply keep (by rw [if_neg (fun z => r0 z.1)])
    apply cl_92 (k := 0)
    unfold f_92
    simp only [it_lit, gO_e (yt46 H)]
    rw [h26, if_pos (fun q => by have := (it_eq (by omega) (by omega) (by omega) (by omega)).mp q; omega)]
def mT (r : Nat) (q : Prop) [Decidable q] (tf p : Int) : Int := if (r = 0 ∧ ¬ q) ∧ tf < 0 then p else tf
theorem s_110 {p m : Nat} (q : Prop) [Decidable q] (H : Lay B w) (hX : ME B bs t n c r s N nf tf I) (hp : p ≤ 240) : ∃ I', Cl K (d + 1) 110 [.ref (B + 46), .int (it (if q then 1 else 0)), .int (it p)] w I J = some (none, w, I', J) ∧ FMx B m I J I' J ∧ ME B bs t n c r s N nf (mT r q tf p) I' ∧ I' (B + 56) = I (B + 56) ∧ I' (B + 57) = I (B + 57) := by
  have hX' := hX
  obtain ⟨hT, h27, n1, n2, h28, t1, t2, h29, hs, h13, N1⟩ := hX'
  have h26 := hT.2.1
  have hr := hT.2.2.1
  unfold mT
  by_cases e : (r = 0 ∧ ¬ q) ∧ tf < 0
  · rw [if_pos e]
    refine ⟨sm_up2 I (B + 46) 28 (it p), ?_, FMx_u (by omega), ⟨MR_u (by omega) hT, by rw [up2_r, up1_n (by omega)]; exact h27, n1, n2, by rw [up2_r, up1_s], by omega, by omega, by rw [up2_r, up1_n (by omega)]; exact h29, hs, by rw [up2_r, up1_n (by omega)]; exact h13, N1⟩, up2_n (by omega), up2_n (by omega)⟩
    apply cl_110 (k := 0)
    unfold f_110
    simp only [it_lit, gO_e (yt46 H), lt_p]
    rw [h26, if_neg (fun z => z (by rw [e.1.1]; rfl)), if_neg e.1.2, if_neg (fun q => q rfl), h28, if_neg (fun q => by have := (it_le (by omega) (by omega) (by omega) (by omega)).mp q; omega)]
  · rw [if_neg e]
    refine ⟨I, ?_, FMx_r, hX, rfl, rfl⟩
    apply cl_110 (k := 0)
    unfold f_110
    simp only [it_lit, gO_e (yt46 H), lt_p]
    rw [h26]
    by_cases r0 : r = 0
    · rw [if_neg (fun z => z (by rw [r0]; rfl))]
      by_cases hq : q
      · rw [if_pos hq, if_pos (by decide)]
      · have ht : ¬ tf < 0 := fun z => e ⟨⟨r0, hq⟩, z⟩
        rw [if_neg hq, if_neg (fun q => q rfl), h28, if_pos ((it_le (by omega) (by omega) (by omega) (by omega)).mpr (by omega))]
    · rw [if_pos (fun q => by have := (it_eq (by omega) (by omega) (by omega) (by omega)).mp q; omega)]
theorem s_111 {o g : Int32} {m : Nat} (H : Lay B w) (hX : ME B bs t n c r s N nf tf I) (N1 : N < 1000) : ∃ I', Cl K (d + 1) 111 [.ref (B + 46), .int o, .int g] w I J = some (none, w, I', J) ∧ FMx B m I J I' J ∧ ME B bs t n c r s (N + 1) nf tf I' ∧ ∀ p, p < 300 → I' (B + 56) p = (if p = N then o else I (B + 56) p) ∧ I' (B + 57) p = (if p = N then g else I (B + 57) p) := by
  obtain ⟨hT, h27, n1, n2, h28, t1, t2, h29, hs, h13, _⟩ := hX
  by_cases e : N < 300
  · refine ⟨sm_up2 (sm_up2 (sm_up2 I (B + 56) N o) (B + 57) N g) (B + 46) 13 (it ((N + 1 : Nat) : Int)), ?_, ⟨fun b _ a1 a2 a3 => by rw [up2_n a1, up2_n a3, up2_n a2], fun k a1 _ _ _ _ _ _ _ _ => by rw [up2_r, up1_n a1, up2_n (by omega), up2_n (by omega)], fun _ _ => rfl⟩, ?_, fun p hp => ?_⟩
    · apply cl_111 (k := 0)
      unfold f_111
      simp only [it_lit, gO_e (yt46 H), gV_e (yp46_14 H), gV_e (yp46_15 H), lt_p]
      rw [h13, if_neg (fun q => by have := (it_le (by omega) (by omega) (by omega) (by omega)).mp q; omega), gA_e (yt56 H) (Or.inl rfl) (ix (by omega) (by omega) (by omega)), it_n (by omega), up2_n (a := B + 56) (b := B + 46) (by omega), h13, gA_e (yt57 H) (Or.inl rfl) (ix (by omega) (by omega) (by omega)), it_n (by omega)]
      unfold f_111_30
      simp only [it_lit, gO_e (yt46 H), lt_p]
      rw [up2_n (a := B + 57) (b := B + 46) (by omega), up2_n (a := B + 56) (b := B + 46) (by omega), h13, it_add]
      rfl
    · refine ⟨MR_u (by omega) (MR_g (I := I) (by rw [up2_n (by omega), up2_n (by omega)]) (by rw [up2_n (by omega), up2_n (by omega)]) hT), ?_, n1, n2, ?_, t1, t2, ?_, hs, by rw [up2_r, up1_s], by omega⟩
      · rw [up2_r, up1_n (by omega), up2_n (by omega), up2_n (by omega)]; exact h27
      · rw [up2_r, up1_n (by omega), up2_n (by omega), up2_n (by omega)]; exact h28
      · rw [up2_r, up1_n (by omega), up2_n (by omega), up2_n (by omega)]; exact h29
    · rw [up2_n (a := B + 46) (b := B + 56) (by omega), up2_n (a := B + 57) (b := B + 56) (by omega), up2_r, up2_n (a := B + 46) (b := B + 57) (by omega), up2_r, up2_n (a := B + 56) (b := B + 57) (by omega)]
      exact ⟨rfl, rfl⟩
  · refine ⟨sm_up2 I (B + 46) 13 (it ((N + 1 : Nat) : Int)), ?_, FMx_u (by omega), ⟨MR_u (by omega) hT, by rw [up2_r, up1_n (by omega)]; exact h27, n1, n2, by rw [up2_r, up1_n (by omega)]; exact h28, t1, t2, by rw [up2_r, up1_n (by omega)]; exact h29, hs, by rw [up2_r, up1_s], by omega⟩, fun p hp => ?_⟩
    · apply cl_111 (k := 0)
      unfold f_111
      simp only [it_lit, gO_e (yt46 H), lt_p]
      rw [h13, if_pos ((it_le (by omega) (by omega) (by omega) (by omega)).mpr (by omega))]
      unfold f_111_30
      simp only [it_lit, gO_e (yt46 H), lt_p]
      rw [h13, it_add]
      rfl
    · rw [up2_n (by omega), up2_n (by omega), if_neg (by omega), if_neg (by omega)]
      exact ⟨rfl, rfl⟩
end MEM

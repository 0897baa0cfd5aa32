/-! the reference at its tokens -/
section MTK
variable {K : Nat → Value} {B d : Nat} {w : aW} {I : aI} {J : aJ} {bs : Nat → Nat} {t n c r k : Nat}
/-- at the token c -/
def MR (B : Nat) (bs : Nat → Nat) (t n c r : Nat) (I : aI) : Prop := MTp B bs t I ∧ I (B + 46) 26 = it r ∧ r ≤ 1 ∧ c ≤ n ∧ I (B + 46) 22 = it (tst bs t c : Nat) ∧ (r = 0 → MT B bs t (tst bs t c) I)
def FM6 (B : Nat) (I I' : aI) : Prop := (∀ a, ¬ a = B + 46 → I' a = I a) ∧ ∀ k, ¬ k = 22 → ¬ k = 23 → ¬ k = 24 → ¬ k = 25 → ¬ k = 26 → I' (B + 46) k = I (B + 46) k
theorem FM6_t {I I' I'' : aI} (h1 : FM6 B I I') (h2 : FM6 B I' I'') : FM6 B I I'' := ⟨fun a a1 => (h2.1 a a1).trans (h1.1 a a1), fun k a1 a2 a3 a4 a5 => (h2.2 k a1 a2 a3 a4 a5).trans (h1.2 k a1 a2 a3 a4 a5)⟩
theorem FM6_r {I : aI} : FM6 B I I := ⟨fun _ _ => rfl, fun _ _ _ _ _ _ => rfl⟩
theorem FM6_m {I I' : aI} (h : FrM B I I') : FM6 B I I' := ⟨h.1, fun k a1 a2 a3 a4 _ => h.2 k a1 a2 a3 a4⟩
theorem FM6_u {I : aI} {x : Int32} : FM6 B I (sm_up2 I (B + 46) 26 x) := ⟨fun a a1 => up2_n a1, fun j a1 a2 a3 a4 a5 => by rw [up2_r, up1_n a5]⟩
theorem sgs_k {v : Nat} (h : v ∈ sgs) : ¬ v = 0 ∧ ¬ v = 1 ∧ ¬ v = 2 ∧ ¬ v = 3 ∧ v < 256 := by have := sgs_b v h; omega
theorem cvt_i {a b : Nat} (ha : a < 20) (hb : b < 20) (h : cvt a = cvt b) : a = b := by
  unfold cvt at h
  split at h <;> split at h <;> (try split at h) <;> (try split at h) <;> omega
theorem s_94 {x : Nat} {xv : Int32} (H : Lay B w) (hT : MR B bs t n c r I) (hX : TX bs t n) (hxv : xv = it x) (hx : x ∈ sgs) : Cl K (d + 1) 94 [.ref (B + 46), .int xv] w I J = some (some (.int (it (if kX bs t c r = x then 1 else 0))), w, I, J) := by
  subst hxv
  obtain ⟨hM, h26, hr, hc, h22, hT⟩ := hT
  have hxb := sgs_k hx
  apply cl_94 (k := 0)
  unfold f_94
  simp only [it_lit, gO_e (yt46 H), gV_e (yp46_1 H), h26]
  unfold kX
  by_cases e : r = 0
  · subst e
    obtain ⟨g1, g2, s, kk, g3, g4, g5, g6, g7, g8, hS⟩ := hT rfl
    rw [if_neg (fun q => q rfl), if_pos rfl, g3]
    unfold tkd
    rcases hS with ⟨a1, a2⟩ | ⟨a1, a2⟩ | ⟨rr, a0, a1, a2, a3⟩ | ⟨a1, a2⟩ | ⟨a1, a2⟩ | ⟨a1, a2, a3⟩
    · rw [if_pos (fun q => by have := (it_eq (by omega) (by omega) (by omega) (by omega)).mp q; omega), if_neg (by omega)]
    · rw [if_pos (fun q => by have := (it_eq (by omega) (by omega) (by omega) (by omega)).mp q; omega), if_neg (by omega)]
    · have := cvt_b a0
      rw [if_pos (fun q => by have := (it_eq (by omega) (by omega) (by omega) (by omega)).mp q; omega), if_neg (by omega)]
    · rw [if_pos (fun q => by have := (it_eq (by omega) (by omega) (by omega) (by omega)).mp q; omega), if_neg (by omega)]
    · rw [if_pos (fun q => by have := (it_eq (by omega) (by omega) (by omega) (by omega)).mp q; omega), if_neg (by omega)]
    · have hb := sgs_k a1
      have hpt : tst bs t c < t := by
        by_cases e : c < n
        · exact hX.2.2.2.1 c e
        · have e2 : c = n := by omega
          subst e2
          exact absurd (by unfold kdo; rw [hX.2.2.1, if_pos (Nat.le_refl _)]) hb.1
      have ht := hX.1
      rw [if_neg (fun q => q (by rw [a2])), h22, gA_e (yt48 H) (Or.inl rfl) (ix (by omega) (by omega) (by omega)), it_n (by omega), (hM.2 _ hpt).2, a3]
      by_cases e : kdo bs t (tst bs t c) = x
      · rw [if_neg (fun q => q (by rw [e])), if_pos e]
      · rw [if_pos (fun q => by have := (it_eq (by omega) (by omega) (by omega) (by omega)).mp q; omega), if_neg e]
  · rw [if_pos (fun q => by have := (it_eq (by omega) (by omega) (by omega) (by omega)).mp q; omega), if_neg e, if_neg (by omega)]
theorem s_89 {x : Nat} {xv : Int32} (H : Lay B w) (hT : MR B bs t n c r I) (hxv : xv = it x) (hx : x < 20) : Cl K (d + 1) 89 [.ref (B + 46), .int xv] w I J = some (some (.int (it (if kX bs t c r = cvt x then 1 else 0))), w, I, J) := by
  subst hxv
  obtain ⟨hM, h26, hr, hc, h22, hT⟩ := hT
  have hxb := cvt_b hx
  apply cl_89 (k := 0)
  unfold f_89
  simp only [it_lit, gO_e (yt46 H), h26]
  unfold kX
  by_cases e : r = 0
  · subst e
    obtain ⟨g1, g2, s, kk, g3, g4, g5, g6, g7, g8, hS⟩ := hT rfl
    rw [if_neg (fun q => q rfl), if_pos rfl, g3, g4]
    unfold tkd
    rcases hS with ⟨a1, a2⟩ | ⟨a1, a2⟩ | ⟨rr, a0, a1, a2, a3⟩ | ⟨a1, a2⟩ | ⟨a1, a2⟩ | ⟨a1, a2, a3⟩
    · rw [if_pos (fun q => by have := (it_eq (by omega) (by omega) (by omega) (by omega)).mp q; omega), if_neg (by omega)]
    · rw [if_pos (fun q => by have := (it_eq (by omega) (by omega) (by omega) (by omega)).mp q; omega), if_neg (by omega)]
    · rw [if_neg (fun q => q (by rw [a2])), a3]
      by_cases e : rr = x
      · rw [if_neg (fun q => q (by rw [e])), if_pos (by rw [a1, e])]
      · rw [if_pos (fun q => by have := (it_eq (by omega) (by omega) (by omega) (by omega)).mp q; omega), if_neg (fun q => e (cvt_i a0 hx (a1.symm.trans q)))]
    · rw [if_pos (fun q => by have := (it_eq (by omega) (by omega) (by omega) (by omega)).mp q; omega), if_neg (by omega)]
    · rw [if_pos (fun q => by have := (it_eq (by omega) (by omega) (by omega) (by omega)).mp q; omega), if_neg (by omega)]
    · have hb := sgs_k a1
      rw [if_pos (fun q => by have := (it_eq (by omega) (by omega) (by omega) (by omega)).mp q; omega), if_neg (by omega)]
  · rw [if_pos (fun q => by have := (it_eq (by omega) (by omega) (by omega) (by omega)).mp q; omega), if_neg e, if_neg (by omega)]
theorem MR_f {I I' : aI} (h : FM6 B I I') (h6 : ∀ k, k = 22 ∨ k = 23 ∨ k = 24 ∨ k = 25 ∨ k = 26 → I' (B + 46) k = I (B + 46) k) (hT : MR B bs t n c r I) : MR B bs t n c r I' := by
  obtain ⟨hM, h26, hr, hc, h22, hT⟩ := hT
  refine ⟨⟨by rw [h.2 2 (by omega) (by omega) (by omega) (by omega) (by omega)]; exact hM.1, by rw [h.1 (B + 48) (by omega)]; exact hM.2⟩, by rw [h6 26 (by omega)]; exact h26, hr, hc, by rw [h6 22 (by omega)]; exact h22, fun e => ?_⟩
  obtain ⟨g1, g2, s, kk, g3, g4, g5⟩ := hT e
  exact ⟨by rw [h6 22 (by omega)]; exact g1, by rw [h6 23 (by omega)]; exact g2, s, kk, by rw [h6 24 (by omega)]; exact g3, by rw [h6 25 (by omega)]; exact g4, g5⟩
theorem s_84k (hX : TX bs t n) (H : Lay B w) (hK : rKy K B w) (hO : StO K B w I) (hT : MR B bs t n c 0 I) (hc : c < n) : ∃ I', Cl K (d + 6) 84 [.ref (B + 46)] w I J = some (none, w, I', J) ∧ FM6 B I I' ∧ MR B bs t n (c + 1) 0 I' := by
  obtain ⟨hM, h26, hr, _, h22, hT⟩ := hT
  obtain ⟨g1, g2, _⟩ := hT rfl
  have hb := lxe_b (bs := bs) (hX.2.2.2.1 c hc)
  obtain ⟨I', e1, e2, e3⟩ := s_84 (K := K) (d := d) (J := J) H hX.1 hb.2 hK hM hO g2
  refine ⟨I', e1, FM6_m e2, MTp_f e2 hM, by rw [e2.2 26 (by omega) (by omega) (by omega) (by omega)]; exact h26, hr, hc, ?_, fun _ => ?_⟩
  · exact e3.1
  · exact e3
/-- something is needed, and it is there -/
theorem s_90 {b : Int32} (hX : TX bs t n) (H : Lay B w) (hK : rKy K B w) (hO : StO K B w I) (hT : MR B bs t n c r I) (p : Prop) [Decidable p] (hb : b = it (if p then 1 else 0)) (hp : p → r = 0 ∧ c < n) : ∃ I', Cl K (d + 7) 90 [.ref (B + 46), .int b] w I J = some (none, w, I', J) ∧ FM6 B I I' ∧ MR B bs t n (if p then c + 1 else c) (if p then r else 1) I' := by
  subst hb
  have h26 := hT.2.1
  by_cases e : p
  · obtain ⟨r0, hc⟩ := hp e
    subst r0
    rw [if_pos e, if_pos e, if_pos e]
    have hu : MR B bs t n c 0 (sm_up2 I (B + 46) 26 (it 0)) := MR_f FM6_u (fun k hk => by
      by_cases e : k = 26
      · subst e; rw [up2_r, up1_s]; exact h26.symm
      · rw [up2_r, up1_n e]) hT
    obtain ⟨I', e1, e2, e3⟩ := s_84k (K := K) (d := d) (J := J) hX H hK (StO_c (fun a ha => ⟨up2_n (by omega), rfl, rfl⟩) hO) hu hc
    refine ⟨I', ?_, FM6_t FM6_u e2, e3⟩
    apply cl_90 (k := 0)
    unfold f_90
    simp only [it_lit, gO_e (yt46 H)]
    rw [h26, if_neg (fun q => q rfl), if_pos (by decide)]
    unfold f_90_17
    simp only [it_lit, gO_e (yt46 H), lt_p]
    rw [gC_e (Or.inl trivial), up2_r, up1_s, if_neg (fun q => q rfl), e1]
    rfl
  · rw [if_neg e, if_neg e, if_neg e]
    refine ⟨sm_up2 I (B + 46) 26 (it 1), ?_, FM6_u, ?_⟩
    · have f12 : f_90_12 K 0 (d + 6) (B + 46) (it 0) (B + 46) w I J = some (none, w, sm_up2 I (B + 46) 26 (it 1), J) := by
        unfold f_90_12 f_90_17
        simp only [it_lit, gO_e (yt46 H), lt_p]
        rw [gC_e (Or.inr trivial), up2_r, up1_s, if_pos (by decide)]
      apply cl_90 (k := 0)
      unfold f_90
      simp only [it_lit, gO_e (yt46 H)]
      rw [h26]
      by_cases r0 : r = 0
      · subst r0
        rw [if_neg (fun q => q rfl), if_neg (fun q => q trivial)]
        exact f12
      · have hr := hT.2.2.1
        rw [if_pos (fun q => by have := (it_eq (by omega) (by omega) (by omega) (by omega)).mp q; omega)]
        exact f12
    · obtain ⟨hM, _, hr, hc, h22, hT⟩ := hT
      exact ⟨⟨by rw [up2_r, up1_n (by omega)]; exact hM.1, by rw [up2_n (by omega)]; exact hM.2⟩, by rw [up2_r, up1_s]; rfl, by omega, hc, by rw [up2_r, up1_n (by omega)]; exact h22, fun q => by omega⟩
theorem s_93 {x : Nat} {xv : Int32} (hX : TX bs t n) (H : Lay B w) (hK : rKy K B w) (hO : StO K B w I) (hT : MR B bs t n c r I) (hxv : xv = it x) (hx : x ∈ sgs) : ∃ I', Cl K (d + 8) 93 [.ref (B + 46), .int xv] w I J = some (none, w, I', J) ∧ FM6 B I I' ∧ MR B bs t n (nxC bs t c r x) (nxR bs t c r x) I' := by
  have hb := sgs_k hx
  obtain ⟨I', e1, e2, e3⟩ := s_90 (K := K) (d := d) (J := J) hX H hK hO hT (kX bs t c r = x) rfl (fun h => by
    have := kX_n hX hT.2.2.2.1 h hb.1 hb.2.2.2.1
    exact ⟨this.1, this.2.1⟩)
  refine ⟨I', ?_, e2, e3⟩
  apply cl_93 (k := 0)
  unfold f_93
  simp only [gO_e (yt46 H)]
  rw [s_94 (d := d + 6) H hT hX hxv hx]
  simp only [cI_e, gO_e (yt46 H)]
  rw [e1]
  rfl
/-- a name's letter -/
theorem nam_l (h : tkd bs t c = 1) : 97 ≤ bs (tst bs t c) ∧ bs (tst bs t c) ≤ 122 ∧ tvl bs t c = bs (tst bs t c) - 97 ∧ tst bs t c < t := by
  unfold tkd kdo at h
  by_cases h1 : t ≤ tst bs t c
  · rw [if_pos h1] at h; omega
  · rw [if_neg h1] at h
    by_cases h2 : isL (bs (tst bs t c))
    · rw [if_pos h2] at h
      by_cases h3 : lxe bs t (tst bs t c) - tst bs t c = 1
      · refine ⟨h2.1, h2.2, ?_, by omega⟩
        unfold tvl vlo
        rw [if_neg h1, if_pos h2, if_pos h3]
      · rw [if_neg h3] at h
        have := kix_b (rl bs (tst bs t c) (lxe bs t (tst bs t c) - tst bs t c)) kyl 256
        omega
    · rw [if_neg h2] at h
      split at h
      · split at h <;> omega
      · split at h
        · have := sgs_b _ (by assumption); omega
        · omega
theorem s_91 (hX : TX bs t n) (H : Lay B w) (hK : rKy K B w) (hO : StO K B w I) (hT : MR B bs t n c r I) : ∃ I', Cl K (d + 8) 91 [.ref (B + 46)] w I J = some (some (.int (it (if kX bs t c r = 1 then tvl bs t c + 97 else 0 : Nat))), w, I', J) ∧ FM6 B I I' ∧ MR B bs t n (nxC bs t c r 1) (nxR bs t c r 1) I' := by
  obtain ⟨I', e1, e2, e3⟩ := s_90 (K := K) (d := d) (J := J) hX H hK hO hT (kX bs t c r = 1) rfl (fun h => by
    have := kX_n hX hT.2.2.2.1 h (by omega) (by omega)
    exact ⟨this.1, this.2.1⟩)
  refine ⟨I', ?_, e2, e3⟩
  have hT' := hT
  obtain ⟨hM, h26, hr, hc, h22, hTT⟩ := hT'
  have bad : ¬ kX bs t c r = 1 → f_91_19 K 0 (d + 7) (B + 46) w I J = some (some (.int (it (if kX bs t c r = 1 then tvl bs t c + 97 else 0 : Nat))), w, I', J) := by
    intro h
    unfold f_91_19 f_91_20
    simp only [it_lit]
    rw [if_pos trivial]
    unfold f_91_38
    rw [gO_e (yt46 H)]
    rw [if_neg h] at e1 ⊢
    rw [e1]
    rfl
  apply cl_91 (k := 0)
  unfold f_91
  simp only [it_lit, gO_e (yt46 H), h26]
  by_cases e : r = 0
  · subst e
    obtain ⟨g1, g2, s, kk, g3, g4, g5, g6, g7, g8, hS⟩ := hTT rfl
    have hkx : kX bs t c 0 = kdo bs t (tst bs t c) := by unfold kX tkd; rw [if_pos rfl]
    rw [if_neg (fun q => q rfl), g3]
    by_cases e2 : kX bs t c 0 = 1
    · have hs : s = 1 := by
        rcases hS with ⟨a1, a2⟩ | ⟨a1, a2⟩ | ⟨rr, a0, a1, a2, a3⟩ | ⟨a1, a2⟩ | ⟨a1, a2⟩ | ⟨a1, a2, a3⟩
        · omega
        · exact a2
        · have := cvt_b a0; omega
        · omega
        · omega
        · have := sgs_k a1; omega
      obtain ⟨l1, l2, l3, l4⟩ := nam_l (bs := bs) (t := t) (c := c) (by unfold tkd; omega)
      have ht := hX.1
      rw [if_neg (fun q => q (by rw [hs]))]
      unfold f_91_20
      simp only [it_lit, gO_e (yt46 H), gV_e (yp46_1 H)]
      rw [if_neg (by decide), h22, gA_e (yt48 H) (Or.inl rfl) (ix (by omega) (by omega) (by omega)), it_n (by omega), (hM.2 _ l4).2]
      unfold f_91_38
      rw [gO_e (yt46 H)]
      rw [if_pos e2] at e1
      rw [e1, if_pos e2, show tvl bs t c + 97 = bs (tst bs t c) by omega]
      rfl
    · have hs : ¬ s = 1 := by
        rcases hS with ⟨a1, a2⟩ | ⟨a1, a2⟩ | ⟨rr, a0, a1, a2, a3⟩ | ⟨a1, a2⟩ | ⟨a1, a2⟩ | ⟨a1, a2, a3⟩ <;> omega
      rw [if_pos (fun q => by have := (it_eq (by omega) (by omega) (by omega) (by omega)).mp q; omega)]
      exact bad e2
  · rw [if_pos (fun q => by have := (it_eq (by omega) (by omega) (by omega) (by omega)).mp q; omega)]
    exact bad (by unfold kX; rw [if_neg e]; omega)
theorem cvt_t {rr : Nat} (h : rr < 20) : (isT (cvt rr) ↔ rr ≤ 3) ∧ (rr ≤ 3 → cvt rr = 262 + rr) := by
  unfold cvt isT
  split
  · omega
  · split <;> omega
theorem s_95 (hX : TX bs t n) (H : Lay B w) (hK : rKy K B w) (hO : StO K B w I) (hT : MR B bs t n c r I) : ∃ I', Cl K (d + 8) 95 [.ref (B + 46)] w I J = some (some (.int (it (if isT (kX bs t c r) then kX bs t c r - 262 else 0 : Nat))), w, I', J) ∧ FM6 B I I' ∧ MR B bs t n (if isT (kX bs t c r) then c + 1 else c) (if isT (kX bs t c r) then r else 1) I' := by
  obtain ⟨I', e1, e2, e3⟩ := s_90 (K := K) (d := d) (J := J) hX H hK hO hT (isT (kX bs t c r)) rfl (fun h => by
    have := kX_n (k := kX bs t c r) hX hT.2.2.2.1 rfl (by omega) (by omega)
    exact ⟨this.1, this.2.1⟩)
  refine ⟨I', ?_, e2, e3⟩
  have hT' := hT
  obtain ⟨hM, h26, hr, hc, h22, hTT⟩ := hT'
  have bad : ¬ isT (kX bs t c r) → f_95_27 K 0 (d + 7) (B + 46) w I J = some (some (.int (it (if isT (kX bs t c r) then kX bs t c r - 262 else 0 : Nat))), w, I', J) := by
    intro h
    unfold f_95_27 f_95_28
    simp only [it_lit]
    rw [if_pos trivial]
    unfold f_95_41
    rw [gO_e (yt46 H)]
    rw [if_neg h] at e1 ⊢
    rw [e1]
    rfl
  apply cl_95 (k := 0)
  unfold f_95
  simp only [it_lit, gO_e (yt46 H), h26]
  by_cases e : r = 0
  · subst e
    obtain ⟨g1, g2, s, kk, g3, g4, g5, g6, g7, g8, hS⟩ := hTT rfl
    have hkx : kX bs t c 0 = kdo bs t (tst bs t c) := by unfold kX tkd; rw [if_pos rfl]
    rw [if_neg (fun q => q rfl), g3, g4]
    by_cases e2 : isT (kX bs t c 0)
    · have hs : s = 2 ∧ kk = ((kX bs t c 0 - 262 : Nat) : Int) ∧ kX bs t c 0 - 262 ≤ 3 := by
        rcases hS with ⟨a1, a2⟩ | ⟨a1, a2⟩ | ⟨rr, a0, a1, a2, a3⟩ | ⟨a1, a2⟩ | ⟨a1, a2⟩ | ⟨a1, a2, a3⟩
        · omega
        · omega
        · rw [hkx, a1] at e2 ⊢
          have h1 := (cvt_t a0).1.mp e2
          have h2 := (cvt_t a0).2 h1
          refine ⟨a2, ?_, ?_⟩ <;> omega
        · omega
        · omega
        · have := sgs_k a1; omega
      rw [if_neg (fun q => q (by rw [hs.1])), if_neg (fun q => by have := (it_lt (by omega) (by omega) (by omega) (by omega)).mp q; omega)]
      unfold f_95_28
      simp only [it_lit, gO_e (yt46 H)]
      rw [if_neg (by decide), g4]
      unfold f_95_41
      rw [gO_e (yt46 H)]
      rw [if_pos e2] at e1
      rw [e1, if_pos e2, hs.2.1]
      rfl
    · by_cases s2 : s = 2
      · rw [if_neg (fun q => q (by rw [s2]))]
        have hk3 : 3 < kk := by
          rcases hS with ⟨a1, a2⟩ | ⟨a1, a2⟩ | ⟨rr, a0, a1, a2, a3⟩ | ⟨a1, a2⟩ | ⟨a1, a2⟩ | ⟨a1, a2, a3⟩
          · omega
          · omega
          · rw [hkx, a1] at e2
            have h1 := (cvt_t a0).1
            have : ¬ rr ≤ 3 := fun q => e2 (h1.mpr q)
            omega
          · omega
          · omega
          · omega
        rw [if_pos ((it_lt (by omega) (by omega) (by omega) (by omega)).mpr (by omega))]
        exact bad e2
      · rw [if_pos (fun q => by have := (it_eq (by omega) (by omega) (by omega) (by omega)).mp q; omega)]
        exact bad e2
  · rw [if_pos (fun q => by have := (it_eq (by omega) (by omega) (by omega) (by omega)).mp q; omega)]
    exact bad (by unfold kX; rw [if_neg e]; omega)
end MTK

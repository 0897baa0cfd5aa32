/-! the class at its tokens -/
/-- the kind that the class sees -/
def kX (bs : Nat → Nat) (t c r : Nat) : Nat := if r = 0 then tkd bs t c else 3
/-- the text: n tokens ahead of the end -/
def TX (bs : Nat → Nat) (t n : Nat) : Prop := t ≤ 240 ∧ n ≤ 240 ∧ tst bs t n = t ∧ (∀ c, c < n → tst bs t c < t) ∧ ∀ i, i < t → bs i < 256
def XT (B : Nat) (bs : Nat → Nat) (t n c r : Nat) (I : aI) : Prop := TS B bs t (n + 1) I ∧ I (B + 3) 5 = it c ∧ I (B + 3) 6 = it r ∧ c ≤ n ∧ r ≤ 1
def FX3 (B : Nat) (I I' : aI) : Prop := ∀ b, ¬ b = B + 3 → I' b = I b
/-- the next token, if k is what is asked for -/
def nxC (bs : Nat → Nat) (t c r k : Nat) : Nat := if kX bs t c r = k then c + 1 else c
def nxR (bs : Nat → Nat) (t c r k : Nat) : Nat := if kX bs t c r = k then r else 1
theorem cvt_b {r : Nat} (h : r < 20) : 256 ≤ cvt r ∧ cvt r ≤ 275 := by unfold cvt; split <;> (try split) <;> omega
theorem kix_b (l : List Nat) : ∀ (xs : List (List Nat)) (k : Nat), kix l xs k = 3 ∨ (k ≤ kix l xs k ∧ kix l xs k < k + xs.length) := by
  intro xs
  induction xs with
  | nil => intro k; left; rfl
  | cons x xs ih =>
    intro k
    rw [kix, List.length_cons]
    split
    · right; omega
    · have := ih (k + 1); omega
theorem sgs_b : ∀ v ∈ sgs, 40 ≤ v ∧ v ≤ 125 := by decide +kernel
theorem kdo_b (bs : Nat → Nat) (t p : Nat) : kdo bs t p ≤ 275 := by
  unfold kdo
  split
  · omega
  · split
    · split
      · omega
      · have := kix_b (rl bs p (lxe bs t p - p)) kyl 256
        have e : kyl.length = 20 := rfl
        omega
    · split
      · split <;> omega
      · split
        · have := sgs_b (bs p) (by assumption); omega
        · omega
theorem kdo_0 {bs : Nat → Nat} {t p : Nat} (h : p < t) : ¬ kdo bs t p = 0 := by
  unfold kdo
  rw [if_neg (by omega)]
  split
  · split
    · omega
    · have := kix_b (rl bs p (lxe bs t p - p)) kyl 256
      omega
  · split
    · split <;> omega
    · split
      · have := sgs_b (bs p) (by assumption); omega
      · omega
theorem num_5 {bs : Nat → Nat} {t p : Nat} : vlo bs t p < 100000 ∨ isL (bs p) := by
  by_cases hl : isL (bs p)
  · right; exact hl
  · left
    unfold vlo
    rw [if_neg hl]
    split
    · omega
    · split
      · split
        · have hd : ∀ i, p ≤ i → i < p + (lxe bs t p - p) → isD (bs i) := by
            intro i h1 h2
            have e : lxe bs t p = spn bs 48 57 (t - p) p := by unfold lxe; rw [if_neg (by omega), if_neg hl, if_pos (by assumption)]
            rw [e] at h2
            have := spn_b bs 48 57 (t - p) p
            exact spn_in bs 48 57 (t - p) p i h1 (by omega)
          have h1 := nmn_b (n := lxe bs t p - p) hd
          unfold nmn at h1
          rw [if_pos (by assumption)] at h1
          exact h1
        · omega
      · omega
section CTK
variable {K : Nat → Value} {B d : Nat} {w : aW} {I : aI} {J : aJ} {bs : Nat → Nat} {t n c r k : Nat}
theorem tkd_n (hX : TX bs t n) (h : c ≤ n) (h0 : ¬ tkd bs t c = 0) : c < n := by
  by_cases e : c = n
  · subst e
    exact absurd (by unfold tkd kdo; rw [hX.2.2.1, if_pos (Nat.le_refl _)]) h0
  · omega
theorem kX_n (hX : TX bs t n) (h : c ≤ n) (hk : kX bs t c r = k) (h0 : ¬ k = 0) (h3 : ¬ k = 3) : r = 0 ∧ c < n ∧ tkd bs t c = k := by
  unfold kX at hk
  by_cases e : r = 0
  · rw [if_pos e] at hk
    exact ⟨e, tkd_n hX h (by omega), hk⟩
  · rw [if_neg e] at hk; omega
theorem kX_b : kX bs t c r ≤ 275 := by
  unfold kX
  split
  · exact kdo_b _ _ _
  · omega
theorem s_37 (H : Lay B w) (hT : XT B bs t n c r I) (hn : n ≤ 240) : Cl K (d + 1) 37 [.ref (B + 3)] w I J = some (some (.int (it (kX bs t c r : Nat))), w, I, J) := by
  obtain ⟨⟨h4, hT⟩, h5, h6, hc, hr⟩ := hT
  apply cl_37 (k := 0)
  unfold f_37
  simp only [it_lit, gO_e (yt3 H), gV_e (yp3_0 H), h4, h5, h6]
  unfold kX
  by_cases e : r = 0
  · subst e
    rw [if_neg (fun q => q rfl), if_neg (fun q => by have := (it_le (by omega) (by omega) (by omega) (by omega)).mp q; omega), gA_e (yt4 H) (Or.inl rfl) (ix (by omega) (by omega) (by omega)), it_n (by omega), (hT c (by omega)).1, if_pos rfl]
  · rw [if_pos (fun q => by have := (it_eq (by omega) (by omega) (by omega) (by omega)).mp q; omega), if_neg e]
    rfl
theorem s_44 (H : Lay B w) (hT : XT B bs t n c r I) (hn : n ≤ 240) : Cl K (d + 1) 44 [.ref (B + 3)] w I J = some (some (.int (it (tst bs t c : Nat))), w, I, J) := by
  obtain ⟨⟨h4, hT⟩, h5, h6, hc, hr⟩ := hT
  apply cl_44 (k := 0)
  unfold f_44
  simp only [gO_e (yt3 H), gV_e (yp3_1 H), h4, h5]
  rw [if_neg (fun q => by have := (it_le (by omega) (by omega) (by omega) (by omega)).mp q; omega), gA_e (yt5 H) (Or.inl rfl) (ix (by omega) (by omega) (by omega)), it_n (by omega), (hT c (by omega)).2.1]
theorem s_46 (H : Lay B w) (hT : XT B bs t n c r I) (hn : n ≤ 240) : Cl K (d + 1) 46 [.ref (B + 3)] w I J = some (some (.int (it (tvl bs t c : Nat))), w, I, J) := by
  obtain ⟨⟨h4, hT⟩, h5, h6, hc, hr⟩ := hT
  apply cl_46 (k := 0)
  unfold f_46
  simp only [gO_e (yt3 H), gV_e (yp3_2 H), h4, h5]
  rw [if_neg (fun q => by have := (it_le (by omega) (by omega) (by omega) (by omega)).mp q; omega), gA_e (yt6 H) (Or.inl rfl) (ix (by omega) (by omega) (by omega)), it_n (by omega), (hT c (by omega)).2.2]
theorem XT_u {x : Int32} {j c' r' : Nat} (hj : j = 5 ∨ j = 6) (h5 : sm_up2 I (B + 3) j x (B + 3) 5 = it c') (h6 : sm_up2 I (B + 3) j x (B + 3) 6 = it r') (hc : c' ≤ n) (hr : r' ≤ 1) (hT : XT B bs t n c r I) : XT B bs t n c' r' (sm_up2 I (B + 3) j x) := by
  refine ⟨⟨?_, fun b hb => ?_⟩, h5, h6, hc, hr⟩
  · rw [up2_r, up1_n (by omega)]; exact hT.1.1
  · rw [up2_n (by omega), up2_n (by omega), up2_n (by omega)]; exact hT.1.2 b hb
theorem s_42 (H : Lay B w) (hT : XT B bs t n c r I) (hn : n ≤ 240) : ∃ I', Cl K (d + 1) 42 [.ref (B + 3)] w I J = some (none, w, I', J) ∧ XT B bs t n (if r = 0 ∧ c < n then c + 1 else c) r I' ∧ FX3 B I I' := by
  have hT' := hT
  obtain ⟨⟨h4, _⟩, h5, h6, hc, hr⟩ := hT'
  by_cases e : r = 0
  · by_cases e2 : c < n
    · refine ⟨sm_up2 I (B + 3) 5 (it ((c + 1 : Nat) : Int)), ?_, ?_, fun b hb => up2_n hb⟩
      · apply cl_42 (k := 0)
        unfold f_42
        simp only [it_lit, lt_p, gO_e (yt3 H), h4, h5, h6, it_add]
        subst e
        rw [if_neg (fun q => q rfl), if_neg (fun q => by have := (it_le (by omega) (by omega) (by omega) (by omega)).mp q; omega)]
        rfl
      · rw [if_pos ⟨e, e2⟩]
        exact XT_u (Or.inl rfl) (by rw [up2_r, up1_s]) (by rw [up2_r, up1_n (by omega)]; exact h6) (by omega) hr hT
    · refine ⟨I, ?_, ?_, fun b hb => rfl⟩
      · apply cl_42 (k := 0)
        unfold f_42
        simp only [it_lit, lt_p, gO_e (yt3 H), h4, h5, h6, it_add]
        subst e
        rw [if_neg (fun q => q rfl), if_pos ((it_le (by omega) (by omega) (by omega) (by omega)).mpr (by omega))]
      · rw [if_neg (fun q => e2 q.2)]; exact hT
  · refine ⟨I, ?_, ?_, fun b hb => rfl⟩
    · apply cl_42 (k := 0)
      unfold f_42
      simp only [it_lit, lt_p, gO_e (yt3 H), h4, h5, h6, it_add]
      rw [if_pos (fun q => by have := (it_eq (by omega) (by omega) (by omega) (by omega)).mp q; omega)]
    · rw [if_neg (fun q => e q.1)]; exact hT
theorem s_43 (H : Lay B w) (hT : XT B bs t n c r I) : ∃ I', Cl K (d + 1) 43 [.ref (B + 3)] w I J = some (none, w, I', J) ∧ XT B bs t n c 1 I' ∧ FX3 B I I' := by
  refine ⟨sm_up2 I (B + 3) 6 (it 1), ?_, XT_u (Or.inr rfl) (by rw [up2_r, up1_n (by omega)]; exact hT.2.1) (by rw [up2_r, up1_s]; rfl) hT.2.2.2.1 (by omega) hT, fun b hb => up2_n hb⟩
  apply cl_43 (k := 0)
  unfold f_43
  simp only [it_lit, lt_p, gO_e (yt3 H)]
/-- next behind a kind that is there -/
theorem s_42k (hX : TX bs t n) (H : Lay B w) (hT : XT B bs t n c r I) (hk : kX bs t c r = k) (h0 : ¬ k = 0) (h3 : ¬ k = 3) : ∃ I', Cl K (d + 1) 42 [.ref (B + 3)] w I J = some (none, w, I', J) ∧ XT B bs t n (c + 1) r I' ∧ FX3 B I I' := by
  obtain ⟨I', e1, e2, e3⟩ := s_42 (K := K) (d := d) (J := J) H hT hX.2.1
  obtain ⟨k1, k2, _⟩ := kX_n hX hT.2.2.2.1 hk h0 h3
  rw [if_pos ⟨k1, k2⟩] at e2
  exact ⟨I', e1, e2, e3⟩
theorem s_41 {kv : Int32} (hX : TX bs t n) (H : Lay B w) (hT : XT B bs t n c r I) (hkv : kv = it k) (h3 : ¬ k = 3) (hk : k < 1000) (h0 : ¬ k = 0) : ∃ I', Cl K (d + 2) 41 [.ref (B + 3), .int kv] w I J = some (none, w, I', J) ∧ XT B bs t n (nxC bs t c r k) (nxR bs t c r k) I' ∧ FX3 B I I' := by
  subst hkv
  have hb := kX_b (bs := bs) (t := t) (c := c) (r := r)
  unfold nxC nxR
  by_cases e : kX bs t c r = k
  · obtain ⟨I', e1, e2, e3⟩ := s_42k (K := K) (d := d) (J := J) hX H hT e h0 h3
    rw [if_pos e, if_pos e]
    refine ⟨I', ?_, e2, e3⟩
    apply cl_41 (k := 0)
    unfold f_41
    simp only [gO_e (yt3 H)]
    rw [s_37 H hT hX.2.1]
    simp only [cI_e, gO_e (yt3 H)]
    rw [if_neg (fun q => q (by rw [e])), e1]
    rfl
  · obtain ⟨I', e1, e2, e3⟩ := s_43 (K := K) (d := d) (J := J) H hT
    rw [if_neg e, if_neg e]
    refine ⟨I', ?_, e2, e3⟩
    apply cl_41 (k := 0)
    unfold f_41
    simp only [gO_e (yt3 H)]
    rw [s_37 H hT hX.2.1]
    simp only [cI_e, gO_e (yt3 H)]
    rw [if_pos (fun q => by have := (it_eq (by omega) (by omega) (by omega) (by omega)).mp q; omega), e1]
    rfl
/-- the end is asked for -/
theorem s_41e (hX : TX bs t n) (H : Lay B w) (hT : XT B bs t n c r I) : ∃ I', Cl K (d + 2) 41 [.ref (B + 3), .int (it 0)] w I J = some (none, w, I', J) ∧ XT B bs t n c (nxR bs t c r 0) I' ∧ FX3 B I I' := by
  have hb := kX_b (bs := bs) (t := t) (c := c) (r := r)
  unfold nxR
  by_cases e : kX bs t c r = 0
  · obtain ⟨I', e1, e2, e3⟩ := s_42 (K := K) (d := d) (J := J) H hT hX.2.1
    have hcn : ¬ c < n := fun h => by
      unfold kX at e
      split at e
      · exact kdo_0 (hX.2.2.2.1 c h) e
      · omega
    rw [if_neg (fun q => hcn q.2)] at e2
    rw [if_pos e]
    refine ⟨I', ?_, e2, e3⟩
    apply cl_41 (k := 0)
    unfold f_41
    simp only [gO_e (yt3 H)]
    rw [s_37 H hT hX.2.1]
    simp only [cI_e, gO_e (yt3 H)]
    rw [if_neg (fun q => q (by rw [e]; rfl)), e1]
    rfl
  · obtain ⟨I', e1, e2, e3⟩ := s_43 (K := K) (d := d) (J := J) H hT
    rw [if_neg e]
    refine ⟨I', ?_, e2, e3⟩
    apply cl_41 (k := 0)
    unfold f_41
    simp only [gO_e (yt3 H)]
    rw [s_37 H hT hX.2.1]
    simp only [cI_e, gO_e (yt3 H)]
    rw [if_pos (fun q => by have := (it_eq (by omega) (by omega) (by omega) (by omega)).mp q; omega), e1]
    rfl
theorem s_45 (hX : TX bs t n) (H : Lay B w) (hT : XT B bs t n c r I) : ∃ I', Cl K (d + 2) 45 [.ref (B + 3)] w I J = some (some (.int (it (if kX bs t c r = 1 then tvl bs t c else 0 : Nat))), w, I', J) ∧ XT B bs t n (nxC bs t c r 1) (nxR bs t c r 1) I' ∧ FX3 B I I' := by
  have hb := kX_b (bs := bs) (t := t) (c := c) (r := r)
  unfold nxC nxR
  by_cases e : kX bs t c r = 1
  · obtain ⟨I', e1, e2, e3⟩ := s_42k (K := K) (d := d) (J := J) hX H hT e (by omega) (by omega)
    rw [if_pos e, if_pos e, if_pos e]
    refine ⟨I', ?_, e2, e3⟩
    apply cl_45 (k := 0)
    unfold f_45
    simp only [it_lit, gO_e (yt3 H)]
    rw [s_37 H hT hX.2.1]
    simp only [cI_e, gO_e (yt3 H)]
    rw [if_pos (by rw [e]; rfl), s_46 H hT hX.2.1]
    simp only [cI_e, gO_e (yt3 H)]
    rw [e1]
    rfl
  · obtain ⟨I', e1, e2, e3⟩ := s_43 (K := K) (d := d) (J := J) H hT
    rw [if_neg e, if_neg e, if_neg e]
    refine ⟨I', ?_, e2, e3⟩
    apply cl_45 (k := 0)
    unfold f_45
    simp only [it_lit, gO_e (yt3 H)]
    rw [s_37 H hT hX.2.1]
    simp only [cI_e, gO_e (yt3 H)]
    rw [if_neg (fun q => by have := (it_eq (by omega) (by omega) (by omega) (by omega)).mp q; omega), e1]
    rfl
/-- a type is there -/
abbrev isT (k : Nat) : Prop := 262 ≤ k ∧ k ≤ 265
theorem s_50 (hX : TX bs t n) (H : Lay B w) (hT : XT B bs t n c r I) : ∃ I', Cl K (d + 2) 50 [.ref (B + 3)] w I J = some (some (.int (it (if isT (kX bs t c r) then kX bs t c r - 262 else 0 : Nat))), w, I', J) ∧ XT B bs t n (if isT (kX bs t c r) then c + 1 else c) (if isT (kX bs t c r) then r else 1) I' ∧ FX3 B I I' := by
  have hb := kX_b (bs := bs) (t := t) (c := c) (r := r)
  by_cases e : isT (kX bs t c r)
  · obtain ⟨I', e1, e2, e3⟩ := s_42k (K := K) (d := d) (J := J) hX H hT rfl (by omega) (by omega)
    rw [if_pos e, if_pos e, if_pos e]
    refine ⟨I', ?_, e2, e3⟩
    apply cl_50 (k := 0)
    unfold f_50
    simp only [it_lit, gO_e (yt3 H)]
    rw [s_37 H hT hX.2.1]
    simp only [cI_e, gO_e (yt3 H), lt_p, it_sub]
    rw [if_neg (fun q => by have := (it_lt (by omega) (by omega) (by omega) (by omega)).mp q; omega), if_pos ((it_le (by omega) (by omega) (by omega) (by omega)).mpr (by omega)), e1]
    simp only [cV_e]
    rw [show ((kX bs t c r : Nat) : Int) - 262 = ((kX bs t c r - 262 : Nat) : Int) by omega]
  · obtain ⟨I', e1, e2, e3⟩ := s_43 (K := K) (d := d) (J := J) H hT
    rw [if_neg e, if_neg e, if_neg e]
    refine ⟨I', ?_, e2, e3⟩
    apply cl_50 (k := 0)
    unfold f_50
    simp only [it_lit, gO_e (yt3 H)]
    rw [s_37 H hT hX.2.1]
    simp only [cI_e, gO_e (yt3 H), lt_p, it_sub]
    have f18 : f_50_18 K 0 (d + 1) (B + 3) (it ((kX bs t c r : Nat) - 262 : Int)) w I J = some (some (.int (it 0)), w, I', J) := by
      unfold f_50_18
      simp only [it_lit, gO_e (yt3 H)]
      rw [e1]
      rfl
    by_cases e2 : kX bs t c r < 262
    · rw [if_pos ((it_lt (by omega) (by omega) (by omega) (by omega)).mpr (by omega)), f18]; rfl
    · rw [if_neg (fun q => by have := (it_lt (by omega) (by omega) (by omega) (by omega)).mp q; omega), if_neg (fun q => by have := (it_le (by omega) (by omega) (by omega) (by omega)).mp q; omega), f18]; rfl
end CTK

def cntB (h : Nat → Bool) : Nat → Nat
  | 0 => 0
  | k + 1 => cntB h k + (if h k = true then 1 else 0)
theorem cntB_le (h : Nat → Bool) : ∀ k, cntB h k ≤ k := by
  intro k
  induction k with
  | zero => exact Nat.le_refl _
  | succ k ih => simp only [cntB]; split <;> omega
theorem cntB_set {h : Nat → Bool} {v : Nat} (hv : h v = false) : ∀ k, cntB (setB h v) k = cntB h k + (if v < k then 1 else 0) := by
  intro k
  induction k with
  | zero => rfl
  | succ k ih =>
    simp only [cntB, ih]
    by_cases e : k = v
    · subst e
      rw [if_neg (Nat.lt_irrefl _), if_pos (by unfold setB; rw [if_pos rfl]), if_neg (by rw [hv]; decide), if_pos (by omega)]
    · have e1 : setB h v k = h k := by unfold setB; rw [if_neg e]
      rw [e1]
      by_cases e2 : v < k
      · simp only [if_pos e2, if_pos (show v < k + 1 by omega)]; omega
      · simp only [if_neg e2, if_neg (show ¬ v < k + 1 by omega)]; omega
/-- closed under the tails -/
def clT (tl : Nat → Nat) (S : Nat → Bool) : Prop := ∀ o, 1 ≤ o → o ≤ 16 → S o = true → ¬ tl o = 0 → S (tl o) = true
theorem pas_p {tl : Nat → Nat} (ht : ∀ o, 1 ≤ o → o ≤ 16 → tl o ≤ 16) : ∀ (k o : Nat) (m : Bool) (h : Nat → Bool), 1 ≤ o → o + k = 17 → (∀ i, h i = true → (pas tl k o m h).2 i = true) ∧ (∀ S, clT tl S → (∀ i, h i = true → S i = true) → ∀ i, (pas tl k o m h).2 i = true → S i = true)
    ∧ ((pas tl k o m h).1 = false → m = false ∧ (pas tl k o m h).2 = h ∧ ∀ q, o ≤ q → q < 17 → h q = true → ¬ tl q = 0 → h (tl q) = true) ∧ (m = false → (pas tl k o m h).1 = true → cntB h 17 < cntB (pas tl k o m h).2 17) ∧ cntB h 17 ≤ cntB (pas tl k o m h).2 17 := by
  intro k
  induction k with
  | zero =>
    intro o m h o1 ho
    exact ⟨fun i hi => hi, fun S _ hs i hi => hs i hi, fun hm => ⟨hm, rfl, fun q h1 h2 => by omega⟩, fun h1 h2 => (by rw [h1] at h2; cases h2), Nat.le_refl _⟩
  | succ k ih =>
    intro o m h o1 ho
    simp only [pas]
    by_cases hc : h o = true ∧ ¬ tl o = 0 ∧ h (tl o) = false
    · rw [if_pos hc]
      obtain ⟨a1, a2, a3, a4, a5⟩ := ih (o + 1) true (setB h (tl o)) (by omega) (by omega)
      have hs : ∀ i, h i = true → setB h (tl o) i = true := fun i hi => by unfold setB; split <;> first | rfl | exact hi
      have hcn : cntB h 17 < cntB (setB h (tl o)) 17 := by rw [cntB_set hc.2.2, if_pos (by have := ht o o1 (by omega); omega)]; omega
      refine ⟨fun i hi => a1 i (hs i hi), fun S hS hh i hi => a2 S hS (fun j hj => ?_) i hi, fun hm => ?_, fun _ _ => by omega, by omega⟩
      · unfold setB at hj
        split at hj
        · rename_i e; rw [e]; exact hS o o1 (by omega) (hh o hc.1) hc.2.1
        · exact hh j hj
      · cases (a3 hm).1
    · rw [if_neg hc]
      obtain ⟨a1, a2, a3, a4, a5⟩ := ih (o + 1) m h (by omega) (by omega)
      refine ⟨a1, a2, fun hm => ?_, a4, a5⟩
      obtain ⟨b1, b2, b3⟩ := a3 hm
      refine ⟨b1, b2, fun q h1 h2 h3 h4 => ?_⟩
      by_cases e : q = o
      · subst e
        cases hx : h (tl q) with
        | true => rfl
        | false => exact absurd ⟨h3, h4, hx⟩ hc
      · exact b3 q (by omega) h2 h3 h4
/-- what the closing of a set gives -/
def isCl (tl : Nat → Nat) (h hF : Nat → Bool) : Prop := (∀ i, h i = true → hF i = true) ∧ clT tl hF ∧ ∀ S, clT tl S → (∀ i, h i = true → S i = true) → ∀ i, hF i = true → S i = true
def wMZ (o : Nat) : Nat → Nat → List (Nat × Int32)
  | 0, _ => []
  | k + 1, i => (154 + 12 * o + i, it 0) :: wMZ o k (i + 1)
def wMF (fd : Nat → Bool) : Nat → Nat → List (Nat × Int32)
  | 0, _ => []
  | k + 1, o => (if fd o = true then wMZ o 12 0 else []) ++ wMF fd k (o + 1)
/-- how many are freed -/
def cF (fd : Nat → Bool) : Nat → Nat → Nat
  | 0, _ => 0
  | k + 1, o => (if fd o = true then 1 else 0) + cF fd k (o + 1)
theorem wFr_cF (fd : Nat → Bool) : ∀ k o, (wFr fd k o).length = cF fd k o := by
  intro k
  induction k with
  | zero => intro o; rfl
  | succ k ih =>
    intro o
    simp only [wFr, cF, List.length_append, ih]
    split <;> rfl
theorem ap_o {l : List (Nat × Int32)} {j : Nat} : ∀ {c : Nat → Int32}, (∀ e ∈ l, ¬ j = e.1) → ap l c j = c j := by
  induction l with
  | nil => intro c _; rfl
  | cons e l ih =>
    intro c h
    show ap l (sm_up1 c e.1 e.2) j = c j
    rw [ih (fun x hx => h x (List.mem_cons_of_mem _ hx)), up1_n (h e List.mem_cons_self)]
theorem wMZ_m {o : Nat} : ∀ (k i : Nat) (e : Nat × Int32), e ∈ wMZ o k i → 154 + 12 * o + i ≤ e.1 ∧ e.1 < 154 + 12 * o + i + k := by
  intro k
  induction k with
  | zero => intro i e h; cases h
  | succ k ih =>
    intro i e h
    rcases List.mem_cons.mp h with rfl | h
    · exact ⟨Nat.le_refl _, by show 154 + 12 * o + i < _; omega⟩
    · have := ih (i + 1) e h; omega
section MGC
variable {K : Nat → Value} {B d k hi fr : Nat} {w : aW} {I : aI} {J : aJ} {n h0 hr : Nat → Int32} {z : Int} {tl : Nat → Nat} {h : Nat → Bool}
theorem l_185f (H : Lay B w) (ht : ∀ o, 1 ≤ o → o ≤ 16 → tl o ≤ 16 ∧ (n (154 + 12 * o) = it 2 → n (156 + 12 * o) = it (tl o)) ∧ (¬ n (154 + 12 * o) = it 2 → tl o = 0)) : ∀ (c k : Nat) (h : Nat → Bool), 17 ≤ cntB h 17 + c → c + 60 ≤ k → ∃ hF kk, 50 ≤ kk ∧ isCl tl h hF ∧ f_185_171 K (k + 1) (d + 1) (B + 46) (it 1) w (nh B n (rowB h0 h) I) J = f_185_258 K kk (d + 1) (B + 46) (it 0) (it 0) (it 1) w (nh B n (rowB h0 hF) I) J := by
  intro c
  induction c with
  | zero =>
    intro k h hc hk
    obtain ⟨a1, a2, a3, a4, a5⟩ := pas_p (tl := tl) (fun o h1 h2 => (ht o h1 h2).1) 16 1 false h (by omega) (by omega)
    cases hm : (pas tl 16 1 false h).1 with
    | true => have := a4 rfl hm; have := cntB_le (pas tl 16 1 false h).2 17; omega
    | false =>
      obtain ⟨b1, b2, b3⟩ := a3 hm
      obtain ⟨k, rfl⟩ : ∃ k', k = k' + 1 := ⟨k - 1, by omega⟩
      refine ⟨h, k, by omega, ⟨fun i hi => hi, fun o o1 o2 ho hz => b3 o o1 (by omega) ho hz, fun S _ hs i hi => hs i hi⟩, ?_⟩
      rw [f_185_171]
      simp only [it_lit, lt_]
      rw [if_neg (by decide)]
      refine Eq.trans (l_185e _ H ht 16 1 (k + 1) false h (by omega) (by omega) (by omega)) ?_
      rw [hm, b2, f_185_171]
      simp only [it_lit, lt_]
      rw [if_pos (by decide)]
      rfl
  | succ c ih =>
    intro k h hc hk
    obtain ⟨a1, a2, a3, a4, a5⟩ := pas_p (tl := tl) (fun o h1 h2 => (ht o h1 h2).1) 16 1 false h (by omega) (by omega)
    obtain ⟨k, rfl⟩ : ∃ k', k = k' + 1 := ⟨k - 1, by omega⟩
    cases hm : (pas tl 16 1 false h).1 with
    | true =>
      have hlt := a4 rfl hm
      obtain ⟨hF, kk, k5, ⟨c1, c2, c3⟩, e⟩ := ih k (pas tl 16 1 false h).2 (by omega) (by omega)
      refine ⟨hF, kk, k5, ⟨fun i hi => c1 i (a1 i hi), c2, fun S hS hs i hi => c3 S hS (fun j hj => a2 S hS hs j hj) i hi⟩, ?_⟩
      rw [f_185_171]
      simp only [it_lit, lt_]
      rw [if_neg (by decide)]
      refine Eq.trans (l_185e _ H ht 16 1 (k + 1) false h (by omega) (by omega) (by omega)) ?_
      rw [hm]
      exact e
    | false =>
      obtain ⟨b1, b2, b3⟩ := a3 hm
      refine ⟨h, k, by omega, ⟨fun i hi => hi, fun o o1 o2 ho hz => b3 o o1 (by omega) ho hz, fun S _ hs i hi => hs i hi⟩, ?_⟩
      rw [f_185_171]
      simp only [it_lit, lt_]
      rw [if_neg (by decide)]
      refine Eq.trans (l_185e _ H ht 16 1 (k + 1) false h (by omega) (by omega) (by omega)) ?_
      rw [hm, b2, f_185_171]
      simp only [it_lit, lt_]
      rw [if_pos (by decide)]
      rfl
theorem l_185g {o : Nat} {l1 l2 : Int32} (r258 : Nat → Int32 → Int32 → Int32 → aW → aI → aJ → Option aR) (H : Lay B w) (o1 : 1 ≤ o) (o2 : o ≤ 16) : ∀ (m i k : Nat) (n : Nat → Int32), i + m = 12 → m < k → f_185_292 K k (d + 1) r258 (B + 46) l1 l2 (it o) (it i) w (nh B n hr I) J = r258 (B + 46) l1 l2 (it (o + 1)) w (nh B (ap (wMZ o m i) n) hr I) J := by
  intro m
  induction m with
  | zero =>
    intro i k n h1 hk
    obtain ⟨k, rfl⟩ : ∃ k', k = k' + 1 := ⟨k - 1, by omega⟩
    rw [f_185_292]
    unfold f_185_317
    simp only [it_lit, gO_e (yt46 H), gV_e (yp46_36 H), gV_e (yp46_18 H), gV_e (yp46_43 H), gn1 H, gn2 H, gn5 H, gw5 H, cl0, cl1, cl2, cl3, cl4, cl5, cl6, cI_e, cV_e, cA_e, cJ_e, lt_, nw_r, nw_u, it_add]
    rw [if_pos ((it_le (by omega) (by omega) (by omega) (by omega)).mpr (by omega))]
    rfl
  | succ m ih =>
    intro i k n h1 hk
    obtain ⟨k, rfl⟩ : ∃ k', k = k' + 1 := ⟨k - 1, by omega⟩
    rw [f_185_292]
    simp only [it_lit, gO_e (yt46 H), gV_e (yp46_36 H), gV_e (yp46_18 H), gV_e (yp46_43 H), gn1 H, gn2 H, gn5 H, gw5 H, cl0, cl1, cl2, cl3, cl4, cl5, cl6, cI_e, cV_e, cA_e, cJ_e, lt_, nw_r, nw_u, it_add]
    rw [if_neg (fun q => by have := (it_le (by omega) (by omega) (by omega) (by omega)).mp q; omega), s_183]
    simp only [gO_e (yt46 H), gV_e (yp46_36 H), gV_e (yp46_18 H), gV_e (yp46_43 H), gn1 H, gn2 H, gn5 H, gw5 H, cl0, cl1, cl2, cl3, cl4, cl5, cl6, cI_e, cV_e, cA_e, cJ_e, lt_, nw_r, nw_u, nh_u]
    rw [gA_e (yt65 H) (Or.inl rfl) (ix (by omega) (by omega) (by omega)), it_cl (a := 154 + 12 * (o : Int) + i) (by omega) (by omega), show (154 + 12 * (o : Int) + i).toNat = 154 + 12 * o + i by omega]
    exact ih (i + 1) k _ (by omega) (by omega)
theorem l_185h {fd : Nat → Bool} {n0 : Nat → Int32} {hF : Nat → Bool} {l1 : Int32} (H : Lay B w) (hfd : ∀ o, 1 ≤ o → o ≤ 16 → (fd o = true ↔ hF o = false ∧ ¬ n0 (154 + 12 * o) = it 0)) : ∀ (m o kk q : Nat) (n : Nat → Int32), 1 ≤ o → o + m = 17 → q < o → 14 ≤ kk → (∀ j, 154 + 12 * o ≤ j → n j = n0 j) → n 5 = n0 5 → f_185_258 K (m + kk + 1) (d + 1) (B + 46) l1 (it q) (it o) w (nh B n (rowB h0 hF) I) J = some (some (.int (it ((q + cF fd m o : Nat) : Int))), w, nh B (ap (wMF fd m o ++ [(5, n0 5 + it 1)]) n) (rowB h0 hF) I, J) := by
  intro m
  induction m with
  | zero =>
    intro o kk q n o1 ho hq hk hn h5
    rw [Nat.zero_add, f_185_258]
    simp only [it_lit, gO_e (yt46 H), gV_e (yp46_36 H), gV_e (yp46_18 H), gV_e (yp46_43 H), gn1 H, gn2 H, gn5 H, gw5 H, cl0, cl1, cl2, cl3, cl4, cl5, cl6, cI_e, cV_e, cA_e, cJ_e, lt_, nw_r, nw_u, nh_r, nh_u]
    rw [if_pos ((it_lt (by omega) (by omega) (by omega) (by omega)).mpr (by omega)), h5]
    rfl
  | succ m ih =>
    intro o kk q n o1 ho hq hk hn h5
    rw [show m + 1 + kk + 1 = (m + kk + 1) + 1 by omega, f_185_258]
    unfold f_185_317
    have hfo := hfd o o1 (by omega)
    simp only [it_lit, gO_e (yt46 H), gV_e (yp46_36 H), gV_e (yp46_18 H), gV_e (yp46_43 H), gn1 H, gn2 H, gn5 H, gw5 H, cl0, cl1, cl2, cl3, cl4, cl5, cl6, cI_e, cV_e, cA_e, cJ_e, lt_, nw_r, nw_u, nh_r, it_add]
    rw [if_neg (fun q => by have := (it_lt (by omega) (by omega) (by omega) (by omega)).mp q; omega), s_183]
    simp only [gO_e (yt46 H), gV_e (yp46_36 H), gV_e (yp46_18 H), gV_e (yp46_43 H), gn1 H, gn2 H, gn5 H, gw5 H, cl0, cl1, cl2, cl3, cl4, cl5, cl6, cI_e, cV_e, cA_e, cJ_e, lt_, nw_r, nw_u, nh_r]
    rw [gA_e (yt65 H) (Or.inl rfl) (ix (by omega) (by omega) (by omega)), it_cl (a := 154 + 12 * (o : Int) + 0) (by omega) (by omega), show (154 + 12 * (o : Int) + 0).toNat = 154 + 12 * o by omega, hn _ (by omega)]
    by_cases hz : n0 (154 + 12 * o) = it 0
    · have hf : ¬ fd o = true := fun q => (hfo.mp q).2 hz
      rw [if_pos hz]
      simp only [wMF, cF, if_neg hf]
      refine Eq.trans (ih (o + 1) kk q n (by omega) (by omega) (by omega) hk (fun j hj => hn j (by omega)) h5) ?_
      rw [Nat.zero_add]
      rfl
    · rw [if_neg hz, gA_e (yt70 H) (Or.inl rfl) (ix (by omega) (by omega) (by omega)), it_cl (a := (o : Int)) (by omega) (by omega), Int.toNat_natCast, nh_77, rowB_r (by omega)]
      cases hho : hF o with
      | true =>
        have hf : ¬ fd o = true := fun q => by have := (hfo.mp q).1; rw [hho] at this; cases this
        rw [if_pos (by decide)]
        simp only [wMF, cF, if_neg hf]
        refine Eq.trans (ih (o + 1) kk q n (by omega) (by omega) (by omega) hk (fun j hj => hn j (by omega)) h5) ?_
        rw [Nat.zero_add]
        rfl
      | false =>
        have hf : fd o = true := hfo.mpr ⟨hho, hz⟩
        rw [if_neg (by decide)]
        refine Eq.trans (l_185g _ H o1 (by omega) 12 0 (m + kk + 1) n (by omega) (by omega)) ?_
        refine Eq.trans (ih (o + 1) kk (q + 1) _ (by omega) (by omega) (by omega) hk (fun j hj => ?_) ?_) ?_
        · rw [ap_o (fun e he => by have := wMZ_m 12 0 e he; omega)]
          exact hn j (by omega)
        · rw [ap_o (fun e he => by have := wMZ_m 12 0 e he; omega)]
          exact h5
        · simp only [wMF, cF, if_pos hf]
          rw [show q + 1 + cF fd m (o + 1) = q + (1 + cF fd m (o + 1)) by omega, List.append_assoc, ap_app (wMZ o 12 0)]
/-- clears -/
theorem s_185 {ff cn ty v : Nat → Nat} {vt vv : Nat → Nat → Nat} (H : Lay B w) (h1 : n 1 = it fr) (f8 : fr ≤ 8) (h2 : n 2 = it hi) (hh : hi ≤ 30) (hv : ∀ i, i < hi → n (40 + i) = it (ty i) ∧ ty i ≤ 3 ∧ (2 ≤ ty i → n (10 + i) = it (v i) ∧ v i ≤ 16))
    (hf : ∀ j, j < fr → n (70 + 8 * j) = it (ff j) ∧ ff j < 5 ∧ I (B + 58) (10 * ff j + 2) = it (cn j) ∧ cn j ≤ 6 ∧ ∀ v, v < cn j → I (B + 58) (10 * ff j + 4 + v) = it (vt j v) ∧ vt j v ≤ 3 ∧ (2 ≤ vt j v → n (72 + 8 * j + v) = it (vv j v) ∧ vv j v ≤ 16))
    (ht : ∀ o, 1 ≤ o → o ≤ 16 → tl o ≤ 16 ∧ (n (154 + 12 * o) = it 2 → n (156 + 12 * o) = it (tl o)) ∧ (¬ n (154 + 12 * o) = it 2 → tl o = 0)) :
    ∃ hF : Nat → Bool, isCl tl (marks (rtS ty v hi 0 ++ rtF cn vt vv fr 0) (fun _ => false)) hF ∧ ∀ fd : Nat → Bool, (∀ o, 1 ≤ o → o ≤ 16 → (fd o = true ↔ hF o = false ∧ ¬ n (154 + 12 * o) = it 0)) → ∃ h' : Nat → Int32, Cl K (d + 2) 185 [.ref (B + 46)] w (nw B n I) J = some (some (.int (it (cF fd 16 1 : Int))), w, nh B (ap (wMF fd 16 1 ++ [(5, n 5 + it 1)]) n) h' I, J) := by
  have e0 : nw B n I = nh B n (I (B + 70)) I := by
    unfold nh
    rw [up1_id]
  obtain ⟨hF, kk, k5, hcl, e⟩ := l_185f (K := K) (d := d) (J := J) (I := I) (h0 := I (B + 70)) (tl := tl) H ht 17 100 (marks (rtS ty v hi 0 ++ rtF cn vt vv fr 0) (fun _ => false)) (by omega) (by omega)
  refine ⟨hF, hcl, fun fd hfd => ⟨rowB (I (B + 70)) hF, cl_185 (k := 17 + (hi + (fr + 101 + 1) + 1) + 1) ?_⟩⟩
  · rw [e0]
    unfold f_185
    refine Eq.trans (l_185a H 17 0 (hi + (fr + 101 + 1) + 1) (I (B + 70)) (by omega) (fun j hj => by omega)) ?_
    refine Eq.trans (l_185b (ty := ty) (v := v) H h2 hh hv hi 0 (fr + 101 + 1) _ rfl (by omega)) ?_
    refine Eq.trans (l_185d (ff := ff) (cn := cn) (vt := vt) (vv := vv) H h1 f8 hf fr 0 101 _ (mk0 _ _ rfl) (by omega) (by omega)) ?_
    rw [← marks_app]
    refine Eq.trans e ?_
    refine Eq.trans (congrArg (fun k => f_185_258 K k (d + 1) (B + 46) (it 0) (it 0) (it 1) w (nh B n (rowB (I (B + 70)) hF) I) J) (show kk = 16 + (kk - 17) + 1 by omega)) ?_
    refine Eq.trans (l_185h (fd := fd) (n0 := n) H hfd 16 1 (kk - 17) 0 n (by omega) (by omega) (by omega) (by omega) (fun _ _ => rfl) rfl) ?_
    rw [Nat.zero_add]
end MGC

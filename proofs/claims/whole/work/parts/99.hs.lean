section HS
variable {K : Nat → Value} {B d s m a N F hi pr j f p b : Nat} {fa : Nat → Nat → Nat} {oc ar : Nat → Nat} {sh : Nat → List Nat} {rc : Nat → Bool} {w : aW} {I I' : aI} {J : aJ} {c n : Nat → Int32}
theorem hs_st {q : List Nat} {o av tk pr' : Nat} {wo wl : List (Nat × Int32)} (H : Lay B w) (hp : w.2.1 (B + 29) 0 = some a) (ha : a = B + 8 ∨ a = B + 22) (TC : gTC (N, F, fa, oc, ar, sh, rc)) (gx : gX (N, F, fa, oc, ar, sh, rc) a I J) (X : XM B s m c I) (hm : m < 20) (R : mRel fa c n) (T : mTop N F fa oc ar sh n hi pr j f p b) (n0 : n 0 = it 0) (R1 : mRel fa (ap wo c) (ap wl n)) (T1 : mTop N F fa oc ar sh (ap wl n) hi pr' j f p b) (n10 : ap wl n 0 = it 0) (hsh : sh p = q) (hs' : sh (p + 1) = []) (hq : q.length = tk) (q2 : fa f 0 ≤ p + 1) (q3 : p + 1 < gEnd N F fa f) (q1 : p + 1 < 200) (hl : wo.length ≤ 11) (hb : ∀ e ∈ wo, e.1 < 327) (hw : ∀ e ∈ wl, ¬ 71 + 8 * j = e.1) (hw2 : ∀ e ∈ wl, ¬ 2 = e.1) (ho : o = 21 ∨ o = 22 ∨ o = 26) (hk : tK o = tk)
    (hX : Cl K (d + 5) 159 [.ref (B + 29), .int (it o), .int (it av)] w I J = some (some (.int (it 0)), w, wrs B s m (wo ++ wD hi (j + 1) tk (c (88 + 8 * (j + 1 - 1)))) I, J))
    (hG : ∀ (I' : aI) (n' : Nat → Int32), gM (N, F, fa, oc, ar, sh, rc) B I' → (∀ i, ¬ i = 71 + 8 * j → n' i = n i) → Cl K (d + 4) 195 [.ref (B + 46), .int (it o), .int (it av), .int (it (70 + 8 * (((j + 1 : Nat) : Int) - 1)))] w (nw B n' I') J = some (none, w, nw B (ap wl n') I', J)) : Sim K d B s m w J (N, F, fa, oc, ar, sh, rc) I c n j o av := by
  have hP : PL w a := PLx H ha; obtain ⟨g1, g2, g3, g4, g5, g6, g7, g8, g9⟩ := tc_g TC; obtain ⟨a1, a2, a3, a4, a5, a6, a7, a8, a9, a10, a11, a12, a13, a14, a15, a16, a17, a18⟩ := id T; obtain ⟨x1, x2, x3, x4⟩ := id gx; have h3 : c 3 = it hi := R.2.2.2.1.trans a3; have h4 : c 4 = it ((j + 1 : Nat) : Int) := R.2.2.2.2.1.trans a1; have f1 : 1 ≤ j + 1 := Nat.le_add_left 1 j; have f2 : j + 1 ≤ 8 := a2
  have hlen : (sh p).length = tk := by rw [hsh, hq]
  have hl14 := a14.1
  refine sim_st (q := q) (r := []) (wo := wo) (wl := wl) H hp ha TC gx X hm R T n0 R1 T1 n10 (by rw [hsh, List.append_nil]) hs' hq q2 q3 q1 hl hb hw hX (fun I' gm => ?_)
  have hG' := hG I' (sm_up1 n (71 + 8 * j) (it (p + 1))) gm (fun i hi => up1_n hi)
  have := e_188 (d := d + 1) (wl := wl) (a := it av) (f := f) (p := p) (fr := j + 1) (hi := hi) (o := o) H f1 f2 a4 a7 a8 (by omega) ho (by omega) hG' (by rw [ap_o hw2]; show sm_up1 n (71 + 8 * (j + 1 - 1)) _ 2 = _; rw [up1_n (by omega)]; exact a3)
  rw [hk] at this
  exact this
/-- ops 21, 22, 26 -/
theorem hs_c {s' : List Nat} (H : Lay B w) (hp : w.2.1 (B + 29) 0 = some a) (ha : a = B + 8 ∨ a = B + 22) (TC : gTC (N, F, fa, oc, ar, sh, rc)) (gx : gX (N, F, fa, oc, ar, sh, rc) a I J) (X : XM B s m c I) (hm : m < 20) (R : mRel fa c n) (T : mTop N F fa oc ar sh n hi pr j f p b) (n0 : n 0 = it 0) (hE : gEf fa f (oc p) (ar p) (sh p) s') (hs' : sh (p + 1) = s') (q2 : fa f 0 ≤ p + 1) (q3 : p + 1 < gEnd N F fa f) (q1 : p + 1 < 200) (ho : oc p = 21 ∨ oc p = 22 ∨ oc p = 26) : HS K d B s m w J (N, F, fa, oc, ar, sh, rc) I c n j (oc p) (ar p) := by
  have hP : PL w a := PLx H ha; obtain ⟨g1, g2, g3, g4, g5, g6, g7, g8, g9⟩ := tc_g TC; obtain ⟨a1, a2, a3, a4, a5, a6, a7, a8, a9, a10, a11, a12, a13, a14, a15, a16, a17, a18⟩ := id T; obtain ⟨x1, x2, x3, x4⟩ := id gx; have h3 : c 3 = it hi := R.2.2.2.1.trans a3; have h4 : c 4 = it ((j + 1 : Nat) : Int) := R.2.2.2.2.1.trans a1; have f1 : 1 ≤ j + 1 := Nat.le_add_left 1 j; have f2 : j + 1 ≤ 8 := a2
  have hlen := a14.1
  have fr := fr8 a1 a2
  have v1 : 1 ≤ hi → c (6 + hi) = n (9 + hi) := fun h => rel_v (i := 0) R a4 (by omega)
  have v2 : 2 ≤ hi → c (5 + hi) = n (8 + hi) := fun h => by
    have := rel_v (i := 1) R a4 (by omega)
    rw [show 6 + hi - 1 = 5 + hi by omega, show 9 + hi - 1 = 8 + hi by omega] at this
    exact this
  have v3 : 3 ≤ hi → c (4 + hi) = n (7 + hi) := fun h => by
    have := rel_v (i := 2) R a4 (by omega)
    rw [show 6 + hi - 2 = 4 + hi by omega, show 9 + hi - 2 = 7 + hi by omega] at this
    exact this
  rcases hE with ⟨o1, _⟩ | ⟨o1, _⟩ | ⟨o1, _⟩ | ⟨o1, _⟩ | ⟨o1, _⟩ | ⟨r, h⟩ | ⟨o1, o2, e0, e1⟩ | ⟨o1, e0, e1⟩ | ⟨o1, _⟩ | ⟨o1, _⟩ | ⟨o1, _⟩ | ⟨o1, e0, e1⟩ | ⟨o1, _⟩
  · omega
  · omega
  · omega
  · omega
  · omega
  · exfalso
    rcases h with h | h | h | h | h | h | h | h | h | h | h | h <;> omega
  · rw [e1] at hs'
    have hl : (sh p).length = 1 := by rw [e0]; rfl
    have v6 := g3 f a9
    have t3 := g4 f a9 _ o2
    have ov := top_v (i := 0) (t := fa f (4 + ar p)) T (by omega) (by rw [e0]; rfl) (by omega)
    rw [show 9 + hi - 0 = 9 + hi by omega] at ov
    rw [o1]
    refine Or.inr ⟨fun I' => s_180i (d := d + 3) (by omega), hs_st (wo := [(89 + 8 * j + ar p, c (6 + hi))]) (wl := [(72 + 8 * j + ar p, n (9 + hi))]) (tk := 1) (pr' := pr) H hp ha TC gx X hm R T n0 ?_ ?_ ?_ e0 hs' rfl q2 q3 q1 (by show 1 ≤ 11; omega) ?_ ?_ ?_ (by omega) rfl ?_ (fun I' n' gm hn => ?_)⟩
    · simp only [ap]
      rw [v1 (by omega)]
      exact e_va R a2 (by omega) fr
    · exact top_va g2 g3 T o2 ov
    · simp only [ap]; rw [up1_n (by omega)]; exact n0
    · intro e he
      simp only [List.mem_cons, List.not_mem_nil, or_false] at he
      subst he; dsimp only; omega
    · intro e he
      simp only [List.mem_cons, List.not_mem_nil, or_false] at he
      subst he; dsimp only; omega
    · intro e he
      simp only [List.mem_cons, List.not_mem_nil, or_false] at he
      subst he; dsimp only; omega
    · exact p159s (d := d + 1) H X h3 h4 f1 f2 a4 (by omega) (by omega) (by omega)
    · rw [← hn (9 + hi) (by omega)]
      exact s_195a (d := d + 2) (z := (ar p : Int)) (fr := j + 1) H (by rw [hn _ (by omega)]; exact a3) a4 (by omega) (by omega) f1 f2
  · rw [e1] at hs'
    have hl : (sh p).length = 3 := by rw [e0]; rfl
    have ov := top_v (i := 2) (t := 2) T (by omega) (by rw [e0]; rfl) (by omega)
    rw [show 9 + hi - 2 = 7 + hi by omega] at ov
    obtain ⟨x, z1, z2, hx⟩ := it_ex (n (8 + hi))
    have hon : ∃ q : Nat, q ≤ 16 ∧ n (7 + hi) = it q ∧ (1 ≤ q → n (154 + 12 * q) = it 1) := by
      by_cases hz : n (7 + hi) = it 0
      · exact ⟨0, by omega, hz, fun h => by omega⟩
      · obtain ⟨o, p1, p2, p3, p4⟩ := okv_o ov (by omega) hz
        exact ⟨o, p2, p3, fun _ => p4⟩
    obtain ⟨q, p2, p3, p4⟩ := hon
    have hsz : ∃ sz : Nat, sz ≤ 9 ∧ (1 ≤ q → n (155 + 12 * q) = it sz ∧ c (141 + 11 * q) = it sz) := by
      by_cases hq : 1 ≤ q
      · rcases a18 q hq p2 with ⟨h, _⟩ | ⟨_, sz, h1, h2⟩ | ⟨h, _⟩
        · rw [p4 hq] at h; exact absurd h (by decide)
        · exact ⟨sz, h1, fun _ => ⟨h2, (((R.2.2.2.2.2.2.2.2.2.2 q hq p2).2.1 (p4 hq)).1).trans h2⟩⟩
        · rw [p4 hq] at h; exact absurd h (by decide)
      · exact ⟨0, by omega, fun h => absurd h hq⟩
    obtain ⟨sz, s9, s1⟩ := hsz
    have hw := fun I' : aI => s_180f (K := K) (d := d + 2) (J := J) (I := I') (x := x) (q := q) (sz := sz) H a3 a4 hx z1 z2 p3 p2 (fun h => (s1 h).1) s9
    rw [o1]
    by_cases hz : q = 0 ∨ ¬ (0 ≤ x ∧ x < sz)
    · refine Or.inl ⟨if q = 0 then 4 else 3, by split <;> omega, by split <;> omega, ?_, ?_⟩
      · have := h_169 (K := K) (d := d) (J := J) (q := q) (sz := sz) (x := x) H X h3 h4 f1 f2 a4 (by omega) ((v3 (by omega)).trans p3) p2 (fun h => (s1 h).2) s9 ((v2 (by omega)).trans hx) z1 z2 hz
        have e2 : it (if q = 0 then (4 : Int) else 3) = it ((if q = 0 then 4 else 3 : Nat) : Int) := by split <;> rfl
        rw [e2] at this
        exact p159c H (by omega) this
      · have e2 : it (if q = 0 then (4 : Int) else if 0 ≤ x ∧ x < sz then 0 else 3) = it ((if q = 0 then 4 else 3 : Nat) : Int) := by
          by_cases h : q = 0
          · rw [if_pos h, if_pos h]; rfl
          · rw [if_neg h, if_neg (by omega), if_neg h]; rfl
        simp only [e2] at hw
        exact hw
    · have hq : ¬ q = 0 := fun e => hz (Or.inl e)
      have hxs : 0 ≤ x ∧ x < sz := Classical.byContradiction (fun e => hz (Or.inr e))
      obtain ⟨i, rfl⟩ := z_nat hxs.1
      simp only [if_neg hq, if_pos hxs] at hw
      refine Or.inr ⟨hw, hs_st (wo := [(142 + 11 * q + i, c (6 + hi))]) (wl := [(157 + 12 * q + i, n (9 + hi))]) (tk := 3) (pr' := pr) H hp ha TC gx X hm R T n0 ?_ ?_ ?_ e0 hs' rfl q2 q3 q1 (by show 1 ≤ 11; omega) ?_ ?_ ?_ (by omega) rfl ?_ (fun I' n' gm hn => ?_)⟩
      · simp only [ap]
        rw [v1 (by omega)]
        exact e_ro R (by omega) p2 (by omega) (p4 (by omega)) fr
      · exact top_ro g2 g3 T (by omega) p2 (by omega) (p4 (by omega))
      · simp only [ap]; rw [up1_n (by omega)]; exact n0
      · intro e he
        simp only [List.mem_cons, List.not_mem_nil, or_false] at he
        subst he; dsimp only; omega
      · intro e he
        simp only [List.mem_cons, List.not_mem_nil, or_false] at he
        subst he; dsimp only; omega
      · intro e he
        simp only [List.mem_cons, List.not_mem_nil, or_false] at he
        subst he; dsimp only; omega
      · exact p159c H (by omega) (s_169 H X h3 h4 f1 f2 a4 (by omega) (by omega) ((v3 (by omega)).trans p3) (by omega) p2 (s1 (by omega)).2 s9 ((v2 (by omega)).trans hx) (by omega))
      · rw [← hn (9 + hi) (by omega)]
        exact s_195b (d := d + 2) (z := (ar p : Int)) (fr := j + 1) H (by rw [hn _ (by omega)]; exact a3) a4 (by rw [hn _ (by omega)]; exact hx) (by omega) (by rw [hn _ (by omega)]; exact p3) p2
  · omega
  · omega
  · omega
  · obtain ⟨t, t1, e0⟩ := e0
    rw [e1] at hs'
    have hl : (sh p).length = 1 := by rw [e0]; rfl
    have h5 : c 5 = it pr := R.2.2.2.2.2.1.trans a5
    have hw := fun I' : aI => s_180h (K := K) (d := d + 3) (J := J) (I := I') H a5 a6
    rw [o1]
    by_cases h20 : pr = 20
    · simp only [if_pos h20] at hw
      exact Or.inl ⟨8, by omega, by omega, p159c H (by omega) (h_172 H X h3 h4 f1 f2 a4 h5 (by omega) (by omega)), hw⟩
    · simp only [if_neg h20] at hw
      refine Or.inr ⟨hw, hs_st (wo := [(67 + pr, c (6 + hi)), (5, it (pr + 1))]) (wl := [(134 + pr, n (9 + hi)), (3, it (pr + 1))]) (tk := 1) (pr' := pr + 1) H hp ha TC gx X hm R T n0 ?_ ?_ ?_ e0 hs' rfl q2 q3 q1 (by show 2 ≤ 11; omega) ?_ ?_ ?_ (by omega) rfl ?_ (fun I' n' gm hn => ?_)⟩
      · simp only [ap]
        rw [v1 (by omega)]
        exact e_5 (e_p R (by omega) fr)
      · exact top_pr g2 g3 T (by omega)
      · simp only [ap]; rw [up1_n (by omega), up1_n (by omega)]; exact n0
      · intro e he
        simp only [List.mem_cons, List.not_mem_nil, or_false] at he
        rcases he with rfl | rfl <;> (dsimp only; omega)
      · intro e he
        simp only [List.mem_cons, List.not_mem_nil, or_false] at he
        rcases he with rfl | rfl <;> (dsimp only; omega)
      · intro e he
        simp only [List.mem_cons, List.not_mem_nil, or_false] at he
        rcases he with rfl | rfl <;> (dsimp only; omega)
      · exact p159c H (by omega) (s_172 H X h3 h4 f1 f2 a4 (by omega) (by omega) h5 (by omega))
      · rw [← hn (9 + hi) (by omega)]
        exact s_195c (d := d + 2) (z := (ar p : Int)) (fr := j + 1) H (by rw [hn _ (by omega)]; exact a3) a4 (by rw [hn _ (by omega)]; exact a5) (by omega)
  · omega
/-- ops 23, 24 -/
theorem hs_d {s' : List Nat} (H : Lay B w) (hp : w.2.1 (B + 29) 0 = some a) (ha : a = B + 8 ∨ a = B + 22) (TC : gTC (N, F, fa, oc, ar, sh, rc)) (gx : gX (N, F, fa, oc, ar, sh, rc) a I J) (X : XM B s m c I) (hm : m < 20) (R : mRel fa c n) (T : mTop N F fa oc ar sh n hi pr j f p b) (n0 : n 0 = it 0) (hE : gEf fa f (oc p) (ar p) (sh p) s') (hs' : sh (p + 1) = s') (q2 : fa f 0 ≤ p + 1) (q3 : p + 1 < gEnd N F fa f) (q1 : p + 1 < 200) (u2 : fa f 0 ≤ ar p) (u3 : ar p < gEnd N F fa f) (u1 : ar p < 200) (us : sh (ar p) = []) (ho : oc p = 23 ∨ oc p = 24) : HS K d B s m w J (N, F, fa, oc, ar, sh, rc) I c n j (oc p) (ar p) := by
  have hP : PL w a := PLx H ha; obtain ⟨g1, g2, g3, g4, g5, g6, g7, g8, g9⟩ := tc_g TC; obtain ⟨a1, a2, a3, a4, a5, a6, a7, a8, a9, a10, a11, a12, a13, a14, a15, a16, a17, a18⟩ := id T; obtain ⟨x1, x2, x3, x4⟩ := id gx; have h3 : c 3 = it hi := R.2.2.2.1.trans a3; have h4 : c 4 = it ((j + 1 : Nat) : Int) := R.2.2.2.2.1.trans a1; have f1 : 1 ≤ j + 1 := Nat.le_add_left 1 j; have f2 : j + 1 ≤ 8 := a2
  have hlen := a14.1
  have pp := (rel_p R a1 a2).2.1
  have v1 : 1 ≤ hi → c (6 + hi) = n (9 + hi) := fun h => rel_v (i := 0) R a4 (by omega)
  rcases hE with ⟨o1, _⟩ | ⟨o1, _⟩ | ⟨o1, _⟩ | ⟨o1, _⟩ | ⟨o1, _⟩ | ⟨r, h⟩ | ⟨o1, _⟩ | ⟨o1, _⟩ | ⟨o1, e0, e1⟩ | ⟨o1, e0, e1⟩ | ⟨o1, _⟩ | ⟨o1, _⟩ | ⟨o1, _⟩
  · omega
  · omega
  · omega
  · omega
  · omega
  · exfalso
    rcases h with h | h | h | h | h | h | h | h | h | h | h | h <;> omega
  · omega
  · omega
  · rw [e1] at hs'
    have hl : (sh p).length = 1 := by rw [e0]; rfl
    rw [o1]
    have hM := fun (I' : aI) (gm : gM (N, F, fa, oc, ar, sh, rc) B I') => b_188 (K := K) (d := d + 1) (J := J) (I := I') (o := 23) (t := ar p) (f := f) (p := p) (fr := j + 1) H a3 a4 f1 f2 a7 a8 (by omega) (by omega) (by omega) (by show 1 ≤ hi; omega)
    have hX := p159b (o := 23) (d := d + 4) H (by omega) (s_170 (K := K) (J := J) (v := it (ar p)) H X h3 h4 f1 f2 a4 (by omega) (by omega))
    refine Or.inr ⟨fun I' => s_180i (d := d + 3) (by omega), _, _, ?_, ?_, hX, hM, ?_⟩
    · rw [List.length_append]
      show 2 + _ ≤ 15
      split
      · show 2 + 1 ≤ 15; omega
      · show 2 + 0 ≤ 15; omega
    · intro e he
      rcases List.mem_append.mp he with he | he
      · exact wD_b (by omega) e he
      · by_cases hz : c (6 + hi) = it 0
        · rw [if_pos hz] at he
          simp only [List.mem_cons, List.not_mem_nil, or_false] at he
          subst he; dsimp only; omega
        · rw [if_neg hz] at he; cases he
    · rw [nDb]
      show mRel fa _ (nD n (hi - 1) j _) ∧ mOK _ (nD n (hi - 1) j _)
      by_cases hz : n (9 + hi) = it 0
      · rw [if_pos (Or.inr hz), if_pos ((v1 (by omega)).trans hz), ap_app, apD]
        obtain ⟨w1, w2⟩ := fin_D (q := [1]) (r := []) (p' := ar p) TC R T n0 e0 us u1 u2 u3
        refine ⟨?_, w2⟩
        have : ap [(88 + 8 * (j + 1 - 1), it (ar p : Int))] (cD c (hi - 1) j (c (88 + 8 * (j + 1 - 1)) + it 1)) = cD c (hi - 1) j (it (ar p)) := by
          simp only [ap, cD]
          rw [show j + 1 - 1 = j by omega, up1_up1]
        rw [this]
        exact w1
      · rw [if_neg (fun q => hz ((v1 (by omega)).symm.trans q)), if_neg (fun q => Or.elim q (by omega) hz), List.append_nil, apD, show j + 1 - 1 = j by omega, pp, a8, it_add]
        exact fin_D (q := [1]) (r := []) (p' := p + 1) TC R T n0 e0 hs' q1 q2 q3
  · rw [e1] at hs'
    have hl : (sh p).length = 0 := by rw [e0]; rfl
    rw [o1]
    have hM := fun (I' : aI) (gm : gM (N, F, fa, oc, ar, sh, rc) B I') => b_188 (K := K) (d := d + 1) (J := J) (I := I') (o := 24) (t := ar p) (f := f) (p := p) (fr := j + 1) H a3 a4 f1 f2 a7 a8 (by omega) (by omega) (by omega) (by show 0 ≤ hi; omega)
    have hX := p159b (o := 24) (d := d + 4) H (by omega) (s_162 (K := K) (J := J) (d := d + 2) (v := it (ar p)) (fr := j + 1) H X (by omega) h4 f1 f2)
    refine Or.inr ⟨fun I' => s_180i (d := d + 3) (by omega), [(88 + 8 * (j + 1 - 1), it (ar p))], _, by show 1 ≤ 15; omega, ?_, hX, hM, ?_⟩
    · intro e he
      simp only [List.mem_cons, List.not_mem_nil, or_false] at he
      subst he; dsimp only; omega
    · rw [nDb]
      show mRel fa _ (nD n (hi - 0) j _) ∧ mOK _ (nD n (hi - 0) j _)
      rw [if_pos (Or.inl rfl)]
      obtain ⟨w1, w2⟩ := fin_D (q := []) (r := []) (p' := ar p) TC R T n0 e0 us u1 u2 u3
      refine ⟨?_, w2⟩
      have : ap [(88 + 8 * (j + 1 - 1), it (ar p : Int))] c = cD c (hi - 0) j (it (ar p)) := by
        simp only [ap, cD]
        rw [show j + 1 - 1 = j by omega, show hi - 0 = hi by omega, ← h3, up1_id]
      rw [this]
      exact w1
  · omega
  · omega
  · omega
end HS

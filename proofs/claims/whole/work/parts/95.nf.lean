/-! normal forms of what an op leaves in both machines -/
theorem up1_c {α : Type} {f : Nat → α} {a b : Nat} {x y : α} (h : ¬ a = b) : sm_up1 (sm_up1 f a x) b y = sm_up1 (sm_up1 f b y) a x := by
  funext i
  simp only [up1_a]
  by_cases h1 : i = b
  · rw [if_pos h1, if_neg (by omega), if_pos h1]
  · rw [if_neg h1, if_neg h1]
theorem ap_c {l : List (Nat × Int32)} {k : Nat} {x : Int32} : ∀ {n : Nat → Int32}, (∀ e ∈ l, ¬ k = e.1) → ap l (sm_up1 n k x) = sm_up1 (ap l n) k x := by
  induction l with
  | nil => intro n _; rfl
  | cons e l ih =>
    intro n h
    show ap l (sm_up1 (sm_up1 n k x) e.1 e.2) = sm_up1 (ap l (sm_up1 n e.1 e.2)) k x
    rw [up1_c (h e List.mem_cons_self), ih (fun x hx => h x (List.mem_cons_of_mem _ hx))]
section NF
variable {K : Nat → Value} {B d s m a N F hi pr j f p b : Nat} {fa : Nat → Nat → Nat} {oc ar : Nat → Nat} {sh : Nat → List Nat} {rc : Nat → Bool} {w : aW} {I I' : aI} {J : aJ} {c n : Nat → Int32}
theorem apR {hi j tk : Nat} {q v ty : Int32} {c : Nat → Int32} (h : tk ≤ hi) : ap (wR hi (j + 1) tk q v ty) c = cR c (hi - tk) j (q + it 1) v ty := by
  simp only [ap, wR]
  rw [show 7 + hi - tk = 7 + (hi - tk) by omega, show 37 + hi - tk = 37 + (hi - tk) by omega, show j + 1 - 1 = j by omega]
  rfl
theorem apD {hi j tk : Nat} {q : Int32} {c : Nat → Int32} : ap (wD hi (j + 1) tk q) c = cD c (hi - tk) j (q + it 1) := rfl
theorem nRc {hi j : Nat} {q v ty : Int32} {n : Nat → Int32} (h30 : hi < 30) : ap [(71 + 8 * (j + 1 - 1), q), (10 + hi, v), (40 + hi, ty), (2, it (hi + 1))] n = nR n hi j q v ty := by
  simp only [ap, nR]
  rw [show j + 1 - 1 = j by omega, up1_c (a := 71 + 8 * j) (b := 10 + hi) (by omega), up1_c (a := 71 + 8 * j) (b := 40 + hi) (by omega), up1_c (a := 71 + 8 * j) (b := 2) (by omega)]
  rfl
theorem nRd {hi j tk : Nat} {q v ty : Int32} {n : Nat → Int32} {wg : List (Nat × Int32)} (h30 : hi ≤ 30) (h1 : tk ≤ hi) (h2 : 1 ≤ tk) (hw : ∀ e ∈ wg, ¬ 71 + 8 * j = e.1) : ap ((71 + 8 * (j + 1 - 1), q) :: (wg ++ [(2, it ((hi - tk : Nat) : Int)), (10 + hi - tk, v), (40 + hi - tk, ty), (2, it ((hi - tk + 1 : Nat) : Int))])) n = nR (ap wg n) (hi - tk) j q v ty := by
  simp only [ap, ap_app, nR]
  rw [show j + 1 - 1 = j by omega, ap_c hw, show 10 + hi - tk = 10 + (hi - tk) by omega, show 40 + hi - tk = 40 + (hi - tk) by omega]
  rw [up1_c (a := 71 + 8 * j) (b := 2) (by omega), up1_c (a := 71 + 8 * j) (b := 10 + (hi - tk)) (by omega), up1_c (a := 71 + 8 * j) (b := 40 + (hi - tk)) (by omega), up1_c (a := 71 + 8 * j) (b := 2) (by omega)]
  rw [up1_c (a := 2) (b := 10 + (hi - tk)) (by omega), up1_c (a := 2) (b := 40 + (hi - tk)) (by omega), up1_up1]
theorem nDe {hi j tk : Nat} {q : Int32} {n : Nat → Int32} {wl : List (Nat × Int32)} (hw : ∀ e ∈ wl, ¬ 71 + 8 * j = e.1) : ap ((71 + 8 * (j + 1 - 1), q) :: (wl ++ [(2, it ((hi - tk : Nat) : Int))])) n = nD (ap wl n) (hi - tk) j q := by
  simp only [ap, ap_app, nD]
  rw [show j + 1 - 1 = j by omega, ap_c hw, up1_c (a := 71 + 8 * j) (b := 2) (by omega)]
theorem nDb {h j : Nat} {q : Int32} {n : Nat → Int32} : ap [(71 + 8 * (j + 1 - 1), q), (2, it (h : Int))] n = nD n h j q := by
  simp only [ap, nD]
  rw [show j + 1 - 1 = j by omega, up1_c (a := 71 + 8 * j) (b := 2) (by omega)]
theorem wR_b {hi fr tk : Nat} {q v ty : Int32} (h30 : hi ≤ 30) (f2 : fr ≤ 8) : ∀ e ∈ wR hi fr tk q v ty, e.1 < 327 := by
  intro e he
  simp only [wR, List.mem_cons, List.not_mem_nil, or_false] at he
  rcases he with rfl | rfl | rfl | rfl <;> (dsimp only; omega)
theorem wD_b {hi fr tk : Nat} {q : Int32} (f2 : fr ≤ 8) : ∀ e ∈ wD hi fr tk q, e.1 < 327 := by
  intro e he
  simp only [wD, List.mem_cons, List.not_mem_nil, or_false] at he
  rcases he with rfl | rfl <;> (dsimp only; omega)
theorem wZ_b {o : Nat} (o16 : o ≤ 16) : ∀ (k i : Nat), i + k ≤ 9 → ∀ e ∈ wZ o k i, e.1 < 327 := by
  intro k
  induction k with
  | zero => intro i _ e he; cases he
  | succ k ih =>
    intro i hi e he
    rcases List.mem_cons.mp he with rfl | he
    · dsimp only; omega
    · exact ih (i + 1) (by omega) e he
theorem wV_b {fr pa b : Nat} {c : Nat → Int32} (f2 : fr < 8) : ∀ (k i : Nat), i + k ≤ 6 → ∀ e ∈ wV fr pa b c k i, e.1 < 327 := by
  intro k
  induction k with
  | zero => intro i _ e he; cases he
  | succ k ih =>
    intro i hi e he
    rcases List.mem_cons.mp he with rfl | he
    · dsimp only; omega
    · exact ih (i + 1) (by omega) e he
theorem wFr_b {fd : Nat → Bool} : ∀ (k o : Nat), o + k ≤ 17 → ∀ e ∈ wFr fd k o, e.1 < 327 := by
  intro k
  induction k with
  | zero => intro o _ e he; cases he
  | succ k ih =>
    intro o ho e he
    rcases List.mem_append.mp he with he | he
    · by_cases hf : fd o = true
      · rw [if_pos hf] at he
        rcases List.mem_cons.mp he with rfl | he
        · dsimp only; omega
        · cases he
      · rw [if_neg hf] at he; cases he
    · exact ih (o + 1) (by omega) e he
/-- what the relation says of the top -/
theorem rel_v {i : Nat} (R : mRel fa c n) (hi30 : hi ≤ 30) (h : i < hi) : c (6 + hi - i) = n (9 + hi - i) := by
  have := (R.2.2.2.2.2.2.2.1 (hi - 1 - i) (by omega)).1
  rw [show 7 + (hi - 1 - i) = 6 + hi - i by omega, show 10 + (hi - 1 - i) = 9 + hi - i by omega] at this
  exact this
theorem rel_p (R : mRel fa c n) (h1 : n 1 = it (j + 1)) (j8 : j < 8) : c (87 + 8 * j) = n (70 + 8 * j) ∧ c (88 + 8 * j) = n (71 + 8 * j) ∧ ∀ f v : Nat, n (70 + 8 * j) = it f → f < 5 → v < fa f 2 → v < 6 → c (89 + 8 * j + v) = n (72 + 8 * j + v) := by
  have e : (n 1).toInt = (j : Int) + 1 := by rw [h1, it_toInt (by omega) (by omega)]
  obtain ⟨a1, a2, a3⟩ := R.2.2.2.2.2.2.2.2.2.1 j (by rw [e]; omega)
  rw [e, if_pos rfl] at a2
  exact ⟨a1, a2, a3⟩
/-- what the types say of the top -/
theorem top_v {i t : Nat} (T : mTop N F fa oc ar sh n hi pr j f p b) (h : i < (sh p).length) (ht : (sh p).getD i 0 = t) (t9 : t < 1000000) : okv n t (n (9 + hi - i)) := by
  obtain ⟨a1, a2, a3, a4, a5, a6, a7, a8, a9, a10, a11, a12, a13, a14, a15, a16, a17, a18⟩ := T
  have h1 := a14.2 i h
  have h2 := a14.1
  obtain ⟨t', t1, t2, t3⟩ := a16 (hi - 1 - i) (by omega)
  rw [show 40 + (hi - 1 - i) = 39 + hi - i by omega, h1, ht] at t2
  rw [show 10 + (hi - 1 - i) = 9 + hi - i by omega] at t3
  have e : t = t' := it_inj t9 (by omega) t2
  rw [e]
  exact t3
/-- a value that is a row or a list -/
theorem okv_o {v : Int32} {t : Nat} (h : okv n t v) (t2 : 2 ≤ t) (hz : ¬ v = it 0) : ∃ o : Nat, 1 ≤ o ∧ o ≤ 16 ∧ v = it o ∧ n (154 + 12 * o) = it ((t : Int) - 1) := by
  rcases h with h | h | h
  · omega
  · exact absurd h hz
  · exact h
/-- code at a place -/
theorem tc_at (TC : gTC (N, F, fa, oc, ar, sh, rc)) (hf : f < F) (h1 : fa f 0 ≤ p) (h2 : p < gEnd N F fa f) : p < N ∧ ar p ≤ 99999 ∧ ∃ s', gEf fa f (oc p) (ar p) (sh p) s' ∧ (¬ oc p = 25 → fa f 0 ≤ p + 1 ∧ p + 1 < gEnd N F fa f ∧ p + 1 < 200 ∧ sh (p + 1) = s') ∧ ((oc p = 23 ∨ oc p = 24) → fa f 0 ≤ ar p ∧ ar p < gEnd N F fa f ∧ ar p < 200 ∧ sh (ar p) = []) := by
  obtain ⟨b1, b2, b3, b4, b5, b6⟩ := TC
  obtain ⟨c1, c2, c3, c4, c5, c6, c7, c8⟩ := b4 f hf
  obtain ⟨⟨s', d1, d2, d3⟩, d4⟩ := c8 p h1 h2
  refine ⟨by omega, (b5 p (by omega)).2, s', d1, fun h => ?_, fun h => ?_⟩
  · have := d2 h
    exact ⟨by omega, this, by omega, d3 this⟩
  · obtain ⟨e1, e2, e3⟩ := d4 h
    exact ⟨e1, e2, by omega, e3⟩
theorem tc_g (TC : gTC (N, F, fa, oc, ar, sh, rc)) : N ≤ 200 ∧ F ≤ 5 ∧ (∀ f, f < F → fa f 2 ≤ 6) ∧ (∀ f, f < F → ∀ v, v < fa f 2 → fa f (4 + v) ≤ 3) ∧ (∀ f, f < F → fa f 1 ≤ fa f 2) ∧ (∀ f, f < F → fa f 3 ≤ 3) ∧ (∀ f, f < F → fa f 0 < gEnd N F fa f) ∧ (∀ f, f < F → gEnd N F fa f ≤ N) ∧ (∀ f, f < F → sh (fa f 0) = []) := by
  obtain ⟨b1, b2, b3, b4, b5, b6⟩ := TC
  exact ⟨b1, b2, fun f h => (b4 f h).2.1, fun f h => (b4 f h).2.2.2.1, fun f h => (b4 f h).1, fun f h => (b4 f h).2.2.1, fun f h => (b4 f h).2.2.2.2.1, fun f h => (b4 f h).2.2.2.2.2.1, fun f h => (b4 f h).2.2.2.2.2.2.1⟩
theorem gEf_27 {o x : Nat} {s s' : List Nat} (h : gEf fa f o x s s') : o ≤ 27 := by
  rcases h with h | h | h | h | h | ⟨r, h⟩ | h | h | h | h | h | h | h
  · omega
  · omega
  · omega
  · omega
  · omega
  · rcases h with h | h | h | h | h | h | h | h | h | h | h | h <;> omega
  · omega
  · omega
  · omega
  · omega
  · omega
  · omega
  · omega
/-- a row's number is written in both -/
theorem e_ro {q i : Nat} {v : Int32} (R : mRel fa c n) (q1 : 1 ≤ q) (q2 : q ≤ 16) (i9 : i < 9) (hq : n (154 + 12 * q) = it 1) (h8 : ∀ j : Nat, (j : Int) < (n 1).toInt → j < 8) : mRel fa (sm_up1 c (142 + 11 * q + i) v) (sm_up1 n (157 + 12 * q + i) v) := by
  obtain ⟨r0, r1, r2, r3, r4, r5, r6, r7, r8, r9, r10⟩ := R
  refine ⟨?_, ?_, ?_, ?_, ?_, ?_, ?_, fun i hi => ⟨?_, ?_⟩, fun i hi => ?_, fun j hj => ?_, fun o o1 o2 => ?_⟩
  · rw [up1_n (by omega), up1_n (by omega)]; exact r0
  · rw [up1_n (by omega), up1_n (by omega)]; exact r1
  · rw [up1_n (by omega), up1_n (by omega)]; exact r2
  · rw [up1_n (by omega), up1_n (by omega)]; exact r3
  · rw [up1_n (by omega), up1_n (by omega)]; exact r4
  · rw [up1_n (by omega), up1_n (by omega)]; exact r5
  · rw [up1_n (by omega), up1_n (by omega)]; exact r6
  · rw [up1_n (by omega), up1_n (by omega)]; exact (r7 i hi).1
  · rw [up1_n (by omega), up1_n (by omega)]; exact (r7 i hi).2
  · rw [up1_n (by omega), up1_n (by omega)]; exact r8 i hi
  · rw [up1_n (j := 1) (by omega)] at hj ⊢
    obtain ⟨s1, s2, s3⟩ := r9 j hj
    have j8 := h8 j hj
    refine ⟨by rw [up1_n (by omega), up1_n (by omega)]; exact s1, by rw [up1_n (by omega), up1_n (by omega)]; exact s2, fun f w hf f5 hw w6 => ?_⟩
    rw [up1_n (by omega)] at hf
    rw [up1_n (by omega), up1_n (by omega)]
    exact s3 f w hf f5 hw w6
  · obtain ⟨s1, s2, s3⟩ := r10 o o1 o2
    rw [up1_n (j := 140 + 11 * o) (by omega), up1_n (j := 154 + 12 * o) (by omega)]
    refine ⟨s1, fun h => ?_, fun h => ?_⟩
    · rw [up1_n (j := 141 + 11 * o) (by omega), up1_n (j := 155 + 12 * o) (by omega)]
      refine ⟨(s2 h).1, fun u i1 i2 => ?_⟩
      by_cases e : 142 + 11 * o + u = 142 + 11 * q + i
      · rw [e, show 157 + 12 * o + u = 157 + 12 * q + i by omega, up1_s, up1_s]
      · rw [up1_n e, up1_n (by omega)]
        exact (s2 h).2 u i1 i2
    · by_cases e : o = q
      · subst e; rw [hq] at h; exact absurd h (by decide)
      · rw [up1_n (by omega), up1_n (by omega), up1_n (by omega), up1_n (by omega)]
        exact s3 h
/-- zeros of a new row -/
theorem wZ_ap {o : Nat} : ∀ (k i : Nat) (c : Nat → Int32), (∀ u, u < k → ap (wZ o k i) c (142 + 11 * o + i + u) = it 0) ∧ ∀ q, (q < 142 + 11 * o + i ∨ 142 + 11 * o + i + k ≤ q) → ap (wZ o k i) c q = c q := by
  intro k
  induction k with
  | zero => intro i c; exact ⟨fun u hu => by omega, fun q _ => rfl⟩
  | succ k ih =>
    intro i c
    obtain ⟨a1, a2⟩ := ih (i + 1) (sm_up1 c (142 + 11 * o + i) (it 0))
    refine ⟨fun u hu => ?_, fun q hq => ?_⟩
    · show ap (wZ o k (i + 1)) (sm_up1 c (142 + 11 * o + i) (it 0)) _ = _
      cases u with
      | zero => rw [a2 _ (by omega), Nat.add_zero, up1_s]
      | succ u =>
        have := a1 u (by omega)
        rw [show 142 + 11 * o + (i + 1) + u = 142 + 11 * o + i + (u + 1) by omega] at this
        exact this
    · show ap (wZ o k (i + 1)) (sm_up1 c (142 + 11 * o + i) (it 0)) _ = _
      rw [a2 _ (by omega), up1_n (by omega)]
/-- a new object in both -/
theorem rel_ob {o : Nat} {c' n' : Nat → Int32} (R : mRel fa c n) (o1 : 1 ≤ o) (o2 : o ≤ 16) (h8 : ∀ j : Nat, (j : Int) < (n 1).toInt → j < 8) (hc : ∀ i, (i < 140 + 11 * o ∨ 151 + 11 * o ≤ i) → c' i = c i) (hn : ∀ i, (i < 154 + 12 * o ∨ 166 + 12 * o ≤ i) → n' i = n i)
    (hx : c' (140 + 11 * o) = n' (154 + 12 * o) ∧ (n' (154 + 12 * o) = it 1 → c' (141 + 11 * o) = n' (155 + 12 * o) ∧ ∀ i : Nat, (i : Int) < (n' (155 + 12 * o)).toInt → i < 9 → c' (142 + 11 * o + i) = n' (157 + 12 * o + i)) ∧ (n' (154 + 12 * o) = it 2 → c' (141 + 11 * o) = n' (155 + 12 * o) ∧ c' (142 + 11 * o) = n' (156 + 12 * o))) : mRel fa c' n' := by
  obtain ⟨r0, r1, r2, r3, r4, r5, r6, r7, r8, r9, r10⟩ := R
  refine ⟨?_, ?_, ?_, ?_, ?_, ?_, ?_, fun i hi => ⟨?_, ?_⟩, fun i hi => ?_, fun j hj => ?_, fun q q1 q2 => ?_⟩
  · rw [hc _ (by omega), hn _ (by omega)]; exact r0
  · rw [hc _ (by omega), hn _ (by omega)]; exact r1
  · rw [hc _ (by omega), hn _ (by omega)]; exact r2
  · rw [hc _ (by omega), hn _ (by omega)]; exact r3
  · rw [hc _ (by omega), hn _ (by omega)]; exact r4
  · rw [hc _ (by omega), hn _ (by omega)]; exact r5
  · rw [hc _ (by omega), hn _ (by omega)]; exact r6
  · rw [hc _ (by omega), hn _ (by omega)]; exact (r7 i hi).1
  · rw [hc _ (by omega), hn _ (by omega)]; exact (r7 i hi).2
  · rw [hc _ (by omega), hn _ (by omega)]; exact r8 i hi
  · rw [hn 1 (by omega)] at hj ⊢
    obtain ⟨s1, s2, s3⟩ := r9 j hj
    have j8 := h8 j hj
    refine ⟨by rw [hc _ (by omega), hn _ (by omega)]; exact s1, by rw [hc _ (by omega), hn (71 + 8 * j) (by omega)]; exact s2, fun f w hf f5 hw w6 => ?_⟩
    rw [hn _ (by omega)] at hf
    rw [hc _ (by omega), hn _ (by omega)]
    exact s3 f w hf f5 hw w6
  · by_cases e : q = o
    · subst e; exact hx
    · obtain ⟨s1, s2, s3⟩ := r10 q q1 q2
      rw [hc (140 + 11 * q) (by omega), hn (154 + 12 * q) (by omega), hc (141 + 11 * q) (by omega), hn (155 + 12 * q) (by omega)]
      refine ⟨s1, fun h => ⟨(s2 h).1, fun i i1 i2 => ?_⟩, fun h => ⟨(s3 h).1, ?_⟩⟩
      · rw [hc _ (by omega), hn _ (by omega)]; exact (s2 h).2 i i1 i2
      · rw [hc _ (by omega), hn _ (by omega)]; exact (s3 h).2
/-- a cell that no type sees -/
theorem mOK_u {k : Nat} {v : Int32} {G : aG} (M : mOK G n) (hk : k = 4 ∨ k = 5 ∨ k = 6) : mOK G (sm_up1 n k v) := by
  obtain ⟨N, F, fa, oc, ar, sh, rc⟩ := G
  obtain ⟨⟨h, fr, hi, pr, a0, a1, a2, a3, a4, a5, a6, a7, a8, a9, a10, a11, a12⟩, aO⟩ := M
  have u : ∀ i, (i < 4 ∨ 7 ≤ i) → sm_up1 n k v i = n i := fun i hi => up1_n (by omega)
  have kk : kp n (sm_up1 n k v) := fun o o1 o2 => u _ (by omega)
  refine ⟨⟨h, fr, hi, pr, by rw [u _ (by omega)]; exact a0, by rw [u _ (by omega)]; exact a1, by rw [u _ (by omega)]; exact a2, by rw [u _ (by omega)]; exact a3, a4, a5, a6, a7, a8, a9, fun j f p e1 e2 e3 e4 e5 => ?_, fun i hi => ?_, fun j hj => ?_⟩, okO_k (fun i hi => u _ (by omega)) aO⟩
  · rw [u _ (by omega)] at e2 e3
    obtain ⟨g1, g2, g3, g4⟩ := a10 j f p e1 e2 e3 e4 e5
    exact ⟨g1, g2, okT_k (fun i hi => u _ (by omega)) g3, stk_k _ _ _ (fun i i1 i2 => u _ (by omega)) (fun i hi => u _ (by omega)) g4⟩
  · obtain ⟨t, t1, t2, t3⟩ := a11 i hi
    exact ⟨t, t1, by rw [u _ (by omega)]; exact t2, by rw [u _ (by omega)]; exact okv_k kk t3⟩
  · obtain ⟨f, p, f1, f2, f3, f4, f5⟩ := a12 j hj
    exact ⟨f, p, f1, f2, by rw [u _ (by omega)]; exact f3, by rw [u _ (by omega)]; exact f4, fun v hv => by rw [u _ (by omega)]; exact okv_k kk (f5 v hv)⟩
/-- a halt -/
theorem mOK_h {hc : Nat} (F5 : F ≤ 5) (g6 : ∀ f, f < F → fa f 2 ≤ 6) (T : mTop N F fa oc ar sh n hi pr j f p b) (h1 : 2 ≤ hc) (h8 : hc ≤ 8) : mOK (N, F, fa, oc, ar, sh, rc) (sm_up1 n 0 (it hc)) := by
  have u : ∀ i, 1 ≤ i → sm_up1 n 0 (it (hc : Int)) i = n i := fun i hi => up1_n (by omega)
  have kk : kp n (sm_up1 n 0 (it hc)) := fun o o1 o2 => u _ (by omega)
  have T' : mTop N F fa oc ar sh (sm_up1 n 0 (it hc)) hi pr j f p b := top_s F5 T (u _ (by omega)) (u _ (by omega)) (by rw [u _ (by omega)]; exact T.2.2.2.2.1) T.2.2.2.2.2.1 (fun i hi => ⟨u _ (by omega), u _ (by omega)⟩) (fun i hi => u _ (by omega)) (fun t v _ h => okv_k kk h) (fun i hi => u _ (by omega)) (fun i hi f1 v1 e1 e2 e3 e4 => by rw [u _ (by omega)]; exact okv_k kk e4) (okO_k (fun i hi => u _ (by omega)) T.2.2.2.2.2.2.2.2.2.2.2.2.2.2.2.2.2)
  exact mOK_of F5 T' (up1_s _ _ _) h8 (by omega)
end NF

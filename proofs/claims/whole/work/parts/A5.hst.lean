/-! what can be gone back -/
/-- the class's machine in I, the reference's in Ih -/
def gK2 (G : aG) (B : Nat) (I Ih : aI) : Prop := ∃ kp sl : Nat, kp ≤ 30 ∧ sl < 32 ∧ I (B + 29) 8 = it kp ∧ Ih (B + 46) 41 = it kp ∧ I (B + 29) 7 = it sl ∧ mRel G.2.2.1 (I (B + 30)) (Ih (B + 65)) ∧ mOK G (Ih (B + 65))
  ∧ hst (fun c n => mRel G.2.2.1 c n ∧ mOK G n) (I (B + 32)) (I (B + 33)) (I (B + 34)) (I (B + 35)) (Ih (B + 67)) (Ih (B + 68)) kp sl (I (B + 30))
section HST
variable {K : Nat → Value} {B d s m a N F hi pr j f p b : Nat} {fa : Nat → Nat → Nat} {oc ar : Nat → Nat} {sh : Nat → List Nat} {rc : Nat → Bool} {w : aW} {I I' : aI} {J : aJ} {c n : Nat → Int32}
theorem mOK_x {G : aG} {n' : Nat → Int32} (h : ∀ i, i < 360 → n' i = n i) (F5 : G.2.1 ≤ 5) (g6 : ∀ f, f < G.2.1 → G.2.2.1 f 2 ≤ 6) (M : mOK G n) : mOK G n' := by
  obtain ⟨N, F, fa, oc, ar, sh, rc⟩ := G
  obtain ⟨⟨h', fr, hi, pr, a0, a1, a2, a3, a4, a5, a6, a7, a8, a9, a10, a11, a12⟩, aO⟩ := M
  have kk : kp n n' := fun o o1 o2 => h _ (by omega)
  refine ⟨⟨h', fr, hi, pr, by rw [h _ (by omega)]; exact a0, by rw [h _ (by omega)]; exact a1, by rw [h _ (by omega)]; exact a2, by rw [h _ (by omega)]; exact a3, a4, a5, a6, a7, a8, a9, fun j f p e1 e2 e3 e4 e5 => ?_, fun i hi => ?_, fun j hj => ?_⟩, fun o o1 o2 => ?_⟩
  · rw [h _ (by omega)] at e2 e3
    obtain ⟨g1, g2, g3, g4⟩ := a10 j f p e1 e2 e3 e4 e5
    exact ⟨g1, g2, okT_k (fun i hi => h _ (by omega)) g3, stk_k _ _ _ (fun i i1 i2 => h _ (by omega)) (fun i hi => h _ (by omega)) g4⟩
  · obtain ⟨t, t1, t2, t3⟩ := a11 i hi
    exact ⟨t, t1, by rw [h _ (by omega)]; exact t2, by rw [h _ (by omega)]; exact okv_k kk t3⟩
  · obtain ⟨f, p, f1, f2, f3, f4, f5⟩ := a12 j hj
    have h6 : fa f 2 ≤ 6 := g6 f f1
    exact ⟨f, p, f1, f2, by rw [h _ (by omega)]; exact f3, by rw [h _ (by omega)]; exact f4, fun v hv => by rw [h _ (by omega)]; exact okv_k kk (f5 v hv)⟩
  · rcases aO o o1 o2 with ⟨h1, h2⟩ | ⟨h1, s, h2, h3⟩ | ⟨h1, h2⟩
    · exact Or.inl ⟨by rw [h _ (by omega)]; exact h1, fun i hi => by rw [h _ (by omega)]; exact h2 i hi⟩
    · exact Or.inr (Or.inl ⟨by rw [h _ (by omega)]; exact h1, s, h2, by rw [h _ (by omega)]; exact h3⟩)
    · exact Or.inr (Or.inr ⟨by rw [h _ (by omega)]; exact h1, by rw [h _ (by omega)]; exact okv_k kk h2⟩)
theorem mRel_x {n' : Nat → Int32} (h : ∀ i, i < 360 → n' i = n i) (h8 : ∀ j : Nat, (j : Int) < (n 1).toInt → j < 8) (R : mRel fa c n) : mRel fa c n' := by
  obtain ⟨r0, r1, r2, r3, r4, r5, r6, r7, r8, r9, r10⟩ := R
  refine ⟨by rw [h _ (by omega)]; exact r0, by rw [h _ (by omega)]; exact r1, by rw [h _ (by omega)]; exact r2, by rw [h _ (by omega)]; exact r3, by rw [h _ (by omega)]; exact r4, by rw [h _ (by omega)]; exact r5, by rw [h _ (by omega)]; exact r6, fun i hi => ⟨by rw [h _ (by omega)]; exact (r7 i hi).1, by rw [h _ (by omega)]; exact (r7 i hi).2⟩, fun i hi => by rw [h _ (by omega)]; exact r8 i hi, fun j hj => ?_, fun o o1 o2 => ?_⟩
  · rw [h 1 (by omega)] at hj ⊢
    obtain ⟨s1, s2, s3⟩ := r9 j hj
    have j8 := h8 j hj
    refine ⟨by rw [h _ (by omega)]; exact s1, by rw [h (71 + 8 * j) (by omega)]; exact s2, fun f w hf f5 hw w6 => ?_⟩
    rw [h _ (by omega)] at hf
    rw [h _ (by omega)]
    exact s3 f w hf f5 hw w6
  · obtain ⟨s1, s2, s3⟩ := r10 o o1 o2
    rw [h (154 + 12 * o) (by omega), h (155 + 12 * o) (by omega), h (156 + 12 * o) (by omega)]
    exact ⟨s1, fun e => ⟨(s2 e).1, fun i i1 i2 => by rw [h _ (by omega)]; exact (s2 e).2 i i1 i2⟩, s3⟩
theorem mOK_8 {G : aG} (M : mOK G n) : ∀ j : Nat, (j : Int) < (n 1).toInt → j < 8 := by
  obtain ⟨N, F, fa, oc, ar, sh, rc⟩ := G
  obtain ⟨⟨h', fr, hi, pr, a0, a1, a2, a3, a4, a5, a6⟩, aO⟩ := M
  intro j hj
  rw [a1, it_toInt (by omega) (by omega)] at hj
  omega
/-- what the states kept are like -/
def okH (G : aG) : (Nat → Int32) → (Nat → Int32) → Prop := fun c n => mRel G.2.2.1 c n ∧ mOK G n
theorem okH_x {G : aG} {n' : Nat → Int32} (F5 : G.2.1 ≤ 5) (g6 : ∀ f, f < G.2.1 → G.2.2.1 f 2 ≤ 6) (h : ∀ i, i < 360 → n' i = n i) (o : okH G c n) : okH G c n' :=
  ⟨mRel_x h (mOK_8 o.2) o.1, mOK_x h F5 g6 o.2⟩
theorem uNd_c {nc nc' nn nn' : Nat → Int32} {s : Nat} : ∀ (m : Nat) (c : Nat → Int32), (∀ i, i < m → nc' (36 * s + i) = nc (36 * s + i) ∧ nn' (36 * s + i) = nn (36 * s + i)) → uNd nc' nn' s m c = uNd nc nn s m c := by
  intro m
  induction m with
  | zero => intro c _; rfl
  | succ m ih =>
    intro c h
    show uNd nc' nn' s m (sm_up1 c (nc' (36 * s + m)).toNatClampNeg (nn' (36 * s + m))) = uNd nc nn s m (sm_up1 c (nc (36 * s + m)).toNatClampNeg (nn (36 * s + m)))
    rw [(h m (by omega)).1, (h m (by omega)).2]
    exact ih _ (fun i hi => h i (by omega))
/-- the past's rows may lie elsewhere: δ rows lower -/
theorem hst_c {OK : (Nat → Int32) → (Nat → Int32) → Prop} (hOK : ∀ c n n' : Nat → Int32, (∀ i, i < 360 → n' i = n i) → OK c n → OK c n') {nd nc nn xp pa mp nd' nc' nn' xp' pa' mp' : Nat → Int32} {t : Nat} (h1 : ∀ i, ¬ i = t → nd' i = nd i) (h2 : ∀ i, (i < 36 * t ∨ 36 * t + 36 ≤ i) → nc' i = nc i ∧ nn' i = nn i) (h3 : ∀ i, (i < 4 * t ∨ 4 * t + 4 ≤ i) → xp' i = xp i) : ∀ (k s δ : Nat) (c : Nat → Int32), δ + k ≤ 31 → s < 32 → t = (s + δ) % 32 → (∀ i, i < 360 * k → pa' i = pa i) → (∀ i, i < 4 * k → mp' i = mp i) → hst OK nd nc nn xp pa mp k s c → hst OK nd' nc' nn' xp' pa' mp' k s c := by
  intro k
  induction k with
  | zero => intro s δ c _ _ _ _ _ _; exact True.intro
  | succ k ih =>
    intro s δ c hd hs ht hp hm h
    obtain ⟨m, m1, m2, m3, m4, m5, m6, m7, m8, m9⟩ := h
    have hne : ¬ (s + 31) % 32 = t := by omega
    have e : uNd nc' nn' ((s + 31) % 32) m c = uNd nc nn ((s + 31) % 32) m c := uNd_c m c (fun i hi => h2 _ (by omega))
    refine ⟨m, m1, m2, by rw [h1 _ hne]; exact m3, by rw [(h2 _ (by omega)).1]; exact m4, fun i hi => ?_, fun j hj => ?_, by rw [hp _ (by omega)]; exact m7, ?_, ?_⟩
    · rw [(h2 _ (by omega)).1]; exact m5 i hi
    · rw [h3 _ (by omega), hm _ (by omega)]; exact m6 j hj
    · rw [e]
      exact hOK _ _ _ (fun i hi => hp _ (by omega)) m8
    · rw [e]
      exact ih _ (δ + 1) _ (by omega) (by omega) (by omega) (fun i hi => hp i (by omega)) (fun i hi => hm i (by omega)) m9
/-- the oldest is forgotten -/
theorem hst_d {OK : (Nat → Int32) → (Nat → Int32) → Prop} (hOK : ∀ c n n' : Nat → Int32, (∀ i, i < 360 → n' i = n i) → OK c n → OK c n') {nd nc nn xp pa mp pa' mp' : Nat → Int32} : ∀ (k s : Nat) (c : Nat → Int32), (∀ i, i < 360 * k → pa' i = pa (360 + i)) → (∀ i, i < 4 * k → mp' i = mp (4 + i)) → hst OK nd nc nn xp pa mp (k + 1) s c → hst OK nd nc nn xp pa' mp' k s c := by
  intro k
  induction k with
  | zero => intro s c _ _ _; exact True.intro
  | succ k ih =>
    intro s c hp hm h
    obtain ⟨m, m1, m2, m3, m4, m5, m6, m7, m8, m9⟩ := h
    refine ⟨m, m1, m2, m3, m4, m5, fun j hj => ?_, ?_, ?_, ?_⟩
    · rw [hm _ (by omega), show 4 + (4 * k + j) = 4 * (k + 1) + j by omega]; exact m6 j hj
    · rw [hp _ (by omega), show 360 + 360 * k = 360 * (k + 1) by omega]; exact m7
    · exact hOK _ _ _ (fun i hi => by show pa' (360 * k + i) = pa (360 * (k + 1) + i); rw [hp _ (by omega), show 360 + (360 * k + i) = 360 * (k + 1) + i by omega]) m8
    · exact ih _ _ (fun i hi => hp i (by omega)) (fun i hi => hm i (by omega)) m9
theorem uNd_2 {nc nn : Nat → Int32} {s : Nat} {c' : Nat → Int32} (h2 : nc (36 * s) = it 2) : ∀ (m : Nat) (c c' : Nat → Int32), (∀ i, ¬ i = 0 → ¬ i = 2 → c' i = c i) → 1 ≤ m → ∀ i, ¬ i = 0 → uNd nc nn s m c' i = uNd nc nn s m c i := by
  intro m
  induction m with
  | zero => intro c c' _ h; omega
  | succ m ih =>
    intro c c' hc _ i hi
    show uNd nc nn s m (sm_up1 c' (nc (36 * s + m)).toNatClampNeg (nn (36 * s + m))) i = uNd nc nn s m (sm_up1 c (nc (36 * s + m)).toNatClampNeg (nn (36 * s + m))) i
    by_cases hm : m = 0
    · subst hm
      show sm_up1 c' (nc (36 * s + 0)).toNatClampNeg _ i = sm_up1 c (nc (36 * s + 0)).toNatClampNeg _ i
      rw [Nat.add_zero, h2]
      by_cases e : i = 2
      · subst e
        show sm_up1 c' 2 _ 2 = sm_up1 c 2 _ 2
        rw [up1_s, up1_s]
      · show sm_up1 c' 2 _ i = sm_up1 c 2 _ i
        rw [up1_n e, up1_n e]
        exact hc i hi e
    · refine ih _ _ (fun k k0 k2 => ?_) (by omega) i hi
      simp only [up1_a]
      split
      · rfl
      · exact hc k k0 k2
/-- a halt, or a clearing that a halt's step did, is gone when it goes back -/
theorem hst_h {OK : (Nat → Int32) → (Nat → Int32) → Prop} {nd nc nn xp pa mp : Nat → Int32} {c' : Nat → Int32} (hc : ∀ i, ¬ i = 0 → ¬ i = 2 → c' i = c i) : ∀ (k s : Nat), hst OK nd nc nn xp pa mp k s c → hst OK nd nc nn xp pa mp k s c' := by
  intro k s h
  cases k with
  | zero => exact True.intro
  | succ k =>
    obtain ⟨m, m1, m2, m3, m4, m5, m6, m7, m8, m9⟩ := h
    have e : sm_up1 (uNd nc nn ((s + 31) % 32) m c') 0 (it 0) = sm_up1 (uNd nc nn ((s + 31) % 32) m c) 0 (it 0) := by
      funext i
      by_cases h0 : i = 0
      · subst h0; rw [up1_s, up1_s]
      · rw [up1_n h0, up1_n h0]
        exact uNd_2 (c' := c') m4 m _ _ hc m1 i h0
    exact ⟨m, m1, m2, m3, m4, m5, m6, m7, by rw [e]; exact m8, by rw [e]; exact m9⟩
/-! rows are copied -/
def cpr (g h : Nat → Int32) (fr tz k : Nat) : Nat → Int32 := fun i => if tz ≤ i ∧ i < tz + k then g (fr + (i - tz)) else h i
theorem l_177 {q1 q2 n1 n2 fr tz len : Nat} (h1 : w.1 q1 = some (10, n1)) (h2 : w.1 q2 = some (10, n2)) (b1 : fr + len ≤ n1) (b2 : tz + len ≤ n2) (b3 : n1 < 1000000) (b4 : n2 < 1000000) (hne : q1 = q2 → tz ≤ fr) : ∀ (m i : Nat), i + m = len → f_177_3 K (m + 1) d q1 (it fr) q2 (it tz) (it len) (it i) w (sm_up1 I q2 (cpr (I q1) (I q2) fr tz i)) J = some (none, w, sm_up1 I q2 (cpr (I q1) (I q2) fr tz len), J) := by
  intro m
  induction m with
  | zero =>
    intro i hi
    rw [f_177_3]
    simp only [lt_]
    rw [if_pos ((it_le (by omega) (by omega) (by omega) (by omega)).mpr (by omega)), show i = len by omega]
  | succ m ih =>
    intro i hi
    rw [f_177_3]
    simp only [it_lit, lt_, it_add]
    rw [if_neg (fun q => by have := (it_le (by omega) (by omega) (by omega) (by omega)).mp q; omega), gA_e h1 (Or.inl rfl) (ix (by omega) (by omega) (by omega)), gA_e h2 (Or.inl rfl) (ix (by omega) (by omega) (by omega)), it_cl (by omega) (by omega), it_cl (by omega) (by omega), show ((fr : Int) + i).toNat = fr + i by omega, show ((tz : Int) + i).toNat = tz + i by omega]
    have e1 : sm_up1 I q2 (cpr (I q1) (I q2) fr tz i) q1 (fr + i) = I q1 (fr + i) := by
      by_cases e : q1 = q2
      · have := hne e
        subst e
        rw [up1_s]
        unfold cpr
        rw [if_neg (by omega)]
      · rw [up1_n e]
    have e2 : sm_up2 (sm_up1 I q2 (cpr (I q1) (I q2) fr tz i)) q2 (tz + i) (I q1 (fr + i)) = sm_up1 I q2 (cpr (I q1) (I q2) fr tz (i + 1)) := by
      unfold sm_up2
      rw [up1_s, up1_up1]
      congr 1
      funext k
      simp only [up1_a, cpr]
      by_cases e : k = tz + i
      · subst e
        rw [if_pos rfl, if_pos (by omega), show tz + i - tz = i by omega]
      · rw [if_neg e]
        by_cases e3 : tz ≤ k ∧ k < tz + i
        · rw [if_pos e3, if_pos (by omega)]
        · rw [if_neg e3, if_neg (by omega)]
    rw [e1, e2]
    exact ih (i + 1) (by omega)
theorem s_177 {q1 q2 n1 n2 fr tz len : Nat} (h1 : w.1 q1 = some (10, n1)) (h2 : w.1 q2 = some (10, n2)) (b1 : fr + len ≤ n1) (b2 : tz + len ≤ n2) (b3 : n1 < 1000000) (b4 : n2 < 1000000) (hne : q1 = q2 → tz ≤ fr) : Cl K (d + 1) 177 [.ref q1, .int (it fr), .ref q2, .int (it tz), .int (it len)] w I J = some (none, w, sm_up1 I q2 (cpr (I q1) (I q2) fr tz len), J) := by
  apply cl_177 (k := len + 1)
  unfold f_177
  have e : sm_up1 I q2 (cpr (I q1) (I q2) fr tz 0) = I := by
    have : cpr (I q1) (I q2) fr tz 0 = I q2 := by
      funext i
      unfold cpr
      rw [if_neg (by omega)]
    rw [this, up1_id]
  have := l_177 (K := K) (d := d) (I := I) (J := J) h1 h2 b1 b2 b3 b4 hne len 0 (by omega)
  rw [e] at this
  exact this
end HST

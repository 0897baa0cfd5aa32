/-! the machine is typed, and stays so -/
section MOK
variable {N F : Nat} {fa : Nat → Nat → Nat} {oc ar : Nat → Nat} {sh : Nat → List Nat} {rc : Nat → Bool} {n n' c : Nat → Int32} {hi pr j f p p' b h t : Nat} {v : Int32}
def vOK (n : Nat → Int32) (hi : Nat) : Prop := ∀ i, i < hi → ∃ t : Nat, t ≤ 3 ∧ n (40 + i) = it t ∧ okv n t (n (10 + i))
def wOK (F : Nat) (fa : Nat → Nat → Nat) (n : Nat → Int32) (fr : Nat) : Prop := ∀ j, j < fr → ∃ f p : Nat, f < F ∧ p < 200 ∧ n (70 + 8 * j) = it f ∧ n (71 + 8 * j) = it p ∧ ∀ v, v < fa f 2 → okv n (fa f (4 + v)) (n (72 + 8 * j + v))
def mTop (N F : Nat) (fa : Nat → Nat → Nat) (oc ar : Nat → Nat) (sh : Nat → List Nat) (n : Nat → Int32) (hi pr j f p b : Nat) : Prop :=
  n 1 = it (j + 1) ∧ j < 8 ∧ n 2 = it hi ∧ hi ≤ 30 ∧ n 3 = it pr ∧ pr ≤ 20 ∧ n (70 + 8 * j) = it f ∧ n (71 + 8 * j) = it p ∧ f < F ∧ p < 200 ∧ fa f 0 ≤ p ∧ p < gEnd N F fa f ∧ hi = b + (sh p).length ∧ okT n hi (sh p) ∧ stk N F fa oc ar sh n j b f ∧ vOK n hi ∧ wOK F fa n (j + 1) ∧ okO n
theorem it_inj {a b : Nat} (ha : a < 1000000) (hb : b < 1000000) (h : it a = it b) : a = b := by
  have := (it_eq (by omega) (by omega) (by omega) (by omega)).mp h
  omega
theorem mOK_top (F5 : F ≤ 5) (M : mOK (N, F, fa, oc, ar, sh, rc) n) (h0 : n 0 = it 0) : ∃ hi pr j f p b, mTop N F fa oc ar sh n hi pr j f p b := by
  obtain ⟨⟨h, fr, hi, pr, a0, a1, a2, a3, a4, a5, a6, a7, a8, a9, a10, a11, a12⟩, aO⟩ := M
  have hz : h = 0 := it_inj (by omega) (by omega) (a0.symm.trans h0)
  have hf : ¬ fr = 0 := fun e => by have := a8.mpr e; omega
  obtain ⟨j, rfl⟩ : ∃ j, fr = j + 1 := ⟨fr - 1, by omega⟩
  obtain ⟨f, p, f1, f2, f3, f4, f5⟩ := a12 j (by omega)
  obtain ⟨g1, g2, g3, g4⟩ := a10 j f p rfl f3 f4 f1 f2
  exact ⟨hi, pr, j, f, p, hi - (sh p).length, a1, by omega, a2, a6, a3, a7, f3, f4, f1, f2, g1, g2, by have := g3.1; omega, g3, g4, a11, a12, aO⟩
theorem mOK_of (F5 : F ≤ 5) (T : mTop N F fa oc ar sh n hi pr j f p b) (h0 : n 0 = it h) (h8 : h ≤ 8) (h1 : ¬ h = 1) : mOK (N, F, fa, oc, ar, sh, rc) n := by
  obtain ⟨a1, a2, a3, a4, a5, a6, a7, a8, a9, a10, a11, a12, a13, a14, a15, a16, a17, a18⟩ := T
  refine ⟨⟨h, j + 1, hi, pr, h0, a1, a3, a5, h8, by omega, a4, a6, ⟨fun e => absurd e h1, fun e => by omega⟩, fun e => by omega, fun j' f' p' e1 e2 e3 e4 e5 => ?_, a16, a17⟩, a18⟩
  have ej : j' = j := by omega
  subst ej
  have ef : f' = f := it_inj (by omega) (by omega) (e2.symm.trans a7)
  have ep : p' = p := it_inj (by omega) (by omega) (e3.symm.trans a8)
  subst ef
  subst ep
  exact ⟨a11, a12, a14, by rw [show hi - (sh p').length = b by omega]; exact a15⟩
/-- kinds of objects stay -/
def kp (n n' : Nat → Int32) : Prop := ∀ o, 1 ≤ o → o ≤ 16 → n' (154 + 12 * o) = n (154 + 12 * o)
theorem okv_k (k : kp n n') (h : okv n t v) : okv n' t v := by
  rcases h with h | h | ⟨o, o1, o2, e, ho⟩
  · exact Or.inl h
  · exact Or.inr (Or.inl h)
  · exact Or.inr (Or.inr ⟨o, o1, o2, e, by rw [k o o1 o2]; exact ho⟩)
theorem okO_k (k : ∀ i, 166 ≤ i → n' i = n i) (h : okO n) : okO n' := by
  have kk : kp n n' := fun o o1 o2 => k _ (by omega)
  intro o o1 o2
  rcases h o o1 o2 with ⟨h1, h2⟩ | ⟨h1, s, h2, h3⟩ | ⟨h1, h2⟩
  · exact Or.inl ⟨by rw [k _ (by omega)]; exact h1, fun i hi => by rw [k _ (by omega)]; exact h2 i hi⟩
  · exact Or.inr (Or.inl ⟨by rw [k _ (by omega)]; exact h1, s, h2, by rw [k _ (by omega)]; exact h3⟩)
  · exact Or.inr (Or.inr ⟨by rw [k _ (by omega)]; exact h1, by rw [k _ (by omega)]; exact okv_k kk h2⟩)
theorem okT_k {r : List Nat} (k : ∀ i, i < h → n' (40 + i) = n (40 + i)) (T : okT n h r) : okT n' h r := by
  refine ⟨T.1, fun i hi => ?_⟩
  have := T.1
  have e : 39 + h - i = 40 + (h - 1 - i) := by omega
  rw [e, k _ (by omega), ← e]
  exact T.2 i hi
theorem stk_k : ∀ (j b g : Nat), (∀ k, 70 ≤ k → k < 70 + 8 * j → n' k = n k) → (∀ i, i < b → n' (40 + i) = n (40 + i)) → stk N F fa oc ar sh n j b g → stk N F fa oc ar sh n' j b g := by
  intro j
  induction j with
  | zero => intro b g _ _ h; exact h
  | succ j ih =>
    intro b g h1 h2 h
    obtain ⟨f, p, r, a1, a2, a3, a4, a5, a6, a7, a8, a9, a10⟩ := h
    exact ⟨f, p, r, by rw [h1 _ (by omega) (by omega)]; exact a1, by rw [h1 _ (by omega) (by omega)]; exact a2, a3, a4, a5, a6, a7, a8, okT_k h2 a9, ih _ _ (fun k k1 k2 => h1 k k1 (by omega)) (fun i hi => h2 i (by omega)) a10⟩
/-- the general step within a frame: place, height, stack change -/
theorem top_go {hi' pr' : Nat} (T : mTop N F fa oc ar sh n hi pr j f p b) (c1 : n' 1 = n 1) (c2 : n' 2 = it hi') (c3 : n' 3 = it pr') (p20 : pr' ≤ 20) (h30 : hi' ≤ 30) (cf : ∀ k, 70 ≤ k → k < 71 + 8 * j → n' k = n k) (cp : n' (71 + 8 * j) = it p') (q1 : p' < 200) (q2 : fa f 0 ≤ p') (q3 : p' < gEnd N F fa f) (eh : hi' = b + (sh p').length) (ct : okT n' hi' (sh p')) (cb : ∀ i, i < b → n' (40 + i) = n (40 + i)) (cv : vOK n' hi') (cw : ∀ i, i < j + 1 → ∀ f v : Nat, n (70 + 8 * i) = it f → f < F → v < fa f 2 → okv n (fa f (4 + v)) (n (72 + 8 * i + v)) → okv n' (fa f (4 + v)) (n' (72 + 8 * i + v))) (cO : okO n') (F5 : F ≤ 5) :
    mTop N F fa oc ar sh n' hi' pr' j f p' b := by
  obtain ⟨a1, a2, a3, a4, a5, a6, a7, a8, a9, a10, a11, a12, a13, a14, a15, a16, a17, a18⟩ := T
  refine ⟨by rw [c1]; exact a1, a2, c2, h30, c3, p20, by rw [cf _ (by omega) (by omega)]; exact a7, cp, a9, q1, q2, q3, eh, ct, stk_k _ _ _ (fun k k1 k2 => cf k k1 (by omega)) cb a15, cv, fun i hi => ?_, cO⟩
  obtain ⟨f1, p1, g1, g2, g3, g4, g5⟩ := a17 i hi
  by_cases e : i = j
  · subst e
    exact ⟨f1, p', g1, q1, by rw [cf _ (by omega) (by omega)]; exact g3, cp, fun v hv => cw i hi f1 v g3 g1 hv (g5 v hv)⟩
  · exact ⟨f1, p1, g1, g2, by rw [cf _ (by omega) (by omega)]; exact g3, by rw [cf _ (by omega) (by omega)]; exact g4, fun v hv => cw i hi f1 v g3 g1 hv (g5 v hv)⟩
/-- normal forms -/
def nR (n : Nat → Int32) (h j : Nat) (p v ty : Int32) : Nat → Int32 := sm_up1 (sm_up1 (sm_up1 (sm_up1 n (10 + h) v) (40 + h) ty) 2 (it ((h + 1 : Nat) : Int))) (71 + 8 * j) p
def cR (c : Nat → Int32) (h j : Nat) (p v ty : Int32) : Nat → Int32 := sm_up1 (sm_up1 (sm_up1 (sm_up1 c (7 + h) v) (37 + h) ty) 3 (it ((h + 1 : Nat) : Int))) (88 + 8 * j) p
def nD (n : Nat → Int32) (h j : Nat) (p : Int32) : Nat → Int32 := sm_up1 (sm_up1 n 2 (it (h : Int))) (71 + 8 * j) p
def cD (c : Nat → Int32) (h j : Nat) (p : Int32) : Nat → Int32 := sm_up1 (sm_up1 c 3 (it (h : Int))) (88 + 8 * j) p
theorem fr8 (h1 : n 1 = it (j + 1)) (j8 : j < 8) : ∀ i : Nat, (i : Int) < (n 1).toInt → i < 8 := by
  intro i hi
  rw [h1, it_toInt (by omega) (by omega)] at hi
  omega
theorem rel_R {ty q : Int32} (R : mRel fa c n) (h1 : n 1 = it (j + 1)) (j8 : j < 8) (hh : h < 30) : mRel fa (cR c h j q v ty) (nR n h j q v ty) := by
  have R1 := e_v (v := v) R hh (fr8 h1 j8)
  have R2 := e_t (v := ty) R1 hh (by rw [up1_n (by omega)]; exact fr8 h1 j8)
  have R3 := e_3 (v := it ((h + 1 : Nat) : Int)) R2
  exact e_pl R3 (t := j) (by rw [up1_n (by omega), up1_n (by omega), up1_n (by omega)]; exact h1) j8
theorem rel_D {q : Int32} (R : mRel fa c n) (h1 : n 1 = it (j + 1)) (j8 : j < 8) : mRel fa (cD c h j q) (nD n h j q) :=
  e_pl (e_3 (v := it (h : Int)) R) (t := j) (by rw [up1_n (by omega)]; exact h1) j8
theorem getD_app {q r : List Nat} {i : Nat} (h : q.length ≤ i) : (q ++ r).getD i 0 = r.getD (i - q.length) 0 := by
  rw [List.getD_eq_getElem?_getD, List.getD_eq_getElem?_getD, List.getElem?_append_right h]
theorem top_R {q r : List Nat} {ty : Nat} (F5 : F ≤ 5) (g6 : ∀ f, f < F → fa f 2 ≤ 6) (T : mTop N F fa oc ar sh n hi pr j f p b) (hsh : sh p = q ++ r) (hsh' : sh p' = ty :: r) (t3 : ty ≤ 3) (hv : okv n ty v) (q1 : p' < 200) (q2 : fa f 0 ≤ p') (q3 : p' < gEnd N F fa f) (hh : hi - q.length < 30) : mTop N F fa oc ar sh (nR n (hi - q.length) j (it p') v (it ty)) (hi - q.length + 1) pr j f p' b := by
  have T' := T
  obtain ⟨a1, a2, a3, a4, a5, a6, a7, a8, a9, a10, a11, a12, a13, a14, a15, a16, a17, a18⟩ := T
  have hl : (sh p).length = q.length + r.length := by rw [hsh, List.length_append]
  have hl' : (sh p').length = r.length + 1 := by rw [hsh', List.length_cons]
  have ht := a14.1
  have kk : kp n (nR n (hi - q.length) j (it p') v (it ty)) := fun o o1 o2 => by
    unfold nR; rw [up1_n (by omega), up1_n (by omega), up1_n (by omega), up1_n (by omega)]
  refine top_go T' ?_ ?_ ?_ a6 (by omega) (fun k k1 k2 => ?_) ?_ q1 q2 q3 (by omega) ⟨by omega, fun i hi' => ?_⟩ (fun i hi' => ?_) (fun i hi' => ?_) (fun i hi' f1 v1 e1 e2 e3 e4 => ?_) (okO_k (fun i hi' => ?_) a18) F5
  · unfold nR; rw [up1_n (by omega), up1_n (by omega), up1_n (by omega), up1_n (by omega)]
  · unfold nR; rw [up1_n (by omega), up1_s]
  · unfold nR; rw [up1_n (by omega), up1_n (by omega), up1_n (by omega), up1_n (by omega)]; exact a5
  · unfold nR; rw [up1_n (by omega), up1_n (by omega), up1_n (by omega), up1_n (by omega)]
  · unfold nR; rw [up1_s]
  · unfold nR
    rw [up1_n (by omega), up1_n (by omega)]
    rw [hsh']
    cases i with
    | zero => rw [show 39 + (hi - q.length + 1) - 0 = 40 + (hi - q.length) by omega, up1_s]; rfl
    | succ i =>
      rw [up1_n (by omega), up1_n (by omega)]
      have := a14.2 (q.length + i) (by omega)
      rw [hsh, getD_app (by omega), show q.length + i - q.length = i by omega, show 39 + hi - (q.length + i) = 39 + (hi - q.length + 1) - (i + 1) by omega] at this
      exact this
  · unfold nR; rw [up1_n (by omega), up1_n (by omega), up1_n (by omega), up1_n (by omega)]
  · by_cases e : i = hi - q.length
    · subst e
      refine ⟨ty, t3, ?_, ?_⟩
      · unfold nR; rw [up1_n (by omega), up1_n (by omega), up1_s]
      · have : nR n (hi - q.length) j (it p') v (it ty) (10 + (hi - q.length)) = v := by
          unfold nR; rw [up1_n (by omega), up1_n (by omega), up1_n (by omega), up1_s]
        rw [this]
        exact okv_k kk hv
    · obtain ⟨t, t1, t2, t4⟩ := a16 i (by omega)
      refine ⟨t, t1, ?_, ?_⟩
      · unfold nR; rw [up1_n (by omega), up1_n (by omega), up1_n (by omega), up1_n (by omega)]; exact t2
      · have : nR n (hi - q.length) j (it p') v (it ty) (10 + i) = n (10 + i) := by
          unfold nR; rw [up1_n (by omega), up1_n (by omega), up1_n (by omega), up1_n (by omega)]
        rw [this]
        exact okv_k kk t4
  · have : nR n (hi - q.length) j (it p') v (it ty) (72 + 8 * i + v1) = n (72 + 8 * i + v1) := by
      have := g6 f1 e2
      unfold nR
      rw [up1_n (by omega), up1_n (by omega), up1_n (by omega), up1_n (by omega)]
    rw [this]
    exact okv_k kk e4
  · unfold nR; rw [up1_n (by omega), up1_n (by omega), up1_n (by omega), up1_n (by omega)]
theorem top_D {q r : List Nat} (F5 : F ≤ 5) (g6 : ∀ f, f < F → fa f 2 ≤ 6) (T : mTop N F fa oc ar sh n hi pr j f p b) (hsh : sh p = q ++ r) (hsh' : sh p' = r) (q1 : p' < 200) (q2 : fa f 0 ≤ p') (q3 : p' < gEnd N F fa f) : mTop N F fa oc ar sh (nD n (hi - q.length) j (it p')) (hi - q.length) pr j f p' b := by
  have T' := T
  obtain ⟨a1, a2, a3, a4, a5, a6, a7, a8, a9, a10, a11, a12, a13, a14, a15, a16, a17, a18⟩ := T
  have hl : (sh p).length = q.length + r.length := by rw [hsh, List.length_append]
  have hl' : (sh p').length = r.length := by rw [hsh']
  have ht := a14.1
  have kk : kp n (nD n (hi - q.length) j (it p')) := fun o o1 o2 => by
    unfold nD; rw [up1_n (by omega), up1_n (by omega)]
  refine top_go T' ?_ ?_ ?_ a6 (by omega) (fun k k1 k2 => ?_) ?_ q1 q2 q3 (by omega) ⟨by omega, fun i hi' => ?_⟩ (fun i hi' => ?_) (fun i hi' => ?_) (fun i hi' f1 v1 e1 e2 e3 e4 => ?_) (okO_k (fun i hi' => ?_) a18) F5
  · unfold nD; rw [up1_n (by omega), up1_n (by omega)]
  · unfold nD; rw [up1_n (by omega), up1_s]
  · unfold nD; rw [up1_n (by omega), up1_n (by omega)]; exact a5
  · unfold nD; rw [up1_n (by omega), up1_n (by omega)]
  · unfold nD; rw [up1_s]
  · unfold nD
    rw [up1_n (by omega), up1_n (by omega), hsh']
    have := a14.2 (q.length + i) (by omega)
    rw [hsh, getD_app (by omega), show q.length + i - q.length = i by omega, show 39 + hi - (q.length + i) = 39 + (hi - q.length) - i by omega] at this
    exact this
  · unfold nD; rw [up1_n (by omega), up1_n (by omega)]
  · obtain ⟨t, t1, t2, t4⟩ := a16 i (by omega)
    refine ⟨t, t1, ?_, ?_⟩
    · unfold nD; rw [up1_n (by omega), up1_n (by omega)]; exact t2
    · have : nD n (hi - q.length) j (it p') (10 + i) = n (10 + i) := by
        unfold nD; rw [up1_n (by omega), up1_n (by omega)]
      rw [this]
      exact okv_k kk t4
  · have : nD n (hi - q.length) j (it p') (72 + 8 * i + v1) = n (72 + 8 * i + v1) := by
      have := g6 f1 e2
      unfold nD
      rw [up1_n (by omega), up1_n (by omega)]
    rw [this]
    exact okv_k kk e4
  · unfold nD; rw [up1_n (by omega), up1_n (by omega)]
/-- a change that the frame's place and height don't see -/
theorem top_s {pr' : Nat} (F5 : F ≤ 5) (T : mTop N F fa oc ar sh n hi pr j f p b) (k1 : n' 1 = n 1) (k2 : n' 2 = n 2) (k3 : n' 3 = it pr') (p20 : pr' ≤ 20) (cf : ∀ i, i < j + 1 → n' (70 + 8 * i) = n (70 + 8 * i) ∧ n' (71 + 8 * i) = n (71 + 8 * i)) (cb : ∀ i, i < 30 → n' (40 + i) = n (40 + i)) (cx : ∀ t v, t ≤ 3 → okv n t v → okv n' t v) (cv : ∀ i, i < 30 → n' (10 + i) = n (10 + i)) (cw : ∀ i, i < j + 1 → ∀ f v : Nat, n (70 + 8 * i) = it f → f < F → v < fa f 2 → okv n (fa f (4 + v)) (n (72 + 8 * i + v)) → okv n' (fa f (4 + v)) (n' (72 + 8 * i + v))) (cO : okO n') : mTop N F fa oc ar sh n' hi pr' j f p b := by
  obtain ⟨a1, a2, a3, a4, a5, a6, a7, a8, a9, a10, a11, a12, a13, a14, a15, a16, a17, a18⟩ := T
  have st : ∀ (j' b' g : Nat), j' ≤ j → b' ≤ 30 → stk N F fa oc ar sh n j' b' g → stk N F fa oc ar sh n' j' b' g := by
    intro j'
    induction j' with
    | zero => intro b' g _ _ h; exact h
    | succ j' ih =>
      intro b' g hj hb h
      obtain ⟨f1, p1, r, b1, b2, b3, b4, b5, b6, b7, b8, b9, b10⟩ := h
      exact ⟨f1, p1, r, by rw [(cf j' (by omega)).1]; exact b1, by rw [(cf j' (by omega)).2]; exact b2, b3, b4, b5, b6, b7, b8, okT_k (fun i hi => cb i (by omega)) b9, ih _ _ (by omega) (by omega) b10⟩
  refine ⟨by rw [k1]; exact a1, a2, by rw [k2]; exact a3, a4, k3, p20, by rw [(cf j (by omega)).1]; exact a7, by rw [(cf j (by omega)).2]; exact a8, a9, a10, a11, a12, a13, okT_k (fun i hi => cb i (by omega)) a14, st j b f (Nat.le_refl _) (by omega) a15, fun i hi => ?_, fun i hi => ?_, cO⟩
  · obtain ⟨t, t1, t2, t3⟩ := a16 i hi
    exact ⟨t, t1, by rw [cb i (by omega)]; exact t2, by rw [cv i (by omega)]; exact cx _ _ t1 t3⟩
  · obtain ⟨f1, p1, g1, g2, g3, g4, g5⟩ := a17 i hi
    exact ⟨f1, p1, g1, g2, by rw [(cf i hi).1]; exact g3, by rw [(cf i hi).2]; exact g4, fun v hv => cw i hi f1 v g3 g1 hv (g5 v hv)⟩
/-- a variable is stored -/
theorem top_va {q : Nat} (F5 : F ≤ 5) (g6 : ∀ f, f < F → fa f 2 ≤ 6) (T : mTop N F fa oc ar sh n hi pr j f p b) (hq : q < fa f 2) (hv : okv n (fa f (4 + q)) v) : mTop N F fa oc ar sh (sm_up1 n (72 + 8 * j + q) v) hi pr j f p b := by
  have T' := T
  obtain ⟨a1, a2, a3, a4, a5, a6, a7, a8, a9, a10, a11, a12, a13, a14, a15, a16, a17, a18⟩ := T
  have q6 := g6 f a9
  have kk : kp n (sm_up1 n (72 + 8 * j + q) v) := fun o o1 o2 => up1_n (by omega)
  refine top_s F5 T' (up1_n (by omega)) (up1_n (by omega)) (by rw [up1_n (by omega)]; exact a5) a6 (fun i hi => ⟨up1_n (by omega), up1_n (by omega)⟩) (fun i hi => up1_n (by omega)) (fun t v _ h => okv_k kk h) (fun i hi => up1_n (by omega)) (fun i hi f1 v1 e1 e2 e3 e4 => ?_) (okO_k (fun i hi => up1_n (by omega)) a18)
  have := g6 f1 e2
  by_cases e : 72 + 8 * i + v1 = 72 + 8 * j + q
  · have ei : i = j := by omega
    have ev : v1 = q := by omega
    subst ei
    subst ev
    have ef : f1 = f := it_inj (by omega) (by omega) (e1.symm.trans a7)
    subst ef
    rw [up1_s]
    exact okv_k kk hv
  · rw [up1_n e]
    exact okv_k kk e4
/-- a number is stored in a row -/
theorem top_ro {q i : Nat} (F5 : F ≤ 5) (g6 : ∀ f, f < F → fa f 2 ≤ 6) (T : mTop N F fa oc ar sh n hi pr j f p b) (q1 : 1 ≤ q) (q2 : q ≤ 16) (i9 : i < 9) (hq : n (154 + 12 * q) = it 1) : mTop N F fa oc ar sh (sm_up1 n (157 + 12 * q + i) v) hi pr j f p b := by
  have T' := T
  obtain ⟨a1, a2, a3, a4, a5, a6, a7, a8, a9, a10, a11, a12, a13, a14, a15, a16, a17, a18⟩ := T
  have kk : kp n (sm_up1 n (157 + 12 * q + i) v) := fun o o1 o2 => up1_n (by omega)
  refine top_s F5 T' (up1_n (by omega)) (up1_n (by omega)) (by rw [up1_n (by omega)]; exact a5) a6 (fun i hi => ⟨up1_n (by omega), up1_n (by omega)⟩) (fun i hi => up1_n (by omega)) (fun t v _ h => okv_k kk h) (fun i hi => up1_n (by omega)) (fun i hi f1 v1 e1 e2 e3 e4 => ?_) (fun o o1 o2 => ?_)
  · have := g6 f1 e2
    rw [up1_n (by omega)]
    exact okv_k kk e4
  · rw [up1_n (j := 154 + 12 * o) (by omega)]
    rcases a18 o o1 o2 with ⟨h1, h2⟩ | ⟨h1, s, h2, h3⟩ | ⟨h1, h2⟩
    · refine Or.inl ⟨h1, fun k hk => ?_⟩
      by_cases e : 154 + 12 * o + k = 157 + 12 * q + i
      · have : o = q := by omega
        subst this
        rw [h1] at hq
        exact absurd hq (by decide)
      · rw [up1_n e]; exact h2 k hk
    · exact Or.inr (Or.inl ⟨h1, s, h2, by rw [up1_n (by omega)]; exact h3⟩)
    · exact Or.inr (Or.inr ⟨h1, by rw [up1_n (by omega)]; exact okv_k kk h2⟩)
/-- a number is printed -/
theorem top_pr (F5 : F ≤ 5) (g6 : ∀ f, f < F → fa f 2 ≤ 6) (T : mTop N F fa oc ar sh n hi pr j f p b) (hp : pr < 20) : mTop N F fa oc ar sh (sm_up1 (sm_up1 n (134 + pr) v) 3 (it (pr + 1))) hi (pr + 1) j f p b := by
  have T' := T
  obtain ⟨a1, a2, a3, a4, a5, a6, a7, a8, a9, a10, a11, a12, a13, a14, a15, a16, a17, a18⟩ := T
  have u : ∀ k, ¬ k = 3 → ¬ k = 134 + pr → sm_up1 (sm_up1 n (134 + pr) v) 3 (it (pr + 1)) k = n k := fun k k1 k2 => by rw [up1_n k1, up1_n k2]
  have kk : kp n (sm_up1 (sm_up1 n (134 + pr) v) 3 (it (pr + 1))) := fun o o1 o2 => u _ (by omega) (by omega)
  refine top_s F5 T' (u _ (by omega) (by omega)) (u _ (by omega) (by omega)) (by rw [up1_s]; rfl) (by omega) (fun i hi => ⟨u _ (by omega) (by omega), u _ (by omega) (by omega)⟩) (fun i hi => u _ (by omega) (by omega)) (fun t v _ h => okv_k kk h) (fun i hi => u _ (by omega) (by omega)) (fun i hi f1 v1 e1 e2 e3 e4 => ?_) (okO_k (fun i hi => u _ (by omega) (by omega)) a18)
  have := g6 f1 e2
  rw [u _ (by omega) (by omega)]
  exact okv_k kk e4
/-- a new object -/
theorem top_ob {o kd : Nat} {a1' b1' : Int32} (F5 : F ≤ 5) (g6 : ∀ f, f < F → fa f 2 ≤ 6) (g3 : ∀ f, f < F → ∀ v, v < fa f 2 → fa f (4 + v) ≤ 3) (T : mTop N F fa oc ar sh n hi pr j f p b) (o1 : 1 ≤ o) (o2 : o ≤ 16) (hz : n (154 + 12 * o) = it 0) (hk : (kd = 1 ∧ ∃ s : Nat, s ≤ 9 ∧ a1' = it s) ∨ (kd = 2 ∧ okv n 3 b1')) : mTop N F fa oc ar sh (ap [(154 + 12 * o, it kd), (155 + 12 * o, a1'), (156 + 12 * o, b1')] n) hi pr j f p b := by
  have T' := T
  obtain ⟨a1, a2, a3, a4, a5, a6, a7, a8, a9, a10, a11, a12, a13, a14, a15, a16, a17, a18⟩ := T
  have u : ∀ k, k < 154 + 12 * o ∨ 156 + 12 * o < k → ap [(154 + 12 * o, it kd), (155 + 12 * o, a1'), (156 + 12 * o, b1')] n k = n k := fun k hk => by simp only [ap]; rw [up1_n (by omega), up1_n (by omega), up1_n (by omega)]
  have u0 : ap [(154 + 12 * o, it kd), (155 + 12 * o, a1'), (156 + 12 * o, b1')] n (154 + 12 * o) = it kd := by simp only [ap]; rw [up1_n (by omega), up1_n (by omega), up1_s]
  have u1 : ap [(154 + 12 * o, it kd), (155 + 12 * o, a1'), (156 + 12 * o, b1')] n (155 + 12 * o) = a1' := by simp only [ap]; rw [up1_n (by omega), up1_s]
  have u2 : ap [(154 + 12 * o, it kd), (155 + 12 * o, a1'), (156 + 12 * o, b1')] n (156 + 12 * o) = b1' := by simp only [ap]; rw [up1_s]
  have kk : ∀ t v, t ≤ 3 → okv n t v → okv (ap [(154 + 12 * o, it kd), (155 + 12 * o, a1'), (156 + 12 * o, b1')] n) t v := by
    intro t v t3 h
    by_cases t2 : t < 2
    · exact Or.inl t2
    · rcases h with h | h | ⟨o', p1, p2, e, ho⟩
      · exact Or.inl h
      · exact Or.inr (Or.inl h)
      · refine Or.inr (Or.inr ⟨o', p1, p2, e, ?_⟩)
        by_cases eo : o' = o
        · subst eo
          rw [hz] at ho
          have := (it_eq (by omega) (by omega) (by omega) (by omega)).mp ho
          omega
        · rw [u _ (by omega)]; exact ho
  refine top_s F5 T' (u _ (by omega)) (u _ (by omega)) (by rw [u _ (by omega)]; exact a5) a6 (fun i hi => ⟨u _ (by omega), u _ (by omega)⟩) (fun i hi => u _ (by omega)) kk (fun i hi => u _ (by omega)) (fun i hi f1 v1 e1 e2 e3 e4 => ?_) (fun o' p1 p2 => ?_)
  · have := g6 f1 e2
    rw [u _ (by omega)]
    exact kk _ _ (g3 f1 e2 v1 e3) e4
  · by_cases eo : o' = o
    · subst eo
      rw [u0, u1, u2]
      rcases hk with ⟨rfl, s, s9, rfl⟩ | ⟨rfl, hb⟩
      · exact Or.inr (Or.inl ⟨rfl, s, s9, rfl⟩)
      · exact Or.inr (Or.inr ⟨rfl, kk _ _ (by omega) hb⟩)
    · rw [u (154 + 12 * o') (by omega), u (155 + 12 * o') (by omega), u (156 + 12 * o') (by omega)]
      rcases a18 o' p1 p2 with ⟨h1, h2⟩ | ⟨h1, s, h2, h3⟩ | ⟨h1, h2⟩
      · exact Or.inl ⟨h1, fun k hk' => by rw [u _ (by omega)]; exact h2 k hk'⟩
      · exact Or.inr (Or.inl ⟨h1, s, h2, h3⟩)
      · exact Or.inr (Or.inr ⟨h1, kk _ _ (by omega) h2⟩)
end MOK

/-! THE CLASS'S MACHINE: writes with notes -/
def wr (B s m k : Nat) (v : Int32) (I : aI) : aI := sm_up2 (sm_up2 (sm_up2 (sm_up2 I (B + 33) (36 * s + m) (it k)) (B + 34) (36 * s + m) (I (B + 30) k)) (B + 32) s (it (m + 1))) (B + 30) k v
def wrs (B s : Nat) : Nat → List (Nat × Int32) → aI → aI
  | _, [], I => I
  | m, e :: l, I => wrs B s (m + 1) l (wr B s m e.1 e.2 I)
/-- cells behind a row of writes -/
def ap : List (Nat × Int32) → (Nat → Int32) → Nat → Int32
  | [], c => c
  | e :: l, c => ap l (sm_up1 c e.1 e.2)
/-- the machine at work: slot s, m notes, cells c -/
def XM (B s m : Nat) (c : Nat → Int32) (I : aI) : Prop := I (B + 29) 7 = it s ∧ s < 32 ∧ I (B + 32) s = it m ∧ I (B + 30) = c
theorem wrs_app (B s m : Nat) (l l' : List (Nat × Int32)) (I : aI) : wrs B s m (l ++ l') I = wrs B s (m + l.length) l' (wrs B s m l I) := by
  induction l generalizing m I with
  | nil => rfl
  | cons e l ih =>
    show wrs B s (m + 1) (l ++ l') _ = _
    rw [ih]
    show _ = wrs B s (m + (l.length + 1)) l' _
    rw [show m + 1 + l.length = m + (l.length + 1) by omega]
    rfl
theorem ap_app (l l' : List (Nat × Int32)) (c : Nat → Int32) : ap (l ++ l') c = ap l' (ap l c) := by
  induction l generalizing c with
  | nil => rfl
  | cons e l ih => exact ih _
theorem wr_o {B s m k a : Nat} {v : Int32} {I : aI} (h1 : ¬ a = B + 30) (h2 : ¬ a = B + 32) (h3 : ¬ a = B + 33) (h4 : ¬ a = B + 34) : wr B s m k v I a = I a := by
  unfold wr
  rw [up2_n h1, up2_n h2, up2_n h4, up2_n h3]
theorem wr_37 {B s m k : Nat} {v : Int32} {I : aI} : wr B s m k v I (B + 30) = sm_up1 (I (B + 30)) k v := by
  unfold wr
  rw [up2_r, up2_n (by omega), up2_n (by omega), up2_n (by omega)]
theorem wr_39 {B s m k : Nat} {v : Int32} {I : aI} : wr B s m k v I (B + 32) = sm_up1 (I (B + 32)) s (it (m + 1)) := by
  unfold wr
  rw [up2_n (by omega), up2_r, up2_n (by omega), up2_n (by omega)]
theorem wr_40 {B s m k : Nat} {v : Int32} {I : aI} : wr B s m k v I (B + 33) = sm_up1 (I (B + 33)) (36 * s + m) (it k) := by
  unfold wr
  rw [up2_n (by omega), up2_n (by omega), up2_n (by omega), up2_r]
theorem wr_41 {B s m k : Nat} {v : Int32} {I : aI} : wr B s m k v I (B + 34) = sm_up1 (I (B + 34)) (36 * s + m) (I (B + 30) k) := by
  unfold wr
  rw [up2_n (by omega), up2_n (by omega), up2_r, up2_n (by omega)]
theorem wrs_o {B s a : Nat} (h1 : ¬ a = B + 30) (h2 : ¬ a = B + 32) (h3 : ¬ a = B + 33) (h4 : ¬ a = B + 34) : ∀ (l : List (Nat × Int32)) (m : Nat) (I : aI), wrs B s m l I a = I a := by
  intro l
  induction l with
  | nil => intro m I; rfl
  | cons e l ih => intro m I; exact (ih _ _).trans (wr_o h1 h2 h3 h4)
theorem XM.wr {B s m : Nat} {c : Nat → Int32} {I : aI} (X : XM B s m c I) (k : Nat) (v : Int32) : XM B s (m + 1) (sm_up1 c k v) (wr B s m k v I) := by
  obtain ⟨h1, h2, h3, h4⟩ := X
  refine ⟨?_, h2, ?_, ?_⟩
  · rw [wr_o (by omega) (by omega) (by omega) (by omega)]; exact h1
  · rw [wr_39, up1_s]; rfl
  · rw [wr_37, h4]
theorem XM.wrs {B s : Nat} (l : List (Nat × Int32)) : ∀ {m : Nat} {c : Nat → Int32} {I : aI}, XM B s m c I → XM B s (m + l.length) (ap l c) (wrs B s m l I) := by
  induction l with
  | nil => intro m c I X; exact X
  | cons e l ih =>
    intro m c I X
    have h := ih (X.wr e.1 e.2)
    rw [show m + 1 + l.length = m + (e :: l).length by simp; omega] at h
    exact h
theorem up1_up1 {α : Type} (f : Nat → α) (k : Nat) (x y : α) : sm_up1 (sm_up1 f k x) k y = sm_up1 f k y := by
  funext j
  simp only [up1_a]
  split <;> rfl
theorem up1_id {α : Type} (f : Nat → α) (k : Nat) : sm_up1 f k (f k) = f := by
  funext j
  simp only [up1_a]
  split
  · rename_i h; rw [h]
  · rfl
/-- the notes undo what was written -/
theorem wrs_nd {B s : Nat} (l : List (Nat × Int32)) : ∀ {m : Nat} {I : aI} (c : Nat → Int32), I (B + 30) = c → (∀ e ∈ l, e.1 < 327) → uNd (wrs B s m l I (B + 33)) (wrs B s m l I (B + 34)) s (m + l.length) (ap l c) = uNd (wrs B s m l I (B + 33)) (wrs B s m l I (B + 34)) s m c
    ∧ (∀ i, i < m → wrs B s m l I (B + 33) (36 * s + i) = I (B + 33) (36 * s + i) ∧ wrs B s m l I (B + 34) (36 * s + i) = I (B + 34) (36 * s + i))
    ∧ (∀ i, i < l.length → wrs B s m l I (B + 33) (36 * s + (m + i)) = it (l.getD i (0, 0)).1)
    ∧ (∀ i, (i < 36 * s ∨ 36 * s + m + l.length ≤ i) → wrs B s m l I (B + 33) i = I (B + 33) i ∧ wrs B s m l I (B + 34) i = I (B + 34) i)
    ∧ (∀ i, ¬ i = s → wrs B s m l I (B + 32) i = I (B + 32) i) := by
  induction l with
  | nil => intro m I c hc hb; exact ⟨rfl, fun i _ => ⟨rfl, rfl⟩, fun i hi => absurd hi (by simp), fun i _ => ⟨rfl, rfl⟩, fun i _ => rfl⟩
  | cons e l ih =>
    intro m I c hc hb
    obtain ⟨h1, h2, h3, h4, h5⟩ := ih (m := m + 1) (I := wr B s m e.1 e.2 I) (sm_up1 c e.1 e.2) (by rw [wr_37, hc]) (fun x hx => hb x (List.mem_cons_of_mem _ hx))
    have he : e.1 < 327 := hb e (List.mem_cons_self)
    have q := h2 m (by omega)
    rw [wr_40, wr_41, up1_s, up1_s, hc] at q
    have hl : (e :: l).length = l.length + 1 := rfl
    refine ⟨?_, fun i hi => ?_, fun i hi => ?_, fun i hi => ?_, fun i hi => ?_⟩
    · show uNd (wrs B s (m + 1) l (wr B s m e.1 e.2 I) (B + 33)) (wrs B s (m + 1) l (wr B s m e.1 e.2 I) (B + 34)) s (m + (e :: l).length) (ap l (sm_up1 c e.1 e.2)) = _
      rw [show m + (e :: l).length = m + 1 + l.length by rw [hl]; omega, h1]
      show uNd _ _ s m (sm_up1 (sm_up1 c e.1 e.2) (wrs B s (m + 1) l (wr B s m e.1 e.2 I) (B + 33) (36 * s + m)).toNatClampNeg (wrs B s (m + 1) l (wr B s m e.1 e.2 I) (B + 34) (36 * s + m))) = _
      rw [q.1, q.2, it_cl (by omega) (by omega), Int.toNat_natCast, up1_up1, up1_id]
      rfl
    · have := h2 i (by omega)
      rw [wr_40, wr_41, up1_n (by omega), up1_n (by omega)] at this
      exact this
    · cases i with
      | zero => exact q.1
      | succ i =>
        have := h3 i (by rw [hl] at hi; omega)
        rw [show m + 1 + i = m + (i + 1) by omega] at this
        exact this
    · rw [hl] at hi
      have := h4 i (by omega)
      rw [wr_40, wr_41, up1_n (by omega), up1_n (by omega)] at this
      exact this
    · have := h5 i hi
      rw [wr_39, up1_n hi] at this
      exact this
section XMS
variable {K : Nat → Value} {B d k s m : Nat} {w : aW} {I : aI} {J : aJ} {c : Nat → Int32} {z : Int}
theorem and31 {s : Nat} (h : s < 32) : it s &&& it 31 = it s := by
  have : ∀ s : Fin 32, it (s.val : Int) &&& it 31 = it (s.val : Int) := by decide +kernel
  exact this ⟨s, h⟩
theorem and31l {s : Nat} (h : s < 32) : it s &&& 31 = it s := and31 h
theorem ix {z : Int} {n : Nat} (h0 : 0 ≤ z) (hz : z < n) (hn : n < 2147483648) : ¬ (it z < 0 ∨ n ≤ (it z).toNatClampNeg) := by
  rw [it_cl (by omega) (by omega), show (0 : Int32) = it 0 from rfl, it_lt (by omega) (by omega) (by omega) (by omega)]
  omega
theorem s_144 {k : Nat} {v : Int32} (H : Lay B w) (X : XM B s m c I) (hm : m < 36) (hk : k < 327) : Cl K (d + 1) 144 [.ref (B + 29), .int (it k), .int v] w I J = some (none, w, wr B s m k v I, J) := by
  obtain ⟨h1, h2, h3, h4⟩ := X
  apply cl_144 (k := 0)
  have e1 : ¬ it k < 0 := fun h => ix (n := 327) (by omega) (by omega) (by omega) (Or.inl h)
  have e2 : it k < 327 := by rw [show (327 : Int32) = it 327 from rfl, it_lt (by omega) (by omega) (by omega) (by omega)]; omega
  have e3 : ¬ it m < 0 := fun h => ix (n := 36) (z := m) (by omega) (by omega) (by omega) (Or.inl h)
  have e4 : ¬ 36 ≤ it m := by rw [show (36 : Int32) = it 36 from rfl, it_le (by omega) (by omega) (by omega) (by omega)]; omega
  have c1 : (it s).toNatClampNeg = s := by rw [it_cl (by omega) (by omega)]; omega
  have c2 : (it k).toNatClampNeg = k := by rw [it_cl (by omega) (by omega)]; omega
  have c3 : it s * 36 + it m = it ((36 * s + m : Nat) : Int) := by rw [show (36 : Int32) = it 36 from rfl, it_mul, it_add]; congr 1; omega
  have c4 : (it ((36 * s + m : Nat) : Int)).toNatClampNeg = 36 * s + m := by rw [it_cl (by omega) (by omega)]; omega
  unfold f_144 f_144_85
  rw [if_neg e1, if_pos e2]
  simp only [gO_e (yt29 H), gV_e (yp29_3 H), gV_e (yp29_4 H), gV_e (yp29_5 H), gV_e (yp29_1 H), h1, and31l h2]
  rw [gA_e (yt32 H) (Or.inl rfl) (ix (by omega) (by omega) (by omega)), c1, h3]
  simp only [lt_]
  rw [if_neg e3, if_neg e4, c3]
  rw [gA_e (yt33 H) (Or.inl rfl) (ix (by omega) (by omega) (by omega)), c4, c2]
  rw [gA_e (yt30 H) (Or.inl rfl) (ix (by omega) (by omega) (by omega))]
  rw [gA_e (yt34 H) (Or.inl rfl) (ix (by omega) (by omega) (by omega))]
  have r1 : sm_up2 (sm_up2 I (B + 33) (36 * s + m) (it k)) (B + 34) (36 * s + m) (sm_up2 I (B + 33) (36 * s + m) (it k) (B + 30) k) (B + 29) 7 = it s := by
    rw [up2_n (by omega), up2_n (by omega)]; exact h1
  rw [r1, and31l h2]
  rw [gA_e (yt32 H) (Or.inl rfl) (ix (by omega) (by omega) (by omega)), c1]
  rw [gA_e (yt30 H) (Or.inl rfl) (ix (by omega) (by omega) (by omega))]
  rw [up2_n (a := B + 33) (b := B + 30) (by omega)]
  have r2 : it m + 1 = it (m + 1) := by rw [show (1 : Int32) = it 1 from rfl, it_add]
  rw [r2]
  rfl
theorem s_147 (H : Lay B w) (z1 : 0 ≤ z) (z2 : z < 327) : Cl K (d + 1) 147 [.ref (B + 29), .int (it z)] w I J = some (some (.int (I (B + 30) z.toNat)), w, I, J) := by
  apply cl_147 (k := 0)
  unfold f_147
  simp (disch := omega) only [gO, gV, gA, gL, gC, gY, lt_, cI, cJ, cV, cA, ↓reduceIte, true_or, or_true, true_and, and_true, false_or, or_false, false_and, and_false, not_false_eq_true, not_true_eq_false, it_lit, it_lt, it_le, it_eq, it_add, it_sub, it_mul, it_neg, it_cl, it_nat, yt29 H, yt30 H, yt31 H, yt32 H, yt33 H, yt34 H, yt35 H, yp29_1 H, yp29_2 H, yp29_3 H, yp29_4 H, yp29_5 H, yp29_6 H]
  repeat (first | rw [if_pos (by omega)] | rw [if_neg (by omega)])
theorem s_146 : Cl K (d + 1) 146 [.int (it z)] w I J = some (some (.int (it (87 + z * 8))), w, I, J) := by
  apply cl_146 (k := 0)
  unfold f_146
  simp only [it_lit, it_lt, it_le, it_eq, it_add, it_sub, it_mul, it_neg, it_cl, it_nat]
theorem s_152 : Cl K (d + 1) 152 [.int (it z)] w I J = some (some (.int (it (151 + (z - 1) * 11))), w, I, J) := by
  apply cl_152 (k := 0)
  unfold f_152
  simp only [it_lit, it_lt, it_le, it_eq, it_add, it_sub, it_mul, it_neg, it_cl, it_nat]
theorem s_150 (z1 : -2147483648 ≤ z) (z2 : z < 2147483648) : Cl K (d + 1) 150 [.int (it z)] w I J = some (some (.int (bi (0 ≤ z ∧ z ≤ 9))), w, I, J) := by
  apply cl_150 (k := 0)
  unfold f_150
  simp (disch := omega) only [it_lit, it_lt, it_le, it_eq, it_add, it_sub, it_mul, it_neg, it_cl, it_nat]
  by_cases h : 0 ≤ z ∧ z ≤ 9
  · rw [bi_t h]
    repeat (first | rw [if_pos (by omega)] | rw [if_neg (by omega)])
  · rw [bi_f h]
    repeat' split
    all_goals first | rfl | omega
theorem s_145 {fr : Nat} (H : Lay B w) (h4 : I (B + 30) 4 = it fr) (f1 : 1 ≤ fr) (f2 : fr ≤ 8) : Cl K (d + 2) 145 [.ref (B + 29)] w I J = some (some (.int (I (B + 30) (88 + 8 * (fr - 1)))), w, I, J) := by
  apply cl_145 (k := 0)
  unfold f_145
  simp (disch := omega) only [gO, gV, gA, gL, gC, gY, lt_, cI, cJ, cV, cA, ↓reduceIte, true_or, or_true, true_and, and_true, false_or, or_false, false_and, and_false, not_false_eq_true, not_true_eq_false, it_lit, it_lt, it_le, it_eq, it_add, it_sub, it_mul, it_neg, it_cl, it_nat, yt29 H, yt30 H, yt31 H, yt32 H, yt33 H, yt34 H, yt35 H, yp29_1 H, yp29_2 H, yp29_3 H, yp29_4 H, yp29_5 H, yp29_6 H, s_146, s_147 H, Int.reduceToNat, h4]
  repeat (first | rw [if_pos (by omega)] | rw [if_neg (by omega)])
  rw [show (87 + ((fr : Int) - 1) * 8 + 1).toNat = 88 + 8 * (fr - 1) by omega]
theorem s_149 {hi : Nat} (H : Lay B w) (h3 : I (B + 30) 3 = it hi) (z1 : 0 ≤ z) (z2 : z ≤ 4) (h2 : hi ≤ 30) : Cl K (d + 2) 149 [.ref (B + 29), .int (it z)] w I J = some (some (.int (I (B + 30) (7 + hi - z.toNat))), w, I, J) := by
  apply cl_149 (k := 0)
  unfold f_149
  simp (disch := omega) only [gO, gV, gA, gL, gC, gY, lt_, cI, cJ, cV, cA, ↓reduceIte, true_or, or_true, true_and, and_true, false_or, or_false, false_and, and_false, not_false_eq_true, not_true_eq_false, it_lit, it_lt, it_le, it_eq, it_add, it_sub, it_mul, it_neg, it_cl, it_nat, yt29 H, yt30 H, yt31 H, yt32 H, yt33 H, yt34 H, yt35 H, yp29_1 H, yp29_2 H, yp29_3 H, yp29_4 H, yp29_5 H, yp29_6 H, s_147 H, Int.reduceToNat, h3]
  repeat (first | rw [if_pos (by omega)] | rw [if_neg (by omega)])
  rw [show (7 + (hi : Int) - z).toNat = 7 + hi - z.toNat by omega]
theorem s_162 {fr : Nat} {v : Int32} (H : Lay B w) (X : XM B s m c I) (hm : m < 36) (h4 : c 4 = it fr) (f1 : 1 ≤ fr) (f2 : fr ≤ 8) : Cl K (d + 2) 162 [.ref (B + 29), .int v] w I J = some (some (.int (it 0)), w, wr B s m (88 + 8 * (fr - 1)) v I, J) := by
  apply cl_162 (k := 0)
  unfold f_162
  have h4' : I (B + 30) 4 = it fr := by rw [X.2.2.2]; exact h4
  have e : it (87 + ((fr : Int) - 1) * 8 + 1) = it ((88 + 8 * (fr - 1) : Nat) : Int) := by congr 1; omega
  simp (disch := omega) only [gO, gV, gA, gL, gC, gY, lt_, cI, cJ, cV, cA, ↓reduceIte, true_or, or_true, true_and, and_true, false_or, or_false, false_and, and_false, not_false_eq_true, not_true_eq_false, it_lit, it_lt, it_le, it_eq, it_add, it_sub, it_mul, it_neg, it_cl, it_nat, yt29 H, yt30 H, yt31 H, yt32 H, yt33 H, yt34 H, yt35 H, yp29_1 H, yp29_2 H, yp29_3 H, yp29_4 H, yp29_5 H, yp29_6 H, s_146, Int.reduceToNat, h4']
  repeat (first | rw [if_pos (by omega)] | rw [if_neg (by omega)])
  rw [e]
  simp only [s_144 H X hm (show 88 + 8 * (fr - 1) < 327 by omega)]
/-- replace -/
def wR (h fr tk : Nat) (p v ty : Int32) : List (Nat × Int32) := [(7 + h - tk, v), (37 + h - tk, ty), (3, it ((h - tk + 1 : Nat) : Int)), (88 + 8 * (fr - 1), p + it 1)]
theorem s_161 {h fr tk : Nat} {v ty : Int32} (H : Lay B w) (X : XM B s m c I) (hm : m < 33) (h3 : c 3 = it h) (h4 : c 4 = it fr) (f1 : 1 ≤ fr) (f2 : fr ≤ 8) (h1 : tk ≤ h) (h2 : h - tk < 30) (h0 : h ≤ 30) : Cl K (d + 3) 161 [.ref (B + 29), .int (it tk), .int v, .int ty] w I J = some (some (.int (it 0)), w, wrs B s m (wR h fr tk (c (88 + 8 * (fr - 1))) v ty) I, J) := by
  apply cl_161 (k := 0)
  unfold f_161
  have h3' : I (B + 30) 3 = it h := by rw [X.2.2.2]; exact h3
  have e1 : it (7 + ((h : Int) - tk)) = it ((7 + h - tk : Nat) : Int) := by congr 1; omega
  have e2 : it (37 + ((h : Int) - tk)) = it ((37 + h - tk : Nat) : Int) := by congr 1; omega
  have e3 : it ((h : Int) - tk + 1) = it ((h - tk + 1 : Nat) : Int) := by congr 1; omega
  have e4 : it 3 = it ((3 : Nat) : Int) := rfl
  simp (disch := omega) only [gO, gV, gA, gL, gC, gY, lt_, cI, cJ, cV, cA, ↓reduceIte, true_or, or_true, true_and, and_true, false_or, or_false, false_and, and_false, not_false_eq_true, not_true_eq_false, it_lit, it_lt, it_le, it_eq, it_add, it_sub, it_mul, it_neg, it_cl, it_nat, yt29 H, yt30 H, yt31 H, yt32 H, yt33 H, yt34 H, yt35 H, yp29_1 H, yp29_2 H, yp29_3 H, yp29_4 H, yp29_5 H, yp29_6 H, Int.reduceToNat, h3']
  repeat (first | rw [if_pos (by omega)] | rw [if_neg (by omega)])
  rw [e1, e2, e3, e4, s_144 H X (by omega) (by omega)]
  simp only
  rw [s_144 H (X.wr _ _) (by omega) (by omega)]
  simp only
  rw [s_144 H ((X.wr _ _).wr _ _) (by omega) (by omega)]
  simp only
  have X3 := ((X.wr (7 + h - tk) v).wr (37 + h - tk) ty).wr 3 (it ((h - tk + 1 : Nat) : Int))
  have c4 : sm_up1 (sm_up1 (sm_up1 c (7 + h - tk) v) (37 + h - tk) ty) 3 (it ((h - tk + 1 : Nat) : Int)) 4 = it fr := by
    rw [up1_n (by omega), up1_n (by omega), up1_n (by omega)]; exact h4
  have c5 : sm_up1 (sm_up1 (sm_up1 c (7 + h - tk) v) (37 + h - tk) ty) 3 (it ((h - tk + 1 : Nat) : Int)) (88 + 8 * (fr - 1)) = c (88 + 8 * (fr - 1)) := by
    rw [up1_n (by omega), up1_n (by omega), up1_n (by omega)]
  rw [s_145 H (fr := fr) (by rw [X3.2.2.2]; exact c4) f1 f2]
  simp only
  rw [X3.2.2.2, c5, s_162 H X3 (by omega) c4 f1 f2]
  simp only [gO, gV, gA, gL, gC, gY, lt_, cI, cJ, cV, cA, ↓reduceIte, true_or, or_true, true_and, and_true, false_or, or_false, false_and, and_false, not_false_eq_true, not_true_eq_false, yt29 H]
  rfl
/-- drop -/
def wD (h fr tk : Nat) (p : Int32) : List (Nat × Int32) := [(3, it ((h - tk : Nat) : Int)), (88 + 8 * (fr - 1), p + it 1)]
theorem s_164 {h fr tk : Nat} (H : Lay B w) (X : XM B s m c I) (hm : m < 35) (h3 : c 3 = it h) (h4 : c 4 = it fr) (f1 : 1 ≤ fr) (f2 : fr ≤ 8) (h1 : tk ≤ h) (h0 : h ≤ 30) : Cl K (d + 3) 164 [.ref (B + 29), .int (it tk)] w I J = some (some (.int (it 0)), w, wrs B s m (wD h fr tk (c (88 + 8 * (fr - 1)))) I, J) := by
  apply cl_164 (k := 0)
  unfold f_164
  have h3' : I (B + 30) 3 = it h := by rw [X.2.2.2]; exact h3
  have e3 : it ((h : Int) - tk) = it ((h - tk : Nat) : Int) := by congr 1; omega
  have e4 : it 3 = it ((3 : Nat) : Int) := rfl
  simp (disch := omega) only [gO, gV, gA, gL, gC, gY, lt_, cI, cJ, cV, cA, ↓reduceIte, true_or, or_true, true_and, and_true, false_or, or_false, false_and, and_false, not_false_eq_true, not_true_eq_false, it_lit, it_lt, it_le, it_eq, it_add, it_sub, it_mul, it_neg, it_cl, it_nat, yt29 H, yt30 H, yt31 H, yt32 H, yt33 H, yt34 H, yt35 H, yp29_1 H, yp29_2 H, yp29_3 H, yp29_4 H, yp29_5 H, yp29_6 H, Int.reduceToNat, h3']
  repeat (first | rw [if_pos (by omega)] | rw [if_neg (by omega)])
  rw [e3, e4, s_144 H X (by omega) (by omega)]
  simp only
  have X3 := X.wr 3 (it ((h - tk : Nat) : Int))
  have c4 : sm_up1 c 3 (it ((h - tk : Nat) : Int)) 4 = it fr := by
    rw [up1_n (by omega)]; exact h4
  have c5 : sm_up1 c 3 (it ((h - tk : Nat) : Int)) (88 + 8 * (fr - 1)) = c (88 + 8 * (fr - 1)) := by
    rw [up1_n (by omega)]
  rw [s_145 H (fr := fr) (by rw [X3.2.2.2]; exact c4) f1 f2]
  simp only
  rw [X3.2.2.2, c5, s_162 H X3 (by omega) c4 f1 f2]
  simp only [gO, gV, gA, gL, gC, gY, lt_, cI, cJ, cV, cA, ↓reduceIte, true_or, or_true, true_and, and_true, false_or, or_false, false_and, and_false, not_false_eq_true, not_true_eq_false, yt29 H]
  rfl
end XMS

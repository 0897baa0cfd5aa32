section HS
variable {K : Nat → Value} {B d s m a N F hi pr j f p b : Nat} {fa : Nat → Nat → Nat} {oc ar : Nat → Nat} {sh : Nat → List Nat} {rc : Nat → Bool} {w : aW} {I I' : aI} {J : aJ} {c n : Nat → Int32}
/-- ops 5 to 9 and 11, 13 to 20 -/
theorem hs_b {s' : List Nat} (H : Lay B w) (hp : w.2.1 (B + 29) 0 = some a) (ha : a = B + 8 ∨ a = B + 22) (TC : gTC (N, F, fa, oc, ar, sh, rc)) (gx : gX (N, F, fa, oc, ar, sh, rc) a I J) (X : XM B s m c I) (hm : m < 20) (R : mRel fa c n) (T : mTop N F fa oc ar sh n hi pr j f p b) (n0 : n 0 = it 0) (hE : gEf fa f (oc p) (ar p) (sh p) s') (hs' : sh (p + 1) = s') (q2 : fa f 0 ≤ p + 1) (q3 : p + 1 < gEnd N F fa f) (q1 : p + 1 < 200) (o5 : 5 ≤ oc p) (o20 : oc p ≤ 20) (n10 : ¬ oc p = 10) (n12 : ¬ oc p = 12) : HS K d B s m w J (N, F, fa, oc, ar, sh, rc) I c n j (oc p) (ar p) := by
  have hP : PL w a := PLx H ha; obtain ⟨g1, g2, g3, g4, g5, g6, g7, g8, g9⟩ := tc_g TC; obtain ⟨a1, a2, a3, a4, a5, a6, a7, a8, a9, a10, a11, a12, a13, a14, a15, a16, a17, a18⟩ := id T; obtain ⟨x1, x2, x3, x4⟩ := id gx; have h3 : c 3 = it hi := R.2.2.2.1.trans a3; have h4 : c 4 = it ((j + 1 : Nat) : Int) := R.2.2.2.2.1.trans a1; have f1 : 1 ≤ j + 1 := Nat.le_add_left 1 j; have f2 : j + 1 ≤ 8 := a2
  have hlen := a14.1
  have v1 : 1 ≤ hi → c (6 + hi) = n (9 + hi) := fun h => rel_v (i := 0) R a4 (by omega)
  have v2 : 2 ≤ hi → c (5 + hi) = n (8 + hi) := fun h => by
    have := rel_v (i := 1) R a4 (by omega)
    rw [show 6 + hi - 1 = 5 + hi by omega, show 9 + hi - 1 = 8 + hi by omega] at this
    exact this
  rcases hE with ⟨o1, _⟩ | ⟨o1, _⟩ | ⟨o1, _⟩ | ⟨o1, _⟩ | ⟨o1, _⟩ | ⟨r, h⟩ | ⟨o1, _⟩ | ⟨o1, _⟩ | ⟨o1, _⟩ | ⟨o1, _⟩ | ⟨o1, _⟩ | ⟨o1, _⟩ | ⟨o1, _⟩
  · omega
  · omega
  · omega
  · omega
  · omega
  · rcases h with ⟨o1, e0, e1⟩ | ⟨o1, e0, e1⟩ | ⟨o1, e0, e1⟩ | ⟨o1, e0, e1⟩ | ⟨o1, e0, e1⟩ | ⟨o1, e0, e1⟩ | ⟨o1, e0, e1⟩ | ⟨o1, e0, e1⟩ | ⟨o1, e0, e1⟩ | ⟨o1, e0, e1⟩ | ⟨o1, e0, e1⟩ | ⟨o1, o2, e0, e1⟩
    · -- minus
      rw [e1] at hs'
      have hl : (sh p).length = 1 + r.length := by rw [e0, List.length_cons]; omega
      rw [o1]
      refine Or.inr ⟨fun I' => s_180i (d := d + 3) (by omega), hs_op (q := [0]) (r := r) (ty := 0) (v := - n (9 + hi)) (tk := 1) H hp ha TC gx X hm R T n0 e0 hs' rfl (by omega) (by omega) (Or.inl (by omega)) q2 q3 q1 (by omega) (by omega) rfl rfl ?_ (fun I' n' gm hn => ?_)⟩
      · rw [← v1 (by omega)]
        exact p159e H (by omega) (by omega) (s_173a H X h3 h4 f1 f2 a4 (by omega) (by omega))
      · rw [← hn (9 + hi) (by omega)]
        exact s_192a (d := d + 1) H (by rw [hn _ (by omega)]; exact a3) a4
    · -- not
      rw [e1] at hs'
      have hl : (sh p).length = 1 + r.length := by rw [e0, List.length_cons]; omega
      rw [o1]
      refine Or.inr ⟨fun I' => s_180i (d := d + 3) (by omega), hs_op (q := [1]) (r := r) (ty := 1) (v := it 1 - n (9 + hi)) (tk := 1) H hp ha TC gx X hm R T n0 e0 hs' rfl (by omega) (by omega) (Or.inl (by omega)) q2 q3 q1 (by omega) (by omega) rfl rfl ?_ (fun I' n' gm hn => ?_)⟩
      · rw [← v1 (by omega)]
        exact p159e H (by omega) (by omega) (s_173b H X h3 h4 f1 f2 a4 (by omega) (by omega))
      · rw [← hn (9 + hi) (by omega)]
        exact s_192b (d := d + 1) H (by rw [hn _ (by omega)]; exact a3) a4
    · -- size
      rw [e1] at hs'
      have hl : (sh p).length = 1 + r.length := by rw [e0, List.length_cons]; omega
      have ov := top_v (i := 0) (t := 2) T (by omega) (by rw [e0]; rfl) (by omega)
      rw [show 9 + hi - 0 = 9 + hi by omega] at ov
      have hw := fun I' : aI => s_180c (K := K) (d := d + 3) (o := 7) (J := J) (I := I') H a3 a4 (by omega)
      rw [o1]
      by_cases hz : n (9 + hi) = it 0
      · simp only [if_pos hz] at hw
        exact Or.inl ⟨4, by omega, by omega, p159e H (by omega) (by omega) (h_173 (o := 7) H X h3 h4 f1 f2 a4 (by omega) (by omega) (by omega) (by rw [v1 (by omega)]; exact hz)), hw⟩
      · simp only [if_neg hz] at hw
        obtain ⟨o, p1, p2, p3, p4⟩ := okv_o ov (by omega) hz
        have rl := ((R.2.2.2.2.2.2.2.2.2.2 o p1 p2).2.1 p4).1
        refine Or.inr ⟨hw, hs_op (q := [2]) (r := r) (ty := 0) (v := n (155 + 12 * o)) (tk := 1) H hp ha TC gx X hm R T n0 e0 hs' rfl (by omega) (by omega) (Or.inl (by omega)) q2 q3 q1 (by omega) (by omega) rfl rfl ?_ (fun I' n' gm hn => ?_)⟩
        · rw [← rl]
          exact p159e H (by omega) (by omega) (s_173c (o := 7) H X h3 h4 f1 f2 a4 (by omega) (by omega) (by omega) ((v1 (by omega)).trans p3) p1 p2)
        · rw [← hn (155 + 12 * o) (by omega)]
          exact s_192c (d := d + 1) (o := 7) H (by rw [hn _ (by omega)]; exact a3) a4 (by omega) (by rw [hn _ (by omega)]; exact p3) p2
    · -- head
      rw [e1] at hs'
      have hl : (sh p).length = 1 + r.length := by rw [e0, List.length_cons]; omega
      have ov := top_v (i := 0) (t := 3) T (by omega) (by rw [e0]; rfl) (by omega)
      rw [show 9 + hi - 0 = 9 + hi by omega] at ov
      have hw := fun I' : aI => s_180c (K := K) (d := d + 3) (o := 8) (J := J) (I := I') H a3 a4 (by omega)
      rw [o1]
      by_cases hz : n (9 + hi) = it 0
      · simp only [if_pos hz] at hw
        exact Or.inl ⟨4, by omega, by omega, p159e H (by omega) (by omega) (h_173 (o := 8) H X h3 h4 f1 f2 a4 (by omega) (by omega) (by omega) (by rw [v1 (by omega)]; exact hz)), hw⟩
      · simp only [if_neg hz] at hw
        obtain ⟨o, p1, p2, p3, p4⟩ := okv_o ov (by omega) hz
        have rl := ((R.2.2.2.2.2.2.2.2.2.2 o p1 p2).2.2 p4).1
        refine Or.inr ⟨hw, hs_op (q := [3]) (r := r) (ty := 0) (v := n (155 + 12 * o)) (tk := 1) H hp ha TC gx X hm R T n0 e0 hs' rfl (by omega) (by omega) (Or.inl (by omega)) q2 q3 q1 (by omega) (by omega) rfl rfl ?_ (fun I' n' gm hn => ?_)⟩
        · rw [← rl]
          exact p159e H (by omega) (by omega) (s_173c (o := 8) H X h3 h4 f1 f2 a4 (by omega) (by omega) (by omega) ((v1 (by omega)).trans p3) p1 p2)
        · rw [← hn (155 + 12 * o) (by omega)]
          exact s_192c (d := d + 1) (o := 8) H (by rw [hn _ (by omega)]; exact a3) a4 (by omega) (by rw [hn _ (by omega)]; exact p3) p2
    · -- tail
      rw [e1] at hs'
      have hl : (sh p).length = 1 + r.length := by rw [e0, List.length_cons]; omega
      have ov := top_v (i := 0) (t := 3) T (by omega) (by rw [e0]; rfl) (by omega)
      rw [show 9 + hi - 0 = 9 + hi by omega] at ov
      have hw := fun I' : aI => s_180c (K := K) (d := d + 3) (o := 9) (J := J) (I := I') H a3 a4 (by omega)
      rw [o1]
      by_cases hz : n (9 + hi) = it 0
      · simp only [if_pos hz] at hw
        exact Or.inl ⟨4, by omega, by omega, p159e H (by omega) (by omega) (h_173 (o := 9) H X h3 h4 f1 f2 a4 (by omega) (by omega) (by omega) (by rw [v1 (by omega)]; exact hz)), hw⟩
      · simp only [if_neg hz] at hw
        obtain ⟨o, p1, p2, p3, p4⟩ := okv_o ov (by omega) hz
        have rl := ((R.2.2.2.2.2.2.2.2.2.2 o p1 p2).2.2 p4).2
        have hv : okv n 3 (n (156 + 12 * o)) := by
          rcases a18 o p1 p2 with ⟨h, _⟩ | ⟨h, _⟩ | ⟨_, h⟩
          · rw [p4] at h; exact absurd h (by decide)
          · rw [p4] at h; exact absurd h (by decide)
          · exact h
        refine Or.inr ⟨hw, hs_op (q := [3]) (r := r) (ty := 3) (v := n (156 + 12 * o)) (tk := 1) H hp ha TC gx X hm R T n0 e0 hs' rfl (by omega) (by omega) hv q2 q3 q1 (by omega) (by omega) rfl rfl ?_ (fun I' n' gm hn => ?_)⟩
        · rw [← rl]
          exact p159e H (by omega) (by omega) (s_173d H X h3 h4 f1 f2 a4 (by omega) (by omega) ((v1 (by omega)).trans p3) p1 p2)
        · rw [← hn (156 + 12 * o) (by omega)]
          exact s_192d (d := d + 1) H (by rw [hn _ (by omega)]; exact a3) a4 (by rw [hn _ (by omega)]; exact p3) p2
    · exact absurd o1 n10
    · -- index
      rw [e1] at hs'
      have hl : (sh p).length = 2 + r.length := by rw [e0, List.length_cons, List.length_cons]; omega
      have ov := top_v (i := 1) (t := 2) T (by omega) (by rw [e0]; rfl) (by omega)
      rw [show 9 + hi - 1 = 8 + hi by omega] at ov
      obtain ⟨x, z1, z2, hx⟩ := it_ex (n (9 + hi))
      have hon : ∃ q : Nat, q ≤ 16 ∧ n (8 + hi) = it q ∧ (1 ≤ q → n (154 + 12 * q) = it 1) := by
        by_cases hz : n (8 + hi) = it 0
        · exact ⟨0, by omega, hz, fun h => by omega⟩
        · obtain ⟨o, p1, p2, p3, p4⟩ := okv_o ov (by omega) hz
          exact ⟨o, p2, p3, fun _ => p4⟩
      obtain ⟨q, p2, p3, p4⟩ := hon
      have hsz : ∃ sz : Nat, sz ≤ 9 ∧ (1 ≤ q → n (155 + 12 * q) = it sz ∧ c (141 + 11 * q) = it sz) := by
        by_cases hq : 1 ≤ q
        · rcases a18 q hq p2 with ⟨h, _⟩ | ⟨_, sz, h1, h2⟩ | ⟨h, _⟩
          · rw [p4 hq] at h; exact absurd h (by decide)
          · exact ⟨sz, h1, fun _ => ⟨h2, (((R.2.2.2.2.2.2.2.2.2.2 q hq p2).2.1 (p4 hq)).1).trans h2⟩⟩
          · rw [p4 hq] at h; exact absurd h (by decide)
        · exact ⟨0, by omega, fun h => absurd h hq⟩
      obtain ⟨sz, s9, s1⟩ := hsz
      have hw := fun I' : aI => s_180e (K := K) (d := d + 2) (J := J) (I := I') (x := x) (q := q) (sz := sz) H a3 a4 hx z1 z2 p3 p2 (fun h => (s1 h).1) s9
      rw [o1]
      by_cases hz : q = 0 ∨ ¬ (0 ≤ x ∧ x < sz)
      · refine Or.inl ⟨if q = 0 then 4 else 3, by split <;> omega, by split <;> omega, ?_, ?_⟩
        · have := h_167 (K := K) (d := d) (J := J) (q := q) (sz := sz) (x := x) H X h3 h4 f1 f2 a4 (by omega) ((v2 (by omega)).trans p3) p2 (fun h => (s1 h).2) s9 ((v1 (by omega)).trans hx) z1 z2 hz
          have e2 : it (if q = 0 then (4 : Int) else 3) = it ((if q = 0 then 4 else 3 : Nat) : Int) := by split <;> rfl
          rw [e2] at this
          exact p159c H (by omega) this
        · have e2 : it (if q = 0 then (4 : Int) else if 0 ≤ x ∧ x < sz then 0 else 3) = it ((if q = 0 then 4 else 3 : Nat) : Int) := by
            by_cases h : q = 0
            · rw [if_pos h, if_pos h]; rfl
            · rw [if_neg h, if_neg (by omega), if_neg h]; rfl
          simp only [e2] at hw
          exact hw
      · have hq : ¬ q = 0 := fun e => hz (Or.inl e)
        have hxs : 0 ≤ x ∧ x < sz := Classical.byContradiction (fun e => hz (Or.inr e))
        obtain ⟨i, rfl⟩ := z_nat hxs.1
        simp only [if_neg hq, if_pos hxs] at hw
        have rl := ((R.2.2.2.2.2.2.2.2.2.2 q (by omega) p2).2.1 (p4 (by omega))).2 i (by rw [(s1 (by omega)).1, it_toInt (by omega) (by omega)]; omega) (by omega)
        refine Or.inr ⟨hw, hs_op (q := [0, 2]) (r := r) (ty := 0) (v := n (157 + 12 * q + i)) (tk := 2) H hp ha TC gx X hm R T n0 e0 hs' rfl (by omega) (by omega) (Or.inl (by omega)) q2 q3 q1 (by omega) (by omega) rfl rfl ?_ (fun I' n' gm hn => ?_)⟩
        · rw [← rl]
          exact p159c H (by omega) (s_167 H X h3 h4 f1 f2 a4 (by omega) (by omega) ((v2 (by omega)).trans p3) (by omega) p2 (s1 (by omega)).2 s9 ((v1 (by omega)).trans hx) (by omega))
        · rw [← hn (157 + 12 * q + i) (by omega)]
          exact s_192f (d := d + 1) H (by rw [hn _ (by omega)]; exact a3) a4 (by rw [hn _ (by omega)]; exact hx) (by omega) (by rw [hn _ (by omega)]; exact p3) p2
    · exact absurd o1 n12
    · -- or, and
      rw [e1] at hs'
      have hl : (sh p).length = 2 + r.length := by rw [e0, List.length_cons, List.length_cons]; omega
      have tk : tK (oc p) = 2 := by rcases o1 with o1 | o1 <;> (rw [o1]; rfl)
      have pt : it (pT (oc p)) = it ((1 : Nat) : Int) := by rcases o1 with o1 | o1 <;> (rw [o1]; rfl)
      have tp : it (tOp (oc p)) = it ((1 : Nat) : Int) := by rcases o1 with o1 | o1 <;> (rw [o1]; rfl)
      refine Or.inr ⟨fun I' => s_180i (d := d + 3) (by omega), hs_op (q := [1, 1]) (r := r) (ty := 1) (v := vOp (oc p) (n (8 + hi)) (n (9 + hi))) (tk := 2) H hp ha TC gx X hm R T n0 e0 hs' rfl (by omega) (by omega) (Or.inl (by omega)) q2 q3 q1 (by omega) (by omega) tk pt ?_ (fun I' n' gm hn => ?_)⟩
      · rw [← v1 (by omega), ← v2 (by omega), ← tp]
        exact p159d H (by omega) (by omega) (s_174 H X h3 h4 f1 f2 a4 (by omega) (by omega) (by omega) (by omega) (by omega))
      · rw [← hn (9 + hi) (by omega), ← hn (8 + hi) (by omega)]
        exact s_192h (d := d + 1) H (by rw [hn _ (by omega)]; exact a3) a4 (by omega) (by omega) (by omega)
    · -- less
      rw [e1] at hs'
      have hl : (sh p).length = 2 + r.length := by rw [e0, List.length_cons, List.length_cons]; omega
      rw [o1]
      refine Or.inr ⟨fun I' => s_180i (d := d + 3) (by omega), hs_op (q := [0, 0]) (r := r) (ty := 1) (v := vOp 15 (n (8 + hi)) (n (9 + hi))) (tk := 2) H hp ha TC gx X hm R T n0 e0 hs' rfl (by omega) (by omega) (Or.inl (by omega)) q2 q3 q1 (by omega) (by omega) rfl rfl ?_ (fun I' n' gm hn => ?_)⟩
      · rw [← v1 (by omega), ← v2 (by omega)]
        exact p159d H (by omega) (by omega) (s_174 (o := 15) H X h3 h4 f1 f2 a4 (by omega) (by omega) (by omega) (by omega) (by omega))
      · rw [← hn (9 + hi) (by omega), ← hn (8 + hi) (by omega)]
        exact s_192h (d := d + 1) (o := 15) H (by rw [hn _ (by omega)]; exact a3) a4 (by omega) (by omega) (by omega)
    · -- same
      obtain ⟨t, t1, e0⟩ := e0
      rw [e1] at hs'
      have hl : (sh p).length = 2 + r.length := by rw [e0, List.length_cons, List.length_cons]; omega
      rw [o1]
      refine Or.inr ⟨fun I' => s_180i (d := d + 3) (by omega), hs_op (q := [t, t]) (r := r) (ty := 1) (v := vOp 16 (n (8 + hi)) (n (9 + hi))) (tk := 2) H hp ha TC gx X hm R T n0 e0 hs' rfl (by omega) (by omega) (Or.inl (by omega)) q2 q3 q1 (by omega) (by omega) rfl rfl ?_ (fun I' n' gm hn => ?_)⟩
      · rw [← v1 (by omega), ← v2 (by omega)]
        exact p159d H (by omega) (by omega) (s_174 (o := 16) H X h3 h4 f1 f2 a4 (by omega) (by omega) (by omega) (by omega) (by omega))
      · rw [← hn (9 + hi) (by omega), ← hn (8 + hi) (by omega)]
        exact s_192h (d := d + 1) (o := 16) H (by rw [hn _ (by omega)]; exact a3) a4 (by omega) (by omega) (by omega)
    · -- sums
      rw [e1] at hs'
      have hl : (sh p).length = 2 + r.length := by rw [e0, List.length_cons, List.length_cons]; omega
      have o4 : oc p = 17 ∨ oc p = 18 ∨ oc p = 19 ∨ oc p = 20 := by omega
      have tk : tK (oc p) = 2 := by rcases o4 with o1 | o1 | o1 | o1 <;> (rw [o1]; rfl)
      have pt : it (pT (oc p)) = it ((0 : Nat) : Int) := by rcases o4 with o1 | o1 | o1 | o1 <;> (rw [o1]; rfl)
      have tp : it (tOp (oc p)) = it ((0 : Nat) : Int) := by rcases o4 with o1 | o1 | o1 | o1 <;> (rw [o1]; rfl)
      have fin : (oc p = 20 → ¬ n (9 + hi) = it 0) → Sim K d B s m w J (N, F, fa, oc, ar, sh, rc) I c n j (oc p) (ar p) := fun hz => by
        refine hs_op (q := [0, 0]) (r := r) (ty := 0) (v := vOp (oc p) (n (8 + hi)) (n (9 + hi))) (tk := 2) H hp ha TC gx X hm R T n0 e0 hs' rfl (by omega) (by omega) (Or.inl (by omega)) q2 q3 q1 (by omega) (by omega) tk pt ?_ (fun I' n' gm hn => ?_)
        · rw [← v2 (by omega), ← tp, ← v1 (by omega)]
          exact p159d H (by omega) (by omega) (s_174 H X h3 h4 f1 f2 a4 (by omega) (by omega) (by omega) (by omega) (fun e => by rw [v1 (by omega)]; exact hz e))
        · have e9 := hn (9 + hi) (by omega)
          rw [← e9, ← hn (8 + hi) (by omega)]
          exact s_192h (d := d + 1) H (by rw [hn _ (by omega)]; exact a3) a4 (by omega) (by omega) (fun e => by rw [e9]; exact hz e)
      by_cases h20 : oc p = 20
      · have hw := fun I' : aI => s_180g (K := K) (d := d + 3) (J := J) (I := I') H a3 a4
        by_cases hz : n (9 + hi) = it 0
        · simp only [if_pos hz] at hw
          rw [h20]
          exact Or.inl ⟨2, by omega, by omega, p159d (o := 20) H (by omega) (by omega) (h_174 H X h3 h4 f1 f2 a4 (by rw [v1 (by omega)]; exact hz)), hw⟩
        · simp only [if_neg hz] at hw
          exact Or.inr ⟨by rw [h20]; exact hw, fin (fun _ => hz)⟩
      · exact Or.inr ⟨fun I' => s_180i (d := d + 3) (by omega), fin (fun e => absurd e h20)⟩
  · omega
  · omega
  · omega
  · omega
  · omega
  · omega
  · omega
end HS

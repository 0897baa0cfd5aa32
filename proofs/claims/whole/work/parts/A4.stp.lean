section STP
variable {K : Nat → Value} {B d s m a N F hi pr j f p b : Nat} {fa : Nat → Nat → Nat} {oc ar : Nat → Nat} {sh : Nat → List Nat} {rc : Nat → Bool} {w : aW} {I I' : aI} {J : aJ} {c n : Nat → Int32}
theorem hs_ob {x : Int} {s' : List Nat} (H : Lay B w) (hp : w.2.1 (B + 29) 0 = some a) (ha : a = B + 8 ∨ a = B + 22) (TC : gTC (N, F, fa, oc, ar, sh, rc)) (gx : gX (N, F, fa, oc, ar, sh, rc) a I J) (X : XM B s m c I) (hm : m < 20) (R : mRel fa c n) (T : mTop N F fa oc ar sh n hi pr j f p b) (n0 : n 0 = it 0) (hE : gEf fa f (oc p) (ar p) (sh p) s') (hs' : sh (p + 1) = s') (q2 : fa f 0 ≤ p + 1) (q3 : p + 1 < gEnd N F fa f) (q1 : p + 1 < 200) (hnd : oc p = 12 ∨ oc p = 10 ∧ 0 ≤ x ∧ x ≤ 9) (hx : oc p = 10 → n (9 + hi) = it x) :
    (∀ I' : aI, Cl K (d + 5) 180 [.ref (B + 46), .int (it (oc p))] w (nw B n I') J = some (some (.int (it 0)), w, nw B n I', J)) ∧ (lfree (fun q => n (154 + 12 * q)) 16 1 = 0 → Cl K (d + 5) 159 [.ref (B + 29), .int (it (oc p)), .int (it (ar p))] w I J = some (some (.int (it 6)), w, I, J)) ∧ (¬ lfree (fun q => n (154 + 12 * q)) 16 1 = 0 → Sim K d B s m w J (N, F, fa, oc, ar, sh, rc) I c n j (oc p) (ar p)) := by
  rcases hnd with h12 | ⟨h10, hxx⟩
  · have := hs_h (K := K) (d := d) H hp ha TC gx X hm R T n0 hE hs' q2 q3 q1 h12
    rw [h12]
    exact this
  · obtain ⟨_, x', e1, _, z1, z2, _, hg⟩ := hs_g (K := K) (d := d) H hp ha TC gx X hm R T n0 hE hs' q2 q3 q1 h10
    have ex : x' = x := by
      have := (it_eq z1 z2 (by omega) (by omega)).mp (e1.symm.trans (hx h10))
      exact this
    subst ex
    have := hg hxx
    rw [h10]
    exact this
/-- a step that is done -/
theorem goA {wc : List (Nat × Int32)} {n1 : Nat → Int32} (H : Lay B w) (hp : w.2.1 (B + 29) 0 = some a) (ha : a = B + 8 ∨ a = B + 22) (TC : gTC (N, F, fa, oc, ar, sh, rc)) (gx : gX (N, F, fa, oc, ar, sh, rc) a I J) (hs : I (B + 29) 7 = it s) (s32 : s < 32) (pN : p < N) (hl : wc.length ≤ 17) (hb : ∀ e ∈ wc, e.1 < 327) (c3 : I (B + 30) 3 = n1 2)
    (e143 : f_143 K 0 (d + 5) (B + 29) w I J = f_143_74 K 0 (d + 5) (B + 29) (I (B + 30) 3) (it p) (it (oc p)) w (wrs B s 1 wc (att0 B s I)) J)
    (hR : ∀ Ih : aI, gM (N, F, fa, oc, ar, sh, rc) B Ih → ∃ Ih1 : aI, f_178 K 0 (d + 5) (B + 46) w (nw B n Ih) J = f_178_79 K 0 (d + 5) (B + 46) (it (70 + 8 * (((j + 1 : Nat) : Int) - 1))) (it p) (it (oc p)) (it (ar p)) (it 0) w (nw B n1 Ih1) J ∧ ∀ b, ¬ b = B + 70 → Ih1 b = Ih b)
    (S : Sim K d B s (1 + wc.length) w J (N, F, fa, oc, ar, sh, rc) (wrs B s 1 wc (att0 B s I)) (ap wc (I (B + 30))) n1 j (oc p) (ar p)) : StpA K d B s w J (N, F, fa, oc, ar, sh, rc) I n := by
  obtain ⟨ws, n', l15, wb, hX, hM, R', M'⟩ := S
  obtain ⟨h, fr, hi', pr', b0, b1, b2, b3, b4, b5, b6, b7, b8⟩ := id M'.1
  obtain ⟨g1, g2, g3, g4, g5, g6, g7, g8, g9⟩ := tc_g TC
  obtain ⟨x1, x2, x3, x4⟩ := id gx
  have hP : PL w a := PLx H ha
  have X1 := (att0_X (I := I) hs s32).wrs wc
  have R3 : ap ws (ap wc (I (B + 30))) 3 = it hi' := R'.2.2.2.1.trans b2
  have ra : ∀ b, B + 8 ≤ b → b < B + 29 → wrs B s 1 wc (att0 B s I) b = I b := fun b h1 h2 => by
    rw [wrs_o (by omega) (by omega) (by omega) (by omega), att0_o (by omega) (by omega) (by omega) (by omega)]
  have e74 := a_74 (K := K) (k := 0) (d := d) (J := J) (p := p) (o := oc p) (ar := ar p) (N := N) (hi := hi') H hp hP (by omega) (by rw [ra a (by omega) (by omega)]; exact x1) g1 pN (by rw [ra (a + 2) (by omega) (by omega)]; exact (x3 p pN).2.1) X1 (by omega) hX R3 b6 (I (B + 30) 3)
  have ew : wrs B s (1 + wc.length) (ws ++ [(1, ap ws (ap wc (I (B + 30))) 1 + it 1)]) (wrs B s 1 wc (att0 B s I)) = wrs B s 1 (wc ++ (ws ++ [(1, ap ws (ap wc (I (B + 30))) 1 + it 1)])) (att0 B s I) := (wrs_app B s 1 wc _ _).symm
  rw [ew] at e74
  refine ⟨wc ++ (ws ++ [(1, ap ws (ap wc (I (B + 30))) 1 + it 1)]), sm_up1 n' 4 (n' 4 + it 1), _, _, _, _, ?_, ?_, cl_143 (e143.trans e74), ?_, mOK_u M' (Or.inl rfl), fun Ih gm => ?_⟩
  · simp only [List.length_append, List.length_cons, List.length_nil]; omega
  · intro e he
    rcases List.mem_append.mp he with he | he
    · exact hb e he
    · rcases List.mem_append.mp he with he | he
      · exact wb e he
      · simp only [List.mem_cons, List.not_mem_nil, or_false] at he
        subst he; dsimp only; omega
  · rw [ap_app, ap_app]
    have : ap ws (ap wc (I (B + 30))) 1 = n' 4 := R'.2.1
    rw [this]
    exact e_1 R'
  · obtain ⟨Ih1, e178, fr1⟩ := hR Ih gm
    have gm1 : gM (N, F, fa, oc, ar, sh, rc) B Ih1 := gM_c (I := Ih) (fun b hb => fr1 b (by omega)) gm
    obtain ⟨I'', d1, d2, d3, d4, d5, d6, d7⟩ := d_79 (K := K) (k := 0) (d := d + 4) (J := J) (p := p) (o := oc p) (av := ar p) (n := n1) (hi := hi') H gm1 hM b2 b6
    refine ⟨I'', cl_178 (e178.trans d1), d2, d3, d4.trans c3.symm, d5, ?_, fun b h1 h2 h3 => (d7 b h1 h2).trans (fr1 b h3)⟩
    rw [d6]
    by_cases hz : hi' = 0
    · rw [if_pos hz, if_pos hz]
    · rw [if_neg hz, if_neg hz]
      exact (rel_v (i := 0) R' b6 (by omega)).symm
/-- a step that halts -/
theorem goB {wc : List (Nat × Int32)} {n1 : Nat → Int32} {hc : Nat} (H : Lay B w) (hp : w.2.1 (B + 29) 0 = some a) (ha : a = B + 8 ∨ a = B + 22) (TC : gTC (N, F, fa, oc, ar, sh, rc)) (gx : gX (N, F, fa, oc, ar, sh, rc) a I J) (pN : p < N) (hl : wc.length ≤ 17) (hb : ∀ e ∈ wc, e.1 < 327) (hb2 : ∀ e ∈ wc, e.1 = 2) (h2 : 2 ≤ hc) (h8 : hc ≤ 8)
    (e143 : f_143 K 0 (d + 5) (B + 29) w I J = f_143_74 K 0 (d + 5) (B + 29) (I (B + 30) 3) (it p) (it (oc p)) w (wrs B s 1 wc (att0 B s I)) J)
    (hR : ∀ Ih : aI, gM (N, F, fa, oc, ar, sh, rc) B Ih → ∃ Ih1 : aI, f_178 K 0 (d + 5) (B + 46) w (nw B n Ih) J = f_178_79 K 0 (d + 5) (B + 46) (it (70 + 8 * (((j + 1 : Nat) : Int) - 1))) (it p) (it (oc p)) (it (ar p)) (it hc) w (nw B n1 Ih1) J ∧ ∀ b, ¬ b = B + 70 → Ih1 b = Ih b)
    (hX : Cl K (d + 5) 159 [.ref (B + 29), .int (it (oc p)), .int (it (ar p))] w (wrs B s 1 wc (att0 B s I)) J = some (some (.int (it hc)), w, wrs B s 1 wc (att0 B s I), J)) (R1 : mRel fa (ap wc (I (B + 30))) n1) (T1 : mTop N F fa oc ar sh n1 hi pr j f p b) : StpB K d B s w J (N, F, fa, oc, ar, sh, rc) I n := by
  obtain ⟨g1, g2, g3, g4, g5, g6, g7, g8, g9⟩ := tc_g TC
  obtain ⟨x1, x2, x3, x4⟩ := id gx
  have hP : PL w a := PLx H ha
  have ra : ∀ b, B + 8 ≤ b → b < B + 29 → wrs B s 1 wc (att0 B s I) b = I b := fun b h1 h2 => by
    rw [wrs_o (by omega) (by omega) (by omega) (by omega), att0_o (by omega) (by omega) (by omega) (by omega)]
  have e74 := b_74 (K := K) (k := 0) (d := d) (J := J) (p := p) (o := oc p) (ar := ar p) (N := N) (hc := hc) H hp hP (by omega) (by rw [ra a (by omega) (by omega)]; exact x1) g1 pN (by rw [ra (a + 2) (by omega) (by omega)]; exact (x3 p pN).2.1) (by omega) h8 hX (I (B + 30) 3)
  refine ⟨wc, sm_up1 n1 0 (it hc), hc, cl_143 (e143.trans e74), by omega, hb, hb2, e_0 R1, mOK_h g2 g3 T1 h2 h8, ?_, fun Ih gm => ?_⟩
  · rw [up1_s]
    exact (fun q => by have := (it_eq (by omega) (by omega) (by omega) (by omega)).mp q; omega)
  · obtain ⟨Ih1, e178, fr1⟩ := hR Ih gm
    exact ⟨_, cl_178 (e178.trans (d_79h H (by omega) h8)), nw_r, fun b h1 h2 h3 => (nw_o h1).trans (fr1 b h3)⟩
theorem stp (H : Lay B w) (hp : w.2.1 (B + 29) 0 = some a) (ha : a = B + 8 ∨ a = B + 22) (TC : gTC (N, F, fa, oc, ar, sh, rc)) (gx : gX (N, F, fa, oc, ar, sh, rc) a I J) (gm0 : ∃ I0 : aI, gM (N, F, fa, oc, ar, sh, rc) B I0) (M : mOK (N, F, fa, oc, ar, sh, rc) n) (R : mRel fa (I (B + 30)) n) (n0 : n 0 = it 0) (hs : I (B + 29) 7 = it s) (s32 : s < 32) : StpA K d B s w J (N, F, fa, oc, ar, sh, rc) I n ∨ StpB K d B s w J (N, F, fa, oc, ar, sh, rc) I n := by
  obtain ⟨g1, g2, g3, g4, g5, g6, g7, g8, g9⟩ := tc_g TC
  obtain ⟨x1, x2, x3, x4⟩ := id gx
  have hP : PL w a := PLx H ha
  obtain ⟨hi, pr, j, f, p, b, T⟩ := mOK_top g2 M n0
  obtain ⟨a1, a2, a3, a4, a5, a6, a7, a8, a9, a10, a11, a12, a13, a14, a15, a16, a17, a18⟩ := id T
  obtain ⟨pN, av9, s', hE, hnx, hjp⟩ := tc_at TC a9 a11 a12
  have o27 := gEf_27 hE
  have X1 := att0_X (I := I) hs s32
  have gx1 : gX (N, F, fa, oc, ar, sh, rc) a (att0 B s I) J := gX_c ha (fun b h1 h2 => att0_o (by omega) (by omega) (by omega) (by omega)) gx
  have h3 : I (B + 30) 3 = it hi := R.2.2.2.1.trans a3
  have h4 : I (B + 30) 4 = it ((j + 1 : Nat) : Int) := R.2.2.2.2.1.trans a1
  have hpl : I (B + 30) (88 + 8 * (j + 1 - 1)) = it p := (rel_p R a1 a2).2.1.trans a8
  have c0 : I (B + 30) 0 = it 0 := R.1.trans n0
  have pre : ∀ (x : Int) (wc : List (Nat × Int32)) (q : Int32), (oc p = 10 → I (B + 30) (6 + hi) = it x ∧ 1 ≤ hi ∧ -2147483648 ≤ x ∧ x < 2147483648) → (wc = [] ∧ (¬ (oc p = 12 ∨ oc p = 10 ∧ 0 ≤ x ∧ x ≤ 9) ∨ ¬ lfree (fun q => I (B + 30) (140 + 11 * q)) 16 1 = 0) ∨ (oc p = 12 ∨ oc p = 10 ∧ 0 ≤ x ∧ x ≤ 9) ∧ lfree (fun q => I (B + 30) (140 + 11 * q)) 16 1 = 0 ∧ Cl K (d + 5) 153 [.ref (B + 29)] w (att0 B s I) J = some (some (.int q), w, wrs B s 1 wc (att0 B s I), J)) → f_143 K 0 (d + 5) (B + 29) w I J = f_143_74 K 0 (d + 5) (B + 29) (I (B + 30) 3) (it p) (it (oc p)) w (wrs B s 1 wc (att0 B s I)) J := by
    intro x wc q hx hwc
    exact a_143 (K := K) (k := 0) (d := d) (J := J) (fr := j + 1) (N := N) (o := oc p) H hp hP (by omega) hs s32 c0 h4 (by omega) (by omega) x1 g1 hpl pN (x3 p pN).1 (s_148 (d := d + 2) (x := x) H X1 h3 a4 hx o27) hwc
  -- ops that need no object
  have noob : ∀ x : Int, (oc p = 10 → I (B + 30) (6 + hi) = it x ∧ 1 ≤ hi ∧ -2147483648 ≤ x ∧ x < 2147483648) → ¬ (oc p = 12 ∨ oc p = 10 ∧ 0 ≤ x ∧ x ≤ 9) → HS K d B s 1 w J (N, F, fa, oc, ar, sh, rc) (att0 B s I) (I (B + 30)) n j (oc p) (ar p) → (oc p = 10 → ∃ hc : Nat, 2 ≤ hc ∧ hc ≤ 8 ∧ Cl K (d + 5) 159 [.ref (B + 29), .int (it (oc p)), .int (it (ar p))] w (att0 B s I) J = some (some (.int (it hc)), w, att0 B s I, J) ∧ ∀ I' : aI, Cl K (d + 5) 180 [.ref (B + 46), .int (it (oc p))] w (nw B n I') J = some (some (.int (it hc)), w, nw B n I', J)) → StpA K d B s w J (N, F, fa, oc, ar, sh, rc) I n ∨ StpB K d B s w J (N, F, fa, oc, ar, sh, rc) I n := by
    intro x hx hnd hS h10
    have e143 := pre x [] (it 0) hx (Or.inl ⟨rfl, Or.inl hnd⟩)
    have hB : (∃ hc : Nat, 2 ≤ hc ∧ hc ≤ 8 ∧ Cl K (d + 5) 159 [.ref (B + 29), .int (it (oc p)), .int (it (ar p))] w (att0 B s I) J = some (some (.int (it hc)), w, att0 B s I, J) ∧ ∀ I' : aI, Cl K (d + 5) 180 [.ref (B + 46), .int (it (oc p))] w (nw B n I') J = some (some (.int (it hc)), w, nw B n I', J)) → StpB K d B s w J (N, F, fa, oc, ar, sh, rc) I n := by
      rintro ⟨hc, k1, k2, k3, k4⟩
      refine goB (wc := []) (n1 := n) (hc := hc) (hi := hi) (pr := pr) (b := b) (f := f) H hp ha TC gx pN (by show 0 ≤ 17; omega) (fun e he => by cases he) (fun e he => by cases he) k1 k2 e143 (fun Ih gm => ⟨Ih, ?_, fun _ _ => rfl⟩) k3 R T
      rw [d_178 (G := (N, F, fa, oc, ar, sh, rc)) H gm T pN (k4 Ih), if_pos (fun q => by have := (it_eq (by omega) (by omega) (by omega) (by omega)).mp q; omega)]
    by_cases e10 : oc p = 10
    · exact Or.inr (hB (h10 e10))
    · rcases hS with hS | ⟨k4, hS⟩
      · exact Or.inr (hB hS)
      · refine Or.inl (goA (wc := []) (n1 := n) H hp ha TC gx hs s32 pN (by show 0 ≤ 17; omega) (fun e he => by cases he) (R.2.2.2.1) e143 (fun Ih gm => ⟨Ih, ?_, fun _ _ => rfl⟩) hS)
        rw [d_178 (G := (N, F, fa, oc, ar, sh, rc)) H gm T pN (k4 Ih), if_neg (fun q => q rfl), if_neg (fun q => by have := (it_eq (by omega) (by omega) (by omega) (by omega)).mp q; omega), if_pos (fun q => by have := (it_eq (by omega) (by omega) (by omega) (by omega)).mp q; omega)]
  by_cases ob : oc p = 10 ∨ oc p = 12
  · obtain ⟨q2, q3, q1, hs'⟩ := hnx (by omega)
    -- the size
    have hx : ∃ x : Int, (oc p = 10 → I (B + 30) (6 + hi) = it x ∧ 1 ≤ hi ∧ -2147483648 ≤ x ∧ x < 2147483648) ∧ (oc p = 10 → n (9 + hi) = it x) ∧ (¬ (oc p = 12 ∨ oc p = 10 ∧ 0 ≤ x ∧ x ≤ 9) → HS K d B s 1 w J (N, F, fa, oc, ar, sh, rc) (att0 B s I) (I (B + 30)) n j (oc p) (ar p) ∧ ∃ hc : Nat, 2 ≤ hc ∧ hc ≤ 8 ∧ Cl K (d + 5) 159 [.ref (B + 29), .int (it (oc p)), .int (it (ar p))] w (att0 B s I) J = some (some (.int (it hc)), w, att0 B s I, J) ∧ ∀ I' : aI, Cl K (d + 5) 180 [.ref (B + 46), .int (it (oc p))] w (nw B n I') J = some (some (.int (it hc)), w, nw B n I', J)) := by
      by_cases e10 : oc p = 10
      · obtain ⟨h1, x, e1, e2, z1, z2, hb, _⟩ := hs_g (K := K) (d := d) H hp ha TC gx1 X1 (by omega) R T n0 hE hs' q2 q3 q1 e10
        refine ⟨x, fun _ => ⟨e2, h1, z1, z2⟩, fun _ => e1, fun hn => ?_⟩
        have hbad : ¬ (0 ≤ x ∧ x ≤ 9) := fun q => hn (Or.inr ⟨e10, q⟩)
        rw [e10]
        refine ⟨hb hbad, 5, by omega, by omega, p159c (o := 10) H (by omega) (h_165 H X1 h3 h4 (by omega) (by omega) a4 h1 e2 z1 z2 hbad), fun I' => ?_⟩
        have hw := s_180d (K := K) (d := d + 3) (J := J) (I := I') (x := x) H a3 a4 e1 z1 z2
        rw [if_neg hbad] at hw
        exact hw
      · exact ⟨0, fun e => absurd e e10, fun e => absurd e e10, fun hn => absurd (Or.inl (ob.resolve_left e10)) hn⟩
    obtain ⟨x, hxc, hxn, hbad⟩ := hx
    by_cases hnd : oc p = 12 ∨ oc p = 10 ∧ 0 ≤ x ∧ x ≤ 9
    · obtain ⟨k4, k5, k6⟩ := hs_ob (K := K) (d := d) (x := x) H hp ha TC gx1 X1 (by omega) R T n0 hE hs' q2 q3 q1 hnd hxn
      have h53 : ∀ Ih : aI, gM (N, F, fa, oc, ar, sh, rc) B Ih → f_178 K 0 (d + 5) (B + 46) w (nw B n Ih) J = f_178_53 K 0 (d + 5) (B + 46) (it (70 + 8 * (((j + 1 : Nat) : Int) - 1))) (it p) (it (oc p)) (it (ar p)) (it 0) w (nw B n Ih) J := by
        intro Ih gm
        rw [d_178 (G := (N, F, fa, oc, ar, sh, rc)) H gm T pN (k4 Ih), if_neg (fun q => q rfl)]
        rcases ob with e | e
        · rw [e, if_pos (by decide)]
        · rw [e, if_neg (by decide), if_neg (fun q => q (by decide))]
      by_cases hl : lfree (fun q => n (154 + 12 * q)) 16 1 = 0
      · -- a clearing
        obtain ⟨fd, fz, hX, hM, R1, V1, W1, O1⟩ := clr (K := K) (d := d) (fr := j + 1) H hp ha TC gx1 gm0 X1 (by omega) R a1 (by omega) a3 a4 a16 a17 a18
        have hw17 := wFr_len fd 16 1
        have e143 := pre x _ _ hxc (Or.inr ⟨hnd, by rw [lfree_eq R]; exact hl, hX⟩)
        obtain ⟨n1a, n1b, n1c⟩ := nG_of fd n
        have T1 := top_G (n1 := ap (wMF fd 16 1 ++ [(5, n 5 + it 1)]) n) T (fun i h1 h2 => n1c i h1 (by omega)) V1 W1 O1
        have X2 := X1.wrs (wFr fd 16 1 ++ [(2, I (B + 30) 2 + it 1)])
        have gx2 : gX (N, F, fa, oc, ar, sh, rc) a (wrs B s 1 (wFr fd 16 1 ++ [(2, I (B + 30) 2 + it 1)]) (att0 B s I)) J := gX_c ha (fun b h1 h2 => wrs_o (by omega) (by omega) (by omega) (by omega) _ _ _) gx1
        have hlen : (wFr fd 16 1 ++ [(2, I (B + 30) 2 + it 1)]).length ≤ 17 := by
          rw [List.length_append]; show _ + 1 ≤ 17; omega
        have n10 : ap (wMF fd 16 1 ++ [(5, n 5 + it 1)]) n 0 = it 0 := by rw [n1c 0 (by omega) (by omega)]; exact n0
        obtain ⟨l4, l5, l6⟩ := hs_ob (K := K) (d := d) (x := x) H hp ha TC gx2 X2 (by omega) R1 T1 n10 hE hs' q2 q3 q1 hnd (fun e => by rw [n1c (9 + hi) (by omega) (by omega)]; exact hxn e)
        have hbb : ∀ e ∈ wFr fd 16 1 ++ [(2, I (B + 30) 2 + it 1)], e.1 < 327 := by
          intro e he
          rcases List.mem_append.mp he with he | he
          · exact wFr_b 16 1 (by omega) e he
          · simp only [List.mem_cons, List.not_mem_nil, or_false] at he
            subst he; dsimp only; omega
        have kz : ∀ o, 1 ≤ o → o ≤ 16 → ap (wMF fd 16 1 ++ [(5, n 5 + it 1)]) n (154 + 12 * o) = if fd o = true then it 0 else n (154 + 12 * o) := fun o o1 o2 => n1a o 0 o1 o2 (by omega)
        have hc17 := cF_le (fd := fd) 16 1
        have hfin : ∀ Ih : aI, gM (N, F, fa, oc, ar, sh, rc) B Ih → ∃ Ih1 : aI, f_178 K 0 (d + 5) (B + 46) w (nw B n Ih) J = f_178_79 K 0 (d + 5) (B + 46) (it (70 + 8 * (((j + 1 : Nat) : Int) - 1))) (it p) (it (oc p)) (it (ar p)) (if cF fd 16 1 = 0 then it 6 else it 0) w (nw B (ap (wMF fd 16 1 ++ [(5, n 5 + it 1)]) n) Ih1) J ∧ ∀ b, ¬ b = B + 70 → Ih1 b = Ih b := by
          intro Ih gm
          obtain ⟨h', e185⟩ := hM Ih gm
          refine ⟨sm_up1 Ih (B + 70) h', ?_, fun b hb => up1_n hb⟩
          rw [h53 Ih gm]
          unfold f_178_53 f_178_77
          simp only [it_lit, gO_e (yt46 H)]
          rw [s_184 (d := d + 3) H, hl]
          simp only [cI_e]
          rw [if_neg (fun q => q rfl)]
          rw [e185]
          simp only [cI_e]
          by_cases hz : cF fd 16 1 = 0
          · rw [if_pos hz, hz, if_neg (fun q => q rfl), gO_e (yt46 H)]
            rfl
          · rw [if_neg hz, if_pos (fun q => by have := (it_eq (by omega) (by omega) (by omega) (by omega)).mp q; omega), gO_e (yt46 H)]
            rfl
        by_cases hz : cF fd 16 1 = 0
        · have hn := (cF_0 16 1).mp hz
          have hl1 : lfree (fun q => ap (wMF fd 16 1 ++ [(5, n 5 + it 1)]) n (154 + 12 * q)) 16 1 = 0 := by
            rw [← hl]
            exact lfree_c 16 1 (fun q h1 h2 => by
              show ap (wMF fd 16 1 ++ [(5, n 5 + it 1)]) n (154 + 12 * q) = _
              rw [kz q h1 (by omega), if_neg (hn q h1 h2)])
          have hw0 : wFr fd 16 1 = [] := List.eq_nil_of_length_eq_zero (by rw [wFr_cF]; exact hz)
          simp only [if_pos hz] at hfin
          refine Or.inr (goB (hc := 6) H hp ha TC gx pN hlen hbb ?_ (by omega) (by omega) e143 hfin (l5 hl1) R1 T1)
          intro e he
          rw [hw0] at he
          simp only [List.nil_append, List.mem_cons, List.not_mem_nil, or_false] at he
          subst he; rfl
        · have hl1 : ¬ lfree (fun q => ap (wMF fd 16 1 ++ [(5, n 5 + it 1)]) n (154 + 12 * q)) 16 1 = 0 := by
            intro hl1
            apply hz
            refine (cF_0 16 1).mpr (fun q h1 h2 hf => ?_)
            have := lfree_n _ 16 1 hl1 (by omega) q h1 h2
            exact this ((kz q h1 (by omega)).trans (if_pos hf))
          simp only [if_neg hz] at hfin
          exact Or.inl (goA H hp ha TC gx hs s32 pN hlen hbb (by rw [n1c 2 (by omega) (by omega)]; exact R.2.2.2.1) e143 hfin (l6 hl1))
      · have e143 := pre x [] (it 0) hxc (Or.inl ⟨rfl, Or.inr (by rw [lfree_eq R]; exact hl)⟩)
        refine Or.inl (goA (wc := []) (n1 := n) H hp ha TC gx hs s32 pN (by show 0 ≤ 17; omega) (fun e he => by cases he) (R.2.2.2.1) e143 (fun Ih gm => ⟨Ih, ?_, fun _ _ => rfl⟩) (k6 hl))
        rw [h53 Ih gm]
        unfold f_178_53
        simp only [it_lit, gO_e (yt46 H)]
        rw [s_184 (d := d + 3) H]
        simp only [cI_e]
        have hle := lfree_le (fun q => n (154 + 12 * q)) 16 1
        rw [if_pos (fun q => by have := (it_eq (by omega) (by omega) (by omega) (by omega)).mp q; omega)]
    · exact noob x hxc hnd (hbad hnd).1 (fun _ => (hbad hnd).2)
  · refine noob 0 (fun e => absurd (Or.inl e) ob) (by omega) ?_ (fun e => absurd (Or.inl e) ob)
    by_cases e25 : oc p = 25
    · exact hs_f H hp ha TC gx1 X1 (by omega) R T n0 hE e25
    · obtain ⟨q2, q3, q1, hs'⟩ := hnx e25
      by_cases h1 : oc p = 0 ∨ oc p = 1 ∨ oc p = 2 ∨ oc p = 3 ∨ oc p = 27
      · exact hs_a H hp ha TC gx1 X1 (by omega) R T n0 hE hs' q2 q3 q1 av9 h1
      · by_cases h2 : oc p = 4
        · exact hs_e H hp ha TC gx1 X1 (by omega) R T n0 hE hs' q2 q3 q1 h2
        · by_cases h3 : oc p ≤ 20
          · exact hs_b H hp ha TC gx1 X1 (by omega) R T n0 hE hs' q2 q3 q1 (by omega) h3 (by omega) (by omega)
          · by_cases h5 : oc p = 23 ∨ oc p = 24
            · obtain ⟨u2, u3, u1, us⟩ := hjp h5
              exact hs_d H hp ha TC gx1 X1 (by omega) R T n0 hE hs' q2 q3 q1 u2 u3 u1 us h5
            · exact hs_c H hp ha TC gx1 X1 (by omega) R T n0 hE hs' q2 q3 q1 (by omega)
end STP

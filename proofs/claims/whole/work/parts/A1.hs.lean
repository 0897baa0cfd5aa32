section HS
variable {K : Nat → Value} {B d s m a N F hi pr j f p b : Nat} {fa : Nat → Nat → Nat} {oc ar : Nat → Nat} {sh : Nat → List Nat} {rc : Nat → Bool} {w : aW} {I I' : aI} {J : aJ} {c n : Nat → Int32}
/-- a call -/
theorem hs_e {s' : List Nat} (H : Lay B w) (hp : w.2.1 (B + 29) 0 = some a) (ha : a = B + 8 ∨ a = B + 22) (TC : gTC (N, F, fa, oc, ar, sh, rc)) (gx : gX (N, F, fa, oc, ar, sh, rc) a I J) (X : XM B s m c I) (hm : m < 20) (R : mRel fa c n) (T : mTop N F fa oc ar sh n hi pr j f p b) (n0 : n 0 = it 0) (hE : gEf fa f (oc p) (ar p) (sh p) s') (hs' : sh (p + 1) = s') (q2 : fa f 0 ≤ p + 1) (q3 : p + 1 < gEnd N F fa f) (q1 : p + 1 < 200) (ho : oc p = 4) : HS K d B s m w J (N, F, fa, oc, ar, sh, rc) I c n j (oc p) (ar p) := by
  have hP : PL w a := PLx H ha; obtain ⟨g1, g2, g3, g4, g5, g6, g7, g8, g9⟩ := tc_g TC; obtain ⟨a1, a2, a3, a4, a5, a6, a7, a8, a9, a10, a11, a12, a13, a14, a15, a16, a17, a18⟩ := id T; obtain ⟨x1, x2, x3, x4⟩ := id gx; have h3 : c 3 = it hi := R.2.2.2.1.trans a3; have h4 : c 4 = it ((j + 1 : Nat) : Int) := R.2.2.2.2.1.trans a1; have f1 : 1 ≤ j + 1 := Nat.le_add_left 1 j; have f2 : j + 1 ≤ 8 := a2
  have hlen := a14.1
  obtain ⟨p1, p2, p3⟩ := rel_p R a1 a2
  rcases hE with ⟨o1, _⟩ | ⟨o1, _⟩ | ⟨o1, _⟩ | ⟨o1, _⟩ | ⟨o1, o2, r, e0, e1⟩ | ⟨r, h⟩ | ⟨o1, _⟩ | ⟨o1, _⟩ | ⟨o1, _⟩ | ⟨o1, _⟩ | ⟨o1, _⟩ | ⟨o1, _⟩ | ⟨o1, _⟩
  · omega
  · omega
  · omega
  · omega
  · have gF : ar p < F := by omega
    have hl : (sh p).length = fa (ar p) 1 + r.length := by rw [e0, List.length_append, gPar_len]
    have hpc := g5 _ gF
    have hc6 := g3 _ gF
    have hat := g7 _ gF
    have hae := g8 _ gF
    have hw := fun I' : aI => s_180b (K := K) (d := d + 3) (J := J) (I := I') (fr := j + 1) H a1 f2
    rw [o1]
    by_cases h8 : j + 1 = 8
    · simp only [if_pos h8] at hw
      exact Or.inl ⟨7, by omega, by omega, p159b (o := 4) H (by omega) (h_163 H X h3 h4 f1 f2 a4 h8), hw⟩
    · simp only [if_neg h8] at hw
      have xf := (x4 _ gF).1
      have hX := p159b (o := 4) (d := d + 4) H (by omega) (s_163 (K := K) (J := J) (g := ar p) (pa := fa (ar p) 1) (cn := fa (ar p) 2) (at0 := fa (ar p) 0) H X h3 h4 f1 f2 a4 hp hP (by omega) hm (by omega) (by omega) hpc hc6 (by omega) (xf 0 (by omega)) (xf 1 (by omega)) (xf 2 (by omega)))
      have hM := fun (I' : aI) (gm : gM (N, F, fa, oc, ar, sh, rc) B I') => f_188c (K := K) (d := d + 1) (J := J) (I := I') (g := ar p) (pa := fa (ar p) 1) (at0 := fa (ar p) 0) (fr := j + 1) (hi := hi) (p := p) H a1 a3 f1 (by omega) a4 (by omega) (by omega) (by omega) ((gm.2.2.2 _ gF).1 0 (by omega)) ((gm.2.2.2 _ gF).1 1 (by omega)) a8 (by omega)
      refine Or.inr ⟨hw, _, _, ?_, ?_, hX, hM, ?_, ?_⟩
      · simp only [List.length_append, List.length_cons, List.length_nil, wV_len, wD]
        omega
      · intro e he
        rcases List.mem_append.mp he with he | he
        · exact wD_b (by omega) e he
        · rcases List.mem_cons.mp he with rfl | he
          · dsimp only; omega
          · rcases List.mem_cons.mp he with rfl | he
            · dsimp only; omega
            · rcases List.mem_append.mp he with he | he
              · exact wV_b (by omega) _ _ (by omega) e he
              · simp only [List.mem_cons, List.not_mem_nil, or_false] at he
                subst he; dsimp only; omega
      · refine rel_C (g := ar p) (pa := fa (ar p) 1) (at0 := fa (ar p) 0) (hi := hi) R a1 (by omega) a4 (by omega) nC_of (by omega) hc6 ?_
        have := cC_of (c := c) (fr := j + 1) (pa := fa (ar p) 1) (cn := fa (ar p) 2) (hi := hi) (g := ar p) (at0 := fa (ar p) 0) (q := c (88 + 8 * (j + 1 - 1))) (by omega) a4 (by omega) hpc
        rw [show j + 1 - 1 = j by omega, p2] at this
        rw [show j + 1 - 1 = j by omega, p2]
        exact this
      · have nc := nC_of (n := n) (fr := j + 1) (pa := fa (ar p) 1) (hi := hi) (g := ar p) (at0 := fa (ar p) 0)
        refine mOK_of (h := 0) g2 (top_C (r := r) g2 g3 g4 T e0 o1 rfl gF hpc rfl (by omega) hat (g9 _ gF) (by omega) nc) ?_ (by omega) (by omega)
        rw [nc.2.2.2.2.2 0 (by omega) (by omega) (by omega)]
        exact n0
  · exfalso
    rcases h with h | h | h | h | h | h | h | h | h | h | h | h <;> omega
  · omega
  · omega
  · omega
  · omega
  · omega
  · omega
  · omega
/-- an end -/
theorem hs_f {s' : List Nat} (H : Lay B w) (hp : w.2.1 (B + 29) 0 = some a) (ha : a = B + 8 ∨ a = B + 22) (TC : gTC (N, F, fa, oc, ar, sh, rc)) (gx : gX (N, F, fa, oc, ar, sh, rc) a I J) (X : XM B s m c I) (hm : m < 20) (R : mRel fa c n) (T : mTop N F fa oc ar sh n hi pr j f p b) (n0 : n 0 = it 0) (hE : gEf fa f (oc p) (ar p) (sh p) s') (ho : oc p = 25) : HS K d B s m w J (N, F, fa, oc, ar, sh, rc) I c n j (oc p) (ar p) := by
  have hP : PL w a := PLx H ha; obtain ⟨g1, g2, g3, g4, g5, g6, g7, g8, g9⟩ := tc_g TC; obtain ⟨a1, a2, a3, a4, a5, a6, a7, a8, a9, a10, a11, a12, a13, a14, a15, a16, a17, a18⟩ := id T; obtain ⟨x1, x2, x3, x4⟩ := id gx; have h3 : c 3 = it hi := R.2.2.2.1.trans a3; have h4 : c 4 = it ((j + 1 : Nat) : Int) := R.2.2.2.2.1.trans a1; have f1 : 1 ≤ j + 1 := Nat.le_add_left 1 j; have f2 : j + 1 ≤ 8 := a2
  have hlen := a14.1
  have v1 : 1 ≤ hi → c (6 + hi) = n (9 + hi) := fun h => rel_v (i := 0) R a4 (by omega)
  rcases hE with ⟨o1, _⟩ | ⟨o1, _⟩ | ⟨o1, _⟩ | ⟨o1, _⟩ | ⟨o1, _⟩ | ⟨r, h⟩ | ⟨o1, _⟩ | ⟨o1, _⟩ | ⟨o1, _⟩ | ⟨o1, _⟩ | ⟨o1, e0, e1⟩ | ⟨o1, _⟩ | ⟨o1, _⟩
  · omega
  · omega
  · omega
  · omega
  · omega
  · exfalso
    rcases h with h | h | h | h | h | h | h | h | h | h | h | h <;> omega
  · omega
  · omega
  · omega
  · omega
  · have hl : (sh p).length = 1 := by rw [e0]; rfl
    rw [o1]
    by_cases hj : j = 0
    · subst hj
      have hb : b = 0 := a15
      have hh1 : hi = 1 := by omega
      subst hh1
      have hX := p159c (o := 25) (v := it (ar p)) (d := d + 4) H (by omega) (s_171b (K := K) (J := J) H X h3 h4 f1 f2 a4 (by omega) rfl (by omega))
      have hM := fun (I' : aI) (gm : gM (N, F, fa, oc, ar, sh, rc) B I') => f_188e (K := K) (d := d + 1) (J := J) (I := I') (a := it (ar p)) (fr := 1) H f1 f2 (s_190b (K := K) (d := d + 2) (J := J) (I := I') H a1 a3 (by omega) (by omega))
      refine Or.inr ⟨fun I' => s_180i (d := d + 3) (by omega), _, _, by show 4 ≤ 15; omega, ?_, hX, hM, ?_, ?_⟩
      · intro e he
        simp only [List.mem_cons, List.not_mem_nil, or_false] at he
        rcases he with rfl | rfl | rfl | rfl <;> (dsimp only; omega)
      · rw [v1 (by omega)]
        exact end_R (h := 0) R a1
      · have u : ∀ i, 7 ≤ i → ap [(2, it ((1 - 1 : Nat) : Int)), (1, it 0), (6, n (9 + 1)), (0, it 1)] n i = n i := fun i hi => by
          simp only [ap]; rw [up1_n (by omega), up1_n (by omega), up1_n (by omega), up1_n (by omega)]
        refine ⟨⟨1, 0, 0, pr, ?_, ?_, ?_, ?_, by omega, by omega, by omega, a6, ⟨fun _ => rfl, fun _ => rfl⟩, fun _ => rfl, fun j f p e => by omega, fun i hi => by omega, fun j hj => by omega⟩, okO_k (fun i hi => u i (by omega)) a18⟩
        · simp only [ap]; rw [up1_s]; rfl
        · simp only [ap]; rw [up1_n (by omega), up1_n (by omega), up1_s]; rfl
        · simp only [ap]; rw [up1_n (by omega), up1_n (by omega), up1_n (by omega), up1_s]
        · simp only [ap]; rw [up1_n (by omega), up1_n (by omega), up1_n (by omega), up1_n (by omega)]; exact a5
    · have hX := p159c (o := 25) (v := it (ar p)) (d := d + 4) H (by omega) (s_171a (K := K) (J := J) H X h3 h4 f1 f2 a4 (by omega) (by omega))
      have hM := fun (I' : aI) (gm : gM (N, F, fa, oc, ar, sh, rc) B I') => f_188e (K := K) (d := d + 1) (J := J) (I := I') (a := it (ar p)) (fr := j + 1) H f1 f2 (s_190a (K := K) (d := d + 2) (J := J) (I := I') (fr := j + 1) H a1 a3 (by omega) f2 a4 (by omega))
      have hC : ∀ f p r g, f < F → fa f 0 ≤ p → p < gEnd N F fa f → oc p = 4 → ar p = g → sh p = gPar fa g (fa g 1) ++ r → p + 1 < gEnd N F fa f ∧ sh (p + 1) = fa g 3 :: r := by
        intro f p r g hf hp1 hp2 h4' hg hs
        obtain ⟨_, _, s2, k1, k2, _⟩ := tc_at TC hf hp1 hp2
        obtain ⟨_, k4, _, k5⟩ := k2 (by omega)
        refine ⟨k4, ?_⟩
        rw [k5]
        rcases k1 with ⟨o1, _⟩ | ⟨o1, _⟩ | ⟨o1, _⟩ | ⟨o1, _⟩ | ⟨o1, o2, r', e0, e1⟩ | ⟨r', h⟩ | ⟨o1, _⟩ | ⟨o1, _⟩ | ⟨o1, _⟩ | ⟨o1, _⟩ | ⟨o1, _⟩ | ⟨o1, _⟩ | ⟨o1, _⟩
        · omega
        · omega
        · omega
        · omega
        · rw [e1, hg]
          rw [hg, hs] at e0
          rw [List.append_cancel_left e0]
        · exfalso
          rcases h with h | h | h | h | h | h | h | h | h | h | h | h <;> omega
        · omega
        · omega
        · omega
        · omega
        · omega
        · omega
        · omega
      obtain ⟨f', p', b', T'⟩ := top_E g2 g1 g3 g8 hC T e0 (by omega)
      refine Or.inr ⟨fun I' => s_180i (d := d + 3) (by omega), _, _, by show 1 ≤ 15; omega, ?_, hX, hM, ?_, ?_⟩
      · intro e he
        simp only [List.mem_cons, List.not_mem_nil, or_false] at he
        subst he; dsimp only; omega
      · rw [nE_of a3 (by omega) a4 (by omega) a2]
        exact rel_E R a1 (by omega) a2
      · rw [nE_of a3 (by omega) a4 (by omega) a2]
        refine mOK_of (h := 0) g2 T' ?_ (by omega) (by omega)
        unfold nE
        rw [up1_n (by omega), up1_n (by omega)]
        exact n0
  · omega
  · omega
theorem lfree_eq (R : mRel fa c n) : lfree (fun q => c (140 + 11 * q)) 16 1 = lfree (fun q => n (154 + 12 * q)) 16 1 :=
  lfree_c 16 1 (fun q h1 h2 => (R.2.2.2.2.2.2.2.2.2.2 q h1 (by omega)).1)
/-- new -/
theorem hs_g {s' : List Nat} (H : Lay B w) (hp : w.2.1 (B + 29) 0 = some a) (ha : a = B + 8 ∨ a = B + 22) (TC : gTC (N, F, fa, oc, ar, sh, rc)) (gx : gX (N, F, fa, oc, ar, sh, rc) a I J) (X : XM B s m c I) (hm : m < 20) (R : mRel fa c n) (T : mTop N F fa oc ar sh n hi pr j f p b) (n0 : n 0 = it 0) (hE : gEf fa f (oc p) (ar p) (sh p) s') (hs' : sh (p + 1) = s') (q2 : fa f 0 ≤ p + 1) (q3 : p + 1 < gEnd N F fa f) (q1 : p + 1 < 200) (ho : oc p = 10) : 1 ≤ hi ∧ ∃ x : Int, n (9 + hi) = it x ∧ c (6 + hi) = it x ∧ -2147483648 ≤ x ∧ x < 2147483648 ∧
    (¬ (0 ≤ x ∧ x ≤ 9) → HS K d B s m w J (N, F, fa, oc, ar, sh, rc) I c n j 10 (ar p)) ∧ (0 ≤ x ∧ x ≤ 9 → (∀ I' : aI, Cl K (d + 5) 180 [.ref (B + 46), .int (it 10)] w (nw B n I') J = some (some (.int (it 0)), w, nw B n I', J)) ∧ (lfree (fun q => n (154 + 12 * q)) 16 1 = 0 → Cl K (d + 5) 159 [.ref (B + 29), .int (it 10), .int (it (ar p))] w I J = some (some (.int (it 6)), w, I, J)) ∧ (¬ lfree (fun q => n (154 + 12 * q)) 16 1 = 0 → Sim K d B s m w J (N, F, fa, oc, ar, sh, rc) I c n j 10 (ar p))) := by
  have hP : PL w a := PLx H ha; obtain ⟨g1, g2, g3, g4, g5, g6, g7, g8, g9⟩ := tc_g TC; obtain ⟨a1, a2, a3, a4, a5, a6, a7, a8, a9, a10, a11, a12, a13, a14, a15, a16, a17, a18⟩ := id T; obtain ⟨x1, x2, x3, x4⟩ := id gx; have h3 : c 3 = it hi := R.2.2.2.1.trans a3; have h4 : c 4 = it ((j + 1 : Nat) : Int) := R.2.2.2.2.1.trans a1; have f1 : 1 ≤ j + 1 := Nat.le_add_left 1 j; have f2 : j + 1 ≤ 8 := a2
  have hlen := a14.1
  have fr := fr8 a1 a2
  have v1 : 1 ≤ hi → c (6 + hi) = n (9 + hi) := fun h => rel_v (i := 0) R a4 (by omega)
  rcases hE with ⟨o1, _⟩ | ⟨o1, _⟩ | ⟨o1, _⟩ | ⟨o1, _⟩ | ⟨o1, _⟩ | ⟨r, h⟩ | ⟨o1, _⟩ | ⟨o1, _⟩ | ⟨o1, _⟩ | ⟨o1, _⟩ | ⟨o1, _⟩ | ⟨o1, _⟩ | ⟨o1, _⟩
  · omega
  · omega
  · omega
  · omega
  · omega
  · rcases h with ⟨o1, e0, e1⟩ | ⟨o1, e0, e1⟩ | ⟨o1, e0, e1⟩ | ⟨o1, e0, e1⟩ | ⟨o1, e0, e1⟩ | ⟨o1, e0, e1⟩ | ⟨o1, e0, e1⟩ | ⟨o1, e0, e1⟩ | ⟨o1, e0, e1⟩ | ⟨o1, e0, e1⟩ | ⟨o1, e0, e1⟩ | ⟨o1, o2, e0, e1⟩
    · omega
    · omega
    · omega
    · omega
    · omega
    · rw [e1] at hs'
      have hl : (sh p).length = 1 + r.length := by rw [e0, List.length_cons]; omega
      obtain ⟨x, z1, z2, hx⟩ := it_ex (n (9 + hi))
      have hxc : c (6 + hi) = it x := (v1 (by omega)).trans hx
      have hw := fun I' : aI => s_180d (K := K) (d := d + 3) (J := J) (I := I') (x := x) H a3 a4 hx z1 z2
      refine ⟨by omega, x, hx, hxc, z1, z2, fun hz => ?_, fun hz => ?_⟩
      · simp only [if_neg hz] at hw
        exact Or.inl ⟨5, by omega, by omega, p159c (o := 10) H (by omega) (h_165 H X h3 h4 f1 f2 a4 (by omega) hxc z1 z2 hz), hw⟩
      · simp only [if_pos hz] at hw
        obtain ⟨sz, rfl⟩ := z_nat hz.1
        refine ⟨hw, fun hf => p159c (o := 10) H (by omega) (g_165 H X h3 h4 f1 f2 a4 (by omega) hxc (by omega) (by rw [lfree_eq R]; exact hf)), fun hf => ?_⟩
        obtain ⟨o, eo⟩ : ∃ o, lfree (fun q => n (154 + 12 * q)) 16 1 = o := ⟨_, rfl⟩
        rw [eo] at hf
        have lz := lfree_z (fun q => n (154 + 12 * q)) 16 1 (by rw [eo]; exact hf)
        have ll := lfree_le (fun q => n (154 + 12 * q)) 16 1
        rw [eo] at lz ll
        obtain ⟨l1, l2⟩ := lz
        have ozero : ∀ k, k < 12 → n (154 + 12 * o + k) = it 0 := by
          rcases a18 o l2 (by omega) with ⟨_, h⟩ | ⟨h, _⟩ | ⟨h, _⟩
          · exact h
          · rw [show n (154 + 12 * o) = it 0 from l1] at h; exact absurd h (by decide)
          · rw [show n (154 + 12 * o) = it 0 from l1] at h; exact absurd h (by decide)
        obtain ⟨w1, w2⟩ := wZ_ap (o := o) sz 0 (sm_up1 (sm_up1 c (140 + 11 * o) (it 1)) (141 + 11 * o) (it sz))
        have k0 : ap ((140 + 11 * o, it 1) :: (141 + 11 * o, it sz) :: wZ o sz 0) c (140 + 11 * o) = it 1 := by
          show ap (wZ o sz 0) _ _ = _
          rw [w2 _ (by omega), up1_n (by omega), up1_s]
        have k1 : ap ((140 + 11 * o, it 1) :: (141 + 11 * o, it sz) :: wZ o sz 0) c (141 + 11 * o) = it sz := by
          show ap (wZ o sz 0) _ _ = _
          rw [w2 _ (by omega), up1_s]
        have k2 : ∀ i, i < sz → ap ((140 + 11 * o, it 1) :: (141 + 11 * o, it sz) :: wZ o sz 0) c (142 + 11 * o + i) = it 0 := fun i hi => by
          show ap (wZ o sz 0) _ _ = _
          have := w1 i hi
          rw [Nat.add_zero] at this
          exact this
        have k3 : ∀ i, (i < 140 + 11 * o ∨ 151 + 11 * o ≤ i) → ap ((140 + 11 * o, it 1) :: (141 + 11 * o, it sz) :: wZ o sz 0) c i = c i := fun i hi => by
          show ap (wZ o sz 0) _ _ = _
          rw [w2 _ (by omega), up1_n (by omega), up1_n (by omega)]
        have u0 : ap [(154 + 12 * o, it 1), (155 + 12 * o, n (9 + hi)), (156 + 12 * o, it 0)] n (154 + 12 * o) = it 1 := by simp only [ap]; rw [up1_n (by omega), up1_n (by omega), up1_s]
        have u1 : ap [(154 + 12 * o, it 1), (155 + 12 * o, n (9 + hi)), (156 + 12 * o, it 0)] n (155 + 12 * o) = it sz := by simp only [ap]; rw [up1_n (by omega), up1_s]; exact hx
        have u2 : ∀ i, (i < 154 + 12 * o ∨ 157 + 12 * o ≤ i) → ap [(154 + 12 * o, it 1), (155 + 12 * o, n (9 + hi)), (156 + 12 * o, it 0)] n i = n i := fun i hi => by simp only [ap]; rw [up1_n (by omega), up1_n (by omega), up1_n (by omega)]
        refine sim_op (q := [0]) (r := r) (ty := 2) (tk := 1) (v := it o) (wo := (140 + 11 * o, it 1) :: (141 + 11 * o, it sz) :: wZ o sz 0) (wg := [(154 + 12 * o, it 1), (155 + 12 * o, n (9 + hi)), (156 + 12 * o, it 0)]) H hp ha TC gx X hm R T n0 ?_ ?_ ?_ e0 hs' rfl (by omega) (by omega) ?_ q2 q3 q1 ?_ ?_ ?_ ?_ ?_
        · refine rel_ob R l2 (by omega) fr k3 (fun i hi => u2 i (by omega)) ⟨by rw [k0, u0], fun _ => ⟨by rw [k1, u1], fun i i1 i2 => ?_⟩, fun h => ?_⟩
          · rw [u1, it_toInt (by omega) (by omega)] at i1
            rw [k2 i (by omega), u2 _ (by omega), show 157 + 12 * o + i = 154 + 12 * o + (3 + i) by omega, ozero (3 + i) (by omega)]
          · rw [u0] at h; exact absurd h (by decide)
        · exact top_ob (kd := 1) g2 g3 g4 T l2 (by omega) l1 (Or.inl ⟨rfl, sz, by omega, hx⟩)
        · rw [u2 _ (by omega)]; exact n0
        · exact Or.inr (Or.inr ⟨o, l2, by omega, rfl, u0⟩)
        · show (wZ o sz 0).length + 1 + 1 ≤ 11
          rw [wZ_len]; omega
        · intro e he
          rcases List.mem_cons.mp he with rfl | he
          · dsimp only; omega
          · rcases List.mem_cons.mp he with rfl | he
            · dsimp only; omega
            · exact wZ_b (by omega) _ _ (by omega) e he
        · intro e he
          simp only [List.mem_cons, List.not_mem_nil, or_false] at he
          rcases he with rfl | rfl | rfl <;> (dsimp only; omega)
        · exact p159c (o := 10) H (by omega) (s_165 H X h3 h4 f1 f2 a4 hm (by omega) hxc (by omega) (by rw [lfree_eq R]; exact eo) l2 (by omega))
        · intro I' gm
          have e9 : sm_up1 n (71 + 8 * (j + 1 - 1)) (it (p + 1)) (9 + hi) = n (9 + hi) := up1_n (by omega)
          have hG := s_192e (K := K) (d := d + 1) (J := J) (I := I') (a := it (ar p)) (n := sm_up1 n (71 + 8 * (j + 1 - 1)) (it (p + 1))) (hi := hi) (q := o) H (by rw [up1_n (by omega)]; exact a3) a4 ((lfree_c 16 1 (fun q h1 h2 => up1_n (by omega))).trans eo) l2 (by omega)
          rw [e9] at hG
          exact d_188 (d := d + 1) (wg := [(154 + 12 * o, it 1), (155 + 12 * o, n (9 + hi)), (156 + 12 * o, it 0)]) (v := it o) (a := it (ar p)) (f := f) (p := p) (fr := j + 1) (hi := hi) (o := 10) H f1 f2 a4 a7 a8 (by omega) (by omega) (by omega) (by show 1 ≤ hi; omega) (by show 1 ≤ 1; omega) hG (by simp only [ap]; rw [up1_n (by omega), up1_n (by omega), up1_n (by omega), up1_n (by omega)]; exact a3)
    · omega
    · omega
    · omega
    · omega
    · omega
    · omega
  · omega
  · omega
  · omega
  · omega
  · omega
  · omega
  · omega
/-- a pair -/
theorem hs_h {s' : List Nat} (H : Lay B w) (hp : w.2.1 (B + 29) 0 = some a) (ha : a = B + 8 ∨ a = B + 22) (TC : gTC (N, F, fa, oc, ar, sh, rc)) (gx : gX (N, F, fa, oc, ar, sh, rc) a I J) (X : XM B s m c I) (hm : m < 20) (R : mRel fa c n) (T : mTop N F fa oc ar sh n hi pr j f p b) (n0 : n 0 = it 0) (hE : gEf fa f (oc p) (ar p) (sh p) s') (hs' : sh (p + 1) = s') (q2 : fa f 0 ≤ p + 1) (q3 : p + 1 < gEnd N F fa f) (q1 : p + 1 < 200) (ho : oc p = 12) :
    (∀ I' : aI, Cl K (d + 5) 180 [.ref (B + 46), .int (it 12)] w (nw B n I') J = some (some (.int (it 0)), w, nw B n I', J)) ∧ (lfree (fun q => n (154 + 12 * q)) 16 1 = 0 → Cl K (d + 5) 159 [.ref (B + 29), .int (it 12), .int (it (ar p))] w I J = some (some (.int (it 6)), w, I, J)) ∧ (¬ lfree (fun q => n (154 + 12 * q)) 16 1 = 0 → Sim K d B s m w J (N, F, fa, oc, ar, sh, rc) I c n j 12 (ar p)) := by
  have hP : PL w a := PLx H ha; obtain ⟨g1, g2, g3, g4, g5, g6, g7, g8, g9⟩ := tc_g TC; obtain ⟨a1, a2, a3, a4, a5, a6, a7, a8, a9, a10, a11, a12, a13, a14, a15, a16, a17, a18⟩ := id T; obtain ⟨x1, x2, x3, x4⟩ := id gx; have h3 : c 3 = it hi := R.2.2.2.1.trans a3; have h4 : c 4 = it ((j + 1 : Nat) : Int) := R.2.2.2.2.1.trans a1; have f1 : 1 ≤ j + 1 := Nat.le_add_left 1 j; have f2 : j + 1 ≤ 8 := a2
  have hlen := a14.1
  have fr := fr8 a1 a2
  have v1 : 1 ≤ hi → c (6 + hi) = n (9 + hi) := fun h => rel_v (i := 0) R a4 (by omega)
  have v2 : 2 ≤ hi → c (5 + hi) = n (8 + hi) := fun h => by
    have := rel_v (i := 1) R a4 (by omega)
    rw [show 6 + hi - 1 = 5 + hi by omega, show 9 + hi - 1 = 8 + hi by omega] at this
    exact this
  rcases hE with ⟨o1, _⟩ | ⟨o1, _⟩ | ⟨o1, _⟩ | ⟨o1, _⟩ | ⟨o1, _⟩ | ⟨r, h⟩ | ⟨o1, _⟩ | ⟨o1, _⟩ | ⟨o1, _⟩ | ⟨o1, _⟩ | ⟨o1, _⟩ | ⟨o1, _⟩ | ⟨o1, _⟩
  · omega
  · omega
  · omega
  · omega
  · omega
  · rcases h with ⟨o1, e0, e1⟩ | ⟨o1, e0, e1⟩ | ⟨o1, e0, e1⟩ | ⟨o1, e0, e1⟩ | ⟨o1, e0, e1⟩ | ⟨o1, e0, e1⟩ | ⟨o1, e0, e1⟩ | ⟨o1, e0, e1⟩ | ⟨o1, e0, e1⟩ | ⟨o1, e0, e1⟩ | ⟨o1, e0, e1⟩ | ⟨o1, o2, e0, e1⟩
    · omega
    · omega
    · omega
    · omega
    · omega
    · omega
    · omega
    · rw [e1] at hs'
      have hl : (sh p).length = 2 + r.length := by rw [e0, List.length_cons, List.length_cons]; omega
      have ov := top_v (i := 0) (t := 3) T (by omega) (by rw [e0]; rfl) (by omega)
      rw [show 9 + hi - 0 = 9 + hi by omega] at ov
      refine ⟨fun I' => s_180i (d := d + 3) (o := 12) (by omega), fun hf => p159c (o := 12) H (by omega) (g_166 H X h3 h4 f1 f2 a4 (by rw [lfree_eq R]; exact hf)), fun hf => ?_⟩
      obtain ⟨o, eo⟩ : ∃ o, lfree (fun q => n (154 + 12 * q)) 16 1 = o := ⟨_, rfl⟩
      rw [eo] at hf
      have lz := lfree_z (fun q => n (154 + 12 * q)) 16 1 (by rw [eo]; exact hf)
      have ll := lfree_le (fun q => n (154 + 12 * q)) 16 1
      rw [eo] at lz ll
      obtain ⟨l1, l2⟩ := lz
      have k3 : ∀ i, (i < 140 + 11 * o ∨ 151 + 11 * o ≤ i) → ap [(140 + 11 * o, it 2), (141 + 11 * o, c (5 + hi)), (142 + 11 * o, c (6 + hi))] c i = c i := fun i hi => by
        simp only [ap]; rw [up1_n (by omega), up1_n (by omega), up1_n (by omega)]
      have u0 : ap [(154 + 12 * o, it 2), (155 + 12 * o, n (8 + hi)), (156 + 12 * o, n (9 + hi))] n (154 + 12 * o) = it 2 := by simp only [ap]; rw [up1_n (by omega), up1_n (by omega), up1_s]
      have u2 : ∀ i, (i < 154 + 12 * o ∨ 157 + 12 * o ≤ i) → ap [(154 + 12 * o, it 2), (155 + 12 * o, n (8 + hi)), (156 + 12 * o, n (9 + hi))] n i = n i := fun i hi => by simp only [ap]; rw [up1_n (by omega), up1_n (by omega), up1_n (by omega)]
      refine sim_op (q := [3, 0]) (r := r) (ty := 3) (tk := 2) (v := it o) (wo := [(140 + 11 * o, it 2), (141 + 11 * o, c (5 + hi)), (142 + 11 * o, c (6 + hi))]) (wg := [(154 + 12 * o, it 2), (155 + 12 * o, n (8 + hi)), (156 + 12 * o, n (9 + hi))]) H hp ha TC gx X hm R T n0 ?_ ?_ ?_ e0 hs' rfl (by omega) (by omega) ?_ q2 q3 q1 ?_ ?_ ?_ ?_ ?_
      · refine rel_ob R l2 (by omega) fr k3 (fun i hi => u2 i (by omega)) ⟨?_, fun h => ?_, fun h => ⟨?_, ?_⟩⟩
        · rw [u0]; simp only [ap]; rw [up1_n (by omega), up1_n (by omega), up1_s]
        · rw [u0] at h; exact absurd h (by decide)
        · simp only [ap]; rw [up1_n (by omega), up1_s, up1_n (by omega), up1_s]; exact v2 (by omega)
        · simp only [ap]; rw [up1_s, up1_s]; exact v1 (by omega)
      · exact top_ob (kd := 2) g2 g3 g4 T l2 (by omega) l1 (Or.inr ⟨rfl, ov⟩)
      · rw [u2 _ (by omega)]; exact n0
      · exact Or.inr (Or.inr ⟨o, l2, by omega, rfl, u0⟩)
      · show 3 ≤ 11; omega
      · intro e he
        simp only [List.mem_cons, List.not_mem_nil, or_false] at he
        rcases he with rfl | rfl | rfl <;> (dsimp only; omega)
      · intro e he
        simp only [List.mem_cons, List.not_mem_nil, or_false] at he
        rcases he with rfl | rfl | rfl <;> (dsimp only; omega)
      · exact p159c (o := 12) H (by omega) (s_166 H X h3 h4 f1 f2 a4 hm (by omega) (by rw [lfree_eq R]; exact eo) l2 (by omega))
      · intro I' gm
        have e9 : sm_up1 n (71 + 8 * (j + 1 - 1)) (it (p + 1)) (9 + hi) = n (9 + hi) := up1_n (by omega)
        have e8 : sm_up1 n (71 + 8 * (j + 1 - 1)) (it (p + 1)) (8 + hi) = n (8 + hi) := up1_n (by omega)
        have hG := s_192g (K := K) (d := d + 1) (J := J) (I := I') (a := it (ar p)) (n := sm_up1 n (71 + 8 * (j + 1 - 1)) (it (p + 1))) (hi := hi) (q := o) H (by rw [up1_n (by omega)]; exact a3) a4 ((lfree_c 16 1 (fun q h1 h2 => up1_n (by omega))).trans eo) l2 (by omega)
        rw [e9, e8] at hG
        exact d_188 (d := d + 1) (wg := [(154 + 12 * o, it 2), (155 + 12 * o, n (8 + hi)), (156 + 12 * o, n (9 + hi))]) (v := it o) (a := it (ar p)) (f := f) (p := p) (fr := j + 1) (hi := hi) (o := 12) H f1 f2 a4 a7 a8 (by omega) (by omega) (by omega) (by show 2 ≤ hi; omega) (by show 1 ≤ 2; omega) hG (by simp only [ap]; rw [up1_n (by omega), up1_n (by omega), up1_n (by omega), up1_n (by omega)]; exact a3)
    · omega
    · omega
    · omega
    · omega
  · omega
  · omega
  · omega
  · omega
  · omega
  · omega
  · omega
end HS

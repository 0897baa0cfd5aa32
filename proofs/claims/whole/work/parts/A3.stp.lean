section STP
variable {K : Nat → Value} {B d s m a N F hi pr j f p b : Nat} {fa : Nat → Nat → Nat} {oc ar : Nat → Nat} {sh : Nat → List Nat} {rc : Nat → Bool} {w : aW} {I I' : aI} {J : aJ} {c n : Nat → Int32}
theorem isCl_u {tl : Nat → Nat} {h hF hF' : Nat → Bool} (h1 : isCl tl h hF) (h2 : isCl tl h hF') : hF = hF' := by
  funext i
  cases e1 : hF i with
  | true => exact (h1.2.2 hF' h2.2.1 h2.1 i e1).symm
  | false =>
    cases e2 : hF' i with
    | false => rfl
    | true => exact absurd (h2.2.2 hF h1.2.1 h1.1 i e2) (by rw [e1]; decide)
/-- clearings of both, at any height and number of frames -/
theorem clr {fr hi : Nat} (H : Lay B w) (hp : w.2.1 (B + 29) 0 = some a) (ha : a = B + 8 ∨ a = B + 22) (TC : gTC (N, F, fa, oc, ar, sh, rc)) (gx : gX (N, F, fa, oc, ar, sh, rc) a I J) (gm0 : ∃ I0 : aI, gM (N, F, fa, oc, ar, sh, rc) B I0) (X : XM B s m c I) (hm : m < 19) (R : mRel fa c n) (h1 : n 1 = it fr) (f8 : fr ≤ 8) (h2 : n 2 = it hi) (h30 : hi ≤ 30) (V : vOK n hi) (W : wOK F fa n fr) (O : okO n) :
    ∃ (fd : Nat → Bool), (∀ o, 1 ≤ o → o ≤ 16 → fd o = true → ¬ n (154 + 12 * o) = it 0) ∧ Cl K (d + 5) 153 [.ref (B + 29)] w I J = some (some (.int (it (cF fd 16 1 : Int))), w, wrs B s m (wFr fd 16 1 ++ [(2, c 2 + it 1)]) I, J)
      ∧ (∀ Ih : aI, gM (N, F, fa, oc, ar, sh, rc) B Ih → ∃ h' : Nat → Int32, Cl K (d + 5) 185 [.ref (B + 46)] w (nw B n Ih) J = some (some (.int (it (cF fd 16 1 : Int))), w, nh B (ap (wMF fd 16 1 ++ [(5, n 5 + it 1)]) n) h' Ih, J))
      ∧ mRel fa (ap (wFr fd 16 1 ++ [(2, c 2 + it 1)]) c) (ap (wMF fd 16 1 ++ [(5, n 5 + it 1)]) n) ∧ vOK (ap (wMF fd 16 1 ++ [(5, n 5 + it 1)]) n) hi ∧ wOK F fa (ap (wMF fd 16 1 ++ [(5, n 5 + it 1)]) n) fr ∧ okO (ap (wMF fd 16 1 ++ [(5, n 5 + it 1)]) n) := by
  have hP : PL w a := PLx H ha
  obtain ⟨g1, g2, g3, g4, g5, g6, g7, g8, g9⟩ := tc_g TC
  obtain ⟨x1, x2, x3, x4⟩ := gx
  obtain ⟨I0, gm0⟩ := gm0
  have q1 := gF1 V
  have q2 := gF2 (fr := fr) g2 W g4
  obtain ⟨t0, t16, tt⟩ := gF3 O
  have hf : ∀ Ih : aI, gM (N, F, fa, oc, ar, sh, rc) B Ih → ∀ j, j < fr → n (70 + 8 * j) = it (gFf n j) ∧ gFf n j < 5 ∧ Ih (B + 58) (10 * gFf n j + 2) = it ((fun j => fa (gFf n j) 2) j : Nat) ∧ (fun j => fa (gFf n j) 2) j ≤ 6 ∧ ∀ v, v < (fun j => fa (gFf n j) 2) j → Ih (B + 58) (10 * gFf n j + 4 + v) = it ((fun j v => fa (gFf n j) (4 + v)) j v : Nat) ∧ (fun j v => fa (gFf n j) (4 + v)) j v ≤ 3 ∧ (2 ≤ (fun j v => fa (gFf n j) (4 + v)) j v → n (72 + 8 * j + v) = it (gVv n j v) ∧ gVv n j v ≤ 16) := by
    intro Ih gm j hj
    obtain ⟨b1, b2, b3⟩ := q2 j hj
    have y4 := gm.2.2.2 _ b2
    exact ⟨b1, by omega, y4.1 2 (by omega), g3 _ b2, fun v hv => ⟨y4.2 v hv, (b3 v hv).1, (b3 v hv).2⟩⟩
  have s185 := fun (Ih : aI) (gm : gM (N, F, fa, oc, ar, sh, rc) B Ih) => s_185 (K := K) (d := d + 3) (J := J) (I := Ih) (tl := gTl n) (ff := gFf n) (cn := fun j => fa (gFf n j) 2) (vt := fun j v => fa (gFf n j) (4 + v)) (vv := gVv n) (ty := gTy n) (v := gVl n) H h1 f8 h2 h30 q1 (hf Ih gm) tt
  obtain ⟨hF, hcl, _⟩ := s185 I0 gm0
  have hcl' : isCl (gTl n) (marks (gRt fa n hi fr) (fun _ => false)) hF := hcl
  have h8 : ∀ j : Nat, (j : Int) < (n 1).toInt → j < 8 := fun i hi => by
    rw [h1, it_toInt (by omega) (by omega)] at hi; omega
  refine ⟨fun o => @decide (hF o = false ∧ ¬ n (154 + 12 * o) = it 0) (Classical.propDecidable _), fun o o1 o2 h => ((@decide_eq_true_iff _ (Classical.propDecidable _)).mp h).2, ?_, ?_, rel_G R h8, ?_⟩
  · have R10 := R.2.2.2.2.2.2.2.2.2.2
    have hk : okTl c (gTl n) := fun o o1 o2 => by
      obtain ⟨k1, k2, k3⟩ := tt o o1 o2
      rw [(R10 o o1 o2).1]
      exact ⟨k1, fun h => by rw [((R10 o o1 o2).2.2 h).2]; exact k2 h, k3⟩
    have hh := s_154 (K := K) (d := d) (J := J) (tl := gTl n) (ff := gFf n) (cn := fun j => fa (gFf n j) 2) (vt := fun j v => fa (gFf n j) (4 + v)) (vv := gVv n) (ty := gTy n) (v := gVl n) (hi := hi) (fr := fr) H X hp hP hk (R.2.2.2.1.trans h2) h30 (R.2.2.2.2.1.trans h1) f8
      (fun i hi => by
        obtain ⟨b1, b2, b3⟩ := q1 i hi
        have r7 := R.2.2.2.2.2.2.2.1 i (by omega)
        exact ⟨r7.2.trans b1, b2, fun h => ⟨r7.1.trans (b3 h).1, (b3 h).2⟩⟩)
      (fun j hj => by
        obtain ⟨b1, b2, b3⟩ := q2 j hj
        have x4' := x4 _ b2
        have r9 := R.2.2.2.2.2.2.2.2.2.1 j (by rw [h1, it_toInt (by omega) (by omega)]; omega)
        have h6 := g3 _ b2
        exact ⟨r9.1.trans b1, by omega, x4'.1 2 (by omega), h6, fun v hv => ⟨x4'.2 v hv, (b3 v hv).1, fun h => ⟨(r9.2.2 _ v b1 (by omega) hv (by have : v < fa (gFf n j) 2 := hv; omega)).trans ((b3 v hv).2 h).1, ((b3 v hv).2 h).2⟩⟩⟩)
    have := s_153 (K := K) (d := d + 3) (J := J) (fd := fun o => @decide (hF o = false ∧ ¬ n (154 + 12 * o) = it 0) (Classical.propDecidable _)) H X hm hh (fun o o1 o2 => by
      rw [@decide_eq_true_iff _ (Classical.propDecidable _), (R10 o o1 o2).1]
      have he := held_eq (l := gRt fa n hi fr) t0 t16 (gRt_16 g2 V W g4) hcl' o1 o2
      exact ⟨fun h => ⟨he.mpr h.1, h.2⟩, fun h => ⟨he.mp h.1, h.2⟩⟩)
    rw [wFr_cF] at this
    exact this
  · intro Ih gm
    obtain ⟨hF1, hcl1, hq⟩ := s185 Ih gm
    have e : hF1 = hF := isCl_u hcl1 hcl
    subst e
    exact hq _ (fun o o1 o2 => @decide_eq_true_iff _ (Classical.propDecidable _))
  · exact live_G g2 h30 f8 V W O g3 g4 hcl' (fun o o1 o2 => @decide_eq_true_iff _ (Classical.propDecidable _))
theorem cF_0 {fd : Nat → Bool} : ∀ k o, (cF fd k o = 0 ↔ ∀ q, o ≤ q → q < o + k → ¬ fd q = true) := by
  intro k
  induction k with
  | zero => intro o; exact ⟨fun _ q h1 h2 => by omega, fun _ => rfl⟩
  | succ k ih =>
    intro o
    simp only [cF]
    constructor
    · intro h q h1 h2
      by_cases hf : fd o = true
      · rw [if_pos hf] at h; omega
      · rw [if_neg hf] at h
        by_cases e : q = o
        · rw [e]; exact hf
        · exact (ih (o + 1)).mp (by omega) q (by omega) (by omega)
    · intro h
      rw [if_neg (h o (by omega) (by omega)), (ih (o + 1)).mpr (fun q h1 h2 => h q (by omega) (by omega))]
theorem cF_le {fd : Nat → Bool} : ∀ k o, cF fd k o ≤ k := by
  intro k
  induction k with
  | zero => intro o; exact Nat.le_refl _
  | succ k ih =>
    intro o
    simp only [cF]
    have := ih (o + 1)
    split <;> omega
/-- the frames and the stack behind a clearing -/
theorem top_G {n1 : Nat → Int32} (T : mTop N F fa oc ar sh n hi pr j f p b) (u : ∀ i, ¬ i = 5 → i < 154 → n1 i = n i) (V : vOK n1 hi) (W : wOK F fa n1 (j + 1)) (O : okO n1) : mTop N F fa oc ar sh n1 hi pr j f p b := by
  obtain ⟨a1, a2, a3, a4, a5, a6, a7, a8, a9, a10, a11, a12, a13, a14, a15, a16, a17, a18⟩ := T
  exact ⟨by rw [u _ (by omega) (by omega)]; exact a1, a2, by rw [u _ (by omega) (by omega)]; exact a3, a4, by rw [u _ (by omega) (by omega)]; exact a5, a6, by rw [u _ (by omega) (by omega)]; exact a7, by rw [u _ (by omega) (by omega)]; exact a8, a9, a10, a11, a12, a13, okT_k (fun i hi => u _ (by omega) (by omega)) a14, stk_k _ _ _ (fun i i1 i2 => u _ (by omega) (by omega)) (fun i hi => u _ (by omega) (by omega)) a15, V, W, O⟩
/-- what a step leaves -/
def StpA (K : Nat → Value) (d B s : Nat) (w : aW) (J : aJ) (G : aG) (I : aI) (n : Nat → Int32) : Prop :=
  ∃ (ws : List (Nat × Int32)) (n' : Nat → Int32) (x0 x1 x2 x3 : Int32), ws.length ≤ 35 ∧ (∀ e ∈ ws, e.1 < 327) ∧ Cl K (d + 6) 143 [.ref (B + 29)] w I J = some (some (.int (it 1)), w, pfr B s x0 x1 x2 x3 (wrs B s 1 ws (att0 B s I)), J) ∧ mRel G.2.2.1 (ap ws (I (B + 30))) n' ∧ mOK G n'
    ∧ ∀ Ih : aI, gM G B Ih → ∃ I'' : aI, Cl K (d + 6) 178 [.ref (B + 46)] w (nw B n Ih) J = some (some (.int (it 1)), w, I'', J) ∧ I'' (B + 65) = n' ∧ I'' (B + 69) 0 = x0 ∧ I'' (B + 69) 1 = x1 ∧ I'' (B + 69) 2 = x2 ∧ I'' (B + 69) 3 = x3 ∧ ∀ b, ¬ b = B + 65 → ¬ b = B + 69 → ¬ b = B + 70 → I'' b = Ih b
def StpB (K : Nat → Value) (d B s : Nat) (w : aW) (J : aJ) (G : aG) (I : aI) (n : Nat → Int32) : Prop :=
  ∃ (ws : List (Nat × Int32)) (n' : Nat → Int32) (hc : Nat), Cl K (d + 6) 143 [.ref (B + 29)] w I J = some (some (.int (it 0)), w, sm_up2 (wrs B s 1 ws (att0 B s I)) (B + 30) 0 (it hc), J) ∧ ws.length ≤ 35 ∧ (∀ e ∈ ws, e.1 < 327) ∧ (∀ e ∈ ws, e.1 = 2) ∧ mRel G.2.2.1 (sm_up1 (ap ws (I (B + 30))) 0 (it hc)) n' ∧ mOK G n' ∧ ¬ n' 0 = it 0
    ∧ ∀ Ih : aI, gM G B Ih → ∃ I'' : aI, Cl K (d + 6) 178 [.ref (B + 46)] w (nw B n Ih) J = some (some (.int (it 0)), w, I'', J) ∧ I'' (B + 65) = n' ∧ ∀ b, ¬ b = B + 65 → ¬ b = B + 69 → ¬ b = B + 70 → I'' b = Ih b
end STP

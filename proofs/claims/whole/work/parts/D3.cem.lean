/-! the class's emit -/
section CEM
variable {K : Nat → Value} {B d a : Nat} {w : aW} {I : aI} {J : aJ} {bs : Nat → Nat} {t n c r h N : Nat} {nf tf : Int}
/-- the height behind an emit -/
def hE (h k : Nat) (b : Bool) : Nat := if b then (if h - k < 128 then h - k + 1 else h - k) else h - k
theorem s_58 {o g ty : Int32} {k : Nat} {b : Bool} (ha : a = B + 8 ∨ a = B + 22) (H : Lay B w) (hp : w.2.1 (B + 2) 1 = some a) (hX : XE B a bs t n c r h N nf tf I) (N1 : N < 1000) (hk : k ≤ 240) (hb : b = true ↔ ¬ ty = it (-1)) : ∃ I' J', Cl K (d + 2) 58 [.ref (B + 2), .int o, .int g, .int (it k), .int ty] w I J = some (none, w, I', J') ∧ FEx B a I J I' J' ∧ XE B a bs t n c r (hE h k b) (N + 1) nf tf I'
    ∧ (∀ p, p < 200 → I' (a + 1) p = (if p = N then o else I (a + 1) p) ∧ I' (a + 2) p = (if p = N then g else I (a + 2) p) ∧ J' (a + 3) p = if p = N then J (B + 18) h else J (a + 3) p)
    ∧ (∀ i, ¬ i = h - k → I' (B + 17) i = I (B + 17) i) ∧ (∀ i, i ≤ h - k → J' (B + 18) i = J (B + 18) i) ∧ (b = true → h - k < 128 → I' (B + 17) (h - k) = ty ∧ J' (B + 18) (h - k + 1) = J (B + 18) (h - k) * 5 + ty.toInt64 + 1) := by
  have hP : PL w a := PLx H ha
  obtain ⟨hT, h6, n1, n2, h7, t1, t2, h8, hh, hN, _⟩ := hX
  have e59 := s_59 (K := K) (d := d) (J := J) (o := o) (g := g) (s := J (B + 18) h) hP hN (by omega)
  have g8 : eI a N o g I (B + 2) 8 = it h := by rw [eI_n (by omega) (by omega) (by omega)]; exact h8
  have em : (if it 0 < it ((h : Int) - k) then it ((h : Int) - k) else it 0) = it ((h - k : Nat) : Int) := by
    by_cases e : k < h
    · rw [if_pos ((it_lt (by omega) (by omega) (by omega) (by omega)).mpr (by omega))]; congr 1; omega
    · rw [if_neg (fun q => by have := (it_lt (by omega) (by omega) (by omega) (by omega)).mp q; omega)]; congr 1; omega
  have fr : ∀ (Z : aI) (Y : aJ), (∀ b, ¬ b = B + 2 → ¬ b = B + 17 → Z b = eI a N o g I b) → (∀ k, ¬ k = 8 → Z (B + 2) k = I (B + 2) k) → (∀ b, ¬ b = B + 18 → Y b = eJ a N (J (B + 18) h) J b) → Y (B + 18) 0 = J (B + 18) 0 → FEx B a I J Z Y := by
    intro Z Y z1 z2 y1 y0
    refine ⟨fun b a1 a2 a3 a4 a5 a6 => ?_, fun k a1 a2 a3 => z2 k a3, fun k a1 => ?_, fun b a1 a2 => ?_⟩
    · rw [z1 b a1 a3, eI_n a4 a5 a6]
    · rw [z1 a (by omega) (by omega), eI_k a1]
    · exact jv_c y0 (fun e => by rw [y1 b e, eJ_n a2])
  have xe : ∀ (Z : aI) (h' : Nat), (∀ b, ¬ b = B + 2 → ¬ b = B + 17 → Z b = eI a N o g I b) → (∀ k, ¬ k = 8 → Z (B + 2) k = I (B + 2) k) → Z (B + 2) 8 = it h' → h' ≤ 128 → XE B a bs t n c r h' (N + 1) nf tf Z := by
    intro Z h' z1 z2 z3 z4
    refine ⟨XT_f ?_ ?_ ?_ ?_ hT, by rw [z2 6 (by omega)]; exact h6, n1, n2, by rw [z2 7 (by omega)]; exact h7, t1, t2, z3, z4, by rw [z1 a (by omega) (by omega)]; exact eI_6, by omega⟩
    · rw [z1 _ (by omega) (by omega), eI_n (by omega) (by omega) (by omega)]
    · rw [z1 _ (by omega) (by omega), eI_n (by omega) (by omega) (by omega)]
    · rw [z1 _ (by omega) (by omega), eI_n (by omega) (by omega) (by omega)]
    · rw [z1 _ (by omega) (by omega), eI_n (by omega) (by omega) (by omega)]
  have cd : ∀ (Z : aI) (Y : aJ), (∀ b, ¬ b = B + 2 → ¬ b = B + 17 → Z b = eI a N o g I b) → (∀ b, ¬ b = B + 18 → Y b = eJ a N (J (B + 18) h) J b) → ∀ p, p < 200 → Z (a + 1) p = (if p = N then o else I (a + 1) p) ∧ Z (a + 2) p = (if p = N then g else I (a + 2) p) ∧ Y (a + 3) p = if p = N then J (B + 18) h else J (a + 3) p := by
    intro Z Y z1 y1 p hp
    rw [z1 (a + 1) (by omega) (by omega), z1 (a + 2) (by omega) (by omega), y1 (a + 3) (by omega)]
    exact ⟨(eI_1 hp).1, (eI_1 hp).2, eJ_1 hp⟩
  have run : f_58 K 0 (d + 1) (B + 2) o g (it k) ty w I J = (if ty = it (-1) then some (none, w, sm_up2 (eI a N o g I) (B + 2) 8 (it ((h - k : Nat) : Int)), eJ a N (J (B + 18) h) J) else if h - k < 128 then some (none, w, sm_up2 (sm_up2 (sm_up2 (eI a N o g I) (B + 2) 8 (it ((h - k : Nat) : Int))) (B + 17) (h - k) ty) (B + 2) 8 (it ((h - k + 1 : Nat) : Int)), sm_up2 (eJ a N (J (B + 18) h) J) (B + 18) (h - k + 1) (eJ a N (J (B + 18) h) J (B + 18) (h - k) * 5 + ty.toInt64 + 1)) else some (none, w, sm_up2 (eI a N o g I) (B + 2) 8 (it ((h - k : Nat) : Int)), eJ a N (J (B + 18) h) J)) := by
    unfold f_58
    simp only [it_lit, it_neg, gO_e (yt2 H), gV_e hp, gV_e (yp2_10 H), gV_e (yp2_9 H), gO_e hP.1, lt_p]
    rw [h8, gA_e (yt18 H) (Or.inl rfl) (ix (by omega) (by omega) (by omega)), it_n (by omega), e59]
    simp only [cV_e, gO_e (yt2 H), gV_e (yp2_10 H), gV_e (yp2_9 H)]
    rw [g8, it_sub, em]
    by_cases e : ty = it (-1)
    · rw [if_pos e, if_pos e]
    · rw [if_neg e, if_neg e]
      simp only [up2_r, up1_s]
      by_cases e2 : h - k < 128
      · rw [if_neg (fun q => by have := (it_le (by omega) (by omega) (by omega) (by omega)).mp q; omega), if_pos e2, gA_e (yt17 H) (Or.inl rfl) (ix (by omega) (by omega) (by omega)), it_n (by omega)]
        rw [up2_n (a := B + 17) (b := B + 2) (by omega), up2_r, up1_s, gA_e (yt18 H) (Or.inl rfl) (ix (by omega) (by omega) (by omega)), it_add, gA_e (yt18 H) (Or.inl rfl) (ix (by omega) (by omega) (by omega)), it_n (by omega), it_cl (by omega) (by omega)]
        rfl
      · rw [if_pos ((it_le (by omega) (by omega) (by omega) (by omega)).mpr (by omega)), if_neg e2]
  have out : ∀ R, f_58 K 0 (d + 1) (B + 2) o g (it k) ty w I J = some R → Cl K (d + 2) 58 [.ref (B + 2), .int o, .int g, .int (it k), .int ty] w I J = some R := fun R h => cl_58 (k := 0) h
  by_cases e : ty = it (-1)
  · have b0 : b = false := by
      cases b with
      | false => rfl
      | true => exact absurd e (hb.mp rfl)
    subst b0
    rw [if_pos e] at run
    refine ⟨_, _, out _ run, fr _ _ (fun b a1 _ => up2_n a1) (fun k a1 => by rw [up2_r, up1_n a1, eI_n (by omega) (by omega) (by omega)]) (fun b _ => rfl) (by rw [eJ_n (by omega)]), xe _ _ (fun b a1 _ => up2_n a1) (fun k a1 => by rw [up2_r, up1_n a1, eI_n (by omega) (by omega) (by omega)]) (by rw [up2_r, up1_s]; rfl) (by unfold hE; simp; omega), cd _ _ (fun b a1 _ => up2_n a1) (fun b _ => rfl), fun i _ => by rw [up2_n (by omega), eI_n (by omega) (by omega) (by omega)], fun i _ => by rw [eJ_n (by omega)], fun q => by cases q⟩
  · have b1 : b = true := hb.mpr e
    subst b1
    rw [if_neg e] at run
    by_cases e2 : h - k < 128
    · rw [if_pos e2] at run
      refine ⟨_, _, out _ run, fr _ _ ?_ ?_ ?_ ?_, xe _ _ ?_ ?_ ?_ ?_, cd _ _ ?_ ?_, fun i i1 => ?_, fun i i1 => ?_, fun _ _ => ⟨?_, ?_⟩⟩
      · intro b a1 a2; rw [up2_n a1, up2_n a2, up2_n a1]
      · intro k a1; rw [up2_r, up1_n a1, up2_n (by omega), up2_r, up1_n a1, eI_n (by omega) (by omega) (by omega)]
      · intro b a1; rw [up2_n a1]
      · rw [up2_r, up1_n (by omega), eJ_n (by omega)]
      · intro b a1 a2; rw [up2_n a1, up2_n a2, up2_n a1]
      · intro k a1; rw [up2_r, up1_n a1, up2_n (by omega), up2_r, up1_n a1, eI_n (by omega) (by omega) (by omega)]
      · rw [up2_r, up1_s]; unfold hE; rw [if_pos rfl, if_pos e2]
      · unfold hE; rw [if_pos rfl, if_pos e2]; omega
      · intro b a1 a2; rw [up2_n a1, up2_n a2, up2_n a1]
      · intro b a1; rw [up2_n a1]
      · rw [up2_n (by omega), up2_r, up1_n i1, up2_n (by omega), eI_n (by omega) (by omega) (by omega)]
      · rw [up2_r, up1_n (by omega), eJ_n (by omega)]
      · rw [up2_n (by omega), up2_r, up1_s]
      · rw [up2_r, up1_s, eJ_n (by omega)]
    · rw [if_neg e2] at run
      refine ⟨_, _, out _ run, fr _ _ (fun b a1 _ => up2_n a1) (fun k a1 => by rw [up2_r, up1_n a1, eI_n (by omega) (by omega) (by omega)]) (fun b _ => rfl) (by rw [eJ_n (by omega)]), xe _ _ (fun b a1 _ => up2_n a1) (fun k a1 => by rw [up2_r, up1_n a1, eI_n (by omega) (by omega) (by omega)]) (by rw [up2_r, up1_s]; unfold hE; rw [if_pos rfl, if_neg e2]) (by unfold hE; rw [if_pos rfl, if_neg e2]; omega), cd _ _ (fun b a1 _ => up2_n a1) (fun b _ => rfl), fun i _ => by rw [up2_n (by omega), eI_n (by omega) (by omega) (by omega)], fun i _ => by rw [eJ_n (by omega)], fun _ q => absurd q e2⟩
/-- the code with one more place -/
theorem CX_e {oc ar : Nat → Nat} {sh : Nat → List Nat} {I' : aI} {J' : aJ} {o g : Int32} {oo gg k : Nat} {pre rest : List Nat} (hC : CX B a N oc ar sh h I J) (hs : sh N = pre ++ rest) (hk : pre.length = k) (ho : o = it oo) (hg : g = it gg)
    (h1 : ∀ p, p < 200 → I' (a + 1) p = (if p = N then o else I (a + 1) p) ∧ I' (a + 2) p = (if p = N then g else I (a + 2) p) ∧ J' (a + 3) p = if p = N then J (B + 18) h else J (a + 3) p)
    (h2 : ∀ i, ¬ i = h - k → I' (B + 17) i = I (B + 17) i) (h3 : ∀ i, i ≤ h - k → J' (B + 18) i = J (B + 18) i) :
    CX B a (N + 1) (sm_up1 oc N oo) (sm_up1 ar N gg) (sm_up1 sh (N + 1) rest) (h - k) I' J' ∧ ∀ τ : Nat, τ ≤ 3 → I' (B + 17) (h - k) = it τ → J' (B + 18) (h - k + 1) = J (B + 18) (h - k) * 5 + (it τ).toInt64 + 1 → CX B a (N + 1) (sm_up1 oc N oo) (sm_up1 ar N gg) (sm_up1 sh (N + 1) (τ :: rest)) (h - k + 1) I' J' := by
  obtain ⟨c1, c2, c3, c4⟩ := hC
  have hl : rest.length = h - k := by rw [c1, hs, List.length_append, hk]; omega
  have hkh : k ≤ h := by rw [c1, hs, List.length_append, hk]; omega
  have code : ∀ s' : List Nat, ∀ p, p < N + 1 → p < 200 → I' (a + 1) p = it (sm_up1 oc N oo p : Nat) ∧ I' (a + 2) p = it (sm_up1 ar N gg p : Nat) ∧ J' (a + 3) p = gPk (sm_up1 sh (N + 1) s' p) := by
    intro s' p p1 p2
    obtain ⟨g1, g2, g3⟩ := h1 p p2
    rw [g1, g2, g3, up1_n (f := sh) (by omega)]
    by_cases e : p = N
    · subst e
      rw [if_pos rfl, if_pos rfl, if_pos rfl, up1_s, up1_s, ho, hg, c3 h (Nat.le_refl _), Nat.sub_self, List.drop_zero]
      exact ⟨rfl, rfl, rfl⟩
    · rw [if_neg e, if_neg e, if_neg e, up1_n e, up1_n e]
      exact c4 p (by omega) p2
  have rv : ∀ i, i < h - k → (sh N).reverse.getD i 0 = rest.reverse.getD i 0 := by
    intro i hi
    rw [hs, List.reverse_append, List.getD_eq_getElem?_getD, List.getD_eq_getElem?_getD, List.getElem?_append_left (by rw [List.length_reverse, hl]; exact hi)]
  have dr : ∀ i, i ≤ h - k → (sh N).drop (h - i) = rest.drop (h - k - i) := by
    intro i hi
    rw [hs, List.drop_append, List.drop_of_length_le (by omega), List.nil_append]
    congr 1
    omega
  refine ⟨⟨by rw [up1_s, hl], fun i hi => ?_, fun i hi => ?_, code _⟩, fun τ ht k1 k2 => ⟨by rw [up1_s, List.length_cons, hl], fun i hi => ?_, fun i hi => ?_, code _⟩⟩
  · rw [h2 i (by omega), c2 i (by omega), rv i hi, up1_s]
  · rw [h3 i hi, c3 i (by omega), dr i hi, up1_s]
  · rw [up1_s]
    by_cases e : i = h - k
    · subst e
      rw [k1, List.reverse_cons, List.getD_eq_getElem?_getD, List.getElem?_append_right (by rw [List.length_reverse, hl]; exact Nat.le_refl _), List.length_reverse, hl, Nat.sub_self]
      rfl
    · rw [h2 i e, c2 i (by omega), rv i (by omega), List.reverse_cons, List.getD_eq_getElem?_getD, List.getD_eq_getElem?_getD, List.getElem?_append_left (by rw [List.length_reverse, hl]; omega)]
  · rw [up1_s]
    by_cases e : i = h - k + 1
    · subst e
      have e0 := dr (h - k) (Nat.le_refl _)
      rw [k2, c3 (h - k) (by omega), e0, Nat.sub_self, List.drop_zero, Nat.sub_self, List.drop_zero, gPk, it_64 (by omega) (by omega)]
    · rw [h3 i (by omega), c3 i (by omega), dr i (by omega), show h - k + 1 - i = (h - k - i) + 1 by omega, List.drop_succ_cons]
end CEM

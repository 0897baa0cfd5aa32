/-! both clearings hold the same objects -/
theorem smod32 : ∀ s : Fin 32, (it (s.val : Int)).toBitVec.smod 32 = BitVec.ofNat 32 s.val := by decide +kernel
theorem bt_iff (x : Int32) {o : Nat} (h : o < 32) : ((x >>> (it o &&& it 31)) &&& it 1 = it 0) ↔ x.toBitVec.getLsbD o = false := by
  rw [and31 h, ← Int32.toBitVec_inj, Int32.toBitVec_and, Int32.toBitVec_shiftRight]
  have hs : (it (o : Int)).toBitVec.smod 32 = BitVec.ofNat 32 o := smod32 ⟨o, h⟩
  rw [hs, show (it 1).toBitVec = 1#32 from rfl, show (it 0).toBitVec = 0#32 from rfl]
  have hn : (BitVec.ofNat 32 o).toNat = o := by rw [BitVec.toNat_ofNat]; exact Nat.mod_eq_of_lt (by omega)
  have hb : ∀ i, i < 32 → (x.toBitVec.sshiftRight' (BitVec.ofNat 32 o) &&& 1#32).getLsbD i = (decide (i = 0) && x.toBitVec.getLsbD o) := by
    intro i hi
    rw [BitVec.getLsbD_and, BitVec.sshiftRight_eq', hn, BitVec.getLsbD_sshiftRight]
    by_cases h0 : i = 0
    · subst h0
      simp [h]
    · simp [h0]
  constructor
  · intro e
    have := hb 0 (by omega)
    rw [e] at this
    simpa using this.symm
  · intro e
    apply BitVec.eq_of_getLsbD_eq
    intro i hi
    rw [hb i hi, e]
    simp
def bt (x : Int32) (o : Nat) : Prop := ¬ (x >>> (it o &&& it 31)) &&& it 1 = it 0
theorem bt_or {x y : Int32} {o : Nat} (h : o < 32) : bt (x ||| y) o ↔ bt x o ∨ bt y o := by
  unfold bt
  rw [bt_iff _ h, bt_iff _ h, bt_iff _ h, Int32.toBitVec_or, BitVec.getLsbD_or]
  cases x.toBitVec.getLsbD o <;> cases y.toBitVec.getLsbD o <;> simp
theorem bt_1 {o q : Nat} (h : o ≤ 16) (hq : q ≤ 16) : bt (bt1 o) q ↔ q = o := by
  have : ∀ o q : Fin 17, (¬ (bt1 o.val >>> (it (q.val : Int) &&& it 31)) &&& it 1 = it 0) ↔ q.val = o.val := by decide +kernel
  exact this ⟨o, by omega⟩ ⟨q, by omega⟩
theorem bt_0 {q : Nat} (hq : q ≤ 16) : ¬ bt (it 0) q := by
  have : ∀ q : Fin 17, (it 0 >>> (it (q.val : Int) &&& it 31)) &&& it 1 = it 0 := by decide +kernel
  exact fun h => h (this ⟨q, by omega⟩)
/-- the way along the tails -/
def pth (tl : Nat → Nat) : Nat → Nat → Nat
  | o, 0 => o
  | o, i + 1 => pth tl (tl o) i
theorem pth_tl (tl : Nat → Nat) : ∀ i o, tl (pth tl o i) = pth tl o (i + 1) := by
  intro i
  induction i with
  | zero => intro o; rfl
  | succ i ih => intro o; exact ih (tl o)
theorem pth_add (tl : Nat → Nat) : ∀ i j o, pth tl o (i + j) = pth tl (pth tl o i) j := by
  intro i
  induction i with
  | zero => intro j o; rw [Nat.zero_add]; rfl
  | succ i ih => intro j o; rw [show i + 1 + j = (i + j) + 1 by omega]; exact ih j (tl o)
theorem php : ∀ (N : Nat) (g : Nat → Nat), (∀ i, i ≤ N → 1 ≤ g i ∧ g i ≤ N) → ∃ i j, i < j ∧ j ≤ N ∧ g i = g j := by
  intro N
  induction N with
  | zero => intro g h; have := h 0 (Nat.le_refl _); omega
  | succ N ih =>
    intro g h
    by_cases hx : ∃ i, i ≤ N ∧ g i = g (N + 1)
    · obtain ⟨i, h1, h2⟩ := hx
      exact ⟨i, N + 1, by omega, Nat.le_refl _, h2⟩
    · have hn : ∀ i, i ≤ N → ¬ g i = g (N + 1) := fun i hi e => hx ⟨i, hi, e⟩
      obtain ⟨i, j, h1, h2, h3⟩ := ih (fun i => if g i = N + 1 then g (N + 1) else g i) (fun i hi => by
        have a := h i (by omega)
        have b := h (N + 1) (by omega)
        have c := hn i hi
        by_cases e : g i = N + 1
        · simp only [if_pos e]; omega
        · simp only [if_neg e]; omega)
      refine ⟨i, j, h1, by omega, ?_⟩
      have c1 := hn i (by omega)
      have c2 := hn j (by omega)
      by_cases e1 : g i = N + 1
      · by_cases e2 : g j = N + 1
        · omega
        · simp only [if_pos e1, if_neg e2] at h3; omega
      · by_cases e2 : g j = N + 1
        · simp only [if_neg e1, if_pos e2] at h3; omega
        · simp only [if_neg e1, if_neg e2] at h3; exact h3
section GCQ
variable {tl : Nat → Nat} (t0 : tl 0 = 0) (t16 : ∀ o, o ≤ 16 → tl o ≤ 16)
theorem pth_0 (t0 : tl 0 = 0) : ∀ i, pth tl 0 i = 0 := by
  intro i
  induction i with
  | zero => rfl
  | succ i ih => show pth tl (tl 0) i = 0; rw [t0]; exact ih
theorem pth_le (t16 : ∀ o, o ≤ 16 → tl o ≤ 16) : ∀ i o, o ≤ 16 → pth tl o i ≤ 16 := by
  intro i
  induction i with
  | zero => intro o h; exact h
  | succ i ih => intro o h; exact ih (tl o) (t16 o h)
theorem pth_16 (t0 : tl 0 = 0) (t16 : ∀ o, o ≤ 16 → tl o ≤ 16) : ∀ i r, r ≤ 16 → ¬ pth tl r i = 0 → ∃ j, j < 16 ∧ pth tl r j = pth tl r i := by
  intro i
  induction i using Nat.strongRecOn with
  | ind i ih =>
    intro r hr hz
    by_cases h : i < 16
    · exact ⟨i, h, rfl⟩
    · have e : i = (i - 16) + 16 := by omega
      have hq := pth_le t16 (i - 16) r hr
      have hz' : ∀ j, j ≤ 16 → ¬ pth tl (pth tl r (i - 16)) j = 0 := by
        intro j hj e0
        apply hz
        have e2 : i = (i - 16) + j + (16 - j) := by omega
        rw [e2, pth_add tl ((i - 16) + j), pth_add tl (i - 16), e0]
        exact pth_0 t0 _
      obtain ⟨a, b, h1, h2, h3⟩ := php 16 (fun j => pth tl (pth tl r (i - 16)) j) (fun j hj => ⟨by have := hz' j hj; omega, pth_le t16 j _ hq⟩)
      have h4 : pth tl r i = pth tl r (i - 16 + (a + (16 - b))) := by
        rw [pth_add tl (i - 16), pth_add tl a, h3, ← pth_add, show b + (16 - b) = 16 by omega, ← pth_add]
        rw [show i - 16 + 16 = i by omega]
      rw [h4] at hz ⊢
      exact ih _ (by omega) r hr hz
theorem chb_bt (t0 : tl 0 = 0) (t16 : ∀ o, o ≤ 16 → tl o ≤ 16) {q : Nat} (q1 : 1 ≤ q) (q2 : q ≤ 16) : ∀ (k o : Nat) (b : Int32), o ≤ 16 → (bt (chb tl k o b) q ↔ bt b q ∨ ∃ i, i < k ∧ pth tl o i = q) := by
  intro k
  induction k with
  | zero =>
    intro o b ho
    exact ⟨fun h => Or.inl h, fun h => h.resolve_right (fun ⟨i, hi, _⟩ => by omega)⟩
  | succ k ih =>
    intro o b ho
    simp only [chb]
    by_cases h0 : o = 0
    · subst h0
      rw [if_pos rfl]
      refine ⟨fun h => Or.inl h, fun h => h.resolve_right (fun ⟨i, _, hi⟩ => ?_)⟩
      rw [pth_0 t0] at hi
      omega
    · rw [if_neg h0, ih (tl o) _ (t16 o ho), bt_or (by omega), bt_1 ho q2]
      constructor
      · rintro ((h | h) | ⟨i, hi, h⟩)
        · exact Or.inl h
        · exact Or.inr ⟨0, by omega, h.symm⟩
        · exact Or.inr ⟨i + 1, by omega, h⟩
      · rintro (h | ⟨i, hi, h⟩)
        · exact Or.inl (Or.inl h)
        · cases i with
          | zero => exact Or.inl (Or.inr h.symm)
          | succ i => exact Or.inr ⟨i, by omega, h⟩
theorem held_bt (t0 : tl 0 = 0) (t16 : ∀ o, o ≤ 16 → tl o ≤ 16) {q : Nat} (q1 : 1 ≤ q) (q2 : q ≤ 16) : ∀ (l : List Nat) (b : Int32), (∀ r ∈ l, r ≤ 16) → (bt (heldB tl l b) q ↔ bt b q ∨ ∃ r ∈ l, ∃ i, pth tl r i = q) := by
  intro l
  induction l with
  | nil => intro b _; exact ⟨fun h => Or.inl h, fun h => h.resolve_right (fun ⟨r, hr, _⟩ => by cases hr)⟩
  | cons r l ih =>
    intro b hl
    have hr := hl r List.mem_cons_self
    show bt (heldB tl l (b ||| chb tl 16 r (it 0))) q ↔ _
    rw [ih _ (fun x hx => hl x (List.mem_cons_of_mem _ hx)), bt_or (by omega), chb_bt t0 t16 q1 q2 16 r (it 0) hr]
    constructor
    · rintro ((h | h) | ⟨x, hx, i, h⟩)
      · exact Or.inl h
      · rcases h with h | ⟨i, hi, h⟩
        · exact absurd h (bt_0 q2)
        · exact Or.inr ⟨r, List.mem_cons_self, i, h⟩
      · exact Or.inr ⟨x, List.mem_cons_of_mem _ hx, i, h⟩
    · rintro (h | ⟨x, hx, i, h⟩)
      · exact Or.inl (Or.inl h)
      · rcases List.mem_cons.mp hx with rfl | hx
        · obtain ⟨j, hj, e⟩ := pth_16 t0 t16 i x hr (by omega)
          exact Or.inl (Or.inr (Or.inr ⟨j, hj, by omega⟩))
        · exact Or.inr ⟨x, hx, i, h⟩
theorem marks_i (l : List Nat) : ∀ (h : Nat → Bool) (q : Nat), 1 ≤ q → (marks l h q = true ↔ h q = true ∨ q ∈ l) := by
  induction l with
  | nil => intro h q _; exact ⟨fun h => Or.inl h, fun h => h.resolve_right (by simp)⟩
  | cons r l ih =>
    intro h q hq
    show marks l _ q = true ↔ _
    rw [ih _ q hq]
    by_cases h0 : r = 0
    · subst h0
      rw [if_pos rfl]
      constructor
      · rintro (h | h)
        · exact Or.inl h
        · exact Or.inr (List.mem_cons_of_mem _ h)
      · rintro (h | h)
        · exact Or.inl h
        · rcases List.mem_cons.mp h with rfl | h
          · omega
          · exact Or.inr h
    · rw [if_neg h0]
      unfold setB
      by_cases e : q = r
      · subst e
        rw [if_pos rfl]
        exact ⟨fun _ => Or.inr List.mem_cons_self, fun _ => Or.inl rfl⟩
      · rw [if_neg e]
        constructor
        · rintro (h | h)
          · exact Or.inl h
          · exact Or.inr (List.mem_cons_of_mem _ h)
        · rintro (h | h)
          · exact Or.inl h
          · rcases List.mem_cons.mp h with rfl | h
            · exact absurd rfl e
            · exact Or.inr h
/-- both hold the same -/
theorem held_eq (t0 : tl 0 = 0) (t16 : ∀ o, o ≤ 16 → tl o ≤ 16) {l : List Nat} {hF : Nat → Bool} (hl : ∀ r ∈ l, r ≤ 16) (hc : isCl tl (marks l (fun _ => false)) hF) {q : Nat} (q1 : 1 ≤ q) (q2 : q ≤ 16) : (heldB tl l (it 0) >>> (it q &&& it 31)) &&& it 1 = it 0 ↔ hF q = false := by
  have key : bt (heldB tl l (it 0)) q ↔ hF q = true := by
    rw [held_bt t0 t16 q1 q2 l (it 0) hl]
    constructor
    · rintro (h | ⟨r, hr, i, h⟩)
      · exact absurd h (bt_0 q2)
      · have hp : ∀ i, ¬ pth tl r i = 0 → hF (pth tl r i) = true := by
          intro i
          induction i with
          | zero =>
            intro hz
            exact hc.1 r ((marks_i l _ r (by have : ¬ r = 0 := hz; omega)).mpr (Or.inr hr))
          | succ i ih =>
            intro hz
            rw [← pth_tl] at hz ⊢
            have hz' : ¬ pth tl r i = 0 := fun e => hz (by rw [e]; exact t0)
            exact hc.2.1 _ (by omega) (pth_le t16 i r (hl r hr)) (ih hz') hz
        rw [← h]
        exact hp i (by omega)
    · intro h
      refine Or.inr ?_
      have hS := hc.2.2 (fun x => @decide (x = 0 ∨ ∃ r ∈ l, ∃ i, pth tl r i = x) (Classical.propDecidable _)) (fun o o1 o2 ho hz => ?_) (fun i hi => ?_) q h
      · have := (@decide_eq_true_iff _ (Classical.propDecidable _)).mp hS
        exact this.resolve_left (by omega)
      · apply (@decide_eq_true_iff _ (Classical.propDecidable _)).mpr
        rcases (@decide_eq_true_iff _ (Classical.propDecidable _)).mp ho with h | ⟨r, hr, i, h⟩
        · omega
        · exact Or.inr ⟨r, hr, i + 1, by rw [← pth_tl, h]⟩
      · apply (@decide_eq_true_iff _ (Classical.propDecidable _)).mpr
        by_cases h0 : i = 0
        · exact Or.inl h0
        · rcases (marks_i l _ i (by omega)).mp hi with h | h
          · cases h
          · exact Or.inr ⟨i, h, 0, rfl⟩
  unfold bt at key
  cases hq : hF q with
  | true => rw [hq] at key; exact ⟨fun e => absurd e (key.mpr rfl), fun e => by cases e⟩
  | false => rw [hq] at key; exact ⟨fun _ => rfl, fun _ => Classical.byContradiction (fun e => by have := key.mp e; cases this)⟩
end GCQ

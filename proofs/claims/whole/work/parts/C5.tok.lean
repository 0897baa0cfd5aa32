/-! TOKENS, and the class's way to them -/
abbrev isL (v : Nat) : Prop := 97 ≤ v ∧ v ≤ 122
abbrev isD (v : Nat) : Prop := 48 ≤ v ∧ v ≤ 57
abbrev isW (v : Nat) : Prop := v = 32 ∨ v = 10
def wsk (bs : Nat → Nat) : Nat → Nat → Nat
  | 0, p => p
  | n + 1, p => if isW (bs p) then wsk bs n (p + 1) else p
def spn (bs : Nat → Nat) (lo hi : Nat) : Nat → Nat → Nat
  | 0, p => p
  | n + 1, p => if lo ≤ bs p ∧ bs p ≤ hi then spn bs lo hi n (p + 1) else p
def lxe (bs : Nat → Nat) (t p : Nat) : Nat := if t ≤ p then t else if isL (bs p) then spn bs 97 122 (t - p) p else if isD (bs p) then spn bs 48 57 (t - p) p else p + 1
/-- where the token c begins -/
def tst (bs : Nat → Nat) (t : Nat) : Nat → Nat
  | 0 => wsk bs t 0
  | c + 1 => wsk bs (t - lxe bs t (tst bs t c)) (lxe bs t (tst bs t c))
/-- the letters of a word, the last first -/
def rl (bs : Nat → Nat) (p : Nat) : Nat → List Nat
  | 0 => []
  | n + 1 => (bs (p + n) - 96) :: rl bs p n
def num (bs : Nat → Nat) (p : Nat) : Nat → Nat
  | 0 => 0
  | n + 1 => num bs p n * 10 + (bs (p + n) - 48)
/-- the keys, the last letter first, in the class's order -/
def kyl : List (List Nat) := [[14, 21, 6], [6, 9], [5, 19, 12, 5], [5, 12, 9, 8, 23], [14, 18, 21, 20, 5, 18], [20, 14, 9, 18, 16], [20, 14, 9], [12, 15, 15, 2], [23, 15, 18], [20, 19, 9, 12], [5, 21, 18, 20], [5, 19, 12, 1, 6], [5, 14, 15, 14], [20, 15, 14], [4, 14, 1], [18, 15], [23, 5, 14], [5, 26, 9, 19], [4, 1, 5, 8], [12, 9, 1, 20]]
def kix (l : List Nat) : List (List Nat) → Nat → Nat
  | [], _ => 3
  | x :: xs, k => if x = l then k else kix l xs (k + 1)
def kdo (bs : Nat → Nat) (t p : Nat) : Nat := if t ≤ p then 0 else if isL (bs p) then (if lxe bs t p - p = 1 then 1 else kix (rl bs p (lxe bs t p - p)) kyl 256) else if isD (bs p) then (if lxe bs t p - p ≤ 5 then 2 else 3) else if bs p ∈ sgs then bs p else 3
def vlo (bs : Nat → Nat) (t p : Nat) : Nat := if t ≤ p then 0 else if isL (bs p) then (if lxe bs t p - p = 1 then bs p - 97 else 0) else if isD (bs p) then (if lxe bs t p - p ≤ 5 then num bs p (lxe bs t p - p) else 0) else 0
def tkd (bs : Nat → Nat) (t c : Nat) : Nat := kdo bs t (tst bs t c)
def tvl (bs : Nat → Nat) (t c : Nat) : Nat := vlo bs t (tst bs t c)
def ten (bs : Nat → Nat) (t c : Nat) : Nat := lxe bs t (tst bs t c)
theorem wsk_b (bs : Nat → Nat) : ∀ n p, p ≤ wsk bs n p ∧ wsk bs n p ≤ p + n := by
  intro n
  induction n with
  | zero => intro p; exact ⟨Nat.le_refl _, Nat.le_refl _⟩
  | succ n ih =>
    intro p
    rw [wsk]
    split
    · have := ih (p + 1); omega
    · omega
theorem wsk_n (bs : Nat → Nat) : ∀ n p, wsk bs n p < p + n → ¬ isW (bs (wsk bs n p)) := by
  intro n
  induction n with
  | zero => intro p h; rw [wsk] at h; omega
  | succ n ih =>
    intro p
    rw [wsk]
    split
    · intro h; exact ih (p + 1) (by omega)
    · intro _; assumption
theorem spn_b (bs : Nat → Nat) (lo hi : Nat) : ∀ n p, p ≤ spn bs lo hi n p ∧ spn bs lo hi n p ≤ p + n := by
  intro n
  induction n with
  | zero => intro p; exact ⟨Nat.le_refl _, Nat.le_refl _⟩
  | succ n ih =>
    intro p
    rw [spn]
    split
    · have := ih (p + 1); omega
    · omega
theorem spn_in (bs : Nat → Nat) (lo hi : Nat) : ∀ n p i, p ≤ i → i < spn bs lo hi n p → lo ≤ bs i ∧ bs i ≤ hi := by
  intro n
  induction n with
  | zero => intro p i h1 h2; rw [spn] at h2; omega
  | succ n ih =>
    intro p i h1
    rw [spn]
    split
    · intro h2
      by_cases e : i = p
      · subst e; assumption
      · exact ih (p + 1) i (by omega) h2
    · intro h2; omega
theorem lxe_b {bs : Nat → Nat} {t p : Nat} (h : p < t) : p < lxe bs t p ∧ lxe bs t p ≤ t := by
  unfold lxe
  rw [if_neg (by omega)]
  by_cases hl : isL (bs p)
  · rw [if_pos hl]
    have e : t - p = (t - p - 1) + 1 := by omega
    rw [e, spn, if_pos hl]
    have := spn_b bs 97 122 (t - p - 1) (p + 1)
    omega
  · rw [if_neg hl]
    by_cases hd : isD (bs p)
    · rw [if_pos hd]
      have e : t - p = (t - p - 1) + 1 := by omega
      rw [e, spn, if_pos hd]
      have := spn_b bs 48 57 (t - p - 1) (p + 1)
      omega
    · rw [if_neg hd]; omega
theorem tst_t (bs : Nat → Nat) (t : Nat) : ∀ c, tst bs t c ≤ t := by
  intro c
  cases c with
  | zero => have := wsk_b bs t 0; rw [tst]; omega
  | succ c =>
    rw [tst]
    have h1 : lxe bs t (tst bs t c) ≤ t := by
      by_cases h : tst bs t c < t
      · exact (lxe_b h).2
      · unfold lxe; rw [if_pos (by omega)]; exact Nat.le_refl _
    have := wsk_b bs (t - lxe bs t (tst bs t c)) (lxe bs t (tst bs t c))
    omega
theorem tst_w {bs : Nat → Nat} {t c : Nat} (h : tst bs t c < t) : ¬ isW (bs (tst bs t c)) := by
  cases c with
  | zero => rw [tst] at h ⊢; exact wsk_n bs t 0 (by omega)
  | succ c => rw [tst] at h ⊢; exact wsk_n bs _ _ (by omega)
theorem rl_len (bs : Nat → Nat) (p : Nat) : ∀ n, (rl bs p n).length = n := by
  intro n
  induction n with
  | zero => rfl
  | succ n ih => rw [rl, List.length_cons, ih]
theorem rl_d {bs : Nat → Nat} {p : Nat} : ∀ n, (∀ i, p ≤ i → i < p + n → isL (bs i)) → ∀ x ∈ rl bs p n, 1 ≤ x ∧ x ≤ 26 := by
  intro n
  induction n with
  | zero => intro _ x hx; cases hx
  | succ n ih =>
    intro h x hx
    rw [rl] at hx
    rcases List.mem_cons.mp hx with rfl | hx
    · have := h (p + n) (by omega) (by omega); omega
    · exact ih (fun i h1 h2 => h i h1 (by omega)) x hx
def hr : List Nat → Nat
  | [] => 0
  | x :: l => hr l * 32 + x
theorem hr_inj : ∀ (a b : List Nat), (∀ x ∈ a, 1 ≤ x ∧ x ≤ 26) → (∀ x ∈ b, 1 ≤ x ∧ x ≤ 26) → hr a = hr b → a = b := by
  intro a
  induction a with
  | nil =>
    intro b _ hb h
    cases b with
    | nil => rfl
    | cons y b => have := hb y (List.mem_cons_self ..); rw [hr, hr] at h; omega
  | cons x a ih =>
    intro b ha hb h
    cases b with
    | nil => have := ha x (List.mem_cons_self ..); rw [hr, hr] at h; omega
    | cons y b =>
      have h1 := ha x (List.mem_cons_self ..)
      have h2 := hb y (List.mem_cons_self ..)
      rw [hr, hr] at h
      have e : x = y := by omega
      have e2 : hr a = hr b := by omega
      rw [e, ih b (fun z hz => ha z (List.mem_cons_of_mem _ hz)) (fun z hz => hb z (List.mem_cons_of_mem _ hz)) e2]
theorem hr_b : ∀ (l : List Nat) (n : Nat), (∀ x ∈ l, 1 ≤ x ∧ x ≤ 26) → l.length = n → n ≤ 6 → hr l < 32 ^ n := by
  intro l
  induction l with
  | nil => intro n _ h _; rw [hr]; exact Nat.pow_pos (by decide)
  | cons x l ih =>
    intro n hd hl h6
    have h1 := hd x (List.mem_cons_self ..)
    cases n with
    | zero => rw [List.length_cons] at hl; omega
    | succ n =>
      have := ih n (fun z hz => hd z (List.mem_cons_of_mem _ hz)) (by rw [List.length_cons] at hl; omega) (by omega)
      rw [hr, Nat.pow_succ]
      omega
theorem hr_6 {l : List Nat} (hd : ∀ x ∈ l, 1 ≤ x ∧ x ≤ 26) (hl : l.length ≤ 6) : hr l < 1073741824 := by
  have h := hr_b l l.length hd rfl hl
  have h2 : 32 ^ l.length ≤ 32 ^ 6 := Nat.pow_le_pow_right (by decide) hl
  have h3 : (32 : Nat) ^ 6 = 1073741824 := by decide
  omega
theorem kyl_d : ∀ l ∈ kyl, l.length ≤ 6 ∧ 2 ≤ l.length ∧ ∀ x ∈ l, 1 ≤ x ∧ x ≤ 26 := by decide +kernel
theorem kyl_h : ∀ k : Fin 20, ([6830, 294, 176741, 24388997, 609900110, 17376724, 9684, 81388, 18935, 403060, 674469, 6337125, 474565, 14836, 1476, 498, 14519, 632645, 267300, 656684] : List Int).getD k.val 0 = (hr (kyl.getD k.val []) : Int) := by decide +kernel
/-- the word's number in the class -/
def wdn (bs : Nat → Nat) (p n : Nat) : Int := if n ≤ 6 then (hr (rl bs p n) : Int) else -1
section LEX
variable {K : Nat → Value} {B d : Nat} {w : aW} {I : aI} {J : aJ} {bs : Nat → Nat} {t : Nat}
theorem wdn_e {p n k : Nat} (hk : k < 20) (hl : ∀ i, p ≤ i → i < p + n → isL (bs i)) (hC : rCo B I) : I (B + 7) k = it (wdn bs p n) ↔ kyl.getD k [] = rl bs p n := by
  have hc : I (B + 7) k = it (hr (kyl.getD k []) : Int) := by
    rw [hC k hk]
    exact congrArg it (kyl_h ⟨k, hk⟩)
  have hm : kyl.getD k [] ∈ kyl := by
    have hl : k < kyl.length := hk
    rw [List.getD_eq_getElem?_getD, List.getElem?_eq_getElem hl]
    exact List.getElem_mem hl
  have hd := kyl_d _ hm
  have hh := hr_6 hd.2.2 hd.1
  have hd2 := rl_d n hl
  rw [hc]
  unfold wdn
  by_cases h6 : n ≤ 6
  · rw [if_pos h6]
    have hh2 := hr_6 hd2 (by rw [rl_len]; exact h6)
    rw [it_eq (by omega) (by omega) (by omega) (by omega)]
    exact ⟨fun h => hr_inj _ _ hd.2.2 hd2 (by omega), fun h => by rw [h]⟩
  · rw [if_neg h6, it_eq (by omega) (by omega) (by omega) (by omega)]
    refine ⟨fun h => by omega, fun h => ?_⟩
    have := congrArg List.length h
    rw [rl_len] at this
    omega
theorem s_24 {v : Nat} (hv : v < 256) : Cl K (d + 1) 24 [.int (it v)] w I J = some (some (.int (it (if isL v then 1 else 0))), w, I, J) := by
  apply cl_24 (k := 0)
  unfold f_24
  simp only [it_lit]
  by_cases h1 : v < 97
  · rw [if_pos ((it_lt (by omega) (by omega) (by omega) (by omega)).mpr (by omega)), if_neg (by omega)]
  · rw [if_neg (fun q => by have := (it_lt (by omega) (by omega) (by omega) (by omega)).mp q; omega)]
    by_cases h2 : 122 < v
    · rw [if_pos ((it_lt (by omega) (by omega) (by omega) (by omega)).mpr (by omega)), if_neg (by omega)]
    · rw [if_neg (fun q => by have := (it_lt (by omega) (by omega) (by omega) (by omega)).mp q; omega), if_pos (by omega)]
theorem s_28 {v : Nat} (hv : v < 256) : Cl K (d + 1) 28 [.int (it v)] w I J = some (some (.int (it (if isD v then 1 else 0))), w, I, J) := by
  apply cl_28 (k := 0)
  unfold f_28
  simp only [it_lit]
  by_cases h1 : v < 48
  · rw [if_pos ((it_lt (by omega) (by omega) (by omega) (by omega)).mpr (by omega)), if_neg (by omega)]
  · rw [if_neg (fun q => by have := (it_lt (by omega) (by omega) (by omega) (by omega)).mp q; omega)]
    by_cases h2 : 57 < v
    · rw [if_pos ((it_lt (by omega) (by omega) (by omega) (by omega)).mpr (by omega)), if_neg (by omega)]
    · rw [if_neg (fun q => by have := (it_lt (by omega) (by omega) (by omega) (by omega)).mp q; omega), if_pos (by omega)]
theorem s_27 {p n : Nat} (H : Lay B w) (hl : ∀ i, p ≤ i → i < p + n → isL (bs i)) (hC : rCo B I) : Cl K (d + 1) 27 [.ref (B + 3), .int (it (wdn bs p n))] w I J = some (some (.int (it (kix (rl bs p n) kyl 256 : Nat))), w, I, J) := by
  have go : ∀ (m k : Nat), k + m = 20 → f_27_2 K (m + 1) d (B + 3) (it (wdn bs p n)) (it k) w I J = some (some (.int (it (kix (rl bs p n) (kyl.drop k) (256 + k) : Nat))), w, I, J) := by
    intro m
    induction m with
    | zero =>
      intro k hk
      have e : k = 20 := by omega
      subst e
      rw [f_27_2]
      simp only [it_lit, lt_p]
      rw [if_pos ((it_le (by omega) (by omega) (by omega) (by omega)).mpr (by omega))]
      rfl
    | succ m ih =>
      intro k hk
      rw [f_27_2]
      simp only [it_lit, lt_p, gO_e (yt3 H), gV_e (yp3_3 H), it_add]
      rw [if_neg (fun q => by have := (it_le (by omega) (by omega) (by omega) (by omega)).mp q; omega), gA_e (yt7 H) (Or.inl rfl) (ix (by omega) (by omega) (by omega)), it_n (by omega)]
      have hk2 : k < kyl.length := by show k < 20; omega
      have e1 : kyl.drop k = kyl.getD k [] :: kyl.drop (k + 1) := by
        rw [List.drop_eq_getElem_cons hk2, List.getD_eq_getElem?_getD, List.getElem?_eq_getElem hk2]
        rfl
      rw [e1, kix]
      by_cases e : I (B + 7) k = it (wdn bs p n)
      · rw [if_neg (fun q => q e), if_pos ((wdn_e (by omega) hl hC).mp e)]
        congr 5
      · rw [if_pos e, if_neg (fun q => e ((wdn_e (by omega) hl hC).mpr q))]
        exact ih (k + 1) (by omega)
  apply cl_27 (k := 21)
  unfold f_27
  exact go 20 0 (by omega)
/-- the tokens that the class has so far -/
def TS (B : Nat) (bs : Nat → Nat) (t n : Nat) (I : aI) : Prop := I (B + 3) 4 = it n ∧ ∀ c, c < n → I (B + 4) c = it (tkd bs t c) ∧ I (B + 5) c = it (tst bs t c) ∧ I (B + 6) c = it (tvl bs t c)
def FrT (B : Nat) (I I' : aI) : Prop := (∀ a, ¬ a = B + 3 → ¬ a = B + 4 → ¬ a = B + 5 → ¬ a = B + 6 → I' a = I a) ∧ I' (B + 3) 5 = I (B + 3) 5 ∧ I' (B + 3) 6 = I (B + 3) 6
theorem FrT_t {I I' I'' : aI} (h1 : FrT B I I') (h2 : FrT B I' I'') : FrT B I I'' := ⟨fun a a1 a2 a3 a4 => (h2.1 a a1 a2 a3 a4).trans (h1.1 a a1 a2 a3 a4), h2.2.1.trans h1.2.1, h2.2.2.trans h1.2.2⟩
theorem FrT_r {I : aI} : FrT B I I := ⟨fun _ _ _ _ _ => rfl, rfl, rfl⟩
theorem s_26 {n : Nat} {k p v : Int32} (H : Lay B w) (hT : TS B bs t n I) (hn : n < 241) (hk : k = it (tkd bs t n)) (hp : p = it (tst bs t n)) (hv : v = it (tvl bs t n)) : ∃ I', Cl K (d + 1) 26 [.ref (B + 3), .int k, .int p, .int v] w I J = some (none, w, I', J) ∧ TS B bs t (n + 1) I' ∧ FrT B I I' := by
  obtain ⟨h4, hT⟩ := hT
  refine ⟨sm_up2 (sm_up2 (sm_up2 (sm_up2 I (B + 4) n k) (B + 5) n p) (B + 6) n v) (B + 3) 4 (it ((n + 1 : Nat) : Int)), ?_, ⟨?_, ?_⟩, ?_⟩
  · apply cl_26 (k := 0)
    unfold f_26
    simp only [lt_p, gO_e (yt3 H), gV_e (yp3_0 H), gV_e (yp3_1 H), gV_e (yp3_2 H)]
    rw [gL_e (yt4 H) (by omega), h4, it_nat, if_neg (fun q => by have := (it_le (by omega) (by omega) (by omega) (by omega)).mp q; omega), gA_e (yt4 H) (Or.inl rfl) (ix (by omega) (by omega) (by omega)), it_n (by omega)]
    rw [up2_n (a := B + 4) (b := B + 3) (by omega), h4, gA_e (yt5 H) (Or.inl rfl) (ix (by omega) (by omega) (by omega)), it_n (by omega)]
    rw [up2_n (a := B + 5) (b := B + 3) (by omega), up2_n (a := B + 4) (b := B + 3) (by omega), h4, gA_e (yt6 H) (Or.inl rfl) (ix (by omega) (by omega) (by omega)), it_n (by omega)]
    rw [up2_n (a := B + 6) (b := B + 3) (by omega), up2_n (a := B + 5) (b := B + 3) (by omega), up2_n (a := B + 4) (b := B + 3) (by omega), h4]
    simp only [it_lit, it_add]
    rfl
  · rw [up2_r, up1_s]
  · intro c hc
    rw [up2_n (a := B + 3) (b := B + 4) (by omega), up2_n (a := B + 6) (b := B + 4) (by omega), up2_n (a := B + 5) (b := B + 4) (by omega), up2_r]
    rw [up2_n (a := B + 3) (b := B + 5) (by omega), up2_n (a := B + 6) (b := B + 5) (by omega), up2_r, up2_n (a := B + 4) (b := B + 5) (by omega)]
    rw [up2_n (a := B + 3) (b := B + 6) (by omega), up2_r, up2_n (a := B + 5) (b := B + 6) (by omega), up2_n (a := B + 4) (b := B + 6) (by omega)]
    by_cases e : c = n
    · subst e
      rw [up1_s, up1_s, up1_s]
      exact ⟨hk, hp, hv⟩
    · rw [up1_n e, up1_n e, up1_n e]
      exact hT c (by omega)
  · refine ⟨fun a a1 a2 a3 a4 => ?_, ?_, ?_⟩
    · rw [up2_n a1, up2_n a4, up2_n a3, up2_n a2]
    · rw [up2_r, up1_n (by omega), up2_n (a := B + 6) (b := B + 3) (by omega), up2_n (a := B + 5) (b := B + 3) (by omega), up2_n (a := B + 4) (b := B + 3) (by omega)]
    · rw [up2_r, up1_n (by omega), up2_n (a := B + 6) (b := B + 3) (by omega), up2_n (a := B + 5) (b := B + 3) (by omega), up2_n (a := B + 4) (b := B + 3) (by omega)]
end LEX

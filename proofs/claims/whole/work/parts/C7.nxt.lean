/-! the reference's way to the tokens -/
/-- the keys in the reference's order -/
def kyr : List (List Nat) := [[20, 14, 9], [12, 15, 15, 2], [23, 15, 18], [20, 19, 9, 12], [14, 21, 6], [6, 9], [5, 19, 12, 5], [5, 12, 9, 8, 23], [14, 18, 21, 20, 5, 18], [20, 14, 9, 18, 16], [5, 21, 18, 20], [5, 19, 12, 1, 6], [5, 14, 15, 14], [20, 15, 14], [4, 14, 1], [18, 15], [23, 5, 14], [5, 26, 9, 19], [4, 1, 5, 8], [12, 9, 1, 20]]
/-- the class's kind of a key of the reference -/
def cvt (r : Nat) : Nat := if r < 4 then 262 + r else if r < 10 then 252 + r else 256 + r
def kfd (l : List Nat) : Nat → Int
  | 0 => -1
  | k + 1 => if kyr.getD k [] = l then (k : Int) else kfd l k
theorem kfd_i : ∀ i : Fin 20, kfd (kyr.getD i.val []) 20 = (i.val : Int) ∧ kix (kyr.getD i.val []) kyl 256 = cvt i.val := by decide +kernel
theorem kix_3 (l : List Nat) : ∀ (xs : List (List Nat)) (k : Nat), (∀ x ∈ xs, ¬ x = l) → kix l xs k = 3 := by
  intro xs
  induction xs with
  | nil => intro k _; rfl
  | cons x xs ih =>
    intro k h
    rw [kix, if_neg (h x (List.mem_cons_self ..))]
    exact ih _ (fun y hy => h y (List.mem_cons_of_mem _ hy))
theorem kyl_r : ∀ x ∈ kyl, x ∈ kyr := by decide +kernel
theorem kfd_n (l : List Nat) (h : ∀ x ∈ kyr, ¬ x = l) : ∀ k, k ≤ 20 → kfd l k = -1 := by
  intro k
  induction k with
  | zero => intro _; rfl
  | succ k ih =>
    intro hk
    have hl : k < kyr.length := by show k < 20; omega
    rw [kfd, if_neg, ih (by omega)]
    rw [List.getD_eq_getElem?_getD, List.getElem?_eq_getElem hl]
    exact h _ (List.getElem_mem hl)
theorem kfd_s (l : List Nat) : (kfd l 20 = -1 ∧ kix l kyl 256 = 3) ∨ ∃ r, r < 20 ∧ kfd l 20 = (r : Nat) ∧ kix l kyl 256 = cvt r := by
  by_cases h : l ∈ kyr
  · right
    obtain ⟨i, hi, e⟩ := List.getElem_of_mem h
    have e2 : kyr.getD i [] = l := by rw [List.getD_eq_getElem?_getD, List.getElem?_eq_getElem hi]; exact e
    have := kfd_i ⟨i, hi⟩
    simp only [e2] at this
    exact ⟨i, hi, this.1, this.2⟩
  · left
    have h2 : ∀ x ∈ kyr, ¬ x = l := fun x hx e => h (e ▸ hx)
    exact ⟨kfd_n l h2 20 (by omega), kix_3 l kyl 256 (fun x hx => h2 x (kyl_r x hx))⟩
theorem rl_eq {bs : Nat → Nat} {p : Nat} : ∀ (n : Nat) (l : List Nat), rl bs p n = l ↔ l.length = n ∧ ∀ x, x < n → bs (p + x) - 96 = l.getD (n - 1 - x) 0 := by
  intro n
  induction n with
  | zero =>
    intro l
    rw [rl]
    constructor
    · intro h; subst h; exact ⟨rfl, fun x h => by omega⟩
    · intro h; exact (List.length_eq_zero_iff.mp h.1).symm
  | succ n ih =>
    intro l
    rw [rl]
    cases l with
    | nil =>
      constructor
      · intro h; exact absurd h (List.cons_ne_nil _ _)
      · intro h
        have := h.1
        rw [List.length_nil] at this
        omega
    | cons y l =>
      rw [List.cons.injEq, ih l, List.length_cons]
      constructor
      · rintro ⟨h1, h2, h3⟩
        refine ⟨by omega, fun x hx => ?_⟩
        by_cases e : x = n
        · subst e; rw [h1, show x + 1 - 1 - x = 0 by omega]; rfl
        · rw [h3 x (by omega), show n + 1 - 1 - x = (n - 1 - x) + 1 by omega]; rfl
      · rintro ⟨h1, h2⟩
        refine ⟨?_, by omega, fun x hx => ?_⟩
        · have := h2 n (by omega); rw [show n + 1 - 1 - n = 0 by omega] at this; exact this
        · have := h2 x (by omega); rw [show n + 1 - 1 - x = (n - 1 - x) + 1 by omega] at this; exact this
theorem kyr_g : ∀ i : Fin 20, (gsb.getD (i.val + 2) []).length = (kyr.getD i.val []).length ∧ (kyr.getD i.val []).length ≤ 6 ∧ ∀ x : Fin 6, x.val < (kyr.getD i.val []).length → (gsb.getD (i.val + 2) []).getD x.val 0 = it (((kyr.getD i.val []).getD ((kyr.getD i.val []).length - 1 - x.val) 0 + 96 : Nat) : Int) := by decide +kernel
/-- sort and key of a token -/
def SK (bs : Nat → Nat) (p kd : Nat) (s k : Int) : Prop := (kd = 0 ∧ s = 0) ∨ (kd = 1 ∧ s = 1) ∨ (∃ r : Nat, r < 20 ∧ kd = cvt r ∧ s = 2 ∧ k = r) ∨ (kd = 2 ∧ s = 3) ∨ (kd = 3 ∧ s = 5) ∨ (kd ∈ sgs ∧ s = 4 ∧ bs p = kd)
def FrM (B : Nat) (I I' : aI) : Prop := (∀ a, ¬ a = B + 46 → I' a = I a) ∧ ∀ k, ¬ k = 22 → ¬ k = 23 → ¬ k = 24 → ¬ k = 25 → I' (B + 46) k = I (B + 46) k
theorem FrM_t {B : Nat} {I I' I'' : aI} (h1 : FrM B I I') (h2 : FrM B I' I'') : FrM B I I'' := ⟨fun a a1 => (h2.1 a a1).trans (h1.1 a a1), fun k a1 a2 a3 a4 => (h2.2 k a1 a2 a3 a4).trans (h1.2 k a1 a2 a3 a4)⟩
theorem FrM_u {B k : Nat} {I : aI} {x : Int32} (h : k = 22 ∨ k = 23 ∨ k = 24 ∨ k = 25) : FrM B I (sm_up2 I (B + 46) k x) := ⟨fun a a1 => up2_n a1, fun j a1 a2 a3 a4 => by rw [up2_r, up1_n (by omega)]⟩
section NXT
variable {K : Nat → Value} {B d k : Nat} {w : aW} {I : aI} {J : aJ} {bs : Nat → Nat} {t c p q n : Nat}
/-- the tape as the reference has it -/
def MTp (B : Nat) (bs : Nat → Nat) (t : Nat) (I : aI) : Prop := I (B + 46) 2 = it t ∧ ∀ i, i < t → bs i < 256 ∧ I (B + 48) i = it (bs i)
theorem MTp_f {I I' : aI} (h : FrM B I I') (hM : MTp B bs t I) : MTp B bs t I' := ⟨by rw [h.2 2 (by omega) (by omega) (by omega) (by omega)]; exact hM.1, by rw [h.1 (B + 48) (by omega)]; exact hM.2⟩
theorem s_19b {v lo hi : Nat} (hv : v < 1000) (h1 : lo < 1000) (h2 : hi < 1000) : Cl K (d + 1) 19 [.int (it v), .int (it lo), .int (it hi)] w I J = some (some (.int (it (if lo ≤ v ∧ v ≤ hi then 1 else 0))), w, I, J) := by
  apply cl_19 (k := 0)
  unfold f_19
  simp only [it_lit]
  by_cases h1 : v < lo
  · rw [if_pos ((it_lt (by omega) (by omega) (by omega) (by omega)).mpr (by omega)), if_neg (by omega)]
  · rw [if_neg (fun q => by have := (it_lt (by omega) (by omega) (by omega) (by omega)).mp q; omega)]
    by_cases h2 : hi < v
    · rw [if_pos ((it_lt (by omega) (by omega) (by omega) (by omega)).mpr (by omega)), if_neg (by omega)]
    · rw [if_neg (fun q => by have := (it_lt (by omega) (by omega) (by omega) (by omega)).mp q; omega), if_pos (by omega)]
theorem s_85 (H : Lay B w) (hM : MTp B bs t I) (ht : t ≤ 240) (hp : p ≤ t) : Cl K (d + 2) 85 [.ref (B + 46), .int (it p)] w I J = some (some (.int (it (if p < t ∧ isL (bs p) then 1 else 0))), w, I, J) := by
  apply cl_85 (k := 0)
  unfold f_85
  simp only [it_lit, gO_e (yt46 H), gV_e (yp46_1 H)]
  rw [hM.1]
  by_cases h : p < t
  · rw [if_neg (fun q => by have := (it_le (by omega) (by omega) (by omega) (by omega)).mp q; omega), gA_e (yt48 H) (Or.inl rfl) (ix (by omega) (by omega) (by omega)), it_n (by omega), (hM.2 p h).2]
    have hv := (hM.2 p h).1
    have e : Cl K (d + 1) 19 [.int (it (bs p)), .int (it 97), .int (it 122)] w I J = some (some (.int (it (if isL (bs p) then 1 else 0))), w, I, J) := s_19b (v := bs p) (lo := 97) (hi := 122) (by omega) (by omega) (by omega)
    rw [e]
    simp only [cI_e]
    by_cases hl : isL (bs p)
    · rw [if_pos hl, if_neg (by decide), if_pos ⟨h, hl⟩]
    · rw [if_neg hl, if_pos rfl, if_neg (fun q => hl q.2)]
  · rw [if_pos ((it_le (by omega) (by omega) (by omega) (by omega)).mpr (by omega)), if_neg (fun q => h q.1)]
theorem s_87 (H : Lay B w) (hM : MTp B bs t I) (ht : t ≤ 240) (hp : p ≤ t) : Cl K (d + 2) 87 [.ref (B + 46), .int (it p)] w I J = some (some (.int (it (if p < t ∧ isD (bs p) then 1 else 0))), w, I, J) := by
  apply cl_87 (k := 0)
  unfold f_87
  simp only [it_lit, gO_e (yt46 H), gV_e (yp46_1 H)]
  rw [hM.1]
  by_cases h : p < t
  · rw [if_neg (fun q => by have := (it_le (by omega) (by omega) (by omega) (by omega)).mp q; omega), gA_e (yt48 H) (Or.inl rfl) (ix (by omega) (by omega) (by omega)), it_n (by omega), (hM.2 p h).2]
    have hv := (hM.2 p h).1
    have e : Cl K (d + 1) 19 [.int (it (bs p)), .int (it 48), .int (it 57)] w I J = some (some (.int (it (if isD (bs p) then 1 else 0))), w, I, J) := s_19b (v := bs p) (lo := 48) (hi := 57) (by omega) (by omega) (by omega)
    rw [e]
    simp only [cI_e]
    by_cases hl : isD (bs p)
    · rw [if_pos hl, if_neg (by decide), if_pos ⟨h, hl⟩]
    · rw [if_neg hl, if_pos rfl, if_neg (fun q => hl q.2)]
  · rw [if_pos ((it_le (by omega) (by omega) (by omega) (by omega)).mpr (by omega)), if_neg (fun q => h q.1)]
/-- one key against the word -/
theorem l_86 {r4 : Nat → Int32 → Int32 → aW → aI → aJ → Option aR} {i a v : Nat} {f : Int32} (H : Lay B w) (hM : MTp B bs t I) (ht : t ≤ 240) (h22 : I (B + 46) 22 = it p) (h23 : I (B + 46) 23 = it ((p + n : Nat) : Int)) (hn : p + n ≤ t) (hi : i < 20) (hO : StO K B w I) (hk : K (i + 2) = .ref a) (hv : w.2.1 (B + 61) i = some a) (h0 : w.2.1 a 0 = some v) (h1 : w.1 v = some (21, n)) (n6 : n ≤ 6) (hb : ∀ x, x < n → ∃ u : Nat, u < 128 ∧ I v x = it u) : ∀ (m j : Nat) (s : Nat) (kf : Nat), j + m = n → s ≤ 1 → m < kf → (s = 1 ↔ ∀ x, x < j → it (bs (p + x)) = I v x) → f_86_43 K kf (d + 4) r4 (B + 46) f (it i) (it s) (it j) w I J = (if (∀ x, x < n → it (bs (p + x)) = I v x) then r4 (B + 46) (it i) (it ((i + 1 : Nat) : Int)) w I J else r4 (B + 46) f (it ((i + 1 : Nat) : Int)) w I J) := by
  intro m
  induction m with
  | zero =>
    intro j s kf hj hs hkf hm
    obtain ⟨kf, rfl⟩ : ∃ k', kf = k' + 1 := ⟨kf - 1, by omega⟩
    have e : j = n := by omega
    subst e
    rw [f_86_43]
    simp only [it_lit, lt_p, gO_e (yt46 H), h22, h23, it_sub]
    by_cases s1 : s = 1
    · subst s1
      rw [if_neg (by decide), if_pos ((it_le (by omega) (by omega) (by omega) (by omega)).mpr (by omega))]
      unfold f_86_99
      simp only [it_lit]
      rw [if_neg (by decide), if_pos (hm.mp rfl)]
      unfold f_86_108
      simp only [it_lit, lt_p, it_add]
      rfl
    · have e0 : s = 0 := by omega
      subst e0
      rw [if_pos (show it ((0 : Nat) : Int) = it 0 from rfl)]
      unfold f_86_99
      simp only [it_lit]
      rw [if_pos (show it ((0 : Nat) : Int) = it 0 from rfl), if_neg (fun q => s1 (hm.mpr q))]
      unfold f_86_108
      simp only [it_lit, lt_p, it_add]
      rfl
  | succ m ih =>
    intro j s kf hj hs hkf hm
    obtain ⟨kf, rfl⟩ : ∃ k', kf = k' + 1 := ⟨kf - 1, by omega⟩
    rw [f_86_43]
    simp only [it_lit, lt_p, gO_e (yt46 H), gV_e (yp46_1 H), gV_e (yp46_21 H), h22, h23, it_sub, it_add]
    by_cases s1 : s = 1
    · subst s1
      rw [if_neg (by decide), if_neg (fun q => by have := (it_le (by omega) (by omega) (by omega) (by omega)).mp q; omega), gA_e (yt48 H) (Or.inl rfl) (ix (by omega) (by omega) (by omega)), gA_e (yt61 H) (Or.inr rfl) (ix (by omega) (by omega) (by omega)), it_n (k := i) (by omega), gV_e hv, gC_e (isS_i (i := i + 2) (by omega) hk)]
      obtain ⟨u, u1, u2⟩ := hb j (by omega)
      rw [s_6 (d := d) hO.2.2.1 hO.2.2.2 (isS_i (i := i + 2) (by omega) hk) h0 h1 (by omega) (by omega) u2 (by omega)]
      simp only [cI_e]
      rw [it_cl (a := (p : Int) + j) (by omega) (by omega), show ((p : Int) + j).toNat = p + j by omega, (hM.2 (p + j) (by omega)).2]
      by_cases e : it (bs (p + j)) = it u
      · rw [if_neg (fun q => q e)]
        unfold f_86_92
        simp only [it_lit, lt_p, it_add]
        exact ih (j + 1) 1 kf (by omega) (by omega) (by omega) ⟨fun _ x hx => by
          by_cases ex : x = j
          · subst ex; rw [u2]; exact e
          · exact hm.mp rfl x (by omega), fun _ => rfl⟩
      · rw [if_pos e]
        unfold f_86_92
        simp only [it_lit, lt_p, it_add]
        exact ih (j + 1) 0 kf (by omega) (by omega) (by omega) ⟨fun h => by omega, fun h => absurd ((h j (by omega)).trans u2) e⟩
    · have e0 : s = 0 := by omega
      subst e0
      rw [if_pos (show it ((0 : Nat) : Int) = it 0 from rfl)]
      unfold f_86_99
      simp only [it_lit]
      rw [if_pos (show it ((0 : Nat) : Int) = it 0 from rfl), if_neg (fun q => s1 (hm.mpr (fun x hx => q x (by omega))))]
      unfold f_86_108
      simp only [it_lit, lt_p, it_add]
      rfl
theorem s_86 (H : Lay B w) (hM : MTp B bs t I) (ht : t ≤ 240) (h22 : I (B + 46) 22 = it p) (h23 : I (B + 46) 23 = it ((p + n : Nat) : Int)) (hn : p + n ≤ t) (hl : ∀ i, p ≤ i → i < p + n → isL (bs i)) (hO : StO K B w I) (hK : rKy K B w) : Cl K (d + 5) 86 [.ref (B + 46)] w I J = some (some (.int (it (kfd (rl bs p n) 20))), w, I, J) := by
  have go : ∀ (m i kf : Nat), i + m = 20 → m + 10 < kf → f_86_4 K kf (d + 4) (B + 46) (it (kfd (rl bs p n) i)) (it i) w I J = some (some (.int (it (kfd (rl bs p n) 20))), w, I, J) := by
    intro m
    induction m with
    | zero =>
      intro i kf hi hkf
      obtain ⟨kf, rfl⟩ : ∃ k', kf = k' + 1 := ⟨kf - 1, by omega⟩
      have e : i = 20 := by omega
      subst e
      rw [f_86_4]
      simp only [it_lit, lt_p, gO_e (yt46 H), gV_e (yp46_21 H)]
      rw [gL_e (yt61 H) (by omega), it_nat, if_pos ((it_le (by omega) (by omega) (by omega) (by omega)).mpr (by omega))]
    | succ m ih =>
      intro i kf hi hkf
      obtain ⟨kf, rfl⟩ : ∃ k', kf = k' + 1 := ⟨kf - 1, by omega⟩
      rw [f_86_4]
      simp only [it_lit, lt_p, gO_e (yt46 H), gV_e (yp46_21 H)]
      obtain ⟨a, hk, hv⟩ := hK i (by omega)
      obtain ⟨a', v, k1, k2, k3, k4, k5, k6⟩ := hO.1 (i + 2) (by omega)
      rw [hk] at k1
      injection k1 with k1
      subst k1
      rw [gL_e (yt61 H) (by omega), it_nat, if_neg (fun q => by have := (it_le (by omega) (by omega) (by omega) (by omega)).mp q; omega), gA_e (yt61 H) (Or.inr rfl) (ix (by omega) (by omega) (by omega)), it_n (k := i) (by omega), gV_e hv, gC_e (isS_i (i := i + 2) (by omega) hk), s_4 (d := d + 2) hO.2.2.2 (isS_i (i := i + 2) (by omega) hk) k4 k5]
      simp only [cI_e, h22, h23, it_sub]
      obtain ⟨g1, g2, g3⟩ := kyr_g ⟨i, by omega⟩
      simp only at g1 g2 g3
      have nx : kfd (rl bs p n) (i + 1) = if kyr.getD i [] = rl bs p n then (i : Int) else kfd (rl bs p n) i := rfl
      have ih' := ih (i + 1) kf (by omega) (by omega)
      rw [nx] at ih'
      rw [show (((p + n : Nat) : Int) - (p : Int)) = (n : Int) by omega]
      by_cases e : n = (gsb.getD (i + 2) []).length
      · rw [if_neg (fun q => q (by rw [← e]))]
        rw [← e] at k5 k6
        unfold f_86_39
        simp only [it_lit]
        have n6 : n ≤ 6 := by omega
        have l86 := l_86 (d := d) (J := J) (r4 := f_86_4 K kf (d + 4)) (f := it (kfd (rl bs p n) i)) H hM ht h22 h23 hn (i := i) (by omega) hO hk hv k4 k5 n6 (fun x hx => by
          obtain ⟨u, u1, u2⟩ := gsb_v (i := i + 2) (j := x) (by omega) (by omega)
          exact ⟨u, u1, (k6 x hx).trans u2⟩) n 0 1 kf (by omega) (by omega) (by omega) ⟨fun _ x hx => by omega, fun _ => rfl⟩
        refine Eq.trans l86 ?_
        have iff : (∀ x, x < n → it (bs (p + x)) = I v x) ↔ kyr.getD i [] = rl bs p n := by
          rw [eq_comm (a := kyr.getD i []), rl_eq]
          constructor
          · intro h
            refine ⟨by omega, fun x hx => ?_⟩
            have h1 := h x hx
            rw [k6 x hx, g3 ⟨x, by omega⟩ (by simp only; omega)] at h1
            simp only at h1
            have hb := (hM.2 (p + x) (by omega)).1
            have hkm : kyr.getD i [] ∈ kyr := by
              have hl : i < kyr.length := by show i < 20; omega
              rw [List.getD_eq_getElem?_getD, List.getElem?_eq_getElem hl]
              exact List.getElem_mem hl
            have hd : ∀ l ∈ kyr, ∀ y, y < 6 → l.getD y 0 ≤ 26 := by decide +kernel
            have hd' := hd _ hkm ((kyr.getD i []).length - 1 - x) (by omega)
            have := it_inj (by omega) (by omega) h1
            rw [show n - 1 - x = (kyr.getD i []).length - 1 - x by omega]
            omega
          · intro h x hx
            have h1 := h.2 x hx
            have hb := hl (p + x) (by omega) (by omega)
            rw [k6 x hx, g3 ⟨x, by omega⟩ (by simp only; omega)]
            simp only
            rw [show (kyr.getD i []).length - 1 - x = n - 1 - x by omega, ← h1]
            congr 2
            omega
        by_cases e2 : kyr.getD i [] = rl bs p n
        · rw [if_pos (iff.mpr e2)]
          rw [if_pos e2] at ih'
          exact ih'
        · rw [if_neg (fun q => e2 (iff.mp q))]
          rw [if_neg e2] at ih'
          exact ih'
      · rw [if_pos (fun q => by have := (it_eq (by omega) (by omega) (by omega) (by omega)).mp q; omega)]
        unfold f_86_39
        simp only [it_lit]
        have e2 : ¬ kyr.getD i [] = rl bs p n := fun h => by
          have := congrArg List.length h
          rw [rl_len] at this
          omega
        rw [if_neg e2] at ih'
        obtain ⟨kf, rfl⟩ : ∃ k', kf = k' + 1 := ⟨kf - 1, by omega⟩
        rw [f_86_43]
        simp only [it_lit, lt_p]
        rw [if_pos trivial]
        unfold f_86_99
        simp only [it_lit]
        rw [if_pos trivial]
        unfold f_86_108
        simp only [it_lit, lt_p, it_add]
        exact ih'
  apply cl_86 (k := 40)
  unfold f_86
  simp only [it_lit, it_neg]
  exact go 20 0 40 (by omega) (by omega)
end NXT

/-! the class marks what no way leads to -/
section MRK
variable {K : Nat → Value} {B d a N f p k : Nat} {w : aW} {I : aI} {J : aJ} {M : Nat → Int32} {z : Int}
theorem up12 {q k : Nat} {x : Int32} : sm_up2 (sm_up1 I q M) q k x = sm_up1 I q (sm_up1 M k x) := by
  funext b
  by_cases h : b = q
  · subst h; rw [up2_r, up1_s, up1_s]
  · rw [up2_n h, up1_n h, up1_n h]
def rmk (N : Nat) (z : Int) (M : Nat → Int32) : Nat → Int32 := if 0 ≤ z ∧ z < N ∧ z < 200 then sm_up1 M z.toNat (it 1) else M
theorem rmk_s {j : Nat} (hj : j < 200) : (¬ rmk N z M j = it 0) ↔ (¬ M j = it 0) ∨ (z = j ∧ j < N) := by
  unfold rmk
  by_cases h : 0 ≤ z ∧ z < N ∧ z < 200
  · rw [if_pos h, up1_a]
    by_cases e : j = z.toNat
    · rw [if_pos e]
      exact ⟨fun _ => Or.inr (by omega), fun _ => by decide⟩
    · rw [if_neg e]
      exact ⟨fun y => Or.inl y, fun y => by rcases y with y | y; exact y; omega⟩
  · rw [if_neg h]
    exact ⟨fun y => Or.inl y, fun y => by rcases y with y | y; exact y; omega⟩
theorem s_79 (hP : PL w a) (hN : I a 6 = it N) (hb : N ≤ 1000) (z1 : -2147483648 ≤ z) (z2 : z < 2147483648) : Cl K (d + 2) 79 [.ref a, .int (it z)] w (sm_up1 I (a + 4) M) J = some (none, w, sm_up1 I (a + 4) (rmk N z M), J) := by
  apply cl_79 (k := 0)
  unfold f_79
  have hN' : (sm_up1 I (a + 4) M) a 6 = it N := by rw [up1_n (by omega)]; exact hN
  simp only [it_lit, gO_e hP.1]
  rw [s_61 (d := d) hP hN' (by omega) z1 z2]
  simp only [cI_e, gO_e hP.1, gV_e hP.2.2.2.2.2.2.2.2.2.2.1, lt_p]
  by_cases h : 0 ≤ z ∧ z < N ∧ z < 200
  · rw [bi_t h, if_neg (by decide), gA_e hP.2.2.2.2.1 (Or.inl rfl) (ix (by omega) (by omega) (by omega)), it_cl (by omega) (by omega), up12]
    unfold rmk
    rw [if_pos h]
  · rw [bi_f h, if_pos rfl]
    unfold rmk
    rw [if_neg h]
/-- q leads to p, in the class's cells -/
def edI (a : Nat) (I : aI) (q p : Nat) : Prop := ((I (a + 1) q = it 23 ∨ I (a + 1) q = it 24) ∧ I (a + 2) q = it p) ∨ (¬ I (a + 1) q = it 24 ∧ ¬ I (a + 1) q = it 25 ∧ p = q + 1)
def hdI (a f : Nat) (I : aI) (p : Nat) : Prop := ∃ g, g < f ∧ I (a + 5) (4 * g) = it p
theorem x_115 {x : Int32} {r : Nat → Int32 → aW → aI → aJ → Option aR} (hP : PL w a) (hN : I a 6 = it N) (hb : N ≤ 1000) (hp : p < 200) : ∃ M1, f_78_115 K k (d + 2) r a (it p) x w (sm_up1 I (a + 4) M) J = r a (it ((p + 1 : Nat) : Int)) w (sm_up1 I (a + 4) M1) J ∧ ∀ j, j < 200 → j < N → ((¬ M1 j = it 0) ↔ (¬ M j = it 0) ∨ (¬ x = it 24 ∧ ¬ x = it 25 ∧ j = p + 1)) := by
  have e : ∀ Mx, f_78_134 K k (d + 2) r a (it p) w (sm_up1 I (a + 4) Mx) J = r a (it ((p + 1 : Nat) : Int)) w (sm_up1 I (a + 4) Mx) J := fun Mx => by
    unfold f_78_134
    simp only [it_lit, lt_p, it_add]
    rw [show (p : Int) + 1 = ((p + 1 : Nat) : Int) by omega]
  unfold f_78_115
  simp only [it_lit, gO_e hP.1, it_add]
  by_cases h1 : x = it 24
  · rw [if_pos h1, e]
    exact ⟨M, rfl, fun j _ _ => ⟨fun y => Or.inl y, fun y => by rcases y with y | y; exact y; exact absurd h1 y.1⟩⟩
  · rw [if_neg h1]
    by_cases h2 : x = it 25
    · rw [if_pos h2, e]
      exact ⟨M, rfl, fun j _ _ => ⟨fun y => Or.inl y, fun y => by rcases y with y | y; exact y; exact absurd h2 y.2.1⟩⟩
    · rw [if_neg h2, show (p : Int) + 1 = ((p + 1 : Nat) : Int) by omega, s_79 hP hN hb (by omega) (by omega)]
      simp only [cV_e]
      rw [e]
      refine ⟨_, rfl, fun j j1 j2 => (rmk_s j1).trans ⟨fun y => y.imp id (fun y => ⟨h1, h2, by omega⟩), fun y => y.imp id (fun y => ⟨by omega, j2⟩)⟩⟩
theorem x_105 {x : Int32} {r : Nat → Int32 → aW → aI → aJ → Option aR} (hP : PL w a) (hN : I a 6 = it N) (hb : N ≤ 1000) (hp : p < 200) : ∃ M1, f_78_105 K k (d + 2) r a (it p) x w (sm_up1 I (a + 4) M) J = r a (it ((p + 1 : Nat) : Int)) w (sm_up1 I (a + 4) M1) J ∧ ∀ j, j < 200 → j < N → ((¬ M1 j = it 0) ↔ (¬ M j = it 0) ∨ I (a + 2) p = it j ∨ (¬ x = it 24 ∧ ¬ x = it 25 ∧ j = p + 1)) := by
  unfold f_78_105
  simp only [it_lit, gO_e hP.1, gV_e hP.2.2.2.2.2.2.2.2.1]
  rw [gA_e hP.2.2.1 (Or.inl rfl) (ix (by omega) (by omega) (by omega)), it_n (by omega), up1_n (show ¬ a + 2 = a + 4 by omega)]
  obtain ⟨z, z1, z2, e⟩ := it_ex (I (a + 2) p)
  rw [e, s_79 hP hN hb z1 z2]
  simp only [cV_e]
  obtain ⟨M1, m1, m2⟩ := x_115 (K := K) (d := d) (k := k) (x := x) (r := r) (M := rmk N z M) (J := J) (p := p) hP hN hb hp
  refine ⟨M1, m1, fun j j1 j2 => (m2 j j1 j2).trans ?_⟩
  rw [rmk_s j1, it_eq z1 z2 (by omega) (by omega), or_assoc]
  constructor
  · rintro (y | y | y)
    · exact Or.inl y
    · exact Or.inr (Or.inl y.1)
    · exact Or.inr (Or.inr y)
  · rintro (y | y | y)
    · exact Or.inl y
    · exact Or.inr (Or.inl ⟨y, j2⟩)
    · exact Or.inr (Or.inr y)
/-- one place -/
theorem x_50s {kx : Nat} (hP : PL w a) (hN : I a 6 = it N) (hb : N ≤ 1000) (hp : p < 200) (hpN : p < N) : ∃ M1 J1, f_78_50 K (kx + 1) (d + 2) a (it p) w (sm_up1 I (a + 4) M) J = f_78_50 K kx (d + 2) a (it ((p + 1 : Nat) : Int)) w (sm_up1 I (a + 4) M1) J1 ∧ (J1 = if M p = it 0 then sm_up2 J (a + 3) p 3125 else J) ∧ ∀ j, j < 200 → j < N → ((¬ M1 j = it 0) ↔ (¬ M j = it 0) ∨ (¬ M p = it 0 ∧ edI a I p j)) := by
  rw [f_78_50]
  have hN' : (sm_up1 I (a + 4) M) a 6 = it N := by rw [up1_n (by omega)]; exact hN
  simp only [it_lit, lt_p, gO_e hP.1, gV_e hP.2.2.2.2.2.2.2.2.2.2.1, gV_e hP.2.2.2.2.2.2.2.1, gV_e hP.2.2.2.2.2.2.2.2.2.1]
  rw [hN', if_neg (fun q => by have := (it_le (by omega) (by omega) (by omega) (by omega)).mp q; omega), if_neg (fun q => by have := (it_le (by omega) (by omega) (by omega) (by omega)).mp q; omega), gA_e hP.2.2.2.2.1 (Or.inl rfl) (ix (by omega) (by omega) (by omega)), it_n (by omega), up1_s, up1_n (show ¬ a + 1 = a + 4 by omega)]
  by_cases h : M p = it 0
  · rw [if_neg (fun y => y h), gA_e hP.2.2.2.1 (Or.inl rfl) (ix (by omega) (by omega) (by omega))]
    refine ⟨M, sm_up2 J (a + 3) p 3125, ?_, (if_pos h).symm, fun j _ _ => ⟨fun y => Or.inl y, fun y => by rcases y with y | y; exact y; exact absurd h y.1⟩⟩
    unfold f_78_134
    simp only [it_lit, lt_p, it_add]
    rw [show (p : Int) + 1 = ((p + 1 : Nat) : Int) by omega]
  · rw [if_pos h, gA_e hP.2.1 (Or.inl rfl) (ix (by omega) (by omega) (by omega))]
    by_cases h1 : I (a + 1) p = it 23 ∨ I (a + 1) p = it 24
    · obtain ⟨M1, m1, m2⟩ := x_105 (K := K) (d := d) (k := kx) (x := I (a + 1) p) (r := f_78_50 K kx (d + 2)) (M := M) (J := J) (p := p) hP hN hb hp
      refine ⟨M1, J, ?_, (if_neg h).symm, fun j j1 j2 => (m2 j j1 j2).trans ?_⟩
      · rw [← m1]
        by_cases h2 : I (a + 1) p = it 23
        · rw [if_pos h2]
        · rw [if_neg h2, if_neg (fun y => y (h1.resolve_left h2))]
      · unfold edI
        constructor
        · rintro (y | y | y)
          · exact Or.inl y
          · exact Or.inr ⟨h, Or.inl ⟨h1, y⟩⟩
          · exact Or.inr ⟨h, Or.inr y⟩
        · rintro (y | ⟨_, y | y⟩)
          · exact Or.inl y
          · exact Or.inr (Or.inl y.2)
          · exact Or.inr (Or.inr y)
    · obtain ⟨M1, m1, m2⟩ := x_115 (K := K) (d := d) (k := kx) (x := I (a + 1) p) (r := f_78_50 K kx (d + 2)) (M := M) (J := J) (p := p) hP hN hb hp
      refine ⟨M1, J, ?_, (if_neg h).symm, fun j j1 j2 => (m2 j j1 j2).trans ?_⟩
      · rw [← m1, if_neg (fun y => h1 (Or.inl y)), if_pos (fun y => h1 (Or.inr y))]
      · unfold edI
        constructor
        · rintro (y | y)
          · exact Or.inl y
          · exact Or.inr ⟨h, Or.inr y⟩
        · rintro (y | ⟨_, y | y⟩)
          · exact Or.inl y
          · exact absurd y.1 h1
          · exact Or.inr y
theorem x_50 (hP : PL w a) (hN : I a 6 = it N) (hb : N ≤ 1000) (hdp : Nat → Prop) : ∀ (m p kx : Nat) (M : Nat → Int32) (rc : Nat → Bool) (J : aJ), (p + m = N ∨ p + m = 200) → p + m ≤ N → p + m ≤ 200 → m < kx → (∀ j, j < 200 → j < N → ((¬ M j = it 0) ↔ hdp j ∨ ∃ y, y < p ∧ rc y = true ∧ edI a I y j)) →
    ∃ (M' : Nat → Int32) (rc' : Nat → Bool) (J' : aJ), f_78_50 K kx (d + 2) a (it p) w (sm_up1 I (a + 4) M) J = some (none, w, sm_up1 I (a + 4) M', J') ∧ (∀ b, ¬ b = a + 3 → J' b = J b) ∧ (∀ q, q < p → rc' q = rc q ∧ J' (a + 3) q = J (a + 3) q) ∧ ∀ q, p ≤ q → q < p + m → J' (a + 3) q = (if rc' q = true then J (a + 3) q else 3125) ∧ (rc' q = true ↔ hdp q ∨ ∃ y, y < q ∧ rc' y = true ∧ edI a I y q) := by
  intro m
  induction m with
  | zero =>
    intro p kx M rc J h1 h2 h3 hk hM
    obtain ⟨kx, rfl⟩ : ∃ k', kx = k' + 1 := ⟨kx - 1, by omega⟩
    refine ⟨M, rc, J, ?_, fun _ _ => rfl, fun _ _ => ⟨rfl, rfl⟩, fun q q1 q2 => by omega⟩
    rw [f_78_50]
    have hN' : (sm_up1 I (a + 4) M) a 6 = it N := by rw [up1_n (by omega)]; exact hN
    simp only [it_lit, lt_p, gO_e hP.1]
    rw [hN']
    by_cases z : N ≤ p
    · rw [if_pos ((it_le (by omega) (by omega) (by omega) (by omega)).mpr (by omega))]
    · rw [if_neg (fun q => by have := (it_le (by omega) (by omega) (by omega) (by omega)).mp q; omega), if_pos ((it_le (by omega) (by omega) (by omega) (by omega)).mpr (by omega))]
  | succ m ih =>
    intro p kx M rc J h1 h2 h3 hk hM
    obtain ⟨kx, rfl⟩ : ∃ k', kx = k' + 1 := ⟨kx - 1, by omega⟩
    obtain ⟨M1, J1, e1, e2, e3⟩ := x_50s (K := K) (d := d) (kx := kx) (M := M) (J := J) (p := p) hP hN hb (by omega) (by omega)
    have hb' : (decide (¬ M p = it 0) = true) ↔ ¬ M p = it 0 := decide_eq_true_iff
    obtain ⟨M', rc', J', f1, f2, f3, f4⟩ := ih (p + 1) kx M1 (sm_up1 rc p (decide (¬ M p = it 0))) J1 (by omega) (by omega) (by omega) (by omega) (fun j j1 j2 => by
      rw [e3 j j1 j2, hM j j1 j2]
      constructor
      · rintro ((y | ⟨y, y1, y2, y3⟩) | ⟨y1, y2⟩)
        · exact Or.inl y
        · exact Or.inr ⟨y, by omega, by rw [up1_n (by omega)]; exact y2, y3⟩
        · exact Or.inr ⟨p, by omega, by rw [up1_s]; exact hb'.mpr y1, y2⟩
      · rintro (y | ⟨y, y1, y2, y3⟩)
        · exact Or.inl (Or.inl y)
        · by_cases e : y = p
          · subst e
            rw [up1_s] at y2
            exact Or.inr ⟨hb'.mp y2, y3⟩
          · rw [up1_n e] at y2
            exact Or.inl (Or.inr ⟨y, by omega, y2, y3⟩))
    have old : ∀ q, q < p → rc' q = rc q := fun q hq => by rw [(f3 q (by omega)).1, up1_n (by omega)]
    have jo : ∀ q, ¬ q = p → J1 (a + 3) q = J (a + 3) q := fun q hq => by
      rw [e2]
      by_cases z : M p = it 0
      · rw [if_pos z, up2_r, up1_n hq]
      · rw [if_neg z]
    have now : rc' p = true ↔ ¬ M p = it 0 := by rw [(f3 p (by omega)).1, up1_s]; exact hb'
    refine ⟨M', rc', J', e1.trans f1, fun b hb => ?_, fun q hq => ⟨old q hq, ?_⟩, fun q q1 q2 => ?_⟩
    · rw [f2 b hb, e2]
      by_cases z : M p = it 0
      · rw [if_pos z, up2_n hb]
      · rw [if_neg z]
    · rw [(f3 q (by omega)).2, jo q (by omega)]
    · by_cases e : q = p
      · subst e
        refine ⟨?_, ?_⟩
        · rw [(f3 q (by omega)).2, e2]
          by_cases z : M q = it 0
          · rw [if_pos z, if_neg (fun y => now.mp y z), up2_r, up1_s]
          · rw [if_neg z, if_pos (now.mpr z)]
        · rw [now, hM q (by omega) (by omega)]
          constructor
          · rintro (y | ⟨y, y1, y2, y3⟩)
            · exact Or.inl y
            · exact Or.inr ⟨y, y1, by rw [old y y1]; exact y2, y3⟩
          · rintro (y | ⟨y, y1, y2, y3⟩)
            · exact Or.inl y
            · exact Or.inr ⟨y, y1, by rw [← old y y1]; exact y2, y3⟩
      · have := f4 q (by omega) (by omega)
        rw [jo q e] at this
        exact this
/-- the funs' first places -/
theorem x_24 (hP : PL w a) (hN : I a 6 = it N) (hb : N ≤ 1000) (h7 : I a 7 = it f) (f5 : f ≤ 5) : ∀ (m g kx : Nat) (M : Nat → Int32), g + m = f → m < kx → (∀ j, j < 200 → j < N → ((¬ M j = it 0) ↔ hdI a g I j)) →
    ∃ (M' : Nat → Int32), f_78_24 K kx (d + 2) a (it g) w (sm_up1 I (a + 4) M) J = f_78_50 K (kx - m - 1) (d + 2) a (it 0) w (sm_up1 I (a + 4) M') J ∧ ∀ j, j < 200 → j < N → ((¬ M' j = it 0) ↔ hdI a f I j) := by
  intro m
  induction m with
  | zero =>
    intro g kx M h1 hk hM
    obtain ⟨kx, rfl⟩ : ∃ k', kx = k' + 1 := ⟨kx - 1, by omega⟩
    have e : g = f := by omega
    subst e
    refine ⟨M, ?_, hM⟩
    rw [f_78_24]
    simp only [it_lit, lt_p, gO_e hP.1]
    rw [up1_n (show ¬ a = a + 4 by omega), h7, if_pos ((it_le (by omega) (by omega) (by omega) (by omega)).mpr (by omega))]
    rfl
  | succ m ih =>
    intro g kx M h1 hk hM
    obtain ⟨kx, rfl⟩ : ∃ k', kx = k' + 1 := ⟨kx - 1, by omega⟩
    obtain ⟨z, z1, z2, e⟩ := it_ex (I (a + 5) (4 * g))
    obtain ⟨M', m1, m2⟩ := ih (g + 1) kx (rmk N z M) (by omega) (by omega) (fun j j1 j2 => by
      rw [rmk_s j1, hM j j1 j2]
      unfold hdI
      constructor
      · rintro (⟨y, y1, y2⟩ | ⟨y1, y2⟩)
        · exact ⟨y, by omega, y2⟩
        · exact ⟨g, by omega, by rw [e, y1]⟩
      · rintro ⟨y, y1, y2⟩
        by_cases q : y = g
        · subst q
          rw [e] at y2
          exact Or.inr ⟨(it_eq z1 z2 (by omega) (by omega)).mp y2, j2⟩
        · exact Or.inl ⟨y, by omega, y2⟩)
    refine ⟨M', ?_, m2⟩
    rw [f_78_24]
    simp only [it_lit, lt_p, gO_e hP.1]
    rw [up1_n (show ¬ a = a + 4 by omega), h7, if_neg (fun q => by have := (it_le (by omega) (by omega) (by omega) (by omega)).mp q; omega)]
    obtain ⟨v, o1, o2⟩ := s_52g (K := K) (d := d + 1) (w := w) (a := a) (I := sm_up1 I (a + 4) M) (J := J) (x := it g) (k := 0) hP
    have o3 := o2 g (by omega) (by omega) rfl
    rw [up1_n (by omega)] at o3
    have o4 : v = I (a + 5) (4 * g) := o3
    rw [e] at o4
    have o1' : Cl K (d + 2) 52 [.ref a, .int (it g), .int (it 0)] w (sm_up1 I (a + 4) M) J = some (some (.int v), w, sm_up1 I (a + 4) M, J) := o1
    rw [o1', o4]
    simp only [cI_e, gO_e hP.1]
    rw [s_79 hP hN hb z1 z2]
    simp only [cV_e, it_add]
    rw [show (g : Int) + 1 = ((g + 1 : Nat) : Int) by omega, m1, show kx - m - 1 = kx + 1 - (m + 1) - 1 by omega]
/-- no mark at first -/
theorem x_2 (hP : PL w a) : ∀ (m i kx : Nat) (M : Nat → Int32), i + m = 200 → m < kx →
    ∃ (M' : Nat → Int32), f_78_2 K kx (d + 2) a (it i) w (sm_up1 I (a + 4) M) J = f_78_24 K (kx - m - 1) (d + 2) a (it 0) w (sm_up1 I (a + 4) M') J ∧ ∀ j, j < 200 → M' j = if i ≤ j then it 0 else M j := by
  intro m
  induction m with
  | zero =>
    intro i kx M h1 hk
    obtain ⟨kx, rfl⟩ : ∃ k', kx = k' + 1 := ⟨kx - 1, by omega⟩
    refine ⟨M, ?_, fun j hj => by rw [if_neg (by omega)]⟩
    rw [f_78_2]
    simp only [it_lit, lt_p]
    rw [if_pos ((it_le (by omega) (by omega) (by omega) (by omega)).mpr (by omega))]
    rfl
  | succ m ih =>
    intro i kx M h1 hk
    obtain ⟨kx, rfl⟩ : ∃ k', kx = k' + 1 := ⟨kx - 1, by omega⟩
    obtain ⟨M', m1, m2⟩ := ih (i + 1) kx (sm_up1 M i (it 0)) (by omega) (by omega)
    refine ⟨M', ?_, fun j hj => ?_⟩
    · rw [f_78_2]
      simp only [it_lit, lt_p, gO_e hP.1, gV_e hP.2.2.2.2.2.2.2.2.2.2.1]
      rw [if_neg (fun q => by have := (it_le (by omega) (by omega) (by omega) (by omega)).mp q; omega), gA_e hP.2.2.2.2.1 (Or.inl rfl) (ix (by omega) (by omega) (by omega)), it_n (by omega), up12]
      simp only [it_add]
      rw [show (i : Int) + 1 = ((i + 1 : Nat) : Int) by omega, m1, show kx - m - 1 = kx + 1 - (m + 1) - 1 by omega]
    · rw [m2 j hj]
      by_cases e : j = i
      · subst e
        rw [if_neg (by omega), if_pos (by omega), up1_s]
      · by_cases q : i ≤ j
        · rw [if_pos (by omega), if_pos q]
        · rw [if_neg (by omega), if_neg q, up1_n e]
theorem s_78 (hP : PL w a) (hN : I a 6 = it N) (hb : N ≤ 1000) (h7 : I a 7 = it f) (f5 : f ≤ 5) : ∃ (M : Nat → Int32) (rc : Nat → Bool) (J' : aJ), Cl K (d + 3) 78 [.ref a] w I J = some (none, w, sm_up1 I (a + 4) M, J') ∧ (∀ b, ¬ b = a + 3 → J' b = J b) ∧ ∀ q, q < N → q < 200 → J' (a + 3) q = (if rc q = true then J (a + 3) q else 3125) ∧ (rc q = true ↔ hdI a f I q ∨ ∃ y, y < q ∧ rc y = true ∧ edI a I y q) := by
  obtain ⟨kk, hkk⟩ : ∃ kk : Nat, kk = 1000 := ⟨1000, rfl⟩
  obtain ⟨M1, a1, a2⟩ := x_2 (K := K) (d := d) (w := w) (I := I) (J := J) hP 200 0 kk (I (a + 4)) (by omega) (by omega)
  obtain ⟨M2, b1, b2⟩ := x_24 (K := K) (d := d) (w := w) (J := J) hP hN hb h7 f5 f 0 (kk - 200 - 1) M1 (by omega) (by omega) (fun j j1 j2 => by
    rw [a2 j j1, if_pos (by omega)]
    exact ⟨fun y => absurd rfl y, fun ⟨y, y1, _⟩ => by omega⟩)
  obtain ⟨M3, rc, J', c1, c2, c3, c4⟩ := x_50 (K := K) (d := d) (w := w) hP hN hb (hdI a f I) (if N < 200 then N else 200) 0 (kk - 200 - 1 - f - 1) M2 (fun _ => false) J (by split <;> omega) (by split <;> omega) (by split <;> omega) (by split <;> omega) (fun j j1 j2 => by
    rw [b2 j j1 j2]
    exact ⟨fun y => Or.inl y, fun y => by rcases y with y | ⟨y, y1, _⟩; exact y; omega⟩)
  refine ⟨M3, rc, J', cl_78 (k := kk) ?_, c2, fun q q1 q2 => c4 q (by omega) (by split <;> omega)⟩
  unfold f_78
  have e : I = sm_up1 I (a + 4) (I (a + 4)) := by
    funext b
    by_cases h : b = a + 4
    · subst h; rw [up1_s]
    · rw [up1_n h]
  have a1' : f_78_2 K kk (d + 2) a (it 0) w (sm_up1 I (a + 4) (I (a + 4))) J = _ := a1
  simp only [it_lit]
  rw [← e] at a1'
  rw [a1']
  have b1' : f_78_24 K (kk - 200 - 1) (d + 2) a (it 0) w (sm_up1 I (a + 4) M1) J = _ := b1
  rw [b1']
  exact c1
end MRK

/-! the two constructors: cells one by one -/
/-- n cells are made, the first m pointers of P written, c strings; V: the ints -/
def CBd (K : Nat → Value) (P : List (Nat × Nat × Nat)) (B : Nat) (w0 : aW) (I0 : aI) (n m c : Nat) (V : Nat → Nat → Int32) (s : Nat) (w : aW) (I : aI) (J : aJ) : Prop :=
  w.2.2.1 = B + n ∧ w.2.2.2 = s ∧ (∀ i, i < n → w.1 (B + i) = layT.lookup i) ∧ (∀ e ∈ P.take m, e.1 < n ∧ w.2.1 (B + e.1) e.2.1 = some (B + e.2.2)) ∧ (∀ i, i < c → ∃ q, K (i + 2) = .ref q ∧ w.2.1 (B + 61) i = some q) ∧ (∀ i k, i < n → I (B + i) k = V i k) ∧ (∀ i k, i < n → J (B + i) k = 0) ∧ ∀ a, a < B → I a = I0 a ∧ w.1 a = w0.1 a ∧ w.2.1 a = w0.2.1 a
def CBdR (K : Nat → Value) (P : List (Nat × Nat × Nat)) (B : Nat) (w0 : aW) (I0 : aI) (n m c : Nat) (V : Nat → Nat → Int32) (s : Nat) (R : aR) : Prop := R.1 = none ∧ CBd K P B w0 I0 n m c V s R.2.1 R.2.2.1 R.2.2.2
def Fi (x : Option aR) (Q : aR → Prop) : Prop := ∃ R, x = some R ∧ Q R
section CON
variable {K : Nat → Value} {P : List (Nat × Nat × Nat)} {B d n m c s : Nat} {V : Nat → Nat → Int32} {w w0 : aW} {I I0 : aI} {J : aJ} {Q : aR → Prop}
theorem F_gC {p : Prop} [Decidable p] {x : Option aR} (hp : p) (g : Fi x Q) : Fi (gC p x) Q := by
  rw [gC_e hp]
  exact g
theorem F_ip {p : Prop} [Decidable p] {x y : Option aR} (hp : p) (g : Fi x Q) : Fi (if p then x else y) Q := by
  rw [if_pos hp]
  exact g
theorem F_in {p : Prop} [Decidable p] {x y : Option aR} (hp : ¬ p) (g : Fi y Q) : Fi (if p then x else y) Q := by
  rw [if_neg hp]
  exact g
theorem F_lt {α : Type} {v : α} {k : α → Option aR} (g : Fi (k v) Q) : Fi (lt_ v k) Q := g
theorem F_kR {v : Value} {q : Nat} {k : Nat → Option aR} (hv : v = .ref q) (g : Fi (k q) Q) : Fi (kR v k) Q := by
  rw [hv]
  exact g
theorem F_cI {o : Option aR} {x : Int32} {k : Int32 → aW → aI → aJ → Option aR} (h : o = some (some (.int x), w, I, J)) (g : Fi (k x w I J) Q) : Fi (cI o k) Q := by
  rw [h]
  exact g
theorem F_cl {x y : Option aR} (h : ∀ R, x = some R → y = some R) (g : Fi x Q) : Fi y Q := by
  obtain ⟨R, e, q⟩ := g
  exact ⟨R, h R e, q⟩
theorem F_ret (h : CBd K P B w0 I0 n m c V s w I J) : Fi (some (none, w, I, J)) (CBdR K P B w0 I0 n m c V s) := ⟨_, rfl, rfl, h⟩
theorem F_cV {o : Option aR} {k : aW → aI → aJ → Option aR} (h : Fi o (CBdR K P B w0 I0 n m c V s)) (g : ∀ w I J, CBd K P B w0 I0 n m c V s w I J → Fi (k w I J) Q) : Fi (cV o k) Q := by
  obtain ⟨⟨v, w, I, J⟩, e, hv, q⟩ := h
  have hv' : v = none := hv
  subst hv'
  rw [e]
  exact g w I J q
theorem CBd_al {t z zz : Nat} (h : CBd K P B w0 I0 n m c V s w I J) (hl : layT.lookup n = some (t, z)) (hV : ∀ k, V n k = 0) (hc : c = 0 ∨ 61 < n) : CBd K P B w0 I0 (n + 1) m c V (s + zz) (sm_alc w t z zz) (sm_up1 I (B + n) (fun _ => 0)) (sm_up1 J (B + n) (fun _ => 0)) := by
  obtain ⟨h1, h2, h3, h4, h5, h6, h7, h8⟩ := h
  have e1 : (sm_alc w t z zz).1 = sm_up1 w.1 (B + n) (some (t, z)) := by
    unfold sm_alc
    rw [h1]
  have e2 : (sm_alc w t z zz).2.1 = sm_up1 w.2.1 (B + n) (fun _ => none) := by
    unfold sm_alc
    rw [h1]
  refine ⟨?_, ?_, fun i hi => ?_, fun e he => ?_, fun i hi => ?_, fun i k hi => ?_, fun i k hi => ?_, fun a ha => ?_⟩
  · show w.2.2.1 + 1 = B + (n + 1)
    omega
  · show w.2.2.2 + zz = s + zz
    omega
  · rw [e1]
    by_cases q : i = n
    · rw [q, up1_s, hl]
    · rw [up1_n (by omega)]
      exact h3 i (by omega)
  · rw [e2]
    obtain ⟨a1, a2⟩ := h4 e he
    rw [up1_n (by omega)]
    exact ⟨by omega, a2⟩
  · obtain ⟨q, a1, a2⟩ := h5 i hi
    refine ⟨q, a1, ?_⟩
    rw [e2, up1_n (by omega)]
    exact a2
  · by_cases q : i = n
    · rw [q, up1_s]
      exact (hV k).symm
    · rw [up1_n (by omega)]
      exact h6 i k (by omega)
  · by_cases q : i = n
    · rw [q, up1_s]
    · rw [up1_n (by omega)]
      exact h7 i k (by omega)
  · rw [e1, e2, up1_n (by omega), up1_n (by omega), up1_n (by omega)]
    exact h8 a ha
theorem F_al {t z zz n' s' : Nat} {k : Nat → aW → aI → aJ → Option aR} (h : CBd K P B w0 I0 n m c V s w I J) (hl : layT.lookup n = some (t, z)) (hV : ∀ k, V n k = 0) (hc : c = 0 ∨ 61 < n) (hn : n' = n + 1) (hs : s' = s + zz) (g : ∀ w' I' J', CBd K P B w0 I0 n' m c V s' w' I' J' → Fi (k (B + n) w' I' J') Q) : Fi (lt_ w.2.2.1 fun q => lt_ (sm_alc w t z zz) fun w' => lt_ (sm_up1 I q (fun _ => 0)) fun I' => lt_ (sm_up1 J q (fun _ => 0)) fun J' => k q w' I' J') Q := by
  subst hn
  subst hs
  show Fi (k w.2.2.1 (sm_alc w t z zz) (sm_up1 I w.2.2.1 (fun _ => 0)) (sm_up1 J w.2.2.1 (fun _ => 0))) Q
  rw [h.1]
  exact g _ _ _ (CBd_al h hl hV hc)
theorem CBd_pr {i k j : Nat} (h : CBd K P B w0 I0 n m c V s w I J) (hi : i < n) (hp : P.take (m + 1) = P.take m ++ [(i, k, j)]) (hd : ∀ e ∈ P.take m, ¬ (e.1 = i ∧ e.2.1 = k)) (hc : c = 0 ∨ ¬ i = 61) : CBd K P B w0 I0 n (m + 1) c V s (w.1, sm_up2 w.2.1 (B + i) k (some (B + j)), w.2.2) I J := by
  obtain ⟨h1, h2, h3, h4, h5, h6, h7, h8⟩ := h
  refine ⟨h1, h2, h3, fun e he => ?_, fun x hx => ?_, h6, h7, fun a ha => ?_⟩
  · rw [hp, List.mem_append] at he
    show e.1 < n ∧ sm_up2 w.2.1 (B + i) k (some (B + j)) (B + e.1) e.2.1 = some (B + e.2.2)
    rcases he with he | he
    · obtain ⟨a1, a2⟩ := h4 e he
      refine ⟨a1, ?_⟩
      by_cases q : e.1 = i
      · rw [← q, up2_r, up1_n (fun q2 => hd e he ⟨q, q2⟩)]
        exact a2
      · rw [up2_n (by omega)]
        exact a2
    · rw [List.mem_singleton] at he
      subst he
      refine ⟨hi, ?_⟩
      rw [up2_r]
      exact up1_s _ _ _
  · obtain ⟨q, a1, a2⟩ := h5 x hx
    refine ⟨q, a1, ?_⟩
    show sm_up2 w.2.1 (B + i) k (some (B + j)) (B + 61) x = some q
    rw [up2_n (by omega)]
    exact a2
  · obtain ⟨a1, a2, a3⟩ := h8 a ha
    refine ⟨a1, a2, ?_⟩
    show sm_up2 w.2.1 (B + i) k (some (B + j)) a = _
    rw [up2_n (by omega)]
    exact a3
theorem F_pr {t z i k j m' : Nat} {kk : aW → Option aR} (h : CBd K P B w0 I0 n m c V s w I J) (hl : layT.lookup i = some (t, z)) (hi : i < n) (hp : P.take (m + 1) = P.take m ++ [(i, k, j)]) (hd : ∀ e ∈ P.take m, ¬ (e.1 = i ∧ e.2.1 = k)) (hc : c = 0 ∨ ¬ i = 61) (hm : m' = m + 1) (g : ∀ w', CBd K P B w0 I0 n m' c V s w' I J → Fi (kk w') Q) : Fi (gO w t (B + i) (lt_ (w.1, sm_up2 w.2.1 (B + i) k (some (B + j)), w.2.2) fun w' => kk w')) Q := by
  subst hm
  rw [gO_e ((h.2.2.1 i hi).trans hl)]
  exact g _ (CBd_pr h hi hp hd hc)
theorem F_ar {t z i k j m' : Nat} {x : Int32} {kk : aW → Option aR} (h : CBd K P B w0 I0 n m c V s w I J) (hl : layT.lookup i = some (t, z)) (hi : i < n) (hk : x.toNatClampNeg = k) (hx : ¬ (x < 0 ∨ z ≤ x.toNatClampNeg)) (hp : P.take (m + 1) = P.take m ++ [(i, k, j)]) (hd : ∀ e ∈ P.take m, ¬ (e.1 = i ∧ e.2.1 = k)) (hc : c = 0 ∨ ¬ i = 61) (hm : m' = m + 1) (g : ∀ w', CBd K P B w0 I0 n m' c V s w' I J → Fi (kk w') Q) : Fi (gA w t t (B + i) x (lt_ (w.1, sm_up2 w.2.1 (B + i) x.toNatClampNeg (some (B + j)), w.2.2) fun w' => kk w')) Q := by
  subst hm
  rw [gA_e ((h.2.2.1 i hi).trans hl) (Or.inl rfl) hx, hk]
  exact g _ (CBd_pr h hi hp hd hc)
theorem CBd_pi {i k : Nat} {x : Int32} (h : CBd K P B w0 I0 n m c V s w I J) : CBd K P B w0 I0 n m c (sm_up2 V i k x) s w (sm_up2 I (B + i) k x) J := by
  obtain ⟨h1, h2, h3, h4, h5, h6, h7, h8⟩ := h
  refine ⟨h1, h2, h3, h4, h5, fun a b ha => ?_, h7, fun a ha => ?_⟩
  · by_cases q : a = i
    · subst q
      rw [up2_r, up2_r]
      by_cases q2 : b = k
      · subst q2
        rw [up1_s, up1_s]
      · rw [up1_n q2, up1_n q2]
        exact h6 a b ha
    · rw [up2_n (by omega), up2_n q]
      exact h6 a b ha
  · rw [up2_n (by omega)]
    exact h8 a ha
theorem F_pi {t z i k : Nat} {x : Int32} {V' : Nat → Nat → Int32} {kk : aI → Option aR} (h : CBd K P B w0 I0 n m c V s w I J) (hl : layT.lookup i = some (t, z)) (hi : i < n) (hV : V' = sm_up2 V i k x) (g : ∀ I', CBd K P B w0 I0 n m c V' s w I' J → Fi (kk I') Q) : Fi (gO w t (B + i) (lt_ (sm_up2 I (B + i) k x) fun I' => kk I')) Q := by
  subst hV
  rw [gO_e ((h.2.2.1 i hi).trans hl)]
  exact g _ (CBd_pi h)
theorem up2_z {i k : Nat} (hz : V i k = 0) : sm_up2 V i k 0 = V := by
  funext a b
  rw [up2_a]
  by_cases q : a = i
  · subst q
    rw [if_pos rfl, up1_a]
    by_cases q2 : b = k
    · subst q2
      rw [if_pos rfl, hz]
    · rw [if_neg q2]
  · rw [if_neg q]
theorem F_p0 {t z i k : Nat} {kk : aI → Option aR} (h : CBd K P B w0 I0 n m c V s w I J) (hl : layT.lookup i = some (t, z)) (hi : i < n) (hz : V i k = 0) (g : ∀ I', CBd K P B w0 I0 n m c V s w I' J → Fi (kk I') Q) : Fi (gO w t (B + i) (lt_ (sm_up2 I (B + i) k 0) fun I' => kk I')) Q := by
  rw [gO_e ((h.2.2.1 i hi).trans hl)]
  have h' := CBd_pi (i := i) (k := k) (x := 0) h
  rw [up2_z hz] at h'
  exact g _ h'
theorem F_st {y c' : Nat} {x : Int32} {kk : aW → Option aR} (h : CBd K P B w0 I0 n m c V s w I J) (hn : 61 < n) (hO : ∀ i, i < 20 → ∃ q, K (i + 2) = .ref q ∧ sm_isS K q = true) (hc : c < 20) (hy : y = c + 2) (hk : x.toNatClampNeg = c) (hx : ¬ (x < 0 ∨ 20 ≤ x.toNatClampNeg)) (hd : ∀ e ∈ P.take m, ¬ e.1 = 61) (hc' : c' = c + 1) (g : ∀ w', CBd K P B w0 I0 n m c' V s w' I J → Fi (kk w') Q) : Fi (kR (K y) fun q => gC (sm_isE K w 15 q = true) (gA w 15 15 (B + 61) x (lt_ (w.1, sm_up2 w.2.1 (B + 61) x.toNatClampNeg (some q), w.2.2) fun w' => kk w'))) Q := by
  subst hc'
  subst hy
  obtain ⟨q, k1, k2⟩ := hO c hc
  refine F_kR k1 (F_gC (show sm_isE K w 15 q = true from k2) ?_)
  rw [gA_e ((h.2.2.1 61 hn).trans (show layT.lookup 61 = some (15, 20) from rfl)) (Or.inl rfl) hx, hk]
  refine g _ ?_
  obtain ⟨h1, h2, h3, h4, h5, h6, h7, h8⟩ := h
  refine ⟨h1, h2, h3, fun e he => ?_, fun a ha => ?_, h6, h7, fun a ha => ?_⟩
  · obtain ⟨a1, a2⟩ := h4 e he
    have := hd e he
    refine ⟨a1, ?_⟩
    show sm_up2 w.2.1 (B + 61) c (some q) (B + e.1) e.2.1 = _
    rw [up2_n (by omega)]
    exact a2
  · show ∃ q', K (a + 2) = .ref q' ∧ sm_up2 w.2.1 (B + 61) c (some q) (B + 61) a = some q'
    rw [up2_r]
    by_cases e : a = c
    · subst e
      exact ⟨q, k1, up1_s _ _ _⟩
    · obtain ⟨q', b1, b2⟩ := h5 a (by omega)
      exact ⟨q', b1, by rw [up1_n e]; exact b2⟩
  · obtain ⟨a1, a2, a3⟩ := h8 a ha
    refine ⟨a1, a2, ?_⟩
    show sm_up2 w.2.1 (B + 61) c (some q) a = _
    rw [up2_n (by omega)]
    exact a3
/-! the words of the class, out of their string -/
def kwS (bs : List Int32) : Nat → Nat → Nat → Int32 → (Nat → Int32) → Nat → Int32
  | 0, _, _, _, U => U
  | r + 1, j, k, u, U => if k = 20 then U else if bs.getD j 0 = 32 then kwS bs r (j + 1) (k + 1) 0 (sm_up1 U k u) else kwS bs r (j + 1) k ((((u * 32) + bs.getD j 0) - 97) + 1) U
def kwV (U : Nat → Int32) : Nat → Nat → Int32 := fun i k => if i = 7 then U k else 0
theorem kwV_u {U : Nat → Int32} {k : Nat} {u : Int32} : kwV (sm_up1 U k u) = sm_up2 (kwV U) 7 k u := by
  funext a b
  by_cases q : a = 7
  · subst q
    rfl
  · rw [up2_n q]
    show (if a = 7 then sm_up1 U k u b else 0) = (if a = 7 then U b else 0)
    rw [if_neg q, if_neg q]
theorem it_s1 (k : Nat) : it (k : Int) + 1 = it ((k + 1 : Nat) : Int) := by
  have e : (1 : Int32) = it 1 := by decide
  exact (congrArg (fun z => it (k : Int) + z) e).trans ((it_add (k : Int) 1).trans (congrArg it (by omega)))
theorem kw_loop (hO : StO K B w0 I0) (hn : 7 < n) (hp : ((3, 3, 7) : Nat × Nat × Nat) ∈ P.take m) : ∀ (r j k : Nat) (u : Int32) (U : Nat → Int32) (w : aW) (I : aI) (J : aJ), j + r = 95 → k ≤ 20 → CBd K P B w0 I0 n m c (kwV U) s w I J → Fi (f_3_60 K (r + 1) (d + 4) (B + 3) (it (k : Int)) u (it (j : Int)) w I J) (CBdR K P B w0 I0 n m c (kwV (kwS (gsb.getD 0 []) r j k u U)) s) := by
  intro r
  induction r with
  | zero =>
    intro j k u U w I J hj hk h
    have hO' : StO K B w I := StO_c (fun a ha => h.2.2.2.2.2.2.2 a ha) hO
    obtain ⟨a, v, k0, ka, kv, p0, t0, b0⟩ := hO'.1 0 (by omega)
    have hS : sm_isS K a = true := isS_i (i := 0) (by omega) k0
    have t0' : w.1 v = some (21, 95) := t0
    rw [f_3_60]
    refine F_lt (F_kR k0 (F_gC hS (F_cI (s_4 (d := d + 2) hO.2.2.2 hS p0 t0') ?_)))
    rw [kwS]
    exact F_ip ((it_le (by omega) (by omega) (by omega) (by omega)).mpr (by omega)) (F_ret h)
  | succ r ih =>
    intro j k u U w I J hj hk h
    have hO' : StO K B w I := StO_c (fun a ha => h.2.2.2.2.2.2.2 a ha) hO
    obtain ⟨a, v, k0, ka, kv, p0, t0, b0⟩ := hO'.1 0 (by omega)
    have hS : sm_isS K a = true := isS_i (i := 0) (by omega) k0
    have t0' : w.1 v = some (21, 95) := t0
    have hl : (gsb.getD 0 []).length = 95 := rfl
    rw [f_3_60]
    refine F_lt (F_kR k0 (F_gC hS (F_cI (s_4 (d := d + 2) hO.2.2.2 hS p0 t0') ?_)))
    refine F_in (fun q => by have := (it_le (by omega) (by omega) (by omega) (by omega)).mp q; omega) ?_
    rw [kwS]
    by_cases e20 : k = 20
    · rw [if_pos e20]
      refine F_ip ?_ (F_ret h)
      rw [e20]
      decide +kernel
    · rw [if_neg e20]
      refine F_in (fun q => by rw [show (20 : Int32) = it 20 by decide] at q; have := (it_le (by omega) (by omega) (by omega) (by omega)).mp q; omega) ?_
      obtain ⟨x, x1, x2⟩ := gsb_v (i := 0) (j := j) (by omega) (by omega)
      have hx : I v j = it x := (b0 j (by omega)).trans x2
      have c6 := s_6 (d := d) (J := J) hO.2.2.1 hO.2.2.2 hS p0 t0' (j := j) (by omega) (by omega) hx (by omega)
      refine F_kR k0 (F_gC hS (F_cI c6 ?_))
      rw [x2]
      by_cases e32 : it (x : Int) = 32
      · rw [if_pos e32]
        refine F_in (fun q => q e32) ?_
        have p7 : w.2.1 (B + 3) 3 = some (B + 7) := (h.2.2.2.1 _ hp).2
        rw [gO_e ((h.2.2.1 3 (by omega)).trans (show layT.lookup 3 = some (4, 0) from rfl)), gV_e p7, gA_e ((h.2.2.1 7 (by omega)).trans (show layT.lookup 7 = some (10, 20) from rfl)) (Or.inl rfl) (ix (by omega) (by omega) (by omega)), it_n (by omega)]
        refine F_lt (F_lt ?_)
        unfold f_3_112
        refine F_lt ?_
        rw [it_s1, it_s1]
        have h' := CBd_pi (i := 7) (k := k) (x := u) h
        rw [← kwV_u] at h'
        exact ih (j + 1) (k + 1) 0 (sm_up1 U k u) w _ J (by omega) (by omega) h'
      · rw [if_neg e32]
        refine F_ip e32 ?_
        refine F_kR k0 (F_gC hS (F_cI c6 ?_))
        refine F_cI (x := (((u * 32) + it (x : Int)) - 97) + 1) (w := w) (I := I) (J := J) (cl_11 (k := 0) (by unfold f_11; rfl)) ?_
        unfold f_3_112
        refine F_lt ?_
        rw [it_s1]
        exact ih (j + 1) k _ U w I J (by omega) hk h
theorem kw_run (hO : StO K B w0 I0) (hn : 7 < n) (hp : ((3, 3, 7) : Nat × Nat × Nat) ∈ P.take m) (h : CBd K P B w0 I0 n m c (kwV (fun _ => 0)) s w I J) : Fi (f_3_60 K 96 (d + 4) (B + 3) 0 0 0 w I J) (CBdR K P B w0 I0 n m c (kwV (kwS (gsb.getD 0 []) 95 0 0 0 (fun _ => 0))) s) := by
  have g := kw_loop (d := d) hO hn hp 95 0 0 0 (fun _ => 0) w I J (by omega) (by omega) h
  rw [show it ((0 : Nat) : Int) = 0 by decide] at g
  exact g
end CON

/-! constants, brackets, names -/
/-- what a construct leaves, at one place -/
def Cnc (B a : Nat) (bs : Nat → Nat) (t n : Nat) (pd dp : Int) (w : aW) (f : Nat) (fa : Nat → Nat → Nat) (X M : Option aR) (s b c sl : Nat) (G : gG) (Q : Prop) (Ix : aI) (Jx : aJ) (wm : aW) (Im : aI) (Jm : aJ) : Prop :=
  ∃ (c' r' : Nat) (G' : gG) (τ : Nat) (ty : Int32) (Ix' : aI) (Jx' : aJ) (wm' : aW) (Im' : aI) (Jm' : aJ), X = some (none, w, Ix', Jx') ∧ M = some (some (.int ty), wm', Im', Jm') ∧ FEx B a Ix Jx Ix' Jx' ∧ FMx B wm.2.2.1 Im Jm Im' Jm' ∧ WG' wm wm' (c' - c) ∧ c ≤ c' ∧ (r' = 0 → c < c') ∧ (kX bs t c 0 = 3 → c' = c ∧ r' = 1) ∧ JS B a bs t n pd dp c' r' s sl G' (Q ∧ Ext fa f G G' τ b ∧ τ ≤ 3 ∧ ty = it τ) Ix' Jx' Im'
section ONE
variable {K : Nat → Value} {B d e a : Nat} {w wm : aW} {Ix Im I : aI} {Jx Jm J : aJ} {bs : Nat → Nat} {t n c r s sl : Nat} {pd dp : Int} {G : gG} {Q gd : Prop} {f cnt : Nat} {vn ln : Nat → Nat} {fa : Nat → Nat → Nat}
/-- a place that takes nothing, and the next token; the reference in both orders -/
theorem JS_en {o g τ : Nat} {gx gm : Int32} (ha : a = B + 8 ∨ a = B + 22) (hX : TX bs t n) (H : Lay B w) (hp : w.2.1 (B + 2) 1 = some a) (hS : SM K B wm Im) (h : JS B a bs t n pd dp c 0 s sl G Q Ix Jx Im) (h0 : ¬ kX bs t c 0 = 0) (h3 : ¬ kX bs t c 0 = 3) (hQ : Q → gx = it g ∧ gm = it g ∧ (G.2.2.2 G.1).length < 125) (τ3 : τ ≤ 3) :
    ∃ Ix1 Jx1 Ix2, Cl K (d + 2) 58 [.ref (B + 2), .int (it o), .int gx, .int (it ((0 : Nat) : Int)), .int (it τ)] w Ix Jx = some (none, w, Ix1, Jx1) ∧ Cl K (d + 2) 42 [.ref (B + 3)] w Ix1 Jx1 = some (none, w, Ix2, Jx1) ∧ FEx B a Ix Jx Ix2 Jx1
      ∧ (∃ Im1 Im2, Cl K (e + 6) 111 [.ref (B + 46), .int (it o), .int gm] wm Im Jm = some (none, wm, Im1, Jm) ∧ Cl K (e + 6) 84 [.ref (B + 46)] wm Im1 Jm = some (none, wm, Im2, Jm) ∧ FMx B wm.2.2.1 Im Jm Im2 Jm ∧ JS B a bs t n pd dp (c + 1) 0 s sl (gE1 G o g (τ :: G.2.2.2 G.1)) Q Ix2 Jx1 Im2)
      ∧ (∃ Im1 Im2, Cl K (e + 6) 84 [.ref (B + 46)] wm Im Jm = some (none, wm, Im1, Jm) ∧ Cl K (e + 6) 111 [.ref (B + 46), .int (it o), .int gm] wm Im1 Jm = some (none, wm, Im2, Jm) ∧ FMx B wm.2.2.1 Im Jm Im2 Jm ∧ JS B a bs t n pd dp (c + 1) 0 s sl (gE1 G o g (τ :: G.2.2.2 G.1)) Q Ix2 Jx1 Im2) := by
  have hn := hX.2.1
  obtain ⟨h, Nx, Nm, nfx, nfm, tfx, tfm, x, m, b1, b2, f⟩ := h
  have hc := x.1.2.2.2.1
  obtain ⟨_, hcn, _⟩ := kX_n hX hc rfl h0 h3
  obtain ⟨Ix1, Jx1, y1, z1, z2, z3, z4, z5, z6⟩ := s_58 (K := K) (d := d) (J := Jx) (o := it o) (g := gx) (ty := it τ) (k := 0) (b := true) ha H hp x (by omega) (by omega) ⟨fun _ => (fun q => by have := (it_eq (by omega) (by omega) (by omega) (by omega)).mp q; omega), fun _ => rfl⟩
  obtain ⟨Ix2, v1, v2, v3⟩ := s_42k (K := K) (d := d + 1) (J := Jx1) hX H z2.1 rfl h0 h3
  have fin : ∀ Im2, ME B bs t n (c + 1) 0 s (Nm + 1) nfm tfm Im2 → (∀ p, p < 300 → Im2 (B + 56) p = (if p = Nm then it o else Im (B + 56) p) ∧ Im2 (B + 57) p = (if p = Nm then gm else Im (B + 57) p)) → JS B a bs t n pd dp (c + 1) 0 s sl (gE1 G o g (τ :: G.2.2.2 G.1)) Q Ix2 Jx1 Im2 := by
    intro Im2 hM hc2
    refine ⟨_, _, _, _, _, _, _, XE_3 ha z2 v3 v2, hM, by omega, by omega, fun r0 => ⟨(f r0).1, (f r0).2.imp id ?_⟩⟩
    rintro ⟨⟨g1, g2, g3, g4, g5, g6, g7, g8⟩, hq⟩
    obtain ⟨q1, q2, q3⟩ := hQ hq
    have c1 := g7.1
    subst g5
    obtain ⟨w1, w2⟩ := CX_e (I' := Ix1) (J' := Jx1) (oo := o) (gg := g) (pre := []) (rest := G.2.2.2 G.1) (k := 0) g7 rfl rfl rfl q1 z3 z4 z5
    have hh : hE h 0 true = h - 0 + 1 := by unfold hE; rw [if_pos rfl, if_pos (by omega)]
    have z6' := z6 rfl (by omega)
    obtain ⟨u1, u2, u3, u4⟩ := w2 τ τ3 z6'.1 z6'.2
    refine ⟨⟨g1, g2, g3, g4, rfl, by show Nm + 1 = G.1 + 1; rw [g6], ?_, ?_⟩, hq⟩
    · rw [hh]
      exact ⟨u1, by rw [v3 (B + 17) (by omega)]; exact u2, u3, by rw [v3 (a + 1) (by omega), v3 (a + 2) (by omega)]; exact u4⟩
    · intro pp p1 p2
      obtain ⟨i1, i2⟩ := hc2 pp p2
      rw [i1, i2]
      show (if pp = Nm then it o else Im (B + 56) pp) = it (sm_up1 G.2.1 G.1 o pp : Nat) ∧ (if pp = Nm then gm else Im (B + 57) pp) = it (sm_up1 G.2.2.1 G.1 g pp : Nat)
      rw [g6]
      by_cases e : pp = G.1
      · rw [if_pos e, if_pos e, e, up1_s, up1_s]; exact ⟨rfl, q2⟩
      · rw [if_neg e, if_neg e, up1_n e, up1_n e]
        exact g8 pp (by have : pp < G.1 + 1 := p1; omega) p2
  refine ⟨Ix1, Jx1, Ix2, y1, v1, FEx_t z1 (FX3_E ha v3), ?_, ?_⟩
  · obtain ⟨Im1, u1, u2, u3, u4⟩ := s_111 (K := K) (d := e + 5) (J := Jm) (o := it o) (g := gm) (m := wm.2.2.1) hS.1 m (by omega)
    have hS1 := SM_f (WG_r (k := 0)) u2 hS
    obtain ⟨Im2, m1, m2, m3⟩ := s_84k (K := K) (d := e) (J := Jm) hX hS.1 hS1.2.1 hS1.2.2.1 u3.1 hcn
    exact ⟨Im1, Im2, u1, m1, FMx_t (Nat.le_refl _) u2 (FMx_6 (m := wm.2.2.1) m2), fin Im2 (ME_6 u3 m2 m3) (fun p hp => by rw [m2.1 (B + 56) (by omega), m2.1 (B + 57) (by omega)]; exact u4 p hp)⟩
  · obtain ⟨Im1, m1, m2, m3⟩ := s_84k (K := K) (d := e) (J := Jm) hX hS.1 hS.2.1 hS.2.2.1 m.1 hcn
    obtain ⟨Im2, u1, u2, u3, u4⟩ := s_111 (K := K) (d := e + 5) (J := Jm) (o := it o) (g := gm) (m := wm.2.2.1) hS.1 (ME_6 m m2 m3) (by omega)
    exact ⟨Im1, Im2, m1, u1, FMx_t (Nat.le_refl _) (FMx_6 m2) u2, fin Im2 u3 (fun p hp => by rw [← m2.1 (B + 56) (by omega), ← m2.1 (B + 57) (by omega)]; exact u4 p hp)⟩
/-- the reference sees a number -/
theorem m_sort (hX : TX bs t n) (hT : MR B bs t n c 0 I) : ∃ z : Int, I (B + 46) 24 = it z ∧ 0 ≤ z ∧ z ≤ 5 ∧ (z = 3 ↔ kX bs t c 0 = 2) ∧ (z = 1 ↔ kX bs t c 0 = 1) := by
  obtain ⟨hM, h26, hr, hc, h22, hT⟩ := hT
  obtain ⟨g1, g2, s, kk, g3, g4, g5, g6, g7, g8, hS⟩ := hT rfl
  refine ⟨s, g3, g7, g8, ?_⟩
  have hkx : kX bs t c 0 = kdo bs t (tst bs t c) := by unfold kX tkd; rw [if_pos rfl]
  rw [hkx]
  rcases hS with ⟨a1, a2⟩ | ⟨a1, a2⟩ | ⟨rr, a0, a1, a2, a3⟩ | ⟨a1, a2⟩ | ⟨a1, a2⟩ | ⟨a1, a2, a3⟩
  · omega
  · omega
  · have := cvt_b a0; omega
  · omega
  · omega
  · have := sgs_k a1; omega
theorem num_l (h : tkd bs t c = 2) : tst bs t c < t ∧ lxe bs t (tst bs t c) - tst bs t c ≤ 5 ∧ tvl bs t c = num bs (tst bs t c) (lxe bs t (tst bs t c) - tst bs t c) ∧ (∀ i, tst bs t c ≤ i → i < lxe bs t (tst bs t c) → isD (bs i)) ∧ lxe bs t (tst bs t c) ≤ t ∧ tst bs t c ≤ lxe bs t (tst bs t c) := by
  unfold tkd kdo at h
  by_cases h1 : t ≤ tst bs t c
  · rw [if_pos h1] at h; omega
  · rw [if_neg h1] at h
    have hlx := lxe_b (bs := bs) (t := t) (p := tst bs t c) (by omega)
    by_cases h2 : isL (bs (tst bs t c))
    · rw [if_pos h2] at h
      have := kix_b (rl bs (tst bs t c) (lxe bs t (tst bs t c) - tst bs t c)) kyl 256
      split at h <;> omega
    · rw [if_neg h2] at h
      by_cases h4 : isD (bs (tst bs t c))
      · rw [if_pos h4] at h
        by_cases h5 : lxe bs t (tst bs t c) - tst bs t c ≤ 5
        · refine ⟨by omega, h5, ?_, fun i i1 i2 => ?_, hlx.2, by omega⟩
          · unfold tvl vlo
            rw [if_neg h1, if_neg h2, if_pos h4, if_pos h5]
          · have e : lxe bs t (tst bs t c) = spn bs 48 57 (t - tst bs t c) (tst bs t c) := by unfold lxe; rw [if_neg h1, if_neg h2, if_pos h4]
            rw [e] at i2
            exact spn_in bs 48 57 _ _ i i1 i2
        · rw [if_neg h5] at h; omega
      · rw [if_neg h4] at h
        split at h
        · have := sgs_b _ (by assumption); omega
        · omega
/-- the reference reads a number -/
theorem m_112d {dy p q : Nat} {R : aR} (H : Lay B wm) (hM : MTp B bs t Im) (ht : t ≤ 240) (h23 : Im (B + 46) 23 = it q) (hq : q ≤ t) (hd : ∀ i, p ≤ i → i < q → isD (bs i)) (h5 : q - p ≤ 5) : ∀ (m p' kf : Nat), p' + m = q → p ≤ p' → m < kf →
    (∀ {Im1 Im2 : aI}, Cl K (dy + 8) 84 [.ref (B + 46)] wm Im Jm = some (none, wm, Im1, Jm) → Cl K (dy + 8) 111 [.ref (B + 46), .int (it 0), .int (it (num bs p (q - p) : Nat))] wm Im1 Jm = some (none, wm, Im2, Jm) → f_112_22 K kf (dy + 8) (B + 46) (it (num bs p (p' - p) : Nat)) (it p') wm Im Jm = some (some (.int (it 0)), wm, Im2, Jm)) := by
  intro m
  induction m with
  | zero =>
    intro p' kf h1 h2 h3 Im1 Im2 e1 e2
    obtain ⟨kf, rfl⟩ : ∃ k', kf = k' + 1 := ⟨kf - 1, by omega⟩
    have : p' = q := by omega
    subst this
    rw [f_112_22]
    simp only [it_lit, lt_p, gO_e (yt46 H)]
    rw [h23, if_pos ((it_le (by omega) (by omega) (by omega) (by omega)).mpr (by omega)), e1]
    simp only [cV_e, gO_e (yt46 H)]
    rw [e2]
    rfl
  | succ m ih =>
    intro p' kf h1 h2 h3 Im1 Im2 e1 e2
    obtain ⟨kf, rfl⟩ : ∃ k', kf = k' + 1 := ⟨kf - 1, by omega⟩
    have hb := num_b (bs := bs) (p := p) (p' - p) (fun i i1 i2 => hd i i1 (by omega))
    have h10 : 10 ^ (p' - p) ≤ 10 ^ 5 := Nat.pow_le_pow_right (by omega) (by omega)
    have hdd := hd p' h2 (by omega)
    have hpt : p' < t := by omega
    rw [f_112_22]
    simp only [it_lit, lt_p, gO_e (yt46 H), gV_e (yp46_1 H)]
    rw [h23, if_neg (fun q => by have := (it_le (by omega) (by omega) (by omega) (by omega)).mp q; omega), gA_e (yt48 H) (Or.inl rfl) (ix (by omega) (by omega) (by omega)), it_n (by omega), (hM.2 _ hpt).2]
    simp only [it_mul, it_add, it_sub]
    have := ih (p' + 1) kf (by omega) (by omega) (by omega) e1 e2
    have en : num bs p (p' + 1 - p) = num bs p (p' - p) * 10 + (bs p' - 48) := by
      rw [show p' + 1 - p = (p' - p) + 1 by omega, num, show p + (p' - p) = p' by omega]
    rw [en] at this
    rw [show (10 * ((num bs p (p' - p) : Nat) : Int) + ((bs p' : Nat) : Int) - 48) = ((num bs p (p' - p) * 10 + (bs p' - 48) : Nat) : Int) by omega]
    exact this
end ONE

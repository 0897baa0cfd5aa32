/-! constants -/
section ONE
variable {K : Nat → Value} {B d e a : Nat} {w wm : aW} {Ix Im I : aI} {Jx Jm J : aJ} {bs : Nat → Nat} {t n c r s sl b : Nat} {pd dp : Int} {G : gG} {Q gd : Prop} {f cnt : Nat} {vn ln : Nat → Nat} {fa : Nat → Nat → Nat}
theorem O_fin {o g τ : Nat} {X M : Option aR} {Ix2 Im2 : aI} {Jx1 : aJ} (hJ : JS B a bs t n pd dp (c + 1) 0 s sl (gE1 G o g (τ :: G.2.2.2 G.1)) Q Ix2 Jx1 Im2) (h1 : X = some (none, w, Ix2, Jx1)) (h2 : M = some (some (.int (it τ)), wm, Im2, Jm)) (h3 : FEx B a Ix Jx Ix2 Jx1) (h4 : FMx B wm.2.2.1 Im Jm Im2 Jm) (hf : Q → gEf fa f o g (G.2.2.2 G.1) (τ :: G.2.2.2 G.1)) (ho : o ≤ 20) (hg : g ≤ 99999) (τ3 : τ ≤ 3) (hk : ¬ kX bs t c 0 = 3) : Cnc B a bs t n pd dp w f fa X M s b c sl G Q Ix Jx wm Im Jm :=
  ⟨c + 1, 0, _, τ, it τ, Ix2, Jx1, wm, Im2, Jm, h1, h2, h3, h4, WG_r, by omega, fun _ => by omega, fun z => absurd z hk, JS_m (fun z => ⟨z, Ext_b (by omega) (Ext_1 (hf z) ho hg), τ3, rfl⟩) (Nat.le_refl _) hJ⟩
theorem x_72 {dx k o τ : Nat} {gx : Int32} {Ix1 Ix2 : aI} {Jx1 : aJ} (hX : TX bs t n) (H : Lay B w) (hXT : XT B bs t n c 0 Ix) (hk : kX bs t c 0 = k) (hc : (k = 2 ∧ o = 0 ∧ gx = it (tvl bs t c : Nat) ∧ τ = 0) ∨ (k = 266 ∧ o = 1 ∧ gx = it 1 ∧ τ = 1) ∨ (k = 267 ∧ o = 1 ∧ gx = it 0 ∧ τ = 1) ∨ (k = 268 ∧ o = 2 ∧ gx = it 0 ∧ τ = 3)) (h1 : Cl K (dx + 3) 58 [.ref (B + 2), .int (it o), .int gx, .int (it ((0 : Nat) : Int)), .int (it τ)] w Ix Jx = some (none, w, Ix1, Jx1)) (h2 : Cl K (dx + 3) 42 [.ref (B + 3)] w Ix1 Jx1 = some (none, w, Ix2, Jx1)) : Cl K (dx + 4) 72 [.ref (B + 2)] w Ix Jx = some (none, w, Ix2, Jx1) := by
  have hkb := kX_b (bs := bs) (t := t) (c := c) (r := 0)
  have tail : f_72_105 K 0 (dx + 3) (B + 2) w Ix1 Jx1 = some (none, w, Ix2, Jx1) := by
    unfold f_72_105
    simp only [gO_e (yt2 H), gV_e (yp2_0 H), gO_e (yt3 H)]
    rw [h2]
    rfl
  apply cl_72 (k := 0)
  unfold f_72
  simp only [it_lit, gO_e (yt2 H), gV_e (yp2_0 H), gO_e (yt3 H)]
  rw [s_37 (d := dx + 2) H hXT hX.2.1]
  simp only [cI_e, gO_e (yt2 H), gV_e (yp2_0 H), gO_e (yt3 H)]
  rcases hc with ⟨e1, e2, e3, e4⟩ | ⟨e1, e2, e3, e4⟩ | ⟨e1, e2, e3, e4⟩ | ⟨e1, e2, e3, e4⟩
  · subst e2 e3 e4
    rw [if_pos (show it (kX bs t c 0 : Nat) = it 2 by rw [hk, e1]; rfl), s_46 (d := dx + 2) H hXT hX.2.1]
    simp only [cI_e, gO_e (yt2 H)]
    have h1' : Cl K (dx + 3) 58 [.ref (B + 2), .int (it 0), .int (it (tvl bs t c : Nat)), .int (it 0), .int (it 0)] w Ix Jx = some (none, w, Ix1, Jx1) := h1
    rw [h1']
    exact tail
  · subst e2 e3 e4
    rw [if_neg (show ¬ it (kX bs t c 0 : Nat) = it 2 from (fun q => by have := (it_eq (by omega) (by omega) (by omega) (by omega)).mp q; omega)), if_pos (show it (kX bs t c 0 : Nat) = it 266 by rw [hk, e1]; rfl)]
    have h1' : Cl K (dx + 3) 58 [.ref (B + 2), .int (it 1), .int (it 1), .int (it 0), .int (it 1)] w Ix Jx = some (none, w, Ix1, Jx1) := h1
    rw [h1']
    exact tail
  · subst e2 e3 e4
    rw [if_neg (show ¬ it (kX bs t c 0 : Nat) = it 2 from (fun q => by have := (it_eq (by omega) (by omega) (by omega) (by omega)).mp q; omega)), if_neg (show ¬ it (kX bs t c 0 : Nat) = it 266 from (fun q => by have := (it_eq (by omega) (by omega) (by omega) (by omega)).mp q; omega)), if_pos (show it (kX bs t c 0 : Nat) = it 267 by rw [hk, e1]; rfl)]
    have h1' : Cl K (dx + 3) 58 [.ref (B + 2), .int (it 1), .int (it 0), .int (it 0), .int (it 1)] w Ix Jx = some (none, w, Ix1, Jx1) := h1
    rw [h1']
    exact tail
  · subst e2 e3 e4
    rw [if_neg (show ¬ it (kX bs t c 0 : Nat) = it 2 from (fun q => by have := (it_eq (by omega) (by omega) (by omega) (by omega)).mp q; omega)), if_neg (show ¬ it (kX bs t c 0 : Nat) = it 266 from (fun q => by have := (it_eq (by omega) (by omega) (by omega) (by omega)).mp q; omega)), if_neg (show ¬ it (kX bs t c 0 : Nat) = it 267 from (fun q => by have := (it_eq (by omega) (by omega) (by omega) (by omega)).mp q; omega)), if_pos (show it (kX bs t c 0 : Nat) = it 268 by rw [hk, e1]; rfl)]
    have h1' : Cl K (dx + 3) 58 [.ref (B + 2), .int (it 2), .int (it 0), .int (it 0), .int (it 3)] w Ix Jx = some (none, w, Ix1, Jx1) := h1
    rw [h1']
    exact tail
theorem x_72r {dx : Nat} {Ix1 Ix2 : aI} (hX : TX bs t n) (H : Lay B w) (hXT : XT B bs t n c 0 Ix) (hk : ¬ kX bs t c 0 = 2 ∧ ¬ kX bs t c 0 = 266 ∧ ¬ kX bs t c 0 = 267 ∧ ¬ kX bs t c 0 = 268) (h1 : Cl K (dx + 3) 43 [.ref (B + 3)] w Ix Jx = some (none, w, Ix1, Jx)) (h2 : Cl K (dx + 3) 42 [.ref (B + 3)] w Ix1 Jx = some (none, w, Ix2, Jx)) : Cl K (dx + 4) 72 [.ref (B + 2)] w Ix Jx = some (none, w, Ix2, Jx) := by
  have hkb := kX_b (bs := bs) (t := t) (c := c) (r := 0)
  apply cl_72 (k := 0)
  unfold f_72
  simp only [it_lit, gO_e (yt2 H), gV_e (yp2_0 H), gO_e (yt3 H)]
  rw [s_37 (d := dx + 2) H hXT hX.2.1]
  simp only [cI_e, gO_e (yt2 H), gV_e (yp2_0 H), gO_e (yt3 H)]
  rw [if_neg (show ¬ it (kX bs t c 0 : Nat) = it 2 from (fun q => by have := (it_eq (by omega) (by omega) (by omega) (by omega)).mp q; omega)), if_neg (show ¬ it (kX bs t c 0 : Nat) = it 266 from (fun q => by have := (it_eq (by omega) (by omega) (by omega) (by omega)).mp q; omega)), if_neg (show ¬ it (kX bs t c 0 : Nat) = it 267 from (fun q => by have := (it_eq (by omega) (by omega) (by omega) (by omega)).mp q; omega)), if_neg (show ¬ it (kX bs t c 0 : Nat) = it 268 from (fun q => by have := (it_eq (by omega) (by omega) (by omega) (by omega)).mp q; omega)), h1]
  simp only [cV_e]
  unfold f_72_105
  simp only [gO_e (yt2 H), gV_e (yp2_0 H), gO_e (yt3 H)]
  rw [h2]
  rfl
/-- what the reference does if no number is there -/
theorem m_112h {dy : Nat} {R : aR} (hX : TX bs t n) (H : Lay B wm) (hT : MR B bs t n c 0 Im) (hk : ¬ kX bs t c 0 = 2) (h : f_112_63 K 0 (dy + 8) (B + 46) wm Im Jm = some R) : Cl K (dy + 9) 112 [.ref (B + 46)] wm Im Jm = some R := by
  obtain ⟨z, z1, z2, z3, z4, z5⟩ := m_sort hX hT
  apply cl_112 (k := 0)
  unfold f_112
  simp only [it_lit, gO_e (yt46 H)]
  rw [hT.2.1, if_neg (fun q => q rfl), z1, if_pos (fun q => by have := (it_eq (by omega) (by omega) (by omega) (by omega)).mp q; omega)]
  exact h
theorem m_112n {dy : Nat} {Im1 Im2 : aI} (hX : TX bs t n) (H : Lay B wm) (hT : MR B bs t n c 0 Im) (hk : kX bs t c 0 = 2) (h1 : Cl K (dy + 8) 84 [.ref (B + 46)] wm Im Jm = some (none, wm, Im1, Jm)) (h2 : Cl K (dy + 8) 111 [.ref (B + 46), .int (it 0), .int (it (tvl bs t c : Nat))] wm Im1 Jm = some (none, wm, Im2, Jm)) : Cl K (dy + 9) 112 [.ref (B + 46)] wm Im Jm = some (some (.int (it 0)), wm, Im2, Jm) := by
  obtain ⟨z, z1, z2, z3, z4, z5⟩ := m_sort hX hT
  obtain ⟨n1, n2, n3, n4, n5, n6⟩ := num_l (bs := bs) (t := t) (c := c) (by unfold kX at hk; rw [if_pos rfl] at hk; exact hk)
  obtain ⟨g1, g2, _⟩ := hT.2.2.2.2.2 rfl
  have hz := z4.mpr hk
  subst hz
  rw [n3] at h2
  apply cl_112 (k := 300)
  unfold f_112
  simp only [it_lit, gO_e (yt46 H), lt_p]
  rw [hT.2.1, if_neg (fun q => q rfl), z1, if_neg (fun q => q rfl), g1]
  have := m_112d (K := K) (dy := dy) (Jm := Jm) (R := (none, wm, Im, Jm)) H hT.1 hX.1 g2 n5 n4 n2 (lxe bs t (tst bs t c) - tst bs t c) (tst bs t c) 300 (by omega) (by omega) (by omega) h1 h2
  rw [Nat.sub_self] at this
  exact this
theorem m_63a {dy g : Nat} {Im1 Im2 : aI} (hX : TX bs t n) (H : Lay B wm) (hT : MR B bs t n c 0 Im) (hk : (kX bs t c 0 = 266 ∧ g = 1) ∨ (kX bs t c 0 = 267 ∧ g = 0)) (h1 : Cl K (dy + 8) 111 [.ref (B + 46), .int (it 1), .int (it g)] wm Im Jm = some (none, wm, Im1, Jm)) (h2 : Cl K (dy + 8) 84 [.ref (B + 46)] wm Im1 Jm = some (none, wm, Im2, Jm)) : f_112_63 K 0 (dy + 8) (B + 46) wm Im Jm = some (some (.int (it 1)), wm, Im2, Jm) := by
  have c10 : cvt 10 = 266 := rfl
  have c11 : cvt 11 = 267 := rfl
  have e10 := s_89 (K := K) (d := dy + 7) (J := Jm) H hT (show it 10 = it ((10 : Nat) : Int) from rfl) (by omega)
  have e11 := s_89 (K := K) (d := dy + 7) (J := Jm) H hT (show it 11 = it ((11 : Nat) : Int) from rfl) (by omega)
  rw [c10] at e10
  rw [c11] at e11
  have t97 : ∀ x : Int32, x = it g → f_112_97 K 0 (dy + 8) (B + 46) (B + 46) (it 1) x wm Im Jm = some (some (.int (it 1)), wm, Im2, Jm) := by
    intro x hx
    subst hx
    unfold f_112_97
    simp only [it_lit, gO_e (yt46 H)]
    rw [h1]
    simp only [cV_e, gO_e (yt46 H)]
    rw [h2]
    rfl
  have t81 : f_112_81 K 0 (dy + 8) (B + 46) wm Im Jm = some (some (.int (it 1)), wm, Im2, Jm) := by
    unfold f_112_81
    simp only [it_lit, gO_e (yt46 H)]
    rw [e10]
    simp only [cI_e]
    rcases hk with ⟨k1, k2⟩ | ⟨k1, k2⟩
    · rw [if_pos k1, if_neg (by decide)]
      exact t97 _ (by rw [k2]; rfl)
    · rw [if_neg (show ¬ kX bs t c 0 = 266 by omega), if_pos rfl]
      exact t97 _ (by rw [k2]; rfl)
  unfold f_112_63
  simp only [it_lit, gO_e (yt46 H)]
  rw [e10]
  simp only [cI_e, gO_e (yt46 H)]
  rcases hk with ⟨k1, k2⟩ | ⟨k1, k2⟩
  · rw [if_pos k1, if_pos (by decide)]
    exact t81
  · rw [if_neg (show ¬ kX bs t c 0 = 266 by omega), if_neg (fun q => q rfl), e11]
    simp only [cI_e]
    rw [if_pos k1, if_neg (by decide)]
    exact t81
/-- none -/
theorem m_63L {dy : Nat} {Im1 Im2 : aI} (H : Lay B wm) (hT : MR B bs t n c 0 Im) (hk : ¬ kX bs t c 0 = 266 ∧ ¬ kX bs t c 0 = 267 ∧ kX bs t c 0 = 268) (h1 : Cl K (dy + 8) 111 [.ref (B + 46), .int (it 2), .int (it 0)] wm Im Jm = some (none, wm, Im1, Jm)) (h2 : Cl K (dy + 8) 84 [.ref (B + 46)] wm Im1 Jm = some (none, wm, Im2, Jm)) : f_112_63 K 0 (dy + 8) (B + 46) wm Im Jm = some (some (.int (it 3)), wm, Im2, Jm) := by
  unfold f_112_63; simp only [it_lit, gO_e (yt46 H), lt_p]; rw [s_89 (d := dy + 7) H hT (show it 10 = it ((10 : Nat) : Int) from rfl) (by omega), if_neg (show ¬ kX bs t c 0 = cvt 10 from fun q => hk.1 q)]; simp only [cI_e, gO_e (yt46 H)]; rw [if_neg (fun q => q trivial), s_89 (d := dy + 7) H hT (show it 11 = it ((11 : Nat) : Int) from rfl) (by omega), if_neg (show ¬ kX bs t c 0 = cvt 11 from fun q => hk.2.1 q)]; simp only [cI_e, gO_e (yt46 H)]; rw [if_pos trivial, s_89 (d := dy + 7) H hT (show it 12 = it ((12 : Nat) : Int) from rfl) (by omega)]
  rw [if_pos (show kX bs t c 0 = cvt 12 from hk.2.2)]
  simp only [cI_e, gO_e (yt46 H)]
  rw [if_neg (by decide), h1]
  simp only [cV_e, gO_e (yt46 H)]
  rw [h2]
  rfl
/-- brackets -/
theorem m_63P {dy : Nat} {Im1 Im2 Im3 : aI} {wm2 : aW} {Jm2 : aJ} {ty : Int32} (hX : TX bs t n) (H : Lay B wm) (H2 : Lay B wm2) (hT : MR B bs t n c 0 Im) (hk : ¬ kX bs t c 0 = 266 ∧ ¬ kX bs t c 0 = 267 ∧ ¬ kX bs t c 0 = 268) (h40 : kX bs t c 0 = 40) (h1 : Cl K (dy + 8) 84 [.ref (B + 46)] wm Im Jm = some (none, wm, Im1, Jm)) (h2 : Cl K (dy + 8) 101 [.ref (B + 46)] wm Im1 Jm = some (some (.int ty), wm2, Im2, Jm2)) (h3 : Cl K (dy + 8) 93 [.ref (B + 46), .int (it 41)] wm2 Im2 Jm2 = some (none, wm2, Im3, Jm2)) : f_112_63 K 0 (dy + 8) (B + 46) wm Im Jm = some (some (.int ty), wm2, Im3, Jm2) := by
  unfold f_112_63; simp only [it_lit, gO_e (yt46 H), lt_p]; rw [s_89 (d := dy + 7) H hT (show it 10 = it ((10 : Nat) : Int) from rfl) (by omega), if_neg (show ¬ kX bs t c 0 = cvt 10 from fun q => hk.1 q)]; simp only [cI_e, gO_e (yt46 H)]; rw [if_neg (fun q => q trivial), s_89 (d := dy + 7) H hT (show it 11 = it ((11 : Nat) : Int) from rfl) (by omega), if_neg (show ¬ kX bs t c 0 = cvt 11 from fun q => hk.2.1 q)]; simp only [cI_e, gO_e (yt46 H)]; rw [if_pos trivial, s_89 (d := dy + 7) H hT (show it 12 = it ((12 : Nat) : Int) from rfl) (by omega)]
  rw [if_neg (show ¬ kX bs t c 0 = cvt 12 from fun q => hk.2.2 q)]; simp only [cI_e, gO_e (yt46 H)]; rw [if_pos trivial, s_94 (d := dy + 7) H hT hX (show it 40 = it ((40 : Nat) : Int) from rfl) (by decide)]
  rw [if_pos h40]
  simp only [cI_e, gO_e (yt46 H)]
  rw [if_neg (by decide), h1]
  simp only [cV_e, gO_e (yt46 H)]
  rw [h2]
  simp only [cI_e, gO_e (yt46 H2)]
  rw [h3]
  rfl
/-- nothing that may stand here -/
theorem m_63R {dy : Nat} {Im1 : aI} {x : Int32} (hX : TX bs t n) (H : Lay B wm) (hT : MR B bs t n c 0 Im) (hk : ¬ kX bs t c 0 = 266 ∧ ¬ kX bs t c 0 = 267 ∧ ¬ kX bs t c 0 = 268) (h40 : ¬ kX bs t c 0 = 40) (h1 : Cl K (dy + 8) 91 [.ref (B + 46)] wm Im Jm = some (some (.int x), wm, Im1, Jm)) (hT1 : MR B bs t n c 1 Im1) : f_112_63 K 0 (dy + 8) (B + 46) wm Im Jm = some (some (.int (it 0)), wm, Im1, Jm) := by
  unfold f_112_63; simp only [it_lit, gO_e (yt46 H), lt_p]; rw [s_89 (d := dy + 7) H hT (show it 10 = it ((10 : Nat) : Int) from rfl) (by omega), if_neg (show ¬ kX bs t c 0 = cvt 10 from fun q => hk.1 q)]; simp only [cI_e, gO_e (yt46 H)]; rw [if_neg (fun q => q trivial), s_89 (d := dy + 7) H hT (show it 11 = it ((11 : Nat) : Int) from rfl) (by omega), if_neg (show ¬ kX bs t c 0 = cvt 11 from fun q => hk.2.1 q)]; simp only [cI_e, gO_e (yt46 H)]; rw [if_pos trivial, s_89 (d := dy + 7) H hT (show it 12 = it ((12 : Nat) : Int) from rfl) (by omega)]
  rw [if_neg (show ¬ kX bs t c 0 = cvt 12 from fun q => hk.2.2 q)]; simp only [cI_e, gO_e (yt46 H)]; rw [if_pos trivial, s_94 (d := dy + 7) H hT hX (show it 40 = it ((40 : Nat) : Int) from rfl) (by decide)]
  rw [if_neg h40]
  simp only [cI_e, gO_e (yt46 H)]
  rw [if_pos trivial, h1]
  simp only [cI_e, gO_e (yt46 H)]
  rw [s_94 (d := dy + 7) H hT1 hX (show it 40 = it ((40 : Nat) : Int) from rfl) (by decide), if_neg (show ¬ kX bs t c 1 = 40 by unfold kX; rw [if_neg (by omega)]; omega)]
  simp only [cI_e, gO_e (yt46 H)]
  rw [if_pos trivial, hT1.2.1, if_neg (by decide)]
/-- a variable -/
theorem m_63V {dy : Nat} {Im1 Im2 Im3 : aI} {x v ty : Int32} (hX : TX bs t n) (H : Lay B wm) (hT : MR B bs t n c 0 Im) (hk : ¬ kX bs t c 0 = 266 ∧ ¬ kX bs t c 0 = 267 ∧ ¬ kX bs t c 0 = 268) (h40 : ¬ kX bs t c 0 = 40) (h1 : Cl K (dy + 8) 91 [.ref (B + 46)] wm Im Jm = some (some (.int x), wm, Im1, Jm)) (hT1 : MR B bs t n (c + 1) 0 Im1) (h41 : ¬ kX bs t (c + 1) 0 = 40) (h2 : Cl K (dy + 8) 114 [.ref (B + 46), .int x, .int (it (tst bs t c : Nat))] wm Im1 Jm = some (some (.int v), wm, Im2, Jm)) (h3 : Cl K (dy + 8) 111 [.ref (B + 46), .int (it 3), .int v] wm Im2 Jm = some (none, wm, Im3, Jm)) (h4 : Cl K (dy + 8) 115 [.ref (B + 46), .int v] wm Im3 Jm = some (some (.int ty), wm, Im3, Jm)) : f_112_63 K 0 (dy + 8) (B + 46) wm Im Jm = some (some (.int ty), wm, Im3, Jm) := by
  unfold f_112_63; simp only [it_lit, gO_e (yt46 H), lt_p]; rw [s_89 (d := dy + 7) H hT (show it 10 = it ((10 : Nat) : Int) from rfl) (by omega), if_neg (show ¬ kX bs t c 0 = cvt 10 from fun q => hk.1 q)]; simp only [cI_e, gO_e (yt46 H)]; rw [if_neg (fun q => q trivial), s_89 (d := dy + 7) H hT (show it 11 = it ((11 : Nat) : Int) from rfl) (by omega), if_neg (show ¬ kX bs t c 0 = cvt 11 from fun q => hk.2.1 q)]; simp only [cI_e, gO_e (yt46 H)]; rw [if_pos trivial, s_89 (d := dy + 7) H hT (show it 12 = it ((12 : Nat) : Int) from rfl) (by omega)]
  rw [if_neg (show ¬ kX bs t c 0 = cvt 12 from fun q => hk.2.2 q)]; simp only [cI_e, gO_e (yt46 H)]; rw [if_pos trivial, s_94 (d := dy + 7) H hT hX (show it 40 = it ((40 : Nat) : Int) from rfl) (by decide)]
  rw [if_neg h40]
  simp only [cI_e, gO_e (yt46 H)]
  rw [if_pos trivial, h1]
  simp only [cI_e, gO_e (yt46 H)]
  rw [s_94 (d := dy + 7) H hT1 hX (show it 40 = it ((40 : Nat) : Int) from rfl) (by decide), if_neg h41]
  simp only [cI_e, gO_e (yt46 H)]
  rw [if_pos trivial, hT1.2.1, if_pos (show it ((0 : Nat) : Int) = it 0 from rfl), hT.2.2.2.2.1, h2]
  simp only [cI_e, gO_e (yt46 H)]
  rw [h3]
  simp only [cV_e, gO_e (yt46 H)]
  rw [h4]
  rfl
/-- a call -/
theorem m_63C {dy : Nat} {Im1 Im2 : aI} {wm2 : aW} {Jm2 : aJ} {x ty : Int32} (hX : TX bs t n) (H : Lay B wm) (hT : MR B bs t n c 0 Im) (hk : ¬ kX bs t c 0 = 266 ∧ ¬ kX bs t c 0 = 267 ∧ ¬ kX bs t c 0 = 268) (h40 : ¬ kX bs t c 0 = 40) (h1 : Cl K (dy + 8) 91 [.ref (B + 46)] wm Im Jm = some (some (.int x), wm, Im1, Jm)) (hT1 : MR B bs t n (c + 1) 0 Im1) (h41 : kX bs t (c + 1) 0 = 40) (h2 : Cl K (dy + 8) 113 [.ref (B + 46), .int x, .int (it (tst bs t c : Nat))] wm Im1 Jm = some (some (.int ty), wm2, Im2, Jm2)) : f_112_63 K 0 (dy + 8) (B + 46) wm Im Jm = some (some (.int ty), wm2, Im2, Jm2) := by
  unfold f_112_63; simp only [it_lit, gO_e (yt46 H), lt_p]; rw [s_89 (d := dy + 7) H hT (show it 10 = it ((10 : Nat) : Int) from rfl) (by omega), if_neg (show ¬ kX bs t c 0 = cvt 10 from fun q => hk.1 q)]; simp only [cI_e, gO_e (yt46 H)]; rw [if_neg (fun q => q trivial), s_89 (d := dy + 7) H hT (show it 11 = it ((11 : Nat) : Int) from rfl) (by omega), if_neg (show ¬ kX bs t c 0 = cvt 11 from fun q => hk.2.1 q)]; simp only [cI_e, gO_e (yt46 H)]; rw [if_pos trivial, s_89 (d := dy + 7) H hT (show it 12 = it ((12 : Nat) : Int) from rfl) (by omega)]
  rw [if_neg (show ¬ kX bs t c 0 = cvt 12 from fun q => hk.2.2 q)]; simp only [cI_e, gO_e (yt46 H)]; rw [if_pos trivial, s_94 (d := dy + 7) H hT hX (show it 40 = it ((40 : Nat) : Int) from rfl) (by decide)]
  rw [if_neg h40]
  simp only [cI_e, gO_e (yt46 H)]
  rw [if_pos trivial, h1]
  simp only [cI_e, gO_e (yt46 H)]
  rw [s_94 (d := dy + 7) H hT1 hX (show it 40 = it ((40 : Nat) : Int) from rfl) (by decide), if_pos h41]
  simp only [cI_e, gO_e (yt46 H)]
  rw [if_neg (by decide), hT.2.2.2.2.1, h2]
  rfl
/-- a constant, read by both -/
theorem O_c {dx dy : Nat} (ha : a = B + 8 ∨ a = B + 22) (hX : TX bs t n) (H : Lay B w) (hp : w.2.1 (B + 2) 1 = some a) (hS : SM K B wm Im) (h : JS B a bs t n pd dp c 0 s sl G Q Ix Jx Im) (hk : kX bs t c 0 = 2 ∨ kX bs t c 0 = 266 ∨ kX bs t c 0 = 267 ∨ kX bs t c 0 = 268) (hQ : Q → (G.2.2.2 G.1).length < 125) : Cnc B a bs t n pd dp w f fa (Cl K (dx + 4) 72 [.ref (B + 2)] w Ix Jx) (Cl K (dy + 9) 112 [.ref (B + 46)] wm Im Jm) s b c sl G Q Ix Jx wm Im Jm := by
  obtain ⟨hcn, _, hXT, hMR⟩ := JS_c h
  rcases hk with hk | hk | hk | hk
  · obtain ⟨Ix1, Jx1, Ix2, x1, x2, x3, _, ⟨Im1, Im2, m1, m2, m3, hJ⟩⟩ := JS_en (K := K) (d := dx + 1) (e := dy + 2) (Jm := Jm) (o := 0) (g := tvl bs t c) (τ := 0) (gx := it (tvl bs t c : Nat)) (gm := it (tvl bs t c : Nat)) ha hX H hp hS h (by omega) (by omega) (fun z => ⟨rfl, rfl, hQ z⟩) (by omega)
    have hv : tvl bs t c ≤ 99999 := by
      obtain ⟨n1, n2, n3, n4, n5, n6⟩ := num_l (bs := bs) (t := t) (c := c) (by unfold kX at hk; rw [if_pos rfl] at hk; exact hk)
      have hb := num_b (bs := bs) (p := tst bs t c) (lxe bs t (tst bs t c) - tst bs t c) (fun i i1 i2 => n4 i i1 (by omega))
      have h10 : 10 ^ (lxe bs t (tst bs t c) - tst bs t c) ≤ 10 ^ 5 := Nat.pow_le_pow_right (by omega) (by omega)
      omega
    exact O_fin hJ (x_72 hX H hXT hk (Or.inl ⟨rfl, rfl, rfl, rfl⟩) x1 x2) (m_112n hX hS.1 hMR hk m1 m2) x3 m3 (fun _ => Or.inl ⟨rfl, rfl⟩) (by omega) hv (by omega) (by omega)
  · obtain ⟨Ix1, Jx1, Ix2, x1, x2, x3, ⟨Im1, Im2, m1, m2, m3, hJ⟩, _⟩ := JS_en (K := K) (d := dx + 1) (e := dy + 2) (Jm := Jm) (o := 1) (g := 1) (τ := 1) (gx := it ((1 : Nat) : Int)) (gm := it ((1 : Nat) : Int)) ha hX H hp hS h (by omega) (by omega) (fun z => ⟨rfl, rfl, hQ z⟩) (by omega)
    exact O_fin hJ (x_72 hX H hXT hk (Or.inr (Or.inl ⟨rfl, rfl, rfl, rfl⟩)) x1 x2) (m_112h hX hS.1 hMR (by omega) (m_63a (g := 1) hX hS.1 hMR (Or.inl ⟨hk, rfl⟩) m1 m2)) x3 m3 (fun _ => Or.inr (Or.inl ⟨rfl, by omega, rfl⟩)) (by omega) (by omega) (by omega) (by omega)
  · obtain ⟨Ix1, Jx1, Ix2, x1, x2, x3, ⟨Im1, Im2, m1, m2, m3, hJ⟩, _⟩ := JS_en (K := K) (d := dx + 1) (e := dy + 2) (Jm := Jm) (o := 1) (g := 0) (τ := 1) (gx := it ((0 : Nat) : Int)) (gm := it ((0 : Nat) : Int)) ha hX H hp hS h (by omega) (by omega) (fun z => ⟨rfl, rfl, hQ z⟩) (by omega)
    exact O_fin hJ (x_72 hX H hXT hk (Or.inr (Or.inr (Or.inl ⟨rfl, rfl, rfl, rfl⟩))) x1 x2) (m_112h hX hS.1 hMR (by omega) (m_63a (g := 0) hX hS.1 hMR (Or.inr ⟨hk, rfl⟩) m1 m2)) x3 m3 (fun _ => Or.inr (Or.inl ⟨rfl, by omega, rfl⟩)) (by omega) (by omega) (by omega) (by omega)
  · obtain ⟨Ix1, Jx1, Ix2, x1, x2, x3, ⟨Im1, Im2, m1, m2, m3, hJ⟩, _⟩ := JS_en (K := K) (d := dx + 1) (e := dy + 2) (Jm := Jm) (o := 2) (g := 0) (τ := 3) (gx := it ((0 : Nat) : Int)) (gm := it ((0 : Nat) : Int)) ha hX H hp hS h (by omega) (by omega) (fun z => ⟨rfl, rfl, hQ z⟩) (by omega)
    exact O_fin hJ (x_72 hX H hXT hk (Or.inr (Or.inr (Or.inr ⟨rfl, rfl, rfl, rfl⟩))) x1 x2) (m_112h hX hS.1 hMR (by omega) (m_63L hS.1 hMR ⟨by omega, by omega, hk⟩ m1 m2)) x3 m3 (fun _ => Or.inr (Or.inr (Or.inl ⟨rfl, rfl⟩))) (by omega) (by omega) (by omega) (by omega)
/-- nothing that may stand here, read by both -/
theorem O_r {dx dy : Nat} (ha : a = B + 8 ∨ a = B + 22) (hX : TX bs t n) (H : Lay B w) (hS : SM K B wm Im) (h : JS B a bs t n pd dp c 0 s sl G Q Ix Jx Im) (hk : ¬ kX bs t c 0 = 2 ∧ ¬ kX bs t c 0 = 266 ∧ ¬ kX bs t c 0 = 267 ∧ ¬ kX bs t c 0 = 268) (h40 : ¬ kX bs t c 0 = 40) (h1 : ¬ kX bs t c 0 = 1) : Cnc B a bs t n pd dp w f fa (Cl K (dx + 4) 72 [.ref (B + 2)] w Ix Jx) (Cl K (dy + 9) 112 [.ref (B + 46)] wm Im Jm) s b c sl G Q Ix Jx wm Im Jm := by
  obtain ⟨hcn, _, hXT, hMR⟩ := JS_c h
  obtain ⟨Ix1, x1, x2, x3⟩ := s_43 (K := K) (d := dx + 2) (J := Jx) H hXT
  obtain ⟨Ix2, x4, x5, x6⟩ := s_42 (K := K) (d := dx + 2) (J := Jx) H x2 hX.2.1
  rw [if_neg (fun q => by omega)] at x5
  obtain ⟨Im1, m1, m2, m3⟩ := s_91 (K := K) (d := dy) (J := Jm) hX hS.1 hS.2.1 hS.2.2.1 hMR
  unfold nxC nxR at m3
  rw [if_neg h1, if_neg h1] at m3
  have fx : FX3 B Ix Ix2 := fun b hb => (x6 b hb).trans (x3 b hb)
  exact ⟨c, 1, G, 0, it 0, Ix2, Jx, wm, Im1, Jm, x_72r hX H hXT hk x1 x4, m_112h hX hS.1 hMR hk.1 (m_63R hX hS.1 hMR hk.2 h40 m1 m3), FX3_E ha fx, FMx_6 m2, WG_r, Nat.le_refl _, fun z => by omega, fun _ => ⟨rfl, rfl⟩, JS_Q rfl (JS_k (sl' := sl) ha h fx x5 m2 m3 (by omega) (fun z => by omega))⟩
end ONE

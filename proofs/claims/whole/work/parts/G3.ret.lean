/-! return and print -/
section RET
variable {K : Nat → Value} {B d e a : Nat} {w wm wm' : aW} {Ix Im I I' I'' Ix' Im' : aI} {Jx Jm J J' J'' Jx' Jm' : aJ} {bs : Nat → Nat} {t n c r s sl b op m m' : Nat} {pd dp : Int} {G G1 : gG} {Q gd Q0 : Prop} {f cnt st : Nat} {vn ln : Nat → Nat} {fa fa0 : Nat → Nat → Nat} {G0 : gG} {P P' : Nat → Prop}
theorem Ext_x {τ : Nat} (h : Ext fa f G G1 τ b) : Exs fa f G G1 [τ] b := h
theorem m_key (hT : MR B bs t n c 0 I) : ∃ z kk : Int, I (B + 46) 24 = it z ∧ I (B + 46) 25 = it kk ∧ 0 ≤ z ∧ z ≤ 5 ∧ -1 ≤ kk ∧ kk < 20 ∧ (z = 2 ∧ kk ≤ 3 ↔ isT (kX bs t c 0)) ∧ (z = 1 ↔ kX bs t c 0 = 1) := by
  obtain ⟨hM, h26, hr, hc, h22, hT⟩ := hT
  obtain ⟨g1, g2, s, kk, g3, g4, g5, g6, g7, g8, hS⟩ := hT rfl
  refine ⟨s, kk, g3, g4, g7, g8, g5, g6, ?_⟩
  have hkx : kX bs t c 0 = kdo bs t (tst bs t c) := by unfold kX tkd; rw [if_pos rfl]
  rw [hkx]
  rcases hS with ⟨a1, a2⟩ | ⟨a1, a2⟩ | ⟨rr, a0, a1, a2, a3⟩ | ⟨a1, a2⟩ | ⟨a1, a2⟩ | ⟨a1, a2, a3⟩
  · exact ⟨⟨fun z => by omega, fun z => by omega⟩, by omega⟩
  · exact ⟨⟨fun z => by omega, fun z => by omega⟩, by omega⟩
  · have h1 := (cvt_t a0).1
    have h2 := cvt_b a0
    rw [a1, h1]
    exact ⟨by omega, by omega⟩
  · exact ⟨⟨fun z => by omega, fun z => by omega⟩, by omega⟩
  · exact ⟨⟨fun z => by omega, fun z => by omega⟩, by omega⟩
  · have h1 := sgs_k a1
    have h2 := sgs_b _ a1
    exact ⟨⟨fun z => by omega, fun z => by omega⟩, by omega⟩
theorem m_99a {R : aR} (H : Lay B w) (hT : MR B bs t n c 0 I) (hk : isT (kX bs t c 0)) (h : Cl K d 100 [.ref (B + 46), .int (it (tst bs t c : Nat))] w I J = some (none, R.2)) : Cl K (d + 1) 99 [.ref (B + 46)] w I J = some (none, R.2) := by
  obtain ⟨z, kk, z1, z2, z3, z4, z5, z6, z7, z8⟩ := m_key hT
  obtain ⟨z9, z10⟩ := z7.mpr hk
  apply cl_99 (k := 0)
  unfold f_99
  simp only [it_lit, gO_e (yt46 H), lt_p]
  rw [hT.2.1, hT.2.2.2.2.1, if_neg (fun q => q rfl), z1, z9, if_neg (fun q => q rfl), z2, if_neg (fun q => by have := (it_lt (by omega) (by omega) (by omega) (by omega)).mp q; omega), h]
  rfl
theorem m_99b {R : aR} (H : Lay B w) (hT : MR B bs t n c 0 I) (hk : kX bs t c 0 = 1) (h : Cl K d 116 [.ref (B + 46), .int (it (tst bs t c : Nat))] w I J = some (none, R.2)) : Cl K (d + 1) 99 [.ref (B + 46)] w I J = some (none, R.2) := by
  obtain ⟨z, kk, z1, z2, z3, z4, z5, z6, z7, z8⟩ := m_key hT
  have z9 := z8.mpr hk
  subst z9
  have t36 : f_99_36 K 0 d (B + 46) (it (tst bs t c : Nat)) w I J = some (none, R.2) := by
    unfold f_99_36
    simp only [it_lit, gO_e (yt46 H)]
    rw [hT.2.1, if_neg (fun q => q rfl), z1, if_neg (fun q => q rfl), h]
    rfl
  apply cl_99 (k := 0)
  unfold f_99
  simp only [it_lit, gO_e (yt46 H), lt_p]
  rw [hT.2.1, hT.2.2.2.2.1, if_neg (fun q => q rfl), z1, if_pos (by decide)]
  exact t36
theorem m_99c {R : aR} {kf : Nat} (H : Lay B w) (hT : MR B bs t n c 0 I) (hk : ¬ isT (kX bs t c 0)) (hk1 : ¬ kX bs t c 0 = 1) (h : f_99_59 K kf d (B + 46) (it (tst bs t c : Nat)) w I J = some R) : Cl K (d + 1) 99 [.ref (B + 46)] w I J = some R := by
  obtain ⟨z, kk, z1, z2, z3, z4, z5, z6, z7, z8⟩ := m_key hT
  have t36 : f_99_36 K kf d (B + 46) (it (tst bs t c : Nat)) w I J = some R := by
    unfold f_99_36
    simp only [it_lit, gO_e (yt46 H)]
    rw [hT.2.1, if_neg (fun q => q rfl), z1, if_pos (fun q => by have := (it_eq (by omega) (by omega) (by omega) (by omega)).mp q; omega)]
    exact h
  apply cl_99 (k := kf)
  unfold f_99
  simp only [it_lit, gO_e (yt46 H), lt_p]
  rw [hT.2.1, hT.2.2.2.2.1, if_neg (fun q => q rfl), z1, z2]
  by_cases e : z = 2
  · rw [if_neg (fun q => q (by rw [e])), if_pos ((it_lt (by omega) (by omega) (by omega) (by omega)).mpr (by omega))]
    exact t36
  · rw [if_pos (fun q => by have := (it_eq (by omega) (by omega) (by omega) (by omega)).mp q; omega)]
    exact t36
theorem m_59r {d' k : Nat} {R : aR} (H : Lay B w) (hT : MR B bs t n c 0 I) (hk : kX bs t c 0 = 260 ∨ kX bs t c 0 = 261) (h : f_99_240 K k (d' + 1) (B + 46) (it (tst bs t c : Nat)) w I J = some R) : f_99_59 K k (d' + 1) (B + 46) (it (tst bs t c : Nat)) w I J = some R := by
  have e5 := s_89 (K := K) (d := d') (J := J) H hT (show it 5 = it ((5 : Nat) : Int) from rfl) (by omega)
  have e7 := s_89 (K := K) (d := d') (J := J) H hT (show it 7 = it ((7 : Nat) : Int) from rfl) (by omega)
  have e8 := s_89 (K := K) (d := d') (J := J) H hT (show it 8 = it ((8 : Nat) : Int) from rfl) (by omega)
  have e9 := s_89 (K := K) (d := d') (J := J) H hT (show it 9 = it ((9 : Nat) : Int) from rfl) (by omega)
  rw [show cvt 5 = 257 from rfl, if_neg (by omega)] at e5
  rw [show cvt 7 = 259 from rfl, if_neg (by omega)] at e7
  rw [show cvt 8 = 260 from rfl] at e8
  rw [show cvt 9 = 261 from rfl] at e9
  unfold f_99_59
  simp only [it_lit, gO_e (yt46 H)]
  rw [e5]
  simp only [cI_e, gO_e (yt46 H)]
  rw [if_pos trivial, e7]
  simp only [cI_e, gO_e (yt46 H)]
  rw [if_pos trivial, e8]
  simp only [cI_e, gO_e (yt46 H)]
  rcases hk with z | z
  · rw [if_pos z, if_pos (by decide)]
    exact h
  · rw [if_neg (show ¬ kX bs t c 0 = 260 by omega), if_neg (fun q => q rfl), e9]
    simp only [cI_e]
    rw [if_pos z, if_neg (by decide)]
    exact h
theorem m_240 {dy k o : Nat} {q : Prop} [Decidable q] {ty : Int32} {wm2 : aW} {Im1 Im2 Im3 Im4 Im5 : aI} {Jm2 : aJ} (hX : TX bs t n) (H : Lay B wm) (H2 : Lay B wm2) (hT : MR B bs t n c 0 Im) (f4 : f ≤ 4) (hk : (kX bs t c 0 = 260 ∧ o = 25 ∧ (q ↔ ty = Im3 (B + 53) f)) ∨ (kX bs t c 0 = 261 ∧ o = 26 ∧ (q ↔ ty = it 0 ∨ ty = it 1))) (h30 : Im3 (B + 46) 30 = it f) (h84 : Cl K (dy + 8) 84 [.ref (B + 46)] wm Im Jm = some (none, wm, Im1, Jm)) (h101 : Cl K (dy + 8) 101 [.ref (B + 46)] wm Im1 Jm = some (some (.int ty), wm2, Im2, Jm2)) (h93 : Cl K (dy + 8) 93 [.ref (B + 46), .int (it 59)] wm2 Im2 Jm2 = some (none, wm2, Im3, Jm2)) (h110 : Cl K (dy + 8) 110 [.ref (B + 46), .int (it (if q then 1 else 0)), .int (it (tst bs t c : Nat))] wm2 Im3 Jm2 = some (none, wm2, Im4, Jm2)) (h111 : Cl K (dy + 8) 111 [.ref (B + 46), .int (it o), .int (it 0)] wm2 Im4 Jm2 = some (none, wm2, Im5, Jm2)) : f_99_240 K k (dy + 8) (B + 46) (it (tst bs t c : Nat)) wm Im Jm = some (none, wm2, Im5, Jm2) := by
  have e8 := s_89 (K := K) (d := dy + 7) (J := Jm) H hT (show it 8 = it ((8 : Nat) : Int) from rfl) (by omega)
  rw [show cvt 8 = 260 from rfl] at e8
  have t302 : ∀ x l2 : Int32, x = it (if q then 1 else 0) → (l2 = it 0 ↔ o = 26) → (o = 25 ∨ o = 26) → f_99_302 K k (dy + 8) (B + 46) (it (tst bs t c : Nat)) l2 ty (B + 46) x wm2 Im3 Jm2 = some (none, wm2, Im5, Jm2) := by
    intro x l2 hx hl ho
    subst hx
    have t318 : f_99_318 K k (dy + 8) (B + 46) (it (tst bs t c : Nat)) l2 ty (B + 46) (it o) wm2 Im4 Jm2 = some (none, wm2, Im5, Jm2) := by
      unfold f_99_318
      simp only [it_lit, gO_e (yt46 H2)]
      rw [h111]
      rfl
    unfold f_99_302
    simp only [it_lit, gO_e (yt46 H2)]
    rw [h110]
    simp only [cV_e]
    rcases ho with z | z
    · rw [if_neg (fun y => by have := hl.mp y; omega)]
      rw [z] at t318
      exact t318
    · rw [if_pos (hl.mpr z)]
      rw [z] at t318
      exact t318
  unfold f_99_240
  simp only [it_lit, gO_e (yt46 H)]
  rw [e8]
  simp only [cI_e, gO_e (yt46 H)]
  rw [h84]
  simp only [cV_e, gO_e (yt46 H)]
  rw [h101]
  simp only [cI_e, gO_e (yt46 H2)]
  rw [h93]
  simp only [cV_e, gO_e (yt46 H2), gV_e (yp46_10 H2)]
  rcases hk with ⟨k1, k2, k3⟩ | ⟨k1, k2, k3⟩
  · rw [if_pos k1, if_neg (show ¬ it 1 = it 0 by decide), h30, gA_e (yt53 H2) (Or.inl rfl) (ix (by omega) (by omega) (by omega)), it_n (by omega)]
    by_cases z : ty = Im3 (B + 53) f
    · rw [if_neg (fun y => y z)]
      exact t302 _ _ (by rw [if_pos (k3.mpr z)]) ⟨fun y => absurd y (by decide), fun y => by omega⟩ (Or.inl k2)
    · rw [if_pos z]
      exact t302 _ _ (by rw [if_neg (fun y => z (k3.mp y))]) ⟨fun y => absurd y (by decide), fun y => by omega⟩ (Or.inl k2)
  · rw [if_neg (show ¬ kX bs t c 0 = 260 by omega), if_pos rfl]
    have t297 : q → f_99_297 K k (dy + 8) (B + 46) (it (tst bs t c : Nat)) (it 0) ty (B + 46) wm2 Im3 Jm2 = some (none, wm2, Im5, Jm2) := by
      intro y
      unfold f_99_297
      simp only [it_lit]
      exact t302 _ _ (by rw [if_pos y]) ⟨fun _ => k2, fun _ => rfl⟩ (Or.inr k2)
    by_cases z : ty = it 0
    · rw [if_pos z]
      exact t297 (k3.mpr (Or.inl z))
    · rw [if_neg z]
      by_cases z2 : ty = it 1
      · rw [if_neg (fun y => y z2)]
        exact t297 (k3.mpr (Or.inr z2))
      · rw [if_pos z2]
        exact t302 _ _ (by rw [if_neg (fun y => (k3.mp y).elim z z2)]) ⟨fun _ => k2, fun _ => rfl⟩ (Or.inr k2)
theorem x_76 {dx o : Nat} {q : Prop} [Decidable q] {v v3 : Int32} {Ix1 Ix2 Ix3 Ix4 Ix5 : aI} {Jx2 Jx5 : aJ} (hX : TX bs t n) (H : Lay B w) (hp : w.2.1 (B + 2) 1 = some a) (hP : PL w a) (hT : XT B bs t n c 0 Ix) (hk : (kX bs t c 0 = 260 ∧ o = 25 ∧ (q ↔ v = v3)) ∨ (kX bs t c 0 = 261 ∧ o = 26 ∧ (q ↔ v = it 0 ∨ v = it 1))) (h42 : Cl K (dx + 4) 42 [.ref (B + 3)] w Ix Jx = some (none, w, Ix1, Jx)) (h63 : Cl K (dx + 4) 63 [.ref (B + 2), .int (it 0), .int (it 0)] w Ix1 Jx = some (none, w, Ix2, Jx2)) (h41 : Cl K (dx + 4) 41 [.ref (B + 3), .int (it 59)] w Ix2 Jx2 = some (none, w, Ix3, Jx2)) (h67 : Cl K (dx + 4) 67 [.ref (B + 2), .int (it 1)] w Ix3 Jx2 = some (some (.int v), w, Ix3, Jx2)) (h2 : Ix3 (B + 2) 2 = it f) (h52 : Cl K (dx + 4) 52 [.ref a, .int (it f), .int (it 3)] w Ix3 Jx2 = some (some (.int v3), w, Ix3, Jx2)) (h68 : Cl K (dx + 4) 68 [.ref (B + 2), .int (it (if q then 1 else 0)), .int (it (tst bs t c : Nat))] w Ix3 Jx2 = some (none, w, Ix4, Jx2)) (h58 : Cl K (dx + 4) 58 [.ref (B + 2), .int (it o), .int (it 0), .int (it 1), .int (it (-1))] w Ix4 Jx2 = some (none, w, Ix5, Jx5)) : Cl K (dx + 5) 76 [.ref (B + 2)] w Ix Jx = some (none, w, Ix5, Jx5) := by
  have hkb := kX_b (bs := bs) (t := t) (c := c) (r := 0)
  have t81 : ∀ x sx : Int32, o = 25 → x = it (if q then 1 else 0) → f_76_81 K 0 (dx + 4) (B + 2) (it (tst bs t c : Nat)) sx v (B + 2) x w Ix3 Jx2 = some (none, w, Ix5, Jx5) := by
    intro x sx ho hx
    subst hx ho
    unfold f_76_81
    simp only [it_lit, it_neg, gO_e (yt2 H)]
    rw [h68]
    simp only [cV_e, gO_e (yt2 H)]
    have h58' : Cl K (dx + 4) 58 [.ref (B + 2), .int (it 25), .int (it 0), .int (it 1), .int (it (-1))] w Ix4 Jx2 = some (none, w, Ix5, Jx5) := h58
    rw [h58']
    rfl
  have t112 : ∀ x sx : Int32, o = 26 → x = it (if q then 1 else 0) → f_76_112 K 0 (dx + 4) (B + 2) (it (tst bs t c : Nat)) sx v (B + 2) x w Ix3 Jx2 = some (none, w, Ix5, Jx5) := by
    intro x sx ho hx
    subst hx ho
    unfold f_76_112
    simp only [it_lit, it_neg, gO_e (yt2 H)]
    rw [h68]
    simp only [cV_e, gO_e (yt2 H)]
    have h58' : Cl K (dx + 4) 58 [.ref (B + 2), .int (it 26), .int (it 0), .int (it 1), .int (it (-1))] w Ix4 Jx2 = some (none, w, Ix5, Jx5) := h58
    rw [h58']
    rfl
  have head : ∀ sx : Int32, (sx = it 0 ↔ o = 26) → f_76_26 K 0 (dx + 4) (B + 2) (it (tst bs t c : Nat)) sx w Ix Jx = some (none, w, Ix5, Jx5) := by
    intro sx hsx
    unfold f_76_26
    simp only [it_lit, gO_e (yt2 H), gV_e (yp2_0 H), gO_e (yt3 H)]
    rw [h42]
    simp only [cV_e, gO_e (yt2 H)]
    rw [h63]
    simp only [cV_e, gO_e (yt2 H), gV_e (yp2_0 H), gO_e (yt3 H)]
    rw [h41]
    simp only [cV_e, gO_e (yt2 H)]
    rw [h67]
    simp only [cI_e, gO_e (yt2 H), gV_e hp, gO_e hP.1]
    rcases hk with ⟨k1, k2, k3⟩ | ⟨k1, k2, k3⟩
    · rw [if_neg (fun y => by have := hsx.mp y; omega), h2, h52]
      simp only [cI_e]
      by_cases z : v = v3
      · rw [if_neg (fun y => y z)]
        exact t81 _ _ k2 (by rw [if_pos (k3.mpr z)])
      · rw [if_pos z]
        exact t81 _ _ k2 (by rw [if_neg (fun y => z (k3.mp y))])
    · rw [if_pos (hsx.mpr k2)]
      have t107 : q → f_76_107 K 0 (dx + 4) (B + 2) (it (tst bs t c : Nat)) sx v (B + 2) w Ix3 Jx2 = some (none, w, Ix5, Jx5) := by
        intro y
        unfold f_76_107
        simp only [it_lit]
        exact t112 _ _ k2 (by rw [if_pos y])
      by_cases z : v = it 0
      · rw [if_pos z]
        exact t107 (k3.mpr (Or.inl z))
      · rw [if_neg z]
        by_cases z2 : v = it 1
        · rw [if_neg (fun y => y z2)]
          exact t107 (k3.mpr (Or.inr z2))
        · rw [if_pos z2]
          exact t112 _ _ k2 (by rw [if_neg (fun y => (k3.mp y).elim z z2)])
  apply cl_76 (k := 0)
  unfold f_76
  simp only [it_lit, gO_e (yt2 H), gV_e (yp2_0 H), gO_e (yt3 H)]
  rw [s_44 (d := dx + 3) H hT hX.2.1]
  simp only [cI_e, gO_e (yt2 H), gV_e (yp2_0 H), gO_e (yt3 H)]
  rw [s_37 (d := dx + 3) H hT hX.2.1]
  simp only [cI_e]
  rcases hk with ⟨k1, k2, k3⟩ | ⟨k1, k2, k3⟩
  · rw [if_neg (fun y => y (by rw [k1]; rfl))]
    exact head _ ⟨fun y => absurd y (by decide), fun y => by omega⟩
  · rw [if_pos (fun q => by have := (it_eq (by omega) (by omega) (by omega) (by omega)).mp q; omega)]
    exact head _ ⟨fun _ => k2, fun _ => rfl⟩
end RET

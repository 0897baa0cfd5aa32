/-! a variable becomes something: the pieces -/
section ASG
variable {K : Nat → Value} {B d e a : Nat} {w wm wm' : aW} {Ix Im I I' I'' Ix' Im' : aI} {Jx Jm J J' J'' Jx' Jm' : aJ} {bs : Nat → Nat} {t n c r s sl b op m m' : Nat} {pd dp : Int} {G G1 : gG} {Q gd Q0 : Prop} {f cnt st : Nat} {vn ln : Nat → Nat} {fa fa0 : Nat → Nat → Nat} {G0 : gG} {P P' : Nat → Prop}
theorem JS_f {G' : gG} {Q' : Prop} (hq : ¬ Q) (h : JS B a bs t n pd dp c r s sl G Q Ix Jx Im) : JS B a bs t n pd dp c r s sl G' Q' Ix Jx Im := by
  obtain ⟨h, Nx, Nm, nfx, nfm, tfx, tfm, x, m, b1, b2, f⟩ := h
  exact ⟨h, Nx, Nm, nfx, nfm, tfx, tfm, x, m, b1, b2, fun r0 => ⟨(f r0).1, (f r0).2.elim Or.inl (fun z => absurd z.2 hq)⟩⟩
theorem JS_e3 {g τ : Nat} {gx gm gt : Int32} (ha : a = B + 8 ∨ a = B + 22) (H : Lay B w) (hp : w.2.1 (B + 2) 1 = some a) (Hm : Lay B wm) (h : JS B a bs t n pd dp c r s (sl + 1) G Q Ix Jx Im) (hn : n ≤ 240) (hQ : Q → gx = it g ∧ gm = it g ∧ gt = it τ ∧ τ ≤ 3 ∧ (G.2.2.2 G.1).length < 125) : ∃ Ix' Jx' Im', Cl K (d + 2) 58 [.ref (B + 2), .int (it ((3 : Nat) : Int)), .int gx, .int (it ((0 : Nat) : Int)), .int gt] w Ix Jx = some (none, w, Ix', Jx') ∧ Cl K (e + 1) 111 [.ref (B + 46), .int (it ((3 : Nat) : Int)), .int gm] wm Im Jm = some (none, wm, Im', Jm) ∧ FEx B a Ix Jx Ix' Jx' ∧ FMx B wm.2.2.1 Im Jm Im' Jm ∧ JS B a bs t n pd dp c r s sl (gE1 G 3 g (τ :: G.2.2.2 G.1)) Q Ix' Jx' Im' := by
  by_cases eg : gt = it (-1)
  · have hq : ¬ Q := fun z => by
      obtain ⟨_, _, q3, q4, _⟩ := hQ z
      rw [q3] at eg
      have := (it_eq (by omega) (by omega) (by omega) (by omega)).mp eg
      omega
    obtain ⟨Ix', Jx', Im', v1, v2, v3, v4, v5⟩ := JS_em (K := K) (d := d) (e := e) (Jm := Jm) (o := 3) (g := g) (k := 0) (gx := gx) (gm := gm) (tyx := gt) (b := false) ha H hp Hm h hn (by omega) ⟨fun z => (by cases z), fun z => absurd eg z⟩ 0 [] (G.2.2.2 G.1) (fun z => absurd z hq)
    exact ⟨Ix', Jx', Im', v1, v2, v3, v4, JS_f hq v5⟩
  · obtain ⟨Ix', Jx', Im', v1, v2, v3, v4, v5⟩ := JS_em (K := K) (d := d) (e := e) (Jm := Jm) (o := 3) (g := g) (k := 0) (gx := gx) (gm := gm) (tyx := gt) (b := true) ha H hp Hm h hn (by omega) ⟨fun _ => eg, fun _ => rfl⟩ τ [] (G.2.2.2 G.1) (fun z => ⟨(hQ z).1, (hQ z).2.1, rfl, rfl, (hQ z).2.2.2.2, fun _ => ⟨(hQ z).2.2.1, (hQ z).2.2.2.1⟩⟩)
    exact ⟨Ix', Jx', Im', v1, v2, v3, v4, v5⟩
/-- a name that both look up -/
theorem JS_kn {dx dy l pl : Nat} (ha : a = B + 8 ∨ a = B + 22) (H : Lay B w) (hNP : NP f cnt vn fa ln gd) (hNX : NX B a f cnt vn fa ln gd Ix) (hNM : NM B f cnt vn fa ln gd Im) (hS : SM K B wm Im) (h : JS B a bs t n pd dp c r s sl G Q Ix Jx Im) (hl : l < 26) (hpl : pl ≤ 240) :
    ∃ (vi : Int) (vr : Nat) (gt : Int32) (Ix' Im' : aI), -1 ≤ vi ∧ vi < 6 ∧ vr < 6 ∧ Ix (B + 16) l = it vi ∧ ((0 ≤ vi ∧ Ix' = Ix) ∨ (vi < 0 ∧ Cl K (dx + 3) 48 [.ref (B + 2), .int (it pl)] w Ix Jx = some (none, w, Ix', Jx))) ∧ Cl K (dy + 8) 114 [.ref (B + 46), .int (it ((l + 97 : Nat) : Int)), .int (it pl)] wm Im Jm = some (some (.int (it vr)), wm, Im', Jm) ∧ Cl K (dx + 3) 70 [.ref a, .int (it f), .int (it vi)] w Ix' Jx = some (some (.int gt), w, Ix', Jx) ∧ FEx B a Ix Jx Ix' Jx ∧ FMx B wm.2.2.1 Im Jm Im' Jm ∧ JS B a bs t n pd dp c r s sl G (Q ∧ vi = vr ∧ vr < cnt ∧ gt = it (fa f (4 + vr) : Nat)) Ix' Jx Im' := by
  obtain ⟨np1, np2, np3, np4, _⟩ := hNP
  have hP : PL w a := PLx H ha
  have hvb := vix_b vn l cnt
  obtain ⟨z, z1, z2, z3, z4⟩ := s_97 (K := K) (d := dy + 6) (J := Jm) (lt := it ((l + 97 : Nat) : Int)) hS.1 hNM.1 np1 hNM.2.1 np2
  have hz : z = vix vn l cnt := z4 vn l (fun v hv => ⟨(np3 v hv).1, (hNM.2.2.1 v hv).1⟩) hl (by rw [Nat.add_comm])
  subst hz
  have h53 := hNX.2.1 l hl
  by_cases hv : 0 ≤ vix vn l cnt
  · obtain ⟨v, hve⟩ : ∃ v : Nat, vix vn l cnt = v := ⟨(vix vn l cnt).toNat, by omega⟩
    rw [hve] at z1 z2 z3 h53 hv
    obtain ⟨gt, t1, t2⟩ := s_70g (K := K) (d := dx + 2) (I := Ix) (J := Jx) (x := it f) (y := it ((v : Nat) : Int)) hP
    have gte : gt = it (fa f (4 + v) : Nat) := by rw [t2 f v (by omega) (by omega) rfl rfl]; exact hNX.2.2.1 v (by omega)
    obtain ⟨Im2, u1, u2, u3⟩ := JS_nd (K := K) (e := dy + 6) (Jm := Jm) (p := pl) (0 ≤ (v : Int)) hS.1 h hpl (fun _ => Or.inl hv)
    have e114 := m_114 (d := dy + 6) (J := Jm) (pl := it pl) hS.1 (by omega) (by omega) z1 u1
    have ev : (if (0 : Int) < (v : Int) then (v : Int) else 0) = (v : Int) := by split <;> omega
    rw [ev] at e114
    exact ⟨v, v, gt, Ix, Im2, by omega, by omega, by omega, h53, Or.inl ⟨hv, rfl⟩, e114, t1, FEx_r, u2, JS_m (fun q => ⟨q.1, rfl, by omega, gte⟩) (Nat.le_refl _) u3⟩
  · have hve : vix vn l cnt = -1 := by omega
    rw [hve] at z1 z2 z3 h53 hv
    obtain ⟨Ix2, Im2, p1, p2, p3, p4, p5⟩ := JS_nm (K := K) (d := dx + 2) (e := dy + 6) (Jm := Jm) (p := pl) False ha H hS.1 h hpl (fun q => q)
    obtain ⟨gt, t1, t2⟩ := s_70g (K := K) (d := dx + 2) (I := Ix2) (J := Jx) (x := it f) (y := it (-1)) hP
    have e114 := m_114 (d := dy + 6) (J := Jm) (pl := it pl) (I' := Im2) hS.1 (by omega) (by omega) z1 (by rw [if_neg (by omega)]; exact p2)
    rw [if_neg (by omega)] at e114
    exact ⟨-1, 0, gt, Ix2, Im2, by omega, by omega, by omega, h53, Or.inr ⟨by omega, p1⟩, e114, t1, p3, p4, JS_m (fun q => q.elim) (Nat.le_refl _) p5⟩
/-- the class's assignment up to what comes behind its name -/
theorem x_74h {dx l : Nat} {vi : Int} {gt : Int32} {Ix1 Ix2 : aI} {R : aR} (hX : TX bs t n) (H : Lay B w) (hp : w.2.1 (B + 2) 1 = some a) (hP : PL w a) (hXT : XT B bs t n c 0 Ix) (hl : l < 26) (v1 : -1 ≤ vi) (v2 : vi < 6) (h45 : Cl K (dx + 3) 45 [.ref (B + 3)] w Ix Jx = some (some (.int (it l)), w, Ix1, Jx)) (h53 : Ix1 (B + 16) l = it vi) (h48 : (0 ≤ vi ∧ Ix2 = Ix1) ∨ (vi < 0 ∧ Cl K (dx + 3) 48 [.ref (B + 2), .int (it (tst bs t c : Nat))] w Ix1 Jx = some (none, w, Ix2, Jx))) (h2 : Ix2 (B + 2) 2 = it f) (h70 : Cl K (dx + 3) 70 [.ref a, .int (it f), .int (it vi)] w Ix2 Jx = some (some (.int gt), w, Ix2, Jx)) (hXT2 : XT B bs t n (c + 1) 0 Ix2) (h : f_74_59 K 0 (dx + 3) (B + 2) (it (tst bs t c : Nat)) (it vi) gt (it (if kX bs t (c + 1) 0 = 91 then 1 else 0)) w Ix2 Jx = some R) : Cl K (dx + 4) 74 [.ref (B + 2)] w Ix Jx = some R := by
  have hkb := kX_b (bs := bs) (t := t) (c := c + 1) (r := 0)
  have t29 : f_74_29 K 0 (dx + 3) (B + 2) (it (tst bs t c : Nat)) (it vi) w Ix2 Jx = some R := by
    unfold f_74_29
    simp only [it_lit, gO_e (yt2 H), gV_e (yp2_0 H), gO_e (yt3 H), gV_e hp, gO_e hP.1]
    rw [h2, h70]
    simp only [cI_e, gO_e (yt2 H), gV_e (yp2_0 H), gO_e (yt3 H)]
    rw [s_37 (d := dx + 2) H hXT2 hX.2.1]
    simp only [cI_e]
    by_cases k : kX bs t (c + 1) 0 = 91
    · rw [if_pos k] at h
      rw [if_neg (fun y => y (by rw [k]; rfl))]
      exact h
    · rw [if_neg k] at h
      rw [if_pos (fun q => by have := (it_eq (by omega) (by omega) (by omega) (by omega)).mp q; omega)]
      exact h
  apply cl_74 (k := 0)
  unfold f_74
  simp only [it_lit, gO_e (yt2 H), gV_e (yp2_0 H), gO_e (yt3 H)]
  rw [s_44 (d := dx + 2) H hXT hX.2.1]
  simp only [cI_e, gO_e (yt2 H), gV_e (yp2_0 H), gO_e (yt3 H)]
  rw [h45]
  simp only [cI_e, gO_e (yt2 H)]
  rw [s_53 (d := dx + 2) H hl, h53]
  simp only [cI_e, gO_e (yt2 H)]
  rcases h48 with ⟨e1, e2⟩ | ⟨e1, e2⟩
  · subst e2
    rw [if_pos ((it_le (by omega) (by omega) (by omega) (by omega)).mpr (by omega))]
    exact t29
  · rw [if_neg (fun q => by have := (it_le (by omega) (by omega) (by omega) (by omega)).mp q; omega), e2]
    exact t29
/-- from the sign on: nothing in brackets -/
theorem x_96a {dx : Nat} {q : Prop} [Decidable q] {pl l2 l3 v : Int32} {Ix1 Ix2 Ix3 Ix4 Ix5 : aI} {Jx2 Jx5 : aJ} (H : Lay B w) (hq : q ↔ v = l3) (h1 : Cl K (dx + 3) 41 [.ref (B + 3), .int (it 61)] w Ix Jx = some (none, w, Ix1, Jx)) (h2 : Cl K (dx + 3) 63 [.ref (B + 2), .int (it 0), .int (it 0)] w Ix1 Jx = some (none, w, Ix2, Jx2)) (h3 : Cl K (dx + 3) 41 [.ref (B + 3), .int (it 59)] w Ix2 Jx2 = some (none, w, Ix3, Jx2)) (h67 : Cl K (dx + 3) 67 [.ref (B + 2), .int (it 1)] w Ix3 Jx2 = some (some (.int v), w, Ix3, Jx2)) (h68 : Cl K (dx + 3) 68 [.ref (B + 2), .int (it (if q then 1 else 0)), .int pl] w Ix3 Jx2 = some (none, w, Ix4, Jx2)) (h58 : Cl K (dx + 3) 58 [.ref (B + 2), .int (it 21), .int l2, .int (it 1), .int (it (-1))] w Ix4 Jx2 = some (none, w, Ix5, Jx5)) : f_74_59 K 0 (dx + 3) (B + 2) pl l2 l3 (it 0) w Ix Jx = some (none, w, Ix5, Jx5) := by
  have t187 : ∀ x : Int32, x = it (if q then 1 else 0) → f_74_187 K 0 (dx + 3) (B + 2) pl l2 l3 (it 0) (B + 2) x w Ix3 Jx2 = some (none, w, Ix5, Jx5) := by
    intro x hx
    subst hx
    unfold f_74_187
    simp only [it_lit, it_neg, gO_e (yt2 H)]
    rw [h68]
    simp only [cV_e, gO_e (yt2 H)]
    rw [h58]
    rfl
  unfold f_74_59
  simp only [it_lit]
  rw [if_pos trivial]
  unfold f_74_96
  simp only [it_lit, gO_e (yt2 H), gV_e (yp2_0 H), gO_e (yt3 H)]
  rw [h1]
  simp only [cV_e, gO_e (yt2 H)]
  rw [h2]
  simp only [cV_e, gO_e (yt2 H), gV_e (yp2_0 H), gO_e (yt3 H)]
  rw [h3]
  simp only [cV_e, gO_e (yt2 H)]
  rw [if_pos trivial, h67]
  simp only [cI_e]
  by_cases z : v = l3
  · rw [if_neg (fun y => y z)]
    exact t187 _ (by rw [if_pos (hq.mpr z)])
  · rw [if_pos z]
    exact t187 _ (by rw [if_neg (fun y => z (hq.mp y))])
/-- from the sign on: a place in brackets -/
theorem x_96b {dx : Nat} {q : Prop} [Decidable q] {pl l2 l3 v1 v2 : Int32} {Ia Ib Ic Id Ix1 Ix2 Ix3 Ix4 Ix5 : aI} {Ja Jc Jx2 Jx5 : aJ} (H : Lay B w) (hq : q ↔ l3 = it 2 ∧ v2 = it 0 ∧ v1 = it 0) (ha : Cl K (dx + 3) 58 [.ref (B + 2), .int (it 3), .int l2, .int (it 0), .int l3] w Ix Jx = some (none, w, Ia, Ja)) (hb : Cl K (dx + 3) 42 [.ref (B + 3)] w Ia Ja = some (none, w, Ib, Ja)) (hc : Cl K (dx + 3) 63 [.ref (B + 2), .int (it 0), .int (it 0)] w Ib Ja = some (none, w, Ic, Jc)) (hd : Cl K (dx + 3) 41 [.ref (B + 3), .int (it 93)] w Ic Jc = some (none, w, Id, Jc)) (h1 : Cl K (dx + 3) 41 [.ref (B + 3), .int (it 61)] w Id Jc = some (none, w, Ix1, Jc)) (h2 : Cl K (dx + 3) 63 [.ref (B + 2), .int (it 0), .int (it 0)] w Ix1 Jc = some (none, w, Ix2, Jx2)) (h3 : Cl K (dx + 3) 41 [.ref (B + 3), .int (it 59)] w Ix2 Jx2 = some (none, w, Ix3, Jx2)) (h67a : Cl K (dx + 3) 67 [.ref (B + 2), .int (it 2)] w Ix3 Jx2 = some (some (.int v2), w, Ix3, Jx2)) (h67 : Cl K (dx + 3) 67 [.ref (B + 2), .int (it 1)] w Ix3 Jx2 = some (some (.int v1), w, Ix3, Jx2)) (h68 : Cl K (dx + 3) 68 [.ref (B + 2), .int (it (if q then 1 else 0)), .int pl] w Ix3 Jx2 = some (none, w, Ix4, Jx2)) (h58 : Cl K (dx + 3) 58 [.ref (B + 2), .int (it 22), .int (it 0), .int (it 3), .int (it (-1))] w Ix4 Jx2 = some (none, w, Ix5, Jx5)) : f_74_59 K 0 (dx + 3) (B + 2) pl l2 l3 (it 1) w Ix Jx = some (none, w, Ix5, Jx5) := by
  have t151 : ∀ x : Int32, x = it (if q then 1 else 0) → f_74_151 K 0 (dx + 3) (B + 2) pl l2 l3 (it 1) x w Ix3 Jx2 = some (none, w, Ix5, Jx5) := by
    intro x hx
    subst hx
    unfold f_74_151
    simp only [it_lit, it_neg, gO_e (yt2 H)]
    rw [h68]
    simp only [cV_e, gO_e (yt2 H)]
    rw [h58]
    rfl
  have t150 : ¬ q → f_74_150 K 0 (dx + 3) (B + 2) pl l2 l3 (it 1) w Ix3 Jx2 = some (none, w, Ix5, Jx5) := by
    intro z
    unfold f_74_150
    simp only [it_lit]
    exact t151 _ (by rw [if_neg z])
  unfold f_74_59
  simp only [it_lit, gO_e (yt2 H), gV_e (yp2_0 H), gO_e (yt3 H)]
  rw [if_neg (by decide), ha]
  simp only [cV_e, gO_e (yt2 H), gV_e (yp2_0 H), gO_e (yt3 H)]
  rw [hb]
  simp only [cV_e, gO_e (yt2 H)]
  rw [hc]
  simp only [cV_e, gO_e (yt2 H), gV_e (yp2_0 H), gO_e (yt3 H)]
  rw [hd]
  simp only [cV_e]
  unfold f_74_96
  simp only [it_lit, gO_e (yt2 H), gV_e (yp2_0 H), gO_e (yt3 H)]
  rw [h1]
  simp only [cV_e, gO_e (yt2 H)]
  rw [h2]
  simp only [cV_e, gO_e (yt2 H), gV_e (yp2_0 H), gO_e (yt3 H)]
  rw [h3]
  simp only [cV_e, gO_e (yt2 H)]
  rw [if_neg (by decide)]
  by_cases z1 : l3 = it 2
  · rw [if_neg (fun y => y z1), h67a]
    simp only [cI_e, gO_e (yt2 H)]
    by_cases z2 : v2 = it 0
    · rw [if_neg (fun y => y z2), h67]
      simp only [cI_e]
      by_cases z3 : v1 = it 0
      · rw [if_neg (fun y => y z3)]
        exact t151 _ (by rw [if_pos (hq.mpr ⟨z1, z2, z3⟩)])
      · rw [if_pos z3]
        exact t150 (fun y => z3 (hq.mp y).2.2)
    · rw [if_pos z2]
      exact t150 (fun y => z2 (hq.mp y).2.1)
  · rw [if_pos z1]
    exact t150 (fun y => z1 (hq.mp y).1)
theorem m_116a {dy : Nat} {q : Prop} [Decidable q] {x vr pl ty ty2 : Int32} {wm2 : aW} {Im1 Im2 Im3 Im4 Im5 Im6 Im7 : aI} {Jm2 : aJ} (H : Lay B wm) (H2 : Lay B wm2) (hq : q ↔ ty = ty2) (h91 : Cl K (dy + 8) 91 [.ref (B + 46)] wm Im Jm = some (some (.int x), wm, Im1, Jm)) (h114 : Cl K (dy + 8) 114 [.ref (B + 46), .int x, .int pl] wm Im1 Jm = some (some (.int vr), wm, Im2, Jm)) (h94 : Cl K (dy + 8) 94 [.ref (B + 46), .int (it 91)] wm Im2 Jm = some (some (.int (it 0)), wm, Im2, Jm)) (h93 : Cl K (dy + 8) 93 [.ref (B + 46), .int (it 61)] wm Im2 Jm = some (none, wm, Im3, Jm)) (h101 : Cl K (dy + 8) 101 [.ref (B + 46)] wm Im3 Jm = some (some (.int ty), wm2, Im4, Jm2)) (h93b : Cl K (dy + 8) 93 [.ref (B + 46), .int (it 59)] wm2 Im4 Jm2 = some (none, wm2, Im5, Jm2)) (h115 : Cl K (dy + 8) 115 [.ref (B + 46), .int vr] wm2 Im5 Jm2 = some (some (.int ty2), wm2, Im5, Jm2)) (h110 : Cl K (dy + 8) 110 [.ref (B + 46), .int (it (if q then 1 else 0)), .int pl] wm2 Im5 Jm2 = some (none, wm2, Im6, Jm2)) (h111 : Cl K (dy + 8) 111 [.ref (B + 46), .int (it 21), .int vr] wm2 Im6 Jm2 = some (none, wm2, Im7, Jm2)) : Cl K (dy + 9) 116 [.ref (B + 46), .int pl] wm Im Jm = some (none, wm2, Im7, Jm2) := by
  have tail : ∀ y : Int32, y = it (if q then 1 else 0) → f_116_134 K 0 (dy + 8) (B + 46) pl x vr ty (B + 46) y wm2 Im5 Jm2 = some (none, wm2, Im7, Jm2) := by
    intro y hy
    subst hy
    unfold f_116_134
    simp only [it_lit, gO_e (yt46 H2)]
    rw [h110]
    simp only [cV_e, gO_e (yt46 H2)]
    rw [h111]
    rfl
  apply cl_116 (k := 0)
  unfold f_116
  simp only [it_lit, gO_e (yt46 H)]
  rw [h91]
  simp only [cI_e, gO_e (yt46 H)]
  rw [h114]
  simp only [cI_e, gO_e (yt46 H)]
  rw [h94]
  simp only [cI_e, gO_e (yt46 H)]
  rw [if_pos trivial, h93]
  simp only [cV_e, gO_e (yt46 H)]
  rw [h101]
  simp only [cI_e, gO_e (yt46 H2)]
  rw [h93b]
  simp only [cV_e, gO_e (yt46 H2)]
  rw [h115]
  simp only [cI_e]
  by_cases z : ty = ty2
  · rw [if_neg (fun y => y z)]
    exact tail _ (by rw [if_pos (hq.mpr z)])
  · rw [if_pos z]
    exact tail _ (by rw [if_neg (fun y => z (hq.mp y))])
theorem m_116b {dy : Nat} {q : Prop} [Decidable q] {x vr pl tp ty ty2 : Int32} {wm2 wm3 : aW} {Im1 Im2 Im3 Im4 Im5 Im6 Im7 Im8 Im9 Ima Imb : aI} {Jm2 Jm3 : aJ} (H : Lay B wm) (H2 : Lay B wm2) (H3 : Lay B wm3) (hq : q ↔ ty2 = it 2 ∧ tp = it 0 ∧ ty = it 0) (h91 : Cl K (dy + 8) 91 [.ref (B + 46)] wm Im Jm = some (some (.int x), wm, Im1, Jm)) (h114 : Cl K (dy + 8) 114 [.ref (B + 46), .int x, .int pl] wm Im1 Jm = some (some (.int vr), wm, Im2, Jm)) (h94 : Cl K (dy + 8) 94 [.ref (B + 46), .int (it 91)] wm Im2 Jm = some (some (.int (it 1)), wm, Im2, Jm)) (h111a : Cl K (dy + 8) 111 [.ref (B + 46), .int (it 3), .int vr] wm Im2 Jm = some (none, wm, Im3, Jm)) (h84 : Cl K (dy + 8) 84 [.ref (B + 46)] wm Im3 Jm = some (none, wm, Im4, Jm)) (h101a : Cl K (dy + 8) 101 [.ref (B + 46)] wm Im4 Jm = some (some (.int tp), wm2, Im5, Jm2)) (h93a : Cl K (dy + 8) 93 [.ref (B + 46), .int (it 93)] wm2 Im5 Jm2 = some (none, wm2, Im6, Jm2)) (h93 : Cl K (dy + 8) 93 [.ref (B + 46), .int (it 61)] wm2 Im6 Jm2 = some (none, wm2, Im7, Jm2)) (h101 : Cl K (dy + 8) 101 [.ref (B + 46)] wm2 Im7 Jm2 = some (some (.int ty), wm3, Im8, Jm3)) (h93b : Cl K (dy + 8) 93 [.ref (B + 46), .int (it 59)] wm3 Im8 Jm3 = some (none, wm3, Im9, Jm3)) (h115 : Cl K (dy + 8) 115 [.ref (B + 46), .int vr] wm3 Im9 Jm3 = some (some (.int ty2), wm3, Im9, Jm3)) (h110 : Cl K (dy + 8) 110 [.ref (B + 46), .int (it (if q then 1 else 0)), .int pl] wm3 Im9 Jm3 = some (none, wm3, Ima, Jm3)) (h111 : Cl K (dy + 8) 111 [.ref (B + 46), .int (it 22), .int (it 0)] wm3 Ima Jm3 = some (none, wm3, Imb, Jm3)) : Cl K (dy + 9) 116 [.ref (B + 46), .int pl] wm Im Jm = some (none, wm3, Imb, Jm3) := by
  have tail : ∀ y : Int32, y = it (if q then 1 else 0) → f_116_86 K 0 (dy + 8) (B + 46) pl x vr tp ty (B + 46) y wm3 Im9 Jm3 = some (none, wm3, Imb, Jm3) := by
    intro y hy
    subst hy
    unfold f_116_86
    simp only [it_lit, gO_e (yt46 H3)]
    rw [h110]
    simp only [cV_e, gO_e (yt46 H3)]
    rw [h111]
    rfl
  have t85 : ¬ q → f_116_85 K 0 (dy + 8) (B + 46) pl x vr tp ty (B + 46) wm3 Im9 Jm3 = some (none, wm3, Imb, Jm3) := by
    intro z
    unfold f_116_85
    simp only [it_lit]
    exact tail _ (by rw [if_neg z])
  apply cl_116 (k := 0)
  unfold f_116
  simp only [it_lit, gO_e (yt46 H)]
  rw [h91]
  simp only [cI_e, gO_e (yt46 H)]
  rw [h114]
  simp only [cI_e, gO_e (yt46 H)]
  rw [h94]
  simp only [cI_e, gO_e (yt46 H)]
  rw [if_neg (by decide), h111a]
  simp only [cV_e, gO_e (yt46 H)]
  rw [h84]
  simp only [cV_e, gO_e (yt46 H)]
  rw [h101a]
  simp only [cI_e, gO_e (yt46 H2)]
  rw [h93a]
  simp only [cV_e, gO_e (yt46 H2)]
  rw [h93]
  simp only [cV_e, gO_e (yt46 H2)]
  rw [h101]
  simp only [cI_e, gO_e (yt46 H3)]
  rw [h93b]
  simp only [cV_e, gO_e (yt46 H3)]
  rw [h115]
  simp only [cI_e]
  by_cases z1 : ty2 = it 2
  · rw [if_neg (fun y => y z1)]
    by_cases z2 : tp = it 0
    · rw [if_neg (fun y => y z2)]
      by_cases z3 : ty = it 0
      · rw [if_neg (fun y => y z3)]
        exact tail _ (by rw [if_pos (hq.mpr ⟨z1, z2, z3⟩)])
      · rw [if_pos z3]
        exact t85 (fun y => z3 (hq.mp y).2.2)
    · rw [if_pos z2]
      exact t85 (fun y => z2 (hq.mp y).2.1)
  · rw [if_pos z1]
    exact t85 (fun y => z1 (hq.mp y).1)
end ASG

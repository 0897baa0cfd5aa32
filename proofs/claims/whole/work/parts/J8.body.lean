/-! the body of a fun, both -/
section BODY
variable {K : Nat → Value} {B d e a : Nat} {w wm wm' : aW} {Ix Im I I' I'' Ix' Im' : aI} {Jx Jm J J' J'' Jx' Jm' : aJ} {bs : Nat → Nat} {t n c r s sl sl' b op op' m m' : Nat} {pd dp dp0 : Int} {G G1 G' Gs G2 G3 : gG} {Q Qh Qx gd Q0 Q0' : Prop} {f cnt cnt' st st' lp pc pm : Nat} {vn vn' ln : Nat → Nat} {fa fa' fa0 fa0' fs : Nat → Nat → Nat} {G0 G0' : gG} {P P' : Nat → Prop}
theorem tst_g (hX : TX bs t n) : ∀ c, c ≤ n → c ≤ tst bs t c := by
  intro c
  induction c with
  | zero => intro _; omega
  | succ c ih => intro h; have := ih (by omega); have := tst_1 hX (show c < n by omega); omega
theorem B_fun {dx dy : Nat} (ha : a = B + 8 ∨ a = B + 22) (hX : TX bs t n) (H : Lay B w) (hp : w.2.1 (B + 2) 1 = some a) (hdx : 181 ≤ dx) (hdy : 1000 ≤ dy) (h : SJ K B a bs t n dp w f ln gd st fa0 G0 Q0 P c r (sl + 2) cnt vn fa G 1 Ix Jx wm Im) (hc : r = 0 → 6 ≤ c) (h19 : Ix (B + 19) 0 = it 0) :
    ∃ (c' r' cnt' : Nat) (vn' : Nat → Nat) (fa' : Nat → Nat → Nat) (G' : gG) (Ix' : aI) (Jx' : aJ) (wm' : aW) (Im' : aI) (Jm' : aJ), f_55_9 K 300 (dx + 5) (B + 2) (it 0) w Ix Jx = some (none, w, Ix', Jx') ∧ f_98_6 K 1000 (dy + 7) (B + 46) wm Im Jm = some (none, wm', Im', Jm') ∧ FSx B a f 0 Ix Jx Ix' Jx' ∧ FSm B f wm.2.2.1 Im Jm Im' Jm' ∧ WG' wm wm' (c' - c) ∧ c ≤ c' ∧ ((r' = 0 → r = 0 ∧ c < c') ∧ (r = 1 → c' = c)) ∧ SJ K B a bs t n dp w f ln gd st fa0 G0 Q0 P c' r' sl cnt' vn' fa' G' 0 Ix' Jx' wm' Im' := by
  have hn := hX.2.1
  have h82 := h.2.2.1.2.2.2
  obtain ⟨hcn, hr1, hXT, hMR⟩ := JS_c h.1
  by_cases r0 : r = 0
  · subst r0
    have c6 := hc rfl
    have htg := tst_g hX c hcn
    obtain ⟨c2, r2, cnt2, vn2, fa2, G2, Ix2, Jx2, wm2, Im2, Jm2, a1, a2, a3, a4, a5, a6, a7⟩ := BS_all (K := K) (dx := dx) ha hX H hp hdx 241 st fa0 G0 Q0 P c sl cnt vn fa G 1 Ix Jx wm Im Jm 300 0 1000 (dy + 7) (by omega) (by omega) (by omega) (by omega) (by omega) (by omega) (by omega) h
    have sz2 := a4.2.1
    rcases a7 with ⟨r20, kx', i', b1, b2, b3⟩ | ⟨r21, b1⟩
    · subst r20
      obtain ⟨_, q2, q3⟩ := a1.resolve_right (fun z => by omega)
      obtain ⟨c2n, _, hXT2, _⟩ := JS_c a6.1
      have n5 := (a6.2.2.2.2.2.2.2.2 rfl).2.2.2.2.1
      obtain ⟨Ix3, Im3, hc2, x1, m1, x3, fx1, fm1, h11, h1⟩ := C_cl (K := K) (dx := dx) (e := dy - 1) (op := 0) (Jm := Jm2) ha hX H a6 q2
      rw [show dy - 1 + 8 = dy + 7 by omega] at m1
      rw [m1] at q3
      have e19 : Ix3 (B + 19) 0 = it 0 := by rw [x3 (B + 19) (by omega), (a2.2.2.2.2.2.1 0 (by omega)).1]; exact h19
      have e57 := x_57 (dx := dx) (kd := it 0) (br := Ix3 (B + 20) 0) (bg := Ix3 (B + 21) 0) (R := (none, w, sm_up2 Ix3 (B + 2) 11 (it ((0 : Nat) : Int)), Jx2)) H x1 h11 (by omega) e19 rfl rfl (Or.inl ⟨rfl, rfl⟩)
      obtain ⟨kx', rfl⟩ : ∃ k', kx' = k' + 2 := ⟨kx' - 2, by omega⟩
      have hb := b_step (K := K) (dx := dx) (kx := kx' + 1) (i := i') (mm := 57) hX H hXT2 (by omega) n5 (by omega) (by omega) (Or.inr (Or.inl ⟨q2, rfl⟩)) e57
      have hend : f_55_9 K (kx' + 1) (dx + 5) (B + 2) (it ((i' + 1 : Nat) : Int)) w (sm_up2 Ix3 (B + 2) 11 (it ((0 : Nat) : Int))) Jx2 = some (none, w, sm_up2 Ix3 (B + 2) 11 (it ((0 : Nat) : Int)), Jx2) := by
        rw [f_55_9]
        simp only [it_lit, lt_p, gO_e (yt2 H)]
        rw [if_neg (fun q => by have := (it_le (by omega) (by omega) (by omega) (by omega)).mp q; omega), up2_r, up1_s, if_pos (by decide)]
      exact ⟨c2 + 1, 0, cnt2, vn2, fa2, G2, _, Jx2, wm2, Im3, Jm2, b1.trans (hb.trans hend), q3, FSx_t (by omega) (FSx_t (op := 0) (op' := 1) (by omega) FSx_r a2) fx1, FSm_t sz2 a3 (FSm_e (by omega) fm1), WG_k (by omega) a4, by omega, ⟨fun _ => ⟨rfl, by omega⟩, fun z => by omega⟩, SJ_s (by unfold slR; simp; omega) h1⟩
    · subst r21
      obtain ⟨_, q2⟩ := a1.resolve_left (fun z => by omega)
      exact ⟨c2, 1, cnt2, vn2, fa2, G2, Ix2, Jx2, wm2, Im2, Jm2, b1, q2, FSx_t (op := 0) (op' := 1) (by omega) FSx_r a2, a3, a4, a5, ⟨fun z => by omega, fun z => by omega⟩, SJ_a (by unfold slR; simp) a6⟩
  · have r1 : r = 1 := by omega
    subst r1
    have k3 : kX bs t c 1 = 3 := by unfold kX; rw [if_neg (by omega)]
    obtain ⟨Ix2, z1, z2, z3, z4⟩ := b_end (K := K) (dx := dx) (kx := 298) (i := 0) (op := 0) (Jx := Jx) hX H hXT (by omega) (Or.inl rfl) (by rw [k3]; omega)
    have sj := SJ_z ha h (fun _ => trivial) rfl z2 z3 z4
    obtain ⟨Im2, t1, t2, t3⟩ := R1_98 (K := K) (y := dy - 1) (km := 999) (Jm := Jm) hX sj
    rw [show dy - 1 + 8 = dy + 7 by omega] at t1
    exact ⟨c, 1, cnt, vn, fa, G, Ix2, Jx, wm, Im2, Jm, z1, t1, FSx_z ha z3 z4, FSm_e h82 t2, WG_r, Nat.le_refl _, ⟨fun z => by omega, fun _ => rfl⟩, SJ_a (by omega) t3⟩
/-- one op that puts a value of its own type -/
theorem JS_e27 {g : Nat} {gx gm : Int32} (ha : a = B + 8 ∨ a = B + 22) (H : Lay B w) (hp : w.2.1 (B + 2) 1 = some a) (Hm : Lay B wm) (h : JS B a bs t n pd dp c r s (sl + 1) G Q Ix Jx Im) (hn : n ≤ 240) (hQ : Q → gx = it g ∧ gm = it g ∧ g ≤ 3 ∧ (G.2.2.2 G.1).length < 125) : ∃ Ix' Jx' Im', Cl K (d + 2) 58 [.ref (B + 2), .int (it ((27 : Nat) : Int)), .int gx, .int (it ((0 : Nat) : Int)), .int gx] w Ix Jx = some (none, w, Ix', Jx') ∧ Cl K (e + 1) 111 [.ref (B + 46), .int (it ((27 : Nat) : Int)), .int gm] wm Im Jm = some (none, wm, Im', Jm) ∧ FEx B a Ix Jx Ix' Jx' ∧ FMx B wm.2.2.1 Im Jm Im' Jm ∧ JS B a bs t n pd dp c r s sl (gE1 G 27 g (g :: G.2.2.2 G.1)) Q Ix' Jx' Im' := by
  by_cases eg : gx = it (-1)
  · have hq : ¬ Q := fun z => by
      obtain ⟨q1, _, q4, _⟩ := hQ z
      rw [q1] at eg
      have := (it_eq (by omega) (by omega) (by omega) (by omega)).mp eg
      omega
    obtain ⟨Ix', Jx', Im', v1, v2, v3, v4, v5⟩ := JS_em (K := K) (d := d) (e := e) (Jm := Jm) (o := 27) (g := g) (k := 0) (gx := gx) (gm := gm) (tyx := gx) (b := false) ha H hp Hm h hn (by omega) ⟨fun z => (by cases z), fun z => absurd eg z⟩ 0 [] (G.2.2.2 G.1) (fun z => absurd z hq)
    exact ⟨Ix', Jx', Im', v1, v2, v3, v4, JS_f hq v5⟩
  · obtain ⟨Ix', Jx', Im', v1, v2, v3, v4, v5⟩ := JS_em (K := K) (d := d) (e := e) (Jm := Jm) (o := 27) (g := g) (k := 0) (gx := gx) (gm := gm) (tyx := gx) (b := true) ha H hp Hm h hn (by omega) ⟨fun _ => eg, fun _ => rfl⟩ g [] (G.2.2.2 G.1) (fun z => ⟨(hQ z).1, (hQ z).2.1, rfl, rfl, (hQ z).2.2.2, fun _ => ⟨(hQ z).1, (hQ z).2.2.1⟩⟩)
    exact ⟨Ix', Jx', Im', v1, v2, v3, v4, v5⟩
/-- the end of a fun -/
theorem E_fun {dx dy : Nat} (ha : a = B + 8 ∨ a = B + 22) (hX : TX bs t n) (H : Lay B w) (hp : w.2.1 (B + 2) 1 = some a) (f4 : f ≤ 4) (h : SJ K B a bs t n dp w f ln gd st fa0 G0 Q0 (fun _ => False) c r (sl + 2) cnt vn fa G op Ix Jx wm Im) : ∃ (Ix' : aI) (Jx' : aJ) (Im1 Im' : aI), Cl K (dx + 5) 77 [.ref (B + 2)] w Ix Jx = some (none, w, Ix', Jx') ∧ Cl K (dy + 8) 111 [.ref (B + 46), .int (it 27), .int (Im (B + 53) f)] wm Im Jm = some (none, wm, Im1, Jm) ∧ Cl K (dy + 8) 111 [.ref (B + 46), .int (it 25), .int (it 0)] wm Im1 Jm = some (none, wm, Im', Jm) ∧ FEx B a Ix Jx Ix' Jx' ∧ FMx B wm.2.2.1 Im Jm Im' Jm ∧ JS B a bs t n (-1) dp c r 0 sl (gE1 (gE1 G 27 (fa f 3) [fa f 3]) 25 0 []) (Q0 ∧ gd ∧ Wf fa f st (fun _ => False) G0 G) Ix' Jx' Im' := by
  obtain ⟨hJ, hO, hS, i2, i30, _, _, hd, nn⟩ := h
  have hP : PL w a := PLx H ha
  have hn := hX.2.1
  obtain ⟨v3, o1, o2⟩ := s_52g (K := K) (d := dx + 3) (w := w) (I := Ix) (J := Jx) (x := it f) (k := 3) hP
  have key : r = 0 → gd → v3 = it (fa f 3 : Nat) ∧ Im (B + 53) f = it (fa f 3 : Nat) ∧ fa f 3 ≤ 3 := fun r0 hg => by
    obtain ⟨n1, n2, n3, _⟩ := nn r0
    exact ⟨by rw [o2 f (by omega) (by omega) rfl]; exact ((n2.2.2.2 hg).2 f (Nat.le_refl _)).2.1, (n3.2.2.2 hg f (Nat.le_refl _)).2.2.2.1, ((n1.2.2.2.2 hg).1 f (Nat.le_refl _)).2.2.2.1⟩
  have hJ' : JS B a bs t n (-1) dp c r 0 (sl + 1 + 1) G ((Q0 ∧ gd ∧ Wf fa f st (fun _ => False) G0 G) ∧ r = 0) Ix Jx Im := by
    by_cases r0 : r = 0
    · exact JS_m (fun q => ⟨q, r0⟩) (Nat.le_refl _) hJ
    · exact JS_Q (by have := (JS_c hJ).2.1; omega) hJ
  obtain ⟨Ix1, Jx1, Im1, a1, a2, a3, a4, a5⟩ := JS_e27 (K := K) (d := dx + 2) (e := dy + 7) (Jm := Jm) (g := fa f 3) (gx := v3) (gm := Im (B + 53) f) ha H hp hS.1 hJ' hn (fun q => by
    obtain ⟨k1, k2, k3⟩ := key q.2 q.1.2.1
    exact ⟨k1, k2, k3, by rw [q.1.2.2.2.1]; simp⟩)
  have hS1 := SM_f (WG_r (k := 0)) a4 hS
  obtain ⟨Ix2, Jx2, Im2, b1, b2, b3, b4, b5⟩ := JS_em (K := K) (d := dx + 2) (e := dy + 7) (Jm := Jm) (o := 25) (g := 0) (k := 1) (gx := it ((0 : Nat) : Int)) (gm := it ((0 : Nat) : Int)) (tyx := it (-1)) (b := false) ha H hp hS1.1 a5 hn (by omega) ⟨fun z => (by cases z), fun z => absurd rfl z⟩ 0 [fa f 3] [] (fun q => ⟨rfl, rfl, by
    obtain ⟨g1, g2, g3, g4, g5, g6⟩ := gE1_o (G := G) (o := 27) (g := fa f 3) (st := fa f 3 :: G.2.2.2 G.1)
    rw [g1, g6, q.1.2.2.2.1]; rfl, rfl, by simp, fun z => (by cases z)⟩)
  have e77 : Cl K (dx + 5) 77 [.ref (B + 2)] w Ix Jx = some (none, w, Ix2, Jx2) := by
    apply cl_77 (k := 0)
    unfold f_77
    simp only [it_lit, it_neg, gO_e (yt2 H), gV_e hp, gO_e hP.1]
    have o1' : Cl K (dx + 4) 52 [.ref a, .int (it f), .int (it 3)] w Ix Jx = some (some (.int v3), w, Ix, Jx) := o1
    rw [i2, o1']
    simp only [cI_e, gO_e (yt2 H)]
    have a1' : Cl K (dx + 4) 58 [.ref (B + 2), .int (it 27), .int v3, .int (it 0), .int v3] w Ix Jx = some (none, w, Ix1, Jx1) := a1
    rw [a1']
    simp only [cV_e, gO_e (yt2 H)]
    have b1' : Cl K (dx + 4) 58 [.ref (B + 2), .int (it 25), .int (it 0), .int (it 1), .int (it (-1))] w Ix1 Jx1 = some (none, w, Ix2, Jx2) := b1
    rw [b1']
    rfl
  refine ⟨Ix2, Jx2, Im1, Im2, e77, a2, b2, FEx_t a3 b3, FMx_t (Nat.le_refl _) a4 b4, ?_⟩
  by_cases hq : G.2.2.2 G.1 = []
  · rw [hq] at b5
    exact JS_m (fun q => q.1) (Nat.le_refl _) b5
  · exact JS_f (fun q => hq q.1.2.2.2.1) b5
end BODY

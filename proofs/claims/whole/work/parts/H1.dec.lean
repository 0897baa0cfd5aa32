/-! a declaration, both: all of it -/
/-- what is left of a declaration behind its last sign -/
def DT (K : Nat → Value) (B a : Nat) (bs : Nat → Nat) (t n : Nat) (dp : Int) (w : aW) (f : Nat) (ln : Nat → Nat) (gd : Prop) (st : Nat) (fa0 : Nat → Nat → Nat) (G0 : gG) (Q0 : Prop) (P : Nat → Prop) (dx dy lx lm td p1 p2 cnt c6 r6 sl op : Nat) (ty5 : Int32) (Ix5 : aI) (Jx4 : aJ) (wm5 : aW) (Im6 : aI) (Jm5 : aJ) : Prop :=
  ∃ (Ix6 Ix7 Ix8 : aI) (Jx8 : aJ) (v xv : Int32) (Im7 Im8 Im9 : aI) (cnt' : Nat) (vn' : Nat → Nat) (fa' : Nat → Nat → Nat) (G' : gG), Cl K (dx + 4) 51 [.ref (B + 2), .int (it ((lx : Nat) : Int)), .int (it ((td : Nat) : Int)), .int (it p2)] w Ix5 Jx4 = some (none, w, Ix6, Jx4) ∧ Cl K (dx + 4) 67 [.ref (B + 2), .int (it 1)] w Ix6 Jx4 = some (some (.int v), w, Ix6, Jx4) ∧ Cl K (dx + 4) 68 [.ref (B + 2), .int (it (if v = it ((td : Nat) : Int) then 1 else 0)), .int (it p1)] w Ix6 Jx4 = some (none, w, Ix7, Jx4) ∧ Ix7 (B + 16) lx = xv ∧ Cl K (dx + 4) 58 [.ref (B + 2), .int (it 21), .int xv, .int (it ((1 : Nat) : Int)), .int (it (-1))] w Ix7 Jx4 = some (none, w, Ix8, Jx8)
    ∧ Cl K (dy + 8) 110 [.ref (B + 46), .int (it (if ty5 = it ((td : Nat) : Int) then 1 else 0)), .int (it p1)] wm5 Im6 Jm5 = some (none, wm5, Im7, Jm5) ∧ FMx B wm5.2.2.1 Im6 Jm5 Im7 Jm5 ∧ Cl K (dy + 8) 111 [.ref (B + 46), .int (it 21), .int (it cnt)] wm5 Im7 Jm5 = some (none, wm5, Im8, Jm5) ∧ Cl K (dy + 8) 96 [.ref (B + 46), .int (it ((lm : Nat) : Int)), .int (it ((td : Nat) : Int)), .int (it p2)] wm5 Im8 Jm5 = some (none, wm5, Im9, Jm5) ∧ FSx B a f op Ix5 Jx4 Ix8 Jx8 ∧ FSm B f wm5.2.2.1 Im6 Jm5 Im9 Jm5 ∧ SJ K B a bs t n dp w f ln gd st fa0 G0 Q0 P c6 r6 sl cnt' vn' fa' G' op Ix8 Jx8 wm5 Im9
section DEC
variable {K : Nat → Value} {B d e a : Nat} {w wm wm' : aW} {Ix Im I I' I'' Ix' Im' : aI} {Jx Jm J J' J'' Jx' Jm' : aJ} {bs : Nat → Nat} {t n c r s sl b op m m' : Nat} {pd dp : Int} {G G1 : gG} {Q gd Q0 : Prop} {f cnt st : Nat} {vn ln : Nat → Nat} {fa fa0 : Nat → Nat → Nat} {G0 : gG} {P P' : Nat → Prop}
theorem FSx_d {l cx : Nat} {ty : Int32} (ha : a = B + 8 ∨ a = B + 22) : FSx B a f op I J (dX B a f l cx ty I) J := by
  unfold dX
  refine ⟨fun b x => ?_, fun k _ => ?_, fun k _ => ?_, fun k x => ?_, fun k x => ?_, fun j _ => ⟨?_, ?_, ?_⟩, fun _ _ _ => rfl⟩
  · unfold oX at x; rw [up2_n (by omega), up2_n (by omega), up2_n (by omega)]
  · rw [up2_n (by omega), up2_n (by omega), up2_n (by omega)]
  · rw [up2_n (by omega), up2_n (by omega), up2_n (by omega)]
  · rw [up2_r, up1_n x, up2_n (by omega), up2_n (by omega)]
  · rw [up2_n (by omega), up2_r, up1_n (by omega), up2_n (by omega)]
  · rw [up2_n (by omega), up2_n (by omega), up2_n (by omega)]
  · rw [up2_n (by omega), up2_n (by omega), up2_n (by omega)]
  · rw [up2_n (by omega), up2_n (by omega), up2_n (by omega)]
theorem FSm_d {cm : Nat} {lt ty : Int32} : FSm B f m I J (dM B f cm lt ty I) J := by
  unfold dM
  refine ⟨fun b _ x => ?_, fun k _ => ?_, fun k x => ?_, fun k x => ⟨?_, ?_⟩, fun _ _ => rfl⟩
  · unfold oM at x; rw [up2_n (by omega), up2_n (by omega), up2_n (by omega)]
  · rw [up2_n (by omega), up2_n (by omega), up2_n (by omega)]
  · rw [up2_r, up1_n x, up2_n (by omega), up2_n (by omega)]
  · rw [up2_n (by omega), up2_n (by omega), up2_r, up1_n (by omega)]
  · rw [up2_n (by omega), up2_r, up1_n (by omega), up2_n (by omega)]
theorem dX_o {l cx b : Nat} {ty : Int32} (h : ¬ b = B + 16 ∧ ¬ b = a + 5 ∧ ¬ b = a + 6) : dX B a f l cx ty I b = I b := by
  unfold dX; rw [up2_n (by omega), up2_n (by omega), up2_n (by omega)]
theorem dM_o {cm b : Nat} {lt ty : Int32} (h : ¬ b = B + 52 ∧ ¬ b = B + 54 ∧ ¬ b = B + 55) : dM B f cm lt ty I b = I b := by
  unfold dM; rw [up2_n (by omega), up2_n (by omega), up2_n (by omega)]
theorem D_ok {dx dy lx lm td p1 p2 c6 : Nat} {ty5 : Int32} {Ix5 Im6 : aI} {Jx4 Jm5 : aJ} {wm5 : aW} {τ5 : Nat} {G5 : gG} {Q3 : Prop} (ha : a = B + 8 ∨ a = B + 22) (hX : TX bs t n) (H : Lay B w) (hp : w.2.1 (B + 2) 1 = some a) (n1 : NP f cnt vn fa ln gd) (hl26 : lx < 26) (t3 : td ≤ 3) (htc : p1 ≤ 240) (htc1 : p2 ≤ 240) (hO5 : StO K B w Ix5) (hS6 : SM K B wm5 Im6) (n2c : NX B a f cnt vn fa ln gd Ix5) (n3c : NM B f cnt vn fa ln gd Im6) (e55 : Ix5 (a + 5) (4 * f + 2) = it cnt) (i11 : Ix5 (B + 2) 11 = it op) (n6 : ∀ g k, g < f → fa g k = fa0 g k) (n7 : fLe fa0 fa f) (hdd : gd ∨ (0 ≤ dp ∧ dp ≤ tst bs t c6)) (y4 : Q3 → Q0 ∧ gd ∧ Wf fa f st P G0 G) (hvl : vix vn lx cnt < 0) (c6' : cnt < 6) (hlm : lm = lx + 97) (o5 : JS B a bs t n (-1) dp c6 0 0 (sl + 1) G5 (Q3 ∧ Ext fa f G G5 τ5 50 ∧ τ5 ≤ 3 ∧ ty5 = it τ5) Ix5 Jx4 Im6) : DT K B a bs t n dp w f ln gd st fa0 G0 Q0 P dx dy lx lm td p1 p2 cnt c6 0 sl op ty5 Ix5 Jx4 wm5 Im6 Jm5 := by
  obtain ⟨np1, np2, np3, np4, np5⟩ := id n1
  have hn := hX.2.1
  have h82 := hS6.2.2.2
  subst hlm
  have h53x := n2c.2.1 lx hl26
  have hvb := vix_b vn lx cnt
  obtain ⟨h', Nx, Nm, nfx, nfm, tfx, tfm, xE, mE, _⟩ := id o5
  obtain ⟨In, w1, _⟩ := s_48 (K := K) (d := dx + 2) (J := Jx4) (p := p2) ha H xE htc1
  have e51 := s_51 (K := K) (d := dx + 1) (ty := it ((td : Nat) : Int)) (l := lx) ha H hp np1 hl26 n2c.1 e55 (by omega) w1
  have hno : ¬ (it 0 ≤ Ix5 (B + 16) lx ∨ 6 ≤ cnt) := by
    rw [h53x]
    rintro (q | q)
    · have := (it_le (by omega) (by omega) (by omega) (by omega)).mp q; omega
    · omega
  rw [if_neg hno] at e51
  have hJd := JS_o (Ix' := dX B a f lx cnt (it ((td : Nat) : Int)) Ix5) (Im' := Im6) ha (fun b hb => dX_o (by omega)) (fun _ _ => rfl) o5
  have st5 : ∀ q : Q3, Ext fa f G G5 τ5 50 → G5.2.2.2 G5.1 = [τ5] := fun q q2 => by rw [q2.2.2.2.1, (y4 q).2.2.2.1]
  obtain ⟨v, a1, hJe⟩ := JS_67 (K := K) (d := dx + 3) (i := 1) H hJd (by omega) (by omega) (fun q => by rw [st5 q.1 q.2.1]; simp)
  obtain ⟨Ix7, Im7, b1, b2, b3, b4, b5, _⟩ := JS_ty (K := K) (d := dx + 3) (e := dy + 7) (Jm := Jm5) (p := p1) (v = it ((td : Nat) : Int)) (ty5 = it ((td : Nat) : Int)) ha H hS6.1 hJe htc (by
    rintro ⟨⟨q1, q2, q3, q4⟩, q5⟩
    rw [st5 q1 q2] at q5
    rw [q5, q4]
    exact Iff.rfl)
  have e16 : Ix7 (B + 16) lx = it cnt := by
    rw [b3.1 (B + 16) (by omega) (by omega) (by omega) (by omega) (by omega) (by omega)]
    unfold dX
    rw [up2_n (by omega), up2_n (by omega), up2_r, up1_s]
  obtain ⟨Ix8, Jx8, Im8, d1, d2, d3, d4, d5⟩ := JS_em (K := K) (d := dx + 2) (e := dy + 7) (Jm := Jm5) (o := 21) (g := cnt) (k := 1) (gx := it cnt) (gm := it cnt) (tyx := it (-1)) (b := false) ha H hp hS6.1 b5 hn (by omega) ⟨fun q => (by cases q), fun q => absurd rfl q⟩ 0 [τ5] [] (by
    rintro ⟨⟨⟨q1, q2, q3, q4⟩, q5⟩, q6⟩
    exact ⟨rfl, rfl, by rw [st5 q1 q2]; rfl, rfl, by simp, fun q => (by cases q)⟩)
  have f68 : FMx B wm5.2.2.1 Im6 Jm5 Im8 Jm5 := FMx_t (Nat.le_refl _) b4 d4
  have n3e := NM_f h82 f68 n3c
  obtain ⟨z8, e1, e2, e3, e4⟩ := s_97 (K := K) (d := dy + 6) (J := Jm5) (lt := it ((lx + 97 : Nat) : Int)) hS6.1 n3e.1 np1 n3e.2.1 np2
  have ez := e4 vn lx (fun v hv => ⟨(np3 v hv).1, (n3e.2.2.1 v hv).1⟩) hl26 (by rw [Nat.add_comm])
  have g8 : ¬ 0 ≤ z8 ∧ cnt < 6 := by omega
  obtain ⟨Im9, j1, j2, j3⟩ := JS_nd (K := K) (e := dy + 6) (Jm := Jm5) (p := p2) (¬ 0 ≤ z8 ∧ cnt < 6) hS6.1 d5 htc1 (fun _ => Or.inl g8)
  have f69 := FMx_t (Nat.le_refl _) f68 j2
  have n3f := NM_f h82 f69 n3c
  have hMR9 := (JS_c j3).2.2.2
  have e96 := s_96 (K := K) (d := dy + 6) (ty := it ((td : Nat) : Int)) (r := 0) hS6.1 np1 e2 (by omega) np2 n3e.2.1 n3e.1 e1 j1 hMR9.2.1 (by omega) n3f.1 n3f.2.1
  rw [if_pos ⟨g8, rfl⟩] at e96
  have n2n : NX B a f (cnt + 1) (sm_up1 vn cnt lx) (faD fa f cnt td) ln gd Ix8 := NX_f ha (FEx_t b3 d3) (NX_d ha n1 n2c hl26 hvl)
  have n3n : NM B f (cnt + 1) (sm_up1 vn cnt lx) (faD fa f cnt td) ln gd (dM B f cnt (it ((lx + 97 : Nat) : Int)) (it ((td : Nat) : Int)) Im9) := NM_d n1 n3f
  obtain ⟨q1, q2, q3⟩ := faD_e (fa := fa) (f := f) (cnt := cnt) (ty := td)
  have k1' : ∀ g k, g ≤ f → k = 1 ∨ k = 3 → faD fa f cnt td g k = fa g k := fun g k _ hk => q3 g k (by omega) (by omega)
  have k2' : ∀ v, v < fa f 2 → faD fa f cnt td f (4 + v) = fa f (4 + v) := fun v hv => q3 f (4 + v) (by omega) (by omega)
  have k3' : fa f 2 ≤ faD fa f cnt td f 2 := by rw [q1]; omega
  have k4' : gd → ∀ g v, g ≤ f → v < fa g 1 → faD fa f cnt td g (4 + v) = fa g (4 + v) := fun hg g v hgf hv => q3 g (4 + v) (by omega) (fun y => by
    have := ((np5 hg).1 g hgf).2.1
    obtain ⟨y1, y2⟩ := y
    subst y1
    omega)
  have e5n : Ix8 (a + 5) (4 * f + 2) = it ((cnt + 1 : Nat) : Int) := by
    rw [(FEx_t b3 d3).1 (a + 5) (by omega) (by omega) (by omega) (by omega) (by omega) (by omega)]
    unfold dX
    rw [up2_r, up1_s]
  have e11n : Ix8 (B + 2) 11 = it op := by
    rw [(FEx_t b3 d3).2.1 11 (by omega) (by omega) (by omega), dX_o (by omega)]; exact i11
  have hJf := JS_o (Ix' := Ix8) (Im' := dM B f cnt (it ((lx + 97 : Nat) : Int)) (it ((td : Nat) : Int)) Im9) ha (fun _ _ => rfl) (fun b hb => dM_o (by omega)) j3
  have hS9 := SM_f (WG_r (k := 0)) f69 hS6
  refine ⟨_, Ix7, Ix8, Jx8, v, _, Im7, Im8, _, cnt + 1, sm_up1 vn cnt lx, faD fa f cnt td, gE1 G5 21 cnt [], e51, a1, b1, e16, d1, b2, b4, d2, e96, FSx_t (Nat.le_refl _) (FSx_d ha) (FSx_e ha (FEx_t b3 d3)), FSm_t (Nat.le_refl _) (FSm_e h82 f69) FSm_d, ?_⟩
  refine ⟨JS_m ?_ (by omega) hJf, StO_F ha (FEx_t b3 d3) (StO_c (fun b hb => ⟨dX_o (by omega), rfl, rfl⟩) hO5), ⟨hS9.1, hS9.2.1, StO_c (fun b hb => ⟨dM_o (by omega), rfl, rfl⟩) hS9.2.2.1, hS9.2.2.2⟩, n2n.1, n3n.1, ⟨cnt + 1, by omega, e5n⟩, ⟨cnt + 1, by omega, n3n.2.1⟩, hdd, fun _ => ⟨NP_d n1 c6' hl26 t3, n2n, n3n, e5n, e11n, fun g' k hg' => ?_, fun k hk hk2 => ?_, by rw [q1]; have := n7.2.1; omega, fun v hv => ?_⟩⟩
  · rintro ⟨⟨⟨⟨q1', q2', q3', q4'⟩, q5'⟩, q6'⟩, _⟩
    obtain ⟨w0, wg, wW⟩ := y4 q1'
    rw [st5 q1' q2'] at q5'
    have et : τ5 = td := by
      rw [q5'] at q6'
      exact it_inj (by show τ5 < _; omega) (by omega) q6'
    refine ⟨w0, wg, Wf_e (Wf_m k1' k2' k3' (k4' wg) wW) (Exs_m k1' k2' k3' (k4' wg) (Ext_x q2')) (by omega) (by omega) (by omega) (by simp) ?_ (fun p q => q) (fun q => by rcases q with q | q <;> omega)⟩
    exact Or.inr (Or.inr (Or.inr (Or.inr (Or.inr (Or.inr (Or.inl ⟨rfl, by rw [q1]; omega, by rw [q2, et], rfl⟩))))))
  · rw [q3 g' k (by omega) (by omega)]; exact n6 g' k hg'
  · rw [q3 f k (by omega) (by omega)]; exact n7.1 k hk hk2
  · have := n7.2.1
    rw [q3 f (4 + v) (by omega) (by omega)]; exact n7.2.2 v hv
theorem D_no {dx dy lx lm td p1 p2 c6 : Nat} {ty5 : Int32} {Ix5 Im6 : aI} {Jx4 Jm5 : aJ} {wm5 : aW} {G5 : gG} (ha : a = B + 8 ∨ a = B + 22) (hX : TX bs t n) (H : Lay B w) (hp : w.2.1 (B + 2) 1 = some a) (n1 : NP f cnt vn fa ln gd) (hl26 : lx < 26) (t3 : td ≤ 3) (htc : p1 ≤ 240) (htc1 : p2 ≤ 240) (hO5 : StO K B w Ix5) (hS6 : SM K B wm5 Im6) (n2c : NX B a f cnt vn fa ln gd Ix5) (n3c : NM B f cnt vn fa ln gd Im6) (e55 : Ix5 (a + 5) (4 * f + 2) = it cnt) (i11 : Ix5 (B + 2) 11 = it op) (n6 : ∀ g k, g < f → fa g k = fa0 g k) (n7 : fLe fa0 fa f) (hdd : gd ∨ (0 ≤ dp ∧ dp ≤ tst bs t c6)) (hvl : ¬ (vix vn lx cnt < 0 ∧ cnt < 6)) (hlm : lm = lx + 97) (o5 : JS B a bs t n p2 dp c6 0 0 (sl + 1) G5 False Ix5 Jx4 Im6) : DT K B a bs t n dp w f ln gd st fa0 G0 Q0 P dx dy lx lm td p1 p2 cnt c6 0 sl op ty5 Ix5 Jx4 wm5 Im6 Jm5 := by
  obtain ⟨np1, np2, np3, np4, np5⟩ := id n1
  have hn := hX.2.1
  have h82 := hS6.2.2.2
  subst hlm
  have h53x := n2c.2.1 lx hl26
  have hvb := vix_b vn lx cnt
  obtain ⟨In, Im7, Im8, Im9, v, w1, w2, w3, w4, w5, w6, w7, w8, w9, w10, w11⟩ := JS_B (K := K) (d := dx) (e := dy + 6) (Jm := Jm5) (p := p1) (p2 := p2) (gm := it cnt) (ty5 = it ((td : Nat) : Int)) ha H hp hS6 hn o5 htc htc1
  have e51 := s_51 (K := K) (d := dx + 1) (ty := it ((td : Nat) : Int)) (l := lx) ha H hp np1 hl26 n2c.1 e55 (by omega) w1
  have hno : it 0 ≤ Ix5 (B + 16) lx ∨ 6 ≤ cnt := by
    rw [h53x]
    by_cases q : 6 ≤ cnt
    · exact Or.inr q
    · left
      have : 0 ≤ vix vn lx cnt := by omega
      exact ((it_le (by omega) (by omega) (by omega) (by omega)).mpr (by omega))
  rw [if_pos hno] at e51
  obtain ⟨Ix7, Ix8, Jx8, k1, k2, k3, k4, k5⟩ := w11 (v = it ((td : Nat) : Int)) (In (B + 16) lx)
  have e16 : Ix7 (B + 16) lx = In (B + 16) lx := by rw [k3.1 (B + 16) (by omega) (by omega) (by omega) (by omega) (by omega) (by omega)]
  have n3e := NM_f h82 w8 n3c
  have n3f := NM_f h82 w9 n3c
  obtain ⟨z8, e1, e2, e3, e4⟩ := s_97 (K := K) (d := dy + 6) (J := Jm5) (lt := it ((lx + 97 : Nat) : Int)) hS6.1 n3e.1 np1 n3e.2.1 np2
  have ez := e4 vn lx (fun v hv => ⟨(np3 v hv).1, (n3e.2.2.1 v hv).1⟩) hl26 (by rw [Nat.add_comm])
  have g8 : ¬ (¬ 0 ≤ z8 ∧ cnt < 6) := by omega
  have e96 := s_96 (K := K) (d := dy + 6) (ty := it ((td : Nat) : Int)) (pl := it p2) (In := Im9) (r := 0) hS6.1 np1 e2 (by omega) np2 n3e.2.1 n3e.1 e1 (by rw [if_neg g8]; exact w6) w10 (by omega) n3f.1 n3f.2.1
  rw [if_neg (fun q => g8 q.1)] at e96
  have fxx := FEx_t (FEx_t w2 k3) k4
  refine ⟨In, Ix7, Ix8, Jx8, v, _, Im7, Im8, Im9, cnt, vn, fa, G5, e51, w3, k1, e16, k2, w4, w7, w5, e96, FSx_e ha fxx, FSm_e h82 w9, ?_⟩
  have e5 : Ix8 (a + 5) = Ix5 (a + 5) := fxx.1 (a + 5) (by omega) (by omega) (by omega) (by omega) (by omega) (by omega)
  exact ⟨JS_m (fun q => q.elim) (Nat.le_refl _) k5, StO_F ha fxx hO5, SM_f (WG_r (k := 0)) w9 hS6, (NX_f ha fxx n2c).1, n3f.1, ⟨cnt, np2, by rw [e5]; exact e55⟩, ⟨cnt, np2, n3f.2.1⟩, hdd, fun _ => ⟨n1, NX_f ha fxx n2c, n3f, by rw [e5]; exact e55, by rw [fxx.2.1 11 (by omega) (by omega) (by omega)]; exact i11, n6, n7⟩⟩
theorem D_r1 {dx dy lx lm td p1 p2 c6 : Nat} {ty5 : Int32} {Ix5 Im6 : aI} {Jx4 Jm5 : aJ} {wm5 : aW} {G5 : gG} (ha : a = B + 8 ∨ a = B + 22) (hX : TX bs t n) (H : Lay B w) (hp : w.2.1 (B + 2) 1 = some a) (n1 : NP f cnt vn fa ln gd) (hl26 : lx < 26) (t3 : td ≤ 3) (htc : p1 ≤ 240) (htc1 : p2 ≤ 240) (hO5 : StO K B w Ix5) (hS6 : SM K B wm5 Im6) (n2c : NX B a f cnt vn fa ln gd Ix5) (n3c : NM B f cnt vn fa ln gd Im6) (e55 : Ix5 (a + 5) (4 * f + 2) = it cnt) (i11 : Ix5 (B + 2) 11 = it op) (n6 : ∀ g k, g < f → fa g k = fa0 g k) (n7 : fLe fa0 fa f) (hdd : gd ∨ (0 ≤ dp ∧ dp ≤ tst bs t c6)) (o5 : JS B a bs t n pd dp c6 1 0 (sl + 1) G5 Q Ix5 Jx4 Im6) : DT K B a bs t n dp w f ln gd st fa0 G0 Q0 P dx dy lx lm td p1 p2 cnt c6 1 sl op ty5 Ix5 Jx4 wm5 Im6 Jm5 := by
  obtain ⟨np1, np2, np3, np4, np5⟩ := id n1
  have hn := hX.2.1
  have h82 := hS6.2.2.2
  have o6 : JS B a bs t n (-1) dp c6 1 0 (sl + 1) G5 False Ix5 Jx4 Im6 := JS_r1 rfl o5
  obtain ⟨In, w1, w2, w3⟩ := JS_xd (K := K) (d := dx + 2) (p := p2) ha H o6 htc1 (fun z => by omega)
  have e51 := s_51 (K := K) (d := dx + 1) (ty := it ((td : Nat) : Int)) (l := lx) ha H hp np1 hl26 n2c.1 e55 (by omega) w1
  obtain ⟨Ix6, h6⟩ : ∃ Ix6, (if it 0 ≤ Ix5 (B + 16) lx ∨ 6 ≤ cnt then In else dX B a f lx cnt (it ((td : Nat) : Int)) Ix5) = Ix6 := ⟨_, rfl⟩
  rw [h6] at e51
  have p6 : JS B a bs t n (-1) dp c6 1 0 (sl + 1) G5 False Ix6 Jx4 Im6 ∧ FSx B a f op Ix5 Jx4 Ix6 Jx4 ∧ StO K B w Ix6 ∧ Ix6 (B + 2) 2 = it f ∧ ∃ cx : Nat, cx ≤ 6 ∧ Ix6 (a + 5) (4 * f + 2) = it cx := by
    subst h6
    by_cases q : it 0 ≤ Ix5 (B + 16) lx ∨ 6 ≤ cnt
    · rw [if_pos q]
      exact ⟨w3, FSx_e ha w2, StO_F ha w2 hO5, (NX_f ha w2 n2c).1, cnt, np2, by rw [w2.1 (a + 5) (by omega) (by omega) (by omega) (by omega) (by omega) (by omega)]; exact e55⟩
    · rw [if_neg q]
      exact ⟨JS_o ha (fun b hb => dX_o (by omega)) (fun _ _ => rfl) o6, FSx_d ha, StO_c (fun b hb => ⟨dX_o (by omega), rfl, rfl⟩) hO5, by rw [dX_o (by omega)]; exact n2c.1, cnt + 1, by omega, by unfold dX; rw [up2_r, up1_s]⟩
  obtain ⟨p61, p62, p63, p64, cx, p65, p66⟩ := p6
  obtain ⟨v, a1, hJe⟩ := JS_67 (K := K) (d := dx + 3) (i := 1) H p61 (by omega) (by omega) (fun q => q.elim)
  obtain ⟨Ix7, Im7, b1, b2, b3, b4, b5, _⟩ := JS_ty (K := K) (d := dx + 3) (e := dy + 7) (Jm := Jm5) (p := p1) (v = it ((td : Nat) : Int)) (ty5 = it ((td : Nat) : Int)) ha H hS6.1 hJe htc (fun q => q.1.elim)
  obtain ⟨Ix8, Jx8, Im8, d1, d2, d3, d4, d5⟩ := JS_em (K := K) (d := dx + 2) (e := dy + 7) (Jm := Jm5) (o := 21) (g := cnt) (k := 1) (gx := Ix7 (B + 16) lx) (gm := it cnt) (tyx := it (-1)) (b := false) ha H hp hS6.1 b5 hn (by omega) ⟨fun q => (by cases q), fun q => absurd rfl q⟩ 0 [] [] (fun q => q.1.1.elim)
  have f68 : FMx B wm5.2.2.1 Im6 Jm5 Im8 Jm5 := FMx_t (Nat.le_refl _) b4 d4
  have n3e := NM_f h82 f68 n3c
  obtain ⟨z8, e1, e2, e3, _⟩ := s_97 (K := K) (d := dy + 6) (J := Jm5) (lt := it ((lm : Nat) : Int)) hS6.1 n3e.1 np1 n3e.2.1 np2
  obtain ⟨Im9, j1, j2, j3⟩ := JS_nd (K := K) (e := dy + 6) (Jm := Jm5) (p := p2) (¬ 0 ≤ z8 ∧ cnt < 6) hS6.1 d5 htc1 (fun z => by omega)
  have f69 := FMx_t (Nat.le_refl _) f68 j2
  have n3f := NM_f h82 f69 n3c
  have hMR9 := (JS_c j3).2.2.2
  have e96 := s_96 (K := K) (d := dy + 6) (ty := it ((td : Nat) : Int)) (r := 1) hS6.1 np1 e2 (by omega) np2 n3e.2.1 n3e.1 e1 j1 hMR9.2.1 (by omega) n3f.1 n3f.2.1
  rw [if_neg (fun q => by have := q.2; omega)] at e96
  have fxx := FEx_t b3 d3
  refine ⟨Ix6, Ix7, Ix8, Jx8, v, _, Im7, Im8, Im9, cnt, vn, fa, G5, e51, a1, b1, rfl, d1, b2, b4, d2, e96, FSx_t (Nat.le_refl _) p62 (FSx_e ha fxx), FSm_e h82 f69, ?_⟩
  exact ⟨JS_Q rfl j3, StO_F ha fxx p63, SM_f (WG_r (k := 0)) f69 hS6, by rw [fxx.2.1 2 (by omega) (by omega) (by omega)]; exact p64, n3f.1, ⟨cx, p65, by rw [fxx.1 (a + 5) (by omega) (by omega) (by omega) (by omega) (by omega) (by omega)]; exact p66⟩, ⟨cnt, np2, n3f.2.1⟩, hdd, fun z => by omega⟩
end DEC

/-! what a statement and a block leave -/
/-- the class's loop goes on, or has ended -/
def LoopR (K : Nat → Value) (B n dx : Nat) (w : aW) (L : Option aR) (c' r' : Nat) (Ix' : aI) (Jx' : aJ) : Prop := (r' = 0 ∧ ∃ kx' i', L = f_55_9 K kx' (dx + 5) (B + 2) (it ((i' : Nat) : Int)) w Ix' Jx' ∧ n + 5 ≤ c' + kx' ∧ i' + 5 ≤ c') ∨ (r' = 1 ∧ L = some (none, w, Ix', Jx'))
def slR (r' sl : Nat) : Nat := if r' = 0 then sl + 2 else sl
section BLK
variable {K : Nat → Value} {B d e a : Nat} {w wm wm' : aW} {Ix Im I I' I'' Ix' Im' : aI} {Jx Jm J J' J'' Jx' Jm' : aJ} {bs : Nat → Nat} {t n c r s sl sl' b op op' m m' : Nat} {pd dp : Int} {G G1 G' : gG} {Q gd Q0 Q0' : Prop} {f cnt cnt' st st' : Nat} {vn vn' ln : Nat → Nat} {fa fa' fa0 fa0' : Nat → Nat → Nat} {G0 G0' : gG} {P P' : Nat → Prop}
theorem SJ_a (hs : sl' ≤ sl) (h : SJ K B a bs t n dp w f ln gd st fa0 G0 Q0 P c 1 sl cnt vn fa G op Ix Jx wm Im) : SJ K B a bs t n dp w f ln gd st' fa0' G0' Q0' P' c 1 sl' cnt' vn' fa' G' op' Ix Jx wm Im := by
  obtain ⟨j, o, sm, i2, i30, h1, h2, hd, nn⟩ := h
  exact ⟨JS_m (fun z => z) hs (JS_Q rfl j), o, sm, i2, i30, h1, h2, hd, fun z => by omega⟩
theorem SJ_s (hs : sl' ≤ sl) (h : SJ K B a bs t n dp w f ln gd st fa0 G0 Q0 P c r sl cnt vn fa G op Ix Jx wm Im) : SJ K B a bs t n dp w f ln gd st fa0 G0 Q0 P c r sl' cnt vn fa G op Ix Jx wm Im := by
  obtain ⟨j, o⟩ := h
  exact ⟨JS_m (fun z => z) hs j, o⟩
/-- the class's loop has ended, refused -/
theorem SJ_z (ha : a = B + 8 ∨ a = B + 22) (h : SJ K B a bs t n dp w f ln gd st fa0 G0 Q0 P c r sl cnt vn fa G op Ix Jx wm Im) (hM : MR B bs t n c 1 Im → True) (hr : r = 1) (x1 : XT B bs t n c 1 Ix') (x2 : ∀ b, ¬ b = B + 2 → ¬ b = B + 3 → Ix' b = Ix b) (x3 : ∀ k, ¬ k = 11 → Ix' (B + 2) k = Ix (B + 2) k) : SJ K B a bs t n dp w f ln gd st fa0 G0 Q0 P c 1 sl cnt vn fa G op Ix' Jx wm Im := by
  subst hr
  obtain ⟨⟨h, Nx, Nm, nfx, nfm, tfx, tfm, ⟨x0, xr⟩, mE, b1, b2, _⟩, o, sm, i2, i30, ⟨cx, c1, c2⟩, h2, hd, nn⟩ := h
  refine ⟨⟨h, Nx, Nm, nfx, nfm, tfx, tfm, ⟨x1, ?_⟩, mE, b1, b2, fun z => by omega⟩, StO_c (fun b hb => ⟨x2 b (by omega) (by omega), rfl, rfl⟩) o, sm, by rw [x3 2 (by omega)]; exact i2, i30, ⟨cx, c1, by rw [x2 (a + 5) (by omega) (by omega)]; exact c2⟩, h2, hd, fun z => by omega⟩
  rw [x3 6 (by omega), x3 7 (by omega), x3 8 (by omega), x2 a (by omega) (by omega)]
  exact xr
theorem FSx_z (ha : a = B + 8 ∨ a = B + 22) (x2 : ∀ b, ¬ b = B + 2 → ¬ b = B + 3 → I' b = I b) (x3 : ∀ k, ¬ k = 11 → I' (B + 2) k = I (B + 2) k) : FSx B a f op I J I' J := by
  refine ⟨fun b x => ?_, fun k x => x3 k x.2.2.2, fun k _ => ?_, fun k _ => ?_, fun k _ => ?_, fun j _ => ⟨?_, ?_, ?_⟩, fun _ _ _ => rfl⟩
  · unfold oX at x; exact x2 b (by omega) (by omega)
  · rw [x2 a (by omega) (by omega)]
  · rw [x2 (a + 5) (by omega) (by omega)]
  · rw [x2 (a + 6) (by omega) (by omega)]
  · rw [x2 (B + 19) (by omega) (by omega)]
  · rw [x2 (B + 20) (by omega) (by omega)]
  · rw [x2 (B + 21) (by omega) (by omega)]
/-- the reference goes on alone, refused -/
theorem R1_117 {q : Nat} (hq : q ≤ 1000) (h : SJ K B a bs t n dp w f ln gd st fa0 G0 Q0 P c 1 sl cnt vn fa G op Ix Jx wm Im) : ∃ Im', Cl K (e + 1) 117 [.ref (B + 46), .int (it q)] wm Im Jm = some (none, wm, Im', Jm) ∧ FMx B wm.2.2.1 Im Jm Im' Jm ∧ SJ K B a bs t n dp w f ln gd st fa0 G0 Q0 P c 1 sl cnt vn fa G op Ix Jx wm Im' := by
  obtain ⟨⟨h, Nx, Nm, nfx, nfm, tfx, tfm, xE, mE, b1, b2, _⟩, o, sm, i2, i30, h1, ⟨cm, c3, c4⟩, hd, nn⟩ := h
  have hM := mE.2.2.2.2.2.2.2.2.2.1
  have f2 : FMx B wm.2.2.1 Im Jm (if q < 300 then sm_up2 Im (B + 57) q (it Nm) else Im) Jm ∧ ME B bs t n c 1 0 Nm nfm tfm (if q < 300 then sm_up2 Im (B + 57) q (it Nm) else Im) := by
    by_cases e : q < 300
    · rw [if_pos e]
      exact ⟨⟨fun b _ _ _ h6 => up2_n h6, fun k _ _ _ _ _ _ _ _ _ => by rw [up2_n (by omega)], fun _ _ => rfl⟩, ⟨MR_g (up2_n (by omega)) (up2_n (by omega)) mE.1, by rw [up2_n (by omega)]; exact mE.2⟩⟩
    · rw [if_neg e]; exact ⟨FMx_r, mE⟩
  have h82 := sm.2.2.2
  refine ⟨_, s_117 (d := e) sm.1 hM hq, f2.1, ⟨h, Nx, Nm, nfx, nfm, tfx, tfm, xE, f2.2, b1, b2, fun z => by omega⟩, o, SM_f (WG_r (k := 0)) f2.1 sm, i2, ?_, h1, ⟨cm, c3, ?_⟩, hd, fun z => by omega⟩
  · rw [f2.1.2.1 30 (by omega) (by omega) (by omega) (by omega) (by omega) (by omega) (by omega) (by omega) (by omega)]; exact i30
  · rw [f2.1.1 (B + 52) (by omega) (by omega) (by omega) (by omega)]; exact c4
theorem R1_111 {oo g : Int32} (hn : n ≤ 240) (h : SJ K B a bs t n dp w f ln gd st fa0 G0 Q0 P c 1 (sl + 1) cnt vn fa G op Ix Jx wm Im) : ∃ Im', Cl K (e + 1) 111 [.ref (B + 46), .int oo, .int g] wm Im Jm = some (none, wm, Im', Jm) ∧ FMx B wm.2.2.1 Im Jm Im' Jm ∧ SJ K B a bs t n dp w f ln gd st fa0 G0 Q0 P c 1 sl cnt vn fa G op Ix Jx wm Im' := by
  obtain ⟨⟨h, Nx, Nm, nfx, nfm, tfx, tfm, xE, mE, b1, b2, _⟩, o, sm, i2, i30, h1, ⟨cm, c3, c4⟩, hd, nn⟩ := h
  have hc := xE.1.2.2.2.1
  obtain ⟨Im', u1, u2, u3, u4⟩ := s_111 (K := K) (d := e) (J := Jm) (o := oo) (g := g) (m := wm.2.2.1) sm.1 mE (by omega)
  have h82 := sm.2.2.2
  refine ⟨Im', u1, u2, ⟨h, Nx, Nm + 1, nfx, nfm, tfx, tfm, xE, u3, by omega, by omega, fun z => by omega⟩, o, SM_f (WG_r (k := 0)) u2 sm, i2, ?_, h1, ⟨cm, c3, ?_⟩, hd, fun z => by omega⟩
  · rw [u2.2.1 30 (by omega) (by omega) (by omega) (by omega) (by omega) (by omega) (by omega) (by omega) (by omega)]; exact i30
  · rw [u2.1 (B + 52) (by omega) (by omega) (by omega) (by omega)]; exact c4
/-- the reference's block at a fault -/
theorem R1_98 {y km : Nat} (hX : TX bs t n) (h : SJ K B a bs t n dp w f ln gd st fa0 G0 Q0 P c 1 sl cnt vn fa G op Ix Jx wm Im) : ∃ Im', f_98_6 K (km + 1) (y + 8) (B + 46) wm Im Jm = some (none, wm, Im', Jm) ∧ FMx B wm.2.2.1 Im Jm Im' Jm ∧ SJ K B a bs t n dp w f ln gd st fa0 G0 Q0 P c 1 sl cnt vn fa G op Ix Jx wm Im' := by
  obtain ⟨⟨h, Nx, Nm, nfx, nfm, tfx, tfm, xE, mE, b1, b2, _⟩, o, sm, i2, i30, h1, ⟨cm, c3, c4⟩, hd, nn⟩ := h
  obtain ⟨Im', u1, u2, u3⟩ := s_93 (K := K) (d := y) (J := Jm) hX sm.1 sm.2.1 sm.2.2.1 mE.1 (x := 125) (show it 125 = it ((125 : Nat) : Int) from rfl) (by decide)
  have kn : ¬ kX bs t c 1 = 125 := by unfold kX; rw [if_neg (by omega)]; omega
  unfold nxC nxR at u3
  rw [if_neg kn, if_neg kn] at u3
  have f2 : FMx B wm.2.2.1 Im Jm Im' Jm := FMx_6 u2
  have h82 := sm.2.2.2
  refine ⟨Im', ?_, f2, ⟨h, Nx, Nm, nfx, nfm, tfx, tfm, xE, ME_6 mE u2 u3, b1, b2, fun z => by omega⟩, o, SM_f (WG_r (k := 0)) f2 sm, i2, ?_, h1, ⟨cm, c3, ?_⟩, hd, fun z => by omega⟩
  · rw [f_98_6]
    simp only [it_lit, lt_p, gO_e (yt46 sm.1)]
    rw [mE.1.2.1, if_pos (by decide)]
    unfold f_98_29
    simp only [it_lit, gO_e (yt46 sm.1)]
    rw [u1]
    rfl
  · rw [f2.2.1 30 (by omega) (by omega) (by omega) (by omega) (by omega) (by omega) (by omega) (by omega) (by omega)]; exact i30
  · rw [f2.1 (B + 52) (by omega) (by omega) (by omega) (by omega)]; exact c4
/-- code of a block joined to what is ahead of it -/
theorem Wf_j (hr : ∀ g k, g ≤ f → k = 1 ∨ k = 3 → fa' g k = fa g k) (hv : ∀ v, v < fa f 2 → fa' f (4 + v) = fa f (4 + v)) (hc : fa f 2 ≤ fa' f 2) (hp : ∀ g v, g ≤ f → v < fa g 1 → fa' g (4 + v) = fa g (4 + v)) (hW : Wf fa f st P G0 G) (hW2 : Wf fa' f G.1 (fun _ => False) G G') : Wf fa' f st P G0 G' := by
  obtain ⟨w1, w2, w3, w4, w5, w6⟩ := Wf_m hr hv hc hp hW
  obtain ⟨v1, v2, v3, v4, v5, v6⟩ := hW2
  refine ⟨by omega, v2, fun p hp => ?_, fun p hp => ?_, fun p p1 p2 => ?_, fun p q q1 p2 p3 p4 p5 q2 q3 q4 => ?_⟩
  · rw [(v3 p (by omega)).1, (v3 p (by omega)).2]; exact w3 p hp
  · rw [v4 p (by omega)]; exact w4 p hp
  · by_cases e : p < G.1
    · obtain ⟨y1, y2, y3, y4, y5⟩ := w5 p p1 e
      rw [(v3 p e).1, (v3 p e).2, v4 p (by omega), v4 (p + 1) (by omega)]
      refine ⟨y1, y2, y3, y4, fun j np => ?_⟩
      obtain ⟨z1, z2, z3, z4⟩ := y5 j np
      exact ⟨z1, by omega, by rw [v4 _ z2]; exact z3, z4⟩
    · obtain ⟨y1, y2, y3, y4, y5⟩ := v5 p (by omega) p2
      exact ⟨y1, y2, y3, y4, fun j _ => by obtain ⟨z1, z2, z3, z4⟩ := y5 j id; exact ⟨by omega, z2, z3, z4⟩⟩
  · by_cases e : p < G.1
    · rw [(v3 p e).1] at p3
      rw [(v3 p e).2] at p5 q2 ⊢
      have eq : q < G.1 := by omega
      rw [(v3 q eq).1] at q3
      rw [(v3 q eq).2]
      exact w6 p q q1 e p3 p4 p5 q2 q3 q4
    · obtain ⟨z1, z2, z3, z4⟩ := (v5 p (by omega) p2).2.2.2.2 (Or.inr p3) id
      by_cases eq : q < G.1
      · left
        rw [(v3 q eq).1] at q3
        rw [(v3 q eq).2]
        have := ((w5 q q1 eq).2.2.2.2 q3 q4).2.1
        omega
      · exact v6 p q (by omega) p2 p3 id p5 q2 q3 id
end BLK

/-! the head of a fun up to its parameters, both -/
/-- the row of a fun that begins -/
def fa1 (fa : Nat → Nat → Nat) (f N : Nat) : Nat → Nat → Nat := fun g k => if g = f then (if k = 0 then N else 0) else fa g k
section HEAD
variable {K : Nat → Value} {B d e a : Nat} {w wm wm' : aW} {Ix Im I I' I'' Ix' Im' : aI} {Jx Jm J J' J'' Jx' Jm' : aJ} {bs : Nat → Nat} {t n c r s sl sl' b op op' m m' : Nat} {pd dp dp0 : Int} {G G1 G' Gs G2 G3 : gG} {Q Qh gd Q0 Q0' : Prop} {f cnt cnt' st st' lp pc pm : Nat} {vn vn' ln : Nat → Nat} {fa fa' fa0 fa0' fs : Nat → Nat → Nat} {G0 G0' : gG} {P P' : Nat → Prop}
/-- the tables of the funs ahead, and the name of this one -/
def FTn (B a f : Nat) (ln : Nat → Nat) (fa : Nat → Nat → Nat) (Ix Im : aI) : Prop := (∀ g, g < f → ln g < 26 ∧ fa g 1 ≤ fa g 2 ∧ fa g 2 ≤ 6 ∧ fa g 3 ≤ 3 ∧ ∀ v, v < fa g 2 → fa g (4 + v) ≤ 3) ∧ ln f < 26 ∧ (∀ g g', g ≤ f → g' ≤ f → ln g = ln g' → g = g') ∧ (∀ l, l < 26 → Ix (B + 15) l = it (vix ln l (f + 1))) ∧ (∀ g, g < f → (∀ k, 1 ≤ k → k < 4 → Ix (a + 5) (4 * g + k) = it (fa g k)) ∧ ∀ v, v < fa g 2 → Ix (a + 6) (6 * g + v) = it (fa g (4 + v))) ∧ (∀ g, g < f → Im (B + 49) g = it (97 + ln g : Nat) ∧ Im (B + 51) g = it (fa g 1) ∧ Im (B + 52) g = it (fa g 2) ∧ Im (B + 53) g = it (fa g 3) ∧ ∀ v, v < fa g 2 → Im (B + 55) (6 * g + v) = it (fa g (4 + v))) ∧ Im (B + 49) f = it (97 + ln f : Nat)
/-- a note of the class changes one field -/
theorem f_48f {p : Nat} {Ix5 : aI} (ha : a = B + 8 ∨ a = B + 22) (H : Lay B w) (hJ : JS B a bs t n pd dp c r s sl G Q Ix Jx Im) (hp : p ≤ 240) (p1 : Cl K (d + 1) 48 [.ref (B + 2), .int (it p)] w Ix Jx = some (none, w, Ix5, Jx)) : (∀ b, ¬ b = B + 15 → ¬ b = B + 2 → Ix5 b = Ix b) ∧ (∀ k, ¬ k = 6 → Ix5 (B + 2) k = Ix (B + 2) k) ∧ Ix5 (B + 15) = Ix (B + 15) := by
  obtain ⟨h', Nx, Nm, nfx, nfm, tfx, tfm, xE, mE, _⟩ := id hJ
  obtain ⟨hT, h6, k1, k2, _⟩ := xE
  have : f_48 K 0 d (B + 2) (it p) w Ix Jx = some (none, w, sm_up2 Ix (B + 2) 6 (it (mnf nfx p)), Jx) := by
    unfold f_48
    simp only [it_lit, gO_e (yt2 H)]
    rw [h6]
    unfold f_48_20 mnf
    simp only [gO_e (yt2 H), lt_p]
    by_cases e : nfx < 0
    · rw [if_neg (fun q => by have := (it_le (by omega) (by omega) (by omega) (by omega)).mp q; omega), if_pos e]
    · rw [if_pos ((it_le (by omega) (by omega) (by omega) (by omega)).mpr (by omega)), if_neg e]
      by_cases e2 : (p : Int) < nfx
      · rw [if_pos ((it_lt (by omega) (by omega) (by omega) (by omega)).mpr (by omega)), if_pos e2]
      · rw [if_neg (fun q => by have := (it_lt (by omega) (by omega) (by omega) (by omega)).mp q; omega), if_neg e2]
  have e2 := cl_48 (k := 0) this
  rw [p1] at e2
  injection e2 with e2
  injection e2 with _ e2
  injection e2 with _ e2
  injection e2 with e2 _
  subst e2
  exact ⟨fun b _ h2 => up2_n h2, fun k hk => by rw [up2_r, up1_n hk], up2_n (by omega)⟩
/-- names noted, or not, by both: behind a fun's name -/
theorem N_fun {dx dy lx lm lp : Nat} {Qx : Prop} (ha : a = B + 8 ∨ a = B + 22) (H : Lay B w) (hS : SM K B wm Im) (hJ : JS B a bs t n (-1) dp c r 0 sl G (gd ∧ Qx) Ix Jx Im) (hl : lx < 26) (hlp : lp ≤ 240) (hdp : dp ≤ (lp : Nat)) (hg : gd ∨ 0 ≤ dp) (nw : Prop) [Decidable nw] (hn : r = 0 → gd → (nw ↔ Ix (B + 15) lx < it 0)) :
    ∃ (Ix5 Im5 : aI) (gd' : Prop) (dp' : Int), ((Ix (B + 15) lx < it 0 ∧ Ix5 = sm_up2 Ix (B + 15) lx (Ix (B + 2) 2)) ∨ (¬ Ix (B + 15) lx < it 0 ∧ Cl K (dx + 4) 48 [.ref (B + 2), .int (it lp)] w Ix Jx = some (none, w, Ix5, Jx))) ∧ Cl K (dy + 8) 92 [.ref (B + 46), .int (it (if nw then 1 else 0)), .int (it lp)] wm Im Jm = some (none, wm, Im5, Jm) ∧ (∀ b, ¬ b = B + 15 → ¬ b = B + 2 → Ix5 b = Ix b) ∧ (∀ k, ¬ k = 6 → Ix5 (B + 2) k = Ix (B + 2) k) ∧ FMx B wm.2.2.1 Im Jm Im5 Jm ∧ dp' ≤ (lp : Nat) ∧ (gd' ∨ 0 ≤ dp') ∧ (r = 0 → gd' → gd ∧ dp' = dp ∧ nw ∧ Ix (B + 15) lx < it 0 ∧ Ix5 = sm_up2 Ix (B + 15) lx (Ix (B + 2) 2)) ∧ JS B a bs t n (-1) dp' c r 0 sl G (gd' ∧ Qx) Ix5 Jx Im5 := by
  by_cases hr : r = 0 ∧ gd
  · obtain ⟨r0, g⟩ := hr
    have hnw := hn r0 g
    by_cases q : Ix (B + 15) lx < it 0
    · obtain ⟨Im5, u1, u2, u3⟩ := JS_nd (K := K) (e := dy + 7) (Jm := Jm) (p := lp) nw hS.1 hJ hlp (fun _ => Or.inl (hnw.mpr q))
      refine ⟨sm_up2 Ix (B + 15) lx (Ix (B + 2) 2), Im5, gd, dp, Or.inl ⟨q, rfl⟩, u1, fun b h1 _ => up2_n h1, fun k _ => by rw [up2_n (by omega)], u2, hdp, hg, fun _ y => ⟨y, rfl, hnw.mpr q, q, rfl⟩, JS_o ha (fun b hb => up2_n (by omega)) (fun _ _ => rfl) (JS_m (fun y => y.1) (Nat.le_refl _) u3)⟩
    · obtain ⟨Ix5, Im5, p1, p2, p3, p4, p5⟩ := JS_nq (K := K) (d := dx + 3) (e := dy + 7) (Jm := Jm) (p := lp) (dp' := if dp < 0 then ((lp : Nat) : Int) else dp) ha H hS.1 hJ hlp rfl
      have hno : ¬ nw := fun y => q (hnw.mp y)
      have e48 := f_48f ha H hJ hlp p1
      refine ⟨Ix5, Im5, False, _, Or.inr ⟨q, p1⟩, by rw [if_neg hno]; exact p2, e48.1, e48.2.1, p4, ?_, Or.inr ?_, fun _ y => y.elim, JS_m (fun y => y.elim) (Nat.le_refl _) p5⟩
      · split <;> omega
      · split <;> omega
  · have hdr : r = 0 → 0 ≤ dp ∧ dp ≤ lp := fun r0 => ⟨hg.resolve_left (fun g => hr ⟨r0, g⟩), hdp⟩
    have hf : JS B a bs t n (-1) dp c r 0 sl G False Ix Jx Im := by
      by_cases r0 : r = 0
      · exact JS_m (fun y => hr ⟨r0, y.1⟩) (Nat.le_refl _) hJ
      · exact JS_Q (by have := (JS_c hJ).2.1; omega) hJ
    have cls : ∃ Ix5, ((Ix (B + 15) lx < it 0 ∧ Ix5 = sm_up2 Ix (B + 15) lx (Ix (B + 2) 2)) ∨ (¬ Ix (B + 15) lx < it 0 ∧ Cl K (dx + 4) 48 [.ref (B + 2), .int (it lp)] w Ix Jx = some (none, w, Ix5, Jx))) ∧ (∀ b, ¬ b = B + 15 → ¬ b = B + 2 → Ix5 b = Ix b) ∧ (∀ k, ¬ k = 6 → Ix5 (B + 2) k = Ix (B + 2) k) ∧ JS B a bs t n (-1) dp c r 0 sl G False Ix5 Jx Im := by
      by_cases q : Ix (B + 15) lx < it 0
      · exact ⟨_, Or.inl ⟨q, rfl⟩, fun b h1 _ => up2_n h1, fun k _ => by rw [up2_n (by omega)], JS_o ha (fun b hb => up2_n (by omega)) (fun _ _ => rfl) hf⟩
      · obtain ⟨Ix5, p1, p2, p3⟩ := JS_xd (K := K) (d := dx + 3) (p := lp) ha H hf hlp hdr
        have e48 := f_48f ha H hf hlp p1
        exact ⟨Ix5, Or.inr ⟨q, p1⟩, e48.1, e48.2.1, p3⟩
    obtain ⟨Ix5, c1, c2, c3, c4⟩ := cls
    obtain ⟨Im5, u1, u2, u3⟩ := JS_nd (K := K) (e := dy + 7) (Jm := Jm) (p := lp) nw hS.1 c4 hlp (fun r0 => Or.inr (hdr r0))
    by_cases r0 : r = 0
    · exact ⟨Ix5, Im5, False, dp, c1, u1, c2, c3, u2, hdp, Or.inr (hdr r0).1, fun _ y => y.elim, JS_m (fun y => y.1.elim) (Nat.le_refl _) u3⟩
    · exact ⟨Ix5, Im5, True, dp, c1, u1, c2, c3, u2, hdp, Or.inl trivial, fun z => absurd z r0, JS_Q (by have := (JS_c hJ).2.1; omega) u3⟩
end HEAD

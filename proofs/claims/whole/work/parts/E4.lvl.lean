/-! one op between, and the level of less -/
section LVL
variable {K : Nat → Value} {B d a : Nat} {w : aW} {bs : Nat → Nat} {t n s sl : Nat} {pd dp : Int} {G : gG} {Q gd : Prop} {f cnt : Nat} {vn ln : Nat → Nat} {fa : Nat → Nat → Nat}
theorem E_step {b b0 bb dx dy c o τo : Nat} (ha : a = B + 8 ∨ a = B + 22) (H : Lay B w) (hp : w.2.1 (B + 2) 1 = some a) (hX : TX bs t n) (X' : aI → aJ → Option aR) (M' : aW → aI → aJ → Option aR)
    (hR : Con K B a bs t n pd dp w f cnt vn fa ln gd X' M' s b) (hb0 : b0 ≤ bb) (hb1 : b + 1 ≤ bb) (hb2 : 2 ≤ bb) (G1 : gG) (τ : Nat) (ty : Int32) (Ix : aI) (Jx : aJ) (wm : aW) (Im : aI) (Jm : aJ) (q : Int32 → Prop) [∀ x, Decidable (q x)] (o11 : 11 ≤ o) (o20 : o ≤ 20)
    (hq : ∀ (ty2 : Int32) (τ2 : Nat), τ2 ≤ 3 → ty2 = it τ2 → τ ≤ 3 → ty = it τ → (q ty2 ↔ fitN o τ2 τ)) (ht : tbl 2 (o - 5) = it (τo : Int)) (t3 : τo ≤ 3)
    (hO : StO K B w Ix) (hNX : NX B a f cnt vn fa ln gd Ix) (hS : SM K B wm Im) (hNM : NM B f cnt vn fa ln gd Im) (hJ : JS B a bs t n pd dp c 0 s sl G1 (Q ∧ Ext fa f G G1 τ b0 ∧ τ ≤ 3 ∧ ty = it τ) Ix Jx Im) (hQ : Q → gd ∧ 2 * (G.2.2.2 G.1).length + 1 ≤ c) (hD : gd ∨ (0 ≤ dp ∧ dp ≤ tst bs t c)) (e3 : ¬ kX bs t c 0 = 0) (e4 : ¬ kX bs t c 0 = 3) :
    ∃ (c2 r2 : Nat) (G2 : gG) (ty2 : Int32) (Ix1 : aI) (Im1 : aI) (Ix2 : aI) (Jx2 : aJ) (wm2 : aW) (Im2 : aI) (Jm2 : aJ) (Ix3 : aI) (Jx3 : aJ) (Im3 Im4 : aI), Cl K (dx + 4) 44 [.ref (B + 3)] w Ix Jx = some (some (.int (it (tst bs t c : Nat))), w, Ix, Jx) ∧ Cl K (dx + 4) 42 [.ref (B + 3)] w Ix Jx = some (none, w, Ix1, Jx) ∧ Cl K (dy + 6) 84 [.ref (B + 46)] wm Im Jm = some (none, wm, Im1, Jm) ∧ X' Ix1 Jx = some (none, w, Ix2, Jx2) ∧ M' wm Im1 Jm = some (some (.int ty2), wm2, Im2, Jm2) ∧ SM K B wm2 Im2 ∧ Cl K (dx + 4) 66 [.ref (B + 2), .int (it o), .int (it (tst bs t c : Nat))] w Ix2 Jx2 = some (none, w, Ix3, Jx3) ∧ Cl K (dy + 6) 110 [.ref (B + 46), .int (it (if q ty2 then 1 else 0)), .int (it (tst bs t c : Nat))] wm2 Im2 Jm2 = some (none, wm2, Im3, Jm2) ∧ SM K B wm2 Im3 ∧ Cl K (dy + 6) 111 [.ref (B + 46), .int (it o), .int (it 0)] wm2 Im3 Jm2 = some (none, wm2, Im4, Jm2) ∧ SM K B wm2 Im4 ∧ FEx B a Ix Jx Ix3 Jx3 ∧ FMx B wm.2.2.1 Im Jm Im4 Jm2 ∧ WG' wm wm2 (c2 - c) ∧ c < c2 ∧ JS B a bs t n pd dp c2 r2 s sl G2 (Q ∧ Ext fa f G G2 τo bb ∧ τo ≤ 3) Ix3 Jx3 Im4 := by
  obtain ⟨hcn, hr1, hXT, hMR⟩ := JS_c hJ
  have hn := hX.2.1
  obtain ⟨_, hc, _⟩ := kX_n hX hcn rfl e3 e4
  obtain ⟨Ix1, x1, x2, x3⟩ := s_42k (K := K) (d := dx + 3) (J := Jx) hX H hXT rfl e3 e4
  obtain ⟨Im1, m1, m2, m3⟩ := s_84k (K := K) (d := dy) (J := Jm) hX hS.1 hS.2.1 hS.2.2.1 hMR hc
  have hJ1 : JS B a bs t n pd dp (c + 1) 0 s (sl + 1) G1 (Q ∧ Ext fa f G G1 τ b0 ∧ τ ≤ 3 ∧ ty = it τ) Ix1 Jx Im1 := JS_k ha hJ x3 x2 m2 m3 (by omega) (fun z => z)
  have fx1 : FEx B a Ix Jx Ix1 Jx := FX3_E ha x3
  have fm1 : FMx B wm.2.2.1 Im Jm Im1 Jm := FMx_6 m2
  obtain ⟨c2, r2, G2, τ2, ty2, Ix2, Jx2, wm2, Im2, Jm2, y1, y2, y3, y4, y5, y6, y7, y8, y9⟩ := hR (c + 1) (sl + 1) G1 _ Ix1 Jx wm Im1 Jm (StO_F ha fx1 hO) (NX_f ha fx1 hNX) (SM_f (WG_r (k := 0)) fm1 hS) (NM_f hS.2.2.2 fm1 hNM) hJ1 (fun z => ⟨(hQ z.1).1, by
    have h1 := (hQ z.1).2
    rw [z.2.1.2.2.2.1, List.length_cons]
    omega⟩) (hD.imp id (fun z => ⟨z.1, by have := tst_m hX (show c ≤ c + 1 by omega) hc; omega⟩))
  have hS2 : SM K B wm2 Im2 := SM_f y5 y4 (SM_f (WG_r (k := 0)) fm1 hS)
  have htc : tst bs t c ≤ 240 := by have := tst_t bs t c; have := hX.1; omega
  have fx2 : FEx B a Ix Jx Ix2 Jx2 := FEx_t fx1 y3
  obtain ⟨h, Nx, Nm, nfx, nfm, tfx, tfm, xE, mE, _⟩ := id y9
  obtain ⟨Im3', p1, p2, _⟩ := s_110 (K := K) (d := dy + 5) (J := Jm2) (p := tst bs t c) (m := wm2.2.2.1) (q ty2) hS2.1 mE htc
  obtain ⟨Ix3, Jx3, Im3, Im4, z1, z2, z3, z4, z5, z6⟩ := JS_op (K := K) (d := dx + 1) (e := dy + 5) (Jm := Jm2) (o := o) (p := tst bs t c) (q ty2) 2 ha H (StO_F ha fx2 hO) hp hS2.1 y9 hn (by omega) (by omega) htc τ2 τ (G.2.2.2 G.1) (by rw [if_neg (by omega)]) (by
    rintro ⟨⟨w1, w2, w3, w4⟩, w5, w6, w7⟩
    refine ⟨w6, w3, ?_, ?_, ?_⟩
    · rw [if_neg (by omega), w5.2.2.2.1, w2.2.2.2.1]
    · have := (hQ w1).2; omega
    · exact hq ty2 τ2 w6 w7 w3 w4) τo ht t3
  have e33 : Im3' = Im3 := by
    rw [z2] at p1
    injection p1 with p1
    injection p1 with _ p1
    injection p1 with _ p1
    injection p1 with p1 _
    exact p1.symm
  subst e33
  refine ⟨c2, r2, gE1 G2 o 0 (τo :: G.2.2.2 G.1), ty2, Ix1, Im1, Ix2, Jx2, wm2, Im2, Jm2, Ix3, Jx3, Im3', Im4, s_44 (d := dx + 3) H hXT hn, x1, m1, y1, y2, hS2, z1, z2, SM_f (WG_r (k := 0)) p2 hS2, z3, SM_f (WG_r (k := 0)) z5 hS2, FEx_t fx2 z4, FMx_t (m' := wm.2.2.1) (Nat.le_refl _) (FMx_t (Nat.le_refl _) fm1 y4) ⟨fun b hb => z5.1 b (by have := y5.2.1; omega), z5.2.1, fun b hb => z5.2.2 b (by have := y5.2.1; omega)⟩, WG_k (by omega) y5, by omega, JS_m ?_ (Nat.le_refl _) z6⟩
  rintro ⟨⟨⟨w1, w2, w3, w4⟩, w5, w6, w7⟩, w8⟩
  exact ⟨w1, Ext_2 w2 w5 (by omega) (gEf_2 (by omega) (by omega) w6 w3 t3 w8 ht) (by omega) (by omega) (by omega), t3⟩
/-- what the class does at a token between, in a level that takes one op -/
theorem c_one {lv dx c r : Nat} {l3 inn : Int32} {Ix : aI} {Jx : aJ} (hX : TX bs t n) (H : Lay B w) (hO : StO K B w Ix) (hT : XT B bs t n c r Ix) (l5 : lv ≤ 5) (kx : Nat) : (∀ o : Nat, opb (kX bs t c r) = o → ¬ lvo o = lv) → f_63_83 K (kx + 1) (dx + 4) (B + 2) (it lv) (it s) l3 inn (it 1) (it 0) w Ix Jx = some (none, w, Ix, Jx) := by
  intro hno
  have hkb := kX_b (bs := bs) (t := t) (c := c) (r := r)
  rw [f_63_83]
  simp only [it_lit, lt_p, gO_e (yt2 H), gV_e (yp2_0 H), gO_e (yt3 H)]
  rw [if_neg (by decide), s_37 (d := dx + 3) H hT hX.2.1]
  simp only [cI_e]
  rw [s_73 (d := dx + 3) hkb]
  simp only [cI_e, gO_e (yt2 H), gV_e (yp2_0 H), gO_e (yt3 H)]
  rcases opb_k ⟨kX bs t c r, by omega⟩ with e | ⟨e1, e2, e3, e4⟩
  · simp only at e
    rw [e, if_pos (by decide)]
  · simp only at e1 e2 e3 e4
    obtain ⟨o, ho⟩ : ∃ o : Nat, opb (kX bs t c r) = o := ⟨(opb (kX bs t c r)).toNat, by omega⟩
    obtain ⟨q, q1, q2, q3⟩ := tb_g hO (i := 0) (j := o - 12) (by omega) (by show o - 12 < 9; omega)
    have q2' : w.1 q = some (20, 9) := q2
    have k23 : K 23 = .ref q := q1
    have lb : lvo o ≤ 5 := by unfold lvo; repeat (first | split | omega)
    rw [ho, if_neg (show ¬ it (o : Int) < it 12 from (fun q => by have := (it_lt (by omega) (by omega) (by omega) (by omega)).mp q; omega)), if_neg (show ¬ it 20 < it (o : Int) from (fun q => by have := (it_lt (by omega) (by omega) (by omega) (by omega)).mp q; omega)), k23]
    simp only [kR, it_sub]
    rw [show ((o : Int) - 12) = ((o - 12 : Nat) : Int) by omega, gA_e q2' (Or.inr rfl) (ix (by omega) (by omega) (by omega)), it_n (by omega), q3, lvo_t ⟨o, by omega⟩ (by simp only; omega)]
    simp only
    rw [if_neg]
    intro z
    have := (it_eq (by omega) (by omega) (by omega) (by omega)).mp z
    exact hno o ho (by omega)
theorem c_two {lv dx c o : Nat} {l3 inn : Int32} {Ix Ix1 Ix2 Ix3 : aI} {Jx Jx2 Jx3 : aJ} (hX : TX bs t n) (H : Lay B w) (hO : StO K B w Ix) (hT : XT B bs t n c 0 Ix) (kx : Nat) (ho : opb (kX bs t c 0) = o) (hl : lvo o = lv) (h1 : Cl K (dx + 4) 44 [.ref (B + 3)] w Ix Jx = some (some (.int (it (tst bs t c : Nat))), w, Ix, Jx)) (h2 : Cl K (dx + 4) 42 [.ref (B + 3)] w Ix Jx = some (none, w, Ix1, Jx)) (h3 : Cl K (dx + 4) 63 [.ref (B + 2), .int (if l3 = it 0 then it lv + it 1 else it 0), .int inn] w Ix1 Jx = some (none, w, Ix2, Jx2)) (h4 : Cl K (dx + 4) 66 [.ref (B + 2), .int (it o), .int (it (tst bs t c : Nat))] w Ix2 Jx2 = some (none, w, Ix3, Jx3)) : f_63_83 K (kx + 2) (dx + 4) (B + 2) (it lv) (it s) l3 inn (it 1) (it 0) w Ix Jx = some (none, w, Ix3, Jx3) := by
  have hkb := kX_b (bs := bs) (t := t) (c := c) (r := 0)
  have hob : 12 ≤ o ∧ o ≤ 20 := by
    rcases opb_i ho with ⟨e, _⟩ | ⟨e, _⟩ | ⟨e, _⟩ | ⟨e, _⟩ | ⟨e, _⟩ | ⟨e, _⟩ | ⟨e, _⟩ | ⟨e, _⟩ | ⟨e, _⟩ <;> omega
  obtain ⟨q, q1, q2, q3⟩ := tb_g hO (i := 0) (j := o - 12) (by omega) (by show o - 12 < 9; omega)
  have q2' : w.1 q = some (20, 9) := q2
  have k23 : K 23 = .ref q := q1
  rw [f_63_83]
  simp only [it_lit, lt_p, gO_e (yt2 H), gV_e (yp2_0 H), gO_e (yt3 H)]
  rw [if_neg (by decide), s_37 (d := dx + 3) H hT hX.2.1]
  simp only [cI_e]
  rw [s_73 (d := dx + 3) hkb]
  simp only [cI_e, gO_e (yt2 H), gV_e (yp2_0 H), gO_e (yt3 H)]
  rw [ho, if_neg (show ¬ it (o : Int) < it 12 from (fun q => by have := (it_lt (by omega) (by omega) (by omega) (by omega)).mp q; omega)), if_neg (show ¬ it 20 < it (o : Int) from (fun q => by have := (it_lt (by omega) (by omega) (by omega) (by omega)).mp q; omega)), k23]
  simp only [kR, it_sub]
  rw [show ((o : Int) - 12) = ((o - 12 : Nat) : Int) by omega, gA_e q2' (Or.inr rfl) (ix (by omega) (by omega) (by omega)), it_n (by omega), q3, lvo_t ⟨o, by omega⟩ (by simp only; omega)]
  simp only
  rw [if_pos (by rw [hl]), h1]
  simp only [cI_e, gO_e (yt2 H), gV_e (yp2_0 H), gO_e (yt3 H)]
  rw [h2]
  simp only [cV_e]
  have fin : ∀ x : Int32, x = (if l3 = it 0 then it lv + it 1 else it 0) → f_63_158 K (kx + 1) (dx + 4) (f_63_83 K (kx + 1) (dx + 4)) (B + 2) (it lv) (it s) l3 inn (it 1) (it 0) (it o) (it (tst bs t c : Nat)) (B + 2) x w Ix1 Jx = some (none, w, Ix3, Jx3) := by
    intro x hx
    subst hx
    unfold f_63_158
    simp only [it_lit, lt_p, gO_e (yt2 H)]
    rw [h3]
    simp only [cV_e, gO_e (yt2 H)]
    rw [h4]
    simp only [cV_e]
    rw [f_63_83]
    simp only [it_lit, lt_p]
    rw [if_pos (by decide)]
  by_cases e : l3 = it 0
  · rw [if_pos e]
    exact fin _ (by rw [if_pos e])
  · rw [if_neg e]
    exact fin _ (by rw [if_neg e])
end LVL

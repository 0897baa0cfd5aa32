/-! a level that goes on as long as its ops come -/
abbrev qmo (o : Nat) (ty ty2 : Int32) : Prop := (o ≤ 14 ∧ ty = it 1 ∧ ty2 = it 1) ∨ (¬ o ≤ 14 ∧ ty = it 0 ∧ ty2 = it 0)
def tyo (o : Nat) : Nat := if o ≤ 14 then 1 else 0
theorem qmo_f {o u l : Nat} (ho : o = 13 ∨ o = 14 ∨ o = 17 ∨ o = 18 ∨ o = 19 ∨ o = 20) (u3 : u ≤ 3) (l3 : l ≤ 3) : (qmo o (it l) (it u) ↔ fitN o u l) ∧ tbl 2 (o - 5) = it (tyo o : Nat) := by
  rcases ho with rfl | rfl | rfl | rfl | rfl | rfl
  · have : ∀ u l : Fin 4, (qmo 13 (it l.val) (it u.val) ↔ fitN 13 u.val l.val) := by decide +kernel
    exact ⟨this ⟨u, by omega⟩ ⟨l, by omega⟩, by decide +kernel⟩
  · have : ∀ u l : Fin 4, (qmo 14 (it l.val) (it u.val) ↔ fitN 14 u.val l.val) := by decide +kernel
    exact ⟨this ⟨u, by omega⟩ ⟨l, by omega⟩, by decide +kernel⟩
  · have : ∀ u l : Fin 4, (qmo 17 (it l.val) (it u.val) ↔ fitN 17 u.val l.val) := by decide +kernel
    exact ⟨this ⟨u, by omega⟩ ⟨l, by omega⟩, by decide +kernel⟩
  · have : ∀ u l : Fin 4, (qmo 18 (it l.val) (it u.val) ↔ fitN 18 u.val l.val) := by decide +kernel
    exact ⟨this ⟨u, by omega⟩ ⟨l, by omega⟩, by decide +kernel⟩
  · have : ∀ u l : Fin 4, (qmo 19 (it l.val) (it u.val) ↔ fitN 19 u.val l.val) := by decide +kernel
    exact ⟨this ⟨u, by omega⟩ ⟨l, by omega⟩, by decide +kernel⟩
  · have : ∀ u l : Fin 4, (qmo 20 (it l.val) (it u.val) ↔ fitN 20 u.val l.val) := by decide +kernel
    exact ⟨this ⟨u, by omega⟩ ⟨l, by omega⟩, by decide +kernel⟩
section LVL
variable {K : Nat → Value} {B d a : Nat} {w : aW} {bs : Nat → Nat} {t n s sl : Nat} {pd dp : Int} {G : gG} {Q gd : Prop} {f cnt : Nat} {vn ln : Nat → Nat} {fa : Nat → Nat → Nat}
theorem L_loop {lv b dx dy : Nat} (ha : a = B + 8 ∨ a = B + 22) (H : Lay B w) (hp : w.2.1 (B + 2) 1 = some a) (hX : TX bs t n) (hlv : lv = 1 ∨ lv = 2 ∨ lv = 4 ∨ lv = 5) (Ml : Nat → Int32 → aW → aI → aJ → Option aR) (M' : aW → aI → aJ → Option aR)
    (hR : Con K B a bs t n pd dp w f cnt vn fa ln gd (fun Ix Jx => Cl K (dx + 4) 63 [.ref (B + 2), .int (it ((lv + 1 : Nat) : Int)), .int (it s)] w Ix Jx) M' s b) (b1 : 1 ≤ b)
    (hexit : ∀ (k c r : Nat) (ty : Int32) (wm : aW) (Im : aI) (Jm : aJ), SM K B wm Im → MR B bs t n c r Im → (∀ o : Nat, opb (kX bs t c r) = o → ¬ lvo o = lv) → Ml (k + 1) ty wm Im Jm = some (some (.int ty), wm, Im, Jm))
    (hstep : ∀ (k c : Nat) (ty : Int32) (wm : aW) (Im : aI) (Jm : aJ) (o : Nat), SM K B wm Im → MR B bs t n c 0 Im → opb (kX bs t c 0) = o → lvo o = lv → ∀ (Im1 : aI) (ty2 : Int32) (wm2 : aW) (Im2 : aI) (Jm2 : aJ) (Im3 Im4 : aI), Cl K (dy + 6) 84 [.ref (B + 46)] wm Im Jm = some (none, wm, Im1, Jm) → M' wm Im1 Jm = some (some (.int ty2), wm2, Im2, Jm2) → SM K B wm2 Im2 → Cl K (dy + 6) 110 [.ref (B + 46), .int (it (if qmo o ty ty2 then 1 else 0)), .int (it (tst bs t c : Nat))] wm2 Im2 Jm2 = some (none, wm2, Im3, Jm2) → Cl K (dy + 6) 111 [.ref (B + 46), .int (it o), .int (it 0)] wm2 Im3 Jm2 = some (none, wm2, Im4, Jm2) → Ml (k + 1) ty wm Im Jm = Ml k (it (tyo o : Nat)) wm2 Im4 Jm2) :
    ∀ (m c r i kx km : Nat) (G1 : gG) (τ : Nat) (ty : Int32) (Ix : aI) (Jx : aJ) (wm : aW) (Im : aI) (Jm : aJ), n + 1 ≤ c + m → m < kx → m < km → ((r = 0 → i + 1 ≤ c) ∧ i ≤ 239) → StO K B w Ix → NX B a f cnt vn fa ln gd Ix → SM K B wm Im → NM B f cnt vn fa ln gd Im → JS B a bs t n pd dp c r s sl G1 (Q ∧ Ext fa f G G1 τ (b + 1) ∧ τ ≤ 3 ∧ ty = it τ) Ix Jx Im → (r = 0 → Q → gd ∧ 2 * (G.2.2.2 G.1).length + 1 ≤ c) → (gd ∨ (0 ≤ dp ∧ dp ≤ tst bs t c)) →
    ∃ (c' r' : Nat) (G' : gG) (τ' : Nat) (ty' : Int32) (Ix' : aI) (Jx' : aJ) (wm' : aW) (Im' : aI) (Jm' : aJ), f_63_83 K kx (dx + 4) (B + 2) (it lv) (it s) (it 0) (it s) (it 240) (it i) w Ix Jx = some (none, w, Ix', Jx') ∧ Ml km ty wm Im Jm = some (some (.int ty'), wm', Im', Jm') ∧ FEx B a Ix Jx Ix' Jx' ∧ FMx B wm.2.2.1 Im Jm Im' Jm' ∧ WG' wm wm' (c' - c) ∧ c ≤ c' ∧ (r' = 0 → r = 0) ∧ (r = 1 → c' = c ∧ r' = 1) ∧ JS B a bs t n pd dp c' r' s sl G' (Q ∧ Ext fa f G G' τ' (b + 1) ∧ τ' ≤ 3 ∧ ty' = it τ') Ix' Jx' Im' := by
  intro m
  induction m using Nat.strongRecOn with
  | ind m ih =>
    intro c r i kx km G1 τ ty Ix Jx wm Im Jm hm hkx hkm hi hO hNX hS hNM hJ hQ hD
    obtain ⟨kx, rfl⟩ : ∃ k', kx = k' + 1 := ⟨kx - 1, by omega⟩
    obtain ⟨km, rfl⟩ : ∃ k', km = k' + 1 := ⟨km - 1, by omega⟩
    obtain ⟨hcn, hr1, hXT, hMR⟩ := JS_c hJ
    have hn := hX.2.1
    have hi2 := hi.2
    have hkb := kX_b (bs := bs) (t := t) (c := c) (r := r)
    have stop : (∀ o : Nat, opb (kX bs t c r) = o → ¬ lvo o = lv) → f_63_83 K (kx + 1) (dx + 4) (B + 2) (it lv) (it s) (it 0) (it s) (it 240) (it i) w Ix Jx = some (none, w, Ix, Jx) → ∃ (c' r' : Nat) (G' : gG) (τ' : Nat) (ty' : Int32) (Ix' : aI) (Jx' : aJ) (wm' : aW) (Im' : aI) (Jm' : aJ), f_63_83 K (kx + 1) (dx + 4) (B + 2) (it lv) (it s) (it 0) (it s) (it 240) (it i) w Ix Jx = some (none, w, Ix', Jx') ∧ Ml (km + 1) ty wm Im Jm = some (some (.int ty'), wm', Im', Jm') ∧ FEx B a Ix Jx Ix' Jx' ∧ FMx B wm.2.2.1 Im Jm Im' Jm' ∧ WG' wm wm' (c' - c) ∧ c ≤ c' ∧ (r' = 0 → r = 0) ∧ (r = 1 → c' = c ∧ r' = 1) ∧ JS B a bs t n pd dp c' r' s sl G' (Q ∧ Ext fa f G G' τ' (b + 1) ∧ τ' ≤ 3 ∧ ty' = it τ') Ix' Jx' Im' :=
      fun h1 h2 => ⟨c, r, G1, τ, ty, Ix, Jx, wm, Im, Jm, h2, hexit km c r ty wm Im Jm hS hMR h1, FEx_r, FMx_r, WG_r, Nat.le_refl _, fun z => z, fun z => ⟨rfl, z⟩, hJ⟩
    have head : f_63_83 K (kx + 1) (dx + 4) (B + 2) (it lv) (it s) (it 0) (it s) (it 240) (it i) w Ix Jx = (if it (opb (kX bs t c r)) < it 12 then some (none, w, Ix, Jx) else if it 20 < it (opb (kX bs t c r)) then some (none, w, Ix, Jx) else kR (K 23) fun q_10 => gA w 10 20 q_10 (it (opb (kX bs t c r)) - it 12) (if (Ix q_10 (it (opb (kX bs t c r)) - it 12 : Int32).toNatClampNeg) = it lv then cI (Cl K (dx + 4) 44 [.ref (B + 3)] w Ix Jx) fun x_15 w_12 I_13 J_14 => gO w_12 2 (B + 2) (gV w_12 (B + 2) 0 fun q_16 => gO w_12 4 q_16 (cV (Cl K (dx + 4) 42 [.ref q_16] w_12 I_13 J_14) fun w_17 I_18 J_19 => f_63_158 K kx (dx + 4) (f_63_83 K kx (dx + 4)) (B + 2) (it lv) (it s) (it 0) (it s) (it 240) (it i) (it (opb (kX bs t c r))) x_15 (B + 2) (it lv + it 1) w_17 I_18 J_19)) else some (none, w, Ix, Jx))) := by
      rw [f_63_83]
      simp only [it_lit, lt_p, gO_e (yt2 H), gV_e (yp2_0 H), gO_e (yt3 H)]
      rw [if_neg (fun q => by have := (it_le (by omega) (by omega) (by omega) (by omega)).mp q; omega), s_37 (d := dx + 3) H hXT hn]
      simp only [cI_e]
      rw [s_73 (d := dx + 3) hkb]
      simp only [cI_e, gO_e (yt2 H), gV_e (yp2_0 H), gO_e (yt3 H), if_true]
    rcases opb_k ⟨kX bs t c r, by omega⟩ with e | ⟨e1, e2, e3, e4⟩
    · simp only at e
      apply stop (fun o ho => by omega)
      rw [head, e, if_pos (by decide)]
    · simp only at e1 e2 e3 e4
      obtain ⟨o, ho⟩ : ∃ o : Nat, opb (kX bs t c r) = o := ⟨(opb (kX bs t c r)).toNat, by omega⟩
      obtain ⟨q, q1, q2, q3⟩ := tb_g hO (i := 0) (j := o - 12) (by omega) (by show o - 12 < 9; omega)
      have q2' : w.1 q = some (20, 9) := q2
      have k23 : K 23 = .ref q := q1
      rw [ho, if_neg (show ¬ it (o : Int) < it 12 from (fun q => by have := (it_lt (by omega) (by omega) (by omega) (by omega)).mp q; omega)), if_neg (show ¬ it 20 < it (o : Int) from (fun q => by have := (it_lt (by omega) (by omega) (by omega) (by omega)).mp q; omega)), k23] at head
      simp only [kR, it_sub] at head
      rw [show ((o : Int) - 12) = ((o - 12 : Nat) : Int) by omega, gA_e q2' (Or.inr rfl) (ix (by omega) (by omega) (by omega)), it_n (by omega), q3, lvo_t ⟨o, by omega⟩ (by simp only; omega)] at head
      simp only at head
      have lb : lvo o ≤ 5 := by unfold lvo; repeat (first | split | omega)
      by_cases hl : lvo o = lv
      · rw [if_pos (by rw [hl]), s_44 (d := dx + 3) H hXT hn] at head
        simp only [cI_e, gO_e (yt2 H), gV_e (yp2_0 H), gO_e (yt3 H)] at head
        obtain ⟨r0, hc, _⟩ := kX_n hX hcn rfl e3 e4
        subst r0
        obtain ⟨Ix1, x1, x2, x3⟩ := s_42k (K := K) (d := dx + 3) (J := Jx) hX H hXT rfl e3 e4
        obtain ⟨Im1, m1, m2, m3⟩ := s_84k (K := K) (d := dy) (J := Jm) hX hS.1 hS.2.1 hS.2.2.1 hMR hc
        rw [x1] at head
        simp only [cV_e] at head
        have hJ1 : JS B a bs t n pd dp (c + 1) 0 s (sl + 1) G1 (Q ∧ Ext fa f G G1 τ (b + 1) ∧ τ ≤ 3 ∧ ty = it τ) Ix1 Jx Im1 := JS_k ha hJ x3 x2 m2 m3 (by omega) (fun z => z)
        have fx1 : FEx B a Ix Jx Ix1 Jx := FX3_E ha x3
        have fm1 : FMx B wm.2.2.1 Im Jm Im1 Jm := FMx_6 m2
        obtain ⟨c2, r2, G2, τ2, ty2, Ix2, Jx2, wm2, Im2, Jm2, y1, y2, y3, y4, y5, y6, y7, y8, y9⟩ := hR (c + 1) (sl + 1) G1 _ Ix1 Jx wm Im1 Jm (StO_F ha fx1 hO) (NX_f ha fx1 hNX) (SM_f (WG_r (k := 0)) fm1 hS) (NM_f hS.2.2.2 fm1 hNM) hJ1 (fun z => ⟨(hQ rfl z.1).1, by
          have h1 := (hQ rfl z.1).2
          rw [z.2.1.2.2.2.1, List.length_cons]
          omega⟩) (hD.imp id (fun z => ⟨z.1, by have := tst_m hX (show c ≤ c + 1 by omega) hc; omega⟩))
        have hS2 : SM K B wm2 Im2 := SM_f y5 y4 (SM_f (WG_r (k := 0)) fm1 hS)
        have ho6 : o = 13 ∨ o = 14 ∨ o = 17 ∨ o = 18 ∨ o = 19 ∨ o = 20 := by
          have : lvo o = 1 ∨ lvo o = 2 ∨ lvo o = 4 ∨ lvo o = 5 := by omega
          revert this
          have key : ∀ o : Fin 21, 12 ≤ o.val → (lvo o.val = 1 ∨ lvo o.val = 2 ∨ lvo o.val = 4 ∨ lvo o.val = 5) → o.val = 13 ∨ o.val = 14 ∨ o.val = 17 ∨ o.val = 18 ∨ o.val = 19 ∨ o.val = 20 := by decide +kernel
          exact key ⟨o, by omega⟩ (by simp only; omega)
        have htc : tst bs t c ≤ 240 := by have := tst_t bs t c; have := hX.1; omega
        have fx2 : FEx B a Ix Jx Ix2 Jx2 := FEx_t fx1 y3
        have t3 : tyo o ≤ 3 := by unfold tyo; split <;> omega
        obtain ⟨Ix3, Jx3, Im3, Im4, z1, z2, z3, z4, z5, z6⟩ := JS_op (K := K) (d := dx + 1) (e := dy + 5) (Jm := Jm2) (o := o) (p := tst bs t c) (qmo o ty ty2) 2 ha H (StO_F ha fx2 hO) hp hS2.1 y9 hn (by omega) (by omega) htc τ2 τ (G.2.2.2 G.1) (by rw [if_neg (by omega)]) (by
          rintro ⟨⟨w1, w2, w3, w4⟩, w5, w6, w7⟩
          refine ⟨w6, w3, ?_, ?_, ?_⟩
          · rw [if_neg (by omega), w5.2.2.2.1, w2.2.2.2.1]
          · have := (hQ rfl w1).2; omega
          · rw [w4, w7]; exact (qmo_f ho6 w6 w3).1) (tyo o) (qmo_f (u := 0) (l := 0) ho6 (by omega) (by omega)).2 t3
        have hJ3 : JS B a bs t n pd dp c2 r2 s sl (gE1 G2 o 0 (tyo o :: G.2.2.2 G.1)) (Q ∧ Ext fa f G (gE1 G2 o 0 (tyo o :: G.2.2.2 G.1)) (tyo o) (b + 1) ∧ tyo o ≤ 3 ∧ it (tyo o : Nat) = it (tyo o : Nat)) Ix3 Jx3 Im4 := JS_m (by
          rintro ⟨⟨⟨w1, w2, w3, w4⟩, w5, w6, w7⟩, w8⟩
          refine ⟨w1, Ext_2 w2 w5 (by omega) (gEf_2 (by omega) (by omega) w6 w3 t3 w8 (qmo_f (u := 0) (l := 0) ho6 (by omega) (by omega)).2) (by omega) (by omega) (by omega), t3, rfl⟩) (Nat.le_refl _) z6
        have fm2 : FMx B wm.2.2.1 Im Jm Im2 Jm2 := FMx_t (Nat.le_refl _) fm1 y4
        have hS4 : SM K B wm2 Im4 := SM_f (WG_r (k := 0)) z5 hS2
        have c2n := (JS_c hJ3).1
        obtain ⟨c', r', G', τ', ty', Ix', Jx', wm', Im', Jm', v1, v2, v3, v4, v5, v6, v7, v8, v9⟩ := ih (m - 1) (by omega) c2 r2 (i + 1) kx km _ _ (it (tyo o : Nat)) Ix3 Jx3 wm2 Im4 Jm2 (by omega) (by omega) (by omega) ⟨fun _ => by have := hi.1 rfl; omega, by have := hi.1 rfl; omega⟩ (StO_F ha (FEx_t fx2 z4) hO) (NX_f ha (FEx_t fx2 z4) hNX) hS4 (NM_f (by have := hS.2.2.2; have := y5.2.1; omega) z5 (NM_f hS.2.2.2 fm2 hNM)) hJ3 (fun _ z => ⟨(hQ rfl z).1, by have := (hQ rfl z).2; omega⟩) (hD.imp id (fun z => ⟨z.1, by have := tst_m hX (show c ≤ c2 by omega) c2n; omega⟩))
        refine ⟨c', r', G', τ', ty', Ix', Jx', wm', Im', Jm', ?_, ?_, FEx_t (FEx_t fx2 z4) v3, FMx_t y5.2.1 (FMx_t (Nat.le_refl _) fm2 (FMx_t (m' := wm.2.2.1) (Nat.le_refl _) ⟨fun b hb => z5.1 b (by have := y5.2.1; omega), z5.2.1, fun b hb => z5.2.2 b (by have := y5.2.1; omega)⟩ FMx_r)) v4, WG_k (by omega) (WG_t y5 v5), by omega, fun _ => rfl, fun z => by omega, v9⟩
        · rw [head]
          unfold f_63_158
          simp only [it_lit, lt_p, gO_e (yt2 H), it_add]
          have y1' : Cl K (dx + 4) 63 [.ref (B + 2), .int (it ((lv : Int) + 1)), .int (it s)] w Ix1 Jx = some (none, w, Ix2, Jx2) := y1
          rw [y1']
          simp only [cV_e, gO_e (yt2 H)]
          rw [z1]
          simp only [cV_e]
          exact v1
        · rw [hstep km c ty wm Im Jm o hS hMR ho hl Im1 ty2 wm2 Im2 Jm2 Im3 Im4 m1 y2 hS2 z2 z3]
          exact v2
      · apply stop (fun o' ho' => by
          have : o' = o := by omega
          subst this; exact hl)
        rw [head, if_neg]
        intro z
        have := (it_eq (by omega) (by omega) (by omega) (by omega)).mp z
        omega
end LVL

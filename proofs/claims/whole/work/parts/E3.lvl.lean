/-! the levels of or, and, sum, term -/
section LVL
variable {K : Nat → Value} {B d a : Nat} {w : aW} {bs : Nat → Nat} {t n s : Nat} {pd dp : Int} {gd : Prop} {f cnt : Nat} {vn ln : Nat → Nat} {fa : Nat → Nat → Nat}
theorem L_con {lv b dx dy : Nat} (ha : a = B + 8 ∨ a = B + 22) (H : Lay B w) (hp : w.2.1 (B + 2) 1 = some a) (hX : TX bs t n) (hlv : lv = 1 ∨ lv = 2 ∨ lv = 4 ∨ lv = 5) (Ml : Nat → Int32 → aW → aI → aJ → Option aR) (M' M : aW → aI → aJ → Option aR)
    (hR : Con K B a bs t n pd dp w f cnt vn fa ln gd (fun Ix Jx => Cl K (dx + 4) 63 [.ref (B + 2), .int (it ((lv + 1 : Nat) : Int)), .int (it s)] w Ix Jx) M' s b) (b1 : 1 ≤ b)
    (hM : ∀ (wm : aW) (Im : aI) (Jm : aJ) (ty : Int32) (wm1 : aW) (Im1 : aI) (Jm1 : aJ) (R : aR), SM K B wm Im → M' wm Im Jm = some (some (.int ty), wm1, Im1, Jm1) → Ml 300 ty wm1 Im1 Jm1 = some R → M wm Im Jm = some R)
    (hexit : ∀ (k c r : Nat) (ty : Int32) (wm : aW) (Im : aI) (Jm : aJ), SM K B wm Im → MR B bs t n c r Im → (∀ o : Nat, opb (kX bs t c r) = o → ¬ lvo o = lv) → Ml (k + 1) ty wm Im Jm = some (some (.int ty), wm, Im, Jm))
    (hstep : ∀ (k c : Nat) (ty : Int32) (wm : aW) (Im : aI) (Jm : aJ) (o : Nat), SM K B wm Im → MR B bs t n c 0 Im → opb (kX bs t c 0) = o → lvo o = lv → ∀ (Im1 : aI) (ty2 : Int32) (wm2 : aW) (Im2 : aI) (Jm2 : aJ) (Im3 Im4 : aI), Cl K (dy + 6) 84 [.ref (B + 46)] wm Im Jm = some (none, wm, Im1, Jm) → M' wm Im1 Jm = some (some (.int ty2), wm2, Im2, Jm2) → SM K B wm2 Im2 → Cl K (dy + 6) 110 [.ref (B + 46), .int (it (if qmo o ty ty2 then 1 else 0)), .int (it (tst bs t c : Nat))] wm2 Im2 Jm2 = some (none, wm2, Im3, Jm2) → Cl K (dy + 6) 111 [.ref (B + 46), .int (it o), .int (it 0)] wm2 Im3 Jm2 = some (none, wm2, Im4, Jm2) → Ml (k + 1) ty wm Im Jm = Ml k (it (tyo o : Nat)) wm2 Im4 Jm2) (hs : s ≤ 8) :
    Con K B a bs t n pd dp w f cnt vn fa ln gd (fun Ix Jx => Cl K (dx + 5) 63 [.ref (B + 2), .int (it lv), .int (it s)] w Ix Jx) M s (b + 1) := by
  intro c sl G Q Ix Jx wm Im Jm hO hNX hS hNM hJ hQ hD
  obtain ⟨c1, r1, G1, τ1, ty1, Ix1, Jx1, wm1, Im1, Jm1, y1, y2, y3, y4, y5, y6, y7, y8, y9⟩ := hR c sl G Q Ix Jx wm Im Jm hO hNX hS hNM hJ hQ hD
  have hn := hX.2.1
  have c1n := (JS_c y9).1
  obtain ⟨c', r', G', τ', ty', Ix', Jx', wm', Im', Jm', v1, v2, v3, v4, v5, v6, v7, v8, v9⟩ := L_loop (G := G) (Q := Q) (sl := sl) (dx := dx) (dy := dy) ha H hp hX hlv Ml M' hR b1 hexit hstep 241 c1 r1 0 300 300 G1 τ1 ty1 Ix1 Jx1 wm1 Im1 Jm1 (by omega) (by omega) (by omega) ⟨fun z => by have := y7 z; omega, by omega⟩ (StO_F ha y3 hO) (NX_f ha y3 hNX) (SM_f y5 y4 hS) (NM_f hS.2.2.2 y4 hNM) (JS_m (fun z => ⟨z.1, Ext_b (by omega) z.2.1, z.2.2⟩) (Nat.le_refl _) y9) (fun z q => ⟨(hQ q).1, by have := (hQ q).2; have := y7 z; omega⟩) (hD.imp id (fun z => ⟨z.1, by have := tst_m hX y6 c1n; omega⟩))
  refine ⟨c', r', G', τ', ty', Ix', Jx', wm', Im', Jm', ?_, hM wm Im Jm ty1 wm1 Im1 Jm1 _ hS y2 v2, FEx_t y3 v3, FMx_t y5.2.1 y4 v4, WG_k (by omega) (WG_t y5 v5), by omega, fun z => by have := y7 (v7 z); omega, fun z => ?_, v9⟩
  · apply cl_63 (k := 300)
    unfold f_63
    simp only [it_lit]
    rw [if_pos ((it_lt (by omega) (by omega) (by omega) (by omega)).mpr (by omega)), if_pos (fun q => by have := (it_eq (by omega) (by omega) (by omega) (by omega)).mp q; omega)]
    unfold f_63_21
    simp only [it_lit]
    rw [if_pos trivial]
    unfold f_63_40
    simp only [it_lit]
    rw [if_pos trivial]
    unfold f_63_51
    simp only [it_lit, gO_e (yt2 H), it_add]
    have y1' : Cl K (dx + 4) 63 [.ref (B + 2), .int (it ((lv : Int) + 1)), .int (it s)] w Ix Jx = some (none, w, Ix1, Jx1) := y1
    rw [y1']
    simp only [cV_e]
    rw [if_neg (fun q => q trivial), if_pos (fun q => by have := (it_eq (by omega) (by omega) (by omega) (by omega)).mp q; omega)]
    unfold f_63_78
    simp only [it_lit]
    exact v1
  · obtain ⟨z1, z2⟩ := y8 z
    obtain ⟨z3, z4⟩ := v8 z2
    exact ⟨by omega, z4⟩
theorem opb_i {k o : Nat} (h : opb k = o) : (o = 19 ∧ k = 42) ∨ (o = 17 ∧ k = 43) ∨ (o = 18 ∧ k = 45) ∨ (o = 20 ∧ k = 47) ∨ (o = 12 ∧ k = 58) ∨ (o = 15 ∧ k = 60) ∨ (o = 16 ∧ k = 61) ∨ (o = 14 ∧ k = 270) ∨ (o = 13 ∧ k = 271) := by
  unfold opb at h
  by_cases e1 : k = 42
  · rw [if_pos e1] at h; omega
  · rw [if_neg e1] at h
    by_cases e2 : k = 43
    · rw [if_pos e2] at h; omega
    · rw [if_neg e2] at h
      by_cases e3 : k = 45
      · rw [if_pos e3] at h; omega
      · rw [if_neg e3] at h
        by_cases e4 : k = 47
        · rw [if_pos e4] at h; omega
        · rw [if_neg e4] at h
          by_cases e5 : k = 58
          · rw [if_pos e5] at h; omega
          · rw [if_neg e5] at h
            by_cases e6 : k = 60
            · rw [if_pos e6] at h; omega
            · rw [if_neg e6] at h
              by_cases e7 : k = 61
              · rw [if_pos e7] at h; omega
              · rw [if_neg e7] at h
                by_cases e8 : k = 270
                · rw [if_pos e8] at h; omega
                · rw [if_neg e8] at h
                  by_cases e9 : k = 271
                  · rw [if_pos e9] at h; omega
                  · rw [if_neg e9] at h; omega
/-- or -/
theorem L_1 {b dx dy : Nat} (ha : a = B + 8 ∨ a = B + 22) (H : Lay B w) (hp : w.2.1 (B + 2) 1 = some a) (hX : TX bs t n) (hR : Con K B a bs t n pd dp w f cnt vn fa ln gd (fun Ix Jx => Cl K (dx + 4) 63 [.ref (B + 2), .int (it ((1 + 1 : Nat) : Int)), .int (it s)] w Ix Jx) (fun wm Im Jm => Cl K (dy + 6) 104 [.ref (B + 46)] wm Im Jm) s b) (b1 : 1 ≤ b) (hs : s ≤ 8) :
    Con K B a bs t n pd dp w f cnt vn fa ln gd (fun Ix Jx => Cl K (dx + 5) 63 [.ref (B + 2), .int (it ((1 : Nat) : Int)), .int (it s)] w Ix Jx) (fun wm Im Jm => Cl K (dy + 7) 103 [.ref (B + 46)] wm Im Jm) s (b + 1) := by
  refine L_con (dy := dy) ha H hp hX (Or.inl rfl) (fun k ty wm Im Jm => f_103_5 K k (dy + 6) (B + 46) ty wm Im Jm) (fun wm Im Jm => Cl K (dy + 6) 104 [.ref (B + 46)] wm Im Jm) _ hR b1 ?_ ?_ ?_ hs
  · intro wm Im Jm ty wm1 Im1 Jm1 R hS h1 h2
    apply cl_103 (k := 300)
    unfold f_103
    simp only [gO_e (yt46 hS.1)]
    rw [h1]
    exact h2
  · intro k c r ty wm Im Jm hS hT ho
    have hne : ¬ kX bs t c r = cvt 15 := fun z => by
      have : opb (kX bs t c r) = ((13 : Nat) : Int) := by rw [z]; rfl
      exact ho 13 this rfl
    rw [f_103_5]
    simp only [it_lit, lt_p, gO_e (yt46 hS.1)]
    rw [s_89 (d := dy + 5) hS.1 hT (show it 15 = it ((15 : Nat) : Int) from rfl) (by omega), if_neg hne]
    simp only [cI_e]
    rw [if_pos trivial]
  · intro k c ty wm Im Jm o hS hT ho hl Im1 ty2 wm2 Im2 Jm2 Im3 Im4 h1 h2 hS2 h3 h4
    have ho2 : o = 13 ∧ kX bs t c 0 = 271 := by
      rcases opb_i ho with ⟨e, e'⟩ | ⟨e, e'⟩ | ⟨e, e'⟩ | ⟨e, e'⟩ | ⟨e, e'⟩ | ⟨e, e'⟩ | ⟨e, e'⟩ | ⟨e, e'⟩ | ⟨e, e'⟩ <;> subst e <;> first | exact ⟨rfl, e'⟩ | exact absurd hl (by decide)
    obtain ⟨e1, e2⟩ := ho2
    subst e1
    have hk : kX bs t c 0 = cvt 15 := e2
    rw [f_103_5]
    simp only [it_lit, lt_p, gO_e (yt46 hS.1)]
    rw [s_89 (d := dy + 5) hS.1 hT (show it 15 = it ((15 : Nat) : Int) from rfl) (by omega), if_pos hk]
    simp only [cI_e, gO_e (yt46 hS.1)]
    rw [if_neg (by decide), h1]
    simp only [cV_e, gO_e (yt46 hS.1)]
    have h2' : Cl K (dy + 6) 104 [.ref (B + 46)] wm Im1 Jm = some (some (.int ty2), wm2, Im2, Jm2) := h2
    rw [h2']
    simp only [cI_e]
    have h22 : Im (B + 46) 22 = it (tst bs t c : Nat) := hT.2.2.2.2.1
    rw [h22]
    have tail : ∀ x : Int32, x = it (if qmo 13 ty ty2 then 1 else 0) → f_103_44 K k (dy + 6) (f_103_5 K k (dy + 6)) (B + 46) ty (it (tst bs t c : Nat)) ty2 (B + 46) x wm2 Im2 Jm2 = f_103_5 K k (dy + 6) (B + 46) (it (tyo 13 : Nat)) wm2 Im4 Jm2 := by
      intro x hx
      subst hx
      unfold f_103_44
      simp only [it_lit, gO_e (yt46 hS2.1)]
      rw [h3]
      simp only [cV_e, gO_e (yt46 hS2.1)]
      have h4' : Cl K (dy + 6) 111 [.ref (B + 46), .int (it 13), .int (it 0)] wm2 Im3 Jm2 = some (none, wm2, Im4, Jm2) := h4
      rw [h4']
      rfl
    by_cases z1 : ty = it 1
    · rw [if_neg (fun q => q z1)]
      by_cases z2 : ty2 = it 1
      · rw [if_neg (fun q => q z2)]
        exact tail _ (by rw [if_pos (Or.inl ⟨by omega, z1, z2⟩)])
      · rw [if_pos z2]
        unfold f_103_43
        simp only [it_lit]
        exact tail _ (by rw [if_neg (fun z => z.elim (fun q => z2 q.2.2) (fun q => q.1 (by omega)))])
    · rw [if_pos z1]
      unfold f_103_43
      simp only [it_lit]
      exact tail _ (by rw [if_neg (fun z => z.elim (fun q => z1 q.2.1) (fun q => q.1 (by omega)))])
/-- and -/
theorem L_2 {b dx dy : Nat} (ha : a = B + 8 ∨ a = B + 22) (H : Lay B w) (hp : w.2.1 (B + 2) 1 = some a) (hX : TX bs t n) (hR : Con K B a bs t n pd dp w f cnt vn fa ln gd (fun Ix Jx => Cl K (dx + 4) 63 [.ref (B + 2), .int (it ((2 + 1 : Nat) : Int)), .int (it s)] w Ix Jx) (fun wm Im Jm => Cl K (dy + 6) 105 [.ref (B + 46)] wm Im Jm) s b) (b1 : 1 ≤ b) (hs : s ≤ 8) :
    Con K B a bs t n pd dp w f cnt vn fa ln gd (fun Ix Jx => Cl K (dx + 5) 63 [.ref (B + 2), .int (it ((2 : Nat) : Int)), .int (it s)] w Ix Jx) (fun wm Im Jm => Cl K (dy + 7) 104 [.ref (B + 46)] wm Im Jm) s (b + 1) := by
  refine L_con (dy := dy) ha H hp hX (Or.inr (Or.inl rfl)) (fun k ty wm Im Jm => f_104_5 K k (dy + 6) (B + 46) ty wm Im Jm) (fun wm Im Jm => Cl K (dy + 6) 105 [.ref (B + 46)] wm Im Jm) _ hR b1 ?_ ?_ ?_ hs
  · intro wm Im Jm ty wm1 Im1 Jm1 R hS h1 h2
    apply cl_104 (k := 300)
    unfold f_104
    simp only [gO_e (yt46 hS.1)]
    rw [h1]
    exact h2
  · intro k c r ty wm Im Jm hS hT ho
    have hne : ¬ kX bs t c r = cvt 14 := fun z => by
      have : opb (kX bs t c r) = ((14 : Nat) : Int) := by rw [z]; rfl
      exact ho 14 this rfl
    rw [f_104_5]
    simp only [it_lit, lt_p, gO_e (yt46 hS.1)]
    rw [s_89 (d := dy + 5) hS.1 hT (show it 14 = it ((14 : Nat) : Int) from rfl) (by omega), if_neg hne]
    simp only [cI_e]
    rw [if_pos trivial]
  · intro k c ty wm Im Jm o hS hT ho hl Im1 ty2 wm2 Im2 Jm2 Im3 Im4 h1 h2 hS2 h3 h4
    have ho2 : o = 14 ∧ kX bs t c 0 = 270 := by
      rcases opb_i ho with ⟨e, e'⟩ | ⟨e, e'⟩ | ⟨e, e'⟩ | ⟨e, e'⟩ | ⟨e, e'⟩ | ⟨e, e'⟩ | ⟨e, e'⟩ | ⟨e, e'⟩ | ⟨e, e'⟩ <;> subst e <;> first | exact ⟨rfl, e'⟩ | exact absurd hl (by decide)
    obtain ⟨e1, e2⟩ := ho2
    subst e1
    have hk : kX bs t c 0 = cvt 14 := e2
    rw [f_104_5]
    simp only [it_lit, lt_p, gO_e (yt46 hS.1)]
    rw [s_89 (d := dy + 5) hS.1 hT (show it 14 = it ((14 : Nat) : Int) from rfl) (by omega), if_pos hk]
    simp only [cI_e, gO_e (yt46 hS.1)]
    rw [if_neg (by decide), h1]
    simp only [cV_e, gO_e (yt46 hS.1)]
    have h2' : Cl K (dy + 6) 105 [.ref (B + 46)] wm Im1 Jm = some (some (.int ty2), wm2, Im2, Jm2) := h2
    rw [h2']
    simp only [cI_e]
    have h22 : Im (B + 46) 22 = it (tst bs t c : Nat) := hT.2.2.2.2.1
    rw [h22]
    have tail : ∀ x : Int32, x = it (if qmo 14 ty ty2 then 1 else 0) → f_104_44 K k (dy + 6) (f_104_5 K k (dy + 6)) (B + 46) ty (it (tst bs t c : Nat)) ty2 (B + 46) x wm2 Im2 Jm2 = f_104_5 K k (dy + 6) (B + 46) (it (tyo 14 : Nat)) wm2 Im4 Jm2 := by
      intro x hx
      subst hx
      unfold f_104_44
      simp only [it_lit, gO_e (yt46 hS2.1)]
      rw [h3]
      simp only [cV_e, gO_e (yt46 hS2.1)]
      have h4' : Cl K (dy + 6) 111 [.ref (B + 46), .int (it 14), .int (it 0)] wm2 Im3 Jm2 = some (none, wm2, Im4, Jm2) := h4
      rw [h4']
      rfl
    by_cases z1 : ty = it 1
    · rw [if_neg (fun q => q z1)]
      by_cases z2 : ty2 = it 1
      · rw [if_neg (fun q => q z2)]
        exact tail _ (by rw [if_pos (Or.inl ⟨by omega, z1, z2⟩)])
      · rw [if_pos z2]
        unfold f_104_43
        simp only [it_lit]
        exact tail _ (by rw [if_neg (fun z => z.elim (fun q => z2 q.2.2) (fun q => q.1 (by omega)))])
    · rw [if_pos z1]
      unfold f_104_43
      simp only [it_lit]
      exact tail _ (by rw [if_neg (fun z => z.elim (fun q => z1 q.2.1) (fun q => q.1 (by omega)))])
/-- sum -/
theorem L_4 {b dx dy : Nat} (ha : a = B + 8 ∨ a = B + 22) (H : Lay B w) (hp : w.2.1 (B + 2) 1 = some a) (hX : TX bs t n) (hR : Con K B a bs t n pd dp w f cnt vn fa ln gd (fun Ix Jx => Cl K (dx + 4) 63 [.ref (B + 2), .int (it ((4 + 1 : Nat) : Int)), .int (it s)] w Ix Jx) (fun wm Im Jm => Cl K (dy + 6) 107 [.ref (B + 46)] wm Im Jm) s b) (b1 : 1 ≤ b) (hs : s ≤ 8) :
    Con K B a bs t n pd dp w f cnt vn fa ln gd (fun Ix Jx => Cl K (dx + 5) 63 [.ref (B + 2), .int (it ((4 : Nat) : Int)), .int (it s)] w Ix Jx) (fun wm Im Jm => Cl K (dy + 7) 106 [.ref (B + 46)] wm Im Jm) s (b + 1) := by
  refine L_con (dy := dy) ha H hp hX (Or.inr (Or.inr (Or.inl rfl))) (fun k ty wm Im Jm => f_106_5 K k (dy + 6) (B + 46) ty wm Im Jm) (fun wm Im Jm => Cl K (dy + 6) 107 [.ref (B + 46)] wm Im Jm) _ hR b1 ?_ ?_ ?_ hs
  · intro wm Im Jm ty wm1 Im1 Jm1 R hS h1 h2
    apply cl_106 (k := 300)
    unfold f_106
    simp only [gO_e (yt46 hS.1)]
    rw [h1]
    exact h2
  · intro k c r ty wm Im Jm hS hT ho
    have hne : ¬ kX bs t c r = 43 := fun z => by
      have : opb (kX bs t c r) = ((17 : Nat) : Int) := by rw [z]; rfl
      exact ho 17 this rfl
    have hne2 : ¬ kX bs t c r = 45 := fun z => by
      have : opb (kX bs t c r) = ((18 : Nat) : Int) := by rw [z]; rfl
      exact ho 18 this rfl
    rw [f_106_5]
    simp only [it_lit, lt_p, gO_e (yt46 hS.1)]
    rw [s_94 (d := dy + 5) hS.1 hT hX (show it 43 = it ((43 : Nat) : Int) from rfl) (by decide), if_neg hne]
    simp only [cI_e, gO_e (yt46 hS.1)]
    rw [if_neg (fun q => q trivial), s_94 (d := dy + 5) hS.1 hT hX (show it 45 = it ((45 : Nat) : Int) from rfl) (by decide), if_neg hne2]
    simp only [cI_e]
    rw [if_pos trivial]
  · intro k c ty wm Im Jm o hS hT ho hl Im1 ty2 wm2 Im2 Jm2 Im3 Im4 h1 h2 hS2 h3 h4
    have ho2 : (o = 17 ∧ kX bs t c 0 = 43) ∨ (o = 18 ∧ kX bs t c 0 = 45) := by
      rcases opb_i ho with ⟨e, e'⟩ | ⟨e, e'⟩ | ⟨e, e'⟩ | ⟨e, e'⟩ | ⟨e, e'⟩ | ⟨e, e'⟩ | ⟨e, e'⟩ | ⟨e, e'⟩ | ⟨e, e'⟩ <;> subst e <;> first | exact Or.inl ⟨rfl, e'⟩ | exact Or.inr ⟨rfl, e'⟩ | exact absurd hl (by decide)
    have h22 : Im (B + 46) 22 = it (tst bs t c : Nat) := hT.2.2.2.2.1
    have h2' : Cl K (dy + 6) 107 [.ref (B + 46)] wm Im1 Jm = some (some (.int ty2), wm2, Im2, Jm2) := h2
    have tyoo : tyo o = 0 := by unfold tyo; rw [if_neg (by omega)]
    have q0 : (qmo o ty ty2) ↔ ty = it 0 ∧ ty2 = it 0 := ⟨fun z => z.elim (fun q => absurd q.1 (by omega)) (fun q => q.2), fun z => Or.inr ⟨by omega, z⟩⟩
    have tail : ∀ x y : Int32, x = it (if qmo o ty ty2 then 1 else 0) → y = it (if o = 17 then 1 else 0) → f_106_60 K k (dy + 6) (f_106_5 K k (dy + 6)) (B + 46) ty y (it (tst bs t c : Nat)) ty2 (B + 46) x wm2 Im2 Jm2 = f_106_5 K k (dy + 6) (B + 46) (it (tyo o : Nat)) wm2 Im4 Jm2 := by
      intro x y hx hy
      subst hx hy
      unfold f_106_60
      simp only [it_lit, gO_e (yt46 hS2.1)]
      rw [h3]
      simp only [cV_e, gO_e (yt46 hS2.1)]
      unfold f_106_76
      simp only [it_lit, gO_e (yt46 hS2.1)]
      rcases ho2 with ⟨e, _⟩ | ⟨e, _⟩
      · subst e
        have h4' : Cl K (dy + 6) 111 [.ref (B + 46), .int (it 17), .int (it 0)] wm2 Im3 Jm2 = some (none, wm2, Im4, Jm2) := h4
        rw [if_neg (by decide), h4']
        rfl
      · subst e
        have h4' : Cl K (dy + 6) 111 [.ref (B + 46), .int (it 18), .int (it 0)] wm2 Im3 Jm2 = some (none, wm2, Im4, Jm2) := h4
        rw [if_pos (by decide), h4']
        rfl
    have body : f_106_23 K k (dy + 6) (f_106_5 K k (dy + 6)) (B + 46) ty wm Im Jm = f_106_5 K k (dy + 6) (B + 46) (it (tyo o : Nat)) wm2 Im4 Jm2 := by
      unfold f_106_23
      simp only [it_lit, lt_p, gO_e (yt46 hS.1)]
      rw [s_94 (d := dy + 5) hS.1 hT hX (show it 43 = it ((43 : Nat) : Int) from rfl) (by decide)]
      simp only [cI_e, gO_e (yt46 hS.1)]
      rw [h1]
      simp only [cV_e, gO_e (yt46 hS.1)]
      rw [h2']
      simp only [cI_e]
      rw [h22]
      have hy : it (if kX bs t c 0 = 43 then 1 else 0) = it (if o = 17 then 1 else 0) := by
        rcases ho2 with ⟨e, e'⟩ | ⟨e, e'⟩
        · rw [if_pos e', if_pos e]
        · rw [if_neg (by omega), if_neg (by omega)]
      by_cases z1 : ty = it 0
      · rw [if_neg (fun q => q z1)]
        by_cases z2 : ty2 = it 0
        · rw [if_neg (fun q => q z2)]
          exact tail _ _ (by rw [if_pos (q0.mpr ⟨z1, z2⟩)]) hy
        · rw [if_pos z2]
          unfold f_106_59
          simp only [it_lit]
          exact tail _ _ (by rw [if_neg (fun z => z2 (q0.mp z).2)]) hy
      · rw [if_pos z1]
        unfold f_106_59
        simp only [it_lit]
        exact tail _ _ (by rw [if_neg (fun z => z1 (q0.mp z).1)]) hy
    rw [f_106_5]
    simp only [it_lit, lt_p, gO_e (yt46 hS.1)]
    rw [s_94 (d := dy + 5) hS.1 hT hX (show it 43 = it ((43 : Nat) : Int) from rfl) (by decide)]
    simp only [cI_e, gO_e (yt46 hS.1)]
    rcases ho2 with ⟨e, e'⟩ | ⟨e, e'⟩
    · rw [if_pos e', if_pos (by decide)]
      exact body
    · rw [if_neg (show ¬ kX bs t c 0 = 43 by omega), if_neg (fun q => q rfl), s_94 (d := dy + 5) hS.1 hT hX (show it 45 = it ((45 : Nat) : Int) from rfl) (by decide), if_pos e']
      simp only [cI_e]
      rw [if_neg (by decide)]
      exact body
/-- term -/
theorem L_5 {b dx dy : Nat} (ha : a = B + 8 ∨ a = B + 22) (H : Lay B w) (hp : w.2.1 (B + 2) 1 = some a) (hX : TX bs t n) (hR : Con K B a bs t n pd dp w f cnt vn fa ln gd (fun Ix Jx => Cl K (dx + 4) 63 [.ref (B + 2), .int (it ((5 + 1 : Nat) : Int)), .int (it s)] w Ix Jx) (fun wm Im Jm => Cl K (dy + 6) 108 [.ref (B + 46)] wm Im Jm) s b) (b1 : 1 ≤ b) (hs : s ≤ 8) :
    Con K B a bs t n pd dp w f cnt vn fa ln gd (fun Ix Jx => Cl K (dx + 5) 63 [.ref (B + 2), .int (it ((5 : Nat) : Int)), .int (it s)] w Ix Jx) (fun wm Im Jm => Cl K (dy + 7) 107 [.ref (B + 46)] wm Im Jm) s (b + 1) := by
  refine L_con (dy := dy) ha H hp hX (Or.inr (Or.inr (Or.inr rfl))) (fun k ty wm Im Jm => f_107_5 K k (dy + 6) (B + 46) ty wm Im Jm) (fun wm Im Jm => Cl K (dy + 6) 108 [.ref (B + 46)] wm Im Jm) _ hR b1 ?_ ?_ ?_ hs
  · intro wm Im Jm ty wm1 Im1 Jm1 R hS h1 h2
    apply cl_107 (k := 300)
    unfold f_107
    simp only [gO_e (yt46 hS.1)]
    rw [h1]
    exact h2
  · intro k c r ty wm Im Jm hS hT ho
    have hne : ¬ kX bs t c r = 42 := fun z => by
      have : opb (kX bs t c r) = ((19 : Nat) : Int) := by rw [z]; rfl
      exact ho 19 this rfl
    have hne2 : ¬ kX bs t c r = 47 := fun z => by
      have : opb (kX bs t c r) = ((20 : Nat) : Int) := by rw [z]; rfl
      exact ho 20 this rfl
    rw [f_107_5]
    simp only [it_lit, lt_p, gO_e (yt46 hS.1)]
    rw [s_94 (d := dy + 5) hS.1 hT hX (show it 42 = it ((42 : Nat) : Int) from rfl) (by decide), if_neg hne]
    simp only [cI_e, gO_e (yt46 hS.1)]
    rw [if_neg (fun q => q trivial), s_94 (d := dy + 5) hS.1 hT hX (show it 47 = it ((47 : Nat) : Int) from rfl) (by decide), if_neg hne2]
    simp only [cI_e]
    rw [if_pos trivial]
  · intro k c ty wm Im Jm o hS hT ho hl Im1 ty2 wm2 Im2 Jm2 Im3 Im4 h1 h2 hS2 h3 h4
    have ho2 : (o = 19 ∧ kX bs t c 0 = 42) ∨ (o = 20 ∧ kX bs t c 0 = 47) := by
      rcases opb_i ho with ⟨e, e'⟩ | ⟨e, e'⟩ | ⟨e, e'⟩ | ⟨e, e'⟩ | ⟨e, e'⟩ | ⟨e, e'⟩ | ⟨e, e'⟩ | ⟨e, e'⟩ | ⟨e, e'⟩ <;> subst e <;> first | exact Or.inl ⟨rfl, e'⟩ | exact Or.inr ⟨rfl, e'⟩ | exact absurd hl (by decide)
    have h22 : Im (B + 46) 22 = it (tst bs t c : Nat) := hT.2.2.2.2.1
    have h2' : Cl K (dy + 6) 108 [.ref (B + 46)] wm Im1 Jm = some (some (.int ty2), wm2, Im2, Jm2) := h2
    have tyoo : tyo o = 0 := by unfold tyo; rw [if_neg (by omega)]
    have q0 : (qmo o ty ty2) ↔ ty = it 0 ∧ ty2 = it 0 := ⟨fun z => z.elim (fun q => absurd q.1 (by omega)) (fun q => q.2), fun z => Or.inr ⟨by omega, z⟩⟩
    have tail : ∀ x y : Int32, x = it (if qmo o ty ty2 then 1 else 0) → y = it (if o = 19 then 1 else 0) → f_107_60 K k (dy + 6) (f_107_5 K k (dy + 6)) (B + 46) ty y (it (tst bs t c : Nat)) ty2 (B + 46) x wm2 Im2 Jm2 = f_107_5 K k (dy + 6) (B + 46) (it (tyo o : Nat)) wm2 Im4 Jm2 := by
      intro x y hx hy
      subst hx hy
      unfold f_107_60
      simp only [it_lit, gO_e (yt46 hS2.1)]
      rw [h3]
      simp only [cV_e, gO_e (yt46 hS2.1)]
      unfold f_107_76
      simp only [it_lit, gO_e (yt46 hS2.1)]
      rcases ho2 with ⟨e, _⟩ | ⟨e, _⟩
      · subst e
        have h4' : Cl K (dy + 6) 111 [.ref (B + 46), .int (it 19), .int (it 0)] wm2 Im3 Jm2 = some (none, wm2, Im4, Jm2) := h4
        rw [if_neg (by decide), h4']
        rfl
      · subst e
        have h4' : Cl K (dy + 6) 111 [.ref (B + 46), .int (it 20), .int (it 0)] wm2 Im3 Jm2 = some (none, wm2, Im4, Jm2) := h4
        rw [if_pos (by decide), h4']
        rfl
    have body : f_107_23 K k (dy + 6) (f_107_5 K k (dy + 6)) (B + 46) ty wm Im Jm = f_107_5 K k (dy + 6) (B + 46) (it (tyo o : Nat)) wm2 Im4 Jm2 := by
      unfold f_107_23
      simp only [it_lit, lt_p, gO_e (yt46 hS.1)]
      rw [s_94 (d := dy + 5) hS.1 hT hX (show it 42 = it ((42 : Nat) : Int) from rfl) (by decide)]
      simp only [cI_e, gO_e (yt46 hS.1)]
      rw [h1]
      simp only [cV_e, gO_e (yt46 hS.1)]
      rw [h2']
      simp only [cI_e]
      rw [h22]
      have hy : it (if kX bs t c 0 = 42 then 1 else 0) = it (if o = 19 then 1 else 0) := by
        rcases ho2 with ⟨e, e'⟩ | ⟨e, e'⟩
        · rw [if_pos e', if_pos e]
        · rw [if_neg (by omega), if_neg (by omega)]
      by_cases z1 : ty = it 0
      · rw [if_neg (fun q => q z1)]
        by_cases z2 : ty2 = it 0
        · rw [if_neg (fun q => q z2)]
          exact tail _ _ (by rw [if_pos (q0.mpr ⟨z1, z2⟩)]) hy
        · rw [if_pos z2]
          unfold f_107_59
          simp only [it_lit]
          exact tail _ _ (by rw [if_neg (fun z => z2 (q0.mp z).2)]) hy
      · rw [if_pos z1]
        unfold f_107_59
        simp only [it_lit]
        exact tail _ _ (by rw [if_neg (fun z => z1 (q0.mp z).1)]) hy
    rw [f_107_5]
    simp only [it_lit, lt_p, gO_e (yt46 hS.1)]
    rw [s_94 (d := dy + 5) hS.1 hT hX (show it 42 = it ((42 : Nat) : Int) from rfl) (by decide)]
    simp only [cI_e, gO_e (yt46 hS.1)]
    rcases ho2 with ⟨e, e'⟩ | ⟨e, e'⟩
    · rw [if_pos e', if_pos (by decide)]
      exact body
    · rw [if_neg (show ¬ kX bs t c 0 = 42 by omega), if_neg (fun q => q rfl), s_94 (d := dy + 5) hS.1 hT hX (show it 47 = it ((47 : Nat) : Int) from rfl) (by decide), if_pos e']
      simp only [cI_e]
      rw [if_neg (by decide)]
      exact body
end LVL

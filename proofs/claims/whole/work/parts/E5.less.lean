/-! the level of less -/
abbrev qls (o : Nat) (ty ty2 : Int32) : Prop := ty = ty2 ∧ (ty = it 0 ∨ (o = 16 ∧ ty = it 1))
theorem qls_f {o u l : Nat} (ho : o = 15 ∨ o = 16) (u3 : u ≤ 3) (l3 : l ≤ 3) : (qls o (it l) (it u) ↔ fitN o u l) ∧ tbl 2 (o - 5) = it ((1 : Nat) : Int) := by
  rcases ho with rfl | rfl
  · have : ∀ u l : Fin 4, (qls 15 (it l.val) (it u.val) ↔ fitN 15 u.val l.val) := by decide +kernel
    exact ⟨this ⟨u, by omega⟩ ⟨l, by omega⟩, by decide +kernel⟩
  · have : ∀ u l : Fin 4, (qls 16 (it l.val) (it u.val) ↔ fitN 16 u.val l.val) := by decide +kernel
    exact ⟨this ⟨u, by omega⟩ ⟨l, by omega⟩, by decide +kernel⟩
section LVL
variable {K : Nat → Value} {B d a : Nat} {w : aW} {bs : Nat → Nat} {t n s : Nat} {pd dp : Int} {gd : Prop} {f cnt : Nat} {vn ln : Nat → Nat} {fa : Nat → Nat → Nat}
theorem L_3 {b dx dy : Nat} (ha : a = B + 8 ∨ a = B + 22) (H : Lay B w) (hp : w.2.1 (B + 2) 1 = some a) (hX : TX bs t n) (hR : Con K B a bs t n pd dp w f cnt vn fa ln gd (fun Ix Jx => Cl K (dx + 4) 63 [.ref (B + 2), .int (it ((3 + 1 : Nat) : Int)), .int (it s)] w Ix Jx) (fun wm Im Jm => Cl K (dy + 6) 106 [.ref (B + 46)] wm Im Jm) s b) (b1 : 1 ≤ b) (hs : s ≤ 8) :
    Con K B a bs t n pd dp w f cnt vn fa ln gd (fun Ix Jx => Cl K (dx + 5) 63 [.ref (B + 2), .int (it ((3 : Nat) : Int)), .int (it s)] w Ix Jx) (fun wm Im Jm => Cl K (dy + 7) 105 [.ref (B + 46)] wm Im Jm) s (b + 1) := by
  intro c sl G Q Ix Jx wm Im Jm hO hNX hS hNM hJ hQ hD
  obtain ⟨c1, r1, G1, τ1, ty1, Ix1, Jx1, wm1, Im1, Jm1, y1, y2, y3, y4, y5, y6, y7, y8, y9⟩ := hR c sl G Q Ix Jx wm Im Jm hO hNX hS hNM hJ hQ hD
  have hn := hX.2.1
  obtain ⟨c1n, r11, hXT, hMR⟩ := JS_c y9
  have hS1 := SM_f y5 y4 hS
  have hO1 := StO_F ha y3 hO
  have headx : ∀ R, f_63_83 K 300 (dx + 4) (B + 2) (it ((3 : Nat) : Int)) (it s) (it 0) (it s) (it 1) (it 0) w Ix1 Jx1 = some R → Cl K (dx + 5) 63 [.ref (B + 2), .int (it ((3 : Nat) : Int)), .int (it s)] w Ix Jx = some R := by
    intro R hRR
    apply cl_63 (k := 300)
    unfold f_63
    simp only [it_lit]
    rw [if_pos (by decide), if_pos (by decide)]
    unfold f_63_21
    simp only [it_lit]
    rw [if_pos trivial]
    unfold f_63_40
    simp only [it_lit]
    rw [if_pos trivial]
    unfold f_63_51
    simp only [it_lit, gO_e (yt2 H), it_add]
    have y1' : Cl K (dx + 4) 63 [.ref (B + 2), .int (it (((3 : Nat) : Int) + 1)), .int (it s)] w Ix Jx = some (none, w, Ix1, Jx1) := y1
    rw [y1']
    simp only [cV_e]
    rw [if_neg (fun q => q trivial), if_neg (by decide)]
    unfold f_63_71 f_63_78
    simp only [it_lit]
    exact hRR
  have headm : ∀ R, (if kX bs t c1 r1 = 60 ∨ kX bs t c1 r1 = 61 then f_105_23 K 0 (dy + 6) (B + 46) ty1 wm1 Im1 Jm1 else some (some (.int ty1), wm1, Im1, Jm1)) = some R → Cl K (dy + 7) 105 [.ref (B + 46)] wm Im Jm = some R := by
    intro R hRR
    apply cl_105 (k := 0)
    unfold f_105
    simp only [it_lit, gO_e (yt46 hS.1)]
    have y2' : Cl K (dy + 6) 106 [.ref (B + 46)] wm Im Jm = some (some (.int ty1), wm1, Im1, Jm1) := y2
    rw [y2']
    simp only [cI_e, gO_e (yt46 hS1.1)]
    rw [s_94 (d := dy + 5) hS1.1 hMR hX (show it 60 = it ((60 : Nat) : Int) from rfl) (by decide)]
    simp only [cI_e, gO_e (yt46 hS1.1)]
    by_cases e : kX bs t c1 r1 = 60
    · rw [if_pos (Or.inl e)] at hRR
      rw [if_pos e, if_pos (by decide)]
      exact hRR
    · rw [if_neg e, if_neg (fun q => q rfl), s_94 (d := dy + 5) hS1.1 hMR hX (show it 61 = it ((61 : Nat) : Int) from rfl) (by decide)]
      simp only [cI_e]
      by_cases e2 : kX bs t c1 r1 = 61
      · rw [if_pos (Or.inr e2)] at hRR
        rw [if_pos e2, if_neg (by decide)]
        exact hRR
      · rw [if_neg (by omega)] at hRR
        rw [if_neg e2, if_pos rfl]
        exact hRR
  by_cases hop : kX bs t c1 r1 = 60 ∨ kX bs t c1 r1 = 61
  · have r0 : r1 = 0 := by
      unfold kX at hop
      by_cases z : r1 = 0
      · exact z
      · rw [if_neg z] at hop; omega
    subst r0
    have c01 := y7 rfl
    obtain ⟨o, ho, hl, ho2, hok⟩ : ∃ o : Nat, opb (kX bs t c1 0) = o ∧ lvo o = 3 ∧ (o = 15 ∨ o = 16) ∧ (kX bs t c1 0 = 60 ↔ o = 15) := by
      rcases hop with z | z
      · exact ⟨15, by rw [z]; rfl, rfl, Or.inl rfl, ⟨fun _ => rfl, fun _ => z⟩⟩
      · exact ⟨16, by rw [z]; rfl, rfl, Or.inr rfl, ⟨fun q => by omega, fun q => by omega⟩⟩
    obtain ⟨c2, r2, G2, ty2, Ix2, Im2, Ix3, Jx3, wm3, Im3, Jm3, Ix4, Jx4, Im4, Im5, g1, g2, g3, g4, g5, g6, g7, g8, g9, g10, g11, g12, g13, g14, g15, g16⟩ := E_step (G := G) (Q := Q) (sl := sl) (dx := dx) (dy := dy) (o := o) (τo := 1) (b0 := b) (bb := b + 1) ha H hp hX _ _ hR (by omega) (by omega) (by omega) G1 τ1 ty1 Ix1 Jx1 wm1 Im1 Jm1 (fun ty2 => qls o ty1 ty2) (by omega) (by omega) (fun ty2 τ2 a1 a2 a3 a4 => by rw [a2, a4]; exact (qls_f ho2 a1 a3).1) (qls_f (u := 0) (l := 0) ho2 (by omega) (by omega)).2 (by omega) hO1 (NX_f ha y3 hNX) hS1 (NM_f hS.2.2.2 y4 hNM) y9 (fun z => ⟨(hQ z).1, by have := (hQ z).2; omega⟩) (hD.imp id (fun z => ⟨z.1, by have := tst_m hX y6 c1n; omega⟩)) (by omega) (by omega)
    refine ⟨c2, r2, G2, 1, it 1, Ix4, Jx4, wm3, Im5, Jm3, headx _ ?_, headm _ ?_, FEx_t y3 g12, FMx_t y5.2.1 y4 g13, WG_k (by omega) (WG_t y5 g14), by omega, fun _ => by omega, fun z => by have := y8 z; omega, JS_m (fun z => ⟨z.1, z.2.1, z.2.2, rfl⟩) (Nat.le_refl _) g16⟩
    · exact c_two hX H hO1 hXT 298 ho hl g1 g2 (by rw [if_pos rfl]; exact g4) g7
    · rw [if_pos hop]
      unfold f_105_23
      simp only [it_lit, lt_p, gO_e (yt46 hS1.1)]
      rw [s_94 (d := dy + 5) hS1.1 hMR hX (show it 60 = it ((60 : Nat) : Int) from rfl) (by decide)]
      simp only [cI_e, gO_e (yt46 hS1.1)]
      rw [g3]
      simp only [cV_e, gO_e (yt46 hS1.1)]
      have g5' : Cl K (dy + 6) 106 [.ref (B + 46)] wm1 Im2 Jm1 = some (some (.int ty2), wm3, Im3, Jm3) := g5
      rw [g5']
      simp only [cI_e]
      have h22 : Im1 (B + 46) 22 = it (tst bs t c1 : Nat) := hMR.2.2.2.2.1
      rw [h22]
      have tail : ∀ x y : Int32, x = it (if qls o ty1 ty2 then 1 else 0) → y = it (if kX bs t c1 0 = 60 then 1 else 0) → f_105_70 K 0 (dy + 6) (B + 46) ty1 y (it (tst bs t c1 : Nat)) ty2 (B + 46) x wm3 Im3 Jm3 = some (some (.int (it 1)), wm3, Im5, Jm3) := by
        intro x y hx hy
        subst hx hy
        unfold f_105_70
        simp only [it_lit, gO_e (yt46 g6.1)]
        rw [g8]
        simp only [cV_e]
        unfold f_105_86 f_105_92
        simp only [it_lit, gO_e (yt46 g6.1)]
        rcases ho2 with e | e
        · subst e
          have g10' : Cl K (dy + 6) 111 [.ref (B + 46), .int (it 15), .int (it 0)] wm3 Im4 Jm3 = some (none, wm3, Im5, Jm3) := g10
          rw [if_pos (hok.mpr rfl), if_neg (by decide), g10']
          rfl
        · have hne : ¬ kX bs t c1 0 = 60 := fun z => by have := hok.mp z; omega
          subst e
          have g10' : Cl K (dy + 6) 111 [.ref (B + 46), .int (it 16), .int (it 0)] wm3 Im4 Jm3 = some (none, wm3, Im5, Jm3) := g10
          rw [if_neg hne, if_pos rfl, g10']
          rfl
      have t65 : qls o ty1 ty2 → f_105_65 K 0 (dy + 6) (B + 46) ty1 (it (if kX bs t c1 0 = 60 then 1 else 0)) (it (tst bs t c1 : Nat)) ty2 (B + 46) wm3 Im3 Jm3 = some (some (.int (it 1)), wm3, Im5, Jm3) := by
        intro z
        unfold f_105_65
        simp only [it_lit]
        exact tail _ _ (by rw [if_pos z]) rfl
      have t69 : ¬ qls o ty1 ty2 → f_105_69 K 0 (dy + 6) (B + 46) ty1 (it (if kX bs t c1 0 = 60 then 1 else 0)) (it (tst bs t c1 : Nat)) ty2 (B + 46) wm3 Im3 Jm3 = some (some (.int (it 1)), wm3, Im5, Jm3) := by
        intro z
        unfold f_105_69
        simp only [it_lit]
        exact tail _ _ (by rw [if_neg z]) rfl
      by_cases z1 : ty1 = ty2
      · rw [if_neg (fun q => q z1)]
        by_cases z2 : ty1 = it 0
        · rw [if_pos z2]
          exact t65 ⟨z1, Or.inl z2⟩
        · rw [if_neg z2]
          by_cases z3 : kX bs t c1 0 = 60
          · have hx : ¬ it (if kX bs t c1 0 = 60 then 1 else 0) = it 0 := by rw [if_pos z3]; decide
            rw [if_pos hx]
            exact t69 (fun q => q.2.elim z2 (fun q => by have := hok.mp z3; omega))
          · have hx : it (if kX bs t c1 0 = 60 then 1 else 0) = it 0 := by rw [if_neg z3]
            rw [if_neg (fun q => q hx)]
            have o16 : o = 16 := by rcases ho2 with e | e; · exact absurd (hok.mpr e) z3
                                    · exact e
            by_cases z4 : ty1 = it 1
            · rw [if_neg (fun q => q z4)]
              exact t65 ⟨z1, Or.inr ⟨o16, z4⟩⟩
            · rw [if_pos z4]
              exact t69 (fun q => q.2.elim z2 (fun q => z4 q.2))
      · rw [if_pos z1]
        exact t69 (fun q => z1 q.1)
  · refine ⟨c1, r1, G1, τ1, ty1, Ix1, Jx1, wm1, Im1, Jm1, headx _ ?_, headm _ (by rw [if_neg hop]), y3, y4, y5, y6, y7, y8, JS_m (fun z => ⟨z.1, Ext_b (by omega) z.2.1, z.2.2⟩) (Nat.le_refl _) y9⟩
    refine c_one hX H hO1 hXT (by omega) 299 (fun o ho hl => hop ?_)
    rcases opb_i ho with ⟨e, e'⟩ | ⟨e, e'⟩ | ⟨e, e'⟩ | ⟨e, e'⟩ | ⟨e, e'⟩ | ⟨e, e'⟩ | ⟨e, e'⟩ | ⟨e, e'⟩ | ⟨e, e'⟩ <;> subst e <;> first | exact Or.inl e' | exact Or.inr e' | exact absurd hl (by decide)
end LVL

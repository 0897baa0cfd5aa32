/-! E itself, not too deep -/
abbrev qco (ty ty2 : Int32) : Prop := ty = it 0 ∧ ty2 = it 3
theorem qco_f {u l : Nat} (u3 : u ≤ 3) (l3 : l ≤ 3) : qco (it l) (it u) ↔ fitN 12 u l := by
  have : ∀ u l : Fin 4, (qco (it l.val) (it u.val) ↔ fitN 12 u.val l.val) := by decide +kernel
  exact this ⟨u, by omega⟩ ⟨l, by omega⟩
section LVL
variable {K : Nat → Value} {B d a : Nat} {w : aW} {bs : Nat → Nat} {t n s : Nat} {pd dp : Int} {gd : Prop} {f cnt : Nat} {vn ln : Nat → Nat} {fa : Nat → Nat → Nat}
theorem x_630 {dx lv : Nat} {inn l1 : Int32} {Ix Ix1 : aI} {Jx Jx1 : aJ} (H : Lay B w) (h0 : lv = 0) (hs : s < 8) (hi : inn = it ((s : Int) + 1)) (hl : l1 = it ((lv : Int) + 1)) (y1 : Cl K (dx + 4) 63 [.ref (B + 2), .int l1, .int inn] w Ix Jx = some (none, w, Ix1, Jx1)) {R : aR} (hRR : f_63_83 K 300 (dx + 4) (B + 2) (it lv) (it s) (it 1) inn (it 1) (it 0) w Ix1 Jx1 = some R) : Cl K (dx + 5) 63 [.ref (B + 2), .int (it lv), .int (it s)] w Ix Jx = some R := by
  subst hi hl
  have c1 : it (lv : Int) < it 6 := ((it_lt (by omega) (by omega) (by omega) (by omega)).mpr (by omega))
  have c2 : it (lv : Int) = it 0 := by rw [h0]; rfl
  have c3 : it (s : Int) < it 8 := ((it_lt (by omega) (by omega) (by omega) (by omega)).mpr (by omega))
  have c4 : ¬ it 1 = it 0 := by decide
  have e51 : f_63_51 K 300 (dx + 4) (B + 2) (it lv) (it s) (it 1) (it ((s : Int) + 1)) w Ix Jx = some R := by
    unfold f_63_51
    simp only [it_lit, gO_e (yt2 H), it_add]
    rw [y1]
    simp only [cV_e]
    rw [if_pos c4]
    unfold f_63_71 f_63_78
    simp only [it_lit]
    exact hRR
  have e21 : f_63_21 K 300 (dx + 4) (B + 2) (it lv) (it s) (it 1) w Ix Jx = some R := by
    unfold f_63_21
    simp only [it_lit]
    rw [if_neg c4, if_pos c3]
    unfold f_63_40
    simp only [it_lit]
    rw [if_neg c4]
    simp only [it_add]
    exact e51
  apply cl_63 (k := 300)
  unfold f_63
  simp only [it_lit]
  rw [if_pos c1, if_neg (fun q => q c2)]
  exact e21
theorem m_75 {dy : Nat} {wz : aW} {Iz : aI} {Jz : aJ} {x : Int32} (hz : Lay B wz) (h9 : Iz (B + 46) 29 = it ((s + 1 : Nat) : Int)) : f_101_75 K 0 (dy + 6) (B + 46) x wz Iz Jz = some (some (.int x), wz, sm_up2 Iz (B + 46) 29 (it s), Jz) := by
  unfold f_101_75
  simp only [it_lit, gO_e (yt46 hz), lt_p]
  rw [h9, it_sub, show (((s + 1 : Nat) : Int) - 1) = (s : Int) by omega]
theorem m_101n {dy : Nat} {wm wm1 : aW} {Im Ia Im1 : aI} {Jm Jm1 : aJ} {ty1 : Int32} (H : Lay B wm) (a1 : Cl K (dy + 6) 102 [.ref (B + 46)] wm Im Jm = some (some (.int (it 0)), wm, Ia, Jm)) (h29 : Ia (B + 46) 29 = it s) (y2 : Cl K (dy + 6) 103 [.ref (B + 46)] wm (sm_up2 Ia (B + 46) 29 (it ((s + 1 : Nat) : Int))) Jm = some (some (.int ty1), wm1, Im1, Jm1)) (H1 : Lay B wm1) (h94 : Cl K (dy + 6) 94 [.ref (B + 46), .int (it 58)] wm1 Im1 Jm1 = some (some (.int (it 0)), wm1, Im1, Jm1)) (h9 : Im1 (B + 46) 29 = it ((s + 1 : Nat) : Int)) : Cl K (dy + 7) 101 [.ref (B + 46)] wm Im Jm = some (some (.int ty1), wm1, sm_up2 Im1 (B + 46) 29 (it s), Jm1) := by
  apply cl_101 (k := 0)
  unfold f_101
  simp only [it_lit, gO_e (yt46 H)]
  rw [a1]
  simp only [cI_e, gO_e (yt46 H)]
  rw [if_pos trivial, lt_p, h29, it_add, show (s : Int) + 1 = ((s + 1 : Nat) : Int) by omega, y2]
  simp only [cI_e, gO_e (yt46 H1)]
  rw [h94]
  simp only [cI_e]
  rw [if_pos trivial]
  exact m_75 H1 h9
theorem m_101y {dy : Nat} {wm wm1 wm3 : aW} {Im Ia Im1 Im2 Im3 Im4 Im5 : aI} {Jm Jm1 Jm3 : aJ} {ty1 ty2 at0 : Int32} (H : Lay B wm) (a1 : Cl K (dy + 6) 102 [.ref (B + 46)] wm Im Jm = some (some (.int (it 0)), wm, Ia, Jm)) (h29 : Ia (B + 46) 29 = it s) (y2 : Cl K (dy + 6) 103 [.ref (B + 46)] wm (sm_up2 Ia (B + 46) 29 (it ((s + 1 : Nat) : Int))) Jm = some (some (.int ty1), wm1, Im1, Jm1)) (H1 : Lay B wm1) (h94 : Cl K (dy + 6) 94 [.ref (B + 46), .int (it 58)] wm1 Im1 Jm1 = some (some (.int (it 1)), wm1, Im1, Jm1)) (h22 : Im1 (B + 46) 22 = at0) (g3 : Cl K (dy + 6) 84 [.ref (B + 46)] wm1 Im1 Jm1 = some (none, wm1, Im2, Jm1)) (g5 : Cl K (dy + 6) 101 [.ref (B + 46)] wm1 Im2 Jm1 = some (some (.int ty2), wm3, Im3, Jm3)) (H3 : Lay B wm3) (g8 : Cl K (dy + 6) 110 [.ref (B + 46), .int (it (if qco ty1 ty2 then 1 else 0)), .int at0] wm3 Im3 Jm3 = some (none, wm3, Im4, Jm3)) (g10 : Cl K (dy + 6) 111 [.ref (B + 46), .int (it 12), .int (it 0)] wm3 Im4 Jm3 = some (none, wm3, Im5, Jm3)) (h9 : Im5 (B + 46) 29 = it ((s + 1 : Nat) : Int)) : Cl K (dy + 7) 101 [.ref (B + 46)] wm Im Jm = some (some (.int (it 3)), wm3, sm_up2 Im5 (B + 46) 29 (it s), Jm3) := by
  have tail : ∀ x : Int32, x = it (if qco ty1 ty2 then 1 else 0) → f_101_62 K 0 (dy + 6) (B + 46) ty1 at0 ty2 (B + 46) x wm3 Im3 Jm3 = some (some (.int (it 3)), wm3, sm_up2 Im5 (B + 46) 29 (it s), Jm3) := by
    intro x hx
    subst hx
    unfold f_101_62
    simp only [it_lit, gO_e (yt46 H3)]
    rw [g8]
    simp only [cV_e, gO_e (yt46 H3)]
    rw [g10]
    simp only [cV_e]
    exact m_75 H3 h9
  apply cl_101 (k := 0)
  unfold f_101
  simp only [it_lit, gO_e (yt46 H)]
  rw [a1]
  simp only [cI_e, gO_e (yt46 H)]
  rw [if_pos trivial, lt_p, h29, it_add, show (s : Int) + 1 = ((s + 1 : Nat) : Int) by omega, y2]
  simp only [cI_e, gO_e (yt46 H1)]
  rw [h94]
  simp only [cI_e, gO_e (yt46 H1), lt_p]
  rw [if_neg (by decide), g3]
  simp only [cV_e, gO_e (yt46 H1)]
  rw [g5, h22]
  simp only [cI_e]
  by_cases z1 : ty1 = it 0
  · rw [if_neg (fun q => q z1)]
    by_cases z2 : ty2 = it 3
    · rw [if_neg (fun q => q z2)]
      exact tail _ (by rw [if_pos ⟨z1, z2⟩])
    · rw [if_pos z2]
      unfold f_101_61
      simp only [it_lit]
      exact tail _ (by rw [if_neg (fun q => z2 q.2)])
  · rw [if_pos z1]
    unfold f_101_61
    simp only [it_lit]
    exact tail _ (by rw [if_neg (fun q => z1 q.1)])
theorem L_0 {b1 b2 bb dx dy : Nat} (ha : a = B + 8 ∨ a = B + 22) (H : Lay B w) (hp : w.2.1 (B + 2) 1 = some a) (hX : TX bs t n) (hs : s < 8)
    (hL : Con K B a bs t n pd dp w f cnt vn fa ln gd (fun Ix Jx => Cl K (dx + 4) 63 [.ref (B + 2), .int (it ((1 : Nat) : Int)), .int (it ((s + 1 : Nat) : Int))] w Ix Jx) (fun wm Im Jm => Cl K (dy + 6) 103 [.ref (B + 46)] wm Im Jm) (s + 1) b1)
    (hE : Con K B a bs t n pd dp w f cnt vn fa ln gd (fun Ix Jx => Cl K (dx + 4) 63 [.ref (B + 2), .int (it ((0 : Nat) : Int)), .int (it ((s + 1 : Nat) : Int))] w Ix Jx) (fun wm Im Jm => Cl K (dy + 6) 101 [.ref (B + 46)] wm Im Jm) (s + 1) b2) (h1 : b1 ≤ bb) (h2 : b2 + 1 ≤ bb) (h3 : 2 ≤ bb) :
    Con K B a bs t n pd dp w f cnt vn fa ln gd (fun Ix Jx => Cl K (dx + 5) 63 [.ref (B + 2), .int (it ((0 : Nat) : Int)), .int (it s)] w Ix Jx) (fun wm Im Jm => Cl K (dy + 7) 101 [.ref (B + 46)] wm Im Jm) s bb := by
  intro c sl G Q Ix Jx wm Im Jm hO hNX hS hNM hJ hQ hD
  obtain ⟨_, _, hXT0, hMR0⟩ := JS_c hJ
  obtain ⟨Ia, a1, a2, a3⟩ := s_102a (K := K) (d := dy + 5) (J := Jm) hS.1 hMR0 (JS_s (s' := s) (by omega) hJ).2 hs
  have hJa := JS_k (sl' := sl) (Ix' := Ix) ha hJ (fun _ _ => rfl) hXT0 a2 a3 (by omega) (fun z => z)
  obtain ⟨hJb, h29⟩ := JS_s (s' := s + 1) (by omega) hJa
  have fmb : FMx B wm.2.2.1 Im Jm (sm_up2 Ia (B + 46) 29 (it ((s + 1 : Nat) : Int))) Jm := FMx_t (Nat.le_refl _) (FMx_6 a2) (FMx_u (m := wm.2.2.1) (by omega))
  have hSb := SM_f (WG_r (k := 0)) fmb hS
  obtain ⟨c1, r1, G1, τ1, ty1, Ix1, Jx1, wm1, Im1, Jm1, y1, y2, y3, y4, y5, y6, y7, y8, y9⟩ := hL c sl G Q Ix Jx wm _ Jm hO hNX hSb (NM_f hS.2.2.2 fmb hNM) hJb hQ hD
  have hn := hX.2.1
  obtain ⟨c1n, r11, hXT, hMR⟩ := JS_c y9
  have hS1 := SM_f y5 y4 hSb
  have hO1 := StO_F ha y3 hO
  have fm1 := FMx_t (Nat.le_refl _) fmb y4
  by_cases hop : kX bs t c1 r1 = 58
  · have r0 : r1 = 0 := by
      unfold kX at hop
      by_cases z : r1 = 0
      · exact z
      · rw [if_neg z] at hop; omega
    subst r0
    have c01 := y7 rfl
    have ho : opb (kX bs t c1 0) = ((12 : Nat) : Int) := by rw [hop]; rfl
    obtain ⟨c2, r2, G2, ty2, Ix2, Im2, Ix3, Jx3, wm3, Im3, Jm3, Ix4, Jx4, Im4, Im5, g1, g2, g3, g4, g5, g6, g7, g8, g9, g10, g11, g12, g13, g14, g15, g16⟩ := E_step (G := G) (Q := Q) (sl := sl) (dx := dx) (dy := dy) (o := 12) (τo := 3) (b0 := b1) (bb := bb) ha H hp hX _ _ hE h1 h2 h3 G1 τ1 ty1 Ix1 Jx1 wm1 Im1 Jm1 (fun ty2 => qco ty1 ty2) (by omega) (by omega) (fun ty2 τ2 k1 k2 k3 k4 => by rw [k2, k4]; exact qco_f k1 k3) (by decide +kernel) (by omega) hO1 (NX_f ha y3 hNX) hS1 (NM_f hS.2.2.2 fm1 hNM) y9 (fun z => ⟨(hQ z).1, by have := (hQ z).2; omega⟩) (hD.imp id (fun z => ⟨z.1, by have := tst_m hX y6 c1n; omega⟩)) (by omega) (by omega)
    obtain ⟨hJe, h9⟩ := JS_s (s' := s) (by omega) g16
    have fme := FMx_t y5.2.1 fm1 g13
    refine ⟨c2, r2, G2, 3, it 3, Ix4, Jx4, wm3, sm_up2 Im5 (B + 46) 29 (it s), Jm3, x_630 (lv := 0) H rfl hs (by rw [show ((s + 1 : Nat) : Int) = (s : Int) + 1 by omega]) rfl y1 (c_two hX H hO1 hXT 298 ho rfl g1 g2 (by rw [if_neg (by decide)]; exact g4) g7), m_101y hS.1 a1 h29 y2 hS1.1 ?_ hMR.2.2.2.2.1 g3 g5 g6.1 g8 g10 h9, FEx_t y3 g12, FMx_t (Nat.le_refl _) fme (FMx_u (by omega)), WG_k (by omega) (WG_t y5 g14), by omega, fun _ => by omega, fun z => by have := y8 z; omega, JS_m (fun z => ⟨z.1, z.2.1, z.2.2, rfl⟩) (Nat.le_refl _) hJe⟩
    rw [s_94 (d := dy + 5) hS1.1 hMR hX (show it 58 = it ((58 : Nat) : Int) from rfl) (by decide), if_pos hop]
  · obtain ⟨hJe, h9⟩ := JS_s (s' := s) (by omega) y9
    refine ⟨c1, r1, G1, τ1, ty1, Ix1, Jx1, wm1, sm_up2 Im1 (B + 46) 29 (it s), Jm1, x_630 (lv := 0) H rfl hs (by rw [show ((s + 1 : Nat) : Int) = (s : Int) + 1 by omega]) rfl y1 ?_, m_101n hS.1 a1 h29 y2 hS1.1 ?_ h9, y3, FMx_t (m' := wm1.2.2.1) y5.2.1 fm1 (FMx_u (by omega)), y5, y6, y7, y8, JS_m (fun z => ⟨z.1, Ext_b h1 z.2.1, z.2.2⟩) (Nat.le_refl _) hJe⟩
    · refine c_one hX H hO1 hXT (by omega) 299 (fun o ho hl => hop ?_)
      rcases opb_i ho with ⟨e, e'⟩ | ⟨e, e'⟩ | ⟨e, e'⟩ | ⟨e, e'⟩ | ⟨e, e'⟩ | ⟨e, e'⟩ | ⟨e, e'⟩ | ⟨e, e'⟩ | ⟨e, e'⟩ <;> subst e <;> first | exact e' | exact absurd hl (by decide)
    · rw [s_94 (d := dy + 5) hS1.1 hMR hX (show it 58 = it ((58 : Nat) : Int) from rfl) (by decide), if_neg hop]
end LVL

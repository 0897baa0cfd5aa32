/-! all funs of a text, both -/
section FUNL
variable {K : Nat → Value} {B d e a : Nat} {w wm wm' : aW} {Ix Im I I' I'' Ix' Im' : aI} {Jx Jm J J' J'' Jx' Jm' : aJ} {bs : Nat → Nat} {t n c r s sl sl' b op op' m m' : Nat} {pd dp dp0 : Int} {G G1 G' Gs G2 G3 : gG} {Q Q' Qh Qx gd Y Q0 Q0' : Prop} {f cnt cnt' st st' lp pc pm : Nat} {vn vn' ln : Nat → Nat} {fa fa' fa0 fa0' fs : Nat → Nat → Nat} {G0 G0' : gG} {P P' : Nat → Prop}
theorem m_24 (hT : MR B bs t n c 0 Im) : Im (B + 46) 24 = it 0 ↔ kX bs t c 0 = 0 := by
  obtain ⟨_, _, s, k, h1, h2, h3, h4, h5, h6, h7⟩ := hT.2.2.2.2.2 rfl
  rw [h1, it_eq (by omega) (by omega) (by omega) (by omega)]
  have e : kX bs t c 0 = kdo bs t (tst bs t c) := by unfold kX; rw [if_pos rfl]; rfl
  rw [e]
  unfold SK at h7
  rcases h7 with ⟨a1, a2⟩ | ⟨a1, a2⟩ | ⟨r, a0, a1, a2, a3⟩ | ⟨a1, a2⟩ | ⟨a1, a2⟩ | ⟨a1, a2, a3⟩
  · omega
  · omega
  · have : ¬ cvt r = 0 := by unfold cvt; split <;> (try split) <;> omega
    omega
  · omega
  · omega
  · have : ¬ kdo bs t (tst bs t c) = 0 := fun z => by rw [z] at a1; exact absurd a1 (by decide)
    omega
theorem x_36s {dx k : Nat} {l1 : Nat} {l2 : Int32} {Ix1 Ix2 Ix3 Ix4 : aI} {Jx3 Jx4 : aJ} (hX : TX bs t n) (H : Lay B w) (hT : XT B bs t n c r Ix) (f4 : f ≤ 4) (hk : f = 0 ∨ kX bs t c r = 256) (h38 : Cl K (dx + 6) 38 [.ref (B + 2), .int (it f)] w Ix Jx = some (none, w, Ix1, Jx)) (h40 : Cl K (dx + 6) 40 [.ref (B + 2)] w Ix1 Jx = some (none, w, Ix2, Jx)) (h55 : Cl K (dx + 6) 55 [.ref (B + 2)] w Ix2 Jx = some (none, w, Ix3, Jx3)) (h77 : Cl K (dx + 6) 77 [.ref (B + 2)] w Ix3 Jx3 = some (none, w, Ix4, Jx4)) : f_22_36 K (k + 1) (dx + 6) (B + 2) l1 l2 (it f) w Ix Jx = f_22_36 K k (dx + 6) (B + 2) l1 l2 (it ((f + 1 : Nat) : Int)) w Ix4 Jx4 := by
  have tail : f_22_58 K k (dx + 6) (f_22_36 K k (dx + 6)) (B + 2) l1 l2 (it f) w Ix Jx = f_22_36 K k (dx + 6) (B + 2) l1 l2 (it ((f + 1 : Nat) : Int)) w Ix4 Jx4 := by
    unfold f_22_58
    simp only [gO_e (yt2 H), lt_p]
    rw [h38]
    simp only [cV_e, gO_e (yt2 H)]
    rw [h40]
    simp only [cV_e, gO_e (yt2 H)]
    rw [h55]
    simp only [cV_e, gO_e (yt2 H)]
    rw [h77]
    simp only [cV_e, it_lit, it_add]
    rw [show (f : Int) + 1 = ((f + 1 : Nat) : Int) by omega]
  rw [f_22_36]
  simp only [it_lit, lt_p, gO_e (yt2 H), gV_e (yp2_0 H), gO_e (yt3 H)]
  rw [if_neg (fun q => by have := (it_le (by omega) (by omega) (by omega) (by omega)).mp q; omega)]
  by_cases f0 : f = 0
  · rw [if_pos (show it f = it 0 by rw [f0]; rfl)]
    exact tail
  · rw [if_neg (fun q => by have := (it_eq (by omega) (by omega) (by omega) (by omega)).mp q; omega), s_37 (d := dx + 5) H hT hX.2.1, hk.resolve_left f0]
    simp only [cI_e]
    rw [if_neg (fun z => z rfl)]
    exact tail
theorem x_36e {dx k : Nat} {l1 : Nat} {l2 : Int32} (hX : TX bs t n) (H : Lay B w) (hT : XT B bs t n c r Ix) (f1 : 1 ≤ f) (f5 : f ≤ 5) (hk : f = 5 ∨ ¬ kX bs t c r = 256) : f_22_36 K (k + 1) (dx + 6) (B + 2) l1 l2 (it f) w Ix Jx = f_22_81 K k (dx + 6) (B + 2) l1 l2 (it f) w Ix Jx := by
  have hb := kX_b (bs := bs) (t := t) (c := c) (r := r)
  rw [f_22_36]
  simp only [it_lit, lt_p, gO_e (yt2 H), gV_e (yp2_0 H), gO_e (yt3 H)]
  by_cases e5 : f = 5
  · rw [if_pos ((it_le (by omega) (by omega) (by omega) (by omega)).mpr (by omega))]
  · have hk' := hk.resolve_left e5
    rw [if_neg (fun q => by have := (it_le (by omega) (by omega) (by omega) (by omega)).mp q; omega), if_neg (fun q => by have := (it_eq (by omega) (by omega) (by omega) (by omega)).mp q; omega), s_37 (d := dx + 5) H hT hX.2.1]
    simp only [cI_e]
    rw [if_pos (fun q => by have := (it_eq (by omega) (by omega) (by omega) (by omega)).mp q; omega)]
theorem m_43s {dy k : Nat} {Im1 : aI} {Jm1 : aJ} {wm1 : aW} (H : Lay B wm) (hT : MR B bs t n c 0 Im) (hk : ¬ kX bs t c 0 = 0) (h88 : Cl K (dy + 9) 88 [.ref (B + 46)] wm Im Jm = some (none, wm1, Im1, Jm1)) : f_83_43 K (k + 1) (dy + 9) (B + 46) wm Im Jm = f_83_43 K k (dy + 9) (B + 46) wm1 Im1 Jm1 := by
  rw [f_83_43]
  simp only [it_lit, lt_p, gO_e (yt46 H)]
  rw [hT.2.1, if_neg (fun z => z rfl), if_neg (fun z => hk ((m_24 hT).mp z)), h88]
  simp only [cV_e]
theorem m_43e {dy k : Nat} (H : Lay B wm) (hT : MR B bs t n c r Im) (hk : r = 1 ∨ kX bs t c r = 0) : f_83_43 K (k + 1) (dy + 9) (B + 46) wm Im Jm = f_83_64 K k (dy + 9) (B + 46) wm Im Jm := by
  rw [f_83_43]
  simp only [it_lit, lt_p, gO_e (yt46 H)]
  by_cases r1 : r = 1
  · subst r1
    rw [hT.2.1, if_pos (by decide)]
  · have r0 : r = 0 := by have := hT.2.2.1; omega
    subst r0
    rw [hT.2.1, if_neg (fun z => z rfl), if_pos ((m_24 hT).mpr (hk.resolve_left r1))]
/-- cells of the class that funs leave -/
def FGx (B a : Nat) (I : aI) (J : aJ) (I' : aI) (J' : aJ) : Prop := (∀ b, oX B a b → ¬ b = B + 15 → I' b = I b) ∧ ∀ b, ¬ b = a + 3 → ¬ b = a + 3 → jv B J' b = jv B J b
def FGm (B m : Nat) (I : aI) (J : aJ) (I' : aI) (J' : aJ) : Prop := (∀ b, b < m → oF B b → I' b = I b) ∧ (∀ k, ¬ k = 5 → ¬ k = 13 → k < 22 ∨ 31 < k → I' (B + 46) k = I (B + 46) k) ∧ ∀ b, b < m → J' b = J b
theorem FGx_t (h1 : FGx B a I J I' J') (h2 : FGx B a I' J' I'' J'') : FGx B a I J I'' J'' := ⟨fun b x y => (h2.1 b x y).trans (h1.1 b x y), fun b x y => (h2.2 b x y).trans (h1.2 b x y)⟩
theorem FGm_t (hm : m ≤ m') (h1 : FGm B m I J I' J') (h2 : FGm B m' I' J' I'' J'') : FGm B m I J I'' J'' := ⟨fun b x y => (h2.1 b (by omega) y).trans (h1.1 b x y), fun k x y z => (h2.2.1 k x y z).trans (h1.2.1 k x y z), fun b x => (h2.2.2 b (by omega)).trans (h1.2.2 b x)⟩
theorem FGm_6 (h : FM6 B I I') : FGm B m I J I' J := ⟨fun b _ x => h.1 b x.1, fun k x y z => h.2 k (by omega) (by omega) (by omega) (by omega) (by omega), fun _ _ => rfl⟩
/-- the first places of the funs, if there is no fault -/
def HY (B a f r : Nat) (Y : Prop) (fa : Nat → Nat → Nat) (Ix Im : aI) : Prop := r = 0 → Y → ∀ g, g < f → Ix (a + 5) (4 * g) = it (fa g 0) ∧ Im (B + 50) g = it (fa g 0)
theorem T_loop {dx dy : Nat} {l1 : Nat} {l2 : Int32} (ha : a = B + 8 ∨ a = B + 22) (hX : TX bs t n) (H : Lay B w) (hp : w.2.1 (B + 2) 1 = some a) (hdx : 181 ≤ dx) (hdy : 1000 ≤ dy) : ∀ (m f c r kx km lp pc pm : Nat) (dp : Int) (gd Y : Prop) (ln : Nat → Nat) (fa : Nat → Nat → Nat) (G : gG) (Ix : aI) (Jx : aJ) (wm : aW) (Im : aI) (Jm : aJ), m + f = 5 → 1 ≤ f → m < kx → m + 1 < km → FJ K B a bs t n w f c r (sl + 4 * m) dp gd Y ln fa G lp pc pm Ix Jx wm Im → HY B a f r Y fa Ix Im →
    ∃ (f' c' r' kx' km' lp' pc' pm' : Nat) (dp' : Int) (gd' Y' : Prop) (ln' : Nat → Nat) (fa' : Nat → Nat → Nat) (G' : gG) (Ix' : aI) (Jx' : aJ) (wm' : aW) (Im0 Im' : aI) (Jm' : aJ), f_22_36 K kx (dx + 6) (B + 2) l1 l2 (it f) w Ix Jx = f_22_81 K kx' (dx + 6) (B + 2) l1 l2 (it f') w Ix' Jx' ∧ f_83_43 K km (dy + 9) (B + 46) wm Im Jm = f_83_64 K km' (dy + 9) (B + 46) wm' Im' Jm' ∧ km ≤ km' + m + 2 ∧ 1 ≤ f' ∧ f' ≤ 5 ∧ FGx B a Ix Jx Ix' Jx' ∧ FGm B wm.2.2.1 Im Jm Im' Jm' ∧ WG' wm wm' (c' - c) ∧ c ≤ c' ∧ FM6 B Im0 Im' ∧ MR B bs t n c' (nxR bs t c' r' 0) Im' ∧ (nxR bs t c' r' 0 = 0 → Im' = Im0) ∧ FJ K B a bs t n w f' c' r' sl dp' gd' Y' ln' fa' G' lp' pc' pm' Ix' Jx' wm' Im0 ∧ HY B a f' r' Y' fa' Ix' Im0 := by
  intro m
  induction m with
  | zero =>
    intro f c r kx km lp pc pm dp gd Y ln fa G Ix Jx wm Im Jm hm f1 hkx hkm h hY
    obtain ⟨kx, rfl⟩ : ∃ k', kx = k' + 1 := ⟨kx - 1, by omega⟩
    obtain ⟨km, rfl⟩ : ∃ k', km = k' + 2 := ⟨km - 2, by omega⟩
    have f5 : f = 5 := by omega
    subst f5
    obtain ⟨hcn, hr1, hXT, hMR⟩ := JS_c h.1
    have hx := x_36e (K := K) (dx := dx) (k := kx) (l1 := l1) (l2 := l2) (Jx := Jx) (f := 5) hX H hXT (by omega) (by omega) (Or.inl rfl)
    by_cases hend : r = 1 ∨ kX bs t c r = 0
    · have e0 : nxR bs t c r 0 = r := by
        unfold nxR
        rcases hend with z | z
        · rw [if_neg (by unfold kX; rw [if_neg (by omega)]; omega), z]
        · rw [if_pos z]
      exact ⟨5, c, r, kx, km + 1, lp, pc, pm, dp, gd, Y, ln, fa, G, Ix, Jx, wm, Im, Im, Jm, hx, m_43e h.2.2.1.1 hMR hend, by omega, by omega, by omega, ⟨fun _ _ _ => rfl, fun _ _ _ => rfl⟩, ⟨fun _ _ _ => rfl, fun _ _ _ _ => rfl, fun _ _ => rfl⟩, WG_r, Nat.le_refl _, FM6_r, by rw [e0]; exact hMR, fun _ => rfl, h, hY⟩
    · have r0 : r = 0 := by omega
      subst r0
      have k0 : ¬ kX bs t c 0 = 0 := fun z => hend (Or.inr z)
      have h5 := (h.2.2.2.2.2.2.2.2 rfl).1
      obtain ⟨Im1, q1, q2, q3⟩ := m_88r (K := K) (dy := dy) (Jm := Jm) hX h.2.2.1 hMR (Or.inr h5)
      have e0 : nxR bs t c 0 0 = 1 := by unfold nxR; rw [if_neg k0]
      exact ⟨5, c, 0, kx, km, lp, pc, pm, dp, gd, Y, ln, fa, G, Ix, Jx, wm, Im, Im1, Jm, hx, (m_43s (k := km + 1) h.2.2.1.1 hMR k0 q1).trans (m_43e h.2.2.1.1 q3 (Or.inl rfl)), by omega, by omega, by omega, ⟨fun _ _ _ => rfl, fun _ _ _ => rfl⟩, FGm_6 q2, WG_r, Nat.le_refl _, q2, by rw [e0]; exact q3, fun z => by omega, h, hY⟩
  | succ m ih =>
    intro f c r kx km lp pc pm dp gd Y ln fa G Ix Jx wm Im Jm hm f1 hkx hkm h hY
    obtain ⟨kx, rfl⟩ : ∃ k', kx = k' + 1 := ⟨kx - 1, by omega⟩
    obtain ⟨km, rfl⟩ : ∃ k', km = k' + 2 := ⟨km - 2, by omega⟩
    obtain ⟨hcn, hr1, hXT, hMR⟩ := JS_c h.1
    have hsl : FJ K B a bs t n w f c r sl dp gd Y ln fa G lp pc pm Ix Jx wm Im := ⟨JS_m (fun q => q) (by omega) h.1, h.2⟩
    by_cases k256 : kX bs t c r = 256
    · obtain ⟨r0, _⟩ := kX_n hX hcn k256 (by omega) (by omega)
      subst r0
      have h' : FJ K B a bs t n w f c 0 (sl + 4 * m + 4) dp gd Y ln fa G lp pc pm Ix Jx wm Im := h
      obtain ⟨c1, r1, dp1, gd1, ln1, fa1, G1, lp1, pc1, pm1, N, Nm, Ix1, Ix2, Ix3, Jx3, Ix4, Jx4, wm1, Im1, Jm1, e38, e40, e55, e77, e88, fx, fm, wg, hc1, n1, n2, rows, h1⟩ := F_fun (K := K) (dx := dx) (dy := dy) (Jm := Jm) ha hX H hp hdx hdy (by omega) h' k256
      have hY1 : HY B a (f + 1) r1 (Y ∧ N = G.1 ∧ Nm = G.1) fa1 Ix4 Im1 := by
        intro r0 y g hg
        obtain ⟨rw1, rw2⟩ := rows r0
        by_cases e : g = f
        · subst e
          rw [n1, n2, rw2, y.2.1, y.2.2]; exact ⟨rfl, rfl⟩
        · rw [rw1 g 0 (by omega), fx.2.1 _ (by omega), fm.2.2.1 g e]
          exact hY rfl y.1 g (by omega)
      obtain ⟨f', c', r', kx', km', lp', pc', pm', dp', gd', Y', ln', fa', G', Ix', Jx', wm', Im0, Im', Jm', a1, a2, a3, a4, a5, a6, a7, a8, a9, a10, a11, a12, a13, a14⟩ := ih (f + 1) c1 r1 kx (km + 1) lp1 pc1 pm1 dp1 gd1 _ ln1 fa1 G1 Ix4 Jx4 wm1 Im1 Jm1 (by omega) (by omega) (by omega) (by omega) h1 hY1
      refine ⟨f', c', r', kx', km', lp', pc', pm', dp', gd', Y', ln', fa', G', Ix', Jx', wm', Im0, Im', Jm', (x_36s hX H hXT (by omega) (Or.inr k256) e38 e40 e55 e77).trans a1, (m_43s (k := km + 1) h.2.2.1.1 hMR (by rw [k256]; omega) e88).trans a2, by omega, a4, a5, FGx_t ⟨fx.1, fx.2.2⟩ a6, FGm_t wg.2.1 ⟨fm.1, fm.2.1, fm.2.2.2⟩ a7, WG_k (by omega) (WG_t wg a8), by omega, a10, a11, a12, a13, a14⟩
    · have hx := x_36e (K := K) (dx := dx) (k := kx) (l1 := l1) (l2 := l2) (Jx := Jx) (f := f) hX H hXT f1 (by omega) (Or.inr k256)
      by_cases hend : r = 1 ∨ kX bs t c r = 0
      · have e0 : nxR bs t c r 0 = r := by
          unfold nxR
          rcases hend with z | z
          · rw [if_neg (by unfold kX; rw [if_neg (by omega)]; omega), z]
          · rw [if_pos z]
        exact ⟨f, c, r, kx, km + 1, lp, pc, pm, dp, gd, Y, ln, fa, G, Ix, Jx, wm, Im, Im, Jm, hx, m_43e h.2.2.1.1 hMR hend, by omega, by omega, by omega, ⟨fun _ _ _ => rfl, fun _ _ _ => rfl⟩, ⟨fun _ _ _ => rfl, fun _ _ _ _ => rfl, fun _ _ => rfl⟩, WG_r, Nat.le_refl _, FM6_r, by rw [e0]; exact hMR, fun _ => rfl, hsl, hY⟩
      · have r0 : r = 0 := by omega
        subst r0
        have k0 : ¬ kX bs t c 0 = 0 := fun z => hend (Or.inr z)
        obtain ⟨Im1, q1, q2, q3⟩ := m_88r (K := K) (dy := dy) (Jm := Jm) hX h.2.2.1 hMR (Or.inl k256)
        have e0 : nxR bs t c 0 0 = 1 := by unfold nxR; rw [if_neg k0]
        exact ⟨f, c, 0, kx, km, lp, pc, pm, dp, gd, Y, ln, fa, G, Ix, Jx, wm, Im, Im1, Jm, hx, (m_43s (k := km + 1) h.2.2.1.1 hMR k0 q1).trans (m_43e h.2.2.1.1 q3 (Or.inl rfl)), by omega, by omega, by omega, ⟨fun _ _ _ => rfl, fun _ _ _ => rfl⟩, FGm_6 q2, WG_r, Nat.le_refl _, q2, by rw [e0]; exact q3, fun z => by omega, hsl, hY⟩
end FUNL

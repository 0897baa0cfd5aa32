/-! the parameters, both -/
section PAR
variable {K : Nat → Value} {B d e a : Nat} {w wm wm' : aW} {Ix Im I I' I'' Ix' Im' : aI} {Jx Jm J J' J'' Jx' Jm' : aJ} {bs : Nat → Nat} {t n c r s sl sl' b op op' m m' : Nat} {pd dp dp0 : Int} {G G1 G' Gs G2 G3 : gG} {Q Qh gd Q0 Q0' : Prop} {f cnt cnt' st st' : Nat} {vn vn' ln : Nat → Nat} {fa fa' fa0 fa0' fs : Nat → Nat → Nat} {G0 G0' : gG} {P P' : Nat → Prop}
theorem x_79e {dx kx i : Nat} {l1 : Int32} {Ix1 : aI} (H : Lay B w) (hi : i < 240) (h49 : Cl K (dx + 4) 49 [.ref (B + 2), .int (it i)] w Ix Jx = some (some (.int (it 0)), w, Ix1, Jx)) : f_40_79 K (kx + 1) (dx + 4) (B + 2) l1 (it i) w Ix Jx = f_40_131 K kx (dx + 4) (B + 2) l1 (it i) w Ix1 Jx := by
  rw [f_40_79]
  simp only [it_lit, lt_p, gO_e (yt2 H)]
  rw [if_neg (fun q => by have := (it_le (by omega) (by omega) (by omega) (by omega)).mp q; omega), h49]
  simp only [cI_e]
  rw [if_pos trivial]
theorem x_79s {dx kx i : Nat} {l1 tt pp xl : Int32} {Ix0 Ix1 Ix2 Ix3 : aI} (H : Lay B w) (hi : i < 240) (h49 : Cl K (dx + 4) 49 [.ref (B + 2), .int (it i)] w Ix0 Jx = some (some (.int (it 1)), w, Ix, Jx)) (h50 : Cl K (dx + 4) 50 [.ref (B + 3)] w Ix Jx = some (some (.int tt), w, Ix1, Jx)) (h44 : Cl K (dx + 4) 44 [.ref (B + 3)] w Ix1 Jx = some (some (.int pp), w, Ix1, Jx)) (h45 : Cl K (dx + 4) 45 [.ref (B + 3)] w Ix1 Jx = some (some (.int xl), w, Ix2, Jx)) (h51 : Cl K (dx + 4) 51 [.ref (B + 2), .int xl, .int tt, .int pp] w Ix2 Jx = some (none, w, Ix3, Jx)) : f_40_79 K (kx + 1) (dx + 4) (B + 2) l1 (it i) w Ix0 Jx = f_40_79 K kx (dx + 4) (B + 2) l1 (it ((i + 1 : Nat) : Int)) w Ix3 Jx := by
  rw [f_40_79]
  simp only [it_lit, lt_p, gO_e (yt2 H)]
  rw [if_neg (fun q => by have := (it_le (by omega) (by omega) (by omega) (by omega)).mp q; omega), h49]
  simp only [cI_e, gO_e (yt2 H), gV_e (yp2_0 H), gO_e (yt3 H)]
  rw [if_neg (by decide), h50]
  simp only [cI_e, gO_e (yt2 H), gV_e (yp2_0 H), gO_e (yt3 H)]
  rw [h44]
  simp only [cI_e, gO_e (yt2 H), gV_e (yp2_0 H), gO_e (yt3 H)]
  rw [h45]
  simp only [cI_e, gO_e (yt2 H)]
  rw [h51]
  simp only [cV_e, it_add]
  rw [show (i : Int) + 1 = ((i + 1 : Nat) : Int) by omega]
theorem m_165s {dy km i : Nat} {l1 l2 tt pp xm : Int32} {Im1 Im2 Im3 : aI} {x : Int32} (H : Lay B wm) (f4 : f ≤ 4) (hi : i ≤ 1000) (h95 : Cl K (dy + 8) 95 [.ref (B + 46)] wm Im Jm = some (some (.int tt), wm, Im1, Jm)) (h22 : Im1 (B + 46) 22 = pp) (h91 : Cl K (dy + 8) 91 [.ref (B + 46)] wm Im1 Jm = some (some (.int xm), wm, Im2, Jm)) (h96 : Cl K (dy + 8) 96 [.ref (B + 46), .int xm, .int tt, .int pp] wm Im2 Jm = some (none, wm, Im3, Jm)) (h30 : Im3 (B + 46) 30 = it f) (h58 : Im3 (B + 51) f = it i) (h94 : Cl K (dy + 8) 94 [.ref (B + 46), .int (it 44)] wm (sm_up2 Im3 (B + 51) f (it ((i + 1 : Nat) : Int))) Jm = some (some (.int x), wm, sm_up2 Im3 (B + 51) f (it ((i + 1 : Nat) : Int)), Jm)) : f_88_165 K (km + 1) (dy + 8) (B + 46) l1 l2 (it 1) wm Im Jm = if x = it 0 then f_88_165 K km (dy + 8) (B + 46) l1 l2 x wm (sm_up2 Im3 (B + 51) f (it ((i + 1 : Nat) : Int))) Jm else cV (Cl K (dy + 8) 84 [.ref (B + 46)] wm (sm_up2 Im3 (B + 51) f (it ((i + 1 : Nat) : Int))) Jm) (fun w I J => f_88_165 K km (dy + 8) (B + 46) l1 l2 x w I J) := by
  rw [f_88_165]
  simp only [it_lit, lt_p, gO_e (yt46 H), gV_e (yp46_8 H)]
  rw [if_neg (by decide), h95]
  simp only [cI_e, gO_e (yt46 H)]
  rw [h91, h22]
  simp only [cI_e, gO_e (yt46 H)]
  rw [h96]
  simp only [cV_e, gO_e (yt46 H), gV_e (yp46_8 H)]
  rw [h30, gA_e (yt51 H) (Or.inl rfl) (ix (by omega) (by omega) (by omega)), gA_e (yt51 H) (Or.inl rfl) (ix (by omega) (by omega) (by omega)), it_n (by omega), h58, it_add, show (i : Int) + 1 = ((i + 1 : Nat) : Int) by omega, h94]
  simp only [cI_e, gO_e (yt46 H)]
  by_cases e : x = it 0
  · rw [if_pos e, if_pos e]; rfl
  · rw [if_neg e, if_neg e]; rfl
theorem PJ_58 {x : Int32} (h : PJ K B a bs t n dp w f ln c r sl cnt vn fa G op Q Ix Jx wm Im) (ha : a = B + 8 ∨ a = B + 22) : PJ K B a bs t n dp w f ln c r sl cnt vn fa G op Q Ix Jx wm (sm_up2 Im (B + 51) f x) := by
  obtain ⟨hJ, hO, hS, i2, i30, hcx, ⟨cm, c1, c2⟩, hdp, i11, nn⟩ := h
  refine ⟨JS_o ha (fun _ _ => rfl) (fun b hb => up2_n (by omega)) hJ, hO, ⟨hS.1, hS.2.1, StO_c (fun b hb => ⟨up2_n (by omega), rfl, rfl⟩) hS.2.2.1, hS.2.2.2⟩, i2, by rw [up2_n (by omega)]; exact i30, hcx, ⟨cm, c1, by rw [up2_n (by omega)]; exact c2⟩, hdp, i11, fun z => ?_⟩
  obtain ⟨n1, n2, n3, n4⟩ := nn z
  refine ⟨n1, n2, ?_, n4⟩
  obtain ⟨m1, m2, m3, m4⟩ := n3
  exact ⟨by rw [up2_n (by omega)]; exact m1, by rw [up2_n (by omega)]; exact m2, by rw [up2_n (by omega), up2_n (by omega)]; exact m3, fun q => q.elim⟩
/-- PJ at another token -/
theorem PJ_k {c' : Nat} (ha : a = B + 8 ∨ a = B + 22) (hX : TX bs t n) (h : PJ K B a bs t n dp w f ln c r sl cnt vn fa G op Q Ix Jx wm Im) (x3 : FX3 B Ix Ix') (xT : XT B bs t n c' r Ix') (m6 : FM6 B Im Im') (mT : MR B bs t n c' r Im') (hc : c ≤ c') : PJ K B a bs t n dp w f ln c' r sl cnt vn fa G op Q Ix' Jx wm Im' := by
  obtain ⟨hJ, hO, hS, i2, i30, ⟨cx, c0, c0'⟩, ⟨cm, c1, c2⟩, hdp, i11, nn⟩ := h
  have fx : FEx B a Ix Jx Ix' Jx := FX3_E ha x3
  have fm : FMx B wm.2.2.1 Im Jx Im' Jx := FMx_6 m6
  have h82 := hS.2.2.2
  refine ⟨JS_k ha hJ x3 xT m6 mT (by omega) (fun z => z), StO_F ha fx hO, SM_f (WG_r (k := 0)) fm hS, by rw [x3 (B + 2) (by omega)]; exact i2, by rw [m6.2 30 (by omega) (by omega) (by omega) (by omega) (by omega)]; exact i30, ⟨cx, c0, by rw [x3 (a + 5) (by omega)]; exact c0'⟩, ⟨cm, c1, by rw [m6.1 (B + 52) (by omega)]; exact c2⟩, by have := tst_m hX hc xT.2.2.2.1; omega, by rw [x3 (B + 2) (by omega)]; exact i11, fun z => ?_⟩
  obtain ⟨n1, n2, n3, n4⟩ := nn z
  exact ⟨n1, NX_f ha fx n2, NM_f h82 fm n3, by rw [x3 (a + 5) (by omega)]; exact n4⟩
theorem PL_loop {dx dy : Nat} {l1 l2 lx : Int32} (ha : a = B + 8 ∨ a = B + 22) (hX : TX bs t n) (H : Lay B w) (hp : w.2.1 (B + 2) 1 = some a) (f4 : f ≤ 4) : ∀ (m c cnt i kx km : Nat) (vn : Nat → Nat) (fa : Nat → Nat → Nat) (dp : Int) (Q : Prop) (Ix : aI) (Im : aI), n + 1 ≤ c + m → m < kx → m < km → 2 * i + 2 ≤ c → ((Q = Qh ∧ dp = dp0 ∧ cnt = i) ∨ (Q = False ∧ 0 ≤ dp)) → Im (B + 51) f = it i → PJ K B a bs t n dp w f ln c 0 sl cnt vn fa G op Q Ix Jx wm Im →
    ∃ (c' r' cnt' i' kx' km' : Nat) (vn' : Nat → Nat) (fa' : Nat → Nat → Nat) (dp' : Int) (Q' : Prop) (Ix' Im' : aI), (∀ Ix0, Cl K (dx + 4) 49 [.ref (B + 2), .int (it i)] w Ix0 Jx = some (some (.int (it 1)), w, Ix, Jx) → f_40_79 K (kx + 1) (dx + 4) (B + 2) lx (it i) w Ix0 Jx = f_40_131 K kx' (dx + 4) (B + 2) lx (it i') w Ix' Jx) ∧ f_88_165 K (km + 1) (dy + 8) (B + 46) l1 l2 (it 1) wm Im Jm = f_88_165 K (km' + 1) (dy + 8) (B + 46) l1 l2 (it 0) wm Im' Jm ∧ FSx B a f op Ix Jx Ix' Jx ∧ (∀ b, b < wm.2.2.1 → oM B b → ¬ b = B + 51 → Im' b = Im b) ∧ (∀ k, ¬ k = 13 ∧ ¬ k = 22 ∧ ¬ k = 23 ∧ ¬ k = 24 ∧ ¬ k = 25 ∧ ¬ k = 26 ∧ ¬ k = 27 ∧ ¬ k = 28 ∧ ¬ k = 29 → Im' (B + 46) k = Im (B + 46) k) ∧ (∀ k, ¬ k = f → Im' (B + 51) k = Im (B + 51) k ∧ Im' (B + 52) k = Im (B + 52) k) ∧ (∀ k, k < 6 * f → Im' (B + 54) k = Im (B + 54) k ∧ Im' (B + 55) k = Im (B + 55) k) ∧ c ≤ c' ∧ 1 ≤ i' ∧ i' ≤ 240 ∧ Im' (B + 51) f = it ((i' : Nat) : Int) ∧ (r' = 0 → c + 2 ≤ c' ∧ 1 ≤ cnt') ∧ ((Q' = Qh ∧ dp' = dp0 ∧ cnt' = i') ∨ (Q' = False ∧ 0 ≤ dp') ∨ r' = 1) ∧ (∀ k, k < 4 → ¬ k = 2 → fa' f k = fa f k) ∧ (∀ g k, g < f → fa' g k = fa g k) ∧ PJ K B a bs t n dp' w f ln c' r' sl cnt' vn' fa' G op Q' Ix' Jx wm Im' := by
  intro m
  induction m using Nat.strongRecOn with
  | ind m ih =>
    intro c cnt i kx km vn fa dp Q Ix Im h1 h2 h3 h4 h5 h6 h
    have hn := hX.2.1
    obtain ⟨hcn, _⟩ := JS_c h.1
    have h82 := h.2.2.1.2.2.2
    obtain ⟨c1, r1, cnt1, vn1, fa1, Q1, dp1, tt, xl, xm, pp, Ix1, Ix2, Ix3, Im1, Im2, Im3, a1, a2, a3, a4, a5, a6, a7, a8, a9, a10, a11, a12, a13, a14, a15, a16⟩ := P_st (K := K) (dx := dx) (dy := dy) (Jm := Jm) ha hX H hp h
    have e58 : Im3 (B + 51) f = it i := by rw [a10.1 (B + 51) (by omega) (by unfold oM; omega)]; exact h6
    have h30 : Im3 (B + 46) 30 = it f := a16.2.2.2.2.1
    have hP4 := PJ_58 (x := it ((i + 1 : Nat) : Int)) a16 ha
    obtain ⟨c1n, r11, hXT3, hMR4⟩ := JS_c hP4.1
    have e94 := s_94 (K := K) (d := dy + 7) (J := Jm) h.2.2.1.1 hMR4 hX (show it 44 = it ((44 : Nat) : Int) from rfl) (by decide)
    obtain ⟨Ix4, y1, y2, y3⟩ := s_49s (K := K) (d := dx + 2) (J := Jx) (i := i + 1) hX H hXT3 (by omega) (by omega)
    have e165 := m_165s (km := km) (l1 := l1) (l2 := l2) h.2.2.1.1 f4 (by omega) a5 a6 a7 a8 h30 e58 e94
    have st79 := fun Ix0 (q : Cl K (dx + 4) 49 [.ref (B + 2), .int (it i)] w Ix0 Jx = some (some (.int (it 1)), w, Ix, Jx)) => x_79s (kx := kx) (l1 := lx) H (by omega) q a1 a2 a3 a4
    have fmo : (∀ b, b < wm.2.2.1 → oM B b → ¬ b = B + 51 → sm_up2 Im3 (B + 51) f (it ((i + 1 : Nat) : Int)) b = Im b) ∧ (∀ k, ¬ k = 13 ∧ ¬ k = 22 ∧ ¬ k = 23 ∧ ¬ k = 24 ∧ ¬ k = 25 ∧ ¬ k = 26 ∧ ¬ k = 27 ∧ ¬ k = 28 ∧ ¬ k = 29 → sm_up2 Im3 (B + 51) f (it ((i + 1 : Nat) : Int)) (B + 46) k = Im (B + 46) k) ∧ (∀ k, ¬ k = f → sm_up2 Im3 (B + 51) f (it ((i + 1 : Nat) : Int)) (B + 51) k = Im (B + 51) k ∧ sm_up2 Im3 (B + 51) f (it ((i + 1 : Nat) : Int)) (B + 52) k = Im (B + 52) k) ∧ (∀ k, k < 6 * f → sm_up2 Im3 (B + 51) f (it ((i + 1 : Nat) : Int)) (B + 54) k = Im (B + 54) k ∧ sm_up2 Im3 (B + 51) f (it ((i + 1 : Nat) : Int)) (B + 55) k = Im (B + 55) k) := by
      refine ⟨fun b q1 q2 q3 => by rw [up2_n q3]; exact a10.1 b q1 q2, fun k q => by rw [up2_n (by omega)]; exact a10.2.1 k q, fun k q => ⟨by rw [up2_r, up1_n q, a10.1 (B + 51) (by omega) (by unfold oM; omega)], by rw [up2_n (by omega)]; exact a10.2.2.1 k q⟩, fun k q => ?_⟩
      rw [up2_n (by omega), up2_n (by omega)]; exact a10.2.2.2.1 k q
    obtain ⟨kx, rfl⟩ : ∃ k', kx = k' + 1 := ⟨kx - 1, by omega⟩
    obtain ⟨km, rfl⟩ : ∃ k', km = k' + 1 := ⟨km - 1, by omega⟩
    by_cases k44 : kX bs t c1 r1 = 44
    · obtain ⟨r10, hc1, _⟩ := kX_n hX c1n k44 (by omega) (by omega)
      subst r10
      have hcc := a12 rfl
      rw [if_pos k44] at e94 y1 y2 e165
      rw [if_neg (by decide)] at e165
      obtain ⟨Im5, m1, m2, m3⟩ := s_84k (K := K) (d := dy + 2) (J := Jm) hX h.2.2.1.1 hP4.2.2.1.2.1 hP4.2.2.1.2.2.1 hMR4 hc1
      rw [m1] at e165
      simp only [cV_e] at e165
      have hP5 := PJ_k ha hX hP4 y3 y2 m2 m3 (by omega)
      have h58' : Im5 (B + 51) f = it ((i + 1 : Nat) : Int) := by rw [m2.1 (B + 51) (by omega), up2_r, up1_s]
      obtain ⟨c', r', cnt', i', kx', km', vn', fa', dp', Q', Ix', Im', b1, b2, b3, b4, b5, b6, b7, b8, b9, b10, b11, b12, b13, b14, b15, b16⟩ := ih (m - 1) (by omega) (c1 + 1) cnt1 (i + 1) kx km vn1 fa1 dp1 Q1 Ix4 Im5 (by omega) (by omega) (by omega) (by omega) (by
        rcases a13 with ⟨q1, q2, q3⟩ | q
        · rcases h5 with ⟨q4, q5, q6⟩ | ⟨q4, q5⟩
          · exact Or.inl ⟨q1.trans q4, q2.trans q5, by omega⟩
          · exact Or.inr ⟨q1.trans q4, by omega⟩
        · exact Or.inr q) h58' hP5
      refine ⟨c', r', cnt', i', kx', km', vn', fa', dp', Q', Ix', Im', fun Ix0 q => (st79 Ix0 q).trans (b1 Ix3 y1), e165.trans b2, FSx_t (Nat.le_refl _) (FSx_t (Nat.le_refl _) a9 (FSx_e ha (FX3_E ha y3))) b3, fun b q1 q2 q3 => ?_, fun k q => ?_, fun k q => ⟨?_, ?_⟩, fun k q => ⟨?_, ?_⟩, by omega, b9, b10, b11, fun z => ⟨by have := (b12 z).1; omega, (b12 z).2⟩, b13, fun k q1 q2 => (b14 k q1 q2).trans (a14 k q1 q2), fun g k q => (b15 g k q).trans (a15 g k q), b16⟩
      · rw [b4 b q1 q2 q3, m2.1 b (by unfold oM at q2; omega)]; exact fmo.1 b q1 q2 q3
      · rw [b5 k q, m2.2 k (by omega) (by omega) (by omega) (by omega) (by omega)]; exact fmo.2.1 k q
      · rw [(b6 k q).1, m2.1 (B + 51) (by omega)]; exact (fmo.2.2.1 k q).1
      · rw [(b6 k q).2, m2.1 (B + 52) (by omega)]; exact (fmo.2.2.1 k q).2
      · rw [(b7 k q).1, m2.1 (B + 54) (by omega)]; exact (fmo.2.2.2 k q).1
      · rw [(b7 k q).2, m2.1 (B + 55) (by omega)]; exact (fmo.2.2.2 k q).2
    · rw [if_neg k44] at e94 y1 y2 e165
      rw [if_pos rfl] at e165
      have hP5 := PJ_k ha hX hP4 y3 y2 FM6_r hMR4 (Nat.le_refl _)
      refine ⟨c1, r1, cnt1, i + 1, kx, km, vn1, fa1, dp1, Q1, Ix4, _, fun Ix0 q => (st79 Ix0 q).trans (x_79e H (by omega) y1), e165, FSx_t (Nat.le_refl _) a9 (FSx_e ha (FX3_E ha y3)), fmo.1, fmo.2.1, fmo.2.2.1, fmo.2.2.2, a11, by omega, by omega, by rw [up2_r, up1_s], a12, ?_, a14, a15, hP5⟩
      rcases a13 with ⟨q1, q2, q3⟩ | q
      · rcases h5 with ⟨q4, q5, q6⟩ | ⟨q4, q5⟩
        · exact Or.inl ⟨q1.trans q4, q2.trans q5, by omega⟩
        · exact Or.inr (Or.inl ⟨q1.trans q4, by omega⟩)
      · exact Or.inr (Or.inl q)
end PAR

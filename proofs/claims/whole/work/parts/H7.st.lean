/-! statements one after the other -/
def STr (K : Nat → Value) (B a : Nat) (bs : Nat → Nat) (t n : Nat) (dp : Int) (w : aW) (f : Nat) (ln : Nat → Nat) (gd : Prop) (dx st : Nat) (fa0 : Nat → Nat → Nat) (G0 : gG) (Q0 : Prop) (P : Nat → Prop) (M : Nat → aW → aI → aJ → Prop) (L : Option aR) (c sl op : Nat) (Ix : aI) (Jx : aJ) (wm : aW) (Im : aI) (Jm : aJ) : Prop :=
  ∃ (c' r' cnt' : Nat) (vn' : Nat → Nat) (fa' : Nat → Nat → Nat) (G' : gG) (Ix' : aI) (Jx' : aJ) (wm' : aW) (Im' : aI) (Jm' : aJ), M r' wm' Im' Jm' ∧ FSx B a f op Ix Jx Ix' Jx' ∧ FSm B f wm.2.2.1 Im Jm Im' Jm' ∧ WG' wm wm' (c' - c) ∧ c ≤ c' ∧ (r' = 1 ∨ c < c' ∨ kX bs t c' 0 = 125) ∧ (r' = 0 → M r' wm' Im' Jm' ∧ True) ∧ SJ K B a bs t n dp w f ln gd st fa0 G0 Q0 P c' r' (slR r' sl) cnt' vn' fa' G' op Ix' Jx' wm' Im' ∧ LoopR K B n dx w L c' r' Ix' Jx'
def STp (K : Nat → Value) (B a : Nat) (bs : Nat → Nat) (t n : Nat) (dp : Int) (w : aW) (f : Nat) (ln : Nat → Nat) (gd : Prop) (dx m : Nat) : Prop :=
  ∀ (st : Nat) (fa0 : Nat → Nat → Nat) (G0 : gG) (Q0 : Prop) (P : Nat → Prop) (c sl cnt : Nat) (vn : Nat → Nat) (fa : Nat → Nat → Nat) (G : gG) (op : Nat) (Ix : aI) (Jx : aJ) (wm : aW) (Im : aI) (Jm : aJ) (kx i y : Nat), n + 1 ≤ c + m → 1 ≤ op → 4 * op ≤ tst bs t c → n + 5 ≤ c + kx → i + 5 ≤ c → 200 + 3 * m ≤ y → SJ K B a bs t n dp w f ln gd st fa0 G0 Q0 P c 0 (sl + 2) cnt vn fa G op Ix Jx wm Im → ¬ kX bs t c 0 = 125 →
    ∃ (c' r' cnt' : Nat) (vn' : Nat → Nat) (fa' : Nat → Nat → Nat) (G' : gG) (Ix' : aI) (Jx' : aJ) (wm' : aW) (Im' : aI) (Jm' : aJ), Cl K y 99 [.ref (B + 46)] wm Im Jm = some (none, wm', Im', Jm') ∧ FSx B a f op Ix Jx Ix' Jx' ∧ FSm B f wm.2.2.1 Im Jm Im' Jm' ∧ WG' wm wm' (c' - c) ∧ c ≤ c' ∧ (r' = 0 → c < c') ∧ SJ K B a bs t n dp w f ln gd st fa0 G0 Q0 P c' r' (slR r' sl) cnt' vn' fa' G' op Ix' Jx' wm' Im' ∧ LoopR K B n dx w (f_55_9 K kx (dx + 5) (B + 2) (it ((i : Nat) : Int)) w Ix Jx) c' r' Ix' Jx'
def BSp (K : Nat → Value) (B a : Nat) (bs : Nat → Nat) (t n : Nat) (dp : Int) (w : aW) (f : Nat) (ln : Nat → Nat) (gd : Prop) (dx m : Nat) : Prop :=
  ∀ (st : Nat) (fa0 : Nat → Nat → Nat) (G0 : gG) (Q0 : Prop) (P : Nat → Prop) (c sl cnt : Nat) (vn : Nat → Nat) (fa : Nat → Nat → Nat) (G : gG) (op : Nat) (Ix : aI) (Jx : aJ) (wm : aW) (Im : aI) (Jm : aJ) (kx i km y : Nat), n + 1 ≤ c + m → 1 ≤ op → 4 * op ≤ tst bs t c → n + 5 ≤ c + kx → i + 5 ≤ c → n + 5 ≤ c + km → 200 + 3 * m ≤ y → SJ K B a bs t n dp w f ln gd st fa0 G0 Q0 P c 0 (sl + 2) cnt vn fa G op Ix Jx wm Im →
    ∃ (c' r' cnt' : Nat) (vn' : Nat → Nat) (fa' : Nat → Nat → Nat) (G' : gG) (Ix' : aI) (Jx' : aJ) (wm' : aW) (Im' : aI) (Jm' : aJ), ((r' = 0 ∧ kX bs t c' 0 = 125 ∧ f_98_6 K km y (B + 46) wm Im Jm = cV (Cl K y 93 [.ref (B + 46), .int (it 125)] wm' Im' Jm') (fun w I J => some (none, w, I, J))) ∨ (r' = 1 ∧ f_98_6 K km y (B + 46) wm Im Jm = some (none, wm', Im', Jm'))) ∧ FSx B a f op Ix Jx Ix' Jx' ∧ FSm B f wm.2.2.1 Im Jm Im' Jm' ∧ WG' wm wm' (c' - c) ∧ c ≤ c' ∧ SJ K B a bs t n dp w f ln gd st fa0 G0 Q0 P c' r' (slR r' sl) cnt' vn' fa' G' op Ix' Jx' wm' Im' ∧ LoopR K B n dx w (f_55_9 K kx (dx + 5) (B + 2) (it ((i : Nat) : Int)) w Ix Jx) c' r' Ix' Jx'
section BLK
variable {K : Nat → Value} {B d e a : Nat} {w wm wm' : aW} {Ix Im I I' I'' Ix' Im' : aI} {Jx Jm J J' J'' Jx' Jm' : aJ} {bs : Nat → Nat} {t n c r s sl sl' b op op' m m' : Nat} {pd dp : Int} {G G1 G' : gG} {Q gd Q0 Q0' : Prop} {f cnt cnt' st st' : Nat} {vn vn' ln : Nat → Nat} {fa fa' fa0 fa0' : Nat → Nat → Nat} {G0 G0' : gG} {P P' : Nat → Prop}
theorem Blk {dx M : Nat} (ha : a = B + 8 ∨ a = B + 22) (hX : TX bs t n) (hS : ∀ m, m < M → STp K B a bs t n dp w f ln gd dx m) : ∀ m, m < M → BSp K B a bs t n dp w f ln gd dx m := by
  intro m
  induction m using Nat.strongRecOn with
  | ind m ih =>
    intro hm st fa0 G0 Q0 P c sl cnt vn fa G op Ix Jx wm Im Jm kx i km y h1 h2 h3 h4 h5 h6 h7 h
    obtain ⟨hJ, hO, hSM, _⟩ := id h
    obtain ⟨hcn, _, hXT, hMR⟩ := JS_c hJ
    have hn := hX.2.1
    obtain ⟨km, rfl⟩ : ∃ k', km = k' + 1 := ⟨km - 1, by omega⟩
    obtain ⟨y', rfl⟩ : ∃ y', y = y' + 8 := ⟨y - 8, by omega⟩
    have e94 := s_94 (K := K) (d := y' + 7) (J := Jm) hSM.1 hMR hX (show it 125 = it ((125 : Nat) : Int) from rfl) (by decide)
    have hd : f_98_6 K (km + 1) (y' + 8) (B + 46) wm Im Jm = if kX bs t c 0 = 125 then cV (Cl K (y' + 8) 93 [.ref (B + 46), .int (it 125)] wm Im Jm) (fun w I J => some (none, w, I, J)) else cV (Cl K (y' + 8) 99 [.ref (B + 46)] wm Im Jm) (fun w I J => f_98_6 K km (y' + 8) (B + 46) w I J) := by
      rw [f_98_6]
      simp only [it_lit, lt_p, gO_e (yt46 hSM.1)]
      rw [hMR.2.1, if_neg (fun q => q rfl), e94]
      simp only [cI_e, gO_e (yt46 hSM.1)]
      by_cases k : kX bs t c 0 = 125
      · rw [if_pos k, if_pos (by decide), if_pos k]
        unfold f_98_29
        simp only [it_lit, gO_e (yt46 hSM.1)]
      · rw [if_neg k, if_neg (fun q => q rfl), if_neg k]
    by_cases k : kX bs t c 0 = 125
    · rw [if_pos k] at hd
      exact ⟨c, 0, cnt, vn, fa, G, Ix, Jx, wm, Im, Jm, Or.inl ⟨rfl, k, hd⟩, FSx_r, FSm_r, WG_r, Nat.le_refl _, h, Or.inl ⟨rfl, kx, i, rfl, h4, h5⟩⟩
    · rw [if_neg k] at hd
      obtain ⟨c2, r2, cnt2, vn2, fa2, G2, Ix2, Jx2, wm2, Im2, Jm2, a1, a2, a3, a4, a5, a6, a7, a8⟩ := hS m hm st fa0 G0 Q0 P c sl cnt vn fa G op Ix Jx wm Im Jm kx i (y' + 8) h1 h2 h3 h4 h5 h7 h k
      rw [a1] at hd
      simp only [cV_e] at hd
      rcases a8 with ⟨r0, kx', i', b1, b2, b3⟩ | ⟨r1, b1⟩
      · subst r0
        have c2n := (JS_c a7.1).1
        have cc := a6 rfl
        obtain ⟨c3, r3, cnt3, vn3, fa3, G3, Ix3, Jx3, wm3, Im3, Jm3, d1, d2, d3, d4, d5, d6, d7⟩ := ih (m - 1) (by omega) (by omega) st fa0 G0 Q0 P c2 sl cnt2 vn2 fa2 G2 op Ix2 Jx2 wm2 Im2 Jm2 kx' i' km (y' + 8) (by omega) h2 (by have := tst_m hX a5 c2n; omega) b2 b3 (by omega) (by omega) a7
        refine ⟨c3, r3, cnt3, vn3, fa3, G3, Ix3, Jx3, wm3, Im3, Jm3, ?_, FSx_t (Nat.le_refl _) a2 d2, FSm_t a4.2.1 a3 d3, WG_k (by omega) (WG_t a4 d4), by omega, d6, ?_⟩
        · rcases d1 with ⟨q1, q2, q3⟩ | ⟨q1, q2⟩
          · exact Or.inl ⟨q1, q2, hd.trans q3⟩
          · exact Or.inr ⟨q1, hd.trans q2⟩
        · rw [b1]; exact d7
      · subst r1
        obtain ⟨km, rfl⟩ : ∃ k', km = k' + 1 := ⟨km - 1, by omega⟩
        obtain ⟨Im3, e1, e2, e3⟩ := R1_98 (K := K) (y := y') (km := km) (Jm := Jm2) hX a7
        exact ⟨c2, 1, cnt2, vn2, fa2, G2, Ix2, Jx2, wm2, Im3, Jm2, Or.inr ⟨rfl, hd.trans e1⟩, a2, FSm_t a4.2.1 a3 (FSm_e (by have := a7.2.2.1.2.2.2; omega) e2), a4, a5, e3, Or.inr ⟨rfl, b1⟩⟩
/-- a statement without a block -/
theorem S_fin {dx y kx i mm : Nat} (ha : a = B + 8 ∨ a = B + 22) (hX : TX bs t n) (H : Lay B w) (h : SJ K B a bs t n dp w f ln gd st fa0 G0 Q0 P c 0 (sl + 2) cnt vn fa G op Ix Jx wm Im) (o1 : 1 ≤ op) (o2 : 4 * op ≤ tst bs t c) (h4 : n + 5 ≤ c + kx) (h5 : i + 5 ≤ c) (hk : (kX bs t c 0 = 1 ∧ mm = 74) ∨ (kX bs t c 0 = 125 ∧ mm = 57) ∨ (kX bs t c 0 = 257 ∧ mm = 75) ∨ (kX bs t c 0 = 259 ∧ mm = 75) ∨ (kX bs t c 0 = 260 ∧ mm = 76) ∨ (kX bs t c 0 = 261 ∧ mm = 76) ∨ (kX bs t c 0 = 262 ∧ mm = 62) ∨ (kX bs t c 0 = 263 ∧ mm = 62) ∨ (kX bs t c 0 = 264 ∧ mm = 62) ∨ (kX bs t c 0 = 265 ∧ mm = 62))
    (hs : Stm K B a bs t n dp w f ln gd st fa0 G0 Q0 P (Cl K (dx + 5) mm [.ref (B + 2)] w Ix Jx) (Cl K y 99 [.ref (B + 46)] wm Im Jm) c (sl + 2) op Ix Jx wm Im Jm) :
    ∃ (c' r' cnt' : Nat) (vn' : Nat → Nat) (fa' : Nat → Nat → Nat) (G' : gG) (Ix' : aI) (Jx' : aJ) (wm' : aW) (Im' : aI) (Jm' : aJ), Cl K y 99 [.ref (B + 46)] wm Im Jm = some (none, wm', Im', Jm') ∧ FSx B a f op Ix Jx Ix' Jx' ∧ FSm B f wm.2.2.1 Im Jm Im' Jm' ∧ WG' wm wm' (c' - c) ∧ c ≤ c' ∧ (r' = 0 → c < c') ∧ SJ K B a bs t n dp w f ln gd st fa0 G0 Q0 P c' r' (slR r' sl) cnt' vn' fa' G' op Ix' Jx' wm' Im' ∧ LoopR K B n dx w (f_55_9 K kx (dx + 5) (B + 2) (it ((i : Nat) : Int)) w Ix Jx) c' r' Ix' Jx' := by
  obtain ⟨c', r', cnt', vn', fa', G', Ix', Jx', wm', Im', Jm', a1, a2, a3, a4, a5, a6, a7⟩ := hs
  obtain ⟨hJ, _⟩ := id h
  obtain ⟨hcn, _, hXT, hMR⟩ := JS_c hJ
  have hn := hX.2.1
  have ht := tst_t bs t c
  have ht2 := hX.1
  obtain ⟨kx, rfl⟩ : ∃ k', kx = k' + 1 := ⟨kx - 1, by omega⟩
  have n5 := (h.2.2.2.2.2.2.2.2 rfl).2.2.2.2.1
  have hb := b_step (K := K) (dx := dx) (kx := kx) (i := i) (mm := mm) hX H hXT (by omega) n5 o1 (by omega) hk a1
  obtain ⟨c'n, r'1, hXT', _⟩ := JS_c a7.1
  by_cases r0 : r' = 0
  · subst r0
    exact ⟨c', 0, cnt', vn', fa', G', Ix', Jx', wm', Im', Jm', a2, a3, a4, a5, by omega, fun _ => a6, a7, Or.inl ⟨rfl, kx, i + 1, hb, by omega, by omega⟩⟩
  · have r1 : r' = 1 := by omega
    subst r1
    obtain ⟨kx, rfl⟩ : ∃ k', kx = k' + 2 := ⟨kx - 2, by omega⟩
    have k3 : kX bs t c' 1 = 3 := by unfold kX; rw [if_neg (by omega)]
    obtain ⟨Ix2, z1, z2, z3, z4⟩ := b_end (K := K) (dx := dx) (kx := kx) (i := i + 1) (op := op) (Jx := Jx') hX H hXT' (by omega) (Or.inl rfl) (by rw [k3]; omega)
    exact ⟨c', 1, cnt', vn', fa', G', Ix2, Jx', wm', Im', Jm', a2, FSx_t (Nat.le_refl _) a3 (FSx_z ha z3 z4), a4, a5, by omega, fun z => by omega, SJ_s (by unfold slR; simp) (SJ_z ha a7 (fun _ => trivial) rfl z2 z3 z4), Or.inr ⟨rfl, hb.trans z1⟩⟩
/-- nothing that begins a statement, both -/
theorem S_no {dx dy kx i : Nat} (ha : a = B + 8 ∨ a = B + 22) (hX : TX bs t n) (H : Lay B w) (h : SJ K B a bs t n dp w f ln gd st fa0 G0 Q0 P c 0 (sl + 2) cnt vn fa G op Ix Jx wm Im) (o1 : 1 ≤ op) (o2 : 4 * op ≤ tst bs t c) (h4 : n + 5 ≤ c + kx) (h5 : i + 5 ≤ c) (hk : ¬ kX bs t c 0 = 1 ∧ ¬ kX bs t c 0 = 125 ∧ ¬ kX bs t c 0 = 257 ∧ ¬ kX bs t c 0 = 259 ∧ ¬ kX bs t c 0 = 260 ∧ ¬ kX bs t c 0 = 261 ∧ ¬ kX bs t c 0 = 262 ∧ ¬ kX bs t c 0 = 263 ∧ ¬ kX bs t c 0 = 264 ∧ ¬ kX bs t c 0 = 265) :
    ∃ (c' r' cnt' : Nat) (vn' : Nat → Nat) (fa' : Nat → Nat → Nat) (G' : gG) (Ix' : aI) (Jx' : aJ) (wm' : aW) (Im' : aI) (Jm' : aJ), Cl K (dy + 9) 99 [.ref (B + 46)] wm Im Jm = some (none, wm', Im', Jm') ∧ FSx B a f op Ix Jx Ix' Jx' ∧ FSm B f wm.2.2.1 Im Jm Im' Jm' ∧ WG' wm wm' (c' - c) ∧ c ≤ c' ∧ (r' = 0 → c < c') ∧ SJ K B a bs t n dp w f ln gd st fa0 G0 Q0 P c' r' (slR r' sl) cnt' vn' fa' G' op Ix' Jx' wm' Im' ∧ LoopR K B n dx w (f_55_9 K kx (dx + 5) (B + 2) (it ((i : Nat) : Int)) w Ix Jx) c' r' Ix' Jx' := by
  obtain ⟨hJ, hO, hS, i2, i30, ⟨cx, c1, c2⟩, ⟨cm, c3, c4⟩, hd, nn⟩ := id h
  obtain ⟨hcn, _, hXT, hMR⟩ := JS_c hJ
  have hn := hX.2.1
  have h82 := hS.2.2.2
  have ht := tst_t bs t c
  have ht2 := hX.1
  obtain ⟨kx, rfl⟩ : ∃ k', kx = k' + 2 := ⟨kx - 2, by omega⟩
  obtain ⟨Ix2, z1, z2, z3, z4⟩ := b_end (K := K) (dx := dx) (kx := kx) (i := i) (op := op) (Jx := Jx) hX H hXT (by omega) (Or.inr ⟨(nn rfl).2.2.2.2.1, o1, by omega⟩) hk
  have hT2 : MR B bs t n c 1 (sm_up2 Im (B + 46) 26 (it 1)) := by
    obtain ⟨hM, _, hr, hc, h22, _⟩ := hMR
    exact ⟨⟨by rw [up2_r, up1_n (by omega)]; exact hM.1, by rw [up2_n (by omega)]; exact hM.2⟩, by rw [up2_r, up1_s]; rfl, by omega, hc, by rw [up2_r, up1_n (by omega)]; exact h22, fun q => by omega⟩
  have f2 : FMx B wm.2.2.1 Im Jm (sm_up2 Im (B + 46) 26 (it 1)) Jm := FMx_6 FM6_u
  obtain ⟨h', Nx, Nm, nfx, nfm, tfx, tfm, ⟨x0, xr⟩, mE, b1, b2, _⟩ := hJ
  refine ⟨c, 1, cnt, vn, fa, G, Ix2, Jx, wm, _, Jm, m_99c (R := (none, wm, sm_up2 Im (B + 46) 26 (it 1), Jm)) (kf := 0) hS.1 hMR (by unfold isT; omega) hk.1 (m_59z hS.1 hMR (by omega)), FSx_z ha z3 z4, FSm_e h82 f2, WG_r, Nat.le_refl _, fun z => by omega, ⟨⟨h', Nx, Nm, nfx, nfm, tfx, tfm, ⟨z2, ?_⟩, ME_6 mE FM6_u hT2, by unfold slR; simp; omega, by unfold slR; simp; omega, fun z => by omega⟩, StO_c (fun b hb => ⟨z3 b (by omega) (by omega), rfl, rfl⟩) hO, SM_f (WG_r (k := 0)) f2 hS, by rw [z4 2 (by omega)]; exact i2, by rw [up2_r, up1_n (by omega)]; exact i30, ⟨cx, c1, by rw [z3 (a + 5) (by omega) (by omega)]; exact c2⟩, ⟨cm, c3, by rw [up2_n (by omega)]; exact c4⟩, hd, fun z => by omega⟩, Or.inr ⟨rfl, z1⟩⟩
  rw [z4 6 (by omega), z4 7 (by omega), z4 8 (by omega), z3 a (by omega) (by omega)]
  exact xr
end BLK

/-! the class's loop over statements; conditions -/
section BLK
variable {K : Nat → Value} {B d e a : Nat} {w wm wm' : aW} {Ix Im I I' I'' Ix' Im' : aI} {Jx Jm J J' J'' Jx' Jm' : aJ} {bs : Nat → Nat} {t n c r s sl b op m m' : Nat} {pd dp : Int} {G G1 : gG} {Q gd Q0 : Prop} {f cnt st : Nat} {vn ln : Nat → Nat} {fa fa0 : Nat → Nat → Nat} {G0 : gG} {P P' : Nat → Prop}
theorem b_step {dx kx i mm : Nat} (hX : TX bs t n) (H : Lay B w) (hXT : XT B bs t n c 0 Ix) (hi : i < 240) (h11 : Ix (B + 2) 11 = it op) (o1 : 1 ≤ op) (o2 : op ≤ 64) (hk : (kX bs t c 0 = 1 ∧ mm = 74) ∨ (kX bs t c 0 = 125 ∧ mm = 57) ∨ (kX bs t c 0 = 257 ∧ mm = 75) ∨ (kX bs t c 0 = 259 ∧ mm = 75) ∨ (kX bs t c 0 = 260 ∧ mm = 76) ∨ (kX bs t c 0 = 261 ∧ mm = 76) ∨ (kX bs t c 0 = 262 ∧ mm = 62) ∨ (kX bs t c 0 = 263 ∧ mm = 62) ∨ (kX bs t c 0 = 264 ∧ mm = 62) ∨ (kX bs t c 0 = 265 ∧ mm = 62)) (hm : Cl K (dx + 5) mm [.ref (B + 2)] w Ix Jx = some (none, w, Ix', Jx')) : f_55_9 K (kx + 1) (dx + 5) (B + 2) (it i) w Ix Jx = f_55_9 K kx (dx + 5) (B + 2) (it ((i + 1 : Nat) : Int)) w Ix' Jx' := by
  have tail : f_55_167 K kx (dx + 5) (f_55_9 K kx (dx + 5)) (B + 2) (it i) w Ix' Jx' = f_55_9 K kx (dx + 5) (B + 2) (it ((i + 1 : Nat) : Int)) w Ix' Jx' := by
    unfold f_55_167
    simp only [it_lit, lt_p, it_add]
    rw [show (i : Int) + 1 = ((i + 1 : Nat) : Int) by omega]
  rw [f_55_9]
  simp only [it_lit, lt_p, gO_e (yt2 H), gV_e (yp2_0 H), gO_e (yt3 H)]
  rw [if_neg (fun q => by have := (it_le (by omega) (by omega) (by omega) (by omega)).mp q; omega), h11, if_neg (fun q => by have := (it_le (by omega) (by omega) (by omega) (by omega)).mp q; omega), s_37 (d := dx + 4) H hXT hX.2.1]
  simp only [cI_e, gO_e (yt2 H)]
  rcases hk with ⟨e1, e2⟩ | ⟨e1, e2⟩ | ⟨e1, e2⟩ | ⟨e1, e2⟩ | ⟨e1, e2⟩ | ⟨e1, e2⟩ | ⟨e1, e2⟩ | ⟨e1, e2⟩ | ⟨e1, e2⟩ | ⟨e1, e2⟩
  · subst e2
    rw [e1]
    rw [if_pos (by decide), hm]
    exact tail
  · subst e2
    rw [e1]
    rw [if_neg (by decide), if_pos (by decide), hm]
    exact tail
  · subst e2
    rw [e1]
    rw [if_neg (by decide), if_neg (by decide), if_pos (by decide), hm]
    exact tail
  · subst e2
    rw [e1]
    rw [if_neg (by decide), if_neg (by decide), if_neg (by decide), if_pos (by decide), hm]
    exact tail
  · subst e2
    rw [e1]
    rw [if_neg (by decide), if_neg (by decide), if_neg (by decide), if_neg (by decide), if_pos (by decide), hm]
    exact tail
  · subst e2
    rw [e1]
    rw [if_neg (by decide), if_neg (by decide), if_neg (by decide), if_neg (by decide), if_neg (by decide), if_pos (by decide), hm]
    exact tail
  · subst e2
    rw [e1]
    rw [if_neg (by decide), if_neg (by decide), if_neg (by decide), if_neg (by decide), if_neg (by decide), if_neg (by decide), if_pos (by decide), hm]
    exact tail
  · subst e2
    rw [e1]
    rw [if_neg (by decide), if_neg (by decide), if_neg (by decide), if_neg (by decide), if_neg (by decide), if_neg (by decide), if_neg (by decide), if_pos (by decide), hm]
    exact tail
  · subst e2
    rw [e1]
    rw [if_neg (by decide), if_neg (by decide), if_neg (by decide), if_neg (by decide), if_neg (by decide), if_neg (by decide), if_neg (by decide), if_neg (by decide), if_pos (by decide), hm]
    exact tail
  · subst e2
    rw [e1]
    rw [if_neg (by decide), if_neg (by decide), if_neg (by decide), if_neg (by decide), if_neg (by decide), if_neg (by decide), if_neg (by decide), if_neg (by decide), if_neg (by decide), if_pos (by decide), hm]
    exact tail
theorem b_end {dx kx i : Nat} (hX : TX bs t n) (H : Lay B w) (hXT : XT B bs t n c r Ix) (hi : i < 239) (h1 : r = 1 ∨ (Ix (B + 2) 11 = it op ∧ 1 ≤ op ∧ op ≤ 64)) (hk : ¬ kX bs t c r = 1 ∧ ¬ kX bs t c r = 125 ∧ ¬ kX bs t c r = 257 ∧ ¬ kX bs t c r = 259 ∧ ¬ kX bs t c r = 260 ∧ ¬ kX bs t c r = 261 ∧ ¬ kX bs t c r = 262 ∧ ¬ kX bs t c r = 263 ∧ ¬ kX bs t c r = 264 ∧ ¬ kX bs t c r = 265) : ∃ Ix', f_55_9 K (kx + 2) (dx + 5) (B + 2) (it i) w Ix Jx = some (none, w, Ix', Jx) ∧ XT B bs t n c 1 Ix' ∧ (∀ b, ¬ b = B + 2 → ¬ b = B + 3 → Ix' b = Ix b) ∧ ∀ k, ¬ k = 11 → Ix' (B + 2) k = Ix (B + 2) k := by
  have hkb := kX_b (bs := bs) (t := t) (c := c) (r := r)
  by_cases e0 : Ix (B + 2) 11 ≤ it 0
  · have r1 : r = 1 := by
      rcases h1 with z | ⟨z1, z2, z3⟩
      · exact z
      · rw [z1] at e0
        have := (it_le (by omega) (by omega) (by omega) (by omega)).mp e0
        omega
    subst r1
    refine ⟨Ix, ?_, hXT, fun _ _ _ => rfl, fun _ _ => rfl⟩
    rw [f_55_9]
    simp only [it_lit, lt_p, gO_e (yt2 H)]
    rw [if_neg (fun q => by have := (it_le (by omega) (by omega) (by omega) (by omega)).mp q; omega), if_pos e0]
  · obtain ⟨I1, x1, x2, x3⟩ := s_43 (K := K) (d := dx + 4) (J := Jx) H hXT
    refine ⟨sm_up2 I1 (B + 2) 11 (it 0), ?_, XT_f (up2_n (by omega)) (up2_n (by omega)) (up2_n (by omega)) (up2_n (by omega)) x2, fun b h2 h3 => by rw [up2_n h2]; exact x3 b h3, fun k hk => by rw [up2_r, up1_n hk, x3 (B + 2) (by omega)]⟩
    rw [f_55_9]
    simp only [it_lit, lt_p, gO_e (yt2 H), gV_e (yp2_0 H), gO_e (yt3 H)]
    rw [if_neg (fun q => by have := (it_le (by omega) (by omega) (by omega) (by omega)).mp q; omega), if_neg e0, s_37 (d := dx + 4) H hXT hX.2.1]
    simp only [cI_e, gO_e (yt2 H), gV_e (yp2_0 H), gO_e (yt3 H)]
    obtain ⟨k1, k125, k257, k259, k260, k261, k262, k263, k264, k265⟩ := hk
    rw [if_neg (show ¬ it (kX bs t c r : Nat) = it 1 from (fun q => by have := (it_eq (by omega) (by omega) (by omega) (by omega)).mp q; omega)), if_neg (show ¬ it (kX bs t c r : Nat) = it 125 from (fun q => by have := (it_eq (by omega) (by omega) (by omega) (by omega)).mp q; omega)), if_neg (show ¬ it (kX bs t c r : Nat) = it 257 from (fun q => by have := (it_eq (by omega) (by omega) (by omega) (by omega)).mp q; omega)), if_neg (show ¬ it (kX bs t c r : Nat) = it 259 from (fun q => by have := (it_eq (by omega) (by omega) (by omega) (by omega)).mp q; omega)), if_neg (show ¬ it (kX bs t c r : Nat) = it 260 from (fun q => by have := (it_eq (by omega) (by omega) (by omega) (by omega)).mp q; omega)), if_neg (show ¬ it (kX bs t c r : Nat) = it 261 from (fun q => by have := (it_eq (by omega) (by omega) (by omega) (by omega)).mp q; omega)), if_neg (show ¬ it (kX bs t c r : Nat) = it 262 from (fun q => by have := (it_eq (by omega) (by omega) (by omega) (by omega)).mp q; omega)), if_neg (show ¬ it (kX bs t c r : Nat) = it 263 from (fun q => by have := (it_eq (by omega) (by omega) (by omega) (by omega)).mp q; omega)), if_neg (show ¬ it (kX bs t c r : Nat) = it 264 from (fun q => by have := (it_eq (by omega) (by omega) (by omega) (by omega)).mp q; omega)), if_neg (show ¬ it (kX bs t c r : Nat) = it 265 from (fun q => by have := (it_eq (by omega) (by omega) (by omega) (by omega)).mp q; omega)), x1]
    simp only [cV_e, gO_e (yt2 H)]
    unfold f_55_167
    simp only [it_lit, lt_p, it_add]
    rw [f_55_9]
    simp only [it_lit, lt_p, gO_e (yt2 H)]
    rw [if_neg (fun q => by have := (it_le (by omega) (by omega) (by omega) (by omega)).mp q; omega), up2_r, up1_s, if_pos (by decide)]
theorem x_75 {dx k : Nat} {q : Prop} [Decidable q] {v bg br : Int32} {Ix1 Ix2 Ix3 Ix4 Ix5 : aI} {Jx2 Jx4 : aJ} (hX : TX bs t n) (H : Lay B w) (hp : w.2.1 (B + 2) 1 = some a) (hP : PL w a) (hXT : XT B bs t n c 0 Ix) (hk : (kX bs t c 0 = 257 ∧ k = 1) ∨ (kX bs t c 0 = 259 ∧ k = 3)) (hbg : Ix a 6 = bg) (h42 : Cl K (dx + 4) 42 [.ref (B + 3)] w Ix Jx = some (none, w, Ix1, Jx)) (h63 : Cl K (dx + 4) 63 [.ref (B + 2), .int (it 0), .int (it 0)] w Ix1 Jx = some (none, w, Ix2, Jx2)) (h67 : Cl K (dx + 4) 67 [.ref (B + 2), .int (it 1)] w Ix2 Jx2 = some (some (.int v), w, Ix2, Jx2)) (hq : q ↔ v = it 1) (h68 : Cl K (dx + 4) 68 [.ref (B + 2), .int (it (if q then 1 else 0)), .int (it (tst bs t c : Nat))] w Ix2 Jx2 = some (none, w, Ix3, Jx2)) (hbr : Ix3 a 6 = br) (h58 : Cl K (dx + 4) 58 [.ref (B + 2), .int (it 23), .int (it 0), .int (it 1), .int (it (-1))] w Ix3 Jx2 = some (none, w, Ix4, Jx4)) (h56 : Cl K (dx + 4) 56 [.ref (B + 2), .int (it k), .int br, .int bg] w Ix4 Jx4 = some (none, w, Ix5, Jx4)) : Cl K (dx + 5) 75 [.ref (B + 2)] w Ix Jx = some (none, w, Ix5, Jx4) := by
  have hkb := kX_b (bs := bs) (t := t) (c := c) (r := 0)
  have t63 : ∀ y : Int32, y = it (if q then 1 else 0) → f_75_63 K 0 (dx + 4) (B + 2) (it (tst bs t c : Nat)) (it k) bg (B + 2) y w Ix2 Jx2 = some (none, w, Ix5, Jx4) := by
    intro y hy
    subst hy
    unfold f_75_63
    simp only [it_lit, it_neg, gO_e (yt2 H), gV_e hp, gO_e hP.1, lt_p]
    rw [h68]
    simp only [cV_e, gO_e (yt2 H), gV_e hp, gO_e hP.1]
    rw [hbr, h58]
    simp only [cV_e, gO_e (yt2 H)]
    rw [h56]
    rfl
  have t26 : f_75_26 K 0 (dx + 4) (B + 2) (it (tst bs t c : Nat)) (it k) w Ix Jx = some (none, w, Ix5, Jx4) := by
    unfold f_75_26
    simp only [it_lit, gO_e (yt2 H), gV_e hp, gO_e hP.1, gV_e (yp2_0 H), gO_e (yt3 H), lt_p]
    rw [hbg, h42]
    simp only [cV_e, gO_e (yt2 H)]
    rw [h63]
    simp only [cV_e, gO_e (yt2 H)]
    rw [h67]
    simp only [cI_e]
    by_cases z : v = it 1
    · rw [if_neg (fun y => y z)]
      exact t63 _ (by rw [if_pos (hq.mpr z)])
    · rw [if_pos z]
      exact t63 _ (by rw [if_neg (fun y => z (hq.mp y))])
  apply cl_75 (k := 0)
  unfold f_75
  simp only [it_lit, gO_e (yt2 H), gV_e (yp2_0 H), gO_e (yt3 H)]
  rw [s_44 (d := dx + 3) H hXT hX.2.1]
  simp only [cI_e, gO_e (yt2 H), gV_e (yp2_0 H), gO_e (yt3 H)]
  rw [s_37 (d := dx + 3) H hXT hX.2.1]
  simp only [cI_e]
  rcases hk with ⟨k1, k2⟩ | ⟨k1, k2⟩
  · subst k2
    rw [if_pos (fun q => by have := (it_eq (by omega) (by omega) (by omega) (by omega)).mp q; omega)]
    exact t26
  · subst k2
    rw [if_neg (fun y => y (by rw [k1]; rfl))]
    exact t26
theorem m_98 {dy : Nat} {Im1 : aI} {R : aR} (H : Lay B wm) (h93 : Cl K dy 93 [.ref (B + 46), .int (it 123)] wm Im Jm = some (none, wm, Im1, Jm)) (h : f_98_6 K 1000 dy (B + 46) wm Im1 Jm = some R) : Cl K (dy + 1) 98 [.ref (B + 46)] wm Im Jm = some R := by
  apply cl_98 (k := 1000)
  unfold f_98
  simp only [it_lit, gO_e (yt46 H)]
  rw [h93]
  exact h
/-- the reference's if and while up to the block -/
theorem m_59c {dy k : Nat} {q : Prop} [Decidable q] {ty ov : Int32} {wm2 : aW} {Im1 Im2 Im3 Im4 : aI} {Jm2 : aJ} {R : aR} (H : Lay B wm) (H2 : Lay B wm2) (hT : MR B bs t n c 0 Im) (h84 : Cl K (dy + 8) 84 [.ref (B + 46)] wm Im Jm = some (none, wm, Im1, Jm)) (h101 : Cl K (dy + 8) 101 [.ref (B + 46)] wm Im1 Jm = some (some (.int ty), wm2, Im2, Jm2)) (hq : q ↔ ty = it 1) (h110 : Cl K (dy + 8) 110 [.ref (B + 46), .int (it (if q then 1 else 0)), .int (it (tst bs t c : Nat))] wm2 Im2 Jm2 = some (none, wm2, Im3, Jm2)) (hov : Im3 (B + 46) 13 = ov) (h111 : Cl K (dy + 8) 111 [.ref (B + 46), .int (it 23), .int (it 0)] wm2 Im3 Jm2 = some (none, wm2, Im4, Jm2))
    (h : (kX bs t c 0 = 257 ∧ cV (Cl K (dy + 8) 98 [.ref (B + 46)] wm2 Im4 Jm2) (fun w_8 I_9 J_10 => gO w_8 6 (B + 46) (cI (Cl K (dy + 8) 89 [.ref (B + 46), .int (it 6)] w_8 I_9 J_10) fun x_14 w_11 I_12 J_13 => if x_14 = it 0 then gO w_11 6 (B + 46) (cV (Cl K (dy + 8) 117 [.ref (B + 46), .int ov] w_11 I_12 J_13) fun w_15 I_16 J_17 => some (none, w_15, I_16, J_17)) else gO w_11 6 (B + 46) (gO w_11 6 (B + 46) (cV (Cl K (dy + 8) 111 [.ref (B + 46), .int (it 24), .int (it 0)] w_11 I_12 J_13) fun w_19 I_20 J_21 => gO w_19 6 (B + 46) (cV (Cl K (dy + 8) 117 [.ref (B + 46), .int ov] w_19 I_20 J_21) fun w_22 I_23 J_24 => gO w_22 6 (B + 46) (cV (Cl K (dy + 8) 84 [.ref (B + 46)] w_22 I_23 J_24) fun w_25 I_26 J_27 => gO w_25 6 (B + 46) (cV (Cl K (dy + 8) 98 [.ref (B + 46)] w_25 I_26 J_27) fun w_28 I_29 J_30 => gO w_28 6 (B + 46) (cV (Cl K (dy + 8) 117 [.ref (B + 46), .int (I_12 (B + 46) 13)] w_28 I_29 J_30) fun w_31 I_32 J_33 => some (none, w_31, I_32, J_33))))))))) = some R) ∨ (kX bs t c 0 = 259 ∧ cV (Cl K (dy + 8) 98 [.ref (B + 46)] wm2 Im4 Jm2) (fun w_8 I_9 J_10 => gO w_8 6 (B + 46) (cV (Cl K (dy + 8) 111 [.ref (B + 46), .int (it 24), .int (Im1 (B + 46) 13)] w_8 I_9 J_10) fun w_11 I_12 J_13 => gO w_11 6 (B + 46) (cV (Cl K (dy + 8) 117 [.ref (B + 46), .int ov] w_11 I_12 J_13) fun w_14 I_15 J_16 => some (none, w_14, I_15, J_16)))) = some R)) : f_99_59 K k (dy + 8) (B + 46) (it (tst bs t c : Nat)) wm Im Jm = some R := by
  have e5 := s_89 (K := K) (d := dy + 7) (J := Jm) H hT (show it 5 = it ((5 : Nat) : Int) from rfl) (by omega)
  have e7 := s_89 (K := K) (d := dy + 7) (J := Jm) H hT (show it 7 = it ((7 : Nat) : Int) from rfl) (by omega)
  rw [show cvt 5 = 257 from rfl] at e5
  rw [show cvt 7 = 259 from rfl] at e7
  unfold f_99_59
  simp only [it_lit, gO_e (yt46 H), lt_p]
  rw [e5]
  simp only [cI_e, gO_e (yt46 H)]
  rcases h with ⟨k1, h⟩ | ⟨k1, h⟩
  · have t85 : ∀ y : Int32, y = it (if q then 1 else 0) → f_99_85 K k (dy + 8) (B + 46) (it (tst bs t c : Nat)) (B + 46) y wm2 Im2 Jm2 = some R := by
      intro y hy
      subst hy
      unfold f_99_85
      simp only [it_lit, gO_e (yt46 H2), lt_p]
      rw [h110]
      simp only [cV_e, gO_e (yt46 H2)]
      rw [hov, h111]
      simp only [cV_e, gO_e (yt46 H2)]
      exact h
    rw [if_pos k1, if_neg (by decide), h84]
    simp only [cV_e, gO_e (yt46 H)]
    rw [h101]
    simp only [cI_e]
    by_cases z : ty = it 1
    · rw [if_neg (fun y => y z)]
      exact t85 _ (by rw [if_pos (hq.mpr z)])
    · rw [if_pos z]
      exact t85 _ (by rw [if_neg (fun y => z (hq.mp y))])
  · have t187 : ∀ y : Int32, y = it (if q then 1 else 0) → f_99_187 K k (dy + 8) (B + 46) (it (tst bs t c : Nat)) (Im1 (B + 46) 13) (B + 46) y wm2 Im2 Jm2 = some R := by
      intro y hy
      subst hy
      unfold f_99_187
      simp only [it_lit, gO_e (yt46 H2), lt_p]
      rw [h110]
      simp only [cV_e, gO_e (yt46 H2)]
      rw [hov, h111]
      simp only [cV_e, gO_e (yt46 H2)]
      exact h
    rw [if_neg (show ¬ kX bs t c 0 = 257 by omega), if_pos rfl, e7]
    simp only [cI_e, gO_e (yt46 H)]
    rw [if_pos k1, if_neg (by decide), h84]
    simp only [cV_e, gO_e (yt46 H)]
    rw [h101]
    simp only [cI_e]
    by_cases z : ty = it 1
    · rw [if_neg (fun y => y z)]
      exact t187 _ (by rw [if_pos (hq.mpr z)])
    · rw [if_pos z]
      exact t187 _ (by rw [if_neg (fun y => z (hq.mp y))])
/-- nothing that begins a statement -/
theorem m_59z {dy k : Nat} (H : Lay B wm) (hT : MR B bs t n c 0 Im) (hk : ¬ kX bs t c 0 = 257 ∧ ¬ kX bs t c 0 = 259 ∧ ¬ kX bs t c 0 = 260 ∧ ¬ kX bs t c 0 = 261) : f_99_59 K k (dy + 8) (B + 46) (it (tst bs t c : Nat)) wm Im Jm = some (none, wm, sm_up2 Im (B + 46) 26 (it 1), Jm) := by
  have e5 := s_89 (K := K) (d := dy + 7) (J := Jm) H hT (show it 5 = it ((5 : Nat) : Int) from rfl) (by omega)
  have e7 := s_89 (K := K) (d := dy + 7) (J := Jm) H hT (show it 7 = it ((7 : Nat) : Int) from rfl) (by omega)
  have e8 := s_89 (K := K) (d := dy + 7) (J := Jm) H hT (show it 8 = it ((8 : Nat) : Int) from rfl) (by omega)
  have e9 := s_89 (K := K) (d := dy + 7) (J := Jm) H hT (show it 9 = it ((9 : Nat) : Int) from rfl) (by omega)
  rw [show cvt 5 = 257 from rfl, if_neg hk.1] at e5
  rw [show cvt 7 = 259 from rfl, if_neg hk.2.1] at e7
  rw [show cvt 8 = 260 from rfl, if_neg hk.2.2.1] at e8
  rw [show cvt 9 = 261 from rfl, if_neg hk.2.2.2] at e9
  unfold f_99_59
  simp only [it_lit, gO_e (yt46 H), lt_p]
  rw [e5]
  simp only [cI_e, gO_e (yt46 H)]
  rw [if_pos trivial, e7]
  simp only [cI_e, gO_e (yt46 H)]
  rw [if_pos trivial, e8]
  simp only [cI_e, gO_e (yt46 H)]
  rw [if_neg (fun q => q trivial), e9]
  simp only [cI_e, gO_e (yt46 H)]
  rw [if_pos trivial]
/-- a block is closed: the class up to what its kind asks for -/
theorem x_57 {dx : Nat} {kd br bg : Int32} {Ix1 : aI} {R : aR} (H : Lay B w) (h42 : Cl K (dx + 4) 42 [.ref (B + 3)] w Ix Jx = some (none, w, Ix1, Jx)) (h11 : Ix1 (B + 2) 11 = it ((op + 1 : Nat) : Int)) (ho : op < 64) (h19 : Ix1 (B + 19) op = kd) (h20 : Ix1 (B + 20) op = br) (h21 : Ix1 (B + 21) op = bg) (h : (kd = it 0 ∧ R = (none, w, sm_up2 Ix1 (B + 2) 11 (it op), Jx)) ∨ (kd = it 3 ∧ ∃ Ix2 Jx2, Cl K (dx + 4) 58 [.ref (B + 2), .int (it 24), .int bg, .int (it 0), .int (it (-1))] w (sm_up2 Ix1 (B + 2) 11 (it op)) Jx = some (none, w, Ix2, Jx2) ∧ f_57_82 K 0 (dx + 4) (B + 2) kd br w Ix2 Jx2 = some R) ∨ (¬ kd = it 0 ∧ ¬ kd = it 3 ∧ f_57_82 K 0 (dx + 4) (B + 2) kd br w (sm_up2 Ix1 (B + 2) 11 (it op)) Jx = some R)) : Cl K (dx + 5) 57 [.ref (B + 2)] w Ix Jx = some R := by
  have e11 : sm_up2 Ix1 (B + 2) 11 (it op) (B + 2) 11 = it op := by rw [up2_r, up1_s]
  apply cl_57 (k := 0)
  unfold f_57
  simp only [it_lit, it_neg, gO_e (yt2 H), gV_e (yp2_0 H), gO_e (yt3 H), gV_e (yp2_12 H), gV_e (yp2_13 H), gV_e (yp2_14 H), lt_p]
  rw [h42]
  simp only [cV_e, gO_e (yt2 H), gV_e (yp2_12 H), gV_e (yp2_13 H), gV_e (yp2_14 H)]
  rw [h11, if_neg (fun q => by have := (it_lt (by omega) (by omega) (by omega) (by omega)).mp q; omega), if_pos ((it_le (by omega) (by omega) (by omega) (by omega)).mpr (by omega)), it_sub, show (((op + 1 : Nat) : Int) - 1) = (op : Int) by omega, e11, gA_e (yt19 H) (Or.inl rfl) (ix (by omega) (by omega) (by omega)), it_n (by omega), gA_e (yt20 H) (Or.inl rfl) (ix (by omega) (by omega) (by omega)), up2_n (a := B + 2) (b := B + 19) (by omega), up2_n (a := B + 2) (b := B + 20) (by omega), h19, h20]
  rcases h with ⟨h1, h2⟩ | ⟨h1, Ix2, Jx2, h2, h3⟩ | ⟨h1, h2, h3⟩
  · rw [if_neg (fun q => q h1), h2]
  · rw [if_pos (by rw [h1]; decide), if_neg (fun q => q h1), gA_e (yt21 H) (Or.inl rfl) (ix (by omega) (by omega) (by omega)), up2_n (a := B + 2) (b := B + 21) (by omega), h21, h2]
    simp only [cV_e]
    exact h3
  · rw [if_pos h1, if_pos h2]
    exact h3
theorem x_82 {dx : Nat} {kd : Int32} {qx : Nat} {Ix5 : aI} (H : Lay B w) (hp : w.2.1 (B + 2) 1 = some a) (hP : PL w a) (hXT : XT B bs t n c r Ix) (hX : TX bs t n) (hk : ¬ kd = it 1 ∨ ¬ kX bs t c r = 258) (h60 : Cl K (dx + 4) 60 [.ref a, .int (it qx)] w Ix Jx = some (none, w, Ix5, Jx)) : f_57_82 K 0 (dx + 4) (B + 2) kd (it qx) w Ix Jx = some (none, w, Ix5, Jx) := by
  have hkb := kX_b (bs := bs) (t := t) (c := c) (r := r)
  have t131 : f_57_131 K 0 (dx + 4) (B + 2) kd (it qx) w Ix Jx = some (none, w, Ix5, Jx) := by
    unfold f_57_131
    simp only [gO_e (yt2 H), gV_e hp, gO_e hP.1]
    rw [h60]
    rfl
  unfold f_57_82
  simp only [it_lit, gO_e (yt2 H), gV_e (yp2_0 H), gO_e (yt3 H)]
  by_cases z : kd = it 1
  · rw [if_neg (fun y => y z), s_37 (d := dx + 3) H hXT hX.2.1]
    simp only [cI_e]
    have hk2 := hk.resolve_left (fun y => y z)
    rw [if_pos (fun q => by have := (it_eq (by omega) (by omega) (by omega) (by omega)).mp q; omega)]
    exact t131
  · rw [if_pos z]
    exact t131
theorem x_82e {dx : Nat} {qx : Nat} {px : Int32} {Ix1 Ix2 Ix4 Ix5 : aI} {Jx2 : aJ} (H : Lay B w) (hp : w.2.1 (B + 2) 1 = some a) (hP : PL w a) (hXT : XT B bs t n c 0 Ix) (hX : TX bs t n) (hk : kX bs t c 0 = 258) (h42 : Cl K (dx + 4) 42 [.ref (B + 3)] w Ix Jx = some (none, w, Ix1, Jx)) (hpx : Ix1 a 6 = px) (h58 : Cl K (dx + 4) 58 [.ref (B + 2), .int (it 24), .int (it 0), .int (it 0), .int (it (-1))] w Ix1 Jx = some (none, w, Ix2, Jx2)) (h56 : Cl K (dx + 4) 56 [.ref (B + 2), .int (it 2), .int px, .int (it 0)] w Ix2 Jx2 = some (none, w, Ix4, Jx2)) (h60 : Cl K (dx + 4) 60 [.ref a, .int (it qx)] w Ix4 Jx2 = some (none, w, Ix5, Jx2)) : f_57_82 K 0 (dx + 4) (B + 2) (it 1) (it qx) w Ix Jx = some (none, w, Ix5, Jx2) := by
  unfold f_57_82
  simp only [it_lit, it_neg, gO_e (yt2 H), gV_e (yp2_0 H), gO_e (yt3 H), gV_e hp, gO_e hP.1, lt_p]
  rw [if_neg (fun y => y trivial), s_37 (d := dx + 3) H hXT hX.2.1]
  simp only [cI_e, gO_e (yt2 H), gV_e (yp2_0 H), gO_e (yt3 H)]
  rw [if_neg (fun y => y (by rw [hk]; rfl)), h42]
  simp only [cV_e, gO_e (yt2 H), gV_e hp, gO_e hP.1]
  rw [hpx, h58]
  simp only [cV_e, gO_e (yt2 H)]
  rw [h56]
  simp only [cV_e]
  unfold f_57_131
  simp only [gO_e (yt2 H), gV_e hp, gO_e hP.1]
  rw [h60]
  rfl
end BLK

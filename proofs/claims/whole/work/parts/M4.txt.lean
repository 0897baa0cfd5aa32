/-! what a text leaves: the class -/
section TEX
variable {K : Nat → Value} {B d e a ao : Nat} {w wm : aW} {Ix Im I I' X Z : aI} {Jx Jm J J' JX : aJ} {bs : Nat → Nat} {t n c r h N Nm f g k m : Nat} {nf tf : Int}
def fk (r N : Nat) (nf tf : Int) : Nat := if r = 0 then (if nf < 0 then (if tf < 0 then (if N ≤ 200 then 0 else 4) else 3) else 2) else 1
def fpl (r N : Nat) (nf tf : Int) (pl t : Nat) : Int := if r = 0 then (if nf < 0 then (if tf < 0 then (if N ≤ 200 then -1 else (t : Int)) else tf) else nf) else (pl : Int)
theorem s_80 (ha : a = B + 8 ∨ a = B + 22) (H : Lay B w) (hp : w.2.1 (B + 2) 1 = some a) (xE : XE B a bs t n c r h N nf tf X) : Cl K (d + 1) 80 [.ref (B + 2)] w X J = some (some (.int (it (fk r N nf tf : Nat))), w, X, J) := by
  have hP := PLx H ha
  obtain ⟨x0, x1, x2, x3, x4, x5, x6, x7, x8, x9, x10⟩ := xE
  have hr := x0.2.2.2.2
  apply cl_80 (k := 0)
  unfold f_80 fk
  simp only [it_lit, gO_e (yt2 H), gV_e (yp2_0 H), gO_e (yt3 H), gV_e hp, gO_e hP.1]
  rw [x0.2.2.1, x1, x4, x9]
  by_cases r0 : r = 0
  · rw [if_pos (by rw [r0]; rfl), if_pos r0]
    by_cases q1 : nf < 0
    · rw [if_pos ((it_lt (by omega) (by omega) (by omega) (by omega)).mpr (by omega)), if_pos q1]
      by_cases q2 : tf < 0
      · rw [if_pos ((it_lt (by omega) (by omega) (by omega) (by omega)).mpr (by omega)), if_pos q2]
        by_cases q3 : N ≤ 200
        · rw [if_pos ((it_le (by omega) (by omega) (by omega) (by omega)).mpr (by omega)), if_pos q3]; rfl
        · rw [if_neg (fun q => by have := (it_le (by omega) (by omega) (by omega) (by omega)).mp q; omega), if_neg q3]; rfl
      · rw [if_neg (fun q => by have := (it_lt (by omega) (by omega) (by omega) (by omega)).mp q; omega), if_neg q2]; rfl
    · rw [if_neg (fun q => by have := (it_lt (by omega) (by omega) (by omega) (by omega)).mp q; omega), if_neg q1]; rfl
  · rw [if_neg (fun q => by have := (it_eq (by omega) (by omega) (by omega) (by omega)).mp q; omega), if_neg r0]; rfl
theorem s_81 (ha : a = B + 8 ∨ a = B + 22) (H : Lay B w) (hp : w.2.1 (B + 2) 1 = some a) (hX : TX bs t n) (xE : XE B a bs t n c r h N nf tf X) : Cl K (d + 2) 81 [.ref (B + 2), .int (it t)] w X J = some (some (.int (it (fpl r N nf tf (tst bs t c) t))), w, X, J) := by
  apply cl_81 (k := 0)
  unfold f_81
  simp only [it_lit, it_neg, gO_e (yt2 H)]
  rw [s_80 ha H hp xE]
  obtain ⟨x0, x1, x2, x3, x4, x5, x6, x7, x8, x9, x10⟩ := xE
  simp only [cI_e, gO_e (yt2 H), gV_e (yp2_0 H), gO_e (yt3 H)]
  unfold fk fpl
  by_cases r0 : r = 0
  · rw [if_pos r0, if_pos r0]
    by_cases q1 : nf < 0
    · rw [if_pos q1, if_pos q1]
      by_cases q2 : tf < 0
      · rw [if_pos q2, if_pos q2]
        by_cases q3 : N ≤ 200
        · rw [if_pos q3, if_pos q3]; (repeat (first | rw [if_pos (by decide)] | rw [if_neg (by decide)]))
        · rw [if_neg q3, if_neg q3]; (repeat (first | rw [if_pos (by decide)] | rw [if_neg (by decide)]))
      · rw [if_neg q2, if_neg q2]; (repeat (first | rw [if_pos (by decide)] | rw [if_neg (by decide)])); rw [x4]
    · rw [if_neg q1, if_neg q1]; (repeat (first | rw [if_pos (by decide)] | rw [if_neg (by decide)])); rw [x1]
  · rw [if_neg r0, if_neg r0]; (repeat (first | rw [if_pos (by decide)] | rw [if_neg (by decide)])); rw [s_44 (d := d) H x0 hX.2.1]; rfl
theorem XE_B {k : Nat} {x : Int32} (ha : a = B + 8 ∨ a = B + 22) (xE : XE B a bs t n c r h N nf tf X) : XE B a bs t n c r h N nf tf (sm_up2 X B k x) := by
  obtain ⟨x0, x1, x2, x3, x4, x5, x6, x7, x8, x9, x10⟩ := xE
  exact ⟨XT_f (up2_n (by omega)) (up2_n (by omega)) (up2_n (by omega)) (up2_n (by omega)) x0, by rw [up2_n (by omega)]; exact x1, x2, x3, by rw [up2_n (by omega)]; exact x4, x5, x6, by rw [up2_n (by omega)]; exact x7, x8, by rw [up2_n (by omega)]; exact x9, x10⟩
def xI (B kd : Nat) (pl : Int) (X : aI) : aI := sm_up2 (sm_up2 (sm_up2 X B 8 (it kd)) B 9 (it pl)) B 1 (it 0)
def xW (B a ao : Nat) (w : aW) : aW := (w.1, sm_up2 (sm_up2 w.2.1 (B + 2) 1 (some ao)) B 3 (some a), w.2.2)
theorem x_21 (ha : a = B + 8 ∨ a = B + 22) (H : Lay B w) (p1 : w.2.1 B 3 = some ao) (hp : w.2.1 (B + 2) 1 = some a) (hX : TX bs t n) (h1 : I B 1 = it t) (hX1 : X B 1 = it t) (xE : XE B a bs t n c r h N nf tf X) (h22 : Cl K (d + 3) 22 [.ref (B + 2), .ref (B + 1), .int (it t)] w I J = some (none, w, X, JX)) :
    (¬ fk r N nf tf = 0 → Cl K (d + 4) 21 [.ref B] w I J = some (some (.long (-1)), w, xI B (fk r N nf tf) (fpl r N nf tf (tst bs t c) t) X, JX)) ∧ (fk r N nf tf = 0 → Cl K (d + 4) 21 [.ref B] w I J = some (some (.long (it (N : Int)).toInt64), xW B a ao w, sm_up2 (xI B 0 (-1) X) B 5 (it 0), JX)) := by
  have hP := PLx H ha
  have hfk : fk r N nf tf ≤ 4 := by unfold fk; repeat' split
                                    all_goals omega
  have e80 := s_80 (K := K) (d := d + 2) (J := JX) ha H hp xE
  have e81 := s_81 (K := K) (d := d + 1) (J := JX) ha H hp hX (XE_B (k := 8) (x := it (fk r N nf tf : Nat)) ha xE)
  have b1 : (sm_up2 X B 8 (it (fk r N nf tf : Nat))) B 1 = it t := by rw [up2_r, up1_n (by omega)]; exact hX1
  have b8 : xI B (fk r N nf tf) (fpl r N nf tf (tst bs t c) t) X B 8 = it (fk r N nf tf : Nat) := by
    unfold xI; rw [up2_r, up1_n (by omega), up2_r, up1_n (by omega), up2_r, up1_s]
  have pre : f_21 K 0 (d + 3) B w I J = if it (fk r N nf tf : Nat) = it 0 then (gO w 2 (B + 2) (cA (Cl K (d + 3) 82 [.ref (B + 2), .ref ao] w (xI B (fk r N nf tf) (fpl r N nf tf (tst bs t c) t) X) JX) fun q_24 w_21 I_22 J_23 => gO w_21 5 B (lt_ (w_21.1, sm_up2 w_21.2.1 B 3 (some q_24), w_21.2.2) fun w_25 => gO w_25 5 B (lt_ (sm_up2 I_22 B 5 (it 0)) fun I_26 => gO w_25 5 B (gV w_25 B 3 fun q_27 => gO w_25 1 q_27 (some (some (.long ((I_26 q_27 6 : Int32).toInt64)), w_25, I_26, J_23))))))) else some (some (.long (-1)), w, xI B (fk r N nf tf) (fpl r N nf tf (tst bs t c) t) X, JX) := by
    unfold f_21
    simp only [it_lit, lt_p, gO_e (yt H), gV_e (yp_2 H), gV_e (yp_0 H), gO_e (yt2 H)]
    rw [h1, h22]
    simp only [cV_e, gO_e (yt H), gV_e (yp_2 H), gO_e (yt2 H)]
    have e80' : Cl K (d + 3) 80 [.ref (B + 2)] w X JX = _ := e80
    rw [e80']
    simp only [cI_e, gO_e (yt H), gV_e (yp_2 H), gO_e (yt2 H)]
    rw [b1]
    have e81' : Cl K (d + 3) 81 [.ref (B + 2), .int (it t)] w (sm_up2 X B 8 (it (fk r N nf tf : Nat))) JX = _ := e81
    rw [e81']
    simp only [cI_e, gO_e (yt H), gV_e (yp_2 H), gV_e p1, gO_e (yt2 H), lt_p]
    unfold xI at b8
    rw [b8]
    rfl
  constructor
  · intro hk
    apply cl_21 (k := 0)
    rw [pre, if_neg (fun q => by have := (it_eq (by omega) (by omega) (by omega) (by omega)).mp q; omega)]
  · intro hk
    apply cl_21 (k := 0)
    have hpl : fpl r N nf tf (tst bs t c) t = -1 := by
      unfold fk at hk
      unfold fpl
      by_cases r0 : r = 0
      · rw [if_pos r0] at hk ⊢
        by_cases q1 : nf < 0
        · rw [if_pos q1] at hk ⊢
          by_cases q2 : tf < 0
          · rw [if_pos q2] at hk ⊢
            by_cases q3 : N ≤ 200
            · rw [if_pos q3]
            · rw [if_neg q3] at hk; omega
          · rw [if_neg q2] at hk; omega
        · rw [if_neg q1] at hk; omega
      · rw [if_neg r0] at hk; omega
    have e82 : Cl K (d + 3) 82 [.ref (B + 2), .ref ao] w (xI B 0 (-1) X) JX = some (some (.ref a), (w.1, sm_up2 w.2.1 (B + 2) 1 (some ao), w.2.2), xI B 0 (-1) X, JX) := by
      apply cl_82 (k := 0)
      unfold f_82
      simp only [lt_p, gO_e (yt2 H), gV_e hp]
    have y0 : ∀ p : Nat → Nat → Option Nat, ((w.1, p, w.2.2) : aW).1 B = some (5, 0) := fun _ => (show w.1 B = some (5, 0) from yt H)
    have y1 : ∀ p : Nat → Nat → Option Nat, ((w.1, p, w.2.2) : aW).1 a = some (1, 0) := fun _ => (show w.1 a = some (1, 0) from hP.1)
    have y3 : (xW B a ao w).2.1 B 3 = some a := by
      show sm_up2 (sm_up2 w.2.1 (B + 2) 1 (some ao)) B 3 (some a) B 3 = some a
      rw [up2_r, up1_s]
    have y6 : (sm_up2 (xI B 0 (-1) X) B 5 (it 0)) a 6 = it N := by
      unfold xI
      rw [up2_n (by omega), up2_n (by omega), up2_n (by omega), up2_n (by omega)]
      exact xE.2.2.2.2.2.2.2.2.2.1
    rw [pre, hk, hpl, if_pos (show it ((0 : Nat) : Int) = it 0 from rfl), gO_e (yt2 H), e82]
    simp only [cA_e, lt_p]
    rw [gO_e (y0 _), gO_e (y0 _), gO_e (y0 _)]
    unfold xW at y3
    rw [gV_e y3, gO_e (y1 _), y6]
    rfl
end TEX

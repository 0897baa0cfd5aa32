/-! a text begins, both -/
section TBEG
variable {K : Nat → Value} {B d e a : Nat} {w wm wm' : aW} {Ix Im Im0 I I' I'' Ix' Im' : aI} {Jx Jm J J' J'' Jx' Jm' : aJ} {bs : Nat → Nat} {t n c r s sl sl' b op op' m m' : Nat} {pd dp dp0 : Int} {G G1 G' : gG} {Q Q' gd Y : Prop} {f lp pc pm : Nat} {ln : Nat → Nat} {fa fa' : Nat → Nat → Nat}
theorem s_35 (hP : PL w a) : ∃ I', Cl K (d + 2) 35 [.ref a] w I J = some (none, w, I', J) ∧ I' a 6 = it 0 ∧ I' a 7 = it 0 ∧ (∀ k, k < 20 → I' (a + 5) k = it 0) ∧ ∀ b, ¬ b = a → ¬ b = a + 5 → I' b = I b := by
  have e : Cl K (d + 2) 35 [.ref a] w I J = some (none, w, sm_up1 (sm_up2 (sm_up2 I a 6 (it 0)) a 7 (it 0)) (a + 5) (fun k => if k < 20 then it 0 else sm_up2 (sm_up2 I a 6 (it 0)) a 7 (it 0) (a + 5) k), J) := by
    apply cl_35 (k := 0)
    unfold f_35
    simp only [it_lit, lt_p, gO_e hP.1, gV_e hP.2.2.2.2.2.2.2.2.2.2.2.1]
    rw [s_36 (d := d) hP.2.2.2.2.2.1 (by omega)]
    rfl
  refine ⟨_, e, ?_, ?_, fun k hk => ?_, fun b b1 b2 => ?_⟩
  · rw [up1_n (by omega), up2_r, up1_n (by omega), up2_r, up1_s]
  · rw [up1_n (by omega), up2_r, up1_s]
  · rw [up1_s, if_pos hk]
  · rw [up1_n b2, up2_n b1, up2_n b1]
/-- the class ahead of the first fun -/
theorem x_22 {l1 : Nat} (ha : a = B + 8 ∨ a = B + 22) (H : Lay B w) (hp : w.2.1 (B + 2) 1 = some a) (ht : t ≤ 240) (hC : rCo B I) (hO : StO K B w I) (hI : ∀ i, i < t → bs i < 256 ∧ I (B + 1) i = it (bs i)) :
    ∃ (n : Nat) (Ix : aI), TX bs t n ∧ (∀ k, f_22 K k (d + 6) (B + 2) (B + 1) (it t) w I J = f_22_36 K k (d + 6) (B + 2) (B + 1) (it t) (it 0) w Ix J) ∧ XT B bs t n 0 0 Ix ∧ Ix (B + 2) 6 = it (-1) ∧ Ix (B + 2) 7 = it (-1) ∧ Ix a 6 = it 0 ∧ Ix a 7 = it 0 ∧ (∀ k, k < 20 → Ix (a + 5) k = it 0) ∧ (∀ l, l < 26 → Ix (B + 15) l = it (-1)) ∧ ∀ b, oX B a b → ¬ b = B + 15 → ¬ b = B + 4 → ¬ b = B + 5 → ¬ b = B + 6 → Ix b = I b := by
  have hP := PLx H ha
  obtain ⟨n, I1, e1, e2, e3, e4, e5, e6, e7, e8⟩ := s_23 (K := K) (d := d + 1) (J := J) H ht hC hO hI
  obtain ⟨I2, g1, g2, g3, g4, g5⟩ := s_35 (K := K) (d := d + 4) (I := I1) (J := J) hP
  obtain ⟨I3, eI3⟩ : ∃ x, x = sm_up2 (sm_up2 I2 (B + 2) 6 (it (-1))) (B + 2) 7 (it (-1)) := ⟨_, rfl⟩
  have o3 : ∀ b, ¬ b = B + 2 → I3 b = I2 b := fun b hb => by rw [eI3, up2_n hb, up2_n hb]
  obtain ⟨I4, eI4⟩ : ∃ x, x = sm_up1 I3 (B + 15) (fun k => if k < 26 then it (-1) else I3 (B + 15) k) := ⟨_, rfl⟩
  have o4 : ∀ b, ¬ b = B + 15 → I4 b = I3 b := fun b hb => by rw [eI4, up1_n hb]
  have k3 : I4 (B + 3) = I1 (B + 3) := by rw [o4 _ (by omega), o3 _ (by omega), g5 _ (by omega) (by omega)]
  have k4 : I4 (B + 4) = I1 (B + 4) := by rw [o4 _ (by omega), o3 _ (by omega), g5 _ (by omega) (by omega)]
  have k5 : I4 (B + 5) = I1 (B + 5) := by rw [o4 _ (by omega), o3 _ (by omega), g5 _ (by omega) (by omega)]
  have k6 : I4 (B + 6) = I1 (B + 6) := by rw [o4 _ (by omega), o3 _ (by omega), g5 _ (by omega) (by omega)]
  have xt : XT B bs t n 0 0 I1 := ⟨e3, e5, e6, by omega, by omega⟩
  refine ⟨n, I4, ⟨ht, e2, e7, e8, fun i hi => (hI i hi).1⟩, fun k => ?_, XT_f k3 k4 k5 k6 xt, ?_, ?_, ?_, ?_, fun k hk => ?_, fun l hl => ?_, fun b hb b1 b2 b3 b4 => ?_⟩
  · unfold f_22
    simp only [it_lit, it_neg, lt_p, gO_e (yt2 H), gV_e (yp2_0 H), gO_e (yt3 H)]
    have e1' : Cl K (d + 6) 23 [.ref (B + 3), .ref (B + 1), .int (it t)] w I J = some (none, w, I1, J) := e1
    rw [e1']
    simp only [cV_e, gO_e (yt2 H), gV_e hp, gO_e hP.1]
    have g1' : Cl K (d + 6) 35 [.ref a] w I1 J = some (none, w, I2, J) := g1
    rw [g1']
    simp only [cV_e, gO_e (yt2 H), gV_e (yp2_4 H)]
    rw [← eI3, s_36 (d := d + 5) (yt15 H) (by omega), ← eI4]
    simp only [cV_e]
  · rw [o4 _ (by omega), eI3, up2_r, up1_n (by omega), up2_r, up1_s]
  · rw [o4 _ (by omega), eI3, up2_r, up1_s]
  · rw [o4 _ (by omega), o3 _ (by omega)]; exact g2
  · rw [o4 _ (by omega), o3 _ (by omega)]; exact g3
  · rw [o4 _ (by omega), o3 _ (by omega)]; exact g4 k hk
  · rw [eI4, up1_s, if_pos hl]
  · unfold oX at hb
    rw [o4 _ b1, o3 _ (by omega), g5 _ (by omega) (by omega), e4 _ (by omega) b2 b3 b4]
/-- the reference ahead of the first fun -/
def m0I (B : Nat) (I : aI) : aI := sm_up2 (sm_up2 (sm_up2 (sm_up2 (sm_up2 (sm_up2 (sm_up2 I (B + 46) 23 (it 0)) (B + 46) 26 (it 0)) (B + 46) 27 (it (-1))) (B + 46) 28 (it (-1))) (B + 46) 29 (it 0)) (B + 46) 5 (it 0)) (B + 46) 13 (it 0)
theorem m_83 {dy : Nat} (hS : SM K B wm Im) (ht : t ≤ 240) (hn : TX bs t n) (hM : MTp B bs t Im) : ∃ Im', (∀ k w' I' J', Cl K (dy + 9) 88 [.ref (B + 46)] wm Im' Jm = some (none, w', I', J') → f_83 K k (dy + 9) (B + 46) wm Im Jm = f_83_43 K k (dy + 9) (B + 46) w' I' J') ∧ MR B bs t n 0 0 Im' ∧ Im' (B + 46) 27 = it (-1) ∧ Im' (B + 46) 28 = it (-1) ∧ Im' (B + 46) 29 = it 0 ∧ Im' (B + 46) 5 = it 0 ∧ Im' (B + 46) 13 = it 0 ∧ (∀ b, ¬ b = B + 46 → Im' b = Im b) ∧ ∀ k, ¬ k = 5 → ¬ k = 13 → k < 22 ∨ 31 < k → Im' (B + 46) k = Im (B + 46) k := by
  obtain ⟨H, hK, hO, hB⟩ := id hS
  have o0 : ∀ b, ¬ b = B + 46 → m0I B Im b = Im b := fun b hb => by unfold m0I; rw [up2_n hb, up2_n hb, up2_n hb, up2_n hb, up2_n hb, up2_n hb, up2_n hb]
  have f0 : ∀ k, ¬ k = 5 → ¬ k = 13 → ¬ k = 23 → ¬ k = 26 → ¬ k = 27 → ¬ k = 28 → ¬ k = 29 → m0I B Im (B + 46) k = Im (B + 46) k := fun k h1 h2 h3 h4 h5 h6 h7 => by
    unfold m0I; rw [up2_r, up1_n h2, up2_r, up1_n h1, up2_r, up1_n h7, up2_r, up1_n h6, up2_r, up1_n h5, up2_r, up1_n h4, up2_r, up1_n h3]
  have f13 : m0I B Im (B + 46) 13 = it 0 := by unfold m0I; rw [up2_r, up1_s]
  have f5 : m0I B Im (B + 46) 5 = it 0 := by unfold m0I; rw [up2_r, up1_n (by omega), up2_r, up1_s]
  have f29 : m0I B Im (B + 46) 29 = it 0 := by unfold m0I; rw [up2_r, up1_n (by omega), up2_r, up1_n (by omega), up2_r, up1_s]
  have f28 : m0I B Im (B + 46) 28 = it (-1) := by unfold m0I; rw [up2_r, up1_n (by omega), up2_r, up1_n (by omega), up2_r, up1_n (by omega), up2_r, up1_s]
  have f27 : m0I B Im (B + 46) 27 = it (-1) := by unfold m0I; rw [up2_r, up1_n (by omega), up2_r, up1_n (by omega), up2_r, up1_n (by omega), up2_r, up1_n (by omega), up2_r, up1_s]
  have f26 : m0I B Im (B + 46) 26 = it 0 := by unfold m0I; rw [up2_r, up1_n (by omega), up2_r, up1_n (by omega), up2_r, up1_n (by omega), up2_r, up1_n (by omega), up2_r, up1_n (by omega), up2_r, up1_s]
  have f23 : m0I B Im (B + 46) 23 = it ((0 : Nat) : Int) := by unfold m0I; rw [up2_r, up1_n (by omega), up2_r, up1_n (by omega), up2_r, up1_n (by omega), up2_r, up1_n (by omega), up2_r, up1_n (by omega), up2_r, up1_n (by omega), up2_r, up1_s]; rfl
  have hM0 : MTp B bs t (m0I B Im) := by
    unfold MTp
    rw [f0 2 (by omega) (by omega) (by omega) (by omega) (by omega) (by omega) (by omega), o0 (B + 48) (by omega)]
    exact hM
  have hO0 : StO K B wm (m0I B Im) := StO_c (fun b hb => ⟨o0 b (by omega), rfl, rfl⟩) hO
  obtain ⟨I1, e1, e2, e3⟩ := s_84 (K := K) (d := dy + 3) (J := Jm) H ht (Nat.zero_le t) hK hM0 hO0 f23
  have et : wsk bs (t - 0) 0 = tst bs t 0 := rfl
  rw [et] at e3
  have ff : ∀ k, ¬ k = 22 → ¬ k = 23 → ¬ k = 24 → ¬ k = 25 → I1 (B + 46) k = m0I B Im (B + 46) k := fun k h1 h2 h3 h4 => e2.2 k h1 h2 h3 h4
  refine ⟨I1, fun k w' I' J' h88 => ?_, ⟨?_, ?_, by omega, by omega, e3.1, fun _ => e3⟩, ?_, ?_, ?_, ?_, ?_, fun b hb => ?_, fun k k1 k2 k3 => ?_⟩
  · unfold f_83
    simp only [it_lit, it_neg, lt_p, gO_e (yt46 H)]
    have e1' : Cl K (dy + 9) 84 [.ref (B + 46)] wm (m0I B Im) Jm = some (none, wm, I1, Jm) := e1
    unfold m0I at e1'
    rw [e1']
    simp only [cV_e, gO_e (yt46 H)]
    rw [h88]
    simp only [cV_e]
  · unfold MTp
    rw [ff 2 (by omega) (by omega) (by omega) (by omega), e2.1 (B + 48) (by omega)]
    exact hM0
  · rw [ff 26 (by omega) (by omega) (by omega) (by omega)]; exact f26
  · rw [ff 27 (by omega) (by omega) (by omega) (by omega)]; exact f27
  · rw [ff 28 (by omega) (by omega) (by omega) (by omega)]; exact f28
  · rw [ff 29 (by omega) (by omega) (by omega) (by omega)]; exact f29
  · rw [ff 5 (by omega) (by omega) (by omega) (by omega)]; exact f5
  · rw [ff 13 (by omega) (by omega) (by omega) (by omega)]; exact f13
  · rw [e2.1 b hb, o0 b hb]
  · rw [ff k (by omega) (by omega) (by omega) (by omega), f0 k k1 k2 (by omega) (by omega) (by omega) (by omega) (by omega)]
/-- no place yet -/
def g0 : gG := (0, fun _ => 0, fun _ => 0, fun _ => [])
theorem FJ_0 (ha : a = B + 8 ∨ a = B + 22) (hT : XT B bs t n 0 0 Ix) (h6 : Ix (B + 2) 6 = it (-1)) (h7 : Ix (B + 2) 7 = it (-1)) (h8 : Ix (B + 2) 8 = it 0) (a6 : Ix a 6 = it 0) (a7 : Ix a 7 = it 0) (a5 : ∀ k, k < 20 → Ix (a + 5) k = it 0) (h15 : ∀ l, l < 26 → Ix (B + 15) l = it (-1)) (j0 : Jx (B + 18) 0 = 0) (hO : StO K B w Ix) (hS : SM K B wm Im) (hM : MR B bs t n 0 0 Im) (m27 : Im (B + 46) 27 = it (-1)) (m28 : Im (B + 46) 28 = it (-1)) (m29 : Im (B + 46) 29 = it 0) (m5 : Im (B + 46) 5 = it 0) (m13 : Im (B + 46) 13 = it 0) (hsl : sl ≤ 500) : FJ K B a bs t n w 0 0 0 sl (-1) True True (fun _ => 0) (fun _ _ => 0) g0 0 0 0 Ix Jx wm Im := by
  refine ⟨⟨0, 0, 0, -1, -1, -1, -1, ⟨hT, h6, by omega, by omega, h7, by omega, by omega, h8, by omega, a6, by omega⟩, ⟨hM, m27, by omega, by omega, m28, by omega, by omega, m29, by omega, m13, by omega⟩, by omega, by omega, fun _ => ⟨⟨rfl, fun z => by omega⟩, Or.inr ⟨⟨rfl, rfl, rfl, rfl, rfl, rfl, ⟨rfl, fun i hi => by omega, fun i hi => ?_, fun p hp => absurd hp (Nat.not_lt_zero _)⟩, fun p hp => absurd hp (Nat.not_lt_zero _)⟩, trivial, ⟨rfl, fun _ => rfl, fun z => by omega, fun g hg => by omega⟩, trivial⟩⟩⟩, hO, hS, by omega, Or.inl trivial, a7, fun k _ hk => a5 k hk, fun z => by omega, fun _ => ⟨m5, fun z => by omega, fun _ => ⟨fun g hg => by omega, fun g g' hg => by omega, fun l hl => h15 l hl, fun g hg => by omega, fun g hg => by omega⟩⟩⟩
  have : i = 0 := by omega
  subst this
  exact j0
theorem bF_8 {x : Int32} (ha : a = B + 8 ∨ a = B + 22) : bF B a 0 0 (sm_up2 I (B + 2) 8 x) = bF B a 0 0 I := by
  have e2 : ∀ X : aI, bF B a 0 0 X (B + 2) = sm_up1 (sm_up1 (sm_up1 (X (B + 2)) 2 (it ((0 : Nat) : Int))) 8 (it 0)) 11 (it 0) := fun X => by
    unfold bF; rw [up2_r, up2_r, up1_n (by omega), up2_n (by omega), up2_n (by omega), up2_r]
  have e16 : ∀ X : aI, bF B a 0 0 X (B + 16) = fun k => if k < 26 then it (-1) else X (B + 16) k := fun X => by
    unfold bF; rw [up2_n (by omega), up2_n (by omega), up1_s]
  have e5 : ∀ X : aI, bF B a 0 0 X (a + 5) = sm_up1 (X (a + 5)) (4 * 0) (it ((0 : Nat) : Int)) := fun X => by
    unfold bF; rw [up2_n (by omega), up2_n (by omega), up1_n (by omega), up2_r, up2_n (by omega), up2_n (by omega)]
  have e0 : ∀ X : aI, bF B a 0 0 X a = sm_up1 (X a) 7 (it ((0 + 1 : Nat) : Int)) := fun X => by
    unfold bF; rw [up2_n (by omega), up2_n (by omega), up1_n (by omega), up2_n (by omega), up2_r, up2_n (by omega)]
  funext b
  by_cases h2 : b = B + 2
  · subst h2
    rw [e2, e2, up2_r]
    funext k
    simp only [up1_a]
    by_cases k8 : k = 8
    · simp [k8]
    · simp [k8]
  · by_cases h16 : b = B + 16
    · subst h16; rw [e16, e16, up2_n h2]
    · by_cases h5 : b = a + 5
      · subst h5; rw [e5, e5, up2_n h2]
      · by_cases h0 : b = a
        · subst h0; rw [e0, e0, up2_n h2]
        · rw [bF_o ⟨h2, h0, h5, h16⟩, bF_o ⟨h2, h0, h5, h16⟩, up2_n h2]
end TBEG

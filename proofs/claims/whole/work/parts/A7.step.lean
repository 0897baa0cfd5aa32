/-! step -/
def cfr (B : Nat) (I1 I : aI) : Prop := ∀ b, ¬ b = B + 29 → ¬ b = B + 30 → ¬ (B + 32 ≤ b ∧ b ≤ B + 35) → I1 b = I b
def mfr (B : Nat) (I2 Ih : aI) : Prop := (∀ b, ¬ b = B + 46 → ¬ (B + 65 ≤ b ∧ b ≤ B + 70) → I2 b = Ih b) ∧ ∀ k, ¬ k = 41 → I2 (B + 46) k = Ih (B + 46) k
section STEP
variable {K : Nat → Value} {B d s m a N F hi pr j f p b : Nat} {fa : Nat → Nat → Nat} {oc ar : Nat → Nat} {sh : Nat → List Nat} {rc : Nat → Bool} {w : aW} {I I' : aI} {J : aJ} {c n : Nat → Int32}
theorem nw_e (h : I (B + 65) = n) : nw B n I = I := by rw [← h]; exact nw_id
theorem getD_lt {l : List (Nat × Int32)} {i : Nat} (h : ∀ e ∈ l, e.1 < 327) (hi : i < l.length) : (l.getD i (0, 0)).1 < 327 := by
  rw [List.getD_eq_getElem?_getD, List.getElem?_eq_getElem hi]
  exact h _ (List.getElem_mem hi)
theorem it_go {Ih : aI} (H : Lay B w) (hp : w.2.1 (B + 29) 0 = some a) (ha : a = B + 8 ∨ a = B + 22) (TC : gTC (N, F, fa, oc, ar, sh, rc)) (gx : gX (N, F, fa, oc, ar, sh, rc) a I J) (gm : gM (N, F, fa, oc, ar, sh, rc) B Ih) (K2 : gK2 (N, F, fa, oc, ar, sh, rc) B I Ih) (n0 : Ih (B + 65) 0 = it 0) :
    (∃ I1' I1 Ia Ib I2 : aI, Cl K (d + 6) 143 [.ref (B + 29)] w I J = some (some (.int (it 1)), w, I1', J) ∧ Cl K (d + 6) 175 [.ref (B + 29)] w I1' J = some (none, w, I1, J) ∧ cfr B I1 I ∧ Cl K (d + 6) 177 [.ref (B + 65), .int (it 0), .ref (B + 66), .int (it 0), .int (it 360)] w Ih J = some (none, w, Ia, J) ∧ Cl K (d + 6) 178 [.ref (B + 46)] w Ia J = some (some (.int (it 1)), w, Ib, J) ∧ Cl K (d + 6) 196 [.ref (B + 46)] w Ib J = some (none, w, I2, J) ∧ mfr B I2 Ih ∧ gK2 (N, F, fa, oc, ar, sh, rc) B I1 I2)
    ∨ (∃ I1 Ia I2 : aI, Cl K (d + 6) 143 [.ref (B + 29)] w I J = some (some (.int (it 0)), w, I1, J) ∧ cfr B I1 I ∧ Cl K (d + 6) 177 [.ref (B + 65), .int (it 0), .ref (B + 66), .int (it 0), .int (it 360)] w Ih J = some (none, w, Ia, J) ∧ Cl K (d + 6) 178 [.ref (B + 46)] w Ia J = some (some (.int (it 0)), w, I2, J) ∧ mfr B I2 Ih ∧ gK2 (N, F, fa, oc, ar, sh, rc) B I1 I2 ∧ ¬ I2 (B + 65) 0 = it 0) := by
  obtain ⟨g1, g2, g3, g4, g5, g6, g7, g8, g9⟩ := tc_g TC
  obtain ⟨kp, sl, k30, s32, h8, h41, h7, R, M, Hs⟩ := K2
  have hOK : ∀ c n n' : Nat → Int32, (∀ i, i < 360 → n' i = n i) → okH (N, F, fa, oc, ar, sh, rc) c n → okH (N, F, fa, oc, ar, sh, rc) c n' := fun c n n' h o => okH_x (G := (N, F, fa, oc, ar, sh, rc)) g2 g3 h o
  have hA := s_177 (K := K) (d := d + 5) (J := J) (I := Ih) (fr := 0) (tz := 0) (len := 360) (yt65 H) (yt66 H) (by omega) (by omega) (by omega) (by omega) (fun e => by omega)
  obtain ⟨Ia, eIa⟩ : ∃ Ia : aI, Ia = sm_up1 Ih (B + 66) (cpr (Ih (B + 65)) (Ih (B + 66)) 0 0 360) := ⟨_, rfl⟩
  rw [← eIa] at hA
  have fa0 : ∀ b, ¬ b = B + 66 → Ia b = Ih b := fun b hb => by rw [eIa, up1_n hb]
  have fa1 : ∀ i, i < 360 → Ia (B + 66) i = Ih (B + 65) i := fun i hi => by
    rw [eIa, up1_s]
    unfold cpr
    rw [if_pos (by omega), show 0 + (i - 0) = i by omega]
  have gma : gM (N, F, fa, oc, ar, sh, rc) B Ia := gM_c (I := Ih) (fun b hb => fa0 b (by omega)) gm
  have ea : nw B (Ih (B + 65)) Ia = Ia := nw_e (fa0 _ (by omega))
  have c0 : I (B + 30) 0 = it 0 := R.1.trans n0
  rcases stp (K := K) (d := d) H hp ha TC gx ⟨Ih, gm⟩ M R n0 h7 s32 with ⟨ws, n', x0, x1, x2, x3, l35, wb, c143, R', M', hM⟩ | ⟨ws, n', hc, c143, l35, wb, w2, R', M', nz, hM⟩
  · obtain ⟨Ib, c178, d2, d3, d4, d5, d6, d7⟩ := hM Ia gma
    rw [ea] at c178
    obtain ⟨I2, c196, e1, e2, e3, e4, e5, e6⟩ := s_196 (K := K) (d := d + 4) (J := J) (I := Ib) (kp := kp) H (by rw [d7 _ (by omega) (by omega) (by omega), fa0 _ (by omega)]; exact h41) k30
    have X1 := (att0_X (I := I) h7 s32).wrs ws
    have fo : ∀ b, ¬ b = B + 35 → ¬ b = B + 30 → ¬ b = B + 32 → ¬ b = B + 33 → ¬ b = B + 34 → pfr B sl x0 x1 x2 x3 (wrs B sl 1 ws (att0 B sl I)) b = I b := fun b b1 b2 b3 b4 b5 => by
      rw [pfr_o b1, wrs_o b2 b3 b4 b5, att0_o b2 b3 b4 b5]
    have c175 := s_175 (K := K) (d := d + 5) (J := J) (I := pfr B sl x0 x1 x2 x3 (wrs B sl 1 ws (att0 B sl I))) (kp := kp) (sl := sl) H (by rw [fo _ (by omega) (by omega) (by omega) (by omega) (by omega)]; exact h7) s32 (by rw [fo _ (by omega) (by omega) (by omega) (by omega) (by omega)]; exact h8) k30
    refine Or.inl ⟨_, _, Ia, Ib, I2, c143, c175, fun b b1 b2 b3 => ?_, hA, c178, c196, ⟨fun b b1 b2 => ?_, fun k hk => ?_⟩, (if kp = 30 then 30 else kp + 1), (sl + 1) % 32, by split <;> omega, by omega, ?_, ?_, ?_, ?_, ?_, ?_⟩
    · rw [up2_n b1, up2_n b1, fo b (by omega) b2 (by omega) (by omega) (by omega)]
    · rw [e2 b b1 (by omega) (by omega), d7 b (by omega) (by omega) (by omega), fa0 b (by omega)]
    · rw [e1, up1_n hk, d7 _ (by omega) (by omega) (by omega), fa0 _ (by omega)]
    · rw [up2_r, up1_s]
    · rw [e1, up1_s]
    · rw [up2_r, up1_n (by omega), up2_r, up1_s]
    · rw [up2_n (by omega), up2_n (by omega), pfr_o (by omega), X1.2.2.2, e2 _ (by omega) (by omega) (by omega), d2]
      exact R'
    · rw [e2 _ (by omega) (by omega) (by omega), d2]
      exact M'
    · have hX : I (B + 30) = I (B + 30) := rfl
      have hX0 : sm_up2 I (B + 32) sl (it 0) (B + 30) = I (B + 30) := up2_n (by omega)
      have wb' : ∀ e ∈ ((2, I (B + 30) 2) :: ws), e.1 < 327 := fun e he => by
        rcases List.mem_cons.mp he with rfl | he
        · dsimp only; omega
        · exact wb e he
      obtain ⟨q1, q2, q3, q4, q5⟩ := wrs_nd (B := B) (s := sl) ((2, I (B + 30) 2) :: ws) (m := 0) (I := sm_up2 I (B + 32) sl (it 0)) (I (B + 30)) hX0 wb'
      have hap : ap ((2, I (B + 30) 2) :: ws) (I (B + 30)) = ap ws (I (B + 30)) := by
        show ap ws (sm_up1 (I (B + 30)) 2 (I (B + 30) 2)) = _
        rw [up1_id]
      rw [hap] at q1
      have hw : wrs B sl 0 ((2, I (B + 30) 2) :: ws) (sm_up2 I (B + 32) sl (it 0)) = wrs B sl 1 ws (att0 B sl I) := rfl
      rw [hw] at q1 q2 q3 q4 q5
      have hl : ((2, I (B + 30) 2) :: ws).length = ws.length + 1 := rfl
      rw [hl] at q1 q3 q4
      rw [up2_n (b := B + 32) (by omega), up2_n (b := B + 32) (by omega), up2_n (b := B + 33) (by omega), up2_n (b := B + 33) (by omega), up2_n (b := B + 34) (by omega), up2_n (b := B + 34) (by omega), up2_n (b := B + 35) (by omega), up2_n (b := B + 35) (by omega), up2_n (b := B + 30) (by omega), up2_n (b := B + 30) (by omega)]
      rw [pfr_o (a := B + 32) (by omega), pfr_o (a := B + 33) (by omega), pfr_o (a := B + 34) (by omega), pfr_o (a := B + 30) (by omega), X1.2.2.2]
      obtain ⟨k0, ek0⟩ : ∃ k0, k0 = if kp = 30 then 29 else kp := ⟨_, rfl⟩
      have ek : (if kp = 30 then 30 else kp + 1) = k0 + 1 := by rw [ek0]; split <;> rfl
      have k29 : k0 ≤ 29 := by rw [ek0]; split <;> omega
      rw [← ek0] at e3 e4 e5 e6
      rw [ek]
      have es : ((sl + 1) % 32 + 31) % 32 = sl := by omega
      have r74 : ∀ i, Ib (B + 67) i = Ih (B + 67) i := fun i => by rw [d7 _ (by omega) (by omega) (by omega), fa0 _ (by omega)]
      have r75 : ∀ i, Ib (B + 68) i = Ih (B + 68) i := fun i => by rw [d7 _ (by omega) (by omega) (by omega), fa0 _ (by omega)]
      have Hs1 : hst (okH (N, F, fa, oc, ar, sh, rc)) (I (B + 32)) (I (B + 33)) (I (B + 34)) (I (B + 35)) (I2 (B + 67)) (I2 (B + 68)) k0 sl (I (B + 30)) := by
        by_cases e30 : kp = 30
        · subst e30
          have ek29 : k0 = 29 := ek0
          subst ek29
          exact hst_d hOK 29 sl _ (fun i hi => by rw [e5 i hi, if_pos rfl, r74]) (fun i hi => by rw [e6 i hi, if_pos rfl, r75]) Hs
        · rw [if_neg e30] at ek0
          subst ek0
          exact hst_c hOK (t := sl) (fun _ _ => rfl) (fun _ _ => ⟨rfl, rfl⟩) (fun _ _ => rfl) k0 sl 0 _ (by omega) s32 (by omega) (fun i hi => by rw [e5 i hi, if_neg e30, r74]) (fun i hi => by rw [e6 i hi, if_neg e30, r75]) Hs
      have xr : ∀ j, j < 4 → pfr B sl x0 x1 x2 x3 (wrs B sl 1 ws (att0 B sl I)) (B + 35) (4 * sl + j) = Ib (B + 69) j := by
        intro j hj
        unfold pfr
        simp only [up2_r]
        have h4 : j = 0 ∨ j = 1 ∨ j = 2 ∨ j = 3 := by omega
        rcases h4 with rfl | rfl | rfl | rfl
        · rw [up1_n (by omega), up1_n (by omega), up1_n (by omega)]
          exact (up1_s _ _ _).trans d3.symm
        · rw [up1_n (by omega), up1_n (by omega), up1_s, d4]
        · rw [up1_n (by omega), up1_s, d5]
        · rw [up1_s, d6]
      have xo : ∀ i, (i < 4 * sl ∨ 4 * sl + 4 ≤ i) → pfr B sl x0 x1 x2 x3 (wrs B sl 1 ws (att0 B sl I)) (B + 35) i = I (B + 35) i := by
        intro i hi
        unfold pfr
        simp only [up2_r]
        rw [up1_n (by omega), up1_n (by omega), up1_n (by omega), up1_n (by omega), wrs_o (by omega) (by omega) (by omega) (by omega), att0_o (by omega) (by omega) (by omega) (by omega)]
      have q1' : uNd (wrs B sl 1 ws (att0 B sl I) (B + 33)) (wrs B sl 1 ws (att0 B sl I) (B + 34)) sl (1 + ws.length) (ap ws (I (B + 30))) = I (B + 30) := by
        rw [show 1 + ws.length = 0 + (ws.length + 1) by omega]; exact q1
      have u0 : sm_up1 (I (B + 30)) 0 (it 0) = I (B + 30) := by rw [← c0]; exact up1_id _ _
      refine ⟨1 + ws.length, by omega, by omega, ?_, ?_, fun i hi => ?_, fun j hj => ?_, ?_, ?_, ?_⟩
      · rw [es]; exact X1.2.2.1
      · rw [es]
        have := q3 0 (by omega)
        rw [Nat.zero_add, Nat.add_zero] at this
        exact this
      · rw [es]
        have := q3 i (by omega)
        rw [Nat.zero_add] at this
        exact ⟨_, getD_lt wb' (by rw [hl]; omega), this⟩
      · rw [es, xr j hj, e4 j hj]
      · have := e3 0 (by omega)
        rw [d7 _ (by omega) (by omega) (by omega), fa1 0 (by omega)] at this
        exact this.trans n0
      · rw [es, q1', u0]
        refine hOK _ _ _ (fun i hi => ?_) ⟨R, M⟩
        show I2 (B + 67) (360 * k0 + i) = Ih (B + 65) i
        rw [e3 i hi, d7 _ (by omega) (by omega) (by omega)]
        exact fa1 i hi
      · rw [es, q1', u0]
        exact hst_c hOK (t := sl) (fun i hi => by rw [q5 i hi, up2_r, up1_n hi]) (fun i hi => by
          have := q4 i (by omega)
          rw [up2_n (by omega), up2_n (by omega)] at this
          exact this) xo k0 sl 0 _ (by omega) s32 (by omega) (fun _ _ => rfl) (fun _ _ => rfl) Hs1
  · obtain ⟨I2, c178, d2, d7⟩ := hM Ia gma
    rw [ea] at c178
    have X1 := (att0_X (I := I) h7 s32).wrs ws
    refine Or.inr ⟨_, Ia, I2, c143, fun b b1 b2 b3 => ?_, hA, c178, ⟨fun b b1 b2 => ?_, fun k hk => ?_⟩, ⟨kp, sl, k30, s32, ?_, ?_, ?_, ?_, ?_, ?_⟩, by rw [d2]; exact nz⟩
    · rw [up2_n b2, wrs_o b2 (by omega) (by omega) (by omega), att0_o b2 (by omega) (by omega) (by omega)]
    · rw [d7 b (by omega) (by omega) (by omega), fa0 b (by omega)]
    · rw [d7 _ (by omega) (by omega) (by omega), fa0 _ (by omega)]
    · rw [up2_n (by omega), wrs_o (by omega) (by omega) (by omega) (by omega), att0_o (by omega) (by omega) (by omega) (by omega)]; exact h8
    · rw [d7 _ (by omega) (by omega) (by omega), fa0 _ (by omega)]; exact h41
    · rw [up2_n (by omega), wrs_o (by omega) (by omega) (by omega) (by omega), att0_o (by omega) (by omega) (by omega) (by omega)]; exact h7
    · rw [up2_r, X1.2.2.2, d2]; exact R'
    · rw [d2]; exact M'
    · have hX0 : sm_up2 I (B + 32) sl (it 0) (B + 30) = I (B + 30) := up2_n (by omega)
      have wb' : ∀ e ∈ ((2, I (B + 30) 2) :: ws), e.1 < 327 := fun e he => by
        rcases List.mem_cons.mp he with rfl | he
        · dsimp only; omega
        · exact wb e he
      obtain ⟨q1, q2, q3, q4, q5⟩ := wrs_nd (B := B) (s := sl) ((2, I (B + 30) 2) :: ws) (m := 0) (I := sm_up2 I (B + 32) sl (it 0)) (I (B + 30)) hX0 wb'
      have hw : wrs B sl 0 ((2, I (B + 30) 2) :: ws) (sm_up2 I (B + 32) sl (it 0)) = wrs B sl 1 ws (att0 B sl I) := rfl
      rw [hw] at q4 q5
      have hl : ((2, I (B + 30) 2) :: ws).length = ws.length + 1 := rfl
      rw [hl] at q4
      rw [up2_n (b := B + 32) (by omega), up2_n (b := B + 33) (by omega), up2_n (b := B + 34) (by omega), up2_n (b := B + 35) (by omega), up2_r, X1.2.2.2]
      rw [wrs_o (a := B + 35) (by omega) (by omega) (by omega) (by omega), att0_o (b := B + 35) (by omega) (by omega) (by omega) (by omega)]
      refine hst_h (c := I (B + 30)) (fun i i0 i2 => ?_) kp sl ?_
      · rw [up1_n i0, ap_o (fun e he => by rw [w2 e he]; exact i2)]
      · have r74 : I2 (B + 67) = Ih (B + 67) := by rw [d7 _ (by omega) (by omega) (by omega), fa0 _ (by omega)]
        have r75 : I2 (B + 68) = Ih (B + 68) := by rw [d7 _ (by omega) (by omega) (by omega), fa0 _ (by omega)]
        rw [r74, r75]
        exact hst_c hOK (t := sl) (fun i hi => by rw [q5 i hi, up2_r, up1_n hi]) (fun i hi => by
          have := q4 i (by omega)
          rw [up2_n (by omega), up2_n (by omega)] at this
          exact this) (fun _ _ => rfl) kp sl 0 _ (by omega) s32 (by omega) (fun _ _ => rfl) (fun _ _ => rfl) Hs
end STEP

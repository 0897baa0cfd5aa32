/-! each op does the same in both -/
def Sim (K : Nat → Value) (d B s m : Nat) (w : aW) (J : aJ) (G : aG) (I : aI) (c n : Nat → Int32) (j o av : Nat) : Prop :=
  ∃ (ws : List (Nat × Int32)) (n' : Nat → Int32), ws.length ≤ 15 ∧ (∀ e ∈ ws, e.1 < 327) ∧ Cl K (d + 5) 159 [.ref (B + 29), .int (it o), .int (it av)] w I J = some (some (.int (it 0)), w, wrs B s m ws I, J)
    ∧ (∀ I' : aI, gM G B I' → Cl K (d + 5) 188 [.ref (B + 46), .int (it o), .int (it av), .int (it (70 + 8 * (((j + 1 : Nat) : Int) - 1)))] w (nw B n I') J = some (none, w, nw B n' I', J)) ∧ mRel G.2.2.1 (ap ws c) n' ∧ mOK G n'
section SIM
variable {K : Nat → Value} {B d s m a N F hi pr j f p b : Nat} {fa : Nat → Nat → Nat} {oc ar : Nat → Nat} {sh : Nat → List Nat} {rc : Nat → Bool} {w : aW} {I I' : aI} {J : aJ} {c n : Nat → Int32}
theorem fin_R {q r : List Nat} {ty p' : Nat} {v : Int32} (TC : gTC (N, F, fa, oc, ar, sh, rc)) (R : mRel fa c n) (T : mTop N F fa oc ar sh n hi pr j f p b) (n0 : n 0 = it 0) (hsh : sh p = q ++ r) (hsh' : sh p' = ty :: r) (t3 : ty ≤ 3) (hv : okv n ty v) (q1 : p' < 200) (q2 : fa f 0 ≤ p') (q3 : p' < gEnd N F fa f) (hh : hi - q.length < 30) : mRel fa (cR c (hi - q.length) j (it p') v (it ty)) (nR n (hi - q.length) j (it p') v (it ty)) ∧ mOK (N, F, fa, oc, ar, sh, rc) (nR n (hi - q.length) j (it p') v (it ty)) := by
  obtain ⟨g1, g2, g3, g4, g5, g6, g7, g8, g9⟩ := tc_g TC
  have a1 := T.1
  have a2 := T.2.1
  refine ⟨rel_R R a1 a2 hh, mOK_of (h := 0) g2 (top_R g2 g3 T hsh hsh' t3 hv q1 q2 q3 hh) ?_ (by omega) (by omega)⟩
  unfold nR
  rw [up1_n (by omega), up1_n (by omega), up1_n (by omega), up1_n (by omega)]
  exact n0
theorem fin_D {q r : List Nat} {p' : Nat} (TC : gTC (N, F, fa, oc, ar, sh, rc)) (R : mRel fa c n) (T : mTop N F fa oc ar sh n hi pr j f p b) (n0 : n 0 = it 0) (hsh : sh p = q ++ r) (hsh' : sh p' = r) (q1 : p' < 200) (q2 : fa f 0 ≤ p') (q3 : p' < gEnd N F fa f) : mRel fa (cD c (hi - q.length) j (it p')) (nD n (hi - q.length) j (it p')) ∧ mOK (N, F, fa, oc, ar, sh, rc) (nD n (hi - q.length) j (it p')) := by
  obtain ⟨g1, g2, g3, g4, g5, g6, g7, g8, g9⟩ := tc_g TC
  have a1 := T.1
  have a2 := T.2.1
  refine ⟨rel_D R a1 a2, mOK_of (h := 0) g2 (top_D g2 g3 T hsh hsh' q1 q2 q3) ?_ (by omega) (by omega)⟩
  unfold nD
  rw [up1_n (by omega), up1_n (by omega)]
  exact n0
theorem sim_put {ty o av : Nat} {vv : Int32} (H : Lay B w) (hp : w.2.1 (B + 29) 0 = some a) (ha : a = B + 8 ∨ a = B + 22) (TC : gTC (N, F, fa, oc, ar, sh, rc)) (gx : gX (N, F, fa, oc, ar, sh, rc) a I J) (X : XM B s m c I) (hm : m < 20) (R : mRel fa c n) (T : mTop N F fa oc ar sh n hi pr j f p b) (n0 : n 0 = it 0) (h30 : hi < 30) (ty3 : ty ≤ 3) (hs' : sh (p + 1) = ty :: sh p) (q2 : fa f 0 ≤ p + 1) (q3 : p + 1 < gEnd N F fa f) (q1 : p + 1 < 200) (hv : okv n ty vv) (ho : o = 0 ∨ o = 1 ∨ o = 2 ∨ o = 3 ∨ o = 27)
    (hX : Cl K (d + 4) 160 [.ref (B + 29), .int (it o), .int (it av)] w I J = some (some (.int (it 0)), w, wrs B s m (wR hi (j + 1) 0 (c (88 + 8 * (j + 1 - 1))) vv (it ty)) I, J))
    (hM : ∀ I' : aI, gM (N, F, fa, oc, ar, sh, rc) B I' → Cl K (d + 5) 188 [.ref (B + 46), .int (it o), .int (it av), .int (it (70 + 8 * (((j + 1 : Nat) : Int) - 1)))] w (nw B n I') J = some (none, w, nw B (ap [(71 + 8 * (j + 1 - 1), it (p + 1)), (10 + hi, vv), (40 + hi, it ty), (2, it (hi + 1))] n) I', J)) : Sim K d B s m w J (N, F, fa, oc, ar, sh, rc) I c n j o av := by
  have a1 := T.1
  have a2 := T.2.1
  have a8 := T.2.2.2.2.2.2.2.1
  obtain ⟨e1, e2⟩ := fin_R (q := []) (r := sh p) (p' := p + 1) (v := vv) TC R T n0 rfl hs' ty3 hv q1 q2 q3 (by simp only [List.length_nil]; omega)
  refine ⟨_, _, by show 4 ≤ 15; omega, wR_b (by omega) (by omega), p159a H ho hX, hM, ?_, ?_⟩
  · rw [apR (by omega), nRc h30, show j + 1 - 1 = j by omega, (rel_p R a1 a2).2.1, a8, it_add]
    exact e1
  · rw [nRc h30]
    exact e2
theorem sim_op {q r : List Nat} {ty o av tk : Nat} {v : Int32} {wo wg : List (Nat × Int32)} (H : Lay B w) (hp : w.2.1 (B + 29) 0 = some a) (ha : a = B + 8 ∨ a = B + 22) (TC : gTC (N, F, fa, oc, ar, sh, rc)) (gx : gX (N, F, fa, oc, ar, sh, rc) a I J) (X : XM B s m c I) (hm : m < 20) (R : mRel fa c n) (T : mTop N F fa oc ar sh n hi pr j f p b) (n0 : n 0 = it 0) (R1 : mRel fa (ap wo c) (ap wg n)) (T1 : mTop N F fa oc ar sh (ap wg n) hi pr j f p b) (n10 : ap wg n 0 = it 0) (hsh : sh p = q ++ r) (hs' : sh (p + 1) = ty :: r) (hq : q.length = tk) (tk1 : 1 ≤ tk) (t3 : ty ≤ 3) (hv : okv (ap wg n) ty v) (q2 : fa f 0 ≤ p + 1) (q3 : p + 1 < gEnd N F fa f) (q1 : p + 1 < 200) (hl : wo.length ≤ 11) (hb : ∀ e ∈ wo, e.1 < 327) (hw : ∀ e ∈ wg, ¬ 71 + 8 * j = e.1)
    (hX : Cl K (d + 5) 159 [.ref (B + 29), .int (it o), .int (it av)] w I J = some (some (.int (it 0)), w, wrs B s m (wo ++ wR hi (j + 1) tk (c (88 + 8 * (j + 1 - 1))) v (it ty)) I, J))
    (hM : ∀ I' : aI, gM (N, F, fa, oc, ar, sh, rc) B I' → Cl K (d + 5) 188 [.ref (B + 46), .int (it o), .int (it av), .int (it (70 + 8 * (((j + 1 : Nat) : Int) - 1)))] w (nw B n I') J = some (none, w, nw B (ap ((71 + 8 * (j + 1 - 1), it (p + 1)) :: (wg ++ [(2, it ((hi - tk : Nat) : Int)), (10 + hi - tk, v), (40 + hi - tk, it ty), (2, it ((hi - tk + 1 : Nat) : Int))])) n) I', J)) : Sim K d B s m w J (N, F, fa, oc, ar, sh, rc) I c n j o av := by
  have a1 := T.1
  have a2 := T.2.1
  have a4 := T.2.2.2.1
  have a8 := T.2.2.2.2.2.2.2.1
  have a13 := T.2.2.2.2.2.2.2.2.2.2.2.2.1
  have hlen : (sh p).length = tk + r.length := by rw [hsh, List.length_append, hq]
  obtain ⟨e1, e2⟩ := fin_R (p' := p + 1) (v := v) TC R1 T1 n10 hsh hs' t3 hv q1 q2 q3 (by rw [hq]; omega)
  rw [hq] at e1 e2
  refine ⟨_, _, ?_, fun e he => ?_, hX, hM, ?_, ?_⟩
  · rw [List.length_append]; show wo.length + 4 ≤ 15; omega
  · rcases List.mem_append.mp he with he | he
    · exact hb e he
    · exact wR_b (by omega) (by omega) e he
  · rw [ap_app, apR (by omega), nRd a4 (by omega) tk1 hw, show j + 1 - 1 = j by omega, (rel_p R a1 a2).2.1, a8, it_add]
    exact e1
  · rw [nRd a4 (by omega) tk1 hw]
    exact e2
theorem sim_st {q r : List Nat} {o av tk pr' : Nat} {wo wl : List (Nat × Int32)} (H : Lay B w) (hp : w.2.1 (B + 29) 0 = some a) (ha : a = B + 8 ∨ a = B + 22) (TC : gTC (N, F, fa, oc, ar, sh, rc)) (gx : gX (N, F, fa, oc, ar, sh, rc) a I J) (X : XM B s m c I) (hm : m < 20) (R : mRel fa c n) (T : mTop N F fa oc ar sh n hi pr j f p b) (n0 : n 0 = it 0) (R1 : mRel fa (ap wo c) (ap wl n)) (T1 : mTop N F fa oc ar sh (ap wl n) hi pr' j f p b) (n10 : ap wl n 0 = it 0) (hsh : sh p = q ++ r) (hs' : sh (p + 1) = r) (hq : q.length = tk) (q2 : fa f 0 ≤ p + 1) (q3 : p + 1 < gEnd N F fa f) (q1 : p + 1 < 200) (hl : wo.length ≤ 11) (hb : ∀ e ∈ wo, e.1 < 327) (hw : ∀ e ∈ wl, ¬ 71 + 8 * j = e.1)
    (hX : Cl K (d + 5) 159 [.ref (B + 29), .int (it o), .int (it av)] w I J = some (some (.int (it 0)), w, wrs B s m (wo ++ wD hi (j + 1) tk (c (88 + 8 * (j + 1 - 1)))) I, J))
    (hM : ∀ I' : aI, gM (N, F, fa, oc, ar, sh, rc) B I' → Cl K (d + 5) 188 [.ref (B + 46), .int (it o), .int (it av), .int (it (70 + 8 * (((j + 1 : Nat) : Int) - 1)))] w (nw B n I') J = some (none, w, nw B (ap ((71 + 8 * (j + 1 - 1), it (p + 1)) :: (wl ++ [(2, it ((hi - tk : Nat) : Int))])) n) I', J)) : Sim K d B s m w J (N, F, fa, oc, ar, sh, rc) I c n j o av := by
  have a1 := T.1
  have a2 := T.2.1
  have a4 := T.2.2.2.1
  have a8 := T.2.2.2.2.2.2.2.1
  obtain ⟨e1, e2⟩ := fin_D (p' := p + 1) TC R1 T1 n10 hsh hs' q1 q2 q3
  rw [hq] at e1 e2
  refine ⟨_, _, ?_, fun e he => ?_, hX, hM, ?_, ?_⟩
  · rw [List.length_append]; show wo.length + 2 ≤ 15; omega
  · rcases List.mem_append.mp he with he | he
    · exact hb e he
    · exact wD_b (by omega) e he
  · rw [ap_app, apD, nDe hw, show j + 1 - 1 = j by omega, (rel_p R a1 a2).2.1, a8, it_add]
    exact e1
  · rw [nDe hw]
    exact e2
end SIM

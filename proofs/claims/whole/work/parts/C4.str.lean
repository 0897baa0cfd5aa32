/-! strings that were there before -/
/-- what was there before: strings, tables -/
def StO (K : Nat → Value) (B : Nat) (w : aW) (I : aI) : Prop :=
  (∀ i, i < 23 → ∃ a v, K i = .ref a ∧ a < B ∧ v < B ∧ w.2.1 a 0 = some v ∧ w.1 v = some (21, (gsb.getD i []).length) ∧ ∀ j, j < (gsb.getD i []).length → I v j = (gsb.getD i []).getD j 0)
  ∧ (∀ i, i < 4 → ∃ a, K (23 + i) = .ref a ∧ a < B ∧ w.1 a = some (20, (gsa.getD i []).length) ∧ ∀ j, j < (gsa.getD i []).length → I a j = (gsa.getD i []).getD j 0)
  ∧ (K 27 = .null ∨ ∃ q, K 27 = .ref q) ∧ K 28 = .int 1
theorem StO_c {K : Nat → Value} {B : Nat} {w w' : aW} {I I' : aI} (h1 : ∀ a, a < B → I' a = I a ∧ w'.1 a = w.1 a ∧ w'.2.1 a = w.2.1 a) (h : StO K B w I) : StO K B w' I' := by
  obtain ⟨a1, a2, a3, a4⟩ := h
  refine ⟨fun i hi => ?_, fun i hi => ?_, a3, a4⟩
  · obtain ⟨a, v, k1, k2, k3, k4, k5, k6⟩ := a1 i hi
    exact ⟨a, v, k1, k2, k3, by rw [(h1 a k2).2.2]; exact k4, by rw [(h1 v k3).2.1]; exact k5, by rw [(h1 v k3).1]; exact k6⟩
  · obtain ⟨a, k1, k2, k3, k4⟩ := a2 i hi
    exact ⟨a, k1, k2, by rw [(h1 a k2).2.1]; exact k3, by rw [(h1 a k2).1]; exact k4⟩
theorem gsb_n : ∀ l ∈ gsb, ∀ x ∈ l, 0 ≤ x.toInt ∧ x.toInt < 128 := by decide +kernel
theorem gsb_v {i j : Nat} (hi : i < 23) (hj : j < (gsb.getD i []).length) : ∃ v : Nat, v < 128 ∧ (gsb.getD i []).getD j 0 = it v := by
  have hl : i < gsb.length := hi
  have e1 : gsb.getD i [] = gsb[i] := by rw [List.getD_eq_getElem?_getD, List.getElem?_eq_getElem hl]; rfl
  rw [e1] at hj ⊢
  have e2 : gsb[i].getD j 0 = gsb[i][j] := by rw [List.getD_eq_getElem?_getD, List.getElem?_eq_getElem hj]; rfl
  have := gsb_n _ (List.getElem_mem hl) _ (List.getElem_mem hj)
  rw [e2]
  refine ⟨gsb[i][j].toInt.toNat, by omega, ?_⟩
  rw [show ((gsb[i][j].toInt.toNat : Nat) : Int) = gsb[i][j].toInt by omega, it_of]
section STR
variable {K : Nat → Value} {B d : Nat} {w : aW} {I : aI} {J : aJ}
theorem ok_10 {i n : Int32} {v : Value} (hv : v = .null ∨ ∃ q, v = .ref q) (h0 : ¬ i < 0) (h1 : i < n) : Cl K (d + 1) 10 [.int i, .int n, v] w I J = some (some (.int i), w, I, J) := by
  have c0 : sm_cd 10 0 = some (.iload_n 0, 1, 0, 0, 0, 0, 0, 0, 0) := cd_of (show gcd.lookup 10 = some gw_10 from rfl) rfl
  have c1 : sm_cd 10 1 = some (.ifCond .lt 8, 3, 9, 0, 0, 0, 0, 0, 0) := cd_of (show gcd.lookup 10 = some gw_10 from rfl) rfl
  have c4 : sm_cd 10 4 = some (.iload_n 0, 1, 0, 0, 0, 0, 0, 0, 0) := cd_of (show gcd.lookup 10 = some gw_10 from rfl) rfl
  have c5 : sm_cd 10 5 = some (.iload_n 1, 1, 1, 0, 0, 0, 0, 0, 0) := cd_of (show gcd.lookup 10 = some gw_10 from rfl) rfl
  have c6 : sm_cd 10 6 = some (.if_icmp .lt 10, 3, 16, 0, 0, 0, 0, 0, 0) := cd_of (show gcd.lookup 10 = some gw_10 from rfl) rfl
  have c16 : sm_cd 10 16 = some (.iload_n 0, 1, 0, 0, 0, 0, 0, 0, 0) := cd_of (show gcd.lookup 10 = some gw_10 from rfl) rfl
  have c17 : sm_cd 10 17 = some (.ireturn, 1, 0, 0, 1, 0, 0, 0, 0) := cd_of (show gcd.lookup 10 = some gw_10 from rfl) rfl
  have go : ∀ L : aL, L = [some (.int i), some (.int n), some v] → Go K (d + 1) 10 0 L [] w I J (some (.int i), w, I, J) := by
    intro L hL
    subst hL
    refine gs_0 (pc' := 1) (L' := [some (.int i), some (.int n), some v]) (st' := [.int i]) c0 rfl rfl ?_
    refine gs_0 (pc' := if i < 0 then 9 else 4) (L' := [some (.int i), some (.int n), some v]) (st' := []) c1 rfl rfl ?_
    refine go_ite (fun hc => absurd hc h0) (fun hc => ?_)
    refine gs_0 (pc' := 5) (L' := [some (.int i), some (.int n), some v]) (st' := [.int i]) c4 rfl rfl ?_
    refine gs_0 (pc' := 6) (L' := [some (.int i), some (.int n), some v]) (st' := [.int n, .int i]) c5 rfl rfl ?_
    refine gs_0 (pc' := if i < n then 16 else 9) (L' := [some (.int i), some (.int n), some v]) (st' := []) c6 rfl rfl ?_
    refine go_ite (fun hc => ?_) (fun hc => absurd h1 hc)
    refine gs_0 (pc' := 17) (L' := [some (.int i), some (.int n), some v]) (st' := [.int i]) c16 rfl rfl ?_
    exact gs_ri c17 (Or.inl rfl)
  apply Cl_of
  rcases hv with rfl | ⟨q, rfl⟩
  · exact go _ rfl
  · exact go _ rfl
theorem ok_9 {i n : Int32} (hv : K 27 = .null ∨ ∃ q, K 27 = .ref q) (h0 : ¬ i < 0) (h1 : i < n) : Cl K (d + 2) 9 [.int i, .int n] w I J = some (none, w, I, J) := by
  have c0 : sm_cd 9 0 = some (.iload_n 0, 1, 0, 0, 0, 0, 0, 0, 0) := cd_of (show gcd.lookup 9 = some gw_9 from rfl) rfl
  have c1 : sm_cd 9 1 = some (.iload_n 1, 1, 1, 0, 0, 0, 0, 0, 0) := cd_of (show gcd.lookup 9 = some gw_9 from rfl) rfl
  have c2 : sm_cd 9 2 = some (.getstatic 1053, 3, 27, 0, 0, 0, 0, 0, 0) := cd_of (show gcd.lookup 9 = some gw_9 from rfl) rfl
  have c5 : sm_cd 9 5 = some (.invokestatic 1059, 3, 10, 1, 3, 3, 12, 0, 0) := cd_of (show gcd.lookup 9 = some gw_9 from rfl) rfl
  have c8 : sm_cd 9 8 = some (.pop, 1, 0, 0, 0, 0, 0, 0, 0) := cd_of (show gcd.lookup 9 = some gw_9 from rfl) rfl
  have c9 : sm_cd 9 9 = some (.return_, 1, 0, 0, 0, 0, 0, 0, 0) := cd_of (show gcd.lookup 9 = some gw_9 from rfl) rfl
  have hcl : Cl K (d + 1) 10 [.int i, .int n, K 27] w I J = some (some (.int i), w, I, J) := ok_10 hv h0 h1
  apply Cl_of
  refine gs_0 (pc' := 1) (L' := [some (.int i), some (.int n)]) (st' := [.int i]) c0 rfl rfl ?_
  refine gs_0 (pc' := 2) (L' := [some (.int i), some (.int n)]) (st' := [.int n, .int i]) c1 rfl rfl ?_
  refine gs_0 (pc' := 5) (L' := [some (.int i), some (.int n)]) (st' := [K 27, .int n, .int i]) c2 rfl rfl ?_
  have fin : Go K (d + 1 + 1) 9 8 [some (.int i), some (.int n)] [.int i] w I J (none, w, I, J) := by
    refine gs_0 (pc' := 9) (L' := [some (.int i), some (.int n)]) (st' := []) c8 rfl rfl ?_
    exact gsr c9 rfl rfl
  rcases hv with hv | ⟨q, hv⟩
  · rw [hv] at hcl ⊢
    exact gs_call (as := [.int i, .int n, .null]) (rest := []) c5 rfl (by decide) rfl rfl (Nat.le_of_ble_eq_true rfl) (Nat.le_of_ble_eq_true rfl) rfl hcl fin
  · rw [hv] at hcl ⊢
    exact gs_call (as := [.int i, .int n, .ref q]) (rest := []) c5 rfl (by decide) rfl rfl (Nat.le_of_ble_eq_true rfl) (Nat.le_of_ble_eq_true rfl) rfl hcl fin
theorem isS_i {i a : Nat} (hi : i < 23) (hk : K i = .ref a) : sm_isS K a = true := by
  unfold sm_isS
  rw [List.any_eq_true]
  exact ⟨i, List.mem_range.mpr hi, by simp [hk]⟩
theorem s_7 {a : Nat} (h28 : K 28 = .int 1) (hS : sm_isS K a = true) : Cl K (d + 1) 7 [.ref a] w I J = some (some (.int (it 1)), w, I, J) := by
  apply cl_7 (k := 0)
  unfold f_7
  rw [h28]
  simp only [kI]
  rw [if_neg (by decide), gC_e hS]
  rfl
theorem s_5 {a : Nat} (h28 : K 28 = .int 1) (hS : sm_isS K a = true) : Cl K (d + 1) 5 [.ref a] w I J = some (some (.int (it 0)), w, I, J) := by
  apply cl_5 (k := 0)
  unfold f_5
  rw [h28]
  simp only [kI]
  rw [if_neg (by decide), gC_e hS]
  rfl
theorem sr0 : ∀ n : Int32, n >>> (it 0 &&& 31) = n := by
  intro n
  have e : it 0 &&& 31 = 0 := by decide
  rw [e, Int32.shiftRight_zero]
theorem s_4 {a v n : Nat} (h28 : K 28 = .int 1) (hS : sm_isS K a = true) (h0 : w.2.1 a 0 = some v) (h1 : w.1 v = some (21, n)) : Cl K (d + 2) 4 [.ref a] w I J = some (some (.int (it n)), w, I, J) := by
  apply cl_4 (k := 0)
  unfold f_4
  rw [gC_e hS, gV_e h0, gL_e h1 (by omega), gC_e hS, s_5 h28 hS]
  show some (some (Value.int (Int32.ofNat n >>> (it 0 &&& 31))), w, I, J) = _
  rw [sr0, it_nat]
theorem ch255 : ∀ v : Fin 256, (((it (v.val : Int)) &&& 255).toUInt32 % 65536).toInt32 = it (v.val : Int) := by decide +kernel
theorem ch65 : ∀ v : Fin 256, ((it (v.val : Int)).toUInt32 % 65536).toInt32 = it (v.val : Int) := by decide +kernel
theorem s_6 {a v n j x : Nat} (h27 : K 27 = .null ∨ ∃ q, K 27 = .ref q) (h28 : K 28 = .int 1) (hS : sm_isS K a = true) (h0 : w.2.1 a 0 = some v) (h1 : w.1 v = some (21, n)) (hj : j < n) (hn : n < 1000) (hx : I v j = it x) (x2 : x < 256) : Cl K (d + 4) 6 [.ref a, .int (it j)] w I J = some (some (.int (it x)), w, I, J) := by
  apply cl_6 (k := 0)
  unfold f_6
  rw [gC_e hS, s_7 h28 hS]
  simp only [cI_e]
  rw [if_neg (by decide), gC_e hS, gV_e h0]
  have c8 : Cl K (d + 3) 8 [.ref v, .int (it j)] w I J = some (some (.int (it x)), w, I, J) := by
    apply cl_8 (k := 0)
    unfold f_8
    rw [gL_e h1 (by omega), it_nat, ok_9 h27 (fun h => ix (n := n) (z := (j : Int)) (by omega) (by omega) (by omega) (Or.inl h)) ((it_lt (by omega) (by omega) (by omega) (by omega)).mpr (by omega))]
    simp only [cV_e]
    rw [gA_e h1 (Or.inr rfl) (ix (by omega) (by omega) (by omega)), it_n (k := j) (by omega), hx, ch255 ⟨x, x2⟩, gC_e (ch65 ⟨x, x2⟩)]
  rw [c8]
  simp only [cI_e]
  rw [gC_e (ch65 ⟨x, x2⟩)]
/-- the signs -/
def sgs : List Nat := [40, 41, 123, 125, 91, 93, 44, 59, 58, 61, 60, 43, 45, 42, 47]
def sgn (v : Nat) : Prop := v ∈ sgs
theorem l_34 {v n : Nat} {c : Int32} {l1 l2 : Int32} (h1 : w.1 v = some (21, n)) (hn : n < 1000) : ∀ (m j : Nat), j + m = n → ∃ r : Int, f_34_7 K (m + 1) d v l1 l2 (it n) c (it j) w I J = some (some (.int (it r)), w, I, J) ∧ -1 ≤ r ∧ r < 1000 ∧ (0 ≤ r ↔ ∃ k, j ≤ k ∧ k < n ∧ I v k = c) := by
  intro m
  induction m with
  | zero =>
    intro j hj
    refine ⟨-1, ?_, by omega, by omega, ⟨fun h => by omega, fun ⟨k, k1, k2, _⟩ => by omega⟩⟩
    rw [f_34_7]
    simp only [it_lit, lt_p, it_neg]
    rw [if_pos ((it_le (by omega) (by omega) (by omega) (by omega)).mpr (by omega))]
  | succ m ih =>
    intro j hj
    rw [f_34_7]
    simp only [it_lit, lt_p, it_neg, it_add]
    rw [if_neg (fun q => by have := (it_le (by omega) (by omega) (by omega) (by omega)).mp q; omega), gA_e h1 (Or.inr rfl) (ix (by omega) (by omega) (by omega)), it_n (k := j) (by omega)]
    by_cases e : I v j = c
    · rw [if_neg (fun q => q e)]
      exact ⟨j, rfl, by omega, by omega, ⟨fun _ => ⟨j, by omega, by omega, e⟩, fun _ => by omega⟩⟩
    · rw [if_pos e]
      obtain ⟨r, r1, r2, r3, r4⟩ := ih (j + 1) (by omega)
      refine ⟨r, r1, r2, r3, r4.trans ⟨fun ⟨k, k1, k2, k3⟩ => ⟨k, by omega, k2, k3⟩, fun ⟨k, k1, k2, k3⟩ => ?_⟩⟩
      by_cases ek : k = j
      · rw [ek] at k3; exact absurd k3 e
      · exact ⟨k, by omega, k2, k3⟩
theorem i8 : ∀ v : Fin 256, (it (v.val : Int)).toInt8.toInt32 = if v.val < 128 then it (v.val : Int) else it ((v.val : Int) - 256) := by decide +kernel
theorem s_30 {i a v x : Nat} (hi : i = 1 ∨ i = 22) (h28 : K 28 = .int 1) (hk : K i = .ref a) (h0 : w.2.1 a 0 = some v) (h1 : w.1 v = some (21, (gsb.getD i []).length)) (hb : ∀ j, j < (gsb.getD i []).length → I v j = (gsb.getD i []).getD j 0) (x2 : x < 256) : ∃ r : Int, Cl K (d + 4) 30 [.ref a, .int (it x)] w I J = some (some (.int (it r)), w, I, J) ∧ -1 ≤ r ∧ r < 1000 ∧ (0 ≤ r ↔ sgn x) := by
  have hS : sm_isS K a = true := isS_i (i := i) (by omega) hk
  have hg : gsb.getD i [] = [40, 41, 123, 125, 91, 93, 44, 59, 58, 61, 60, 43, 45, 42, 47] := by rcases hi with rfl | rfl <;> rfl
  rw [hg] at h1 hb
  have h1' : w.1 v = some (21, 15) := h1
  obtain ⟨r, r1, r2, r3, r4⟩ := l_34 (K := K) (d := d) (I := I) (J := J) (c := (it x).toInt8.toInt32) (l1 := it x) (l2 := it 0) h1' (by omega) 15 0 (by omega)
  refine ⟨r, ?_, r2, r3, r4.trans ?_⟩
  · apply cl_30 (k := 0)
    unfold f_30
    simp only [it_lit]
    rw [gC_e hS]
    have c31 : Cl K (d + 3) 31 [.ref a, .int (it x), .int (it 0)] w I J = some (some (.int (it r)), w, I, J) := by
      apply cl_31 (k := 0)
      unfold f_31
      simp only [it_lit]
      rw [gC_e hS, s_7 h28 hS]
      simp only [cI_e]
      rw [if_neg (by decide), gC_e hS, gV_e h0, gC_e hS, s_4 h28 hS h0 h1']
      simp only [cI_e]
      have c32 : Cl K (d + 2) 32 [.ref v, .int (it x), .int (it 0), .int (it ((15 : Nat) : Int))] w I J = some (some (.int (it r)), w, I, J) := by
        apply cl_32 (k := 0)
        unfold f_32
        simp only [it_lit]
        have c33 : Cl K (d + 1) 33 [.int (it x)] w I J = some (some (.int (it 1)), w, I, J) := by
          apply cl_33 (k := 0)
          unfold f_33
          simp only [it_lit]
          rw [if_neg (fun q => by have := (it_lt (by omega) (by omega) (by omega) (by omega)).mp q; omega), if_neg (fun q => by have := (it_lt (by omega) (by omega) (by omega) (by omega)).mp q; omega)]
        rw [c33]
        simp only [cI_e, lt_p]
        rw [if_pos (by decide), if_neg (by decide), gL_e h1' (by omega), it_nat]
        rw [if_neg (show ¬ it ((15 : Nat) : Int) < it ((15 : Nat) : Int) by decide), if_pos (by decide)]
        have c34 : Cl K (d + 1) 34 [.ref v, .int (it x), .int (it 0), .int (it ((15 : Nat) : Int))] w I J = some (some (.int (it r)), w, I, J) := by
          apply cl_34 (k := 16)
          unfold f_34
          rw [lt_p]
          exact r1
        rw [c34]
        rfl
      rw [c32]
      rfl
    rw [c31]
    rfl
  · have hx := i8 ⟨x, x2⟩
    simp only at hx
    constructor
    · rintro ⟨k, k1, k2, k3⟩
      rw [hb k k2, hx] at k3
      have hk15 : ∀ k : Fin 15, ∃ u, u ∈ sgs ∧ u < 128 ∧ ([40, 41, 123, 125, 91, 93, 44, 59, 58, 61, 60, 43, 45, 42, 47] : List Int32).getD k.val 0 = it ((u : Nat) : Int) := by
        intro k
        refine ⟨sgs.getD k.val 0, ?_, ?_, ?_⟩
        · revert k; decide +kernel
        · revert k; decide +kernel
        · revert k; decide +kernel
      obtain ⟨u, u1, u2, u3⟩ := hk15 ⟨k, k2⟩
      rw [u3] at k3
      by_cases h128 : x < 128
      · rw [if_pos h128] at k3
        have := it_inj (by omega) (by omega) k3
        rw [← this]
        exact u1
      · rw [if_neg h128] at k3
        have := (it_eq (by omega) (by omega) (by omega) (by omega)).mp k3
        omega
    · intro hm
      have : ∀ u ∈ sgs, u < 128 ∧ ∃ k, k < 15 ∧ ([40, 41, 123, 125, 91, 93, 44, 59, 58, 61, 60, 43, 45, 42, 47] : List Int32).getD k 0 = it (u : Int) := by decide +kernel
      obtain ⟨x128, k, k1, k2⟩ := this x hm
      refine ⟨k, by omega, k1, ?_⟩
      rw [hb k k1, hx, if_pos x128, k2]
end STR

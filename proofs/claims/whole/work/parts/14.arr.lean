/-! arrays, new cells, statics -/
theorem sm_ald_s {k1 k2 : Nat} {st st' : List Value} {w : aW} {I : aI} (h : sm_ald k1 k2 st w I = some st') : ∃ (q n t : Nat) (i : Int32) (r : List Value), st = .int i :: .ref q :: r ∧ w.1 q = some (t, n) ∧ (t = k1 ∨ t = k2) ∧ ¬ (i < 0 ∨ n ≤ i.toNatClampNeg) ∧ st' = .int (I q i.toNatClampNeg) :: r := by
  unfold sm_ald at h
  split at h
  · rename_i i q r
    split at h
    · rename_i t n hw
      split at h
      · rename_i hc
        cases h
        exact ⟨q, n, t, i, r, rfl, hw, hc.1, hc.2, rfl⟩
      · cases h
    · cases h
  · cases h
theorem sm_lald_s {st st' : List Value} {w : aW} {J : aJ} (h : sm_lald st w J = some st') : ∃ (q n : Nat) (i : Int32) (r : List Value), st = .int i :: .ref q :: r ∧ w.1 q = some (11, n) ∧ ¬ (i < 0 ∨ n ≤ i.toNatClampNeg) ∧ st' = .long (J q i.toNatClampNeg) :: r := by
  unfold sm_lald at h
  split at h
  · rename_i i q r
    split at h
    · rename_i t n hw
      split at h
      · rename_i hc
        cases h
        obtain ⟨rfl, h2⟩ := hc
        exact ⟨q, n, i, r, rfl, hw, h2, rfl⟩
      · cases h
    · cases h
  · cases h
theorem sm_rald_s {st st' : List Value} {w : aW} (h : sm_rald st w = some st') : ∃ (q n t v : Nat) (i : Int32) (r : List Value), st = .int i :: .ref q :: r ∧ w.1 q = some (t, n) ∧ (t = 14 ∨ t = 15) ∧ ¬ (i < 0 ∨ n ≤ i.toNatClampNeg) ∧ w.2.1 q i.toNatClampNeg = some v ∧ st' = .ref v :: r := by
  unfold sm_rald at h
  split at h
  · rename_i i q r
    split at h
    · rename_i t n hw
      split at h
      · rename_i hc
        split at h
        · rename_i v hv
          cases h
          exact ⟨q, n, t, v, i, r, rfl, hw, hc.1, hc.2, hv, rfl⟩
        · cases h
      · cases h
    · cases h
  · cases h
theorem sm_alen_s {st st' : List Value} {w : aW} (h : sm_alen st w = some st') : ∃ (q n t : Nat) (r : List Value), st = .ref q :: r ∧ w.1 q = some (t, n) ∧ 10 ≤ t ∧ st' = .int (Int32.ofNat n) :: r := by
  unfold sm_alen at h
  split at h
  · rename_i q r
    split at h
    · rename_i t n hw
      split at h
      · rename_i hc
        cases h
        exact ⟨q, n, t, r, rfl, hw, hc, rfl⟩
      · cases h
    · cases h
  · cases h
section SMA
variable {p : Program} {l : Launch} {e : Env} {R : Room} {s : State} {m : MethodId} {args : Array Value} {below : List Frame} {meth : Method} {c : Code} {H : Heap} {locs : List Loc} {cells slots : Nat} {Q : State → Prop}
variable {G : sm_G} {y pc : Nat} {ls : Array Slot} {w : aW} {I : aI} {J : aJ}
theorem sm_c10 {q n : Nat} (h : sm_cell G s H w I J q 10 n) : G.2.2.1 ≤ q ∧ H[q]? = some (arrV (G.2.1 10) n (fun j => .int (I q j))) := by simpa [sm_cell] using h
theorem sm_c11 {q n : Nat} (h : sm_cell G s H w I J q 11 n) : G.2.2.1 ≤ q ∧ H[q]? = some (arrV (G.2.1 11) n (fun j => .long (J q j))) := by simpa [sm_cell] using h
theorem sm_c12 {q n : Nat} (h : sm_cell G s H w I J q 12 n) : G.2.2.1 ≤ q ∧ H[q]? = some (arrV (G.2.1 12) n (fun j => .int (I q j))) := by simpa [sm_cell] using h
theorem sm_c14 {q n : Nat} (h : sm_cell G s H w I J q 14 n) : G.2.2.1 ≤ q ∧ H[q]? = some (arrV (G.2.1 14) n (fun j => va_rf (w.2.1 q j))) := by simpa [sm_cell] using h
theorem sm_c15 {q n : Nat} (h : sm_cell G s H w I J q 15 n) : G.2.2.1 ≤ q ∧ H[q]? = some (arrV (G.2.1 15) n (fun j => va_rf (w.2.1 q j))) := by simpa [sm_cell] using h
theorem sm_c20 {q n : Nat} (h : sm_cell G s H w I J q 20 n) : va_T .int q n (fun j => .int (I q j)) (fun x => G.2.2.1 ≤ x) s H := by simpa [sm_cell] using h
theorem sm_c21 {q n : Nat} (h : sm_cell G s H w I J q 21 n) : va_T .byte q n (fun j => .int (I q j)) (fun x => G.2.2.1 ≤ x) s H := by simpa [sm_cell] using h
theorem sm_kA (hK : sm_KX G s) : ArrOfT s (G.2.1 10) .int ∧ ArrOfT s (G.2.1 11) .long ∧ ArrOfT s (G.2.1 12) .boolean ∧ ArrOfT s (G.2.1 14) (.object "ProvedMachine$Sheet") ∧ ArrOfT s (G.2.1 15) (.object "java/lang/String") :=
  ⟨(hK.1.2 0 _ rfl).1, (hK.1.2 1 _ rfl).1, (hK.1.2 2 _ rfl).1, (hK.1.2 3 _ rfl).1, (hK.1.2 4 _ rfl).1⟩
theorem sm_none {cA : ClassId} {n : Nat} {f : Nat → Value} : (arrV cA n f).vm ≠ .unknown := fun h => by cases h
theorem sm_iaload_ok {st st' : List Value} (hC : sm_Cx G y p s m args meth c) (hd : decode (gm y).2.2.1 pc = .ok (.iaload, 1)) (hs : sm_ald 10 20 st w I = some st') (hH : sm_HX G s H w I J)
    (kk : W p l e R s m args below meth c H locs cells slots Q (F0 m (pc + 1) ls st')) : W p l e R s m args below meth c H locs cells slots Q (F0 m pc ls st) := by
  obtain ⟨hx, hb, -, -, -, hK, -⟩ := hC
  obtain ⟨q, n, t, i, r, rfl, hw, ht, hin, rfl⟩ := sm_ald_s hs
  have hlt : i.toNatClampNeg < n := Nat.not_le.mp fun z => hin (Or.inr z)
  have hcell := hH.2.2.1 q t n hw
  rcases ht with rfl | rfl
  · obtain ⟨-, h1⟩ := sm_c10 hcell
    exact W.iald hx hb h1 ((sm_kA hK).1 _ _) sm_none (by rw [arrV_size]; exact hin) (arrV_read _ _ hlt) rfl rfl hd kk
  · obtain ⟨cell, h1, h2, h3, h4, h5, h6, h7⟩ := sm_c20 hcell
    exact W.iald hx hb h1 h2 h3 (fun z => hin (z.imp id (fun z => by omega))) (h6 _ hlt) rfl rfl hd kk
theorem sm_baload_ok {st st' : List Value} (hC : sm_Cx G y p s m args meth c) (hd : decode (gm y).2.2.1 pc = .ok (.baload, 1)) (hs : sm_ald 12 21 st w I = some st') (hH : sm_HX G s H w I J)
    (kk : W p l e R s m args below meth c H locs cells slots Q (F0 m (pc + 1) ls st')) : W p l e R s m args below meth c H locs cells slots Q (F0 m pc ls st) := by
  obtain ⟨hx, hb, -, -, -, hK, -⟩ := hC
  obtain ⟨q, n, t, i, r, rfl, hw, ht, hin, rfl⟩ := sm_ald_s hs
  have hlt : i.toNatClampNeg < n := Nat.not_le.mp fun z => hin (Or.inr z)
  have hcell := hH.2.2.1 q t n hw
  rcases ht with rfl | rfl
  · obtain ⟨-, h1⟩ := sm_c12 hcell
    exact W.zald hx hb h1 ((sm_kA hK).2.2.1 _ _) sm_none (by rw [arrV_size]; exact hin) (arrV_read _ _ hlt) rfl rfl hd kk
  · obtain ⟨cell, h1, h2, h3, h4, h5, h6, h7⟩ := sm_c21 hcell
    exact W.bald hx hb h1 h2 h3 (fun z => hin (z.imp id (fun z => by omega))) (h6 _ hlt) rfl rfl hd kk
theorem sm_laload_ok {st st' : List Value} (hC : sm_Cx G y p s m args meth c) (hd : decode (gm y).2.2.1 pc = .ok (.laload, 1)) (hs : sm_lald st w J = some st') (hH : sm_HX G s H w I J)
    (kk : W p l e R s m args below meth c H locs cells slots Q (F0 m (pc + 1) ls st')) : W p l e R s m args below meth c H locs cells slots Q (F0 m pc ls st) := by
  obtain ⟨hx, hb, -, -, -, hK, -⟩ := hC
  obtain ⟨q, n, i, r, rfl, hw, hin, rfl⟩ := sm_lald_s hs
  have hlt : i.toNatClampNeg < n := Nat.not_le.mp fun z => hin (Or.inr z)
  obtain ⟨-, h1⟩ := sm_c11 (hH.2.2.1 q 11 n hw)
  exact W.lald hx hb h1 ((sm_kA hK).2.1 _ _) sm_none (by rw [arrV_size]; exact hin) (arrV_read _ _ hlt) rfl rfl hd kk
theorem sm_aaload_ok {st st' : List Value} (hC : sm_Cx G y p s m args meth c) (hd : decode (gm y).2.2.1 pc = .ok (.aaload, 1)) (hs : sm_rald st w = some st') (hH : sm_HX G s H w I J)
    (kk : W p l e R s m args below meth c H locs cells slots Q (F0 m (pc + 1) ls st')) : W p l e R s m args below meth c H locs cells slots Q (F0 m pc ls st) := by
  obtain ⟨hx, hb, -, -, -, hK, -⟩ := hC
  obtain ⟨q, n, t, v, i, r, rfl, hw, ht, hin, hv, rfl⟩ := sm_rald_s hs
  have hlt : i.toNatClampNeg < n := Nat.not_le.mp fun z => hin (Or.inr z)
  have hcell := hH.2.2.1 q t n hw
  rcases ht with rfl | rfl
  · obtain ⟨-, h1⟩ := sm_c14 hcell
    exact W.aald hx hb h1 ((sm_kA hK).2.2.2.1 _ _) rfl sm_none (by rw [arrV_size]; exact hin) (by rw [arrV_read _ _ hlt, hv]; rfl) rfl rfl hd kk
  · obtain ⟨-, h1⟩ := sm_c15 hcell
    exact W.aald hx hb h1 ((sm_kA hK).2.2.2.2 _ _) rfl sm_none (by rw [arrV_size]; exact hin) (by rw [arrV_read _ _ hlt, hv]; rfl) rfl rfl hd kk
theorem sm_alen_ok {st st' : List Value} (hC : sm_Cx G y p s m args meth c) (hd : decode (gm y).2.2.1 pc = .ok (.arraylength, 1)) (hs : sm_alen st w = some st') (hH : sm_HX G s H w I J)
    (kk : W p l e R s m args below meth c H locs cells slots Q (F0 m (pc + 1) ls st')) : W p l e R s m args below meth c H locs cells slots Q (F0 m pc ls st) := by
  obtain ⟨hx, hb, -, -, -, hK, -⟩ := hC
  obtain ⟨q, n, t, r, rfl, hw, ht, rfl⟩ := sm_alen_s hs
  have hcell := hH.2.2.1 q t n hw
  have hA := sm_kA hK
  have len : ∀ {cA : ClassId} {f : Nat → Value}, (arrV cA n f).slots.size.toInt32 = Int32.ofNat n := by intro cA f; rw [arrV_size]
  by_cases h10 : t = 10
  · subst h10; exact W.alen hx hb (sm_c10 hcell).2 (hA.1 _ _) len rfl rfl hd kk
  by_cases h11 : t = 11
  · subst h11; exact W.alen hx hb (sm_c11 hcell).2 (hA.2.1 _ _) len rfl rfl hd kk
  by_cases h12 : t = 12
  · subst h12; exact W.alen hx hb (sm_c12 hcell).2 (hA.2.2.1 _ _) len rfl rfl hd kk
  by_cases h14 : t = 14
  · subst h14; exact W.alen hx hb (sm_c14 hcell).2 (hA.2.2.2.1 _ _) len rfl rfl hd kk
  by_cases h15 : t = 15
  · subst h15; exact W.alen hx hb (sm_c15 hcell).2 (hA.2.2.2.2 _ _) len rfl rfl hd kk
  by_cases h20 : t = 20
  · subst h20
    obtain ⟨cell, h1, h2, h3, h4, h5, h6, h7⟩ := sm_c20 hcell
    exact W.alen hx hb h1 h2 h5 rfl rfl hd kk
  · unfold sm_cell at hcell
    rw [if_neg (by omega), if_neg h10, if_neg h11, if_neg h12, if_neg h14, if_neg h15, if_neg h20] at hcell
    obtain ⟨-, cell, h1, h2, h3, h4, h5, h6, h7⟩ := hcell
    exact W.alen hx hb h1 h2 h5 rfl rfl hd kk
theorem sm_lo {q j : Nat} (hlo : ∀ x ∈ locs, G.2.2.1 ≤ x.base) (hq : G.2.2.1 ≤ q) : ∀ x ∈ locs ++ [(⟨q, j⟩ : Loc)], G.2.2.1 ≤ x.base := fun x hx => by
  rcases List.mem_append.mp hx with h | h
  · exact hlo x h
  · rw [List.mem_singleton.mp h]; exact hq
theorem sm_up1_ne {α : Type} {f : Nat → α} {k : Nat} {x : α} {q : Nat} (h : q ≠ k) : sm_up1 f k x q = f q := by simp [sm_up1, h]
theorem sm_up1_eq {α : Type} {f : Nat → α} {k : Nat} {x : α} : sm_up1 f k x k = x := by simp [sm_up1]
theorem sm_up2_ne {α : Type} {f : Nat → Nat → α} {a k : Nat} {x : α} {q : Nat} (h : q ≠ a) : sm_up2 f a k x q = f q := by simp [sm_up2, sm_up1, h]
theorem sm_up2_eq {α : Type} {f : Nat → Nat → α} {a k : Nat} {x : α} : sm_up2 f a k x a = sm_up1 (f a) k x := by simp [sm_up2, sm_up1]
theorem sm_updV {α : Type} (mk : α → Value) (f : Nat → α) (k : Nat) (x : α) : updV (fun j => mk (f j)) k (mk x) = fun j => mk (sm_up1 f k x j) := by
  funext j
  by_cases h : j = k
  · simp [updV, sm_up1, h]
  · simp [updV, sm_up1, h]
theorem sm_iastore_ok {i x : Int32} {q n : Nat} {r : List Value} (hC : sm_Cx G y p s m args meth c) (hd : decode (gm y).2.2.1 pc = .ok (.iastore, 1)) (hw : w.1 q = some (10, n)) (hin : ¬ (i < 0 ∨ n ≤ i.toNatClampNeg)) (hH : sm_HX G s H w I J) (hlo : ∀ x ∈ locs, G.2.2.1 ≤ x.base)
    (kk : ∀ (H' : Heap) (locs' : List Loc), sm_HX G s H' w (sm_up2 I q i.toNatClampNeg x) J → (∀ x ∈ locs', G.2.2.1 ≤ x.base) → W p l e R s m args below meth c H' locs' cells slots Q (F0 m (pc + 1) ls r)) : W p l e R s m args below meth c H locs cells slots Q (F0 m pc ls (.int x :: .int i :: .ref q :: r)) := by
  obtain ⟨hx, hb, -, -, -, hK, -⟩ := hC
  obtain ⟨hB, h1⟩ := sm_c10 (hH.2.2.1 q 10 n hw)
  refine W.iast hx hb h1 ((sm_kA hK).1 _ _) sm_none (by rw [arrV_size]; exact hin) rfl rfl hd fun H' e1 e2 e3 => ?_
  refine kk H' _ (hH.put hB e2 e3 rfl rfl (fun z hz => sm_up2_ne hz) (fun _ _ => rfl) (fun _ _ => rfl) (fun t' n' ht => ?_)) (sm_lo hlo hB)
  rw [hw] at ht
  cases ht
  rw [arrV_store, sm_updV (fun z => Value.int z)] at e1
  have h2 : G.2.2.1 ≤ q ∧ H'[q]? = some (arrV (G.2.1 10) n (fun j => .int (sm_up2 I q i.toNatClampNeg x q j))) := ⟨hB, by rw [sm_up2_eq]; exact e1⟩
  simpa [sm_cell] using h2
theorem sm_bastore_ok {i x : Int32} {q n : Nat} {r : List Value} (hC : sm_Cx G y p s m args meth c) (hd : decode (gm y).2.2.1 pc = .ok (.bastore, 1)) (hw : w.1 q = some (12, n)) (hin : ¬ (i < 0 ∨ n ≤ i.toNatClampNeg)) (h01 : x = 0 ∨ x = 1) (hH : sm_HX G s H w I J) (hlo : ∀ x ∈ locs, G.2.2.1 ≤ x.base)
    (kk : ∀ (H' : Heap) (locs' : List Loc), sm_HX G s H' w (sm_up2 I q i.toNatClampNeg x) J → (∀ x ∈ locs', G.2.2.1 ≤ x.base) → W p l e R s m args below meth c H' locs' cells slots Q (F0 m (pc + 1) ls r)) : W p l e R s m args below meth c H locs cells slots Q (F0 m pc ls (.int x :: .int i :: .ref q :: r)) := by
  obtain ⟨hx, hb, -, -, -, hK, -⟩ := hC
  obtain ⟨hB, h1⟩ := sm_c12 (hH.2.2.1 q 12 n hw)
  have hnar : narrow .boolean (.int x) = .int x := by rcases h01 with rfl | rfl <;> decide
  refine W.zast hx hb h1 ((sm_kA hK).2.2.1 _ _) sm_none (by rw [arrV_size]; exact hin) rfl rfl hd fun H' e1 e2 e3 => ?_
  refine kk H' _ (hH.put hB e2 e3 rfl rfl (fun z hz => sm_up2_ne hz) (fun _ _ => rfl) (fun _ _ => rfl) (fun t' n' ht => ?_)) (sm_lo hlo hB)
  rw [hw] at ht
  cases ht
  rw [hnar, arrV_store, sm_updV (fun z => Value.int z)] at e1
  have h2 : G.2.2.1 ≤ q ∧ H'[q]? = some (arrV (G.2.1 12) n (fun j => .int (sm_up2 I q i.toNatClampNeg x q j))) := ⟨hB, by rw [sm_up2_eq]; exact e1⟩
  simpa [sm_cell] using h2
theorem sm_lastore_ok {i : Int32} {x : Int64} {q n : Nat} {r : List Value} (hC : sm_Cx G y p s m args meth c) (hd : decode (gm y).2.2.1 pc = .ok (.lastore, 1)) (hw : w.1 q = some (11, n)) (hin : ¬ (i < 0 ∨ n ≤ i.toNatClampNeg)) (hH : sm_HX G s H w I J) (hlo : ∀ x ∈ locs, G.2.2.1 ≤ x.base)
    (kk : ∀ (H' : Heap) (locs' : List Loc), sm_HX G s H' w I (sm_up2 J q i.toNatClampNeg x) → (∀ x ∈ locs', G.2.2.1 ≤ x.base) → W p l e R s m args below meth c H' locs' cells slots Q (F0 m (pc + 1) ls r)) : W p l e R s m args below meth c H locs cells slots Q (F0 m pc ls (.long x :: .int i :: .ref q :: r)) := by
  obtain ⟨hx, hb, -, -, -, hK, -⟩ := hC
  obtain ⟨hB, h1⟩ := sm_c11 (hH.2.2.1 q 11 n hw)
  refine W.last hx hb h1 ((sm_kA hK).2.1 _ _) sm_none (by rw [arrV_size]; exact hin) rfl rfl hd fun H' e1 e2 e3 => ?_
  refine kk H' _ (hH.put hB e2 e3 rfl rfl (fun _ _ => rfl) (fun z hz => sm_up2_ne hz) (fun _ _ => rfl) (fun t' n' ht => ?_)) (sm_lo hlo hB)
  rw [hw] at ht
  cases ht
  rw [arrV_store, sm_updV (fun z => Value.long z)] at e1
  have h2 : G.2.2.1 ≤ q ∧ H'[q]? = some (arrV (G.2.1 11) n (fun j => .long (sm_up2 J q i.toNatClampNeg x q j))) := ⟨hB, by rw [sm_up2_eq]; exact e1⟩
  simpa [sm_cell] using h2
/-- a Sheet, or a String, into its array -/
theorem sm_aastore_ok {i : Int32} {q v n t : Nat} {r : List Value} (hC : sm_Cx G y p s m args meth c) (hd : decode (gm y).2.2.1 pc = .ok (.aastore, 1)) (hw : w.1 q = some (t, n)) (ht : (t = 14 ∧ ∃ nv, w.1 v = some (3, nv)) ∨ (t = 15 ∧ sm_isS G.2.2.2 v = true)) (hin : ¬ (i < 0 ∨ n ≤ i.toNatClampNeg)) (hH : sm_HX G s H w I J) (hlo : ∀ x ∈ locs, G.2.2.1 ≤ x.base)
    (kk : ∀ (H' : Heap) (locs' : List Loc), sm_HX G s H' (w.1, sm_up2 w.2.1 q i.toNatClampNeg (some v), w.2.2) I J → (∀ x ∈ locs', G.2.2.1 ≤ x.base) → W p l e R s m args below meth c H' locs' cells slots Q (F0 m (pc + 1) ls r)) : W p l e R s m args below meth c H locs cells slots Q (F0 m pc ls (.ref v :: .int i :: .ref q :: r)) := by
  obtain ⟨hx, hb, -, -, -, hK, -⟩ := hC
  have hlt : i.toNatClampNeg < n := Nat.not_le.mp fun z => hin (Or.inr z)
  have h0 : ¬ i < 0 := fun z => hin (Or.inl z)
  have hc := hH.2.2.1 q t n hw
  rcases ht with ⟨rfl, nv, hwv⟩ | ⟨rfl, hS⟩
  · obtain ⟨hB, h1⟩ := sm_c14 hc
    have hcv := hH.2.2.1 v 3 nv hwv
    unfold sm_cell at hcv
    rw [if_pos (by decide)] at hcv
    obtain ⟨-, r0, hr0, cellV, g1, g2, g3, -⟩ := hcv
    have hcls := (hK.1.1 3 _ (sm_gcl (by decide : 3 < 7))).2
    obtain ⟨kA, comp, k1, k2, k3, -⟩ := (hK.1.2 3 _ rfl).2
    have hcomp : comp = G.1.1 3 := Option.some.inj (k3.symm.trans hcls.1)
    subst hcomp
    obtain ⟨kC, hkC, -⟩ := hcls.2
    refine W.aast hx hb h1 (fun q h => by cases h) (fun h => by cases h) k1 k2 rfl hkC ⟨h0, by rw [arrV_size]; exact hlt⟩ g1 (fun q h => by rw [g3] at h; cases h) (by rw [g2]; exact hkC) (by rw [g2]; exact va_assign hcls) rfl rfl hd fun H' e1 e2 e3 => ?_
    refine kk H' _ (hH.put hB e2 e3 rfl rfl (fun _ _ => rfl) (fun _ _ => rfl) (fun z hz => sm_up2_ne hz) (fun t' n' ht => ?_)) (sm_lo hlo hB)
    rw [hw] at ht
    cases ht
    have e1 : H'[q]? = some ((arrV (G.2.1 14) n (fun j => va_rf (w.2.1 q j))).setSlot i.toNatClampNeg (va_rf (some v))) := e1
    rw [arrV_store, sm_updV va_rf] at e1
    have h2 : G.2.2.1 ≤ q ∧ H'[q]? = some (arrV (G.2.1 14) n (fun j => va_rf (sm_up2 w.2.1 q i.toNatClampNeg (some v) q j))) := ⟨hB, by rw [sm_up2_eq]; exact e1⟩
    simpa [sm_cell] using h2
  · obtain ⟨hB, h1⟩ := sm_c15 hc
    obtain ⟨⟨cellV, g1, g2, g3, -⟩, -⟩ := sm_isS_of hH hS
    obtain ⟨kA, comp, k1, k2, k3, -⟩ := (hK.1.2 4 _ rfl).2
    have hcomp : comp = cellV.cls := Option.some.inj (k3.symm.trans g3)
    subst hcomp
    obtain ⟨kC, hkC⟩ : ∃ kC, s.vm.classes[cellV.cls]? = some kC := Vm.classAt_of_findClass g3
    refine W.aast hx hb h1 (fun q h => by cases h) (fun h => by cases h) k1 k2 rfl hkC ⟨h0, by rw [arrV_size]; exact hlt⟩ g1 (fun q h => by rw [h] at g2; cases g2) hkC (va_asg _ _) rfl rfl hd fun H' e1 e2 e3 => ?_
    refine kk H' _ (hH.put hB e2 e3 rfl rfl (fun _ _ => rfl) (fun _ _ => rfl) (fun z hz => sm_up2_ne hz) (fun t' n' ht => ?_)) (sm_lo hlo hB)
    rw [hw] at ht
    cases ht
    have e1 : H'[q]? = some ((arrV (G.2.1 15) n (fun j => va_rf (w.2.1 q j))).setSlot i.toNatClampNeg (va_rf (some v))) := e1
    rw [arrV_store, sm_updV va_rf] at e1
    have h2 : G.2.2.1 ≤ q ∧ H'[q]? = some (arrV (G.2.1 15) n (fun j => va_rf (sm_up2 w.2.1 q i.toNatClampNeg (some v) q j))) := ⟨hB, by rw [sm_up2_eq]; exact e1⟩
    simpa [sm_cell] using h2
end SMA

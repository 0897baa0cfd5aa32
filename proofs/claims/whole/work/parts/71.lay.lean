/-! numbers: an int of the machine by an integer -/
def it (z : Int) : Int32 := Int32.ofInt z
theorem it_add (a b : Int) : it a + it b = it (a + b) := (Int32.ofInt_add a b).symm
theorem it_sub (a b : Int) : it a - it b = it (a - b) := (Int32.ofInt_sub a b).symm
theorem it_mul (a b : Int) : it a * it b = it (a * b) := (Int32.ofInt_mul a b).symm
theorem it_neg (a : Int) : - it a = it (- a) := (Int32.ofInt_neg a).symm
theorem it_lit (n : Nat) : (no_index (OfNat.ofNat n) : Int32) = it (OfNat.ofNat n : Int) := Int32.ofInt_eq_ofNat.symm
theorem it_of (x : Int32) : it x.toInt = x := Int32.ofInt_toInt x
theorem it_nat (n : Nat) : Int32.ofNat n = it n := Int32.ofInt_eq_ofNat.symm
theorem it_toInt {a : Int} (h1 : -2147483648 ≤ a) (h2 : a < 2147483648) : (it a).toInt = a := Int32.toInt_ofInt_of_le h1 h2
theorem it_ex (x : Int32) : ∃ z : Int, -2147483648 ≤ z ∧ z < 2147483648 ∧ x = it z := ⟨x.toInt, Int32.le_toInt x, Int32.toInt_lt x, (it_of x).symm⟩
theorem it_lt {a b : Int} (h1 : -2147483648 ≤ a) (h2 : a < 2147483648) (h3 : -2147483648 ≤ b) (h4 : b < 2147483648) : (it a < it b) ↔ a < b := by rw [Int32.lt_iff_toInt_lt, it_toInt h1 h2, it_toInt h3 h4]
theorem it_le {a b : Int} (h1 : -2147483648 ≤ a) (h2 : a < 2147483648) (h3 : -2147483648 ≤ b) (h4 : b < 2147483648) : (it a ≤ it b) ↔ a ≤ b := by rw [Int32.le_iff_toInt_le, it_toInt h1 h2, it_toInt h3 h4]
theorem it_eq {a b : Int} (h1 : -2147483648 ≤ a) (h2 : a < 2147483648) (h3 : -2147483648 ≤ b) (h4 : b < 2147483648) : (it a = it b) ↔ a = b := by rw [← Int32.toInt_inj, it_toInt h1 h2, it_toInt h3 h4]
theorem it_cl {a : Int} (h1 : -2147483648 ≤ a) (h2 : a < 2147483648) : (it a).toNatClampNeg = a.toNat := by rw [← Int32.toNat_toInt, it_toInt h1 h2]
theorem it_64 {a : Int} (h1 : -2147483648 ≤ a) (h2 : a < 2147483648) : (it a).toInt64 = Int64.ofInt a := by
  have h := Int64.ofInt_int32ToInt (it a)
  rw [it_toInt h1 h2] at h
  exact h.symm
theorem up1_s {α : Type} (f : Nat → α) (k : Nat) (x : α) : sm_up1 f k x k = x := if_pos rfl
theorem up1_n {α : Type} {f : Nat → α} {k j : Nat} {x : α} (h : ¬ j = k) : sm_up1 f k x j = f j := if_neg h
theorem up1_a {α : Type} (f : Nat → α) (k j : Nat) (x : α) : sm_up1 f k x j = if j = k then x else f j := rfl
theorem up2_r {α : Type} (f : Nat → Nat → α) (a k : Nat) (x : α) : sm_up2 f a k x a = sm_up1 (f a) k x := if_pos rfl
theorem up2_n {α : Type} {f : Nat → Nat → α} {a b k : Nat} {x : α} (h : ¬ b = a) : sm_up2 f a k x b = f b := if_neg h
theorem up2_a {α : Type} (f : Nat → Nat → α) (a k b : Nat) (x : α) : sm_up2 f a k x b = if b = a then sm_up1 (f a) k x else f b := rfl
theorem adc (B i j : Nat) : (B + i = B + j) = (i = j) := propext ⟨fun h => Nat.add_left_cancel h, fun h => h ▸ rfl⟩
theorem adc0 (B i : Nat) : (B = B + i) = (i = 0) := propext ⟨fun h => by omega, fun h => by omega⟩
theorem adc1 (B i : Nat) : (B + i = B) = (i = 0) := propext ⟨fun h => by omega, fun h => by omega⟩
def layT : List (Nat × Nat × Nat) := [(0, 5, 0), (1, 10, 240), (2, 2, 0), (3, 4, 0), (4, 10, 241), (5, 10, 241), (6, 10, 241), (7, 10, 20), (8, 1, 0), (9, 10, 200), (10, 10, 200), (11, 11, 200), (12, 12, 200), (13, 10, 20), (14, 10, 30), (15, 10, 26), (16, 10, 26), (17, 10, 128), (18, 11, 129), (19, 10, 64), (20, 10, 64), (21, 10, 64), (22, 1, 0), (23, 10, 200), (24, 10, 200), (25, 11, 200), (26, 12, 200), (27, 10, 20), (28, 10, 30), (29, 0, 0), (30, 10, 327), (31, 10, 327), (32, 10, 32), (33, 10, 1152), (34, 10, 1152), (35, 10, 128), (36, 14, 4), (37, 10, 8), (38, 3, 0), (39, 10, 40), (40, 3, 0), (41, 10, 40), (42, 3, 0), (43, 10, 40), (44, 3, 0), (45, 10, 40), (46, 6, 0), (47, 10, 8), (48, 10, 240), (49, 10, 6), (50, 10, 6), (51, 10, 6), (52, 10, 6), (53, 10, 6), (54, 10, 36), (55, 10, 36), (56, 10, 300), (57, 10, 300), (58, 10, 50), (59, 10, 200), (60, 10, 200), (61, 15, 20), (62, 10, 200), (63, 10, 12800), (64, 10, 200), (65, 10, 360), (66, 10, 360), (67, 10, 10800), (68, 10, 120), (69, 10, 4), (70, 12, 17), (71, 10, 4), (72, 10, 4), (73, 10, 160), (74, 10, 40)]
def layP : List (Nat × Nat × Nat) := [(0, 0, 1), (0, 2, 2), (0, 4, 29), (0, 6, 36), (0, 7, 37), (2, 0, 3), (2, 4, 15), (2, 5, 16), (2, 9, 17), (2, 10, 18), (2, 12, 19), (2, 13, 20), (2, 14, 21), (3, 0, 4), (3, 1, 5), (3, 2, 6), (3, 3, 7), (8, 0, 9), (8, 1, 10), (8, 2, 11), (8, 3, 12), (8, 4, 13), (8, 5, 14), (22, 0, 23), (22, 1, 24), (22, 2, 25), (22, 3, 26), (22, 4, 27), (22, 5, 28), (29, 1, 30), (29, 2, 31), (29, 3, 32), (29, 4, 33), (29, 5, 34), (29, 6, 35), (36, 0, 38), (36, 1, 40), (36, 2, 42), (36, 3, 44), (38, 0, 39), (40, 0, 41), (42, 0, 43), (44, 0, 45), (46, 0, 47), (46, 1, 48), (46, 6, 49), (46, 7, 50), (46, 8, 51), (46, 9, 52), (46, 10, 53), (46, 11, 54), (46, 12, 55), (46, 14, 56), (46, 15, 57), (46, 18, 58), (46, 19, 59), (46, 20, 60), (46, 21, 61), (46, 32, 62), (46, 33, 63), (46, 34, 64), (46, 36, 65), (46, 37, 66), (46, 38, 67), (46, 39, 68), (46, 40, 69), (46, 43, 70), (46, 44, 71), (46, 45, 72), (46, 46, 73), (46, 47, 74)]
/-- the cells of the two objects, from B on -/
def Lay (B : Nat) (w : aW) : Prop := (∀ e ∈ layT, w.1 (B + e.1) = some e.2) ∧ (∀ e ∈ layP, w.2.1 (B + e.1) e.2.1 = some (B + e.2.2))
section LAY
variable {B : Nat} {w : aW}
theorem yt0 (H : Lay B w) : w.1 (B + 0) = some (5, 0) := H.1 (0, 5, 0) (by decide)
theorem yt1 (H : Lay B w) : w.1 (B + 1) = some (10, 240) := H.1 (1, 10, 240) (by decide)
theorem yt2 (H : Lay B w) : w.1 (B + 2) = some (2, 0) := H.1 (2, 2, 0) (by decide)
theorem yt3 (H : Lay B w) : w.1 (B + 3) = some (4, 0) := H.1 (3, 4, 0) (by decide)
theorem yt4 (H : Lay B w) : w.1 (B + 4) = some (10, 241) := H.1 (4, 10, 241) (by decide)
theorem yt5 (H : Lay B w) : w.1 (B + 5) = some (10, 241) := H.1 (5, 10, 241) (by decide)
theorem yt6 (H : Lay B w) : w.1 (B + 6) = some (10, 241) := H.1 (6, 10, 241) (by decide)
theorem yt7 (H : Lay B w) : w.1 (B + 7) = some (10, 20) := H.1 (7, 10, 20) (by decide)
theorem yt8 (H : Lay B w) : w.1 (B + 8) = some (1, 0) := H.1 (8, 1, 0) (by decide)
theorem yt9 (H : Lay B w) : w.1 (B + 9) = some (10, 200) := H.1 (9, 10, 200) (by decide)
theorem yt10 (H : Lay B w) : w.1 (B + 10) = some (10, 200) := H.1 (10, 10, 200) (by decide)
theorem yt11 (H : Lay B w) : w.1 (B + 11) = some (11, 200) := H.1 (11, 11, 200) (by decide)
theorem yt12 (H : Lay B w) : w.1 (B + 12) = some (12, 200) := H.1 (12, 12, 200) (by decide)
theorem yt13 (H : Lay B w) : w.1 (B + 13) = some (10, 20) := H.1 (13, 10, 20) (by decide)
theorem yt14 (H : Lay B w) : w.1 (B + 14) = some (10, 30) := H.1 (14, 10, 30) (by decide)
theorem yt15 (H : Lay B w) : w.1 (B + 15) = some (10, 26) := H.1 (15, 10, 26) (by decide)
theorem yt16 (H : Lay B w) : w.1 (B + 16) = some (10, 26) := H.1 (16, 10, 26) (by decide)
theorem yt17 (H : Lay B w) : w.1 (B + 17) = some (10, 128) := H.1 (17, 10, 128) (by decide)
theorem yt18 (H : Lay B w) : w.1 (B + 18) = some (11, 129) := H.1 (18, 11, 129) (by decide)
theorem yt19 (H : Lay B w) : w.1 (B + 19) = some (10, 64) := H.1 (19, 10, 64) (by decide)
theorem yt20 (H : Lay B w) : w.1 (B + 20) = some (10, 64) := H.1 (20, 10, 64) (by decide)
theorem yt21 (H : Lay B w) : w.1 (B + 21) = some (10, 64) := H.1 (21, 10, 64) (by decide)
theorem yt22 (H : Lay B w) : w.1 (B + 22) = some (1, 0) := H.1 (22, 1, 0) (by decide)
theorem yt23 (H : Lay B w) : w.1 (B + 23) = some (10, 200) := H.1 (23, 10, 200) (by decide)
theorem yt24 (H : Lay B w) : w.1 (B + 24) = some (10, 200) := H.1 (24, 10, 200) (by decide)
theorem yt25 (H : Lay B w) : w.1 (B + 25) = some (11, 200) := H.1 (25, 11, 200) (by decide)
theorem yt26 (H : Lay B w) : w.1 (B + 26) = some (12, 200) := H.1 (26, 12, 200) (by decide)
theorem yt27 (H : Lay B w) : w.1 (B + 27) = some (10, 20) := H.1 (27, 10, 20) (by decide)
theorem yt28 (H : Lay B w) : w.1 (B + 28) = some (10, 30) := H.1 (28, 10, 30) (by decide)
theorem yt29 (H : Lay B w) : w.1 (B + 29) = some (0, 0) := H.1 (29, 0, 0) (by decide)
theorem yt30 (H : Lay B w) : w.1 (B + 30) = some (10, 327) := H.1 (30, 10, 327) (by decide)
theorem yt31 (H : Lay B w) : w.1 (B + 31) = some (10, 327) := H.1 (31, 10, 327) (by decide)
theorem yt32 (H : Lay B w) : w.1 (B + 32) = some (10, 32) := H.1 (32, 10, 32) (by decide)
theorem yt33 (H : Lay B w) : w.1 (B + 33) = some (10, 1152) := H.1 (33, 10, 1152) (by decide)
theorem yt34 (H : Lay B w) : w.1 (B + 34) = some (10, 1152) := H.1 (34, 10, 1152) (by decide)
theorem yt35 (H : Lay B w) : w.1 (B + 35) = some (10, 128) := H.1 (35, 10, 128) (by decide)
theorem yt36 (H : Lay B w) : w.1 (B + 36) = some (14, 4) := H.1 (36, 14, 4) (by decide)
theorem yt37 (H : Lay B w) : w.1 (B + 37) = some (10, 8) := H.1 (37, 10, 8) (by decide)
theorem yt38 (H : Lay B w) : w.1 (B + 38) = some (3, 0) := H.1 (38, 3, 0) (by decide)
theorem yt39 (H : Lay B w) : w.1 (B + 39) = some (10, 40) := H.1 (39, 10, 40) (by decide)
theorem yt40 (H : Lay B w) : w.1 (B + 40) = some (3, 0) := H.1 (40, 3, 0) (by decide)
theorem yt41 (H : Lay B w) : w.1 (B + 41) = some (10, 40) := H.1 (41, 10, 40) (by decide)
theorem yt42 (H : Lay B w) : w.1 (B + 42) = some (3, 0) := H.1 (42, 3, 0) (by decide)
theorem yt43 (H : Lay B w) : w.1 (B + 43) = some (10, 40) := H.1 (43, 10, 40) (by decide)
theorem yt44 (H : Lay B w) : w.1 (B + 44) = some (3, 0) := H.1 (44, 3, 0) (by decide)
theorem yt45 (H : Lay B w) : w.1 (B + 45) = some (10, 40) := H.1 (45, 10, 40) (by decide)
theorem yt46 (H : Lay B w) : w.1 (B + 46) = some (6, 0) := H.1 (46, 6, 0) (by decide)
theorem yt47 (H : Lay B w) : w.1 (B + 47) = some (10, 8) := H.1 (47, 10, 8) (by decide)
theorem yt48 (H : Lay B w) : w.1 (B + 48) = some (10, 240) := H.1 (48, 10, 240) (by decide)
theorem yt49 (H : Lay B w) : w.1 (B + 49) = some (10, 6) := H.1 (49, 10, 6) (by decide)
theorem yt50 (H : Lay B w) : w.1 (B + 50) = some (10, 6) := H.1 (50, 10, 6) (by decide)
theorem yt51 (H : Lay B w) : w.1 (B + 51) = some (10, 6) := H.1 (51, 10, 6) (by decide)
theorem yt52 (H : Lay B w) : w.1 (B + 52) = some (10, 6) := H.1 (52, 10, 6) (by decide)
theorem yt53 (H : Lay B w) : w.1 (B + 53) = some (10, 6) := H.1 (53, 10, 6) (by decide)
theorem yt54 (H : Lay B w) : w.1 (B + 54) = some (10, 36) := H.1 (54, 10, 36) (by decide)
theorem yt55 (H : Lay B w) : w.1 (B + 55) = some (10, 36) := H.1 (55, 10, 36) (by decide)
theorem yt56 (H : Lay B w) : w.1 (B + 56) = some (10, 300) := H.1 (56, 10, 300) (by decide)
theorem yt57 (H : Lay B w) : w.1 (B + 57) = some (10, 300) := H.1 (57, 10, 300) (by decide)
theorem yt58 (H : Lay B w) : w.1 (B + 58) = some (10, 50) := H.1 (58, 10, 50) (by decide)
theorem yt59 (H : Lay B w) : w.1 (B + 59) = some (10, 200) := H.1 (59, 10, 200) (by decide)
theorem yt60 (H : Lay B w) : w.1 (B + 60) = some (10, 200) := H.1 (60, 10, 200) (by decide)
theorem yt61 (H : Lay B w) : w.1 (B + 61) = some (15, 20) := H.1 (61, 15, 20) (by decide)
theorem yt62 (H : Lay B w) : w.1 (B + 62) = some (10, 200) := H.1 (62, 10, 200) (by decide)
theorem yt63 (H : Lay B w) : w.1 (B + 63) = some (10, 12800) := H.1 (63, 10, 12800) (by decide)
theorem yt64 (H : Lay B w) : w.1 (B + 64) = some (10, 200) := H.1 (64, 10, 200) (by decide)
theorem yt65 (H : Lay B w) : w.1 (B + 65) = some (10, 360) := H.1 (65, 10, 360) (by decide)
theorem yt66 (H : Lay B w) : w.1 (B + 66) = some (10, 360) := H.1 (66, 10, 360) (by decide)
theorem yt67 (H : Lay B w) : w.1 (B + 67) = some (10, 10800) := H.1 (67, 10, 10800) (by decide)
theorem yt68 (H : Lay B w) : w.1 (B + 68) = some (10, 120) := H.1 (68, 10, 120) (by decide)
theorem yt69 (H : Lay B w) : w.1 (B + 69) = some (10, 4) := H.1 (69, 10, 4) (by decide)
theorem yt70 (H : Lay B w) : w.1 (B + 70) = some (12, 17) := H.1 (70, 12, 17) (by decide)
theorem yt71 (H : Lay B w) : w.1 (B + 71) = some (10, 4) := H.1 (71, 10, 4) (by decide)
theorem yt72 (H : Lay B w) : w.1 (B + 72) = some (10, 4) := H.1 (72, 10, 4) (by decide)
theorem yt73 (H : Lay B w) : w.1 (B + 73) = some (10, 160) := H.1 (73, 10, 160) (by decide)
theorem yt74 (H : Lay B w) : w.1 (B + 74) = some (10, 40) := H.1 (74, 10, 40) (by decide)
theorem yt (H : Lay B w) : w.1 B = some (5, 0) := yt0 H
theorem yp0_0 (H : Lay B w) : w.2.1 (B + 0) 0 = some (B + 1) := H.2 (0, 0, 1) (by decide)
theorem yp0_2 (H : Lay B w) : w.2.1 (B + 0) 2 = some (B + 2) := H.2 (0, 2, 2) (by decide)
theorem yp0_4 (H : Lay B w) : w.2.1 (B + 0) 4 = some (B + 29) := H.2 (0, 4, 29) (by decide)
theorem yp0_6 (H : Lay B w) : w.2.1 (B + 0) 6 = some (B + 36) := H.2 (0, 6, 36) (by decide)
theorem yp0_7 (H : Lay B w) : w.2.1 (B + 0) 7 = some (B + 37) := H.2 (0, 7, 37) (by decide)
theorem yp2_0 (H : Lay B w) : w.2.1 (B + 2) 0 = some (B + 3) := H.2 (2, 0, 3) (by decide)
theorem yp2_4 (H : Lay B w) : w.2.1 (B + 2) 4 = some (B + 15) := H.2 (2, 4, 15) (by decide)
theorem yp2_5 (H : Lay B w) : w.2.1 (B + 2) 5 = some (B + 16) := H.2 (2, 5, 16) (by decide)
theorem yp2_9 (H : Lay B w) : w.2.1 (B + 2) 9 = some (B + 17) := H.2 (2, 9, 17) (by decide)
theorem yp2_10 (H : Lay B w) : w.2.1 (B + 2) 10 = some (B + 18) := H.2 (2, 10, 18) (by decide)
theorem yp2_12 (H : Lay B w) : w.2.1 (B + 2) 12 = some (B + 19) := H.2 (2, 12, 19) (by decide)
theorem yp2_13 (H : Lay B w) : w.2.1 (B + 2) 13 = some (B + 20) := H.2 (2, 13, 20) (by decide)
theorem yp2_14 (H : Lay B w) : w.2.1 (B + 2) 14 = some (B + 21) := H.2 (2, 14, 21) (by decide)
theorem yp3_0 (H : Lay B w) : w.2.1 (B + 3) 0 = some (B + 4) := H.2 (3, 0, 4) (by decide)
theorem yp3_1 (H : Lay B w) : w.2.1 (B + 3) 1 = some (B + 5) := H.2 (3, 1, 5) (by decide)
theorem yp3_2 (H : Lay B w) : w.2.1 (B + 3) 2 = some (B + 6) := H.2 (3, 2, 6) (by decide)
theorem yp3_3 (H : Lay B w) : w.2.1 (B + 3) 3 = some (B + 7) := H.2 (3, 3, 7) (by decide)
theorem yp8_0 (H : Lay B w) : w.2.1 (B + 8) 0 = some (B + 9) := H.2 (8, 0, 9) (by decide)
theorem yp8_1 (H : Lay B w) : w.2.1 (B + 8) 1 = some (B + 10) := H.2 (8, 1, 10) (by decide)
theorem yp8_2 (H : Lay B w) : w.2.1 (B + 8) 2 = some (B + 11) := H.2 (8, 2, 11) (by decide)
theorem yp8_3 (H : Lay B w) : w.2.1 (B + 8) 3 = some (B + 12) := H.2 (8, 3, 12) (by decide)
theorem yp8_4 (H : Lay B w) : w.2.1 (B + 8) 4 = some (B + 13) := H.2 (8, 4, 13) (by decide)
theorem yp8_5 (H : Lay B w) : w.2.1 (B + 8) 5 = some (B + 14) := H.2 (8, 5, 14) (by decide)
theorem yp22_0 (H : Lay B w) : w.2.1 (B + 22) 0 = some (B + 23) := H.2 (22, 0, 23) (by decide)
theorem yp22_1 (H : Lay B w) : w.2.1 (B + 22) 1 = some (B + 24) := H.2 (22, 1, 24) (by decide)
theorem yp22_2 (H : Lay B w) : w.2.1 (B + 22) 2 = some (B + 25) := H.2 (22, 2, 25) (by decide)
theorem yp22_3 (H : Lay B w) : w.2.1 (B + 22) 3 = some (B + 26) := H.2 (22, 3, 26) (by decide)
theorem yp22_4 (H : Lay B w) : w.2.1 (B + 22) 4 = some (B + 27) := H.2 (22, 4, 27) (by decide)
theorem yp22_5 (H : Lay B w) : w.2.1 (B + 22) 5 = some (B + 28) := H.2 (22, 5, 28) (by decide)
theorem yp29_1 (H : Lay B w) : w.2.1 (B + 29) 1 = some (B + 30) := H.2 (29, 1, 30) (by decide)
theorem yp29_2 (H : Lay B w) : w.2.1 (B + 29) 2 = some (B + 31) := H.2 (29, 2, 31) (by decide)
theorem yp29_3 (H : Lay B w) : w.2.1 (B + 29) 3 = some (B + 32) := H.2 (29, 3, 32) (by decide)
theorem yp29_4 (H : Lay B w) : w.2.1 (B + 29) 4 = some (B + 33) := H.2 (29, 4, 33) (by decide)
theorem yp29_5 (H : Lay B w) : w.2.1 (B + 29) 5 = some (B + 34) := H.2 (29, 5, 34) (by decide)
theorem yp29_6 (H : Lay B w) : w.2.1 (B + 29) 6 = some (B + 35) := H.2 (29, 6, 35) (by decide)
theorem yp36_0 (H : Lay B w) : w.2.1 (B + 36) 0 = some (B + 38) := H.2 (36, 0, 38) (by decide)
theorem yp36_1 (H : Lay B w) : w.2.1 (B + 36) 1 = some (B + 40) := H.2 (36, 1, 40) (by decide)
theorem yp36_2 (H : Lay B w) : w.2.1 (B + 36) 2 = some (B + 42) := H.2 (36, 2, 42) (by decide)
theorem yp36_3 (H : Lay B w) : w.2.1 (B + 36) 3 = some (B + 44) := H.2 (36, 3, 44) (by decide)
theorem yp38_0 (H : Lay B w) : w.2.1 (B + 38) 0 = some (B + 39) := H.2 (38, 0, 39) (by decide)
theorem yp40_0 (H : Lay B w) : w.2.1 (B + 40) 0 = some (B + 41) := H.2 (40, 0, 41) (by decide)
theorem yp42_0 (H : Lay B w) : w.2.1 (B + 42) 0 = some (B + 43) := H.2 (42, 0, 43) (by decide)
theorem yp44_0 (H : Lay B w) : w.2.1 (B + 44) 0 = some (B + 45) := H.2 (44, 0, 45) (by decide)
theorem yp46_0 (H : Lay B w) : w.2.1 (B + 46) 0 = some (B + 47) := H.2 (46, 0, 47) (by decide)
theorem yp46_1 (H : Lay B w) : w.2.1 (B + 46) 1 = some (B + 48) := H.2 (46, 1, 48) (by decide)
theorem yp46_6 (H : Lay B w) : w.2.1 (B + 46) 6 = some (B + 49) := H.2 (46, 6, 49) (by decide)
theorem yp46_7 (H : Lay B w) : w.2.1 (B + 46) 7 = some (B + 50) := H.2 (46, 7, 50) (by decide)
theorem yp46_8 (H : Lay B w) : w.2.1 (B + 46) 8 = some (B + 51) := H.2 (46, 8, 51) (by decide)
theorem yp46_9 (H : Lay B w) : w.2.1 (B + 46) 9 = some (B + 52) := H.2 (46, 9, 52) (by decide)
theorem yp46_10 (H : Lay B w) : w.2.1 (B + 46) 10 = some (B + 53) := H.2 (46, 10, 53) (by decide)
theorem yp46_11 (H : Lay B w) : w.2.1 (B + 46) 11 = some (B + 54) := H.2 (46, 11, 54) (by decide)
theorem yp46_12 (H : Lay B w) : w.2.1 (B + 46) 12 = some (B + 55) := H.2 (46, 12, 55) (by decide)
theorem yp46_14 (H : Lay B w) : w.2.1 (B + 46) 14 = some (B + 56) := H.2 (46, 14, 56) (by decide)
theorem yp46_15 (H : Lay B w) : w.2.1 (B + 46) 15 = some (B + 57) := H.2 (46, 15, 57) (by decide)
theorem yp46_18 (H : Lay B w) : w.2.1 (B + 46) 18 = some (B + 58) := H.2 (46, 18, 58) (by decide)
theorem yp46_19 (H : Lay B w) : w.2.1 (B + 46) 19 = some (B + 59) := H.2 (46, 19, 59) (by decide)
theorem yp46_20 (H : Lay B w) : w.2.1 (B + 46) 20 = some (B + 60) := H.2 (46, 20, 60) (by decide)
theorem yp46_21 (H : Lay B w) : w.2.1 (B + 46) 21 = some (B + 61) := H.2 (46, 21, 61) (by decide)
theorem yp46_32 (H : Lay B w) : w.2.1 (B + 46) 32 = some (B + 62) := H.2 (46, 32, 62) (by decide)
theorem yp46_33 (H : Lay B w) : w.2.1 (B + 46) 33 = some (B + 63) := H.2 (46, 33, 63) (by decide)
theorem yp46_34 (H : Lay B w) : w.2.1 (B + 46) 34 = some (B + 64) := H.2 (46, 34, 64) (by decide)
theorem yp46_36 (H : Lay B w) : w.2.1 (B + 46) 36 = some (B + 65) := H.2 (46, 36, 65) (by decide)
theorem yp46_37 (H : Lay B w) : w.2.1 (B + 46) 37 = some (B + 66) := H.2 (46, 37, 66) (by decide)
theorem yp46_38 (H : Lay B w) : w.2.1 (B + 46) 38 = some (B + 67) := H.2 (46, 38, 67) (by decide)
theorem yp46_39 (H : Lay B w) : w.2.1 (B + 46) 39 = some (B + 68) := H.2 (46, 39, 68) (by decide)
theorem yp46_40 (H : Lay B w) : w.2.1 (B + 46) 40 = some (B + 69) := H.2 (46, 40, 69) (by decide)
theorem yp46_43 (H : Lay B w) : w.2.1 (B + 46) 43 = some (B + 70) := H.2 (46, 43, 70) (by decide)
theorem yp46_44 (H : Lay B w) : w.2.1 (B + 46) 44 = some (B + 71) := H.2 (46, 44, 71) (by decide)
theorem yp46_45 (H : Lay B w) : w.2.1 (B + 46) 45 = some (B + 72) := H.2 (46, 45, 72) (by decide)
theorem yp46_46 (H : Lay B w) : w.2.1 (B + 46) 46 = some (B + 73) := H.2 (46, 46, 73) (by decide)
theorem yp46_47 (H : Lay B w) : w.2.1 (B + 46) 47 = some (B + 74) := H.2 (46, 47, 74) (by decide)
theorem yp_0 (H : Lay B w) : w.2.1 B 0 = some (B + 1) := yp0_0 H
theorem yp_2 (H : Lay B w) : w.2.1 B 2 = some (B + 2) := yp0_2 H
theorem yp_4 (H : Lay B w) : w.2.1 B 4 = some (B + 29) := yp0_4 H
theorem yp_6 (H : Lay B w) : w.2.1 B 6 = some (B + 36) := yp0_6 H
theorem yp_7 (H : Lay B w) : w.2.1 B 7 = some (B + 37) := yp0_7 H
end LAY

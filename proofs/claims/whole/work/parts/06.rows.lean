/-! every row of the code tables is what the bytes decode to, and its links are the words' -/
def sm_e5 (o k a b e : Nat) : Bool := gfk.any (fun q => Nat.beq q.1 o && (Nat.beq q.2.1 k && (Nat.beq q.2.2.1 a && (Nat.beq q.2.2.2.1 b && Nat.beq q.2.2.2.2 e))))
def sm_e4 (o k a b : Nat) : Bool := gmk.any (fun q => Nat.beq q.1 o && (Nat.beq q.2.1 k && (Nat.beq q.2.2.1 a && Nat.beq q.2.2.2 b)))
theorem sm_e5_in {o k a b e : Nat} (h : sm_e5 o k a b e = true) : (o, k, a, b, e) ∈ gfk := by
  obtain ⟨q, h1, h2⟩ := List.any_eq_true.mp h
  obtain ⟨q1, q2, q3, q4, q5⟩ := q
  simp only [Bool.and_eq_true, Nat.beq_eq] at h2
  obtain ⟨rfl, rfl, rfl, rfl, rfl⟩ := h2
  exact h1
theorem sm_e4_in {o k a b : Nat} (h : sm_e4 o k a b = true) : (o, k, a, b) ∈ gmk := by
  obtain ⟨q, h1, h2⟩ := List.any_eq_true.mp h
  obtain ⟨q1, q2, q3, q4⟩ := q
  simp only [Bool.and_eq_true, Nat.beq_eq] at h2
  obtain ⟨rfl, rfl, rfl, rfl⟩ := h2
  exact h1
def sm_okI (o y pc : Nat) (i : Instr) (len a b c e f : Nat) (z : Int32) (zl : Int64) : Bool := match i with
  | .iconst n => decide (len = 1 ∧ Int32.ofInt n = z)
  | .bipush n => decide (len = 2 ∧ (Int8.ofInt n).toInt32 = z)
  | .sipush n => decide (len = 3 ∧ (Int16.ofInt n).toInt32 = z)
  | .lconst n => decide (len = 1 ∧ Int64.ofNat (n : Nat) = zl)
  | .ldc k => decide (len = 2 ∧ b = 1 ∧ (gstr[a]?).map (fun q => (q.1, q.2.1)) = some (o, k))
  | .ldc2_w k => decide (len = 3 ∧ (o, k, zl) ∈ glng)
  | .iload_n k => decide (len = 1 ∧ (k : Nat) = a)
  | .iload k => decide (len = 2 ∧ k = a)
  | .lload_n k => decide (len = 1 ∧ (k : Nat) = a)
  | .lload k => decide (len = 2 ∧ k = a)
  | .aload_n k => decide (len = 1 ∧ (k : Nat) = a)
  | .aload k => decide (len = 2 ∧ k = a)
  | .istore_n k => decide (len = 1 ∧ (k : Nat) = a)
  | .istore k => decide (len = 2 ∧ k = a)
  | .lstore_n k => decide (len = 1 ∧ (k : Nat) = a)
  | .lstore k => decide (len = 2 ∧ k = a)
  | .astore_n k => decide (len = 1 ∧ (k : Nat) = a)
  | .astore k => decide (len = 2 ∧ k = a)
  | .iinc k n => decide (len = 3 ∧ k = a ∧ Int32.ofInt n = z)
  | .aaload => decide (len = 1)
  | .aastore => decide (len = 1)
  | .arraylength => decide (len = 1)
  | .baload => decide (len = 1)
  | .bastore => decide (len = 1)
  | .dup => decide (len = 1)
  | .dup2 => decide (len = 1)
  | .i2b => decide (len = 1)
  | .i2c => decide (len = 1)
  | .i2l => decide (len = 1)
  | .iadd => decide (len = 1)
  | .iaload => decide (len = 1)
  | .iand => decide (len = 1)
  | .iastore => decide (len = 1)
  | .idiv => decide (len = 1)
  | .imul => decide (len = 1)
  | .ineg => decide (len = 1)
  | .ior => decide (len = 1)
  | .ishl => decide (len = 1)
  | .ishr => decide (len = 1)
  | .isub => decide (len = 1)
  | .l2i => decide (len = 1)
  | .ladd => decide (len = 1)
  | .laload => decide (len = 1)
  | .land => decide (len = 1)
  | .lastore => decide (len = 1)
  | .lcmp => decide (len = 1)
  | .lmul => decide (len = 1)
  | .lor => decide (len = 1)
  | .lshl => decide (len = 1)
  | .lshr => decide (len = 1)
  | .lsub => decide (len = 1)
  | .lushr => decide (len = 1)
  | .pop => decide (len = 1)
  | .ifCond _ off => decide (len = 3 ∧ (pc : Int) + off = (a : Int))
  | .if_icmp _ off => decide (len = 3 ∧ (pc : Int) + off = (a : Int))
  | .goto off => decide (len = 3 ∧ (pc : Int) + off = (a : Int))
  | .tableswitch _ _ _ _ => true
  | .lookupswitch _ _ => true
  | .getfield k => decide (len = 3 ∧ sm_e5 o k a b e = true ∧ gft a b = c ∧ a < 8 ∧ (c = 0 ∨ c = 1 ∨ c = 2) ∧ (a = 7 → e = 0))
  | .putfield k => decide (len = 3 ∧ sm_e5 o k a b e = true ∧ gft a b = c ∧ a < 7 ∧ ((gF a b).2.2.2 = false ∨ e = 0 ∧ (gm y).2.1.name = "<init>" ∧ (gF a b).2.2.2 = true ∧ (gF a b).1 = gcn o))
  | .getstatic k => decide (len = 3 ∧ (o, k, a) ∈ gsk)
  | .new k => decide (len = 3 ∧ (o, k, a) ∈ gck ∧ a < 7 ∧ (gcl[a]?).map (fun q => q.2.2) = some b)
  | .newarray t => decide (len = 2 ∧ (t = .int ∧ a = 10 ∨ t = .long ∧ a = 11 ∨ t = .boolean ∧ a = 12))
  | .anewarray k => decide (len = 3 ∧ (o, k, a) ∈ gck ∧ (a = 14 ∨ a = 15))
  | .return_ => decide (len = 1 ∧ (gm y).2.2.2.2.1 = none)
  | .ireturn => decide (len = 1 ∧ (c = 1 ∧ (gm y).2.2.2.2.1 = some .int ∨ c = 2 ∧ (gm y).2.2.2.2.1 = some .boolean ∨ c = 5 ∧ (gm y).2.2.2.2.1 = some .char ∨ c = 6 ∧ (gm y).2.2.2.2.1 = some .byte))
  | .lreturn => decide (len = 1 ∧ (gm y).2.2.2.2.1 = some .long)
  | .areturn => decide (len = 1 ∧ (gm y).2.2.2.2.1 = some (.object "ProvedMachine$Program"))
  | .invokevirtual k => decide (len = 3 ∧ sm_e4 o k a b = true ∧ b = 0 ∧ c = (gm a).2.2.2.2.2.1 ∧ e = (gm a).2.2.2.1 ∧ f = (gm a).1)
  | .invokestatic k => decide (len = 3 ∧ sm_e4 o k a b = true ∧ (b = 4 ∨ b = 6 ∨ b = 7 ∨ b = 1 ∧ c = (gm a).2.2.2.2.2.1 ∧ e = (gm a).2.2.2.1))
  | .invokespecial k => decide (len = 3 ∧ sm_e4 o k a b = true ∧ (b = 3 ∨ (b = 2 ∨ b = 5) ∧ c = (gm a).2.2.2.2.2.1 ∧ e = (gm a).2.2.2.1))
  | _ => false
def sm_okb (y pc : Nat) (r : aRow) : Bool := match r with
  | (i, len, a, b, c, e, f, z, zl) => decide (decode (gm y).2.2.1 pc = .ok (i, len)) && sm_okI (gm y).1 y pc i len a b c e f z zl
/-- a link of a method that is called: it is none of the law's, and of the kind that the call takes -/
def sm_mkb (q : Nat × Nat × Nat × Nat) : Bool := if q.2.2.2 = 3 ∨ q.2.2.2 = 4 ∨ q.2.2.2 = 6 ∨ q.2.2.2 = 7 then true else decide (0 < q.2.2.1 ∧ q.2.2.1 < gml.length) && (if q.2.2.2 = 0 then gmlS.getD q.2.2.1 true == false else if q.2.2.2 = 1 then gmlS.getD q.2.2.1 false == true else gmlS.getD q.2.2.1 true == false && decide ((gm q.2.2.1).2.1.name = "<init>") && decide ((gm q.2.2.1).2.2.2.2.1 = none))
theorem sm_mk_all : gmk.all sm_mkb = true := by decide +kernel
def gselP : List Nat := [0, 0, 400, 1201, 409, 1214, 713, 1380, 717, 1384, 730, 1392, 737, 1396, 745, 1402, 750, 1406, 760, 1410, 902, 1490, 911, 1495, 925, 1499, 929, 1503, 935, 1507, 947, 1511, 951, 1515, 955, 1519, 963, 1523, 971, 1527, 997, 1538, 1006, 1542, 1015, 1546, 1020, 1550, 1024, 1554, 0, 0, 0, 0, 0, 0, 0, 0, 0, 152, 162, 0, 156, 166, 0, 0, 0, 0, 0, 0, 0, 0, 0, 55, 413, 699, 703, 709, 417, 504, 0, 512, 5, 6, 12, 28, 575, 8, 528, 689, 0, 0, 1, 0, 4, 447, 2, 3, 451, 152, 0, 0, 0, 0, 0, 0, 520, 541, 545, 7, 9, 567, 10, 512, 533, 537, 549, 0, 533, 11, 583, 13, 14, 16, 25, 26, 27, 537, 15, 609, 603, 0, 613, 17, 20, 21, 18, 0, 19, 0, 22, 24, 655, 23, 549, 575, 29, 699, 56, 60, 64, 90, 57, 58, 59, 447, 152, 162, 61, 62, 63, 65, 66, 67, 68, 70, 83, 69, 71, 72, 88, 73, 82, 89, 74, 75, 76, 77, 78, 79, 80, 81, 84, 85, 86, 87, 0, 91, 92, 93, 94, 613, 722, 726, 95, 0, 741, 575, 754, 0, 575, 764, 768, 897, 764, 30, 777, 726, 31, 33, 34, 722, 38, 32, 0, 784, 0, 0, 35, 36, 819, 37, 828, 655, 39, 42, 44, 45, 46, 43, 48, 49, 41, 50, 51, 52, 53, 40, 47, 0, 0, 96, 111, 97, 98, 101, 102, 104, 99, 100, 0, 0, 103, 105, 106, 107, 108, 110, 109, 0, 0, 907, 0, 784, 916, 777, 921, 819, 828, 939, 943, 959, 967, 0, 978, 54, 993, 0, 989, 0, 112, 1001, 0, 1010, 989, 0]
def sm_slw (q : Nat × Nat × Nat × Nat) : Cond := .selects (gm q.2.2.1).2.1.cls (gm q.2.2.1).2.1 (gm q.2.2.1).2.1
def sm_slf (q : (Nat × Nat × Nat × Nat) × Nat) : Bool := decide (¬ q.1.2.2.2 = 0) || decide (lw_tbl[q.2]? = some (sm_slw q.1))
theorem sm_sel_all : (gmk.zip gselP).all sm_slf = true := by decide +kernel
theorem sm_sel_in : ∀ q ∈ gmk, q.2.2.2 = 0 → sm_slw q ∈ lw_tbl := fun q hq h0 => by
  obtain ⟨p, hp⟩ := sm_zip (f := sm_slf) (by decide +kernel) sm_sel_all q hq
  simp only [sm_slf, Bool.or_eq_true, decide_eq_true_eq] at hp
  exact List.mem_of_getElem? (hp.resolve_left (fun h => h h0))
theorem sm_aa {α : Type} {a b : List α} {f : α → Bool} (h1 : a.all f = true) (h2 : b.all f = true) : (a ++ b).all f = true := by rw [List.all_append, h1, h2]; rfl

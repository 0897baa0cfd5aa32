/-! every row of the code tables is what the bytes decode to, and its links are the words' -/
def sm_e5 (o k a b e : Nat) : Bool := gfk.any (fun q => Nat.beq q.1 o && (Nat.beq q.2.1 k && (Nat.beq q.2.2.1 a && (Nat.beq q.2.2.2.1 b && Nat.beq q.2.2.2.2 e))))
def sm_e4 (o k a b : Nat) : Bool := gmk.any (fun q => Nat.beq q.1 o && (Nat.beq q.2.1 k && (Nat.beq q.2.2.1 a && Nat.beq q.2.2.2 b)))
theorem sm_e5_in {o k a b e : Nat} (h : sm_e5 o k a b e = true) : (o, k, a, b, e) ∈ gfk := by
  obtain ⟨q, h1, h2⟩ := List.any_eq_true.mp h
  obtain ⟨q1, q2, q3, q4, q5⟩ := q
  simp only [Bool.and_eq_true, Nat.beq_eq] at h2
  obtain ⟨rfl, rfl, rfl, rfl, rfl⟩ := h2
  exact h1
theorem sm_e4_in {o k a b : Nat} (h : sm_e4 o k a b = true) : (o, k, a, b) ∈ gmk := by
  obtain ⟨q, h1, h2⟩ := List.any_eq_true.mp h
  obtain ⟨q1, q2, q3, q4⟩ := q
  simp only [Bool.and_eq_true, Nat.beq_eq] at h2
  obtain ⟨rfl, rfl, rfl, rfl⟩ := h2
  exact h1
def sm_okI (o y pc : Nat) (i : Instr) (len a b c e f : Nat) (z : Int32) (zl : Int64) : Bool := match i with
  | .iconst n => decide (len = 1 ∧ Int32.ofInt n = z)
  | .bipush n => decide (len = 2 ∧ (Int8.ofInt n).toInt32 = z)
  | .sipush n => decide (len = 3 ∧ (Int16.ofInt n).toInt32 = z)
  | .lconst n => decide (len = 1 ∧ Int64.ofNat (n : Nat) = zl)
  | .ldc k => decide (len = 2 ∧ b = 1 ∧ (gstr[a]?).map (fun q => (q.1, q.2.1)) = some (o, k))
  | .ldc2_w k => decide (len = 3 ∧ (o, k, zl) ∈ glng)
  | .iload_n k => decide (len = 1 ∧ (k : Nat) = a)
  | .iload k => decide (len = 2 ∧ k = a)
  | .lload_n k => decide (len = 1 ∧ (k : Nat) = a)
  | .lload k => decide (len = 2 ∧ k = a)
  | .aload_n k => decide (len = 1 ∧ (k : Nat) = a)
  | .aload k => decide (len = 2 ∧ k = a)
  | .istore_n k => decide (len = 1 ∧ (k : Nat) = a)
  | .istore k => decide (len = 2 ∧ k = a)
  | .lstore_n k => decide (len = 1 ∧ (k : Nat) = a)
  | .lstore k => decide (len = 2 ∧ k = a)
  | .astore_n k => decide (len = 1 ∧ (k : Nat) = a)
  | .astore k => decide (len = 2 ∧ k = a)
  | .iinc k n => decide (len = 3 ∧ k = a ∧ Int32.ofInt n = z)
  | .aaload => decide (len = 1)
  | .aastore => decide (len = 1)
  | .arraylength => decide (len = 1)
  | .baload => decide (len = 1)
  | .bastore => decide (len = 1)
  | .dup => decide (len = 1)
  | .dup2 => decide (len = 1)
  | .i2b => decide (len = 1)
  | .i2c => decide (len = 1)
  | .i2l => decide (len = 1)
  | .iadd => decide (len = 1)
  | .iaload => decide (len = 1)
  | .iand => decide (len = 1)
  | .iastore => decide (len = 1)
  | .idiv => decide (len = 1)
  | .imul => decide (len = 1)
  | .ineg => decide (len = 1)
  | .ior => decide (len = 1)
  | .ishl => decide (len = 1)
  | .ishr => decide (len = 1)
  | .isub => decide (len = 1)
  | .l2i => decide (len = 1)
  | .ladd => decide (len = 1)
  | .laload => decide (len = 1)
  | .land => decide (len = 1)
  | .lastore => decide (len = 1)
  | .lcmp => decide (len = 1)
  | .lmul => decide (len = 1)
  | .lor => decide (len = 1)
  | .lshl => decide (len = 1)
  | .lshr => decide (len = 1)
  | .lsub => decide (len = 1)
  | .lushr => decide (len = 1)
  | .pop => decide (len = 1)
  | .ifCond _ off => decide (len = 3 ∧ (pc : Int) + off = (a : Int))
  | .if_icmp _ off => decide (len = 3 ∧ (pc : Int) + off = (a : Int))
  | .goto off => decide (len = 3 ∧ (pc : Int) + off = (a : Int))
  | .tableswitch _ _ _ _ => true
  | .lookupswitch _ _ => true
  | .getfield k => decide (len = 3 ∧ sm_e5 o k a b e = true ∧ gft a b = c ∧ a < 8 ∧ (c = 0 ∨ c = 1 ∨ c = 2) ∧ (a = 7 → e = 0))
  | .putfield k => decide (len = 3 ∧ sm_e5 o k a b e = true ∧ gft a b = c ∧ a < 7 ∧ ((gF a b).2.2.2 = false ∨ e = 0 ∧ (gm y).2.1.name = "<init>" ∧ (gF a b).2.2.2 = true ∧ (gF a b).1 = gcn o))
  | .getstatic k => decide (len = 3 ∧ (o, k, a) ∈ gsk)
  | .new k => decide (len = 3 ∧ (o, k, a) ∈ gck ∧ a < 7 ∧ (gcl[a]?).map (fun q => q.2.2) = some b)
  | .newarray t => decide (len = 2 ∧ (t = .int ∧ a = 10 ∨ t = .long ∧ a = 11 ∨ t = .boolean ∧ a = 12))
  | .anewarray k => decide (len = 3 ∧ (o, k, a) ∈ gck ∧ (a = 14 ∨ a = 15))
  | .return_ => decide (len = 1 ∧ (gm y).2.2.2.2.1 = none)
  | .ireturn => decide (len = 1 ∧ (c = 1 ∧ (gm y).2.2.2.2.1 = some .int ∨ c = 2 ∧ (gm y).2.2.2.2.1 = some .boolean ∨ c = 5 ∧ (gm y).2.2.2.2.1 = some .char ∨ c = 6 ∧ (gm y).2.2.2.2.1 = some .byte))
  | .lreturn => decide (len = 1 ∧ (gm y).2.2.2.2.1 = some .long)
  | .areturn => decide (len = 1 ∧ (gm y).2.2.2.2.1 = some (.object "ProvedMachine$Program"))
  | .invokevirtual k => decide (len = 3 ∧ sm_e4 o k a b = true ∧ b = 0 ∧ c = (gm a).2.2.2.2.2.1 ∧ e = (gm a).2.2.2.1 ∧ f = (gm a).1)
  | .invokestatic k => decide (len = 3 ∧ sm_e4 o k a b = true ∧ (b = 4 ∨ b = 6 ∨ b = 7 ∨ b = 1 ∧ c = (gm a).2.2.2.2.2.1 ∧ e = (gm a).2.2.2.1))
  | .invokespecial k => decide (len = 3 ∧ sm_e4 o k a b = true ∧ (b = 3 ∨ (b = 2 ∨ b = 5) ∧ c = (gm a).2.2.2.2.2.1 ∧ e = (gm a).2.2.2.1))
  | _ => false
def sm_okb (y pc : Nat) (r : aRow) : Bool := match r with
  | (i, len, a, b, c, e, f, z, zl) => decide (decode (gm y).2.2.1 pc = .ok (i, len)) && sm_okI (gm y).1 y pc i len a b c e f z zl
/-- a link of a method that is called: it is none of the law's, and of the kind that the call takes -/
def sm_mkb (q : Nat × Nat × Nat × Nat) : Bool := if q.2.2.2 = 3 ∨ q.2.2.2 = 4 ∨ q.2.2.2 = 6 ∨ q.2.2.2 = 7 then true else decide (0 < q.2.2.1 ∧ q.2.2.1 < gml.length) && (if q.2.2.2 = 0 then gmlS.getD q.2.2.1 true == false else if q.2.2.2 = 1 then gmlS.getD q.2.2.1 false == true else gmlS.getD q.2.2.1 true == false && decide ((gm q.2.2.1).2.1.name = "<init>") && decide ((gm q.2.2.1).2.2.2.2.1 = none))
theorem sm_mk_all : gmk.all sm_mkb = true := by decide +kernel
def gselP : List Nat := [0, 0, 402, 1203, 411, 1216, 715, 1382, 719, 1386, 732, 1394, 739, 1398, 747, 1404, 752, 1408, 762, 1412, 904, 1492, 913, 1497, 927, 1501, 931, 1505, 937, 1509, 949, 1513, 953, 1517, 957, 1521, 965, 1525, 973, 1529, 999, 1540, 1008, 1544, 1017, 1548, 1022, 1552, 1026, 1556, 0, 0, 0, 0, 0, 0, 0, 0, 0, 152, 162, 0, 156, 166, 0, 0, 0, 0, 0, 0, 0, 0, 0, 0, 55, 415, 701, 705, 711, 419, 506, 0, 514, 5, 6, 12, 28, 577, 8, 530, 691, 0, 0, 1, 0, 4, 449, 2, 3, 453, 152, 0, 0, 0, 0, 0, 0, 522, 543, 547, 7, 9, 569, 10, 514, 535, 539, 551, 0, 535, 11, 585, 13, 14, 16, 25, 26, 27, 539, 15, 611, 605, 0, 615, 17, 20, 21, 18, 0, 19, 0, 22, 24, 657, 23, 551, 577, 29, 701, 56, 60, 64, 90, 57, 58, 59, 449, 152, 162, 61, 62, 63, 65, 66, 67, 68, 70, 83, 69, 71, 72, 88, 73, 82, 89, 74, 75, 76, 77, 78, 79, 80, 81, 84, 85, 86, 87, 0, 91, 92, 93, 94, 615, 724, 728, 95, 0, 743, 577, 756, 0, 577, 766, 770, 899, 766, 30, 779, 728, 31, 33, 34, 724, 38, 32, 0, 786, 0, 0, 35, 36, 821, 37, 830, 657, 39, 42, 44, 45, 46, 43, 48, 49, 41, 50, 51, 52, 53, 40, 47, 0, 0, 96, 111, 97, 98, 101, 102, 104, 99, 100, 0, 0, 103, 105, 106, 107, 108, 110, 109, 0, 0, 909, 0, 786, 918, 779, 923, 821, 830, 941, 945, 961, 969, 0, 980, 54, 995, 0, 991, 0, 112, 1003, 0, 1012, 991, 0]
def sm_slw (q : Nat × Nat × Nat × Nat) : Cond := .selects (gm q.2.2.1).2.1.cls (gm q.2.2.1).2.1 (gm q.2.2.1).2.1
def sm_slf (q : (Nat × Nat × Nat × Nat) × Nat) : Bool := decide (¬ q.1.2.2.2 = 0) || decide (lw_tbl[q.2]? = some (sm_slw q.1))
theorem sm_sel_all : (gmk.zip gselP).all sm_slf = true := by decide +kernel
theorem sm_sel_in : ∀ q ∈ gmk, q.2.2.2 = 0 → sm_slw q ∈ lw_tbl := fun q hq h0 => by
  obtain ⟨p, hp⟩ := sm_zip (f := sm_slf) (by decide +kernel) sm_sel_all q hq
  simp only [sm_slf, Bool.or_eq_true, decide_eq_true_eq] at hp
  exact List.mem_of_getElem? (hp.resolve_left (fun h => h h0))
theorem sm_aa {α : Type} {a b : List α} {f : α → Bool} (h1 : a.all f = true) (h2 : b.all f = true) : (a ++ b).all f = true := by rw [List.all_append, h1, h2]; rfl

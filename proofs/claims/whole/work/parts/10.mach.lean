/-! THE SMALL MACHINE: the bytecode of the claim's methods over cells that are plain functions. A row of code is an
instruction with its links resolved; a sm_run answers none where the real machine would throw, or where the small machine
has no row. Part 05 and on show that the real machine does what the small one does. -/
def sm_up1 {α : Type} (f : Nat → α) (k : Nat) (x : α) : Nat → α := fun j => if j = k then x else f j
def sm_up2 {α : Type} (f : Nat → Nat → α) (a k : Nat) (x : α) : Nat → Nat → α := sm_up1 f a (sm_up1 (f a) k x)
abbrev aS : Type := Nat × aL × List Value × aW × aI × aJ
/-- a store to a local is taken only where it cuts no long in two -/
def sm_okS (L : aL) (i : Nat) : Bool := match i with
  | 0 => true
  | j + 1 => match L.getD j none with
    | some v => v.category == 1
    | none => true
def sm_st1 (L : aL) (i : Nat) (v : Value) : Option aL := if (sm_okS L i && decide (i < L.length)) = true then some (L.set i (some v)) else none
def sm_st2 (L : aL) (i : Nat) (v : Value) : Option aL := if (sm_okS L i && decide (i + 1 < L.length)) = true then some ((L.set i (some v)).set (i + 1) none) else none
def sm_o1 (f : Int32 → Int32) (st : List Value) : Option (List Value) := match st with
  | .int x :: r => some (.int (f x) :: r)
  | _ => none
def sm_o2 (f : Int32 → Int32 → Int32) (st : List Value) : Option (List Value) := match st with
  | .int y :: .int x :: r => some (.int (f x y) :: r)
  | _ => none
def sm_oL (f : Int64 → Int64 → Int64) (st : List Value) : Option (List Value) := match st with
  | .long y :: .long x :: r => some (.long (f x y) :: r)
  | _ => none
def sm_oH (f : Int64 → Int32 → Int64) (st : List Value) : Option (List Value) := match st with
  | .int y :: .long x :: r => some (.long (f x y) :: r)
  | _ => none
/-- on to the place pc with a new stack -/
def sm_nx (pc : Nat) (L : aL) (w : aW) (I : aI) (J : aJ) (o : Option (List Value)) : Option aS := match o with
  | some st => some (pc, L, st, w, I, J)
  | none => none
/-- on to the place pc with new locals -/
def sm_nl (pc : Nat) (st : List Value) (w : aW) (I : aI) (J : aJ) (o : Option aL) : Option aS := match o with
  | some L => some (pc, L, st, w, I, J)
  | none => none
def sm_b0 (c : ClassFile.Cond) (x : Int32) (s t : Nat) : Nat := match c with
  | .eq => if x = 0 then s else t
  | .ne => if ¬ x = 0 then s else t
  | .lt => if x < 0 then s else t
  | .ge => if 0 ≤ x then s else t
  | .gt => if 0 < x then s else t
  | .le => if x ≤ 0 then s else t
def sm_b2 (c : ClassFile.Cond) (x y : Int32) (s t : Nat) : Nat := match c with
  | .eq => if x = y then s else t
  | .ne => if ¬ x = y then s else t
  | .lt => if x < y then s else t
  | .ge => if y ≤ x then s else t
  | .gt => if y < x then s else t
  | .le => if x ≤ y then s else t
/-- a jump by an offset -/
def sm_jmp (pc : Nat) (off : Int) : Option Nat := if 0 ≤ (pc : Int) + off then some ((pc : Int) + off).toNat else none
def sm_jm (o : Option Nat) (L : aL) (st : List Value) (w : aW) (I : aI) (J : aJ) : Option aS := match o with
  | some q => some (q, L, st, w, I, J)
  | none => none
def sm_swt (pc : Nat) (d lo hi : Int) (offs : Array Int) (x : Int32) : Option Nat :=
  if x.toInt < lo ∨ hi < x.toInt then sm_jmp pc d else match offs[(x.toInt - lo).toNat]? with
    | some off => sm_jmp pc off
    | none => none
def sm_swl (pc : Nat) (d : Int) (ps : Array (Int × Int)) (x : Int32) : Option Nat :=
  if (ps.toList.zip (ps.toList.drop 1)).all (fun (a, next) => a.1 < next.1) = true then sm_jmp pc (Op.lookupswitch.offset ps.toList d x.toInt) else none
/-- a new cell of a kind and a length that takes so many slots -/
def sm_alc (w : aW) (t n k : Nat) : aW := (sm_up1 w.1 w.2.2.1 (some (t, n)), sm_up1 w.2.1 w.2.2.1 (fun _ => none), w.2.2.1 + 1, w.2.2.2 + k)
/-- the String constants -/
def sm_isS (K : Nat → Value) (q : Nat) : Bool := (List.range gstr.length).any (fun i => decide (K i = .ref q))
def sm_getf (K : Nat → Value) (a b c : Nat) (st : List Value) (w : aW) (I : aI) : Option (List Value) := match st with
  | .ref q :: r => if a = 7 then (if sm_isS K q = true then (if b = 0 then (match w.2.1 q 0 with | some v => some (.ref v :: r) | none => none) else some (.int 0 :: r)) else none)
    else match w.1 q with
    | some (t, _) => if t = a then (if c = 2 then (match w.2.1 q b with | some v => some (.ref v :: r) | none => none) else some (.int (I q b) :: r)) else none
    | none => none
  | _ => none
def sm_putf (pc a b c : Nat) (L : aL) (st : List Value) (w : aW) (I : aI) (J : aJ) : Option aS := match st with
  | .int x :: .ref q :: r => match w.1 q with
    | some (t, _) => if t = a ∧ a < 7 ∧ (c = 0 ∨ c = 1 ∧ (x = 0 ∨ x = 1)) then some (pc, L, r, w, sm_up2 I q b x, J) else none
    | none => none
  | .ref v :: .ref q :: r => match w.1 q with
    | some (t, _) => if t = a ∧ a < 7 ∧ c = 2 then some (pc, L, r, (w.1, sm_up2 w.2.1 q b (some v), w.2.2), I, J) else none
    | none => none
  | _ => none
def sm_ald (k1 k2 : Nat) (st : List Value) (w : aW) (I : aI) : Option (List Value) := match st with
  | .int i :: .ref q :: r => match w.1 q with
    | some (t, n) => if (t = k1 ∨ t = k2) ∧ ¬ (i < 0 ∨ n ≤ i.toNatClampNeg) then some (.int (I q i.toNatClampNeg) :: r) else none
    | none => none
  | _ => none
def sm_lald (st : List Value) (w : aW) (J : aJ) : Option (List Value) := match st with
  | .int i :: .ref q :: r => match w.1 q with
    | some (t, n) => if t = 11 ∧ ¬ (i < 0 ∨ n ≤ i.toNatClampNeg) then some (.long (J q i.toNatClampNeg) :: r) else none
    | none => none
  | _ => none
def sm_rald (st : List Value) (w : aW) : Option (List Value) := match st with
  | .int i :: .ref q :: r => match w.1 q with
    | some (t, n) => if (t = 14 ∨ t = 15) ∧ ¬ (i < 0 ∨ n ≤ i.toNatClampNeg) then (match w.2.1 q i.toNatClampNeg with | some v => some (.ref v :: r) | none => none) else none
    | none => none
  | _ => none
def sm_alen (st : List Value) (w : aW) : Option (List Value) := match st with
  | .ref q :: r => match w.1 q with
    | some (t, n) => if 10 ≤ t then some (.int (Int32.ofNat n) :: r) else none
    | none => none
  | _ => none
def sm_iast (pc : Nat) (L : aL) (st : List Value) (w : aW) (I : aI) (J : aJ) : Option aS := match st with
  | .int x :: .int i :: .ref q :: r => match w.1 q with
    | some (t, n) => if t = 10 ∧ ¬ (i < 0 ∨ n ≤ i.toNatClampNeg) then some (pc, L, r, w, sm_up2 I q i.toNatClampNeg x, J) else none
    | none => none
  | _ => none
def sm_zast (pc : Nat) (L : aL) (st : List Value) (w : aW) (I : aI) (J : aJ) : Option aS := match st with
  | .int x :: .int i :: .ref q :: r => match w.1 q with
    | some (t, n) => if t = 12 ∧ ¬ (i < 0 ∨ n ≤ i.toNatClampNeg) ∧ (x = 0 ∨ x = 1) then some (pc, L, r, w, sm_up2 I q i.toNatClampNeg x, J) else none
    | none => none
  | _ => none
def sm_last (pc : Nat) (L : aL) (st : List Value) (w : aW) (I : aI) (J : aJ) : Option aS := match st with
  | .long x :: .int i :: .ref q :: r => match w.1 q with
    | some (t, n) => if t = 11 ∧ ¬ (i < 0 ∨ n ≤ i.toNatClampNeg) then some (pc, L, r, w, I, sm_up2 J q i.toNatClampNeg x) else none
    | none => none
  | _ => none
/-- what may stand in an array of references -/
def sm_isE (K : Nat → Value) (w : aW) (t v : Nat) : Bool := if t = 14 then (match w.1 v with | some (tv, _) => tv == 3 | none => false) else if t = 15 then sm_isS K v else false
def sm_rast (K : Nat → Value) (pc : Nat) (L : aL) (st : List Value) (w : aW) (I : aI) (J : aJ) : Option aS := match st with
  | .ref v :: .int i :: .ref q :: r => match w.1 q with
    | some (t, n) => if sm_isE K w t v = true ∧ ¬ (i < 0 ∨ n ≤ i.toNatClampNeg) then some (pc, L, r, (w.1, sm_up2 w.2.1 q i.toNatClampNeg (some v), w.2.2), I, J) else none
    | none => none
  | _ => none
def sm_newa (pc t : Nat) (L : aL) (st : List Value) (w : aW) (I : aI) (J : aJ) : Option aS := match st with
  | .int n :: r => if ¬ n < 0 ∧ n.toNatClampNeg ≤ 1000000 then some (pc, L, .ref w.2.2.1 :: r, sm_alc w t n.toNatClampNeg n.toNatClampNeg, sm_up1 I w.2.2.1 (fun _ => 0), sm_up1 J w.2.2.1 (fun _ => 0)) else none
  | _ => none
/-- one instruction that neither calls nor returns -/
def sm_stp (K : Nat → Value) (r : aRow) (pc : Nat) (L : aL) (st : List Value) (w : aW) (I : aI) (J : aJ) : Option aS :=
  match r with
  | (i, len, a, b, c, _, _, z, zl) => match i with
    | .iconst _ => some (pc + len, L, .int z :: st, w, I, J)
    | .bipush _ => some (pc + len, L, .int z :: st, w, I, J)
    | .sipush _ => some (pc + len, L, .int z :: st, w, I, J)
    | .lconst _ => some (pc + len, L, .long zl :: st, w, I, J)
    | .ldc _ => if b = 0 then some (pc + len, L, .int z :: st, w, I, J) else some (pc + len, L, K a :: st, w, I, J)
    | .ldc2_w _ => some (pc + len, L, .long zl :: st, w, I, J)
    | .iload_n _ => (match L.getD a none with | some (.int x) => some (pc + len, L, .int x :: st, w, I, J) | _ => none)
    | .iload _ => (match L.getD a none with | some (.int x) => some (pc + len, L, .int x :: st, w, I, J) | _ => none)
    | .lload_n _ => (match L.getD a none with | some (.long x) => some (pc + len, L, .long x :: st, w, I, J) | _ => none)
    | .lload _ => (match L.getD a none with | some (.long x) => some (pc + len, L, .long x :: st, w, I, J) | _ => none)
    | .aload_n _ => (match L.getD a none with | some (.ref x) => some (pc + len, L, .ref x :: st, w, I, J) | _ => none)
    | .aload _ => (match L.getD a none with | some (.ref x) => some (pc + len, L, .ref x :: st, w, I, J) | _ => none)
    | .istore_n _ => (match st with | .int x :: r => sm_nl (pc + len) r w I J (sm_st1 L a (.int x)) | _ => none)
    | .istore _ => (match st with | .int x :: r => sm_nl (pc + len) r w I J (sm_st1 L a (.int x)) | _ => none)
    | .lstore_n _ => (match st with | .long x :: r => sm_nl (pc + len) r w I J (sm_st2 L a (.long x)) | _ => none)
    | .lstore _ => (match st with | .long x :: r => sm_nl (pc + len) r w I J (sm_st2 L a (.long x)) | _ => none)
    | .astore_n _ => (match st with | .ref x :: r => sm_nl (pc + len) r w I J (sm_st1 L a (.ref x)) | _ => none)
    | .astore _ => (match st with | .ref x :: r => sm_nl (pc + len) r w I J (sm_st1 L a (.ref x)) | _ => none)
    | .iinc _ _ => (match L.getD a none with | some (.int x) => sm_nl (pc + len) st w I J (sm_st1 L a (.int (x + z))) | _ => none)
    | .iadd => sm_nx (pc + len) L w I J (sm_o2 (fun x y => x + y) st)
    | .isub => sm_nx (pc + len) L w I J (sm_o2 (fun x y => x - y) st)
    | .imul => sm_nx (pc + len) L w I J (sm_o2 (fun x y => x * y) st)
    | .iand => sm_nx (pc + len) L w I J (sm_o2 (fun x y => x &&& y) st)
    | .ior => sm_nx (pc + len) L w I J (sm_o2 (fun x y => x ||| y) st)
    | .ishl => sm_nx (pc + len) L w I J (sm_o2 (fun x y => x <<< (y &&& 31)) st)
    | .ishr => sm_nx (pc + len) L w I J (sm_o2 (fun x y => x >>> (y &&& 31)) st)
    | .idiv => (match st with | .int y :: .int x :: r => if y = 0 then none else some (pc + len, L, .int (x / y) :: r, w, I, J) | _ => none)
    | .ineg => sm_nx (pc + len) L w I J (sm_o1 (fun x => -x) st)
    | .i2b => sm_nx (pc + len) L w I J (sm_o1 (fun x => x.toInt8.toInt32) st)
    | .i2c => sm_nx (pc + len) L w I J (sm_o1 (fun x => (x.toUInt32 % 65536).toInt32) st)
    | .i2l => (match st with | .int x :: r => some (pc + len, L, .long x.toInt64 :: r, w, I, J) | _ => none)
    | .l2i => (match st with | .long x :: r => some (pc + len, L, .int x.toInt32 :: r, w, I, J) | _ => none)
    | .ladd => sm_nx (pc + len) L w I J (sm_oL (fun x y => x + y) st)
    | .lsub => sm_nx (pc + len) L w I J (sm_oL (fun x y => x - y) st)
    | .lmul => sm_nx (pc + len) L w I J (sm_oL (fun x y => x * y) st)
    | .land => sm_nx (pc + len) L w I J (sm_oL (fun x y => x &&& y) st)
    | .lor => sm_nx (pc + len) L w I J (sm_oL (fun x y => x ||| y) st)
    | .lshl => sm_nx (pc + len) L w I J (sm_oH (fun x y => x <<< (y.toInt64 &&& 63)) st)
    | .lshr => sm_nx (pc + len) L w I J (sm_oH (fun x y => x >>> (y.toInt64 &&& 63)) st)
    | .lushr => sm_nx (pc + len) L w I J (sm_oH (fun x y => (x.toUInt64 >>> (y.toInt64.toUInt64 &&& Int64.toUInt64 63)).toInt64) st)
    | .lcmp => (match st with | .long y :: .long x :: r => some (pc + len, L, .int (lg_cmp x y) :: r, w, I, J) | _ => none)
    | .dup => (match st with | v :: r => if v.category = 1 then some (pc + len, L, v :: v :: r, w, I, J) else none | _ => none)
    | .dup2 => (match st with | v :: u :: r => if v.category = 1 ∧ u.category = 1 then some (pc + len, L, v :: u :: v :: u :: r, w, I, J) else none | _ => none)
    | .pop => (match st with | v :: r => if v.category = 1 then some (pc + len, L, r, w, I, J) else none | _ => none)
    | .ifCond k _ => (match st with | .int x :: r => some (sm_b0 k x a (pc + len), L, r, w, I, J) | _ => none)
    | .if_icmp k _ => (match st with | .int y :: .int x :: r => some (sm_b2 k x y a (pc + len), L, r, w, I, J) | _ => none)
    | .goto _ => some (a, L, st, w, I, J)
    | .tableswitch d lo hi offs => (match st with | .int x :: r => sm_jm (sm_swt pc d lo hi offs x) L r w I J | _ => none)
    | .lookupswitch d ps => (match st with | .int x :: r => sm_jm (sm_swl pc d ps x) L r w I J | _ => none)
    | .getfield _ => sm_nx (pc + len) L w I J (sm_getf K a b c st w I)
    | .putfield _ => sm_putf (pc + len) a b c L st w I J
    | .getstatic _ => some (pc + len, L, K a :: st, w, I, J)
    | .new _ => some (pc + len, L, .ref w.2.2.1 :: st, sm_alc w a 0 b, sm_up1 I w.2.2.1 (fun _ => 0), sm_up1 J w.2.2.1 (fun _ => 0))
    | .newarray _ => sm_newa (pc + len) a L st w I J
    | .anewarray _ => sm_newa (pc + len) a L st w I J
    | .arraylength => sm_nx (pc + len) L w I J (sm_alen st w)
    | .iaload => sm_nx (pc + len) L w I J (sm_ald 10 20 st w I)
    | .baload => sm_nx (pc + len) L w I J (sm_ald 12 21 st w I)
    | .laload => sm_nx (pc + len) L w I J (sm_lald st w J)
    | .aaload => sm_nx (pc + len) L w I J (sm_rald st w)
    | .iastore => sm_iast (pc + len) L st w I J
    | .bastore => sm_zast (pc + len) L st w I J
    | .lastore => sm_last (pc + len) L st w I J
    | .aastore => sm_rast K (pc + len) L st w I J
    | _ => none
/-- what a call takes: the arguments (the receiver first), and the rest of the stack -/
def sm_as (b c : Nat) (st : List Value) : Option (List Value × List Value) :=
  if b = 1 then (if c ≤ st.length then some ((st.take c).reverse, st.drop c) else none)
  else match st.drop c with
    | .ref q :: r => some (.ref q :: (st.take c).reverse, r)
    | _ => none
def sm_rv (K : Nat → Value) (b f : Nat) (as : List Value) (w : aW) : Bool := if b = 0 then (match as with
  | .ref q :: _ => if f = 7 then sm_isS K q else (match w.1 q with | some (t, _) => t == f | none => false)
  | _ => false) else true
def sm_slv : List Value → aL
  | [] => []
  | v :: r => if v.category = 2 then some v :: none :: sm_slv r else some v :: sm_slv r
def sm_ent (e : Nat) (as : List Value) : aL := sm_slv as ++ List.replicate (e - (sm_slv as).length) none
def sm_cs (st : List Value) : Nat := (st.map fun v => v.category).sum
def sm_acp (pc : Nat) (L : aL) (st : List Value) (w : aW) (I : aI) (J : aJ) : Option aS := match st with
  | .int n :: .int dp :: .ref q :: .int sp :: .ref p :: r => match w.1 p, w.1 q with
    | some (t1, n1), some (t2, n2) => if t1 = 10 ∧ t2 = 10 ∧ ¬ sp < 0 ∧ ¬ dp < 0 ∧ ¬ n < 0 ∧ sp.toNatClampNeg + n.toNatClampNeg ≤ n1 ∧ dp.toNatClampNeg + n.toNatClampNeg ≤ n2 ∧ sm_cs r ≤ 8 then
        some (pc, L, r, w, sm_up1 I q (va_cpy (I p) (I q) sp.toNatClampNeg dp.toNatClampNeg n.toNatClampNeg), J) else none
    | _, _ => none
  | _ => none
/-- Object.<init> -/
def sm_oin (pc : Nat) (L : aL) (st : List Value) (w : aW) (I : aI) (J : aJ) : Option aS := match st with
  | .ref _ :: r => if sm_cs r ≤ 8 then some (pc, L, r, w, I, J) else none
  | _ => none
def sm_mm (pc : Nat) (f : Int32 → Int32 → Int32) (L : aL) (st : List Value) (w : aW) (I : aI) (J : aJ) : Option aS := match st with
  | .int y :: .int x :: r => if sm_cs r ≤ 8 then some (pc, L, .int (f x y) :: r, w, I, J) else none
  | _ => none
/-- calls that are taken as one step: Object.<init>, System.arraycopy of ints, Math.min, Math.max -/
def sm_prm (b pc : Nat) (L : aL) (st : List Value) (w : aW) (I : aI) (J : aJ) : Option aS :=
  if b = 3 then sm_oin pc L st w I J
  else if b = 4 then sm_acp pc L st w I J
  else if b = 6 then sm_mm pc (fun x y => if y < x then y else x) L st w I J
  else sm_mm pc (fun x y => if x < y then y else x) L st w I J
abbrev aR : Type := Option Value × aW × aI × aJ
def sm_ret (c : Nat) (i : Instr) (st : List Value) (w : aW) (I : aI) (J : aJ) : Option aR := match i with
  | .return_ => (match st with | [] => some (none, w, I, J) | _ => none)
  | .ireturn => (match st with | [.int x] => if c = 1 ∨ c = 2 ∧ (x = 0 ∨ x = 1) ∨ c = 5 ∧ (x.toUInt32 % 65536).toInt32 = x ∨ c = 6 ∧ x.toInt8.toInt32 = x then some (some (.int x), w, I, J) else none | _ => none)
  | .lreturn => (match st with | [.long x] => some (some (.long x), w, I, J) | _ => none)
  | .areturn => (match st with | [.ref q] => some (some (.ref q), w, I, J) | _ => none)
  | _ => none
/-- 0: goes on; 1: returns; 2: calls -/
def sm_knd (i : Instr) : Nat := match i with
  | .return_ => 1
  | .ireturn => 1
  | .lreturn => 1
  | .areturn => 1
  | .invokevirtual _ => 2
  | .invokestatic _ => 2
  | .invokespecial _ => 2
  | _ => 0
/-- n: fuel; d: frames that may still be made; y: the method; pc, L, st: its frame; w, I, J: the cells -/
def sm_run (K : Nat → Value) : Nat → Nat → Nat → Nat → aL → List Value → aW → aI → aJ → Option aR
  | 0, _, _, _, _, _, _, _, _ => none
  | n + 1, d, y, pc, L, st, w, I, J => match sm_cd y pc with
    | none => none
    | some r => match sm_knd r.1 with
      | 0 => (match sm_stp K r pc L st w I J with
        | some (pc', L', st', w', I', J') => sm_run K n d y pc' L' st' w' I' J'
        | none => none)
      | 1 => sm_ret r.2.2.2.2.1 r.1 st w I J
      | _ => (match d with
        | 0 => none
        | d' + 1 =>
          if r.2.2.2.1 = 3 ∨ r.2.2.2.1 = 4 ∨ r.2.2.2.1 = 6 ∨ r.2.2.2.1 = 7 then (match sm_prm r.2.2.2.1 (pc + 3) L st w I J with
            | some (pc', L', st', w', I', J') => sm_run K n (d' + 1) y pc' L' st' w' I' J'
            | none => none)
          else match sm_as r.2.2.2.1 r.2.2.2.2.1 st with
            | none => none
            | some (as, rest) =>
              if (sm_rv K r.2.2.2.1 r.2.2.2.2.2.2.1 as w && decide (sm_cs rest ≤ 8) && decide ((sm_slv as).length ≤ r.2.2.2.2.2.1)) = true then
                (match sm_run K n d' r.2.2.1 0 (sm_ent r.2.2.2.2.2.1 as) [] w I J with
                | some (v, w', I', J') => sm_run K n (d' + 1) y (pc + 3) L (v.toList ++ rest) w' I' J'
                | none => none)
              else none)

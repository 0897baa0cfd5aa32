/-! THE STATE that both objects are in: what is alike, and what holds of the code and of the machine -/
/-- a Program's cells -/
def PL (w : aW) (a : Nat) : Prop := w.1 a = some (1, 0) ∧ w.1 (a + 1) = some (10, 200) ∧ w.1 (a + 2) = some (10, 200) ∧ w.1 (a + 3) = some (11, 200) ∧ w.1 (a + 4) = some (12, 200) ∧ w.1 (a + 5) = some (10, 20) ∧ w.1 (a + 6) = some (10, 30) ∧ w.2.1 a 0 = some (a + 1) ∧ w.2.1 a 1 = some (a + 2) ∧ w.2.1 a 2 = some (a + 3) ∧ w.2.1 a 3 = some (a + 4) ∧ w.2.1 a 4 = some (a + 5) ∧ w.2.1 a 5 = some (a + 6)
theorem PL8 {B : Nat} {w : aW} (H : Lay B w) : PL w (B + 8) := ⟨yt8 H, yt9 H, yt10 H, yt11 H, yt12 H, yt13 H, yt14 H, yp8_0 H, yp8_1 H, yp8_2 H, yp8_3 H, yp8_4 H, yp8_5 H⟩
theorem PL22 {B : Nat} {w : aW} (H : Lay B w) : PL w (B + 22) := ⟨yt22 H, yt23 H, yt24 H, yt25 H, yt26 H, yt27 H, yt28 H, yp22_0 H, yp22_1 H, yp22_2 H, yp22_3 H, yp22_4 H, yp22_5 H⟩
theorem PLx {B a : Nat} {w : aW} (H : Lay B w) (h : a = B + 8 ∨ a = B + 22) : PL w a := by
  rcases h with rfl | rfl
  · exact PL8 H
  · exact PL22 H
/-! the code: N places, F funs; fa f 0 .. 3: first place, params, variables, type; fa f (4 + v): types of variables; oc, ar: ops and arguments; sh: the types on the stack, the top first -/
abbrev aG : Type := Nat × Nat × (Nat → Nat → Nat) × (Nat → Nat) × (Nat → Nat) × (Nat → List Nat) × (Nat → Bool)
/-- the types of a fun's params, the last one first -/
def gPar (fa : Nat → Nat → Nat) (g : Nat) : Nat → List Nat
  | 0 => []
  | k + 1 => fa g (4 + k) :: gPar fa g k
/-- what an op makes of the stack's types in the fun f -/
def gEf (fa : Nat → Nat → Nat) (f o a : Nat) (s s' : List Nat) : Prop :=
  (o = 0 ∧ s' = 0 :: s) ∨ (o = 1 ∧ a ≤ 1 ∧ s' = 1 :: s) ∨ (o = 2 ∧ s' = 3 :: s) ∨ (o = 3 ∧ a < fa f 2 ∧ s' = fa f (4 + a) :: s)
  ∨ (o = 4 ∧ a ≤ f ∧ ∃ r, s = gPar fa a (fa a 1) ++ r ∧ s' = fa a 3 :: r)
  ∨ (∃ r, (o = 5 ∧ s = 0 :: r ∧ s' = 0 :: r) ∨ (o = 6 ∧ s = 1 :: r ∧ s' = 1 :: r) ∨ (o = 7 ∧ s = 2 :: r ∧ s' = 0 :: r) ∨ (o = 8 ∧ s = 3 :: r ∧ s' = 0 :: r) ∨ (o = 9 ∧ s = 3 :: r ∧ s' = 3 :: r) ∨ (o = 10 ∧ s = 0 :: r ∧ s' = 2 :: r)
    ∨ (o = 11 ∧ s = 0 :: 2 :: r ∧ s' = 0 :: r) ∨ (o = 12 ∧ s = 3 :: 0 :: r ∧ s' = 3 :: r) ∨ ((o = 13 ∨ o = 14) ∧ s = 1 :: 1 :: r ∧ s' = 1 :: r) ∨ (o = 15 ∧ s = 0 :: 0 :: r ∧ s' = 1 :: r) ∨ (o = 16 ∧ (∃ t, t ≤ 1 ∧ s = t :: t :: r) ∧ s' = 1 :: r) ∨ (17 ≤ o ∧ o ≤ 20 ∧ s = 0 :: 0 :: r ∧ s' = 0 :: r))
  ∨ (o = 21 ∧ a < fa f 2 ∧ s = [fa f (4 + a)] ∧ s' = []) ∨ (o = 22 ∧ s = [0, 0, 2] ∧ s' = []) ∨ (o = 23 ∧ s = [1] ∧ s' = []) ∨ (o = 24 ∧ s = [] ∧ s' = []) ∨ (o = 25 ∧ s = [fa f 3] ∧ s' = []) ∨ (o = 26 ∧ (∃ t, t ≤ 1 ∧ s = [t]) ∧ s' = []) ∨ (o = 27 ∧ s = [] ∧ a = fa f 3 ∧ s' = [a])
/-- the end of a fun's places -/
def gEnd (N F : Nat) (fa : Nat → Nat → Nat) (f : Nat) : Nat := if f + 1 < F then fa (f + 1) 0 else N
/-- code that is typed -/
def gTC (G : aG) : Prop := match G with
  | (N, F, fa, oc, ar, sh, _) => N ≤ 200 ∧ F ≤ 5 ∧ (N = 0 ↔ F = 0) ∧ (∀ f, f < F → fa f 1 ≤ fa f 2 ∧ fa f 2 ≤ 6 ∧ fa f 3 ≤ 3 ∧ (∀ v, v < fa f 2 → fa f (4 + v) ≤ 3) ∧ fa f 0 < gEnd N F fa f ∧ gEnd N F fa f ≤ N ∧ sh (fa f 0) = []
      ∧ ∀ p, fa f 0 ≤ p → p < gEnd N F fa f → (∃ s', gEf fa f (oc p) (ar p) (sh p) s' ∧ (¬ oc p = 25 → p + 1 < gEnd N F fa f) ∧ (p + 1 < gEnd N F fa f → sh (p + 1) = s')) ∧ ((oc p = 23 ∨ oc p = 24) → fa f 0 ≤ ar p ∧ ar p < gEnd N F fa f ∧ sh (ar p) = [])) ∧ (∀ p, p < N → (sh p).length ≤ 60 ∧ ar p ≤ 99999) ∧ (0 < F → fa (F - 1) 1 = 0) ∧ ∀ p, p < N → oc p ≤ 27 ∧ ∀ t ∈ sh p, t ≤ 3
/-- a shape as a number -/
def gPk : List Nat → Int64
  | [] => 0
  | t :: s => gPk s * 5 + Int64.ofInt t + 1
/-- the code as the class has it -/
def gX (G : aG) (a : Nat) (I : aI) (J : aJ) : Prop := match G with
  | (N, F, fa, oc, ar, sh, rc) => I a 6 = it N ∧ I a 7 = it F ∧ (∀ p, p < N → I (a + 1) p = it (oc p) ∧ I (a + 2) p = it (ar p) ∧ J (a + 3) p = if rc p = true then gPk (sh p) else 3125) ∧ (∀ f, f < F → (∀ k, k < 4 → I (a + 5) (4 * f + k) = it (fa f k)) ∧ ∀ v, v < fa f 2 → I (a + 6) (6 * f + v) = it (fa f (4 + v)))
/-- the code as the reference has it -/
def gM (G : aG) (B : Nat) (I : aI) : Prop := match G with
  | (N, F, fa, oc, ar, sh, rc) => I (B + 46) 17 = it N ∧ I (B + 46) 16 = it F ∧ (∀ p, p < N → I (B + 59) p = it (oc p) ∧ I (B + 60) p = it (ar p) ∧ (rc p = false → I (B + 62) p = it (-1)) ∧ (rc p = true → I (B + 62) p = it (sh p).length ∧ ∀ k, k < (sh p).length → I (B + 63) (64 * p + k) = it ((sh p).reverse.getD k 0))) ∧ (∀ f, f < F → (∀ k, k < 4 → I (B + 58) (10 * f + k) = it (fa f k)) ∧ ∀ v, v < fa f 2 → I (B + 58) (10 * f + 4 + v) = it (fa f (4 + v)))
/-! the machine: c the class's cells, n the reference's -/
def mRel (fa : Nat → Nat → Nat) (c n : Nat → Int32) : Prop :=
  c 0 = n 0 ∧ c 1 = n 4 ∧ c 2 = n 5 ∧ c 3 = n 2 ∧ c 4 = n 1 ∧ c 5 = n 3 ∧ c 6 = n 6 ∧ (∀ i, i < 30 → c (7 + i) = n (10 + i) ∧ c (37 + i) = n (40 + i)) ∧ (∀ i, i < 20 → c (67 + i) = n (134 + i))
  ∧ (∀ j : Nat, (j : Int) < (n 1).toInt → c (87 + 8 * j) = n (70 + 8 * j) ∧ c (88 + 8 * j) = (if (j : Int) + 1 = (n 1).toInt then n (71 + 8 * j) else n (71 + 8 * j) + 1) ∧ ∀ f v : Nat, n (70 + 8 * j) = it f → f < 5 → v < fa f 2 → v < 6 → c (89 + 8 * j + v) = n (72 + 8 * j + v))
  ∧ (∀ o, 1 ≤ o → o ≤ 16 → c (140 + 11 * o) = n (154 + 12 * o) ∧ (n (154 + 12 * o) = it 1 → c (141 + 11 * o) = n (155 + 12 * o) ∧ ∀ i : Nat, (i : Int) < (n (155 + 12 * o)).toInt → i < 9 → c (142 + 11 * o + i) = n (157 + 12 * o + i)) ∧ (n (154 + 12 * o) = it 2 → c (141 + 11 * o) = n (155 + 12 * o) ∧ c (142 + 11 * o) = n (156 + 12 * o)))
/-- a value of a type -/
def okv (n : Nat → Int32) (t : Nat) (v : Int32) : Prop := t < 2 ∨ v = it 0 ∨ ∃ o : Nat, 1 ≤ o ∧ o ≤ 16 ∧ v = it o ∧ n (154 + 12 * o) = it ((t : Int) - 1)
def okO (n : Nat → Int32) : Prop := ∀ o, 1 ≤ o → o ≤ 16 → (n (154 + 12 * o) = it 0 ∧ ∀ k, k < 12 → n (154 + 12 * o + k) = it 0) ∨ (n (154 + 12 * o) = it 1 ∧ ∃ s : Nat, s ≤ 9 ∧ n (155 + 12 * o) = it s) ∨ (n (154 + 12 * o) = it 2 ∧ okv n 3 (n (156 + 12 * o)))
/-- the types below a height, the top first -/
def okT (n : Nat → Int32) (h : Nat) (r : List Nat) : Prop := r.length ≤ h ∧ ∀ i, i < r.length → n (39 + h - i) = it (r.getD i 0)
/-- j frames that wait for a call of g; the stack of them is b high -/
def stk (N F : Nat) (fa : Nat → Nat → Nat) (oc ar : Nat → Nat) (sh : Nat → List Nat) (n : Nat → Int32) : Nat → Nat → Nat → Prop
  | 0, b, _ => b = 0
  | j + 1, b, g => ∃ (f p : Nat) (r : List Nat), n (70 + 8 * j) = it f ∧ n (71 + 8 * j) = it p ∧ f < F ∧ fa f 0 ≤ p ∧ p < gEnd N F fa f ∧ oc p = 4 ∧ ar p = g ∧ sh p = gPar fa g (fa g 1) ++ r ∧ okT n b r ∧ stk N F fa oc ar sh n j (b - r.length) f
def mOK (G : aG) (n : Nat → Int32) : Prop := match G with
  | (N, F, fa, oc, ar, sh, _) => (∃ h fr hi pr : Nat, n 0 = it h ∧ n 1 = it fr ∧ n 2 = it hi ∧ n 3 = it pr ∧ h ≤ 8 ∧ fr ≤ 8 ∧ hi ≤ 30 ∧ pr ≤ 20 ∧ (h = 1 ↔ fr = 0) ∧ (fr = 0 → hi = 0)
      ∧ (∀ j f p : Nat, fr = j + 1 → n (70 + 8 * j) = it f → n (71 + 8 * j) = it p → f < F → p < 200 → fa f 0 ≤ p ∧ p < gEnd N F fa f ∧ okT n hi (sh p) ∧ stk N F fa oc ar sh n j (hi - (sh p).length) f)
      ∧ (∀ i, i < hi → ∃ t : Nat, t ≤ 3 ∧ n (40 + i) = it t ∧ okv n t (n (10 + i)))
      ∧ (∀ j, j < fr → ∃ f p : Nat, f < F ∧ p < 200 ∧ n (70 + 8 * j) = it f ∧ n (71 + 8 * j) = it p ∧ ∀ v, v < fa f 2 → okv n (fa f (4 + v)) (n (72 + 8 * j + v)))) ∧ okO n
/-! going back: the notes of a slot, the last first -/
def uNd (nc nn : Nat → Int32) (s : Nat) : Nat → (Nat → Int32) → Nat → Int32
  | 0, c => c
  | k + 1, c => uNd nc nn s k (sm_up1 c (nc (36 * s + k)).toNatClampNeg (nn (36 * s + k)))
/-- k steps are kept behind the slot s; pa, mp: the reference's states and proofs -/
def hst (OK : (Nat → Int32) → (Nat → Int32) → Prop) (nd nc nn xp : Nat → Int32) (pa mp : Nat → Int32) : Nat → Nat → (Nat → Int32) → Prop
  | 0, _, _ => True
  | k + 1, s, c => ∃ m : Nat, 1 ≤ m ∧ m ≤ 36 ∧ nd ((s + 31) % 32) = it m ∧ nc (36 * ((s + 31) % 32)) = it 2 ∧ (∀ i, i < m → ∃ e : Nat, e < 327 ∧ nc (36 * ((s + 31) % 32) + i) = it e) ∧ (∀ j, j < 4 → xp (4 * ((s + 31) % 32) + j) = mp (4 * k + j))
      ∧ pa (360 * k) = it 0 ∧ OK (sm_up1 (uNd nc nn ((s + 31) % 32) m c) 0 (it 0)) (fun i => pa (360 * k + i)) ∧ hst OK nd nc nn xp pa mp k ((s + 31) % 32) (sm_up1 (uNd nc nn ((s + 31) % 32) m c) 0 (it 0))
/-- the machine of both -/
def gK (G : aG) (B : Nat) (I : aI) : Prop := ∃ kp sl : Nat, kp ≤ 30 ∧ sl < 32 ∧ I (B + 29) 8 = it kp ∧ I (B + 46) 41 = it kp ∧ I (B + 29) 7 = it sl ∧ mRel G.2.2.1 (I (B + 30)) (I (B + 65)) ∧ mOK G (I (B + 65))
  ∧ hst (fun c n => mRel G.2.2.1 c n ∧ mOK G n) (I (B + 32)) (I (B + 33)) (I (B + 34)) (I (B + 35)) (I (B + 67)) (I (B + 68)) kp sl (I (B + 30))
/-- code and machine -/
def rPM (B : Nat) (w : aW) (I : aI) (J : aJ) : Prop := ∃ (G : aG) (a a' : Nat) (bg : Nat), (a = B + 8 ∧ a' = B + 22 ∨ a = B + 22 ∧ a' = B + 8) ∧ w.2.1 B 3 = some a ∧ w.2.1 (B + 2) 1 = some a' ∧ ((∃ q, w.2.1 (B + 29) 0 = some q) ∧ J (B + 18) 0 = 0) ∧ gTC G ∧ gX G a I J ∧ gM G B I ∧ bg ≤ 1 ∧ I B 5 = it bg ∧ I (B + 46) 42 = it bg ∧ (∃ sl : Nat, sl < 32 ∧ I (B + 29) 7 = it sl) ∧ (bg = 1 → w.2.1 (B + 29) 0 = some a ∧ ¬ G.1 = 0 ∧ gK G B I)
def rFd (B : Nat) (I : aI) : Prop := ∀ k, k < 8 → I (B + 37) k = I (B + 47) k
def rFl (B : Nat) (I : aI) : Prop := I B 8 = I (B + 46) 3 ∧ I B 9 = I (B + 46) 4
def rTp (B : Nat) (I : aI) : Prop := ∃ t : Nat, t ≤ 240 ∧ I B 1 = it t ∧ I (B + 46) 2 = it t ∧ ∀ i, i < t → ∃ v : Nat, v < 256 ∧ I (B + 1) i = it v ∧ I (B + 48) i = it v
def rSh (B : Nat) (I : aI) : Prop := ∀ s, s < 4 → ∃ bt ln : Nat, (bt = 0 ∨ bt = 8 ∨ bt = 16 ∨ bt = 32) ∧ ln ≤ 40 ∧ (bt = 0 → ln = 0) ∧ I (B + 38 + 2 * s) 1 = it bt ∧ I (B + 38 + 2 * s) 2 = it ln ∧ I (B + 71) s = it bt ∧ I (B + 72) s = it ln ∧ (bt = 32 → ∀ i, i < 40 → I (B + 39 + 2 * s) i = I (B + 73) (40 * s + i))
/-- what never changes: the words of the class -/
def rCo (B : Nat) (I : aI) : Prop := ∀ i, i < 20 → I (B + 7) i = it ([6830, 294, 176741, 24388997, 609900110, 17376724, 9684, 81388, 18935, 403060, 674469, 6337125, 474565, 14836, 1476, 498, 14519, 632645, 267300, 656684].getD i 0)
/-- all that was there before -/
def rOl (B : Nat) (w0 : aW) (I0 : aI) (w : aW) (I : aI) : Prop := ∀ a, a < B → I a = I0 a ∧ w.1 a = w0.1 a ∧ w.2.1 a = w0.2.1 a
def rKy (K : Nat → Value) (B : Nat) (w : aW) : Prop := ∀ i, i < 20 → ∃ q, K (i + 2) = .ref q ∧ w.2.1 (B + 61) i = some q
def rSz (B n : Nat) (w : aW) : Prop := B + 75 ≤ w.2.2.1 ∧ w.2.2.1 ≤ B + 75 + 300 * n ∧ w.2.2.2 ≤ 100000 + 2000 * n
/-- the state that both are in after n calls -/
def rR (K : Nat → Value) (B : Nat) (w0 : aW) (I0 : aI) (n : Nat) (w : aW) (I : aI) (J : aJ) : Prop := Lay B w ∧ rOl B w0 I0 w I ∧ rKy K B w ∧ rSz B n w ∧ rCo B I ∧ rFd B I ∧ rFl B I ∧ rTp B I ∧ rSh B I ∧ rPM B w I J

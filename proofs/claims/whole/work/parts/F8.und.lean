/-! what is not an op ahead, all of it -/
noncomputable def Xo (K : Nat → Value) (d B : Nat) (sx : Int32) (w : aW) (I : aI) (J : aJ) : Option aR := cI (Cl K d 37 [.ref (B + 3)] w I J) fun x w I J => if ¬ x = it 1 then (if ¬ x = it 40 then Cl K d 72 [.ref (B + 2)] w I J else cV (Cl K d 42 [.ref (B + 3)] w I J) fun w I J => cV (Cl K d 63 [.ref (B + 2), .int (it 0), .int sx] w I J) fun w I J => gO w 2 (B + 2) (gV w (B + 2) 0 fun q => gO w 4 q (Cl K d 41 [.ref q, .int (it 41)] w I J))) else Cl K d 69 [.ref (B + 2), .int sx] w I J
section UND
variable {K : Nat → Value} {B d e a : Nat} {w wm : aW} {Ix Im I : aI} {Jx Jm J : aJ} {bs : Nat → Nat} {t n c r s sl b : Nat} {pd dp : Int} {G G1 : gG} {Q gd : Prop} {f cnt : Nat} {vn ln : Nat → Nat} {fa : Nat → Nat → Nat}
theorem O_all {dx dy bE D : Nat} (ha : a = B + 8 ∨ a = B + 22) (hX : TX bs t n) (H : Lay B w) (hp : w.2.1 (B + 2) 1 = some a) (hNP : NP f cnt vn fa ln gd) (hb : 6 + bE ≤ b) (d1 : D ≤ dx + 3) (d2 : D ≤ dy + 8)
    (hE : ∀ x y, D ≤ x → D ≤ y → Con K B a bs t n pd dp w f cnt vn fa ln gd (fun Ix Jx => Cl K x 63 [.ref (B + 2), .int (it ((0 : Nat) : Int)), .int (it ((s : Nat) : Int))] w Ix Jx) (fun wm Im Jm => Cl K y 101 [.ref (B + 46)] wm Im Jm) s bE) :
    Con K B a bs t n pd dp w f cnt vn fa ln gd (fun Ix Jx => Xo K (dx + 4) B (it s) w Ix Jx) (fun wm Im Jm => Cl K (dy + 10) 112 [.ref (B + 46)] wm Im Jm) s b := by
  intro c sl G Q Ix Jx wm Im Jm hO hNX hS hNM hJ hQ hD
  obtain ⟨hcn, hr1, hXT, hMR⟩ := JS_c hJ
  have hn := hX.2.1
  have hkb := kX_b (bs := bs) (t := t) (c := c) (r := 0)
  have hlen : Q → (G.2.2.2 G.1).length ≤ 120 := fun z => by have := (hQ z).2; omega
  have e37 := s_37 (K := K) (d := dx + 3) (J := Jx) H hXT hn
  have r1 : ¬ kX bs t c 0 = 1 → ¬ kX bs t c 0 = 40 → Xo K (dx + 4) B (it s) w Ix Jx = Cl K (dx + 4) 72 [.ref (B + 2)] w Ix Jx := by
    intro h1 h2
    unfold Xo
    rw [e37]
    simp only [cI_e]
    rw [if_pos (show ¬ it (kX bs t c 0 : Nat) = it 1 from (fun q => by have := (it_eq (by omega) (by omega) (by omega) (by omega)).mp q; omega)), if_pos (show ¬ it (kX bs t c 0 : Nat) = it 40 from (fun q => by have := (it_eq (by omega) (by omega) (by omega) (by omega)).mp q; omega))]
  have r2 : kX bs t c 0 = 1 → Xo K (dx + 4) B (it s) w Ix Jx = Cl K (dx + 4) 69 [.ref (B + 2), .int (it s)] w Ix Jx := by
    intro h1
    unfold Xo
    rw [e37]
    simp only [cI_e]
    rw [if_neg (fun q => q (by rw [h1]; rfl))]
  by_cases k1 : kX bs t c 0 = 1
  · have goal : Cnc B a bs t n pd dp w f fa (Xo K (dx + 4) B (it s) w Ix Jx) (Cl K (dy + 10) 112 [.ref (B + 46)] wm Im Jm) s b c sl G Q Ix Jx wm Im Jm := by
      rw [r2 k1]
      by_cases k2 : kX bs t (c + 1) 0 = 40
      · exact O_k ha hX H hp hNP hO hNX hNM hS hJ k1 k2 hQ hD hb (hE (dx + 3) (dy + 8) d1 d2)
      · exact O_v (dy := dy + 1) ha hX H hp hNP hNX hNM hS hJ k1 k2 (fun z => by have := (hQ z).2; have := (kX_n hX hcn k1 (by omega) (by omega)).2.1; omega)
    exact goal
  · by_cases k40 : kX bs t c 0 = 40
    · have goal : Cnc B a bs t n pd dp w f fa (Xo K (dx + 4) B (it s) w Ix Jx) (Cl K (dy + 10) 112 [.ref (B + 46)] wm Im Jm) s b c sl G Q Ix Jx wm Im Jm := by
        refine O_p (dx := dx) (dy := dy + 1) ha hX H (show bE ≤ b by omega) (hE (dx + 4) (dy + 9) (by omega) (by omega)) hO hNX hNM hS hJ k40 hQ hD ?_
        intro Ix1 Ix2 Jx2 Ix3 h1 h2 h3
        unfold Xo
        rw [e37]
        simp only [cI_e]
        rw [if_pos (show ¬ it (kX bs t c 0 : Nat) = it 1 from (fun q => by have := (it_eq (by omega) (by omega) (by omega) (by omega)).mp q; omega)), if_neg (fun q => q (by rw [k40]; rfl)), h1]
        simp only [cV_e]
        have h2' : Cl K (dx + 4) 63 [.ref (B + 2), .int (it 0), .int (it s)] w Ix1 Jx = some (none, w, Ix2, Jx2) := h2
        rw [h2']
        simp only [cV_e, gO_e (yt2 H), gV_e (yp2_0 H), gO_e (yt3 H)]
        exact h3
      exact goal
    · have goal : Cnc B a bs t n pd dp w f fa (Xo K (dx + 4) B (it s) w Ix Jx) (Cl K (dy + 10) 112 [.ref (B + 46)] wm Im Jm) s b c sl G Q Ix Jx wm Im Jm := by
        rw [r1 k1 k40]
        by_cases kc : kX bs t c 0 = 2 ∨ kX bs t c 0 = 266 ∨ kX bs t c 0 = 267 ∨ kX bs t c 0 = 268
        · exact O_c (dy := dy + 1) ha hX H hp hS hJ kc (fun z => by have := hlen z; omega)
        · exact O_r (dy := dy + 1) ha hX H hS hJ (by omega) k40 k1
      exact goal
/-! an op ahead -/
def uo (o : Nat) : Nat := if o = 6 then 1 else if o = 7 then 2 else if o = 8 then 3 else if o = 9 then 3 else 0
def po (o : Nat) : Nat := if o = 6 then 1 else if o = 9 then 3 else if o = 10 then 2 else 0
theorem uo_f {o u : Nat} (o5 : 5 ≤ o) (o10 : o ≤ 10) (u3 : u ≤ 3) : (it ((u : Nat) : Int) = it (uo o : Nat) ↔ fitN o u 0) ∧ tbl 2 (o - 5) = it (po o : Nat) ∧ po o ≤ 3 := by
  have key : ∀ (j : Fin 6) (u : Fin 4), (it ((u.val : Nat) : Int) = it (uo (j.val + 5) : Nat) ↔ fitN (j.val + 5) u.val 0) ∧ tbl 2 (j.val + 5 - 5) = it (po (j.val + 5) : Nat) ∧ po (j.val + 5) ≤ 3 := by decide +kernel
  have := key ⟨o - 5, by omega⟩ ⟨u, by omega⟩
  simp only [show o - 5 + 5 = o by omega] at this
  exact this
theorem opa_i : ∀ k : Fin 276, opa k.val = -1 ∨ (5 ≤ opa k.val ∧ opa k.val ≤ 10 ∧ ¬ k.val = 0 ∧ ¬ k.val = 3) := by decide +kernel
theorem s_109 (hX : TX bs t n) (H : Lay B w) (hT : MR B bs t n c 0 I) : Cl K (d + 2) 109 [.ref (B + 46)] w I J = some (some (.int (it (if opa (kX bs t c 0) = -1 then 0 else opa (kX bs t c 0)))), w, I, J) := by
  have e1 := s_94 (K := K) (d := d) (J := J) H hT hX (show it 45 = it ((45 : Nat) : Int) from rfl) (by decide)
  have e2 := s_89 (K := K) (d := d) (J := J) H hT (show it 13 = it ((13 : Nat) : Int) from rfl) (by omega)
  have e3 := s_89 (K := K) (d := d) (J := J) H hT (show it 17 = it ((17 : Nat) : Int) from rfl) (by omega)
  have e4 := s_89 (K := K) (d := d) (J := J) H hT (show it 18 = it ((18 : Nat) : Int) from rfl) (by omega)
  have e5 := s_89 (K := K) (d := d) (J := J) H hT (show it 19 = it ((19 : Nat) : Int) from rfl) (by omega)
  have e6 := s_89 (K := K) (d := d) (J := J) H hT (show it 16 = it ((16 : Nat) : Int) from rfl) (by omega)
  rw [show cvt 13 = 269 from rfl] at e2
  rw [show cvt 17 = 273 from rfl] at e3
  rw [show cvt 18 = 274 from rfl] at e4
  rw [show cvt 19 = 275 from rfl] at e5
  rw [show cvt 16 = 272 from rfl] at e6
  apply cl_109 (k := 0)
  unfold f_109
  simp only [it_lit, gO_e (yt46 H)]
  rw [e1]
  simp only [cI_e, gO_e (yt46 H)]
  by_cases k1 : kX bs t c 0 = 45
  · rw [if_pos k1, if_neg (show ¬ it 1 = it 0 by decide), k1]; rfl
  · rw [if_neg k1, if_pos rfl, e2]
    simp only [cI_e, gO_e (yt46 H)]
    by_cases k2 : kX bs t c 0 = 269
    · rw [if_pos k2, if_neg (show ¬ it 1 = it 0 by decide), k2]; rfl
    · rw [if_neg k2, if_pos rfl, e3]
      simp only [cI_e, gO_e (yt46 H)]
      by_cases k3 : kX bs t c 0 = 273
      · rw [if_pos k3, if_neg (show ¬ it 1 = it 0 by decide), k3]; rfl
      · rw [if_neg k3, if_pos rfl, e4]
        simp only [cI_e, gO_e (yt46 H)]
        by_cases k4 : kX bs t c 0 = 274
        · rw [if_pos k4, if_neg (show ¬ it 1 = it 0 by decide), k4]; rfl
        · rw [if_neg k4, if_pos rfl, e5]
          simp only [cI_e, gO_e (yt46 H)]
          by_cases k5 : kX bs t c 0 = 275
          · rw [if_pos k5, if_neg (show ¬ it 1 = it 0 by decide), k5]; rfl
          · rw [if_neg k5, if_pos rfl, e6]
            simp only [cI_e]
            by_cases k6 : kX bs t c 0 = 272
            · rw [if_pos k6, if_neg (show ¬ it 1 = it 0 by decide), k6]; rfl
            · rw [if_neg k6, if_pos rfl]
              have : opa (kX bs t c 0) = -1 := by unfold opa; rw [if_neg k1, if_neg k2, if_neg k6, if_neg k3, if_neg k4, if_neg k5]
              rw [this]; rfl
theorem x_64o {dx o : Nat} {sx : Int32} {Ix1 Ix2 Ix3 : aI} {Jx2 Jx3 : aJ} (hX : TX bs t n) (H : Lay B w) (hXT : XT B bs t n c 0 Ix) (hs : s < 8) (hsx : sx = it ((s : Int) + 1)) (ho : opa (kX bs t c 0) = (o : Int)) (h1 : Cl K (dx + 4) 42 [.ref (B + 3)] w Ix Jx = some (none, w, Ix1, Jx)) (h2 : Cl K (dx + 4) 64 [.ref (B + 2), .int sx] w Ix1 Jx = some (none, w, Ix2, Jx2)) (h3 : Cl K (dx + 4) 66 [.ref (B + 2), .int (it o), .int (it (tst bs t c : Nat))] w Ix2 Jx2 = some (none, w, Ix3, Jx3)) : Cl K (dx + 5) 64 [.ref (B + 2), .int (it s)] w Ix Jx = some (none, w, Ix3, Jx3) := by
  subst hsx
  have hkb := kX_b (bs := bs) (t := t) (c := c) (r := 0)
  have hob : (o : Int) ≤ 10 := by
    have := opa_i ⟨kX bs t c 0, by omega⟩
    simp only at this
    omega
  apply cl_64 (k := 0)
  unfold f_64
  simp only [it_lit, gO_e (yt2 H), gV_e (yp2_0 H), gO_e (yt3 H)]
  rw [if_pos ((it_lt (by omega) (by omega) (by omega) (by omega)).mpr (by omega)), s_44 (d := dx + 3) H hXT hX.2.1]
  simp only [cI_e, gO_e (yt2 H), gV_e (yp2_0 H), gO_e (yt3 H)]
  rw [s_37 (d := dx + 3) H hXT hX.2.1]
  simp only [cI_e]
  rw [s_65 (d := dx + 3) hkb, ho]
  simp only [cI_e, it_neg, gO_e (yt2 H), gV_e (yp2_0 H), gO_e (yt3 H)]
  rw [if_neg (fun q => by have := (it_eq (by omega) (by omega) (by omega) (by omega)).mp q; omega), h1]
  simp only [cV_e, gO_e (yt2 H), it_add]
  rw [h2]
  simp only [cV_e, gO_e (yt2 H)]
  rw [h3]
  rfl
theorem x_64k {dx : Nat} {sx : Int32} {Ix1 : aI} {Jx1 : aJ} {R : aR} (hX : TX bs t n) (H : Lay B w) (hXT : XT B bs t n c 0 Ix) (hs : s < 8) (hsx : sx = it ((s : Int) + 1)) (ho : opa (kX bs t c 0) = -1) (h1 : Xo K (dx + 4) B sx w Ix Jx = some (none, w, Ix1, Jx1)) (h2 : f_64_119 K 300 (dx + 4) (B + 2) (it s) (it (tst bs t c : Nat)) (it (kX bs t c 0 : Nat)) (it (-1)) (it 0) w Ix1 Jx1 = some R) : Cl K (dx + 5) 64 [.ref (B + 2), .int (it s)] w Ix Jx = some R := by
  subst hsx
  have hkb := kX_b (bs := bs) (t := t) (c := c) (r := 0)
  have e37 := s_37 (K := K) (d := dx + 3) (J := Jx) H hXT hX.2.1
  have tail : f_64_116 K 300 (dx + 4) (B + 2) (it s) (it (tst bs t c : Nat)) (it (kX bs t c 0 : Nat)) (it (-1)) w Ix1 Jx1 = some R := by
    unfold f_64_116
    simp only [it_lit]
    exact h2
  unfold Xo at h1
  rw [e37] at h1
  simp only [cI_e] at h1
  apply cl_64 (k := 300)
  unfold f_64
  simp only [it_lit, gO_e (yt2 H), gV_e (yp2_0 H), gO_e (yt3 H)]
  rw [if_pos ((it_lt (by omega) (by omega) (by omega) (by omega)).mpr (by omega)), s_44 (d := dx + 3) H hXT hX.2.1]
  simp only [cI_e, gO_e (yt2 H), gV_e (yp2_0 H), gO_e (yt3 H)]
  rw [e37]
  simp only [cI_e]
  rw [s_65 (d := dx + 3) hkb, ho]
  simp only [cI_e, it_neg, gO_e (yt2 H), gV_e (yp2_0 H), gO_e (yt3 H), it_add]
  rw [if_pos trivial]
  by_cases k1 : it (kX bs t c 0 : Nat) = it 1
  · rw [if_neg (fun q => q k1)] at h1 ⊢
    rw [h1]
    exact tail
  · rw [if_pos k1] at h1 ⊢
    by_cases k40 : it (kX bs t c 0 : Nat) = it 40
    · rw [if_neg (fun q => q k40)] at h1 ⊢
      obtain ⟨Ix2, x1, x2, x3⟩ := s_42k (K := K) (d := dx + 3) (J := Jx) hX H hXT rfl (by
        have := (it_eq (by omega) (by omega) (by omega) (by omega)).mp k40; omega) (by
        have := (it_eq (by omega) (by omega) (by omega) (by omega)).mp k40; omega)
      rw [x1] at h1 ⊢
      simp only [cV_e, gO_e (yt2 H)] at h1 ⊢
      obtain ⟨w1, I1, J1, c1, c2⟩ := cV_s h1
      obtain ⟨⟨n1, g1⟩, c3⟩ := gO_s c2
      obtain ⟨q, g2, c4⟩ := gV_s c3
      obtain ⟨⟨n3, g3⟩, c5⟩ := gO_s c4
      rw [c1]
      simp only [cV_e]
      rw [gO_e g1, gV_e g2, gO_e g3, c5]
      exact tail
    · rw [if_pos k40] at h1 ⊢
      rw [h1]
      exact tail
end UND

/-! the two constructors (own program: wip/whole/gen_con.py) -/
/-- pointers, in the order in which they are written -/
def lpW : List (Nat × Nat × Nat) := [(0, 0, 1), (3, 0, 4), (3, 1, 5), (3, 2, 6), (3, 3, 7), (2, 0, 3), (8, 0, 9), (8, 1, 10), (8, 2, 11), (8, 3, 12), (8, 4, 13), (8, 5, 14), (2, 1, 8), (2, 4, 15), (2, 5, 16), (2, 9, 17), (2, 10, 18), (2, 12, 19), (2, 13, 20), (2, 14, 21), (0, 2, 2), (22, 0, 23), (22, 1, 24), (22, 2, 25), (22, 3, 26), (22, 4, 27), (22, 5, 28), (0, 3, 22), (29, 1, 30), (29, 2, 31), (29, 3, 32), (29, 4, 33), (29, 5, 34), (29, 6, 35), (29, 0, 22), (0, 4, 29), (0, 6, 36), (0, 7, 37), (38, 0, 39), (36, 0, 38), (40, 0, 41), (36, 1, 40), (42, 0, 43), (36, 2, 42), (44, 0, 45), (36, 3, 44), (46, 0, 47), (46, 1, 48), (46, 6, 49), (46, 7, 50), (46, 8, 51), (46, 9, 52), (46, 10, 53), (46, 11, 54), (46, 12, 55), (46, 14, 56), (46, 15, 57), (46, 18, 58), (46, 19, 59), (46, 20, 60), (46, 21, 61), (46, 32, 62), (46, 33, 63), (46, 34, 64), (46, 36, 65), (46, 37, 66), (46, 38, 67), (46, 39, 68), (46, 40, 69), (46, 43, 70), (46, 44, 71), (46, 45, 72), (46, 46, 73), (46, 47, 74)]
def vv0 : Nat → Nat → Int32 := kwV (fun _ => 0)
def vv1 : Nat → Nat → Int32 := kwV (kwS (gsb.getD 0 []) 95 0 0 0 (fun _ => 0))
def vv2 : Nat → Nat → Int32 := sm_up2 vv1 2 6 (-1)
def vv3 : Nat → Nat → Int32 := sm_up2 vv2 2 7 (-1)
def vv4 : Nat → Nat → Int32 := sm_up2 vv3 0 9 (-1)
def vv5 : Nat → Nat → Int32 := sm_up2 vv4 46 4 (-1)
section CONS
variable {K : Nat → Value} {B d : Nat} {w0 : aW} {I0 : aI}
theorem con3_3 {w : aW} {I : aI} {J : aJ} (hO : StO K B w0 I0) (h : CBd K lpW B w0 I0 4 1 0 vv0 272 w I J) : Fi (Cl K (d + 18) 3 [.ref (B + 3)] w I J) (CBdR K lpW B w0 I0 8 5 0 vv1 1015) := by
  refine F_cl (fun R hR => cl_3 (k := 96) hR) ?_
  unfold f_3
  refine F_gC (by decide +kernel) ?_
  refine F_al (n := 4) (n' := 5) (s' := 513) h (by decide +kernel) (fun _ => rfl) (by decide) rfl (by decide +kernel) ?_
  clear h w I J
  intro w I J h
  refine F_pr (z := 0) (i := 3) (k := 0) (j := 4) (m := 1) (m' := 2) h (by decide +kernel) (by decide) (by decide +kernel) (by decide +kernel) (by decide) rfl ?_
  clear h w
  intro w h
  refine F_gC (by decide +kernel) ?_
  refine F_al (n := 5) (n' := 6) (s' := 754) h (by decide +kernel) (fun _ => rfl) (by decide) rfl (by decide +kernel) ?_
  clear h w I J
  intro w I J h
  refine F_pr (z := 0) (i := 3) (k := 1) (j := 5) (m := 2) (m' := 3) h (by decide +kernel) (by decide) (by decide +kernel) (by decide +kernel) (by decide) rfl ?_
  clear h w
  intro w h
  refine F_gC (by decide +kernel) ?_
  refine F_al (n := 6) (n' := 7) (s' := 995) h (by decide +kernel) (fun _ => rfl) (by decide) rfl (by decide +kernel) ?_
  clear h w I J
  intro w I J h
  refine F_pr (z := 0) (i := 3) (k := 2) (j := 6) (m := 3) (m' := 4) h (by decide +kernel) (by decide) (by decide +kernel) (by decide +kernel) (by decide) rfl ?_
  clear h w
  intro w h
  refine F_gC (by decide +kernel) ?_
  refine F_al (n := 7) (n' := 8) (s' := 1015) h (by decide +kernel) (fun _ => rfl) (by decide) rfl (by decide +kernel) ?_
  clear h w I J
  intro w I J h
  refine F_pr (z := 0) (i := 3) (k := 3) (j := 7) (m := 4) (m' := 5) h (by decide +kernel) (by decide) (by decide +kernel) (by decide +kernel) (by decide) rfl ?_
  clear h w
  intro w h
  refine F_p0 (z := 0) (i := 3) (k := 4) h (by decide +kernel) (by decide) rfl ?_
  clear h I
  intro I h
  refine F_p0 (z := 0) (i := 3) (k := 5) h (by decide +kernel) (by decide) rfl ?_
  clear h I
  intro I h
  refine F_p0 (z := 0) (i := 3) (k := 6) h (by decide +kernel) (by decide) rfl ?_
  clear h I
  intro I h
  exact kw_run hO (by decide) (by decide +kernel) h
theorem con12_8 {w : aW} {I : aI} {J : aJ} (h : CBd K lpW B w0 I0 9 6 0 vv1 1023 w I J) : Fi (Cl K (d + 1) 12 [.ref (B + 8)] w I J) (CBdR K lpW B w0 I0 15 12 0 vv1 1873) := by
  refine F_cl (fun R hR => cl_12 (k := 0) hR) ?_
  unfold f_12
  refine F_gC (by decide +kernel) ?_
  refine F_al (n := 9) (n' := 10) (s' := 1223) h (by decide +kernel) (fun _ => rfl) (by decide) rfl (by decide +kernel) ?_
  clear h w I J
  intro w I J h
  refine F_pr (z := 0) (i := 8) (k := 0) (j := 9) (m := 6) (m' := 7) h (by decide +kernel) (by decide) (by decide +kernel) (by decide +kernel) (by decide) rfl ?_
  clear h w
  intro w h
  refine F_gC (by decide +kernel) ?_
  refine F_al (n := 10) (n' := 11) (s' := 1423) h (by decide +kernel) (fun _ => rfl) (by decide) rfl (by decide +kernel) ?_
  clear h w I J
  intro w I J h
  refine F_pr (z := 0) (i := 8) (k := 1) (j := 10) (m := 7) (m' := 8) h (by decide +kernel) (by decide) (by decide +kernel) (by decide +kernel) (by decide) rfl ?_
  clear h w
  intro w h
  refine F_gC (by decide +kernel) ?_
  refine F_al (n := 11) (n' := 12) (s' := 1623) h (by decide +kernel) (fun _ => rfl) (by decide) rfl (by decide +kernel) ?_
  clear h w I J
  intro w I J h
  refine F_pr (z := 0) (i := 8) (k := 2) (j := 11) (m := 8) (m' := 9) h (by decide +kernel) (by decide) (by decide +kernel) (by decide +kernel) (by decide) rfl ?_
  clear h w
  intro w h
  refine F_gC (by decide +kernel) ?_
  refine F_al (n := 12) (n' := 13) (s' := 1823) h (by decide +kernel) (fun _ => rfl) (by decide) rfl (by decide +kernel) ?_
  clear h w I J
  intro w I J h
  refine F_pr (z := 0) (i := 8) (k := 3) (j := 12) (m := 9) (m' := 10) h (by decide +kernel) (by decide) (by decide +kernel) (by decide +kernel) (by decide) rfl ?_
  clear h w
  intro w h
  refine F_gC (by decide +kernel) ?_
  refine F_al (n := 13) (n' := 14) (s' := 1843) h (by decide +kernel) (fun _ => rfl) (by decide) rfl (by decide +kernel) ?_
  clear h w I J
  intro w I J h
  refine F_pr (z := 0) (i := 8) (k := 4) (j := 13) (m := 10) (m' := 11) h (by decide +kernel) (by decide) (by decide +kernel) (by decide +kernel) (by decide) rfl ?_
  clear h w
  intro w h
  refine F_gC (by decide +kernel) ?_
  refine F_al (n := 14) (n' := 15) (s' := 1873) h (by decide +kernel) (fun _ => rfl) (by decide) rfl (by decide +kernel) ?_
  clear h w I J
  intro w I J h
  refine F_pr (z := 0) (i := 8) (k := 5) (j := 14) (m := 11) (m' := 12) h (by decide +kernel) (by decide) (by decide +kernel) (by decide +kernel) (by decide) rfl ?_
  clear h w
  intro w h
  refine F_p0 (z := 0) (i := 8) (k := 6) h (by decide +kernel) (by decide) rfl ?_
  clear h I
  intro I h
  refine F_p0 (z := 0) (i := 8) (k := 7) h (by decide +kernel) (by decide) rfl ?_
  clear h I
  intro I h
  exact F_ret h
theorem con2_2 {w : aW} {I : aI} {J : aJ} (hO : StO K B w0 I0) (h : CBd K lpW B w0 I0 3 1 0 vv0 265 w I J) : Fi (Cl K (d + 19) 2 [.ref (B + 2)] w I J) (CBdR K lpW B w0 I0 22 20 0 vv3 2374) := by
  refine F_cl (fun R hR => cl_2 (k := 0) hR) ?_
  unfold f_2
  refine F_al (n := 3) (n' := 4) (s' := 272) h (by decide +kernel) (fun _ => rfl) (by decide) rfl (by decide +kernel) ?_
  clear h w I J
  intro w I J h
  refine F_cV (con3_3 hO h) ?_
  clear h w I J
  intro w I J h
  refine F_pr (z := 0) (i := 2) (k := 0) (j := 3) (m := 5) (m' := 6) h (by decide +kernel) (by decide) (by decide +kernel) (by decide +kernel) (by decide) rfl ?_
  clear h w
  intro w h
  refine F_al (n := 8) (n' := 9) (s' := 1023) h (by decide +kernel) (fun _ => rfl) (by decide) rfl (by decide +kernel) ?_
  clear h w I J
  intro w I J h
  refine F_cV (con12_8 h) ?_
  clear h w I J
  intro w I J h
  refine F_pr (z := 0) (i := 2) (k := 1) (j := 8) (m := 12) (m' := 13) h (by decide +kernel) (by decide) (by decide +kernel) (by decide +kernel) (by decide) rfl ?_
  clear h w
  intro w h
  refine F_p0 (z := 0) (i := 2) (k := 2) h (by decide +kernel) (by decide) rfl ?_
  clear h I
  intro I h
  refine F_p0 (z := 0) (i := 2) (k := 3) h (by decide +kernel) (by decide) rfl ?_
  clear h I
  intro I h
  refine F_gC (by decide +kernel) ?_
  refine F_al (n := 15) (n' := 16) (s' := 1899) h (by decide +kernel) (fun _ => rfl) (by decide) rfl (by decide +kernel) ?_
  clear h w I J
  intro w I J h
  refine F_pr (z := 0) (i := 2) (k := 4) (j := 15) (m := 13) (m' := 14) h (by decide +kernel) (by decide) (by decide +kernel) (by decide +kernel) (by decide) rfl ?_
  clear h w
  intro w h
  refine F_gC (by decide +kernel) ?_
  refine F_al (n := 16) (n' := 17) (s' := 1925) h (by decide +kernel) (fun _ => rfl) (by decide) rfl (by decide +kernel) ?_
  clear h w I J
  intro w I J h
  refine F_pr (z := 0) (i := 2) (k := 5) (j := 16) (m := 14) (m' := 15) h (by decide +kernel) (by decide) (by decide +kernel) (by decide +kernel) (by decide) rfl ?_
  clear h w
  intro w h
  refine F_pi (z := 0) (i := 2) (k := 6) (x := -1) (V' := vv2) h (by decide +kernel) (by decide) rfl ?_
  clear h I
  intro I h
  refine F_pi (z := 0) (i := 2) (k := 7) (x := -1) (V' := vv3) h (by decide +kernel) (by decide) rfl ?_
  clear h I
  intro I h
  refine F_p0 (z := 0) (i := 2) (k := 8) h (by decide +kernel) (by decide) rfl ?_
  clear h I
  intro I h
  refine F_gC (by decide +kernel) ?_
  refine F_al (n := 17) (n' := 18) (s' := 2053) h (by decide +kernel) (fun _ => rfl) (by decide) rfl (by decide +kernel) ?_
  clear h w I J
  intro w I J h
  refine F_pr (z := 0) (i := 2) (k := 9) (j := 17) (m := 15) (m' := 16) h (by decide +kernel) (by decide) (by decide +kernel) (by decide +kernel) (by decide) rfl ?_
  clear h w
  intro w h
  refine F_gC (by decide +kernel) ?_
  refine F_al (n := 18) (n' := 19) (s' := 2182) h (by decide +kernel) (fun _ => rfl) (by decide) rfl (by decide +kernel) ?_
  clear h w I J
  intro w I J h
  refine F_pr (z := 0) (i := 2) (k := 10) (j := 18) (m := 16) (m' := 17) h (by decide +kernel) (by decide) (by decide +kernel) (by decide +kernel) (by decide) rfl ?_
  clear h w
  intro w h
  refine F_p0 (z := 0) (i := 2) (k := 11) h (by decide +kernel) (by decide) rfl ?_
  clear h I
  intro I h
  refine F_gC (by decide +kernel) ?_
  refine F_al (n := 19) (n' := 20) (s' := 2246) h (by decide +kernel) (fun _ => rfl) (by decide) rfl (by decide +kernel) ?_
  clear h w I J
  intro w I J h
  refine F_pr (z := 0) (i := 2) (k := 12) (j := 19) (m := 17) (m' := 18) h (by decide +kernel) (by decide) (by decide +kernel) (by decide +kernel) (by decide) rfl ?_
  clear h w
  intro w h
  refine F_gC (by decide +kernel) ?_
  refine F_al (n := 20) (n' := 21) (s' := 2310) h (by decide +kernel) (fun _ => rfl) (by decide) rfl (by decide +kernel) ?_
  clear h w I J
  intro w I J h
  refine F_pr (z := 0) (i := 2) (k := 13) (j := 20) (m := 18) (m' := 19) h (by decide +kernel) (by decide) (by decide +kernel) (by decide +kernel) (by decide) rfl ?_
  clear h w
  intro w h
  refine F_gC (by decide +kernel) ?_
  refine F_al (n := 21) (n' := 22) (s' := 2374) h (by decide +kernel) (fun _ => rfl) (by decide) rfl (by decide +kernel) ?_
  clear h w I J
  intro w I J h
  refine F_pr (z := 0) (i := 2) (k := 14) (j := 21) (m := 19) (m' := 20) h (by decide +kernel) (by decide) (by decide +kernel) (by decide +kernel) (by decide) rfl ?_
  clear h w
  intro w h
  exact F_ret h
theorem con12_22 {w : aW} {I : aI} {J : aJ} (h : CBd K lpW B w0 I0 23 21 0 vv3 2382 w I J) : Fi (Cl K (d + 1) 12 [.ref (B + 22)] w I J) (CBdR K lpW B w0 I0 29 27 0 vv3 3232) := by
  refine F_cl (fun R hR => cl_12 (k := 0) hR) ?_
  unfold f_12
  refine F_gC (by decide +kernel) ?_
  refine F_al (n := 23) (n' := 24) (s' := 2582) h (by decide +kernel) (fun _ => rfl) (by decide) rfl (by decide +kernel) ?_
  clear h w I J
  intro w I J h
  refine F_pr (z := 0) (i := 22) (k := 0) (j := 23) (m := 21) (m' := 22) h (by decide +kernel) (by decide) (by decide +kernel) (by decide +kernel) (by decide) rfl ?_
  clear h w
  intro w h
  refine F_gC (by decide +kernel) ?_
  refine F_al (n := 24) (n' := 25) (s' := 2782) h (by decide +kernel) (fun _ => rfl) (by decide) rfl (by decide +kernel) ?_
  clear h w I J
  intro w I J h
  refine F_pr (z := 0) (i := 22) (k := 1) (j := 24) (m := 22) (m' := 23) h (by decide +kernel) (by decide) (by decide +kernel) (by decide +kernel) (by decide) rfl ?_
  clear h w
  intro w h
  refine F_gC (by decide +kernel) ?_
  refine F_al (n := 25) (n' := 26) (s' := 2982) h (by decide +kernel) (fun _ => rfl) (by decide) rfl (by decide +kernel) ?_
  clear h w I J
  intro w I J h
  refine F_pr (z := 0) (i := 22) (k := 2) (j := 25) (m := 23) (m' := 24) h (by decide +kernel) (by decide) (by decide +kernel) (by decide +kernel) (by decide) rfl ?_
  clear h w
  intro w h
  refine F_gC (by decide +kernel) ?_
  refine F_al (n := 26) (n' := 27) (s' := 3182) h (by decide +kernel) (fun _ => rfl) (by decide) rfl (by decide +kernel) ?_
  clear h w I J
  intro w I J h
  refine F_pr (z := 0) (i := 22) (k := 3) (j := 26) (m := 24) (m' := 25) h (by decide +kernel) (by decide) (by decide +kernel) (by decide +kernel) (by decide) rfl ?_
  clear h w
  intro w h
  refine F_gC (by decide +kernel) ?_
  refine F_al (n := 27) (n' := 28) (s' := 3202) h (by decide +kernel) (fun _ => rfl) (by decide) rfl (by decide +kernel) ?_
  clear h w I J
  intro w I J h
  refine F_pr (z := 0) (i := 22) (k := 4) (j := 27) (m := 25) (m' := 26) h (by decide +kernel) (by decide) (by decide +kernel) (by decide +kernel) (by decide) rfl ?_
  clear h w
  intro w h
  refine F_gC (by decide +kernel) ?_
  refine F_al (n := 28) (n' := 29) (s' := 3232) h (by decide +kernel) (fun _ => rfl) (by decide) rfl (by decide +kernel) ?_
  clear h w I J
  intro w I J h
  refine F_pr (z := 0) (i := 22) (k := 5) (j := 28) (m := 26) (m' := 27) h (by decide +kernel) (by decide) (by decide +kernel) (by decide +kernel) (by decide) rfl ?_
  clear h w
  intro w h
  refine F_p0 (z := 0) (i := 22) (k := 6) h (by decide +kernel) (by decide) rfl ?_
  clear h I
  intro I h
  refine F_p0 (z := 0) (i := 22) (k := 7) h (by decide +kernel) (by decide) rfl ?_
  clear h I
  intro I h
  exact F_ret h
theorem con13_29 {w : aW} {I : aI} {J : aJ} (h : CBd K lpW B w0 I0 30 28 0 vv3 3241 w I J) : Fi (Cl K (d + 5) 13 [.ref (B + 29), .ref (B + 22)] w I J) (CBdR K lpW B w0 I0 36 35 0 vv3 6359) := by
  refine F_cl (fun R hR => cl_13 (k := 0) hR) ?_
  unfold f_13
  refine F_gC (by decide +kernel) ?_
  refine F_al (n := 30) (n' := 31) (s' := 3568) h (by decide +kernel) (fun _ => rfl) (by decide) rfl (by decide +kernel) ?_
  clear h w I J
  intro w I J h
  refine F_pr (z := 0) (i := 29) (k := 1) (j := 30) (m := 28) (m' := 29) h (by decide +kernel) (by decide) (by decide +kernel) (by decide +kernel) (by decide) rfl ?_
  clear h w
  intro w h
  refine F_gC (by decide +kernel) ?_
  refine F_al (n := 31) (n' := 32) (s' := 3895) h (by decide +kernel) (fun _ => rfl) (by decide) rfl (by decide +kernel) ?_
  clear h w I J
  intro w I J h
  refine F_pr (z := 0) (i := 29) (k := 2) (j := 31) (m := 29) (m' := 30) h (by decide +kernel) (by decide) (by decide +kernel) (by decide +kernel) (by decide) rfl ?_
  clear h w
  intro w h
  refine F_gC (by decide +kernel) ?_
  refine F_al (n := 32) (n' := 33) (s' := 3927) h (by decide +kernel) (fun _ => rfl) (by decide) rfl (by decide +kernel) ?_
  clear h w I J
  intro w I J h
  refine F_pr (z := 0) (i := 29) (k := 3) (j := 32) (m := 30) (m' := 31) h (by decide +kernel) (by decide) (by decide +kernel) (by decide +kernel) (by decide) rfl ?_
  clear h w
  intro w h
  refine F_gC (by decide +kernel) ?_
  refine F_al (n := 33) (n' := 34) (s' := 5079) h (by decide +kernel) (fun _ => rfl) (by decide) rfl (by decide +kernel) ?_
  clear h w I J
  intro w I J h
  refine F_pr (z := 0) (i := 29) (k := 4) (j := 33) (m := 31) (m' := 32) h (by decide +kernel) (by decide) (by decide +kernel) (by decide +kernel) (by decide) rfl ?_
  clear h w
  intro w h
  refine F_gC (by decide +kernel) ?_
  refine F_al (n := 34) (n' := 35) (s' := 6231) h (by decide +kernel) (fun _ => rfl) (by decide) rfl (by decide +kernel) ?_
  clear h w I J
  intro w I J h
  refine F_pr (z := 0) (i := 29) (k := 5) (j := 34) (m := 32) (m' := 33) h (by decide +kernel) (by decide) (by decide +kernel) (by decide +kernel) (by decide) rfl ?_
  clear h w
  intro w h
  refine F_gC (by decide +kernel) ?_
  refine F_al (n := 35) (n' := 36) (s' := 6359) h (by decide +kernel) (fun _ => rfl) (by decide) rfl (by decide +kernel) ?_
  clear h w I J
  intro w I J h
  refine F_pr (z := 0) (i := 29) (k := 6) (j := 35) (m := 33) (m' := 34) h (by decide +kernel) (by decide) (by decide +kernel) (by decide +kernel) (by decide) rfl ?_
  clear h w
  intro w h
  refine F_p0 (z := 0) (i := 29) (k := 7) h (by decide +kernel) (by decide) rfl ?_
  clear h I
  intro I h
  refine F_p0 (z := 0) (i := 29) (k := 8) h (by decide +kernel) (by decide) rfl ?_
  clear h I
  intro I h
  refine F_pr (z := 0) (i := 29) (k := 0) (j := 22) (m := 34) (m' := 35) h (by decide +kernel) (by decide) (by decide +kernel) (by decide +kernel) (by decide) rfl ?_
  clear h w
  intro w h
  exact F_ret h
theorem con14_38 {w : aW} {I : aI} {J : aJ} (h : CBd K lpW B w0 I0 39 38 0 vv4 6374 w I J) : Fi (Cl K (d + 1) 14 [.ref (B + 38)] w I J) (CBdR K lpW B w0 I0 40 39 0 vv4 6414) := by
  refine F_cl (fun R hR => cl_14 (k := 0) hR) ?_
  unfold f_14
  refine F_gC (by decide +kernel) ?_
  refine F_al (n := 39) (n' := 40) (s' := 6414) h (by decide +kernel) (fun _ => rfl) (by decide) rfl (by decide +kernel) ?_
  clear h w I J
  intro w I J h
  refine F_pr (z := 0) (i := 38) (k := 0) (j := 39) (m := 38) (m' := 39) h (by decide +kernel) (by decide) (by decide +kernel) (by decide +kernel) (by decide) rfl ?_
  clear h w
  intro w h
  refine F_p0 (z := 0) (i := 38) (k := 1) h (by decide +kernel) (by decide) rfl ?_
  clear h I
  intro I h
  refine F_p0 (z := 0) (i := 38) (k := 2) h (by decide +kernel) (by decide) rfl ?_
  clear h I
  intro I h
  exact F_ret h
theorem con14_40 {w : aW} {I : aI} {J : aJ} (h : CBd K lpW B w0 I0 41 40 0 vv4 6417 w I J) : Fi (Cl K (d + 1) 14 [.ref (B + 40)] w I J) (CBdR K lpW B w0 I0 42 41 0 vv4 6457) := by
  refine F_cl (fun R hR => cl_14 (k := 0) hR) ?_
  unfold f_14
  refine F_gC (by decide +kernel) ?_
  refine F_al (n := 41) (n' := 42) (s' := 6457) h (by decide +kernel) (fun _ => rfl) (by decide) rfl (by decide +kernel) ?_
  clear h w I J
  intro w I J h
  refine F_pr (z := 0) (i := 40) (k := 0) (j := 41) (m := 40) (m' := 41) h (by decide +kernel) (by decide) (by decide +kernel) (by decide +kernel) (by decide) rfl ?_
  clear h w
  intro w h
  refine F_p0 (z := 0) (i := 40) (k := 1) h (by decide +kernel) (by decide) rfl ?_
  clear h I
  intro I h
  refine F_p0 (z := 0) (i := 40) (k := 2) h (by decide +kernel) (by decide) rfl ?_
  clear h I
  intro I h
  exact F_ret h
theorem con14_42 {w : aW} {I : aI} {J : aJ} (h : CBd K lpW B w0 I0 43 42 0 vv4 6460 w I J) : Fi (Cl K (d + 1) 14 [.ref (B + 42)] w I J) (CBdR K lpW B w0 I0 44 43 0 vv4 6500) := by
  refine F_cl (fun R hR => cl_14 (k := 0) hR) ?_
  unfold f_14
  refine F_gC (by decide +kernel) ?_
  refine F_al (n := 43) (n' := 44) (s' := 6500) h (by decide +kernel) (fun _ => rfl) (by decide) rfl (by decide +kernel) ?_
  clear h w I J
  intro w I J h
  refine F_pr (z := 0) (i := 42) (k := 0) (j := 43) (m := 42) (m' := 43) h (by decide +kernel) (by decide) (by decide +kernel) (by decide +kernel) (by decide) rfl ?_
  clear h w
  intro w h
  refine F_p0 (z := 0) (i := 42) (k := 1) h (by decide +kernel) (by decide) rfl ?_
  clear h I
  intro I h
  refine F_p0 (z := 0) (i := 42) (k := 2) h (by decide +kernel) (by decide) rfl ?_
  clear h I
  intro I h
  exact F_ret h
theorem con14_44 {w : aW} {I : aI} {J : aJ} (h : CBd K lpW B w0 I0 45 44 0 vv4 6503 w I J) : Fi (Cl K (d + 1) 14 [.ref (B + 44)] w I J) (CBdR K lpW B w0 I0 46 45 0 vv4 6543) := by
  refine F_cl (fun R hR => cl_14 (k := 0) hR) ?_
  unfold f_14
  refine F_gC (by decide +kernel) ?_
  refine F_al (n := 45) (n' := 46) (s' := 6543) h (by decide +kernel) (fun _ => rfl) (by decide) rfl (by decide +kernel) ?_
  clear h w I J
  intro w I J h
  refine F_pr (z := 0) (i := 44) (k := 0) (j := 45) (m := 44) (m' := 45) h (by decide +kernel) (by decide) (by decide +kernel) (by decide +kernel) (by decide) rfl ?_
  clear h w
  intro w h
  refine F_p0 (z := 0) (i := 44) (k := 1) h (by decide +kernel) (by decide) rfl ?_
  clear h I
  intro I h
  refine F_p0 (z := 0) (i := 44) (k := 2) h (by decide +kernel) (by decide) rfl ?_
  clear h I
  intro I h
  exact F_ret h
theorem con1_0 {w : aW} {I : aI} {J : aJ} (hO : StO K B w0 I0) (h : CBd K lpW B w0 I0 1 0 0 vv0 10 w I J) : Fi (Cl K (d + 20) 1 [.ref B] w I J) (CBdR K lpW B w0 I0 46 46 0 vv4 6543) := by
  refine F_cl (fun R hR => cl_1 (k := 5) hR) ?_
  unfold f_1
  refine F_gC (by decide +kernel) ?_
  refine F_al (n := 1) (n' := 2) (s' := 250) h (by decide +kernel) (fun _ => rfl) (by decide) rfl (by decide +kernel) ?_
  clear h w I J
  intro w I J h
  refine F_pr (z := 0) (i := 0) (k := 0) (j := 1) (m := 0) (m' := 1) h (by decide +kernel) (by decide) (by decide +kernel) (by decide +kernel) (by decide) rfl ?_
  clear h w
  intro w h
  refine F_p0 (z := 0) (i := 0) (k := 1) h (by decide +kernel) (by decide) rfl ?_
  clear h I
  intro I h
  refine F_al (n := 2) (n' := 3) (s' := 265) h (by decide +kernel) (fun _ => rfl) (by decide) rfl (by decide +kernel) ?_
  clear h w I J
  intro w I J h
  refine F_cV (con2_2 hO h) ?_
  clear h w I J
  intro w I J h
  refine F_pr (z := 0) (i := 0) (k := 2) (j := 2) (m := 20) (m' := 21) h (by decide +kernel) (by decide) (by decide +kernel) (by decide +kernel) (by decide) rfl ?_
  clear h w
  intro w h
  refine F_al (n := 22) (n' := 23) (s' := 2382) h (by decide +kernel) (fun _ => rfl) (by decide) rfl (by decide +kernel) ?_
  clear h w I J
  intro w I J h
  refine F_cV (con12_22 h) ?_
  clear h w I J
  intro w I J h
  refine F_pr (z := 0) (i := 0) (k := 3) (j := 22) (m := 27) (m' := 28) h (by decide +kernel) (by decide) (by decide +kernel) (by decide +kernel) (by decide) rfl ?_
  clear h w
  intro w h
  refine F_al (n := 29) (n' := 30) (s' := 3241) h (by decide +kernel) (fun _ => rfl) (by decide) rfl (by decide +kernel) ?_
  clear h w I J
  intro w I J h
  rw [gO_e (show w.1 B = some (5, 0) from (h.2.2.1 0 (by decide)).trans (show layT.lookup 0 = some (5, 0) by decide +kernel)), gV_e (show w.2.1 B 3 = some (B + 22) from (h.2.2.2.1 (0, 3, 22) (by decide +kernel)).2)]
  refine F_cV (con13_29 h) ?_
  clear h w I J
  intro w I J h
  refine F_pr (z := 0) (i := 0) (k := 4) (j := 29) (m := 35) (m' := 36) h (by decide +kernel) (by decide) (by decide +kernel) (by decide +kernel) (by decide) rfl ?_
  clear h w
  intro w h
  refine F_p0 (z := 0) (i := 0) (k := 5) h (by decide +kernel) (by decide) rfl ?_
  clear h I
  intro I h
  refine F_gC (by decide +kernel) ?_
  refine F_al (n := 36) (n' := 37) (s' := 6363) h (by decide +kernel) (fun _ => rfl) (by decide) rfl (by decide +kernel) ?_
  clear h w I J
  intro w I J h
  refine F_pr (z := 0) (i := 0) (k := 6) (j := 36) (m := 36) (m' := 37) h (by decide +kernel) (by decide) (by decide +kernel) (by decide +kernel) (by decide) rfl ?_
  clear h w
  intro w h
  refine F_gC (by decide +kernel) ?_
  refine F_al (n := 37) (n' := 38) (s' := 6371) h (by decide +kernel) (fun _ => rfl) (by decide) rfl (by decide +kernel) ?_
  clear h w I J
  intro w I J h
  refine F_pr (z := 0) (i := 0) (k := 7) (j := 37) (m := 37) (m' := 38) h (by decide +kernel) (by decide) (by decide +kernel) (by decide +kernel) (by decide) rfl ?_
  clear h w
  intro w h
  refine F_p0 (z := 0) (i := 0) (k := 8) h (by decide +kernel) (by decide) rfl ?_
  clear h I
  intro I h
  refine F_pi (z := 0) (i := 0) (k := 9) (x := -1) (V' := vv4) h (by decide +kernel) (by decide) rfl ?_
  clear h I
  intro I h
  rw [f_1_88]
  refine F_lt (F_in (by decide +kernel) ?_)
  rw [gO_e (show w.1 B = some (5, 0) from (h.2.2.1 0 (by decide)).trans (show layT.lookup 0 = some (5, 0) by decide +kernel)), gV_e (show w.2.1 B 6 = some (B + 36) from (h.2.2.2.1 (0, 6, 36) (by decide +kernel)).2)]
  refine F_al (n := 38) (n' := 39) (s' := 6374) h (by decide +kernel) (fun _ => rfl) (by decide) rfl (by decide +kernel) ?_
  clear h w I J
  intro w I J h
  refine F_cV (con14_38 h) ?_
  clear h w I J
  intro w I J h
  refine F_gC (by unfold sm_isE; rw [(h.2.2.1 38 (by decide)).trans (show layT.lookup 38 = some (3, 0) by decide +kernel)]; rfl) ?_
  refine F_ar (z := 4) (i := 36) (k := 0) (j := 38) (m := 39) (m' := 40) h (by decide +kernel) (by decide) (by decide +kernel) (by decide +kernel) (by decide +kernel) (by decide +kernel) (by decide) rfl ?_
  clear h w
  intro w h
  refine F_lt ?_
  rw [f_1_88]
  refine F_lt (F_in (by decide +kernel) ?_)
  rw [gO_e (show w.1 B = some (5, 0) from (h.2.2.1 0 (by decide)).trans (show layT.lookup 0 = some (5, 0) by decide +kernel)), gV_e (show w.2.1 B 6 = some (B + 36) from (h.2.2.2.1 (0, 6, 36) (by decide +kernel)).2)]
  refine F_al (n := 40) (n' := 41) (s' := 6417) h (by decide +kernel) (fun _ => rfl) (by decide) rfl (by decide +kernel) ?_
  clear h w I J
  intro w I J h
  refine F_cV (con14_40 h) ?_
  clear h w I J
  intro w I J h
  refine F_gC (by unfold sm_isE; rw [(h.2.2.1 40 (by decide)).trans (show layT.lookup 40 = some (3, 0) by decide +kernel)]; rfl) ?_
  refine F_ar (z := 4) (i := 36) (k := 1) (j := 40) (m := 41) (m' := 42) h (by decide +kernel) (by decide) (by decide +kernel) (by decide +kernel) (by decide +kernel) (by decide +kernel) (by decide) rfl ?_
  clear h w
  intro w h
  refine F_lt ?_
  rw [f_1_88]
  refine F_lt (F_in (by decide +kernel) ?_)
  rw [gO_e (show w.1 B = some (5, 0) from (h.2.2.1 0 (by decide)).trans (show layT.lookup 0 = some (5, 0) by decide +kernel)), gV_e (show w.2.1 B 6 = some (B + 36) from (h.2.2.2.1 (0, 6, 36) (by decide +kernel)).2)]
  refine F_al (n := 42) (n' := 43) (s' := 6460) h (by decide +kernel) (fun _ => rfl) (by decide) rfl (by decide +kernel) ?_
  clear h w I J
  intro w I J h
  refine F_cV (con14_42 h) ?_
  clear h w I J
  intro w I J h
  refine F_gC (by unfold sm_isE; rw [(h.2.2.1 42 (by decide)).trans (show layT.lookup 42 = some (3, 0) by decide +kernel)]; rfl) ?_
  refine F_ar (z := 4) (i := 36) (k := 2) (j := 42) (m := 43) (m' := 44) h (by decide +kernel) (by decide) (by decide +kernel) (by decide +kernel) (by decide +kernel) (by decide +kernel) (by decide) rfl ?_
  clear h w
  intro w h
  refine F_lt ?_
  rw [f_1_88]
  refine F_lt (F_in (by decide +kernel) ?_)
  rw [gO_e (show w.1 B = some (5, 0) from (h.2.2.1 0 (by decide)).trans (show layT.lookup 0 = some (5, 0) by decide +kernel)), gV_e (show w.2.1 B 6 = some (B + 36) from (h.2.2.2.1 (0, 6, 36) (by decide +kernel)).2)]
  refine F_al (n := 44) (n' := 45) (s' := 6503) h (by decide +kernel) (fun _ => rfl) (by decide) rfl (by decide +kernel) ?_
  clear h w I J
  intro w I J h
  refine F_cV (con14_44 h) ?_
  clear h w I J
  intro w I J h
  refine F_gC (by unfold sm_isE; rw [(h.2.2.1 44 (by decide)).trans (show layT.lookup 44 = some (3, 0) by decide +kernel)]; rfl) ?_
  refine F_ar (z := 4) (i := 36) (k := 3) (j := 44) (m := 45) (m' := 46) h (by decide +kernel) (by decide) (by decide +kernel) (by decide +kernel) (by decide +kernel) (by decide +kernel) (by decide) rfl ?_
  clear h w
  intro w h
  refine F_lt ?_
  rw [f_1_88]
  refine F_lt (F_ip (by decide +kernel) (F_ret h))
set_option maxRecDepth 100000 in
set_option maxHeartbeats 8000000 in
theorem con15_46 {w : aW} {I : aI} {J : aJ} (hO : StO K B w0 I0) (h : CBd K lpW B w0 I0 47 46 0 vv4 6591 w I J) : Fi (Cl K (d + 20) 15 [.ref (B + 46)] w I J) (CBdR K lpW B w0 I0 75 74 20 vv5 33080) := by
  refine F_cl (fun R hR => cl_15 (k := 0) hR) ?_
  have hk : ∀ i, i < 20 → ∃ q, K (i + 2) = .ref q ∧ sm_isS K q = true := fun i hi => by
    obtain ⟨a, v, k0, _⟩ := hO.1 (i + 2) (by omega)
    exact ⟨a, k0, isS_i (i := i + 2) (by omega) k0⟩
  unfold f_15
  refine F_gC (by decide +kernel) ?_
  refine F_al (n := 47) (n' := 48) (s' := 6599) h (by decide +kernel) (fun _ => rfl) (by decide) rfl (by decide +kernel) ?_
  clear h w I J
  intro w I J h
  refine F_pr (z := 0) (i := 46) (k := 0) (j := 47) (m := 46) (m' := 47) h (by decide +kernel) (by decide) (by decide +kernel) (by decide +kernel) (by decide) rfl ?_
  clear h w
  intro w h
  refine F_gC (by decide +kernel) ?_
  refine F_al (n := 48) (n' := 49) (s' := 6839) h (by decide +kernel) (fun _ => rfl) (by decide) rfl (by decide +kernel) ?_
  clear h w I J
  intro w I J h
  refine F_pr (z := 0) (i := 46) (k := 1) (j := 48) (m := 47) (m' := 48) h (by decide +kernel) (by decide) (by decide +kernel) (by decide +kernel) (by decide) rfl ?_
  clear h w
  intro w h
  refine F_pi (z := 0) (i := 46) (k := 4) (x := -1) (V' := vv5) h (by decide +kernel) (by decide) rfl ?_
  clear h I
  intro I h
  refine F_gC (by decide +kernel) ?_
  refine F_al (n := 49) (n' := 50) (s' := 6845) h (by decide +kernel) (fun _ => rfl) (by decide) rfl (by decide +kernel) ?_
  clear h w I J
  intro w I J h
  refine F_pr (z := 0) (i := 46) (k := 6) (j := 49) (m := 48) (m' := 49) h (by decide +kernel) (by decide) (by decide +kernel) (by decide +kernel) (by decide) rfl ?_
  clear h w
  intro w h
  refine F_gC (by decide +kernel) ?_
  refine F_al (n := 50) (n' := 51) (s' := 6851) h (by decide +kernel) (fun _ => rfl) (by decide) rfl (by decide +kernel) ?_
  clear h w I J
  intro w I J h
  refine F_pr (z := 0) (i := 46) (k := 7) (j := 50) (m := 49) (m' := 50) h (by decide +kernel) (by decide) (by decide +kernel) (by decide +kernel) (by decide) rfl ?_
  clear h w
  intro w h
  refine F_gC (by decide +kernel) ?_
  refine F_al (n := 51) (n' := 52) (s' := 6857) h (by decide +kernel) (fun _ => rfl) (by decide) rfl (by decide +kernel) ?_
  clear h w I J
  intro w I J h
  refine F_pr (z := 0) (i := 46) (k := 8) (j := 51) (m := 50) (m' := 51) h (by decide +kernel) (by decide) (by decide +kernel) (by decide +kernel) (by decide) rfl ?_
  clear h w
  intro w h
  refine F_gC (by decide +kernel) ?_
  refine F_al (n := 52) (n' := 53) (s' := 6863) h (by decide +kernel) (fun _ => rfl) (by decide) rfl (by decide +kernel) ?_
  clear h w I J
  intro w I J h
  refine F_pr (z := 0) (i := 46) (k := 9) (j := 52) (m := 51) (m' := 52) h (by decide +kernel) (by decide) (by decide +kernel) (by decide +kernel) (by decide) rfl ?_
  clear h w
  intro w h
  refine F_gC (by decide +kernel) ?_
  refine F_al (n := 53) (n' := 54) (s' := 6869) h (by decide +kernel) (fun _ => rfl) (by decide) rfl (by decide +kernel) ?_
  clear h w I J
  intro w I J h
  refine F_pr (z := 0) (i := 46) (k := 10) (j := 53) (m := 52) (m' := 53) h (by decide +kernel) (by decide) (by decide +kernel) (by decide +kernel) (by decide) rfl ?_
  clear h w
  intro w h
  refine F_gC (by decide +kernel) ?_
  refine F_al (n := 54) (n' := 55) (s' := 6905) h (by decide +kernel) (fun _ => rfl) (by decide) rfl (by decide +kernel) ?_
  clear h w I J
  intro w I J h
  refine F_pr (z := 0) (i := 46) (k := 11) (j := 54) (m := 53) (m' := 54) h (by decide +kernel) (by decide) (by decide +kernel) (by decide +kernel) (by decide) rfl ?_
  clear h w
  intro w h
  refine F_gC (by decide +kernel) ?_
  refine F_al (n := 55) (n' := 56) (s' := 6941) h (by decide +kernel) (fun _ => rfl) (by decide) rfl (by decide +kernel) ?_
  clear h w I J
  intro w I J h
  refine F_pr (z := 0) (i := 46) (k := 12) (j := 55) (m := 54) (m' := 55) h (by decide +kernel) (by decide) (by decide +kernel) (by decide +kernel) (by decide) rfl ?_
  clear h w
  intro w h
  refine F_gC (by decide +kernel) ?_
  refine F_al (n := 56) (n' := 57) (s' := 7241) h (by decide +kernel) (fun _ => rfl) (by decide) rfl (by decide +kernel) ?_
  clear h w I J
  intro w I J h
  refine F_pr (z := 0) (i := 46) (k := 14) (j := 56) (m := 55) (m' := 56) h (by decide +kernel) (by decide) (by decide +kernel) (by decide +kernel) (by decide) rfl ?_
  clear h w
  intro w h
  refine F_gC (by decide +kernel) ?_
  refine F_al (n := 57) (n' := 58) (s' := 7541) h (by decide +kernel) (fun _ => rfl) (by decide) rfl (by decide +kernel) ?_
  clear h w I J
  intro w I J h
  refine F_pr (z := 0) (i := 46) (k := 15) (j := 57) (m := 56) (m' := 57) h (by decide +kernel) (by decide) (by decide +kernel) (by decide +kernel) (by decide) rfl ?_
  clear h w
  intro w h
  refine F_gC (by decide +kernel) ?_
  refine F_al (n := 58) (n' := 59) (s' := 7591) h (by decide +kernel) (fun _ => rfl) (by decide) rfl (by decide +kernel) ?_
  clear h w I J
  intro w I J h
  refine F_pr (z := 0) (i := 46) (k := 18) (j := 58) (m := 57) (m' := 58) h (by decide +kernel) (by decide) (by decide +kernel) (by decide +kernel) (by decide) rfl ?_
  clear h w
  intro w h
  refine F_gC (by decide +kernel) ?_
  refine F_al (n := 59) (n' := 60) (s' := 7791) h (by decide +kernel) (fun _ => rfl) (by decide) rfl (by decide +kernel) ?_
  clear h w I J
  intro w I J h
  refine F_pr (z := 0) (i := 46) (k := 19) (j := 59) (m := 58) (m' := 59) h (by decide +kernel) (by decide) (by decide +kernel) (by decide +kernel) (by decide) rfl ?_
  clear h w
  intro w h
  refine F_gC (by decide +kernel) ?_
  refine F_al (n := 60) (n' := 61) (s' := 7991) h (by decide +kernel) (fun _ => rfl) (by decide) rfl (by decide +kernel) ?_
  clear h w I J
  intro w I J h
  refine F_pr (z := 0) (i := 46) (k := 20) (j := 60) (m := 59) (m' := 60) h (by decide +kernel) (by decide) (by decide +kernel) (by decide +kernel) (by decide) rfl ?_
  clear h w
  intro w h
  refine F_gC (by decide +kernel) ?_
  refine F_al (n := 61) (n' := 62) (s' := 8011) h (by decide +kernel) (fun _ => rfl) (by decide) rfl (by decide +kernel) ?_
  clear h w I J
  intro w I J h
  refine F_st (c := 0) (c' := 1) h (by decide) hk (by decide) rfl (by decide +kernel) (by decide +kernel) (by decide +kernel) rfl ?_
  clear h w
  intro w h
  refine F_st (c := 1) (c' := 2) h (by decide) hk (by decide) rfl (by decide +kernel) (by decide +kernel) (by decide +kernel) rfl ?_
  clear h w
  intro w h
  refine F_st (c := 2) (c' := 3) h (by decide) hk (by decide) rfl (by decide +kernel) (by decide +kernel) (by decide +kernel) rfl ?_
  clear h w
  intro w h
  refine F_st (c := 3) (c' := 4) h (by decide) hk (by decide) rfl (by decide +kernel) (by decide +kernel) (by decide +kernel) rfl ?_
  clear h w
  intro w h
  refine F_st (c := 4) (c' := 5) h (by decide) hk (by decide) rfl (by decide +kernel) (by decide +kernel) (by decide +kernel) rfl ?_
  clear h w
  intro w h
  refine F_st (c := 5) (c' := 6) h (by decide) hk (by decide) rfl (by decide +kernel) (by decide +kernel) (by decide +kernel) rfl ?_
  clear h w
  intro w h
  refine F_st (c := 6) (c' := 7) h (by decide) hk (by decide) rfl (by decide +kernel) (by decide +kernel) (by decide +kernel) rfl ?_
  clear h w
  intro w h
  refine F_st (c := 7) (c' := 8) h (by decide) hk (by decide) rfl (by decide +kernel) (by decide +kernel) (by decide +kernel) rfl ?_
  clear h w
  intro w h
  refine F_st (c := 8) (c' := 9) h (by decide) hk (by decide) rfl (by decide +kernel) (by decide +kernel) (by decide +kernel) rfl ?_
  clear h w
  intro w h
  refine F_st (c := 9) (c' := 10) h (by decide) hk (by decide) rfl (by decide +kernel) (by decide +kernel) (by decide +kernel) rfl ?_
  clear h w
  intro w h
  refine F_st (c := 10) (c' := 11) h (by decide) hk (by decide) rfl (by decide +kernel) (by decide +kernel) (by decide +kernel) rfl ?_
  clear h w
  intro w h
  refine F_st (c := 11) (c' := 12) h (by decide) hk (by decide) rfl (by decide +kernel) (by decide +kernel) (by decide +kernel) rfl ?_
  clear h w
  intro w h
  refine F_st (c := 12) (c' := 13) h (by decide) hk (by decide) rfl (by decide +kernel) (by decide +kernel) (by decide +kernel) rfl ?_
  clear h w
  intro w h
  refine F_st (c := 13) (c' := 14) h (by decide) hk (by decide) rfl (by decide +kernel) (by decide +kernel) (by decide +kernel) rfl ?_
  clear h w
  intro w h
  refine F_st (c := 14) (c' := 15) h (by decide) hk (by decide) rfl (by decide +kernel) (by decide +kernel) (by decide +kernel) rfl ?_
  clear h w
  intro w h
  refine F_st (c := 15) (c' := 16) h (by decide) hk (by decide) rfl (by decide +kernel) (by decide +kernel) (by decide +kernel) rfl ?_
  clear h w
  intro w h
  refine F_st (c := 16) (c' := 17) h (by decide) hk (by decide) rfl (by decide +kernel) (by decide +kernel) (by decide +kernel) rfl ?_
  clear h w
  intro w h
  refine F_st (c := 17) (c' := 18) h (by decide) hk (by decide) rfl (by decide +kernel) (by decide +kernel) (by decide +kernel) rfl ?_
  clear h w
  intro w h
  refine F_st (c := 18) (c' := 19) h (by decide) hk (by decide) rfl (by decide +kernel) (by decide +kernel) (by decide +kernel) rfl ?_
  clear h w
  intro w h
  refine F_st (c := 19) (c' := 20) h (by decide) hk (by decide) rfl (by decide +kernel) (by decide +kernel) (by decide +kernel) rfl ?_
  clear h w
  intro w h
  refine F_pr (z := 0) (i := 46) (k := 21) (j := 61) (m := 60) (m' := 61) h (by decide +kernel) (by decide) (by decide +kernel) (by decide +kernel) (by decide) rfl ?_
  clear h w
  intro w h
  refine F_gC (by decide +kernel) ?_
  refine F_al (n := 62) (n' := 63) (s' := 8211) h (by decide +kernel) (fun _ => rfl) (by decide) rfl (by decide +kernel) ?_
  clear h w I J
  intro w I J h
  refine F_pr (z := 0) (i := 46) (k := 32) (j := 62) (m := 61) (m' := 62) h (by decide +kernel) (by decide) (by decide +kernel) (by decide +kernel) (by decide) rfl ?_
  clear h w
  intro w h
  refine F_gC (by decide +kernel) ?_
  refine F_al (n := 63) (n' := 64) (s' := 21011) h (by decide +kernel) (fun _ => rfl) (by decide) rfl (by decide +kernel) ?_
  clear h w I J
  intro w I J h
  refine F_pr (z := 0) (i := 46) (k := 33) (j := 63) (m := 62) (m' := 63) h (by decide +kernel) (by decide) (by decide +kernel) (by decide +kernel) (by decide) rfl ?_
  clear h w
  intro w h
  refine F_gC (by decide +kernel) ?_
  refine F_al (n := 64) (n' := 65) (s' := 21211) h (by decide +kernel) (fun _ => rfl) (by decide) rfl (by decide +kernel) ?_
  clear h w I J
  intro w I J h
  refine F_pr (z := 0) (i := 46) (k := 34) (j := 64) (m := 63) (m' := 64) h (by decide +kernel) (by decide) (by decide +kernel) (by decide +kernel) (by decide) rfl ?_
  clear h w
  intro w h
  refine F_gC (by decide +kernel) ?_
  refine F_al (n := 65) (n' := 66) (s' := 21571) h (by decide +kernel) (fun _ => rfl) (by decide) rfl (by decide +kernel) ?_
  clear h w I J
  intro w I J h
  refine F_pr (z := 0) (i := 46) (k := 36) (j := 65) (m := 64) (m' := 65) h (by decide +kernel) (by decide) (by decide +kernel) (by decide +kernel) (by decide) rfl ?_
  clear h w
  intro w h
  refine F_gC (by decide +kernel) ?_
  refine F_al (n := 66) (n' := 67) (s' := 21931) h (by decide +kernel) (fun _ => rfl) (by decide) rfl (by decide +kernel) ?_
  clear h w I J
  intro w I J h
  refine F_pr (z := 0) (i := 46) (k := 37) (j := 66) (m := 65) (m' := 66) h (by decide +kernel) (by decide) (by decide +kernel) (by decide +kernel) (by decide) rfl ?_
  clear h w
  intro w h
  refine F_gC (by decide +kernel) ?_
  refine F_al (n := 67) (n' := 68) (s' := 32731) h (by decide +kernel) (fun _ => rfl) (by decide) rfl (by decide +kernel) ?_
  clear h w I J
  intro w I J h
  refine F_pr (z := 0) (i := 46) (k := 38) (j := 67) (m := 66) (m' := 67) h (by decide +kernel) (by decide) (by decide +kernel) (by decide +kernel) (by decide) rfl ?_
  clear h w
  intro w h
  refine F_gC (by decide +kernel) ?_
  refine F_al (n := 68) (n' := 69) (s' := 32851) h (by decide +kernel) (fun _ => rfl) (by decide) rfl (by decide +kernel) ?_
  clear h w I J
  intro w I J h
  refine F_pr (z := 0) (i := 46) (k := 39) (j := 68) (m := 67) (m' := 68) h (by decide +kernel) (by decide) (by decide +kernel) (by decide +kernel) (by decide) rfl ?_
  clear h w
  intro w h
  refine F_gC (by decide +kernel) ?_
  refine F_al (n := 69) (n' := 70) (s' := 32855) h (by decide +kernel) (fun _ => rfl) (by decide) rfl (by decide +kernel) ?_
  clear h w I J
  intro w I J h
  refine F_pr (z := 0) (i := 46) (k := 40) (j := 69) (m := 68) (m' := 69) h (by decide +kernel) (by decide) (by decide +kernel) (by decide +kernel) (by decide) rfl ?_
  clear h w
  intro w h
  refine F_gC (by decide +kernel) ?_
  refine F_al (n := 70) (n' := 71) (s' := 32872) h (by decide +kernel) (fun _ => rfl) (by decide) rfl (by decide +kernel) ?_
  clear h w I J
  intro w I J h
  refine F_pr (z := 0) (i := 46) (k := 43) (j := 70) (m := 69) (m' := 70) h (by decide +kernel) (by decide) (by decide +kernel) (by decide +kernel) (by decide) rfl ?_
  clear h w
  intro w h
  refine F_gC (by decide +kernel) ?_
  refine F_al (n := 71) (n' := 72) (s' := 32876) h (by decide +kernel) (fun _ => rfl) (by decide) rfl (by decide +kernel) ?_
  clear h w I J
  intro w I J h
  refine F_pr (z := 0) (i := 46) (k := 44) (j := 71) (m := 70) (m' := 71) h (by decide +kernel) (by decide) (by decide +kernel) (by decide +kernel) (by decide) rfl ?_
  clear h w
  intro w h
  refine F_gC (by decide +kernel) ?_
  refine F_al (n := 72) (n' := 73) (s' := 32880) h (by decide +kernel) (fun _ => rfl) (by decide) rfl (by decide +kernel) ?_
  clear h w I J
  intro w I J h
  refine F_pr (z := 0) (i := 46) (k := 45) (j := 72) (m := 71) (m' := 72) h (by decide +kernel) (by decide) (by decide +kernel) (by decide +kernel) (by decide) rfl ?_
  clear h w
  intro w h
  refine F_gC (by decide +kernel) ?_
  refine F_al (n := 73) (n' := 74) (s' := 33040) h (by decide +kernel) (fun _ => rfl) (by decide) rfl (by decide +kernel) ?_
  clear h w I J
  intro w I J h
  refine F_pr (z := 0) (i := 46) (k := 46) (j := 73) (m := 72) (m' := 73) h (by decide +kernel) (by decide) (by decide +kernel) (by decide +kernel) (by decide) rfl ?_
  clear h w
  intro w h
  refine F_gC (by decide +kernel) ?_
  refine F_al (n := 74) (n' := 75) (s' := 33080) h (by decide +kernel) (fun _ => rfl) (by decide) rfl (by decide +kernel) ?_
  clear h w I J
  intro w I J h
  refine F_pr (z := 0) (i := 46) (k := 47) (j := 74) (m := 73) (m' := 74) h (by decide +kernel) (by decide) (by decide +kernel) (by decide +kernel) (by decide) rfl ?_
  clear h w
  intro w h
  exact F_ret h
end CONS

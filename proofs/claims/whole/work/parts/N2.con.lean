/-! the two constructors (own program: wip/whole/gen_con.py) -/
/-- pointers, in the order in which they are written -/
def lpW : List (Nat × Nat × Nat) := [(0, 0, 1), (3, 0, 4), (3, 1, 5), (3, 2, 6), (3, 3, 7), (2, 0, 3), (8, 0, 9), (8, 1, 10), (8, 2, 11), (8, 3, 12), (8, 4, 13), (8, 5, 14), (2, 1, 8), (2, 4, 15), (2, 5, 16), (2, 9, 17), (2, 10, 18), (2, 12, 19), (2, 13, 20), (2, 14, 21), (0, 2, 2), (22, 0, 23), (22, 1, 24), (22, 2, 25), (22, 3, 26), (22, 4, 27), (22, 5, 28), (0, 3, 22), (30, 0, 31), (30, 1, 32), (30, 2, 33), (30, 3, 34), (30, 4, 35), (30, 5, 36), (29, 0, 30), (29, 1, 37), (29, 2, 38), (29, 3, 39), (29, 4, 40), (29, 5, 41), (29, 6, 42), (0, 4, 29), (0, 6, 43), (0, 7, 44), (45, 0, 46), (43, 0, 45), (47, 0, 48), (43, 1, 47), (49, 0, 50), (43, 2, 49), (51, 0, 52), (43, 3, 51), (53, 0, 54), (53, 1, 55), (53, 6, 56), (53, 7, 57), (53, 8, 58), (53, 9, 59), (53, 10, 60), (53, 11, 61), (53, 12, 62), (53, 14, 63), (53, 15, 64), (53, 18, 65), (53, 19, 66), (53, 20, 67), (53, 21, 68), (53, 32, 69), (53, 33, 70), (53, 34, 71), (53, 36, 72), (53, 37, 73), (53, 38, 74), (53, 39, 75), (53, 40, 76), (53, 43, 77), (53, 44, 78), (53, 45, 79), (53, 46, 80), (53, 47, 81)]
def vv0 : Nat → Nat → Int32 := kwV (fun _ => 0)
def vv1 : Nat → Nat → Int32 := kwV (kwS (gsb.getD 0 []) 95 0 0 0 (fun _ => 0))
def vv2 : Nat → Nat → Int32 := sm_up2 vv1 2 6 (-1)
def vv3 : Nat → Nat → Int32 := sm_up2 vv2 2 7 (-1)
def vv4 : Nat → Nat → Int32 := sm_up2 vv3 0 9 (-1)
def vv5 : Nat → Nat → Int32 := sm_up2 vv4 53 4 (-1)
section CONS
variable {K : Nat → Value} {B d : Nat} {w0 : aW} {I0 : aI}
theorem con3_3 {w : aW} {I : aI} {J : aJ} (hO : StO K B w0 I0) (h : CBd K lpW B w0 I0 4 1 0 vv0 272 w I J) : Fi (Cl K (d + 18) 3 [.ref (B + 3)] w I J) (CBdR K lpW B w0 I0 8 5 0 vv1 1015) := by
  refine F_cl (fun R hR => cl_3 (k := 96) hR) ?_
  unfold f_3
  refine F_gC (by decide +kernel) ?_
  refine F_al (n := 4) (n' := 5) (s' := 513) h (by decide +kernel) (fun _ => rfl) (by decide) rfl (by decide +kernel) ?_
  clear h w I J
  intro w I J h
  refine F_pr (z := 0) (i := 3) (k := 0) (j := 4) (m := 1) (m' := 2) h (by decide +kernel) (by decide) (by decide +kernel) (by decide +kernel) (by decide) rfl ?_
  clear h w
  intro w h
  refine F_gC (by decide +kernel) ?_
  refine F_al (n := 5) (n' := 6) (s' := 754) h (by decide +kernel) (fun _ => rfl) (by decide) rfl (by decide +kernel) ?_
  clear h w I J
  intro w I J h
  refine F_pr (z := 0) (i := 3) (k := 1) (j := 5) (m := 2) (m' := 3) h (by decide +kernel) (by decide) (by decide +kernel) (by decide +kernel) (by decide) rfl ?_
  clear h w
  intro w h
  refine F_gC (by decide +kernel) ?_
  refine F_al (n := 6) (n' := 7) (s' := 995) h (by decide +kernel) (fun _ => rfl) (by decide) rfl (by decide +kernel) ?_
  clear h w I J
  intro w I J h
  refine F_pr (z := 0) (i := 3) (k := 2) (j := 6) (m := 3) (m' := 4) h (by decide +kernel) (by decide) (by decide +kernel) (by decide +kernel) (by decide) rfl ?_
  clear h w
  intro w h
  refine F_gC (by decide +kernel) ?_
  refine F_al (n := 7) (n' := 8) (s' := 1015) h (by decide +kernel) (fun _ => rfl) (by decide) rfl (by decide +kernel) ?_
  clear h w I J
  intro w I J h
  refine F_pr (z := 0) (i := 3) (k := 3) (j := 7) (m := 4) (m' := 5) h (by decide +kernel) (by decide) (by decide +kernel) (by decide +kernel) (by decide) rfl ?_
  clear h w
  intro w h
  refine F_p0 (z := 0) (i := 3) (k := 4) h (by decide +kernel) (by decide) rfl ?_
  clear h I
  intro I h
  refine F_p0 (z := 0) (i := 3) (k := 5) h (by decide +kernel) (by decide) rfl ?_
  clear h I
  intro I h
  refine F_p0 (z := 0) (i := 3) (k := 6) h (by decide +kernel) (by decide) rfl ?_
  clear h I
  intro I h
  exact kw_run hO (by decide) (by decide +kernel) h
theorem con12_8 {w : aW} {I : aI} {J : aJ} (h : CBd K lpW B w0 I0 9 6 0 vv1 1023 w I J) : Fi (Cl K (d + 1) 12 [.ref (B + 8)] w I J) (CBdR K lpW B w0 I0 15 12 0 vv1 1873) := by
  refine F_cl (fun R hR => cl_12 (k := 0) hR) ?_
  unfold f_12
  refine F_gC (by decide +kernel) ?_
  refine F_al (n := 9) (n' := 10) (s' := 1223) h (by decide +kernel) (fun _ => rfl) (by decide) rfl (by decide +kernel) ?_
  clear h w I J
  intro w I J h
  refine F_pr (z := 0) (i := 8) (k := 0) (j := 9) (m := 6) (m' := 7) h (by decide +kernel) (by decide) (by decide +kernel) (by decide +kernel) (by decide) rfl ?_
  clear h w
  intro w h
  refine F_gC (by decide +kernel) ?_
  refine F_al (n := 10) (n' := 11) (s' := 1423) h (by decide +kernel) (fun _ => rfl) (by decide) rfl (by decide +kernel) ?_
  clear h w I J
  intro w I J h
  refine F_pr (z := 0) (i := 8) (k := 1) (j := 10) (m := 7) (m' := 8) h (by decide +kernel) (by decide) (by decide +kernel) (by decide +kernel) (by decide) rfl ?_
  clear h w
  intro w h
  refine F_gC (by decide +kernel) ?_
  refine F_al (n := 11) (n' := 12) (s' := 1623) h (by decide +kernel) (fun _ => rfl) (by decide) rfl (by decide +kernel) ?_
  clear h w I J
  intro w I J h
  refine F_pr (z := 0) (i := 8) (k := 2) (j := 11) (m := 8) (m' := 9) h (by decide +kernel) (by decide) (by decide +kernel) (by decide +kernel) (by decide) rfl ?_
  clear h w
  intro w h
  refine F_gC (by decide +kernel) ?_
  refine F_al (n := 12) (n' := 13) (s' := 1823) h (by decide +kernel) (fun _ => rfl) (by decide) rfl (by decide +kernel) ?_
  clear h w I J
  intro w I J h
  refine F_pr (z := 0) (i := 8) (k := 3) (j := 12) (m := 9) (m' := 10) h (by decide +kernel) (by decide) (by decide +kernel) (by decide +kernel) (by decide) rfl ?_
  clear h w
  intro w h
  refine F_gC (by decide +kernel) ?_
  refine F_al (n := 13) (n' := 14) (s' := 1843) h (by decide +kernel) (fun _ => rfl) (by decide) rfl (by decide +kernel) ?_
  clear h w I J
  intro w I J h
  refine F_pr (z := 0) (i := 8) (k := 4) (j := 13) (m := 10) (m' := 11) h (by decide +kernel) (by decide) (by decide +kernel) (by decide +kernel) (by decide) rfl ?_
  clear h w
  intro w h
  refine F_gC (by decide +kernel) ?_
  refine F_al (n := 14) (n' := 15) (s' := 1873) h (by decide +kernel) (fun _ => rfl) (by decide) rfl (by decide +kernel) ?_
  clear h w I J
  intro w I J h
  refine F_pr (z := 0) (i := 8) (k := 5) (j := 14) (m := 11) (m' := 12) h (by decide +kernel) (by decide) (by decide +kernel) (by decide +kernel) (by decide) rfl ?_
  clear h w
  intro w h
  refine F_p0 (z := 0) (i := 8) (k := 6) h (by decide +kernel) (by decide) rfl ?_
  clear h I
  intro I h
  refine F_p0 (z := 0) (i := 8) (k := 7) h (by decide +kernel) (by decide) rfl ?_
  clear h I
  intro I h
  exact F_ret h
theorem con2_2 {w : aW} {I : aI} {J : aJ} (hO : StO K B w0 I0) (h : CBd K lpW B w0 I0 3 1 0 vv0 265 w I J) : Fi (Cl K (d + 19) 2 [.ref (B + 2)] w I J) (CBdR K lpW B w0 I0 22 20 0 vv3 2374) := by
  refine F_cl (fun R hR => cl_2 (k := 0) hR) ?_
  unfold f_2
  refine F_al (n := 3) (n' := 4) (s' := 272) h (by decide +kernel) (fun _ => rfl) (by decide) rfl (by decide +kernel) ?_
  clear h w I J
  intro w I J h
  refine F_cV (con3_3 hO h) ?_
  clear h w I J
  intro w I J h
  refine F_pr (z := 0) (i := 2) (k := 0) (j := 3) (m := 5) (m' := 6) h (by decide +kernel) (by decide) (by decide +kernel) (by decide +kernel) (by decide) rfl ?_
  clear h w
  intro w h
  refine F_al (n := 8) (n' := 9) (s' := 1023) h (by decide +kernel) (fun _ => rfl) (by decide) rfl (by decide +kernel) ?_
  clear h w I J
  intro w I J h
  refine F_cV (con12_8 h) ?_
  clear h w I J
  intro w I J h
  refine F_pr (z := 0) (i := 2) (k := 1) (j := 8) (m := 12) (m' := 13) h (by decide +kernel) (by decide) (by decide +kernel) (by decide +kernel) (by decide) rfl ?_
  clear h w
  intro w h
  refine F_p0 (z := 0) (i := 2) (k := 2) h (by decide +kernel) (by decide) rfl ?_
  clear h I
  intro I h
  refine F_p0 (z := 0) (i := 2) (k := 3) h (by decide +kernel) (by decide) rfl ?_
  clear h I
  intro I h
  refine F_gC (by decide +kernel) ?_
  refine F_al (n := 15) (n' := 16) (s' := 1899) h (by decide +kernel) (fun _ => rfl) (by decide) rfl (by decide +kernel) ?_
  clear h w I J
  intro w I J h
  refine F_pr (z := 0) (i := 2) (k := 4) (j := 15) (m := 13) (m' := 14) h (by decide +kernel) (by decide) (by decide +kernel) (by decide +kernel) (by decide) rfl ?_
  clear h w
  intro w h
  refine F_gC (by decide +kernel) ?_
  refine F_al (n := 16) (n' := 17) (s' := 1925) h (by decide +kernel) (fun _ => rfl) (by decide) rfl (by decide +kernel) ?_
  clear h w I J
  intro w I J h
  refine F_pr (z := 0) (i := 2) (k := 5) (j := 16) (m := 14) (m' := 15) h (by decide +kernel) (by decide) (by decide +kernel) (by decide +kernel) (by decide) rfl ?_
  clear h w
  intro w h
  refine F_pi (z := 0) (i := 2) (k := 6) (x := -1) (V' := vv2) h (by decide +kernel) (by decide) rfl ?_
  clear h I
  intro I h
  refine F_pi (z := 0) (i := 2) (k := 7) (x := -1) (V' := vv3) h (by decide +kernel) (by decide) rfl ?_
  clear h I
  intro I h
  refine F_p0 (z := 0) (i := 2) (k := 8) h (by decide +kernel) (by decide) rfl ?_
  clear h I
  intro I h
  refine F_gC (by decide +kernel) ?_
  refine F_al (n := 17) (n' := 18) (s' := 2053) h (by decide +kernel) (fun _ => rfl) (by decide) rfl (by decide +kernel) ?_
  clear h w I J
  intro w I J h
  refine F_pr (z := 0) (i := 2) (k := 9) (j := 17) (m := 15) (m' := 16) h (by decide +kernel) (by decide) (by decide +kernel) (by decide +kernel) (by decide) rfl ?_
  clear h w
  intro w h
  refine F_gC (by decide +kernel) ?_
  refine F_al (n := 18) (n' := 19) (s' := 2182) h (by decide +kernel) (fun _ => rfl) (by decide) rfl (by decide +kernel) ?_
  clear h w I J
  intro w I J h
  refine F_pr (z := 0) (i := 2) (k := 10) (j := 18) (m := 16) (m' := 17) h (by decide +kernel) (by decide) (by decide +kernel) (by decide +kernel) (by decide) rfl ?_
  clear h w
  intro w h
  refine F_p0 (z := 0) (i := 2) (k := 11) h (by decide +kernel) (by decide) rfl ?_
  clear h I
  intro I h
  refine F_gC (by decide +kernel) ?_
  refine F_al (n := 19) (n' := 20) (s' := 2246) h (by decide +kernel) (fun _ => rfl) (by decide) rfl (by decide +kernel) ?_
  clear h w I J
  intro w I J h
  refine F_pr (z := 0) (i := 2) (k := 12) (j := 19) (m := 17) (m' := 18) h (by decide +kernel) (by decide) (by decide +kernel) (by decide +kernel) (by decide) rfl ?_
  clear h w
  intro w h
  refine F_gC (by decide +kernel) ?_
  refine F_al (n := 20) (n' := 21) (s' := 2310) h (by decide +kernel) (fun _ => rfl) (by decide) rfl (by decide +kernel) ?_
  clear h w I J
  intro w I J h
  refine F_pr (z := 0) (i := 2) (k := 13) (j := 20) (m := 18) (m' := 19) h (by decide +kernel) (by decide) (by decide +kernel) (by decide +kernel) (by decide) rfl ?_
  clear h w
  intro w h
  refine F_gC (by decide +kernel) ?_
  refine F_al (n := 21) (n' := 22) (s' := 2374) h (by decide +kernel) (fun _ => rfl) (by decide) rfl (by decide +kernel) ?_
  clear h w I J
  intro w I J h
  refine F_pr (z := 0) (i := 2) (k := 14) (j := 21) (m := 19) (m' := 20) h (by decide +kernel) (by decide) (by decide +kernel) (by decide +kernel) (by decide) rfl ?_
  clear h w
  intro w h
  exact F_ret h
theorem con12_22 {w : aW} {I : aI} {J : aJ} (h : CBd K lpW B w0 I0 23 21 0 vv3 2382 w I J) : Fi (Cl K (d + 1) 12 [.ref (B + 22)] w I J) (CBdR K lpW B w0 I0 29 27 0 vv3 3232) := by
  refine F_cl (fun R hR => cl_12 (k := 0) hR) ?_
  unfold f_12
  refine F_gC (by decide +kernel) ?_
  refine F_al (n := 23) (n' := 24) (s' := 2582) h (by decide +kernel) (fun _ => rfl) (by decide) rfl (by decide +kernel) ?_
  clear h w I J
  intro w I J h
  refine F_pr (z := 0) (i := 22) (k := 0) (j := 23) (m := 21) (m' := 22) h (by decide +kernel) (by decide) (by decide +kernel) (by decide +kernel) (by decide) rfl ?_
  clear h w
  intro w h
  refine F_gC (by decide +kernel) ?_
  refine F_al (n := 24) (n' := 25) (s' := 2782) h (by decide +kernel) (fun _ => rfl) (by decide) rfl (by decide +kernel) ?_
  clear h w I J
  intro w I J h
  refine F_pr (z := 0) (i := 22) (k := 1) (j := 24) (m := 22) (m' := 23) h (by decide +kernel) (by decide) (by decide +kernel) (by decide +kernel) (by decide) rfl ?_
  clear h w
  intro w h
  refine F_gC (by decide +kernel) ?_
  refine F_al (n := 25) (n' := 26) (s' := 2982) h (by decide +kernel) (fun _ => rfl) (by decide) rfl (by decide +kernel) ?_
  clear h w I J
  intro w I J h
  refine F_pr (z := 0) (i := 22) (k := 2) (j := 25) (m := 23) (m' := 24) h (by decide +kernel) (by decide) (by decide +kernel) (by decide +kernel) (by decide) rfl ?_
  clear h w
  intro w h
  refine F_gC (by decide +kernel) ?_
  refine F_al (n := 26) (n' := 27) (s' := 3182) h (by decide +kernel) (fun _ => rfl) (by decide) rfl (by decide +kernel) ?_
  clear h w I J
  intro w I J h
  refine F_pr (z := 0) (i := 22) (k := 3) (j := 26) (m := 24) (m' := 25) h (by decide +kernel) (by decide) (by decide +kernel) (by decide +kernel) (by decide) rfl ?_
  clear h w
  intro w h
  refine F_gC (by decide +kernel) ?_
  refine F_al (n := 27) (n' := 28) (s' := 3202) h (by decide +kernel) (fun _ => rfl) (by decide) rfl (by decide +kernel) ?_
  clear h w I J
  intro w I J h
  refine F_pr (z := 0) (i := 22) (k := 4) (j := 27) (m := 25) (m' := 26) h (by decide +kernel) (by decide) (by decide +kernel) (by decide +kernel) (by decide) rfl ?_
  clear h w
  intro w h
  refine F_gC (by decide +kernel) ?_
  refine F_al (n := 28) (n' := 29) (s' := 3232) h (by decide +kernel) (fun _ => rfl) (by decide) rfl (by decide +kernel) ?_
  clear h w I J
  intro w I J h
  refine F_pr (z := 0) (i := 22) (k := 5) (j := 28) (m := 26) (m' := 27) h (by decide +kernel) (by decide) (by decide +kernel) (by decide +kernel) (by decide) rfl ?_
  clear h w
  intro w h
  refine F_p0 (z := 0) (i := 22) (k := 6) h (by decide +kernel) (by decide) rfl ?_
  clear h I
  intro I h
  refine F_p0 (z := 0) (i := 22) (k := 7) h (by decide +kernel) (by decide) rfl ?_
  clear h I
  intro I h
  exact F_ret h
theorem con12_30 {w : aW} {I : aI} {J : aJ} (h : CBd K lpW B w0 I0 31 28 0 vv3 3249 w I J) : Fi (Cl K (d + 1) 12 [.ref (B + 30)] w I J) (CBdR K lpW B w0 I0 37 34 0 vv3 4099) := by
  refine F_cl (fun R hR => cl_12 (k := 0) hR) ?_
  unfold f_12
  refine F_gC (by decide +kernel) ?_
  refine F_al (n := 31) (n' := 32) (s' := 3449) h (by decide +kernel) (fun _ => rfl) (by decide) rfl (by decide +kernel) ?_
  clear h w I J
  intro w I J h
  refine F_pr (z := 0) (i := 30) (k := 0) (j := 31) (m := 28) (m' := 29) h (by decide +kernel) (by decide) (by decide +kernel) (by decide +kernel) (by decide) rfl ?_
  clear h w
  intro w h
  refine F_gC (by decide +kernel) ?_
  refine F_al (n := 32) (n' := 33) (s' := 3649) h (by decide +kernel) (fun _ => rfl) (by decide) rfl (by decide +kernel) ?_
  clear h w I J
  intro w I J h
  refine F_pr (z := 0) (i := 30) (k := 1) (j := 32) (m := 29) (m' := 30) h (by decide +kernel) (by decide) (by decide +kernel) (by decide +kernel) (by decide) rfl ?_
  clear h w
  intro w h
  refine F_gC (by decide +kernel) ?_
  refine F_al (n := 33) (n' := 34) (s' := 3849) h (by decide +kernel) (fun _ => rfl) (by decide) rfl (by decide +kernel) ?_
  clear h w I J
  intro w I J h
  refine F_pr (z := 0) (i := 30) (k := 2) (j := 33) (m := 30) (m' := 31) h (by decide +kernel) (by decide) (by decide +kernel) (by decide +kernel) (by decide) rfl ?_
  clear h w
  intro w h
  refine F_gC (by decide +kernel) ?_
  refine F_al (n := 34) (n' := 35) (s' := 4049) h (by decide +kernel) (fun _ => rfl) (by decide) rfl (by decide +kernel) ?_
  clear h w I J
  intro w I J h
  refine F_pr (z := 0) (i := 30) (k := 3) (j := 34) (m := 31) (m' := 32) h (by decide +kernel) (by decide) (by decide +kernel) (by decide +kernel) (by decide) rfl ?_
  clear h w
  intro w h
  refine F_gC (by decide +kernel) ?_
  refine F_al (n := 35) (n' := 36) (s' := 4069) h (by decide +kernel) (fun _ => rfl) (by decide) rfl (by decide +kernel) ?_
  clear h w I J
  intro w I J h
  refine F_pr (z := 0) (i := 30) (k := 4) (j := 35) (m := 32) (m' := 33) h (by decide +kernel) (by decide) (by decide +kernel) (by decide +kernel) (by decide) rfl ?_
  clear h w
  intro w h
  refine F_gC (by decide +kernel) ?_
  refine F_al (n := 36) (n' := 37) (s' := 4099) h (by decide +kernel) (fun _ => rfl) (by decide) rfl (by decide +kernel) ?_
  clear h w I J
  intro w I J h
  refine F_pr (z := 0) (i := 30) (k := 5) (j := 36) (m := 33) (m' := 34) h (by decide +kernel) (by decide) (by decide +kernel) (by decide +kernel) (by decide) rfl ?_
  clear h w
  intro w h
  refine F_p0 (z := 0) (i := 30) (k := 6) h (by decide +kernel) (by decide) rfl ?_
  clear h I
  intro I h
  refine F_p0 (z := 0) (i := 30) (k := 7) h (by decide +kernel) (by decide) rfl ?_
  clear h I
  intro I h
  exact F_ret h
theorem con13_29 {w : aW} {I : aI} {J : aJ} (h : CBd K lpW B w0 I0 30 28 0 vv3 3241 w I J) : Fi (Cl K (d + 5) 13 [.ref (B + 29)] w I J) (CBdR K lpW B w0 I0 43 41 0 vv3 7217) := by
  refine F_cl (fun R hR => cl_13 (k := 0) hR) ?_
  unfold f_13
  refine F_al (n := 30) (n' := 31) (s' := 3249) h (by decide +kernel) (fun _ => rfl) (by decide) rfl (by decide +kernel) ?_
  clear h w I J
  intro w I J h
  refine F_cV (con12_30 h) ?_
  clear h w I J
  intro w I J h
  refine F_pr (z := 0) (i := 29) (k := 0) (j := 30) (m := 34) (m' := 35) h (by decide +kernel) (by decide) (by decide +kernel) (by decide +kernel) (by decide) rfl ?_
  clear h w
  intro w h
  refine F_gC (by decide +kernel) ?_
  refine F_al (n := 37) (n' := 38) (s' := 4426) h (by decide +kernel) (fun _ => rfl) (by decide) rfl (by decide +kernel) ?_
  clear h w I J
  intro w I J h
  refine F_pr (z := 0) (i := 29) (k := 1) (j := 37) (m := 35) (m' := 36) h (by decide +kernel) (by decide) (by decide +kernel) (by decide +kernel) (by decide) rfl ?_
  clear h w
  intro w h
  refine F_gC (by decide +kernel) ?_
  refine F_al (n := 38) (n' := 39) (s' := 4753) h (by decide +kernel) (fun _ => rfl) (by decide) rfl (by decide +kernel) ?_
  clear h w I J
  intro w I J h
  refine F_pr (z := 0) (i := 29) (k := 2) (j := 38) (m := 36) (m' := 37) h (by decide +kernel) (by decide) (by decide +kernel) (by decide +kernel) (by decide) rfl ?_
  clear h w
  intro w h
  refine F_gC (by decide +kernel) ?_
  refine F_al (n := 39) (n' := 40) (s' := 4785) h (by decide +kernel) (fun _ => rfl) (by decide) rfl (by decide +kernel) ?_
  clear h w I J
  intro w I J h
  refine F_pr (z := 0) (i := 29) (k := 3) (j := 39) (m := 37) (m' := 38) h (by decide +kernel) (by decide) (by decide +kernel) (by decide +kernel) (by decide) rfl ?_
  clear h w
  intro w h
  refine F_gC (by decide +kernel) ?_
  refine F_al (n := 40) (n' := 41) (s' := 5937) h (by decide +kernel) (fun _ => rfl) (by decide) rfl (by decide +kernel) ?_
  clear h w I J
  intro w I J h
  refine F_pr (z := 0) (i := 29) (k := 4) (j := 40) (m := 38) (m' := 39) h (by decide +kernel) (by decide) (by decide +kernel) (by decide +kernel) (by decide) rfl ?_
  clear h w
  intro w h
  refine F_gC (by decide +kernel) ?_
  refine F_al (n := 41) (n' := 42) (s' := 7089) h (by decide +kernel) (fun _ => rfl) (by decide) rfl (by decide +kernel) ?_
  clear h w I J
  intro w I J h
  refine F_pr (z := 0) (i := 29) (k := 5) (j := 41) (m := 39) (m' := 40) h (by decide +kernel) (by decide) (by decide +kernel) (by decide +kernel) (by decide) rfl ?_
  clear h w
  intro w h
  refine F_gC (by decide +kernel) ?_
  refine F_al (n := 42) (n' := 43) (s' := 7217) h (by decide +kernel) (fun _ => rfl) (by decide) rfl (by decide +kernel) ?_
  clear h w I J
  intro w I J h
  refine F_pr (z := 0) (i := 29) (k := 6) (j := 42) (m := 40) (m' := 41) h (by decide +kernel) (by decide) (by decide +kernel) (by decide +kernel) (by decide) rfl ?_
  clear h w
  intro w h
  refine F_p0 (z := 0) (i := 29) (k := 7) h (by decide +kernel) (by decide) rfl ?_
  clear h I
  intro I h
  refine F_p0 (z := 0) (i := 29) (k := 8) h (by decide +kernel) (by decide) rfl ?_
  clear h I
  intro I h
  exact F_ret h
theorem con14_45 {w : aW} {I : aI} {J : aJ} (h : CBd K lpW B w0 I0 46 44 0 vv4 7232 w I J) : Fi (Cl K (d + 1) 14 [.ref (B + 45)] w I J) (CBdR K lpW B w0 I0 47 45 0 vv4 7272) := by
  refine F_cl (fun R hR => cl_14 (k := 0) hR) ?_
  unfold f_14
  refine F_gC (by decide +kernel) ?_
  refine F_al (n := 46) (n' := 47) (s' := 7272) h (by decide +kernel) (fun _ => rfl) (by decide) rfl (by decide +kernel) ?_
  clear h w I J
  intro w I J h
  refine F_pr (z := 0) (i := 45) (k := 0) (j := 46) (m := 44) (m' := 45) h (by decide +kernel) (by decide) (by decide +kernel) (by decide +kernel) (by decide) rfl ?_
  clear h w
  intro w h
  refine F_p0 (z := 0) (i := 45) (k := 1) h (by decide +kernel) (by decide) rfl ?_
  clear h I
  intro I h
  refine F_p0 (z := 0) (i := 45) (k := 2) h (by decide +kernel) (by decide) rfl ?_
  clear h I
  intro I h
  exact F_ret h
theorem con14_47 {w : aW} {I : aI} {J : aJ} (h : CBd K lpW B w0 I0 48 46 0 vv4 7275 w I J) : Fi (Cl K (d + 1) 14 [.ref (B + 47)] w I J) (CBdR K lpW B w0 I0 49 47 0 vv4 7315) := by
  refine F_cl (fun R hR => cl_14 (k := 0) hR) ?_
  unfold f_14
  refine F_gC (by decide +kernel) ?_
  refine F_al (n := 48) (n' := 49) (s' := 7315) h (by decide +kernel) (fun _ => rfl) (by decide) rfl (by decide +kernel) ?_
  clear h w I J
  intro w I J h
  refine F_pr (z := 0) (i := 47) (k := 0) (j := 48) (m := 46) (m' := 47) h (by decide +kernel) (by decide) (by decide +kernel) (by decide +kernel) (by decide) rfl ?_
  clear h w
  intro w h
  refine F_p0 (z := 0) (i := 47) (k := 1) h (by decide +kernel) (by decide) rfl ?_
  clear h I
  intro I h
  refine F_p0 (z := 0) (i := 47) (k := 2) h (by decide +kernel) (by decide) rfl ?_
  clear h I
  intro I h
  exact F_ret h
theorem con14_49 {w : aW} {I : aI} {J : aJ} (h : CBd K lpW B w0 I0 50 48 0 vv4 7318 w I J) : Fi (Cl K (d + 1) 14 [.ref (B + 49)] w I J) (CBdR K lpW B w0 I0 51 49 0 vv4 7358) := by
  refine F_cl (fun R hR => cl_14 (k := 0) hR) ?_
  unfold f_14
  refine F_gC (by decide +kernel) ?_
  refine F_al (n := 50) (n' := 51) (s' := 7358) h (by decide +kernel) (fun _ => rfl) (by decide) rfl (by decide +kernel) ?_
  clear h w I J
  intro w I J h
  refine F_pr (z := 0) (i := 49) (k := 0) (j := 50) (m := 48) (m' := 49) h (by decide +kernel) (by decide) (by decide +kernel) (by decide +kernel) (by decide) rfl ?_
  clear h w
  intro w h
  refine F_p0 (z := 0) (i := 49) (k := 1) h (by decide +kernel) (by decide) rfl ?_
  clear h I
  intro I h
  refine F_p0 (z := 0) (i := 49) (k := 2) h (by decide +kernel) (by decide) rfl ?_
  clear h I
  intro I h
  exact F_ret h
theorem con14_51 {w : aW} {I : aI} {J : aJ} (h : CBd K lpW B w0 I0 52 50 0 vv4 7361 w I J) : Fi (Cl K (d + 1) 14 [.ref (B + 51)] w I J) (CBdR K lpW B w0 I0 53 51 0 vv4 7401) := by
  refine F_cl (fun R hR => cl_14 (k := 0) hR) ?_
  unfold f_14
  refine F_gC (by decide +kernel) ?_
  refine F_al (n := 52) (n' := 53) (s' := 7401) h (by decide +kernel) (fun _ => rfl) (by decide) rfl (by decide +kernel) ?_
  clear h w I J
  intro w I J h
  refine F_pr (z := 0) (i := 51) (k := 0) (j := 52) (m := 50) (m' := 51) h (by decide +kernel) (by decide) (by decide +kernel) (by decide +kernel) (by decide) rfl ?_
  clear h w
  intro w h
  refine F_p0 (z := 0) (i := 51) (k := 1) h (by decide +kernel) (by decide) rfl ?_
  clear h I
  intro I h
  refine F_p0 (z := 0) (i := 51) (k := 2) h (by decide +kernel) (by decide) rfl ?_
  clear h I
  intro I h
  exact F_ret h
theorem con1_0 {w : aW} {I : aI} {J : aJ} (hO : StO K B w0 I0) (h : CBd K lpW B w0 I0 1 0 0 vv0 10 w I J) : Fi (Cl K (d + 20) 1 [.ref B] w I J) (CBdR K lpW B w0 I0 53 52 0 vv4 7401) := by
  refine F_cl (fun R hR => cl_1 (k := 5) hR) ?_
  unfold f_1
  refine F_gC (by decide +kernel) ?_
  refine F_al (n := 1) (n' := 2) (s' := 250) h (by decide +kernel) (fun _ => rfl) (by decide) rfl (by decide +kernel) ?_
  clear h w I J
  intro w I J h
  refine F_pr (z := 0) (i := 0) (k := 0) (j := 1) (m := 0) (m' := 1) h (by decide +kernel) (by decide) (by decide +kernel) (by decide +kernel) (by decide) rfl ?_
  clear h w
  intro w h
  refine F_p0 (z := 0) (i := 0) (k := 1) h (by decide +kernel) (by decide) rfl ?_
  clear h I
  intro I h
  refine F_al (n := 2) (n' := 3) (s' := 265) h (by decide +kernel) (fun _ => rfl) (by decide) rfl (by decide +kernel) ?_
  clear h w I J
  intro w I J h
  refine F_cV (con2_2 hO h) ?_
  clear h w I J
  intro w I J h
  refine F_pr (z := 0) (i := 0) (k := 2) (j := 2) (m := 20) (m' := 21) h (by decide +kernel) (by decide) (by decide +kernel) (by decide +kernel) (by decide) rfl ?_
  clear h w
  intro w h
  refine F_al (n := 22) (n' := 23) (s' := 2382) h (by decide +kernel) (fun _ => rfl) (by decide) rfl (by decide +kernel) ?_
  clear h w I J
  intro w I J h
  refine F_cV (con12_22 h) ?_
  clear h w I J
  intro w I J h
  refine F_pr (z := 0) (i := 0) (k := 3) (j := 22) (m := 27) (m' := 28) h (by decide +kernel) (by decide) (by decide +kernel) (by decide +kernel) (by decide) rfl ?_
  clear h w
  intro w h
  refine F_al (n := 29) (n' := 30) (s' := 3241) h (by decide +kernel) (fun _ => rfl) (by decide) rfl (by decide +kernel) ?_
  clear h w I J
  intro w I J h
  refine F_cV (con13_29 h) ?_
  clear h w I J
  intro w I J h
  refine F_pr (z := 0) (i := 0) (k := 4) (j := 29) (m := 41) (m' := 42) h (by decide +kernel) (by decide) (by decide +kernel) (by decide +kernel) (by decide) rfl ?_
  clear h w
  intro w h
  refine F_p0 (z := 0) (i := 0) (k := 5) h (by decide +kernel) (by decide) rfl ?_
  clear h I
  intro I h
  refine F_gC (by decide +kernel) ?_
  refine F_al (n := 43) (n' := 44) (s' := 7221) h (by decide +kernel) (fun _ => rfl) (by decide) rfl (by decide +kernel) ?_
  clear h w I J
  intro w I J h
  refine F_pr (z := 0) (i := 0) (k := 6) (j := 43) (m := 42) (m' := 43) h (by decide +kernel) (by decide) (by decide +kernel) (by decide +kernel) (by decide) rfl ?_
  clear h w
  intro w h
  refine F_gC (by decide +kernel) ?_
  refine F_al (n := 44) (n' := 45) (s' := 7229) h (by decide +kernel) (fun _ => rfl) (by decide) rfl (by decide +kernel) ?_
  clear h w I J
  intro w I J h
  refine F_pr (z := 0) (i := 0) (k := 7) (j := 44) (m := 43) (m' := 44) h (by decide +kernel) (by decide) (by decide +kernel) (by decide +kernel) (by decide) rfl ?_
  clear h w
  intro w h
  refine F_p0 (z := 0) (i := 0) (k := 8) h (by decide +kernel) (by decide) rfl ?_
  clear h I
  intro I h
  refine F_pi (z := 0) (i := 0) (k := 9) (x := -1) (V' := vv4) h (by decide +kernel) (by decide) rfl ?_
  clear h I
  intro I h
  rw [f_1_84]
  refine F_lt (F_in (by decide +kernel) ?_)
  rw [gO_e (show w.1 B = some (5, 0) from (h.2.2.1 0 (by decide)).trans (show layT.lookup 0 = some (5, 0) by decide +kernel)), gV_e (show w.2.1 B 6 = some (B + 43) from (h.2.2.2.1 (0, 6, 43) (by decide +kernel)).2)]
  refine F_al (n := 45) (n' := 46) (s' := 7232) h (by decide +kernel) (fun _ => rfl) (by decide) rfl (by decide +kernel) ?_
  clear h w I J
  intro w I J h
  refine F_cV (con14_45 h) ?_
  clear h w I J
  intro w I J h
  refine F_gC (by unfold sm_isE; rw [(h.2.2.1 45 (by decide)).trans (show layT.lookup 45 = some (3, 0) by decide +kernel)]; rfl) ?_
  refine F_ar (z := 4) (i := 43) (k := 0) (j := 45) (m := 45) (m' := 46) h (by decide +kernel) (by decide) (by decide +kernel) (by decide +kernel) (by decide +kernel) (by decide +kernel) (by decide) rfl ?_
  clear h w
  intro w h
  refine F_lt ?_
  rw [f_1_84]
  refine F_lt (F_in (by decide +kernel) ?_)
  rw [gO_e (show w.1 B = some (5, 0) from (h.2.2.1 0 (by decide)).trans (show layT.lookup 0 = some (5, 0) by decide +kernel)), gV_e (show w.2.1 B 6 = some (B + 43) from (h.2.2.2.1 (0, 6, 43) (by decide +kernel)).2)]
  refine F_al (n := 47) (n' := 48) (s' := 7275) h (by decide +kernel) (fun _ => rfl) (by decide) rfl (by decide +kernel) ?_
  clear h w I J
  intro w I J h
  refine F_cV (con14_47 h) ?_
  clear h w I J
  intro w I J h
  refine F_gC (by unfold sm_isE; rw [(h.2.2.1 47 (by decide)).trans (show layT.lookup 47 = some (3, 0) by decide +kernel)]; rfl) ?_
  refine F_ar (z := 4) (i := 43) (k := 1) (j := 47) (m := 47) (m' := 48) h (by decide +kernel) (by decide) (by decide +kernel) (by decide +kernel) (by decide +kernel) (by decide +kernel) (by decide) rfl ?_
  clear h w
  intro w h
  refine F_lt ?_
  rw [f_1_84]
  refine F_lt (F_in (by decide +kernel) ?_)
  rw [gO_e (show w.1 B = some (5, 0) from (h.2.2.1 0 (by decide)).trans (show layT.lookup 0 = some (5, 0) by decide +kernel)), gV_e (show w.2.1 B 6 = some (B + 43) from (h.2.2.2.1 (0, 6, 43) (by decide +kernel)).2)]
  refine F_al (n := 49) (n' := 50) (s' := 7318) h (by decide +kernel) (fun _ => rfl) (by decide) rfl (by decide +kernel) ?_
  clear h w I J
  intro w I J h
  refine F_cV (con14_49 h) ?_
  clear h w I J
  intro w I J h
  refine F_gC (by unfold sm_isE; rw [(h.2.2.1 49 (by decide)).trans (show layT.lookup 49 = some (3, 0) by decide +kernel)]; rfl) ?_
  refine F_ar (z := 4) (i := 43) (k := 2) (j := 49) (m := 49) (m' := 50) h (by decide +kernel) (by decide) (by decide +kernel) (by decide +kernel) (by decide +kernel) (by decide +kernel) (by decide) rfl ?_
  clear h w
  intro w h
  refine F_lt ?_
  rw [f_1_84]
  refine F_lt (F_in (by decide +kernel) ?_)
  rw [gO_e (show w.1 B = some (5, 0) from (h.2.2.1 0 (by decide)).trans (show layT.lookup 0 = some (5, 0) by decide +kernel)), gV_e (show w.2.1 B 6 = some (B + 43) from (h.2.2.2.1 (0, 6, 43) (by decide +kernel)).2)]
  refine F_al (n := 51) (n' := 52) (s' := 7361) h (by decide +kernel) (fun _ => rfl) (by decide) rfl (by decide +kernel) ?_
  clear h w I J
  intro w I J h
  refine F_cV (con14_51 h) ?_
  clear h w I J
  intro w I J h
  refine F_gC (by unfold sm_isE; rw [(h.2.2.1 51 (by decide)).trans (show layT.lookup 51 = some (3, 0) by decide +kernel)]; rfl) ?_
  refine F_ar (z := 4) (i := 43) (k := 3) (j := 51) (m := 51) (m' := 52) h (by decide +kernel) (by decide) (by decide +kernel) (by decide +kernel) (by decide +kernel) (by decide +kernel) (by decide) rfl ?_
  clear h w
  intro w h
  refine F_lt ?_
  rw [f_1_84]
  refine F_lt (F_ip (by decide +kernel) (F_ret h))
set_option maxRecDepth 100000 in
set_option maxHeartbeats 8000000 in
theorem con15_53 {w : aW} {I : aI} {J : aJ} (hO : StO K B w0 I0) (h : CBd K lpW B w0 I0 54 52 0 vv4 7449 w I J) : Fi (Cl K (d + 20) 15 [.ref (B + 53)] w I J) (CBdR K lpW B w0 I0 82 80 20 vv5 33938) := by
  refine F_cl (fun R hR => cl_15 (k := 0) hR) ?_
  have hk : ∀ i, i < 20 → ∃ q, K (i + 2) = .ref q ∧ sm_isS K q = true := fun i hi => by
    obtain ⟨a, v, k0, _⟩ := hO.1 (i + 2) (by omega)
    exact ⟨a, k0, isS_i (i := i + 2) (by omega) k0⟩
  unfold f_15
  refine F_gC (by decide +kernel) ?_
  refine F_al (n := 54) (n' := 55) (s' := 7457) h (by decide +kernel) (fun _ => rfl) (by decide) rfl (by decide +kernel) ?_
  clear h w I J
  intro w I J h
  refine F_pr (z := 0) (i := 53) (k := 0) (j := 54) (m := 52) (m' := 53) h (by decide +kernel) (by decide) (by decide +kernel) (by decide +kernel) (by decide) rfl ?_
  clear h w
  intro w h
  refine F_gC (by decide +kernel) ?_
  refine F_al (n := 55) (n' := 56) (s' := 7697) h (by decide +kernel) (fun _ => rfl) (by decide) rfl (by decide +kernel) ?_
  clear h w I J
  intro w I J h
  refine F_pr (z := 0) (i := 53) (k := 1) (j := 55) (m := 53) (m' := 54) h (by decide +kernel) (by decide) (by decide +kernel) (by decide +kernel) (by decide) rfl ?_
  clear h w
  intro w h
  refine F_pi (z := 0) (i := 53) (k := 4) (x := -1) (V' := vv5) h (by decide +kernel) (by decide) rfl ?_
  clear h I
  intro I h
  refine F_gC (by decide +kernel) ?_
  refine F_al (n := 56) (n' := 57) (s' := 7703) h (by decide +kernel) (fun _ => rfl) (by decide) rfl (by decide +kernel) ?_
  clear h w I J
  intro w I J h
  refine F_pr (z := 0) (i := 53) (k := 6) (j := 56) (m := 54) (m' := 55) h (by decide +kernel) (by decide) (by decide +kernel) (by decide +kernel) (by decide) rfl ?_
  clear h w
  intro w h
  refine F_gC (by decide +kernel) ?_
  refine F_al (n := 57) (n' := 58) (s' := 7709) h (by decide +kernel) (fun _ => rfl) (by decide) rfl (by decide +kernel) ?_
  clear h w I J
  intro w I J h
  refine F_pr (z := 0) (i := 53) (k := 7) (j := 57) (m := 55) (m' := 56) h (by decide +kernel) (by decide) (by decide +kernel) (by decide +kernel) (by decide) rfl ?_
  clear h w
  intro w h
  refine F_gC (by decide +kernel) ?_
  refine F_al (n := 58) (n' := 59) (s' := 7715) h (by decide +kernel) (fun _ => rfl) (by decide) rfl (by decide +kernel) ?_
  clear h w I J
  intro w I J h
  refine F_pr (z := 0) (i := 53) (k := 8) (j := 58) (m := 56) (m' := 57) h (by decide +kernel) (by decide) (by decide +kernel) (by decide +kernel) (by decide) rfl ?_
  clear h w
  intro w h
  refine F_gC (by decide +kernel) ?_
  refine F_al (n := 59) (n' := 60) (s' := 7721) h (by decide +kernel) (fun _ => rfl) (by decide) rfl (by decide +kernel) ?_
  clear h w I J
  intro w I J h
  refine F_pr (z := 0) (i := 53) (k := 9) (j := 59) (m := 57) (m' := 58) h (by decide +kernel) (by decide) (by decide +kernel) (by decide +kernel) (by decide) rfl ?_
  clear h w
  intro w h
  refine F_gC (by decide +kernel) ?_
  refine F_al (n := 60) (n' := 61) (s' := 7727) h (by decide +kernel) (fun _ => rfl) (by decide) rfl (by decide +kernel) ?_
  clear h w I J
  intro w I J h
  refine F_pr (z := 0) (i := 53) (k := 10) (j := 60) (m := 58) (m' := 59) h (by decide +kernel) (by decide) (by decide +kernel) (by decide +kernel) (by decide) rfl ?_
  clear h w
  intro w h
  refine F_gC (by decide +kernel) ?_
  refine F_al (n := 61) (n' := 62) (s' := 7763) h (by decide +kernel) (fun _ => rfl) (by decide) rfl (by decide +kernel) ?_
  clear h w I J
  intro w I J h
  refine F_pr (z := 0) (i := 53) (k := 11) (j := 61) (m := 59) (m' := 60) h (by decide +kernel) (by decide) (by decide +kernel) (by decide +kernel) (by decide) rfl ?_
  clear h w
  intro w h
  refine F_gC (by decide +kernel) ?_
  refine F_al (n := 62) (n' := 63) (s' := 7799) h (by decide +kernel) (fun _ => rfl) (by decide) rfl (by decide +kernel) ?_
  clear h w I J
  intro w I J h
  refine F_pr (z := 0) (i := 53) (k := 12) (j := 62) (m := 60) (m' := 61) h (by decide +kernel) (by decide) (by decide +kernel) (by decide +kernel) (by decide) rfl ?_
  clear h w
  intro w h
  refine F_gC (by decide +kernel) ?_
  refine F_al (n := 63) (n' := 64) (s' := 8099) h (by decide +kernel) (fun _ => rfl) (by decide) rfl (by decide +kernel) ?_
  clear h w I J
  intro w I J h
  refine F_pr (z := 0) (i := 53) (k := 14) (j := 63) (m := 61) (m' := 62) h (by decide +kernel) (by decide) (by decide +kernel) (by decide +kernel) (by decide) rfl ?_
  clear h w
  intro w h
  refine F_gC (by decide +kernel) ?_
  refine F_al (n := 64) (n' := 65) (s' := 8399) h (by decide +kernel) (fun _ => rfl) (by decide) rfl (by decide +kernel) ?_
  clear h w I J
  intro w I J h
  refine F_pr (z := 0) (i := 53) (k := 15) (j := 64) (m := 62) (m' := 63) h (by decide +kernel) (by decide) (by decide +kernel) (by decide +kernel) (by decide) rfl ?_
  clear h w
  intro w h
  refine F_gC (by decide +kernel) ?_
  refine F_al (n := 65) (n' := 66) (s' := 8449) h (by decide +kernel) (fun _ => rfl) (by decide) rfl (by decide +kernel) ?_
  clear h w I J
  intro w I J h
  refine F_pr (z := 0) (i := 53) (k := 18) (j := 65) (m := 63) (m' := 64) h (by decide +kernel) (by decide) (by decide +kernel) (by decide +kernel) (by decide) rfl ?_
  clear h w
  intro w h
  refine F_gC (by decide +kernel) ?_
  refine F_al (n := 66) (n' := 67) (s' := 8649) h (by decide +kernel) (fun _ => rfl) (by decide) rfl (by decide +kernel) ?_
  clear h w I J
  intro w I J h
  refine F_pr (z := 0) (i := 53) (k := 19) (j := 66) (m := 64) (m' := 65) h (by decide +kernel) (by decide) (by decide +kernel) (by decide +kernel) (by decide) rfl ?_
  clear h w
  intro w h
  refine F_gC (by decide +kernel) ?_
  refine F_al (n := 67) (n' := 68) (s' := 8849) h (by decide +kernel) (fun _ => rfl) (by decide) rfl (by decide +kernel) ?_
  clear h w I J
  intro w I J h
  refine F_pr (z := 0) (i := 53) (k := 20) (j := 67) (m := 65) (m' := 66) h (by decide +kernel) (by decide) (by decide +kernel) (by decide +kernel) (by decide) rfl ?_
  clear h w
  intro w h
  refine F_gC (by decide +kernel) ?_
  refine F_al (n := 68) (n' := 69) (s' := 8869) h (by decide +kernel) (fun _ => rfl) (by decide) rfl (by decide +kernel) ?_
  clear h w I J
  intro w I J h
  refine F_st (c := 0) (c' := 1) h (by decide) hk (by decide) rfl (by decide +kernel) (by decide +kernel) (by decide +kernel) rfl ?_
  clear h w
  intro w h
  refine F_st (c := 1) (c' := 2) h (by decide) hk (by decide) rfl (by decide +kernel) (by decide +kernel) (by decide +kernel) rfl ?_
  clear h w
  intro w h
  refine F_st (c := 2) (c' := 3) h (by decide) hk (by decide) rfl (by decide +kernel) (by decide +kernel) (by decide +kernel) rfl ?_
  clear h w
  intro w h
  refine F_st (c := 3) (c' := 4) h (by decide) hk (by decide) rfl (by decide +kernel) (by decide +kernel) (by decide +kernel) rfl ?_
  clear h w
  intro w h
  refine F_st (c := 4) (c' := 5) h (by decide) hk (by decide) rfl (by decide +kernel) (by decide +kernel) (by decide +kernel) rfl ?_
  clear h w
  intro w h
  refine F_st (c := 5) (c' := 6) h (by decide) hk (by decide) rfl (by decide +kernel) (by decide +kernel) (by decide +kernel) rfl ?_
  clear h w
  intro w h
  refine F_st (c := 6) (c' := 7) h (by decide) hk (by decide) rfl (by decide +kernel) (by decide +kernel) (by decide +kernel) rfl ?_
  clear h w
  intro w h
  refine F_st (c := 7) (c' := 8) h (by decide) hk (by decide) rfl (by decide +kernel) (by decide +kernel) (by decide +kernel) rfl ?_
  clear h w
  intro w h
  refine F_st (c := 8) (c' := 9) h (by decide) hk (by decide) rfl (by decide +kernel) (by decide +kernel) (by decide +kernel) rfl ?_
  clear h w
  intro w h
  refine F_st (c := 9) (c' := 10) h (by decide) hk (by decide) rfl (by decide +kernel) (by decide +kernel) (by decide +kernel) rfl ?_
  clear h w
  intro w h
  refine F_st (c := 10) (c' := 11) h (by decide) hk (by decide) rfl (by decide +kernel) (by decide +kernel) (by decide +kernel) rfl ?_
  clear h w
  intro w h
  refine F_st (c := 11) (c' := 12) h (by decide) hk (by decide) rfl (by decide +kernel) (by decide +kernel) (by decide +kernel) rfl ?_
  clear h w
  intro w h
  refine F_st (c := 12) (c' := 13) h (by decide) hk (by decide) rfl (by decide +kernel) (by decide +kernel) (by decide +kernel) rfl ?_
  clear h w
  intro w h
  refine F_st (c := 13) (c' := 14) h (by decide) hk (by decide) rfl (by decide +kernel) (by decide +kernel) (by decide +kernel) rfl ?_
  clear h w
  intro w h
  refine F_st (c := 14) (c' := 15) h (by decide) hk (by decide) rfl (by decide +kernel) (by decide +kernel) (by decide +kernel) rfl ?_
  clear h w
  intro w h
  refine F_st (c := 15) (c' := 16) h (by decide) hk (by decide) rfl (by decide +kernel) (by decide +kernel) (by decide +kernel) rfl ?_
  clear h w
  intro w h
  refine F_st (c := 16) (c' := 17) h (by decide) hk (by decide) rfl (by decide +kernel) (by decide +kernel) (by decide +kernel) rfl ?_
  clear h w
  intro w h
  refine F_st (c := 17) (c' := 18) h (by decide) hk (by decide) rfl (by decide +kernel) (by decide +kernel) (by decide +kernel) rfl ?_
  clear h w
  intro w h
  refine F_st (c := 18) (c' := 19) h (by decide) hk (by decide) rfl (by decide +kernel) (by decide +kernel) (by decide +kernel) rfl ?_
  clear h w
  intro w h
  refine F_st (c := 19) (c' := 20) h (by decide) hk (by decide) rfl (by decide +kernel) (by decide +kernel) (by decide +kernel) rfl ?_
  clear h w
  intro w h
  refine F_pr (z := 0) (i := 53) (k := 21) (j := 68) (m := 66) (m' := 67) h (by decide +kernel) (by decide) (by decide +kernel) (by decide +kernel) (by decide) rfl ?_
  clear h w
  intro w h
  refine F_gC (by decide +kernel) ?_
  refine F_al (n := 69) (n' := 70) (s' := 9069) h (by decide +kernel) (fun _ => rfl) (by decide) rfl (by decide +kernel) ?_
  clear h w I J
  intro w I J h
  refine F_pr (z := 0) (i := 53) (k := 32) (j := 69) (m := 67) (m' := 68) h (by decide +kernel) (by decide) (by decide +kernel) (by decide +kernel) (by decide) rfl ?_
  clear h w
  intro w h
  refine F_gC (by decide +kernel) ?_
  refine F_al (n := 70) (n' := 71) (s' := 21869) h (by decide +kernel) (fun _ => rfl) (by decide) rfl (by decide +kernel) ?_
  clear h w I J
  intro w I J h
  refine F_pr (z := 0) (i := 53) (k := 33) (j := 70) (m := 68) (m' := 69) h (by decide +kernel) (by decide) (by decide +kernel) (by decide +kernel) (by decide) rfl ?_
  clear h w
  intro w h
  refine F_gC (by decide +kernel) ?_
  refine F_al (n := 71) (n' := 72) (s' := 22069) h (by decide +kernel) (fun _ => rfl) (by decide) rfl (by decide +kernel) ?_
  clear h w I J
  intro w I J h
  refine F_pr (z := 0) (i := 53) (k := 34) (j := 71) (m := 69) (m' := 70) h (by decide +kernel) (by decide) (by decide +kernel) (by decide +kernel) (by decide) rfl ?_
  clear h w
  intro w h
  refine F_gC (by decide +kernel) ?_
  refine F_al (n := 72) (n' := 73) (s' := 22429) h (by decide +kernel) (fun _ => rfl) (by decide) rfl (by decide +kernel) ?_
  clear h w I J
  intro w I J h
  refine F_pr (z := 0) (i := 53) (k := 36) (j := 72) (m := 70) (m' := 71) h (by decide +kernel) (by decide) (by decide +kernel) (by decide +kernel) (by decide) rfl ?_
  clear h w
  intro w h
  refine F_gC (by decide +kernel) ?_
  refine F_al (n := 73) (n' := 74) (s' := 22789) h (by decide +kernel) (fun _ => rfl) (by decide) rfl (by decide +kernel) ?_
  clear h w I J
  intro w I J h
  refine F_pr (z := 0) (i := 53) (k := 37) (j := 73) (m := 71) (m' := 72) h (by decide +kernel) (by decide) (by decide +kernel) (by decide +kernel) (by decide) rfl ?_
  clear h w
  intro w h
  refine F_gC (by decide +kernel) ?_
  refine F_al (n := 74) (n' := 75) (s' := 33589) h (by decide +kernel) (fun _ => rfl) (by decide) rfl (by decide +kernel) ?_
  clear h w I J
  intro w I J h
  refine F_pr (z := 0) (i := 53) (k := 38) (j := 74) (m := 72) (m' := 73) h (by decide +kernel) (by decide) (by decide +kernel) (by decide +kernel) (by decide) rfl ?_
  clear h w
  intro w h
  refine F_gC (by decide +kernel) ?_
  refine F_al (n := 75) (n' := 76) (s' := 33709) h (by decide +kernel) (fun _ => rfl) (by decide) rfl (by decide +kernel) ?_
  clear h w I J
  intro w I J h
  refine F_pr (z := 0) (i := 53) (k := 39) (j := 75) (m := 73) (m' := 74) h (by decide +kernel) (by decide) (by decide +kernel) (by decide +kernel) (by decide) rfl ?_
  clear h w
  intro w h
  refine F_gC (by decide +kernel) ?_
  refine F_al (n := 76) (n' := 77) (s' := 33713) h (by decide +kernel) (fun _ => rfl) (by decide) rfl (by decide +kernel) ?_
  clear h w I J
  intro w I J h
  refine F_pr (z := 0) (i := 53) (k := 40) (j := 76) (m := 74) (m' := 75) h (by decide +kernel) (by decide) (by decide +kernel) (by decide +kernel) (by decide) rfl ?_
  clear h w
  intro w h
  refine F_gC (by decide +kernel) ?_
  refine F_al (n := 77) (n' := 78) (s' := 33730) h (by decide +kernel) (fun _ => rfl) (by decide) rfl (by decide +kernel) ?_
  clear h w I J
  intro w I J h
  refine F_pr (z := 0) (i := 53) (k := 43) (j := 77) (m := 75) (m' := 76) h (by decide +kernel) (by decide) (by decide +kernel) (by decide +kernel) (by decide) rfl ?_
  clear h w
  intro w h
  refine F_gC (by decide +kernel) ?_
  refine F_al (n := 78) (n' := 79) (s' := 33734) h (by decide +kernel) (fun _ => rfl) (by decide) rfl (by decide +kernel) ?_
  clear h w I J
  intro w I J h
  refine F_pr (z := 0) (i := 53) (k := 44) (j := 78) (m := 76) (m' := 77) h (by decide +kernel) (by decide) (by decide +kernel) (by decide +kernel) (by decide) rfl ?_
  clear h w
  intro w h
  refine F_gC (by decide +kernel) ?_
  refine F_al (n := 79) (n' := 80) (s' := 33738) h (by decide +kernel) (fun _ => rfl) (by decide) rfl (by decide +kernel) ?_
  clear h w I J
  intro w I J h
  refine F_pr (z := 0) (i := 53) (k := 45) (j := 79) (m := 77) (m' := 78) h (by decide +kernel) (by decide) (by decide +kernel) (by decide +kernel) (by decide) rfl ?_
  clear h w
  intro w h
  refine F_gC (by decide +kernel) ?_
  refine F_al (n := 80) (n' := 81) (s' := 33898) h (by decide +kernel) (fun _ => rfl) (by decide) rfl (by decide +kernel) ?_
  clear h w I J
  intro w I J h
  refine F_pr (z := 0) (i := 53) (k := 46) (j := 80) (m := 78) (m' := 79) h (by decide +kernel) (by decide) (by decide +kernel) (by decide +kernel) (by decide) rfl ?_
  clear h w
  intro w h
  refine F_gC (by decide +kernel) ?_
  refine F_al (n := 81) (n' := 82) (s' := 33938) h (by decide +kernel) (fun _ => rfl) (by decide) rfl (by decide +kernel) ?_
  clear h w I J
  intro w I J h
  refine F_pr (z := 0) (i := 53) (k := 47) (j := 81) (m := 79) (m' := 80) h (by decide +kernel) (by decide) (by decide +kernel) (by decide +kernel) (by decide) rfl ?_
  clear h w
  intro w h
  exact F_ret h
end CONS

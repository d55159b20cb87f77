/-! Printed by gen.py: what methods come to. -/
noncomputable def Garden_reads_L1 (d : Nat) (y3 : Int32) (y4 : Int32) (y5 : Int32) (s : xS) : Option xO := og (d + 1) tb_Garden_reads (39, [some (vR 2 0), some (vR 1 0), some (vI y3), some (vI y4), some (vI y5)], [], s)
set_option maxRecDepth 100000 in
set_option maxHeartbeats 400000 in
theorem Garden_reads_L1_eq (d : Nat) (y3 : Int32) (y4 : Int32) (y5 : Int32) (s : xS) : Garden_reads_L1 d y3 y4 y5 s =
    if (y5 : Int32) < y3 * y4 then
      bI (ev d f_Text_here [vR 1 0] s) fun r7 s6 =>
      bI (ev d f_Garden_kindBySign [vI r7] s6) fun r9 s8 =>
      if (r9 : Int32) = (-1) then
        some (some (vI (x_nb 0)), s8)
      else
        bV (ev d f_Text_step [vR 1 0] s8) fun s10 =>
        Garden_reads_L1 d y3 y4 (y5 + 1) s10
    else
      bI (ev d f_Text_isRead [vR 1 0] s) fun r12 s11 =>
      if (r12 : Int32) = 0 then
        some (some (vI (x_nb 0)), s11)
      else
        bV (ev d f_Garden_fill [vR 2 0, vR 1 0, vI y3, vI y4] s11) fun s13 =>
        some (some (vI (x_nb 1)), s13) := (x_adv_out (K := x_K) (P := x_Pr) (d := d + 1) (M := tb_Garden_reads) [39] 56 (39, [some (vR 2 0), some (vR 1 0), some (vI y3), some (vI y4), some (vI y5)], [], s)).symm
set_option maxRecDepth 100000 in
set_option maxHeartbeats 400000 in
theorem Garden_reads_eq (d : Nat)  (s : xS) : ev (d + 1) f_Garden_reads [vR 2 0, vR 1 0] s =
    bV (ev d f_Text_open [vR 1 0, vI 80] s) fun s1 =>
    bI (ev d f_Text_takeDigit [vR 1 0, vI 2, vI 6] s1) fun r3 s2 =>
    if (r3 : Int32) = (-1) then
      some (some (vI (x_nb 0)), s2)
    else
      bI (ev d f_Text_takeDigit [vR 1 0, vI 2, vI 6] s2) fun r5 s4 =>
      if (r5 : Int32) = (-1) then
        some (some (vI (x_nb 0)), s4)
      else
        Garden_reads_L1 d r3 r5 0 s4 := (x_adv_out (K := x_K) (P := x_Pr) (d := d + 1) (M := tb_Garden_reads) [39] 56 (x_st0 tb_Garden_reads [vR 2 0, vR 1 0] s)).symm
noncomputable def Garden_fill_L1 (d : Nat) (y3 : Int32) (s : xS) : Option xO := og (d + 1) tb_Garden_fill (40, [some (vR 2 0), some (vR 1 0), none, none, some (vI y3)], [], s)
set_option maxRecDepth 100000 in
set_option maxHeartbeats 400000 in
theorem Garden_fill_L1_eq (d : Nat) (y3 : Int32) (s : xS) : Garden_fill_L1 d y3 s =
    if (y3 : Int32) < s.1 2 0 4 then
      bI (ev d f_Text_here [vR 1 0] s) fun r5 s4 =>
      bI (ev d f_Garden_kindBySign [vI r5] s4) fun r7 s6 =>
      if x_in y3 36 then
      bV (ev d f_Text_step [vR 1 0] (wI s6 15 0 (y3 : Int32).toNatClampNeg r7)) fun s8 =>
      Garden_fill_L1 d (y3 + 1) s8
      else none
    else
      bV (ev d f_Garden_link [vR 2 0] s) fun s9 =>
      some (none, s9) := (x_adv_out (K := x_K) (P := x_Pr) (d := d + 1) (M := tb_Garden_fill) [40] 43 (40, [some (vR 2 0), some (vR 1 0), none, none, some (vI y3)], [], s)).symm
set_option maxRecDepth 100000 in
set_option maxHeartbeats 400000 in
theorem Garden_fill_eq (d : Nat) (x2 : Int32) (x3 : Int32) (s : xS) : ev (d + 1) f_Garden_fill [vR 2 0, vR 1 0, vI x2, vI x3] s =
    bV (ev d f_Text_open [vR 1 0, vI 80] (wI (wI (wI s 2 0 2 x2) 2 0 3 x3) 2 0 4 (x2 * x3))) fun s1 =>
    bV (ev d f_Text_step [vR 1 0] s1) fun s2 =>
    bV (ev d f_Text_step [vR 1 0] s2) fun s3 =>
    Garden_fill_L1 d 0 s3 := (x_adv_out (K := x_K) (P := x_Pr) (d := d + 1) (M := tb_Garden_fill) [40] 43 (x_st0 tb_Garden_fill [vR 2 0, vR 1 0, vI x2, vI x3] s)).symm
noncomputable def Garden_link_L1 (d : Nat) (y2 : Int32) (s : xS) : Option xO := og (d + 1) tb_Garden_link (2, [some (vR 2 0), some (vI y2), none, none], [], s)
noncomputable def Garden_link_L2 (d : Nat) (y2 : Int32) (y3 : Int32) (s : xS) : Option xO := og (d + 1) tb_Garden_link (12, [some (vR 2 0), some (vI y2), some (vI y3), none], [], s)
set_option maxRecDepth 100000 in
set_option maxHeartbeats 400000 in
theorem Garden_link_L1_eq (d : Nat) (y2 : Int32) (s : xS) : Garden_link_L1 d y2 s =
    if (y2 : Int32) < s.1 2 0 2 then
      Garden_link_L2 d y2 0 s
    else
      some (none, s) := (x_adv_out (K := x_K) (P := x_Pr) (d := d + 1) (M := tb_Garden_link) [2, 12] 73 (2, [some (vR 2 0), some (vI y2), none, none], [], s)).symm
set_option maxRecDepth 100000 in
set_option maxHeartbeats 400000 in
theorem Garden_link_L2_eq (d : Nat) (y2 : Int32) (y3 : Int32) (s : xS) : Garden_link_L2 d y2 y3 s =
    if (y3 : Int32) < s.1 2 0 3 then
      bI (ev d f_Garden_at [vR 2 0, vI y2, vI y3] s) fun r2 s1 =>
      bI (ev d f_Garden_openAt [vR 2 0, vI (y2 - 1), vI y3] s1) fun r4 s3 =>
      if x_in (4 * r2) 144 then
      bI (ev d f_Garden_openAt [vR 2 0, vI y2, vI (y3 + 1)] (wI s3 16 0 (4 * r2 : Int32).toNatClampNeg r4)) fun r6 s5 =>
      if x_in ((4 * r2) + 1) 144 then
      bI (ev d f_Garden_openAt [vR 2 0, vI (y2 + 1), vI y3] (wI s5 16 0 ((4 * r2) + 1 : Int32).toNatClampNeg r6)) fun r8 s7 =>
      if x_in ((4 * r2) + 2) 144 then
      bI (ev d f_Garden_openAt [vR 2 0, vI y2, vI (y3 - 1)] (wI s7 16 0 ((4 * r2) + 2 : Int32).toNatClampNeg r8)) fun r10 s9 =>
      if x_in ((4 * r2) + 3) 144 then
      Garden_link_L2 d y2 (y3 + 1) (wI s9 16 0 ((4 * r2) + 3 : Int32).toNatClampNeg r10)
      else none
      else none
      else none
      else none
    else
      Garden_link_L1 d (y2 + 1) s := (x_adv_out (K := x_K) (P := x_Pr) (d := d + 1) (M := tb_Garden_link) [2, 12] 73 (12, [some (vR 2 0), some (vI y2), some (vI y3), none], [], s)).symm
set_option maxRecDepth 100000 in
set_option maxHeartbeats 400000 in
theorem Garden_link_eq (d : Nat)  (s : xS) : ev (d + 1) f_Garden_link [vR 2 0] s =
    Garden_link_L1 d 0 s := (x_adv_out (K := x_K) (P := x_Pr) (d := d + 1) (M := tb_Garden_link) [2, 12] 73 (x_st0 tb_Garden_link [vR 2 0] s)).symm
set_option maxRecDepth 100000 in
set_option maxHeartbeats 400000 in
theorem Garden_openAt_eq (d : Nat) (x1 : Int32) (x2 : Int32) (s : xS) : ev (d + 1) f_Garden_openAt [vR 2 0, vI x1, vI x2] s =
    if (x1 : Int32) < 0 then
      some (some (vI (-1)), s)
    else
      if (x1 : Int32) < s.1 2 0 2 then
        if (x2 : Int32) < 0 then
          some (some (vI (-1)), s)
        else
          if (x2 : Int32) < s.1 2 0 3 then
            bI (ev d f_Garden_at [vR 2 0, vI x1, vI x2] s) fun r2 s1 =>
            bI (ev d f_Garden_isWall [vR 2 0, vI r2] s1) fun r4 s3 =>
            if (r4 : Int32) = 0 then
              bI (ev d f_Garden_at [vR 2 0, vI x1, vI x2] s3) fun r6 s5 =>
              some (some (vI r6), s5)
            else
              some (some (vI (-1)), s3)
          else
            some (some (vI (-1)), s)
      else
        some (some (vI (-1)), s) := (x_adv_out (K := x_K) (P := x_Pr) (d := d + 1) (M := tb_Garden_openAt) [] 29 (x_st0 tb_Garden_openAt [vR 2 0, vI x1, vI x2] s)).symm
noncomputable def Garden_kindBySign_J1 (d : Nat) (y1 : Int32) (s : xS) : Option xO := og (d + 1) tb_Garden_kindBySign (36, [some (vI y1)], [], s)
set_option maxRecDepth 100000 in
set_option maxHeartbeats 400000 in
theorem Garden_kindBySign_J1_eq (d : Nat) (y1 : Int32) (s : xS) : Garden_kindBySign_J1 d y1 s =
    if (y1 : Int32) < 48 then
      some (some (vI (-1)), s)
    else
      if (51 : Int32) < y1 then
        some (some (vI (-1)), s)
      else
        some (some (vI ((20 + y1) - 48)), s) := (x_adv_out (K := x_K) (P := x_Pr) (d := d + 1) (M := tb_Garden_kindBySign) [36] 39 (36, [some (vI y1)], [], s)).symm
set_option maxRecDepth 100000 in
set_option maxHeartbeats 400000 in
theorem Garden_kindBySign_eq (d : Nat) (x1 : Int32) (s : xS) : ev (d + 1) f_Garden_kindBySign [vI x1] s =
    if (x1 : Int32) = 46 then
      some (some (vI 0), s)
    else
      if (x1 : Int32) = 35 then
        some (some (vI 1), s)
      else
        if (x1 : Int32) < 97 then
          Garden_kindBySign_J1 d x1 s
        else
          if (102 : Int32) < x1 then
            Garden_kindBySign_J1 d x1 s
          else
            some (some (vI ((10 + x1) - 97)), s) := (x_adv_out (K := x_K) (P := x_Pr) (d := d + 1) (M := tb_Garden_kindBySign) [36] 39 (x_st0 tb_Garden_kindBySign [vI x1] s)).symm
set_option maxRecDepth 100000 in
set_option maxHeartbeats 400000 in
theorem Garden_has_eq (d : Nat) (x1 : Int32) (s : xS) : ev (d + 1) f_Garden_has [vR 2 0, vI x1] s =
    if (x1 : Int32) < 0 then
      some (some (vI (x_nb 0)), s)
    else
      if (x1 : Int32) < s.1 2 0 4 then
        some (some (vI (x_nb 1)), s)
      else
        some (some (vI (x_nb 0)), s) := (x_adv_out (K := x_K) (P := x_Pr) (d := d + 1) (M := tb_Garden_has) [] 13 (x_st0 tb_Garden_has [vR 2 0, vI x1] s)).symm
set_option maxRecDepth 100000 in
set_option maxHeartbeats 400000 in
theorem Garden_at_eq (d : Nat) (x1 : Int32) (x2 : Int32) (s : xS) : ev (d + 1) f_Garden_at [vR 2 0, vI x1, vI x2] s =
    some (some (vI ((x1 * (s.1 2 0 3)) + x2)), s) := (x_adv_out (K := x_K) (P := x_Pr) (d := d + 1) (M := tb_Garden_at) [] 10 (x_st0 tb_Garden_at [vR 2 0, vI x1, vI x2] s)).symm
set_option maxRecDepth 100000 in
set_option maxHeartbeats 400000 in
theorem Garden_rowOf_eq (d : Nat) (x1 : Int32) (s : xS) : ev (d + 1) f_Garden_rowOf [vR 2 0, vI x1] s =
    if (0 : Int32) < s.1 2 0 3 then
      if (s.1 2 0 3 : Int32) = 0 then none else
      some (some (vI (x1 / (s.1 2 0 3))), s)
    else
      some (some (vI (-1)), s) := (x_adv_out (K := x_K) (P := x_Pr) (d := d + 1) (M := tb_Garden_rowOf) [] 13 (x_st0 tb_Garden_rowOf [vR 2 0, vI x1] s)).symm
set_option maxRecDepth 100000 in
set_option maxHeartbeats 400000 in
theorem Garden_columnOf_eq (d : Nat) (x1 : Int32) (s : xS) : ev (d + 1) f_Garden_columnOf [vR 2 0, vI x1] s =
    if (0 : Int32) < s.1 2 0 3 then
      if (s.1 2 0 3 : Int32) = 0 then none else
      some (some (vI (jrem x1 (s.1 2 0 3))), s)
    else
      some (some (vI (-1)), s) := (x_adv_out (K := x_K) (P := x_Pr) (d := d + 1) (M := tb_Garden_columnOf) [] 13 (x_st0 tb_Garden_columnOf [vR 2 0, vI x1] s)).symm
set_option maxRecDepth 100000 in
set_option maxHeartbeats 400000 in
theorem Garden_kindOf_eq (d : Nat) (x1 : Int32) (s : xS) : ev (d + 1) f_Garden_kindOf [vR 2 0, vI x1] s =
    if (x1 : Int32) < 0 then
      some (some (vI 1), s)
    else
      if (x1 : Int32) < s.1 2 0 4 then
        if x_in x1 36 then
        some (some (vI (s.1 15 0 (x1 : Int32).toNatClampNeg)), s)
        else none
      else
        some (some (vI 1), s) := (x_adv_out (K := x_K) (P := x_Pr) (d := d + 1) (M := tb_Garden_kindOf) [] 16 (x_st0 tb_Garden_kindOf [vR 2 0, vI x1] s)).symm
set_option maxRecDepth 100000 in
set_option maxHeartbeats 400000 in
theorem Garden_isWall_eq (d : Nat) (x1 : Int32) (s : xS) : ev (d + 1) f_Garden_isWall [vR 2 0, vI x1] s =
    bI (ev d f_Garden_kindOf [vR 2 0, vI x1] s) fun r2 s1 =>
    if (r2 : Int32) = 1 then
      some (some (vI (x_nb 1)), s1)
    else
      some (some (vI (x_nb 0)), s1) := (x_adv_out (K := x_K) (P := x_Pr) (d := d + 1) (M := tb_Garden_isWall) [] 12 (x_st0 tb_Garden_isWall [vR 2 0, vI x1] s)).symm
set_option maxRecDepth 100000 in
set_option maxHeartbeats 400000 in
theorem Garden_sightOn_eq (d : Nat) (x1 : Int32) (s : xS) : ev (d + 1) f_Garden_sightOn [vR 2 0, vI x1] s =
    bI (ev d f_Garden_kindOf [vR 2 0, vI x1] s) fun r2 s1 =>
    if (r2 : Int32) < 10 then
      some (some (vI (-1)), s1)
    else
      if (r2 : Int32) < 20 then
        some (some (vI (r2 - 10)), s1)
      else
        some (some (vI (-1)), s1) := (x_adv_out (K := x_K) (P := x_Pr) (d := d + 1) (M := tb_Garden_sightOn) [] 19 (x_st0 tb_Garden_sightOn [vR 2 0, vI x1] s)).symm
set_option maxRecDepth 100000 in
set_option maxHeartbeats 400000 in
theorem Garden_next_eq (d : Nat) (x1 : Int32) (x2 : Int32) (s : xS) : ev (d + 1) f_Garden_next [vR 2 0, vI x1, vI x2] s =
    if (x1 : Int32) < 0 then
      some (some (vI (-1)), s)
    else
      if (x1 : Int32) < s.1 2 0 4 then
        if (x2 : Int32) < 0 then
          some (some (vI (-1)), s)
        else
          if (x2 : Int32) < 4 then
            if x_in ((4 * x1) + x2) 144 then
            some (some (vI (s.1 16 0 ((4 * x1) + x2 : Int32).toNatClampNeg)), s)
            else none
          else
            some (some (vI (-1)), s)
      else
        some (some (vI (-1)), s) := (x_adv_out (K := x_K) (P := x_Pr) (d := d + 1) (M := tb_Garden_next) [] 25 (x_st0 tb_Garden_next [vR 2 0, vI x1, vI x2] s)).symm
set_option maxRecDepth 100000 in
set_option maxHeartbeats 400000 in
theorem Garden_slopeOn_eq (d : Nat) (x1 : Int32) (s : xS) : ev (d + 1) f_Garden_slopeOn [vR 2 0, vI x1] s =
    bI (ev d f_Garden_kindOf [vR 2 0, vI x1] s) fun r2 s1 =>
    if (r2 : Int32) < 20 then
      some (some (vI (-1)), s1)
    else
      some (some (vI (r2 - 20)), s1) := (x_adv_out (K := x_K) (P := x_Pr) (d := d + 1) (M := tb_Garden_slopeOn) [] 16 (x_st0 tb_Garden_slopeOn [vR 2 0, vI x1] s)).symm
noncomputable def Garden_runFrom_L1 (d : Nat) (y2 : Int32) (y3 : Int32) (s : xS) : Option xO := og (d + 1) tb_Garden_runFrom (4, [some (vR 2 0), none, some (vI y2), some (vI y3)], [], s)
set_option maxRecDepth 100000 in
set_option maxHeartbeats 400000 in
theorem Garden_runFrom_L1_eq (d : Nat) (y2 : Int32) (y3 : Int32) (s : xS) : Garden_runFrom_L1 d y2 y3 s =
    if (y3 : Int32) < s.1 2 0 4 then
      bI (ev d f_Garden_slopeOn [vR 2 0, vI y2] s) fun r2 s1 =>
      bI (ev d f_Garden_next [vR 2 0, vI y2, vI r2] s1) fun r4 s3 =>
      if (r4 : Int32) = (-1) then
        some (some (vI y3), s3)
      else
        Garden_runFrom_L1 d r4 (y3 + 1) s3
    else
      some (some (vI (-1)), s) := (x_adv_out (K := x_K) (P := x_Pr) (d := d + 1) (M := tb_Garden_runFrom) [4] 27 (4, [some (vR 2 0), none, some (vI y2), some (vI y3)], [], s)).symm
set_option maxRecDepth 100000 in
set_option maxHeartbeats 400000 in
theorem Garden_runFrom_eq (d : Nat) (x1 : Int32) (s : xS) : ev (d + 1) f_Garden_runFrom [vR 2 0, vI x1] s =
    Garden_runFrom_L1 d x1 0 s := (x_adv_out (K := x_K) (P := x_Pr) (d := d + 1) (M := tb_Garden_runFrom) [4] 27 (x_st0 tb_Garden_runFrom [vR 2 0, vI x1] s)).symm
noncomputable def Garden_runEnd_L1 (d : Nat) (y2 : Int32) (y3 : Int32) (y4 : Int32) (s : xS) : Option xO := og (d + 1) tb_Garden_runEnd (5, [some (vR 2 0), none, some (vI y2), some (vI y3), some (vI y4)], [], s)
set_option maxRecDepth 100000 in
set_option maxHeartbeats 400000 in
theorem Garden_runEnd_L1_eq (d : Nat) (y2 : Int32) (y3 : Int32) (y4 : Int32) (s : xS) : Garden_runEnd_L1 d y2 y3 y4 s =
    if (y4 : Int32) < y2 then
      if (y4 : Int32) < 36 then
        bI (ev d f_Garden_slopeOn [vR 2 0, vI y3] s) fun r2 s1 =>
        bI (ev d f_Garden_next [vR 2 0, vI y3, vI r2] s1) fun r4 s3 =>
        Garden_runEnd_L1 d y2 r4 (y4 + 1) s3
      else
        some (some (vI y3), s)
    else
      some (some (vI y3), s) := (x_adv_out (K := x_K) (P := x_Pr) (d := d + 1) (M := tb_Garden_runEnd) [5] 24 (5, [some (vR 2 0), none, some (vI y2), some (vI y3), some (vI y4)], [], s)).symm
set_option maxRecDepth 100000 in
set_option maxHeartbeats 400000 in
theorem Garden_runEnd_eq (d : Nat) (x1 : Int32) (x2 : Int32) (s : xS) : ev (d + 1) f_Garden_runEnd [vR 2 0, vI x1, vI x2] s =
    Garden_runEnd_L1 d x2 x1 0 s := (x_adv_out (K := x_K) (P := x_Pr) (d := d + 1) (M := tb_Garden_runEnd) [5] 24 (x_st0 tb_Garden_runEnd [vR 2 0, vI x1, vI x2] s)).symm
noncomputable def Garden_countOpen_L1 (d : Nat) (y2 : Int32) (y3 : Int32) (s : xS) : Option xO := og (d + 1) tb_Garden_countOpen (4, [some (vR 2 0), some (vI y2), some (vI y3)], [], s)
set_option maxRecDepth 100000 in
set_option maxHeartbeats 400000 in
theorem Garden_countOpen_L1_eq (d : Nat) (y2 : Int32) (y3 : Int32) (s : xS) : Garden_countOpen_L1 d y2 y3 s =
    if (y3 : Int32) < s.1 2 0 4 then
      bI (ev d f_Garden_isWall [vR 2 0, vI y3] s) fun r2 s1 =>
      if (r2 : Int32) = 0 then
        Garden_countOpen_L1 d (y2 + 1) (y3 + 1) s1
      else
        Garden_countOpen_L1 d (y2 + 0) (y3 + 1) s1
    else
      some (some (vI y2), s) := (x_adv_out (K := x_K) (P := x_Pr) (d := d + 1) (M := tb_Garden_countOpen) [4] 25 (4, [some (vR 2 0), some (vI y2), some (vI y3)], [], s)).symm
set_option maxRecDepth 100000 in
set_option maxHeartbeats 400000 in
theorem Garden_countOpen_eq (d : Nat)  (s : xS) : ev (d + 1) f_Garden_countOpen [vR 2 0] s =
    Garden_countOpen_L1 d 0 0 s := (x_adv_out (K := x_K) (P := x_Pr) (d := d + 1) (M := tb_Garden_countOpen) [4] 25 (x_st0 tb_Garden_countOpen [vR 2 0] s)).symm
noncomputable def Garden_sights_L1 (d : Nat) (y2 : Int32) (y3 : Int32) (s : xS) : Option xO := og (d + 1) tb_Garden_sights (4, [some (vR 2 0), some (vI y2), some (vI y3), none], [], s)
set_option maxRecDepth 100000 in
set_option maxHeartbeats 400000 in
theorem Garden_sights_L1_eq (d : Nat) (y2 : Int32) (y3 : Int32) (s : xS) : Garden_sights_L1 d y2 y3 s =
    if (y3 : Int32) < s.1 2 0 4 then
      bI (ev d f_Garden_sightOn [vR 2 0, vI y3] s) fun r2 s1 =>
      if (r2 : Int32) = (-1) then
        Garden_sights_L1 d (y2 ||| 0) (y3 + 1) s1
      else
        Garden_sights_L1 d (y2 ||| (jshl 1 r2)) (y3 + 1) s1
    else
      some (some (vI y2), s) := (x_adv_out (K := x_K) (P := x_Pr) (d := d + 1) (M := tb_Garden_sights) [4] 30 (4, [some (vR 2 0), some (vI y2), some (vI y3), none], [], s)).symm
set_option maxRecDepth 100000 in
set_option maxHeartbeats 400000 in
theorem Garden_sights_eq (d : Nat)  (s : xS) : ev (d + 1) f_Garden_sights [vR 2 0] s =
    Garden_sights_L1 d 0 0 s := (x_adv_out (K := x_K) (P := x_Pr) (d := d + 1) (M := tb_Garden_sights) [4] 30 (x_st0 tb_Garden_sights [vR 2 0] s)).symm

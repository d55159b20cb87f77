/-! Printed by gen.py: what methods come to. -/
set_option maxRecDepth 100000 in
set_option maxHeartbeats 400000 in
theorem Search_begin_eq (d : Nat) (x1 : Int32) (s : xS) : ev (d + 1) f_Search_begin [vR 9 0, vI x1] s =
    bI (ev d f_Outing_fieldOf [vR 3 0, vI x1] (wI s 9 0 9 x1)) fun r2 s1 =>
    bI (ev d f_Outing_viewsOf [vR 3 0, vI (s1.1 9 0 9)] s1) fun r4 s3 =>
    bV (ev d f_Arrays_fill [vR 37 0, vI (-1)] (wI s3 9 0 8 ((r2 * 64) + r4))) fun s5 =>
    some (none, s5) := (x_adv_out (K := x_K) (P := x_Pr) (d := d + 1) (M := tb_Search_begin) [] 26 (x_st0 tb_Search_begin [vR 9 0, vI x1] s)).symm
set_option maxRecDepth 100000 in
set_option maxHeartbeats 400000 in
theorem Search_viewsIn_eq (d : Nat) (x1 : Int32) (s : xS) : ev (d + 1) f_Search_viewsIn [vI x1] s =
    some (some (vI (x1 &&& 63)), s) := (x_adv_out (K := x_K) (P := x_Pr) (d := d + 1) (M := tb_Search_viewsIn) [] 7 (x_st0 tb_Search_viewsIn [vI x1] s)).symm
set_option maxRecDepth 100000 in
set_option maxHeartbeats 400000 in
theorem Search_wayInCode_eq (d : Nat) (x1 : Int32) (x2 : Int32) (x3 : Int32) (s : xS) : ev (d + 1) f_Search_wayInCode [vI x1, vI x2, vI x3] s =
    some (some (vI ((jshr x1 (2 * ((x2 - 1) - x3))) &&& 3)), s) := (x_adv_out (K := x_K) (P := x_Pr) (d := d + 1) (M := tb_Search_wayInCode) [] 15 (x_st0 tb_Search_wayInCode [vI x1, vI x2, vI x3] s)).symm
noncomputable def Search_pushed_J1 (d : Nat) (y2 : Int32) (y3 : Int32) (y4 : Int32) (s : xS) : Option xO := og (d + 1) tb_Search_pushed (91, [some (vR 9 0), none, none, some (vI y2), some (vI y3), none, none, some (vI y4)], [], s)
set_option maxRecDepth 100000 in
set_option maxHeartbeats 400000 in
theorem Search_pushed_J1_eq (d : Nat) (y2 : Int32) (y3 : Int32) (y4 : Int32) (s : xS) : Search_pushed_J1 d y2 y3 y4 s =
    if x_in y4 1008 then
    some (some (vI ((y2 * 64) + (y3 ||| (s.1 37 0 (y4 : Int32).toNatClampNeg)))), s)
    else none := (x_adv_out (K := x_K) (P := x_Pr) (d := d + 1) (M := tb_Search_pushed) [91] 66 (91, [some (vR 9 0), none, none, some (vI y2), some (vI y3), none, none, some (vI y4)], [], s)).symm
set_option maxRecDepth 100000 in
set_option maxHeartbeats 400000 in
theorem Search_pushed_eq (d : Nat) (x1 : Int32) (x2 : Int32) (s : xS) : ev (d + 1) f_Search_pushed [vR 9 0, vI x1, vI x2] s =
    if (64 : Int32) = 0 then none else
    bI (ev d f_Garden_next [vR 2 0, vI (x1 / 64), vI x2] s) fun r2 s1 =>
      if (r2 : Int32) = (-1) then
        some (some (vI (-1)), s1)
      else
        bI (ev d f_Search_viewsIn [vI x1] s1) fun r4 s3 =>
        bI (ev d f_Integer_bitCount [vI r4] s3) fun r6 s5 =>
        if x_in ((((4 * r2) + x2) * 7) + r6) 1008 then
        if (s5.1 37 0 ((((4 * r2) + x2) * 7) + r6 : Int32).toNatClampNeg : Int32) = (-1) then
          bI (ev d f_Eye_canForm [vR 6 0, vR 5 0, vR 3 0, vI (s5.1 9 0 9), vI ((4 * r2) + x2), vI r6] s5) fun r8 s7 =>
          if x_in ((((4 * r2) + x2) * 7) + r6) 1008 then
          Search_pushed_J1 d r2 r4 ((((4 * r2) + x2) * 7) + r6) (wI s7 37 0 ((((4 * r2) + x2) * 7) + r6 : Int32).toNatClampNeg r8)
          else none
        else
          Search_pushed_J1 d r2 r4 ((((4 * r2) + x2) * 7) + r6) s5
        else none := (x_adv_out (K := x_K) (P := x_Pr) (d := d + 1) (M := tb_Search_pushed) [91] 66 (x_st0 tb_Search_pushed [vR 9 0, vI x1, vI x2] s)).symm
noncomputable def Search_follow_L1 (d : Nat) (y2 : Int32) (y3 : Int32) (y4 : Int32) (y5 : Int32) (s : xS) : Option xO := og (d + 1) tb_Search_follow (8, [some (vR 9 0), some (vI y2), some (vI y3), some (vI y4), some (vI y5)], [], s)
set_option maxRecDepth 100000 in
set_option maxHeartbeats 400000 in
theorem Search_follow_L1_eq (d : Nat) (y2 : Int32) (y3 : Int32) (y4 : Int32) (y5 : Int32) (s : xS) : Search_follow_L1 d y2 y3 y4 y5 s =
    if (y5 : Int32) < y3 then
      if (y4 : Int32) = (-1) then
        some (some (vI y4), s)
      else
        bI (ev d f_Search_wayInCode [vI y2, vI y3, vI y5] s) fun r2 s1 =>
        bI (ev d f_Search_pushed [vR 9 0, vI y4, vI r2] s1) fun r4 s3 =>
        Search_follow_L1 d y2 y3 r4 (y5 + 1) s3
    else
      some (some (vI y4), s) := (x_adv_out (K := x_K) (P := x_Pr) (d := d + 1) (M := tb_Search_follow) [8] 26 (8, [some (vR 9 0), some (vI y2), some (vI y3), some (vI y4), some (vI y5)], [], s)).symm
set_option maxRecDepth 100000 in
set_option maxHeartbeats 400000 in
theorem Search_follow_eq (d : Nat) (x1 : Int32) (x2 : Int32) (s : xS) : ev (d + 1) f_Search_follow [vR 9 0, vI x1, vI x2] s =
    Search_follow_L1 d x1 x2 (s.1 9 0 8) 0 s := (x_adv_out (K := x_K) (P := x_Pr) (d := d + 1) (M := tb_Search_follow) [8] 26 (x_st0 tb_Search_follow [vR 9 0, vI x1, vI x2] s)).symm
noncomputable def Search_spread_L1 (d : Nat) (y2 : Int32) (s : xS) : Option xO := og (d + 1) tb_Search_spread (59, [some (vR 9 0), some (vI y2), none, none], [], s)
noncomputable def Search_spread_L2 (d : Nat) (y2 : Int32) (y3 : Int32) (s : xS) : Option xO := og (d + 1) tb_Search_spread (76, [some (vR 9 0), some (vI y2), some (vI y3), none], [], s)
set_option maxRecDepth 100000 in
set_option maxHeartbeats 400000 in
theorem Search_spread_L1_eq (d : Nat) (y2 : Int32) (s : xS) : Search_spread_L1 d y2 s =
    if (y2 : Int32) < s.1 9 0 7 then
      if (y2 : Int32) < 2304 then
        Search_spread_L2 d y2 0 s
      else
        some (none, s)
    else
      some (none, s) := (x_adv_out (K := x_K) (P := x_Pr) (d := d + 1) (M := tb_Search_spread) [59, 76] 97 (59, [some (vR 9 0), some (vI y2), none, none], [], s)).symm
set_option maxRecDepth 100000 in
set_option maxHeartbeats 400000 in
theorem Search_spread_L2_eq (d : Nat) (y2 : Int32) (y3 : Int32) (s : xS) : Search_spread_L2 d y2 y3 s =
    if (y3 : Int32) < 4 then
      if x_in y2 2304 then
      bI (ev d f_Search_pushed [vR 9 0, vI (s.1 36 0 (y2 : Int32).toNatClampNeg), vI y3] s) fun r3 s2 =>
      if (r3 : Int32) = (-1) then
        Search_spread_L2 d y2 (y3 + 1) s2
      else
        if x_in r3 2304 then
        if (s2.1 35 0 (r3 : Int32).toNatClampNeg : Int32) = (-1) then
          if (s2.1 9 0 7 : Int32) < 2304 then
            if x_in y2 2304 then
            if x_in r3 2304 then
            if x_in (s2.1 9 0 7) 2304 then
            Search_spread_L2 d y2 (y3 + 1) (wI (wI (wI s2 35 0 (r3 : Int32).toNatClampNeg ((4 * (s2.1 36 0 (y2 : Int32).toNatClampNeg)) + y3)) 36 0 (s2.1 9 0 7 : Int32).toNatClampNeg r3) 9 0 7 ((s2.1 9 0 7) + 1))
            else none
            else none
            else none
          else
            Search_spread_L2 d y2 (y3 + 1) s2
        else
          Search_spread_L2 d y2 (y3 + 1) s2
        else none
      else none
    else
      Search_spread_L1 d (y2 + 1) s := (x_adv_out (K := x_K) (P := x_Pr) (d := d + 1) (M := tb_Search_spread) [59, 76] 97 (76, [some (vR 9 0), some (vI y2), some (vI y3), none], [], s)).symm
set_option maxRecDepth 100000 in
set_option maxHeartbeats 400000 in
theorem Search_spread_eq (d : Nat)  (s : xS) : ev (d + 1) f_Search_spread [vR 9 0] s =
    bV (ev d f_Arrays_fill [vR 35 0, vI (-1)] s) fun s1 =>
    if (s1.1 9 0 8 : Int32) < 0 then
      some (none, wI s1 9 0 7 0)
    else
      if (s1.1 9 0 8 : Int32) < 2304 then
        if x_in (s1.1 9 0 8) 2304 then
        if x_in 0 2304 then
        Search_spread_L1 d 0 (wI (wI (wI (wI s1 9 0 7 0) 35 0 (s1.1 9 0 8 : Int32).toNatClampNeg (-2)) 36 0 (0 : Int32).toNatClampNeg (s1.1 9 0 8)) 9 0 7 1)
        else none
        else none
      else
        some (none, wI s1 9 0 7 0) := (x_adv_out (K := x_K) (P := x_Pr) (d := d + 1) (M := tb_Search_spread) [59, 76] 97 (x_st0 tb_Search_spread [vR 9 0] s)).symm
noncomputable def Search_firstWith_L1 (d : Nat) (y2 : Int32) (y3 : Int32) (s : xS) : Option xO := og (d + 1) tb_Search_firstWith (2, [some (vR 9 0), some (vI y2), some (vI y3)], [], s)
set_option maxRecDepth 100000 in
set_option maxHeartbeats 400000 in
theorem Search_firstWith_L1_eq (d : Nat) (y2 : Int32) (y3 : Int32) (s : xS) : Search_firstWith_L1 d y2 y3 s =
    if (y3 : Int32) < s.1 9 0 7 then
      if x_in y3 2304 then
      bI (ev d f_Search_viewsIn [vI (s.1 36 0 (y3 : Int32).toNatClampNeg)] s) fun r2 s1 =>
      if (r2 &&& y2 : Int32) = y2 then
        if x_in y3 2304 then
        some (some (vI (s1.1 36 0 (y3 : Int32).toNatClampNeg)), s1)
        else none
      else
        Search_firstWith_L1 d y2 (y3 + 1) s1
      else none
    else
      some (some (vI (-1)), s) := (x_adv_out (K := x_K) (P := x_Pr) (d := d + 1) (M := tb_Search_firstWith) [2] 27 (2, [some (vR 9 0), some (vI y2), some (vI y3)], [], s)).symm
set_option maxRecDepth 100000 in
set_option maxHeartbeats 400000 in
theorem Search_firstWith_eq (d : Nat) (x1 : Int32) (s : xS) : ev (d + 1) f_Search_firstWith [vR 9 0, vI x1] s =
    Search_firstWith_L1 d x1 0 s := (x_adv_out (K := x_K) (P := x_Pr) (d := d + 1) (M := tb_Search_firstWith) [2] 27 (x_st0 tb_Search_firstWith [vR 9 0, vI x1] s)).symm
noncomputable def Search_firstWithMost_L1 (d : Nat) (y2 : Int32) (y3 : Int32) (s : xS) : Option xO := og (d + 1) tb_Search_firstWithMost (7, [some (vR 9 0), some (vI y2), some (vI y3)], [], s)
set_option maxRecDepth 100000 in
set_option maxHeartbeats 400000 in
theorem Search_firstWithMost_L1_eq (d : Nat) (y2 : Int32) (y3 : Int32) (s : xS) : Search_firstWithMost_L1 d y2 y3 s =
    if (y3 : Int32) < s.1 9 0 7 then
      if x_in y3 2304 then
      bI (ev d f_Search_viewsIn [vI (s.1 36 0 (y3 : Int32).toNatClampNeg)] s) fun r2 s1 =>
      bI (ev d f_Integer_bitCount [vI r2] s1) fun r4 s3 =>
      bI (ev d f_Search_viewsIn [vI y2] s3) fun r6 s5 =>
      bI (ev d f_Integer_bitCount [vI r6] s5) fun r8 s7 =>
      if (r8 : Int32) < r4 then
        if x_in y3 2304 then
        Search_firstWithMost_L1 d (s7.1 36 0 (y3 : Int32).toNatClampNeg) (y3 + 1) s7
        else none
      else
        Search_firstWithMost_L1 d y2 (y3 + 1) s7
      else none
    else
      some (some (vI y2), s) := (x_adv_out (K := x_K) (P := x_Pr) (d := d + 1) (M := tb_Search_firstWithMost) [7] 31 (7, [some (vR 9 0), some (vI y2), some (vI y3)], [], s)).symm
set_option maxRecDepth 100000 in
set_option maxHeartbeats 400000 in
theorem Search_firstWithMost_eq (d : Nat)  (s : xS) : ev (d + 1) f_Search_firstWithMost [vR 9 0] s =
    Search_firstWithMost_L1 d (s.1 9 0 8) 0 s := (x_adv_out (K := x_K) (P := x_Pr) (d := d + 1) (M := tb_Search_firstWithMost) [7] 31 (x_st0 tb_Search_firstWithMost [vR 9 0] s)).symm
set_option maxRecDepth 100000 in
set_option maxHeartbeats 400000 in
theorem Search_originOf_eq (d : Nat) (x1 : Int32) (s : xS) : ev (d + 1) f_Search_originOf [vR 9 0, vI x1] s =
    if (x1 : Int32) < 0 then
      some (some (vI (-1)), s)
    else
      if (x1 : Int32) < 2304 then
        if x_in x1 2304 then
        some (some (vI (s.1 35 0 (x1 : Int32).toNatClampNeg)), s)
        else none
      else
        some (some (vI (-1)), s) := (x_adv_out (K := x_K) (P := x_Pr) (d := d + 1) (M := tb_Search_originOf) [] 15 (x_st0 tb_Search_originOf [vR 9 0, vI x1] s)).symm
noncomputable def Search_stepsTo_L1 (d : Nat) (y2 : Int32) (y3 : Int32) (s : xS) : Option xO := og (d + 1) tb_Search_stepsTo (4, [some (vR 9 0), none, some (vI y2), some (vI y3)], [], s)
set_option maxRecDepth 100000 in
set_option maxHeartbeats 400000 in
theorem Search_stepsTo_L1_eq (d : Nat) (y2 : Int32) (y3 : Int32) (s : xS) : Search_stepsTo_L1 d y2 y3 s =
    if (y3 : Int32) < 2304 then
      bI (ev d f_Search_originOf [vR 9 0, vI y2] s) fun r2 s1 =>
      if (r2 : Int32) < 0 then
        some (some (vI y3), s1)
      else
        bI (ev d f_Search_originOf [vR 9 0, vI y2] s1) fun r4 s3 =>
        if (4 : Int32) = 0 then none else
        Search_stepsTo_L1 d (r4 / 4) (y3 + 1) s3
    else
      some (some (vI 2304), s) := (x_adv_out (K := x_K) (P := x_Pr) (d := d + 1) (M := tb_Search_stepsTo) [4] 26 (4, [some (vR 9 0), none, some (vI y2), some (vI y3)], [], s)).symm
set_option maxRecDepth 100000 in
set_option maxHeartbeats 400000 in
theorem Search_stepsTo_eq (d : Nat) (x1 : Int32) (s : xS) : ev (d + 1) f_Search_stepsTo [vR 9 0, vI x1] s =
    Search_stepsTo_L1 d x1 0 s := (x_adv_out (K := x_K) (P := x_Pr) (d := d + 1) (M := tb_Search_stepsTo) [4] 26 (x_st0 tb_Search_stepsTo [vR 9 0, vI x1] s)).symm
noncomputable def Search_wayTo_L1 (d : Nat) (y2 : Int32) (y3 : Int32) (y4 : Int32) (s : xS) : Option xO := og (d + 1) tb_Search_wayTo (5, [some (vR 9 0), none, some (vI y2), some (vI y3), some (vI y4)], [], s)
noncomputable def Search_wayTo_J2 (d : Nat) (y2 : Int32) (s : xS) : Option xO := og (d + 1) tb_Search_wayTo (33, [some (vR 9 0), none, none, some (vI y2), none], [], s)
set_option maxRecDepth 100000 in
set_option maxHeartbeats 400000 in
theorem Search_wayTo_L1_eq (d : Nat) (y2 : Int32) (y3 : Int32) (y4 : Int32) (s : xS) : Search_wayTo_L1 d y2 y3 y4 s =
    if (y4 : Int32) < y2 then
      bI (ev d f_Search_originOf [vR 9 0, vI y3] s) fun r2 s1 =>
      if (r2 : Int32) < 0 then
        Search_wayTo_J2 d y3 s1
      else
        bI (ev d f_Search_originOf [vR 9 0, vI y3] s1) fun r4 s3 =>
        if (4 : Int32) = 0 then none else
        Search_wayTo_L1 d y2 (r4 / 4) (y4 + 1) s3
    else
      Search_wayTo_J2 d y3 s := (x_adv_out (K := x_K) (P := x_Pr) (d := d + 1) (M := tb_Search_wayTo) [5, 33] 34 (5, [some (vR 9 0), none, some (vI y2), some (vI y3), some (vI y4)], [], s)).symm
set_option maxRecDepth 100000 in
set_option maxHeartbeats 400000 in
theorem Search_wayTo_J2_eq (d : Nat) (y2 : Int32) (s : xS) : Search_wayTo_J2 d y2 s =
    bI (ev d f_Search_originOf [vR 9 0, vI y2] s) fun r6 s5 =>
    if (r6 : Int32) < 0 then
      some (some (vI (-1)), s5)
    else
      bI (ev d f_Search_originOf [vR 9 0, vI y2] s5) fun r8 s7 =>
      if (4 : Int32) = 0 then none else
      some (some (vI (jrem r8 4)), s7) := (x_adv_out (K := x_K) (P := x_Pr) (d := d + 1) (M := tb_Search_wayTo) [5, 33] 34 (33, [some (vR 9 0), none, none, some (vI y2), none], [], s)).symm
set_option maxRecDepth 100000 in
set_option maxHeartbeats 400000 in
theorem Search_wayTo_eq (d : Nat) (x1 : Int32) (x2 : Int32) (s : xS) : ev (d + 1) f_Search_wayTo [vR 9 0, vI x1, vI x2] s =
    Search_wayTo_L1 d x2 x1 0 s := (x_adv_out (K := x_K) (P := x_Pr) (d := d + 1) (M := tb_Search_wayTo) [5, 33] 34 (x_st0 tb_Search_wayTo [vR 9 0, vI x1, vI x2] s)).symm

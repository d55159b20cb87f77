/-! Printed by gen.py: what methods come to. -/
set_option maxRecDepth 100000 in
set_option maxHeartbeats 400000 in
theorem Deeds_isKind_eq (d : Nat) (x1 : Int32) (s : xS) : ev (d + 1) f_Deeds_isKind [vI x1] s =
    if (x1 : Int32) = 110 then
      some (some (vI (x_nb 1)), s)
    else
      if (x1 : Int32) = 108 then
        some (some (vI (x_nb 1)), s)
      else
        if (x1 : Int32) = 99 then
          some (some (vI (x_nb 1)), s)
        else
          bI (ev d f_Deeds_highestSecond [vI x1] s) fun r2 s1 =>
          if (r2 : Int32) = (-1) then
            some (some (vI (x_nb 0)), s1)
          else
            some (some (vI (x_nb 1)), s1) := (x_adv_out (K := x_K) (P := x_Pr) (d := d + 1) (M := tb_Deeds_isKind) [] 20 (x_st0 tb_Deeds_isKind [vI x1] s)).symm
set_option maxRecDepth 100000 in
set_option maxHeartbeats 400000 in
theorem Deeds_highestSecond_eq (d : Nat) (x1 : Int32) (s : xS) : ev (d + 1) f_Deeds_highestSecond [vI x1] s =
    if (x1 : Int32) = 112 then
      some (some (vI 3), s)
    else
      if (x1 : Int32) = 116 then
        some (some (vI 3), s)
      else
        if (x1 : Int32) = 102 then
          some (some (vI 5), s)
        else
          some (some (vI (-1)), s) := (x_adv_out (K := x_K) (P := x_Pr) (d := d + 1) (M := tb_Deeds_highestSecond) [] 18 (x_st0 tb_Deeds_highestSecond [vI x1] s)).symm
set_option maxRecDepth 100000 in
set_option maxHeartbeats 400000 in
theorem Deeds_act_eq (d : Nat) (j1 : Nat) (x2 : Int32) (x3 : Int32) (x4 : Int32) (s : xS) : ev (d + 1) f_Deeds_act [vR 7 0, vR 3 j1, vI x2, vI x3, vI x4] s =
    if (x2 : Int32) = 99 then
      bI (ev d f_Deeds_grasp [vR 7 0, vR 3 j1, vI x3] s) fun r2 s1 =>
      some (some (vI r2), s1)
    else if (x2 : Int32) = 108 then
      bI (ev d f_Deeds_letGo [vR 7 0, vR 3 j1, vI x3] s) fun r4 s3 =>
      some (some (vI r4), s3)
    else if (x2 : Int32) = 110 then
      bI (ev d f_Deeds_pass [vR 7 0, vR 3 j1, vI x3] s) fun r6 s5 =>
      some (some (vI r6), s5)
    else if (x2 : Int32) = 112 then
      bI (ev d f_Deeds_shove [vR 7 0, vR 3 j1, vI x3, vI x4] s) fun r8 s7 =>
      some (some (vI r8), s7)
    else if (x2 : Int32) = 116 then
      bI (ev d f_Deeds_turn [vR 7 0, vR 3 j1, vI x3, vI x4] s) fun r10 s9 =>
      some (some (vI r10), s9)
    else bI (ev d f_Deeds_lose [vR 7 0, vR 3 j1, vI x3, vI x4] s) fun r12 s11 =>
      some (some (vI r12), s11) := (x_adv_out (K := x_K) (P := x_Pr) (d := d + 1) (M := tb_Deeds_act) [] 38 (x_st0 tb_Deeds_act [vR 7 0, vR 3 j1, vI x2, vI x3, vI x4] s)).symm
set_option maxRecDepth 100000 in
set_option maxHeartbeats 400000 in
theorem Deeds_shove_eq (d : Nat) (j1 : Nat) (x2 : Int32) (x3 : Int32) (s : xS) : ev (d + 1) f_Deeds_shove [vR 7 0, vR 3 j1, vI x2, vI x3] s =
    bI (ev d f_Outing_has [vR 3 j1, vI x2] s) fun r2 s1 =>
    if (r2 : Int32) = 0 then
      some (some (vI (-1)), s1)
    else
      bI (ev d f_Main_isWay [vI x3] s1) fun r4 s3 =>
      if (r4 : Int32) = 0 then
        some (some (vI (-1)), s3)
      else
        bI (ev d f_Outing_isLoose [vR 3 j1, vI x2] s3) fun r6 s5 =>
        if (r6 : Int32) = 0 then
          bI (ev d f_Outing_fieldOf [vR 3 j1, vI x2] s5) fun r8 s7 =>
          bI (ev d f_Garden_next [vR 2 0, vI r8, vI x3] s7) fun r10 s9 =>
          if (r10 : Int32) = (-1) then
            some (some (vI (-3)), s9)
          else
            bV (ev d f_Outing_place [vR 3 j1, vI x2, vI r10, vI x3] s9) fun s11 =>
            bI (ev d f_Deeds_look [vR 7 0, vR 3 j1, vI x2] s11) fun r13 s12 =>
            some (some (vI r13), s12)
        else
          some (some (vI (-2)), s5) := (x_adv_out (K := x_K) (P := x_Pr) (d := d + 1) (M := tb_Deeds_shove) [] 41 (x_st0 tb_Deeds_shove [vR 7 0, vR 3 j1, vI x2, vI x3] s)).symm
set_option maxRecDepth 100000 in
set_option maxHeartbeats 400000 in
theorem Deeds_turn_eq (d : Nat) (j1 : Nat) (x2 : Int32) (x3 : Int32) (s : xS) : ev (d + 1) f_Deeds_turn [vR 7 0, vR 3 j1, vI x2, vI x3] s =
    bI (ev d f_Outing_has [vR 3 j1, vI x2] s) fun r2 s1 =>
    if (r2 : Int32) = 0 then
      some (some (vI (-1)), s1)
    else
      bI (ev d f_Main_isWay [vI x3] s1) fun r4 s3 =>
      if (r4 : Int32) = 0 then
        some (some (vI (-1)), s3)
      else
        bI (ev d f_Outing_isLoose [vR 3 j1, vI x2] s3) fun r6 s5 =>
        if (r6 : Int32) = 0 then
          bI (ev d f_Outing_wayOf [vR 3 j1, vI x2] s5) fun r8 s7 =>
          if (r8 : Int32) = x3 then
            some (some (vI (-3)), s7)
          else
            bI (ev d f_Outing_fieldOf [vR 3 j1, vI x2] s7) fun r10 s9 =>
            bV (ev d f_Outing_place [vR 3 j1, vI x2, vI r10, vI x3] s9) fun s11 =>
            bI (ev d f_Deeds_look [vR 7 0, vR 3 j1, vI x2] s11) fun r13 s12 =>
            some (some (vI r13), s12)
        else
          some (some (vI (-2)), s5) := (x_adv_out (K := x_K) (P := x_Pr) (d := d + 1) (M := tb_Deeds_turn) [] 37 (x_st0 tb_Deeds_turn [vR 7 0, vR 3 j1, vI x2, vI x3] s)).symm
set_option maxRecDepth 100000 in
set_option maxHeartbeats 400000 in
theorem Deeds_look_eq (d : Nat) (j1 : Nat) (x2 : Int32) (s : xS) : ev (d + 1) f_Deeds_look [vR 7 0, vR 3 j1, vI x2] s =
    bI (ev d f_Outing_fieldOf [vR 3 j1, vI x2] s) fun r2 s1 =>
    bI (ev d f_Outing_wayOf [vR 3 j1, vI x2] s1) fun r4 s3 =>
    bI (ev d f_Outing_viewsOf [vR 3 j1, vI x2] s3) fun r6 s5 =>
    bI (ev d f_Integer_bitCount [vI r6] s5) fun r8 s7 =>
    bI (ev d f_Eye_canForm [vR 6 0, vR 5 0, vR 3 j1, vI x2, vI ((4 * r2) + r4), vI r8] s7) fun r10 s9 =>
    bV (ev d f_Outing_setViews [vR 3 j1, vI x2, vI (r6 ||| (r10 &&& (r6 ^^^ (-1))))] s9) fun s11 =>
    some (some (vI (r10 &&& (r6 ^^^ (-1)))), s11) := (x_adv_out (K := x_K) (P := x_Pr) (d := d + 1) (M := tb_Deeds_look) [] 40 (x_st0 tb_Deeds_look [vR 7 0, vR 3 j1, vI x2] s)).symm
set_option maxRecDepth 100000 in
set_option maxHeartbeats 400000 in
theorem Deeds_letGo_eq (d : Nat) (j1 : Nat) (x2 : Int32) (s : xS) : ev (d + 1) f_Deeds_letGo [vR 7 0, vR 3 j1, vI x2] s =
    bI (ev d f_Outing_has [vR 3 j1, vI x2] s) fun r2 s1 =>
    if (r2 : Int32) = 0 then
      some (some (vI (-1)), s1)
    else
      bI (ev d f_Outing_isLoose [vR 3 j1, vI x2] s1) fun r4 s3 =>
      if (r4 : Int32) = 0 then
        bV (ev d f_Outing_setLoose [vR 3 j1, vI x2, vI 1] s3) fun s5 =>
        bI (ev d f_Outing_countLoose [vR 3 j1] s5) fun r7 s6 =>
        some (some (vI r7), s6)
      else
        some (some (vI (-2)), s3) := (x_adv_out (K := x_K) (P := x_Pr) (d := d + 1) (M := tb_Deeds_letGo) [] 22 (x_st0 tb_Deeds_letGo [vR 7 0, vR 3 j1, vI x2] s)).symm
set_option maxRecDepth 100000 in
set_option maxHeartbeats 400000 in
theorem Deeds_grasp_eq (d : Nat) (j1 : Nat) (x2 : Int32) (s : xS) : ev (d + 1) f_Deeds_grasp [vR 7 0, vR 3 j1, vI x2] s =
    bI (ev d f_Outing_has [vR 3 j1, vI x2] s) fun r2 s1 =>
    if (r2 : Int32) = 0 then
      some (some (vI (-1)), s1)
    else
      bI (ev d f_Outing_isLoose [vR 3 j1, vI x2] s1) fun r4 s3 =>
      if (r4 : Int32) = 0 then
        some (some (vI (-2)), s3)
      else
        bV (ev d f_Outing_setLoose [vR 3 j1, vI x2, vI 0] s3) fun s5 =>
        bI (ev d f_Outing_countLoose [vR 3 j1] s5) fun r7 s6 =>
        some (some (vI r7), s6) := (x_adv_out (K := x_K) (P := x_Pr) (d := d + 1) (M := tb_Deeds_grasp) [] 22 (x_st0 tb_Deeds_grasp [vR 7 0, vR 3 j1, vI x2] s)).symm
set_option maxRecDepth 100000 in
set_option maxHeartbeats 400000 in
theorem Deeds_lose_eq (d : Nat) (j1 : Nat) (x2 : Int32) (x3 : Int32) (s : xS) : ev (d + 1) f_Deeds_lose [vR 7 0, vR 3 j1, vI x2, vI x3] s =
    bI (ev d f_Outing_has [vR 3 j1, vI x2] s) fun r2 s1 =>
    if (r2 : Int32) = 0 then
      some (some (vI (-1)), s1)
    else
      if (x3 : Int32) < 0 then
        some (some (vI (-1)), s1)
      else
        if (x3 : Int32) < 6 then
          bI (ev d f_Outing_viewsOf [vR 3 j1, vI x2] s1) fun r4 s3 =>
          if ((jshr r4 x3) &&& 1 : Int32) = 0 then
            some (some (vI (-2)), s3)
          else
            bV (ev d f_Outing_setViews [vR 3 j1, vI x2, vI (r4 &&& ((jshl 1 x3) ^^^ (-1)))] s3) fun s5 =>
            bI (ev d f_Outing_viewsOf [vR 3 j1, vI x2] s5) fun r7 s6 =>
            some (some (vI r7), s6)
        else
          some (some (vI (-1)), s1) := (x_adv_out (K := x_K) (P := x_Pr) (d := d + 1) (M := tb_Deeds_lose) [] 40 (x_st0 tb_Deeds_lose [vR 7 0, vR 3 j1, vI x2, vI x3] s)).symm
noncomputable def Deeds_pass_L1 (d : Nat) (k2 : Nat) (y3 : Int32) (y4 : Int32) (s : xS) : Option xO := og (d + 1) tb_Deeds_pass (24, [some (vR 7 0), some (vR 3 k2), some (vI y3), some (vI y4), none, none, none], [], s)
noncomputable def Deeds_pass_L2 (d : Nat) (k2 : Nat) (y3 : Int32) (y4 : Int32) (y5 : Int32) (s : xS) : Option xO := og (d + 1) tb_Deeds_pass (32, [some (vR 7 0), some (vR 3 k2), some (vI y3), some (vI y4), some (vI y5), none, none], [], s)
noncomputable def Deeds_pass_J3 (d : Nat) (k2 : Nat) (y3 : Int32) (y4 : Int32) (y5 : Int32) (s : xS) : Option xO := og (d + 1) tb_Deeds_pass (130, [some (vR 7 0), some (vR 3 k2), some (vI y3), some (vI y4), some (vI y5), none, none], [], s)
set_option maxRecDepth 100000 in
set_option maxHeartbeats 400000 in
theorem Deeds_pass_L1_eq (d : Nat) (k2 : Nat) (y3 : Int32) (y4 : Int32) (s : xS) : Deeds_pass_L1 d k2 y3 y4 s =
    if (y4 : Int32) < y3 then
      Deeds_pass_L2 d k2 y3 y4 0 s
    else
      bI (ev d f_Outing_countLoose [vR 3 k2] s) fun r2 s1 =>
      some (some (vI r2), s1) := (x_adv_out (K := x_K) (P := x_Pr) (d := d + 1) (M := tb_Deeds_pass) [24, 32, 130] 88 (24, [some (vR 7 0), some (vR 3 k2), some (vI y3), some (vI y4), none, none, none], [], s)).symm
set_option maxRecDepth 100000 in
set_option maxHeartbeats 400000 in
theorem Deeds_pass_L2_eq (d : Nat) (k2 : Nat) (y3 : Int32) (y4 : Int32) (y5 : Int32) (s : xS) : Deeds_pass_L2 d k2 y3 y4 y5 s =
    if (y5 : Int32) < s.1 3 k2 3 then
      bI (ev d f_Outing_fieldOf [vR 3 k2, vI y5] s) fun r4 s3 =>
      bI (ev d f_Garden_slopeOn [vR 2 0, vI r4] s3) fun r6 s5 =>
      bI (ev d f_Outing_fieldOf [vR 3 k2, vI y5] s5) fun r8 s7 =>
      bI (ev d f_Garden_next [vR 2 0, vI r8, vI r6] s7) fun r10 s9 =>
      bI (ev d f_Outing_isLoose [vR 3 k2, vI y5] s9) fun r12 s11 =>
      if (r12 : Int32) = 0 then
        Deeds_pass_J3 d k2 y3 y4 y5 s11
      else
        if (r10 : Int32) = (-1) then
          Deeds_pass_J3 d k2 y3 y4 y5 s11
        else
          bV (ev d f_Outing_place [vR 3 k2, vI y5, vI r10, vI r6] s11) fun s13 =>
          bI (ev d f_Deeds_look [vR 7 0, vR 3 k2, vI y5] (wI s13 7 0 3 ((s13.1 7 0 3) + 1))) fun r15 s14 =>
          bI (ev d f_Integer_bitCount [vI r15] s14) fun r17 s16 =>
          Deeds_pass_L2 d k2 y3 y4 (y5 + 1) (wI s16 7 0 4 ((s13.1 7 0 4) + r17))
    else
      Deeds_pass_L1 d k2 y3 (y4 + 1) (wI s 3 k2 5 ((s.1 3 k2 5) + 1)) := (x_adv_out (K := x_K) (P := x_Pr) (d := d + 1) (M := tb_Deeds_pass) [24, 32, 130] 88 (32, [some (vR 7 0), some (vR 3 k2), some (vI y3), some (vI y4), some (vI y5), none, none], [], s)).symm
set_option maxRecDepth 100000 in
set_option maxHeartbeats 400000 in
theorem Deeds_pass_J3_eq (d : Nat) (k2 : Nat) (y3 : Int32) (y4 : Int32) (y5 : Int32) (s : xS) : Deeds_pass_J3 d k2 y3 y4 y5 s =
    bV (ev d f_Outing_setLoose [vR 3 k2, vI y5, vI 0] s) fun s18 =>
    Deeds_pass_L2 d k2 y3 y4 (y5 + 1) s18 := (x_adv_out (K := x_K) (P := x_Pr) (d := d + 1) (M := tb_Deeds_pass) [24, 32, 130] 88 (130, [some (vR 7 0), some (vR 3 k2), some (vI y3), some (vI y4), some (vI y5), none, none], [], s)).symm
set_option maxRecDepth 100000 in
set_option maxHeartbeats 400000 in
theorem Deeds_pass_eq (d : Nat) (j1 : Nat) (x2 : Int32) (s : xS) : ev (d + 1) f_Deeds_pass [vR 7 0, vR 3 j1, vI x2] s =
    if (x2 : Int32) < 0 then
      some (some (vI (-1)), s)
    else
      if (60 : Int32) < x2 then
        some (some (vI (-1)), s)
      else
        Deeds_pass_L1 d j1 x2 0 (wI (wI s 7 0 3 0) 7 0 4 0) := (x_adv_out (K := x_K) (P := x_Pr) (d := d + 1) (M := tb_Deeds_pass) [24, 32, 130] 88 (x_st0 tb_Deeds_pass [vR 7 0, vR 3 j1, vI x2] s)).symm
set_option maxRecDepth 100000 in
set_option maxHeartbeats 400000 in
theorem Deeds_seed_eq (d : Nat) (x1 : Int32) (s : xS) : ev (d + 1) f_Deeds_seed [vR 7 0, vI x1] s =
    some (none, wI s 7 0 5 x1) := (x_adv_out (K := x_K) (P := x_Pr) (d := d + 1) (M := tb_Deeds_seed) [] 7 (x_st0 tb_Deeds_seed [vR 7 0, vI x1] s)).symm
set_option maxRecDepth 100000 in
set_option maxHeartbeats 400000 in
theorem Deeds_draw_eq (d : Nat) (x1 : Int32) (s : xS) : ev (d + 1) f_Deeds_draw [vR 7 0, vI x1] s =
    if (0 : Int32) < x1 then
      if (x1 : Int32) = 0 then none else
      some (some (vI (jrem (jushr (((s.1 7 0 5) * 1103515245) + 12345) 16) x1)), wI s 7 0 5 (((s.1 7 0 5) * 1103515245) + 12345))
    else
      some (some (vI 0), wI s 7 0 5 (((s.1 7 0 5) * 1103515245) + 12345)) := (x_adv_out (K := x_K) (P := x_Pr) (d := d + 1) (M := tb_Deeds_draw) [] 22 (x_st0 tb_Deeds_draw [vR 7 0, vI x1] s)).symm
set_option maxRecDepth 100000 in
set_option maxHeartbeats 400000 in
theorem Deeds_drawnAct_eq (d : Nat) (j1 : Nat) (s : xS) : ev (d + 1) f_Deeds_drawnAct [vR 7 0, vR 3 j1] s =
    bI (ev d f_Deeds_draw [vR 7 0, vI 4] s) fun r2 s1 =>
    if (r2 : Int32) = 3 then
      bI (ev d f_Deeds_pass [vR 7 0, vR 3 j1, vI 1] s1) fun r4 s3 =>
      some (some (vI (s3.1 7 0 4)), s3)
    else
      if (s1.1 3 j1 3 : Int32) = 0 then
        some (some (vI 0), s1)
      else
        bI (ev d f_Deeds_draw [vR 7 0, vI (s1.1 3 j1 3)] s1) fun r6 s5 =>
        if (r2 : Int32) = 2 then
          bI (ev d f_Deeds_letGo [vR 7 0, vR 3 j1, vI r6] s5) fun r8 s7 =>
          some (some (vI 0), s7)
        else
          bI (ev d f_Deeds_draw [vR 7 0, vI 4] s5) fun r10 s9 =>
          bI (ev d f_Deeds_shove [vR 7 0, vR 3 j1, vI r6, vI r10] s9) fun r12 s11 =>
          bI (ev d f_Math_max [vI 0, vI r12] s11) fun r14 s13 =>
          bI (ev d f_Integer_bitCount [vI r14] s13) fun r16 s15 =>
          some (some (vI r16), s15) := (x_adv_out (K := x_K) (P := x_Pr) (d := d + 1) (M := tb_Deeds_drawnAct) [] 49 (x_st0 tb_Deeds_drawnAct [vR 7 0, vR 3 j1] s)).symm

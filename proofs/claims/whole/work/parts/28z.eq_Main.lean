/-! Printed by gen.py: what methods come to. -/
set_option maxRecDepth 100000 in
set_option maxHeartbeats 400000 in
theorem Main_sign_eq (d : Nat) (x1 : Int32) (s : xS) : ev (d + 1) f_Main_sign [vR 0 0, vI x1] s =
    bI (ev d f_Text_append [vR 1 0, vI x1] s) fun r2 s1 =>
    if (r2 : Int32) = 0 then
      some (some (vI (-1)), s1)
    else
      some (some (vI (s1.1 1 0 1)), s1) := (x_adv_out (K := x_K) (P := x_Pr) (d := d + 1) (M := tb_Main_sign) [] 14 (x_st0 tb_Main_sign [vR 0 0, vI x1] s)).symm
set_option maxRecDepth 100000 in
set_option maxHeartbeats 400000 in
theorem Main_end_eq (d : Nat) (x1 : Int32) (s : xS) : ev (d + 1) f_Main_end [vR 0 0, vI x1] s =
    bI (ev d f_Text_cut [vR 1 0, vI x1] s) fun r2 s1 =>
    some (some (vI (x_nb r2)), s1) := (x_adv_out (K := x_K) (P := x_Pr) (d := d + 1) (M := tb_Main_end) [] 8 (x_st0 tb_Main_end [vR 0 0, vI x1] s)).symm
set_option maxRecDepth 100000 in
set_option maxHeartbeats 400000 in
theorem Main_gardens_eq (d : Nat)  (s : xS) : ev (d + 1) f_Main_gardens [vR 0 0] s =
    bI (ev d f_Garden_reads [vR 2 0, vR 1 0] s) fun r2 s1 =>
    bI (ev d f_Text_close [vR 1 0] s1) fun r4 s3 =>
    if (r2 : Int32) = 0 then
      some (some (vI ((-1) - r4)), s3)
    else
      bV (ev d f_Outing_clear [vR 3 0] s3) fun s5 =>
      bV (ev d f_Memory_clear [vR 4 0] s5) fun s6 =>
      some (some (vI (s6.1 2 0 4)), s6) := (x_adv_out (K := x_K) (P := x_Pr) (d := d + 1) (M := tb_Main_gardens) [] 29 (x_st0 tb_Main_gardens [vR 0 0] s)).symm
noncomputable def Main_prams_L1 (d : Nat) (y2 : Int32) (y3 : Int32) (s : xS) : Option xO := og (d + 1) tb_Main_prams (22, [some (vR 0 0), some (vI y2), some (vI y3), none, none], [], s)
set_option maxRecDepth 100000 in
set_option maxHeartbeats 400000 in
theorem Main_prams_L1_eq (d : Nat) (y2 : Int32) (y3 : Int32) (s : xS) : Main_prams_L1 d y2 y3 s =
    if (y3 : Int32) < y2 then
      bI (ev d f_Text_digitAt [vR 1 0, vI (4 * y3)] s) fun r6 s5 =>
      bI (ev d f_Text_digitAt [vR 1 0, vI ((4 * y3) + 1)] s5) fun r8 s7 =>
      bI (ev d f_Garden_at [vR 2 0, vI r6, vI r8] s7) fun r10 s9 =>
      bI (ev d f_Text_digitAt [vR 1 0, vI ((4 * y3) + 2)] s9) fun r12 s11 =>
      bV (ev d f_Outing_add [vR 3 0, vI r10, vI r12] s11) fun s13 =>
      Main_prams_L1 d y2 (y3 + 1) s13
    else
      bI (ev d f_Text_close [vR 1 0] s) fun r15 s14 =>
      if (0 : Int32) < y2 then
        bV (ev d f_Memory_clear [vR 4 0] s14) fun s16 =>
        some (some (vI y2), s16)
      else
        some (some (vI y2), s14) := (x_adv_out (K := x_K) (P := x_Pr) (d := d + 1) (M := tb_Main_prams) [22] 61 (22, [some (vR 0 0), some (vI y2), some (vI y3), none, none], [], s)).symm
set_option maxRecDepth 100000 in
set_option maxHeartbeats 400000 in
theorem Main_prams_eq (d : Nat)  (s : xS) : ev (d + 1) f_Main_prams [vR 0 0] s =
    bI (ev d f_Main_countLines [vR 0 0] s) fun r2 s1 =>
    if (r2 : Int32) = (-1) then
      bI (ev d f_Text_close [vR 1 0] s1) fun r4 s3 =>
      some (some (vI ((-1) - r4)), s3)
    else
      Main_prams_L1 d r2 0 s1 := (x_adv_out (K := x_K) (P := x_Pr) (d := d + 1) (M := tb_Main_prams) [22] 61 (x_st0 tb_Main_prams [vR 0 0] s)).symm
noncomputable def Main_countLines_L1 (d : Nat) (y2 : Int32) (y3 : Int32) (s : xS) : Option xO := og (d + 1) tb_Main_countLines (31, [some (vR 0 0), some (vI y2), some (vI y3)], [], s)
set_option maxRecDepth 100000 in
set_option maxHeartbeats 400000 in
theorem Main_countLines_L1_eq (d : Nat) (y2 : Int32) (y3 : Int32) (s : xS) : Main_countLines_L1 d y2 y3 s =
    if (y3 : Int32) < 4 then
      bI (ev d f_Main_readsLine [vR 0 0] s) fun r3 s2 =>
      if (r3 : Int32) = 0 then
        some (some (vI (-1)), s2)
      else
        bI (ev d f_Text_isRead [vR 1 0] s2) fun r5 s4 =>
        if (r5 : Int32) = 0 then
          bI (ev d f_Text_here [vR 1 0] s4) fun r7 s6 =>
          if (r7 : Int32) = 59 then
            bV (ev d f_Text_step [vR 1 0] s6) fun s8 =>
            Main_countLines_L1 d (y2 + 1) (y3 + 1) s8
          else
            some (some (vI (-1)), s6)
        else
          some (some (vI (y2 + 1)), s4)
    else
      some (some (vI (-1)), s) := (x_adv_out (K := x_K) (P := x_Pr) (d := d + 1) (M := tb_Main_countLines) [31] 46 (31, [some (vR 0 0), some (vI y2), some (vI y3)], [], s)).symm
set_option maxRecDepth 100000 in
set_option maxHeartbeats 400000 in
theorem Main_countLines_eq (d : Nat)  (s : xS) : ev (d + 1) f_Main_countLines [vR 0 0] s =
    bV (ev d f_Text_open [vR 1 0, vI 15] s) fun s1 =>
    if (s1.1 1 0 1 : Int32) = 0 then
      some (some (vI 0), s1)
    else
      Main_countLines_L1 d 0 (s1.1 3 0 3) s1 := (x_adv_out (K := x_K) (P := x_Pr) (d := d + 1) (M := tb_Main_countLines) [31] 46 (x_st0 tb_Main_countLines [vR 0 0] s)).symm
set_option maxRecDepth 100000 in
set_option maxHeartbeats 400000 in
theorem Main_readsLine_eq (d : Nat)  (s : xS) : ev (d + 1) f_Main_readsLine [vR 0 0] s =
    bI (ev d f_Text_takeDigit [vR 1 0, vI 0, vI ((s.1 2 0 2) - 1)] s) fun r2 s1 =>
    if (r2 : Int32) = (-1) then
      some (some (vI (x_nb 0)), s1)
    else
      bI (ev d f_Text_digitHere [vR 1 0, vI 0, vI ((s1.1 2 0 3) - 1)] s1) fun r4 s3 =>
      if (r4 : Int32) = (-1) then
        some (some (vI (x_nb 0)), s3)
      else
        bI (ev d f_Garden_at [vR 2 0, vI r2, vI r4] s3) fun r6 s5 =>
        bI (ev d f_Garden_isWall [vR 2 0, vI r6] s5) fun r8 s7 =>
        if (r8 : Int32) = 0 then
          bV (ev d f_Text_step [vR 1 0] s7) fun s9 =>
          bI (ev d f_Text_takeDigit [vR 1 0, vI 0, vI 3] s9) fun r11 s10 =>
          if (r11 : Int32) = (-1) then
            some (some (vI (x_nb 0)), s10)
          else
            some (some (vI (x_nb 1)), s10)
        else
          some (some (vI (x_nb 0)), s7) := (x_adv_out (K := x_K) (P := x_Pr) (d := d + 1) (M := tb_Main_readsLine) [] 56 (x_st0 tb_Main_readsLine [vR 0 0] s)).symm
set_option maxRecDepth 100000 in
set_option maxHeartbeats 400000 in
theorem Main_rule_eq (d : Nat)  (s : xS) : ev (d + 1) f_Main_rule [vR 0 0] s =
    bI (ev d f_Rule_reads [vR 5 1, vR 1 0] s) fun r2 s1 =>
    bI (ev d f_Text_close [vR 1 0] s1) fun r4 s3 =>
    if (r2 : Int32) = 0 then
      some (some (vI ((-1) - r4)), s3)
    else
      bV (ev d f_Rule_take [vR 5 0, vR 5 1] s3) fun s5 =>
      some (some (vI 0), s5) := (x_adv_out (K := x_K) (P := x_Pr) (d := d + 1) (M := tb_Main_rule) [] 26 (x_st0 tb_Main_rule [vR 0 0] s)).symm
set_option maxRecDepth 100000 in
set_option maxHeartbeats 400000 in
theorem Main_field_eq (d : Nat) (x1 : Int32) (s : xS) : ev (d + 1) f_Main_field [vR 0 0, vI x1] s =
    bI (ev d f_Garden_has [vR 2 0, vI x1] s) fun r2 s1 =>
    if (r2 : Int32) = 0 then
      none
    else
      bI (ev d f_Garden_kindOf [vR 2 0, vI x1] s1) fun r4 s3 =>
      some (some (vI r4), s3) := (x_adv_out (K := x_K) (P := x_Pr) (d := d + 1) (M := tb_Main_field) [] 18 (x_st0 tb_Main_field [vR 0 0, vI x1] s)).symm
set_option maxRecDepth 100000 in
set_option maxHeartbeats 400000 in
theorem Main_pram_eq (d : Nat) (x1 : Int32) (x2 : Int32) (s : xS) : ev (d + 1) f_Main_pram [vR 0 0, vI x1, vI x2] s =
    bI (ev d f_Outing_has [vR 3 0, vI x1] s) fun r2 s1 =>
    if (r2 : Int32) = 0 then
      none
    else
      if (x2 : Int32) < 0 then
        none
      else
        if (4 : Int32) < x2 then
          none
        else
          if (x2 : Int32) = 0 then
            bI (ev d f_Outing_fieldOf [vR 3 0, vI x1] s1) fun r4 s3 =>
            some (some (vI r4), s3)
          else if (x2 : Int32) = 1 then
            bI (ev d f_Outing_wayOf [vR 3 0, vI x1] s1) fun r6 s5 =>
            some (some (vI r6), s5)
          else if (x2 : Int32) = 2 then
            bI (ev d f_Outing_viewsOf [vR 3 0, vI x1] s1) fun r8 s7 =>
            some (some (vI r8), s7)
          else if (x2 : Int32) = 3 then
            bI (ev d f_Outing_isLoose [vR 3 0, vI x1] s1) fun r10 s9 =>
            if (r10 : Int32) = 0 then
              some (some (vI 0), s9)
            else
              some (some (vI 1), s9)
          else bI (ev d f_Outing_fieldOf [vR 3 0, vI x1] s1) fun r12 s11 =>
            bI (ev d f_Outing_wayOf [vR 3 0, vI x1] s11) fun r14 s13 =>
            bI (ev d f_Garden_next [vR 2 0, vI r12, vI r14] s13) fun r16 s15 =>
            some (some (vI r16), s15) := (x_adv_out (K := x_K) (P := x_Pr) (d := d + 1) (M := tb_Main_pram) [] 56 (x_st0 tb_Main_pram [vR 0 0, vI x1, vI x2] s)).symm
noncomputable def Main_sheet_J1 (d : Nat) (y2 : Int32) (y3 : Int32) (y4 : Int32) (y5 : Int32) (s : xS) : Option xO := og (d + 1) tb_Main_sheet (26, [some (vR 0 0), none, some (vI y2), some (vI y3), some (vI y4), none, none, none, none], [vI y5], s)
noncomputable def Main_sheet_L2 (d : Nat) (y2 : Int32) (y3 : Int32) (y4 : Int32) (y5 : Int32) (y6 : Int32) (y7 : Int32) (s : xS) : Option xO := og (d + 1) tb_Main_sheet (46, [some (vR 0 0), none, some (vI y2), some (vI y3), some (vI y4), some (vI y5), some (vI y6), some (vI y7), none], [], s)
noncomputable def Main_sheet_J3 (d : Nat) (y2 : Int32) (y3 : Int32) (y4 : Int32) (y5 : Int32) (y6 : Int32) (y7 : Int32) (y8 : Int32) (s : xS) : Option xO := og (d + 1) tb_Main_sheet (83, [some (vR 0 0), none, some (vI y2), some (vI y3), some (vI y4), some (vI y5), some (vI y6), some (vI y7), none], [vI y8], s)
set_option maxRecDepth 100000 in
set_option maxHeartbeats 400000 in
theorem Main_sheet_J1_eq (d : Nat) (y2 : Int32) (y3 : Int32) (y4 : Int32) (y5 : Int32) (s : xS) : Main_sheet_J1 d y2 y3 y4 y5 s =
    if (y5 : Int32) = 0 then
      if (y2 : Int32) < 0 then
        some (some (vI (-2)), s)
      else
        Main_sheet_L2 d y2 y3 y4 y5 0 0 s
    else
      Main_sheet_L2 d y2 y3 y4 y5 0 0 s := (x_adv_out (K := x_K) (P := x_Pr) (d := d + 1) (M := tb_Main_sheet) [26, 46, 83] 67 (26, [some (vR 0 0), none, some (vI y2), some (vI y3), some (vI y4), none, none, none, none], [vI y5], s)).symm
set_option maxRecDepth 100000 in
set_option maxHeartbeats 400000 in
theorem Main_sheet_L2_eq (d : Nat) (y2 : Int32) (y3 : Int32) (y4 : Int32) (y5 : Int32) (y6 : Int32) (y7 : Int32) (s : xS) : Main_sheet_L2 d y2 y3 y4 y5 y6 y7 s =
    if (y7 : Int32) < s.1 3 0 3 then
      if (y5 : Int32) = 0 then
        if (y7 : Int32) < y2 then
          Main_sheet_J3 d y2 y3 y4 y5 y6 y7 ((y3 + (y7 * y4)) &&& 63) s
        else
          Main_sheet_J3 d y2 y3 y4 y5 y6 y7 0 s
      else
        Main_sheet_J3 d y2 y3 y4 y5 y6 y7 0 s
    else
      if (y5 : Int32) = 0 then
        some (some (vI y6), s)
      else
        some (some (vI (-3)), s) := (x_adv_out (K := x_K) (P := x_Pr) (d := d + 1) (M := tb_Main_sheet) [26, 46, 83] 67 (46, [some (vR 0 0), none, some (vI y2), some (vI y3), some (vI y4), some (vI y5), some (vI y6), some (vI y7), none], [], s)).symm
set_option maxRecDepth 100000 in
set_option maxHeartbeats 400000 in
theorem Main_sheet_J3_eq (d : Nat) (y2 : Int32) (y3 : Int32) (y4 : Int32) (y5 : Int32) (y6 : Int32) (y7 : Int32) (y8 : Int32) (s : xS) : Main_sheet_J3 d y2 y3 y4 y5 y6 y7 y8 s =
    bV (ev d f_Outing_setViews [vR 3 0, vI y7, vI y8] s) fun s1 =>
    Main_sheet_L2 d y2 y3 y4 y5 (y6 + y8) (y7 + 1) s1 := (x_adv_out (K := x_K) (P := x_Pr) (d := d + 1) (M := tb_Main_sheet) [26, 46, 83] 67 (83, [some (vR 0 0), none, some (vI y2), some (vI y3), some (vI y4), some (vI y5), some (vI y6), some (vI y7), none], [vI y8], s)).symm
set_option maxRecDepth 100000 in
set_option maxHeartbeats 400000 in
theorem Main_sheet_eq (d : Nat) (x1 : Int32) (x2 : Int32) (x3 : Int32) (x4 : Int32) (s : xS) : ev (d + 1) f_Main_sheet [vR 0 0, vI x1, vI x2, vI x3, vI x4] s =
    if (x1 : Int32) < 0 then
      some (some (vI (-1)), s)
    else
      if (3 : Int32) < x1 then
        some (some (vI (-1)), s)
      else
        if (4 : Int32) < x2 then
          some (some (vI (-1)), s)
        else
          if (x1 : Int32) = 3 then
            Main_sheet_J1 d x2 x3 x4 1 s
          else
            Main_sheet_J1 d x2 x3 x4 0 s := (x_adv_out (K := x_K) (P := x_Pr) (d := d + 1) (M := tb_Main_sheet) [26, 46, 83] 67 (x_st0 tb_Main_sheet [vR 0 0, vI x1, vI x2, vI x3, vI x4] s)).symm
set_option maxRecDepth 100000 in
set_option maxHeartbeats 400000 in
theorem Main_pushes_eq (d : Nat) (x1 : Int32) (x2 : Int32) (s : xS) : ev (d + 1) f_Main_pushes [vR 0 0, vI x1, vI x2] s =
    bV (ev d f_Memory_mark [vR 4 0, vR 3 0] s) fun s1 =>
    bI (ev d f_Deeds_shove [vR 7 0, vR 3 0, vI x1, vI x2] s1) fun r3 s2 =>
    bI (ev d f_Main_looked [vR 0 0, vI x1, vI r3] s2) fun r5 s4 =>
    some (some (vI r5), s4) := (x_adv_out (K := x_K) (P := x_Pr) (d := d + 1) (M := tb_Main_pushes) [] 19 (x_st0 tb_Main_pushes [vR 0 0, vI x1, vI x2] s)).symm
set_option maxRecDepth 100000 in
set_option maxHeartbeats 400000 in
theorem Main_faces_eq (d : Nat) (x1 : Int32) (x2 : Int32) (s : xS) : ev (d + 1) f_Main_faces [vR 0 0, vI x1, vI x2] s =
    bV (ev d f_Memory_mark [vR 4 0, vR 3 0] s) fun s1 =>
    bI (ev d f_Deeds_turn [vR 7 0, vR 3 0, vI x1, vI x2] s1) fun r3 s2 =>
    bI (ev d f_Main_looked [vR 0 0, vI x1, vI r3] s2) fun r5 s4 =>
    some (some (vI r5), s4) := (x_adv_out (K := x_K) (P := x_Pr) (d := d + 1) (M := tb_Main_faces) [] 19 (x_st0 tb_Main_faces [vR 0 0, vI x1, vI x2] s)).symm
set_option maxRecDepth 100000 in
set_option maxHeartbeats 400000 in
theorem Main_looked_eq (d : Nat) (x1 : Int32) (x2 : Int32) (s : xS) : ev (d + 1) f_Main_looked [vR 0 0, vI x1, vI x2] s =
    if (x2 : Int32) < 0 then
      some (some (vI x2), s)
    else
      bV (ev d f_Memory_addMarked [vR 4 0] s) fun s1 =>
      bI (ev d f_Outing_fieldOf [vR 3 0, vI x1] s1) fun r3 s2 =>
      bI (ev d f_Outing_viewsOf [vR 3 0, vI x1] s2) fun r5 s4 =>
      bI (ev d f_Integer_bitCount [vI r5] s4) fun r7 s6 =>
      bV (ev d f_Numbers_tellTwo [vR 10 0, vL ((r3 : Int32).toInt64), vL ((r7 : Int32).toInt64)] s6) fun s8 =>
      some (some (vI x2), s8) := (x_adv_out (K := x_K) (P := x_Pr) (d := d + 1) (M := tb_Main_looked) [] 24 (x_st0 tb_Main_looked [vR 0 0, vI x1, vI x2] s)).symm
set_option maxRecDepth 100000 in
set_option maxHeartbeats 400000 in
theorem Main_looses_eq (d : Nat) (x1 : Int32) (s : xS) : ev (d + 1) f_Main_looses [vR 0 0, vI x1] s =
    bV (ev d f_Memory_mark [vR 4 0, vR 3 0] s) fun s1 =>
    bI (ev d f_Deeds_letGo [vR 7 0, vR 3 0, vI x1] s1) fun r3 s2 =>
    bI (ev d f_Main_remembered [vR 0 0, vI r3] s2) fun r5 s4 =>
    some (some (vI r5), s4) := (x_adv_out (K := x_K) (P := x_Pr) (d := d + 1) (M := tb_Main_looses) [] 17 (x_st0 tb_Main_looses [vR 0 0, vI x1] s)).symm
set_option maxRecDepth 100000 in
set_option maxHeartbeats 400000 in
theorem Main_catches_eq (d : Nat) (x1 : Int32) (s : xS) : ev (d + 1) f_Main_catches [vR 0 0, vI x1] s =
    bV (ev d f_Memory_mark [vR 4 0, vR 3 0] s) fun s1 =>
    bI (ev d f_Deeds_grasp [vR 7 0, vR 3 0, vI x1] s1) fun r3 s2 =>
    bI (ev d f_Main_remembered [vR 0 0, vI r3] s2) fun r5 s4 =>
    some (some (vI r5), s4) := (x_adv_out (K := x_K) (P := x_Pr) (d := d + 1) (M := tb_Main_catches) [] 17 (x_st0 tb_Main_catches [vR 0 0, vI x1] s)).symm
set_option maxRecDepth 100000 in
set_option maxHeartbeats 400000 in
theorem Main_minutes_eq (d : Nat) (x1 : Int32) (s : xS) : ev (d + 1) f_Main_minutes [vR 0 0, vI x1] s =
    bV (ev d f_Memory_mark [vR 4 0, vR 3 0] s) fun s1 =>
    bI (ev d f_Deeds_pass [vR 7 0, vR 3 0, vI x1] s1) fun r3 s2 =>
    bI (ev d f_Main_remembered [vR 0 0, vI r3] s2) fun r5 s4 =>
    if (r5 : Int32) < 0 then
      some (some (vI r5), s4)
    else
      bV (ev d f_Numbers_tellTwo [vR 10 0, vL ((s4.1 7 0 3 : Int32).toInt64), vL ((s4.1 7 0 4 : Int32).toInt64)] s4) fun s6 =>
      some (some (vI r5), s6) := (x_adv_out (K := x_K) (P := x_Pr) (d := d + 1) (M := tb_Main_minutes) [] 32 (x_st0 tb_Main_minutes [vR 0 0, vI x1] s)).symm
set_option maxRecDepth 100000 in
set_option maxHeartbeats 400000 in
theorem Main_forgets_eq (d : Nat) (x1 : Int32) (x2 : Int32) (s : xS) : ev (d + 1) f_Main_forgets [vR 0 0, vI x1, vI x2] s =
    bV (ev d f_Memory_mark [vR 4 0, vR 3 0] s) fun s1 =>
    bI (ev d f_Deeds_lose [vR 7 0, vR 3 0, vI x1, vI x2] s1) fun r3 s2 =>
    bI (ev d f_Main_remembered [vR 0 0, vI r3] s2) fun r5 s4 =>
    some (some (vI r5), s4) := (x_adv_out (K := x_K) (P := x_Pr) (d := d + 1) (M := tb_Main_forgets) [] 18 (x_st0 tb_Main_forgets [vR 0 0, vI x1, vI x2] s)).symm
set_option maxRecDepth 100000 in
set_option maxHeartbeats 400000 in
theorem Main_remembered_eq (d : Nat) (x1 : Int32) (s : xS) : ev (d + 1) f_Main_remembered [vR 0 0, vI x1] s =
    if (x1 : Int32) < 0 then
      some (some (vI x1), s)
    else
      bV (ev d f_Memory_addMarked [vR 4 0] s) fun s1 =>
      some (some (vI x1), s1) := (x_adv_out (K := x_K) (P := x_Pr) (d := d + 1) (M := tb_Main_remembered) [] 10 (x_st0 tb_Main_remembered [vR 0 0, vI x1] s)).symm
noncomputable def Main_walk_L1 (d : Nat) (y2 : Int32) (y3 : Int32) (y4 : Int32) (s : xS) : Option xO := og (d + 1) tb_Main_walk (43, [some (vR 0 0), some (vI y2), some (vI y3), some (vI y4), none, none, none], [], s)
noncomputable def Main_walk_J2 (d : Nat) (y2 : Int32) (y3 : Int32) (y4 : Int32) (s : xS) : Option xO := og (d + 1) tb_Main_walk (131, [some (vR 0 0), some (vI y2), none, some (vI y3), none, none, none], [vI y4], s)
noncomputable def Main_walk_J3 (d : Nat) (y2 : Int32) (y3 : Int32) (s : xS) : Option xO := og (d + 1) tb_Main_walk (150, [some (vR 0 0), some (vI y2), some (vI y3), none, none, none, none], [], s)
noncomputable def Main_walk_J4 (d : Nat) (y2 : Int32) (y3 : Int64) (s : xS) : Option xO := og (d + 1) tb_Main_walk (182, [some (vR 0 0), some (vI y2), none, none, none, none, none], [vL y3, vR 10 0], s)
set_option maxRecDepth 100000 in
set_option maxHeartbeats 400000 in
theorem Main_walk_L1_eq (d : Nat) (y2 : Int32) (y3 : Int32) (y4 : Int32) (s : xS) : Main_walk_L1 d y2 y3 y4 s =
    if (y4 : Int32) < 60 then
      if (y3 : Int32) = 0 then
        bI (ev d f_Text_isRead [vR 1 0] s) fun r8 s7 =>
        if (r8 : Int32) = 0 then
          bI (ev d f_Text_here [vR 1 0] s7) fun r10 s9 =>
          bV (ev d f_Text_step [vR 1 0] s9) fun s11 =>
          bI (ev d f_Text_takeDigit [vR 1 0, vI 0, vI 9] s11) fun r13 s12 =>
          bI (ev d f_Deeds_highestSecond [vI r10] s12) fun r15 s14 =>
          bI (ev d f_Text_takeDigit [vR 1 0, vI 0, vI r15] s14) fun r17 s16 =>
          bI (ev d f_Deeds_act [vR 7 0, vR 3 0, vI r10, vI r13, vI r17] s16) fun r19 s18 =>
          if (r19 : Int32) < 0 then
            Main_walk_J2 d y2 y4 1 s18
          else
            Main_walk_J2 d y2 y4 0 s18
        else
          Main_walk_J3 d y2 y3 s7
      else
        Main_walk_J3 d y2 y3 s
    else
      Main_walk_J3 d y2 y3 s := (x_adv_out (K := x_K) (P := x_Pr) (d := d + 1) (M := tb_Main_walk) [43, 131, 150, 182] 102 (43, [some (vR 0 0), some (vI y2), some (vI y3), some (vI y4), none, none, none], [], s)).symm
set_option maxRecDepth 100000 in
set_option maxHeartbeats 400000 in
theorem Main_walk_J2_eq (d : Nat) (y2 : Int32) (y3 : Int32) (y4 : Int32) (s : xS) : Main_walk_J2 d y2 y3 y4 s =
    if (y4 : Int32) = 0 then
      Main_walk_L1 d (y2 + 1) y4 (y3 + 1) s
    else
      Main_walk_L1 d (y2 + 0) y4 (y3 + 1) s := (x_adv_out (K := x_K) (P := x_Pr) (d := d + 1) (M := tb_Main_walk) [43, 131, 150, 182] 102 (131, [some (vR 0 0), some (vI y2), none, some (vI y3), none, none, none], [vI y4], s)).symm
set_option maxRecDepth 100000 in
set_option maxHeartbeats 400000 in
theorem Main_walk_J3_eq (d : Nat) (y2 : Int32) (y3 : Int32) (s : xS) : Main_walk_J3 d y2 y3 s =
    bI (ev d f_Text_close [vR 1 0] s) fun r21 s20 =>
    if (0 : Int32) < y2 then
      bV (ev d f_Memory_addMarked [vR 4 0] s20) fun s22 =>
      if (y3 : Int32) = 0 then
        Main_walk_J4 d y2 0 s22
      else
        Main_walk_J4 d y2 1 s22
    else
      if (y3 : Int32) = 0 then
        Main_walk_J4 d y2 0 s20
      else
        Main_walk_J4 d y2 1 s20 := (x_adv_out (K := x_K) (P := x_Pr) (d := d + 1) (M := tb_Main_walk) [43, 131, 150, 182] 102 (150, [some (vR 0 0), some (vI y2), some (vI y3), none, none, none, none], [], s)).symm
set_option maxRecDepth 100000 in
set_option maxHeartbeats 400000 in
theorem Main_walk_J4_eq (d : Nat) (y2 : Int32) (y3 : Int64) (s : xS) : Main_walk_J4 d y2 y3 s =
    bI (ev d f_Outing_countViews [vR 3 0] s) fun r24 s23 =>
    bV (ev d f_Numbers_tellTwo [vR 10 0, vL y3, vL ((r24 : Int32).toInt64)] s23) fun s25 =>
    some (some (vI y2), s25) := (x_adv_out (K := x_K) (P := x_Pr) (d := d + 1) (M := tb_Main_walk) [43, 131, 150, 182] 102 (182, [some (vR 0 0), some (vI y2), none, none, none, none, none], [vL y3, vR 10 0], s)).symm
set_option maxRecDepth 100000 in
set_option maxHeartbeats 400000 in
theorem Main_walk_eq (d : Nat)  (s : xS) : ev (d + 1) f_Main_walk [vR 0 0] s =
    bI (ev d f_Main_readsWalk [vR 0 0] s) fun r2 s1 =>
    if (r2 : Int32) = 0 then
      bI (ev d f_Text_close [vR 1 0] s1) fun r4 s3 =>
      some (some (vI ((-1) - r4)), s3)
    else
      bV (ev d f_Memory_mark [vR 4 0, vR 3 0] s1) fun s5 =>
      bV (ev d f_Text_open [vR 1 0, vI 60] s5) fun s6 =>
      Main_walk_L1 d 0 0 0 s6 := (x_adv_out (K := x_K) (P := x_Pr) (d := d + 1) (M := tb_Main_walk) [43, 131, 150, 182] 102 (x_st0 tb_Main_walk [vR 0 0] s)).symm
noncomputable def Main_readsWalk_L1 (d : Nat) (y2 : Int32) (s : xS) : Option xO := og (d + 1) tb_Main_readsWalk (11, [some (vR 0 0), some (vI y2)], [], s)
set_option maxRecDepth 100000 in
set_option maxHeartbeats 400000 in
theorem Main_readsWalk_L1_eq (d : Nat) (y2 : Int32) (s : xS) : Main_readsWalk_L1 d y2 s =
    if (y2 : Int32) < 60 then
      bI (ev d f_Text_isRead [vR 1 0] s) fun r3 s2 =>
      if (r3 : Int32) = 0 then
        bI (ev d f_Main_readsAct [vR 0 0] s2) fun r5 s4 =>
        if (r5 : Int32) = 0 then
          some (some (vI (x_nb 0)), s4)
        else
          Main_readsWalk_L1 d (y2 + 1) s4
      else
        bI (ev d f_Text_isRead [vR 1 0] s2) fun r7 s6 =>
        some (some (vI (x_nb r7)), s6)
    else
      bI (ev d f_Text_isRead [vR 1 0] s) fun r9 s8 =>
      some (some (vI (x_nb r9)), s8) := (x_adv_out (K := x_K) (P := x_Pr) (d := d + 1) (M := tb_Main_readsWalk) [11] 27 (11, [some (vR 0 0), some (vI y2)], [], s)).symm
set_option maxRecDepth 100000 in
set_option maxHeartbeats 400000 in
theorem Main_readsWalk_eq (d : Nat)  (s : xS) : ev (d + 1) f_Main_readsWalk [vR 0 0] s =
    bV (ev d f_Text_open [vR 1 0, vI 60] s) fun s1 =>
    Main_readsWalk_L1 d 0 s1 := (x_adv_out (K := x_K) (P := x_Pr) (d := d + 1) (M := tb_Main_readsWalk) [11] 27 (x_st0 tb_Main_readsWalk [vR 0 0] s)).symm
set_option maxRecDepth 100000 in
set_option maxHeartbeats 400000 in
theorem Main_readsAct_eq (d : Nat)  (s : xS) : ev (d + 1) f_Main_readsAct [vR 0 0] s =
    bI (ev d f_Text_here [vR 1 0] s) fun r2 s1 =>
    bI (ev d f_Deeds_isKind [vI r2] s1) fun r4 s3 =>
    if (r4 : Int32) = 0 then
      some (some (vI (x_nb 0)), s3)
    else
      bV (ev d f_Text_step [vR 1 0] s3) fun s5 =>
      bI (ev d f_Text_takeDigit [vR 1 0, vI 0, vI 9] s5) fun r7 s6 =>
      if (r7 : Int32) = (-1) then
        some (some (vI (x_nb 0)), s6)
      else
        bI (ev d f_Deeds_highestSecond [vI r2] s6) fun r9 s8 =>
        if (r9 : Int32) = (-1) then
          some (some (vI (x_nb 1)), s8)
        else
          bI (ev d f_Text_takeDigit [vR 1 0, vI 0, vI r9] s8) fun r11 s10 =>
          if (r11 : Int32) = (-1) then
            some (some (vI (x_nb 0)), s10)
          else
            some (some (vI (x_nb 1)), s10) := (x_adv_out (K := x_K) (P := x_Pr) (d := d + 1) (M := tb_Main_readsAct) [] 41 (x_st0 tb_Main_readsAct [vR 0 0] s)).symm
set_option maxRecDepth 100000 in
set_option maxHeartbeats 400000 in
theorem Main_undo_eq (d : Nat)  (s : xS) : ev (d + 1) f_Main_undo [vR 0 0] s =
    bI (ev d f_Memory_undoInto [vR 4 0, vR 3 0] s) fun r2 s1 =>
    some (some (vI r2), s1) := (x_adv_out (K := x_K) (P := x_Pr) (d := d + 1) (M := tb_Main_undo) [] 9 (x_st0 tb_Main_undo [vR 0 0] s)).symm
set_option maxRecDepth 100000 in
set_option maxHeartbeats 400000 in
theorem Main_sees_eq (d : Nat) (x1 : Int32) (s : xS) : ev (d + 1) f_Main_sees [vR 0 0, vI x1] s =
    bI (ev d f_Outing_has [vR 3 0, vI x1] s) fun r2 s1 =>
    if (r2 : Int32) = 0 then
      some (some (vI (-1)), s1)
    else
      bI (ev d f_Outing_fieldOf [vR 3 0, vI x1] s1) fun r4 s3 =>
      bI (ev d f_Outing_wayOf [vR 3 0, vI x1] s3) fun r6 s5 =>
      bI (ev d f_Eye_wouldForm [vR 6 0, vR 5 0, vR 3 0, vI x1, vI ((4 * r4) + r6)] s5) fun r8 s7 =>
      bI (ev d f_Eye_fieldsSeen [vR 6 0, vI ((4 * r4) + r6)] s7) fun r10 s9 =>
      bI (ev d f_Eye_nearestOf [vR 6 0, vI ((4 * r4) + r6), vI r8] s9) fun r12 s11 =>
      bV (ev d f_Numbers_tellTwo [vR 10 0, vL ((r10 : Int32).toInt64), vL ((r12 : Int32).toInt64)] s11) fun s13 =>
      some (some (vI r8), s13) := (x_adv_out (K := x_K) (P := x_Pr) (d := d + 1) (M := tb_Main_sees) [] 48 (x_st0 tb_Main_sees [vR 0 0, vI x1] s)).symm
set_option maxRecDepth 100000 in
set_option maxHeartbeats 400000 in
theorem Main_would_eq (d : Nat) (x1 : Int32) (x2 : Int32) (x3 : Int32) (s : xS) : ev (d + 1) f_Main_would [vR 0 0, vI x1, vI x2, vI x3] s =
    bI (ev d f_Outing_has [vR 3 0, vI x1] s) fun r2 s1 =>
    if (r2 : Int32) = 0 then
      some (some (vI (-1)), s1)
    else
      bI (ev d f_Garden_has [vR 2 0, vI x2] s1) fun r4 s3 =>
      if (r4 : Int32) = 0 then
        some (some (vI (-1)), s3)
      else
        bI (ev d f_Main_isWay [vI x3] s3) fun r6 s5 =>
        if (r6 : Int32) = 0 then
          some (some (vI (-1)), s5)
        else
          bI (ev d f_Garden_isWall [vR 2 0, vI x2] s5) fun r8 s7 =>
          if (r8 : Int32) = 0 then
            bI (ev d f_Eye_wouldForm [vR 6 0, vR 5 0, vR 3 0, vI x1, vI ((4 * x2) + x3)] s7) fun r10 s9 =>
            bI (ev d f_Integer_bitCount [vI r10] s9) fun r12 s11 =>
            bV (ev d f_Numbers_tellOne [vR 10 0, vL ((r12 : Int32).toInt64)] s11) fun s13 =>
            some (some (vI r10), s13)
          else
            some (some (vI (-2)), s7) := (x_adv_out (K := x_K) (P := x_Pr) (d := d + 1) (M := tb_Main_would) [] 47 (x_st0 tb_Main_would [vR 0 0, vI x1, vI x2, vI x3] s)).symm
noncomputable def Main_stands_L1 (d : Nat) (y2 : Int32) (y3 : Int32) (s : xS) : Option xO := og (d + 1) tb_Main_stands (51, [some (vR 0 0), none, none, some (vI y2), some (vI y3)], [], s)
set_option maxRecDepth 100000 in
set_option maxHeartbeats 400000 in
theorem Main_stands_L1_eq (d : Nat) (y2 : Int32) (y3 : Int32) (s : xS) : Main_stands_L1 d y2 y3 s =
    if (y3 : Int32) < y2 then
      bI (ev d f_Eye_chosenStand [vR 6 0, vI y3] s) fun r9 s8 =>
      bV (ev d f_Numbers_add [vR 10 0, vL ((r9 : Int32).toInt64)] s8) fun s10 =>
      Main_stands_L1 d y2 (y3 + 1) s10
    else
      some (some (vI y2), s) := (x_adv_out (K := x_K) (P := x_Pr) (d := d + 1) (M := tb_Main_stands) [51] 46 (51, [some (vR 0 0), none, none, some (vI y2), some (vI y3)], [], s)).symm
set_option maxRecDepth 100000 in
set_option maxHeartbeats 400000 in
theorem Main_stands_eq (d : Nat) (x1 : Int32) (s : xS) : ev (d + 1) f_Main_stands [vR 0 0, vI x1] s =
    bI (ev d f_Outing_has [vR 3 0, vI x1] s) fun r2 s1 =>
    if (r2 : Int32) = 0 then
      some (some (vI (-1)), s1)
    else
      bI (ev d f_Eye_gatherStands [vR 6 0, vR 5 0, vR 3 0, vI x1] s1) fun r4 s3 =>
      bI (ev d f_Eye_chooseStands [vR 6 0, vI r4] s3) fun r6 s5 =>
      bV (ev d f_Numbers_tellOne [vR 10 0, vL ((r4 : Int32).toInt64)] s5) fun s7 =>
      Main_stands_L1 d r6 0 s7 := (x_adv_out (K := x_K) (P := x_Pr) (d := d + 1) (M := tb_Main_stands) [51] 46 (x_st0 tb_Main_stands [vR 0 0, vI x1] s)).symm
noncomputable def Main_way_L1 (d : Nat) (y2 : Int32) (y3 : Int32) (y4 : Int32) (s : xS) : Option xO := og (d + 1) tb_Main_way (64, [some (vR 0 0), none, none, some (vI y2), some (vI y3), some (vI y4), none], [], s)
set_option maxRecDepth 100000 in
set_option maxHeartbeats 400000 in
theorem Main_way_L1_eq (d : Nat) (y2 : Int32) (y3 : Int32) (y4 : Int32) (s : xS) : Main_way_L1 d y2 y3 y4 s =
    if (y4 : Int32) < y2 then
      if (y4 : Int32) < 12 then
        bI (ev d f_Paths_wayNearer [vR 8 0, vI y3] s) fun r11 s10 =>
        bV (ev d f_Numbers_add [vR 10 0, vL ((r11 : Int32).toInt64)] s10) fun s12 =>
        bI (ev d f_Garden_next [vR 2 0, vI y3, vI r11] s12) fun r14 s13 =>
        Main_way_L1 d y2 r14 (y4 + 1) s13
      else
        some (some (vI y2), s)
    else
      some (some (vI y2), s) := (x_adv_out (K := x_K) (P := x_Pr) (d := d + 1) (M := tb_Main_way) [64] 64 (64, [some (vR 0 0), none, none, some (vI y2), some (vI y3), some (vI y4), none], [], s)).symm
set_option maxRecDepth 100000 in
set_option maxHeartbeats 400000 in
theorem Main_way_eq (d : Nat) (x1 : Int32) (x2 : Int32) (s : xS) : ev (d + 1) f_Main_way [vR 0 0, vI x1, vI x2] s =
    bI (ev d f_Garden_has [vR 2 0, vI x1] s) fun r2 s1 =>
    if (r2 : Int32) = 0 then
      some (some (vI (-1)), s1)
    else
      bI (ev d f_Garden_has [vR 2 0, vI x2] s1) fun r4 s3 =>
      if (r4 : Int32) = 0 then
        some (some (vI (-1)), s3)
      else
        bI (ev d f_Paths_spread [vR 8 0, vI x2, vI (-1)] s3) fun r6 s5 =>
        bI (ev d f_Paths_distanceTo [vR 8 0, vI x1] s5) fun r8 s7 =>
        if (r8 : Int32) = (-1) then
          some (some (vI (-2)), s7)
        else
          bV (ev d f_Numbers_clear [vR 10 0] s7) fun s9 =>
          Main_way_L1 d r8 x1 0 s9 := (x_adv_out (K := x_K) (P := x_Pr) (d := d + 1) (M := tb_Main_way) [64] 64 (x_st0 tb_Main_way [vR 0 0, vI x1, vI x2] s)).symm
noncomputable def Main_reach_L1 (d : Nat) (y2 : Int32) (y3 : Int32) (y4 : Int32) (s : xS) : Option xO := og (d + 1) tb_Main_reach (42, [some (vR 0 0), none, some (vI y2), some (vI y3), some (vI y4)], [], s)
set_option maxRecDepth 100000 in
set_option maxHeartbeats 400000 in
theorem Main_reach_L1_eq (d : Nat) (y2 : Int32) (y3 : Int32) (y4 : Int32) (s : xS) : Main_reach_L1 d y2 y3 y4 s =
    if (y4 : Int32) < s.1 2 0 4 then
      bI (ev d f_Paths_distanceTo [vR 8 0, vI y4] s) fun r8 s7 =>
      bI (ev d f_Paths_distanceTo [vR 8 0, vI y3] s7) fun r10 s9 =>
      if (r10 : Int32) < r8 then
        Main_reach_L1 d y2 y4 (y4 + 1) s9
      else
        Main_reach_L1 d y2 y3 (y4 + 1) s9
    else
      bI (ev d f_Paths_distanceTo [vR 8 0, vI y3] s) fun r12 s11 =>
      bV (ev d f_Numbers_tellTwo [vR 10 0, vL ((r12 : Int32).toInt64), vL ((y3 : Int32).toInt64)] s11) fun s13 =>
      some (some (vI y2), s13) := (x_adv_out (K := x_K) (P := x_Pr) (d := d + 1) (M := tb_Main_reach) [42] 57 (42, [some (vR 0 0), none, some (vI y2), some (vI y3), some (vI y4)], [], s)).symm
set_option maxRecDepth 100000 in
set_option maxHeartbeats 400000 in
theorem Main_reach_eq (d : Nat) (x1 : Int32) (s : xS) : ev (d + 1) f_Main_reach [vR 0 0, vI x1] s =
    bI (ev d f_Garden_has [vR 2 0, vI x1] s) fun r2 s1 =>
    if (r2 : Int32) = 0 then
      some (some (vI (-1)), s1)
    else
      bI (ev d f_Garden_isWall [vR 2 0, vI x1] s1) fun r4 s3 =>
      if (r4 : Int32) = 0 then
        bI (ev d f_Paths_spread [vR 8 0, vI x1, vI (-1)] s3) fun r6 s5 =>
        Main_reach_L1 d r6 x1 0 s5
      else
        some (some (vI (-2)), s3) := (x_adv_out (K := x_K) (P := x_Pr) (d := d + 1) (M := tb_Main_reach) [42] 57 (x_st0 tb_Main_reach [vR 0 0, vI x1] s)).symm
set_option maxRecDepth 100000 in
set_option maxHeartbeats 400000 in
theorem Main_parts_eq (d : Nat)  (s : xS) : ev (d + 1) f_Main_parts [vR 0 0] s =
    bI (ev d f_Paths_countParts [vR 8 0, vI (-1)] s) fun r2 s1 =>
    bV (ev d f_Numbers_clear [vR 10 0] s1) fun s3 =>
    if (0 : Int32) < r2 then
      bV (ev d f_Numbers_tellTwo [vR 10 0, vL ((s3.1 8 0 6 : Int32).toInt64), vL ((s3.1 8 0 7 : Int32).toInt64)] s3) fun s4 =>
      some (some (vI r2), s4)
    else
      some (some (vI r2), s3) := (x_adv_out (K := x_K) (P := x_Pr) (d := d + 1) (M := tb_Main_parts) [] 26 (x_st0 tb_Main_parts [vR 0 0] s)).symm
noncomputable def Main_gates_L1 (d : Nat) (y2 : Int32) (y3 : Int32) (y4 : Int32) (s : xS) : Option xO := og (d + 1) tb_Main_gates (20, [some (vR 0 0), some (vI y2), some (vI y3), some (vI y4)], [], s)
set_option maxRecDepth 100000 in
set_option maxHeartbeats 400000 in
theorem Main_gates_L1_eq (d : Nat) (y2 : Int32) (y3 : Int32) (y4 : Int32) (s : xS) : Main_gates_L1 d y2 y3 y4 s =
    if (y4 : Int32) < s.1 2 0 4 then
      bI (ev d f_Garden_isWall [vR 2 0, vI y4] s) fun r5 s4 =>
      if (r5 : Int32) = 0 then
        bI (ev d f_Paths_countParts [vR 8 0, vI y4] s4) fun r7 s6 =>
        if (y2 : Int32) < r7 then
          bV (ev d f_Numbers_addFirst [vR 10 0, vL ((y4 : Int32).toInt64)] s6) fun s8 =>
          Main_gates_L1 d y2 (y3 + 1) (y4 + 1) s8
        else
          Main_gates_L1 d y2 y3 (y4 + 1) s6
      else
        Main_gates_L1 d y2 y3 (y4 + 1) s4
    else
      some (some (vI y3), s) := (x_adv_out (K := x_K) (P := x_Pr) (d := d + 1) (M := tb_Main_gates) [20] 41 (20, [some (vR 0 0), some (vI y2), some (vI y3), some (vI y4)], [], s)).symm
set_option maxRecDepth 100000 in
set_option maxHeartbeats 400000 in
theorem Main_gates_eq (d : Nat)  (s : xS) : ev (d + 1) f_Main_gates [vR 0 0] s =
    bI (ev d f_Paths_countParts [vR 8 0, vI (-1)] s) fun r2 s1 =>
    bV (ev d f_Numbers_clear [vR 10 0] s1) fun s3 =>
    Main_gates_L1 d r2 0 0 s3 := (x_adv_out (K := x_K) (P := x_Pr) (d := d + 1) (M := tb_Main_gates) [20] 41 (x_st0 tb_Main_gates [vR 0 0] s)).symm
noncomputable def Main_nearest_L1 (d : Nat) (y2 : Int32) (y3 : Int32) (y4 : Int32) (y5 : Int32) (s : xS) : Option xO := og (d + 1) tb_Main_nearest (9, [some (vR 0 0), some (vI y2), some (vI y3), some (vI y4), some (vI y5), none, none], [], s)
noncomputable def Main_nearest_L2 (d : Nat) (y2 : Int32) (y3 : Int32) (y4 : Int32) (y5 : Int32) (y6 : Int32) (s : xS) : Option xO := og (d + 1) tb_Main_nearest (45, [some (vR 0 0), some (vI y2), some (vI y3), some (vI y4), some (vI y5), some (vI y6), none], [], s)
noncomputable def Main_nearest_J3 (d : Nat) (y2 : Int32) (y3 : Int32) (y4 : Int32) (s : xS) : Option xO := og (d + 1) tb_Main_nearest (92, [some (vR 0 0), none, none, none, some (vI y2), some (vI y3), some (vI y4)], [], s)
set_option maxRecDepth 100000 in
set_option maxHeartbeats 400000 in
theorem Main_nearest_L1_eq (d : Nat) (y2 : Int32) (y3 : Int32) (y4 : Int32) (y5 : Int32) (s : xS) : Main_nearest_L1 d y2 y3 y4 y5 s =
    if (y5 : Int32) < s.1 3 0 3 then
      bI (ev d f_Outing_fieldOf [vR 3 0, vI y5] s) fun r2 s1 =>
      bI (ev d f_Paths_spread [vR 8 0, vI r2, vI (-1)] s1) fun r4 s3 =>
      Main_nearest_L2 d y2 y3 y4 y5 (y5 + 1) s3
    else
      if (y2 : Int32) = (-1) then
        some (some (vI (-2)), s)
      else
        bV (ev d f_Numbers_tellTwo [vR 10 0, vL ((y3 : Int32).toInt64), vL ((y4 : Int32).toInt64)] s) fun s5 =>
        some (some (vI y2), s5) := (x_adv_out (K := x_K) (P := x_Pr) (d := d + 1) (M := tb_Main_nearest) [9, 45, 92] 75 (9, [some (vR 0 0), some (vI y2), some (vI y3), some (vI y4), some (vI y5), none, none], [], s)).symm
set_option maxRecDepth 100000 in
set_option maxHeartbeats 400000 in
theorem Main_nearest_L2_eq (d : Nat) (y2 : Int32) (y3 : Int32) (y4 : Int32) (y5 : Int32) (y6 : Int32) (s : xS) : Main_nearest_L2 d y2 y3 y4 y5 y6 s =
    if (y6 : Int32) < s.1 3 0 3 then
      bI (ev d f_Outing_fieldOf [vR 3 0, vI y6] s) fun r7 s6 =>
      bI (ev d f_Paths_distanceTo [vR 8 0, vI r7] s6) fun r9 s8 =>
      if (r9 : Int32) = (-1) then
        Main_nearest_L2 d y2 y3 y4 y5 (y6 + 1) s8
      else
        if (y2 : Int32) = (-1) then
          Main_nearest_J3 d y5 y6 r9 s8
        else
          if (r9 : Int32) < y2 then
            Main_nearest_J3 d y5 y6 r9 s8
          else
            Main_nearest_L2 d y2 y3 y4 y5 (y6 + 1) s8
    else
      Main_nearest_L1 d y2 y3 y4 (y5 + 1) s := (x_adv_out (K := x_K) (P := x_Pr) (d := d + 1) (M := tb_Main_nearest) [9, 45, 92] 75 (45, [some (vR 0 0), some (vI y2), some (vI y3), some (vI y4), some (vI y5), some (vI y6), none], [], s)).symm
set_option maxRecDepth 100000 in
set_option maxHeartbeats 400000 in
theorem Main_nearest_J3_eq (d : Nat) (y2 : Int32) (y3 : Int32) (y4 : Int32) (s : xS) : Main_nearest_J3 d y2 y3 y4 s =
    Main_nearest_L2 d y4 y2 y3 y2 (y3 + 1) s := (x_adv_out (K := x_K) (P := x_Pr) (d := d + 1) (M := tb_Main_nearest) [9, 45, 92] 75 (92, [some (vR 0 0), none, none, none, some (vI y2), some (vI y3), some (vI y4)], [], s)).symm
set_option maxRecDepth 100000 in
set_option maxHeartbeats 400000 in
theorem Main_nearest_eq (d : Nat)  (s : xS) : ev (d + 1) f_Main_nearest [vR 0 0] s =
    Main_nearest_L1 d (-1) (-1) (-1) 0 s := (x_adv_out (K := x_K) (P := x_Pr) (d := d + 1) (M := tb_Main_nearest) [9, 45, 92] 75 (x_st0 tb_Main_nearest [vR 0 0] s)).symm
noncomputable def Main_forms_L1 (d : Nat) (y2 : Int32) (y3 : Int32) (y4 : Int32) (s : xS) : Option xO := og (d + 1) tb_Main_forms (89, [some (vR 0 0), none, none, some (vI y2), some (vI y3), some (vI y4)], [], s)
set_option maxRecDepth 100000 in
set_option maxHeartbeats 400000 in
theorem Main_forms_L1_eq (d : Nat) (y2 : Int32) (y3 : Int32) (y4 : Int32) (s : xS) : Main_forms_L1 d y2 y3 y4 s =
    if (y4 : Int32) < y3 then
      if (y4 : Int32) < 12 then
        bI (ev d f_Search_wayTo [vR 9 0, vI y2, vI ((y3 - 1) - y4)] s) fun r13 s12 =>
        bV (ev d f_Numbers_add [vR 10 0, vL ((r13 : Int32).toInt64)] s12) fun s14 =>
        Main_forms_L1 d y2 y3 (y4 + 1) s14
      else
        some (some (vI y3), s)
    else
      some (some (vI y3), s) := (x_adv_out (K := x_K) (P := x_Pr) (d := d + 1) (M := tb_Main_forms) [89] 72 (89, [some (vR 0 0), none, none, some (vI y2), some (vI y3), some (vI y4)], [], s)).symm
set_option maxRecDepth 100000 in
set_option maxHeartbeats 400000 in
theorem Main_forms_eq (d : Nat) (x1 : Int32) (x2 : Int32) (s : xS) : ev (d + 1) f_Main_forms [vR 0 0, vI x1, vI x2] s =
    bI (ev d f_Outing_has [vR 3 0, vI x1] s) fun r2 s1 =>
    if (r2 : Int32) = 0 then
      some (some (vI (-1)), s1)
    else
      if (x2 : Int32) < 0 then
        some (some (vI (-1)), s1)
      else
        if (63 : Int32) < x2 then
          some (some (vI (-1)), s1)
        else
          bI (ev d f_Outing_isLoose [vR 3 0, vI x1] s1) fun r4 s3 =>
          if (r4 : Int32) = 0 then
            bV (ev d f_Search_begin [vR 9 0, vI x1] s3) fun s5 =>
            bV (ev d f_Search_spread [vR 9 0] s5) fun s6 =>
            bI (ev d f_Search_firstWith [vR 9 0, vI x2] s6) fun r8 s7 =>
            if (r8 : Int32) = (-1) then
              some (some (vI (-2)), s7)
            else
              bI (ev d f_Search_stepsTo [vR 9 0, vI r8] s7) fun r10 s9 =>
              bV (ev d f_Numbers_clear [vR 10 0] s9) fun s11 =>
              Main_forms_L1 d r8 r10 0 s11
          else
            some (some (vI (-3)), s3) := (x_adv_out (K := x_K) (P := x_Pr) (d := d + 1) (M := tb_Main_forms) [89] 72 (x_st0 tb_Main_forms [vR 0 0, vI x1, vI x2] s)).symm
set_option maxRecDepth 100000 in
set_option maxHeartbeats 400000 in
theorem Main_most_eq (d : Nat) (x1 : Int32) (s : xS) : ev (d + 1) f_Main_most [vR 0 0, vI x1] s =
    bI (ev d f_Outing_has [vR 3 0, vI x1] s) fun r2 s1 =>
    if (r2 : Int32) = 0 then
      some (some (vI (-1)), s1)
    else
      bI (ev d f_Outing_isLoose [vR 3 0, vI x1] s1) fun r4 s3 =>
      if (r4 : Int32) = 0 then
        bV (ev d f_Search_begin [vR 9 0, vI x1] s3) fun s5 =>
        bV (ev d f_Search_spread [vR 9 0] s5) fun s6 =>
        bI (ev d f_Search_firstWithMost [vR 9 0] s6) fun r8 s7 =>
        bI (ev d f_Search_stepsTo [vR 9 0, vI r8] s7) fun r10 s9 =>
        bV (ev d f_Numbers_tellOne [vR 10 0, vL ((r10 : Int32).toInt64)] s9) fun s11 =>
        bI (ev d f_Search_viewsIn [vI r8] s11) fun r13 s12 =>
        bI (ev d f_Integer_bitCount [vI r13] s12) fun r15 s14 =>
        some (some (vI r15), s14)
      else
        some (some (vI (-3)), s3) := (x_adv_out (K := x_K) (P := x_Pr) (d := d + 1) (M := tb_Main_most) [] 40 (x_st0 tb_Main_most [vR 0 0, vI x1] s)).symm
noncomputable def Main_ways_L1 (d : Nat) (y2 : Int32) (y3 : Int32) (y4 : Int32) (y5 : Int32) (y6 : Int32) (s : xS) : Option xO := og (d + 1) tb_Main_ways (63, [some (vR 0 0), none, some (vI y2), some (vI y3), some (vI y4), some (vI y5), some (vI y6), none], [], s)
noncomputable def Main_ways_L2 (d : Nat) (y2 : Int32) (y3 : Int32) (y4 : Int32) (y5 : Int32) (s : xS) : Option xO := og (d + 1) tb_Main_ways (133, [some (vR 0 0), none, none, some (vI y2), some (vI y3), some (vI y4), some (vI y5), none], [], s)
set_option maxRecDepth 100000 in
set_option maxHeartbeats 400000 in
theorem Main_ways_L1_eq (d : Nat) (y2 : Int32) (y3 : Int32) (y4 : Int32) (y5 : Int32) (y6 : Int32) (s : xS) : Main_ways_L1 d y2 y3 y4 y5 y6 s =
    if (y6 : Int32) < jshl 1 (2 * y3) then
      bI (ev d f_Search_follow [vR 9 0, vI y6, vI y3] s) fun r7 s6 =>
      if (r7 : Int32) = (-1) then
        Main_ways_L1 d y2 y3 y4 y5 (y6 + 1) s6
      else
        bI (ev d f_Search_viewsIn [vI r7] s6) fun r9 s8 =>
        if (r9 : Int32) = y2 then
          if (y4 : Int32) = 0 then
            Main_ways_L1 d y2 y3 (y4 + 1) y6 (y6 + 1) s8
          else
            Main_ways_L1 d y2 y3 (y4 + 1) y5 (y6 + 1) s8
        else
          Main_ways_L1 d y2 y3 y4 y5 (y6 + 1) s8
    else
      bV (ev d f_Numbers_clear [vR 10 0] s) fun s10 =>
      Main_ways_L2 d y3 y4 y5 0 s10 := (x_adv_out (K := x_K) (P := x_Pr) (d := d + 1) (M := tb_Main_ways) [63, 133] 88 (63, [some (vR 0 0), none, some (vI y2), some (vI y3), some (vI y4), some (vI y5), some (vI y6), none], [], s)).symm
set_option maxRecDepth 100000 in
set_option maxHeartbeats 400000 in
theorem Main_ways_L2_eq (d : Nat) (y2 : Int32) (y3 : Int32) (y4 : Int32) (y5 : Int32) (s : xS) : Main_ways_L2 d y2 y3 y4 y5 s =
    if (0 : Int32) < y3 then
      if (y5 : Int32) < y2 then
        bI (ev d f_Search_wayInCode [vI y4, vI y2, vI y5] s) fun r12 s11 =>
        bV (ev d f_Numbers_add [vR 10 0, vL ((r12 : Int32).toInt64)] s11) fun s13 =>
        Main_ways_L2 d y2 y3 y4 (y5 + 1) s13
      else
        some (some (vI y3), s)
    else
      some (some (vI y3), s) := (x_adv_out (K := x_K) (P := x_Pr) (d := d + 1) (M := tb_Main_ways) [63, 133] 88 (133, [some (vR 0 0), none, none, some (vI y2), some (vI y3), some (vI y4), some (vI y5), none], [], s)).symm
set_option maxRecDepth 100000 in
set_option maxHeartbeats 400000 in
theorem Main_ways_eq (d : Nat) (x1 : Int32) (x2 : Int32) (x3 : Int32) (s : xS) : ev (d + 1) f_Main_ways [vR 0 0, vI x1, vI x2, vI x3] s =
    bI (ev d f_Outing_has [vR 3 0, vI x1] s) fun r2 s1 =>
    if (r2 : Int32) = 0 then
      some (some (vI (-1)), s1)
    else
      if (x2 : Int32) < 0 then
        some (some (vI (-1)), s1)
      else
        if (63 : Int32) < x2 then
          some (some (vI (-1)), s1)
        else
          if (x3 : Int32) < 0 then
            some (some (vI (-1)), s1)
          else
            if (5 : Int32) < x3 then
              some (some (vI (-1)), s1)
            else
              bI (ev d f_Outing_isLoose [vR 3 0, vI x1] s1) fun r4 s3 =>
              if (r4 : Int32) = 0 then
                bV (ev d f_Search_begin [vR 9 0, vI x1] s3) fun s5 =>
                Main_ways_L1 d x2 x3 0 (-1) 0 s5
              else
                some (some (vI (-3)), s3) := (x_adv_out (K := x_K) (P := x_Pr) (d := d + 1) (M := tb_Main_ways) [63, 133] 88 (x_st0 tb_Main_ways [vR 0 0, vI x1, vI x2, vI x3] s)).symm
set_option maxRecDepth 100000 in
set_option maxHeartbeats 400000 in
theorem Main_strays_eq (d : Nat) (x1 : Int32) (x2 : Int32) (x3 : Int32) (s : xS) : ev (d + 1) f_Main_strays [vR 0 0, vI x1, vI x2, vI x3] s =
    bI (ev d f_Outing_has [vR 3 0, vI x1] s) fun r2 s1 =>
    if (r2 : Int32) = 0 then
      some (some (vI (-1)), s1)
    else
      if (x2 : Int32) < 0 then
        some (some (vI (-1)), s1)
      else
        if (8 : Int32) < x2 then
          some (some (vI (-1)), s1)
        else
          bI (ev d f_Garden_has [vR 2 0, vI x3] s1) fun r4 s3 =>
          if (r4 : Int32) = 0 then
            some (some (vI (-1)), s3)
          else
            bI (ev d f_Outing_fieldOf [vR 3 0, vI x1] s3) fun r6 s5 =>
            bI (ev d f_Paths_countStrays [vR 8 0, vI r6, vI x2, vI x3] s5) fun r8 s7 =>
            bV (ev d f_Main_tellFraction [vR 0 0, vL ((r8 : Int32).toInt64), vL (jlshl 1 (2 * x2))] s7) fun s9 =>
            some (some (vI 0), s9) := (x_adv_out (K := x_K) (P := x_Pr) (d := d + 1) (M := tb_Main_strays) [] 39 (x_st0 tb_Main_strays [vR 0 0, vI x1, vI x2, vI x3] s)).symm
noncomputable def Main_tellFraction_L1 (d : Nat) (y2 : Int64) (y3 : Int64) (y4 : Int32) (s : xS) : Option xO := og (d + 1) tb_Main_tellFraction (19, [some (vR 0 0), none, none, none, none, some (vL y2), none, some (vL y3), none, some (vI y4)], [], s)
noncomputable def Main_tellFraction_J2 (d : Nat) (y2 : Int64) (y3 : Int64) (s : xS) : Option xO := og (d + 1) tb_Main_tellFraction (66, [some (vR 0 0), none, none, none, none, some (vL y2), none, some (vL y3), none, none], [], s)
set_option maxRecDepth 100000 in
set_option maxHeartbeats 400000 in
theorem Main_tellFraction_L1_eq (d : Nat) (y2 : Int64) (y3 : Int64) (y4 : Int32) (s : xS) : Main_tellFraction_L1 d y2 y3 y4 s =
    if (y4 : Int32) < 64 then
      if (0 : Int32) < lg_cmp y3 1 then
        if (2 : Int64) = 0 then none else
        if (lg_cmp (jlrem y2 2) 0 : Int32) = 0 then
            if (2 : Int64) = 0 then none else
            if (2 : Int64) = 0 then none else
              Main_tellFraction_L1 d (y2 / 2) (y3 / 2) (y4 + 1) s
          else
            Main_tellFraction_J2 d y2 y3 s
      else
        Main_tellFraction_J2 d y2 y3 s
    else
      Main_tellFraction_J2 d y2 y3 s := (x_adv_out (K := x_K) (P := x_Pr) (d := d + 1) (M := tb_Main_tellFraction) [19, 66] 44 (19, [some (vR 0 0), none, none, none, none, some (vL y2), none, some (vL y3), none, some (vI y4)], [], s)).symm
set_option maxRecDepth 100000 in
set_option maxHeartbeats 400000 in
theorem Main_tellFraction_J2_eq (d : Nat) (y2 : Int64) (y3 : Int64) (s : xS) : Main_tellFraction_J2 d y2 y3 s =
    bV (ev d f_Numbers_tellTwo [vR 10 0, vL y2, vL y3] s) fun s1 =>
    some (none, s1) := (x_adv_out (K := x_K) (P := x_Pr) (d := d + 1) (M := tb_Main_tellFraction) [19, 66] 44 (66, [some (vR 0 0), none, none, none, none, some (vL y2), none, some (vL y3), none, none], [], s)).symm
set_option maxRecDepth 100000 in
set_option maxHeartbeats 400000 in
theorem Main_tellFraction_eq (d : Nat) (x1 : Int64) (x2 : Int64) (s : xS) : ev (d + 1) f_Main_tellFraction [vR 0 0, vL x1, vL x2] s =
    if (lg_cmp x1 0 : Int32) = 0 then
      Main_tellFraction_L1 d x1 1 0 s
    else
      Main_tellFraction_L1 d x1 x2 0 s := (x_adv_out (K := x_K) (P := x_Pr) (d := d + 1) (M := tb_Main_tellFraction) [19, 66] 44 (x_st0 tb_Main_tellFraction [vR 0 0, vL x1, vL x2] s)).symm
set_option maxRecDepth 100000 in
set_option maxHeartbeats 400000 in
theorem Main_stops_eq (d : Nat) (x1 : Int32) (s : xS) : ev (d + 1) f_Main_stops [vR 0 0, vI x1] s =
    bI (ev d f_Outing_has [vR 3 0, vI x1] s) fun r2 s1 =>
    if (r2 : Int32) = 0 then
      some (some (vI (-1)), s1)
    else
      bI (ev d f_Outing_fieldOf [vR 3 0, vI x1] s1) fun r4 s3 =>
      bI (ev d f_Garden_runFrom [vR 2 0, vI r4] s3) fun r6 s5 =>
      if (r6 : Int32) = (-1) then
        some (some (vI (-2)), s5)
      else
        bV (ev d f_Numbers_tellTwo [vR 10 0, vL ((r6 + 1 : Int32).toInt64), vL ((r6 : Int32).toInt64)] s5) fun s7 =>
        bI (ev d f_Outing_fieldOf [vR 3 0, vI x1] s7) fun r9 s8 =>
        bI (ev d f_Garden_runEnd [vR 2 0, vI r9, vI r6] s8) fun r11 s10 =>
        some (some (vI r11), s10) := (x_adv_out (K := x_K) (P := x_Pr) (d := d + 1) (M := tb_Main_stops) [] 41 (x_st0 tb_Main_stops [vR 0 0, vI x1] s)).symm
noncomputable def Main_rounds_L1 (d : Nat) (y2 : Int32) (y3 : Int32) (s : xS) : Option xO := og (d + 1) tb_Main_rounds (11, [some (vR 0 0), some (vI y2), some (vI y3)], [], s)
set_option maxRecDepth 100000 in
set_option maxHeartbeats 400000 in
theorem Main_rounds_L1_eq (d : Nat) (y2 : Int32) (y3 : Int32) (s : xS) : Main_rounds_L1 d y2 y3 s =
    if (y3 : Int32) < s.1 2 0 4 then
      bI (ev d f_Garden_isWall [vR 2 0, vI y3] s) fun r3 s2 =>
      if (r3 : Int32) = 0 then
        bI (ev d f_Garden_runFrom [vR 2 0, vI y3] s2) fun r5 s4 =>
        if (r5 : Int32) = (-1) then
          bV (ev d f_Numbers_addFirst [vR 10 0, vL ((y3 : Int32).toInt64)] s4) fun s6 =>
          Main_rounds_L1 d (y2 + 1) (y3 + 1) s6
        else
          Main_rounds_L1 d y2 (y3 + 1) s4
      else
        Main_rounds_L1 d y2 (y3 + 1) s2
    else
      some (some (vI y2), s) := (x_adv_out (K := x_K) (P := x_Pr) (d := d + 1) (M := tb_Main_rounds) [11] 36 (11, [some (vR 0 0), some (vI y2), some (vI y3)], [], s)).symm
set_option maxRecDepth 100000 in
set_option maxHeartbeats 400000 in
theorem Main_rounds_eq (d : Nat)  (s : xS) : ev (d + 1) f_Main_rounds [vR 0 0] s =
    bV (ev d f_Numbers_clear [vR 10 0] s) fun s1 =>
    Main_rounds_L1 d 0 0 s1 := (x_adv_out (K := x_K) (P := x_Pr) (d := d + 1) (M := tb_Main_rounds) [11] 36 (x_st0 tb_Main_rounds [vR 0 0] s)).symm
noncomputable def Main_basin_L1 (d : Nat) (y2 : Int32) (y3 : Int32) (y4 : Int32) (y5 : Int32) (s : xS) : Option xO := og (d + 1) tb_Main_basin (41, [some (vR 0 0), some (vI y2), some (vI y3), some (vI y4), some (vI y5), none], [], s)
set_option maxRecDepth 100000 in
set_option maxHeartbeats 400000 in
theorem Main_basin_L1_eq (d : Nat) (y2 : Int32) (y3 : Int32) (y4 : Int32) (y5 : Int32) (s : xS) : Main_basin_L1 d y2 y3 y4 y5 s =
    if (y5 : Int32) < s.1 2 0 4 then
      bI (ev d f_Garden_runFrom [vR 2 0, vI y5] s) fun r7 s6 =>
      bI (ev d f_Garden_isWall [vR 2 0, vI y5] s6) fun r9 s8 =>
      if (r9 : Int32) = 0 then
        if (r7 : Int32) = (-1) then
          Main_basin_L1 d y2 y3 y4 (y5 + 1) s8
        else
          bI (ev d f_Garden_runEnd [vR 2 0, vI y5, vI r7] s8) fun r11 s10 =>
          if (r11 : Int32) = y2 then
            bV (ev d f_Numbers_addFirst [vR 10 0, vL ((y5 : Int32).toInt64)] s10) fun s12 =>
            bI (ev d f_Math_max [vI y4, vI r7] s12) fun r14 s13 =>
            Main_basin_L1 d y2 (y3 + 1) r14 (y5 + 1) s13
          else
            Main_basin_L1 d y2 y3 y4 (y5 + 1) s10
      else
        Main_basin_L1 d y2 y3 y4 (y5 + 1) s8
    else
      if (0 : Int32) < y3 then
        bV (ev d f_Numbers_add [vR 10 0, vL ((y4 : Int32).toInt64)] s) fun s15 =>
        some (some (vI y3), s15)
      else
        some (some (vI y3), s) := (x_adv_out (K := x_K) (P := x_Pr) (d := d + 1) (M := tb_Main_basin) [41] 72 (41, [some (vR 0 0), some (vI y2), some (vI y3), some (vI y4), some (vI y5), none], [], s)).symm
set_option maxRecDepth 100000 in
set_option maxHeartbeats 400000 in
theorem Main_basin_eq (d : Nat) (x1 : Int32) (s : xS) : ev (d + 1) f_Main_basin [vR 0 0, vI x1] s =
    bI (ev d f_Garden_has [vR 2 0, vI x1] s) fun r2 s1 =>
    if (r2 : Int32) = 0 then
      some (some (vI (-1)), s1)
    else
      bI (ev d f_Garden_isWall [vR 2 0, vI x1] s1) fun r4 s3 =>
      if (r4 : Int32) = 0 then
        bV (ev d f_Numbers_clear [vR 10 0] s3) fun s5 =>
        Main_basin_L1 d x1 0 0 0 s5
      else
        some (some (vI (-2)), s3) := (x_adv_out (K := x_K) (P := x_Pr) (d := d + 1) (M := tb_Main_basin) [41] 72 (x_st0 tb_Main_basin [vR 0 0, vI x1] s)).symm
set_option maxRecDepth 100000 in
set_option maxHeartbeats 400000 in
theorem Main_saw_eq (d : Nat) (x1 : Int32) (x2 : Int32) (x3 : Int32) (s : xS) : ev (d + 1) f_Main_saw [vR 0 0, vI x1, vI x2, vI x3] s =
    if (x1 : Int32) < 1 then
      some (some (vI (-1)), s)
    else
      if (5 : Int32) < x1 then
        some (some (vI (-1)), s)
      else
        if (x2 : Int32) < 0 then
          some (some (vI (-1)), s)
        else
          if (6 : Int32) < x2 then
            some (some (vI (-1)), s)
          else
            if (x3 : Int32) < 0 then
              some (some (vI (-1)), s)
            else
              if (1 : Int32) < x3 then
                some (some (vI (-1)), s)
              else
                bI (ev d f_Notes_add [vR 11 0, vI (((100 * x3) + (10 * x1)) + x2)] s) fun r2 s1 =>
                if (r2 : Int32) = 0 then
                  some (some (vI (-1)), s1)
                else
                  some (some (vI (s1.1 11 0 1)), s1) := (x_adv_out (K := x_K) (P := x_Pr) (d := d + 1) (M := tb_Main_saw) [] 40 (x_st0 tb_Main_saw [vR 0 0, vI x1, vI x2, vI x3] s)).symm
set_option maxRecDepth 100000 in
set_option maxHeartbeats 400000 in
theorem Main_denies_eq (d : Nat)  (s : xS) : ev (d + 1) f_Main_denies [vR 0 0] s =
    bI (ev d f_Notes_clear [vR 11 0] s) fun r2 s1 =>
    some (some (vI r2), s1) := (x_adv_out (K := x_K) (P := x_Pr) (d := d + 1) (M := tb_Main_denies) [] 7 (x_st0 tb_Main_denies [vR 0 0] s)).symm
noncomputable def Main_laws_L1 (d : Nat) (y2 : Int64) (y3 : Int32) (s : xS) : Option xO := og (d + 1) tb_Main_laws (14, [some (vR 0 0), some (vL y2), none, some (vI y3)], [], s)
set_option maxRecDepth 100000 in
set_option maxHeartbeats 400000 in
theorem Main_laws_L1_eq (d : Nat) (y2 : Int64) (y3 : Int32) (s : xS) : Main_laws_L1 d y2 y3 s =
    if (y3 : Int32) < 35 then
      if (s.1 10 0 1 : Int32) = 0 then
        if (lg_cmp ((jlshr y2 y3) &&& 1) 1 : Int32) = 0 then
          bI (ev d f_Main_lawsA [vI y3] s) fun r5 s4 =>
          bI (ev d f_Main_lawsB [vI y3] s4) fun r7 s6 =>
          bV (ev d f_Numbers_tellTwo [vR 10 0, vL ((r5 : Int32).toInt64), vL ((r7 : Int32).toInt64)] s6) fun s8 =>
          Main_laws_L1 d y2 (y3 + 1) s8
        else
          Main_laws_L1 d y2 (y3 + 1) s
      else
        bI (ev d f_Long_bitCount [vL y2] s) fun r10 s9 =>
        some (some (vI r10), s9)
    else
      bI (ev d f_Long_bitCount [vL y2] s) fun r12 s11 =>
      some (some (vI r12), s11) := (x_adv_out (K := x_K) (P := x_Pr) (d := d + 1) (M := tb_Main_laws) [14] 40 (14, [some (vR 0 0), some (vL y2), none, some (vI y3)], [], s)).symm
set_option maxRecDepth 100000 in
set_option maxHeartbeats 400000 in
theorem Main_laws_eq (d : Nat)  (s : xS) : ev (d + 1) f_Main_laws [vR 0 0] s =
    bL (ev d f_Main_fittingLaws [vR 0 0] s) fun r2 s1 =>
    bV (ev d f_Numbers_clear [vR 10 0] s1) fun s3 =>
    Main_laws_L1 d r2 0 s3 := (x_adv_out (K := x_K) (P := x_Pr) (d := d + 1) (M := tb_Main_laws) [14] 40 (x_st0 tb_Main_laws [vR 0 0] s)).symm
noncomputable def Main_fittingLaws_L1 (d : Nat) (y2 : Int64) (y3 : Int32) (s : xS) : Option xO := og (d + 1) tb_Main_fittingLaws (4, [some (vR 0 0), some (vL y2), none, some (vI y3)], [], s)
set_option maxRecDepth 100000 in
set_option maxHeartbeats 400000 in
theorem Main_fittingLaws_L1_eq (d : Nat) (y2 : Int64) (y3 : Int32) (s : xS) : Main_fittingLaws_L1 d y2 y3 s =
    if (y3 : Int32) < 35 then
      bI (ev d f_Main_lawsA [vI y3] s) fun r2 s1 =>
      bI (ev d f_Main_lawsB [vI y3] s1) fun r4 s3 =>
      bI (ev d f_Main_fitsSeen [vR 0 0, vI r2, vI r4] s3) fun r6 s5 =>
      if (r6 : Int32) = 0 then
        Main_fittingLaws_L1 d (y2 ||| 0) (y3 + 1) s5
      else
        Main_fittingLaws_L1 d (y2 ||| (jlshl 1 y3)) (y3 + 1) s5
    else
      some (some (vL y2), s) := (x_adv_out (K := x_K) (P := x_Pr) (d := d + 1) (M := tb_Main_fittingLaws) [4] 29 (4, [some (vR 0 0), some (vL y2), none, some (vI y3)], [], s)).symm
set_option maxRecDepth 100000 in
set_option maxHeartbeats 400000 in
theorem Main_fittingLaws_eq (d : Nat)  (s : xS) : ev (d + 1) f_Main_fittingLaws [vR 0 0] s =
    Main_fittingLaws_L1 d 0 0 s := (x_adv_out (K := x_K) (P := x_Pr) (d := d + 1) (M := tb_Main_fittingLaws) [4] 29 (x_st0 tb_Main_fittingLaws [vR 0 0] s)).symm
set_option maxRecDepth 100000 in
set_option maxHeartbeats 400000 in
theorem Main_lawsA_eq (d : Nat) (x1 : Int32) (s : xS) : ev (d + 1) f_Main_lawsA [vI x1] s =
    if (7 : Int32) = 0 then none else
    some (some (vI (1 + (x1 / 7))), s) := (x_adv_out (K := x_K) (P := x_Pr) (d := d + 1) (M := tb_Main_lawsA) [] 9 (x_st0 tb_Main_lawsA [vI x1] s)).symm
set_option maxRecDepth 100000 in
set_option maxHeartbeats 400000 in
theorem Main_lawsB_eq (d : Nat) (x1 : Int32) (s : xS) : ev (d + 1) f_Main_lawsB [vI x1] s =
    if (7 : Int32) = 0 then none else
    some (some (vI (jrem x1 7)), s) := (x_adv_out (K := x_K) (P := x_Pr) (d := d + 1) (M := tb_Main_lawsB) [] 7 (x_st0 tb_Main_lawsB [vI x1] s)).symm
noncomputable def Main_fitsSeen_L1 (d : Nat) (y2 : Int32) (y3 : Int32) (y4 : Int32) (s : xS) : Option xO := og (d + 1) tb_Main_fitsSeen (2, [some (vR 0 0), some (vI y2), some (vI y3), some (vI y4), none], [], s)
set_option maxRecDepth 100000 in
set_option maxHeartbeats 400000 in
theorem Main_fitsSeen_L1_eq (d : Nat) (y2 : Int32) (y3 : Int32) (y4 : Int32) (s : xS) : Main_fitsSeen_L1 d y2 y3 y4 s =
    if (y4 : Int32) < s.1 11 0 1 then
      bI (ev d f_Notes_get [vR 11 0, vI y4] s) fun r2 s1 =>
      if (100 : Int32) = 0 then none else
      bI (ev d f_Main_isFormed [vI y2, vI y3, vI (jrem r2 100)] s1) fun r4 s3 =>
        if (r2 : Int32) < 100 then
          if (r4 : Int32) = 0 then
            Main_fitsSeen_L1 d y2 y3 (y4 + 1) s3
          else
            some (some (vI (x_nb 0)), s3)
        else
          if (r4 : Int32) = 1 then
            Main_fitsSeen_L1 d y2 y3 (y4 + 1) s3
          else
            some (some (vI (x_nb 0)), s3)
    else
      some (some (vI (x_nb 1)), s) := (x_adv_out (K := x_K) (P := x_Pr) (d := d + 1) (M := tb_Main_fitsSeen) [2] 34 (2, [some (vR 0 0), some (vI y2), some (vI y3), some (vI y4), none], [], s)).symm
set_option maxRecDepth 100000 in
set_option maxHeartbeats 400000 in
theorem Main_fitsSeen_eq (d : Nat) (x1 : Int32) (x2 : Int32) (s : xS) : ev (d + 1) f_Main_fitsSeen [vR 0 0, vI x1, vI x2] s =
    Main_fitsSeen_L1 d x1 x2 0 s := (x_adv_out (K := x_K) (P := x_Pr) (d := d + 1) (M := tb_Main_fitsSeen) [2] 34 (x_st0 tb_Main_fitsSeen [vR 0 0, vI x1, vI x2] s)).symm
set_option maxRecDepth 100000 in
set_option maxHeartbeats 400000 in
theorem Main_isFormed_eq (d : Nat) (x1 : Int32) (x2 : Int32) (x3 : Int32) (s : xS) : ev (d + 1) f_Main_isFormed [vI x1, vI x2, vI x3] s =
    if (10 : Int32) = 0 then none else
    if (x1 : Int32) < x3 / 10 then
        some (some (vI (x_nb 0)), s)
      else
        if (10 : Int32) = 0 then none else
        if (x2 : Int32) < jrem x3 10 then
            some (some (vI (x_nb 0)), s)
          else
            some (some (vI (x_nb 1)), s) := (x_adv_out (K := x_K) (P := x_Pr) (d := d + 1) (M := tb_Main_isFormed) [] 17 (x_st0 tb_Main_isFormed [vI x1, vI x2, vI x3] s)).symm
noncomputable def Main_looks_L1 (d : Nat) (y2 : Int64) (y3 : Int32) (y4 : Int32) (y5 : Int32) (s : xS) : Option xO := og (d + 1) tb_Main_looks (22, [some (vR 0 0), some (vL y2), none, some (vI y3), some (vI y4), some (vI y5), none, none], [], s)
noncomputable def Main_looks_L2 (d : Nat) (y2 : Int64) (y3 : Int32) (y4 : Int32) (y5 : Int32) (y6 : Int32) (s : xS) : Option xO := og (d + 1) tb_Main_looks (31, [some (vR 0 0), some (vL y2), none, some (vI y3), some (vI y4), some (vI y5), some (vI y6), none], [], s)
noncomputable def Main_looks_J3 (d : Nat) (y2 : Int64) (y3 : Int32) (y4 : Int32) (y5 : Int32) (s : xS) : Option xO := og (d + 1) tb_Main_looks (64, [some (vR 0 0), some (vL y2), none, none, none, some (vI y3), some (vI y4), some (vI y5)], [], s)
set_option maxRecDepth 100000 in
set_option maxHeartbeats 400000 in
theorem Main_looks_L1_eq (d : Nat) (y2 : Int64) (y3 : Int32) (y4 : Int32) (y5 : Int32) (s : xS) : Main_looks_L1 d y2 y3 y4 y5 s =
    if (5 : Int32) < y5 then
      bV (ev d f_Numbers_tellOne [vR 10 0, vL ((y4 : Int32).toInt64)] s) fun s3 =>
      some (some (vI y3), s3)
    else
      Main_looks_L2 d y2 y3 y4 y5 0 s := (x_adv_out (K := x_K) (P := x_Pr) (d := d + 1) (M := tb_Main_looks) [22, 31, 64] 59 (22, [some (vR 0 0), some (vL y2), none, some (vI y3), some (vI y4), some (vI y5), none, none], [], s)).symm
set_option maxRecDepth 100000 in
set_option maxHeartbeats 400000 in
theorem Main_looks_L2_eq (d : Nat) (y2 : Int64) (y3 : Int32) (y4 : Int32) (y5 : Int32) (y6 : Int32) (s : xS) : Main_looks_L2 d y2 y3 y4 y5 y6 s =
    if (6 : Int32) < y6 then
      Main_looks_L1 d y2 y3 y4 (y5 + 1) s
    else
      bI (ev d f_Main_lawsLeftAtMost [vL y2, vI ((10 * y5) + y6)] s) fun r5 s4 =>
      if (y3 : Int32) = (-1) then
        Main_looks_J3 d y2 y5 y6 r5 s4
      else
        if (r5 : Int32) < y4 then
          Main_looks_J3 d y2 y5 y6 r5 s4
        else
          Main_looks_L2 d y2 y3 y4 y5 (y6 + 1) s4 := (x_adv_out (K := x_K) (P := x_Pr) (d := d + 1) (M := tb_Main_looks) [22, 31, 64] 59 (31, [some (vR 0 0), some (vL y2), none, some (vI y3), some (vI y4), some (vI y5), some (vI y6), none], [], s)).symm
set_option maxRecDepth 100000 in
set_option maxHeartbeats 400000 in
theorem Main_looks_J3_eq (d : Nat) (y2 : Int64) (y3 : Int32) (y4 : Int32) (y5 : Int32) (s : xS) : Main_looks_J3 d y2 y3 y4 y5 s =
    Main_looks_L2 d y2 ((10 * y3) + y4) y5 y3 (y4 + 1) s := (x_adv_out (K := x_K) (P := x_Pr) (d := d + 1) (M := tb_Main_looks) [22, 31, 64] 59 (64, [some (vR 0 0), some (vL y2), none, none, none, some (vI y3), some (vI y4), some (vI y5)], [], s)).symm
set_option maxRecDepth 100000 in
set_option maxHeartbeats 400000 in
theorem Main_looks_eq (d : Nat)  (s : xS) : ev (d + 1) f_Main_looks [vR 0 0] s =
    bL (ev d f_Main_fittingLaws [vR 0 0] s) fun r2 s1 =>
    if (lg_cmp r2 0 : Int32) = 0 then
      some (some (vI (-2)), s1)
    else
      Main_looks_L1 d r2 (-1) 0 1 s1 := (x_adv_out (K := x_K) (P := x_Pr) (d := d + 1) (M := tb_Main_looks) [22, 31, 64] 59 (x_st0 tb_Main_looks [vR 0 0] s)).symm
noncomputable def Main_lawsLeftAtMost_L1 (d : Nat) (y1 : Int64) (y2 : Int32) (y3 : Int32) (y4 : Int32) (s : xS) : Option xO := og (d + 1) tb_Main_lawsLeftAtMost (5, [some (vL y1), none, some (vI y2), some (vI y3), some (vI y4)], [], s)
set_option maxRecDepth 100000 in
set_option maxHeartbeats 400000 in
theorem Main_lawsLeftAtMost_L1_eq (d : Nat) (y1 : Int64) (y2 : Int32) (y3 : Int32) (y4 : Int32) (s : xS) : Main_lawsLeftAtMost_L1 d y1 y2 y3 y4 s =
    if (y4 : Int32) < 35 then
      if (lg_cmp ((jlshr y1 y4) &&& 1) 1 : Int32) = 0 then
        bI (ev d f_Main_lawsA [vI y4] s) fun r2 s1 =>
        bI (ev d f_Main_lawsB [vI y4] s1) fun r4 s3 =>
        bI (ev d f_Main_isFormed [vI r2, vI r4, vI y2] s3) fun r6 s5 =>
        if (r6 : Int32) = 0 then
          Main_lawsLeftAtMost_L1 d y1 y2 y3 (y4 + 1) s5
        else
          Main_lawsLeftAtMost_L1 d y1 y2 (y3 + 1) (y4 + 1) s5
      else
        Main_lawsLeftAtMost_L1 d y1 y2 y3 (y4 + 1) s
    else
      bI (ev d f_Long_bitCount [vL y1] s) fun r8 s7 =>
      bI (ev d f_Math_max [vI y3, vI (r8 - y3)] s7) fun r10 s9 =>
      some (some (vI r10), s9) := (x_adv_out (K := x_K) (P := x_Pr) (d := d + 1) (M := tb_Main_lawsLeftAtMost) [5] 35 (5, [some (vL y1), none, some (vI y2), some (vI y3), some (vI y4)], [], s)).symm
set_option maxRecDepth 100000 in
set_option maxHeartbeats 400000 in
theorem Main_lawsLeftAtMost_eq (d : Nat) (x1 : Int64) (x2 : Int32) (s : xS) : ev (d + 1) f_Main_lawsLeftAtMost [vL x1, vI x2] s =
    Main_lawsLeftAtMost_L1 d x1 x2 0 0 s := (x_adv_out (K := x_K) (P := x_Pr) (d := d + 1) (M := tb_Main_lawsLeftAtMost) [5] 35 (x_st0 tb_Main_lawsLeftAtMost [vL x1, vI x2] s)).symm
set_option maxRecDepth 100000 in
set_option maxHeartbeats 400000 in
theorem Main_heard_eq (d : Nat) (x1 : Int32) (x2 : Int32) (s : xS) : ev (d + 1) f_Main_heard [vR 0 0, vI x1, vI x2] s =
    if (x1 : Int32) < 0 then
      some (some (vI (-1)), s)
    else
      if (x1 : Int32) < Int32.ofNat 5 then
        if (x2 : Int32) < 0 then
          some (some (vI (-1)), s)
        else
          if x_in x1 5 then
          if (x_cst (x1 : Int32).toNatClampNeg : Int32) < x2 then
            some (some (vI (-1)), s)
          else
            bI (ev d f_Notes_add [vR 12 0, vI ((10 * x1) + x2)] s) fun r2 s1 =>
            if (r2 : Int32) = 0 then
              some (some (vI (-1)), s1)
            else
              some (some (vI (s1.1 12 0 1)), s1)
          else none
      else
        some (some (vI (-1)), s) := (x_adv_out (K := x_K) (P := x_Pr) (d := d + 1) (M := tb_Main_heard) [] 33 (x_st0 tb_Main_heard [vR 0 0, vI x1, vI x2] s)).symm
set_option maxRecDepth 100000 in
set_option maxHeartbeats 400000 in
theorem Main_forget_eq (d : Nat)  (s : xS) : ev (d + 1) f_Main_forget [vR 0 0] s =
    bI (ev d f_Notes_clear [vR 12 0] s) fun r2 s1 =>
    some (some (vI r2), s1) := (x_adv_out (K := x_K) (P := x_Pr) (d := d + 1) (M := tb_Main_forget) [] 7 (x_st0 tb_Main_forget [vR 0 0] s)).symm
set_option maxRecDepth 100000 in
set_option maxHeartbeats 400000 in
theorem Main_fits_eq (d : Nat)  (s : xS) : ev (d + 1) f_Main_fits [vR 0 0] s =
    bI (ev d f_Main_fittingPrams [vR 0 0] s) fun r2 s1 =>
    bI (ev d f_Integer_bitCount [vI r2] s1) fun r4 s3 =>
    bV (ev d f_Numbers_tellOne [vR 10 0, vL ((r4 : Int32).toInt64)] s3) fun s5 =>
    some (some (vI r2), s5) := (x_adv_out (K := x_K) (P := x_Pr) (d := d + 1) (M := tb_Main_fits) [] 14 (x_st0 tb_Main_fits [vR 0 0] s)).symm
noncomputable def Main_fittingPrams_L1 (d : Nat) (y2 : Int32) (y3 : Int32) (s : xS) : Option xO := og (d + 1) tb_Main_fittingPrams (4, [some (vR 0 0), some (vI y2), some (vI y3), none, none], [], s)
noncomputable def Main_fittingPrams_L2 (d : Nat) (y2 : Int32) (y3 : Int32) (y4 : Int32) (y5 : Int32) (s : xS) : Option xO := og (d + 1) tb_Main_fittingPrams (20, [some (vR 0 0), some (vI y2), some (vI y3), some (vI y4), some (vI y5)], [], s)
set_option maxRecDepth 100000 in
set_option maxHeartbeats 400000 in
theorem Main_fittingPrams_L1_eq (d : Nat) (y2 : Int32) (y3 : Int32) (s : xS) : Main_fittingPrams_L1 d y2 y3 s =
    if (y3 : Int32) < s.1 3 0 3 then
      Main_fittingPrams_L2 d y2 y3 1 0 s
    else
      some (some (vI y2), s) := (x_adv_out (K := x_K) (P := x_Pr) (d := d + 1) (M := tb_Main_fittingPrams) [4, 20] 51 (4, [some (vR 0 0), some (vI y2), some (vI y3), none, none], [], s)).symm
set_option maxRecDepth 100000 in
set_option maxHeartbeats 400000 in
theorem Main_fittingPrams_L2_eq (d : Nat) (y2 : Int32) (y3 : Int32) (y4 : Int32) (y5 : Int32) (s : xS) : Main_fittingPrams_L2 d y2 y3 y4 y5 s =
    if (y5 : Int32) < s.1 12 0 1 then
      if (y4 : Int32) = 0 then
        Main_fittingPrams_L2 d y2 y3 0 (y5 + 1) s
      else
        bI (ev d f_Notes_get [vR 12 0, vI y5] s) fun r2 s1 =>
        bI (ev d f_Main_isSo [vR 0 0, vI y3, vI r2] s1) fun r4 s3 =>
        if (r4 : Int32) = 0 then
          Main_fittingPrams_L2 d y2 y3 0 (y5 + 1) s3
        else
          Main_fittingPrams_L2 d y2 y3 1 (y5 + 1) s3
    else
      if (y4 : Int32) = 0 then
        Main_fittingPrams_L1 d (y2 ||| 0) (y3 + 1) s
      else
        Main_fittingPrams_L1 d (y2 ||| (jshl 1 y3)) (y3 + 1) s := (x_adv_out (K := x_K) (P := x_Pr) (d := d + 1) (M := tb_Main_fittingPrams) [4, 20] 51 (20, [some (vR 0 0), some (vI y2), some (vI y3), some (vI y4), some (vI y5)], [], s)).symm
set_option maxRecDepth 100000 in
set_option maxHeartbeats 400000 in
theorem Main_fittingPrams_eq (d : Nat)  (s : xS) : ev (d + 1) f_Main_fittingPrams [vR 0 0] s =
    Main_fittingPrams_L1 d 0 0 s := (x_adv_out (K := x_K) (P := x_Pr) (d := d + 1) (M := tb_Main_fittingPrams) [4, 20] 51 (x_st0 tb_Main_fittingPrams [vR 0 0] s)).symm
set_option maxRecDepth 100000 in
set_option maxHeartbeats 400000 in
theorem Main_isSo_eq (d : Nat) (x1 : Int32) (x2 : Int32) (s : xS) : ev (d + 1) f_Main_isSo [vR 0 0, vI x1, vI x2] s =
    if (10 : Int32) = 0 then none else
    if (10 : Int32) = 0 then none else
      if (x2 / 10 : Int32) = 0 then
          bI (ev d f_Outing_fieldOf [vR 3 0, vI x1] s) fun r2 s1 =>
          bI (ev d f_Garden_rowOf [vR 2 0, vI r2] s1) fun r4 s3 =>
          if (r4 : Int32) = jrem x2 10 then
            some (some (vI (x_nb 1)), s3)
          else
            some (some (vI (x_nb 0)), s3)
        else if (x2 / 10 : Int32) = 1 then
          bI (ev d f_Outing_fieldOf [vR 3 0, vI x1] s) fun r6 s5 =>
          bI (ev d f_Garden_columnOf [vR 2 0, vI r6] s5) fun r8 s7 =>
          if (r8 : Int32) = jrem x2 10 then
            some (some (vI (x_nb 1)), s7)
          else
            some (some (vI (x_nb 0)), s7)
        else if (x2 / 10 : Int32) = 2 then
          bI (ev d f_Outing_wayOf [vR 3 0, vI x1] s) fun r10 s9 =>
          if (r10 : Int32) = jrem x2 10 then
            some (some (vI (x_nb 1)), s9)
          else
            some (some (vI (x_nb 0)), s9)
        else if (x2 / 10 : Int32) = 3 then
          bI (ev d f_Outing_viewsOf [vR 3 0, vI x1] s) fun r12 s11 =>
          if ((jshr r12 (jrem x2 10)) &&& 1 : Int32) = 1 then
            some (some (vI (x_nb 1)), s11)
          else
            some (some (vI (x_nb 0)), s11)
        else bI (ev d f_Outing_isLoose [vR 3 0, vI x1] s) fun r14 s13 =>
          if (jrem x2 10 : Int32) = 1 then
            if (r14 : Int32) = 1 then
              some (some (vI (x_nb 1)), s13)
            else
              some (some (vI (x_nb 0)), s13)
          else
            if (r14 : Int32) = 0 then
              some (some (vI (x_nb 1)), s13)
            else
              some (some (vI (x_nb 0)), s13) := (x_adv_out (K := x_K) (P := x_Pr) (d := d + 1) (M := tb_Main_isSo) [] 76 (x_st0 tb_Main_isSo [vR 0 0, vI x1, vI x2] s)).symm
noncomputable def Main_asks_L1 (d : Nat) (y2 : Int32) (y3 : Int32) (y4 : Int32) (y5 : Int32) (s : xS) : Option xO := og (d + 1) tb_Main_asks (19, [some (vR 0 0), some (vI y2), some (vI y3), some (vI y4), some (vI y5), none, none], [], s)
noncomputable def Main_asks_L2 (d : Nat) (y2 : Int32) (y3 : Int32) (y4 : Int32) (y5 : Int32) (y6 : Int32) (s : xS) : Option xO := og (d + 1) tb_Main_asks (31, [some (vR 0 0), some (vI y2), some (vI y3), some (vI y4), some (vI y5), some (vI y6), none], [], s)
noncomputable def Main_asks_J3 (d : Nat) (y2 : Int32) (y3 : Int32) (y4 : Int32) (y5 : Int32) (s : xS) : Option xO := og (d + 1) tb_Main_asks (68, [some (vR 0 0), some (vI y2), none, none, some (vI y3), some (vI y4), some (vI y5)], [], s)
set_option maxRecDepth 100000 in
set_option maxHeartbeats 400000 in
theorem Main_asks_L1_eq (d : Nat) (y2 : Int32) (y3 : Int32) (y4 : Int32) (y5 : Int32) (s : xS) : Main_asks_L1 d y2 y3 y4 y5 s =
    if (y5 : Int32) < Int32.ofNat 5 then
      Main_asks_L2 d y2 y3 y4 y5 0 s
    else
      bV (ev d f_Numbers_tellOne [vR 10 0, vL ((y4 : Int32).toInt64)] s) fun s3 =>
      some (some (vI y3), s3) := (x_adv_out (K := x_K) (P := x_Pr) (d := d + 1) (M := tb_Main_asks) [19, 31, 68] 61 (19, [some (vR 0 0), some (vI y2), some (vI y3), some (vI y4), some (vI y5), none, none], [], s)).symm
set_option maxRecDepth 100000 in
set_option maxHeartbeats 400000 in
theorem Main_asks_L2_eq (d : Nat) (y2 : Int32) (y3 : Int32) (y4 : Int32) (y5 : Int32) (y6 : Int32) (s : xS) : Main_asks_L2 d y2 y3 y4 y5 y6 s =
    if x_in y5 5 then
    if (x_cst (y5 : Int32).toNatClampNeg : Int32) < y6 then
      Main_asks_L1 d y2 y3 y4 (y5 + 1) s
    else
      bI (ev d f_Main_pramsLeftAtMost [vR 0 0, vI y2, vI ((10 * y5) + y6)] s) fun r5 s4 =>
      if (y3 : Int32) = (-1) then
        Main_asks_J3 d y2 y5 y6 r5 s4
      else
        if (r5 : Int32) < y4 then
          Main_asks_J3 d y2 y5 y6 r5 s4
        else
          Main_asks_L2 d y2 y3 y4 y5 (y6 + 1) s4
    else none := (x_adv_out (K := x_K) (P := x_Pr) (d := d + 1) (M := tb_Main_asks) [19, 31, 68] 61 (31, [some (vR 0 0), some (vI y2), some (vI y3), some (vI y4), some (vI y5), some (vI y6), none], [], s)).symm
set_option maxRecDepth 100000 in
set_option maxHeartbeats 400000 in
theorem Main_asks_J3_eq (d : Nat) (y2 : Int32) (y3 : Int32) (y4 : Int32) (y5 : Int32) (s : xS) : Main_asks_J3 d y2 y3 y4 y5 s =
    Main_asks_L2 d y2 ((10 * y3) + y4) y5 y3 (y4 + 1) s := (x_adv_out (K := x_K) (P := x_Pr) (d := d + 1) (M := tb_Main_asks) [19, 31, 68] 61 (68, [some (vR 0 0), some (vI y2), none, none, some (vI y3), some (vI y4), some (vI y5)], [], s)).symm
set_option maxRecDepth 100000 in
set_option maxHeartbeats 400000 in
theorem Main_asks_eq (d : Nat)  (s : xS) : ev (d + 1) f_Main_asks [vR 0 0] s =
    bI (ev d f_Main_fittingPrams [vR 0 0] s) fun r2 s1 =>
    if (r2 : Int32) = 0 then
      some (some (vI (-2)), s1)
    else
      Main_asks_L1 d r2 (-1) 0 0 s1 := (x_adv_out (K := x_K) (P := x_Pr) (d := d + 1) (M := tb_Main_asks) [19, 31, 68] 61 (x_st0 tb_Main_asks [vR 0 0] s)).symm
noncomputable def Main_pramsLeftAtMost_L1 (d : Nat) (y2 : Int32) (y3 : Int32) (y4 : Int32) (y5 : Int32) (s : xS) : Option xO := og (d + 1) tb_Main_pramsLeftAtMost (5, [some (vR 0 0), some (vI y2), some (vI y3), some (vI y4), some (vI y5)], [], s)
set_option maxRecDepth 100000 in
set_option maxHeartbeats 400000 in
theorem Main_pramsLeftAtMost_L1_eq (d : Nat) (y2 : Int32) (y3 : Int32) (y4 : Int32) (y5 : Int32) (s : xS) : Main_pramsLeftAtMost_L1 d y2 y3 y4 y5 s =
    if (y5 : Int32) < s.1 3 0 3 then
      if ((jshr y2 y5) &&& 1 : Int32) = 1 then
        bI (ev d f_Main_isSo [vR 0 0, vI y5, vI y3] s) fun r2 s1 =>
        if (r2 : Int32) = 0 then
          Main_pramsLeftAtMost_L1 d y2 y3 y4 (y5 + 1) s1
        else
          Main_pramsLeftAtMost_L1 d y2 y3 (y4 + 1) (y5 + 1) s1
      else
        Main_pramsLeftAtMost_L1 d y2 y3 y4 (y5 + 1) s
    else
      bI (ev d f_Integer_bitCount [vI y2] s) fun r4 s3 =>
      bI (ev d f_Math_max [vI y4, vI (r4 - y4)] s3) fun r6 s5 =>
      some (some (vI r6), s5) := (x_adv_out (K := x_K) (P := x_Pr) (d := d + 1) (M := tb_Main_pramsLeftAtMost) [5] 34 (5, [some (vR 0 0), some (vI y2), some (vI y3), some (vI y4), some (vI y5)], [], s)).symm
set_option maxRecDepth 100000 in
set_option maxHeartbeats 400000 in
theorem Main_pramsLeftAtMost_eq (d : Nat) (x1 : Int32) (x2 : Int32) (s : xS) : ev (d + 1) f_Main_pramsLeftAtMost [vR 0 0, vI x1, vI x2] s =
    Main_pramsLeftAtMost_L1 d x1 x2 0 0 s := (x_adv_out (K := x_K) (P := x_Pr) (d := d + 1) (M := tb_Main_pramsLeftAtMost) [5] 34 (x_st0 tb_Main_pramsLeftAtMost [vR 0 0, vI x1, vI x2] s)).symm
noncomputable def Main_pond_L1 (d : Nat) (y2 : Int32) (y3 : Int32) (y4 : Int32) (y5 : Int32) (s : xS) : Option xO := og (d + 1) tb_Main_pond (42, [some (vR 0 0), some (vI y2), some (vI y3), some (vI y4), some (vI y5), none, none], [], s)
noncomputable def Main_pond_L2 (d : Nat) (y2 : Int32) (y3 : Int32) (y4 : Int32) (y5 : Int32) (y6 : Int32) (y7 : Int32) (s : xS) : Option xO := og (d + 1) tb_Main_pond (73, [some (vR 0 0), some (vI y2), some (vI y3), some (vI y4), some (vI y5), some (vI y6), some (vI y7)], [], s)
noncomputable def Main_pond_J3 (d : Nat) (y2 : Int32) (y3 : Int32) (y4 : Int32) (y5 : Int32) (y6 : Int32) (y7 : Int32) (y8 : Int32) (s : xS) : Option xO := og (d + 1) tb_Main_pond (99, [some (vR 0 0), some (vI y2), some (vI y3), some (vI y4), some (vI y5), some (vI y6), some (vI y7)], [vI y8], s)
noncomputable def Main_pond_J4 (d : Nat) (y2 : Int32) (y3 : Int32) (y4 : Int32) (y5 : Int32) (y6 : Int32) (y7 : Int32) (y8 : Int32) (y9 : Int32) (s : xS) : Option xO := og (d + 1) tb_Main_pond (113, [some (vR 0 0), some (vI y2), some (vI y3), some (vI y4), some (vI y5), some (vI y6), some (vI y7)], [vI y8, vI y9], s)
noncomputable def Main_pond_J5 (d : Nat) (y2 : Int32) (y3 : Int32) (y4 : Int32) (y5 : Int32) (y6 : Int32) (y7 : Int32) (y8 : Int32) (y9 : Int32) (y10 : Int32) (s : xS) : Option xO := og (d + 1) tb_Main_pond (127, [some (vR 0 0), some (vI y2), some (vI y3), some (vI y4), some (vI y5), some (vI y6), some (vI y7)], [vI y8, vI y9, vI y10], s)
set_option maxRecDepth 100000 in
set_option maxHeartbeats 400000 in
theorem Main_pond_L1_eq (d : Nat) (y2 : Int32) (y3 : Int32) (y4 : Int32) (y5 : Int32) (s : xS) : Main_pond_L1 d y2 y3 y4 y5 s =
    if (y5 : Int32) < 3 then
      if (y5 : Int32) = 0 then
        Main_pond_L2 d y2 y3 y4 y5 y2 1 s
      else
        if (y5 : Int32) = 1 then
          Main_pond_L2 d y2 y3 y4 y5 y3 1 s
        else
          Main_pond_L2 d y2 y3 y4 y5 y4 1 s
    else
      some (some (vI 0), s) := (x_adv_out (K := x_K) (P := x_Pr) (d := d + 1) (M := tb_Main_pond) [42, 73, 99, 113, 127] 87 (42, [some (vR 0 0), some (vI y2), some (vI y3), some (vI y4), some (vI y5), none, none], [], s)).symm
set_option maxRecDepth 100000 in
set_option maxHeartbeats 400000 in
theorem Main_pond_L2_eq (d : Nat) (y2 : Int32) (y3 : Int32) (y4 : Int32) (y5 : Int32) (y6 : Int32) (y7 : Int32) (s : xS) : Main_pond_L2 d y2 y3 y4 y5 y6 y7 s =
    if (3 : Int32) < y7 then
      Main_pond_L1 d y2 y3 y4 (y5 + 1) s
    else
      if (y6 : Int32) < y7 then
        Main_pond_L1 d y2 y3 y4 (y5 + 1) s
      else
        if (y5 : Int32) = 0 then
          Main_pond_J3 d y2 y3 y4 y5 y6 y7 (y2 - y7) s
        else
          Main_pond_J3 d y2 y3 y4 y5 y6 y7 y2 s := (x_adv_out (K := x_K) (P := x_Pr) (d := d + 1) (M := tb_Main_pond) [42, 73, 99, 113, 127] 87 (73, [some (vR 0 0), some (vI y2), some (vI y3), some (vI y4), some (vI y5), some (vI y6), some (vI y7)], [], s)).symm
set_option maxRecDepth 100000 in
set_option maxHeartbeats 400000 in
theorem Main_pond_J3_eq (d : Nat) (y2 : Int32) (y3 : Int32) (y4 : Int32) (y5 : Int32) (y6 : Int32) (y7 : Int32) (y8 : Int32) (s : xS) : Main_pond_J3 d y2 y3 y4 y5 y6 y7 y8 s =
    if (y5 : Int32) = 1 then
      Main_pond_J4 d y2 y3 y4 y5 y6 y7 (y3 - y7) y8 s
    else
      Main_pond_J4 d y2 y3 y4 y5 y6 y7 y3 y8 s := (x_adv_out (K := x_K) (P := x_Pr) (d := d + 1) (M := tb_Main_pond) [42, 73, 99, 113, 127] 87 (99, [some (vR 0 0), some (vI y2), some (vI y3), some (vI y4), some (vI y5), some (vI y6), some (vI y7)], [vI y8], s)).symm
set_option maxRecDepth 100000 in
set_option maxHeartbeats 400000 in
theorem Main_pond_J4_eq (d : Nat) (y2 : Int32) (y3 : Int32) (y4 : Int32) (y5 : Int32) (y6 : Int32) (y7 : Int32) (y8 : Int32) (y9 : Int32) (s : xS) : Main_pond_J4 d y2 y3 y4 y5 y6 y7 y8 y9 s =
    if (y5 : Int32) = 2 then
      Main_pond_J5 d y2 y3 y4 y5 y6 y7 (y4 - y7) y8 y9 s
    else
      Main_pond_J5 d y2 y3 y4 y5 y6 y7 y4 y8 y9 s := (x_adv_out (K := x_K) (P := x_Pr) (d := d + 1) (M := tb_Main_pond) [42, 73, 99, 113, 127] 87 (113, [some (vR 0 0), some (vI y2), some (vI y3), some (vI y4), some (vI y5), some (vI y6), some (vI y7)], [vI y8, vI y9], s)).symm
set_option maxRecDepth 100000 in
set_option maxHeartbeats 400000 in
theorem Main_pond_J5_eq (d : Nat) (y2 : Int32) (y3 : Int32) (y4 : Int32) (y5 : Int32) (y6 : Int32) (y7 : Int32) (y8 : Int32) (y9 : Int32) (y10 : Int32) (s : xS) : Main_pond_J5 d y2 y3 y4 y5 y6 y7 y8 y9 y10 s =
    bI (ev d f_Main_isLost [vI y10, vI y9, vI y8] s) fun r3 s2 =>
    if (r3 : Int32) = 0 then
      Main_pond_L2 d y2 y3 y4 y5 y6 (y7 + 1) s2
    else
      bV (ev d f_Numbers_tellTwo [vR 10 0, vL ((y5 : Int32).toInt64), vL ((y7 : Int32).toInt64)] s2) fun s4 =>
      some (some (vI 1), s4) := (x_adv_out (K := x_K) (P := x_Pr) (d := d + 1) (M := tb_Main_pond) [42, 73, 99, 113, 127] 87 (127, [some (vR 0 0), some (vI y2), some (vI y3), some (vI y4), some (vI y5), some (vI y6), some (vI y7)], [vI y8, vI y9, vI y10], s)).symm
set_option maxRecDepth 100000 in
set_option maxHeartbeats 400000 in
theorem Main_pond_eq (d : Nat) (x1 : Int32) (x2 : Int32) (x3 : Int32) (s : xS) : ev (d + 1) f_Main_pond [vR 0 0, vI x1, vI x2, vI x3] s =
    if (x1 : Int32) < 0 then
      some (some (vI (-1)), s)
    else
      if (9 : Int32) < x1 then
        some (some (vI (-1)), s)
      else
        if (x2 : Int32) < 0 then
          some (some (vI (-1)), s)
        else
          if (9 : Int32) < x2 then
            some (some (vI (-1)), s)
          else
            if (x3 : Int32) < 0 then
              some (some (vI (-1)), s)
            else
              if (9 : Int32) < x3 then
                some (some (vI (-1)), s)
              else
                bV (ev d f_Numbers_clear [vR 10 0] s) fun s1 =>
                Main_pond_L1 d x1 x2 x3 0 s1 := (x_adv_out (K := x_K) (P := x_Pr) (d := d + 1) (M := tb_Main_pond) [42, 73, 99, 113, 127] 87 (x_st0 tb_Main_pond [vR 0 0, vI x1, vI x2, vI x3] s)).symm
set_option maxRecDepth 100000 in
set_option maxHeartbeats 400000 in
theorem Main_isLost_eq (d : Nat) (x1 : Int32) (x2 : Int32) (x3 : Int32) (s : xS) : ev (d + 1) f_Main_isLost [vI x1, vI x2, vI x3] s =
    if (((x1 ^^^ x2) ^^^ x3) &&& 3 : Int32) = 0 then
      some (some (vI (x_nb 1)), s)
    else
      some (some (vI (x_nb 0)), s) := (x_adv_out (K := x_K) (P := x_Pr) (d := d + 1) (M := tb_Main_isLost) [] 15 (x_st0 tb_Main_isLost [vI x1, vI x2, vI x3] s)).symm
set_option maxRecDepth 100000 in
set_option maxHeartbeats 400000 in
theorem Main_law_eq (d : Nat)  (s : xS) : ev (d + 1) f_Main_law [vR 0 0] s =
    bI (ev d f_Rule_reads [vR 5 1, vR 1 0] s) fun r2 s1 =>
    bI (ev d f_Text_close [vR 1 0] s1) fun r4 s3 =>
    if (r2 : Int32) = 0 then
      some (some (vI ((-10000) - r4)), s3)
    else
      if (s3.1 3 0 3 : Int32) = 0 then
        some (some (vI (-2)), s3)
      else
        bI (ev d f_Eye_countFromAll [vR 6 0, vR 5 1, vR 3 0, vI 0] s3) fun r6 s5 =>
        bI (ev d f_Eye_countFromAll [vR 6 0, vR 5 0, vR 3 0, vI 0] s5) fun r8 s7 =>
        bV (ev d f_Numbers_tellTwo [vR 10 0, vL ((r6 : Int32).toInt64), vL ((r8 : Int32).toInt64)] s7) fun s9 =>
        some (some (vI (r6 - r8)), s9) := (x_adv_out (K := x_K) (P := x_Pr) (d := d + 1) (M := tb_Main_law) [] 54 (x_st0 tb_Main_law [vR 0 0] s)).symm
noncomputable def Main_shoulders_L1 (d : Nat) (y2 : Int32) (y3 : Int32) (y4 : Int32) (s : xS) : Option xO := og (d + 1) tb_Main_shoulders (23, [some (vR 0 0), some (vI y2), some (vI y3), some (vI y4), none], [], s)
noncomputable def Main_shoulders_L2 (d : Nat) (y2 : Int32) (y3 : Int32) (y4 : Int32) (y5 : Int32) (s : xS) : Option xO := og (d + 1) tb_Main_shoulders (32, [some (vR 0 0), some (vI y2), some (vI y3), some (vI y4), some (vI y5)], [], s)
set_option maxRecDepth 100000 in
set_option maxHeartbeats 400000 in
theorem Main_shoulders_L1_eq (d : Nat) (y2 : Int32) (y3 : Int32) (y4 : Int32) (s : xS) : Main_shoulders_L1 d y2 y3 y4 s =
    if (9 : Int32) < y4 then
      some (some (vI y3), s)
    else
      Main_shoulders_L2 d y2 y3 y4 0 s := (x_adv_out (K := x_K) (P := x_Pr) (d := d + 1) (M := tb_Main_shoulders) [23, 32] 51 (23, [some (vR 0 0), some (vI y2), some (vI y3), some (vI y4), none], [], s)).symm
set_option maxRecDepth 100000 in
set_option maxHeartbeats 400000 in
theorem Main_shoulders_L2_eq (d : Nat) (y2 : Int32) (y3 : Int32) (y4 : Int32) (y5 : Int32) (s : xS) : Main_shoulders_L2 d y2 y3 y4 y5 s =
    if (9 : Int32) < y5 then
      Main_shoulders_L1 d y2 y3 (y4 + 1) s
    else
      bI (ev d f_Main_isBestTurn [vI y2, vI y4, vI y5] s) fun r3 s2 =>
      if (r3 : Int32) = 0 then
        Main_shoulders_L2 d y2 y3 y4 (y5 + 1) s2
      else
        bI (ev d f_Main_isBestTurn [vI y2, vI y5, vI y4] s2) fun r5 s4 =>
        if (r5 : Int32) = 0 then
          Main_shoulders_L2 d y2 y3 y4 (y5 + 1) s4
        else
          if (y3 : Int32) = 0 then
            bV (ev d f_Numbers_tellTwo [vR 10 0, vL ((y4 : Int32).toInt64), vL ((y5 : Int32).toInt64)] s4) fun s6 =>
            Main_shoulders_L2 d y2 (y3 + 1) y4 (y5 + 1) s6
          else
            Main_shoulders_L2 d y2 (y3 + 1) y4 (y5 + 1) s4 := (x_adv_out (K := x_K) (P := x_Pr) (d := d + 1) (M := tb_Main_shoulders) [23, 32] 51 (32, [some (vR 0 0), some (vI y2), some (vI y3), some (vI y4), some (vI y5)], [], s)).symm
set_option maxRecDepth 100000 in
set_option maxHeartbeats 400000 in
theorem Main_shoulders_eq (d : Nat) (x1 : Int32) (s : xS) : ev (d + 1) f_Main_shoulders [vR 0 0, vI x1] s =
    if (x1 : Int32) < 0 then
      some (some (vI (-1)), s)
    else
      if (20 : Int32) < x1 then
        some (some (vI (-1)), s)
      else
        bV (ev d f_Numbers_clear [vR 10 0] s) fun s1 =>
        Main_shoulders_L1 d x1 0 0 s1 := (x_adv_out (K := x_K) (P := x_Pr) (d := d + 1) (M := tb_Main_shoulders) [23, 32] 51 (x_st0 tb_Main_shoulders [vR 0 0, vI x1] s)).symm
noncomputable def Main_isBestTurn_L1 (d : Nat) (y1 : Int32) (y2 : Int32) (y3 : Int32) (y4 : Int32) (s : xS) : Option xO := og (d + 1) tb_Main_isBestTurn (2, [some (vI y1), some (vI y2), some (vI y3), some (vI y4)], [], s)
set_option maxRecDepth 100000 in
set_option maxHeartbeats 400000 in
theorem Main_isBestTurn_L1_eq (d : Nat) (y1 : Int32) (y2 : Int32) (y3 : Int32) (y4 : Int32) (s : xS) : Main_isBestTurn_L1 d y1 y2 y3 y4 s =
    if (9 : Int32) < y4 then
      some (some (vI (x_nb 1)), s)
    else
      bI (ev d f_Main_gain [vI y1, vI y4, vI y3] s) fun r2 s1 =>
      bI (ev d f_Main_gain [vI y1, vI y2, vI y3] s1) fun r4 s3 =>
      if (r4 : Int32) < r2 then
        some (some (vI (x_nb 0)), s3)
      else
        Main_isBestTurn_L1 d y1 y2 y3 (y4 + 1) s3 := (x_adv_out (K := x_K) (P := x_Pr) (d := d + 1) (M := tb_Main_isBestTurn) [2] 23 (2, [some (vI y1), some (vI y2), some (vI y3), some (vI y4)], [], s)).symm
set_option maxRecDepth 100000 in
set_option maxHeartbeats 400000 in
theorem Main_isBestTurn_eq (d : Nat) (x1 : Int32) (x2 : Int32) (x3 : Int32) (s : xS) : ev (d + 1) f_Main_isBestTurn [vI x1, vI x2, vI x3] s =
    Main_isBestTurn_L1 d x1 x2 x3 0 s := (x_adv_out (K := x_K) (P := x_Pr) (d := d + 1) (M := tb_Main_isBestTurn) [2] 23 (x_st0 tb_Main_isBestTurn [vI x1, vI x2, vI x3] s)).symm
noncomputable def Main_gain_J1 (d : Nat) (y1 : Int32) (y2 : Int32) (y3 : Int32) (s : xS) : Option xO := og (d + 1) tb_Main_gain (13, [none, some (vI y1), some (vI y2), none], [vI y3], s)
set_option maxRecDepth 100000 in
set_option maxHeartbeats 400000 in
theorem Main_gain_J1_eq (d : Nat) (y1 : Int32) (y2 : Int32) (y3 : Int32) (s : xS) : Main_gain_J1 d y1 y2 y3 s =
    bI (ev d f_Math_max [vI 0, vI (y2 - y1)] s) fun r2 s1 =>
    some (some (vI ((y3 - y1) + r2)), s1) := (x_adv_out (K := x_K) (P := x_Pr) (d := d + 1) (M := tb_Main_gain) [13] 22 (13, [none, some (vI y1), some (vI y2), none], [vI y3], s)).symm
set_option maxRecDepth 100000 in
set_option maxHeartbeats 400000 in
theorem Main_gain_eq (d : Nat) (x1 : Int32) (x2 : Int32) (x3 : Int32) (s : xS) : ev (d + 1) f_Main_gain [vI x1, vI x2, vI x3] s =
    if (x2 + x3 : Int32) < 9 then
      Main_gain_J1 d x2 x3 0 s
    else
      Main_gain_J1 d x2 x3 x1 s := (x_adv_out (K := x_K) (P := x_Pr) (d := d + 1) (M := tb_Main_gain) [13] 22 (x_st0 tb_Main_gain [vI x1, vI x2, vI x3] s)).symm
noncomputable def Main_years_L1 (d : Nat) (y2 : Int32) (y3 : Int32) (y4 : Int32) (s : xS) : Option xO := og (d + 1) tb_Main_years (37, [some (vR 0 0), none, some (vI y2), some (vI y3), some (vI y4)], [], s)
set_option maxRecDepth 100000 in
set_option maxHeartbeats 400000 in
theorem Main_years_L1_eq (d : Nat) (y2 : Int32) (y3 : Int32) (y4 : Int32) (s : xS) : Main_years_L1 d y2 y3 y4 s =
    if (y4 : Int32) < y2 then
      bI (ev d f_Deeds_drawnAct [vR 7 0, vR 3 1] s) fun r4 s3 =>
      Main_years_L1 d y2 (y3 + r4) (y4 + 1) s3
    else
      bI (ev d f_Outing_countLoose [vR 3 1] s) fun r6 s5 =>
      bI (ev d f_Outing_allViews [vR 3 1] s5) fun r8 s7 =>
      bV (ev d f_Numbers_tellTwo [vR 10 0, vL ((r6 : Int32).toInt64), vL ((r8 : Int32).toInt64)] s7) fun s9 =>
      some (some (vI y3), s9) := (x_adv_out (K := x_K) (P := x_Pr) (d := d + 1) (M := tb_Main_years) [37] 50 (37, [some (vR 0 0), none, some (vI y2), some (vI y3), some (vI y4)], [], s)).symm
set_option maxRecDepth 100000 in
set_option maxHeartbeats 400000 in
theorem Main_years_eq (d : Nat) (x1 : Int32) (x2 : Int32) (s : xS) : ev (d + 1) f_Main_years [vR 0 0, vI x1, vI x2] s =
    if (x2 : Int32) < 1 then
      some (some (vI (-1)), s)
    else
      if (60 : Int32) < x2 then
        some (some (vI (-1)), s)
      else
        bV (ev d f_Outing_take [vR 3 1, vR 3 0] s) fun s1 =>
        bV (ev d f_Deeds_seed [vR 7 0, vI x1] s1) fun s2 =>
        Main_years_L1 d x2 0 0 s2 := (x_adv_out (K := x_K) (P := x_Pr) (d := d + 1) (M := tb_Main_years) [37] 50 (x_st0 tb_Main_years [vR 0 0, vI x1, vI x2] s)).symm
set_option maxRecDepth 100000 in
set_option maxHeartbeats 400000 in
theorem Main_keep_eq (d : Nat) (x1 : Int32) (s : xS) : ev (d + 1) f_Main_keep [vR 0 0, vI x1] s =
    bI (ev d f_Memory_store [vR 4 0, vI x1, vR 3 0] s) fun r2 s1 =>
    some (some (vI (x_nb r2)), s1) := (x_adv_out (K := x_K) (P := x_Pr) (d := d + 1) (M := tb_Main_keep) [] 10 (x_st0 tb_Main_keep [vR 0 0, vI x1] s)).symm
set_option maxRecDepth 100000 in
set_option maxHeartbeats 400000 in
theorem Main_again_eq (d : Nat) (x1 : Int32) (s : xS) : ev (d + 1) f_Main_again [vR 0 0, vI x1] s =
    bI (ev d f_Memory_fetch [vR 4 0, vI x1, vR 3 0] s) fun r2 s1 =>
    some (some (vI (x_nb r2)), s1) := (x_adv_out (K := x_K) (P := x_Pr) (d := d + 1) (M := tb_Main_again) [] 10 (x_st0 tb_Main_again [vR 0 0, vI x1] s)).symm
set_option maxRecDepth 100000 in
set_option maxHeartbeats 400000 in
theorem Main_count_eq (d : Nat) (x1 : Int32) (s : xS) : ev (d + 1) f_Main_count [vR 0 0, vI x1] s =
    if (x1 : Int32) = 0 then
      some (some (vI (s.1 2 0 2)), s)
    else if (x1 : Int32) = 1 then
      some (some (vI (s.1 2 0 3)), s)
    else if (x1 : Int32) = 2 then
      some (some (vI (s.1 3 0 3)), s)
    else if (x1 : Int32) = 3 then
      bI (ev d f_Garden_countOpen [vR 2 0] s) fun r2 s1 =>
      some (some (vI r2), s1)
    else if (x1 : Int32) = 4 then
      bI (ev d f_Garden_sights [vR 2 0] s) fun r4 s3 =>
      some (some (vI r4), s3)
    else if (x1 : Int32) = 5 then
      some (some (vI (s.1 3 0 5)), s)
    else if (x1 : Int32) = 6 then
      some (some (vI (s.1 3 0 4)), s)
    else if (x1 : Int32) = 7 then
      bI (ev d f_Outing_countViews [vR 3 0] s) fun r6 s5 =>
      some (some (vI r6), s5)
    else if (x1 : Int32) = 8 then
      some (some (vI (s.1 11 0 1)), s)
    else if (x1 : Int32) = 9 then
      some (some (vI (s.1 12 0 1)), s)
    else if (x1 : Int32) = 10 then
      some (some (vI (s.1 4 0 4)), s)
    else if (x1 : Int32) = 11 then
      some (some (vI (s.1 10 0 1)), s)
    else if (x1 : Int32) = 12 then
      some (some (vI (s.1 1 0 1)), s)
    else some (some (vI (-100)), s) := (x_adv_out (K := x_K) (P := x_Pr) (d := d + 1) (M := tb_Main_count) [] 59 (x_st0 tb_Main_count [vR 0 0, vI x1] s)).symm
set_option maxRecDepth 100000 in
set_option maxHeartbeats 400000 in
theorem Main_row_eq (d : Nat) (x1 : Int32) (s : xS) : ev (d + 1) f_Main_row [vR 0 0, vI x1] s =
    bI (ev d f_Numbers_has [vR 10 0, vI x1] s) fun r2 s1 =>
    if (r2 : Int32) = 0 then
      none
    else
      bL (ev d f_Numbers_get [vR 10 0, vI x1] s1) fun r4 s3 =>
      some (some (vL r4), s3) := (x_adv_out (K := x_K) (P := x_Pr) (d := d + 1) (M := tb_Main_row) [] 18 (x_st0 tb_Main_row [vR 0 0, vI x1] s)).symm
set_option maxRecDepth 100000 in
set_option maxHeartbeats 400000 in
theorem Main_isWay_eq (d : Nat) (x1 : Int32) (s : xS) : ev (d + 1) f_Main_isWay [vI x1] s =
    if (x1 : Int32) < 0 then
      some (some (vI (x_nb 0)), s)
    else
      if (x1 : Int32) < 4 then
        some (some (vI (x_nb 1)), s)
      else
        some (some (vI (x_nb 0)), s) := (x_adv_out (K := x_K) (P := x_Pr) (d := d + 1) (M := tb_Main_isWay) [] 12 (x_st0 tb_Main_isWay [vI x1] s)).symm

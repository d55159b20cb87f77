/-! Printed by gen.py: what methods come to. -/
set_option maxRecDepth 100000 in
set_option maxHeartbeats 400000 in
theorem Rule_setUsual_eq (d : Nat) (i : Nat) (s : xS) : ev (d + 1) f_Rule_setUsual [vR 5 i] s =
    if x_in 0 40 then
    if x_in 1 40 then
    if x_in 2 40 then
    some (none, wI (wI (wI (wI s 24 i (0 : Int32).toNatClampNeg 4) 24 i (1 : Int32).toNatClampNeg 1000) 24 i (2 : Int32).toNatClampNeg 2045) 5 i 2 3)
    else none
    else none
    else none := (x_adv_out (K := x_K) (P := x_Pr) (d := d + 1) (M := tb_Rule_setUsual) [] 22 (x_st0 tb_Rule_setUsual [vR 5 i] s)).symm
set_option maxRecDepth 100000 in
set_option maxHeartbeats 400000 in
theorem Rule_take_eq (d : Nat) (i : Nat) (j1 : Nat) (s : xS) : ev (d + 1) f_Rule_take [vR 5 i, vR 5 j1] s =
    bV (ev d 1002 [vR 24 j1, vI 0, vR 24 i, vI 0, vI 40] (wI s 5 i 2 (s.1 5 j1 2))) fun s1 =>
    some (none, s1) := (x_adv_out (K := x_K) (P := x_Pr) (d := d + 1) (M := tb_Rule_take) [] 16 (x_st0 tb_Rule_take [vR 5 i, vR 5 j1] s)).symm
noncomputable def Rule_reads_L1 (d : Nat) (k1 : Nat) (y3 : Int32) (s : xS) : Option xO := og (d + 1) tb_Rule_reads (46, [some (vR 5 k1), some (vR 1 0), some (vI y3)], [], s)
noncomputable def Rule_reads_J2 (d : Nat) (k1 : Nat) (s : xS) : Option xO := og (d + 1) tb_Rule_reads (94, [some (vR 5 k1), some (vR 1 0), none], [], s)
set_option maxRecDepth 100000 in
set_option maxHeartbeats 400000 in
theorem Rule_reads_L1_eq (d : Nat) (k1 : Nat) (y3 : Int32) (s : xS) : Rule_reads_L1 d k1 y3 s =
    if (y3 : Int32) < 40 then
      bI (ev d f_Text_here [vR 1 0] s) fun r6 s5 =>
      if (r6 : Int32) = (-1) then
        Rule_reads_J2 d k1 s5
      else
        if (s5.1 5 k1 6 : Int32) = 0 then
          bI (ev d f_Rule_readsSign [vR 5 k1, vR 1 0] s5) fun r8 s7 =>
          if (r8 : Int32) = 0 then
            some (some (vI (x_nb 0)), s7)
          else
            Rule_reads_L1 d k1 (y3 + 1) s7
        else
          bI (ev d f_Rule_readsThing [vR 5 k1, vR 1 0] s5) fun r10 s9 =>
          if (r10 : Int32) = 0 then
            some (some (vI (x_nb 0)), s9)
          else
            Rule_reads_L1 d k1 (y3 + 1) s9
    else
      Rule_reads_J2 d k1 s := (x_adv_out (K := x_K) (P := x_Pr) (d := d + 1) (M := tb_Rule_reads) [46, 94] 69 (46, [some (vR 5 k1), some (vR 1 0), some (vI y3)], [], s)).symm
set_option maxRecDepth 100000 in
set_option maxHeartbeats 400000 in
theorem Rule_reads_J2_eq (d : Nat) (k1 : Nat) (s : xS) : Rule_reads_J2 d k1 s =
    bV (ev d f_Rule_settle [vR 5 k1, vI 1] s) fun s11 =>
    if (s11.1 5 k1 6 : Int32) = 0 then
      if (s11.1 5 k1 4 : Int32) = 0 then
        bI (ev d f_Text_isRead [vR 1 0] s11) fun r13 s12 =>
        if (r13 : Int32) = 0 then
          some (some (vI (x_nb 0)), s12)
        else
          some (some (vI (x_nb 1)), s12)
      else
        some (some (vI (x_nb 0)), s11)
    else
      some (some (vI (x_nb 0)), s11) := (x_adv_out (K := x_K) (P := x_Pr) (d := d + 1) (M := tb_Rule_reads) [46, 94] 69 (94, [some (vR 5 k1), some (vR 1 0), none], [], s)).symm
set_option maxRecDepth 100000 in
set_option maxHeartbeats 400000 in
theorem Rule_reads_eq (d : Nat) (i : Nat) (s : xS) : ev (d + 1) f_Rule_reads [vR 5 i, vR 1 0] s =
    bV (ev d f_Text_open [vR 1 0, vI 40] s) fun s1 =>
    bI (ev d f_Text_isRead [vR 1 0] s1) fun r3 s2 =>
    if (r3 : Int32) = 0 then
      Rule_reads_L1 d i 0 (wI (wI (wI (wI (wI s2 5 i 2 0) 5 i 3 0) 5 i 4 0) 5 i 5 0) 5 i 6 1)
    else
      bV (ev d f_Rule_setUsual [vR 5 i] s2) fun s4 =>
      some (some (vI (x_nb 1)), s4) := (x_adv_out (K := x_K) (P := x_Pr) (d := d + 1) (M := tb_Rule_reads) [46, 94] 69 (x_st0 tb_Rule_reads [vR 5 i, vR 1 0] s)).symm
set_option maxRecDepth 100000 in
set_option maxHeartbeats 400000 in
theorem Rule_readsThing_eq (d : Nat) (i : Nat) (s : xS) : ev (d + 1) f_Rule_readsThing [vR 5 i, vR 1 0] s =
    bI (ev d f_Text_here [vR 1 0] s) fun r2 s1 =>
    if (r2 : Int32) = 45 then
      bV (ev d f_Rule_hold [vR 5 i, vI 256] s1) fun s3 =>
      bV (ev d f_Text_step [vR 1 0] s3) fun s4 =>
      some (some (vI (x_nb 1)), s4)
    else
      if (r2 : Int32) = 40 then
        bI (ev d f_Rule_opensBracket [vR 5 i, vR 1 0] s1) fun r6 s5 =>
        some (some (vI (x_nb r6)), s5)
      else
        bI (ev d f_Text_digitHere [vR 1 0, vI 0, vI 9] s1) fun r8 s7 =>
        if (r8 : Int32) = (-1) then
          bI (ev d f_Rule_thingBySign [vI r2] s7) fun r10 s9 =>
          if (r10 : Int32) = (-1) then
            some (some (vI (x_nb 0)), s9)
          else
            bV (ev d f_Rule_add [vR 5 i, vI (1000 + r10)] s9) fun s11 =>
            bV (ev d f_Text_step [vR 1 0] (wI s11 5 i 6 0)) fun s12 =>
            some (some (vI (x_nb 1)), s12)
        else
          bV (ev d f_Rule_readNumber [vR 5 i, vR 1 0] s7) fun s13 =>
          some (some (vI (x_nb 1)), s13) := (x_adv_out (K := x_K) (P := x_Pr) (d := d + 1) (M := tb_Rule_readsThing) [] 54 (x_st0 tb_Rule_readsThing [vR 5 i, vR 1 0] s)).symm
set_option maxRecDepth 100000 in
set_option maxHeartbeats 400000 in
theorem Rule_opensBracket_eq (d : Nat) (i : Nat) (s : xS) : ev (d + 1) f_Rule_opensBracket [vR 5 i, vR 1 0] s =
    if (s.1 5 i 4 : Int32) < 4 then
      bV (ev d f_Rule_hold [vR 5 i, vI 40] (wI (wI s 5 i 4 ((s.1 5 i 4) + 1)) 5 i 5 ((s.1 5 i 5) &&& ((jshl 1 ((wI s 5 i 4 ((s.1 5 i 4) + 1)).1 5 i 4)) ^^^ (-1))))) fun s1 =>
      bV (ev d f_Text_step [vR 1 0] s1) fun s2 =>
      some (some (vI (x_nb 1)), s2)
    else
      some (some (vI (x_nb 0)), s) := (x_adv_out (K := x_K) (P := x_Pr) (d := d + 1) (M := tb_Rule_opensBracket) [] 33 (x_st0 tb_Rule_opensBracket [vR 5 i, vR 1 0] s)).symm
noncomputable def Rule_readNumber_L1 (d : Nat) (k1 : Nat) (y3 : Int32) (y4 : Int32) (s : xS) : Option xO := og (d + 1) tb_Rule_readNumber (4, [some (vR 5 k1), some (vR 1 0), some (vI y3), some (vI y4)], [], s)
noncomputable def Rule_readNumber_J2 (d : Nat) (k1 : Nat) (y2 : Int32) (s : xS) : Option xO := og (d + 1) tb_Rule_readNumber (39, [some (vR 5 k1), none, some (vI y2), none], [], s)
set_option maxRecDepth 100000 in
set_option maxHeartbeats 400000 in
theorem Rule_readNumber_L1_eq (d : Nat) (k1 : Nat) (y3 : Int32) (y4 : Int32) (s : xS) : Rule_readNumber_L1 d k1 y3 y4 s =
    if (y4 : Int32) < 3 then
      bI (ev d f_Text_digitHere [vR 1 0, vI 0, vI 9] s) fun r2 s1 =>
      if (r2 : Int32) = (-1) then
        Rule_readNumber_J2 d k1 y3 s1
      else
        bI (ev d f_Text_takeDigit [vR 1 0, vI 0, vI 9] s1) fun r4 s3 =>
        Rule_readNumber_L1 d k1 ((10 * y3) + r4) (y4 + 1) s3
    else
      Rule_readNumber_J2 d k1 y3 s := (x_adv_out (K := x_K) (P := x_Pr) (d := d + 1) (M := tb_Rule_readNumber) [4, 39] 34 (4, [some (vR 5 k1), some (vR 1 0), some (vI y3), some (vI y4)], [], s)).symm
set_option maxRecDepth 100000 in
set_option maxHeartbeats 400000 in
theorem Rule_readNumber_J2_eq (d : Nat) (k1 : Nat) (y2 : Int32) (s : xS) : Rule_readNumber_J2 d k1 y2 s =
    bV (ev d f_Rule_add [vR 5 k1, vI y2] s) fun s5 =>
    some (none, wI s5 5 k1 6 0) := (x_adv_out (K := x_K) (P := x_Pr) (d := d + 1) (M := tb_Rule_readNumber) [4, 39] 34 (39, [some (vR 5 k1), none, some (vI y2), none], [], s)).symm
set_option maxRecDepth 100000 in
set_option maxHeartbeats 400000 in
theorem Rule_readNumber_eq (d : Nat) (i : Nat) (s : xS) : ev (d + 1) f_Rule_readNumber [vR 5 i, vR 1 0] s =
    Rule_readNumber_L1 d i 0 0 s := (x_adv_out (K := x_K) (P := x_Pr) (d := d + 1) (M := tb_Rule_readNumber) [4, 39] 34 (x_st0 tb_Rule_readNumber [vR 5 i, vR 1 0] s)).symm
noncomputable def Rule_readsSign_J1 (d : Nat) (k1 : Nat) (y3 : Int32) (y4 : Int32) (s : xS) : Option xO := og (d + 1) tb_Rule_readsSign (48, [some (vR 5 k1), some (vR 1 0), some (vI y3), some (vI y4)], [], s)
noncomputable def Rule_readsSign_J2 (d : Nat) (k1 : Nat) (y3 : Int32) (y4 : Int32) (s : xS) : Option xO := og (d + 1) tb_Rule_readsSign (68, [some (vR 5 k1), some (vR 1 0), some (vI y3), some (vI y4)], [], s)
set_option maxRecDepth 100000 in
set_option maxHeartbeats 400000 in
theorem Rule_readsSign_J1_eq (d : Nat) (k1 : Nat) (y3 : Int32) (y4 : Int32) (s : xS) : Rule_readsSign_J1 d k1 y3 y4 s =
    if (y4 : Int32) = 1 then
      Rule_readsSign_J2 d k1 y3 y4 (wI s 5 k1 5 ((s.1 5 k1 5) ||| (jshl 1 (s.1 5 k1 4))))
    else
      Rule_readsSign_J2 d k1 y3 y4 s := (x_adv_out (K := x_K) (P := x_Pr) (d := d + 1) (M := tb_Rule_readsSign) [48, 68] 57 (48, [some (vR 5 k1), some (vR 1 0), some (vI y3), some (vI y4)], [], s)).symm
set_option maxRecDepth 100000 in
set_option maxHeartbeats 400000 in
theorem Rule_readsSign_J2_eq (d : Nat) (k1 : Nat) (y3 : Int32) (y4 : Int32) (s : xS) : Rule_readsSign_J2 d k1 y3 y4 s =
    bV (ev d f_Rule_settle [vR 5 k1, vI y4] s) fun s7 =>
    bV (ev d f_Rule_hold [vR 5 k1, vI y3] s7) fun s8 =>
    bV (ev d f_Text_step [vR 1 0] (wI s8 5 k1 6 1)) fun s9 =>
    some (some (vI (x_nb 1)), s9) := (x_adv_out (K := x_K) (P := x_Pr) (d := d + 1) (M := tb_Rule_readsSign) [48, 68] 57 (68, [some (vR 5 k1), some (vR 1 0), some (vI y3), some (vI y4)], [], s)).symm
set_option maxRecDepth 100000 in
set_option maxHeartbeats 400000 in
theorem Rule_readsSign_eq (d : Nat) (i : Nat) (s : xS) : ev (d + 1) f_Rule_readsSign [vR 5 i, vR 1 0] s =
    bI (ev d f_Text_here [vR 1 0] s) fun r2 s1 =>
    if (r2 : Int32) = 41 then
      bI (ev d f_Rule_closesBracket [vR 5 i, vR 1 0] s1) fun r4 s3 =>
      some (some (vI (x_nb r4)), s3)
    else
      bI (ev d f_Rule_strengthOf [vI r2] s1) fun r6 s5 =>
      if (r6 : Int32) = 0 then
        some (some (vI (x_nb 0)), s5)
      else
        if (r6 : Int32) = 1 then
          if ((jshr (s5.1 5 i 5) (s5.1 5 i 4)) &&& 1 : Int32) = 1 then
            some (some (vI (x_nb 0)), s5)
          else
            Rule_readsSign_J1 d i r2 r6 s5
        else
          Rule_readsSign_J1 d i r2 r6 s5 := (x_adv_out (K := x_K) (P := x_Pr) (d := d + 1) (M := tb_Rule_readsSign) [48, 68] 57 (x_st0 tb_Rule_readsSign [vR 5 i, vR 1 0] s)).symm
set_option maxRecDepth 100000 in
set_option maxHeartbeats 400000 in
theorem Rule_closesBracket_eq (d : Nat) (i : Nat) (s : xS) : ev (d + 1) f_Rule_closesBracket [vR 5 i, vR 1 0] s =
    if (s.1 5 i 4 : Int32) = 0 then
      some (some (vI (x_nb 0)), s)
    else
      bV (ev d f_Rule_settle [vR 5 i, vI 1] s) fun s1 =>
      bI (ev d f_Math_max [vI 0, vI ((s1.1 5 i 3) - 1)] s1) fun r3 s2 =>
      bV (ev d f_Text_step [vR 1 0] (wI (wI s2 5 i 3 r3) 5 i 4 ((s2.1 5 i 4) - 1))) fun s4 =>
      some (some (vI (x_nb 1)), s4) := (x_adv_out (K := x_K) (P := x_Pr) (d := d + 1) (M := tb_Rule_closesBracket) [] 29 (x_st0 tb_Rule_closesBracket [vR 5 i, vR 1 0] s)).symm
set_option maxRecDepth 100000 in
set_option maxHeartbeats 400000 in
theorem Rule_strengthOf_eq (d : Nat) (x1 : Int32) (s : xS) : ev (d + 1) f_Rule_strengthOf [vI x1] s =
    if (x1 : Int32) = 42 then
      some (some (vI 3), s)
    else if (x1 : Int32) = 43 then
      some (some (vI 2), s)
    else if (x1 : Int32) = 45 then
      some (some (vI 2), s)
    else if (x1 : Int32) = 47 then
      some (some (vI 3), s)
    else if (x1 : Int32) = 60 then
      some (some (vI 1), s)
    else if (x1 : Int32) = 61 then
      some (some (vI 1), s)
    else if (x1 : Int32) = 62 then
      some (some (vI 1), s)
    else if (x1 : Int32) = 256 then
      some (some (vI 4), s)
    else some (some (vI 0), s) := (x_adv_out (K := x_K) (P := x_Pr) (d := d + 1) (M := tb_Rule_strengthOf) [] 15 (x_st0 tb_Rule_strengthOf [vI x1] s)).symm
set_option maxRecDepth 100000 in
set_option maxHeartbeats 400000 in
theorem Rule_thingBySign_eq (d : Nat) (x1 : Int32) (s : xS) : ev (d + 1) f_Rule_thingBySign [vI x1] s =
    if (x1 : Int32) = 100 then
      some (some (vI 0), s)
    else if (x1 : Int32) = 101 then
      some (some (vI (-1)), s)
    else if (x1 : Int32) = 102 then
      some (some (vI (-1)), s)
    else if (x1 : Int32) = 103 then
      some (some (vI (-1)), s)
    else if (x1 : Int32) = 104 then
      some (some (vI 3), s)
    else if (x1 : Int32) = 105 then
      some (some (vI 5), s)
    else if (x1 : Int32) = 106 then
      some (some (vI (-1)), s)
    else if (x1 : Int32) = 107 then
      some (some (vI 4), s)
    else if (x1 : Int32) = 108 then
      some (some (vI (-1)), s)
    else if (x1 : Int32) = 109 then
      some (some (vI (-1)), s)
    else if (x1 : Int32) = 110 then
      some (some (vI 6), s)
    else if (x1 : Int32) = 111 then
      some (some (vI (-1)), s)
    else if (x1 : Int32) = 112 then
      some (some (vI (-1)), s)
    else if (x1 : Int32) = 113 then
      some (some (vI (-1)), s)
    else if (x1 : Int32) = 114 then
      some (some (vI (-1)), s)
    else if (x1 : Int32) = 115 then
      some (some (vI 1), s)
    else if (x1 : Int32) = 116 then
      some (some (vI (-1)), s)
    else if (x1 : Int32) = 117 then
      some (some (vI (-1)), s)
    else if (x1 : Int32) = 118 then
      some (some (vI 2), s)
    else some (some (vI (-1)), s) := (x_adv_out (K := x_K) (P := x_Pr) (d := d + 1) (M := tb_Rule_thingBySign) [] 21 (x_st0 tb_Rule_thingBySign [vI x1] s)).symm
noncomputable def Rule_settle_L1 (d : Nat) (k1 : Nat) (y2 : Int32) (s : xS) : Option xO := og (d + 1) tb_Rule_settle (0, [some (vR 5 k1), some (vI y2)], [], s)
set_option maxRecDepth 100000 in
set_option maxHeartbeats 400000 in
theorem Rule_settle_L1_eq (d : Nat) (k1 : Nat) (y2 : Int32) (s : xS) : Rule_settle_L1 d k1 y2 s =
    if (0 : Int32) < s.1 5 k1 3 then
      if x_in ((s.1 5 k1 3) - 1) 40 then
      bI (ev d f_Rule_strengthOf [vI (s.1 25 k1 ((s.1 5 k1 3) - 1 : Int32).toNatClampNeg)] s) fun r2 s1 =>
      if (r2 : Int32) < y2 then
        some (none, s1)
      else
        if x_in ((s1.1 5 k1 3) - 1) 40 then
        bV (ev d f_Rule_add [vR 5 k1, vI (2000 + (s1.1 25 k1 ((s1.1 5 k1 3) - 1 : Int32).toNatClampNeg))] s1) fun s3 =>
        Rule_settle_L1 d k1 y2 (wI s3 5 k1 3 ((s3.1 5 k1 3) - 1))
        else none
      else none
    else
      some (none, s) := (x_adv_out (K := x_K) (P := x_Pr) (d := d + 1) (M := tb_Rule_settle) [0] 35 (0, [some (vR 5 k1), some (vI y2)], [], s)).symm
set_option maxRecDepth 100000 in
set_option maxHeartbeats 400000 in
theorem Rule_settle_eq (d : Nat) (i : Nat) (x1 : Int32) (s : xS) : ev (d + 1) f_Rule_settle [vR 5 i, vI x1] s =
    Rule_settle_L1 d i x1 s := (x_adv_out (K := x_K) (P := x_Pr) (d := d + 1) (M := tb_Rule_settle) [0] 0 (x_st0 tb_Rule_settle [vR 5 i, vI x1] s)).symm
set_option maxRecDepth 100000 in
set_option maxHeartbeats 400000 in
theorem Rule_hold_eq (d : Nat) (i : Nat) (x1 : Int32) (s : xS) : ev (d + 1) f_Rule_hold [vR 5 i, vI x1] s =
    if (s.1 5 i 3 : Int32) < 40 then
      if x_in (s.1 5 i 3) 40 then
      some (none, wI (wI s 25 i (s.1 5 i 3 : Int32).toNatClampNeg x1) 5 i 3 ((s.1 5 i 3) + 1))
      else none
    else
      some (none, s) := (x_adv_out (K := x_K) (P := x_Pr) (d := d + 1) (M := tb_Rule_hold) [] 20 (x_st0 tb_Rule_hold [vR 5 i, vI x1] s)).symm
set_option maxRecDepth 100000 in
set_option maxHeartbeats 400000 in
theorem Rule_add_eq (d : Nat) (i : Nat) (x1 : Int32) (s : xS) : ev (d + 1) f_Rule_add [vR 5 i, vI x1] s =
    if (s.1 5 i 2 : Int32) < 40 then
      if x_in (s.1 5 i 2) 40 then
      some (none, wI (wI s 24 i (s.1 5 i 2 : Int32).toNatClampNeg x1) 5 i 2 ((s.1 5 i 2) + 1))
      else none
    else
      some (none, s) := (x_adv_out (K := x_K) (P := x_Pr) (d := d + 1) (M := tb_Rule_add) [] 20 (x_st0 tb_Rule_add [vR 5 i, vI x1] s)).symm
noncomputable def Rule_reckon_L1 (d : Nat) (k1 : Nat) (y3 : Int32) (s : xS) : Option xO := og (d + 1) tb_Rule_reckon (7, [some (vR 5 k1), some (vR 26 0), some (vI y3), none, none], [], s)
set_option maxRecDepth 100000 in
set_option maxHeartbeats 400000 in
theorem Rule_reckon_L1_eq (d : Nat) (k1 : Nat) (y3 : Int32) (s : xS) : Rule_reckon_L1 d k1 y3 s =
    if (y3 : Int32) < s.1 5 k1 2 then
      if x_in y3 40 then
      if (s.1 24 k1 (y3 : Int32).toNatClampNeg : Int32) < 1000 then
        bV (ev d f_Rule_hold [vR 5 k1, vI (s.1 24 k1 (y3 : Int32).toNatClampNeg)] s) fun s1 =>
        Rule_reckon_L1 d k1 (y3 + 1) s1
      else
        if (s.1 24 k1 (y3 : Int32).toNatClampNeg : Int32) < 2000 then
          if ((s.1 24 k1 (y3 : Int32).toNatClampNeg) - 1000 : Int32) < Int32.ofNat 7 then
            if x_in ((s.1 24 k1 (y3 : Int32).toNatClampNeg) - 1000) 7 then
            bV (ev d f_Rule_hold [vR 5 k1, vI (s.1 26 0 ((s.1 24 k1 (y3 : Int32).toNatClampNeg) - 1000 : Int32).toNatClampNeg)] s) fun s2 =>
            Rule_reckon_L1 d k1 (y3 + 1) s2
            else none
          else
            bV (ev d f_Rule_hold [vR 5 k1, vI 0] s) fun s3 =>
            Rule_reckon_L1 d k1 (y3 + 1) s3
        else
          if (s.1 24 k1 (y3 : Int32).toNatClampNeg : Int32) = 2256 then
            bI (ev d f_Rule_release [vR 5 k1] s) fun r5 s4 =>
            bV (ev d f_Rule_hold [vR 5 k1, vI (-r5)] s4) fun s6 =>
            Rule_reckon_L1 d k1 (y3 + 1) s6
          else
            bI (ev d f_Rule_release [vR 5 k1] s) fun r8 s7 =>
            bI (ev d f_Rule_release [vR 5 k1] s7) fun r10 s9 =>
            bI (ev d f_Rule_join [vI ((s.1 24 k1 (y3 : Int32).toNatClampNeg) - 2000), vI r10, vI r8] s9) fun r12 s11 =>
            bV (ev d f_Rule_hold [vR 5 k1, vI r12] s11) fun s13 =>
            Rule_reckon_L1 d k1 (y3 + 1) s13
      else none
    else
      bI (ev d f_Rule_release [vR 5 k1] s) fun r15 s14 =>
      some (some (vI r15), s14) := (x_adv_out (K := x_K) (P := x_Pr) (d := d + 1) (M := tb_Rule_reckon) [7] 69 (7, [some (vR 5 k1), some (vR 26 0), some (vI y3), none, none], [], s)).symm
set_option maxRecDepth 100000 in
set_option maxHeartbeats 400000 in
theorem Rule_reckon_eq (d : Nat) (i : Nat) (s : xS) : ev (d + 1) f_Rule_reckon [vR 5 i, vR 26 0] s =
    Rule_reckon_L1 d i 0 (wI s 5 i 3 0) := (x_adv_out (K := x_K) (P := x_Pr) (d := d + 1) (M := tb_Rule_reckon) [7] 69 (x_st0 tb_Rule_reckon [vR 5 i, vR 26 0] s)).symm
set_option maxRecDepth 100000 in
set_option maxHeartbeats 400000 in
theorem Rule_release_eq (d : Nat) (i : Nat) (s : xS) : ev (d + 1) f_Rule_release [vR 5 i] s =
    if (s.1 5 i 3 : Int32) = 0 then
      some (some (vI 0), s)
    else
      if x_in ((wI s 5 i 3 ((s.1 5 i 3) - 1)).1 5 i 3) 40 then
      some (some (vI (s.1 25 i ((wI s 5 i 3 ((s.1 5 i 3) - 1)).1 5 i 3 : Int32).toNatClampNeg)), wI s 5 i 3 ((s.1 5 i 3) - 1))
      else none := (x_adv_out (K := x_K) (P := x_Pr) (d := d + 1) (M := tb_Rule_release) [] 20 (x_st0 tb_Rule_release [vR 5 i] s)).symm
set_option maxRecDepth 100000 in
set_option maxHeartbeats 400000 in
theorem Rule_join_eq (d : Nat) (x1 : Int32) (x2 : Int32) (x3 : Int32) (s : xS) : ev (d + 1) f_Rule_join [vI x1, vI x2, vI x3] s =
    if (x1 : Int32) = 42 then
      some (some (vI (x2 * x3)), s)
    else if (x1 : Int32) = 43 then
      some (some (vI (x2 + x3)), s)
    else if (x1 : Int32) = 45 then
      some (some (vI (x2 - x3)), s)
    else if (x1 : Int32) = 60 then
      if (x2 : Int32) < x3 then
        some (some (vI 1), s)
      else
        some (some (vI 0), s)
    else if (x1 : Int32) = 61 then
      if (x2 : Int32) = x3 then
        some (some (vI 1), s)
      else
        some (some (vI 0), s)
    else if (x1 : Int32) = 62 then
      if (x3 : Int32) < x2 then
        some (some (vI 1), s)
      else
        some (some (vI 0), s)
    else if (x3 : Int32) = 0 then
        some (some (vI 0), s)
      else
        if (x3 : Int32) = 0 then none else
        some (some (vI (x2 / x3)), s) := (x_adv_out (K := x_K) (P := x_Pr) (d := d + 1) (M := tb_Rule_join) [] 46 (x_st0 tb_Rule_join [vI x1, vI x2, vI x3] s)).symm

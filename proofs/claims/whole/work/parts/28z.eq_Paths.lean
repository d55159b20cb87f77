/-! Printed by gen.py: what methods come to. -/
noncomputable def Paths_spread_L1 (d : Nat) (y2 : Int32) (y3 : Int32) (y4 : Int32) (s : xS) : Option xO := og (d + 1) tb_Paths_spread (45, [some (vR 8 0), none, some (vI y2), some (vI y3), some (vI y4), none, none], [], s)
noncomputable def Paths_spread_L2 (d : Nat) (y2 : Int32) (y3 : Int32) (y4 : Int32) (y5 : Int32) (s : xS) : Option xO := og (d + 1) tb_Paths_spread (61, [some (vR 8 0), none, some (vI y2), some (vI y3), some (vI y4), some (vI y5), none], [], s)
set_option maxRecDepth 100000 in
set_option maxHeartbeats 400000 in
theorem Paths_spread_L1_eq (d : Nat) (y2 : Int32) (y3 : Int32) (y4 : Int32) (s : xS) : Paths_spread_L1 d y2 y3 y4 s =
    if (y4 : Int32) < y3 then
      if (y4 : Int32) < 36 then
        Paths_spread_L2 d y2 y3 y4 0 s
      else
        some (some (vI y3), s)
    else
      some (some (vI y3), s) := (x_adv_out (K := x_K) (P := x_Pr) (d := d + 1) (M := tb_Paths_spread) [45, 61] 91 (45, [some (vR 8 0), none, some (vI y2), some (vI y3), some (vI y4), none, none], [], s)).symm
set_option maxRecDepth 100000 in
set_option maxHeartbeats 400000 in
theorem Paths_spread_L2_eq (d : Nat) (y2 : Int32) (y3 : Int32) (y4 : Int32) (y5 : Int32) (s : xS) : Paths_spread_L2 d y2 y3 y4 y5 s =
    if (y5 : Int32) < 4 then
      if x_in y4 36 then
      bI (ev d f_Garden_next [vR 2 0, vI (s.1 31 0 (y4 : Int32).toNatClampNeg), vI y5] s) fun r5 s4 =>
      if (r5 : Int32) = (-1) then
        Paths_spread_L2 d y2 y3 y4 (y5 + 1) s4
      else
        if (r5 : Int32) = y2 then
          Paths_spread_L2 d y2 y3 y4 (y5 + 1) s4
        else
          if x_in r5 36 then
          if (s4.1 30 0 (r5 : Int32).toNatClampNeg : Int32) = (-1) then
            if (y3 : Int32) < 36 then
              if x_in y4 36 then
              if x_in (s4.1 31 0 (y4 : Int32).toNatClampNeg) 36 then
              if x_in r5 36 then
              if x_in y3 36 then
              Paths_spread_L2 d y2 (y3 + 1) y4 (y5 + 1) (wI (wI s4 30 0 (r5 : Int32).toNatClampNeg ((s4.1 30 0 (s4.1 31 0 (y4 : Int32).toNatClampNeg : Int32).toNatClampNeg) + 1)) 31 0 (y3 : Int32).toNatClampNeg r5)
              else none
              else none
              else none
              else none
            else
              Paths_spread_L2 d y2 y3 y4 (y5 + 1) s4
          else
            Paths_spread_L2 d y2 y3 y4 (y5 + 1) s4
          else none
      else none
    else
      Paths_spread_L1 d y2 y3 (y4 + 1) s := (x_adv_out (K := x_K) (P := x_Pr) (d := d + 1) (M := tb_Paths_spread) [45, 61] 91 (61, [some (vR 8 0), none, some (vI y2), some (vI y3), some (vI y4), some (vI y5), none], [], s)).symm
set_option maxRecDepth 100000 in
set_option maxHeartbeats 400000 in
theorem Paths_spread_eq (d : Nat) (x1 : Int32) (x2 : Int32) (s : xS) : ev (d + 1) f_Paths_spread [vR 8 0, vI x1, vI x2] s =
    bV (ev d f_Arrays_fill [vR 30 0, vI (-1)] s) fun s1 =>
    bI (ev d f_Garden_isWall [vR 2 0, vI x1] s1) fun r3 s2 =>
    if (r3 : Int32) = 0 then
      if (x1 : Int32) = x2 then
        some (some (vI 0), s2)
      else
        if x_in x1 36 then
        if x_in 0 36 then
        Paths_spread_L1 d x2 1 0 (wI (wI s2 30 0 (x1 : Int32).toNatClampNeg 0) 31 0 (0 : Int32).toNatClampNeg x1)
        else none
        else none
    else
      some (some (vI 0), s2) := (x_adv_out (K := x_K) (P := x_Pr) (d := d + 1) (M := tb_Paths_spread) [45, 61] 91 (x_st0 tb_Paths_spread [vR 8 0, vI x1, vI x2] s)).symm
set_option maxRecDepth 100000 in
set_option maxHeartbeats 400000 in
theorem Paths_distanceTo_eq (d : Nat) (x1 : Int32) (s : xS) : ev (d + 1) f_Paths_distanceTo [vR 8 0, vI x1] s =
    bI (ev d f_Garden_has [vR 2 0, vI x1] s) fun r2 s1 =>
    if (r2 : Int32) = 0 then
      some (some (vI (-1)), s1)
    else
      if x_in x1 36 then
      some (some (vI (s1.1 30 0 (x1 : Int32).toNatClampNeg)), s1)
      else none := (x_adv_out (K := x_K) (P := x_Pr) (d := d + 1) (M := tb_Paths_distanceTo) [] 15 (x_st0 tb_Paths_distanceTo [vR 8 0, vI x1] s)).symm
noncomputable def Paths_wayNearer_L1 (d : Nat) (y2 : Int32) (y3 : Int32) (s : xS) : Option xO := og (d + 1) tb_Paths_wayNearer (2, [some (vR 8 0), some (vI y2), some (vI y3), none], [], s)
set_option maxRecDepth 100000 in
set_option maxHeartbeats 400000 in
theorem Paths_wayNearer_L1_eq (d : Nat) (y2 : Int32) (y3 : Int32) (s : xS) : Paths_wayNearer_L1 d y2 y3 s =
    if (y3 : Int32) < 4 then
      bI (ev d f_Garden_next [vR 2 0, vI y2, vI y3] s) fun r2 s1 =>
      if (r2 : Int32) = (-1) then
        Paths_wayNearer_L1 d y2 (y3 + 1) s1
      else
        bI (ev d f_Paths_distanceTo [vR 8 0, vI r2] s1) fun r4 s3 =>
        bI (ev d f_Paths_distanceTo [vR 8 0, vI y2] s3) fun r6 s5 =>
        if (r4 : Int32) = r6 - 1 then
          some (some (vI y3), s5)
        else
          Paths_wayNearer_L1 d y2 (y3 + 1) s5
    else
      some (some (vI (-1)), s) := (x_adv_out (K := x_K) (P := x_Pr) (d := d + 1) (M := tb_Paths_wayNearer) [2] 32 (2, [some (vR 8 0), some (vI y2), some (vI y3), none], [], s)).symm
set_option maxRecDepth 100000 in
set_option maxHeartbeats 400000 in
theorem Paths_wayNearer_eq (d : Nat) (x1 : Int32) (s : xS) : ev (d + 1) f_Paths_wayNearer [vR 8 0, vI x1] s =
    Paths_wayNearer_L1 d x1 0 s := (x_adv_out (K := x_K) (P := x_Pr) (d := d + 1) (M := tb_Paths_wayNearer) [2] 32 (x_st0 tb_Paths_wayNearer [vR 8 0, vI x1] s)).symm
noncomputable def Paths_countParts_L1 (d : Nat) (y2 : Int32) (y3 : Int32) (y4 : Int32) (s : xS) : Option xO := og (d + 1) tb_Paths_countParts (22, [some (vR 8 0), some (vI y2), some (vI y3), some (vI y4)], [], s)
set_option maxRecDepth 100000 in
set_option maxHeartbeats 400000 in
theorem Paths_countParts_L1_eq (d : Nat) (y2 : Int32) (y3 : Int32) (y4 : Int32) (s : xS) : Paths_countParts_L1 d y2 y3 y4 s =
    if (y4 : Int32) < s.1 2 0 4 then
      bI (ev d f_Garden_isWall [vR 2 0, vI y4] s) fun r3 s2 =>
      if (r3 : Int32) = 0 then
        if (y4 : Int32) = y2 then
          Paths_countParts_L1 d y2 y3 (y4 + 1) s2
        else
          if x_in y4 36 then
          if (s2.1 32 0 (y4 : Int32).toNatClampNeg : Int32) = 0 then
            bV (ev d f_Paths_countPart [vR 8 0, vI y4, vI y2] s2) fun s4 =>
            Paths_countParts_L1 d y2 (y3 + 1) (y4 + 1) s4
          else
            Paths_countParts_L1 d y2 y3 (y4 + 1) s2
          else none
      else
        Paths_countParts_L1 d y2 y3 (y4 + 1) s2
    else
      some (some (vI y3), s) := (x_adv_out (K := x_K) (P := x_Pr) (d := d + 1) (M := tb_Paths_countParts) [22] 44 (22, [some (vR 8 0), some (vI y2), some (vI y3), some (vI y4)], [], s)).symm
set_option maxRecDepth 100000 in
set_option maxHeartbeats 400000 in
theorem Paths_countParts_eq (d : Nat) (x1 : Int32) (s : xS) : ev (d + 1) f_Paths_countParts [vR 8 0, vI x1] s =
    bV (ev d f_Arrays_fill [vR 32 0, vI 0] s) fun s1 =>
    Paths_countParts_L1 d x1 0 0 (wI (wI s1 8 0 6 0) 8 0 7 (-1)) := (x_adv_out (K := x_K) (P := x_Pr) (d := d + 1) (M := tb_Paths_countParts) [22] 44 (x_st0 tb_Paths_countParts [vR 8 0, vI x1] s)).symm
noncomputable def Paths_countPart_L1 (d : Nat) (y2 : Int32) (y3 : Int32) (y4 : Int32) (s : xS) : Option xO := og (d + 1) tb_Paths_countPart (10, [some (vR 8 0), some (vI y2), none, some (vI y3), some (vI y4)], [], s)
set_option maxRecDepth 100000 in
set_option maxHeartbeats 400000 in
theorem Paths_countPart_L1_eq (d : Nat) (y2 : Int32) (y3 : Int32) (y4 : Int32) (s : xS) : Paths_countPart_L1 d y2 y3 y4 s =
    if (y4 : Int32) < y3 then
      if x_in y4 36 then
      if x_in (s.1 31 0 (y4 : Int32).toNatClampNeg) 36 then
      Paths_countPart_L1 d y2 y3 (y4 + 1) (wI s 32 0 (s.1 31 0 (y4 : Int32).toNatClampNeg : Int32).toNatClampNeg 1)
      else none
      else none
    else
      if (s.1 8 0 6 : Int32) < y3 then
        some (none, wI (wI s 8 0 6 y3) 8 0 7 y2)
      else
        some (none, s) := (x_adv_out (K := x_K) (P := x_Pr) (d := d + 1) (M := tb_Paths_countPart) [10] 34 (10, [some (vR 8 0), some (vI y2), none, some (vI y3), some (vI y4)], [], s)).symm
set_option maxRecDepth 100000 in
set_option maxHeartbeats 400000 in
theorem Paths_countPart_eq (d : Nat) (x1 : Int32) (x2 : Int32) (s : xS) : ev (d + 1) f_Paths_countPart [vR 8 0, vI x1, vI x2] s =
    bI (ev d f_Paths_spread [vR 8 0, vI x1, vI x2] s) fun r2 s1 =>
    Paths_countPart_L1 d x1 r2 0 s1 := (x_adv_out (K := x_K) (P := x_Pr) (d := d + 1) (M := tb_Paths_countPart) [10] 34 (x_st0 tb_Paths_countPart [vR 8 0, vI x1, vI x2] s)).symm
noncomputable def Paths_countStrays_L1 (d : Nat) (y2 : Int32) (y3 : Int32) (y4 : Int32) (s : xS) : Option xO := og (d + 1) tb_Paths_countStrays (42, [some (vR 8 0), none, some (vI y2), some (vI y3), some (vI y4)], [], s)
set_option maxRecDepth 100000 in
set_option maxHeartbeats 400000 in
theorem Paths_countStrays_L1_eq (d : Nat) (y2 : Int32) (y3 : Int32) (y4 : Int32) (s : xS) : Paths_countStrays_L1 d y2 y3 y4 s =
    if (y4 : Int32) < y2 then
      bV (ev d f_Paths_strayOnce [vR 8 0] s) fun s6 =>
      Paths_countStrays_L1 d y2 y3 (y4 + 1) s6
    else
      if x_in y3 36 then
      some (some (vI (s.1 33 0 (y3 : Int32).toNatClampNeg)), s)
      else none := (x_adv_out (K := x_K) (P := x_Pr) (d := d + 1) (M := tb_Paths_countStrays) [42] 38 (42, [some (vR 8 0), none, some (vI y2), some (vI y3), some (vI y4)], [], s)).symm
set_option maxRecDepth 100000 in
set_option maxHeartbeats 400000 in
theorem Paths_countStrays_eq (d : Nat) (x1 : Int32) (x2 : Int32) (x3 : Int32) (s : xS) : ev (d + 1) f_Paths_countStrays [vR 8 0, vI x1, vI x2, vI x3] s =
    bI (ev d f_Garden_has [vR 2 0, vI x1] s) fun r2 s1 =>
    if (r2 : Int32) = 0 then
      some (some (vI 0), s1)
    else
      bI (ev d f_Garden_has [vR 2 0, vI x3] s1) fun r4 s3 =>
      if (r4 : Int32) = 0 then
        some (some (vI 0), s3)
      else
        bV (ev d f_Arrays_fill [vR 33 0, vI 0] s3) fun s5 =>
        if x_in x1 36 then
        Paths_countStrays_L1 d x2 x3 0 (wI s5 33 0 (x1 : Int32).toNatClampNeg 1)
        else none := (x_adv_out (K := x_K) (P := x_Pr) (d := d + 1) (M := tb_Paths_countStrays) [42] 38 (x_st0 tb_Paths_countStrays [vR 8 0, vI x1, vI x2, vI x3] s)).symm
noncomputable def Paths_strayOnce_L1 (d : Nat) (y2 : Int32) (s : xS) : Option xO := og (d + 1) tb_Paths_strayOnce (10, [some (vR 8 0), some (vI y2), none, none], [], s)
noncomputable def Paths_strayOnce_L2 (d : Nat) (y2 : Int32) (y3 : Int32) (s : xS) : Option xO := og (d + 1) tb_Paths_strayOnce (23, [some (vR 8 0), some (vI y2), some (vI y3), none], [], s)
noncomputable def Paths_strayOnce_J3 (d : Nat) (y2 : Int32) (y3 : Int32) (y4 : Int32) (s : xS) : Option xO := og (d + 1) tb_Paths_strayOnce (52, [some (vR 8 0), some (vI y2), some (vI y3), none], [vI y4, vR 34 0], s)
set_option maxRecDepth 100000 in
set_option maxHeartbeats 400000 in
theorem Paths_strayOnce_L1_eq (d : Nat) (y2 : Int32) (s : xS) : Paths_strayOnce_L1 d y2 s =
    if (y2 : Int32) < s.1 2 0 4 then
      Paths_strayOnce_L2 d y2 0 s
    else
      bV (ev d 1002 [vR 34 0, vI 0, vR 33 0, vI 0, vI 36] s) fun s2 =>
      some (none, s2) := (x_adv_out (K := x_K) (P := x_Pr) (d := d + 1) (M := tb_Paths_strayOnce) [10, 23, 52] 54 (10, [some (vR 8 0), some (vI y2), none, none], [], s)).symm
set_option maxRecDepth 100000 in
set_option maxHeartbeats 400000 in
theorem Paths_strayOnce_L2_eq (d : Nat) (y2 : Int32) (y3 : Int32) (s : xS) : Paths_strayOnce_L2 d y2 y3 s =
    if (y3 : Int32) < 4 then
      bI (ev d f_Garden_next [vR 2 0, vI y2, vI y3] s) fun r4 s3 =>
      if (r4 : Int32) = (-1) then
        Paths_strayOnce_J3 d y2 y3 y2 s3
      else
        Paths_strayOnce_J3 d y2 y3 r4 s3
    else
      Paths_strayOnce_L1 d (y2 + 1) s := (x_adv_out (K := x_K) (P := x_Pr) (d := d + 1) (M := tb_Paths_strayOnce) [10, 23, 52] 54 (23, [some (vR 8 0), some (vI y2), some (vI y3), none], [], s)).symm
set_option maxRecDepth 100000 in
set_option maxHeartbeats 400000 in
theorem Paths_strayOnce_J3_eq (d : Nat) (y2 : Int32) (y3 : Int32) (y4 : Int32) (s : xS) : Paths_strayOnce_J3 d y2 y3 y4 s =
    if x_in y4 36 then
    if x_in y2 36 then
    if x_in y4 36 then
    Paths_strayOnce_L2 d y2 (y3 + 1) (wI s 34 0 (y4 : Int32).toNatClampNeg ((s.1 34 0 (y4 : Int32).toNatClampNeg) + (s.1 33 0 (y2 : Int32).toNatClampNeg)))
    else none
    else none
    else none := (x_adv_out (K := x_K) (P := x_Pr) (d := d + 1) (M := tb_Paths_strayOnce) [10, 23, 52] 54 (52, [some (vR 8 0), some (vI y2), some (vI y3), none], [vI y4, vR 34 0], s)).symm
set_option maxRecDepth 100000 in
set_option maxHeartbeats 400000 in
theorem Paths_strayOnce_eq (d : Nat)  (s : xS) : ev (d + 1) f_Paths_strayOnce [vR 8 0] s =
    bV (ev d f_Arrays_fill [vR 34 0, vI 0] s) fun s1 =>
    Paths_strayOnce_L1 d 0 s1 := (x_adv_out (K := x_K) (P := x_Pr) (d := d + 1) (M := tb_Paths_strayOnce) [10, 23, 52] 54 (x_st0 tb_Paths_strayOnce [vR 8 0] s)).symm

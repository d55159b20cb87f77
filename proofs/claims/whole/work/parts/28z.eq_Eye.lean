/-! Printed by gen.py: what methods come to. -/
noncomputable def Eye_canForm_L1 (d : Nat) (k2 : Nat) (y3 : Int32) (y4 : Int32) (y5 : Int32) (y6 : Int32) (y7 : Int32) (s : xS) : Option xO := og (d + 1) tb_Eye_canForm (71, [some (vR 6 0), some (vR 5 k2), none, none, none, none, some (vI y3), some (vI y4), some (vI y5), some (vI y6), some (vI y7), none], [], s)
set_option maxRecDepth 100000 in
set_option maxHeartbeats 400000 in
theorem Eye_canForm_L1_eq (d : Nat) (k2 : Nat) (y3 : Int32) (y4 : Int32) (y5 : Int32) (y6 : Int32) (y7 : Int32) (s : xS) : Eye_canForm_L1 d k2 y3 y4 y5 y6 y7 s =
    if (5 : Int32) < y7 then
      some (some (vI y6), s)
    else
      bI (ev d f_Garden_next [vR 2 0, vI y3, vI y4] s) fun r4 s3 =>
      if (r4 : Int32) = (-1) then
        some (some (vI y6), s3)
      else
        bI (ev d f_Garden_sightOn [vR 2 0, vI r4] s3) fun r6 s5 =>
        if (r6 : Int32) = (-1) then
          Eye_canForm_L1 d k2 r4 y4 y5 y6 (y7 + 1) s5
        else
          if ((jshr y5 r6) &&& 1 : Int32) = 1 then
            Eye_canForm_L1 d k2 r4 y4 y5 y6 (y7 + 1) s5
          else
            if x_in 0 7 then
            if x_in 1 7 then
            bI (ev d f_Rule_reckon [vR 5 k2, vR 26 0] (wI (wI s5 26 0 (0 : Int32).toNatClampNeg y7) 26 0 (1 : Int32).toNatClampNeg r6)) fun r8 s7 =>
            if (0 : Int32) < r8 then
              Eye_canForm_L1 d k2 r4 y4 (y5 ||| (jshl 1 r6)) (y6 ||| (jshl 1 r6)) (y7 + 1) s7
            else
              Eye_canForm_L1 d k2 r4 y4 (y5 ||| (jshl 1 r6)) (y6 ||| 0) (y7 + 1) s7
            else none
            else none := (x_adv_out (K := x_K) (P := x_Pr) (d := d + 1) (M := tb_Eye_canForm) [71] 110 (71, [some (vR 6 0), some (vR 5 k2), none, none, none, none, some (vI y3), some (vI y4), some (vI y5), some (vI y6), some (vI y7), none], [], s)).symm
set_option maxRecDepth 100000 in
set_option maxHeartbeats 400000 in
theorem Eye_canForm_eq (d : Nat) (j1 : Nat) (j2 : Nat) (x3 : Int32) (x4 : Int32) (x5 : Int32) (s : xS) : ev (d + 1) f_Eye_canForm [vR 6 0, vR 5 j1, vR 3 j2, vI x3, vI x4, vI x5] s =
    if (4 : Int32) = 0 then none else
    if (4 : Int32) = 0 then none else
      if x_in 2 7 then
        if x_in 3 7 then
        bI (ev d f_Outing_countOthersOn [vR 3 j2, vI (x4 / 4), vI x3] (wI (wI s 26 0 (2 : Int32).toNatClampNeg x5) 26 0 (3 : Int32).toNatClampNeg (jrem x4 4))) fun r2 s1 =>
        if x_in 4 7 then
        if x_in 5 7 then
        if (7 : Int32) = 0 then none else
        if x_in 6 7 then
          Eye_canForm_L1 d j1 (x4 / 4) (jrem x4 4) 0 0 1 (wI (wI (wI s1 26 0 (4 : Int32).toNatClampNeg r2) 26 0 (5 : Int32).toNatClampNeg x3) 26 0 (6 : Int32).toNatClampNeg (jrem (s1.1 3 j2 5) 7))
          else none
        else none
        else none
        else none
        else none := (x_adv_out (K := x_K) (P := x_Pr) (d := d + 1) (M := tb_Eye_canForm) [71] 110 (x_st0 tb_Eye_canForm [vR 6 0, vR 5 j1, vR 3 j2, vI x3, vI x4, vI x5] s)).symm
set_option maxRecDepth 100000 in
set_option maxHeartbeats 400000 in
theorem Eye_wouldForm_eq (d : Nat) (j1 : Nat) (j2 : Nat) (x3 : Int32) (x4 : Int32) (s : xS) : ev (d + 1) f_Eye_wouldForm [vR 6 0, vR 5 j1, vR 3 j2, vI x3, vI x4] s =
    bI (ev d f_Outing_viewsOf [vR 3 j2, vI x3] s) fun r2 s1 =>
    bI (ev d f_Integer_bitCount [vI r2] s1) fun r4 s3 =>
    bI (ev d f_Eye_canForm [vR 6 0, vR 5 j1, vR 3 j2, vI x3, vI x4, vI r4] s3) fun r6 s5 =>
    some (some (vI (r6 &&& (r2 ^^^ (-1)))), s5) := (x_adv_out (K := x_K) (P := x_Pr) (d := d + 1) (M := tb_Eye_wouldForm) [] 20 (x_st0 tb_Eye_wouldForm [vR 6 0, vR 5 j1, vR 3 j2, vI x3, vI x4] s)).symm
noncomputable def Eye_fieldsSeen_L1 (d : Nat) (y2 : Int32) (y3 : Int32) (y4 : Int32) (s : xS) : Option xO := og (d + 1) tb_Eye_fieldsSeen (6, [some (vR 6 0), some (vI y2), some (vI y3), some (vI y4)], [], s)
set_option maxRecDepth 100000 in
set_option maxHeartbeats 400000 in
theorem Eye_fieldsSeen_L1_eq (d : Nat) (y2 : Int32) (y3 : Int32) (y4 : Int32) (s : xS) : Eye_fieldsSeen_L1 d y2 y3 y4 s =
    if (y4 : Int32) < 5 then
      if (4 : Int32) = 0 then none else
      bI (ev d f_Garden_next [vR 2 0, vI y3, vI (jrem y2 4)] s) fun r2 s1 =>
        if (r2 : Int32) = (-1) then
          some (some (vI y4), s1)
        else
          Eye_fieldsSeen_L1 d y2 r2 (y4 + 1) s1
    else
      some (some (vI 5), s) := (x_adv_out (K := x_K) (P := x_Pr) (d := d + 1) (M := tb_Eye_fieldsSeen) [6] 29 (6, [some (vR 6 0), some (vI y2), some (vI y3), some (vI y4)], [], s)).symm
set_option maxRecDepth 100000 in
set_option maxHeartbeats 400000 in
theorem Eye_fieldsSeen_eq (d : Nat) (x1 : Int32) (s : xS) : ev (d + 1) f_Eye_fieldsSeen [vR 6 0, vI x1] s =
    if (4 : Int32) = 0 then none else
    Eye_fieldsSeen_L1 d x1 (x1 / 4) 0 s := (x_adv_out (K := x_K) (P := x_Pr) (d := d + 1) (M := tb_Eye_fieldsSeen) [6] 29 (x_st0 tb_Eye_fieldsSeen [vR 6 0, vI x1] s)).symm
noncomputable def Eye_nearestOf_L1 (d : Nat) (y2 : Int32) (y3 : Int32) (y4 : Int32) (y5 : Int32) (s : xS) : Option xO := og (d + 1) tb_Eye_nearestOf (7, [some (vR 6 0), some (vI y2), some (vI y3), some (vI y4), some (vI y5), none], [], s)
set_option maxRecDepth 100000 in
set_option maxHeartbeats 400000 in
theorem Eye_nearestOf_L1_eq (d : Nat) (y2 : Int32) (y3 : Int32) (y4 : Int32) (y5 : Int32) (s : xS) : Eye_nearestOf_L1 d y2 y3 y4 y5 s =
    if (5 : Int32) < y5 then
      some (some (vI 0), s)
    else
      if (4 : Int32) = 0 then none else
      bI (ev d f_Garden_next [vR 2 0, vI y4, vI (jrem y2 4)] s) fun r2 s1 =>
        bI (ev d f_Garden_sightOn [vR 2 0, vI r2] s1) fun r4 s3 =>
        if (r4 : Int32) = (-1) then
          Eye_nearestOf_L1 d y2 y3 r2 (y5 + 1) s3
        else
          if ((jshr y3 r4) &&& 1 : Int32) = 1 then
            some (some (vI y5), s3)
          else
            Eye_nearestOf_L1 d y2 y3 r2 (y5 + 1) s3 := (x_adv_out (K := x_K) (P := x_Pr) (d := d + 1) (M := tb_Eye_nearestOf) [7] 41 (7, [some (vR 6 0), some (vI y2), some (vI y3), some (vI y4), some (vI y5), none], [], s)).symm
set_option maxRecDepth 100000 in
set_option maxHeartbeats 400000 in
theorem Eye_nearestOf_eq (d : Nat) (x1 : Int32) (x2 : Int32) (s : xS) : ev (d + 1) f_Eye_nearestOf [vR 6 0, vI x1, vI x2] s =
    if (4 : Int32) = 0 then none else
    Eye_nearestOf_L1 d x1 x2 (x1 / 4) 1 s := (x_adv_out (K := x_K) (P := x_Pr) (d := d + 1) (M := tb_Eye_nearestOf) [7] 41 (x_st0 tb_Eye_nearestOf [vR 6 0, vI x1, vI x2] s)).symm
noncomputable def Eye_countFromAll_L1 (d : Nat) (k2 : Nat) (k3 : Nat) (y4 : Int32) (y5 : Int32) (y6 : Int32) (s : xS) : Option xO := og (d + 1) tb_Eye_countFromAll (6, [some (vR 6 0), some (vR 5 k2), some (vR 3 k3), some (vI y4), some (vI y5), some (vI y6)], [], s)
set_option maxRecDepth 100000 in
set_option maxHeartbeats 400000 in
theorem Eye_countFromAll_L1_eq (d : Nat) (k2 : Nat) (k3 : Nat) (y4 : Int32) (y5 : Int32) (y6 : Int32) (s : xS) : Eye_countFromAll_L1 d k2 k3 y4 y5 y6 s =
    if (y6 : Int32) < 4 * (s.1 2 0 4) then
      if (4 : Int32) = 0 then none else
      bI (ev d f_Garden_isWall [vR 2 0, vI (y6 / 4)] s) fun r2 s1 =>
        if (r2 : Int32) = 0 then
          bI (ev d f_Eye_wouldForm [vR 6 0, vR 5 k2, vR 3 k3, vI y4, vI y6] s1) fun r4 s3 =>
          bI (ev d f_Integer_bitCount [vI r4] s3) fun r6 s5 =>
          Eye_countFromAll_L1 d k2 k3 y4 (y5 + r6) (y6 + 1) s5
        else
          Eye_countFromAll_L1 d k2 k3 y4 y5 (y6 + 1) s1
    else
      some (some (vI y5), s) := (x_adv_out (K := x_K) (P := x_Pr) (d := d + 1) (M := tb_Eye_countFromAll) [6] 35 (6, [some (vR 6 0), some (vR 5 k2), some (vR 3 k3), some (vI y4), some (vI y5), some (vI y6)], [], s)).symm
set_option maxRecDepth 100000 in
set_option maxHeartbeats 400000 in
theorem Eye_countFromAll_eq (d : Nat) (j1 : Nat) (j2 : Nat) (x3 : Int32) (s : xS) : ev (d + 1) f_Eye_countFromAll [vR 6 0, vR 5 j1, vR 3 j2, vI x3] s =
    Eye_countFromAll_L1 d j1 j2 x3 0 0 s := (x_adv_out (K := x_K) (P := x_Pr) (d := d + 1) (M := tb_Eye_countFromAll) [6] 35 (x_st0 tb_Eye_countFromAll [vR 6 0, vR 5 j1, vR 3 j2, vI x3] s)).symm
noncomputable def Eye_gatherStands_L1 (d : Nat) (k2 : Nat) (k3 : Nat) (y4 : Int32) (y5 : Int32) (y6 : Int32) (s : xS) : Option xO := og (d + 1) tb_Eye_gatherStands (11, [some (vR 6 0), some (vR 5 k2), some (vR 3 k3), some (vI y4), some (vI y5), some (vI y6), none], [], s)
noncomputable def Eye_gatherStands_J2 (d : Nat) (k2 : Nat) (k3 : Nat) (y4 : Int32) (y5 : Int32) (y6 : Int32) (y7 : Int32) (s : xS) : Option xO := og (d + 1) tb_Eye_gatherStands (52, [some (vR 6 0), some (vR 5 k2), some (vR 3 k3), some (vI y4), some (vI y5), some (vI y6), none], [vI y7], s)
set_option maxRecDepth 100000 in
set_option maxHeartbeats 400000 in
theorem Eye_gatherStands_L1_eq (d : Nat) (k2 : Nat) (k3 : Nat) (y4 : Int32) (y5 : Int32) (y6 : Int32) (s : xS) : Eye_gatherStands_L1 d k2 k3 y4 y5 y6 s =
    if (y6 : Int32) < 4 * (s.1 2 0 4) then
      if (4 : Int32) = 0 then none else
      bI (ev d f_Garden_isWall [vR 2 0, vI (y6 / 4)] s) fun r2 s1 =>
        if (r2 : Int32) = 0 then
          bI (ev d f_Eye_wouldForm [vR 6 0, vR 5 k2, vR 3 k3, vI y4, vI y6] s1) fun r4 s3 =>
          Eye_gatherStands_J2 d k2 k3 y4 y5 y6 r4 s3
        else
          Eye_gatherStands_J2 d k2 k3 y4 y5 y6 0 s1
    else
      some (some (vI y5), s) := (x_adv_out (K := x_K) (P := x_Pr) (d := d + 1) (M := tb_Eye_gatherStands) [11, 52] 69 (11, [some (vR 6 0), some (vR 5 k2), some (vR 3 k3), some (vI y4), some (vI y5), some (vI y6), none], [], s)).symm
set_option maxRecDepth 100000 in
set_option maxHeartbeats 400000 in
theorem Eye_gatherStands_J2_eq (d : Nat) (k2 : Nat) (k3 : Nat) (y4 : Int32) (y5 : Int32) (y6 : Int32) (y7 : Int32) (s : xS) : Eye_gatherStands_J2 d k2 k3 y4 y5 y6 y7 s =
    if (y7 : Int32) = 0 then
      Eye_gatherStands_L1 d k2 k3 y4 y5 (y6 + 1) s
    else
      if (s.1 6 0 5 : Int32) < 64 then
        bI (ev d f_Eye_isGathered [vR 6 0, vI y7] s) fun r6 s5 =>
        if (r6 : Int32) = 0 then
          if x_in (s5.1 6 0 5) 64 then
          if x_in (s5.1 6 0 5) 64 then
          Eye_gatherStands_L1 d k2 k3 y4 (y5 ||| y7) (y6 + 1) (wI (wI (wI s5 27 0 (s5.1 6 0 5 : Int32).toNatClampNeg y6) 28 0 (s5.1 6 0 5 : Int32).toNatClampNeg y7) 6 0 5 ((s5.1 6 0 5) + 1))
          else none
          else none
        else
          Eye_gatherStands_L1 d k2 k3 y4 y5 (y6 + 1) s5
      else
        Eye_gatherStands_L1 d k2 k3 y4 y5 (y6 + 1) s := (x_adv_out (K := x_K) (P := x_Pr) (d := d + 1) (M := tb_Eye_gatherStands) [11, 52] 69 (52, [some (vR 6 0), some (vR 5 k2), some (vR 3 k3), some (vI y4), some (vI y5), some (vI y6), none], [vI y7], s)).symm
set_option maxRecDepth 100000 in
set_option maxHeartbeats 400000 in
theorem Eye_gatherStands_eq (d : Nat) (j1 : Nat) (j2 : Nat) (x3 : Int32) (s : xS) : ev (d + 1) f_Eye_gatherStands [vR 6 0, vR 5 j1, vR 3 j2, vI x3] s =
    Eye_gatherStands_L1 d j1 j2 x3 0 0 (wI s 6 0 5 0) := (x_adv_out (K := x_K) (P := x_Pr) (d := d + 1) (M := tb_Eye_gatherStands) [11, 52] 69 (x_st0 tb_Eye_gatherStands [vR 6 0, vR 5 j1, vR 3 j2, vI x3] s)).symm
noncomputable def Eye_isGathered_L1 (d : Nat) (y2 : Int32) (y3 : Int32) (s : xS) : Option xO := og (d + 1) tb_Eye_isGathered (2, [some (vR 6 0), some (vI y2), some (vI y3)], [], s)
set_option maxRecDepth 100000 in
set_option maxHeartbeats 400000 in
theorem Eye_isGathered_L1_eq (d : Nat) (y2 : Int32) (y3 : Int32) (s : xS) : Eye_isGathered_L1 d y2 y3 s =
    if (y3 : Int32) < s.1 6 0 5 then
      if x_in y3 64 then
      if (s.1 28 0 (y3 : Int32).toNatClampNeg : Int32) = y2 then
        some (some (vI (x_nb 1)), s)
      else
        Eye_isGathered_L1 d y2 (y3 + 1) s
      else none
    else
      some (some (vI (x_nb 0)), s) := (x_adv_out (K := x_K) (P := x_Pr) (d := d + 1) (M := tb_Eye_isGathered) [2] 21 (2, [some (vR 6 0), some (vI y2), some (vI y3)], [], s)).symm
set_option maxRecDepth 100000 in
set_option maxHeartbeats 400000 in
theorem Eye_isGathered_eq (d : Nat) (x1 : Int32) (s : xS) : ev (d + 1) f_Eye_isGathered [vR 6 0, vI x1] s =
    Eye_isGathered_L1 d x1 0 s := (x_adv_out (K := x_K) (P := x_Pr) (d := d + 1) (M := tb_Eye_isGathered) [2] 21 (x_st0 tb_Eye_isGathered [vR 6 0, vI x1] s)).symm
noncomputable def Eye_chooseStands_L1 (d : Nat) (y2 : Int32) (y3 : Int32) (s : xS) : Option xO := og (d + 1) tb_Eye_chooseStands (2, [some (vR 6 0), some (vI y2), some (vI y3)], [], s)
set_option maxRecDepth 100000 in
set_option maxHeartbeats 400000 in
theorem Eye_chooseStands_L1_eq (d : Nat) (y2 : Int32) (y3 : Int32) (s : xS) : Eye_chooseStands_L1 d y2 y3 s =
    if (6 : Int32) < y3 then
      some (some (vI (-1)), s)
    else
      bI (ev d f_Eye_isChosen [vR 6 0, vI y2, vI 0, vI 0, vI y3] s) fun r2 s1 =>
      if (r2 : Int32) = 0 then
        Eye_chooseStands_L1 d y2 (y3 + 1) s1
      else
        some (some (vI y3), s1) := (x_adv_out (K := x_K) (P := x_Pr) (d := d + 1) (M := tb_Eye_chooseStands) [2] 21 (2, [some (vR 6 0), some (vI y2), some (vI y3)], [], s)).symm
set_option maxRecDepth 100000 in
set_option maxHeartbeats 400000 in
theorem Eye_chooseStands_eq (d : Nat) (x1 : Int32) (s : xS) : ev (d + 1) f_Eye_chooseStands [vR 6 0, vI x1] s =
    Eye_chooseStands_L1 d x1 0 s := (x_adv_out (K := x_K) (P := x_Pr) (d := d + 1) (M := tb_Eye_chooseStands) [2] 21 (x_st0 tb_Eye_chooseStands [vR 6 0, vI x1] s)).symm
noncomputable def Eye_isChosen_L1 (d : Nat) (y2 : Int32) (y3 : Int32) (y4 : Int32) (y5 : Int32) (s : xS) : Option xO := og (d + 1) tb_Eye_isChosen (23, [some (vR 6 0), some (vI y2), none, some (vI y3), some (vI y4), some (vI y5)], [], s)
set_option maxRecDepth 100000 in
set_option maxHeartbeats 400000 in
theorem Eye_isChosen_L1_eq (d : Nat) (y2 : Int32) (y3 : Int32) (y4 : Int32) (y5 : Int32) (s : xS) : Eye_isChosen_L1 d y2 y3 y4 y5 s =
    if (y5 : Int32) < s.1 6 0 5 then
      if x_in y5 64 then
      if ((s.1 28 0 (y5 : Int32).toNatClampNeg) &&& y2 : Int32) = 0 then
        Eye_isChosen_L1 d y2 y3 y4 (y5 + 1) s
      else
        if x_in y5 64 then
        if x_in y3 6 then
        if x_in y5 64 then
        bI (ev d f_Eye_isChosen [vR 6 0, vI (y2 &&& ((s.1 28 0 (y5 : Int32).toNatClampNeg) ^^^ (-1))), vI (y5 + 1), vI (y3 + 1), vI y4] (wI s 29 0 (y3 : Int32).toNatClampNeg (s.1 27 0 (y5 : Int32).toNatClampNeg))) fun r2 s1 =>
        if (r2 : Int32) = 0 then
          Eye_isChosen_L1 d y2 y3 y4 (y5 + 1) s1
        else
          some (some (vI (x_nb 1)), s1)
        else none
        else none
        else none
      else none
    else
      some (some (vI (x_nb 0)), s) := (x_adv_out (K := x_K) (P := x_Pr) (d := d + 1) (M := tb_Eye_isChosen) [23] 60 (23, [some (vR 6 0), some (vI y2), none, some (vI y3), some (vI y4), some (vI y5)], [], s)).symm
set_option maxRecDepth 100000 in
set_option maxHeartbeats 400000 in
theorem Eye_isChosen_eq (d : Nat) (x1 : Int32) (x2 : Int32) (x3 : Int32) (x4 : Int32) (s : xS) : ev (d + 1) f_Eye_isChosen [vR 6 0, vI x1, vI x2, vI x3, vI x4] s =
    if (x1 : Int32) = 0 then
      some (some (vI (x_nb 1)), s)
    else
      if (x3 : Int32) < x4 then
        if (x3 : Int32) < 6 then
          Eye_isChosen_L1 d x1 x3 x4 x2 s
        else
          some (some (vI (x_nb 0)), s)
      else
        some (some (vI (x_nb 0)), s) := (x_adv_out (K := x_K) (P := x_Pr) (d := d + 1) (M := tb_Eye_isChosen) [23] 60 (x_st0 tb_Eye_isChosen [vR 6 0, vI x1, vI x2, vI x3, vI x4] s)).symm
set_option maxRecDepth 100000 in
set_option maxHeartbeats 400000 in
theorem Eye_chosenStand_eq (d : Nat) (x1 : Int32) (s : xS) : ev (d + 1) f_Eye_chosenStand [vR 6 0, vI x1] s =
    if (x1 : Int32) < 0 then
      some (some (vI (-1)), s)
    else
      if (x1 : Int32) < 6 then
        if x_in x1 6 then
        some (some (vI (s.1 29 0 (x1 : Int32).toNatClampNeg)), s)
        else none
      else
        some (some (vI (-1)), s) := (x_adv_out (K := x_K) (P := x_Pr) (d := d + 1) (M := tb_Eye_chosenStand) [] 15 (x_st0 tb_Eye_chosenStand [vR 6 0, vI x1] s)).symm

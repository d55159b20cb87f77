/-! Printed by gen.py: Arrays.fill, by the kind of the row. -/
noncomputable def Arrays_fill30_L1 (d : Nat) (y2 : Int32) (y3 : Int32) (y4 : Int32) (s : xS) : Option xO := og (d + 1) tb_Arrays_fill (5, [some (vR 30 0), some (vI y2), some (vI y3), some (vI y4)], [], s)
set_option maxRecDepth 100000 in
set_option maxHeartbeats 400000 in
theorem Arrays_fill30_L1_eq (d : Nat) (y2 : Int32) (y3 : Int32) (y4 : Int32) (s : xS) : Arrays_fill30_L1 d y2 y3 y4 s =
    if (y3 : Int32) < y4 then
      if x_in y3 36 then
      Arrays_fill30_L1 d y2 (y3 + 1) y4 (wI s 30 0 (y3 : Int32).toNatClampNeg y2)
      else none
    else
      some (none, s) := (x_adv_out (K := x_K) (P := x_Pr) (d := d + 1) (M := tb_Arrays_fill) [5] 18 (5, [some (vR 30 0), some (vI y2), some (vI y3), some (vI y4)], [], s)).symm
set_option maxRecDepth 100000 in
set_option maxHeartbeats 400000 in
theorem Arrays_fill30_eq (d : Nat) (x2 : Int32) (s : xS) : ev (d + 1) f_Arrays_fill [vR 30 0, vI x2] s =
    Arrays_fill30_L1 d x2 0 (Int32.ofNat 36) s := (x_adv_out (K := x_K) (P := x_Pr) (d := d + 1) (M := tb_Arrays_fill) [5] 18 (x_st0 tb_Arrays_fill [vR 30 0, vI x2] s)).symm
noncomputable def Arrays_fill32_L1 (d : Nat) (y2 : Int32) (y3 : Int32) (y4 : Int32) (s : xS) : Option xO := og (d + 1) tb_Arrays_fill (5, [some (vR 32 0), some (vI y2), some (vI y3), some (vI y4)], [], s)
set_option maxRecDepth 100000 in
set_option maxHeartbeats 400000 in
theorem Arrays_fill32_L1_eq (d : Nat) (y2 : Int32) (y3 : Int32) (y4 : Int32) (s : xS) : Arrays_fill32_L1 d y2 y3 y4 s =
    if (y3 : Int32) < y4 then
      if x_in y3 36 then
      Arrays_fill32_L1 d y2 (y3 + 1) y4 (wI s 32 0 (y3 : Int32).toNatClampNeg y2)
      else none
    else
      some (none, s) := (x_adv_out (K := x_K) (P := x_Pr) (d := d + 1) (M := tb_Arrays_fill) [5] 18 (5, [some (vR 32 0), some (vI y2), some (vI y3), some (vI y4)], [], s)).symm
set_option maxRecDepth 100000 in
set_option maxHeartbeats 400000 in
theorem Arrays_fill32_eq (d : Nat) (x2 : Int32) (s : xS) : ev (d + 1) f_Arrays_fill [vR 32 0, vI x2] s =
    Arrays_fill32_L1 d x2 0 (Int32.ofNat 36) s := (x_adv_out (K := x_K) (P := x_Pr) (d := d + 1) (M := tb_Arrays_fill) [5] 18 (x_st0 tb_Arrays_fill [vR 32 0, vI x2] s)).symm
noncomputable def Arrays_fill33_L1 (d : Nat) (y2 : Int32) (y3 : Int32) (y4 : Int32) (s : xS) : Option xO := og (d + 1) tb_Arrays_fill (5, [some (vR 33 0), some (vI y2), some (vI y3), some (vI y4)], [], s)
set_option maxRecDepth 100000 in
set_option maxHeartbeats 400000 in
theorem Arrays_fill33_L1_eq (d : Nat) (y2 : Int32) (y3 : Int32) (y4 : Int32) (s : xS) : Arrays_fill33_L1 d y2 y3 y4 s =
    if (y3 : Int32) < y4 then
      if x_in y3 36 then
      Arrays_fill33_L1 d y2 (y3 + 1) y4 (wI s 33 0 (y3 : Int32).toNatClampNeg y2)
      else none
    else
      some (none, s) := (x_adv_out (K := x_K) (P := x_Pr) (d := d + 1) (M := tb_Arrays_fill) [5] 18 (5, [some (vR 33 0), some (vI y2), some (vI y3), some (vI y4)], [], s)).symm
set_option maxRecDepth 100000 in
set_option maxHeartbeats 400000 in
theorem Arrays_fill33_eq (d : Nat) (x2 : Int32) (s : xS) : ev (d + 1) f_Arrays_fill [vR 33 0, vI x2] s =
    Arrays_fill33_L1 d x2 0 (Int32.ofNat 36) s := (x_adv_out (K := x_K) (P := x_Pr) (d := d + 1) (M := tb_Arrays_fill) [5] 18 (x_st0 tb_Arrays_fill [vR 33 0, vI x2] s)).symm
noncomputable def Arrays_fill34_L1 (d : Nat) (y2 : Int32) (y3 : Int32) (y4 : Int32) (s : xS) : Option xO := og (d + 1) tb_Arrays_fill (5, [some (vR 34 0), some (vI y2), some (vI y3), some (vI y4)], [], s)
set_option maxRecDepth 100000 in
set_option maxHeartbeats 400000 in
theorem Arrays_fill34_L1_eq (d : Nat) (y2 : Int32) (y3 : Int32) (y4 : Int32) (s : xS) : Arrays_fill34_L1 d y2 y3 y4 s =
    if (y3 : Int32) < y4 then
      if x_in y3 36 then
      Arrays_fill34_L1 d y2 (y3 + 1) y4 (wI s 34 0 (y3 : Int32).toNatClampNeg y2)
      else none
    else
      some (none, s) := (x_adv_out (K := x_K) (P := x_Pr) (d := d + 1) (M := tb_Arrays_fill) [5] 18 (5, [some (vR 34 0), some (vI y2), some (vI y3), some (vI y4)], [], s)).symm
set_option maxRecDepth 100000 in
set_option maxHeartbeats 400000 in
theorem Arrays_fill34_eq (d : Nat) (x2 : Int32) (s : xS) : ev (d + 1) f_Arrays_fill [vR 34 0, vI x2] s =
    Arrays_fill34_L1 d x2 0 (Int32.ofNat 36) s := (x_adv_out (K := x_K) (P := x_Pr) (d := d + 1) (M := tb_Arrays_fill) [5] 18 (x_st0 tb_Arrays_fill [vR 34 0, vI x2] s)).symm
noncomputable def Arrays_fill35_L1 (d : Nat) (y2 : Int32) (y3 : Int32) (y4 : Int32) (s : xS) : Option xO := og (d + 1) tb_Arrays_fill (5, [some (vR 35 0), some (vI y2), some (vI y3), some (vI y4)], [], s)
set_option maxRecDepth 100000 in
set_option maxHeartbeats 400000 in
theorem Arrays_fill35_L1_eq (d : Nat) (y2 : Int32) (y3 : Int32) (y4 : Int32) (s : xS) : Arrays_fill35_L1 d y2 y3 y4 s =
    if (y3 : Int32) < y4 then
      if x_in y3 2304 then
      Arrays_fill35_L1 d y2 (y3 + 1) y4 (wI s 35 0 (y3 : Int32).toNatClampNeg y2)
      else none
    else
      some (none, s) := (x_adv_out (K := x_K) (P := x_Pr) (d := d + 1) (M := tb_Arrays_fill) [5] 18 (5, [some (vR 35 0), some (vI y2), some (vI y3), some (vI y4)], [], s)).symm
set_option maxRecDepth 100000 in
set_option maxHeartbeats 400000 in
theorem Arrays_fill35_eq (d : Nat) (x2 : Int32) (s : xS) : ev (d + 1) f_Arrays_fill [vR 35 0, vI x2] s =
    Arrays_fill35_L1 d x2 0 (Int32.ofNat 2304) s := (x_adv_out (K := x_K) (P := x_Pr) (d := d + 1) (M := tb_Arrays_fill) [5] 18 (x_st0 tb_Arrays_fill [vR 35 0, vI x2] s)).symm
noncomputable def Arrays_fill37_L1 (d : Nat) (y2 : Int32) (y3 : Int32) (y4 : Int32) (s : xS) : Option xO := og (d + 1) tb_Arrays_fill (5, [some (vR 37 0), some (vI y2), some (vI y3), some (vI y4)], [], s)
set_option maxRecDepth 100000 in
set_option maxHeartbeats 400000 in
theorem Arrays_fill37_L1_eq (d : Nat) (y2 : Int32) (y3 : Int32) (y4 : Int32) (s : xS) : Arrays_fill37_L1 d y2 y3 y4 s =
    if (y3 : Int32) < y4 then
      if x_in y3 1008 then
      Arrays_fill37_L1 d y2 (y3 + 1) y4 (wI s 37 0 (y3 : Int32).toNatClampNeg y2)
      else none
    else
      some (none, s) := (x_adv_out (K := x_K) (P := x_Pr) (d := d + 1) (M := tb_Arrays_fill) [5] 18 (5, [some (vR 37 0), some (vI y2), some (vI y3), some (vI y4)], [], s)).symm
set_option maxRecDepth 100000 in
set_option maxHeartbeats 400000 in
theorem Arrays_fill37_eq (d : Nat) (x2 : Int32) (s : xS) : ev (d + 1) f_Arrays_fill [vR 37 0, vI x2] s =
    Arrays_fill37_L1 d x2 0 (Int32.ofNat 1008) s := (x_adv_out (K := x_K) (P := x_Pr) (d := d + 1) (M := tb_Arrays_fill) [5] 18 (x_st0 tb_Arrays_fill [vR 37 0, vI x2] s)).symm

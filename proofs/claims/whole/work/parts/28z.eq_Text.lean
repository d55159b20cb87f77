/-! Printed by gen.py: what methods come to. -/
noncomputable def Text_append_L1 (d : Nat) (y2 : Int32) (y3 : Int32) (s : xS) : Option xO := og (d + 1) tb_Text_append (16, [some (vR 1 0), some (vI y2), some (vI y3)], [], s)
set_option maxRecDepth 100000 in
set_option maxHeartbeats 400000 in
theorem Text_append_L1_eq (d : Nat) (y2 : Int32) (y3 : Int32) (s : xS) : Text_append_L1 d y2 y3 s =
    if (y3 : Int32) < 0 then
      some (some (vI (x_nb 1)), s)
    else
      if x_in (s.1 1 0 1) 80 then
      Text_append_L1 d y2 (y3 + (-8)) (wI (wI s 14 0 (s.1 1 0 1 : Int32).toNatClampNeg ((jushr y2 y3) &&& 255)) 1 0 1 ((s.1 1 0 1) + 1))
      else none := (x_adv_out (K := x_K) (P := x_Pr) (d := d + 1) (M := tb_Text_append) [16] 35 (16, [some (vR 1 0), some (vI y2), some (vI y3)], [], s)).symm
set_option maxRecDepth 100000 in
set_option maxHeartbeats 400000 in
theorem Text_append_eq (d : Nat) (x1 : Int32) (s : xS) : ev (d + 1) f_Text_append [vR 1 0, vI x1] s =
    if (80 : Int32) < (s.1 1 0 1) + 4 then
      some (some (vI (x_nb 0)), s)
    else
      Text_append_L1 d x1 24 s := (x_adv_out (K := x_K) (P := x_Pr) (d := d + 1) (M := tb_Text_append) [16] 35 (x_st0 tb_Text_append [vR 1 0, vI x1] s)).symm
set_option maxRecDepth 100000 in
set_option maxHeartbeats 400000 in
theorem Text_cut_eq (d : Nat) (x1 : Int32) (s : xS) : ev (d + 1) f_Text_cut [vR 1 0, vI x1] s =
    if (x1 : Int32) < 0 then
      some (some (vI (x_nb 0)), s)
    else
      if (s.1 1 0 1 : Int32) < x1 then
        some (some (vI (x_nb 0)), s)
      else
        some (some (vI (x_nb 1)), wI s 1 0 1 x1) := (x_adv_out (K := x_K) (P := x_Pr) (d := d + 1) (M := tb_Text_cut) [] 16 (x_st0 tb_Text_cut [vR 1 0, vI x1] s)).symm
set_option maxRecDepth 100000 in
set_option maxHeartbeats 400000 in
theorem Text_open_eq (d : Nat) (x1 : Int32) (s : xS) : ev (d + 1) f_Text_open [vR 1 0, vI x1] s =
    bI (ev d f_Math_min [vI (s.1 1 0 1), vI x1] (wI s 1 0 3 0)) fun r2 s1 =>
    some (none, wI s1 1 0 2 r2) := (x_adv_out (K := x_K) (P := x_Pr) (d := d + 1) (M := tb_Text_open) [] 13 (x_st0 tb_Text_open [vR 1 0, vI x1] s)).symm
set_option maxRecDepth 100000 in
set_option maxHeartbeats 400000 in
theorem Text_close_eq (d : Nat)  (s : xS) : ev (d + 1) f_Text_close [vR 1 0] s =
    some (some (vI (s.1 1 0 3)), wI s 1 0 1 0) := (x_adv_out (K := x_K) (P := x_Pr) (d := d + 1) (M := tb_Text_close) [] 9 (x_st0 tb_Text_close [vR 1 0] s)).symm
set_option maxRecDepth 100000 in
set_option maxHeartbeats 400000 in
theorem Text_here_eq (d : Nat)  (s : xS) : ev (d + 1) f_Text_here [vR 1 0] s =
    if (s.1 1 0 3 : Int32) < s.1 1 0 2 then
      if x_in (s.1 1 0 3) 80 then
      some (some (vI (s.1 14 0 (s.1 1 0 3 : Int32).toNatClampNeg)), s)
      else none
    else
      some (some (vI (-1)), s) := (x_adv_out (K := x_K) (P := x_Pr) (d := d + 1) (M := tb_Text_here) [] 16 (x_st0 tb_Text_here [vR 1 0] s)).symm
set_option maxRecDepth 100000 in
set_option maxHeartbeats 400000 in
theorem Text_step_eq (d : Nat)  (s : xS) : ev (d + 1) f_Text_step [vR 1 0] s =
    if (s.1 1 0 3 : Int32) < s.1 1 0 2 then
      some (none, wI s 1 0 3 ((s.1 1 0 3) + 1))
    else
      some (none, s) := (x_adv_out (K := x_K) (P := x_Pr) (d := d + 1) (M := tb_Text_step) [] 15 (x_st0 tb_Text_step [vR 1 0] s)).symm
set_option maxRecDepth 100000 in
set_option maxHeartbeats 400000 in
theorem Text_isRead_eq (d : Nat)  (s : xS) : ev (d + 1) f_Text_isRead [vR 1 0] s =
    if (s.1 1 0 3 : Int32) = s.1 1 0 1 then
      some (some (vI (x_nb 1)), s)
    else
      some (some (vI (x_nb 0)), s) := (x_adv_out (K := x_K) (P := x_Pr) (d := d + 1) (M := tb_Text_isRead) [] 12 (x_st0 tb_Text_isRead [vR 1 0] s)).symm
set_option maxRecDepth 100000 in
set_option maxHeartbeats 400000 in
theorem Text_digitHere_eq (d : Nat) (x1 : Int32) (x2 : Int32) (s : xS) : ev (d + 1) f_Text_digitHere [vR 1 0, vI x1, vI x2] s =
    bI (ev d f_Text_here [vR 1 0] s) fun r2 s1 =>
    if (r2 - 48 : Int32) < x1 then
      some (some (vI (-1)), s1)
    else
      if (x2 : Int32) < r2 - 48 then
        some (some (vI (-1)), s1)
      else
        some (some (vI (r2 - 48)), s1) := (x_adv_out (K := x_K) (P := x_Pr) (d := d + 1) (M := tb_Text_digitHere) [] 18 (x_st0 tb_Text_digitHere [vR 1 0, vI x1, vI x2] s)).symm
set_option maxRecDepth 100000 in
set_option maxHeartbeats 400000 in
theorem Text_takeDigit_eq (d : Nat) (x1 : Int32) (x2 : Int32) (s : xS) : ev (d + 1) f_Text_takeDigit [vR 1 0, vI x1, vI x2] s =
    bI (ev d f_Text_digitHere [vR 1 0, vI x1, vI x2] s) fun r2 s1 =>
    if (r2 : Int32) = (-1) then
      some (some (vI r2), s1)
    else
      bV (ev d f_Text_step [vR 1 0] s1) fun s3 =>
      some (some (vI r2), s3) := (x_adv_out (K := x_K) (P := x_Pr) (d := d + 1) (M := tb_Text_takeDigit) [] 15 (x_st0 tb_Text_takeDigit [vR 1 0, vI x1, vI x2] s)).symm
set_option maxRecDepth 100000 in
set_option maxHeartbeats 400000 in
theorem Text_digitAt_eq (d : Nat) (x1 : Int32) (s : xS) : ev (d + 1) f_Text_digitAt [vR 1 0, vI x1] s =
    if (x1 : Int32) < 0 then
      some (some (vI (-1)), s)
    else
      if (x1 : Int32) < s.1 1 0 1 then
        if x_in x1 80 then
        some (some (vI ((s.1 14 0 (x1 : Int32).toNatClampNeg) - 48)), s)
        else none
      else
        some (some (vI (-1)), s) := (x_adv_out (K := x_K) (P := x_Pr) (d := d + 1) (M := tb_Text_digitAt) [] 18 (x_st0 tb_Text_digitAt [vR 1 0, vI x1] s)).symm

/-! Printed by gen.py: what methods come to. -/
set_option maxRecDepth 100000 in
set_option maxHeartbeats 400000 in
theorem Numbers_clear_eq (d : Nat)  (s : xS) : ev (d + 1) f_Numbers_clear [vR 10 0] s =
    some (none, wI s 10 0 1 0) := (x_adv_out (K := x_K) (P := x_Pr) (d := d + 1) (M := tb_Numbers_clear) [] 7 (x_st0 tb_Numbers_clear [vR 10 0] s)).symm
set_option maxRecDepth 100000 in
set_option maxHeartbeats 400000 in
theorem Numbers_add_eq (d : Nat) (x1 : Int64) (s : xS) : ev (d + 1) f_Numbers_add [vR 10 0, vL x1] s =
    if (s.1 10 0 1 : Int32) < Int32.ofNat 16 then
      if x_in (s.1 10 0 1) 16 then
      some (none, wI (wL s 38 0 (s.1 10 0 1 : Int32).toNatClampNeg x1) 10 0 1 ((s.1 10 0 1) + 1))
      else none
    else
      some (none, s) := (x_adv_out (K := x_K) (P := x_Pr) (d := d + 1) (M := tb_Numbers_add) [] 22 (x_st0 tb_Numbers_add [vR 10 0, vL x1] s)).symm
set_option maxRecDepth 100000 in
set_option maxHeartbeats 400000 in
theorem Numbers_addFirst_eq (d : Nat) (x1 : Int64) (s : xS) : ev (d + 1) f_Numbers_addFirst [vR 10 0, vL x1] s =
    if (s.1 10 0 1 : Int32) = 0 then
      bV (ev d f_Numbers_add [vR 10 0, vL x1] s) fun s1 =>
      some (none, s1)
    else
      some (none, s) := (x_adv_out (K := x_K) (P := x_Pr) (d := d + 1) (M := tb_Numbers_addFirst) [] 10 (x_st0 tb_Numbers_addFirst [vR 10 0, vL x1] s)).symm
set_option maxRecDepth 100000 in
set_option maxHeartbeats 400000 in
theorem Numbers_tellOne_eq (d : Nat) (x1 : Int64) (s : xS) : ev (d + 1) f_Numbers_tellOne [vR 10 0, vL x1] s =
    bV (ev d f_Numbers_clear [vR 10 0] s) fun s1 =>
    bV (ev d f_Numbers_add [vR 10 0, vL x1] s1) fun s2 =>
    some (none, s2) := (x_adv_out (K := x_K) (P := x_Pr) (d := d + 1) (M := tb_Numbers_tellOne) [] 9 (x_st0 tb_Numbers_tellOne [vR 10 0, vL x1] s)).symm
set_option maxRecDepth 100000 in
set_option maxHeartbeats 400000 in
theorem Numbers_tellTwo_eq (d : Nat) (x1 : Int64) (x2 : Int64) (s : xS) : ev (d + 1) f_Numbers_tellTwo [vR 10 0, vL x1, vL x2] s =
    bV (ev d f_Numbers_tellOne [vR 10 0, vL x1] s) fun s1 =>
    bV (ev d f_Numbers_add [vR 10 0, vL x2] s1) fun s2 =>
    some (none, s2) := (x_adv_out (K := x_K) (P := x_Pr) (d := d + 1) (M := tb_Numbers_tellTwo) [] 10 (x_st0 tb_Numbers_tellTwo [vR 10 0, vL x1, vL x2] s)).symm
set_option maxRecDepth 100000 in
set_option maxHeartbeats 400000 in
theorem Numbers_has_eq (d : Nat) (x1 : Int32) (s : xS) : ev (d + 1) f_Numbers_has [vR 10 0, vI x1] s =
    if (x1 : Int32) < 0 then
      some (some (vI (x_nb 0)), s)
    else
      if (x1 : Int32) < s.1 10 0 1 then
        some (some (vI (x_nb 1)), s)
      else
        some (some (vI (x_nb 0)), s) := (x_adv_out (K := x_K) (P := x_Pr) (d := d + 1) (M := tb_Numbers_has) [] 13 (x_st0 tb_Numbers_has [vR 10 0, vI x1] s)).symm
set_option maxRecDepth 100000 in
set_option maxHeartbeats 400000 in
theorem Numbers_get_eq (d : Nat) (x1 : Int32) (s : xS) : ev (d + 1) f_Numbers_get [vR 10 0, vI x1] s =
    bI (ev d f_Numbers_has [vR 10 0, vI x1] s) fun r2 s1 =>
    if (r2 : Int32) = 0 then
      some (some (vL 0), s1)
    else
      if x_in x1 16 then
      some (some (vL (s1.2 38 0 (x1 : Int32).toNatClampNeg)), s1)
      else none := (x_adv_out (K := x_K) (P := x_Pr) (d := d + 1) (M := tb_Numbers_get) [] 14 (x_st0 tb_Numbers_get [vR 10 0, vI x1] s)).symm

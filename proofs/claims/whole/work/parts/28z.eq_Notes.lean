/-! Printed by gen.py: what methods come to. -/
set_option maxRecDepth 100000 in
set_option maxHeartbeats 400000 in
theorem Notes_addS_eq (d : Nat) (x1 : Int32) (s : xS) : ev (d + 1) f_Notes_add [vR 11 0, vI x1] s =
    if (s.1 11 0 1 : Int32) < Int32.ofNat 10 then
      if x_in (s.1 11 0 1) 10 then
      some (some (vI (x_nb 1)), wI (wI s 39 0 (s.1 11 0 1 : Int32).toNatClampNeg x1) 11 0 1 ((s.1 11 0 1) + 1))
      else none
    else
      some (some (vI (x_nb 0)), s) := (x_adv_out (K := x_K) (P := x_Pr) (d := d + 1) (M := tb_Notes_add) [] 25 (x_st0 tb_Notes_add [vR 11 0, vI x1] s)).symm
set_option maxRecDepth 100000 in
set_option maxHeartbeats 400000 in
theorem Notes_addT_eq (d : Nat) (x1 : Int32) (s : xS) : ev (d + 1) f_Notes_add [vR 12 0, vI x1] s =
    if (s.1 12 0 1 : Int32) < Int32.ofNat 12 then
      if x_in (s.1 12 0 1) 12 then
      some (some (vI (x_nb 1)), wI (wI s 40 0 (s.1 12 0 1 : Int32).toNatClampNeg x1) 12 0 1 ((s.1 12 0 1) + 1))
      else none
    else
      some (some (vI (x_nb 0)), s) := (x_adv_out (K := x_K) (P := x_Pr) (d := d + 1) (M := tb_Notes_add) [] 25 (x_st0 tb_Notes_add [vR 12 0, vI x1] s)).symm
set_option maxRecDepth 100000 in
set_option maxHeartbeats 400000 in
theorem Notes_getS_eq (d : Nat) (x1 : Int32) (s : xS) : ev (d + 1) f_Notes_get [vR 11 0, vI x1] s =
    if (x1 : Int32) < 0 then
      some (some (vI 0), s)
    else
      if (x1 : Int32) < s.1 11 0 1 then
        if x_in x1 10 then
        some (some (vI (s.1 39 0 (x1 : Int32).toNatClampNeg)), s)
        else none
      else
        some (some (vI 0), s) := (x_adv_out (K := x_K) (P := x_Pr) (d := d + 1) (M := tb_Notes_get) [] 16 (x_st0 tb_Notes_get [vR 11 0, vI x1] s)).symm
set_option maxRecDepth 100000 in
set_option maxHeartbeats 400000 in
theorem Notes_getT_eq (d : Nat) (x1 : Int32) (s : xS) : ev (d + 1) f_Notes_get [vR 12 0, vI x1] s =
    if (x1 : Int32) < 0 then
      some (some (vI 0), s)
    else
      if (x1 : Int32) < s.1 12 0 1 then
        if x_in x1 12 then
        some (some (vI (s.1 40 0 (x1 : Int32).toNatClampNeg)), s)
        else none
      else
        some (some (vI 0), s) := (x_adv_out (K := x_K) (P := x_Pr) (d := d + 1) (M := tb_Notes_get) [] 16 (x_st0 tb_Notes_get [vR 12 0, vI x1] s)).symm
set_option maxRecDepth 100000 in
set_option maxHeartbeats 400000 in
theorem Notes_clearS_eq (d : Nat)  (s : xS) : ev (d + 1) f_Notes_clear [vR 11 0] s =
    some (some (vI (s.1 11 0 1)), wI s 11 0 1 0) := (x_adv_out (K := x_K) (P := x_Pr) (d := d + 1) (M := tb_Notes_clear) [] 11 (x_st0 tb_Notes_clear [vR 11 0] s)).symm
set_option maxRecDepth 100000 in
set_option maxHeartbeats 400000 in
theorem Notes_clearT_eq (d : Nat)  (s : xS) : ev (d + 1) f_Notes_clear [vR 12 0] s =
    some (some (vI (s.1 12 0 1)), wI s 12 0 1 0) := (x_adv_out (K := x_K) (P := x_Pr) (d := d + 1) (M := tb_Notes_clear) [] 11 (x_st0 tb_Notes_clear [vR 12 0] s)).symm

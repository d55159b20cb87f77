/-! Printed by gen.py: what methods come to. -/
set_option maxRecDepth 100000 in
set_option maxHeartbeats 400000 in
theorem Memory_clear_eq (d : Nat)  (s : xS) : ev (d + 1) f_Memory_clear [vR 4 0] s =
    some (none, wI (wI s 4 0 4 0) 4 0 5 0) := (x_adv_out (K := x_K) (P := x_Pr) (d := d + 1) (M := tb_Memory_clear) [] 10 (x_st0 tb_Memory_clear [vR 4 0] s)).symm
set_option maxRecDepth 100000 in
set_option maxHeartbeats 400000 in
theorem Memory_mark_eq (d : Nat) (j1 : Nat) (s : xS) : ev (d + 1) f_Memory_mark [vR 4 0, vR 3 j1] s =
    bL (ev d f_Outing_packed [vR 3 j1] s) fun r2 s1 =>
    some (none, wI (wL s1 4 0 6 r2) 4 0 7 (s1.1 3 j1 5)) := (x_adv_out (K := x_K) (P := x_Pr) (d := d + 1) (M := tb_Memory_mark) [] 12 (x_st0 tb_Memory_mark [vR 4 0, vR 3 j1] s)).symm
noncomputable def Memory_addMarked_J1 (d : Nat)  (s : xS) : Option xO := og (d + 1) tb_Memory_addMarked (49, [some (vR 4 0)], [], s)
set_option maxRecDepth 100000 in
set_option maxHeartbeats 400000 in
theorem Memory_addMarked_J1_eq (d : Nat)  (s : xS) : Memory_addMarked_J1 d  s =
    if x_in (s.1 4 0 4) 15 then
    if x_in (s.1 4 0 4) 15 then
    some (none, wI (wI (wL s 20 0 (s.1 4 0 4 : Int32).toNatClampNeg (s.2 4 0 6)) 21 0 (s.1 4 0 4 : Int32).toNatClampNeg (s.1 4 0 7)) 4 0 4 ((s.1 4 0 4) + 1))
    else none
    else none := (x_adv_out (K := x_K) (P := x_Pr) (d := d + 1) (M := tb_Memory_addMarked) [49] 50 (49, [some (vR 4 0)], [], s)).symm
set_option maxRecDepth 100000 in
set_option maxHeartbeats 400000 in
theorem Memory_addMarked_eq (d : Nat)  (s : xS) : ev (d + 1) f_Memory_addMarked [vR 4 0] s =
    if (s.1 4 0 4 : Int32) = 15 then
      bV (ev d 1002 [vR 20 0, vI 1, vR 20 0, vI 0, vI 14] s) fun s1 =>
      bV (ev d 1002 [vR 21 0, vI 1, vR 21 0, vI 0, vI 14] s1) fun s2 =>
      Memory_addMarked_J1 d (wI s2 4 0 4 ((s2.1 4 0 4) - 1))
    else
      Memory_addMarked_J1 d s := (x_adv_out (K := x_K) (P := x_Pr) (d := d + 1) (M := tb_Memory_addMarked) [49] 50 (x_st0 tb_Memory_addMarked [vR 4 0] s)).symm
set_option maxRecDepth 100000 in
set_option maxHeartbeats 400000 in
theorem Memory_undoInto_eq (d : Nat) (j1 : Nat) (s : xS) : ev (d + 1) f_Memory_undoInto [vR 4 0, vR 3 j1] s =
    if (s.1 4 0 4 : Int32) = 0 then
      some (some (vI (-1)), s)
    else
      if x_in ((s.1 4 0 4) - 1) 15 then
      if x_in ((s.1 4 0 4) - 1) 15 then
      bV (ev d f_Outing_unpack [vR 3 j1, vL (s.2 20 0 ((s.1 4 0 4) - 1 : Int32).toNatClampNeg), vI (s.1 21 0 ((s.1 4 0 4) - 1 : Int32).toNatClampNeg)] (wI s 4 0 4 ((s.1 4 0 4) - 1))) fun s1 =>
      some (some (vI (s1.1 4 0 4)), s1)
      else none
      else none := (x_adv_out (K := x_K) (P := x_Pr) (d := d + 1) (M := tb_Memory_undoInto) [] 29 (x_st0 tb_Memory_undoInto [vR 4 0, vR 3 j1] s)).symm
set_option maxRecDepth 100000 in
set_option maxHeartbeats 400000 in
theorem Memory_store_eq (d : Nat) (x1 : Int32) (j2 : Nat) (s : xS) : ev (d + 1) f_Memory_store [vR 4 0, vI x1, vR 3 j2] s =
    if (x1 : Int32) < 0 then
      some (some (vI (x_nb 0)), s)
    else
      if (x1 : Int32) < 3 then
        bL (ev d f_Outing_packed [vR 3 j2] s) fun r2 s1 =>
        if x_in x1 3 then
        if x_in x1 3 then
        some (some (vI (x_nb 1)), wI (wI (wL s1 22 0 (x1 : Int32).toNatClampNeg r2) 23 0 (x1 : Int32).toNatClampNeg (s1.1 3 j2 5)) 4 0 5 ((s1.1 4 0 5) ||| (jshl 1 x1)))
        else none
        else none
      else
        some (some (vI (x_nb 0)), s) := (x_adv_out (K := x_K) (P := x_Pr) (d := d + 1) (M := tb_Memory_store) [] 32 (x_st0 tb_Memory_store [vR 4 0, vI x1, vR 3 j2] s)).symm
set_option maxRecDepth 100000 in
set_option maxHeartbeats 400000 in
theorem Memory_fetch_eq (d : Nat) (x1 : Int32) (j2 : Nat) (s : xS) : ev (d + 1) f_Memory_fetch [vR 4 0, vI x1, vR 3 j2] s =
    if (x1 : Int32) < 0 then
      some (some (vI (x_nb 0)), s)
    else
      if (x1 : Int32) < 3 then
        if ((jshr (s.1 4 0 5) x1) &&& 1 : Int32) = 0 then
          some (some (vI (x_nb 0)), s)
        else
          if x_in x1 3 then
          if x_in x1 3 then
          bV (ev d f_Outing_unpack [vR 3 j2, vL (s.2 22 0 (x1 : Int32).toNatClampNeg), vI (s.1 23 0 (x1 : Int32).toNatClampNeg)] s) fun s1 =>
          some (some (vI (x_nb 1)), wI s1 4 0 4 0)
          else none
          else none
      else
        some (some (vI (x_nb 0)), s) := (x_adv_out (K := x_K) (P := x_Pr) (d := d + 1) (M := tb_Memory_fetch) [] 32 (x_st0 tb_Memory_fetch [vR 4 0, vI x1, vR 3 j2] s)).symm

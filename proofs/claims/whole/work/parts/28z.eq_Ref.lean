/-! Printed by gen.py: what methods come to. -/
set_option maxRecDepth 100000 in
set_option maxHeartbeats 400000 in
theorem Ref_thrown_eq (d : Nat)  (s : xS) : ev (d + 1) f_Ref_thrown [vR 13 0] s =
    some (some (vI (s.1 13 0 0)), s) := (x_adv_out (K := x_K) (P := x_Pr) (d := d + 1) (M := tb_Ref_thrown) [] 6 (x_st0 tb_Ref_thrown [vR 13 0] s)).symm
set_option maxRecDepth 100000 in
set_option maxHeartbeats 400000 in
theorem Ref_refuse_eq (d : Nat)  (s : xS) : ev (d + 1) f_Ref_refuse [vR 13 0] s =
    some (some (vI 0), wI s 13 0 0 1) := (x_adv_out (K := x_K) (P := x_Pr) (d := d + 1) (M := tb_Ref_refuse) [] 8 (x_st0 tb_Ref_refuse [vR 13 0] s)).symm
set_option maxRecDepth 100000 in
set_option maxHeartbeats 400000 in
theorem Ref_in_eq (d : Nat) (x1 : Int64) (x2 : Int64) (x3 : Int64) (s : xS) : ev (d + 1) f_Ref_in [vL x1, vL x2, vL x3] s =
    if (lg_cmp x1 x2 : Int32) < 0 then
      some (some (vI (x_nb 0)), s)
    else
      if (0 : Int32) < lg_cmp x1 x3 then
        some (some (vI (x_nb 0)), s)
      else
        some (some (vI (x_nb 1)), s) := (x_adv_out (K := x_K) (P := x_Pr) (d := d + 1) (M := tb_Ref_in) [] 15 (x_st0 tb_Ref_in [vL x1, vL x2, vL x3] s)).symm
set_option maxRecDepth 100000 in
set_option maxHeartbeats 400000 in
theorem Ref_has_eq (d : Nat) (x1 : Int64) (x2 : Int32) (s : xS) : ev (d + 1) f_Ref_has [vL x1, vI x2] s =
    if (lg_cmp ((jlshr x1 x2) &&& 1) 1 : Int32) = 0 then
      some (some (vI (x_nb 1)), s)
    else
      some (some (vI (x_nb 0)), s) := (x_adv_out (K := x_K) (P := x_Pr) (d := d + 1) (M := tb_Ref_has) [] 15 (x_st0 tb_Ref_has [vL x1, vI x2] s)).symm
set_option maxRecDepth 100000 in
set_option maxHeartbeats 400000 in
theorem Ref_flag_eq (d : Nat) (x1 : Int32) (s : xS) : ev (d + 1) f_Ref_flag [vI x1] s =
    if (x1 : Int32) = 0 then
      some (some (vI 0), s)
    else
      some (some (vI 1), s) := (x_adv_out (K := x_K) (P := x_Pr) (d := d + 1) (M := tb_Ref_flag) [] 9 (x_st0 tb_Ref_flag [vI x1] s)).symm
set_option maxRecDepth 100000 in
set_option maxHeartbeats 400000 in
theorem Ref_common_eq (d : Nat) (x1 : Int64) (x2 : Int64) (s : xS) : ev (d + 1) f_Ref_common [vL x1, vL x2] s =
    if (lg_cmp x2 0 : Int32) = 0 then
      some (some (vL x1), s)
    else
      if (x2 : Int64) = 0 then none else
      bL (ev d f_Ref_common [vL x2, vL (jlrem x1 x2)] s) fun r2 s1 =>
        some (some (vL r2), s1) := (x_adv_out (K := x_K) (P := x_Pr) (d := d + 1) (M := tb_Ref_common) [] 15 (x_st0 tb_Ref_common [vL x1, vL x2] s)).symm
set_option maxRecDepth 100000 in
set_option maxHeartbeats 400000 in
theorem Ref_enters_eq (d : Nat) (x1 : Int64) (s : xS) : ev (d + 1) f_Ref_enters [vR 13 0, vL x1] s =
    if x_in (s.1 13 0 1) 24 then
    some (none, wI (wL s 41 0 (s.1 13 0 1 : Int32).toNatClampNeg x1) 13 0 1 ((s.1 13 0 1) + 1))
    else none := (x_adv_out (K := x_K) (P := x_Pr) (d := d + 1) (M := tb_Ref_enters) [] 16 (x_st0 tb_Ref_enters [vR 13 0, vL x1] s)).symm
set_option maxRecDepth 100000 in
set_option maxHeartbeats 400000 in
theorem Ref_fields_eq (d : Nat)  (s : xS) : ev (d + 1) f_Ref_fields [vR 13 0] s =
    some (some (vI ((s.1 13 0 3) * (s.1 13 0 4))), s) := (x_adv_out (K := x_K) (P := x_Pr) (d := d + 1) (M := tb_Ref_fields) [] 9 (x_st0 tb_Ref_fields [vR 13 0] s)).symm
set_option maxRecDepth 100000 in
set_option maxHeartbeats 400000 in
theorem Ref_isField_eq (d : Nat) (x1 : Int32) (s : xS) : ev (d + 1) f_Ref_isField [vR 13 0, vI x1] s =
    bI (ev d f_Ref_fields [vR 13 0] s) fun r2 s1 =>
    bI (ev d f_Ref_in [vL ((x1 : Int32).toInt64), vL 0, vL ((r2 - 1 : Int32).toInt64)] s1) fun r4 s3 =>
    some (some (vI (x_nb r4)), s3) := (x_adv_out (K := x_K) (P := x_Pr) (d := d + 1) (M := tb_Ref_isField) [] 13 (x_st0 tb_Ref_isField [vR 13 0, vI x1] s)).symm
set_option maxRecDepth 100000 in
set_option maxHeartbeats 400000 in
theorem Ref_isPram_eq (d : Nat) (x1 : Int32) (s : xS) : ev (d + 1) f_Ref_isPram [vR 13 0, vI x1] s =
    bI (ev d f_Ref_in [vL ((x1 : Int32).toInt64), vL 0, vL (((s.1 13 0 6) - 1 : Int32).toInt64)] s) fun r2 s1 =>
    some (some (vI (x_nb r2)), s1) := (x_adv_out (K := x_K) (P := x_Pr) (d := d + 1) (M := tb_Ref_isPram) [] 13 (x_st0 tb_Ref_isPram [vR 13 0, vI x1] s)).symm
set_option maxRecDepth 100000 in
set_option maxHeartbeats 400000 in
theorem Ref_isOpen_eq (d : Nat) (x1 : Int32) (s : xS) : ev (d + 1) f_Ref_isOpen [vR 13 0, vI x1] s =
    bI (ev d f_Ref_isField [vR 13 0, vI x1] s) fun r2 s1 =>
    if (r2 : Int32) = 0 then
      some (some (vI (x_nb 0)), s1)
    else
      if x_in x1 36 then
      if (s1.1 42 0 (x1 : Int32).toNatClampNeg : Int32) = 1 then
        some (some (vI (x_nb 0)), s1)
      else
        some (some (vI (x_nb 1)), s1)
      else none := (x_adv_out (K := x_K) (P := x_Pr) (d := d + 1) (M := tb_Ref_isOpen) [] 17 (x_st0 tb_Ref_isOpen [vR 13 0, vI x1] s)).symm
noncomputable def Ref_beside_J1 (d : Nat) (y2 : Int32) (y3 : Int32) (y4 : Int32) (y5 : Int32) (s : xS) : Option xO := og (d + 1) tb_Ref_beside (24, [some (vR 13 0), some (vI y2), some (vI y3), none, none], [vI y4, vI y5], s)
noncomputable def Ref_beside_J2 (d : Nat) (y2 : Int32) (y3 : Int32) (y4 : Int32) (s : xS) : Option xO := og (d + 1) tb_Ref_beside (51, [some (vR 13 0), none, none, some (vI y2), none], [vI y3, vI y4], s)
set_option maxRecDepth 100000 in
set_option maxHeartbeats 400000 in
theorem Ref_beside_J1_eq (d : Nat) (y2 : Int32) (y3 : Int32) (y4 : Int32) (y5 : Int32) (s : xS) : Ref_beside_J1 d y2 y3 y4 y5 s =
    if (s.1 13 0 4 : Int32) = 0 then none else
    if (y3 : Int32) = 1 then
        Ref_beside_J2 d (y5 + y4) 1 (jrem y2 (s.1 13 0 4)) s
      else
        if (y3 : Int32) = 3 then
          Ref_beside_J2 d (y5 + y4) (-1) (jrem y2 (s.1 13 0 4)) s
        else
          Ref_beside_J2 d (y5 + y4) 0 (jrem y2 (s.1 13 0 4)) s := (x_adv_out (K := x_K) (P := x_Pr) (d := d + 1) (M := tb_Ref_beside) [24, 51] 65 (24, [some (vR 13 0), some (vI y2), some (vI y3), none, none], [vI y4, vI y5], s)).symm
set_option maxRecDepth 100000 in
set_option maxHeartbeats 400000 in
theorem Ref_beside_J2_eq (d : Nat) (y2 : Int32) (y3 : Int32) (y4 : Int32) (s : xS) : Ref_beside_J2 d y2 y3 y4 s =
    bI (ev d f_Ref_in [vL ((y2 : Int32).toInt64), vL 0, vL (((s.1 13 0 3) - 1 : Int32).toInt64)] s) fun r2 s1 =>
    if (r2 : Int32) = 0 then
      some (some (vI (-1)), s1)
    else
      bI (ev d f_Ref_in [vL ((y4 + y3 : Int32).toInt64), vL 0, vL (((s1.1 13 0 4) - 1 : Int32).toInt64)] s1) fun r4 s3 =>
      if (r4 : Int32) = 0 then
        some (some (vI (-1)), s3)
      else
        some (some (vI ((y2 * (s3.1 13 0 4)) + (y4 + y3))), s3) := (x_adv_out (K := x_K) (P := x_Pr) (d := d + 1) (M := tb_Ref_beside) [24, 51] 65 (51, [some (vR 13 0), none, none, some (vI y2), none], [vI y3, vI y4], s)).symm
set_option maxRecDepth 100000 in
set_option maxHeartbeats 400000 in
theorem Ref_beside_eq (d : Nat) (x1 : Int32) (x2 : Int32) (s : xS) : ev (d + 1) f_Ref_beside [vR 13 0, vI x1, vI x2] s =
    if (s.1 13 0 4 : Int32) = 0 then none else
    if (x2 : Int32) = 0 then
        Ref_beside_J1 d x1 x2 (-1) (x1 / (s.1 13 0 4)) s
      else
        if (x2 : Int32) = 2 then
          Ref_beside_J1 d x1 x2 1 (x1 / (s.1 13 0 4)) s
        else
          Ref_beside_J1 d x1 x2 0 (x1 / (s.1 13 0 4)) s := (x_adv_out (K := x_K) (P := x_Pr) (d := d + 1) (M := tb_Ref_beside) [24, 51] 65 (x_st0 tb_Ref_beside [vR 13 0, vI x1, vI x2] s)).symm
noncomputable def Ref_copies_L1 (d : Nat) (y2 : Int32) (s : xS) : Option xO := og (d + 1) tb_Ref_copies (2, [some (vR 13 0), some (vI y2)], [], s)
set_option maxRecDepth 100000 in
set_option maxHeartbeats 400000 in
theorem Ref_copies_L1_eq (d : Nat) (y2 : Int32) (s : xS) : Ref_copies_L1 d y2 s =
    if (y2 : Int32) < 17 then
      if x_in y2 17 then
      if x_in y2 17 then
      Ref_copies_L1 d (y2 + 1) (wI s 43 1 (y2 : Int32).toNatClampNeg (s.1 43 0 (y2 : Int32).toNatClampNeg))
      else none
      else none
    else
      some (none, s) := (x_adv_out (K := x_K) (P := x_Pr) (d := d + 1) (M := tb_Ref_copies) [2] 19 (2, [some (vR 13 0), some (vI y2)], [], s)).symm
set_option maxRecDepth 100000 in
set_option maxHeartbeats 400000 in
theorem Ref_copies_eq (d : Nat)  (s : xS) : ev (d + 1) f_Ref_copies [vR 13 0] s =
    Ref_copies_L1 d 0 s := (x_adv_out (K := x_K) (P := x_Pr) (d := d + 1) (M := tb_Ref_copies) [2] 19 (x_st0 tb_Ref_copies [vR 13 0] s)).symm
noncomputable def Ref_sign_L1 (d : Nat) (y2 : Int32) (y3 : Int32) (s : xS) : Option xO := og (d + 1) tb_Ref_sign (18, [some (vR 13 0), some (vI y2), some (vI y3)], [], s)
set_option maxRecDepth 100000 in
set_option maxHeartbeats 400000 in
theorem Ref_sign_L1_eq (d : Nat) (y2 : Int32) (y3 : Int32) (s : xS) : Ref_sign_L1 d y2 y3 s =
    if (y3 : Int32) < 4 then
      if x_in ((s.1 13 0 11) + y3) 80 then
      Ref_sign_L1 d y2 (y3 + 1) (wI s 44 0 ((s.1 13 0 11) + y3 : Int32).toNatClampNeg ((jshr y2 (24 - (8 * y3))) &&& 255))
      else none
    else
      some (some (vI ((s.1 13 0 11) + 4)), wI s 13 0 11 ((s.1 13 0 11) + 4)) := (x_adv_out (K := x_K) (P := x_Pr) (d := d + 1) (M := tb_Ref_sign) [18] 44 (18, [some (vR 13 0), some (vI y2), some (vI y3)], [], s)).symm
set_option maxRecDepth 100000 in
set_option maxHeartbeats 400000 in
theorem Ref_sign_eq (d : Nat) (x1 : Int32) (s : xS) : ev (d + 1) f_Ref_sign [vR 13 0, vI x1] s =
    if (76 : Int32) < s.1 13 0 11 then
      some (some (vI (-1)), wI s 13 0 0 0)
    else
      Ref_sign_L1 d x1 0 (wI s 13 0 0 0) := (x_adv_out (K := x_K) (P := x_Pr) (d := d + 1) (M := tb_Ref_sign) [18] 44 (x_st0 tb_Ref_sign [vR 13 0, vI x1] s)).symm
set_option maxRecDepth 100000 in
set_option maxHeartbeats 400000 in
theorem Ref_end_eq (d : Nat) (x1 : Int32) (s : xS) : ev (d + 1) f_Ref_end [vR 13 0, vI x1] s =
    bI (ev d f_Ref_in [vL ((x1 : Int32).toInt64), vL 0, vL ((s.1 13 0 11 : Int32).toInt64)] (wI s 13 0 0 0)) fun r2 s1 =>
    if (r2 : Int32) = 0 then
      some (some (vI (x_nb 0)), s1)
    else
      some (some (vI (x_nb 1)), wI s1 13 0 11 x1) := (x_adv_out (K := x_K) (P := x_Pr) (d := d + 1) (M := tb_Ref_end) [] 21 (x_st0 tb_Ref_end [vR 13 0, vI x1] s)).symm
set_option maxRecDepth 100000 in
set_option maxHeartbeats 400000 in
theorem Ref_begins_eq (d : Nat) (x1 : Int32) (s : xS) : ev (d + 1) f_Ref_begins [vR 13 0, vI x1] s =
    bI (ev d f_Math_min [vI (s.1 13 0 11), vI x1] (wI (wI (wI s 13 0 11 0) 13 0 12 0) 13 0 14 0)) fun r2 s1 =>
    some (some (vI (s.1 13 0 11)), wI s1 13 0 13 r2) := (x_adv_out (K := x_K) (P := x_Pr) (d := d + 1) (M := tb_Ref_begins) [] 22 (x_st0 tb_Ref_begins [vR 13 0, vI x1] s)).symm
noncomputable def Ref_takes_J1 (d : Nat) (y2 : Int32) (s : xS) : Option xO := og (d + 1) tb_Ref_takes (29, [some (vR 13 0), none, none], [vI y2], s)
set_option maxRecDepth 100000 in
set_option maxHeartbeats 400000 in
theorem Ref_takes_J1_eq (d : Nat) (y2 : Int32) (s : xS) : Ref_takes_J1 d y2 s =
    bI (ev d f_Ref_flag [vI y2] s) fun r2 s1 =>
    some (some (vI (x_nb y2)), wI s1 13 0 12 ((s.1 13 0 12) + r2)) := (x_adv_out (K := x_K) (P := x_Pr) (d := d + 1) (M := tb_Ref_takes) [29] 28 (29, [some (vR 13 0), none, none], [vI y2], s)).symm
set_option maxRecDepth 100000 in
set_option maxHeartbeats 400000 in
theorem Ref_takes_eq (d : Nat) (x1 : Int32) (s : xS) : ev (d + 1) f_Ref_takes [vR 13 0, vI x1] s =
    if (s.1 13 0 12 : Int32) < s.1 13 0 13 then
      if x_in (s.1 13 0 12) 80 then
      if (s.1 44 0 (s.1 13 0 12 : Int32).toNatClampNeg : Int32) = x1 then
        Ref_takes_J1 d 1 s
      else
        Ref_takes_J1 d 0 s
      else none
    else
      Ref_takes_J1 d 0 s := (x_adv_out (K := x_K) (P := x_Pr) (d := d + 1) (M := tb_Ref_takes) [29] 28 (x_st0 tb_Ref_takes [vR 13 0, vI x1] s)).symm
set_option maxRecDepth 100000 in
set_option maxHeartbeats 400000 in
theorem Ref_isDigit_eq (d : Nat)  (s : xS) : ev (d + 1) f_Ref_isDigit [vR 13 0] s =
    if (s.1 13 0 12 : Int32) < s.1 13 0 13 then
      if x_in (s.1 13 0 12) 80 then
      bI (ev d f_Ref_in [vL ((s.1 44 0 (s.1 13 0 12 : Int32).toNatClampNeg : Int32).toInt64), vL 48, vL 57] s) fun r2 s1 =>
      if (r2 : Int32) = 0 then
        some (some (vI (x_nb 0)), s1)
      else
        some (some (vI (x_nb 1)), s1)
      else none
    else
      some (some (vI (x_nb 0)), s) := (x_adv_out (K := x_K) (P := x_Pr) (d := d + 1) (M := tb_Ref_isDigit) [] 22 (x_st0 tb_Ref_isDigit [vR 13 0] s)).symm
noncomputable def Ref_takesOf_L1 (d : Nat) (k2 : Nat) (y3 : Int32) (s : xS) : Option xO := og (d + 1) tb_Ref_takesOf (2, [some (vR 13 0), some (vR 900 k2), some (vI y3)], [], s)
set_option maxRecDepth 100000 in
set_option maxHeartbeats 400000 in
theorem Ref_takesOf_L1_eq (d : Nat) (k2 : Nat) (y3 : Int32) (s : xS) : Ref_takesOf_L1 d k2 y3 s =
    bI (ev d 1003 [vR 900 k2] s) fun r2 s1 =>
    if (y3 : Int32) < r2 then
      if (s1.1 13 0 12 : Int32) < s1.1 13 0 13 then
        bI (ev d 1004 [vR 900 k2, vI y3] s1) fun r4 s3 =>
        if x_in (s3.1 13 0 12) 80 then
        if (r4 : Int32) = s3.1 44 0 (s3.1 13 0 12 : Int32).toNatClampNeg then
          some (some (vI y3), wI s3 13 0 12 ((s3.1 13 0 12) + 1))
        else
          Ref_takesOf_L1 d k2 (y3 + 1) s3
        else none
      else
        some (some (vI (-1)), s1)
    else
      some (some (vI (-1)), s1) := (x_adv_out (K := x_K) (P := x_Pr) (d := d + 1) (M := tb_Ref_takesOf) [2] 35 (2, [some (vR 13 0), some (vR 900 k2), some (vI y3)], [], s)).symm
set_option maxRecDepth 100000 in
set_option maxHeartbeats 400000 in
theorem Ref_takesOf_eq (d : Nat) (j1 : Nat) (s : xS) : ev (d + 1) f_Ref_takesOf [vR 13 0, vR 900 j1] s =
    Ref_takesOf_L1 d j1 0 s := (x_adv_out (K := x_K) (P := x_Pr) (d := d + 1) (M := tb_Ref_takesOf) [2] 35 (x_st0 tb_Ref_takesOf [vR 13 0, vR 900 j1] s)).symm
noncomputable def Ref_number_L1 (d : Nat) (y2 : Int32) (y3 : Int32) (y4 : Int32) (s : xS) : Option xO := og (d + 1) tb_Ref_number (13, [some (vR 13 0), some (vI y2), some (vI y3), some (vI y4)], [], s)
set_option maxRecDepth 100000 in
set_option maxHeartbeats 400000 in
theorem Ref_number_L1_eq (d : Nat) (y2 : Int32) (y3 : Int32) (y4 : Int32) (s : xS) : Ref_number_L1 d y2 y3 y4 s =
    if (y4 : Int32) < y2 then
      bI (ev d f_Ref_isDigit [vR 13 0] s) fun r4 s3 =>
      if (r4 : Int32) = 0 then
        some (some (vI y3), s3)
      else
        if x_in (s3.1 13 0 12) 80 then
        Ref_number_L1 d y2 (((10 * y3) + (s3.1 44 0 (s3.1 13 0 12 : Int32).toNatClampNeg)) - 48) (y4 + 1) (wI s3 13 0 12 ((s3.1 13 0 12) + 1))
        else none
    else
      some (some (vI y3), s) := (x_adv_out (K := x_K) (P := x_Pr) (d := d + 1) (M := tb_Ref_number) [13] 40 (13, [some (vR 13 0), some (vI y2), some (vI y3), some (vI y4)], [], s)).symm
set_option maxRecDepth 100000 in
set_option maxHeartbeats 400000 in
theorem Ref_number_eq (d : Nat) (x1 : Int32) (s : xS) : ev (d + 1) f_Ref_number [vR 13 0, vI x1] s =
    bI (ev d f_Ref_isDigit [vR 13 0] s) fun r2 s1 =>
    if (r2 : Int32) = 0 then
      some (some (vI (-1)), s1)
    else
      Ref_number_L1 d x1 0 0 s1 := (x_adv_out (K := x_K) (P := x_Pr) (d := d + 1) (M := tb_Ref_number) [13] 40 (x_st0 tb_Ref_number [vR 13 0, vI x1] s)).symm
set_option maxRecDepth 100000 in
set_option maxHeartbeats 400000 in
theorem Ref_digitIn_eq (d : Nat) (x1 : Int32) (x2 : Int32) (s : xS) : ev (d + 1) f_Ref_digitIn [vR 13 0, vI x1, vI x2] s =
    if (s.1 13 0 12 : Int32) < s.1 13 0 13 then
      if x_in (s.1 13 0 12) 80 then
      bI (ev d f_Ref_in [vL (((s.1 44 0 (s.1 13 0 12 : Int32).toNatClampNeg) - 48 : Int32).toInt64), vL ((x1 : Int32).toInt64), vL ((x2 : Int32).toInt64)] s) fun r2 s1 =>
      if (r2 : Int32) = 0 then
        some (some (vI (-1)), s1)
      else
        if x_in (((s1.1 13 0 12) + 1) - 1) 80 then
        some (some (vI ((s1.1 44 0 (((s1.1 13 0 12) + 1) - 1 : Int32).toNatClampNeg) - 48)), wI s1 13 0 12 ((s1.1 13 0 12) + 1))
        else none
      else none
    else
      some (some (vI (-1)), s) := (x_adv_out (K := x_K) (P := x_Pr) (d := d + 1) (M := tb_Ref_digitIn) [] 40 (x_st0 tb_Ref_digitIn [vR 13 0, vI x1, vI x2] s)).symm
noncomputable def Ref_faultOf_J1 (d : Nat) (y2 : Int32) (y3 : Int32) (y4 : Int32) (s : xS) : Option xO := og (d + 1) tb_Ref_faultOf (20, [some (vR 13 0), some (vI y2), some (vI y3), none, none], [vI y4], s)
noncomputable def Ref_faultOf_J2 (d : Nat) (y2 : Int32) (s : xS) : Option xO := og (d + 1) tb_Ref_faultOf (44, [some (vR 13 0), none, none, none, some (vI y2)], [], s)
set_option maxRecDepth 100000 in
set_option maxHeartbeats 400000 in
theorem Ref_faultOf_J1_eq (d : Nat) (y2 : Int32) (y3 : Int32) (y4 : Int32) (s : xS) : Ref_faultOf_J1 d y2 y3 y4 s =
    if (y3 : Int32) < y2 then
      if (y4 : Int32) = 0 then
        if (s.1 13 0 12 : Int32) < y3 then
          Ref_faultOf_J2 d y4 s
        else
          some (some (vI ((-1) - y3)), s)
      else
        some (some (vI ((-1) - y3)), s)
    else
      Ref_faultOf_J2 d y4 s := (x_adv_out (K := x_K) (P := x_Pr) (d := d + 1) (M := tb_Ref_faultOf) [20, 44] 36 (20, [some (vR 13 0), some (vI y2), some (vI y3), none, none], [vI y4], s)).symm
set_option maxRecDepth 100000 in
set_option maxHeartbeats 400000 in
theorem Ref_faultOf_J2_eq (d : Nat) (y2 : Int32) (s : xS) : Ref_faultOf_J2 d y2 s =
    if (y2 : Int32) = 0 then
      some (some (vI ((-1) - (s.1 13 0 12))), s)
    else
      some (some (vI 0), s) := (x_adv_out (K := x_K) (P := x_Pr) (d := d + 1) (M := tb_Ref_faultOf) [20, 44] 36 (44, [some (vR 13 0), none, none, none, some (vI y2)], [], s)).symm
set_option maxRecDepth 100000 in
set_option maxHeartbeats 400000 in
theorem Ref_faultOf_eq (d : Nat) (x1 : Int32) (x2 : Int32) (x3 : Int32) (s : xS) : ev (d + 1) f_Ref_faultOf [vR 13 0, vI x1, vI x2, vI x3] s =
    if (x3 : Int32) = 0 then
      Ref_faultOf_J1 d x1 x2 0 s
    else
      if (s.1 13 0 12 : Int32) = s.1 13 0 13 then
        Ref_faultOf_J1 d x1 x2 1 s
      else
        Ref_faultOf_J1 d x1 x2 0 s := (x_adv_out (K := x_K) (P := x_Pr) (d := d + 1) (M := tb_Ref_faultOf) [20, 44] 36 (x_st0 tb_Ref_faultOf [vR 13 0, vI x1, vI x2, vI x3] s)).symm
noncomputable def Ref_gardens_J1 (d : Nat) (y2 : Int32) (y3 : Int32) (s : xS) : Option xO := og (d + 1) tb_Ref_gardens (35, [some (vR 13 0), some (vI y2), none, none, none, none], [vI y3], s)
noncomputable def Ref_gardens_L2 (d : Nat) (y2 : Int32) (y3 : Int32) (y4 : Int32) (y5 : Int32) (s : xS) : Option xO := og (d + 1) tb_Ref_gardens (49, [some (vR 13 0), some (vI y2), some (vI y3), some (vI y4), some (vI y5), none], [], s)
noncomputable def Ref_gardens_J3 (d : Nat) (y2 : Int32) (y3 : Int32) (y4 : Int32) (y5 : Int32) (y6 : Int32) (s : xS) : Option xO := og (d + 1) tb_Ref_gardens (79, [some (vR 13 0), some (vI y2), some (vI y3), none, some (vI y4), some (vI y5)], [vI y6], s)
noncomputable def Ref_gardens_J4 (d : Nat) (y2 : Int32) (y3 : Int32) (y4 : Int32) (s : xS) : Option xO := og (d + 1) tb_Ref_gardens (131, [some (vR 13 0), some (vI y2), some (vI y3), some (vI y4), none, none], [], s)
noncomputable def Ref_gardens_L5 (d : Nat) (y2 : Int32) (y3 : Int32) (y4 : Int32) (s : xS) : Option xO := og (d + 1) tb_Ref_gardens (166, [some (vR 13 0), some (vI y2), some (vI y3), none, some (vI y4), none], [], s)
noncomputable def Ref_gardens_L6 (d : Nat) (y2 : Int32) (y3 : Int32) (y4 : Int32) (s : xS) : Option xO := og (d + 1) tb_Ref_gardens (202, [some (vR 13 0), some (vI y2), some (vI y3), none, some (vI y4), none], [], s)
set_option maxRecDepth 100000 in
set_option maxHeartbeats 400000 in
theorem Ref_gardens_J1_eq (d : Nat) (y2 : Int32) (y3 : Int32) (s : xS) : Ref_gardens_J1 d y2 y3 s =
    if (0 : Int32) < y3 then
      Ref_gardens_L2 d y2 y3 1 0 s
    else
      Ref_gardens_L2 d y2 y3 0 0 s := (x_adv_out (K := x_K) (P := x_Pr) (d := d + 1) (M := tb_Ref_gardens) [35, 49, 79, 131, 166, 202] 139 (35, [some (vR 13 0), some (vI y2), none, none, none, none], [vI y3], s)).symm
set_option maxRecDepth 100000 in
set_option maxHeartbeats 400000 in
theorem Ref_gardens_L2_eq (d : Nat) (y2 : Int32) (y3 : Int32) (y4 : Int32) (y5 : Int32) (s : xS) : Ref_gardens_L2 d y2 y3 y4 y5 s =
    if (y4 : Int32) = 0 then
      Ref_gardens_J4 d y2 y3 y4 s
    else
      if (y5 : Int32) < y2 * y3 then
        bI (ev d f_Ref_takesOf [vR 13 0, vR 900 0] s) fun r8 s7 =>
        if (r8 : Int32) < 0 then
          Ref_gardens_J3 d y2 y3 y5 r8 0 s7
        else
          Ref_gardens_J3 d y2 y3 y5 r8 1 s7
      else
        Ref_gardens_J4 d y2 y3 y4 s := (x_adv_out (K := x_K) (P := x_Pr) (d := d + 1) (M := tb_Ref_gardens) [35, 49, 79, 131, 166, 202] 139 (49, [some (vR 13 0), some (vI y2), some (vI y3), some (vI y4), some (vI y5), none], [], s)).symm
set_option maxRecDepth 100000 in
set_option maxHeartbeats 400000 in
theorem Ref_gardens_J3_eq (d : Nat) (y2 : Int32) (y3 : Int32) (y4 : Int32) (y5 : Int32) (y6 : Int32) (s : xS) : Ref_gardens_J3 d y2 y3 y4 y5 y6 s =
    if (y5 : Int32) < 2 then
      if x_in y4 36 then
      Ref_gardens_L2 d y2 y3 y6 (y4 + 1) (wI s 45 0 (y4 : Int32).toNatClampNeg y5)
      else none
    else
      if (y5 : Int32) < 8 then
        if x_in y4 36 then
        Ref_gardens_L2 d y2 y3 y6 (y4 + 1) (wI s 45 0 (y4 : Int32).toNatClampNeg ((10 + y5) - 2))
        else none
      else
        if x_in y4 36 then
        Ref_gardens_L2 d y2 y3 y6 (y4 + 1) (wI s 45 0 (y4 : Int32).toNatClampNeg (((20 + y5) - 2) - 6))
        else none := (x_adv_out (K := x_K) (P := x_Pr) (d := d + 1) (M := tb_Ref_gardens) [35, 49, 79, 131, 166, 202] 139 (79, [some (vR 13 0), some (vI y2), some (vI y3), none, some (vI y4), some (vI y5)], [vI y6], s)).symm
set_option maxRecDepth 100000 in
set_option maxHeartbeats 400000 in
theorem Ref_gardens_J4_eq (d : Nat) (y2 : Int32) (y3 : Int32) (y4 : Int32) (s : xS) : Ref_gardens_J4 d y2 y3 y4 s =
    if (y4 : Int32) = 0 then
      some (some (vI ((-1) - (s.1 13 0 12))), s)
    else
      if (s.1 13 0 12 : Int32) < s.1 13 0 13 then
        some (some (vI ((-1) - (s.1 13 0 12))), s)
      else
        Ref_gardens_L5 d y2 y3 0 (wI (wI s 13 0 3 y2) 13 0 4 y3) := (x_adv_out (K := x_K) (P := x_Pr) (d := d + 1) (M := tb_Ref_gardens) [35, 49, 79, 131, 166, 202] 139 (131, [some (vR 13 0), some (vI y2), some (vI y3), some (vI y4), none, none], [], s)).symm
set_option maxRecDepth 100000 in
set_option maxHeartbeats 400000 in
theorem Ref_gardens_L5_eq (d : Nat) (y2 : Int32) (y3 : Int32) (y4 : Int32) (s : xS) : Ref_gardens_L5 d y2 y3 y4 s =
    if (y4 : Int32) < y2 * y3 then
      if x_in y4 36 then
      if x_in y4 36 then
      Ref_gardens_L5 d y2 y3 (y4 + 1) (wI s 42 0 (y4 : Int32).toNatClampNeg (s.1 45 0 (y4 : Int32).toNatClampNeg))
      else none
      else none
    else
      Ref_gardens_L6 d y2 y3 0 (wI s 13 0 6 0) := (x_adv_out (K := x_K) (P := x_Pr) (d := d + 1) (M := tb_Ref_gardens) [35, 49, 79, 131, 166, 202] 139 (166, [some (vR 13 0), some (vI y2), some (vI y3), none, some (vI y4), none], [], s)).symm
set_option maxRecDepth 100000 in
set_option maxHeartbeats 400000 in
theorem Ref_gardens_L6_eq (d : Nat) (y2 : Int32) (y3 : Int32) (y4 : Int32) (s : xS) : Ref_gardens_L6 d y2 y3 y4 s =
    if (y4 : Int32) < 17 then
      if x_in y4 17 then
      Ref_gardens_L6 d y2 y3 (y4 + 1) (wI s 43 0 (y4 : Int32).toNatClampNeg 0)
      else none
    else
      some (some (vI (y2 * y3)), wI (wI s 13 0 26 0) 13 0 7 ((s.1 13 0 7) + 1)) := (x_adv_out (K := x_K) (P := x_Pr) (d := d + 1) (M := tb_Ref_gardens) [35, 49, 79, 131, 166, 202] 139 (202, [some (vR 13 0), some (vI y2), some (vI y3), none, some (vI y4), none], [], s)).symm
set_option maxRecDepth 100000 in
set_option maxHeartbeats 400000 in
theorem Ref_gardens_eq (d : Nat)  (s : xS) : ev (d + 1) f_Ref_gardens [vR 13 0] s =
    bI (ev d f_Ref_begins [vR 13 0, vI 80] (wI s 13 0 0 0)) fun r2 s1 =>
    bI (ev d f_Ref_digitIn [vR 13 0, vI 2, vI 6] s1) fun r4 s3 =>
    if (r4 : Int32) < 0 then
      Ref_gardens_J1 d r4 (-1) s3
    else
      bI (ev d f_Ref_digitIn [vR 13 0, vI 2, vI 6] s3) fun r6 s5 =>
      Ref_gardens_J1 d r4 r6 s5 := (x_adv_out (K := x_K) (P := x_Pr) (d := d + 1) (M := tb_Ref_gardens) [35, 49, 79, 131, 166, 202] 139 (x_st0 tb_Ref_gardens [vR 13 0] s)).symm
noncomputable def Ref_readsPram_J1 (d : Nat) (y2 : Int32) (y3 : Int32) (s : xS) : Option xO := og (d + 1) tb_Ref_readsPram (46, [some (vR 13 0), some (vI y2), none], [vI y3], s)
set_option maxRecDepth 100000 in
set_option maxHeartbeats 400000 in
theorem Ref_readsPram_J1_eq (d : Nat) (y2 : Int32) (y3 : Int32) (s : xS) : Ref_readsPram_J1 d y2 y3 s =
    if (y3 : Int32) < 0 then
      some (some (vI (x_nb 0)), s)
    else
      bI (ev d f_Ref_isOpen [vR 13 0, vI ((y2 * (s.1 13 0 4)) + y3)] s) fun r6 s5 =>
      if (r6 : Int32) = 0 then
        some (some (vI (x_nb 0)), wI s5 13 0 12 ((s5.1 13 0 12) - 1))
      else
        if x_in (2 * (s5.1 13 0 17)) 8 then
        bI (ev d f_Ref_digitIn [vR 13 0, vI 0, vI 3] (wI s5 46 0 (2 * (s5.1 13 0 17) : Int32).toNatClampNeg ((y2 * (s5.1 13 0 4)) + y3))) fun r8 s7 =>
        if x_in ((2 * (s5.1 13 0 17)) + 1) 8 then
        if x_in ((2 * ((s7.1 13 0 17) + 1)) - 1) 8 then
        if ((wI s7 46 0 ((2 * (s5.1 13 0 17)) + 1 : Int32).toNatClampNeg r8).1 46 0 ((2 * ((s7.1 13 0 17) + 1)) - 1 : Int32).toNatClampNeg : Int32) < 0 then
          some (some (vI (x_nb 0)), wI (wI s7 46 0 ((2 * (s5.1 13 0 17)) + 1 : Int32).toNatClampNeg r8) 13 0 17 ((s7.1 13 0 17) + 1))
        else
          some (some (vI (x_nb 1)), wI (wI s7 46 0 ((2 * (s5.1 13 0 17)) + 1 : Int32).toNatClampNeg r8) 13 0 17 ((s7.1 13 0 17) + 1))
        else none
        else none
        else none := (x_adv_out (K := x_K) (P := x_Pr) (d := d + 1) (M := tb_Ref_readsPram) [46] 99 (46, [some (vR 13 0), some (vI y2), none], [vI y3], s)).symm
set_option maxRecDepth 100000 in
set_option maxHeartbeats 400000 in
theorem Ref_readsPram_eq (d : Nat)  (s : xS) : ev (d + 1) f_Ref_readsPram [vR 13 0] s =
    if ((s.1 13 0 6) + (s.1 13 0 17) : Int32) = 4 then
      some (some (vI (x_nb 0)), s)
    else
      bI (ev d f_Ref_digitIn [vR 13 0, vI 0, vI ((s.1 13 0 3) - 1)] s) fun r2 s1 =>
      if (r2 : Int32) < 0 then
        Ref_readsPram_J1 d r2 (-1) s1
      else
        bI (ev d f_Ref_digitIn [vR 13 0, vI 0, vI ((s1.1 13 0 4) - 1)] s1) fun r4 s3 =>
        Ref_readsPram_J1 d r2 r4 s3 := (x_adv_out (K := x_K) (P := x_Pr) (d := d + 1) (M := tb_Ref_readsPram) [46] 99 (x_st0 tb_Ref_readsPram [vR 13 0] s)).symm
noncomputable def Ref_prams_L1 (d : Nat) (y2 : Int32) (y3 : Int32) (y4 : Int32) (s : xS) : Option xO := og (d + 1) tb_Ref_prams (29, [some (vR 13 0), some (vI y2), some (vI y3), some (vI y4), none, none], [], s)
noncomputable def Ref_prams_L2 (d : Nat) (y2 : Int32) (s : xS) : Option xO := og (d + 1) tb_Ref_prams (81, [some (vR 13 0), none, none, none, none, some (vI y2)], [], s)
noncomputable def Ref_prams_J3 (d : Nat) (y2 : Int32) (s : xS) : Option xO := og (d + 1) tb_Ref_prams (162, [some (vR 13 0), none, none, none, none, none], [vI y2, vR 13 0], s)
noncomputable def Ref_prams_J4 (d : Nat) (y2 : Int32) (y3 : Int32) (s : xS) : Option xO := og (d + 1) tb_Ref_prams (182, [some (vR 13 0), none, none, none, none, none], [vI y2, vI y3, vR 13 0], s)
set_option maxRecDepth 100000 in
set_option maxHeartbeats 400000 in
theorem Ref_prams_L1_eq (d : Nat) (y2 : Int32) (y3 : Int32) (y4 : Int32) (s : xS) : Ref_prams_L1 d y2 y3 y4 s =
    if (y4 : Int32) = 0 then
      bI (ev d f_Ref_faultOf [vR 13 0, vI y2, vI 15, vI y3] s) fun r4 s3 =>
      if (r4 : Int32) < 0 then
        some (some (vI r4), s3)
      else
        Ref_prams_L2 d 0 s3
    else
      bI (ev d f_Ref_readsPram [vR 13 0] s) fun r6 s5 =>
      if (r6 : Int32) = 0 then
        Ref_prams_L1 d y2 r6 0 s5
      else
        bI (ev d f_Ref_takes [vR 13 0, vI 59] s5) fun r8 s7 =>
        if (r8 : Int32) = 0 then
          Ref_prams_L1 d y2 r6 0 s7
        else
          Ref_prams_L1 d y2 r6 1 s7 := (x_adv_out (K := x_K) (P := x_Pr) (d := d + 1) (M := tb_Ref_prams) [29, 81, 162, 182] 111 (29, [some (vR 13 0), some (vI y2), some (vI y3), some (vI y4), none, none], [], s)).symm
set_option maxRecDepth 100000 in
set_option maxHeartbeats 400000 in
theorem Ref_prams_L2_eq (d : Nat) (y2 : Int32) (s : xS) : Ref_prams_L2 d y2 s =
    if (y2 : Int32) < s.1 13 0 17 then
      if x_in (2 * y2) 8 then
      if x_in (s.1 13 0 6) 17 then
      if x_in ((2 * y2) + 1) 8 then
      if x_in (4 + (s.1 13 0 6)) 17 then
      Ref_prams_L2 d (y2 + 1) (wI (wI (wI s 43 0 (s.1 13 0 6 : Int32).toNatClampNeg (s.1 46 0 (2 * y2 : Int32).toNatClampNeg)) 43 0 (4 + (s.1 13 0 6) : Int32).toNatClampNeg (s.1 46 0 ((2 * y2) + 1 : Int32).toNatClampNeg)) 13 0 6 ((s.1 13 0 6) + 1))
      else none
      else none
      else none
      else none
    else
      if (0 : Int32) < s.1 13 0 17 then
        Ref_prams_J3 d 0 s
      else
        Ref_prams_J3 d (s.1 13 0 26) s := (x_adv_out (K := x_K) (P := x_Pr) (d := d + 1) (M := tb_Ref_prams) [29, 81, 162, 182] 111 (81, [some (vR 13 0), none, none, none, none, some (vI y2)], [], s)).symm
set_option maxRecDepth 100000 in
set_option maxHeartbeats 400000 in
theorem Ref_prams_J3_eq (d : Nat) (y2 : Int32) (s : xS) : Ref_prams_J3 d y2 s =
    if (0 : Int32) < s.1 13 0 17 then
      Ref_prams_J4 d 1 (s.1 13 0 7) (wI s 13 0 26 y2)
    else
      Ref_prams_J4 d 0 (s.1 13 0 7) (wI s 13 0 26 y2) := (x_adv_out (K := x_K) (P := x_Pr) (d := d + 1) (M := tb_Ref_prams) [29, 81, 162, 182] 111 (162, [some (vR 13 0), none, none, none, none, none], [vI y2, vR 13 0], s)).symm
set_option maxRecDepth 100000 in
set_option maxHeartbeats 400000 in
theorem Ref_prams_J4_eq (d : Nat) (y2 : Int32) (y3 : Int32) (s : xS) : Ref_prams_J4 d y2 y3 s =
    bI (ev d f_Ref_flag [vI y2] s) fun r10 s9 =>
    some (some (vI (s9.1 13 0 17)), wI s9 13 0 7 (y3 + r10)) := (x_adv_out (K := x_K) (P := x_Pr) (d := d + 1) (M := tb_Ref_prams) [29, 81, 162, 182] 111 (182, [some (vR 13 0), none, none, none, none, none], [vI y2, vI y3, vR 13 0], s)).symm
set_option maxRecDepth 100000 in
set_option maxHeartbeats 400000 in
theorem Ref_prams_eq (d : Nat)  (s : xS) : ev (d + 1) f_Ref_prams [vR 13 0] s =
    bI (ev d f_Ref_begins [vR 13 0, vI 15] (wI s 13 0 0 0)) fun r2 s1 =>
    if (0 : Int32) < r2 then
      Ref_prams_L1 d r2 1 1 (wI s1 13 0 17 0)
    else
      Ref_prams_L1 d r2 1 0 (wI s1 13 0 17 0) := (x_adv_out (K := x_K) (P := x_Pr) (d := d + 1) (M := tb_Ref_prams) [29, 81, 162, 182] 111 (x_st0 tb_Ref_prams [vR 13 0] s)).symm
set_option maxRecDepth 100000 in
set_option maxHeartbeats 400000 in
theorem Ref_codes_eq (d : Nat) (x1 : Int32) (s : xS) : ev (d + 1) f_Ref_codes [vR 13 0, vI x1] s =
    if x_in (s.1 13 0 21) 80 then
    some (none, wI (wI s 47 1 (s.1 13 0 21 : Int32).toNatClampNeg x1) 13 0 21 ((s.1 13 0 21) + 1))
    else none := (x_adv_out (K := x_K) (P := x_Pr) (d := d + 1) (M := tb_Ref_codes) [] 16 (x_st0 tb_Ref_codes [vR 13 0, vI x1] s)).symm
set_option maxRecDepth 100000 in
set_option maxHeartbeats 400000 in
theorem Ref_readsThing_eq (d : Nat)  (s : xS) : ev (d + 1) f_Ref_readsThing [vR 13 0] s =
    bI (ev d f_Ref_takes [vR 13 0, vI 45] s) fun r2 s1 =>
    if (r2 : Int32) = 0 then
      bI (ev d f_Ref_isDigit [vR 13 0] s1) fun r4 s3 =>
      if (r4 : Int32) = 0 then
        bI (ev d f_Ref_takesOf [vR 13 0, vR 900 1] s3) fun r6 s5 =>
        if (r6 : Int32) < 0 then
          if (s5.1 13 0 14 : Int32) = 4 then
            some (some (vI (x_nb 0)), s5)
          else
            bI (ev d f_Ref_takes [vR 13 0, vI 40] s5) fun r8 s7 =>
            if (r8 : Int32) = 0 then
              some (some (vI (x_nb 0)), s7)
            else
              bI (ev d f_Ref_readsRank [vR 13 0, vI 0] (wI s7 13 0 14 ((s7.1 13 0 14) + 1))) fun r10 s9 =>
              if (r10 : Int32) = 0 then
                some (some (vI (x_nb 0)), s9)
              else
                bI (ev d f_Ref_takes [vR 13 0, vI 41] s9) fun r12 s11 =>
                if (r12 : Int32) = 0 then
                  some (some (vI (x_nb 0)), s11)
                else
                  some (some (vI (x_nb 1)), wI s11 13 0 14 ((s11.1 13 0 14) - 1))
        else
          bV (ev d f_Ref_codes [vR 13 0, vI (1000 + r6)] s5) fun s13 =>
          some (some (vI (x_nb 1)), s13)
      else
        bI (ev d f_Ref_number [vR 13 0, vI 3] s3) fun r15 s14 =>
        bV (ev d f_Ref_codes [vR 13 0, vI r15] s14) fun s16 =>
        some (some (vI (x_nb 1)), s16)
    else
      bI (ev d f_Ref_readsThing [vR 13 0] s1) fun r18 s17 =>
      bV (ev d f_Ref_codes [vR 13 0, vI 3000] s17) fun s19 =>
      some (some (vI (x_nb r18)), s19) := (x_adv_out (K := x_K) (P := x_Pr) (d := d + 1) (M := tb_Ref_readsThing) [] 72 (x_st0 tb_Ref_readsThing [vR 13 0] s)).symm
noncomputable def Ref_readsRank_L1 (d : Nat) (y2 : Int32) (y3 : Int32) (s : xS) : Option xO := og (d + 1) tb_Ref_readsRank (24, [some (vR 13 0), some (vI y2), some (vI y3), none], [], s)
noncomputable def Ref_readsRank_J2 (d : Nat) (y2 : Int32) (k3 : Nat) (s : xS) : Option xO := og (d + 1) tb_Ref_readsRank (50, [some (vR 13 0), some (vI y2), none, none], [vR 900 k3, vR 13 0], s)
noncomputable def Ref_readsRank_J3 (d : Nat) (y2 : Int32) (y3 : Int32) (y4 : Int32) (s : xS) : Option xO := og (d + 1) tb_Ref_readsRank (96, [some (vR 13 0), some (vI y2), none, none], [vI y3, vI y4, vR 13 0], s)
set_option maxRecDepth 100000 in
set_option maxHeartbeats 400000 in
theorem Ref_readsRank_L1_eq (d : Nat) (y2 : Int32) (y3 : Int32) (s : xS) : Ref_readsRank_L1 d y2 y3 s =
    if (y3 : Int32) = 0 then
      some (some (vI (x_nb 1)), s)
    else
      if (y2 : Int32) = 0 then
        Ref_readsRank_J2 d y2 2 s
      else
        if (y2 : Int32) = 1 then
          Ref_readsRank_J2 d y2 3 s
        else
          Ref_readsRank_J2 d y2 4 s := (x_adv_out (K := x_K) (P := x_Pr) (d := d + 1) (M := tb_Ref_readsRank) [24, 50, 96] 71 (24, [some (vR 13 0), some (vI y2), some (vI y3), none], [], s)).symm
set_option maxRecDepth 100000 in
set_option maxHeartbeats 400000 in
theorem Ref_readsRank_J2_eq (d : Nat) (y2 : Int32) (k3 : Nat) (s : xS) : Ref_readsRank_J2 d y2 k3 s =
    bI (ev d f_Ref_takesOf [vR 13 0, vR 900 k3] s) fun r6 s5 =>
    if (r6 : Int32) < 0 then
      some (some (vI (x_nb 1)), s5)
    else
      bI (ev d f_Ref_readsRank [vR 13 0, vI (y2 + 1)] s5) fun r8 s7 =>
      if (r8 : Int32) = 0 then
        some (some (vI (x_nb 0)), s7)
      else
        if (y2 : Int32) = 0 then
          Ref_readsRank_J3 d y2 0 (2000 + r6) s7
        else
          if (y2 : Int32) = 1 then
            Ref_readsRank_J3 d y2 3 (2000 + r6) s7
          else
            Ref_readsRank_J3 d y2 5 (2000 + r6) s7 := (x_adv_out (K := x_K) (P := x_Pr) (d := d + 1) (M := tb_Ref_readsRank) [24, 50, 96] 71 (50, [some (vR 13 0), some (vI y2), none, none], [vR 900 k3, vR 13 0], s)).symm
set_option maxRecDepth 100000 in
set_option maxHeartbeats 400000 in
theorem Ref_readsRank_J3_eq (d : Nat) (y2 : Int32) (y3 : Int32) (y4 : Int32) (s : xS) : Ref_readsRank_J3 d y2 y3 y4 s =
    bV (ev d f_Ref_codes [vR 13 0, vI (y4 + y3)] s) fun s9 =>
    if (0 : Int32) < y2 then
      Ref_readsRank_L1 d y2 1 s9
    else
      Ref_readsRank_L1 d y2 0 s9 := (x_adv_out (K := x_K) (P := x_Pr) (d := d + 1) (M := tb_Ref_readsRank) [24, 50, 96] 71 (96, [some (vR 13 0), some (vI y2), none, none], [vI y3, vI y4, vR 13 0], s)).symm
set_option maxRecDepth 100000 in
set_option maxHeartbeats 400000 in
theorem Ref_readsRank_eq (d : Nat) (x1 : Int32) (s : xS) : ev (d + 1) f_Ref_readsRank [vR 13 0, vI x1] s =
    if (x1 : Int32) = 3 then
      bI (ev d f_Ref_readsThing [vR 13 0] s) fun r2 s1 =>
      some (some (vI (x_nb r2)), s1)
    else
      bI (ev d f_Ref_readsRank [vR 13 0, vI (x1 + 1)] s) fun r4 s3 =>
      if (r4 : Int32) = 0 then
        some (some (vI (x_nb 0)), s3)
      else
        Ref_readsRank_L1 d x1 1 s3 := (x_adv_out (K := x_K) (P := x_Pr) (d := d + 1) (M := tb_Ref_readsRank) [24, 50, 96] 71 (x_st0 tb_Ref_readsRank [vR 13 0, vI x1] s)).symm
noncomputable def Ref_readsRule_J1 (d : Nat) (y2 : Int32) (y3 : Int32) (s : xS) : Option xO := og (d + 1) tb_Ref_readsRule (29, [some (vR 13 0), some (vI y2), none], [vI y3], s)
set_option maxRecDepth 100000 in
set_option maxHeartbeats 400000 in
theorem Ref_readsRule_J1_eq (d : Nat) (y2 : Int32) (y3 : Int32) (s : xS) : Ref_readsRule_J1 d y2 y3 s =
    bI (ev d f_Ref_faultOf [vR 13 0, vI y2, vI 40, vI y3] s) fun r6 s5 =>
    some (some (vI r6), s5) := (x_adv_out (K := x_K) (P := x_Pr) (d := d + 1) (M := tb_Ref_readsRule) [29] 26 (29, [some (vR 13 0), some (vI y2), none], [vI y3], s)).symm
set_option maxRecDepth 100000 in
set_option maxHeartbeats 400000 in
theorem Ref_readsRule_eq (d : Nat)  (s : xS) : ev (d + 1) f_Ref_readsRule [vR 13 0] s =
    bI (ev d f_Ref_begins [vR 13 0, vI 40] s) fun r2 s1 =>
    if (r2 : Int32) = 0 then
      Ref_readsRule_J1 d r2 1 (wI s1 13 0 21 0)
    else
      bI (ev d f_Ref_readsRank [vR 13 0, vI 0] (wI s1 13 0 21 0)) fun r4 s3 =>
      if (r4 : Int32) = 0 then
        Ref_readsRule_J1 d r2 0 s3
      else
        Ref_readsRule_J1 d r2 1 s3 := (x_adv_out (K := x_K) (P := x_Pr) (d := d + 1) (M := tb_Ref_readsRule) [29] 26 (x_st0 tb_Ref_readsRule [vR 13 0] s)).symm
noncomputable def Ref_laysCode_L1 (d : Nat) (k2 : Nat) (y3 : Int32) (y4 : Int32) (s : xS) : Option xO := og (d + 1) tb_Ref_laysCode (7, [some (vR 13 0), some (vR 47 k2), some (vI y3), some (vI y4)], [], s)
set_option maxRecDepth 100000 in
set_option maxHeartbeats 400000 in
theorem Ref_laysCode_L1_eq (d : Nat) (k2 : Nat) (y3 : Int32) (y4 : Int32) (s : xS) : Ref_laysCode_L1 d k2 y3 y4 s =
    if (y4 : Int32) < y3 then
      if x_in y4 80 then
      if x_in y4 80 then
      Ref_laysCode_L1 d k2 y3 (y4 + 1) (wI s 47 0 (y4 : Int32).toNatClampNeg (s.1 47 k2 (y4 : Int32).toNatClampNeg))
      else none
      else none
    else
      some (none, s) := (x_adv_out (K := x_K) (P := x_Pr) (d := d + 1) (M := tb_Ref_laysCode) [7] 21 (7, [some (vR 13 0), some (vR 47 k2), some (vI y3), some (vI y4)], [], s)).symm
set_option maxRecDepth 100000 in
set_option maxHeartbeats 400000 in
theorem Ref_laysCode_eq (d : Nat) (j1 : Nat) (x2 : Int32) (s : xS) : ev (d + 1) f_Ref_laysCode [vR 13 0, vR 47 j1, vI x2] s =
    Ref_laysCode_L1 d j1 x2 0 (wI s 13 0 20 x2) := (x_adv_out (K := x_K) (P := x_Pr) (d := d + 1) (M := tb_Ref_laysCode) [7] 21 (x_st0 tb_Ref_laysCode [vR 13 0, vR 47 j1, vI x2] s)).symm
set_option maxRecDepth 100000 in
set_option maxHeartbeats 400000 in
theorem Ref_rule_eq (d : Nat)  (s : xS) : ev (d + 1) f_Ref_rule [vR 13 0] s =
    bI (ev d f_Ref_readsRule [vR 13 0] (wI s 13 0 0 0)) fun r2 s1 =>
    if (r2 : Int32) = 0 then
      bV (ev d f_Ref_laysCode [vR 13 0, vR 47 1, vI (s1.1 13 0 21)] s1) fun s3 =>
      some (some (vI r2), s3)
    else
      some (some (vI r2), s1) := (x_adv_out (K := x_K) (P := x_Pr) (d := d + 1) (M := tb_Ref_rule) [] 19 (x_st0 tb_Ref_rule [vR 13 0] s)).symm
set_option maxRecDepth 100000 in
set_option maxHeartbeats 400000 in
theorem Ref_worked_eq (d : Nat) (x1 : Int32) (x2 : Int32) (x3 : Int32) (s : xS) : ev (d + 1) f_Ref_worked [vI x1, vI x2, vI x3] s =
    if (x1 : Int32) = 0 then
      if (x2 : Int32) < x3 then
        bI (ev d f_Ref_flag [vI 1] s) fun r2 s1 =>
        some (some (vI r2), s1)
      else
        bI (ev d f_Ref_flag [vI 0] s) fun r4 s3 =>
        some (some (vI r4), s3)
    else if (x1 : Int32) = 1 then
      if (x3 : Int32) < x2 then
        bI (ev d f_Ref_flag [vI 1] s) fun r6 s5 =>
        some (some (vI r6), s5)
      else
        bI (ev d f_Ref_flag [vI 0] s) fun r8 s7 =>
        some (some (vI r8), s7)
    else if (x1 : Int32) = 2 then
      if (x2 : Int32) = x3 then
        bI (ev d f_Ref_flag [vI 1] s) fun r10 s9 =>
        some (some (vI r10), s9)
      else
        bI (ev d f_Ref_flag [vI 0] s) fun r12 s11 =>
        some (some (vI r12), s11)
    else if (x1 : Int32) = 3 then
      some (some (vI (x2 + x3)), s)
    else if (x1 : Int32) = 4 then
      some (some (vI (x2 - x3)), s)
    else if (x1 : Int32) = 5 then
      some (some (vI (x2 * x3)), s)
    else if (x3 : Int32) = 0 then
        some (some (vI 0), s)
      else
        if (x3 : Int32) = 0 then none else
        some (some (vI (x2 / x3)), s) := (x_adv_out (K := x_K) (P := x_Pr) (d := d + 1) (M := tb_Ref_worked) [] 49 (x_st0 tb_Ref_worked [vI x1, vI x2, vI x3] s)).symm
noncomputable def Ref_ruled_L1 (d : Nat) (y2 : Int32) (y3 : Int32) (s : xS) : Option xO := og (d + 1) tb_Ref_ruled (4, [some (vR 13 0), some (vI y2), some (vI y3), none], [], s)
noncomputable def Ref_ruled_J2 (d : Nat) (y2 : Int32) (y3 : Int32) (y4 : Int32) (s : xS) : Option xO := og (d + 1) tb_Ref_ruled (46, [some (vR 13 0), some (vI y2), some (vI y3), some (vI y4)], [], s)
noncomputable def Ref_ruled_J3 (d : Nat) (y2 : Int32) (y3 : Int32) (y4 : Int32) (y5 : Int32) (s : xS) : Option xO := og (d + 1) tb_Ref_ruled (68, [some (vR 13 0), some (vI y2), some (vI y3), none], [vI y4, vI y5, vR 48 0], s)
noncomputable def Ref_ruled_J4 (d : Nat) (y2 : Int32) (y3 : Int32) (y4 : Int32) (y5 : Int32) (y6 : Int32) (y7 : Int32) (s : xS) : Option xO := og (d + 1) tb_Ref_ruled (82, [some (vR 13 0), some (vI y2), some (vI y3), none], [vI y4, vI y5, vI y6, vI y7, vR 48 0], s)
noncomputable def Ref_ruled_J5 (d : Nat) (y2 : Int32) (y3 : Int32) (y4 : Int32) (y5 : Int32) (s : xS) : Option xO := og (d + 1) tb_Ref_ruled (115, [some (vR 13 0), some (vI y2), some (vI y3), none], [vI y4, vI y5, vR 48 0], s)
set_option maxRecDepth 100000 in
set_option maxHeartbeats 400000 in
theorem Ref_ruled_L1_eq (d : Nat) (y2 : Int32) (y3 : Int32) (s : xS) : Ref_ruled_L1 d y2 y3 s =
    if (y3 : Int32) < s.1 13 0 20 then
      if x_in y3 80 then
      if (s.1 47 0 (y3 : Int32).toNatClampNeg : Int32) = 3000 then
        if x_in (y2 - 1) 80 then
        if x_in (y2 - 1) 80 then
        Ref_ruled_L1 d y2 (y3 + 1) (wI s 48 0 (y2 - 1 : Int32).toNatClampNeg (-(s.1 48 0 (y2 - 1 : Int32).toNatClampNeg)))
        else none
        else none
      else
        Ref_ruled_J2 d y2 y3 (s.1 47 0 (y3 : Int32).toNatClampNeg) s
      else none
    else
      if (s.1 13 0 20 : Int32) = 0 then
        if x_in 0 7 then
        some (some (vI (4 - (s.1 49 0 (0 : Int32).toNatClampNeg))), s)
        else none
      else
        if x_in 0 80 then
        some (some (vI (s.1 48 0 (0 : Int32).toNatClampNeg)), s)
        else none := (x_adv_out (K := x_K) (P := x_Pr) (d := d + 1) (M := tb_Ref_ruled) [4, 46, 68, 82, 115] 91 (4, [some (vR 13 0), some (vI y2), some (vI y3), none], [], s)).symm
set_option maxRecDepth 100000 in
set_option maxHeartbeats 400000 in
theorem Ref_ruled_J2_eq (d : Nat) (y2 : Int32) (y3 : Int32) (y4 : Int32) (s : xS) : Ref_ruled_J2 d y2 y3 y4 s =
    if (y4 : Int32) < 2000 then
      if (y4 : Int32) < 1000 then
        Ref_ruled_J5 d y2 y3 y4 y2 s
      else
        if x_in (y4 - 1000) 7 then
        Ref_ruled_J5 d y2 y3 (s.1 49 0 (y4 - 1000 : Int32).toNatClampNeg) y2 s
        else none
    else
      Ref_ruled_J3 d (y2 + (-1)) y3 (y4 - 2000) ((y2 + (-1)) - 1) s := (x_adv_out (K := x_K) (P := x_Pr) (d := d + 1) (M := tb_Ref_ruled) [4, 46, 68, 82, 115] 91 (46, [some (vR 13 0), some (vI y2), some (vI y3), some (vI y4)], [], s)).symm
set_option maxRecDepth 100000 in
set_option maxHeartbeats 400000 in
theorem Ref_ruled_J3_eq (d : Nat) (y2 : Int32) (y3 : Int32) (y4 : Int32) (y5 : Int32) (s : xS) : Ref_ruled_J3 d y2 y3 y4 y5 s =
    if x_in (y2 - 1) 80 then
    if x_in y2 80 then
    Ref_ruled_J4 d y2 y3 (s.1 48 0 (y2 : Int32).toNatClampNeg) (s.1 48 0 (y2 - 1 : Int32).toNatClampNeg) y4 y5 s
    else none
    else none := (x_adv_out (K := x_K) (P := x_Pr) (d := d + 1) (M := tb_Ref_ruled) [4, 46, 68, 82, 115] 91 (68, [some (vR 13 0), some (vI y2), some (vI y3), none], [vI y4, vI y5, vR 48 0], s)).symm
set_option maxRecDepth 100000 in
set_option maxHeartbeats 400000 in
theorem Ref_ruled_J4_eq (d : Nat) (y2 : Int32) (y3 : Int32) (y4 : Int32) (y5 : Int32) (y6 : Int32) (y7 : Int32) (s : xS) : Ref_ruled_J4 d y2 y3 y4 y5 y6 y7 s =
    bI (ev d f_Ref_worked [vI y6, vI y5, vI y4] s) fun r2 s1 =>
    if x_in y7 80 then
    Ref_ruled_L1 d y2 (y3 + 1) (wI s1 48 0 (y7 : Int32).toNatClampNeg r2)
    else none := (x_adv_out (K := x_K) (P := x_Pr) (d := d + 1) (M := tb_Ref_ruled) [4, 46, 68, 82, 115] 91 (82, [some (vR 13 0), some (vI y2), some (vI y3), none], [vI y4, vI y5, vI y6, vI y7, vR 48 0], s)).symm
set_option maxRecDepth 100000 in
set_option maxHeartbeats 400000 in
theorem Ref_ruled_J5_eq (d : Nat) (y2 : Int32) (y3 : Int32) (y4 : Int32) (y5 : Int32) (s : xS) : Ref_ruled_J5 d y2 y3 y4 y5 s =
    if x_in y5 80 then
    Ref_ruled_L1 d (y2 + 1) (y3 + 1) (wI s 48 0 (y5 : Int32).toNatClampNeg y4)
    else none := (x_adv_out (K := x_K) (P := x_Pr) (d := d + 1) (M := tb_Ref_ruled) [4, 46, 68, 82, 115] 91 (115, [some (vR 13 0), some (vI y2), some (vI y3), none], [vI y4, vI y5, vR 48 0], s)).symm
set_option maxRecDepth 100000 in
set_option maxHeartbeats 400000 in
theorem Ref_ruled_eq (d : Nat)  (s : xS) : ev (d + 1) f_Ref_ruled [vR 13 0] s =
    Ref_ruled_L1 d 0 0 s := (x_adv_out (K := x_K) (P := x_Pr) (d := d + 1) (M := tb_Ref_ruled) [4, 46, 68, 82, 115] 91 (x_st0 tb_Ref_ruled [vR 13 0] s)).symm
noncomputable def Ref_othersOn_L1 (d : Nat) (k2 : Nat) (y3 : Int32) (y4 : Int32) (y5 : Int32) (y6 : Int32) (s : xS) : Option xO := og (d + 1) tb_Ref_othersOn (6, [some (vR 13 0), some (vR 43 k2), some (vI y3), some (vI y4), some (vI y5), some (vI y6)], [], s)
noncomputable def Ref_othersOn_J2 (d : Nat) (k2 : Nat) (y3 : Int32) (y4 : Int32) (y5 : Int32) (y6 : Int32) (s : xS) : Option xO := og (d + 1) tb_Ref_othersOn (35, [some (vR 13 0), some (vR 43 k2), some (vI y3), some (vI y4), none, some (vI y5)], [vI y6], s)
set_option maxRecDepth 100000 in
set_option maxHeartbeats 400000 in
theorem Ref_othersOn_L1_eq (d : Nat) (k2 : Nat) (y3 : Int32) (y4 : Int32) (y5 : Int32) (y6 : Int32) (s : xS) : Ref_othersOn_L1 d k2 y3 y4 y5 y6 s =
    if (y6 : Int32) < s.1 13 0 6 then
      if (y6 : Int32) = y3 then
        Ref_othersOn_J2 d k2 y3 y4 y6 y5 s
      else
        if x_in y6 17 then
        if (s.1 43 k2 (y6 : Int32).toNatClampNeg : Int32) = y4 then
          bI (ev d f_Ref_flag [vI 1] s) fun r2 s1 =>
          Ref_othersOn_L1 d k2 y3 y4 (y5 + r2) (y6 + 1) s1
        else
          Ref_othersOn_J2 d k2 y3 y4 y6 y5 s
        else none
    else
      some (some (vI y5), s) := (x_adv_out (K := x_K) (P := x_Pr) (d := d + 1) (M := tb_Ref_othersOn) [6, 35] 30 (6, [some (vR 13 0), some (vR 43 k2), some (vI y3), some (vI y4), some (vI y5), some (vI y6)], [], s)).symm
set_option maxRecDepth 100000 in
set_option maxHeartbeats 400000 in
theorem Ref_othersOn_J2_eq (d : Nat) (k2 : Nat) (y3 : Int32) (y4 : Int32) (y5 : Int32) (y6 : Int32) (s : xS) : Ref_othersOn_J2 d k2 y3 y4 y5 y6 s =
    bI (ev d f_Ref_flag [vI 0] s) fun r4 s3 =>
    Ref_othersOn_L1 d k2 y3 y4 (y6 + r4) (y5 + 1) s3 := (x_adv_out (K := x_K) (P := x_Pr) (d := d + 1) (M := tb_Ref_othersOn) [6, 35] 30 (35, [some (vR 13 0), some (vR 43 k2), some (vI y3), some (vI y4), none, some (vI y5)], [vI y6], s)).symm
set_option maxRecDepth 100000 in
set_option maxHeartbeats 400000 in
theorem Ref_othersOn_eq (d : Nat) (j1 : Nat) (x2 : Int32) (x3 : Int32) (s : xS) : ev (d + 1) f_Ref_othersOn [vR 13 0, vR 43 j1, vI x2, vI x3] s =
    Ref_othersOn_L1 d j1 x2 x3 0 0 s := (x_adv_out (K := x_K) (P := x_Pr) (d := d + 1) (M := tb_Ref_othersOn) [6, 35] 30 (x_st0 tb_Ref_othersOn [vR 13 0, vR 43 j1, vI x2, vI x3] s)).symm
noncomputable def Ref_formed_L1 (d : Nat) (y2 : Int32) (y3 : Int32) (y4 : Int32) (y5 : Int32) (y6 : Int32) (s : xS) : Option xO := og (d + 1) tb_Ref_formed (78, [some (vR 13 0), none, none, none, some (vI y2), some (vI y3), some (vI y4), some (vI y5), some (vI y6), none], [], s)
noncomputable def Ref_formed_J2 (d : Nat) (y2 : Int32) (y3 : Int32) (y4 : Int32) (y5 : Int32) (y6 : Int32) (y7 : Int32) (s : xS) : Option xO := og (d + 1) tb_Ref_formed (131, [some (vR 13 0), none, none, none, some (vI y2), some (vI y3), some (vI y4), some (vI y5), some (vI y6), none], [vI y7], s)
noncomputable def Ref_formed_J3 (d : Nat) (y2 : Int32) (y3 : Int32) (y4 : Int32) (y5 : Int32) (y6 : Int32) (y7 : Int32) (y8 : Int32) (s : xS) : Option xO := og (d + 1) tb_Ref_formed (194, [some (vR 13 0), none, none, none, some (vI y2), some (vI y3), some (vI y4), some (vI y5), some (vI y6), some (vI y7)], [vI y8, vR 13 0], s)
noncomputable def Ref_formed_J4 (d : Nat) (y2 : Int32) (y3 : Int32) (y4 : Int32) (y5 : Int32) (y6 : Int32) (y7 : Int32) (s : xS) : Option xO := og (d + 1) tb_Ref_formed (206, [some (vR 13 0), none, none, none, some (vI y2), some (vI y3), some (vI y4), some (vI y5), some (vI y6), some (vI y7)], [], s)
noncomputable def Ref_formed_J5 (d : Nat) (y2 : Int32) (y3 : Int32) (y4 : Int32) (y5 : Int32) (y6 : Int32) (y7 : Int32) (s : xS) : Option xO := og (d + 1) tb_Ref_formed (221, [some (vR 13 0), none, none, none, some (vI y2), some (vI y3), none, some (vI y4), some (vI y5), none], [vI y6, vI y7], s)
set_option maxRecDepth 100000 in
set_option maxHeartbeats 400000 in
theorem Ref_formed_L1_eq (d : Nat) (y2 : Int32) (y3 : Int32) (y4 : Int32) (y5 : Int32) (y6 : Int32) (s : xS) : Ref_formed_L1 d y2 y3 y4 y5 y6 s =
    bI (ev d f_Ref_isOpen [vR 13 0, vI y6] s) fun r8 s7 =>
    if (r8 : Int32) = 0 then
      some (some (vI y5), s7)
    else
      if x_in y6 36 then
      bI (ev d f_Ref_in [vL ((s7.1 42 0 (y6 : Int32).toNatClampNeg : Int32).toInt64), vL 10, vL 15] (wI s7 13 0 24 ((s7.1 13 0 24) + 1))) fun r10 s9 =>
      if (r10 : Int32) = 0 then
        Ref_formed_J2 d y2 y3 y4 y5 y6 (-1) s9
      else
        if x_in y6 36 then
        Ref_formed_J2 d y2 y3 y4 y5 y6 ((s9.1 42 0 (y6 : Int32).toNatClampNeg) - 10) s9
        else none
      else none := (x_adv_out (K := x_K) (P := x_Pr) (d := d + 1) (M := tb_Ref_formed) [78, 131, 194, 206, 221] 136 (78, [some (vR 13 0), none, none, none, some (vI y2), some (vI y3), some (vI y4), some (vI y5), some (vI y6), none], [], s)).symm
set_option maxRecDepth 100000 in
set_option maxHeartbeats 400000 in
theorem Ref_formed_J2_eq (d : Nat) (y2 : Int32) (y3 : Int32) (y4 : Int32) (y5 : Int32) (y6 : Int32) (y7 : Int32) (s : xS) : Ref_formed_J2 d y2 y3 y4 y5 y6 y7 s =
    if x_in 0 7 then
    if x_in 1 7 then
    if (y7 : Int32) < 0 then
      Ref_formed_J4 d y2 y3 y4 y5 y6 y7 (wI (wI s 49 0 (0 : Int32).toNatClampNeg (s.1 13 0 24)) 49 0 (1 : Int32).toNatClampNeg y7)
    else
      bI (ev d f_Ref_has [vL ((y4 ||| y3 : Int32).toInt64), vI y7] (wI (wI s 49 0 (0 : Int32).toNatClampNeg (s.1 13 0 24)) 49 0 (1 : Int32).toNatClampNeg y7)) fun r12 s11 =>
      if (r12 : Int32) = 0 then
        bI (ev d f_Ref_ruled [vR 13 0] s11) fun r14 s13 =>
        if (0 : Int32) < r14 then
          if (y5 : Int32) = 0 then
            Ref_formed_J3 d y2 y3 y4 y5 y6 y7 (s13.1 13 0 24) s13
          else
            Ref_formed_J3 d y2 y3 y4 y5 y6 y7 (s13.1 13 0 25) s13
        else
          Ref_formed_J4 d y2 y3 y4 y5 y6 y7 s13
      else
        Ref_formed_J4 d y2 y3 y4 y5 y6 y7 s11
    else none
    else none := (x_adv_out (K := x_K) (P := x_Pr) (d := d + 1) (M := tb_Ref_formed) [78, 131, 194, 206, 221] 136 (131, [some (vR 13 0), none, none, none, some (vI y2), some (vI y3), some (vI y4), some (vI y5), some (vI y6), none], [vI y7], s)).symm
set_option maxRecDepth 100000 in
set_option maxHeartbeats 400000 in
theorem Ref_formed_J3_eq (d : Nat) (y2 : Int32) (y3 : Int32) (y4 : Int32) (y5 : Int32) (y6 : Int32) (y7 : Int32) (y8 : Int32) (s : xS) : Ref_formed_J3 d y2 y3 y4 y5 y6 y7 y8 s =
    Ref_formed_J4 d y2 y3 y4 (y5 ||| (jshl 1 y7)) y6 y7 (wI s 13 0 25 y8) := (x_adv_out (K := x_K) (P := x_Pr) (d := d + 1) (M := tb_Ref_formed) [78, 131, 194, 206, 221] 136 (194, [some (vR 13 0), none, none, none, some (vI y2), some (vI y3), some (vI y4), some (vI y5), some (vI y6), some (vI y7)], [vI y8, vR 13 0], s)).symm
set_option maxRecDepth 100000 in
set_option maxHeartbeats 400000 in
theorem Ref_formed_J4_eq (d : Nat) (y2 : Int32) (y3 : Int32) (y4 : Int32) (y5 : Int32) (y6 : Int32) (y7 : Int32) (s : xS) : Ref_formed_J4 d y2 y3 y4 y5 y6 y7 s =
    if (y7 : Int32) < 0 then
      Ref_formed_J5 d y2 y3 y5 y6 0 y4 s
    else
      Ref_formed_J5 d y2 y3 y5 y6 (jshl 1 y7) y4 s := (x_adv_out (K := x_K) (P := x_Pr) (d := d + 1) (M := tb_Ref_formed) [78, 131, 194, 206, 221] 136 (206, [some (vR 13 0), none, none, none, some (vI y2), some (vI y3), some (vI y4), some (vI y5), some (vI y6), some (vI y7)], [], s)).symm
set_option maxRecDepth 100000 in
set_option maxHeartbeats 400000 in
theorem Ref_formed_J5_eq (d : Nat) (y2 : Int32) (y3 : Int32) (y4 : Int32) (y5 : Int32) (y6 : Int32) (y7 : Int32) (s : xS) : Ref_formed_J5 d y2 y3 y4 y5 y6 y7 s =
    bI (ev d f_Ref_beside [vR 13 0, vI y5, vI y2] s) fun r16 s15 =>
    Ref_formed_L1 d y2 y3 (y7 ||| y6) y4 r16 s15 := (x_adv_out (K := x_K) (P := x_Pr) (d := d + 1) (M := tb_Ref_formed) [78, 131, 194, 206, 221] 136 (221, [some (vR 13 0), none, none, none, some (vI y2), some (vI y3), none, some (vI y4), some (vI y5), none], [vI y6, vI y7], s)).symm
set_option maxRecDepth 100000 in
set_option maxHeartbeats 400000 in
theorem Ref_formed_eq (d : Nat) (j1 : Nat) (x2 : Int32) (x3 : Int32) (x4 : Int32) (x5 : Int32) (s : xS) : ev (d + 1) f_Ref_formed [vR 13 0, vR 43 j1, vI x2, vI x3, vI x4, vI x5] s =
    bI (ev d f_Integer_bitCount [vI x5] s) fun r2 s1 =>
    if x_in 2 7 then
    if x_in 3 7 then
    bI (ev d f_Ref_othersOn [vR 13 0, vR 43 j1, vI x2, vI x3] (wI (wI s1 49 0 (2 : Int32).toNatClampNeg r2) 49 0 (3 : Int32).toNatClampNeg x4)) fun r4 s3 =>
    if x_in 4 7 then
    if x_in 5 7 then
    if x_in 16 17 then
    if (7 : Int32) = 0 then none else
    if x_in 6 7 then
      bI (ev d f_Ref_beside [vR 13 0, vI x3, vI x4] (wI (wI (wI (wI (wI s3 49 0 (4 : Int32).toNatClampNeg r4) 49 0 (5 : Int32).toNatClampNeg x2) 49 0 (6 : Int32).toNatClampNeg (jrem (s3.1 43 j1 (16 : Int32).toNatClampNeg) 7)) 13 0 24 0) 13 0 25 0)) fun r6 s5 =>
      Ref_formed_L1 d x4 x5 0 0 r6 s5
      else none
    else none
    else none
    else none
    else none
    else none := (x_adv_out (K := x_K) (P := x_Pr) (d := d + 1) (M := tb_Ref_formed) [78, 131, 194, 206, 221] 136 (x_st0 tb_Ref_formed [vR 13 0, vR 43 j1, vI x2, vI x3, vI x4, vI x5] s)).symm
set_option maxRecDepth 100000 in
set_option maxHeartbeats 400000 in
theorem Ref_field_eq (d : Nat) (x1 : Int32) (s : xS) : ev (d + 1) f_Ref_field [vR 13 0, vI x1] s =
    bI (ev d f_Ref_isField [vR 13 0, vI x1] (wI s 13 0 0 0)) fun r2 s1 =>
    if (r2 : Int32) = 0 then
      bI (ev d f_Ref_refuse [vR 13 0] s1) fun r4 s3 =>
      some (some (vI r4), s3)
    else
      if x_in x1 36 then
      some (some (vI (s1.1 42 0 (x1 : Int32).toNatClampNeg)), s1)
      else none := (x_adv_out (K := x_K) (P := x_Pr) (d := d + 1) (M := tb_Ref_field) [] 18 (x_st0 tb_Ref_field [vR 13 0, vI x1] s)).symm
set_option maxRecDepth 100000 in
set_option maxHeartbeats 400000 in
theorem Ref_pram_eq (d : Nat) (x1 : Int32) (x2 : Int32) (s : xS) : ev (d + 1) f_Ref_pram [vR 13 0, vI x1, vI x2] s =
    bI (ev d f_Ref_isPram [vR 13 0, vI x1] (wI s 13 0 0 0)) fun r2 s1 =>
    if (r2 : Int32) = 0 then
      bI (ev d f_Ref_refuse [vR 13 0] s1) fun r4 s3 =>
      some (some (vI r4), s3)
    else
      bI (ev d f_Ref_in [vL ((x2 : Int32).toInt64), vL 0, vL 4] s1) fun r6 s5 =>
      if (r6 : Int32) = 0 then
        bI (ev d f_Ref_refuse [vR 13 0] s5) fun r8 s7 =>
        some (some (vI r8), s7)
      else
        if x_in x1 17 then
        if x_in (4 + x1) 17 then
        bI (ev d f_Ref_beside [vR 13 0, vI (s5.1 43 0 (x1 : Int32).toNatClampNeg), vI (s5.1 43 0 (4 + x1 : Int32).toNatClampNeg)] s5) fun r10 s9 =>
        if (x2 : Int32) < 4 then
          if x_in ((x2 * 4) + x1) 17 then
          some (some (vI (s9.1 43 0 ((x2 * 4) + x1 : Int32).toNatClampNeg)), s9)
          else none
        else
          bI (ev d f_Ref_isOpen [vR 13 0, vI r10] s9) fun r12 s11 =>
          if (r12 : Int32) = 0 then
            some (some (vI (-1)), s11)
          else
            some (some (vI r10), s11)
        else none
        else none := (x_adv_out (K := x_K) (P := x_Pr) (d := d + 1) (M := tb_Ref_pram) [] 52 (x_st0 tb_Ref_pram [vR 13 0, vI x1, vI x2] s)).symm
noncomputable def Ref_sheet_L1 (d : Nat) (y2 : Int32) (y3 : Int32) (y4 : Int32) (y5 : Int32) (y6 : Int32) (y7 : Int32) (s : xS) : Option xO := og (d + 1) tb_Ref_sheet (45, [some (vR 13 0), some (vI y2), some (vI y3), none, some (vI y4), some (vI y5), some (vI y6), some (vI y7), none], [], s)
noncomputable def Ref_sheet_J2 (d : Nat) (y2 : Int32) (y3 : Int32) (y4 : Int32) (y5 : Int32) (y6 : Int32) (y7 : Int32) (y8 : Int32) (s : xS) : Option xO := og (d + 1) tb_Ref_sheet (77, [some (vR 13 0), some (vI y2), some (vI y3), none, some (vI y4), some (vI y5), some (vI y6), some (vI y7), none], [vI y8], s)
noncomputable def Ref_sheet_J3 (d : Nat) (y2 : Int32) (y3 : Int32) (y4 : Int32) (y5 : Int32) (y6 : Int32) (y7 : Int32) (y8 : Int32) (y9 : Int32) (s : xS) : Option xO := og (d + 1) tb_Ref_sheet (108, [some (vR 13 0), some (vI y2), some (vI y3), none, some (vI y4), some (vI y5), some (vI y6), some (vI y7), none], [vI y8, vI y9, vR 43 0], s)
set_option maxRecDepth 100000 in
set_option maxHeartbeats 400000 in
theorem Ref_sheet_L1_eq (d : Nat) (y2 : Int32) (y3 : Int32) (y4 : Int32) (y5 : Int32) (y6 : Int32) (y7 : Int32) (s : xS) : Ref_sheet_L1 d y2 y3 y4 y5 y6 y7 s =
    if (y7 : Int32) < s.1 13 0 6 then
      if (y2 : Int32) = 0 then
        Ref_sheet_J2 d y2 y3 y4 y5 y6 y7 ((y6 : Int32).toInt8.toInt32) s
      else
        if (y2 : Int32) = 1 then
          Ref_sheet_J2 d y2 y3 y4 y5 y6 y7 ((y6 : Int32).toInt16.toInt32) s
        else
          Ref_sheet_J2 d y2 y3 y4 y5 y6 y7 y6 s
    else
      if (y2 : Int32) = 3 then
        some (some (vI (-3)), s)
      else
        some (some (vI y5), s) := (x_adv_out (K := x_K) (P := x_Pr) (d := d + 1) (M := tb_Ref_sheet) [45, 77, 108] 86 (45, [some (vR 13 0), some (vI y2), some (vI y3), none, some (vI y4), some (vI y5), some (vI y6), some (vI y7), none], [], s)).symm
set_option maxRecDepth 100000 in
set_option maxHeartbeats 400000 in
theorem Ref_sheet_J2_eq (d : Nat) (y2 : Int32) (y3 : Int32) (y4 : Int32) (y5 : Int32) (y6 : Int32) (y7 : Int32) (y8 : Int32) (s : xS) : Ref_sheet_J2 d y2 y3 y4 y5 y6 y7 y8 s =
    if (y2 : Int32) = 3 then
      Ref_sheet_J3 d y2 y3 y4 y5 y6 y7 0 (8 + y7) s
    else
      if (y7 : Int32) < y3 then
        Ref_sheet_J3 d y2 y3 y4 y5 y6 y7 (y8 &&& 63) (8 + y7) s
      else
        Ref_sheet_J3 d y2 y3 y4 y5 y6 y7 0 (8 + y7) s := (x_adv_out (K := x_K) (P := x_Pr) (d := d + 1) (M := tb_Ref_sheet) [45, 77, 108] 86 (77, [some (vR 13 0), some (vI y2), some (vI y3), none, some (vI y4), some (vI y5), some (vI y6), some (vI y7), none], [vI y8], s)).symm
set_option maxRecDepth 100000 in
set_option maxHeartbeats 400000 in
theorem Ref_sheet_J3_eq (d : Nat) (y2 : Int32) (y3 : Int32) (y4 : Int32) (y5 : Int32) (y6 : Int32) (y7 : Int32) (y8 : Int32) (y9 : Int32) (s : xS) : Ref_sheet_J3 d y2 y3 y4 y5 y6 y7 y8 y9 s =
    if x_in y9 17 then
    if x_in (8 + y7) 17 then
    Ref_sheet_L1 d y2 y3 y4 (y5 + ((wI s 43 0 (y9 : Int32).toNatClampNeg y8).1 43 0 (8 + y7 : Int32).toNatClampNeg)) (y6 + y4) (y7 + 1) (wI s 43 0 (y9 : Int32).toNatClampNeg y8)
    else none
    else none := (x_adv_out (K := x_K) (P := x_Pr) (d := d + 1) (M := tb_Ref_sheet) [45, 77, 108] 86 (108, [some (vR 13 0), some (vI y2), some (vI y3), none, some (vI y4), some (vI y5), some (vI y6), some (vI y7), none], [vI y8, vI y9, vR 43 0], s)).symm
set_option maxRecDepth 100000 in
set_option maxHeartbeats 400000 in
theorem Ref_sheet_eq (d : Nat) (x1 : Int32) (x2 : Int32) (x3 : Int32) (x4 : Int32) (s : xS) : ev (d + 1) f_Ref_sheet [vR 13 0, vI x1, vI x2, vI x3, vI x4] s =
    bI (ev d f_Ref_in [vL ((x1 : Int32).toInt64), vL 0, vL 3] (wI s 13 0 0 0)) fun r2 s1 =>
    if (r2 : Int32) = 0 then
      some (some (vI (-1)), s1)
    else
      if (4 : Int32) < x2 then
        some (some (vI (-1)), s1)
      else
        if (x1 : Int32) = 3 then
          Ref_sheet_L1 d x1 x2 x4 0 x3 0 s1
        else
          if (x2 : Int32) < 0 then
            some (some (vI (-2)), s1)
          else
            Ref_sheet_L1 d x1 x2 x4 0 x3 0 s1 := (x_adv_out (K := x_K) (P := x_Pr) (d := d + 1) (M := tb_Ref_sheet) [45, 77, 108] 86 (x_st0 tb_Ref_sheet [vR 13 0, vI x1, vI x2, vI x3, vI x4] s)).symm
noncomputable def Ref_putsBy_L1 (d : Nat) (y2 : Int32) (s : xS) : Option xO := og (d + 1) tb_Ref_putsBy (2, [some (vR 13 0), some (vI y2)], [], s)
set_option maxRecDepth 100000 in
set_option maxHeartbeats 400000 in
theorem Ref_putsBy_L1_eq (d : Nat) (y2 : Int32) (s : xS) : Ref_putsBy_L1 d y2 s =
    if (y2 : Int32) < 17 then
      if x_in y2 17 then
      if x_in ((17 * (s.1 13 0 26)) + y2) 272 then
      Ref_putsBy_L1 d (y2 + 1) (wI s 50 0 ((17 * (s.1 13 0 26)) + y2 : Int32).toNatClampNeg (s.1 43 0 (y2 : Int32).toNatClampNeg))
      else none
      else none
    else
      some (none, s) := (x_adv_out (K := x_K) (P := x_Pr) (d := d + 1) (M := tb_Ref_putsBy) [2] 24 (2, [some (vR 13 0), some (vI y2)], [], s)).symm
set_option maxRecDepth 100000 in
set_option maxHeartbeats 400000 in
theorem Ref_putsBy_eq (d : Nat)  (s : xS) : ev (d + 1) f_Ref_putsBy [vR 13 0] s =
    Ref_putsBy_L1 d 0 s := (x_adv_out (K := x_K) (P := x_Pr) (d := d + 1) (M := tb_Ref_putsBy) [2] 24 (x_st0 tb_Ref_putsBy [vR 13 0] s)).symm
noncomputable def Ref_adds_L1 (d : Nat) (y2 : Int32) (y3 : Int32) (s : xS) : Option xO := og (d + 1) tb_Ref_adds (21, [some (vR 13 0), some (vI y2), some (vI y3)], [], s)
set_option maxRecDepth 100000 in
set_option maxHeartbeats 400000 in
theorem Ref_adds_L1_eq (d : Nat) (y2 : Int32) (y3 : Int32) (s : xS) : Ref_adds_L1 d y2 y3 s =
    if (y3 : Int32) < 255 then
      if x_in (y3 + 17) 272 then
      if x_in y3 272 then
      Ref_adds_L1 d y2 (y3 + 1) (wI s 50 0 (y3 : Int32).toNatClampNeg (s.1 50 0 (y3 + 17 : Int32).toNatClampNeg))
      else none
      else none
    else
      some (some (vI y2), wI s 13 0 26 ((s.1 13 0 26) - 1)) := (x_adv_out (K := x_K) (P := x_Pr) (d := d + 1) (M := tb_Ref_adds) [21] 38 (21, [some (vR 13 0), some (vI y2), some (vI y3)], [], s)).symm
set_option maxRecDepth 100000 in
set_option maxHeartbeats 400000 in
theorem Ref_adds_eq (d : Nat) (x1 : Int32) (s : xS) : ev (d + 1) f_Ref_adds [vR 13 0, vI x1] s =
    if (15 : Int32) < (s.1 13 0 26) + 1 then
      Ref_adds_L1 d x1 0 (wI s 13 0 26 ((s.1 13 0 26) + 1))
    else
      some (some (vI x1), wI s 13 0 26 ((s.1 13 0 26) + 1)) := (x_adv_out (K := x_K) (P := x_Pr) (d := d + 1) (M := tb_Ref_adds) [21] 38 (x_st0 tb_Ref_adds [vR 13 0, vI x1] s)).symm
set_option maxRecDepth 100000 in
set_option maxHeartbeats 400000 in
theorem Ref_counted_eq (d : Nat) (x1 : Int32) (s : xS) : ev (d + 1) f_Ref_counted [vR 13 0, vI x1] s =
    if (x1 : Int32) < 0 then
      some (some (vI x1), s)
    else
      bI (ev d f_Ref_adds [vR 13 0, vI x1] s) fun r2 s1 =>
      some (some (vI r2), s1) := (x_adv_out (K := x_K) (P := x_Pr) (d := d + 1) (M := tb_Ref_counted) [] 11 (x_st0 tb_Ref_counted [vR 13 0, vI x1] s)).symm
noncomputable def Ref_undo_L1 (d : Nat) (y2 : Int32) (s : xS) : Option xO := og (d + 1) tb_Ref_undo (26, [some (vR 13 0), some (vI y2)], [], s)
set_option maxRecDepth 100000 in
set_option maxHeartbeats 400000 in
theorem Ref_undo_L1_eq (d : Nat) (y2 : Int32) (s : xS) : Ref_undo_L1 d y2 s =
    if (y2 : Int32) < 17 then
      if x_in ((17 * (s.1 13 0 26)) + y2) 272 then
      if x_in y2 17 then
      Ref_undo_L1 d (y2 + 1) (wI s 43 0 (y2 : Int32).toNatClampNeg (s.1 50 0 ((17 * (s.1 13 0 26)) + y2 : Int32).toNatClampNeg))
      else none
      else none
    else
      some (some (vI (s.1 13 0 26)), s) := (x_adv_out (K := x_K) (P := x_Pr) (d := d + 1) (M := tb_Ref_undo) [26] 40 (26, [some (vR 13 0), some (vI y2)], [], s)).symm
set_option maxRecDepth 100000 in
set_option maxHeartbeats 400000 in
theorem Ref_undo_eq (d : Nat)  (s : xS) : ev (d + 1) f_Ref_undo [vR 13 0] s =
    if (s.1 13 0 26 : Int32) = 0 then
      some (some (vI (-1)), wI s 13 0 0 0)
    else
      Ref_undo_L1 d 0 (wI (wI s 13 0 0 0) 13 0 26 ((s.1 13 0 26) - 1)) := (x_adv_out (K := x_K) (P := x_Pr) (d := d + 1) (M := tb_Ref_undo) [26] 40 (x_st0 tb_Ref_undo [vR 13 0] s)).symm
set_option maxRecDepth 100000 in
set_option maxHeartbeats 400000 in
theorem Ref_looksAhead_eq (d : Nat) (j1 : Nat) (x2 : Int32) (s : xS) : ev (d + 1) f_Ref_looksAhead [vR 13 0, vR 43 j1, vI x2] s =
    if x_in x2 17 then
    if x_in (4 + x2) 17 then
    if x_in (8 + x2) 17 then
    bI (ev d f_Ref_formed [vR 13 0, vR 43 j1, vI x2, vI (s.1 43 j1 (x2 : Int32).toNatClampNeg), vI (s.1 43 j1 (4 + x2 : Int32).toNatClampNeg), vI (s.1 43 j1 (8 + x2 : Int32).toNatClampNeg)] s) fun r2 s1 =>
    if x_in (8 + x2) 17 then
    if x_in (8 + x2) 17 then
    bI (ev d f_Integer_bitCount [vI r2] (wI s1 43 j1 (8 + x2 : Int32).toNatClampNeg ((s1.1 43 j1 (8 + x2 : Int32).toNatClampNeg) ||| r2))) fun r4 s3 =>
    some (some (vI r2), wI s3 13 0 28 ((s1.1 13 0 28) + r4))
    else none
    else none
    else none
    else none
    else none := (x_adv_out (K := x_K) (P := x_Pr) (d := d + 1) (M := tb_Ref_looksAhead) [] 39 (x_st0 tb_Ref_looksAhead [vR 13 0, vR 43 j1, vI x2] s)).symm
set_option maxRecDepth 100000 in
set_option maxHeartbeats 400000 in
theorem Ref_goesTo_eq (d : Nat) (j1 : Nat) (x2 : Int32) (x3 : Int32) (s : xS) : ev (d + 1) f_Ref_goesTo [vR 13 0, vR 43 j1, vI x2, vI x3] s =
    if x_in (4 + x2) 17 then
    if x_in x2 17 then
    bI (ev d f_Ref_beside [vR 13 0, vI ((wI s 43 j1 (4 + x2 : Int32).toNatClampNeg x3).1 43 j1 (x2 : Int32).toNatClampNeg), vI x3] (wI s 43 j1 (4 + x2 : Int32).toNatClampNeg x3)) fun r2 s1 =>
    if x_in x2 17 then
    bI (ev d f_Ref_looksAhead [vR 13 0, vR 43 j1, vI x2] (wI s1 43 j1 (x2 : Int32).toNatClampNeg r2)) fun r4 s3 =>
    some (some (vI r4), s3)
    else none
    else none
    else none := (x_adv_out (K := x_K) (P := x_Pr) (d := d + 1) (M := tb_Ref_goesTo) [] 23 (x_st0 tb_Ref_goesTo [vR 13 0, vR 43 j1, vI x2, vI x3] s)).symm
set_option maxRecDepth 100000 in
set_option maxHeartbeats 400000 in
theorem Ref_pushesOne_eq (d : Nat) (j1 : Nat) (x2 : Int32) (x3 : Int32) (s : xS) : ev (d + 1) f_Ref_pushesOne [vR 13 0, vR 43 j1, vI x2, vI x3] s =
    bI (ev d f_Ref_isPram [vR 13 0, vI x2] s) fun r2 s1 =>
    if (r2 : Int32) = 0 then
      some (some (vI (-1)), s1)
    else
      bI (ev d f_Ref_in [vL ((x3 : Int32).toInt64), vL 0, vL 3] s1) fun r4 s3 =>
      if (r4 : Int32) = 0 then
        some (some (vI (-1)), s3)
      else
        if x_in (12 + x2) 17 then
        if (s3.1 43 j1 (12 + x2 : Int32).toNatClampNeg : Int32) = 1 then
          some (some (vI (-2)), s3)
        else
          if x_in x2 17 then
          bI (ev d f_Ref_beside [vR 13 0, vI (s3.1 43 j1 (x2 : Int32).toNatClampNeg), vI x3] s3) fun r6 s5 =>
          bI (ev d f_Ref_isOpen [vR 13 0, vI r6] s5) fun r8 s7 =>
          if (r8 : Int32) = 0 then
            some (some (vI (-3)), s7)
          else
            bI (ev d f_Ref_goesTo [vR 13 0, vR 43 j1, vI x2, vI x3] s7) fun r10 s9 =>
            some (some (vI r10), s9)
          else none
        else none := (x_adv_out (K := x_K) (P := x_Pr) (d := d + 1) (M := tb_Ref_pushesOne) [] 41 (x_st0 tb_Ref_pushesOne [vR 13 0, vR 43 j1, vI x2, vI x3] s)).symm
set_option maxRecDepth 100000 in
set_option maxHeartbeats 400000 in
theorem Ref_turnsOne_eq (d : Nat) (x1 : Int32) (x2 : Int32) (s : xS) : ev (d + 1) f_Ref_turnsOne [vR 13 0, vI x1, vI x2] s =
    bI (ev d f_Ref_isPram [vR 13 0, vI x1] s) fun r2 s1 =>
    if (r2 : Int32) = 0 then
      some (some (vI (-1)), s1)
    else
      bI (ev d f_Ref_in [vL ((x2 : Int32).toInt64), vL 0, vL 3] s1) fun r4 s3 =>
      if (r4 : Int32) = 0 then
        some (some (vI (-1)), s3)
      else
        if x_in (12 + x1) 17 then
        if (s3.1 43 0 (12 + x1 : Int32).toNatClampNeg : Int32) = 1 then
          some (some (vI (-2)), s3)
        else
          if x_in (4 + x1) 17 then
          if (s3.1 43 0 (4 + x1 : Int32).toNatClampNeg : Int32) = x2 then
            some (some (vI (-3)), s3)
          else
            if x_in (4 + x1) 17 then
            bI (ev d f_Ref_looksAhead [vR 13 0, vR 43 0, vI x1] (wI s3 43 0 (4 + x1 : Int32).toNatClampNeg x2)) fun r6 s5 =>
            some (some (vI r6), s5)
            else none
          else none
        else none := (x_adv_out (K := x_K) (P := x_Pr) (d := d + 1) (M := tb_Ref_turnsOne) [] 48 (x_st0 tb_Ref_turnsOne [vR 13 0, vI x1, vI x2] s)).symm
noncomputable def Ref_looseMany_L1 (d : Nat) (k2 : Nat) (y3 : Int32) (y4 : Int32) (s : xS) : Option xO := og (d + 1) tb_Ref_looseMany (4, [some (vR 13 0), some (vR 43 k2), some (vI y3), some (vI y4)], [], s)
set_option maxRecDepth 100000 in
set_option maxHeartbeats 400000 in
theorem Ref_looseMany_L1_eq (d : Nat) (k2 : Nat) (y3 : Int32) (y4 : Int32) (s : xS) : Ref_looseMany_L1 d k2 y3 y4 s =
    if (y4 : Int32) < s.1 13 0 6 then
      if x_in (12 + y4) 17 then
      Ref_looseMany_L1 d k2 (y3 + (s.1 43 k2 (12 + y4 : Int32).toNatClampNeg)) (y4 + 1) s
      else none
    else
      some (some (vI y3), s) := (x_adv_out (K := x_K) (P := x_Pr) (d := d + 1) (M := tb_Ref_looseMany) [4] 23 (4, [some (vR 13 0), some (vR 43 k2), some (vI y3), some (vI y4)], [], s)).symm
set_option maxRecDepth 100000 in
set_option maxHeartbeats 400000 in
theorem Ref_looseMany_eq (d : Nat) (j1 : Nat) (s : xS) : ev (d + 1) f_Ref_looseMany [vR 13 0, vR 43 j1] s =
    Ref_looseMany_L1 d j1 0 0 s := (x_adv_out (K := x_K) (P := x_Pr) (d := d + 1) (M := tb_Ref_looseMany) [4] 23 (x_st0 tb_Ref_looseMany [vR 13 0, vR 43 j1] s)).symm
set_option maxRecDepth 100000 in
set_option maxHeartbeats 400000 in
theorem Ref_sets_eq (d : Nat) (j1 : Nat) (x2 : Int32) (x3 : Int32) (s : xS) : ev (d + 1) f_Ref_sets [vR 13 0, vR 43 j1, vI x2, vI x3] s =
    bI (ev d f_Ref_isPram [vR 13 0, vI x2] s) fun r2 s1 =>
    if (r2 : Int32) = 0 then
      some (some (vI (-1)), s1)
    else
      if x_in (12 + x2) 17 then
      if (s1.1 43 j1 (12 + x2 : Int32).toNatClampNeg : Int32) = x3 then
        some (some (vI (-2)), s1)
      else
        if x_in (12 + x2) 17 then
        bI (ev d f_Ref_looseMany [vR 13 0, vR 43 j1] (wI s1 43 j1 (12 + x2 : Int32).toNatClampNeg x3)) fun r4 s3 =>
        some (some (vI r4), s3)
        else none
      else none := (x_adv_out (K := x_K) (P := x_Pr) (d := d + 1) (M := tb_Ref_sets) [] 28 (x_st0 tb_Ref_sets [vR 13 0, vR 43 j1, vI x2, vI x3] s)).symm
set_option maxRecDepth 100000 in
set_option maxHeartbeats 400000 in
theorem Ref_forgetsOne_eq (d : Nat) (x1 : Int32) (x2 : Int32) (s : xS) : ev (d + 1) f_Ref_forgetsOne [vR 13 0, vI x1, vI x2] s =
    bI (ev d f_Ref_isPram [vR 13 0, vI x1] s) fun r2 s1 =>
    if (r2 : Int32) = 0 then
      some (some (vI (-1)), s1)
    else
      bI (ev d f_Ref_in [vL ((x2 : Int32).toInt64), vL 0, vL 5] s1) fun r4 s3 =>
      if (r4 : Int32) = 0 then
        some (some (vI (-1)), s3)
      else
        if x_in (8 + x1) 17 then
        bI (ev d f_Ref_has [vL ((s3.1 43 0 (8 + x1 : Int32).toNatClampNeg : Int32).toInt64), vI x2] s3) fun r6 s5 =>
        if (r6 : Int32) = 0 then
          some (some (vI (-2)), s5)
        else
          if x_in (8 + x1) 17 then
          if x_in (8 + x1) 17 then
          if x_in (8 + x1) 17 then
          some (some (vI ((wI s5 43 0 (8 + x1 : Int32).toNatClampNeg ((s5.1 43 0 (8 + x1 : Int32).toNatClampNeg) &&& ((jshl 1 x2) ^^^ (-1)))).1 43 0 (8 + x1 : Int32).toNatClampNeg)), wI s5 43 0 (8 + x1 : Int32).toNatClampNeg ((s5.1 43 0 (8 + x1 : Int32).toNatClampNeg) &&& ((jshl 1 x2) ^^^ (-1))))
          else none
          else none
          else none
        else none := (x_adv_out (K := x_K) (P := x_Pr) (d := d + 1) (M := tb_Ref_forgetsOne) [] 48 (x_st0 tb_Ref_forgetsOne [vR 13 0, vI x1, vI x2] s)).symm
noncomputable def Ref_runsTo_J1 (d : Nat) (y2 : Int32) (s : xS) : Option xO := og (d + 1) tb_Ref_runsTo (29, [some (vR 13 0), none, none], [vI y2], s)
set_option maxRecDepth 100000 in
set_option maxHeartbeats 400000 in
theorem Ref_runsTo_J1_eq (d : Nat) (y2 : Int32) (s : xS) : Ref_runsTo_J1 d y2 s =
    bI (ev d f_Ref_isOpen [vR 13 0, vI y2] s) fun r4 s3 =>
    if (r4 : Int32) = 0 then
      some (some (vI (-1)), s3)
    else
      some (some (vI y2), s3) := (x_adv_out (K := x_K) (P := x_Pr) (d := d + 1) (M := tb_Ref_runsTo) [29] 29 (29, [some (vR 13 0), none, none], [vI y2], s)).symm
set_option maxRecDepth 100000 in
set_option maxHeartbeats 400000 in
theorem Ref_runsTo_eq (d : Nat) (x1 : Int32) (s : xS) : ev (d + 1) f_Ref_runsTo [vR 13 0, vI x1] s =
    if x_in x1 36 then
    if (s.1 42 0 (x1 : Int32).toNatClampNeg : Int32) < 20 then
      Ref_runsTo_J1 d (-1) s
    else
      if x_in x1 36 then
      bI (ev d f_Ref_beside [vR 13 0, vI x1, vI ((s.1 42 0 (x1 : Int32).toNatClampNeg) - 20)] s) fun r2 s1 =>
      Ref_runsTo_J1 d r2 s1
      else none
    else none := (x_adv_out (K := x_K) (P := x_Pr) (d := d + 1) (M := tb_Ref_runsTo) [29] 29 (x_st0 tb_Ref_runsTo [vR 13 0, vI x1] s)).symm
noncomputable def Ref_minuteGoes_L1 (d : Nat) (k2 : Nat) (y3 : Int32) (s : xS) : Option xO := og (d + 1) tb_Ref_minuteGoes (2, [some (vR 13 0), some (vR 43 k2), some (vI y3)], [], s)
noncomputable def Ref_minuteGoes_J2 (d : Nat) (k2 : Nat) (y3 : Int32) (s : xS) : Option xO := og (d + 1) tb_Ref_minuteGoes (61, [some (vR 13 0), some (vR 43 k2), some (vI y3)], [], s)
set_option maxRecDepth 100000 in
set_option maxHeartbeats 400000 in
theorem Ref_minuteGoes_L1_eq (d : Nat) (k2 : Nat) (y3 : Int32) (s : xS) : Ref_minuteGoes_L1 d k2 y3 s =
    if (y3 : Int32) < s.1 13 0 6 then
      if x_in (12 + y3) 17 then
      if (s.1 43 k2 (12 + y3 : Int32).toNatClampNeg : Int32) = 1 then
        if x_in y3 17 then
        bI (ev d f_Ref_runsTo [vR 13 0, vI (s.1 43 k2 (y3 : Int32).toNatClampNeg)] s) fun r2 s1 =>
        if (r2 : Int32) < 0 then
          Ref_minuteGoes_J2 d k2 y3 s1
        else
          if x_in y3 17 then
          if x_in (s1.1 43 k2 (y3 : Int32).toNatClampNeg) 36 then
          bI (ev d f_Ref_goesTo [vR 13 0, vR 43 k2, vI y3, vI ((s1.1 42 0 (s1.1 43 k2 (y3 : Int32).toNatClampNeg : Int32).toNatClampNeg) - 20)] s1) fun r4 s3 =>
          Ref_minuteGoes_L1 d k2 (y3 + 1) (wI s3 13 0 29 ((s3.1 13 0 29) + 1))
          else none
          else none
        else none
      else
        Ref_minuteGoes_J2 d k2 y3 s
      else none
    else
      if x_in 16 17 then
      if x_in 16 17 then
      some (none, wI s 43 k2 (16 : Int32).toNatClampNeg ((s.1 43 k2 (16 : Int32).toNatClampNeg) + 1))
      else none
      else none := (x_adv_out (K := x_K) (P := x_Pr) (d := d + 1) (M := tb_Ref_minuteGoes) [2, 61] 58 (2, [some (vR 13 0), some (vR 43 k2), some (vI y3)], [], s)).symm
set_option maxRecDepth 100000 in
set_option maxHeartbeats 400000 in
theorem Ref_minuteGoes_J2_eq (d : Nat) (k2 : Nat) (y3 : Int32) (s : xS) : Ref_minuteGoes_J2 d k2 y3 s =
    if x_in (12 + y3) 17 then
    Ref_minuteGoes_L1 d k2 (y3 + 1) (wI s 43 k2 (12 + y3 : Int32).toNatClampNeg 0)
    else none := (x_adv_out (K := x_K) (P := x_Pr) (d := d + 1) (M := tb_Ref_minuteGoes) [2, 61] 58 (61, [some (vR 13 0), some (vR 43 k2), some (vI y3)], [], s)).symm
set_option maxRecDepth 100000 in
set_option maxHeartbeats 400000 in
theorem Ref_minuteGoes_eq (d : Nat) (j1 : Nat) (s : xS) : ev (d + 1) f_Ref_minuteGoes [vR 13 0, vR 43 j1] s =
    Ref_minuteGoes_L1 d j1 0 s := (x_adv_out (K := x_K) (P := x_Pr) (d := d + 1) (M := tb_Ref_minuteGoes) [2, 61] 58 (x_st0 tb_Ref_minuteGoes [vR 13 0, vR 43 j1] s)).symm
noncomputable def Ref_goesOn_L1 (d : Nat) (k2 : Nat) (y3 : Int32) (y4 : Int32) (s : xS) : Option xO := og (d + 1) tb_Ref_goesOn (2, [some (vR 13 0), some (vR 43 k2), some (vI y3), some (vI y4)], [], s)
set_option maxRecDepth 100000 in
set_option maxHeartbeats 400000 in
theorem Ref_goesOn_L1_eq (d : Nat) (k2 : Nat) (y3 : Int32) (y4 : Int32) (s : xS) : Ref_goesOn_L1 d k2 y3 y4 s =
    if (y4 : Int32) < y3 then
      bV (ev d f_Ref_minuteGoes [vR 13 0, vR 43 k2] s) fun s1 =>
      Ref_goesOn_L1 d k2 y3 (y4 + 1) s1
    else
      some (none, s) := (x_adv_out (K := x_K) (P := x_Pr) (d := d + 1) (M := tb_Ref_goesOn) [2] 14 (2, [some (vR 13 0), some (vR 43 k2), some (vI y3), some (vI y4)], [], s)).symm
set_option maxRecDepth 100000 in
set_option maxHeartbeats 400000 in
theorem Ref_goesOn_eq (d : Nat) (j1 : Nat) (x2 : Int32) (s : xS) : ev (d + 1) f_Ref_goesOn [vR 13 0, vR 43 j1, vI x2] s =
    Ref_goesOn_L1 d j1 x2 0 s := (x_adv_out (K := x_K) (P := x_Pr) (d := d + 1) (M := tb_Ref_goesOn) [2] 14 (x_st0 tb_Ref_goesOn [vR 13 0, vR 43 j1, vI x2] s)).symm
noncomputable def Ref_viewsOfAll_L1 (d : Nat) (y2 : Int32) (y3 : Int32) (s : xS) : Option xO := og (d + 1) tb_Ref_viewsOfAll (4, [some (vR 13 0), some (vI y2), some (vI y3)], [], s)
set_option maxRecDepth 100000 in
set_option maxHeartbeats 400000 in
theorem Ref_viewsOfAll_L1_eq (d : Nat) (y2 : Int32) (y3 : Int32) (s : xS) : Ref_viewsOfAll_L1 d y2 y3 s =
    if (y3 : Int32) < s.1 13 0 6 then
      if x_in (8 + y3) 17 then
      bI (ev d f_Integer_bitCount [vI (s.1 43 0 (8 + y3 : Int32).toNatClampNeg)] s) fun r2 s1 =>
      Ref_viewsOfAll_L1 d (y2 + r2) (y3 + 1) s1
      else none
    else
      some (some (vI y2), s) := (x_adv_out (K := x_K) (P := x_Pr) (d := d + 1) (M := tb_Ref_viewsOfAll) [4] 25 (4, [some (vR 13 0), some (vI y2), some (vI y3)], [], s)).symm
set_option maxRecDepth 100000 in
set_option maxHeartbeats 400000 in
theorem Ref_viewsOfAll_eq (d : Nat)  (s : xS) : ev (d + 1) f_Ref_viewsOfAll [vR 13 0] s =
    Ref_viewsOfAll_L1 d 0 0 s := (x_adv_out (K := x_K) (P := x_Pr) (d := d + 1) (M := tb_Ref_viewsOfAll) [4] 25 (x_st0 tb_Ref_viewsOfAll [vR 13 0] s)).symm
set_option maxRecDepth 100000 in
set_option maxHeartbeats 400000 in
theorem Ref_toldOf_eq (d : Nat) (x1 : Int32) (x2 : Int32) (s : xS) : ev (d + 1) f_Ref_toldOf [vR 13 0, vI x1, vI x2] s =
    if (x2 : Int32) < 0 then
      bI (ev d f_Ref_counted [vR 13 0, vI x2] s) fun r2 s1 =>
      some (some (vI r2), s1)
    else
      if x_in x1 17 then
      bV (ev d f_Ref_enters [vR 13 0, vL ((s.1 43 0 (x1 : Int32).toNatClampNeg : Int32).toInt64)] (wI s 13 0 1 0)) fun s3 =>
      if x_in (8 + x1) 17 then
      bI (ev d f_Integer_bitCount [vI (s3.1 43 0 (8 + x1 : Int32).toNatClampNeg)] s3) fun r5 s4 =>
      bV (ev d f_Ref_enters [vR 13 0, vL ((r5 : Int32).toInt64)] s4) fun s6 =>
      bI (ev d f_Ref_counted [vR 13 0, vI x2] s6) fun r8 s7 =>
      some (some (vI r8), s7)
      else none
      else none := (x_adv_out (K := x_K) (P := x_Pr) (d := d + 1) (M := tb_Ref_toldOf) [] 29 (x_st0 tb_Ref_toldOf [vR 13 0, vI x1, vI x2] s)).symm
set_option maxRecDepth 100000 in
set_option maxHeartbeats 400000 in
theorem Ref_pushes_eq (d : Nat) (x1 : Int32) (x2 : Int32) (s : xS) : ev (d + 1) f_Ref_pushes [vR 13 0, vI x1, vI x2] s =
    bV (ev d f_Ref_putsBy [vR 13 0] (wI s 13 0 0 0)) fun s1 =>
    bI (ev d f_Ref_pushesOne [vR 13 0, vR 43 0, vI x1, vI x2] s1) fun r3 s2 =>
    bI (ev d f_Ref_toldOf [vR 13 0, vI x1, vI r3] s2) fun r5 s4 =>
    some (some (vI r5), s4) := (x_adv_out (K := x_K) (P := x_Pr) (d := d + 1) (M := tb_Ref_pushes) [] 18 (x_st0 tb_Ref_pushes [vR 13 0, vI x1, vI x2] s)).symm
set_option maxRecDepth 100000 in
set_option maxHeartbeats 400000 in
theorem Ref_faces_eq (d : Nat) (x1 : Int32) (x2 : Int32) (s : xS) : ev (d + 1) f_Ref_faces [vR 13 0, vI x1, vI x2] s =
    bV (ev d f_Ref_putsBy [vR 13 0] (wI s 13 0 0 0)) fun s1 =>
    bI (ev d f_Ref_turnsOne [vR 13 0, vI x1, vI x2] s1) fun r3 s2 =>
    bI (ev d f_Ref_toldOf [vR 13 0, vI x1, vI r3] s2) fun r5 s4 =>
    some (some (vI r5), s4) := (x_adv_out (K := x_K) (P := x_Pr) (d := d + 1) (M := tb_Ref_faces) [] 16 (x_st0 tb_Ref_faces [vR 13 0, vI x1, vI x2] s)).symm
set_option maxRecDepth 100000 in
set_option maxHeartbeats 400000 in
theorem Ref_looses_eq (d : Nat) (x1 : Int32) (s : xS) : ev (d + 1) f_Ref_looses [vR 13 0, vI x1] s =
    bV (ev d f_Ref_putsBy [vR 13 0] (wI s 13 0 0 0)) fun s1 =>
    bI (ev d f_Ref_sets [vR 13 0, vR 43 0, vI x1, vI 1] s1) fun r3 s2 =>
    bI (ev d f_Ref_counted [vR 13 0, vI r3] s2) fun r5 s4 =>
    some (some (vI r5), s4) := (x_adv_out (K := x_K) (P := x_Pr) (d := d + 1) (M := tb_Ref_looses) [] 17 (x_st0 tb_Ref_looses [vR 13 0, vI x1] s)).symm
set_option maxRecDepth 100000 in
set_option maxHeartbeats 400000 in
theorem Ref_catches_eq (d : Nat) (x1 : Int32) (s : xS) : ev (d + 1) f_Ref_catches [vR 13 0, vI x1] s =
    bV (ev d f_Ref_putsBy [vR 13 0] (wI s 13 0 0 0)) fun s1 =>
    bI (ev d f_Ref_sets [vR 13 0, vR 43 0, vI x1, vI 0] s1) fun r3 s2 =>
    bI (ev d f_Ref_counted [vR 13 0, vI r3] s2) fun r5 s4 =>
    some (some (vI r5), s4) := (x_adv_out (K := x_K) (P := x_Pr) (d := d + 1) (M := tb_Ref_catches) [] 17 (x_st0 tb_Ref_catches [vR 13 0, vI x1] s)).symm
set_option maxRecDepth 100000 in
set_option maxHeartbeats 400000 in
theorem Ref_minutes_eq (d : Nat) (x1 : Int32) (s : xS) : ev (d + 1) f_Ref_minutes [vR 13 0, vI x1] s =
    bI (ev d f_Ref_in [vL ((x1 : Int32).toInt64), vL 0, vL 60] (wI s 13 0 0 0)) fun r2 s1 =>
    if (r2 : Int32) = 0 then
      some (some (vI (-1)), s1)
    else
      bV (ev d f_Ref_putsBy [vR 13 0] s1) fun s3 =>
      bV (ev d f_Ref_goesOn [vR 13 0, vR 43 0, vI x1] (wI (wI s3 13 0 28 0) 13 0 29 0)) fun s4 =>
      bV (ev d f_Ref_enters [vR 13 0, vL ((s4.1 13 0 29 : Int32).toInt64)] (wI s4 13 0 1 0)) fun s5 =>
      bV (ev d f_Ref_enters [vR 13 0, vL ((s5.1 13 0 28 : Int32).toInt64)] s5) fun s6 =>
      bI (ev d f_Ref_looseMany [vR 13 0, vR 43 0] s6) fun r8 s7 =>
      bI (ev d f_Ref_adds [vR 13 0, vI r8] s7) fun r10 s9 =>
      some (some (vI r10), s9) := (x_adv_out (K := x_K) (P := x_Pr) (d := d + 1) (M := tb_Ref_minutes) [] 47 (x_st0 tb_Ref_minutes [vR 13 0, vI x1] s)).symm
set_option maxRecDepth 100000 in
set_option maxHeartbeats 400000 in
theorem Ref_forgets_eq (d : Nat) (x1 : Int32) (x2 : Int32) (s : xS) : ev (d + 1) f_Ref_forgets [vR 13 0, vI x1, vI x2] s =
    bV (ev d f_Ref_putsBy [vR 13 0] (wI s 13 0 0 0)) fun s1 =>
    bI (ev d f_Ref_forgetsOne [vR 13 0, vI x1, vI x2] s1) fun r3 s2 =>
    bI (ev d f_Ref_counted [vR 13 0, vI r3] s2) fun r5 s4 =>
    some (some (vI r5), s4) := (x_adv_out (K := x_K) (P := x_Pr) (d := d + 1) (M := tb_Ref_forgets) [] 15 (x_st0 tb_Ref_forgets [vR 13 0, vI x1, vI x2] s)).symm
noncomputable def Ref_readsAct_J1 (d : Nat) (y2 : Int32) (y3 : Int32) (y4 : Int32) (s : xS) : Option xO := og (d + 1) tb_Ref_readsAct (51, [some (vR 13 0), some (vI y2)], [vI y3, vI y4, vR 52 0], s)
noncomputable def Ref_readsAct_J2 (d : Nat) (y2 : Int32) (s : xS) : Option xO := og (d + 1) tb_Ref_readsAct (71, [some (vR 13 0), some (vI y2)], [], s)
noncomputable def Ref_readsAct_J3 (d : Nat) (y2 : Int32) (y3 : Int32) (y4 : Int32) (y6 : Int32) (s : xS) : Option xO := og (d + 1) tb_Ref_readsAct (108, [some (vR 13 0), some (vI y2)], [vI y3, vI y4, vR 13 0, vI y6, vR 53 0], s)
set_option maxRecDepth 100000 in
set_option maxHeartbeats 400000 in
theorem Ref_readsAct_J1_eq (d : Nat) (y2 : Int32) (y3 : Int32) (y4 : Int32) (s : xS) : Ref_readsAct_J1 d y2 y3 y4 s =
    if x_in y4 60 then
    if x_in y2 60 then
    if ((wI s 52 0 (y4 : Int32).toNatClampNeg y3).1 52 0 (y2 : Int32).toNatClampNeg : Int32) < 0 then
      Ref_readsAct_J2 d y2 (wI s 52 0 (y4 : Int32).toNatClampNeg y3)
    else
      if x_in y2 60 then
      if (s.1 51 0 (y2 : Int32).toNatClampNeg : Int32) < 3 then
        Ref_readsAct_J2 d y2 (wI s 52 0 (y4 : Int32).toNatClampNeg y3)
      else
        if x_in y2 60 then
        if (s.1 51 0 (y2 : Int32).toNatClampNeg : Int32) = 5 then
          Ref_readsAct_J3 d y2 5 0 y2 (wI s 52 0 (y4 : Int32).toNatClampNeg y3)
        else
          Ref_readsAct_J3 d y2 3 0 y2 (wI s 52 0 (y4 : Int32).toNatClampNeg y3)
        else none
      else none
    else none
    else none := (x_adv_out (K := x_K) (P := x_Pr) (d := d + 1) (M := tb_Ref_readsAct) [51, 71, 108] 78 (51, [some (vR 13 0), some (vI y2)], [vI y3, vI y4, vR 52 0], s)).symm
set_option maxRecDepth 100000 in
set_option maxHeartbeats 400000 in
theorem Ref_readsAct_J2_eq (d : Nat) (y2 : Int32) (s : xS) : Ref_readsAct_J2 d y2 s =
    if x_in y2 60 then
    if (s.1 52 0 (y2 : Int32).toNatClampNeg : Int32) < 0 then
      some (some (vI (x_nb 0)), s)
    else
      some (some (vI (x_nb 1)), s)
    else none := (x_adv_out (K := x_K) (P := x_Pr) (d := d + 1) (M := tb_Ref_readsAct) [51, 71, 108] 78 (71, [some (vR 13 0), some (vI y2)], [], s)).symm
set_option maxRecDepth 100000 in
set_option maxHeartbeats 400000 in
theorem Ref_readsAct_J3_eq (d : Nat) (y2 : Int32) (y3 : Int32) (y4 : Int32) (y6 : Int32) (s : xS) : Ref_readsAct_J3 d y2 y3 y4 y6 s =
    bI (ev d f_Ref_digitIn [vR 13 0, vI y4, vI y3] s) fun r6 s5 =>
    if x_in y6 60 then
    if x_in y2 60 then
    if ((wI s5 53 0 (y6 : Int32).toNatClampNeg r6).1 53 0 (y2 : Int32).toNatClampNeg : Int32) < 0 then
      some (some (vI (x_nb 0)), wI s5 53 0 (y6 : Int32).toNatClampNeg r6)
    else
      some (some (vI (x_nb 1)), wI s5 53 0 (y6 : Int32).toNatClampNeg r6)
    else none
    else none := (x_adv_out (K := x_K) (P := x_Pr) (d := d + 1) (M := tb_Ref_readsAct) [51, 71, 108] 78 (108, [some (vR 13 0), some (vI y2)], [vI y3, vI y4, vR 13 0, vI y6, vR 53 0], s)).symm
set_option maxRecDepth 100000 in
set_option maxHeartbeats 400000 in
theorem Ref_readsAct_eq (d : Nat)  (s : xS) : ev (d + 1) f_Ref_readsAct [vR 13 0] s =
    bI (ev d f_Ref_takesOf [vR 13 0, vR 900 5] s) fun r2 s1 =>
    if x_in (s.1 13 0 33) 60 then
    if x_in (s.1 13 0 33) 60 then
    if ((wI s1 51 0 (s.1 13 0 33 : Int32).toNatClampNeg r2).1 51 0 (s.1 13 0 33 : Int32).toNatClampNeg : Int32) < 0 then
      Ref_readsAct_J1 d (s.1 13 0 33) (-1) (s.1 13 0 33) (wI (wI s1 51 0 (s.1 13 0 33 : Int32).toNatClampNeg r2) 13 0 33 ((s1.1 13 0 33) + 1))
    else
      bI (ev d f_Ref_number [vR 13 0, vI 1] (wI (wI s1 51 0 (s.1 13 0 33 : Int32).toNatClampNeg r2) 13 0 33 ((s1.1 13 0 33) + 1))) fun r4 s3 =>
      Ref_readsAct_J1 d (s.1 13 0 33) r4 (s.1 13 0 33) s3
    else none
    else none := (x_adv_out (K := x_K) (P := x_Pr) (d := d + 1) (M := tb_Ref_readsAct) [51, 71, 108] 78 (x_st0 tb_Ref_readsAct [vR 13 0] s)).symm
set_option maxRecDepth 100000 in
set_option maxHeartbeats 400000 in
theorem Ref_does_eq (d : Nat) (x1 : Int32) (s : xS) : ev (d + 1) f_Ref_does [vR 13 0, vI x1] s =
    if x_in x1 60 then
    if x_in x1 60 then
    if (s.1 51 0 (x1 : Int32).toNatClampNeg : Int32) = 0 then
      bV (ev d f_Ref_goesOn [vR 13 0, vR 43 0, vI (s.1 52 0 (x1 : Int32).toNatClampNeg)] s) fun s1 =>
      some (some (vI (x_nb 1)), s1)
    else if (s.1 51 0 (x1 : Int32).toNatClampNeg : Int32) = 1 then
      bI (ev d f_Ref_sets [vR 13 0, vR 43 0, vI (s.1 52 0 (x1 : Int32).toNatClampNeg), vI 1] s) fun r3 s2 =>
      if (r3 : Int32) < 0 then
        some (some (vI (x_nb 0)), s2)
      else
        some (some (vI (x_nb 1)), s2)
    else if (s.1 51 0 (x1 : Int32).toNatClampNeg : Int32) = 2 then
      bI (ev d f_Ref_sets [vR 13 0, vR 43 0, vI (s.1 52 0 (x1 : Int32).toNatClampNeg), vI 0] s) fun r5 s4 =>
      if (r5 : Int32) < 0 then
        some (some (vI (x_nb 0)), s4)
      else
        some (some (vI (x_nb 1)), s4)
    else if (s.1 51 0 (x1 : Int32).toNatClampNeg : Int32) = 3 then
      if x_in x1 60 then
      bI (ev d f_Ref_pushesOne [vR 13 0, vR 43 0, vI (s.1 52 0 (x1 : Int32).toNatClampNeg), vI (s.1 53 0 (x1 : Int32).toNatClampNeg)] s) fun r7 s6 =>
      if (r7 : Int32) < 0 then
        some (some (vI (x_nb 0)), s6)
      else
        some (some (vI (x_nb 1)), s6)
      else none
    else if (s.1 51 0 (x1 : Int32).toNatClampNeg : Int32) = 4 then
      if x_in x1 60 then
      bI (ev d f_Ref_turnsOne [vR 13 0, vI (s.1 52 0 (x1 : Int32).toNatClampNeg), vI (s.1 53 0 (x1 : Int32).toNatClampNeg)] s) fun r9 s8 =>
      if (r9 : Int32) < 0 then
        some (some (vI (x_nb 0)), s8)
      else
        some (some (vI (x_nb 1)), s8)
      else none
    else if x_in x1 60 then
      bI (ev d f_Ref_forgetsOne [vR 13 0, vI (s.1 52 0 (x1 : Int32).toNatClampNeg), vI (s.1 53 0 (x1 : Int32).toNatClampNeg)] s) fun r11 s10 =>
      if (r11 : Int32) < 0 then
        some (some (vI (x_nb 0)), s10)
      else
        some (some (vI (x_nb 1)), s10)
      else none
    else none
    else none := (x_adv_out (K := x_K) (P := x_Pr) (d := d + 1) (M := tb_Ref_does) [] 80 (x_st0 tb_Ref_does [vR 13 0, vI x1] s)).symm
noncomputable def Ref_walk_L1 (d : Nat) (y2 : Int32) (y3 : Int32) (s : xS) : Option xO := og (d + 1) tb_Ref_walk (19, [some (vR 13 0), some (vI y2), some (vI y3), none, none], [], s)
noncomputable def Ref_walk_J2 (d : Nat) (y2 : Int32) (y3 : Int32) (s : xS) : Option xO := og (d + 1) tb_Ref_walk (42, [some (vR 13 0), some (vI y2), some (vI y3), none, none], [], s)
noncomputable def Ref_walk_L3 (d : Nat) (y2 : Int32) (s : xS) : Option xO := og (d + 1) tb_Ref_walk (64, [some (vR 13 0), none, none, none, some (vI y2)], [], s)
noncomputable def Ref_walk_J4 (d : Nat) (y2 : Int32) (s : xS) : Option xO := og (d + 1) tb_Ref_walk (88, [some (vR 13 0), none, none, none, some (vI y2)], [], s)
noncomputable def Ref_walk_J5 (d : Nat) (y2 : Int32) (y3 : Int32) (s : xS) : Option xO := og (d + 1) tb_Ref_walk (108, [some (vR 13 0), none, none, none, some (vI y2)], [vI y3, vR 13 0], s)
set_option maxRecDepth 100000 in
set_option maxHeartbeats 400000 in
theorem Ref_walk_L1_eq (d : Nat) (y2 : Int32) (y3 : Int32) (s : xS) : Ref_walk_L1 d y2 y3 s =
    if (y3 : Int32) = 0 then
      Ref_walk_J2 d y2 y3 s
    else
      if (s.1 13 0 12 : Int32) < s.1 13 0 13 then
        bI (ev d f_Ref_readsAct [vR 13 0] s) fun r4 s3 =>
        Ref_walk_L1 d y2 r4 s3
      else
        Ref_walk_J2 d y2 y3 s := (x_adv_out (K := x_K) (P := x_Pr) (d := d + 1) (M := tb_Ref_walk) [19, 42, 64, 88, 108] 77 (19, [some (vR 13 0), some (vI y2), some (vI y3), none, none], [], s)).symm
set_option maxRecDepth 100000 in
set_option maxHeartbeats 400000 in
theorem Ref_walk_J2_eq (d : Nat) (y2 : Int32) (y3 : Int32) (s : xS) : Ref_walk_J2 d y2 y3 s =
    bI (ev d f_Ref_faultOf [vR 13 0, vI y2, vI 60, vI y3] s) fun r6 s5 =>
    if (r6 : Int32) < 0 then
      some (some (vI r6), s5)
    else
      bV (ev d f_Ref_putsBy [vR 13 0] s5) fun s7 =>
      Ref_walk_L3 d 0 s7 := (x_adv_out (K := x_K) (P := x_Pr) (d := d + 1) (M := tb_Ref_walk) [19, 42, 64, 88, 108] 77 (42, [some (vR 13 0), some (vI y2), some (vI y3), none, none], [], s)).symm
set_option maxRecDepth 100000 in
set_option maxHeartbeats 400000 in
theorem Ref_walk_L3_eq (d : Nat) (y2 : Int32) (s : xS) : Ref_walk_L3 d y2 s =
    if (y2 : Int32) < s.1 13 0 33 then
      bI (ev d f_Ref_does [vR 13 0, vI y2] s) fun r9 s8 =>
      if (r9 : Int32) = 0 then
        Ref_walk_J4 d y2 s8
      else
        Ref_walk_L3 d (y2 + 1) s8
    else
      Ref_walk_J4 d y2 s := (x_adv_out (K := x_K) (P := x_Pr) (d := d + 1) (M := tb_Ref_walk) [19, 42, 64, 88, 108] 77 (64, [some (vR 13 0), none, none, none, some (vI y2)], [], s)).symm
set_option maxRecDepth 100000 in
set_option maxHeartbeats 400000 in
theorem Ref_walk_J4_eq (d : Nat) (y2 : Int32) (s : xS) : Ref_walk_J4 d y2 s =
    if (y2 : Int32) < s.1 13 0 33 then
      Ref_walk_J5 d y2 1 (wI s 13 0 1 0)
    else
      Ref_walk_J5 d y2 0 (wI s 13 0 1 0) := (x_adv_out (K := x_K) (P := x_Pr) (d := d + 1) (M := tb_Ref_walk) [19, 42, 64, 88, 108] 77 (88, [some (vR 13 0), none, none, none, some (vI y2)], [], s)).symm
set_option maxRecDepth 100000 in
set_option maxHeartbeats 400000 in
theorem Ref_walk_J5_eq (d : Nat) (y2 : Int32) (y3 : Int32) (s : xS) : Ref_walk_J5 d y2 y3 s =
    bI (ev d f_Ref_flag [vI y3] s) fun r11 s10 =>
    bV (ev d f_Ref_enters [vR 13 0, vL ((r11 : Int32).toInt64)] s10) fun s12 =>
    bI (ev d f_Ref_viewsOfAll [vR 13 0] s12) fun r14 s13 =>
    bV (ev d f_Ref_enters [vR 13 0, vL ((r14 : Int32).toInt64)] s13) fun s15 =>
    if (0 : Int32) < y2 then
      bI (ev d f_Ref_adds [vR 13 0, vI y2] s15) fun r17 s16 =>
      some (some (vI r17), s16)
    else
      some (some (vI 0), s15) := (x_adv_out (K := x_K) (P := x_Pr) (d := d + 1) (M := tb_Ref_walk) [19, 42, 64, 88, 108] 77 (108, [some (vR 13 0), none, none, none, some (vI y2)], [vI y3, vR 13 0], s)).symm
set_option maxRecDepth 100000 in
set_option maxHeartbeats 400000 in
theorem Ref_walk_eq (d : Nat)  (s : xS) : ev (d + 1) f_Ref_walk [vR 13 0] s =
    bI (ev d f_Ref_begins [vR 13 0, vI 60] (wI s 13 0 0 0)) fun r2 s1 =>
    Ref_walk_L1 d r2 1 (wI s1 13 0 33 0) := (x_adv_out (K := x_K) (P := x_Pr) (d := d + 1) (M := tb_Ref_walk) [19, 42, 64, 88, 108] 77 (x_st0 tb_Ref_walk [vR 13 0] s)).symm
set_option maxRecDepth 100000 in
set_option maxHeartbeats 400000 in
theorem Ref_sees_eq (d : Nat) (x1 : Int32) (s : xS) : ev (d + 1) f_Ref_sees [vR 13 0, vI x1] s =
    bI (ev d f_Ref_isPram [vR 13 0, vI x1] (wI s 13 0 0 0)) fun r2 s1 =>
    if (r2 : Int32) = 0 then
      some (some (vI (-1)), s1)
    else
      if x_in x1 17 then
      if x_in (4 + x1) 17 then
      if x_in (8 + x1) 17 then
      bI (ev d f_Ref_formed [vR 13 0, vR 43 0, vI x1, vI (s1.1 43 0 (x1 : Int32).toNatClampNeg), vI (s1.1 43 0 (4 + x1 : Int32).toNatClampNeg), vI (s1.1 43 0 (8 + x1 : Int32).toNatClampNeg)] s1) fun r4 s3 =>
      bV (ev d f_Ref_enters [vR 13 0, vL ((s3.1 13 0 24 : Int32).toInt64)] (wI s3 13 0 1 0)) fun s5 =>
      bV (ev d f_Ref_enters [vR 13 0, vL ((s5.1 13 0 25 : Int32).toInt64)] s5) fun s6 =>
      some (some (vI r4), s6)
      else none
      else none
      else none := (x_adv_out (K := x_K) (P := x_Pr) (d := d + 1) (M := tb_Ref_sees) [] 49 (x_st0 tb_Ref_sees [vR 13 0, vI x1] s)).symm
set_option maxRecDepth 100000 in
set_option maxHeartbeats 400000 in
theorem Ref_would_eq (d : Nat) (x1 : Int32) (x2 : Int32) (x3 : Int32) (s : xS) : ev (d + 1) f_Ref_would [vR 13 0, vI x1, vI x2, vI x3] s =
    bI (ev d f_Ref_isPram [vR 13 0, vI x1] (wI s 13 0 0 0)) fun r2 s1 =>
    if (r2 : Int32) = 0 then
      some (some (vI (-1)), s1)
    else
      bI (ev d f_Ref_isField [vR 13 0, vI x2] s1) fun r4 s3 =>
      if (r4 : Int32) = 0 then
        some (some (vI (-1)), s3)
      else
        bI (ev d f_Ref_in [vL ((x3 : Int32).toInt64), vL 0, vL 3] s3) fun r6 s5 =>
        if (r6 : Int32) = 0 then
          some (some (vI (-1)), s5)
        else
          if x_in x2 36 then
          if (s5.1 42 0 (x2 : Int32).toNatClampNeg : Int32) = 1 then
            some (some (vI (-2)), s5)
          else
            if x_in (8 + x1) 17 then
            bI (ev d f_Ref_formed [vR 13 0, vR 43 0, vI x1, vI x2, vI x3, vI (s5.1 43 0 (8 + x1 : Int32).toNatClampNeg)] s5) fun r8 s7 =>
            bI (ev d f_Integer_bitCount [vI r8] (wI s7 13 0 1 0)) fun r10 s9 =>
            bV (ev d f_Ref_enters [vR 13 0, vL ((r10 : Int32).toInt64)] s9) fun s11 =>
            some (some (vI r8), s11)
            else none
          else none := (x_adv_out (K := x_K) (P := x_Pr) (d := d + 1) (M := tb_Ref_would) [] 54 (x_st0 tb_Ref_would [vR 13 0, vI x1, vI x2, vI x3] s)).symm
noncomputable def Ref_laysStands_L1 (d : Nat) (y2 : Int32) (y3 : Int32) (s : xS) : Option xO := og (d + 1) tb_Ref_laysStands (2, [some (vR 13 0), some (vI y2), some (vI y3)], [], s)
set_option maxRecDepth 100000 in
set_option maxHeartbeats 400000 in
theorem Ref_laysStands_L1_eq (d : Nat) (y2 : Int32) (y3 : Int32) (s : xS) : Ref_laysStands_L1 d y2 y3 s =
    bI (ev d f_Ref_fields [vR 13 0] s) fun r2 s1 =>
    if (y3 : Int32) < 4 * r2 then
      if (4 : Int32) = 0 then none else
      bI (ev d f_Ref_isOpen [vR 13 0, vI (y3 / 4)] s1) fun r4 s3 =>
        if (r4 : Int32) = 0 then
          if x_in y3 144 then
          Ref_laysStands_L1 d y2 (y3 + 1) (wI s3 54 0 (y3 : Int32).toNatClampNeg 0)
          else none
        else
          if (4 : Int32) = 0 then none else
          if (4 : Int32) = 0 then none else
            if x_in (8 + y2) 17 then
              bI (ev d f_Ref_formed [vR 13 0, vR 43 0, vI y2, vI (y3 / 4), vI (jrem y3 4), vI (s3.1 43 0 (8 + y2 : Int32).toNatClampNeg)] s3) fun r6 s5 =>
              if x_in y3 144 then
              Ref_laysStands_L1 d y2 (y3 + 1) (wI s5 54 0 (y3 : Int32).toNatClampNeg r6)
              else none
              else none
    else
      some (none, s1) := (x_adv_out (K := x_K) (P := x_Pr) (d := d + 1) (M := tb_Ref_laysStands) [2] 43 (2, [some (vR 13 0), some (vI y2), some (vI y3)], [], s)).symm
set_option maxRecDepth 100000 in
set_option maxHeartbeats 400000 in
theorem Ref_laysStands_eq (d : Nat) (x1 : Int32) (s : xS) : ev (d + 1) f_Ref_laysStands [vR 13 0, vI x1] s =
    Ref_laysStands_L1 d x1 0 s := (x_adv_out (K := x_K) (P := x_Pr) (d := d + 1) (M := tb_Ref_laysStands) [2] 43 (x_st0 tb_Ref_laysStands [vR 13 0, vI x1] s)).symm
noncomputable def Ref_stands_L1 (d : Nat) (y2 : Int32) (y3 : Int32) (y4 : Int32) (s : xS) : Option xO := og (d + 1) tb_Ref_stands (32, [some (vR 13 0), none, some (vI y2), some (vI y3), some (vI y4), none, none, none], [], s)
noncomputable def Ref_stands_L2 (d : Nat) (y2 : Int32) (y3 : Int32) (y4 : Int32) (s : xS) : Option xO := og (d + 1) tb_Ref_stands (57, [some (vR 13 0), none, some (vI y2), some (vI y3), some (vI y4), none, none, none], [], s)
noncomputable def Ref_stands_L3 (d : Nat) (y2 : Int32) (y3 : Int32) (y4 : Int32) (s : xS) : Option xO := og (d + 1) tb_Ref_stands (99, [some (vR 13 0), none, some (vI y2), some (vI y3), some (vI y4), none, none, none], [], s)
noncomputable def Ref_stands_L4 (d : Nat) (y2 : Int32) (y3 : Int32) (y4 : Int32) (y5 : Int32) (s : xS) : Option xO := og (d + 1) tb_Ref_stands (107, [some (vR 13 0), none, some (vI y2), some (vI y3), some (vI y4), some (vI y5), none, none], [], s)
noncomputable def Ref_stands_L5 (d : Nat) (y2 : Int32) (y3 : Int32) (y4 : Int32) (y5 : Int32) (s : xS) : Option xO := og (d + 1) tb_Ref_stands (213, [some (vR 13 0), none, none, some (vI y2), some (vI y3), some (vI y4), some (vI y5), none], [], s)
set_option maxRecDepth 100000 in
set_option maxHeartbeats 400000 in
theorem Ref_stands_L1_eq (d : Nat) (y2 : Int32) (y3 : Int32) (y4 : Int32) (s : xS) : Ref_stands_L1 d y2 y3 y4 s =
    if (y4 : Int32) < y3 then
      if x_in y4 144 then
      Ref_stands_L1 d (y2 ||| (s.1 54 0 (y4 : Int32).toNatClampNeg)) y3 (y4 + 1) s
      else none
    else
      Ref_stands_L2 d y2 y3 0 s := (x_adv_out (K := x_K) (P := x_Pr) (d := d + 1) (M := tb_Ref_stands) [32, 57, 99, 107, 213] 172 (32, [some (vR 13 0), none, some (vI y2), some (vI y3), some (vI y4), none, none, none], [], s)).symm
set_option maxRecDepth 100000 in
set_option maxHeartbeats 400000 in
theorem Ref_stands_L2_eq (d : Nat) (y2 : Int32) (y3 : Int32) (y4 : Int32) (s : xS) : Ref_stands_L2 d y2 y3 y4 s =
    if (y4 : Int32) < 64 then
      if (y4 : Int32) = 0 then
        if x_in ((64 * y3) + y4) 9280 then
        Ref_stands_L2 d y2 y3 (y4 + 1) (wI s 55 0 ((64 * y3) + y4 : Int32).toNatClampNeg 0)
        else none
      else
        if x_in ((64 * y3) + y4) 9280 then
        Ref_stands_L2 d y2 y3 (y4 + 1) (wI s 55 0 ((64 * y3) + y4 : Int32).toNatClampNeg 1000000)
        else none
    else
      Ref_stands_L3 d y2 y3 (y3 - 1) s := (x_adv_out (K := x_K) (P := x_Pr) (d := d + 1) (M := tb_Ref_stands) [32, 57, 99, 107, 213] 172 (57, [some (vR 13 0), none, some (vI y2), some (vI y3), some (vI y4), none, none, none], [], s)).symm
set_option maxRecDepth 100000 in
set_option maxHeartbeats 400000 in
theorem Ref_stands_L3_eq (d : Nat) (y2 : Int32) (y3 : Int32) (y4 : Int32) (s : xS) : Ref_stands_L3 d y2 y3 y4 s =
    if (y4 : Int32) < 0 then
      if x_in y2 9280 then
      bV (ev d f_Ref_enters [vR 13 0, vL ((y2 : Int32).toInt64)] (wI s 13 0 1 0)) fun s6 =>
      Ref_stands_L5 d y3 (s.1 55 0 (y2 : Int32).toNatClampNeg) y2 0 s6
      else none
    else
      Ref_stands_L4 d y2 y3 y4 0 s := (x_adv_out (K := x_K) (P := x_Pr) (d := d + 1) (M := tb_Ref_stands) [32, 57, 99, 107, 213] 172 (99, [some (vR 13 0), none, some (vI y2), some (vI y3), some (vI y4), none, none, none], [], s)).symm
set_option maxRecDepth 100000 in
set_option maxHeartbeats 400000 in
theorem Ref_stands_L4_eq (d : Nat) (y2 : Int32) (y3 : Int32) (y4 : Int32) (y5 : Int32) (s : xS) : Ref_stands_L4 d y2 y3 y4 y5 s =
    if (y5 : Int32) < 64 then
      if x_in y4 144 then
      if x_in ((64 * (y4 + 1)) + (y5 &&& ((s.1 54 0 (y4 : Int32).toNatClampNeg) ^^^ (-1)))) 9280 then
      if x_in ((64 * (y4 + 1)) + y5) 9280 then
      bI (ev d f_Math_min [vI (s.1 55 0 ((64 * (y4 + 1)) + y5 : Int32).toNatClampNeg), vI ((s.1 55 0 ((64 * (y4 + 1)) + (y5 &&& ((s.1 54 0 (y4 : Int32).toNatClampNeg) ^^^ (-1))) : Int32).toNatClampNeg) + 1)] s) fun r8 s7 =>
      if x_in ((64 * y4) + y5) 9280 then
      Ref_stands_L4 d y2 y3 y4 (y5 + 1) (wI s7 55 0 ((64 * y4) + y5 : Int32).toNatClampNeg r8)
      else none
      else none
      else none
      else none
    else
      Ref_stands_L3 d y2 y3 (y4 + (-1)) s := (x_adv_out (K := x_K) (P := x_Pr) (d := d + 1) (M := tb_Ref_stands) [32, 57, 99, 107, 213] 172 (107, [some (vR 13 0), none, some (vI y2), some (vI y3), some (vI y4), some (vI y5), none, none], [], s)).symm
set_option maxRecDepth 100000 in
set_option maxHeartbeats 400000 in
theorem Ref_stands_L5_eq (d : Nat) (y2 : Int32) (y3 : Int32) (y4 : Int32) (y5 : Int32) (s : xS) : Ref_stands_L5 d y2 y3 y4 y5 s =
    if (y5 : Int32) < y2 then
      if (y4 : Int32) = 0 then
        some (some (vI y3), s)
      else
        if x_in y5 144 then
        if x_in ((64 * (y5 + 1)) + (y4 &&& ((s.1 54 0 (y5 : Int32).toNatClampNeg) ^^^ (-1)))) 9280 then
        if x_in ((64 * y5) + y4) 9280 then
        if ((s.1 55 0 ((64 * (y5 + 1)) + (y4 &&& ((s.1 54 0 (y5 : Int32).toNatClampNeg) ^^^ (-1))) : Int32).toNatClampNeg) + 1 : Int32) = s.1 55 0 ((64 * y5) + y4 : Int32).toNatClampNeg then
          bV (ev d f_Ref_enters [vR 13 0, vL ((y5 : Int32).toInt64)] s) fun s9 =>
          Ref_stands_L5 d y2 y3 (y4 &&& ((s.1 54 0 (y5 : Int32).toNatClampNeg) ^^^ (-1))) (y5 + 1) s9
        else
          Ref_stands_L5 d y2 y3 y4 (y5 + 1) s
        else none
        else none
        else none
    else
      some (some (vI y3), s) := (x_adv_out (K := x_K) (P := x_Pr) (d := d + 1) (M := tb_Ref_stands) [32, 57, 99, 107, 213] 172 (213, [some (vR 13 0), none, none, some (vI y2), some (vI y3), some (vI y4), some (vI y5), none], [], s)).symm
set_option maxRecDepth 100000 in
set_option maxHeartbeats 400000 in
theorem Ref_stands_eq (d : Nat) (x1 : Int32) (s : xS) : ev (d + 1) f_Ref_stands [vR 13 0, vI x1] s =
    bI (ev d f_Ref_isPram [vR 13 0, vI x1] (wI s 13 0 0 0)) fun r2 s1 =>
    if (r2 : Int32) = 0 then
      some (some (vI (-1)), s1)
    else
      bV (ev d f_Ref_laysStands [vR 13 0, vI x1] s1) fun s3 =>
      bI (ev d f_Ref_fields [vR 13 0] s3) fun r5 s4 =>
      Ref_stands_L1 d 0 (4 * r5) 0 s4 := (x_adv_out (K := x_K) (P := x_Pr) (d := d + 1) (M := tb_Ref_stands) [32, 57, 99, 107, 213] 172 (x_st0 tb_Ref_stands [vR 13 0, vI x1] s)).symm
set_option maxRecDepth 100000 in
set_option maxHeartbeats 400000 in
theorem Ref_isFree_eq (d : Nat) (x1 : Int32) (s : xS) : ev (d + 1) f_Ref_isFree [vR 13 0, vI x1] s =
    bI (ev d f_Ref_isOpen [vR 13 0, vI x1] s) fun r2 s1 =>
    if (r2 : Int32) = 0 then
      some (some (vI (x_nb 0)), s1)
    else
      if (x1 : Int32) = s1.1 13 0 38 then
        some (some (vI (x_nb 0)), s1)
      else
        some (some (vI (x_nb 1)), s1) := (x_adv_out (K := x_K) (P := x_Pr) (d := d + 1) (M := tb_Ref_isFree) [] 15 (x_st0 tb_Ref_isFree [vR 13 0, vI x1] s)).symm
noncomputable def Ref_laysFar_L1 (d : Nat) (y2 : Int32) (y3 : Int32) (s : xS) : Option xO := og (d + 1) tb_Ref_laysFar (2, [some (vR 13 0), some (vI y2), some (vI y3), none, none, none], [], s)
noncomputable def Ref_laysFar_L2 (d : Nat) (y2 : Int32) (y3 : Int32) (s : xS) : Option xO := og (d + 1) tb_Ref_laysFar (41, [some (vR 13 0), none, some (vI y2), some (vI y3), none, none], [], s)
noncomputable def Ref_laysFar_L3 (d : Nat) (y2 : Int32) (y3 : Int32) (y4 : Int32) (s : xS) : Option xO := og (d + 1) tb_Ref_laysFar (49, [some (vR 13 0), none, some (vI y2), some (vI y3), some (vI y4), none], [], s)
set_option maxRecDepth 100000 in
set_option maxHeartbeats 400000 in
theorem Ref_laysFar_L1_eq (d : Nat) (y2 : Int32) (y3 : Int32) (s : xS) : Ref_laysFar_L1 d y2 y3 s =
    if (y3 : Int32) < 36 then
      if x_in y3 36 then
      Ref_laysFar_L1 d y2 (y3 + 1) (wI s 56 0 (y3 : Int32).toNatClampNeg 1000000)
      else none
    else
      if x_in y2 36 then
      if x_in 0 36 then
      Ref_laysFar_L2 d 1 0 (wI (wI s 56 0 (y2 : Int32).toNatClampNeg 0) 57 0 (0 : Int32).toNatClampNeg y2)
      else none
      else none := (x_adv_out (K := x_K) (P := x_Pr) (d := d + 1) (M := tb_Ref_laysFar) [2, 41, 49] 80 (2, [some (vR 13 0), some (vI y2), some (vI y3), none, none, none], [], s)).symm
set_option maxRecDepth 100000 in
set_option maxHeartbeats 400000 in
theorem Ref_laysFar_L2_eq (d : Nat) (y2 : Int32) (y3 : Int32) (s : xS) : Ref_laysFar_L2 d y2 y3 s =
    if (y3 : Int32) < y2 then
      Ref_laysFar_L3 d y2 y3 0 s
    else
      some (some (vI y2), s) := (x_adv_out (K := x_K) (P := x_Pr) (d := d + 1) (M := tb_Ref_laysFar) [2, 41, 49] 80 (41, [some (vR 13 0), none, some (vI y2), some (vI y3), none, none], [], s)).symm
set_option maxRecDepth 100000 in
set_option maxHeartbeats 400000 in
theorem Ref_laysFar_L3_eq (d : Nat) (y2 : Int32) (y3 : Int32) (y4 : Int32) (s : xS) : Ref_laysFar_L3 d y2 y3 y4 s =
    if (y4 : Int32) < 4 then
      if x_in y3 36 then
      bI (ev d f_Ref_beside [vR 13 0, vI (s.1 57 0 (y3 : Int32).toNatClampNeg), vI y4] s) fun r2 s1 =>
      bI (ev d f_Ref_isFree [vR 13 0, vI r2] s1) fun r4 s3 =>
      if (r4 : Int32) = 0 then
        Ref_laysFar_L3 d y2 y3 (y4 + 1) s3
      else
        if x_in r2 36 then
        if (s3.1 56 0 (r2 : Int32).toNatClampNeg : Int32) = 1000000 then
          if x_in y3 36 then
          if x_in (s3.1 57 0 (y3 : Int32).toNatClampNeg) 36 then
          if x_in r2 36 then
          if x_in y2 36 then
          Ref_laysFar_L3 d (y2 + 1) y3 (y4 + 1) (wI (wI s3 56 0 (r2 : Int32).toNatClampNeg ((s3.1 56 0 (s3.1 57 0 (y3 : Int32).toNatClampNeg : Int32).toNatClampNeg) + 1)) 57 0 (y2 : Int32).toNatClampNeg r2)
          else none
          else none
          else none
          else none
        else
          Ref_laysFar_L3 d y2 y3 (y4 + 1) s3
        else none
      else none
    else
      Ref_laysFar_L2 d y2 (y3 + 1) s := (x_adv_out (K := x_K) (P := x_Pr) (d := d + 1) (M := tb_Ref_laysFar) [2, 41, 49] 80 (49, [some (vR 13 0), none, some (vI y2), some (vI y3), some (vI y4), none], [], s)).symm
set_option maxRecDepth 100000 in
set_option maxHeartbeats 400000 in
theorem Ref_laysFar_eq (d : Nat) (x1 : Int32) (s : xS) : ev (d + 1) f_Ref_laysFar [vR 13 0, vI x1] s =
    Ref_laysFar_L1 d x1 0 s := (x_adv_out (K := x_K) (P := x_Pr) (d := d + 1) (M := tb_Ref_laysFar) [2, 41, 49] 80 (x_st0 tb_Ref_laysFar [vR 13 0, vI x1] s)).symm
noncomputable def Ref_way_L1 (d : Nat) (y2 : Int32) (y3 : Int32) (y4 : Int32) (s : xS) : Option xO := og (d + 1) tb_Ref_way (74, [some (vR 13 0), some (vI y2), some (vI y3), some (vI y4), none], [], s)
noncomputable def Ref_way_L2 (d : Nat) (y2 : Int32) (y3 : Int32) (y4 : Int32) (y5 : Int32) (s : xS) : Option xO := og (d + 1) tb_Ref_way (82, [some (vR 13 0), some (vI y2), some (vI y3), some (vI y4), some (vI y5)], [], s)
noncomputable def Ref_way_J3 (d : Nat) (y2 : Int32) (y3 : Int32) (y4 : Int32) (y5 : Int32) (s : xS) : Option xO := og (d + 1) tb_Ref_way (141, [some (vR 13 0), some (vI y2), some (vI y3), some (vI y4), some (vI y5)], [], s)
set_option maxRecDepth 100000 in
set_option maxHeartbeats 400000 in
theorem Ref_way_L1_eq (d : Nat) (y2 : Int32) (y3 : Int32) (y4 : Int32) (s : xS) : Ref_way_L1 d y2 y3 y4 s =
    if (y4 : Int32) = y3 then
      if x_in y2 36 then
      some (some (vI (s.1 56 0 (y2 : Int32).toNatClampNeg)), s)
      else none
    else
      Ref_way_L2 d y2 y3 y4 0 s := (x_adv_out (K := x_K) (P := x_Pr) (d := d + 1) (M := tb_Ref_way) [74, 82, 141] 94 (74, [some (vR 13 0), some (vI y2), some (vI y3), some (vI y4), none], [], s)).symm
set_option maxRecDepth 100000 in
set_option maxHeartbeats 400000 in
theorem Ref_way_L2_eq (d : Nat) (y2 : Int32) (y3 : Int32) (y4 : Int32) (y5 : Int32) (s : xS) : Ref_way_L2 d y2 y3 y4 y5 s =
    bI (ev d f_Ref_beside [vR 13 0, vI y4, vI y5] s) fun r8 s7 =>
    bI (ev d f_Ref_isFree [vR 13 0, vI r8] s7) fun r10 s9 =>
    if (r10 : Int32) = 0 then
      Ref_way_L2 d y2 y3 y4 (y5 + 1) s9
    else
      bI (ev d f_Ref_beside [vR 13 0, vI y4, vI y5] s9) fun r12 s11 =>
      if x_in r12 36 then
      if x_in y4 36 then
      if (s11.1 56 0 (r12 : Int32).toNatClampNeg : Int32) = (s11.1 56 0 (y4 : Int32).toNatClampNeg) - 1 then
        if (s11.1 13 0 1 : Int32) < 12 then
          bV (ev d f_Ref_enters [vR 13 0, vL ((y5 : Int32).toInt64)] s11) fun s13 =>
          Ref_way_J3 d y2 y3 y4 y5 s13
        else
          Ref_way_J3 d y2 y3 y4 y5 s11
      else
        Ref_way_L2 d y2 y3 y4 (y5 + 1) s11
      else none
      else none := (x_adv_out (K := x_K) (P := x_Pr) (d := d + 1) (M := tb_Ref_way) [74, 82, 141] 94 (82, [some (vR 13 0), some (vI y2), some (vI y3), some (vI y4), some (vI y5)], [], s)).symm
set_option maxRecDepth 100000 in
set_option maxHeartbeats 400000 in
theorem Ref_way_J3_eq (d : Nat) (y2 : Int32) (y3 : Int32) (y4 : Int32) (y5 : Int32) (s : xS) : Ref_way_J3 d y2 y3 y4 y5 s =
    bI (ev d f_Ref_beside [vR 13 0, vI y4, vI y5] s) fun r15 s14 =>
    Ref_way_L1 d y2 y3 r15 s14 := (x_adv_out (K := x_K) (P := x_Pr) (d := d + 1) (M := tb_Ref_way) [74, 82, 141] 94 (141, [some (vR 13 0), some (vI y2), some (vI y3), some (vI y4), some (vI y5)], [], s)).symm
set_option maxRecDepth 100000 in
set_option maxHeartbeats 400000 in
theorem Ref_way_eq (d : Nat) (x1 : Int32) (x2 : Int32) (s : xS) : ev (d + 1) f_Ref_way [vR 13 0, vI x1, vI x2] s =
    bI (ev d f_Ref_isField [vR 13 0, vI x1] (wI s 13 0 0 0)) fun r2 s1 =>
    if (r2 : Int32) = 0 then
      some (some (vI (-1)), s1)
    else
      bI (ev d f_Ref_isField [vR 13 0, vI x2] s1) fun r4 s3 =>
      if (r4 : Int32) = 0 then
        some (some (vI (-1)), s3)
      else
        if x_in x1 36 then
        if (s3.1 42 0 (x1 : Int32).toNatClampNeg : Int32) = 1 then
          some (some (vI (-2)), s3)
        else
          if x_in x2 36 then
          if (s3.1 42 0 (x2 : Int32).toNatClampNeg : Int32) = 1 then
            some (some (vI (-2)), s3)
          else
            bI (ev d f_Ref_laysFar [vR 13 0, vI x2] s3) fun r6 s5 =>
            if x_in x1 36 then
            if (s5.1 56 0 (x1 : Int32).toNatClampNeg : Int32) = 1000000 then
              some (some (vI (-2)), s5)
            else
              Ref_way_L1 d x1 x2 x1 (wI s5 13 0 1 0)
            else none
          else none
        else none := (x_adv_out (K := x_K) (P := x_Pr) (d := d + 1) (M := tb_Ref_way) [74, 82, 141] 94 (x_st0 tb_Ref_way [vR 13 0, vI x1, vI x2] s)).symm
noncomputable def Ref_reach_L1 (d : Nat) (y2 : Int32) (y3 : Int32) (y4 : Int32) (s : xS) : Option xO := og (d + 1) tb_Ref_reach (39, [some (vR 13 0), none, some (vI y2), some (vI y3), some (vI y4), none], [], s)
noncomputable def Ref_reach_J2 (d : Nat) (y2 : Int32) (y3 : Int32) (y4 : Int32) (y5 : Int32) (s : xS) : Option xO := og (d + 1) tb_Ref_reach (104, [some (vR 13 0), none, some (vI y2), some (vI y3), some (vI y4), none], [vI y5], s)
set_option maxRecDepth 100000 in
set_option maxHeartbeats 400000 in
theorem Ref_reach_L1_eq (d : Nat) (y2 : Int32) (y3 : Int32) (y4 : Int32) (s : xS) : Ref_reach_L1 d y2 y3 y4 s =
    bI (ev d f_Ref_fields [vR 13 0] s) fun r6 s5 =>
    if (y4 : Int32) < r6 then
      if x_in y4 36 then
      if (s5.1 56 0 (y4 : Int32).toNatClampNeg : Int32) < 1000000 then
        if x_in y4 36 then
        if x_in y3 36 then
        if (s5.1 56 0 (y3 : Int32).toNatClampNeg : Int32) < s5.1 56 0 (y4 : Int32).toNatClampNeg then
          Ref_reach_J2 d y2 y3 y4 1 s5
        else
          if x_in y4 36 then
          if x_in y3 36 then
          if (s5.1 56 0 (y4 : Int32).toNatClampNeg : Int32) = s5.1 56 0 (y3 : Int32).toNatClampNeg then
            if (y4 : Int32) < y3 then
              Ref_reach_J2 d y2 y3 y4 1 s5
            else
              Ref_reach_J2 d y2 y3 y4 0 s5
          else
            Ref_reach_J2 d y2 y3 y4 0 s5
          else none
          else none
        else none
        else none
      else
        Ref_reach_J2 d y2 y3 y4 0 s5
      else none
    else
      if x_in y3 36 then
      bV (ev d f_Ref_enters [vR 13 0, vL ((s5.1 56 0 (y3 : Int32).toNatClampNeg : Int32).toInt64)] (wI s5 13 0 1 0)) fun s7 =>
      bV (ev d f_Ref_enters [vR 13 0, vL ((y3 : Int32).toInt64)] s7) fun s8 =>
      some (some (vI y2), s8)
      else none := (x_adv_out (K := x_K) (P := x_Pr) (d := d + 1) (M := tb_Ref_reach) [39, 104] 87 (39, [some (vR 13 0), none, some (vI y2), some (vI y3), some (vI y4), none], [], s)).symm
set_option maxRecDepth 100000 in
set_option maxHeartbeats 400000 in
theorem Ref_reach_J2_eq (d : Nat) (y2 : Int32) (y3 : Int32) (y4 : Int32) (y5 : Int32) (s : xS) : Ref_reach_J2 d y2 y3 y4 y5 s =
    if (y5 : Int32) = 0 then
      Ref_reach_L1 d y2 y3 (y4 + 1) s
    else
      Ref_reach_L1 d y2 y4 (y4 + 1) s := (x_adv_out (K := x_K) (P := x_Pr) (d := d + 1) (M := tb_Ref_reach) [39, 104] 87 (104, [some (vR 13 0), none, some (vI y2), some (vI y3), some (vI y4), none], [vI y5], s)).symm
set_option maxRecDepth 100000 in
set_option maxHeartbeats 400000 in
theorem Ref_reach_eq (d : Nat) (x1 : Int32) (s : xS) : ev (d + 1) f_Ref_reach [vR 13 0, vI x1] s =
    bI (ev d f_Ref_isField [vR 13 0, vI x1] (wI s 13 0 0 0)) fun r2 s1 =>
    if (r2 : Int32) = 0 then
      some (some (vI (-1)), s1)
    else
      if x_in x1 36 then
      if (s1.1 42 0 (x1 : Int32).toNatClampNeg : Int32) = 1 then
        some (some (vI (-2)), s1)
      else
        bI (ev d f_Ref_laysFar [vR 13 0, vI x1] s1) fun r4 s3 =>
        Ref_reach_L1 d r4 x1 0 s3
      else none := (x_adv_out (K := x_K) (P := x_Pr) (d := d + 1) (M := tb_Ref_reach) [39, 104] 87 (x_st0 tb_Ref_reach [vR 13 0, vI x1] s)).symm
noncomputable def Ref_partsMany_L1 (d : Nat) (y2 : Int64) (y3 : Int32) (y4 : Int32) (s : xS) : Option xO := og (d + 1) tb_Ref_partsMany (12, [some (vR 13 0), some (vL y2), none, some (vI y3), some (vI y4), none, none], [], s)
noncomputable def Ref_partsMany_L2 (d : Nat) (y2 : Int64) (y3 : Int32) (y4 : Int32) (y5 : Int32) (y6 : Int32) (s : xS) : Option xO := og (d + 1) tb_Ref_partsMany (50, [some (vR 13 0), some (vL y2), none, some (vI y3), some (vI y4), some (vI y5), some (vI y6)], [], s)
noncomputable def Ref_partsMany_J3 (d : Nat) (y2 : Int64) (y3 : Int32) (y4 : Int32) (y5 : Int32) (y6 : Int32) (s : xS) : Option xO := og (d + 1) tb_Ref_partsMany (94, [some (vR 13 0), some (vL y2), none, some (vI y3), some (vI y4), some (vI y5), none], [vI y6, vR 13 0], s)
set_option maxRecDepth 100000 in
set_option maxHeartbeats 400000 in
theorem Ref_partsMany_L1_eq (d : Nat) (y2 : Int64) (y3 : Int32) (y4 : Int32) (s : xS) : Ref_partsMany_L1 d y2 y3 y4 s =
    bI (ev d f_Ref_fields [vR 13 0] s) fun r2 s1 =>
    if (y4 : Int32) < r2 then
      bI (ev d f_Ref_isFree [vR 13 0, vI y4] s1) fun r4 s3 =>
      if (r4 : Int32) = 0 then
        Ref_partsMany_L1 d y2 y3 (y4 + 1) s3
      else
        bI (ev d f_Ref_has [vL y2, vI y4] s3) fun r6 s5 =>
        if (r6 : Int32) = 0 then
          bI (ev d f_Ref_laysFar [vR 13 0, vI y4] s5) fun r8 s7 =>
          Ref_partsMany_L2 d y2 y3 y4 r8 0 s7
        else
          Ref_partsMany_L1 d y2 y3 (y4 + 1) s5
    else
      some (some (vI y3), s1) := (x_adv_out (K := x_K) (P := x_Pr) (d := d + 1) (M := tb_Ref_partsMany) [12, 50, 94] 65 (12, [some (vR 13 0), some (vL y2), none, some (vI y3), some (vI y4), none, none], [], s)).symm
set_option maxRecDepth 100000 in
set_option maxHeartbeats 400000 in
theorem Ref_partsMany_L2_eq (d : Nat) (y2 : Int64) (y3 : Int32) (y4 : Int32) (y5 : Int32) (y6 : Int32) (s : xS) : Ref_partsMany_L2 d y2 y3 y4 y5 y6 s =
    if (y6 : Int32) < y5 then
      if x_in y6 36 then
      Ref_partsMany_L2 d (y2 ||| (jlshl 1 (s.1 57 0 (y6 : Int32).toNatClampNeg))) y3 y4 y5 (y6 + 1) s
      else none
    else
      if (s.1 13 0 39 : Int32) < y5 then
        Ref_partsMany_J3 d y2 y3 y4 y5 y4 s
      else
        Ref_partsMany_J3 d y2 y3 y4 y5 (s.1 13 0 40) s := (x_adv_out (K := x_K) (P := x_Pr) (d := d + 1) (M := tb_Ref_partsMany) [12, 50, 94] 65 (50, [some (vR 13 0), some (vL y2), none, some (vI y3), some (vI y4), some (vI y5), some (vI y6)], [], s)).symm
set_option maxRecDepth 100000 in
set_option maxHeartbeats 400000 in
theorem Ref_partsMany_J3_eq (d : Nat) (y2 : Int64) (y3 : Int32) (y4 : Int32) (y5 : Int32) (y6 : Int32) (s : xS) : Ref_partsMany_J3 d y2 y3 y4 y5 y6 s =
    bI (ev d f_Math_max [vI (s.1 13 0 39), vI y5] (wI s 13 0 40 y6)) fun r10 s9 =>
    Ref_partsMany_L1 d y2 (y3 + 1) (y4 + 1) (wI s9 13 0 39 r10) := (x_adv_out (K := x_K) (P := x_Pr) (d := d + 1) (M := tb_Ref_partsMany) [12, 50, 94] 65 (94, [some (vR 13 0), some (vL y2), none, some (vI y3), some (vI y4), some (vI y5), none], [vI y6, vR 13 0], s)).symm
set_option maxRecDepth 100000 in
set_option maxHeartbeats 400000 in
theorem Ref_partsMany_eq (d : Nat)  (s : xS) : ev (d + 1) f_Ref_partsMany [vR 13 0] s =
    Ref_partsMany_L1 d 0 0 0 (wI s 13 0 39 0) := (x_adv_out (K := x_K) (P := x_Pr) (d := d + 1) (M := tb_Ref_partsMany) [12, 50, 94] 65 (x_st0 tb_Ref_partsMany [vR 13 0] s)).symm
set_option maxRecDepth 100000 in
set_option maxHeartbeats 400000 in
theorem Ref_parts_eq (d : Nat)  (s : xS) : ev (d + 1) f_Ref_parts [vR 13 0] s =
    bI (ev d f_Ref_partsMany [vR 13 0] (wI s 13 0 0 0)) fun r2 s1 =>
    if (0 : Int32) < r2 then
      bV (ev d f_Ref_enters [vR 13 0, vL ((s1.1 13 0 39 : Int32).toInt64)] (wI s1 13 0 1 0)) fun s3 =>
      bV (ev d f_Ref_enters [vR 13 0, vL ((s3.1 13 0 40 : Int32).toInt64)] s3) fun s4 =>
      some (some (vI r2), s4)
    else
      some (some (vI r2), wI s1 13 0 1 0) := (x_adv_out (K := x_K) (P := x_Pr) (d := d + 1) (M := tb_Ref_parts) [] 26 (x_st0 tb_Ref_parts [vR 13 0] s)).symm
noncomputable def Ref_gates_L1 (d : Nat) (y2 : Int32) (y3 : Int32) (y4 : Int32) (s : xS) : Option xO := og (d + 1) tb_Ref_gates (19, [some (vR 13 0), some (vI y2), some (vI y3), some (vI y4), none], [], s)
noncomputable def Ref_gates_J2 (d : Nat) (y2 : Int32) (y3 : Int32) (y4 : Int32) (y5 : Int32) (s : xS) : Option xO := og (d + 1) tb_Ref_gates (53, [some (vR 13 0), some (vI y2), some (vI y3), some (vI y4), none], [vI y5], s)
noncomputable def Ref_gates_J3 (d : Nat) (y2 : Int32) (y3 : Int32) (y4 : Int32) (y5 : Int32) (s : xS) : Option xO := og (d + 1) tb_Ref_gates (75, [some (vR 13 0), some (vI y2), some (vI y3), some (vI y4), some (vI y5)], [], s)
set_option maxRecDepth 100000 in
set_option maxHeartbeats 400000 in
theorem Ref_gates_L1_eq (d : Nat) (y2 : Int32) (y3 : Int32) (y4 : Int32) (s : xS) : Ref_gates_L1 d y2 y3 y4 s =
    bI (ev d f_Ref_fields [vR 13 0] s) fun r4 s3 =>
    if (y4 : Int32) < r4 then
      bI (ev d f_Ref_isOpen [vR 13 0, vI y4] s3) fun r6 s5 =>
      if (r6 : Int32) = 0 then
        Ref_gates_L1 d y2 y3 (y4 + 1) s5
      else
        bI (ev d f_Ref_partsMany [vR 13 0] (wI s5 13 0 38 y4)) fun r8 s7 =>
        if (y2 : Int32) < r8 then
          Ref_gates_J2 d y2 y3 y4 1 s7
        else
          Ref_gates_J2 d y2 y3 y4 0 s7
    else
      some (some (vI y3), s3) := (x_adv_out (K := x_K) (P := x_Pr) (d := d + 1) (M := tb_Ref_gates) [19, 53, 75] 55 (19, [some (vR 13 0), some (vI y2), some (vI y3), some (vI y4), none], [], s)).symm
set_option maxRecDepth 100000 in
set_option maxHeartbeats 400000 in
theorem Ref_gates_J2_eq (d : Nat) (y2 : Int32) (y3 : Int32) (y4 : Int32) (y5 : Int32) (s : xS) : Ref_gates_J2 d y2 y3 y4 y5 s =
    if (y5 : Int32) = 0 then
      Ref_gates_J3 d y2 y3 y4 y5 (wI s 13 0 38 (-1))
    else
      if (y3 : Int32) = 0 then
        bV (ev d f_Ref_enters [vR 13 0, vL ((y4 : Int32).toInt64)] (wI s 13 0 38 (-1))) fun s9 =>
        Ref_gates_J3 d y2 y3 y4 y5 s9
      else
        Ref_gates_J3 d y2 y3 y4 y5 (wI s 13 0 38 (-1)) := (x_adv_out (K := x_K) (P := x_Pr) (d := d + 1) (M := tb_Ref_gates) [19, 53, 75] 55 (53, [some (vR 13 0), some (vI y2), some (vI y3), some (vI y4), none], [vI y5], s)).symm
set_option maxRecDepth 100000 in
set_option maxHeartbeats 400000 in
theorem Ref_gates_J3_eq (d : Nat) (y2 : Int32) (y3 : Int32) (y4 : Int32) (y5 : Int32) (s : xS) : Ref_gates_J3 d y2 y3 y4 y5 s =
    bI (ev d f_Ref_flag [vI y5] s) fun r11 s10 =>
    Ref_gates_L1 d y2 (y3 + r11) (y4 + 1) s10 := (x_adv_out (K := x_K) (P := x_Pr) (d := d + 1) (M := tb_Ref_gates) [19, 53, 75] 55 (75, [some (vR 13 0), some (vI y2), some (vI y3), some (vI y4), some (vI y5)], [], s)).symm
set_option maxRecDepth 100000 in
set_option maxHeartbeats 400000 in
theorem Ref_gates_eq (d : Nat)  (s : xS) : ev (d + 1) f_Ref_gates [vR 13 0] s =
    bI (ev d f_Ref_partsMany [vR 13 0] (wI s 13 0 0 0)) fun r2 s1 =>
    Ref_gates_L1 d r2 0 0 (wI s1 13 0 1 0) := (x_adv_out (K := x_K) (P := x_Pr) (d := d + 1) (M := tb_Ref_gates) [19, 53, 75] 55 (x_st0 tb_Ref_gates [vR 13 0] s)).symm
noncomputable def Ref_nearest_L1 (d : Nat) (y2 : Int32) (y3 : Int32) (s : xS) : Option xO := og (d + 1) tb_Ref_nearest (11, [some (vR 13 0), some (vI y2), some (vI y3), none], [], s)
noncomputable def Ref_nearest_L2 (d : Nat) (y2 : Int32) (y3 : Int32) (y4 : Int32) (s : xS) : Option xO := og (d + 1) tb_Ref_nearest (34, [some (vR 13 0), some (vI y2), some (vI y3), some (vI y4)], [], s)
set_option maxRecDepth 100000 in
set_option maxHeartbeats 400000 in
theorem Ref_nearest_L1_eq (d : Nat) (y2 : Int32) (y3 : Int32) (s : xS) : Ref_nearest_L1 d y2 y3 s =
    if (y3 : Int32) < s.1 13 0 6 then
      if x_in y3 17 then
      bI (ev d f_Ref_laysFar [vR 13 0, vI (s.1 43 0 (y3 : Int32).toNatClampNeg)] s) fun r2 s1 =>
      Ref_nearest_L2 d y2 y3 (y3 + 1) s1
      else none
    else
      if (y2 : Int32) = 1000000 then
        some (some (vI (-2)), s)
      else
        some (some (vI y2), s) := (x_adv_out (K := x_K) (P := x_Pr) (d := d + 1) (M := tb_Ref_nearest) [11, 34] 68 (11, [some (vR 13 0), some (vI y2), some (vI y3), none], [], s)).symm
set_option maxRecDepth 100000 in
set_option maxHeartbeats 400000 in
theorem Ref_nearest_L2_eq (d : Nat) (y2 : Int32) (y3 : Int32) (y4 : Int32) (s : xS) : Ref_nearest_L2 d y2 y3 y4 s =
    if (y4 : Int32) < s.1 13 0 6 then
      if x_in y4 17 then
      if x_in (s.1 43 0 (y4 : Int32).toNatClampNeg) 36 then
      if (s.1 56 0 (s.1 43 0 (y4 : Int32).toNatClampNeg : Int32).toNatClampNeg : Int32) < y2 then
        if x_in y4 17 then
        if x_in (s.1 43 0 (y4 : Int32).toNatClampNeg) 36 then
        bV (ev d f_Ref_enters [vR 13 0, vL ((y3 : Int32).toInt64)] (wI s 13 0 1 0)) fun s3 =>
        bV (ev d f_Ref_enters [vR 13 0, vL ((y4 : Int32).toInt64)] s3) fun s4 =>
        Ref_nearest_L2 d (s.1 56 0 (s.1 43 0 (y4 : Int32).toNatClampNeg : Int32).toNatClampNeg) y3 (y4 + 1) s4
        else none
        else none
      else
        Ref_nearest_L2 d y2 y3 (y4 + 1) s
      else none
      else none
    else
      Ref_nearest_L1 d y2 (y3 + 1) s := (x_adv_out (K := x_K) (P := x_Pr) (d := d + 1) (M := tb_Ref_nearest) [11, 34] 68 (34, [some (vR 13 0), some (vI y2), some (vI y3), some (vI y4)], [], s)).symm
set_option maxRecDepth 100000 in
set_option maxHeartbeats 400000 in
theorem Ref_nearest_eq (d : Nat)  (s : xS) : ev (d + 1) f_Ref_nearest [vR 13 0] s =
    Ref_nearest_L1 d 1000000 0 (wI s 13 0 0 0) := (x_adv_out (K := x_K) (P := x_Pr) (d := d + 1) (M := tb_Ref_nearest) [11, 34] 68 (x_st0 tb_Ref_nearest [vR 13 0] s)).symm
set_option maxRecDepth 100000 in
set_option maxHeartbeats 400000 in
theorem Ref_finds_eq (d : Nat) (x1 : Int32) (x2 : Int32) (x3 : Int32) (x4 : Int32) (s : xS) : ev (d + 1) f_Ref_finds [vR 13 0, vI x1, vI x2, vI x3, vI x4] s =
    if x_in x1 2304 then
    if (s.1 59 0 (x1 : Int32).toNatClampNeg : Int32) < 0 then
      if x_in x1 2304 then
      if x_in x1 2304 then
      if x_in x1 2304 then
      if x_in (s.1 13 0 45) 2304 then
      some (none, wI (wI (wI (wI (wI s 59 0 (x1 : Int32).toNatClampNeg x2) 60 0 (x1 : Int32).toNatClampNeg x3) 61 0 (x1 : Int32).toNatClampNeg x4) 58 0 (s.1 13 0 45 : Int32).toNatClampNeg x1) 13 0 45 ((s.1 13 0 45) + 1))
      else none
      else none
      else none
      else none
    else
      some (none, s)
    else none := (x_adv_out (K := x_K) (P := x_Pr) (d := d + 1) (M := tb_Ref_finds) [] 36 (x_st0 tb_Ref_finds [vR 13 0, vI x1, vI x2, vI x3, vI x4] s)).symm
set_option maxRecDepth 100000 in
set_option maxHeartbeats 400000 in
theorem Ref_placeBy_eq (d : Nat) (x1 : Int32) (x2 : Int32) (x3 : Int32) (s : xS) : ev (d + 1) f_Ref_placeBy [vR 13 0, vI x1, vI x2, vI x3] s =
    if (64 : Int32) = 0 then none else
    bI (ev d f_Ref_beside [vR 13 0, vI (x2 / 64), vI x3] s) fun r2 s1 =>
      if (64 : Int32) = 0 then none else
      bI (ev d f_Ref_isOpen [vR 13 0, vI r2] s1) fun r4 s3 =>
        if (r4 : Int32) = 0 then
          some (some (vI (-1)), s3)
        else
          bI (ev d f_Ref_formed [vR 13 0, vR 43 0, vI x1, vI r2, vI x3, vI (jrem x2 64)] s3) fun r6 s5 =>
          some (some (vI ((64 * r2) + ((jrem x2 64) ||| r6))), s5) := (x_adv_out (K := x_K) (P := x_Pr) (d := d + 1) (M := tb_Ref_placeBy) [] 35 (x_st0 tb_Ref_placeBy [vR 13 0, vI x1, vI x2, vI x3] s)).symm
noncomputable def Ref_laysPlaces_L1 (d : Nat) (y2 : Int32) (y3 : Int32) (s : xS) : Option xO := og (d + 1) tb_Ref_laysPlaces (2, [some (vR 13 0), some (vI y2), some (vI y3), none, none], [], s)
noncomputable def Ref_laysPlaces_L2 (d : Nat) (y2 : Int32) (y3 : Int32) (s : xS) : Option xO := og (d + 1) tb_Ref_laysPlaces (55, [some (vR 13 0), some (vI y2), some (vI y3), none, none], [], s)
noncomputable def Ref_laysPlaces_L3 (d : Nat) (y2 : Int32) (y3 : Int32) (y4 : Int32) (s : xS) : Option xO := og (d + 1) tb_Ref_laysPlaces (65, [some (vR 13 0), some (vI y2), some (vI y3), some (vI y4), none], [], s)
set_option maxRecDepth 100000 in
set_option maxHeartbeats 400000 in
theorem Ref_laysPlaces_L1_eq (d : Nat) (y2 : Int32) (y3 : Int32) (s : xS) : Ref_laysPlaces_L1 d y2 y3 s =
    if (y3 : Int32) < 2304 then
      if x_in y3 2304 then
      Ref_laysPlaces_L1 d y2 (y3 + 1) (wI s 59 0 (y3 : Int32).toNatClampNeg (-1))
      else none
    else
      if x_in y2 17 then
      if x_in (8 + y2) 17 then
      bV (ev d f_Ref_finds [vR 13 0, vI ((64 * (s.1 43 0 (y2 : Int32).toNatClampNeg)) + (s.1 43 0 (8 + y2 : Int32).toNatClampNeg)), vI 0, vI (-1), vI (-1)] (wI s 13 0 45 0)) fun s1 =>
      Ref_laysPlaces_L2 d y2 0 s1
      else none
      else none := (x_adv_out (K := x_K) (P := x_Pr) (d := d + 1) (M := tb_Ref_laysPlaces) [2, 55, 65] 80 (2, [some (vR 13 0), some (vI y2), some (vI y3), none, none], [], s)).symm
set_option maxRecDepth 100000 in
set_option maxHeartbeats 400000 in
theorem Ref_laysPlaces_L2_eq (d : Nat) (y2 : Int32) (y3 : Int32) (s : xS) : Ref_laysPlaces_L2 d y2 y3 s =
    if (y3 : Int32) < s.1 13 0 45 then
      Ref_laysPlaces_L3 d y2 y3 0 s
    else
      some (none, s) := (x_adv_out (K := x_K) (P := x_Pr) (d := d + 1) (M := tb_Ref_laysPlaces) [2, 55, 65] 80 (55, [some (vR 13 0), some (vI y2), some (vI y3), none, none], [], s)).symm
set_option maxRecDepth 100000 in
set_option maxHeartbeats 400000 in
theorem Ref_laysPlaces_L3_eq (d : Nat) (y2 : Int32) (y3 : Int32) (y4 : Int32) (s : xS) : Ref_laysPlaces_L3 d y2 y3 y4 s =
    if (y4 : Int32) < 4 then
      if x_in y3 2304 then
      bI (ev d f_Ref_placeBy [vR 13 0, vI y2, vI (s.1 58 0 (y3 : Int32).toNatClampNeg), vI y4] s) fun r3 s2 =>
      if (r3 : Int32) < 0 then
        Ref_laysPlaces_L3 d y2 y3 (y4 + 1) s2
      else
        if x_in y3 2304 then
        if x_in (s2.1 58 0 (y3 : Int32).toNatClampNeg) 2304 then
        if x_in y3 2304 then
        bV (ev d f_Ref_finds [vR 13 0, vI r3, vI ((s2.1 59 0 (s2.1 58 0 (y3 : Int32).toNatClampNeg : Int32).toNatClampNeg) + 1), vI (s2.1 58 0 (y3 : Int32).toNatClampNeg), vI y4] s2) fun s4 =>
        Ref_laysPlaces_L3 d y2 y3 (y4 + 1) s4
        else none
        else none
        else none
      else none
    else
      Ref_laysPlaces_L2 d y2 (y3 + 1) s := (x_adv_out (K := x_K) (P := x_Pr) (d := d + 1) (M := tb_Ref_laysPlaces) [2, 55, 65] 80 (65, [some (vR 13 0), some (vI y2), some (vI y3), some (vI y4), none], [], s)).symm
set_option maxRecDepth 100000 in
set_option maxHeartbeats 400000 in
theorem Ref_laysPlaces_eq (d : Nat) (x1 : Int32) (s : xS) : ev (d + 1) f_Ref_laysPlaces [vR 13 0, vI x1] s =
    Ref_laysPlaces_L1 d x1 0 s := (x_adv_out (K := x_K) (P := x_Pr) (d := d + 1) (M := tb_Ref_laysPlaces) [2, 55, 65] 80 (x_st0 tb_Ref_laysPlaces [vR 13 0, vI x1] s)).symm
noncomputable def Ref_entersPath_L1 (d : Nat) (y2 : Int32) (y3 : Int32) (y4 : Int32) (s : xS) : Option xO := og (d + 1) tb_Ref_entersPath (14, [some (vR 13 0), none, some (vI y2), some (vI y3), some (vI y4)], [], s)
noncomputable def Ref_entersPath_L2 (d : Nat) (y2 : Int32) (y3 : Int32) (s : xS) : Option xO := og (d + 1) tb_Ref_entersPath (53, [some (vR 13 0), none, some (vI y2), none, some (vI y3)], [], s)
set_option maxRecDepth 100000 in
set_option maxHeartbeats 400000 in
theorem Ref_entersPath_L1_eq (d : Nat) (y2 : Int32) (y3 : Int32) (y4 : Int32) (s : xS) : Ref_entersPath_L1 d y2 y3 y4 s =
    if (y4 : Int32) < 0 then
      Ref_entersPath_L2 d y2 0 (wI s 13 0 1 0)
    else
      if x_in y3 2304 then
      if x_in y4 2304 then
      if x_in y3 2304 then
      Ref_entersPath_L1 d y2 (s.1 60 0 (y3 : Int32).toNatClampNeg) (y4 + (-1)) (wI s 62 0 (y4 : Int32).toNatClampNeg (s.1 61 0 (y3 : Int32).toNatClampNeg))
      else none
      else none
      else none := (x_adv_out (K := x_K) (P := x_Pr) (d := d + 1) (M := tb_Ref_entersPath) [14, 53] 53 (14, [some (vR 13 0), none, some (vI y2), some (vI y3), some (vI y4)], [], s)).symm
set_option maxRecDepth 100000 in
set_option maxHeartbeats 400000 in
theorem Ref_entersPath_L2_eq (d : Nat) (y2 : Int32) (y3 : Int32) (s : xS) : Ref_entersPath_L2 d y2 y3 s =
    if (y3 : Int32) < y2 then
      if (y3 : Int32) < 12 then
        if x_in y3 2304 then
        bV (ev d f_Ref_enters [vR 13 0, vL ((s.1 62 0 (y3 : Int32).toNatClampNeg : Int32).toInt64)] s) fun s1 =>
        Ref_entersPath_L2 d y2 (y3 + 1) s1
        else none
      else
        some (some (vI y2), s)
    else
      some (some (vI y2), s) := (x_adv_out (K := x_K) (P := x_Pr) (d := d + 1) (M := tb_Ref_entersPath) [14, 53] 53 (53, [some (vR 13 0), none, some (vI y2), none, some (vI y3)], [], s)).symm
set_option maxRecDepth 100000 in
set_option maxHeartbeats 400000 in
theorem Ref_entersPath_eq (d : Nat) (x1 : Int32) (s : xS) : ev (d + 1) f_Ref_entersPath [vR 13 0, vI x1] s =
    if x_in x1 2304 then
    Ref_entersPath_L1 d (s.1 59 0 (x1 : Int32).toNatClampNeg) x1 ((s.1 59 0 (x1 : Int32).toNatClampNeg) - 1) s
    else none := (x_adv_out (K := x_K) (P := x_Pr) (d := d + 1) (M := tb_Ref_entersPath) [14, 53] 53 (x_st0 tb_Ref_entersPath [vR 13 0, vI x1] s)).symm
noncomputable def Ref_forms_L1 (d : Nat) (y2 : Int32) (y3 : Int32) (s : xS) : Option xO := og (d + 1) tb_Ref_forms (50, [some (vR 13 0), none, some (vI y2), some (vI y3)], [], s)
set_option maxRecDepth 100000 in
set_option maxHeartbeats 400000 in
theorem Ref_forms_L1_eq (d : Nat) (y2 : Int32) (y3 : Int32) (s : xS) : Ref_forms_L1 d y2 y3 s =
    if (y3 : Int32) < s.1 13 0 45 then
      if x_in y3 2304 then
      if (64 : Int32) = 0 then none else
      if ((jrem (s.1 58 0 (y3 : Int32).toNatClampNeg) 64) &&& y2 : Int32) = y2 then
          if x_in y3 2304 then
          bI (ev d f_Ref_entersPath [vR 13 0, vI (s.1 58 0 (y3 : Int32).toNatClampNeg)] s) fun r7 s6 =>
          some (some (vI r7), s6)
          else none
        else
          Ref_forms_L1 d y2 (y3 + 1) s
      else none
    else
      some (some (vI (-2)), s) := (x_adv_out (K := x_K) (P := x_Pr) (d := d + 1) (M := tb_Ref_forms) [50] 58 (50, [some (vR 13 0), none, some (vI y2), some (vI y3)], [], s)).symm
set_option maxRecDepth 100000 in
set_option maxHeartbeats 400000 in
theorem Ref_forms_eq (d : Nat) (x1 : Int32) (x2 : Int32) (s : xS) : ev (d + 1) f_Ref_forms [vR 13 0, vI x1, vI x2] s =
    bI (ev d f_Ref_isPram [vR 13 0, vI x1] (wI s 13 0 0 0)) fun r2 s1 =>
    if (r2 : Int32) = 0 then
      some (some (vI (-1)), s1)
    else
      bI (ev d f_Ref_in [vL ((x2 : Int32).toInt64), vL 0, vL 63] s1) fun r4 s3 =>
      if (r4 : Int32) = 0 then
        some (some (vI (-1)), s3)
      else
        if x_in (12 + x1) 17 then
        if (s3.1 43 0 (12 + x1 : Int32).toNatClampNeg : Int32) = 1 then
          some (some (vI (-3)), s3)
        else
          bV (ev d f_Ref_laysPlaces [vR 13 0, vI x1] s3) fun s5 =>
          Ref_forms_L1 d x2 0 s5
        else none := (x_adv_out (K := x_K) (P := x_Pr) (d := d + 1) (M := tb_Ref_forms) [50] 58 (x_st0 tb_Ref_forms [vR 13 0, vI x1, vI x2] s)).symm
noncomputable def Ref_most_L1 (d : Nat) (y2 : Int32) (y3 : Int32) (s : xS) : Option xO := og (d + 1) tb_Ref_most (40, [some (vR 13 0), none, some (vI y2), some (vI y3)], [], s)
set_option maxRecDepth 100000 in
set_option maxHeartbeats 400000 in
theorem Ref_most_L1_eq (d : Nat) (y2 : Int32) (y3 : Int32) (s : xS) : Ref_most_L1 d y2 y3 s =
    if (y3 : Int32) < s.1 13 0 45 then
      if x_in y3 2304 then
      if (64 : Int32) = 0 then none else
      bI (ev d f_Integer_bitCount [vI (jrem (s.1 58 0 (y3 : Int32).toNatClampNeg) 64)] s) fun r5 s4 =>
        if x_in y2 2304 then
        if (64 : Int32) = 0 then none else
        bI (ev d f_Integer_bitCount [vI (jrem (s4.1 58 0 (y2 : Int32).toNatClampNeg) 64)] s4) fun r7 s6 =>
          if (r7 : Int32) < r5 then
            Ref_most_L1 d y3 (y3 + 1) s6
          else
            Ref_most_L1 d y2 (y3 + 1) s6
        else none
      else none
    else
      if x_in y2 2304 then
      if x_in (s.1 58 0 (y2 : Int32).toNatClampNeg) 2304 then
      bV (ev d f_Ref_enters [vR 13 0, vL ((s.1 59 0 (s.1 58 0 (y2 : Int32).toNatClampNeg : Int32).toNatClampNeg : Int32).toInt64)] (wI s 13 0 1 0)) fun s8 =>
      if x_in y2 2304 then
      if (64 : Int32) = 0 then none else
      bI (ev d f_Integer_bitCount [vI (jrem (s8.1 58 0 (y2 : Int32).toNatClampNeg) 64)] s8) fun r10 s9 =>
        some (some (vI r10), s9)
      else none
      else none
      else none := (x_adv_out (K := x_K) (P := x_Pr) (d := d + 1) (M := tb_Ref_most) [40] 75 (40, [some (vR 13 0), none, some (vI y2), some (vI y3)], [], s)).symm
set_option maxRecDepth 100000 in
set_option maxHeartbeats 400000 in
theorem Ref_most_eq (d : Nat) (x1 : Int32) (s : xS) : ev (d + 1) f_Ref_most [vR 13 0, vI x1] s =
    bI (ev d f_Ref_isPram [vR 13 0, vI x1] (wI s 13 0 0 0)) fun r2 s1 =>
    if (r2 : Int32) = 0 then
      some (some (vI (-1)), s1)
    else
      if x_in (12 + x1) 17 then
      if (s1.1 43 0 (12 + x1 : Int32).toNatClampNeg : Int32) = 1 then
        some (some (vI (-3)), s1)
      else
        bV (ev d f_Ref_laysPlaces [vR 13 0, vI x1] s1) fun s3 =>
        Ref_most_L1 d 0 1 s3
      else none := (x_adv_out (K := x_K) (P := x_Pr) (d := d + 1) (M := tb_Ref_most) [40] 75 (x_st0 tb_Ref_most [vR 13 0, vI x1] s)).symm
noncomputable def Ref_waysFrom_L1 (d : Nat) (y2 : Int32) (y3 : Int32) (s : xS) : Option xO := og (d + 1) tb_Ref_waysFrom (18, [some (vR 13 0), none, none, none, none, some (vI y2), some (vI y3), none], [], s)
noncomputable def Ref_waysFrom_J2 (d : Nat)  (s : xS) : Option xO := og (d + 1) tb_Ref_waysFrom (50, [some (vR 13 0), none, none, none, none, none, none, none], [], s)
noncomputable def Ref_waysFrom_L3 (d : Nat) (y2 : Int32) (y3 : Int32) (y4 : Int32) (y5 : Int32) (y6 : Int32) (y7 : Int32) (s : xS) : Option xO := og (d + 1) tb_Ref_waysFrom (64, [some (vR 13 0), some (vI y2), some (vI y3), some (vI y4), some (vI y5), some (vI y6), some (vI y7), none], [], s)
set_option maxRecDepth 100000 in
set_option maxHeartbeats 400000 in
theorem Ref_waysFrom_L1_eq (d : Nat) (y2 : Int32) (y3 : Int32) (s : xS) : Ref_waysFrom_L1 d y2 y3 s =
    if (y3 : Int32) < y2 then
      if (s.1 13 0 47 : Int32) = 0 then
        if x_in y3 2304 then
        bV (ev d f_Ref_enters [vR 13 0, vL ((s.1 62 0 (y3 : Int32).toNatClampNeg : Int32).toInt64)] s) fun s1 =>
        Ref_waysFrom_L1 d y2 (y3 + 1) s1
        else none
      else
        Ref_waysFrom_J2 d s
    else
      Ref_waysFrom_J2 d s := (x_adv_out (K := x_K) (P := x_Pr) (d := d + 1) (M := tb_Ref_waysFrom) [18, 50, 64] 65 (18, [some (vR 13 0), none, none, none, none, some (vI y2), some (vI y3), none], [], s)).symm
set_option maxRecDepth 100000 in
set_option maxHeartbeats 400000 in
theorem Ref_waysFrom_J2_eq (d : Nat)  (s : xS) : Ref_waysFrom_J2 d  s =
    some (none, wI s 13 0 47 ((s.1 13 0 47) + 1)) := (x_adv_out (K := x_K) (P := x_Pr) (d := d + 1) (M := tb_Ref_waysFrom) [18, 50, 64] 65 (50, [some (vR 13 0), none, none, none, none, none, none, none], [], s)).symm
set_option maxRecDepth 100000 in
set_option maxHeartbeats 400000 in
theorem Ref_waysFrom_L3_eq (d : Nat) (y2 : Int32) (y3 : Int32) (y4 : Int32) (y5 : Int32) (y6 : Int32) (y7 : Int32) (s : xS) : Ref_waysFrom_L3 d y2 y3 y4 y5 y6 y7 s =
    if (y7 : Int32) < 4 then
      bI (ev d f_Ref_placeBy [vR 13 0, vI y2, vI y3, vI y7] s) fun r3 s2 =>
      if (r3 : Int32) < 0 then
        Ref_waysFrom_L3 d y2 y3 y4 y5 y6 (y7 + 1) s2
      else
        if x_in y5 2304 then
        bV (ev d f_Ref_waysFrom [vR 13 0, vI y2, vI r3, vI y4, vI (y5 + 1), vI y6] (wI s2 62 0 (y5 : Int32).toNatClampNeg y7)) fun s4 =>
        Ref_waysFrom_L3 d y2 y3 y4 y5 y6 (y7 + 1) s4
        else none
    else
      some (none, s) := (x_adv_out (K := x_K) (P := x_Pr) (d := d + 1) (M := tb_Ref_waysFrom) [18, 50, 64] 65 (64, [some (vR 13 0), some (vI y2), some (vI y3), some (vI y4), some (vI y5), some (vI y6), some (vI y7), none], [], s)).symm
set_option maxRecDepth 100000 in
set_option maxHeartbeats 400000 in
theorem Ref_waysFrom_eq (d : Nat) (x1 : Int32) (x2 : Int32) (x3 : Int32) (x4 : Int32) (x5 : Int32) (s : xS) : ev (d + 1) f_Ref_waysFrom [vR 13 0, vI x1, vI x2, vI x3, vI x4, vI x5] s =
    if (x4 : Int32) = x5 then
      if (64 : Int32) = 0 then none else
      if (jrem x2 64 : Int32) = x3 then
          Ref_waysFrom_L1 d x5 0 s
        else
          some (none, s)
    else
      Ref_waysFrom_L3 d x1 x2 x3 x4 x5 0 s := (x_adv_out (K := x_K) (P := x_Pr) (d := d + 1) (M := tb_Ref_waysFrom) [18, 50, 64] 65 (x_st0 tb_Ref_waysFrom [vR 13 0, vI x1, vI x2, vI x3, vI x4, vI x5] s)).symm
set_option maxRecDepth 100000 in
set_option maxHeartbeats 400000 in
theorem Ref_ways_eq (d : Nat) (x1 : Int32) (x2 : Int32) (x3 : Int32) (s : xS) : ev (d + 1) f_Ref_ways [vR 13 0, vI x1, vI x2, vI x3] s =
    bI (ev d f_Ref_isPram [vR 13 0, vI x1] (wI s 13 0 0 0)) fun r2 s1 =>
    if (r2 : Int32) = 0 then
      some (some (vI (-1)), s1)
    else
      bI (ev d f_Ref_in [vL ((x2 : Int32).toInt64), vL 0, vL 63] s1) fun r4 s3 =>
      if (r4 : Int32) = 0 then
        some (some (vI (-1)), s3)
      else
        bI (ev d f_Ref_in [vL ((x3 : Int32).toInt64), vL 0, vL 5] s3) fun r6 s5 =>
        if (r6 : Int32) = 0 then
          some (some (vI (-1)), s5)
        else
          if x_in (12 + x1) 17 then
          if (s5.1 43 0 (12 + x1 : Int32).toNatClampNeg : Int32) = 1 then
            some (some (vI (-3)), s5)
          else
            if x_in x1 17 then
            if x_in (8 + x1) 17 then
            bV (ev d f_Ref_waysFrom [vR 13 0, vI x1, vI ((64 * (s5.1 43 0 (x1 : Int32).toNatClampNeg)) + (s5.1 43 0 (8 + x1 : Int32).toNatClampNeg)), vI x2, vI 0, vI x3] (wI (wI s5 13 0 1 0) 13 0 47 0)) fun s7 =>
            some (some (vI (s7.1 13 0 47)), s7)
            else none
            else none
          else none := (x_adv_out (K := x_K) (P := x_Pr) (d := d + 1) (M := tb_Ref_ways) [] 62 (x_st0 tb_Ref_ways [vR 13 0, vI x1, vI x2, vI x3] s)).symm
noncomputable def Ref_strays_L1 (d : Nat) (y2 : Int32) (y3 : Int32) (y4 : Int32) (y5 : Int32) (s : xS) : Option xO := og (d + 1) tb_Ref_strays (38, [some (vR 13 0), some (vI y2), some (vI y3), some (vI y4), some (vI y5), none, none, none, none, none], [], s)
noncomputable def Ref_strays_J2 (d : Nat) (y2 : Int32) (y3 : Int32) (y4 : Int32) (y5 : Int32) (y6 : Int32) (y7 : Int32) (s : xS) : Option xO := og (d + 1) tb_Ref_strays (67, [some (vR 13 0), some (vI y2), some (vI y3), some (vI y4), some (vI y5), none, none, none, none, none], [vI y6, vI y7, vR 63 0], s)
noncomputable def Ref_strays_L3 (d : Nat) (y2 : Int32) (y3 : Int32) (y4 : Int64) (y5 : Int32) (s : xS) : Option xO := og (d + 1) tb_Ref_strays (84, [some (vR 13 0), none, some (vI y2), some (vI y3), some (vL y4), none, some (vI y5), none, none, none], [], s)
noncomputable def Ref_strays_L4 (d : Nat) (y2 : Int32) (y3 : Int32) (y4 : Int64) (y5 : Int32) (y6 : Int32) (s : xS) : Option xO := og (d + 1) tb_Ref_strays (101, [some (vR 13 0), none, some (vI y2), some (vI y3), some (vL y4), none, some (vI y5), some (vI y6), none, none], [], s)
noncomputable def Ref_strays_L5 (d : Nat) (y2 : Int32) (y3 : Int32) (y4 : Int64) (y5 : Int32) (y6 : Int32) (s : xS) : Option xO := og (d + 1) tb_Ref_strays (125, [some (vR 13 0), none, some (vI y2), some (vI y3), some (vL y4), none, some (vI y5), some (vI y6), none, none], [], s)
noncomputable def Ref_strays_L6 (d : Nat) (y2 : Int32) (y3 : Int32) (y4 : Int64) (y5 : Int32) (y6 : Int32) (y7 : Int32) (s : xS) : Option xO := og (d + 1) tb_Ref_strays (137, [some (vR 13 0), none, some (vI y2), some (vI y3), some (vL y4), none, some (vI y5), some (vI y6), some (vI y7), none], [], s)
noncomputable def Ref_strays_J7 (d : Nat) (y2 : Int32) (y3 : Int32) (y4 : Int64) (y5 : Int32) (y6 : Int32) (y7 : Int32) (y8 : Int32) (s : xS) : Option xO := og (d + 1) tb_Ref_strays (173, [some (vR 13 0), none, some (vI y2), some (vI y3), some (vL y4), none, some (vI y5), some (vI y6), some (vI y7), none], [vI y8, vR 64 0], s)
noncomputable def Ref_strays_L8 (d : Nat) (y2 : Int32) (y3 : Int32) (y4 : Int64) (y5 : Int32) (y6 : Int32) (s : xS) : Option xO := og (d + 1) tb_Ref_strays (199, [some (vR 13 0), none, some (vI y2), some (vI y3), some (vL y4), none, some (vI y5), some (vI y6), none, none], [], s)
set_option maxRecDepth 100000 in
set_option maxHeartbeats 400000 in
theorem Ref_strays_L1_eq (d : Nat) (y2 : Int32) (y3 : Int32) (y4 : Int32) (y5 : Int32) (s : xS) : Ref_strays_L1 d y2 y3 y4 y5 s =
    if (y5 : Int32) < 36 then
      if x_in y2 17 then
      if (y5 : Int32) = s.1 43 0 (y2 : Int32).toNatClampNeg then
        Ref_strays_J2 d y2 y3 y4 y5 1 y5 s
      else
        Ref_strays_J2 d y2 y3 y4 y5 0 y5 s
      else none
    else
      Ref_strays_L3 d y3 y4 1 0 s := (x_adv_out (K := x_K) (P := x_Pr) (d := d + 1) (M := tb_Ref_strays) [38, 67, 84, 101, 125, 137, 173, 199] 146 (38, [some (vR 13 0), some (vI y2), some (vI y3), some (vI y4), some (vI y5), none, none, none, none, none], [], s)).symm
set_option maxRecDepth 100000 in
set_option maxHeartbeats 400000 in
theorem Ref_strays_J2_eq (d : Nat) (y2 : Int32) (y3 : Int32) (y4 : Int32) (y5 : Int32) (y6 : Int32) (y7 : Int32) (s : xS) : Ref_strays_J2 d y2 y3 y4 y5 y6 y7 s =
    bI (ev d f_Ref_flag [vI y6] s) fun r8 s7 =>
    if x_in y7 36 then
    Ref_strays_L1 d y2 y3 y4 (y5 + 1) (wL s7 63 0 (y7 : Int32).toNatClampNeg ((r8 : Int32).toInt64))
    else none := (x_adv_out (K := x_K) (P := x_Pr) (d := d + 1) (M := tb_Ref_strays) [38, 67, 84, 101, 125, 137, 173, 199] 146 (67, [some (vR 13 0), some (vI y2), some (vI y3), some (vI y4), some (vI y5), none, none, none, none, none], [vI y6, vI y7, vR 63 0], s)).symm
set_option maxRecDepth 100000 in
set_option maxHeartbeats 400000 in
theorem Ref_strays_L3_eq (d : Nat) (y2 : Int32) (y3 : Int32) (y4 : Int64) (y5 : Int32) (s : xS) : Ref_strays_L3 d y2 y3 y4 y5 s =
    if (y5 : Int32) < y2 then
      Ref_strays_L4 d y2 y3 (y4 * 4) y5 0 s
    else
      if x_in y3 36 then
      bL (ev d f_Ref_common [vL (s.2 63 0 (y3 : Int32).toNatClampNeg), vL y4] s) fun r10 s9 =>
      if x_in y3 36 then
      if (r10 : Int64) = 0 then none else
      bV (ev d f_Ref_enters [vR 13 0, vL ((s9.2 63 0 (y3 : Int32).toNatClampNeg) / r10)] (wI s9 13 0 1 0)) fun s11 =>
        if (r10 : Int64) = 0 then none else
        bV (ev d f_Ref_enters [vR 13 0, vL (y4 / r10)] s11) fun s12 =>
          some (some (vI 0), s12)
      else none
      else none := (x_adv_out (K := x_K) (P := x_Pr) (d := d + 1) (M := tb_Ref_strays) [38, 67, 84, 101, 125, 137, 173, 199] 146 (84, [some (vR 13 0), none, some (vI y2), some (vI y3), some (vL y4), none, some (vI y5), none, none, none], [], s)).symm
set_option maxRecDepth 100000 in
set_option maxHeartbeats 400000 in
theorem Ref_strays_L4_eq (d : Nat) (y2 : Int32) (y3 : Int32) (y4 : Int64) (y5 : Int32) (y6 : Int32) (s : xS) : Ref_strays_L4 d y2 y3 y4 y5 y6 s =
    if (y6 : Int32) < 36 then
      if x_in y6 36 then
      Ref_strays_L4 d y2 y3 y4 y5 (y6 + 1) (wL s 64 0 (y6 : Int32).toNatClampNeg 0)
      else none
    else
      Ref_strays_L5 d y2 y3 y4 y5 0 s := (x_adv_out (K := x_K) (P := x_Pr) (d := d + 1) (M := tb_Ref_strays) [38, 67, 84, 101, 125, 137, 173, 199] 146 (101, [some (vR 13 0), none, some (vI y2), some (vI y3), some (vL y4), none, some (vI y5), some (vI y6), none, none], [], s)).symm
set_option maxRecDepth 100000 in
set_option maxHeartbeats 400000 in
theorem Ref_strays_L5_eq (d : Nat) (y2 : Int32) (y3 : Int32) (y4 : Int64) (y5 : Int32) (y6 : Int32) (s : xS) : Ref_strays_L5 d y2 y3 y4 y5 y6 s =
    bI (ev d f_Ref_fields [vR 13 0] s) fun r14 s13 =>
    if (y6 : Int32) < r14 then
      Ref_strays_L6 d y2 y3 y4 y5 y6 0 s13
    else
      Ref_strays_L8 d y2 y3 y4 y5 0 s13 := (x_adv_out (K := x_K) (P := x_Pr) (d := d + 1) (M := tb_Ref_strays) [38, 67, 84, 101, 125, 137, 173, 199] 146 (125, [some (vR 13 0), none, some (vI y2), some (vI y3), some (vL y4), none, some (vI y5), some (vI y6), none, none], [], s)).symm
set_option maxRecDepth 100000 in
set_option maxHeartbeats 400000 in
theorem Ref_strays_L6_eq (d : Nat) (y2 : Int32) (y3 : Int32) (y4 : Int64) (y5 : Int32) (y6 : Int32) (y7 : Int32) (s : xS) : Ref_strays_L6 d y2 y3 y4 y5 y6 y7 s =
    if (y7 : Int32) < 4 then
      bI (ev d f_Ref_beside [vR 13 0, vI y6, vI y7] s) fun r16 s15 =>
      bI (ev d f_Ref_isOpen [vR 13 0, vI r16] s15) fun r18 s17 =>
      if (r18 : Int32) = 0 then
        Ref_strays_J7 d y2 y3 y4 y5 y6 y7 y6 s17
      else
        Ref_strays_J7 d y2 y3 y4 y5 y6 y7 r16 s17
    else
      Ref_strays_L5 d y2 y3 y4 y5 (y6 + 1) s := (x_adv_out (K := x_K) (P := x_Pr) (d := d + 1) (M := tb_Ref_strays) [38, 67, 84, 101, 125, 137, 173, 199] 146 (137, [some (vR 13 0), none, some (vI y2), some (vI y3), some (vL y4), none, some (vI y5), some (vI y6), some (vI y7), none], [], s)).symm
set_option maxRecDepth 100000 in
set_option maxHeartbeats 400000 in
theorem Ref_strays_J7_eq (d : Nat) (y2 : Int32) (y3 : Int32) (y4 : Int64) (y5 : Int32) (y6 : Int32) (y7 : Int32) (y8 : Int32) (s : xS) : Ref_strays_J7 d y2 y3 y4 y5 y6 y7 y8 s =
    if x_in y8 36 then
    if x_in y6 36 then
    if x_in y8 36 then
    Ref_strays_L6 d y2 y3 y4 y5 y6 (y7 + 1) (wL s 64 0 (y8 : Int32).toNatClampNeg ((s.2 64 0 (y8 : Int32).toNatClampNeg) + (s.2 63 0 (y6 : Int32).toNatClampNeg)))
    else none
    else none
    else none := (x_adv_out (K := x_K) (P := x_Pr) (d := d + 1) (M := tb_Ref_strays) [38, 67, 84, 101, 125, 137, 173, 199] 146 (173, [some (vR 13 0), none, some (vI y2), some (vI y3), some (vL y4), none, some (vI y5), some (vI y6), some (vI y7), none], [vI y8, vR 64 0], s)).symm
set_option maxRecDepth 100000 in
set_option maxHeartbeats 400000 in
theorem Ref_strays_L8_eq (d : Nat) (y2 : Int32) (y3 : Int32) (y4 : Int64) (y5 : Int32) (y6 : Int32) (s : xS) : Ref_strays_L8 d y2 y3 y4 y5 y6 s =
    if (y6 : Int32) < 36 then
      if x_in y6 36 then
      if x_in y6 36 then
      Ref_strays_L8 d y2 y3 y4 y5 (y6 + 1) (wL s 63 0 (y6 : Int32).toNatClampNeg (s.2 64 0 (y6 : Int32).toNatClampNeg))
      else none
      else none
    else
      Ref_strays_L3 d y2 y3 y4 (y5 + 1) s := (x_adv_out (K := x_K) (P := x_Pr) (d := d + 1) (M := tb_Ref_strays) [38, 67, 84, 101, 125, 137, 173, 199] 146 (199, [some (vR 13 0), none, some (vI y2), some (vI y3), some (vL y4), none, some (vI y5), some (vI y6), none, none], [], s)).symm
set_option maxRecDepth 100000 in
set_option maxHeartbeats 400000 in
theorem Ref_strays_eq (d : Nat) (x1 : Int32) (x2 : Int32) (x3 : Int32) (s : xS) : ev (d + 1) f_Ref_strays [vR 13 0, vI x1, vI x2, vI x3] s =
    bI (ev d f_Ref_isPram [vR 13 0, vI x1] (wI s 13 0 0 0)) fun r2 s1 =>
    if (r2 : Int32) = 0 then
      some (some (vI (-1)), s1)
    else
      bI (ev d f_Ref_in [vL ((x2 : Int32).toInt64), vL 0, vL 8] s1) fun r4 s3 =>
      if (r4 : Int32) = 0 then
        some (some (vI (-1)), s3)
      else
        bI (ev d f_Ref_isField [vR 13 0, vI x3] s3) fun r6 s5 =>
        if (r6 : Int32) = 0 then
          some (some (vI (-1)), s5)
        else
          Ref_strays_L1 d x1 x2 x3 0 s5 := (x_adv_out (K := x_K) (P := x_Pr) (d := d + 1) (M := tb_Ref_strays) [38, 67, 84, 101, 125, 137, 173, 199] 146 (x_st0 tb_Ref_strays [vR 13 0, vI x1, vI x2, vI x3] s)).symm
noncomputable def Ref_stopOf_L1 (d : Nat) (y2 : Int32) (s : xS) : Option xO := og (d + 1) tb_Ref_stopOf (7, [some (vR 13 0), none, some (vI y2)], [], s)
noncomputable def Ref_stopOf_J2 (d : Nat) (y2 : Int32) (s : xS) : Option xO := og (d + 1) tb_Ref_stopOf (43, [some (vR 13 0), none, some (vI y2)], [], s)
set_option maxRecDepth 100000 in
set_option maxHeartbeats 400000 in
theorem Ref_stopOf_L1_eq (d : Nat) (y2 : Int32) (s : xS) : Ref_stopOf_L1 d y2 s =
    if (36 : Int32) < s.1 13 0 50 then
      Ref_stopOf_J2 d y2 s
    else
      bI (ev d f_Ref_runsTo [vR 13 0, vI y2] s) fun r2 s1 =>
      if (r2 : Int32) < 0 then
        Ref_stopOf_J2 d y2 s1
      else
        bI (ev d f_Ref_runsTo [vR 13 0, vI y2] s1) fun r4 s3 =>
        Ref_stopOf_L1 d r4 (wI s3 13 0 50 ((s3.1 13 0 50) + 1)) := (x_adv_out (K := x_K) (P := x_Pr) (d := d + 1) (M := tb_Ref_stopOf) [7, 43] 35 (7, [some (vR 13 0), none, some (vI y2)], [], s)).symm
set_option maxRecDepth 100000 in
set_option maxHeartbeats 400000 in
theorem Ref_stopOf_J2_eq (d : Nat) (y2 : Int32) (s : xS) : Ref_stopOf_J2 d y2 s =
    if (36 : Int32) < s.1 13 0 50 then
      some (some (vI (-1)), s)
    else
      some (some (vI y2), s) := (x_adv_out (K := x_K) (P := x_Pr) (d := d + 1) (M := tb_Ref_stopOf) [7, 43] 35 (43, [some (vR 13 0), none, some (vI y2)], [], s)).symm
set_option maxRecDepth 100000 in
set_option maxHeartbeats 400000 in
theorem Ref_stopOf_eq (d : Nat) (x1 : Int32) (s : xS) : ev (d + 1) f_Ref_stopOf [vR 13 0, vI x1] s =
    Ref_stopOf_L1 d x1 (wI s 13 0 50 0) := (x_adv_out (K := x_K) (P := x_Pr) (d := d + 1) (M := tb_Ref_stopOf) [7, 43] 35 (x_st0 tb_Ref_stopOf [vR 13 0, vI x1] s)).symm
set_option maxRecDepth 100000 in
set_option maxHeartbeats 400000 in
theorem Ref_stops_eq (d : Nat) (x1 : Int32) (s : xS) : ev (d + 1) f_Ref_stops [vR 13 0, vI x1] s =
    bI (ev d f_Ref_isPram [vR 13 0, vI x1] (wI s 13 0 0 0)) fun r2 s1 =>
    if (r2 : Int32) = 0 then
      some (some (vI (-1)), s1)
    else
      if x_in x1 17 then
      bI (ev d f_Ref_stopOf [vR 13 0, vI (s1.1 43 0 (x1 : Int32).toNatClampNeg)] s1) fun r4 s3 =>
      if (r4 : Int32) < 0 then
        some (some (vI (-2)), s3)
      else
        bV (ev d f_Ref_enters [vR 13 0, vL (((s3.1 13 0 50) + 1 : Int32).toInt64)] (wI s3 13 0 1 0)) fun s5 =>
        bV (ev d f_Ref_enters [vR 13 0, vL ((s5.1 13 0 50 : Int32).toInt64)] s5) fun s6 =>
        some (some (vI r4), s6)
      else none := (x_adv_out (K := x_K) (P := x_Pr) (d := d + 1) (M := tb_Ref_stops) [] 40 (x_st0 tb_Ref_stops [vR 13 0, vI x1] s)).symm
noncomputable def Ref_rounds_L1 (d : Nat) (y2 : Int32) (y3 : Int32) (s : xS) : Option xO := og (d + 1) tb_Ref_rounds (14, [some (vR 13 0), some (vI y2), some (vI y3), none], [], s)
noncomputable def Ref_rounds_J2 (d : Nat) (y2 : Int32) (y3 : Int32) (y4 : Int32) (s : xS) : Option xO := og (d + 1) tb_Ref_rounds (43, [some (vR 13 0), some (vI y2), some (vI y3), none], [vI y4], s)
noncomputable def Ref_rounds_J3 (d : Nat) (y2 : Int32) (y3 : Int32) (y4 : Int32) (s : xS) : Option xO := og (d + 1) tb_Ref_rounds (58, [some (vR 13 0), some (vI y2), some (vI y3), some (vI y4)], [], s)
set_option maxRecDepth 100000 in
set_option maxHeartbeats 400000 in
theorem Ref_rounds_L1_eq (d : Nat) (y2 : Int32) (y3 : Int32) (s : xS) : Ref_rounds_L1 d y2 y3 s =
    bI (ev d f_Ref_fields [vR 13 0] s) fun r2 s1 =>
    if (y3 : Int32) < r2 then
      bI (ev d f_Ref_isOpen [vR 13 0, vI y3] s1) fun r4 s3 =>
      if (r4 : Int32) = 0 then
        Ref_rounds_J2 d y2 y3 0 s3
      else
        bI (ev d f_Ref_stopOf [vR 13 0, vI y3] s3) fun r6 s5 =>
        if (r6 : Int32) < 0 then
          Ref_rounds_J2 d y2 y3 1 s5
        else
          Ref_rounds_J2 d y2 y3 0 s5
    else
      some (some (vI y2), s1) := (x_adv_out (K := x_K) (P := x_Pr) (d := d + 1) (M := tb_Ref_rounds) [14, 43, 58] 46 (14, [some (vR 13 0), some (vI y2), some (vI y3), none], [], s)).symm
set_option maxRecDepth 100000 in
set_option maxHeartbeats 400000 in
theorem Ref_rounds_J2_eq (d : Nat) (y2 : Int32) (y3 : Int32) (y4 : Int32) (s : xS) : Ref_rounds_J2 d y2 y3 y4 s =
    if (y4 : Int32) = 0 then
      Ref_rounds_J3 d y2 y3 y4 s
    else
      if (y2 : Int32) = 0 then
        bV (ev d f_Ref_enters [vR 13 0, vL ((y3 : Int32).toInt64)] s) fun s7 =>
        Ref_rounds_J3 d y2 y3 y4 s7
      else
        Ref_rounds_J3 d y2 y3 y4 s := (x_adv_out (K := x_K) (P := x_Pr) (d := d + 1) (M := tb_Ref_rounds) [14, 43, 58] 46 (43, [some (vR 13 0), some (vI y2), some (vI y3), none], [vI y4], s)).symm
set_option maxRecDepth 100000 in
set_option maxHeartbeats 400000 in
theorem Ref_rounds_J3_eq (d : Nat) (y2 : Int32) (y3 : Int32) (y4 : Int32) (s : xS) : Ref_rounds_J3 d y2 y3 y4 s =
    bI (ev d f_Ref_flag [vI y4] s) fun r9 s8 =>
    Ref_rounds_L1 d (y2 + r9) (y3 + 1) s8 := (x_adv_out (K := x_K) (P := x_Pr) (d := d + 1) (M := tb_Ref_rounds) [14, 43, 58] 46 (58, [some (vR 13 0), some (vI y2), some (vI y3), some (vI y4)], [], s)).symm
set_option maxRecDepth 100000 in
set_option maxHeartbeats 400000 in
theorem Ref_rounds_eq (d : Nat)  (s : xS) : ev (d + 1) f_Ref_rounds [vR 13 0] s =
    Ref_rounds_L1 d 0 0 (wI (wI s 13 0 0 0) 13 0 1 0) := (x_adv_out (K := x_K) (P := x_Pr) (d := d + 1) (M := tb_Ref_rounds) [14, 43, 58] 46 (x_st0 tb_Ref_rounds [vR 13 0] s)).symm
noncomputable def Ref_basin_L1 (d : Nat) (y2 : Int32) (y3 : Int32) (y4 : Int32) (y5 : Int32) (y6 : Int32) (s : xS) : Option xO := og (d + 1) tb_Ref_basin (38, [some (vR 13 0), some (vI y2), some (vI y3), some (vI y4), some (vI y5), some (vI y6), none], [], s)
noncomputable def Ref_basin_J2 (d : Nat) (y2 : Int32) (y3 : Int32) (y4 : Int32) (y5 : Int32) (y6 : Int32) (y7 : Int32) (s : xS) : Option xO := og (d + 1) tb_Ref_basin (71, [some (vR 13 0), some (vI y2), some (vI y3), some (vI y4), some (vI y5), some (vI y6), none], [vI y7], s)
noncomputable def Ref_basin_J3 (d : Nat) (y2 : Int32) (y3 : Int32) (y4 : Int32) (y5 : Int32) (y6 : Int32) (y7 : Int32) (s : xS) : Option xO := og (d + 1) tb_Ref_basin (88, [some (vR 13 0), some (vI y2), some (vI y3), none, some (vI y4), some (vI y5), some (vI y6)], [vI y7], s)
noncomputable def Ref_basin_J4 (d : Nat) (y2 : Int32) (y3 : Int32) (y4 : Int32) (y5 : Int32) (y6 : Int32) (y7 : Int32) (s : xS) : Option xO := og (d + 1) tb_Ref_basin (108, [some (vR 13 0), some (vI y2), some (vI y3), some (vI y4), none, some (vI y5), some (vI y6)], [vI y7], s)
set_option maxRecDepth 100000 in
set_option maxHeartbeats 400000 in
theorem Ref_basin_L1_eq (d : Nat) (y2 : Int32) (y3 : Int32) (y4 : Int32) (y5 : Int32) (y6 : Int32) (s : xS) : Ref_basin_L1 d y2 y3 y4 y5 y6 s =
    bI (ev d f_Ref_fields [vR 13 0] s) fun r4 s3 =>
    if (y6 : Int32) < r4 then
      bI (ev d f_Ref_isOpen [vR 13 0, vI y6] s3) fun r6 s5 =>
      if (r6 : Int32) = 0 then
        Ref_basin_J2 d y2 y3 y4 y5 y6 0 s5
      else
        bI (ev d f_Ref_stopOf [vR 13 0, vI y6] s5) fun r8 s7 =>
        if (r8 : Int32) = y2 then
          Ref_basin_J2 d y2 y3 y4 y5 y6 1 s7
        else
          Ref_basin_J2 d y2 y3 y4 y5 y6 0 s7
    else
      if (0 : Int32) < y3 then
        bV (ev d f_Ref_enters [vR 13 0, vL ((y4 : Int32).toInt64)] (wI s3 13 0 1 0)) fun s9 =>
        bV (ev d f_Ref_enters [vR 13 0, vL ((y5 : Int32).toInt64)] s9) fun s10 =>
        some (some (vI y3), s10)
      else
        some (some (vI y3), wI s3 13 0 1 0) := (x_adv_out (K := x_K) (P := x_Pr) (d := d + 1) (M := tb_Ref_basin) [38, 71, 88, 108] 84 (38, [some (vR 13 0), some (vI y2), some (vI y3), some (vI y4), some (vI y5), some (vI y6), none], [], s)).symm
set_option maxRecDepth 100000 in
set_option maxHeartbeats 400000 in
theorem Ref_basin_J2_eq (d : Nat) (y2 : Int32) (y3 : Int32) (y4 : Int32) (y5 : Int32) (y6 : Int32) (y7 : Int32) (s : xS) : Ref_basin_J2 d y2 y3 y4 y5 y6 y7 s =
    if (y7 : Int32) = 0 then
      Ref_basin_J3 d y2 y3 y5 y6 y7 y4 s
    else
      if (y3 : Int32) = 0 then
        Ref_basin_J3 d y2 y3 y5 y6 y7 y6 s
      else
        Ref_basin_J3 d y2 y3 y5 y6 y7 y4 s := (x_adv_out (K := x_K) (P := x_Pr) (d := d + 1) (M := tb_Ref_basin) [38, 71, 88, 108] 84 (71, [some (vR 13 0), some (vI y2), some (vI y3), some (vI y4), some (vI y5), some (vI y6), none], [vI y7], s)).symm
set_option maxRecDepth 100000 in
set_option maxHeartbeats 400000 in
theorem Ref_basin_J3_eq (d : Nat) (y2 : Int32) (y3 : Int32) (y4 : Int32) (y5 : Int32) (y6 : Int32) (y7 : Int32) (s : xS) : Ref_basin_J3 d y2 y3 y4 y5 y6 y7 s =
    if (y6 : Int32) = 0 then
      Ref_basin_J4 d y2 y3 y7 y5 y6 y4 s
    else
      bI (ev d f_Math_max [vI y4, vI (s.1 13 0 50)] s) fun r12 s11 =>
      Ref_basin_J4 d y2 y3 y7 y5 y6 r12 s11 := (x_adv_out (K := x_K) (P := x_Pr) (d := d + 1) (M := tb_Ref_basin) [38, 71, 88, 108] 84 (88, [some (vR 13 0), some (vI y2), some (vI y3), none, some (vI y4), some (vI y5), some (vI y6)], [vI y7], s)).symm
set_option maxRecDepth 100000 in
set_option maxHeartbeats 400000 in
theorem Ref_basin_J4_eq (d : Nat) (y2 : Int32) (y3 : Int32) (y4 : Int32) (y5 : Int32) (y6 : Int32) (y7 : Int32) (s : xS) : Ref_basin_J4 d y2 y3 y4 y5 y6 y7 s =
    bI (ev d f_Ref_flag [vI y6] s) fun r14 s13 =>
    Ref_basin_L1 d y2 (y3 + r14) y4 y7 (y5 + 1) s13 := (x_adv_out (K := x_K) (P := x_Pr) (d := d + 1) (M := tb_Ref_basin) [38, 71, 88, 108] 84 (108, [some (vR 13 0), some (vI y2), some (vI y3), some (vI y4), none, some (vI y5), some (vI y6)], [vI y7], s)).symm
set_option maxRecDepth 100000 in
set_option maxHeartbeats 400000 in
theorem Ref_basin_eq (d : Nat) (x1 : Int32) (s : xS) : ev (d + 1) f_Ref_basin [vR 13 0, vI x1] s =
    bI (ev d f_Ref_isField [vR 13 0, vI x1] (wI s 13 0 0 0)) fun r2 s1 =>
    if (r2 : Int32) = 0 then
      some (some (vI (-1)), s1)
    else
      if x_in x1 36 then
      if (s1.1 42 0 (x1 : Int32).toNatClampNeg : Int32) = 1 then
        some (some (vI (-2)), s1)
      else
        Ref_basin_L1 d x1 0 (-1) 0 0 s1
      else none := (x_adv_out (K := x_K) (P := x_Pr) (d := d + 1) (M := tb_Ref_basin) [38, 71, 88, 108] 84 (x_st0 tb_Ref_basin [vR 13 0, vI x1] s)).symm
set_option maxRecDepth 100000 in
set_option maxHeartbeats 400000 in
theorem Ref_saw_eq (d : Nat) (x1 : Int32) (x2 : Int32) (x3 : Int32) (s : xS) : ev (d + 1) f_Ref_saw [vR 13 0, vI x1, vI x2, vI x3] s =
    bI (ev d f_Ref_in [vL ((x1 : Int32).toInt64), vL 1, vL 5] (wI s 13 0 0 0)) fun r2 s1 =>
    if (r2 : Int32) = 0 then
      some (some (vI (-1)), s1)
    else
      bI (ev d f_Ref_in [vL ((x2 : Int32).toInt64), vL 0, vL 6] s1) fun r4 s3 =>
      if (r4 : Int32) = 0 then
        some (some (vI (-1)), s3)
      else
        bI (ev d f_Ref_in [vL ((x3 : Int32).toInt64), vL 0, vL 1] s3) fun r6 s5 =>
        if (r6 : Int32) = 0 then
          some (some (vI (-1)), s5)
        else
          if (s5.1 13 0 51 : Int32) = 10 then
            some (some (vI (-1)), s5)
          else
            if x_in (s5.1 13 0 51) 10 then
            if x_in (s5.1 13 0 51) 10 then
            if x_in (s5.1 13 0 51) 10 then
            some (some (vI ((s5.1 13 0 51) + 1)), wI (wI (wI (wI s5 65 0 (s5.1 13 0 51 : Int32).toNatClampNeg x1) 66 0 (s5.1 13 0 51 : Int32).toNatClampNeg x2) 67 0 (s5.1 13 0 51 : Int32).toNatClampNeg x3) 13 0 51 ((s5.1 13 0 51) + 1))
            else none
            else none
            else none := (x_adv_out (K := x_K) (P := x_Pr) (d := d + 1) (M := tb_Ref_saw) [] 57 (x_st0 tb_Ref_saw [vR 13 0, vI x1, vI x2, vI x3] s)).symm
set_option maxRecDepth 100000 in
set_option maxHeartbeats 400000 in
theorem Ref_denies_eq (d : Nat)  (s : xS) : ev (d + 1) f_Ref_denies [vR 13 0] s =
    some (some (vI (s.1 13 0 51)), wI (wI s 13 0 0 0) 13 0 51 0) := (x_adv_out (K := x_K) (P := x_Pr) (d := d + 1) (M := tb_Ref_denies) [] 14 (x_st0 tb_Ref_denies [vR 13 0] s)).symm
set_option maxRecDepth 100000 in
set_option maxHeartbeats 400000 in
theorem Ref_isFormedBy_eq (d : Nat) (x1 : Int32) (x2 : Int32) (x3 : Int32) (s : xS) : ev (d + 1) f_Ref_isFormedBy [vI x1, vI x2, vI x3] s =
    if (7 : Int32) = 0 then none else
    if (1 + (x1 / 7) : Int32) < x2 then
        bI (ev d f_Ref_flag [vI 0] s) fun r2 s1 =>
        some (some (vI r2), s1)
      else
        if (7 : Int32) = 0 then none else
        if (jrem x1 7 : Int32) < x3 then
            bI (ev d f_Ref_flag [vI 0] s) fun r4 s3 =>
            some (some (vI r4), s3)
          else
            bI (ev d f_Ref_flag [vI 1] s) fun r6 s5 =>
            some (some (vI r6), s5) := (x_adv_out (K := x_K) (P := x_Pr) (d := d + 1) (M := tb_Ref_isFormedBy) [] 20 (x_st0 tb_Ref_isFormedBy [vI x1, vI x2, vI x3] s)).symm
noncomputable def Ref_isLaw_L1 (d : Nat) (y2 : Int32) (y3 : Int32) (y4 : Int32) (s : xS) : Option xO := og (d + 1) tb_Ref_isLaw (4, [some (vR 13 0), some (vI y2), some (vI y3), some (vI y4)], [], s)
set_option maxRecDepth 100000 in
set_option maxHeartbeats 400000 in
theorem Ref_isLaw_L1_eq (d : Nat) (y2 : Int32) (y3 : Int32) (y4 : Int32) (s : xS) : Ref_isLaw_L1 d y2 y3 y4 s =
    if (y4 : Int32) < s.1 13 0 51 then
      if (y3 : Int32) = 0 then
        Ref_isLaw_L1 d y2 0 (y4 + 1) s
      else
        if x_in y4 10 then
        if x_in y4 10 then
        bI (ev d f_Ref_isFormedBy [vI y2, vI (s.1 65 0 (y4 : Int32).toNatClampNeg), vI (s.1 66 0 (y4 : Int32).toNatClampNeg)] s) fun r2 s1 =>
        if x_in y4 10 then
        if (r2 : Int32) = s1.1 67 0 (y4 : Int32).toNatClampNeg then
          Ref_isLaw_L1 d y2 1 (y4 + 1) s1
        else
          Ref_isLaw_L1 d y2 0 (y4 + 1) s1
        else none
        else none
        else none
    else
      some (some (vI (x_nb y3)), s) := (x_adv_out (K := x_K) (P := x_Pr) (d := d + 1) (M := tb_Ref_isLaw) [4] 36 (4, [some (vR 13 0), some (vI y2), some (vI y3), some (vI y4)], [], s)).symm
set_option maxRecDepth 100000 in
set_option maxHeartbeats 400000 in
theorem Ref_isLaw_eq (d : Nat) (x1 : Int32) (s : xS) : ev (d + 1) f_Ref_isLaw [vR 13 0, vI x1] s =
    Ref_isLaw_L1 d x1 1 0 s := (x_adv_out (K := x_K) (P := x_Pr) (d := d + 1) (M := tb_Ref_isLaw) [4] 36 (x_st0 tb_Ref_isLaw [vR 13 0, vI x1] s)).symm
noncomputable def Ref_laws_L1 (d : Nat) (y2 : Int32) (y3 : Int32) (s : xS) : Option xO := og (d + 1) tb_Ref_laws (14, [some (vR 13 0), some (vI y2), some (vI y3), none], [], s)
noncomputable def Ref_laws_J2 (d : Nat) (y2 : Int32) (y3 : Int32) (y4 : Int32) (s : xS) : Option xO := og (d + 1) tb_Ref_laws (54, [some (vR 13 0), some (vI y2), some (vI y3), some (vI y4)], [], s)
set_option maxRecDepth 100000 in
set_option maxHeartbeats 400000 in
theorem Ref_laws_L1_eq (d : Nat) (y2 : Int32) (y3 : Int32) (s : xS) : Ref_laws_L1 d y2 y3 s =
    if (y3 : Int32) < 35 then
      bI (ev d f_Ref_isLaw [vR 13 0, vI y3] s) fun r2 s1 =>
      if (r2 : Int32) = 0 then
        Ref_laws_J2 d y2 y3 r2 s1
      else
        if (y2 : Int32) = 0 then
          if (7 : Int32) = 0 then none else
          bV (ev d f_Ref_enters [vR 13 0, vL ((1 + (y3 / 7) : Int32).toInt64)] s1) fun s3 =>
            if (7 : Int32) = 0 then none else
            bV (ev d f_Ref_enters [vR 13 0, vL ((jrem y3 7 : Int32).toInt64)] s3) fun s4 =>
              Ref_laws_J2 d y2 y3 r2 s4
        else
          Ref_laws_J2 d y2 y3 r2 s1
    else
      some (some (vI y2), s) := (x_adv_out (K := x_K) (P := x_Pr) (d := d + 1) (M := tb_Ref_laws) [14, 54] 47 (14, [some (vR 13 0), some (vI y2), some (vI y3), none], [], s)).symm
set_option maxRecDepth 100000 in
set_option maxHeartbeats 400000 in
theorem Ref_laws_J2_eq (d : Nat) (y2 : Int32) (y3 : Int32) (y4 : Int32) (s : xS) : Ref_laws_J2 d y2 y3 y4 s =
    bI (ev d f_Ref_flag [vI y4] s) fun r6 s5 =>
    Ref_laws_L1 d (y2 + r6) (y3 + 1) s5 := (x_adv_out (K := x_K) (P := x_Pr) (d := d + 1) (M := tb_Ref_laws) [14, 54] 47 (54, [some (vR 13 0), some (vI y2), some (vI y3), some (vI y4)], [], s)).symm
set_option maxRecDepth 100000 in
set_option maxHeartbeats 400000 in
theorem Ref_laws_eq (d : Nat)  (s : xS) : ev (d + 1) f_Ref_laws [vR 13 0] s =
    Ref_laws_L1 d 0 0 (wI (wI s 13 0 0 0) 13 0 1 0) := (x_adv_out (K := x_K) (P := x_Pr) (d := d + 1) (M := tb_Ref_laws) [14, 54] 47 (x_st0 tb_Ref_laws [vR 13 0] s)).symm
noncomputable def Ref_looks_L1 (d : Nat) (y2 : Int32) (y3 : Int32) (y4 : Int32) (s : xS) : Option xO := og (d + 1) tb_Ref_looks (14, [some (vR 13 0), some (vI y2), some (vI y3), some (vI y4), none, none, none, none, none], [], s)
noncomputable def Ref_looks_L2 (d : Nat) (y2 : Int32) (y3 : Int32) (y4 : Int32) (y5 : Int32) (s : xS) : Option xO := og (d + 1) tb_Ref_looks (22, [some (vR 13 0), some (vI y2), some (vI y3), some (vI y4), some (vI y5), none, none, none, none], [], s)
noncomputable def Ref_looks_L3 (d : Nat) (y2 : Int32) (y3 : Int32) (y4 : Int32) (y5 : Int32) (y6 : Int32) (y7 : Int32) (y8 : Int32) (s : xS) : Option xO := og (d + 1) tb_Ref_looks (38, [some (vR 13 0), some (vI y2), some (vI y3), some (vI y4), some (vI y5), some (vI y6), some (vI y7), some (vI y8), none], [], s)
noncomputable def Ref_looks_J4 (d : Nat) (y2 : Int32) (y3 : Int32) (y4 : Int32) (y5 : Int32) (y6 : Int32) (s : xS) : Option xO := og (d + 1) tb_Ref_looks (119, [some (vR 13 0), none, some (vI y2), some (vI y3), some (vI y4), none, none, some (vI y5), none], [vI y6], s)
set_option maxRecDepth 100000 in
set_option maxHeartbeats 400000 in
theorem Ref_looks_L1_eq (d : Nat) (y2 : Int32) (y3 : Int32) (y4 : Int32) (s : xS) : Ref_looks_L1 d y2 y3 y4 s =
    if (5 : Int32) < y4 then
      if (0 : Int32) < y2 then
        bV (ev d f_Ref_enters [vR 13 0, vL ((y3 : Int32).toInt64)] (wI s 13 0 1 0)) fun s1 =>
        some (some (vI y2), s1)
      else
        some (some (vI y2), s)
    else
      Ref_looks_L2 d y2 y3 y4 0 s := (x_adv_out (K := x_K) (P := x_Pr) (d := d + 1) (M := tb_Ref_looks) [14, 22, 38, 119] 87 (14, [some (vR 13 0), some (vI y2), some (vI y3), some (vI y4), none, none, none, none, none], [], s)).symm
set_option maxRecDepth 100000 in
set_option maxHeartbeats 400000 in
theorem Ref_looks_L2_eq (d : Nat) (y2 : Int32) (y3 : Int32) (y4 : Int32) (y5 : Int32) (s : xS) : Ref_looks_L2 d y2 y3 y4 y5 s =
    if (6 : Int32) < y5 then
      Ref_looks_L1 d y2 y3 (y4 + 1) s
    else
      Ref_looks_L3 d y2 y3 y4 y5 0 0 0 s := (x_adv_out (K := x_K) (P := x_Pr) (d := d + 1) (M := tb_Ref_looks) [14, 22, 38, 119] 87 (22, [some (vR 13 0), some (vI y2), some (vI y3), some (vI y4), some (vI y5), none, none, none, none], [], s)).symm
set_option maxRecDepth 100000 in
set_option maxHeartbeats 400000 in
theorem Ref_looks_L3_eq (d : Nat) (y2 : Int32) (y3 : Int32) (y4 : Int32) (y5 : Int32) (y6 : Int32) (y7 : Int32) (y8 : Int32) (s : xS) : Ref_looks_L3 d y2 y3 y4 y5 y6 y7 y8 s =
    if (y8 : Int32) < 35 then
      bI (ev d f_Ref_isLaw [vR 13 0, vI y8] s) fun r3 s2 =>
      bI (ev d f_Ref_flag [vI r3] s2) fun r5 s4 =>
      bI (ev d f_Ref_isFormedBy [vI y8, vI y4, vI y5] s4) fun r7 s6 =>
      Ref_looks_L3 d y2 y3 y4 y5 (y6 + (r5 * r7)) (y7 + r5) (y8 + 1) s6
    else
      bI (ev d f_Math_max [vI y6, vI (y7 - y6)] s) fun r9 s8 =>
      if (0 : Int32) < y7 then
        if (r9 : Int32) < y3 then
          Ref_looks_J4 d y3 y4 y5 r9 ((10 * y4) + y5) s8
        else
          Ref_looks_J4 d y3 y4 y5 r9 y2 s8
      else
        Ref_looks_J4 d y3 y4 y5 r9 y2 s8 := (x_adv_out (K := x_K) (P := x_Pr) (d := d + 1) (M := tb_Ref_looks) [14, 22, 38, 119] 87 (38, [some (vR 13 0), some (vI y2), some (vI y3), some (vI y4), some (vI y5), some (vI y6), some (vI y7), some (vI y8), none], [], s)).symm
set_option maxRecDepth 100000 in
set_option maxHeartbeats 400000 in
theorem Ref_looks_J4_eq (d : Nat) (y2 : Int32) (y3 : Int32) (y4 : Int32) (y5 : Int32) (y6 : Int32) (s : xS) : Ref_looks_J4 d y2 y3 y4 y5 y6 s =
    bI (ev d f_Math_min [vI y2, vI y5] s) fun r11 s10 =>
    Ref_looks_L2 d y6 r11 y3 (y4 + 1) s10 := (x_adv_out (K := x_K) (P := x_Pr) (d := d + 1) (M := tb_Ref_looks) [14, 22, 38, 119] 87 (119, [some (vR 13 0), none, some (vI y2), some (vI y3), some (vI y4), none, none, some (vI y5), none], [vI y6], s)).symm
set_option maxRecDepth 100000 in
set_option maxHeartbeats 400000 in
theorem Ref_looks_eq (d : Nat)  (s : xS) : ev (d + 1) f_Ref_looks [vR 13 0] s =
    Ref_looks_L1 d (-2) 1000000 1 (wI s 13 0 0 0) := (x_adv_out (K := x_K) (P := x_Pr) (d := d + 1) (M := tb_Ref_looks) [14, 22, 38, 119] 87 (x_st0 tb_Ref_looks [vR 13 0] s)).symm
set_option maxRecDepth 100000 in
set_option maxHeartbeats 400000 in
theorem Ref_highest_eq (d : Nat) (x1 : Int32) (s : xS) : ev (d + 1) f_Ref_highest [vI x1] s =
    if (x1 : Int32) = 2 then
      some (some (vI 3), s)
    else
      if (x1 : Int32) = 4 then
        some (some (vI 1), s)
      else
        some (some (vI 5), s) := (x_adv_out (K := x_K) (P := x_Pr) (d := d + 1) (M := tb_Ref_highest) [] 15 (x_st0 tb_Ref_highest [vI x1] s)).symm
set_option maxRecDepth 100000 in
set_option maxHeartbeats 400000 in
theorem Ref_heard_eq (d : Nat) (x1 : Int32) (x2 : Int32) (s : xS) : ev (d + 1) f_Ref_heard [vR 13 0, vI x1, vI x2] s =
    bI (ev d f_Ref_in [vL ((x1 : Int32).toInt64), vL 0, vL 4] (wI s 13 0 0 0)) fun r2 s1 =>
    if (r2 : Int32) = 0 then
      some (some (vI (-1)), s1)
    else
      bI (ev d f_Ref_highest [vI x1] s1) fun r4 s3 =>
      bI (ev d f_Ref_in [vL ((x2 : Int32).toInt64), vL 0, vL ((r4 : Int32).toInt64)] s3) fun r6 s5 =>
      if (r6 : Int32) = 0 then
        some (some (vI (-1)), s5)
      else
        if (s5.1 13 0 55 : Int32) = 12 then
          some (some (vI (-1)), s5)
        else
          if x_in (s5.1 13 0 55) 12 then
          if x_in (s5.1 13 0 55) 12 then
          some (some (vI ((s5.1 13 0 55) + 1)), wI (wI (wI s5 68 0 (s5.1 13 0 55 : Int32).toNatClampNeg x1) 69 0 (s5.1 13 0 55 : Int32).toNatClampNeg x2) 13 0 55 ((s5.1 13 0 55) + 1))
          else none
          else none := (x_adv_out (K := x_K) (P := x_Pr) (d := d + 1) (M := tb_Ref_heard) [] 47 (x_st0 tb_Ref_heard [vR 13 0, vI x1, vI x2] s)).symm
set_option maxRecDepth 100000 in
set_option maxHeartbeats 400000 in
theorem Ref_forget_eq (d : Nat)  (s : xS) : ev (d + 1) f_Ref_forget [vR 13 0] s =
    some (some (vI (s.1 13 0 55)), wI (wI s 13 0 0 0) 13 0 55 0) := (x_adv_out (K := x_K) (P := x_Pr) (d := d + 1) (M := tb_Ref_forget) [] 14 (x_st0 tb_Ref_forget [vR 13 0] s)).symm
set_option maxRecDepth 100000 in
set_option maxHeartbeats 400000 in
theorem Ref_isSo_eq (d : Nat) (x1 : Int32) (x2 : Int32) (x3 : Int32) (s : xS) : ev (d + 1) f_Ref_isSo [vR 13 0, vI x1, vI x2, vI x3] s =
    if (x2 : Int32) = 0 then
      if x_in x1 17 then
      if (s.1 13 0 4 : Int32) = 0 then none else
      if ((s.1 43 0 (x1 : Int32).toNatClampNeg) / (s.1 13 0 4) : Int32) = x3 then
          some (some (vI (x_nb 1)), s)
        else
          some (some (vI (x_nb 0)), s)
      else none
    else if (x2 : Int32) = 1 then
      if x_in x1 17 then
      if (s.1 13 0 4 : Int32) = 0 then none else
      if (jrem (s.1 43 0 (x1 : Int32).toNatClampNeg) (s.1 13 0 4) : Int32) = x3 then
          some (some (vI (x_nb 1)), s)
        else
          some (some (vI (x_nb 0)), s)
      else none
    else if (x2 : Int32) = 2 then
      if x_in (4 + x1) 17 then
      if (s.1 43 0 (4 + x1 : Int32).toNatClampNeg : Int32) = x3 then
        some (some (vI (x_nb 1)), s)
      else
        some (some (vI (x_nb 0)), s)
      else none
    else if (x2 : Int32) = 3 then
      if x_in (8 + x1) 17 then
      bI (ev d f_Ref_has [vL ((s.1 43 0 (8 + x1 : Int32).toNatClampNeg : Int32).toInt64), vI x3] s) fun r2 s1 =>
      some (some (vI (x_nb r2)), s1)
      else none
    else if x_in (12 + x1) 17 then
      if (s.1 43 0 (12 + x1 : Int32).toNatClampNeg : Int32) = x3 then
        some (some (vI (x_nb 1)), s)
      else
        some (some (vI (x_nb 0)), s)
      else none := (x_adv_out (K := x_K) (P := x_Pr) (d := d + 1) (M := tb_Ref_isSo) [] 65 (x_st0 tb_Ref_isSo [vR 13 0, vI x1, vI x2, vI x3] s)).symm
noncomputable def Ref_fitting_L1 (d : Nat) (y2 : Int32) (y3 : Int32) (s : xS) : Option xO := og (d + 1) tb_Ref_fitting (4, [some (vR 13 0), some (vI y2), some (vI y3), none, none], [], s)
noncomputable def Ref_fitting_L2 (d : Nat) (y2 : Int32) (y3 : Int32) (y4 : Int32) (y5 : Int32) (s : xS) : Option xO := og (d + 1) tb_Ref_fitting (17, [some (vR 13 0), some (vI y2), some (vI y3), some (vI y4), some (vI y5)], [], s)
set_option maxRecDepth 100000 in
set_option maxHeartbeats 400000 in
theorem Ref_fitting_L1_eq (d : Nat) (y2 : Int32) (y3 : Int32) (s : xS) : Ref_fitting_L1 d y2 y3 s =
    if (y3 : Int32) < s.1 13 0 6 then
      Ref_fitting_L2 d y2 y3 1 0 s
    else
      some (some (vI y2), s) := (x_adv_out (K := x_K) (P := x_Pr) (d := d + 1) (M := tb_Ref_fitting) [4, 17] 53 (4, [some (vR 13 0), some (vI y2), some (vI y3), none, none], [], s)).symm
set_option maxRecDepth 100000 in
set_option maxHeartbeats 400000 in
theorem Ref_fitting_L2_eq (d : Nat) (y2 : Int32) (y3 : Int32) (y4 : Int32) (y5 : Int32) (s : xS) : Ref_fitting_L2 d y2 y3 y4 y5 s =
    if (y5 : Int32) < s.1 13 0 55 then
      if (y4 : Int32) = 0 then
        Ref_fitting_L2 d y2 y3 0 (y5 + 1) s
      else
        if x_in y5 12 then
        if x_in y5 12 then
        bI (ev d f_Ref_isSo [vR 13 0, vI y3, vI (s.1 68 0 (y5 : Int32).toNatClampNeg), vI (s.1 69 0 (y5 : Int32).toNatClampNeg)] s) fun r2 s1 =>
        if (r2 : Int32) = 0 then
          Ref_fitting_L2 d y2 y3 0 (y5 + 1) s1
        else
          Ref_fitting_L2 d y2 y3 1 (y5 + 1) s1
        else none
        else none
    else
      if (y4 : Int32) = 0 then
        Ref_fitting_L1 d (y2 ||| 0) (y3 + 1) s
      else
        Ref_fitting_L1 d (y2 ||| (jshl 1 y3)) (y3 + 1) s := (x_adv_out (K := x_K) (P := x_Pr) (d := d + 1) (M := tb_Ref_fitting) [4, 17] 53 (17, [some (vR 13 0), some (vI y2), some (vI y3), some (vI y4), some (vI y5)], [], s)).symm
set_option maxRecDepth 100000 in
set_option maxHeartbeats 400000 in
theorem Ref_fitting_eq (d : Nat)  (s : xS) : ev (d + 1) f_Ref_fitting [vR 13 0] s =
    Ref_fitting_L1 d 0 0 s := (x_adv_out (K := x_K) (P := x_Pr) (d := d + 1) (M := tb_Ref_fitting) [4, 17] 53 (x_st0 tb_Ref_fitting [vR 13 0] s)).symm
set_option maxRecDepth 100000 in
set_option maxHeartbeats 400000 in
theorem Ref_fits_eq (d : Nat)  (s : xS) : ev (d + 1) f_Ref_fits [vR 13 0] s =
    bI (ev d f_Ref_fitting [vR 13 0] (wI s 13 0 0 0)) fun r2 s1 =>
    bI (ev d f_Integer_bitCount [vI r2] (wI s1 13 0 1 0)) fun r4 s3 =>
    bV (ev d f_Ref_enters [vR 13 0, vL ((r4 : Int32).toInt64)] s3) fun s5 =>
    some (some (vI r2), s5) := (x_adv_out (K := x_K) (P := x_Pr) (d := d + 1) (M := tb_Ref_fits) [] 19 (x_st0 tb_Ref_fits [vR 13 0] s)).symm
noncomputable def Ref_asks_L1 (d : Nat) (y2 : Int32) (y3 : Int32) (y4 : Int32) (y5 : Int32) (s : xS) : Option xO := og (d + 1) tb_Ref_asks (26, [some (vR 13 0), some (vI y2), some (vI y3), some (vI y4), some (vI y5), none, none, none], [], s)
noncomputable def Ref_asks_L2 (d : Nat) (y2 : Int32) (y3 : Int32) (y4 : Int32) (y5 : Int32) (y6 : Int32) (s : xS) : Option xO := og (d + 1) tb_Ref_asks (35, [some (vR 13 0), some (vI y2), some (vI y3), some (vI y4), some (vI y5), some (vI y6), none, none], [], s)
noncomputable def Ref_asks_L3 (d : Nat) (y2 : Int32) (y3 : Int32) (y4 : Int32) (y5 : Int32) (y6 : Int32) (y7 : Int32) (y8 : Int32) (s : xS) : Option xO := og (d + 1) tb_Ref_asks (51, [some (vR 13 0), some (vI y2), some (vI y3), some (vI y4), some (vI y5), some (vI y6), some (vI y7), some (vI y8)], [], s)
noncomputable def Ref_asks_J4 (d : Nat) (y2 : Int32) (y3 : Int32) (y4 : Int32) (y5 : Int32) (y6 : Int32) (y7 : Int32) (y8 : Int32) (s : xS) : Option xO := og (d + 1) tb_Ref_asks (89, [some (vR 13 0), some (vI y2), some (vI y3), some (vI y4), some (vI y5), some (vI y6), none, some (vI y7)], [vI y8], s)
noncomputable def Ref_asks_J5 (d : Nat) (y2 : Int32) (y3 : Int32) (y4 : Int32) (y5 : Int32) (y6 : Int32) (y7 : Int32) (s : xS) : Option xO := og (d + 1) tb_Ref_asks (134, [some (vR 13 0), some (vI y2), none, some (vI y3), some (vI y4), some (vI y5), none, some (vI y6)], [vI y7], s)
set_option maxRecDepth 100000 in
set_option maxHeartbeats 400000 in
theorem Ref_asks_L1_eq (d : Nat) (y2 : Int32) (y3 : Int32) (y4 : Int32) (y5 : Int32) (s : xS) : Ref_asks_L1 d y2 y3 y4 y5 s =
    if (y5 : Int32) < 5 then
      Ref_asks_L2 d y2 y3 y4 y5 0 s
    else
      bV (ev d f_Ref_enters [vR 13 0, vL ((y4 : Int32).toInt64)] (wI s 13 0 1 0)) fun s3 =>
      some (some (vI y3), s3) := (x_adv_out (K := x_K) (P := x_Pr) (d := d + 1) (M := tb_Ref_asks) [26, 35, 51, 89, 134] 91 (26, [some (vR 13 0), some (vI y2), some (vI y3), some (vI y4), some (vI y5), none, none, none], [], s)).symm
set_option maxRecDepth 100000 in
set_option maxHeartbeats 400000 in
theorem Ref_asks_L2_eq (d : Nat) (y2 : Int32) (y3 : Int32) (y4 : Int32) (y5 : Int32) (y6 : Int32) (s : xS) : Ref_asks_L2 d y2 y3 y4 y5 y6 s =
    bI (ev d f_Ref_highest [vI y5] s) fun r5 s4 =>
    if (r5 : Int32) < y6 then
      Ref_asks_L1 d y2 y3 y4 (y5 + 1) s4
    else
      Ref_asks_L3 d y2 y3 y4 y5 y6 0 0 s4 := (x_adv_out (K := x_K) (P := x_Pr) (d := d + 1) (M := tb_Ref_asks) [26, 35, 51, 89, 134] 91 (35, [some (vR 13 0), some (vI y2), some (vI y3), some (vI y4), some (vI y5), some (vI y6), none, none], [], s)).symm
set_option maxRecDepth 100000 in
set_option maxHeartbeats 400000 in
theorem Ref_asks_L3_eq (d : Nat) (y2 : Int32) (y3 : Int32) (y4 : Int32) (y5 : Int32) (y6 : Int32) (y7 : Int32) (y8 : Int32) (s : xS) : Ref_asks_L3 d y2 y3 y4 y5 y6 y7 y8 s =
    if (y8 : Int32) < s.1 13 0 6 then
      bI (ev d f_Ref_has [vL ((y2 : Int32).toInt64), vI y8] s) fun r7 s6 =>
      if (r7 : Int32) = 0 then
        Ref_asks_J4 d y2 y3 y4 y5 y6 y8 y7 s6
      else
        bI (ev d f_Ref_isSo [vR 13 0, vI y8, vI y5, vI y6] s6) fun r9 s8 =>
        if (r9 : Int32) = 0 then
          Ref_asks_J4 d y2 y3 y4 y5 y6 y8 y7 s8
        else
          bI (ev d f_Ref_flag [vI 1] s8) fun r11 s10 =>
          Ref_asks_L3 d y2 y3 y4 y5 y6 (y7 + r11) (y8 + 1) s10
    else
      bI (ev d f_Integer_bitCount [vI y2] s) fun r13 s12 =>
      bI (ev d f_Math_max [vI y7, vI (r13 - y7)] s12) fun r15 s14 =>
      if (r15 : Int32) < y4 then
        Ref_asks_J5 d y2 y4 y5 y6 r15 ((10 * y5) + y6) s14
      else
        Ref_asks_J5 d y2 y4 y5 y6 r15 y3 s14 := (x_adv_out (K := x_K) (P := x_Pr) (d := d + 1) (M := tb_Ref_asks) [26, 35, 51, 89, 134] 91 (51, [some (vR 13 0), some (vI y2), some (vI y3), some (vI y4), some (vI y5), some (vI y6), some (vI y7), some (vI y8)], [], s)).symm
set_option maxRecDepth 100000 in
set_option maxHeartbeats 400000 in
theorem Ref_asks_J4_eq (d : Nat) (y2 : Int32) (y3 : Int32) (y4 : Int32) (y5 : Int32) (y6 : Int32) (y7 : Int32) (y8 : Int32) (s : xS) : Ref_asks_J4 d y2 y3 y4 y5 y6 y7 y8 s =
    bI (ev d f_Ref_flag [vI 0] s) fun r17 s16 =>
    Ref_asks_L3 d y2 y3 y4 y5 y6 (y8 + r17) (y7 + 1) s16 := (x_adv_out (K := x_K) (P := x_Pr) (d := d + 1) (M := tb_Ref_asks) [26, 35, 51, 89, 134] 91 (89, [some (vR 13 0), some (vI y2), some (vI y3), some (vI y4), some (vI y5), some (vI y6), none, some (vI y7)], [vI y8], s)).symm
set_option maxRecDepth 100000 in
set_option maxHeartbeats 400000 in
theorem Ref_asks_J5_eq (d : Nat) (y2 : Int32) (y3 : Int32) (y4 : Int32) (y5 : Int32) (y6 : Int32) (y7 : Int32) (s : xS) : Ref_asks_J5 d y2 y3 y4 y5 y6 y7 s =
    bI (ev d f_Math_min [vI y3, vI y6] s) fun r19 s18 =>
    Ref_asks_L2 d y2 y7 r19 y4 (y5 + 1) s18 := (x_adv_out (K := x_K) (P := x_Pr) (d := d + 1) (M := tb_Ref_asks) [26, 35, 51, 89, 134] 91 (134, [some (vR 13 0), some (vI y2), none, some (vI y3), some (vI y4), some (vI y5), none, some (vI y6)], [vI y7], s)).symm
set_option maxRecDepth 100000 in
set_option maxHeartbeats 400000 in
theorem Ref_asks_eq (d : Nat)  (s : xS) : ev (d + 1) f_Ref_asks [vR 13 0] s =
    bI (ev d f_Ref_fitting [vR 13 0] (wI s 13 0 0 0)) fun r2 s1 =>
    if (r2 : Int32) = 0 then
      some (some (vI (-2)), s1)
    else
      Ref_asks_L1 d r2 (-1) 1000000 0 s1 := (x_adv_out (K := x_K) (P := x_Pr) (d := d + 1) (M := tb_Ref_asks) [26, 35, 51, 89, 134] 91 (x_st0 tb_Ref_asks [vR 13 0] s)).symm
noncomputable def Ref_goodMove_L1 (d : Nat) (y2 : Int32) (y3 : Int32) (y4 : Int32) (y5 : Int32) (s : xS) : Option xO := og (d + 1) tb_Ref_goodMove (3, [some (vR 13 0), some (vI y2), some (vI y3), some (vI y4), some (vI y5), none, none, none], [], s)
noncomputable def Ref_goodMove_J2 (d : Nat) (y2 : Int32) (y3 : Int32) (y4 : Int32) (y5 : Int32) (y6 : Int32) (s : xS) : Option xO := og (d + 1) tb_Ref_goodMove (29, [some (vR 13 0), some (vI y2), some (vI y3), some (vI y4), some (vI y5), none, none, none], [vI y6], s)
noncomputable def Ref_goodMove_L3 (d : Nat) (y2 : Int32) (y3 : Int32) (y4 : Int32) (y5 : Int32) (y6 : Int32) (y7 : Int32) (y8 : Int32) (s : xS) : Option xO := og (d + 1) tb_Ref_goodMove (58, [some (vR 13 0), some (vI y2), some (vI y3), some (vI y4), some (vI y5), some (vI y6), some (vI y7), some (vI y8)], [], s)
set_option maxRecDepth 100000 in
set_option maxHeartbeats 400000 in
theorem Ref_goodMove_L1_eq (d : Nat) (y2 : Int32) (y3 : Int32) (y4 : Int32) (y5 : Int32) (s : xS) : Ref_goodMove_L1 d y2 y3 y4 y5 s =
    if (y5 : Int32) < 3 then
      if (y5 : Int32) = 0 then
        Ref_goodMove_J2 d y2 y3 y4 y5 y2 s
      else
        if (y5 : Int32) = 1 then
          Ref_goodMove_J2 d y2 y3 y4 y5 y3 s
        else
          Ref_goodMove_J2 d y2 y3 y4 y5 y4 s
    else
      some (some (vI (-1)), s) := (x_adv_out (K := x_K) (P := x_Pr) (d := d + 1) (M := tb_Ref_goodMove) [3, 29, 58] 67 (3, [some (vR 13 0), some (vI y2), some (vI y3), some (vI y4), some (vI y5), none, none, none], [], s)).symm
set_option maxRecDepth 100000 in
set_option maxHeartbeats 400000 in
theorem Ref_goodMove_J2_eq (d : Nat) (y2 : Int32) (y3 : Int32) (y4 : Int32) (y5 : Int32) (y6 : Int32) (s : xS) : Ref_goodMove_J2 d y2 y3 y4 y5 y6 s =
    if (y5 : Int32) = 0 then
      Ref_goodMove_L3 d y2 y3 y4 y5 y6 100 1 s
    else
      if (y5 : Int32) = 1 then
        Ref_goodMove_L3 d y2 y3 y4 y5 y6 10 1 s
      else
        Ref_goodMove_L3 d y2 y3 y4 y5 y6 1 1 s := (x_adv_out (K := x_K) (P := x_Pr) (d := d + 1) (M := tb_Ref_goodMove) [3, 29, 58] 67 (29, [some (vR 13 0), some (vI y2), some (vI y3), some (vI y4), some (vI y5), none, none, none], [vI y6], s)).symm
set_option maxRecDepth 100000 in
set_option maxHeartbeats 400000 in
theorem Ref_goodMove_L3_eq (d : Nat) (y2 : Int32) (y3 : Int32) (y4 : Int32) (y5 : Int32) (y6 : Int32) (y7 : Int32) (y8 : Int32) (s : xS) : Ref_goodMove_L3 d y2 y3 y4 y5 y6 y7 y8 s =
    if (y8 : Int32) < 4 then
      if (y6 : Int32) < y8 then
        Ref_goodMove_L1 d y2 y3 y4 (y5 + 1) s
      else
        if x_in ((((100 * y2) + (10 * y3)) + y4) - (y7 * y8)) 1000 then
        if (s.1 70 0 ((((100 * y2) + (10 * y3)) + y4) - (y7 * y8) : Int32).toNatClampNeg : Int32) = 0 then
          some (some (vI ((4 * y5) + y8)), s)
        else
          Ref_goodMove_L3 d y2 y3 y4 y5 y6 y7 (y8 + 1) s
        else none
    else
      Ref_goodMove_L1 d y2 y3 y4 (y5 + 1) s := (x_adv_out (K := x_K) (P := x_Pr) (d := d + 1) (M := tb_Ref_goodMove) [3, 29, 58] 67 (58, [some (vR 13 0), some (vI y2), some (vI y3), some (vI y4), some (vI y5), some (vI y6), some (vI y7), some (vI y8)], [], s)).symm
set_option maxRecDepth 100000 in
set_option maxHeartbeats 400000 in
theorem Ref_goodMove_eq (d : Nat) (x1 : Int32) (x2 : Int32) (x3 : Int32) (s : xS) : ev (d + 1) f_Ref_goodMove [vR 13 0, vI x1, vI x2, vI x3] s =
    Ref_goodMove_L1 d x1 x2 x3 0 s := (x_adv_out (K := x_K) (P := x_Pr) (d := d + 1) (M := tb_Ref_goodMove) [3, 29, 58] 67 (x_st0 tb_Ref_goodMove [vR 13 0, vI x1, vI x2, vI x3] s)).symm
noncomputable def Ref_pond_L1 (d : Nat) (y2 : Int32) (y3 : Int32) (y4 : Int32) (y5 : Int32) (s : xS) : Option xO := og (d + 1) tb_Ref_pond (46, [some (vR 13 0), some (vI y2), some (vI y3), some (vI y4), some (vI y5), none, none], [], s)
noncomputable def Ref_pond_L2 (d : Nat) (y2 : Int32) (y3 : Int32) (y4 : Int32) (y5 : Int32) (y6 : Int32) (s : xS) : Option xO := og (d + 1) tb_Ref_pond (55, [some (vR 13 0), some (vI y2), some (vI y3), some (vI y4), some (vI y5), some (vI y6), none], [], s)
noncomputable def Ref_pond_L3 (d : Nat) (y2 : Int32) (y3 : Int32) (y4 : Int32) (y5 : Int32) (y6 : Int32) (y7 : Int32) (s : xS) : Option xO := og (d + 1) tb_Ref_pond (64, [some (vR 13 0), some (vI y2), some (vI y3), some (vI y4), some (vI y5), some (vI y6), some (vI y7)], [], s)
noncomputable def Ref_pond_J4 (d : Nat) (y1 : Int32) (s : xS) : Option xO := og (d + 1) tb_Ref_pond (162, [none, none, none, none, some (vI y1), none, none], [], s)
set_option maxRecDepth 100000 in
set_option maxHeartbeats 400000 in
theorem Ref_pond_L1_eq (d : Nat) (y2 : Int32) (y3 : Int32) (y4 : Int32) (y5 : Int32) (s : xS) : Ref_pond_L1 d y2 y3 y4 y5 s =
    if (y2 : Int32) < y5 then
      bI (ev d f_Ref_goodMove [vR 13 0, vI y2, vI y3, vI y4] s) fun r8 s7 =>
      if (0 : Int32) < r8 then
        if (4 : Int32) = 0 then none else
        bV (ev d f_Ref_enters [vR 13 0, vL ((r8 / 4 : Int32).toInt64)] (wI s7 13 0 1 0)) fun s9 =>
          if (4 : Int32) = 0 then none else
          bV (ev d f_Ref_enters [vR 13 0, vL ((jrem r8 4 : Int32).toInt64)] s9) fun s10 =>
            Ref_pond_J4 d r8 s10
      else
        Ref_pond_J4 d r8 (wI s7 13 0 1 0)
    else
      Ref_pond_L2 d y2 y3 y4 y5 0 s := (x_adv_out (K := x_K) (P := x_Pr) (d := d + 1) (M := tb_Ref_pond) [46, 55, 64, 162] 98 (46, [some (vR 13 0), some (vI y2), some (vI y3), some (vI y4), some (vI y5), none, none], [], s)).symm
set_option maxRecDepth 100000 in
set_option maxHeartbeats 400000 in
theorem Ref_pond_L2_eq (d : Nat) (y2 : Int32) (y3 : Int32) (y4 : Int32) (y5 : Int32) (y6 : Int32) (s : xS) : Ref_pond_L2 d y2 y3 y4 y5 y6 s =
    if (y3 : Int32) < y6 then
      Ref_pond_L1 d y2 y3 y4 (y5 + 1) s
    else
      Ref_pond_L3 d y2 y3 y4 y5 y6 0 s := (x_adv_out (K := x_K) (P := x_Pr) (d := d + 1) (M := tb_Ref_pond) [46, 55, 64, 162] 98 (55, [some (vR 13 0), some (vI y2), some (vI y3), some (vI y4), some (vI y5), some (vI y6), none], [], s)).symm
set_option maxRecDepth 100000 in
set_option maxHeartbeats 400000 in
theorem Ref_pond_L3_eq (d : Nat) (y2 : Int32) (y3 : Int32) (y4 : Int32) (y5 : Int32) (y6 : Int32) (y7 : Int32) (s : xS) : Ref_pond_L3 d y2 y3 y4 y5 y6 y7 s =
    if (y4 : Int32) < y7 then
      Ref_pond_L2 d y2 y3 y4 y5 (y6 + 1) s
    else
      bI (ev d f_Ref_goodMove [vR 13 0, vI y5, vI y6, vI y7] s) fun r12 s11 =>
      if (0 : Int32) < r12 then
        if x_in (((100 * y5) + (10 * y6)) + y7) 1000 then
        Ref_pond_L3 d y2 y3 y4 y5 y6 (y7 + 1) (wI s11 70 0 (((100 * y5) + (10 * y6)) + y7 : Int32).toNatClampNeg (x_nb 1))
        else none
      else
        if x_in (((100 * y5) + (10 * y6)) + y7) 1000 then
        Ref_pond_L3 d y2 y3 y4 y5 y6 (y7 + 1) (wI s11 70 0 (((100 * y5) + (10 * y6)) + y7 : Int32).toNatClampNeg (x_nb 0))
        else none := (x_adv_out (K := x_K) (P := x_Pr) (d := d + 1) (M := tb_Ref_pond) [46, 55, 64, 162] 98 (64, [some (vR 13 0), some (vI y2), some (vI y3), some (vI y4), some (vI y5), some (vI y6), some (vI y7)], [], s)).symm
set_option maxRecDepth 100000 in
set_option maxHeartbeats 400000 in
theorem Ref_pond_J4_eq (d : Nat) (y1 : Int32) (s : xS) : Ref_pond_J4 d y1 s =
    if (0 : Int32) < y1 then
      bI (ev d f_Ref_flag [vI 1] s) fun r14 s13 =>
      some (some (vI r14), s13)
    else
      bI (ev d f_Ref_flag [vI 0] s) fun r16 s15 =>
      some (some (vI r16), s15) := (x_adv_out (K := x_K) (P := x_Pr) (d := d + 1) (M := tb_Ref_pond) [46, 55, 64, 162] 98 (162, [none, none, none, none, some (vI y1), none, none], [], s)).symm
set_option maxRecDepth 100000 in
set_option maxHeartbeats 400000 in
theorem Ref_pond_eq (d : Nat) (x1 : Int32) (x2 : Int32) (x3 : Int32) (s : xS) : ev (d + 1) f_Ref_pond [vR 13 0, vI x1, vI x2, vI x3] s =
    bI (ev d f_Ref_in [vL ((x1 : Int32).toInt64), vL 0, vL 9] (wI s 13 0 0 0)) fun r2 s1 =>
    if (r2 : Int32) = 0 then
      some (some (vI (-1)), s1)
    else
      bI (ev d f_Ref_in [vL ((x2 : Int32).toInt64), vL 0, vL 9] s1) fun r4 s3 =>
      if (r4 : Int32) = 0 then
        some (some (vI (-1)), s3)
      else
        bI (ev d f_Ref_in [vL ((x3 : Int32).toInt64), vL 0, vL 9] s3) fun r6 s5 =>
        if (r6 : Int32) = 0 then
          some (some (vI (-1)), s5)
        else
          Ref_pond_L1 d x1 x2 x3 0 s5 := (x_adv_out (K := x_K) (P := x_Pr) (d := d + 1) (M := tb_Ref_pond) [46, 55, 64, 162] 98 (x_st0 tb_Ref_pond [vR 13 0, vI x1, vI x2, vI x3] s)).symm
noncomputable def Ref_formedByAll_L1 (d : Nat) (y2 : Int32) (y3 : Int32) (s : xS) : Option xO := og (d + 1) tb_Ref_formedByAll (9, [some (vR 13 0), some (vI y2), some (vI y3)], [], s)
set_option maxRecDepth 100000 in
set_option maxHeartbeats 400000 in
theorem Ref_formedByAll_L1_eq (d : Nat) (y2 : Int32) (y3 : Int32) (s : xS) : Ref_formedByAll_L1 d y2 y3 s =
    bI (ev d f_Ref_fields [vR 13 0] s) fun r3 s2 =>
    if (y3 : Int32) < 4 * r3 then
      if x_in y3 144 then
      bI (ev d f_Integer_bitCount [vI (s2.1 54 0 (y3 : Int32).toNatClampNeg)] s2) fun r5 s4 =>
      Ref_formedByAll_L1 d (y2 + r5) (y3 + 1) s4
      else none
    else
      some (some (vI y2), s2) := (x_adv_out (K := x_K) (P := x_Pr) (d := d + 1) (M := tb_Ref_formedByAll) [9] 28 (9, [some (vR 13 0), some (vI y2), some (vI y3)], [], s)).symm
set_option maxRecDepth 100000 in
set_option maxHeartbeats 400000 in
theorem Ref_formedByAll_eq (d : Nat)  (s : xS) : ev (d + 1) f_Ref_formedByAll [vR 13 0] s =
    bV (ev d f_Ref_laysStands [vR 13 0, vI 0] s) fun s1 =>
    Ref_formedByAll_L1 d 0 0 s1 := (x_adv_out (K := x_K) (P := x_Pr) (d := d + 1) (M := tb_Ref_formedByAll) [9] 28 (x_st0 tb_Ref_formedByAll [vR 13 0] s)).symm
noncomputable def Ref_law_L1 (d : Nat) (y2 : Int32) (y3 : Int32) (y4 : Int32) (s : xS) : Option xO := og (d + 1) tb_Ref_law (45, [some (vR 13 0), none, some (vI y2), some (vI y3), some (vI y4)], [], s)
set_option maxRecDepth 100000 in
set_option maxHeartbeats 400000 in
theorem Ref_law_L1_eq (d : Nat) (y2 : Int32) (y3 : Int32) (y4 : Int32) (s : xS) : Ref_law_L1 d y2 y3 y4 s =
    if (y4 : Int32) < s.1 13 0 20 then
      if x_in y4 80 then
      if x_in y4 80 then
      Ref_law_L1 d y2 y3 (y4 + 1) (wI s 47 2 (y4 : Int32).toNatClampNeg (s.1 47 0 (y4 : Int32).toNatClampNeg))
      else none
      else none
    else
      bV (ev d f_Ref_laysCode [vR 13 0, vR 47 1, vI (s.1 13 0 21)] s) fun s5 =>
      bI (ev d f_Ref_formedByAll [vR 13 0] s5) fun r7 s6 =>
      bV (ev d f_Ref_laysCode [vR 13 0, vR 47 2, vI y3] s6) fun s8 =>
      bV (ev d f_Ref_enters [vR 13 0, vL ((r7 : Int32).toInt64)] (wI s8 13 0 1 0)) fun s9 =>
      bV (ev d f_Ref_enters [vR 13 0, vL ((y2 : Int32).toInt64)] s9) fun s10 =>
      some (some (vI (r7 - y2)), s10) := (x_adv_out (K := x_K) (P := x_Pr) (d := d + 1) (M := tb_Ref_law) [45] 73 (45, [some (vR 13 0), none, some (vI y2), some (vI y3), some (vI y4)], [], s)).symm
set_option maxRecDepth 100000 in
set_option maxHeartbeats 400000 in
theorem Ref_law_eq (d : Nat)  (s : xS) : ev (d + 1) f_Ref_law [vR 13 0] s =
    bI (ev d f_Ref_readsRule [vR 13 0] (wI s 13 0 0 0)) fun r2 s1 =>
    if (r2 : Int32) < 0 then
      some (some (vI ((r2 + 1) - 10000)), s1)
    else
      if (s1.1 13 0 6 : Int32) = 0 then
        some (some (vI (-2)), s1)
      else
        bI (ev d f_Ref_formedByAll [vR 13 0] s1) fun r4 s3 =>
        Ref_law_L1 d r4 (s3.1 13 0 20) 0 s3 := (x_adv_out (K := x_K) (P := x_Pr) (d := d + 1) (M := tb_Ref_law) [45] 73 (x_st0 tb_Ref_law [vR 13 0] s)).symm
noncomputable def Ref_gets_J1 (d : Nat) (y1 : Int32) (y2 : Int32) (y3 : Int32) (s : xS) : Option xO := og (d + 1) tb_Ref_gets (13, [some (vI y1), some (vI y2), none], [vI y3], s)
set_option maxRecDepth 100000 in
set_option maxHeartbeats 400000 in
theorem Ref_gets_J1_eq (d : Nat) (y1 : Int32) (y2 : Int32) (y3 : Int32) (s : xS) : Ref_gets_J1 d y1 y2 y3 s =
    bI (ev d f_Math_max [vI 0, vI (y2 - y1)] s) fun r2 s1 =>
    some (some (vI ((y3 - y1) + r2)), s1) := (x_adv_out (K := x_K) (P := x_Pr) (d := d + 1) (M := tb_Ref_gets) [13] 20 (13, [some (vI y1), some (vI y2), none], [vI y3], s)).symm
set_option maxRecDepth 100000 in
set_option maxHeartbeats 400000 in
theorem Ref_gets_eq (d : Nat) (x1 : Int32) (x2 : Int32) (x3 : Int32) (s : xS) : ev (d + 1) f_Ref_gets [vI x1, vI x2, vI x3] s =
    if (x1 + x2 : Int32) < 9 then
      Ref_gets_J1 d x1 x2 0 s
    else
      Ref_gets_J1 d x1 x2 x3 s := (x_adv_out (K := x_K) (P := x_Pr) (d := d + 1) (M := tb_Ref_gets) [13] 20 (x_st0 tb_Ref_gets [vI x1, vI x2, vI x3] s)).symm
noncomputable def Ref_isRest_L1 (d : Nat) (y1 : Int32) (y2 : Int32) (y3 : Int32) (y4 : Int32) (y5 : Int32) (s : xS) : Option xO := og (d + 1) tb_Ref_isRest (5, [some (vI y1), some (vI y2), some (vI y3), some (vI y4), some (vI y5)], [], s)
set_option maxRecDepth 100000 in
set_option maxHeartbeats 400000 in
theorem Ref_isRest_L1_eq (d : Nat) (y1 : Int32) (y2 : Int32) (y3 : Int32) (y4 : Int32) (y5 : Int32) (s : xS) : Ref_isRest_L1 d y1 y2 y3 y4 y5 s =
    if (9 : Int32) < y5 then
      some (some (vI (x_nb y4)), s)
    else
      if (y4 : Int32) = 0 then
        Ref_isRest_L1 d y1 y2 y3 0 (y5 + 1) s
      else
        bI (ev d f_Ref_gets [vI y5, vI y2, vI y3] s) fun r2 s1 =>
        bI (ev d f_Ref_gets [vI y1, vI y2, vI y3] s1) fun r4 s3 =>
        if (r4 : Int32) < r2 then
          Ref_isRest_L1 d y1 y2 y3 0 (y5 + 1) s3
        else
          Ref_isRest_L1 d y1 y2 y3 1 (y5 + 1) s3 := (x_adv_out (K := x_K) (P := x_Pr) (d := d + 1) (M := tb_Ref_isRest) [5] 29 (5, [some (vI y1), some (vI y2), some (vI y3), some (vI y4), some (vI y5)], [], s)).symm
set_option maxRecDepth 100000 in
set_option maxHeartbeats 400000 in
theorem Ref_isRest_eq (d : Nat) (x1 : Int32) (x2 : Int32) (x3 : Int32) (s : xS) : ev (d + 1) f_Ref_isRest [vI x1, vI x2, vI x3] s =
    Ref_isRest_L1 d x1 x2 x3 1 0 s := (x_adv_out (K := x_K) (P := x_Pr) (d := d + 1) (M := tb_Ref_isRest) [5] 29 (x_st0 tb_Ref_isRest [vI x1, vI x2, vI x3] s)).symm
noncomputable def Ref_shoulders_L1 (d : Nat) (y2 : Int32) (y3 : Int32) (y4 : Int32) (s : xS) : Option xO := og (d + 1) tb_Ref_shoulders (28, [some (vR 13 0), some (vI y2), some (vI y3), some (vI y4), none], [], s)
noncomputable def Ref_shoulders_L2 (d : Nat) (y2 : Int32) (y3 : Int32) (y4 : Int32) (y5 : Int32) (s : xS) : Option xO := og (d + 1) tb_Ref_shoulders (37, [some (vR 13 0), some (vI y2), some (vI y3), some (vI y4), some (vI y5)], [], s)
set_option maxRecDepth 100000 in
set_option maxHeartbeats 400000 in
theorem Ref_shoulders_L1_eq (d : Nat) (y2 : Int32) (y3 : Int32) (y4 : Int32) (s : xS) : Ref_shoulders_L1 d y2 y3 y4 s =
    if (9 : Int32) < y4 then
      some (some (vI y3), s)
    else
      Ref_shoulders_L2 d y2 y3 y4 0 s := (x_adv_out (K := x_K) (P := x_Pr) (d := d + 1) (M := tb_Ref_shoulders) [28, 37] 56 (28, [some (vR 13 0), some (vI y2), some (vI y3), some (vI y4), none], [], s)).symm
set_option maxRecDepth 100000 in
set_option maxHeartbeats 400000 in
theorem Ref_shoulders_L2_eq (d : Nat) (y2 : Int32) (y3 : Int32) (y4 : Int32) (y5 : Int32) (s : xS) : Ref_shoulders_L2 d y2 y3 y4 y5 s =
    if (9 : Int32) < y5 then
      Ref_shoulders_L1 d y2 y3 (y4 + 1) s
    else
      bI (ev d f_Ref_isRest [vI y4, vI y5, vI y2] s) fun r4 s3 =>
      if (r4 : Int32) = 0 then
        Ref_shoulders_L2 d y2 y3 y4 (y5 + 1) s3
      else
        bI (ev d f_Ref_isRest [vI y5, vI y4, vI y2] s3) fun r6 s5 =>
        if (r6 : Int32) = 0 then
          Ref_shoulders_L2 d y2 y3 y4 (y5 + 1) s5
        else
          if (y3 : Int32) = 0 then
            bV (ev d f_Ref_enters [vR 13 0, vL ((y4 : Int32).toInt64)] s5) fun s7 =>
            bV (ev d f_Ref_enters [vR 13 0, vL ((y5 : Int32).toInt64)] s7) fun s8 =>
            Ref_shoulders_L2 d y2 (y3 + 1) y4 (y5 + 1) s8
          else
            Ref_shoulders_L2 d y2 (y3 + 1) y4 (y5 + 1) s5 := (x_adv_out (K := x_K) (P := x_Pr) (d := d + 1) (M := tb_Ref_shoulders) [28, 37] 56 (37, [some (vR 13 0), some (vI y2), some (vI y3), some (vI y4), some (vI y5)], [], s)).symm
set_option maxRecDepth 100000 in
set_option maxHeartbeats 400000 in
theorem Ref_shoulders_eq (d : Nat) (x1 : Int32) (s : xS) : ev (d + 1) f_Ref_shoulders [vR 13 0, vI x1] s =
    bI (ev d f_Ref_in [vL ((x1 : Int32).toInt64), vL 0, vL 20] (wI s 13 0 0 0)) fun r2 s1 =>
    if (r2 : Int32) = 0 then
      some (some (vI (-1)), s1)
    else
      Ref_shoulders_L1 d x1 0 0 (wI s1 13 0 1 0) := (x_adv_out (K := x_K) (P := x_Pr) (d := d + 1) (M := tb_Ref_shoulders) [28, 37] 56 (x_st0 tb_Ref_shoulders [vR 13 0, vI x1] s)).symm
set_option maxRecDepth 100000 in
set_option maxHeartbeats 400000 in
theorem Ref_draws_eq (d : Nat) (x1 : Int32) (s : xS) : ev (d + 1) f_Ref_draws [vR 13 0, vI x1] s =
    if (x1 : Int32) = 0 then none else
    some (some (vI (jrem (jushr (((s.1 13 0 60) * 1103515245) + 12345) 16) x1)), wI s 13 0 60 (((s.1 13 0 60) * 1103515245) + 12345)) := (x_adv_out (K := x_K) (P := x_Pr) (d := d + 1) (M := tb_Ref_draws) [] 18 (x_st0 tb_Ref_draws [vR 13 0, vI x1] s)).symm
noncomputable def Ref_years_L1 (d : Nat) (y2 : Int32) (y3 : Int32) (s : xS) : Option xO := og (d + 1) tb_Ref_years (35, [some (vR 13 0), none, some (vI y2), some (vI y3), none, none], [], s)
noncomputable def Ref_years_L2 (d : Nat) (y2 : Int32) (y3 : Int32) (s : xS) : Option xO := og (d + 1) tb_Ref_years (129, [some (vR 13 0), none, none, some (vI y2), some (vI y3), none], [], s)
set_option maxRecDepth 100000 in
set_option maxHeartbeats 400000 in
theorem Ref_years_L1_eq (d : Nat) (y2 : Int32) (y3 : Int32) (s : xS) : Ref_years_L1 d y2 y3 s =
    if (y3 : Int32) < y2 then
      bI (ev d f_Ref_draws [vR 13 0, vI 4] s) fun r5 s4 =>
      if (r5 : Int32) = 3 then
        bV (ev d f_Ref_minuteGoes [vR 13 0, vR 43 1] s4) fun s6 =>
        Ref_years_L1 d y2 (y3 + 1) s6
      else
        if (0 : Int32) < s4.1 13 0 6 then
          bI (ev d f_Ref_draws [vR 13 0, vI (s4.1 13 0 6)] s4) fun r8 s7 =>
          if (r5 : Int32) = 2 then
            bI (ev d f_Ref_sets [vR 13 0, vR 43 1, vI r8, vI 1] s7) fun r10 s9 =>
            Ref_years_L1 d y2 (y3 + 1) s9
          else
            bI (ev d f_Ref_draws [vR 13 0, vI 4] s7) fun r12 s11 =>
            bI (ev d f_Ref_pushesOne [vR 13 0, vR 43 1, vI r8, vI r12] s11) fun r14 s13 =>
            Ref_years_L1 d y2 (y3 + 1) s13
        else
          Ref_years_L1 d y2 (y3 + 1) s4
    else
      Ref_years_L2 d 0 0 s := (x_adv_out (K := x_K) (P := x_Pr) (d := d + 1) (M := tb_Ref_years) [35, 129] 105 (35, [some (vR 13 0), none, some (vI y2), some (vI y3), none, none], [], s)).symm
set_option maxRecDepth 100000 in
set_option maxHeartbeats 400000 in
theorem Ref_years_L2_eq (d : Nat) (y2 : Int32) (y3 : Int32) (s : xS) : Ref_years_L2 d y2 y3 s =
    if (y3 : Int32) < s.1 13 0 6 then
      if x_in (8 + y3) 17 then
      Ref_years_L2 d (y2 ||| (s.1 43 1 (8 + y3 : Int32).toNatClampNeg)) (y3 + 1) s
      else none
    else
      bI (ev d f_Ref_looseMany [vR 13 0, vR 43 1] (wI s 13 0 1 0)) fun r16 s15 =>
      bV (ev d f_Ref_enters [vR 13 0, vL ((r16 : Int32).toInt64)] s15) fun s17 =>
      bV (ev d f_Ref_enters [vR 13 0, vL ((y2 : Int32).toInt64)] s17) fun s18 =>
      some (some (vI (s18.1 13 0 28)), s18) := (x_adv_out (K := x_K) (P := x_Pr) (d := d + 1) (M := tb_Ref_years) [35, 129] 105 (129, [some (vR 13 0), none, none, some (vI y2), some (vI y3), none], [], s)).symm
set_option maxRecDepth 100000 in
set_option maxHeartbeats 400000 in
theorem Ref_years_eq (d : Nat) (x1 : Int32) (x2 : Int32) (s : xS) : ev (d + 1) f_Ref_years [vR 13 0, vI x1, vI x2] s =
    bI (ev d f_Ref_in [vL ((x2 : Int32).toInt64), vL 1, vL 60] (wI s 13 0 0 0)) fun r2 s1 =>
    if (r2 : Int32) = 0 then
      some (some (vI (-1)), s1)
    else
      bV (ev d f_Ref_copies [vR 13 0] (wI s1 13 0 60 x1)) fun s3 =>
      Ref_years_L1 d x2 0 (wI s3 13 0 28 0) := (x_adv_out (K := x_K) (P := x_Pr) (d := d + 1) (M := tb_Ref_years) [35, 129] 105 (x_st0 tb_Ref_years [vR 13 0, vI x1, vI x2] s)).symm
noncomputable def Ref_keep_L1 (d : Nat) (y2 : Int32) (y3 : Int32) (s : xS) : Option xO := og (d + 1) tb_Ref_keep (38, [some (vR 13 0), some (vI y2), some (vI y3)], [], s)
set_option maxRecDepth 100000 in
set_option maxHeartbeats 400000 in
theorem Ref_keep_L1_eq (d : Nat) (y2 : Int32) (y3 : Int32) (s : xS) : Ref_keep_L1 d y2 y3 s =
    if (y3 : Int32) < 17 then
      if x_in y3 17 then
      if x_in ((17 * y2) + y3) 51 then
      Ref_keep_L1 d y2 (y3 + 1) (wI s 73 0 ((17 * y2) + y3 : Int32).toNatClampNeg (s.1 43 0 (y3 : Int32).toNatClampNeg))
      else none
      else none
    else
      some (some (vI (x_nb 1)), s) := (x_adv_out (K := x_K) (P := x_Pr) (d := d + 1) (M := tb_Ref_keep) [38] 46 (38, [some (vR 13 0), some (vI y2), some (vI y3)], [], s)).symm
set_option maxRecDepth 100000 in
set_option maxHeartbeats 400000 in
theorem Ref_keep_eq (d : Nat) (x1 : Int32) (s : xS) : ev (d + 1) f_Ref_keep [vR 13 0, vI x1] s =
    bI (ev d f_Ref_in [vL ((x1 : Int32).toInt64), vL 0, vL 2] (wI s 13 0 0 0)) fun r2 s1 =>
    if (r2 : Int32) = 0 then
      some (some (vI (x_nb 0)), s1)
    else
      if x_in x1 3 then
      if x_in x1 3 then
      Ref_keep_L1 d x1 0 (wI (wI s1 71 0 (x1 : Int32).toNatClampNeg (x_nb 1)) 72 0 (x1 : Int32).toNatClampNeg (s1.1 13 0 7))
      else none
      else none := (x_adv_out (K := x_K) (P := x_Pr) (d := d + 1) (M := tb_Ref_keep) [38] 46 (x_st0 tb_Ref_keep [vR 13 0, vI x1] s)).symm
noncomputable def Ref_again_L1 (d : Nat) (y2 : Int32) (y3 : Int32) (s : xS) : Option xO := og (d + 1) tb_Ref_again (43, [some (vR 13 0), some (vI y2), some (vI y3)], [], s)
set_option maxRecDepth 100000 in
set_option maxHeartbeats 400000 in
theorem Ref_again_L1_eq (d : Nat) (y2 : Int32) (y3 : Int32) (s : xS) : Ref_again_L1 d y2 y3 s =
    if (y3 : Int32) < 17 then
      if x_in ((17 * y2) + y3) 51 then
      if x_in y3 17 then
      Ref_again_L1 d y2 (y3 + 1) (wI s 43 0 (y3 : Int32).toNatClampNeg (s.1 73 0 ((17 * y2) + y3 : Int32).toNatClampNeg))
      else none
      else none
    else
      some (some (vI (x_nb 1)), wI s 13 0 26 0) := (x_adv_out (K := x_K) (P := x_Pr) (d := d + 1) (M := tb_Ref_again) [43] 50 (43, [some (vR 13 0), some (vI y2), some (vI y3)], [], s)).symm
set_option maxRecDepth 100000 in
set_option maxHeartbeats 400000 in
theorem Ref_again_eq (d : Nat) (x1 : Int32) (s : xS) : ev (d + 1) f_Ref_again [vR 13 0, vI x1] s =
    bI (ev d f_Ref_in [vL ((x1 : Int32).toInt64), vL 0, vL 2] (wI s 13 0 0 0)) fun r2 s1 =>
    if (r2 : Int32) = 0 then
      some (some (vI (x_nb 0)), s1)
    else
      if x_in x1 3 then
      if (s1.1 71 0 (x1 : Int32).toNatClampNeg : Int32) = 0 then
        some (some (vI (x_nb 0)), s1)
      else
        if x_in x1 3 then
        if (s1.1 72 0 (x1 : Int32).toNatClampNeg : Int32) = s1.1 13 0 7 then
          Ref_again_L1 d x1 0 s1
        else
          some (some (vI (x_nb 0)), s1)
        else none
      else none := (x_adv_out (K := x_K) (P := x_Pr) (d := d + 1) (M := tb_Ref_again) [43] 50 (x_st0 tb_Ref_again [vR 13 0, vI x1] s)).symm
noncomputable def Ref_openMany_L1 (d : Nat) (y2 : Int32) (y3 : Int32) (s : xS) : Option xO := og (d + 1) tb_Ref_openMany (4, [some (vR 13 0), some (vI y2), some (vI y3)], [], s)
set_option maxRecDepth 100000 in
set_option maxHeartbeats 400000 in
theorem Ref_openMany_L1_eq (d : Nat) (y2 : Int32) (y3 : Int32) (s : xS) : Ref_openMany_L1 d y2 y3 s =
    bI (ev d f_Ref_fields [vR 13 0] s) fun r2 s1 =>
    if (y3 : Int32) < r2 then
      bI (ev d f_Ref_isOpen [vR 13 0, vI y3] s1) fun r4 s3 =>
      bI (ev d f_Ref_flag [vI r4] s3) fun r6 s5 =>
      Ref_openMany_L1 d (y2 + r6) (y3 + 1) s5
    else
      some (some (vI y2), s1) := (x_adv_out (K := x_K) (P := x_Pr) (d := d + 1) (M := tb_Ref_openMany) [4] 22 (4, [some (vR 13 0), some (vI y2), some (vI y3)], [], s)).symm
set_option maxRecDepth 100000 in
set_option maxHeartbeats 400000 in
theorem Ref_openMany_eq (d : Nat)  (s : xS) : ev (d + 1) f_Ref_openMany [vR 13 0] s =
    Ref_openMany_L1 d 0 0 s := (x_adv_out (K := x_K) (P := x_Pr) (d := d + 1) (M := tb_Ref_openMany) [4] 22 (x_st0 tb_Ref_openMany [vR 13 0] s)).symm
noncomputable def Ref_sightsThere_L1 (d : Nat) (y2 : Int32) (y3 : Int32) (s : xS) : Option xO := og (d + 1) tb_Ref_sightsThere (4, [some (vR 13 0), some (vI y2), some (vI y3)], [], s)
set_option maxRecDepth 100000 in
set_option maxHeartbeats 400000 in
theorem Ref_sightsThere_L1_eq (d : Nat) (y2 : Int32) (y3 : Int32) (s : xS) : Ref_sightsThere_L1 d y2 y3 s =
    bI (ev d f_Ref_fields [vR 13 0] s) fun r2 s1 =>
    if (y3 : Int32) < r2 then
      if x_in y3 36 then
      bI (ev d f_Ref_in [vL ((s1.1 42 0 (y3 : Int32).toNatClampNeg : Int32).toInt64), vL 10, vL 19] s1) fun r4 s3 =>
      if (r4 : Int32) = 0 then
        Ref_sightsThere_L1 d (y2 ||| 0) (y3 + 1) s3
      else
        if x_in y3 36 then
        Ref_sightsThere_L1 d (y2 ||| (jshl 1 ((s3.1 42 0 (y3 : Int32).toNatClampNeg) - 10))) (y3 + 1) s3
        else none
      else none
    else
      some (some (vI y2), s1) := (x_adv_out (K := x_K) (P := x_Pr) (d := d + 1) (M := tb_Ref_sightsThere) [4] 37 (4, [some (vR 13 0), some (vI y2), some (vI y3)], [], s)).symm
set_option maxRecDepth 100000 in
set_option maxHeartbeats 400000 in
theorem Ref_sightsThere_eq (d : Nat)  (s : xS) : ev (d + 1) f_Ref_sightsThere [vR 13 0] s =
    Ref_sightsThere_L1 d 0 0 s := (x_adv_out (K := x_K) (P := x_Pr) (d := d + 1) (M := tb_Ref_sightsThere) [4] 37 (x_st0 tb_Ref_sightsThere [vR 13 0] s)).symm
noncomputable def Ref_looseOnes_L1 (d : Nat) (y2 : Int32) (y3 : Int32) (s : xS) : Option xO := og (d + 1) tb_Ref_looseOnes (4, [some (vR 13 0), some (vI y2), some (vI y3)], [], s)
set_option maxRecDepth 100000 in
set_option maxHeartbeats 400000 in
theorem Ref_looseOnes_L1_eq (d : Nat) (y2 : Int32) (y3 : Int32) (s : xS) : Ref_looseOnes_L1 d y2 y3 s =
    if (y3 : Int32) < s.1 13 0 6 then
      if x_in (12 + y3) 17 then
      Ref_looseOnes_L1 d (y2 ||| (jshl (s.1 43 0 (12 + y3 : Int32).toNatClampNeg) y3)) (y3 + 1) s
      else none
    else
      some (some (vI y2), s) := (x_adv_out (K := x_K) (P := x_Pr) (d := d + 1) (M := tb_Ref_looseOnes) [4] 26 (4, [some (vR 13 0), some (vI y2), some (vI y3)], [], s)).symm
set_option maxRecDepth 100000 in
set_option maxHeartbeats 400000 in
theorem Ref_looseOnes_eq (d : Nat)  (s : xS) : ev (d + 1) f_Ref_looseOnes [vR 13 0] s =
    Ref_looseOnes_L1 d 0 0 s := (x_adv_out (K := x_K) (P := x_Pr) (d := d + 1) (M := tb_Ref_looseOnes) [4] 26 (x_st0 tb_Ref_looseOnes [vR 13 0] s)).symm
set_option maxRecDepth 100000 in
set_option maxHeartbeats 400000 in
theorem Ref_count_eq (d : Nat) (x1 : Int32) (s : xS) : ev (d + 1) f_Ref_count [vR 13 0, vI x1] s =
    if (x1 : Int32) = 0 then
      some (some (vI (s.1 13 0 3)), wI s 13 0 0 0)
    else if (x1 : Int32) = 1 then
      some (some (vI (s.1 13 0 4)), wI s 13 0 0 0)
    else if (x1 : Int32) = 2 then
      some (some (vI (s.1 13 0 6)), wI s 13 0 0 0)
    else if (x1 : Int32) = 3 then
      bI (ev d f_Ref_openMany [vR 13 0] (wI s 13 0 0 0)) fun r2 s1 =>
      some (some (vI r2), s1)
    else if (x1 : Int32) = 4 then
      bI (ev d f_Ref_sightsThere [vR 13 0] (wI s 13 0 0 0)) fun r4 s3 =>
      some (some (vI r4), s3)
    else if (x1 : Int32) = 5 then
      if x_in 16 17 then
      some (some (vI (s.1 43 0 (16 : Int32).toNatClampNeg)), wI s 13 0 0 0)
      else none
    else if (x1 : Int32) = 6 then
      bI (ev d f_Ref_looseOnes [vR 13 0] (wI s 13 0 0 0)) fun r6 s5 =>
      some (some (vI r6), s5)
    else if (x1 : Int32) = 7 then
      bI (ev d f_Ref_viewsOfAll [vR 13 0] (wI s 13 0 0 0)) fun r8 s7 =>
      some (some (vI r8), s7)
    else if (x1 : Int32) = 8 then
      some (some (vI (s.1 13 0 51)), wI s 13 0 0 0)
    else if (x1 : Int32) = 9 then
      some (some (vI (s.1 13 0 55)), wI s 13 0 0 0)
    else if (x1 : Int32) = 10 then
      some (some (vI (s.1 13 0 26)), wI s 13 0 0 0)
    else if (x1 : Int32) = 11 then
      some (some (vI (s.1 13 0 1)), wI s 13 0 0 0)
    else if (x1 : Int32) = 12 then
      some (some (vI (s.1 13 0 11)), wI s 13 0 0 0)
    else some (some (vI (-100)), wI s 13 0 0 0) := (x_adv_out (K := x_K) (P := x_Pr) (d := d + 1) (M := tb_Ref_count) [] 51 (x_st0 tb_Ref_count [vR 13 0, vI x1] s)).symm
set_option maxRecDepth 100000 in
set_option maxHeartbeats 400000 in
theorem Ref_row_eq (d : Nat) (x1 : Int32) (s : xS) : ev (d + 1) f_Ref_row [vR 13 0, vI x1] s =
    bI (ev d f_Ref_in [vL ((x1 : Int32).toInt64), vL 0, vL (((s.1 13 0 1) - 1 : Int32).toInt64)] (wI s 13 0 0 0)) fun r2 s1 =>
    if (r2 : Int32) = 0 then
      some (some (vL 0), wI s1 13 0 0 1)
    else
      if x_in x1 24 then
      some (some (vL (s1.2 41 0 (x1 : Int32).toNatClampNeg)), s1)
      else none := (x_adv_out (K := x_K) (P := x_Pr) (d := d + 1) (M := tb_Ref_row) [] 26 (x_st0 tb_Ref_row [vR 13 0, vI x1] s)).symm

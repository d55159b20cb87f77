/-! Printed by gen.py: what methods come to. -/
set_option maxRecDepth 100000 in
set_option maxHeartbeats 400000 in
theorem Outing_clear_eq (d : Nat) (i : Nat) (s : xS) : ev (d + 1) f_Outing_clear [vR 3 i] s =
    some (none, wI (wI (wI s 3 i 3 0) 3 i 4 0) 3 i 5 0) := (x_adv_out (K := x_K) (P := x_Pr) (d := d + 1) (M := tb_Outing_clear) [] 13 (x_st0 tb_Outing_clear [vR 3 i] s)).symm
set_option maxRecDepth 100000 in
set_option maxHeartbeats 400000 in
theorem Outing_add_eq (d : Nat) (i : Nat) (x1 : Int32) (x2 : Int32) (s : xS) : ev (d + 1) f_Outing_add [vR 3 i, vI x1, vI x2] s =
    if (s.1 3 i 3 : Int32) < 4 then
      if x_in (s.1 3 i 3) 4 then
      if x_in (s.1 3 i 3) 4 then
      if x_in (s.1 3 i 3) 4 then
      some (none, wI (wI (wI (wI s 17 i (s.1 3 i 3 : Int32).toNatClampNeg x1) 18 i (s.1 3 i 3 : Int32).toNatClampNeg x2) 19 i (s.1 3 i 3 : Int32).toNatClampNeg 0) 3 i 3 ((s.1 3 i 3) + 1))
      else none
      else none
      else none
    else
      some (none, s) := (x_adv_out (K := x_K) (P := x_Pr) (d := d + 1) (M := tb_Outing_add) [] 32 (x_st0 tb_Outing_add [vR 3 i, vI x1, vI x2] s)).symm
set_option maxRecDepth 100000 in
set_option maxHeartbeats 400000 in
theorem Outing_take_eq (d : Nat) (i : Nat) (j1 : Nat) (s : xS) : ev (d + 1) f_Outing_take [vR 3 i, vR 3 j1] s =
    bL (ev d f_Outing_packed [vR 3 j1] (wI s 3 i 3 (s.1 3 j1 3))) fun r2 s1 =>
    bV (ev d f_Outing_unpack [vR 3 i, vL r2, vI (s1.1 3 j1 5)] s1) fun s3 =>
    some (none, s3) := (x_adv_out (K := x_K) (P := x_Pr) (d := d + 1) (M := tb_Outing_take) [] 14 (x_st0 tb_Outing_take [vR 3 i, vR 3 j1] s)).symm
noncomputable def Outing_packed_L1 (d : Nat) (k1 : Nat) (y2 : Int64) (y3 : Int32) (s : xS) : Option xO := og (d + 1) tb_Outing_packed (9, [some (vR 3 k1), some (vL y2), none, some (vI y3), none], [], s)
set_option maxRecDepth 100000 in
set_option maxHeartbeats 400000 in
theorem Outing_packed_L1_eq (d : Nat) (k1 : Nat) (y2 : Int64) (y3 : Int32) (s : xS) : Outing_packed_L1 d k1 y2 y3 s =
    if (y3 : Int32) < 0 then
      some (some (vL y2), s)
    else
      bI (ev d f_Outing_fieldOf [vR 3 k1, vI y3] s) fun r2 s1 =>
      bI (ev d f_Outing_wayOf [vR 3 k1, vI y3] s1) fun r4 s3 =>
      bI (ev d f_Outing_viewsOf [vR 3 k1, vI y3] s3) fun r6 s5 =>
      Outing_packed_L1 d k1 ((jlshl y2 15) ||| (((((jshl r2 9) ||| (jshl r4 7)) ||| (jshl r6 1)) ||| ((jshr (s5.1 3 k1 4) y3) &&& 1) : Int32).toInt64)) (y3 + (-1)) s5 := (x_adv_out (K := x_K) (P := x_Pr) (d := d + 1) (M := tb_Outing_packed) [9] 48 (9, [some (vR 3 k1), some (vL y2), none, some (vI y3), none], [], s)).symm
set_option maxRecDepth 100000 in
set_option maxHeartbeats 400000 in
theorem Outing_packed_eq (d : Nat) (i : Nat) (s : xS) : ev (d + 1) f_Outing_packed [vR 3 i] s =
    Outing_packed_L1 d i 0 ((s.1 3 i 3) - 1) s := (x_adv_out (K := x_K) (P := x_Pr) (d := d + 1) (M := tb_Outing_packed) [9] 48 (x_st0 tb_Outing_packed [vR 3 i] s)).symm
noncomputable def Outing_unpack_L1 (d : Nat) (k1 : Nat) (y2 : Int64) (y3 : Int32) (s : xS) : Option xO := og (d + 1) tb_Outing_unpack (16, [some (vR 3 k1), none, none, none, some (vL y2), none, some (vI y3), none], [], s)
noncomputable def Outing_unpack_J2 (d : Nat) (k1 : Nat) (y2 : Int64) (y3 : Int32) (y4 : Int32) (y5 : Int32) (k6 : Nat) (s : xS) : Option xO := og (d + 1) tb_Outing_unpack (81, [some (vR 3 k1), none, none, none, some (vL y2), none, some (vI y3), none], [vI y4, vI y5, vR 3 k6], s)
set_option maxRecDepth 100000 in
set_option maxHeartbeats 400000 in
theorem Outing_unpack_L1_eq (d : Nat) (k1 : Nat) (y2 : Int64) (y3 : Int32) (s : xS) : Outing_unpack_L1 d k1 y2 y3 s =
    if (y3 : Int32) < s.1 3 k1 3 then
      bV (ev d f_Outing_place [vR 3 k1, vI y3, vI (jshr ((y2 &&& 32767 : Int64).toInt32) 9), vI ((jshr ((y2 &&& 32767 : Int64).toInt32) 7) &&& 3)] s) fun s1 =>
      bV (ev d f_Outing_setViews [vR 3 k1, vI y3, vI ((jshr ((y2 &&& 32767 : Int64).toInt32) 1) &&& 63)] s1) fun s2 =>
      if (((y2 &&& 32767 : Int64).toInt32) &&& 1 : Int32) = 1 then
        Outing_unpack_J2 d k1 y2 y3 1 y3 k1 s2
      else
        Outing_unpack_J2 d k1 y2 y3 0 y3 k1 s2
    else
      some (none, s) := (x_adv_out (K := x_K) (P := x_Pr) (d := d + 1) (M := tb_Outing_unpack) [16, 81] 59 (16, [some (vR 3 k1), none, none, none, some (vL y2), none, some (vI y3), none], [], s)).symm
set_option maxRecDepth 100000 in
set_option maxHeartbeats 400000 in
theorem Outing_unpack_J2_eq (d : Nat) (k1 : Nat) (y2 : Int64) (y3 : Int32) (y4 : Int32) (y5 : Int32) (k6 : Nat) (s : xS) : Outing_unpack_J2 d k1 y2 y3 y4 y5 k6 s =
    bV (ev d f_Outing_setLoose [vR 3 k6, vI y5, vI y4] s) fun s3 =>
    Outing_unpack_L1 d k1 (jlshr y2 15) (y3 + 1) s3 := (x_adv_out (K := x_K) (P := x_Pr) (d := d + 1) (M := tb_Outing_unpack) [16, 81] 59 (81, [some (vR 3 k1), none, none, none, some (vL y2), none, some (vI y3), none], [vI y4, vI y5, vR 3 k6], s)).symm
set_option maxRecDepth 100000 in
set_option maxHeartbeats 400000 in
theorem Outing_unpack_eq (d : Nat) (i : Nat) (x1 : Int64) (x2 : Int32) (s : xS) : ev (d + 1) f_Outing_unpack [vR 3 i, vL x1, vI x2] s =
    Outing_unpack_L1 d i x1 0 (wI (wI s 3 i 5 x2) 3 i 4 0) := (x_adv_out (K := x_K) (P := x_Pr) (d := d + 1) (M := tb_Outing_unpack) [16, 81] 59 (x_st0 tb_Outing_unpack [vR 3 i, vL x1, vI x2] s)).symm
set_option maxRecDepth 100000 in
set_option maxHeartbeats 400000 in
theorem Outing_has_eq (d : Nat) (i : Nat) (x1 : Int32) (s : xS) : ev (d + 1) f_Outing_has [vR 3 i, vI x1] s =
    if (x1 : Int32) < 0 then
      some (some (vI (x_nb 0)), s)
    else
      if (x1 : Int32) < s.1 3 i 3 then
        some (some (vI (x_nb 1)), s)
      else
        some (some (vI (x_nb 0)), s) := (x_adv_out (K := x_K) (P := x_Pr) (d := d + 1) (M := tb_Outing_has) [] 13 (x_st0 tb_Outing_has [vR 3 i, vI x1] s)).symm
set_option maxRecDepth 100000 in
set_option maxHeartbeats 400000 in
theorem Outing_fieldOf_eq (d : Nat) (i : Nat) (x1 : Int32) (s : xS) : ev (d + 1) f_Outing_fieldOf [vR 3 i, vI x1] s =
    bI (ev d f_Outing_has [vR 3 i, vI x1] s) fun r2 s1 =>
    if (r2 : Int32) = 0 then
      some (some (vI (-1)), s1)
    else
      if x_in x1 4 then
      some (some (vI (s1.1 17 i (x1 : Int32).toNatClampNeg)), s1)
      else none := (x_adv_out (K := x_K) (P := x_Pr) (d := d + 1) (M := tb_Outing_fieldOf) [] 14 (x_st0 tb_Outing_fieldOf [vR 3 i, vI x1] s)).symm
set_option maxRecDepth 100000 in
set_option maxHeartbeats 400000 in
theorem Outing_wayOf_eq (d : Nat) (i : Nat) (x1 : Int32) (s : xS) : ev (d + 1) f_Outing_wayOf [vR 3 i, vI x1] s =
    bI (ev d f_Outing_has [vR 3 i, vI x1] s) fun r2 s1 =>
    if (r2 : Int32) = 0 then
      some (some (vI (-1)), s1)
    else
      if x_in x1 4 then
      some (some (vI (s1.1 18 i (x1 : Int32).toNatClampNeg)), s1)
      else none := (x_adv_out (K := x_K) (P := x_Pr) (d := d + 1) (M := tb_Outing_wayOf) [] 14 (x_st0 tb_Outing_wayOf [vR 3 i, vI x1] s)).symm
set_option maxRecDepth 100000 in
set_option maxHeartbeats 400000 in
theorem Outing_viewsOf_eq (d : Nat) (i : Nat) (x1 : Int32) (s : xS) : ev (d + 1) f_Outing_viewsOf [vR 3 i, vI x1] s =
    bI (ev d f_Outing_has [vR 3 i, vI x1] s) fun r2 s1 =>
    if (r2 : Int32) = 0 then
      some (some (vI 0), s1)
    else
      if x_in x1 4 then
      some (some (vI (s1.1 19 i (x1 : Int32).toNatClampNeg)), s1)
      else none := (x_adv_out (K := x_K) (P := x_Pr) (d := d + 1) (M := tb_Outing_viewsOf) [] 14 (x_st0 tb_Outing_viewsOf [vR 3 i, vI x1] s)).symm
set_option maxRecDepth 100000 in
set_option maxHeartbeats 400000 in
theorem Outing_isLoose_eq (d : Nat) (i : Nat) (x1 : Int32) (s : xS) : ev (d + 1) f_Outing_isLoose [vR 3 i, vI x1] s =
    bI (ev d f_Outing_has [vR 3 i, vI x1] s) fun r2 s1 =>
    if (r2 : Int32) = 0 then
      some (some (vI (x_nb 0)), s1)
    else
      if ((jshr (s1.1 3 i 4) x1) &&& 1 : Int32) = 1 then
        some (some (vI (x_nb 1)), s1)
      else
        some (some (vI (x_nb 0)), s1) := (x_adv_out (K := x_K) (P := x_Pr) (d := d + 1) (M := tb_Outing_isLoose) [] 19 (x_st0 tb_Outing_isLoose [vR 3 i, vI x1] s)).symm
set_option maxRecDepth 100000 in
set_option maxHeartbeats 400000 in
theorem Outing_place_eq (d : Nat) (i : Nat) (x1 : Int32) (x2 : Int32) (x3 : Int32) (s : xS) : ev (d + 1) f_Outing_place [vR 3 i, vI x1, vI x2, vI x3] s =
    bI (ev d f_Outing_has [vR 3 i, vI x1] s) fun r2 s1 =>
    if (r2 : Int32) = 0 then
      some (none, s1)
    else
      if x_in x1 4 then
      if x_in x1 4 then
      some (none, wI (wI s1 17 i (x1 : Int32).toNatClampNeg x2) 18 i (x1 : Int32).toNatClampNeg x3)
      else none
      else none := (x_adv_out (K := x_K) (P := x_Pr) (d := d + 1) (M := tb_Outing_place) [] 18 (x_st0 tb_Outing_place [vR 3 i, vI x1, vI x2, vI x3] s)).symm
set_option maxRecDepth 100000 in
set_option maxHeartbeats 400000 in
theorem Outing_setViews_eq (d : Nat) (i : Nat) (x1 : Int32) (x2 : Int32) (s : xS) : ev (d + 1) f_Outing_setViews [vR 3 i, vI x1, vI x2] s =
    bI (ev d f_Outing_has [vR 3 i, vI x1] s) fun r2 s1 =>
    if (r2 : Int32) = 0 then
      some (none, s1)
    else
      if x_in x1 4 then
      some (none, wI s1 19 i (x1 : Int32).toNatClampNeg x2)
      else none := (x_adv_out (K := x_K) (P := x_Pr) (d := d + 1) (M := tb_Outing_setViews) [] 13 (x_st0 tb_Outing_setViews [vR 3 i, vI x1, vI x2] s)).symm
set_option maxRecDepth 100000 in
set_option maxHeartbeats 400000 in
theorem Outing_setLoose_eq (d : Nat) (i : Nat) (x1 : Int32) (x2 : Int32) (s : xS) : ev (d + 1) f_Outing_setLoose [vR 3 i, vI x1, vI x2] s =
    bI (ev d f_Outing_has [vR 3 i, vI x1] s) fun r2 s1 =>
    if (r2 : Int32) = 0 then
      some (none, s1)
    else
      if (x2 : Int32) = 0 then
        some (none, wI s1 3 i 4 ((s1.1 3 i 4) &&& ((jshl 1 x1) ^^^ (-1))))
      else
        some (none, wI s1 3 i 4 ((s1.1 3 i 4) ||| (jshl 1 x1))) := (x_adv_out (K := x_K) (P := x_Pr) (d := d + 1) (M := tb_Outing_setLoose) [] 27 (x_st0 tb_Outing_setLoose [vR 3 i, vI x1, vI x2] s)).symm
set_option maxRecDepth 100000 in
set_option maxHeartbeats 400000 in
theorem Outing_countLoose_eq (d : Nat) (i : Nat) (s : xS) : ev (d + 1) f_Outing_countLoose [vR 3 i] s =
    bI (ev d f_Integer_bitCount [vI (s.1 3 i 4)] s) fun r2 s1 =>
    some (some (vI r2), s1) := (x_adv_out (K := x_K) (P := x_Pr) (d := d + 1) (M := tb_Outing_countLoose) [] 7 (x_st0 tb_Outing_countLoose [vR 3 i] s)).symm
noncomputable def Outing_countViews_L1 (d : Nat) (k1 : Nat) (y2 : Int32) (y3 : Int32) (s : xS) : Option xO := og (d + 1) tb_Outing_countViews (4, [some (vR 3 k1), some (vI y2), some (vI y3)], [], s)
set_option maxRecDepth 100000 in
set_option maxHeartbeats 400000 in
theorem Outing_countViews_L1_eq (d : Nat) (k1 : Nat) (y2 : Int32) (y3 : Int32) (s : xS) : Outing_countViews_L1 d k1 y2 y3 s =
    if (y3 : Int32) < s.1 3 k1 3 then
      bI (ev d f_Outing_viewsOf [vR 3 k1, vI y3] s) fun r2 s1 =>
      bI (ev d f_Integer_bitCount [vI r2] s1) fun r4 s3 =>
      Outing_countViews_L1 d k1 (y2 + r4) (y3 + 1) s3
    else
      some (some (vI y2), s) := (x_adv_out (K := x_K) (P := x_Pr) (d := d + 1) (M := tb_Outing_countViews) [4] 22 (4, [some (vR 3 k1), some (vI y2), some (vI y3)], [], s)).symm
set_option maxRecDepth 100000 in
set_option maxHeartbeats 400000 in
theorem Outing_countViews_eq (d : Nat) (i : Nat) (s : xS) : ev (d + 1) f_Outing_countViews [vR 3 i] s =
    Outing_countViews_L1 d i 0 0 s := (x_adv_out (K := x_K) (P := x_Pr) (d := d + 1) (M := tb_Outing_countViews) [4] 22 (x_st0 tb_Outing_countViews [vR 3 i] s)).symm
noncomputable def Outing_allViews_L1 (d : Nat) (k1 : Nat) (y2 : Int32) (y3 : Int32) (s : xS) : Option xO := og (d + 1) tb_Outing_allViews (4, [some (vR 3 k1), some (vI y2), some (vI y3)], [], s)
set_option maxRecDepth 100000 in
set_option maxHeartbeats 400000 in
theorem Outing_allViews_L1_eq (d : Nat) (k1 : Nat) (y2 : Int32) (y3 : Int32) (s : xS) : Outing_allViews_L1 d k1 y2 y3 s =
    if (y3 : Int32) < s.1 3 k1 3 then
      bI (ev d f_Outing_viewsOf [vR 3 k1, vI y3] s) fun r2 s1 =>
      Outing_allViews_L1 d k1 (y2 ||| r2) (y3 + 1) s1
    else
      some (some (vI y2), s) := (x_adv_out (K := x_K) (P := x_Pr) (d := d + 1) (M := tb_Outing_allViews) [4] 21 (4, [some (vR 3 k1), some (vI y2), some (vI y3)], [], s)).symm
set_option maxRecDepth 100000 in
set_option maxHeartbeats 400000 in
theorem Outing_allViews_eq (d : Nat) (i : Nat) (s : xS) : ev (d + 1) f_Outing_allViews [vR 3 i] s =
    Outing_allViews_L1 d i 0 0 s := (x_adv_out (K := x_K) (P := x_Pr) (d := d + 1) (M := tb_Outing_allViews) [4] 21 (x_st0 tb_Outing_allViews [vR 3 i] s)).symm
noncomputable def Outing_countOthersOn_L1 (d : Nat) (k1 : Nat) (y2 : Int32) (y3 : Int32) (y4 : Int32) (y5 : Int32) (s : xS) : Option xO := og (d + 1) tb_Outing_countOthersOn (5, [some (vR 3 k1), some (vI y2), some (vI y3), some (vI y4), some (vI y5)], [], s)
set_option maxRecDepth 100000 in
set_option maxHeartbeats 400000 in
theorem Outing_countOthersOn_L1_eq (d : Nat) (k1 : Nat) (y2 : Int32) (y3 : Int32) (y4 : Int32) (y5 : Int32) (s : xS) : Outing_countOthersOn_L1 d k1 y2 y3 y4 y5 s =
    if (y5 : Int32) < s.1 3 k1 3 then
      if (y5 : Int32) < 4 then
        if (y5 : Int32) = y3 then
          Outing_countOthersOn_L1 d k1 y2 y3 (y4 + 0) (y5 + 1) s
        else
          if x_in y5 4 then
          if (s.1 17 k1 (y5 : Int32).toNatClampNeg : Int32) = y2 then
            Outing_countOthersOn_L1 d k1 y2 y3 (y4 + 1) (y5 + 1) s
          else
            Outing_countOthersOn_L1 d k1 y2 y3 (y4 + 0) (y5 + 1) s
          else none
      else
        some (some (vI y4), s)
    else
      some (some (vI y4), s) := (x_adv_out (K := x_K) (P := x_Pr) (d := d + 1) (M := tb_Outing_countOthersOn) [5] 33 (5, [some (vR 3 k1), some (vI y2), some (vI y3), some (vI y4), some (vI y5)], [], s)).symm
set_option maxRecDepth 100000 in
set_option maxHeartbeats 400000 in
theorem Outing_countOthersOn_eq (d : Nat) (i : Nat) (x1 : Int32) (x2 : Int32) (s : xS) : ev (d + 1) f_Outing_countOthersOn [vR 3 i, vI x1, vI x2] s =
    Outing_countOthersOn_L1 d i x1 x2 0 0 s := (x_adv_out (K := x_K) (P := x_Pr) (d := d + 1) (M := tb_Outing_countOthersOn) [5] 33 (x_st0 tb_Outing_countOthersOn [vR 3 i, vI x1, vI x2] s)).symm

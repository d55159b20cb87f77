/-! The law's loop: its calls. Printed by genL.py. -/
section LCASE
variable {p : Program} {l : Launch} {e : Env} {s : State} {m : MethodId} {below : List Frame} {meth : Method} {c : Code} {H : Heap} {locs : List Loc} {cells slots : Nat} {Q : State → Prop} {D : va_G} {tys : List (ClassId × FieldType)} {cA : Nat → ClassId} {ad : Nat → Nat → Nat} {hh qo : Nat} {adS adV sa : Nat → Nat} {fm : Value} {b L i k : Nat} {xs : Nat → Int32} {ov : Nat → Int64} {t : xS} {ls : Array Slot} {rest : List Value} {pc : Nat} {I : xS → Nat → Prop}
set_option maxHeartbeats 4000000 in
set_option maxRecDepth 100000 in
theorem z_c26 (C : z_C p l s m meth c b L xs D tys cA ad qo hh adS adV sa fm) (hL : L ≤ 2560) (hi : i + 5 ≤ L) (hl : lv_has ls 8 (z_L b ad qo i)) (hP : va_P D vwCl (y_w cA ad qo ov t) H) (hS : va_S (z_A s) s.heap H locs) (hc : cells + 1 ≤ room_1.cells) (hs : slots + 6 ≤ room_1.slots) (hR : (z_R I f_Main_ways f_Ref_ways [vI (xs (i + 1)), vI (xs (i + 2)), vI (xs (i + 3))] t k))
    (kk : ∀ (ov' : Nat → Int64) (t2 : xS) (H1 : Heap) (locs1 : List Loc) (ls' : Array Slot), lv_has ls' 8 (z_L b ad qo i) → I t2 (k + 1) → va_P D vwCl (y_w cA ad qo ov' t2) H1 → va_S (z_A s) s.heap H1 locs1 → W p l e room_1 s m #[Value.ref b] below meth c H1 locs1 (cells + 1) (slots + 6) Q (F0 m 1567 ls' [])) :
    W p l e room_1 s m #[Value.ref b] below meth c H locs cells slots Q (F0 m 988 ls []) := by
  obtain ⟨r, t1, t2, h1, h2, h3⟩ := hR
  have hx := C.1.1
  have hb := C.1.2.1
  refine lv_aload_n (k := 1) hx hb (by decide +kernel) rfl (lv_at hl 1 rfl) ?_
  refine z_arg C hl hS hL (j := 1) (nj := 1) (by decide) (by omega) (by decide +kernel) (by decide +kernel) (by decide +kernel) (by decide +kernel) (by decide +kernel) ?_
  refine z_arg C hl hS hL (j := 2) (nj := 2) (by decide) (by omega) (by decide +kernel) (by decide +kernel) (by decide +kernel) (by decide +kernel) (by decide +kernel) ?_
  refine z_arg C hl hS hL (j := 3) (nj := 3) (by decide) (by omega) (by decide +kernel) (by decide +kernel) (by decide +kernel) (by decide +kernel) (by decide +kernel) ?_
  refine z_call (rest := []) C hP hS hl.1 (f := f_Main_ways) (o := 11) (y := yX11_ways) (ccM := cX11_ways) (rt := (some .int)) (np := 3) (c0 := 0) rfl rfl (by decide) [xs (i + 1), xs (i + 2), xs (i + 3)] h1 (ix := 140) (List.mem_filter.mpr ⟨by decide +kernel, by decide +kernel⟩) rfl (Nat.le_of_ble_eq_true rfl) (by decide +kernel) (by omega) (by omega) (fun H locs hP hS => ?_)
  refine lv_aload_n (k := 2) hx hb (by decide +kernel) rfl (lv_at hl 2 rfl) ?_
  refine z_arg C hl hS hL (j := 1) (nj := 1) (by decide) (by omega) (by decide +kernel) (by decide +kernel) (by decide +kernel) (by decide +kernel) (by decide +kernel) ?_
  refine z_arg C hl hS hL (j := 2) (nj := 2) (by decide) (by omega) (by decide +kernel) (by decide +kernel) (by decide +kernel) (by decide +kernel) (by decide +kernel) ?_
  refine z_arg C hl hS hL (j := 3) (nj := 3) (by decide) (by omega) (by decide +kernel) (by decide +kernel) (by decide +kernel) (by decide +kernel) (by decide +kernel) ?_
  refine z_call (rest := [.int r]) C hP hS hl.1 (f := f_Ref_ways) (o := 12) (y := yX12_ways) (ccM := cX12_ways) (rt := (some .int)) (np := 3) (c0 := 13) rfl rfl (by decide) [xs (i + 1), xs (i + 2), xs (i + 3)] h2 (ix := 143) (List.mem_filter.mpr ⟨by decide +kernel, by decide +kernel⟩) rfl (Nat.le_of_ble_eq_true rfl) (by decide +kernel) (by omega) (by omega) (fun H locs hP hS => ?_)
  refine lv_icmp_eq (x := r) (y := r) (off := 535) (tgt := 1567) hx hb (by decide +kernel) (by decide) (fun _ => ?_) (fun h => absurd rfl h)
  exact W.widen (k := cells + 1) (n := slots + 6) (by omega) (by omega) (kk ov t2 H locs ls hl h3 hP hS)
set_option maxHeartbeats 4000000 in
set_option maxRecDepth 100000 in
theorem z_c27 (C : z_C p l s m meth c b L xs D tys cA ad qo hh adS adV sa fm) (hL : L ≤ 2560) (hi : i + 5 ≤ L) (hl : lv_has ls 8 (z_L b ad qo i)) (hP : va_P D vwCl (y_w cA ad qo ov t) H) (hS : va_S (z_A s) s.heap H locs) (hc : cells + 1 ≤ room_1.cells) (hs : slots + 6 ≤ room_1.slots) (hR : (z_R I f_Main_strays f_Ref_strays [vI (xs (i + 1)), vI (xs (i + 2)), vI (xs (i + 3))] t k))
    (kk : ∀ (ov' : Nat → Int64) (t2 : xS) (H1 : Heap) (locs1 : List Loc) (ls' : Array Slot), lv_has ls' 8 (z_L b ad qo i) → I t2 (k + 1) → va_P D vwCl (y_w cA ad qo ov' t2) H1 → va_S (z_A s) s.heap H1 locs1 → W p l e room_1 s m #[Value.ref b] below meth c H1 locs1 (cells + 1) (slots + 6) Q (F0 m 1567 ls' [])) :
    W p l e room_1 s m #[Value.ref b] below meth c H locs cells slots Q (F0 m 1037 ls []) := by
  obtain ⟨r, t1, t2, h1, h2, h3⟩ := hR
  have hx := C.1.1
  have hb := C.1.2.1
  refine lv_aload_n (k := 1) hx hb (by decide +kernel) rfl (lv_at hl 1 rfl) ?_
  refine z_arg C hl hS hL (j := 1) (nj := 1) (by decide) (by omega) (by decide +kernel) (by decide +kernel) (by decide +kernel) (by decide +kernel) (by decide +kernel) ?_
  refine z_arg C hl hS hL (j := 2) (nj := 2) (by decide) (by omega) (by decide +kernel) (by decide +kernel) (by decide +kernel) (by decide +kernel) (by decide +kernel) ?_
  refine z_arg C hl hS hL (j := 3) (nj := 3) (by decide) (by omega) (by decide +kernel) (by decide +kernel) (by decide +kernel) (by decide +kernel) (by decide +kernel) ?_
  refine z_call (rest := []) C hP hS hl.1 (f := f_Main_strays) (o := 11) (y := yX11_strays) (ccM := cX11_strays) (rt := (some .int)) (np := 3) (c0 := 0) rfl rfl (by decide) [xs (i + 1), xs (i + 2), xs (i + 3)] h1 (ix := 144) (List.mem_filter.mpr ⟨by decide +kernel, by decide +kernel⟩) rfl (Nat.le_of_ble_eq_true rfl) (by decide +kernel) (by omega) (by omega) (fun H locs hP hS => ?_)
  refine lv_aload_n (k := 2) hx hb (by decide +kernel) rfl (lv_at hl 2 rfl) ?_
  refine z_arg C hl hS hL (j := 1) (nj := 1) (by decide) (by omega) (by decide +kernel) (by decide +kernel) (by decide +kernel) (by decide +kernel) (by decide +kernel) ?_
  refine z_arg C hl hS hL (j := 2) (nj := 2) (by decide) (by omega) (by decide +kernel) (by decide +kernel) (by decide +kernel) (by decide +kernel) (by decide +kernel) ?_
  refine z_arg C hl hS hL (j := 3) (nj := 3) (by decide) (by omega) (by decide +kernel) (by decide +kernel) (by decide +kernel) (by decide +kernel) (by decide +kernel) ?_
  refine z_call (rest := [.int r]) C hP hS hl.1 (f := f_Ref_strays) (o := 12) (y := yX12_strays) (ccM := cX12_strays) (rt := (some .int)) (np := 3) (c0 := 13) rfl rfl (by decide) [xs (i + 1), xs (i + 2), xs (i + 3)] h2 (ix := 147) (List.mem_filter.mpr ⟨by decide +kernel, by decide +kernel⟩) rfl (Nat.le_of_ble_eq_true rfl) (by decide +kernel) (by omega) (by omega) (fun H locs hP hS => ?_)
  refine lv_icmp_eq (x := r) (y := r) (off := 486) (tgt := 1567) hx hb (by decide +kernel) (by decide) (fun _ => ?_) (fun h => absurd rfl h)
  exact W.widen (k := cells + 1) (n := slots + 6) (by omega) (by omega) (kk ov t2 H locs ls hl h3 hP hS)
set_option maxHeartbeats 4000000 in
set_option maxRecDepth 100000 in
theorem z_c28 (C : z_C p l s m meth c b L xs D tys cA ad qo hh adS adV sa fm) (hL : L ≤ 2560) (hi : i + 5 ≤ L) (hl : lv_has ls 8 (z_L b ad qo i)) (hP : va_P D vwCl (y_w cA ad qo ov t) H) (hS : va_S (z_A s) s.heap H locs) (hc : cells + 1 ≤ room_1.cells) (hs : slots + 6 ≤ room_1.slots) (hR : (z_R I f_Main_stops f_Ref_stops [vI (xs (i + 1))] t k))
    (kk : ∀ (ov' : Nat → Int64) (t2 : xS) (H1 : Heap) (locs1 : List Loc) (ls' : Array Slot), lv_has ls' 8 (z_L b ad qo i) → I t2 (k + 1) → va_P D vwCl (y_w cA ad qo ov' t2) H1 → va_S (z_A s) s.heap H1 locs1 → W p l e room_1 s m #[Value.ref b] below meth c H1 locs1 (cells + 1) (slots + 6) Q (F0 m 1567 ls' [])) :
    W p l e room_1 s m #[Value.ref b] below meth c H locs cells slots Q (F0 m 1086 ls []) := by
  obtain ⟨r, t1, t2, h1, h2, h3⟩ := hR
  have hx := C.1.1
  have hb := C.1.2.1
  refine lv_aload_n (k := 1) hx hb (by decide +kernel) rfl (lv_at hl 1 rfl) ?_
  refine z_arg C hl hS hL (j := 1) (nj := 1) (by decide) (by omega) (by decide +kernel) (by decide +kernel) (by decide +kernel) (by decide +kernel) (by decide +kernel) ?_
  refine z_call (rest := []) C hP hS hl.1 (f := f_Main_stops) (o := 11) (y := yX11_stops) (ccM := cX11_stops) (rt := (some .int)) (np := 1) (c0 := 0) rfl rfl (by decide) [xs (i + 1)] h1 (ix := 148) (List.mem_filter.mpr ⟨by decide +kernel, by decide +kernel⟩) rfl (Nat.le_of_ble_eq_true rfl) (by decide +kernel) (by omega) (by omega) (fun H locs hP hS => ?_)
  refine lv_aload_n (k := 2) hx hb (by decide +kernel) rfl (lv_at hl 2 rfl) ?_
  refine z_arg C hl hS hL (j := 1) (nj := 1) (by decide) (by omega) (by decide +kernel) (by decide +kernel) (by decide +kernel) (by decide +kernel) (by decide +kernel) ?_
  refine z_call (rest := [.int r]) C hP hS hl.1 (f := f_Ref_stops) (o := 12) (y := yX12_stops) (ccM := cX12_stops) (rt := (some .int)) (np := 1) (c0 := 13) rfl rfl (by decide) [xs (i + 1)] h2 (ix := 151) (List.mem_filter.mpr ⟨by decide +kernel, by decide +kernel⟩) rfl (Nat.le_of_ble_eq_true rfl) (by decide +kernel) (by omega) (by omega) (fun H locs hP hS => ?_)
  refine lv_icmp_eq (x := r) (y := r) (off := 461) (tgt := 1567) hx hb (by decide +kernel) (by decide) (fun _ => ?_) (fun h => absurd rfl h)
  exact W.widen (k := cells + 1) (n := slots + 6) (by omega) (by omega) (kk ov t2 H locs ls hl h3 hP hS)
set_option maxHeartbeats 4000000 in
set_option maxRecDepth 100000 in
theorem z_c29 (C : z_C p l s m meth c b L xs D tys cA ad qo hh adS adV sa fm) (hL : L ≤ 2560) (hi : i + 5 ≤ L) (hl : lv_has ls 8 (z_L b ad qo i)) (hP : va_P D vwCl (y_w cA ad qo ov t) H) (hS : va_S (z_A s) s.heap H locs) (hc : cells + 1 ≤ room_1.cells) (hs : slots + 6 ≤ room_1.slots) (hR : (z_R I f_Main_rounds f_Ref_rounds [] t k))
    (kk : ∀ (ov' : Nat → Int64) (t2 : xS) (H1 : Heap) (locs1 : List Loc) (ls' : Array Slot), lv_has ls' 8 (z_L b ad qo i) → I t2 (k + 1) → va_P D vwCl (y_w cA ad qo ov' t2) H1 → va_S (z_A s) s.heap H1 locs1 → W p l e room_1 s m #[Value.ref b] below meth c H1 locs1 (cells + 1) (slots + 6) Q (F0 m 1567 ls' [])) :
    W p l e room_1 s m #[Value.ref b] below meth c H locs cells slots Q (F0 m 1111 ls []) := by
  obtain ⟨r, t1, t2, h1, h2, h3⟩ := hR
  have hx := C.1.1
  have hb := C.1.2.1
  refine lv_aload_n (k := 1) hx hb (by decide +kernel) rfl (lv_at hl 1 rfl) ?_
  refine z_call (rest := []) C hP hS hl.1 (f := f_Main_rounds) (o := 11) (y := yX11_rounds) (ccM := cX11_rounds) (rt := (some .int)) (np := 0) (c0 := 0) rfl rfl (by decide) [] h1 (ix := 152) (List.mem_filter.mpr ⟨by decide +kernel, by decide +kernel⟩) rfl (Nat.le_of_ble_eq_true rfl) (by decide +kernel) (by omega) (by omega) (fun H locs hP hS => ?_)
  refine lv_aload_n (k := 2) hx hb (by decide +kernel) rfl (lv_at hl 2 rfl) ?_
  refine z_call (rest := [.int r]) C hP hS hl.1 (f := f_Ref_rounds) (o := 12) (y := yX12_rounds) (ccM := cX12_rounds) (rt := (some .int)) (np := 0) (c0 := 13) rfl rfl (by decide) [] h2 (ix := 155) (List.mem_filter.mpr ⟨by decide +kernel, by decide +kernel⟩) rfl (Nat.le_of_ble_eq_true rfl) (by decide +kernel) (by omega) (by omega) (fun H locs hP hS => ?_)
  refine lv_icmp_eq (x := r) (y := r) (off := 448) (tgt := 1567) hx hb (by decide +kernel) (by decide) (fun _ => ?_) (fun h => absurd rfl h)
  exact W.widen (k := cells + 1) (n := slots + 6) (by omega) (by omega) (kk ov t2 H locs ls hl h3 hP hS)
set_option maxHeartbeats 4000000 in
set_option maxRecDepth 100000 in
theorem z_c30 (C : z_C p l s m meth c b L xs D tys cA ad qo hh adS adV sa fm) (hL : L ≤ 2560) (hi : i + 5 ≤ L) (hl : lv_has ls 8 (z_L b ad qo i)) (hP : va_P D vwCl (y_w cA ad qo ov t) H) (hS : va_S (z_A s) s.heap H locs) (hc : cells + 1 ≤ room_1.cells) (hs : slots + 6 ≤ room_1.slots) (hR : (z_R I f_Main_basin f_Ref_basin [vI (xs (i + 1))] t k))
    (kk : ∀ (ov' : Nat → Int64) (t2 : xS) (H1 : Heap) (locs1 : List Loc) (ls' : Array Slot), lv_has ls' 8 (z_L b ad qo i) → I t2 (k + 1) → va_P D vwCl (y_w cA ad qo ov' t2) H1 → va_S (z_A s) s.heap H1 locs1 → W p l e room_1 s m #[Value.ref b] below meth c H1 locs1 (cells + 1) (slots + 6) Q (F0 m 1567 ls' [])) :
    W p l e room_1 s m #[Value.ref b] below meth c H locs cells slots Q (F0 m 1124 ls []) := by
  obtain ⟨r, t1, t2, h1, h2, h3⟩ := hR
  have hx := C.1.1
  have hb := C.1.2.1
  refine lv_aload_n (k := 1) hx hb (by decide +kernel) rfl (lv_at hl 1 rfl) ?_
  refine z_arg C hl hS hL (j := 1) (nj := 1) (by decide) (by omega) (by decide +kernel) (by decide +kernel) (by decide +kernel) (by decide +kernel) (by decide +kernel) ?_
  refine z_call (rest := []) C hP hS hl.1 (f := f_Main_basin) (o := 11) (y := yX11_basin) (ccM := cX11_basin) (rt := (some .int)) (np := 1) (c0 := 0) rfl rfl (by decide) [xs (i + 1)] h1 (ix := 156) (List.mem_filter.mpr ⟨by decide +kernel, by decide +kernel⟩) rfl (Nat.le_of_ble_eq_true rfl) (by decide +kernel) (by omega) (by omega) (fun H locs hP hS => ?_)
  refine lv_aload_n (k := 2) hx hb (by decide +kernel) rfl (lv_at hl 2 rfl) ?_
  refine z_arg C hl hS hL (j := 1) (nj := 1) (by decide) (by omega) (by decide +kernel) (by decide +kernel) (by decide +kernel) (by decide +kernel) (by decide +kernel) ?_
  refine z_call (rest := [.int r]) C hP hS hl.1 (f := f_Ref_basin) (o := 12) (y := yX12_basin) (ccM := cX12_basin) (rt := (some .int)) (np := 1) (c0 := 13) rfl rfl (by decide) [xs (i + 1)] h2 (ix := 159) (List.mem_filter.mpr ⟨by decide +kernel, by decide +kernel⟩) rfl (Nat.le_of_ble_eq_true rfl) (by decide +kernel) (by omega) (by omega) (fun H locs hP hS => ?_)
  refine lv_icmp_eq (x := r) (y := r) (off := 423) (tgt := 1567) hx hb (by decide +kernel) (by decide) (fun _ => ?_) (fun h => absurd rfl h)
  exact W.widen (k := cells + 1) (n := slots + 6) (by omega) (by omega) (kk ov t2 H locs ls hl h3 hP hS)
set_option maxHeartbeats 4000000 in
set_option maxRecDepth 100000 in
theorem z_c31 (C : z_C p l s m meth c b L xs D tys cA ad qo hh adS adV sa fm) (hL : L ≤ 2560) (hi : i + 5 ≤ L) (hl : lv_has ls 8 (z_L b ad qo i)) (hP : va_P D vwCl (y_w cA ad qo ov t) H) (hS : va_S (z_A s) s.heap H locs) (hc : cells + 1 ≤ room_1.cells) (hs : slots + 6 ≤ room_1.slots) (hR : (z_R I f_Main_saw f_Ref_saw [vI (xs (i + 1)), vI (xs (i + 2)), vI (xs (i + 3))] t k))
    (kk : ∀ (ov' : Nat → Int64) (t2 : xS) (H1 : Heap) (locs1 : List Loc) (ls' : Array Slot), lv_has ls' 8 (z_L b ad qo i) → I t2 (k + 1) → va_P D vwCl (y_w cA ad qo ov' t2) H1 → va_S (z_A s) s.heap H1 locs1 → W p l e room_1 s m #[Value.ref b] below meth c H1 locs1 (cells + 1) (slots + 6) Q (F0 m 1567 ls' [])) :
    W p l e room_1 s m #[Value.ref b] below meth c H locs cells slots Q (F0 m 1149 ls []) := by
  obtain ⟨r, t1, t2, h1, h2, h3⟩ := hR
  have hx := C.1.1
  have hb := C.1.2.1
  refine lv_aload_n (k := 1) hx hb (by decide +kernel) rfl (lv_at hl 1 rfl) ?_
  refine z_arg C hl hS hL (j := 1) (nj := 1) (by decide) (by omega) (by decide +kernel) (by decide +kernel) (by decide +kernel) (by decide +kernel) (by decide +kernel) ?_
  refine z_arg C hl hS hL (j := 2) (nj := 2) (by decide) (by omega) (by decide +kernel) (by decide +kernel) (by decide +kernel) (by decide +kernel) (by decide +kernel) ?_
  refine z_arg C hl hS hL (j := 3) (nj := 3) (by decide) (by omega) (by decide +kernel) (by decide +kernel) (by decide +kernel) (by decide +kernel) (by decide +kernel) ?_
  refine z_call (rest := []) C hP hS hl.1 (f := f_Main_saw) (o := 11) (y := yX11_saw) (ccM := cX11_saw) (rt := (some .int)) (np := 3) (c0 := 0) rfl rfl (by decide) [xs (i + 1), xs (i + 2), xs (i + 3)] h1 (ix := 160) (List.mem_filter.mpr ⟨by decide +kernel, by decide +kernel⟩) rfl (Nat.le_of_ble_eq_true rfl) (by decide +kernel) (by omega) (by omega) (fun H locs hP hS => ?_)
  refine lv_aload_n (k := 2) hx hb (by decide +kernel) rfl (lv_at hl 2 rfl) ?_
  refine z_arg C hl hS hL (j := 1) (nj := 1) (by decide) (by omega) (by decide +kernel) (by decide +kernel) (by decide +kernel) (by decide +kernel) (by decide +kernel) ?_
  refine z_arg C hl hS hL (j := 2) (nj := 2) (by decide) (by omega) (by decide +kernel) (by decide +kernel) (by decide +kernel) (by decide +kernel) (by decide +kernel) ?_
  refine z_arg C hl hS hL (j := 3) (nj := 3) (by decide) (by omega) (by decide +kernel) (by decide +kernel) (by decide +kernel) (by decide +kernel) (by decide +kernel) ?_
  refine z_call (rest := [.int r]) C hP hS hl.1 (f := f_Ref_saw) (o := 12) (y := yX12_saw) (ccM := cX12_saw) (rt := (some .int)) (np := 3) (c0 := 13) rfl rfl (by decide) [xs (i + 1), xs (i + 2), xs (i + 3)] h2 (ix := 163) (List.mem_filter.mpr ⟨by decide +kernel, by decide +kernel⟩) rfl (Nat.le_of_ble_eq_true rfl) (by decide +kernel) (by omega) (by omega) (fun H locs hP hS => ?_)
  refine lv_icmp_eq (x := r) (y := r) (off := 374) (tgt := 1567) hx hb (by decide +kernel) (by decide) (fun _ => ?_) (fun h => absurd rfl h)
  exact W.widen (k := cells + 1) (n := slots + 6) (by omega) (by omega) (kk ov t2 H locs ls hl h3 hP hS)
set_option maxHeartbeats 4000000 in
set_option maxRecDepth 100000 in
theorem z_c32 (C : z_C p l s m meth c b L xs D tys cA ad qo hh adS adV sa fm) (hL : L ≤ 2560) (hi : i + 5 ≤ L) (hl : lv_has ls 8 (z_L b ad qo i)) (hP : va_P D vwCl (y_w cA ad qo ov t) H) (hS : va_S (z_A s) s.heap H locs) (hc : cells + 1 ≤ room_1.cells) (hs : slots + 6 ≤ room_1.slots) (hR : (z_R I f_Main_denies f_Ref_denies [] t k))
    (kk : ∀ (ov' : Nat → Int64) (t2 : xS) (H1 : Heap) (locs1 : List Loc) (ls' : Array Slot), lv_has ls' 8 (z_L b ad qo i) → I t2 (k + 1) → va_P D vwCl (y_w cA ad qo ov' t2) H1 → va_S (z_A s) s.heap H1 locs1 → W p l e room_1 s m #[Value.ref b] below meth c H1 locs1 (cells + 1) (slots + 6) Q (F0 m 1567 ls' [])) :
    W p l e room_1 s m #[Value.ref b] below meth c H locs cells slots Q (F0 m 1198 ls []) := by
  obtain ⟨r, t1, t2, h1, h2, h3⟩ := hR
  have hx := C.1.1
  have hb := C.1.2.1
  refine lv_aload_n (k := 1) hx hb (by decide +kernel) rfl (lv_at hl 1 rfl) ?_
  refine z_call (rest := []) C hP hS hl.1 (f := f_Main_denies) (o := 11) (y := yX11_denies) (ccM := cX11_denies) (rt := (some .int)) (np := 0) (c0 := 0) rfl rfl (by decide) [] h1 (ix := 164) (List.mem_filter.mpr ⟨by decide +kernel, by decide +kernel⟩) rfl (Nat.le_of_ble_eq_true rfl) (by decide +kernel) (by omega) (by omega) (fun H locs hP hS => ?_)
  refine lv_aload_n (k := 2) hx hb (by decide +kernel) rfl (lv_at hl 2 rfl) ?_
  refine z_call (rest := [.int r]) C hP hS hl.1 (f := f_Ref_denies) (o := 12) (y := yX12_denies) (ccM := cX12_denies) (rt := (some .int)) (np := 0) (c0 := 13) rfl rfl (by decide) [] h2 (ix := 167) (List.mem_filter.mpr ⟨by decide +kernel, by decide +kernel⟩) rfl (Nat.le_of_ble_eq_true rfl) (by decide +kernel) (by omega) (by omega) (fun H locs hP hS => ?_)
  refine lv_icmp_eq (x := r) (y := r) (off := 361) (tgt := 1567) hx hb (by decide +kernel) (by decide) (fun _ => ?_) (fun h => absurd rfl h)
  exact W.widen (k := cells + 1) (n := slots + 6) (by omega) (by omega) (kk ov t2 H locs ls hl h3 hP hS)
set_option maxHeartbeats 4000000 in
set_option maxRecDepth 100000 in
theorem z_c33 (C : z_C p l s m meth c b L xs D tys cA ad qo hh adS adV sa fm) (hL : L ≤ 2560) (hi : i + 5 ≤ L) (hl : lv_has ls 8 (z_L b ad qo i)) (hP : va_P D vwCl (y_w cA ad qo ov t) H) (hS : va_S (z_A s) s.heap H locs) (hc : cells + 1 ≤ room_1.cells) (hs : slots + 6 ≤ room_1.slots) (hR : (z_R I f_Main_laws f_Ref_laws [] t k))
    (kk : ∀ (ov' : Nat → Int64) (t2 : xS) (H1 : Heap) (locs1 : List Loc) (ls' : Array Slot), lv_has ls' 8 (z_L b ad qo i) → I t2 (k + 1) → va_P D vwCl (y_w cA ad qo ov' t2) H1 → va_S (z_A s) s.heap H1 locs1 → W p l e room_1 s m #[Value.ref b] below meth c H1 locs1 (cells + 1) (slots + 6) Q (F0 m 1567 ls' [])) :
    W p l e room_1 s m #[Value.ref b] below meth c H locs cells slots Q (F0 m 1211 ls []) := by
  obtain ⟨r, t1, t2, h1, h2, h3⟩ := hR
  have hx := C.1.1
  have hb := C.1.2.1
  refine lv_aload_n (k := 1) hx hb (by decide +kernel) rfl (lv_at hl 1 rfl) ?_
  refine z_call (rest := []) C hP hS hl.1 (f := f_Main_laws) (o := 11) (y := yX11_laws) (ccM := cX11_laws) (rt := (some .int)) (np := 0) (c0 := 0) rfl rfl (by decide) [] h1 (ix := 168) (List.mem_filter.mpr ⟨by decide +kernel, by decide +kernel⟩) rfl (Nat.le_of_ble_eq_true rfl) (by decide +kernel) (by omega) (by omega) (fun H locs hP hS => ?_)
  refine lv_aload_n (k := 2) hx hb (by decide +kernel) rfl (lv_at hl 2 rfl) ?_
  refine z_call (rest := [.int r]) C hP hS hl.1 (f := f_Ref_laws) (o := 12) (y := yX12_laws) (ccM := cX12_laws) (rt := (some .int)) (np := 0) (c0 := 13) rfl rfl (by decide) [] h2 (ix := 171) (List.mem_filter.mpr ⟨by decide +kernel, by decide +kernel⟩) rfl (Nat.le_of_ble_eq_true rfl) (by decide +kernel) (by omega) (by omega) (fun H locs hP hS => ?_)
  refine lv_icmp_eq (x := r) (y := r) (off := 348) (tgt := 1567) hx hb (by decide +kernel) (by decide) (fun _ => ?_) (fun h => absurd rfl h)
  exact W.widen (k := cells + 1) (n := slots + 6) (by omega) (by omega) (kk ov t2 H locs ls hl h3 hP hS)
end LCASE

/-! The law's loop: its calls. Printed by genL.py. -/
section LCASE
variable {p : Program} {l : Launch} {e : Env} {s : State} {m : MethodId} {below : List Frame} {meth : Method} {c : Code} {H : Heap} {locs : List Loc} {cells slots : Nat} {Q : State → Prop} {D : va_G} {tys : List (ClassId × FieldType)} {cA : Nat → ClassId} {ad : Nat → Nat → Nat} {hh qo : Nat} {adS adV sa : Nat → Nat} {fm : Value} {b L i k : Nat} {xs : Nat → Int32} {ov : Nat → Int64} {t : xS} {ls : Array Slot} {rest : List Value} {pc : Nat} {I : xS → Nat → Prop}
set_option maxHeartbeats 4000000 in
set_option maxRecDepth 100000 in
theorem z_c34 (C : z_C p l s m meth c b L xs D tys cA ad qo hh adS adV sa fm) (hL : L ≤ 2560) (hi : i + 5 ≤ L) (hl : lv_has ls 8 (z_L b ad qo i)) (hP : va_P D vwCl (y_w cA ad qo ov t) H) (hS : va_S (z_A s) s.heap H locs) (hc : cells + 1 ≤ room_1.cells) (hs : slots + 6 ≤ room_1.slots) (hR : (z_R I f_Main_looks f_Ref_looks [] t k))
    (kk : ∀ (ov' : Nat → Int64) (t2 : xS) (H1 : Heap) (locs1 : List Loc) (ls' : Array Slot), lv_has ls' 8 (z_L b ad qo i) → I t2 (k + 1) → va_P D vwCl (y_w cA ad qo ov' t2) H1 → va_S (z_A s) s.heap H1 locs1 → W p l e room_1 s m #[Value.ref b] below meth c H1 locs1 (cells + 1) (slots + 6) Q (F0 m 1567 ls' [])) :
    W p l e room_1 s m #[Value.ref b] below meth c H locs cells slots Q (F0 m 1224 ls []) := by
  obtain ⟨r, t1, t2, h1, h2, h3⟩ := hR
  have hx := C.1.1
  have hb := C.1.2.1
  refine lv_aload_n (k := 1) hx hb (by decide +kernel) rfl (lv_at hl 1 rfl) ?_
  refine z_call (rest := []) C hP hS hl.1 (f := f_Main_looks) (o := 11) (y := yX11_looks) (ccM := cX11_looks) (rt := (some .int)) (np := 0) (c0 := 0) rfl rfl (by decide) [] h1 (ix := 172) (List.mem_filter.mpr ⟨by decide +kernel, by decide +kernel⟩) rfl (Nat.le_of_ble_eq_true rfl) (by decide +kernel) (by omega) (by omega) (fun H locs hP hS => ?_)
  refine lv_aload_n (k := 2) hx hb (by decide +kernel) rfl (lv_at hl 2 rfl) ?_
  refine z_call (rest := [.int r]) C hP hS hl.1 (f := f_Ref_looks) (o := 12) (y := yX12_looks) (ccM := cX12_looks) (rt := (some .int)) (np := 0) (c0 := 13) rfl rfl (by decide) [] h2 (ix := 175) (List.mem_filter.mpr ⟨by decide +kernel, by decide +kernel⟩) rfl (Nat.le_of_ble_eq_true rfl) (by decide +kernel) (by omega) (by omega) (fun H locs hP hS => ?_)
  refine lv_icmp_eq (x := r) (y := r) (off := 335) (tgt := 1567) hx hb (by decide +kernel) (by decide) (fun _ => ?_) (fun h => absurd rfl h)
  exact W.widen (k := cells + 1) (n := slots + 6) (by omega) (by omega) (kk ov t2 H locs ls hl h3 hP hS)
set_option maxHeartbeats 4000000 in
set_option maxRecDepth 100000 in
theorem z_c35 (C : z_C p l s m meth c b L xs D tys cA ad qo hh adS adV sa fm) (hL : L ≤ 2560) (hi : i + 5 ≤ L) (hl : lv_has ls 8 (z_L b ad qo i)) (hP : va_P D vwCl (y_w cA ad qo ov t) H) (hS : va_S (z_A s) s.heap H locs) (hc : cells + 1 ≤ room_1.cells) (hs : slots + 6 ≤ room_1.slots) (hR : (z_R I f_Main_heard f_Ref_heard [vI (xs (i + 1)), vI (xs (i + 2))] t k))
    (kk : ∀ (ov' : Nat → Int64) (t2 : xS) (H1 : Heap) (locs1 : List Loc) (ls' : Array Slot), lv_has ls' 8 (z_L b ad qo i) → I t2 (k + 1) → va_P D vwCl (y_w cA ad qo ov' t2) H1 → va_S (z_A s) s.heap H1 locs1 → W p l e room_1 s m #[Value.ref b] below meth c H1 locs1 (cells + 1) (slots + 6) Q (F0 m 1567 ls' [])) :
    W p l e room_1 s m #[Value.ref b] below meth c H locs cells slots Q (F0 m 1237 ls []) := by
  obtain ⟨r, t1, t2, h1, h2, h3⟩ := hR
  have hx := C.1.1
  have hb := C.1.2.1
  refine lv_aload_n (k := 1) hx hb (by decide +kernel) rfl (lv_at hl 1 rfl) ?_
  refine z_arg C hl hS hL (j := 1) (nj := 1) (by decide) (by omega) (by decide +kernel) (by decide +kernel) (by decide +kernel) (by decide +kernel) (by decide +kernel) ?_
  refine z_arg C hl hS hL (j := 2) (nj := 2) (by decide) (by omega) (by decide +kernel) (by decide +kernel) (by decide +kernel) (by decide +kernel) (by decide +kernel) ?_
  refine z_call (rest := []) C hP hS hl.1 (f := f_Main_heard) (o := 11) (y := yX11_heard) (ccM := cX11_heard) (rt := (some .int)) (np := 2) (c0 := 0) rfl rfl (by decide) [xs (i + 1), xs (i + 2)] h1 (ix := 176) (List.mem_filter.mpr ⟨by decide +kernel, by decide +kernel⟩) rfl (Nat.le_of_ble_eq_true rfl) (by decide +kernel) (by omega) (by omega) (fun H locs hP hS => ?_)
  refine lv_aload_n (k := 2) hx hb (by decide +kernel) rfl (lv_at hl 2 rfl) ?_
  refine z_arg C hl hS hL (j := 1) (nj := 1) (by decide) (by omega) (by decide +kernel) (by decide +kernel) (by decide +kernel) (by decide +kernel) (by decide +kernel) ?_
  refine z_arg C hl hS hL (j := 2) (nj := 2) (by decide) (by omega) (by decide +kernel) (by decide +kernel) (by decide +kernel) (by decide +kernel) (by decide +kernel) ?_
  refine z_call (rest := [.int r]) C hP hS hl.1 (f := f_Ref_heard) (o := 12) (y := yX12_heard) (ccM := cX12_heard) (rt := (some .int)) (np := 2) (c0 := 13) rfl rfl (by decide) [xs (i + 1), xs (i + 2)] h2 (ix := 179) (List.mem_filter.mpr ⟨by decide +kernel, by decide +kernel⟩) rfl (Nat.le_of_ble_eq_true rfl) (by decide +kernel) (by omega) (by omega) (fun H locs hP hS => ?_)
  refine lv_icmp_eq (x := r) (y := r) (off := 298) (tgt := 1567) hx hb (by decide +kernel) (by decide) (fun _ => ?_) (fun h => absurd rfl h)
  exact W.widen (k := cells + 1) (n := slots + 6) (by omega) (by omega) (kk ov t2 H locs ls hl h3 hP hS)
set_option maxHeartbeats 4000000 in
set_option maxRecDepth 100000 in
theorem z_c36 (C : z_C p l s m meth c b L xs D tys cA ad qo hh adS adV sa fm) (hL : L ≤ 2560) (hi : i + 5 ≤ L) (hl : lv_has ls 8 (z_L b ad qo i)) (hP : va_P D vwCl (y_w cA ad qo ov t) H) (hS : va_S (z_A s) s.heap H locs) (hc : cells + 1 ≤ room_1.cells) (hs : slots + 6 ≤ room_1.slots) (hR : (z_R I f_Main_forget f_Ref_forget [] t k))
    (kk : ∀ (ov' : Nat → Int64) (t2 : xS) (H1 : Heap) (locs1 : List Loc) (ls' : Array Slot), lv_has ls' 8 (z_L b ad qo i) → I t2 (k + 1) → va_P D vwCl (y_w cA ad qo ov' t2) H1 → va_S (z_A s) s.heap H1 locs1 → W p l e room_1 s m #[Value.ref b] below meth c H1 locs1 (cells + 1) (slots + 6) Q (F0 m 1567 ls' [])) :
    W p l e room_1 s m #[Value.ref b] below meth c H locs cells slots Q (F0 m 1274 ls []) := by
  obtain ⟨r, t1, t2, h1, h2, h3⟩ := hR
  have hx := C.1.1
  have hb := C.1.2.1
  refine lv_aload_n (k := 1) hx hb (by decide +kernel) rfl (lv_at hl 1 rfl) ?_
  refine z_call (rest := []) C hP hS hl.1 (f := f_Main_forget) (o := 11) (y := yX11_forget) (ccM := cX11_forget) (rt := (some .int)) (np := 0) (c0 := 0) rfl rfl (by decide) [] h1 (ix := 180) (List.mem_filter.mpr ⟨by decide +kernel, by decide +kernel⟩) rfl (Nat.le_of_ble_eq_true rfl) (by decide +kernel) (by omega) (by omega) (fun H locs hP hS => ?_)
  refine lv_aload_n (k := 2) hx hb (by decide +kernel) rfl (lv_at hl 2 rfl) ?_
  refine z_call (rest := [.int r]) C hP hS hl.1 (f := f_Ref_forget) (o := 12) (y := yX12_forget) (ccM := cX12_forget) (rt := (some .int)) (np := 0) (c0 := 13) rfl rfl (by decide) [] h2 (ix := 183) (List.mem_filter.mpr ⟨by decide +kernel, by decide +kernel⟩) rfl (Nat.le_of_ble_eq_true rfl) (by decide +kernel) (by omega) (by omega) (fun H locs hP hS => ?_)
  refine lv_icmp_eq (x := r) (y := r) (off := 285) (tgt := 1567) hx hb (by decide +kernel) (by decide) (fun _ => ?_) (fun h => absurd rfl h)
  exact W.widen (k := cells + 1) (n := slots + 6) (by omega) (by omega) (kk ov t2 H locs ls hl h3 hP hS)
set_option maxHeartbeats 4000000 in
set_option maxRecDepth 100000 in
theorem z_c37 (C : z_C p l s m meth c b L xs D tys cA ad qo hh adS adV sa fm) (hL : L ≤ 2560) (hi : i + 5 ≤ L) (hl : lv_has ls 8 (z_L b ad qo i)) (hP : va_P D vwCl (y_w cA ad qo ov t) H) (hS : va_S (z_A s) s.heap H locs) (hc : cells + 1 ≤ room_1.cells) (hs : slots + 6 ≤ room_1.slots) (hR : (z_R I f_Main_fits f_Ref_fits [] t k))
    (kk : ∀ (ov' : Nat → Int64) (t2 : xS) (H1 : Heap) (locs1 : List Loc) (ls' : Array Slot), lv_has ls' 8 (z_L b ad qo i) → I t2 (k + 1) → va_P D vwCl (y_w cA ad qo ov' t2) H1 → va_S (z_A s) s.heap H1 locs1 → W p l e room_1 s m #[Value.ref b] below meth c H1 locs1 (cells + 1) (slots + 6) Q (F0 m 1567 ls' [])) :
    W p l e room_1 s m #[Value.ref b] below meth c H locs cells slots Q (F0 m 1287 ls []) := by
  obtain ⟨r, t1, t2, h1, h2, h3⟩ := hR
  have hx := C.1.1
  have hb := C.1.2.1
  refine lv_aload_n (k := 1) hx hb (by decide +kernel) rfl (lv_at hl 1 rfl) ?_
  refine z_call (rest := []) C hP hS hl.1 (f := f_Main_fits) (o := 11) (y := yX11_fits) (ccM := cX11_fits) (rt := (some .int)) (np := 0) (c0 := 0) rfl rfl (by decide) [] h1 (ix := 184) (List.mem_filter.mpr ⟨by decide +kernel, by decide +kernel⟩) rfl (Nat.le_of_ble_eq_true rfl) (by decide +kernel) (by omega) (by omega) (fun H locs hP hS => ?_)
  refine lv_aload_n (k := 2) hx hb (by decide +kernel) rfl (lv_at hl 2 rfl) ?_
  refine z_call (rest := [.int r]) C hP hS hl.1 (f := f_Ref_fits) (o := 12) (y := yX12_fits) (ccM := cX12_fits) (rt := (some .int)) (np := 0) (c0 := 13) rfl rfl (by decide) [] h2 (ix := 187) (List.mem_filter.mpr ⟨by decide +kernel, by decide +kernel⟩) rfl (Nat.le_of_ble_eq_true rfl) (by decide +kernel) (by omega) (by omega) (fun H locs hP hS => ?_)
  refine lv_icmp_eq (x := r) (y := r) (off := 272) (tgt := 1567) hx hb (by decide +kernel) (by decide) (fun _ => ?_) (fun h => absurd rfl h)
  exact W.widen (k := cells + 1) (n := slots + 6) (by omega) (by omega) (kk ov t2 H locs ls hl h3 hP hS)
set_option maxHeartbeats 4000000 in
set_option maxRecDepth 100000 in
theorem z_c38 (C : z_C p l s m meth c b L xs D tys cA ad qo hh adS adV sa fm) (hL : L ≤ 2560) (hi : i + 5 ≤ L) (hl : lv_has ls 8 (z_L b ad qo i)) (hP : va_P D vwCl (y_w cA ad qo ov t) H) (hS : va_S (z_A s) s.heap H locs) (hc : cells + 1 ≤ room_1.cells) (hs : slots + 6 ≤ room_1.slots) (hR : (z_R I f_Main_asks f_Ref_asks [] t k))
    (kk : ∀ (ov' : Nat → Int64) (t2 : xS) (H1 : Heap) (locs1 : List Loc) (ls' : Array Slot), lv_has ls' 8 (z_L b ad qo i) → I t2 (k + 1) → va_P D vwCl (y_w cA ad qo ov' t2) H1 → va_S (z_A s) s.heap H1 locs1 → W p l e room_1 s m #[Value.ref b] below meth c H1 locs1 (cells + 1) (slots + 6) Q (F0 m 1567 ls' [])) :
    W p l e room_1 s m #[Value.ref b] below meth c H locs cells slots Q (F0 m 1300 ls []) := by
  obtain ⟨r, t1, t2, h1, h2, h3⟩ := hR
  have hx := C.1.1
  have hb := C.1.2.1
  refine lv_aload_n (k := 1) hx hb (by decide +kernel) rfl (lv_at hl 1 rfl) ?_
  refine z_call (rest := []) C hP hS hl.1 (f := f_Main_asks) (o := 11) (y := yX11_asks) (ccM := cX11_asks) (rt := (some .int)) (np := 0) (c0 := 0) rfl rfl (by decide) [] h1 (ix := 188) (List.mem_filter.mpr ⟨by decide +kernel, by decide +kernel⟩) rfl (Nat.le_of_ble_eq_true rfl) (by decide +kernel) (by omega) (by omega) (fun H locs hP hS => ?_)
  refine lv_aload_n (k := 2) hx hb (by decide +kernel) rfl (lv_at hl 2 rfl) ?_
  refine z_call (rest := [.int r]) C hP hS hl.1 (f := f_Ref_asks) (o := 12) (y := yX12_asks) (ccM := cX12_asks) (rt := (some .int)) (np := 0) (c0 := 13) rfl rfl (by decide) [] h2 (ix := 191) (List.mem_filter.mpr ⟨by decide +kernel, by decide +kernel⟩) rfl (Nat.le_of_ble_eq_true rfl) (by decide +kernel) (by omega) (by omega) (fun H locs hP hS => ?_)
  refine lv_icmp_eq (x := r) (y := r) (off := 259) (tgt := 1567) hx hb (by decide +kernel) (by decide) (fun _ => ?_) (fun h => absurd rfl h)
  exact W.widen (k := cells + 1) (n := slots + 6) (by omega) (by omega) (kk ov t2 H locs ls hl h3 hP hS)
set_option maxHeartbeats 4000000 in
set_option maxRecDepth 100000 in
theorem z_c39 (C : z_C p l s m meth c b L xs D tys cA ad qo hh adS adV sa fm) (hL : L ≤ 2560) (hi : i + 5 ≤ L) (hl : lv_has ls 8 (z_L b ad qo i)) (hP : va_P D vwCl (y_w cA ad qo ov t) H) (hS : va_S (z_A s) s.heap H locs) (hc : cells + 1 ≤ room_1.cells) (hs : slots + 6 ≤ room_1.slots) (hR : (z_R I f_Main_pond f_Ref_pond [vI (xs (i + 1)), vI (xs (i + 2)), vI (xs (i + 3))] t k))
    (kk : ∀ (ov' : Nat → Int64) (t2 : xS) (H1 : Heap) (locs1 : List Loc) (ls' : Array Slot), lv_has ls' 8 (z_L b ad qo i) → I t2 (k + 1) → va_P D vwCl (y_w cA ad qo ov' t2) H1 → va_S (z_A s) s.heap H1 locs1 → W p l e room_1 s m #[Value.ref b] below meth c H1 locs1 (cells + 1) (slots + 6) Q (F0 m 1567 ls' [])) :
    W p l e room_1 s m #[Value.ref b] below meth c H locs cells slots Q (F0 m 1313 ls []) := by
  obtain ⟨r, t1, t2, h1, h2, h3⟩ := hR
  have hx := C.1.1
  have hb := C.1.2.1
  refine lv_aload_n (k := 1) hx hb (by decide +kernel) rfl (lv_at hl 1 rfl) ?_
  refine z_arg C hl hS hL (j := 1) (nj := 1) (by decide) (by omega) (by decide +kernel) (by decide +kernel) (by decide +kernel) (by decide +kernel) (by decide +kernel) ?_
  refine z_arg C hl hS hL (j := 2) (nj := 2) (by decide) (by omega) (by decide +kernel) (by decide +kernel) (by decide +kernel) (by decide +kernel) (by decide +kernel) ?_
  refine z_arg C hl hS hL (j := 3) (nj := 3) (by decide) (by omega) (by decide +kernel) (by decide +kernel) (by decide +kernel) (by decide +kernel) (by decide +kernel) ?_
  refine z_call (rest := []) C hP hS hl.1 (f := f_Main_pond) (o := 11) (y := yX11_pond) (ccM := cX11_pond) (rt := (some .int)) (np := 3) (c0 := 0) rfl rfl (by decide) [xs (i + 1), xs (i + 2), xs (i + 3)] h1 (ix := 192) (List.mem_filter.mpr ⟨by decide +kernel, by decide +kernel⟩) rfl (Nat.le_of_ble_eq_true rfl) (by decide +kernel) (by omega) (by omega) (fun H locs hP hS => ?_)
  refine lv_aload_n (k := 2) hx hb (by decide +kernel) rfl (lv_at hl 2 rfl) ?_
  refine z_arg C hl hS hL (j := 1) (nj := 1) (by decide) (by omega) (by decide +kernel) (by decide +kernel) (by decide +kernel) (by decide +kernel) (by decide +kernel) ?_
  refine z_arg C hl hS hL (j := 2) (nj := 2) (by decide) (by omega) (by decide +kernel) (by decide +kernel) (by decide +kernel) (by decide +kernel) (by decide +kernel) ?_
  refine z_arg C hl hS hL (j := 3) (nj := 3) (by decide) (by omega) (by decide +kernel) (by decide +kernel) (by decide +kernel) (by decide +kernel) (by decide +kernel) ?_
  refine z_call (rest := [.int r]) C hP hS hl.1 (f := f_Ref_pond) (o := 12) (y := yX12_pond) (ccM := cX12_pond) (rt := (some .int)) (np := 3) (c0 := 13) rfl rfl (by decide) [xs (i + 1), xs (i + 2), xs (i + 3)] h2 (ix := 195) (List.mem_filter.mpr ⟨by decide +kernel, by decide +kernel⟩) rfl (Nat.le_of_ble_eq_true rfl) (by decide +kernel) (by omega) (by omega) (fun H locs hP hS => ?_)
  refine lv_icmp_eq (x := r) (y := r) (off := 210) (tgt := 1567) hx hb (by decide +kernel) (by decide) (fun _ => ?_) (fun h => absurd rfl h)
  exact W.widen (k := cells + 1) (n := slots + 6) (by omega) (by omega) (kk ov t2 H locs ls hl h3 hP hS)
set_option maxHeartbeats 4000000 in
set_option maxRecDepth 100000 in
theorem z_c40 (C : z_C p l s m meth c b L xs D tys cA ad qo hh adS adV sa fm) (hL : L ≤ 2560) (hi : i + 5 ≤ L) (hl : lv_has ls 8 (z_L b ad qo i)) (hP : va_P D vwCl (y_w cA ad qo ov t) H) (hS : va_S (z_A s) s.heap H locs) (hc : cells + 1 ≤ room_1.cells) (hs : slots + 6 ≤ room_1.slots) (hR : (z_R I f_Main_law f_Ref_law [] t k))
    (kk : ∀ (ov' : Nat → Int64) (t2 : xS) (H1 : Heap) (locs1 : List Loc) (ls' : Array Slot), lv_has ls' 8 (z_L b ad qo i) → I t2 (k + 1) → va_P D vwCl (y_w cA ad qo ov' t2) H1 → va_S (z_A s) s.heap H1 locs1 → W p l e room_1 s m #[Value.ref b] below meth c H1 locs1 (cells + 1) (slots + 6) Q (F0 m 1567 ls' [])) :
    W p l e room_1 s m #[Value.ref b] below meth c H locs cells slots Q (F0 m 1362 ls []) := by
  obtain ⟨r, t1, t2, h1, h2, h3⟩ := hR
  have hx := C.1.1
  have hb := C.1.2.1
  refine lv_aload_n (k := 1) hx hb (by decide +kernel) rfl (lv_at hl 1 rfl) ?_
  refine z_call (rest := []) C hP hS hl.1 (f := f_Main_law) (o := 11) (y := yX11_law) (ccM := cX11_law) (rt := (some .int)) (np := 0) (c0 := 0) rfl rfl (by decide) [] h1 (ix := 196) (List.mem_filter.mpr ⟨by decide +kernel, by decide +kernel⟩) rfl (Nat.le_of_ble_eq_true rfl) (by decide +kernel) (by omega) (by omega) (fun H locs hP hS => ?_)
  refine lv_aload_n (k := 2) hx hb (by decide +kernel) rfl (lv_at hl 2 rfl) ?_
  refine z_call (rest := [.int r]) C hP hS hl.1 (f := f_Ref_law) (o := 12) (y := yX12_law) (ccM := cX12_law) (rt := (some .int)) (np := 0) (c0 := 13) rfl rfl (by decide) [] h2 (ix := 199) (List.mem_filter.mpr ⟨by decide +kernel, by decide +kernel⟩) rfl (Nat.le_of_ble_eq_true rfl) (by decide +kernel) (by omega) (by omega) (fun H locs hP hS => ?_)
  refine lv_icmp_eq (x := r) (y := r) (off := 197) (tgt := 1567) hx hb (by decide +kernel) (by decide) (fun _ => ?_) (fun h => absurd rfl h)
  exact W.widen (k := cells + 1) (n := slots + 6) (by omega) (by omega) (kk ov t2 H locs ls hl h3 hP hS)
set_option maxHeartbeats 4000000 in
set_option maxRecDepth 100000 in
theorem z_c41 (C : z_C p l s m meth c b L xs D tys cA ad qo hh adS adV sa fm) (hL : L ≤ 2560) (hi : i + 5 ≤ L) (hl : lv_has ls 8 (z_L b ad qo i)) (hP : va_P D vwCl (y_w cA ad qo ov t) H) (hS : va_S (z_A s) s.heap H locs) (hc : cells + 1 ≤ room_1.cells) (hs : slots + 6 ≤ room_1.slots) (hR : (z_R I f_Main_shoulders f_Ref_shoulders [vI (xs (i + 1))] t k))
    (kk : ∀ (ov' : Nat → Int64) (t2 : xS) (H1 : Heap) (locs1 : List Loc) (ls' : Array Slot), lv_has ls' 8 (z_L b ad qo i) → I t2 (k + 1) → va_P D vwCl (y_w cA ad qo ov' t2) H1 → va_S (z_A s) s.heap H1 locs1 → W p l e room_1 s m #[Value.ref b] below meth c H1 locs1 (cells + 1) (slots + 6) Q (F0 m 1567 ls' [])) :
    W p l e room_1 s m #[Value.ref b] below meth c H locs cells slots Q (F0 m 1375 ls []) := by
  obtain ⟨r, t1, t2, h1, h2, h3⟩ := hR
  have hx := C.1.1
  have hb := C.1.2.1
  refine lv_aload_n (k := 1) hx hb (by decide +kernel) rfl (lv_at hl 1 rfl) ?_
  refine z_arg C hl hS hL (j := 1) (nj := 1) (by decide) (by omega) (by decide +kernel) (by decide +kernel) (by decide +kernel) (by decide +kernel) (by decide +kernel) ?_
  refine z_call (rest := []) C hP hS hl.1 (f := f_Main_shoulders) (o := 11) (y := yX11_shoulders) (ccM := cX11_shoulders) (rt := (some .int)) (np := 1) (c0 := 0) rfl rfl (by decide) [xs (i + 1)] h1 (ix := 200) (List.mem_filter.mpr ⟨by decide +kernel, by decide +kernel⟩) rfl (Nat.le_of_ble_eq_true rfl) (by decide +kernel) (by omega) (by omega) (fun H locs hP hS => ?_)
  refine lv_aload_n (k := 2) hx hb (by decide +kernel) rfl (lv_at hl 2 rfl) ?_
  refine z_arg C hl hS hL (j := 1) (nj := 1) (by decide) (by omega) (by decide +kernel) (by decide +kernel) (by decide +kernel) (by decide +kernel) (by decide +kernel) ?_
  refine z_call (rest := [.int r]) C hP hS hl.1 (f := f_Ref_shoulders) (o := 12) (y := yX12_shoulders) (ccM := cX12_shoulders) (rt := (some .int)) (np := 1) (c0 := 13) rfl rfl (by decide) [xs (i + 1)] h2 (ix := 203) (List.mem_filter.mpr ⟨by decide +kernel, by decide +kernel⟩) rfl (Nat.le_of_ble_eq_true rfl) (by decide +kernel) (by omega) (by omega) (fun H locs hP hS => ?_)
  refine lv_icmp_eq (x := r) (y := r) (off := 172) (tgt := 1567) hx hb (by decide +kernel) (by decide) (fun _ => ?_) (fun h => absurd rfl h)
  exact W.widen (k := cells + 1) (n := slots + 6) (by omega) (by omega) (kk ov t2 H locs ls hl h3 hP hS)
end LCASE

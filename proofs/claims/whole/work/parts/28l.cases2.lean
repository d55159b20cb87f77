/-! The law's loop: its calls. Printed by genL.py. -/
section LCASE
variable {p : Program} {l : Launch} {e : Env} {s : State} {m : MethodId} {below : List Frame} {meth : Method} {c : Code} {H : Heap} {locs : List Loc} {cells slots : Nat} {Q : State → Prop} {D : va_G} {tys : List (ClassId × FieldType)} {cA : Nat → ClassId} {ad : Nat → Nat → Nat} {hh qo : Nat} {adS adV sa : Nat → Nat} {fm : Value} {b L i k : Nat} {xs : Nat → Int32} {ov : Nat → Int64} {t : xS} {ls : Array Slot} {rest : List Value} {pc : Nat} {I : xS → Nat → Prop}
set_option maxHeartbeats 4000000 in
set_option maxRecDepth 100000 in
theorem z_c10 (C : z_C p l s m meth c b L xs D tys cA ad qo hh adS adV sa fm) (hL : L ≤ 2560) (hi : i + 5 ≤ L) (hl : lv_has ls 8 (z_L b ad qo i)) (hP : va_P D vwCl (y_w cA ad qo ov t) H) (hS : va_S (z_A s) s.heap H locs) (hc : cells + 1 ≤ room_1.cells) (hs : slots + 6 ≤ room_1.slots) (hR : (z_R I f_Main_looses f_Ref_looses [vI (xs (i + 1))] t k))
    (kk : ∀ (ov' : Nat → Int64) (t2 : xS) (H1 : Heap) (locs1 : List Loc) (ls' : Array Slot), lv_has ls' 8 (z_L b ad qo i) → I t2 (k + 1) → va_P D vwCl (y_w cA ad qo ov' t2) H1 → va_S (z_A s) s.heap H1 locs1 → W p l e room_1 s m #[Value.ref b] below meth c H1 locs1 (cells + 1) (slots + 6) Q (F0 m 1567 ls' [])) :
    W p l e room_1 s m #[Value.ref b] below meth c H locs cells slots Q (F0 m 588 ls []) := by
  obtain ⟨r, t1, t2, h1, h2, h3⟩ := hR
  have hx := C.1.1
  have hb := C.1.2.1
  refine lv_aload_n (k := 1) hx hb (by decide +kernel) rfl (lv_at hl 1 rfl) ?_
  refine z_arg C hl hS hL (j := 1) (nj := 1) (by decide) (by omega) (by decide +kernel) (by decide +kernel) (by decide +kernel) (by decide +kernel) (by decide +kernel) ?_
  refine z_call (rest := []) C hP hS hl.1 (f := f_Main_looses) (o := 11) (y := yX11_looses) (ccM := cX11_looses) (rt := (some .int)) (np := 1) (c0 := 0) rfl rfl (by decide) [xs (i + 1)] h1 (ix := 75) (List.mem_filter.mpr ⟨by decide +kernel, by decide +kernel⟩) rfl (Nat.le_of_ble_eq_true rfl) (by decide +kernel) (by omega) (by omega) (fun H locs hP hS => ?_)
  refine lv_aload_n (k := 2) hx hb (by decide +kernel) rfl (lv_at hl 2 rfl) ?_
  refine z_arg C hl hS hL (j := 1) (nj := 1) (by decide) (by omega) (by decide +kernel) (by decide +kernel) (by decide +kernel) (by decide +kernel) (by decide +kernel) ?_
  refine z_call (rest := [.int r]) C hP hS hl.1 (f := f_Ref_looses) (o := 12) (y := yX12_looses) (ccM := cX12_looses) (rt := (some .int)) (np := 1) (c0 := 13) rfl rfl (by decide) [xs (i + 1)] h2 (ix := 78) (List.mem_filter.mpr ⟨by decide +kernel, by decide +kernel⟩) rfl (Nat.le_of_ble_eq_true rfl) (by decide +kernel) (by omega) (by omega) (fun H locs hP hS => ?_)
  refine lv_icmp_eq (x := r) (y := r) (off := 959) (tgt := 1567) hx hb (by decide +kernel) (by decide) (fun _ => ?_) (fun h => absurd rfl h)
  exact W.widen (k := cells + 1) (n := slots + 6) (by omega) (by omega) (kk ov t2 H locs ls hl h3 hP hS)
set_option maxHeartbeats 4000000 in
set_option maxRecDepth 100000 in
theorem z_c11 (C : z_C p l s m meth c b L xs D tys cA ad qo hh adS adV sa fm) (hL : L ≤ 2560) (hi : i + 5 ≤ L) (hl : lv_has ls 8 (z_L b ad qo i)) (hP : va_P D vwCl (y_w cA ad qo ov t) H) (hS : va_S (z_A s) s.heap H locs) (hc : cells + 1 ≤ room_1.cells) (hs : slots + 6 ≤ room_1.slots) (hR : (z_R I f_Main_catches f_Ref_catches [vI (xs (i + 1))] t k))
    (kk : ∀ (ov' : Nat → Int64) (t2 : xS) (H1 : Heap) (locs1 : List Loc) (ls' : Array Slot), lv_has ls' 8 (z_L b ad qo i) → I t2 (k + 1) → va_P D vwCl (y_w cA ad qo ov' t2) H1 → va_S (z_A s) s.heap H1 locs1 → W p l e room_1 s m #[Value.ref b] below meth c H1 locs1 (cells + 1) (slots + 6) Q (F0 m 1567 ls' [])) :
    W p l e room_1 s m #[Value.ref b] below meth c H locs cells slots Q (F0 m 613 ls []) := by
  obtain ⟨r, t1, t2, h1, h2, h3⟩ := hR
  have hx := C.1.1
  have hb := C.1.2.1
  refine lv_aload_n (k := 1) hx hb (by decide +kernel) rfl (lv_at hl 1 rfl) ?_
  refine z_arg C hl hS hL (j := 1) (nj := 1) (by decide) (by omega) (by decide +kernel) (by decide +kernel) (by decide +kernel) (by decide +kernel) (by decide +kernel) ?_
  refine z_call (rest := []) C hP hS hl.1 (f := f_Main_catches) (o := 11) (y := yX11_catches) (ccM := cX11_catches) (rt := (some .int)) (np := 1) (c0 := 0) rfl rfl (by decide) [xs (i + 1)] h1 (ix := 79) (List.mem_filter.mpr ⟨by decide +kernel, by decide +kernel⟩) rfl (Nat.le_of_ble_eq_true rfl) (by decide +kernel) (by omega) (by omega) (fun H locs hP hS => ?_)
  refine lv_aload_n (k := 2) hx hb (by decide +kernel) rfl (lv_at hl 2 rfl) ?_
  refine z_arg C hl hS hL (j := 1) (nj := 1) (by decide) (by omega) (by decide +kernel) (by decide +kernel) (by decide +kernel) (by decide +kernel) (by decide +kernel) ?_
  refine z_call (rest := [.int r]) C hP hS hl.1 (f := f_Ref_catches) (o := 12) (y := yX12_catches) (ccM := cX12_catches) (rt := (some .int)) (np := 1) (c0 := 13) rfl rfl (by decide) [xs (i + 1)] h2 (ix := 82) (List.mem_filter.mpr ⟨by decide +kernel, by decide +kernel⟩) rfl (Nat.le_of_ble_eq_true rfl) (by decide +kernel) (by omega) (by omega) (fun H locs hP hS => ?_)
  refine lv_icmp_eq (x := r) (y := r) (off := 934) (tgt := 1567) hx hb (by decide +kernel) (by decide) (fun _ => ?_) (fun h => absurd rfl h)
  exact W.widen (k := cells + 1) (n := slots + 6) (by omega) (by omega) (kk ov t2 H locs ls hl h3 hP hS)
set_option maxHeartbeats 4000000 in
set_option maxRecDepth 100000 in
theorem z_c12 (C : z_C p l s m meth c b L xs D tys cA ad qo hh adS adV sa fm) (hL : L ≤ 2560) (hi : i + 5 ≤ L) (hl : lv_has ls 8 (z_L b ad qo i)) (hP : va_P D vwCl (y_w cA ad qo ov t) H) (hS : va_S (z_A s) s.heap H locs) (hc : cells + 1 ≤ room_1.cells) (hs : slots + 6 ≤ room_1.slots) (hR : (z_R I f_Main_minutes f_Ref_minutes [vI (xs (i + 1))] t k))
    (kk : ∀ (ov' : Nat → Int64) (t2 : xS) (H1 : Heap) (locs1 : List Loc) (ls' : Array Slot), lv_has ls' 8 (z_L b ad qo i) → I t2 (k + 1) → va_P D vwCl (y_w cA ad qo ov' t2) H1 → va_S (z_A s) s.heap H1 locs1 → W p l e room_1 s m #[Value.ref b] below meth c H1 locs1 (cells + 1) (slots + 6) Q (F0 m 1567 ls' [])) :
    W p l e room_1 s m #[Value.ref b] below meth c H locs cells slots Q (F0 m 638 ls []) := by
  obtain ⟨r, t1, t2, h1, h2, h3⟩ := hR
  have hx := C.1.1
  have hb := C.1.2.1
  refine lv_aload_n (k := 1) hx hb (by decide +kernel) rfl (lv_at hl 1 rfl) ?_
  refine z_arg C hl hS hL (j := 1) (nj := 1) (by decide) (by omega) (by decide +kernel) (by decide +kernel) (by decide +kernel) (by decide +kernel) (by decide +kernel) ?_
  refine z_call (rest := []) C hP hS hl.1 (f := f_Main_minutes) (o := 11) (y := yX11_minutes) (ccM := cX11_minutes) (rt := (some .int)) (np := 1) (c0 := 0) rfl rfl (by decide) [xs (i + 1)] h1 (ix := 83) (List.mem_filter.mpr ⟨by decide +kernel, by decide +kernel⟩) rfl (Nat.le_of_ble_eq_true rfl) (by decide +kernel) (by omega) (by omega) (fun H locs hP hS => ?_)
  refine lv_aload_n (k := 2) hx hb (by decide +kernel) rfl (lv_at hl 2 rfl) ?_
  refine z_arg C hl hS hL (j := 1) (nj := 1) (by decide) (by omega) (by decide +kernel) (by decide +kernel) (by decide +kernel) (by decide +kernel) (by decide +kernel) ?_
  refine z_call (rest := [.int r]) C hP hS hl.1 (f := f_Ref_minutes) (o := 12) (y := yX12_minutes) (ccM := cX12_minutes) (rt := (some .int)) (np := 1) (c0 := 13) rfl rfl (by decide) [xs (i + 1)] h2 (ix := 86) (List.mem_filter.mpr ⟨by decide +kernel, by decide +kernel⟩) rfl (Nat.le_of_ble_eq_true rfl) (by decide +kernel) (by omega) (by omega) (fun H locs hP hS => ?_)
  refine lv_icmp_eq (x := r) (y := r) (off := 909) (tgt := 1567) hx hb (by decide +kernel) (by decide) (fun _ => ?_) (fun h => absurd rfl h)
  exact W.widen (k := cells + 1) (n := slots + 6) (by omega) (by omega) (kk ov t2 H locs ls hl h3 hP hS)
set_option maxHeartbeats 4000000 in
set_option maxRecDepth 100000 in
theorem z_c13 (C : z_C p l s m meth c b L xs D tys cA ad qo hh adS adV sa fm) (hL : L ≤ 2560) (hi : i + 5 ≤ L) (hl : lv_has ls 8 (z_L b ad qo i)) (hP : va_P D vwCl (y_w cA ad qo ov t) H) (hS : va_S (z_A s) s.heap H locs) (hc : cells + 1 ≤ room_1.cells) (hs : slots + 6 ≤ room_1.slots) (hR : (z_R I f_Main_forgets f_Ref_forgets [vI (xs (i + 1)), vI (xs (i + 2))] t k))
    (kk : ∀ (ov' : Nat → Int64) (t2 : xS) (H1 : Heap) (locs1 : List Loc) (ls' : Array Slot), lv_has ls' 8 (z_L b ad qo i) → I t2 (k + 1) → va_P D vwCl (y_w cA ad qo ov' t2) H1 → va_S (z_A s) s.heap H1 locs1 → W p l e room_1 s m #[Value.ref b] below meth c H1 locs1 (cells + 1) (slots + 6) Q (F0 m 1567 ls' [])) :
    W p l e room_1 s m #[Value.ref b] below meth c H locs cells slots Q (F0 m 663 ls []) := by
  obtain ⟨r, t1, t2, h1, h2, h3⟩ := hR
  have hx := C.1.1
  have hb := C.1.2.1
  refine lv_aload_n (k := 1) hx hb (by decide +kernel) rfl (lv_at hl 1 rfl) ?_
  refine z_arg C hl hS hL (j := 1) (nj := 1) (by decide) (by omega) (by decide +kernel) (by decide +kernel) (by decide +kernel) (by decide +kernel) (by decide +kernel) ?_
  refine z_arg C hl hS hL (j := 2) (nj := 2) (by decide) (by omega) (by decide +kernel) (by decide +kernel) (by decide +kernel) (by decide +kernel) (by decide +kernel) ?_
  refine z_call (rest := []) C hP hS hl.1 (f := f_Main_forgets) (o := 11) (y := yX11_forgets) (ccM := cX11_forgets) (rt := (some .int)) (np := 2) (c0 := 0) rfl rfl (by decide) [xs (i + 1), xs (i + 2)] h1 (ix := 87) (List.mem_filter.mpr ⟨by decide +kernel, by decide +kernel⟩) rfl (Nat.le_of_ble_eq_true rfl) (by decide +kernel) (by omega) (by omega) (fun H locs hP hS => ?_)
  refine lv_aload_n (k := 2) hx hb (by decide +kernel) rfl (lv_at hl 2 rfl) ?_
  refine z_arg C hl hS hL (j := 1) (nj := 1) (by decide) (by omega) (by decide +kernel) (by decide +kernel) (by decide +kernel) (by decide +kernel) (by decide +kernel) ?_
  refine z_arg C hl hS hL (j := 2) (nj := 2) (by decide) (by omega) (by decide +kernel) (by decide +kernel) (by decide +kernel) (by decide +kernel) (by decide +kernel) ?_
  refine z_call (rest := [.int r]) C hP hS hl.1 (f := f_Ref_forgets) (o := 12) (y := yX12_forgets) (ccM := cX12_forgets) (rt := (some .int)) (np := 2) (c0 := 13) rfl rfl (by decide) [xs (i + 1), xs (i + 2)] h2 (ix := 90) (List.mem_filter.mpr ⟨by decide +kernel, by decide +kernel⟩) rfl (Nat.le_of_ble_eq_true rfl) (by decide +kernel) (by omega) (by omega) (fun H locs hP hS => ?_)
  refine lv_icmp_eq (x := r) (y := r) (off := 872) (tgt := 1567) hx hb (by decide +kernel) (by decide) (fun _ => ?_) (fun h => absurd rfl h)
  exact W.widen (k := cells + 1) (n := slots + 6) (by omega) (by omega) (kk ov t2 H locs ls hl h3 hP hS)
set_option maxHeartbeats 4000000 in
set_option maxRecDepth 100000 in
theorem z_c14 (C : z_C p l s m meth c b L xs D tys cA ad qo hh adS adV sa fm) (hL : L ≤ 2560) (hi : i + 5 ≤ L) (hl : lv_has ls 8 (z_L b ad qo i)) (hP : va_P D vwCl (y_w cA ad qo ov t) H) (hS : va_S (z_A s) s.heap H locs) (hc : cells + 1 ≤ room_1.cells) (hs : slots + 6 ≤ room_1.slots) (hR : (z_R I f_Main_walk f_Ref_walk [] t k))
    (kk : ∀ (ov' : Nat → Int64) (t2 : xS) (H1 : Heap) (locs1 : List Loc) (ls' : Array Slot), lv_has ls' 8 (z_L b ad qo i) → I t2 (k + 1) → va_P D vwCl (y_w cA ad qo ov' t2) H1 → va_S (z_A s) s.heap H1 locs1 → W p l e room_1 s m #[Value.ref b] below meth c H1 locs1 (cells + 1) (slots + 6) Q (F0 m 1567 ls' [])) :
    W p l e room_1 s m #[Value.ref b] below meth c H locs cells slots Q (F0 m 700 ls []) := by
  obtain ⟨r, t1, t2, h1, h2, h3⟩ := hR
  have hx := C.1.1
  have hb := C.1.2.1
  refine lv_aload_n (k := 1) hx hb (by decide +kernel) rfl (lv_at hl 1 rfl) ?_
  refine z_call (rest := []) C hP hS hl.1 (f := f_Main_walk) (o := 11) (y := yX11_walk) (ccM := cX11_walk) (rt := (some .int)) (np := 0) (c0 := 0) rfl rfl (by decide) [] h1 (ix := 91) (List.mem_filter.mpr ⟨by decide +kernel, by decide +kernel⟩) rfl (Nat.le_of_ble_eq_true rfl) (by decide +kernel) (by omega) (by omega) (fun H locs hP hS => ?_)
  refine lv_aload_n (k := 2) hx hb (by decide +kernel) rfl (lv_at hl 2 rfl) ?_
  refine z_call (rest := [.int r]) C hP hS hl.1 (f := f_Ref_walk) (o := 12) (y := yX12_walk) (ccM := cX12_walk) (rt := (some .int)) (np := 0) (c0 := 13) rfl rfl (by decide) [] h2 (ix := 94) (List.mem_filter.mpr ⟨by decide +kernel, by decide +kernel⟩) rfl (Nat.le_of_ble_eq_true rfl) (by decide +kernel) (by omega) (by omega) (fun H locs hP hS => ?_)
  refine lv_icmp_eq (x := r) (y := r) (off := 859) (tgt := 1567) hx hb (by decide +kernel) (by decide) (fun _ => ?_) (fun h => absurd rfl h)
  exact W.widen (k := cells + 1) (n := slots + 6) (by omega) (by omega) (kk ov t2 H locs ls hl h3 hP hS)
set_option maxHeartbeats 4000000 in
set_option maxRecDepth 100000 in
theorem z_c15 (C : z_C p l s m meth c b L xs D tys cA ad qo hh adS adV sa fm) (hL : L ≤ 2560) (hi : i + 5 ≤ L) (hl : lv_has ls 8 (z_L b ad qo i)) (hP : va_P D vwCl (y_w cA ad qo ov t) H) (hS : va_S (z_A s) s.heap H locs) (hc : cells + 1 ≤ room_1.cells) (hs : slots + 6 ≤ room_1.slots) (hR : (z_R I f_Main_undo f_Ref_undo [] t k))
    (kk : ∀ (ov' : Nat → Int64) (t2 : xS) (H1 : Heap) (locs1 : List Loc) (ls' : Array Slot), lv_has ls' 8 (z_L b ad qo i) → I t2 (k + 1) → va_P D vwCl (y_w cA ad qo ov' t2) H1 → va_S (z_A s) s.heap H1 locs1 → W p l e room_1 s m #[Value.ref b] below meth c H1 locs1 (cells + 1) (slots + 6) Q (F0 m 1567 ls' [])) :
    W p l e room_1 s m #[Value.ref b] below meth c H locs cells slots Q (F0 m 713 ls []) := by
  obtain ⟨r, t1, t2, h1, h2, h3⟩ := hR
  have hx := C.1.1
  have hb := C.1.2.1
  refine lv_aload_n (k := 1) hx hb (by decide +kernel) rfl (lv_at hl 1 rfl) ?_
  refine z_call (rest := []) C hP hS hl.1 (f := f_Main_undo) (o := 11) (y := yX11_undo) (ccM := cX11_undo) (rt := (some .int)) (np := 0) (c0 := 0) rfl rfl (by decide) [] h1 (ix := 95) (List.mem_filter.mpr ⟨by decide +kernel, by decide +kernel⟩) rfl (Nat.le_of_ble_eq_true rfl) (by decide +kernel) (by omega) (by omega) (fun H locs hP hS => ?_)
  refine lv_aload_n (k := 2) hx hb (by decide +kernel) rfl (lv_at hl 2 rfl) ?_
  refine z_call (rest := [.int r]) C hP hS hl.1 (f := f_Ref_undo) (o := 12) (y := yX12_undo) (ccM := cX12_undo) (rt := (some .int)) (np := 0) (c0 := 13) rfl rfl (by decide) [] h2 (ix := 98) (List.mem_filter.mpr ⟨by decide +kernel, by decide +kernel⟩) rfl (Nat.le_of_ble_eq_true rfl) (by decide +kernel) (by omega) (by omega) (fun H locs hP hS => ?_)
  refine lv_icmp_eq (x := r) (y := r) (off := 846) (tgt := 1567) hx hb (by decide +kernel) (by decide) (fun _ => ?_) (fun h => absurd rfl h)
  exact W.widen (k := cells + 1) (n := slots + 6) (by omega) (by omega) (kk ov t2 H locs ls hl h3 hP hS)
set_option maxHeartbeats 4000000 in
set_option maxRecDepth 100000 in
theorem z_c16 (C : z_C p l s m meth c b L xs D tys cA ad qo hh adS adV sa fm) (hL : L ≤ 2560) (hi : i + 5 ≤ L) (hl : lv_has ls 8 (z_L b ad qo i)) (hP : va_P D vwCl (y_w cA ad qo ov t) H) (hS : va_S (z_A s) s.heap H locs) (hc : cells + 1 ≤ room_1.cells) (hs : slots + 6 ≤ room_1.slots) (hR : (z_R I f_Main_sees f_Ref_sees [vI (xs (i + 1))] t k))
    (kk : ∀ (ov' : Nat → Int64) (t2 : xS) (H1 : Heap) (locs1 : List Loc) (ls' : Array Slot), lv_has ls' 8 (z_L b ad qo i) → I t2 (k + 1) → va_P D vwCl (y_w cA ad qo ov' t2) H1 → va_S (z_A s) s.heap H1 locs1 → W p l e room_1 s m #[Value.ref b] below meth c H1 locs1 (cells + 1) (slots + 6) Q (F0 m 1567 ls' [])) :
    W p l e room_1 s m #[Value.ref b] below meth c H locs cells slots Q (F0 m 726 ls []) := by
  obtain ⟨r, t1, t2, h1, h2, h3⟩ := hR
  have hx := C.1.1
  have hb := C.1.2.1
  refine lv_aload_n (k := 1) hx hb (by decide +kernel) rfl (lv_at hl 1 rfl) ?_
  refine z_arg C hl hS hL (j := 1) (nj := 1) (by decide) (by omega) (by decide +kernel) (by decide +kernel) (by decide +kernel) (by decide +kernel) (by decide +kernel) ?_
  refine z_call (rest := []) C hP hS hl.1 (f := f_Main_sees) (o := 11) (y := yX11_sees) (ccM := cX11_sees) (rt := (some .int)) (np := 1) (c0 := 0) rfl rfl (by decide) [xs (i + 1)] h1 (ix := 99) (List.mem_filter.mpr ⟨by decide +kernel, by decide +kernel⟩) rfl (Nat.le_of_ble_eq_true rfl) (by decide +kernel) (by omega) (by omega) (fun H locs hP hS => ?_)
  refine lv_aload_n (k := 2) hx hb (by decide +kernel) rfl (lv_at hl 2 rfl) ?_
  refine z_arg C hl hS hL (j := 1) (nj := 1) (by decide) (by omega) (by decide +kernel) (by decide +kernel) (by decide +kernel) (by decide +kernel) (by decide +kernel) ?_
  refine z_call (rest := [.int r]) C hP hS hl.1 (f := f_Ref_sees) (o := 12) (y := yX12_sees) (ccM := cX12_sees) (rt := (some .int)) (np := 1) (c0 := 13) rfl rfl (by decide) [xs (i + 1)] h2 (ix := 102) (List.mem_filter.mpr ⟨by decide +kernel, by decide +kernel⟩) rfl (Nat.le_of_ble_eq_true rfl) (by decide +kernel) (by omega) (by omega) (fun H locs hP hS => ?_)
  refine lv_icmp_eq (x := r) (y := r) (off := 821) (tgt := 1567) hx hb (by decide +kernel) (by decide) (fun _ => ?_) (fun h => absurd rfl h)
  exact W.widen (k := cells + 1) (n := slots + 6) (by omega) (by omega) (kk ov t2 H locs ls hl h3 hP hS)
set_option maxHeartbeats 4000000 in
set_option maxRecDepth 100000 in
theorem z_c17 (C : z_C p l s m meth c b L xs D tys cA ad qo hh adS adV sa fm) (hL : L ≤ 2560) (hi : i + 5 ≤ L) (hl : lv_has ls 8 (z_L b ad qo i)) (hP : va_P D vwCl (y_w cA ad qo ov t) H) (hS : va_S (z_A s) s.heap H locs) (hc : cells + 1 ≤ room_1.cells) (hs : slots + 6 ≤ room_1.slots) (hR : (z_R I f_Main_would f_Ref_would [vI (xs (i + 1)), vI (xs (i + 2)), vI (xs (i + 3))] t k))
    (kk : ∀ (ov' : Nat → Int64) (t2 : xS) (H1 : Heap) (locs1 : List Loc) (ls' : Array Slot), lv_has ls' 8 (z_L b ad qo i) → I t2 (k + 1) → va_P D vwCl (y_w cA ad qo ov' t2) H1 → va_S (z_A s) s.heap H1 locs1 → W p l e room_1 s m #[Value.ref b] below meth c H1 locs1 (cells + 1) (slots + 6) Q (F0 m 1567 ls' [])) :
    W p l e room_1 s m #[Value.ref b] below meth c H locs cells slots Q (F0 m 751 ls []) := by
  obtain ⟨r, t1, t2, h1, h2, h3⟩ := hR
  have hx := C.1.1
  have hb := C.1.2.1
  refine lv_aload_n (k := 1) hx hb (by decide +kernel) rfl (lv_at hl 1 rfl) ?_
  refine z_arg C hl hS hL (j := 1) (nj := 1) (by decide) (by omega) (by decide +kernel) (by decide +kernel) (by decide +kernel) (by decide +kernel) (by decide +kernel) ?_
  refine z_arg C hl hS hL (j := 2) (nj := 2) (by decide) (by omega) (by decide +kernel) (by decide +kernel) (by decide +kernel) (by decide +kernel) (by decide +kernel) ?_
  refine z_arg C hl hS hL (j := 3) (nj := 3) (by decide) (by omega) (by decide +kernel) (by decide +kernel) (by decide +kernel) (by decide +kernel) (by decide +kernel) ?_
  refine z_call (rest := []) C hP hS hl.1 (f := f_Main_would) (o := 11) (y := yX11_would) (ccM := cX11_would) (rt := (some .int)) (np := 3) (c0 := 0) rfl rfl (by decide) [xs (i + 1), xs (i + 2), xs (i + 3)] h1 (ix := 103) (List.mem_filter.mpr ⟨by decide +kernel, by decide +kernel⟩) rfl (Nat.le_of_ble_eq_true rfl) (by decide +kernel) (by omega) (by omega) (fun H locs hP hS => ?_)
  refine lv_aload_n (k := 2) hx hb (by decide +kernel) rfl (lv_at hl 2 rfl) ?_
  refine z_arg C hl hS hL (j := 1) (nj := 1) (by decide) (by omega) (by decide +kernel) (by decide +kernel) (by decide +kernel) (by decide +kernel) (by decide +kernel) ?_
  refine z_arg C hl hS hL (j := 2) (nj := 2) (by decide) (by omega) (by decide +kernel) (by decide +kernel) (by decide +kernel) (by decide +kernel) (by decide +kernel) ?_
  refine z_arg C hl hS hL (j := 3) (nj := 3) (by decide) (by omega) (by decide +kernel) (by decide +kernel) (by decide +kernel) (by decide +kernel) (by decide +kernel) ?_
  refine z_call (rest := [.int r]) C hP hS hl.1 (f := f_Ref_would) (o := 12) (y := yX12_would) (ccM := cX12_would) (rt := (some .int)) (np := 3) (c0 := 13) rfl rfl (by decide) [xs (i + 1), xs (i + 2), xs (i + 3)] h2 (ix := 107) (List.mem_filter.mpr ⟨by decide +kernel, by decide +kernel⟩) rfl (Nat.le_of_ble_eq_true rfl) (by decide +kernel) (by omega) (by omega) (fun H locs hP hS => ?_)
  refine lv_icmp_eq (x := r) (y := r) (off := 772) (tgt := 1567) hx hb (by decide +kernel) (by decide) (fun _ => ?_) (fun h => absurd rfl h)
  exact W.widen (k := cells + 1) (n := slots + 6) (by omega) (by omega) (kk ov t2 H locs ls hl h3 hP hS)
end LCASE

/-! The law's loop: its calls. Printed by genL.py. -/
section LCASE
variable {p : Program} {l : Launch} {e : Env} {s : State} {m : MethodId} {below : List Frame} {meth : Method} {c : Code} {H : Heap} {locs : List Loc} {cells slots : Nat} {Q : State → Prop} {D : va_G} {tys : List (ClassId × FieldType)} {cA : Nat → ClassId} {ad : Nat → Nat → Nat} {hh qo : Nat} {adS adV sa : Nat → Nat} {fm : Value} {b L i k : Nat} {xs : Nat → Int32} {ov : Nat → Int64} {t : xS} {ls : Array Slot} {rest : List Value} {pc : Nat} {I : xS → Nat → Prop}
set_option maxHeartbeats 4000000 in
set_option maxRecDepth 100000 in
theorem z_c42 (C : z_C p l s m meth c b L xs D tys cA ad qo hh adS adV sa fm) (hL : L ≤ 2560) (hi : i + 5 ≤ L) (hl : lv_has ls 8 (z_L b ad qo i)) (hP : va_P D vwCl (y_w cA ad qo ov t) H) (hS : va_S (z_A s) s.heap H locs) (hc : cells + 1 ≤ room_1.cells) (hs : slots + 6 ≤ room_1.slots) (hR : (z_R I f_Main_years f_Ref_years [vI (xs (i + 1)), vI (xs (i + 2))] t k))
    (kk : ∀ (ov' : Nat → Int64) (t2 : xS) (H1 : Heap) (locs1 : List Loc) (ls' : Array Slot), lv_has ls' 8 (z_L b ad qo i) → I t2 (k + 1) → va_P D vwCl (y_w cA ad qo ov' t2) H1 → va_S (z_A s) s.heap H1 locs1 → W p l e room_1 s m #[Value.ref b] below meth c H1 locs1 (cells + 1) (slots + 6) Q (F0 m 1567 ls' [])) :
    W p l e room_1 s m #[Value.ref b] below meth c H locs cells slots Q (F0 m 1400 ls []) := by
  obtain ⟨r, t1, t2, h1, h2, h3⟩ := hR
  have hx := C.1.1
  have hb := C.1.2.1
  refine lv_aload_n (k := 1) hx hb (by decide +kernel) rfl (lv_at hl 1 rfl) ?_
  refine z_arg C hl hS hL (j := 1) (nj := 1) (by decide) (by omega) (by decide +kernel) (by decide +kernel) (by decide +kernel) (by decide +kernel) (by decide +kernel) ?_
  refine z_arg C hl hS hL (j := 2) (nj := 2) (by decide) (by omega) (by decide +kernel) (by decide +kernel) (by decide +kernel) (by decide +kernel) (by decide +kernel) ?_
  refine z_call (rest := []) C hP hS hl.1 (f := f_Main_years) (o := 11) (y := yX11_years) (ccM := cX11_years) (rt := (some .int)) (np := 2) (c0 := 0) rfl rfl (by decide) [xs (i + 1), xs (i + 2)] h1 (ix := 204) (List.mem_filter.mpr ⟨by decide +kernel, by decide +kernel⟩) rfl (Nat.le_of_ble_eq_true rfl) (by decide +kernel) (by omega) (by omega) (fun H locs hP hS => ?_)
  refine lv_aload_n (k := 2) hx hb (by decide +kernel) rfl (lv_at hl 2 rfl) ?_
  refine z_arg C hl hS hL (j := 1) (nj := 1) (by decide) (by omega) (by decide +kernel) (by decide +kernel) (by decide +kernel) (by decide +kernel) (by decide +kernel) ?_
  refine z_arg C hl hS hL (j := 2) (nj := 2) (by decide) (by omega) (by decide +kernel) (by decide +kernel) (by decide +kernel) (by decide +kernel) (by decide +kernel) ?_
  refine z_call (rest := [.int r]) C hP hS hl.1 (f := f_Ref_years) (o := 12) (y := yX12_years) (ccM := cX12_years) (rt := (some .int)) (np := 2) (c0 := 13) rfl rfl (by decide) [xs (i + 1), xs (i + 2)] h2 (ix := 207) (List.mem_filter.mpr ⟨by decide +kernel, by decide +kernel⟩) rfl (Nat.le_of_ble_eq_true rfl) (by decide +kernel) (by omega) (by omega) (fun H locs hP hS => ?_)
  refine lv_icmp_eq (x := r) (y := r) (off := 135) (tgt := 1567) hx hb (by decide +kernel) (by decide) (fun _ => ?_) (fun h => absurd rfl h)
  exact W.widen (k := cells + 1) (n := slots + 6) (by omega) (by omega) (kk ov t2 H locs ls hl h3 hP hS)
set_option maxHeartbeats 4000000 in
set_option maxRecDepth 100000 in
theorem z_c43 (C : z_C p l s m meth c b L xs D tys cA ad qo hh adS adV sa fm) (hL : L ≤ 2560) (hi : i + 5 ≤ L) (hl : lv_has ls 8 (z_L b ad qo i)) (hP : va_P D vwCl (y_w cA ad qo ov t) H) (hS : va_S (z_A s) s.heap H locs) (hc : cells + 1 ≤ room_1.cells) (hs : slots + 6 ≤ room_1.slots) (hR : (z_R I f_Main_keep f_Ref_keep [vI (xs (i + 1))] t k))
    (kk : ∀ (ov' : Nat → Int64) (t2 : xS) (H1 : Heap) (locs1 : List Loc) (ls' : Array Slot), lv_has ls' 8 (z_L b ad qo i) → I t2 (k + 1) → va_P D vwCl (y_w cA ad qo ov' t2) H1 → va_S (z_A s) s.heap H1 locs1 → W p l e room_1 s m #[Value.ref b] below meth c H1 locs1 (cells + 1) (slots + 6) Q (F0 m 1567 ls' [])) :
    W p l e room_1 s m #[Value.ref b] below meth c H locs cells slots Q (F0 m 1437 ls []) := by
  obtain ⟨r, t1, t2, h1, h2, h3⟩ := hR
  have hx := C.1.1
  have hb := C.1.2.1
  refine lv_aload_n (k := 1) hx hb (by decide +kernel) rfl (lv_at hl 1 rfl) ?_
  refine z_arg C hl hS hL (j := 1) (nj := 1) (by decide) (by omega) (by decide +kernel) (by decide +kernel) (by decide +kernel) (by decide +kernel) (by decide +kernel) ?_
  refine z_call (rest := []) C hP hS hl.1 (f := f_Main_keep) (o := 11) (y := yX11_keep) (ccM := cX11_keep) (rt := (some .boolean)) (np := 1) (c0 := 0) rfl rfl (by decide) [xs (i + 1)] h1 (ix := 208) (List.mem_filter.mpr ⟨by decide +kernel, by decide +kernel⟩) rfl (Nat.le_of_ble_eq_true rfl) (by decide +kernel) (by omega) (by omega) (fun H locs hP hS => ?_)
  refine lv_aload_n (k := 2) hx hb (by decide +kernel) rfl (lv_at hl 2 rfl) ?_
  refine z_arg C hl hS hL (j := 1) (nj := 1) (by decide) (by omega) (by decide +kernel) (by decide +kernel) (by decide +kernel) (by decide +kernel) (by decide +kernel) ?_
  refine z_call (rest := [.int r]) C hP hS hl.1 (f := f_Ref_keep) (o := 12) (y := yX12_keep) (ccM := cX12_keep) (rt := (some .boolean)) (np := 1) (c0 := 13) rfl rfl (by decide) [xs (i + 1)] h2 (ix := 211) (List.mem_filter.mpr ⟨by decide +kernel, by decide +kernel⟩) rfl (Nat.le_of_ble_eq_true rfl) (by decide +kernel) (by omega) (by omega) (fun H locs hP hS => ?_)
  refine lv_icmp_eq (x := r) (y := r) (off := 110) (tgt := 1567) hx hb (by decide +kernel) (by decide) (fun _ => ?_) (fun h => absurd rfl h)
  exact W.widen (k := cells + 1) (n := slots + 6) (by omega) (by omega) (kk ov t2 H locs ls hl h3 hP hS)
set_option maxHeartbeats 4000000 in
set_option maxRecDepth 100000 in
theorem z_c44 (C : z_C p l s m meth c b L xs D tys cA ad qo hh adS adV sa fm) (hL : L ≤ 2560) (hi : i + 5 ≤ L) (hl : lv_has ls 8 (z_L b ad qo i)) (hP : va_P D vwCl (y_w cA ad qo ov t) H) (hS : va_S (z_A s) s.heap H locs) (hc : cells + 1 ≤ room_1.cells) (hs : slots + 6 ≤ room_1.slots) (hR : (z_R I f_Main_again f_Ref_again [vI (xs (i + 1))] t k))
    (kk : ∀ (ov' : Nat → Int64) (t2 : xS) (H1 : Heap) (locs1 : List Loc) (ls' : Array Slot), lv_has ls' 8 (z_L b ad qo i) → I t2 (k + 1) → va_P D vwCl (y_w cA ad qo ov' t2) H1 → va_S (z_A s) s.heap H1 locs1 → W p l e room_1 s m #[Value.ref b] below meth c H1 locs1 (cells + 1) (slots + 6) Q (F0 m 1567 ls' [])) :
    W p l e room_1 s m #[Value.ref b] below meth c H locs cells slots Q (F0 m 1462 ls []) := by
  obtain ⟨r, t1, t2, h1, h2, h3⟩ := hR
  have hx := C.1.1
  have hb := C.1.2.1
  refine lv_aload_n (k := 1) hx hb (by decide +kernel) rfl (lv_at hl 1 rfl) ?_
  refine z_arg C hl hS hL (j := 1) (nj := 1) (by decide) (by omega) (by decide +kernel) (by decide +kernel) (by decide +kernel) (by decide +kernel) (by decide +kernel) ?_
  refine z_call (rest := []) C hP hS hl.1 (f := f_Main_again) (o := 11) (y := yX11_again) (ccM := cX11_again) (rt := (some .boolean)) (np := 1) (c0 := 0) rfl rfl (by decide) [xs (i + 1)] h1 (ix := 212) (List.mem_filter.mpr ⟨by decide +kernel, by decide +kernel⟩) rfl (Nat.le_of_ble_eq_true rfl) (by decide +kernel) (by omega) (by omega) (fun H locs hP hS => ?_)
  refine lv_aload_n (k := 2) hx hb (by decide +kernel) rfl (lv_at hl 2 rfl) ?_
  refine z_arg C hl hS hL (j := 1) (nj := 1) (by decide) (by omega) (by decide +kernel) (by decide +kernel) (by decide +kernel) (by decide +kernel) (by decide +kernel) ?_
  refine z_call (rest := [.int r]) C hP hS hl.1 (f := f_Ref_again) (o := 12) (y := yX12_again) (ccM := cX12_again) (rt := (some .boolean)) (np := 1) (c0 := 13) rfl rfl (by decide) [xs (i + 1)] h2 (ix := 215) (List.mem_filter.mpr ⟨by decide +kernel, by decide +kernel⟩) rfl (Nat.le_of_ble_eq_true rfl) (by decide +kernel) (by omega) (by omega) (fun H locs hP hS => ?_)
  refine lv_icmp_eq (x := r) (y := r) (off := 85) (tgt := 1567) hx hb (by decide +kernel) (by decide) (fun _ => ?_) (fun h => absurd rfl h)
  exact W.widen (k := cells + 1) (n := slots + 6) (by omega) (by omega) (kk ov t2 H locs ls hl h3 hP hS)
set_option maxHeartbeats 4000000 in
set_option maxRecDepth 100000 in
theorem z_c45 (C : z_C p l s m meth c b L xs D tys cA ad qo hh adS adV sa fm) (hL : L ≤ 2560) (hi : i + 5 ≤ L) (hl : lv_has ls 8 (z_L b ad qo i)) (hP : va_P D vwCl (y_w cA ad qo ov t) H) (hS : va_S (z_A s) s.heap H locs) (hc : cells + 1 ≤ room_1.cells) (hs : slots + 6 ≤ room_1.slots) (hR : (z_R I f_Main_count f_Ref_count [vI (xs (i + 1))] t k))
    (kk : ∀ (ov' : Nat → Int64) (t2 : xS) (H1 : Heap) (locs1 : List Loc) (ls' : Array Slot), lv_has ls' 8 (z_L b ad qo i) → I t2 (k + 1) → va_P D vwCl (y_w cA ad qo ov' t2) H1 → va_S (z_A s) s.heap H1 locs1 → W p l e room_1 s m #[Value.ref b] below meth c H1 locs1 (cells + 1) (slots + 6) Q (F0 m 1567 ls' [])) :
    W p l e room_1 s m #[Value.ref b] below meth c H locs cells slots Q (F0 m 1487 ls []) := by
  obtain ⟨r, t1, t2, h1, h2, h3⟩ := hR
  have hx := C.1.1
  have hb := C.1.2.1
  refine lv_aload_n (k := 1) hx hb (by decide +kernel) rfl (lv_at hl 1 rfl) ?_
  refine z_arg C hl hS hL (j := 1) (nj := 1) (by decide) (by omega) (by decide +kernel) (by decide +kernel) (by decide +kernel) (by decide +kernel) (by decide +kernel) ?_
  refine z_call (rest := []) C hP hS hl.1 (f := f_Main_count) (o := 11) (y := yX11_count) (ccM := cX11_count) (rt := (some .int)) (np := 1) (c0 := 0) rfl rfl (by decide) [xs (i + 1)] h1 (ix := 216) (List.mem_filter.mpr ⟨by decide +kernel, by decide +kernel⟩) rfl (Nat.le_of_ble_eq_true rfl) (by decide +kernel) (by omega) (by omega) (fun H locs hP hS => ?_)
  refine lv_aload_n (k := 2) hx hb (by decide +kernel) rfl (lv_at hl 2 rfl) ?_
  refine z_arg C hl hS hL (j := 1) (nj := 1) (by decide) (by omega) (by decide +kernel) (by decide +kernel) (by decide +kernel) (by decide +kernel) (by decide +kernel) ?_
  refine z_call (rest := [.int r]) C hP hS hl.1 (f := f_Ref_count) (o := 12) (y := yX12_count) (ccM := cX12_count) (rt := (some .int)) (np := 1) (c0 := 13) rfl rfl (by decide) [xs (i + 1)] h2 (ix := 219) (List.mem_filter.mpr ⟨by decide +kernel, by decide +kernel⟩) rfl (Nat.le_of_ble_eq_true rfl) (by decide +kernel) (by omega) (by omega) (fun H locs hP hS => ?_)
  refine lv_icmp_eq (x := r) (y := r) (off := 60) (tgt := 1567) hx hb (by decide +kernel) (by decide) (fun _ => ?_) (fun h => absurd rfl h)
  exact W.widen (k := cells + 1) (n := slots + 6) (by omega) (by omega) (kk ov t2 H locs ls hl h3 hP hS)
end LCASE

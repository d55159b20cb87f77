/-! The law's calls of field, pram and row. Printed by genT.py. -/
section LTHR
variable {p : Program} {l : Launch} {e : Env} {s : State} {m : MethodId} {below : List Frame} {meth : Method} {c : Code} {H : Heap} {locs : List Loc} {cells slots : Nat} {Q : State → Prop} {D : va_G} {tys : List (ClassId × FieldType)} {cA : Nat → ClassId} {ad : Nat → Nat → Nat} {hh qo : Nat} {adS adV sa : Nat → Nat} {fm : Value} {b L i k : Nat} {xs : Nat → Int32} {ov : Nat → Int64} {t : xS} {ls : Array Slot} {rest : List Value} {pc : Nat} {I : xS → Nat → Prop}
/-- both answer alike, or the class refuses and the law's flag is 1 -/
def z_RT {α : Type} (g : α → xV) (I : xS → Nat → Prop) (fc fr : Nat) (as : List xV) (bad : Prop) (t : xS) (k : Nat) : Prop :=
  (∃ r t2, ev 100 fc (vR 0 0 :: as) t = some (some (g r), t) ∧ ev 100 fr (vR 13 0 :: as) t = some (some (g r), t2) ∧ t2.1 13 0 0 = 0 ∧ I t2 (k + 1)) ∨
  ∃ r t2, bad ∧ ev 100 fr (vR 13 0 :: as) t = some (some (g r), t2) ∧ t2.1 13 0 0 = 1 ∧ I t2 (k + 1)
set_option maxRecDepth 100000 in
theorem z_thr (s : xS) : ev 100 f_Ref_thrown [vR 13 0] s = some (some (vI (s.1 13 0 0)), s) := (x_adv_out (K := x_K) (P := x_Pr) (d := 100) (M := tb_Ref_thrown) [] 6 (x_st0 tb_Ref_thrown [vR 13 0] s)).symm
theorem z_D2 (C : z_C p l s m meth c b L xs D tys cA ad qo hh adS adV sa fm) : va_D (y_A2 ad qo) (y_w cA ad qo ov t) := by
  have h := C.2.2.2.2.2.2.1 ov t
  refine ⟨h.1, fun j q hj => ?_⟩
  cases j with
  | zero =>
    have e : y_O cA qo ov = q := Option.some.inj hj
    rw [← e]; exact Or.inl rfl
  | succ j =>
    have hj : (x_ws x_K cA ad t x_Cl)[j]? = some q := hj
    unfold x_ws at hj
    rw [List.getElem?_map] at hj
    obtain ⟨z, hz, e⟩ := Option.map_eq_some_iff.mp hj
    rw [← e]
    exact Or.inr ⟨z, List.mem_of_getElem? hz, rfl⟩
theorem z_stc (C : z_C p l s m meth c b L xs D tys cA ad qo hh adS adV sa fm) (hP : va_P D vwCl (y_w cA ad qo ov t) H) (hS : va_S (z_A s) s.heap H locs) (hls : ls.size = 8) {y : MethodName} {ccM : ByteArray} {nL : Nat} {hd : List (Nat × Nat × Nat × Nat)} {post : Int32 → (Nat → Int64) → Prop} {As st : List Value} {n ix : Nat}
    (hM : Met l y (Cond.codeWith y ccM nL (some .int) hd :: x_Ts) { frames := 120, cells := 1, slots := 6, locals := 6000 } (z_Pc D tys cA ad qo ov t (y_EX (y_A2 ad qo) hh adS adV fm sa) As) (z_Qc D cA ad qo t post) 1 6 (y_A2 ad qo))
    (w1 : Cond.methodLink RL ix y ∈ x_Ts) (w2 : Cond.static y ∈ x_Ts) (w3 : Cond.initialized y.cls ∈ x_Ts) (w4 : Cond.codeWith y ccM nL (some .int) hd ∈ x_Ts) (hnL : nL ≤ 8)
    (hyd : y.cls ≠ "java/lang/invoke/MethodHandle" ∧ y.cls ≠ "java/lang/invoke/VarHandle" ∧ (parseMethodDescriptor y.desc).map (fun d => d.parameters.length) = some n) (hlen : As.length = n) (hst : st = As.reverse ++ []) (hdg : decode code pc = .ok (.invokestatic ix, 3)) (hc : cells + 1 ≤ room_1.cells) (hs : slots + 6 ≤ room_1.slots)
    (kk : ∀ (r : Int32) (ov' : Nat → Int64) (H1 : Heap) (locs1 : List Loc), post r ov' → va_P D vwCl (y_w cA ad qo ov' t) H1 → va_S (z_A s) s.heap H1 locs1 → W p l e room_1 s m #[Value.ref b] below meth c H1 locs1 (cells + 1) (slots + 6) Q (F0 m (pc + 3) ls [.int r])) :
    W p l e room_1 s m #[Value.ref b] below meth c H locs cells slots Q (F0 m pc ls st) := by
  subst hst
  have C' := C
  obtain ⟨⟨hx, hb, hr, hml, hlocks⟩, ⟨hown, hts⟩, ⟨hX, hbl⟩, hK, hE, hw, hD, hl⟩ := C'
  have hG : GoodIn x_Ts (va_wsS RL ix y (Cond.codeWith y ccM nL (some .int) hd :: x_Ts)) := fun z hz => by
    have h : z ∈ x_Ts := by
      unfold va_wsS at hz
      rcases List.mem_append.mp hz with h | h
      · simp only [List.mem_cons, List.not_mem_nil, or_false] at h
        rcases h with rfl | rfl | rfl
        · exact w1
        · exact w2
        · exact w3
      · rcases List.mem_cons.mp h with h | h
        · rw [h]; exact w4
        · exact h
    exact ⟨h, x_Fm_ok.1 _ h⟩
  have hfr : ∀ q, y_A2 ad qo q → z_A s q := z_A2 C
  refine va_calli (vx_runSW (As := As) (rest := []) (n := n) ⟨hx, hb, hml, hown, hts⟩ hM (vx_cwSW n hts hG rfl rfl rfl hyd ⟨Nat.le_of_ble_eq_true rfl, by show 8 + (nL + 11) + 6000 ≤ 84000; omega⟩) ⟨fun a U g mk q => ?_, fun U hU hW => ?_⟩ rfl hlen hls rfl (lv_room (Nat.le_of_ble_eq_true rfl)) hdg ⟨hc, hs⟩) hS (fun q _ h => hfr q h) hfr (fun r ov' t1 H1 locs1 ht hvm hw hB hz hk hS1 => ?_)
  · exact ⟨q.1, q.2.1, va_K.moved (u := U) (U := U.calling g mk a) (Vm.Alike.refl U.vm) q.2.2.1, y_EX_m q.2.2.2 (Or.inr rfl) (Nat.le_refl _) (fun _ _ _ => rfl)⟩
  · exact ⟨rfl, by rw [hU]; exact hP, va_K.moved hW.alike hK, y_EX_sub (y_EX_m hE (Or.inl hW) (by rw [hU]; exact hS.1) (fun q z1 z2 => by rw [hU]; exact hS.2.1 q z1 z2)) hfr⟩
  · rw [ht] at hB
    exact kk r ov' H1 locs1 hw hB hS1
set_option maxHeartbeats 4000000 in
set_option maxRecDepth 100000 in
theorem z_c5 (C : z_C p l s m meth c b L xs D tys cA ad qo hh adS adV sa fm) (hL : L ≤ 2560) (hi : i + 5 ≤ L) (hl : lv_has ls 8 (z_L b ad qo i)) (hP : va_P D vwCl (y_w cA ad qo ov t) H) (hS : va_S (z_A s) s.heap H locs) (hc : cells + 1 ≤ room_1.cells) (hs : slots + 6 ≤ room_1.slots) (hR : z_RT vI I f_Main_field f_Ref_field [vI (xs (i + 1))] (ev 9 f_Garden_has [vR 2 0, vI (xs (i + 1))] t = some (some (vI 0), t)) t k)
    (kk : ∀ (ov' : Nat → Int64) (t2 : xS) (H1 : Heap) (locs1 : List Loc) (ls' : Array Slot), lv_has ls' 8 (z_L b ad qo i) → I t2 (k + 1) → va_P D vwCl (y_w cA ad qo ov' t2) H1 → va_S (z_A s) s.heap H1 locs1 → W p l e room_1 s m #[Value.ref b] below meth c H1 locs1 (cells + 1) (slots + 6) Q (F0 m 1567 ls' [])) :
    W p l e room_1 s m #[Value.ref b] below meth c H locs cells slots Q (F0 m 329 ls []) := by
  have hx := C.1.1
  have hb := C.1.2.1
  have hK := C.2.2.2.1
  have hw := C.2.2.2.2.2.1
  have hlt := C.2.2.2.2.2.2.2
  refine lv_aload_n (k := 1) hx hb (by decide +kernel) rfl (lv_at hl 1 rfl) ?_
  refine z_arg C hl hS hL (j := 1) (nj := 1) (by decide) (by omega) (by decide +kernel) (by decide +kernel) (by decide +kernel) (by decide +kernel) (by decide +kernel) ?_
  refine lv_aload_n (k := 3) hx hb (by decide +kernel) rfl (lv_at hl 3 rfl) ?_
  rcases hR with ⟨r, t2, h1, h2, h3, h4⟩ | ⟨r, t2, h1, h2, h3, h4⟩
  · refine z_stc C hP hS hl.1 (z_field_r hlt hw (z_D2 C) h1) (ix := 49) (n := 3) (List.mem_filter.mpr ⟨by decide +kernel, by decide +kernel⟩) (List.mem_filter.mpr ⟨by decide +kernel, by decide +kernel⟩) (List.mem_filter.mpr ⟨by decide +kernel, by decide +kernel⟩) (List.mem_filter.mpr ⟨by decide +kernel, by decide +kernel⟩) (by decide) (by decide +kernel) rfl rfl (by decide +kernel) (by omega) (by omega) (fun r0 ov' H locs hq hP hS => ?_)
    obtain ⟨rfl, hov⟩ := hq
    refine lv_istore (x := 0) (lv' := [(5, .int 0), (0, .ref b), (1, .ref (ad 0 0)), (2, .ref (ad 13 0)), (3, .ref qo), (4, .int (nI i))]) hx hb (by decide +kernel) hl (by decide) rfl (fun ls hl => ?_)
    refine lv_aload_n (k := 2) hx hb (by decide +kernel) rfl (lv_at hl 3 rfl) ?_
    refine z_arg C (lv_sub hl [1, 2, 3, 4, 5] rfl) hS hL (j := 1) (nj := 1) (by decide) (by omega) (by decide +kernel) (by decide +kernel) (by decide +kernel) (by decide +kernel) (by decide +kernel) ?_
    refine z_call (rest := []) C hP hS hl.1 (f := f_Ref_field) (o := 12) (y := yX12_field) (ccM := cX12_field) (rt := (some .int)) (np := 1) (c0 := 13) rfl rfl (by decide) [xs (i + 1)] h2 (ix := 54) (List.mem_filter.mpr ⟨by decide +kernel, by decide +kernel⟩) rfl (Nat.le_of_ble_eq_true rfl) (by decide +kernel) (by omega) (by omega) (fun H locs hP hS => ?_)
    refine lv_istore (x := r) (lv' := [(6, .int r), (5, .int 0), (0, .ref b), (1, .ref (ad 0 0)), (2, .ref (ad 13 0)), (3, .ref qo), (4, .int (nI i))]) hx hb (by decide +kernel) hl (by decide) rfl (fun ls hl => ?_)
    refine lv_aload_n (k := 2) hx hb (by decide +kernel) rfl (lv_at hl 4 rfl) ?_
    refine z_call (rest := []) C hP hS hl.1 (f := f_Ref_thrown) (o := 12) (y := yX12_thrown) (ccM := cX12_thrown) (rt := (some .int)) (np := 0) (c0 := 13) rfl rfl (by decide) [] (z_thr t2) (ix := 55) (List.mem_filter.mpr ⟨by decide +kernel, by decide +kernel⟩) rfl (Nat.le_of_ble_eq_true rfl) (by decide +kernel) (by omega) (by omega) (fun H locs hP hS => ?_)
    refine lv_iload hx hb (by decide +kernel) (lv_at hl 1 rfl) ?_
    refine lv_icmp_eq (x := t2.1 13 0 0) (y := 0) (off := 5) (tgt := 365) hx hb (by decide +kernel) (by decide) (fun _ => ?_) (fun h => absurd h3 h)
    refine lv_iload hx hb (by decide +kernel) (lv_at hl 1 rfl) ?_
    refine lv_if_ne (x := 0) (off := 15) (tgt := 382) hx hb (by decide +kernel) (by decide) (fun h => absurd rfl h) (fun _ => ?_)
    refine lv_aload_n (k := 3) hx hb (by decide +kernel) rfl (lv_at hl 5 rfl) ?_
    refine lv_iconst (n := 0) (v := 0) hx hb (by decide +kernel) (by decide) ?_
    refine va_lald hx hb hK hP 0 1 rfl (by rw [hw.2.2.1]; rfl) (i := 0) (by unfold vp_in; decide) (by decide +kernel) ?_
    refine lv_iload hx hb (by decide +kernel) (lv_at hl 0 rfl) ?_
    refine lv_i2l (x := r) (v := r.toInt64) hx hb (by decide +kernel) rfl ?_
    refine W.lcmp hx hb (by decide +kernel) ?_
    refine lv_if_eq (off := 5) (tgt := 382) hx hb (by decide +kernel) (by decide) (fun _ => ?_) (fun h => absurd ((lg_cmp_eq _ _).mpr (by rw [show (0 : Int32).toNatClampNeg = 0 from by decide]; exact hov)) h)
    refine lv_goto (off := 1185) (tgt := 1567) hx hb (by decide +kernel) (by decide) ?_
    exact kk ov' t2 H locs ls (lv_sub hl [2, 3, 4, 5, 6] rfl) h4 hP hS
  · refine z_stc C hP hS hl.1 (z_field_t hlt hw (z_D2 C) h1) (ix := 49) (n := 3) (List.mem_filter.mpr ⟨by decide +kernel, by decide +kernel⟩) (List.mem_filter.mpr ⟨by decide +kernel, by decide +kernel⟩) (List.mem_filter.mpr ⟨by decide +kernel, by decide +kernel⟩) (List.mem_filter.mpr ⟨by decide +kernel, by decide +kernel⟩) (by decide) (by decide +kernel) rfl rfl (by decide +kernel) (by omega) (by omega) (fun r0 ov' H locs hq hP hS => ?_)
    have hq : r0 = 1 := hq
    subst hq
    refine lv_istore (x := 1) (lv' := [(5, .int 1), (0, .ref b), (1, .ref (ad 0 0)), (2, .ref (ad 13 0)), (3, .ref qo), (4, .int (nI i))]) hx hb (by decide +kernel) hl (by decide) rfl (fun ls hl => ?_)
    refine lv_aload_n (k := 2) hx hb (by decide +kernel) rfl (lv_at hl 3 rfl) ?_
    refine z_arg C (lv_sub hl [1, 2, 3, 4, 5] rfl) hS hL (j := 1) (nj := 1) (by decide) (by omega) (by decide +kernel) (by decide +kernel) (by decide +kernel) (by decide +kernel) (by decide +kernel) ?_
    refine z_call (rest := []) C hP hS hl.1 (f := f_Ref_field) (o := 12) (y := yX12_field) (ccM := cX12_field) (rt := (some .int)) (np := 1) (c0 := 13) rfl rfl (by decide) [xs (i + 1)] h2 (ix := 54) (List.mem_filter.mpr ⟨by decide +kernel, by decide +kernel⟩) rfl (Nat.le_of_ble_eq_true rfl) (by decide +kernel) (by omega) (by omega) (fun H locs hP hS => ?_)
    refine lv_istore (x := r) (lv' := [(6, .int r), (5, .int 1), (0, .ref b), (1, .ref (ad 0 0)), (2, .ref (ad 13 0)), (3, .ref qo), (4, .int (nI i))]) hx hb (by decide +kernel) hl (by decide) rfl (fun ls hl => ?_)
    refine lv_aload_n (k := 2) hx hb (by decide +kernel) rfl (lv_at hl 4 rfl) ?_
    refine z_call (rest := []) C hP hS hl.1 (f := f_Ref_thrown) (o := 12) (y := yX12_thrown) (ccM := cX12_thrown) (rt := (some .int)) (np := 0) (c0 := 13) rfl rfl (by decide) [] (z_thr t2) (ix := 55) (List.mem_filter.mpr ⟨by decide +kernel, by decide +kernel⟩) rfl (Nat.le_of_ble_eq_true rfl) (by decide +kernel) (by omega) (by omega) (fun H locs hP hS => ?_)
    refine lv_iload hx hb (by decide +kernel) (lv_at hl 1 rfl) ?_
    refine lv_icmp_eq (x := t2.1 13 0 0) (y := 1) (off := 5) (tgt := 365) hx hb (by decide +kernel) (by decide) (fun _ => ?_) (fun h => absurd h3 h)
    refine lv_iload hx hb (by decide +kernel) (lv_at hl 1 rfl) ?_
    refine lv_if_ne (x := 1) (off := 15) (tgt := 382) hx hb (by decide +kernel) (by decide) (fun _ => ?_) (fun h => absurd h (by decide))
    refine lv_goto (off := 1185) (tgt := 1567) hx hb (by decide +kernel) (by decide) ?_
    exact kk ov' t2 H locs ls (lv_sub hl [2, 3, 4, 5, 6] rfl) h4 hP hS
set_option maxHeartbeats 4000000 in
set_option maxRecDepth 100000 in
theorem z_c6 (C : z_C p l s m meth c b L xs D tys cA ad qo hh adS adV sa fm) (hL : L ≤ 2560) (hi : i + 5 ≤ L) (hl : lv_has ls 8 (z_L b ad qo i)) (hP : va_P D vwCl (y_w cA ad qo ov t) H) (hS : va_S (z_A s) s.heap H locs) (hc : cells + 1 ≤ room_1.cells) (hs : slots + 6 ≤ room_1.slots) (hR : z_RT vI I f_Main_pram f_Ref_pram [vI (xs (i + 1)), vI (xs (i + 2))] (∃ r0 : Int32, ev 9 f_Outing_has [vR 3 0, vI (xs (i + 1))] t = some (some (vI r0), t) ∧ (r0 = 0 ∨ xs (i + 2) < 0 ∨ ¬ xs (i + 2) ≤ 4)) t k)
    (kk : ∀ (ov' : Nat → Int64) (t2 : xS) (H1 : Heap) (locs1 : List Loc) (ls' : Array Slot), lv_has ls' 8 (z_L b ad qo i) → I t2 (k + 1) → va_P D vwCl (y_w cA ad qo ov' t2) H1 → va_S (z_A s) s.heap H1 locs1 → W p l e room_1 s m #[Value.ref b] below meth c H1 locs1 (cells + 1) (slots + 6) Q (F0 m 1567 ls' [])) :
    W p l e room_1 s m #[Value.ref b] below meth c H locs cells slots Q (F0 m 385 ls []) := by
  have hx := C.1.1
  have hb := C.1.2.1
  have hK := C.2.2.2.1
  have hw := C.2.2.2.2.2.1
  have hlt := C.2.2.2.2.2.2.2
  refine lv_aload_n (k := 1) hx hb (by decide +kernel) rfl (lv_at hl 1 rfl) ?_
  refine z_arg C hl hS hL (j := 1) (nj := 1) (by decide) (by omega) (by decide +kernel) (by decide +kernel) (by decide +kernel) (by decide +kernel) (by decide +kernel) ?_
  refine z_arg C hl hS hL (j := 2) (nj := 2) (by decide) (by omega) (by decide +kernel) (by decide +kernel) (by decide +kernel) (by decide +kernel) (by decide +kernel) ?_
  refine lv_aload_n (k := 3) hx hb (by decide +kernel) rfl (lv_at hl 3 rfl) ?_
  rcases hR with ⟨r, t2, h1, h2, h3, h4⟩ | ⟨r, t2, h1, h2, h3, h4⟩
  · refine z_stc C hP hS hl.1 (z_pram_r hlt hw (z_D2 C) h1) (ix := 58) (n := 4) (List.mem_filter.mpr ⟨by decide +kernel, by decide +kernel⟩) (List.mem_filter.mpr ⟨by decide +kernel, by decide +kernel⟩) (List.mem_filter.mpr ⟨by decide +kernel, by decide +kernel⟩) (List.mem_filter.mpr ⟨by decide +kernel, by decide +kernel⟩) (by decide) (by decide +kernel) rfl rfl (by decide +kernel) (by omega) (by omega) (fun r0 ov' H locs hq hP hS => ?_)
    obtain ⟨rfl, hov⟩ := hq
    refine lv_istore (x := 0) (lv' := [(5, .int 0), (0, .ref b), (1, .ref (ad 0 0)), (2, .ref (ad 13 0)), (3, .ref qo), (4, .int (nI i))]) hx hb (by decide +kernel) hl (by decide) rfl (fun ls hl => ?_)
    refine lv_aload_n (k := 2) hx hb (by decide +kernel) rfl (lv_at hl 3 rfl) ?_
    refine z_arg C (lv_sub hl [1, 2, 3, 4, 5] rfl) hS hL (j := 1) (nj := 1) (by decide) (by omega) (by decide +kernel) (by decide +kernel) (by decide +kernel) (by decide +kernel) (by decide +kernel) ?_
    refine z_arg C (lv_sub hl [1, 2, 3, 4, 5] rfl) hS hL (j := 2) (nj := 2) (by decide) (by omega) (by decide +kernel) (by decide +kernel) (by decide +kernel) (by decide +kernel) (by decide +kernel) ?_
    refine z_call (rest := []) C hP hS hl.1 (f := f_Ref_pram) (o := 12) (y := yX12_pram) (ccM := cX12_pram) (rt := (some .int)) (np := 2) (c0 := 13) rfl rfl (by decide) [xs (i + 1), xs (i + 2)] h2 (ix := 61) (List.mem_filter.mpr ⟨by decide +kernel, by decide +kernel⟩) rfl (Nat.le_of_ble_eq_true rfl) (by decide +kernel) (by omega) (by omega) (fun H locs hP hS => ?_)
    refine lv_istore (x := r) (lv' := [(6, .int r), (5, .int 0), (0, .ref b), (1, .ref (ad 0 0)), (2, .ref (ad 13 0)), (3, .ref qo), (4, .int (nI i))]) hx hb (by decide +kernel) hl (by decide) rfl (fun ls hl => ?_)
    refine lv_aload_n (k := 2) hx hb (by decide +kernel) rfl (lv_at hl 4 rfl) ?_
    refine z_call (rest := []) C hP hS hl.1 (f := f_Ref_thrown) (o := 12) (y := yX12_thrown) (ccM := cX12_thrown) (rt := (some .int)) (np := 0) (c0 := 13) rfl rfl (by decide) [] (z_thr t2) (ix := 55) (List.mem_filter.mpr ⟨by decide +kernel, by decide +kernel⟩) rfl (Nat.le_of_ble_eq_true rfl) (by decide +kernel) (by omega) (by omega) (fun H locs hP hS => ?_)
    refine lv_iload hx hb (by decide +kernel) (lv_at hl 1 rfl) ?_
    refine lv_icmp_eq (x := t2.1 13 0 0) (y := 0) (off := 5) (tgt := 433) hx hb (by decide +kernel) (by decide) (fun _ => ?_) (fun h => absurd h3 h)
    refine lv_iload hx hb (by decide +kernel) (lv_at hl 1 rfl) ?_
    refine lv_if_ne (x := 0) (off := 15) (tgt := 450) hx hb (by decide +kernel) (by decide) (fun h => absurd rfl h) (fun _ => ?_)
    refine lv_aload_n (k := 3) hx hb (by decide +kernel) rfl (lv_at hl 5 rfl) ?_
    refine lv_iconst (n := 0) (v := 0) hx hb (by decide +kernel) (by decide) ?_
    refine va_lald hx hb hK hP 0 1 rfl (by rw [hw.2.2.1]; rfl) (i := 0) (by unfold vp_in; decide) (by decide +kernel) ?_
    refine lv_iload hx hb (by decide +kernel) (lv_at hl 0 rfl) ?_
    refine lv_i2l (x := r) (v := r.toInt64) hx hb (by decide +kernel) rfl ?_
    refine W.lcmp hx hb (by decide +kernel) ?_
    refine lv_if_eq (off := 5) (tgt := 450) hx hb (by decide +kernel) (by decide) (fun _ => ?_) (fun h => absurd ((lg_cmp_eq _ _).mpr (by rw [show (0 : Int32).toNatClampNeg = 0 from by decide]; exact hov)) h)
    refine lv_goto (off := 1117) (tgt := 1567) hx hb (by decide +kernel) (by decide) ?_
    exact kk ov' t2 H locs ls (lv_sub hl [2, 3, 4, 5, 6] rfl) h4 hP hS
  · obtain ⟨r1, hb1, hb2⟩ := h1
    refine z_stc C hP hS hl.1 (z_pram_t hlt hw (z_D2 C) hb1 hb2) (ix := 58) (n := 4) (List.mem_filter.mpr ⟨by decide +kernel, by decide +kernel⟩) (List.mem_filter.mpr ⟨by decide +kernel, by decide +kernel⟩) (List.mem_filter.mpr ⟨by decide +kernel, by decide +kernel⟩) (List.mem_filter.mpr ⟨by decide +kernel, by decide +kernel⟩) (by decide) (by decide +kernel) rfl rfl (by decide +kernel) (by omega) (by omega) (fun r0 ov' H locs hq hP hS => ?_)
    have hq : r0 = 1 := hq
    subst hq
    refine lv_istore (x := 1) (lv' := [(5, .int 1), (0, .ref b), (1, .ref (ad 0 0)), (2, .ref (ad 13 0)), (3, .ref qo), (4, .int (nI i))]) hx hb (by decide +kernel) hl (by decide) rfl (fun ls hl => ?_)
    refine lv_aload_n (k := 2) hx hb (by decide +kernel) rfl (lv_at hl 3 rfl) ?_
    refine z_arg C (lv_sub hl [1, 2, 3, 4, 5] rfl) hS hL (j := 1) (nj := 1) (by decide) (by omega) (by decide +kernel) (by decide +kernel) (by decide +kernel) (by decide +kernel) (by decide +kernel) ?_
    refine z_arg C (lv_sub hl [1, 2, 3, 4, 5] rfl) hS hL (j := 2) (nj := 2) (by decide) (by omega) (by decide +kernel) (by decide +kernel) (by decide +kernel) (by decide +kernel) (by decide +kernel) ?_
    refine z_call (rest := []) C hP hS hl.1 (f := f_Ref_pram) (o := 12) (y := yX12_pram) (ccM := cX12_pram) (rt := (some .int)) (np := 2) (c0 := 13) rfl rfl (by decide) [xs (i + 1), xs (i + 2)] h2 (ix := 61) (List.mem_filter.mpr ⟨by decide +kernel, by decide +kernel⟩) rfl (Nat.le_of_ble_eq_true rfl) (by decide +kernel) (by omega) (by omega) (fun H locs hP hS => ?_)
    refine lv_istore (x := r) (lv' := [(6, .int r), (5, .int 1), (0, .ref b), (1, .ref (ad 0 0)), (2, .ref (ad 13 0)), (3, .ref qo), (4, .int (nI i))]) hx hb (by decide +kernel) hl (by decide) rfl (fun ls hl => ?_)
    refine lv_aload_n (k := 2) hx hb (by decide +kernel) rfl (lv_at hl 4 rfl) ?_
    refine z_call (rest := []) C hP hS hl.1 (f := f_Ref_thrown) (o := 12) (y := yX12_thrown) (ccM := cX12_thrown) (rt := (some .int)) (np := 0) (c0 := 13) rfl rfl (by decide) [] (z_thr t2) (ix := 55) (List.mem_filter.mpr ⟨by decide +kernel, by decide +kernel⟩) rfl (Nat.le_of_ble_eq_true rfl) (by decide +kernel) (by omega) (by omega) (fun H locs hP hS => ?_)
    refine lv_iload hx hb (by decide +kernel) (lv_at hl 1 rfl) ?_
    refine lv_icmp_eq (x := t2.1 13 0 0) (y := 1) (off := 5) (tgt := 433) hx hb (by decide +kernel) (by decide) (fun _ => ?_) (fun h => absurd h3 h)
    refine lv_iload hx hb (by decide +kernel) (lv_at hl 1 rfl) ?_
    refine lv_if_ne (x := 1) (off := 15) (tgt := 450) hx hb (by decide +kernel) (by decide) (fun _ => ?_) (fun h => absurd h (by decide))
    refine lv_goto (off := 1117) (tgt := 1567) hx hb (by decide +kernel) (by decide) ?_
    exact kk ov' t2 H locs ls (lv_sub hl [2, 3, 4, 5, 6] rfl) h4 hP hS
set_option maxHeartbeats 4000000 in
set_option maxRecDepth 100000 in
theorem z_c46 (C : z_C p l s m meth c b L xs D tys cA ad qo hh adS adV sa fm) (hL : L ≤ 2560) (hi : i + 5 ≤ L) (hl : lv_has ls 8 (z_L b ad qo i)) (hP : va_P D vwCl (y_w cA ad qo ov t) H) (hS : va_S (z_A s) s.heap H locs) (hc : cells + 1 ≤ room_1.cells) (hs : slots + 6 ≤ room_1.slots) (hR : z_RT vL I f_Main_row f_Ref_row [vI (xs (i + 1))] (ev 9 f_Numbers_has [vR 10 0, vI (xs (i + 1))] t = some (some (vI 0), t)) t k)
    (kk : ∀ (ov' : Nat → Int64) (t2 : xS) (H1 : Heap) (locs1 : List Loc) (ls' : Array Slot), lv_has ls' 8 (z_L b ad qo i) → I t2 (k + 1) → va_P D vwCl (y_w cA ad qo ov' t2) H1 → va_S (z_A s) s.heap H1 locs1 → W p l e room_1 s m #[Value.ref b] below meth c H1 locs1 (cells + 1) (slots + 6) Q (F0 m 1567 ls' [])) :
    W p l e room_1 s m #[Value.ref b] below meth c H locs cells slots Q (F0 m 1512 ls []) := by
  have hx := C.1.1
  have hb := C.1.2.1
  have hK := C.2.2.2.1
  have hw := C.2.2.2.2.2.1
  have hlt := C.2.2.2.2.2.2.2
  refine lv_aload_n (k := 1) hx hb (by decide +kernel) rfl (lv_at hl 1 rfl) ?_
  refine z_arg C hl hS hL (j := 1) (nj := 1) (by decide) (by omega) (by decide +kernel) (by decide +kernel) (by decide +kernel) (by decide +kernel) (by decide +kernel) ?_
  refine lv_aload_n (k := 3) hx hb (by decide +kernel) rfl (lv_at hl 3 rfl) ?_
  rcases hR with ⟨r, t2, h1, h2, h3, h4⟩ | ⟨r, t2, h1, h2, h3, h4⟩
  · refine z_stc C hP hS hl.1 (z_row_r hlt hw (z_D2 C) h1) (ix := 220) (n := 3) (List.mem_filter.mpr ⟨by decide +kernel, by decide +kernel⟩) (List.mem_filter.mpr ⟨by decide +kernel, by decide +kernel⟩) (List.mem_filter.mpr ⟨by decide +kernel, by decide +kernel⟩) (List.mem_filter.mpr ⟨by decide +kernel, by decide +kernel⟩) (by decide) (by decide +kernel) rfl rfl (by decide +kernel) (by omega) (by omega) (fun r0 ov' H locs hq hP hS => ?_)
    obtain ⟨rfl, hov⟩ := hq
    refine lv_istore (x := 0) (lv' := [(5, .int 0), (0, .ref b), (1, .ref (ad 0 0)), (2, .ref (ad 13 0)), (3, .ref qo), (4, .int (nI i))]) hx hb (by decide +kernel) hl (by decide) rfl (fun ls hl => ?_)
    refine lv_aload_n (k := 2) hx hb (by decide +kernel) rfl (lv_at hl 3 rfl) ?_
    refine z_arg C (lv_sub hl [1, 2, 3, 4, 5] rfl) hS hL (j := 1) (nj := 1) (by decide) (by omega) (by decide +kernel) (by decide +kernel) (by decide +kernel) (by decide +kernel) (by decide +kernel) ?_
    refine z_call (rest := []) C hP hS hl.1 (f := f_Ref_row) (o := 12) (y := yX12_row) (ccM := cX12_row) (rt := (some .long)) (np := 1) (c0 := 13) rfl rfl (by decide) [xs (i + 1)] h2 (ix := 222) (List.mem_filter.mpr ⟨by decide +kernel, by decide +kernel⟩) rfl (Nat.le_of_ble_eq_true rfl) (by decide +kernel) (by omega) (by omega) (fun H locs hP hS => ?_)
    refine lv_lstore (x := r) (lv' := [(6, .long r), (5, .int 0), (0, .ref b), (1, .ref (ad 0 0)), (2, .ref (ad 13 0)), (3, .ref qo), (4, .int (nI i))]) hx hb (by decide +kernel) hl (by decide) rfl (fun ls hl => ?_)
    refine lv_aload_n (k := 2) hx hb (by decide +kernel) rfl (lv_at hl 4 rfl) ?_
    refine z_call (rest := []) C hP hS hl.1 (f := f_Ref_thrown) (o := 12) (y := yX12_thrown) (ccM := cX12_thrown) (rt := (some .int)) (np := 0) (c0 := 13) rfl rfl (by decide) [] (z_thr t2) (ix := 55) (List.mem_filter.mpr ⟨by decide +kernel, by decide +kernel⟩) rfl (Nat.le_of_ble_eq_true rfl) (by decide +kernel) (by omega) (by omega) (fun H locs hP hS => ?_)
    refine lv_iload hx hb (by decide +kernel) (lv_at hl 1 rfl) ?_
    refine lv_icmp_eq (x := t2.1 13 0 0) (y := 0) (off := 5) (tgt := 1548) hx hb (by decide +kernel) (by decide) (fun _ => ?_) (fun h => absurd h3 h)
    refine lv_iload hx hb (by decide +kernel) (lv_at hl 1 rfl) ?_
    refine lv_if_ne (x := 0) (off := 14) (tgt := 1564) hx hb (by decide +kernel) (by decide) (fun h => absurd rfl h) (fun _ => ?_)
    refine lv_aload_n (k := 3) hx hb (by decide +kernel) rfl (lv_at hl 5 rfl) ?_
    refine lv_iconst (n := 0) (v := 0) hx hb (by decide +kernel) (by decide) ?_
    refine va_lald hx hb hK hP 0 1 rfl (by rw [hw.2.2.1]; rfl) (i := 0) (by unfold vp_in; decide) (by decide +kernel) ?_
    refine lv_lload hx hb (by decide +kernel) (lv_at hl 0 rfl) ?_
    refine W.lcmp hx hb (by decide +kernel) ?_
    refine lv_if_eq (off := 5) (tgt := 1564) hx hb (by decide +kernel) (by decide) (fun _ => ?_) (fun h => absurd ((lg_cmp_eq _ _).mpr (by rw [show (0 : Int32).toNatClampNeg = 0 from by decide]; exact hov)) h)
    refine lv_goto (off := 3) (tgt := 1567) hx hb (by decide +kernel) (by decide) ?_
    exact kk ov' t2 H locs ls (lv_sub hl [2, 3, 4, 5, 6] rfl) h4 hP hS
  · refine z_stc C hP hS hl.1 (z_row_t hlt hw (z_D2 C) h1) (ix := 220) (n := 3) (List.mem_filter.mpr ⟨by decide +kernel, by decide +kernel⟩) (List.mem_filter.mpr ⟨by decide +kernel, by decide +kernel⟩) (List.mem_filter.mpr ⟨by decide +kernel, by decide +kernel⟩) (List.mem_filter.mpr ⟨by decide +kernel, by decide +kernel⟩) (by decide) (by decide +kernel) rfl rfl (by decide +kernel) (by omega) (by omega) (fun r0 ov' H locs hq hP hS => ?_)
    have hq : r0 = 1 := hq
    subst hq
    refine lv_istore (x := 1) (lv' := [(5, .int 1), (0, .ref b), (1, .ref (ad 0 0)), (2, .ref (ad 13 0)), (3, .ref qo), (4, .int (nI i))]) hx hb (by decide +kernel) hl (by decide) rfl (fun ls hl => ?_)
    refine lv_aload_n (k := 2) hx hb (by decide +kernel) rfl (lv_at hl 3 rfl) ?_
    refine z_arg C (lv_sub hl [1, 2, 3, 4, 5] rfl) hS hL (j := 1) (nj := 1) (by decide) (by omega) (by decide +kernel) (by decide +kernel) (by decide +kernel) (by decide +kernel) (by decide +kernel) ?_
    refine z_call (rest := []) C hP hS hl.1 (f := f_Ref_row) (o := 12) (y := yX12_row) (ccM := cX12_row) (rt := (some .long)) (np := 1) (c0 := 13) rfl rfl (by decide) [xs (i + 1)] h2 (ix := 222) (List.mem_filter.mpr ⟨by decide +kernel, by decide +kernel⟩) rfl (Nat.le_of_ble_eq_true rfl) (by decide +kernel) (by omega) (by omega) (fun H locs hP hS => ?_)
    refine lv_lstore (x := r) (lv' := [(6, .long r), (5, .int 1), (0, .ref b), (1, .ref (ad 0 0)), (2, .ref (ad 13 0)), (3, .ref qo), (4, .int (nI i))]) hx hb (by decide +kernel) hl (by decide) rfl (fun ls hl => ?_)
    refine lv_aload_n (k := 2) hx hb (by decide +kernel) rfl (lv_at hl 4 rfl) ?_
    refine z_call (rest := []) C hP hS hl.1 (f := f_Ref_thrown) (o := 12) (y := yX12_thrown) (ccM := cX12_thrown) (rt := (some .int)) (np := 0) (c0 := 13) rfl rfl (by decide) [] (z_thr t2) (ix := 55) (List.mem_filter.mpr ⟨by decide +kernel, by decide +kernel⟩) rfl (Nat.le_of_ble_eq_true rfl) (by decide +kernel) (by omega) (by omega) (fun H locs hP hS => ?_)
    refine lv_iload hx hb (by decide +kernel) (lv_at hl 1 rfl) ?_
    refine lv_icmp_eq (x := t2.1 13 0 0) (y := 1) (off := 5) (tgt := 1548) hx hb (by decide +kernel) (by decide) (fun _ => ?_) (fun h => absurd h3 h)
    refine lv_iload hx hb (by decide +kernel) (lv_at hl 1 rfl) ?_
    refine lv_if_ne (x := 1) (off := 14) (tgt := 1564) hx hb (by decide +kernel) (by decide) (fun _ => ?_) (fun h => absurd h (by decide))
    refine lv_goto (off := 3) (tgt := 1567) hx hb (by decide +kernel) (by decide) ?_
    exact kk ov' t2 H locs ls (lv_sub hl [2, 3, 4, 5, 6] rfl) h4 hP hS
end LTHR

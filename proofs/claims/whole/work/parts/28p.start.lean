/-! The law, from its entry. Printed by genS.py. -/
set_option maxHeartbeats 8000000 in
set_option maxRecDepth 100000 in
theorem z_start {p : Program} {e : Env} {s : State} {m : MethodId} {below : List Frame} {meth : Method} {c : Code} (l : Launch) (hlt : l.stackTraces = false) {b L : Nat} {xs : Nat → Int32} (hL : L ≤ 2560) (C0 : lw_At p s m meth c b L xs) {tG tR : xS} (hG1 : ev 6 f_Garden_link [vR 2 0] k_g0 = some (none, tG)) (hR1 : ev 6 f_Rule_setUsual [vR 5 0] x_z = some (none, tR)) {I : xS → Nat → Prop} (hJ : z_J I) (hI0 : I (z_t0 tG tR) 0) : W p l e room_1 s m #[Value.ref b] below meth c s.heap [] 0 0 (lw_Z below #[Value.ref b] s) (entryFrame m ([Value.ref b] : List Value).toArray 8) := by
  obtain ⟨hx, hb, hr, hml, hown, hts0, hX, hbl, hlocks, hgv⟩ := C0
  have hown : s.vm.findClass RL = some m.cls := hown
  have hts : ∀ w ∈ x_Ts, w.before #[Value.ref b] s = true := fun w h => hts0 w (List.mem_filter.mp h).1
  obtain ⟨hh, adS, adV, sa, fm, hE⟩ := z_ext hts0 (flat_of_before _ hgv)
  obtain ⟨D, cA, hK⟩ := z_K hts
  obtain ⟨tys, htys⟩ : ∃ tys : List (ClassId × FieldType), tys = [(cA 0, .int), (cA 1, .long), (cA 2, .boolean)] := ⟨_, rfl⟩
  rw [← htys] at hK
  have hA : ∀ q : Nat, s.heap.size ≤ q → z_A s q := fun _ h => h
  have hS : va_S (z_A s) s.heap s.heap [] := va_S.rf
  have hP : va_P D vwCl [] s.heap := fun k q h => by simp at h
  have hD : va_D (z_A s) [] := ⟨fun i j p q h => by simp at h, fun k q h => by simp at h⟩
  have hl := lv_entry ([.ref b]) (n := 8) (Nat.le_of_ble_eq_true rfl)
  rw [lg_entry_eq]
  generalize (lg_sl ([.ref b]) ++ List.replicate (8 - (lg_sl ([.ref b])).length) Slot.unset).toArray = ls at hl ⊢
  have hl : lv_has ls 8 [(0, .ref b)] := hl
  refine va_new (ci := 11) (fs := [.null, .null, .null, .null, .null, .null, .null, .null, .null, .null, .null, .null, .null, .null]) (C := RX11) (T := TX11) (N := 14) hx hb hts (x_uA x_uK11) tyX11 tyX11_ok hown (hts (.classLink RL 8 RX11) (List.mem_filter.mpr ⟨by decide +kernel, by decide +kernel⟩)) (hts (.instantiable RX11 14) (List.mem_filter.mpr ⟨by decide +kernel, by decide +kernel⟩)) (hts (.initialized RX11) (List.mem_filter.mpr ⟨by decide +kernel, by decide +kernel⟩)) hK hP hD hS hA rfl (fun j hj => by rcases (show j = 0 ∨ j = 1 ∨ j = 2 ∨ j = 3 ∨ j = 4 ∨ j = 5 ∨ j = 6 ∨ j = 7 ∨ j = 8 ∨ j = 9 ∨ j = 10 ∨ j = 11 ∨ j = 12 ∨ j = 13 by omega) with rfl | rfl | rfl | rfl | rfl | rfl | rfl | rfl | rfl | rfl | rfl | rfl | rfl | rfl <;> rfl) (Nat.le_of_ble_eq_true rfl) (Nat.le_of_ble_eq_true rfl) (by decide +kernel) (fun q0 H hP hD hS => ?_)
  refine lv_dup hx hb (by decide +kernel) rfl ?_
  refine k_init (As := []) (rest := [.ref q0]) hx hb hml hown hts hK hE.1 (fun _ h => h) hA (k_X11 htys hG1 hR1) ⟨rfl, rfl⟩ (n := 0) (List.mem_filter.mpr ⟨by decide +kernel, by decide +kernel⟩) (List.mem_filter.mpr ⟨by decide +kernel, by decide +kernel⟩) (List.mem_filter.mpr ⟨by decide +kernel, by decide +kernel⟩) rfl (by decide +kernel) (i := 23) (Or.inl (List.mem_filter.mpr ⟨by decide +kernel, by decide +kernel⟩)) ⟨(Nat.le_of_ble_eq_true rfl), (Nat.le_of_ble_eq_true rfl)⟩ rfl (Nat.le_of_ble_eq_true rfl) hl.1 (by decide +kernel) ⟨(Nat.le_of_ble_eq_true rfl), (Nat.le_of_ble_eq_true rfl)⟩ hP hD hS (fun u H locs hP hD hS => ?_)
  refine lv_astore_n (k := 1) (lv' := [(1, .ref q0), (0, .ref b)]) hx hb (by decide +kernel) rfl hl (by decide) rfl (fun ls hl => ?_)
  refine va_new (ci := 12) (fs := [.int 0, .int 0, .null, .int 0, .int 0, .null, .int 0, .int 0, .null, .null, .null, .int 0, .int 0, .int 0, .int 0, .null, .null, .int 0, .null, .null, .int 0, .int 0, .null, .null, .int 0, .int 0, .int 0, .null, .int 0, .int 0, .null, .null, .null, .int 0, .null, .null, .null, .null, .int 0, .int 0, .int 0, .null, .null, .null, .null, .int 0, .null, .int 0, .null, .null, .int 0, .int 0, .null, .null, .null, .int 0, .null, .null, .null, .null, .int 0, .null, .null, .null]) (C := RX12) (T := TX12) (N := 64) hx hb hts (x_uA x_uK12) tyX12 tyX12_ok hown (hts (.classLink RL 24 RX12) (List.mem_filter.mpr ⟨by decide +kernel, by decide +kernel⟩)) (hts (.instantiable RX12 64) (List.mem_filter.mpr ⟨by decide +kernel, by decide +kernel⟩)) (hts (.initialized RX12) (List.mem_filter.mpr ⟨by decide +kernel, by decide +kernel⟩)) hK hP hD hS hA rfl (fun j hj => by rcases (show j = 0 ∨ j = 1 ∨ j = 2 ∨ j = 3 ∨ j = 4 ∨ j = 5 ∨ j = 6 ∨ j = 7 ∨ j = 8 ∨ j = 9 ∨ j = 10 ∨ j = 11 ∨ j = 12 ∨ j = 13 ∨ j = 14 ∨ j = 15 ∨ j = 16 ∨ j = 17 ∨ j = 18 ∨ j = 19 ∨ j = 20 ∨ j = 21 ∨ j = 22 ∨ j = 23 ∨ j = 24 ∨ j = 25 ∨ j = 26 ∨ j = 27 ∨ j = 28 ∨ j = 29 ∨ j = 30 ∨ j = 31 ∨ j = 32 ∨ j = 33 ∨ j = 34 ∨ j = 35 ∨ j = 36 ∨ j = 37 ∨ j = 38 ∨ j = 39 ∨ j = 40 ∨ j = 41 ∨ j = 42 ∨ j = 43 ∨ j = 44 ∨ j = 45 ∨ j = 46 ∨ j = 47 ∨ j = 48 ∨ j = 49 ∨ j = 50 ∨ j = 51 ∨ j = 52 ∨ j = 53 ∨ j = 54 ∨ j = 55 ∨ j = 56 ∨ j = 57 ∨ j = 58 ∨ j = 59 ∨ j = 60 ∨ j = 61 ∨ j = 62 ∨ j = 63 by omega) with rfl | rfl | rfl | rfl | rfl | rfl | rfl | rfl | rfl | rfl | rfl | rfl | rfl | rfl | rfl | rfl | rfl | rfl | rfl | rfl | rfl | rfl | rfl | rfl | rfl | rfl | rfl | rfl | rfl | rfl | rfl | rfl | rfl | rfl | rfl | rfl | rfl | rfl | rfl | rfl | rfl | rfl | rfl | rfl | rfl | rfl | rfl | rfl | rfl | rfl | rfl | rfl | rfl | rfl | rfl | rfl | rfl | rfl | rfl | rfl | rfl | rfl | rfl | rfl <;> rfl) (Nat.le_of_ble_eq_true rfl) (Nat.le_of_ble_eq_true rfl) (by decide +kernel) (fun q1 H hP hD hS => ?_)
  refine lv_dup hx hb (by decide +kernel) rfl ?_
  refine k_init (As := []) (rest := [.ref q1]) hx hb hml hown hts hK hE.1 (fun _ h => h) hA (k_X12 htys) ⟨rfl, rfl⟩ (n := 0) (List.mem_filter.mpr ⟨by decide +kernel, by decide +kernel⟩) (List.mem_filter.mpr ⟨by decide +kernel, by decide +kernel⟩) (List.mem_filter.mpr ⟨by decide +kernel, by decide +kernel⟩) rfl (by decide +kernel) (i := 26) (Or.inl (List.mem_filter.mpr ⟨by decide +kernel, by decide +kernel⟩)) ⟨(Nat.le_of_ble_eq_true rfl), (Nat.le_of_ble_eq_true rfl)⟩ rfl (Nat.le_of_ble_eq_true rfl) hl.1 (by decide +kernel) ⟨(Nat.le_of_ble_eq_true rfl), (Nat.le_of_ble_eq_true rfl)⟩ hP hD hS (fun v H locs hP hD hS => ?_)
  refine lv_astore_n (k := 2) (lv' := [(2, .ref q1), (1, .ref q0), (0, .ref b)]) hx hb (by decide +kernel) rfl hl (by decide) rfl (fun ls hl => ?_)
  refine lv_iconst (n := 1) (v := 1) hx hb (by decide +kernel) (by decide) ?_
  refine k_new0 hx hb hts hK hA htys hP hD hS 1 (by decide) (n' := 1) (by decide) (by decide) (by decide) (Nat.le_of_ble_eq_true rfl) (Nat.le_of_ble_eq_true rfl) (by decide +kernel) (fun qo H hP hD hS => ?_)
  refine lv_astore_n (k := 3) (lv' := [(3, .ref qo), (2, .ref q1), (1, .ref q0), (0, .ref b)]) hx hb (by decide +kernel) rfl hl (by decide) rfl (fun ls hl => ?_)
  refine lv_iconst (n := 0) (v := 0) hx hb (by decide +kernel) (by decide) ?_
  refine lv_istore (lv' := [(4, .int 0), (3, .ref qo), (2, .ref q1), (1, .ref q0), (0, .ref b)]) hx hb (by decide +kernel) hl (by decide) rfl (fun ls hl => ?_)
  have hP : va_P D vwCl (z_w0 cA tG tR u v q0 q1 qo) H := hP
  have hD : va_D (z_A s) (z_w0 cA tG tR u v q0 q1 qo) := hD
  have hDD : ∀ ov t, va_D (z_A s) (y_w cA (z_ad u v q0 q1 hh adS) qo ov t) := z_w0_D hD
  have hP := z_w0_P (hh := hh) (adS := adS) hP
  refine W.widen (k := 100 + 0) (n := 40000 + 6 * 0) (Nat.le_of_ble_eq_true rfl) (Nat.le_of_ble_eq_true rfl) ?_
  exact z_loop (xs := xs) (L := L) (sa := sa) (fm := fm) (adV := adV) (hh := hh) (adS := adS) (ad := z_ad u v q0 q1 hh adS) (qo := qo) (D := D) (tys := tys) (cA := cA) (I := I) ⟨⟨hx, hb, hr, hml, hlocks⟩, ⟨hown, hts⟩, ⟨hX, hbl⟩, hK, hE, z_Wd htys hDD, hDD, hlt⟩ hL hJ (L + 5) 0 (by omega) (by omega) (fun _ => 0) (z_t0 tG tR) H locs ls hI0 hP hS (lv_sub hl [4, 3, 2, 1, 0] rfl)

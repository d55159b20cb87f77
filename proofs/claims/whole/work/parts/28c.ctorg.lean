/-! The garden's, the rule's and the notes' constructors. Printed by gen3.py's mk28c. -/
section CTORG
variable {l : Launch} {D : va_G} {tys : List (ClassId × FieldType)} {cA : Nat → ClassId} {A A0 : Nat → Prop} {hh : Nat} {adS adV : Nat → Nat} {fm : Value}
theorem va_D_fst {ws ws' : va_W} (h : va_D A ws) (e : ws.map Prod.fst = ws'.map Prod.fst) : va_D A ws' := by
  have key : ∀ (k : Nat) (q : Nat × va_E), ws'[k]? = some q → ∃ q', ws[k]? = some q' ∧ q'.1 = q.1 := by
    intro k q hk
    have h1 : (ws'.map Prod.fst)[k]? = some q.1 := by rw [List.getElem?_map, hk]; rfl
    rw [← e, List.getElem?_map] at h1
    cases hw : ws[k]? with
    | none => rw [hw] at h1; cases h1
    | some q' => rw [hw] at h1; exact ⟨q', rfl, Option.some.inj h1⟩
  refine ⟨fun i j x y hi hj hxy => ?_, fun k q hk => ?_⟩
  · obtain ⟨x', hx, ex⟩ := key i x hi
    obtain ⟨y', hy, ey⟩ := key j y hj
    exact h.1 i j x' y' hx hy (by rw [ex, ey, hxy])
  · obtain ⟨q', hq, e'⟩ := key k q hk
    rw [← e']; exact h.2 k q' hq
theorem x_ws_fst {ad : Nat → Nat → Nat} {t : xS} {Cl : List (Nat × Nat)} : (x_ws x_K cA ad t Cl).map Prod.fst = Cl.map (fun q => ad q.1 q.2) := by
  unfold x_ws; rw [List.map_map]; rfl
theorem x_inf_Pr {f o : Nat} {y : MethodName} {ccM : ByteArray} {ret : Option FieldType} {np : Nat} {stc : Bool} (h : x_inf f = some (o, y, ccM, ret, np, stc)) : ∃ M, x_Pr f = Sum.inr M := by
  cases e : x_Pr f with
  | inr M => exact ⟨M, rfl⟩
  | inl g =>
    have z : x_inf f = none := x_Fm_ok.2.2.1 f g e
    rw [h] at z; cases z
/-- three cells, the texts and the row of constants -/
def k_ad3 (hh : Nat) (adS : Nat → Nat) (c1 c2 c3 a1 a2 a3 : Nat) : Nat → Nat → Nat := fun c i => bif Nat.beq c c1 then a1 else bif Nat.beq c c2 then a2 else bif Nat.beq c c3 then a3 else bif Nat.beq c 900 then adS i else hh
def k_g0 : xS := (fun c _ => bif Nat.beq c 2 then fun k => [0, 0, 2, 2, 4].getD k 0 else fun _ => 0, fun _ _ _ => 0)
def k_F2 (t : xS) (u : Nat → Nat) : List Value := [.ref (u 0), .ref (u 1), .int (t.1 2 0 2), .int (t.1 2 0 3), .int (t.1 2 0 4)]
def k_G2 (cA : Nat → ClassId) (t : xS) (u : Nat → Nat) : va_W := [(u 0, .inl (cA 0, 36, .inl (t.1 15 0))), (u 1, .inl (cA 0, 144, .inl (t.1 16 0)))]
set_option maxHeartbeats 4000000 in
set_option maxRecDepth 100000 in
theorem k_X2 (htys : tys = [(cA 0, .int), (cA 1, .long), (cA 2, .boolean)]) {t : xS} (hev : ev 6 f_Garden_link [vR 2 0] k_g0 = some (none, t)) : k_Met l D tys A0 (x_EX A0 hh adS adV fm) yX2_init cX2_init 1 { frames := 10, cells := 2, slots := 180, locals := 500 } 2 180 2 [.null, .null, .int 0, .int 0, .int 0] [] (k_F2 t) (k_G2 cA t) := by
  refine k_ctor (C := RX2) (T := TX2) (N := 5) (ty0 := tyX2) (cA := cA) (i0 := 3) (by decide +kernel) rfl rfl (x_uA x_uK2) tyX2_ok nmX2 rfl htys (Nat.le_of_ble_eq_true rfl) (List.mem_filter.mpr ⟨by decide +kernel, by decide +kernel⟩) (by decide +kernel) (by decide +kernel) (by decide) (by decide) ?_
  intro h0 A p e s m args below meth c ls E hX hA0 hr hml hP hD hl
  have hS : va_S A s.heap s.heap [] := va_S.rf
  have h0L : ls[0]? = some (.val (.ref h0)) := lv_at hl 0 rfl
  refine k_arr E hP hD hS h0L (by decide +kernel) (pc2 := 7) (n := 36) (n' := 36) (Or.inr (Or.inl ⟨36, by decide +kernel, by decide +kernel, rfl⟩)) 0 (by decide) (by decide) (by decide +kernel) (by decide) (Nat.le_of_ble_eq_true rfl) (Nat.le_of_ble_eq_true rfl) (by decide +kernel) 0 (by decide) (Nat.le_of_ble_eq_true rfl) (idx := 9) (List.mem_filter.mpr ⟨by decide +kernel, by decide +kernel⟩) rfl (fun _ => rfl) (fun _ => rfl) (by decide +kernel) rfl rfl rfl (fun q0 H locs hP hD hS => ?_)
  refine k_arr E hP hD hS h0L (by decide +kernel) (pc2 := 16) (n := 144) (n' := 144) (Or.inr (Or.inr ⟨144, by decide +kernel, by decide +kernel, rfl⟩)) 0 (by decide) (by decide) (by decide +kernel) (by decide) (Nat.le_of_ble_eq_true rfl) (Nat.le_of_ble_eq_true rfl) (by decide +kernel) 1 (by decide) (Nat.le_of_ble_eq_true rfl) (idx := 15) (List.mem_filter.mpr ⟨by decide +kernel, by decide +kernel⟩) rfl (fun _ => rfl) (fun _ => rfl) (by decide +kernel) rfl rfl rfl (fun q1 H locs hP hD hS => ?_)
  refine k_num E hP hD hS h0L (by decide +kernel) (pc2 := 23) (n := 2) (Or.inl ⟨2, by decide +kernel, by decide +kernel, rfl⟩) 2 (by decide) (Nat.le_of_ble_eq_true rfl) (idx := 18) (List.mem_filter.mpr ⟨by decide +kernel, by decide +kernel⟩) rfl rfl rfl (by decide +kernel) rfl (fun H locs hP hD hS => ?_)
  refine k_num E hP hD hS h0L (by decide +kernel) (pc2 := 28) (n := 2) (Or.inl ⟨2, by decide +kernel, by decide +kernel, rfl⟩) 3 (by decide) (Nat.le_of_ble_eq_true rfl) (idx := 22) (List.mem_filter.mpr ⟨by decide +kernel, by decide +kernel⟩) rfl rfl rfl (by decide +kernel) rfl (fun H locs hP hD hS => ?_)
  refine k_num E hP hD hS h0L (by decide +kernel) (pc2 := 33) (n := 4) (Or.inl ⟨4, by decide +kernel, by decide +kernel, rfl⟩) 4 (by decide) (Nat.le_of_ble_eq_true rfl) (idx := 25) (List.mem_filter.mpr ⟨by decide +kernel, by decide +kernel⟩) rfl rfl rfl (by decide +kernel) rfl (fun H locs hP hD hS => ?_)
  refine lv_aload_n E.1 E.2.1 (k := 0) (by decide +kernel) rfl h0L ?_
  have hw : x_Wd cA (k_ad3 hh adS 2 15 16 h0 q0 q1) [(2, 0), (15, 0), (16, 0)] A tys hh adS := ⟨fun _ => rfl, fun _ => rfl, htys, fun t => va_D_fst hD (by rw [x_ws_fst]; rfl), x_Fx_ok (by decide +kernel) (by decide +kernel)⟩
  have hP : va_P D vwCl (x_ws x_K cA (k_ad3 hh adS 2 15 16 h0 q0 q1) k_g0 [(2, 0), (15, 0), (16, 0)]) H := hP
  have hI : x_inf f_Garden_link = some (2, yX2_link, cX2_link, none, 0, false) := rfl
  obtain ⟨M, hPr⟩ := x_inf_Pr hI
  refine k_run (rest := []) E.1 E.2.1 hml E.2.2.2.2.2.2.1 E.2.2.1 E.2.2.2.2.2.2.2.2.1 (x_EX_sub hX hA0) (fun _ h => h) hw hPr hI (c0 := 2) (i0 := 0) (as' := []) (fun v hv => by rw [List.mem_singleton.mp hv]; exact Or.inl (by decide)) hev (o := 2) rfl (i := 28) (List.mem_filter.mpr ⟨by decide +kernel, by decide +kernel⟩) (by decide) (by decide) rfl (by decide) (by decide +kernel) hP hS hl.1 (Nat.le_of_ble_eq_true rfl) (Nat.le_of_ble_eq_true rfl) (fun H locs hP hS _ _ => ?_)
  have hD : va_D A (x_ws x_K cA (k_ad3 hh adS 2 15 16 h0 q0 q1) t [(2, 0), (15, 0), (16, 0)]) := hw.2.2.2.1 t
  exact k_fin E hr hS (Nat.le_of_ble_eq_true rfl) (Nat.le_of_ble_eq_true rfl) (fun i => [q0, q1].getD i 0) hP hD (by decide +kernel)
def k_F8 (t : xS) (u : Nat → Nat) : List Value := [.ref (u 0), .ref (u 1), .int (t.1 5 0 2), .int (t.1 5 0 3), .int (t.1 5 0 4), .int (t.1 5 0 5), .int (t.1 5 0 6)]
def k_G8 (cA : Nat → ClassId) (t : xS) (u : Nat → Nat) : va_W := [(u 0, .inl (cA 0, 40, .inl (t.1 24 0))), (u 1, .inl (cA 0, 40, .inl (t.1 25 0)))]
set_option maxHeartbeats 4000000 in
set_option maxRecDepth 100000 in
theorem k_X8 (htys : tys = [(cA 0, .int), (cA 1, .long), (cA 2, .boolean)]) {t : xS} (hev : ev 6 f_Rule_setUsual [vR 5 0] x_z = some (none, t)) : k_Met l D tys A0 (x_EX A0 hh adS adV fm) yX8_init cX8_init 1 { frames := 10, cells := 2, slots := 80, locals := 500 } 2 80 8 [.null, .null, .int 0, .int 0, .int 0, .int 0, .int 0] [] (k_F8 t) (k_G8 cA t) := by
  refine k_ctor (C := RX8) (T := TX8) (N := 7) (ty0 := tyX8) (cA := cA) (i0 := 3) (by decide +kernel) rfl rfl (x_uA x_uK8) tyX8_ok nmX8 rfl htys (Nat.le_of_ble_eq_true rfl) (List.mem_filter.mpr ⟨by decide +kernel, by decide +kernel⟩) (by decide +kernel) (by decide +kernel) (by decide) (by decide) ?_
  intro h0 A p e s m args below meth c ls E hX hA0 hr hml hP hD hl
  have hS : va_S A s.heap s.heap [] := va_S.rf
  have h0L : ls[0]? = some (.val (.ref h0)) := lv_at hl 0 rfl
  refine k_arr E hP hD hS h0L (by decide +kernel) (pc2 := 7) (n := 40) (n' := 40) (Or.inr (Or.inl ⟨40, by decide +kernel, by decide +kernel, rfl⟩)) 0 (by decide) (by decide) (by decide +kernel) (by decide) (Nat.le_of_ble_eq_true rfl) (Nat.le_of_ble_eq_true rfl) (by decide +kernel) 0 (by decide) (Nat.le_of_ble_eq_true rfl) (idx := 11) (List.mem_filter.mpr ⟨by decide +kernel, by decide +kernel⟩) rfl (fun _ => rfl) (fun _ => rfl) (by decide +kernel) rfl rfl rfl (fun q0 H locs hP hD hS => ?_)
  refine k_arr E hP hD hS h0L (by decide +kernel) (pc2 := 15) (n := 40) (n' := 40) (Or.inr (Or.inl ⟨40, by decide +kernel, by decide +kernel, rfl⟩)) 0 (by decide) (by decide) (by decide +kernel) (by decide) (Nat.le_of_ble_eq_true rfl) (Nat.le_of_ble_eq_true rfl) (by decide +kernel) 1 (by decide) (Nat.le_of_ble_eq_true rfl) (idx := 15) (List.mem_filter.mpr ⟨by decide +kernel, by decide +kernel⟩) rfl (fun _ => rfl) (fun _ => rfl) (by decide +kernel) rfl rfl rfl (fun q1 H locs hP hD hS => ?_)
  refine lv_aload_n E.1 E.2.1 (k := 0) (by decide +kernel) rfl h0L ?_
  have hw : x_Wd cA (k_ad3 hh adS 5 24 25 h0 q0 q1) [(5, 0), (24, 0), (25, 0)] A tys hh adS := ⟨fun _ => rfl, fun _ => rfl, htys, fun t => va_D_fst hD (by rw [x_ws_fst]; rfl), x_Fx_ok (by decide +kernel) (by decide +kernel)⟩
  have hP : va_P D vwCl (x_ws x_K cA (k_ad3 hh adS 5 24 25 h0 q0 q1) x_z [(5, 0), (24, 0), (25, 0)]) H := hP
  have hI : x_inf f_Rule_setUsual = some (8, yX8_setUsual, cX8_setUsual, none, 0, false) := rfl
  obtain ⟨M, hPr⟩ := x_inf_Pr hI
  refine k_run (rest := []) E.1 E.2.1 hml E.2.2.2.2.2.2.1 E.2.2.1 E.2.2.2.2.2.2.2.2.1 (x_EX_sub hX hA0) (fun _ h => h) hw hPr hI (c0 := 5) (i0 := 0) (as' := []) (fun v hv => by rw [List.mem_singleton.mp hv]; exact Or.inl (by decide)) hev (o := 8) rfl (i := 18) (List.mem_filter.mpr ⟨by decide +kernel, by decide +kernel⟩) (by decide) (by decide) rfl (by decide) (by decide +kernel) hP hS hl.1 (Nat.le_of_ble_eq_true rfl) (Nat.le_of_ble_eq_true rfl) (fun H locs hP hS _ _ => ?_)
  have hD : va_D A (x_ws x_K cA (k_ad3 hh adS 5 24 25 h0 q0 q1) t [(5, 0), (24, 0), (25, 0)]) := hw.2.2.2.1 t
  exact k_fin E hr hS (Nat.le_of_ble_eq_true rfl) (Nat.le_of_ble_eq_true rfl) (fun i => [q0, q1].getD i 0) hP hD (by decide +kernel)
def k_F4 (u : Nat → Nat) : List Value := [.ref (u 0), .int 0]
def k_G4 (cA : Nat → ClassId) (n : Nat) (u : Nat → Nat) : va_W := [(u 0, k_Z cA 0 n)]
set_option maxHeartbeats 4000000 in
set_option maxRecDepth 100000 in
theorem k_X4 {EX : State → Prop} (htys : tys = [(cA 0, .int), (cA 1, .long), (cA 2, .boolean)]) {n : Int32} {n' : Nat} (hn : (if 0 < n then n else 0) = n) (hn0 : ¬ n < 0) (hN : n.toNatClampNeg = n') (hs : n' ≤ 100) : k_Met l D tys A0 EX yX4_init cX4_init 2 { frames := 10, cells := 1, slots := 100, locals := 500 } 1 100 4 [.null, .int 0] [.int n] k_F4 (k_G4 cA n') := by
  refine k_ctor (C := RX4) (T := TX4) (N := 2) (ty0 := tyX4) (cA := cA) (i0 := 1) (by decide +kernel) rfl rfl (x_uA x_uK4) tyX4_ok nmX4 rfl htys (Nat.le_of_ble_eq_true rfl) (List.mem_filter.mpr ⟨by decide +kernel, by decide +kernel⟩) (by decide +kernel) (by decide +kernel) (by decide) (by decide) ?_
  intro h0 A p e s m args below meth c ls E hX hA0 hr hml hP hD hl
  have hS : va_S A s.heap s.heap [] := va_S.rf
  have h0L : ls[0]? = some (.val (.ref h0)) := lv_at hl 0 rfl
  have h1L : ls[1]? = some (.val (.int n)) := lv_at hl 1 rfl
  refine lv_aload_n E.1 E.2.1 (k := 0) (by decide +kernel) rfl h0L ?_
  refine lv_iconst (n := 0) (v := 0) E.1 E.2.1 (by decide +kernel) (by decide) ?_
  refine lv_iload_n (k := 1) E.1 E.2.1 (by decide +kernel) rfl h1L ?_
  refine va_mmax (index := 7) (x := 0) (y := n) E.1 E.2.1 (by rw [hml]; exact hl.1.symm) E.2.2.2.2.2.2.1 (E.2.2.1 _ (List.mem_filter.mpr ⟨by decide +kernel, by decide +kernel⟩)) (E.2.2.1 _ (List.mem_filter.mpr ⟨by decide +kernel, by decide +kernel⟩)) (E.2.2.1 _ (List.mem_filter.mpr ⟨by decide +kernel, by decide +kernel⟩)) (E.2.2.1 _ (List.mem_filter.mpr ⟨by decide +kernel, by decide +kernel⟩)) (by decide) (Nat.le_of_ble_eq_true rfl) (Nat.zero_le _) (Nat.zero_le _) (by decide +kernel) ?_
  rw [hn]
  refine k_new E hP hD hS 0 (by decide) hn0 hN (by omega) (Nat.le_of_ble_eq_true rfl) (show 0 + n' ≤ 100 by omega) (by decide +kernel) (fun q H hP hD hS => ?_)
  refine k_put E hP hD hS 0 (by decide) (by decide) (idx := 13) (List.mem_filter.mpr ⟨by decide +kernel, by decide +kernel⟩) rfl rfl rfl (by decide +kernel) (fun H locs hP hD hS => ?_)
  exact k_fin E hr hS (Nat.le_of_ble_eq_true rfl) (show 0 + n' ≤ 100 by omega) (fun i => [q].getD i 0) hP hD (by decide +kernel)
end CTORG

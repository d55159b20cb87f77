/-! The law's three calls of what may throw. -/
section LSTAT
variable {l : Launch} {D : va_G} {tys : List (ClassId × FieldType)} {cA : Nat → ClassId} {ad : Nat → Nat → Nat} {hh qo : Nat} {adS adV sa : Nat → Nat} {fm : Value} {ov : Nat → Int64} {t : xS}
def y_A1 (ad : Nat → Nat → Nat) : Nat → Prop := fun q => ∃ z ∈ x_Cl, ad z.1 z.2 = q
def y_A2 (ad : Nat → Nat → Nat) (qo : Nat) : Nat → Prop := fun q => q = qo ∨ y_A1 ad q
def y_O (cA : Nat → ClassId) (qo : Nat) (ov : Nat → Int64) : Nat × va_E := (qo, .inl (cA 1, 1, .inr (.inl ov)))
def y_w (cA : Nat → ClassId) (ad : Nat → Nat → Nat) (qo : Nat) (ov : Nat → Int64) (t : xS) : va_W := y_O cA qo ov :: x_ws x_K cA ad t x_Cl
def z_Pc (D : va_G) (tys : List (ClassId × FieldType)) (cA : Nat → ClassId) (ad : Nat → Nat → Nat) (qo : Nat) (ov : Nat → Int64) (t : xS) (EX : State → Prop) (as : List Value) : Array Value → State → Prop := fun v U => v = as.toArray ∧ va_P D vwCl (y_w cA ad qo ov t) U.heap ∧ va_K D vwCl tys U ∧ EX U
def z_Qc (D : va_G) (cA : Nat → ClassId) (ad : Nat → Nat → Nat) (qo : Nat) (t : xS) (post : Int32 → (Nat → Int64) → Prop) : Array Value → State → Outcome → State → Prop := va_Qi post (fun ov' u => va_P D vwCl (y_w cA ad qo ov' t) u.heap) (y_A2 ad qo)
theorem y_w_tl {H : Heap} (h : va_P D vwCl (y_w cA ad qo ov t) H) : va_P D vwCl (x_ws x_K cA ad t x_Cl) H := fun k q hk => h (k + 1) q hk
theorem y_w_hd {H : Heap} (h : va_P D vwCl (y_w cA ad qo ov t) H) : va_P D vwCl [y_O cA qo ov] H := fun k q hk => by
  rcases Nat.eq_zero_or_pos k with z | z
  · subst z; exact h 0 q hk
  · rw [List.getElem?_eq_none (show [y_O cA qo ov].length ≤ k from z)] at hk; cases hk
theorem y_w_app {H : Heap} (h1 : va_P D vwCl [y_O cA qo ov] H) (h2 : va_P D vwCl (x_ws x_K cA ad t x_Cl) H) : va_P D vwCl (y_w cA ad qo ov t) H := va_P.app h1 h2
theorem y_w_D {A : Nat → Prop} {ov ov' : Nat → Int64} {t t' : xS} (h : va_D A (y_w cA ad qo ov t)) : va_D A (y_w cA ad qo ov' t') := va_D_fst h (by
  show qo :: (x_ws x_K cA ad t x_Cl).map Prod.fst = qo :: (x_ws x_K cA ad t' x_Cl).map Prod.fst
  rw [x_ws_fst, x_ws_fst])
theorem y_w_no {A : Nat → Prop} (h : va_D A (y_w cA ad qo ov t)) : ¬ y_A1 ad qo := by
  rintro ⟨z, hz, e⟩
  obtain ⟨i, hi⟩ := List.getElem?_of_mem hz
  have h1 : (y_w cA ad qo ov t)[i + 1]? = some (ad z.1 z.2, x_cell x_K cA ad t z.1 z.2) := by
    show (x_ws x_K cA ad t x_Cl)[i]? = _
    unfold x_ws
    rw [List.getElem?_map, hi]; rfl
  have := h.1 0 (i + 1) _ _ rfl h1 e.symm
  omega
theorem y_A12 : ∀ q, y_A1 ad q → y_A2 ad qo q := fun _ h => Or.inr h
set_option maxHeartbeats 4000000 in
set_option maxRecDepth 100000 in
theorem z_field_r (hl : l.stackTraces = false) (hw : x_Wd cA ad x_Cl (y_A1 ad) tys hh adS) (hD : va_D (y_A2 ad qo) (y_w cA ad qo ov t)) {x : Int32} {r : Int32} (hev : ev 100 f_Main_field [vR 0 0, vI x] t = some (some (vI r), t)) :
    Met l yL_field (Cond.codeWith yL_field cL_field 4 (some .int) [(0, 9, 12, 13)] :: x_Ts) { frames := 120, cells := 1, slots := 6, locals := 6000 } (z_Pc D tys cA ad qo ov t (y_EX (y_A2 ad qo) hh adS adV fm sa) [.ref (ad 0 0), .int x, .ref qo]) (z_Qc D cA ad qo t (fun k ov' => k = 0 ∧ ov' 0 = r.toInt64)) 1 6 (y_A2 ad qo) := by
  refine va_MetW (cc := cL_field) (maxL := 4) (ret := some .int) (by decide) rfl ?_
  intro p e s m args below meth c s₁ B hml hv
  obtain ⟨rfl, hP, hK, hE⟩ := hv
  have hx := B.exec
  have hb := B.bytes
  have hr := B.returns
  have hts0 := atoms_spec (ws := Cond.codeWith yL_field cL_field 4 (some .int) [(0, 9, 12, 13)] :: x_Ts) B.pre
  have hts := fun w hw => hts0 w (List.mem_cons_of_mem _ hw)
  have hown : s.vm.findClass RL = some m.cls := findClass_of_methodNamed B.named
  have hlocks := B.notSynchronized
  have hS : va_S (y_A2 ad qo) s.heap s.heap [] := va_S.rf
  have hl0 := lv_entry [.ref (ad 0 0), .int x, .ref qo] (n := 4) (Nat.le_of_ble_eq_true rfl)
  rw [lg_entry_eq]
  generalize (lg_sl [.ref (ad 0 0), .int x, .ref qo] ++ List.replicate (4 - (lg_sl [.ref (ad 0 0), .int x, .ref qo]).length) Slot.unset).toArray = ls at hl0 ⊢
  have hl1 : lv_has ls 4 [(0, .ref (ad 0 0)), (1, .int x), (2, .ref qo)] := hl0
  refine lv_aload_n (k := 2) hx hb (by decide +kernel) rfl (lv_at hl1 2 rfl) ?_
  refine lv_iconst (n := 0) (v := 0) hx hb (by decide +kernel) (by decide) ?_
  refine lv_aload_n (k := 0) hx hb (by decide +kernel) rfl (lv_at hl1 0 rfl) ?_
  refine lv_iload_n (k := 1) hx hb (by decide +kernel) rfl (lv_at hl1 1 rfl) ?_
  have hI : x_inf f_Main_field = some (11, yX11_field, cX11_field, some .int, 1, false) := rfl
  obtain ⟨M, hPr⟩ := x_inf_Pr hI
  refine k_run (rest := [.int 0, .ref qo]) hx hb hml hown hts hK hE.1 y_A12 hw hPr hI (c0 := 0) (i0 := 0) (as' := [vI x]) (t := t) (fun v hv => by
    rcases List.mem_cons.mp hv with h | h
    · rw [h]; exact Or.inl (by decide)
    · simp only [List.mem_cons, List.not_mem_nil, or_false] at h
      rw [h]; trivial) hev (o := 11) rfl (i := 7) (List.mem_filter.mpr ⟨by decide +kernel, by decide +kernel⟩) (by decide) (by decide) rfl (Nat.le_of_ble_eq_true rfl) (by decide +kernel) (y_w_tl hP) hS hl1.1 (by decide) (by decide) (fun H locs hP1 hS hz hk => ?_)
  have hO : va_P D vwCl [y_O cA qo ov] H := (y_w_hd hP).kept (fun k q hq => hk _ ((y_w_hd hP) k q hq).lt (by
    rcases Nat.eq_zero_or_pos k with z | z
    · subst z
      have e : y_O cA qo ov = q := Option.some.inj hq
      rw [← e]; exact y_w_no hD
    · rw [List.getElem?_eq_none (show [y_O cA qo ov].length ≤ k from z)] at hq; cases hq))
  have hP := y_w_app hO hP1
  refine lv_i2l (x := r) (v := r.toInt64) hx hb (by decide +kernel) rfl ?_
  refine va_last hx hb hK hP (y_w_D hD) hS 0 1 rfl (by rw [hw.2.2.1]; rfl) (i := 0) (x := r.toInt64) (by unfold vp_in; decide) (by decide +kernel) (fun H locs hP hD hS => ?_)
  have hP : va_P D vwCl (y_w cA ad qo (vp_updL ov 0 r.toInt64) t) H := hP
  refine lv_goto (off := 6) (tgt := 15) hx hb (by decide +kernel) (by decide) ?_
  refine lv_iconst (n := 0) (v := 0) hx hb (by decide +kernel) (by decide) ?_
  refine W.widen (k := 1) (n := 6) (by decide) (by decide) ?_
  exact W.iret (v := 0) hx hb hr (fun u hu hW => ⟨⟨0, vp_updL ov 0 r.toInt64, rfl, ⟨rfl, by simp [vp_updL]⟩, by show va_P D vwCl (y_w cA ad qo (vp_updL ov 0 r.toInt64) t) u.heap; rw [hu]; exact hP⟩, hS.F hu⟩) hS.2.2 (by decide +kernel)
set_option maxHeartbeats 4000000 in
set_option maxRecDepth 100000 in
theorem z_field_t (hl : l.stackTraces = false) (hw : x_Wd cA ad x_Cl (y_A1 ad) tys hh adS) (hD : va_D (y_A2 ad qo) (y_w cA ad qo ov t)) {x : Int32} (hev : ev 9 f_Garden_has [vR 2 0, vI x] t = some (some (vI 0), t)) :
    Met l yL_field (Cond.codeWith yL_field cL_field 4 (some .int) [(0, 9, 12, 13)] :: x_Ts) { frames := 120, cells := 1, slots := 6, locals := 6000 } (z_Pc D tys cA ad qo ov t (y_EX (y_A2 ad qo) hh adS adV fm sa) [.ref (ad 0 0), .int x, .ref qo]) (z_Qc D cA ad qo t (fun k _ => k = 1)) 1 6 (y_A2 ad qo) := by
  refine va_MetW (cc := cL_field) (maxL := 4) (ret := some .int) (by decide) rfl ?_
  intro p e s m args below meth c s₁ B hml hv
  obtain ⟨rfl, hP, hK, hE⟩ := hv
  have hx := B.exec
  have hb := B.bytes
  have hr := B.returns
  have hts0 := atoms_spec (ws := Cond.codeWith yL_field cL_field 4 (some .int) [(0, 9, 12, 13)] :: x_Ts) B.pre
  have hts := fun w hw => hts0 w (List.mem_cons_of_mem _ hw)
  have hown : s.vm.findClass RL = some m.cls := findClass_of_methodNamed B.named
  have hlocks := B.notSynchronized
  have hS : va_S (y_A2 ad qo) s.heap s.heap [] := va_S.rf
  have hl0 := lv_entry [.ref (ad 0 0), .int x, .ref qo] (n := 4) (Nat.le_of_ble_eq_true rfl)
  rw [lg_entry_eq]
  generalize (lg_sl [.ref (ad 0 0), .int x, .ref qo] ++ List.replicate (4 - (lg_sl [.ref (ad 0 0), .int x, .ref qo]).length) Slot.unset).toArray = ls at hl0 ⊢
  have hl1 : lv_has ls 4 [(0, .ref (ad 0 0)), (1, .int x), (2, .ref qo)] := hl0
  refine lv_aload_n (k := 2) hx hb (by decide +kernel) rfl (lv_at hl1 2 rfl) ?_
  refine lv_iconst (n := 0) (v := 0) hx hb (by decide +kernel) (by decide) ?_
  refine lv_aload_n (k := 0) hx hb (by decide +kernel) rfl (lv_at hl1 0 rfl) ?_
  refine lv_iload_n (k := 1) hx hb (by decide +kernel) rfl (lv_at hl1 1 rfl) ?_
  have htab := vx_table (x := yL_field) B (hts0 _ List.mem_cons_self)
  have hM := y_field (l := l) (D := D) (adV := adV) (fm := fm) (sa := sa) hl hw hev
  have hG : GoodIn x_Ts (Cond.code yX11_field cX11_field 2 (some .int) :: x_Ts) := fun z hz => (List.mem_cons.mp hz).elim (fun q => by rw [q]; exact ⟨(List.mem_filter.mpr ⟨by decide +kernel, by decide +kernel⟩), x_Fm_ok.1 _ (List.mem_filter.mpr ⟨by decide +kernel, by decide +kernel⟩)⟩) (fun q => ⟨q, x_Fm_ok.1 _ q⟩)
  have hE1 := y_EX_sub (A1 := y_A1 ad) hE y_A12
  have hcb := callB_of (R := { frames := 120, cells := 1, slots := 6, locals := 6000 }) (rm := { frames := 20, cells := 1, slots := 6, locals := 900 }) (mc := 1) (ms := 6) 1 hts hG rfl rfl rfl (hts (.initialized RX11) (List.mem_filter.mpr ⟨by decide +kernel, by decide +kernel⟩)) (hts (.methodLink RL 7 yX11_field) (List.mem_filter.mpr ⟨by decide +kernel, by decide +kernel⟩)) (by decide +kernel) (by decide)
  have hrecv := va_recv hK (y_w_tl hP) (ci := 11) (q0 := 0) (q := (RX11, TX11, 14)) rfl rfl
  have hpre : PreV s s.heap RX11 (ad 0 0) (x_Pc D vwCl tys x_K cA ad x_Cl (y_EX (y_A1 ad) hh adS adV fm sa) [vR 0 0, vI x] t) [.int x] := ⟨fun a' U g' mk q => ⟨q.1, q.2.1, va_K.moved (u := U) (U := U.calling g' mk a') (Vm.Alike.refl U.vm) q.2.2.1, y_EX_m q.2.2.2 (Or.inr rfl) (Nat.le_refl _) (fun _ _ _ => rfl)⟩, hrecv, fun U hU hW => ⟨rfl, by rw [hU]; exact y_w_tl hP, va_K.moved hW.alike hK, y_EX_m hE1 (Or.inl hW) (by rw [hU]; exact Nat.le_refl _) (fun q _ _ => by rw [hU])⟩⟩
  refine vx_calli (px := fun _ : Unit => True) (BX := fun E _ u => E = y_N ∧ va_P D vwCl (x_ws x_K cA ad t x_Cl) u.heap) (AX := y_A1 ad) (A1 := y_A1 ad) (post := fun _ (_ : Unit) => False) (B := fun _ _ => True) (vx_runV (As := [.int x]) (rest := [.int 0, .ref qo]) ⟨hx, hb, hml, hown, hts⟩ hM ⟨hcb, hts (.instanceMethod yX11_field) (List.mem_filter.mpr ⟨by decide +kernel, by decide +kernel⟩), hts (.selects RX11 yX11_field yX11_field) (List.mem_filter.mpr ⟨by decide +kernel, by decide +kernel⟩)⟩ hpre rfl rfl hl1.1 rfl (lv_room (Nat.le_of_ble_eq_true rfl)) (show decode cL_field 4 = .ok (.invokevirtual 7, 3) by decide +kernel) ⟨by decide, by decide⟩) hS (fun q _ h => y_A12 q h) y_A12 (fun q _ h => y_A12 q h) (fun E ce q9 u t' H locs ht hvm _ hB hz hk hS hce hcv hcl => ?_) (fun r u t' H locs ht hvm hno _ _ _ _ => absurd hno id)
  obtain ⟨rfl, hP1⟩ := hB
  rw [ht] at hP1
  have hO : va_P D vwCl [y_O cA qo ov] H := (y_w_hd hP).kept (fun k q hq => hk _ ((y_w_hd hP) k q hq).lt (by
    rcases Nat.eq_zero_or_pos k with z | z
    · subst z
      have e : y_O cA qo ov = q := Option.some.inj hq
      rw [← e]; exact y_w_no hD
    · rw [List.getElem?_eq_none (show [y_O cA qo ov].length ≤ k from z)] at hq; cases hq))
  have hP := y_w_app hO hP1
  refine vx_catch (own := RL) (name := y_N) (E := y_N) hown [] ((tableOf [(0, 9, 12, 13)])[0]'(by decide)) [] htab (fun z hz => absurd hz List.not_mem_nil) (by decide) (by decide) (hts (.classLink RL 13 y_N) (List.mem_filter.mpr ⟨by decide +kernel, by decide +kernel⟩)) (va_Nw.use rfl (hE.2.2.2.2 _ List.mem_cons_self)) hce hcv hcl ?_
  refine W.eq (g2 := F0 m 12 ls [.ref q9]) rfl ?_
  refine lv_astore_n (k := 3) (lv' := [(3, .ref q9), (0, .ref (ad 0 0)), (1, .int x), (2, .ref qo)]) hx hb (by decide +kernel) rfl hl1 (by decide) rfl (fun ls hl => ?_)
  refine lv_iconst (n := 1) (v := 1) hx hb (by decide +kernel) (by decide) ?_
  refine W.widen (k := 1) (n := 6) (by decide) (by decide) ?_
  exact W.iret (v := 1) hx hb hr (fun u hu hW => ⟨⟨1, ov, rfl, rfl, by show va_P D vwCl (y_w cA ad qo ov t) u.heap; rw [hu]; exact hP⟩, hS.F hu⟩) hS.2.2 (by decide +kernel)
set_option maxHeartbeats 4000000 in
set_option maxRecDepth 100000 in
theorem z_pram_r (hl : l.stackTraces = false) (hw : x_Wd cA ad x_Cl (y_A1 ad) tys hh adS) (hD : va_D (y_A2 ad qo) (y_w cA ad qo ov t)) {x y : Int32} {r : Int32} (hev : ev 100 f_Main_pram [vR 0 0, vI x, vI y] t = some (some (vI r), t)) :
    Met l yL_pram (Cond.codeWith yL_pram cL_pram 5 (some .int) [(0, 10, 13, 13)] :: x_Ts) { frames := 120, cells := 1, slots := 6, locals := 6000 } (z_Pc D tys cA ad qo ov t (y_EX (y_A2 ad qo) hh adS adV fm sa) [.ref (ad 0 0), .int x, .int y, .ref qo]) (z_Qc D cA ad qo t (fun k ov' => k = 0 ∧ ov' 0 = r.toInt64)) 1 6 (y_A2 ad qo) := by
  refine va_MetW (cc := cL_pram) (maxL := 5) (ret := some .int) (by decide) rfl ?_
  intro p e s m args below meth c s₁ B hml hv
  obtain ⟨rfl, hP, hK, hE⟩ := hv
  have hx := B.exec
  have hb := B.bytes
  have hr := B.returns
  have hts0 := atoms_spec (ws := Cond.codeWith yL_pram cL_pram 5 (some .int) [(0, 10, 13, 13)] :: x_Ts) B.pre
  have hts := fun w hw => hts0 w (List.mem_cons_of_mem _ hw)
  have hown : s.vm.findClass RL = some m.cls := findClass_of_methodNamed B.named
  have hlocks := B.notSynchronized
  have hS : va_S (y_A2 ad qo) s.heap s.heap [] := va_S.rf
  have hl0 := lv_entry [.ref (ad 0 0), .int x, .int y, .ref qo] (n := 5) (Nat.le_of_ble_eq_true rfl)
  rw [lg_entry_eq]
  generalize (lg_sl [.ref (ad 0 0), .int x, .int y, .ref qo] ++ List.replicate (5 - (lg_sl [.ref (ad 0 0), .int x, .int y, .ref qo]).length) Slot.unset).toArray = ls at hl0 ⊢
  have hl1 : lv_has ls 5 [(0, .ref (ad 0 0)), (1, .int x), (2, .int y), (3, .ref qo)] := hl0
  refine lv_aload_n (k := 3) hx hb (by decide +kernel) rfl (lv_at hl1 3 rfl) ?_
  refine lv_iconst (n := 0) (v := 0) hx hb (by decide +kernel) (by decide) ?_
  refine lv_aload_n (k := 0) hx hb (by decide +kernel) rfl (lv_at hl1 0 rfl) ?_
  refine lv_iload_n (k := 1) hx hb (by decide +kernel) rfl (lv_at hl1 1 rfl) ?_
  refine lv_iload_n (k := 2) hx hb (by decide +kernel) rfl (lv_at hl1 2 rfl) ?_
  have hI : x_inf f_Main_pram = some (11, yX11_pram, cX11_pram, some .int, 2, false) := rfl
  obtain ⟨M, hPr⟩ := x_inf_Pr hI
  refine k_run (rest := [.int 0, .ref qo]) hx hb hml hown hts hK hE.1 y_A12 hw hPr hI (c0 := 0) (i0 := 0) (as' := [vI x, vI y]) (t := t) (fun v hv => by
    rcases List.mem_cons.mp hv with h | h
    · rw [h]; exact Or.inl (by decide)
    · simp only [List.mem_cons, List.not_mem_nil, or_false] at h
      rcases h with h | h <;> rw [h] <;> trivial) hev (o := 11) rfl (i := 15) (List.mem_filter.mpr ⟨by decide +kernel, by decide +kernel⟩) (by decide) (by decide) rfl (Nat.le_of_ble_eq_true rfl) (by decide +kernel) (y_w_tl hP) hS hl1.1 (by decide) (by decide) (fun H locs hP1 hS hz hk => ?_)
  have hO : va_P D vwCl [y_O cA qo ov] H := (y_w_hd hP).kept (fun k q hq => hk _ ((y_w_hd hP) k q hq).lt (by
    rcases Nat.eq_zero_or_pos k with z | z
    · subst z
      have e : y_O cA qo ov = q := Option.some.inj hq
      rw [← e]; exact y_w_no hD
    · rw [List.getElem?_eq_none (show [y_O cA qo ov].length ≤ k from z)] at hq; cases hq))
  have hP := y_w_app hO hP1
  refine lv_i2l (x := r) (v := r.toInt64) hx hb (by decide +kernel) rfl ?_
  refine va_last hx hb hK hP (y_w_D hD) hS 0 1 rfl (by rw [hw.2.2.1]; rfl) (i := 0) (x := r.toInt64) (by unfold vp_in; decide) (by decide +kernel) (fun H locs hP hD hS => ?_)
  have hP : va_P D vwCl (y_w cA ad qo (vp_updL ov 0 r.toInt64) t) H := hP
  refine lv_goto (off := 7) (tgt := 17) hx hb (by decide +kernel) (by decide) ?_
  refine lv_iconst (n := 0) (v := 0) hx hb (by decide +kernel) (by decide) ?_
  refine W.widen (k := 1) (n := 6) (by decide) (by decide) ?_
  exact W.iret (v := 0) hx hb hr (fun u hu hW => ⟨⟨0, vp_updL ov 0 r.toInt64, rfl, ⟨rfl, by simp [vp_updL]⟩, by show va_P D vwCl (y_w cA ad qo (vp_updL ov 0 r.toInt64) t) u.heap; rw [hu]; exact hP⟩, hS.F hu⟩) hS.2.2 (by decide +kernel)
set_option maxHeartbeats 4000000 in
set_option maxRecDepth 100000 in
theorem z_pram_t (hl : l.stackTraces = false) (hw : x_Wd cA ad x_Cl (y_A1 ad) tys hh adS) (hD : va_D (y_A2 ad qo) (y_w cA ad qo ov t)) {x y : Int32} {r : Int32} (hev : ev 9 f_Outing_has [vR 3 0, vI x] t = some (some (vI r), t)) (hno : r = 0 ∨ y < 0 ∨ ¬ y ≤ 4) :
    Met l yL_pram (Cond.codeWith yL_pram cL_pram 5 (some .int) [(0, 10, 13, 13)] :: x_Ts) { frames := 120, cells := 1, slots := 6, locals := 6000 } (z_Pc D tys cA ad qo ov t (y_EX (y_A2 ad qo) hh adS adV fm sa) [.ref (ad 0 0), .int x, .int y, .ref qo]) (z_Qc D cA ad qo t (fun k _ => k = 1)) 1 6 (y_A2 ad qo) := by
  refine va_MetW (cc := cL_pram) (maxL := 5) (ret := some .int) (by decide) rfl ?_
  intro p e s m args below meth c s₁ B hml hv
  obtain ⟨rfl, hP, hK, hE⟩ := hv
  have hx := B.exec
  have hb := B.bytes
  have hr := B.returns
  have hts0 := atoms_spec (ws := Cond.codeWith yL_pram cL_pram 5 (some .int) [(0, 10, 13, 13)] :: x_Ts) B.pre
  have hts := fun w hw => hts0 w (List.mem_cons_of_mem _ hw)
  have hown : s.vm.findClass RL = some m.cls := findClass_of_methodNamed B.named
  have hlocks := B.notSynchronized
  have hS : va_S (y_A2 ad qo) s.heap s.heap [] := va_S.rf
  have hl0 := lv_entry [.ref (ad 0 0), .int x, .int y, .ref qo] (n := 5) (Nat.le_of_ble_eq_true rfl)
  rw [lg_entry_eq]
  generalize (lg_sl [.ref (ad 0 0), .int x, .int y, .ref qo] ++ List.replicate (5 - (lg_sl [.ref (ad 0 0), .int x, .int y, .ref qo]).length) Slot.unset).toArray = ls at hl0 ⊢
  have hl1 : lv_has ls 5 [(0, .ref (ad 0 0)), (1, .int x), (2, .int y), (3, .ref qo)] := hl0
  refine lv_aload_n (k := 3) hx hb (by decide +kernel) rfl (lv_at hl1 3 rfl) ?_
  refine lv_iconst (n := 0) (v := 0) hx hb (by decide +kernel) (by decide) ?_
  refine lv_aload_n (k := 0) hx hb (by decide +kernel) rfl (lv_at hl1 0 rfl) ?_
  refine lv_iload_n (k := 1) hx hb (by decide +kernel) rfl (lv_at hl1 1 rfl) ?_
  refine lv_iload_n (k := 2) hx hb (by decide +kernel) rfl (lv_at hl1 2 rfl) ?_
  have htab := vx_table (x := yL_pram) B (hts0 _ List.mem_cons_self)
  have hM := y_pram (l := l) (D := D) (adV := adV) (fm := fm) (sa := sa) hl hw hev hno
  have hG : GoodIn x_Ts (Cond.code yX11_pram cX11_pram 3 (some .int) :: x_Ts) := fun z hz => (List.mem_cons.mp hz).elim (fun q => by rw [q]; exact ⟨(List.mem_filter.mpr ⟨by decide +kernel, by decide +kernel⟩), x_Fm_ok.1 _ (List.mem_filter.mpr ⟨by decide +kernel, by decide +kernel⟩)⟩) (fun q => ⟨q, x_Fm_ok.1 _ q⟩)
  have hE1 := y_EX_sub (A1 := y_A1 ad) hE y_A12
  have hcb := callB_of (R := { frames := 120, cells := 1, slots := 6, locals := 6000 }) (rm := { frames := 20, cells := 1, slots := 6, locals := 900 }) (mc := 1) (ms := 6) 2 hts hG rfl rfl rfl (hts (.initialized RX11) (List.mem_filter.mpr ⟨by decide +kernel, by decide +kernel⟩)) (hts (.methodLink RL 15 yX11_pram) (List.mem_filter.mpr ⟨by decide +kernel, by decide +kernel⟩)) (by decide +kernel) (by decide)
  have hrecv := va_recv hK (y_w_tl hP) (ci := 11) (q0 := 0) (q := (RX11, TX11, 14)) rfl rfl
  have hpre : PreV s s.heap RX11 (ad 0 0) (x_Pc D vwCl tys x_K cA ad x_Cl (y_EX (y_A1 ad) hh adS adV fm sa) [vR 0 0, vI x, vI y] t) [.int x, .int y] := ⟨fun a' U g' mk q => ⟨q.1, q.2.1, va_K.moved (u := U) (U := U.calling g' mk a') (Vm.Alike.refl U.vm) q.2.2.1, y_EX_m q.2.2.2 (Or.inr rfl) (Nat.le_refl _) (fun _ _ _ => rfl)⟩, hrecv, fun U hU hW => ⟨rfl, by rw [hU]; exact y_w_tl hP, va_K.moved hW.alike hK, y_EX_m hE1 (Or.inl hW) (by rw [hU]; exact Nat.le_refl _) (fun q _ _ => by rw [hU])⟩⟩
  refine vx_calli (px := fun _ : Unit => True) (BX := fun E _ u => E = y_N ∧ va_P D vwCl (x_ws x_K cA ad t x_Cl) u.heap) (AX := y_A1 ad) (A1 := y_A1 ad) (post := fun _ (_ : Unit) => False) (B := fun _ _ => True) (vx_runV (As := [.int x, .int y]) (rest := [.int 0, .ref qo]) ⟨hx, hb, hml, hown, hts⟩ hM ⟨hcb, hts (.instanceMethod yX11_pram) (List.mem_filter.mpr ⟨by decide +kernel, by decide +kernel⟩), hts (.selects RX11 yX11_pram yX11_pram) (List.mem_filter.mpr ⟨by decide +kernel, by decide +kernel⟩)⟩ hpre rfl rfl hl1.1 rfl (lv_room (Nat.le_of_ble_eq_true rfl)) (show decode cL_pram 5 = .ok (.invokevirtual 15, 3) by decide +kernel) ⟨by decide, by decide⟩) hS (fun q _ h => y_A12 q h) y_A12 (fun q _ h => y_A12 q h) (fun E ce q9 u t' H locs ht hvm _ hB hz hk hS hce hcv hcl => ?_) (fun r u t' H locs ht hvm hno _ _ _ _ => absurd hno id)
  obtain ⟨rfl, hP1⟩ := hB
  rw [ht] at hP1
  have hO : va_P D vwCl [y_O cA qo ov] H := (y_w_hd hP).kept (fun k q hq => hk _ ((y_w_hd hP) k q hq).lt (by
    rcases Nat.eq_zero_or_pos k with z | z
    · subst z
      have e : y_O cA qo ov = q := Option.some.inj hq
      rw [← e]; exact y_w_no hD
    · rw [List.getElem?_eq_none (show [y_O cA qo ov].length ≤ k from z)] at hq; cases hq))
  have hP := y_w_app hO hP1
  refine vx_catch (own := RL) (name := y_N) (E := y_N) hown [] ((tableOf [(0, 10, 13, 13)])[0]'(by decide)) [] htab (fun z hz => absurd hz List.not_mem_nil) (by decide) (by decide) (hts (.classLink RL 13 y_N) (List.mem_filter.mpr ⟨by decide +kernel, by decide +kernel⟩)) (va_Nw.use rfl (hE.2.2.2.2 _ List.mem_cons_self)) hce hcv hcl ?_
  refine W.eq (g2 := F0 m 13 ls [.ref q9]) rfl ?_
  refine lv_astore (i := 4) (lv' := [(4, .ref q9), (0, .ref (ad 0 0)), (1, .int x), (2, .int y), (3, .ref qo)]) hx hb (by decide +kernel) hl1 (by decide) rfl (fun ls hl => ?_)
  refine lv_iconst (n := 1) (v := 1) hx hb (by decide +kernel) (by decide) ?_
  refine W.widen (k := 1) (n := 6) (by decide) (by decide) ?_
  exact W.iret (v := 1) hx hb hr (fun u hu hW => ⟨⟨1, ov, rfl, rfl, by show va_P D vwCl (y_w cA ad qo ov t) u.heap; rw [hu]; exact hP⟩, hS.F hu⟩) hS.2.2 (by decide +kernel)
set_option maxHeartbeats 4000000 in
set_option maxRecDepth 100000 in
theorem z_row_r (hl : l.stackTraces = false) (hw : x_Wd cA ad x_Cl (y_A1 ad) tys hh adS) (hD : va_D (y_A2 ad qo) (y_w cA ad qo ov t)) {x : Int32} {r : Int64} (hev : ev 100 f_Main_row [vR 0 0, vI x] t = some (some (vL r), t)) :
    Met l yL_row (Cond.codeWith yL_row cL_row 4 (some .int) [(0, 8, 11, 13)] :: x_Ts) { frames := 120, cells := 1, slots := 6, locals := 6000 } (z_Pc D tys cA ad qo ov t (y_EX (y_A2 ad qo) hh adS adV fm sa) [.ref (ad 0 0), .int x, .ref qo]) (z_Qc D cA ad qo t (fun k ov' => k = 0 ∧ ov' 0 = r)) 1 6 (y_A2 ad qo) := by
  refine va_MetW (cc := cL_row) (maxL := 4) (ret := some .int) (by decide) rfl ?_
  intro p e s m args below meth c s₁ B hml hv
  obtain ⟨rfl, hP, hK, hE⟩ := hv
  have hx := B.exec
  have hb := B.bytes
  have hr := B.returns
  have hts0 := atoms_spec (ws := Cond.codeWith yL_row cL_row 4 (some .int) [(0, 8, 11, 13)] :: x_Ts) B.pre
  have hts := fun w hw => hts0 w (List.mem_cons_of_mem _ hw)
  have hown : s.vm.findClass RL = some m.cls := findClass_of_methodNamed B.named
  have hlocks := B.notSynchronized
  have hS : va_S (y_A2 ad qo) s.heap s.heap [] := va_S.rf
  have hl0 := lv_entry [.ref (ad 0 0), .int x, .ref qo] (n := 4) (Nat.le_of_ble_eq_true rfl)
  rw [lg_entry_eq]
  generalize (lg_sl [.ref (ad 0 0), .int x, .ref qo] ++ List.replicate (4 - (lg_sl [.ref (ad 0 0), .int x, .ref qo]).length) Slot.unset).toArray = ls at hl0 ⊢
  have hl1 : lv_has ls 4 [(0, .ref (ad 0 0)), (1, .int x), (2, .ref qo)] := hl0
  refine lv_aload_n (k := 2) hx hb (by decide +kernel) rfl (lv_at hl1 2 rfl) ?_
  refine lv_iconst (n := 0) (v := 0) hx hb (by decide +kernel) (by decide) ?_
  refine lv_aload_n (k := 0) hx hb (by decide +kernel) rfl (lv_at hl1 0 rfl) ?_
  refine lv_iload_n (k := 1) hx hb (by decide +kernel) rfl (lv_at hl1 1 rfl) ?_
  have hI : x_inf f_Main_row = some (11, yX11_row, cX11_row, some .long, 1, false) := rfl
  obtain ⟨M, hPr⟩ := x_inf_Pr hI
  refine k_run (rest := [.int 0, .ref qo]) hx hb hml hown hts hK hE.1 y_A12 hw hPr hI (c0 := 0) (i0 := 0) (as' := [vI x]) (t := t) (fun v hv => by
    rcases List.mem_cons.mp hv with h | h
    · rw [h]; exact Or.inl (by decide)
    · simp only [List.mem_cons, List.not_mem_nil, or_false] at h
      rw [h]; trivial) hev (o := 11) rfl (i := 19) (List.mem_filter.mpr ⟨by decide +kernel, by decide +kernel⟩) (by decide) (by decide) rfl (Nat.le_of_ble_eq_true rfl) (by decide +kernel) (y_w_tl hP) hS hl1.1 (by decide) (by decide) (fun H locs hP1 hS hz hk => ?_)
  have hO : va_P D vwCl [y_O cA qo ov] H := (y_w_hd hP).kept (fun k q hq => hk _ ((y_w_hd hP) k q hq).lt (by
    rcases Nat.eq_zero_or_pos k with z | z
    · subst z
      have e : y_O cA qo ov = q := Option.some.inj hq
      rw [← e]; exact y_w_no hD
    · rw [List.getElem?_eq_none (show [y_O cA qo ov].length ≤ k from z)] at hq; cases hq))
  have hP := y_w_app hO hP1
  refine va_last hx hb hK hP (y_w_D hD) hS 0 1 rfl (by rw [hw.2.2.1]; rfl) (i := 0) (x := r) (by unfold vp_in; decide) (by decide +kernel) (fun H locs hP hD hS => ?_)
  have hP : va_P D vwCl (y_w cA ad qo (vp_updL ov 0 r) t) H := hP
  refine lv_goto (off := 6) (tgt := 14) hx hb (by decide +kernel) (by decide) ?_
  refine lv_iconst (n := 0) (v := 0) hx hb (by decide +kernel) (by decide) ?_
  refine W.widen (k := 1) (n := 6) (by decide) (by decide) ?_
  exact W.iret (v := 0) hx hb hr (fun u hu hW => ⟨⟨0, vp_updL ov 0 r, rfl, ⟨rfl, by simp [vp_updL]⟩, by show va_P D vwCl (y_w cA ad qo (vp_updL ov 0 r) t) u.heap; rw [hu]; exact hP⟩, hS.F hu⟩) hS.2.2 (by decide +kernel)
set_option maxHeartbeats 4000000 in
set_option maxRecDepth 100000 in
theorem z_row_t (hl : l.stackTraces = false) (hw : x_Wd cA ad x_Cl (y_A1 ad) tys hh adS) (hD : va_D (y_A2 ad qo) (y_w cA ad qo ov t)) {x : Int32} (hev : ev 9 f_Numbers_has [vR 10 0, vI x] t = some (some (vI 0), t)) :
    Met l yL_row (Cond.codeWith yL_row cL_row 4 (some .int) [(0, 8, 11, 13)] :: x_Ts) { frames := 120, cells := 1, slots := 6, locals := 6000 } (z_Pc D tys cA ad qo ov t (y_EX (y_A2 ad qo) hh adS adV fm sa) [.ref (ad 0 0), .int x, .ref qo]) (z_Qc D cA ad qo t (fun k _ => k = 1)) 1 6 (y_A2 ad qo) := by
  refine va_MetW (cc := cL_row) (maxL := 4) (ret := some .int) (by decide) rfl ?_
  intro p e s m args below meth c s₁ B hml hv
  obtain ⟨rfl, hP, hK, hE⟩ := hv
  have hx := B.exec
  have hb := B.bytes
  have hr := B.returns
  have hts0 := atoms_spec (ws := Cond.codeWith yL_row cL_row 4 (some .int) [(0, 8, 11, 13)] :: x_Ts) B.pre
  have hts := fun w hw => hts0 w (List.mem_cons_of_mem _ hw)
  have hown : s.vm.findClass RL = some m.cls := findClass_of_methodNamed B.named
  have hlocks := B.notSynchronized
  have hS : va_S (y_A2 ad qo) s.heap s.heap [] := va_S.rf
  have hl0 := lv_entry [.ref (ad 0 0), .int x, .ref qo] (n := 4) (Nat.le_of_ble_eq_true rfl)
  rw [lg_entry_eq]
  generalize (lg_sl [.ref (ad 0 0), .int x, .ref qo] ++ List.replicate (4 - (lg_sl [.ref (ad 0 0), .int x, .ref qo]).length) Slot.unset).toArray = ls at hl0 ⊢
  have hl1 : lv_has ls 4 [(0, .ref (ad 0 0)), (1, .int x), (2, .ref qo)] := hl0
  refine lv_aload_n (k := 2) hx hb (by decide +kernel) rfl (lv_at hl1 2 rfl) ?_
  refine lv_iconst (n := 0) (v := 0) hx hb (by decide +kernel) (by decide) ?_
  refine lv_aload_n (k := 0) hx hb (by decide +kernel) rfl (lv_at hl1 0 rfl) ?_
  refine lv_iload_n (k := 1) hx hb (by decide +kernel) rfl (lv_at hl1 1 rfl) ?_
  have htab := vx_table (x := yL_row) B (hts0 _ List.mem_cons_self)
  have hM := y_row (l := l) (D := D) (adV := adV) (fm := fm) (sa := sa) hl hw hev
  have hG : GoodIn x_Ts (Cond.code yX11_row cX11_row 2 (some .long) :: x_Ts) := fun z hz => (List.mem_cons.mp hz).elim (fun q => by rw [q]; exact ⟨(List.mem_filter.mpr ⟨by decide +kernel, by decide +kernel⟩), x_Fm_ok.1 _ (List.mem_filter.mpr ⟨by decide +kernel, by decide +kernel⟩)⟩) (fun q => ⟨q, x_Fm_ok.1 _ q⟩)
  have hE1 := y_EX_sub (A1 := y_A1 ad) hE y_A12
  have hcb := callB_of (R := { frames := 120, cells := 1, slots := 6, locals := 6000 }) (rm := { frames := 20, cells := 1, slots := 6, locals := 900 }) (mc := 1) (ms := 6) 1 hts hG rfl rfl rfl (hts (.initialized RX11) (List.mem_filter.mpr ⟨by decide +kernel, by decide +kernel⟩)) (hts (.methodLink RL 19 yX11_row) (List.mem_filter.mpr ⟨by decide +kernel, by decide +kernel⟩)) (by decide +kernel) (by decide)
  have hrecv := va_recv hK (y_w_tl hP) (ci := 11) (q0 := 0) (q := (RX11, TX11, 14)) rfl rfl
  have hpre : PreV s s.heap RX11 (ad 0 0) (x_Pc D vwCl tys x_K cA ad x_Cl (y_EX (y_A1 ad) hh adS adV fm sa) [vR 0 0, vI x] t) [.int x] := ⟨fun a' U g' mk q => ⟨q.1, q.2.1, va_K.moved (u := U) (U := U.calling g' mk a') (Vm.Alike.refl U.vm) q.2.2.1, y_EX_m q.2.2.2 (Or.inr rfl) (Nat.le_refl _) (fun _ _ _ => rfl)⟩, hrecv, fun U hU hW => ⟨rfl, by rw [hU]; exact y_w_tl hP, va_K.moved hW.alike hK, y_EX_m hE1 (Or.inl hW) (by rw [hU]; exact Nat.le_refl _) (fun q _ _ => by rw [hU])⟩⟩
  refine vx_calll (px := fun _ : Unit => True) (BX := fun E _ u => E = y_N ∧ va_P D vwCl (x_ws x_K cA ad t x_Cl) u.heap) (AX := y_A1 ad) (A1 := y_A1 ad) (post := fun _ (_ : Unit) => False) (B := fun _ _ => True) (vx_runV (As := [.int x]) (rest := [.int 0, .ref qo]) ⟨hx, hb, hml, hown, hts⟩ hM ⟨hcb, hts (.instanceMethod yX11_row) (List.mem_filter.mpr ⟨by decide +kernel, by decide +kernel⟩), hts (.selects RX11 yX11_row yX11_row) (List.mem_filter.mpr ⟨by decide +kernel, by decide +kernel⟩)⟩ hpre rfl rfl hl1.1 rfl (lv_room (Nat.le_of_ble_eq_true rfl)) (show decode cL_row 4 = .ok (.invokevirtual 19, 3) by decide +kernel) ⟨by decide, by decide⟩) hS (fun q _ h => y_A12 q h) y_A12 (fun q _ h => y_A12 q h) (fun E ce q9 u t' H locs ht hvm _ hB hz hk hS hce hcv hcl => ?_) (fun r u t' H locs ht hvm hno _ _ _ _ => absurd hno id)
  obtain ⟨rfl, hP1⟩ := hB
  rw [ht] at hP1
  have hO : va_P D vwCl [y_O cA qo ov] H := (y_w_hd hP).kept (fun k q hq => hk _ ((y_w_hd hP) k q hq).lt (by
    rcases Nat.eq_zero_or_pos k with z | z
    · subst z
      have e : y_O cA qo ov = q := Option.some.inj hq
      rw [← e]; exact y_w_no hD
    · rw [List.getElem?_eq_none (show [y_O cA qo ov].length ≤ k from z)] at hq; cases hq))
  have hP := y_w_app hO hP1
  refine vx_catch (own := RL) (name := y_N) (E := y_N) hown [] ((tableOf [(0, 8, 11, 13)])[0]'(by decide)) [] htab (fun z hz => absurd hz List.not_mem_nil) (by decide) (by decide) (hts (.classLink RL 13 y_N) (List.mem_filter.mpr ⟨by decide +kernel, by decide +kernel⟩)) (va_Nw.use rfl (hE.2.2.2.2 _ List.mem_cons_self)) hce hcv hcl ?_
  refine W.eq (g2 := F0 m 11 ls [.ref q9]) rfl ?_
  refine lv_astore_n (k := 3) (lv' := [(3, .ref q9), (0, .ref (ad 0 0)), (1, .int x), (2, .ref qo)]) hx hb (by decide +kernel) rfl hl1 (by decide) rfl (fun ls hl => ?_)
  refine lv_iconst (n := 1) (v := 1) hx hb (by decide +kernel) (by decide) ?_
  refine W.widen (k := 1) (n := 6) (by decide) (by decide) ?_
  exact W.iret (v := 1) hx hb hr (fun u hu hW => ⟨⟨1, ov, rfl, rfl, by show va_P D vwCl (y_w cA ad qo ov t) u.heap; rw [hu]; exact hP⟩, hS.F hu⟩) hS.2.2 (by decide +kernel)
end LSTAT

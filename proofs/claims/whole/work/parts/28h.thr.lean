/-! The class's three methods that throw, where they do. -/
section THRW
variable {p : Program} {l : Launch} {e : Env} {R : Room} {s : State} {m : MethodId} {args : Array Value} {below : List Frame} {meth : Method} {c : Code} {H : Heap} {locs : List Loc} {cells slots : Nat} {Q : State → Prop} {D : va_G} {A A1 : Nat → Prop} {tys : List (ClassId × FieldType)} {cA : Nat → ClassId} {ad : Nat → Nat → Nat} {hh : Nat} {adS adV sa : Nat → Nat} {fm : Value} {pc : Nat} {ls : Array Slot} {rest : List Value}
def y_isM (w : Cond) : Bool := match w with
  | .castable .. => true
  | .declares .. => true
  | _ => false
/-- words of a throw that are no good words -/
def y_Mw : List Cond := Cond.castable y_N y_N :: (y_at RX11 188).filter (fun w => !goodWord w)
theorem y_Mw_k : y_Mw.all y_isM = true := by decide +kernel
theorem y_Mw_in : ∀ w ∈ y_Mw, w ∈ lw_tbl := by decide +kernel
set_option maxRecDepth 100000 in
theorem y_Mg : ∀ w ∈ (y_at RX11 188).filter goodWord, w ∈ lw_tbl := by decide +kernel
def y_sE : List (Nat × String) := [(186, "no such field"), (195, "no such pram, or nothing such of it"), (485, "no such number")]
def y_T (A : Nat → Prop) (sa : Nat → Nat) (s : State) : Prop := vx_Zq Bundle.tN "UNASSIGNED_STACK" Bundle.steD A s s.heap ∧ vx_Zq Bundle.tN "SUPPRESSED_SENTINEL" Bundle.listD A s s.heap ∧ (∀ (j : Nat) (q : Nat × String), y_sE[j]? = some q → vk_R "PramGardens" q.1 q.2 (sa j) s) ∧ ∀ w ∈ y_Mw, va_Nw w s
theorem y_T_m {s U : State} (h : y_T A sa s) (hv : s.WarmedH U.vm ∨ U.vm = s.vm) (hk : ∀ q, q < s.heap.size → ¬ A q → U.heap[q]? = s.heap[q]?) : y_T A sa U := by
  have hal : s.vm.Alike U.vm := by
    rcases hv with hv | hv
    · exact hv.alike
    · rw [hv]; exact Vm.Alike.refl s.vm
  obtain ⟨h1, h2, h3, h4⟩ := h
  refine ⟨(h1.kept hk).moved hal, (h2.kept hk).moved hal, fun j q hq => ?_, fun w hw => ?_⟩
  · rcases hv with hv | hv
    · exact (h3 j q hq).warm hv
    · exact (h3 j q hq).same hv
  · have hn := List.all_eq_true.mp y_Mw_k w hw
    have z := h4 w hw
    rcases hv with hv | hv
    · cases w <;> first | (exact absurd hn Bool.false_ne_true) | exact va_Nw.warmC hv z | exact va_Nw.warmD hv z
    · cases w <;> first | (exact absurd hn Bool.false_ne_true) | exact va_Nw.same rfl hv.symm z
theorem y_T_sub (h : y_T A sa s) (hA : ∀ q, A1 q → A q) : y_T A1 sa s := ⟨h.1.narrow hA, h.2.1.narrow hA, h.2.2.1, h.2.2.2⟩
def y_EX (A : Nat → Prop) (hh : Nat) (adS adV : Nat → Nat) (fm : Value) (sa : Nat → Nat) (s : State) : Prop := x_EX A hh adS adV fm s ∧ y_T A sa s
theorem y_EX_m {s U : State} (h : y_EX A hh adS adV fm sa s) (hv : s.WarmedH U.vm ∨ U.vm = s.vm) (hz : s.heap.size ≤ U.heap.size) (hk : ∀ q, q < s.heap.size → ¬ A q → U.heap[q]? = s.heap[q]?) : y_EX A hh adS adV fm sa U := ⟨x_EX_m s U h.1 hv hz hk, y_T_m h.2 hv hk⟩
theorem y_EX_sub (h : y_EX A hh adS adV fm sa s) (hA : ∀ q, A1 q → A q) : y_EX A1 hh adS adV fm sa s := ⟨x_EX_sub h.1 hA, y_T_sub h.2 hA⟩
/-- the words of a throw, here -/
theorem y_hat (hts : ∀ w ∈ x_Ts, w.before args s = true) (h : ∀ w ∈ y_Mw, va_Nw w s) : ∀ w ∈ y_at RX11 188, w.before args s = true := by
  refine vx_hat (B := y_Mw) (fun w hw => hts w (List.mem_filter.mpr ⟨y_Mg w hw, (List.mem_filter.mp hw).2⟩)) (fun w hw => List.mem_cons_of_mem _ hw) (fun w hw => ?_)
  have hn := List.all_eq_true.mp y_Mw_k w hw
  have z := h w hw
  cases w <;> first | (exact absurd hn Bool.false_ne_true) | exact va_Nw.use rfl z
theorem y_ot : ∀ w ∈ Cond.classLink RX11 184 y_N :: Cond.initialized y_N :: y_at RX11 188, vx_ot w = true := by decide +kernel
/-- what is left where one of the three throws -/
def y_XC (D : va_G) (cA : Nat → ClassId) (ad : Nat → Nat → Nat) (A : Nat → Prop) (t : xS) : String → State → State → Prop := vx_X (fun _ : Unit => True) (fun E _ u => E = y_N ∧ va_P D vwCl (x_ws x_K cA ad t x_Cl) u.heap) A
def y_Qi (A : Nat → Prop) : Array Value → State → Outcome → State → Prop := va_Qi (fun _ (_ : Unit) => False) (fun _ _ => True) A
def y_Ql (A : Nat → Prop) : Array Value → State → Outcome → State → Prop := va_Ql (fun _ (_ : Unit) => False) (fun _ _ => True) A
theorem y_hx {t : xS} (hP : va_P D vwCl (x_ws x_K cA ad t x_Cl) H) (hS : va_S A s.heap H locs) : ∀ U : State, s.vm.Alike U.vm → H.size ≤ U.heap.size → (∀ q : Nat, q < H.size → U.heap[q]? = H[q]?) → y_XC D cA ad A t y_N s U := by
  intro U _ hz hk
  refine ⟨(), trivial, ⟨rfl, hP.kept (fun k q hq => hk _ (hP k q hq).lt)⟩, Nat.le_trans hS.1 hz, fun q h1 h2 => ?_⟩
  rw [hk q (Nat.lt_of_lt_of_le h1 hS.1)]
  exact hS.2.1 q h1 h2
set_option maxHeartbeats 4000000 in
set_option maxRecDepth 100000 in
theorem y_field (hl : l.stackTraces = false) (hw : x_Wd cA ad x_Cl A tys hh adS) {t : xS} {x : Int32} (hev : ev 9 f_Garden_has [vR 2 0, vI x] t = some (some (vI 0), t)) :
    vx_Met l yX11_field (Cond.code yX11_field cX11_field 2 (some .int) :: x_Ts) { frames := 20, cells := 1, slots := 6, locals := 900 } (x_Pc D vwCl tys x_K cA ad x_Cl (y_EX A hh adS adV fm sa) [vR 0 0, vI x] t) (y_Qi A) (y_XC D cA ad A t) 1 6 A := by
  refine vx_ofW (cc := cX11_field) (maxL := 2) (ret := some .int) (by decide) rfl ?_
  intro p e s m args below meth c s₁ B hml hout hv
  obtain ⟨rfl, hP, hK, hE⟩ := hv
  have hx := B.exec
  have hb := B.bytes
  have hts0 := atoms_spec (ws := Cond.code yX11_field cX11_field 2 (some .int) :: x_Ts) B.pre
  have hts := fun w hw => hts0 w (List.mem_cons_of_mem _ hw)
  have hown : s.vm.findClass RX11 = some m.cls := findClass_of_methodNamed B.named
  have hlocks := B.notSynchronized
  have hS : va_S A s.heap s.heap [] := va_S.rf
  have hl0 := lv_entry ([.ref (ad 0 0), .int x]) (n := 2) (Nat.le_of_ble_eq_true rfl)
  show W _ _ _ _ _ _ _ _ _ _ _ _ _ _ _ (entryFrame m ([.ref (ad 0 0), .int x] : List Value).toArray 2)
  rw [lg_entry_eq]
  generalize (lg_sl ([.ref (ad 0 0), .int x]) ++ List.replicate (2 - (lg_sl ([.ref (ad 0 0), .int x])).length) Slot.unset).toArray = ls at hl0 ⊢
  have hl1 : lv_has ls 2 [(0, .ref (ad 0 0)), (1, .int x)] := hl0
  generalize hs0 : s.heap = H at hP hS ⊢
  refine lv_aload_n (k := 0) hx hb (by decide +kernel) rfl (lv_at hl1 0 rfl) ?_
  refine va_get (D := D) (ci := 11) (v := .ref (ad 2 0)) (C := RX11) (T := TX11) (N := 14) hx hb hts (x_uA x_uK11) hown hK hP 0 rfl rfl 1 (by decide) (hts (.fieldLink RX11 19 (TX11 1).1 (TX11 1).2.1 (TX11 1).2.2.1) (List.mem_filter.mpr ⟨by decide +kernel, by decide +kernel⟩)) (fun _ h9 => h9) rfl (by decide +kernel) ?_
  refine lv_iload_n (k := 1) hx hb (by decide +kernel) rfl (lv_at hl1 1 rfl) ?_
  have hI : x_inf f_Garden_has = some (2, yX2_has, cX2_has, some .boolean, 1, false) := rfl
  obtain ⟨M, hPr⟩ := x_inf_Pr hI
  refine k_run (rest := []) hx hb hml hown hts hK hE.1 (fun _ h => h) hw hPr hI (c0 := 2) (i0 := 0) (as' := [vI x]) (t := t) (fun v hv => by
    rcases List.mem_cons.mp hv with h | h
    · rw [h]; exact Or.inl (by decide)
    · rw [List.mem_singleton.mp h]; trivial) hev (o := 2) rfl (i := 181) (List.mem_filter.mpr ⟨by decide +kernel, by decide +kernel⟩) (by decide) (by decide) rfl (by decide) (by decide +kernel) hP (by rw [hs0]; exact hS) hl1.1 (by decide) (by decide) (fun H locs hP hS _ _ => ?_)
  refine lv_if_ne (x := 0) (off := 13) (tgt := 21) hx hb (by decide +kernel) (by decide) (fun h => absurd rfl h) (fun _ => ?_)
  exact y_throwS (own := RX11) (ik := 184) (is := 186) (ic := 188) (text := "no such field") (sa := sa 0) (A := A) hx hb hl hown (hts _ (List.mem_filter.mpr ⟨by decide +kernel, by decide +kernel⟩)) (hts _ (List.mem_filter.mpr ⟨by decide +kernel, by decide +kernel⟩)) (hE.2.2.2.1 0 (186, "no such field") rfl) (y_hat hts hE.2.2.2.2) y_ot hE.2.1 hE.2.2.1 hS (hl1.1.trans hml.symm) (by decide +kernel) (by decide +kernel) (by decide +kernel) (by decide +kernel) (by decide +kernel) (fun z hz => absurd hz (fun h => hout z h)) (by decide) (by decide) (by decide) (by decide) hlocks (y_hx hP hS) hS.2.2 (by decide) (by decide)
set_option maxHeartbeats 4000000 in
set_option maxRecDepth 100000 in
theorem y_row (hl : l.stackTraces = false) (hw : x_Wd cA ad x_Cl A tys hh adS) {t : xS} {x : Int32} (hev : ev 9 f_Numbers_has [vR 10 0, vI x] t = some (some (vI 0), t)) :
    vx_Met l yX11_row (Cond.code yX11_row cX11_row 2 (some .long) :: x_Ts) { frames := 20, cells := 1, slots := 6, locals := 900 } (x_Pc D vwCl tys x_K cA ad x_Cl (y_EX A hh adS adV fm sa) [vR 0 0, vI x] t) (y_Ql A) (y_XC D cA ad A t) 1 6 A := by
  refine vx_ofW (cc := cX11_row) (maxL := 2) (ret := some .long) (by decide) rfl ?_
  intro p e s m args below meth c s₁ B hml hout hv
  obtain ⟨rfl, hP, hK, hE⟩ := hv
  have hx := B.exec
  have hb := B.bytes
  have hts0 := atoms_spec (ws := Cond.code yX11_row cX11_row 2 (some .long) :: x_Ts) B.pre
  have hts := fun w hw => hts0 w (List.mem_cons_of_mem _ hw)
  have hown : s.vm.findClass RX11 = some m.cls := findClass_of_methodNamed B.named
  have hlocks := B.notSynchronized
  have hS : va_S A s.heap s.heap [] := va_S.rf
  have hl0 := lv_entry ([.ref (ad 0 0), .int x]) (n := 2) (Nat.le_of_ble_eq_true rfl)
  show W _ _ _ _ _ _ _ _ _ _ _ _ _ _ _ (entryFrame m ([.ref (ad 0 0), .int x] : List Value).toArray 2)
  rw [lg_entry_eq]
  generalize (lg_sl ([.ref (ad 0 0), .int x]) ++ List.replicate (2 - (lg_sl ([.ref (ad 0 0), .int x])).length) Slot.unset).toArray = ls at hl0 ⊢
  have hl1 : lv_has ls 2 [(0, .ref (ad 0 0)), (1, .int x)] := hl0
  generalize hs0 : s.heap = H at hP hS ⊢
  refine lv_aload_n (k := 0) hx hb (by decide +kernel) rfl (lv_at hl1 0 rfl) ?_
  refine va_get (D := D) (ci := 11) (v := .ref (ad 10 0)) (C := RX11) (T := TX11) (N := 14) hx hb hts (x_uA x_uK11) hown hK hP 0 rfl rfl 11 (by decide) (hts (.fieldLink RX11 87 (TX11 11).1 (TX11 11).2.1 (TX11 11).2.2.1) (List.mem_filter.mpr ⟨by decide +kernel, by decide +kernel⟩)) (fun _ h9 => h9) rfl (by decide +kernel) ?_
  refine lv_iload_n (k := 1) hx hb (by decide +kernel) rfl (lv_at hl1 1 rfl) ?_
  have hI : x_inf f_Numbers_has = some (5, yX5_has, cX5_has, some .boolean, 1, false) := rfl
  obtain ⟨M, hPr⟩ := x_inf_Pr hI
  refine k_run (rest := []) hx hb hml hown hts hK hE.1 (fun _ h => h) hw hPr hI (c0 := 10) (i0 := 0) (as' := [vI x]) (t := t) (fun v hv => by
    rcases List.mem_cons.mp hv with h | h
    · rw [h]; exact Or.inl (by decide)
    · rw [List.mem_singleton.mp h]; trivial) hev (o := 5) rfl (i := 484) (List.mem_filter.mpr ⟨by decide +kernel, by decide +kernel⟩) (by decide) (by decide) rfl (by decide) (by decide +kernel) hP (by rw [hs0]; exact hS) hl1.1 (by decide) (by decide) (fun H locs hP hS _ _ => ?_)
  refine lv_if_ne (x := 0) (off := 14) (tgt := 22) hx hb (by decide +kernel) (by decide) (fun h => absurd rfl h) (fun _ => ?_)
  exact y_throwSW (own := RX11) (ik := 184) (is := 485) (ic := 188) (text := "no such number") (sa := sa 2) (A := A) hx hb hl hown (hts _ (List.mem_filter.mpr ⟨by decide +kernel, by decide +kernel⟩)) (hts _ (List.mem_filter.mpr ⟨by decide +kernel, by decide +kernel⟩)) (hE.2.2.2.1 2 (485, "no such number") rfl) (y_hat hts hE.2.2.2.2) y_ot hE.2.1 hE.2.2.1 hS (hl1.1.trans hml.symm) (by decide +kernel) (by decide +kernel) (by decide +kernel) (by decide +kernel) (by decide +kernel) (fun z hz => absurd hz (fun h => hout z h)) (by decide) (by decide) (by decide) (by decide) hlocks (y_hx hP hS) hS.2.2 (by decide) (by decide)
set_option maxHeartbeats 4000000 in
set_option maxRecDepth 100000 in
theorem y_pram (hl : l.stackTraces = false) (hw : x_Wd cA ad x_Cl A tys hh adS) {t : xS} {x y : Int32} {r : Int32} (hev : ev 9 f_Outing_has [vR 3 0, vI x] t = some (some (vI r), t)) (hno : r = 0 ∨ y < 0 ∨ ¬ y ≤ 4) :
    vx_Met l yX11_pram (Cond.code yX11_pram cX11_pram 3 (some .int) :: x_Ts) { frames := 20, cells := 1, slots := 6, locals := 900 } (x_Pc D vwCl tys x_K cA ad x_Cl (y_EX A hh adS adV fm sa) [vR 0 0, vI x, vI y] t) (y_Qi A) (y_XC D cA ad A t) 1 6 A := by
  refine vx_ofW (cc := cX11_pram) (maxL := 3) (ret := some .int) (by decide) rfl ?_
  intro p e s m args below meth c s₁ B hml hout hv
  obtain ⟨rfl, hP, hK, hE⟩ := hv
  have hx := B.exec
  have hb := B.bytes
  have hts0 := atoms_spec (ws := Cond.code yX11_pram cX11_pram 3 (some .int) :: x_Ts) B.pre
  have hts := fun w hw => hts0 w (List.mem_cons_of_mem _ hw)
  have hown : s.vm.findClass RX11 = some m.cls := findClass_of_methodNamed B.named
  have hlocks := B.notSynchronized
  have hS : va_S A s.heap s.heap [] := va_S.rf
  have hl0 := lv_entry ([.ref (ad 0 0), .int x, .int y]) (n := 3) (Nat.le_of_ble_eq_true rfl)
  show W _ _ _ _ _ _ _ _ _ _ _ _ _ _ _ (entryFrame m ([.ref (ad 0 0), .int x, .int y] : List Value).toArray 3)
  rw [lg_entry_eq]
  generalize (lg_sl ([.ref (ad 0 0), .int x, .int y]) ++ List.replicate (3 - (lg_sl ([.ref (ad 0 0), .int x, .int y])).length) Slot.unset).toArray = ls at hl0 ⊢
  have hl1 : lv_has ls 3 [(0, .ref (ad 0 0)), (1, .int x), (2, .int y)] := hl0
  generalize hs0 : s.heap = H at hP hS ⊢
  refine lv_aload_n (k := 0) hx hb (by decide +kernel) rfl (lv_at hl1 0 rfl) ?_
  refine va_get (D := D) (ci := 11) (v := .ref (ad 3 0)) (C := RX11) (T := TX11) (N := 14) hx hb hts (x_uA x_uK11) hown hK hP 0 rfl rfl 2 (by decide) (hts (.fieldLink RX11 26 (TX11 2).1 (TX11 2).2.1 (TX11 2).2.2.1) (List.mem_filter.mpr ⟨by decide +kernel, by decide +kernel⟩)) (fun _ h9 => h9) rfl (by decide +kernel) ?_
  refine lv_iload_n (k := 1) hx hb (by decide +kernel) rfl (lv_at hl1 1 rfl) ?_
  have hI : x_inf f_Outing_has = some (6, yX6_has, cX6_has, some .boolean, 1, false) := rfl
  obtain ⟨M, hPr⟩ := x_inf_Pr hI
  refine k_run (rest := []) hx hb hml hown hts hK hE.1 (fun _ h => h) hw hPr hI (c0 := 3) (i0 := 0) (as' := [vI x]) (t := t) (fun v hv => by
    rcases List.mem_cons.mp hv with h | h
    · rw [h]; exact Or.inl (by decide)
    · rw [List.mem_singleton.mp h]; trivial) hev (o := 6) rfl (i := 194) (List.mem_filter.mpr ⟨by decide +kernel, by decide +kernel⟩) (by decide) (by decide) rfl (by decide) (by decide +kernel) hP (by rw [hs0]; exact hS) hl1.1 (by decide) (by decide) (fun H locs hP hS _ _ => ?_)
  have hfin : W p l e (headSpec (Cond.code yX11_pram cX11_pram 3 (some .int) :: x_Ts) { frames := 20, cells := 1, slots := 6, locals := 900 }).room s m (List.map (x_val ad) [vR 0 0, vI x, vI y]).toArray below meth c H locs 0 0 (vx_MQ below (y_Qi A) (y_XC D cA ad A t) (List.map (x_val ad) [vR 0 0, vI x, vI y]).toArray s 1 6 A) (F0 m 20 ls []) := by
    exact y_throwS (own := RX11) (ik := 184) (is := 195) (ic := 188) (text := "no such pram, or nothing such of it") (sa := sa 1) (A := A) hx hb hl hown (hts _ (List.mem_filter.mpr ⟨by decide +kernel, by decide +kernel⟩)) (hts _ (List.mem_filter.mpr ⟨by decide +kernel, by decide +kernel⟩)) (hE.2.2.2.1 1 (195, "no such pram, or nothing such of it") rfl) (y_hat hts hE.2.2.2.2) y_ot hE.2.1 hE.2.2.1 hS (hl1.1.trans hml.symm) (by decide +kernel) (by decide +kernel) (by decide +kernel) (by decide +kernel) (by decide +kernel) (fun z hz => absurd hz (fun h => hout z h)) (by decide) (by decide) (by decide) (by decide) hlocks (y_hx hP hS) hS.2.2 (by decide) (by decide)
  refine lv_if_eq (x := r) (off := 12) (tgt := 20) hx hb (by decide +kernel) (by decide) (fun _ => hfin) (fun h0 => ?_)
  refine lv_iload_n (k := 2) hx hb (by decide +kernel) rfl (lv_at hl1 2 rfl) ?_
  refine lv_if_lt (x := y) (off := 8) (tgt := 20) hx hb (by decide +kernel) (by decide) (fun _ => hfin) (fun h1 => ?_)
  refine lv_iload_n (k := 2) hx hb (by decide +kernel) rfl (lv_at hl1 2 rfl) ?_
  refine lv_iconst (n := 4) (v := 4) hx hb (by decide +kernel) (by decide) ?_
  refine lv_icmp_le (off := 13) (tgt := 30) hx hb (by decide +kernel) (by decide) (fun h2 => ?_) (fun _ => hfin)
  exact absurd hno (fun h => h.elim h0 (fun h => h.elim h1 (fun h => h h2)))
end THRW

/-! A throw of NoSuchElementException with a text, where its constructor calls by entry 13. -/
section THRX
def y_N : String := "java/util/NoSuchElementException"
def y_sp : List String := ["java/lang/RuntimeException", "java/lang/Exception"]
def y_rx : ByteArray := ⟨#[42, 43, 183, 0, 13, 177]⟩
set_option maxHeartbeats 4000000 in
theorem y_ctor {p : Program} {l : Launch} {e : Env} {R : Room} {s : State} {m : MethodId} {args : Array Value} {below : List Frame} {meth : Method} {c : Code} {W0 : State} {cells slots : Nat} (X : Stand p l e R s m args below meth c W0 [] cells slots) (hexec : p.tables.exec = Jvm.exec) (htr : e.platform.stackTraces = false) {own : String} {ic : Nat} (hown : s.vm.findClass own = some m.cls)
    (h : ∀ w ∈ Bundle.ownAtomsX own ic y_N 13 y_rx y_sp, w.before args s = true) {a : Addr} {cX : ClassId} {kX : Class} (hfX : s.vm.findClass y_N = some cX) (hkX : s.vm.classes[cX]? = some kX) (hcell : W0.heap[a]? = some (freshCell cX kX)) (ha : s.heap.size ≤ a) {msg : Value} (hmsg : msg.isRef = true) {g : JFrame} (hg : g.method = m) (hsize : g.locals.size = c.maxLocals) (hlk : g.locked = none) (hen : g.entered = []) {rest : List Value} (hst : g.stack = msg :: .ref a :: .ref a :: rest)
    (d4 : decode c.code g.pc = .ok (.invokespecial ic, 3)) (d7 : decode c.code (g.pc + 3) = .ok (.athrow, 1)) (hout : ∀ x ∈ c.exceptionTable.toList, covers x (g.pc + 3) = false) (hRf : 5 < R.frames) (hRl : 2 * g.monitorRoom + ((Value.ref a :: rest).map fun v => v.category).sum + 81 ≤ R.locals) (hlocks : meth.locks = false) :
    ∃ U, Steps p.tables e below (W0.setTop g) U ∧ U.status = .running ∧ Ended U below (.threw a) ∧ s.WarmedH U.vm ∧ s.sameButNew ({ U with vm := s.vm } : State) [] cells slots ∧ ∃ ce : Cell, U.heap[a]? = some ce ∧ ce.vm = .none ∧ s.vm.findClass y_N = some ce.cls := by
  have hpl : e.platform.magicAccessors = ({} : Platform).magicAccessors := by rw [X.admits.platform]
  have hpl1 : e.platform.frameOwnsMonitors = true := by rw [X.admits.platform]
  have hpl2 : e.platform.finalization = false := by rw [X.admits.platform]
  have hA : ∀ w ∈ Bundle.throwableAtoms, w.before args s = true := fun w hw => h w (by unfold Bundle.ownAtomsX; exact List.mem_append_left _ (List.mem_append_left _ (List.mem_append_left _ hw)))
  have hB : ∀ w ∈ Bundle.throwableSAtoms, w.before args s = true := fun w hw => h w (by unfold Bundle.ownAtomsX; exact List.mem_append_left _ (List.mem_append_left _ (List.mem_append_right _ hw)))
  have hC : ∀ w ∈ Bundle.chainSAtomsX y_N 13 y_rx y_sp, w.before args s = true := fun w hw => h w (by unfold Bundle.ownAtomsX; exact List.mem_append_left _ (List.mem_append_right _ hw))
  have hE : ∀ w ∈ [Cond.methodLink own ic (Bundle.initS y_N), Cond.instantiable y_N 6, Cond.castable y_N y_N, Cond.selects y_N Bundle.tFill0 Bundle.tFill0, Cond.selects y_N Bundle.tFill Bundle.tFill, Cond.lays y_N Bundle.tN "cause" "Ljava/lang/Throwable;", Cond.lays y_N Bundle.tN "stackTrace" Bundle.steD, Cond.lays y_N Bundle.tN "suppressedExceptions" Bundle.listD, Cond.lays y_N Bundle.tN "detailMessage" "Ljava/lang/String;", Cond.isRef (Term.static Bundle.tN "UNASSIGNED_STACK" Bundle.steD), Cond.isRef (Term.static Bundle.tN "SUPPRESSED_SENTINEL" Bundle.listD), Cond.fieldLink Bundle.tN 198 Bundle.tN "backtrace" "Ljava/lang/Object;", Cond.lays Bundle.tN Bundle.tN "backtrace" "Ljava/lang/Object;", Cond.lays y_N Bundle.tN "backtrace" "Ljava/lang/Object;"], w.before args s = true := fun w hw => h w (by unfold Bundle.ownAtomsX; exact List.mem_append_right _ hw)
  obtain ⟨T, Z0, hT, hZ0, hTies⟩ := ThrowableC.of_atoms hpl1 hpl2 hpl hA
  obtain ⟨Z, M, hZ, hM, hnm⟩ := Init0T.ofS_atoms hpl hT hTies hB
  obtain ⟨P1, Ps, hlenP, hP1, hPs, hnP, hsup, hpass⟩ := Bundle.chainSX hpl hnm (ix := 13) (rx := y_rx) (by decide) (by decide) (by decide) (by decide) y_sp y_N (by decide) (by decide) hC
  have hPl : Ps.length = 2 := hlenP
  obtain ⟨cellS, hcS, hcSs⟩ := hTies.statics
  have hlt : T.aS < s.heap.size := (Array.getElem?_eq_some_iff.mp hcS).1
  have hcS' : W0.heap[T.aS]? = some cellS := by
    have z := (vx_frame (U := W0) X.same).2 T.aS hlt (fun z hz => nomatch hz)
    rw [z]; exact hcS
  obtain ⟨u0, hu0⟩ := Cond.staticRefV hTies.unassigned hT.unassignedStatic hT.statics hcS hcSs (hE _ (by simp))
  obtain ⟨sen, hsen⟩ := Cond.staticRefV hTies.sentinel hT.sentinelStatic hT.statics hcS hcSs (hE _ (by simp))
  obtain ⟨c1, k1, hc1, hk1, hord, -, -, hn6⟩ := Cond.instantiable_spec (hE (Cond.instantiable y_N 6) (by simp))
  cases Option.some.inj (hc1.symm.trans hfX)
  cases Option.some.inj (hk1.symm.trans hkX)
  have hsel0 : selectMethod e.platform s.vm cX T.fill0 = .method T.fill0 := by
    obtain ⟨c2, r, m2, q1, q2, q3, q4, -⟩ := Cond.selects_spec (hE (Cond.selects y_N Bundle.tFill0 Bundle.tFill0) (by simp))
    cases Option.some.inj (q1.symm.trans hfX)
    cases Option.some.inj (q2.symm.trans (State.methodFound?_of_named hTies.fill0 (by decide)))
    cases Option.some.inj (q3.symm.trans hTies.fill0)
    rw [Launch.admits_selectMethod X.admits]; exact q4
  have hsel1 : selectMethod e.platform s.vm cX T.fill = .method T.fill := by
    obtain ⟨c2, r, m2, q1, q2, q3, q4, -⟩ := Cond.selects_spec (hE (Cond.selects y_N Bundle.tFill Bundle.tFill) (by simp))
    cases Option.some.inj (q1.symm.trans hfX)
    cases Option.some.inj (q2.symm.trans (State.methodFound?_of_named hTies.fill (by decide)))
    cases Option.some.inj (q3.symm.trans hTies.fill)
    rw [Launch.admits_selectMethod X.admits]; exact q4
  obtain ⟨im, hmF⟩ := hTies.msg
  obtain ⟨lc1, lc2, lc3, lc4⟩ := Cond.laysAt hfX hkX hTies.cause (hE _ (by simp))
  obtain ⟨ls1, ls2, ls3, ls4⟩ := Cond.laysAt hfX hkX hTies.stack (hE _ (by simp))
  obtain ⟨lu1, lu2, lu3, lu4⟩ := Cond.laysAt hfX hkX hTies.supp (hE _ (by simp))
  obtain ⟨lm1, lm2, lm3, lm4⟩ := Cond.laysAt hfX hkX hmF (hE _ (by simp))
  obtain ⟨ci, ib, fB, b1, b2, b3, b4, -, b5, b6, b7⟩ := Cond.ownField hTies.found hT.cls (show parseFieldDescriptor "Ljava/lang/Object;" = some (.object "java/lang/Object") by decide) (hE (Cond.fieldLink Bundle.tN 198 Bundle.tN "backtrace" "Ljava/lang/Object;") (by simp)) (hE (Cond.lays Bundle.tN Bundle.tN "backtrace" "Ljava/lang/Object;") (by simp)) e.platform hpl
  obtain ⟨lb1, lb2, lb3, lb4⟩ := Cond.laysAt hfX hkX b7 (hE (Cond.lays y_N Bundle.tN "backtrace" "Ljava/lang/Object;") (by simp))
  have n1 : fB.slot ≠ T.fCause.slot := Cond.laysApart lb3 lc3 lb4 lc4 (by rw [b5, hTies.causeName]; decide)
  have n2 : fB.slot ≠ T.fStack.slot := Cond.laysApart lb3 ls3 lb4 ls4 (by rw [b5, hTies.stackName]; decide)
  have n3 : fB.slot ≠ T.fSupp.slot := Cond.laysApart lb3 lu3 lb4 lu4 (by rw [b5, hTies.suppName]; decide)
  have tk1 : Takes s (freshCell cX kX) T.fCause (.ref a) := Takes.of_laid hkX hord lc1 (by rw [hTies.causeType]; exact fits_refV_object _ ⟨.ref a, rfl⟩)
  have tk2 : Takes s (freshCell cX kX) T.fStack u0.v := Takes.of_laid hkX hord ls1 (by rw [hTies.stackType]; exact fits_refV_array _ u0)
  have tk3 : Takes s (freshCell cX kX) T.fSupp sen.v := Takes.of_laid hkX hord lu1 (by rw [hTies.suppType]; exact fits_refV_object _ sen)
  have tk4 : Takes s (freshCell cX kX) T.fMsg msg := Takes.of_laid hkX hord lm1 (by rw [hTies.msgType]; exact fits_refV_object _ ⟨msg, hmsg⟩)
  obtain ⟨tm, methM, cd, k9, vm', q1, -, -, -, -, -, -, -, hWm, hgo⟩ := Steps.initColdS X.here hexec X.warmed hpl hown (idx := ic) (t := Bundle.initS y_N) rfl rfl (by decide) (args := args) (bytes := y_rx) (maxL := 2) (hE _ (by simp)) (hC _ (by decide)) (hC _ (by decide)) (f := g) hg hst d4
  cases Option.some.inj (q1.symm.trans hnP)
  have X2 := X.noted hWm
  have hskip : SkipFacts T e.platform s (fun u => u) u0 ((preparedCellV T.toThrowableT (freshCell cX kX) a u0 sen).withEntry (W0.setVm vm').cur) := by
    refine ⟨⟨ci, ib, fB⟩, ⟨b1, b2, b3, b4⟩, ?_, fun _ _ => rfl⟩
    have z := fresh_default (c := cX) lb1
    rw [b6] at z
    show ((((freshCell cX kX).slots.setIfInBounds T.fCause.slot (.ref a)).setIfInBounds T.fStack.slot u0.v).setIfInBounds T.fSupp.slot sen.v)[fB.slot]? = some .null
    rw [Array.getElem?_setIfInBounds_ne n3.symm, Array.getElem?_setIfInBounds_ne n2.symm, Array.getElem?_setIfInBounds_ne n1.symm]
    exact z
  obtain ⟨vm2, X3, hgo2⟩ := X2.ctorMessageOffV hexec (g := { g with stack := .ref a :: rest }) hg hsize T hT Z hZ M hM (P1 :: Ps) (fun P hP => (List.mem_cons.mp hP).elim (fun z => by rw [z]; exact hP1) (hPs P)) ⟨hsup, hpass⟩ (u0 := u0) (sen := sen) (self := a) (msg := msg) hmsg (cell := freshCell cX kX) (cellS := cellS) hcell (fun k z => nomatch z) (fun z => nomatch z) rfl rfl hsel0 hsel1 hcS' (Nat.ne_of_lt (Nat.lt_of_lt_of_le hlt ha)) (by
    intro z; rw [z] at hcSs; cases hcSs) hu0 hsen tk1 tk2 tk3 tk4 hTies.objLocals hskip htr (ig := .invokespecial ic) (len := 3) [] d4 (by rw [List.length_cons, hPl]; omega) (by rw [List.length_cons, hPl]; exact hRl)
  obtain ⟨s1, s2, s3, s4, s5⟩ := X3.athrowLeaves hexec (g := { g with pc := g.pc + 3, stack := .ref a :: rest }) hg hlk hen hout (a := a) (rest := rest) rfl d7 hlocks
  refine ⟨_, hgo _ (fun acts => by rw [doInvoke_state]; exact hgo2 _ s1), s2, s3, s4, s5.weaken (fun x hx hl => ?_) (Nat.le_refl _) (Nat.le_refl _), _, heapAt_setCell_self _ (Array.getElem?_eq_some_iff.mp hcell).1, rfl, hfX⟩
  have hb : x.base = a := by
    simp only [List.nil_append, List.mem_cons, List.not_mem_nil, or_false] at hx
    rcases hx with rfl | rfl | rfl | rfl | rfl <;> rfl
  exact absurd hl (by rw [hb]; exact Nat.not_lt.mpr ha)
/-- the words of such a throw but the four that speak of the heap -/
def y_at (own : String) (ic : Nat) : List Cond := (Bundle.ownAtomsX own ic y_N 13 y_rx y_sp).filter vx_no
section YENDS
variable {p : Program} {l : Launch} {e : Env} {R : Room} {s : State} {m : MethodId} {args : Array Value} {below : List Frame} {meth : Method} {c : Code} {H : Heap} {locs : List Loc} {cells slots : Nat} {Q : State → Prop}
variable {mc ms : Nat} {free : Addr → Prop} {A0 A1 : Nat → Prop} {H0 : Heap} {a : Array Value} {ls : Array Slot} {st0 rest : List Value}
variable {Qc : Array Value → State → Outcome → State → Prop} {XC : String → State → State → Prop}
theorem y_throwS {cc : ByteArray} {pc : Nat} (hexec : p.tables.exec = Jvm.exec) (hb : c.code = cc) (hl : l.stackTraces = false) {own text : String} {ik is ic mc ms sa : Nat} {A : Nat → Prop}
    (hown : s.vm.findClass own = some m.cls) 
    (hk : (Cond.classLink own ik y_N).before args s = true) (hini : (Cond.initialized y_N).before args s = true) (hstr : vk_R own is text sa s) (hat : ∀ w ∈ y_at own ic, w.before args s = true)
    (hgood : ∀ w ∈ Cond.classLink own ik y_N :: Cond.initialized y_N :: y_at own ic, vx_ot w = true)
    (hU : vx_Zq Bundle.tN "UNASSIGNED_STACK" Bundle.steD A s s.heap) (hN : vx_Zq Bundle.tN "SUPPRESSED_SENTINEL" Bundle.listD A s s.heap) (hS : va_S A s.heap H locs) (hsize : ls.size = c.maxLocals)
    (d0 : decode cc pc = .ok (.new ik, 3)) (d3 : decode cc (pc + 3) = .ok (.dup, 1)) (d4 : decode cc (pc + 4) = .ok (.ldc is, 2)) (d6 : decode cc (pc + 6) = .ok (.invokespecial ic, 3)) (d9 : decode cc (pc + 9) = .ok (.athrow, 1))
    (hout : ∀ x ∈ c.exceptionTable.toList, covers x (pc + 9) = false)
    (hRframes : 5 < R.frames) (hRlocals : (rest.map fun v => v.category).sum + 82 ≤ R.locals) (hRcells : cells + 1 ≤ R.cells) (hRslots : slots + 6 ≤ R.slots) (hlocks : meth.locks = false)
    (hx : ∀ t : State, s.vm.Alike t.vm → H.size ≤ t.heap.size → (∀ q : Nat, q < H.size → t.heap[q]? = H[q]?) → XC y_N s t)
    (hf : ∀ z ∈ locs, free z.base) (hc : cells + 1 ≤ mc) (hs : slots + 6 ≤ ms) :
    W p l e R s m args below meth c H locs cells slots (vx_MQ below Qc XC args s mc ms free) (F0 m pc ls rest) := by
  intro T hT X
  have htr : e.platform.stackTraces = false := (show e.platform.stackTraces = l.stackTraces by rw [X.admits.platform]).trans hl
  have Y := vx_rebase X (R' := { frames := R.frames, locals := R.locals, cells := 1, slots := 6 }) (Nat.le_refl _) (Nat.le_refl _) hRcells hRslots
  obtain ⟨s', hA⟩ : ∃ z, z = (T.setVm s.vm).setFrames (.invoking m args :: below) := ⟨_, rfl⟩
  rw [← hA] at Y
  have hvm : s'.vm = s.vm := by rw [hA]; rfl
  have hhp : s'.heap = H := by rw [hA]; exact hT
  have hW0 : s.WarmedH s'.vm := by rw [hvm]; exact State.WarmedH.refl s
  have hat' : ∀ w ∈ y_at own ic, w.before args s' = true := fun w hw => vx_ot_at hW0 hvm.symm (hgood w (List.mem_cons_of_mem _ (List.mem_cons_of_mem _ hw))) (hat w hw)
  have hk' : (Cond.classLink own ik y_N).before args s' = true := vx_ot_at hW0 hvm.symm (hgood _ List.mem_cons_self) hk
  have hini' : (Cond.initialized y_N).before args s' = true := vx_ot_at hW0 hvm.symm (hgood _ (List.mem_cons_of_mem _ List.mem_cons_self)) hini
  have hU' : vx_Zq Bundle.tN "UNASSIGNED_STACK" Bundle.steD A s' s'.heap := by rw [hhp]; exact vx_Zq.moved hW0.alike (hU.kept hS.2.1)
  have hN' : vx_Zq Bundle.tN "SUPPRESSED_SENTINEL" Bundle.listD A s' s'.heap := by rw [hhp]; exact vx_Zq.moved hW0.alike (hN.kept hS.2.1)
  have h : ∀ w ∈ Bundle.ownAtomsX own ic y_N 13 y_rx y_sp, w.before args s' = true := vx_own hat' (vx_isRefq hU'.1) (vx_isRefq hN'.1) hU'.2.word hN'.2.word
  have hown' : s'.vm.findClass own = some m.cls := by rw [hvm]; exact hown
  have hins : (Cond.instantiable y_N 6).before args s' = true := h _ (by simp [Bundle.ownAtomsX])
  obtain ⟨vm₁, cX, kX, hfX, hkX, -, -, X₁, st1⟩ := Y.newCold hexec (own := own) (C := y_N) (index := ik) (n := 6) hown' hk' hins hini'
    (g := F0 m pc ls rest) rfl (by rw [hb]; exact d0) (Nat.le_refl _) (Nat.le_refl _)
  generalize hT1 : (T.setVm vm₁).pushCell { cls := cX, slots := kX.instanceTypes.map defaultValue, vm := .none } = T1 at X₁ st1
  have hcat : (Value.ref T.heap.size).category = 1 := rfl
  have hcellA : T1.heap[T.heap.size]? = some (freshCell cX kX) := by rw [← hT1]; exact State.heap_pushCell_size _ _
  have d3' : decode c.code (pc + 3) = .ok (.dup, 1) := by rw [hb]; exact d3
  have d4' : decode c.code (pc + 4) = .ok (.ldc is, 2) := by rw [hb]; exact d4
  have hstr' : vk_R own is text sa s' := vk_R.warm hW0 hstr
  obtain ⟨U, hsteps, hrun, hend, hW, hsame, ce, hce, hO1, hO2⟩ := y_ctor X₁ hexec htr (own := own) (ic := ic) hown' h hfX hkX hcellA (by rw [hhp, hT]; exact Nat.le_refl _) (msg := .ref sa) rfl
    (g := { method := m, pc := pc + 6, locals := ls, stack := .ref sa :: .ref T.heap.size :: .ref T.heap.size :: rest, locked := none }) rfl hsize rfl rfl (rest := rest) rfl
    (by rw [hb]; exact d6) (by rw [hb]; exact d9) hout hRframes (by simp only [List.map_cons, List.sum_cons, hcat]; omega) hlocks
  obtain ⟨f1, f2⟩ := vx_frame hsame
  rw [hhp] at f1 f2
  have hWs : s.WarmedH U.vm := State.WarmedH.trans hW0 hW
  have hcl : s.vm.findClass y_N = some ce.cls := by
    have h9 := hO2
    rw [hvm] at h9
    exact h9
  have hall : s.sameButNew ({ U with vm := s.vm } : State) locs mc ms := by
    subst hA
    obtain ⟨e1, e2⟩ := hsame
    rw [State.setFrames_setFrames] at e1
    have h2 : (T.setVm s.vm).sameButNew ({ U with vm := s.vm } : State) [] (0 + 1) (0 + 6) := ⟨e1, e2⟩
    have h3 := X.same.trans h2
    rw [List.append_nil] at h3
    exact h3.mono hc hs
  refine ⟨U, ?_, .threw T.heap.size, hrun, hend, Or.inr ⟨T.heap.size, rfl, y_N, ce, locs, hx U hWs.alike f1 (fun q hq => f2 q hq (fun z hz => nomatch hz)), hce, hO1, hcl, hWs, hall, hf⟩⟩
  refine st1 _ ?_
  show Steps p.tables e below (T1.setTop { method := m, pc := pc + 3, locals := ls, stack := .ref T.heap.size :: rest, locked := none }) _
  jvm_step X₁.here [X₁.here.top, hexec, d3', Value.category]
  exact X₁.ldcString hexec (own := own) (text := text) (index := is) (a := sa) hown' hstr'.1 hstr'.2
    (g := { method := m, pc := pc + 4, locals := ls, stack := .ref T.heap.size :: .ref T.heap.size :: rest, locked := none }) rfl d4' _ hsteps
theorem y_throwSW {cc : ByteArray} {pc : Nat} (hexec : p.tables.exec = Jvm.exec) (hb : c.code = cc) (hl : l.stackTraces = false) {own text : String} {ik is ic mc ms sa : Nat} {A : Nat → Prop}
    (hown : s.vm.findClass own = some m.cls) 
    (hk : (Cond.classLink own ik y_N).before args s = true) (hini : (Cond.initialized y_N).before args s = true) (hstr : vk_R own is text sa s) (hat : ∀ w ∈ y_at own ic, w.before args s = true)
    (hgood : ∀ w ∈ Cond.classLink own ik y_N :: Cond.initialized y_N :: y_at own ic, vx_ot w = true)
    (hU : vx_Zq Bundle.tN "UNASSIGNED_STACK" Bundle.steD A s s.heap) (hN : vx_Zq Bundle.tN "SUPPRESSED_SENTINEL" Bundle.listD A s s.heap) (hS : va_S A s.heap H locs) (hsize : ls.size = c.maxLocals)
    (d0 : decode cc pc = .ok (.new ik, 3)) (d3 : decode cc (pc + 3) = .ok (.dup, 1)) (d4 : decode cc (pc + 4) = .ok (.ldc_w is, 3)) (d7 : decode cc (pc + 7) = .ok (.invokespecial ic, 3)) (d10 : decode cc (pc + 10) = .ok (.athrow, 1))
    (hout : ∀ x ∈ c.exceptionTable.toList, covers x (pc + 10) = false)
    (hRframes : 5 < R.frames) (hRlocals : (rest.map fun v => v.category).sum + 82 ≤ R.locals) (hRcells : cells + 1 ≤ R.cells) (hRslots : slots + 6 ≤ R.slots) (hlocks : meth.locks = false)
    (hx : ∀ t : State, s.vm.Alike t.vm → H.size ≤ t.heap.size → (∀ q : Nat, q < H.size → t.heap[q]? = H[q]?) → XC y_N s t)
    (hf : ∀ z ∈ locs, free z.base) (hc : cells + 1 ≤ mc) (hs : slots + 6 ≤ ms) :
    W p l e R s m args below meth c H locs cells slots (vx_MQ below Qc XC args s mc ms free) (F0 m pc ls rest) := by
  intro T hT X
  have htr : e.platform.stackTraces = false := (show e.platform.stackTraces = l.stackTraces by rw [X.admits.platform]).trans hl
  have Y := vx_rebase X (R' := { frames := R.frames, locals := R.locals, cells := 1, slots := 6 }) (Nat.le_refl _) (Nat.le_refl _) hRcells hRslots
  obtain ⟨s', hA⟩ : ∃ z, z = (T.setVm s.vm).setFrames (.invoking m args :: below) := ⟨_, rfl⟩
  rw [← hA] at Y
  have hvm : s'.vm = s.vm := by rw [hA]; rfl
  have hhp : s'.heap = H := by rw [hA]; exact hT
  have hW0 : s.WarmedH s'.vm := by rw [hvm]; exact State.WarmedH.refl s
  have hat' : ∀ w ∈ y_at own ic, w.before args s' = true := fun w hw => vx_ot_at hW0 hvm.symm (hgood w (List.mem_cons_of_mem _ (List.mem_cons_of_mem _ hw))) (hat w hw)
  have hk' : (Cond.classLink own ik y_N).before args s' = true := vx_ot_at hW0 hvm.symm (hgood _ List.mem_cons_self) hk
  have hini' : (Cond.initialized y_N).before args s' = true := vx_ot_at hW0 hvm.symm (hgood _ (List.mem_cons_of_mem _ List.mem_cons_self)) hini
  have hU' : vx_Zq Bundle.tN "UNASSIGNED_STACK" Bundle.steD A s' s'.heap := by rw [hhp]; exact vx_Zq.moved hW0.alike (hU.kept hS.2.1)
  have hN' : vx_Zq Bundle.tN "SUPPRESSED_SENTINEL" Bundle.listD A s' s'.heap := by rw [hhp]; exact vx_Zq.moved hW0.alike (hN.kept hS.2.1)
  have h : ∀ w ∈ Bundle.ownAtomsX own ic y_N 13 y_rx y_sp, w.before args s' = true := vx_own hat' (vx_isRefq hU'.1) (vx_isRefq hN'.1) hU'.2.word hN'.2.word
  have hown' : s'.vm.findClass own = some m.cls := by rw [hvm]; exact hown
  have hins : (Cond.instantiable y_N 6).before args s' = true := h _ (by simp [Bundle.ownAtomsX])
  obtain ⟨vm₁, cX, kX, hfX, hkX, -, -, X₁, st1⟩ := Y.newCold hexec (own := own) (C := y_N) (index := ik) (n := 6) hown' hk' hins hini'
    (g := F0 m pc ls rest) rfl (by rw [hb]; exact d0) (Nat.le_refl _) (Nat.le_refl _)
  generalize hT1 : (T.setVm vm₁).pushCell { cls := cX, slots := kX.instanceTypes.map defaultValue, vm := .none } = T1 at X₁ st1
  have hcat : (Value.ref T.heap.size).category = 1 := rfl
  have hcellA : T1.heap[T.heap.size]? = some (freshCell cX kX) := by rw [← hT1]; exact State.heap_pushCell_size _ _
  have d3' : decode c.code (pc + 3) = .ok (.dup, 1) := by rw [hb]; exact d3
  have d4' : decode c.code (pc + 4) = .ok (.ldc_w is, 3) := by rw [hb]; exact d4
  have hstr' : vk_R own is text sa s' := vk_R.warm hW0 hstr
  obtain ⟨U, hsteps, hrun, hend, hW, hsame, ce, hce, hO1, hO2⟩ := y_ctor X₁ hexec htr (own := own) (ic := ic) hown' h hfX hkX hcellA (by rw [hhp, hT]; exact Nat.le_refl _) (msg := .ref sa) rfl
    (g := { method := m, pc := pc + 7, locals := ls, stack := .ref sa :: .ref T.heap.size :: .ref T.heap.size :: rest, locked := none }) rfl hsize rfl rfl (rest := rest) rfl
    (by rw [hb]; exact d7) (by rw [hb]; exact d10) hout hRframes (by simp only [List.map_cons, List.sum_cons, hcat]; omega) hlocks
  obtain ⟨f1, f2⟩ := vx_frame hsame
  rw [hhp] at f1 f2
  have hWs : s.WarmedH U.vm := State.WarmedH.trans hW0 hW
  have hcl : s.vm.findClass y_N = some ce.cls := by
    have h9 := hO2
    rw [hvm] at h9
    exact h9
  have hall : s.sameButNew ({ U with vm := s.vm } : State) locs mc ms := by
    subst hA
    obtain ⟨e1, e2⟩ := hsame
    rw [State.setFrames_setFrames] at e1
    have h2 : (T.setVm s.vm).sameButNew ({ U with vm := s.vm } : State) [] (0 + 1) (0 + 6) := ⟨e1, e2⟩
    have h3 := X.same.trans h2
    rw [List.append_nil] at h3
    exact h3.mono hc hs
  refine ⟨U, ?_, .threw T.heap.size, hrun, hend, Or.inr ⟨T.heap.size, rfl, y_N, ce, locs, hx U hWs.alike f1 (fun q hq => f2 q hq (fun z hz => nomatch hz)), hce, hO1, hcl, hWs, hall, hf⟩⟩
  refine st1 _ ?_
  show Steps p.tables e below (T1.setTop { method := m, pc := pc + 3, locals := ls, stack := .ref T.heap.size :: rest, locked := none }) _
  jvm_step X₁.here [X₁.here.top, hexec, d3', Value.category]
  exact X₁.ldcStringW hexec (own := own) (text := text) (index := is) (a := sa) hown' hstr'.1 hstr'.2
    (g := { method := m, pc := pc + 4, locals := ls, stack := .ref T.heap.size :: .ref T.heap.size :: rest, locked := none }) rfl d4' _ hsteps
end YENDS
end THRX

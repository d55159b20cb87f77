/-! Making objects: the steps of a constructor. -/
section CTOR
variable {p : Program} {l : Launch} {e : Env} {R : Room} {s : State} {m : MethodId} {args : Array Value} {below : List Frame} {meth : Method} {c : Code} {H : Heap} {locs : List Loc} {cells slots : Nat} {Q : State → Prop} {D : va_G} {A : Nat → Prop} {tys : List (ClassId × FieldType)} {cA : Nat → ClassId} {cc : ByteArray} {C : String} {T : u_T} {N ci : Nat} {ty0 : Nat → FieldType} {pc : Nat} {ls : Array Slot} {rest : List Value} {h0 : Nat} {fs : List Value} {ws : va_W}
def x_z : xS := (fun _ _ _ => 0, fun _ _ _ => 0)
/-- a new row of n, of the kind j -/
def k_Z (cA : Nat → ClassId) (j n : Nat) : va_E := .inl (cA j, n, x_row j x_z 0 0)
def k_E (p : Program) (s : State) (m : MethodId) (args : Array Value) (meth : Method) (c : Code) (cc : ByteArray) (C : String) (T : u_T) (N ci : Nat) (ty0 : Nat → FieldType) (D : va_G) (A : Nat → Prop) (tys : List (ClassId × FieldType)) (cA : Nat → ClassId) : Prop :=
  p.tables.exec = Jvm.exec ∧ c.code = cc ∧ (∀ w ∈ x_Ts, w.before args s = true) ∧ (∀ w ∈ u_ws C T N, w ∈ x_Ts) ∧ (∀ k, k < N → parseFieldDescriptor (T k).2.2.1 = some (ty0 k)) ∧ (∀ a, a < N → ∀ b, b < N → a ≠ b → (T a).2.1 ≠ (T b).2.1) ∧ s.vm.findClass C = some m.cls ∧ meth.name = "<init>" ∧ va_K D vwCl tys s ∧ (∀ q, s.heap.size ≤ q → A q) ∧ vwCl[ci]? = some (C, T, N) ∧ tys = [(cA 0, .int), (cA 1, .long), (cA 2, .boolean)]
theorem k_put (E : k_E p s m args meth c cc C T N ci ty0 D A tys cA) (hP : va_P D vwCl ((h0, .inr (ci, fs)) :: ws) H) (hD : va_D A ((h0, .inr (ci, fs)) :: ws)) (hS : va_S A s.heap H locs) (k : Nat) (hk : k < N) (hl : k < fs.length) {idx : Nat} (hlink : Cond.fieldLink C idx (T k).1 (T k).2.1 (T k).2.2.1 ∈ x_Ts) (hdecl : (T k).1 = C) {v : Value} (hn : narrow (ty0 k) v = v) (hf : fits (ty0 k) v = true) (hdg : decode cc pc = .ok (.putfield idx, 3))
    (kk : ∀ (H1 : Heap) (locs1 : List Loc), va_P D vwCl ((h0, .inr (ci, fs.set k v)) :: ws) H1 → va_D A ((h0, .inr (ci, fs.set k v)) :: ws) → va_S A s.heap H1 locs1 → W p l e R s m args below meth c H1 locs1 cells slots Q (F0 m (pc + 3) ls rest)) : W p l e R s m args below meth c H locs cells slots Q (F0 m pc ls (v :: .ref h0 :: rest)) := by
  obtain ⟨hx, hb, hts, hin, hty, hnm, hown, hini, hK, hA, hc, -⟩ := E
  cases hq : (T k).2.2.2 with
  | true => exact va_putF (D := D) (ci := ci) (v := v) (ty := ty0 k) (C := C) (T := T) (N := N) hx hb hts hin ty0 hty hnm hown hK hP hD hS 0 rfl hc k hk (hts _ hlink) (fun _ h9 => h9) hq hini hdecl (hty k hk) hn hf hl hdg kk
  | false => exact va_put (D := D) (ci := ci) (v := v) (ty := ty0 k) (C := C) (T := T) (N := N) hx hb hts hin ty0 hty hnm hown hK hP hD hS 0 rfl hc k hk (hts _ hlink) (fun _ h9 => h9) hq (hty k hk) hn hf hl hdg kk
def k_aT (j : Nat) : ArrayType := match j with
  | 0 => .int
  | 1 => .long
  | _ => .boolean
def k_fT (j : Nat) : FieldType := match j with
  | 0 => .int
  | 1 => .long
  | _ => .boolean
theorem k_new0 (hx : p.tables.exec = Jvm.exec) (hb : c.code = cc) (hts : ∀ w ∈ x_Ts, w.before args s = true) (hK : va_K D vwCl tys s) (hA : ∀ q, s.heap.size ≤ q → A q) (htys : tys = [(cA 0, .int), (cA 1, .long), (cA 2, .boolean)]) (hP : va_P D vwCl ws H) (hD : va_D A ws) (hS : va_S A s.heap H locs) (j : Nat) (hj : j < 3) {n : Int32} {n' : Nat} (hn : ¬ n < 0) (hN : n.toNatClampNeg = n') (hb8 : n' ≤ 60000000) (hcells : cells + 1 ≤ R.cells) (hslots : slots + n' ≤ R.slots) (hdg : decode cc pc = .ok (.newarray (k_aT j), 2))
    (kk : ∀ (q : Nat) (H1 : Heap), va_P D vwCl (ws ++ [(q, k_Z cA j n')]) H1 → va_D A (ws ++ [(q, k_Z cA j n')]) → va_S A s.heap H1 locs → W p l e R s m args below meth c H1 locs (cells + 1) (slots + n') Q (F0 m (pc + 2) ls (.ref q :: rest))) : W p l e R s m args below meth c H locs cells slots Q (F0 m pc ls (.int n :: rest)) := by
  have key : ∀ (t : FieldType) (cA0 cA1 : ClassId), (∀ C, t ≠ .object C) → va_RA s cA0 t → va_RA s cA1 t → cA0 = cA1 := by
    intro t cA0 cA1 ht h1 h2
    cases t with
    | object C => exact absurd rfl (ht C)
    | _ =>
      have h1 : s.vm.findClass _ = some cA0 := h1
      have h2 : s.vm.findClass _ = some cA1 := h2
      exact Option.some.inj (h1.symm.trans h2)
  have hw : ∀ t, Cond.arrayClass t ∈ x_Ts → (Cond.arrayClass t).before args s = true := fun t h => hts _ h
  rcases (by omega : j = 0 ∨ j = 1 ∨ j = 2) with rfl | rfl | rfl
  · refine va_newa (atype := .int) (ty := .int) (a0 := (n', x_row 0 x_z 0 0)) hx hb (hw .int (List.mem_filter.mpr ⟨by decide +kernel, by decide +kernel⟩)) rfl hK hP hD hS hA (fun _ => rfl) hn hN (by show n' * 4 ≤ _; omega) hcells hslots hdg (fun q cB H1 g1 g2 g3 g4 => ?_)
    have e : cB = cA 0 := key .int _ _ (fun _ z => by cases z) (g1.2 tys.length (cB, .int) (by simp)).2 (hK.2 0 (cA 0, .int) (by rw [htys]; rfl)).2
    subst e
    exact kk q H1 g2 g3 g4
  · refine va_newa (atype := .long) (ty := .long) (a0 := (n', x_row 1 x_z 0 0)) hx hb (hw .long (List.mem_filter.mpr ⟨by decide +kernel, by decide +kernel⟩)) rfl hK hP hD hS hA (fun _ => rfl) hn hN (by show n' * 8 ≤ _; omega) hcells hslots hdg (fun q cB H1 g1 g2 g3 g4 => ?_)
    have e : cB = cA 1 := key .long _ _ (fun _ z => by cases z) (g1.2 tys.length (cB, .long) (by simp)).2 (hK.2 1 (cA 1, .long) (by rw [htys]; rfl)).2
    subst e
    exact kk q H1 g2 g3 g4
  · refine va_newa (atype := .boolean) (ty := .boolean) (a0 := (n', x_row 2 x_z 0 0)) hx hb (hw .boolean (List.mem_filter.mpr ⟨by decide +kernel, by decide +kernel⟩)) rfl hK hP hD hS hA (fun _ => rfl) hn hN (by show n' * 1 ≤ _; omega) hcells hslots hdg (fun q cB H1 g1 g2 g3 g4 => ?_)
    have e : cB = cA 2 := key .boolean _ _ (fun _ z => by cases z) (g1.2 tys.length (cB, .boolean) (by simp)).2 (hK.2 2 (cA 2, .boolean) (by rw [htys]; rfl)).2
    subst e
    exact kk q H1 g2 g3 g4
theorem k_new (E : k_E p s m args meth c cc C T N ci ty0 D A tys cA) (hP : va_P D vwCl ws H) (hD : va_D A ws) (hS : va_S A s.heap H locs) (j : Nat) (hj : j < 3) {n : Int32} {n' : Nat} (hn : ¬ n < 0) (hN : n.toNatClampNeg = n') (hb8 : n' ≤ 60000000) (hcells : cells + 1 ≤ R.cells) (hslots : slots + n' ≤ R.slots) (hdg : decode cc pc = .ok (.newarray (k_aT j), 2))
    (kk : ∀ (q : Nat) (H1 : Heap), va_P D vwCl (ws ++ [(q, k_Z cA j n')]) H1 → va_D A (ws ++ [(q, k_Z cA j n')]) → va_S A s.heap H1 locs → W p l e R s m args below meth c H1 locs (cells + 1) (slots + n') Q (F0 m (pc + 2) ls (.ref q :: rest))) : W p l e R s m args below meth c H locs cells slots Q (F0 m pc ls (.int n :: rest)) :=
  k_new0 E.1 E.2.1 E.2.2.1 E.2.2.2.2.2.2.2.2.1 E.2.2.2.2.2.2.2.2.2.1 E.2.2.2.2.2.2.2.2.2.2.2 hP hD hS j hj hn hN hb8 hcells hslots hdg kk
/-- a number is pushed -/
def k_pu (cc : ByteArray) (pc1 pc2 : Nat) (n : Int32) : Prop := (∃ i, decode cc pc1 = .ok (.iconst i, 1) ∧ Int32.ofInt i = n ∧ pc2 = pc1 + 1) ∨ (∃ i, decode cc pc1 = .ok (.bipush i, 2) ∧ (Int8.ofInt i).toInt32 = n ∧ pc2 = pc1 + 2) ∨ ∃ i, decode cc pc1 = .ok (.sipush i, 3) ∧ (Int16.ofInt i).toInt32 = n ∧ pc2 = pc1 + 3
theorem k_push {pc2 : Nat} {n : Int32} (hx : p.tables.exec = Jvm.exec) (hb : c.code = cc) (h : k_pu cc pc pc2 n) (k : W p l e R s m args below meth c H locs cells slots Q (F0 m pc2 ls (.int n :: rest))) : W p l e R s m args below meth c H locs cells slots Q (F0 m pc ls rest) := by
  rcases h with ⟨i, d, rfl, rfl⟩ | ⟨i, d, rfl, rfl⟩ | ⟨i, d, rfl, rfl⟩
  · exact lv_iconst hx hb d rfl k
  · exact lv_bipush hx hb d rfl k
  · exact lv_sipush hx hb d rfl k
/-- aload_0, a number, newarray, putfield -/
theorem k_arr (E : k_E p s m args meth c cc C T N ci ty0 D A tys cA) (hP : va_P D vwCl ((h0, .inr (ci, fs)) :: ws) H) (hD : va_D A ((h0, .inr (ci, fs)) :: ws)) (hS : va_S A s.heap H locs) (h0L : ls[0]? = some (.val (.ref h0))) (d1 : decode cc pc = .ok (.aload_n 0, 1)) {pc2 : Nat} {n : Int32} {n' : Nat} (hpu : k_pu cc (pc + 1) pc2 n) (j : Nat) (hj : j < 3) (hn : ¬ n < 0) (hN : n.toNatClampNeg = n') (hb8 : n' ≤ 60000000) (hcells : cells + 1 ≤ R.cells) (hslots : slots + n' ≤ R.slots) (d3 : decode cc pc2 = .ok (.newarray (k_aT j), 2))
    (k : Nat) (hk : k < N) (hl : k < fs.length) {idx : Nat} (hlink : Cond.fieldLink C idx (T k).1 (T k).2.1 (T k).2.2.1 ∈ x_Ts) (hdecl : (T k).1 = C) (hnw : ∀ q, narrow (ty0 k) (.ref q) = .ref q) (hf : ∀ q, fits (ty0 k) (.ref q) = true) (d4 : decode cc (pc2 + 2) = .ok (.putfield idx, 3)) {cells' slots' pc' : Nat} (ec : cells + 1 = cells') (es : slots + n' = slots') (ep : pc2 + 5 = pc')
    (kk : ∀ (q : Nat) (H1 : Heap) (locs1 : List Loc), va_P D vwCl ((h0, .inr (ci, fs.set k (.ref q))) :: (ws ++ [(q, k_Z cA j n')])) H1 → va_D A ((h0, .inr (ci, fs.set k (.ref q))) :: (ws ++ [(q, k_Z cA j n')])) → va_S A s.heap H1 locs1 → W p l e R s m args below meth c H1 locs1 cells' slots' Q (F0 m pc' ls rest)) : W p l e R s m args below meth c H locs cells slots Q (F0 m pc ls rest) := by
  have hx := E.1
  have hb := E.2.1
  subst ec; subst es; subst ep
  refine lv_aload_n hx hb d1 rfl h0L ?_
  refine k_push hx hb hpu ?_
  refine k_new E hP hD hS j hj hn hN hb8 hcells hslots d3 (fun q H1 g1 g2 g3 => ?_)
  exact k_put E g1 g2 g3 k hk hl hlink hdecl (hnw q) (hf q) d4 (kk q)
/-- aload_0, a number, putfield -/
theorem k_num (E : k_E p s m args meth c cc C T N ci ty0 D A tys cA) (hP : va_P D vwCl ((h0, .inr (ci, fs)) :: ws) H) (hD : va_D A ((h0, .inr (ci, fs)) :: ws)) (hS : va_S A s.heap H locs) (h0L : ls[0]? = some (.val (.ref h0))) (d1 : decode cc pc = .ok (.aload_n 0, 1)) {pc2 : Nat} {n : Int32} (hpu : k_pu cc (pc + 1) pc2 n)
    (k : Nat) (hk : k < N) (hl : k < fs.length) {idx : Nat} (hlink : Cond.fieldLink C idx (T k).1 (T k).2.1 (T k).2.2.1 ∈ x_Ts) (hdecl : (T k).1 = C) (hnw : narrow (ty0 k) (.int n) = .int n) (hf : fits (ty0 k) (.int n) = true) (d4 : decode cc pc2 = .ok (.putfield idx, 3)) {pc' : Nat} (ep : pc2 + 3 = pc')
    (kk : ∀ (H1 : Heap) (locs1 : List Loc), va_P D vwCl ((h0, .inr (ci, fs.set k (.int n))) :: ws) H1 → va_D A ((h0, .inr (ci, fs.set k (.int n))) :: ws) → va_S A s.heap H1 locs1 → W p l e R s m args below meth c H1 locs1 cells slots Q (F0 m pc' ls rest)) : W p l e R s m args below meth c H locs cells slots Q (F0 m pc ls rest) := by
  subst ep
  refine lv_aload_n E.1 E.2.1 d1 rfl h0L ?_
  refine k_push E.1 E.2.1 hpu ?_
  exact k_put E hP hD hS k hk hl hlink hdecl hnw hf d4 kk
/-- aload_0, aload_i, putfield -/
theorem k_ref (E : k_E p s m args meth c cc C T N ci ty0 D A tys cA) (hP : va_P D vwCl ((h0, .inr (ci, fs)) :: ws) H) (hD : va_D A ((h0, .inr (ci, fs)) :: ws)) (hS : va_S A s.heap H locs) (h0L : ls[0]? = some (.val (.ref h0))) (d1 : decode cc pc = .ok (.aload_n 0, 1)) {i q : Nat} (hq : ls[i]? = some (.val (.ref q))) {pc2 : Nat} (hpu : (∃ k : Fin 4, decode cc (pc + 1) = .ok (.aload_n k, 1) ∧ k.val = i ∧ pc2 = pc + 2) ∨ (decode cc (pc + 1) = .ok (.aload i, 2) ∧ pc2 = pc + 3))
    (k : Nat) (hk : k < N) (hl : k < fs.length) {idx : Nat} (hlink : Cond.fieldLink C idx (T k).1 (T k).2.1 (T k).2.2.1 ∈ x_Ts) (hdecl : (T k).1 = C) (hnw : narrow (ty0 k) (.ref q) = .ref q) (hf : fits (ty0 k) (.ref q) = true) (d4 : decode cc pc2 = .ok (.putfield idx, 3)) {pc' : Nat} (ep : pc2 + 3 = pc')
    (kk : ∀ (H1 : Heap) (locs1 : List Loc), va_P D vwCl ((h0, .inr (ci, fs.set k (.ref q))) :: ws) H1 → va_D A ((h0, .inr (ci, fs.set k (.ref q))) :: ws) → va_S A s.heap H1 locs1 → W p l e R s m args below meth c H1 locs1 cells slots Q (F0 m pc' ls rest)) : W p l e R s m args below meth c H locs cells slots Q (F0 m pc ls rest) := by
  subst ep
  refine lv_aload_n E.1 E.2.1 d1 rfl h0L ?_
  rcases hpu with ⟨k, d2, rfl, rfl⟩ | ⟨d2, rfl⟩
  · exact lv_aload_n E.1 E.2.1 d2 rfl hq (k_put E hP hD hS _ hk hl hlink hdecl hnw hf d4 kk)
  · exact lv_aload E.1 E.2.1 d2 hq (k_put E hP hD hS _ hk hl hlink hdecl hnw hf d4 kk)
/-- where a constructor begins, and where it ends -/
def k_Pre (D : va_G) (tys : List (ClassId × FieldType)) (EX : State → Prop) (h0 sz ci : Nat) (fs : List Value) (As : List Value) : Array Value → State → Prop := fun v U => v = (.ref h0 :: As).toArray ∧ U.heap.size = sz ∧ va_P D vwCl [(h0, .inr (ci, fs))] U.heap ∧ va_K D vwCl tys U ∧ EX U
def k_Qc {S : Type} (D : va_G) (A : Nat → Prop) (h0 ci : Nat) (F : S → List Value) (G : S → va_W) : Array Value → State → Outcome → State → Prop := va_Qv (fun _ : S => True) (fun u t => va_P D vwCl ((h0, .inr (ci, F u)) :: G u) t.heap ∧ va_D A ((h0, .inr (ci, F u)) :: G u)) A
def k_Met {S : Type} (l : Launch) (D : va_G) (tys : List (ClassId × FieldType)) (A0 : Nat → Prop) (EX : State → Prop) (y : MethodName) (cc : ByteArray) (maxL : Nat) (rm : Room) (mc ms ci : Nat) (fs As : List Value) (F : S → List Value) (G : S → va_W) : Prop :=
  ∀ h0 sz : Nat, A0 h0 → (∀ q, sz ≤ q → A0 q) → Met l y (Cond.code y cc maxL none :: x_Ts) rm (k_Pre D tys EX h0 sz ci fs As) (k_Qc D (va_A [(h0, .inr (ci, fs))] sz) h0 ci F G) mc ms (va_A [(h0, .inr (ci, fs))] sz)
theorem k_ctor {A0 : Nat → Prop} {EX : State → Prop} {y : MethodName} {maxL : Nat} {rm : Room} {mc ms : Nat} {As : List Value} {S : Type} {F : S → List Value} {G : S → va_W} (hy : plainFor y = true) (hyc : y.cls = C) (hyn : y.name = "<init>") (hin : ∀ w ∈ u_ws C T N, w ∈ x_Ts) (hty : ∀ k, k < N → parseFieldDescriptor (T k).2.2.1 = some (ty0 k)) (hnm : ∀ a, a < N → ∀ b, b < N → a ≠ b → (T a).2.1 ≠ (T b).2.1) (hc : vwCl[ci]? = some (C, T, N)) (htys : tys = [(cA 0, .int), (cA 1, .long), (cA 2, .boolean)]) (hlen : (lg_sl (Value.ref 0 :: As)).length ≤ maxL) {i0 : Nat} (hlk : Cond.methodLink C i0 objectInit ∈ x_Ts) (d0 : decode cc 0 = .ok (.aload_n 0, 1)) (d1 : decode cc 1 = .ok (.invokespecial i0, 3)) (hr1 : 1 ≤ rm.frames) (hr2 : 12 ≤ rm.locals)
    (kk : ∀ (h0 : Nat) (A : Nat → Prop) {p : Program} {e : Env} {s : State} {m : MethodId} {args : Array Value} {below : List Frame} {meth : Method} {c : Code} (ls : Array Slot), k_E p s m args meth c cc C T N ci ty0 D A tys cA → EX s → (∀ q, A q → A0 q) → (meth.sig.returnType = none ∧ meth.locks = false) → c.maxLocals = maxL → va_P D vwCl [(h0, .inr (ci, fs))] s.heap → va_D A [(h0, .inr (ci, fs))] → lv_has ls maxL (lv_args 0 (.ref h0 :: As)) → W p l e rm s m args below meth c s.heap [] 0 0 (MQ below (k_Qc D A h0 ci F G) args s mc ms A) (F0 m 4 ls [])) :
    k_Met l D tys A0 EX y cc maxL rm mc ms ci fs As F G := by
  intro h0 sz hA0 hA1
  refine va_MetF (cc := cc) (maxL := maxL) (ret := none) hy rfl ?_
  intro p e s m args below meth c s₁ B hml hp
  obtain ⟨rfl, rfl, hP, hK, hE⟩ := hp
  have hts0 := atoms_spec (ws := Cond.code y cc maxL none :: x_Ts) B.pre
  have hts : ∀ w ∈ x_Ts, w.before (Value.ref h0 :: As).toArray s = true := fun w hw => hts0 w (List.mem_cons_of_mem _ hw)
  have hown : s.vm.findClass C = some m.cls := by rw [← hyc]; exact findClass_of_methodNamed B.named
  have hin2 : meth.name = "<init>" := by rw [← hyn]; exact (name_of_methodNamed B.named B.method).1
  rw [lg_entry_eq]
  have hl := lv_entry (Value.ref h0 :: As) (n := maxL) hlen
  generalize (lg_sl (Value.ref h0 :: As) ++ List.replicate (maxL - (lg_sl (Value.ref h0 :: As)).length) Slot.unset).toArray = ls at hl ⊢
  have h0L : ls[0]? = some (.val (.ref h0)) := hl.2.2 (0, .ref h0) (by simp [lv_args])
  refine lv_aload_n B.exec B.bytes d0 rfl h0L ?_
  refine W.objInit B.exec B.bytes hown (hts _ hlk) (hts (.instanceMethod objectInit) (List.mem_filter.mpr ⟨by decide +kernel, by decide +kernel⟩)) (hts (.code objectInit ⟨#[0xb1]⟩ 1 none) (List.mem_filter.mpr ⟨by decide +kernel, by decide +kernel⟩)) rfl (by rw [hml]; exact hl.1) rfl d1 hr1 hr2 ?_
  refine W.eq (g2 := F0 m 4 ls []) rfl ?_
  refine kk h0 _ ls ⟨B.exec, B.bytes, hts, hin, hty, hnm, hown, hin2, hK, fun q h => Or.inr h, hc, htys⟩ hE (fun q h => ?_) ⟨B.returns, B.notSynchronized⟩ hml hP ?_ hl
  · rcases h with ⟨k, e, h⟩ | h
    · have : k = 0 := by
        rcases Nat.eq_zero_or_pos k with z | z
        · exact z
        · rw [List.getElem?_eq_none (show [(h0, (Sum.inr (ci, fs) : va_E))].length ≤ k from z)] at h; cases h
      subst this
      have h : (h0, Sum.inr (ci, fs)) = (q, e) := Option.some.inj h
      have h1 : h0 = q := congrArg Prod.fst h
      rw [← h1]; exact hA0
    · exact hA1 q h
  · refine ⟨fun i j x y hi hj _ => ?_, fun k q hk => va_A.in hk⟩
    have := (List.getElem?_eq_some_iff.mp hi).1
    have := (List.getElem?_eq_some_iff.mp hj).1
    simp at *
    omega
/-- the end of a constructor -/
theorem k_fin {mc ms : Nat} {S : Type} {F : S → List Value} {G : S → va_W} (E : k_E p s m args meth c cc C T N ci ty0 D A tys cA) (hr : meth.sig.returnType = none ∧ meth.locks = false) (hS : va_S A s.heap H locs) (h1 : cells ≤ mc) (h2 : slots ≤ ms) (u : S) (hP : va_P D vwCl ((h0, .inr (ci, F u)) :: G u) H) (hD : va_D A ((h0, .inr (ci, F u)) :: G u)) (d : decode cc pc = .ok (.return_, 1)) : W p l e R s m args below meth c H locs cells slots (MQ below (k_Qc D A h0 ci F G) args s mc ms A) (F0 m pc ls []) := by
  refine W.widen (k := mc) (n := ms) h1 h2 ?_
  exact W.vret (hlocks := hr.2) E.1 E.2.1 hr.1 (fun t ht hW => ⟨⟨u, rfl, trivial, by rw [ht]; exact hP, hD⟩, hS.F ht⟩) hS.2.2 d
end CTOR

/-! Calls, and the whole run. -/
section SNDF
def x_rm (d : Nat) : Room := { frames := d, cells := 0, slots := 0, locals := 41 * d }
def x_Pc (D : va_G) (cl : List vw_C) (tys : List (ClassId × FieldType)) (K : Nat → Option xT) (cA : Nat → ClassId) (ad : Nat → Nat → Nat) (Cl : List (Nat × Nat)) (EX : State → Prop) (as : List xV) (t : xS) : Array Value → State → Prop := fun v U => v = (as.map (x_val ad)).toArray ∧ va_P D cl (x_ws K cA ad t Cl) U.heap ∧ va_K D cl tys U ∧ EX U
/-- which call may be which -/
def x_kdB (w : Nat × Instr × Nat × Nat × Nat × xV × List Nat) : Bool := match w.2.1 with
  | .invokestatic _ => !(Nat.beq w.2.2.2.1 1003) && !(Nat.beq w.2.2.2.1 1004)
  | .invokevirtual _ => !(Nat.beq w.2.2.2.1 1002)
  | _ => true
def x_Mok (Ts : List Cond) (P : xP) (N : xN) (cl : List vw_C) (M : xM) (o : Nat) (y : MethodName) (cc : ByteArray) (ret : Option FieldType) (np : Nat) (stc : Bool) : Prop :=
  Cond.code y cc M.1 ret ∈ Ts ∧ Cond.initialized y.cls ∈ Ts ∧ y.cls = N.nm o ∧ plainFor y = true ∧ (y.cls ≠ "java/lang/invoke/MethodHandle" ∧ y.cls ≠ "java/lang/invoke/VarHandle" ∧ (parseMethodDescriptor y.desc).map (fun d => d.parameters.length) = some np) ∧ ((M.1 ≤ 22 ∧ M.2.2.2.all x_kdB = true) ∧ o < 900) ∧ (stc = true → Cond.static y ∈ Ts) ∧
  (stc = false → Cond.instanceMethod y ∈ Ts ∧ Cond.selects y.cls y y ∈ Ts ∧ ∃ (T : u_T) (n : Nat), cl[o]? = some (y.cls, T, n)) ∧ (∀ w ∈ M.2.2.2, decode cc w.1 = .ok (w.2.1, w.2.2.1 - w.1) ∧ x_ok P N o M.1 w = true) ∧ x_ret M.2.1 ret
def x_Fm (Ts Nw : List Cond) (P : xP) (N : xN) (cl : List vw_C) : Prop :=
  (∀ w ∈ Ts, (w.onTables && w.keeps) = true ∨ ∃ ty, w = Cond.arrayClass ty) ∧
  (∀ f M, P f = Sum.inr M → ∃ o y cc ret np stc, N.inf f = some (o, y, cc, ret, np, stc) ∧ x_Mok Ts P N cl M o y cc ret np stc) ∧
  (∀ f g, P f = Sum.inl g → N.inf f = none) ∧
  (∀ o i f o' y cc ret np stc, N.lm o i = some f → N.inf f = some (o', y, cc, ret, np, stc) → Cond.methodLink (N.nm o) i y ∈ Ts ∨ (stc = true ∧ ∃ host, Cond.methodLinkNest (N.nm o) i y host ∈ Nw))
/-- what lies outside stays, where nothing but A is written -/
def x_EXm (EX : State → Prop) (A : Nat → Prop) : Prop := ∀ s U : State, EX s → (s.WarmedH U.vm ∨ U.vm = s.vm) → s.heap.size ≤ U.heap.size → (∀ q, q < s.heap.size → ¬ A q → U.heap[q]? = s.heap[q]?) → EX U
def x_EXe (l : Launch) (EX : State → Prop) (Ts : List Cond) (K : Nat → Option xT) (ad : Nat → Nat → Nat) (A : Nat → Prop) (N : xN) : Prop := ∀ (p : Program) (e : Env) (R : Room) (s : State) (m : MethodId) (args : Array Value) (below : List Frame) (meth : Method) (cd : Code) (Q : State → Prop) (o : Nat) (cc : ByteArray), EX s → p.tables.exec = Jvm.exec → cd.code = cc → s.vm.findClass (N.nm o) = some m.cls → (∀ w ∈ Ts, w.before args s = true) → x_Ex p l e R s m args below meth cd Q K ad A N o cc
/-- calls that no row of code stands for -/
def x_EXb (l : Launch) (EX : State → Prop) (Ts : List Cond) (P : xP) (K : Nat → Option xT) (cA : Nat → ClassId) (ad : Nat → Nat → Nat) (Cl : List (Nat × Nat)) (D : va_G) (cl : List vw_C) (tys : List (ClassId × FieldType)) (A : Nat → Prop) (N : xN) : Prop :=
  ∀ (p : Program) (e : Env) (R : Room) (s : State) (m : MethodId) (args : Array Value) (below : List Frame) (meth : Method) (cd : Code) (Q : State → Prop) (o : Nat) (cc : ByteArray), EX s → p.tables.exec = Jvm.exec → cd.code = cc → s.vm.findClass (N.nm o) = some m.cls → (∀ w ∈ Ts, w.before args s = true) → va_K D cl tys s →
  ∀ (f : Nat) (g : List xV → xS → Option xO) (as : List xV) (t : xS) (w : xO) (pc i : Nat), P f = Sum.inl g → N.lm o i = some f → g as t = some w → x_vs K Cl as → ((decode cc pc = .ok (.invokestatic i, 3) ∧ f ≠ 1003 ∧ f ≠ 1004) ∨ (decode cc pc = .ok (.invokevirtual i, 3) ∧ f ≠ 1002)) → 9 ≤ R.frames → 369 ≤ R.locals →
  ∀ (LS : Array Slot) (H : Heap) (locs : List Loc) (rest : List Value), LS.size = cd.maxLocals → (rest.map fun v => v.category).sum ≤ 8 → va_P D cl (x_ws K cA ad t Cl) H → va_S A s.heap H locs →
  (∀ (H1 : Heap) (locs1 : List Loc), va_P D cl (x_ws K cA ad w.2 Cl) H1 → va_S A s.heap H1 locs1 → W p l e R s m args below meth cd H1 locs1 0 0 Q (F0 m (pc + 3) LS ((w.1.map (x_val ad)).toList ++ rest))) →
  W p l e R s m args below meth cd H locs 0 0 Q (F0 m pc LS ((as.reverse.map (x_val ad)) ++ rest))
theorem x_call {p : Program} {l : Launch} {e : Env} {R : Room} {s : State} {m : MethodId} {args : Array Value} {below : List Frame} {meth : Method} {c : Code} {H : Heap} {locs : List Loc} {Q : State → Prop} {pc : Nat} {LS : Array Slot} {rest st0 : List Value} {D : va_G} {cl : List vw_C} {A : Nat → Prop} {ws' : va_W} {w : Option Value}
    (hr : va_Run p l e R s m args below meth c H locs 0 0 0 0 (F0 m pc LS st0) rest (fun st oc t => oc = .returned w ∧ va_P D cl ws' t.heap ∧ va_F A st t) A) (hS : va_S A s.heap H locs)
    (kk : ∀ (H1 : Heap) (locs1 : List Loc), va_P D cl ws' H1 → va_S A s.heap H1 locs1 → W p l e R s m args below meth c H1 locs1 0 0 Q (F0 m (pc + 3) LS (w.toList ++ rest))) : W p l e R s m args below meth c H locs 0 0 Q (F0 m pc LS st0) := by
  intro T hT X
  obtain ⟨v, st₀, t, T', L, h0, X', hL, e1, e2, ⟨hv, hP, hz, hk⟩, st⟩ := hr T hT X
  cases hv
  rw [h0] at hz hk
  obtain ⟨t2, a1, b1⟩ := kk T'.heap (locs ++ L) (by rw [e1]; exact hP) ⟨Nat.le_trans hS.1 (by rw [e1]; exact hz), fun q h1 h2 => by rw [e1, hk q (Nat.lt_of_lt_of_le h1 hS.1) h2]; exact hS.2.1 q h1 h2, fun q hq => by
      rcases List.mem_append.mp hq with h | h
      · exact hS.2.2 q h
      · exact hL q h⟩ T' rfl X'
  exact ⟨t2, st t2 a1, b1⟩
theorem x_ent_len {ad : Nat → Nat → Nat} : ∀ as : List xV, (lg_sl (as.map (x_val ad))).length = (x_ent as).length
  | [] => rfl
  | Sum.inl x :: r => by
    have z := x_ent_len (ad := ad) r
    simp only [lg_sl, List.map_cons, List.flatMap_cons, List.length_append, x_ent, List.length_cons] at z ⊢
    rw [z]; simp [x_val, Value.category]; omega
  | Sum.inr (Sum.inl x) :: r => by
    have z := x_ent_len (ad := ad) r
    simp only [lg_sl, List.map_cons, List.flatMap_cons, List.length_append, x_ent, List.length_cons] at z ⊢
    rw [z]; simp [x_val, Value.category]; omega
  | Sum.inr (Sum.inr q) :: r => by
    have z := x_ent_len (ad := ad) r
    simp only [lg_sl, List.map_cons, List.flatMap_cons, List.length_append, x_ent, List.length_cons] at z ⊢
    rw [z]; simp [x_val, Value.category]; omega
theorem x_ent_args {ad : Nat → Nat → Nat} : ∀ (as : List xV) (k i : Nat) (v : xV), (x_ent as)[i]? = some (some v) → (k + i, x_val ad v) ∈ lv_args k (as.map (x_val ad)) ∧ v ∈ as
  | [], k, i, v, h => by simp [x_ent] at h
  | Sum.inl x :: r, k, i, v, h => by
    cases i with
    | zero =>
      have e : (Sum.inl x : xV) = v := by simpa [x_ent] using h
      subst e
      exact ⟨List.mem_cons_self, List.mem_cons_self⟩
    | succ i =>
      have z := x_ent_args (ad := ad) r (k + 1) i v (by simpa [x_ent] using h)
      refine ⟨List.mem_cons_of_mem _ ?_, List.mem_cons_of_mem _ z.2⟩
      rw [show k + (i + 1) = k + 1 + i by omega]
      exact z.1
  | Sum.inr (Sum.inl x) :: r, k, i, v, h => by
    cases i with
    | zero =>
      have e : (Sum.inr (Sum.inl x) : xV) = v := by simpa [x_ent] using h
      subst e
      exact ⟨List.mem_cons_self, List.mem_cons_self⟩
    | succ i =>
      cases i with
      | zero => simp [x_ent] at h
      | succ i =>
        have z := x_ent_args (ad := ad) r (k + 2) i v (by simpa [x_ent] using h)
        refine ⟨List.mem_cons_of_mem _ ?_, List.mem_cons_of_mem _ z.2⟩
        rw [show k + (i + 1 + 1) = k + 2 + i by omega]
        exact z.1
  | Sum.inr (Sum.inr q) :: r, k, i, v, h => by
    cases i with
    | zero =>
      have e : (Sum.inr (Sum.inr q) : xV) = v := by simpa [x_ent] using h
      subst e
      exact ⟨List.mem_cons_self, List.mem_cons_self⟩
    | succ i =>
      have z := x_ent_args (ad := ad) r (k + 1) i v (by simpa [x_ent] using h)
      refine ⟨List.mem_cons_of_mem _ ?_, List.mem_cons_of_mem _ z.2⟩
      rw [show k + (i + 1) = k + 1 + i by omega]
      exact z.1
theorem x_pad_get {n i : Nat} {ls : xLs} {v : xV} (h : (x_pad n ls)[i]? = some (some v)) : ls[i]? = some (some v) := by
  unfold x_pad at h
  by_cases hi : i < ls.length
  · rwa [List.getElem?_append_left hi] at h
  · rw [List.getElem?_append_right (by omega), List.getElem?_replicate] at h
    split at h <;> cases h
theorem x_has_ent {ad : Nat → Nat → Nat} {n : Nat} {as : List xV} (h : (x_ent as).length ≤ n) : x_has ad ((lg_sl (as.map (x_val ad)) ++ List.replicate (n - (lg_sl (as.map (x_val ad))).length) Slot.unset).toArray) n (x_pad n (x_ent as)) := by
  have hl := lv_entry (as.map (x_val ad)) (n := n) (by rw [x_ent_len]; exact h)
  refine ⟨hl.1, hl.2.1, fun i v e => ?_⟩
  have z := (x_ent_args (ad := ad) as 0 i v (x_pad_get e)).1
  rw [Nat.zero_add] at z
  exact hl.2.2 _ z
theorem x_cat_sum {ad : Nat → Nat → Nat} : ∀ st : List xV, ((st.map (x_val ad)).map fun v => v.category).sum = x_cat st
  | [] => rfl
  | Sum.inl x :: r => by
    have z := x_cat_sum (ad := ad) r
    simp only [List.map_cons, List.sum_cons, x_cat] at z ⊢
    rw [z]; simp [x_val, Value.category]; omega
  | Sum.inr (Sum.inl x) :: r => by
    have z := x_cat_sum (ad := ad) r
    simp only [List.map_cons, List.sum_cons, x_cat] at z ⊢
    rw [z]; simp [x_val, Value.category]; omega
  | Sum.inr (Sum.inr q) :: r => by
    have z := x_cat_sum (ad := ad) r
    simp only [List.map_cons, List.sum_cons, x_cat] at z ⊢
    rw [z]; simp [x_val, Value.category]; omega
theorem x_bnd_some {rk : Nat} {r : Option xO} {c : xC} {k : xC → Option xO} {out : xO} (h : x_bnd rk r c k = some out) : ∃ o' c', r = some o' ∧ x_psh rk o' c = some c' ∧ k c' = some out := by
  match rk, h with
  | 0, h =>
    have h : bV r (fun s => k (c.1, c.2.1, c.2.2.1, s)) = some out := h
    unfold bV at h
    split at h
    · next s => exact ⟨_, _, rfl, rfl, h⟩
    · cases h
  | 1, h =>
    have h : bI r (fun x s => k (c.1, c.2.1, vI x :: c.2.2.1, s)) = some out := h
    unfold bI at h
    split at h
    · next x s => exact ⟨_, _, rfl, rfl, h⟩
    · cases h
  | 2, h =>
    have h : bL r (fun x s => k (c.1, c.2.1, vL x :: c.2.2.1, s)) = some out := h
    unfold bL at h
    split at h
    · next x s => exact ⟨_, _, rfl, rfl, h⟩
    · cases h
  | _ + 3, h => exact absurd h (by simp [x_bnd])
theorem x_psh_val {rk : Nat} {w : xO} {c c' : xC} (h : x_psh rk w c = some c') : c' = (c.1, c.2.1, w.1.toList ++ c.2.2.1, w.2) ∧ ∀ v ∈ w.1.toList, ∀ (K : Nat → Option xT) (Cl : List (Nat × Nat)), x_vv K Cl v := by
  obtain ⟨v, s⟩ := w
  match rk, v, h with
  | 0, none, h => cases h; exact ⟨rfl, fun v hv => by simp at hv⟩
  | 1, some (Sum.inl x), h => cases h; exact ⟨rfl, fun v hv K Cl => by simp at hv; subst hv; trivial⟩
  | 2, some (Sum.inr (Sum.inl x)), h => cases h; exact ⟨rfl, fun v hv K Cl => by simp at hv; subst hv; trivial⟩
end SNDF

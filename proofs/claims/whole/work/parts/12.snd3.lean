/-! One step of the light machine, over the machine: rows. -/
section SNDC
/-- from here on the machine comes to Q -/
def x_Wc (p : Program) (l : Launch) (e : Env) (R : Room) (s : State) (m : MethodId) (args : Array Value) (below : List Frame) (meth : Method) (cd : Code) (Q : State → Prop) (K : Nat → Option xT) (cA : Nat → ClassId) (ad : Nat → Nat → Nat) (Cl : List (Nat × Nat)) (D : va_G) (cl : List vw_C) (A : Nat → Prop) (nL : Nat) (c : xC) : Prop :=
  ∀ (LS : Array Slot) (H : Heap) (locs : List Loc), x_has ad LS nL c.2.1 → x_vl K Cl c.2.1 → x_vs K Cl c.2.2.1 → va_P D cl (x_ws K cA ad c.2.2.2 Cl) H → va_S A s.heap H locs → W p l e R s m args below meth cd H locs 0 0 Q (F0 m c.1 LS (c.2.2.1.map (x_val ad)))
def x_Qc (D : va_G) (cl : List vw_C) (K : Nat → Option xT) (cA : Nat → ClassId) (ad : Nat → Nat → Nat) (Cl : List (Nat × Nat)) (A : Nat → Prop) (out : xO) : Array Value → State → Outcome → State → Prop := fun _ st oc t => oc = .returned (out.1.map (x_val ad)) ∧ va_P D cl (x_ws K cA ad out.2 Cl) t.heap ∧ va_F A st t
def x_brP (op : Nat) (x y : Int32) (n : Nat) (z : Int64) (A B : Prop) : Prop := match op with
  | 0 => (x = y → A) ∧ (¬ x = y → B)
  | 1 => (x < y → A) ∧ (¬ x < y → B)
  | 2 => (x_in x n = true → A) ∧ (¬ x_in x n = true → B)
  | _ => (z = 0 → A) ∧ (¬ z = 0 → B)
def x_obP (o : Option xC) (WC : xC → Prop) : Prop := match o with
  | some c => WC c
  | none => False
def x_swP (x : Int32) (ts : List (Int32 × xC)) (c : xC) (WC : xC → Prop) : Prop := match ts with
  | [] => WC c
  | q :: r => (x = q.1 → WC q.2) ∧ (¬ x = q.1 → x_swP x r c WC)
def x_psh (rk : Nat) (o : xO) (c : xC) : Option xC := match rk, o with
  | 0, (none, s) => some (c.1, c.2.1, c.2.2.1, s)
  | 1, (some (Sum.inl x), s) => some (c.1, c.2.1, vI x :: c.2.2.1, s)
  | 2, (some (Sum.inr (Sum.inl x)), s) => some (c.1, c.2.1, vL x :: c.2.2.1, s)
  | _, _ => none
def x_pre (WC : xC → Prop) (out : xO) (CALL : Nat → List xV → xS → xO → Prop) (r : xR) : Prop := match r with
  | Sum.inl c => WC c
  | Sum.inr (Sum.inl o) => o = out
  | Sum.inr (Sum.inr (Sum.inl (f, as, rk, c))) => ∃ o' c', CALL f as c.2.2.2 o' ∧ x_psh rk o' c = some c' ∧ WC c'
  | Sum.inr (Sum.inr (Sum.inr (Sum.inl (op, x, y, n, z, A, B)))) => x_brP op x y n z (x_obP A WC) (x_obP B WC)
  | Sum.inr (Sum.inr (Sum.inr (Sum.inr (x, ts, c)))) => x_swP x ts c WC
def x_ret (q : Nat) (ret : Option FieldType) : Prop := match q with
  | 0 => ret = none
  | 1 => ret = some .int
  | 2 => ret = some .long
  | _ => ret = some .boolean
theorem x_Wc_mk {p : Program} {l : Launch} {e : Env} {R : Room} {s : State} {m : MethodId} {args : Array Value} {below : List Frame} {meth : Method} {cd : Code} {Q : State → Prop} {K : Nat → Option xT} {cA : Nat → ClassId} {ad : Nat → Nat → Nat} {Cl : List (Nat × Nat)} {D : va_G} {cl : List vw_C} {A : Nat → Prop} {nL : Nat} {M : xM} {pc : Nat} {ls : xLs} {st : List xV} {t : xS}
    (k : x_Wc p l e R s m args below meth cd Q K cA ad Cl D cl A nL (x_mk M pc ls st t)) {LS : Array Slot} {H : Heap} {locs : List Loc} (h1 : x_has ad LS nL ls) (h2 : x_vl K Cl ls) (h3 : x_vs K Cl st) (h4 : va_P D cl (x_ws K cA ad t Cl) H) (h5 : va_S A s.heap H locs) : W p l e R s m args below meth cd H locs 0 0 Q (F0 m pc LS (st.map (x_val ad))) :=
  k LS H locs (x_has_kill h1 _) (x_vl_kill h2 _) h3 h4 h5
theorem x_zret {p : Program} {l : Launch} {e : Env} {R : Room} {s : State} {m : MethodId} {args : Array Value} {below : List Frame} {meth : Method} {c : Code} {H : Heap} {locs : List Loc} {cells slots : Nat} {cc : ByteArray} {Qc : Array Value → State → Outcome → State → Prop} {free : Addr → Prop} {v : Int32} (hexec : p.tables.exec = Jvm.exec) (hb : c.code = cc) (hr : meth.sig.returnType = some .boolean)
    (hq : ∀ t : State, t.heap = H → s.WarmedH t.vm → Qc args s (.returned (some (.int (v &&& 1)))) t) (hf : ∀ q ∈ locs, free q.base)
    {pc : Nat} {ls : Array Slot} (hdg : decode cc pc = .ok (.ireturn, 1)) (hlocks : meth.locks = false) : W p l e R s m args below meth c H locs cells slots (MQ below Qc args s cells slots free) (F0 m pc ls [.int v]) := by
  intro T hT X
  obtain ⟨fs, hret, hrun, hended, hW, hframe⟩ := X.leave (v := some (.int (v &&& 1))) (fun h => by rw [hr] at h; cases h)
  have hmeth' : T.vm.method? m = some meth := X.method'
  refine ⟨T.setFrames fs, ?_, .returned (some (.int (v &&& 1))), hrun, hended, hq _ hT hW, locs, ⟨⟨_, rfl⟩, hW, hframe⟩, hf⟩
  jvm_step X.here [X.here.top, hexec, hb, hdg, hmeth', hr, narrow]
  (try refine ⟨rfl, ?_⟩); (try refine ⟨rfl, ?_⟩)
  first | (intro acts; rw [hret _ acts rfl rfl rfl]) | rw [hret _ _ rfl rfl rfl]
  exact Steps.refl _
end SNDC
theorem x_getD {ls : xLs} {a : Nat} {v : xV} (e : ls.getD a none = some v) : ls[a]? = some (some v) := by
  rw [List.getD_eq_getElem?_getD] at e
  cases hc : ls[a]? with
  | none => rw [hc] at e; cases e
  | some w => rw [hc] at e; exact congrArg some e

/-! The light machine is sound: what it comes to, the machine comes to. -/
section SNDA
def x_val (ad : Nat → Nat → Nat) : xV → Value
  | Sum.inl x => .int x
  | Sum.inr (Sum.inl x) => .long x
  | Sum.inr (Sum.inr (c, i)) => .ref (ad c i)
def x_fld (ad : Nat → Nat → Nat) (s : xS) (c i k : Nat) (q : Nat × Nat × Nat) : Value := match q.1 with
  | 1 => .long (s.2 c i k)
  | 2 => .ref (ad q.2.1 q.2.2)
  | 3 => .ref (ad q.2.1 i)
  | _ => .int (s.1 c i k)
def x_flds (ad : Nat → Nat → Nat) (s : xS) (c i : Nat) : Nat → List (Nat × Nat × Nat) → List Value
  | _, [] => []
  | k, q :: r => x_fld ad s c i k q :: x_flds ad s c i (k + 1) r
def x_row (t : Nat) (s : xS) (c i : Nat) : (Nat → Int32) ⊕ (Nat → Int64) ⊕ (Nat → UInt32) ⊕ (Nat → UInt64) ⊕ (Nat → Option Nat) := match t with
  | 1 => .inr (.inl (s.2 c i))
  | _ => .inl (s.1 c i)
def x_cell (K : Nat → Option xT) (cA : Nat → ClassId) (ad : Nat → Nat → Nat) (s : xS) (c i : Nat) : va_E := match K c with
  | some (Sum.inl (ci, fs)) => .inr (ci, x_flds ad s c i 0 fs)
  | some (Sum.inr (t, n)) => .inl (cA t, n, x_row t s c i)
  | none => .inr (0, [])
def x_ws (K : Nat → Option xT) (cA : Nat → ClassId) (ad : Nat → Nat → Nat) (s : xS) (Cl : List (Nat × Nat)) : va_W := Cl.map (fun q => (ad q.1 q.2, x_cell K cA ad s q.1 q.2))
theorem x_flds_get {ad : Nat → Nat → Nat} {s : xS} {c i : Nat} : ∀ (fs : List (Nat × Nat × Nat)) (k0 k : Nat), (x_flds ad s c i k0 fs)[k]? = (fs[k]?).map (x_fld ad s c i (k0 + k))
  | [], _, _ => rfl
  | q :: r, k0, 0 => rfl
  | q :: r, k0, k + 1 => by
    show (x_flds ad s c i (k0 + 1) r)[k]? = _
    rw [x_flds_get r (k0 + 1) k, show k0 + 1 + k = k0 + (k + 1) by omega]
    rfl
theorem x_flds_len {ad : Nat → Nat → Nat} {s : xS} {c i : Nat} : ∀ (fs : List (Nat × Nat × Nat)) (k0 : Nat), (x_flds ad s c i k0 fs).length = fs.length
  | [], _ => rfl
  | q :: r, k0 => by show (x_flds ad s c i (k0 + 1) r).length + 1 = _; rw [x_flds_len r]; rfl
theorem wI_1 {s : xS} {c i k : Nat} {x : Int32} : (wI s c i k x).1 c i k = x := by simp [wI]
theorem wI_o {s : xS} {c i k : Nat} {x : Int32} {c' i' k' : Nat} (h : ¬ (c' = c ∧ i' = i ∧ k' = k)) : (wI s c i k x).1 c' i' k' = s.1 c' i' k' := by
  unfold wI; dsimp only; rw [if_neg]; intro q; exact h ⟨q.1, q.2.2, q.2.1⟩
theorem wI_2 {s : xS} {c i k : Nat} {x : Int32} : (wI s c i k x).2 = s.2 := rfl
theorem wL_1 {s : xS} {c i k : Nat} {x : Int64} : (wL s c i k x).2 c i k = x := by simp [wL]
theorem wL_o {s : xS} {c i k : Nat} {x : Int64} {c' i' k' : Nat} (h : ¬ (c' = c ∧ i' = i ∧ k' = k)) : (wL s c i k x).2 c' i' k' = s.2 c' i' k' := by
  unfold wL; dsimp only; rw [if_neg]; intro q; exact h ⟨q.1, q.2.2, q.2.1⟩
theorem wL_2 {s : xS} {c i k : Nat} {x : Int64} : (wL s c i k x).1 = s.1 := rfl
theorem wI_row {s : xS} {c i k : Nat} {x : Int32} : (wI s c i k x).1 c i = upd (s.1 c i) k x := by
  funext j
  unfold upd
  by_cases h : j = k
  · rw [if_pos h, h]; exact wI_1
  · rw [if_neg h]; exact wI_o (fun q => h q.2.2)
theorem wL_row {s : xS} {c i k : Nat} {x : Int64} : (wL s c i k x).2 c i = vp_updL (s.2 c i) k x := by
  funext j
  unfold vp_updL
  by_cases h : j = k
  · rw [if_pos h, h]; exact wL_1
  · rw [if_neg h]; exact wL_o (fun q => h q.2.2)
/-- cells depend on their own numbers alone -/
theorem x_cell_of {K : Nat → Option xT} {cA : Nat → ClassId} {ad : Nat → Nat → Nat} {s s' : xS} {c i : Nat} (h1 : s'.1 c i = s.1 c i) (h2 : s'.2 c i = s.2 c i) : x_cell K cA ad s' c i = x_cell K cA ad s c i := by
  have e1 : ∀ k q, x_fld ad s' c i k q = x_fld ad s c i k q := by
    intro k q; unfold x_fld; rw [h1, h2]
  have e2 : ∀ fs k, x_flds ad s' c i k fs = x_flds ad s c i k fs := by
    intro fs
    induction fs with
    | nil => intro k; rfl
    | cons q r ih => intro k; show _ :: _ = _ :: _; rw [e1, ih]
  unfold x_cell x_row
  rw [h1, h2]
  split
  · rw [e2]
  · rfl
  · rfl
theorem x_ws_at {K : Nat → Option xT} {cA : Nat → ClassId} {ad : Nat → Nat → Nat} {s : xS} {Cl : List (Nat × Nat)} {c i q0 : Nat} (h : Cl[q0]? = some (c, i)) : (x_ws K cA ad s Cl)[q0]? = some (ad c i, x_cell K cA ad s c i) := by
  unfold x_ws; rw [List.getElem?_map, h]; rfl
theorem x_ws_set {K : Nat → Option xT} {cA : Nat → ClassId} {ad : Nat → Nat → Nat} {s s' : xS} {Cl : List (Nat × Nat)} {c i q0 : Nat} (hn : ∀ j, Cl[j]? = some (c, i) → j = q0) (h : Cl[q0]? = some (c, i))
    (ho : ∀ c' i', ¬ (c' = c ∧ i' = i) → s'.1 c' i' = s.1 c' i' ∧ s'.2 c' i' = s.2 c' i') {E : va_E} (hE : x_cell K cA ad s' c i = E) : (x_ws K cA ad s Cl).set q0 (ad c i, E) = x_ws K cA ad s' Cl := by
  apply List.ext_getElem?
  intro j
  by_cases hj : q0 = j
  · subst hj
    have hl : q0 < (x_ws K cA ad s Cl).length := by
      have := (List.getElem?_eq_some_iff.mp h).1
      unfold x_ws; rw [List.length_map]; exact this
    rw [List.getElem?_set_self hl, x_ws_at h, hE]
  · rw [List.getElem?_set_ne hj]
    unfold x_ws
    rw [List.getElem?_map, List.getElem?_map]
    cases hc : Cl[j]? with
    | none => rfl
    | some q =>
      have hq : ¬ (q.1 = c ∧ q.2 = i) := fun z => hj (hn j (by rw [hc, ← z.1, ← z.2])).symm
      have z : x_cell K cA ad s' q.1 q.2 = x_cell K cA ad s q.1 q.2 := x_cell_of (ho _ _ hq).1 (ho _ _ hq).2
      show some (ad q.1 q.2, x_cell K cA ad s q.1 q.2) = some (ad q.1 q.2, x_cell K cA ad s' q.1 q.2)
      rw [z]
def x_has (ad : Nat → Nat → Nat) (LS : Array Slot) (nL : Nat) (ls : xLs) : Prop := LS.size = nL ∧ lv_wf LS ∧ ∀ (i : Nat) (v : xV), ls[i]? = some (some v) → LS[i]? = some (.val (x_val ad v))
def x_loc (ad : Nat → Nat → Nat) : Nat → xLs → List (Nat × Value)
  | _, [] => []
  | k, none :: r => x_loc ad (k + 1) r
  | k, some v :: r => (k, x_val ad v) :: x_loc ad (k + 1) r
theorem x_loc_mem {ad : Nat → Nat → Nat} {q : Nat × Value} : ∀ (ls : xLs) (k : Nat), q ∈ x_loc ad k ls ↔ ∃ j v, ls[j]? = some (some v) ∧ q = (k + j, x_val ad v)
  | [], k => by simp [x_loc]
  | none :: r, k => by
    show q ∈ x_loc ad (k + 1) r ↔ _
    rw [x_loc_mem r (k + 1)]
    constructor
    · intro ⟨j, v, h1, h2⟩
      exact ⟨j + 1, v, h1, by rw [h2, show k + 1 + j = k + (j + 1) by omega]⟩
    · intro ⟨j, v, h1, h2⟩
      cases j with
      | zero => simp at h1
      | succ j => exact ⟨j, v, h1, by rw [h2, show k + 1 + j = k + (j + 1) by omega]⟩
  | some w :: r, k => by
    show q ∈ _ :: x_loc ad (k + 1) r ↔ _
    rw [List.mem_cons, x_loc_mem r (k + 1)]
    constructor
    · intro h
      rcases h with h | ⟨j, v, h1, h2⟩
      · exact ⟨0, w, rfl, h⟩
      · exact ⟨j + 1, v, h1, by rw [h2, show k + 1 + j = k + (j + 1) by omega]⟩
    · intro ⟨j, v, h1, h2⟩
      cases j with
      | zero =>
        have e : w = v := by simpa using h1
        subst e
        exact Or.inl h2
      | succ j => exact Or.inr ⟨j, v, h1, by rw [h2, show k + 1 + j = k + (j + 1) by omega]⟩
theorem x_has_lv {ad : Nat → Nat → Nat} {LS : Array Slot} {nL : Nat} {ls : xLs} (h : x_has ad LS nL ls) : lv_has LS nL (x_loc ad 0 ls) := by
  refine ⟨h.1, h.2.1, fun q hq => ?_⟩
  obtain ⟨j, v, h1, h2⟩ := (x_loc_mem ls 0).mp hq
  subst h2
  rw [Nat.zero_add]
  exact h.2.2 j v h1
theorem x_has_at {ad : Nat → Nat → Nat} {LS : Array Slot} {nL : Nat} {ls : xLs} (h : x_has ad LS nL ls) {a : Nat} {v : xV} (e : ls.getD a none = some v) : LS[a]? = some (.val (x_val ad v)) := by
  refine h.2.2 a v ?_
  rw [List.getD_eq_getElem?_getD] at e
  cases hc : ls[a]? with
  | none => rw [hc] at e; cases e
  | some w => rw [hc] at e; exact congrArg some e
theorem x_kill_get : ∀ (ks : List Nat) (ls : xLs) {i : Nat} {v : xV}, (x_kill ks ls)[i]? = some (some v) → ls[i]? = some (some v)
  | [], _, _, _, h => h
  | k :: r, ls, i, v, h => by
    have h := x_kill_get r (ls.set k none) h
    by_cases e : k = i
    · subst e
      by_cases hl : k < ls.length
      · rw [List.getElem?_set_self hl] at h; cases h
      · rw [List.getElem?_eq_none (by simpa using hl)] at h; cases h
    · rwa [List.getElem?_set_ne e] at h
theorem x_has_kill {ad : Nat → Nat → Nat} {LS : Array Slot} {nL : Nat} {ls : xLs} (h : x_has ad LS nL ls) (ks : List Nat) : x_has ad LS nL (x_kill ks ls) := ⟨h.1, h.2.1, fun i v e => h.2.2 i v (x_kill_get ks ls e)⟩
theorem x_set_get {ls : xLs} {a i : Nat} {o : Option xV} {v : xV} (h : (ls.set a o)[i]? = some (some v)) : (a = i ∧ o = some v) ∨ (a ≠ i ∧ ls[i]? = some (some v)) := by
  by_cases e : a = i
  · subst e
    by_cases hl : a < ls.length
    · rw [List.getElem?_set_self hl] at h; exact Or.inl ⟨rfl, by simpa using h⟩
    · rw [List.getElem?_eq_none (by simpa using hl)] at h; cases h
  · rw [List.getElem?_set_ne e] at h; exact Or.inr ⟨e, h⟩
theorem x_cl_get {ls : xLs} {a i : Nat} {v : xV} (h : (x_cl a ls)[i]? = some (some v)) : ls[i]? = some (some v) ∧ ¬ (i + 1 = a ∧ ∃ z, v = vL z) := by
  cases a with
  | zero => exact ⟨h, fun z => by omega⟩
  | succ j =>
    simp only [x_cl] at h
    split at h
    · rcases x_set_get h with ⟨_, e⟩ | ⟨e, h⟩
      · cases e
      · exact ⟨h, fun z => e (by omega)⟩
    · next hn =>
      refine ⟨h, fun z => ?_⟩
      obtain ⟨e, y, rfl⟩ := z
      have e : i = j := by omega
      subst e
      exact hn y (by rw [List.getD_eq_getElem?_getD, h]; rfl)
theorem x_cat_L {ad : Nat → Nat → Nat} {v : xV} (h : (x_val ad v).category = 2) : ∃ z, v = vL z := by
  match v, h with
  | Sum.inl x, h => cases h
  | Sum.inr (Sum.inl x), _ => exact ⟨x, rfl⟩
  | Sum.inr (Sum.inr q), h => cases h
theorem x_has_st1 {ad : Nat → Nat → Nat} {LS : Array Slot} {nL a : Nat} {ls : xLs} {v : xV} {w : Value} (hw : x_val ad v = w) (h : lv_has LS nL ((a, w) :: (x_loc ad 0 ls).filter (fun q => !(q.1 == a) && !(q.1 + 1 == a && q.2.category == 2)))) : x_has ad LS nL (x_st1 ls a v) := by
  refine ⟨h.1, h.2.1, fun i u e => ?_⟩
  rcases x_set_get e with ⟨e1, e2⟩ | ⟨e1, e2⟩
  · cases e2
    rw [← e1, hw]
    exact h.2.2 (a, w) List.mem_cons_self
  · obtain ⟨e3, e4⟩ := x_cl_get e2
    refine h.2.2 (i, x_val ad u) (List.mem_cons_of_mem _ (List.mem_filter.mpr ⟨(x_loc_mem ls 0).mpr ⟨i, u, e3, by rw [Nat.zero_add]⟩, ?_⟩))
    have n1 : (i == a) = false := by simpa using fun z => e1 z.symm
    have n2 : (i + 1 == a && (x_val ad u).category == 2) = false := by
      cases hb : (i + 1 == a && (x_val ad u).category == 2) with
      | false => rfl
      | true =>
        simp only [Bool.and_eq_true, beq_iff_eq] at hb
        exact absurd ⟨hb.1, x_cat_L hb.2⟩ e4
    show (!(i == a) && !(i + 1 == a && (x_val ad u).category == 2)) = true
    rw [n1, n2]; rfl
theorem x_has_st2 {ad : Nat → Nat → Nat} {LS : Array Slot} {nL a : Nat} {ls : xLs} {v : xV} {w : Value} (hw : x_val ad v = w) (h : lv_has LS nL ((a, w) :: (x_loc ad 0 ls).filter (fun q => !(q.1 == a) && (!(q.1 == a + 1) && !(q.1 + 1 == a && q.2.category == 2))))) : x_has ad LS nL (x_st2 ls a v) := by
  refine ⟨h.1, h.2.1, fun i u e => ?_⟩
  rcases x_set_get e with ⟨_, e2⟩ | ⟨e0, e⟩
  · cases e2
  rcases x_set_get e with ⟨e1, e2⟩ | ⟨e1, e2⟩
  · cases e2
    rw [← e1, hw]
    exact h.2.2 (a, w) List.mem_cons_self
  · obtain ⟨e3, e4⟩ := x_cl_get e2
    refine h.2.2 (i, x_val ad u) (List.mem_cons_of_mem _ (List.mem_filter.mpr ⟨(x_loc_mem ls 0).mpr ⟨i, u, e3, by rw [Nat.zero_add]⟩, ?_⟩))
    have n1 : (i == a) = false := by simpa using fun z => e1 z.symm
    have n0 : (i == a + 1) = false := by simpa using fun z => e0 z.symm
    have n2 : (i + 1 == a && (x_val ad u).category == 2) = false := by
      cases hb : (i + 1 == a && (x_val ad u).category == 2) with
      | false => rfl
      | true =>
        simp only [Bool.and_eq_true, beq_iff_eq] at hb
        exact absurd ⟨hb.1, x_cat_L hb.2⟩ e4
    show (!(i == a) && (!(i == a + 1) && !(i + 1 == a && (x_val ad u).category == 2))) = true
    rw [n1, n0, n2]; rfl
end SNDA

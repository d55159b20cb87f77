/-! Printed by gen2.py: classes, kinds, cells. -/
def x_tyC (ty : Nat → FieldType) (fs : List (Nat × Nat × Nat)) : Bool := (List.range fs.length).all (fun k => match fs[k]? with
  | some q => (!(Nat.beq q.1 0) || decide (ty k = .int)) && (!(Nat.beq q.1 1) || decide (ty k = .long)) && (!(Nat.beq q.1 4) || decide (ty k = .boolean))
  | none => true)
theorem x_tyC_ok {ty : Nat → FieldType} {fs : List (Nat × Nat × Nat)} (h : x_tyC ty fs = true) (k : Nat) (q : Nat × Nat × Nat) (hq : fs[k]? = some q) : (q.1 = 0 → ty k = .int) ∧ (q.1 = 1 → ty k = .long) ∧ (q.1 = 4 → ty k = .boolean) := by
  have z := List.all_eq_true.mp h k (List.mem_range.mpr (List.getElem?_eq_some_iff.mp hq).1)
  rw [hq] at z
  simp only [Bool.and_eq_true, Bool.or_eq_true, decide_eq_true_eq, Bool.not_eq_true'] at z
  obtain ⟨⟨z1, z2⟩, z3⟩ := z
  refine ⟨fun e => ?_, fun e => ?_, fun e => ?_⟩
  · rcases z1 with z1 | z1
    · rw [e] at z1; cases z1
    · exact z1
  · rcases z2 with z2 | z2
    · rw [e] at z2; cases z2
    · exact z2
  · rcases z3 with z3 | z3
    · rw [e] at z3; cases z3
    · exact z3
theorem x_uA {C : String} {T : u_T} {n : Nat} {ps : List Nat} (h : (List.range n).all (fun k => x_wd (ps.getD k 0) (u_lay C T k)) = true) : ∀ w ∈ u_ws C T n, w ∈ x_Ts := by
  intro w hw
  obtain ⟨k, hk, rfl⟩ := List.mem_map.mp hw
  exact x_wd_mem (List.all_eq_true.mp h k hk)
def x_Kok (q : xT) : Prop := match q with
  | Sum.inl (ci, fs) => ∃ (C : String) (T : u_T) (ty0 : Nat → FieldType), vwCl[ci]? = some (C, T, fs.length) ∧ (∀ w ∈ u_ws C T fs.length, w ∈ x_Ts) ∧ (∀ a, a < fs.length → ∀ b, b < fs.length → a ≠ b → (T a).2.1 ≠ (T b).2.1) ∧ (∀ k, k < fs.length → parseFieldDescriptor (T k).2.2.1 = some (ty0 k)) ∧
    ∀ (k : Nat) (q : Nat × Nat × Nat), fs[k]? = some q → (q.1 = 0 → ty0 k = .int) ∧ (q.1 = 1 → ty0 k = .long) ∧ (q.1 = 4 → ty0 k = .boolean)
  | Sum.inr (t, _) => t = 0 ∨ t = 1 ∨ t = 2 ∨ t = 3
set_option maxRecDepth 100000 in
theorem x_Kall : ∀ q ∈ x_KL, x_Kok q := List.forall_mem_cons.mpr ⟨⟨RX11, TX11, tyX11, rfl, x_uA x_uK11, nmX11, tyX11_ok, x_tyC_ok (by decide +kernel)⟩, List.forall_mem_cons.mpr ⟨⟨RX10, TX10, tyX10, rfl, x_uA x_uK10, nmX10, tyX10_ok, x_tyC_ok (by decide +kernel)⟩, List.forall_mem_cons.mpr ⟨⟨RX2, TX2, tyX2, rfl, x_uA x_uK2, nmX2, tyX2_ok, x_tyC_ok (by decide +kernel)⟩, List.forall_mem_cons.mpr ⟨⟨RX6, TX6, tyX6, rfl, x_uA x_uK6, nmX6, tyX6_ok, x_tyC_ok (by decide +kernel)⟩, List.forall_mem_cons.mpr ⟨⟨RX3, TX3, tyX3, rfl, x_uA x_uK3, nmX3, tyX3_ok, x_tyC_ok (by decide +kernel)⟩, List.forall_mem_cons.mpr ⟨⟨RX8, TX8, tyX8, rfl, x_uA x_uK8, nmX8, tyX8_ok, x_tyC_ok (by decide +kernel)⟩, List.forall_mem_cons.mpr ⟨⟨RX1, TX1, tyX1, rfl, x_uA x_uK1, nmX1, tyX1_ok, x_tyC_ok (by decide +kernel)⟩, List.forall_mem_cons.mpr ⟨⟨RX0, TX0, tyX0, rfl, x_uA x_uK0, nmX0, tyX0_ok, x_tyC_ok (by decide +kernel)⟩, List.forall_mem_cons.mpr ⟨⟨RX7, TX7, tyX7, rfl, x_uA x_uK7, nmX7, tyX7_ok, x_tyC_ok (by decide +kernel)⟩, List.forall_mem_cons.mpr ⟨⟨RX9, TX9, tyX9, rfl, x_uA x_uK9, nmX9, tyX9_ok, x_tyC_ok (by decide +kernel)⟩, List.forall_mem_cons.mpr ⟨⟨RX5, TX5, tyX5, rfl, x_uA x_uK5, nmX5, tyX5_ok, x_tyC_ok (by decide +kernel)⟩, List.forall_mem_cons.mpr ⟨⟨RX4, TX4, tyX4, rfl, x_uA x_uK4, nmX4, tyX4_ok, x_tyC_ok (by decide +kernel)⟩, List.forall_mem_cons.mpr ⟨⟨RX4, TX4, tyX4, rfl, x_uA x_uK4, nmX4, tyX4_ok, x_tyC_ok (by decide +kernel)⟩, List.forall_mem_cons.mpr ⟨⟨RX12, TX12, tyX12, rfl, x_uA x_uK12, nmX12, tyX12_ok, x_tyC_ok (by decide +kernel)⟩, List.forall_mem_cons.mpr ⟨Or.inl rfl, List.forall_mem_cons.mpr ⟨Or.inl rfl, List.forall_mem_cons.mpr ⟨Or.inl rfl, List.forall_mem_cons.mpr ⟨Or.inl rfl, List.forall_mem_cons.mpr ⟨Or.inl rfl, List.forall_mem_cons.mpr ⟨Or.inl rfl, List.forall_mem_cons.mpr ⟨Or.inr (Or.inl rfl), List.forall_mem_cons.mpr ⟨Or.inl rfl, List.forall_mem_cons.mpr ⟨Or.inr (Or.inl rfl), List.forall_mem_cons.mpr ⟨Or.inl rfl, List.forall_mem_cons.mpr ⟨Or.inl rfl, List.forall_mem_cons.mpr ⟨Or.inl rfl, List.forall_mem_cons.mpr ⟨Or.inl rfl, List.forall_mem_cons.mpr ⟨Or.inl rfl, List.forall_mem_cons.mpr ⟨Or.inl rfl, List.forall_mem_cons.mpr ⟨Or.inl rfl, List.forall_mem_cons.mpr ⟨Or.inl rfl, List.forall_mem_cons.mpr ⟨Or.inl rfl, List.forall_mem_cons.mpr ⟨Or.inl rfl, List.forall_mem_cons.mpr ⟨Or.inl rfl, List.forall_mem_cons.mpr ⟨Or.inl rfl, List.forall_mem_cons.mpr ⟨Or.inl rfl, List.forall_mem_cons.mpr ⟨Or.inl rfl, List.forall_mem_cons.mpr ⟨Or.inl rfl, List.forall_mem_cons.mpr ⟨Or.inr (Or.inl rfl), List.forall_mem_cons.mpr ⟨Or.inl rfl, List.forall_mem_cons.mpr ⟨Or.inl rfl, List.forall_mem_cons.mpr ⟨Or.inr (Or.inl rfl), List.forall_mem_cons.mpr ⟨Or.inl rfl, List.forall_mem_cons.mpr ⟨Or.inl rfl, List.forall_mem_cons.mpr ⟨Or.inl rfl, List.forall_mem_cons.mpr ⟨Or.inl rfl, List.forall_mem_cons.mpr ⟨Or.inl rfl, List.forall_mem_cons.mpr ⟨Or.inl rfl, List.forall_mem_cons.mpr ⟨Or.inl rfl, List.forall_mem_cons.mpr ⟨Or.inl rfl, List.forall_mem_cons.mpr ⟨Or.inl rfl, List.forall_mem_cons.mpr ⟨Or.inl rfl, List.forall_mem_cons.mpr ⟨Or.inl rfl, List.forall_mem_cons.mpr ⟨Or.inl rfl, List.forall_mem_cons.mpr ⟨Or.inl rfl, List.forall_mem_cons.mpr ⟨Or.inl rfl, List.forall_mem_cons.mpr ⟨Or.inl rfl, List.forall_mem_cons.mpr ⟨Or.inl rfl, List.forall_mem_cons.mpr ⟨Or.inl rfl, List.forall_mem_cons.mpr ⟨Or.inl rfl, List.forall_mem_cons.mpr ⟨Or.inl rfl, List.forall_mem_cons.mpr ⟨Or.inl rfl, List.forall_mem_cons.mpr ⟨Or.inl rfl, List.forall_mem_cons.mpr ⟨Or.inr (Or.inl rfl), List.forall_mem_cons.mpr ⟨Or.inr (Or.inl rfl), List.forall_mem_cons.mpr ⟨Or.inl rfl, List.forall_mem_cons.mpr ⟨Or.inl rfl, List.forall_mem_cons.mpr ⟨Or.inl rfl, List.forall_mem_cons.mpr ⟨Or.inl rfl, List.forall_mem_cons.mpr ⟨Or.inl rfl, List.forall_mem_cons.mpr ⟨Or.inr (Or.inr (Or.inl rfl)), List.forall_mem_cons.mpr ⟨Or.inr (Or.inr (Or.inl rfl)), List.forall_mem_cons.mpr ⟨Or.inl rfl, List.forall_mem_cons.mpr ⟨Or.inl rfl, List.forall_mem_cons.mpr ⟨Or.inr (Or.inr (Or.inr rfl)), fun _ h => absurd h List.not_mem_nil⟩⟩⟩⟩⟩⟩⟩⟩⟩⟩⟩⟩⟩⟩⟩⟩⟩⟩⟩⟩⟩⟩⟩⟩⟩⟩⟩⟩⟩⟩⟩⟩⟩⟩⟩⟩⟩⟩⟩⟩⟩⟩⟩⟩⟩⟩⟩⟩⟩⟩⟩⟩⟩⟩⟩⟩⟩⟩⟩⟩⟩⟩⟩⟩⟩⟩⟩⟩⟩⟩⟩⟩⟩⟩⟩
def x_clC (Cl : List (Nat × Nat)) : Bool := Cl.all (fun z => match x_K z.1 with
  | some (Sum.inl (_, fs)) => fs.all (fun q => (!(Nat.beq q.1 2) || Cl.elem (q.2.1, q.2.2)) && (!(Nat.beq q.1 3) || Cl.elem (q.2.1, z.2)))
  | _ => true)
def x_ksC (v : xV) : Bool := match v with
  | Sum.inr (Sum.inr (c, _)) => match x_K c with
    | none => true
    | some (Sum.inr (3, _)) => true
    | _ => false
  | _ => true
theorem x_kSK11 : x_kST11.all (fun q => x_ksC q.2) = true := by decide +kernel
theorem x_kSK12 : x_kST12.all (fun q => x_ksC q.2) = true := by decide +kernel
theorem x_kSA : ∀ o q, q ∈ x_kST o → x_ksC q.2 = true := by
  intro o q h
  unfold x_kST at h
  split at h
  · exact List.all_eq_true.mp x_kSK11 q h
  · exact List.all_eq_true.mp x_kSK12 q h
  · cases h
theorem x_ksC_ok {v : xV} {Cl : List (Nat × Nat)} (h : x_ksC v = true) : x_vv x_K Cl v := by
  match v, h with
  | Sum.inl _, _ => trivial
  | Sum.inr (Sum.inl _), _ => trivial
  | Sum.inr (Sum.inr (c, i)), h =>
    simp only [x_ksC] at h
    split at h
    · next e => exact Or.inr (Or.inl e)
    · next n e => exact Or.inr (Or.inr ⟨n, e⟩)
    · cases h
theorem x_Fx_ok {Cl : List (Nat × Nat)} (h1 : x_clC Cl = true) (h2 : Cl.Nodup) : x_Fx x_Ts x_Nw x_N x_K vwCl Cl := by
  refine ⟨fun o i ci k nf h => ?_, fun o i x h => ?_, fun o i x h => ?_, fun c ci fs h => ?_, fun c i ci fs hm hK q hq => ?_, fun c i j k hj hk => ?_, fun o i v h => ?_, fun c ty n h => ?_⟩
  · obtain ⟨q, hq, e⟩ := Option.map_eq_some_iff.mp h
    have z := x_flA o _ (x_lk_mem hq)
    obtain ⟨ci', k', p, nest⟩ := q
    cases e
    simp only [x_flC] at z
    split at z
    · next C T n e =>
      simp only [Bool.and_eq_true, decide_eq_true_eq] at z
      refine ⟨C, T, n, e, z.1, fun hf => ?_, ?_⟩
      · simp only [x_fnf, e] at hf
        simpa using hf
      · cases nest with
        | false => exact Or.inl (x_wd_mem z.2)
        | true => exact Or.inr ⟨_, x_nw_mem (of_decide_eq_true z.2) rfl⟩
    · cases z
  · obtain ⟨q, hq, rfl⟩ := Option.map_eq_some_iff.mp h
    exact x_wd_mem (x_kIA o _ (x_lk_mem hq))
  · obtain ⟨q, hq, rfl⟩ := Option.map_eq_some_iff.mp h
    exact x_wd_mem (x_kLA o _ (x_lk_mem hq))
  · exact x_Kall _ (List.mem_of_getElem? h)
  · have z := List.all_eq_true.mp h1 _ hm
    simp only [hK] at z
    have z := List.all_eq_true.mp z q hq
    simp only [Bool.and_eq_true, Bool.or_eq_true, Bool.not_eq_true'] at z
    refine ⟨fun e => ?_, fun e => ?_⟩
    · rcases z.1 with z1 | z1
      · rw [e] at z1; cases z1
      · exact Or.inl (List.elem_iff.mp z1)
    · rcases z.2 with z1 | z1
      · rw [e] at z1; cases z1
      · exact Or.inl (List.elem_iff.mp z1)
  · exact (List.getElem?_inj (List.getElem?_eq_some_iff.mp hj).1 h2).mp (hj.trans hk.symm)
  · exact x_ksC_ok (x_kSA o _ (x_lk_mem h))
  · exact x_Kall _ (List.mem_of_getElem? h)
/-- all cells -/
def x_Cl : List (Nat × Nat) := [(0, 0), (1, 0), (2, 0), (3, 0), (3, 1), (4, 0), (5, 0), (5, 1), (6, 0), (7, 0), (8, 0), (9, 0), (10, 0), (11, 0), (12, 0), (13, 0), (14, 0), (15, 0), (16, 0), (17, 0), (17, 1), (18, 0), (18, 1), (19, 0), (19, 1), (20, 0), (21, 0), (22, 0), (23, 0), (24, 0), (24, 1), (25, 0), (25, 1), (26, 0), (27, 0), (28, 0), (29, 0), (30, 0), (31, 0), (32, 0), (33, 0), (34, 0), (35, 0), (36, 0), (37, 0), (38, 0), (39, 0), (40, 0), (41, 0), (42, 0), (43, 0), (43, 1), (44, 0), (45, 0), (46, 0), (47, 0), (47, 1), (47, 2), (48, 0), (49, 0), (50, 0), (51, 0), (52, 0), (53, 0), (54, 0), (55, 0), (56, 0), (57, 0), (58, 0), (59, 0), (60, 0), (61, 0), (62, 0), (63, 0), (64, 0), (65, 0), (66, 0), (67, 0), (68, 0), (69, 0), (70, 0), (71, 0), (72, 0), (73, 0)]
theorem x_Cl_c : x_clC x_Cl = true := by decide +kernel
theorem x_Cl_n : x_Cl.Nodup := by decide +kernel
theorem x_F0 : x_Fx x_Ts x_Nw x_N x_K vwCl x_Cl := x_Fx_ok x_Cl_c x_Cl_n

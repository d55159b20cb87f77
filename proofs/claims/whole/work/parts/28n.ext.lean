/-! What lies outside the world, at the law's entry. -/
section LEXT
variable {s : State} {args : Array Value}
def z_F : List Cond := flatC (Jvm.Cond.and given_1 narrow_1)
def z_hT : Term := Term.static "PramGardens" "HIGHEST_HEARD" "[I"
theorem z_hel_in : ∀ j, j < 5 → Cond.eq (Term.elem z_hT (.int (Int32.ofNat j))) (.int (x_cst j)) ∈ z_F := by decide +kernel
theorem z_harr_in : Cond.arrayOf z_hT .int ∈ z_F := by decide +kernel
theorem z_hlen_in : Cond.eq (Term.length z_hT) (.int (Int32.ofNat 5)) ∈ z_F := by decide +kernel
theorem z_hh (hs : ∀ w ∈ z_F, w.before args s = true) : ∃ hh : Nat, z_hT.eval args s none [] s = some (.ref hh) ∧ va_X hh 5 x_cst s s.heap ∧ hh < s.heap.size := by
  have hlen := va_eqt (hs _ z_hlen_in)
  obtain ⟨t, ht, cell, hcell, hof, hkn, hle, hsz, hv, -⟩ := va_Tof (N := 5) (f := fun j => .int (x_cst j)) (A := fun _ => False) (by decide) (hs _ z_harr_in) hlen (fun j hj => va_eqt (hs _ (z_hel_in j hj))) (fun _ _ h => h)
  obtain ⟨t2, cell2, ht2, harr, -⟩ := Term.length_spec hlen
  cases Option.some.inj (ht.symm.trans ht2)
  have hc2 := (State.arrayAt?_spec harr).1
  cases Option.some.inj (hcell.symm.trans hc2)
  have h31 : cell.slots.size < 2 ^ 31 := by
    simp only [Term.eval, ht, harr, Option.bind_eq_bind, Option.bind_some] at hlen
    by_cases hlt : cell.slots.size < 2147483648
    · exact hlt
    · simp [hlt] at hlen
  have h5 : cell.slots.size = 5 := by
    have e1 : (nI cell.slots.size).toInt = (cell.slots.size : Int) := nI_toInt h31
    have e2 : (nI 5).toInt = ((5 : Nat) : Int) := nI_toInt (by decide)
    have e3 : nI cell.slots.size = nI 5 := hsz
    rw [e3, e2] at e1
    omega
  exact ⟨t, ht, ⟨cell, hcell, hof, hkn, h5, hv⟩, (Array.getElem?_eq_some_iff.mp hcell).1⟩
def z_tm (i : Nat) : Term := Term.string "PramGardensModel" ([201, 242, 247, 249, 251, 372].getD i 0)
def z_tP (i : Nat) : Term := Term.string "PramGardens" ([186, 195, 485].getD i 0)
theorem z_s1 : ∀ i, i < 6 → Cond.exactly (z_tm i) "java/lang/String" ∈ z_F := by decide +kernel
theorem z_s2 : ∀ i, i < 6 → Cond.eq (.field (z_tm i) "java/lang/String" "coder" "B") (.int 0) ∈ z_F := by decide +kernel
theorem z_s3 : ∀ i, i < 6 → Cond.arrayOf (.field (z_tm i) "java/lang/String" "value" "[B") .byte ∈ z_F := by decide +kernel
theorem z_s4 : ∀ i, i < 6 → Cond.eq (.length (.field (z_tm i) "java/lang/String" "value" "[B")) (.int (Int32.ofNat (x_sL.getD i 0))) ∈ z_F := by decide +kernel
theorem z_s5 : ∀ i, i < 6 → ∀ j, j < x_sL.getD i 0 → Cond.eq (.elem (.field (z_tm i) "java/lang/String" "value" "[B") (.int (Int32.ofNat j))) (.int ((x_sB.getD i []).getD j 0)) ∈ z_F := by decide +kernel
theorem z_s6 : ∀ i, i < 6 → ∀ j, j < 6 → i ≠ j → Cond.not (Cond.eq (z_tm i) (z_tm j)) ∈ z_F ∨ Cond.not (Cond.eq (z_tm j) (z_tm i)) ∈ z_F := by decide +kernel
theorem z_s7 : ∀ i, i < 3 → Cond.exactly (z_tP i) "java/lang/String" ∈ z_F := by decide +kernel
theorem z_s8 : ∀ q ∈ x_sE, Cond.stringRef "PramGardensModel" q.1 q.2 ∈ lw_tbl := by decide +kernel
theorem z_s9 : ∀ q ∈ y_sE, Cond.stringRef "PramGardens" q.1 q.2 ∈ lw_tbl := by decide +kernel
theorem z_nw (hts : ∀ w ∈ lw_tbl, w.before args s = true) : ∀ w ∈ x_Nw, va_Nw w s := by
  intro w hw
  obtain ⟨h1, h2⟩ := List.mem_filter.mp hw
  have h := hts w h1
  cases w <;> first | (exact absurd h2 Bool.false_ne_true) | exact va_Nw.of rfl h
theorem z_mw (hts : ∀ w ∈ lw_tbl, w.before args s = true) : ∀ w ∈ y_Mw, va_Nw w s := by
  intro w hw
  have h2 := List.all_eq_true.mp y_Mw_k w hw
  have h := hts w (y_Mw_in w hw)
  cases w <;> first | (exact absurd h2 Bool.false_ne_true) | exact va_Nw.of rfl h
theorem z_ext (hts : ∀ w ∈ lw_tbl, w.before args s = true) (hs : ∀ w ∈ z_F, w.before args s = true) : ∃ (hh : Nat) (adS adV sa : Nat → Nat) (fm : Value), y_EX (z_A s) hh adS adV fm sa s := by
  have hA : ∀ a : Nat, a < s.heap.size → ¬ z_A s a := fun a h => Nat.not_le.mpr h
  obtain ⟨hh, e1, hX, hlt⟩ := z_hh hs
  obtain ⟨adS, adV, hS, hev⟩ := vk_Sof (args := args) (s := s) (N := 6) (tm := z_tm) (len := x_sL) (byt := x_sB) (A := z_A s) (by decide) (fun i hi => hs _ (z_s1 i hi)) (fun i hi => hs _ (z_s2 i hi)) (fun i hi => hs _ (z_s3 i hi)) (fun i hi => hs _ (z_s4 i hi)) (fun i hi j hj => hs _ (z_s5 i hi j hj)) (fun i j hi hj hij => (z_s6 i hi j hj hij).elim (fun h => Or.inl (hs _ h)) (fun h => Or.inr (hs _ h))) hA
  have hsa : ∀ i : Nat, ∃ q : Nat, i < 3 → (z_tP i).eval args s none [] s = some (.ref q) := by
    intro i
    by_cases hi : i < 3
    · obtain ⟨a, c, cA, kA, q1, -⟩ := Cond.exactly_spec (args := args) (first := s) (o := none) (s := s) (idx := []) (t := z_tP i) (cls := "java/lang/String") (hs _ (z_s7 i hi))
      exact ⟨a, fun _ => q1⟩
    · exact ⟨0, fun h => absurd h hi⟩
  obtain ⟨sa, hsa⟩ := Classical.axiomOfChoice hsa
  have hfm : ∃ fm : Value, va_Z "jdk/internal/util/Preconditions" "SIOOBE_FORMATTER" "Ljava/util/function/BiFunction;" fm (z_A s) s s.heap ∧ fm.category = 1 := by
    rcases va_Zqof (C := "jdk/internal/util/Preconditions") (n := "SIOOBE_FORMATTER") (d := "Ljava/util/function/BiFunction;") (A := z_A s) (hts _ (by decide +kernel)) (hts _ (by decide +kernel)) (hs _ (by decide +kernel)) hA with h | ⟨t, h⟩
    · exact ⟨.null, h, rfl⟩
    · exact ⟨.ref t, h, rfl⟩
  obtain ⟨fm, hfm, hfc⟩ := hfm
  refine ⟨hh, adS, adV, sa, fm, ⟨z_nw hts, ⟨va_Zof (hts _ (by decide +kernel)) (hts _ (by decide +kernel)) e1 hA, hX, hlt, hA hh hlt⟩, fun j q hq => ?_, hS, va_Zof (hts _ (by decide +kernel)) (hts _ (by decide +kernel)) (va_eqi (hs _ (by decide +kernel))) hA, hfm, hfc⟩, vx_Zqof (hts _ (by decide +kernel)) (hts _ (by decide +kernel)) (hs _ (by decide +kernel)) hA, vx_Zqof (hts _ (by decide +kernel)) (hts _ (by decide +kernel)) (hs _ (by decide +kernel)) hA, fun j q hq => ?_, z_mw hts⟩
  · have hj : j < 6 := (List.getElem?_eq_some_iff.mp hq).1
    refine vk_R.of (A := args) (hts _ (z_s8 q (List.mem_of_getElem? hq))) ?_
    have h := hev j hj
    rcases (by omega : j = 0 ∨ j = 1 ∨ j = 2 ∨ j = 3 ∨ j = 4 ∨ j = 5) with rfl | rfl | rfl | rfl | rfl | rfl <;> (cases hq; exact h)
  · have hj : j < 3 := (List.getElem?_eq_some_iff.mp hq).1
    refine vk_R.of (A := args) (hts _ (z_s9 q (List.mem_of_getElem? hq))) ?_
    have h := hsa j hj
    rcases (by omega : j = 0 ∨ j = 1 ∨ j = 2) with rfl | rfl | rfl <;> (cases hq; exact h)
/-- classes and array classes -/
theorem z_K (hts : ∀ w ∈ x_Ts, w.before args s = true) : ∃ (D : va_G) (cA : Nat → ClassId), va_K D vwCl [(cA 0, .int), (cA 1, .long), (cA 2, .boolean)] s := by
  have h0 : ∀ k : Nat, ∃ z : ClassId × (Nat → Nat), ∀ q : vw_C, vwCl[k]? = some q → u_Kn s q.1 q.2.1 q.2.2 z.1 z.2 := by
    intro k
    match k with
    | 0 => 
      obtain ⟨c, iS, h⟩ := u_known (C := RX0) (T := TX0) (N := 6) (n := 6) hts (x_uA x_uK0) (hts (.instantiable RX0 6) (List.mem_filter.mpr ⟨by decide +kernel, by decide +kernel⟩))
      exact ⟨(c, iS), fun q hq => by cases hq; exact h⟩
    | 1 => 
      obtain ⟨c, iS, h⟩ := u_known (C := RX1) (T := TX1) (N := 6) (n := 6) hts (x_uA x_uK1) (hts (.instantiable RX1 6) (List.mem_filter.mpr ⟨by decide +kernel, by decide +kernel⟩))
      exact ⟨(c, iS), fun q hq => by cases hq; exact h⟩
    | 2 => 
      obtain ⟨c, iS, h⟩ := u_known (C := RX2) (T := TX2) (N := 5) (n := 5) hts (x_uA x_uK2) (hts (.instantiable RX2 5) (List.mem_filter.mpr ⟨by decide +kernel, by decide +kernel⟩))
      exact ⟨(c, iS), fun q hq => by cases hq; exact h⟩
    | 3 => 
      obtain ⟨c, iS, h⟩ := u_known (C := RX3) (T := TX3) (N := 8) (n := 8) hts (x_uA x_uK3) (hts (.instantiable RX3 8) (List.mem_filter.mpr ⟨by decide +kernel, by decide +kernel⟩))
      exact ⟨(c, iS), fun q hq => by cases hq; exact h⟩
    | 4 => 
      obtain ⟨c, iS, h⟩ := u_known (C := RX4) (T := TX4) (N := 2) (n := 2) hts (x_uA x_uK4) (hts (.instantiable RX4 2) (List.mem_filter.mpr ⟨by decide +kernel, by decide +kernel⟩))
      exact ⟨(c, iS), fun q hq => by cases hq; exact h⟩
    | 5 => 
      obtain ⟨c, iS, h⟩ := u_known (C := RX5) (T := TX5) (N := 2) (n := 2) hts (x_uA x_uK5) (hts (.instantiable RX5 2) (List.mem_filter.mpr ⟨by decide +kernel, by decide +kernel⟩))
      exact ⟨(c, iS), fun q hq => by cases hq; exact h⟩
    | 6 => 
      obtain ⟨c, iS, h⟩ := u_known (C := RX6) (T := TX6) (N := 6) (n := 6) hts (x_uA x_uK6) (hts (.instantiable RX6 6) (List.mem_filter.mpr ⟨by decide +kernel, by decide +kernel⟩))
      exact ⟨(c, iS), fun q hq => by cases hq; exact h⟩
    | 7 => 
      obtain ⟨c, iS, h⟩ := u_known (C := RX7) (T := TX7) (N := 8) (n := 8) hts (x_uA x_uK7) (hts (.instantiable RX7 8) (List.mem_filter.mpr ⟨by decide +kernel, by decide +kernel⟩))
      exact ⟨(c, iS), fun q hq => by cases hq; exact h⟩
    | 8 => 
      obtain ⟨c, iS, h⟩ := u_known (C := RX8) (T := TX8) (N := 7) (n := 7) hts (x_uA x_uK8) (hts (.instantiable RX8 7) (List.mem_filter.mpr ⟨by decide +kernel, by decide +kernel⟩))
      exact ⟨(c, iS), fun q hq => by cases hq; exact h⟩
    | 9 => 
      obtain ⟨c, iS, h⟩ := u_known (C := RX9) (T := TX9) (N := 10) (n := 10) hts (x_uA x_uK9) (hts (.instantiable RX9 10) (List.mem_filter.mpr ⟨by decide +kernel, by decide +kernel⟩))
      exact ⟨(c, iS), fun q hq => by cases hq; exact h⟩
    | 10 => 
      obtain ⟨c, iS, h⟩ := u_known (C := RX10) (T := TX10) (N := 4) (n := 4) hts (x_uA x_uK10) (hts (.instantiable RX10 4) (List.mem_filter.mpr ⟨by decide +kernel, by decide +kernel⟩))
      exact ⟨(c, iS), fun q hq => by cases hq; exact h⟩
    | 11 => 
      obtain ⟨c, iS, h⟩ := u_known (C := RX11) (T := TX11) (N := 14) (n := 14) hts (x_uA x_uK11) (hts (.instantiable RX11 14) (List.mem_filter.mpr ⟨by decide +kernel, by decide +kernel⟩))
      exact ⟨(c, iS), fun q hq => by cases hq; exact h⟩
    | 12 => 
      obtain ⟨c, iS, h⟩ := u_known (C := RX12) (T := TX12) (N := 64) (n := 64) hts (x_uA x_uK12) (hts (.instantiable RX12 64) (List.mem_filter.mpr ⟨by decide +kernel, by decide +kernel⟩))
      exact ⟨(c, iS), fun q hq => by cases hq; exact h⟩
    | k + 13 => exact ⟨(0, fun _ => 0), fun q hq => by simp [vwCl] at hq⟩
  obtain ⟨f, hf⟩ := Classical.axiomOfChoice h0
  have ha : ∀ ty : FieldType, (Cond.arrayClass ty).before args s = true → ∃ c : ClassId, ArrOfT s c ty ∧ s.vm.findClass ("[" ++ ty.toString) = some c := by
    intro ty h
    obtain ⟨c, kA, comp, h1, h2, h3⟩ := Cond.arrayClass_spec (args := args) (first := s) (o := none) (s := s) (idx := []) h
    exact ⟨c, fun n z => ⟨fun k h => (by cases h), kA, h2, comp, h3⟩, h1⟩
  obtain ⟨c0, a0, b0⟩ := ha .int (hts _ (List.mem_filter.mpr ⟨by decide +kernel, by decide +kernel⟩))
  obtain ⟨c1, a1, b1⟩ := ha .long (hts _ (List.mem_filter.mpr ⟨by decide +kernel, by decide +kernel⟩))
  obtain ⟨c2, a2, b2⟩ := ha .boolean (hts _ (List.mem_filter.mpr ⟨by decide +kernel, by decide +kernel⟩))
  refine ⟨(fun k => (f k).1, fun k => (f k).2), fun j => [c0, c1, c2].getD j c0, fun k q hq => hf k q hq, fun k q hq => ?_⟩
  match k, hq with
  | 0, hq => cases hq; exact ⟨a0, b0⟩
  | 1, hq => cases hq; exact ⟨a1, b1⟩
  | 2, hq => cases hq; exact ⟨a2, b2⟩
  | k + 3, hq => simp at hq
end LEXT

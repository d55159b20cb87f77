/-! The law's loop: its calls. Printed by genL.py. -/
section LCASE
variable {p : Program} {l : Launch} {e : Env} {s : State} {m : MethodId} {below : List Frame} {meth : Method} {c : Code} {H : Heap} {locs : List Loc} {cells slots : Nat} {Q : State → Prop} {D : va_G} {tys : List (ClassId × FieldType)} {cA : Nat → ClassId} {ad : Nat → Nat → Nat} {hh qo : Nat} {adS adV sa : Nat → Nat} {fm : Value} {b L i k : Nat} {xs : Nat → Int32} {ov : Nat → Int64} {t : xS} {ls : Array Slot} {rest : List Value} {pc : Nat} {I : xS → Nat → Prop}
def z_A (s : State) : Nat → Prop := fun q => s.heap.size ≤ q
def z_C (p : Program) (l : Launch) (s : State) (m : MethodId) (meth : Method) (c : Code) (b L : Nat) (xs : Nat → Int32) (D : va_G) (tys : List (ClassId × FieldType)) (cA : Nat → ClassId) (ad : Nat → Nat → Nat) (qo hh : Nat) (adS adV sa : Nat → Nat) (fm : Value) : Prop :=
  (p.tables.exec = Jvm.exec ∧ c.code = code ∧ meth.sig.returnType = ret ∧ c.maxLocals = 8 ∧ meth.locks = false) ∧ (s.vm.findClass RL = some m.cls ∧ (∀ w ∈ x_Ts, w.before #[Value.ref b] s = true)) ∧ (va_X b L xs s s.heap ∧ b < s.heap.size) ∧ va_K D vwCl tys s ∧ y_EX (z_A s) hh adS adV fm sa s ∧ x_Wd cA ad x_Cl (y_A1 ad) tys hh adS ∧ (∀ ov t, va_D (z_A s) (y_w cA ad qo ov t)) ∧ l.stackTraces = false
abbrev z_L (b : Nat) (ad : Nat → Nat → Nat) (qo i : Nat) : List (Nat × Value) := [(0, .ref b), (1, .ref (ad 0 0)), (2, .ref (ad 13 0)), (3, .ref qo), (4, .int (nI i))]
/-- one call of both: alike -/
def z_R (I : xS → Nat → Prop) (fc fm : Nat) (as : List xV) (t : xS) (k : Nat) : Prop := ∃ r t1 t2, ev 100 fc (vR 0 0 :: as) t = some (some (vI r), t1) ∧ ev 100 fm (vR 13 0 :: as) t1 = some (some (vI r), t2) ∧ I t2 (k + 1)
theorem z_A1 (C : z_C p l s m meth c b L xs D tys cA ad qo hh adS adV sa fm) : ∀ q, y_A1 ad q → z_A s q := by
  rintro q ⟨z, hz, rfl⟩
  obtain ⟨j, hj⟩ := List.getElem?_of_mem hz
  have h1 : (y_w cA ad qo (fun _ => 0) x_z)[j + 1]? = some (ad z.1 z.2, x_cell x_K cA ad x_z z.1 z.2) := by
    show (x_ws x_K cA ad x_z x_Cl)[j]? = _
    unfold x_ws
    rw [List.getElem?_map, hj]; rfl
  exact (C.2.2.2.2.2.2.1 (fun _ => 0) x_z).2 (j + 1) _ h1
theorem z_A2 (C : z_C p l s m meth c b L xs D tys cA ad qo hh adS adV sa fm) : ∀ q, y_A2 ad qo q → z_A s q := by
  rintro q (rfl | h)
  · exact (C.2.2.2.2.2.2.1 (fun _ => 0) x_z).2 0 _ rfl
  · exact z_A1 C q h
theorem z_arg (C : z_C p l s m meth c b L xs D tys cA ad qo hh adS adV sa fm) (hl : lv_has ls 8 (z_L b ad qo i)) (hS : va_S (z_A s) s.heap H locs) (hL : L ≤ 2560) {j : Nat} {nj : Int} (hj : Int32.ofInt nj = nI j) (hij : i + j < L) (d1 : decode code pc = .ok (.aload_n 0, 1)) (d2 : decode code (pc + 1) = .ok (.iload 4, 2)) (d3 : decode code (pc + 3) = .ok (.iconst nj, 1)) (d4 : decode code (pc + 4) = .ok (.iadd, 1)) (d5 : decode code (pc + 5) = .ok (.iaload, 1))
    (kk : W p l e room_1 s m #[Value.ref b] below meth c H locs cells slots Q (F0 m (pc + 6) ls (.int (xs (i + j)) :: rest))) : W p l e room_1 s m #[Value.ref b] below meth c H locs cells slots Q (F0 m pc ls rest) := by
  obtain ⟨⟨hx, hb, -, -, -⟩, -, ⟨hX, hbl⟩, -⟩ := C
  refine lv_aload_n hx hb d1 rfl (lv_at hl 0 rfl) ?_
  refine lv_iload hx hb d2 (lv_at hl 4 rfl) ?_
  refine lv_iconst hx hb d3 hj ?_
  refine lv_iadd hx hb d4 ?_
  rw [nI_add]
  refine va_sld hx hb hX hbl (Nat.not_le.mpr hbl) hS (vp_in_nI hij (by omega)) d5 ?_
  rw [nI_clamp (by omega)]
  exact kk
theorem z_call (C : z_C p l s m meth c b L xs D tys cA ad qo hh adS adV sa fm) (hP : va_P D vwCl (y_w cA ad qo ov t) H) (hS : va_S (z_A s) s.heap H locs) (hls : ls.size = 8) {f o : Nat} {y : MethodName} {ccM : ByteArray} {rt : Option FieldType} {np c0 : Nat} {fs : List (Nat × Nat × Nat)} (hI : x_inf f = some (o, y, ccM, rt, np, false)) (hKc : x_K c0 = some (Sum.inl (o, fs))) (hc0 : (c0, 0) ∈ x_Cl) (as : List Int32) {w : xO} (hev : ev 100 f (vR c0 0 :: as.map vI) t = some w) {ix : Nat} (hlk : Cond.methodLink RL ix y ∈ x_Ts) (hlen : as.length = np) (hcat : (rest.map fun v => v.category).sum ≤ 8) (hdg : decode code pc = .ok (.invokevirtual ix, 3)) (hc : cells ≤ room_1.cells) (hs : slots ≤ room_1.slots)
    (kk : ∀ (H1 : Heap) (locs1 : List Loc), va_P D vwCl (y_w cA ad qo ov w.2) H1 → va_S (z_A s) s.heap H1 locs1 → W p l e room_1 s m #[Value.ref b] below meth c H1 locs1 cells slots Q (F0 m (pc + 3) ls ((w.1.map (x_val ad)).toList ++ rest))) :
    W p l e room_1 s m #[Value.ref b] below meth c H locs cells slots Q (F0 m pc ls (((as.map vI).map (x_val ad)).reverse ++ .ref (ad c0 0) :: rest)) := by
  obtain ⟨M, hPr⟩ := x_inf_Pr hI
  have C' := C
  obtain ⟨⟨hx, hb, hr, hml, hlocks⟩, ⟨hown, hts⟩, ⟨hX, hbl⟩, hK, hE, hw, hD, hl⟩ := C'
  refine k_run hx hb hml hown hts hK hE.1 (z_A1 C) hw hPr hI (c0 := c0) (i0 := 0) (as' := as.map vI) (t := t) (fun v hv => ?_) hev hKc hlk (by decide) (by decide) (by rw [List.length_map]; exact hlen) hcat hdg (y_w_tl hP) hS hls hc hs (fun H1 locs1 hP1 hS1 hz hk => ?_)
  · rcases List.mem_cons.mp hv with h | h
    · rw [h]; exact Or.inl hc0
    · obtain ⟨x, -, hx⟩ := List.mem_map.mp h
      rw [← hx]; trivial
  · have hO : va_P D vwCl [y_O cA qo ov] H1 := (y_w_hd hP).kept (fun j q hq => hk _ ((y_w_hd hP) j q hq).lt (by
      rcases Nat.eq_zero_or_pos j with z | z
      · subst z
        have e : y_O cA qo ov = q := Option.some.inj hq
        rw [← e]; exact y_w_no (hD ov t)
      · rw [List.getElem?_eq_none (show [y_O cA qo ov].length ≤ j from z)] at hq; cases hq))
    exact kk H1 locs1 (y_w_app hO hP1) hS1
end LCASE

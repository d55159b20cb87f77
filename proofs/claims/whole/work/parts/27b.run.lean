/-! A call of a method of the light machine, from any place. -/
section CRUN
variable {p : Program} {l : Launch} {e : Env} {R : Room} {s : State} {m : MethodId} {args : Array Value} {below : List Frame} {meth : Method} {c : Code} {H : Heap} {locs : List Loc} {cells slots : Nat} {Q : State → Prop} {D : va_G} {A A1 : Nat → Prop} {tys : List (ClassId × FieldType)} {cA : Nat → ClassId} {ad : Nat → Nat → Nat} {Cl : List (Nat × Nat)} {hh : Nat} {adS adV : Nat → Nat} {fm : Value} {cc : ByteArray} {pc : Nat} {ls : Array Slot} {rest : List Value}
theorem x_EX_sub (h : x_EX A hh adS adV fm s) (hA : ∀ q, A1 q → A q) : x_EX A1 hh adS adV fm s := by
  obtain ⟨h1, ⟨h2, h3, h4, h5⟩, h6, h7, h8, h9, h10⟩ := h
  exact ⟨h1, ⟨h2.narrow hA, h3, h4, fun z => h5 (hA _ z)⟩, h6, h7.narrow hA, h8.narrow hA, h9.narrow hA, h10⟩
theorem x_callC {st0 : List Value} {A2 : Nat → Prop} {ws' : va_W} {w : Option Value}
    (hr : va_Run p l e R s m args below meth c H locs cells slots 0 0 (F0 m pc ls st0) rest (fun st oc t => oc = .returned w ∧ va_P D vwCl ws' t.heap ∧ va_F A1 st t) A2) (hA2 : ∀ q, A2 q → A q) (hA : ∀ q, A1 q → A q) (hS : va_S A s.heap H locs)
    (kk : ∀ (H1 : Heap) (locs1 : List Loc), va_P D vwCl ws' H1 → va_S A s.heap H1 locs1 → H.size ≤ H1.size → (∀ q, q < H.size → ¬ A1 q → H1[q]? = H[q]?) → W p l e R s m args below meth c H1 locs1 cells slots Q (F0 m (pc + 3) ls (w.toList ++ rest))) : W p l e R s m args below meth c H locs cells slots Q (F0 m pc ls st0) := by
  intro T hT X
  obtain ⟨v, st₀, t, T', L, h0, X', hL, e1, e2, ⟨hv, hP, hz, hk⟩, st⟩ := hr T hT X
  cases hv
  rw [h0] at hz hk
  obtain ⟨t2, a1, b1⟩ := kk T'.heap (locs ++ L) (by rw [e1]; exact hP) ⟨Nat.le_trans hS.1 (by rw [e1]; exact hz), fun q h1 h2 => by rw [e1, hk q (Nat.lt_of_lt_of_le h1 hS.1) (fun z => h2 (hA q z))]; exact hS.2.1 q h1 h2, fun q hq => by
      rcases List.mem_append.mp hq with h | h
      · exact hS.2.2 q h
      · exact hA2 _ (hL q h)⟩ (by rw [e1]; exact hz) (fun q h1 h2 => by rw [e1]; exact hk q h1 h2) T' rfl X'
  exact ⟨t2, st t2 a1, b1⟩
set_option maxHeartbeats 4000000 in
/-- invokevirtual of a method of the light machine -/
theorem k_run (hx : p.tables.exec = Jvm.exec) (hb : c.code = cc) {nL : Nat} (hml : c.maxLocals = nL) {own : String} (hown : s.vm.findClass own = some m.cls) (hts : ∀ w ∈ x_Ts, w.before args s = true) (hK : va_K D vwCl tys s) (hX : x_EX A hh adS adV fm s) (hA1 : ∀ q, A1 q → A q) (hw : x_Wd cA ad Cl A1 tys hh adS)
    {d f : Nat} {M : xM} {o : Nat} {y : MethodName} {ccM : ByteArray} {ret : Option FieldType} {np : Nat} (hPr : x_Pr f = Sum.inr M) (hI : x_inf f = some (o, y, ccM, ret, np, false)) {c0 i0 : Nat} {as' : List xV} {t : xS} {w : xO} (hv : x_vs x_K Cl (vR c0 i0 :: as')) (hev : ev d f (vR c0 i0 :: as') t = some w) {fs : List (Nat × Nat × Nat)} (hKc : x_K c0 = some (Sum.inl (o, fs))) {i : Nat} (hlk : Cond.methodLink own i y ∈ x_Ts) (hR1 : d + 1 ≤ R.frames) (hR2 : 41 * (d + 1) ≤ R.locals) (hlen : as'.length = np) (hcat : (rest.map fun v => v.category).sum ≤ 8) (hdg : decode cc pc = .ok (.invokevirtual i, 3)) (hP : va_P D vwCl (x_ws x_K cA ad t Cl) H) (hS : va_S A s.heap H locs) (hls : ls.size = nL) (hc : cells ≤ R.cells) (hs : slots ≤ R.slots)
    (kk : ∀ (H1 : Heap) (locs1 : List Loc), va_P D vwCl (x_ws x_K cA ad w.2 Cl) H1 → va_S A s.heap H1 locs1 → H.size ≤ H1.size → (∀ q, q < H.size → ¬ A1 q → H1[q]? = H[q]?) → W p l e R s m args below meth c H1 locs1 cells slots Q (F0 m (pc + 3) ls ((w.1.map (x_val ad)).toList ++ rest))) :
    W p l e R s m args below meth c H locs cells slots Q (F0 m pc ls ((as'.map (x_val ad)).reverse ++ .ref (ad c0 i0) :: rest)) := by
  obtain ⟨o', y', cc', ret', np', stc', hinf, hM⟩ := x_Fm_ok.2.1 f M hPr
  have hinf : x_inf f = some (o', y', cc', ret', np', stc') := hinf
  rw [hI] at hinf
  have e0 := Option.some.inj hinf
  simp only [Prod.mk.injEq] at e0
  obtain ⟨rfl, rfl, rfl, rfl, rfl, rfl⟩ := e0
  have hMet := x_con (l := l) (D := D) (adV := adV) (fm := fm) hw hPr hI hv hev
  have hG : GoodIn x_Ts (Cond.code y ccM M.1 ret :: x_Ts) := fun z hz => (List.mem_cons.mp hz).elim (fun q => by rw [q]; exact ⟨hM.1, x_Fm_ok.1 _ hM.1⟩) (fun q => ⟨q, x_Fm_ok.1 _ q⟩)
  have hX1 := x_EX_sub hX hA1
  have hbl : FrameBlind (x_Pc D vwCl tys x_K cA ad Cl (x_EX A1 hh adS adV fm) (vR c0 i0 :: as') t) := fun a' U g' mk q => ⟨q.1, q.2.1, va_K.moved (u := U) (U := U.calling g' mk a') (Vm.Alike.refl U.vm) q.2.2.1, x_EX_m U (U.calling g' mk a') q.2.2.2 (Or.inr rfl) (Nat.le_refl _) (fun _ _ _ => rfl)⟩
  have hroom : (x_rm d).frames + 1 ≤ R.frames ∧ 8 + (M.1 + 11) + (x_rm d).locals ≤ R.locals := ⟨hR1, by have := hM.2.2.2.2.2.1.1.1; show 8 + (M.1 + 11) + 41 * d ≤ R.locals; omega⟩
  have hini := hts _ hM.2.1
  have hpre : ∀ U : State, U.heap = H → s.WarmedH U.vm → x_Pc D vwCl tys x_K cA ad Cl (x_EX A1 hh adS adV fm) (vR c0 i0 :: as') t ((vR c0 i0 :: as').map (x_val ad)).toArray U := fun U hU hW => ⟨rfl, by rw [hU]; exact hP, va_K.moved hW.alike hK, x_EX_sub (x_EX_m s U hX (Or.inl hW) (by rw [hU]; exact hS.1) (fun q z1 z2 => by rw [hU]; exact hS.2.1 q z1 z2)) hA1⟩
  obtain ⟨hinm, hsel, T', n', hclo⟩ := hM.2.2.2.2.2.2.2.1 rfl
  obtain ⟨q0, hq0⟩ := x_mem_get (x_vv_obj (hv _ List.mem_cons_self) hKc)
  have he := x_ws_at (K := x_K) (cA := cA) (ad := ad) (s := t) hq0
  rw [x_cell_obj hKc] at he
  have hrecv := va_recv hK hP hclo he
  have hcb := callB_of (R := R) (mc := 0) (ms := 0) np hts hG rfl rfl rfl hini (hts _ hlk) hM.2.2.2.2.1 hroom
  exact x_callC (va_runV (As := as'.map (x_val ad)) (rest := rest) ⟨hx, hb, hml, hown, hts⟩ hMet ⟨hcb, hts _ hinm, hts _ hsel⟩ ⟨hbl, hrecv, hpre⟩ rfl (by rw [List.length_map]; exact hlen) hls rfl (lv_room hcat) hdg ⟨hc, hs⟩) hA1 hA1 hS kk
end CRUN

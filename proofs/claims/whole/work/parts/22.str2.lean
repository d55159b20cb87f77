/-! coder(), isLatin1(): over a string constant. -/
section STR2
theorem dc_0 : decode cJ0_coder_7d493 0 = .ok (.getstatic 38, 3) := by decide +kernel
theorem dc_3 : decode cJ0_coder_7d493 3 = .ok (.ifCond .eq 10, 3) := by decide +kernel
theorem dc_6 : decode cJ0_coder_7d493 6 = .ok (.aload_n 0, 1) := by decide +kernel
theorem dc_7 : decode cJ0_coder_7d493 7 = .ok (.getfield 15, 3) := by decide +kernel
theorem dc_10 : decode cJ0_coder_7d493 10 = .ok (.goto 4, 3) := by decide +kernel
theorem dc_14 : decode cJ0_coder_7d493 14 = .ok (.ireturn, 1) := by decide +kernel
set_option maxHeartbeats 4000000 in
set_option maxRecDepth 100000 in
theorem m_coder {l : Launch} {K : Nat → Option xT} {cA : Nat → ClassId} {ad : Nat → Nat → Nat} {Cl : List (Nat × Nat)} {D : va_G} {cl : List vw_C} {A : Nat → Prop} {tys : List (ClassId × FieldType)} {hh : Nat} {adS adV : Nat → Nat} {fm : Value} (h900 : ∀ j, ad 900 j = adS j) {j : Nat} (hj : j < 6) (t : xS) :
    Met l yJ0_coder_7d493 (Cond.code yJ0_coder_7d493 cJ0_coder_7d493 1 (some .byte) :: x_Ts) (x_rm 0) (x_Pc D cl tys K cA ad Cl (x_EX A hh adS adV fm) [vR 900 j] t) (x_Qc D cl K cA ad Cl A (some (vI 0), t)) 0 0 A := by
  refine va_MetF (cc := cJ0_coder_7d493) (maxL := 1) (ret := some .byte) (by decide +kernel) rfl ?_
  intro p e s m args below meth c s₁ B hml hp
  obtain ⟨rfl, hP, hK, hE⟩ := hp
  have hx := B.exec
  have hb := B.bytes
  have hr := B.returns
  have hlocks := B.notSynchronized
  have hts0 := atoms_spec (ws := Cond.code yJ0_coder_7d493 cJ0_coder_7d493 1 (some .byte) :: x_Ts) B.pre
  have hts : ∀ w ∈ x_Ts, w.before _ s = true := fun w hw => hts0 w (List.mem_cons_of_mem _ hw)
  have hown : s.vm.findClass RJ0 = some m.cls := findClass_of_methodNamed B.named
  obtain ⟨-, -, -, hS7, hC, -, -⟩ := hE
  obtain ⟨-, hco, -, -⟩ := hS7.1 j hj
  have hS : va_S A s.heap s.heap [] := va_S.rf
  rw [lg_entry_eq]
  have hl := lv_entry ([vR 900 j].map (x_val ad)) (n := 1) (by simp [lg_sl, x_val, Value.category])
  generalize (lg_sl ([vR 900 j].map (x_val ad)) ++ List.replicate (1 - (lg_sl ([vR 900 j].map (x_val ad))).length) Slot.unset).toArray = ls at hl ⊢
  have hl : lv_has ls 1 [(0, .ref (adS j))] := by rw [← h900 j]; exact hl
  refine va_gets hx hb hC hS hown (hts _ w_st38) (fun _ z => z) dc_0 ?_
  refine lv_if_eq (tgt := 13) hx hb dc_3 (by decide) (fun z => absurd z (by decide)) (fun _ => ?_)
  refine lv_aload_n hx hb (i := 0) dc_6 rfl (lv_at hl 0 rfl) ?_
  refine vk_getf hx hb hco hS hown (hts _ w_st15) (fun _ z => z) dc_7 ?_
  refine lv_goto (tgt := 14) hx hb dc_10 (by decide) ?_
  exact W.zret hx hb hr (by decide) (fun t' ht _ => ⟨rfl, by rw [ht]; exact hP, hS.F ht⟩) hS.2.2 dc_14 hlocks
end STR2

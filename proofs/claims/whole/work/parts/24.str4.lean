/-! length(), charAt(): the contracts. -/
section STR4
theorem nd_check3 : yJ3_checkIndex_8e157.cls ≠ "java/lang/invoke/MethodHandle" ∧ yJ3_checkIndex_8e157.cls ≠ "java/lang/invoke/VarHandle" ∧ (parseMethodDescriptor yJ3_checkIndex_8e157.desc).map (fun d => d.parameters.length) = some 3 := by decide +kernel
theorem nd_check0 : yJ0_checkIndex_df160.cls ≠ "java/lang/invoke/MethodHandle" ∧ yJ0_checkIndex_df160.cls ≠ "java/lang/invoke/VarHandle" ∧ (parseMethodDescriptor yJ0_checkIndex_df160.desc).map (fun d => d.parameters.length) = some 2 := by decide +kernel
theorem nd_char1 : yJ1_charAt_3b067.cls ≠ "java/lang/invoke/MethodHandle" ∧ yJ1_charAt_3b067.cls ≠ "java/lang/invoke/VarHandle" ∧ (parseMethodDescriptor yJ1_charAt_3b067.desc).map (fun d => d.parameters.length) = some 2 := by decide +kernel
variable {l : Launch} {K : Nat → Option xT} {cA : Nat → ClassId} {ad : Nat → Nat → Nat} {Cl : List (Nat × Nat)} {D : va_G} {cl : List vw_C} {A : Nat → Prop} {tys : List (ClassId × FieldType)} {hh : Nat} {adS adV : Nat → Nat} {fm : Value}
set_option maxHeartbeats 4000000 in
set_option maxRecDepth 100000 in
theorem m_coderR (h900 : ∀ j, ad 900 j = adS j) {j : Nat} (hj : j < 6) (t : xS) :
    Met l yJ0_coder_7d493 (Cond.code yJ0_coder_7d493 cJ0_coder_7d493 1 (some .byte) :: x_Ts) (x_rm 0) (x_Pv D cl tys K cA ad Cl (x_EX A hh adS adV fm) [.ref (adS j)] t) (x_Qr D cl K cA ad Cl A (some (.int 0)) t) 0 0 A := by
  have h := m_coder (l := l) (K := K) (cA := cA) (D := D) (cl := cl) (A := A) (tys := tys) (Cl := Cl) (hh := hh) (adV := adV) (fm := fm) h900 hj t
  have e1 : x_Pc D cl tys K cA ad Cl (x_EX A hh adS adV fm) [vR 900 j] t = x_Pv D cl tys K cA ad Cl (x_EX A hh adS adV fm) [.ref (adS j)] t := by
    unfold x_Pc x_Pv
    rw [show ([vR 900 j].map (x_val ad)) = [Value.ref (adS j)] by rw [← h900 j]; rfl]
  rw [← e1]
  exact h
set_option maxHeartbeats 4000000 in
set_option maxRecDepth 100000 in
theorem m_isLatin1 {j : Nat} (hj : j < 6) (t : xS) :
    Met l yJ0_isLatin1_aae02 (Cond.code yJ0_isLatin1_aae02 cJ0_isLatin1_aae02 1 (some .boolean) :: x_Ts) (x_rm 0) (x_Pv D cl tys K cA ad Cl (x_EX A hh adS adV fm) [.ref (adS j)] t) (x_Qr D cl K cA ad Cl A (some (.int 1)) t) 0 0 A := by
  refine va_MetF (cc := cJ0_isLatin1_aae02) (maxL := 1) (ret := some .boolean) (by decide +kernel) rfl ?_
  intro p e s m args below meth c s₁ B hml hp
  obtain ⟨rfl, hP, hK, hE⟩ := hp
  have hx := B.exec
  have hb := B.bytes
  have hr := B.returns
  have hlocks := B.notSynchronized
  have hts0 := atoms_spec (ws := Cond.code yJ0_isLatin1_aae02 cJ0_isLatin1_aae02 1 (some .boolean) :: x_Ts) B.pre
  have hts : ∀ w ∈ x_Ts, w.before _ s = true := fun w hw => hts0 w (List.mem_cons_of_mem _ hw)
  have hown : s.vm.findClass RJ0 = some m.cls := findClass_of_methodNamed B.named
  obtain ⟨-, -, -, hS7, hC, -, -⟩ := hE
  obtain ⟨-, hco, -, -⟩ := hS7.1 j hj
  have hS : va_S A s.heap s.heap [] := va_S.rf
  rw [lg_entry_eq]
  have hl := lv_entry ([.ref (adS j)]) (n := 1) (Nat.le_of_ble_eq_true rfl)
  generalize (lg_sl ([.ref (adS j)]) ++ List.replicate (1 - (lg_sl ([.ref (adS j)])).length) Slot.unset).toArray = ls at hl ⊢
  have hl : lv_has ls 1 [(0, .ref (adS j))] := hl
  refine va_gets hx hb hC hS hown (hts _ w_st38) (fun _ z => z) dJ0_isLatin1_aae02_0 ?_
  refine lv_if_eq (tgt := 17) hx hb dJ0_isLatin1_aae02_3 (by decide) (fun z => absurd z (by decide)) (fun _ => ?_)
  refine lv_aload_n hx hb (i := 0) dJ0_isLatin1_aae02_6 rfl (lv_at hl 0 rfl) ?_
  refine vk_getf hx hb hco hS hown (hts _ w_st15) (fun _ z => z) dJ0_isLatin1_aae02_7 ?_
  refine lv_if_ne (tgt := 17) hx hb dJ0_isLatin1_aae02_10 (by decide) (fun z => absurd rfl z) (fun _ => ?_)
  refine lv_iconst (v := 1) hx hb dJ0_isLatin1_aae02_13 (by decide) ?_
  refine lv_goto (tgt := 18) hx hb dJ0_isLatin1_aae02_14 (by decide) ?_
  exact W.zret hx hb hr (by decide) (fun t' ht _ => ⟨rfl, by rw [ht]; exact hP, hS.F ht⟩) hS.2.2 dJ0_isLatin1_aae02_18 hlocks
set_option maxHeartbeats 4000000 in
set_option maxRecDepth 100000 in
theorem m_check3 {k n : Int32} (hk : ¬ k < 0) (hkn : k < n) (hfm : fm.category = 1) (t : xS) :
    Met l yJ3_checkIndex_8e157 (Cond.code yJ3_checkIndex_8e157 cJ3_checkIndex_8e157 3 (some .int) :: x_Ts) (x_rm 0) (x_Pv D cl tys K cA ad Cl (x_EX A hh adS adV fm) [.int k, .int n, fm] t) (x_Qr D cl K cA ad Cl A (some (.int k)) t) 0 0 A := by
  refine va_MetF (cc := cJ3_checkIndex_8e157) (maxL := 3) (ret := some .int) (by decide +kernel) rfl ?_
  intro p e s m args below meth c s₁ B hml hp
  obtain ⟨rfl, hP, hK, hE⟩ := hp
  have hx := B.exec
  have hb := B.bytes
  have hr := B.returns
  have hlocks := B.notSynchronized
  have hS : va_S A s.heap s.heap [] := va_S.rf
  rw [lg_entry_eq]
  have hlen : (lg_sl ([.int k, .int n, fm])).length ≤ 3 := by
    simp [lg_sl, Value.category]
    cases fm <;> simp_all [Value.category]
  have hl := lv_entry ([.int k, .int n, fm]) (n := 3) hlen
  generalize (lg_sl ([.int k, .int n, fm]) ++ List.replicate (3 - (lg_sl ([.int k, .int n, fm])).length) Slot.unset).toArray = ls at hl ⊢
  have h0 : ls[0]? = some (.val (.int k)) := lv_at hl 0 rfl
  have h1 : ls[1]? = some (.val (.int n)) := lv_at hl 1 rfl
  refine lv_iload_n hx hb (i := 0) dJ3_checkIndex_8e157_0 rfl h0 ?_
  refine lv_if_lt (tgt := 9) hx hb dJ3_checkIndex_8e157_1 (by decide) (fun z => absurd z hk) (fun _ => ?_)
  refine lv_iload_n hx hb (i := 0) dJ3_checkIndex_8e157_4 rfl h0 ?_
  refine lv_iload_n hx hb (i := 1) dJ3_checkIndex_8e157_5 rfl h1 ?_
  refine lv_icmp_lt (tgt := 16) hx hb dJ3_checkIndex_8e157_6 (by decide) (fun _ => ?_) (fun z => absurd hkn z)
  refine lv_iload_n hx hb (i := 0) dJ3_checkIndex_8e157_16 rfl h0 ?_
  exact W.iret hx hb hr (fun t' ht _ => ⟨rfl, by rw [ht]; exact hP, hS.F ht⟩) hS.2.2 dJ3_checkIndex_8e157_17 hlocks
set_option maxHeartbeats 4000000 in
set_option maxRecDepth 100000 in
theorem m_check0 {k n : Int32} (hk : ¬ k < 0) (hkn : k < n) (hfm : fm.category = 1) (t : xS) :
    Met l yJ0_checkIndex_df160 (Cond.code yJ0_checkIndex_df160 cJ0_checkIndex_df160 2 none :: x_Ts) (x_rm 1) (x_Pv D cl tys K cA ad Cl (x_EX A hh adS adV fm) [.int k, .int n] t) (x_Qr D cl K cA ad Cl A none t) 0 0 A := by
  refine va_MetF (cc := cJ0_checkIndex_df160) (maxL := 2) (ret := none) (by decide +kernel) rfl ?_
  intro p e s m args below meth c s₁ B hml hp
  obtain ⟨rfl, hP, hK, hE⟩ := hp
  have hx := B.exec
  have hb := B.bytes
  have hr := B.returns
  have hlocks := B.notSynchronized
  have hts0 := atoms_spec (ws := Cond.code yJ0_checkIndex_df160 cJ0_checkIndex_df160 2 none :: x_Ts) B.pre
  have hts : ∀ w ∈ x_Ts, w.before _ s = true := fun w hw => hts0 w (List.mem_cons_of_mem _ hw)
  have hown : s.vm.findClass RJ0 = some m.cls := findClass_of_methodNamed B.named
  have hE' := hE
  obtain ⟨-, -, -, -, -, hF, -⟩ := hE'
  have hS : va_S A s.heap s.heap [] := va_S.rf
  rw [lg_entry_eq]
  have hl := lv_entry ([.int k, .int n]) (n := 2) (Nat.le_of_ble_eq_true rfl)
  generalize (lg_sl ([.int k, .int n]) ++ List.replicate (2 - (lg_sl ([.int k, .int n])).length) Slot.unset).toArray = ls at hl ⊢
  have hl : lv_has ls 2 [(0, .int k), (1, .int n)] := hl
  refine lv_iload_n hx hb (i := 0) dJ0_checkIndex_df160_0 rfl (lv_at hl 0 rfl) ?_
  refine lv_iload_n hx hb (i := 1) dJ0_checkIndex_df160_1 rfl (lv_at hl 1 rfl) ?_
  refine va_gets hx hb hF hS hown (hts _ w_st1053) (fun _ z => z) dJ0_checkIndex_df160_2 ?_
  refine x_jS_call (vs := [.int k, .int n, fm]) (rest := []) hx hb hml hown hts hK hE j_check3 (m_check3 hk hkn hfm t) w_st1059 nd_check3 ⟨Nat.le_of_ble_eq_true rfl, Nat.le_of_ble_eq_true rfl⟩ hl.1 (Nat.le_of_ble_eq_true rfl) hP hS dJ0_checkIndex_df160_5 (fun H1 locs1 hP1 hS1 => ?_)
  refine lv_pop hx hb dJ0_checkIndex_df160_8 rfl ?_
  exact W.vret hx hb hr (fun t' ht _ => ⟨rfl, by rw [ht]; exact hP1, hS1.F ht⟩) hS1.2.2 dJ0_checkIndex_df160_9 hlocks
theorem x_by (j k : Nat) (hj : j < 6) (hk : k < x_sL.getD j 0) : ∃ v : Int32, (x_sB.getD j []).getD k 0 = v ∧ x_chr j k = some v ∧ narrow .char (.int v) = .int v ∧ ((v &&& 255).toUInt32 % 65536).toInt32 = v := by
  have h : ((List.range 6).all fun j => (List.range (x_sL.getD j 0)).all fun k => decide (x_chr j k = some ((x_sB.getD j []).getD k 0)) && decide (narrow .char (.int ((x_sB.getD j []).getD k 0)) = .int ((x_sB.getD j []).getD k 0)) && decide ((((x_sB.getD j []).getD k 0 &&& 255).toUInt32 % 65536).toInt32 = (x_sB.getD j []).getD k 0)) = true := by decide +kernel
  have h1 := (List.all_eq_true.mp ((List.all_eq_true.mp h) j (List.mem_range.mpr hj))) k (List.mem_range.mpr hk)
  rw [Bool.and_eq_true, Bool.and_eq_true, decide_eq_true_eq, decide_eq_true_eq, decide_eq_true_eq] at h1
  exact ⟨_, rfl, h1.1.1, h1.1.2, h1.2⟩
theorem x_le (j : Nat) (hj : j < 6) : x_slen j = some (Int32.ofNat (x_sL.getD j 0)) ∧ x_sL.getD j 0 < 2147483648 := by
  have h : ((List.range 6).all fun j => decide (x_slen j = some (Int32.ofNat (x_sL.getD j 0))) && decide (x_sL.getD j 0 < 2147483648)) = true := by decide +kernel
  have h1 := (List.all_eq_true.mp h) j (List.mem_range.mpr hj)
  rw [Bool.and_eq_true, decide_eq_true_eq, decide_eq_true_eq] at h1
  exact h1
set_option maxHeartbeats 4000000 in
set_option maxRecDepth 100000 in
theorem m_charAt1 {j k : Nat} {v : Int32} (hj : j < 6) (hk : k < x_sL.getD j 0) (hv : (x_sB.getD j []).getD k 0 = v) (hn : narrow .char (.int v) = .int v) (hvv : ((v &&& 255).toUInt32 % 65536).toInt32 = v) (hfm : fm.category = 1) (t : xS) :
    Met l yJ1_charAt_3b067 (Cond.code yJ1_charAt_3b067 cJ1_charAt_3b067 2 (some .char) :: x_Ts) (x_rm 2) (x_Pv D cl tys K cA ad Cl (x_EX A hh adS adV fm) [.ref (adV j), .int (Int32.ofNat k)] t) (x_Qr D cl K cA ad Cl A (some (.int v)) t) 0 0 A := by
  refine va_MetF (cc := cJ1_charAt_3b067) (maxL := 2) (ret := some .char) (by decide +kernel) rfl ?_
  intro p e s m args below meth c s₁ B hml hp
  obtain ⟨rfl, hP, hK, hE⟩ := hp
  have hx := B.exec
  have hb := B.bytes
  have hr := B.returns
  have hlocks := B.notSynchronized
  have hts0 := atoms_spec (ws := Cond.code yJ1_charAt_3b067 cJ1_charAt_3b067 2 (some .char) :: x_Ts) B.pre
  have hts : ∀ w ∈ x_Ts, w.before _ s = true := fun w hw => hts0 w (List.mem_cons_of_mem _ hw)
  have hown : s.vm.findClass RJ1 = some m.cls := findClass_of_methodNamed B.named
  have hT := (hE.2.2.2.1.1 j hj).2.2.2
  have hlt := (x_le j hj).2
  have hS : va_S A s.heap s.heap [] := va_S.rf
  rw [lg_entry_eq]
  have hl := lv_entry ([.ref (adV j), .int (Int32.ofNat k)]) (n := 2) (Nat.le_of_ble_eq_true rfl)
  generalize (lg_sl ([.ref (adV j), .int (Int32.ofNat k)]) ++ List.replicate (2 - (lg_sl ([.ref (adV j), .int (Int32.ofNat k)])).length) Slot.unset).toArray = ls at hl ⊢
  have hl : lv_has ls 2 [(0, .ref (adV j)), (1, .int (Int32.ofNat k))] := hl
  have hi0 : (Int32.ofNat k).toInt = k := Int32.toInt_ofNat_of_lt (by omega)
  have hi1 : (Int32.ofNat (x_sL.getD j 0)).toInt = (x_sL.getD j 0 : Nat) := Int32.toInt_ofNat_of_lt (by omega)
  have hk0 : ¬ Int32.ofNat k < 0 := by rw [Int32.lt_iff_toInt_lt, hi0, show (0 : Int32).toInt = 0 by decide]; omega
  have hkn : Int32.ofNat k < Int32.ofNat (x_sL.getD j 0) := by rw [Int32.lt_iff_toInt_lt, hi0, hi1]; omega
  refine lv_iload_n hx hb (i := 1) dJ1_charAt_3b067_0 rfl (lv_at hl 1 rfl) ?_
  refine lv_aload_n hx hb (i := 0) dJ1_charAt_3b067_1 rfl (lv_at hl 0 rfl) ?_
  refine va_tlen hx hb hT hS rfl dJ1_charAt_3b067_2 ?_
  refine x_jS_call (vs := [.int (Int32.ofNat k), .int (Int32.ofNat (x_sL.getD j 0))]) (rest := []) hx hb hml hown hts hK hE j_check0 (m_check0 hk0 hkn hfm t) w_sl9 nd_check0 ⟨Nat.le_of_ble_eq_true rfl, Nat.le_of_ble_eq_true rfl⟩ hl.1 (Nat.le_of_ble_eq_true rfl) hP hS dJ1_charAt_3b067_3 (fun H1 locs1 hP1 hS1 => ?_)
  refine lv_aload_n hx hb (i := 0) dJ1_charAt_3b067_6 rfl (lv_at hl 0 rfl) ?_
  refine lv_iload_n hx hb (i := 1) dJ1_charAt_3b067_7 rfl (lv_at hl 1 rfl) ?_
  have hcl : (Int32.ofNat k).toNatClampNeg = k := by
    show (Int32.ofNat k).toInt.toNat = k
    rw [hi0]; rfl
  refine va_tb hx hb hT hS1 (i := Int32.ofNat k) (vp_in_iff.mpr ⟨by rw [hi0]; omega, by rw [hi0]; omega⟩) (v := .int v) (by rw [hcl, hv]) dJ1_charAt_3b067_8 ?_
  refine lv_sipush (v := 255) hx hb dJ1_charAt_3b067_9 (by decide) ?_
  refine lv_iand hx hb dJ1_charAt_3b067_12 ?_
  refine lv_i2c (v := v) hx hb dJ1_charAt_3b067_13 hvv ?_
  exact W.zret hx hb hr hn (fun t' ht _ => ⟨rfl, by rw [ht]; exact hP1, hS1.F ht⟩) hS1.2.2 dJ1_charAt_3b067_14 hlocks
set_option maxHeartbeats 4000000 in
set_option maxRecDepth 100000 in
theorem m_charAt {j k : Nat} {v : Int32} (hj : j < 6) (hk : k < x_sL.getD j 0) (hv : (x_sB.getD j []).getD k 0 = v) (hn : narrow .char (.int v) = .int v) (hvv : ((v &&& 255).toUInt32 % 65536).toInt32 = v) (hfm : fm.category = 1) (t : xS) :
    Met l yJ0_charAt_5068e (Cond.code yJ0_charAt_5068e cJ0_charAt_5068e 2 (some .char) :: x_Ts) (x_rm 3) (x_Pv D cl tys K cA ad Cl (x_EX A hh adS adV fm) [.ref (adS j), .int (Int32.ofNat k)] t) (x_Qr D cl K cA ad Cl A (some (.int v)) t) 0 0 A := by
  refine va_MetF (cc := cJ0_charAt_5068e) (maxL := 2) (ret := some .char) (by decide +kernel) rfl ?_
  intro p e s m args below meth c s₁ B hml hp
  obtain ⟨rfl, hP, hK, hE⟩ := hp
  have hx := B.exec
  have hb := B.bytes
  have hr := B.returns
  have hlocks := B.notSynchronized
  have hts0 := atoms_spec (ws := Cond.code yJ0_charAt_5068e cJ0_charAt_5068e 2 (some .char) :: x_Ts) B.pre
  have hts : ∀ w ∈ x_Ts, w.before _ s = true := fun w hw => hts0 w (List.mem_cons_of_mem _ hw)
  have hown : s.vm.findClass RJ0 = some m.cls := findClass_of_methodNamed B.named
  have hva := (hE.2.2.2.1.1 j hj).2.2.1
  have hS : va_S A s.heap s.heap [] := va_S.rf
  rw [lg_entry_eq]
  have hl := lv_entry ([.ref (adS j), .int (Int32.ofNat k)]) (n := 2) (Nat.le_of_ble_eq_true rfl)
  generalize (lg_sl ([.ref (adS j), .int (Int32.ofNat k)]) ++ List.replicate (2 - (lg_sl ([.ref (adS j), .int (Int32.ofNat k)])).length) Slot.unset).toArray = ls at hl ⊢
  have hl : lv_has ls 2 [(0, .ref (adS j)), (1, .int (Int32.ofNat k))] := hl
  refine lv_aload_n hx hb (i := 0) dJ0_charAt_5068e_0 rfl (lv_at hl 0 rfl) ?_
  refine x_jV_call (vs := []) (rest := []) hx hb hml hown hts hK hE hj rfl j_isLatin1 (m_isLatin1 hj t) w_st492 (by decide +kernel) ⟨Nat.le_of_ble_eq_true rfl, Nat.le_of_ble_eq_true rfl⟩ hl.1 (Nat.le_of_ble_eq_true rfl) hP hS dJ0_charAt_5068e_1 (fun H1 locs1 hP1 hS1 => ?_)
  refine lv_if_eq (tgt := 16) hx hb dJ0_charAt_5068e_4 (by decide) (fun z => absurd z (by decide)) (fun _ => ?_)
  refine lv_aload_n hx hb (i := 0) dJ0_charAt_5068e_7 rfl (lv_at hl 0 rfl) ?_
  refine vk_getf hx hb hva hS1 hown (hts _ w_st9) (fun _ z => z) dJ0_charAt_5068e_8 ?_
  refine lv_iload_n hx hb (i := 1) dJ0_charAt_5068e_11 rfl (lv_at hl 1 rfl) ?_
  refine x_jS_call (vs := [.ref (adV j), .int (Int32.ofNat k)]) (rest := []) hx hb hml hown hts hK hE j_charAt1 (m_charAt1 hj hk hv hn hvv hfm t) w_st495 nd_char1 ⟨Nat.le_of_ble_eq_true rfl, Nat.le_of_ble_eq_true rfl⟩ hl.1 (Nat.le_of_ble_eq_true rfl) hP1 hS1 dJ0_charAt_5068e_12 (fun H2 locs2 hP2 hS2 => ?_)
  exact W.zret hx hb hr hn (fun t' ht _ => ⟨rfl, by rw [ht]; exact hP2, hS2.F ht⟩) hS2.2.2 dJ0_charAt_5068e_15 hlocks
set_option maxHeartbeats 4000000 in
set_option maxRecDepth 100000 in
theorem m_length (h900 : ∀ j, ad 900 j = adS j) {j : Nat} (hj : j < 6) (t : xS) :
    Met l yJ0_length_8abf5 (Cond.code yJ0_length_8abf5 cJ0_length_8abf5 1 (some .int) :: x_Ts) (x_rm 1) (x_Pv D cl tys K cA ad Cl (x_EX A hh adS adV fm) [.ref (adS j)] t) (x_Qr D cl K cA ad Cl A (some (.int (Int32.ofNat (x_sL.getD j 0)))) t) 0 0 A := by
  refine va_MetF (cc := cJ0_length_8abf5) (maxL := 1) (ret := some .int) (by decide +kernel) rfl ?_
  intro p e s m args below meth c s₁ B hml hp
  obtain ⟨rfl, hP, hK, hE⟩ := hp
  have hx := B.exec
  have hb := B.bytes
  have hr := B.returns
  have hlocks := B.notSynchronized
  have hts0 := atoms_spec (ws := Cond.code yJ0_length_8abf5 cJ0_length_8abf5 1 (some .int) :: x_Ts) B.pre
  have hts : ∀ w ∈ x_Ts, w.before _ s = true := fun w hw => hts0 w (List.mem_cons_of_mem _ hw)
  have hown : s.vm.findClass RJ0 = some m.cls := findClass_of_methodNamed B.named
  have hva := (hE.2.2.2.1.1 j hj).2.2.1
  have hT := (hE.2.2.2.1.1 j hj).2.2.2
  have hS : va_S A s.heap s.heap [] := va_S.rf
  rw [lg_entry_eq]
  have hl := lv_entry ([.ref (adS j)]) (n := 1) (Nat.le_of_ble_eq_true rfl)
  generalize (lg_sl ([.ref (adS j)]) ++ List.replicate (1 - (lg_sl ([.ref (adS j)])).length) Slot.unset).toArray = ls at hl ⊢
  have hl : lv_has ls 1 [(0, .ref (adS j))] := hl
  refine lv_aload_n hx hb (i := 0) dJ0_length_8abf5_0 rfl (lv_at hl 0 rfl) ?_
  refine vk_getf hx hb hva hS hown (hts _ w_st9) (fun _ z => z) dJ0_length_8abf5_1 ?_
  refine va_tlen hx hb hT hS rfl dJ0_length_8abf5_4 ?_
  refine lv_aload_n hx hb (i := 0) dJ0_length_8abf5_5 rfl (lv_at hl 0 rfl) ?_
  refine x_jV_call (vs := []) (rest := [.int (Int32.ofNat (x_sL.getD j 0))]) hx hb hml hown hts hK hE hj rfl j_coder (m_coderR h900 hj t) w_st335 (by decide +kernel) ⟨Nat.le_of_ble_eq_true rfl, Nat.le_of_ble_eq_true rfl⟩ hl.1 (Nat.le_of_ble_eq_true rfl) hP hS dJ0_length_8abf5_6 (fun H1 locs1 hP1 hS1 => ?_)
  refine lv_ishr hx hb dJ0_length_8abf5_9 ?_
  have hsh : ∀ z : Int32, z >>> ((0 : Int32) &&& 31) = z := fun z => by
    rw [show ((0 : Int32) &&& 31) = 0 by decide]
    exact Int32.shiftRight_zero
  rw [hsh]
  exact W.iret hx hb hr (fun t' ht _ => ⟨rfl, by rw [ht]; exact hP1, hS1.F ht⟩) hS1.2.2 dJ0_length_8abf5_10 hlocks
end STR4

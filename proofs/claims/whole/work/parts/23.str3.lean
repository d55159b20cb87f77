/-! length(), charAt(): over a string constant. -/
section STR3
theorem dJ0_length_8abf5_0 : decode cJ0_length_8abf5 0 = .ok (.aload_n 0, 1) := by decide +kernel
theorem dJ0_length_8abf5_1 : decode cJ0_length_8abf5 1 = .ok (.getfield 9, 3) := by decide +kernel
theorem dJ0_length_8abf5_4 : decode cJ0_length_8abf5 4 = .ok (.arraylength, 1) := by decide +kernel
theorem dJ0_length_8abf5_5 : decode cJ0_length_8abf5 5 = .ok (.aload_n 0, 1) := by decide +kernel
theorem dJ0_length_8abf5_6 : decode cJ0_length_8abf5 6 = .ok (.invokevirtual 335, 3) := by decide +kernel
theorem dJ0_length_8abf5_9 : decode cJ0_length_8abf5 9 = .ok (.ishr, 1) := by decide +kernel
theorem dJ0_length_8abf5_10 : decode cJ0_length_8abf5 10 = .ok (.ireturn, 1) := by decide +kernel
theorem dJ0_isLatin1_aae02_0 : decode cJ0_isLatin1_aae02 0 = .ok (.getstatic 38, 3) := by decide +kernel
theorem dJ0_isLatin1_aae02_3 : decode cJ0_isLatin1_aae02 3 = .ok (.ifCond .eq 14, 3) := by decide +kernel
theorem dJ0_isLatin1_aae02_6 : decode cJ0_isLatin1_aae02 6 = .ok (.aload_n 0, 1) := by decide +kernel
theorem dJ0_isLatin1_aae02_7 : decode cJ0_isLatin1_aae02 7 = .ok (.getfield 15, 3) := by decide +kernel
theorem dJ0_isLatin1_aae02_10 : decode cJ0_isLatin1_aae02 10 = .ok (.ifCond .ne 7, 3) := by decide +kernel
theorem dJ0_isLatin1_aae02_13 : decode cJ0_isLatin1_aae02 13 = .ok (.iconst 1, 1) := by decide +kernel
theorem dJ0_isLatin1_aae02_14 : decode cJ0_isLatin1_aae02 14 = .ok (.goto 4, 3) := by decide +kernel
theorem dJ0_isLatin1_aae02_17 : decode cJ0_isLatin1_aae02 17 = .ok (.iconst 0, 1) := by decide +kernel
theorem dJ0_isLatin1_aae02_18 : decode cJ0_isLatin1_aae02 18 = .ok (.ireturn, 1) := by decide +kernel
theorem dJ0_charAt_5068e_0 : decode cJ0_charAt_5068e 0 = .ok (.aload_n 0, 1) := by decide +kernel
theorem dJ0_charAt_5068e_1 : decode cJ0_charAt_5068e 1 = .ok (.invokevirtual 492, 3) := by decide +kernel
theorem dJ0_charAt_5068e_4 : decode cJ0_charAt_5068e 4 = .ok (.ifCond .eq 12, 3) := by decide +kernel
theorem dJ0_charAt_5068e_7 : decode cJ0_charAt_5068e 7 = .ok (.aload_n 0, 1) := by decide +kernel
theorem dJ0_charAt_5068e_8 : decode cJ0_charAt_5068e 8 = .ok (.getfield 9, 3) := by decide +kernel
theorem dJ0_charAt_5068e_11 : decode cJ0_charAt_5068e 11 = .ok (.iload_n 1, 1) := by decide +kernel
theorem dJ0_charAt_5068e_12 : decode cJ0_charAt_5068e 12 = .ok (.invokestatic 495, 3) := by decide +kernel
theorem dJ0_charAt_5068e_15 : decode cJ0_charAt_5068e 15 = .ok (.ireturn, 1) := by decide +kernel
theorem dJ0_charAt_5068e_16 : decode cJ0_charAt_5068e 16 = .ok (.aload_n 0, 1) := by decide +kernel
theorem dJ0_charAt_5068e_17 : decode cJ0_charAt_5068e 17 = .ok (.getfield 9, 3) := by decide +kernel
theorem dJ0_charAt_5068e_20 : decode cJ0_charAt_5068e 20 = .ok (.iload_n 1, 1) := by decide +kernel
theorem dJ0_charAt_5068e_21 : decode cJ0_charAt_5068e 21 = .ok (.invokestatic 498, 3) := by decide +kernel
theorem dJ0_charAt_5068e_24 : decode cJ0_charAt_5068e 24 = .ok (.ireturn, 1) := by decide +kernel
theorem dJ1_charAt_3b067_0 : decode cJ1_charAt_3b067 0 = .ok (.iload_n 1, 1) := by decide +kernel
theorem dJ1_charAt_3b067_1 : decode cJ1_charAt_3b067 1 = .ok (.aload_n 0, 1) := by decide +kernel
theorem dJ1_charAt_3b067_2 : decode cJ1_charAt_3b067 2 = .ok (.arraylength, 1) := by decide +kernel
theorem dJ1_charAt_3b067_3 : decode cJ1_charAt_3b067 3 = .ok (.invokestatic 9, 3) := by decide +kernel
theorem dJ1_charAt_3b067_6 : decode cJ1_charAt_3b067 6 = .ok (.aload_n 0, 1) := by decide +kernel
theorem dJ1_charAt_3b067_7 : decode cJ1_charAt_3b067 7 = .ok (.iload_n 1, 1) := by decide +kernel
theorem dJ1_charAt_3b067_8 : decode cJ1_charAt_3b067 8 = .ok (.baload, 1) := by decide +kernel
theorem dJ1_charAt_3b067_9 : decode cJ1_charAt_3b067 9 = .ok (.sipush 255, 3) := by decide +kernel
theorem dJ1_charAt_3b067_12 : decode cJ1_charAt_3b067 12 = .ok (.iand, 1) := by decide +kernel
theorem dJ1_charAt_3b067_13 : decode cJ1_charAt_3b067 13 = .ok (.i2c, 1) := by decide +kernel
theorem dJ1_charAt_3b067_14 : decode cJ1_charAt_3b067 14 = .ok (.ireturn, 1) := by decide +kernel
theorem dJ0_checkIndex_df160_0 : decode cJ0_checkIndex_df160 0 = .ok (.iload_n 0, 1) := by decide +kernel
theorem dJ0_checkIndex_df160_1 : decode cJ0_checkIndex_df160 1 = .ok (.iload_n 1, 1) := by decide +kernel
theorem dJ0_checkIndex_df160_2 : decode cJ0_checkIndex_df160 2 = .ok (.getstatic 1053, 3) := by decide +kernel
theorem dJ0_checkIndex_df160_5 : decode cJ0_checkIndex_df160 5 = .ok (.invokestatic 1059, 3) := by decide +kernel
theorem dJ0_checkIndex_df160_8 : decode cJ0_checkIndex_df160 8 = .ok (.pop, 1) := by decide +kernel
theorem dJ0_checkIndex_df160_9 : decode cJ0_checkIndex_df160 9 = .ok (.return_, 1) := by decide +kernel
theorem dJ3_checkIndex_8e157_0 : decode cJ3_checkIndex_8e157 0 = .ok (.iload_n 0, 1) := by decide +kernel
theorem dJ3_checkIndex_8e157_1 : decode cJ3_checkIndex_8e157 1 = .ok (.ifCond .lt 8, 3) := by decide +kernel
theorem dJ3_checkIndex_8e157_4 : decode cJ3_checkIndex_8e157 4 = .ok (.iload_n 0, 1) := by decide +kernel
theorem dJ3_checkIndex_8e157_5 : decode cJ3_checkIndex_8e157 5 = .ok (.iload_n 1, 1) := by decide +kernel
theorem dJ3_checkIndex_8e157_6 : decode cJ3_checkIndex_8e157 6 = .ok (.if_icmp .lt 10, 3) := by decide +kernel
theorem dJ3_checkIndex_8e157_9 : decode cJ3_checkIndex_8e157 9 = .ok (.aload_n 2, 1) := by decide +kernel
theorem dJ3_checkIndex_8e157_10 : decode cJ3_checkIndex_8e157 10 = .ok (.iload_n 0, 1) := by decide +kernel
theorem dJ3_checkIndex_8e157_11 : decode cJ3_checkIndex_8e157 11 = .ok (.iload_n 1, 1) := by decide +kernel
theorem dJ3_checkIndex_8e157_12 : decode cJ3_checkIndex_8e157 12 = .ok (.invokestatic 95, 3) := by decide +kernel
theorem dJ3_checkIndex_8e157_15 : decode cJ3_checkIndex_8e157 15 = .ok (.athrow, 1) := by decide +kernel
theorem dJ3_checkIndex_8e157_16 : decode cJ3_checkIndex_8e157 16 = .ok (.iload_n 0, 1) := by decide +kernel
theorem dJ3_checkIndex_8e157_17 : decode cJ3_checkIndex_8e157 17 = .ok (.ireturn, 1) := by decide +kernel
def x_Pv (D : va_G) (cl : List vw_C) (tys : List (ClassId × FieldType)) (K : Nat → Option xT) (cA : Nat → ClassId) (ad : Nat → Nat → Nat) (Cl : List (Nat × Nat)) (EX : State → Prop) (vs : List Value) (t : xS) : Array Value → State → Prop := fun v U => v = vs.toArray ∧ va_P D cl (x_ws K cA ad t Cl) U.heap ∧ va_K D cl tys U ∧ EX U
def x_Qr (D : va_G) (cl : List vw_C) (K : Nat → Option xT) (cA : Nat → ClassId) (ad : Nat → Nat → Nat) (Cl : List (Nat × Nat)) (A : Nat → Prop) (w : Option Value) (t : xS) : Array Value → State → Outcome → State → Prop := fun _ st oc u => oc = .returned w ∧ va_P D cl (x_ws K cA ad t Cl) u.heap ∧ va_F A st u
theorem x_gI {y : MethodName} {cc : ByteArray} {maxL : Nat} {ret : Option FieldType} (h : Cond.code y cc maxL ret ∈ x_Ts) : GoodIn x_Ts (Cond.code y cc maxL ret :: x_Ts) := fun z hz => (List.mem_cons.mp hz).elim (fun q => by rw [q]; exact ⟨h, x_Fm_ok.1 _ h⟩) (fun q => ⟨q, x_Fm_ok.1 _ q⟩)
variable {p : Program} {l : Launch} {e : Env} {R : Room} {s : State} {m : MethodId} {args : Array Value} {below : List Frame} {meth : Method} {c : Code} {H : Heap} {locs : List Loc} {Q : State → Prop} {cc : ByteArray} {pc nL : Nat} {LS : Array Slot} {rest : List Value} {K : Nat → Option xT} {cA : Nat → ClassId} {ad : Nat → Nat → Nat} {Cl : List (Nat × Nat)} {D : va_G} {cl : List vw_C} {A : Nat → Prop} {tys : List (ClassId × FieldType)} {hh : Nat} {adS adV : Nat → Nat} {fm : Value} {t : xS} {own : String}
theorem x_jS_call {y : MethodName} {yc : ByteArray} {maxL i d : Nat} {ret : Option FieldType} {vs : List Value} {w : Option Value} (hx : p.tables.exec = Jvm.exec) (hb : c.code = cc) (hml : c.maxLocals = nL) (hown : s.vm.findClass own = some m.cls) (hts : ∀ w ∈ x_Ts, w.before args s = true) (hK : va_K D cl tys s) (hE : x_EX A hh adS adV fm s) (hj : x_jS y yc maxL ret)
    (hMet : Met l y (Cond.code y yc maxL ret :: x_Ts) (x_rm d) (x_Pv D cl tys K cA ad Cl (x_EX A hh adS adV fm) vs t) (x_Qr D cl K cA ad Cl A w t) 0 0 A) (hlk : Cond.methodLink own i y ∈ x_Ts) (hd : y.cls ≠ "java/lang/invoke/MethodHandle" ∧ y.cls ≠ "java/lang/invoke/VarHandle" ∧ (parseMethodDescriptor y.desc).map (fun d => d.parameters.length) = some vs.length) (hR : d + 1 ≤ R.frames ∧ 8 + (maxL + 11) + 41 * d ≤ R.locals) (hLS : LS.size = nL) (hsum : (rest.map fun v => v.category).sum ≤ 8) (hP : va_P D cl (x_ws K cA ad t Cl) H) (hS : va_S A s.heap H locs) (hdg : decode cc pc = .ok (.invokestatic i, 3))
    (kk : ∀ (H1 : Heap) (locs1 : List Loc), va_P D cl (x_ws K cA ad t Cl) H1 → va_S A s.heap H1 locs1 → W p l e R s m args below meth c H1 locs1 0 0 Q (F0 m (pc + 3) LS (w.toList ++ rest))) : W p l e R s m args below meth c H locs 0 0 Q (F0 m pc LS (vs.reverse ++ rest)) := by
  have hbl : FrameBlind (x_Pv D cl tys K cA ad Cl (x_EX A hh adS adV fm) vs t) := fun a' U g' mk q => ⟨q.1, q.2.1, va_K.moved (u := U) (U := U.calling g' mk a') (Vm.Alike.refl U.vm) q.2.2.1, x_EX_m U (U.calling g' mk a') q.2.2.2 (Or.inr rfl) (Nat.le_refl _) (fun _ _ _ => rfl)⟩
  have hpre : ∀ U : State, U.heap = H → s.WarmedH U.vm → x_Pv D cl tys K cA ad Cl (x_EX A hh adS adV fm) vs t vs.toArray U := fun U hU hW => ⟨rfl, by rw [hU]; exact hP, va_K.moved hW.alike hK, x_EX_m s U hE (Or.inl hW) (by rw [hU]; exact hS.1) (fun q z1 z2 => by rw [hU]; exact hS.2.1 q z1 z2)⟩
  have hcb := callB_of (R := R) (rm := x_rm d) (mc := 0) (ms := 0) vs.length hts (x_gI hj.1) rfl rfl rfl (hts _ hj.2.1) (hts _ hlk) hd hR
  exact x_call (va_runS (As := vs) (rest := rest) ⟨hx, hb, hml, hown, hts⟩ hMet ⟨hcb, hts _ hj.2.2⟩ ⟨hbl, hpre⟩ rfl rfl hLS rfl (lv_room hsum) hdg ⟨Nat.zero_le _, Nat.zero_le _⟩) hS kk
theorem x_jV_call {y : MethodName} {yc : ByteArray} {maxL i d j : Nat} {ret : Option FieldType} {vs : List Value} {w : Option Value} (hx : p.tables.exec = Jvm.exec) (hb : c.code = cc) (hml : c.maxLocals = nL) (hown : s.vm.findClass own = some m.cls) (hts : ∀ w ∈ x_Ts, w.before args s = true) (hK : va_K D cl tys s) (hE : x_EX A hh adS adV fm s) (hj6 : j < 6) (hy : y.cls = "java/lang/String") (hj : x_jV y yc maxL ret)
    (hMet : Met l y (Cond.code y yc maxL ret :: x_Ts) (x_rm d) (x_Pv D cl tys K cA ad Cl (x_EX A hh adS adV fm) (.ref (adS j) :: vs) t) (x_Qr D cl K cA ad Cl A w t) 0 0 A) (hlk : Cond.methodLink own i y ∈ x_Ts) (hd : y.cls ≠ "java/lang/invoke/MethodHandle" ∧ y.cls ≠ "java/lang/invoke/VarHandle" ∧ (parseMethodDescriptor y.desc).map (fun d => d.parameters.length) = some vs.length) (hR : d + 1 ≤ R.frames ∧ 8 + (maxL + 11) + 41 * d ≤ R.locals) (hLS : LS.size = nL) (hsum : (rest.map fun v => v.category).sum ≤ 8) (hP : va_P D cl (x_ws K cA ad t Cl) H) (hS : va_S A s.heap H locs) (hdg : decode cc pc = .ok (.invokevirtual i, 3))
    (kk : ∀ (H1 : Heap) (locs1 : List Loc), va_P D cl (x_ws K cA ad t Cl) H1 → va_S A s.heap H1 locs1 → W p l e R s m args below meth c H1 locs1 0 0 Q (F0 m (pc + 3) LS (w.toList ++ rest))) : W p l e R s m args below meth c H locs 0 0 Q (F0 m pc LS (vs.reverse ++ .ref (adS j) :: rest)) := by
  have hbl : FrameBlind (x_Pv D cl tys K cA ad Cl (x_EX A hh adS adV fm) (.ref (adS j) :: vs) t) := fun a' U g' mk q => ⟨q.1, q.2.1, va_K.moved (u := U) (U := U.calling g' mk a') (Vm.Alike.refl U.vm) q.2.2.1, x_EX_m U (U.calling g' mk a') q.2.2.2 (Or.inr rfl) (Nat.le_refl _) (fun _ _ _ => rfl)⟩
  have hpre : ∀ U : State, U.heap = H → s.WarmedH U.vm → x_Pv D cl tys K cA ad Cl (x_EX A hh adS adV fm) (.ref (adS j) :: vs) t (Value.ref (adS j) :: vs).toArray U := fun U hU hW => ⟨rfl, by rw [hU]; exact hP, va_K.moved hW.alike hK, x_EX_m s U hE (Or.inl hW) (by rw [hU]; exact hS.1) (fun q z1 z2 => by rw [hU]; exact hS.2.1 q z1 z2)⟩
  have hcb := callB_of (R := R) (rm := x_rm d) (mc := 0) (ms := 0) vs.length hts (x_gI hj.1) rfl rfl rfl (hts _ hj.2.1) (hts _ hlk) hd hR
  have hrecv := vk_recv hE.2.2.2.1 hj6 hS
  rw [← hy] at hrecv
  exact x_call (va_runV (As := vs) (rest := rest) ⟨hx, hb, hml, hown, hts⟩ hMet ⟨hcb, hts _ hj.2.2.1, hts _ hj.2.2.2⟩ ⟨hbl, hrecv, hpre⟩ rfl rfl hLS rfl (lv_room hsum) hdg ⟨Nat.zero_le _, Nat.zero_le _⟩) hS kk
end STR3

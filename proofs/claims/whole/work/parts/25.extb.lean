/-! Calls that no row of code stands for: arraycopy, length, charAt. -/
section EXTB
def x_lbC (o : Nat) (q : Nat × (Nat × Nat × Bool)) : Bool := (decide (q.2.1 ≠ 1002) || x_wd q.2.2.1 (.methodLink (x_nm o) q.1 arraycopyName)) && (decide (q.2.1 ≠ 1003) || x_wd q.2.2.1 (.methodLink (x_nm o) q.1 yJ0_length_8abf5)) && (decide (q.2.1 ≠ 1004) || x_wd q.2.2.1 (.methodLink (x_nm o) q.1 yJ0_charAt_5068e))
theorem x_lbK0 : x_lmT0.all (x_lbC 0) = true := by decide +kernel
theorem x_lbK1 : x_lmT1.all (x_lbC 1) = true := by decide +kernel
theorem x_lbK2 : x_lmT2.all (x_lbC 2) = true := by decide +kernel
theorem x_lbK3 : x_lmT3.all (x_lbC 3) = true := by decide +kernel
theorem x_lbK5 : x_lmT5.all (x_lbC 5) = true := by decide +kernel
theorem x_lbK6 : x_lmT6.all (x_lbC 6) = true := by decide +kernel
theorem x_lbK7 : x_lmT7.all (x_lbC 7) = true := by decide +kernel
theorem x_lbK8 : x_lmT8.all (x_lbC 8) = true := by decide +kernel
theorem x_lbK9 : x_lmT9.all (x_lbC 9) = true := by decide +kernel
theorem x_lbK10 : x_lmT10.all (x_lbC 10) = true := by decide +kernel
theorem x_lbK11 : x_lmT11.all (x_lbC 11) = true := by decide +kernel
theorem x_lbK12 : x_lmT12.all (x_lbC 12) = true := by decide +kernel
theorem x_lbA : ∀ o q, q ∈ x_lmT o → x_lbC o q = true := by
  intro o q h
  unfold x_lmT at h
  split at h
  · exact List.all_eq_true.mp x_lbK0 q h
  · exact List.all_eq_true.mp x_lbK1 q h
  · exact List.all_eq_true.mp x_lbK2 q h
  · exact List.all_eq_true.mp x_lbK3 q h
  · exact List.all_eq_true.mp x_lbK5 q h
  · exact List.all_eq_true.mp x_lbK6 q h
  · exact List.all_eq_true.mp x_lbK7 q h
  · exact List.all_eq_true.mp x_lbK8 q h
  · exact List.all_eq_true.mp x_lbK9 q h
  · exact List.all_eq_true.mp x_lbK10 q h
  · exact List.all_eq_true.mp x_lbK11 q h
  · exact List.all_eq_true.mp x_lbK12 q h
  · cases h
theorem x_lb {o i f : Nat} (h : x_N.lm o i = some f) : (f = 1002 → Cond.methodLink (x_nm o) i arraycopyName ∈ x_Ts) ∧ (f = 1003 → Cond.methodLink (x_nm o) i yJ0_length_8abf5 ∈ x_Ts) ∧ (f = 1004 → Cond.methodLink (x_nm o) i yJ0_charAt_5068e ∈ x_Ts) := by
  obtain ⟨q, hq, rfl⟩ := Option.map_eq_some_iff.mp h
  have z := x_lbA o _ (x_lk_mem hq)
  obtain ⟨f, p, nest⟩ := q
  simp only [x_lbC, Bool.and_eq_true, Bool.or_eq_true, decide_eq_true_eq] at z
  exact ⟨fun e => x_wd_mem (z.1.1.resolve_left (fun y => y e)), fun e => x_wd_mem (z.1.2.resolve_left (fun y => y e)), fun e => x_wd_mem (z.2.resolve_left (fun y => y e))⟩
theorem w_cpN : Cond.native arraycopyName ∈ x_Ts := List.mem_filter.mpr ⟨by decide +kernel, by decide +kernel⟩
theorem w_cpS : Cond.static arraycopyName ∈ x_Ts := List.mem_filter.mpr ⟨by decide +kernel, by decide +kernel⟩
theorem w_cpI : Cond.initialized "java/lang/System" ∈ x_Ts := List.mem_filter.mpr ⟨by decide +kernel, by decide +kernel⟩
theorem nd_len : yJ0_length_8abf5.cls ≠ "java/lang/invoke/MethodHandle" ∧ yJ0_length_8abf5.cls ≠ "java/lang/invoke/VarHandle" ∧ (parseMethodDescriptor yJ0_length_8abf5.desc).map (fun d => d.parameters.length) = some 0 := by decide +kernel
theorem nd_char : yJ0_charAt_5068e.cls ≠ "java/lang/invoke/MethodHandle" ∧ yJ0_charAt_5068e.cls ≠ "java/lang/invoke/VarHandle" ∧ (parseMethodDescriptor yJ0_charAt_5068e.desc).map (fun d => d.parameters.length) = some 1 := by decide +kernel
theorem x_sl_lt {j : Nat} {n : Int32} (h : x_slen j = some n) : j < 6 := by
  rcases Nat.lt_or_ge j 6 with z | z
  · exact z
  · obtain ⟨k, rfl⟩ : ∃ k, j = k + 6 := ⟨j - 6, by omega⟩
    cases h
theorem x_ch_lt {j k : Nat} {n : Int32} (h : x_chr j k = some n) : j < 6 ∧ k < x_sL.getD j 0 := by
  rcases (by omega : j = 0 ∨ j = 1 ∨ j = 2 ∨ j = 3 ∨ j = 4 ∨ j = 5 ∨ 6 ≤ j) with rfl | rfl | rfl | rfl | rfl | rfl | z
  · exact ⟨by omega, (List.getElem?_eq_some_iff.mp h).1⟩
  · exact ⟨by omega, (List.getElem?_eq_some_iff.mp h).1⟩
  · exact ⟨by omega, (List.getElem?_eq_some_iff.mp h).1⟩
  · exact ⟨by omega, (List.getElem?_eq_some_iff.mp h).1⟩
  · exact ⟨by omega, (List.getElem?_eq_some_iff.mp h).1⟩
  · exact ⟨by omega, (List.getElem?_eq_some_iff.mp h).1⟩
  · obtain ⟨i, rfl⟩ : ∃ i, j = i + 6 := ⟨j - 6, by omega⟩
    cases h
theorem x_nn {z : Int32} (h : 0 ≤ z) : ¬ z < 0 := fun y => by
  have h1 := Int32.le_iff_toInt_le.mp h
  have h2 := Int32.lt_iff_toInt_lt.mp y
  omega
set_option maxHeartbeats 4000000 in
set_option maxRecDepth 100000 in
theorem x_EX_b {l : Launch} {cA : Nat → ClassId} {ad : Nat → Nat → Nat} {Cl : List (Nat × Nat)} {D : va_G} {A : Nat → Prop} {tys : List (ClassId × FieldType)} {hh : Nat} {adS adV : Nat → Nat} {fm : Value} (h900 : ∀ j, ad 900 j = adS j) (htys : tys = [(cA 0, .int), (cA 1, .long), (cA 2, .boolean)]) (hD : ∀ t : xS, va_D A (x_ws x_K cA ad t Cl)) (F : x_Fx x_Ts x_Nw x_N x_K vwCl Cl) : x_EXb l (x_EX A hh adS adV fm) x_Ts x_Pr x_K cA ad Cl D vwCl tys A x_N := by
  intro p e R s m args below meth cd Q o cc hE hx hb hown hts hK f g as t w pc i hPf hlm hg hvs hdec hR1 hR2 LS H locs rest hLS hsum hP hS kk
  have hgf : g = x_bi f := by
    unfold x_Pr at hPf
    split at hPf
    · cases hPf
    · cases hPf; rfl
  subst hgf
  obtain ⟨hl2, hl3, hl4⟩ := x_lb hlm
  unfold x_bi at hg
  split at hg
  · next c i0 a c2 i2 b n =>
    rcases hdec with hdec | hdec
    case inr => exact absurd rfl hdec.2
    have hdec := hdec.1
    have hone : ∀ (c2 i2 : Nat) (q1 : Nat), Cl[q1]? = some (c2, i2) → ∀ j, Cl[j]? = some (c2, i2) → j = q1 := fun c2 i2 q1 h1 j h2 => F.2.2.2.2.2.1 _ _ _ _ h2 h1
    have hloc : (rest.map fun v => v.category).sum + (nativeFrameWords "java/lang/System" "arraycopy" 5 + 11) ≤ R.locals := by
      have : nativeFrameWords "java/lang/System" "arraycopy" 5 + 11 ≤ 300 := by decide
      omega
    split at hg
    · next l1 l2 e1 e2 =>
      split at hg
      · next hb5 =>
        have hw := Option.some.inj hg
        subst hw
        have hK1 := x_arr_some e1
        have hK2 := x_arr_some e2
        obtain ⟨q0, hq0⟩ := x_mem_get (x_vv_arr (hvs (Sum.inr (Sum.inr (c, i0))) (by simp)) hK1 (by decide))
        obtain ⟨q1, hq1⟩ := x_mem_get (x_vv_arr (hvs (Sum.inr (Sum.inr (c2, i2))) (by simp)) hK2 (by decide))
        have h0 := x_ws_at (K := x_K) (cA := cA) (ad := ad) (s := t) hq0
        have h1 := x_ws_at (K := x_K) (cA := cA) (ad := ad) (s := t) hq1
        rw [x_cell_arr hK1] at h0
        rw [x_cell_arr hK2] at h1
        have hset := x_ws_set (K := x_K) (cA := cA) (ad := ad) (s := t) (s' := x_cpI t c i0 a.toNatClampNeg c2 i2 b.toNatClampNeg n.toNatClampNeg) (hone c2 i2 q1 hq1) hq1 (fun c' i' z => ⟨funext fun k => if_neg (fun y => z ⟨y.1, y.2.1⟩), rfl⟩) (E := .inl (cA 0, l2, .inl (va_cpy (t.1 c i0) (t.1 c2 i2) a.toNatClampNeg b.toNatClampNeg n.toNatClampNeg))) (by
          rw [x_cell_arr hK2]
          show (Sum.inl (cA 0, l2, Sum.inl ((x_cpI t c i0 a.toNatClampNeg c2 i2 b.toNatClampNeg n.toNatClampNeg).1 c2 i2)) : va_E) = _
          have : (x_cpI t c i0 a.toNatClampNeg c2 i2 b.toNatClampNeg n.toNatClampNeg).1 c2 i2 = va_cpy (t.1 c i0) (t.1 c2 i2) a.toNatClampNeg b.toNatClampNeg n.toNatClampNeg := funext fun k => by
            show (if c2 = c2 ∧ i2 = i2 ∧ b.toNatClampNeg ≤ k ∧ k < b.toNatClampNeg + n.toNatClampNeg then t.1 c i0 (a.toNatClampNeg + (k - b.toNatClampNeg)) else t.1 c2 i2 k) = if b.toNatClampNeg ≤ k ∧ k < b.toNatClampNeg + n.toNatClampNeg then t.1 c i0 (a.toNatClampNeg + (k - b.toNatClampNeg)) else t.1 c2 i2 k
            by_cases z : b.toNatClampNeg ≤ k ∧ k < b.toNatClampNeg + n.toNatClampNeg
            · rw [if_pos z, if_pos ⟨rfl, rfl, z⟩]
            · rw [if_neg z, if_neg (fun y => z y.2.2)]
          rw [this])
        refine va_copyi (rest := rest) hx hb hLS.symm hown (hts _ (hl2 rfl)) (hts _ w_cpN) (hts _ w_cpS) (hts _ w_cpI) hK hP (hD t) hS q0 q1 0 0 h0 h1 (by rw [htys]; rfl) (by rw [htys]; rfl) rfl (x_nn hb5.1) (x_nn hb5.2.1) (x_nn hb5.2.2.1) hb5.2.2.2.1 hb5.2.2.2.2 (fun _ _ => rfl) (by omega) hloc hdec (fun H1 locs1 g1 g2 g3 => ?_)
        rw [hset] at g1
        exact kk H1 locs1 g1 g3
      · cases hg
    · next l1 l2 e1 e2 =>
      split at hg
      · next hb5 =>
        have hw := Option.some.inj hg
        subst hw
        have hK1 := x_arr_some e1
        have hK2 := x_arr_some e2
        obtain ⟨q0, hq0⟩ := x_mem_get (x_vv_arr (hvs (Sum.inr (Sum.inr (c, i0))) (by simp)) hK1 (by decide))
        obtain ⟨q1, hq1⟩ := x_mem_get (x_vv_arr (hvs (Sum.inr (Sum.inr (c2, i2))) (by simp)) hK2 (by decide))
        have h0 := x_ws_at (K := x_K) (cA := cA) (ad := ad) (s := t) hq0
        have h1 := x_ws_at (K := x_K) (cA := cA) (ad := ad) (s := t) hq1
        rw [x_cell_arr hK1] at h0
        rw [x_cell_arr hK2] at h1
        have hset := x_ws_set (K := x_K) (cA := cA) (ad := ad) (s := t) (s' := x_cpL t c i0 a.toNatClampNeg c2 i2 b.toNatClampNeg n.toNatClampNeg) (hone c2 i2 q1 hq1) hq1 (fun c' i' z => ⟨rfl, funext fun k => if_neg (fun y => z ⟨y.1, y.2.1⟩)⟩) (E := .inl (cA 1, l2, .inr (.inl (va_cpy (t.2 c i0) (t.2 c2 i2) a.toNatClampNeg b.toNatClampNeg n.toNatClampNeg)))) (by
          rw [x_cell_arr hK2]
          show (Sum.inl (cA 1, l2, Sum.inr (Sum.inl ((x_cpL t c i0 a.toNatClampNeg c2 i2 b.toNatClampNeg n.toNatClampNeg).2 c2 i2))) : va_E) = _
          have : (x_cpL t c i0 a.toNatClampNeg c2 i2 b.toNatClampNeg n.toNatClampNeg).2 c2 i2 = va_cpy (t.2 c i0) (t.2 c2 i2) a.toNatClampNeg b.toNatClampNeg n.toNatClampNeg := funext fun k => by
            show (if c2 = c2 ∧ i2 = i2 ∧ b.toNatClampNeg ≤ k ∧ k < b.toNatClampNeg + n.toNatClampNeg then t.2 c i0 (a.toNatClampNeg + (k - b.toNatClampNeg)) else t.2 c2 i2 k) = if b.toNatClampNeg ≤ k ∧ k < b.toNatClampNeg + n.toNatClampNeg then t.2 c i0 (a.toNatClampNeg + (k - b.toNatClampNeg)) else t.2 c2 i2 k
            by_cases z : b.toNatClampNeg ≤ k ∧ k < b.toNatClampNeg + n.toNatClampNeg
            · rw [if_pos z, if_pos ⟨rfl, rfl, z⟩]
            · rw [if_neg z, if_neg (fun y => z y.2.2)]
          rw [this])
        refine va_copyl (rest := rest) hx hb hLS.symm hown (hts _ (hl2 rfl)) (hts _ w_cpN) (hts _ w_cpS) (hts _ w_cpI) hK hP (hD t) hS q0 q1 1 1 h0 h1 (by rw [htys]; rfl) (by rw [htys]; rfl) rfl (x_nn hb5.1) (x_nn hb5.2.1) (x_nn hb5.2.2.1) hb5.2.2.2.1 hb5.2.2.2.2 (fun _ _ => rfl) (by omega) hloc hdec (fun H1 locs1 g1 g2 g3 => ?_)
        rw [hset] at g1
        exact kk H1 locs1 g1 g3
      · cases hg
    · cases hg
  · next j =>
    rcases hdec with hdec | hdec
    · exact absurd rfl hdec.2.1
    · have hdec := hdec.1
      cases hsl : x_slen j with
      | none => rw [hsl] at hg; cases hg
      | some z =>
        rw [hsl] at hg
        have hw := Option.some.inj hg
        subst hw
        have hj := x_sl_lt hsl
        have hz : z = Int32.ofNat (x_sL.getD j 0) := by
          have := (x_le j hj).1
          rw [hsl] at this
          exact Option.some.inj this
        subst hz
        have q : W p l e R s m args below meth cd H locs 0 0 Q (F0 m pc LS (([] : List Value).reverse ++ .ref (adS j) :: rest)) := x_jV_call (j := j) (vs := []) (rest := rest) hx hb rfl hown hts hK hE hj rfl j_length (m_length h900 hj t) (hl3 rfl) nd_len ⟨by show 2 ≤ R.frames; omega, by show 8 + (1 + 11) + 41 * 1 ≤ R.locals; omega⟩ hLS hsum hP hS hdec (fun H1 locs1 g1 g2 => kk H1 locs1 g1 g2)
        have e1 : ([vR 900 j].reverse.map (x_val ad)) ++ rest = Value.ref (adS j) :: rest := by rw [← h900 j]; rfl
        show W p l e R s m args below meth cd H locs 0 0 Q (F0 m pc LS ([vR 900 j].reverse.map (x_val ad) ++ rest))
        rw [e1]
        exact q
  · next j k =>
    rcases hdec with hdec | hdec
    · exact absurd rfl hdec.2.2
    · have hdec := hdec.1
      split at hg
      · cases hg
      · next hk0 =>
        cases hch : x_chr j k.toNatClampNeg with
        | none => rw [hch] at hg; cases hg
        | some z =>
          rw [hch] at hg
          have hw := Option.some.inj hg
          subst hw
          obtain ⟨hj, hk⟩ := x_ch_lt hch
          obtain ⟨v, v1, v2, v3, v4⟩ := x_by j k.toNatClampNeg hj hk
          have hvz : v = z := by rw [hch] at v2; exact (Option.some.inj v2).symm
          subst hvz
          have hke : Int32.ofNat k.toNatClampNeg = k := by
            have h0 : (0 : Int) ≤ k.toInt := by
              have := Int32.not_lt.mp hk0
              simpa using Int32.le_iff_toInt_le.mp this
            have h1 : ((k.toNatClampNeg : Nat) : Int) = k.toInt := by
              show ((k.toInt.toNat : Nat) : Int) = k.toInt
              omega
            have h2 := k.toInt_lt
            refine Int32.toInt_inj.mp ?_
            rw [Int32.toInt_ofNat_of_lt (by omega), h1]
          have q : W p l e R s m args below meth cd H locs 0 0 Q (F0 m pc LS (([.int (Int32.ofNat k.toNatClampNeg)] : List Value).reverse ++ .ref (adS j) :: rest)) := x_jV_call (j := j) (vs := [.int (Int32.ofNat k.toNatClampNeg)]) (rest := rest) hx hb rfl hown hts hK hE hj rfl j_charAt (m_charAt hj hk v1 v3 v4 hE.2.2.2.2.2.2 t) (hl4 rfl) nd_char ⟨by show 4 ≤ R.frames; omega, by show 8 + (2 + 11) + 41 * 3 ≤ R.locals; omega⟩ hLS hsum hP hS hdec (fun H1 locs1 g1 g2 => kk H1 locs1 g1 g2)
          rw [hke] at q
          have e1 : ([vR 900 j, vI k].reverse.map (x_val ad)) ++ rest = Value.int k :: Value.ref (adS j) :: rest := by rw [← h900 j]; rfl
          show W p l e R s m args below meth cd H locs 0 0 Q (F0 m pc LS ([vR 900 j, vI k].reverse.map (x_val ad) ++ rest))
          rw [e1]
          exact q
  · cases hg
end EXTB

/-! Rows for texts, the static row of constants, and copies. -/
section EXTB
def x_ksS (q : Nat × xV) : Bool := match q.2 with
  | Sum.inr (Sum.inr (c, j)) => bif Nat.beq c 900 then (match x_sE[j]? with
    | some (e, _) => Nat.beq e q.1
    | none => false) else false
  | _ => false
theorem x_ks12 : x_kST12.all x_ksS = true := by decide +kernel
theorem x_ks11 : x_kST11.all (fun q => decide (q = (419, vR 74 0))) = true := by decide +kernel
theorem x_kS_str {o i j : Nat} (h : x_N.kS o i = some (vR 900 j)) : o = 12 ∧ ∃ tx, x_sE[j]? = some (i, tx) := by
  have h := x_lk_mem h
  unfold x_kST at h
  split at h
  · have z := of_decide_eq_true (List.all_eq_true.mp x_ks11 _ h)
    cases z
  · have z := List.all_eq_true.mp x_ks12 _ h
    simp only [x_ksS] at z
    refine ⟨rfl, ?_⟩
    have z : (match x_sE[j]? with
      | some (e, _) => Nat.beq e i
      | none => false) = true := z
    split at z
    · next e tx he => rw [he, Nat.eq_of_beq_eq_true z]; exact ⟨tx, rfl⟩
    · cases z
  · cases h
theorem x_kS_hh {o i j : Nat} (h : x_N.kS o i = some (vR 74 j)) : o = 11 ∧ i = 419 := by
  have h := x_lk_mem h
  unfold x_kST at h
  split at h
  · have z := of_decide_eq_true (List.all_eq_true.mp x_ks11 _ h)
    cases z
    exact ⟨rfl, rfl⟩
  · have z := List.all_eq_true.mp x_ks12 _ h
    exact absurd z (by simp [x_ksS])
  · cases h
theorem x_k3C : (List.range 75).all (fun c => match x_KL[c]? with
  | some (Sum.inr (3, n)) => decide (c = 74) && decide (n = 5)
  | _ => true) = true := by decide +kernel
theorem x_K_3 {c n : Nat} (h : x_K c = some (Sum.inr (3, n))) : c = 74 ∧ n = 5 := by
  have hl : c < x_KL.length := (List.getElem?_eq_some_iff.mp h).1
  have z := List.all_eq_true.mp x_k3C c (List.mem_range.mpr hl)
  have h : x_KL[c]? = some (Sum.inr (3, n)) := h
  rw [h] at z
  simpa using z
theorem x_w_hh : Cond.fieldLink "PramGardens" 419 "PramGardens" "HIGHEST_HEARD" "[I" ∈ x_Ts := List.mem_filter.mpr ⟨by decide +kernel, by decide +kernel⟩
theorem x_EX_e {l : Launch} {A : Nat → Prop} {hh : Nat} {adS adV : Nat → Nat} {fm : Value} {ad : Nat → Nat → Nat} (h900 : ∀ j, ad 900 j = adS j) (h74 : ∀ j, ad 74 j = hh) : x_EXe l (x_EX A hh adS adV fm) x_Ts x_K ad A x_N := by
  intro p e R s m args below meth cd Q o cc hE hx hb hown hts
  obtain ⟨h1, ⟨h2, h3, h4, h5⟩, h6, h7, -⟩ := hE
  refine ⟨⟨?_, ?_, ?_⟩, ?_, ?_⟩
  · intro pc i j hdg hk LS H locs rest hS k
    obtain ⟨rfl, tx, ht⟩ := x_kS_str hk
    rw [h900] at k
    exact va_ldcS hx hb hown (h6 j _ ht) hdg k
  · intro pc i j hdg hk LS H locs rest hS k
    obtain ⟨rfl, tx, ht⟩ := x_kS_str hk
    rw [h900] at k
    exact x_ldcwS hx hb hown (h6 j _ ht) hdg k
  · intro pc i j hdg hk LS H locs rest hS k
    obtain ⟨rfl, rfl⟩ := x_kS_hh hk
    rw [h74] at k
    exact va_gets hx hb h2 hS hown (hts _ x_w_hh) (fun _ z => z) hdg k
  · intro pc c i n j hdg hK hj LS H locs rest hS k
    obtain ⟨rfl, rfl⟩ := x_K_3 hK
    rw [h74]
    exact va_sld hx hb h3 h4 h5 hS (x_in_vp hj) hdg k
  · intro pc c i n hdg hK LS H locs rest hS k
    obtain ⟨rfl, rfl⟩ := x_K_3 hK
    rw [h74]
    exact va_slen hx hb h3 h4 h5 hS hdg k
end EXTB

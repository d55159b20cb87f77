/-! rule: signs between things; a text read as the law reads it. -/
section RULEE
variable {d T E p q b mk y k r : Nat} {sg : Nat → Nat} {s t : xS} {out st st0 π cs : List Nat} {o : Option (List Nat)}
theorem op_c {i : Nat} (hr : r < 3) (hf : fxS sg E p (2 + r) = some i) : p < E ∧ sg p = chO (2000 + i + offR r) ∧ sgO (2000 + i + offR r) = r + 1 ∧ vO (2000 + i + offR r) ∧ 2000 + i + offR r ≠ 0 ∧ sg p ≠ 41 ∧ 2000 + i + offR r < 2007 ∧ 2000 + i + offR r ≥ 2000 := by
  obtain ⟨hp, hi, hc⟩ := fx_sg hf
  rw [← hc]
  refine ⟨hp, ?_⟩
  rcases (by omega : r = 0 ∨ r = 1 ∨ r = 2) with rfl | rfl | rfl
  · have hi : i < 3 := hi
    rcases (by omega : i = 0 ∨ i = 1 ∨ i = 2) with rfl | rfl | rfl <;> exact ⟨by decide, by decide, Or.inr (Or.inl (by decide)), by decide, by decide, by decide, by decide⟩
  · have hi : i < 2 := hi
    rcases (by omega : i = 0 ∨ i = 1) with rfl | rfl <;> exact ⟨by decide, by decide, Or.inr (Or.inl (by decide)), by decide, by decide, by decide, by decide⟩
  · have hi : i < 2 := hi
    rcases (by omega : i = 0 ∨ i = 1) with rfl | rfl <;> exact ⟨by decide, by decide, Or.inr (Or.inl (by decide)), by decide, by decide, by decide, by decide⟩
theorem y_op {i : Nat} (hr : r < 3) (hf : fxS sg E p (2 + r) = some i) (h : yS s T sg E p out (π ++ st) b mk false) (hy : y ≤ p) (hπ : ∀ x, x ∈ π → r + 1 ≤ sgO x) (hst : st = [] ∨ ∃ x l, st = x :: l ∧ sgO x < r + 1) (hm : r = 0 → mk.testBit b = false) : ∃ t, Rule_reads_L1 (d + 4) 1 (nI y) s = Rule_reads_L1 (d + 4) 1 (nI (y + 1)) t ∧ yS t T sg E (p + 1) (out ++ π) ((2000 + i + offR r) :: st) b (if r = 0 then setb mk b true else mk) true ∧ fr pRc s t := by
  obtain ⟨hp, hc, hso, hv, _, h41, _, _⟩ := op_c hr hf
  obtain ⟨hX, hC, hl, h4, h5, h6, hb4, hmk, h40⟩ := h
  have hs := hX.2.2.2.1.2 p (by have := hX.2.2.2.2.1; omega)
  obtain ⟨mk', hmk'⟩ : ∃ mk', (if r = 0 then setb mk b true else mk) = mk' := ⟨_, rfl⟩
  have hmkl : mk' < 32 := by
    rw [← hmk']
    by_cases z : r = 0
    · rw [if_pos z]; exact setb_lt (n := 5) hmk (by omega)
    · rw [if_neg z]; exact hmk
  obtain ⟨e, ee⟩ : ∃ e, (if r = 0 then wI s 5 1 5 (nI mk') else s) = e := ⟨_, rfl⟩
  have fe : fr (fun c i k => c = 5 ∧ i = 1 ∧ k = 5) s e := by
    rw [← ee]
    by_cases z : r = 0
    · rw [if_pos z]; exact fr_wI (fr_r _ _) (by omega)
    · rw [if_neg z]; exact fr_r _ _
  have e5 : e.1 5 1 5 = nI mk' := by
    rw [← ee]
    by_cases z : r = 0
    · rw [if_pos z, wI_s1]
    · rw [if_neg z, h5, ← hmk', if_neg z]
  obtain ⟨a, a1, a2, a3⟩ := c_settle (d := d + 1) (k := r + 1) (by omega) (by omega) π out st e (yC_fr hC fe (by omega) (by omega) (by omega) (by omega)) hπ hst
  have hll : out.length + (π ++ st).length ≤ p := hl
  rw [List.length_append] at hll
  have hl3 : (out ++ π).length = out.length + π.length := List.length_append
  obtain ⟨c, c1, c2, c3⟩ := c_hold (d := d + 2) a2 hv (by rw [hl3]; omega)
  obtain ⟨g, eg⟩ : ∃ g, wI c 5 1 6 1 = g := ⟨_, rfl⟩
  have fg : fr (fun c i k => c = 5 ∧ i = 1 ∧ k = 6) c g := by rw [← eg]; exact fr_wI (fr_r _ _) (by omega)
  have fsg : fr (fun c i k => (c = 5 ∨ c = 24 ∨ c = 25) ∧ i = 1) s g := fr_t (fr_m fe (by omega)) (fr_t (fr_m a3 (by omega)) (fr_t (fr_m c3 (by omega)) (fr_m fg (by omega))))
  obtain ⟨t, t1, t2, t3⟩ := y_step (d := d + 2) hX hp fsg (by omega) (by omega)
  refine ⟨t, ?_, ⟨t2, yC_fr (yC_fr c2 fg (by omega) (by omega) (by omega) (by omega)) t3 (by omega) (by omega) (by omega) (by omega), ?_, ?_, ?_, ?_, hb4, by rw [hmk']; exact hmkl, h40⟩, fr_t (fr_m fsg (by unfold pRc; omega)) (fr_m t3 (by unfold pRc; omega))⟩
  · have hn41 : ¬ nI (sg p) = 41 := of_eq_false (eq_f (b := 41) h41 (by omega) (by omega))
    have hst' : ev (d + 3) f_Rule_strengthOf [vI (nI (sg p))] s = some (some (vI (nI (r + 1))), s) := by rw [hc, c_str hv, hso]
    have hJ2 : ∀ x : xS, x = e → Rule_readsSign_J2 (d + 3) 1 (nI (sg p)) (nI (r + 1)) x = some (some (vI (x_nb 1)), t) := fun x hx => by
      rw [hx, Rule_readsSign_J2_eq, Rule_settle_eq, a1, bV_s, hc, c1, bV_s, eg, t1, bV_s]
    have hJ1 : Rule_readsSign_J1 (d + 3) 1 (nI (sg p)) (nI (r + 1)) s = some (some (vI (x_nb 1)), t) := by
      rw [Rule_readsSign_J1_eq]
      by_cases z : r = 0
      · have hz : nI (r + 1) = 1 := by rw [z]; rfl
        rw [if_pos hz, h5, h4, mk_t hmk hb4]
        refine hJ2 _ ?_
        rw [← ee, if_pos z, ← hmk', if_pos z]
      · rw [if_neg (show ¬ nI (r + 1) = 1 from of_eq_false (eq_f (b := 1) (by omega) (by omega) (by omega)))]
        refine hJ2 _ ?_
        rw [← ee, if_neg z]
    have hn0 : ¬ nI (r + 1) = 0 := of_eq_false (eq_f (b := 0) (by omega) (by omega) (by omega))
    rw [y_tok ⟨hX, hC, hl, h4, h5, h6, hb4, hmk, h40⟩ hp hy, if_pos (by rfl), Rule_readsSign_eq, c_here hX, bI_s, hr_p hp, if_neg hn41, hst', bI_s, if_neg hn0]
    by_cases z : r = 0
    · have hz : nI (r + 1) = 1 := by rw [z]; rfl
      have hbit : ¬ (jshr (s.1 5 1 5) (s.1 5 1 4) &&& 1 : Int32) = 1 := by
        rw [h5, h4]
        intro w
        have := (j_bit1 (by omega) (by omega)).mp w
        rw [hm z] at this
        cases this
      rw [if_pos hz, if_neg hbit, hJ1, bI_s, if_neg (by decide)]
    · rw [if_neg (show ¬ nI (r + 1) = 1 from of_eq_false (eq_f (b := 1) (by omega) (by omega) (by omega))), hJ1, bI_s, if_neg (by decide)]
  · rw [hl3]
    show out.length + π.length + (st.length + 1) ≤ p + 1
    omega
  · rw [(t3 5 1 4 (by omega)).1, (fg 5 1 4 (by omega)).1, (c3 5 1 4 (by omega)).1, (a3 5 1 4 (by omega)).1, (fe 5 1 4 (by omega)).1]; exact h4
  · rw [(t3 5 1 5 (by omega)).1, (fg 5 1 5 (by omega)).1, (c3 5 1 5 (by omega)).1, (a3 5 1 5 (by omega)).1, e5, hmk']
  · rw [(t3 5 1 6 (by omega)).1, ← eg, wI_s1]; rfl
theorem y_close (h : yS s T sg E p out (π ++ 0 :: st) (b + 1) mk false) (hp : p < E) (hy : y ≤ p) (hc : sg p = 41) (hπ : ∀ x, x ∈ π → 1 ≤ sgO x) : ∃ t, Rule_reads_L1 (d + 5) 1 (nI y) s = Rule_reads_L1 (d + 5) 1 (nI (y + 1)) t ∧ yS t T sg E (p + 1) (out ++ π) st b mk false ∧ fr pRc s t := by
  obtain ⟨hX, hC, hl, h4, h5, h6, hb4, hmk, h40⟩ := h
  obtain ⟨a, a1, a2, a3⟩ := c_settle (d := d + 1) (k := 1) (by omega) (by omega) π out (0 :: st) s hC hπ (Or.inr ⟨0, st, rfl, by decide⟩)
  have a1' : Rule_settle_L1 (d + 2) 1 1 s = some (none, a) := a1
  obtain ⟨b1, b2, b3, b4, b5⟩ := a2
  have b2 : a.1 5 1 3 = nI (st.length + 1) := b2
  have b5 : (out ++ π).length + (st.length + 1) ≤ 40 := b5
  have a4 : a.1 5 1 4 = nI (b + 1) := by rw [(a3 5 1 4 (by omega)).1]; exact h4
  obtain ⟨g, eg⟩ : ∃ g, wI (wI a 5 1 3 (nI st.length)) 5 1 4 (nI b) = g := ⟨_, rfl⟩
  have fg : fr (fun c i k => c = 5 ∧ i = 1 ∧ (k = 3 ∨ k = 4)) a g := by rw [← eg]; exact fr_wI (fr_wI (fr_r _ _) (by omega)) (by omega)
  have fsg : fr (fun c i k => (c = 5 ∨ c = 24) ∧ i = 1) s g := fr_t (fr_m a3 (by omega)) (fr_m fg (by omega))
  obtain ⟨t, t1, t2, t3⟩ := y_step (d := d + 2) hX hp fsg (by omega) (by omega)
  have hll : out.length + (π ++ 0 :: st).length ≤ p := hl
  rw [List.length_append] at hll
  have hll : out.length + (π.length + (st.length + 1)) ≤ p := hll
  have hl3 : (out ++ π).length = out.length + π.length := List.length_append
  have hmax : (if (0 : Int32) < nI st.length then nI st.length else 0) = nI st.length := by
    by_cases z : 0 < st.length
    · rw [if_pos (show (0 : Int32) < nI st.length from of_eq_true (lt_t (a := 0) z (by omega)))]
    · rw [show st.length = 0 by omega]; rfl
  have fgt : fr (fun c i k => (c = 5 ∧ i = 1 ∧ (k = 3 ∨ k = 4)) ∨ (c = 1 ∧ k = 3)) a t := fr_t (fr_m fg (by omega)) (fr_m t3 (by omega))
  refine ⟨t, ?_, ⟨t2, ⟨cR_fr b1 fgt (by omega) (by omega), by rw [(t3 5 1 3 (by omega)).1, ← eg, wI_nk (by omega), wI_s1], skS_k b3.2 (fun j _ => (fgt 25 1 j (by omega)).1), fun x hx => b4 x (List.mem_cons_of_mem _ hx), by omega⟩, by rw [hl3]; omega, by rw [(t3 5 1 4 (by omega)).1, ← eg, wI_s1], ?_, ?_, by omega, hmk, h40⟩, fr_t (fr_m fsg (by unfold pRc; omega)) (fr_m t3 (by unfold pRc; omega))⟩
  · have hn0 : ¬ nI (b + 1) = 0 := of_eq_false (eq_f (b := 0) (by omega) (by omega) (by omega))
    rw [y_tok ⟨hX, hC, hl, h4, h5, h6, hb4, hmk, h40⟩ hp hy, if_pos (by rfl), Rule_readsSign_eq, c_here hX, bI_s, hr_p hp, hc, if_pos (by rfl), Rule_closesBracket_eq, h4, if_neg hn0, Rule_settle_eq, a1', bV_s, b2, n_sub1, max_s, bI_s, hmax, a4, n_sub1, eg, t1, bV_s, bI_s, show x_nb (x_nb 1) = 1 by decide, bI_s, if_neg (by decide)]
  · rw [(fgt 5 1 5 (by omega)).1, (a3 5 1 5 (by omega)).1]; exact h5
  · rw [(fgt 5 1 6 (by omega)).1, (a3 5 1 6 (by omega)).1]; exact h6
theorem st_chk : ((List.range 256).all fun c => decide (strI (nI c) = if (fst (fun k => decide ((strL 4).getD k 0 = c)) 2).isSome then 3 else if (fst (fun k => decide ((strL 3).getD k 0 = c)) 2).isSome then 2 else if (fst (fun k => decide ((strL 2).getD k 0 = c)) 3).isSome then 1 else 0)) = true := by decide +kernel
/-- no sign that could go on stands at q -/
def stp (sg : Nat → Nat) (E m q b mk : Nat) : Prop := (m ≤ 2 → fxS sg E q 4 = none) ∧ (m ≤ 1 → fxS sg E q 3 = none) ∧ (m = 0 → fxS sg E q 2 = none ∨ mk.testBit b = true)
theorem y_badS (h : yS s T sg E p out st b mk false) (hp : p < E) (hy : y ≤ p) (h41 : sg p = 41 → b = 0) (hs : stp sg E 0 p b mk) : Rule_reads_L1 (d + 4) 1 (nI y) s = some (some (vI (ib false)), s) := by
  obtain ⟨hX, hC, hl, h4, h5, h6, hb4, hmk, h40⟩ := h
  have h256 := hX.2.2.2.1.2 p (by have := hX.2.2.2.2.1; omega)
  rw [y_tok ⟨hX, hC, hl, h4, h5, h6, hb4, hmk, h40⟩ hp hy, if_pos (by rfl), Rule_readsSign_eq, c_here hX, bI_s, hr_p hp]
  by_cases z : sg p = 41
  · rw [z, if_pos (by rfl), Rule_closesBracket_eq, h4, h41 z, if_pos (by rfl), bI_s, bI_s, if_pos (by decide), nb_0]
  · have hn41 : ¬ nI (sg p) = 41 := of_eq_false (eq_f (b := 41) z (by omega) (by omega))
    have hk := of_decide_eq_true (all_r st_chk h256)
    have e4 : fst (fun k => decide ((strL 4).getD k 0 = sg p)) 2 = none := by
      have := hs.1 (by omega)
      unfold fxS at this
      rw [if_pos hp] at this
      exact this
    have e3 : fst (fun k => decide ((strL 3).getD k 0 = sg p)) 2 = none := by
      have := hs.2.1 (by omega)
      unfold fxS at this
      rw [if_pos hp] at this
      exact this
    rw [e4, e3, if_neg (by intro w; cases w), if_neg (by intro w; cases w)] at hk
    rw [if_neg hn41, c_strI, bI_s]
    cases e2 : fst (fun k => decide ((strL 2).getD k 0 = sg p)) 3 with
    | none =>
      rw [e2, if_neg (by intro w; cases w)] at hk
      rw [hk, if_pos rfl, bI_s, if_pos (by decide), nb_0]
    | some i =>
      have hbit : (jshr (s.1 5 1 5) (s.1 5 1 4) &&& 1 : Int32) = 1 := by
        rw [h5, h4]
        refine (j_bit1 (by omega) (by omega)).mpr ?_
        rcases hs.2.2 rfl with w | w
        · unfold fxS at w
          rw [if_pos hp] at w
          have w : fst (fun k => decide ((strL 2).getD k 0 = sg p)) 3 = none := w
          rw [e2] at w
          cases w
        · exact w
      rw [e2, if_pos (show (some i).isSome = true from rfl)] at hk
      rw [hk, if_neg (by decide), if_pos rfl, if_pos hbit, bI_s, if_pos (by decide), nb_0]
/-- the class goes wrong at q -/
def yBad (d : Nat) (s : xS) (y q : Nat) : Prop := ∃ t, Rule_reads_L1 (d + 6) 1 (nI y) s = some (some (vI (ib false)), t) ∧ t.1 1 0 3 = nI q ∧ fr pRc s t
def CR (d T : Nat) (sg : Nat → Nat) (E m p b q : Nat) (o : Option (List Nat)) : Prop := ∀ (s : xS) (y mk : Nat) (out st : List Nat), yS s T sg E p out st b mk true → y ≤ p → (m < 3 → st = [] ∨ ∃ x l, st = x :: l ∧ sgO x < m + 1) → (m = 0 → mk.testBit b = false) → (match o with
  | none => yBad d s y q
  | some cs => ∃ t y' mk' out1 π, Rule_reads_L1 (d + 6) 1 (nI y) s = Rule_reads_L1 (d + 6) 1 (nI y') t ∧ yS t T sg E q out1 (π ++ st) b mk' false ∧ y' ≤ q ∧ (∀ x, x ∈ π → m + 1 ≤ sgO x) ∧ out1 ++ π = out ++ cs ∧ (∀ j, j < b ∨ (j = b ∧ 1 ≤ m) → mk'.testBit j = mk.testBit j) ∧ stp sg E m q b mk' ∧ fr pRc s t)
def CL (d T : Nat) (sg : Nat → Nat) (E r p b q : Nat) (o : Option (List Nat)) : Prop := ∀ (s : xS) (y mk : Nat) (out π st : List Nat), yS s T sg E p out (π ++ st) b mk false → y ≤ p → (∀ x, x ∈ π → r + 1 ≤ sgO x) → (st = [] ∨ ∃ x l, st = x :: l ∧ sgO x < r + 1) → (r = 0 → mk.testBit b = false) → stp sg E (r + 1) p b mk → (match o with
  | none => yBad d s y q
  | some ds => ∃ t y' mk' out1 π', Rule_reads_L1 (d + 6) 1 (nI y) s = Rule_reads_L1 (d + 6) 1 (nI y') t ∧ yS t T sg E q out1 (π' ++ st) b mk' false ∧ y' ≤ q ∧ (∀ x, x ∈ π' → r + 1 ≤ sgO x) ∧ out1 ++ π' = out ++ π ++ ds ∧ (∀ j, j < b ∨ (j = b ∧ 1 ≤ r) → mk'.testBit j = mk.testBit j) ∧ stp sg E r q b mk' ∧ fr pRc s t)
end RULEE

/-! rule: a rule's text, by the class: signs one by one, the rest. -/
section RULED
variable {d T E p b mk y k r : Nat} {sg : Nat → Nat} {s t : xS} {out st st0 π : List Nat} {ex : Bool}
theorem c_numL : ∀ (m j p a : Nat) (s : xS), j + m = 3 → cX s T sg E p → ∃ t, Rule_readNumber_L1 (d + 3) 1 (nI a) (nI j) s = Rule_readNumber_J2 (d + 3) 1 (nI (nbL sg E m p a).2) t ∧ cX t T sg E (nbL sg E m p a).1 ∧ fr (fun c _ k => c = 1 ∧ k = 3) s t := by
  intro m
  induction m with
  | zero =>
    intro j p a s hj h
    refine ⟨s, ?_, h, fr_r _ _⟩
    rw [Rule_readNumber_L1_eq, show j = 3 by omega, if_neg (by decide)]; rfl
  | succ m ih =>
    intro j p a s hj h
    have t1 := c_digitX (d := d + 1) (lo := 0) (hi := 9) (by omega) (by omega) h
    have t2 := c_takeX (d := d) (lo := 0) (hi := 9) (by omega) (by omega) h
    rw [Rule_readNumber_L1_eq, if_pos (show nI j < 3 from of_eq_true (lt_t (b := 3) (by omega) (by omega)))]
    unfold nbL
    cases hd : dgt sg E p 0 9 with
    | none =>
      rw [hd, oI_n] at t1
      have t1' : ev (d + 3) f_Text_digitHere [vR 1 0, vI 0, vI 9] s = some (some (vI (-1)), s) := t1
      exact ⟨s, by rw [t1', bI_s, if_pos rfl], h, fr_r _ _⟩
    | some v =>
      have hv := dgt_s hd
      rw [hd, oI_s] at t1
      rw [hd, oI_s, if_neg (by intro z; cases z)] at t2
      have t1' : ev (d + 3) f_Text_digitHere [vR 1 0, vI 0, vI 9] s = some (some (vI (nI v)), s) := t1
      have t2' : ev (d + 3) f_Text_takeDigit [vR 1 0, vI 0, vI 9] s = some (some (vI (nI v)), wI s 1 0 3 (nI (p + 1))) := t2
      obtain ⟨t, e1, e2, e3⟩ := ih (j + 1) (p + 1) (10 * a + v) (wI s 1 0 3 (nI (p + 1))) (by omega) (c_stepX (d := 0) h hv.2.1).2
      refine ⟨t, ?_, e2, fr_t (fr_wI (fr_r _ _) ⟨rfl, rfl⟩) e3⟩
      rw [t1', bI_s, if_neg (m1_nn (by omega)), t2', bI_s, nl_10, pk_mul, nI_add, nI_1, e1]
theorem nb_pos {v : Nat} (hE : p ≤ E) (hd : dgt sg E p 0 9 = some v) : p < (nbL sg E 3 p 0).1 := by
  have h1 : nbL sg E 3 p 0 = nbL sg E 2 (p + 1) (10 * 0 + v) := by
    show (match dgt sg E p 0 9 with | none => (p, 0) | some v => nbL sg E 2 (p + 1) (10 * 0 + v)) = _
    rw [hd]
  have hv := dgt_s hd
  have := (nbL_b (sg := sg) (E := E) 2 (p + 1) (10 * 0 + v) (by omega)).1
  rw [h1]
  omega
theorem y_num {v : Nat} (h : yS s T sg E p out st b mk true) (hp : p < E) (hy : y ≤ p) (hd : dgt sg E p 0 9 = some v) : ∃ t, Rule_reads_L1 (d + 6) 1 (nI y) s = Rule_reads_L1 (d + 6) 1 (nI (y + 1)) t ∧ yS t T sg E (nbL sg E 3 p 0).1 (out ++ [(nbL sg E 3 p 0).2]) st b mk false ∧ fr pRc s t := by
  have h40 := h.2.2.2.2.2.2.2.2
  have hv := dgt_s hd
  have hb := nbL_b (sg := sg) (E := E) 3 p 0 (by omega)
  have hb3 : (nbL sg E 3 p 0).2 < 1000 := hb.2.2
  have hpos := nb_pos (by omega) hd
  obtain ⟨a, a1, a2, a3⟩ := c_numL (d := d + 1) 3 0 p 0 s (by omega) h.1
  have a1' : Rule_readNumber_L1 (d + 4) 1 0 0 s = Rule_readNumber_J2 (d + 4) 1 (nI (nbL sg E 3 p 0).2) a := a1
  have hya := yC_fr h.2.1 a3 (by omega) (by omega) (by omega) (by omega)
  obtain ⟨e, e1, e2, e3⟩ := c_add1 (d := d + 3) (c := (nbL sg E 3 p 0).2) hya.1 (by have := h.2.2.1; omega)
  have hcc : ccd (nbL sg E 3 p 0).2 = (nbL sg E 3 p 0).2 := if_pos (by omega)
  rw [hcc] at e1
  have fe : fr (fun c i k => (c = 1 ∧ k = 3) ∨ (c = 24 ∧ i = 1) ∨ (c = 5 ∧ i = 1 ∧ (k = 2 ∨ k = 6))) s (wI e 5 1 6 0) := fr_wI (fr_t (fr_m a3 (by omega)) (fr_m e3 (by omega))) (by omega)
  have f6 : fr (fun c _ k => c = 5 ∧ k = 6) e (wI e 5 1 6 0) := fr_wI (fr_r _ _) ⟨rfl, rfl⟩
  have hd1 := c_digitX (d := d + 3) (lo := 0) (hi := 9) (by omega) (by omega) h.1
  rw [hd, oI_s] at hd1
  have hd1' : ev (d + 5) f_Text_digitHere [vR 1 0, vI 0, vI 9] s = some (some (vI (nI v)), s) := hd1
  have hl2 : (out ++ [(nbL sg E 3 p 0).2]).length = out.length + 1 := by rw [List.length_append]; rfl
  refine ⟨wI e 5 1 6 0, ?_, ⟨cX_fr (cX_fr a2 e3 (by omega) (by omega)) f6 (by omega) (by omega), ⟨cR_fr e2 f6 (by omega) (by omega), by rw [(fe 5 1 3 (by omega)).1]; exact h.2.1.2.1, skS_k h.2.1.2.2.1 (fun j _ => (fe 25 1 j (by omega)).1), h.2.1.2.2.2.1, ?_⟩, ?_, by rw [(fe 5 1 4 (by omega)).1]; exact h.2.2.2.1, by rw [(fe 5 1 5 (by omega)).1]; exact h.2.2.2.2.1, wI_s1 _ _ _ _ _, h.2.2.2.2.2.2⟩, fr_m fe (by unfold pRc; omega)⟩
  · have hn1 : ¬ nI (sg p) = 45 := of_eq_false (eq_f (b := 45) (by omega) (by omega) (by omega))
    have hn2 : ¬ nI (sg p) = 40 := of_eq_false (eq_f (b := 40) (by omega) (by omega) (by omega))
    rw [y_tok h hp hy, if_neg (by decide), Rule_readsThing_eq, c_here h.1, bI_s, hr_p hp, if_neg hn1, if_neg hn2, hd1', bI_s, if_neg (m1_nn (by omega)), Rule_readNumber_eq, a1', Rule_readNumber_J2_eq, e1, bV_s, bV_s, bI_s, if_neg (by decide)]
  · have := h.2.2.1
    rw [hl2]; omega
  · have := h.2.2.1
    rw [hl2]; omega
def thI (c : Int32) : Int32 := if c = 100 then 0 else if c = 101 then -1 else if c = 102 then -1 else if c = 103 then -1 else if c = 104 then 3 else if c = 105 then 5 else if c = 106 then -1 else if c = 107 then 4 else if c = 108 then -1 else if c = 109 then -1 else if c = 110 then 6 else if c = 111 then -1 else if c = 112 then -1 else if c = 113 then -1 else if c = 114 then -1 else if c = 115 then 1 else if c = 116 then -1 else if c = 117 then -1 else if c = 118 then 2 else -1
theorem c_thI (c : Int32) : ev (d + 1) f_Rule_thingBySign [vI c] s = some (some (vI (thI c)), s) := by
  rw [Rule_thingBySign_eq]
  unfold thI
  exact if_v rfl (if_v rfl (if_v rfl (if_v rfl (if_v rfl (if_v rfl (if_v rfl (if_v rfl (if_v rfl (if_v rfl (if_v rfl (if_v rfl (if_v rfl (if_v rfl (if_v rfl (if_v rfl (if_v rfl (if_v rfl (if_v rfl rfl))))))))))))))))))
theorem th_chk : ((List.range 256).all fun c => decide (thI (nI c) = oI (fst (fun k => decide ((strL 1).getD k 0 = c)) 7))) = true := by decide +kernel
theorem th_v (hp : p < E) (hs : sg p < 256) : thI (nI (sg p)) = oI (fxS sg E p 1) := by
  unfold fxS
  rw [if_pos hp]
  exact of_decide_eq_true (all_r th_chk hs)
/-- a thing that is no number: what is left to ask -/
theorem y_th (h : yS s T sg E p out st b mk true) (hp : p < E) (hy : y ≤ p) (h45 : sg p ≠ 45) (h40 : sg p ≠ 40) (hd : dgt sg E p 0 9 = none) : Rule_reads_L1 (d + 6) 1 (nI y) s = bI (if oI (fxS sg E p 1) = -1 then some (some (vI (x_nb 0)), s) else bV (ev (d + 5) f_Rule_add [vR 5 1, vI (1000 + oI (fxS sg E p 1))] s) fun s11 => bV (ev (d + 5) f_Text_step [vR 1 0] (wI s11 5 1 6 0)) fun s12 => some (some (vI (x_nb 1)), s12)) fun r10 s9 => if (r10 : Int32) = 0 then some (some (vI (x_nb 0)), s9) else Rule_reads_L1 (d + 6) 1 (nI (y + 1)) s9 := by
  have hs := h.1.2.2.2.1.2 p (by have := h.1.2.2.2.2.1; omega)
  have hd1 := c_digitX (d := d + 3) (lo := 0) (hi := 9) (by omega) (by omega) h.1
  rw [hd, oI_n] at hd1
  have hd1' : ev (d + 5) f_Text_digitHere [vR 1 0, vI 0, vI 9] s = some (some (vI (-1)), s) := hd1
  have hn1 : ¬ nI (sg p) = 45 := of_eq_false (eq_f (b := 45) h45 (by omega) (by omega))
  have hn2 : ¬ nI (sg p) = 40 := of_eq_false (eq_f (b := 40) h40 (by omega) (by omega))
  rw [y_tok h hp hy, if_neg (by decide), Rule_readsThing_eq, c_here h.1, bI_s, hr_p hp, if_neg hn1, if_neg hn2, hd1', bI_s, if_pos rfl, c_thI, bI_s, th_v hp hs]
theorem y_let {i : Nat} (h : yS s T sg E p out st b mk true) (hp : p < E) (hy : y ≤ p) (hd : dgt sg E p 0 9 = none) (hf : fxS sg E p 1 = some i) : ∃ t, Rule_reads_L1 (d + 6) 1 (nI y) s = Rule_reads_L1 (d + 6) 1 (nI (y + 1)) t ∧ yS t T sg E (p + 1) (out ++ [1000 + i]) st b mk false ∧ fr pRc s t := by
  have h40 := h.2.2.2.2.2.2.2.2
  obtain ⟨_, hi, hc⟩ := fx_sg hf
  have hi : i < 7 := hi
  have hcs : sg p ≠ 45 ∧ sg p ≠ 40 := by
    rw [← hc]
    rcases (by omega : i = 0 ∨ i = 1 ∨ i = 2 ∨ i = 3 ∨ i = 4 ∨ i = 5 ∨ i = 6) with rfl | rfl | rfl | rfl | rfl | rfl | rfl <;> decide
  obtain ⟨e, e1, e2, e3⟩ := c_add1 (d := d + 4) (c := 1000 + i) h.2.1.1 (by have := h.2.2.1; omega)
  have hcc : ccd (1000 + i) = 1000 + i := if_pos (by omega)
  rw [hcc] at e1
  have fe : fr (fun c i k => (c = 24 ∧ i = 1) ∨ (c = 5 ∧ i = 1 ∧ (k = 2 ∨ k = 6))) s (wI e 5 1 6 0) := fr_wI (fr_m e3 (by omega)) (by omega)
  have f6 : fr (fun c _ k => c = 5 ∧ k = 6) e (wI e 5 1 6 0) := fr_wI (fr_r _ _) ⟨rfl, rfl⟩
  obtain ⟨t, t1, t2, t3⟩ := y_step (d := d + 4) h.1 hp fe (by omega) (by omega)
  have hl2 : (out ++ [1000 + i]).length = out.length + 1 := by rw [List.length_append]; rfl
  have f6t : fr (fun c _ k => (c = 5 ∧ k = 6) ∨ (c = 1 ∧ k = 3)) e t := fr_t (fr_m f6 (by omega)) (fr_m t3 (by omega))
  have fst : fr (fun c i k => (c = 1 ∧ k = 3) ∨ (c = 24 ∧ i = 1) ∨ (c = 5 ∧ i = 1 ∧ (k = 2 ∨ k = 6))) s t := fr_t (fr_m fe (by omega)) (fr_m t3 (by omega))
  refine ⟨t, ?_, ⟨t2, ⟨cR_fr e2 f6t (by omega) (by omega), by rw [(fst 5 1 3 (by omega)).1]; exact h.2.1.2.1, skS_k h.2.1.2.2.1 (fun j _ => (fst 25 1 j (by omega)).1), h.2.1.2.2.2.1, ?_⟩, ?_, by rw [(fst 5 1 4 (by omega)).1]; exact h.2.2.2.1, by rw [(fst 5 1 5 (by omega)).1]; exact h.2.2.2.2.1, by rw [(t3 5 1 6 (by omega)).1, wI_s1]; rfl, h.2.2.2.2.2.2⟩, fr_m fst (by unfold pRc; omega)⟩
  · rw [y_th h hp hy hcs.1 hcs.2 hd, hf, oI_s, if_neg (m1_nn (by omega)), show (1000 : Int32) = nI 1000 from rfl, nI_add, e1, bV_s, t1, bV_s, bI_s, if_neg (by decide)]
  · have := h.2.2.1
    rw [hl2]; omega
  · have := h.2.2.1
    rw [hl2]; omega
theorem y_badT (h : yS s T sg E p out st b mk true) (hp : p < E) (hy : y ≤ p) (h45 : sg p ≠ 45) (hd : dgt sg E p 0 9 = none) (hf : fxS sg E p 1 = none) (h40 : b = 4 ∨ sg p ≠ 40) : Rule_reads_L1 (d + 6) 1 (nI y) s = some (some (vI (ib false)), s) := by
  by_cases z : sg p = 40
  · have hb : b = 4 := h40.resolve_right (fun y => y z)
    have hne : ¬ (nI 40 : Int32) = 45 := by decide
    rw [y_tok h hp hy, if_neg (by decide), Rule_readsThing_eq, c_here h.1, bI_s, hr_p hp, z, if_neg hne, if_pos (by rfl), Rule_opensBracket_eq, h.2.2.2.1, hb, if_neg (by decide), bI_s, bI_s, if_pos (by decide), nb_0]
  · rw [y_th h hp hy h45 z hd, hf, oI_n, if_pos rfl, bI_s, if_pos (by decide), nb_0]
theorem y_fl (h : yS s T sg E p out st b mk ex) (hp : p = E) (hy : y ≤ p) : ∃ t π st0, Rule_reads_L1 (d + 3) 1 (nI y) s = (if (t.1 5 1 6 : Int32) = 0 then if (t.1 5 1 4 : Int32) = 0 then bI (ev (d + 3) f_Text_isRead [vR 1 0] t) fun r13 s12 => if (r13 : Int32) = 0 then some (some (vI (x_nb 0)), s12) else some (some (vI (x_nb 1)), s12) else some (some (vI (x_nb 0)), t) else some (some (vI (x_nb 0)), t)) ∧ st = π ++ st0 ∧ (∀ x, x ∈ π → 1 ≤ sgO x) ∧ (st0 = [] ∨ ∃ x r, st0 = x :: r ∧ sgO x < 1) ∧ yC t (out ++ π) st0 ∧ t.1 5 1 6 = ib ex ∧ t.1 5 1 4 = nI b ∧ cX t T sg E p ∧ fr pRc s t := by
  obtain ⟨π, st0, e1, e2, e3⟩ := spl 1 st
  obtain ⟨t, t1, t2, t3⟩ := c_settle (d := d + 1) (k := 1) (by omega) (by omega) π out st0 s (by rw [← e1]; exact h.2.1) e2 e3
  have t1' : Rule_settle_L1 (d + 2) 1 1 s = some (none, t) := t1
  refine ⟨t, π, st0, ?_, e1, e2, e3, t2, by rw [(t3 5 1 6 (by omega)).1]; exact h.2.2.2.2.2.1, by rw [(t3 5 1 4 (by omega)).1]; exact h.2.2.2.1, cX_fr h.1 t3 (by omega) (by omega), fr_m t3 (by unfold pRc; omega)⟩
  rw [y_end h hp hy, Rule_reads_J2_eq, Rule_settle_eq, t1', bV_s]
theorem y_endT (h : yS s T sg E p out st b mk true) (hp : p = E) (hy : y ≤ p) : ∃ t, Rule_reads_L1 (d + 3) 1 (nI y) s = some (some (vI (ib false)), t) ∧ t.1 1 0 3 = nI p ∧ fr pRc s t := by
  obtain ⟨t, π, st0, e1, _, _, _, _, e6, e4, eX, ef⟩ := y_fl (d := d) h hp hy
  exact ⟨t, by rw [e1, e6, if_neg (by decide), nb_0], eX.2.2.1, ef⟩
theorem y_endS (h : yS s T sg E p out st b mk false) (hp : p = E) (hy : y ≤ p) (hb : 1 ≤ b) : ∃ t, Rule_reads_L1 (d + 3) 1 (nI y) s = some (some (vI (ib false)), t) ∧ t.1 1 0 3 = nI p ∧ fr pRc s t := by
  obtain ⟨t, π, st0, e1, _, _, _, _, e6, e4, eX, ef⟩ := y_fl (d := d) h hp hy
  have hb4 := h.2.2.2.2.2.2.1
  exact ⟨t, by rw [e1, e6, if_pos (by rfl), e4, if_neg (show ¬ nI b = 0 from of_eq_false (eq_f (b := 0) (by omega) (by omega) (by omega))), nb_0], eX.2.2.1, ef⟩
theorem y_fin (h : yS s T sg E p out st 0 mk false) (hp : p = E) (hy : y ≤ p) (hs : ∀ x, x ∈ st → 1 ≤ sgO x) : ∃ t, Rule_reads_L1 (d + 3) 1 (nI y) s = some (some (vI (ib (decide (E = T)))), t) ∧ t.1 1 0 3 = nI p ∧ cT t T sg ∧ cR t 1 (out ++ st) ∧ fr pRc s t := by
  obtain ⟨t, π, st0, e1, e2, e3, e4', e5, e6, e4, eX, ef⟩ := y_fl (d := d) h hp hy
  have h80 := h.1.2.2.2.1.1
  have h0 : st0 = [] := by
    rcases e4' with z | ⟨x, r, z, w⟩
    · exact z
    · have := hs x (by rw [e2, z]; simp)
      omega
  rw [h0, List.append_nil] at e2
  refine ⟨t, ?_, eX.2.2.1, eX.1, by rw [e2]; exact e5.1, ef⟩
  have hET := h.1.2.2.2.2.1
  rw [e1, e6, if_pos (by rfl), e4, if_pos (by rfl), Text_isRead_eq, eX.2.2.1, eX.1.1, hp]
  by_cases z : E = T
  · rw [if_pos (of_eq_true (eq_t z)), bI_s, if_neg (by decide), decide_eq_true z, nb_1]
  · rw [if_neg (of_eq_false (eq_f z (by omega) (by omega))), bI_s, if_pos (by decide), decide_eq_false z, nb_0]
end RULED

/-! rule: a rule's text, by the class: signs one by one. -/
section RULEC
variable {d T E p b mk y k : Nat} {sg : Nat → Nat} {s t : xS} {out st : List Nat} {ex : Bool}
def chO (x : Nat) : Nat := if x = 0 then 40 else if x = 3000 then 256 else sgn (x - 2000)
def sgO (x : Nat) : Nat := if x = 0 then 0 else if x = 3000 then 4 else if x < 2003 then 1 else if x < 2005 then 2 else 3
def vO (x : Nat) : Prop := x = 0 ∨ (2000 ≤ x ∧ x < 2007) ∨ x = 3000
theorem vO_c {x : Nat} (h : vO x) : x = 0 ∨ x = 2000 ∨ x = 2001 ∨ x = 2002 ∨ x = 2003 ∨ x = 2004 ∨ x = 2005 ∨ x = 2006 ∨ x = 3000 := by unfold vO at h; omega
def strI (c : Int32) : Int32 := if c = 42 then 3 else if c = 43 then 2 else if c = 45 then 2 else if c = 47 then 3 else if c = 60 then 1 else if c = 61 then 1 else if c = 62 then 1 else if c = 256 then 4 else 0
theorem c_strI (c : Int32) : ev (d + 1) f_Rule_strengthOf [vI c] s = some (some (vI (strI c)), s) := by
  rw [Rule_strengthOf_eq]
  unfold strI
  exact if_v rfl (if_v rfl (if_v rfl (if_v rfl (if_v rfl (if_v rfl (if_v rfl (if_v rfl rfl)))))))
theorem c_str {x : Nat} (h : vO x) : ev (d + 1) f_Rule_strengthOf [vI (nI (chO x))] s = some (some (vI (nI (sgO x))), s) := by
  rw [c_strI]
  have e : strI (nI (chO x)) = nI (sgO x) := by
    rcases vO_c h with rfl | rfl | rfl | rfl | rfl | rfl | rfl | rfl | rfl <;> decide
  rw [e]
theorem ccd_o {x : Nat} (h : vO x) (h0 : x ≠ 0) : ccd x = 2000 + chO x := by
  rcases vO_c h with rfl | rfl | rfl | rfl | rfl | rfl | rfl | rfl | rfl
  · exact absurd rfl h0
  all_goals rfl
theorem chO_lt {x : Nat} (h : vO x) : chO x < 300 := by
  rcases vO_c h with rfl | rfl | rfl | rfl | rfl | rfl | rfl | rfl | rfl <;> decide
def skS (a : Nat → Int32) : List Nat → Prop
  | [] => True
  | x :: r => a r.length = nI (chO x) ∧ skS a r
theorem skS_k {a c : Nat → Int32} : ∀ {st : List Nat}, skS a st → (∀ j, j < st.length → c j = a j) → skS c st
  | [], _, _ => trivial
  | x :: r, h, e => ⟨by rw [e r.length (by simp)]; exact h.1, skS_k h.2 (fun j hj => e j (by simp; omega))⟩
def yC (s : xS) (out st : List Nat) : Prop := cR s 1 out ∧ s.1 5 1 3 = nI st.length ∧ skS (fun j => s.1 25 1 j) st ∧ (∀ x, x ∈ st → vO x) ∧ out.length + st.length ≤ 40
theorem yC_fr {r : Nat → Nat → Nat → Prop} (h : yC s out st) (f : fr r s t) (h1 : ¬ r 5 1 2) (h2 : ∀ k, ¬ r 24 1 k) (h3 : ¬ r 5 1 3) (h4 : ∀ k, ¬ r 25 1 k) : yC t out st :=
  ⟨cR_fr h.1 f h1 h2, by rw [(f _ _ _ h3).1]; exact h.2.1, skS_k h.2.2.1 (fun j _ => (f _ _ _ (h4 j)).1), h.2.2.2⟩
theorem c_add1 {c : Nat} (h : cR s 1 out) (hl : out.length < 40) : ∃ t, ev (d + 1) f_Rule_add [vR 5 1, vI (nI (ccd c))] s = some (none, t) ∧ cR t 1 (out ++ [c]) ∧ fr (fun c i k => (c = 24 ∧ i = 1) ∨ (c = 5 ∧ i = 1 ∧ k = 2)) s t := by
  obtain ⟨h1, h2, h3⟩ := h
  refine ⟨wI (wI s 24 1 out.length (nI (ccd c))) 5 1 2 (nI (out.length + 1)), ?_, ⟨by rw [wI_s1, List.length_append]; rfl, by rw [List.length_append]; exact hl, fun j hj => ?_⟩, fr_wI (fr_wI (fr_r _ _) (by omega)) (by omega)⟩
  · rw [Rule_add_eq, h1, if_pos (show nI out.length < 40 from of_eq_true (lt_t (b := 40) hl (by omega))), in_t hl (by omega), if_pos rfl, n_cl (by omega), nI_1]
  · rw [List.length_append] at hj
    have hj : j < out.length + 1 := hj
    rw [wI_nc (by omega)]
    by_cases z : j < out.length
    · rw [wI_nk (by omega), gD_l z]; exact h3 j z
    · rw [show j = out.length + 0 by omega, gD_r, Nat.add_zero, wI_s1]; rfl
theorem c_settle (hk : 1 ≤ k) (hk4 : k ≤ 4) : ∀ (π out st : List Nat) (s : xS), yC s out (π ++ st) → (∀ x, x ∈ π → k ≤ sgO x) → (st = [] ∨ ∃ x r, st = x :: r ∧ sgO x < k) → ∃ t, Rule_settle_L1 (d + 1) 1 (nI k) s = some (none, t) ∧ yC t (out ++ π) st ∧ fr (fun c i k => (c = 24 ∧ i = 1) ∨ (c = 5 ∧ i = 1 ∧ (k = 2 ∨ k = 3))) s t := by
  intro π
  induction π with
  | nil =>
    intro out st s h _ hs
    rw [List.append_nil]
    refine ⟨s, ?_, h, fr_r _ _⟩
    have h : yC s out st := h
    obtain ⟨h1, h2, h3, h4, h5⟩ := h
    rcases hs with rfl | ⟨x, r, rfl, hx⟩
    · rw [Rule_settle_L1_eq, h2, if_neg (by decide)]
    · have hl : (x :: r).length = r.length + 1 := rfl
      have hv := h4 x (by simp)
      have h3 : s.1 25 1 r.length = nI (chO x) := h3.1
      rw [hl] at h2 h5
      have hsx : sgO x ≤ 4 := by
        rcases vO_c hv with rfl | rfl | rfl | rfl | rfl | rfl | rfl | rfl | rfl <;> decide
      rw [Rule_settle_L1_eq, h2, if_pos (show (0 : Int32) < nI (r.length + 1) from of_eq_true (lt_t (a := 0) (by omega) (by omega))), n_sub1, in_t (show r.length < 40 by omega) (by omega), if_pos rfl, n_cl (by omega), h3, c_str hv, bI_s, if_pos (of_eq_true (lt_t hx (by omega)))]
  | cons x π ih =>
    intro out st s h hπ hs
    obtain ⟨h1, h2, h3, h4, h5⟩ := h
    have hl : (x :: π ++ st).length = (π ++ st).length + 1 := rfl
    have hv := h4 x (by simp)
    have h3a : s.1 25 1 (π ++ st).length = nI (chO x) := h3.1
    have h3b : skS (fun j => s.1 25 1 j) (π ++ st) := h3.2
    rw [hl] at h2 h5
    have hx := hπ x (by simp)
    have hx0 : x ≠ 0 := fun z => by rw [z] at hx; have : sgO 0 = 0 := rfl; omega
    have hsx : sgO x ≤ 4 := by
      rcases vO_c hv with rfl | rfl | rfl | rfl | rfl | rfl | rfl | rfl | rfl <;> decide
    obtain ⟨a, a1, a2, a3⟩ := c_add1 (d := d) (c := x) h1 (by omega)
    rw [ccd_o hv hx0] at a1
    obtain ⟨e, ee⟩ : ∃ e, wI a 5 1 3 (nI (π ++ st).length) = e := ⟨_, rfl⟩
    have fe : fr (fun c i k => (c = 24 ∧ i = 1) ∨ (c = 5 ∧ i = 1 ∧ (k = 2 ∨ k = 3))) s e := by
      rw [← ee]
      exact fr_wI (fr_m a3 (by omega)) (by omega)
    have hl2 : (out ++ [x]).length = out.length + 1 := by rw [List.length_append]; rfl
    have hy : yC e (out ++ [x]) (π ++ st) := by
      refine ⟨?_, by rw [← ee, wI_s1], skS_k h3b (fun j _ => (fe 25 1 j (by omega)).1), fun z hz => h4 z (List.mem_cons_of_mem _ hz), by rw [hl2]; omega⟩
      rw [← ee]
      exact cR_fr (p := fun c _ k => c = 5 ∧ k = 3) a2 (fr_wI (fr_r _ _) ⟨rfl, rfl⟩) (by omega) (by omega)
    obtain ⟨t, t1, t2, t3⟩ := ih (out ++ [x]) st e hy (fun z hz => hπ z (by simp [hz])) hs
    refine ⟨t, ?_, by rw [List.append_assoc] at t2; exact t2, fr_t fe t3⟩
    have ha3 : a.1 5 1 3 = nI ((π ++ st).length + 1) := by rw [(a3 5 1 3 (by omega)).1]; exact h2
    rw [Rule_settle_L1_eq, h2, if_pos (show (0 : Int32) < nI ((π ++ st).length + 1) from of_eq_true (lt_t (a := 0) (by omega) (by omega))), n_sub1, in_t (show (π ++ st).length < 40 by omega) (by omega), if_pos rfl, n_cl (by omega), h3a, c_str hv, bI_s, if_neg (of_eq_false (lt_f hx (by omega))), h2, n_sub1, in_t (show (π ++ st).length < 40 by omega) (by omega), if_pos rfl, n_cl (by omega), h3a, show (2000 : Int32) = nI 2000 from rfl, nI_add, a1, bV_s, ha3, n_sub1, ee, t1]
theorem spl (k : Nat) : ∀ st : List Nat, ∃ π st0, st = π ++ st0 ∧ (∀ x, x ∈ π → k ≤ sgO x) ∧ (st0 = [] ∨ ∃ x r, st0 = x :: r ∧ sgO x < k) := by
  intro st
  induction st with
  | nil => exact ⟨[], [], rfl, fun x hx => (by cases hx), Or.inl rfl⟩
  | cons x r ih =>
    by_cases z : sgO x < k
    · exact ⟨[], x :: r, rfl, fun x hx => (by cases hx), Or.inr ⟨x, r, rfl, z⟩⟩
    · obtain ⟨π, st0, e1, e2, e3⟩ := ih
      refine ⟨x :: π, st0, by rw [e1]; rfl, fun w hw => ?_, e3⟩
      simp at hw
      rcases hw with rfl | hw
      · omega
      · exact e2 w hw
theorem c_hold {x : Nat} (h : yC s out st) (hv : vO x) (hl : out.length + st.length < 40) : ∃ t, ev (d + 1) f_Rule_hold [vR 5 1, vI (nI (chO x))] s = some (none, t) ∧ yC t out (x :: st) ∧ fr (fun c i k => (c = 25 ∧ i = 1) ∨ (c = 5 ∧ i = 1 ∧ k = 3)) s t := by
  obtain ⟨h1, h2, h3, h4, h5⟩ := h
  have f1 : fr (fun c i k => (c = 25 ∧ i = 1) ∨ (c = 5 ∧ i = 1 ∧ k = 3)) s (wI (wI s 25 1 st.length (nI (chO x))) 5 1 3 (nI (st.length + 1))) := fr_wI (fr_wI (fr_r _ _) (by omega)) (by omega)
  refine ⟨wI (wI s 25 1 st.length (nI (chO x))) 5 1 3 (nI (st.length + 1)), ?_, ⟨cR_fr h1 f1 (by omega) (by omega), wI_s1 _ _ _ _ _, ⟨?_, skS_k h3 (fun j hj => ?_)⟩, fun z hz => ?_, ?_⟩, f1⟩
  · rw [Rule_hold_eq, h2, if_pos (show nI st.length < 40 from of_eq_true (lt_t (b := 40) (by omega) (by omega))), in_t (show st.length < 40 by omega) (by omega), if_pos rfl, n_cl (by omega), nI_1]
  · show (wI (wI s 25 1 st.length (nI (chO x))) 5 1 3 (nI (st.length + 1))).1 25 1 st.length = nI (chO x)
    rw [wI_nc (by omega), wI_s1]
  · show (wI (wI s 25 1 st.length (nI (chO x))) 5 1 3 (nI (st.length + 1))).1 25 1 j = s.1 25 1 j
    rw [wI_nc (by omega), wI_nk (by omega)]
  · simp at hz
    rcases hz with rfl | hz
    · exact hv
    · exact h4 z hz
  · show out.length + (st.length + 1) ≤ 40
    omega
def yS (s : xS) (T : Nat) (sg : Nat → Nat) (E p : Nat) (out st : List Nat) (b mk : Nat) (ex : Bool) : Prop := cX s T sg E p ∧ yC s out st ∧ out.length + st.length ≤ p ∧ s.1 5 1 4 = nI b ∧ s.1 5 1 5 = nI mk ∧ s.1 5 1 6 = ib ex ∧ b ≤ 4 ∧ mk < 32 ∧ E ≤ 40
def pRc (c i k : Nat) : Prop := (c = 1 ∧ k = 3) ∨ ((c = 5 ∨ c = 24 ∨ c = 25) ∧ i = 1)
theorem mk_chk : ((List.range 32).all fun m => (List.range 5).all fun b => decide (nI m &&& (jshl 1 (nI b) ^^^ (-1)) = nI (setb m b false)) && decide (nI m ||| jshl 1 (nI b) = nI (setb m b true))) = true := by decide +kernel
theorem mk_f {m c : Nat} (hm : m < 32) (hc : c ≤ 4) : nI m &&& (jshl 1 (nI c) ^^^ (-1)) = nI (setb m c false) := by
  have h := all_r (all_r mk_chk hm) (show c < 5 by omega)
  rw [Bool.and_eq_true, decide_eq_true_eq] at h
  exact h.1
theorem mk_t {m c : Nat} (hm : m < 32) (hc : c ≤ 4) : nI m ||| jshl 1 (nI c) = nI (setb m c true) := by
  have h := all_r (all_r mk_chk hm) (show c < 5 by omega)
  rw [Bool.and_eq_true, decide_eq_true_eq, decide_eq_true_eq] at h
  exact h.2
theorem hr_p (hp : p < E) : hrI sg E p = nI (sg p) := if_pos hp
theorem y_tok (h : yS s T sg E p out st b mk ex) (hp : p < E) (hy : y ≤ p) : Rule_reads_L1 (d + 1) 1 (nI y) s = if ib ex = 0 then (bI (ev (d + 1) f_Rule_readsSign [vR 5 1, vR 1 0] s) fun r8 s7 => if (r8 : Int32) = 0 then some (some (vI (x_nb 0)), s7) else Rule_reads_L1 (d + 1) 1 (nI (y + 1)) s7) else bI (ev (d + 1) f_Rule_readsThing [vR 5 1, vR 1 0] s) fun r10 s9 => if (r10 : Int32) = 0 then some (some (vI (x_nb 0)), s9) else Rule_reads_L1 (d + 1) 1 (nI (y + 1)) s9 := by
  have h40 := h.2.2.2.2.2.2.2.2
  have hs := h.1.2.2.2.1.2 p (by have := h.1.2.2.2.2.1; omega)
  rw [Rule_reads_L1_eq, if_pos (show nI y < 40 from of_eq_true (lt_t (b := 40) (by omega) (by omega))), c_here h.1, bI_s, hr_p hp, if_neg (m1_nn (by omega)), h.2.2.2.2.2.1, nI_1]
theorem y_end (h : yS s T sg E p out st b mk ex) (hp : p = E) (hy : y ≤ p) : Rule_reads_L1 (d + 1) 1 (nI y) s = Rule_reads_J2 (d + 1) 1 s := by
  have h40 := h.2.2.2.2.2.2.2.2
  rw [Rule_reads_L1_eq]
  by_cases z : y < 40
  · rw [if_pos (show nI y < 40 from of_eq_true (lt_t (b := 40) z (by omega))), c_here h.1, bI_s, show hrI sg E p = -1 from if_neg (by omega), if_pos rfl]
  · rw [if_neg (show ¬ nI y < 40 from of_eq_false (lt_f (b := 40) (by omega) (by omega)))]
theorem y_step {a : xS} {r : Nat → Nat → Nat → Prop} (h : cX s T sg E p) (hp : p < E) (f : fr r s a) (h1 : ∀ k, ¬ r 1 0 k) (h2 : ∀ k, ¬ r 14 0 k) : ∃ t, ev (d + 1) f_Text_step [vR 1 0] a = some (none, t) ∧ cX t T sg E (p + 1) ∧ fr (fun c _ k => c = 1 ∧ k = 3) a t := by
  obtain ⟨e1, e2⟩ := c_stepX (d := d) (cX_fr h f h1 h2) hp
  exact ⟨_, e1, e2, fr_wI (fr_r _ _) ⟨rfl, rfl⟩⟩
theorem y_neg (h : yS s T sg E p out st b mk true) (hp : p < E) (hy : y ≤ p) (hc : sg p = 45) : ∃ t, Rule_reads_L1 (d + 3) 1 (nI y) s = Rule_reads_L1 (d + 3) 1 (nI (y + 1)) t ∧ yS t T sg E (p + 1) out (3000 :: st) b mk true ∧ fr pRc s t := by
  have h40 := h.2.2.2.2.2.2.2.2
  obtain ⟨a, a1, a2, a3⟩ := c_hold (d := d + 1) (x := 3000) h.2.1 (Or.inr (Or.inr rfl)) (by have := h.2.2.1; omega)
  have a1' : ev (d + 2) f_Rule_hold [vR 5 1, vI 256] s = some (none, a) := a1
  obtain ⟨t, t1, t2, t3⟩ := y_step (d := d + 1) h.1 hp a3 (by omega) (by omega)
  refine ⟨t, ?_, ⟨t2, yC_fr a2 t3 (by omega) (by omega) (by omega) (by omega), ?_, ?_, ?_, ?_, h.2.2.2.2.2.2⟩, fr_t (fr_m a3 (by unfold pRc; omega)) (fr_m t3 (by unfold pRc; omega))⟩
  · rw [y_tok h hp hy, if_neg (by decide), Rule_readsThing_eq, c_here h.1, bI_s, hr_p hp, hc, if_pos (by rfl), a1', bV_s, t1, bV_s, bI_s, if_neg (by decide)]
  · have := h.2.2.1
    show out.length + (st.length + 1) ≤ p + 1
    omega
  · rw [(t3 5 1 4 (by omega)).1, (a3 5 1 4 (by omega)).1]; exact h.2.2.2.1
  · rw [(t3 5 1 5 (by omega)).1, (a3 5 1 5 (by omega)).1]; exact h.2.2.2.2.1
  · rw [(t3 5 1 6 (by omega)).1, (a3 5 1 6 (by omega)).1]; exact h.2.2.2.2.2.1
theorem y_open (h : yS s T sg E p out st b mk true) (hp : p < E) (hy : y ≤ p) (hc : sg p = 40) (hb : b < 4) : ∃ t, Rule_reads_L1 (d + 4) 1 (nI y) s = Rule_reads_L1 (d + 4) 1 (nI (y + 1)) t ∧ yS t T sg E (p + 1) out (0 :: st) (b + 1) (setb mk (b + 1) false) true ∧ fr pRc s t := by
  have h40 := h.2.2.2.2.2.2.2.2
  have hmk := h.2.2.2.2.2.2.2.1
  obtain ⟨e, ee⟩ : ∃ e, wI (wI s 5 1 4 (nI (b + 1))) 5 1 5 (nI (setb mk (b + 1) false)) = e := ⟨_, rfl⟩
  have fe : fr (fun c i k => c = 5 ∧ i = 1 ∧ (k = 4 ∨ k = 5)) s e := by rw [← ee]; exact fr_wI (fr_wI (fr_r _ _) (by omega)) (by omega)
  obtain ⟨a, a1, a2, a3⟩ := c_hold (d := d + 1) (x := 0) (yC_fr h.2.1 fe (by omega) (by omega) (by omega) (by omega)) (Or.inl rfl) (by have := h.2.2.1; omega)
  have a1' : ev (d + 2) f_Rule_hold [vR 5 1, vI 40] e = some (none, a) := a1
  obtain ⟨t, t1, t2, t3⟩ := y_step (d := d + 1) (cX_fr h.1 fe (by omega) (by omega)) hp a3 (by omega) (by omega)
  have hsl : setb mk (b + 1) false < 32 := setb_lt (n := 5) hmk (by omega)
  refine ⟨t, ?_, ⟨t2, yC_fr a2 t3 (by omega) (by omega) (by omega) (by omega), ?_, ?_, ?_, ?_, by omega, hsl, h40⟩, fr_t (fr_m fe (by unfold pRc; omega)) (fr_t (fr_m a3 (by unfold pRc; omega)) (fr_m t3 (by unfold pRc; omega)))⟩
  · have hne : ¬ (nI 40 : Int32) = 45 := by decide
    have e0 : (wI s 5 1 4 (nI (b + 1))).1 5 1 4 = nI (b + 1) := wI_s1 _ _ _ _ _
    rw [y_tok h hp hy, if_neg (by decide), Rule_readsThing_eq, c_here h.1, bI_s, hr_p hp, hc, if_neg hne, if_pos (by rfl), Rule_opensBracket_eq, h.2.2.2.1, if_pos (show nI b < 4 from of_eq_true (lt_t (b := 4) hb (by omega))), nI_1, e0, h.2.2.2.2.1, mk_f hmk (by omega), ee, a1', bV_s, t1, bV_s, bI_s, show x_nb (x_nb 1) = 1 by decide, bI_s, if_neg (by decide)]
  · have := h.2.2.1
    show out.length + (st.length + 1) ≤ p + 1
    omega
  · rw [(t3 5 1 4 (by omega)).1, (a3 5 1 4 (by omega)).1, ← ee, wI_nk (by omega), wI_s1]
  · rw [(t3 5 1 5 (by omega)).1, (a3 5 1 5 (by omega)).1, ← ee, wI_s1]
  · rw [(t3 5 1 6 (by omega)).1, (a3 5 1 6 (by omega)).1, (fe 5 1 6 (by omega)).1]; exact h.2.2.2.2.2.1
end RULEC

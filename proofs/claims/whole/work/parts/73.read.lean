/-! Reading a text: the class's cursor and the law's. -/
section READ
variable {d : Nat} {T E p : Nat} {sg : Nat → Nat} {s t : xS}
def cX (s : xS) (T : Nat) (sg : Nat → Nat) (E p : Nat) : Prop := cT s T sg ∧ s.1 1 0 2 = nI E ∧ s.1 1 0 3 = nI p ∧ tOk T sg ∧ E ≤ T ∧ p ≤ E
def rX (s : xS) (sg : Nat → Nat) (E p : Nat) : Prop := s.1 13 0 12 = nI p ∧ s.1 13 0 13 = nI E ∧ (∀ k, k < E → s.1 44 0 k = nI (sg k)) ∧ E ≤ 80 ∧ p ≤ E ∧ ∀ k, k < E → sg k < 256
theorem cX_fr {r : Nat → Nat → Nat → Prop} (h : cX s T sg E p) (f : fr r s t) (h1 : ∀ k, ¬ r 1 0 k) (h2 : ∀ k, ¬ r 14 0 k) : cX t T sg E p :=
  ⟨cT_fr h.1 f (h1 _) h2, by rw [(f _ _ _ (h1 _)).1]; exact h.2.1, by rw [(f _ _ _ (h1 _)).1]; exact h.2.2.1, h.2.2.2⟩
theorem rX_fr {r : Nat → Nat → Nat → Prop} (h : rX s sg E p) (f : fr r s t) (h1 : ¬ r 13 0 12) (h2 : ¬ r 13 0 13) (h3 : ∀ k, ¬ r 44 0 k) : rX t sg E p :=
  ⟨by rw [(f _ _ _ h1).1]; exact h.1, by rw [(f _ _ _ h2).1]; exact h.2.1, fun k hk => by rw [(f _ _ _ (h3 _)).1]; exact h.2.2.1 k hk, h.2.2.2⟩
def hrI (sg : Nat → Nat) (E p : Nat) : Int32 := if p < E then nI (sg p) else -1
theorem c_here (h : cX s T sg E p) : ev (d + 1) f_Text_here [vR 1 0] s = some (some (vI (hrI sg E p)), s) := by
  obtain ⟨⟨h1, h2⟩, h3, h4, ⟨h5, h6⟩, h7, h8⟩ := h
  unfold hrI
  rw [Text_here_eq, h4, h3]
  by_cases e : p < E
  · rw [if_pos (of_eq_true (lt_t e (by omega))), in_t (show p < 80 by omega) (by omega), if_pos rfl, n_cl (by omega), h2 p (by omega), if_pos e]
  · rw [if_neg (of_eq_false (lt_f (by omega) (by omega))), if_neg e]
theorem c_stepX (h : cX s T sg E p) (hp : p < E) : ev (d + 1) f_Text_step [vR 1 0] s = some (none, wI s 1 0 3 (nI (p + 1))) ∧ cX (wI s 1 0 3 (nI (p + 1))) T sg E (p + 1) := by
  obtain ⟨⟨h1, h2⟩, h3, h4, ⟨h5, h6⟩, h7, h8⟩ := h
  refine ⟨?_, ⟨by rw [wI_nk (by omega)]; exact h1, fun k hk => by rw [wI_nc (by omega)]; exact h2 k hk⟩, by rw [wI_nk (by omega)]; exact h3, wI_s1 _ _ _ _ _, ⟨h5, h6⟩, h7, by omega⟩
  rw [Text_step_eq, h4, h3, if_pos (of_eq_true (lt_t hp (by omega))), nI_1]
def dgt (sg : Nat → Nat) (E p lo hi : Nat) : Option Nat := if p < E ∧ 48 + lo ≤ sg p ∧ sg p ≤ 48 + hi then some (sg p - 48) else none
theorem dgt_chk : ((List.range 256).all fun c => (List.range 3).all fun lo => (List.range 10).all fun hi => decide ((if nI c - 48 < nI lo then (-1 : Int32) else if nI hi < nI c - 48 then -1 else nI c - 48) = oI (if 48 + lo ≤ c ∧ c ≤ 48 + hi then some (c - 48) else none)) && ((decide (nI lo ≤ nI c - 48) && decide (nI c - 48 ≤ nI hi)) == decide (48 + lo ≤ c ∧ c ≤ 48 + hi))) = true := by decide +kernel
theorem c_digitX {lo hi : Nat} (hl : lo < 3) (hh : hi < 10) (h : cX s T sg E p) : ev (d + 2) f_Text_digitHere [vR 1 0, vI (nI lo), vI (nI hi)] s = some (some (vI (oI (dgt sg E p lo hi))), s) := by
  have h6 := h.2.2.2.1.2
  have h7 := h.2.2.2.2.1
  rw [Text_digitHere_eq, c_here h, bI_s]
  unfold hrI dgt
  by_cases e : p < E
  · have hc := all_r (all_r (all_r dgt_chk (h6 p (by omega))) hl) hh
    rw [Bool.and_eq_true, decide_eq_true_eq] at hc
    have hc1 := hc.1
    rw [if_pos e]
    have e1 : (if p < E ∧ 48 + lo ≤ sg p ∧ sg p ≤ 48 + hi then some (sg p - 48) else none) = if 48 + lo ≤ sg p ∧ sg p ≤ 48 + hi then some (sg p - 48) else none := by
      by_cases z : 48 + lo ≤ sg p ∧ sg p ≤ 48 + hi
      · rw [if_pos z, if_pos ⟨e, z⟩]
      · rw [if_neg z, if_neg (fun y => z y.2)]
    rw [e1, ← hc1]
    by_cases z : nI (sg p) - 48 < nI lo
    · rw [if_pos z, if_pos z]
    · rw [if_neg z, if_neg z]
      by_cases y : nI hi < nI (sg p) - 48
      · rw [if_pos y, if_pos y]
      · rw [if_neg y, if_neg y]
  · have hz : (-1 : Int32) - 48 < nI lo := by
      rcases (by omega : lo = 0 ∨ lo = 1 ∨ lo = 2) with rfl | rfl | rfl <;> decide
    rw [if_neg e, if_pos hz, if_neg (fun y => e y.1)]; rfl
theorem c_takeX {lo hi : Nat} (hl : lo < 3) (hh : hi < 10) (h : cX s T sg E p) : ev (d + 3) f_Text_takeDigit [vR 1 0, vI (nI lo), vI (nI hi)] s = some (some (vI (oI (dgt sg E p lo hi))), if dgt sg E p lo hi = none then s else wI s 1 0 3 (nI (p + 1))) := by
  rw [Text_takeDigit_eq, c_digitX hl hh h, bI_s]
  cases hd : dgt sg E p lo hi with
  | none => rw [oI_n, if_pos rfl, if_pos rfl]
  | some v =>
    have hp : p < E ∧ v < 256 := by
      unfold dgt at hd
      by_cases z : p < E ∧ 48 + lo ≤ sg p ∧ sg p ≤ 48 + hi
      · rw [if_pos z] at hd
        cases hd
        exact ⟨z.1, by omega⟩
      · rw [if_neg z] at hd; cases hd
    rw [oI_s, if_neg (m1_nn (by omega)), (c_stepX h hp.1).1, bV_s, if_neg (by intro z; cases z)]
theorem m_digitX {lo hi : Nat} (hl : lo < 3) (hh : hi < 10) (h : rX s sg E p) : ev (d + 3) f_Ref_digitIn [vR 13 0, vI (nI lo), vI (nI hi)] s = some (some (vI (oI (dgt sg E p lo hi))), if dgt sg E p lo hi = none then s else wI s 13 0 12 (nI (p + 1))) := by
  obtain ⟨h1, h2, h3, h4, h5, h6⟩ := h
  rw [Ref_digitIn_eq, h1, h2]
  by_cases e : p < E
  · have hc := all_r (all_r (all_r dgt_chk (h6 p e)) hl) hh
    rw [Bool.and_eq_true, beq_iff_eq] at hc
    have hc2 := hc.2
    have hin : (decide ((nI lo).toInt64 ≤ (nI (sg p) - 48).toInt64) && decide ((nI (sg p) - 48).toInt64 ≤ (nI hi).toInt64)) = decide (48 + lo ≤ sg p ∧ sg p ≤ 48 + hi) := by
      rw [← hc2, decide_eq_decide.mpr (fa_wide_le _ _), decide_eq_decide.mpr (fa_wide_le _ _)]
    rw [if_pos (of_eq_true (lt_t e (by omega))), in_t (show p < 80 by omega) (by omega), if_pos rfl, n_cl (by omega), h3 p e, m_in, hin, bI_s]
    by_cases z : 48 + lo ≤ sg p ∧ sg p ≤ 48 + hi
    · have hd : dgt sg E p lo hi = some (sg p - 48) := if_pos ⟨e, z⟩
      rw [decide_eq_true z, if_neg (by decide), h1, nI_1, show (1 : Int32) = nI 1 from rfl, n_sub (by omega), Nat.add_sub_cancel, in_t (show p < 80 by omega) (by omega), if_pos rfl, n_cl (by omega), h3 p e, hd, oI_s, nl_48, n_sub (by omega), if_neg (by intro y; cases y)]
    · have hd : dgt sg E p lo hi = none := if_neg (fun y => z y.2)
      rw [decide_eq_false z, if_pos (by decide), hd, if_pos rfl, oI_n]
  · have hd : dgt sg E p lo hi = none := if_neg (fun y => e y.1)
    rw [if_neg (of_eq_false (lt_f (by omega) (by omega))), hd, if_pos rfl, oI_n]
/-- a field's kind by its sign -/
def kdS (c : Nat) : Option Nat := if c = 46 then some 0 else if c = 35 then some 1 else if 97 ≤ c ∧ c ≤ 102 then some (c - 87) else if 48 ≤ c ∧ c ≤ 51 then some (c - 28) else none
def kdI (x : Int32) : Int32 := if x = 46 then 0 else if x = 35 then 1 else if x < 97 then (if x < 48 then -1 else if 51 < x then -1 else 20 + x - 48) else if 102 < x then (if x < 48 then -1 else if 51 < x then -1 else 20 + x - 48) else 10 + x - 97
theorem kd_chk : ((List.range 256).all fun c => decide (kdI (nI c) = oI (kdS c))) = true := by decide +kernel
theorem c_kdI (x : Int32) : ev (d + 1) f_Garden_kindBySign [vI x] s = some (some (vI (kdI x)), s) := by
  have hJ : Garden_kindBySign_J1 d x s = some (some (vI (if x < 48 then -1 else if 51 < x then -1 else 20 + x - 48)), s) := by
    rw [Garden_kindBySign_J1_eq]
    by_cases a : x < 48
    · rw [if_pos a, if_pos a]
    · rw [if_neg a, if_neg a]
      by_cases b : 51 < x
      · rw [if_pos b, if_pos b]
      · rw [if_neg b, if_neg b]
  rw [Garden_kindBySign_eq, hJ]
  unfold kdI
  exact if_v rfl (if_v rfl (if_v rfl (if_v rfl rfl)))
def kdH (sg : Nat → Nat) (E p : Nat) : Option Nat := if p < E then kdS (sg p) else none
theorem c_kindX (h : cX s T sg E p) : ev (d + 1) f_Garden_kindBySign [vI (hrI sg E p)] s = some (some (vI (oI (kdH sg E p))), s) := by
  have h6 := h.2.2.2.1.2
  have h7 := h.2.2.2.2.1
  rw [c_kdI]
  unfold hrI kdH
  by_cases e : p < E
  · rw [if_pos e, if_pos e, of_decide_eq_true (all_r kd_chk (h6 p (by omega)))]
  · rw [if_neg e, if_neg e]; rfl
/-- the law's strings -/
def strL (j : Nat) : List Nat := match j with
  | 0 => [46, 35, 97, 98, 99, 100, 101, 102, 48, 49, 50, 51]
  | 1 => [100, 115, 118, 104, 107, 105, 110]
  | 2 => [60, 62, 61]
  | 3 => [43, 45]
  | 4 => [42, 47]
  | _ => [110, 108, 99, 112, 116, 102]
theorem str_chk : ((List.range 6).all fun j => decide (x_slen j = some (nI (strL j).length)) && ((List.range (strL j).length).all fun k => decide (x_chr j k = some (nI ((strL j).getD k 0))))) = true := by decide +kernel
theorem str_le : ((List.range 6).all fun j => decide ((strL j).length ≤ 12) && ((List.range (strL j).length).all fun k => decide ((strL j).getD k 0 < 128))) = true := by decide
theorem b_len {j : Nat} (hj : j < 6) : ev (d + 8) 1003 [vR 900 j] s = some (some (vI (nI (strL j).length)), s) := by
  have h := all_r str_chk hj
  rw [Bool.and_eq_true, decide_eq_true_eq] at h
  refine x_bg_some.mpr ⟨by omega, ?_⟩
  show (match x_slen j with | some n => some (some (vI n), s) | none => none) = _
  rw [h.1]
theorem b_chr {j k : Nat} (hj : j < 6) (hk : k < (strL j).length) : ev (d + 8) 1004 [vR 900 j, vI (nI k)] s = some (some (vI (nI ((strL j).getD k 0))), s) := by
  have h := all_r str_chk hj
  rw [Bool.and_eq_true] at h
  have h2 := of_decide_eq_true (all_r h.2 hk)
  have h3 := all_r str_le hj
  rw [Bool.and_eq_true, decide_eq_true_eq] at h3
  refine x_bg_some.mpr ⟨by omega, ?_⟩
  show (if nI k < 0 then none else match x_chr j (nI k).toNatClampNeg with | some x => some (some (vI x), s) | none => none) = _
  rw [if_neg (nI_pos (by omega)), n_cl (by omega), h2]
/-- the place of the sign here in a string -/
def fxS (sg : Nat → Nat) (E p j : Nat) : Option Nat := if p < E then fst (fun k => decide ((strL j).getD k 0 = sg p)) (strL j).length else none
theorem m_takesOf {j : Nat} (hj : j < 6) (h : rX s sg E p) : ev (d + 9) f_Ref_takesOf [vR 13 0, vR 900 j] s = some (some (vI (oI (fxS sg E p j))), if fxS sg E p j = none then s else wI s 13 0 12 (nI (p + 1))) := by
  obtain ⟨h1, h2, h3, h4, h5, h6⟩ := h
  have hs := all_r str_le hj
  rw [Bool.and_eq_true, decide_eq_true_eq] at hs
  have hlen := hs.1
  rw [Ref_takesOf_eq]
  by_cases e : p < E
  · have hf : fxS sg E p j = fst (fun k => decide ((strL j).getD k 0 = sg p)) (strL j).length := if_pos e
    rw [hf]
    have fS : ∀ m k, k ≤ m → ∀ i, fst (fun k => decide ((strL j).getD k 0 = sg p)) k = some i → fst (fun k => decide ((strL j).getD k 0 = sg p)) m = some i := by
      intro m
      induction m with
      | zero => intro k hk i hi; rw [Nat.le_zero.mp hk] at hi; exact hi
      | succ m ih =>
        intro k hk i hi
        by_cases z : k = m + 1
        · rw [z] at hi; exact hi
        · have := ih k (by omega) i hi
          unfold fst
          rw [this]
    refine chainQ (σ := Unit) (strL j).length (fun k _ => Ref_takesOf_L1 (d + 8) j (nI k) s) (fun k _ => fst (fun k => decide ((strL j).getD k 0 = sg p)) k = none) (fun r => r = some (some (vI (oI (fst (fun k => decide ((strL j).getD k 0 = sg p)) (strL j).length))), if fst (fun k => decide ((strL j).getD k 0 = sg p)) (strL j).length = none then s else wI s 13 0 12 (nI (p + 1)))) ?_ ?_ (strL j).length 0 () (by omega) rfl
    · intro _ hr
      show Ref_takesOf_L1 (d + 8) j (nI (strL j).length) s = _
      rw [Ref_takesOf_L1_eq, b_len hj, bI_s, if_neg (of_eq_false (lt_f (Nat.le_refl _) (by omega))), hr, if_pos rfl, oI_n]
    · intro k _ hk hr
      show Ref_takesOf_L1 (d + 8) j (nI k) s = _ ∨ ∃ b : Unit, Ref_takesOf_L1 (d + 8) j (nI k) s = Ref_takesOf_L1 (d + 8) j (nI (k + 1)) s ∧ _
      have hc := of_decide_eq_true (all_r hs.2 hk)
      have hsp := h6 p e
      rw [Ref_takesOf_L1_eq, b_len hj, bI_s, if_pos (of_eq_true (lt_t hk (by omega))), h1, h2, if_pos (of_eq_true (lt_t e (by omega))), b_chr hj hk, bI_s, h1, in_t (show p < 80 by omega) (by omega), if_pos rfl, n_cl (by omega), h3 p e]
      have hst : fst (fun k => decide ((strL j).getD k 0 = sg p)) (k + 1) = bif decide ((strL j).getD k 0 = sg p) then some k else none := by
        show (match fst (fun k => decide ((strL j).getD k 0 = sg p)) k with | some k => some k | none => bif decide ((strL j).getD k 0 = sg p) then some k else none) = _
        rw [hr]
      by_cases z : (strL j).getD k 0 = sg p
      · left
        rw [decide_eq_true z] at hst
        rw [if_pos (of_eq_true (eq_t z)), nI_1, fS _ (k + 1) hk k hst, oI_s, if_neg (by intro y; cases y)]
      · right
        rw [decide_eq_false z] at hst
        rw [if_neg (of_eq_false (eq_f z (by omega) (by omega))), nI_1]
        exact ⟨(), rfl, hst⟩
  · have hf : fxS sg E p j = none := if_neg e
    have h0 : 0 < (strL j).length := by
      rcases (by omega : j = 0 ∨ j = 1 ∨ j = 2 ∨ j = 3 ∨ j = 4 ∨ j = 5) with rfl | rfl | rfl | rfl | rfl | rfl <;> decide
    have hl0 : (0 : Int32) < nI (strL j).length := of_eq_true (lt_t (a := 0) h0 (by omega))
    rw [hf, if_pos rfl, oI_n, Ref_takesOf_L1_eq, b_len hj, bI_s, if_pos hl0, h1, h2, if_neg (of_eq_false (lt_f (by omega) (by omega)))]
/-- the kind by its place among the signs of kinds -/
def kdP (i : Nat) : Nat := if i < 2 then i else if i < 8 then 8 + i else 12 + i
theorem kdP_chk : ((List.range 256).all fun c => decide (Option.map kdP (fst (fun k => decide ((strL 0).getD k 0 = c)) 12) = kdS c)) = true := by decide +kernel
end READ

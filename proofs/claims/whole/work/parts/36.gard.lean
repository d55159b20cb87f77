/-! Gardens: what both sides take them for; the class's side. -/
section GARD
def bes (R C f w : Nat) : Option Nat :=
  if w = 0 then (if f / C = 0 then none else some (f - C))
  else if w = 1 then (if f % C + 1 = C then none else some (f + 1))
  else if w = 2 then (if f / C + 1 = R then none else some (f + C))
  else (if f % C = 0 then none else some (f - 1))
def nxt (R C : Nat) (kd : Nat → Nat) (f w : Nat) : Option Nat := match bes R C f w with
  | none => none
  | some g => if kd g = 1 then none else some g
def sgt (kd : Nat → Nat) (f : Nat) : Option Nat := if 10 ≤ kd f ∧ kd f < 20 then some (kd f - 10) else none
def slo (kd : Nat → Nat) (f : Nat) : Option Nat := if 20 ≤ kd f then some (kd f - 20) else none
def rto (R C : Nat) (kd : Nat → Nat) (f : Nat) : Option Nat := match slo kd f with
  | none => none
  | some w => nxt R C kd f w
/-- gardens that can be -/
def gOk (R C : Nat) (kd : Nat → Nat) : Prop := 2 ≤ R ∧ R ≤ 6 ∧ 2 ≤ C ∧ C ≤ 6 ∧ ∀ f, f < R * C → kd f < 2 ∨ (10 ≤ kd f ∧ kd f < 16) ∨ (20 ≤ kd f ∧ kd f < 24)
theorem rc36 {R C : Nat} (h1 : R ≤ 6) (h2 : C ≤ 6) : R * C ≤ 36 := Nat.mul_le_mul h1 h2
theorem gOk_36 {R C : Nat} {kd : Nat → Nat} (h : gOk R C kd) : R * C ≤ 36 := rc36 h.2.1 h.2.2.2.1
theorem gOk_kd {R C : Nat} {kd : Nat → Nat} (h : gOk R C kd) {f : Nat} (hf : f < R * C) : kd f < 24 := by
  have := h.2.2.2.2 f hf; omega
theorem all_r {n : Nat} {p : Nat → Bool} (h : (List.range n).all p = true) {k : Nat} (hk : k < n) : p k = true := List.all_eq_true.mp h k (List.mem_range.mpr hk)
def bes_chk (R C f w : Nat) : Bool := !(decide (2 ≤ R) && decide (2 ≤ C) && decide (f < R * C)) || (match bes R C f w with
  | none => true
  | some g => decide (g < R * C))
theorem bes_chk_t : ((List.range 7).all fun R => (List.range 7).all fun C => (List.range 36).all fun f => (List.range 4).all fun w => bes_chk R C f w) = true := by decide +kernel
theorem bes_lt {R C f w g : Nat} (a1 : 2 ≤ R) (h1 : R ≤ 6) (a2 : 2 ≤ C) (h2 : C ≤ 6) (hf : f < R * C) (hw : w < 4) (h : bes R C f w = some g) : g < R * C := by
  have := rc36 h1 h2
  have q := all_r (all_r (all_r (all_r bes_chk_t (show R < 7 by omega)) (show C < 7 by omega)) (show f < 36 by omega)) hw
  unfold bes_chk at q
  rw [decide_eq_true a1, decide_eq_true a2, decide_eq_true hf, h] at q
  exact of_decide_eq_true q
theorem nxt_lt {R C f w g : Nat} {kd : Nat → Nat} (hG : gOk R C kd) (hf : f < R * C) (hw : w < 4) (h : nxt R C kd f w = some g) : g < R * C ∧ kd g ≠ 1 := by
  unfold nxt at h
  split at h
  · cases h
  · next g' e =>
    split at h
    · cases h
    · next n => cases h; exact ⟨bes_lt hG.1 hG.2.1 hG.2.2.1 hG.2.2.2.1 hf hw e, n⟩
theorem slo_lt {R C f w : Nat} {kd : Nat → Nat} (hG : gOk R C kd) (hf : f < R * C) (h : slo kd f = some w) : w < 4 := by
  have := gOk_kd hG hf
  unfold slo at h
  split at h <;> cases h; omega
theorem sgt_lt {R C f g : Nat} {kd : Nat → Nat} (hG : gOk R C kd) (hf : f < R * C) (h : sgt kd f = some g) : g < 6 := by
  have := hG.2.2.2.2 f hf
  unfold sgt at h
  split at h <;> cases h; omega
theorem rto_lt {R C f g : Nat} {kd : Nat → Nat} (hG : gOk R C kd) (hf : f < R * C) (h : rto R C kd f = some g) : g < R * C ∧ kd g ≠ 1 := by
  unfold rto at h
  split at h
  · cases h
  · next w e => exact nxt_lt hG hf (slo_lt hG hf e) h
/-- the class's gardens -/
def cG (s : xS) (R C : Nat) (kd : Nat → Nat) : Prop := gOk R C kd ∧ s.1 2 0 2 = nI R ∧ s.1 2 0 3 = nI C ∧ s.1 2 0 4 = nI (R * C) ∧ (∀ f, f < R * C → s.1 15 0 f = nI (kd f)) ∧ (∀ f, f < R * C → ∀ w, w < 4 → s.1 16 0 (4 * f + w) = oI (nxt R C kd f w))
theorem cG_fr {p : Nat → Nat → Nat → Prop} {s t : xS} {R C : Nat} {kd : Nat → Nat} (h : cG s R C kd) (g : fr p s t) (h2 : ∀ k, ¬ p 2 0 k) (h15 : ∀ k, ¬ p 15 0 k) (h16 : ∀ k, ¬ p 16 0 k) : cG t R C kd :=
  ⟨h.1, by rw [(g _ _ _ (h2 _)).1]; exact h.2.1, by rw [(g _ _ _ (h2 _)).1]; exact h.2.2.1, by rw [(g _ _ _ (h2 _)).1]; exact h.2.2.2.1,
   fun f hf => by rw [(g _ _ _ (h15 _)).1]; exact h.2.2.2.2.1 f hf, fun f hf w hw => by rw [(g _ _ _ (h16 _)).1]; exact h.2.2.2.2.2 f hf w hw⟩
variable {d R C f w : Nat} {kd : Nat → Nat} {s : xS} {x y : Int32}
theorem g_has (hG : cG s R C kd) : ev (d + 1) f_Garden_has [vR 2 0, vI x] s = some (some (vI (ib (x_in x (R * C)))), s) := by
  have b := gOk_36 hG.1
  rw [Garden_has_eq, hG.2.2.2.1, n_in2 x (by omega), nb_0, nb_1]
  by_cases h : x < 0
  · simp [h]
  · by_cases h2 : x < nI (R * C) <;> simp [h, h2]
theorem g_kindOf (hG : cG s R C kd) (hf : f < R * C) : ev (d + 1) f_Garden_kindOf [vR 2 0, vI (nI f)] s = some (some (vI (nI (kd f))), s) := by
  have b := gOk_36 hG.1
  rw [Garden_kindOf_eq, hG.2.2.2.1]
  simp (disch := omega) only [nl_0, lt_f, lt_t, in_t, n_cl, hG.2.2.2.2.1 f hf, ↓reduceIte]
theorem g_kindOf_n : ev (d + 1) f_Garden_kindOf [vR 2 0, vI (-1)] s = some (some (vI (nI 1)), s) := by
  rw [Garden_kindOf_eq, if_pos (by decide)]; rfl
theorem g_isWall (hG : cG s R C kd) (hf : f < R * C) : ev (d + 2) f_Garden_isWall [vR 2 0, vI (nI f)] s = some (some (vI (ib (decide (kd f = 1)))), s) := by
  have b := gOk_kd hG.1 hf
  rw [Garden_isWall_eq, g_kindOf hG hf, bI_s, nb_0, nb_1, nl_1]
  by_cases h : kd f = 1
  · simp (disch := omega) only [eq_t, ↓reduceIte, h, decide_true]
  · simp (disch := omega) only [eq_f, ↓reduceIte, h, decide_false]
theorem g_isWall_n : ev (d + 2) f_Garden_isWall [vR 2 0, vI (-1)] s = some (some (vI (ib true)), s) := by
  rw [Garden_isWall_eq, g_kindOf_n, bI_s, if_pos (by decide), nb_1]
theorem g_sightOn (hG : cG s R C kd) (hf : f < R * C) : ev (d + 2) f_Garden_sightOn [vR 2 0, vI (nI f)] s = some (some (vI (oI (sgt kd f))), s) := by
  have b := gOk_kd hG.1 hf
  rw [Garden_sightOn_eq, g_kindOf hG hf, bI_s, nl_10, nl_20]
  unfold sgt
  by_cases h : kd f < 10
  · simp (disch := omega) only [lt_t, ↓reduceIte, if_neg (show ¬ (10 ≤ kd f ∧ kd f < 20) by omega)]; rfl
  · by_cases h2 : kd f < 20
    · simp (disch := omega) only [lt_t, lt_f, ↓reduceIte, if_pos (show (10 ≤ kd f ∧ kd f < 20) by omega), n_sub, oI_s]
    · simp (disch := omega) only [lt_t, lt_f, ↓reduceIte, if_neg (show ¬ (10 ≤ kd f ∧ kd f < 20) by omega)]; rfl
theorem g_sightOn_n : ev (d + 2) f_Garden_sightOn [vR 2 0, vI (-1)] s = some (some (vI (-1)), s) := by
  rw [Garden_sightOn_eq, g_kindOf_n, bI_s, if_pos (by decide)]
theorem g_slopeOn (hG : cG s R C kd) (hf : f < R * C) : ev (d + 2) f_Garden_slopeOn [vR 2 0, vI (nI f)] s = some (some (vI (oI (slo kd f))), s) := by
  have b := gOk_kd hG.1 hf
  rw [Garden_slopeOn_eq, g_kindOf hG hf, bI_s, nl_20]
  unfold slo
  by_cases h : kd f < 20
  · simp (disch := omega) only [lt_t, ↓reduceIte, if_neg (show ¬ (20 ≤ kd f) by omega)]; rfl
  · simp (disch := omega) only [lt_t, lt_f, ↓reduceIte, if_pos (show (20 ≤ kd f) by omega), n_sub, oI_s]
theorem g_slopeOn_n : ev (d + 2) f_Garden_slopeOn [vR 2 0, vI (-1)] s = some (some (vI (-1)), s) := by
  rw [Garden_slopeOn_eq, g_kindOf_n, bI_s, if_pos (by decide)]
theorem g_next (hG : cG s R C kd) (hf : f < R * C) (hw : w < 4) : ev (d + 1) f_Garden_next [vR 2 0, vI (nI f), vI (nI w)] s = some (some (vI (oI (nxt R C kd f w))), s) := by
  have b := gOk_36 hG.1
  rw [Garden_next_eq, hG.2.2.2.1]
  simp (disch := omega) only [nl_0, nl_4, pk_mul, nI_add, lt_f, lt_t, in_t, n_cl, hG.2.2.2.2.2 f hf w hw, ↓reduceIte]
theorem g_next_n : ev (d + 1) f_Garden_next [vR 2 0, vI (-1), vI y] s = some (some (vI (-1)), s) := by
  rw [Garden_next_eq, if_pos (by decide)]
theorem g_next_w (hG : cG s R C kd) (hf : f < R * C) : ev (d + 1) f_Garden_next [vR 2 0, vI (nI f), vI (-1)] s = some (some (vI (-1)), s) := by
  have b := gOk_36 hG.1
  rw [Garden_next_eq, hG.2.2.2.1]
  simp (disch := omega) only [nl_0, lt_f, lt_t, ↓reduceIte, m1_lt]
theorem g_nexts (hG : cG s R C kd) (hf : f < R * C) : ev (d + 1) f_Garden_next [vR 2 0, vI (nI f), vI (oI (slo kd f))] s = some (some (vI (oI (rto R C kd f))), s) := by
  unfold rto
  cases h : slo kd f with
  | none => exact g_next_w hG hf
  | some w => exact g_next hG hf (slo_lt hG.1 hf h)
theorem g_at (hG : cG s R C kd) {r c : Nat} : ev (d + 1) f_Garden_at [vR 2 0, vI (nI r), vI (nI c)] s = some (some (vI (nI (r * C + c))), s) := by
  rw [Garden_at_eq, hG.2.2.1, pk_mul, nI_add]
theorem g_rowOf (hG : cG s R C kd) (hf : f < R * C) : ev (d + 1) f_Garden_rowOf [vR 2 0, vI (nI f)] s = some (some (vI (nI (f / C))), s) := by
  have b := gOk_36 hG.1
  have c := hG.1.2.2
  rw [Garden_rowOf_eq, hG.2.2.1]
  simp (disch := omega) only [nl_0, lt_t, eq_f, n_div, ↓reduceIte]
theorem g_columnOf (hG : cG s R C kd) (hf : f < R * C) : ev (d + 1) f_Garden_columnOf [vR 2 0, vI (nI f)] s = some (some (vI (nI (f % C))), s) := by
  have b := gOk_36 hG.1
  have c := hG.1.2.2
  rw [Garden_columnOf_eq, hG.2.2.1]
  simp (disch := omega) only [nl_0, lt_t, eq_f, n_rem, ↓reduceIte]
/-- how many fields are no wall -/
theorem g_countOpen (hG : cG s R C kd) : ev (d + 3) f_Garden_countOpen [vR 2 0] s = some (some (vI (nI (cnt (fun f => !decide (kd f = 1)) (R * C)))), s) := by
  have b := gOk_36 hG.1
  rw [Garden_countOpen_eq]
  refine (chain (R * C) (fun k => Garden_countOpen_L1 (d + 2) (nI (cnt (fun f => !decide (kd f = 1)) k)) (nI k) s) ?_).trans ?_
  · intro k hk
    show Garden_countOpen_L1 _ _ _ _ = _
    rw [Garden_countOpen_L1_eq, hG.2.2.2.1, if_pos (of_eq_true (lt_t hk (by omega))), g_isWall hG hk, bI_s]
    by_cases h : kd k = 1
    · simp only [h, decide_true, ib, cond_true, cnt, Bool.not_true, cond_false, Nat.add_zero, nI_1, nl_0, n_add0]; rw [if_neg (by decide)]
    · simp only [h, decide_false, ib, cond_false, cnt, Bool.not_false, cond_true, nI_1, ↓reduceIte]
  · show Garden_countOpen_L1 _ _ _ _ = _
    rw [Garden_countOpen_L1_eq, hG.2.2.2.1, if_neg (of_eq_false (lt_f (Nat.le_refl _) (by omega)))]
end GARD

/-! Outings, the class's side. -/
section OUT
/-- prams that can be in gardens -/
def oOk (R C : Nat) (kd : Nat → Nat) (n : Nat) (F W V : Nat → Nat) (lo : Nat) : Prop := n ≤ 4 ∧ lo < 2 ^ n ∧ (∀ p, p < n → F p < R * C ∧ kd (F p) ≠ 1 ∧ W p < 4 ∧ V p < 64) ∧ (∀ p, n ≤ p → p < 4 → V p = 0)
def cO (s : xS) (i n : Nat) (F W V : Nat → Nat) (lo : Nat) (M : Int32) : Prop := s.1 3 i 3 = nI n ∧ s.1 3 i 4 = nI lo ∧ s.1 3 i 5 = M ∧ ∀ p, p < n → s.1 17 i p = nI (F p) ∧ s.1 18 i p = nI (W p) ∧ s.1 19 i p = nI (V p)
theorem cO_fr {p : Nat → Nat → Nat → Prop} {s t : xS} {i n : Nat} {F W V : Nat → Nat} {lo : Nat} {M : Int32} (h : cO s i n F W V lo M) (g : fr p s t) (h3 : ∀ k, ¬ p 3 i k) (h17 : ∀ k, ¬ p 17 i k) (h18 : ∀ k, ¬ p 18 i k) (h19 : ∀ k, ¬ p 19 i k) : cO t i n F W V lo M :=
  ⟨by rw [(g _ _ _ (h3 _)).1]; exact h.1, by rw [(g _ _ _ (h3 _)).1]; exact h.2.1, by rw [(g _ _ _ (h3 _)).1]; exact h.2.2.1, fun q hq => by
    rw [(g _ _ _ (h17 _)).1, (g _ _ _ (h18 _)).1, (g _ _ _ (h19 _)).1]; exact h.2.2.2 q hq⟩
theorem lo_16 {n lo : Nat} (hn : n ≤ 4) (h : lo < 2 ^ n) : lo < 16 := Nat.lt_of_lt_of_le h (Nat.pow_le_pow_right (by omega) hn)
variable {d i n lo p q f w v R C : Nat} {F W V : Nat → Nat} {kd : Nat → Nat} {M : Int32} {s : xS} {x y : Int32}
theorem o_has (hO : cO s i n F W V lo M) (hn : n ≤ 4) : ev (d + 1) f_Outing_has [vR 3 i, vI x] s = some (some (vI (ib (x_in x n))), s) := out_has hO.1 hn
theorem o_has_t (hO : cO s i n F W V lo M) (hn : n ≤ 4) (hp : p < n) : ev (d + 1) f_Outing_has [vR 3 i, vI (nI p)] s = some (some (vI (ib true)), s) := by
  rw [o_has hO hn, in_t hp (by omega)]
theorem o_fieldOf (hO : cO s i n F W V lo M) (hn : n ≤ 4) (hp : p < n) : ev (d + 2) f_Outing_fieldOf [vR 3 i, vI (nI p)] s = some (some (vI (nI (F p))), s) := by
  rw [Outing_fieldOf_eq, o_has_t hO hn hp, bI_s, if_neg (by decide), in_t (show p < 4 by omega) (by omega), if_pos rfl, n_cl (by omega), (hO.2.2.2 p hp).1]
theorem o_wayOf (hO : cO s i n F W V lo M) (hn : n ≤ 4) (hp : p < n) : ev (d + 2) f_Outing_wayOf [vR 3 i, vI (nI p)] s = some (some (vI (nI (W p))), s) := by
  rw [Outing_wayOf_eq, o_has_t hO hn hp, bI_s, if_neg (by decide), in_t (show p < 4 by omega) (by omega), if_pos rfl, n_cl (by omega), (hO.2.2.2 p hp).2.1]
theorem o_viewsOf (hO : cO s i n F W V lo M) (hn : n ≤ 4) (hp : p < n) : ev (d + 2) f_Outing_viewsOf [vR 3 i, vI (nI p)] s = some (some (vI (nI (V p))), s) := by
  rw [Outing_viewsOf_eq, o_has_t hO hn hp, bI_s, if_neg (by decide), in_t (show p < 4 by omega) (by omega), if_pos rfl, n_cl (by omega), (hO.2.2.2 p hp).2.2]
theorem o_isLoose (hO : cO s i n F W V lo M) (hn : n ≤ 4) (hl : lo < 2 ^ n) (hp : p < n) : ev (d + 2) f_Outing_isLoose [vR 3 i, vI (nI p)] s = some (some (vI (ib (lo.testBit p))), s) := by
  have := lo_16 hn hl
  rw [Outing_isLoose_eq, o_has_t hO hn hp, bI_s, if_neg (by decide), hO.2.1, nb_0, nb_1]
  cases h : lo.testBit p with
  | true => rw [if_pos ((j_bit1 (by omega) (by omega)).mpr h)]
  | false => rw [if_neg (fun q => by rw [(j_bit1 (by omega) (by omega)).mp q] at h; cases h)]
theorem o_place (hO : cO s i n F W V lo M) (hn : n ≤ 4) (hp : p < n) : ev (d + 2) f_Outing_place [vR 3 i, vI (nI p), vI x, vI y] s = some (none, wI (wI s 17 i p x) 18 i p y) := by
  rw [Outing_place_eq, o_has_t hO hn hp, bI_s, if_neg (by decide), in_t (show p < 4 by omega) (by omega), if_pos rfl, if_pos rfl, n_cl (by omega)]
theorem o_setViews (hO : cO s i n F W V lo M) (hn : n ≤ 4) (hp : p < n) : ev (d + 2) f_Outing_setViews [vR 3 i, vI (nI p), vI x] s = some (none, wI s 19 i p x) := by
  rw [Outing_setViews_eq, o_has_t hO hn hp, bI_s, if_neg (by decide), in_t (show p < 4 by omega) (by omega), if_pos rfl, n_cl (by omega)]
/-- a bit set, a bit taken off -/
def setb (lo p : Nat) (b : Bool) : Nat := bif b then lo ||| 2 ^ p else an lo (2 ^ p)
theorem p2_64 {p : Nat} (hp : p < 6) : 2 ^ p < 64 := Nat.pow_lt_pow_right (a := 2) (by omega) (show p < 6 by omega)
theorem p2_16 {p : Nat} (hp : p < 4) : 2 ^ p < 16 := Nat.pow_lt_pow_right (a := 2) (by omega) (show p < 4 by omega)
theorem o_setLoose (hO : cO s i n F W V lo M) (hn : n ≤ 4) (hl : lo < 2 ^ n) (hp : p < n) (b : Bool) : ev (d + 2) f_Outing_setLoose [vR 3 i, vI (nI p), vI (ib b)] s = some (none, wI s 3 i 4 (nI (setb lo p b))) := by
  have := lo_16 hn hl
  have h2 := p2_16 (show p < 4 by omega)
  rw [Outing_setLoose_eq, o_has_t hO hn hp, bI_s, if_neg (by decide), hO.2.1, j_1shl (by omega)]
  cases b with
  | true => rw [if_neg (by decide), fa_or]; rfl
  | false => rw [if_pos (by decide), n_an (by omega) (by omega)]; rfl
theorem o_countLoose (hO : cO s i n F W V lo M) (hn : n ≤ 4) (hl : lo < 2 ^ n) : ev (d + 2) f_Outing_countLoose [vR 3 i] s = some (some (vI (nI (pc lo))), s) := by
  have := lo_16 hn hl
  rw [Outing_countLoose_eq, hO.2.1, bc_s (by omega), bI_s]
theorem o_countViews (hO : cO s i n F W V lo M) (hn : n ≤ 4) (hV : ∀ p, p < n → V p < 64) : ev (d + 3) f_Outing_countViews [vR 3 i] s = some (some (vI (nI (smN (fun p => pc (V p)) n))), s) := by
  rw [Outing_countViews_eq]
  refine (chain n (fun k => Outing_countViews_L1 (d + 2) i (nI (smN (fun p => pc (V p)) k)) (nI k) s) ?_).trans ?_
  · intro k hk
    show Outing_countViews_L1 _ _ _ _ _ = _
    rw [Outing_countViews_L1_eq, hO.1, if_pos (of_eq_true (lt_t hk (by omega))), o_viewsOf hO hn hk, bI_s, bc_s (hV k hk), bI_s, nI_add, nI_1]
    rfl
  · show Outing_countViews_L1 _ _ _ _ _ = _
    rw [Outing_countViews_L1_eq, hO.1, if_neg (of_eq_false (lt_f (Nat.le_refl _) (by omega)))]
theorem o_allViews (hO : cO s i n F W V lo M) (hn : n ≤ 4) : ev (d + 3) f_Outing_allViews [vR 3 i] s = some (some (vI (nI (orN V n))), s) := by
  rw [Outing_allViews_eq]
  refine (chain n (fun k => Outing_allViews_L1 (d + 2) i (nI (orN V k)) (nI k) s) ?_).trans ?_
  · intro k hk
    show Outing_allViews_L1 _ _ _ _ _ = _
    rw [Outing_allViews_L1_eq, hO.1, if_pos (of_eq_true (lt_t hk (by omega))), o_viewsOf hO hn hk, bI_s, fa_or, nI_1]
    rfl
  · show Outing_allViews_L1 _ _ _ _ _ = _
    rw [Outing_allViews_L1_eq, hO.1, if_neg (of_eq_false (lt_f (Nat.le_refl _) (by omega)))]
def oth (F : Nat → Nat) (p f : Nat) (n : Nat) : Nat := cnt (fun q => !decide (q = p) && decide (F q = f)) n
theorem o_others (hO : cO s i n F W V lo M) (hn : n ≤ 4) (hF : ∀ q, q < n → F q < 2147483648) (hf : f < 2147483648) (hp : p < 2147483648) : ev (d + 1) f_Outing_countOthersOn [vR 3 i, vI (nI f), vI (nI p)] s = some (some (vI (nI (oth F p f n))), s) := by
  rw [Outing_countOthersOn_eq]
  refine (chain n (fun k => Outing_countOthersOn_L1 d i (nI f) (nI p) (nI (oth F p f k)) (nI k) s) ?_).trans ?_
  · intro k hk
    show Outing_countOthersOn_L1 _ _ _ _ _ _ _ = _
    rw [Outing_countOthersOn_L1_eq, hO.1, nl_4, if_pos (of_eq_true (lt_t hk (by omega))), if_pos (of_eq_true (lt_t (show k < 4 by omega) (by omega))), n_cl (by omega), (hO.2.2.2 k hk).1, in_t (show k < 4 by omega) (by omega), if_pos rfl, nl_0, n_add0, nI_1, nI_1]
    unfold oth
    simp only [cnt]
    by_cases h : k = p
    · rw [if_pos (of_eq_true (eq_t h)), decide_eq_true h]; rfl
    · rw [if_neg (of_eq_false (eq_f h (by omega) hp)), decide_eq_false h]
      by_cases h2 : F k = f
      · rw [if_pos (of_eq_true (eq_t h2)), decide_eq_true h2]; rfl
      · rw [if_neg (of_eq_false (eq_f h2 (hF k hk) hf)), decide_eq_false h2]; rfl
  · show Outing_countOthersOn_L1 _ _ _ _ _ _ _ = _
    rw [Outing_countOthersOn_L1_eq, hO.1, if_neg (of_eq_false (lt_f (Nat.le_refl _) (by omega)))]
/-- what a write makes of an outing -/
theorem cO_place (hO : cO s i n F W V lo M) : cO (wI (wI s 17 i p (nI f)) 18 i p (nI w)) i n (up F p f) (up W p w) V lo M := by
  refine ⟨hO.1, hO.2.1, hO.2.2.1, fun q hq => ?_⟩
  have h := hO.2.2.2 q hq
  by_cases e : q = p
  · subst e; simp [wI_get, up_s, h.2.2]
  · simp [wI_get, up_n e, e, h]
theorem cO_views (hO : cO s i n F W V lo M) : cO (wI s 19 i p (nI v)) i n F W (up V p v) lo M := by
  refine ⟨hO.1, hO.2.1, hO.2.2.1, fun q hq => ?_⟩
  have h := hO.2.2.2 q hq
  by_cases e : q = p
  · subst e; simp [wI_get, up_s, h]
  · simp [wI_get, up_n e, e, h]
theorem cO_lo (hO : cO s i n F W V lo M) {l : Nat} : cO (wI s 3 i 4 (nI l)) i n F W V l M :=
  ⟨by simp [wI_get, hO.1], by simp [wI_get], by simp [wI_get, hO.2.2.1], fun q hq => by simp [wI_get]; exact hO.2.2.2 q hq⟩
theorem cO_min (hO : cO s i n F W V lo M) {m : Int32} : cO (wI s 3 i 5 m) i n F W V lo m :=
  ⟨by simp [wI_get, hO.1], by simp [wI_get, hO.2.1], by simp [wI_get], fun q hq => by simp [wI_get]; exact hO.2.2.2 q hq⟩
end OUT

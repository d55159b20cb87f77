/-! forms, most. -/
section FORMS
variable {d k : Nat} {R C n T u q nh : Nat} {kd : Nat → Nat} {S S' : Sn} {L : List Nat} {l l' : List Int64} {sg : Nat → Nat} {U U' : Nat → Sn} {K : Nat → Option Sn} {sq : Nat → Nat × Nat × Nat} {hq : Nat → Nat × Nat} {s t : xS} {p N src x : Nat} {st : qS}
theorem n_am1 {a : Nat} : nI (a + 1) + (-1) = nI a := by
  rw [← Int32.sub_eq_add_neg]; exact n_sub1
def par (I : Nat → Option (Nat × Nat × Nat)) (x : Nat) : Nat := ((I x).getD (0, 0, 0)).2.1
def wy (I : Nat → Option (Nat × Nat × Nat)) (x : Nat) : Nat := ((I x).getD (0, 0, 0)).2.2
def anc (I : Nat → Option (Nat × Nat × Nat)) : Nat → Nat → Nat
  | 0, x => x
  | j + 1, x => anc I j (par I x)
theorem anc_i (h : qInv N src st) : ∀ (j k x f w : Nat), st.2 x = some (k + j, f, w) → ∃ f' w', st.2 (anc st.2 j x) = some (k, f', w') := by
  intro j
  induction j with
  | zero => intro k x f w e; exact ⟨f, w, e⟩
  | succ j ih =>
    intro k x f w e
    obtain ⟨_, f', w', b⟩ := h.2.2.2.2.2.1 x (k + j) f w e
    have hp : par st.2 x = f := by unfold par; rw [e]; rfl
    obtain ⟨f2, w2, c⟩ := ih k f f' w' b
    exact ⟨f2, w2, by show st.2 (anc st.2 j (par st.2 x)) = _; rw [hp]; exact c⟩
theorem anc_s (I : Nat → Option (Nat × Nat × Nat)) : ∀ (j x : Nat), anc I (j + 1) x = par I (anc I j x) := by
  intro j
  induction j with
  | zero => intro x; rfl
  | succ j ih => intro x; exact ih (par I x)
theorem q_lt (h : qInv N src st) {x k f w : Nat} (e : st.2 x = some (k, f, w)) : x < N := h.2.1 x ((h.2.2.1 x).mp (by rw [e]; intro z; cases z))
theorem c_origin (hx : x < 2304) (h : cQ s st) : ev (d + 1) f_Search_originOf [vR 9 0, vI (nI x)] s = some (some (vI (orI (st.2 x))), s) := by
  rw [Search_originOf_eq, if_neg (nI_pos (by omega)), if_pos (show nI x < 2304 from of_eq_true (lt_t (b := 2304) hx (by omega))), in_t hx (by omega), if_pos rfl, n_cl (by omega), h.2.2 x hx]
theorem c_steps (hN : N ≤ 2304) (hI : qInv N src st) (h : cQ s st) : ∀ (k x j f w : Nat), st.2 x = some (k, f, w) → j + k < 2304 → Search_stepsTo_L1 (d + 1) (nI x) (nI j) s = some (some (vI (nI (j + k))), s) := by
  intro k
  induction k with
  | zero =>
    intro x j f w e hj
    have hx := q_lt hI e
    rw [Search_stepsTo_L1_eq, if_pos (show nI j < 2304 from of_eq_true (lt_t (b := 2304) (by omega) (by omega))), c_origin (by omega) h, e, bI_s, if_pos (show orI (some (0, f, w)) < 0 by show (-2 : Int32) < 0; decide)]; rfl
  | succ k ih =>
    intro x j f w e hj
    have hx := q_lt hI e
    obtain ⟨hw, f', w', b⟩ := hI.2.2.2.2.2.1 x k f w e
    have hbd := (q_bd hI hN e).2
    have ho : orI (some (k + 1, f, w)) = nI (4 * f + w) := rfl
    have h4 : nI (4 * f + w) / 4 = nI f := by
      have : nI (4 * f + w) / nI 4 = nI ((4 * f + w) / 4) := n_div (by omega) (by omega) (by omega)
      rw [show (4 * f + w) / 4 = f by omega] at this; exact this
    rw [Search_stepsTo_L1_eq, if_pos (show nI j < 2304 from of_eq_true (lt_t (b := 2304) (by omega) (by omega))), c_origin (by omega) h, e, bI_s, ho, if_neg (nI_pos (by omega)), c_origin (by omega) h, e, bI_s, ho, if_neg (by decide), h4, nI_1, ih f (j + 1) f' w' b (by omega), show j + 1 + k = j + (k + 1) by omega]
theorem c_wayTo {k m f w : Nat} (hN : N ≤ 2304) (hI : qInv N src st) (h : cQ s st) (e : st.2 x = some (k, f, w)) (hm : m < k) : ev (d + 2) f_Search_wayTo [vR 9 0, vI (nI x), vI (nI m)] s = some (some (vI (nI (wy st.2 (anc st.2 m x)))), s) := by
  have hk := (q_bd hI hN e).1
  have hat : ∀ j, j < k → ∃ f' w', st.2 (anc st.2 j x) = some (k - j - 1 + 1, f', w') := fun j hj => by
    obtain ⟨f', w', a⟩ := anc_i hI j (k - j) x f w (by rw [show k - j + j = k by omega]; exact e)
    exact ⟨f', w', by rw [show k - j - 1 + 1 = k - j by omega]; exact a⟩
  have hlp : ∀ j, j ≤ m → Search_wayTo_L1 (d + 1) (nI m) (nI x) 0 s = Search_wayTo_L1 (d + 1) (nI m) (nI (anc st.2 j x)) (nI j) s := by
    intro j
    induction j with
    | zero => exact fun _ => rfl
    | succ j ih =>
      intro hj
      obtain ⟨f', w', a⟩ := hat j (by omega)
      have hx := q_lt hI a
      have hbd := (q_bd hI hN a).2
      have hw := (hI.2.2.2.2.2.1 _ _ f' w' a).1
      have hpar : anc st.2 (j + 1) x = f' := by rw [anc_s]; unfold par; rw [a]; rfl
      have ho : orI (some (k - j - 1 + 1, f', w')) = nI (4 * f' + w') := rfl
      have h4 : nI (4 * f' + w') / 4 = nI f' := by
        have : nI (4 * f' + w') / nI 4 = nI ((4 * f' + w') / 4) := n_div (by omega) (by omega) (by omega)
        rw [show (4 * f' + w') / 4 = f' by omega] at this; exact this
      rw [ih (by omega), Search_wayTo_L1_eq, if_pos (of_eq_true (lt_t (by omega) (by omega))), c_origin (by omega) h, a, bI_s, ho, if_neg (nI_pos (by omega)), c_origin (by omega) h, a, bI_s, ho, if_neg (by decide), h4, nI_1, hpar]
  obtain ⟨f', w', a⟩ := hat m hm
  have hx := q_lt hI a
  have hbd := (q_bd hI hN a).2
  have hw := (hI.2.2.2.2.2.1 _ _ f' w' a).1
  have ho : orI (some (k - m - 1 + 1, f', w')) = nI (4 * f' + w') := rfl
  have h4 : jrem (nI (4 * f' + w')) 4 = nI w' := by
    have : jrem (nI (4 * f' + w')) (nI 4) = nI ((4 * f' + w') % 4) := n_rem (by omega) (by omega) (by omega)
    rw [show (4 * f' + w') % 4 = w' by omega] at this; exact this
  have hwy : wy st.2 (anc st.2 m x) = w' := by unfold wy; rw [a]; rfl
  rw [Search_wayTo_eq, hlp m (Nat.le_refl _), Search_wayTo_L1_eq, if_neg (of_eq_false (lt_f (Nat.le_refl _) (by omega))), Search_wayTo_J2_eq, c_origin (by omega) h, a, bI_s, ho, if_neg (nI_pos (by omega)), c_origin (by omega) h, a, bI_s, ho, if_neg (by decide), h4, hwy]
/-- the ways to a place, the first m of them -/
def wyL (I : Nat → Option (Nat × Nat × Nat)) (k x : Nat) : Nat → List Int64
  | 0 => []
  | m + 1 => wyL I k x m ++ [lN (wy I (anc I (k - 1 - m) x))]
theorem wyL_len (I : Nat → Option (Nat × Nat × Nat)) (k x : Nat) : ∀ m, (wyL I k x m).length = m
  | 0 => rfl
  | m + 1 => by
    show (wyL I k x m ++ [_]).length = m + 1
    rw [List.length_append, wyL_len I k x m]; rfl
theorem wy_lt (hI : qInv N src st) {k j f w : Nat} (e : st.2 x = some (k, f, w)) (hj : j < k) : wy st.2 (anc st.2 j x) < 4 := by
  obtain ⟨f', w', a⟩ := anc_i hI j (k - j) x f w (by rw [show k - j + j = k by omega]; exact e)
  rw [show k - j = k - j - 1 + 1 by omega] at a
  have hw := (hI.2.2.2.2.2.1 _ _ f' w' a).1
  unfold wy
  rw [a]; exact hw
theorem c_path {k f w : Nat} (hN : N ≤ 2304) (hI : qInv N src st) (h : cQ s st) (hr : cRow s []) (e : st.2 x = some (k, f, w)) : ∃ t, Main_forms_L1 (d + 2) (nI x) (nI k) 0 s = some (some (vI (nI k)), t) ∧ cRow t (wyL st.2 k x (min k 12)) ∧ fr pN s t := by
  have hk := (q_bd hI hN e).1
  obtain ⟨t, k1, k2, k3⟩ := chainE (min k 12) (fun j (t : xS) => Main_forms_L1 (d + 2) (nI x) (nI k) (nI j) t) (fun j t => cRow t (wyL st.2 k x j) ∧ fr pN s t) (by
    rintro j t hj ⟨h1, h2⟩
    have hqt : cQ t st := cQ_fr h h2 (by simp [pN]) (by intro k; simp [pN]) (by intro k; simp [pN])
    have hlt := wy_lt hI e (show k - 1 - j < k by omega)
    obtain ⟨a, a1, a2, a3⟩ := n_add1 (d := d + 1) (x := lN (wy st.2 (anc st.2 (k - 1 - j) x))) h1 (by rw [wyL_len]; omega)
    refine ⟨a, ?_, a2, fr_t h2 a3⟩
    show Main_forms_L1 (d + 2) (nI x) (nI k) (nI j) t = _
    rw [Main_forms_L1_eq, if_pos (of_eq_true (lt_t (by omega) (by omega))), if_pos (show nI j < 12 from of_eq_true (lt_t (b := 12) (by omega) (by omega))), show (1 : Int32) = nI 1 from rfl, n_sub (by omega), n_sub (by omega), c_wayTo hN hI hqt e (by omega), bI_s, nI_l (by omega), a1, bV_s, show nI j + nI 1 = nI (j + 1) from nI_1 j]) (min k 12) 0 s (by omega) ⟨hr, fr_r _ _⟩
  have k1' : Main_forms_L1 (d + 2) (nI x) (nI k) 0 s = Main_forms_L1 (d + 2) (nI x) (nI k) (nI (min k 12)) t := k1
  refine ⟨t, ?_, k2, k3⟩
  rw [k1', Main_forms_L1_eq]
  by_cases z : k ≤ 12
  · rw [Nat.min_eq_left z, if_neg (of_eq_false (lt_f (Nat.le_refl _) (by omega)))]
  · rw [Nat.min_eq_right (by omega), if_pos (of_eq_true (lt_t (by omega) (by omega))), if_neg (by decide)]
def pPt (c _i k : Nat) : Prop := c = 41 ∨ c = 62 ∨ (c = 13 ∧ k = 1)
theorem m_path {k f w : Nat} (hN : N ≤ 2304) (hI : qInv N src st) (h : rQ s st) (e : st.2 x = some (k, f, w)) : ∃ t, ev (d + 2) f_Ref_entersPath [vR 13 0, vI (nI x)] s = some (some (vI (nI k)), t) ∧ rRow t (wyL st.2 k x (min k 12)) ∧ fr pPt s t := by
  have hk := (q_bd hI hN e).1
  have hx := q_lt hI e
  have h59 : s.1 59 0 x = nI k := by rw [h.2.2.1 x (by omega), e]; rfl
  obtain ⟨a, k1, k2, k3⟩ := chainE k (fun j (t : xS) => Ref_entersPath_L1 (d + 1) (nI k) (nI (anc st.2 j x)) (if j < k then nI (k - 1 - j) else -1) t) (fun j t => (∀ i, i < j → t.1 62 0 (k - 1 - i) = nI (wy st.2 (anc st.2 i x))) ∧ fr (fun c _ _ => c = 62) s t) (by
    rintro j t hj ⟨h1, h2⟩
    obtain ⟨f', w', a⟩ := anc_i hI j (k - j) x f w (by rw [show k - j + j = k by omega]; exact e)
    rw [show k - j = k - j - 1 + 1 by omega] at a
    have hxa := q_lt hI a
    have hpar : anc st.2 (j + 1) x = f' := by rw [anc_s]; unfold par; rw [a]; rfl
    have hwy : wy st.2 (anc st.2 j x) = w' := by unfold wy; rw [a]; rfl
    obtain ⟨h60, h61⟩ := h.2.2.2 _ _ f' w' (show anc st.2 j x < 2304 by omega) a
    refine ⟨wI t 62 0 (k - 1 - j) (nI w'), ?_, fun i hi => ?_, fr_wI h2 rfl⟩
    · show Ref_entersPath_L1 (d + 1) (nI k) (nI (anc st.2 j x)) (if j < k then nI (k - 1 - j) else -1) t = Ref_entersPath_L1 (d + 1) (nI k) (nI (anc st.2 (j + 1) x)) (if j + 1 < k then nI (k - 1 - (j + 1)) else -1) (wI t 62 0 (k - 1 - j) (nI w'))
      have hm1 : nI (k - 1 - j) + (-1) = if j + 1 < k then nI (k - 1 - (j + 1)) else -1 := by
        by_cases z : j + 1 < k
        · rw [if_pos z, show k - 1 - j = k - 1 - (j + 1) + 1 by omega, n_am1]
        · rw [if_neg z, show k - 1 - j = 0 by omega]; rfl
      rw [if_pos hj, Ref_entersPath_L1_eq, if_neg (nI_pos (by omega)), in_t (show anc st.2 j x < 2304 by omega) (by omega), if_pos rfl, in_t (show k - 1 - j < 2304 by omega) (by omega), if_pos rfl, if_pos rfl, n_cl (by omega), n_cl (by omega), (h2 60 0 _ (by omega)).1, (h2 61 0 _ (by omega)).1, h60, h61, hm1, hpar]
    · by_cases z : i = j
      · rw [z, wI_s1, hwy]
      · rw [wI_nk (by omega)]; exact h1 i (by omega)) k 0 s (by omega) ⟨fun i hi => absurd hi (Nat.not_lt_zero i), fr_r _ _⟩
  have k1' : Ref_entersPath_L1 (d + 1) (nI k) (nI x) (nI k - 1) s = Ref_entersPath_L1 (d + 1) (nI k) (nI (anc st.2 k x)) (-1) a := by
    have k1 : Ref_entersPath_L1 (d + 1) (nI k) (nI x) (if 0 < k then nI (k - 1 - 0) else -1) s = Ref_entersPath_L1 (d + 1) (nI k) (nI (anc st.2 k x)) (if k < k then nI (k - 1 - k) else -1) a := k1
    rw [if_neg (Nat.lt_irrefl k)] at k1
    rw [← k1]
    by_cases z : 0 < k
    · rw [if_pos z, show (1 : Int32) = nI 1 from rfl, n_sub (by omega), Nat.sub_zero]
    · rw [if_neg z, show k = 0 by omega]; rfl
  obtain ⟨b, g1, g2, g3⟩ := chainE (min k 12) (fun j (t : xS) => Ref_entersPath_L2 (d + 1) (nI k) (nI j) t) (fun j t => rRow t (wyL st.2 k x j) ∧ fr pT (wI a 13 0 1 0) t) (by
    rintro j t hj ⟨h1, h2⟩
    have hlt := wy_lt hI e (show k - 1 - j < k by omega)
    have h62 : t.1 62 0 j = nI (wy st.2 (anc st.2 (k - 1 - j) x)) := by
      rw [(h2 62 0 j (by simp [pT])).1, wI_nc (by omega)]
      have := k2 (k - 1 - j) (by omega)
      rw [show k - 1 - (k - 1 - j) = j by omega] at this
      exact this
    obtain ⟨v, a1, a2, a3⟩ := m_enters (d := d) (x := lN (wy st.2 (anc st.2 (k - 1 - j) x))) h1 (by rw [wyL_len]; omega)
    refine ⟨v, ?_, a2, fr_t h2 a3⟩
    show Ref_entersPath_L2 (d + 1) (nI k) (nI j) t = _
    rw [Ref_entersPath_L2_eq, if_pos (of_eq_true (lt_t (by omega) (by omega))), if_pos (show nI j < 12 from of_eq_true (lt_t (b := 12) (by omega) (by omega))), in_t (show j < 2304 by omega) (by omega), if_pos rfl, n_cl (by omega), h62, nI_l (by omega), a1, bV_s, nI_1]) (min k 12) 0 (wI a 13 0 1 0) (by omega) ⟨⟨by rw [wI_s1]; rfl, Nat.zero_le _, fun i hi => absurd hi (Nat.not_lt_zero i)⟩, fr_r _ _⟩
  have g1' : Ref_entersPath_L2 (d + 1) (nI k) 0 (wI a 13 0 1 0) = Ref_entersPath_L2 (d + 1) (nI k) (nI (min k 12)) b := g1
  refine ⟨b, ?_, g2, fr_t (fr_m k3 (fun c i k h => by unfold pPt; omega)) (fr_t (fr_wI (fr_r _ _) (by unfold pPt; omega)) (fr_m g3 (fun c i k h => by unfold pT at h; unfold pPt; omega)))⟩
  rw [Ref_entersPath_eq, in_t (show x < 2304 by omega) (by omega), if_pos rfl, n_cl (by omega), h59, k1', Ref_entersPath_L1_eq, if_pos (by decide), g1', Ref_entersPath_L2_eq]
  by_cases z : k ≤ 12
  · rw [Nat.min_eq_left z, if_neg (of_eq_false (lt_f (Nat.le_refl _) (by omega)))]
  · rw [Nat.min_eq_right (by omega), if_pos (of_eq_true (lt_t (by omega) (by omega))), if_neg (by decide)]
/-- the first place that holds what is asked -/
def fwQ (y : Int32) (st : qS) (i : Nat) : Bool := decide (nI (st.1.getD i 0 % 64) &&& y = y)
theorem fst_c {P : Nat → Bool} {m i : Nat} (h : fst P m = some i) : fst P (i + 1) = some i := by
  obtain ⟨h1, h2, h3⟩ := fst_some h
  cases e : fst P i with
  | some j =>
    obtain ⟨a, b, _⟩ := fst_some e
    rw [h3 j a] at b; cases b
  | none =>
    show (match fst P i with | some k => some k | none => bif P i then some i else none) = some i
    rw [e, h2]; rfl
theorem c_first {y : Int32} (hN : N ≤ 2304) (hI : qInv N src st) (h : cQ s st) : ev (d + 2) f_Search_firstWith [vR 9 0, vI y] s = some (some (vI (match fst (fwQ y st) st.1.length with | some i => nI (st.1.getD i 0) | none => -1)), s) := by
  have hlen := qI_len hI
  rw [Search_firstWith_eq]
  refine chainQ (σ := Unit) st.1.length (fun i _ => Search_firstWith_L1 (d + 1) y (nI i) s) (fun i _ => fst (fwQ y st) i = none) (fun r => r = some (some (vI (match fst (fwQ y st) st.1.length with | some i => nI (st.1.getD i 0) | none => -1)), s)) ?_ ?_ st.1.length 0 () (by omega) rfl
  · intro _ hr
    show Search_firstWith_L1 (d + 1) y (nI st.1.length) s = _
    rw [Search_firstWith_L1_eq, h.1, if_neg (of_eq_false (lt_f (Nat.le_refl _) (by omega))), hr]
  · intro i _ hi hr
    have hxN := hI.2.1 _ (getD_mem hi)
    show Search_firstWith_L1 (d + 1) y (nI i) s = _ ∨ ∃ b : Unit, Search_firstWith_L1 (d + 1) y (nI i) s = Search_firstWith_L1 (d + 1) y (nI (i + 1)) s ∧ _
    rw [Search_firstWith_L1_eq, h.1, if_pos (of_eq_true (lt_t hi (by omega))), in_t (show i < 2304 by omega) (by omega), if_pos rfl, n_cl (by omega), h.2.1 i hi, Search_viewsIn_eq, n_and63 (by omega), bI_s]
    have hst : fst (fwQ y st) (i + 1) = bif fwQ y st i then some i else none := by
      show (match fst (fwQ y st) i with | some k => some k | none => bif fwQ y st i then some i else none) = _
      rw [hr]
    by_cases z : nI (st.1.getD i 0 % 64) &&& y = y
    · left
      have hz : fwQ y st i = true := decide_eq_true z
      rw [hz] at hst
      have hst : fst (fwQ y st) (i + 1) = some i := hst
      have hall : fst (fwQ y st) st.1.length = some i := by
        have fS : ∀ m, i + 1 ≤ m → fst (fwQ y st) m = some i := by
          intro m hm
          induction m with
          | zero => omega
          | succ m ih =>
            by_cases w : m = i
            · rw [w]; exact hst
            · have := ih (by omega)
              show (match fst (fwQ y st) m with | some k => some k | none => bif fwQ y st m then some m else none) = _
              rw [this]
        exact fS _ hi
      rw [if_pos z, if_pos rfl, hall, h.2.1 i hi]
    · right
      have hz : fwQ y st i = false := decide_eq_false z
      rw [hz] at hst
      rw [if_neg z, nI_1]
      exact ⟨(), rfl, hst⟩
theorem m_first {y : Int32} {V : Option xO} (hN : N ≤ 2304) (hI : qInv N src st) (h : rQ s st) (hV : (match fst (fwQ y st) st.1.length with | some i => bI (ev (d + 2) f_Ref_entersPath [vR 13 0, vI (nI (st.1.getD i 0))] s) (fun r7 s6 => some (some (vI r7), s6)) | none => some (some (vI (-2)), s)) = V) : Ref_forms_L1 (d + 2) y 0 s = V := by
  have hlen := qI_len hI
  refine chainQ (σ := Unit) st.1.length (fun i _ => Ref_forms_L1 (d + 2) y (nI i) s) (fun i _ => fst (fwQ y st) i = none) (fun r => r = V) ?_ ?_ st.1.length 0 () (by omega) rfl
  · intro _ hr
    show Ref_forms_L1 (d + 2) y (nI st.1.length) s = _
    rw [hr] at hV
    rw [Ref_forms_L1_eq, h.1, if_neg (of_eq_false (lt_f (Nat.le_refl _) (by omega)))]; exact hV
  · intro i _ hi hr
    have hxN := hI.2.1 _ (getD_mem hi)
    show Ref_forms_L1 (d + 2) y (nI i) s = _ ∨ ∃ b : Unit, Ref_forms_L1 (d + 2) y (nI i) s = Ref_forms_L1 (d + 2) y (nI (i + 1)) s ∧ _
    rw [Ref_forms_L1_eq, h.1, if_pos (of_eq_true (lt_t hi (by omega))), in_t (show i < 2304 by omega) (by omega), if_pos rfl, if_neg (by decide), n_cl (by omega), h.2.1 i hi, n_r64 (by omega)]
    have hst : fst (fwQ y st) (i + 1) = bif fwQ y st i then some i else none := by
      show (match fst (fwQ y st) i with | some k => some k | none => bif fwQ y st i then some i else none) = _
      rw [hr]
    by_cases z : nI (st.1.getD i 0 % 64) &&& y = y
    · left
      have hz : fwQ y st i = true := decide_eq_true z
      rw [hz] at hst
      have hst : fst (fwQ y st) (i + 1) = some i := hst
      have hall : fst (fwQ y st) st.1.length = some i := by
        have fS : ∀ m, i + 1 ≤ m → fst (fwQ y st) m = some i := by
          intro m hm
          induction m with
          | zero => omega
          | succ m ih =>
            by_cases w : m = i
            · rw [w]; exact hst
            · have := ih (by omega)
              show (match fst (fwQ y st) m with | some k => some k | none => bif fwQ y st m then some m else none) = _
              rw [this]
        exact fS _ hi
      rw [hall] at hV
      rw [if_pos z, if_pos rfl]; exact hV
    · right
      have hz : fwQ y st i = false := decide_eq_false z
      rw [hz] at hst
      rw [if_neg z, nI_1]
      exact ⟨(), rfl, hst⟩
theorem pSp_CQ {c i k : Nat} (h : pSp c i k) : pCQ c i k := by
  have h := pSp_m h
  rcases h with rfl | rfl | ⟨rfl, rfl⟩ | rfl | rfl | rfl | ⟨rfl, rfl⟩ <;> simp [pCQ]
theorem pSr_RQ {c i k : Nat} (h : pSr c i k) : pRQ c i k := by
  have h := pSr_m h
  rcases h with rfl | rfl | ⟨rfl, rfl | rfl | rfl⟩ | rfl | rfl | rfl | rfl <;> simp [pRQ]
theorem pPt_RQ {c i k : Nat} (h : pPt c i k) : pRQ c i k := by
  unfold pPt at h
  rcases h with rfl | rfl | ⟨rfl, rfl⟩ <;> simp [pRQ]
theorem s_forms (ha : AOk ((R, C, kd), (n, S), (L, l), (T, sg), (u, U), K, (q, sq), nh, hq)) (x y : Int32) : GsS d f_Main_forms f_Ref_forms [vI x, vI y] ((R, C, kd), (n, S), (L, l), (T, sg), (u, U), K, (q, sq), nh, hq) k := by
  have ho := ha.2.1
  have hn : n ≤ 4 := ho.1
  have hL : wfL (ruL L) 0 := ha.2.2.1
  have b36 : R * C ≤ 36 := gOk_36 ha.1
  refine GsS_q ha ?_
  have hin63 : ∀ y : Int32, ev (d + 99) f_Ref_in [vL y.toInt64, vL 0, vL 63] = ev (d + 99) f_Ref_in [vL y.toInt64, vL 0, vL 63] := fun _ => rfl
  by_cases hc : x_in x n = true ∧ x_in y 64 = true
  case neg =>
    refine ⟨-1, l, fun s h _ _ => ⟨s, ?_, h.2.2.2, fr_r _ _⟩, fun s h _ _ => ⟨wI s 13 0 0 0, ?_, (RQ_0 h).2.2.2.1, fr_m fr_0 (fun _ _ _ => p0_RQ)⟩⟩
    · rw [Main_forms_eq, o_has h.2.1 hn, bI_s]
      cases hx : x_in x n with
      | false => rw [if_pos (by decide)]
      | true =>
        rw [if_neg (by decide)]
        by_cases z : y < 0
        · rw [if_pos z]
        · rw [if_neg z]
          obtain ⟨m, hm, rfl⟩ := nI_of z
          have hy : ¬ m < 64 := fun w => hc ⟨hx, by rw [n_in hm]; exact decide_eq_true w⟩
          rw [if_pos (show (63 : Int32) < nI m from of_eq_true (lt_t (a := 63) (by omega) hm))]
    · rw [Ref_forms_eq, m_isPram (RQ_0 h).2.1 hn, bI_s]
      cases hx : x_in x n with
      | false => rw [if_pos (by decide)]
      | true =>
        have hy : x_in y 64 = false := by
          cases e : x_in y 64 with
          | false => rfl
          | true => exact absurd ⟨hx, e⟩ hc
        rw [if_neg (by decide), m_in0 (n := 64) _ (by decide), hy, bI_s, if_pos (by decide)]
  obtain ⟨hx, hy⟩ := hc
  obtain ⟨p, hp, rfl⟩ := (n_in_iff (by omega)).mp hx
  obtain ⟨y, hy6, rfl⟩ := (n_in_iff (by omega)).mp hy
  have m12 : (12 : Int32) + nI p = nI (12 + p) := by rw [show (12 : Int32) = nI 12 from rfl, nI_add]
  have hy0 : ¬ nI y < 0 := nI_pos (by omega)
  have hy63 : ¬ (63 : Int32) < nI y := of_eq_false (lt_f (a := 63) (by omega) (by omega))
  have hcl : ∀ s, CQ s R C kd n S.1 S.2.1 S.2.2.1 S.2.2.2.1 S.2.2.2.2 L l → ev (d + 100) f_Main_forms [vR 0 0, vI (nI p), vI (nI y)] s = if ib (S.2.2.2.1.testBit p) = 0 then (bV (ev (d + 99) f_Search_begin [vR 9 0, vI (nI p)] s) fun s5 => bV (ev (d + 99) f_Search_spread [vR 9 0] s5) fun s6 => bI (ev (d + 99) f_Search_firstWith [vR 9 0, vI (nI y)] s6) fun r8 s7 => if (r8 : Int32) = (-1) then some (some (vI (-2)), s7) else bI (ev (d + 99) f_Search_stepsTo [vR 9 0, vI r8] s7) fun r10 s9 => bV (ev (d + 99) f_Numbers_clear [vR 10 0] s9) fun s11 => Main_forms_L1 (d + 99) r8 r10 0 s11) else some (some (vI (-3)), s) := fun s h => by
    rw [Main_forms_eq, o_has h.2.1 hn, hx, bI_s, if_neg (by decide), if_neg hy0, if_neg hy63, o_isLoose h.2.1 hn ho.2.1 hp, bI_s]
  have hml : ∀ s, RQ s R C kd n S.1 S.2.1 S.2.2.1 S.2.2.2.1 S.2.2.2.2 L l → ev (d + 100) f_Ref_forms [vR 13 0, vI (nI p), vI (nI y)] s = if nI (b1 (S.2.2.2.1.testBit p)) = 1 then some (some (vI (-3)), wI s 13 0 0 0) else bV (ev (d + 99) f_Ref_laysPlaces [vR 13 0, vI (nI p)] (wI s 13 0 0 0)) fun s5 => Ref_forms_L1 (d + 99) (nI y) 0 s5 := fun s h => by
    have hO := (RQ_0 h).2.1
    rw [Ref_forms_eq, m_isPram hO hn, hx, bI_s, if_neg (by decide), m_in0 (n := 64) _ (by decide), hy, bI_s, if_neg (by decide), m12, in_t (show 12 + p < 17 by omega) (by omega), if_pos rfl, n_cl (by omega), (hO.2.2.1 p (by omega)).2]
  cases hlo : S.2.2.2.1.testBit p with
  | true =>
    refine ⟨-3, l, fun s h _ _ => ⟨s, ?_, h.2.2.2, fr_r _ _⟩, fun s h _ _ => ⟨wI s 13 0 0 0, ?_, (RQ_0 h).2.2.2.1, fr_m fr_0 (fun _ _ _ => p0_RQ)⟩⟩
    · rw [hcl s h, hlo, if_neg (by decide)]
    · rw [hml s h, hlo, if_pos (by decide)]
  | false =>
    have hgo : gOk R C kd := ha.1
    have hI := sprP_inv (L := L) hgo ho hp
    have hcs : ∀ s, CQ s R C kd n S.1 S.2.1 S.2.2.1 S.2.2.2.1 S.2.2.2.2 L l → ∃ a b, ev (d + 99) f_Search_begin [vR 9 0, vI (nI p)] s = some (none, a) ∧ ev (d + 99) f_Search_spread [vR 9 0] a = some (none, b) ∧ cQ b (sprP R C kd n S L p) ∧ fr pCQ s b ∧ cRow b l := fun s h => by
      obtain ⟨a, a1, a2, a3, a4, a5⟩ := c_begin (d := d + 96) (L := L) h.1 h.2.1 ho hp
      obtain ⟨b, b1, b2, b3, b4⟩ := c_spreadP (d := d + 94) (cG_fr h.1 a5 (by omega) (by omega) (by omega)) (cO_fr h.2.1 a5 (by omega) (by omega) (by omega) (by omega)) ho (cR_fr h.2.2.1 a5 (by omega) (by omega)) hL hp a2 a3 a4
      refine ⟨a, b, a1, b1, b2, fr_t (fr_m a5 (fun c i k z => by rcases z with rfl | ⟨rfl, _⟩ <;> simp [pCQ])) (fr_m b4 (fun _ _ _ => pSp_CQ)), ?_⟩
      have b4' : fr (fun c i k => c = 26 ∨ c = 25 ∨ (c = 5 ∧ k = 3) ∨ c = 37 ∨ c = 35 ∨ c = 36 ∨ (c = 9 ∧ k = 7)) a b := fr_m b4 (fun _ _ _ => pSp_m)
      exact cRow_fr (cRow_fr h.2.2.2 a5 (by omega) (by omega)) b4' (by omega) (by omega)
    have hms : ∀ s, RQ s R C kd n S.1 S.2.1 S.2.2.1 S.2.2.2.1 S.2.2.2.2 L l → ∃ a, ev (d + 99) f_Ref_laysPlaces [vR 13 0, vI (nI p)] (wI s 13 0 0 0) = some (none, a) ∧ rQ a (sprP R C kd n S L p) ∧ fr pRQ s a ∧ rRow a l := fun s h => by
      have h0 := RQ_0 h
      obtain ⟨a, a1, a2, a3⟩ := m_spreadP (d := d + 93) h0.1 h0.2.1 ho h0.2.2.1 hL hp
      have a3' : fr (fun c i k => c = 48 ∨ c = 49 ∨ (c = 13 ∧ (k = 24 ∨ k = 25 ∨ k = 45)) ∨ c = 58 ∨ c = 59 ∨ c = 60 ∨ c = 61) (wI s 13 0 0 0) a := fr_m a3 (fun _ _ _ => pSr_m)
      exact ⟨a, a1, a2, fr_t (fr_m fr_0 (fun _ _ _ => p0_RQ)) (fr_m a3 (fun _ _ _ => pSr_RQ)), rRow_fr h0.2.2.2.1 a3' (by omega) (by omega)⟩
    generalize sprP R C kd n S L p = st at hI hcs hms
    have hN : 64 * (R * C) ≤ 2304 := by omega
    cases hfi : fst (fwQ (nI y) st) st.1.length with
    | none =>
      refine ⟨-2, l, fun s h _ _ => ?_, fun s h _ _ => ?_⟩
      · obtain ⟨a, b, a1, b1, b2, b3, b4⟩ := hcs s h
        refine ⟨b, ?_, b4, b3⟩
        have hf := c_first (d := d + 97) (y := nI y) hN hI b2
        rw [hfi] at hf
        rw [hcl s h, hlo, if_pos (by decide), a1, bV_s, b1, bV_s, hf, bI_s, if_pos rfl]
      · obtain ⟨a, a1, a2, a3, a4⟩ := hms s h
        refine ⟨a, ?_, a4, a3⟩
        rw [hml s h, hlo, if_neg (by decide), a1, bV_s]
        exact m_first (d := d + 97) hN hI a2 (by rw [hfi])
    | some i =>
      have hi := (fst_some hfi).1
      obtain ⟨k', f', w', e1, e2⟩ := hI.2.2.2.2.1 i hi
      have hxN := hI.2.1 _ (getD_mem hi)
      obtain ⟨x', ex⟩ : ∃ x', st.1.getD i 0 = x' := ⟨_, rfl⟩
      rw [ex] at e1 hxN
      have hk' := (q_bd hI hN e1).1
      refine ⟨nI k', wyL st.2 k' x' (min k' 12), fun s h _ _ => ?_, fun s h _ _ => ?_⟩
      · obtain ⟨a, b, a1, b1, b2, b3, b4⟩ := hcs s h
        have hf := c_first (d := d + 97) (y := nI y) hN hI b2
        rw [hfi] at hf
        have hf' : ev (d + 99) f_Search_firstWith [vR 9 0, vI (nI y)] b = some (some (vI (nI x')), b) := by rw [← ex]; exact hf
        have hst := c_steps (d := d + 97) hN hI b2 k' x' 0 f' w' e1 (by omega)
        rw [Nat.zero_add] at hst
        have hst' : ev (d + 99) f_Search_stepsTo [vR 9 0, vI (nI x')] b = some (some (vI (nI k')), b) := by rw [Search_stepsTo_eq]; exact hst
        obtain ⟨c, c1, c2, c3⟩ := n_clear (d := d + 98) (s := b)
        obtain ⟨t, t1, t2, t3⟩ := c_path (d := d + 97) hN hI (cQ_fr b2 c3 (by simp [pN]) (by intro k; simp [pN]) (by intro k; simp [pN])) c2 e1
        refine ⟨t, ?_, t2, fr_t b3 (fr_t (fr_m c3 (fun _ _ _ => pN_CQ)) (fr_m t3 (fun _ _ _ => pN_CQ)))⟩
        rw [hcl s h, hlo, if_pos (by decide), a1, bV_s, b1, bV_s, hf', bI_s, if_neg (m1_nn (by omega)), hst', bI_s, c1, bV_s, t1]
      · obtain ⟨a, a1, a2, a3, a4⟩ := hms s h
        obtain ⟨t, t1, t2, t3⟩ := m_path (d := d + 97) hN hI a2 e1
        refine ⟨t, ?_, t2, fr_t a3 (fr_m t3 (fun _ _ _ => pPt_RQ))⟩
        rw [hml s h, hlo, if_neg (by decide), a1, bV_s]
        exact m_first (d := d + 97) hN hI a2 (by
          rw [hfi]
          show bI (ev (d + 97 + 2) f_Ref_entersPath [vR 13 0, vI (nI (st.1.getD i 0))] a) _ = _
          rw [ex, t1, bI_s])
end FORMS

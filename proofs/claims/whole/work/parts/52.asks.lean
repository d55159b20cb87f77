/-! heard's notes: fits, asks. -/
section ASKS
def hst (w : Nat) : Nat := match w with
  | 0 => 5 | 1 => 5 | 2 => 3 | 3 => 5 | _ => 1
def hOk (h : Nat) (hq : Nat → Nat × Nat) : Prop := h ≤ 12 ∧ ∀ i, i < h → (hq i).1 ≤ 4 ∧ (hq i).2 ≤ hst (hq i).1
theorem hst_le (w : Nat) : hst w ≤ 5 := by unfold hst; split <;> decide
def cH (s : xS) (h : Nat) (hq : Nat → Nat × Nat) : Prop := s.1 12 0 1 = nI h ∧ ∀ i, i < h → s.1 40 0 i = nI (10 * (hq i).1 + (hq i).2)
def rH (s : xS) (h : Nat) (hq : Nat → Nat × Nat) : Prop := s.1 13 0 55 = nI h ∧ ∀ i, i < h → s.1 68 0 i = nI (hq i).1 ∧ s.1 69 0 i = nI (hq i).2
theorem cH_fr {p : Nat → Nat → Nat → Prop} {s t : xS} {q : Nat} {sq : Nat → Nat × Nat} (h : cH s q sq) (g : fr p s t) (h1 : ¬ p 12 0 1) (h2 : ∀ k, ¬ p 40 0 k) : cH t q sq :=
  ⟨by rw [(g _ _ _ h1).1]; exact h.1, fun i hi => by rw [(g _ _ _ (h2 _)).1]; exact h.2 i hi⟩
theorem rH_fr {p : Nat → Nat → Nat → Prop} {s t : xS} {q : Nat} {sq : Nat → Nat × Nat} (h : rH s q sq) (g : fr p s t) (h1 : ¬ p 13 0 55) (h2 : ∀ k, ¬ p 68 0 k) (h3 : ∀ k, ¬ p 69 0 k) : rH t q sq :=
  ⟨by rw [(g _ _ _ h1).1]; exact h.1, fun i hi => by rw [(g _ _ _ (h2 _)).1, (g _ _ _ (h3 _)).1]; exact h.2 i hi⟩
def isS (C : Nat) (F W V : Nat → Nat) (lo p w v : Nat) : Bool := match w with
  | 0 => decide (F p / C = v)
  | 1 => decide (F p % C = v)
  | 2 => decide (W p = v)
  | 3 => (V p).testBit v
  | _ => decide (b1 (lo.testBit p) = v)
def fitP (C : Nat) (F W V : Nat → Nat) (lo h : Nat) (hq : Nat → Nat × Nat) (p : Nat) : Bool := allN (fun i => isS C F W V lo p (hq i).1 (hq i).2) h
variable {d n lo R C h p w v : Nat} {F W V : Nat → Nat} {kd : Nat → Nat} {M : Int32} {s : xS} {L : List Nat} {l : List Int64} {hq : Nat → Nat × Nat} {x y z : Int32}
theorem c_isSo (hG : cG s R C kd) (hO : cO s 0 n F W V lo M) (ho : oOk R C kd n F W V lo) (hp : p < n) (hw : w ≤ 4) (hv : v ≤ hst w) : ev (d + 3) f_Main_isSo [vR 0 0, vI (nI p), vI (nI (10 * w + v))] s = some (some (vI (ib (isS C F W V lo p w v))), s) := by
  have hn := ho.1
  have b36 := gOk_36 hG.1
  obtain ⟨hF, _, hW, hV⟩ := ho.2.2.1 p hp
  have hC := hG.1.2.2
  have h5 := hst_le w
  have e1 : nI (10 * w + v) / 10 = nI w := by
    have : nI (10 * w + v) / nI 10 = nI ((10 * w + v) / 10) := n_div (by omega) (by omega) (by omega)
    rw [show (10 * w + v) / 10 = w by omega] at this; exact this
  have e2 : jrem (nI (10 * w + v)) 10 = nI v := by
    have : jrem (nI (10 * w + v)) (nI 10) = nI ((10 * w + v) % 10) := n_rem (by omega) (by omega) (by omega)
    rw [show (10 * w + v) % 10 = v by omega] at this; exact this
  have hdc : F p / C < 36 := Nat.lt_of_le_of_lt (Nat.div_le_self _ _) (by omega)
  have hmc : F p % C < 36 := Nat.lt_of_le_of_lt (Nat.mod_le _ _) (by omega)
  rw [Main_isSo_eq, if_neg (by decide), if_neg (by decide), e1, e2, nb_0, nb_1]
  have fin : ∀ (a b : Nat), a < 100 → b < 100 → (if nI a = nI b then some (some (vI (ib true)), s) else some (some (vI (ib false)), s)) = some (some (vI (ib (decide (a = b)))), s) := by
    intro a b ha hb
    by_cases q : a = b
    · rw [if_pos (of_eq_true (eq_t q)), decide_eq_true q]
    · rw [if_neg (of_eq_false (eq_f q (by omega) (by omega))), decide_eq_false q]
  match w, hw, hv with
  | 0, _, hv => rw [if_pos (by decide), o_fieldOf hO hn hp, bI_s, g_rowOf hG hF, bI_s]; exact fin _ _ (by omega) (by omega)
  | 1, _, hv => rw [if_neg (by decide), if_pos (by decide), o_fieldOf hO hn hp, bI_s, g_columnOf hG hF, bI_s]; exact fin _ _ (by omega) (by omega)
  | 2, _, hv => rw [if_neg (by decide), if_neg (by decide), if_pos (by decide), o_wayOf hO hn hp, bI_s]; exact fin _ _ (by omega) (by omega)
  | 3, _, hv =>
    rw [if_neg (by decide), if_neg (by decide), if_neg (by decide), if_pos (by decide), o_viewsOf hO hn hp, bI_s]
    show _ = some (some (vI (ib ((V p).testBit v))), s)
    cases hb : (V p).testBit v with
    | true => rw [if_pos ((j_bit1 (by omega) (by omega)).mpr hb)]
    | false => rw [if_neg (fun z => by rw [(j_bit1 (by omega) (by omega)).mp z] at hb; cases hb)]
  | 4, _, hv =>
    have hv1 : v ≤ 1 := hv
    rw [if_neg (by decide), if_neg (by decide), if_neg (by decide), if_neg (by decide), o_isLoose hO hn ho.2.1 hp, bI_s]
    show _ = some (some (vI (ib (decide (b1 (lo.testBit p) = v)))), s)
    by_cases q : v = 1
    · subst q
      rw [if_pos (by rfl)]
      cases lo.testBit p <;> rfl
    · have : v = 0 := by omega
      subst this
      rw [if_neg (by decide)]
      cases lo.testBit p <;> rfl
theorem m_isSo (hG : rG s R C kd) (hO : rO s 0 n F W V lo M) (ho : oOk R C kd n F W V lo) (hp : p < n) (hw : w ≤ 4) (hv : v ≤ hst w) : ev (d + 3) f_Ref_isSo [vR 13 0, vI (nI p), vI (nI w), vI (nI v)] s = some (some (vI (ib (isS C F W V lo p w v))), s) := by
  have hn := ho.1
  have b36 := gOk_36 hG.1
  obtain ⟨hF, _, hW, hV⟩ := ho.2.2.1 p hp
  have hC := hG.1.2.2
  have h5 := hst_le w
  have hdc : F p / C < 36 := Nat.lt_of_le_of_lt (Nat.div_le_self _ _) (by omega)
  have hmc : F p % C < 36 := Nat.lt_of_le_of_lt (Nat.mod_le _ _) (by omega)
  have hc0 : ¬ nI C = 0 := of_eq_false (eq_f (b := 0) (by omega) (by omega) (by omega))
  rw [Ref_isSo_eq, nb_0, nb_1]
  have fin : ∀ (a b : Nat), a < 100 → b < 100 → (if nI a = nI b then some (some (vI (ib true)), s) else some (some (vI (ib false)), s)) = some (some (vI (ib (decide (a = b)))), s) := by
    intro a b ha hb
    by_cases q : a = b
    · rw [if_pos (of_eq_true (eq_t q)), decide_eq_true q]
    · rw [if_neg (of_eq_false (eq_f q (by omega) (by omega))), decide_eq_false q]
  match w, hw, hv with
  | 0, _, hv => rw [if_pos (by decide), in_t (show p < 17 by omega) (by omega), if_pos rfl, n_cl (by omega), (hO.2.1 p hp).1, hG.2.2.1, if_neg hc0, n_div (by omega) (by omega) (by omega)]; exact fin _ _ (by omega) (by omega)
  | 1, _, hv => rw [if_neg (by decide), if_pos (by decide), in_t (show p < 17 by omega) (by omega), if_pos rfl, n_cl (by omega), (hO.2.1 p hp).1, hG.2.2.1, if_neg hc0, n_rem (by omega) (by omega) (by omega)]; exact fin _ _ (by omega) (by omega)
  | 2, _, hv => rw [if_neg (by decide), if_neg (by decide), if_pos (by decide), nl_4, nI_add, in_t (show 4 + p < 17 by omega) (by omega), if_pos rfl, n_cl (by omega), (hO.2.1 p hp).2]; exact fin _ _ (by omega) (by omega)
  | 3, _, hv => rw [if_neg (by decide), if_neg (by decide), if_neg (by decide), if_pos (by decide), nl_8, nI_add, in_t (show 8 + p < 17 by omega) (by omega), if_pos rfl, n_cl (by omega), (hO.2.2.1 p (by omega)).1, m_hasI (by omega) (by omega), bI_s, nb_ib]; rfl
  | 4, _, hv =>
    have hv1 : v ≤ 1 := hv
    have hb : b1 (lo.testBit p) ≤ 1 := by cases lo.testBit p <;> decide
    rw [if_neg (by decide), if_neg (by decide), if_neg (by decide), if_neg (by decide), nl_12, nI_add, in_t (show 12 + p < 17 by omega) (by omega), if_pos rfl, n_cl (by omega), (hO.2.2.1 p (by omega)).2]
    exact fin _ _ (by omega) (by omega)
theorem c_getH (hH : cH s h hq) (hk : hOk h hq) {i : Nat} (hi : i < h) : ev (d + 1) f_Notes_get [vR 12 0, vI (nI i)] s = some (some (vI (nI (10 * (hq i).1 + (hq i).2))), s) := by
  have := hk.1
  rw [Notes_getT_eq, nl_0, if_neg (of_eq_false (lt_f (Nat.zero_le i) (by omega))), hH.1, if_pos (of_eq_true (lt_t hi (by omega))), in_t (show i < 12 by omega) (by omega), if_pos rfl, n_cl (by omega), hH.2 i hi]
theorem bits_16 (p : Nat → Bool) (hn : n ≤ 4) : bitsN p n < 16 := Nat.lt_of_lt_of_le (bitsN_lt p n) (Nat.pow_le_pow_right (by omega) hn)
theorem c_fitP (hG : cG s R C kd) (hO : cO s 0 n F W V lo M) (ho : oOk R C kd n F W V lo) (hH : cH s h hq) (hk : hOk h hq) : ev (d + 4) f_Main_fittingPrams [vR 0 0] s = some (some (vI (nI (bitsN (fitP C F W V lo h hq) n))), s) := by
  have hn := ho.1
  have h12 := hk.1
  rw [Main_fittingPrams_eq]
  refine (chain n (fun p => Main_fittingPrams_L1 (d + 3) (nI (bitsN (fitP C F W V lo h hq) p)) (nI p) s) ?_).trans ?_
  · intro p hp
    show Main_fittingPrams_L1 _ _ _ _ = Main_fittingPrams_L1 _ (nI (bitsN (fitP C F W V lo h hq) p ||| (bif fitP C F W V lo h hq p then 2 ^ p else 0))) _ _
    rw [Main_fittingPrams_L1_eq, hO.1, if_pos (of_eq_true (lt_t hp (by omega)))]
    refine (chain h (fun k => Main_fittingPrams_L2 (d + 3) (nI (bitsN (fitP C F W V lo h hq) p)) (nI p) (ib (allN (fun i => isS C F W V lo p (hq i).1 (hq i).2) k)) (nI k) s) ?_).trans ?_
    · intro k hkk
      obtain ⟨g1, g2⟩ := hk.2 k hkk
      show Main_fittingPrams_L2 _ _ _ _ _ _ = Main_fittingPrams_L2 _ _ _ _ _ _
      rw [Main_fittingPrams_L2_eq, hH.1, if_pos (of_eq_true (lt_t hkk (by omega))), allN_s]
      cases ha : allN (fun i => isS C F W V lo p (hq i).1 (hq i).2) k with
      | false => rw [if_pos (by decide), nI_1]; rfl
      | true =>
        rw [if_neg (by decide), c_getH hH hk hkk, bI_s, c_isSo hG hO ho hp g1 g2, bI_s, nI_1]
        cases isS C F W V lo p (hq k).1 (hq k).2 with
        | false => rw [if_pos (by decide)]; rfl
        | true => rw [if_neg (by decide)]; rfl
    · show Main_fittingPrams_L2 _ _ _ _ _ _ = _
      rw [Main_fittingPrams_L2_eq, hH.1, if_neg (of_eq_false (lt_f (Nat.le_refl _) (by omega))), nI_1]
      show (if ib (fitP C F W V lo h hq p) = 0 then _ else _) = _
      cases fitP C F W V lo h hq p with
      | false => rw [if_pos (by decide), nl_0, n_or0, cond_false, Nat.or_zero]
      | true => rw [if_neg (by decide), j_1shl (by omega), fa_or]; rfl
  · show Main_fittingPrams_L1 _ _ _ _ = _
    rw [Main_fittingPrams_L1_eq, hO.1, if_neg (of_eq_false (lt_f (Nat.le_refl _) (by omega)))]
theorem m_fitP (hG : rG s R C kd) (hO : rO s 0 n F W V lo M) (ho : oOk R C kd n F W V lo) (hH : rH s h hq) (hk : hOk h hq) : ev (d + 4) f_Ref_fitting [vR 13 0] s = some (some (vI (nI (bitsN (fitP C F W V lo h hq) n))), s) := by
  have hn := ho.1
  have h12 := hk.1
  rw [Ref_fitting_eq]
  refine (chain n (fun p => Ref_fitting_L1 (d + 3) (nI (bitsN (fitP C F W V lo h hq) p)) (nI p) s) ?_).trans ?_
  · intro p hp
    show Ref_fitting_L1 _ _ _ _ = Ref_fitting_L1 _ (nI (bitsN (fitP C F W V lo h hq) p ||| (bif fitP C F W V lo h hq p then 2 ^ p else 0))) _ _
    rw [Ref_fitting_L1_eq, hO.1, if_pos (of_eq_true (lt_t hp (by omega)))]
    refine (chain h (fun k => Ref_fitting_L2 (d + 3) (nI (bitsN (fitP C F W V lo h hq) p)) (nI p) (ib (allN (fun i => isS C F W V lo p (hq i).1 (hq i).2) k)) (nI k) s) ?_).trans ?_
    · intro k hkk
      obtain ⟨g1, g2⟩ := hk.2 k hkk
      show Ref_fitting_L2 _ _ _ _ _ _ = Ref_fitting_L2 _ _ _ _ _ _
      rw [Ref_fitting_L2_eq, hH.1, if_pos (of_eq_true (lt_t hkk (by omega))), allN_s]
      cases ha : allN (fun i => isS C F W V lo p (hq i).1 (hq i).2) k with
      | false => rw [if_pos (by decide), nI_1]; rfl
      | true =>
        rw [if_neg (by decide), in_t (show k < 12 by omega) (by omega), if_pos rfl, if_pos rfl, n_cl (by omega), (hH.2 k hkk).1, (hH.2 k hkk).2, m_isSo hG hO ho hp g1 g2, bI_s, nI_1]
        cases isS C F W V lo p (hq k).1 (hq k).2 with
        | false => rw [if_pos (by decide)]; rfl
        | true => rw [if_neg (by decide)]; rfl
    · show Ref_fitting_L2 _ _ _ _ _ _ = _
      rw [Ref_fitting_L2_eq, hH.1, if_neg (of_eq_false (lt_f (Nat.le_refl _) (by omega))), nI_1]
      show (if ib (fitP C F W V lo h hq p) = 0 then _ else _) = _
      cases fitP C F W V lo h hq p with
      | false => rw [if_pos (by decide), nl_0, n_or0, cond_false, Nat.or_zero]
      | true => rw [if_neg (by decide), j_1shl (by omega), fa_or]; rfl
  · show Ref_fitting_L1 _ _ _ _ = _
    rw [Ref_fitting_L1_eq, hO.1, if_neg (of_eq_false (lt_f (Nat.le_refl _) (by omega)))]
theorem q_fits (ho : oOk R C kd n F W V lo) (hk : hOk h hq) : ∃ a r, (∀ s, CQ s R C kd n F W V lo M L l → cH s h hq → QC s (ev (d + 9) f_Main_fits [vR 0 0] s) a r) ∧ (∀ s, RQ s R C kd n F W V lo M L l → rH s h hq → QR s (ev (d + 9) f_Ref_fits [vR 13 0] s) a r) := by
  have b16 := bits_16 (fitP C F W V lo h hq) ho.1
  have pl := pc_le (bitsN (fitP C F W V lo h hq) n)
  refine ⟨nI (bitsN (fitP C F W V lo h hq) n), [lN (pc (bitsN (fitP C F W V lo h hq) n))], fun s h hS => ?_, fun s h hS => ?_⟩
  · obtain ⟨v, e2, e3, e4⟩ := n_tellOne (d := d + 6) (s := s) (x := lN (pc (bitsN (fitP C F W V lo _ hq) n)))
    refine ⟨v, ?_, e3, fr_m e4 (fun _ _ _ => pN_CQ)⟩
    rw [Main_fits_eq, c_fitP h.1 h.2.1 ho hS hk, bI_s, bc_s (by omega), bI_s, nI_l (by omega), e2, bV_s]
  · have hS0 := rH_fr hS fr_0 (by unfold p0; omega) (by intro k; unfold p0; omega) (by intro k; unfold p0; omega)
    obtain ⟨hG, hO, _⟩ := RQ_0 h
    obtain ⟨v1, g1, g4, g5⟩ := m_ent1 (d + 7) (wI s 13 0 0 0) (lN (pc (bitsN (fitP C F W V lo _ hq) n)))
    refine ⟨v1, ?_, g4, fr_t (fr_m fr_0 (fun _ _ _ => p0_RQ)) (fr_m g5 (fun _ _ _ => pT_RQ))⟩
    rw [Ref_fits_eq, m_fitP hG hO ho hS0 hk, bI_s, bc_s (by omega), bI_s, nI_l (by omega), g1, bV_s]
end ASKS

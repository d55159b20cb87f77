/-! walk: acts are read by both. -/
section WALK
variable {d : Nat} {T E p y : Nat} {sg : Nat → Nat} {s t : xS}
/-- one act: where the reading stands, and what it tells -/
def acX (sg : Nat → Nat) (E p : Nat) : Nat × Option (Nat × Nat × Nat) := match fxS sg E p 5 with
  | none => (p, none)
  | some i => match dgt sg E (p + 1) 0 9 with
    | none => (p + 1, none)
    | some v => if i < 3 then (p + 2, some (i, v, 0)) else match dgt sg E (p + 2) 0 (if i = 5 then 5 else 3) with
      | none => (p + 2, none)
      | some w => (p + 3, some (i, v, w))
theorem fx_sg {j i : Nat} (h : fxS sg E p j = some i) : p < E ∧ i < (strL j).length ∧ (strL j).getD i 0 = sg p := by
  unfold fxS at h
  by_cases z : p < E
  · rw [if_pos z] at h
    obtain ⟨a, b, _⟩ := fst_some h
    exact ⟨z, a, of_decide_eq_true b⟩
  · rw [if_neg z] at h; cases h
theorem fx_no {j : Nat} (h : fxS sg E p j = none) (hp : p < E) : ∀ k, k < (strL j).length → (strL j).getD k 0 ≠ sg p := by
  unfold fxS at h
  rw [if_pos hp] at h
  exact fun k hk => of_decide_eq_false (fst_none h k hk)
def hsI (c : Int32) : Int32 := if c = 112 then 3 else if c = 116 then 3 else if c = 102 then 5 else -1
theorem c_hs (c : Int32) : ev (d + 1) f_Deeds_highestSecond [vI c] s = some (some (vI (hsI c)), s) := by
  rw [Deeds_highestSecond_eq]
  unfold hsI
  exact if_v rfl (if_v rfl (if_v rfl rfl))
theorem c_isKind (h : cX s T sg E p) : ev (d + 2) f_Deeds_isKind [vI (hrI sg E p)] s = some (some (vI (ib (fxS sg E p 5).isSome)), s) := by
  have h6 := h.2.2.2.1.2
  have h7 := h.2.2.2.2.1
  have hb : ∀ x : Int32, ev (d + 2) f_Deeds_isKind [vI x] s = some (some (vI (if x = 110 then ib true else if x = 108 then ib true else if x = 99 then ib true else if hsI x = -1 then ib false else ib true)), s) := fun x => by
    rw [Deeds_isKind_eq, nb_1, nb_0, c_hs, bI_s]
    exact if_v rfl (if_v rfl (if_v rfl (if_v rfl rfl)))
  rw [hb]
  have hk : ((List.range 256).all fun c => decide ((if nI c = 110 then ib true else if nI c = 108 then ib true else if nI c = 99 then ib true else if hsI (nI c) = -1 then ib false else ib true) = ib (fst (fun k => decide ((strL 5).getD k 0 = c)) 6).isSome)) = true := by decide +kernel
  unfold hrI fxS
  by_cases e : p < E
  · rw [if_pos e, if_pos e, of_decide_eq_true (all_r hk (h6 p (by omega)))]; rfl
  · rw [if_neg e, if_neg e]; rfl
theorem ac_h : ∀ i, i < 6 → hsI (nI ((strL 5).getD i 0)) = if i < 3 then -1 else if i = 5 then 5 else 3 := by
  have : ((List.range 6).all fun i => decide (hsI (nI ((strL 5).getD i 0)) = if i < 3 then -1 else if i = 5 then 5 else 3)) = true := by decide +kernel
  exact fun i hi => of_decide_eq_true (all_r this hi)
theorem hr_i {i : Nat} (h : fxS sg E p 5 = some i) : hrI sg E p = nI ((strL 5).getD i 0) ∧ i < 6 := by
  obtain ⟨a, b, c⟩ := fx_sg h
  unfold hrI
  rw [if_pos a, c]
  exact ⟨rfl, b⟩
theorem dgt_st {lo hi : Nat} {v : Nat} (hh : hi < 10) (h : dgt sg E p lo hi = some v) : v < 256 ∧ p < E := by
  have := dgt_v h
  exact ⟨by omega, by omega⟩
theorem c_act1 (h : cX s T sg E p) : ∃ t, ev (d + 5) f_Main_readsAct [vR 0 0] s = some (some (vI (ib (acX sg E p).2.isSome)), t) ∧ cX t T sg E (acX sg E p).1 ∧ fr (fun c _ k => c = 1 ∧ k = 3) s t := by
  unfold acX
  have e0 : ev (d + 5) f_Main_readsAct [vR 0 0] s = if ib (fxS sg E p 5).isSome = 0 then some (some (vI (x_nb 0)), s) else bV (ev (d + 4) f_Text_step [vR 1 0] s) fun s5 => bI (ev (d + 4) f_Text_takeDigit [vR 1 0, vI 0, vI 9] s5) fun r7 s6 => if (r7 : Int32) = (-1) then some (some (vI (x_nb 0)), s6) else bI (ev (d + 4) f_Deeds_highestSecond [vI (hrI sg E p)] s6) fun r9 s8 => if (r9 : Int32) = (-1) then some (some (vI (x_nb 1)), s8) else bI (ev (d + 4) f_Text_takeDigit [vR 1 0, vI 0, vI r9] s8) fun r11 s10 => if (r11 : Int32) = (-1) then some (some (vI (x_nb 0)), s10) else some (some (vI (x_nb 1)), s10) := by
    rw [Main_readsAct_eq, c_here h, bI_s, c_isKind h, bI_s]
  rw [e0]
  cases hf : fxS sg E p 5 with
  | none =>
    refine ⟨s, ?_, h, fr_r _ _⟩
    rw [if_pos (by rfl), nb_0]; rfl
  | some i =>
    obtain ⟨hr, hi⟩ := hr_i hf
    obtain ⟨hp, _, _⟩ := fx_sg hf
    obtain ⟨q1, q2⟩ := c_stepX (d := d + 3) h hp
    obtain ⟨a, ea⟩ : ∃ a, wI s 1 0 3 (nI (p + 1)) = a := ⟨_, rfl⟩
    have fa : fr (fun c _ k => c = 1 ∧ k = 3) s a := by rw [← ea]; exact fr_wI (fr_r _ _) ⟨rfl, rfl⟩
    rw [ea] at q1 q2
    have t1 := c_takeX (d := d + 1) (lo := 0) (hi := 9) (by omega) (by omega) q2
    rw [if_neg (by intro z; cases z), q1, bV_s, hr]
    dsimp only
    cases hv : dgt sg E (p + 1) 0 9 with
    | none =>
      rw [hv, oI_n, if_pos rfl] at t1
      have t1' : ev (d + 4) f_Text_takeDigit [vR 1 0, vI 0, vI 9] a = some (some (vI (-1)), a) := t1
      refine ⟨a, ?_, q2, fa⟩
      rw [t1', bI_s, if_pos rfl, nb_0]; rfl
    | some v =>
      have hv' := dgt_v hv
      obtain ⟨b, eb⟩ : ∃ b, wI a 1 0 3 (nI (p + 1 + 1)) = b := ⟨_, rfl⟩
      have fb : fr (fun c _ k => c = 1 ∧ k = 3) s b := by rw [← eb]; exact fr_wI fa ⟨rfl, rfl⟩
      have q3 := (c_stepX (d := 0) q2 hv'.1).2
      rw [hv, oI_s, if_neg (by intro z; cases z), eb] at t1
      rw [eb] at q3
      have t1' : ev (d + 4) f_Text_takeDigit [vR 1 0, vI 0, vI 9] a = some (some (vI (nI v)), b) := t1
      rw [t1', bI_s, if_neg (m1_nn (by omega)), c_hs, bI_s, ac_h i hi]
      dsimp only
      by_cases z3 : i < 3
      · rw [if_pos z3, if_pos rfl, if_pos z3]
        exact ⟨b, by rw [nb_1]; rfl, q3, fb⟩
      · rw [if_neg z3, if_neg z3]
        have e5 : (if i = 5 then (5 : Int32) else 3) = nI (if i = 5 then 5 else 3) := by
          by_cases z5 : i = 5
          · rw [if_pos z5, if_pos z5]; rfl
          · rw [if_neg z5, if_neg z5]; rfl
        rw [e5]
        obtain ⟨h5, eh5⟩ : ∃ h5, (if i = 5 then 5 else 3) = h5 := ⟨_, rfl⟩
        have b5 : h5 < 10 := by rw [← eh5]; by_cases z5 : i = 5 <;> simp [z5]
        rw [eh5]
        have t2 := c_takeX (d := d + 1) (lo := 0) (hi := h5) (by omega) b5 q3
        rw [if_neg (m1_nn (by omega))]
        cases hw : dgt sg E (p + 2) 0 h5 with
        | none =>
          rw [show p + 1 + 1 = p + 2 from rfl, hw, oI_n, if_pos rfl] at t2
          have t2' : ev (d + 4) f_Text_takeDigit [vR 1 0, vI 0, vI (nI h5)] b = some (some (vI (-1)), b) := t2
          refine ⟨b, ?_, q3, fb⟩
          rw [t2', bI_s, if_pos rfl, nb_0]; rfl
        | some w =>
          have hw' := dgt_st b5 hw
          rw [show p + 1 + 1 = p + 2 from rfl, hw, oI_s, if_neg (by intro z; cases z)] at t2
          have t2' : ev (d + 4) f_Text_takeDigit [vR 1 0, vI 0, vI (nI h5)] b = some (some (vI (nI w)), wI b 1 0 3 (nI (p + 2 + 1))) := t2
          refine ⟨wI b 1 0 3 (nI (p + 2 + 1)), ?_, (c_stepX (d := 0) q3 hw'.2).2, fr_wI fb ⟨rfl, rfl⟩⟩
          rw [t2', bI_s, if_neg (m1_nn (by omega)), nb_1]; rfl
theorem m_isDigit (h : rX s sg E p) : ev (d + 2) f_Ref_isDigit [vR 13 0] s = some (some (vI (ib (dgt sg E p 0 9).isSome)), s) := by
  obtain ⟨h1, h2, h3, h4, h5, h6⟩ := h
  rw [Ref_isDigit_eq, h1, h2]
  by_cases e : p < E
  · have hs := h6 p e
    have hin : (decide ((nI 48).toInt64 ≤ (nI (sg p)).toInt64) && decide ((nI (sg p)).toInt64 ≤ (nI 57).toInt64)) = (dgt sg E p 0 9).isSome := by
      rw [decide_eq_decide.mpr (fa_wide_le _ _), decide_eq_decide.mpr (fa_wide_le _ _)]
      have hc : ((List.range 256).all fun c => (decide (nI 48 ≤ nI c) && decide (nI c ≤ nI 57)) == decide (48 + 0 ≤ c ∧ c ≤ 48 + 9)) = true := by decide +kernel
      have hc' := all_r hc hs
      rw [beq_iff_eq] at hc'
      rw [hc']
      unfold dgt
      by_cases z : 48 + 0 ≤ sg p ∧ sg p ≤ 48 + 9
      · rw [decide_eq_true z, if_pos ⟨e, z⟩]; rfl
      · rw [decide_eq_false z, if_neg (fun y => z y.2)]; rfl
    rw [if_pos (of_eq_true (lt_t e (by omega))), in_t (show p < 80 by omega) (by omega), if_pos rfl, n_cl (by omega), h3 p e]
    have hm : ev (d + 1) f_Ref_in [vL (nI (sg p)).toInt64, vL 48, vL 57] s = some (some (vI (ib (dgt sg E p 0 9).isSome)), s) := by
      rw [← hin]; exact m_in _ _ _
    rw [hm, bI_s]
    cases (dgt sg E p 0 9).isSome with
    | true => rw [if_neg (by decide), nb_1]
    | false => rw [if_pos (by decide), nb_0]
  · have hd : dgt sg E p 0 9 = none := if_neg (fun y => e y.1)
    rw [if_neg (of_eq_false (lt_f (by omega) (by omega))), hd, nb_0]; rfl
theorem m_number1 (h : rX s sg E p) : ev (d + 4) f_Ref_number [vR 13 0, vI 1] s = some (some (vI (oI (dgt sg E p 0 9))), if dgt sg E p 0 9 = none then s else wI s 13 0 12 (nI (p + 1))) := by
  rw [Ref_number_eq, m_isDigit h, bI_s]
  cases hd : dgt sg E p 0 9 with
  | none => rw [if_pos (by rfl), if_pos rfl, oI_n]
  | some v =>
    have hv := dgt_st (by omega) hd
    have hs : sg p = 48 + v := by
      unfold dgt at hd
      by_cases z : p < E ∧ 48 + 0 ≤ sg p ∧ sg p ≤ 48 + 9
      · rw [if_pos z] at hd
        have := Option.some.inj hd
        omega
      · rw [if_neg z] at hd; cases hd
    obtain ⟨h1, h2, h3, h4, h5, h6⟩ := h
    rw [if_neg (by intro z; cases z), Ref_number_L1_eq, if_pos (by decide), m_isDigit ⟨h1, h2, h3, h4, h5, h6⟩, bI_s, hd, if_neg (by intro z; cases z), h1, in_t (show p < 80 by omega) (by omega), if_pos rfl, n_cl (by omega), h3 p hv.2, Ref_number_L1_eq, if_neg (by decide), hs, nI_1, if_neg (by intro z; cases z), oI_s, show (10 : Int32) * 0 = nI 0 from rfl, nI_add, nl_48, n_sub (by omega), show 0 + (48 + v) - 48 = v by omega]
/-- the law's row of acts -/
def acR (s : xS) (y : Nat) (a : Nat × Nat × Nat) : Prop := a.1 < 6 ∧ a.2.1 ≤ 9 ∧ s.1 51 0 y = nI a.1 ∧ s.1 52 0 y = nI a.2.1 ∧ (3 ≤ a.1 → s.1 53 0 y = nI a.2.2)
def pAy (y : Nat) (c _i k : Nat) : Prop := ((c = 51 ∨ c = 52 ∨ c = 53) ∧ y ≤ k) ∨ (c = 13 ∧ (k = 12 ∨ k = 33))
theorem m_act1 (h : rX s sg E p) (hy : s.1 13 0 33 = nI y) (hy6 : y < 60) : ∃ t, ev (d + 10) f_Ref_readsAct [vR 13 0] s = some (some (vI (ib (acX sg E p).2.isSome)), t) ∧ rX t sg E (acX sg E p).1 ∧ t.1 13 0 33 = nI (y + 1) ∧ (∀ a, (acX sg E p).2 = some a → acR t y a) ∧ fr (pAy y) s t := by
  have t1 := m_takesOf (d := d) (j := 5) (by omega) h
  unfold acX
  cases hf : fxS sg E p 5 with
  | none =>
    rw [hf, oI_n, if_pos rfl] at t1
    have f1 : fr (pAy y) s (wI (wI (wI s 51 0 y (-1)) 13 0 33 (nI (y + 1))) 52 0 y (-1)) := fr_wI (fr_wI (fr_wI (fr_r _ _) (by unfold pAy; omega)) (by unfold pAy; omega)) (by unfold pAy; omega)
    refine ⟨wI (wI (wI s 51 0 y (-1)) 13 0 33 (nI (y + 1))) 52 0 y (-1), ?_, ?_, by rw [wI_nc (by omega), wI_s1], fun a z => (by cases z), f1⟩
    · rw [Ref_readsAct_eq, t1, bI_s, hy, in_t hy6 (by omega), if_pos rfl, if_pos rfl, n_cl (by omega), wI_s1, if_pos (by decide), nI_1, Ref_readsAct_J1_eq, in_t hy6 (by omega), if_pos rfl, if_pos rfl, n_cl (by omega), wI_s1, if_pos (by decide), Ref_readsAct_J2_eq, in_t hy6 (by omega), if_pos rfl, n_cl (by omega), wI_s1, if_pos (by decide), nb_0]; rfl
    · exact rX_fr (r := fun c _ k => c = 51 ∨ c = 52 ∨ (c = 13 ∧ k = 33)) h (fr_wI (fr_wI (fr_wI (fr_r _ _) (by omega)) (by omega)) (by omega)) (by omega) (by omega) (by omega)
  | some i =>
    obtain ⟨hp, hi, _⟩ := fx_sg hf
    have hi : i < 6 := hi
    rw [hf, oI_s, if_neg (by intro z; cases z)] at t1
    obtain ⟨a, ea⟩ : ∃ a, wI (wI (wI s 13 0 12 (nI (p + 1))) 51 0 y (nI i)) 13 0 33 (nI (y + 1)) = a := ⟨_, rfl⟩
    have fa : fr (fun c _ k => (c = 51 ∧ k = y) ∨ (c = 13 ∧ (k = 12 ∨ k = 33))) s a := by rw [← ea]; exact fr_wI (fr_wI (fr_wI (fr_r _ _) (by omega)) (by omega)) (by omega)
    have ha : rX a sg E (p + 1) := by
      rw [← ea]
      exact rX_fr (r := fun c _ k => c = 51 ∨ (c = 13 ∧ k = 33)) (rX_st h hp) (fr_wI (fr_wI (fr_r _ _) (by omega)) (by omega)) (by omega) (by omega) (by omega)
    have a33 : a.1 13 0 33 = nI (y + 1) := by rw [← ea, wI_s1]
    have a51 : a.1 51 0 y = nI i := by rw [← ea, wI_nc (by omega), wI_s1]
    have n1 := m_number1 (d := d + 5) ha
    have s33 : (wI s 13 0 12 (nI (p + 1))).1 13 0 33 = nI y := by rw [wI_nk (by omega)]; exact hy
    have e0 : ev (d + 10) f_Ref_readsAct [vR 13 0] s = bI (ev (d + 9) f_Ref_number [vR 13 0, vI 1] a) fun r4 s3 => Ref_readsAct_J1 (d + 9) (nI y) r4 (nI y) s3 := by
      rw [Ref_readsAct_eq, t1, bI_s, hy, in_t hy6 (by omega), if_pos rfl, if_pos rfl, n_cl (by omega), wI_s1, if_neg (nI_pos (by omega)), s33, nI_1, ea]
    rw [e0, n1, bI_s]
    dsimp only
    cases hv : dgt sg E (p + 1) 0 9 with
    | none =>
      rw [oI_n, if_pos rfl, Ref_readsAct_J1_eq, in_t hy6 (by omega), if_pos rfl, if_pos rfl, n_cl (by omega), wI_s1, if_pos (by decide), Ref_readsAct_J2_eq, in_t hy6 (by omega), if_pos rfl, n_cl (by omega), wI_s1, if_pos (by decide), nb_0]
      exact ⟨_, rfl, rX_fr (r := fun c _ _ => c = 52) ha (fr_wI (fr_r _ _) rfl) (by omega) (by omega) (by omega), by rw [wI_nc (by omega)]; exact a33, fun a z => (by cases z), fr_wI (fr_m fa (by unfold pAy; omega)) (by unfold pAy; omega)⟩
    | some v =>
      have hv' := dgt_v hv
      obtain ⟨b, eb⟩ : ∃ b, wI (wI a 13 0 12 (nI (p + 1 + 1))) 52 0 y (nI v) = b := ⟨_, rfl⟩
      have fb : fr (fun c _ k => (c = 52 ∧ k = y) ∨ (c = 13 ∧ k = 12)) a b := by rw [← eb]; exact fr_wI (fr_wI (fr_r _ _) (by omega)) (by omega)
      have hb : rX b sg E (p + 2) := by
        rw [← eb]
        exact rX_fr (r := fun c _ _ => c = 52) (rX_st ha hv'.1) (fr_wI (fr_r _ _) rfl) (by omega) (by omega) (by omega)
      have b33 : b.1 13 0 33 = nI (y + 1) := by rw [(fb 13 0 33 (by omega)).1]; exact a33
      have b51 : b.1 51 0 y = nI i := by rw [(fb 51 0 y (by omega)).1]; exact a51
      have b52 : b.1 52 0 y = nI v := by rw [← eb, wI_s1]
      have w51 : (wI a 13 0 12 (nI (p + 1 + 1))).1 51 0 y = nI i := by rw [wI_nc (by omega)]; exact a51
      have fsb : fr (pAy y) s b := fr_t (fr_m fa (by unfold pAy; omega)) (fr_m fb (by unfold pAy; omega))
      rw [oI_s, if_neg (by intro z; cases z), Ref_readsAct_J1_eq, in_t hy6 (by omega), if_pos rfl, if_pos rfl, n_cl (by omega), wI_s1, if_neg (nI_pos (by omega)), if_pos rfl, w51, eb]
      dsimp only
      by_cases z3 : i < 3
      · rw [if_pos (show nI i < 3 from of_eq_true (lt_t (b := 3) z3 (by omega))), Ref_readsAct_J2_eq, in_t hy6 (by omega), if_pos rfl, n_cl (by omega), b52, if_neg (nI_pos (by omega)), nb_1, if_pos z3]
        exact ⟨b, rfl, hb, b33, fun a z => by
          have z := Option.some.inj z
          rw [← z]
          exact ⟨hi, hv'.2.2, b51, b52, fun z => by omega⟩, fsb⟩
      · have e5 : (if nI i = 5 then Ref_readsAct_J3 (d + 9) (nI y) 5 0 (nI y) b else Ref_readsAct_J3 (d + 9) (nI y) 3 0 (nI y) b) = Ref_readsAct_J3 (d + 9) (nI y) (nI (if i = 5 then 5 else 3)) (nI 0) (nI y) b := by
          by_cases z5 : i = 5
          · rw [if_pos z5, if_pos (show nI i = 5 from congrArg nI z5)]; rfl
          · rw [if_neg z5, if_neg (show ¬ nI i = 5 from of_eq_false (eq_f (b := 5) z5 (by omega) (by omega)))]; rfl
        rw [if_neg (show ¬ nI i < 3 from of_eq_false (lt_f (b := 3) (by omega) (by omega))), if_pos rfl, e5, if_neg z3]
        obtain ⟨h5, eh5⟩ : ∃ h5, (if i = 5 then 5 else 3) = h5 := ⟨_, rfl⟩
        have b5 : h5 < 10 := by rw [← eh5]; by_cases z5 : i = 5 <;> simp [z5]
        rw [eh5]
        have t2 := m_digitX (d := d + 6) (lo := 0) (hi := h5) (by omega) b5 hb
        rw [Ref_readsAct_J3_eq, t2, bI_s, in_t hy6 (by omega), if_pos rfl, if_pos rfl, n_cl (by omega), wI_s1]
        cases hw : dgt sg E (p + 2) 0 h5 with
        | none =>
          rw [oI_n, if_pos (by decide), if_pos rfl, nb_0]
          exact ⟨_, rfl, rX_fr (r := fun c _ _ => c = 53) hb (fr_wI (fr_r _ _) rfl) (by omega) (by omega) (by omega), by rw [wI_nc (by omega)]; exact b33, fun a z => (by cases z), fr_wI fsb (by unfold pAy; omega)⟩
        | some w =>
          have hw' := dgt_st b5 hw
          rw [oI_s, if_neg (nI_pos (by omega)), if_neg (by intro z; cases z), nb_1]
          refine ⟨_, rfl, rX_fr (r := fun c _ _ => c = 53) (rX_st hb hw'.2) (fr_wI (fr_r _ _) rfl) (by omega) (by omega) (by omega), by rw [wI_nc (by omega), wI_nk (by omega)]; exact b33, fun a z => ?_, fr_wI (fr_wI fsb (by unfold pAy; omega)) (by unfold pAy; omega)⟩
          have z := Option.some.inj z
          rw [← z]
          exact ⟨hi, hv'.2.2, by rw [wI_nc (by omega), wI_nc (by omega)]; exact b51, by rw [wI_nc (by omega), wI_nc (by omega)]; exact b52, fun _ => wI_s1 _ _ _ _ _⟩
end WALK

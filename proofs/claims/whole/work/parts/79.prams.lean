/-! prams, whole. -/
section PRAMS
variable {d k : Nat} {R C n T u q nh : Nat} {kd : Nat → Nat} {S : Sn} {L : List Nat} {l : List Int64} {sg : Nat → Nat} {U : Nat → Sn} {K : Nat → Option Sn} {sq : Nat → Nat × Nat × Nat} {hq : Nat → Nat × Nat} {s t : xS} {p E N : Nat}
theorem n_minN {a b : Nat} (ha : a < 2147483648) (hb : b < 2147483648) : (if nI b < nI a then nI b else nI a) = nI (min a b) := by
  by_cases h : b < a
  · rw [if_pos (of_eq_true (lt_t h ha)), Nat.min_eq_right (by omega)]
  · rw [if_neg (of_eq_false (lt_f (by omega) hb)), Nat.min_eq_left (by omega)]
theorem c_openN (hN : N ≤ 80) (h : cT s T sg) (ht : tOk T sg) : ∃ t, ev (d + 2) f_Text_open [vR 1 0, vI (nI N)] s = some (none, t) ∧ cX t T sg (min T N) 0 ∧ fr (fun c _ k => c = 1 ∧ 2 ≤ k) s t := by
  have h80 := ht.1
  have f1 : fr (fun c _ k => c = 1 ∧ 2 ≤ k) s (wI (wI s 1 0 3 0) 1 0 2 (nI (min T N))) := fr_wI (fr_wI (fr_r _ _) (by omega)) (by omega)
  refine ⟨wI (wI s 1 0 3 0) 1 0 2 (nI (min T N)), ?_, ⟨cT_fr h f1 (by omega) (by omega), wI_s1 _ _ _ _ _, by rw [wI_nk (by omega), wI_s1]; rfl, ht, Nat.min_le_left _ _, Nat.zero_le _⟩, f1⟩
  rw [Text_open_eq, h.1, min_s, bI_s, n_minN (by omega) (by omega)]
def pTx (c _i k : Nat) : Prop := c = 13 ∧ (k = 0 ∨ k = 11 ∨ k = 12 ∨ k = 13 ∨ k = 14)
theorem m_beginsN (hN : N ≤ 80) (h : rT s T sg) (ht : tOk T sg) : ∃ t, ev (d + 2) f_Ref_begins [vR 13 0, vI (nI N)] (wI s 13 0 0 0) = some (some (vI (nI T)), t) ∧ rX t sg (min T N) 0 ∧ t.1 13 0 11 = 0 ∧ fr pTx s t := by
  have h80 := ht.1
  have hm := Nat.min_le_left T N
  have f1 : fr pTx s (wI (wI (wI (wI (wI s 13 0 0 0) 13 0 11 0) 13 0 12 0) 13 0 14 0) 13 0 13 (nI (min T N))) := fr_wI (fr_wI (fr_wI (fr_wI (fr_wI (fr_r _ _) (by simp [pTx])) (by simp [pTx])) (by simp [pTx])) (by simp [pTx])) (by simp [pTx])
  refine ⟨wI (wI (wI (wI (wI s 13 0 0 0) 13 0 11 0) 13 0 12 0) 13 0 14 0) 13 0 13 (nI (min T N)), ?_, ⟨by rw [wI_nk (by omega), wI_nk (by omega), wI_s1]; rfl, wI_s1 _ _ _ _ _, fun k hk => by rw [(f1 44 0 k (by simp [pTx])).1]; exact h.2 k (by omega), by omega, Nat.zero_le _, fun k hk => ht.2 k (by omega)⟩, by rw [wI_nk (by omega), wI_nk (by omega), wI_nk (by omega), wI_s1], f1⟩
  rw [Ref_begins_eq, wI_nk (by omega), h.1, min_s, bI_s, n_minN (by omega) (by omega)]
theorem m_takes {x : Nat} (hx : x < 256) (h : rX s sg E p) : ∃ t, ev (d + 2) f_Ref_takes [vR 13 0, vI (nI x)] s = some (some (vI (ib (decide (p < E ∧ sg p = x)))), t) ∧ rX t sg E (if p < E ∧ sg p = x then p + 1 else p) ∧ fr (fun c _ k => c = 13 ∧ k = 12) s t := by
  obtain ⟨h1, h2, h3, h4, h5, h6⟩ := h
  have hJ : ∀ b : Bool, Ref_takes_J1 (d + 1) (ib b) s = some (some (vI (ib b)), wI s 13 0 12 (nI p + ib b)) := fun b => by
    rw [Ref_takes_J1_eq, m_flag, bI_s, h1, nb_ib]
  have h0 := hJ false
  have h1' := hJ true
  have w0 : wI s 13 0 12 (nI p + ib false) = wI s 13 0 12 (nI p) := by rw [show ib false = nI 0 from rfl, nI_add]; rfl
  have w1 : wI s 13 0 12 (nI p + ib true) = wI s 13 0 12 (nI (p + 1)) := by rw [show ib true = nI 1 from rfl, nI_add]
  rw [w0] at h0
  rw [w1] at h1'
  rw [Ref_takes_eq, h1, h2]
  by_cases e : p < E
  · have hs := h6 p e
    rw [if_pos (of_eq_true (lt_t e (by omega))), in_t (show p < 80 by omega) (by omega), if_pos rfl, n_cl (by omega), h3 p e]
    by_cases z : sg p = x
    · rw [if_pos (of_eq_true (eq_t z)), if_pos ⟨e, z⟩, decide_eq_true ⟨e, z⟩]
      exact ⟨_, h1', rX_st ⟨h1, h2, h3, h4, h5, h6⟩ e, fr_wI (fr_r _ _) ⟨rfl, rfl⟩⟩
    · rw [if_neg (of_eq_false (eq_f z (by omega) (by omega))), if_neg (fun y => z y.2), decide_eq_false (fun y => z y.2)]
      exact ⟨_, h0, ⟨wI_s1 _ _ _ _ _, by rw [wI_nk (by omega)]; exact h2, fun k hk => by rw [wI_nc (by omega)]; exact h3 k hk, h4, h5, h6⟩, fr_wI (fr_r _ _) ⟨rfl, rfl⟩⟩
  · rw [if_neg (of_eq_false (lt_f (by omega) (by omega))), if_neg (fun y => e y.1), decide_eq_false (fun y => e y.1)]
    exact ⟨_, h0, ⟨wI_s1 _ _ _ _ _, by rw [wI_nk (by omega)]; exact h2, fun k hk => by rw [wI_nc (by omega)]; exact h3 k hk, h4, h5, h6⟩, fr_wI (fr_r _ _) ⟨rfl, rfl⟩⟩
theorem m_fault {b : Bool} (h : rX s sg E p) (hE : E = min T N) (hN : N ≤ 80) (hT : T ≤ 80) : ev (d + 1) f_Ref_faultOf [vR 13 0, vI (nI T), vI (nI N), vI (ib b)] s = some (some (vI (if b = true ∧ p = T then 0 else (-1) - nI p)), s) := by
  obtain ⟨h1, h2, h3, h4, h5, h6⟩ := h
  have hJ0 : Ref_faultOf_J1 d (nI T) (nI N) 0 s = some (some (vI ((-1) - nI p)), s) := by
    rw [Ref_faultOf_J1_eq]
    by_cases z : N < T
    · rw [if_pos (of_eq_true (lt_t z (by omega))), if_pos rfl, h1]
      by_cases y : p < N
      · rw [if_pos (of_eq_true (lt_t y (by omega))), Ref_faultOf_J2_eq, if_pos rfl, h1]
      · rw [if_neg (of_eq_false (lt_f (by omega) (by omega))), show p = N by omega]
    · rw [if_neg (of_eq_false (lt_f (by omega) (by omega))), Ref_faultOf_J2_eq, if_pos rfl, h1]
  rw [Ref_faultOf_eq]
  cases b with
  | false => rw [if_pos (by decide), hJ0, if_neg (fun y => by cases y.1)]
  | true =>
    rw [if_neg (by decide), h1, h2]
    by_cases e : p = E
    · rw [if_pos (of_eq_true (eq_t e)), Ref_faultOf_J1_eq]
      by_cases z : N < T
      · rw [if_pos (of_eq_true (lt_t z (by omega))), if_neg (by decide), if_neg (fun y => by omega), show p = N by omega]
      · rw [if_neg (of_eq_false (lt_f (by omega) (by omega))), Ref_faultOf_J2_eq, if_neg (by decide), if_pos ⟨rfl, by omega⟩]
    · rw [if_neg (of_eq_false (eq_f e (by omega) (by omega))), hJ0, if_neg (fun y => by omega)]
/-- the lines of a plan of prams: where the reading stands, and how many -/
def plX (R C : Nat) (kd sg : Nat → Nat) (T E : Nat) : Nat → Nat → Nat × Option Nat
  | 0, i => (4 * i, none)
  | j + 1, i => match lnX R C kd sg E (4 * i) with
    | (p, none) => (p, none)
    | (p, some _) => if p = T then (p, some (i + 1)) else if p < E ∧ sg p = 59 then plX R C kd sg T E j (i + 1) else (p, none)
theorem lnX_in {f w q : Nat} (hR : 1 ≤ R) (hC : 1 ≤ C) (h : lnX R C kd sg E p = (q, some (f, w))) : q = p + 3 ∧ p + 2 < E ∧ ∃ r c, sg p = 48 + r ∧ sg (p + 1) = 48 + c ∧ sg (p + 2) = 48 + w ∧ f = r * C + c ∧ f < R * C ∧ kd f ≠ 1 ∧ w < 4 := by
  have dv : ∀ {p lo hi v : Nat}, dgt sg E p lo hi = some v → sg p = 48 + v ∧ p < E ∧ v ≤ hi := fun {p lo hi v} h => by
    unfold dgt at h
    by_cases z : p < E ∧ 48 + lo ≤ sg p ∧ sg p ≤ 48 + hi
    · rw [if_pos z] at h
      have := Option.some.inj h
      omega
    · rw [if_neg z] at h; cases h
  unfold lnX at h
  cases hr : dgt sg E p 0 (R - 1) with
  | none => rw [hr] at h; cases h
  | some r =>
    rw [hr] at h
    have h : (match dgt sg E (p + 1) 0 (C - 1) with
      | none => (p + 1, none)
      | some c => if kd (r * C + c) = 1 then (p + 1, none) else match dgt sg E (p + 2) 0 3 with
        | none => (p + 2, none)
        | some w => (p + 3, some (r * C + c, w))) = (q, some (f, w)) := h
    cases hc : dgt sg E (p + 1) 0 (C - 1) with
    | none => rw [hc] at h; cases h
    | some c =>
      rw [hc] at h
      have h : (if kd (r * C + c) = 1 then (p + 1, none) else match dgt sg E (p + 2) 0 3 with
        | none => (p + 2, none)
        | some w => (p + 3, some (r * C + c, w))) = (q, some (f, w)) := h
      by_cases hk : kd (r * C + c) = 1
      · rw [if_pos hk] at h; cases h
      · rw [if_neg hk] at h
        cases hw : dgt sg E (p + 2) 0 3 with
        | none => rw [hw] at h; cases h
        | some v =>
          rw [hw] at h
          cases h
          have a := dv hr
          have b := dv hc
          have e := dv hw
          exact ⟨rfl, e.2.1, r, c, a.1, b.1, e.1, rfl, rc_lt (by omega) (by omega), hk, by omega⟩
theorem c_lines : ∀ (j i : Nat) (s : xS), n + i + j = 4 → cG s R C kd → cX s T sg E (4 * i) → ∃ t, Main_countLines_L1 (d + 5) (nI i) (nI (n + i)) s = some (some (vI (oI (plX R C kd sg T E j i).2)), t) ∧ cX t T sg E (plX R C kd sg T E j i).1 ∧ fr (fun c _ k => c = 1 ∧ k = 3) s t := by
  intro j
  induction j with
  | zero =>
    intro i s hj hG h
    refine ⟨s, ?_, h, fr_r _ _⟩
    rw [Main_countLines_L1_eq, if_neg (show ¬ nI (n + i) < 4 from of_eq_false (lt_f (b := 4) (by omega) (by omega)))]; rfl
  | succ j ih =>
    intro i s hj hG h
    obtain ⟨a, l1, l2, l3⟩ := c_line (d := d) hG h
    have h80 := h.2.2.2.1.1
    have hET := h.2.2.2.2.1
    cases hl : lnX R C kd sg E (4 * i) with
    | mk p o =>
      rw [hl] at l1 l2
      have l2 : cX a T sg E p := l2
      have hpE := l2.2.2.2.2.2
      cases o with
      | none =>
        have hp : plX R C kd sg T E (j + 1) i = (p, none) := by unfold plX; rw [hl]
        rw [hp]
        refine ⟨a, ?_, l2, l3⟩
        rw [Main_countLines_L1_eq, if_pos (show nI (n + i) < 4 from of_eq_true (lt_t (b := 4) (by omega) (by omega))), l1, bI_s, if_pos (by rfl)]; rfl
      | some v =>
        have hp : plX R C kd sg T E (j + 1) i = if p = T then (p, some (i + 1)) else if p < E ∧ sg p = 59 then plX R C kd sg T E j (i + 1) else (p, none) := by show (match lnX R C kd sg E (4 * i) with | (p, none) => (p, none) | (p, some _) => if p = T then (p, some (i + 1)) else if p < E ∧ sg p = 59 then plX R C kd sg T E j (i + 1) else (p, none)) = _; rw [hl]
        have he : Main_countLines_L1 (d + 5) (nI i) (nI (n + i)) s = bI (ev (d + 5) f_Text_isRead [vR 1 0] a) fun r5 s4 => if (r5 : Int32) = 0 then bI (ev (d + 5) f_Text_here [vR 1 0] s4) fun r7 s6 => if (r7 : Int32) = 59 then bV (ev (d + 5) f_Text_step [vR 1 0] s6) fun s8 => Main_countLines_L1 (d + 5) (nI i + 1) (nI (n + i) + 1) s8 else some (some (vI (-1)), s6) else some (some (vI (nI i + 1)), s4) := by
          rw [Main_countLines_L1_eq, if_pos (show nI (n + i) < 4 from of_eq_true (lt_t (b := 4) (by omega) (by omega))), l1, bI_s, if_neg (show ¬ ib (p, some v).2.isSome = 0 from (by decide : ¬ ib true = 0))]
        rw [hp, he, Text_isRead_eq, l2.2.2.1, l2.1.1]
        by_cases e : p = T
        · rw [if_pos (of_eq_true (eq_t e)), bI_s, if_neg (by decide), if_pos e]
          refine ⟨a, ?_, l2, l3⟩
          rw [nI_1, oI_s]
        · rw [if_neg (of_eq_false (eq_f e (by omega) (by omega))), bI_s, if_pos (by decide), if_neg e, c_here l2, bI_s]
          unfold hrI
          by_cases f : p < E ∧ sg p = 59
          · obtain ⟨q1, q2⟩ := c_stepX (d := d + 4) (p := p) l2 f.1
            have hp3 : p = 4 * i + 3 := (lnX_in (f := v.1) (w := v.2) (by have := hG.1.1; omega) (by have := hG.1.2.2.1; omega) hl).1
            have f1 : fr (fun c _ k => c = 1 ∧ k = 3) s (wI a 1 0 3 (nI (p + 1))) := fr_wI l3 ⟨rfl, rfl⟩
            obtain ⟨t, t1, t2, t3⟩ := ih (i + 1) (wI a 1 0 3 (nI (p + 1))) (by omega) (cG_fr hG f1 (by omega) (by omega) (by omega)) (by rw [show 4 * (i + 1) = p + 1 by omega]; exact q2)
            rw [if_pos f.1, if_pos (show nI (sg p) = 59 by rw [f.2]; rfl), q1, bV_s, if_pos f, nI_1, nI_1]
            exact ⟨t, t1, t2, fr_t f1 t3⟩
          · rw [if_neg f]
            refine ⟨a, ?_, l2, l3⟩
            by_cases g : p < E
            · have := h.2.2.2.1.2 p (by omega)
              rw [if_pos g, if_neg (show ¬ nI (sg p) = 59 from of_eq_false (eq_f (b := 59) (fun y => f ⟨g, y⟩) (by omega) (by omega)))]; rfl
            · rw [if_neg g, if_neg (by decide)]; rfl
end PRAMS

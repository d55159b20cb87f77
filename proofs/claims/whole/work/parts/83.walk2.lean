/-! walk: the acts are read and done, by both. -/
section WALKB
variable {d : Nat} {T E p y n R C : Nat} {kd sg : Nat → Nat} {S : Sn} {L : List Nat} {s t : xS}
def awX (sg : Nat → Nat) (T E : Nat) : Nat → Nat → Nat × Option (List (Nat × Nat × Nat))
  | 0, p => (p, none)
  | j + 1, p => if p = T then (p, some []) else match acX sg E p with
    | (p', none) => (p', none)
    | (p', some a) => match awX sg T E j p' with
      | (q, none) => (q, none)
      | (q, some as) => (q, some (a :: as))
theorem acX_p {q : Nat} {a : Nat × Nat × Nat} (h : acX sg E p = (q, some a)) : p + 2 ≤ q := by
  unfold acX at h
  cases hf : fxS sg E p 5 with
  | none => rw [hf] at h; cases h
  | some i =>
    rw [hf] at h
    have h : (match dgt sg E (p + 1) 0 9 with
      | none => (p + 1, none)
      | some v => if i < 3 then (p + 2, some (i, v, 0)) else match dgt sg E (p + 2) 0 (if i = 5 then 5 else 3) with
        | none => (p + 2, none)
        | some w => (p + 3, some (i, v, w))) = (q, some a) := h
    cases hv : dgt sg E (p + 1) 0 9 with
    | none => rw [hv] at h; cases h
    | some v =>
      rw [hv] at h
      have h : (if i < 3 then (p + 2, some (i, v, 0)) else match dgt sg E (p + 2) 0 (if i = 5 then 5 else 3) with
        | none => (p + 2, none)
        | some w => (p + 3, some (i, v, w))) = (q, some a) := h
      by_cases z3 : i < 3
      · rw [if_pos z3] at h
        have := (Prod.mk.inj h).1
        omega
      · rw [if_neg z3] at h
        generalize (if i = 5 then 5 else 3) = h5 at h
        cases hw : dgt sg E (p + 2) 0 h5 with
        | none => rw [hw] at h; cases h
        | some w =>
          rw [hw] at h
          have := (Prod.mk.inj h).1
          omega
theorem acX_e (h : E ≤ p) : acX sg E p = (p, none) := by
  have : fxS sg E p 5 = none := if_neg (by omega)
  unfold acX
  rw [this]
theorem c_reads (hE : E ≤ 60) : ∀ (j p y : Nat) (s : xS), cX s T sg E p → E < p + j → 2 * y ≤ p → ∃ t, Main_readsWalk_L1 (d + 5) (nI y) s = some (some (vI (ib (awX sg T E j p).2.isSome)), t) ∧ cX t T sg E (awX sg T E j p).1 ∧ fr (fun c _ k => c = 1 ∧ k = 3) s t := by
  intro j
  induction j with
  | zero =>
    intro p y s h hj _
    have := h.2.2.2.2.2
    omega
  | succ j ih =>
    intro p y s h hj hy
    have hp := h.2.2.2.2.2
    have h80 := h.2.2.2.1.1
    have hET := h.2.2.2.2.1
    rw [Main_readsWalk_L1_eq, if_pos (show nI y < 60 from of_eq_true (lt_t (b := 60) (by omega) (by omega))), Text_isRead_eq, h.2.2.1, h.1.1]
    unfold awX
    by_cases e : p = T
    · rw [if_pos (of_eq_true (eq_t e)), bI_s, if_neg (by decide), Text_isRead_eq, h.2.2.1, h.1.1, if_pos (of_eq_true (eq_t e)), bI_s, if_pos e]
      exact ⟨s, rfl, h, fr_r _ _⟩
    · rw [if_neg (of_eq_false (eq_f e (by omega) (by omega))), bI_s, if_pos (by decide), if_neg e]
      obtain ⟨a, a1, a2, a3⟩ := c_act1 (d := d) h
      rw [a1, bI_s]
      cases hA : acX sg E p with
      | mk q o =>
        rw [hA] at a2
        cases o with
        | none => exact ⟨a, by rw [if_pos (by rfl), nb_0]; rfl, a2, a3⟩
        | some v =>
          have hq := acX_p hA
          obtain ⟨t, t1, t2, t3⟩ := ih q (y + 1) a a2 (by omega) (by omega)
          rw [if_neg (by intro z; cases z), nI_1, t1]
          refine ⟨t, ?_, ?_, fr_t a3 t3⟩
          · show some (some (vI (ib (awX sg T E j q).2.isSome)), t) = some (some (vI (ib (match awX sg T E j q with | (q, none) => (q, none) | (q, some as) => (q, some (v :: as))).2.isSome)), t)
            cases awX sg T E j q with
            | mk q' o' => cases o' <;> rfl
          · show cX t T sg E (match awX sg T E j q with | (q, none) => (q, none) | (q, some as) => (q, some (v :: as))).1
            revert t2
            cases awX sg T E j q with
            | mk q' o' => cases o' <;> exact fun z => z
def acL (s : xS) (y : Nat) (as : List (Nat × Nat × Nat)) : Prop := ∀ k, k < as.length → acR s (y + k) (as.getD k (0, 0, 0))
theorem acR_fr {a : Nat × Nat × Nat} {r : Nat → Nat → Nat → Prop} (h : acR s y a) (f : fr r s t) (h1 : ¬ r 51 0 y) (h2 : ¬ r 52 0 y) (h3 : ¬ r 53 0 y) : acR t y a :=
  ⟨h.1, h.2.1, by rw [(f _ _ _ h1).1]; exact h.2.2.1, by rw [(f _ _ _ h2).1]; exact h.2.2.2.1, fun z => by rw [(f _ _ _ h3).1]; exact h.2.2.2.2 z⟩
theorem m_reads (hE : E = min T 60) (hT : T ≤ 80) : ∀ (j p y : Nat) (s : xS), rX s sg E p → E < p + j → 2 * y ≤ p → s.1 13 0 33 = nI y → ∃ t, rX t sg E (awX sg T E j p).1 ∧ fr (pAy y) s t ∧ (match (awX sg T E j p).2 with
    | none => Ref_walk_L1 (d + 10) (nI T) 1 s = some (some (vI ((-1) - nI (awX sg T E j p).1)), t)
    | some as => Ref_walk_L1 (d + 10) (nI T) 1 s = (bV (ev (d + 10) f_Ref_putsBy [vR 13 0] t) fun s7 => Ref_walk_L3 (d + 10) 0 s7) ∧ t.1 13 0 33 = nI (y + as.length) ∧ 2 * (y + as.length) ≤ T ∧ acL t y as) := by
  have h60 : ∀ {p : Nat} {b : Bool} {s : xS}, rX s sg E p → ev (d + 10) f_Ref_faultOf [vR 13 0, vI (nI T), vI 60, vI (ib b)] s = some (some (vI (if b = true ∧ p = T then 0 else (-1) - nI p)), s) := fun h => m_fault (N := 60) h hE (by omega) hT
  have hneg : ∀ {p : Nat}, p ≤ 80 → ((-1 : Int32) - nI p < 0) := fun {p} hp => by
    have : ((List.range 81).all fun p => decide ((-1 : Int32) - nI p < 0)) = true := by decide
    exact of_decide_eq_true (all_r this (by omega))
  intro j
  induction j with
  | zero =>
    intro p y s h hj _ _
    have := h.2.2.2.2.1
    omega
  | succ j ih =>
    intro p y s h hj hy h33
    have hp := h.2.2.2.2.1
    unfold awX
    rw [Ref_walk_L1_eq, if_neg (show ¬ (1 : Int32) = 0 by decide), h.1, h.2.1]
    by_cases e : p = T
    · have hf := h60 (b := true) h
      rw [if_pos ⟨rfl, e⟩] at hf
      have hf' : ev (d + 10) f_Ref_faultOf [vR 13 0, vI (nI T), vI 60, vI 1] s = some (some (vI 0), s) := hf
      rw [if_pos e, if_neg (of_eq_false (lt_f (by omega) (by omega))), Ref_walk_J2_eq, hf', bI_s, if_neg (by decide)]
      exact ⟨s, h, fr_r _ _, rfl, h33, (show 2 * (y + 0) ≤ T by omega), fun k hk => absurd hk (Nat.not_lt_zero k)⟩
    · rw [if_neg e]
      by_cases f : p < E
      · obtain ⟨a, a1, a2, a3, a4, a5⟩ := m_act1 (d := d) h h33 (by omega)
        rw [if_pos (of_eq_true (lt_t f (by omega))), a1, bI_s]
        cases hA : acX sg E p with
        | mk q o =>
          rw [hA] at a2 a4
          have a2 : rX a sg E q := a2
          have hqE := a2.2.2.2.2.1
          cases o with
          | none =>
            have hf := h60 (b := false) a2
            rw [if_neg (fun y => by cases y.1)] at hf
            refine ⟨a, a2, a5, ?_⟩
            show Ref_walk_L1 (d + 10) (nI T) (ib false) a = some (some (vI ((-1) - nI q)), a)
            rw [Ref_walk_L1_eq, if_pos (by rfl), Ref_walk_J2_eq, hf, bI_s, if_pos (hneg (by omega))]
          | some v =>
            have hq := acX_p hA
            obtain ⟨t, t1, t2, t3⟩ := ih q (y + 1) a a2 (by omega) (by omega) a3
            have ft : fr (pAy y) s t := fr_t a5 (fr_m t2 (by unfold pAy; omega))
            have hR := a4 v rfl
            show ∃ t, rX t sg E (match awX sg T E j q with | (q, none) => (q, none) | (q, some as) => (q, some (v :: as))).1 ∧ fr (pAy y) s t ∧ (match (match awX sg T E j q with | (q, none) => (q, none) | (q, some as) => (q, some (v :: as))).2 with
              | none => Ref_walk_L1 (d + 10) (nI T) 1 a = some (some (vI ((-1) - nI (match awX sg T E j q with | (q, none) => (q, none) | (q, some as) => (q, some (v :: as))).1)), t)
              | some as => Ref_walk_L1 (d + 10) (nI T) 1 a = (bV (ev (d + 10) f_Ref_putsBy [vR 13 0] t) fun s7 => Ref_walk_L3 (d + 10) 0 s7) ∧ t.1 13 0 33 = nI (y + as.length) ∧ 2 * (y + as.length) ≤ T ∧ acL t y as)
            revert t1 t3
            cases awX sg T E j q with
            | mk q' o' =>
              cases o' with
              | none => exact fun t1 t3 => ⟨t, t1, ft, t3⟩
              | some as =>
                rintro t1 ⟨t3, t4, t5, t6⟩
                have hl : (v :: as).length = as.length + 1 := rfl
                refine ⟨t, t1, ft, t3, ?_, ?_, fun k hk => ?_⟩
                · rw [t4, hl, show y + 1 + as.length = y + (as.length + 1) by omega]
                · rw [hl]; omega
                · cases k with
                  | zero => exact acR_fr hR t2 (by unfold pAy; omega) (by unfold pAy; omega) (by unfold pAy; omega)
                  | succ k =>
                    have hk' : k < as.length := by rw [hl] at hk; omega
                    have := t6 k hk'
                    rw [show y + 1 + k = y + (k + 1) by omega] at this
                    exact this
      · have hf := h60 (b := true) h
        rw [if_neg (fun y => e y.2)] at hf
        have hf' : ev (d + 10) f_Ref_faultOf [vR 13 0, vI (nI T), vI 60, vI 1] s = some (some (vI ((-1) - nI p)), s) := hf
        rw [if_neg (of_eq_false (lt_f (by omega) (by omega))), Ref_walk_J2_eq, hf', bI_s, if_pos (hneg (by omega)), acX_e (by omega)]
        exact ⟨s, h, fr_r _ _, rfl⟩
/-- an act done -/
def doX (R C : Nat) (kd : Nat → Nat) (n : Nat) (L : List Nat) (S : Sn) (a : Nat × Nat × Nat) : Int32 × Sn :=
  if a.1 = 0 then (nI (pc (pasN R C kd n L a.2.1 (S, 0, 0)).1.2.2.2.1), (pasN R C kd n L a.2.1 (S, 0, 0)).1)
  else if a.1 = 1 then losX n S true (nI a.2.1)
  else if a.1 = 2 then losX n S false (nI a.2.1)
  else if a.1 = 3 then ((pushX R C kd n L S (nI a.2.1) (nI a.2.2)).1, (pushX R C kd n L S (nI a.2.1) (nI a.2.2)).2.1)
  else if a.1 = 4 then faceX R C kd n L S (nI a.2.1) (nI a.2.2)
  else frgX n S (nI a.2.1) (nI a.2.2)
theorem doX_ok {a : Nat × Nat × Nat} (hG : gOk R C kd) (ho : oOkS R C kd n S) : oOkS R C kd n (doX R C kd n L S a).2 := by
  unfold doX
  by_cases z0 : a.1 = 0
  · rw [if_pos z0]; exact pasN_ok (z := (S, 0, 0)) hG ho _
  rw [if_neg z0]
  by_cases z1 : a.1 = 1
  · rw [if_pos z1]; exact losX_ok ho
  rw [if_neg z1]
  by_cases z2 : a.1 = 2
  · rw [if_pos z2]; exact losX_ok ho
  rw [if_neg z2]
  by_cases z3 : a.1 = 3
  · rw [if_pos z3]; exact pushX_ok hG ho
  rw [if_neg z3]
  by_cases z4 : a.1 = 4
  · rw [if_pos z4]; exact faceX_ok hG ho
  rw [if_neg z4]; exact frgX_ok ho
def runX (R C : Nat) (kd : Nat → Nat) (n : Nat) (L : List Nat) : List (Nat × Nat × Nat) → Sn → Nat × Bool × Sn
  | [], S => (0, false, S)
  | a :: as, S => if (doX R C kd n L S a).1 < 0 then (0, true, (doX R C kd n L S a).2) else ((runX R C kd n L as (doX R C kd n L S a).2).1 + 1, (runX R C kd n L as (doX R C kd n L S a).2).2)
theorem runX_ok (hG : gOk R C kd) : ∀ (as : List (Nat × Nat × Nat)) (S : Sn), oOkS R C kd n S → oOkS R C kd n (runX R C kd n L as S).2.2 := by
  intro as
  induction as with
  | nil => exact fun S ho => ho
  | cons a as ih =>
    intro S ho
    unfold runX
    by_cases z : (doX R C kd n L S a).1 < 0
    · rw [if_pos z]; exact doX_ok hG ho
    · rw [if_neg z]; exact ih _ (doX_ok hG ho)
theorem runX_le : ∀ (as : List (Nat × Nat × Nat)) (S : Sn), (runX R C kd n L as S).1 ≤ as.length ∧ (decide ((runX R C kd n L as S).1 < as.length) = (runX R C kd n L as S).2.1) := by
  intro as
  induction as with
  | nil => exact fun S => ⟨Nat.le_refl _, rfl⟩
  | cons a as ih =>
    intro S
    unfold runX
    by_cases z : (doX R C kd n L S a).1 < 0
    · rw [if_pos z]; exact ⟨Nat.zero_le _, rfl⟩
    · rw [if_neg z]
      obtain ⟨h1, h2⟩ := ih (doX R C kd n L S a).2
      refine ⟨Nat.succ_le_succ h1, ?_⟩
      rw [← h2]
      exact decide_eq_decide.mpr ⟨Nat.lt_of_succ_lt_succ, Nat.succ_lt_succ⟩
theorem awX_len (sg : Nat → Nat) (T E : Nat) : ∀ (j p : Nat) (as : List (Nat × Nat × Nat)), (awX sg T E j p).2 = some as → as.length ≤ j := by
  intro j
  induction j with
  | zero => intro p as h; cases h
  | succ j ih =>
    intro p as h
    unfold awX at h
    by_cases e : p = T
    · rw [if_pos e] at h
      have h : some [] = some as := h
      rw [← Option.some.inj h]; exact Nat.zero_le _
    · rw [if_neg e] at h
      cases hA : acX sg E p with
      | mk q o =>
        rw [hA] at h
        cases o with
        | none => cases h
        | some a =>
          have h : (match awX sg T E j q with | (q, none) => (q, none) | (q, some as) => (q, some (a :: as))).2 = some as := h
          have hi := ih q
          revert h hi
          cases awX sg T E j q with
          | mk q' o' => cases o' with
            | none => intro h _; cases h
            | some as' =>
              intro h hi
              have h : some (a :: as') = some as := h
              rw [← Option.some.inj h]
              exact Nat.succ_le_succ (hi as' rfl)
end WALKB

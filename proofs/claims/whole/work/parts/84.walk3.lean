/-! walk: both alike. -/
section WALKC
variable {d k : Nat} {R C n T u q nh : Nat} {kd : Nat → Nat} {S S' : Sn} {L : List Nat} {l l' : List Int64} {sg : Nat → Nat} {U U' : Nat → Sn} {K : Nat → Option Sn} {sq : Nat → Nat × Nat × Nat} {hq : Nat → Nat × Nat} {s t : xS} {p E y u' : Nat}
theorem c_takeM (h : cX s T sg E p) : ev (d + 3) f_Text_takeDigit [vR 1 0, vI 0, vI (-1)] s = some (some (vI (-1)), s) := by
  rw [Text_takeDigit_eq, Text_digitHere_eq, c_here h, bI_s]
  have : (if hrI sg E p - 48 < 0 then some (some (vI (-1)), s) else if (-1 : Int32) < hrI sg E p - 48 then some (some (vI (-1)), s) else some (some (vI (hrI sg E p - 48)), s)) = some (some (vI (-1)), s) := by
    by_cases z : hrI sg E p - 48 < 0
    · rw [if_pos z]
    · rw [if_neg z]
      obtain ⟨m, hm, e⟩ := nI_of z
      rw [e, if_pos (of_eq_true (m1_ltn hm))]
  rw [this, bI_s, if_pos rfl]
theorem c_dact {i v w : Nat} {x : Int32} (hi : i < 6) (hv : v ≤ 9) (hx : 3 ≤ i → x = nI w) (hG : cG s R C kd) (hO : cOS s 0 n S) (ho : oOkS R C kd n S) (hR : cR s 0 (ruL L)) (hL : wfL (ruL L) 0) : ∃ t, ev (d + 7) f_Deeds_act [vR 7 0, vR 3 0, vI (nI ((strL 5).getD i 0)), vI (nI v), vI x] s = some (some (vI (doX R C kd n L S (i, v, w)).1), t) ∧ cOS t 0 n (doX R C kd n L S (i, v, w)).2 ∧ fr (pOc 0) s t := by
  rcases (by omega : i = 0 ∨ i = 1 ∨ i = 2 ∨ i = 3 ∨ i = 4 ∨ i = 5) with rfl | rfl | rfl | rfl | rfl | rfl
  · obtain ⟨t, e1, e2, e3, _⟩ := c_pass (d := d) hG hO ho hR hL (show v ≤ 60 by omega)
    refine ⟨t, ?_, e2, e3⟩
    rw [show nI ((strL 5).getD 0 0) = 110 from rfl, Deeds_act_eq, if_neg (by decide), if_neg (by decide), if_pos rfl, e1, bI_s]; rfl
  · obtain ⟨t, e1, e2, e3⟩ := c_letGo (d := d + 2) hO ho (nI v)
    refine ⟨t, ?_, e2, e3⟩
    rw [show nI ((strL 5).getD 1 0) = 108 from rfl, Deeds_act_eq, if_neg (by decide), if_pos rfl, e1, bI_s]; rfl
  · obtain ⟨t, e1, e2, e3⟩ := c_grasp (d := d + 2) hO ho (nI v)
    refine ⟨t, ?_, e2, e3⟩
    rw [show nI ((strL 5).getD 2 0) = 99 from rfl, Deeds_act_eq, if_pos rfl, e1, bI_s]; rfl
  · obtain ⟨t, e1, e2, e3⟩ := c_shove (d := d + 1) hG hO ho hR hL (nI v) (nI w)
    refine ⟨t, ?_, e2, e3⟩
    rw [show nI ((strL 5).getD 3 0) = 112 from rfl, hx (by omega), Deeds_act_eq, if_neg (by decide), if_neg (by decide), if_neg (by decide), if_pos rfl, e1, bI_s]; rfl
  · obtain ⟨t, e1, e2, e3⟩ := c_turn (d := d + 1) hG hO ho hR hL (nI v) (nI w)
    refine ⟨t, ?_, e2, e3⟩
    rw [show nI ((strL 5).getD 4 0) = 116 from rfl, hx (by omega), Deeds_act_eq, if_neg (by decide), if_neg (by decide), if_neg (by decide), if_neg (by decide), if_pos rfl, e1, bI_s]; rfl
  · obtain ⟨t, e1, e2, e3⟩ := c_lose (d := d + 3) hO ho (nI v) (nI w)
    refine ⟨t, ?_, e2, e3⟩
    rw [show nI ((strL 5).getD 5 0) = 102 from rfl, hx (by omega), Deeds_act_eq, if_neg (by decide), if_neg (by decide), if_neg (by decide), if_neg (by decide), if_neg (by decide), e1, bI_s]; rfl
def pWk (c i k : Nat) : Prop := pOc 0 c i k ∨ (c = 1 ∧ k = 3)
theorem cX_o {t : xS} (h : cX s T sg E p) (f : fr (pOc 0) s t) : cX t T sg E p := cX_fr h f (by intro k; simp [pOc, pE]) (by intro k; simp [pOc, pE])
theorem cG_w (h : cG s R C kd) (f : fr pWk s t) : cG t R C kd := cG_fr h f (by intro k; simp [pWk, pOc, pE]) (by intro k; simp [pWk, pOc, pE]) (by intro k; simp [pWk, pOc, pE])
theorem cR_w (h : cR s 0 (ruL L)) (f : fr pWk s t) : cR t 0 (ruL L) := cR_fr h f (by simp [pWk, pOc, pE]) (by intro k; simp [pWk, pOc, pE])
theorem c_wstep {z : Nat} {a : Nat × Nat × Nat} (hA : acX sg E p = (q, some a)) (h : cX s T sg E p) (hp : p ≠ T) (hz : z < 60) (hG : cG s R C kd) (hO : cOS s 0 n S) (ho : oOkS R C kd n S) (hR : cR s 0 (ruL L)) (hL : wfL (ruL L) 0) : ∃ t, Main_walk_L1 (d + 7) (nI y) 0 (nI z) s = (if (doX R C kd n L S a).1 < 0 then Main_walk_L1 (d + 7) (nI y) 1 (nI (z + 1)) t else Main_walk_L1 (d + 7) (nI (y + 1)) 0 (nI (z + 1)) t) ∧ cX t T sg E q ∧ cOS t 0 n (doX R C kd n L S a).2 ∧ fr pWk s t := by
  have h80 := h.2.2.2.1.1
  have hET := h.2.2.2.2.1
  have hpE := h.2.2.2.2.2
  have fo : ∀ {a b : xS}, fr (fun c _ k => c = 1 ∧ k = 3) a b → fr pWk a b := fun f => fr_m f (fun _ _ _ => Or.inr)
  have e0 : Main_walk_L1 (d + 7) (nI y) 0 (nI z) s = bV (ev (d + 7) f_Text_step [vR 1 0] s) fun s11 => bI (ev (d + 7) f_Text_takeDigit [vR 1 0, vI 0, vI 9] s11) fun r13 s12 => bI (ev (d + 7) f_Deeds_highestSecond [vI (hrI sg E p)] s12) fun r15 s14 => bI (ev (d + 7) f_Text_takeDigit [vR 1 0, vI 0, vI r15] s14) fun r17 s16 => bI (ev (d + 7) f_Deeds_act [vR 7 0, vR 3 0, vI (hrI sg E p), vI r13, vI r17] s16) fun r19 s18 => if (r19 : Int32) < 0 then Main_walk_J2 (d + 7) (nI y) (nI z) 1 s18 else Main_walk_J2 (d + 7) (nI y) (nI z) 0 s18 := by
    rw [Main_walk_L1_eq, if_pos (show nI z < 60 from of_eq_true (lt_t (b := 60) hz (by omega))), if_pos rfl, Text_isRead_eq, h.2.2.1, h.1.1, if_neg (of_eq_false (eq_f hp (by omega) (by omega))), bI_s, if_pos (by decide), c_here h, bI_s]
  have hJ1 : ∀ t, Main_walk_J2 (d + 7) (nI y) (nI z) 1 t = Main_walk_L1 (d + 7) (nI y) 1 (nI (z + 1)) t := fun t => by
    rw [Main_walk_J2_eq, if_neg (by decide), nI_1, Int32.add_zero]
  have hJ0 : ∀ t, Main_walk_J2 (d + 7) (nI y) (nI z) 0 t = Main_walk_L1 (d + 7) (nI (y + 1)) 0 (nI (z + 1)) t := fun t => by
    rw [Main_walk_J2_eq, if_pos rfl, nI_1, nI_1]
  rw [e0]
  unfold acX at hA
  cases hf : fxS sg E p 5 with
  | none => rw [hf] at hA; cases hA
  | some i =>
    rw [hf] at hA
    obtain ⟨hr, hi⟩ := hr_i hf
    obtain ⟨hpE', _, _⟩ := fx_sg hf
    obtain ⟨q1, q2⟩ := c_stepX (d := d + 6) h hpE'
    obtain ⟨a1, ea⟩ : ∃ a, wI s 1 0 3 (nI (p + 1)) = a := ⟨_, rfl⟩
    have fa : fr (fun c _ k => c = 1 ∧ k = 3) s a1 := by rw [← ea]; exact fr_wI (fr_r _ _) ⟨rfl, rfl⟩
    rw [ea] at q1 q2
    have t1 := c_takeX (d := d + 4) (lo := 0) (hi := 9) (by omega) (by omega) q2
    have hA : (match dgt sg E (p + 1) 0 9 with
      | none => (p + 1, none)
      | some v => if i < 3 then (p + 2, some (i, v, 0)) else match dgt sg E (p + 2) 0 (if i = 5 then 5 else 3) with
        | none => (p + 2, none)
        | some w => (p + 3, some (i, v, w))) = (q, some a) := hA
    rw [q1, bV_s, hr]
    cases hv : dgt sg E (p + 1) 0 9 with
    | none => rw [hv] at hA; cases hA
    | some v =>
      have hv' := dgt_v hv
      obtain ⟨b, eb⟩ : ∃ b, wI a1 1 0 3 (nI (p + 1 + 1)) = b := ⟨_, rfl⟩
      have fb : fr (fun c _ k => c = 1 ∧ k = 3) s b := by rw [← eb]; exact fr_wI fa ⟨rfl, rfl⟩
      have q3 := (c_stepX (d := 0) q2 hv'.1).2
      rw [hv, oI_s, if_neg (by intro z; cases z), eb] at t1
      rw [eb] at q3
      have t1' : ev (d + 7) f_Text_takeDigit [vR 1 0, vI 0, vI 9] a1 = some (some (vI (nI v)), b) := t1
      rw [hv] at hA
      have hA : (if i < 3 then (p + 2, some (i, v, 0)) else match dgt sg E (p + 2) 0 (if i = 5 then 5 else 3) with
        | none => (p + 2, none)
        | some w => (p + 3, some (i, v, w))) = (q, some a) := hA
      rw [t1', bI_s, c_hs, bI_s, ac_h i hi]
      by_cases z3 : i < 3
      · rw [if_pos z3] at hA
        have hA1 := (Prod.mk.inj hA).1
        have hA2 := Option.some.inj (Prod.mk.inj hA).2
        obtain ⟨t, e1, e2, e3⟩ := c_dact (d := d) (w := 0) (x := -1) (L := L) hi hv'.2.2 (by omega) (cG_w hG (fo fb)) (cO_fr hO fb (by omega) (by omega) (by omega) (by omega)) ho (cR_w hR (fo fb)) hL
        have fbt : fr pWk s t := fr_t (fo fb) (fr_m e3 (fun _ _ _ => Or.inl))
        refine ⟨t, ?_, cX_o (by rw [← hA1]; exact q3) e3, by rw [← hA2]; exact e2, fbt⟩
        rw [if_pos z3, c_takeM q3, bI_s, e1, bI_s, hA2, hJ1, hJ0]
      · rw [if_neg z3] at hA
        rw [if_neg z3]
        have e5 : (if i = 5 then (5 : Int32) else 3) = nI (if i = 5 then 5 else 3) := by
          by_cases z5 : i = 5
          · rw [if_pos z5, if_pos z5]; rfl
          · rw [if_neg z5, if_neg z5]; rfl
        rw [e5]
        obtain ⟨h5, eh5⟩ : ∃ h5, (if i = 5 then 5 else 3) = h5 := ⟨_, rfl⟩
        have b5 : h5 < 10 := by rw [← eh5]; by_cases z5 : i = 5 <;> simp [z5]
        rw [eh5]
        rw [eh5] at hA
        have t2 := c_takeX (d := d + 4) (lo := 0) (hi := h5) (by omega) b5 q3
        cases hw : dgt sg E (p + 2) 0 h5 with
        | none => rw [hw] at hA; cases hA
        | some w =>
          have hw' := dgt_st b5 hw
          rw [hw] at hA
          have hA1 := (Prod.mk.inj hA).1
          have hA2 := Option.some.inj (Prod.mk.inj hA).2
          obtain ⟨c, ec⟩ : ∃ c, wI b 1 0 3 (nI (p + 2 + 1)) = c := ⟨_, rfl⟩
          have fc : fr (fun c _ k => c = 1 ∧ k = 3) s c := by rw [← ec]; exact fr_wI fb ⟨rfl, rfl⟩
          have q4 := (c_stepX (d := 0) q3 hw'.2).2
          rw [ec] at q4
          rw [show p + 1 + 1 = p + 2 from rfl, hw, oI_s, if_neg (by intro z; cases z), ec] at t2
          have t2' : ev (d + 7) f_Text_takeDigit [vR 1 0, vI 0, vI (nI h5)] b = some (some (vI (nI w)), c) := t2
          obtain ⟨t, e1, e2, e3⟩ := c_dact (d := d) (w := w) (x := nI w) (L := L) hi hv'.2.2 (fun _ => rfl) (cG_w hG (fo fc)) (cO_fr hO fc (by omega) (by omega) (by omega) (by omega)) ho (cR_w hR (fo fc)) hL
          have fbt : fr pWk s t := fr_t (fo fc) (fr_m e3 (fun _ _ _ => Or.inl))
          refine ⟨t, ?_, cX_o (by rw [← hA1]; exact q4) e3, by rw [← hA2]; exact e2, fbt⟩
          rw [t2', bI_s, e1, bI_s, hA2, hJ1, hJ0]
theorem c_run (hE : E ≤ 60) (hL : wfL (ruL L) 0) : ∀ (j p y z : Nat) (S : Sn) (s : xS) (as : List (Nat × Nat × Nat)), (awX sg T E j p).2 = some as → cX s T sg E p → 2 * z ≤ p → cG s R C kd → cOS s 0 n S → oOkS R C kd n S → cR s 0 (ruL L) → ∃ t, Main_walk_L1 (d + 7) (nI y) 0 (nI z) s = Main_walk_J3 (d + 7) (nI (y + (runX R C kd n L as S).1)) (ib (runX R C kd n L as S).2.1) t ∧ cOS t 0 n (runX R C kd n L as S).2.2 ∧ fr pWk s t := by
  intro j
  induction j with
  | zero => intro p y z S s as h; cases h
  | succ j ih =>
    intro p y z S s as h hX hz hG hO ho hR
    have hp := hX.2.2.2.2.2
    have h80 := hX.2.2.2.1.1
    unfold awX at h
    by_cases e : p = T
    · rw [if_pos e] at h
      have h : some [] = some as := h
      rw [← Option.some.inj h]
      refine ⟨s, ?_, hO, fr_r _ _⟩
      rw [Main_walk_L1_eq, if_pos (show nI z < 60 from of_eq_true (lt_t (b := 60) (by omega) (by omega))), if_pos rfl, Text_isRead_eq, hX.2.2.1, hX.1.1, if_pos (of_eq_true (eq_t e)), bI_s, if_neg (by decide)]; rfl
    · rw [if_neg e] at h
      cases hA : acX sg E p with
      | mk q o =>
        rw [hA] at h
        cases o with
        | none => cases h
        | some a =>
          have h : (match awX sg T E j q with | (q, none) => (q, none) | (q, some as) => (q, some (a :: as))).2 = some as := h
          have hq := acX_p hA
          obtain ⟨t, e1, e2, e3, e4⟩ := c_wstep (d := d) (y := y) hA hX e (show z < 60 by omega) hG hO ho hR hL
          have hqE := e2.2.2.2.2.2
          cases hB : (awX sg T E j q).2 with
          | none =>
            exfalso
            revert h hB
            cases awX sg T E j q with
            | mk q' o' => cases o' with
              | none => intro h _; cases h
              | some as' => intro _ h; cases h
          | some bs =>
            have has : as = a :: bs := by
              revert h hB
              cases awX sg T E j q with
              | mk q' o' => cases o' with
                | none => intro h _; cases h
                | some as' =>
                  intro h h2
                  have h2 : some as' = some bs := h2
                  have h : some (a :: as') = some as := h
                  rw [← Option.some.inj h, Option.some.inj h2]
            rw [has, e1]
            unfold runX
            by_cases w : (doX R C kd n L S a).1 < 0
            · rw [if_pos w, if_pos w]
              refine ⟨t, ?_, e3, e4⟩
              rw [Main_walk_L1_eq, if_pos (show nI (z + 1) < 60 from of_eq_true (lt_t (b := 60) (by omega) (by omega))), if_neg (by decide)]; rfl
            · rw [if_neg w, if_neg w]
              obtain ⟨v, g1, g2, g3⟩ := ih q (y + 1) (z + 1) (doX R C kd n L S a).2 t bs hB e2 (by omega) (cG_w hG e4) e3 (doX_ok hG.1 ho) (cR_w hR e4)
              refine ⟨v, ?_, g2, fr_t e4 g3⟩
              rw [g1, show y + 1 + (runX R C kd n L bs (doX R C kd n L S a).2).1 = y + ((runX R C kd n L bs (doX R C kd n L S a).2).1 + 1) by omega]
theorem nn_b {x : Int32} {s : xS} : (if x < 0 then some (some (vI (x_nb 0)), s) else some (some (vI (x_nb 1)), s)) = some (some (vI (ib (decide (¬ x < 0)))), s) := by
  by_cases z : x < 0
  · rw [if_pos z, nb_0, decide_eq_false (fun y => y z)]
  · rw [if_neg z, nb_1, decide_eq_true z]
theorem m_does {a : Nat × Nat × Nat} (hA : acR s y a) (hy : y < 60) (hG : rG s R C kd) (hO : rOS s 0 n S) (ho : oOkS R C kd n S) (hR : rR s L) (hL : wfL (ruL L) 0) : ∃ t, ev (d + 10) f_Ref_does [vR 13 0, vI (nI y)] s = some (some (vI (ib (decide (¬ (doX R C kd n L S a).1 < 0)))), t) ∧ rOS t 0 n (doX R C kd n L S a).2 ∧ fr (pOr 0) s t := by
  obtain ⟨i, v, w⟩ := a
  obtain ⟨hi, hv, h51, h52, h53⟩ := hA
  have hi : i < 6 := hi
  have hv : v ≤ 9 := hv
  have h51 : s.1 51 0 y = nI i := h51
  have h52 : s.1 52 0 y = nI v := h52
  have h53 : 3 ≤ i → s.1 53 0 y = nI w := h53
  rw [Ref_does_eq, in_t hy (by omega), if_pos rfl, if_pos rfl, n_cl (by omega), h51, h52]
  rcases (by omega : i = 0 ∨ i = 1 ∨ i = 2 ∨ i = 3 ∨ i = 4 ∨ i = 5) with rfl | rfl | rfl | rfl | rfl | rfl
  · obtain ⟨t, e1, e2, e3, _⟩ := m_goesOn (d := d) (z := (S, 0, 0)) (a := s.1 13 0 28) (b := s.1 13 0 29) hG hO ho hR hL (Int32.add_zero _).symm (Int32.add_zero _).symm (show v ≤ 60 by omega)
    have hz : ¬ (doX R C kd n L S (0, v, w)).1 < 0 := nI_pos (Nat.lt_of_le_of_lt (pc_le _) (by omega))
    refine ⟨t, ?_, e2, e3⟩
    rw [if_pos (by decide), e1, bV_s, nb_1, decide_eq_true hz]
  · obtain ⟨t, e1, e2, e3, _⟩ := m_sets (d := d + 6) hO ho true (nI v)
    have e1' : ev (d + 9) f_Ref_sets [vR 13 0, vR 43 0, vI (nI v), vI 1] s = some (some (vI (losX n S true (nI v)).1), t) := e1
    refine ⟨t, ?_, e2, e3⟩
    rw [if_neg (by decide), if_pos (by decide), e1', bI_s, nn_b]; rfl
  · obtain ⟨t, e1, e2, e3, _⟩ := m_sets (d := d + 6) hO ho false (nI v)
    have e1' : ev (d + 9) f_Ref_sets [vR 13 0, vR 43 0, vI (nI v), vI 0] s = some (some (vI (losX n S false (nI v)).1), t) := e1
    refine ⟨t, ?_, e2, e3⟩
    rw [if_neg (by decide), if_neg (by decide), if_pos (by decide), e1', bI_s, nn_b]; rfl
  · obtain ⟨t, e1, e2, e3, _⟩ := m_push (d := d + 2) hG hO ho hR hL (nI v) (nI w)
    refine ⟨t, ?_, e2, e3⟩
    rw [if_neg (by decide), if_neg (by decide), if_neg (by decide), if_pos (by decide), if_pos rfl, h53 (by omega), e1, bI_s, nn_b]; rfl
  · obtain ⟨t, e1, e2, e3⟩ := m_turn (d := d + 3) hG hO ho hR hL (nI v) (nI w)
    refine ⟨t, ?_, e2, e3⟩
    rw [if_neg (by decide), if_neg (by decide), if_neg (by decide), if_neg (by decide), if_pos (by decide), if_pos rfl, h53 (by omega), e1, bI_s, nn_b]; rfl
  · obtain ⟨t, e1, e2, e3⟩ := m_forgets (d := d + 6) hO ho (nI v) (nI w)
    refine ⟨t, ?_, e2, e3⟩
    rw [if_neg (by decide), if_neg (by decide), if_neg (by decide), if_neg (by decide), if_neg (by decide), if_pos rfl, h53 (by omega), e1, bI_s, nn_b]; rfl
theorem m_run (hL : wfL (ruL L) 0) : ∀ (as : List (Nat × Nat × Nat)) (S : Sn) (y : Nat) (s : xS), acL s y as → s.1 13 0 33 = nI (y + as.length) → y + as.length ≤ 60 → rG s R C kd → rOS s 0 n S → oOkS R C kd n S → rR s L → ∃ t, Ref_walk_L3 (d + 10) (nI y) s = Ref_walk_J4 (d + 10) (nI (y + (runX R C kd n L as S).1)) t ∧ rOS t 0 n (runX R C kd n L as S).2.2 ∧ fr (pOr 0) s t := by
  intro as
  induction as with
  | nil =>
    intro S y s _ h33 hy hG hO ho hR
    have h33 : s.1 13 0 33 = nI y := h33
    refine ⟨s, ?_, hO, fr_r _ _⟩
    rw [Ref_walk_L3_eq, h33, if_neg (of_eq_false (lt_f (Nat.le_refl _) (by omega)))]; rfl
  | cons a as ih =>
    intro S y s hA h33 hy hG hO ho hR
    have hl : (a :: as).length = as.length + 1 := rfl
    rw [hl] at h33 hy
    obtain ⟨t, e1, e2, e3⟩ := m_does (d := d) (hA 0 (by rw [hl]; omega)) (by omega) hG hO ho hR hL
    have e1 : ev (d + 10) f_Ref_does [vR 13 0, vI (nI y)] s = some (some (vI (ib (decide (¬ (doX R C kd n L S a).1 < 0)))), t) := e1
    have e2 : rOS t 0 n (doX R C kd n L S a).2 := e2
    rw [Ref_walk_L3_eq, h33, if_pos (of_eq_true (lt_t (by omega) (by omega))), e1, bI_s]
    unfold runX
    by_cases z : (doX R C kd n L S a).1 < 0
    · rw [decide_eq_false (fun y => y z), if_pos (by rfl), if_pos z]
      exact ⟨t, rfl, e2, e3⟩
    · rw [decide_eq_true z, if_neg (by decide), if_neg z, nI_1]
      obtain ⟨v, g1, g2, g3⟩ := ih (doX R C kd n L S a).2 (y + 1) t (fun k hk => by
        have := hA (k + 1) (by rw [hl]; omega)
        rw [show y + (k + 1) = y + 1 + k by omega] at this
        exact acR_fr this e3 (by simp [pOr, pF]) (by simp [pOr, pF]) (by simp [pOr, pF])) (by rw [(e3 13 0 33 (by simp [pOr, pF])).1, h33, show y + (as.length + 1) = y + 1 + as.length by omega]) (by omega) (rG_fr hG e3 (by simp [pOr, pF]) (by simp [pOr, pF]) (by intro k; simp [pOr, pF])) e2 (doX_ok hG.1 ho) (rR_fr hR e3 (by simp [pOr, pF]) (by intro k; simp [pOr, pF]))
      refine ⟨v, ?_, g2, fr_t e3 g3⟩
      rw [g1, show y + 1 + (runX R C kd n L as (doX R C kd n L S a).2).1 = y + ((runX R C kd n L as (doX R C kd n L S a).2).1 + 1) by omega]
end WALKC

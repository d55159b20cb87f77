/-! What is done with prams: the reference's side. -/
section DEEDR
variable {d i j n p w R C : Nat} {kd : Nat → Nat} {s : xS} {L : List Nat} {S : Sn} {x y : Int32}
def pOr (j c i k : Nat) : Prop := pF c i k ∨ (c = 43 ∧ i = j) ∨ (c = 13 ∧ (k = 28 ∨ k = 29))
theorem rO_place {F W V : Nat → Nat} {lo f : Nat} {M : Int32} (hn : n ≤ 4) (hp : p < n) (h : rO s j n F W V lo M) : rO (wI (wI s 43 j (4 + p) (nI w)) 43 j p (nI f)) j n (up F p f) (up W p w) V lo M := by
  refine ⟨h.1, fun q hq => ?_, fun q hq => ?_, ?_⟩
  · have g := h.2.1 q hq
    by_cases e : q = p
    · subst e
      rw [wI_s1, up_s, wI_nk (by omega), wI_s1, up_s]; exact ⟨rfl, rfl⟩
    · rw [wI_nk (by omega), wI_nk (by omega), wI_nk (by omega), wI_nk (by omega), up_n e, up_n e]; exact g
  · rw [wI_nk (by omega), wI_nk (by omega), wI_nk (by omega), wI_nk (by omega)]; exact h.2.2.1 q hq
  · rw [wI_nk (by omega), wI_nk (by omega)]; exact h.2.2.2
theorem rO_way {F W V : Nat → Nat} {lo : Nat} {M : Int32} (hn : n ≤ 4) (hp : p < n) (h : rO s j n F W V lo M) : rO (wI s 43 j (4 + p) (nI w)) j n F (up W p w) V lo M := by
  refine ⟨h.1, fun q hq => ?_, fun q hq => ?_, ?_⟩
  · have g := h.2.1 q hq
    by_cases e : q = p
    · subst e
      rw [wI_nk (by omega), wI_s1, up_s]; exact ⟨g.1, rfl⟩
    · rw [wI_nk (by omega), wI_nk (by omega), up_n e]; exact g
  · rw [wI_nk (by omega), wI_nk (by omega)]; exact h.2.2.1 q hq
  · rw [wI_nk (by omega)]; exact h.2.2.2
theorem rO_views {F W V : Nat → Nat} {lo v : Nat} {M : Int32} (hp : p < 4) (hn : n ≤ 4) (h : rO s j n F W V lo M) : rO (wI s 43 j (8 + p) (nI v)) j n F W (up V p v) lo M := by
  refine ⟨h.1, fun q hq => ?_, fun q hq => ?_, ?_⟩
  · rw [wI_nk (by omega), wI_nk (by omega)]; exact h.2.1 q hq
  · have g := h.2.2.1 q hq
    by_cases e : q = p
    · subst e; rw [wI_s1, up_s, wI_nk (by omega)]; exact ⟨rfl, g.2⟩
    · rw [wI_nk (by omega), wI_nk (by omega), up_n e]; exact g
  · rw [wI_nk (by omega)]; exact h.2.2.2
theorem rO_lo {F W V : Nat → Nat} {lo : Nat} {M : Int32} {b : Bool} (hp : p < 4) (hn : n ≤ 4) (h : rO s j n F W V lo M) : rO (wI s 43 j (12 + p) (nI (b1 b))) j n F W V (setb lo p b) M := by
  refine ⟨h.1, fun q hq => ?_, fun q hq => ?_, ?_⟩
  · rw [wI_nk (by omega), wI_nk (by omega)]; exact h.2.1 q hq
  · have g := h.2.2.1 q hq
    rw [setb_tb (by omega)]
    by_cases e : q = p
    · subst e; rw [wI_nk (by omega), wI_s1, if_pos rfl]; exact ⟨g.1, rfl⟩
    · rw [wI_nk (by omega), wI_nk (by omega), if_neg e]; exact g
  · rw [wI_nk (by omega)]; exact h.2.2.2
theorem rO_min {F W V : Nat → Nat} {lo : Nat} {M m : Int32} (hn : n ≤ 4) (h : rO s j n F W V lo M) : rO (wI s 43 j 16 m) j n F W V lo m := by
  refine ⟨h.1, fun q hq => ?_, fun q hq => ?_, wI_s1 _ _ _ _ _⟩
  · rw [wI_nk (by omega), wI_nk (by omega)]; exact h.2.1 q hq
  · rw [wI_nk (by omega), wI_nk (by omega)]; exact h.2.2.1 q hq
theorem lookB_fmr (hG : gOk R C kd) (ho : oOkS R C kd n S) (hp : p < n) : (fmr R C kd n S.1 S.2.2.2.2 L p (S.1 p) (S.2.1 p) (S.2.2.1 p)).1 = lookB R C kd n L S p := fmr_cfm hG (ho.2.2.1 p hp).1 (ho.2.2.1 p hp).2.2.1 (ho.2.2.1 p hp).2.2.2
theorem m_look (hG : rG s R C kd) (hO : rOS s j n S) (ho : oOkS R C kd n S) (hR : rR s L) (hL : wfL (ruL L) 0) (hp : p < n) : ∃ u, ev (d + 5) f_Ref_looksAhead [vR 13 0, vR 43 j, vI (nI p)] s = some (some (vI (nI (lookB R C kd n L S p))), u) ∧ rOS u j n (lookS R C kd n L S p) ∧ fr (pOr j) s u ∧ u.1 13 0 28 = s.1 13 0 28 + nI (pc (lookB R C kd n L S p)) ∧ u.1 13 0 29 = s.1 13 0 29 := by
  have hn := ho.1
  obtain ⟨hF, _, hW, hV⟩ := ho.2.2.1 p hp
  obtain ⟨u, e1, _, _, f1⟩ := m_formed (d := d) hG hO ho hR hL hF hW (show p < 4 by omega) hV
  rw [lookB_fmr hG.1 ho hp] at e1
  have hO1 : rOS u j n S := rO_fr hO f1 (by unfold pF; omega) (by intro k; unfold pF; omega)
  have hb := lookB_lt (L := L) hG.1 ho hp
  have f2 : fr (pOr j) s (wI u 43 j (8 + p) (nI (S.2.2.1 p ||| lookB R C kd n L S p))) := fr_wI (fr_m f1 (fun _ _ _ h => Or.inl h)) (by unfold pOr; omega)
  refine ⟨wI (wI u 43 j (8 + p) (nI (S.2.2.1 p ||| lookB R C kd n L S p))) 13 0 28 (s.1 13 0 28 + nI (pc (lookB R C kd n L S p))), ?_, ?_, fr_wI f2 (by unfold pOr; omega), wI_s1 _ _ _ _ _, ?_⟩
  · rw [Ref_looksAhead_eq, nl_4, nl_8, nI_add, nI_add, in_t (show p < 17 by omega) (by omega), if_pos rfl, in_t (show 4 + p < 17 by omega) (by omega), if_pos rfl, in_t (show 8 + p < 17 by omega) (by omega), if_pos rfl, n_cl (by omega), n_cl (by omega), n_cl (by omega), (hO.2.1 p hp).1, (hO.2.1 p hp).2, (hO.2.2.1 p (by omega)).1, e1, bI_s, if_pos rfl, if_pos rfl, (hO1.2.2.1 p (by omega)).1, fa_or, bc_s hb, bI_s, (f1 13 0 28 (by unfold pF; omega)).1]
  · exact rO_fr (p := fun c _ k => c = 13 ∧ k = 28) (rO_views (show p < 4 by omega) hn hO1) (fr_wI (fr_r _ _) ⟨rfl, rfl⟩) (by omega) (by omega)
  · rw [wI_nk (by omega), wI_nc (by omega), (f1 13 0 29 (by unfold pF; omega)).1]
theorem m_goes {g : Nat} (hG : rG s R C kd) (hO : rOS s j n S) (ho : oOkS R C kd n S) (hR : rR s L) (hL : wfL (ruL L) 0) (hp : p < n) (hw : w < 4) (hx : nxt R C kd (S.1 p) w = some g) : ∃ u, ev (d + 6) f_Ref_goesTo [vR 13 0, vR 43 j, vI (nI p), vI (nI w)] s = some (some (vI (nI (lookB R C kd n L (goS S p g w) p))), u) ∧ rOS u j n (lookS R C kd n L (goS S p g w) p) ∧ fr (pOr j) s u ∧ u.1 13 0 28 = s.1 13 0 28 + nI (pc (lookB R C kd n L (goS S p g w) p)) ∧ u.1 13 0 29 = s.1 13 0 29 := by
  have hn := ho.1
  have hF := (ho.2.2.1 p hp).1
  have hg := nxt_lt hG.1 hF hw hx
  have f0 : fr (pOr j) s (wI s 43 j (4 + p) (nI w)) := fr_wI (fr_r _ _) (by unfold pOr; omega)
  have f1 : fr (pOr j) s (wI (wI s 43 j (4 + p) (nI w)) 43 j p (nI g)) := fr_wI f0 (by unfold pOr; omega)
  have k0 : ∀ {t : xS}, fr (pOr j) s t → rG t R C kd := fun f => rG_fr hG f (by unfold pOr pF; omega) (by unfold pOr pF; omega) (by intro k; unfold pOr pF; omega)
  have hO1 : rOS (wI (wI s 43 j (4 + p) (nI w)) 43 j p (nI g)) j n (goS S p g w) := rO_place hn hp hO
  by_cases hj : j ≤ 1
  · obtain ⟨u, e1, e2, e3, e4, e5⟩ := m_look (d := d) (k0 f1) hO1 (goS_ok ho hg hw) (rR_fr hR f1 (by unfold pOr pF; omega) (by intro k; unfold pOr pF; omega)) hL hp
    refine ⟨u, ?_, e2, fr_t f1 e3, ?_, ?_⟩
    · rw [Ref_goesTo_eq, nl_4, nI_add, in_t (show 4 + p < 17 by omega) (by omega), if_pos rfl, in_t (show p < 17 by omega) (by omega), if_pos rfl, n_cl (by omega), n_cl (by omega), wI_nk (by omega), (hO.2.1 p hp).1, m_beside (k0 f0) hF hw, bI_s, if_pos rfl, nxt_bes hx, oI_s, e1, bI_s]
    · rw [e4, wI_nc (by omega), wI_nc (by omega)]
    · rw [e5, wI_nc (by omega), wI_nc (by omega)]
  · obtain ⟨u, e1, e2, e3, e4, e5⟩ := m_look (d := d) (k0 f1) hO1 (goS_ok ho hg hw) (rR_fr hR f1 (by unfold pOr pF; omega) (by intro k; unfold pOr pF; omega)) hL hp
    refine ⟨u, ?_, e2, fr_t f1 e3, ?_, ?_⟩
    · rw [Ref_goesTo_eq, nl_4, nI_add, in_t (show 4 + p < 17 by omega) (by omega), if_pos rfl, in_t (show p < 17 by omega) (by omega), if_pos rfl, n_cl (by omega), n_cl (by omega), wI_nk (by omega), (hO.2.1 p hp).1, m_beside (k0 f0) hF hw, bI_s, if_pos rfl, nxt_bes hx, oI_s, e1, bI_s]
    · rw [e4, wI_nc (by omega), wI_nc (by omega)]
    · rw [e5, wI_nc (by omega), wI_nc (by omega)]
theorem m_push (hG : rG s R C kd) (hO : rOS s j n S) (ho : oOkS R C kd n S) (hR : rR s L) (hL : wfL (ruL L) 0) (x y : Int32) : ∃ u, ev (d + 7) f_Ref_pushesOne [vR 13 0, vR 43 j, vI x, vI y] s = some (some (vI (pushX R C kd n L S x y).1), u) ∧ rOS u j n (pushX R C kd n L S x y).2.1 ∧ fr (pOr j) s u ∧ u.1 13 0 28 = s.1 13 0 28 + nI (pushX R C kd n L S x y).2.2 := by
  have hn := ho.1
  have z0 : s.1 13 0 28 = s.1 13 0 28 + nI 0 := (n_add0 _).symm
  rw [Ref_pushesOne_eq, m_isPram hO hn, bI_s]
  unfold pushX
  cases hx : x_in x n with
  | false => rw [if_pos (by decide)]; exact ⟨s, rfl, hO, fr_r _ _, z0⟩
  | true =>
    rw [if_neg (by decide), m_in0 (n := 4) _ (by decide), bI_s]
    cases hy : x_in y 4 with
    | false => rw [if_pos (by decide)]; exact ⟨s, rfl, hO, fr_r _ _, z0⟩
    | true =>
      obtain ⟨p, hp, rfl⟩ := (n_in_iff (by omega)).mp hx
      obtain ⟨w, hw, rfl⟩ := (n_in_iff (by omega)).mp hy
      have hF := (ho.2.2.1 p hp).1
      rw [if_neg (by decide), nl_12, nI_add, in_t (show 12 + p < 17 by omega) (by omega), if_pos rfl, n_cl (by omega), (hO.2.2.1 p (by omega)).2, Bool.true_and, cond_true, n_cl (by omega), n_cl (by omega)]
      unfold pushR
      cases hl : S.2.2.2.1.testBit p with
      | true => rw [if_pos (show nI (b1 true) = 1 from rfl)]; exact ⟨s, rfl, hO, fr_r _ _, z0⟩
      | false =>
        rw [if_neg (by decide), in_t (show p < 17 by omega) (by omega), if_pos rfl, (hO.2.1 p hp).1, m_beside hG hF hw, bI_s, m_openB hG hF hw, bI_s, cond_false]
        cases hx2 : nxt R C kd (S.1 p) w with
        | none => rw [if_pos (show ib (none : Option Nat).isSome = 0 from rfl)]; exact ⟨s, rfl, hO, fr_r _ _, z0⟩
        | some g =>
          obtain ⟨u, e1, e2, e3, e4, e5⟩ := m_goes (d := d) hG hO ho hR hL hp hw hx2
          rw [if_neg (show ¬ ib (some g).isSome = 0 from ib_t0), e1, bI_s]
          exact ⟨u, rfl, e2, e3, e4⟩
theorem m_turn (hG : rG s R C kd) (hO : rOS s 0 n S) (ho : oOkS R C kd n S) (hR : rR s L) (hL : wfL (ruL L) 0) (x y : Int32) : ∃ u, ev (d + 6) f_Ref_turnsOne [vR 13 0, vI x, vI y] s = some (some (vI (faceX R C kd n L S x y).1), u) ∧ rOS u 0 n (faceX R C kd n L S x y).2 ∧ fr (pOr 0) s u := by
  have hn := ho.1
  rw [Ref_turnsOne_eq, m_isPram hO hn, bI_s]
  unfold faceX
  cases hx : x_in x n with
  | false => rw [if_pos (by decide)]; exact ⟨s, rfl, hO, fr_r _ _⟩
  | true =>
    rw [if_neg (by decide), m_in0 (n := 4) _ (by decide), bI_s]
    cases hy : x_in y 4 with
    | false => rw [if_pos (by decide)]; exact ⟨s, rfl, hO, fr_r _ _⟩
    | true =>
      obtain ⟨p, hp, rfl⟩ := (n_in_iff (by omega)).mp hx
      obtain ⟨w, hw, rfl⟩ := (n_in_iff (by omega)).mp hy
      obtain ⟨hF, hk, hW, hV⟩ := ho.2.2.1 p hp
      rw [if_neg (by decide), nl_12, nI_add, in_t (show 12 + p < 17 by omega) (by omega), if_pos rfl, n_cl (by omega), (hO.2.2.1 p (by omega)).2, Bool.true_and, cond_true, n_cl (by omega), n_cl (by omega)]
      unfold faceR
      cases hl : S.2.2.2.1.testBit p with
      | true => rw [if_pos (show nI (b1 true) = 1 from rfl)]; exact ⟨s, rfl, hO, fr_r _ _⟩
      | false =>
        rw [if_neg (by decide), nl_4, nI_add, in_t (show 4 + p < 17 by omega) (by omega), if_pos rfl, n_cl (by omega), (hO.2.1 p hp).2, cond_false]
        by_cases e : S.2.1 p = w
        · rw [if_pos (of_eq_true (eq_t e)), if_pos e]; exact ⟨s, rfl, hO, fr_r _ _⟩
        · have f1 : fr (pOr 0) s (wI s 43 0 (4 + p) (nI w)) := fr_wI (fr_r _ _) (by unfold pOr; omega)
          have hup : up S.1 p (S.1 p) = S.1 := by
            funext q
            by_cases e : q = p
            · rw [e, up_s]
            · rw [up_n e]
          have hO1 : rOS (wI s 43 0 (4 + p) (nI w)) 0 n (goS S p (S.1 p) w) := by
            show rO _ 0 n (up S.1 p (S.1 p)) (up S.2.1 p w) S.2.2.1 S.2.2.2.1 S.2.2.2.2
            rw [hup]; exact rO_way hn hp hO
          obtain ⟨u, e1, e2, e3, e4, e5⟩ := m_look (d := d) (rG_fr hG f1 (by unfold pOr pF; omega) (by unfold pOr pF; omega) (by intro k; unfold pOr pF; omega)) hO1 (goS_ok ho ⟨hF, hk⟩ hw) (rR_fr hR f1 (by unfold pOr pF; omega) (by intro k; unfold pOr pF; omega)) hL hp
          rw [if_neg (of_eq_false (eq_f e (by omega) (by omega))), if_neg e, if_pos rfl, e1, bI_s]
          exact ⟨u, rfl, e2, fr_t f1 e3⟩
theorem pc_cnt {lo n : Nat} (hn : n ≤ 4) (h : lo < 2 ^ n) : pc lo = cnt lo.testBit n := by
  unfold pc
  have : ∀ m, n ≤ m → cnt lo.testBit m = cnt lo.testBit n := by
    intro m
    induction m with
    | zero => intro h; rw [show n = 0 by omega]
    | succ m ih =>
      intro hm
      by_cases e : n = m + 1
      · rw [e]
      · have hz : lo.testBit m = false := Nat.testBit_lt_two_pow (Nat.lt_of_lt_of_le h (Nat.pow_le_pow_right (by omega) (by omega)))
        rw [cnt_f hz]; exact ih (by omega)
  exact this 6 (by omega)
theorem m_looseMany (hO : rOS s j n S) (ho : oOkS R C kd n S) : ev (d + 1) f_Ref_looseMany [vR 13 0, vR 43 j] s = some (some (vI (nI (pc S.2.2.2.1))), s) := by
  have hn := ho.1
  rw [Ref_looseMany_eq, pc_cnt hn ho.2.1]
  refine (chain n (fun k => Ref_looseMany_L1 d j (nI (cnt S.2.2.2.1.testBit k)) (nI k) s) ?_).trans ?_
  · intro k hk
    show Ref_looseMany_L1 _ _ _ _ _ = Ref_looseMany_L1 _ _ _ _ _
    rw [Ref_looseMany_L1_eq, hO.1, if_pos (of_eq_true (lt_t hk (by omega))), nl_12, nI_add, in_t (show 12 + k < 17 by omega) (by omega), if_pos rfl, n_cl (by omega), (hO.2.2.1 k (by omega)).2, nI_add, nI_1]
    rfl
  · show Ref_looseMany_L1 _ _ _ _ _ = _
    rw [Ref_looseMany_L1_eq, hO.1, if_neg (of_eq_false (lt_f (Nat.le_refl _) (by omega)))]
theorem m_sets (hO : rOS s j n S) (ho : oOkS R C kd n S) (b : Bool) (x : Int32) : ∃ u, ev (d + 3) f_Ref_sets [vR 13 0, vR 43 j, vI x, vI (nI (b1 b))] s = some (some (vI (losX n S b x).1), u) ∧ rOS u j n (losX n S b x).2 ∧ fr (pOr j) s u ∧ u.1 13 0 28 = s.1 13 0 28 := by
  have hn := ho.1
  rw [Ref_sets_eq, m_isPram hO hn, bI_s]
  unfold losX
  cases hx : x_in x n with
  | false => rw [if_pos (by decide)]; exact ⟨s, rfl, hO, fr_r _ _, rfl⟩
  | true =>
    obtain ⟨p, hp, rfl⟩ := (n_in_iff (by omega)).mp hx
    rw [if_neg (by decide), nl_12, nI_add, in_t (show 12 + p < 17 by omega) (by omega), if_pos rfl, n_cl (by omega), (hO.2.2.1 p (by omega)).2, cond_true, n_cl (by omega)]
    by_cases e : S.2.2.2.1.testBit p = b
    · rw [if_pos (by rw [e]), show (S.2.2.2.1.testBit p == b) = true by rw [e]; simp]
      exact ⟨s, rfl, hO, fr_r _ _, rfl⟩
    · have hO1 : rOS (wI s 43 j (12 + p) (nI (b1 b))) j n (loS S p b) := rO_lo (by omega) hn hO
      rw [if_neg (fun z => e (by revert z; cases S.2.2.2.1.testBit p <;> cases b <;> decide)), if_pos rfl, show (S.2.2.2.1.testBit p == b) = false by simp [e], m_looseMany hO1 (loS_ok ho hp), bI_s]
      exact ⟨_, rfl, hO1, fr_wI (fr_r _ _) (by unfold pOr; omega), by rw [wI_nc (by omega)]⟩
theorem m_forgets (hO : rOS s 0 n S) (ho : oOkS R C kd n S) (x y : Int32) : ∃ u, ev (d + 3) f_Ref_forgetsOne [vR 13 0, vI x, vI y] s = some (some (vI (frgX n S x y).1), u) ∧ rOS u 0 n (frgX n S x y).2 ∧ fr (pOr 0) s u := by
  have hn := ho.1
  rw [Ref_forgetsOne_eq, m_isPram hO hn, bI_s]
  unfold frgX
  cases hx : x_in x n with
  | false => rw [if_pos (by decide)]; exact ⟨s, rfl, hO, fr_r _ _⟩
  | true =>
    rw [if_neg (by decide), m_in0 (n := 6) _ (by decide), bI_s]
    cases hy : x_in y 6 with
    | false => rw [if_pos (by decide)]; exact ⟨s, rfl, hO, fr_r _ _⟩
    | true =>
      obtain ⟨p, hp, rfl⟩ := (n_in_iff (by omega)).mp hx
      obtain ⟨w, hw, rfl⟩ := (n_in_iff (by omega)).mp hy
      have hV := (ho.2.2.1 p hp).2.2.2
      have h2 := p2_64 hw
      rw [if_neg (by decide), nl_8, nI_add, in_t (show 8 + p < 17 by omega) (by omega), if_pos rfl, n_cl (by omega), (hO.2.2.1 p (by omega)).1, m_hasI (by omega) (by omega), bI_s, Bool.true_and, cond_true, n_cl (by omega), n_cl (by omega)]
      cases hb : (S.2.2.1 p).testBit w with
      | false => rw [if_pos (by decide)]; exact ⟨s, rfl, hO, fr_r _ _⟩
      | true =>
        have hO1 : rOS (wI s 43 0 (8 + p) (nI (an (S.2.2.1 p) (2 ^ w)))) 0 n (S.1, S.2.1, up S.2.2.1 p (an (S.2.2.1 p) (2 ^ w)), S.2.2.2) := rO_views (by omega) hn hO
        rw [if_neg (by decide), if_pos rfl, if_pos rfl, if_pos rfl, wI_s1, (hO.2.2.1 p (by omega)).1, j_1shl (by omega), n_an hV h2]
        exact ⟨_, rfl, hO1, fr_wI (fr_r _ _) (by unfold pOr; omega)⟩
/-- a minute; minutes -/
theorem m_minute {z : Sn × Nat × Nat} (hG : rG s R C kd) (hO : rOS s j n z.1) (ho : oOkS R C kd n z.1) (hR : rR s L) (hL : wfL (ruL L) 0) {a b : Int32} (h28 : s.1 13 0 28 = a + nI z.2.2) (h29 : s.1 13 0 29 = b + nI z.2.1) : ∃ u, ev (d + 8) f_Ref_minuteGoes [vR 13 0, vR 43 j] s = some (none, u) ∧ rOS u j n (minM (minN R C kd n L n z)).1 ∧ fr (pOr j) s u ∧ u.1 13 0 28 = a + nI (minM (minN R C kd n L n z)).2.2 ∧ u.1 13 0 29 = b + nI (minM (minN R C kd n L n z)).2.1 := by
  have hn := ho.1
  have b36 := gOk_36 hG.1
  rw [Ref_minuteGoes_eq]
  have keep : ∀ {t : xS}, fr (pOr j) s t → rG t R C kd ∧ rR t L := fun f => ⟨rG_fr hG f (by unfold pOr pF; omega) (by unfold pOr pF; omega) (by intro k; unfold pOr pF; omega), rR_fr hR f (by unfold pOr pF; omega) (by intro k; unfold pOr pF; omega)⟩
  obtain ⟨v, q1, q2, q3, q4, q5⟩ := chainE n (fun p (t : xS) => Ref_minuteGoes_L1 (d + 7) j (nI p) t) (fun p t => rOS t j n (minN R C kd n L p z).1 ∧ fr (pOr j) s t ∧ t.1 13 0 28 = a + nI (minN R C kd n L p z).2.2 ∧ t.1 13 0 29 = b + nI (minN R C kd n L p z).2.1) (by
    rintro p t' hp ⟨g1, g2, g3, g4⟩
    have hok2 := minN_ok (L := L) (z := z) hG.1 ho p (by omega)
    have hzz : minN R C kd n L (p + 1) z = minP R C kd n L (minN R C kd n L p z) p := rfl
    rw [hzz]
    generalize minN R C kd n L p z = y at g1 g3 g4 hok2 ⊢
    obtain ⟨hGt, hRt⟩ := keep g2
    obtain ⟨hF, hk1, hW, hV⟩ := hok2.2.2.1 p hp
    show ∃ b', Ref_minuteGoes_L1 (d + 7) j (nI p) t' = Ref_minuteGoes_L1 (d + 7) j (nI (p + 1)) b' ∧ _
    have clr : ∃ b', Ref_minuteGoes_J2 (d + 7) j (nI p) t' = Ref_minuteGoes_L1 (d + 7) j (nI (p + 1)) b' ∧ rOS b' j n (loS y.1 p false) ∧ fr (pOr j) s b' ∧ b'.1 13 0 28 = a + nI y.2.2 ∧ b'.1 13 0 29 = b + nI y.2.1 := by
      rw [Ref_minuteGoes_J2_eq, nl_12, nI_add, in_t (show 12 + p < 17 by omega) (by omega), if_pos rfl, n_cl (by omega), nI_1]
      exact ⟨_, rfl, rO_lo (b := false) (by omega) hn g1, fr_wI g2 (by unfold pOr; omega), by rw [wI_nc (by omega)]; exact g3, by rw [wI_nc (by omega)]; exact g4⟩
    rw [Ref_minuteGoes_L1_eq, g1.1, if_pos (of_eq_true (lt_t hp (by omega))), nl_12, nI_add, in_t (show 12 + p < 17 by omega) (by omega), if_pos rfl, n_cl (by omega), (g1.2.2.1 p (by omega)).2]
    unfold minP
    cases hl : y.1.2.2.2.1.testBit p with
    | false => rw [if_neg (by decide)]; exact clr
    | true =>
      rw [if_pos (show nI (b1 true) = 1 from rfl), in_t (show p < 17 by omega) (by omega), if_pos rfl, n_cl (by omega), (g1.2.1 p hp).1, m_runsTo hGt hF, bI_s, cond_true]
      cases hr : rto R C kd (y.1.1 p) with
      | none => rw [if_pos (show oI none < 0 by decide)]; exact clr
      | some g =>
        have hg := rto_lt hG.1 hF hr
        have hs : ∃ w, slo kd (y.1.1 p) = some w ∧ nxt R C kd (y.1.1 p) w = some g := by
          unfold rto at hr
          cases e2 : slo kd (y.1.1 p) with
          | none => rw [e2] at hr; cases hr
          | some w => rw [e2] at hr; exact ⟨w, rfl, hr⟩
        obtain ⟨w, hw, hnx⟩ := hs
        have hw4 := slo_lt hG.1 hF hw
        have hwk : kd (y.1.1 p) - 20 = w ∧ 20 ≤ kd (y.1.1 p) := by
          unfold slo at hw; split at hw
          · next z => cases hw; exact ⟨rfl, z⟩
          · cases hw
        obtain ⟨u, e1, e2, e3, e4, e5⟩ := m_goes (d := d + 1) hGt g1 hok2 hRt hL hp hw4 hnx
        rw [oI_s, if_neg (nI_pos (by omega)), if_pos rfl, (g1.2.1 p hp).1, in_t (show y.1.1 p < 36 by omega) (by omega), if_pos rfl, n_cl (by omega), hGt.2.2.2 _ hF, nl_20, n_sub hwk.2, hwk.1, e1, bI_s, e5, g4, nI_1]
        dsimp only
        refine ⟨_, rfl, rO_fr (p := fun c _ k => c = 13 ∧ k = 29) e2 (fr_wI (fr_r _ _) ⟨rfl, rfl⟩) (by omega) (by omega), fr_wI (fr_t g2 e3) (by unfold pOr; omega), ?_, ?_⟩
        · rw [wI_nk (by omega), e4, g3, Int32.add_assoc, nI_add]
        · rw [wI_s1, Int32.add_assoc, nI_1]) n 0 s (by omega) ⟨hO, fr_r _ _, h28, h29⟩
  have q1' : Ref_minuteGoes_L1 (d + 7) j 0 s = Ref_minuteGoes_L1 (d + 7) j (nI n) v := q1
  rw [q1', Ref_minuteGoes_L1_eq, q2.1, if_neg (of_eq_false (lt_f (Nat.le_refl _) (by omega))), if_pos (by decide), if_pos (by decide)]
  have e16 : v.1 43 j (16 : Int32).toNatClampNeg = (minN R C kd n L n z).1.2.2.2.2 := q2.2.2.2
  rw [e16]
  refine ⟨_, rfl, rO_min hn q2, fr_wI q3 (by unfold pOr; omega), by rw [wI_nc (by omega)]; exact q4, by rw [wI_nc (by omega)]; exact q5⟩
theorem m_goesOn {z : Sn × Nat × Nat} (hG : rG s R C kd) (hO : rOS s j n z.1) (ho : oOkS R C kd n z.1) (hR : rR s L) (hL : wfL (ruL L) 0) {a b : Int32} (h28 : s.1 13 0 28 = a + nI z.2.2) (h29 : s.1 13 0 29 = b + nI z.2.1) {m : Nat} (hm : m ≤ 60) : ∃ u, ev (d + 9) f_Ref_goesOn [vR 13 0, vR 43 j, vI (nI m)] s = some (none, u) ∧ rOS u j n (pasN R C kd n L m z).1 ∧ fr (pOr j) s u ∧ u.1 13 0 28 = a + nI (pasN R C kd n L m z).2.2 ∧ u.1 13 0 29 = b + nI (pasN R C kd n L m z).2.1 := by
  have keep : ∀ {t : xS}, fr (pOr j) s t → rG t R C kd ∧ rR t L := fun f => ⟨rG_fr hG f (by unfold pOr pF; omega) (by unfold pOr pF; omega) (by intro k; unfold pOr pF; omega), rR_fr hR f (by unfold pOr pF; omega) (by intro k; unfold pOr pF; omega)⟩
  rw [Ref_goesOn_eq]
  obtain ⟨v, q1, q2, q3, q4, q5⟩ := chainE m (fun k (t : xS) => Ref_goesOn_L1 (d + 8) j (nI m) (nI k) t) (fun k t => rOS t j n (pasN R C kd n L k z).1 ∧ fr (pOr j) s t ∧ t.1 13 0 28 = a + nI (pasN R C kd n L k z).2.2 ∧ t.1 13 0 29 = b + nI (pasN R C kd n L k z).2.1) (by
    rintro k t hk ⟨g1, g2, g3, g4⟩
    have hok := pasN_ok (L := L) (z := z) hG.1 ho k
    obtain ⟨hGt, hRt⟩ := keep g2
    obtain ⟨u, e1, e2, e3, e4, e5⟩ := m_minute (d := d) hGt g1 hok hRt hL g3 g4
    show ∃ b', Ref_goesOn_L1 (d + 8) j (nI m) (nI k) t = Ref_goesOn_L1 (d + 8) j (nI m) (nI (k + 1)) b' ∧ _
    rw [Ref_goesOn_L1_eq, if_pos (of_eq_true (lt_t hk (by omega))), e1, bV_s, nI_1]
    exact ⟨u, rfl, e2, fr_t g2 e3, e4, e5⟩) m 0 s (by omega) ⟨hO, fr_r _ _, h28, h29⟩
  refine ⟨v, ?_, q2, q3, q4, q5⟩
  refine Eq.trans q1 ?_
  show Ref_goesOn_L1 _ _ _ _ _ = _
  rw [Ref_goesOn_L1_eq, if_neg (of_eq_false (lt_f (Nat.le_refl _) (by omega)))]
end DEEDR

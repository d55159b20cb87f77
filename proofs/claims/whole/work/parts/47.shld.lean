/-! shoulders; loops within loops. -/
section SHLD
theorem grid {σ α : Type} {b A : Nat} (L1 : Nat → σ → α) (L2 : Nat → Nat → σ → α) (h1 : ∀ x a, x < A → L1 x a = L2 x 0 a) (h2 : ∀ x a, x < A → L2 x b a = L1 (x + 1) a) (R : Nat → σ → Prop)
    (step : ∀ x y a, x < A → y < b → R (b * x + y) a → ∃ a', L2 x y a = L2 x (y + 1) a' ∧ R (b * x + y + 1) a') : ∀ a, R 0 a → ∃ a', L1 0 a = L1 A a' ∧ R (b * A) a' := by
  intro a h
  refine chainE A L1 (fun x a => R (b * x) a) ?_ A 0 a (by omega) (by rw [Nat.mul_zero]; exact h)
  intro x a hx hr
  obtain ⟨c, e1, e2⟩ := chainE b (fun y a => L2 x y a) (fun y a => R (b * x + y) a) (fun y a hy hr => step x y a hx hy hr) b 0 a (by omega) hr
  exact ⟨c, by rw [h1 x a hx, ← h2 x c hx]; exact e1, by rw [Nat.mul_succ]; exact e2⟩
def allN (p : Nat → Bool) : Nat → Bool
  | 0 => true
  | k + 1 => allN p k && p k
theorem allN_f {p : Nat → Bool} {k : Nat} (h : p k = false) : ∀ {n : Nat}, k < n → allN p n = false
  | 0, hk => by omega
  | n + 1, hk => by
    unfold allN
    by_cases e : k = n
    · subst e; rw [h, Bool.and_false]
    · rw [allN_f h (show k < n by omega), Bool.false_and]
theorem allN_s (p : Nat → Bool) (k : Nat) : allN p (k + 1) = (allN p k && p k) := rfl
def gnI (v own oth : Int32) : Int32 := ((if own + oth < 9 then 0 else v) - own) + (if 0 < oth - own then oth - own else 0)
def btN (v own oth : Int32) : Bool := allN (fun k => !decide (gnI v own oth < gnI v (nI k) oth)) 10
variable {d n lo R C : Nat} {F W V : Nat → Nat} {kd : Nat → Nat} {M : Int32} {s : xS} {L : List Nat} {l : List Int64} {v x y z : Int32}
theorem c_gain : ev (d + 2) f_Main_gain [vI v, vI x, vI y] s = some (some (vI (gnI v x y)), s) := by
  rw [Main_gain_eq]
  unfold gnI
  by_cases h : x + y < 9
  · rw [if_pos h, if_pos h, Main_gain_J1_eq, max_s, bI_s]
  · rw [if_neg h, if_neg h, Main_gain_J1_eq, max_s, bI_s]
theorem m_gets : ev (d + 2) f_Ref_gets [vI x, vI y, vI v] s = some (some (vI (gnI v x y)), s) := by
  rw [Ref_gets_eq]
  unfold gnI
  by_cases h : x + y < 9
  · rw [if_pos h, if_pos h, Ref_gets_J1_eq, max_s, bI_s]
  · rw [if_neg h, if_neg h, Ref_gets_J1_eq, max_s, bI_s]
theorem c_best : ev (d + 3) f_Main_isBestTurn [vI v, vI x, vI y] s = some (some (vI (ib (btN v x y))), s) := by
  rw [Main_isBestTurn_eq]
  have key : ∀ m k, k + m = 10 → allN (fun k => !decide (gnI v x y < gnI v (nI k) y)) k = true → Main_isBestTurn_L1 (d + 2) v x y (nI k) s = some (some (vI (ib (btN v x y))), s) := by
    intro m
    induction m with
    | zero =>
      intro k e h
      rw [Main_isBestTurn_L1_eq, nl_9, if_pos (of_eq_true (lt_t (by omega) (by omega))), nb_1]
      have : k = 10 := by omega
      subst this
      rw [show btN v x y = true from h]
    | succ m ih =>
      intro k e h
      rw [Main_isBestTurn_L1_eq, nl_9, if_neg (of_eq_false (lt_f (by omega) (by omega))), c_gain, bI_s, c_gain, bI_s]
      by_cases q : gnI v x y < gnI v (nI k) y
      · rw [if_pos q, nb_0, show btN v x y = false from allN_f (p := fun k => !decide (gnI v x y < gnI v (nI k) y)) (k := k) (by simp [q]) (by omega)]
      · rw [if_neg q, nI_1]
        exact ih (k + 1) (by omega) (by rw [allN_s, h]; simp [q])
  exact key 10 0 rfl rfl
theorem m_rest : ev (d + 3) f_Ref_isRest [vI x, vI y, vI v] s = some (some (vI (ib (btN v x y))), s) := by
  rw [Ref_isRest_eq]
  refine (chain 10 (fun k => Ref_isRest_L1 (d + 2) x y v (ib (allN (fun k => !decide (gnI v x y < gnI v (nI k) y)) k)) (nI k) s) ?_).trans ?_
  · intro k hk
    show Ref_isRest_L1 _ _ _ _ _ _ _ = Ref_isRest_L1 _ _ _ _ _ _ _
    rw [Ref_isRest_L1_eq, nl_9, if_neg (of_eq_false (lt_f (by omega) (by omega))), allN_s]
    cases h : allN (fun k => !decide (gnI v x y < gnI v (nI k) y)) k with
    | false => rw [if_pos (by decide), nI_1]; rfl
    | true =>
      rw [if_neg (by decide), m_gets, bI_s, m_gets, bI_s, nI_1]
      by_cases q : gnI v x y < gnI v (nI k) y
      · rw [if_pos q, decide_eq_true q]; rfl
      · rw [if_neg q, decide_eq_false q]; rfl
  · show Ref_isRest_L1 _ _ _ _ _ _ _ = _
    rw [Ref_isRest_L1_eq, nl_9, if_pos (of_eq_true (lt_t (by omega) (by omega))), nb_ib]; rfl
def shP (v : Int32) (q : Nat) : Bool := btN v (nI (q / 10)) (nI (q % 10)) && btN v (nI (q % 10)) (nI (q / 10))
def flP (o : Option Nat) : List Int64 := match o with
  | none => []
  | some q => [lN (q / 10), lN (q % 10)]
theorem fo_none {p : Nat → Bool} {k : Nat} (h : p k = true) (hc : cnt p k = 0) : fo p (k + 1) = some k := by
  rw [fo_S, h, (fo_cnt _ _).mp hc]; rfl
theorem fo_some {p : Nat → Bool} {k : Nat} (h : p k = true) (hc : cnt p k ≠ 0) : fo p (k + 1) = fo p k := by
  rw [fo_S, h]
  cases e : fo p k with
  | none => exact absurd ((fo_cnt _ _).mpr e) hc
  | some j => rfl
theorem q_shoulders (x : Int32) : ∃ a r, (∀ s, CQ s R C kd n F W V lo M L l → QC s (ev (d + 9) f_Main_shoulders [vR 0 0, vI x] s) a r) ∧ (∀ s, RQ s R C kd n F W V lo M L l → QR s (ev (d + 9) f_Ref_shoulders [vR 13 0, vI x] s) a r) := by
  cases hx : x_in x 21 with
  | false =>
    refine ⟨-1, l, fun s h => ⟨s, ?_, h.2.2.2, fr_r _ _⟩, fun s h => ⟨wI s 13 0 0 0, ?_, (RQ_0 h).2.2.2.1, fr_m fr_0 (fun _ _ _ => p0_RQ)⟩⟩
    · rw [Main_shoulders_eq]
      by_cases q : x < 0
      · rw [if_pos q]
      · rw [if_neg q]
        obtain ⟨k, hk, rfl⟩ := nI_of q
        rw [n_in (by omega), decide_eq_false_iff_not] at hx
        rw [nl_20, if_pos (of_eq_true (lt_t (by omega) (by omega)))]
    · rw [Ref_shoulders_eq, m_in0 (n := 21) _ (by decide), hx, bI_s, if_pos (by decide)]
  | true =>
    obtain ⟨v, hv, rfl⟩ := (n_in_iff (by omega)).mp hx
    have cl := cnt_le (shP (nI v))
    refine ⟨nI (cnt (shP (nI v)) 100), flP (fo (shP (nI v)) 100), fun s h => ?_, fun s h => ?_⟩
    · obtain ⟨u, e1, e2, e3⟩ := n_clear (d := d + 7) (s := s)
      obtain ⟨⟨c, t⟩, c2, c3, c4, c5⟩ := grid (b := 10) (A := 10) (fun a (p : Int32 × xS) => Main_shoulders_L1 (d + 8) (nI v) p.1 (nI a) p.2) (fun a b p => Main_shoulders_L2 (d + 8) (nI v) p.1 (nI a) (nI b) p.2)
        (fun a p ha => by
          show Main_shoulders_L1 _ _ _ _ _ = _
          rw [Main_shoulders_L1_eq, nl_9, if_neg (of_eq_false (lt_f (by omega) (by omega)))]; rfl)
        (fun a p ha => by
          show Main_shoulders_L2 _ _ _ _ _ _ = _
          rw [Main_shoulders_L2_eq, nl_9, if_pos (of_eq_true (lt_t (by omega) (by omega))), nI_1])
        (fun q p => p.1 = nI (cnt (shP (nI v)) q) ∧ cRow p.2 (flP (fo (shP (nI v)) q)) ∧ fr pN s p.2)
        (by
          rintro a b ⟨c, t⟩ ha hb ⟨h1, h2, h3⟩
          dsimp only at h1 h2 h3
          have hq1 : (10 * a + b) / 10 = a := by omega
          have hq2 : (10 * a + b) % 10 = b := by omega
          have cl' := cl (10 * a + b)
          show ∃ a' : Int32 × xS, Main_shoulders_L2 (d + 8) (nI v) c (nI a) (nI b) t = Main_shoulders_L2 (d + 8) (nI v) a'.1 (nI a) (nI (b + 1)) a'.2 ∧ _
          rw [Main_shoulders_L2_eq, nl_9, if_neg (of_eq_false (lt_f (by omega) (by omega))), c_best, bI_s, nI_1]
          have no : shP (nI v) (10 * a + b) = false → ∃ a' : Int32 × xS, Main_shoulders_L2 (d + 8) (nI v) c (nI a) (nI (b + 1)) t = Main_shoulders_L2 (d + 8) (nI v) a'.1 (nI a) (nI (b + 1)) a'.2 ∧ a'.1 = nI (cnt (shP (nI v)) (10 * a + b + 1)) ∧ cRow a'.2 (flP (fo (shP (nI v)) (10 * a + b + 1))) ∧ fr pN s a'.2 := by
            intro hp
            refine ⟨(c, t), rfl, ?_, ?_, h3⟩
            · rw [cnt_f hp]; exact h1
            · rw [fo_sf hp]; exact h2
          cases b1 : btN (nI v) (nI a) (nI b) with
          | false => rw [if_pos (by decide)]; exact no (by unfold shP; rw [hq1, hq2, b1]; rfl)
          | true =>
            rw [if_neg (by decide), c_best, bI_s]
            cases b2 : btN (nI v) (nI b) (nI a) with
            | false => rw [if_pos (by decide)]; exact no (by unfold shP; rw [hq1, hq2, b1, b2]; rfl)
            | true =>
              have hp : shP (nI v) (10 * a + b) = true := by unfold shP; rw [hq1, hq2, b1, b2]; rfl
              rw [if_neg (by decide), h1]
              by_cases hc : cnt (shP (nI v)) (10 * a + b) = 0
              · obtain ⟨w, g1, g2, g3⟩ := n_tellTwo (d := d + 5) (s := t) (x := lN a) (y := lN b)
                rw [if_pos (show nI (cnt (shP (nI v)) (10 * a + b)) = 0 by rw [hc]; rfl), nI_l (by omega), nI_l (by omega), g1, bV_s, nI_1]
                refine ⟨(nI (cnt (shP (nI v)) (10 * a + b) + 1), w), rfl, by rw [cnt_t hp], ?_, fr_t h3 g3⟩
                rw [fo_none hp hc]
                show cRow w [lN ((10 * a + b) / 10), lN ((10 * a + b) % 10)]
                rw [hq1, hq2]; exact g2
              · rw [if_neg (show ¬ nI (cnt (shP (nI v)) (10 * a + b)) = 0 from of_eq_false (eq_f (b := 0) hc (by omega) (by omega))), nI_1]
                refine ⟨(nI (cnt (shP (nI v)) (10 * a + b) + 1), t), rfl, by rw [cnt_t hp], ?_, h3⟩
                rw [fo_some hp hc]; exact h2)
        (0, u) ⟨rfl, e2, e3⟩
      dsimp only at c2 c3 c4 c5
      refine ⟨t, ?_, c4, fr_m c5 (fun _ _ _ => pN_CQ)⟩
      rw [Main_shoulders_eq, nl_0, if_neg (of_eq_false (lt_f (Nat.zero_le v) (by omega))), nl_20, if_neg (of_eq_false (lt_f (by omega) (by omega))), e1, bV_s]
      refine c2.trans ?_
      rw [Main_shoulders_L1_eq, nl_9, if_pos (of_eq_true (lt_t (by omega) (by omega))), c3]
    · obtain ⟨hG, hO, hR, hrow, h38⟩ := RQ_0 h
      obtain ⟨i1, i2⟩ := m_told0 (s := wI s 13 0 0 0)
      obtain ⟨⟨c, t⟩, c2, c3, c4, c5⟩ := grid (b := 10) (A := 10) (fun a (p : Int32 × xS) => Ref_shoulders_L1 (d + 8) (nI v) p.1 (nI a) p.2) (fun a b p => Ref_shoulders_L2 (d + 8) (nI v) p.1 (nI a) (nI b) p.2)
        (fun a p ha => by
          show Ref_shoulders_L1 _ _ _ _ _ = _
          rw [Ref_shoulders_L1_eq, nl_9, if_neg (of_eq_false (lt_f (by omega) (by omega)))]; rfl)
        (fun a p ha => by
          show Ref_shoulders_L2 _ _ _ _ _ _ = _
          rw [Ref_shoulders_L2_eq, nl_9, if_pos (of_eq_true (lt_t (by omega) (by omega))), nI_1])
        (fun q p => p.1 = nI (cnt (shP (nI v)) q) ∧ rRow p.2 (flP (fo (shP (nI v)) q)) ∧ fr pT (wI s 13 0 0 0) p.2)
        (by
          rintro a b ⟨c, t⟩ ha hb ⟨h1, h2, h3⟩
          dsimp only at h1 h2 h3
          have hq1 : (10 * a + b) / 10 = a := by omega
          have hq2 : (10 * a + b) % 10 = b := by omega
          have cl' := cl (10 * a + b)
          show ∃ a' : Int32 × xS, Ref_shoulders_L2 (d + 8) (nI v) c (nI a) (nI b) t = Ref_shoulders_L2 (d + 8) (nI v) a'.1 (nI a) (nI (b + 1)) a'.2 ∧ _
          rw [Ref_shoulders_L2_eq, nl_9, if_neg (of_eq_false (lt_f (by omega) (by omega))), m_rest, bI_s, nI_1]
          have no : shP (nI v) (10 * a + b) = false → ∃ a' : Int32 × xS, Ref_shoulders_L2 (d + 8) (nI v) c (nI a) (nI (b + 1)) t = Ref_shoulders_L2 (d + 8) (nI v) a'.1 (nI a) (nI (b + 1)) a'.2 ∧ a'.1 = nI (cnt (shP (nI v)) (10 * a + b + 1)) ∧ rRow a'.2 (flP (fo (shP (nI v)) (10 * a + b + 1))) ∧ fr pT (wI s 13 0 0 0) a'.2 := by
            intro hp
            refine ⟨(c, t), rfl, ?_, ?_, h3⟩
            · rw [cnt_f hp]; exact h1
            · rw [fo_sf hp]; exact h2
          cases b1 : btN (nI v) (nI a) (nI b) with
          | false => rw [if_pos (by decide)]; exact no (by unfold shP; rw [hq1, hq2, b1]; rfl)
          | true =>
            rw [if_neg (by decide), m_rest, bI_s]
            cases b2 : btN (nI v) (nI b) (nI a) with
            | false => rw [if_pos (by decide)]; exact no (by unfold shP; rw [hq1, hq2, b1, b2]; rfl)
            | true =>
              have hp : shP (nI v) (10 * a + b) = true := by unfold shP; rw [hq1, hq2, b1, b2]; rfl
              rw [if_neg (by decide), h1]
              by_cases hc : cnt (shP (nI v)) (10 * a + b) = 0
              · have hz : flP (fo (shP (nI v)) (10 * a + b)) = [] := by rw [(fo_cnt _ _).mp hc]; rfl
                rw [hz] at h2
                obtain ⟨w, g1, g2, g3⟩ := m_enters (d := d + 7) (x := lN a) h2 (by simp)
                obtain ⟨w2, k1, k2, k3⟩ := m_enters (d := d + 7) (x := lN b) g2 (by simp)
                rw [if_pos (show nI (cnt (shP (nI v)) (10 * a + b)) = 0 by rw [hc]; rfl), nI_l (by omega), nI_l (by omega), g1, bV_s, k1, bV_s, nI_1]
                refine ⟨(nI (cnt (shP (nI v)) (10 * a + b) + 1), w2), rfl, by rw [cnt_t hp], ?_, fr_t (fr_t h3 g3) k3⟩
                rw [fo_none hp hc]
                show rRow w2 [lN ((10 * a + b) / 10), lN ((10 * a + b) % 10)]
                rw [hq1, hq2]; exact k2
              · rw [if_neg (show ¬ nI (cnt (shP (nI v)) (10 * a + b)) = 0 from of_eq_false (eq_f (b := 0) hc (by omega) (by omega))), nI_1]
                refine ⟨(nI (cnt (shP (nI v)) (10 * a + b) + 1), t), rfl, by rw [cnt_t hp], ?_, h3⟩
                rw [fo_some hp hc]; exact h2)
        (0, wI (wI s 13 0 0 0) 13 0 1 0) ⟨rfl, i1, i2⟩
      dsimp only at c2 c3 c4 c5
      refine ⟨t, ?_, c4, fr_t (fr_m fr_0 (fun _ _ _ => p0_RQ)) (fr_m c5 (fun _ _ _ => pT_RQ))⟩
      rw [Ref_shoulders_eq, m_in0 (n := 21) _ (by decide), hx, bI_s, if_neg (by decide)]
      refine c2.trans ?_
      rw [Ref_shoulders_L1_eq, nl_9, if_pos (of_eq_true (lt_t (by omega) (by omega))), c3]
end SHLD

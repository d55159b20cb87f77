/-! rounds, basin. -/
section RUNS2
/-- the first with a property; the ROW that tells it; the greatest -/
def fo (p : Nat → Bool) : Nat → Option Nat
  | 0 => none
  | k + 1 => bif p k then (match fo p k with
    | none => some k
    | some j => some j) else fo p k
def flO (o : Option Nat) : List Int64 := match o with
  | none => []
  | some j => [lN j]
theorem flO_n {o : Option Nat} : flO o = [] ↔ o = none := by cases o <;> simp [flO]
theorem flO_len (o : Option Nat) : (flO o).length ≤ 1 := by cases o <;> simp [flO]
theorem fo_cnt (p : Nat → Bool) : ∀ k, cnt p k = 0 ↔ fo p k = none := by
  intro k
  induction k with
  | zero => exact ⟨fun _ => rfl, fun _ => rfl⟩
  | succ k ih =>
    unfold cnt fo
    cases hp : p k with
    | false => simp; exact ih
    | true =>
      simp
      cases fo p k <;> simp
theorem fo_lt (p : Nat → Bool) : ∀ k j, fo p k = some j → j < k := by
  intro k
  induction k with
  | zero => intro j h; cases h
  | succ k ih =>
    intro j h
    unfold fo at h
    cases hp : p k with
    | false => rw [hp] at h; have := ih j h; omega
    | true =>
      rw [hp] at h
      cases e : fo p k with
      | none => rw [e] at h; cases h; omega
      | some i => rw [e] at h; cases h; have := ih _ e; omega
theorem fo_S (p : Nat → Bool) (k : Nat) : fo p (k + 1) = bif p k then (match fo p k with
    | none => some k
    | some j => some j) else fo p k := rfl
theorem fo_st {p : Nat → Bool} {k : Nat} (h : p k = true) : flO (fo p (k + 1)) = if flO (fo p k) = [] then [lN k] else flO (fo p k) := by
  rw [fo_S, h, cond_true]
  cases fo p k with
  | none => rfl
  | some j => rfl
theorem fo_sf {p : Nat → Bool} {k : Nat} (h : p k = false) : fo p (k + 1) = fo p k := by
  show (bif p k then _ else _) = _
  rw [h]; rfl
theorem cnt_t {p : Nat → Bool} {k : Nat} (h : p k = true) : cnt p (k + 1) = cnt p k + 1 := by
  show cnt p k + (bif p k then 1 else 0) = _
  rw [h]; rfl
theorem cnt_f {p : Nat → Bool} {k : Nat} (h : p k = false) : cnt p (k + 1) = cnt p k := by
  show cnt p k + (bif p k then 1 else 0) = _
  rw [h]; rfl
def mxN (p : Nat → Bool) (g : Nat → Nat) : Nat → Nat
  | 0 => 0
  | k + 1 => bif p k then max (mxN p g k) (g k) else mxN p g k
theorem mxN_le {p : Nat → Bool} {g : Nat → Nat} {b : Nat} (h : ∀ k, p k = true → g k ≤ b) : ∀ k, mxN p g k ≤ b := by
  intro k
  induction k with
  | zero => exact Nat.zero_le _
  | succ k ih =>
    unfold mxN
    cases hp : p k with
    | false => exact ih
    | true => exact Nat.max_le.mpr ⟨ih, h k hp⟩
theorem n_max {a b : Nat} (ha : a < 2147483648) (hb : b < 2147483648) : (if nI a < nI b then nI b else nI a) = nI (max a b) := by
  rcases Nat.lt_or_ge a b with h | h
  · rw [if_pos (of_eq_true (lt_t h hb)), Nat.max_eq_right (by omega)]
  · rw [if_neg (of_eq_false (lt_f h ha)), Nat.max_eq_left h]
theorem n_min {a b : Nat} (ha : a < 2147483648) (hb : b < 2147483648) : (if nI b < nI a then nI b else nI a) = nI (min a b) := by
  rcases Nat.lt_or_ge b a with h | h
  · rw [if_pos (of_eq_true (lt_t h ha)), Nat.min_eq_right (by omega)]
  · rw [if_neg (of_eq_false (lt_f h hb)), Nat.min_eq_left h]
variable {d n lo R C f : Nat} {F W V : Nat → Nat} {kd : Nat → Nat} {M : Int32} {s : xS} {L : List Nat} {l : List Int64} {x y z : Int32}
def neverB (R C : Nat) (kd : Nat → Nat) (f : Nat) : Bool := !decide (kd f = 1) && (runK (rto R C kd) f (R * C) 0).isNone
def pH (c i k : Nat) : Prop := pT c i k ∨ p50 c i k
theorem pH_RQ {c i k : Nat} (h : pH c i k) : pRQ c i k := h.elim pT_RQ p50_RQ
theorem q_rounds : ∃ a r, (∀ s, CQ s R C kd n F W V lo M L l → QC s (ev (d + 9) f_Main_rounds [vR 0 0] s) a r) ∧ (∀ s, RQ s R C kd n F W V lo M L l → QR s (ev (d + 9) f_Ref_rounds [vR 13 0] s) a r) := by
  by_cases hgo : gOk R C kd
  case neg => exact ⟨0, [], fun s h => absurd h.1.1 hgo, fun s h => absurd h.1.1 hgo⟩
  have b36 := gOk_36 hgo
  have cl := cnt_le (neverB R C kd)
  refine ⟨nI (cnt (neverB R C kd) (R * C)), flO (fo (neverB R C kd) (R * C)), fun s h => ?_, fun s h => ?_⟩
  · obtain ⟨hG, hO, hR, hrow⟩ := h
    obtain ⟨u, e1, e2, e3⟩ := n_clear (d := d + 7) (s := s)
    obtain ⟨v, c2, c3⟩ := chainE (R * C) (fun k (t : xS) => Main_rounds_L1 (d + 8) (nI (cnt (neverB R C kd) k)) (nI k) t) (fun k t => cRow t (flO (fo (neverB R C kd) k)) ∧ fr pN s t) (by
      intro k t hk ⟨h1, h2⟩
      have hG' := cG_fr hG h2 (by intro k; unfold pN; omega) (by intro k; unfold pN; omega) (by intro k; unfold pN; omega)
      show ∃ b, Main_rounds_L1 (d + 8) (nI (cnt (neverB R C kd) k)) (nI k) t = Main_rounds_L1 (d + 8) (nI (cnt (neverB R C kd) (k + 1))) (nI (k + 1)) b ∧ _
      rw [Main_rounds_L1_eq, hG'.2.2.2.1, if_pos (of_eq_true (lt_t hk (by omega))), g_isWall hG' hk, bI_s]
      by_cases hw : kd k = 1
      · have hp : neverB R C kd k = false := by unfold neverB; rw [decide_eq_true hw]; rfl
        rw [decide_eq_true hw, if_neg (by decide), cnt_f hp, fo_sf hp, nI_1]
        exact ⟨t, rfl, h1, h2⟩
      · rw [decide_eq_false hw, if_pos (by decide), g_runFrom hG' hk, bI_s]
        cases hr : runK (rto R C kd) k (R * C) 0 with
        | none =>
          have hp : neverB R C kd k = true := by unfold neverB; rw [decide_eq_false hw, hr]; rfl
          obtain ⟨v, g1, g2, g3⟩ := n_addFirst (d := d + 6) (x := lN k) h1
          rw [if_pos oI_n, nI_l (by omega), g1, bV_s, cnt_t hp, nI_1, nI_1]
          refine ⟨v, rfl, ?_, fr_t h2 g3⟩
          rw [fo_st hp]; exact g2
        | some j =>
          have hj := runK_lt hr
          have hp : neverB R C kd k = false := by unfold neverB; rw [hr]; simp
          rw [oI_s, if_neg (m1_nn (by omega)), cnt_f hp, fo_sf hp, nI_1]
          exact ⟨t, rfl, h1, h2⟩) (R * C) 0 u (by omega) ⟨e2, e3⟩
    refine ⟨v, ?_, c3.1, fr_m c3.2 (fun _ _ _ => pN_CQ)⟩
    rw [Main_rounds_eq, e1, bV_s]
    refine c2.trans ?_
    show Main_rounds_L1 _ _ _ _ = _
    rw [Main_rounds_L1_eq, (c3.2 2 0 4 (by unfold pN; omega)).1, hG.2.2.2.1, if_neg (of_eq_false (lt_f (Nat.le_refl _) (by omega)))]
  · obtain ⟨hG, hO, hR, hrow, h38⟩ := RQ_0 h
    obtain ⟨i1, i2⟩ := m_told0 (s := wI s 13 0 0 0)
    obtain ⟨v, c2, c3⟩ := chainE (R * C) (fun k (t : xS) => Ref_rounds_L1 (d + 8) (nI (cnt (neverB R C kd) k)) (nI k) t) (fun k t => rRow t (flO (fo (neverB R C kd) k)) ∧ fr pH (wI s 13 0 0 0) t) (by
      intro k t hk ⟨h1, h2⟩
      have hG' := rG_fr hG h2 (by unfold pH pT p50; omega) (by unfold pH pT p50; omega) (by intro k; unfold pH pT p50; omega)
      have j3 : ∀ (b : Bool) (c k : Nat) (t : xS), Ref_rounds_J3 (d + 8) (nI c) (nI k) (ib b) t = Ref_rounds_L1 (d + 8) (nI (c + b1 b)) (nI (k + 1)) t := by
        intro b c k t
        rw [Ref_rounds_J3_eq, m_flag, bI_s, n_addib, nI_1]
      show ∃ b, Ref_rounds_L1 (d + 8) (nI (cnt (neverB R C kd) k)) (nI k) t = Ref_rounds_L1 (d + 8) (nI (cnt (neverB R C kd) (k + 1))) (nI (k + 1)) b ∧ _
      rw [Ref_rounds_L1_eq, m_fields hG', bI_s, if_pos (of_eq_true (lt_t hk (by omega))), m_isOpen hG' hk, bI_s]
      by_cases hw : kd k = 1
      · have hp : neverB R C kd k = false := by unfold neverB; rw [decide_eq_true hw]; rfl
        rw [decide_eq_true hw, if_pos (by decide), Ref_rounds_J2_eq, if_pos (by rfl), show (0 : Int32) = ib false from rfl, j3, cnt_f hp, fo_sf hp]
        exact ⟨t, rfl, h1, h2⟩
      · rw [decide_eq_false hw, if_neg (by decide)]
        obtain ⟨v, g1, g2, g3⟩ := m_stopOf (d := d + 3) hG' hk
        rw [g1, bI_s]
        have h1' : rRow v (flO (fo (neverB R C kd) k)) := rRow_fr h1 g2 (by unfold p50; omega) (by intro k; unfold p50; omega)
        have h2' : fr pH (wI s 13 0 0 0) v := fr_t h2 (fr_m g2 (fun _ _ _ => Or.inr))
        cases hr : runK (rto R C kd) k (R * C) 0 with
        | none =>
          have hp : neverB R C kd k = true := by unfold neverB; rw [decide_eq_false hw, hr]; rfl
          rw [if_pos (show oI ((none : Option Nat).bind (orb (rto R C kd) k)) < 0 from (by decide : oI none < 0)), Ref_rounds_J2_eq, if_neg (by decide)]
          rw [cnt_t hp, fo_st hp]
          have cl' := cl k
          by_cases hc : cnt (neverB R C kd) k = 0
          · have hz : flO (fo (neverB R C kd) k) = [] := flO_n.mpr ((fo_cnt _ _).mp hc)
            rw [hz] at h1'
            obtain ⟨w, k1, k2, k3⟩ := m_enters (d := d + 7) (x := lN k) h1' (by simp)
            rw [if_pos (show nI (cnt (neverB R C kd) k) = 0 by rw [hc]; rfl), nI_l (by omega), k1, bV_s, show (1 : Int32) = ib true from rfl, j3, hz, if_pos rfl]
            exact ⟨w, rfl, k2, fr_t h2' (fr_m k3 (fun _ _ _ => Or.inl))⟩
          · have hz : flO (fo (neverB R C kd) k) ≠ [] := fun q => hc ((fo_cnt _ _).mpr (flO_n.mp q))
            rw [if_neg (show ¬ nI (cnt (neverB R C kd) k) = 0 from of_eq_false (eq_f (b := 0) hc (by omega) (by omega))), show (1 : Int32) = ib true from rfl, j3, if_neg hz]
            exact ⟨v, rfl, h1', h2'⟩
        | some j =>
          have hj := runK_lt hr
          have hp : neverB R C kd k = false := by unfold neverB; rw [hr]; simp
          cases hq : orb (rto R C kd) k j with
          | none => exact absurd hq hj.2
          | some g =>
            have hg := orb_lt (rto_l hgo) hk j g hq
            have e1' : (some j).bind (orb (rto R C kd) k) = some g := hq
            rw [e1', oI_s, if_neg (show ¬ nI g < 0 from of_eq_false (lt_f (Nat.zero_le g) (by omega))), Ref_rounds_J2_eq, if_pos (by rfl), show (0 : Int32) = ib false from rfl, j3, cnt_f hp, fo_sf hp]
            exact ⟨v, rfl, h1', h2'⟩) (R * C) 0 _ (by omega) ⟨i1, fr_m i2 (fun _ _ _ => Or.inl)⟩
    refine ⟨v, ?_, c3.1, fr_t (fr_m fr_0 (fun _ _ _ => p0_RQ)) (fr_m c3.2 (fun _ _ _ => pH_RQ))⟩
    rw [Ref_rounds_eq]
    refine c2.trans ?_
    show Ref_rounds_L1 _ _ _ _ = _
    rw [Ref_rounds_L1_eq, m_fields (rG_fr hG c3.2 (by unfold pH pT p50; omega) (by unfold pH pT p50; omega) (by intro k; unfold pH pT p50; omega)), bI_s, if_neg (of_eq_false (lt_f (Nat.le_refl _) (by omega)))]
/-- stops on a field -/
def basB (R C : Nat) (kd : Nat → Nat) (f k : Nat) : Bool := !decide (kd k = 1) && decide ((runK (rto R C kd) k (R * C) 0).bind (orb (rto R C kd) k) = some f)
def basR (R C : Nat) (kd : Nat → Nat) (k : Nat) : Nat := (runK (rto R C kd) k (R * C) 0).getD 0
theorem q_basin (x : Int32) : ∃ a r, (∀ s, CQ s R C kd n F W V lo M L l → QC s (ev (d + 9) f_Main_basin [vR 0 0, vI x] s) a r) ∧ (∀ s, RQ s R C kd n F W V lo M L l → QR s (ev (d + 9) f_Ref_basin [vR 13 0, vI x] s) a r) := by
  by_cases hgo : gOk R C kd
  case neg => exact ⟨0, [], fun s h => absurd h.1.1 hgo, fun s h => absurd h.1.1 hgo⟩
  have b36 := gOk_36 hgo
  cases hx : x_in x (R * C) with
  | false =>
    refine ⟨-1, l, fun s h => ⟨s, ?_, h.2.2.2, fr_r _ _⟩, fun s h => ⟨wI s 13 0 0 0, ?_, (RQ_0 h).2.2.2.1, fr_m fr_0 (fun _ _ _ => p0_RQ)⟩⟩
    · rw [Main_basin_eq, g_has h.1, hx, bI_s, if_pos (by decide)]
    · rw [Ref_basin_eq, m_isField (RQ_0 h).1, hx, bI_s, if_pos (by decide)]
  | true =>
    obtain ⟨f, hf, rfl⟩ := (n_in_iff (by omega)).mp hx
    have hkd := gOk_kd hgo hf
    by_cases hk1 : kd f = 1
    · refine ⟨-2, l, fun s h => ⟨s, ?_, h.2.2.2, fr_r _ _⟩, fun s h => ⟨wI s 13 0 0 0, ?_, (RQ_0 h).2.2.2.1, fr_m fr_0 (fun _ _ _ => p0_RQ)⟩⟩
      · rw [Main_basin_eq, g_has h.1, hx, bI_s, if_neg (by decide), g_isWall h.1 hf, decide_eq_true hk1, bI_s, if_neg (by decide)]
      · rw [Ref_basin_eq, m_isField (RQ_0 h).1, hx, bI_s, if_neg (by decide), in_t (show f < 36 by omega) (by omega), if_pos rfl, n_cl (by omega), (RQ_0 h).1.2.2.2 f hf, if_pos (by rw [hk1]; rfl)]
    · have cl := cnt_le (basB R C kd f)
      have bR : ∀ k, basB R C kd f k = true → basR R C kd k ≤ 36 := by
        intro k hk
        unfold basR
        cases hr : runK (rto R C kd) k (R * C) 0 with
        | none => exact Nat.zero_le _
        | some j => have := runK_lt hr; show j ≤ 36; omega
      have mb := mxN_le bR
      refine ⟨nI (cnt (basB R C kd f) (R * C)), flO (fo (basB R C kd f) (R * C)) ++ (if cnt (basB R C kd f) (R * C) = 0 then [] else [lN (mxN (basB R C kd f) (basR R C kd) (R * C))]), fun s h => ?_, fun s h => ?_⟩
      · obtain ⟨hG, hO, hR, hrow⟩ := h
        obtain ⟨u, e1, e2, e3⟩ := n_clear (d := d + 7) (s := s)
        obtain ⟨v, c2, c3⟩ := chainE (R * C) (fun k (t : xS) => Main_basin_L1 (d + 8) (nI f) (nI (cnt (basB R C kd f) k)) (nI (mxN (basB R C kd f) (basR R C kd) k)) (nI k) t) (fun k t => cRow t (flO (fo (basB R C kd f) k)) ∧ fr pN s t) (by
          intro k t hk ⟨h1, h2⟩
          have hG' := cG_fr hG h2 (by intro k; unfold pN; omega) (by intro k; unfold pN; omega) (by intro k; unfold pN; omega)
          have no : basB R C kd f k = false → ∃ b, Main_basin_L1 (d + 8) (nI f) (nI (cnt (basB R C kd f) k)) (nI (mxN (basB R C kd f) (basR R C kd) k)) (nI k + 1) t = Main_basin_L1 (d + 8) (nI f) (nI (cnt (basB R C kd f) (k + 1))) (nI (mxN (basB R C kd f) (basR R C kd) (k + 1))) (nI (k + 1)) b ∧ cRow b (flO (fo (basB R C kd f) (k + 1))) ∧ fr pN s b := by
            intro hp
            rw [cnt_f hp, fo_sf hp, nI_1, show mxN (basB R C kd f) (basR R C kd) (k + 1) = mxN (basB R C kd f) (basR R C kd) k by show (bif basB R C kd f k then _ else _) = _; rw [hp]; rfl]
            exact ⟨t, rfl, h1, h2⟩
          show ∃ b, Main_basin_L1 (d + 8) (nI f) (nI (cnt (basB R C kd f) k)) (nI (mxN (basB R C kd f) (basR R C kd) k)) (nI k) t = _ ∧ _
          rw [Main_basin_L1_eq, hG'.2.2.2.1, if_pos (of_eq_true (lt_t hk (by omega))), g_runFrom hG' hk, bI_s, g_isWall hG' hk, bI_s]
          by_cases hw : kd k = 1
          · rw [decide_eq_true hw, if_neg (by decide)]
            exact no (by unfold basB; rw [decide_eq_true hw]; rfl)
          · rw [decide_eq_false hw, if_pos (by decide)]
            cases hr : runK (rto R C kd) k (R * C) 0 with
            | none => rw [if_pos oI_n]; exact no (by unfold basB; rw [hr]; simp)
            | some j =>
              have hj := runK_lt hr
              cases hq : orb (rto R C kd) k j with
              | none => exact absurd hq hj.2
              | some g =>
                have hg := orb_lt (rto_l hgo) hk j g hq
                have e1' : (some j).bind (orb (rto R C kd) k) = some g := hq
                rw [oI_s, if_neg (m1_nn (by omega)), g_runEnd hG' hk (by omega), bI_s, hq, oI_s]
                by_cases hgf : g = f
                · have hp : basB R C kd f k = true := by unfold basB; rw [decide_eq_false hw, hr, e1', hgf]; simp
                  obtain ⟨v, g1, g2, g3⟩ := n_addFirst (d := d + 6) (x := lN k) h1
                  have mb' := mb k
                  have hR : basR R C kd k = j := by unfold basR; rw [hr]; rfl
                  rw [if_pos (of_eq_true (eq_t hgf)), nI_l (by omega), g1, bV_s, max_s, bI_s, n_max (by omega) (by omega), cnt_t hp, nI_1, nI_1, fo_st hp]
                  refine ⟨v, ?_, g2, fr_t h2 g3⟩
                  rw [show mxN (basB R C kd f) (basR R C kd) (k + 1) = max (mxN (basB R C kd f) (basR R C kd) k) j by show (bif basB R C kd f k then _ else _) = _; rw [hp, hR]; rfl]
                · rw [if_neg (of_eq_false (eq_f hgf (by omega) (by omega)))]
                  exact no (by unfold basB; rw [hr, e1']; simp [hgf])) (R * C) 0 u (by omega) ⟨e2, e3⟩
        have fin : Main_basin_L1 (d + 8) (nI f) (nI (cnt (basB R C kd f) (R * C))) (nI (mxN (basB R C kd f) (basR R C kd) (R * C))) (nI (R * C)) v = if cnt (basB R C kd f) (R * C) = 0 then some (some (vI (nI (cnt (basB R C kd f) (R * C)))), v) else bV (ev (d + 8) f_Numbers_add [vR 10 0, vL (lN (mxN (basB R C kd f) (basR R C kd) (R * C)))] v) fun s15 => some (some (vI (nI (cnt (basB R C kd f) (R * C)))), s15) := by
          have cl' := cl (R * C)
          have mb' := mb (R * C)
          rw [Main_basin_L1_eq, (c3.2 2 0 4 (by unfold pN; omega)).1, hG.2.2.2.1, if_neg (of_eq_false (lt_f (Nat.le_refl _) (by omega))), nl_0]
          by_cases hc : cnt (basB R C kd f) (R * C) = 0
          · rw [if_neg (of_eq_false (lt_f (by omega) (by omega))), if_pos hc]
          · rw [if_pos (of_eq_true (lt_t (by omega) (by omega))), if_neg hc, nI_l (by omega)]
        have start : ev (d + 9) f_Main_basin [vR 0 0, vI (nI f)] s = Main_basin_L1 (d + 8) (nI f) (nI (cnt (basB R C kd f) (R * C))) (nI (mxN (basB R C kd f) (basR R C kd) (R * C))) (nI (R * C)) v := by
          rw [Main_basin_eq, g_has hG, hx, bI_s, if_neg (by decide), g_isWall hG hf, decide_eq_false hk1, bI_s, if_pos (by decide), e1, bV_s]
          exact c2
        rw [start, fin]
        by_cases hc : cnt (basB R C kd f) (R * C) = 0
        · rw [if_pos hc, if_pos hc, List.append_nil]
          exact ⟨v, rfl, c3.1, fr_m c3.2 (fun _ _ _ => pN_CQ)⟩
        · rw [if_neg hc, if_neg hc]
          have := flO_len (fo (basB R C kd f) (R * C))
          obtain ⟨w, g1, g2, g3⟩ := n_add1 (d := d + 7) (x := lN (mxN (basB R C kd f) (basR R C kd) (R * C))) c3.1 (by omega)
          rw [g1, bV_s]
          exact ⟨w, rfl, g2, fr_m (fr_t c3.2 g3) (fun _ _ _ => pN_CQ)⟩
      · obtain ⟨hG, hO, hR, hrow, h38⟩ := RQ_0 h
        have l1 : ∀ k, oI (fo (basB R C kd f) k) = oI (fo (basB R C kd f) k) := fun _ => rfl
        obtain ⟨v, c2, c3⟩ := chainE (R * C) (fun k (t : xS) => Ref_basin_L1 (d + 8) (nI f) (nI (cnt (basB R C kd f) k)) (oI (fo (basB R C kd f) k)) (nI (mxN (basB R C kd f) (basR R C kd) k)) (nI k) t) (fun _ t => fr p50 (wI s 13 0 0 0) t) (by
          intro k t hk h2
          have hG' := rG_fr hG h2 (by unfold p50; omega) (by unfold p50; omega) (by intro k; unfold p50; omega)
          have j4 : ∀ (b : Bool) (c : Nat) (o m : Int32) (t : xS), Ref_basin_J4 (d + 8) (nI f) (nI c) o (nI k) (ib b) m t = Ref_basin_L1 (d + 8) (nI f) (nI (c + b1 b)) o m (nI (k + 1)) t := by
            intro b c o m t
            rw [Ref_basin_J4_eq, m_flag, bI_s, n_addib, nI_1]
          have no : ∀ t, fr p50 (wI s 13 0 0 0) t → basB R C kd f k = false → ∃ b, Ref_basin_J2 (d + 8) (nI f) (nI (cnt (basB R C kd f) k)) (oI (fo (basB R C kd f) k)) (nI (mxN (basB R C kd f) (basR R C kd) k)) (nI k) 0 t = Ref_basin_L1 (d + 8) (nI f) (nI (cnt (basB R C kd f) (k + 1))) (oI (fo (basB R C kd f) (k + 1))) (nI (mxN (basB R C kd f) (basR R C kd) (k + 1))) (nI (k + 1)) b ∧ fr p50 (wI s 13 0 0 0) b := by
            intro t h2 hp
            rw [Ref_basin_J2_eq, if_pos rfl, Ref_basin_J3_eq, if_pos rfl, show (0 : Int32) = ib false from rfl, j4, cnt_f hp, fo_sf hp, show mxN (basB R C kd f) (basR R C kd) (k + 1) = mxN (basB R C kd f) (basR R C kd) k by show (bif basB R C kd f k then _ else _) = _; rw [hp]; rfl]
            exact ⟨t, rfl, h2⟩
          show ∃ b, Ref_basin_L1 (d + 8) (nI f) (nI (cnt (basB R C kd f) k)) (oI (fo (basB R C kd f) k)) (nI (mxN (basB R C kd f) (basR R C kd) k)) (nI k) t = _ ∧ _
          rw [Ref_basin_L1_eq, m_fields hG', bI_s, if_pos (of_eq_true (lt_t hk (by omega))), m_isOpen hG' hk, bI_s]
          by_cases hw : kd k = 1
          · rw [decide_eq_true hw, if_pos (by decide)]
            exact no t h2 (by unfold basB; rw [decide_eq_true hw]; rfl)
          · obtain ⟨v, g1, g2, g3⟩ := m_stopOf (d := d + 3) hG' hk
            have h2' : fr p50 (wI s 13 0 0 0) v := fr_t h2 g2
            rw [decide_eq_false hw, if_neg (by decide), g1, bI_s]
            cases hr : runK (rto R C kd) k (R * C) 0 with
            | none =>
              rw [if_neg (show ¬ oI ((none : Option Nat).bind (orb (rto R C kd) k)) = nI f from fun q => m1_nn (show f < 2147483648 by omega) q.symm)]
              exact no v h2' (by unfold basB; rw [hr]; simp)
            | some j =>
              have hj := runK_lt hr
              cases hq : orb (rto R C kd) k j with
              | none => exact absurd hq hj.2
              | some g =>
                have hg := orb_lt (rto_l hgo) hk j g hq
                have e1' : (some j).bind (orb (rto R C kd) k) = some g := hq
                rw [e1', oI_s]
                by_cases hgf : g = f
                · have hp : basB R C kd f k = true := by unfold basB; rw [decide_eq_false hw, hr, e1', hgf]; simp
                  have mb' := mb k
                  have cl' := cl k
                  have hR : basR R C kd k = j := by unfold basR; rw [hr]; rfl
                  have hm : mxN (basB R C kd f) (basR R C kd) (k + 1) = max (mxN (basB R C kd f) (basR R C kd) k) j := by show (bif basB R C kd f k then _ else _) = _; rw [hp, hR]; rfl
                  have j3 : ∀ o, Ref_basin_J3 (d + 8) (nI f) (nI (cnt (basB R C kd f) k)) (nI (mxN (basB R C kd f) (basR R C kd) k)) (nI k) 1 o v = Ref_basin_L1 (d + 8) (nI f) (nI (cnt (basB R C kd f) (k + 1))) o (nI (mxN (basB R C kd f) (basR R C kd) (k + 1))) (nI (k + 1)) v := by
                    intro o
                    rw [Ref_basin_J3_eq, if_neg (by decide), g3 j hr, max_s, bI_s, n_max (by omega) (by omega), show (1 : Int32) = ib true from rfl, j4, hm, cnt_t hp]; rfl
                  rw [if_pos (of_eq_true (eq_t hgf)), Ref_basin_J2_eq, if_neg (by decide)]
                  by_cases hc : cnt (basB R C kd f) k = 0
                  · have hz := (fo_cnt _ _).mp hc
                    rw [if_pos (show nI (cnt (basB R C kd f) k) = 0 by rw [hc]; rfl), j3]
                    refine ⟨v, ?_, h2'⟩
                    rw [show fo (basB R C kd f) (k + 1) = some k by rw [fo_S, hp, hz]; rfl, oI_s]
                  · rw [if_neg (show ¬ nI (cnt (basB R C kd f) k) = 0 from of_eq_false (eq_f (b := 0) hc (by omega) (by omega))), j3]
                    refine ⟨v, ?_, h2'⟩
                    have hz : fo (basB R C kd f) (k + 1) = fo (basB R C kd f) k := by
                      cases e : fo (basB R C kd f) k with
                      | none => exact absurd ((fo_cnt _ _).mpr e) hc
                      | some i => rw [fo_S, hp, e]; rfl
                    rw [hz]
                · rw [if_neg (of_eq_false (eq_f hgf (by omega) (by omega)))]
                  exact no v h2' (by unfold basB; rw [hr, e1']; simp [hgf])) (R * C) 0 (wI s 13 0 0 0) (by omega) (fr_r _ _)
        have hG' := rG_fr hG c3 (by unfold p50; omega) (by unfold p50; omega) (by intro k; unfold p50; omega)
        have start : ev (d + 9) f_Ref_basin [vR 13 0, vI (nI f)] s = Ref_basin_L1 (d + 8) (nI f) (nI (cnt (basB R C kd f) (R * C))) (oI (fo (basB R C kd f) (R * C))) (nI (mxN (basB R C kd f) (basR R C kd) (R * C))) (nI (R * C)) v := by
          rw [Ref_basin_eq, m_isField hG, hx, bI_s, if_neg (by decide), in_t (show f < 36 by omega) (by omega), if_pos rfl, n_cl (by omega), hG.2.2.2 f hf, if_neg (show ¬ nI (kd f) = 1 from of_eq_false (eq_f (b := 1) hk1 (by omega) (by omega)))]
          exact c2
        have cl' := cl (R * C)
        have mb' := mb (R * C)
        rw [start, Ref_basin_L1_eq, m_fields hG', bI_s, if_neg (of_eq_false (lt_f (Nat.le_refl _) (by omega))), nl_0]
        have f9 : fr pRQ s v := fr_t (fr_m fr_0 (fun _ _ _ => p0_RQ)) (fr_m c3 (fun _ _ _ => p50_RQ))
        by_cases hc : cnt (basB R C kd f) (R * C) = 0
        · have hz := (fo_cnt _ _).mp hc
          obtain ⟨i1, i2⟩ := m_told0 (s := v)
          rw [if_neg (of_eq_false (lt_f (by omega) (by omega))), if_pos hc, hz]
          exact ⟨_, rfl, i1, fr_t f9 (fr_m i2 (fun _ _ _ => pT_RQ))⟩
        · cases hz : fo (basB R C kd f) (R * C) with
          | none => exact absurd ((fo_cnt _ _).mpr hz) hc
          | some i =>
            have hi := fo_lt _ _ _ hz
            obtain ⟨v1, v2, g1, g2, g3, g4, g5⟩ := m_ent2 (d + 7) v (lN i) (lN (mxN (basB R C kd f) (basR R C kd) (R * C)))
            have g1' : ev (d + 8) f_Ref_enters [vR 13 0, vL (lN i)] (wI v 13 0 1 (nI 0)) = some (none, v1) := g1
            rw [if_pos (of_eq_true (lt_t (by omega) (by omega))), if_neg hc, oI_s, nI_l (by omega), nI_l (by omega), g1', bV_s, g3, bV_s]
            exact ⟨v2, rfl, g4, fr_t f9 (fr_m g5 (fun _ _ _ => pT_RQ))⟩
end RUNS2

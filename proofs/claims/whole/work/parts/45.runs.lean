/-! Running loose: stops, rounds, basin. -/
section RUNS
def orb (nx : Nat → Option Nat) (f : Nat) : Nat → Option Nat
  | 0 => some f
  | k + 1 => (orb nx f k).bind nx
def runK (nx : Nat → Option Nat) (f : Nat) : Nat → Nat → Option Nat
  | 0, _ => none
  | m + 1, g => match orb nx f (g + 1) with
    | none => some g
    | some _ => runK nx f m (g + 1)
theorem orb_n {nx : Nat → Option Nat} {f k : Nat} (h : orb nx f k = none) : ∀ j, orb nx f (k + j) = none := by
  intro j
  induction j with
  | zero => exact h
  | succ j ih => show (orb nx f (k + j)).bind nx = none; rw [ih]; rfl
theorem orb_lt {nx : Nat → Option Nat} {N f : Nat} (hn : ∀ f g, f < N → nx f = some g → g < N) (hf : f < N) : ∀ k g, orb nx f k = some g → g < N := by
  intro k
  induction k with
  | zero => intro g h; cases h; exact hf
  | succ k ih =>
    intro g h
    have h' : (orb nx f k).bind nx = some g := h
    cases e : orb nx f k with
    | none => rw [e] at h'; cases h'
    | some q => rw [e] at h'; exact hn q g (ih q e) h'
theorem orb_per {nx : Nat → Option Nat} {f i j : Nat} (h : orb nx f i = orb nx f j) : ∀ t, orb nx f (i + t) = orb nx f (j + t) := by
  intro t
  induction t with
  | zero => exact h
  | succ t ih => show (orb nx f (i + t)).bind nx = (orb nx f (j + t)).bind nx; rw [ih]
/-- as many steps as there are fields, or it never stops -/
theorem orb_stop {nx : Nat → Option Nat} {N f k : Nat} (hn : ∀ f g, f < N → nx f = some g → g < N) (hf : f < N) (h1 : orb nx f (k + 1) = none) (h0 : orb nx f k ≠ none) : k < N := by
  rcases Nat.lt_or_ge k N with q | q
  · exact q
  · exfalso
    have all : ∀ i, i ≤ k → orb nx f i ≠ none := by
      intro i hi e
      have := orb_n e (k - i)
      rw [show i + (k - i) = k by omega] at this
      exact h0 this
    obtain ⟨i, j, hij, hj, e⟩ := fb_twice (m := N) (n := N + 1) (f := fun i => (orb nx f i).getD 0) (fun i hi => by
      cases e : orb nx f i with
      | none => exact absurd e (all i (by omega))
      | some g => show (some g).getD 0 < N; exact orb_lt hn hf i g e) (by omega)
    have e2 : orb nx f i = orb nx f j := by
      cases ei : orb nx f i with
      | none => exact absurd ei (all i (by omega))
      | some g =>
        cases ej : orb nx f j with
        | none => exact absurd ej (all j (by omega))
        | some g2 =>
          have e' : (orb nx f i).getD 0 = (orb nx f j).getD 0 := e
          rw [ei, ej] at e'
          have : g = g2 := e'
          rw [this]
    have p := orb_per e2 (k + 1 - j)
    rw [show j + (k + 1 - j) = k + 1 by omega, h1] at p
    exact all (i + (k + 1 - j)) (by omega) p
theorem runK_s {nx : Nat → Option Nat} {f : Nat} : ∀ m g, orb nx f g ≠ none → (∃ k, runK nx f m g = some k ∧ g ≤ k ∧ k < g + m ∧ orb nx f (k + 1) = none ∧ orb nx f k ≠ none) ∨ (runK nx f m g = none ∧ orb nx f (g + m) ≠ none) := by
  intro m
  induction m with
  | zero => intro g h; exact Or.inr ⟨rfl, h⟩
  | succ m ih =>
    intro g h
    unfold runK
    cases e : orb nx f (g + 1) with
    | none => exact Or.inl ⟨g, rfl, Nat.le_refl _, by omega, e, h⟩
    | some q =>
      dsimp only
      rcases ih (g + 1) (by rw [e]; exact fun z => by cases z) with ⟨k, h1, h2, h3, h4, h5⟩ | ⟨h1, h2⟩
      · exact Or.inl ⟨k, h1, by omega, by omega, h4, h5⟩
      · exact Or.inr ⟨h1, by rw [show g + (m + 1) = g + 1 + m by omega]; exact h2⟩
theorem runK_eq {nx : Nat → Option Nat} {N f m : Nat} (hn : ∀ f g, f < N → nx f = some g → g < N) (hf : f < N) (hm : N ≤ m) : runK nx f m 0 = runK nx f N 0 := by
  have h0 : orb nx f 0 ≠ none := fun z => by cases z
  have uniq : ∀ {k j}, orb nx f (k + 1) = none → orb nx f k ≠ none → orb nx f (j + 1) = none → orb nx f j ≠ none → k = j := by
    intro k j a b c d
    rcases Nat.lt_trichotomy k j with q | q | q
    · exact absurd (by have := orb_n a (j - (k + 1)); rw [show k + 1 + (j - (k + 1)) = j by omega] at this; exact this) d
    · exact q
    · exact absurd (by have := orb_n c (k - (j + 1)); rw [show j + 1 + (k - (j + 1)) = k by omega] at this; exact this) b
  rcases runK_s m 0 h0 with ⟨k, h1, _, h3, h4, h5⟩ | ⟨h1, h2⟩
  · rcases runK_s N 0 h0 with ⟨j, g1, _, g3, g4, g5⟩ | ⟨g1, g2⟩
    · rw [h1, g1, uniq h4 h5 g4 g5]
    · have kn := orb_stop hn hf h4 h5
      exact absurd (by have := orb_n h4 (N - (k + 1)); rw [show k + 1 + (N - (k + 1)) = 0 + N by omega] at this; exact this) g2
  · rcases runK_s N 0 h0 with ⟨j, g1, _, g3, g4, g5⟩ | ⟨g1, g2⟩
    · exact absurd (by have := orb_n g4 (m - (j + 1)); rw [show j + 1 + (m - (j + 1)) = 0 + m by omega] at this; exact this) h2
    · rw [h1, g1]
variable {d n lo R C f : Nat} {F W V : Nat → Nat} {kd : Nat → Nat} {M : Int32} {s : xS} {L : List Nat} {l : List Int64} {x y z : Int32}
theorem rto_l (hG : gOk R C kd) : ∀ f g, f < R * C → rto R C kd f = some g → g < R * C := fun f g hf h => (rto_lt hG hf h).1
theorem g_step (hG : cG s R C kd) {o : Option Nat} (ho : ∀ g, o = some g → g < R * C) (k : Int32 → xS → Option xO) : (bI (ev (d + 2) f_Garden_slopeOn [vR 2 0, vI (oI o)] s) fun r2 s1 => bI (ev (d + 2) f_Garden_next [vR 2 0, vI (oI o), vI r2] s1) k) = k (oI (o.bind (rto R C kd))) s := by
  cases o with
  | none => rw [oI_n, g_slopeOn_n, bI_s, g_next_n, bI_s]; rfl
  | some g => rw [oI_s, g_slopeOn hG (ho g rfl), bI_s, g_nexts hG (ho g rfl), bI_s]; rfl
theorem g_runFrom (hG : cG s R C kd) (hf : f < R * C) : ev (d + 3) f_Garden_runFrom [vR 2 0, vI (nI f)] s = some (some (vI (oI (runK (rto R C kd) f (R * C) 0))), s) := by
  have b := gOk_36 hG.1
  rw [Garden_runFrom_eq]
  have key : ∀ m g q, g + m = R * C → orb (rto R C kd) f g = some q → Garden_runFrom_L1 (d + 2) (nI q) (nI g) s = some (some (vI (oI (runK (rto R C kd) f m g))), s) := by
    intro m
    induction m with
    | zero =>
      intro g q e _
      rw [Garden_runFrom_L1_eq, hG.2.2.2.1, if_neg (of_eq_false (lt_f (by omega) (by omega)))]; rfl
    | succ m ih =>
      intro g q e hq
      have hq2 := orb_lt (rto_l hG.1) hf g q hq
      rw [Garden_runFrom_L1_eq, hG.2.2.2.1, if_pos (of_eq_true (lt_t (by omega) (by omega))), ← oI_s q, g_step hG (fun g h => by cases h; exact hq2)]
      unfold runK
      have e2 : orb (rto R C kd) f (g + 1) = (some q).bind (rto R C kd) := by show (orb (rto R C kd) f g).bind _ = _; rw [hq]
      rw [← e2]
      cases h : orb (rto R C kd) f (g + 1) with
      | none => rw [if_pos oI_n, oI_s]
      | some q' =>
        have := orb_lt (rto_l hG.1) hf (g + 1) q' h
        rw [oI_s, if_neg (m1_nn (by omega)), nI_1]
        exact ih (g + 1) q' (by omega) h
  exact key (R * C) 0 f (by omega) rfl
theorem g_runEnd (hG : cG s R C kd) (hf : f < R * C) {k : Nat} (hk : k ≤ 36) : ev (d + 3) f_Garden_runEnd [vR 2 0, vI (nI f), vI (nI k)] s = some (some (vI (oI (orb (rto R C kd) f k))), s) := by
  rw [Garden_runEnd_eq]
  refine (chain k (fun g => Garden_runEnd_L1 (d + 2) (nI k) (oI (orb (rto R C kd) f g)) (nI g) s) ?_).trans ?_
  · intro g hg
    show Garden_runEnd_L1 _ _ _ _ _ = _
    rw [Garden_runEnd_L1_eq, nl_36, if_pos (of_eq_true (lt_t hg (by omega))), if_pos (of_eq_true (lt_t (show g < 36 by omega) (by omega))), g_step hG (orb_lt (rto_l hG.1) hf g), nI_1]
    rfl
  · show Garden_runEnd_L1 _ _ _ _ _ = _
    rw [Garden_runEnd_L1_eq, if_neg (of_eq_false (lt_f (Nat.le_refl _) (by omega)))]
theorem runK_lt {m k : Nat} (h : runK (rto R C kd) f m 0 = some k) : k < m ∧ orb (rto R C kd) f k ≠ none := by
  rcases runK_s (nx := rto R C kd) (f := f) m 0 (fun z => by cases z) with ⟨j, g1, _, g3, g4, g5⟩ | ⟨g1, g2⟩
  · rw [g1] at h; cases h; exact ⟨by omega, g5⟩
  · rw [g1] at h; cases h
/-- the reference's -/
theorem m_runsTo (hG : rG s R C kd) (hf : f < R * C) : ev (d + 4) f_Ref_runsTo [vR 13 0, vI (nI f)] s = some (some (vI (oI (rto R C kd f))), s) := by
  have b := gOk_36 hG.1
  have hk := gOk_kd hG.1 hf
  rw [Ref_runsTo_eq, in_t (show f < 36 by omega) (by omega), if_pos rfl, n_cl (by omega), hG.2.2.2 f hf, nl_20]
  unfold rto slo
  by_cases h : 20 ≤ kd f
  · have hw : kd f - 20 < 4 := by omega
    rw [if_neg (of_eq_false (lt_f h (by omega))), if_pos rfl, n_sub h, m_beside hG hf hw, bI_s, Ref_runsTo_J1_eq, m_openB hG hf hw, bI_s, if_pos h]
    dsimp only
    cases e : nxt R C kd f (kd f - 20) with
    | none => rw [show ib (none : Option Nat).isSome = 0 from rfl, if_pos rfl]; rfl
    | some g => rw [if_neg (show ¬ ib (some g).isSome = 0 from ib_t0), nxt_bes e]
  · rw [if_pos (of_eq_true (lt_t (by omega) (by omega))), Ref_runsTo_J1_eq, m_isOpen_n hG, bI_s, if_pos (by decide), if_neg h]
    rfl
def p50 (c _i k : Nat) : Prop := c = 13 ∧ k = 50
theorem m_stopOf (hG : rG s R C kd) (hf : f < R * C) : ∃ u, ev (d + 5) f_Ref_stopOf [vR 13 0, vI (nI f)] s = some (some (vI (oI ((runK (rto R C kd) f (R * C) 0).bind (orb (rto R C kd) f)))), u) ∧ fr p50 s u ∧ (∀ k, runK (rto R C kd) f (R * C) 0 = some k → u.1 13 0 50 = nI k) := by
  have b := gOk_36 hG.1
  rw [Ref_stopOf_eq, ← runK_eq (m := 37) (rto_l hG.1) hf (by omega)]
  have key : ∀ m g q t, g + m = 37 → orb (rto R C kd) f g = some q → fr p50 s t → t.1 13 0 50 = nI g → ∃ u, Ref_stopOf_L1 (d + 4) (nI q) t = some (some (vI (oI ((runK (rto R C kd) f m g).bind (orb (rto R C kd) f)))), u) ∧ fr p50 s u ∧ (∀ k, runK (rto R C kd) f m g = some k → u.1 13 0 50 = nI k) := by
    intro m
    induction m with
    | zero =>
      intro g q t e hq hf' h50
      refine ⟨t, ?_, hf', fun k h => by cases h⟩
      rw [Ref_stopOf_L1_eq, h50, nl_36, if_pos (of_eq_true (lt_t (by omega) (by omega))), Ref_stopOf_J2_eq, h50, nl_36, if_pos (of_eq_true (lt_t (by omega) (by omega)))]; rfl
    | succ m ih =>
      intro g q t e hq hf' h50
      have hq2 := orb_lt (rto_l hG.1) hf g q hq
      have hG' := rG_fr hG hf' (by unfold p50; omega) (by unfold p50; omega) (by intro k; unfold p50; omega)
      have e2 : orb (rto R C kd) f (g + 1) = rto R C kd q := by show (orb (rto R C kd) f g).bind _ = _; rw [hq]; rfl
      rw [Ref_stopOf_L1_eq, h50, nl_36, if_neg (of_eq_false (lt_f (by omega) (by omega))), m_runsTo hG' hq2, bI_s]
      unfold runK
      rw [← e2]
      cases h : orb (rto R C kd) f (g + 1) with
      | none =>
        refine ⟨t, ?_, hf', fun k h => by cases h; exact h50⟩
        rw [if_pos (show oI none < 0 by decide), Ref_stopOf_J2_eq, h50, nl_36, if_neg (of_eq_false (lt_f (by omega) (by omega)))]
        show _ = some (some (vI (oI (orb (rto R C kd) f g))), t)
        rw [hq, oI_s]
      | some q' =>
        have hq3 := orb_lt (rto_l hG.1) hf (g + 1) q' h
        rw [oI_s, nl_0, if_neg (of_eq_false (lt_f (Nat.zero_le q') (by omega))), m_runsTo hG' hq2, bI_s, ← e2, h, oI_s, h50, nI_1]
        exact ih (g + 1) q' _ (by omega) h (fr_wI hf' ⟨rfl, rfl⟩) (wI_s1 _ _ _ _ _)
  exact key 37 0 f _ rfl rfl (fr_wI (fr_r _ _) ⟨rfl, rfl⟩) (by rw [wI_s1]; rfl)
theorem p50_RQ {c i k : Nat} (h : p50 c i k) : pRQ c i k := by unfold p50 at h; unfold pRQ; omega
theorem q_stops (ho : oOk R C kd n F W V lo) (x : Int32) : ∃ a r, (∀ s, CQ s R C kd n F W V lo M L l → QC s (ev (d + 9) f_Main_stops [vR 0 0, vI x] s) a r) ∧ (∀ s, RQ s R C kd n F W V lo M L l → QR s (ev (d + 9) f_Ref_stops [vR 13 0, vI x] s) a r) := by
  have hn := ho.1
  by_cases hgo : gOk R C kd
  case neg => exact ⟨0, [], fun s h => absurd h.1.1 hgo, fun s h => absurd h.1.1 hgo⟩
  have b36 := gOk_36 hgo
  cases hx : x_in x n with
  | false =>
    refine ⟨-1, l, fun s h => ⟨s, ?_, h.2.2.2, fr_r _ _⟩, fun s h => ⟨wI s 13 0 0 0, ?_, (RQ_0 h).2.2.2.1, fr_m fr_0 (fun _ _ _ => p0_RQ)⟩⟩
    · rw [Main_stops_eq, o_has h.2.1 hn, hx, bI_s, if_pos (by decide)]
    · rw [Ref_stops_eq, m_isPram (RQ_0 h).2.1 hn, hx, bI_s, if_pos (by decide)]
  | true =>
    obtain ⟨p, hp, rfl⟩ := (n_in_iff (by omega)).mp hx
    obtain ⟨hF, hF1, hW, hV⟩ := ho.2.2.1 p hp
    cases hr : runK (rto R C kd) (F p) (R * C) 0 with
    | none =>
      refine ⟨-2, l, fun s h => ⟨s, ?_, h.2.2.2, fr_r _ _⟩, fun s h => ?_⟩
      · rw [Main_stops_eq, o_has h.2.1 hn, hx, bI_s, if_neg (by decide), o_fieldOf h.2.1 hn hp, bI_s, g_runFrom h.1 hF, bI_s, hr, if_pos oI_n]
      · obtain ⟨hG, hO, hR, hrow, h38⟩ := RQ_0 h
        obtain ⟨u, e1, f1, _⟩ := m_stopOf (d := d + 3) hG hF
        rw [hr] at e1
        refine ⟨u, ?_, rRow_fr hrow f1 (by unfold p50; omega) (by intro k; unfold p50; omega), fr_t (fr_m fr_0 (fun _ _ _ => p0_RQ)) (fr_m f1 (fun _ _ _ => p50_RQ))⟩
        rw [Ref_stops_eq, m_isPram hO hn, hx, bI_s, if_neg (by decide), in_t (show p < 17 by omega) (by omega), if_pos rfl, n_cl (by omega), (hO.2.1 p hp).1, e1, bI_s, if_pos (show oI ((none : Option Nat).bind (orb (rto R C kd) (F p))) < 0 from (by decide : oI none < 0))]
    | some k =>
      have hk := runK_lt hr
      cases hq : orb (rto R C kd) (F p) k with
      | none => exact absurd hq hk.2
      | some g =>
        have hg := orb_lt (rto_l hgo) hF k g hq
        refine ⟨nI g, [lN (k + 1), lN k], fun s h => ?_, fun s h => ?_⟩
        · obtain ⟨hG, hO, hR, hrow⟩ := h
          obtain ⟨v, e2, e3, e4⟩ := n_tellTwo (d := d + 5) (s := s) (x := lN (k + 1)) (y := lN k)
          have hG1 := cG_fr hG e4 (by intro k; unfold pN; omega) (by intro k; unfold pN; omega) (by intro k; unfold pN; omega)
          have hO1 := cO_fr hO e4 (by intro k; unfold pN; omega) (by intro k; unfold pN; omega) (by intro k; unfold pN; omega) (by intro k; unfold pN; omega)
          refine ⟨v, ?_, e3, fr_m e4 (fun _ _ _ => pN_CQ)⟩
          rw [Main_stops_eq, o_has hO hn, hx, bI_s, if_neg (by decide), o_fieldOf hO hn hp, bI_s, g_runFrom hG hF, bI_s, hr, oI_s, if_neg (m1_nn (by omega)), nI_1, nI_l (by omega), nI_l (by omega), e2, bV_s, o_fieldOf hO1 hn hp, bI_s, g_runEnd hG1 hF (by omega), bI_s, hq, oI_s]
        · obtain ⟨hG, hO, hR, hrow, h38⟩ := RQ_0 h
          obtain ⟨u, e1, f1, h50⟩ := m_stopOf (d := d + 3) hG hF
          have e50 := h50 k hr
          rw [hr] at e1
          have e1' : (some k).bind (orb (rto R C kd) (F p)) = some g := hq
          rw [e1', oI_s] at e1
          obtain ⟨v1, v2, g1, g2, g3, g4, g5⟩ := m_ent2 (d + 7) u (lN (k + 1)) (lN k)
          refine ⟨v2, ?_, g4, fr_t (fr_m fr_0 (fun _ _ _ => p0_RQ)) (fr_t (fr_m f1 (fun _ _ _ => p50_RQ)) (fr_m g5 (fun _ _ _ => pT_RQ)))⟩
          rw [Ref_stops_eq, m_isPram hO hn, hx, bI_s, if_neg (by decide), in_t (show p < 17 by omega) (by omega), if_pos rfl, n_cl (by omega), (hO.2.1 p hp).1, e1, bI_s, nl_0, if_neg (of_eq_false (lt_f (Nat.zero_le g) (by omega))), e50, nI_1, nI_l (by omega)]
          have g1' : ev (d + 8) f_Ref_enters [vR 13 0, vL (lN (k + 1))] (wI u 13 0 1 (nI 0)) = some (none, v1) := g1
          rw [g1', bV_s, (g2 13 0 50 (by unfold pT; omega)).1, e50, nI_l (by omega), g3, bV_s]
end RUNS

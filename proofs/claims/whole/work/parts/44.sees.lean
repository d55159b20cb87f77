/-! sees, would. -/
section SEES
variable {d n lo R C : Nat} {F W V : Nat → Nat} {kd : Nat → Nat} {M : Int32} {s : xS} {L : List Nat} {l : List Int64} {x y z : Int32}
/-- what questions rest on -/
def CQ (s : xS) (R C : Nat) (kd : Nat → Nat) (n : Nat) (F W V : Nat → Nat) (lo : Nat) (M : Int32) (L : List Nat) (l : List Int64) : Prop := cG s R C kd ∧ cO s 0 n F W V lo M ∧ cR s 0 (ruL L) ∧ cRow s l
def RQ (s : xS) (R C : Nat) (kd : Nat → Nat) (n : Nat) (F W V : Nat → Nat) (lo : Nat) (M : Int32) (L : List Nat) (l : List Int64) : Prop := rG s R C kd ∧ rO s 0 n F W V lo M ∧ rR s L ∧ rRow s l ∧ s.1 13 0 38 = -1
def p0 (c _i k : Nat) : Prop := c = 13 ∧ k = 0
theorem fr_0 : fr p0 s (wI s 13 0 0 0) := fr_wI (fr_r _ _) ⟨rfl, rfl⟩
theorem p0_RQ {c i k : Nat} (h : p0 c i k) : pRQ c i k := by unfold p0 at h; unfold pRQ; omega
theorem RQ_0 (h : RQ s R C kd n F W V lo M L l) : RQ (wI s 13 0 0 0) R C kd n F W V lo M L l :=
  ⟨rG_fr h.1 fr_0 (by unfold p0; omega) (by unfold p0; omega) (by intro k; unfold p0; omega), rO_fr h.2.1 fr_0 (by unfold p0; omega) (by intro k; unfold p0; omega), rR_fr h.2.2.1 fr_0 (by unfold p0; omega) (by intro k; unfold p0; omega), rRow_fr h.2.2.2.1 fr_0 (by unfold p0; omega) (by intro k; unfold p0; omega), by rw [(fr_0 13 0 38 (by unfold p0; omega)).1]; exact h.2.2.2.2⟩
theorem m_ent2 (d : Nat) (u : xS) (x y : Int64) : ∃ v1 v2, ev (d + 1) f_Ref_enters [vR 13 0, vL x] (wI u 13 0 1 0) = some (none, v1) ∧ fr pT u v1 ∧ ev (d + 1) f_Ref_enters [vR 13 0, vL y] v1 = some (none, v2) ∧ rRow v2 [x, y] ∧ fr pT u v2 := by
  obtain ⟨h, f0⟩ := m_told0 (s := u)
  obtain ⟨u, e1, e2, e3⟩ := m_enters (d := d) (x := x) h (by simp)
  obtain ⟨v, g1, g2, g3⟩ := m_enters (d := d) (x := y) e2 (by simp)
  exact ⟨u, v, e1, fr_t f0 e3, g1, g2, fr_t (fr_t f0 e3) g3⟩
theorem m_ent1 (d : Nat) (u : xS) (x : Int64) : ∃ v1, ev (d + 1) f_Ref_enters [vR 13 0, vL x] (wI u 13 0 1 0) = some (none, v1) ∧ rRow v1 [x] ∧ fr pT u v1 := by
  obtain ⟨h, f0⟩ := m_told0 (s := u)
  obtain ⟨u, e1, e2, e3⟩ := m_enters (d := d) (x := x) h (by simp)
  exact ⟨u, e1, e2, fr_t f0 e3⟩
def seenN (nx : Nat → Option Nat) : Nat → Nat → Nat → Nat
  | 0, lg, _ => lg
  | m + 1, lg, pl => match nx pl with
    | none => lg
    | some g => seenN nx m (lg + 1) g
def nearN (nx sg : Nat → Option Nat) (B : Nat) : Nat → Nat → Nat → Nat
  | 0, _, _ => 0
  | m + 1, lg, pl => match nx pl with
    | none => 0
    | some g => match sg g with
      | none => nearN nx sg B m (lg + 1) g
      | some k => bif B.testBit k then lg + 1 else nearN nx sg B m (lg + 1) g
theorem rfo_seen {nx sg : Nat → Option Nat} {ok : Nat → Nat → Bool} {vw : Nat} : ∀ m lg pl be bi ne, (rfo nx sg ok vw m lg pl be bi ne).2.1 = seenN nx m lg pl := by
  intro m
  induction m with
  | zero => intros; rfl
  | succ m ih =>
    intro lg pl be bi ne
    unfold rfo seenN
    cases nx pl with
    | none => rfl
    | some g =>
      dsimp only
      cases sg g with
      | none => exact ih _ _ _ _ _
      | some k => dsimp only; cases (!(be ||| vw).testBit k && ok (lg + 1) k) <;> exact ih _ _ _ _ _
theorem tb_or (a b i : Nat) : (a ||| b).testBit i = (a.testBit i || b.testBit i) := Nat.testBit_or a b i
theorem tb_p2 (k i : Nat) : (2 ^ k).testBit i = decide (k = i) := Nat.testBit_two_pow
theorem rfo_bits {nx sg : Nat → Option Nat} {ok : Nat → Nat → Bool} {vw : Nat} (i : Nat) : ∀ m lg pl be bi ne, be.testBit i = true → (rfo nx sg ok vw m lg pl be bi ne).1.testBit i = bi.testBit i := by
  intro m
  induction m with
  | zero => intros; rfl
  | succ m ih =>
    intro lg pl be bi ne h
    unfold rfo
    cases nx pl with
    | none => rfl
    | some g =>
      dsimp only
      cases sg g with
      | none => exact ih _ _ _ _ _ h
      | some k =>
        have h' : (be ||| 2 ^ k).testBit i = true := by rw [tb_or, h]; rfl
        dsimp only
        cases hc : (!(be ||| vw).testBit k && ok (lg + 1) k) with
        | false => exact ih _ _ _ _ _ h'
        | true =>
          rw [cond_true, ih _ _ _ _ _ h', tb_or, tb_p2]
          by_cases e : k = i
          · subst e; rw [tb_or, h] at hc; cases hc
          · rw [decide_eq_false e, Bool.or_false]
theorem rfo_up {nx sg : Nat → Option Nat} {ok : Nat → Nat → Bool} {vw : Nat} (i : Nat) : ∀ m lg pl be bi ne, bi.testBit i = true → (rfo nx sg ok vw m lg pl be bi ne).1.testBit i = true := by
  intro m
  induction m with
  | zero => intro lg pl be bi ne h; exact h
  | succ m ih =>
    intro lg pl be bi ne h
    unfold rfo
    cases nx pl with
    | none => exact h
    | some g =>
      dsimp only
      cases sg g with
      | none => exact ih _ _ _ _ _ h
      | some k =>
        dsimp only
        cases (!(be ||| vw).testBit k && ok (lg + 1) k) with
        | false => exact ih _ _ _ _ _ h
        | true => exact ih _ _ _ _ _ (by rw [tb_or, h]; rfl)
theorem or_p2_ne (a k : Nat) : a ||| 2 ^ k ≠ 0 := by
  intro h
  have : (a ||| 2 ^ k).testBit k = true := by rw [tb_or, tb_p2, decide_eq_true rfl, Bool.or_true]
  rw [h, Nat.zero_testBit] at this; cases this
theorem rfo_keep {nx sg : Nat → Option Nat} {ok : Nat → Nat → Bool} {vw : Nat} : ∀ m lg pl be bi ne, bi ≠ 0 → (rfo nx sg ok vw m lg pl be bi ne).2.2 = ne := by
  intro m
  induction m with
  | zero => intros; rfl
  | succ m ih =>
    intro lg pl be bi ne h
    unfold rfo
    cases nx pl with
    | none => rfl
    | some g =>
      dsimp only
      cases sg g with
      | none => exact ih _ _ _ _ _ h
      | some k =>
        dsimp only
        cases (!(be ||| vw).testBit k && ok (lg + 1) k) with
        | false => exact ih _ _ _ _ _ h
        | true => rw [cond_true, ih _ _ _ _ _ (or_p2_ne _ _), if_neg h]
theorem rfo_near {nx sg : Nat → Option Nat} {ok : Nat → Nat → Bool} {vw : Nat} : ∀ m lg pl be, (rfo nx sg ok vw m lg pl be 0 0).2.2 = nearN nx sg (rfo nx sg ok vw m lg pl be 0 0).1 m lg pl := by
  intro m
  induction m with
  | zero => intros; rfl
  | succ m ih =>
    intro lg pl be
    unfold rfo nearN
    cases nx pl with
    | none => rfl
    | some g =>
      dsimp only
      cases sg g with
      | none => exact ih _ _ _
      | some k =>
        dsimp only
        cases hc : (!(be ||| vw).testBit k && ok (lg + 1) k) with
        | false =>
          rw [cond_false, ih, rfo_bits k _ _ _ _ _ _ (by rw [tb_or, tb_p2, decide_eq_true rfl, Bool.or_true]), Nat.zero_testBit, cond_false]
        | true =>
          rw [cond_true, rfo_keep _ _ _ _ _ _ (or_p2_ne _ _), if_pos rfl, rfo_up k _ _ _ _ _ _ (by rw [tb_or, tb_p2, decide_eq_true rfl, Bool.or_true]), cond_true]
theorem seenN_le (nx : Nat → Option Nat) : ∀ m lg pl, seenN nx m lg pl ≤ lg + m := by
  intro m
  induction m with
  | zero => intros; exact Nat.le_refl _
  | succ m ih =>
    intro lg pl
    unfold seenN
    cases nx pl with
    | none => dsimp only; omega
    | some g => dsimp only; have := ih (lg + 1) g; omega
theorem nearN_le (nx sg : Nat → Option Nat) (B : Nat) : ∀ m lg pl, nearN nx sg B m lg pl ≤ lg + m := by
  intro m
  induction m with
  | zero => intros; exact Nat.zero_le _
  | succ m ih =>
    intro lg pl
    unfold nearN
    cases nx pl with
    | none => dsimp only; omega
    | some g =>
      dsimp only
      have := ih (lg + 1) g
      cases sg g with
      | none => dsimp only; omega
      | some k => dsimp only; cases B.testBit k <;> simp <;> omega
/-- the class's walks along a line -/
theorem j_w {f w : Nat} (hf : f < 36) (hw : w < 4) : jrem (nI (4 * f + w)) 4 = nI w := by
  have : jrem (nI (4 * f + w)) (nI 4) = nI ((4 * f + w) % 4) := n_rem (by omega) (by omega) (by omega)
  rw [show (4 * f + w) % 4 = w by omega] at this; exact this
theorem j_f {f w : Nat} (hf : f < 36) (hw : w < 4) : nI (4 * f + w) / 4 = nI f := by
  have : nI (4 * f + w) / nI 4 = nI ((4 * f + w) / 4) := n_div (by omega) (by omega) (by omega)
  rw [show (4 * f + w) / 4 = f by omega] at this; exact this
theorem e_seen {f w : Nat} (hG : cG s R C kd) (hf : f < R * C) (hw : w < 4) : ev (d + 2) f_Eye_fieldsSeen [vR 6 0, vI (nI (4 * f + w))] s = some (some (vI (nI (seenN (fun g => nxt R C kd g w) 5 0 f))), s) := by
  have b := gOk_36 hG.1
  rw [Eye_fieldsSeen_eq, if_neg (by decide), j_f (by omega) hw]
  have key : ∀ m lg pl, lg + m = 5 → pl < R * C → Eye_fieldsSeen_L1 (d + 1) (nI (4 * f + w)) (nI pl) (nI lg) s = some (some (vI (nI (seenN (fun g => nxt R C kd g w) m lg pl))), s) := by
    intro m
    induction m with
    | zero =>
      intro lg pl e hp
      rw [Eye_fieldsSeen_L1_eq, nl_5, if_neg (of_eq_false (lt_f (by omega) (by omega)))]
      have : lg = 5 := by omega
      subst this; rfl
    | succ m ih =>
      intro lg pl e hp
      rw [Eye_fieldsSeen_L1_eq, nl_5, if_pos (of_eq_true (lt_t (by omega) (by omega))), if_neg (by decide), j_w (by omega) hw, g_next hG hp hw, bI_s]
      unfold seenN
      cases hx : nxt R C kd pl w with
      | none => rw [if_pos oI_n]
      | some g =>
        have hg := (nxt_lt hG.1 hp hw hx).1
        rw [oI_s, if_neg (m1_nn (by omega)), nI_1]
        exact ih _ _ (by omega) hg
  exact key 5 0 f rfl hf
theorem e_near {f w B : Nat} (hG : cG s R C kd) (hf : f < R * C) (hw : w < 4) (hB : B < 64) : ev (d + 3) f_Eye_nearestOf [vR 6 0, vI (nI (4 * f + w)), vI (nI B)] s = some (some (vI (nI (nearN (fun g => nxt R C kd g w) (sgt kd) B 5 0 f))), s) := by
  have b := gOk_36 hG.1
  rw [Eye_nearestOf_eq, if_neg (by decide), j_f (by omega) hw]
  have non : ∀ m lg, lg + m = 6 → Eye_nearestOf_L1 (d + 2) (nI (4 * f + w)) (nI B) (-1) (nI lg) s = some (some (vI (nI 0)), s) := by
    intro m
    induction m with
    | zero => intro lg e; rw [Eye_nearestOf_L1_eq, nl_5, if_pos (of_eq_true (lt_t (by omega) (by omega)))]; rfl
    | succ m ih =>
      intro lg e
      rw [Eye_nearestOf_L1_eq, nl_5, if_neg (of_eq_false (lt_f (by omega) (by omega))), if_neg (by decide), g_next_n, bI_s, g_sightOn_n, bI_s, if_pos rfl, nI_1]
      exact ih _ (by omega)
  have key : ∀ m lg pl, lg + m = 5 → pl < R * C → Eye_nearestOf_L1 (d + 2) (nI (4 * f + w)) (nI B) (nI pl) (nI (lg + 1)) s = some (some (vI (nI (nearN (fun g => nxt R C kd g w) (sgt kd) B m lg pl))), s) := by
    intro m
    induction m with
    | zero =>
      intro lg pl e hp
      rw [Eye_nearestOf_L1_eq, nl_5, if_pos (of_eq_true (lt_t (by omega) (by omega)))]; rfl
    | succ m ih =>
      intro lg pl e hp
      rw [Eye_nearestOf_L1_eq, nl_5, if_neg (of_eq_false (lt_f (by omega) (by omega))), if_neg (by decide), j_w (by omega) hw, g_next hG hp hw, bI_s]
      unfold nearN
      cases hx : nxt R C kd pl w with
      | none => rw [oI_n, g_sightOn_n, bI_s, if_pos rfl, nI_1]; exact non m _ (by omega)
      | some g =>
        have hg := (nxt_lt hG.1 hp hw hx).1
        rw [oI_s, g_sightOn hG hg, bI_s]
        dsimp only
        cases hy : sgt kd g with
        | none => rw [if_pos oI_n, nI_1]; exact ih _ _ (by omega) hg
        | some k =>
          have hk := sgt_lt hG.1 hg hy
          rw [oI_s, if_neg (m1_nn (by omega))]
          dsimp only
          cases hb : B.testBit k with
          | true => rw [if_pos ((j_bit1 (by omega) (by omega)).mpr hb)]; rfl
          | false => rw [if_neg (fun z => by rw [(j_bit1 (by omega) (by omega)).mp z] at hb; cases hb), nI_1]; exact ih _ _ (by omega) hg
  exact key 5 0 f rfl hf
theorem q_sees (ho : oOk R C kd n F W V lo) (hL : wfL (ruL L) 0) (x : Int32) : ∃ a r, (∀ s, CQ s R C kd n F W V lo M L l → QC s (ev (d + 9) f_Main_sees [vR 0 0, vI x] s) a r) ∧ (∀ s, RQ s R C kd n F W V lo M L l → QR s (ev (d + 9) f_Ref_sees [vR 13 0, vI x] s) a r) := by
  cases hx : x_in x n with
  | false =>
    refine ⟨-1, l, fun s h => ⟨s, ?_, h.2.2.2, fr_r _ _⟩, fun s h => ⟨wI s 13 0 0 0, ?_, (RQ_0 h).2.2.2.1, fr_m fr_0 (fun _ _ _ => p0_RQ)⟩⟩
    · rw [Main_sees_eq, o_has h.2.1 ho.1, hx, bI_s, if_pos (by decide)]
    · rw [Ref_sees_eq, m_isPram (RQ_0 h).2.1 ho.1, hx, bI_s, if_pos (by decide)]
  | true =>
    obtain ⟨p, hp, rfl⟩ := (n_in_iff (by have := ho.1; omega)).mp hx
    have hn := ho.1
    obtain ⟨hF, hF1, hW, hV⟩ := ho.2.2.1 p hp
    refine ⟨nI (wfm R C kd n F V M (ruL L) p (F p) (W p)), [lN (seenN (fun g => nxt R C kd g (W p)) 5 0 (F p)), lN (nearN (fun g => nxt R C kd g (W p)) (sgt kd) (wfm R C kd n F V M (ruL L) p (F p) (W p)) 5 0 (F p))], fun s h => ?_, fun s h => ?_⟩
    · obtain ⟨hG, hO, hR, hw⟩ := h
      have l1 := seenN_le (fun g => nxt R C kd g (W p)) 5 0 (F p)
      have l2 := nearN_le (fun g => nxt R C kd g (W p)) (sgt kd) (wfm R C kd n F V M (ruL L) p (F p) (W p)) 5 0 (F p)
      obtain ⟨u, e1, f1⟩ := e_would (d := d + 4) hG hO ho hR hL hF hW hp
      have hG1 := cG_fr hG f1 (by intro k; unfold pE; omega) (by intro k; unfold pE; omega) (by intro k; unfold pE; omega)
      obtain ⟨v, e2, e3, e4⟩ := n_tellTwo (d := d + 5) (s := u) (x := lN (seenN (fun g => nxt R C kd g (W p)) 5 0 (F p))) (y := lN (nearN (fun g => nxt R C kd g (W p)) (sgt kd) (wfm R C kd n F V M (ruL L) p (F p) (W p)) 5 0 (F p)))
      refine ⟨v, ?_, e3, fr_t (fr_m f1 (fun _ _ _ => pE_CQ)) (fr_m e4 (fun _ _ _ => pN_CQ))⟩
      rw [Main_sees_eq, o_has hO hn, hx, bI_s, if_neg (by decide), o_fieldOf hO hn hp, bI_s, o_wayOf hO hn hp, bI_s, nl_4, pk_mul, nI_add, e1, bI_s, e_seen hG1 hF hW, bI_s, e_near hG1 hF hW (wfm_lt hG.1 hF hW), bI_s, nI_l (by omega), nI_l (by omega), e2, bV_s]
    · obtain ⟨hG, hO, hR, hw, h38⟩ := RQ_0 h
      obtain ⟨u, e1, e2, e3, f1⟩ := m_formed (d := d + 4) hG hO ho hR hL hF hW (show p < 4 by omega) hV
      have l1 := seenN_le (fun g => nxt R C kd g (W p)) 5 0 (F p)
      have l2 := nearN_le (fun g => nxt R C kd g (W p)) (sgt kd) (wfm R C kd n F V M (ruL L) p (F p) (W p)) 5 0 (F p)
      have ef : (fmr R C kd n F M L p (F p) (W p) (V p)).1 = wfm R C kd n F V M (ruL L) p (F p) (W p) := fmr_cfm hG.1 hF hW hV
      have es : (fmr R C kd n F M L p (F p) (W p) (V p)).2.1 = seenN (fun g => nxt R C kd g (W p)) 5 0 (F p) := rfo_seen _ _ _ _ _ _
      have en : (fmr R C kd n F M L p (F p) (W p) (V p)).2.2 = nearN (fun g => nxt R C kd g (W p)) (sgt kd) (fmr R C kd n F M L p (F p) (W p) (V p)).1 5 0 (F p) := rfo_near _ _ _ _
      rw [ef] at en e1
      rw [es] at e2
      rw [en] at e3
      obtain ⟨v1, v2, g1, g2, g3, g4, g5⟩ := m_ent2 (d + 7) u (lN (seenN (fun g => nxt R C kd g (W p)) 5 0 (F p))) (lN (nearN (fun g => nxt R C kd g (W p)) (sgt kd) (wfm R C kd n F V M (ruL L) p (F p) (W p)) 5 0 (F p)))
      refine ⟨v2, ?_, g4, fr_t (fr_m fr_0 (fun _ _ _ => p0_RQ)) (fr_t (fr_m f1 (fun _ _ _ => pF_RQ)) (fr_m g5 (fun _ _ _ => pT_RQ)))⟩
      rw [Ref_sees_eq, m_isPram hO hn, hx, bI_s, if_neg (by decide), nl_4, nl_8, nI_add, nI_add, in_t (show p < 17 by omega) (by omega), if_pos rfl, in_t (show 4 + p < 17 by omega) (by omega), if_pos rfl, in_t (show 8 + p < 17 by omega) (by omega), if_pos rfl, n_cl (by omega), n_cl (by omega), n_cl (by omega), (hO.2.1 p hp).1, (hO.2.1 p hp).2, (hO.2.2.1 p (by omega)).1, e1, bI_s, e2, nI_l (by omega), g1, bV_s, (g2 13 0 25 (by unfold pT; omega)).1, e3, nI_l (by omega), g3, bV_s]
theorem c_isWay {d : Nat} {s : xS} {x : Int32} : ev (d + 1) f_Main_isWay [vI x] s = some (some (vI (ib (x_in x 4))), s) := by
  rw [Main_isWay_eq, n_in2 x (by omega), nb_0, nb_1, nl_4]
  by_cases h : x < 0
  · simp [h]
  · by_cases h2 : x < nI 4 <;> simp [h, h2]
theorem q_would (ho : oOk R C kd n F W V lo) (hL : wfL (ruL L) 0) (x y z : Int32) : ∃ a r, (∀ s, CQ s R C kd n F W V lo M L l → QC s (ev (d + 9) f_Main_would [vR 0 0, vI x, vI y, vI z] s) a r) ∧ (∀ s, RQ s R C kd n F W V lo M L l → QR s (ev (d + 9) f_Ref_would [vR 13 0, vI x, vI y, vI z] s) a r) := by
  have hn := ho.1
  by_cases hc : x_in x n = true ∧ x_in y (R * C) = true ∧ x_in z 4 = true
  · obtain ⟨hx, hy, hz⟩ := hc
    obtain ⟨p, hp, rfl⟩ := (n_in_iff (by omega)).mp hx
    by_cases hgo : gOk R C kd
    · have b36 := gOk_36 hgo
      obtain ⟨f, hf, rfl⟩ := (n_in_iff (by omega)).mp hy
      obtain ⟨w, hw, rfl⟩ := (n_in_iff (by omega)).mp hz
      have hV := (ho.2.2.1 p hp).2.2.2
      by_cases hk : kd f = 1
      · refine ⟨-2, l, fun s h => ⟨s, ?_, h.2.2.2, fr_r _ _⟩, fun s h => ⟨wI s 13 0 0 0, ?_, (RQ_0 h).2.2.2.1, fr_m fr_0 (fun _ _ _ => p0_RQ)⟩⟩
        · rw [Main_would_eq, o_has h.2.1 hn, hx, bI_s, if_neg (by decide), g_has h.1, hy, bI_s, if_neg (by decide), c_isWay, hz, bI_s, if_neg (by decide), g_isWall h.1 hf, decide_eq_true hk, bI_s, if_neg (by decide)]
        · obtain ⟨hG, hO, hR, hw', h38⟩ := RQ_0 h
          rw [Ref_would_eq, m_isPram hO hn, hx, bI_s, if_neg (by decide), m_isField hG, hy, bI_s, if_neg (by decide), m_in0 (n := 4) _ (by decide), hz, bI_s, if_neg (by decide), in_t (show f < 36 by omega) (by omega), if_pos rfl, n_cl (by omega), hG.2.2.2 f hf, if_pos (by rw [hk]; rfl)]
      · refine ⟨nI (wfm R C kd n F V M (ruL L) p f w), [lN (pc (wfm R C kd n F V M (ruL L) p f w))], fun s h => ?_, fun s h => ?_⟩
        · obtain ⟨hG, hO, hR, hrow⟩ := h
          have l1 := pc_le (wfm R C kd n F V M (ruL L) p f w)
          obtain ⟨u, e1, f1⟩ := e_would (d := d + 4) hG hO ho hR hL hf hw hp
          obtain ⟨v, e2, e3, e4⟩ := n_tellOne (d := d + 6) (s := u) (x := lN (pc (wfm R C kd n F V M (ruL L) p f w)))
          refine ⟨v, ?_, e3, fr_t (fr_m f1 (fun _ _ _ => pE_CQ)) (fr_m e4 (fun _ _ _ => pN_CQ))⟩
          rw [Main_would_eq, o_has hO hn, hx, bI_s, if_neg (by decide), g_has hG, hy, bI_s, if_neg (by decide), c_isWay, hz, bI_s, if_neg (by decide), g_isWall hG hf, decide_eq_false hk, bI_s, if_pos (by decide), nl_4, pk_mul, nI_add, e1, bI_s, bc_s (wfm_lt hG.1 hf hw), bI_s, nI_l (by omega), e2, bV_s]
        · obtain ⟨hG, hO, hR, hrow, h38⟩ := RQ_0 h
          have hkd := gOk_kd hG.1 hf
          obtain ⟨u, e1, e2, e3, f1⟩ := m_formed (d := d + 4) hG hO ho hR hL hf hw (show p < 4 by omega) hV
          have ef : (fmr R C kd n F M L p f w (V p)).1 = wfm R C kd n F V M (ruL L) p f w := fmr_cfm hG.1 hf hw hV
          rw [ef] at e1
          have l1 := pc_le (wfm R C kd n F V M (ruL L) p f w)
          obtain ⟨v1, g1, g4, g5⟩ := m_ent1 (d + 7) u (lN (pc (wfm R C kd n F V M (ruL L) p f w)))
          refine ⟨v1, ?_, g4, fr_t (fr_m fr_0 (fun _ _ _ => p0_RQ)) (fr_t (fr_m f1 (fun _ _ _ => pF_RQ)) (fr_m g5 (fun _ _ _ => pT_RQ)))⟩
          rw [Ref_would_eq, m_isPram hO hn, hx, bI_s, if_neg (by decide), m_isField hG, hy, bI_s, if_neg (by decide), m_in0 (n := 4) _ (by decide), hz, bI_s, if_neg (by decide), in_t (show f < 36 by omega) (by omega), if_pos rfl, n_cl (by omega), hG.2.2.2 f hf, nl_1, if_neg (of_eq_false (eq_f hk (by omega) (by omega))), nl_8, nI_add, in_t (show 8 + p < 17 by omega) (by omega), if_pos rfl, n_cl (by omega), (hO.2.2.1 p (by omega)).1, e1, bI_s, bc_s (wfm_lt hG.1 hf hw), bI_s, nI_l (by omega), g1, bV_s]
    · exact ⟨0, [], fun s h => absurd h.1.1 hgo, fun s h => absurd h.1.1 hgo⟩
  · refine ⟨-1, l, fun s h => ⟨s, ?_, h.2.2.2, fr_r _ _⟩, fun s h => ⟨wI s 13 0 0 0, ?_, (RQ_0 h).2.2.2.1, fr_m fr_0 (fun _ _ _ => p0_RQ)⟩⟩
    · rw [Main_would_eq, o_has h.2.1 hn, bI_s]
      cases hx : x_in x n with
      | false => rw [if_pos (by decide)]
      | true =>
        rw [if_neg (by decide), g_has h.1, bI_s]
        cases hy : x_in y (R * C) with
        | false => rw [if_pos (by decide)]
        | true =>
          rw [if_neg (by decide), c_isWay, bI_s]
          cases hz : x_in z 4 with
          | false => rw [if_pos (by decide)]
          | true => exact absurd ⟨hx, hy, hz⟩ hc
    · obtain ⟨hG, hO, hR, hw', h38⟩ := RQ_0 h
      rw [Ref_would_eq, m_isPram hO hn, bI_s]
      cases hx : x_in x n with
      | false => rw [if_pos (by decide)]
      | true =>
        rw [if_neg (by decide), m_isField hG, bI_s]
        cases hy : x_in y (R * C) with
        | false => rw [if_pos (by decide)]
        | true =>
          rw [if_neg (by decide), m_in0 (n := 4) _ (by decide), bI_s]
          cases hz : x_in z 4 with
          | false => rw [if_pos (by decide)]
          | true => exact absurd ⟨hx, hy, hz⟩ hc
end SEES

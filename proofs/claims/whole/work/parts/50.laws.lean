/-! saw's notes: laws, looks. -/
section LAWS
def sOk (q : Nat) (sq : Nat → Nat × Nat × Nat) : Prop := q ≤ 10 ∧ ∀ i, i < q → 1 ≤ (sq i).1 ∧ (sq i).1 ≤ 5 ∧ (sq i).2.1 ≤ 6 ∧ (sq i).2.2 ≤ 1
def cS (s : xS) (q : Nat) (sq : Nat → Nat × Nat × Nat) : Prop := s.1 11 0 1 = nI q ∧ ∀ i, i < q → s.1 39 0 i = nI (100 * (sq i).2.2 + 10 * (sq i).1 + (sq i).2.1)
def rS (s : xS) (q : Nat) (sq : Nat → Nat × Nat × Nat) : Prop := s.1 13 0 51 = nI q ∧ ∀ i, i < q → s.1 65 0 i = nI (sq i).1 ∧ s.1 66 0 i = nI (sq i).2.1 ∧ s.1 67 0 i = nI (sq i).2.2
theorem cS_fr {p : Nat → Nat → Nat → Prop} {s t : xS} {q : Nat} {sq : Nat → Nat × Nat × Nat} (h : cS s q sq) (g : fr p s t) (h1 : ¬ p 11 0 1) (h2 : ∀ k, ¬ p 39 0 k) : cS t q sq :=
  ⟨by rw [(g _ _ _ h1).1]; exact h.1, fun i hi => by rw [(g _ _ _ (h2 _)).1]; exact h.2 i hi⟩
theorem rS_fr {p : Nat → Nat → Nat → Prop} {s t : xS} {q : Nat} {sq : Nat → Nat × Nat × Nat} (h : rS s q sq) (g : fr p s t) (h1 : ¬ p 13 0 51) (h2 : ∀ k, ¬ p 65 0 k) (h3 : ∀ k, ¬ p 66 0 k) (h4 : ∀ k, ¬ p 67 0 k) : rS t q sq :=
  ⟨by rw [(g _ _ _ h1).1]; exact h.1, fun i hi => by rw [(g _ _ _ (h2 _)).1, (g _ _ _ (h3 _)).1, (g _ _ _ (h4 _)).1]; exact h.2 i hi⟩
def fB (law d v : Nat) : Bool := decide (d ≤ 1 + law / 7) && decide (v ≤ law % 7)
def fit (q : Nat) (sq : Nat → Nat × Nat × Nat) (law : Nat) : Bool := allN (fun i => fB law (sq i).1 (sq i).2.1 == decide ((sq i).2.2 = 1)) q
variable {d n lo R C q law : Nat} {F W V : Nat → Nat} {kd : Nat → Nat} {M : Int32} {s : xS} {L : List Nat} {l : List Int64} {sq : Nat → Nat × Nat × Nat} {x y z : Int32}
theorem c_lawsA (h : law < 35) : ev (d + 1) f_Main_lawsA [vI (nI law)] s = some (some (vI (nI (1 + law / 7))), s) := by
  rw [Main_lawsA_eq, if_neg (by decide), nl_7, n_div (by omega) (by omega) (by omega), nl_1, nI_add]
theorem c_lawsB (h : law < 35) : ev (d + 1) f_Main_lawsB [vI (nI law)] s = some (some (vI (nI (law % 7))), s) := by
  rw [Main_lawsB_eq, if_neg (by decide), nl_7, n_rem (by omega) (by omega) (by omega)]
theorem c_isFormed {a v : Nat} (h : law < 35) (ha : a < 10) (hv : v < 10) : ev (d + 1) f_Main_isFormed [vI (nI (1 + law / 7)), vI (nI (law % 7)), vI (nI (10 * a + v))] s = some (some (vI (ib (fB law a v))), s) := by
  rw [Main_isFormed_eq]
  simp only [show ((10 : Int32) = 0) = False from eq_false (by decide), ↓reduceIte]
  rw [nl_10, n_div (by omega) (by omega) (by omega), n_rem (by omega) (by omega) (by omega), show (10 * a + v) / 10 = a by omega, show (10 * a + v) % 10 = v by omega, nb_0, nb_1]
  unfold fB
  by_cases h1 : a ≤ 1 + law / 7
  · rw [if_neg (of_eq_false (lt_f h1 (by omega))), decide_eq_true h1]
    by_cases h2 : v ≤ law % 7
    · rw [if_neg (of_eq_false (lt_f h2 (by omega))), decide_eq_true h2]; rfl
    · rw [if_pos (of_eq_true (lt_t (by omega) (by omega))), decide_eq_false h2]; rfl
  · rw [if_pos (of_eq_true (lt_t (by omega) (by omega))), decide_eq_false h1]; rfl
theorem c_getS (hS : cS s q sq) (hq : sOk q sq) {i : Nat} (hi : i < q) : ev (d + 1) f_Notes_get [vR 11 0, vI (nI i)] s = some (some (vI (nI (100 * (sq i).2.2 + 10 * (sq i).1 + (sq i).2.1))), s) := by
  have := hq.1
  rw [Notes_getS_eq, nl_0, if_neg (of_eq_false (lt_f (Nat.zero_le i) (by omega))), hS.1, if_pos (of_eq_true (lt_t hi (by omega))), in_t (show i < 10 by omega) (by omega), if_pos rfl, n_cl (by omega), hS.2 i hi]
theorem c_fitsSeen (hS : cS s q sq) (hq : sOk q sq) (h : law < 35) : ev (d + 2) f_Main_fitsSeen [vR 0 0, vI (nI (1 + law / 7)), vI (nI (law % 7))] s = some (some (vI (ib (fit q sq law))), s) := by
  have q10 := hq.1
  rw [Main_fitsSeen_eq]
  have key : ∀ m k, k + m = q → allN (fun i => fB law (sq i).1 (sq i).2.1 == decide ((sq i).2.2 = 1)) k = true → Main_fitsSeen_L1 (d + 1) (nI (1 + law / 7)) (nI (law % 7)) (nI k) s = some (some (vI (ib (fit q sq law))), s) := by
    intro m
    induction m with
    | zero =>
      intro k e ha
      have : k = q := by omega
      subst this
      rw [Main_fitsSeen_L1_eq, hS.1, if_neg (of_eq_false (lt_f (Nat.le_refl _) (by omega))), nb_1, show fit k sq law = true from ha]
    | succ m ih =>
      intro k e ha
      obtain ⟨h1, h2, h3, h4⟩ := hq.2 k (by omega)
      have e1 : jrem (nI (100 * (sq k).2.2 + 10 * (sq k).1 + (sq k).2.1)) 100 = nI (10 * (sq k).1 + (sq k).2.1) := by
        have : jrem (nI (100 * (sq k).2.2 + 10 * (sq k).1 + (sq k).2.1)) (nI 100) = nI ((100 * (sq k).2.2 + 10 * (sq k).1 + (sq k).2.1) % 100) := n_rem (by omega) (by omega) (by omega)
        rw [show (100 * (sq k).2.2 + 10 * (sq k).1 + (sq k).2.1) % 100 = 10 * (sq k).1 + (sq k).2.1 by omega] at this; exact this
      rw [Main_fitsSeen_L1_eq, hS.1, if_pos (of_eq_true (lt_t (by omega) (by omega))), c_getS hS hq (by omega), bI_s, if_neg (by decide), e1, c_isFormed h (by omega) (by omega), bI_s, nb_0, nl_100, nI_1]
      have no : (fB law (sq k).1 (sq k).2.1 == decide ((sq k).2.2 = 1)) = false → fit q sq law = false := fun z => allN_f (p := fun i => fB law (sq i).1 (sq i).2.1 == decide ((sq i).2.2 = 1)) z (by omega)
      have yes : (fB law (sq k).1 (sq k).2.1 == decide ((sq k).2.2 = 1)) = true → allN (fun i => fB law (sq i).1 (sq i).2.1 == decide ((sq i).2.2 = 1)) (k + 1) = true := fun z => by rw [allN_s, ha]; exact z
      by_cases hi : (sq k).2.2 = 1
      · rw [if_neg (of_eq_false (lt_f (by omega) (by omega)))]
        cases hb : fB law (sq k).1 (sq k).2.1 with
        | true => rw [if_pos (by decide)]; exact ih (k + 1) (by omega) (yes (by rw [hb, decide_eq_true hi]; rfl))
        | false => rw [if_neg (by decide), no (by rw [hb, decide_eq_true hi]; rfl)]
      · rw [if_pos (of_eq_true (lt_t (by omega) (by omega)))]
        cases hb : fB law (sq k).1 (sq k).2.1 with
        | true => rw [if_neg (by decide), no (by rw [hb, decide_eq_false hi]; rfl)]
        | false => rw [if_pos (by decide)]; exact ih (k + 1) (by omega) (yes (by rw [hb, decide_eq_false hi]; rfl))
  exact key q 0 (by omega) rfl
theorem jl_1shl {k : Nat} (hk : k < 64) : jlshl 1 (nI k) = lN (2 ^ k) := by
  have := wb_shl 1 hk
  rw [Nat.one_mul] at this; exact this
theorem c_fitting (hS : cS s q sq) (hq : sOk q sq) : ev (d + 3) f_Main_fittingLaws [vR 0 0] s = some (some (vL (lN (bitsN (fit q sq) 35))), s) := by
  rw [Main_fittingLaws_eq]
  refine (chain 35 (fun k => Main_fittingLaws_L1 (d + 2) (lN (bitsN (fit q sq) k)) (nI k) s) ?_).trans ?_
  · intro k hk
    show Main_fittingLaws_L1 _ _ _ _ = Main_fittingLaws_L1 _ (lN (bitsN (fit q sq) k ||| (bif fit q sq k then 2 ^ k else 0))) _ _
    rw [Main_fittingLaws_L1_eq, nl_35, if_pos (of_eq_true (lt_t hk (by omega))), c_lawsA hk, bI_s, c_lawsB hk, bI_s, c_fitsSeen hS hq hk, bI_s, nI_1]
    cases fit q sq k with
    | true => rw [if_neg (by decide), jl_1shl (by omega), fb_orL]; rfl
    | false =>
      rw [if_pos (by decide)]
      have : lN (bitsN (fit q sq) k) ||| 0 = lN (bitsN (fit q sq) k ||| 0) := fb_orL _ 0
      rw [this]; rfl
  · show Main_fittingLaws_L1 _ _ _ _ = _
    rw [Main_fittingLaws_L1_eq, nl_35, if_neg (of_eq_false (lt_f (by omega) (by omega)))]
theorem jl_bit {a k : Nat} (ha : a < 4611686018427387904) (hk : k < 64) : (lg_cmp (jlshr (lN a) (nI k) &&& 1) 1 = 0) ↔ a.testBit k = true := by
  have e1 : jlshr (lN a) (nI k) = lN (a / 2 ^ k) := by
    unfold jlshr
    rw [wb_c k hk]
    refine pf_shr ?_ ha
    rw [wb_tb, wb_sm k hk, BitVec.toNat_ofNat]; omega
  have h2 : a / 2 ^ k < 2 ^ 64 := Nat.lt_of_le_of_lt (Nat.div_le_self _ _) (by omega)
  rw [e1, wb_a1 h2, tb_dm]
  rcases Nat.mod_two_eq_zero_or_one (a / 2 ^ k) with h | h <;> rw [h] <;> decide
theorem bits35 (p : Nat → Bool) : bitsN p 35 < 34359738368 := bitsN_lt p 35
theorem bits35_tb {p : Nat → Bool} {k : Nat} (hk : k < 35) : (bitsN p 35).testBit k = p k := by rw [bitsN_tb, decide_eq_true hk, Bool.true_and]
theorem bits35_cnt (p : Nat → Bool) : cnt (bitsN p 35).testBit 35 = cnt p 35 := cnt_cong (fun k hk => bits35_tb hk)
def flQ (o : Option Nat) : List Int64 := match o with
  | none => []
  | some j => [lN (1 + j / 7), lN (j % 7)]
theorem fo_stay {p : Nat → Bool} {k j : Nat} (h : fo p k = some j) : ∀ m, fo p (k + m) = some j := by
  intro m
  induction m with
  | zero => exact h
  | succ m ih =>
    show (bif p (k + m) then (match fo p (k + m) with
    | none => some (k + m)
    | some j => some j) else fo p (k + m)) = some j
    rw [ih]; cases p (k + m) <;> rfl
/-- the reference's -/
theorem m_formedBy {a v : Nat} (h : law < 35) (ha : a < 10) (hv : v < 10) : ev (d + 2) f_Ref_isFormedBy [vI (nI law), vI (nI a), vI (nI v)] s = some (some (vI (ib (fB law a v))), s) := by
  rw [Ref_isFormedBy_eq]
  simp only [show ((7 : Int32) = 0) = False from eq_false (by decide), ↓reduceIte]
  rw [nl_7, n_div (by omega) (by omega) (by omega), n_rem (by omega) (by omega) (by omega), nl_1, nI_add]
  unfold fB
  by_cases h1 : a ≤ 1 + law / 7
  · rw [if_neg (of_eq_false (lt_f h1 (by omega))), decide_eq_true h1]
    by_cases h2 : v ≤ law % 7
    · rw [if_neg (of_eq_false (lt_f h2 (by omega))), decide_eq_true h2, show nI 1 = ib true from rfl, m_flag, bI_s]; rfl
    · rw [if_pos (of_eq_true (lt_t (by omega) (by omega))), decide_eq_false h2, m_flag0, bI_s]; rfl
  · rw [if_pos (of_eq_true (lt_t (by omega) (by omega))), decide_eq_false h1, m_flag0, bI_s]; rfl
theorem m_isLaw (hS : rS s q sq) (hq : sOk q sq) (h : law < 35) : ev (d + 3) f_Ref_isLaw [vR 13 0, vI (nI law)] s = some (some (vI (ib (fit q sq law))), s) := by
  have q10 := hq.1
  rw [Ref_isLaw_eq]
  refine (chain q (fun k => Ref_isLaw_L1 (d + 2) (nI law) (ib (allN (fun i => fB law (sq i).1 (sq i).2.1 == decide ((sq i).2.2 = 1)) k)) (nI k) s) ?_).trans ?_
  · intro k hk
    obtain ⟨h1, h2, h3, h4⟩ := hq.2 k hk
    show Ref_isLaw_L1 _ _ _ _ _ = Ref_isLaw_L1 _ _ _ _ _
    rw [Ref_isLaw_L1_eq, hS.1, if_pos (of_eq_true (lt_t hk (by omega))), allN_s]
    cases ha : allN (fun i => fB law (sq i).1 (sq i).2.1 == decide ((sq i).2.2 = 1)) k with
    | false => rw [if_pos (by decide), nI_1]; rfl
    | true =>
      rw [if_neg (by decide), in_t (show k < 10 by omega) (by omega), if_pos rfl, if_pos rfl, n_cl (by omega), (hS.2 k hk).1, (hS.2 k hk).2.1, m_formedBy h (by omega) (by omega), bI_s, if_pos rfl, (hS.2 k hk).2.2, nI_1, b1_ib]
      by_cases hi : (sq k).2.2 = 1
      · rw [hi]
        cases fB law (sq k).1 (sq k).2.1 with
        | true => rw [if_pos (show nI (b1 true) = nI 1 from rfl)]; rfl
        | false => rw [if_neg (by decide)]; rfl
      · rw [show (sq k).2.2 = 0 by omega]
        cases fB law (sq k).1 (sq k).2.1 with
        | true => rw [if_neg (by decide)]; rfl
        | false => rw [if_pos (by decide)]; rfl
  · show Ref_isLaw_L1 _ _ _ _ _ = _
    rw [Ref_isLaw_L1_eq, hS.1, if_neg (of_eq_false (lt_f (Nat.le_refl _) (by omega))), nb_ib]; rfl
theorem q_laws (hq : sOk q sq) : ∃ a r, (∀ s, CQ s R C kd n F W V lo M L l → cS s q sq → QC s (ev (d + 9) f_Main_laws [vR 0 0] s) a r) ∧ (∀ s, RQ s R C kd n F W V lo M L l → rS s q sq → QR s (ev (d + 9) f_Ref_laws [vR 13 0] s) a r) := by
  have cl := cnt_le (fit q sq)
  refine ⟨nI (cnt (fit q sq) 35), flQ (fo (fit q sq) 35), fun s h hS => ?_, fun s h hS => ?_⟩
  · obtain ⟨u, e1, e2, e3⟩ := n_clear (d := d + 7) (s := s)
    have b35 := bits35 (fit q sq)
    have fin : ∀ t, (bI (ev (d + 8) f_Long_bitCount [vL (lN (bitsN (fit q sq) 35))] t) fun r10 s9 => some (some (vI r10), s9)) = some (some (vI (nI (cnt (fit q sq) 35))), t) := by
      intro t; rw [bc_long b35, bI_s, bits35_cnt]
    have key : ∀ m k t, k + m = 35 → cRow t (flQ (fo (fit q sq) k)) → fr pN s t → ∃ v, Main_laws_L1 (d + 8) (lN (bitsN (fit q sq) 35)) (nI k) t = some (some (vI (nI (cnt (fit q sq) 35))), v) ∧ cRow v (flQ (fo (fit q sq) 35)) ∧ fr pN s v := by
      intro m
      induction m with
      | zero =>
        intro k t e h1 h2
        have : k = 35 := by omega
        subst this
        rw [Main_laws_L1_eq, nl_35, if_neg (of_eq_false (lt_f (by omega) (by omega))), fin]
        exact ⟨t, rfl, h1, h2⟩
      | succ m ih =>
        intro k t e h1 h2
        rw [Main_laws_L1_eq, nl_35, if_pos (of_eq_true (lt_t (by omega) (by omega))), h1.1]
        cases ho : fo (fit q sq) k with
        | some j =>
          rw [if_neg (show ¬ nI (flQ (some j)).length = 0 from (by decide : ¬ nI 2 = 0)), fin]
          have := fo_stay ho (m + 1)
          rw [show k + (m + 1) = 35 by omega] at this
          rw [this]
          rw [ho] at h1
          exact ⟨t, rfl, h1, h2⟩
        | none =>
          rw [if_pos (show nI (flQ none).length = 0 by decide)]
          cases hf : fit q sq k with
          | true =>
            obtain ⟨w, g1, g2, g3⟩ := n_tellTwo (d := d + 5) (s := t) (x := lN (1 + k / 7)) (y := lN (k % 7))
            rw [if_pos ((jl_bit (by omega) (by omega)).mpr (by rw [bits35_tb (by omega)]; exact hf)), c_lawsA (by omega), bI_s, c_lawsB (by omega), bI_s, nI_l (by omega), nI_l (by omega), g1, bV_s, nI_1]
            refine ih (k + 1) w (by omega) ?_ (fr_t h2 g3)
            rw [fo_S, hf, ho]; exact g2
          | false =>
            rw [if_neg (fun z => by have := (jl_bit (by omega) (by omega)).mp z; rw [bits35_tb (by omega), hf] at this; cases this), nI_1]
            refine ih (k + 1) t (by omega) ?_ h2
            rw [fo_sf hf]; exact h1
    obtain ⟨v, k1, k2, k3⟩ := key 35 0 u rfl e2 e3
    refine ⟨v, ?_, k2, fr_m k3 (fun _ _ _ => pN_CQ)⟩
    rw [Main_laws_eq, c_fitting hS hq, bL_s, e1, bV_s]
    exact k1
  · obtain ⟨i1, i2⟩ := m_told0 (s := wI s 13 0 0 0)
    have hS0 := rS_fr hS fr_0 (by unfold p0; omega) (by intro k; unfold p0; omega) (by intro k; unfold p0; omega) (by intro k; unfold p0; omega)
    obtain ⟨v, c2, c3⟩ := chainE 35 (fun k (t : xS) => Ref_laws_L1 (d + 8) (nI (cnt (fit q sq) k)) (nI k) t) (fun k t => rRow t (flQ (fo (fit q sq) k)) ∧ fr pT (wI s 13 0 0 0) t) (by
      rintro k t hk ⟨h1, h2⟩
      have hS' := rS_fr hS0 h2 (by unfold pT; omega) (by intro k; unfold pT; omega) (by intro k; unfold pT; omega) (by intro k; unfold pT; omega)
      have j2 : ∀ (b : Bool) (c : Nat) (t : xS), Ref_laws_J2 (d + 8) (nI c) (nI k) (ib b) t = Ref_laws_L1 (d + 8) (nI (c + b1 b)) (nI (k + 1)) t := by
        intro b c t
        rw [Ref_laws_J2_eq, m_flag, bI_s, n_addib, nI_1]
      show ∃ b, Ref_laws_L1 (d + 8) (nI (cnt (fit q sq) k)) (nI k) t = _ ∧ _
      rw [Ref_laws_L1_eq, nl_35, if_pos (of_eq_true (lt_t hk (by omega))), m_isLaw hS' hq hk, bI_s]
      have cl' := cl k
      cases hf : fit q sq k with
      | false =>
        rw [if_pos (by decide), j2]
        refine ⟨t, ?_, ?_, h2⟩
        · rw [cnt_f hf]; rfl
        · rw [fo_sf hf]; exact h1
      | true =>
        rw [if_neg (by decide)]
        by_cases hc : cnt (fit q sq) k = 0
        · have hz : flQ (fo (fit q sq) k) = [] := by rw [(fo_cnt _ _).mp hc]; rfl
          rw [hz] at h1
          obtain ⟨w, g1, g2, g3⟩ := m_enters (d := d + 7) (x := lN (1 + k / 7)) h1 (by simp)
          obtain ⟨w2, k1, k2, k3⟩ := m_enters (d := d + 7) (x := lN (k % 7)) g2 (by simp)
          rw [if_pos (show nI (cnt (fit q sq) k) = 0 by rw [hc]; rfl), if_neg (by decide), show (1 : Int32) + nI k / 7 = nI (1 + k / 7) by rw [nl_7, n_div (by omega) (by omega) (by omega), nl_1, nI_add], nI_l (by omega), g1, bV_s, if_neg (by decide), show jrem (nI k) 7 = nI (k % 7) from n_rem (d := 7) (by omega) (by omega) (by omega), nI_l (by omega), k1, bV_s, j2]
          refine ⟨w2, by rw [cnt_t hf]; rfl, ?_, fr_t (fr_t h2 g3) k3⟩
          rw [fo_none hf hc]; exact k2
        · rw [if_neg (show ¬ nI (cnt (fit q sq) k) = 0 from of_eq_false (eq_f (b := 0) hc (by omega) (by omega))), j2]
          refine ⟨t, by rw [cnt_t hf]; rfl, ?_, h2⟩
          rw [fo_some hf hc]; exact h1) 35 0 _ (by omega) ⟨i1, i2⟩
    refine ⟨v, ?_, c3.1, fr_t (fr_m fr_0 (fun _ _ _ => p0_RQ)) (fr_m c3.2 (fun _ _ _ => pT_RQ))⟩
    rw [Ref_laws_eq]
    refine c2.trans ?_
    show Ref_laws_L1 _ _ _ _ = _
    rw [Ref_laws_L1_eq, nl_35, if_neg (of_eq_false (lt_f (by omega) (by omega)))]
end LAWS

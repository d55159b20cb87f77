/-! What can be undone, what is kept: the reference's side. -/
section MEMR
variable {d i j n p w R C u : Nat} {kd : Nat → Nat} {s : xS} {L : List Nat} {S : Sn} {U : Nat → Sn} {x y : Int32}
def rowOk (g : Nat → Int32) (n : Nat) (S : Sn) : Prop := (∀ p, p < n → g p = nI (S.1 p) ∧ g (4 + p) = nI (S.2.1 p)) ∧ (∀ p, p < 4 → g (8 + p) = nI (S.2.2.1 p) ∧ g (12 + p) = nI (b1 (S.2.2.2.1.testBit p))) ∧ g 16 = S.2.2.2.2
theorem rowOk_c {g h : Nat → Int32} (hn : n ≤ 4) (a : rowOk g n S) (e : ∀ k, k < 17 → h k = g k) : rowOk h n S :=
  ⟨fun p hp => by rw [e p (by omega), e (4 + p) (by omega)]; exact a.1 p hp, fun p hp => by rw [e (8 + p) (by omega), e (12 + p) (by omega)]; exact a.2.1 p hp, by rw [e 16 (by omega)]; exact a.2.2⟩
theorem rOS_row (h : rOS s j n S) : rowOk (s.1 43 j) n S := h.2
theorem row_rOS (h6 : s.1 13 0 6 = nI n) (h : rowOk (s.1 43 j) n S) : rOS s j n S := ⟨h6, h⟩
def rU (s : xS) (n u : Nat) (U : Nat → Sn) : Prop := s.1 13 0 26 = nI u ∧ u ≤ 15 ∧ ∀ i, i < u → rowOk (fun k => s.1 50 0 (17 * i + k)) n (U i)
theorem rU_fr {p : Nat → Nat → Nat → Prop} {s t : xS} (hn : n ≤ 4) (h : rU s n u U) (g : fr p s t) (h1 : ¬ p 13 0 26) (h2 : ∀ k, ¬ p 50 0 k) : rU t n u U :=
  ⟨by rw [(g _ _ _ h1).1]; exact h.1, h.2.1, fun i hi => rowOk_c hn (h.2.2 i hi) (fun k _ => by rw [(g _ _ _ (h2 _)).1])⟩
/-- put by: not counted yet -/
def rP (s : xS) (n u : Nat) (U : Nat → Sn) (S : Sn) : Prop := rU s n u U ∧ rowOk (fun k => s.1 50 0 (17 * u + k)) n S
theorem rP_fr {p : Nat → Nat → Nat → Prop} {s t : xS} (hn : n ≤ 4) (h : rP s n u U S) (g : fr p s t) (h1 : ¬ p 13 0 26) (h2 : ∀ k, ¬ p 50 0 k) : rP t n u U S :=
  ⟨rU_fr hn h.1 g h1 h2, rowOk_c hn h.2 (fun k _ => by rw [(g _ _ _ (h2 _)).1])⟩
theorem m_putsBy (hn : n ≤ 4) (hU : rU s n u U) (hO : rOS s 0 n S) : ∃ t, ev (d + 1) f_Ref_putsBy [vR 13 0] s = some (none, t) ∧ rP t n u U S ∧ fr (fun c _ _ => c = 50) s t := by
  have hu := hU.2.1
  rw [Ref_putsBy_eq]
  obtain ⟨t, k1, k2, k3⟩ := chainE 17 (fun k (t : xS) => Ref_putsBy_L1 d (nI k) t) (fun k t => (∀ m, m < k → t.1 50 0 (17 * u + m) = s.1 43 0 m) ∧ fr (fun c _ m => c = 50 ∧ 17 * u ≤ m) s t) (by
    rintro k t hk ⟨h1, h2⟩
    show ∃ b, Ref_putsBy_L1 d (nI k) t = Ref_putsBy_L1 d (nI (k + 1)) b ∧ _
    rw [Ref_putsBy_L1_eq, nl_17, if_pos (of_eq_true (lt_t hk (by omega))), in_t hk (by omega), if_pos rfl, (h2 13 0 26 (by omega)).1, hU.1, pk_mul, nI_add, in_t (show 17 * u + k < 272 by omega) (by omega), if_pos rfl, n_cl (by omega), n_cl (by omega), (h2 43 0 k (by omega)).1, nI_1]
    refine ⟨_, rfl, fun m hm => ?_, fr_wI h2 ⟨rfl, by omega⟩⟩
    by_cases e : m = k
    · rw [e, wI_s1]
    · rw [wI_nk (by omega)]; exact h1 m (by omega)) 17 0 s (by omega) ⟨fun m hm => by omega, fr_r _ _⟩
  refine ⟨t, ?_, ⟨⟨by rw [(k3 13 0 26 (by omega)).1]; exact hU.1, hu, fun i hi => rowOk_c hn (hU.2.2 i hi) (fun k hk => (k3 50 0 (17 * i + k) (by omega)).1)⟩, rowOk_c hn (rOS_row hO) (fun k hk => k2 k hk)⟩, fr_m k3 (fun c _ _ h => h.1)⟩
  refine Eq.trans k1 ?_
  show Ref_putsBy_L1 _ _ _ = _
  rw [Ref_putsBy_L1_eq, nl_17, if_neg (of_eq_false (lt_f (by omega) (by omega)))]
def pAd (c _i k : Nat) : Prop := c = 50 ∨ (c = 13 ∧ k = 26)
theorem m_adds (hn : n ≤ 4) (hP : rP s n u U S) : ∃ t, ev (d + 1) f_Ref_adds [vR 13 0, vI x] s = some (some (vI x), t) ∧ rU t n (addU u U S).1 (addU u U S).2 ∧ fr pAd s t := by
  obtain ⟨hU, hS⟩ := hP
  have hu := hU.2.1
  rw [Ref_adds_eq, hU.1, nI_1, nl_15]
  unfold addU
  by_cases e : u = 15
  · subst e
    rw [if_pos (of_eq_true (lt_t (by omega) (by omega))), if_pos rfl]
    have f0 : fr pAd s (wI s 13 0 26 (nI (15 + 1))) := fr_wI (fr_r _ _) (by unfold pAd; omega)
    obtain ⟨t, k1, k2, k3, k4, k5⟩ := chainE 255 (fun k (t : xS) => Ref_adds_L1 d x (nI k) t) (fun k t => (∀ m, m < k → t.1 50 0 m = s.1 50 0 (m + 17)) ∧ (∀ m, k ≤ m → t.1 50 0 m = s.1 50 0 m) ∧ t.1 13 0 26 = nI 16 ∧ fr pAd s t) (by
      rintro k t hk ⟨h1, h2, h3, h4⟩
      show ∃ b, Ref_adds_L1 d x (nI k) t = Ref_adds_L1 d x (nI (k + 1)) b ∧ _
      have e255 : (255 : Int32) = nI 255 := by decide
      rw [Ref_adds_L1_eq, e255, if_pos (of_eq_true (lt_t hk (by omega))), nl_17, nI_add, in_t (show k + 17 < 272 by omega) (by omega), if_pos rfl, in_t (show k < 272 by omega) (by omega), if_pos rfl, n_cl (by omega), n_cl (by omega), nI_1, h2 (k + 17) (by omega)]
      refine ⟨_, rfl, fun m hm => ?_, fun m hm => ?_, by rw [wI_nc (by omega)]; exact h3, fr_wI h4 (by unfold pAd; omega)⟩
      · by_cases e : m = k
        · rw [e, wI_s1]
        · rw [wI_nk e]; exact h1 m (by omega)
      · rw [wI_nk (by omega)]; exact h2 m (by omega)) 255 0 (wI s 13 0 26 (nI (15 + 1))) (by omega) ⟨fun m hm => by omega, fun m _ => by rw [wI_nc (by omega)], by rw [wI_s1], f0⟩
    have e255 : (255 : Int32) = nI 255 := by decide
    have k1' : Ref_adds_L1 d x 0 (wI s 13 0 26 (nI (15 + 1))) = Ref_adds_L1 d x (nI 255) t := k1
    rw [k1', Ref_adds_L1_eq, e255, if_neg (of_eq_false (lt_f (by omega) (by omega))), k4, show nI 16 - 1 = nI 15 from nI_pred 15]
    refine ⟨_, rfl, ⟨by rw [wI_s1], by omega, fun i hi => ?_⟩, fr_wI k5 (by unfold pAd; omega)⟩
    have hi : i < 15 := hi
    show rowOk _ n (if i = 14 then S else U (i + 1))
    by_cases ei : i = 14
    · rw [if_pos ei]
      refine rowOk_c hn hS (fun k hk => ?_)
      show (wI t 13 0 26 (nI 15)).1 50 0 (17 * i + k) = s.1 50 0 (17 * 15 + k)
      rw [wI_nc (by omega), k2 _ (by omega), show 17 * i + k + 17 = 17 * 15 + k by omega]
    · rw [if_neg ei]
      refine rowOk_c hn (hU.2.2 (i + 1) (by omega)) (fun k hk => ?_)
      show (wI t 13 0 26 (nI 15)).1 50 0 (17 * i + k) = s.1 50 0 (17 * (i + 1) + k)
      rw [wI_nc (by omega), k2 _ (by omega), show 17 * i + k + 17 = 17 * (i + 1) + k by omega]
  · rw [if_neg (of_eq_false (lt_f (by omega) (by omega))), if_neg e]
    refine ⟨_, rfl, ⟨by rw [wI_s1], by omega, fun i hi => ?_⟩, fr_wI (fr_r _ _) (by unfold pAd; omega)⟩
    have hi : i < u + 1 := hi
    show rowOk (fun k => (wI s 13 0 26 (nI (u + 1))).1 50 0 (17 * i + k)) n (up U u S i)
    by_cases ei : i = u
    · rw [ei, up_s]; exact rowOk_c hn hS (fun k _ => by rw [wI_nc (by omega)])
    · rw [up_n ei]; exact rowOk_c hn (hU.2.2 i (by omega)) (fun k _ => by rw [wI_nc (by omega)])
/-- counted where it was done -/
def undU (a : Int32) (u : Nat) (U : Nat → Sn) (S : Sn) : Nat × (Nat → Sn) := if a < 0 then (u, U) else addU u U S
theorem m_counted (hn : n ≤ 4) (hP : rP s n u U S) : ∃ t, ev (d + 2) f_Ref_counted [vR 13 0, vI x] s = some (some (vI x), t) ∧ rU t n (undU x u U S).1 (undU x u U S).2 ∧ fr pAd s t := by
  rw [Ref_counted_eq]
  unfold undU
  by_cases q : x < 0
  · rw [if_pos q, if_pos q]; exact ⟨s, rfl, hP.1, fr_r _ _⟩
  · obtain ⟨t, e1, e2, e3⟩ := m_adds (d := d) (x := x) hn hP
    rw [if_neg q, if_neg q, e1, bI_s]; exact ⟨t, rfl, e2, e3⟩
theorem c_remembered (hU : cU s n u U) (h6 : s.2 4 0 6 = lN (pck n S)) (h7 : s.1 4 0 7 = S.2.2.2.2) : ∃ t, ev (d + 10) f_Main_remembered [vR 0 0, vI x] s = some (some (vI x), t) ∧ cU t n (undU x u U S).1 (undU x u U S).2 ∧ fr pM s t := by
  rw [Main_remembered_eq]
  unfold undU
  by_cases q : x < 0
  · rw [if_pos q, if_pos q]; exact ⟨s, rfl, hU, fr_r _ _⟩
  · obtain ⟨t, e1, e2, e3⟩ := c_addMarked (d := d) hU h6 h7
    rw [if_neg q, if_neg q, e1, bV_s]; exact ⟨t, rfl, e2, e3⟩
theorem m_undo (hn : n ≤ 4) (hU : rU s n (u + 1) U) (h6 : s.1 13 0 6 = nI n) : ∃ t, ev (d + 1) f_Ref_undo [vR 13 0] s = some (some (vI (nI u)), t) ∧ rU t n u U ∧ rOS t 0 n (U u) ∧ fr (fun c i k => (c = 43 ∧ i = 0) ∨ (c = 13 ∧ (k = 0 ∨ k = 26))) s t := by
  have hu := hU.2.1
  rw [Ref_undo_eq, hU.1, nl_0, if_neg (of_eq_false (eq_f (by omega) (by omega) (by omega))), show nI (u + 1) - 1 = nI u from nI_pred u]
  have f0 : fr (fun c i k => (c = 43 ∧ i = 0) ∨ (c = 13 ∧ (k = 0 ∨ k = 26))) s (wI (wI s 13 0 0 (nI 0)) 13 0 26 (nI u)) := fr_wI (fr_wI (fr_r _ _) (by omega)) (by omega)
  obtain ⟨t, k1, k2, k3, k4⟩ := chainE 17 (fun k (t : xS) => Ref_undo_L1 d (nI k) t) (fun k t => (∀ m, m < k → t.1 43 0 m = s.1 50 0 (17 * u + m)) ∧ t.1 13 0 26 = nI u ∧ fr (fun c i k => (c = 43 ∧ i = 0) ∨ (c = 13 ∧ (k = 0 ∨ k = 26))) s t) (by
    rintro k t hk ⟨h1, h2, h3⟩
    show ∃ b, Ref_undo_L1 d (nI k) t = Ref_undo_L1 d (nI (k + 1)) b ∧ _
    rw [Ref_undo_L1_eq, nl_17, if_pos (of_eq_true (lt_t hk (by omega))), h2, pk_mul, nI_add, in_t (show 17 * u + k < 272 by omega) (by omega), if_pos rfl, in_t hk (by omega), if_pos rfl, n_cl (by omega), n_cl (by omega), (h3 50 0 _ (by omega)).1, nI_1]
    refine ⟨_, rfl, fun m hm => ?_, by rw [wI_nc (by omega)]; exact h2, fr_wI h3 (by omega)⟩
    by_cases e : m = k
    · rw [e, wI_s1]
    · rw [wI_nk e]; exact h1 m (by omega)) 17 0 _ (by omega) ⟨fun m hm => by omega, wI_s1 _ _ _ _ _, f0⟩
  have k1' : Ref_undo_L1 d 0 (wI (wI s 13 0 0 (nI 0)) 13 0 26 (nI u)) = Ref_undo_L1 d (nI 17) t := k1
  have k0 : Ref_undo_L1 d (nI 0) (wI (wI s 13 0 0 (nI 0)) 13 0 26 (nI u)) = Ref_undo_L1 d (nI 17) t := k1
  rw [k0, Ref_undo_L1_eq, nl_17, if_neg (of_eq_false (lt_f (by omega) (by omega))), k3]
  refine ⟨t, rfl, ⟨k3, by omega, fun i hi => rowOk_c hn (hU.2.2 i (by omega)) (fun k _ => (k4 50 0 _ (by omega)).1)⟩, row_rOS (by rw [(k4 13 0 6 (by omega)).1]; exact h6) (rowOk_c hn (hU.2.2 u (by omega)) (fun k hk => k2 k hk)), k4⟩
/-- kept -/
def rK (s : xS) (n ch : Nat) (K : Nat → Option Sn) : Prop := s.1 13 0 7 = nI ch ∧ ∀ i, i < 3 → match K i with
  | some S => s.1 71 0 i = 1 ∧ s.1 72 0 i = nI ch ∧ rowOk (fun k => s.1 73 0 (17 * i + k)) n S
  | none => s.1 71 0 i = 0 ∨ (s.1 71 0 i = 1 ∧ ∃ c, c < ch ∧ s.1 72 0 i = nI c)
theorem rK_fr {p : Nat → Nat → Nat → Prop} {s t : xS} {ch : Nat} {K : Nat → Option Sn} (hn : n ≤ 4) (h : rK s n ch K) (g : fr p s t) (h1 : ¬ p 13 0 7) (h2 : ∀ k, ¬ p 71 0 k) (h3 : ∀ k, ¬ p 72 0 k) (h4 : ∀ k, ¬ p 73 0 k) : rK t n ch K := by
  refine ⟨by rw [(g _ _ _ h1).1]; exact h.1, fun i hi => ?_⟩
  have z := h.2 i hi
  cases e : K i with
  | some S =>
    rw [e] at z
    show t.1 71 0 i = 1 ∧ t.1 72 0 i = nI ch ∧ rowOk (fun k => t.1 73 0 (17 * i + k)) n S
    rw [(g _ _ _ (h2 i)).1, (g _ _ _ (h3 i)).1]
    exact ⟨z.1, z.2.1, rowOk_c hn z.2.2 (fun k _ => (g _ _ _ (h4 _)).1)⟩
  | none =>
    rw [e] at z
    show t.1 71 0 i = 0 ∨ (t.1 71 0 i = 1 ∧ ∃ c, c < ch ∧ t.1 72 0 i = nI c)
    rw [(g _ _ _ (h2 i)).1, (g _ _ _ (h3 i)).1]; exact z
/-- gardens or prams came: nothing is kept any more -/
theorem rK_new {t : xS} {ch n' : Nat} {K : Nat → Option Sn} (h : rK s n ch K) (h7 : t.1 13 0 7 = nI (ch + 1)) (h71 : ∀ i, i < 3 → t.1 71 0 i = s.1 71 0 i) (h72 : ∀ i, i < 3 → t.1 72 0 i = s.1 72 0 i) : rK t n' (ch + 1) (fun _ => none) := by
  refine ⟨h7, fun i hi => ?_⟩
  have z := h.2 i hi
  show t.1 71 0 i = 0 ∨ (t.1 71 0 i = 1 ∧ ∃ c, c < ch + 1 ∧ t.1 72 0 i = nI c)
  rw [h71 i hi, h72 i hi]
  cases e : K i with
  | some S => rw [e] at z; exact Or.inr ⟨z.1, ch, by omega, z.2.1⟩
  | none =>
    rw [e] at z
    rcases z with z | ⟨z, c, hc, z2⟩
    · exact Or.inl z
    · exact Or.inr ⟨z, c, by omega, z2⟩
theorem m_keep {ch : Nat} {K : Nat → Option Sn} (hn : n ≤ 4) (hK : rK s n ch K) (hO : rOS s 0 n S) {m : Nat} (hm : m < 3) : ∃ t, ev (d + 2) f_Ref_keep [vR 13 0, vI (nI m)] s = some (some (vI (ib true)), t) ∧ rK t n ch (up K m (some S)) ∧ fr (fun c _ k => (c = 13 ∧ k = 0) ∨ c = 71 ∨ c = 72 ∨ c = 73) s t := by
  rw [Ref_keep_eq, m_in0 (n := 3) _ (by decide), in_t hm (by omega), bI_s, if_neg (by decide), if_pos rfl, if_pos rfl, n_cl (by omega), wI_nk (by omega), hK.1, nb_1]
  have f0 : fr (fun c _ k => (c = 13 ∧ k = 0) ∨ c = 71 ∨ c = 72 ∨ c = 73) s (wI (wI (wI s 13 0 0 0) 71 0 m (ib true)) 72 0 m (nI ch)) := fr_wI (fr_wI (fr_wI (fr_r _ _) (by omega)) (by omega)) (by omega)
  obtain ⟨t, k1, k2, k3, k4⟩ := chainE 17 (fun k (t : xS) => Ref_keep_L1 (d + 1) (nI m) (nI k) t) (fun k t => (∀ q, q < k → t.1 73 0 (17 * m + q) = s.1 43 0 q) ∧ (∀ q, q < 17 * m ∨ 17 * m + 17 ≤ q → t.1 73 0 q = s.1 73 0 q) ∧ fr (fun c _ _ => c = 73) (wI (wI (wI s 13 0 0 0) 71 0 m (ib true)) 72 0 m (nI ch)) t) (by
    rintro k t hk ⟨h1, h2, h3⟩
    show ∃ b, Ref_keep_L1 (d + 1) (nI m) (nI k) t = Ref_keep_L1 (d + 1) (nI m) (nI (k + 1)) b ∧ _
    rw [Ref_keep_L1_eq, nl_17, if_pos (of_eq_true (lt_t hk (by omega))), in_t hk (by omega), if_pos rfl, pk_mul, nI_add, in_t (show 17 * m + k < 51 by omega) (by omega), if_pos rfl, n_cl (by omega), n_cl (by omega), (h3 43 0 k (by omega)).1, wI_nc (by omega), wI_nc (by omega), wI_nc (by omega), nI_1]
    refine ⟨_, rfl, fun q hq => ?_, fun q hq => ?_, fr_wI h3 rfl⟩
    · by_cases e : q = k
      · rw [e, wI_s1]
      · rw [wI_nk (by omega)]; exact h1 q (by omega)
    · rw [wI_nk (by omega)]; exact h2 q hq) 17 0 _ (by omega) ⟨fun q hq => by omega, fun q _ => by rw [wI_nc (by omega), wI_nc (by omega), wI_nc (by omega)], fr_r _ _⟩
  have k0 : Ref_keep_L1 (d + 1) (nI m) 0 (wI (wI (wI s 13 0 0 0) 71 0 m (ib true)) 72 0 m (nI ch)) = Ref_keep_L1 (d + 1) (nI m) (nI 17) t := k1
  rw [k0, Ref_keep_L1_eq, nl_17, if_neg (of_eq_false (lt_f (by omega) (by omega))), nb_1]
  refine ⟨t, rfl, ⟨?_, fun i hi => ?_⟩, fr_t f0 (fr_m k4 (fun c _ _ h => by omega))⟩
  · rw [(k4 13 0 7 (by omega)).1, wI_nc (by omega), wI_nc (by omega), wI_nk (by omega)]; exact hK.1
  · by_cases e : i = m
    · subst e
      rw [up_s]
      show t.1 71 0 i = 1 ∧ t.1 72 0 i = nI ch ∧ _
      rw [(k4 71 0 i (by omega)).1, (k4 72 0 i (by omega)).1, wI_s1, wI_nc (by omega), wI_s1]
      exact ⟨rfl, rfl, rowOk_c hn (rOS_row hO) (fun k hk => k2 k hk)⟩
    · rw [up_n e]
      have z := hK.2 i hi
      have e71 : t.1 71 0 i = s.1 71 0 i := by rw [(k4 71 0 i (by omega)).1, wI_nc (by omega), wI_nk e, wI_nc (by omega)]
      have e72 : t.1 72 0 i = s.1 72 0 i := by rw [(k4 72 0 i (by omega)).1, wI_nk e, wI_nc (by omega), wI_nc (by omega)]
      cases eK : K i with
      | some S' =>
        rw [eK] at z
        show t.1 71 0 i = 1 ∧ t.1 72 0 i = nI ch ∧ rowOk (fun k => t.1 73 0 (17 * i + k)) n S'
        rw [e71, e72]
        exact ⟨z.1, z.2.1, rowOk_c hn z.2.2 (fun k hk => k3 _ (by omega))⟩
      | none =>
        rw [eK] at z
        show t.1 71 0 i = 0 ∨ (t.1 71 0 i = 1 ∧ ∃ c, c < ch ∧ t.1 72 0 i = nI c)
        rw [e71, e72]; exact z
end MEMR

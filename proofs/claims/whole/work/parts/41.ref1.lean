/-! The reference's side: gardens, prams, one bit, rules reckoned. -/
section REF1
def b1 (b : Bool) : Nat := bif b then 1 else 0
theorem b1_ib (b : Bool) : ib b = nI (b1 b) := by cases b <;> decide
theorem n_addib (a : Nat) (b : Bool) : nI a + ib b = nI (a + b1 b) := by rw [b1_ib, nI_add]
def rG (s : xS) (R C : Nat) (kd : Nat → Nat) : Prop := gOk R C kd ∧ s.1 13 0 3 = nI R ∧ s.1 13 0 4 = nI C ∧ ∀ f, f < R * C → s.1 42 0 f = nI (kd f)
theorem rG_fr {p : Nat → Nat → Nat → Prop} {s t : xS} {R C : Nat} {kd : Nat → Nat} (h : rG s R C kd) (g : fr p s t) (h3 : ¬ p 13 0 3) (h4 : ¬ p 13 0 4) (h42 : ∀ k, ¬ p 42 0 k) : rG t R C kd :=
  ⟨h.1, by rw [(g _ _ _ h3).1]; exact h.2.1, by rw [(g _ _ _ h4).1]; exact h.2.2.1, fun f hf => by rw [(g _ _ _ (h42 _)).1]; exact h.2.2.2 f hf⟩
def rO (s : xS) (j n : Nat) (F W V : Nat → Nat) (lo : Nat) (M : Int32) : Prop := s.1 13 0 6 = nI n ∧ (∀ p, p < n → s.1 43 j p = nI (F p) ∧ s.1 43 j (4 + p) = nI (W p)) ∧ (∀ p, p < 4 → s.1 43 j (8 + p) = nI (V p) ∧ s.1 43 j (12 + p) = nI (b1 (lo.testBit p))) ∧ s.1 43 j 16 = M
theorem rO_fr {p : Nat → Nat → Nat → Prop} {s t : xS} {j n : Nat} {F W V : Nat → Nat} {lo : Nat} {M : Int32} (h : rO s j n F W V lo M) (g : fr p s t) (h6 : ¬ p 13 0 6) (h43 : ∀ k, ¬ p 43 j k) : rO t j n F W V lo M :=
  ⟨by rw [(g _ _ _ h6).1]; exact h.1, fun q hq => by rw [(g _ _ _ (h43 _)).1, (g _ _ _ (h43 _)).1]; exact h.2.1 q hq, fun q hq => by rw [(g _ _ _ (h43 _)).1, (g _ _ _ (h43 _)).1]; exact h.2.2.1 q hq, by rw [(g _ _ _ (h43 _)).1]; exact h.2.2.2⟩
def rR (s : xS) (L : List Nat) : Prop := s.1 13 0 20 = nI L.length ∧ L.length ≤ 40 ∧ ∀ j, j < L.length → s.1 47 0 j = nI (L.getD j 0)
theorem rR_fr {p : Nat → Nat → Nat → Prop} {s t : xS} {L : List Nat} (h : rR s L) (g : fr p s t) (h20 : ¬ p 13 0 20) (h47 : ∀ k, ¬ p 47 0 k) : rR t L :=
  ⟨by rw [(g _ _ _ h20).1]; exact h.1, h.2.1, fun j hj => by rw [(g _ _ _ (h47 _)).1]; exact h.2.2 j hj⟩
def ruL (L : List Nat) : List Nat := match L with
  | [] => [4, 1000, 2004]
  | c :: r => c :: r
variable {d j n lo p f w v k R C : Nat} {F W V : Nat → Nat} {kd : Nat → Nat} {M : Int32} {s : xS} {L : List Nat} {x y : Int32}
theorem x_in_iff {n : Nat} : x_in x n = true ↔ 0 ≤ x.toInt ∧ x.toInt < n := by
  unfold x_in; rw [decide_eq_true_iff]; exact vp_in_iff
theorem m_in (x y z : Int64) : ev (d + 1) f_Ref_in [vL x, vL y, vL z] s = some (some (vI (ib (decide (y ≤ x) && decide (x ≤ z)))), s) := by
  rw [Ref_in_eq, nb_0, nb_1]
  by_cases h : lg_cmp x y < 0
  · rw [if_pos h]; have := (lg_cmp_lt x y).mp h
    rw [decide_eq_false (fun q => by rw [fa_le64] at q; rw [fa_lt64] at this; omega)]; rfl
  · rw [if_neg h]; have h1 : y ≤ x := by
      rw [lg_cmp_lt, fa_lt64] at h; rw [fa_le64]; omega
    by_cases h2 : (0 : Int32) < lg_cmp x z
    · rw [if_pos h2]; have := (lg_cmp_gt x z).mp h2
      rw [decide_eq_true h1, decide_eq_false (fun q => by rw [fa_le64] at q; rw [fa_lt64] at this; omega)]; rfl
    · rw [if_neg h2, decide_eq_true h1, decide_eq_true (by rw [lg_cmp_gt, fa_lt64] at h2; rw [fa_le64]; omega)]; rfl
theorem m_in0 {n : Nat} (z : Int64) (h : z.toInt = (n : Int) - 1) : ev (d + 1) f_Ref_in [vL x.toInt64, vL 0, vL z] s = some (some (vI (ib (x_in x n))), s) := by
  rw [m_in]
  have e : (decide ((0 : Int64) ≤ x.toInt64) && decide (x.toInt64 ≤ z)) = x_in x n := by
    rw [Bool.eq_iff_iff, x_in_iff, Bool.and_eq_true, decide_eq_true_iff, decide_eq_true_iff, fa_le64, fa_le64, h, Int32.toInt_toInt64, show (0 : Int64).toInt = 0 by decide]
    omega
  rw [e]
theorem n_m1L {n : Nat} (hn : n < 2147483648) : (nI n - 1).toInt64.toInt = (n : Int) - 1 := by
  rw [Int32.toInt_toInt64]
  have e : (nI n).toInt = n := nI_toInt hn
  rw [fb_subI (by rw [e, show (1 : Int32).toInt = 1 by decide]; omega) (by rw [e, show (1 : Int32).toInt = 1 by decide]; omega), e]; rfl
theorem m_has {a : Nat} (ha : a < 4611686018427387904) (hk : k < 64) : ev (d + 1) f_Ref_has [vL (lN a), vI (nI k)] s = some (some (vI (ib (a.testBit k))), s) := by
  have e1 : jlshr (lN a) (nI k) = lN (a / 2 ^ k) := by
    unfold jlshr
    rw [wb_c k hk]
    refine pf_shr ?_ ha
    rw [wb_tb, wb_sm k hk, BitVec.toNat_ofNat]; omega
  have h2 : a / 2 ^ k < 2 ^ 64 := Nat.lt_of_le_of_lt (Nat.div_le_self _ _) (by omega)
  rw [Ref_has_eq, e1, wb_a1 h2, nb_0, nb_1, tb_dm]
  rcases Nat.mod_two_eq_zero_or_one (a / 2 ^ k) with h | h <;> rw [h] <;> rfl
theorem m_hasI {a : Nat} (ha : a < 2147483648) (hk : k < 64) : ev (d + 1) f_Ref_has [vL (nI a).toInt64, vI (nI k)] s = some (some (vI (ib (a.testBit k))), s) := by
  rw [nI_l ha]; exact m_has (by omega) hk
theorem m_flag (b : Bool) : ev (d + 1) f_Ref_flag [vI (ib b)] s = some (some (vI (ib b)), s) := by
  rw [Ref_flag_eq]; cases b
  · rw [if_pos (by decide)]; rfl
  · rw [if_neg (by decide)]; rfl
theorem m_flag1 : ev (d + 1) f_Ref_flag [vI 1] s = some (some (vI (ib true)), s) := m_flag true
theorem m_flag0 : ev (d + 1) f_Ref_flag [vI 0] s = some (some (vI (ib false)), s) := m_flag false
theorem m_fields (hG : rG s R C kd) : ev (d + 1) f_Ref_fields [vR 13 0] s = some (some (vI (nI (R * C))), s) := by
  rw [Ref_fields_eq, hG.2.1, hG.2.2.1, pk_mul]
theorem m_isField (hG : rG s R C kd) : ev (d + 2) f_Ref_isField [vR 13 0, vI x] s = some (some (vI (ib (x_in x (R * C)))), s) := by
  have b := gOk_36 hG.1
  rw [Ref_isField_eq, m_fields hG, bI_s, m_in0 _ (n_m1L (by omega)), bI_s, nb_ib]
theorem m_isPram (hO : rO s j n F W V lo M) (hn : n ≤ 4) : ev (d + 2) f_Ref_isPram [vR 13 0, vI x] s = some (some (vI (ib (x_in x n))), s) := by
  rw [Ref_isPram_eq, hO.1, m_in0 _ (n_m1L (by omega)), bI_s, nb_ib]
theorem m_isOpen (hG : rG s R C kd) (hf : f < R * C) : ev (d + 3) f_Ref_isOpen [vR 13 0, vI (nI f)] s = some (some (vI (ib (!decide (kd f = 1)))), s) := by
  have b := gOk_36 hG.1
  have c := gOk_kd hG.1 hf
  rw [Ref_isOpen_eq, m_isField hG, bI_s, in_t hf (by omega), if_neg (by decide), in_t (show f < 36 by omega) (by omega), if_pos rfl, n_cl (by omega), hG.2.2.2 f hf, nb_0, nb_1, nl_1]
  by_cases h : kd f = 1
  · rw [if_pos (of_eq_true (eq_t h)), decide_eq_true h]; rfl
  · rw [if_neg (of_eq_false (eq_f h (by omega) (by omega))), decide_eq_false h]; rfl
theorem m_isOpen_n (hG : rG s R C kd) : ev (d + 3) f_Ref_isOpen [vR 13 0, vI (-1)] s = some (some (vI (ib false)), s) := by
  rw [Ref_isOpen_eq, m_isField hG, bI_s, m1_in, if_pos (by decide), nb_0]
def bes_I (R C f w : Nat) : Int32 :=
  let r := nI f / nI C + (if w = 0 then -1 else if w = 2 then 1 else 0)
  let c := jrem (nI f) (nI C) + (if w = 1 then 1 else if w = 3 then -1 else 0)
  if x_in r R && x_in c C then r * nI C + c else -1
theorem bes_Ichk : ((List.range 7).all fun R => (List.range 7).all fun C => (List.range 36).all fun f => (List.range 4).all fun w => !(decide (2 ≤ R) && decide (2 ≤ C) && decide (f < R * C)) || decide (bes_I R C f w = oI (bes R C f w))) = true := by decide +kernel
theorem bes_Ieq (hG : gOk R C kd) (hf : f < R * C) (hw : w < 4) : bes_I R C f w = oI (bes R C f w) := by
  have := gOk_36 hG
  have q := all_r (all_r (all_r (all_r bes_Ichk (show R < 7 by have := hG.2.1; omega)) (show C < 7 by have := hG.2.2.2.1; omega)) (show f < 36 by omega)) hw
  rw [decide_eq_true hG.1, decide_eq_true hG.2.2.1, decide_eq_true hf] at q
  exact of_decide_eq_true q
theorem m_beside2 (hG : rG s R C kd) {r a c : Int32} : Ref_beside_J2 (d + 1) r a c s = some (some (vI (if x_in r R && x_in (c + a) C then r * nI C + (c + a) else -1)), s) := by
  have c1 := hG.1.2.1
  have c2 := hG.1.2.2.2.1
  rw [Ref_beside_J2_eq, hG.2.1, m_in0 _ (n_m1L (by omega)), bI_s]
  cases h : x_in r R with
  | false => rw [if_pos (by decide)]; rfl
  | true =>
    rw [if_neg (by decide), hG.2.2.1, m_in0 _ (n_m1L (by omega)), bI_s]
    cases h2 : x_in (c + a) C with
    | false => rw [if_pos (by decide)]; rfl
    | true => rw [if_neg (by decide), hG.2.2.1]; rfl
theorem m_beside (hG : rG s R C kd) (hf : f < R * C) (hw : w < 4) : ev (d + 2) f_Ref_beside [vR 13 0, vI (nI f), vI (nI w)] s = some (some (vI (oI (bes R C f w))), s) := by
  have c2 := hG.1.2.2.2.1
  have c3 := hG.1.2.2.1
  have hc0 : ¬ s.1 13 0 4 = 0 := by rw [hG.2.2.1]; exact of_eq_false (eq_f (a := C) (b := 0) (by omega) (by omega) (by omega))
  rw [← bes_Ieq hG.1 hf hw, Ref_beside_eq, if_neg hc0]
  unfold bes_I
  match w, hw with
  | 0, _ => rw [if_pos (by decide), Ref_beside_J1_eq, if_neg hc0, if_neg (by decide), if_neg (by decide), m_beside2 hG, hG.2.2.1]; rfl
  | 1, _ => rw [if_neg (by decide), if_neg (by decide), Ref_beside_J1_eq, if_neg hc0, if_pos (by decide), m_beside2 hG, hG.2.2.1]; rfl
  | 2, _ => rw [if_neg (by decide), if_pos (by decide), Ref_beside_J1_eq, if_neg hc0, if_neg (by decide), if_neg (by decide), m_beside2 hG, hG.2.2.1]; rfl
  | 3, _ => rw [if_neg (by decide), if_neg (by decide), Ref_beside_J1_eq, if_neg hc0, if_neg (by decide), if_pos (by decide), m_beside2 hG, hG.2.2.1]; rfl
theorem m_openB (hG : rG s R C kd) (hf : f < R * C) (hw : w < 4) : ev (d + 3) f_Ref_isOpen [vR 13 0, vI (oI (bes R C f w))] s = some (some (vI (ib (nxt R C kd f w).isSome)), s) := by
  unfold nxt
  cases h : bes R C f w with
  | none => exact m_isOpen_n hG
  | some g =>
    have hg := bes_lt hG.1.1 hG.1.2.1 hG.1.2.2.1 hG.1.2.2.2.1 hf hw h
    rw [oI_s, m_isOpen hG hg]
    by_cases q : kd g = 1
    · simp [q]
    · simp [q]
theorem nxt_bes {g : Nat} (h : nxt R C kd f w = some g) : bes R C f w = some g := by
  unfold nxt at h
  split at h
  · cases h
  · next g' e => split at h <;> cases h; exact e
theorem m_others (hO : rO s j n F W V lo M) (hn : n ≤ 4) (hF : ∀ q, q < n → F q < 2147483648) (hf : f < 2147483648) (hp : p < 2147483648) : ev (d + 2) f_Ref_othersOn [vR 13 0, vR 43 j, vI (nI p), vI (nI f)] s = some (some (vI (nI (oth F p f n))), s) := by
  rw [Ref_othersOn_eq]
  refine (chain n (fun k => Ref_othersOn_L1 (d + 1) j (nI p) (nI f) (nI (oth F p f k)) (nI k) s) ?_).trans ?_
  · intro k hk
    show Ref_othersOn_L1 _ _ _ _ _ _ _ = _
    rw [Ref_othersOn_L1_eq, hO.1, if_pos (of_eq_true (lt_t hk (by omega))), n_cl (by omega), (hO.2.1 k hk).1, in_t (show k < 17 by omega) (by omega), if_pos rfl]
    unfold oth
    simp only [cnt]
    by_cases h : k = p
    · rw [if_pos (of_eq_true (eq_t h)), decide_eq_true h, Ref_othersOn_J2_eq, m_flag0, bI_s, n_addib, nI_1]; rfl
    · rw [if_neg (of_eq_false (eq_f h (by omega) hp)), decide_eq_false h]
      by_cases h2 : F k = f
      · rw [if_pos (of_eq_true (eq_t h2)), decide_eq_true h2, m_flag1, bI_s, n_addib, nI_1]; rfl
      · rw [if_neg (of_eq_false (eq_f h2 (hF k hk) hf)), decide_eq_false h2, Ref_othersOn_J2_eq, m_flag0, bI_s, n_addib, nI_1]; rfl
  · show Ref_othersOn_L1 _ _ _ _ _ _ _ = _
    rw [Ref_othersOn_L1_eq, hO.1, if_neg (of_eq_false (lt_f (Nat.le_refl _) (by omega)))]
theorem m_worked {a : Nat} (ha : a < 7) : ev (d + 2) f_Ref_worked [vI (nI a), vI x, vI y] s = some (some (vI (wrk a x y)), s) := by
  rw [Ref_worked_eq]
  match a, ha with
  | 0, _ => rw [if_pos (by decide)]; by_cases h : x < y <;> simp only [h, ↓reduceIte, m_flag0, m_flag1, bI_s, wrk, decide_true, decide_false]
  | 1, _ => rw [if_neg (by decide), if_pos (by decide)]; by_cases h : y < x <;> simp only [h, ↓reduceIte, m_flag0, m_flag1, bI_s, wrk, decide_true, decide_false]
  | 2, _ => rw [if_neg (by decide), if_neg (by decide), if_pos (by decide)]; by_cases h : x = y <;> simp only [h, ↓reduceIte, m_flag0, m_flag1, bI_s, wrk, decide_true, decide_false]
  | 3, _ => rw [if_neg (by decide), if_neg (by decide), if_neg (by decide), if_pos (by decide)]; rfl
  | 4, _ => rw [if_neg (by decide), if_neg (by decide), if_neg (by decide), if_neg (by decide), if_pos (by decide)]; rfl
  | 5, _ => rw [if_neg (by decide), if_neg (by decide), if_neg (by decide), if_neg (by decide), if_neg (by decide), if_pos (by decide)]; rfl
  | 6, _ => rw [if_neg (by decide), if_neg (by decide), if_neg (by decide), if_neg (by decide), if_neg (by decide), if_neg (by decide)]; by_cases h : y = 0 <;> simp only [h, ↓reduceIte, wrk]
def pQ (c _i _k : Nat) : Prop := c = 48
theorem m_rloop {th : Nat → Int32} (hw : L.length ≤ 40) (h0 : 0 < L.length) : ∀ (rest : List Nat) (k : Nat) (s0 s : xS) (st : List Int32), L.drop k = rest → k ≤ L.length → wfL rest st.length → st.length ≤ 40 → rR s L → (∀ j, j < 7 → s.1 49 0 j = th j) → stk (s.1 48 0) st → fr pQ s0 s →
    ∃ u, Ref_ruled_L1 (d + 2) (nI st.length) (nI k) s = some (some (vI ((evL th st rest).headD 0)), u) ∧ fr pQ s0 u := by
  intro rest
  induction rest with
  | nil =>
    intro k s0 s st e hkL hwf hst hc _ hs hf
    have hk : L.length ≤ k := by
      rcases Nat.lt_or_ge k L.length with q | q
      · rw [List.drop_eq_getElem_cons q] at e; cases e
      · exact q
    have hwf : st.length = 1 := hwf
    match st, hwf, hs with
    | [z], _, hs =>
      refine ⟨s, ?_, hf⟩
      rw [Ref_ruled_L1_eq, hc.1, nl_0, if_neg (of_eq_false (lt_f hk (by omega))), if_neg (of_eq_false (eq_f (by omega) (by omega) (by omega))), if_pos (by decide)]
      have : s.1 48 0 0 = z := hs.1
      show some (some (vI (s.1 48 0 0)), s) = _
      rw [this]; rfl
  | cons c r ih =>
    intro k s0 s st e hkL hwf hst hc hth hs hf
    obtain ⟨hk, hc0, e'⟩ := drop_c (z := 0) e
    obtain ⟨hok, hn, hd, hw'⟩ := hwf
    have hcode : s.1 47 0 k = nI c := by rw [hc.2.2 k hk, hc0]
    rw [Ref_ruled_L1_eq, hc.1, if_pos (of_eq_true (lt_t hk (by omega))), in_t (show k < 80 by omega) (by omega), if_pos rfl, n_cl (by omega), hcode]
    have key : ∀ (s' : xS) (st' : List Int32) (t' : Int32), t' = nI st'.length → evC th st c = st' → st'.length = dep st.length c → stk (s'.1 48 0) st' → fr pQ s s' → ∃ u, Ref_ruled_L1 (d + 2) t' (nI k + 1) s' = some (some (vI ((evL th st (c :: r)).headD 0)), u) ∧ fr pQ s0 u := by
      intro s' st' t' ht h1 h2 h4 h5
      obtain ⟨u, e1, e2⟩ := ih (k + 1) s0 s' st' e' hk (by rw [h2]; exact hw') (by rw [h2]; exact hd) (rR_fr hc h5 (by unfold pQ; omega) (by intro k; unfold pQ; omega)) (fun j hj => by rw [(h5 49 0 j (by unfold pQ; omega)).1]; exact hth j hj) h4 (fr_t hf h5)
      refine ⟨u, ?_, e2⟩
      rw [ht, nI_1, e1]
      show _ = some (some (vI ((evL th (evC th st c) r).headD 0)), u)
      rw [h1]
    have hpush : ∀ z : Int32, (let s' := wI s 48 0 st.length z; stk (s'.1 48 0) (z :: st) ∧ fr pQ s s') := by
      intro z
      exact ⟨⟨by rw [wI_s1], stk_k hs (fun j hj => by rw [wI_nk (by omega)])⟩, fr_wI (fr_r _ _) rfl⟩
    rcases hok with h | ⟨h, h'⟩ | ⟨h, h'⟩ | h
    · have e2 : dep st.length c = st.length + 1 := by unfold dep; rw [if_pos (by omega)]
      have hz : st.length < 40 := by omega
      rw [show (3000 : Int32) = nI 3000 from rfl, if_neg (of_eq_false (eq_f (a := c) (b := 3000) (by omega) (by omega) (by omega))), Ref_ruled_J2_eq, show (2000 : Int32) = nI 2000 from rfl, show (1000 : Int32) = nI 1000 from rfl, if_pos (of_eq_true (lt_t (a := c) (b := 2000) (by omega) (by omega))), if_pos (of_eq_true (lt_t (a := c) (b := 1000) (by omega) (by omega))), Ref_ruled_J5_eq, in_t (show st.length < 80 by omega) (by omega), if_pos rfl, n_cl (by omega)]
      obtain ⟨p2, p3⟩ := hpush (nI c)
      exact key _ (nI c :: st) _ (nI_1 _) (by unfold evC; rw [if_pos h]) (by rw [e2]; rfl) p2 p3
    · have e2 : dep st.length c = st.length + 1 := by unfold dep; rw [if_pos (by omega)]
      have hz : st.length < 40 := by omega
      have es : nI c - nI 1000 = nI (c - 1000) := n_sub (b := 1000) (by omega)
      rw [show (3000 : Int32) = nI 3000 from rfl, if_neg (of_eq_false (eq_f (a := c) (b := 3000) (by omega) (by omega) (by omega))), Ref_ruled_J2_eq, show (2000 : Int32) = nI 2000 from rfl, show (1000 : Int32) = nI 1000 from rfl, if_pos (of_eq_true (lt_t (a := c) (b := 2000) (by omega) (by omega))), if_neg (of_eq_false (lt_f (a := c) (b := 1000) (by omega) (by omega))), es, in_t (show c - 1000 < 7 by omega) (by omega), if_pos rfl, n_cl (by omega), hth _ (by omega), Ref_ruled_J5_eq, in_t (show st.length < 80 by omega) (by omega), if_pos rfl, n_cl (by omega)]
      obtain ⟨p2, p3⟩ := hpush (th (c - 1000))
      exact key _ (th (c - 1000) :: st) _ (nI_1 _) (by unfold evC; rw [if_neg (by omega), if_pos (by omega)]) (by rw [e2]; rfl) p2 p3
    · have e2 : dep st.length c = st.length - 1 := by unfold dep; rw [if_neg (by omega), if_neg (by omega)]
      have e3 : nee c = 2 := by unfold nee; rw [if_neg (by omega), if_neg (by omega)]
      have es : nI c - nI 2000 = nI (c - 2000) := n_sub (b := 2000) (by omega)
      rw [show (3000 : Int32) = nI 3000 from rfl, if_neg (of_eq_false (eq_f (a := c) (b := 3000) (by omega) (by omega) (by omega))), Ref_ruled_J2_eq, show (2000 : Int32) = nI 2000 from rfl, show (1000 : Int32) = nI 1000 from rfl, if_neg (of_eq_false (lt_f (a := c) (b := 2000) (by omega) (by omega))), es]
      rw [e3] at hn
      match st, hn, hs, hst, e2, key with
      | b :: a :: q, _, hs, hst, e2, key =>
        have hl : q.length + 1 < 40 := by simp only [List.length_cons] at hst; omega
        have t1 : nI (b :: a :: q).length + (-1) = nI (q.length + 1) := pk_m1 (q.length + 1)
        have t2 : nI (q.length + 1) - 1 = nI q.length := nI_pred q.length
        rw [t1, t2, Ref_ruled_J3_eq, t2, in_t (show q.length < 80 by omega) (by omega), if_pos rfl, in_t (show q.length + 1 < 80 by omega) (by omega), if_pos rfl, n_cl (by omega), n_cl (by omega), Ref_ruled_J4_eq, m_worked (by omega), bI_s, in_t (show q.length < 80 by omega) (by omega), if_pos rfl, n_cl (by omega)]
        have hb : s.1 48 0 (q.length + 1) = b := hs.1
        have ha : s.1 48 0 q.length = a := hs.2.1
        rw [ha, hb]
        refine key _ (wrk (c - 2000) a b :: q) _ rfl (by unfold evC; rw [if_neg (by omega), if_neg (by omega), if_neg (by omega)]) (by rw [e2]; rfl) ⟨by rw [wI_s1], stk_k hs.2.2 (fun j hj => ?_)⟩ (fr_wI (fr_r _ _) rfl)
        rw [wI_nk (by omega)]
    · subst h
      have e2 : dep st.length 3000 = st.length := by unfold dep; rw [if_neg (by omega), if_pos rfl]
      have e3 : nee 3000 = 1 := by decide
      rw [if_pos (by rfl)]
      rw [e3] at hn
      match st, hn, hs, hst, e2, key with
      | a :: q, _, hs, hst, e2, key =>
        have hl : q.length < 40 := by simp only [List.length_cons] at hst; omega
        have ha : s.1 48 0 q.length = a := hs.1
        have t2 : nI (a :: q).length - 1 = nI q.length := nI_pred q.length
        rw [t2, in_t (show q.length < 80 by omega) (by omega), if_pos rfl, if_pos rfl, n_cl (by omega), ha]
        refine key _ ((-a) :: q) _ rfl (by unfold evC; rw [if_neg (by omega), if_neg (by omega), if_pos rfl]) (by rw [e2]; rfl) ⟨by rw [wI_s1], stk_k hs.2 (fun j hj => ?_)⟩ (fr_wI (fr_r _ _) rfl)
        rw [wI_nk (by omega)]
theorem m_ruled {th : Nat → Int32} (hc : rR s L) (hw : wfL (ruL L) 0) (hth : ∀ j, j < 7 → s.1 49 0 j = th j) : ∃ u, ev (d + 3) f_Ref_ruled [vR 13 0] s = some (some (vI (rvl th (ruL L))), u) ∧ fr pQ s u := by
  rw [Ref_ruled_eq]
  match L, hc, hw with
  | [], hc, _ =>
    refine ⟨s, ?_, fr_r _ _⟩
    rw [Ref_ruled_L1_eq, hc.1, if_neg (by decide), if_pos (by decide), if_pos (by decide)]
    show some (some (vI (4 - s.1 49 0 0)), s) = _
    rw [hth 0 (by omega)]; rfl
  | c :: r, hc, hw => exact m_rloop hc.2.1 (by simp) (c :: r) 0 s s [] rfl (Nat.zero_le _) hw (Nat.zero_le _) hc hth trivial (fr_r _ _)
end REF1

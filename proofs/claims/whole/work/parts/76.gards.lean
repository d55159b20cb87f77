/-! gardens: the law reads a plan; both alike. -/
section GARDS
variable {d k : Nat} {R C n T u q nh : Nat} {kd : Nat → Nat} {S : Sn} {L : List Nat} {l : List Int64} {sg : Nat → Nat} {U : Nat → Sn} {K : Nat → Option Sn} {sq : Nat → Nat × Nat × Nat} {hq : Nat → Nat × Nat} {s t : xS} {p E : Nat}
def pGd (c _i k : Nat) : Prop := (c = 13 ∧ (k = 0 ∨ k = 11 ∨ k = 12 ∨ k = 13 ∨ k = 14)) ∨ c = 45
theorem m_begins (h : rT s T sg) (ht : tOk T sg) : ∃ t, ev (d + 2) f_Ref_begins [vR 13 0, vI 80] (wI s 13 0 0 0) = some (some (vI (nI T)), t) ∧ rX t sg T 0 ∧ t.1 13 0 11 = 0 ∧ fr pGd s t := by
  have h80 := ht.1
  have f1 : fr pGd s (wI (wI (wI (wI (wI s 13 0 0 0) 13 0 11 0) 13 0 12 0) 13 0 14 0) 13 0 13 (nI T)) := fr_wI (fr_wI (fr_wI (fr_wI (fr_wI (fr_r _ _) (by simp [pGd])) (by simp [pGd])) (by simp [pGd])) (by simp [pGd])) (by simp [pGd])
  refine ⟨wI (wI (wI (wI (wI s 13 0 0 0) 13 0 11 0) 13 0 12 0) 13 0 14 0) 13 0 13 (nI T), ?_, ⟨by rw [wI_nk (by omega), wI_nk (by omega), wI_s1]; rfl, wI_s1 _ _ _ _ _, fun k hk => by rw [(f1 44 0 k (by simp [pGd])).1]; exact h.2 k hk, h80, Nat.zero_le _, ht.2⟩, by rw [wI_nk (by omega), wI_nk (by omega), wI_nk (by omega), wI_s1], f1⟩
  rw [Ref_begins_eq, wI_nk (by omega), h.1, min_s, bI_s, nl_80, if_neg (of_eq_false (lt_f h80 (by omega)))]
theorem rX_st (h : rX s sg E p) (hp : p < E) : rX (wI s 13 0 12 (nI (p + 1))) sg E (p + 1) :=
  ⟨wI_s1 _ _ _ _ _, by rw [wI_nk (by omega)]; exact h.2.1, fun k hk => by rw [wI_nc (by omega)]; exact h.2.2.1 k hk, h.2.2.2.1, by omega, h.2.2.2.2.2⟩
theorem fx_kd (h : rX s sg E p) (hp : p < E) : Option.map kdP (fxS sg E p 0) = kdH sg E p := by
  unfold fxS kdH
  rw [if_pos hp, if_pos hp]
  exact of_decide_eq_true (all_r kdP_chk (h.2.2.2.2.2 p hp))
theorem fx_lt {i : Nat} (h : fxS sg E p 0 = some i) : i < 12 := by
  unfold fxS at h
  by_cases z : p < E
  · rw [if_pos z] at h; exact (fst_some h).1
  · rw [if_neg z] at h; cases h
theorem m_J3 {i f : Nat} (hi : i < 12) (hf : f < 36) : Ref_gardens_J3 d (nI R) (nI C) (nI f) (nI i) 1 s = Ref_gardens_L2 d (nI R) (nI C) 1 (nI (f + 1)) (wI s 45 0 f (nI (kdP i))) := by
  rw [Ref_gardens_J3_eq, in_t hf (by omega), n_cl (by omega), nI_1]
  unfold kdP
  by_cases a : i < 2
  · rw [if_pos (show nI i < 2 from of_eq_true (lt_t (b := 2) a (by omega))), if_pos rfl, if_pos a]
  · rw [if_neg (show ¬ nI i < 2 from of_eq_false (lt_f (b := 2) (by omega) (by omega))), if_neg a]
    by_cases b : i < 8
    · rw [if_pos (show nI i < 8 from of_eq_true (lt_t (b := 8) b (by omega))), if_pos rfl, if_pos b, nl_10, nI_add, nl_2, n_sub (by omega), show 10 + i - 2 = 8 + i by omega]
    · rw [if_neg (show ¬ nI i < 8 from of_eq_false (lt_f (b := 8) (by omega) (by omega))), if_pos rfl, if_neg b, nl_20, nI_add, nl_2, n_sub (by omega), nl_6, n_sub (by omega), show 20 + i - 2 - 6 = 12 + i by omega]
theorem m_pass1 (h : rX s sg T 2) (hN : R * C ≤ 36) (k : Nat) (hk : k ≤ R * C) (hg : ∀ f, f < k → (kdH sg T (2 + f)).isNone = false) : ∃ t, Ref_gardens_L2 (d + 9) (nI R) (nI C) 1 0 s = Ref_gardens_L2 (d + 9) (nI R) (nI C) 1 (nI k) t ∧ rX t sg T (2 + k) ∧ (∀ f, f < k → t.1 45 0 f = nI (kdT sg f)) ∧ fr (fun c _ k => (c = 13 ∧ k = 12) ∨ c = 45) s t := by
  obtain ⟨t, k1, k2, k3, k4⟩ := chainE k (fun j (t : xS) => Ref_gardens_L2 (d + 9) (nI R) (nI C) 1 (nI j) t) (fun j t => rX t sg T (2 + j) ∧ (∀ f, f < j → t.1 45 0 f = nI (kdT sg f)) ∧ fr (fun c _ k => (c = 13 ∧ k = 12) ∨ c = 45) s t) (by
    rintro j t hj ⟨h1, h2, h3⟩
    obtain ⟨a1, a2, a3⟩ := kdH_s (hg j hj)
    have hm := fx_kd h1 a1
    rw [a2] at hm
    cases hx : fxS sg T (2 + j) 0 with
    | none => rw [hx] at hm; cases hm
    | some i =>
      have hi := fx_lt hx
      rw [hx] at hm
      have hv : kdP i = kdT sg j := by
        have hz : some (kdP i) = some ((kdS (sg (2 + j))).getD 0) := hm
        exact Option.some.inj hz
      have ht := m_takesOf (d := d) (j := 0) (by omega) h1
      rw [hx, oI_s, if_neg (by intro z; cases z)] at ht
      refine ⟨wI (wI t 13 0 12 (nI (2 + j + 1))) 45 0 j (nI (kdP i)), ?_, ?_, fun f hf => ?_, fr_wI (fr_wI h3 (by omega)) (by omega)⟩
      · show Ref_gardens_L2 (d + 9) (nI R) (nI C) 1 (nI j) t = _
        rw [Ref_gardens_L2_eq, if_neg (by decide), pk_mul, if_pos (of_eq_true (lt_t (by omega) (by omega))), ht, bI_s, if_neg (nI_pos (by omega)), m_J3 hi (by omega)]
      · exact rX_fr (r := fun c _ _ => c = 45) (rX_st h1 a1) (fr_wI (fr_r _ _) rfl) (by omega) (by omega) (by omega)
      · by_cases z : f = j
        · rw [z, wI_s1, hv]
        · rw [wI_nk z, wI_nc (by omega)]; exact h2 f (by omega)) k 0 s (by omega) ⟨h, fun f hf => absurd hf (Nat.not_lt_zero f), fr_r _ _⟩
  exact ⟨t, k1, k2, k3, k4⟩
theorem m_bad (h : rX s sg T 2) (hN : R * C ≤ 36) {f : Nat} (hb : gbad sg T (R * C) = some f) : ∃ t, Ref_gardens_L2 (d + 9) (nI R) (nI C) 1 0 s = some (some (vI ((-1) - nI (2 + f))), t) ∧ fr (fun c _ k => (c = 13 ∧ k = 12) ∨ c = 45) s t := by
  obtain ⟨b1, b2, b3⟩ := fst_some hb
  obtain ⟨t, k1, k2, k3, k4⟩ := m_pass1 (d := d) h hN f (by omega) b3
  have hn : fxS sg T (2 + f) 0 = none := by
    by_cases z : 2 + f < T
    · have hm := fx_kd k2 z
      cases e : fxS sg T (2 + f) 0 with
      | none => rfl
      | some i =>
        rw [e] at hm
        have b2 : (kdH sg T (2 + f)).isNone = true := b2
        rw [← hm] at b2; cases b2
    · exact if_neg z
  have ht := m_takesOf (d := d) (j := 0) (by omega) k2
  rw [hn, oI_n, if_pos rfl] at ht
  refine ⟨wI t 45 0 f (-1), ?_, fr_wI k4 (by omega)⟩
  rw [k1, Ref_gardens_L2_eq, if_neg (by decide), pk_mul, if_pos (of_eq_true (lt_t (by omega) (by omega))), ht, bI_s, if_pos (by decide), Ref_gardens_J3_eq, if_pos (by decide), in_t (show f < 36 by omega) (by omega), if_pos rfl, n_cl (by omega), Ref_gardens_L2_eq, if_pos rfl, Ref_gardens_J4_eq, if_pos rfl, wI_nc (by omega), k2.1]
def S0 : Sn := (fun _ => 0, fun _ => 0, fun _ => 0, 0, 0)
theorem m_new (h : rX s sg T (2 + R * C)) (hok : gOk R C (kdT sg)) (hT : 2 + R * C = T) (h45 : ∀ f, f < R * C → s.1 45 0 f = nI (kdT sg f)) : ∃ t, Ref_gardens_J4 d (nI R) (nI C) 1 s = some (some (vI (nI (R * C))), t) ∧ rG t R C (kdT sg) ∧ rOS t 0 0 S0 ∧ t.1 13 0 26 = 0 ∧ t.1 13 0 7 = s.1 13 0 7 + 1 ∧ fr (fun c i k => (c = 13 ∧ (k = 3 ∨ k = 4 ∨ k = 6 ∨ k = 7 ∨ k = 26)) ∨ c = 42 ∨ (c = 43 ∧ i = 0)) s t := by
  have h36 := gOk_36 hok
  have hb1 := hok.2.1
  have hb2 := hok.2.2.2.1
  obtain ⟨a, k1, k2, k3⟩ := chainE (R * C) (fun j (t : xS) => Ref_gardens_L5 d (nI R) (nI C) (nI j) t) (fun j t => (∀ f, f < j → t.1 42 0 f = nI (kdT sg f)) ∧ fr (fun c _ _ => c = 42) (wI (wI s 13 0 3 (nI R)) 13 0 4 (nI C)) t) (by
    rintro j t hj ⟨h1, h2⟩
    refine ⟨wI t 42 0 j (nI (kdT sg j)), ?_, fun f hf => ?_, fr_wI h2 rfl⟩
    · show Ref_gardens_L5 d (nI R) (nI C) (nI j) t = _
      rw [Ref_gardens_L5_eq, pk_mul, if_pos (of_eq_true (lt_t hj (by omega))), in_t (show j < 36 by omega) (by omega), if_pos rfl, if_pos rfl, n_cl (by omega), (h2 45 0 j (by omega)).1, wI_nc (by omega), wI_nc (by omega), h45 j hj, nI_1]
    · by_cases z : f = j
      · rw [z, wI_s1]
      · rw [wI_nk z]; exact h1 f (by omega)) (R * C) 0 (wI (wI s 13 0 3 (nI R)) 13 0 4 (nI C)) (by omega) ⟨fun f hf => absurd hf (Nat.not_lt_zero f), fr_r _ _⟩
  obtain ⟨b, q1, q2, q3⟩ := chainE 17 (fun j (t : xS) => Ref_gardens_L6 d (nI R) (nI C) (nI j) t) (fun j t => (∀ f, f < j → t.1 43 0 f = 0) ∧ fr (fun c i _ => c = 43 ∧ i = 0) (wI a 13 0 6 0) t) (by
    rintro j t hj ⟨h1, h2⟩
    refine ⟨wI t 43 0 j 0, ?_, fun f hf => ?_, fr_wI h2 ⟨rfl, rfl⟩⟩
    · show Ref_gardens_L6 d (nI R) (nI C) (nI j) t = _
      rw [Ref_gardens_L6_eq, nl_17, if_pos (of_eq_true (lt_t hj (by omega))), in_t hj (by omega), if_pos rfl, n_cl (by omega), nI_1]
    · by_cases z : f = j
      · rw [z, wI_s1]
      · rw [wI_nk z]; exact h1 f (by omega)) 17 0 (wI a 13 0 6 0) (by omega) ⟨fun f hf => absurd hf (Nat.not_lt_zero f), fr_r _ _⟩
  have k1' : Ref_gardens_L5 d (nI R) (nI C) 0 (wI (wI s 13 0 3 (nI R)) 13 0 4 (nI C)) = Ref_gardens_L5 d (nI R) (nI C) (nI (R * C)) a := k1
  have q1' : Ref_gardens_L6 d (nI R) (nI C) 0 (wI a 13 0 6 0) = Ref_gardens_L6 d (nI R) (nI C) (nI 17) b := q1
  have g3 : ∀ k, k ≠ 3 → k ≠ 4 → k ≠ 6 → b.1 13 0 k = s.1 13 0 k := fun k z3 z4 z6 => by
    rw [(q3 13 0 k (by omega)).1, wI_nk z6, (k3 13 0 k (by omega)).1, wI_nk z4, wI_nk z3]
  refine ⟨wI (wI b 13 0 26 0) 13 0 7 (s.1 13 0 7 + 1), ?_, ⟨hok, ?_, ?_, fun f hf => ?_⟩, ⟨?_, fun p hp => absurd hp (Nat.not_lt_zero p), fun p hp => ?_, ?_⟩, ?_, wI_s1 _ _ _ _ _, ?_⟩
  · rw [Ref_gardens_J4_eq, if_neg (by decide), h.1, h.2.1, if_neg (of_eq_false (lt_f (by omega) (by have := h.2.2.2.1; omega))), k1', Ref_gardens_L5_eq, pk_mul, if_neg (of_eq_false (lt_f (Nat.le_refl _) (by omega))), q1', Ref_gardens_L6_eq, if_neg (by decide), pk_mul, g3 7 (by omega) (by omega) (by omega)]
  · rw [wI_nk (by omega), wI_nk (by omega), (q3 13 0 3 (by omega)).1, wI_nk (by omega), (k3 13 0 3 (by omega)).1, wI_nk (by omega), wI_s1]
  · rw [wI_nk (by omega), wI_nk (by omega), (q3 13 0 4 (by omega)).1, wI_nk (by omega), (k3 13 0 4 (by omega)).1, wI_s1]
  · rw [wI_nc (by omega), wI_nc (by omega), (q3 42 0 f (by omega)).1, wI_nc (by omega)]; exact k2 f hf
  · rw [wI_nk (by omega), wI_nk (by omega), (q3 13 0 6 (by omega)).1, wI_s1]; rfl
  · rw [wI_nc (by omega), wI_nc (by omega), wI_nc (by omega), wI_nc (by omega), q2 _ (by omega), q2 _ (by omega)]
    refine ⟨rfl, ?_⟩
    show (0 : Int32) = nI (b1 ((0 : Nat).testBit p))
    rw [Nat.zero_testBit]; rfl
  · rw [wI_nc (by omega), wI_nc (by omega), q2 _ (by omega)]; rfl
  · rw [wI_nk (by omega), wI_s1]
  · exact fr_wI (fr_wI (fr_t (fr_t (fr_t (fr_wI (fr_wI (fr_r _ _) (by omega)) (by omega)) (fr_m k3 (by omega))) (fr_wI (fr_r _ _) (by omega))) (fr_m q3 (by omega))) (by omega)) (by omega)
theorem RI_fail (hn : n ≤ 4) (h : RI s ((R, C, kd), (n, S), (L, l), (T, sg), (u, U), K, (q, sq), nh, hq) k) (f : fr pGd s t) (h11 : t.1 13 0 11 = 0) : RI t ((R, C, kd), (n, S), (L, l), (0, sg), (u, U), K, (q, sq), nh, hq) (k + 1) ∧ fr pRef s t := by
  obtain ⟨a1, a2, a3, a4, a5, a6, a7, ⟨ch, c1, c2⟩, a8, a9⟩ := h
  unfold pGd at f
  exact ⟨⟨rG_fr a1 f (by omega) (by omega) (by omega), rO_fr a2 f (by omega) (by omega), rR_fr a3 f (by omega) (by omega), rRow_fr a4 f (by omega) (by omega), by rw [(f 13 0 38 (by omega)).1]; exact a5, ⟨h11, fun k hk => absurd hk (Nat.not_lt_zero k)⟩, rU_fr hn a7 f (by omega) (by omega), ⟨ch, by omega, rK_fr hn c2 f (by omega) (by omega) (by omega) (by omega)⟩, rS_fr a8 f (by omega) (by omega) (by omega) (by omega), rH_fr a9 f (by omega) (by omega) (by omega)⟩, fr_m f (fun c i k h => by unfold pRef; omega)⟩
theorem CI_fail (h : CI s ((R, C, kd), (n, S), (L, l), (T, sg), (u, U), K, (q, sq), nh, hq)) (f : fr (fun c _ k => c = 1 ∧ 2 ≤ k) s t) : CI (wI t 1 0 1 0) ((R, C, kd), (n, S), (L, l), (0, sg), (u, U), K, (q, sq), nh, hq) ∧ fr pCls s (wI t 1 0 1 0) :=
  CI_text h (fr_wI (fr_m f (by omega)) (by omega)) ⟨wI_s1 _ _ _ _ _, fun k hk => absurd hk (Nat.not_lt_zero k)⟩
theorem s_gardens (ha : AOk ((R, C, kd), (n, S), (L, l), (T, sg), (u, U), K, (q, sq), nh, hq)) : GsS d f_Main_gardens f_Ref_gardens [] ((R, C, kd), (n, S), (L, l), (T, sg), (u, U), K, (q, sq), nh, hq) k := by
  have hn : n ≤ 4 := ha.2.1.1
  have ht : tOk T sg := ha.2.2.2.1
  have haF : AOk ((R, C, kd), (n, S), (L, l), (0, sg), (u, U), K, (q, sq), nh, hq) := ⟨ha.1, ha.2.1, ha.2.2.1, ⟨Nat.zero_le _, fun k hk => absurd hk (Nat.not_lt_zero k)⟩, ha.2.2.2.2⟩
  have fp : ∀ {a b : xS}, fr (fun c _ k => (c = 13 ∧ k = 12) ∨ c = 45) a b → fr pGd a b := fun f => fr_m f (fun c i k h => by unfold pGd; omega)
  have fin : ∀ {s t : xS} {x : Int32} {p : Nat}, CI s ((R, C, kd), (n, S), (L, l), (T, sg), (u, U), K, (q, sq), nh, hq) → ev (d + 99) f_Garden_reads [vR 2 0, vR 1 0] s = some (some (vI (ib false)), t) → t.1 1 0 3 = nI p → fr (fun c _ k => c = 1 ∧ 2 ≤ k) s t → ∃ t, ev (d + 100) f_Main_gardens [vR 0 0] s = some (some (vI ((-1) - nI p)), t) ∧ CI t ((R, C, kd), (n, S), (L, l), (0, sg), (u, U), K, (q, sq), nh, hq) ∧ fr pCls s t := fun {s t x p} hs h1 h2 f => by
    refine ⟨wI t 1 0 1 0, ?_, CI_fail hs f⟩
    rw [Main_gardens_eq, h1, bI_s, Text_close_eq, h2, bI_s, if_pos (by decide)]
  cases hR : dgt sg T 0 2 6 with
  | none =>
    refine ⟨(-1) - nI 0, _, haF, fun s hs => ?_, fun s hs => ?_⟩
    · obtain ⟨a, o1, o2, o3⟩ := c_openX (d := d + 96) hs.2.2.2.2.1 ht
      have t1 := c_takeX (d := d + 95) (lo := 2) (hi := 6) (by omega) (by omega) o2
      rw [hR, oI_n, if_pos rfl] at t1
      have t1' : ev (d + 98) f_Text_takeDigit [vR 1 0, vI 2, vI 6] a = some (some (vI (-1)), a) := t1
      refine fin (x := 0) hs ?_ o2.2.2.1 o3
      rw [Garden_reads_eq, o1, bV_s, t1', bI_s, if_pos rfl, nb_0]
    · obtain ⟨a, o1, o2, o3, o4⟩ := m_begins (d := d + 97) hs.2.2.2.2.2.1 ht
      have t1 := m_digitX (d := d + 96) (lo := 2) (hi := 6) (by omega) (by omega) o2
      rw [hR, oI_n, if_pos rfl] at t1
      have t1' : ev (d + 99) f_Ref_digitIn [vR 13 0, vI 2, vI 6] a = some (some (vI (-1)), a) := t1
      refine ⟨a, ?_, RI_fail hn hs o4 o3⟩
      rw [Ref_gardens_eq, o1, bI_s, t1', bI_s, if_pos (by decide), Ref_gardens_J1_eq, if_neg (by decide), Ref_gardens_L2_eq, if_pos rfl, Ref_gardens_J4_eq, if_pos rfl, o2.1]
  | some R' =>
    have hR' := dgt_v hR
    cases hC : dgt sg T 1 2 6 with
    | none =>
      refine ⟨(-1) - nI 1, _, haF, fun s hs => ?_, fun s hs => ?_⟩
      · obtain ⟨a, o1, o2, o3⟩ := c_openX (d := d + 96) hs.2.2.2.2.1 ht
        have t1 := c_takeX (d := d + 95) (lo := 2) (hi := 6) (by omega) (by omega) o2
        rw [hR, oI_s, if_neg (by intro z; cases z)] at t1
        have t1' : ev (d + 98) f_Text_takeDigit [vR 1 0, vI 2, vI 6] a = some (some (vI (nI R')), wI a 1 0 3 (nI (0 + 1))) := t1
        have o5 := (c_stepX (d := 0) o2 hR'.1).2
        have t2 := c_takeX (d := d + 95) (lo := 2) (hi := 6) (by omega) (by omega) o5
        rw [hC, oI_n, if_pos rfl] at t2
        have t2' : ev (d + 98) f_Text_takeDigit [vR 1 0, vI 2, vI 6] (wI a 1 0 3 (nI (0 + 1))) = some (some (vI (-1)), wI a 1 0 3 (nI (0 + 1))) := t2
        refine fin (x := 0) hs ?_ o5.2.2.1 (fr_wI o3 (by omega))
        rw [Garden_reads_eq, o1, bV_s, t1', bI_s, if_neg (m1_nn (by omega)), t2', bI_s, if_pos rfl, nb_0]
      · obtain ⟨a, o1, o2, o3, o4⟩ := m_begins (d := d + 97) hs.2.2.2.2.2.1 ht
        have t1 := m_digitX (d := d + 96) (lo := 2) (hi := 6) (by omega) (by omega) o2
        rw [hR, oI_s, if_neg (by intro z; cases z)] at t1
        have t1' : ev (d + 99) f_Ref_digitIn [vR 13 0, vI 2, vI 6] a = some (some (vI (nI R')), wI a 13 0 12 (nI (0 + 1))) := t1
        have o5 := rX_st o2 hR'.1
        have t2 := m_digitX (d := d + 96) (lo := 2) (hi := 6) (by omega) (by omega) o5
        rw [hC, oI_n, if_pos rfl] at t2
        have t2' : ev (d + 99) f_Ref_digitIn [vR 13 0, vI 2, vI 6] (wI a 13 0 12 (nI (0 + 1))) = some (some (vI (-1)), wI a 13 0 12 (nI (0 + 1))) := t2
        refine ⟨wI a 13 0 12 (nI (0 + 1)), ?_, RI_fail hn hs (fr_wI o4 (by simp [pGd])) (by rw [wI_nk (by omega)]; exact o3)⟩
        rw [Ref_gardens_eq, o1, bI_s, t1', bI_s, if_neg (nI_pos (by omega)), t2', bI_s, Ref_gardens_J1_eq, if_neg (by decide), Ref_gardens_L2_eq, if_pos rfl, Ref_gardens_J4_eq, if_pos rfl, o5.1]
    | some C' =>
      have hC' := dgt_v hC
      have h36 : R' * C' ≤ 36 := rc36 hR'.2.2 hC'.2.2
      have cl : ∀ s, CI s ((R, C, kd), (n, S), (L, l), (T, sg), (u, U), K, (q, sq), nh, hq) → ∃ a, ev (d + 99) f_Garden_reads [vR 2 0, vR 1 0] s = Garden_reads_L1 (d + 98) (nI R') (nI C') 0 a ∧ cX a T sg T 2 ∧ fr (fun c _ k => c = 1 ∧ 2 ≤ k) s a := fun s hs => by
        obtain ⟨a, o1, o2, o3⟩ := c_openX (d := d + 96) hs.2.2.2.2.1 ht
        have t1 := c_takeX (d := d + 95) (lo := 2) (hi := 6) (by omega) (by omega) o2
        rw [hR, oI_s, if_neg (by intro z; cases z)] at t1
        have t1' : ev (d + 98) f_Text_takeDigit [vR 1 0, vI 2, vI 6] a = some (some (vI (nI R')), wI a 1 0 3 (nI (0 + 1))) := t1
        have o5 := (c_stepX (d := 0) o2 hR'.1).2
        have t2 := c_takeX (d := d + 95) (lo := 2) (hi := 6) (by omega) (by omega) o5
        rw [hC, oI_s, if_neg (by intro z; cases z)] at t2
        have t2' : ev (d + 98) f_Text_takeDigit [vR 1 0, vI 2, vI 6] (wI a 1 0 3 (nI (0 + 1))) = some (some (vI (nI C')), wI (wI a 1 0 3 (nI (0 + 1))) 1 0 3 (nI (1 + 1))) := t2
        refine ⟨wI (wI a 1 0 3 (nI (0 + 1))) 1 0 3 (nI (1 + 1)), ?_, (c_stepX (d := 0) o5 hC'.1).2, fr_wI (fr_wI o3 (by omega)) (by omega)⟩
        rw [Garden_reads_eq, o1, bV_s, t1', bI_s, if_neg (m1_nn (by omega)), t2', bI_s, if_neg (m1_nn (by omega))]
      have rf : ∀ s, RI s ((R, C, kd), (n, S), (L, l), (T, sg), (u, U), K, (q, sq), nh, hq) k → ∃ a, ev (d + 100) f_Ref_gardens [vR 13 0] s = Ref_gardens_L2 (d + 99) (nI R') (nI C') 1 0 a ∧ rX a sg T 2 ∧ a.1 13 0 11 = 0 ∧ fr pGd s a := fun s hs => by
        obtain ⟨a, o1, o2, o3, o4⟩ := m_begins (d := d + 97) hs.2.2.2.2.2.1 ht
        have t1 := m_digitX (d := d + 96) (lo := 2) (hi := 6) (by omega) (by omega) o2
        rw [hR, oI_s, if_neg (by intro z; cases z)] at t1
        have t1' : ev (d + 99) f_Ref_digitIn [vR 13 0, vI 2, vI 6] a = some (some (vI (nI R')), wI a 13 0 12 (nI (0 + 1))) := t1
        have o5 := rX_st o2 hR'.1
        have t2 := m_digitX (d := d + 96) (lo := 2) (hi := 6) (by omega) (by omega) o5
        rw [hC, oI_s, if_neg (by intro z; cases z)] at t2
        have t2' : ev (d + 99) f_Ref_digitIn [vR 13 0, vI 2, vI 6] (wI a 13 0 12 (nI (0 + 1))) = some (some (vI (nI C')), wI (wI a 13 0 12 (nI (0 + 1))) 13 0 12 (nI (1 + 1))) := t2
        refine ⟨wI (wI a 13 0 12 (nI (0 + 1))) 13 0 12 (nI (1 + 1)), ?_, rX_st o5 hC'.1, by rw [wI_nk (by omega), wI_nk (by omega)]; exact o3, fr_wI (fr_wI o4 (by simp [pGd])) (by simp [pGd])⟩
        rw [Ref_gardens_eq, o1, bI_s, t1', bI_s, if_neg (nI_pos (by omega)), t2', bI_s, Ref_gardens_J1_eq, if_pos (show (0 : Int32) < nI C' from of_eq_true (lt_t (a := 0) (by omega) (by omega)))]
      cases hb : gbad sg T (R' * C') with
      | some f =>
        refine ⟨(-1) - nI (2 + f), _, haF, fun s hs => ?_, fun s hs => ?_⟩
        · obtain ⟨a, e1, e2, e3⟩ := cl s hs
          obtain ⟨b, g1, g2, g3⟩ := c_bad (d := d + 97) e2 h36 hb
          refine fin (x := 0) hs ?_ g2.2.2.1 (fr_t e3 (fr_m g3 (by omega)))
          rw [e1, g1]
        · obtain ⟨a, e1, e2, e3, e4⟩ := rf s hs
          obtain ⟨b, g1, g2⟩ := m_bad (d := d + 90) e2 h36 hb
          refine ⟨b, ?_, RI_fail hn hs (fr_t e4 (fp g2)) (by rw [(g2 13 0 11 (by omega)).1]; exact e3)⟩
          rw [e1, g1]
      | none =>
        have hall := fst_none hb
        by_cases hT : 2 + R' * C' = T
        · have hok := gOk_T hR'.2.1 hR'.2.2 hC'.2.1 hC'.2.2 hb
          refine ⟨nI (R' * C'), ((R', C', kdT sg), (0, S0), (L, l), (0, sg), (0, U), (fun _ => none), (q, sq), nh, hq), ⟨hok, ⟨Nat.zero_le _, Nat.zero_lt_succ 0, fun p hp => absurd hp (Nat.not_lt_zero p), fun _ _ _ => rfl⟩, ha.2.2.1, ⟨Nat.zero_le _, fun k hk => absurd hk (Nat.not_lt_zero k)⟩, fun i hi => absurd hi (Nat.not_lt_zero i), fun i S' _ hS => (by cases hS), ha.2.2.2.2.2.2⟩, fun s hs => ?_, fun s hs => ?_⟩
          · obtain ⟨a, e1, e2, e3⟩ := cl s hs
            obtain ⟨b, g1, g2, g3⟩ := c_pass1 (d := d + 97) e2 h36 (R' * C') (Nat.le_refl _) hall
            obtain ⟨w, w1, w2, w3⟩ := c_fill (d := d + 91) g2.1 ht hR'.2.1 hR'.2.2 hC'.2.1 hC'.2.2 hb hT
            have hr : ev (d + 99) f_Garden_reads [vR 2 0, vR 1 0] s = some (some (vI (ib true)), w) := by
              rw [e1, g1, Garden_reads_L1_eq, pk_mul, if_neg (of_eq_false (lt_f (Nat.le_refl _) (by omega))), Text_isRead_eq, g2.2.2.1, g2.1.1, if_pos (by rw [hT]), bI_s, nb_1, if_neg (by decide), w1, bV_s]
            have fw : fr (fun c _ k => (c = 1 ∧ 2 ≤ k) ∨ c = 2 ∨ c = 15 ∨ c = 16) s w := fr_t (fr_m e3 (by omega)) (fr_t (fr_m g3 (by omega)) w3)
            have fz : fr (fun c i k => (c = 1 ∧ k = 1) ∨ (c = 3 ∧ i = 0) ∨ (c = 4 ∧ (k = 4 ∨ k = 5))) w (wI (wI (wI (wI (wI (wI w 1 0 1 0) 3 0 3 0) 3 0 4 0) 3 0 5 0) 4 0 4 0) 4 0 5 0) := fr_wI (fr_wI (fr_wI (fr_wI (fr_wI (fr_wI (fr_r _ _) (by omega)) (by omega)) (by omega)) (by omega)) (by omega)) (by omega)
            have ff : fr (fun c i k => c = 1 ∨ c = 2 ∨ c = 15 ∨ c = 16 ∨ (c = 3 ∧ i = 0) ∨ (c = 4 ∧ (k = 4 ∨ k = 5))) s (wI (wI (wI (wI (wI (wI w 1 0 1 0) 3 0 3 0) 3 0 4 0) 3 0 5 0) 4 0 4 0) 4 0 5 0) := fr_t (fr_m fw (by omega)) (fr_m fz (by omega))
            obtain ⟨a1, a2, a3, a4, a5, a6, a7, a8, a9⟩ := hs
            refine ⟨wI (wI (wI (wI (wI (wI w 1 0 1 0) 3 0 3 0) 3 0 4 0) 3 0 5 0) 4 0 4 0) 4 0 5 0, ?_, ⟨cG_fr w2 fz (by omega) (by omega) (by omega), ⟨?_, ?_, ?_, fun p hp => absurd hp (Nat.not_lt_zero p)⟩, cR_fr a3 ff (by omega) (by omega), cRow_fr a4 ff (by omega) (by omega), ⟨?_, fun k hk => absurd hk (Nat.not_lt_zero k)⟩, ⟨?_, Nat.zero_le _, fun i hi => absurd hi (Nat.not_lt_zero i)⟩, ⟨0, wI_s1 _ _ _ _ _, by decide, fun i hi => ⟨by rw [Nat.zero_testBit]; rfl, fun S' hS => (by cases hS)⟩⟩, cS_fr a8 ff (by omega) (by omega), cH_fr a9 ff (by omega) (by omega)⟩, fr_m ff (fun c i k h => by unfold pCls; omega)⟩
            · have hw4 : (wI (wI (wI (wI (wI (wI w 1 0 1 0) 3 0 3 0) 3 0 4 0) 3 0 5 0) 4 0 4 0) 4 0 5 0).1 2 0 4 = nI (R' * C') := by rw [(fz 2 0 4 (by omega)).1]; exact w2.2.2.2.1
              rw [Main_gardens_eq, hr, bI_s, Text_close_eq, bI_s, if_neg (by decide), Outing_clear_eq, bV_s, Memory_clear_eq, bV_s, hw4]
            · rw [wI_nc (by omega), wI_nc (by omega), wI_nk (by omega), wI_nk (by omega), wI_s1]; rfl
            · rw [wI_nc (by omega), wI_nc (by omega), wI_nk (by omega), wI_s1]; rfl
            · rw [wI_nc (by omega), wI_nc (by omega), wI_s1]; rfl
            · rw [wI_nc (by omega), wI_nc (by omega), wI_nc (by omega), wI_nc (by omega), wI_nc (by omega), wI_s1]; rfl
            · rw [wI_nk (by omega), wI_s1]; rfl
          · obtain ⟨a, e1, e2, e3, e4⟩ := rf s hs
            obtain ⟨b, g1, g2, g3, g4⟩ := m_pass1 (d := d + 90) e2 h36 (R' * C') (Nat.le_refl _) hall
            obtain ⟨w, w1, w2, w3, w4, w5, w6⟩ := m_new (d := d + 99) g2 hok hT g3
            have fb : fr pGd s b := fr_t e4 (fp g4)
            have ff : fr (fun c i k => (c = 13 ∧ (k = 0 ∨ k = 11 ∨ k = 12 ∨ k = 13 ∨ k = 14 ∨ k = 3 ∨ k = 4 ∨ k = 6 ∨ k = 7 ∨ k = 26)) ∨ c = 45 ∨ c = 42 ∨ (c = 43 ∧ i = 0)) s w := fr_t (fr_m fb (fun c i k h => by unfold pGd at h; omega)) (fr_m w6 (by omega))
            obtain ⟨a1, a2, a3, a4, a5, a6, a7, ⟨ch, c1, c2⟩, a8, a9⟩ := hs
            have h7 : w.1 13 0 7 = nI (ch + 1) := by rw [w5, (fb 13 0 7 (by simp [pGd])).1, c2.1, nI_1]
            refine ⟨w, ?_, ⟨w2, w3, rR_fr a3 ff (by omega) (by omega), rRow_fr a4 ff (by omega) (by omega), by rw [(ff 13 0 38 (by omega)).1]; exact a5, ⟨?_, fun k hk => absurd hk (Nat.not_lt_zero k)⟩, ⟨w4, Nat.zero_le _, fun i hi => absurd hi (Nat.not_lt_zero i)⟩, ⟨ch + 1, by omega, rK_new c2 h7 (fun i _ => (ff 71 0 i (by omega)).1) (fun i _ => (ff 72 0 i (by omega)).1)⟩, rS_fr a8 ff (by omega) (by omega) (by omega) (by omega), rH_fr a9 ff (by omega) (by omega) (by omega)⟩, fr_m ff (fun c i k h => by unfold pRef; omega)⟩
            · rw [e1, g1, Ref_gardens_L2_eq, if_neg (by decide), pk_mul, if_neg (of_eq_false (lt_f (Nat.le_refl _) (by omega))), w1]
            · rw [(w6 13 0 11 (by omega)).1, (g4 13 0 11 (by omega)).1]; exact e3
        · refine ⟨(-1) - nI (2 + R' * C'), _, haF, fun s hs => ?_, fun s hs => ?_⟩
          · obtain ⟨a, e1, e2, e3⟩ := cl s hs
            obtain ⟨b, g1, g2, g3⟩ := c_pass1 (d := d + 97) e2 h36 (R' * C') (Nat.le_refl _) hall
            refine fin (x := 0) hs ?_ g2.2.2.1 (fr_t e3 (fr_m g3 (by omega)))
            have h80 := ht.1
            rw [e1, g1, Garden_reads_L1_eq, pk_mul, if_neg (of_eq_false (lt_f (Nat.le_refl _) (by omega))), Text_isRead_eq, g2.2.2.1, g2.1.1, if_neg (of_eq_false (eq_f hT (by omega) (by omega))), bI_s, nb_0, if_pos (by decide)]
          · obtain ⟨a, e1, e2, e3, e4⟩ := rf s hs
            obtain ⟨b, g1, g2, g3, g4⟩ := m_pass1 (d := d + 90) e2 h36 (R' * C') (Nat.le_refl _) hall
            have h80 := ht.1
            have hle := g2.2.2.2.2.1
            refine ⟨b, ?_, RI_fail hn hs (fr_t e4 (fp g4)) (by rw [(g4 13 0 11 (by omega)).1]; exact e3)⟩
            rw [e1, g1, Ref_gardens_L2_eq, if_neg (by decide), pk_mul, if_neg (of_eq_false (lt_f (Nat.le_refl _) (by omega))), Ref_gardens_J4_eq, if_neg (by decide), g2.1, g2.2.1, if_pos (of_eq_true (lt_t (by omega) (by omega)))]
end GARDS

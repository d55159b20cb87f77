/-! rule: the call. -/
section RULEG
variable {d k : Nat} {R C n T u q nh : Nat} {kd : Nat → Nat} {S S' : Sn} {L : List Nat} {l l' : List Int64} {sg : Nat → Nat} {U U' : Nat → Sn} {K : Nat → Option Sn} {sq : Nat → Nat × Nat × Nat} {hq : Nat → Nat × Nat} {s t : xS} {p E y u' : Nat}
def pRd (c i k : Nat) : Prop := (c = 1 ∧ 2 ≤ k) ∨ ((c = 5 ∨ c = 24 ∨ c = 25) ∧ i = 1)
def pRm (c i k : Nat) : Prop := (c = 13 ∧ (k = 0 ∨ k = 11 ∨ k = 12 ∨ k = 13 ∨ k = 14 ∨ k = 21)) ∨ (c = 47 ∧ i = 1)
theorem ru_ne {cs : List Nat} (h : 1 ≤ cs.length) : ruL cs = cs := by
  cases cs with
  | nil => exact absurd h (by decide)
  | cons c r => rfl
/-- a rule's text read by both -/
theorem rd_rule (d : Nat) (ht : tOk T sg) : ∃ q o, (∀ L', o = some L' → wfL (ruL L') 0 ∧ L'.length ≤ 40) ∧ (∀ s, cT s T sg → ∃ t, ev (d + 99) f_Rule_reads [vR 5 1, vR 1 0] s = some (some (vI (ib o.isSome)), t) ∧ t.1 1 0 3 = nI q ∧ (∀ L', o = some L' → cR t 1 (ruL L')) ∧ fr pRd s t) ∧ (∀ s, rT s T sg → ∃ t, ev (d + 99) f_Ref_readsRule [vR 13 0] (wI s 13 0 0 0) = some (some (vI (if o.isSome = true then 0 else (-1) - nI q)), t) ∧ t.1 13 0 11 = 0 ∧ (∀ L', o = some L' → t.1 13 0 21 = nI L'.length ∧ ∀ j, j < L'.length → t.1 47 1 j = nI (L'.getD j 0)) ∧ fr pRm s t) ∧ q ≤ 40 := by
  have h80 := ht.1
  obtain ⟨E, hE⟩ : ∃ E, E = min T 40 := ⟨_, rfl⟩
  have hE4 : E ≤ 40 := by omega
  have hET : E ≤ T := by omega
  have hop : ∀ s, cT s T sg → ∃ t, ev (d + 98) f_Text_open [vR 1 0, vI 40] s = some (none, t) ∧ cX t T sg E 0 ∧ fr (fun c _ k => c = 1 ∧ 2 ≤ k) s t := fun s hs => by
    obtain ⟨a, o1, o2, o3⟩ := c_openN (d := d + 96) (N := 40) (by omega) hs ht
    rw [← hE] at o2
    exact ⟨a, o1, o2, o3⟩
  have hbg : ∀ s, rT s T sg → ∃ t, ev (d + 98) f_Ref_begins [vR 13 0, vI 40] (wI s 13 0 0 0) = some (some (vI (nI T)), t) ∧ rX t sg E 0 ∧ t.1 13 0 11 = 0 ∧ t.1 13 0 14 = 0 ∧ fr pTx s t := fun s hs => by
    obtain ⟨a, o1, o2, o3, o4⟩ := m_beginsN (d := d + 96) (N := 40) (by omega) hs ht
    rw [← hE] at o2
    refine ⟨a, o1, o2, o3, ?_, o4⟩
    have e := o1
    rw [Ref_begins_eq, min_s, bI_s] at e
    have e2 := (Prod.mk.inj (Option.some.inj e)).2
    rw [← e2, wI_nk (by omega), wI_s1]
  by_cases hT0 : T = 0
  · refine ⟨0, some [], fun L' z => ?_, fun s hs => ?_, fun s hs => ?_, by omega⟩
    · rw [← Option.some.inj z]
      refine ⟨⟨?_, ?_, ?_, ?_, ?_, ?_, ?_, ?_, ?_, rfl⟩, Nat.zero_le _⟩
      · exact Or.inl (by decide)
      · decide
      · decide
      · exact Or.inr (Or.inl (by decide))
      · decide
      · decide
      · exact Or.inr (Or.inr (Or.inl (by decide)))
      · decide
      · decide
    · obtain ⟨a, o1, o2, o3⟩ := hop s hs
      have hz : a.1 1 0 3 = a.1 1 0 1 := by rw [o2.2.2.1, o2.1.1, hT0]
      have f1 : fr pRd a (wI (wI (wI (wI a 24 1 0 4) 24 1 1 1000) 24 1 2 2045) 5 1 2 3) := fr_wI (fr_wI (fr_wI (fr_wI (fr_r _ _) (by simp [pRd])) (by simp [pRd])) (by simp [pRd])) (by simp [pRd])
      refine ⟨wI (wI (wI (wI a 24 1 0 4) 24 1 1 1000) 24 1 2 2045) 5 1 2 3, ?_, by rw [wI_nc (by omega), wI_nc (by omega), wI_nc (by omega), wI_nc (by omega)]; exact o2.2.2.1, fun L' z => ?_, fr_t (fr_m o3 (fun c i k h => by unfold pRd; omega)) f1⟩
      · rw [Rule_reads_eq, o1, bV_s, Text_isRead_eq, if_pos hz, bI_s, if_neg (by decide), Rule_setUsual_eq, if_pos (by decide), if_pos (by decide), if_pos (by decide), bV_s, nb_1]; rfl
      · rw [← Option.some.inj z]
        refine ⟨wI_s1 _ _ _ _ _, by decide, fun j hj => ?_⟩
        have hj : j < 3 := hj
        rw [wI_nc (by omega)]
        rcases (by omega : j = 0 ∨ j = 1 ∨ j = 2) with rfl | rfl | rfl
        · rw [wI_nk (by omega), wI_nk (by omega), wI_s1]; decide
        · rw [wI_nk (by omega), wI_s1]; decide
        · rw [wI_s1]; decide
    · obtain ⟨a, o1, o2, o3, o5, o4⟩ := hbg s hs
      obtain ⟨g, eg⟩ : ∃ g, wI a 13 0 21 0 = g := ⟨_, rfl⟩
      have fg : fr (fun c _ k => c = 13 ∧ k = 21) a g := by rw [← eg]; exact fr_wI (fr_r _ _) ⟨rfl, rfl⟩
      have hf := m_fault (d := d + 97) (b := true) (T := T) (N := 40) (rX_fr o2 fg (by omega) (by omega) (by omega)) hE (by omega) h80
      rw [if_pos ⟨rfl, hT0.symm⟩] at hf
      have hf' : ev (d + 98) f_Ref_faultOf [vR 13 0, vI (nI T), vI 40, vI 1] g = some (some (vI 0), g) := hf
      have hz : nI T = 0 := by rw [hT0]; rfl
      refine ⟨g, ?_, by rw [(fg 13 0 11 (by omega)).1]; exact o3, fun L' z => ?_, fr_t (fr_m o4 (fun c i k h => by unfold pTx at h; unfold pRm; omega)) (fr_m fg (fun c i k h => by unfold pRm; omega))⟩
      · rw [Ref_readsRule_eq, o1, bI_s, if_pos hz, eg, Ref_readsRule_J1_eq, hf', bI_s]; rfl
      · rw [← Option.some.inj z]
        exact ⟨by rw [← eg, wI_s1]; rfl, fun j hj => absurd hj (Nat.not_lt_zero j)⟩
  · have hzT : ¬ nI T = 0 := of_eq_false (eq_f (b := 0) hT0 (by omega) (by omega))
    obtain ⟨q, o, ⟨Pa, Pb, Pc⟩, L1, C1⟩ := (all_A (d := d + 92) (T := T) (sg := sg) hE4 E 0 0 (by omega) (by omega) (by omega)).2.1 0 (by omega)
    have hcl : ∀ s, cT s T sg → ∃ a, ev (d + 99) f_Rule_reads [vR 5 1, vR 1 0] s = Rule_reads_L1 (d + 92 + 6) 1 (nI 0) a ∧ yS a T sg E 0 [] [] 0 0 true ∧ fr pRd s a := fun s hs => by
      obtain ⟨a, o1, o2, o3⟩ := hop s hs
      obtain ⟨g, eg⟩ : ∃ g, wI (wI (wI (wI (wI a 5 1 2 0) 5 1 3 0) 5 1 4 0) 5 1 5 0) 5 1 6 1 = g := ⟨_, rfl⟩
      have fg : fr (fun c i k => c = 5 ∧ i = 1) a g := by rw [← eg]; exact fr_wI (fr_wI (fr_wI (fr_wI (fr_wI (fr_r _ _) (by omega)) (by omega)) (by omega)) (by omega)) (by omega)
      have hz : ¬ a.1 1 0 3 = a.1 1 0 1 := by
        rw [o2.2.2.1, o2.1.1]
        exact of_eq_false (eq_f (fun z => hT0 z.symm) (by omega) (by omega))
      refine ⟨g, ?_, ⟨cX_fr o2 fg (by omega) (by omega), ⟨⟨by rw [← eg, wI_nk (by omega), wI_nk (by omega), wI_nk (by omega), wI_nk (by omega), wI_s1]; rfl, by decide, fun j hj => absurd hj (Nat.not_lt_zero j)⟩, by rw [← eg, wI_nk (by omega), wI_nk (by omega), wI_nk (by omega), wI_s1]; rfl, trivial, fun x hx => (by cases hx), by decide⟩, by decide, by rw [← eg, wI_nk (by omega), wI_nk (by omega), wI_s1]; rfl, by rw [← eg, wI_nk (by omega), wI_s1]; rfl, by rw [← eg, wI_s1]; rfl, by omega, by omega, hE4⟩, fr_t (fr_m o3 (fun c i k h => by unfold pRd; omega)) (fr_m fg (fun c i k h => by unfold pRd; omega))⟩
      rw [Rule_reads_eq, o1, bV_s, Text_isRead_eq, if_neg hz, bI_s, if_pos (by decide), eg]; rfl
    have hq40 : q ≤ 40 := by omega
    have fcd : ∀ {a b : xS}, fr pRc a b → fr pRd a b := fun f => fr_m f (fun c i k h => by unfold pRc at h; unfold pRd; omega)
    have hm : ∀ s, rT s T sg → ∃ t, ev (d + 99) f_Ref_readsRule [vR 13 0] (wI s 13 0 0 0) = some (some (vI (if o.isSome = true ∧ q = T then 0 else (-1) - nI q)), t) ∧ t.1 13 0 11 = 0 ∧ (∀ L', o = some L' → t.1 13 0 21 = nI L'.length ∧ ∀ j, j < L'.length → t.1 47 1 j = nI (L'.getD j 0)) ∧ fr pRm s t := fun s hs => by
      obtain ⟨a, o1, o2, o3, o5, o4⟩ := hbg s hs
      obtain ⟨g, eg⟩ : ∃ g, wI a 13 0 21 0 = g := ⟨_, rfl⟩
      have fg : fr (fun c _ k => c = 13 ∧ k = 21) a g := by rw [← eg]; exact fr_wI (fr_r _ _) ⟨rfl, rfl⟩
      obtain ⟨t, e1, e2, ⟨k', e3, e4, e5⟩, e6, e7⟩ := L1 (d + 98) 0 g (by omega) (rX_fr o2 fg (by omega) (by omega) (by omega)) (by rw [(fg 13 0 14 (by omega)).1]; exact o5) (by rw [← eg, wI_s1]; rfl) (by omega)
      have e1' : ev (d + 98) f_Ref_readsRank [vR 13 0, vI 0] g = some (some (vI (ib o.isSome)), t) := e1
      have hf := m_fault (d := d + 97) (b := o.isSome) (T := T) (N := 40) e2 hE (by omega) h80
      refine ⟨t, ?_, by rw [(e7 13 0 11 (by simp [pRu])).1, (fg 13 0 11 (by omega)).1]; exact o3, fun L' z => ?_, fr_t (fr_m o4 (fun c i k h => by unfold pTx at h; unfold pRm; omega)) (fr_t (fr_m fg (fun c i k h => by unfold pRm; omega)) (fr_m e7 (fun c i k h => by unfold pRu at h; unfold pRm; omega)))⟩
      · have hJ : ∀ bb : Bool, bb = o.isSome → (if ib bb = 0 then Ref_readsRule_J1 (d + 98) (nI T) 0 t else Ref_readsRule_J1 (d + 98) (nI T) 1 t) = some (some (vI (if o.isSome = true ∧ q = T then 0 else (-1) - nI q)), t) := fun bb hbb => by
          rw [← hbb] at hf ⊢
          have hf' : ev (d + 98) f_Ref_faultOf [vR 13 0, vI (nI T), vI 40, vI (ib bb)] t = some (some (vI (if bb = true ∧ q = T then 0 else (-1) - nI q)), t) := hf
          cases bb with
          | false =>
            rw [if_pos (by rfl), Ref_readsRule_J1_eq]
            have hf2 : ev (d + 98) f_Ref_faultOf [vR 13 0, vI (nI T), vI 40, vI 0] t = some (some (vI (if false = true ∧ q = T then 0 else (-1) - nI q)), t) := hf'
            rw [hf2, bI_s]
          | true =>
            rw [if_neg (by decide), Ref_readsRule_J1_eq]
            have hf2 : ev (d + 98) f_Ref_faultOf [vR 13 0, vI (nI T), vI 40, vI 1] t = some (some (vI (if true = true ∧ q = T then 0 else (-1) - nI q)), t) := hf'
            rw [hf2, bI_s]
        rw [Ref_readsRule_eq, o1, bI_s, if_neg hzT, eg, e1', bI_s, hJ _ rfl]
      · obtain ⟨y1, y2⟩ := e5 L' z
        exact ⟨by rw [e3, y1, Nat.zero_add], fun j hj => by have := y2 j hj; rw [Nat.zero_add] at this; exact this⟩
    cases o with
    | none =>
      refine ⟨q, none, fun L' z => (by cases z), fun s hs => ?_, fun s hs => ?_, hq40⟩
      · obtain ⟨a, a1, a2, a3⟩ := hcl s hs
        obtain ⟨t, t1, t2, t3⟩ := C1 a 0 0 [] [] a2 (Nat.le_refl _) (fun _ => Or.inl rfl) (fun _ => Nat.zero_testBit 0)
        exact ⟨t, by rw [a1, t1]; rfl, t2, fun L' z => (by cases z), fr_t a3 (fcd t3)⟩
      · obtain ⟨t, t1, t2, t3, t4⟩ := hm s hs
        exact ⟨t, by rw [t1, if_neg (fun z => by cases z.1)]; rfl, t2, t3, t4⟩
    | some cs =>
      obtain ⟨c1, c2, c3, c4⟩ := Pc cs rfl
      have hcs : cs.length ≤ 40 := by omega
      have hwf : wfL (ruL cs) 0 := by
        rw [ru_ne c2]
        have := c4 [] 0 (by omega) rfl
        rw [List.append_nil] at this
        exact this
      have hC : ∀ s, cT s T sg → ∃ t y' mk' out1 π, ev (d + 99) f_Rule_reads [vR 5 1, vR 1 0] s = Rule_reads_L1 (d + 92 + 6) 1 (nI y') t ∧ yS t T sg E q out1 π 0 mk' false ∧ y' ≤ q ∧ (∀ x, x ∈ π → 1 ≤ sgO x) ∧ out1 ++ π = cs ∧ stp sg E 0 q 0 mk' ∧ fr pRd s t := fun s hs => by
        obtain ⟨a, a1, a2, a3⟩ := hcl s hs
        obtain ⟨t, y', mk', out1, π, g1, g2, g3, g4, g5, g6, g7, g8⟩ := C1 a 0 0 [] [] a2 (Nat.le_refl _) (fun _ => Or.inl rfl) (fun _ => Nat.zero_testBit 0)
        rw [List.append_nil] at g2
        have g5 : out1 ++ π = cs := g5
        exact ⟨t, y', mk', out1, π, by rw [a1, g1], g2, g3, g4, g5, g7, fr_t a3 (fcd g8)⟩
      by_cases hqT : q = T
      · refine ⟨q, some cs, fun L' z => ?_, fun s hs => ?_, fun s hs => ?_, hq40⟩
        · rw [← Option.some.inj z]; exact ⟨hwf, hcs⟩
        · obtain ⟨a, y', mk', out1, π, g1, g2, g3, g4, g5, g7, g8⟩ := hC s hs
          obtain ⟨t, t1, t2, t3, t4, t5⟩ := y_fin (d := d + 92 + 3) g2 (by omega) g3 g4
          rw [decide_eq_true (show E = T by omega)] at t1
          refine ⟨t, by rw [g1, t1]; rfl, t2, fun L' z => ?_, fr_t g8 (fcd t5)⟩
          rw [← Option.some.inj z, ru_ne c2, ← g5]; exact t4
        · obtain ⟨t, t1, t2, t3, t4⟩ := hm s hs
          exact ⟨t, by rw [t1, if_pos ⟨rfl, hqT⟩]; rfl, t2, t3, t4⟩
      · refine ⟨q, none, fun L' z => (by cases z), fun s hs => ?_, fun s hs => ?_, hq40⟩
        · obtain ⟨a, y', mk', out1, π, g1, g2, g3, g4, g5, g7, g8⟩ := hC s hs
          by_cases hqE : q = E
          · obtain ⟨t, t1, t2, t3, t4, t5⟩ := y_fin (d := d + 92 + 3) g2 hqE g3 g4
            rw [decide_eq_false (show ¬ E = T by omega)] at t1
            exact ⟨t, by rw [g1, t1]; rfl, t2, fun L' z => (by cases z), fr_t g8 (fcd t5)⟩
          · have := y_badS (d := d + 92 + 2) g2 (by omega) g3 (fun _ => rfl) g7
            exact ⟨a, by rw [g1, this]; rfl, g2.1.2.2.1, fun L' z => (by cases z), g8⟩
        · obtain ⟨t, t1, t2, t3, t4⟩ := hm s hs
          exact ⟨t, by rw [t1, if_neg (fun z => hqT z.2)]; rfl, t2, fun L' z => (by cases z), t4⟩
theorem m_layC {j : Nat} (hj : j ≠ 0) {L' : List Nat} (hl : L'.length ≤ 40) (hc : ∀ i, i < L'.length → s.1 47 j i = nI (L'.getD i 0)) : ∃ t, ev (d + 1) f_Ref_laysCode [vR 13 0, vR 47 j, vI (nI L'.length)] s = some (none, t) ∧ rR t L' ∧ fr (fun c i k => (c = 13 ∧ k = 20) ∨ (c = 47 ∧ i = 0)) s t := by
  obtain ⟨t, k1, k2, k3⟩ := chainE L'.length (fun i (t : xS) => Ref_laysCode_L1 d j (nI L'.length) (nI i) t) (fun i t => (∀ k, k < i → t.1 47 0 k = nI (L'.getD k 0)) ∧ fr (fun c i k => c = 47 ∧ i = 0) (wI s 13 0 20 (nI L'.length)) t) (by
    rintro i t hi ⟨h1, h2⟩
    refine ⟨wI t 47 0 i (nI (L'.getD i 0)), ?_, fun k hk => ?_, fr_wI h2 ⟨rfl, rfl⟩⟩
    · show Ref_laysCode_L1 d j (nI L'.length) (nI i) t = _
      rw [Ref_laysCode_L1_eq, if_pos (of_eq_true (lt_t hi (by omega))), in_t (show i < 80 by omega) (by omega), if_pos rfl, if_pos rfl, n_cl (by omega), (h2 47 j i (by omega)).1, wI_nc (by omega), hc i hi, nI_1]
    · by_cases z : k = i
      · rw [z, wI_s1]
      · rw [wI_nk z]; exact h1 k (by omega)) L'.length 0 (wI s 13 0 20 (nI L'.length)) (by omega) ⟨fun k hk => absurd hk (Nat.not_lt_zero k), fr_r _ _⟩
  have k1' : Ref_laysCode_L1 d j (nI L'.length) 0 (wI s 13 0 20 (nI L'.length)) = Ref_laysCode_L1 d j (nI L'.length) (nI L'.length) t := k1
  refine ⟨t, ?_, ⟨by rw [(k3 13 0 20 (by omega)).1, wI_s1], hl, k2⟩, fr_t (fr_wI (fr_r _ _) (by omega)) (fr_m k3 (by omega))⟩
  rw [Ref_laysCode_eq, k1', Ref_laysCode_L1_eq, if_neg (of_eq_false (lt_f (Nat.le_refl _) (by omega)))]
theorem pRd_t {c i k : Nat} (h : pRd c i k) : pBCt c i k := by
  unfold pRd at h
  rcases h with ⟨rfl, h⟩ | ⟨rfl | rfl | rfl, rfl⟩ <;> simp [pBCt, pBC, pCQ]
  omega
theorem pRm_t {c i k : Nat} (h : pRm c i k) : pBRt c i k := by
  unfold pRm at h
  rcases h with ⟨rfl, rfl | rfl | rfl | rfl | rfl | rfl⟩ | ⟨rfl, rfl⟩ <;> simp [pBRt, pBR, pRQ]
theorem s_rule (ha : AOk ((R, C, kd), (n, S), (L, l), (T, sg), (u, U), K, (q, sq), nh, hq)) : GsS d f_Main_rule f_Ref_rule [] ((R, C, kd), (n, S), (L, l), (T, sg), (u, U), K, (q, sq), nh, hq) k := by
  have hn : n ≤ 4 := ha.2.1.1
  have ht : tOk T sg := ha.2.2.2.1
  have ht0 : tOk 0 sg := ⟨Nat.zero_le _, fun k hk => absurd hk (Nat.not_lt_zero k)⟩
  obtain ⟨p, o, hw, hc, hm, hp40⟩ := rd_rule d ht
  have hneg : ∀ {p : Nat}, p ≤ 40 → ¬ ((-1 : Int32) - nI p = 0) := fun {p} hp => by
    have : ((List.range 41).all fun p => decide (¬ (-1 : Int32) - nI p = 0)) = true := by decide
    exact of_decide_eq_true (all_r this (by omega))
  cases o with
  | none =>
    refine ⟨(-1) - nI p, ((R, C, kd), (n, S), (L, l), (0, sg), (u, U), K, (q, sq), nh, hq), ⟨ha.1, ha.2.1, ha.2.2.1, ht0, ha.2.2.2.2⟩, fun s hs => ?_, fun s hs => ?_⟩
    · obtain ⟨t, t1, t2, t3, t4⟩ := hc s hs.2.2.2.2.1
      obtain ⟨v, ev'⟩ : ∃ v, wI t 1 0 1 0 = v := ⟨_, rfl⟩
      have fv : fr pBCt s v := by
        rw [← ev']
        exact fr_wI (fr_m t4 (fun _ _ _ => pRd_t)) (Or.inr ⟨rfl, rfl⟩)
      have fv2 : fr (fun c i k => c = 1 ∨ ((c = 5 ∨ c = 24 ∨ c = 25) ∧ i = 1)) s v := by
        rw [← ev']
        exact fr_wI (fr_m t4 (fun c i k h => by unfold pRd at h; omega)) (by omega)
      refine ⟨v, ?_, CI_gent hs fv (by rw [← ev', wI_s1]) (cO_fr hs.2.1 fv2 (by omega) (by omega) (by omega) (by omega)) (cRow_fr hs.2.2.2.1 fv2 (by omega) (by omega)) (cU_fr hs.2.2.2.2.2.1 fv2 (by omega) (by omega) (by omega)), fr_m fv (fun _ _ _ => pBCt_cls)⟩
      rw [Main_rule_eq, t1, bI_s, Text_close_eq, t2, bI_s, if_pos (by rfl), ev']
    · obtain ⟨t, t1, t2, t3, t4⟩ := hm s hs.2.2.2.2.2.1
      have t4' : fr pRm s t := t4
      unfold pRm at t4'
      refine ⟨t, ?_, RI_gent hn hs (fr_m t4 (fun _ _ _ => pRm_t)) t2 (rO_fr hs.2.1 t4' (by omega) (by omega)) (rRow_fr hs.2.2.2.1 t4' (by omega) (by omega)) (rU_fr hn hs.2.2.2.2.2.2.1 t4' (by omega) (by omega)), fr_m t4 (fun _ _ _ h => pBRt_ref (pRm_t h))⟩
      have t1' : ev (d + 99) f_Ref_readsRule [vR 13 0] (wI s 13 0 0 0) = some (some (vI ((-1) - nI p)), t) := t1
      rw [Ref_rule_eq, t1', bI_s, if_neg (hneg hp40)]
  | some L' =>
    obtain ⟨w1, w2⟩ := hw L' rfl
    refine ⟨0, ((R, C, kd), (n, S), (L', l), (0, sg), (u, U), K, (q, sq), nh, hq), ⟨ha.1, ha.2.1, w1, ht0, ha.2.2.2.2⟩, fun s hs => ?_, fun s hs => ?_⟩
    · obtain ⟨t, t1, t2, t3, t4⟩ := hc s hs.2.2.2.2.1
      have h1 := t3 L' rfl
      obtain ⟨v, ev'⟩ : ∃ v, wI t 1 0 1 0 = v := ⟨_, rfl⟩
      have fv : fr (fun c _ k => c = 1 ∧ k = 1) t v := by rw [← ev']; exact fr_wI (fr_r _ _) ⟨rfl, rfl⟩
      have hv1 : cR v 1 (ruL L') := cR_fr h1 fv (by omega) (by omega)
      obtain ⟨x, ex⟩ : ∃ x, wI v 5 0 2 (nI (ruL L').length) = x := ⟨_, rfl⟩
      have fx : fr (fun c i k => c = 5 ∧ i = 0 ∧ k = 2) v x := by rw [← ex]; exact fr_wI (fr_r _ _) ⟨rfl, rfl, rfl⟩
      have hx1 : cR x 1 (ruL L') := cR_fr hv1 fx (by omega) (by omega)
      obtain ⟨w, ew⟩ : ∃ w, x_cpI x 24 1 0 24 0 0 40 = w := ⟨_, rfl⟩
      have fw : fr (fun c i k => c = 24 ∧ i = 0) x w := by
        rw [← ew]
        intro c i k z
        refine ⟨?_, rfl⟩
        exact if_neg (fun y => z ⟨y.1, y.2.1⟩)
      have hw0 : cR w 0 (ruL L') := by
        refine ⟨by rw [(fw 5 0 2 (by omega)).1, ← ex, wI_s1], hx1.2.1, fun j hj => ?_⟩
        have := hx1.2.1
        rw [← ew, cpI_i (by omega), Nat.zero_add, Nat.sub_zero]
        exact hx1.2.2 j hj
      have ff : fr (fun c i k => c = 1 ∨ ((c = 5 ∨ c = 24 ∨ c = 25) ∧ i = 1) ∨ (c = 5 ∧ i = 0 ∧ k = 2) ∨ (c = 24 ∧ i = 0)) s w := fr_t (fr_m t4 (fun c i k h => by unfold pRd at h; omega)) (fr_t (fr_m fv (by omega)) (fr_t (fr_m fx (by omega)) (fr_m fw (by omega))))
      have hcp := cp_24 (d := d + 90) (s := x)
      rw [ew] at hcp
      obtain ⟨a1, a2, a3, a4, a5, a6, a7, a8, a9⟩ := hs
      refine ⟨w, ?_, ⟨cG_fr a1 ff (by omega) (by omega) (by omega), cO_fr a2 ff (by omega) (by omega) (by omega) (by omega), hw0, cRow_fr a4 ff (by omega) (by omega), ⟨by rw [(fw 1 0 1 (by omega)).1, (fx 1 0 1 (by omega)).1, ← ev', wI_s1]; rfl, fun k hk => absurd hk (Nat.not_lt_zero k)⟩, cU_fr a6 ff (by omega) (by omega) (by omega), cK_fr a7 ff (by omega) (by omega) (by omega), cS_fr a8 ff (by omega) (by omega), cH_fr a9 ff (by omega) (by omega)⟩, fr_m ff (fun c i k h => by unfold pCls; omega)⟩
      rw [Main_rule_eq, t1, bI_s, Text_close_eq, t2, bI_s, if_neg (by intro z; cases z), ev', Rule_take_eq, hv1.1, ex, hcp, bV_s, bV_s]
    · obtain ⟨t, t1, t2, t3, t4⟩ := hm s hs.2.2.2.2.2.1
      have t1' : ev (d + 99) f_Ref_readsRule [vR 13 0] (wI s 13 0 0 0) = some (some (vI 0), t) := t1
      obtain ⟨y1, y2⟩ := t3 L' rfl
      obtain ⟨w, g1, g2, g3⟩ := m_layC (d := d + 98) (j := 1) (by omega) w2 y2
      have ff : fr (fun c i k => (c = 13 ∧ (k = 0 ∨ k = 11 ∨ k = 12 ∨ k = 13 ∨ k = 14 ∨ k = 21 ∨ k = 20)) ∨ (c = 47 ∧ i ≤ 1)) s w := fr_t (fr_m t4 (fun c i k h => by unfold pRm at h; omega)) (fr_m g3 (by omega))
      obtain ⟨a1, a2, a3, a4, a5, a6, a7, ⟨ch, c1, c2⟩, a8, a9⟩ := hs
      refine ⟨w, ?_, ⟨rG_fr a1 ff (by omega) (by omega) (by omega), rO_fr a2 ff (by omega) (by omega), g2, rRow_fr a4 ff (by omega) (by omega), by rw [(ff 13 0 38 (by omega)).1]; exact a5, ⟨by rw [(g3 13 0 11 (by omega)).1]; exact t2, fun k hk => absurd hk (Nat.not_lt_zero k)⟩, rU_fr hn a7 ff (by omega) (by omega), ⟨ch, by omega, rK_fr hn c2 ff (by omega) (by omega) (by omega) (by omega)⟩, rS_fr a8 ff (by omega) (by omega) (by omega) (by omega), rH_fr a9 ff (by omega) (by omega) (by omega)⟩, fr_m ff (fun c i k h => by unfold pRef; omega)⟩
      rw [Ref_rule_eq, t1', bI_s, if_pos rfl, y1, g1, bV_s]
end RULEG

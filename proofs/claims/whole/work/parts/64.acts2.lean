/-! minutes, undo, keep, again, sheet. -/
section ACTS2
variable {d k : Nat} {R C n T u q nh : Nat} {kd : Nat → Nat} {S S' : Sn} {L : List Nat} {l l' : List Int64} {sg : Nat → Nat} {U : Nat → Sn} {K : Nat → Option Sn} {sq : Nat → Nat × Nat × Nat} {hq : Nat → Nat × Nat} {s v : xS} {r x y : Int32}
theorem pas_b1 (z : Sn × Nat × Nat) (p : Nat) : (minP R C kd n L z p).2.1 ≤ z.2.1 + 1 ∧ (minP R C kd n L z p).2.2 ≤ z.2.2 + 6 := by
  unfold minP
  cases z.1.2.2.2.1.testBit p with
  | false => exact ⟨Nat.le_succ _, Nat.le_add_right _ _⟩
  | true =>
    rw [cond_true]
    cases rto R C kd (z.1.1 p) with
    | none => exact ⟨Nat.le_succ _, Nat.le_add_right _ _⟩
    | some g => exact ⟨Nat.le_refl _, Nat.add_le_add_left (pc_le _) _⟩
theorem pas_b2 (z : Sn × Nat × Nat) : ∀ k, (minN R C kd n L k z).2.1 ≤ z.2.1 + k ∧ (minN R C kd n L k z).2.2 ≤ z.2.2 + 6 * k
  | 0 => ⟨Nat.le_refl _, Nat.le_refl _⟩
  | k + 1 => by
    have a := pas_b2 z k
    have b := pas_b1 (R := R) (C := C) (kd := kd) (n := n) (L := L) (minN R C kd n L k z) k
    show (minP R C kd n L (minN R C kd n L k z) k).2.1 ≤ _ ∧ (minP R C kd n L (minN R C kd n L k z) k).2.2 ≤ _
    omega
theorem pas_b3 (z : Sn × Nat × Nat) (hn : n ≤ 4) : ∀ k, (pasN R C kd n L k z).2.1 ≤ z.2.1 + 4 * k ∧ (pasN R C kd n L k z).2.2 ≤ z.2.2 + 24 * k
  | 0 => ⟨Nat.le_refl _, Nat.le_refl _⟩
  | k + 1 => by
    have a := pas_b3 z hn k
    have b := pas_b2 (R := R) (C := C) (kd := kd) (n := n) (L := L) (pasN R C kd n L k z) n
    show (minN R C kd n L n (pasN R C kd n L k z)).2.1 ≤ _ ∧ (minN R C kd n L n (pasN R C kd n L k z)).2.2 ≤ _
    omega
theorem s_minutes (ha : AOk ((R, C, kd), (n, S), (L, l), (T, sg), (u, U), K, (q, sq), nh, hq)) (hu : u ≤ 15) (x : Int32) : GsS d f_Main_minutes f_Ref_minutes [vI x] ((R, C, kd), (n, S), (L, l), (T, sg), (u, U), K, (q, sq), nh, hq) k := by
  have ho : oOkS R C kd n S := ha.2.1
  have hn : n ≤ 4 := ho.1
  cases hx : x_in x 61 with
  | false =>
    refine ⟨-1, _, ha, fun s hs => ?_, fun s hs => ?_⟩
    · have hm := CI_mark hs
      refine ⟨_, ?_, hm, fr_m (fr_mark _ _ _) (fun _ _ _ => pBC_cls)⟩
      have hp : ev (d + 99) f_Deeds_pass [vR 7 0, vR 3 0, vI x] (wI (wL s 4 0 6 (lN (pck n S))) 4 0 7 S.2.2.2.2) = some (some (vI (-1)), wI (wL s 4 0 6 (lN (pck n S))) 4 0 7 S.2.2.2.2) := by
        rw [Deeds_pass_eq]
        by_cases z : x < 0
        · rw [if_pos z]
        · rw [if_neg z]
          obtain ⟨m, hm, rfl⟩ := nI_of z
          rw [n_in (by omega), decide_eq_false_iff_not] at hx
          rw [nl_60, if_pos (of_eq_true (lt_t (by omega) (by omega)))]
      rw [Main_minutes_eq, c_mark ha.1 hs.2.1 ho, bV_s, hp, bI_s, Main_remembered_eq, if_pos (by decide), bI_s, if_pos (by decide)]
    · refine ⟨wI s 13 0 0 0, ?_, RI_q hn hs (fr_m fr_0 (fun _ _ _ => p0_RQ)) (rRow_fr hs.2.2.2.1 fr_0 (by simp [p0]) (by intro k; simp [p0])), fr_wI (fr_r _ _) (Or.inl rfl)⟩
      rw [Ref_minutes_eq, m_in0 (n := 61) _ (by decide), hx, bI_s, if_pos (by decide)]
  | true =>
    obtain ⟨m, hm, rfl⟩ := (n_in_iff (by omega)).mp hx
    have hp : (pasN R C kd n L m (S, 0, 0)).2.1 ≤ 0 + 4 * m ∧ (pasN R C kd n L m (S, 0, 0)).2.2 ≤ 0 + 24 * m := pas_b3 (S, 0, 0) hn m
    have ho' : oOkS R C kd n (pasN R C kd n L m (S, 0, 0)).1 := pasN_ok (z := (S, 0, 0)) ha.1 ho m
    generalize hz : pasN R C kd n L m (S, 0, 0) = z at hp ho'
    have lp := pc_le z.1.2.2.2.1
    have hr0 : ¬ nI (pc z.1.2.2.2.1) < 0 := nI_pos (by omega)
    refine ⟨nI (pc z.1.2.2.2.1), _, AOk_S (l' := [lN z.2.1, lN z.2.2]) ha hu ho' (nI (pc z.1.2.2.2.1)), fun s hs => ?_, fun s hs => ?_⟩
    · have hm' := CI_mark hs
      obtain ⟨v, e1, e2, e3, e4, e5⟩ := c_pass (d := d + 93) hm'.1 hm'.2.1 ho hm'.2.2.1 ha.2.2.1 (show m ≤ 60 by omega)
      rw [hz] at e1 e2 e4 e5
      obtain ⟨t, g1, g2, g3, g4⟩ := cls_rem (d := d) hs e2 e3 (nI (pc z.1.2.2.2.1))
      obtain ⟨w, q1, q2, q3⟩ := n_tellTwo (d := d + 96) (s := t) (x := lN z.2.1) (y := lN z.2.2)
      refine ⟨w, ?_, CI_q g2 (fr_m q3 (fun _ _ _ => pN_CQ)) q2, fr_m (fr_t g3 (fr_m q3 (fun _ _ _ => pN_BC))) (fun _ _ _ => pBC_cls)⟩
      rw [Main_minutes_eq, c_mark ha.1 hs.2.1 ho, bV_s, e1, bI_s, g1, bI_s, if_neg hr0, (g4 7 0 3 (by simp [pM])).1, (g4 7 0 4 (by simp [pM])).1, e4, e5, nI_l (by omega), nI_l (by omega), q1, bV_s]
    · have hmm : rG (wI s 13 0 0 0) R C kd := rG_fr hs.1 fr_0 (by simp [p0]) (by simp [p0]) (by intro k; simp [p0])
      obtain ⟨t1, p1, p2, p3, p4, p5, p6, p7⟩ := ref_puts (d := d) hn hs
      have f2 : fr (pOr 0) t1 (wI (wI t1 13 0 28 0) 13 0 29 0) := fr_wI (fr_wI (fr_r _ _) (by simp [pOr])) (by simp [pOr])
      obtain ⟨v, e1, e2, e3, e4, e5⟩ := m_goesOn (d := d + 90) (z := (S, 0, 0)) (a := 0) (b := 0) (rG_fr p2 f2 (by simp [pOr, pF]) (by simp [pOr, pF]) (by intro k; simp [pOr, pF])) (rO_fr (p := fun c _ k => c = 13 ∧ 28 ≤ k) p3 (fr_wI (fr_wI (fr_r _ _) (by omega)) (by omega)) (by omega) (by omega)) ho (rR_fr p4 f2 (by simp [pOr, pF]) (by intro k; simp [pOr, pF])) ha.2.2.1 (by rw [wI_nk (by omega), wI_s1]; show (0 : Int32) = 0 + nI 0; decide) (by rw [wI_s1]; show (0 : Int32) = 0 + nI 0; decide) (show m ≤ 60 by omega)
      rw [hz] at e2 e4 e5
      have z0 : ∀ m : Nat, (0 : Int32) + nI m = nI m := fun m => Int32.zero_add _
      rw [z0] at e4 e5
      have f3 : fr (pOr 0) t1 v := fr_t f2 e3
      obtain ⟨v1, v2, g1, g2, g3, g4, g5⟩ := m_ent2 (d + 98) v (lN z.2.1) (lN z.2.2)
      have hP2 : rP v2 n u U S := rP_fr hn (rP_or hn p5 f3) g5 (by simp [pT]) (by intro k; simp [pT])
      have hO2 : rOS v2 0 n z.1 := rO_fr e2 g5 (by simp [pT]) (by intro k; simp [pT])
      obtain ⟨t, k1, k2, k3⟩ := m_adds (d := d + 98) (x := nI (pc z.1.2.2.2.1)) hn hP2
      have hun : undU (nI (pc z.1.2.2.2.1)) u U S = addU u U S := by unfold undU; rw [if_neg hr0]
      have f9 : fr pBR s t := fr_t (fr_m (fr_t p7 (fr_m f3 (fun _ _ _ => Or.inl))) (fun _ _ _ => pAcR_BR)) (fr_t (fr_m g5 (fun _ _ _ h => Or.inl (pT_RQ h))) (fr_m k3 (fun c i k h => pAcR_BR (Or.inr (Or.inl h)))))
      refine ⟨t, ?_, ?_, fr_m f9 (fun _ _ _ => pBR_ref)⟩
      · rw [Ref_minutes_eq, m_in0 (n := 61) _ (by decide), hx, bI_s, if_neg (by decide), p1, bV_s, e1, bV_s, e5, nI_l (by omega), g1, bV_s, (g2 13 0 28 (by simp [pT])).1, e4, nI_l (by omega), g3, bV_s, m_looseMany hO2 ho', bI_s, k1, bI_s]
      · rw [hun]
        exact RI_gen hn hs f9 (rO_fr hO2 k3 (by simp [pAd]) (by intro k; simp [pAd])) (rRow_fr g4 k3 (by simp [pAd]) (by intro k; simp [pAd])) k2
theorem s_undo (ha : AOk ((R, C, kd), (n, S), (L, l), (T, sg), (u, U), K, (q, sq), nh, hq)) : GsS d f_Main_undo f_Ref_undo [] ((R, C, kd), (n, S), (L, l), (T, sg), (u, U), K, (q, sq), nh, hq) k := by
  have ho : oOkS R C kd n S := ha.2.1
  have hn : n ≤ 4 := ho.1
  match u, ha with
  | 0, ha =>
    refine ⟨-1, _, ha, fun s hs => ?_, fun s hs => ?_⟩
    · have h4 : s.1 4 0 4 = nI 0 := hs.2.2.2.2.2.1.1
      refine ⟨s, ?_, hs, fr_r _ _⟩
      rw [Main_undo_eq, Memory_undoInto_eq, h4, if_pos (by rfl), bI_s]
    · have h26 : s.1 13 0 26 = nI 0 := hs.2.2.2.2.2.2.1.1
      refine ⟨wI s 13 0 0 0, ?_, RI_q hn hs (fr_m fr_0 (fun _ _ _ => p0_RQ)) (rRow_fr hs.2.2.2.1 fr_0 (by simp [p0]) (by intro k; simp [p0])), fr_wI (fr_r _ _) (Or.inl rfl)⟩
      rw [Ref_undo_eq, h26, if_pos (by rfl)]
  | u + 1, ha =>
    have hou : oOkS R C kd n (U u) := ha.2.2.2.2.1 u (Nat.lt_succ_self u)
    refine ⟨nI u, ((R, C, kd), (n, U u), (L, l), (T, sg), (u, U), K, (q, sq), nh, hq), ⟨ha.1, hou, ha.2.2.1, ha.2.2.2.1, fun i hi => ha.2.2.2.2.1 i (Nat.lt_succ_of_lt hi), ha.2.2.2.2.2.1, ha.2.2.2.2.2.2.1, ha.2.2.2.2.2.2.2⟩, fun s hs => ?_, fun s hs => ?_⟩
    · obtain ⟨t, e1, e2, e3, e4⟩ := c_undo (d := d + 95) (i := 0) ha.1 hs.2.2.2.2.2.1 hs.2.1.1 hou
      have f9 : fr pBC s t := fr_m e4 (fun c i k h => by
        rcases h with h | ⟨rfl, rfl⟩
        · unfold pU at h
          rcases h with ⟨rfl | rfl | rfl, _⟩ | ⟨rfl, _⟩ <;> simp [pBC]
        · simp [pBC])
      refine ⟨t, ?_, CI_gen hs f9 e3 (cRow_fr hs.2.2.2.1 e4 (by simp [pU]) (by intro k; simp [pU])) e2, fr_m f9 (fun _ _ _ => pBC_cls)⟩
      rw [Main_undo_eq, e1, bI_s]
    · obtain ⟨t, e1, e2, e3, e4⟩ := m_undo (d := d + 99) hn hs.2.2.2.2.2.2.1 hs.2.1.1
      have f9 : fr pBR s t := fr_m e4 (fun c i k h => by
        rcases h with ⟨rfl, _⟩ | ⟨rfl, rfl | rfl⟩ <;> simp [pBR, pRQ])
      exact ⟨t, e1, RI_gen hn hs f9 e3 (rRow_fr hs.2.2.2.1 e4 (by omega) (by omega)) e2, fr_m f9 (fun _ _ _ => pBR_ref)⟩
theorem s_keep (ha : AOk ((R, C, kd), (n, S), (L, l), (T, sg), (u, U), K, (q, sq), nh, hq)) (x : Int32) : GsS d f_Main_keep f_Ref_keep [vI x] ((R, C, kd), (n, S), (L, l), (T, sg), (u, U), K, (q, sq), nh, hq) k := by
  have ho : oOkS R C kd n S := ha.2.1
  have hn : n ≤ 4 := ho.1
  cases hx : x_in x 3 with
  | false =>
    refine ⟨ib false, _, ha, fun s hs => ?_, fun s hs => ?_⟩
    · refine ⟨s, ?_, hs, fr_r _ _⟩
      rw [Main_keep_eq, Memory_store_eq]
      by_cases z : x < 0
      · rw [if_pos z, bI_s, nb_0, nb_ib]
      · rw [if_neg z]
        obtain ⟨m, hm, rfl⟩ := nI_of z
        rw [n_in (by omega), decide_eq_false_iff_not] at hx
        rw [nl_3, if_neg (of_eq_false (lt_f (by omega) (by omega))), bI_s, nb_0, nb_ib]
    · refine ⟨wI s 13 0 0 0, ?_, RI_q hn hs (fr_m fr_0 (fun _ _ _ => p0_RQ)) (rRow_fr hs.2.2.2.1 fr_0 (by simp [p0]) (by intro k; simp [p0])), fr_wI (fr_r _ _) (Or.inl rfl)⟩
      rw [Ref_keep_eq, m_in0 (n := 3) _ (by decide), hx, bI_s, if_pos (by decide), nb_0]
  | true =>
    obtain ⟨m, hm, rfl⟩ := (n_in_iff (by omega)).mp hx
    refine ⟨ib true, ((R, C, kd), (n, S), (L, l), (T, sg), (u, U), up K m (some S), (q, sq), nh, hq), ⟨ha.1, ha.2.1, ha.2.2.1, ha.2.2.2.1, ha.2.2.2.2.1, fun i S' hi hS => ?_, ha.2.2.2.2.2.2.1, ha.2.2.2.2.2.2.2⟩, fun s hs => ?_, fun s hs => ?_⟩
    · have hS : up K m (some S) i = some S' := hS
      by_cases e : i = m
      · rw [e, up_s] at hS; cases hS; exact ho
      · rw [up_n e] at hS; exact ha.2.2.2.2.2.1 i S' hi hS
    · obtain ⟨t, e1, e2, e3⟩ := c_store (d := d + 95) ha.1 hs.2.2.2.2.2.2.1 hs.2.1 ho hm
      obtain ⟨a1, a2, a3, a4, a5, a6, a7, a8, a9⟩ := hs
      refine ⟨t, ?_, ⟨cG_fr a1 e3 (by omega) (by omega) (by omega), cO_fr a2 e3 (by omega) (by omega) (by omega) (by omega), cR_fr a3 e3 (by omega) (by omega), cRow_fr a4 e3 (by omega) (by omega), cT_fr a5 e3 (by omega) (by omega), cU_fr a6 e3 (by omega) (by omega) (by omega), e2, cS_fr a8 e3 (by omega) (by omega), cH_fr a9 e3 (by omega) (by omega)⟩, fr_m e3 (fun c i k h => by unfold pCls; omega)⟩
      rw [Main_keep_eq, e1, bI_s, nb_ib]
    · obtain ⟨a1, a2, a3, a4, a5, a6, a7, ⟨ch, c1, c2⟩, a8, a9⟩ := hs
      obtain ⟨t, e1, e2, e3⟩ := m_keep (d := d + 98) hn c2 a2 hm
      exact ⟨t, e1, ⟨rG_fr a1 e3 (by omega) (by omega) (by omega), rO_fr a2 e3 (by omega) (by omega), rR_fr a3 e3 (by omega) (by omega), rRow_fr a4 e3 (by omega) (by omega), by rw [(e3 13 0 38 (by omega)).1]; exact a5, rT_fr a6 e3 (by omega) (by omega), rU_fr hn a7 e3 (by omega) (by omega), ⟨ch, by omega, e2⟩, rS_fr a8 e3 (by omega) (by omega) (by omega) (by omega), rH_fr a9 e3 (by omega) (by omega) (by omega)⟩, fr_m e3 (fun c i k h => by unfold pRef; omega)⟩
theorem s_again (ha : AOk ((R, C, kd), (n, S), (L, l), (T, sg), (u, U), K, (q, sq), nh, hq)) (hk : k < 2000000) (x : Int32) : GsS d f_Main_again f_Ref_again [vI x] ((R, C, kd), (n, S), (L, l), (T, sg), (u, U), K, (q, sq), nh, hq) k := by
  have ho : oOkS R C kd n S := ha.2.1
  have hn : n ≤ 4 := ho.1
  have no : ∀ s, RI s ((R, C, kd), (n, S), (L, l), (T, sg), (u, U), K, (q, sq), nh, hq) k → RI (wI s 13 0 0 0) ((R, C, kd), (n, S), (L, l), (T, sg), (u, U), K, (q, sq), nh, hq) (k + 1) ∧ fr pRef s (wI s 13 0 0 0) := fun s hs => ⟨RI_q hn hs (fr_m fr_0 (fun _ _ _ => p0_RQ)) (rRow_fr hs.2.2.2.1 fr_0 (by simp [p0]) (by intro k; simp [p0])), fr_wI (fr_r _ _) (Or.inl rfl)⟩
  cases hx : x_in x 3 with
  | false =>
    refine ⟨ib false, _, ha, fun s hs => ?_, fun s hs => ?_⟩
    · refine ⟨s, ?_, hs, fr_r _ _⟩
      rw [Main_again_eq, Memory_fetch_eq]
      by_cases z : x < 0
      · rw [if_pos z, bI_s, nb_0, nb_ib]
      · rw [if_neg z]
        obtain ⟨m, hm, rfl⟩ := nI_of z
        rw [n_in (by omega), decide_eq_false_iff_not] at hx
        rw [nl_3, if_neg (of_eq_false (lt_f (by omega) (by omega))), bI_s, nb_0, nb_ib]
    · refine ⟨wI s 13 0 0 0, ?_, (no s hs).1, (no s hs).2⟩
      rw [Ref_again_eq, m_in0 (n := 3) _ (by decide), hx, bI_s, if_pos (by decide), nb_0]
  | true =>
    obtain ⟨m, hm, rfl⟩ := (n_in_iff (by omega)).mp hx
    cases hK : K m with
    | none =>
      refine ⟨ib false, _, ha, fun s hs => ?_, fun s hs => ?_⟩
      · obtain ⟨kb, c1, c2, c3⟩ := hs.2.2.2.2.2.2.1
        have hb := (c3 m hm).1
        have hK' : (((R, C, kd), (n, S), (L, l), (T, sg), (u, U), K, (q, sq), nh, hq) : Ab).2.2.2.2.2.1 m = none := hK
        rw [hK'] at hb
        refine ⟨s, ?_, hs, fr_r _ _⟩
        rw [Main_again_eq, Memory_fetch_eq, if_neg (nI_pos (by omega)), nl_3, if_pos (of_eq_true (lt_t hm (by omega))), c1, if_pos ((j_bit0 (by omega) (by omega)).mpr hb), bI_s, nb_0, nb_ib]
      · obtain ⟨ch, d1, d2⟩ := hs.2.2.2.2.2.2.2.1
        have z := d2.2 m hm
        have hK' : (((R, C, kd), (n, S), (L, l), (T, sg), (u, U), K, (q, sq), nh, hq) : Ab).2.2.2.2.2.1 m = none := hK
        rw [hK'] at z
        refine ⟨wI s 13 0 0 0, ?_, (no s hs).1, (no s hs).2⟩
        rw [Ref_again_eq, m_in0 (n := 3) _ (by decide), hx, bI_s, if_neg (by decide), if_pos rfl, n_cl (by omega), wI_nc (by omega), if_pos rfl, wI_nc (by omega), wI_nk (by omega), d2.1, nb_0]
        rcases z with z | ⟨z, c, hc, z2⟩
        · rw [z, if_pos rfl]
        · rw [z, if_neg (by decide), z2, if_neg (of_eq_false (eq_f (by omega) (by omega) (by omega)))]
    | some S1 =>
      have ho1 : oOkS R C kd n S1 := ha.2.2.2.2.2.1 m S1 hm hK
      refine ⟨ib true, ((R, C, kd), (n, S1), (L, l), (T, sg), (0, U), K, (q, sq), nh, hq), ⟨ha.1, ho1, ha.2.2.1, ha.2.2.2.1, fun i hi => absurd hi (Nat.not_lt_zero i), ha.2.2.2.2.2.1, ha.2.2.2.2.2.2.1, ha.2.2.2.2.2.2.2⟩, fun s hs => ?_, fun s hs => ?_⟩
      · obtain ⟨kb, c1, c2, c3⟩ := hs.2.2.2.2.2.2.1
        have hb := (c3 m hm).1
        have hK' : (((R, C, kd), (n, S), (L, l), (T, sg), (u, U), K, (q, sq), nh, hq) : Ab).2.2.2.2.2.1 m = some S1 := hK
        have hv := (c3 m hm).2 S1 hK'
        rw [hK'] at hb
        obtain ⟨t, e1, e2, e3⟩ := o_unpack (d := d + 95) (i := 0) (n := n) ha.1 hs.2.1.1 ho1
        have f9 : fr pBC s (wI t 4 0 4 0) := fr_wI (fr_m e3 (fun c i k h => by
          unfold pU at h
          rcases h with ⟨rfl | rfl | rfl, _⟩ | ⟨rfl, _⟩ <;> simp [pBC])) (by simp [pBC])
        have f4 : fr (fun c _ _ => c = 4) t (wI t 4 0 4 0) := fr_wI (fr_r _ _) rfl
        refine ⟨wI t 4 0 4 0, ?_, CI_gen hs f9 (cO_fr e2 f4 (by omega) (by omega) (by omega) (by omega)) (cRow_fr (cRow_fr hs.2.2.2.1 e3 (by simp [pU]) (by intro k; simp [pU])) f4 (by omega) (by omega)) ⟨wI_s1 _ _ _ _ _, by omega, fun i hi => absurd hi (Nat.not_lt_zero i)⟩, fr_m f9 (fun _ _ _ => pBC_cls)⟩
        rw [Main_again_eq, Memory_fetch_eq, if_neg (nI_pos (by omega)), nl_3, if_pos (of_eq_true (lt_t hm (by omega))), c1, if_neg (fun z => by rw [(j_bit0 (by omega) (by omega)).mp z] at hb; cases hb), in_t hm (by omega), if_pos rfl, if_pos rfl, n_cl (by omega), hv.1, hv.2, e1, bV_s, bI_s, nb_1, nb_ib]
      · obtain ⟨ch, d1, d2⟩ := hs.2.2.2.2.2.2.2.1
        have z := d2.2 m hm
        have hK' : (((R, C, kd), (n, S), (L, l), (T, sg), (u, U), K, (q, sq), nh, hq) : Ab).2.2.2.2.2.1 m = some S1 := hK
        rw [hK'] at z
        obtain ⟨z1, z2, z3⟩ := z
        obtain ⟨t, k1, k2, k3⟩ := chainE 17 (fun j (t : xS) => Ref_again_L1 (d + 99) (nI m) (nI j) t) (fun j t => (∀ i, i < j → t.1 43 0 i = s.1 73 0 (17 * m + i)) ∧ fr (fun c i k => (c = 43 ∧ i = 0) ∨ (c = 13 ∧ k = 0)) s t) (by
          rintro j t hj ⟨h1, h2⟩
          show ∃ b, Ref_again_L1 (d + 99) (nI m) (nI j) t = Ref_again_L1 (d + 99) (nI m) (nI (j + 1)) b ∧ _
          rw [Ref_again_L1_eq, nl_17, if_pos (of_eq_true (lt_t hj (by omega))), pk_mul, nI_add, in_t (show 17 * m + j < 51 by omega) (by omega), if_pos rfl, in_t hj (by omega), if_pos rfl, n_cl (by omega), n_cl (by omega), (h2 73 0 _ (by omega)).1, nI_1]
          refine ⟨_, rfl, fun i hi => ?_, fr_wI h2 (by omega)⟩
          by_cases e : i = j
          · rw [e, wI_s1]
          · rw [wI_nk e]; exact h1 i (by omega)) 17 0 (wI s 13 0 0 0) (by omega) ⟨fun i hi => by omega, fr_wI (fr_r _ _) (by omega)⟩
        have f9 : fr pBR s (wI t 13 0 26 0) := fr_wI (fr_m k3 (fun c i k h => by rcases h with ⟨rfl, _⟩ | ⟨rfl, rfl⟩ <;> simp [pBR, pRQ])) (by simp [pBR, pRQ])
        have f4 : fr (fun c _ k => c = 13 ∧ k = 26) t (wI t 13 0 26 0) := fr_wI (fr_r _ _) ⟨rfl, rfl⟩
        have hOt : rOS t 0 n S1 := row_rOS (by rw [(k3 13 0 6 (by omega)).1]; exact hs.2.1.1) (rowOk_c hn z3 (fun k hk => k2 k hk))
        refine ⟨wI t 13 0 26 0, ?_, RI_gen hn hs f9 (rO_fr hOt f4 (by omega) (by omega)) (rRow_fr (rRow_fr hs.2.2.2.1 k3 (by omega) (by omega)) f4 (by omega) (by omega)) ⟨wI_s1 _ _ _ _ _, by omega, fun i hi => absurd hi (Nat.not_lt_zero i)⟩, fr_m f9 (fun _ _ _ => pBR_ref)⟩
        have k1' : Ref_again_L1 (d + 99) (nI m) 0 (wI s 13 0 0 0) = Ref_again_L1 (d + 99) (nI m) (nI 17) t := k1
        rw [Ref_again_eq, m_in0 (n := 3) _ (by decide), hx, bI_s, if_neg (by decide), if_pos rfl, n_cl (by omega), wI_nc (by omega), z1, if_neg (by decide), if_pos rfl, wI_nc (by omega), wI_nk (by omega), d2.1, z2, if_pos rfl, k1', Ref_again_L1_eq, nl_17, if_neg (of_eq_false (lt_f (by omega) (by omega))), nb_1]
end ACTS2

/-! walk: the call. -/
section WALKD
variable {d k : Nat} {R C n T u q nh : Nat} {kd : Nat → Nat} {S S' : Sn} {L : List Nat} {l l' : List Int64} {sg : Nat → Nat} {U U' : Nat → Sn} {K : Nat → Option Sn} {sq : Nat → Nat × Nat × Nat} {hq : Nat → Nat × Nat} {s t : xS} {p E y u' : Nat}
def pBCt (c i k : Nat) : Prop := pBC c i k ∨ (c = 1 ∧ k = 1)
def pBRt (c i k : Nat) : Prop := pBR c i k ∨ (c = 13 ∧ k = 11)
theorem CI_gent (h : CI s ((R, C, kd), (n, S), (L, l), (T, sg), (u, U), K, (q, sq), nh, hq)) (f : fr pBCt s t) (h0 : t.1 1 0 1 = 0) (h1 : cOS t 0 n S') (h2 : cRow t l') (h3 : cU t n u' U') : CI t ((R, C, kd), (n, S'), (L, l'), (0, sg), (u', U'), K, (q, sq), nh, hq) := by
  obtain ⟨a1, a2, a3, a4, a5, a6, a7, a8, a9⟩ := h
  exact ⟨cG_fr a1 f (by intro k; simp [pBCt, pBC, pCQ]) (by intro k; simp [pBCt, pBC, pCQ]) (by intro k; simp [pBCt, pBC, pCQ]), h1, cR_fr a3 f (by simp [pBCt, pBC, pCQ]) (by intro k; simp [pBCt, pBC, pCQ]), h2, ⟨h0, fun k hk => absurd hk (Nat.not_lt_zero k)⟩, h3, cK_fr a7 f (by simp [pBCt, pBC, pCQ]) (by intro k; simp [pBCt, pBC, pCQ]) (by intro k; simp [pBCt, pBC, pCQ]), cS_fr a8 f (by simp [pBCt, pBC, pCQ]) (by intro k; simp [pBCt, pBC, pCQ]), cH_fr a9 f (by simp [pBCt, pBC, pCQ]) (by intro k; simp [pBCt, pBC, pCQ])⟩
theorem RI_gent (hn : n ≤ 4) (h : RI s ((R, C, kd), (n, S), (L, l), (T, sg), (u, U), K, (q, sq), nh, hq) k) (f : fr pBRt s t) (h0 : t.1 13 0 11 = 0) (h1 : rOS t 0 n S') (h2 : rRow t l') (h3 : rU t n u' U') : RI t ((R, C, kd), (n, S'), (L, l'), (0, sg), (u', U'), K, (q, sq), nh, hq) (k + 1) := by
  obtain ⟨a1, a2, a3, a4, a5, a6, a7, ⟨ch, c1, c2⟩, a8, a9⟩ := h
  exact ⟨rG_fr a1 f (by simp [pBRt, pBR, pRQ]) (by simp [pBRt, pBR, pRQ]) (by intro k; simp [pBRt, pBR, pRQ]), h1, rR_fr a3 f (by simp [pBRt, pBR, pRQ]) (by intro k; simp [pBRt, pBR, pRQ]), h2, by rw [(f 13 0 38 (by simp [pBRt, pBR, pRQ])).1]; exact a5, ⟨h0, fun k hk => absurd hk (Nat.not_lt_zero k)⟩, h3, ⟨ch, by omega, rK_fr hn c2 f (by simp [pBRt, pBR, pRQ]) (by intro k; simp [pBRt, pBR, pRQ]) (by intro k; simp [pBRt, pBR, pRQ]) (by intro k; simp [pBRt, pBR, pRQ])⟩, rS_fr a8 f (by simp [pBRt, pBR, pRQ]) (by intro k; simp [pBRt, pBR, pRQ]) (by intro k; simp [pBRt, pBR, pRQ]) (by intro k; simp [pBRt, pBR, pRQ]), rH_fr a9 f (by simp [pBRt, pBR, pRQ]) (by intro k; simp [pBRt, pBR, pRQ]) (by intro k; simp [pBRt, pBR, pRQ])⟩
theorem pBCt_cls {c i k : Nat} (h : pBCt c i k) : pCls c i k := by
  rcases h with h | h
  · exact pBC_cls h
  · unfold pCls; omega
theorem pBRt_ref {c i k : Nat} (h : pBRt c i k) : pRef c i k := by
  rcases h with h | h
  · exact pBR_ref h
  · unfold pRef; omega
def pRw (c _i k : Nat) : Prop := (c = 13 ∧ (k = 0 ∨ k = 11 ∨ k = 12 ∨ k = 13 ∨ k = 14 ∨ k = 33)) ∨ c = 51 ∨ c = 52 ∨ c = 53
theorem pRw_t {c i k : Nat} (h : pRw c i k) : pBRt c i k := by
  unfold pRw at h
  rcases h with ⟨rfl, rfl | rfl | rfl | rfl | rfl | rfl⟩ | rfl | rfl | rfl <;> simp [pBRt, pBR, pRQ]
theorem pWk_t {c i k : Nat} (h : pWk c i k) : pBCt c i k := by
  rcases h with h | ⟨rfl, rfl⟩
  · exact Or.inl (pOc_BC h)
  · simp [pBCt, pBC, pCQ]
theorem pT1_t {c i k : Nat} (h : c = 1 ∧ 2 ≤ k) : pBCt c i k := by
  obtain ⟨rfl, h⟩ := h
  simp [pBCt, pBC, pCQ, h]
theorem s_walk (ha : AOk ((R, C, kd), (n, S), (L, l), (T, sg), (u, U), K, (q, sq), nh, hq)) (hu : u ≤ 15) : GsS d f_Main_walk f_Ref_walk [] ((R, C, kd), (n, S), (L, l), (T, sg), (u, U), K, (q, sq), nh, hq) k := by
  have hn : n ≤ 4 := ha.2.1.1
  have ho : oOkS R C kd n S := ha.2.1
  have ht : tOk T sg := ha.2.2.2.1
  have hL : wfL (ruL L) 0 := ha.2.2.1
  have h80 := ht.1
  have ht0 : tOk 0 sg := ⟨Nat.zero_le _, fun k hk => absurd hk (Nat.not_lt_zero k)⟩
  have haF : AOk ((R, C, kd), (n, S), (L, l), (0, sg), (u, U), K, (q, sq), nh, hq) := ⟨ha.1, ha.2.1, ha.2.2.1, ht0, ha.2.2.2.2⟩
  obtain ⟨E, hE⟩ : ∃ E, E = min T 60 := ⟨_, rfl⟩
  have hET : E ≤ T := by omega
  have hE6 : E ≤ 60 := by omega
  have hop : ∀ {s : xS}, cT s T sg → ∃ t, ev (d + 99) f_Text_open [vR 1 0, vI 60] s = some (none, t) ∧ ev (d + 98) f_Text_open [vR 1 0, vI 60] s = some (none, t) ∧ cX t T sg E 0 ∧ fr (fun c _ k => c = 1 ∧ 2 ≤ k) s t := fun {s} hs => by
    obtain ⟨a, o1, o2, o3⟩ := c_openN (d := d + 96) (N := 60) (by omega) hs ht
    rw [← hE] at o2
    refine ⟨a, ?_, o1, o2, o3⟩
    have e1 : ev (d + 99) f_Text_open [vR 1 0, vI 60] s = ev (d + 98) f_Text_open [vR 1 0, vI 60] s := by
      rw [Text_open_eq, Text_open_eq, min_s, min_s]
    rw [e1]; exact o1
  have hc : ∀ s, CI s ((R, C, kd), (n, S), (L, l), (T, sg), (u, U), K, (q, sq), nh, hq) → ∃ t, ev (d + 99) f_Main_readsWalk [vR 0 0] s = some (some (vI (ib (awX sg T E (E + 1) 0).2.isSome)), t) ∧ cX t T sg E (awX sg T E (E + 1) 0).1 ∧ fr (fun c _ k => c = 1 ∧ 2 ≤ k) s t := fun s hs => by
    obtain ⟨a, _, o1', o2, o3⟩ := hop hs.2.2.2.2.1
    obtain ⟨t, t1, t2, t3⟩ := c_reads (d := d + 93) hE6 (E + 1) 0 0 a o2 (by omega) (by omega)
    have t1' : Main_readsWalk_L1 (d + 98) 0 a = some (some (vI (ib (awX sg T E (E + 1) 0).2.isSome)), t) := t1
    refine ⟨t, ?_, t2, fr_t o3 (fr_m t3 (by omega))⟩
    rw [Main_readsWalk_eq, o1', bV_s, t1']
  have hm : ∀ s, RI s ((R, C, kd), (n, S), (L, l), (T, sg), (u, U), K, (q, sq), nh, hq) k → ∃ a, ev (d + 100) f_Ref_walk [vR 13 0] s = Ref_walk_L1 (d + 99) (nI T) 1 a ∧ rX a sg E 0 ∧ a.1 13 0 33 = nI 0 ∧ a.1 13 0 11 = 0 ∧ fr pRw s a := fun s hs => by
    obtain ⟨a, o1, o2, o3, o4⟩ := m_beginsN (d := d + 97) (N := 60) (by omega) hs.2.2.2.2.2.1 ht
    have o1' : ev (d + 99) f_Ref_begins [vR 13 0, vI 60] (wI s 13 0 0 0) = some (some (vI (nI T)), a) := o1
    rw [← hE] at o2
    have f1 : fr (fun c _ k => c = 13 ∧ k = 33) a (wI a 13 0 33 0) := fr_wI (fr_r _ _) ⟨rfl, rfl⟩
    refine ⟨wI a 13 0 33 0, ?_, rX_fr o2 f1 (by omega) (by omega) (by omega), wI_s1 _ _ _ _ _, by rw [wI_nk (by omega)]; exact o3, fr_wI (fr_m o4 (fun c i k h => by unfold pTx at h; unfold pRw; omega)) (by simp [pRw])⟩
    rw [Ref_walk_eq, o1', bI_s]
  have fy : ∀ {a b : xS}, fr (pAy 0) a b → fr pRw a b := fun f => fr_m f (fun c i k h => by unfold pAy at h; unfold pRw; omega)
  cases hw : (awX sg T E (E + 1) 0).2 with
  | none =>
    refine ⟨(-1) - nI (awX sg T E (E + 1) 0).1, _, haF, fun s hs => ?_, fun s hs => ?_⟩
    · obtain ⟨t, t1, t2, t3⟩ := hc s hs
      rw [hw] at t1
      refine ⟨wI t 1 0 1 0, ?_, CI_fail hs t3⟩
      rw [Main_walk_eq, t1, bI_s, if_pos (by rfl), Text_close_eq, t2.2.2.1, bI_s]
    · obtain ⟨a, e1, e2, e3, e4, e5⟩ := hm s hs
      obtain ⟨t, t1, t2, t3⟩ := m_reads (d := d + 89) hE h80 (E + 1) 0 0 a e2 (by omega) (by omega) e3
      rw [hw] at t3
      have t3 : Ref_walk_L1 (d + 99) (nI T) 1 a = some (some (vI ((-1) - nI (awX sg T E (E + 1) 0).1)), t) := t3
      have ft : fr pRw s t := fr_t e5 (fy t2)
      exact ⟨t, by rw [e1, t3], RI_gent hn hs (fr_m ft (fun _ _ _ => pRw_t)) (by rw [(t2 13 0 11 (by simp [pAy])).1]; exact e4) (rO_fr hs.2.1 ft (by simp [pRw]) (by simp [pRw])) (rRow_fr hs.2.2.2.1 ft (by simp [pRw]) (by simp [pRw])) (rU_fr hn hs.2.2.2.2.2.2.1 ft (by simp [pRw]) (by simp [pRw])), fr_m ft (fun _ _ _ h => pBRt_ref (pRw_t h))⟩
  | some as =>
    obtain ⟨r, hr⟩ : ∃ r, runX R C kd n L as S = r := ⟨_, rfl⟩
    have hro : oOkS R C kd n r.2.2 := by rw [← hr]; exact runX_ok ha.1 as S ho
    obtain ⟨x, hx⟩ : ∃ x : Int32, (if 0 < r.1 then 0 else -1) = x := ⟨_, rfl⟩
    have hsm : smN (fun p => pc (r.2.2.2.2.1 p)) n < 2147483648 := by
      have : ∀ m, m ≤ 4 → smN (fun p => pc (r.2.2.2.2.1 p)) m ≤ 64 * m := by
        intro m
        induction m with
        | zero => exact fun _ => Nat.le_refl _
        | succ m ih =>
          intro hm
          have h1 := ih (by omega)
          have h2 := pc_le (r.2.2.2.2.1 m)
          show smN (fun p => pc (r.2.2.2.2.1 p)) m + pc (r.2.2.2.2.1 m) ≤ _
          omega
      have := this n hn
      omega
    have hfl : (ib r.2.1).toInt64 = lN (b1 r.2.1) := by cases r.2.1 <;> rfl
    refine ⟨nI r.1, ((R, C, kd), (n, r.2.2), (L, [lN (b1 r.2.1), lN (smN (fun p => pc (r.2.2.2.2.1 p)) n)]), (0, sg), undU x u U S, K, (q, sq), nh, hq), ?_, fun s hs => ?_, fun s hs => ?_⟩
    · exact AOk_S (l' := [lN (b1 r.2.1), lN (smN (fun p => pc (r.2.2.2.2.1 p)) n)]) haF hu hro x
    · obtain ⟨a, t1, t2, t3⟩ := hc s hs
      rw [hw] at t1
      have hOa := cO_fr hs.2.1 t3 (by omega) (by omega) (by omega) (by omega)
      have hmk := c_mark (d := d + 95) ha.1 hOa ho
      obtain ⟨b, eb⟩ : ∃ b, wI (wL a 4 0 6 (lN (pck n S))) 4 0 7 S.2.2.2.2 = b := ⟨_, rfl⟩
      have fb : fr (fun c _ k => c = 4 ∧ (k = 6 ∨ k = 7)) a b := by rw [← eb]; exact fr_wI (fr_wL (fr_r _ _) (by omega)) (by omega)
      rw [eb] at hmk
      have b6 : b.2 4 0 6 = lN (pck n S) := by rw [← eb, wI_s2, wL_s2]
      have b7 : b.1 4 0 7 = S.2.2.2.2 := by rw [← eb, wI_s1]
      obtain ⟨c, o1, _, o2, o3⟩ := hop (cT_fr t2.1 fb (by omega) (by omega))
      have fc : fr (fun c _ k => (c = 1 ∧ 2 ≤ k) ∨ (c = 4 ∧ (k = 6 ∨ k = 7))) s c := fr_t (fr_m t3 (by omega)) (fr_t (fr_m fb (by omega)) (fr_m o3 (by omega)))
      obtain ⟨v, v1, v2, v3⟩ := c_run (d := d + 92) hE6 hL (E + 1) 0 0 0 S c as hw o2 (by omega) (cG_fr hs.1 fc (by omega) (by omega) (by omega)) (cO_fr hs.2.1 fc (by omega) (by omega) (by omega) (by omega)) ho (cR_fr hs.2.2.1 fc (by omega) (by omega))
      rw [hr, Nat.zero_add] at v1
      rw [hr] at v2
      have v1' : Main_walk_L1 (d + 99) 0 0 0 c = Main_walk_J3 (d + 99) (nI r.1) (ib r.2.1) v := v1
      obtain ⟨w, ew⟩ : ∃ w, wI v 1 0 1 0 = w := ⟨_, rfl⟩
      have fw : fr (fun c _ k => c = 1 ∧ k = 1) v w := by rw [← ew]; exact fr_wI (fr_r _ _) ⟨rfl, rfl⟩
      have w0 : w.1 1 0 1 = 0 := by rw [← ew, wI_s1]
      have w6 : w.2 4 0 6 = lN (pck n S) := by rw [(fw 4 0 6 (by omega)).2, (v3 4 0 6 (by simp [pWk, pOc, pE])).2, (o3 4 0 6 (by omega)).2]; exact b6
      have w7 : w.1 4 0 7 = S.2.2.2.2 := by rw [(fw 4 0 7 (by omega)).1, (v3 4 0 7 (by simp [pWk, pOc, pE])).1, (o3 4 0 7 (by omega)).1]; exact b7
      have fcw : fr pBCt s w := fr_t (fr_m fc (fun c i k h => by
        rcases h with h | ⟨rfl, rfl | rfl⟩
        · exact pT1_t h
        · simp [pBCt, pBC, pCQ]
        · simp [pBCt, pBC, pCQ])) (fr_t (fr_m v3 (fun _ _ _ => pWk_t)) (fr_m fw (fun c i k h => Or.inr h)))
      have hOw : cOS w 0 n r.2.2 := cO_fr v2 fw (by omega) (by omega) (by omega) (by omega)
      have hUw : cU w n u U := cU_fr (cU_fr (cU_fr hs.2.2.2.2.2.1 fc (by omega) (by omega) (by omega)) v3 (by simp [pWk, pOc, pE]) (by intro k; simp [pWk, pOc, pE]) (by intro k; simp [pWk, pOc, pE])) fw (by omega) (by omega) (by omega)
      obtain ⟨e, g1, g2, g3⟩ : ∃ e, Main_walk_J3 (d + 99) (nI r.1) (ib r.2.1) v = Main_walk_J4 (d + 99) (nI r.1) (lN (b1 r.2.1)) e ∧ cU e n (undU x u U S).1 (undU x u U S).2 ∧ fr pM w e := by
        have hf : ∀ e, (if ib r.2.1 = 0 then Main_walk_J4 (d + 99) (nI r.1) 0 e else Main_walk_J4 (d + 99) (nI r.1) 1 e) = Main_walk_J4 (d + 99) (nI r.1) (lN (b1 r.2.1)) e := fun e => by
          cases r.2.1 <;> rfl
        rw [Main_walk_J3_eq, Text_close_eq, bI_s, ew]
        by_cases z : 0 < r.1
        · have hz : (0 : Int32) < nI r.1 := of_eq_true (lt_t (a := 0) z (by have := (runX_le (R := R) (C := C) (kd := kd) (n := n) (L := L) as S).1; rw [hr] at this; have hl := awX_len sg T E (E + 1) 0 as hw; omega))
          obtain ⟨e, e1, e2, e3⟩ := c_addMarked (d := d + 90) hUw w6 w7
          refine ⟨e, ?_, ?_, e3⟩
          · rw [if_pos hz, e1, bV_s, hf]
          · rw [← hx, if_pos z]; exact e2
        · have hz : ¬ (0 : Int32) < nI r.1 := by rw [show r.1 = 0 by omega]; decide
          refine ⟨w, ?_, ?_, fr_r _ _⟩
          · rw [if_neg hz, hf]
          · rw [← hx, if_neg z]; exact hUw
      obtain ⟨t, k1, k2, k3⟩ := n_tellTwo (d := d + 96) (s := e) (x := lN (b1 r.2.1)) (y := lN (smN (fun p => pc (r.2.2.2.2.1 p)) n))
      have hOe : cOS e 0 n r.2.2 := cO_fr hOw g3 (by intro k; simp [pM]) (by intro k; simp [pM]) (by intro k; simp [pM]) (by intro k; simp [pM])
      have ff : fr pBCt s t := fr_t fcw (fr_t (fr_m g3 (fun _ _ _ h => Or.inl (pM_BC h))) (fr_m k3 (fun _ _ _ h => Or.inl (pN_BC h))))
      refine ⟨t, ?_, CI_gent hs ff ?_ ?_ k2 ?_, fr_m ff (fun _ _ _ => pBCt_cls)⟩
      · rw [Main_walk_eq, t1, bI_s, if_neg (by intro z; cases z), hmk, bV_s, o1, bV_s, v1', g1, Main_walk_J4_eq, o_countViews hOe hn (fun p hp => (hro.2.2.1 p hp).2.2.2), bI_s, nI_l hsm, k1, bV_s]
      · rw [(k3 1 0 1 (by simp [pN])).1, (g3 1 0 1 (by simp [pM])).1]; exact w0
      · exact cO_fr hOe k3 (by intro k; simp [pN]) (by intro k; simp [pN]) (by intro k; simp [pN]) (by intro k; simp [pN])
      · exact cU_fr g2 k3 (by simp [pN]) (by intro k; simp [pN]) (by intro k; simp [pN])
    · obtain ⟨a, e1, e2, e3, e4, e5⟩ := hm s hs
      obtain ⟨b, t1, t2, t3⟩ := m_reads (d := d + 89) hE h80 (E + 1) 0 0 a e2 (by omega) (by omega) e3
      rw [hw] at t3
      obtain ⟨t3, t4, t5, t6⟩ := t3
      rw [Nat.zero_add] at t4 t5
      have t3 : Ref_walk_L1 (d + 99) (nI T) 1 a = bV (ev (d + 99) f_Ref_putsBy [vR 13 0] b) fun s7 => Ref_walk_L3 (d + 99) 0 s7 := t3
      have fb : fr pRw s b := fr_t e5 (fy t2)
      have hOb := rO_fr hs.2.1 fb (by simp [pRw]) (by simp [pRw])
      obtain ⟨c, p1, p2, p3⟩ := m_putsBy (d := d + 98) hn (rU_fr hn hs.2.2.2.2.2.2.1 fb (by simp [pRw]) (by simp [pRw])) hOb
      have hOc : rOS c 0 n S := rO_fr hOb p3 (by omega) (by omega)
      obtain ⟨v, v1, v2, v3⟩ := m_run (d := d + 89) hL as S 0 c (fun k hk => acR_fr (t6 k hk) p3 (by omega) (by omega) (by omega)) (by rw [(p3 13 0 33 (by omega)).1, t4, Nat.zero_add]) (by omega) (rG_fr (rG_fr hs.1 fb (by simp [pRw]) (by simp [pRw]) (by simp [pRw])) p3 (by omega) (by omega) (by omega)) hOc ho (rR_fr (rR_fr hs.2.2.1 fb (by simp [pRw]) (by simp [pRw])) p3 (by omega) (by omega))
      rw [hr, Nat.zero_add] at v1
      rw [hr] at v2
      have v1' : Ref_walk_L3 (d + 99) 0 c = Ref_walk_J4 (d + 99) (nI r.1) v := v1
      have v33 : v.1 13 0 33 = nI as.length := by rw [(v3 13 0 33 (by simp [pOr, pF])).1, (p3 13 0 33 (by omega)).1, t4]
      have hle := runX_le (R := R) (C := C) (kd := kd) (n := n) (L := L) as S
      rw [hr] at hle
      have hPv : rP v n u U S := rP_or hn p2 v3
      obtain ⟨w1, w2, g1, g2, g3, g4, g5⟩ := m_ent2 (d + 98) v (lN (b1 r.2.1)) (lN (smN (fun p => pc (r.2.2.2.2.1 p)) n))
      have hO1 : rOS w1 0 n r.2.2 := rO_fr v2 g2 (by simp [pT]) (by intro k; simp [pT])
      have hO2 : rOS w2 0 n r.2.2 := rO_fr v2 g5 (by simp [pT]) (by intro k; simp [pT])
      have hP2 : rP w2 n u U S := rP_fr hn hPv g5 (by simp [pT]) (by intro k; simp [pT])
      have hJ : Ref_walk_J4 (d + 99) (nI r.1) v = if (0 : Int32) < nI r.1 then bI (ev (d + 99) f_Ref_adds [vR 13 0, vI (nI r.1)] w2) fun r17 s16 => some (some (vI r17), s16) else some (some (vI 0), w2) := by
        have hJ5 : ∀ x : Bool, x = r.2.1 → Ref_walk_J5 (d + 99) (nI r.1) (ib x) (wI v 13 0 1 0) = if (0 : Int32) < nI r.1 then bI (ev (d + 99) f_Ref_adds [vR 13 0, vI (nI r.1)] w2) fun r17 s16 => some (some (vI r17), s16) else some (some (vI 0), w2) := fun x hx => by
          rw [Ref_walk_J5_eq, m_flag, bI_s, hx, hfl, g1, bV_s, m_views hO1 hro, bI_s, nI_l hsm, g3, bV_s]
        rw [Ref_walk_J4_eq, v33]
        by_cases z : r.1 < as.length
        · rw [if_pos (of_eq_true (lt_t z (by omega)))]
          exact hJ5 true (by rw [← hle.2, decide_eq_true z])
        · rw [if_neg (of_eq_false (lt_f (by omega) (by omega)))]
          exact hJ5 false (by rw [← hle.2, decide_eq_false z])
      have fw2 : fr pBRt s w2 := fr_t (fr_m fb (fun _ _ _ => pRw_t)) (fr_t (fr_m p3 (fun c i k h => by subst h; simp [pBRt, pBR])) (fr_t (fr_m v3 (fun _ _ _ h => Or.inl (pAcR_BR (Or.inl h)))) (fr_m g5 (fun _ _ _ h => Or.inl (Or.inl (pT_RQ h))))))
      have h11 : w2.1 13 0 11 = 0 := by rw [(g5 13 0 11 (by simp [pT])).1, (v3 13 0 11 (by simp [pOr, pF])).1, (p3 13 0 11 (by omega)).1, (t2 13 0 11 (by simp [pAy])).1]; exact e4
      by_cases z : 0 < r.1
      · have hz : (0 : Int32) < nI r.1 := of_eq_true (lt_t (a := 0) z (by omega))
        obtain ⟨t, k1, k2, k3⟩ := m_adds (d := d + 98) (x := nI r.1) hn hP2
        have ff : fr pBRt s t := fr_t fw2 (fr_m k3 (fun c i k h => Or.inl (pAcR_BR (Or.inr (Or.inl h)))))
        rw [if_pos hz] at hJ
        refine ⟨t, by rw [e1, t3, p1, bV_s, v1', hJ, k1, bI_s], RI_gent hn hs ff (by rw [(k3 13 0 11 (by simp [pAd])).1]; exact h11) (rO_fr hO2 k3 (by simp [pAd]) (by intro k; simp [pAd])) (rRow_fr g4 k3 (by simp [pAd]) (by intro k; simp [pAd])) ?_, fr_m ff (fun _ _ _ => pBRt_ref)⟩
        rw [← hx, if_pos z]; exact k2
      · have hz : ¬ (0 : Int32) < nI r.1 := by rw [show r.1 = 0 by omega]; decide
        rw [if_neg hz] at hJ
        refine ⟨w2, ?_, RI_gent hn hs fw2 h11 hO2 g4 ?_, fr_m fw2 (fun _ _ _ => pBRt_ref)⟩
        · rw [e1, t3, p1, bV_s, v1', hJ, show r.1 = 0 by omega]; rfl
        · rw [← hx, if_neg z]; exact hP2.1
end WALKD

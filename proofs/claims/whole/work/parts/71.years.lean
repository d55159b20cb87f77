/-! years. -/
section YEARS
variable {d k : Nat} {R C n T u q nh : Nat} {kd : Nat → Nat} {S S' : Sn} {L : List Nat} {l l' : List Int64} {sg : Nat → Nat} {U : Nat → Sn} {K : Nat → Option Sn} {sq : Nat → Nat × Nat × Nat} {hq : Nat → Nat × Nat} {s t : xS} {x y z : Int32}
variable {fd : Int32 → Int32} {dr : Int32 → Int32 → Int32}
/-- one drawn act: the outing, the seed, views formed -/
def yrA (fd : Int32 → Int32) (dr : Int32 → Int32 → Int32) (R C : Nat) (kd : Nat → Nat) (n : Nat) (L : List Nat) (S : Sn) (z : Int32) : Sn × Int32 × Nat :=
  if dr z 4 = 3 then ((pasN R C kd n L 1 (S, 0, 0)).1, fd z, (pasN R C kd n L 1 (S, 0, 0)).2.2)
  else if n = 0 then (S, fd z, 0)
  else if dr z 4 = 2 then ((losX n S true (dr (fd z) (nI n))).2, fd (fd z), 0)
  else ((pushX R C kd n L S (dr (fd z) (nI n)) (dr (fd (fd z)) 4)).2.1, fd (fd (fd z)), (pushX R C kd n L S (dr (fd z) (nI n)) (dr (fd (fd z)) 4)).2.2)
theorem yrA_ok (hG : gOk R C kd) (ho : oOkS R C kd n S) (z : Int32) : oOkS R C kd n (yrA fd dr R C kd n L S z).1 := by
  unfold yrA
  by_cases h3 : dr z 4 = 3
  · rw [if_pos h3]; exact pasN_ok (z := (S, 0, 0)) hG ho 1
  · rw [if_neg h3]
    by_cases hn : n = 0
    · rw [if_pos hn]; exact ho
    · rw [if_neg hn]
      by_cases h2 : dr z 4 = 2
      · rw [if_pos h2]; exact losX_ok ho
      · rw [if_neg h2]; exact pushX_ok hG ho
theorem push_pc (hG : gOk R C kd) (ho : oOkS R C kd n S) : ∃ b, b < 64 ∧ (if (0 : Int32) < (pushX R C kd n L S x y).1 then (pushX R C kd n L S x y).1 else 0) = nI b ∧ (pushX R C kd n L S x y).2.2 = pc b := by
  unfold pushX
  cases hc : (x_in x n && x_in y 4) with
  | false => exact ⟨0, by decide, rfl, rfl⟩
  | true =>
    rw [Bool.and_eq_true] at hc
    have hn := ho.1
    obtain ⟨p, hp, rfl⟩ := (n_in_iff (by omega)).mp hc.1
    obtain ⟨w, hw, rfl⟩ := (n_in_iff (by omega)).mp hc.2
    rw [cond_true, n_cl (by omega), n_cl (by omega)]
    unfold pushR
    cases S.2.2.2.1.testBit p with
    | true => exact ⟨0, by decide, rfl, rfl⟩
    | false =>
      rw [cond_false]
      cases e : nxt R C kd (S.1 p) w with
      | none => exact ⟨0, by decide, rfl, rfl⟩
      | some g =>
        have h64 := lookB_lt (L := L) (p := p) (S := goS S p g w) hG (goS_ok ho (nxt_lt hG (ho.2.2.1 p hp).1 hw e) hw) hp
        refine ⟨lookB R C kd n L (goS S p g w) p, h64, ?_, rfl⟩
        show (if (0 : Int32) < nI (lookB R C kd n L (goS S p g w) p) then nI (lookB R C kd n L (goS S p g w) p) else 0) = _
        by_cases h0 : lookB R C kd n L (goS S p g w) p = 0
        · rw [h0]; rfl
        · rw [if_pos (show (0 : Int32) < _ from of_eq_true (lt_t (a := 0) (by omega) (by omega)))]
theorem c_draw (hfd : ∀ z, fd z = z * 1103515245 + 12345) (hdr : ∀ z m, dr z m = jrem (jushr (fd z) 16) m) (hz : s.1 7 0 5 = z) (hx : (0 : Int32) < x) (h0 : ¬ x = 0) : ev (d + 1) f_Deeds_draw [vR 7 0, vI x] s = some (some (vI (dr z x)), wI s 7 0 5 (fd z)) := by
  rw [Deeds_draw_eq, if_pos hx, if_neg h0, hz, hdr, hfd]
theorem c_act (hfd : ∀ z, fd z = z * 1103515245 + 12345) (hdr : ∀ z m, dr z m = jrem (jushr (fd z) 16) m) (hG : cG s R C kd) (hO : cOS s 1 n S) (ho : oOkS R C kd n S) (hR : cR s 0 (ruL L)) (hL : wfL (ruL L) 0) (hz : s.1 7 0 5 = z) : ∃ t, ev (d + 8) f_Deeds_drawnAct [vR 7 0, vR 3 1] s = some (some (vI (nI (yrA fd dr R C kd n L S z).2.2)), t) ∧ cOS t 1 n (yrA fd dr R C kd n L S z).1 ∧ t.1 7 0 5 = (yrA fd dr R C kd n L S z).2.1 ∧ fr pCQ s t := by
  have hn := ho.1
  have f7 : ∀ {a : xS} {y : Int32}, fr (fun c _ k => c = 7 ∧ k = 5) a (wI a 7 0 5 y) := fun {a y} => fr_wI (fr_r _ _) ⟨rfl, rfl⟩
  have c7 : ∀ {a b : xS}, fr (fun c _ k => c = 7 ∧ k = 5) a b → fr pCQ a b := fun f => fr_m f (fun c i k h => by obtain ⟨rfl, _⟩ := h; simp [pCQ])
  have kG : ∀ {a b : xS}, cG a R C kd → fr (fun c _ k => c = 7 ∧ k = 5) a b → cG b R C kd := fun h f => cG_fr h f (by omega) (by omega) (by omega)
  have kO : ∀ {a b : xS} {S : Sn}, cOS a 1 n S → fr (fun c _ k => c = 7 ∧ k = 5) a b → cOS b 1 n S := fun h f => cO_fr h f (by omega) (by omega) (by omega) (by omega)
  have kR : ∀ {a b : xS}, cR a 0 (ruL L) → fr (fun c _ k => c = 7 ∧ k = 5) a b → cR b 0 (ruL L) := fun h f => cR_fr h f (by omega) (by omega)
  have pc1 : ∀ {a b : xS}, fr (pOc 1) a b → fr pCQ a b := fun f => fr_m f (fun c i k h => by
    unfold pOc at h
    rcases h with h | ⟨rfl | rfl | rfl, rfl⟩ | ⟨rfl, rfl, _⟩ | ⟨rfl, _⟩
    · exact pE_CQ h
    all_goals simp [pCQ])
  rw [Deeds_drawnAct_eq, c_draw hfd hdr hz (by decide) (by decide), bI_s]
  unfold yrA
  by_cases h3 : dr z 4 = 3
  · rw [if_pos h3, if_pos h3]
    obtain ⟨t, e1, e2, e3, e4, e5⟩ := c_pass (d := d + 1) (m := 1) (kG hG (f7 (y := fd z))) (kO hO f7) ho (kR hR f7) hL (by omega)
    have e1' : ev (d + 7) f_Deeds_pass [vR 7 0, vR 3 1, vI 1] (wI s 7 0 5 (fd z)) = _ := e1
    rw [e1', bI_s, e5]
    exact ⟨t, rfl, e2, by rw [(e3 7 0 5 (by simp [pOc, pE])).1, wI_s1], fr_t (c7 f7) (pc1 e3)⟩
  · rw [if_neg h3, if_neg h3, wI_nc (by omega), hO.1]
    by_cases hn0 : n = 0
    · rw [if_pos hn0, if_pos (show nI n = 0 by rw [hn0]; rfl)]
      exact ⟨_, rfl, kO hO f7, wI_s1 _ _ _ _ _, c7 f7⟩
    · have hnz : ¬ nI n = 0 := of_eq_false (eq_f (b := 0) hn0 (by omega) (by omega))
      rw [if_neg hn0, if_neg hnz, c_draw hfd hdr (wI_s1 _ _ _ _ _) (show (0 : Int32) < nI n from of_eq_true (lt_t (a := 0) (by omega) (by omega))) hnz, bI_s]
      have f75 : fr (fun c _ k => c = 7 ∧ k = 5) s (wI (wI s 7 0 5 (fd z)) 7 0 5 (fd (fd z))) := fr_t f7 f7
      by_cases h2 : dr z 4 = 2
      · rw [if_pos h2, if_pos h2]
        obtain ⟨t, e1, e2, e3⟩ := c_letGo (d := d + 3) (kO hO f75) ho (dr (fd z) (nI n))
        rw [e1, bI_s]
        exact ⟨t, rfl, e2, by rw [(e3 7 0 5 (by simp [pOc, pE])).1, wI_s1], fr_t (c7 f75) (pc1 e3)⟩
      · rw [if_neg h2, if_neg h2, c_draw hfd hdr (wI_s1 _ _ _ _ _) (by decide) (by decide), bI_s]
        have f76 : fr (fun c _ k => c = 7 ∧ k = 5) s (wI (wI (wI s 7 0 5 (fd z)) 7 0 5 (fd (fd z))) 7 0 5 (fd (fd (fd z)))) := fr_t f75 f7
        obtain ⟨t, e1, e2, e3⟩ := c_shove (d := d + 2) (kG hG f76) (kO hO f76) ho (kR hR f76) hL (dr (fd z) (nI n)) (dr (fd (fd z)) 4)
        obtain ⟨b, b1, b2, b3⟩ := push_pc (L := L) (x := dr (fd z) (nI n)) (y := dr (fd (fd z)) 4) hG.1 ho
        have hm : ev (d + 7) f_Math_max [vI 0, vI (pushX R C kd n L S (dr (fd z) (nI n)) (dr (fd (fd z)) 4)).1] t = some (some (vI (nI b)), t) := by
          rw [Math_max_eq, ← b2]
          by_cases y : (0 : Int32) < (pushX R C kd n L S (dr (fd z) (nI n)) (dr (fd (fd z)) 4)).1
          · rw [if_pos y, if_pos y]
          · rw [if_neg y, if_neg y]
        rw [e1, bI_s, hm, bI_s, bc_s b1, bI_s, ← b3]
        exact ⟨t, rfl, e2, by rw [(e3 7 0 5 (by simp [pOc, pE])).1, wI_s1], fr_t (c7 f76) (pc1 e3)⟩
theorem m_draw (hfd : ∀ z, fd z = z * 1103515245 + 12345) (hdr : ∀ z m, dr z m = jrem (jushr (fd z) 16) m) (hz : s.1 13 0 60 = z) (h0 : ¬ x = 0) : ev (d + 1) f_Ref_draws [vR 13 0, vI x] s = some (some (vI (dr z x)), wI s 13 0 60 (fd z)) := by
  rw [Ref_draws_eq, if_neg h0, hz, hdr, hfd]
theorem m_act {y2 : Int32} {j : Nat} (hfd : ∀ z, fd z = z * 1103515245 + 12345) (hdr : ∀ z m, dr z m = jrem (jushr (fd z) 16) m) (hG : rG s R C kd) (hO : rOS s 1 n S) (ho : oOkS R C kd n S) (hR : rR s L) (hL : wfL (ruL L) 0) (hz : s.1 13 0 60 = z) (hj : nI j < y2) : ∃ t, Ref_years_L1 (d + 9) y2 (nI j) s = Ref_years_L1 (d + 9) y2 (nI (j + 1)) t ∧ rOS t 1 n (yrA fd dr R C kd n L S z).1 ∧ t.1 13 0 60 = (yrA fd dr R C kd n L S z).2.1 ∧ t.1 13 0 28 = s.1 13 0 28 + nI (yrA fd dr R C kd n L S z).2.2 ∧ fr pRQ s t := by
  have hn := ho.1
  have f7 : ∀ {a : xS} {y : Int32}, fr (fun c _ k => c = 13 ∧ k = 60) a (wI a 13 0 60 y) := fun {a y} => fr_wI (fr_r _ _) ⟨rfl, rfl⟩
  have c7 : ∀ {a b : xS}, fr (fun c _ k => c = 13 ∧ k = 60) a b → fr pRQ a b := fun f => fr_m f (fun c i k h => by obtain ⟨rfl, rfl⟩ := h; simp [pRQ])
  have kG : ∀ {a b : xS}, rG a R C kd → fr (fun c _ k => c = 13 ∧ k = 60) a b → rG b R C kd := fun h f => rG_fr h f (by omega) (by omega) (by omega)
  have kO : ∀ {a b : xS} {S : Sn}, rOS a 1 n S → fr (fun c _ k => c = 13 ∧ k = 60) a b → rOS b 1 n S := fun h f => rO_fr h f (by omega) (by omega)
  have kR : ∀ {a b : xS}, rR a L → fr (fun c _ k => c = 13 ∧ k = 60) a b → rR b L := fun h f => rR_fr h f (by omega) (by omega)
  have pc1 : ∀ {a b : xS}, fr (pOr 1) a b → fr pRQ a b := fun f => fr_m f (fun c i k h => by
    unfold pOr at h
    rcases h with h | ⟨rfl, rfl⟩ | ⟨rfl, rfl | rfl⟩
    · exact pF_RQ h
    all_goals simp [pRQ])
  have a0 : ∀ w : Int32, w = w + nI 0 := fun w => (Int32.add_zero w).symm
  rw [Ref_years_L1_eq, if_pos hj, m_draw hfd hdr hz (by decide), bI_s]
  unfold yrA
  by_cases h3 : dr z 4 = 3
  · rw [if_pos h3, if_pos h3]
    obtain ⟨t, e1, e2, e3, e4, e5⟩ := m_minute (d := d + 1) (z := (S, 0, 0)) (a := s.1 13 0 28) (b := s.1 13 0 29) (kG hG (f7 (y := fd z))) (kO hO f7) ho (kR hR f7) hL (by rw [wI_nk (by omega)]; exact a0 _) (by rw [wI_nk (by omega)]; exact a0 _)
    rw [e1, bV_s, nI_1]
    exact ⟨t, rfl, e2, by rw [(e3 13 0 60 (by simp [pOr, pF])).1, wI_s1], e4, fr_t (c7 f7) (pc1 e3)⟩
  · have hn6 : (wI s 13 0 60 (fd z)).1 13 0 6 = nI n := by rw [wI_nk (by omega)]; exact hO.1
    rw [if_neg h3, if_neg h3, hn6]
    by_cases hn0 : n = 0
    · rw [if_pos hn0, if_neg (show ¬ (0 : Int32) < nI n by rw [hn0]; decide), nI_1]
      exact ⟨_, rfl, kO hO f7, wI_s1 _ _ _ _ _, by rw [wI_nk (by omega)]; exact a0 _, c7 f7⟩
    · have hnz : ¬ nI n = 0 := of_eq_false (eq_f (b := 0) hn0 (by omega) (by omega))
      rw [if_neg hn0, if_pos (show (0 : Int32) < nI n from of_eq_true (lt_t (a := 0) (by omega) (by omega))), m_draw hfd hdr (wI_s1 _ _ _ _ _) hnz, bI_s]
      have f75 : fr (fun c _ k => c = 13 ∧ k = 60) s (wI (wI s 13 0 60 (fd z)) 13 0 60 (fd (fd z))) := fr_t f7 f7
      by_cases h2 : dr z 4 = 2
      · rw [if_pos h2, if_pos h2]
        obtain ⟨t, e1, e2, e3, e4⟩ := m_sets (d := d + 6) (kO hO f75) ho true (dr (fd z) (nI n))
        have e1' : ev (d + 9) f_Ref_sets [vR 13 0, vR 43 1, vI (dr (fd z) (nI n)), vI 1] (wI (wI s 13 0 60 (fd z)) 13 0 60 (fd (fd z))) = _ := e1
        rw [e1', bI_s, nI_1]
        exact ⟨t, rfl, e2, by rw [(e3 13 0 60 (by simp [pOr, pF])).1, wI_s1], by rw [e4, wI_nk (by omega), wI_nk (by omega)]; exact a0 _, fr_t (c7 f75) (pc1 e3)⟩
      · rw [if_neg h2, if_neg h2, m_draw hfd hdr (wI_s1 _ _ _ _ _) (by decide), bI_s]
        have f76 : fr (fun c _ k => c = 13 ∧ k = 60) s (wI (wI (wI s 13 0 60 (fd z)) 13 0 60 (fd (fd z))) 13 0 60 (fd (fd (fd z)))) := fr_t f75 f7
        obtain ⟨t, e1, e2, e3, e4⟩ := m_push (d := d + 2) (kG hG f76) (kO hO f76) ho (kR hR f76) hL (dr (fd z) (nI n)) (dr (fd (fd z)) 4)
        rw [e1, bI_s, nI_1]
        exact ⟨t, rfl, e2, by rw [(e3 13 0 60 (by simp [pOr, pF])).1, wI_s1], by rw [e4, wI_nk (by omega), wI_nk (by omega), wI_nk (by omega)], fr_t (c7 f76) (pc1 e3)⟩
def yrN (fd : Int32 → Int32) (dr : Int32 → Int32 → Int32) (R C : Nat) (kd : Nat → Nat) (n : Nat) (L : List Nat) (S : Sn) (z : Int32) : Nat → Sn × Int32 × Int32
  | 0 => (S, z, 0)
  | k + 1 => ((yrA fd dr R C kd n L (yrN fd dr R C kd n L S z k).1 (yrN fd dr R C kd n L S z k).2.1).1, (yrA fd dr R C kd n L (yrN fd dr R C kd n L S z k).1 (yrN fd dr R C kd n L S z k).2.1).2.1, (yrN fd dr R C kd n L S z k).2.2 + nI (yrA fd dr R C kd n L (yrN fd dr R C kd n L S z k).1 (yrN fd dr R C kd n L S z k).2.1).2.2)
theorem yrN_ok (hG : gOk R C kd) (ho : oOkS R C kd n S) (z : Int32) : ∀ k, oOkS R C kd n (yrN fd dr R C kd n L S z k).1 := by
  intro k
  induction k with
  | zero => exact ho
  | succ k ih => exact yrA_ok hG ih _
theorem s_years (ha : AOk ((R, C, kd), (n, S), (L, l), (T, sg), (u, U), K, (q, sq), nh, hq)) (x y : Int32) : GsS d f_Main_years f_Ref_years [vI x, vI y] ((R, C, kd), (n, S), (L, l), (T, sg), (u, U), K, (q, sq), nh, hq) k := by
  have ho : oOkS R C kd n S := ha.2.1
  have hn : n ≤ 4 := ho.1
  have hL := ha.2.2.1
  refine GsS_q ha ?_
  obtain ⟨fd, hfd⟩ : ∃ fd : Int32 → Int32, ∀ z, fd z = z * 1103515245 + 12345 := ⟨fun z => z * 1103515245 + 12345, fun _ => rfl⟩
  obtain ⟨dr, hdr⟩ : ∃ dr : Int32 → Int32 → Int32, ∀ z m, dr z m = jrem (jushr (fd z) 16) m := ⟨fun z m => jrem (jushr (fd z) 16) m, fun _ _ => rfl⟩
  have e1 : (1 : Int64).toInt = 1 := by decide
  have e60 : (60 : Int64).toInt = 60 := by decide
  by_cases hx : ∃ m, 1 ≤ m ∧ m ≤ 60 ∧ y = nI m
  · obtain ⟨m, m1, m2, rfl⟩ := hx
    have hok := yrN_ok (fd := fd) (dr := dr) (L := L) ha.1 ho x m
    have hlo := lo_16 hn hok.2.1
    have hor : orN (yrN fd dr R C kd n L S x m).1.2.2.1 n < 2 ^ 6 := orN_lt (fun p hp => (hok.2.2.1 p hp).2.2.2)
    refine ⟨(yrN fd dr R C kd n L S x m).2.2, [lN (pc (yrN fd dr R C kd n L S x m).1.2.2.2.1), lN (orN (yrN fd dr R C kd n L S x m).1.2.2.1 n)], fun s hs _ _ => ?_, fun s hs _ _ => ?_⟩
    · obtain ⟨hG, hO, hR, hr⟩ := hs
      have hO' : cOS s 0 n S := hO
      have f3 : fr (fun c i _ => c = 3 ∧ i = 1) s (wI s 3 1 3 (nI n)) := fr_wI (fr_r _ _) ⟨rfl, rfl⟩
      have hO0 : cOS (wI s 3 1 3 (nI n)) 0 n S := cO_fr hO' f3 (by omega) (by omega) (by omega) (by omega)
      obtain ⟨v, v1, v2, v3⟩ := o_unpack (d := d + 95) (i := 1) (S := S) (s := wI s 3 1 3 (nI n)) ha.1 (wI_s1 _ _ _ _ _) ho
      have ht : ev (d + 99) f_Outing_take [vR 3 1, vR 3 0] s = some (none, v) := by
        have h3 : s.1 3 0 3 = nI n := hO'.1
        have h5 : (wI s 3 1 3 (nI n)).1 3 0 5 = S.2.2.2.2 := hO0.2.2.1
        rw [Outing_take_eq, h3, o_packed ha.1 hO0 ho, bL_s, h5, v1, bV_s]
      have f4 : fr pCQ s (wI v 7 0 5 x) := fr_wI (fr_t (fr_m f3 (fun c i k h => by obtain ⟨rfl, rfl⟩ := h; simp [pCQ])) (fr_m v3 (fun c i k h => by
        unfold pU at h
        rcases h with ⟨rfl | rfl | rfl, rfl⟩ | ⟨rfl, rfl, _⟩ <;> simp [pCQ]))) (by simp [pCQ])
      obtain ⟨t, k1, k2, k3, k4⟩ := chainE m (fun j (t : xS) => Main_years_L1 (d + 99) (nI m) (yrN fd dr R C kd n L S x j).2.2 (nI j) t) (fun j t => cOS t 1 n (yrN fd dr R C kd n L S x j).1 ∧ t.1 7 0 5 = (yrN fd dr R C kd n L S x j).2.1 ∧ fr pCQ s t) (by
        rintro j t hj ⟨h1, h2, h3⟩
        obtain ⟨b, b1, b2, b3, b4⟩ := c_act (d := d + 91) (L := L) hfd hdr (cG_fr hG h3 (by intro k; simp [pCQ]) (by intro k; simp [pCQ]) (by intro k; simp [pCQ])) h1 (yrN_ok ha.1 ho x j) (cR_fr hR h3 (by simp [pCQ]) (by intro k; simp [pCQ])) hL h2
        refine ⟨b, ?_, b2, b3, fr_t h3 b4⟩
        show Main_years_L1 (d + 99) (nI m) (yrN fd dr R C kd n L S x j).2.2 (nI j) t = _
        rw [Main_years_L1_eq, if_pos (of_eq_true (lt_t hj (by omega))), b1, bI_s, nI_1]
        rfl) m 0 (wI v 7 0 5 x) (by omega) ⟨cO_fr (p := fun c _ _ => c = 7) v2 (fr_wI (fr_r _ _) rfl) (by omega) (by omega) (by omega) (by omega), wI_s1 _ _ _ _ _, f4⟩
      have k1' : Main_years_L1 (d + 99) (nI m) 0 0 (wI v 7 0 5 x) = Main_years_L1 (d + 99) (nI m) (yrN fd dr R C kd n L S x m).2.2 (nI m) t := k1
      obtain ⟨w, q1, q2, q3⟩ := n_tellTwo (d := d + 96) (s := t) (x := lN (pc (yrN fd dr R C kd n L S x m).1.2.2.2.1)) (y := lN (orN (yrN fd dr R C kd n L S x m).1.2.2.1 n))
      have lp := pc_le (yrN fd dr R C kd n L S x m).1.2.2.2.1
      refine ⟨w, ?_, q2, fr_t k4 (fr_m q3 (fun _ _ _ => pN_CQ))⟩
      rw [Main_years_eq, if_neg (show ¬ nI m < 1 from of_eq_false (lt_f m1 (by omega))), nl_60, if_neg (of_eq_false (lt_f (by omega) (by omega))), ht, bV_s, Deeds_seed_eq, bV_s, k1', Main_years_L1_eq, if_neg (of_eq_false (lt_f (Nat.le_refl _) (by omega))), o_countLoose k2 hn hok.2.1, bI_s, o_allViews k2 hn, bI_s, nI_l (by omega), nI_l (by omega), q1, bV_s]
    · have hs0 := RQ_0 hs
      obtain ⟨hG, hO, hR, hr, _⟩ := hs0
      have hin : (decide ((1 : Int64) ≤ (nI m).toInt64) && decide ((nI m).toInt64 ≤ 60)) = true := by
        rw [decide_eq_true (by rw [Int64.le_iff_toInt_le, Int32.toInt_toInt64, nI_toInt (by omega), e1]; omega), decide_eq_true (by rw [Int64.le_iff_toInt_le, Int32.toInt_toInt64, nI_toInt (by omega), e60]; omega)]; rfl
      obtain ⟨v, v1, v2, v3⟩ := chainE 17 (fun j (t : xS) => Ref_copies_L1 (d + 98) (nI j) t) (fun j t => (∀ i, i < j → t.1 43 1 i = s.1 43 0 i) ∧ fr (fun c i k => (c = 43 ∧ i = 1) ∨ (c = 13 ∧ (k = 0 ∨ k = 60))) s t) (by
        rintro j t hj ⟨h1, h2⟩
        refine ⟨wI t 43 1 j (s.1 43 0 j), ?_, fun i hi => ?_, fr_wI h2 (by omega)⟩
        · show Ref_copies_L1 (d + 98) (nI j) t = _
          rw [Ref_copies_L1_eq, nl_17, if_pos (of_eq_true (lt_t hj (by omega))), in_t hj (by omega), if_pos rfl, if_pos rfl, n_cl (by omega), nI_1, (h2 43 0 j (by omega)).1]
        · by_cases e : i = j
          · rw [e, wI_s1]
          · rw [wI_nk e]; exact h1 i (by omega)) 17 0 (wI (wI s 13 0 0 0) 13 0 60 x) (by omega) ⟨fun i hi => absurd hi (Nat.not_lt_zero i), fr_wI (fr_wI (fr_r _ _) (by omega)) (by omega)⟩
      have v1' : Ref_copies_L1 (d + 98) 0 (wI (wI s 13 0 0 0) 13 0 60 x) = Ref_copies_L1 (d + 98) (nI 17) v := v1
      have hcp : ev (d + 99) f_Ref_copies [vR 13 0] (wI (wI s 13 0 0 0) 13 0 60 x) = some (none, v) := by
        rw [Ref_copies_eq, v1', Ref_copies_L1_eq, nl_17, if_neg (of_eq_false (lt_f (Nat.le_refl _) (by omega)))]
      have f4 : fr pRQ s (wI v 13 0 28 0) := fr_wI (fr_m v3 (fun c i k h => by rcases h with ⟨rfl, rfl⟩ | ⟨rfl, rfl | rfl⟩ <;> simp [pRQ])) (by simp [pRQ])
      have hsO : rOS s 0 n S := hs.2.1
      have h60 : v.1 13 0 60 = x := by
        obtain ⟨v', w1, w2, w3⟩ := chainE 17 (fun j (t : xS) => Ref_copies_L1 (d + 98) (nI j) t) (fun j t => fr (fun c i _ => c = 43 ∧ i = 1) (wI (wI s 13 0 0 0) 13 0 60 x) t ∧ True) (by
          rintro j t hj ⟨h1, _⟩
          refine ⟨wI t 43 1 j (t.1 43 0 j), ?_, fr_wI h1 ⟨rfl, rfl⟩, trivial⟩
          show Ref_copies_L1 (d + 98) (nI j) t = _
          rw [Ref_copies_L1_eq, nl_17, if_pos (of_eq_true (lt_t hj (by omega))), in_t hj (by omega), if_pos rfl, if_pos rfl, n_cl (by omega), nI_1]) 17 0 (wI (wI s 13 0 0 0) 13 0 60 x) (by omega) ⟨fr_r _ _, trivial⟩
        have w1' : Ref_copies_L1 (d + 98) 0 (wI (wI s 13 0 0 0) 13 0 60 x) = Ref_copies_L1 (d + 98) (nI 17) v' := w1
        have hcp' : ev (d + 99) f_Ref_copies [vR 13 0] (wI (wI s 13 0 0 0) 13 0 60 x) = some (none, v') := by
          rw [Ref_copies_eq, w1', Ref_copies_L1_eq, nl_17, if_neg (of_eq_false (lt_f (Nat.le_refl _) (by omega)))]
        have : v = v' := by
          have := hcp.symm.trans hcp'
          cases this
          rfl
        rw [this, (w2 13 0 60 (by omega)).1, wI_s1]
      have hO1 : rOS (wI v 13 0 28 0) 1 n S := by
        refine ⟨by rw [wI_nk (by omega), (v3 13 0 6 (by omega)).1]; exact hsO.1, fun p hp => ?_, fun p hp => ?_, ?_⟩
        · rw [wI_nc (by omega), wI_nc (by omega), v2 _ (by omega), v2 _ (by omega)]; exact hsO.2.1 p hp
        · rw [wI_nc (by omega), wI_nc (by omega), v2 _ (by omega), v2 _ (by omega)]; exact hsO.2.2.1 p hp
        · rw [wI_nc (by omega), v2 _ (by omega)]; exact hsO.2.2.2
      obtain ⟨t, k1, k2, k3, k4, k5⟩ := chainE m (fun j (t : xS) => Ref_years_L1 (d + 99) (nI m) (nI j) t) (fun j t => rOS t 1 n (yrN fd dr R C kd n L S x j).1 ∧ t.1 13 0 60 = (yrN fd dr R C kd n L S x j).2.1 ∧ t.1 13 0 28 = (yrN fd dr R C kd n L S x j).2.2 ∧ fr pRQ s t) (by
        rintro j t hj ⟨h1, h2, h3, h4⟩
        obtain ⟨b, b1, b2, b3, b4, b5⟩ := m_act (d := d + 90) (L := L) (y2 := nI m) (j := j) hfd hdr (rG_fr hs.1 h4 (by simp [pRQ]) (by simp [pRQ]) (by intro k; simp [pRQ])) h1 (yrN_ok ha.1 ho x j) (rR_fr hs.2.2.1 h4 (by simp [pRQ]) (by intro k; simp [pRQ])) hL h2 (of_eq_true (lt_t hj (by omega)))
        exact ⟨b, b1, b2, b3, by rw [b4, h3]; rfl, fr_t h4 b5⟩) m 0 (wI v 13 0 28 0) (by omega) ⟨hO1, by rw [wI_nk (by omega)]; exact h60, wI_s1 _ _ _ _ _, f4⟩
      have k1' : Ref_years_L1 (d + 99) (nI m) 0 (wI v 13 0 28 0) = Ref_years_L1 (d + 99) (nI m) (nI m) t := k1
      have hL2 : Ref_years_L2 (d + 99) 0 0 t = Ref_years_L2 (d + 99) (nI (orN (yrN fd dr R C kd n L S x m).1.2.2.1 n)) (nI n) t := by
        refine chain n (fun j => Ref_years_L2 (d + 99) (nI (orN (yrN fd dr R C kd n L S x m).1.2.2.1 j)) (nI j) t) (fun j hj => ?_)
        show Ref_years_L2 _ _ _ _ = _
        rw [Ref_years_L2_eq, k2.1, if_pos (of_eq_true (lt_t hj (by omega))), nl_8, nI_add, in_t (show 8 + j < 17 by omega) (by omega), if_pos rfl, n_cl (by omega), (k2.2.2.1 j (by omega)).1, fa_or, nI_1]
        rfl
      have lp := pc_le (yrN fd dr R C kd n L S x m).1.2.2.2.1
      have hO9 : rOS (wI t 13 0 1 0) 1 n (yrN fd dr R C kd n L S x m).1 := rO_fr (p := fun c _ k => c = 13 ∧ k = 1) k2 (fr_wI (fr_r _ _) ⟨rfl, rfl⟩) (by omega) (by omega)
      obtain ⟨w1, w2, g1, g2, g3, g4, g5⟩ := m_ent2 (d + 98) t (lN (pc (yrN fd dr R C kd n L S x m).1.2.2.2.1)) (lN (orN (yrN fd dr R C kd n L S x m).1.2.2.1 n))
      refine ⟨w2, ?_, g4, fr_t k5 (fr_m g5 (fun _ _ _ => pT_RQ))⟩
      rw [Ref_years_eq, m_in, hin, bI_s, if_neg (by decide), hcp, bV_s, k1', Ref_years_L1_eq, if_neg (of_eq_false (lt_f (Nat.le_refl _) (by omega))), hL2, Ref_years_L2_eq, k2.1, if_neg (of_eq_false (lt_f (Nat.le_refl _) (by omega))), m_looseMany hO9 hok, bI_s, nI_l (by omega), g1, bV_s, nI_l (by omega), g3, bV_s, (g5 13 0 28 (by simp [pT])).1, k4]
  · refine ⟨-1, l, fun s hs _ _ => ?_, fun s hs _ _ => ?_⟩
    · refine ⟨s, ?_, hs.2.2.2, fr_r _ _⟩
      rw [Main_years_eq]
      by_cases z1 : y < 1
      · rw [if_pos z1]
      rw [if_neg z1]
      by_cases z2 : 60 < y
      · rw [if_pos z2]
      exfalso
      obtain ⟨m, hm, rfl⟩ := nI_of (x := y) (fun h => z1 (Int32.lt_trans h (by decide)))
      rw [nl_1, n_lt (by omega) (by omega)] at z1
      rw [nl_60, n_lt (by omega) (by omega)] at z2
      exact hx ⟨m, by omega, by omega, rfl⟩
    · have hs0 := RQ_0 hs
      refine ⟨wI s 13 0 0 0, ?_, hs0.2.2.2.1, fr_m fr_0 (fun _ _ _ => p0_RQ)⟩
      rw [Ref_years_eq, m_in, bI_s]
      cases z1 : (decide ((1 : Int64) ≤ y.toInt64) && decide (y.toInt64 ≤ 60)) with
      | false => rw [if_pos (by decide)]
      | true =>
        exfalso
        rw [Bool.and_eq_true, decide_eq_true_eq, decide_eq_true_eq, Int64.le_iff_toInt_le, Int64.le_iff_toInt_le, Int32.toInt_toInt64, e1, e60] at z1
        have hy : x_in y 61 = true := x_in_iff.mpr (by omega)
        obtain ⟨m, hm, rfl⟩ := (n_in_iff (by omega)).mp hy
        rw [nI_toInt (by omega)] at z1
        exact hx ⟨m, by omega, by omega, rfl⟩
end YEARS

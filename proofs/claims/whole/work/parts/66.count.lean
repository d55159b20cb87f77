/-! count; sheet. -/
section COUNT
variable {d k : Nat} {R C n T u q nh : Nat} {kd : Nat → Nat} {S S' : Sn} {L : List Nat} {l l' : List Int64} {sg : Nat → Nat} {U : Nat → Sn} {K : Nat → Option Sn} {sq : Nat → Nat × Nat × Nat} {hq : Nat → Nat × Nat} {s t v : xS} {r x y : Int32}
theorem if_v {p : Prop} [Decidable p] {a b : Int32} {A B : Option xO} (h1 : A = some (some (vI a), s)) (h2 : B = some (some (vI b), s)) : (if p then A else B) = some (some (vI (if p then a else b)), s) := by
  by_cases z : p
  · rw [if_pos z, if_pos z]; exact h1
  · rw [if_neg z, if_neg z]; exact h2
theorem m_openMany (hG : rG s R C kd) : ev (d + 4) f_Ref_openMany [vR 13 0] s = some (some (vI (nI (cnt (fun f => !decide (kd f = 1)) (R * C)))), s) := by
  have b := gOk_36 hG.1
  rw [Ref_openMany_eq]
  refine (chain (R * C) (fun k => Ref_openMany_L1 (d + 3) (nI (cnt (fun f => !decide (kd f = 1)) k)) (nI k) s) ?_).trans ?_
  · intro k hk
    show Ref_openMany_L1 _ _ _ _ = _
    rw [Ref_openMany_L1_eq, m_fields hG, bI_s, if_pos (of_eq_true (lt_t hk (by omega))), m_isOpen hG hk, bI_s, m_flag, bI_s, n_addib, nI_1]
    rfl
  · show Ref_openMany_L1 _ _ _ _ = _
    rw [Ref_openMany_L1_eq, m_fields hG, bI_s, if_neg (of_eq_false (lt_f (Nat.le_refl _) (by omega)))]
def sgB (kd : Nat → Nat) (f : Nat) : Nat := match sgt kd f with
  | some g => 2 ^ g
  | none => 0
theorem g_sights (hG : cG s R C kd) : ev (d + 4) f_Garden_sights [vR 2 0] s = some (some (vI (nI (orN (sgB kd) (R * C)))), s) := by
  have b := gOk_36 hG.1
  rw [Garden_sights_eq]
  refine (chain (R * C) (fun k => Garden_sights_L1 (d + 3) (nI (orN (sgB kd) k)) (nI k) s) ?_).trans ?_
  · intro k hk
    show Garden_sights_L1 _ _ _ _ = Garden_sights_L1 _ (nI (orN (sgB kd) k ||| sgB kd k)) _ _
    rw [Garden_sights_L1_eq, hG.2.2.2.1, if_pos (of_eq_true (lt_t hk (by omega))), g_sightOn hG hk, bI_s]
    unfold sgB
    cases h : sgt kd k with
    | none => rw [oI_n, if_pos rfl, nl_0, fa_or, nI_1]
    | some g =>
      have hg := sgt_lt hG.1 hk h
      rw [oI_s, if_neg (m1_nn (by omega)), j_1shl (by omega), fa_or, nI_1]
  · show Garden_sights_L1 _ _ _ _ = _
    rw [Garden_sights_L1_eq, hG.2.2.2.1, if_neg (of_eq_false (lt_f (Nat.le_refl _) (by omega)))]
theorem m_sights (hG : rG s R C kd) : ev (d + 4) f_Ref_sightsThere [vR 13 0] s = some (some (vI (nI (orN (sgB kd) (R * C)))), s) := by
  have b := gOk_36 hG.1
  rw [Ref_sightsThere_eq]
  refine (chain (R * C) (fun k => Ref_sightsThere_L1 (d + 3) (nI (orN (sgB kd) k)) (nI k) s) ?_).trans ?_
  · intro k hk
    have h24 := gOk_kd hG.1 hk
    show Ref_sightsThere_L1 _ _ _ _ = Ref_sightsThere_L1 _ (nI (orN (sgB kd) k ||| sgB kd k)) _ _
    rw [Ref_sightsThere_L1_eq, m_fields hG, bI_s, if_pos (of_eq_true (lt_t hk (by omega))), in_t (show k < 36 by omega) (by omega), if_pos rfl, n_cl (by omega), hG.2.2.2 k hk, m_in, bI_s]
    have e1 : (10 : Int64).toInt = 10 := by decide
    have e5 : (19 : Int64).toInt = 19 := by decide
    unfold sgB sgt
    by_cases h : 10 ≤ kd k ∧ kd k < 20
    · rw [decide_eq_true (by rw [Int64.le_iff_toInt_le, Int32.toInt_toInt64, nI_toInt (by omega), e1]; omega), decide_eq_true (by rw [Int64.le_iff_toInt_le, Int32.toInt_toInt64, nI_toInt (by omega), e5]; omega), if_neg (by decide), if_pos h, if_pos rfl, hG.2.2.2 k hk, nl_10, n_sub h.1, j_1shl (by omega), fa_or, nI_1]
    · have hz : (decide ((10 : Int64) ≤ (nI (kd k)).toInt64) && decide ((nI (kd k)).toInt64 ≤ 19)) = false := by
        rw [Bool.eq_false_iff]
        intro z
        rw [Bool.and_eq_true, decide_eq_true_eq, decide_eq_true_eq, Int64.le_iff_toInt_le, Int64.le_iff_toInt_le, Int32.toInt_toInt64, nI_toInt (by omega), e1, e5] at z
        omega
      rw [hz, if_pos (by decide), if_neg h, nl_0, fa_or, nI_1]
  · show Ref_sightsThere_L1 _ _ _ _ = _
    rw [Ref_sightsThere_L1_eq, m_fields hG, bI_s, if_neg (of_eq_false (lt_f (Nat.le_refl _) (by omega)))]
theorem m_views (hO : rOS s 0 n S) (ho : oOkS R C kd n S) : ev (d + 2) f_Ref_viewsOfAll [vR 13 0] s = some (some (vI (nI (smN (fun p => pc (S.2.2.1 p)) n))), s) := by
  have hn : n ≤ 4 := ho.1
  rw [Ref_viewsOfAll_eq]
  refine (chain n (fun k => Ref_viewsOfAll_L1 (d + 1) (nI (smN (fun p => pc (S.2.2.1 p)) k)) (nI k) s) ?_).trans ?_
  · intro k hk
    show Ref_viewsOfAll_L1 _ _ _ _ = _
    rw [Ref_viewsOfAll_L1_eq, hO.1, if_pos (of_eq_true (lt_t hk (by omega))), nl_8, nI_add, in_t (show 8 + k < 17 by omega) (by omega), if_pos rfl, n_cl (by omega), (hO.2.2.1 k (by omega)).1, bc_s (ho.2.2.1 k hk).2.2.2, bI_s, nI_add, nI_1]
    rfl
  · show Ref_viewsOfAll_L1 _ _ _ _ = _
    rw [Ref_viewsOfAll_L1_eq, hO.1, if_neg (of_eq_false (lt_f (Nat.le_refl _) (by omega)))]
theorem m_loose (hO : rOS s 0 n S) (ho : oOkS R C kd n S) : ev (d + 1) f_Ref_looseOnes [vR 13 0] s = some (some (vI (nI S.2.2.2.1)), s) := by
  have hn : n ≤ 4 := ho.1
  have hl : S.2.2.2.1 < 2 ^ n := ho.2.1
  rw [Ref_looseOnes_eq]
  have hb : bitsN S.2.2.2.1.testBit n = S.2.2.2.1 := by
    refine Nat.eq_of_testBit_eq (fun i => ?_)
    by_cases h : i < n
    · rw [bitsN_tb, decide_eq_true h, Bool.true_and]
    · rw [Nat.testBit_lt_two_pow (Nat.lt_of_lt_of_le (bitsN_lt _ _) (Nat.pow_le_pow_right (by omega) (by omega))), Nat.testBit_lt_two_pow (Nat.lt_of_lt_of_le hl (Nat.pow_le_pow_right (by omega) (by omega)))]
  refine (chain n (fun k => Ref_looseOnes_L1 d (nI (bitsN S.2.2.2.1.testBit k)) (nI k) s) ?_).trans ?_
  · intro k hk
    show Ref_looseOnes_L1 _ _ _ _ = Ref_looseOnes_L1 _ (nI (bitsN S.2.2.2.1.testBit k ||| (bif S.2.2.2.1.testBit k then 2 ^ k else 0))) _ _
    have h2 := p2_16 (show k < 4 by omega)
    rw [Ref_looseOnes_L1_eq, hO.1, if_pos (of_eq_true (lt_t hk (by omega))), nl_12, nI_add, in_t (show 12 + k < 17 by omega) (by omega), if_pos rfl, n_cl (by omega), (hO.2.2.1 k (by omega)).2, nI_1]
    cases S.2.2.2.1.testBit k with
    | true =>
      have e : jshl (nI (b1 true)) (nI k) = nI (2 ^ k) := (j_shl (show b1 true * 2 ^ k < 4294967296 by show 1 * 2 ^ k < _; omega) (by omega)).trans (by show nI (1 * 2 ^ k) = _; rw [Nat.one_mul])
      rw [e, fa_or]; rfl
    | false =>
      have e : jshl (nI (b1 false)) (nI k) = nI 0 := (j_shl (show b1 false * 2 ^ k < 4294967296 by show 0 * 2 ^ k < _; omega) (by omega)).trans (by show nI (0 * 2 ^ k) = _; rw [Nat.zero_mul])
      rw [e, fa_or]; rfl
  · show Ref_looseOnes_L1 _ _ _ _ = _
    rw [Ref_looseOnes_L1_eq, hO.1, if_neg (of_eq_false (lt_f (Nat.le_refl _) (by omega))), hb]
theorem s_count (ha : AOk ((R, C, kd), (n, S), (L, l), (T, sg), (u, U), K, (q, sq), nh, hq)) (x : Int32) : GsS d f_Main_count f_Ref_count [vI x] ((R, C, kd), (n, S), (L, l), (T, sg), (u, U), K, (q, sq), nh, hq) k := by
  have ho : oOkS R C kd n S := ha.2.1
  have hn : n ≤ 4 := ho.1
  let g : Int32 := if x = 0 then nI R else if x = 1 then nI C else if x = 2 then nI n else if x = 3 then nI (cnt (fun f => !decide (kd f = 1)) (R * C)) else if x = 4 then nI (orN (sgB kd) (R * C)) else if x = 5 then S.2.2.2.2 else if x = 6 then nI S.2.2.2.1 else if x = 7 then nI (smN (fun p => pc (S.2.2.1 p)) n) else if x = 8 then nI q else if x = 9 then nI nh else if x = 10 then nI u else if x = 11 then nI l.length else if x = 12 then nI T else -100
  refine ⟨g, _, ha, fun s hs => ?_, fun s hs => ?_⟩
  · obtain ⟨a1, a2, a3, a4, a5, a6, a7, a8, a9⟩ := id hs
    refine ⟨s, ?_, hs, fr_r _ _⟩
    show _ = some (some (vI (if x = 0 then nI R else if x = 1 then nI C else if x = 2 then nI n else if x = 3 then nI (cnt (fun f => !decide (kd f = 1)) (R * C)) else if x = 4 then nI (orN (sgB kd) (R * C)) else if x = 5 then S.2.2.2.2 else if x = 6 then nI S.2.2.2.1 else if x = 7 then nI (smN (fun p => pc (S.2.2.1 p)) n) else if x = 8 then nI q else if x = 9 then nI nh else if x = 10 then nI u else if x = 11 then nI l.length else if x = 12 then nI T else -100)), s)
    have v1 : s.1 2 0 2 = nI R := a1.2.1
    have v2 : s.1 2 0 3 = nI C := a1.2.2.1
    have v3 : s.1 3 0 3 = nI n := a2.1
    have v4 : s.1 3 0 5 = S.2.2.2.2 := a2.2.2.1
    have v5 : s.1 3 0 4 = nI S.2.2.2.1 := a2.2.1
    have v6 : s.1 11 0 1 = nI q := a8.1
    have v7 : s.1 12 0 1 = nI nh := a9.1
    have v8 : s.1 4 0 4 = nI u := a6.1
    have v9 : s.1 10 0 1 = nI l.length := a4.1
    have v0 : s.1 1 0 1 = nI T := a5.1
    rw [Main_count_eq, g_countOpen a1, g_sights a1, o_countViews a2 hn (fun p hp => (ho.2.2.1 p hp).2.2.2), bI_s, bI_s, bI_s, v1, v2, v3, v4, v5, v6, v7, v8, v9, v0]
    exact if_v rfl (if_v rfl (if_v rfl (if_v rfl (if_v rfl (if_v rfl (if_v rfl (if_v rfl (if_v rfl (if_v rfl (if_v rfl (if_v rfl (if_v rfl rfl))))))))))))
  · obtain ⟨a1, a2, a3, a4, a5, a6, a7, a8, a9, a10⟩ := id hs
    refine ⟨wI s 13 0 0 0, ?_, RI_0 hn hs⟩
    show _ = some (some (vI (if x = 0 then nI R else if x = 1 then nI C else if x = 2 then nI n else if x = 3 then nI (cnt (fun f => !decide (kd f = 1)) (R * C)) else if x = 4 then nI (orN (sgB kd) (R * C)) else if x = 5 then S.2.2.2.2 else if x = 6 then nI S.2.2.2.1 else if x = 7 then nI (smN (fun p => pc (S.2.2.1 p)) n) else if x = 8 then nI q else if x = 9 then nI nh else if x = 10 then nI u else if x = 11 then nI l.length else if x = 12 then nI T else -100)), wI s 13 0 0 0)
    have hG0 : rG (wI s 13 0 0 0) R C kd := rG_fr a1 fr_0 (by simp [p0]) (by simp [p0]) (by intro k; simp [p0])
    have hO0 : rOS (wI s 13 0 0 0) 0 n S := rO_fr a2 fr_0 (by simp [p0]) (by intro k; simp [p0])
    have v1 : s.1 13 0 3 = nI R := a1.2.1
    have v2 : s.1 13 0 4 = nI C := a1.2.2.1
    have v3 : s.1 13 0 6 = nI n := a2.1
    have v4 : s.1 43 0 (16 : Int32).toNatClampNeg = S.2.2.2.2 := a2.2.2.2
    have v6 : s.1 13 0 51 = nI q := a9.1
    have v7 : s.1 13 0 55 = nI nh := a10.1
    have v8 : s.1 13 0 26 = nI u := a7.1
    have v9 : s.1 13 0 1 = nI l.length := a4.1
    have v0 : s.1 13 0 11 = nI T := a6.1
    rw [Ref_count_eq, m_openMany hG0, m_sights hG0, m_loose hO0 ho, m_views hO0 ho, bI_s, bI_s, bI_s, bI_s, v1, v2, v3, v4, v6, v7, v8, v9, v0, show x_in 16 17 = true from by decide]
    exact if_v rfl (if_v rfl (if_v rfl (if_v rfl (if_v rfl (if_v rfl (if_v rfl (if_v rfl (if_v rfl (if_v rfl (if_v rfl (if_v rfl (if_v rfl rfl))))))))))))
end COUNT

/-! law: how another rule would do. -/
section LAW
variable {d k : Nat} {R C n T u q nh : Nat} {kd : Nat → Nat} {S S' : Sn} {L : List Nat} {l l' : List Int64} {sg : Nat → Nat} {U U' : Nat → Sn} {K : Nat → Option Sn} {sq : Nat → Nat × Nat × Nat} {hq : Nat → Nat × Nat} {s t : xS} {p i : Nat}
/-- what pram p would form from stand j -/
def sdV (R C : Nat) (kd : Nat → Nat) (n : Nat) (S : Sn) (L : List Nat) (p j : Nat) : Nat := if kd (j / 4) = 1 then 0 else wfm R C kd n S.1 S.2.2.1 S.2.2.2.2 (ruL L) p (j / 4) (j % 4)
theorem sdV_lt {j : Nat} (hG : gOk R C kd) (hj : j < 4 * (R * C)) : sdV R C kd n S L p j < 64 := by
  unfold sdV
  by_cases z : kd (j / 4) = 1
  · rw [if_pos z]; omega
  · rw [if_neg z]; exact wfm_lt hG (by omega) (by omega)
theorem n_d4 {j : Nat} (hj : j < 144) : nI j / 4 = nI (j / 4) := n_div (d := 4) (by omega) (by omega) (by omega)
theorem n_r4 {j : Nat} (hj : j < 144) : jrem (nI j) 4 = nI (j % 4) := n_rem (d := 4) (by omega) (by omega) (by omega)
theorem c_all (hG : cG s R C kd) (hO : cOS s 0 n S) (ho : oOkS R C kd n S) (hR : cR s i (ruL L)) (hL : wfL (ruL L) 0) (hp : p < n) : ∃ t, ev (d + 6) f_Eye_countFromAll [vR 6 0, vR 5 i, vR 3 0, vI (nI p)] s = some (some (vI (nI (smN (fun j => pc (sdV R C kd n S L p j)) (4 * (R * C))))), t) ∧ fr pE s t := by
  have b36 := gOk_36 hG.1
  have hb1 : ∀ m, m ≤ 144 → smN (fun j => pc (sdV R C kd n S L p j)) m ≤ 144 * 64 := fun m hm => by
    have := smN_le (f := fun j => pc (sdV R C kd n S L p j)) (m := 64) (n := m) (fun k _ => Nat.le_trans (pc_le _) (by omega))
    exact Nat.le_trans this (Nat.mul_le_mul_right 64 hm)
  have m4 : (4 : Int32) * nI (R * C) = nI (4 * (R * C)) := by rw [nl_4, pk_mul]
  obtain ⟨t, k1, k2⟩ := chainE (4 * (R * C)) (fun j (t : xS) => Eye_countFromAll_L1 (d + 5) i 0 (nI p) (nI (smN (fun j => pc (sdV R C kd n S L p j)) j)) (nI j) t) (fun j t => fr pE s t) (by
    rintro j t hj h1
    have hGt : cG t R C kd := cG_fr hG h1 (by intro k; unfold pE; omega) (by intro k; unfold pE; omega) (by intro k; unfold pE; omega)
    have hw := g_isWall (d := d + 3) hGt (show j / 4 < R * C by omega)
    have hsm : smN (fun j => pc (sdV R C kd n S L p j)) (j + 1) = smN (fun j => pc (sdV R C kd n S L p j)) j + pc (sdV R C kd n S L p j) := rfl
    by_cases z : kd (j / 4) = 1
    · refine ⟨t, ?_, h1⟩
      show Eye_countFromAll_L1 (d + 5) i 0 (nI p) (nI (smN (fun j => pc (sdV R C kd n S L p j)) j)) (nI j) t = _
      have h0 : sdV R C kd n S L p j = 0 := if_pos z
      rw [decide_eq_true z] at hw
      rw [Eye_countFromAll_L1_eq, hGt.2.2.2.1, m4, if_pos (of_eq_true (lt_t hj (by omega))), if_neg (by decide), n_d4 (by omega), hw, bI_s, if_neg (by decide), hsm, h0, nI_1]; rfl
    · have h0 : sdV R C kd n S L p j = wfm R C kd n S.1 S.2.2.1 S.2.2.2.2 (ruL L) p (j / 4) (j % 4) := if_neg z
      have hl := sdV_lt (n := n) (S := S) (L := L) (p := p) hG.1 hj
      obtain ⟨v, e1, e2⟩ := e_would (d := d + 1) hGt (cO_fr hO h1 (by intro k; unfold pE; omega) (by intro k; unfold pE; omega) (by intro k; unfold pE; omega) (by intro k; unfold pE; omega)) ho (cR_fr hR h1 (by unfold pE; omega) (by intro k; unfold pE; omega)) hL (show j / 4 < R * C by omega) (show j % 4 < 4 by omega) hp
      rw [show 4 * (j / 4) + j % 4 = j by omega, ← h0] at e1
      rw [decide_eq_false z] at hw
      refine ⟨v, ?_, fr_t h1 e2⟩
      show Eye_countFromAll_L1 (d + 5) i 0 (nI p) (nI (smN (fun j => pc (sdV R C kd n S L p j)) j)) (nI j) t = _
      rw [Eye_countFromAll_L1_eq, hGt.2.2.2.1, m4, if_pos (of_eq_true (lt_t hj (by omega))), if_neg (by decide), n_d4 (by omega), hw, bI_s, if_pos (by decide), e1, bI_s, bc_s hl, bI_s, nI_add, nI_1, hsm]) (4 * (R * C)) 0 s (by omega) (fr_r _ _)
  have k1' : Eye_countFromAll_L1 (d + 5) i 0 (nI p) 0 0 s = Eye_countFromAll_L1 (d + 5) i 0 (nI p) (nI (smN (fun j => pc (sdV R C kd n S L p j)) (4 * (R * C)))) (nI (4 * (R * C))) t := k1
  have hGt : cG t R C kd := cG_fr hG k2 (by intro k; unfold pE; omega) (by intro k; unfold pE; omega) (by intro k; unfold pE; omega)
  refine ⟨t, ?_, k2⟩
  rw [Eye_countFromAll_eq, k1', Eye_countFromAll_L1_eq, hGt.2.2.2.1, m4, if_neg (of_eq_false (lt_f (Nat.le_refl _) (by omega)))]
def pSd (c i k : Nat) : Prop := pF c i k ∨ c = 54
theorem m_stands (hG : rG s R C kd) (hO : rOS s 0 n S) (ho : oOkS R C kd n S) (hR : rR s L) (hL : wfL (ruL L) 0) (hp : p < n) : ∃ t, ev (d + 6) f_Ref_laysStands [vR 13 0, vI (nI p)] s = some (none, t) ∧ (∀ j, j < 4 * (R * C) → t.1 54 0 j = nI (sdV R C kd n S L p j)) ∧ fr pSd s t := by
  have b36 := gOk_36 hG.1
  have hn := ho.1
  have m4 : (4 : Int32) * nI (R * C) = nI (4 * (R * C)) := by rw [nl_4, pk_mul]
  have m8 : (8 : Int32) + nI p = nI (8 + p) := by rw [nl_8, nI_add]
  have hV := (ho.2.2.1 p hp).2.2.2
  obtain ⟨t, k1, k2, k3⟩ := chainE (4 * (R * C)) (fun j (t : xS) => Ref_laysStands_L1 (d + 5) (nI p) (nI j) t) (fun j t => (∀ k, k < j → t.1 54 0 k = nI (sdV R C kd n S L p k)) ∧ fr pSd s t) (by
    rintro j t hj ⟨h0, h1⟩
    have hGt : rG t R C kd := rG_fr hG h1 (by simp [pSd, pF]) (by simp [pSd, pF]) (by intro k; simp [pSd, pF])
    have hOt : rOS t 0 n S := rO_fr hO h1 (by simp [pSd, pF]) (by intro k; simp [pSd, pF])
    have hw := m_isOpen (d := d + 2) hGt (show j / 4 < R * C by omega)
    have hin : ∀ v x, (∀ k, k < j → v.1 54 0 k = nI (sdV R C kd n S L p k)) → x = nI (sdV R C kd n S L p j) → ∀ k, k < j + 1 → (wI v 54 0 j x).1 54 0 k = nI (sdV R C kd n S L p k) := fun v x hv hx k hk => by
      by_cases z : k = j
      · rw [z, wI_s1, hx]
      · rw [wI_nk z]; exact hv k (by omega)
    by_cases z : kd (j / 4) = 1
    · have hd0 : sdV R C kd n S L p j = 0 := if_pos z
      refine ⟨wI t 54 0 j 0, ?_, hin t 0 h0 (by rw [hd0]; rfl), fr_wI h1 (Or.inr rfl)⟩
      show Ref_laysStands_L1 (d + 5) (nI p) (nI j) t = _
      rw [decide_eq_true z] at hw
      have hw' : ev (d + 5) f_Ref_isOpen [vR 13 0, vI (nI (j / 4))] t = some (some (vI (ib false)), t) := hw
      rw [Ref_laysStands_L1_eq, m_fields hGt, bI_s, m4, if_pos (of_eq_true (lt_t hj (by omega))), if_neg (by decide), n_d4 (by omega), hw', bI_s, if_pos (by rfl), in_t (show j < 144 by omega) (by omega), if_pos rfl, n_cl (by omega), nI_1]
    · have hd0 : sdV R C kd n S L p j = wfm R C kd n S.1 S.2.2.1 S.2.2.2.2 (ruL L) p (j / 4) (j % 4) := if_neg z
      obtain ⟨v, e1, _, _, e2⟩ := m_formed (d := d + 1) (p := p) (vw := S.2.2.1 p) hGt hOt ho (rR_fr hR h1 (by simp [pSd, pF]) (by intro k; simp [pSd, pF])) hL (show j / 4 < R * C by omega) (show j % 4 < 4 by omega) (by omega) hV
      rw [fmr_cfm hG.1 (show j / 4 < R * C by omega) (show j % 4 < 4 by omega) hV] at e1
      have e1' : ev (d + 5) f_Ref_formed [vR 13 0, vR 43 0, vI (nI p), vI (nI (j / 4)), vI (nI (j % 4)), vI (nI (S.2.2.1 p))] t = some (some (vI (nI (sdV R C kd n S L p j))), v) := by rw [hd0]; exact e1
      refine ⟨wI v 54 0 j (nI (sdV R C kd n S L p j)), ?_, hin v _ (fun k hk => by rw [(e2 54 0 k (by simp [pF])).1]; exact h0 k hk) rfl, fr_wI (fr_t h1 (fr_m e2 (fun _ _ _ => Or.inl))) (Or.inr rfl)⟩
      show Ref_laysStands_L1 (d + 5) (nI p) (nI j) t = _
      rw [decide_eq_false z] at hw
      have hw' : ev (d + 5) f_Ref_isOpen [vR 13 0, vI (nI (j / 4))] t = some (some (vI (ib true)), t) := hw
      rw [Ref_laysStands_L1_eq, m_fields hGt, bI_s, m4, if_pos (of_eq_true (lt_t hj (by omega))), if_neg (by decide), n_d4 (by omega), hw', bI_s, if_neg (by decide), if_neg (by decide), if_neg (by decide), m8, in_t (show 8 + p < 17 by omega) (by omega), if_pos rfl, n_cl (by omega), (hOt.2.2.1 p (by omega)).1, n_r4 (by omega), e1', bI_s, in_t (show j < 144 by omega) (by omega), if_pos rfl, n_cl (by omega), nI_1]) (4 * (R * C)) 0 s (by omega) ⟨fun k hk => absurd hk (Nat.not_lt_zero k), fr_r _ _⟩
  have k1' : Ref_laysStands_L1 (d + 5) (nI p) 0 s = Ref_laysStands_L1 (d + 5) (nI p) (nI (4 * (R * C))) t := k1
  have hGt : rG t R C kd := rG_fr hG k3 (by simp [pSd, pF]) (by simp [pSd, pF]) (by intro k; simp [pSd, pF])
  refine ⟨t, ?_, k2, k3⟩
  rw [Ref_laysStands_eq, k1', Ref_laysStands_L1_eq, m_fields hGt, bI_s, m4, if_neg (of_eq_false (lt_f (Nat.le_refl _) (by omega)))]
theorem m_all (hG : rG s R C kd) (hO : rOS s 0 n S) (ho : oOkS R C kd n S) (hR : rR s L) (hL : wfL (ruL L) 0) (hp : 0 < n) : ∃ t, ev (d + 7) f_Ref_formedByAll [vR 13 0] s = some (some (vI (nI (smN (fun j => pc (sdV R C kd n S L 0 j)) (4 * (R * C))))), t) ∧ fr pSd s t := by
  have b36 := gOk_36 hG.1
  have m4 : (4 : Int32) * nI (R * C) = nI (4 * (R * C)) := by rw [nl_4, pk_mul]
  obtain ⟨t, t1, t2, t3⟩ := m_stands (d := d) hG hO ho hR hL hp
  have t1' : ev (d + 6) f_Ref_laysStands [vR 13 0, vI 0] s = some (none, t) := t1
  have hGt : rG t R C kd := rG_fr hG t3 (by simp [pSd, pF]) (by simp [pSd, pF]) (by intro k; simp [pSd, pF])
  refine ⟨t, ?_, t3⟩
  rw [Ref_formedByAll_eq, t1', bV_s]
  refine (chain (4 * (R * C)) (fun j => Ref_formedByAll_L1 (d + 6) (nI (smN (fun j => pc (sdV R C kd n S L 0 j)) j)) (nI j) t) ?_).trans ?_
  · intro j hj
    show Ref_formedByAll_L1 _ _ _ _ = _
    rw [Ref_formedByAll_L1_eq, m_fields hGt, bI_s, m4, if_pos (of_eq_true (lt_t hj (by omega))), in_t (show j < 144 by omega) (by omega), if_pos rfl, n_cl (by omega), t2 j hj, bc_s (sdV_lt hG.1 hj), bI_s, nI_add, nI_1]; rfl
  · show Ref_formedByAll_L1 _ _ _ _ = _
    rw [Ref_formedByAll_L1_eq, m_fields hGt, bI_s, m4, if_neg (of_eq_false (lt_f (Nat.le_refl _) (by omega)))]
def pLw (c i k : Nat) : Prop := (c = 13 ∧ (k = 0 ∨ k = 1 ∨ k = 11 ∨ k = 12 ∨ k = 13 ∨ k = 14 ∨ k = 20 ∨ k = 21 ∨ k = 24 ∨ k = 25)) ∨ c = 41 ∨ c = 47 ∨ c = 48 ∨ c = 49 ∨ c = 54
theorem s_law (ha : AOk ((R, C, kd), (n, S), (L, l), (T, sg), (u, U), K, (q, sq), nh, hq)) : GsS d f_Main_law f_Ref_law [] ((R, C, kd), (n, S), (L, l), (T, sg), (u, U), K, (q, sq), nh, hq) k := by
  have ho := ha.2.1
  have hn : n ≤ 4 := ha.2.1.1
  have ht : tOk T sg := ha.2.2.2.1
  have hL : wfL (ruL L) 0 := ha.2.2.1
  have b36 : R * C ≤ 36 := gOk_36 ha.1
  have ht0 : tOk 0 sg := ⟨Nat.zero_le _, fun k hk => absurd hk (Nat.not_lt_zero k)⟩
  obtain ⟨p, o, hw, hc, hm, hp40⟩ := rd_rule d ht
  have hneg : ∀ {p : Nat}, p ≤ 40 → ((-1 : Int32) - nI p < 0) ∧ (-1 : Int32) - nI p + 1 - 10000 = (-10000) - nI p := fun {p} hp => by
    have : ((List.range 41).all fun p => decide (((-1 : Int32) - nI p < 0) ∧ (-1 : Int32) - nI p + 1 - 10000 = (-10000) - nI p)) = true := by decide
    exact of_decide_eq_true (all_r this (by omega))
  have hcl : ∀ s, CI s ((R, C, kd), (n, S), (L, l), (T, sg), (u, U), K, (q, sq), nh, hq) → ∃ v, (∀ (x y : Int32 → xS → Option xO), (bI (ev (d + 99) f_Rule_reads [vR 5 1, vR 1 0] s) fun r2 s1 => bI (ev (d + 99) f_Text_close [vR 1 0] s1) fun r4 s3 => if (r2 : Int32) = 0 then x r4 s3 else y r4 s3) = if ib o.isSome = 0 then x (nI p) v else y (nI p) v) ∧ (∀ L', o = some L' → cR v 1 (ruL L')) ∧ CI v ((R, C, kd), (n, S), (L, l), (0, sg), (u, U), K, (q, sq), nh, hq) ∧ fr pCls s v := fun s hs => by
    obtain ⟨t, t1, t2, t3, t4⟩ := hc s hs.2.2.2.2.1
    obtain ⟨v, ev'⟩ : ∃ v, wI t 1 0 1 0 = v := ⟨_, rfl⟩
    have fv : fr pBCt s v := by
      rw [← ev']
      exact fr_wI (fr_m t4 (fun _ _ _ => pRd_t)) (Or.inr ⟨rfl, rfl⟩)
    have fv2 : fr (fun c i k => c = 1 ∨ ((c = 5 ∨ c = 24 ∨ c = 25) ∧ i = 1)) s v := by
      rw [← ev']
      exact fr_wI (fr_m t4 (fun c i k h => by unfold pRd at h; omega)) (by omega)
    have fv3 : fr (fun c _ k => c = 1 ∧ k = 1) t v := by rw [← ev']; exact fr_wI (fr_r _ _) ⟨rfl, rfl⟩
    refine ⟨v, fun x y => ?_, fun L' z => cR_fr (t3 L' z) fv3 (by omega) (by omega), CI_gent hs fv (by rw [← ev', wI_s1]) (cO_fr hs.2.1 fv2 (by omega) (by omega) (by omega) (by omega)) (cRow_fr hs.2.2.2.1 fv2 (by omega) (by omega)) (cU_fr hs.2.2.2.2.2.1 fv2 (by omega) (by omega) (by omega)), fr_m fv (fun _ _ _ => pBCt_cls)⟩
    rw [t1, bI_s, Text_close_eq, t2, bI_s, ev']
  have haF : AOk ((R, C, kd), (n, S), (L, l), (0, sg), (u, U), K, (q, sq), nh, hq) := ⟨ha.1, ha.2.1, ha.2.2.1, ht0, ha.2.2.2.2⟩
  have hml : ∀ {s t : xS}, RI s ((R, C, kd), (n, S), (L, l), (T, sg), (u, U), K, (q, sq), nh, hq) k → fr pLw s t → t.1 13 0 11 = 0 → rR t L → (∀ {l' : List Int64}, rRow t l' → RI t ((R, C, kd), (n, S), (L, l'), (0, sg), (u, U), K, (q, sq), nh, hq) (k + 1) ∧ fr pRef s t) := fun {s t} hs f h11 hR {l'} hr => by
    obtain ⟨a1, a2, a3, a4, a5, a6, a7, ⟨ch, c1, c2⟩, a8, a9⟩ := hs
    unfold pLw at f
    exact ⟨⟨rG_fr a1 f (by omega) (by omega) (by omega), rO_fr a2 f (by omega) (by omega), hR, hr, by rw [(f 13 0 38 (by omega)).1]; exact a5, ⟨h11, fun k hk => absurd hk (Nat.not_lt_zero k)⟩, rU_fr hn a7 f (by omega) (by omega), ⟨ch, by omega, rK_fr hn c2 f (by omega) (by omega) (by omega) (by omega)⟩, rS_fr a8 f (by omega) (by omega) (by omega) (by omega), rH_fr a9 f (by omega) (by omega) (by omega)⟩, fr_m f (fun c i k h => by unfold pRef; omega)⟩
  have fml : ∀ {s t : xS}, fr pRm s t → fr pLw s t := fun f => fr_m f (fun c i k h => by unfold pRm at h; unfold pLw; omega)
  cases o with
  | none =>
    refine ⟨(-10000) - nI p, _, haF, fun s hs => ?_, fun s hs => ?_⟩
    · obtain ⟨v, v1, v2, v3, v4⟩ := hcl s hs
      refine ⟨v, ?_, v3, v4⟩
      rw [Main_law_eq, v1, if_pos (by rfl)]
    · obtain ⟨t, t1, t2, t3, t4⟩ := hm s hs.2.2.2.2.2.1
      have t1' : ev (d + 99) f_Ref_readsRule [vR 13 0] (wI s 13 0 0 0) = some (some (vI ((-1) - nI p)), t) := t1
      refine ⟨t, ?_, hml hs (fml t4) t2 (rR_fr hs.2.2.1 t4 (by simp [pRm]) (by intro k; simp [pRm])) (rRow_fr hs.2.2.2.1 t4 (by simp [pRm]) (by intro k; simp [pRm]))⟩
      rw [Ref_law_eq, t1', bI_s, if_pos (hneg hp40).1, (hneg hp40).2]
  | some L' =>
    obtain ⟨w1, w2⟩ := hw L' rfl
    by_cases hn0 : n = 0
    · refine ⟨-2, _, haF, fun s hs => ?_, fun s hs => ?_⟩
      · obtain ⟨v, v1, v2, v3, v4⟩ := hcl s hs
        refine ⟨v, ?_, v3, v4⟩
        have h3 : v.1 3 0 3 = 0 := by rw [v3.2.1.1, hn0]; rfl
        rw [Main_law_eq, v1, if_neg (by intro z; cases z), if_pos h3]
      · obtain ⟨t, t1, t2, t3, t4⟩ := hm s hs.2.2.2.2.2.1
        have t1' : ev (d + 99) f_Ref_readsRule [vR 13 0] (wI s 13 0 0 0) = some (some (vI 0), t) := t1
        have h6 : t.1 13 0 6 = 0 := by rw [(t4 13 0 6 (by simp [pRm])).1, hs.2.1.1, hn0]; rfl
        refine ⟨t, ?_, hml hs (fml t4) t2 (rR_fr hs.2.2.1 t4 (by simp [pRm]) (by intro k; simp [pRm])) (rRow_fr hs.2.2.2.1 t4 (by simp [pRm]) (by intro k; simp [pRm]))⟩
        rw [Ref_law_eq, t1', bI_s, if_neg (by decide), if_pos h6]
    · have hn1 : 0 < n := by omega
      obtain ⟨x1, hx1⟩ : ∃ x, smN (fun j => pc (sdV R C kd n S L' 0 j)) (4 * (R * C)) = x := ⟨_, rfl⟩
      obtain ⟨x2, hx2⟩ : ∃ x, smN (fun j => pc (sdV R C kd n S L 0 j)) (4 * (R * C)) = x := ⟨_, rfl⟩
      have hb1 : ∀ L, smN (fun j => pc (sdV R C kd n S L 0 j)) (4 * (R * C)) ≤ 144 * 64 := fun L => by
        have := smN_le (f := fun j => pc (sdV R C kd n S L 0 j)) (m := 64) (n := 4 * (R * C)) (fun k _ => Nat.le_trans (pc_le _) (by omega))
        exact Nat.le_trans this (Nat.mul_le_mul_right 64 (by omega))
      have hl1 : x1 < 2147483648 := by have := hb1 L'; omega
      have hl2 : x2 < 2147483648 := by have := hb1 L; omega
      refine ⟨nI x1 - nI x2, ((R, C, kd), (n, S), (L, [lN x1, lN x2]), (0, sg), (u, U), K, (q, sq), nh, hq), haF, fun s hs => ?_, fun s hs => ?_⟩
      · obtain ⟨v, v1, v2, v3, v4⟩ := hcl s hs
        obtain ⟨a, a1, a2⟩ := c_all (d := d + 93) (p := 0) v3.1 v3.2.1 ho (v2 L' rfl) w1 hn1
        obtain ⟨b, b1, b2⟩ := c_all (d := d + 93) (p := 0) (s := a) (cG_fr v3.1 a2 (by intro k; unfold pE; omega) (by intro k; unfold pE; omega) (by intro k; unfold pE; omega)) (cO_fr v3.2.1 a2 (by intro k; unfold pE; omega) (by intro k; unfold pE; omega) (by intro k; unfold pE; omega) (by intro k; unfold pE; omega)) ho (cR_fr v3.2.2.1 a2 (by unfold pE; omega) (by intro k; unfold pE; omega)) hL hn1
        rw [hx1] at a1
        rw [hx2] at b1
        have a1' : ev (d + 99) f_Eye_countFromAll [vR 6 0, vR 5 1, vR 3 0, vI 0] v = some (some (vI (nI x1)), a) := a1
        have b1' : ev (d + 99) f_Eye_countFromAll [vR 6 0, vR 5 0, vR 3 0, vI 0] a = some (some (vI (nI x2)), b) := b1
        obtain ⟨w, g1, g2, g3⟩ := n_tellTwo (d := d + 96) (s := b) (x := lN x1) (y := lN x2)
        have pEQ : ∀ {c i k : Nat}, pE c i k → pCQ c i k := fun {c i k} h => by
          unfold pE at h
          rcases h with rfl | rfl | ⟨rfl, rfl⟩ <;> simp [pCQ]
        have fw : fr pCQ v w := fr_t (fr_m a2 (fun _ _ _ => pEQ)) (fr_t (fr_m b2 (fun _ _ _ => pEQ)) (fr_m g3 (fun _ _ _ => pN_CQ)))
        refine ⟨w, ?_, CI_q v3 fw g2, fr_t v4 (fr_m fw (fun _ _ _ h => pBC_cls (Or.inl h)))⟩
        have h3 : ¬ v.1 3 0 3 = 0 := by
          rw [v3.2.1.1]
          exact of_eq_false (eq_f (a := n) (b := 0) hn0 (by omega) (by omega))
        rw [Main_law_eq, v1, if_neg (by intro z; cases z), if_neg h3, a1', bI_s, b1', bI_s, nI_l hl1, nI_l hl2, g1, bV_s]
      · obtain ⟨t, t1, t2, t3, t4⟩ := hm s hs.2.2.2.2.2.1
        have t1' : ev (d + 99) f_Ref_readsRule [vR 13 0] (wI s 13 0 0 0) = some (some (vI 0), t) := t1
        obtain ⟨y1, y2⟩ := t3 L' rfl
        have hRt : rR t L := rR_fr hs.2.2.1 t4 (by simp [pRm]) (by intro k; simp [pRm])
        have hGt : rG t R C kd := rG_fr hs.1 t4 (by simp [pRm]) (by simp [pRm]) (by intro k; simp [pRm])
        have hOt : rOS t 0 n S := rO_fr hs.2.1 t4 (by simp [pRm]) (by intro k; simp [pRm])
        obtain ⟨a, a1, a2⟩ := m_all (d := d + 92) hGt hOt ho hRt hL hn1
        rw [hx2] at a1
        have hRa : rR a L := rR_fr hRt a2 (by simp [pSd, pF]) (by intro k; simp [pSd, pF])
        obtain ⟨b, k1, k2, k3⟩ := chainE L.length (fun j (t : xS) => Ref_law_L1 (d + 99) (nI x2) (nI L.length) (nI j) t) (fun j t => (∀ k, k < j → t.1 47 2 k = nI (L.getD k 0)) ∧ fr (fun c i k => c = 47 ∧ i = 2) a t) (by
          rintro j t hj ⟨h1, h2⟩
          have hl40 := hRa.2.1
          refine ⟨wI t 47 2 j (nI (L.getD j 0)), ?_, fun k hk => ?_, fr_wI h2 ⟨rfl, rfl⟩⟩
          · show Ref_law_L1 (d + 99) (nI x2) (nI L.length) (nI j) t = _
            rw [Ref_law_L1_eq, (h2 13 0 20 (by omega)).1, hRa.1, if_pos (of_eq_true (lt_t hj (by omega))), in_t (show j < 80 by omega) (by omega), if_pos rfl, if_pos rfl, n_cl (by omega), (h2 47 0 j (by omega)).1, hRa.2.2 j hj, nI_1]
          · by_cases z : k = j
            · rw [z, wI_s1]
            · rw [wI_nk z]; exact h1 k (by omega)) L.length 0 a (by omega) ⟨fun k hk => absurd hk (Nat.not_lt_zero k), fr_r _ _⟩
        have k1' : Ref_law_L1 (d + 99) (nI x2) (nI L.length) 0 a = Ref_law_L1 (d + 99) (nI x2) (nI L.length) (nI L.length) b := k1
        have hl40 := hRa.2.1
        have fab : fr (fun c i k => c = 48 ∨ c = 49 ∨ (c = 13 ∧ (k = 24 ∨ k = 25)) ∨ c = 54 ∨ (c = 47 ∧ i = 2)) t b := fr_t (fr_m a2 (fun c i k h => by unfold pSd pF at h; omega)) (fr_m k3 (by omega))
        obtain ⟨c, c1, c2, c3⟩ := m_layC (d := d + 98) (j := 1) (s := b) (by omega) w2 (fun i hi => by rw [(fab 47 1 i (by omega)).1]; exact y2 i hi)
        have ftc : fr (fun c i k => c = 48 ∨ c = 49 ∨ (c = 13 ∧ (k = 20 ∨ k = 24 ∨ k = 25)) ∨ c = 54 ∨ (c = 47 ∧ (i = 0 ∨ i = 2))) t c := fr_t (fr_m fab (by omega)) (fr_m c3 (by omega))
        obtain ⟨e, e1, e2⟩ := m_all (d := d + 92) (s := c) (rG_fr hGt ftc (by omega) (by omega) (by omega)) (rO_fr hOt ftc (by omega) (by omega)) ho c2 w1 hn1
        rw [hx1] at e1
        obtain ⟨g, g1, g2, g3⟩ := m_layC (d := d + 98) (j := 2) (L' := L) (s := e) (by omega) hl40 (fun i hi => by rw [(e2 47 2 i (by simp [pSd, pF])).1, (c3 47 2 i (by omega)).1]; exact k2 i hi)
        obtain ⟨v1, v2, m1, m2, m3, m4, m5⟩ := m_ent2 (d + 98) g (lN x1) (lN x2)
        have fte : fr pLw s e := fr_t (fml t4) (fr_t (fr_m ftc (fun c i k h => by unfold pLw; omega)) (fr_m e2 (fun c i k h => by unfold pSd pF at h; unfold pLw; omega)))
        have fsv : fr pLw s v2 := fr_t fte (fr_t (fr_m g3 (fun c i k h => by unfold pLw; omega)) (fr_m m5 (fun c i k h => by unfold pT at h; unfold pLw; omega)))
        have h11 : v2.1 13 0 11 = 0 := by rw [(m5 13 0 11 (by simp [pT])).1, (g3 13 0 11 (by omega)).1, (e2 13 0 11 (by simp [pSd, pF])).1, (ftc 13 0 11 (by omega)).1]; exact t2
        refine ⟨v2, ?_, hml hs fsv h11 (rR_fr g2 m5 (by simp [pT]) (by intro k; simp [pT])) m4⟩
        have h6 : ¬ t.1 13 0 6 = 0 := by
          rw [hOt.1]
          exact of_eq_false (eq_f (b := 0) hn0 (by omega) (by omega))
        have b20 : b.1 13 0 20 = nI L.length := by rw [(k3 13 0 20 (by omega)).1]; exact hRa.1
        have b21 : b.1 13 0 21 = nI L'.length := by rw [(fab 13 0 21 (by omega)).1]; exact y1
        rw [Ref_law_eq, t1', bI_s, if_neg (by decide), if_neg h6, a1, bI_s, hRa.1, k1', Ref_law_L1_eq, b20, if_neg (of_eq_false (lt_f (Nat.le_refl _) (by omega))), b21, c1, bV_s, e1, bI_s, g1, bV_s, nI_l hl1, m1, bV_s, nI_l hl2, m3, bV_s]
end LAW

/-! prams: one line, by the law. -/
section LINEM
variable {d : Nat} {E p R C n m : Nat} {kd sg : Nat → Nat} {s t : xS}
theorem m_line (hG : rG s R C kd) (h : rX s sg E p) (hn : s.1 13 0 6 = nI n) (hm : s.1 13 0 17 = nI m) (hnm : n + m < 4) : ∃ t, ev (d + 6) f_Ref_readsPram [vR 13 0] s = some (some (vI (ib (lnX R C kd sg E p).2.isSome)), t) ∧ rX t sg E (lnX R C kd sg E p).1 ∧ (∀ f w, (lnX R C kd sg E p).2 = some (f, w) → t.1 46 0 (2 * m) = nI f ∧ t.1 46 0 (2 * m + 1) = nI w ∧ t.1 13 0 17 = nI (m + 1)) ∧ fr (fun c _ k => (c = 46 ∧ 2 * m ≤ k) ∨ (c = 13 ∧ (k = 12 ∨ k = 17))) s t := by
  have b1 := hG.1.1
  have b2 := hG.1.2.1
  have b3 := hG.1.2.2.1
  have b4 := hG.1.2.2.2.1
  have b36 := gOk_36 hG.1
  have hr1 : nI R - 1 = nI (R - 1) := by rw [show (1 : Int32) = nI 1 from rfl, n_sub (by omega)]
  have hc1 : nI C - 1 = nI (C - 1) := by rw [show (1 : Int32) = nI 1 from rfl, n_sub (by omega)]
  have h4 : ¬ nI (n + m) = 4 := of_eq_false (eq_f (b := 4) (by omega) (by omega) (by omega))
  have t1 := m_digitX (d := d + 2) (lo := 0) (hi := R - 1) (by omega) (by omega) h
  unfold lnX
  cases hR : dgt sg E p 0 (R - 1) with
  | none =>
    rw [hR, oI_n, if_pos rfl] at t1
    have t1' : ev (d + 5) f_Ref_digitIn [vR 13 0, vI 0, vI (nI (R - 1))] s = some (some (vI (-1)), s) := t1
    refine ⟨s, ?_, h, fun f w z => (by cases z), fr_r _ _⟩
    rw [Ref_readsPram_eq, hn, hm, nI_add, if_neg h4, hG.2.1, hr1, t1', bI_s, if_pos (by decide), Ref_readsPram_J1_eq, if_pos (by decide), nb_0]; rfl
  | some r =>
    have hr := dgt_v hR
    rw [hR, oI_s, if_neg (by intro z; cases z)] at t1
    have t1' : ev (d + 5) f_Ref_digitIn [vR 13 0, vI 0, vI (nI (R - 1))] s = some (some (vI (nI r)), wI s 13 0 12 (nI (p + 1))) := t1
    have f1 : fr (fun c _ k => c = 13 ∧ k = 12) s (wI s 13 0 12 (nI (p + 1))) := fr_wI (fr_r _ _) ⟨rfl, rfl⟩
    have h1 := rX_st h hr.1
    have hG1 : rG (wI s 13 0 12 (nI (p + 1))) R C kd := rG_fr hG f1 (by omega) (by omega) (by omega)
    have t2 := m_digitX (d := d + 2) (lo := 0) (hi := C - 1) (by omega) (by omega) h1
    dsimp only
    cases hC : dgt sg E (p + 1) 0 (C - 1) with
    | none =>
      rw [hC, oI_n, if_pos rfl] at t2
      have t2' : ev (d + 5) f_Ref_digitIn [vR 13 0, vI 0, vI (nI (C - 1))] (wI s 13 0 12 (nI (p + 1))) = some (some (vI (-1)), wI s 13 0 12 (nI (p + 1))) := t2
      refine ⟨wI s 13 0 12 (nI (p + 1)), ?_, h1, fun f w z => (by cases z), fr_m f1 (by omega)⟩
      rw [Ref_readsPram_eq, hn, hm, nI_add, if_neg h4, hG.2.1, hr1, t1', bI_s, if_neg (nI_pos (by omega)), hG1.2.2.1, hc1, t2', bI_s, Ref_readsPram_J1_eq, if_pos (by decide), nb_0]; rfl
    | some c =>
      have hc := dgt_v hC
      rw [hC, oI_s, if_neg (by intro z; cases z)] at t2
      obtain ⟨a, ea⟩ : ∃ a, wI (wI s 13 0 12 (nI (p + 1))) 13 0 12 (nI (p + 1 + 1)) = a := ⟨_, rfl⟩
      have t2' : ev (d + 5) f_Ref_digitIn [vR 13 0, vI 0, vI (nI (C - 1))] (wI s 13 0 12 (nI (p + 1))) = some (some (vI (nI c)), a) := by rw [← ea]; exact t2
      have f2 : fr (fun c _ k => c = 13 ∧ k = 12) s a := by rw [← ea]; exact fr_wI f1 ⟨rfl, rfl⟩
      have h2 : rX a sg E (p + 1 + 1) := by rw [← ea]; exact rX_st h1 hc.1
      have hGa : rG a R C kd := rG_fr hG f2 (by omega) (by omega) (by omega)
      have hma : a.1 13 0 17 = nI m := by rw [(f2 13 0 17 (by omega)).1]; exact hm
      have hf : r * C + c < R * C := rc_lt (by omega) (by omega)
      dsimp only
      by_cases hk : kd (r * C + c) = 1
      · have hx : rX (wI a 13 0 12 (nI (p + 1))) sg E (p + 1) := ⟨wI_s1 _ _ _ _ _, by rw [wI_nk (by omega)]; exact h2.2.1, fun k hk => by rw [wI_nc (by omega)]; exact h2.2.2.1 k hk, h2.2.2.2.1, by omega, h2.2.2.2.2.2⟩
        rw [if_pos hk]
        refine ⟨wI a 13 0 12 (nI (p + 1)), ?_, hx, fun f w z => (by cases z), fr_wI (fr_m f2 (by omega)) (by omega)⟩
        rw [Ref_readsPram_eq, hn, hm, nI_add, if_neg h4, hG.2.1, hr1, t1', bI_s, if_neg (nI_pos (by omega)), hG1.2.2.1, hc1, t2', bI_s, Ref_readsPram_J1_eq, if_neg (nI_pos (by omega)), hGa.2.2.1, pk_mul, nI_add, m_isOpen hGa hf, decide_eq_true hk, bI_s, if_pos (by decide), h2.1, n_sub1, nb_0]; rfl
      · rw [if_neg hk]
        obtain ⟨b, eb⟩ : ∃ b, wI a 46 0 (2 * m) (nI (r * C + c)) = b := ⟨_, rfl⟩
        have f3 : fr (fun c _ k => c = 46 ∧ k = 2 * m) a b := by rw [← eb]; exact fr_wI (fr_r _ _) ⟨rfl, rfl⟩
        have h3 : rX b sg E (p + 1 + 1) := rX_fr h2 f3 (by omega) (by omega) (by omega)
        have hmb : b.1 13 0 17 = nI m := by rw [(f3 13 0 17 (by omega)).1]; exact hma
        have hb46 : b.1 46 0 (2 * m) = nI (r * C + c) := by rw [← eb, wI_s1]
        have t3 := m_digitX (d := d + 2) (lo := 0) (hi := 3) (by omega) (by omega) h3
        have m2 : (2 : Int32) * nI m = nI (2 * m) := by rw [nl_2, pk_mul]
        have m3 : nI (2 * m) + 1 = nI (2 * m + 1) := nI_1 _
        have m4 : (2 : Int32) * (nI m + 1) - 1 = nI (2 * m + 1) := by rw [nI_1, nl_2, pk_mul, show 2 * (m + 1) = 2 * m + 1 + 1 by omega, n_sub1]
        cases hW : dgt sg E (p + 2) 0 3 with
        | none =>
          rw [show p + 1 + 1 = p + 2 from rfl, hW, oI_n, if_pos rfl] at t3
          have t3' : ev (d + 5) f_Ref_digitIn [vR 13 0, vI 0, vI 3] b = some (some (vI (-1)), b) := t3
          have f5 : fr (fun c _ k => (c = 46 ∧ 2 * m ≤ k) ∨ (c = 13 ∧ k = 17)) b (wI (wI b 46 0 (2 * m + 1) (-1)) 13 0 17 (nI (m + 1))) := fr_wI (fr_wI (fr_r _ _) (by omega)) (by omega)
          refine ⟨wI (wI b 46 0 (2 * m + 1) (-1)) 13 0 17 (nI (m + 1)), ?_, rX_fr h3 f5 (by omega) (by omega) (by omega), fun f w z => (by cases z), fr_t (fr_m f2 (by omega)) (fr_t (fr_m f3 (by omega)) (fr_m f5 (by omega)))⟩
          rw [Ref_readsPram_eq, hn, hm, nI_add, if_neg h4, hG.2.1, hr1, t1', bI_s, if_neg (nI_pos (by omega)), hG1.2.2.1, hc1, t2', bI_s, Ref_readsPram_J1_eq, if_neg (nI_pos (by omega)), hGa.2.2.1, pk_mul, nI_add, m_isOpen hGa hf, decide_eq_false hk, bI_s, if_neg (by decide), hma, m2, in_t (show 2 * m < 8 by omega) (by omega), if_pos rfl, n_cl (by omega), hGa.2.2.1, pk_mul, nI_add, eb, t3', bI_s, hmb, m3, m4, in_t (show 2 * m + 1 < 8 by omega) (by omega), if_pos rfl, if_pos rfl, n_cl (by omega), wI_s1, if_pos (by decide), nI_1, nb_0]; rfl
        | some w =>
          have hw := dgt_v hW
          rw [show p + 1 + 1 = p + 2 from rfl, hW, oI_s, if_neg (by intro z; cases z)] at t3
          obtain ⟨e, ee⟩ : ∃ e, wI b 13 0 12 (nI (p + 2 + 1)) = e := ⟨_, rfl⟩
          have t3' : ev (d + 5) f_Ref_digitIn [vR 13 0, vI 0, vI 3] b = some (some (vI (nI w)), e) := by rw [← ee]; exact t3
          have f4 : fr (fun c _ k => c = 13 ∧ k = 12) b e := by rw [← ee]; exact fr_wI (fr_r _ _) ⟨rfl, rfl⟩
          have h5 : rX e sg E (p + 2 + 1) := by rw [← ee]; exact rX_st h3 hw.1
          have hme : e.1 13 0 17 = nI m := by rw [(f4 13 0 17 (by omega)).1]; exact hmb
          have f5 : fr (fun c _ k => (c = 46 ∧ k = 2 * m + 1) ∨ (c = 13 ∧ k = 17)) e (wI (wI e 46 0 (2 * m + 1) (nI w)) 13 0 17 (nI (m + 1))) := fr_wI (fr_wI (fr_r _ _) (by omega)) (by omega)
          refine ⟨wI (wI e 46 0 (2 * m + 1) (nI w)) 13 0 17 (nI (m + 1)), ?_, rX_fr h5 f5 (by omega) (by omega) (by omega), fun f w' z => ?_, fr_t (fr_m f2 (by omega)) (fr_t (fr_m f3 (by omega)) (fr_t (fr_m f4 (by omega)) (fr_m f5 (by omega))))⟩
          · rw [Ref_readsPram_eq, hn, hm, nI_add, if_neg h4, hG.2.1, hr1, t1', bI_s, if_neg (nI_pos (by omega)), hG1.2.2.1, hc1, t2', bI_s, Ref_readsPram_J1_eq, if_neg (nI_pos (by omega)), hGa.2.2.1, pk_mul, nI_add, m_isOpen hGa hf, decide_eq_false hk, bI_s, if_neg (by decide), hma, m2, in_t (show 2 * m < 8 by omega) (by omega), if_pos rfl, n_cl (by omega), hGa.2.2.1, pk_mul, nI_add, eb, t3', bI_s, hme, m3, m4, in_t (show 2 * m + 1 < 8 by omega) (by omega), if_pos rfl, if_pos rfl, n_cl (by omega), wI_s1, if_neg (nI_pos (by omega)), nI_1, nb_1]; rfl
          · cases z
            exact ⟨by rw [(f5 46 0 (2 * m) (by omega)).1, (f4 46 0 (2 * m) (by omega)).1]; exact hb46, by rw [wI_nc (by omega), wI_s1], wI_s1 _ _ _ _ _⟩
end LINEM

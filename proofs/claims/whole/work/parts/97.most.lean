/-! most. -/
section MOST
variable {d k : Nat} {R C n T u q nh : Nat} {kd : Nat → Nat} {S S' : Sn} {L : List Nat} {l l' : List Int64} {sg : Nat → Nat} {U U' : Nat → Sn} {K : Nat → Option Sn} {sq : Nat → Nat × Nat × Nat} {hq : Nat → Nat × Nat} {s t : xS} {p N src x : Nat} {st : qS}
def bsQ (st : qS) : Nat → Nat
  | 0 => 0
  | i + 1 => if pc (st.1.getD (bsQ st i) 0 % 64) < pc (st.1.getD i 0 % 64) then i else bsQ st i
theorem bsQ_lt (h : 0 < st.1.length) : ∀ i, i ≤ st.1.length → bsQ st i < st.1.length := by
  intro i
  induction i with
  | zero => exact fun _ => h
  | succ i ih =>
    intro hi
    unfold bsQ
    by_cases z : pc (st.1.getD (bsQ st i) 0 % 64) < pc (st.1.getD i 0 % 64)
    · rw [if_pos z]; omega
    · rw [if_neg z]; exact ih (by omega)
theorem c_fmost (hN : N ≤ 2304) (hI : qInv N src st) (h : cQ s st) (h8 : s.1 9 0 8 = nI src) : ev (d + 2) f_Search_firstWithMost [vR 9 0] s = some (some (vI (nI (st.1.getD (bsQ st st.1.length) 0))), s) := by
  have hlen := qI_len hI
  have hpos := hI.2.2.2.1
  rw [Search_firstWithMost_eq, h8, ← hpos.2.1]
  refine (chain st.1.length (fun i => Search_firstWithMost_L1 (d + 1) (nI (st.1.getD (bsQ st i) 0)) (nI i) s) ?_).trans ?_
  · intro i hi
    have hb := bsQ_lt hpos.1 i (by omega)
    have hx1 := hI.2.1 _ (getD_mem hi)
    have hx2 := hI.2.1 _ (getD_mem hb)
    have hpc : ∀ z, pc z ≤ 64 := fun z => Nat.le_trans (pc_le z) (by omega)
    have hp1 := hpc (st.1.getD i 0 % 64)
    have hp2 := hpc (st.1.getD (bsQ st i) 0 % 64)
    show Search_firstWithMost_L1 (d + 1) (nI (st.1.getD (bsQ st i) 0)) (nI i) s = Search_firstWithMost_L1 (d + 1) (nI (st.1.getD (bsQ st (i + 1)) 0)) (nI (i + 1)) s
    rw [Search_firstWithMost_L1_eq, h.1, if_pos (of_eq_true (lt_t hi (by omega))), in_t (show i < 2304 by omega) (by omega), if_pos rfl, n_cl (by omega), h.2.1 i hi, Search_viewsIn_eq, n_and63 (by omega), bI_s, bc_s (show st.1.getD i 0 % 64 < 64 by omega), bI_s, Search_viewsIn_eq, n_and63 (by omega), bI_s, bc_s (show st.1.getD (bsQ st i) 0 % 64 < 64 by omega), bI_s, nI_1]
    have hbs : bsQ st (i + 1) = if pc (st.1.getD (bsQ st i) 0 % 64) < pc (st.1.getD i 0 % 64) then i else bsQ st i := rfl
    rw [hbs]
    by_cases z : pc (st.1.getD (bsQ st i) 0 % 64) < pc (st.1.getD i 0 % 64)
    · rw [if_pos (of_eq_true (lt_t z (by omega))), if_pos rfl, if_pos z, h.2.1 i hi]
    · rw [if_neg (of_eq_false (lt_f (by omega) (by omega))), if_neg z]
  · show Search_firstWithMost_L1 (d + 1) (nI (st.1.getD (bsQ st st.1.length) 0)) (nI st.1.length) s = _
    rw [Search_firstWithMost_L1_eq, h.1, if_neg (of_eq_false (lt_f (Nat.le_refl _) (by omega)))]
theorem m_fmost (hN : N ≤ 2304) (hI : qInv N src st) (h : rQ s st) : Ref_most_L1 (d + 1) 0 1 s = Ref_most_L1 (d + 1) (nI (bsQ st st.1.length)) (nI st.1.length) s := by
  have hlen := qI_len hI
  have hpos := hI.2.2.2.1
  have hst : ∀ i, 1 ≤ i → i ≤ st.1.length → Ref_most_L1 (d + 1) 0 1 s = Ref_most_L1 (d + 1) (nI (bsQ st i)) (nI i) s := by
    intro i
    induction i with
    | zero => intro h; omega
    | succ i ih =>
      intro _ hi
      have hbs : bsQ st (i + 1) = if pc (st.1.getD (bsQ st i) 0 % 64) < pc (st.1.getD i 0 % 64) then i else bsQ st i := rfl
      by_cases z0 : i = 0
      · rw [z0]
        have : bsQ st (0 + 1) = 0 := by
          show (if pc (st.1.getD 0 0 % 64) < pc (st.1.getD 0 0 % 64) then 0 else 0) = 0
          rw [if_neg (Nat.lt_irrefl _)]
        rw [this]; rfl
      · have hi' : i < st.1.length := by omega
        have hb := bsQ_lt hpos.1 i (by omega)
        have hx1 := hI.2.1 _ (getD_mem hi')
        have hx2 := hI.2.1 _ (getD_mem hb)
        have hpc : ∀ z, pc z ≤ 64 := fun z => Nat.le_trans (pc_le z) (by omega)
        have hp1 := hpc (st.1.getD i 0 % 64)
        have hp2 := hpc (st.1.getD (bsQ st i) 0 % 64)
        rw [ih (by omega) (by omega), Ref_most_L1_eq, h.1, if_pos (of_eq_true (lt_t hi' (by omega))), in_t (show i < 2304 by omega) (by omega), if_pos rfl, if_neg (by decide), n_cl (by omega), h.2.1 i hi', n_r64 (by omega), bc_s (show st.1.getD i 0 % 64 < 64 by omega), bI_s, in_t (show bsQ st i < 2304 by omega) (by omega), if_pos rfl, if_neg (by decide), n_cl (by omega), h.2.1 _ hb, n_r64 (by omega), bc_s (show st.1.getD (bsQ st i) 0 % 64 < 64 by omega), bI_s, nI_1, hbs]
        by_cases z : pc (st.1.getD (bsQ st i) 0 % 64) < pc (st.1.getD i 0 % 64)
        · rw [if_pos (of_eq_true (lt_t z (by omega))), if_pos z]
        · rw [if_neg (of_eq_false (lt_f (by omega) (by omega))), if_neg z]
  exact hst _ hpos.1 (Nat.le_refl _)
theorem s_most (ha : AOk ((R, C, kd), (n, S), (L, l), (T, sg), (u, U), K, (q, sq), nh, hq)) (x : Int32) : GsS d f_Main_most f_Ref_most [vI x] ((R, C, kd), (n, S), (L, l), (T, sg), (u, U), K, (q, sq), nh, hq) k := by
  have ho := ha.2.1
  have hn : n ≤ 4 := ho.1
  have hL : wfL (ruL L) 0 := ha.2.2.1
  have hgo : gOk R C kd := ha.1
  have b36 : R * C ≤ 36 := gOk_36 hgo
  refine GsS_q ha ?_
  cases hx : x_in x n with
  | false =>
    refine ⟨-1, l, fun s h _ _ => ⟨s, ?_, h.2.2.2, fr_r _ _⟩, fun s h _ _ => ⟨wI s 13 0 0 0, ?_, (RQ_0 h).2.2.2.1, fr_m fr_0 (fun _ _ _ => p0_RQ)⟩⟩
    · rw [Main_most_eq, o_has h.2.1 hn, bI_s, hx, if_pos (by decide)]
    · rw [Ref_most_eq, m_isPram (RQ_0 h).2.1 hn, bI_s, hx, if_pos (by decide)]
  | true =>
    obtain ⟨p, hp, rfl⟩ := (n_in_iff (by omega)).mp hx
    have m12 : (12 : Int32) + nI p = nI (12 + p) := by rw [show (12 : Int32) = nI 12 from rfl, nI_add]
    have hcl : ∀ s, CQ s R C kd n S.1 S.2.1 S.2.2.1 S.2.2.2.1 S.2.2.2.2 L l → ev (d + 100) f_Main_most [vR 0 0, vI (nI p)] s = if ib (S.2.2.2.1.testBit p) = 0 then (bV (ev (d + 99) f_Search_begin [vR 9 0, vI (nI p)] s) fun s5 => bV (ev (d + 99) f_Search_spread [vR 9 0] s5) fun s6 => bI (ev (d + 99) f_Search_firstWithMost [vR 9 0] s6) fun r8 s7 => bI (ev (d + 99) f_Search_stepsTo [vR 9 0, vI r8] s7) fun r10 s9 => bV (ev (d + 99) f_Numbers_tellOne [vR 10 0, vL ((r10 : Int32).toInt64)] s9) fun s11 => bI (ev (d + 99) f_Search_viewsIn [vI r8] s11) fun r13 s12 => bI (ev (d + 99) f_Integer_bitCount [vI r13] s12) fun r15 s14 => some (some (vI r15), s14)) else some (some (vI (-3)), s) := fun s h => by
      rw [Main_most_eq, o_has h.2.1 hn, hx, bI_s, if_neg (by decide), o_isLoose h.2.1 hn ho.2.1 hp, bI_s]
    have hml : ∀ s, RQ s R C kd n S.1 S.2.1 S.2.2.1 S.2.2.2.1 S.2.2.2.2 L l → ev (d + 100) f_Ref_most [vR 13 0, vI (nI p)] s = if nI (b1 (S.2.2.2.1.testBit p)) = 1 then some (some (vI (-3)), wI s 13 0 0 0) else bV (ev (d + 99) f_Ref_laysPlaces [vR 13 0, vI (nI p)] (wI s 13 0 0 0)) fun s3 => Ref_most_L1 (d + 99) 0 1 s3 := fun s h => by
      have hO := (RQ_0 h).2.1
      rw [Ref_most_eq, m_isPram hO hn, hx, bI_s, if_neg (by decide), m12, in_t (show 12 + p < 17 by omega) (by omega), if_pos rfl, n_cl (by omega), (hO.2.2.1 p (by omega)).2]
    cases hlo : S.2.2.2.1.testBit p with
    | true =>
      refine ⟨-3, l, fun s h _ _ => ⟨s, ?_, h.2.2.2, fr_r _ _⟩, fun s h _ _ => ⟨wI s 13 0 0 0, ?_, (RQ_0 h).2.2.2.1, fr_m fr_0 (fun _ _ _ => p0_RQ)⟩⟩
      · rw [hcl s h, hlo, if_neg (by decide)]
      · rw [hml s h, hlo, if_pos (by decide)]
    | false =>
      have hI := sprP_inv (L := L) hgo ho hp
      have hcs : ∀ s, CQ s R C kd n S.1 S.2.1 S.2.2.1 S.2.2.2.1 S.2.2.2.2 L l → ∃ a b, ev (d + 99) f_Search_begin [vR 9 0, vI (nI p)] s = some (none, a) ∧ ev (d + 99) f_Search_spread [vR 9 0] a = some (none, b) ∧ cQ b (sprP R C kd n S L p) ∧ fr pCQ s b ∧ b.1 9 0 8 = nI (64 * S.1 p + S.2.2.1 p) := fun s h => by
        obtain ⟨a, a1, a2, a3, a4, a5⟩ := c_begin (d := d + 96) (L := L) h.1 h.2.1 ho hp
        obtain ⟨b, b1, b2, b3, b4⟩ := c_spreadP (d := d + 94) (cG_fr h.1 a5 (by omega) (by omega) (by omega)) (cO_fr h.2.1 a5 (by omega) (by omega) (by omega) (by omega)) ho (cR_fr h.2.2.1 a5 (by omega) (by omega)) hL hp a2 a3 a4
        have b4' : fr (fun c i k => c = 26 ∨ c = 25 ∨ (c = 5 ∧ k = 3) ∨ c = 37 ∨ c = 35 ∨ c = 36 ∨ (c = 9 ∧ k = 7)) a b := fr_m b4 (fun _ _ _ => pSp_m)
        exact ⟨a, b, a1, b1, b2, fr_t (fr_m a5 (fun c i k z => by rcases z with rfl | ⟨rfl, _⟩ <;> simp [pCQ])) (fr_m b4 (fun _ _ _ => pSp_CQ)), by rw [(b4' 9 0 8 (by omega)).1]; exact a3⟩
      have hms : ∀ s, RQ s R C kd n S.1 S.2.1 S.2.2.1 S.2.2.2.1 S.2.2.2.2 L l → ∃ a, ev (d + 99) f_Ref_laysPlaces [vR 13 0, vI (nI p)] (wI s 13 0 0 0) = some (none, a) ∧ rQ a (sprP R C kd n S L p) ∧ fr pRQ s a := fun s h => by
        have h0 := RQ_0 h
        obtain ⟨a, a1, a2, a3⟩ := m_spreadP (d := d + 93) h0.1 h0.2.1 ho h0.2.2.1 hL hp
        exact ⟨a, a1, a2, fr_t (fr_m fr_0 (fun _ _ _ => p0_RQ)) (fr_m a3 (fun _ _ _ => pSr_RQ))⟩
      generalize sprP R C kd n S L p = st at hI hcs hms
      have hN : 64 * (R * C) ≤ 2304 := by omega
      have hlen := qI_len hI
      have hb := bsQ_lt hI.2.2.2.1.1 st.1.length (Nat.le_refl _)
      obtain ⟨k', f', w', e1, e2⟩ := hI.2.2.2.2.1 _ hb
      have hxN := hI.2.1 _ (getD_mem hb)
      obtain ⟨x', ex⟩ : ∃ x', st.1.getD (bsQ st st.1.length) 0 = x' := ⟨_, rfl⟩
      rw [ex] at e1 hxN
      have hk' := (q_bd hI hN e1).1
      refine ⟨nI (pc (x' % 64)), [lN k'], fun s h _ _ => ?_, fun s h _ _ => ?_⟩
      · obtain ⟨a, b, a1, b1, b2, b3, b8⟩ := hcs s h
        have hf := c_fmost (d := d + 97) hN hI b2 b8
        rw [ex] at hf
        have hst := c_steps (d := d + 97) hN hI b2 k' x' 0 f' w' e1 (by omega)
        rw [Nat.zero_add] at hst
        have hst' : ev (d + 99) f_Search_stepsTo [vR 9 0, vI (nI x')] b = some (some (vI (nI k')), b) := by rw [Search_stepsTo_eq]; exact hst
        obtain ⟨c, c1, c2, c3⟩ := n_tellOne (d := d + 97) (s := b) (x := lN k')
        refine ⟨c, ?_, c2, fr_t b3 (fr_m c3 (fun _ _ _ => pN_CQ))⟩
        rw [hcl s h, hlo, if_pos (by decide), a1, bV_s, b1, bV_s, hf, bI_s, hst', bI_s, nI_l (by omega), c1, bV_s, Search_viewsIn_eq, n_and63 (by omega), bI_s, bc_s (show x' % 64 < 64 by omega), bI_s]
      · obtain ⟨a, a1, a2, a3⟩ := hms s h
        have h58 : a.1 58 0 (bsQ st st.1.length) = nI x' := by rw [a2.2.1 _ hb, ex]
        have h59 : a.1 59 0 x' = nI k' := by rw [a2.2.2.1 x' (by omega), e1]; rfl
        have hr0 : rRow (wI a 13 0 1 0) [] := ⟨by rw [wI_s1]; rfl, Nat.zero_le _, fun i hi => absurd hi (Nat.not_lt_zero i)⟩
        obtain ⟨c, c1, c2, c3⟩ := m_enters (d := d + 98) (x := lN k') hr0 (by decide)
        have fc : fr pT a c := fr_t (fr_wI (fr_r _ _) (Or.inr ⟨rfl, rfl⟩)) c3
        have c58 : c.1 58 0 (bsQ st st.1.length) = nI x' := by rw [(fc 58 0 _ (by simp [pT])).1]; exact h58
        refine ⟨c, ?_, c2, fr_t a3 (fr_m fc (fun _ _ _ => pT_RQ))⟩
        rw [hml s h, hlo, if_neg (by decide), a1, bV_s, m_fmost (d := d + 98) hN hI a2, Ref_most_L1_eq, a2.1, if_neg (of_eq_false (lt_f (Nat.le_refl _) (by omega))), in_t (show bsQ st st.1.length < 2304 by omega) (by omega), if_pos rfl, n_cl (by omega), h58, in_t (show x' < 2304 by omega) (by omega), if_pos rfl, n_cl (by omega), h59, nI_l (by omega), c1, bV_s, if_pos rfl, if_neg (by decide), c58, n_r64 (by omega), bc_s (show x' % 64 < 64 by omega), bI_s]
end MOST

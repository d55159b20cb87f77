/-! What a pram would form: the reference's side, and that it is the class's. -/
section REF2
theorem ib_t0 : ¬ ib true = 0 := by decide
theorem ib_f0 : ib false = 0 := by decide
def mu (R C f w : Nat) : Nat := if w = 0 then f / C else if w = 1 then C - 1 - f % C else if w = 2 then R - 1 - f / C else f % C
def mu_chk (R C f w : Nat) : Bool := !(decide (2 ≤ R) && decide (2 ≤ C) && decide (f < R * C)) || (decide (mu R C f w ≤ 5) && (match bes R C f w with
  | none => decide (mu R C f w = 0)
  | some g => decide (mu R C g w + 1 = mu R C f w)))
theorem mu_chk_t : ((List.range 7).all fun R => (List.range 7).all fun C => (List.range 36).all fun f => (List.range 4).all fun w => mu_chk R C f w) = true := by decide +kernel
theorem mu_all {R C f w : Nat} {kd : Nat → Nat} (hG : gOk R C kd) (hf : f < R * C) (hw : w < 4) : (decide (mu R C f w ≤ 5) && (match bes R C f w with
  | none => decide (mu R C f w = 0)
  | some g => decide (mu R C g w + 1 = mu R C f w))) = true := by
  have := gOk_36 hG
  have q := all_r (all_r (all_r (all_r mu_chk_t (show R < 7 by have := hG.2.1; omega)) (show C < 7 by have := hG.2.2.2.1; omega)) (show f < 36 by omega)) hw
  unfold mu_chk at q
  rw [decide_eq_true hG.1, decide_eq_true hG.2.2.1, decide_eq_true hf] at q
  exact q
theorem mu_5 {R C f w : Nat} {kd : Nat → Nat} (hG : gOk R C kd) (hf : f < R * C) (hw : w < 4) : mu R C f w ≤ 5 := by
  have q := mu_all hG hf hw
  rw [Bool.and_eq_true] at q
  exact of_decide_eq_true q.1
theorem mu_s {R C f w g : Nat} {kd : Nat → Nat} (hG : gOk R C kd) (hf : f < R * C) (hw : w < 4) (h : bes R C f w = some g) : mu R C g w + 1 = mu R C f w := by
  have q := mu_all hG hf hw
  rw [Bool.and_eq_true, h] at q
  exact of_decide_eq_true q.2
def rfo (nx sg : Nat → Option Nat) (ok : Nat → Nat → Bool) (vw : Nat) : Nat → Nat → Nat → Nat → Nat → Nat → Nat × Nat × Nat
  | 0, lg, _, _, bi, ne => (bi, lg, ne)
  | m + 1, lg, pl, be, bi, ne => match nx pl with
    | none => (bi, lg, ne)
    | some g => match sg g with
      | none => rfo nx sg ok vw m (lg + 1) g be bi ne
      | some k => bif !((be ||| vw).testBit k) && ok (lg + 1) k then rfo nx sg ok vw m (lg + 1) g (be ||| 2 ^ k) (bi ||| 2 ^ k) (if bi = 0 then lg + 1 else ne) else rfo nx sg ok vw m (lg + 1) g (be ||| 2 ^ k) bi ne
def pF (c _i k : Nat) : Prop := c = 48 ∨ c = 49 ∨ (c = 13 ∧ (k = 24 ∨ k = 25))
theorem pQ_F {c i k : Nat} (h : pQ c i k) : pF c i k := by unfold pQ at h; unfold pF; omega
variable {d j n lo p f w v k R C vw : Nat} {F W V : Nat → Nat} {kd : Nat → Nat} {M : Int32} {s : xS} {L : List Nat} {x y : Int32}
theorem m_inS {a : Nat} (ha : a < 2147483648) : ev (d + 1) f_Ref_in [vL (nI a).toInt64, vL 10, vL 15] s = some (some (vI (ib (decide (10 ≤ a) && decide (a ≤ 15)))), s) := by
  rw [m_in, nI_l ha]
  have e1 : decide ((10 : Int64) ≤ lN a) = decide (10 ≤ a) := by
    have : (10 : Int64) ≤ lN a ↔ 10 ≤ a := lN_le (a := 10) (by omega) ha
    simp only [this]
  have e2 : decide (lN a ≤ (15 : Int64)) = decide (a ≤ 15) := by
    have : lN a ≤ (15 : Int64) ↔ a ≤ 15 := lN_le (b := 15) ha (by omega)
    simp only [this]
  rw [e1, e2]
theorem m_floop (hL : wfL (ruL L) 0) (hw : w < 4) (hvw : vw < 64) (th : Nat → Int32) (hth : ∀ ds sg j, 2 ≤ j → thn ds sg v w k p M j = th j) : ∀ (m lg pl be bi ne : Nat) (s0 s : xS), mu R C pl w ≤ m → lg + m = 5 → pl < R * C → be < 64 → bi < 64 → rG s R C kd → rR s L → (∀ j, 2 ≤ j → j < 7 → s.1 49 0 j = th j) → s.1 13 0 24 = nI lg → s.1 13 0 25 = nI ne → fr pF s0 s →
    ∃ u, Ref_formed_L1 (d + 3) (nI w) (nI vw) (nI be) (nI bi) (oI (bes R C pl w)) s = some (some (vI (nI (rfo (fun g => nxt R C kd g w) (sgt kd) (okr (ruL L) v w k p M) vw m lg pl be bi ne).1)), u) ∧ u.1 13 0 24 = nI (rfo (fun g => nxt R C kd g w) (sgt kd) (okr (ruL L) v w k p M) vw m lg pl be bi ne).2.1 ∧ u.1 13 0 25 = nI (rfo (fun g => nxt R C kd g w) (sgt kd) (okr (ruL L) v w k p M) vw m lg pl be bi ne).2.2 ∧ fr pF s0 u := by
  intro m
  induction m with
  | zero =>
    intro lg pl be bi ne s0 s hmu e hp ha ho hG hR ht h24 h25 hf
    refine ⟨s, ?_, h24, h25, hf⟩
    rw [Ref_formed_L1_eq, m_openB hG hp hw, bI_s]
    have : nxt R C kd pl w = none := by
      cases h : nxt R C kd pl w with
      | none => rfl
      | some g => have := mu_s hG.1 hp hw (nxt_bes h); omega
    rw [this, if_pos (by decide)]; rfl
  | succ m ih =>
    intro lg pl be bi ne s0 s hmu e hp ha ho hG hR ht h24 h25 hf
    rw [Ref_formed_L1_eq, m_openB hG hp hw, bI_s]
    unfold rfo
    cases hx : nxt R C kd pl w with
    | none => exact ⟨s, by rw [if_pos (by decide)], h24, h25, hf⟩
    | some g =>
      dsimp only
      have hg := (nxt_lt hG.1 hp hw hx).1
      have hb := nxt_bes hx
      have hmu' := mu_s hG.1 hp hw hb
      have b36 := gOk_36 hG.1
      have hkd := gOk_kd hG.1 hg
      rw [if_neg (show ¬ ib (some g).isSome = 0 from ib_t0), hb, oI_s, in_t (show g < 36 by omega) (by omega), if_pos rfl, n_cl (by omega), hG.2.2.2 g hg, h24, nI_1, m_inS (by omega), bI_s]
      have f1 : fr pF s (wI s 13 0 24 (nI (lg + 1))) := fr_wI (fr_r _ _) (by unfold pF; omega)
      have nx : ∀ (be' bi' ne' : Nat) (t : xS), be' < 64 → bi' < 64 → fr pF s t → t.1 13 0 24 = nI (lg + 1) → t.1 13 0 25 = nI ne' → (∀ j, 2 ≤ j → t.1 49 0 j = s.1 49 0 j) →
          ∃ u, (bI (ev (d + 3) f_Ref_beside [vR 13 0, vI (nI g), vI (nI w)] t) fun r16 s15 => Ref_formed_L1 (d + 3) (nI w) (nI vw) (nI be') (nI bi') r16 s15) = some (some (vI (nI (rfo (fun g => nxt R C kd g w) (sgt kd) (okr (ruL L) v w k p M) vw m (lg + 1) g be' bi' ne').1)), u) ∧ u.1 13 0 24 = nI (rfo (fun g => nxt R C kd g w) (sgt kd) (okr (ruL L) v w k p M) vw m (lg + 1) g be' bi' ne').2.1 ∧ u.1 13 0 25 = nI (rfo (fun g => nxt R C kd g w) (sgt kd) (okr (ruL L) v w k p M) vw m (lg + 1) g be' bi' ne').2.2 ∧ fr pF s0 u := by
        intro be' bi' ne' t q1 q2 q3 q4 q5 q6
        have hG' := rG_fr hG q3 (by unfold pF; omega) (by unfold pF; omega) (by intro k; unfold pF; omega)
        rw [m_beside hG' hg hw, bI_s]
        exact ih (lg + 1) g be' bi' ne' s0 t (by omega) (by omega) hg q1 q2 hG' (rR_fr hR q3 (by unfold pF; omega) (by intro k; unfold pF; omega)) (fun j h2 h7 => by rw [q6 j h2]; exact ht j h2 h7) q4 q5 (fr_t hf q3)
      cases hy : sgt kd g with
      | none =>
        have hno : (decide (10 ≤ kd g) && decide (kd g ≤ 15)) = false := by
          unfold sgt at hy
          split at hy
          · cases hy
          · next z =>
            have := hG.1.2.2.2.2 g hg
            rw [Bool.and_eq_false_iff, decide_eq_false_iff_not, decide_eq_false_iff_not]; omega
        rw [hno, if_pos (by decide), Ref_formed_J2_eq, if_pos (by decide), if_pos (by decide), if_pos (by decide), Ref_formed_J4_eq, if_pos (by decide), Ref_formed_J5_eq, nl_0, n_or0]
        exact nx be bi ne _ ha ho (fr_wI (fr_wI f1 (by unfold pF; omega)) (by unfold pF; omega)) (by rw [wI_nc (by omega), wI_nc (by omega), wI_s1]) (by rw [wI_nc (by omega), wI_nc (by omega), wI_nk (by omega)]; exact h25) (fun j hj => by rw [wI_nk (by show j ≠ 1; omega), wI_nk (by show j ≠ 0; omega), wI_nc (by omega)])
      | some q =>
        have hq := sgt_lt hG.1 hg hy
        have hq2 := p2_64 hq
        have hyes : (decide (10 ≤ kd g) && decide (kd g ≤ 15)) = true ∧ kd g - 10 = q := by
          unfold sgt at hy
          split at hy
          · next z => cases hy; rw [Bool.and_eq_true, decide_eq_true_iff, decide_eq_true_iff]; omega
          · cases hy
        have h10 : 10 ≤ kd g := by
          have := hyes.1
          rw [Bool.and_eq_true, decide_eq_true_iff, decide_eq_true_iff] at this; omega
        rw [hyes.1, if_neg (by decide), if_pos rfl, wI_nc (by omega), hG.2.2.2 g hg, nl_10, n_sub h10, hyes.2, Ref_formed_J2_eq, if_pos (by decide), if_pos (by decide), nl_0, if_neg (of_eq_false (lt_f (Nat.zero_le q) (by omega))), wI_s1, fa_or, m_hasI (by have := or_lt64 ha hvw; omega) (by omega), bI_s]
        have f2 : fr pF s (wI (wI (wI s 13 0 24 (nI (lg + 1))) 49 0 0 (nI (lg + 1))) 49 0 1 (nI q)) := fr_wI (fr_wI f1 (by unfold pF; omega)) (by unfold pF; omega)
        have j4 : ∀ (bi' : Nat) (t : xS), Ref_formed_J4 (d + 3) (nI w) (nI vw) (nI be) (nI bi') (nI g) (nI q) t = bI (ev (d + 3) f_Ref_beside [vR 13 0, vI (nI g), vI (nI w)] t) fun r16 s15 => Ref_formed_L1 (d + 3) (nI w) (nI vw) (nI (be ||| 2 ^ q)) (nI bi') r16 s15 := by
          intro bi' t
          rw [Ref_formed_J4_eq, nl_0, if_neg (of_eq_false (lt_f (Nat.zero_le q) (by omega))), Ref_formed_J5_eq, j_1shl (by omega), fa_or]
        cases hb2 : (be ||| vw).testBit q with
        | true =>
          rw [if_neg (show ¬ ib true = nI 0 by decide), j4]
          simp only [hb2, Bool.not_true, Bool.false_and, cond_false]
          exact nx (be ||| 2 ^ q) bi ne _ (or_lt64 ha hq2) ho f2 (by rw [wI_nc (by simp), wI_nc (by simp), wI_s1]) (by rw [wI_nc (by simp), wI_nc (by simp), wI_nk (by omega)]; exact h25) (fun j hj => by rw [wI_nk (by show j ≠ 1; omega), wI_nk (by show j ≠ 0; omega), wI_nc (by omega)])
        | false =>
          rw [if_pos (show ib false = nI 0 by decide)]
          obtain ⟨u, e1, fu⟩ := m_ruled (d := d) (th := thn (lg + 1) q v w k p M) (rR_fr hR f2 (by unfold pF; omega) (by intro k; unfold pF; omega)) hL (fun j hj => by
            match j, hj with
            | 0, _ => simp [wI_get]; rfl
            | 1, _ => simp [wI_get]; rfl
            | j + 2, hj => rw [wI_nk (by omega), wI_nk (by omega), wI_nc (by omega), hth _ _ _ (by omega)]; exact ht _ (by omega) hj)
          have e1' : ev (d + 3) f_Ref_ruled [vR 13 0] (wI (wI (wI s 13 0 24 (nI (lg + 1))) 49 0 (nI 0).toNatClampNeg (nI (lg + 1))) 49 0 (1 : Int32).toNatClampNeg (nI q)) = some (some (vI (rvl (thn (lg + 1) q v w k p M) (ruL L))), u) := e1
          rw [e1', bI_s]
          have f3 : fr pF s u := fr_t f2 (fr_m fu (fun _ _ _ => pQ_F))
          have u24 : u.1 13 0 24 = nI (lg + 1) := by rw [(fu 13 0 24 (by unfold pQ; omega)).1, wI_nc (by omega), wI_nc (by omega), wI_s1]
          have u25 : u.1 13 0 25 = nI ne := by rw [(fu 13 0 25 (by unfold pQ; omega)).1, wI_nc (by omega), wI_nc (by omega), wI_nk (by omega)]; exact h25
          have u49 : ∀ j, 2 ≤ j → u.1 49 0 j = s.1 49 0 j := fun j hj => by rw [(fu 49 0 j (by unfold pQ; omega)).1, wI_nk (by omega), wI_nk (by omega), wI_nc (by omega)]
          by_cases hr : nI 0 < rvl (thn (lg + 1) q v w k p M) (ruL L)
          · have hok : okr (ruL L) v w k p M (lg + 1) q = true := decide_eq_true hr
            rw [if_pos hr]
            simp only [hb2, Bool.not_false, Bool.true_and, hok, cond_true]
            by_cases hz : bi = 0
            · rw [if_pos (of_eq_true (eq_t hz)), Ref_formed_J3_eq, j_1shl (by omega), fa_or, j4, if_pos hz, u24]
              exact nx (be ||| 2 ^ q) (bi ||| 2 ^ q) (lg + 1) _ (or_lt64 ha hq2) (or_lt64 ho hq2) (fr_wI f3 (by unfold pF; omega)) (by rw [wI_nk (by omega)]; exact u24) (by rw [wI_s1]) (fun j hj => by rw [wI_nc (by omega)]; exact u49 j hj)
            · rw [if_neg (of_eq_false (eq_f hz (by omega) (by omega))), Ref_formed_J3_eq, j_1shl (by omega), fa_or, j4, if_neg hz, u25]
              exact nx (be ||| 2 ^ q) (bi ||| 2 ^ q) ne _ (or_lt64 ha hq2) (or_lt64 ho hq2) (fr_wI f3 (by unfold pF; omega)) (by rw [wI_nk (by omega)]; exact u24) (by rw [wI_s1]) (fun j hj => by rw [wI_nc (by omega)]; exact u49 j hj)
          · have hok : okr (ruL L) v w k p M (lg + 1) q = false := decide_eq_false hr
            rw [if_neg hr, j4]
            simp only [hb2, Bool.not_false, Bool.true_and, hok, cond_false]
            exact nx (be ||| 2 ^ q) bi ne _ (or_lt64 ha hq2) ho f3 u24 u25 u49
/-- bits formed, how far is seen, how far the nearest is -/
def fmr (R C : Nat) (kd : Nat → Nat) (n : Nat) (F : Nat → Nat) (M : Int32) (L : List Nat) (p f w vw : Nat) : Nat × Nat × Nat := rfo (fun g => nxt R C kd g w) (sgt kd) (okr (ruL L) (pc vw) w (oth F p f n) p (jrem M 7)) vw 5 0 f 0 0 0
theorem m_formed (hG : rG s R C kd) (hO : rO s j n F W V lo M) (ho : oOk R C kd n F W V lo) (hR : rR s L) (hL : wfL (ruL L) 0) (hf : f < R * C) (hw : w < 4) (hp : p < 4) (hv : vw < 64) :
    ∃ u, ev (d + 4) f_Ref_formed [vR 13 0, vR 43 j, vI (nI p), vI (nI f), vI (nI w), vI (nI vw)] s = some (some (vI (nI (fmr R C kd n F M L p f w vw).1)), u) ∧ u.1 13 0 24 = nI (fmr R C kd n F M L p f w vw).2.1 ∧ u.1 13 0 25 = nI (fmr R C kd n F M L p f w vw).2.2 ∧ fr pF s u := by
  have b36 := gOk_36 hG.1
  rw [Ref_formed_eq, bc_s hv, bI_s, if_pos (by decide), if_pos (by decide)]
  have f1 : fr pF s (wI (wI s 49 0 2 (nI (pc vw))) 49 0 3 (nI w)) := fr_wI (fr_wI (fr_r _ _) (by unfold pF; omega)) (by unfold pF; omega)
  have hO1 := rO_fr hO f1 (by unfold pF; omega) (by intro k; unfold pF; omega)
  have e6 : ev (d + 3) f_Ref_othersOn [vR 13 0, vR 43 j, vI (nI p), vI (nI f)] (wI (wI s 49 0 (2 : Int32).toNatClampNeg (nI (pc vw))) 49 0 (3 : Int32).toNatClampNeg (nI w)) = some (some (vI (nI (oth F p f n))), wI (wI s 49 0 2 (nI (pc vw))) 49 0 3 (nI w)) :=
    m_others hO1 ho.1 (fun q hq => by have := (ho.2.2.1 q hq).1; omega) (by omega) (by omega)
  rw [e6, bI_s, if_pos (by decide), if_pos (by decide), if_pos (by decide), if_neg (by decide), if_pos (by decide)]
  have e16 : (wI (wI s 49 0 2 (nI (pc vw))) 49 0 3 (nI w)).1 43 j (16 : Int32).toNatClampNeg = M := hO1.2.2.2
  rw [e16]
  have f2 : fr pF s (wI (wI (wI (wI (wI (wI (wI s 49 0 2 (nI (pc vw))) 49 0 3 (nI w)) 49 0 4 (nI (oth F p f n))) 49 0 5 (nI p)) 49 0 6 (jrem M 7)) 13 0 24 0) 13 0 25 0) := fr_wI (fr_wI (fr_wI (fr_wI (fr_wI f1 (by unfold pF; omega)) (by unfold pF; omega)) (by unfold pF; omega)) (by unfold pF; omega)) (by unfold pF; omega)
  have hG2 := rG_fr hG f2 (by unfold pF; omega) (by unfold pF; omega) (by intro k; unfold pF; omega)
  have e7 : ev (d + 3) f_Ref_beside [vR 13 0, vI (nI f), vI (nI w)] (wI (wI (wI (wI (wI (wI (wI s 49 0 2 (nI (pc vw))) 49 0 3 (nI w)) 49 0 (4 : Int32).toNatClampNeg (nI (oth F p f n))) 49 0 (5 : Int32).toNatClampNeg (nI p)) 49 0 (6 : Int32).toNatClampNeg (jrem M 7)) 13 0 24 0) 13 0 25 0) = some (some (vI (oI (bes R C f w))), (wI (wI (wI (wI (wI (wI (wI s 49 0 2 (nI (pc vw))) 49 0 3 (nI w)) 49 0 4 (nI (oth F p f n))) 49 0 5 (nI p)) 49 0 6 (jrem M 7)) 13 0 24 0) 13 0 25 0)) := m_beside hG2 hf hw
  rw [e7, bI_s]
  exact m_floop (d := d) (v := pc vw) (k := oth F p f n) (p := p) (M := jrem M 7) hL hw hv (fun j => thn 0 0 (pc vw) w (oth F p f n) p (jrem M 7) j) (fun ds sg j hj => by
    match j, hj with
    | 2, _ => rfl
    | 3, _ => rfl
    | 4, _ => rfl
    | 5, _ => rfl
    | j + 6, _ => rfl) 5 0 f 0 0 0 s _ (mu_5 hG.1 hf hw) rfl hf (by omega) (by omega) hG2 (rR_fr hR f2 (by unfold pF; omega) (by intro k; unfold pF; omega)) (fun j h2 h7 => by
    match j, h2, h7 with
    | 2, _, _ => simp [wI_get]; rfl
    | 3, _, _ => simp [wI_get]; rfl
    | 4, _, _ => simp [wI_get]; rfl
    | 5, _, _ => simp [wI_get]; rfl
    | 6, _, _ => simp [wI_get]; rfl) (by simp [wI_get]; decide) (by simp [wI_get]; decide) f2
/-- both sides form the same -/
theorem an_chk2 : ((List.range 64).all fun a => (List.range 64).all fun b => (List.range 6).all fun k => decide (an (a ||| 2 ^ k) b = if b.testBit k then an a b else an a b ||| 2 ^ k)) = true := by decide +kernel
theorem or_tb {a k : Nat} (h : a.testBit k = true) : a ||| 2 ^ k = a := by
  apply Nat.eq_of_testBit_eq
  intro i
  rw [Nat.testBit_or, Nat.testBit_two_pow]
  by_cases e : k = i
  · subst e; rw [h]; rfl
  · rw [decide_eq_false e, Bool.or_false]
theorem rfo_cfl {nx sg : Nat → Option Nat} {ok : Nat → Nat → Bool} {N : Nat} (hn : ∀ f g, f < N → nx f = some g → g < N) (hs : ∀ f k, f < N → sg f = some k → k < 6) (hvw : vw < 64) : ∀ m lg pl be fo ne, pl < N → fo < 64 →
    (rfo nx sg ok vw m lg pl be (an fo vw) ne).1 = an (cfl nx sg ok m (lg + 1) pl be fo) vw := by
  intro m
  induction m with
  | zero => intro lg pl be fo ne _ _; rfl
  | succ m ih =>
    intro lg pl be fo ne hp ho
    unfold rfo cfl
    cases hx : nx pl with
    | none => rfl
    | some g =>
      have hg := hn _ _ hp hx
      simp only
      cases hy : sg g with
      | none => exact ih _ _ _ _ _ hg ho
      | some k =>
        have hk := hs _ _ hg hy
        simp only
        have e := of_decide_eq_true (all_r (all_r (all_r an_chk2 ho) hvw) hk)
        rw [Nat.testBit_or]
        cases hb : be.testBit k with
        | true =>
          simp only [Bool.true_or, Bool.not_true, Bool.false_and, cond_false, cond_true]
          rw [or_tb hb]
          exact ih _ _ _ _ _ hg ho
        | false =>
          simp only [Bool.false_or, cond_false]
          cases ok (lg + 1) k with
          | false => simp only [Bool.and_false, cond_false]; exact ih _ _ _ _ _ hg ho
          | true =>
            simp only [Bool.and_true, cond_true]
            cases hv : vw.testBit k with
            | true =>
              rw [hv, if_pos rfl] at e
              simp only [Bool.not_true, cond_false]
              have := ih (lg + 1) g (be ||| 2 ^ k) (fo ||| 2 ^ k) ne hg (or_lt64 ho (p2_64 hk))
              rw [e] at this; exact this
            | false =>
              rw [hv, if_neg (by decide)] at e
              simp only [Bool.not_false, cond_true]
              rw [← e]
              exact ih _ _ _ _ _ hg (or_lt64 ho (p2_64 hk))
theorem fmr_cfm (hG : gOk R C kd) (hf : f < R * C) (hw : w < 4) (hv : vw < 64) : (fmr R C kd n F M L p f w vw).1 = an (cfm R C kd (ruL L) (pc vw) w (oth F p f n) p (jrem M 7) f) vw := by
  have q := rfo_cfl (ok := okr (ruL L) (pc vw) w (oth F p f n) p (jrem M 7)) (N := R * C) (fun f g hf h => (nxt_lt hG hf hw h).1) (fun f k hf h => sgt_lt hG hf h) hv 5 0 f 0 0 0 hf (by omega)
  rw [show an 0 vw = 0 from Nat.zero_and _] at q
  exact q
theorem fmr_lt (hG : gOk R C kd) (hf : f < R * C) (hw : w < 4) (hv : vw < 64) : (fmr R C kd n F M L p f w vw).1 < 64 := by
  rw [fmr_cfm hG hf hw hv]; exact an_lt (cfm_lt hG hf hw)
end REF2

/-! parts, gates. -/
section PARTS
variable {d R C src f w n lo : Nat} {kd : Nat → Nat} {cl : Option Nat} {s : xS} {F W V : Nat → Nat} {M : Int32} {L : List Nat} {l : List Int64}
abbrev pS : Type := (Nat → Bool) × Nat × Nat × Nat
def ptB (kd : Nat → Nat) (cl : Option Nat) (k : Nat) : Bool := !decide (kd k = 1) && !decide (cl = some k)
def ptN (R C : Nat) (kd : Nat → Nat) (cl : Option Nat) : Nat → pS
  | 0 => (fun _ => false, 0, 0, 0)
  | k + 1 => bif ptB kd cl k && !(ptN R C kd cl k).1 k then
      (fun g => (ptN R C kd cl k).1 g || decide (g ∈ (spr R C kd cl k).1), (ptN R C kd cl k).2.1 + 1, (if (ptN R C kd cl k).2.2.1 < (spr R C kd cl k).1.length then (spr R C kd cl k).1.length else (ptN R C kd cl k).2.2.1), (if (ptN R C kd cl k).2.2.1 < (spr R C kd cl k).1.length then k else (ptN R C kd cl k).2.2.2))
    else ptN R C kd cl k
theorem ptN_f {k : Nat} (h : (ptB kd cl k && !(ptN R C kd cl k).1 k) = false) : ptN R C kd cl (k + 1) = ptN R C kd cl k := by
  show (bif _ then _ else _) = _
  rw [h]; rfl
theorem ptN_t {k : Nat} (h : (ptB kd cl k && !(ptN R C kd cl k).1 k) = true) : ptN R C kd cl (k + 1) = (fun g => (ptN R C kd cl k).1 g || decide (g ∈ (spr R C kd cl k).1), (ptN R C kd cl k).2.1 + 1, (if (ptN R C kd cl k).2.2.1 < (spr R C kd cl k).1.length then (spr R C kd cl k).1.length else (ptN R C kd cl k).2.2.1), (if (ptN R C kd cl k).2.2.1 < (spr R C kd cl k).1.length then k else (ptN R C kd cl k).2.2.2)) := by
  show (bif _ then _ else _) = _
  rw [h]; rfl
theorem ptB_ok {k : Nat} (h : ptB kd cl k = true) : sOK kd cl k := by
  unfold ptB at h
  rw [Bool.and_eq_true] at h
  exact ⟨fun q => by (rw [decide_eq_true q] at h; cases h.1), fun q => by (rw [decide_eq_true q] at h; cases h.2)⟩
theorem ptN_b (hG : gOk R C kd) : ∀ k, k ≤ R * C → (ptN R C kd cl k).2.1 ≤ k ∧ (ptN R C kd cl k).2.2.1 ≤ 36 ∧ (ptN R C kd cl k).2.2.2 ≤ k ∧ (0 < (ptN R C kd cl k).2.1 → 0 < (ptN R C kd cl k).2.2.1) ∧ ((ptN R C kd cl k).2.1 = 0 → (ptN R C kd cl k).2.2.1 = 0) := by
  have b36 := gOk_36 hG
  intro k
  induction k with
  | zero => intro _; exact ⟨Nat.le_refl _, Nat.zero_le _, Nat.le_refl _, fun q => q, fun _ => rfl⟩
  | succ k ih =>
    intro hk
    obtain ⟨h1, h2, h3, h4, h5⟩ := ih (by omega)
    cases q : (ptB kd cl k && !(ptN R C kd cl k).1 k) with
    | false => rw [ptN_f q]; exact ⟨by omega, h2, by omega, h4, h5⟩
    | true =>
      rw [ptN_t q]
      have hq := q
      rw [Bool.and_eq_true] at hq
      have hI := spr_inv (cl := cl) hG (show k < R * C by omega) (ptB_ok hq.1)
      have hl := bInv_len hI
      have hpos : 0 < (spr R C kd cl k).1.length := by
        have := hI.2.2.2.1 k 0 hI.2.2.2.2.1
        exact this
      dsimp only
      by_cases z : (ptN R C kd cl k).2.2.1 < (spr R C kd cl k).1.length
      · rw [if_pos z, if_pos z]; exact ⟨by omega, by omega, by omega, fun _ => hpos, fun q => by omega⟩
      · rw [if_neg z, if_neg z]; exact ⟨by omega, h2, by omega, fun _ => by omega, fun q => by omega⟩
def pP (c _i k : Nat) : Prop := c = 30 ∨ c = 31 ∨ c = 32 ∨ (c = 8 ∧ (k = 6 ∨ k = 7))
theorem pP_CQ {c i k : Nat} (h : pP c i k) : pCQ c i k := by unfold pP at h; unfold pCQ; omega
def cPt (s : xS) (p : pS) : Prop := (∀ g, g < 36 → s.1 32 0 g = nI (b1 (p.1 g))) ∧ s.1 8 0 6 = nI p.2.2.1 ∧ (0 < p.2.1 → s.1 8 0 7 = nI p.2.2.2)
theorem c_parts (hG : cG s R C kd) (hcl : ∀ c, cl = some c → c < 36) : ∃ u, ev (d + 6) f_Paths_countParts [vR 8 0, vI (oI cl)] s = some (some (vI (nI (ptN R C kd cl (R * C)).2.1)), u) ∧ cPt u (ptN R C kd cl (R * C)) ∧ fr pP s u := by
  have b36 := gOk_36 hG.1
  have f1 : fr pP s (x_fillF s 32 0 36 0) := fr_fill (fr_r _ _) (fun j => by unfold pP; omega)
  have f2 : fr pP s (wI (wI (x_fillF s 32 0 36 0) 8 0 6 0) 8 0 7 (-1)) := fr_wI (fr_wI f1 (by unfold pP; omega)) (by unfold pP; omega)
  rw [Paths_countParts_eq, fill_32, bV_s]
  obtain ⟨u, k1, k2, k3⟩ := chainE (R * C) (fun k (t : xS) => Paths_countParts_L1 (d + 5) (oI cl) (nI (ptN R C kd cl k).2.1) (nI k) t) (fun k t => cPt t (ptN R C kd cl k) ∧ fr pP s t) (by
    rintro k t hk ⟨⟨h1, h2, h3⟩, h4⟩
    obtain ⟨p1, p2, p3, p4, p5⟩ := ptN_b (cl := cl) hG.1 k (by omega)
    have hGt := cG_fr hG h4 (by intro k; unfold pP; omega) (by intro k; unfold pP; omega) (by intro k; unfold pP; omega)
    show ∃ b, Paths_countParts_L1 (d + 5) (oI cl) (nI (ptN R C kd cl k).2.1) (nI k) t = Paths_countParts_L1 (d + 5) (oI cl) (nI (ptN R C kd cl (k + 1)).2.1) (nI (k + 1)) b ∧ _
    have skip : (ptB kd cl k && !(ptN R C kd cl k).1 k) = false → ∃ b, Paths_countParts_L1 (d + 5) (oI cl) (nI (ptN R C kd cl k).2.1) (nI (k + 1)) t = Paths_countParts_L1 (d + 5) (oI cl) (nI (ptN R C kd cl (k + 1)).2.1) (nI (k + 1)) b ∧ cPt b (ptN R C kd cl (k + 1)) ∧ fr pP s b := by
      intro q; rw [ptN_f q]; exact ⟨t, rfl, ⟨h1, h2, h3⟩, h4⟩
    rw [Paths_countParts_L1_eq, hGt.2.2.2.1, if_pos (of_eq_true (lt_t hk (by omega))), g_isWall hGt hk, bI_s, nI_1]
    by_cases hw : kd k = 1
    · rw [decide_eq_true hw, if_neg (by decide)]
      exact skip (by unfold ptB; rw [decide_eq_true hw]; rfl)
    · rw [decide_eq_false hw, if_pos (by decide)]
      by_cases hc : cl = some k
      · rw [if_pos (show nI k = oI cl by rw [hc, oI_s])]
        exact skip (by unfold ptB; rw [decide_eq_true hc, Bool.not_true, Bool.and_false, Bool.false_and])
      · have hne : ¬ nI k = oI cl := by
          cases hcl' : cl with
          | none => rw [oI_n]; exact m1_nn (by omega)
          | some c =>
            have := hcl c hcl'
            rw [oI_s]
            exact of_eq_false (eq_f (fun z => hc (by rw [hcl', z])) (by omega) (by omega))
        have hB : ptB kd cl k = true := by unfold ptB; rw [decide_eq_false hw, decide_eq_false hc]; rfl
        rw [if_neg hne, in_t (show k < 36 by omega) (by omega), if_pos rfl, n_cl (by omega), h1 k (by omega)]
        cases hs : (ptN R C kd cl k).1 k with
        | true =>
          rw [if_neg (by decide)]
          exact skip (by rw [hs, Bool.not_true, Bool.and_false])
        | false =>
          have hq : (ptB kd cl k && !(ptN R C kd cl k).1 k) = true := by rw [hB, hs]; rfl
          have hI := spr_inv (cl := cl) hG.1 hk (ptB_ok hB)
          have hl := bInv_len hI
          rw [if_pos (show nI (b1 false) = 0 from rfl), Paths_countPart_eq]
          obtain ⟨u, e1, e2, e3⟩ := c_spread (d := d) (cl := cl) hGt hcl hk (ptB_ok hB)
          generalize hst : spr R C kd cl k = st at hI hl e1 e2
          rw [e1, bI_s, nI_1, ptN_t hq, hst]
          obtain ⟨v, q1, q2, q3⟩ := chainE st.1.length (fun i (t : xS) => Paths_countPart_L1 (d + 4) (nI k) (nI st.1.length) (nI i) t) (fun i t => (∀ g, g < 36 → t.1 32 0 g = nI (b1 ((ptN R C kd cl k).1 g || decide (∃ j, j < i ∧ st.1.getD j 0 = g)))) ∧ fr (fun c _ _ => c = 32) u t) (by
            rintro i t' hi ⟨g1, g2⟩
            have hm := (hI.2.1 _ (getD_mem hi)).1
            show ∃ b, Paths_countPart_L1 (d + 4) (nI k) (nI st.1.length) (nI i) t' = Paths_countPart_L1 (d + 4) (nI k) (nI st.1.length) (nI (i + 1)) b ∧ _
            rw [Paths_countPart_L1_eq, if_pos (of_eq_true (lt_t hi (by omega))), in_t (show i < 36 by omega) (by omega), if_pos rfl, n_cl (by omega), (g2 31 0 i (by omega)).1, e2.1 i hi, in_t (show st.1.getD i 0 < 36 by omega) (by omega), if_pos rfl, n_cl (by omega), nI_1]
            refine ⟨_, rfl, fun g hg => ?_, fr_wI g2 rfl⟩
            by_cases eg : g = st.1.getD i 0
            · rw [eg, wI_s1, decide_eq_true ⟨i, by omega, rfl⟩, Bool.or_true]; rfl
            · rw [wI_nk eg, g1 g hg]
              congr 2
              have : (∃ j, j < i ∧ st.1.getD j 0 = g) ↔ (∃ j, j < i + 1 ∧ st.1.getD j 0 = g) := by
                constructor
                · rintro ⟨j, a, b⟩; exact ⟨j, by omega, b⟩
                · rintro ⟨j, a, b⟩
                  refine ⟨j, ?_, b⟩
                  rcases Nat.lt_or_ge j i with z | z
                  · exact z
                  · have : j = i := by omega
                    rw [this] at b; exact absurd b.symm eg
              simp only [this]) st.1.length 0 u (by omega) ⟨fun g hg => by
                rw [(e3 32 0 g (by unfold pB; omega)).1, h1 g hg]
                congr 2
                rw [decide_eq_false (fun ⟨j, a, _⟩ => by omega), Bool.or_false], fr_r _ _⟩
          have q1' : Paths_countPart_L1 (d + 4) (nI k) (nI st.1.length) 0 u = Paths_countPart_L1 (d + 4) (nI k) (nI st.1.length) (nI st.1.length) v := q1
          have v6 : v.1 8 0 6 = nI (ptN R C kd cl k).2.2.1 := by rw [(q3 8 0 6 (by omega)).1, (e3 8 0 6 (by unfold pB; omega)).1, h2]
          have fv : fr pP s v := fr_t (fr_t h4 (fr_m e3 (fun c _ _ h => by unfold pB at h; unfold pP; omega))) (fr_m q3 (fun c _ _ h => by unfold pP; omega))
          have mem : ∀ t : xS, (∀ g, g < 36 → t.1 32 0 g = v.1 32 0 g) → ∀ g, g < 36 → t.1 32 0 g = nI (b1 ((ptN R C kd cl k).1 g || decide (g ∈ st.1))) := by
            intro t ht g hg
            rw [ht g hg, q2 g hg]
            congr 2
            have : (∃ j, j < st.1.length ∧ st.1.getD j 0 = g) ↔ g ∈ st.1 := by
              constructor
              · rintro ⟨j, a, b⟩; rw [← b]; exact getD_mem a
              · intro h
                obtain ⟨j, a, b⟩ := List.getElem_of_mem h
                exact ⟨j, a, by rw [List.getD_eq_getElem?_getD, List.getElem?_eq_getElem a]; exact b⟩
            simp only [this]
          rw [q1', Paths_countPart_L1_eq, if_neg (of_eq_false (lt_f (Nat.le_refl _) (by omega))), v6]
          by_cases hlt : (ptN R C kd cl k).2.2.1 < st.1.length
          · rw [if_pos (of_eq_true (lt_t hlt (by omega))), bV_s, if_pos hlt, if_pos hlt]
            refine ⟨_, rfl, ⟨mem _ (fun g _ => by rw [wI_nc (by omega), wI_nc (by omega)]), by rw [wI_nk (by omega), wI_s1], fun _ => by rw [wI_s1]⟩, fr_wI (fr_wI fv (by unfold pP; omega)) (by unfold pP; omega)⟩
          · rw [if_neg (of_eq_false (lt_f (by omega) (by omega))), bV_s, if_neg hlt, if_neg hlt]
            refine ⟨v, rfl, ⟨mem v (fun _ _ => rfl), v6, fun _ => ?_⟩, fv⟩
            have hpos : 0 < (ptN R C kd cl k).2.1 := by
              rcases Nat.eq_zero_or_pos (ptN R C kd cl k).2.1 with z | z
              · have := p5 z
                have := hI.2.2.2.1 k 0 hI.2.2.2.2.1
                omega
              · exact z
            show v.1 8 0 7 = nI (ptN R C kd cl k).2.2.2
            rw [(q3 8 0 7 (by omega)).1, (e3 8 0 7 (by unfold pB; omega)).1]; exact h3 hpos) (R * C) 0 (wI (wI (x_fillF s 32 0 36 0) 8 0 6 0) 8 0 7 (-1)) (by omega) ⟨⟨fun g hg => by
              rw [wI_nc (by omega), wI_nc (by omega)]
              show (if _ then _ else _) = _
              rw [if_pos ⟨rfl, rfl, by omega, hg⟩]; rfl, by rw [wI_nk (by omega), wI_s1]; rfl, fun q => absurd q (Nat.lt_irrefl 0)⟩, f2⟩
  refine ⟨u, ?_, k2, k3⟩
  refine Eq.trans k1 ?_
  show Paths_countParts_L1 _ _ _ _ _ = _
  rw [Paths_countParts_L1_eq, (k3 2 0 4 (by unfold pP; omega)).1, hG.2.2.2.1, if_neg (of_eq_false (lt_f (Nat.le_refl _) (by omega)))]
/-- the reference's -/
def pG (c _i k : Nat) : Prop := c = 56 ∨ c = 57 ∨ (c = 13 ∧ (k = 39 ∨ k = 40))
theorem pG_RQ {c i k : Nat} (h : pG c i k) : pRQ c i k := by unfold pG at h; unfold pRQ; omega
def rPt (s : xS) (p : pS) : Prop := s.1 13 0 39 = nI p.2.2.1 ∧ (0 < p.2.1 → s.1 13 0 40 = nI p.2.2.2)
theorem m_parts (hG : rG s R C kd) (h38 : s.1 13 0 38 = oI cl) (hcl : ∀ c, cl = some c → c < 36) : ∃ u, ev (d + 7) f_Ref_partsMany [vR 13 0] s = some (some (vI (nI (ptN R C kd cl (R * C)).2.1)), u) ∧ rPt u (ptN R C kd cl (R * C)) ∧ fr pG s u := by
  have b36 := gOk_36 hG.1
  rw [Ref_partsMany_eq]
  obtain ⟨⟨bb, u⟩, k1, k2, k3, k4, k5⟩ := chainE (R * C) (fun k (p : Nat × xS) => Ref_partsMany_L1 (d + 6) (lN p.1) (nI (ptN R C kd cl k).2.1) (nI k) p.2) (fun k p => (∀ g, g < 36 → p.1.testBit g = (ptN R C kd cl k).1 g) ∧ p.1 < 68719476736 ∧ rPt p.2 (ptN R C kd cl k) ∧ fr pG s p.2) (by
    rintro k ⟨bb, t⟩ hk ⟨h1, h2, ⟨h3, h3'⟩, h4⟩
    dsimp only at h1 h2 h3 h3' h4
    obtain ⟨p1, p2, p3, p4, p5⟩ := ptN_b (cl := cl) hG.1 k (by omega)
    have hGt := rG_fr hG h4 (by unfold pG; omega) (by unfold pG; omega) (by intro k; unfold pG; omega)
    have h38t : t.1 13 0 38 = oI cl := by rw [(h4 13 0 38 (by unfold pG; omega)).1]; exact h38
    show ∃ b : Nat × xS, Ref_partsMany_L1 (d + 6) (lN bb) (nI (ptN R C kd cl k).2.1) (nI k) t = Ref_partsMany_L1 (d + 6) (lN b.1) (nI (ptN R C kd cl (k + 1)).2.1) (nI (k + 1)) b.2 ∧ _
    have skip : (ptB kd cl k && !(ptN R C kd cl k).1 k) = false → ∃ b : Nat × xS, Ref_partsMany_L1 (d + 6) (lN bb) (nI (ptN R C kd cl k).2.1) (nI (k + 1)) t = Ref_partsMany_L1 (d + 6) (lN b.1) (nI (ptN R C kd cl (k + 1)).2.1) (nI (k + 1)) b.2 ∧ (∀ g, g < 36 → b.1.testBit g = (ptN R C kd cl (k + 1)).1 g) ∧ b.1 < 68719476736 ∧ rPt b.2 (ptN R C kd cl (k + 1)) ∧ fr pG s b.2 := by
      intro q; rw [ptN_f q]; exact ⟨(bb, t), rfl, h1, h2, ⟨h3, h3'⟩, h4⟩
    rw [Ref_partsMany_L1_eq, m_fields hGt, bI_s, if_pos (of_eq_true (lt_t hk (by omega))), m_isFree1 hGt h38t hcl hk, bI_s, nI_1]
    cases hB : ptB kd cl k with
    | false =>
      have hB' : (!decide (kd k = 1) && !decide (cl = some k)) = false := hB
      rw [hB', if_pos (by decide)]
      exact skip (by rw [hB]; rfl)
    | true =>
      have hB' : (!decide (kd k = 1) && !decide (cl = some k)) = true := hB
      rw [hB', if_neg (by decide), m_has (by omega) (by omega), bI_s, h1 k (by omega)]
      cases hs : (ptN R C kd cl k).1 k with
      | true => rw [if_neg (by decide)]; exact skip (by rw [hs, Bool.not_true, Bool.and_false])
      | false =>
        have hq : (ptB kd cl k && !(ptN R C kd cl k).1 k) = true := by rw [hB, hs]; rfl
        have hI := spr_inv (cl := cl) hG.1 hk (ptB_ok hB)
        have hl := bInv_len hI
        rw [if_pos (by decide)]
        obtain ⟨u, e1, e2, e3⟩ := m_lays (d := d + 1) (cl := cl) hGt h38t hcl hk (ptB_ok hB)
        generalize hst : spr R C kd cl k = st at hI hl e1 e2
        rw [e1, bI_s, ptN_t hq, hst]
        obtain ⟨bb', q1, q2, q3⟩ := chainE st.1.length (fun i (b : Nat) => Ref_partsMany_L2 (d + 6) (lN b) (nI (ptN R C kd cl k).2.1) (nI k) (nI st.1.length) (nI i) u) (fun i b => (∀ g, g < 36 → b.testBit g = ((ptN R C kd cl k).1 g || decide (∃ j, j < i ∧ st.1.getD j 0 = g))) ∧ b < 68719476736) (by
          rintro i b hi ⟨g1, g2⟩
          have hm := (hI.2.1 _ (getD_mem hi)).1
          show ∃ b', Ref_partsMany_L2 (d + 6) (lN b) _ _ _ (nI i) u = Ref_partsMany_L2 (d + 6) (lN b') _ _ _ (nI (i + 1)) u ∧ _
          rw [Ref_partsMany_L2_eq, if_pos (of_eq_true (lt_t hi (by omega))), in_t (show i < 36 by omega) (by omega), if_pos rfl, n_cl (by omega), e2.1 i hi, jl_1shl (by omega), fb_orL, nI_1]
          refine ⟨b ||| 2 ^ st.1.getD i 0, rfl, fun g hg => ?_, ?_⟩
          · rw [tb_or, g1 g hg, tb_p2]
            by_cases eg : st.1.getD i 0 = g
            · rw [decide_eq_true eg, Bool.or_true, decide_eq_true ⟨i, by omega, eg⟩, Bool.or_true]
            · rw [decide_eq_false eg, Bool.or_false]
              have : (∃ j, j < i ∧ st.1.getD j 0 = g) ↔ (∃ j, j < i + 1 ∧ st.1.getD j 0 = g) := by
                constructor
                · rintro ⟨j, a, b⟩; exact ⟨j, by omega, b⟩
                · rintro ⟨j, a, b⟩
                  refine ⟨j, ?_, b⟩
                  rcases Nat.lt_or_ge j i with z | z
                  · exact z
                  · have : j = i := by omega
                    rw [this] at b; exact absurd b eg
              simp only [this]
          · refine Nat.or_lt_two_pow (n := 36) g2 ?_
            exact Nat.pow_lt_pow_right (by omega) (by omega)) st.1.length 0 bb (by omega) ⟨fun g hg => by
              rw [h1 g hg, decide_eq_false (fun ⟨j, a, _⟩ => by omega), Bool.or_false], h2⟩
        have q1' : Ref_partsMany_L2 (d + 6) (lN bb) (nI (ptN R C kd cl k).2.1) (nI k) (nI st.1.length) 0 u = Ref_partsMany_L2 (d + 6) (lN bb') (nI (ptN R C kd cl k).2.1) (nI k) (nI st.1.length) (nI st.1.length) u := q1
        have u39 : u.1 13 0 39 = nI (ptN R C kd cl k).2.2.1 := by rw [(e3 13 0 39 (by unfold pD; omega)).1, h3]
        have u40 : 0 < (ptN R C kd cl k).2.1 → u.1 13 0 40 = nI (ptN R C kd cl k).2.2.2 := fun z => by rw [(e3 13 0 40 (by unfold pD; omega)).1, h3' z]
        have fu : fr pG s u := fr_t h4 (fr_m e3 (fun c _ _ h => by unfold pD at h; unfold pG; omega))
        have mem : ∀ g, g < 36 → bb'.testBit g = ((ptN R C kd cl k).1 g || decide (g ∈ st.1)) := by
          intro g hg
          rw [q2 g hg]
          have : (∃ j, j < st.1.length ∧ st.1.getD j 0 = g) ↔ g ∈ st.1 := by
            constructor
            · rintro ⟨j, a, b⟩; rw [← b]; exact getD_mem a
            · intro h
              obtain ⟨j, a, b⟩ := List.getElem_of_mem h
              exact ⟨j, a, by rw [List.getD_eq_getElem?_getD, List.getElem?_eq_getElem a]; exact b⟩
          simp only [this]
        have j3 : ∀ x : Int32, Ref_partsMany_J3 (d + 6) (lN bb') (nI (ptN R C kd cl k).2.1) (nI k) (nI st.1.length) x u = Ref_partsMany_L1 (d + 6) (lN bb') (nI ((ptN R C kd cl k).2.1 + 1)) (nI (k + 1)) (wI (wI u 13 0 40 x) 13 0 39 (nI (max (ptN R C kd cl k).2.2.1 st.1.length))) := by
          intro x
          rw [Ref_partsMany_J3_eq, u39, max_s, bI_s, n_max (by omega) (by omega), nI_1, nI_1]
        rw [q1', Ref_partsMany_L2_eq, if_neg (of_eq_false (lt_f (Nat.le_refl _) (by omega))), u39, j3, j3]
        by_cases hlt : (ptN R C kd cl k).2.2.1 < st.1.length
        · rw [if_pos (of_eq_true (lt_t hlt (by omega))), if_pos hlt, if_pos hlt]
          refine ⟨(bb', wI (wI u 13 0 40 (nI k)) 13 0 39 (nI (max (ptN R C kd cl k).2.2.1 st.1.length))), rfl, mem, q3, ⟨by show (wI (wI u 13 0 40 (nI k)) 13 0 39 (nI (max (ptN R C kd cl k).2.2.1 st.1.length))).1 13 0 39 = nI st.1.length; rw [wI_s1, Nat.max_eq_right (by omega)], fun _ => by show (wI (wI u 13 0 40 (nI k)) 13 0 39 (nI (max (ptN R C kd cl k).2.2.1 st.1.length))).1 13 0 40 = nI k; rw [wI_nk (by omega), wI_s1]⟩, fr_wI (fr_wI fu (by unfold pG; omega)) (by unfold pG; omega)⟩
        · rw [if_neg (of_eq_false (lt_f (by omega) (by omega))), if_neg hlt, if_neg hlt]
          have hpos : 0 < (ptN R C kd cl k).2.1 := by
            rcases Nat.eq_zero_or_pos (ptN R C kd cl k).2.1 with z | z
            · have := p5 z
              have := hI.2.2.2.1 k 0 hI.2.2.2.2.1
              omega
            · exact z
          refine ⟨(bb', wI (wI u 13 0 40 (u.1 13 0 40)) 13 0 39 (nI (max (ptN R C kd cl k).2.2.1 st.1.length))), rfl, mem, q3, ⟨by show (wI (wI u 13 0 40 (u.1 13 0 40)) 13 0 39 (nI (max (ptN R C kd cl k).2.2.1 st.1.length))).1 13 0 39 = nI (ptN R C kd cl k).2.2.1; rw [wI_s1, Nat.max_eq_left (by omega)], fun _ => by show (wI (wI u 13 0 40 (u.1 13 0 40)) 13 0 39 (nI (max (ptN R C kd cl k).2.2.1 st.1.length))).1 13 0 40 = nI (ptN R C kd cl k).2.2.2; rw [wI_nk (by omega), wI_s1]; exact u40 hpos⟩, fr_wI (fr_wI fu (by unfold pG; omega)) (by unfold pG; omega)⟩) (R * C) 0 (0, wI s 13 0 39 0) (by omega) ⟨fun g hg => by show (0 : Nat).testBit g = false; exact Nat.zero_testBit g, (show (0 : Nat) < 68719476736 by decide), ⟨by rw [wI_s1]; rfl, fun q => absurd q (Nat.lt_irrefl 0)⟩, fr_wI (fr_r _ _) (by unfold pG; omega)⟩
  dsimp only at k1 k2 k3 k4 k5
  refine ⟨u, ?_, k4, k5⟩
  refine Eq.trans k1 ?_
  rw [Ref_partsMany_L1_eq, m_fields (rG_fr hG k5 (by unfold pG; omega) (by unfold pG; omega) (by intro k; unfold pG; omega)), bI_s, if_neg (of_eq_false (lt_f (Nat.le_refl _) (by omega)))]
theorem q_parts : ∃ a r, (∀ s, CQ s R C kd n F W V lo M L l → QC s (ev (d + 9) f_Main_parts [vR 0 0] s) a r) ∧ (∀ s, RQ s R C kd n F W V lo M L l → QR s (ev (d + 9) f_Ref_parts [vR 13 0] s) a r) := by
  by_cases hgo : gOk R C kd
  case neg => exact ⟨0, [], fun s h => absurd h.1.1 hgo, fun s h => absurd h.1.1 hgo⟩
  have b36 := gOk_36 hgo
  have n38 : ∀ c, (none : Option Nat) = some c → c < 36 := fun c h => by cases h
  obtain ⟨p1, p2, p3, p4, p5⟩ := ptN_b (cl := none) hgo (R * C) (Nat.le_refl _)
  refine ⟨nI (ptN R C kd none (R * C)).2.1, (if 0 < (ptN R C kd none (R * C)).2.1 then [lN (ptN R C kd none (R * C)).2.2.1, lN (ptN R C kd none (R * C)).2.2.2] else []), fun s h => ?_, fun s h => ?_⟩
  · obtain ⟨u, e1, e2, e3⟩ := c_parts (d := d + 2) (cl := none) h.1 n38
    have e1' : ev (d + 8) f_Paths_countParts [vR 8 0, vI (-1)] s = some (some (vI (nI (ptN R C kd none (R * C)).2.1)), u) := e1
    obtain ⟨u2, k1, k2, k3⟩ := n_clear (d := d + 7) (s := u)
    rw [Main_parts_eq, e1', bI_s, k1, bV_s, nl_0]
    have f9 := fr_t (fr_m e3 (fun _ _ _ => pP_CQ)) (fr_m k3 (fun _ _ _ => pN_CQ))
    by_cases z : 0 < (ptN R C kd none (R * C)).2.1
    · obtain ⟨v, g1, g2, g3⟩ := n_tellTwo (d := d + 5) (s := u2) (x := lN (ptN R C kd none (R * C)).2.2.1) (y := lN (ptN R C kd none (R * C)).2.2.2)
      rw [if_pos (of_eq_true (lt_t z (by omega))), if_pos z, (k3 8 0 6 (by unfold pN; omega)).1, (k3 8 0 7 (by unfold pN; omega)).1, e2.2.1, e2.2.2 z, nI_l (by omega), nI_l (by omega), g1, bV_s]
      exact ⟨v, rfl, g2, fr_t f9 (fr_m g3 (fun _ _ _ => pN_CQ))⟩
    · rw [if_neg (of_eq_false (lt_f (by omega) (by omega))), if_neg z]
      exact ⟨u2, rfl, k2, f9⟩
  · obtain ⟨hG, hO, hR, hrow, h38⟩ := RQ_0 h
    obtain ⟨u, e1, e2, e3⟩ := m_parts (d := d + 1) (cl := none) hG (by rw [h38]; rfl) n38
    have f9 := fr_t (fr_m fr_0 (fun _ _ _ => p0_RQ)) (fr_m e3 (fun _ _ _ => pG_RQ))
    rw [Ref_parts_eq, e1, bI_s]
    by_cases z : 0 < (ptN R C kd none (R * C)).2.1
    · obtain ⟨v1, v2, g1, g2, g3, g4, g5⟩ := m_ent2 (d + 7) u (lN (ptN R C kd none (R * C)).2.2.1) (lN (ptN R C kd none (R * C)).2.2.2)
      rw [if_pos (show (0 : Int32) < nI (ptN R C kd none (R * C)).2.1 from of_eq_true (lt_t (a := 0) z (by omega))), if_pos z, e2.1, nI_l (by omega), g1, bV_s, (g2 13 0 40 (by unfold pT; omega)).1, e2.2 z, nI_l (by omega), g3, bV_s]
      exact ⟨v2, rfl, g4, fr_t f9 (fr_m g5 (fun _ _ _ => pT_RQ))⟩
    · obtain ⟨i1, i2⟩ := m_told0 (s := u)
      rw [if_neg (show ¬ (0 : Int32) < nI (ptN R C kd none (R * C)).2.1 from of_eq_false (lt_f (b := (ptN R C kd none (R * C)).2.1) (a := 0) (by omega) (by omega))), if_neg z]
      exact ⟨_, rfl, i1, fr_t f9 (fr_m i2 (fun _ _ _ => pT_RQ))⟩
def gaB (R C : Nat) (kd : Nat → Nat) (f : Nat) : Bool := !decide (kd f = 1) && decide ((ptN R C kd none (R * C)).2.1 < (ptN R C kd (some f) (R * C)).2.1)
theorem q_gates : ∃ a r, (∀ s, CQ s R C kd n F W V lo M L l → QC s (ev (d + 9) f_Main_gates [vR 0 0] s) a r) ∧ (∀ s, RQ s R C kd n F W V lo M L l → QR s (ev (d + 9) f_Ref_gates [vR 13 0] s) a r) := by
  by_cases hgo : gOk R C kd
  case neg => exact ⟨0, [], fun s h => absurd h.1.1 hgo, fun s h => absurd h.1.1 hgo⟩
  have b36 := gOk_36 hgo
  have n38 : ∀ c, (none : Option Nat) = some c → c < 36 := fun c h => by cases h
  have pb : ∀ cl, (ptN R C kd cl (R * C)).2.1 ≤ R * C := fun cl => (ptN_b (cl := cl) hgo (R * C) (Nat.le_refl _)).1
  have pb0 := pb none
  have cl := cnt_le (gaB R C kd)
  refine ⟨nI (cnt (gaB R C kd) (R * C)), flO (fo (gaB R C kd) (R * C)), fun s h => ?_, fun s h => ?_⟩
  · have hG := h.1
    obtain ⟨u, e1, e2, e3⟩ := c_parts (d := d + 2) (cl := none) hG n38
    have e1' : ev (d + 8) f_Paths_countParts [vR 8 0, vI (-1)] s = some (some (vI (nI (ptN R C kd none (R * C)).2.1)), u) := e1
    obtain ⟨u2, k1, k2, k3⟩ := n_clear (d := d + 7) (s := u)
    have f9 : fr (fun c i k => pP c i k ∨ pN c i k) s u2 := fr_t (fr_m e3 (fun _ _ _ => Or.inl)) (fr_m k3 (fun _ _ _ => Or.inr))
    obtain ⟨v, c2, c3⟩ := chainE (R * C) (fun k (t : xS) => Main_gates_L1 (d + 8) (nI (ptN R C kd none (R * C)).2.1) (nI (cnt (gaB R C kd) k)) (nI k) t) (fun k t => cRow t (flO (fo (gaB R C kd) k)) ∧ fr (fun c i k => pP c i k ∨ pN c i k) s t) (by
      rintro k t hk ⟨h1, h2⟩
      have hGt := cG_fr hG h2 (by intro k; unfold pP pN; omega) (by intro k; unfold pP pN; omega) (by intro k; unfold pP pN; omega)
      show ∃ b, Main_gates_L1 (d + 8) (nI (ptN R C kd none (R * C)).2.1) (nI (cnt (gaB R C kd) k)) (nI k) t = Main_gates_L1 (d + 8) (nI (ptN R C kd none (R * C)).2.1) (nI (cnt (gaB R C kd) (k + 1))) (nI (k + 1)) b ∧ _
      rw [Main_gates_L1_eq, hGt.2.2.2.1, if_pos (of_eq_true (lt_t hk (by omega))), g_isWall hGt hk, bI_s, nI_1, nI_1]
      by_cases hw : kd k = 1
      · have hp : gaB R C kd k = false := by unfold gaB; rw [decide_eq_true hw]; rfl
        rw [decide_eq_true hw, if_neg (by decide), cnt_f hp, fo_sf hp]
        exact ⟨t, rfl, h1, h2⟩
      · obtain ⟨u, g1, g2, g3⟩ := c_parts (d := d + 2) (cl := some k) hGt (fun c h => by cases h; omega)
        have g1' : ev (d + 8) f_Paths_countParts [vR 8 0, vI (nI k)] t = some (some (vI (nI (ptN R C kd (some k) (R * C)).2.1)), u) := by rw [← oI_s]; exact g1
        have pk := pb (some k)
        have h1' := cRow_fr h1 g3 (by unfold pP; omega) (by intro k; unfold pP; omega)
        have h2' := fr_t h2 (fr_m g3 (fun _ _ _ h => Or.inl h))
        rw [decide_eq_false hw, if_pos (by decide), g1', bI_s]
        by_cases hlt : (ptN R C kd none (R * C)).2.1 < (ptN R C kd (some k) (R * C)).2.1
        · have hp : gaB R C kd k = true := by unfold gaB; rw [decide_eq_false hw, decide_eq_true hlt]; rfl
          obtain ⟨v, q1, q2, q3⟩ := n_addFirst (d := d + 6) (x := lN k) h1'
          rw [if_pos (of_eq_true (lt_t hlt (by omega))), nI_l (by omega), q1, bV_s, cnt_t hp, fo_st hp]
          exact ⟨v, rfl, q2, fr_t h2' (fr_m q3 (fun _ _ _ h => Or.inr h))⟩
        · have hp : gaB R C kd k = false := by unfold gaB; rw [decide_eq_false hlt, Bool.and_false]
          rw [if_neg (of_eq_false (lt_f (by omega) (by omega))), cnt_f hp, fo_sf hp]
          exact ⟨u, rfl, h1', h2'⟩) (R * C) 0 u2 (by omega) ⟨k2, f9⟩
    refine ⟨v, ?_, c3.1, fr_m c3.2 (fun _ _ _ h => h.elim pP_CQ pN_CQ)⟩
    rw [Main_gates_eq, e1', bI_s, k1, bV_s]
    refine c2.trans ?_
    show Main_gates_L1 _ _ _ _ _ = _
    rw [Main_gates_L1_eq, (c3.2 2 0 4 (by unfold pP pN; omega)).1, hG.2.2.2.1, if_neg (of_eq_false (lt_f (Nat.le_refl _) (by omega)))]
  · obtain ⟨hG, hO, hR, hrow, h38⟩ := RQ_0 h
    have h38' : (wI s 13 0 0 0).1 13 0 38 = oI none := by rw [h38]; rfl
    obtain ⟨u, e1, e2, e3⟩ := m_parts (d := d + 1) (cl := none) hG h38' n38
    obtain ⟨i1, i2⟩ := m_told0 (s := u)
    have f9 : fr (fun c i k => pG c i k ∨ pT c i k) (wI s 13 0 0 0) (wI u 13 0 1 0) := fr_t (fr_m e3 (fun _ _ _ => Or.inl)) (fr_m i2 (fun _ _ _ => Or.inr))
    obtain ⟨v, c2, c3⟩ := chainE (R * C) (fun k (t : xS) => Ref_gates_L1 (d + 8) (nI (ptN R C kd none (R * C)).2.1) (nI (cnt (gaB R C kd) k)) (nI k) t) (fun k t => rRow t (flO (fo (gaB R C kd) k)) ∧ fr (fun c i k => pG c i k ∨ pT c i k) (wI s 13 0 0 0) t) (by
      rintro k t hk ⟨h1, h2⟩
      have hGt := rG_fr hG h2 (by unfold pG pT; omega) (by unfold pG pT; omega) (by intro k; unfold pG pT; omega)
      have h38t : t.1 13 0 38 = oI none := by rw [(h2 13 0 38 (by unfold pG pT; omega)).1]; exact h38'
      have j3 : ∀ (b : Bool) (c : Nat) (t : xS), Ref_gates_J3 (d + 8) (nI (ptN R C kd none (R * C)).2.1) (nI c) (nI k) (ib b) t = Ref_gates_L1 (d + 8) (nI (ptN R C kd none (R * C)).2.1) (nI (c + b1 b)) (nI (k + 1)) t := by
        intro b c t
        rw [Ref_gates_J3_eq, m_flag, bI_s, n_addib, nI_1]
      show ∃ b, Ref_gates_L1 (d + 8) (nI (ptN R C kd none (R * C)).2.1) (nI (cnt (gaB R C kd) k)) (nI k) t = Ref_gates_L1 (d + 8) (nI (ptN R C kd none (R * C)).2.1) (nI (cnt (gaB R C kd) (k + 1))) (nI (k + 1)) b ∧ _
      rw [Ref_gates_L1_eq, m_fields hGt, bI_s, if_pos (of_eq_true (lt_t hk (by omega))), m_isOpen hGt hk, bI_s, nI_1]
      by_cases hw : kd k = 1
      · have hp : gaB R C kd k = false := by unfold gaB; rw [decide_eq_true hw]; rfl
        rw [decide_eq_true hw, if_pos (by decide), cnt_f hp, fo_sf hp]
        exact ⟨t, rfl, h1, h2⟩
      · have f38 : fr (fun c _ k => c = 13 ∧ k = 38) t (wI t 13 0 38 (nI k)) := fr_wI (fr_r _ _) ⟨rfl, rfl⟩
        obtain ⟨u, g1, g2, g3⟩ := m_parts (d := d + 1) (cl := some k) (rG_fr hGt f38 (by omega) (by omega) (by omega)) (by rw [wI_s1, oI_s]) (fun c h => by cases h; omega)
        have pk := pb (some k)
        have back : ∀ w : xS, fr (fun c i k => pG c i k ∨ pT c i k) (wI u 13 0 38 (-1)) w → fr (fun c i k => pG c i k ∨ pT c i k) (wI s 13 0 0 0) w := by
          intro w hw c i kk hp
          have hw' := hw c i kk hp
          by_cases e : c = 13 ∧ kk = 38 ∧ i = 0
          · obtain ⟨rfl, rfl, rfl⟩ := e
            refine ⟨?_, ?_⟩
            · rw [hw'.1, wI_s1]
              have := (h2 13 0 38 hp).1
              rw [← this, h38t]; rfl
            · rw [hw'.2, wI_s2, (g3 13 0 38 (fun z => hp (Or.inl z))).2, wI_s2, (h2 13 0 38 hp).2]
          · refine ⟨?_, ?_⟩
            · rw [hw'.1, wI_get, if_neg (fun z => e ⟨z.1, z.2.1, z.2.2⟩), (g3 c i kk (fun z => hp (Or.inl z))).1, wI_get, if_neg (fun z => e ⟨z.1, z.2.1, z.2.2⟩), (h2 c i kk hp).1]
            · rw [hw'.2, wI_s2, (g3 c i kk (fun z => hp (Or.inl z))).2, wI_s2, (h2 c i kk hp).2]
        have hru : rRow (wI u 13 0 38 (-1)) (flO (fo (gaB R C kd) k)) := by
          have a := rRow_fr h1 f38 (by omega) (by omega)
          have b := rRow_fr a g3 (by unfold pG; omega) (by intro k; unfold pG; omega)
          exact rRow_fr (p := fun c _ k => c = 13 ∧ k = 38) b (fr_wI (fr_r _ _) ⟨rfl, rfl⟩) (by omega) (by omega)
        rw [decide_eq_false hw, if_neg (by decide), g1, bI_s]
        by_cases hlt : (ptN R C kd none (R * C)).2.1 < (ptN R C kd (some k) (R * C)).2.1
        · have hp : gaB R C kd k = true := by unfold gaB; rw [decide_eq_false hw, decide_eq_true hlt]; rfl
          have cl' := cl k
          rw [if_pos (of_eq_true (lt_t hlt (by omega))), Ref_gates_J2_eq, if_neg (by decide), cnt_t hp, fo_st hp]
          by_cases hc : cnt (gaB R C kd) k = 0
          · have hz : flO (fo (gaB R C kd) k) = [] := flO_n.mpr ((fo_cnt _ _).mp hc)
            rw [hz] at hru
            obtain ⟨w, q1, q2, q3⟩ := m_enters (d := d + 7) (x := lN k) hru (by simp)
            rw [if_pos (show nI (cnt (gaB R C kd) k) = 0 by rw [hc]; rfl), nI_l (by omega), q1, bV_s, show (1 : Int32) = ib true from rfl, j3, hz, if_pos rfl]
            exact ⟨w, rfl, q2, back w (fr_m q3 (fun _ _ _ h => Or.inr h))⟩
          · have hz : flO (fo (gaB R C kd) k) ≠ [] := fun q => hc ((fo_cnt _ _).mpr (flO_n.mp q))
            rw [if_neg (show ¬ nI (cnt (gaB R C kd) k) = 0 from of_eq_false (eq_f (b := 0) hc (by omega) (by omega))), show (1 : Int32) = ib true from rfl, j3, if_neg hz]
            exact ⟨_, rfl, hru, back _ (fr_r _ _)⟩
        · have hp : gaB R C kd k = false := by unfold gaB; rw [decide_eq_false hlt, Bool.and_false]
          rw [if_neg (of_eq_false (lt_f (by omega) (by omega))), Ref_gates_J2_eq, if_pos (by rfl), show (0 : Int32) = ib false from rfl, j3, cnt_f hp, fo_sf hp]
          exact ⟨_, rfl, hru, back _ (fr_r _ _)⟩) (R * C) 0 _ (by omega) ⟨i1, f9⟩
    refine ⟨v, ?_, c3.1, fr_t (fr_m fr_0 (fun _ _ _ => p0_RQ)) (fr_m c3.2 (fun _ _ _ h => h.elim pG_RQ pT_RQ))⟩
    rw [Ref_gates_eq, e1, bI_s]
    refine c2.trans ?_
    show Ref_gates_L1 _ _ _ _ _ = _
    rw [Ref_gates_L1_eq, m_fields (rG_fr hG c3.2 (by unfold pG pT; omega) (by unfold pG pT; omega) (by intro k; unfold pG pT; omega)), bI_s, if_neg (of_eq_false (lt_f (Nat.le_refl _) (by omega)))]
end PARTS

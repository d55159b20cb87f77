/-! forms, most: both spread alike. -/
section SPREADB
variable {d R C n p src : Nat} {kd : Nat → Nat} {S : Sn} {L : List Nat} {s t : xS}
theorem fillF_n {c k m c' i' k' : Nat} {y : Int32} (h : c' ≠ c) : (x_fillF s c k m y).1 c' i' k' = s.1 c' i' k' := if_neg (fun z => h z.1)
theorem fillF_i {c m k' : Nat} {y : Int32} (h : k' < m) : (x_fillF s c 0 m y).1 c 0 k' = y := if_pos ⟨rfl, rfl, Nat.zero_le _, h⟩
theorem cQ_add {st : qS} {a : xS} {g f w k : Nat} (h : cQ a st) (hg : g < 2304) (hl : st.1.length < 2304) : cQ (wI (wI (wI a 35 0 g (nI (4 * f + w))) 36 0 st.1.length (nI g)) 9 0 7 (nI (st.1.length + 1))) (st.1 ++ [g], up st.2 g (some (k + 1, f, w))) := by
  obtain ⟨h1, h2, h3⟩ := h
  have hlen : (st.1 ++ [g]).length = st.1.length + 1 := by rw [List.length_append]; rfl
  refine ⟨?_, fun i hi => ?_, fun y hy => ?_⟩
  · rw [wI_s1]
    show nI (st.1.length + 1) = nI (st.1 ++ [g]).length
    rw [hlen]
  · have hi : i < (st.1 ++ [g]).length := hi
    rw [hlen] at hi
    show _ = nI ((st.1 ++ [g]).getD i 0)
    rw [wI_nc (by omega)]
    by_cases z : i < st.1.length
    · rw [wI_nk (by omega), wI_nc (by omega), gD_l z]; exact h2 i z
    · rw [show i = st.1.length by omega, wI_s1, getN_app2]
  · show _ = orI (up st.2 g (some (k + 1, f, w)) y)
    rw [wI_nc (by omega), wI_nc (by omega)]
    by_cases z : y = g
    · rw [z, wI_s1, up_s]; rfl
    · rw [wI_nk z, up_n z]; exact h3 y hy
theorem rQ_add {st : qS} {a : xS} {g f w k : Nat} (h : rQ a st) (hg : g < 2304) (hl : st.1.length < 2304) : rQ (wI (wI (wI (wI (wI a 59 0 g (nI (k + 1))) 60 0 g (nI f)) 61 0 g (nI w)) 58 0 st.1.length (nI g)) 13 0 45 (nI (st.1.length + 1))) (st.1 ++ [g], up st.2 g (some (k + 1, f, w))) := by
  obtain ⟨h1, h2, h3, h4⟩ := h
  have hlen : (st.1 ++ [g]).length = st.1.length + 1 := by rw [List.length_append]; rfl
  refine ⟨?_, fun i hi => ?_, fun y hy => ?_, fun y k' f' w' hy e => ?_⟩
  · rw [wI_s1]
    show nI (st.1.length + 1) = nI (st.1 ++ [g]).length
    rw [hlen]
  · have hi : i < (st.1 ++ [g]).length := hi
    rw [hlen] at hi
    show _ = nI ((st.1 ++ [g]).getD i 0)
    rw [wI_nc (by omega)]
    by_cases z : i < st.1.length
    · rw [wI_nk (by omega), wI_nc (by omega), wI_nc (by omega), wI_nc (by omega), gD_l z]; exact h2 i z
    · rw [show i = st.1.length by omega, wI_s1, getN_app2]
  · show _ = stI (up st.2 g (some (k + 1, f, w)) y)
    rw [wI_nc (by omega), wI_nc (by omega), wI_nc (by omega), wI_nc (by omega)]
    by_cases z : y = g
    · rw [z, wI_s1, up_s]; rfl
    · rw [wI_nk z, up_n z]; exact h3 y hy
  · have e : up st.2 g (some (k + 1, f, w)) y = some (k' + 1, f', w') := e
    by_cases z : y = g
    · rw [z, up_s] at e
      have e := Option.some.inj e
      have y2 : f = f' := (Prod.mk.inj (Prod.mk.inj e).2).1
      have y3 : w = w' := (Prod.mk.inj (Prod.mk.inj e).2).2
      rw [z, ← y2, ← y3]
      exact ⟨by rw [wI_nc (by omega), wI_nc (by omega), wI_nc (by omega), wI_s1], by rw [wI_nc (by omega), wI_nc (by omega), wI_s1]⟩
    · rw [up_n z] at e
      obtain ⟨e1, e2⟩ := h4 y k' f' w' hy e
      exact ⟨by rw [wI_nc (by omega), wI_nc (by omega), wI_nc (by omega), wI_nk z, wI_nc (by omega)]; exact e1, by rw [wI_nc (by omega), wI_nc (by omega), wI_nk z, wI_nc (by omega), wI_nc (by omega)]; exact e2⟩
theorem q_room {st : qS} {N g : Nat} (h : qInv N src st) (hg : g < N) (hn : st.2 g = none) : st.1.length < N := by
  have hgn : g ∉ st.1 := fun z => (h.2.2.1 g).mpr z hn
  have h2 : (g :: st.1).Nodup := List.nodup_cons.mpr ⟨hgn, h.1⟩
  have := nodup_len (N := N) h2 (fun x hx => by
    rw [List.mem_cons] at hx
    rcases hx with rfl | hx
    · exact hg
    · exact h.2.1 x hx)
  exact this
theorem pSp_m {c i k : Nat} (h : pSp c i k) : c = 26 ∨ c = 25 ∨ (c = 5 ∧ k = 3) ∨ c = 37 ∨ c = 35 ∨ c = 36 ∨ (c = 9 ∧ k = 7) := by
  unfold pSp pPu pE at h; omega
/-- one place's four pushes, by the class -/
theorem c_sp4 {st : qS} {i : Nat} (hG : cG s R C kd) (hO : cOS s 0 n S) (ho : oOkS R C kd n S) (hR : cR s 0 (ruL L)) (hL : wfL (ruL L) 0) (hp : p < n) (h9 : s.1 9 0 9 = nI p) (hm : cPm s R C kd n S L p) (hI : qInv (64 * (R * C)) src st) (hq : cQ s st) (hi : i < st.1.length) : ∃ t, Search_spread_L2 (d + 4) (nI i) 0 s = Search_spread_L1 (d + 4) (nI (i + 1)) t ∧ cQ t (qws (nxP R C kd n S L p) (st.1.getD i 0) 4 st) ∧ cPm t R C kd n S L p ∧ fr pSp s t := by
  have b36 := gOk_36 hG.1
  have hN : 64 * (R * C) ≤ 2304 := by omega
  have hnx : ∀ f w g, f < 64 * (R * C) → w < 4 → nxP R C kd n S L p f w = some g → g < 64 * (R * C) := fun f w g hf hw h => nxP_lt hG.1 hf hw h
  have hf := getD_mem hi
  have hfN := hI.2.1 _ hf
  have hlen := qI_len hI
  obtain ⟨f, ef⟩ : ∃ f, st.1.getD i 0 = f := ⟨_, rfl⟩
  rw [ef] at hf hfN ⊢
  obtain ⟨t, k1, k2, k3, k4⟩ := chainE 4 (fun w (t : xS) => Search_spread_L2 (d + 4) (nI i) (nI w) t) (fun w t => cQ t (qws (nxP R C kd n S L p) f w st) ∧ cPm t R C kd n S L p ∧ fr pSp s t) (by
    rintro w t hw ⟨h1, h2, h3⟩
    obtain ⟨j1, j2, j3, j4⟩ := qws_inv hnx hI hf w (by omega)
    have h3' : fr (fun c i k => c = 26 ∨ c = 25 ∨ (c = 5 ∧ k = 3) ∨ c = 37 ∨ c = 35 ∨ c = 36 ∨ (c = 9 ∧ k = 7)) s t := fr_m h3 (fun _ _ _ => pSp_m)
    have hGt := cG_fr hG h3' (by omega) (by omega) (by omega)
    have hOt := cO_fr hO h3' (by omega) (by omega) (by omega) (by omega)
    obtain ⟨a, a1, a2, a3⟩ := c_pushed (d := d) hGt hOt ho (cR_fr hR h3' (by omega) (by omega)) hL hp (by rw [(h3' 9 0 9 (by omega)).1]; exact h9) h2 hfN hw
    obtain ⟨st', est⟩ : ∃ st', qws (nxP R C kd n S L p) f w st = st' := ⟨_, rfl⟩
    rw [est] at h1 j1 j2 j3 j4
    have hstep : qws (nxP R C kd n S L p) f (w + 1) st = qw (nxP R C kd n S L p) f w st' := by rw [← est]; rfl
    have h36 : t.1 36 0 i = nI f := by rw [h1.2.1 i (by omega), j4 i hi, ef]
    have hqa : cQ a st' := cQ_fr h1 a3 (by simp [pPu, pE]) (by intro k; simp [pPu, pE]) (by intro k; simp [pPu, pE])
    have fa : fr pSp s a := fr_t h3 (fr_m a3 (fun _ _ _ => Or.inl))
    have e0 : Search_spread_L2 (d + 4) (nI i) (nI w) t = bI (some (some (vI (oI (nxP R C kd n S L p f w))), a)) fun r3 s2 => if (r3 : Int32) = (-1) then Search_spread_L2 (d + 4) (nI i) (nI w + 1) s2 else if x_in r3 2304 then if (s2.1 35 0 (r3 : Int32).toNatClampNeg : Int32) = (-1) then if (s2.1 9 0 7 : Int32) < 2304 then if x_in (nI i) 2304 then if x_in r3 2304 then if x_in (s2.1 9 0 7) 2304 then Search_spread_L2 (d + 4) (nI i) (nI w + 1) (wI (wI (wI s2 35 0 (r3 : Int32).toNatClampNeg ((4 * (s2.1 36 0 (nI i : Int32).toNatClampNeg)) + nI w)) 36 0 (s2.1 9 0 7 : Int32).toNatClampNeg r3) 9 0 7 ((s2.1 9 0 7) + 1)) else none else none else none else Search_spread_L2 (d + 4) (nI i) (nI w + 1) s2 else Search_spread_L2 (d + 4) (nI i) (nI w + 1) s2 else none := by
      rw [Search_spread_L2_eq, if_pos (show nI w < 4 from of_eq_true (lt_t (b := 4) hw (by omega))), in_t (show i < 2304 by omega) (by omega), if_pos rfl, n_cl (by omega), h36, a1]
    show ∃ b, Search_spread_L2 (d + 4) (nI i) (nI w) t = Search_spread_L2 (d + 4) (nI i) (nI (w + 1)) b ∧ cQ b (qws (nxP R C kd n S L p) f (w + 1) st) ∧ _
    rw [hstep, e0, bI_s, nI_1]
    unfold qw
    cases hx : nxP R C kd n S L p f w with
    | none => exact ⟨a, by rw [oI_n, if_pos rfl], hqa, a2, fa⟩
    | some g =>
      have hg := hnx f w g hfN hw hx
      have hs := hqa.2.2 g (by omega)
      rw [oI_s, if_neg (m1_nn (by omega)), in_t (show g < 2304 by omega) (by omega), if_pos rfl, n_cl (by omega), hs]
      have horn := orI_n (o := st'.2 g) (fun k f' w' e => by have := (q_bd j1 hN e).2; omega)
      dsimp only
      cases hsg : st'.2 g with
      | some y =>
        rw [hsg] at horn
        rw [if_neg (fun z => by have := horn.mp z; cases this)]
        exact ⟨a, rfl, hqa, a2, fa⟩
      | none =>
        have hl := q_room j1 hg hsg
        rw [if_pos (by rfl), hqa.1, if_pos (show nI st'.1.length < 2304 from of_eq_true (lt_t (b := 2304) (by omega) (by omega))), in_t (show i < 2304 by omega) (by omega), if_pos rfl, if_pos rfl, in_t (show st'.1.length < 2304 by omega) (by omega), if_pos rfl, n_cl (show i < 2147483648 by omega), n_cl (show st'.1.length < 2147483648 by omega), nI_1, (a3 36 0 i (by simp [pPu, pE])).1, h36, nl_4, pk_mul, nI_add]
        have fb : fr pSp a (wI (wI (wI a 35 0 g (nI (4 * f + w))) 36 0 st'.1.length (nI g)) 9 0 7 (nI (st'.1.length + 1))) := fr_wI (fr_wI (fr_wI (fr_r _ _) (by simp [pSp])) (by simp [pSp])) (by simp [pSp])
        have fb' : fr (fun c _ _ => c = 35 ∨ c = 36 ∨ c = 9) a (wI (wI (wI a 35 0 g (nI (4 * f + w))) 36 0 st'.1.length (nI g)) 9 0 7 (nI (st'.1.length + 1))) := fr_wI (fr_wI (fr_wI (fr_r _ _) (by omega)) (by omega)) (by omega)
        exact ⟨_, rfl, cQ_add hqa (by omega) (by omega), cPm_fr a2 fb' (by omega), fr_t fa fb⟩) 4 0 s (by omega) ⟨hq, hm, fr_r _ _⟩
  have k1' : Search_spread_L2 (d + 4) (nI i) 0 s = Search_spread_L2 (d + 4) (nI i) (nI 4) t := k1
  refine ⟨t, ?_, k2, k3, k4⟩
  rw [k1', Search_spread_L2_eq, if_neg (by decide), nI_1]
theorem c_spl (hG : cG s R C kd) (hO : cOS s 0 n S) (ho : oOkS R C kd n S) (hR : cR s 0 (ruL L)) (hL : wfL (ruL L) 0) (hp : p < n) (h9 : s.1 9 0 9 = nI p) : ∀ (m i : Nat) (st : qS) (t : xS), i + m = 2305 → i ≤ st.1.length → qInv (64 * (R * C)) src st → cQ t st → cPm t R C kd n S L p → fr pSp s t → ∃ v, Search_spread_L1 (d + 4) (nI i) t = some (none, v) ∧ cQ v (qf (nxP R C kd n S L p) m i st) ∧ cPm v R C kd n S L p ∧ fr pSp s v := by
  have b36 := gOk_36 hG.1
  have hnx : ∀ f w g, f < 64 * (R * C) → w < 4 → nxP R C kd n S L p f w = some g → g < 64 * (R * C) := fun f w g hf hw h => nxP_lt hG.1 hf hw h
  intro m
  induction m with
  | zero =>
    intro i st t hm hi hI
    have := qI_len hI
    omega
  | succ m ih =>
    intro i st t hm hi hI hq hmm hf
    have hlen := qI_len hI
    unfold qf
    rw [Search_spread_L1_eq, hq.1]
    by_cases z : i < st.1.length
    · have hf' : fr (fun c i k => c = 26 ∨ c = 25 ∨ (c = 5 ∧ k = 3) ∨ c = 37 ∨ c = 35 ∨ c = 36 ∨ (c = 9 ∧ k = 7)) s t := fr_m hf (fun _ _ _ => pSp_m)
      obtain ⟨a, a1, a2, a3, a4⟩ := c_sp4 (d := d) (cG_fr hG hf' (by omega) (by omega) (by omega)) (cO_fr hO hf' (by omega) (by omega) (by omega) (by omega)) ho (cR_fr hR hf' (by omega) (by omega)) hL hp (by rw [(hf' 9 0 9 (by omega)).1]; exact h9) hmm hI hq z
      obtain ⟨j1, j2, j3, j4⟩ := qws_inv hnx hI (getD_mem z) 4 (by omega)
      obtain ⟨v, v1, v2, v3, v4⟩ := ih (i + 1) _ a (by omega) (by omega) j1 a2 a3 (fr_t hf a4)
      rw [if_pos (of_eq_true (lt_t z (by omega))), if_pos (show nI i < 2304 from of_eq_true (lt_t (b := 2304) (by omega) (by omega))), a1, v1, if_pos z]
      exact ⟨v, rfl, v2, v3, v4⟩
    · rw [if_neg (of_eq_false (lt_f (by omega) (by omega))), if_neg z]
      exact ⟨t, rfl, hq, hmm, hf⟩
def sprP (R C : Nat) (kd : Nat → Nat) (n : Nat) (S : Sn) (L : List Nat) (p : Nat) : qS := qf (nxP R C kd n S L p) 2305 0 (q0 (64 * S.1 p + S.2.2.1 p))
theorem src_lt (ho : oOkS R C kd n S) (hp : p < n) : 64 * S.1 p + S.2.2.1 p < 64 * (R * C) := by
  obtain ⟨h1, _, _, h4⟩ := ho.2.2.1 p hp
  have h1 : S.1 p < R * C := h1
  have h4 : S.2.2.1 p < 64 := h4
  omega
theorem sprP_inv (hG : gOk R C kd) (ho : oOkS R C kd n S) (hp : p < n) : qInv (64 * (R * C)) (64 * S.1 p + S.2.2.1 p) (sprP R C kd n S L p) :=
  qf_inv (fun f w g hf hw h => nxP_lt hG hf hw h) 2305 0 _ (q0_inv (src_lt ho hp))
theorem c_begin (hG : cG s R C kd) (hO : cOS s 0 n S) (ho : oOkS R C kd n S) (hp : p < n) : ∃ t, ev (d + 3) f_Search_begin [vR 9 0, vI (nI p)] s = some (none, t) ∧ t.1 9 0 9 = nI p ∧ t.1 9 0 8 = nI (64 * S.1 p + S.2.2.1 p) ∧ cPm t R C kd n S L p ∧ fr (fun c _ k => c = 37 ∨ (c = 9 ∧ (k = 8 ∨ k = 9))) s t := by
  have hn4 := ho.1
  obtain ⟨a, ea⟩ : ∃ a, wI s 9 0 9 (nI p) = a := ⟨_, rfl⟩
  have fa : fr (fun c _ k => c = 9 ∧ k = 9) s a := by rw [← ea]; exact fr_wI (fr_r _ _) ⟨rfl, rfl⟩
  have hOa : cOS a 0 n S := cO_fr hO fa (by omega) (by omega) (by omega) (by omega)
  have a9 : a.1 9 0 9 = nI p := by rw [← ea, wI_s1]
  refine ⟨x_fillF (wI a 9 0 8 (nI (64 * S.1 p + S.2.2.1 p))) 37 0 1008 (-1), ?_, ?_, ?_, fun g w c hg hw hc => Or.inl ?_, fr_fill (fr_wI (fr_m fa (by omega)) (by omega)) (by omega)⟩
  · rw [Search_begin_eq, ea, o_fieldOf hOa hn4 hp, bI_s, a9, o_viewsOf hOa hn4 hp, bI_s, show (64 : Int32) = nI 64 from rfl, pk_mul, nI_add, fill_37, bV_s, Nat.mul_comm (S.1 p) 64]
  · show (x_fillF (wI a 9 0 8 (nI (64 * S.1 p + S.2.2.1 p))) 37 0 1008 (-1)).1 9 0 9 = nI p
    rw [fillF_n (by omega), wI_nk (by omega)]; exact a9
  · rw [fillF_n (by omega), wI_s1]
  · have b36 := gOk_36 hG.1
    exact fillF_i (by omega)
theorem c_spreadP (hG : cG s R C kd) (hO : cOS s 0 n S) (ho : oOkS R C kd n S) (hR : cR s 0 (ruL L)) (hL : wfL (ruL L) 0) (hp : p < n) (h9 : s.1 9 0 9 = nI p) (h8 : s.1 9 0 8 = nI (64 * S.1 p + S.2.2.1 p)) (hm : cPm s R C kd n S L p) : ∃ t, ev (d + 5) f_Search_spread [vR 9 0] s = some (none, t) ∧ cQ t (sprP R C kd n S L p) ∧ cPm t R C kd n S L p ∧ fr pSp s t := by
  have b36 := gOk_36 hG.1
  have hsrc := src_lt ho hp
  obtain ⟨src, es⟩ : ∃ src, 64 * S.1 p + S.2.2.1 p = src := ⟨_, rfl⟩
  rw [es] at hsrc h8
  obtain ⟨a, ea⟩ : ∃ a, x_fillF s 35 0 2304 (-1) = a := ⟨_, rfl⟩
  have fa : fr (fun c _ _ => c = 35) s a := by rw [← ea]; exact fr_fill (fr_r _ _) (fun _ => rfl)
  obtain ⟨b, eb⟩ : ∃ b, wI (wI (wI (wI a 9 0 7 0) 35 0 src (-2)) 36 0 0 (nI src)) 9 0 7 1 = b := ⟨_, rfl⟩
  have fb : fr (fun c _ k => c = 35 ∨ c = 36 ∨ (c = 9 ∧ k = 7)) a b := by rw [← eb]; exact fr_wI (fr_wI (fr_wI (fr_wI (fr_r _ _) (by omega)) (by omega)) (by omega)) (by omega)
  have fsb : fr pSp s b := fr_t (fr_m fa (fun c i k h => by unfold pSp; omega)) (fr_m fb (fun c i k h => by unfold pSp; omega))
  have hq : cQ b (q0 src) := by
    refine ⟨by rw [← eb, wI_s1]; rfl, fun i hi => ?_, fun g hg => ?_⟩
    · have hi : i < 1 := hi
      rw [show i = 0 by omega, ← eb, wI_nc (by omega), wI_s1]; rfl
    · show _ = orI (if g = src then some (0, 0, 0) else none)
      rw [← eb, wI_nc (by omega), wI_nc (by omega)]
      by_cases z : g = src
      · rw [z, wI_s1, if_pos rfl]; rfl
      · rw [wI_nk z, wI_nc (by omega), if_neg z, ← ea, fillF_i hg]; rfl
  have hmb : cPm b R C kd n S L p := cPm_fr (cPm_fr hm fa (by omega)) fb (by omega)
  obtain ⟨v, v1, v2, v3, v4⟩ := c_spl (d := d) (src := src) hG hO ho hR hL hp h9 2305 0 (q0 src) b (by omega) (Nat.zero_le _) (q0_inv hsrc) hq hmb fsb
  have v1' : Search_spread_L1 (d + 4) 0 b = some (none, v) := v1
  have a8 : a.1 9 0 8 = nI src := by rw [(fa 9 0 8 (by omega)).1]; exact h8
  refine ⟨v, ?_, by unfold sprP; rw [es]; exact v2, v3, v4⟩
  rw [Search_spread_eq, fill_35, bV_s, ea, a8, if_neg (nI_pos (by omega)), if_pos (show nI src < 2304 from of_eq_true (lt_t (b := 2304) (by omega) (by omega))), in_t (show src < 2304 by omega) (by omega), if_pos rfl, if_pos (by decide), n_cl (by omega), show (0 : Int32).toNatClampNeg = 0 from rfl, eb, v1']
theorem pSr_m {c i k : Nat} (h : pSr c i k) : c = 48 ∨ c = 49 ∨ (c = 13 ∧ (k = 24 ∨ k = 25 ∨ k = 45)) ∨ c = 58 ∨ c = 59 ∨ c = 60 ∨ c = 61 := by
  unfold pSr pF at h; omega
theorem m_sp4 {st : qS} {i : Nat} (hG : rG s R C kd) (hO : rOS s 0 n S) (ho : oOkS R C kd n S) (hR : rR s L) (hL : wfL (ruL L) 0) (hp : p < n) (hI : qInv (64 * (R * C)) src st) (hq : rQ s st) (hi : i < st.1.length) : ∃ t, Ref_laysPlaces_L3 (d + 5) (nI p) (nI i) 0 s = Ref_laysPlaces_L2 (d + 5) (nI p) (nI (i + 1)) t ∧ rQ t (qws (nxP R C kd n S L p) (st.1.getD i 0) 4 st) ∧ fr pSr s t := by
  have b36 := gOk_36 hG.1
  have hN : 64 * (R * C) ≤ 2304 := by omega
  have hnx : ∀ f w g, f < 64 * (R * C) → w < 4 → nxP R C kd n S L p f w = some g → g < 64 * (R * C) := fun f w g hf hw h => nxP_lt hG.1 hf hw h
  have hf := getD_mem hi
  have hfN := hI.2.1 _ hf
  have hlen := qI_len hI
  obtain ⟨f, ef⟩ : ∃ f, st.1.getD i 0 = f := ⟨_, rfl⟩
  rw [ef] at hf hfN ⊢
  obtain ⟨t, k1, k2, k4⟩ := chainE 4 (fun w (t : xS) => Ref_laysPlaces_L3 (d + 5) (nI p) (nI i) (nI w) t) (fun w t => rQ t (qws (nxP R C kd n S L p) f w st) ∧ fr pSr s t) (by
    rintro w t hw ⟨h1, h3⟩
    obtain ⟨j1, j2, j3, j4⟩ := qws_inv hnx hI hf w (by omega)
    have h3' : fr (fun c i k => c = 48 ∨ c = 49 ∨ (c = 13 ∧ (k = 24 ∨ k = 25 ∨ k = 45)) ∨ c = 58 ∨ c = 59 ∨ c = 60 ∨ c = 61) s t := fr_m h3 (fun _ _ _ => pSr_m)
    obtain ⟨a, a1, a3⟩ := m_placeBy (d := d) (rG_fr hG h3' (by omega) (by omega) (by omega)) (rO_fr hO h3' (by omega) (by omega)) ho (rR_fr hR h3' (by omega) (by omega)) hL hp hfN hw
    obtain ⟨st', est⟩ : ∃ st', qws (nxP R C kd n S L p) f w st = st' := ⟨_, rfl⟩
    rw [est] at h1 j1 j2 j3 j4
    have hstep : qws (nxP R C kd n S L p) f (w + 1) st = qw (nxP R C kd n S L p) f w st' := by rw [← est]; rfl
    have h58 : t.1 58 0 i = nI f := by rw [h1.2.1 i (by omega), j4 i hi, ef]
    have hqa : rQ a st' := rQ_fr h1 a3 (by simp [pF]) (by intro k; simp [pF]) (by intro k; simp [pF]) (by intro k; simp [pF]) (by intro k; simp [pF])
    have a58 : a.1 58 0 i = nI f := by rw [(a3 58 0 i (by simp [pF])).1]; exact h58
    have fa : fr pSr s a := fr_t h3 (fr_m a3 (fun _ _ _ => Or.inl))
    have e0 : Ref_laysPlaces_L3 (d + 5) (nI p) (nI i) (nI w) t = if oI (nxP R C kd n S L p f w) < 0 then Ref_laysPlaces_L3 (d + 5) (nI p) (nI i) (nI (w + 1)) a else if x_in (nI i) 2304 then if x_in (a.1 58 0 (nI i : Int32).toNatClampNeg) 2304 then if x_in (nI i) 2304 then bV (ev (d + 5) f_Ref_finds [vR 13 0, vI (oI (nxP R C kd n S L p f w)), vI ((a.1 59 0 (a.1 58 0 (nI i : Int32).toNatClampNeg : Int32).toNatClampNeg) + 1), vI (a.1 58 0 (nI i : Int32).toNatClampNeg), vI (nI w)] a) fun s4 => Ref_laysPlaces_L3 (d + 5) (nI p) (nI i) (nI (w + 1)) s4 else none else none else none := by
      rw [Ref_laysPlaces_L3_eq, if_pos (show nI w < 4 from of_eq_true (lt_t (b := 4) hw (by omega))), in_t (show i < 2304 by omega) (by omega), if_pos rfl, n_cl (by omega), h58, a1, bI_s, nI_1]
    show ∃ b, Ref_laysPlaces_L3 (d + 5) (nI p) (nI i) (nI w) t = Ref_laysPlaces_L3 (d + 5) (nI p) (nI i) (nI (w + 1)) b ∧ rQ b (qws (nxP R C kd n S L p) f (w + 1) st) ∧ _
    rw [hstep, e0]
    unfold qw
    cases hx : nxP R C kd n S L p f w with
    | none => exact ⟨a, by rw [oI_n, if_pos (by decide)], hqa, fa⟩
    | some g =>
      have hg := hnx f w g hfN hw hx
      have hs := hqa.2.2.1 g (by omega)
      have hfs : st'.2 f ≠ none := (j1.2.2.1 f).mpr j2
      obtain ⟨kf, ff, wf, hf2⟩ : ∃ kf ff wf, st'.2 f = some (kf, ff, wf) := by
        cases e : st'.2 f with
        | none => exact absurd e hfs
        | some y => exact ⟨y.1, y.2.1, y.2.2, rfl⟩
      have hkf := (q_bd j1 hN hf2).1
      have h59 : a.1 59 0 f = nI kf := by rw [hqa.2.2.1 f (by omega), hf2]; rfl
      have hstn := stI_n (o := st'.2 g) (fun k f' w' e => by have := (q_bd j1 hN e).1; omega)
      rw [oI_s, if_neg (nI_pos (by omega)), in_t (show i < 2304 by omega) (by omega), if_pos rfl, n_cl (show i < 2147483648 by omega), a58, in_t (show f < 2304 by omega) (by omega), if_pos rfl, if_pos rfl, n_cl (show f < 2147483648 by omega), h59, Ref_finds_eq, in_t (show g < 2304 by omega) (by omega), if_pos rfl, n_cl (show g < 2147483648 by omega), hs]
      dsimp only
      cases hsg : st'.2 g with
      | some y =>
        rw [hsg] at hstn
        rw [if_neg (fun z => by have := hstn.mp z; cases this), bV_s]
        exact ⟨a, rfl, hqa, fa⟩
      | none =>
        have hl := q_room j1 hg hsg
        have hgd : ((st'.2 f).getD (0, 0, 0)).1 = kf := by rw [hf2]; rfl
        rw [if_pos (show stI none < 0 by decide), if_pos rfl, if_pos rfl, if_pos rfl, hqa.1, in_t (show st'.1.length < 2304 by omega) (by omega), if_pos rfl, n_cl (show st'.1.length < 2147483648 by omega), bV_s, nI_1, nI_1, hgd]
        exact ⟨_, rfl, rQ_add hqa (by omega) (by omega), fr_t fa (fr_wI (fr_wI (fr_wI (fr_wI (fr_wI (fr_r _ _) (by simp [pSr])) (by simp [pSr])) (by simp [pSr])) (by simp [pSr])) (by simp [pSr]))⟩) 4 0 s (by omega) ⟨hq, fr_r _ _⟩
  have k1' : Ref_laysPlaces_L3 (d + 5) (nI p) (nI i) 0 s = Ref_laysPlaces_L3 (d + 5) (nI p) (nI i) (nI 4) t := k1
  refine ⟨t, ?_, k2, k4⟩
  rw [k1', Ref_laysPlaces_L3_eq, if_neg (by decide), nI_1]
theorem m_spl (hG : rG s R C kd) (hO : rOS s 0 n S) (ho : oOkS R C kd n S) (hR : rR s L) (hL : wfL (ruL L) 0) (hp : p < n) : ∀ (m i : Nat) (st : qS) (t : xS), i + m = 2305 → i ≤ st.1.length → qInv (64 * (R * C)) src st → rQ t st → fr pSr s t → ∃ v, Ref_laysPlaces_L2 (d + 5) (nI p) (nI i) t = some (none, v) ∧ rQ v (qf (nxP R C kd n S L p) m i st) ∧ fr pSr s v := by
  have b36 := gOk_36 hG.1
  have hnx : ∀ f w g, f < 64 * (R * C) → w < 4 → nxP R C kd n S L p f w = some g → g < 64 * (R * C) := fun f w g hf hw h => nxP_lt hG.1 hf hw h
  intro m
  induction m with
  | zero =>
    intro i st t hm hi hI
    have := qI_len hI
    omega
  | succ m ih =>
    intro i st t hm hi hI hq hf
    have hlen := qI_len hI
    unfold qf
    rw [Ref_laysPlaces_L2_eq, hq.1]
    by_cases z : i < st.1.length
    · have hf' : fr (fun c i k => c = 48 ∨ c = 49 ∨ (c = 13 ∧ (k = 24 ∨ k = 25 ∨ k = 45)) ∨ c = 58 ∨ c = 59 ∨ c = 60 ∨ c = 61) s t := fr_m hf (fun _ _ _ => pSr_m)
      obtain ⟨a, a1, a2, a4⟩ := m_sp4 (d := d) (rG_fr hG hf' (by omega) (by omega) (by omega)) (rO_fr hO hf' (by omega) (by omega)) ho (rR_fr hR hf' (by omega) (by omega)) hL hp hI hq z
      obtain ⟨j1, j2, j3, j4⟩ := qws_inv hnx hI (getD_mem z) 4 (by omega)
      obtain ⟨v, v1, v2, v4⟩ := ih (i + 1) _ a (by omega) (by omega) j1 a2 (fr_t hf a4)
      rw [if_pos (of_eq_true (lt_t z (by omega))), a1, v1, if_pos z]
      exact ⟨v, rfl, v2, v4⟩
    · rw [if_neg (of_eq_false (lt_f (by omega) (by omega))), if_neg z]
      exact ⟨t, rfl, hq, hf⟩
theorem m_spreadP (hG : rG s R C kd) (hO : rOS s 0 n S) (ho : oOkS R C kd n S) (hR : rR s L) (hL : wfL (ruL L) 0) (hp : p < n) : ∃ t, ev (d + 6) f_Ref_laysPlaces [vR 13 0, vI (nI p)] s = some (none, t) ∧ rQ t (sprP R C kd n S L p) ∧ fr pSr s t := by
  have b36 := gOk_36 hG.1
  have hn4 := ho.1
  have hsrc := src_lt ho hp
  obtain ⟨src, es⟩ : ∃ src, 64 * S.1 p + S.2.2.1 p = src := ⟨_, rfl⟩
  rw [es] at hsrc
  obtain ⟨a, k1, k2, k3⟩ := chainE 2304 (fun j (t : xS) => Ref_laysPlaces_L1 (d + 5) (nI p) (nI j) t) (fun j t => (∀ g, g < j → t.1 59 0 g = -1) ∧ fr (fun c _ _ => c = 59) s t) (by
    rintro j t hj ⟨h1, h2⟩
    refine ⟨wI t 59 0 j (-1), ?_, fun g hg => ?_, fr_wI h2 rfl⟩
    · show Ref_laysPlaces_L1 (d + 5) (nI p) (nI j) t = _
      rw [Ref_laysPlaces_L1_eq, if_pos (show nI j < 2304 from of_eq_true (lt_t (b := 2304) hj (by omega))), in_t hj (by omega), if_pos rfl, n_cl (by omega), nI_1]
    · by_cases z : g = j
      · rw [z, wI_s1]
      · rw [wI_nk z]; exact h1 g (by omega)) 2304 0 s (by omega) ⟨fun g hg => absurd hg (Nat.not_lt_zero g), fr_r _ _⟩
  have k1' : Ref_laysPlaces_L1 (d + 5) (nI p) 0 s = Ref_laysPlaces_L1 (d + 5) (nI p) (nI 2304) a := k1
  obtain ⟨b, eb⟩ : ∃ b, wI (wI (wI (wI (wI (wI a 13 0 45 0) 59 0 src 0) 60 0 src (-1)) 61 0 src (-1)) 58 0 0 (nI src)) 13 0 45 1 = b := ⟨_, rfl⟩
  have fb : fr pSr a b := by rw [← eb]; exact fr_wI (fr_wI (fr_wI (fr_wI (fr_wI (fr_wI (fr_r _ _) (by simp [pSr])) (by simp [pSr])) (by simp [pSr])) (by simp [pSr])) (by simp [pSr])) (by simp [pSr])
  have fsb : fr pSr s b := fr_t (fr_m k3 (fun c i k h => by unfold pSr; omega)) fb
  have hq : rQ b (q0 src) := by
    refine ⟨by rw [← eb, wI_s1]; rfl, fun i hi => ?_, fun g hg => ?_, fun g k f w hg e => ?_⟩
    · have hi : i < 1 := hi
      rw [show i = 0 by omega, ← eb, wI_nc (by omega), wI_s1]; rfl
    · show _ = stI (if g = src then some (0, 0, 0) else none)
      rw [← eb, wI_nc (by omega), wI_nc (by omega), wI_nc (by omega), wI_nc (by omega)]
      by_cases z : g = src
      · rw [z, wI_s1, if_pos rfl]; rfl
      · rw [wI_nk z, wI_nc (by omega), if_neg z, k2 g hg]; rfl
    · have e : (if g = src then some (0, 0, 0) else none) = some (k + 1, f, w) := e
      by_cases z : g = src
      · rw [if_pos z] at e
        have := (Prod.mk.inj (Option.some.inj e)).1
        omega
      · rw [if_neg z] at e; cases e
  obtain ⟨v, v1, v2, v4⟩ := m_spl (d := d) (src := src) hG hO ho hR hL hp 2305 0 (q0 src) b (by omega) (Nat.zero_le _) (q0_inv hsrc) hq fsb
  have v1' : Ref_laysPlaces_L2 (d + 5) (nI p) 0 b = some (none, v) := v1
  have hOa : rOS a 0 n S := rO_fr hO k3 (by omega) (by omega)
  have m8 : (8 : Int32) + nI p = nI (8 + p) := by rw [nl_8, nI_add]
  have h45 : (wI a 13 0 45 0).1 13 0 45 = 0 := wI_s1 _ _ _ _ _
  have h59 : (wI a 13 0 45 0).1 59 0 src = -1 := by rw [wI_nc (by omega)]; exact k2 src (by omega)
  refine ⟨v, ?_, by unfold sprP; rw [es]; exact v2, v4⟩
  rw [Ref_laysPlaces_eq, k1', Ref_laysPlaces_L1_eq, if_neg (by decide), in_t (show p < 17 by omega) (by omega), if_pos rfl, m8, in_t (show 8 + p < 17 by omega) (by omega), if_pos rfl, n_cl (by omega), n_cl (by omega), (hOa.2.1 p hp).1, (hOa.2.2.1 p (by omega)).1, show (64 : Int32) = nI 64 from rfl, pk_mul, nI_add, es, Ref_finds_eq, in_t (show src < 2304 by omega) (by omega), if_pos rfl, n_cl (by omega), h59, if_pos (by decide), if_pos rfl, if_pos rfl, if_pos rfl, h45, if_pos (by decide), show (0 : Int32).toNatClampNeg = 0 from rfl, bV_s, show (0 : Int32) + 1 = 1 from rfl, eb, v1']
end SPREADB

/-! Ways: the reference's search; way, reach. -/
section BFSR
variable {d R C src f w : Nat} {kd : Nat → Nat} {cl : Option Nat} {s : xS}
theorem nxC_bes {g : Nat} (h : nxC R C kd cl f w = some g) : bes R C f w = some g ∧ nxt R C kd f w = some g ∧ cl ≠ some g := by
  unfold nxC at h
  cases e : nxt R C kd f w with
  | none => rw [e] at h; cases h
  | some g' =>
    rw [e] at h
    have h : (if cl = some g' then none else some g') = some g := h
    by_cases q : cl = some g'
    · rw [if_pos q] at h; cases h
    · rw [if_neg q] at h; cases h
      exact ⟨nxt_bes e, rfl, q⟩
theorem m_isFree1 (hG : rG s R C kd) (h38 : s.1 13 0 38 = oI cl) (hcl : ∀ c, cl = some c → c < 36) (hf : f < R * C) : ev (d + 4) f_Ref_isFree [vR 13 0, vI (nI f)] s = some (some (vI (ib (!decide (kd f = 1) && !decide (cl = some f)))), s) := by
  have b := gOk_36 hG.1
  rw [Ref_isFree_eq, m_isOpen hG hf, bI_s, h38, nb_0, nb_1]
  by_cases h : kd f = 1
  · rw [decide_eq_true h, if_pos (by decide)]; rfl
  · rw [decide_eq_false h, if_neg (by decide)]
    by_cases hc : cl = some f
    · rw [if_pos (show nI f = oI cl by rw [hc, oI_s]), decide_eq_true hc]; rfl
    · have hne : ¬ nI f = oI cl := by
        cases hcl' : cl with
        | none => rw [oI_n]; exact m1_nn (by omega)
        | some c =>
          have := hcl c hcl'
          rw [oI_s]
          exact of_eq_false (eq_f (fun z => hc (by rw [hcl', z])) (by omega) (by omega))
      rw [if_neg hne, decide_eq_false hc]; rfl
theorem m_isFree (hG : rG s R C kd) (h38 : s.1 13 0 38 = oI cl) (hcl : ∀ c, cl = some c → c < 36) (hf : f < R * C) (hw : w < 4) : ev (d + 4) f_Ref_isFree [vR 13 0, vI (oI (bes R C f w))] s = some (some (vI (ib (nxC R C kd cl f w).isSome)), s) := by
  cases hb : bes R C f w with
  | none =>
    rw [oI_n, Ref_isFree_eq, m_isOpen_n hG, bI_s, if_pos (by decide), nb_0]
    unfold nxC nxt; rw [hb]; rfl
  | some g =>
    have hg := bes_lt hG.1.1 hG.1.2.1 hG.1.2.2.1 hG.1.2.2.2.1 hf hw hb
    rw [oI_s, m_isFree1 hG h38 hcl hg]
    unfold nxC nxt
    rw [hb]
    dsimp only
    by_cases h : kd g = 1
    · rw [if_pos h, decide_eq_true h]; rfl
    · rw [if_neg h, decide_eq_false h]
      dsimp only
      by_cases hc : cl = some g
      · rw [if_pos hc, decide_eq_true hc]; rfl
      · rw [if_neg hc, decide_eq_false hc]; rfl
theorem m_bfs (hG : rG s R C kd) (h38 : s.1 13 0 38 = oI cl) (hcl : ∀ c, cl = some c → c < 36) : ∀ m i st t, i + m = 37 → bInv (nxC R C kd cl) (R * C) (sOK kd cl) src st → rB t st → fr pD s t →
    ∃ u, Ref_laysFar_L2 (d + 4) (nI st.1.length) (nI i) t = some (some (vI (nI (bf (nxC R C kd cl) m i st).1.length)), u) ∧ rB u (bf (nxC R C kd cl) m i st) ∧ fr pD s u := by
  have b36 := gOk_36 hG.1
  intro m
  induction m with
  | zero =>
    intro i st t e hI hB hF
    have hl := bInv_len hI
    refine ⟨t, ?_, hB, hF⟩
    rw [Ref_laysFar_L2_eq, if_neg (of_eq_false (lt_f (by omega) (by omega)))]; rfl
  | succ m ih =>
    intro i st t e hI hB hF
    have hl := bInv_len hI
    unfold bf
    by_cases q : i < st.1.length
    · rw [if_pos q, Ref_laysFar_L2_eq, if_pos (of_eq_true (lt_t q (by omega)))]
      obtain ⟨⟨st', t'⟩, c1, c2, c3, c4⟩ := chainE 4 (fun w (p : bS × xS) => Ref_laysFar_L3 (d + 4) (nI p.1.1.length) (nI i) (nI w) p.2) (fun w p => p.1 = bws (nxC R C kd cl) (st.1.getD i 0) w st ∧ rB p.2 p.1 ∧ fr pD s p.2) (by
        rintro w ⟨st1, t1⟩ hw ⟨h1, h2, h3⟩
        dsimp only at h1 h2 h3
        obtain ⟨a1, a2, a3, a4, a5⟩ := bws_inv hI (getD_mem q) (nxC_lt hG.1) w (by omega)
        rw [← h1] at a1 a2 a3 a4 a5
        have hl1 := bInv_len a1
        have hG1 := rG_fr hG h3 (by unfold pD; omega) (by unfold pD; omega) (by intro k; unfold pD; omega)
        have h381 : t1.1 13 0 38 = oI cl := by rw [(h3 13 0 38 (by unfold pD; omega)).1]; exact h38
        have hq : t1.1 57 0 i = nI (st.1.getD i 0) := by rw [h2.1 i (by omega), a5 i q]
        have hf := (hI.2.1 _ (getD_mem q)).1
        have hf' : st.1.getD i 0 < 36 := by omega
        have hsucc : ∀ z, bw (nxC R C kd cl) (st.1.getD i 0) w st1 = z → z = bws (nxC R C kd cl) (st.1.getD i 0) (w + 1) st := by
          intro z hz; rw [← hz, h1]; rfl
        show ∃ b : bS × xS, Ref_laysFar_L3 (d + 4) (nI st1.1.length) (nI i) (nI w) t1 = Ref_laysFar_L3 (d + 4) (nI b.1.1.length) (nI i) (nI (w + 1)) b.2 ∧ _
        rw [Ref_laysFar_L3_eq, nl_4, if_pos (of_eq_true (lt_t hw (by omega))), in_t (show i < 36 by omega) (by omega), if_pos rfl, n_cl (by omega), hq, m_beside hG1 hf hw, bI_s, m_isFree hG1 h381 hcl hf hw, bI_s, nI_1]
        cases hx : nxC R C kd cl (st.1.getD i 0) w with
        | none =>
          rw [if_pos (show ib (none : Option Nat).isSome = 0 from rfl)]
          exact ⟨(st1, t1), rfl, hsucc _ (by unfold bw; rw [hx]), h2, h3⟩
        | some g =>
          obtain ⟨hb, hnx, hc⟩ := nxC_bes hx
          have hg := (nxt_lt hG.1 hf hw hnx).1
          rw [if_neg (show ¬ ib (some g).isSome = 0 from ib_t0), hb, oI_s, in_t (show g < 36 by omega) (by omega), if_pos rfl, n_cl (by omega), h2.2 g (by omega)]
          cases hD : st1.2 g with
          | some k =>
            have hk := bD_lt hG.1 a1 hD
            rw [if_neg (show ¬ nvI (some k) = 1000000 from of_eq_false (eq_f (a := k) (b := 1000000) (by omega) (by omega) (by omega)))]
            exact ⟨(st1, t1), rfl, hsucc _ (by unfold bw; rw [hx]; dsimp only; rw [hD]), h2, h3⟩
          | none =>
            obtain ⟨kf, hkf⟩ : ∃ k, st1.2 (st.1.getD i 0) = some k := by
              cases e : st1.2 (st.1.getD i 0) with
              | none => exact absurd e ((a1.2.2.1 _).mpr a2)
              | some k => exact ⟨k, rfl⟩
            have hkk := bD_lt hG.1 a1 hkf
            have hstep : bw (nxC R C kd cl) (st.1.getD i 0) w st1 = (st1.1 ++ [g], up st1.2 g (some (kf + 1))) := by
              unfold bw; rw [hx]; dsimp only; rw [hD, hkf]; rfl
            have hnew := (bw_inv a1 a2 hw (nxC_lt hG.1)).1
            rw [hstep] at hnew
            have hlen := bInv_len hnew
            rw [List.length_append] at hlen
            have hlen : st1.1.length + 1 ≤ R * C := hlen
            rw [if_pos (show nvI none = 1000000 from rfl), if_pos rfl, hq, in_t hf' (by omega), if_pos rfl, if_pos rfl, in_t (show st1.1.length < 36 by omega) (by omega), if_pos rfl, n_cl (show st.1.getD i 0 < 2147483648 by omega), n_cl (show st1.1.length < 2147483648 by omega), h2.2 _ hf', hkf]
            rw [show nvI (some kf) + 1 = nI (kf + 1) from nI_1 kf, nI_1]
            refine ⟨((st1.1 ++ [g], up st1.2 g (some (kf + 1))), _), by rw [List.length_append]; rfl, hsucc _ hstep, ⟨fun j hj => ?_, fun z hz => ?_⟩, fr_wI (fr_wI h3 (Or.inl rfl)) (Or.inr rfl)⟩
            · have hj : j < (st1.1 ++ [g]).length := hj
              show (wI (wI t1 56 0 g (nI (kf + 1))) 57 0 st1.1.length (nI g)).1 57 0 j = nI ((st1.1 ++ [g]).getD j 0)
              rw [List.length_append] at hj
              have hj : j < st1.1.length + 1 := hj
              by_cases ej : j = st1.1.length
              · rw [ej, wI_s1, getN_app2]
              · rw [wI_nk ej, wI_nc (by omega), getN_app1 (by omega)]; exact h2.1 j (by omega)
            · show (wI (wI t1 56 0 g (nI (kf + 1))) 57 0 st1.1.length (nI g)).1 56 0 z = nvI (up st1.2 g (some (kf + 1)) z)
              rw [wI_nc (by omega)]
              by_cases ez : z = g
              · rw [ez, wI_s1, up_s]; rfl
              · rw [wI_nk ez, up_n ez]; exact h2.2 z hz) 4 0 (st, t) (by omega) ⟨rfl, hB, hF⟩
      dsimp only at c1 c2 c3 c4
      obtain ⟨a1, a2, a3, a4, a5⟩ := bws_inv hI (getD_mem q) (nxC_lt hG.1) 4 (by omega)
      rw [← c2] at a1 ⊢
      obtain ⟨u, k1, k2, k3⟩ := ih (i + 1) st' t' (by omega) a1 c3 c4
      refine ⟨u, ?_, k2, k3⟩
      refine Eq.trans c1 ?_
      rw [Ref_laysFar_L3_eq, nl_4, if_neg (of_eq_false (lt_f (by omega) (by omega))), nI_1]
      exact k1
    · rw [if_neg q]
      refine ⟨t, ?_, hB, hF⟩
      rw [Ref_laysFar_L2_eq, if_neg (of_eq_false (lt_f (by omega) (by omega)))]
theorem m_lays (hG : rG s R C kd) (h38 : s.1 13 0 38 = oI cl) (hcl : ∀ c, cl = some c → c < 36) (hs : src < R * C) (hok : sOK kd cl src) : ∃ u, ev (d + 5) f_Ref_laysFar [vR 13 0, vI (nI src)] s = some (some (vI (nI (spr R C kd cl src).1.length)), u) ∧ rB u (spr R C kd cl src) ∧ fr pD s u := by
  have b36 := gOk_36 hG.1
  obtain ⟨t, e1, e2, e3⟩ := chainE 36 (fun k (t : xS) => Ref_laysFar_L1 (d + 4) (nI src) (nI k) t) (fun k t => (∀ g, g < k → t.1 56 0 g = nI 1000000) ∧ fr pD s t) (by
    rintro k t hk ⟨h1, h2⟩
    show ∃ b, Ref_laysFar_L1 (d + 4) (nI src) (nI k) t = Ref_laysFar_L1 (d + 4) (nI src) (nI (k + 1)) b ∧ _
    rw [Ref_laysFar_L1_eq, nl_36, if_pos (of_eq_true (lt_t hk (by omega))), in_t hk (by omega), if_pos rfl, n_cl (by omega), nI_1]
    refine ⟨_, rfl, fun g hg => ?_, fr_wI h2 (Or.inl rfl)⟩
    by_cases e : g = k
    · rw [e, wI_s1]; rfl
    · rw [wI_nk e]; exact h1 g (by omega)) 36 0 s (by omega) ⟨fun g hg => by omega, fr_r _ _⟩
  rw [Ref_laysFar_eq]
  have e1' : Ref_laysFar_L1 (d + 4) (nI src) 0 s = Ref_laysFar_L1 (d + 4) (nI src) (nI 36) t := e1
  rw [e1', Ref_laysFar_L1_eq, nl_36, if_neg (of_eq_false (lt_f (by omega) (by omega))), in_t (show src < 36 by omega) (by omega), if_pos rfl, if_pos (by decide), n_cl (by omega)]
  refine m_bfs (d := d) hG h38 hcl 37 0 (b0 src) _ rfl (b0_inv hs hok) ⟨fun i hi => ?_, fun g hg => ?_⟩ (fr_wI (fr_wI e3 (Or.inl rfl)) (Or.inr rfl))
  · have hi : i < 1 := hi
    have : i = 0 := by omega
    subst this
    exact wI_s1 _ _ _ _ _
  · rw [wI_nc (by omega)]
    show _ = nvI (if g = src then some 0 else none)
    by_cases e : g = src
    · rw [e, wI_s1, if_pos rfl]; rfl
    · rw [wI_nk e, if_neg e]; exact e2 g hg
theorem pB_CQ {c i k : Nat} (h : pB c i k) : pCQ c i k := by unfold pB at h; unfold pCQ; omega
theorem pD_RQ {c i k : Nat} (h : pD c i k) : pRQ c i k := by unfold pD at h; unfold pRQ; omega
theorem nxC_none : nxC R C kd none = nxt R C kd := by
  funext f w
  unfold nxC
  cases nxt R C kd f w with
  | none => rfl
  | some g => show (if (none : Option Nat) = some g then none else some g) = some g; rw [if_neg (fun q => by cases q)]
theorem c_dist {st : bS} {t : xS} (hG : cG t R C kd) (hB : cB t st) (hf : f < R * C) : ev (d + 2) f_Paths_distanceTo [vR 8 0, vI (nI f)] t = some (some (vI (oI (st.2 f))), t) := by
  have b := gOk_36 hG.1
  rw [Paths_distanceTo_eq, g_has hG, in_t hf (by omega), bI_s, if_neg (by decide), in_t (show f < 36 by omega) (by omega), if_pos rfl, n_cl (by omega), hB.2 f (by omega)]
/-- a step nearer -/
def nrP (nx : Nat → Nat → Option Nat) (D : Nat → Option Nat) (x k w : Nat) : Bool := match nx x w with
  | none => false
  | some y => decide (D y = some k)
def pth (nx : Nat → Nat → Option Nat) (D : Nat → Option Nat) : Nat → Nat → List Nat
  | 0, _ => []
  | k + 1, x => match fo (nrP nx D x k) 4 with
    | none => []
    | some w => match nx x w with
      | none => []
      | some y => w :: pth nx D k y
theorem pth_S (nx : Nat → Nat → Option Nat) (D : Nat → Option Nat) (k x : Nat) : pth nx D (k + 1) x = match fo (nrP nx D x k) 4 with
    | none => []
    | some w => match nx x w with
      | none => []
      | some y => w :: pth nx D k y := rfl
theorem oI_eq {o : Option Nat} {k : Nat} (h : ∀ j, o = some j → j < 2147483648) (hk : k < 2147483648) : oI o = nI k ↔ o = some k := by
  cases o with
  | none => exact ⟨fun q => absurd q.symm (m1_nn hk), fun q => by cases q⟩
  | some j => rw [oI_s, n_eq (h j rfl) hk]; exact ⟨fun q => by rw [q], fun q => by cases q; rfl⟩
theorem nvI_eq {o : Option Nat} {k : Nat} (h : ∀ j, o = some j → j < 1000000) (hk : k < 1000000) : nvI o = nI k ↔ o = some k := by
  cases o with
  | none => exact ⟨fun q => by have := (n_eq (a := 1000000) (by omega) (by omega)).mp q; omega, fun q => by cases q⟩
  | some j =>
    have := h j rfl
    show nI j = nI k ↔ _
    rw [n_eq (by omega) (by omega)]; exact ⟨fun q => by rw [q], fun q => by cases q; rfl⟩
theorem fo_true (p : Nat → Bool) : ∀ k j, fo p k = some j → p j = true ∧ ∀ i, i < j → p i = false := by
  intro k
  induction k with
  | zero => intro j h; cases h
  | succ k ih =>
    intro j h
    rw [fo_S] at h
    cases hp : p k with
    | false => rw [hp] at h; exact ih j h
    | true =>
      rw [hp, cond_true] at h
      cases e : fo p k with
      | none =>
        rw [e] at h
        cases h
        refine ⟨hp, fun i hi => ?_⟩
        exact cnt_zero ((fo_cnt p k).mpr e) i hi
      | some i => rw [e] at h; cases h; exact ih _ e
theorem fo_ex {p : Nat → Bool} {k i : Nat} (hi : i < k) (h : p i = true) : ∃ j, fo p k = some j := by
  cases e : fo p k with
  | some j => exact ⟨j, rfl⟩
  | none => have := cnt_zero ((fo_cnt p k).mpr e) i hi; rw [h] at this; cases this
/-- there and back -/
def opw (w : Nat) : Nat := if w = 0 then 2 else if w = 1 then 3 else if w = 2 then 0 else 1
def back_chk (R C f w : Nat) : Bool := !(decide (2 ≤ R) && decide (2 ≤ C) && decide (f < R * C)) || (match bes R C f w with
  | none => true
  | some g => decide (bes R C g (opw w) = some f))
theorem back_t : ((List.range 7).all fun R => (List.range 7).all fun C => (List.range 36).all fun f => (List.range 4).all fun w => back_chk R C f w) = true := by decide +kernel
theorem bes_back {g : Nat} (hG : gOk R C kd) (hf : f < R * C) (hw : w < 4) (h : bes R C f w = some g) : bes R C g (opw w) = some f := by
  have := gOk_36 hG
  have q := all_r (all_r (all_r (all_r back_t (show R < 7 by have := hG.2.1; omega)) (show C < 7 by have := hG.2.2.2.1; omega)) (show f < 36 by omega)) hw
  unfold back_chk at q
  rw [decide_eq_true hG.1, decide_eq_true hG.2.2.1, decide_eq_true hf, h] at q
  exact of_decide_eq_true q
theorem opw_lt (w : Nat) : opw w < 4 := by unfold opw; split; omega; split; omega; split; omega; omega
theorem near_ex {st : bS} {x k : Nat} (hG : gOk R C kd) (h : bInv (nxC R C kd none) (R * C) (sOK kd none) src st) (hx : st.2 x = some (k + 1)) : ∃ w y, fo (nrP (nxt R C kd) st.2 x k) 4 = some w ∧ w < 4 ∧ nxt R C kd x w = some y ∧ st.2 y = some k := by
  obtain ⟨f, w, hw, hnx, hf⟩ := h.2.2.2.2.2.2 x k hx
  obtain ⟨hb, _, _⟩ := nxC_bes hnx
  have hfm := (h.2.2.1 f).mp (by rw [hf]; exact fun q => by cases q)
  have hfo := h.2.1 f hfm
  have hbk := bes_back hG hfo.1 hw hb
  have hn : nxt R C kd x (opw w) = some f := by
    unfold nxt; rw [hbk]; dsimp only; rw [if_neg hfo.2.1]
  obtain ⟨j, hj⟩ := fo_ex (p := nrP (nxt R C kd) st.2 x k) (opw_lt w) (by unfold nrP; rw [hn]; exact decide_eq_true hf)
  have hj4 := fo_lt _ _ _ hj
  have ht := (fo_true _ _ _ hj).1
  unfold nrP at ht
  cases e : nxt R C kd x j with
  | none => rw [e] at ht; cases ht
  | some y => rw [e] at ht; exact ⟨j, y, hj, hj4, e, of_decide_eq_true ht⟩
variable {n lo : Nat} {F W V : Nat → Nat} {M : Int32} {L : List Nat} {l : List Int64}
theorem c_nearer {st : bS} {t : xS} {x k w : Nat} (hG : cG t R C kd) (hB : cB t st) (hI : bInv (nxC R C kd none) (R * C) (sOK kd none) src st) (hx : x < R * C) (hxk : st.2 x = some (k + 1)) (hw : fo (nrP (nxt R C kd) st.2 x k) 4 = some w) : ev (d + 3) f_Paths_wayNearer [vR 8 0, vI (nI x)] t = some (some (vI (nI w)), t) := by
  have b36 := gOk_36 hG.1
  have hk36 := bD_lt hG.1 hI hxk
  have hw4 := fo_lt _ _ _ hw
  obtain ⟨ht, hfirst⟩ := fo_true _ _ _ hw
  rw [Paths_wayNearer_eq]
  have stepd : ∀ j, j < 4 → Paths_wayNearer_L1 (d + 2) (nI x) (nI j) t = if nrP (nxt R C kd) st.2 x k j then some (some (vI (nI j)), t) else Paths_wayNearer_L1 (d + 2) (nI x) (nI (j + 1)) t := by
    intro j hj
    rw [Paths_wayNearer_L1_eq, nl_4, if_pos (of_eq_true (lt_t hj (by omega))), g_next hG hx hj, bI_s, nI_1]
    unfold nrP
    cases hn : nxt R C kd x j with
    | none => rw [if_pos oI_n]; rfl
    | some y =>
      have hy := (nxt_lt hG.1 hx hj hn).1
      rw [oI_s, if_neg (m1_nn (by omega)), c_dist hG hB hy, bI_s, c_dist hG hB hx, bI_s, hxk, oI_s, show nI (k + 1) - 1 = nI k from nI_pred k]
      dsimp only
      have hoe := oI_eq (o := st.2 y) (k := k) (fun j hj => by have := bD_lt hG.1 hI hj; omega) (by omega)
      by_cases e : st.2 y = some k
      · rw [if_pos (hoe.mpr e), if_pos (decide_eq_true e)]
      · rw [if_neg (fun q => e (hoe.mp q)), if_neg (fun q => e (of_decide_eq_true q))]
  have go : ∀ m j, j + m = w → Paths_wayNearer_L1 (d + 2) (nI x) (nI j) t = some (some (vI (nI w)), t) := by
    intro m
    induction m with
    | zero =>
      intro j e
      have : j = w := by omega
      subst this
      rw [stepd j hw4, ht, if_pos rfl]
    | succ m ih =>
      intro j e
      rw [stepd j (by omega), hfirst j (by omega), if_neg (by decide)]
      exact ih (j + 1) (by omega)
  exact go w 0 (by omega)
theorem q_way (x y : Int32) : ∃ a r, (∀ s, CQ s R C kd n F W V lo M L l → QC s (ev (d + 9) f_Main_way [vR 0 0, vI x, vI y] s) a r) ∧ (∀ s, RQ s R C kd n F W V lo M L l → QR s (ev (d + 9) f_Ref_way [vR 13 0, vI x, vI y] s) a r) := by
  by_cases hgo : gOk R C kd
  case neg => exact ⟨0, [], fun s h => absurd h.1.1 hgo, fun s h => absurd h.1.1 hgo⟩
  have b36 := gOk_36 hgo
  by_cases hc : x_in x (R * C) = true ∧ x_in y (R * C) = true
  case neg =>
    refine ⟨-1, l, fun s h => ⟨s, ?_, h.2.2.2, fr_r _ _⟩, fun s h => ⟨wI s 13 0 0 0, ?_, (RQ_0 h).2.2.2.1, fr_m fr_0 (fun _ _ _ => p0_RQ)⟩⟩
    · rw [Main_way_eq, g_has h.1, bI_s]
      cases hx : x_in x (R * C) with
      | false => rw [if_pos (by decide)]
      | true =>
        rw [if_neg (by decide), g_has h.1, bI_s]
        cases hy : x_in y (R * C) with
        | false => rw [if_pos (by decide)]
        | true => exact absurd ⟨hx, hy⟩ hc
    · rw [Ref_way_eq, m_isField (RQ_0 h).1, bI_s]
      cases hx : x_in x (R * C) with
      | false => rw [if_pos (by decide)]
      | true =>
        rw [if_neg (by decide), m_isField (RQ_0 h).1, bI_s]
        cases hy : x_in y (R * C) with
        | false => rw [if_pos (by decide)]
        | true => exact absurd ⟨hx, hy⟩ hc
  obtain ⟨hx, hy⟩ := hc
  obtain ⟨a, ha, rfl⟩ := (n_in_iff (by omega)).mp hx
  obtain ⟨b, hb, rfl⟩ := (n_in_iff (by omega)).mp hy
  have hka := gOk_kd hgo ha
  have hkb := gOk_kd hgo hb
  have n38 : ∀ c, (none : Option Nat) = some c → c < 36 := fun c h => by cases h
  by_cases hwb : kd b = 1
  · refine ⟨-2, l, fun s h => ?_, fun s h => ⟨wI s 13 0 0 0, ?_, (RQ_0 h).2.2.2.1, fr_m fr_0 (fun _ _ _ => p0_RQ)⟩⟩
    · obtain ⟨hG, hO, hR, hrow⟩ := h
      obtain ⟨u, e1, e2, e3⟩ := c_spread0 (d := d + 4) (cl := none) hG hb hwb
      have hG1 := cG_fr hG e3 (by intro k; unfold pB; omega) (by intro k; unfold pB; omega) (by intro k; unfold pB; omega)
      refine ⟨u, ?_, cRow_fr hrow e3 (by unfold pB; omega) (by intro k; unfold pB; omega), fr_m e3 (fun _ _ _ => pB_CQ)⟩
      have e1' : ev (d + 8) f_Paths_spread [vR 8 0, vI (nI b), vI (-1)] s = some (some (vI 0), u) := e1
      rw [Main_way_eq, g_has hG, hx, bI_s, if_neg (by decide), g_has hG, hy, bI_s, if_neg (by decide), e1', bI_s, Paths_distanceTo_eq, g_has hG1, hx, bI_s, if_neg (by decide), in_t (show a < 36 by omega) (by omega), if_pos rfl, n_cl (by omega), e2 a (by omega), bI_s, if_pos rfl]
    · obtain ⟨hG, hO, hR, hrow, h38⟩ := RQ_0 h
      rw [Ref_way_eq, m_isField hG, hx, bI_s, if_neg (by decide), m_isField hG, hy, bI_s, if_neg (by decide), in_t (show a < 36 by omega) (by omega), if_pos rfl, in_t (show b < 36 by omega) (by omega), if_pos rfl, n_cl (by omega), n_cl (by omega), hG.2.2.2 b hb, hwb, hG.2.2.2 a ha]
      by_cases hwa : kd a = 1
      · rw [if_pos (by rw [hwa]; rfl)]
      · rw [if_neg (show ¬ nI (kd a) = 1 from of_eq_false (eq_f (b := 1) hwa (by omega) (by omega))), if_pos (by rfl)]
  have hok : sOK kd none b := ⟨hwb, fun q => by cases q⟩
  have hI := spr_inv (cl := none) hgo hb hok
  cases hD : (spr R C kd none b).2 a with
  | none =>
    refine ⟨-2, l, fun s h => ?_, fun s h => ?_⟩
    · obtain ⟨hG, hO, hR, hrow⟩ := h
      obtain ⟨u, e1, e2, e3⟩ := c_spread (d := d + 4) (cl := none) hG n38 hb hok
      have hG1 := cG_fr hG e3 (by intro k; unfold pB; omega) (by intro k; unfold pB; omega) (by intro k; unfold pB; omega)
      refine ⟨u, ?_, cRow_fr hrow e3 (by unfold pB; omega) (by intro k; unfold pB; omega), fr_m e3 (fun _ _ _ => pB_CQ)⟩
      have e1' : ev (d + 8) f_Paths_spread [vR 8 0, vI (nI b), vI (-1)] s = some (some (vI (nI (spr R C kd none b).1.length)), u) := e1
      rw [Main_way_eq, g_has hG, hx, bI_s, if_neg (by decide), g_has hG, hy, bI_s, if_neg (by decide), e1', bI_s, c_dist hG1 e2 ha, bI_s, hD, if_pos oI_n]
    · obtain ⟨hG, hO, hR, hrow, h38⟩ := RQ_0 h
      obtain ⟨u, e1, e2, e3⟩ := m_lays (d := d + 3) (cl := none) hG (by rw [h38]; rfl) n38 hb hok
      by_cases hwa : kd a = 1
      · refine ⟨wI s 13 0 0 0, ?_, hrow, fr_m fr_0 (fun _ _ _ => p0_RQ)⟩
        rw [Ref_way_eq, m_isField hG, hx, bI_s, if_neg (by decide), m_isField hG, hy, bI_s, if_neg (by decide), in_t (show a < 36 by omega) (by omega), if_pos rfl, n_cl (by omega), hG.2.2.2 a ha, if_pos (by rw [hwa]; rfl)]
      · refine ⟨u, ?_, rRow_fr hrow e3 (by unfold pD; omega) (by intro k; unfold pD; omega), fr_t (fr_m fr_0 (fun _ _ _ => p0_RQ)) (fr_m e3 (fun _ _ _ => pD_RQ))⟩
        rw [Ref_way_eq, m_isField hG, hx, bI_s, if_neg (by decide), m_isField hG, hy, bI_s, if_neg (by decide), in_t (show a < 36 by omega) (by omega), if_pos rfl, in_t (show b < 36 by omega) (by omega), if_pos rfl, n_cl (by omega), n_cl (by omega), hG.2.2.2 b hb, hG.2.2.2 a ha, if_neg (show ¬ nI (kd a) = 1 from of_eq_false (eq_f (b := 1) hwa (by omega) (by omega))), if_neg (show ¬ nI (kd b) = 1 from of_eq_false (eq_f (b := 1) hwb (by omega) (by omega))), e1, bI_s, if_pos rfl, e2.2 a (by omega), hD, if_pos (by rfl)]
  | some k =>
    have hwa : kd a ≠ 1 := (hI.2.1 a ((hI.2.2.1 a).mp (by rw [hD]; exact fun q => by cases q))).2.1
    have hk36 := bD_lt hgo hI hD
    refine ⟨nI k, ((pth (nxt R C kd) (spr R C kd none b).2 k a).take 12).map lN, fun s h => ?_, fun s h => ?_⟩
    · obtain ⟨hG, hO, hR, hrow⟩ := h
      obtain ⟨u, e1, e2, e3⟩ := c_spread (d := d + 4) (cl := none) hG n38 hb hok
      have hG1 := cG_fr hG e3 (by intro k; unfold pB; omega) (by intro k; unfold pB; omega) (by intro k; unfold pB; omega)
      have e1' : ev (d + 8) f_Paths_spread [vR 8 0, vI (nI b), vI (-1)] s = some (some (vI (nI (spr R C kd none b).1.length)), u) := e1
      obtain ⟨u2, k1, k2, k3⟩ := n_clear (d := d + 7) (s := u)
      have key : ∀ m i x t (l : List Int64), i + m = k → x < R * C → (spr R C kd none b).2 x = some m → l.length = i → i ≤ 12 → cRow t l → fr pN u t → ∃ v, Main_way_L1 (d + 8) (nI k) (nI x) (nI i) t = some (some (vI (nI k)), v) ∧ cRow v (l ++ ((pth (nxt R C kd) (spr R C kd none b).2 m x).take (12 - i)).map lN) ∧ fr pN u v := by
        intro m
        induction m with
        | zero =>
          intro i x t l e hxl hxm hl hi hr hf
          refine ⟨t, ?_, by show cRow t (l ++ (([] : List Nat).take (12 - i)).map lN); rw [List.take_nil, List.map_nil, List.append_nil]; exact hr, hf⟩
          rw [Main_way_L1_eq, if_neg (of_eq_false (lt_f (by omega) (by omega)))]
        | succ m ih =>
          intro i x t l e hxl hxm hl hi hr hf
          rw [Main_way_L1_eq, nl_12, if_pos (of_eq_true (lt_t (by omega) (by omega)))]
          by_cases h12 : i < 12
          · have hGt := cG_fr hG1 hf (by intro k; unfold pN; omega) (by intro k; unfold pN; omega) (by intro k; unfold pN; omega)
            have hBt : cB t (spr R C kd none b) := ⟨fun i hi => by rw [(hf 31 0 i (by unfold pN; omega)).1]; exact e2.1 i hi, fun g hg => by rw [(hf 30 0 g (by unfold pN; omega)).1]; exact e2.2 g hg⟩
            obtain ⟨w, y, hw, hw4, hn, hy⟩ := near_ex hgo hI hxm
            have hyl := (nxt_lt hgo hxl hw4 hn).1
            obtain ⟨v, g1, g2, g3⟩ := n_add1 (d := d + 7) (x := lN w) hr (by omega)
            have hGv := cG_fr hGt g3 (by intro k; unfold pN; omega) (by intro k; unfold pN; omega) (by intro k; unfold pN; omega)
            rw [if_pos (of_eq_true (lt_t h12 (by omega))), c_nearer hGt hBt hI hxl hxm hw, bI_s, nI_l (by omega), g1, bV_s, g_next hGv hxl hw4, bI_s, hn, oI_s, nI_1]
            obtain ⟨v2, q1, q2, q3⟩ := ih (i + 1) y v (l ++ [lN w]) (by omega) hyl hy (by rw [List.length_append, hl]; rfl) (by omega) g2 (fr_t hf g3)
            refine ⟨v2, q1, ?_, q3⟩
            have : pth (nxt R C kd) (spr R C kd none b).2 (m + 1) x = w :: pth (nxt R C kd) (spr R C kd none b).2 m y := by
              rw [pth_S, hw]; dsimp only; rw [hn]
            rw [this, show 12 - i = (12 - (i + 1)) + 1 by omega, List.take_succ_cons, List.map_cons]
            rw [List.append_assoc] at q2
            exact q2
          · have : i = 12 := by omega
            rw [if_neg (of_eq_false (lt_f (by omega) (by omega)))]
            refine ⟨t, rfl, ?_, hf⟩
            rw [this, Nat.sub_self, List.take_zero, List.map_nil, List.append_nil]; exact hr
      obtain ⟨v, q1, q2, q3⟩ := key k 0 a u2 [] (by omega) ha hD rfl (by omega) k2 k3
      refine ⟨v, ?_, q2, fr_t (fr_m e3 (fun _ _ _ => pB_CQ)) (fr_m q3 (fun _ _ _ => pN_CQ))⟩
      rw [Main_way_eq, g_has hG, hx, bI_s, if_neg (by decide), g_has hG, hy, bI_s, if_neg (by decide), e1', bI_s, c_dist hG1 e2 ha, bI_s, hD, oI_s, if_neg (m1_nn (by omega)), k1, bV_s]
      exact q1
    · obtain ⟨hG, hO, hR, hrow, h38⟩ := RQ_0 h
      have h38' : (wI s 13 0 0 0).1 13 0 38 = oI none := by rw [h38]; rfl
      obtain ⟨u, e1, e2, e3⟩ := m_lays (d := d + 3) (cl := none) hG h38' n38 hb hok
      obtain ⟨i1, i2⟩ := m_told0 (s := u)
      have hGu := rG_fr hG e3 (by unfold pD; omega) (by unfold pD; omega) (by intro k; unfold pD; omega)
      have h38u : u.1 13 0 38 = oI none := by rw [(e3 13 0 38 (by unfold pD; omega)).1]; exact h38'
      have key : ∀ m x t (l : List Int64), x < R * C → (spr R C kd none b).2 x = some m → l.length ≤ 12 → rRow t l → fr pT u t → ∃ v, Ref_way_L1 (d + 8) (nI a) (nI b) (nI x) t = some (some (vI (nI k)), v) ∧ rRow v (l ++ ((pth (nxt R C kd) (spr R C kd none b).2 m x).take (12 - l.length)).map lN) ∧ fr pT u v := by
        intro m
        induction m with
        | zero =>
          intro x t l hxl hxm hl hr hf
          have hxb := hI.2.2.2.2.2.1 x hxm
          refine ⟨t, ?_, by show rRow t (l ++ (([] : List Nat).take (12 - l.length)).map lN); rw [List.take_nil, List.map_nil, List.append_nil]; exact hr, hf⟩
          rw [hxb, Ref_way_L1_eq, if_pos rfl, in_t (show a < 36 by omega) (by omega), if_pos rfl, n_cl (by omega), (hf 56 0 a (by unfold pT; omega)).1, e2.2 a (by omega), hD]; rfl
        | succ m ih =>
          intro x t l hxl hxm hl hr hf
          have hm36 := bD_lt hgo hI hxm
          have hxb : x ≠ b := fun q => by rw [q, hI.2.2.2.2.1] at hxm; cases hxm
          have hGt := rG_fr hGu hf (by unfold pT; omega) (by unfold pT; omega) (by intro k; unfold pT; omega)
          have h38t : t.1 13 0 38 = oI none := by rw [(hf 13 0 38 (by unfold pT; omega)).1]; exact h38u
          obtain ⟨w, y, hw, hw4, hn, hy⟩ := near_ex hgo hI hxm
          have hyl := (nxt_lt hgo hxl hw4 hn).1
          obtain ⟨ht, hfirst⟩ := fo_true _ _ _ hw
          rw [Ref_way_L1_eq, if_neg (of_eq_false (eq_f hxb (by omega) (by omega)))]
          have stepd : ∀ j, j < 4 → Ref_way_L2 (d + 8) (nI a) (nI b) (nI x) (nI j) t = if nrP (nxt R C kd) (spr R C kd none b).2 x m j then (if nI l.length < nI 12 then bV (ev (d + 8) f_Ref_enters [vR 13 0, vL (lN j)] t) fun s13 => Ref_way_J3 (d + 8) (nI a) (nI b) (nI x) (nI j) s13 else Ref_way_J3 (d + 8) (nI a) (nI b) (nI x) (nI j) t) else Ref_way_L2 (d + 8) (nI a) (nI b) (nI x) (nI (j + 1)) t := by
            intro j hj
            rw [Ref_way_L2_eq, m_beside hGt hxl hj, bI_s, m_isFree hGt h38t n38 hxl hj, bI_s, nxC_none, nI_1]
            unfold nrP
            cases hn : nxt R C kd x j with
            | none => rw [if_pos (show ib (none : Option Nat).isSome = 0 from rfl)]; rfl
            | some y =>
              have hy := (nxt_lt hgo hxl hj hn).1
              rw [if_neg (show ¬ ib (some y).isSome = 0 from ib_t0), m_beside hGt hxl hj, bI_s, nxt_bes hn, oI_s, in_t (show y < 36 by omega) (by omega), if_pos rfl, in_t (show x < 36 by omega) (by omega), if_pos rfl, n_cl (by omega), n_cl (by omega), (hf 56 0 y (by unfold pT; omega)).1, (hf 56 0 x (by unfold pT; omega)).1, e2.2 y (by omega), e2.2 x (by omega), hxm, show nvI (some (m + 1)) - 1 = nI m from nI_pred m, hr.1, nl_12, nI_l (by omega)]
              dsimp only
              have hoe := nvI_eq (o := (spr R C kd none b).2 y) (k := m) (fun j hj => by have := bD_lt hgo hI hj; omega) (by omega)
              by_cases e : (spr R C kd none b).2 y = some m
              · rw [if_pos (hoe.mpr e), if_pos (decide_eq_true e)]
              · rw [if_neg (fun q => e (hoe.mp q)), if_neg (fun q => e (of_decide_eq_true q))]
          have go : ∀ m' j, j + m' = w → Ref_way_L2 (d + 8) (nI a) (nI b) (nI x) (nI j) t = if nI l.length < nI 12 then bV (ev (d + 8) f_Ref_enters [vR 13 0, vL (lN w)] t) fun s13 => Ref_way_J3 (d + 8) (nI a) (nI b) (nI x) (nI w) s13 else Ref_way_J3 (d + 8) (nI a) (nI b) (nI x) (nI w) t := by
            intro m'
            induction m' with
            | zero =>
              intro j e
              have : j = w := by omega
              subst this
              rw [stepd j hw4, ht, if_pos rfl]
            | succ m' ih2 =>
              intro j e
              rw [stepd j (by omega), hfirst j (by omega), if_neg (by decide)]
              exact ih2 (j + 1) (by omega)
          have hpth : pth (nxt R C kd) (spr R C kd none b).2 (m + 1) x = w :: pth (nxt R C kd) (spr R C kd none b).2 m y := by
            rw [pth_S, hw]; dsimp only; rw [hn]
          have g0 : Ref_way_L2 (d + 8) (nI a) (nI b) (nI x) 0 t = _ := go w 0 (by omega)
          rw [g0, hpth]
          by_cases h12 : l.length < 12
          · obtain ⟨v, g1, g2, g3⟩ := m_enters (d := d + 7) (x := lN w) hr (by omega)
            have hGv := rG_fr hGt g3 (by unfold pT; omega) (by unfold pT; omega) (by intro k; unfold pT; omega)
            rw [if_pos (of_eq_true (lt_t h12 (by omega))), g1, bV_s, Ref_way_J3_eq, m_beside hGv hxl hw4, bI_s, nxt_bes hn, oI_s]
            obtain ⟨v2, q1, q2, q3⟩ := ih y v (l ++ [lN w]) hyl hy (by rw [List.length_append]; simp; omega) g2 (fr_t hf g3)
            refine ⟨v2, q1, ?_, q3⟩
            rw [List.length_append, List.append_assoc] at q2
            rw [show 12 - l.length = (12 - (l.length + 1)) + 1 by omega, List.take_succ_cons, List.map_cons]
            exact q2
          · rw [if_neg (of_eq_false (lt_f (by omega) (by omega))), Ref_way_J3_eq, m_beside hGt hxl hw4, bI_s, nxt_bes hn, oI_s]
            obtain ⟨v2, q1, q2, q3⟩ := ih y t l hyl hy hl hr hf
            refine ⟨v2, q1, ?_, q3⟩
            have : 12 - l.length = 0 := by omega
            rw [this, List.take_zero] at q2 ⊢
            exact q2
      obtain ⟨v, q1, q2, q3⟩ := key k a (wI u 13 0 1 0) [] ha hD (by simp) i1 i2
      refine ⟨v, ?_, q2, fr_t (fr_m fr_0 (fun _ _ _ => p0_RQ)) (fr_t (fr_m e3 (fun _ _ _ => pD_RQ)) (fr_m q3 (fun _ _ _ => pT_RQ)))⟩
      rw [Ref_way_eq, m_isField hG, hx, bI_s, if_neg (by decide), m_isField hG, hy, bI_s, if_neg (by decide), in_t (show a < 36 by omega) (by omega), if_pos rfl, in_t (show b < 36 by omega) (by omega), if_pos rfl, n_cl (by omega), n_cl (by omega), hG.2.2.2 b hb, hG.2.2.2 a ha, if_neg (show ¬ nI (kd a) = 1 from of_eq_false (eq_f (b := 1) hwa (by omega) (by omega))), if_neg (show ¬ nI (kd b) = 1 from of_eq_false (eq_f (b := 1) hwb (by omega) (by omega))), e1, bI_s, if_pos rfl, e2.2 a (by omega), hD, if_neg (show ¬ nvI (some k) = 1000000 from of_eq_false (eq_f (a := k) (b := 1000000) (by omega) (by omega) (by omega)))]
      exact q1
end BFSR

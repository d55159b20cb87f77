/-! What can be formed from a stand, what is seen from it: the class's side. -/
section FORM
def thn (ds sg v w k p : Nat) (m : Int32) : Nat → Int32 := fun j => match j with
  | 0 => nI ds | 1 => nI sg | 2 => nI v | 3 => nI w | 4 => nI k | 5 => nI p | _ => m
def cfl (nx sg : Nat → Option Nat) (ok : Nat → Nat → Bool) : Nat → Nat → Nat → Nat → Nat → Nat
  | 0, _, _, _, fo => fo
  | m + 1, ds, pl, pa, fo => match nx pl with
    | none => fo
    | some g => match sg g with
      | none => cfl nx sg ok m (ds + 1) g pa fo
      | some k => bif pa.testBit k then cfl nx sg ok m (ds + 1) g pa fo else cfl nx sg ok m (ds + 1) g (pa ||| 2 ^ k) (bif ok ds k then fo ||| 2 ^ k else fo)
theorem cfl_lt {nx sg : Nat → Option Nat} {ok : Nat → Nat → Bool} {N : Nat} (hn : ∀ f g, f < N → nx f = some g → g < N) (hs : ∀ f k, f < N → sg f = some k → k < 6) : ∀ m ds pl pa fo, pl < N → fo < 64 → cfl nx sg ok m ds pl pa fo < 64 := by
  intro m
  induction m with
  | zero => intro ds pl pa fo _ h; exact h
  | succ m ih =>
    intro ds pl pa fo hp h
    unfold cfl
    split
    · exact h
    · next g e =>
      have hg := hn _ _ hp e
      split
      · exact ih _ _ _ _ hg h
      · next k e2 =>
        have hk := p2_64 (hs _ _ hg e2)
        cases pa.testBit k with
        | true => exact ih _ _ _ _ hg h
        | false =>
          refine ih _ _ _ _ hg ?_
          cases ok ds k with
          | true => exact or_lt64 h hk
          | false => exact h
def okr (L : List Nat) (v w k p : Nat) (m : Int32) (ds sg : Nat) : Bool := decide (0 < rvl (thn ds sg v w k p m) L)
/-- what can be formed, by so many views, from a field by a way, with so many others there -/
def cfm (R C : Nat) (kd : Nat → Nat) (L : List Nat) (v w k p : Nat) (m : Int32) (f : Nat) : Nat := cfl (fun g => nxt R C kd g w) (sgt kd) (okr L v w k p m) 5 1 f 0 0
variable {d i j n lo p f w v k R C : Nat} {F W V : Nat → Nat} {kd : Nat → Nat} {M : Int32} {s : xS} {L : List Nat}
theorem cfm_lt (hG : gOk R C kd) (hf : f < R * C) (hw : w < 4) : cfm R C kd L v w k p M f < 64 :=
  cfl_lt (N := R * C) (fun f g hf h => (nxt_lt hG hf hw h).1) (fun f k hf h => sgt_lt hG hf h) 5 1 f 0 0 hf (by omega)
theorem pK_E {c i k : Nat} (h : pK c i k) : pE c i k := by unfold pK at h; unfold pE; omega
theorem e_loop (hL : wfL L 0) (hw : w < 4) (th : Nat → Int32) (hth : ∀ ds sg j, 2 ≤ j → thn ds sg v w k p M j = th j) : ∀ (m ds pl pa fo : Nat) (s0 s : xS), ds + m = 6 → pl < R * C → pa < 64 → fo < 64 → cG s R C kd → cR s i L → (∀ j, 2 ≤ j → j < 7 → s.1 26 0 j = th j) → fr pE s0 s →
    ∃ u, Eye_canForm_L1 (d + 2) i (nI pl) (nI w) (nI pa) (nI fo) (nI ds) s = some (some (vI (nI (cfl (fun g => nxt R C kd g w) (sgt kd) (okr L v w k p M) m ds pl pa fo))), u) ∧ fr pE s0 u := by
  intro m
  induction m with
  | zero =>
    intro ds pl pa fo s0 s e hp ha ho hG hR ht hf
    refine ⟨s, ?_, hf⟩
    rw [Eye_canForm_L1_eq]
    simp (disch := omega) only [nl_5, lt_t, ↓reduceIte]; rfl
  | succ m ih =>
    intro ds pl pa fo s0 s e hp ha ho hG hR ht hf
    rw [Eye_canForm_L1_eq, nl_5, if_neg (of_eq_false (lt_f (by omega) (by omega))), g_next hG hp hw, bI_s]
    unfold cfl
    cases hx : nxt R C kd pl w with
    | none => exact ⟨s, by simp only [oI_n, ↓reduceIte], hf⟩
    | some g =>
      have hg := (nxt_lt hG.1 hp hw hx).1
      have b36 := gOk_36 hG.1
      simp (disch := omega) only [oI_s, m1_ne, ↓reduceIte]
      rw [g_sightOn hG hg, bI_s]
      cases hy : sgt kd g with
      | none =>
        simp only [oI_n, ↓reduceIte, nI_1]
        exact ih (ds + 1) g pa fo s0 s (by omega) hg ha ho hG hR ht hf
      | some q =>
        have hq := sgt_lt hG.1 hg hy
        have hq2 := p2_64 hq
        simp (disch := omega) only [oI_s, m1_ne, ↓reduceIte]
        cases hb : pa.testBit q with
        | true =>
          rw [if_pos ((j_bit1 (by omega) (by omega)).mpr hb), nI_1]
          exact ih (ds + 1) g pa fo s0 s (by omega) hg ha ho hG hR ht hf
        | false =>
          rw [if_neg (fun z => by rw [(j_bit1 (by omega) (by omega)).mp z] at hb; cases hb), if_pos (by decide), if_pos (by decide)]
          have f2 : fr pE s (wI (wI s 26 0 0 (nI ds)) 26 0 1 (nI q)) := fr_wI (fr_wI (fr_r _ _) (Or.inl rfl)) (Or.inl rfl)
          obtain ⟨u, e1, f1⟩ := r_reckon (d := d) (th := thn ds q v w k p M) (cR_fr hR f2 (by unfold pE; omega) (by intro k; unfold pE; omega)) hL (fun j hj => by
            match j, hj with
            | 0, _ => simp [wI_get]; rfl
            | 1, _ => simp [wI_get]; rfl
            | j + 2, hj => rw [wI_nk (by omega), wI_nk (by omega), hth _ _ _ (by omega)]; exact ht _ (by omega) hj)
          have f3 : fr pE s u := fr_t f2 (fr_m f1 (fun _ _ _ => pK_E))
          have e1' : ev (d + 2) f_Rule_reckon [vR 5 i, vR 26 0] (wI (wI s 26 0 (0 : Int32).toNatClampNeg (nI ds)) 26 0 (1 : Int32).toNatClampNeg (nI q)) = some (some (vI (rvl (thn ds q v w k p M) L)), u) := e1
          rw [e1', bI_s, j_1shl (by omega), fa_or, fa_or, nI_1, nl_0, n_or0]
          have next := fun fo' (hfo : fo' < 64) => ih (ds + 1) g (pa ||| 2 ^ q) fo' s0 u (by omega) hg (or_lt64 ha hq2) hfo (cG_fr hG f3 (by intro k; unfold pE; omega) (by intro k; unfold pE; omega) (by intro k; unfold pE; omega)) (cR_fr hR f3 (by unfold pE; omega) (by intro k; unfold pE; omega)) (fun j h2 h7 => by
            have : u.1 26 0 j = (wI (wI s 26 0 0 (nI ds)) 26 0 1 (nI q)).1 26 0 j := (f1 26 0 j (by unfold pK; omega)).1
            rw [this, wI_nk (by omega), wI_nk (by omega)]; exact ht j h2 h7) (fr_t hf f3)
          by_cases hr : nI 0 < rvl (thn ds q v w k p M) L
          · rw [if_pos hr]
            have : okr L v w k p M ds q = true := decide_eq_true hr
            simp only [hb, cond_false, this, cond_true]
            exact next _ (or_lt64 ho hq2)
          · rw [if_neg hr]
            have : okr L v w k p M ds q = false := decide_eq_false hr
            simp only [hb, cond_false, this]
            exact next _ ho
theorem e_canForm (hG : cG s R C kd) (hO : cO s j n F W V lo M) (ho : oOk R C kd n F W V lo) (hR : cR s i L) (hL : wfL L 0) (hf : f < R * C) (hw : w < 4) (hp : p < 4) (hv : v ≤ 6) :
    ∃ u, ev (d + 3) f_Eye_canForm [vR 6 0, vR 5 i, vR 3 j, vI (nI p), vI (nI (4 * f + w)), vI (nI v)] s = some (some (vI (nI (cfm R C kd L v w (oth F p f n) p (jrem M 7) f))), u) ∧ fr pE s u := by
  have b36 := gOk_36 hG.1
  have hb4 : oth F p f n ≤ 4 := Nat.le_trans (cnt_le _ _) ho.1
  rw [Eye_canForm_eq]
  have e4 : nI (4 * f + w) / 4 = nI f := by
    have : nI (4 * f + w) / nI 4 = nI ((4 * f + w) / 4) := n_div (by omega) (by omega) (by omega)
    rw [show (4 * f + w) / 4 = f by omega] at this; exact this
  have e5 : jrem (nI (4 * f + w)) 4 = nI w := by
    have : jrem (nI (4 * f + w)) (nI 4) = nI ((4 * f + w) % 4) := n_rem (by omega) (by omega) (by omega)
    rw [show (4 * f + w) % 4 = w by omega] at this; exact this
  rw [if_neg (by decide), if_neg (by decide), if_pos (by decide), if_pos (by decide), e4, e5]
  have f1 : fr pE s (wI (wI s 26 0 2 (nI v)) 26 0 3 (nI w)) := fr_wI (fr_wI (fr_r _ _) (Or.inl rfl)) (Or.inl rfl)
  have hO1 : cO (wI (wI s 26 0 2 (nI v)) 26 0 3 (nI w)) j n F W V lo M := cO_fr hO f1 (by intro k; unfold pE; omega) (by intro k; unfold pE; omega) (by intro k; unfold pE; omega) (by intro k; unfold pE; omega)
  have e6 : ev (d + 2) f_Outing_countOthersOn [vR 3 j, vI (nI f), vI (nI p)] (wI (wI s 26 0 (2 : Int32).toNatClampNeg (nI v)) 26 0 (3 : Int32).toNatClampNeg (nI w)) = some (some (vI (nI (oth F p f n))), (wI (wI s 26 0 2 (nI v)) 26 0 3 (nI w))) :=
    o_others hO1 ho.1 (fun q hq => by have := (ho.2.2.1 q hq).1; omega) (by omega) (by omega)
  rw [e6, bI_s, if_pos (by decide), if_pos (by decide), if_neg (by decide), if_pos (by decide), hO1.2.2.1]
  have f2 : fr pE s (wI (wI (wI (wI (wI s 26 0 2 (nI v)) 26 0 3 (nI w)) 26 0 4 (nI (oth F p f n))) 26 0 5 (nI p)) 26 0 6 (jrem M 7)) := fr_wI (fr_wI (fr_wI f1 (Or.inl rfl)) (Or.inl rfl)) (Or.inl rfl)
  exact e_loop (d := d) (v := v) (k := oth F p f n) (p := p) (M := jrem M 7) hL hw (fun j => thn 0 0 v w (oth F p f n) p (jrem M 7) j) (fun ds sg j hj => by
    match j, hj with
    | 2, _ => rfl
    | 3, _ => rfl
    | 4, _ => rfl
    | 5, _ => rfl
    | j + 6, _ => rfl) 5 1 f 0 0 s _ rfl hf (by omega) (by omega) (cG_fr hG f2 (by intro k; unfold pE; omega) (by intro k; unfold pE; omega) (by intro k; unfold pE; omega)) (cR_fr hR f2 (by unfold pE; omega) (by intro k; unfold pE; omega)) (fun j h2 h7 => by
    match j, h2, h7 with
    | 2, _, _ => simp [wI_get]; rfl
    | 3, _, _ => simp [wI_get]; rfl
    | 4, _, _ => simp [wI_get]; rfl
    | 5, _, _ => simp [wI_get]; rfl
    | 6, _, _ => simp [wI_get]; rfl) f2
/-- what a pram would form from a stand -/
def wfm (R C : Nat) (kd : Nat → Nat) (n : Nat) (F V : Nat → Nat) (M : Int32) (L : List Nat) (p f w : Nat) : Nat := an (cfm R C kd L (pc (V p)) w (oth F p f n) p (jrem M 7) f) (V p)
theorem wfm_lt (hG : gOk R C kd) (hf : f < R * C) (hw : w < 4) : wfm R C kd n F V M L p f w < 64 := an_lt (cfm_lt hG hf hw)
theorem e_would (hG : cG s R C kd) (hO : cO s j n F W V lo M) (ho : oOk R C kd n F W V lo) (hR : cR s i L) (hL : wfL L 0) (hf : f < R * C) (hw : w < 4) (hp : p < n) :
    ∃ u, ev (d + 4) f_Eye_wouldForm [vR 6 0, vR 5 i, vR 3 j, vI (nI p), vI (nI (4 * f + w))] s = some (some (vI (nI (wfm R C kd n F V M L p f w))), u) ∧ fr pE s u := by
  have hn := ho.1
  have hv := (ho.2.2.1 p hp).2.2.2
  obtain ⟨u, e, h⟩ := e_canForm (d := d) hG hO ho hR hL hf hw (show p < 4 by omega) (pc_le (V p))
  refine ⟨u, ?_, h⟩
  rw [Eye_wouldForm_eq, o_viewsOf hO ho.1 hp, bI_s, bc_s hv, bI_s, e, bI_s, n_an (cfm_lt hG.1 hf hw) hv]
  rfl
end FORM

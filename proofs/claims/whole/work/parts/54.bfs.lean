/-! Ways: one search, by both. -/
section BFS
abbrev bS : Type := List Nat × (Nat → Option Nat)
def bw (nx : Nat → Nat → Option Nat) (f w : Nat) (st : bS) : bS := match nx f w with
  | none => st
  | some g => match st.2 g with
    | some _ => st
    | none => (st.1 ++ [g], up st.2 g (some ((st.2 f).getD 0 + 1)))
def bws (nx : Nat → Nat → Option Nat) (f : Nat) : Nat → bS → bS
  | 0, st => st
  | k + 1, st => bw nx f k (bws nx f k st)
def bf (nx : Nat → Nat → Option Nat) : Nat → Nat → bS → bS
  | 0, _, st => st
  | m + 1, i, st => if i < st.1.length then bf nx m (i + 1) (bws nx (st.1.getD i 0) 4 st) else st
def bInv (nx : Nat → Nat → Option Nat) (N : Nat) (ok : Nat → Prop) (src : Nat) (st : bS) : Prop :=
  st.1.Nodup ∧ (∀ g, g ∈ st.1 → g < N ∧ ok g) ∧ (∀ g, st.2 g ≠ none ↔ g ∈ st.1) ∧ (∀ g k, st.2 g = some k → k < st.1.length) ∧ st.2 src = some 0 ∧ (∀ g, st.2 g = some 0 → g = src) ∧ (∀ g k, st.2 g = some (k + 1) → ∃ f w, w < 4 ∧ nx f w = some g ∧ st.2 f = some k)
theorem nodup_len {l : List Nat} {N : Nat} (h : l.Nodup) (hN : ∀ x, x ∈ l → x < N) : l.length ≤ N := by
  refine fb_holes N l.length (fun i => l.getD i 0) (fun i hi => ?_) (fun i j hij hj => ?_)
  · show l.getD i 0 < N
    rw [List.getD_eq_getElem?_getD, List.getElem?_eq_getElem hi]
    exact hN _ (List.getElem_mem hi)
  · show l.getD i 0 ≠ l.getD j 0
    rw [List.getD_eq_getElem?_getD, List.getElem?_eq_getElem (show i < l.length by omega), List.getD_eq_getElem?_getD, List.getElem?_eq_getElem hj]
    exact (List.pairwise_iff_getElem.mp h) i j _ hj hij
theorem getD_mem {l : List Nat} {i : Nat} (h : i < l.length) : l.getD i 0 ∈ l := by
  rw [List.getD_eq_getElem?_getD, List.getElem?_eq_getElem h]; exact List.getElem_mem h
theorem getN_app1 {l : List Nat} {x i : Nat} (h : i < l.length) : (l ++ [x]).getD i 0 = l.getD i 0 := by
  rw [List.getD_eq_getElem?_getD, List.getD_eq_getElem?_getD, List.getElem?_append_left h]
theorem getN_app2 {l : List Nat} {x : Nat} : (l ++ [x]).getD l.length 0 = x := by
  rw [List.getD_eq_getElem?_getD, List.getElem?_append_right (Nat.le_refl _), Nat.sub_self]; rfl
variable {nx : Nat → Nat → Option Nat} {N src f w : Nat} {ok : Nat → Prop} {st : bS}
theorem bw_inv (h : bInv nx N ok src st) (hf : f ∈ st.1) (hw : w < 4) (hnx : ∀ f w g, f < N → ok f → w < 4 → nx f w = some g → g < N ∧ ok g) : bInv nx N ok src (bw nx f w st) ∧ f ∈ (bw nx f w st).1 ∧ (bw nx f w st).2 f = st.2 f ∧ st.1.length ≤ (bw nx f w st).1.length ∧ ∀ i, i < st.1.length → (bw nx f w st).1.getD i 0 = st.1.getD i 0 := by
  unfold bw
  cases hx : nx f w with
  | none => exact ⟨h, hf, rfl, Nat.le_refl _, fun _ _ => rfl⟩
  | some g =>
    dsimp only
    cases hg : st.2 g with
    | some k => exact ⟨h, hf, rfl, Nat.le_refl _, fun _ _ => rfl⟩
    | none =>
      dsimp only
      obtain ⟨h1, h2, h3, h4, h5, h6, h7⟩ := h
      have hgn : g ∉ st.1 := fun q => ((h3 g).mpr q) hg
      have hgf : g ≠ f := fun q => hgn (by rw [q]; exact hf)
      obtain ⟨kf, hkf⟩ : ∃ k, st.2 f = some k := by
        cases e : st.2 f with
        | none => exact absurd e ((h3 f).mpr hf)
        | some k => exact ⟨k, rfl⟩
      have hgs : g ≠ src := fun q => by rw [q, h5] at hg; cases hg
      have hk1 := h4 f kf hkf
      have hok := hnx f w g (h2 f hf).1 (h2 f hf).2 hw hx
      have hD : (st.2 f).getD 0 = kf := by rw [hkf]; rfl
      rw [hD]
      refine ⟨⟨?_, ?_, ?_, ?_, ?_, ?_, ?_⟩, ?_, ?_, ?_, ?_⟩
      · rw [List.nodup_append]
        exact ⟨h1, List.pairwise_singleton _ _, fun a ha b hb => by
          rw [List.mem_singleton] at hb
          rw [hb]; exact fun q => hgn (by rw [← q]; exact ha)⟩
      · intro z hz
        rw [List.mem_append, List.mem_singleton] at hz
        rcases hz with hz | hz
        · exact h2 z hz
        · rw [hz]; exact hok
      · intro z
        rw [List.mem_append, List.mem_singleton]
        show up st.2 g (some (kf + 1)) z ≠ none ↔ _
        by_cases e : z = g
        · rw [e, up_s]; exact ⟨fun _ => Or.inr rfl, fun _ => by exact fun q => by cases q⟩
        · rw [up_n e, h3 z]; exact ⟨Or.inl, fun q => q.elim id (fun q => absurd q e)⟩
      · intro z k hz
        rw [List.length_append]
        show k < st.1.length + 1
        have hz : up st.2 g (some (kf + 1)) z = some k := hz
        by_cases e : z = g
        · rw [e, up_s] at hz; cases hz; omega
        · rw [up_n e] at hz; have := h4 z k hz; omega
      · show up st.2 g _ src = _
        rw [up_n (fun q => hgs q.symm)]; exact h5
      · intro z hz
        have hz : up st.2 g (some (kf + 1)) z = some 0 := hz
        by_cases e : z = g
        · rw [e, up_s] at hz; cases hz
        · rw [up_n e] at hz; exact h6 z hz
      · intro z k hz
        have hz : up st.2 g (some (kf + 1)) z = some (k + 1) := hz
        by_cases e : z = g
        · rw [e, up_s] at hz
          cases hz
          exact ⟨f, w, hw, by rw [e]; exact hx, by show up st.2 g _ f = _; rw [up_n (fun q => hgf q.symm)]; exact hkf⟩
        · rw [up_n e] at hz
          obtain ⟨f', w', a, b, c⟩ := h7 z k hz
          refine ⟨f', w', a, b, ?_⟩
          show up st.2 g _ f' = _
          rw [up_n (fun q => by rw [q, hg] at c; cases c)]; exact c
      · rw [List.mem_append]; exact Or.inl hf
      · show up st.2 g _ f = _
        rw [up_n (fun q => hgf q.symm)]
      · rw [List.length_append]; omega
      · intro i hi; exact getN_app1 hi
theorem bws_inv (h : bInv nx N ok src st) (hf : f ∈ st.1) (hnx : ∀ f w g, f < N → ok f → w < 4 → nx f w = some g → g < N ∧ ok g) : ∀ k, k ≤ 4 → bInv nx N ok src (bws nx f k st) ∧ f ∈ (bws nx f k st).1 ∧ (bws nx f k st).2 f = st.2 f ∧ st.1.length ≤ (bws nx f k st).1.length ∧ ∀ i, i < st.1.length → (bws nx f k st).1.getD i 0 = st.1.getD i 0 := by
  intro k
  induction k with
  | zero => intro _; exact ⟨h, hf, rfl, Nat.le_refl _, fun _ _ => rfl⟩
  | succ k ih =>
    intro hk
    obtain ⟨a1, a2, a3, a4, a5⟩ := ih (by omega)
    obtain ⟨b1, b2, b3, b4, b5⟩ := bw_inv (w := k) a1 a2 (by omega) hnx
    exact ⟨b1, b2, b3.trans a3, Nat.le_trans a4 b4, fun i hi => (b5 i (by omega)).trans (a5 i hi)⟩
theorem bf_inv (hnx : ∀ f w g, f < N → ok f → w < 4 → nx f w = some g → g < N ∧ ok g) : ∀ m i st, bInv nx N ok src st → bInv nx N ok src (bf nx m i st) := by
  intro m
  induction m with
  | zero => intro i st h; exact h
  | succ m ih =>
    intro i st h
    unfold bf
    by_cases q : i < st.1.length
    · rw [if_pos q]
      exact ih _ _ (bws_inv h (getD_mem q) hnx 4 (by omega)).1
    · rw [if_neg q]; exact h
def b0 (src : Nat) : bS := ([src], fun g => if g = src then some 0 else none)
theorem b0_inv (h : src < N) (h2 : ok src) : bInv nx N ok src (b0 src) := by
  refine ⟨List.pairwise_singleton _ _, fun g hg => ?_, fun g => ?_, fun g k hg => ?_, ?_, fun g hg => ?_, fun g k hg => ?_⟩
  · rw [show g = src from List.mem_singleton.mp hg]; exact ⟨h, h2⟩
  · show (if g = src then some 0 else none) ≠ none ↔ g ∈ [src]
    rw [List.mem_singleton]
    by_cases e : g = src
    · rw [if_pos e]; exact ⟨fun _ => e, fun _ => fun q => by cases q⟩
    · rw [if_neg e]; exact ⟨fun q => absurd rfl q, fun q => absurd q e⟩
  · have hg : (if g = src then some 0 else none) = some k := hg
    by_cases e : g = src
    · rw [if_pos e] at hg; cases hg; exact Nat.zero_lt_one
    · rw [if_neg e] at hg; cases hg
  · exact if_pos rfl
  · have hg : (if g = src then some 0 else none) = some 0 := hg
    by_cases e : g = src
    · exact e
    · rw [if_neg e] at hg; cases hg
  · have hg : (if g = src then some 0 else none) = some (k + 1) := hg
    by_cases e : g = src
    · rw [if_pos e] at hg; cases hg
    · rw [if_neg e] at hg; cases hg
/-- as though the closed one were a wall -/
def nxC (R C : Nat) (kd : Nat → Nat) (cl : Option Nat) (f w : Nat) : Option Nat := match nxt R C kd f w with
  | none => none
  | some g => if cl = some g then none else some g
theorem nxC_lt {R C : Nat} {kd : Nat → Nat} {cl : Option Nat} (hG : gOk R C kd) : ∀ f w g, f < R * C → (kd f ≠ 1 ∧ cl ≠ some f) → w < 4 → nxC R C kd cl f w = some g → g < R * C ∧ (kd g ≠ 1 ∧ cl ≠ some g) := by
  intro f w g hf _ hw h
  unfold nxC at h
  cases e : nxt R C kd f w with
  | none => rw [e] at h; cases h
  | some g' =>
    rw [e] at h
    have h : (if cl = some g' then none else some g') = some g := h
    by_cases q : cl = some g'
    · rw [if_pos q] at h; cases h
    · rw [if_neg q] at h; cases h
      have := nxt_lt hG hf hw e
      exact ⟨this.1, this.2, q⟩
/-- all that there is a way to -/
def spr (R C : Nat) (kd : Nat → Nat) (cl : Option Nat) (src : Nat) : bS := bf (nxC R C kd cl) 37 0 (b0 src)
def sOK (kd : Nat → Nat) (cl : Option Nat) (g : Nat) : Prop := kd g ≠ 1 ∧ cl ≠ some g
theorem spr_inv {R C : Nat} {kd : Nat → Nat} {cl : Option Nat} (hG : gOk R C kd) (h : src < R * C) (h2 : sOK kd cl src) : bInv (nxC R C kd cl) (R * C) (sOK kd cl) src (spr R C kd cl src) := bf_inv (nxC_lt hG) 37 0 _ (b0_inv h h2)
theorem bInv_len (h : bInv nx N ok src st) : st.1.length ≤ N := nodup_len h.1 (fun x hx => (h.2.1 x hx).1)
def nvI (o : Option Nat) : Int32 := match o with
  | none => nI 1000000
  | some k => nI k
def cB (s : xS) (st : bS) : Prop := (∀ i, i < st.1.length → s.1 31 0 i = nI (st.1.getD i 0)) ∧ ∀ g, g < 36 → s.1 30 0 g = oI (st.2 g)
def rB (s : xS) (st : bS) : Prop := (∀ i, i < st.1.length → s.1 57 0 i = nI (st.1.getD i 0)) ∧ ∀ g, g < 36 → s.1 56 0 g = nvI (st.2 g)
def pB (c _i _k : Nat) : Prop := c = 30 ∨ c = 31
def pD (c _i _k : Nat) : Prop := c = 56 ∨ c = 57
variable {d R C : Nat} {kd : Nat → Nat} {cl : Option Nat} {s : xS}
theorem bD_lt (hG : gOk R C kd) (h : bInv nx (R * C) ok src st) {g k : Nat} (hk : st.2 g = some k) : k < 36 := by
  have := bInv_len h
  have := gOk_36 hG
  have := h.2.2.2.1 g k hk
  omega
/-- the class's search -/
theorem c_bfs (hG : cG s R C kd) (hcl : ∀ c, cl = some c → c < 36) : ∀ m i st t, i + m = 37 → bInv (nxC R C kd cl) (R * C) (sOK kd cl) src st → cB t st → fr pB s t →
    ∃ u, Paths_spread_L1 (d + 1) (oI cl) (nI st.1.length) (nI i) t = some (some (vI (nI (bf (nxC R C kd cl) m i st).1.length)), u) ∧ cB u (bf (nxC R C kd cl) m i st) ∧ fr pB s u := by
  have b36 := gOk_36 hG.1
  intro m
  induction m with
  | zero =>
    intro i st t e hI hB hF
    have hl := bInv_len hI
    refine ⟨t, ?_, hB, hF⟩
    rw [Paths_spread_L1_eq, if_neg (of_eq_false (lt_f (by omega) (by omega)))]; rfl
  | succ m ih =>
    intro i st t e hI hB hF
    have hl := bInv_len hI
    unfold bf
    by_cases q : i < st.1.length
    · rw [if_pos q, Paths_spread_L1_eq, nl_36, if_pos (of_eq_true (lt_t q (by omega))), if_pos (of_eq_true (lt_t (by omega) (by omega)))]
      obtain ⟨⟨st', t'⟩, c1, c2, c3, c4⟩ := chainE 4 (fun w (p : bS × xS) => Paths_spread_L2 (d + 1) (oI cl) (nI p.1.1.length) (nI i) (nI w) p.2) (fun w p => p.1 = bws (nxC R C kd cl) (st.1.getD i 0) w st ∧ cB p.2 p.1 ∧ fr pB s p.2) (by
        rintro w ⟨st1, t1⟩ hw ⟨h1, h2, h3⟩
        dsimp only at h1 h2 h3
        obtain ⟨a1, a2, a3, a4, a5⟩ := bws_inv hI (getD_mem q) (nxC_lt hG.1) w (by omega)
        rw [← h1] at a1 a2 a3 a4 a5
        have hl1 := bInv_len a1
        have hG1 := cG_fr hG h3 (by intro k; unfold pB; omega) (by intro k; unfold pB; omega) (by intro k; unfold pB; omega)
        have hq : t1.1 31 0 i = nI (st.1.getD i 0) := by rw [h2.1 i (by omega), a5 i q]
        have hf := (hI.2.1 _ (getD_mem q)).1
        have hf' : st.1.getD i 0 < 36 := by omega
        have hsucc : ∀ z, bw (nxC R C kd cl) (st.1.getD i 0) w st1 = z → z = bws (nxC R C kd cl) (st.1.getD i 0) (w + 1) st := by
          intro z hz; rw [← hz, h1]; rfl
        show ∃ b : bS × xS, Paths_spread_L2 (d + 1) (oI cl) (nI st1.1.length) (nI i) (nI w) t1 = Paths_spread_L2 (d + 1) (oI cl) (nI b.1.1.length) (nI i) (nI (w + 1)) b.2 ∧ _
        rw [Paths_spread_L2_eq, nl_4, nl_36, if_pos (of_eq_true (lt_t hw (by omega))), in_t (show i < 36 by omega) (by omega), if_pos rfl, n_cl (by omega), hq, g_next hG1 hf hw, bI_s, nI_1]
        cases hx : nxt R C kd (st.1.getD i 0) w with
        | none =>
          rw [if_pos oI_n]
          exact ⟨(st1, t1), rfl, hsucc _ (by unfold bw nxC; rw [hx]), h2, h3⟩
        | some g =>
          have hg := (nxt_lt hG.1 hf hw hx).1
          rw [oI_s, if_neg (m1_nn (by omega))]
          by_cases hc : cl = some g
          · rw [if_pos (show nI g = oI cl by rw [hc, oI_s])]
            exact ⟨(st1, t1), rfl, hsucc _ (by unfold bw nxC; rw [hx]; dsimp only; rw [if_pos hc]), h2, h3⟩
          · have hne : ¬ nI g = oI cl := by
              cases hcl' : cl with
              | none => rw [oI_n]; exact m1_nn (by omega)
              | some c =>
                have := hcl c hcl'
                rw [oI_s]
                exact of_eq_false (eq_f (fun z => hc (by rw [hcl', z])) (by omega) (by omega))
            rw [if_neg hne, in_t (show g < 36 by omega) (by omega), if_pos rfl, n_cl (by omega), h2.2 g (by omega)]
            cases hD : st1.2 g with
            | some k =>
              have hk := bD_lt hG.1 a1 hD
              rw [oI_s, if_neg (m1_nn (by omega))]
              exact ⟨(st1, t1), rfl, hsucc _ (by unfold bw nxC; rw [hx]; dsimp only; rw [if_neg hc]; dsimp only; rw [hD]), h2, h3⟩
            | none =>
              obtain ⟨kf, hkf⟩ : ∃ k, st1.2 (st.1.getD i 0) = some k := by
                cases e : st1.2 (st.1.getD i 0) with
                | none => exact absurd e ((a1.2.2.1 _).mpr a2)
                | some k => exact ⟨k, rfl⟩
              have hkk := bD_lt hG.1 a1 hkf
              have hstep : bw (nxC R C kd cl) (st.1.getD i 0) w st1 = (st1.1 ++ [g], up st1.2 g (some (kf + 1))) := by
                unfold bw nxC; rw [hx]; dsimp only; rw [if_neg hc]; dsimp only; rw [hD, hkf]; rfl
              have hnew := (bw_inv a1 a2 hw (nxC_lt hG.1)).1
              rw [hstep] at hnew
              have hlen := bInv_len hnew
              rw [List.length_append] at hlen
              have hlen : st1.1.length + 1 ≤ R * C := hlen
              rw [if_pos oI_n, if_pos (of_eq_true (lt_t (by omega) (by omega))), if_pos rfl, hq, in_t hf' (by omega), if_pos rfl, if_pos rfl, in_t (show st1.1.length < 36 by omega) (by omega), if_pos rfl, n_cl (show st.1.getD i 0 < 2147483648 by omega), n_cl (show st1.1.length < 2147483648 by omega), h2.2 _ hf', hkf, oI_s, nI_1, nI_1]
              refine ⟨((st1.1 ++ [g], up st1.2 g (some (kf + 1))), _), by rw [List.length_append]; rfl, hsucc _ hstep, ⟨fun j hj => ?_, fun z hz => ?_⟩, fr_wI (fr_wI h3 (Or.inl rfl)) (Or.inr rfl)⟩
              · have hj : j < (st1.1 ++ [g]).length := hj
                show (wI (wI t1 30 0 g (nI (kf + 1))) 31 0 st1.1.length (nI g)).1 31 0 j = nI ((st1.1 ++ [g]).getD j 0)
                rw [List.length_append] at hj
                have hj : j < st1.1.length + 1 := hj
                by_cases ej : j = st1.1.length
                · rw [ej, wI_s1, getN_app2]
                · rw [wI_nk ej, wI_nc (by omega), getN_app1 (by omega)]; exact h2.1 j (by omega)
              · show (wI (wI t1 30 0 g (nI (kf + 1))) 31 0 st1.1.length (nI g)).1 30 0 z = oI (up st1.2 g (some (kf + 1)) z)
                rw [wI_nc (by omega)]
                by_cases ez : z = g
                · rw [ez, wI_s1, up_s, oI_s]
                · rw [wI_nk ez, up_n ez]; exact h2.2 z hz) 4 0 (st, t) (by omega) ⟨rfl, hB, hF⟩
      dsimp only at c1 c2 c3 c4
      obtain ⟨a1, a2, a3, a4, a5⟩ := bws_inv hI (getD_mem q) (nxC_lt hG.1) 4 (by omega)
      rw [← c2] at a1 ⊢
      obtain ⟨u, k1, k2, k3⟩ := ih (i + 1) st' t' (by omega) a1 c3 c4
      refine ⟨u, ?_, k2, k3⟩
      refine Eq.trans c1 ?_
      rw [Paths_spread_L2_eq, nl_4, if_neg (of_eq_false (lt_f (by omega) (by omega))), nI_1]
      exact k1
    · rw [if_neg q]
      refine ⟨t, ?_, hB, hF⟩
      rw [Paths_spread_L1_eq, if_neg (of_eq_false (lt_f (by omega) (by omega)))]
theorem c_spread (hG : cG s R C kd) (hcl : ∀ c, cl = some c → c < 36) (hs : src < R * C) (hok : sOK kd cl src) : ∃ u, ev (d + 4) f_Paths_spread [vR 8 0, vI (nI src), vI (oI cl)] s = some (some (vI (nI (spr R C kd cl src).1.length)), u) ∧ cB u (spr R C kd cl src) ∧ fr pB s u := by
  have b36 := gOk_36 hG.1
  have f1 : fr pB s (x_fillF s 30 0 36 (-1)) := fr_fill (fr_r _ _) (fun j => Or.inl rfl)
  have hG1 := cG_fr hG f1 (by intro k; unfold pB; omega) (by intro k; unfold pB; omega) (by intro k; unfold pB; omega)
  have hne : ¬ nI src = oI cl := by
    cases hcl' : cl with
    | none => rw [oI_n]; exact m1_nn (by omega)
    | some c =>
      have := hcl c hcl'
      rw [oI_s]
      exact of_eq_false (eq_f (fun z => hok.2 (by rw [hcl', z])) (by omega) (by omega))
  rw [Paths_spread_eq, fill_30, bV_s, g_isWall hG1 hs, decide_eq_false hok.1, bI_s, if_pos (by decide), if_neg hne, in_t (show src < 36 by omega) (by omega), if_pos rfl, if_pos (by decide), n_cl (by omega)]
  refine c_bfs (d := d + 2) hG hcl 37 0 (b0 src) _ rfl (b0_inv hs hok) ⟨fun i hi => ?_, fun g hg => ?_⟩ (fr_wI (fr_wI f1 (Or.inl rfl)) (Or.inr rfl))
  · have hi : i < 1 := hi
    have : i = 0 := by omega
    subst this
    exact wI_s1 _ _ _ _ _
  · rw [wI_nc (by omega)]
    show _ = oI (if g = src then some 0 else none)
    by_cases e : g = src
    · rw [e, wI_s1, if_pos rfl, oI_s]; rfl
    · rw [wI_nk e, if_neg e]
      show (if _ then _ else _) = _
      rw [if_pos ⟨rfl, rfl, by omega, hg⟩]; rfl
/-- it does nothing from a wall -/
theorem c_spread0 (hG : cG s R C kd) (hs : src < R * C) (hk : kd src = 1) : ∃ u, ev (d + 4) f_Paths_spread [vR 8 0, vI (nI src), vI (oI cl)] s = some (some (vI 0), u) ∧ (∀ g, g < 36 → u.1 30 0 g = -1) ∧ fr pB s u := by
  have f1 : fr pB s (x_fillF s 30 0 36 (-1)) := fr_fill (fr_r _ _) (fun j => Or.inl rfl)
  have hG1 := cG_fr hG f1 (by intro k; unfold pB; omega) (by intro k; unfold pB; omega) (by intro k; unfold pB; omega)
  refine ⟨_, by rw [Paths_spread_eq, fill_30, bV_s, g_isWall hG1 hs, decide_eq_true hk, bI_s, if_neg (by decide)], fun g hg => ?_, f1⟩
  show (if _ then _ else _) = _
  rw [if_pos ⟨rfl, rfl, by omega, hg⟩]
end BFS

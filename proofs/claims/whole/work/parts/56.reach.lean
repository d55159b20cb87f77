/-! reach, nearest. -/
section REACH
variable {d R C src f w n lo : Nat} {kd : Nat → Nat} {cl : Option Nat} {s : xS} {F W V : Nat → Nat} {M : Int32} {L : List Nat} {l : List Int64}
def olt (a b : Option Nat) : Bool := match a, b with
  | some x, some y => decide (x < y)
  | none, some _ => true
  | _, none => false
theorem olt_iff {a b : Option Nat} (ha : ∀ x, a = some x → x < 1000000) (hb : ∀ x, b = some x → x < 1000000) : oI a < oI b ↔ olt a b = true := by
  cases a with
  | none =>
    cases b with
    | none => rw [oI_n]; decide
    | some y => have := hb y rfl; rw [oI_n, oI_s, m1_ltn (by omega)]; exact ⟨fun _ => rfl, fun _ => trivial⟩
  | some x =>
    have hx := ha x rfl
    cases b with
    | none => rw [oI_s, oI_n, lt_m1 (by omega)]; exact ⟨False.elim, fun q => by cases q⟩
    | some y =>
      have := hb y rfl
      rw [oI_s, oI_s, n_lt (by omega) (by omega)]
      exact ⟨fun q => decide_eq_true q, fun q => of_decide_eq_true q⟩
def rbN (D : Nat → Option Nat) (src : Nat) : Nat → Nat
  | 0 => src
  | k + 1 => bif olt (D (rbN D src k)) (D k) then k else rbN D src k
theorem rbN_S (D : Nat → Option Nat) (src k : Nat) : rbN D src (k + 1) = bif olt (D (rbN D src k)) (D k) then k else rbN D src k := rfl
theorem rbN_or (D : Nat → Option Nat) (src : Nat) : ∀ k, rbN D src k = src ∨ rbN D src k < k := by
  intro k
  induction k with
  | zero => exact Or.inl rfl
  | succ k ih =>
    rw [rbN_S]
    cases olt (D (rbN D src k)) (D k) with
    | true => exact Or.inr (Nat.lt_succ_self k)
    | false => rcases ih with h | h
               · exact Or.inl h
               · exact Or.inr (Nat.lt_succ_of_lt h)
theorem rbN_some {D : Nat → Option Nat} (h : D src = some 0) : ∀ k, ∃ r, D (rbN D src k) = some r := by
  intro k
  induction k with
  | zero => exact ⟨0, h⟩
  | succ k ih =>
    rw [rbN_S]
    obtain ⟨r, hr⟩ := ih
    cases q : olt (D (rbN D src k)) (D k) with
    | true =>
      cases e : D k with
      | none => rw [e, hr] at q; cases q
      | some a => exact ⟨a, e⟩
    | false => exact ⟨r, hr⟩
theorem q_reach (x : Int32) : ∃ a r, (∀ s, CQ s R C kd n F W V lo M L l → QC s (ev (d + 9) f_Main_reach [vR 0 0, vI x] s) a r) ∧ (∀ s, RQ s R C kd n F W V lo M L l → QR s (ev (d + 9) f_Ref_reach [vR 13 0, vI x] s) a r) := by
  by_cases hgo : gOk R C kd
  case neg => exact ⟨0, [], fun s h => absurd h.1.1 hgo, fun s h => absurd h.1.1 hgo⟩
  have b36 := gOk_36 hgo
  cases hx : x_in x (R * C) with
  | false =>
    refine ⟨-1, l, fun s h => ⟨s, ?_, h.2.2.2, fr_r _ _⟩, fun s h => ⟨wI s 13 0 0 0, ?_, (RQ_0 h).2.2.2.1, fr_m fr_0 (fun _ _ _ => p0_RQ)⟩⟩
    · rw [Main_reach_eq, g_has h.1, hx, bI_s, if_pos (by decide)]
    · rw [Ref_reach_eq, m_isField (RQ_0 h).1, hx, bI_s, if_pos (by decide)]
  | true =>
    obtain ⟨a, ha, rfl⟩ := (n_in_iff (by omega)).mp hx
    have hka := gOk_kd hgo ha
    have n38 : ∀ c, (none : Option Nat) = some c → c < 36 := fun c h => by cases h
    by_cases hwa : kd a = 1
    · refine ⟨-2, l, fun s h => ⟨s, ?_, h.2.2.2, fr_r _ _⟩, fun s h => ⟨wI s 13 0 0 0, ?_, (RQ_0 h).2.2.2.1, fr_m fr_0 (fun _ _ _ => p0_RQ)⟩⟩
      · rw [Main_reach_eq, g_has h.1, hx, bI_s, if_neg (by decide), g_isWall h.1 ha, decide_eq_true hwa, bI_s, if_neg (by decide)]
      · rw [Ref_reach_eq, m_isField (RQ_0 h).1, hx, bI_s, if_neg (by decide), in_t (show a < 36 by omega) (by omega), if_pos rfl, n_cl (by omega), (RQ_0 h).1.2.2.2 a ha, if_pos (by rw [hwa]; rfl)]
    · have hok : sOK kd none a := ⟨hwa, fun q => by cases q⟩
      have hI := spr_inv (cl := none) hgo ha hok
      generalize hst : spr R C kd none a = st at hI
      have hDl : ∀ g j, st.2 g = some j → j < 1000000 := fun g j hj => by have := bD_lt hgo hI hj; omega
      have hlen := bInv_len hI
      have hrb : ∀ k, k ≤ R * C → rbN st.2 a k < R * C := fun k hk => by rcases rbN_or st.2 a k with h | h <;> omega
      obtain ⟨rr, hrr⟩ := rbN_some hI.2.2.2.2.1 (R * C)
      have hrl := bD_lt hgo hI hrr
      have hrbl := hrb (R * C) (Nat.le_refl _)
      refine ⟨nI st.1.length, [lN rr, lN (rbN st.2 a (R * C))], fun s h => ?_, fun s h => ?_⟩
      · obtain ⟨hG, hO, hR, hrow⟩ := h
        obtain ⟨u, e1, e2, e3⟩ := c_spread (d := d + 4) (cl := none) hG n38 ha hok
        rw [hst] at e1 e2
        have hG1 := cG_fr hG e3 (by intro k; unfold pB; omega) (by intro k; unfold pB; omega) (by intro k; unfold pB; omega)
        have e1' : ev (d + 8) f_Paths_spread [vR 8 0, vI (nI a), vI (-1)] s = some (some (vI (nI st.1.length)), u) := e1
        have lp := chain (R * C) (fun k => Main_reach_L1 (d + 8) (nI st.1.length) (nI (rbN st.2 a k)) (nI k) u) (by
          intro k hk
          show Main_reach_L1 _ _ _ _ _ = Main_reach_L1 _ _ _ _ _
          rw [Main_reach_L1_eq, hG1.2.2.2.1, if_pos (of_eq_true (lt_t hk (by omega))), c_dist hG1 e2 hk, bI_s, c_dist hG1 e2 (hrb k (by omega)), bI_s, nI_1, rbN_S]
          have hoi := olt_iff (a := st.2 (rbN st.2 a k)) (b := st.2 k) (hDl _) (hDl _)
          cases q : olt (st.2 (rbN st.2 a k)) (st.2 k) with
          | true => rw [if_pos (hoi.mpr q), cond_true]
          | false => rw [if_neg (fun z => by rw [hoi.mp z] at q; cases q), cond_false])
        obtain ⟨v, g1, g2, g3⟩ := n_tellTwo (d := d + 5) (s := u) (x := lN rr) (y := lN (rbN st.2 a (R * C)))
        refine ⟨v, ?_, g2, fr_t (fr_m e3 (fun _ _ _ => pB_CQ)) (fr_m g3 (fun _ _ _ => pN_CQ))⟩
        rw [Main_reach_eq, g_has hG, hx, bI_s, if_neg (by decide), g_isWall hG ha, decide_eq_false hwa, bI_s, if_pos (by decide), e1', bI_s]
        refine lp.trans ?_
        rw [Main_reach_L1_eq, hG1.2.2.2.1, if_neg (of_eq_false (lt_f (Nat.le_refl _) (by omega))), c_dist hG1 e2 hrbl, bI_s, hrr, oI_s, nI_l (by omega), nI_l (by omega), g1, bV_s]
      · obtain ⟨hG, hO, hR, hrow, h38⟩ := RQ_0 h
        obtain ⟨u, e1, e2, e3⟩ := m_lays (d := d + 3) (cl := none) hG (by rw [h38]; rfl) n38 ha hok
        rw [hst] at e1 e2
        have hGu := rG_fr hG e3 (by unfold pD; omega) (by unfold pD; omega) (by intro k; unfold pD; omega)
        have lp := chain (R * C) (fun k => Ref_reach_L1 (d + 8) (nI st.1.length) (nI (rbN st.2 a k)) (nI k) u) (by
          intro k hk
          have hrk := hrb k (by omega)
          obtain ⟨r, hr⟩ := rbN_some hI.2.2.2.2.1 k
          have hr36 := bD_lt hgo hI hr
          have j0 : ∀ x y : Int32, Ref_reach_J2 (d + 8) (nI st.1.length) x y 0 u = Ref_reach_L1 (d + 8) (nI st.1.length) x (y + 1) u := by intro x y; rw [Ref_reach_J2_eq, if_pos rfl]
          have j1 : ∀ x y : Int32, Ref_reach_J2 (d + 8) (nI st.1.length) x y 1 u = Ref_reach_L1 (d + 8) (nI st.1.length) y (y + 1) u := by intro x y; rw [Ref_reach_J2_eq, if_neg (by decide)]
          show Ref_reach_L1 _ _ _ _ _ = Ref_reach_L1 _ _ _ _ _
          rw [Ref_reach_L1_eq, m_fields hGu, bI_s, if_pos (of_eq_true (lt_t hk (by omega))), in_t (show k < 36 by omega) (by omega), if_pos rfl, if_pos rfl, if_pos rfl, in_t (show rbN st.2 a k < 36 by omega) (by omega), if_pos rfl, if_pos rfl, n_cl (show k < 2147483648 by omega), n_cl (show rbN st.2 a k < 2147483648 by omega), e2.2 k (by omega), e2.2 _ (by omega), hr, j0, j1, nI_1, rbN_S, hr]
          cases hk2 : st.2 k with
          | none =>
            rw [if_neg (show ¬ nvI none < 1000000 by decide)]; rfl
          | some b =>
            have hb36 := bD_lt hgo hI hk2
            rw [if_pos (show nvI (some b) < 1000000 from of_eq_true (lt_t (a := b) (b := 1000000) (by omega) (by omega)))]
            show (if nI r < nI b then _ else _) = Ref_reach_L1 _ _ (nI (bif decide (r < b) then k else rbN st.2 a k)) _ _
            by_cases q : r < b
            · rw [if_pos (of_eq_true (lt_t q (by omega))), decide_eq_true q]; rfl
            · rw [if_neg (of_eq_false (lt_f (by omega) (by omega))), decide_eq_false q]
              show (if nI b = nI r then _ else _) = _
              by_cases q2 : b = r
              · rw [if_pos (of_eq_true (eq_t q2))]
                have : ¬ k < rbN st.2 a k := by
                  rcases rbN_or st.2 a k with z | z
                  · intro hlt
                    rw [z, hI.2.2.2.2.1] at hr
                    cases hr
                    rw [q2] at hk2
                    have := hI.2.2.2.2.2.1 k hk2
                    omega
                  · omega
                rw [if_neg (of_eq_false (lt_f (by omega) (by omega)))]; rfl
              · rw [if_neg (of_eq_false (eq_f q2 (by omega) (by omega)))]; rfl)
        obtain ⟨v1, v2, g1, g2, g3, g4, g5⟩ := m_ent2 (d + 7) u (lN rr) (lN (rbN st.2 a (R * C)))
        refine ⟨v2, ?_, g4, fr_t (fr_m fr_0 (fun _ _ _ => p0_RQ)) (fr_t (fr_m e3 (fun _ _ _ => pD_RQ)) (fr_m g5 (fun _ _ _ => pT_RQ)))⟩
        rw [Ref_reach_eq, m_isField hG, hx, bI_s, if_neg (by decide), in_t (show a < 36 by omega) (by omega), if_pos rfl, n_cl (by omega), hG.2.2.2 a ha, if_neg (show ¬ nI (kd a) = 1 from of_eq_false (eq_f (b := 1) hwa (by omega) (by omega))), e1, bI_s]
        refine lp.trans ?_
        rw [Ref_reach_L1_eq, m_fields hGu, bI_s, if_neg (of_eq_false (lt_f (Nat.le_refl _) (by omega))), in_t (show rbN st.2 a (R * C) < 36 by omega) (by omega), if_pos rfl, n_cl (by omega), e2.2 _ (by omega), hrr, show nvI (some rr) = nI rr from rfl, nI_l (by omega), nI_l (by omega), g1, bV_s, g3, bV_s]
/-- the nearest pair so far -/
abbrev nS : Type := Option (Nat × Nat × Nat)
def nrS (D : Nat → Nat → Option Nat) (a b : Nat) (o : nS) : nS := match D a b with
  | none => o
  | some k => match o with
    | none => some (k, a, b)
    | some t => if k < t.1 then some (k, a, b) else some t
def nrB (D : Nat → Nat → Option Nat) (a : Nat) : Nat → Nat → nS → nS
  | 0, _, o => o
  | m + 1, b, o => nrB D a m (b + 1) (nrS D a b o)
def nrA (D : Nat → Nat → Option Nat) (n : Nat) : Nat → Nat → nS → nS
  | 0, _, o => o
  | m + 1, a, o => nrA D n m (a + 1) (nrB D a (n - (a + 1)) (a + 1) o)
def nOk (n : Nat) (o : nS) : Prop := ∀ t, o = some t → t.1 < 1000000 ∧ t.2.1 < n ∧ t.2.2 < n
theorem nrS_ok {D : Nat → Nat → Option Nat} {a b : Nat} {o : nS} (h : nOk n o) (ha : a < n) (hb : b < n) (hD : ∀ k, D a b = some k → k < 1000000) : nOk n (nrS D a b o) := by
  unfold nrS
  cases e : D a b with
  | none => exact h
  | some k =>
    have := hD k e
    cases o with
    | none => intro t ht; cases ht; exact ⟨this, ha, hb⟩
    | some t =>
      dsimp only
      by_cases q : k < t.1
      · rw [if_pos q]; intro t' ht; cases ht; exact ⟨this, ha, hb⟩
      · rw [if_neg q]; exact h
def c1 (o : nS) : Int32 := match o with
  | none => -1
  | some t => nI t.1
def c2 (o : nS) : Int32 := match o with
  | none => -1
  | some t => nI t.2.1
def c3 (o : nS) : Int32 := match o with
  | none => -1
  | some t => nI t.2.2
def m1 (o : nS) : Int32 := match o with
  | none => nI 1000000
  | some t => nI t.1
def nRow (l : List Int64) (o : nS) : List Int64 := match o with
  | none => l
  | some t => [lN t.2.1, lN t.2.2]
def nD (R C : Nat) (kd : Nat → Nat) (F : Nat → Nat) (a b : Nat) : Option Nat := (spr R C kd none (F a)).2 (F b)
theorem q_nearest (ho : oOk R C kd n F W V lo) : ∃ a r, (∀ s, CQ s R C kd n F W V lo M L l → QC s (ev (d + 9) f_Main_nearest [vR 0 0] s) a r) ∧ (∀ s, RQ s R C kd n F W V lo M L l → QR s (ev (d + 9) f_Ref_nearest [vR 13 0] s) a r) := by
  by_cases hgo : gOk R C kd
  case neg => exact ⟨0, [], fun s h => absurd h.1.1 hgo, fun s h => absurd h.1.1 hgo⟩
  have b36 := gOk_36 hgo
  have hn := ho.1
  have n38 : ∀ c, (none : Option Nat) = some c → c < 36 := fun c h => by cases h
  have hokF : ∀ a, a < n → sOK kd none (F a) := fun a ha => ⟨(ho.2.2.1 a ha).2.1, fun q => by cases q⟩
  have hDl : ∀ a b k, a < n → nD R C kd F a b = some k → k < 36 := fun a b k ha hk => bD_lt hgo (spr_inv (cl := none) hgo (ho.2.2.1 a ha).1 (hokF a ha)) hk
  -- the whole
  have hall : ∀ m a o, nOk n o → a + m = n → nOk n (nrA (nD R C kd F) n m a o) := by
    intro m
    induction m with
    | zero => intro a o h _; exact h
    | succ m ih =>
      intro a o h e
      unfold nrA
      refine ih (a + 1) _ ?_ (by omega)
      have hb : ∀ j b o, nOk n o → b + j = n → nOk n (nrB (nD R C kd F) a j b o) := by
        intro j
        induction j with
        | zero => intro b o h _; exact h
        | succ j ihj =>
          intro b o h e2
          unfold nrB
          exact ihj (b + 1) _ (nrS_ok h (by omega) (by omega) (fun k hk => by have := hDl a b k (by omega) hk; omega)) (by omega)
      exact hb _ _ _ h (by omega)
  have h0 : nOk n none := fun t ht => by cases ht
  refine ⟨(match nrA (nD R C kd F) n n 0 none with
    | none => -2
    | some t => nI t.1), nRow l (nrA (nD R C kd F) n n 0 none), fun s h => ?_, fun s h => ?_⟩
  · obtain ⟨hG, hO, hR, hrow⟩ := h
    have key : ∀ m a o t, nOk n o → a + m = n → fr pB s t → ∃ u, Main_nearest_L1 (d + 8) (c1 o) (c2 o) (c3 o) (nI a) t = Main_nearest_L1 (d + 8) (c1 (nrA (nD R C kd F) n m a o)) (c2 (nrA (nD R C kd F) n m a o)) (c3 (nrA (nD R C kd F) n m a o)) (nI n) u ∧ fr pB s u := by
      intro m
      induction m with
      | zero => intro a o t _ e hf; rw [show a = n by omega]; exact ⟨t, rfl, hf⟩
      | succ m ih =>
        intro a o t hok e hf
        have hGt := cG_fr hG hf (by intro k; unfold pB; omega) (by intro k; unfold pB; omega) (by intro k; unfold pB; omega)
        have hOt := cO_fr hO hf (by intro k; unfold pB; omega) (by intro k; unfold pB; omega) (by intro k; unfold pB; omega) (by intro k; unfold pB; omega)
        obtain ⟨u, e1, e2, e3⟩ := c_spread (d := d + 4) (cl := none) hGt n38 (ho.2.2.1 a (by omega)).1 (hokF a (by omega))
        have e1' : ev (d + 8) f_Paths_spread [vR 8 0, vI (nI (F a)), vI (-1)] t = some (some (vI (nI (spr R C kd none (F a)).1.length)), u) := e1
        have hfu := fr_t hf e3
        have hGu := cG_fr hG hfu (by intro k; unfold pB; omega) (by intro k; unfold pB; omega) (by intro k; unfold pB; omega)
        have hOu := cO_fr hO hfu (by intro k; unfold pB; omega) (by intro k; unfold pB; omega) (by intro k; unfold pB; omega) (by intro k; unfold pB; omega)
        rw [Main_nearest_L1_eq, hOt.1, if_pos (of_eq_true (lt_t (by omega) (by omega))), o_fieldOf hOt hn (by omega), bI_s, e1', bI_s, nI_1]
        have inner : ∀ j b o, nOk n o → b + j = n → Main_nearest_L2 (d + 8) (c1 o) (c2 o) (c3 o) (nI a) (nI b) u = Main_nearest_L2 (d + 8) (c1 (nrB (nD R C kd F) a j b o)) (c2 (nrB (nD R C kd F) a j b o)) (c3 (nrB (nD R C kd F) a j b o)) (nI a) (nI n) u ∧ nOk n (nrB (nD R C kd F) a j b o) := by
          intro j
          induction j with
          | zero => intro b o h e2; rw [show b = n by omega]; exact ⟨rfl, h⟩
          | succ j ihj =>
            intro b o hok2 e4
            have hstep := nrS_ok (D := nD R C kd F) hok2 (show a < n by omega) (show b < n by omega) (fun k hk => by have := hDl a b k (by omega) hk; omega)
            unfold nrB
            obtain ⟨q1, q2⟩ := ihj (b + 1) _ hstep (by omega)
            refine ⟨?_, q2⟩
            rw [← q1, Main_nearest_L2_eq, hOu.1, if_pos (of_eq_true (lt_t (by omega) (by omega))), o_fieldOf hOu hn (by omega), bI_s, c_dist hGu e2 (ho.2.2.1 b (by omega)).1, bI_s, nI_1]
            have hnd : (spr R C kd none (F a)).2 (F b) = nD R C kd F a b := rfl
            rw [hnd]
            unfold nrS
            cases hD : nD R C kd F a b with
            | none => rw [if_pos oI_n]
            | some k =>
              have hk := hDl a b k (by omega) hD
              rw [oI_s, if_neg (m1_nn (by omega))]
              cases o with
              | none =>
                rw [if_pos (show c1 none = -1 from rfl), Main_nearest_J3_eq, nI_1]; rfl
              | some t0 =>
                obtain ⟨g1, g2, g3⟩ := hok2 t0 rfl
                rw [if_neg (show ¬ c1 (some t0) = -1 from m1_nn (a := t0.1) (by omega)), Main_nearest_J3_eq, nI_1]
                dsimp only
                by_cases hlt : k < t0.1
                · rw [if_pos (show nI k < c1 (some t0) from of_eq_true (lt_t hlt (by omega))), if_pos hlt]; rfl
                · rw [if_neg (show ¬ nI k < c1 (some t0) from of_eq_false (lt_f (by omega) (by omega))), if_neg hlt]
        obtain ⟨q1, q2⟩ := inner (n - (a + 1)) (a + 1) o hok (by omega)
        rw [q1, Main_nearest_L2_eq, hOu.1, if_neg (of_eq_false (lt_f (Nat.le_refl _) (by omega))), nI_1]
        show ∃ u', _ = Main_nearest_L1 (d + 8) (c1 (nrA (nD R C kd F) n m (a + 1) (nrB (nD R C kd F) a (n - (a + 1)) (a + 1) o))) _ _ _ u' ∧ _
        exact ih (a + 1) _ u q2 (by omega) hfu
    obtain ⟨u, e1, e2⟩ := key n 0 none s h0 (by omega) (fr_r _ _)
    have hOu := cO_fr hO e2 (by intro k; unfold pB; omega) (by intro k; unfold pB; omega) (by intro k; unfold pB; omega) (by intro k; unfold pB; omega)
    have hfin := hall n 0 none h0 (by omega)
    have e1' : ev (d + 9) f_Main_nearest [vR 0 0] s = Main_nearest_L1 (d + 8) (c1 (nrA (nD R C kd F) n n 0 none)) (c2 (nrA (nD R C kd F) n n 0 none)) (c3 (nrA (nD R C kd F) n n 0 none)) (nI n) u := by
      rw [Main_nearest_eq]; exact e1
    rw [e1', Main_nearest_L1_eq, hOu.1, if_neg (of_eq_false (lt_f (Nat.le_refl _) (by omega)))]
    cases hz : nrA (nD R C kd F) n n 0 none with
    | none =>
      rw [if_pos (show c1 none = -1 from rfl)]
      exact ⟨u, rfl, cRow_fr hrow e2 (by unfold pB; omega) (by intro k; unfold pB; omega), fr_m e2 (fun _ _ _ => pB_CQ)⟩
    | some t0 =>
      rw [hz] at hfin
      obtain ⟨g1, g2, g3⟩ := hfin t0 rfl
      obtain ⟨v, k1, k2, k3⟩ := n_tellTwo (d := d + 5) (s := u) (x := lN t0.2.1) (y := lN t0.2.2)
      rw [if_neg (show ¬ c1 (some t0) = -1 from m1_nn (a := t0.1) (by omega))]
      show QC s (bV (ev (d + 8) f_Numbers_tellTwo [vR 10 0, vL (nI t0.2.1).toInt64, vL (nI t0.2.2).toInt64] u) fun s5 => some (some (vI (nI t0.1)), s5)) _ _
      rw [nI_l (by omega), nI_l (by omega), k1, bV_s]
      exact ⟨v, rfl, k2, fr_t (fr_m e2 (fun _ _ _ => pB_CQ)) (fr_m k3 (fun _ _ _ => pN_CQ))⟩
  · obtain ⟨hG, hO, hR, hrow, h38⟩ := RQ_0 h
    have pX : ∀ c i k, (pD c i k ∨ pT c i k) → pRQ c i k := fun c i k h => h.elim pD_RQ pT_RQ
    have key : ∀ m a o t, nOk n o → a + m = n → fr (fun c i k => pD c i k ∨ pT c i k) (wI s 13 0 0 0) t → rRow t (nRow l o) → ∃ u, Ref_nearest_L1 (d + 8) (m1 o) (nI a) t = Ref_nearest_L1 (d + 8) (m1 (nrA (nD R C kd F) n m a o)) (nI n) u ∧ fr (fun c i k => pD c i k ∨ pT c i k) (wI s 13 0 0 0) u ∧ rRow u (nRow l (nrA (nD R C kd F) n m a o)) := by
      intro m
      induction m with
      | zero => intro a o t _ e hf hr; rw [show a = n by omega]; exact ⟨t, rfl, hf, hr⟩
      | succ m ih =>
        intro a o t hok e hf hr
        have hGt := rG_fr hG hf (by unfold pD pT; omega) (by unfold pD pT; omega) (by intro k; unfold pD pT; omega)
        have hOt := rO_fr hO hf (by unfold pD pT; omega) (by intro k; unfold pD pT; omega)
        have h38t : t.1 13 0 38 = oI none := by rw [(hf 13 0 38 (by unfold pD pT; omega)).1, h38]; rfl
        obtain ⟨u, e1, e2, e3⟩ := m_lays (d := d + 3) (cl := none) hGt h38t n38 (ho.2.2.1 a (by omega)).1 (hokF a (by omega))
        have hfu := fr_t hf (fr_m e3 (fun _ _ _ h => Or.inl h))
        have hru := rRow_fr hr e3 (by unfold pD; omega) (by intro k; unfold pD; omega)
        rw [Ref_nearest_L1_eq, hOt.1, if_pos (of_eq_true (lt_t (by omega) (by omega))), in_t (show a < 17 by omega) (by omega), if_pos rfl, n_cl (by omega), (hOt.2.1 a (by omega)).1, e1, bI_s, nI_1]
        have inner : ∀ j b o v, nOk n o → b + j = n → fr pT u v → rRow v (nRow l o) → ∃ v', Ref_nearest_L2 (d + 8) (m1 o) (nI a) (nI b) v = Ref_nearest_L2 (d + 8) (m1 (nrB (nD R C kd F) a j b o)) (nI a) (nI n) v' ∧ nOk n (nrB (nD R C kd F) a j b o) ∧ fr pT u v' ∧ rRow v' (nRow l (nrB (nD R C kd F) a j b o)) := by
          intro j
          induction j with
          | zero => intro b o v h e2 h2 h3; rw [show b = n by omega]; exact ⟨v, rfl, h, h2, h3⟩
          | succ j ihj =>
            intro b o v hok2 e4 hfv hrv
            have hstep := nrS_ok (D := nD R C kd F) hok2 (show a < n by omega) (show b < n by omega) (fun k hk => by have := hDl a b k (by omega) hk; omega)
            have hFb := (ho.2.2.1 b (by omega)).1
            have hfv2 := fr_t hfu (fr_m hfv (fun _ _ _ h => Or.inr h))
            have hOv := rO_fr hO hfv2 (by unfold pD pT; omega) (by intro k; unfold pD pT; omega)
            unfold nrB
            rw [Ref_nearest_L2_eq, hOv.1, if_pos (of_eq_true (lt_t (by omega) (by omega))), in_t (show b < 17 by omega) (by omega), if_pos rfl, if_pos rfl, n_cl (show b < 2147483648 by omega), (hOv.2.1 b (by omega)).1, in_t (show F b < 36 by omega) (by omega), if_pos rfl, if_pos rfl, n_cl (show F b < 2147483648 by omega), (hfv 56 0 (F b) (by unfold pT; omega)).1, e2.2 (F b) (by omega), nI_1]
            have hnd : (spr R C kd none (F a)).2 (F b) = nD R C kd F a b := rfl
            rw [hnd]
            have upd : ∀ k, nD R C kd F a b = some k → nrS (nD R C kd F) a b o = some (k, a, b) → ∃ v', (bV (ev (d + 8) f_Ref_enters [vR 13 0, vL (nI a).toInt64] (wI v 13 0 1 0)) fun s3 => bV (ev (d + 8) f_Ref_enters [vR 13 0, vL (nI b).toInt64] s3) fun s4 => Ref_nearest_L2 (d + 8) (nvI (some k)) (nI a) (nI (b + 1)) s4) = Ref_nearest_L2 (d + 8) (m1 (nrB (nD R C kd F) a j (b + 1) (nrS (nD R C kd F) a b o))) (nI a) (nI n) v' ∧ nOk n (nrB (nD R C kd F) a j (b + 1) (nrS (nD R C kd F) a b o)) ∧ fr pT u v' ∧ rRow v' (nRow l (nrB (nD R C kd F) a j (b + 1) (nrS (nD R C kd F) a b o))) := by
              intro k hk hs
              obtain ⟨v1, v2, g1, g2, g3, g4, g5⟩ := m_ent2 (d + 7) v (lN a) (lN b)
              rw [nI_l (by omega), nI_l (by omega), g1, bV_s, g3, bV_s]
              rw [hs] at hstep ⊢
              exact ihj (b + 1) (some (k, a, b)) v2 hstep (by omega) (fr_t hfv g5) g4
            cases hD : nD R C kd F a b with
            | none =>
              have hs : nrS (nD R C kd F) a b o = o := by unfold nrS; rw [hD]
              rw [hs]
              have : ¬ nvI none < m1 o := by
                cases o with
                | none => decide
                | some t0 => have := hok2 t0 rfl; exact of_eq_false (lt_f (a := 1000000) (b := t0.1) (by omega) (by omega))
              rw [if_neg this]
              exact ihj (b + 1) o v hok2 (by omega) hfv hrv
            | some k =>
              have hk := hDl a b k (by omega) hD
              cases o with
              | none =>
                rw [if_pos (show nvI (some k) < m1 none from of_eq_true (lt_t (a := k) (b := 1000000) (by omega) (by omega)))]
                exact upd k hD (by unfold nrS; rw [hD])
              | some t0 =>
                obtain ⟨g1, g2, g3⟩ := hok2 t0 rfl
                by_cases hlt : k < t0.1
                · rw [if_pos (show nvI (some k) < m1 (some t0) from of_eq_true (lt_t hlt (by omega)))]
                  exact upd k hD (by unfold nrS; rw [hD]; dsimp only; rw [if_pos hlt])
                · have hs : nrS (nD R C kd F) a b (some t0) = some t0 := by unfold nrS; rw [hD]; dsimp only; rw [if_neg hlt]
                  rw [hs, if_neg (show ¬ nvI (some k) < m1 (some t0) from of_eq_false (lt_f (by omega) (by omega)))]
                  exact ihj (b + 1) _ v hok2 (by omega) hfv hrv
        obtain ⟨v', q1, q2, q3, q4⟩ := inner (n - (a + 1)) (a + 1) o u hok (by omega) (fr_r _ _) hru
        have hfv2 := fr_t hfu (fr_m q3 (fun _ _ _ h => Or.inr h))
        have hOv := rO_fr hO hfv2 (by unfold pD pT; omega) (by intro k; unfold pD pT; omega)
        rw [q1, Ref_nearest_L2_eq, hOv.1, if_neg (of_eq_false (lt_f (Nat.le_refl _) (by omega))), nI_1]
        exact ih (a + 1) _ v' q2 (by omega) hfv2 q4
    obtain ⟨u, e1, e2, e3⟩ := key n 0 none (wI s 13 0 0 0) h0 (by omega) (fr_r _ _) hrow
    have hOu := rO_fr hO e2 (by unfold pD pT; omega) (by intro k; unfold pD pT; omega)
    have hfin := hall n 0 none h0 (by omega)
    have e1' : ev (d + 9) f_Ref_nearest [vR 13 0] s = Ref_nearest_L1 (d + 8) (m1 (nrA (nD R C kd F) n n 0 none)) (nI n) u := by
      rw [Ref_nearest_eq]; exact e1
    rw [e1', Ref_nearest_L1_eq, hOu.1, if_neg (of_eq_false (lt_f (Nat.le_refl _) (by omega)))]
    have f9 : fr pRQ s u := fr_t (fr_m fr_0 (fun _ _ _ => p0_RQ)) (fr_m e2 pX)
    cases hz : nrA (nD R C kd F) n n 0 none with
    | none =>
      rw [hz] at e3
      rw [if_pos (show m1 none = 1000000 from rfl)]
      exact ⟨u, rfl, e3, f9⟩
    | some t0 =>
      rw [hz] at hfin e3
      obtain ⟨g1, g2, g3⟩ := hfin t0 rfl
      rw [if_neg (show ¬ m1 (some t0) = 1000000 from of_eq_false (eq_f (a := t0.1) (b := 1000000) (by omega) (by omega) (by omega)))]
      exact ⟨u, rfl, e3, f9⟩
end REACH

/-! prams: the law's lines; both alike. -/
section PRAMM
variable {d k : Nat} {R C n T u q nh : Nat} {kd : Nat → Nat} {S : Sn} {L : List Nat} {l : List Int64} {sg : Nat → Nat} {U : Nat → Sn} {K : Nat → Option Sn} {sq : Nat → Nat × Nat × Nat} {hq : Nat → Nat × Nat} {s t : xS} {p E N : Nat}
def lnG (R C : Nat) (kd sg : Nat → Nat) (E m : Nat) : Prop := ∀ k, k < m → ∃ f w, lnX R C kd sg E (4 * k) = (4 * k + 3, some (f, w))
def lnV (R C : Nat) (kd sg : Nat → Nat) (E k : Nat) : Nat × Nat := (lnX R C kd sg E (4 * k)).2.getD (0, 0)
theorem lnV_s {f w q : Nat} (h : lnX R C kd sg E (4 * k) = (q, some (f, w))) : lnV R C kd sg E k = (f, w) := by unfold lnV; rw [h]; rfl
def ln46 (R C : Nat) (kd sg : Nat → Nat) (E m : Nat) (s : xS) : Prop := ∀ k, k < m → s.1 46 0 (2 * k) = nI (lnV R C kd sg E k).1 ∧ s.1 46 0 (2 * k + 1) = nI (lnV R C kd sg E k).2
def pLn (c _i k : Nat) : Prop := c = 46 ∨ (c = 13 ∧ (k = 12 ∨ k = 17))
theorem plX_s {m : Nat} : ∀ (j i : Nat), 1 ≤ R → 1 ≤ C → n + i + j = 4 → lnG R C kd sg E i → (plX R C kd sg T E j i).2 = some m → 1 ≤ m ∧ n + m ≤ 4 ∧ lnG R C kd sg E m := by
  intro j
  induction j with
  | zero => intro i _ _ _ _ h; cases h
  | succ j ih =>
    intro i hR hC hj hg h
    have h : (match lnX R C kd sg E (4 * i) with | (p, none) => (p, none) | (p, some _) => if p = T then (p, some (i + 1)) else if p < E ∧ sg p = 59 then plX R C kd sg T E j (i + 1) else (p, none)).2 = some m := h
    cases hl : lnX R C kd sg E (4 * i) with
    | mk p o =>
      rw [hl] at h
      cases o with
      | none => cases h
      | some v =>
        have h : (if p = T then (p, some (i + 1)) else if p < E ∧ sg p = 59 then plX R C kd sg T E j (i + 1) else (p, none)).2 = some m := h
        have hp := (lnX_in (f := v.1) (w := v.2) hR hC hl).1
        have hg' : lnG R C kd sg E (i + 1) := fun k hk => by
          by_cases z : k = i
          · exact ⟨v.1, v.2, by rw [z, hl, hp]⟩
          · exact hg k (by omega)
        by_cases e : p = T
        · rw [if_pos e] at h
          have := Option.some.inj h
          rw [← this]
          exact ⟨by omega, by omega, hg'⟩
        · rw [if_neg e] at h
          by_cases f : p < E ∧ sg p = 59
          · rw [if_pos f] at h
            exact ih (i + 1) hR hC (by omega) hg' h
          · rw [if_neg f] at h; cases h
theorem m_lines (hE : E = min T 15) (hT : T ≤ 80) : ∀ (j i : Nat) (s : xS), n + i + j = 4 → rG s R C kd → s.1 13 0 6 = nI n → s.1 13 0 17 = nI i → rX s sg E (4 * i) → ln46 R C kd sg E i s → ∃ t, rX t sg E (plX R C kd sg T E j i).1 ∧ fr pLn s t ∧ (match (plX R C kd sg T E j i).2 with
    | none => Ref_prams_L1 (d + 6) (nI T) 1 1 s = some (some (vI ((-1) - nI (plX R C kd sg T E j i).1)), t)
    | some m => Ref_prams_L1 (d + 6) (nI T) 1 1 s = Ref_prams_L2 (d + 6) 0 t ∧ t.1 13 0 17 = nI m ∧ ln46 R C kd sg E m t) := by
  have ft : ∀ {s t : xS}, fr (fun c _ k => c = 13 ∧ k = 12) s t → fr pLn s t := fun f => fr_m f (by unfold pLn; omega)
  have h15 : ∀ {p : Nat} {b : Bool} {s : xS}, rX s sg E p → ev (d + 6) f_Ref_faultOf [vR 13 0, vI (nI T), vI 15, vI (ib b)] s = some (some (vI (if b = true ∧ p = T then 0 else (-1) - nI p)), s) := fun h => m_fault (N := 15) h hE (by omega) hT
  have hneg : ∀ {p : Nat}, p ≤ 80 → ((-1 : Int32) - nI p < 0) := fun {p} hp => by
    have : ((List.range 81).all fun p => decide ((-1 : Int32) - nI p < 0)) = true := by decide
    exact of_decide_eq_true (all_r this (by omega))
  intro j
  induction j with
  | zero =>
    intro i s hj hG hn hm h h46
    refine ⟨s, h, fr_r _ _, ?_⟩
    show Ref_prams_L1 (d + 6) (nI T) 1 1 s = some (some (vI ((-1) - nI (4 * i))), s)
    have hf := h15 (b := false) h
    rw [if_neg (fun y => by cases y.1)] at hf
    have hf' : ev (d + 6) f_Ref_faultOf [vR 13 0, vI (nI T), vI 15, vI (x_nb 0)] s = some (some (vI ((-1) - nI (4 * i))), s) := hf
    have h4 : nI (n + i) = 4 := by rw [show n + i = 4 by omega]; rfl
    rw [Ref_prams_L1_eq, if_neg (by decide), Ref_readsPram_eq, hn, hm, nI_add, if_pos h4, bI_s, if_pos (by decide), Ref_prams_L1_eq, if_pos rfl, hf', bI_s, if_pos (hneg (by omega))]
  | succ j ih =>
    intro i s hj hG hn hm h h46
    obtain ⟨a, l1, l2, l3, l4⟩ := m_line (d := d) hG h hn hm (by omega)
    have l4' : fr pLn s a := fr_m l4 (by unfold pLn; omega)
    have hET : E ≤ 80 := by omega
    cases hl : lnX R C kd sg E (4 * i) with
    | mk p o =>
      rw [hl] at l1 l2 l3
      replace l2 : rX a sg E p := l2
      have hpE := l2.2.2.2.2.1
      cases o with
      | none =>
        have hp : plX R C kd sg T E (j + 1) i = (p, none) := by show (match lnX R C kd sg E (4 * i) with | (p, none) => (p, none) | (p, some _) => if p = T then (p, some (i + 1)) else if p < E ∧ sg p = 59 then plX R C kd sg T E j (i + 1) else (p, none)) = _; rw [hl]
        rw [hp]
        refine ⟨a, l2, l4', ?_⟩
        show Ref_prams_L1 (d + 6) (nI T) 1 1 s = some (some (vI ((-1) - nI p)), a)
        have hf := h15 (b := false) l2
        rw [if_neg (fun y => by cases y.1)] at hf
        rw [Ref_prams_L1_eq, if_neg (by decide), l1, bI_s, if_pos (by rfl), Ref_prams_L1_eq, if_pos rfl]
        have hf' : ev (d + 6) f_Ref_faultOf [vR 13 0, vI (nI T), vI 15, vI (ib ((none : Option (Nat × Nat)).isSome))] a = some (some (vI ((-1) - nI p)), a) := hf
        rw [hf', bI_s, if_pos (hneg (by omega))]
      | some v =>
        have hp : plX R C kd sg T E (j + 1) i = if p = T then (p, some (i + 1)) else if p < E ∧ sg p = 59 then plX R C kd sg T E j (i + 1) else (p, none) := by show (match lnX R C kd sg E (4 * i) with | (p, none) => (p, none) | (p, some _) => if p = T then (p, some (i + 1)) else if p < E ∧ sg p = 59 then plX R C kd sg T E j (i + 1) else (p, none)) = _; rw [hl]
        have hp3 : p = 4 * i + 3 := (lnX_in (f := v.1) (w := v.2) (by have := hG.1.1; omega) (by have := hG.1.2.2.1; omega) hl).1
        obtain ⟨g1, g2, g3⟩ := l3 v.1 v.2 rfl
        have hv : lnV R C kd sg E i = v := lnV_s hl
        have h46a : ln46 R C kd sg E (i + 1) a := fun k hk => by
          by_cases z : k = i
          · rw [z, hv]; exact ⟨g1, g2⟩
          · rw [(l4 46 0 (2 * k) (by omega)).1, (l4 46 0 (2 * k + 1) (by omega)).1]
            exact h46 k (by omega)
        obtain ⟨b, k1, k2, k3⟩ := m_takes (d := d + 4) (x := 59) (by omega) l2
        have fb := fr_t l4' (ft k3)
        have h46b : ln46 R C kd sg E (i + 1) b := fun k hk => by
          rw [(k3 46 0 (2 * k) (by omega)).1, (k3 46 0 (2 * k + 1) (by omega)).1]
          exact h46a k hk
        have g3b : b.1 13 0 17 = nI (i + 1) := by rw [(k3 13 0 17 (by omega)).1]; exact g3
        have k1' : ev (d + 6) f_Ref_takes [vR 13 0, vI 59] a = some (some (vI (ib (decide (p < E ∧ sg p = 59)))), b) := k1
        rw [hp]
        by_cases f : p < E ∧ sg p = 59
        · rw [if_pos f] at k2
          rw [decide_eq_true f] at k1'
          have he : ¬ p = T := by omega
          obtain ⟨t, t1, t2, t3⟩ := ih (i + 1) b (by omega) (rG_fr hG fb (by simp [pLn]) (by simp [pLn]) (by simp [pLn])) (by rw [(fb 13 0 6 (by simp [pLn])).1]; exact hn) g3b (by rw [show 4 * (i + 1) = p + 1 by omega]; exact k2) h46b
          have hs : Ref_prams_L1 (d + 6) (nI T) 1 1 s = Ref_prams_L1 (d + 6) (nI T) 1 1 b := by
            rw [Ref_prams_L1_eq, if_neg (by decide), l1, bI_s, if_neg (show ¬ ib (p, some v).2.isSome = 0 from (by decide : ¬ ib true = 0)), k1', bI_s, if_neg (by decide)]; rfl
          rw [if_neg he, if_pos f, hs]
          exact ⟨t, t1, fr_t fb t2, t3⟩
        · rw [if_neg f] at k2
          rw [decide_eq_false f] at k1'
          have hf := h15 (b := true) k2
          have hs : Ref_prams_L1 (d + 6) (nI T) 1 1 s = Ref_prams_L1 (d + 6) (nI T) (ib true) 0 b := by
            rw [Ref_prams_L1_eq, if_neg (by decide), l1, bI_s, if_neg (show ¬ ib (p, some v).2.isSome = 0 from (by decide : ¬ ib true = 0)), k1', bI_s, if_pos (by decide)]; rfl
          rw [hs, Ref_prams_L1_eq, if_pos rfl]
          by_cases e : p = T
          · rw [if_pos (⟨rfl, e⟩ : true = true ∧ p = T)] at hf
            rw [hf, bI_s, if_pos e, if_neg (by decide)]
            exact ⟨b, k2, fb, rfl, g3b, h46b⟩
          · rw [if_neg (fun y : true = true ∧ p = T => e y.2)] at hf
            rw [hf, bI_s, if_neg e, if_neg f, if_pos (hneg (by omega))]
            exact ⟨b, k2, fb, rfl⟩
def adS (S : Sn) (n f w : Nat) : Sn := (up S.1 n f, up S.2.1 n w, S.2.2)
theorem oOk_add {f w : Nat} (ho : oOkS R C kd n S) (hn : n < 4) (hf : f < R * C) (hk : kd f ≠ 1) (hw : w < 4) : oOkS R C kd (n + 1) (adS S n f w) := by
  obtain ⟨h1, h2, h3, h4⟩ := ho
  refine ⟨by omega, Nat.lt_of_lt_of_le h2 (Nat.pow_le_pow_right (by omega) (by omega)), fun p hp => ?_, fun p hp hp4 => h4 p (by omega) hp4⟩
  show up S.1 n f p < R * C ∧ kd (up S.1 n f p) ≠ 1 ∧ up S.2.1 n w p < 4 ∧ S.2.2.1 p < 64
  by_cases z : p = n
  · rw [z, up_s, up_s]; exact ⟨hf, hk, hw, by rw [h4 n (Nat.le_refl _) hn]; omega⟩
  · rw [up_n z, up_n z]; exact h3 p (by omega)
theorem c_add {f w : Nat} (hO : cOS s 0 n S) (ho : oOkS R C kd n S) (hn : n < 4) : ∃ t, ev (d + 1) f_Outing_add [vR 3 0, vI (nI f), vI (nI w)] s = some (none, t) ∧ cOS t 0 (n + 1) (adS S n f w) ∧ fr (fun c i _ => (c = 3 ∨ c = 17 ∨ c = 18 ∨ c = 19) ∧ i = 0) s t := by
  obtain ⟨h1, h2, h3, h4⟩ := hO
  refine ⟨wI (wI (wI (wI s 17 0 n (nI f)) 18 0 n (nI w)) 19 0 n 0) 3 0 3 (nI (n + 1)), ?_, ⟨wI_s1 _ _ _ _ _, ?_, ?_, fun p hp => ?_⟩, fr_wI (fr_wI (fr_wI (fr_wI (fr_r _ _) (by omega)) (by omega)) (by omega)) (by omega)⟩
  · rw [Outing_add_eq, h1, if_pos (show nI n < 4 from of_eq_true (lt_t (b := 4) hn (by omega))), in_t hn (by omega), if_pos rfl, if_pos rfl, if_pos rfl, n_cl (by omega), nI_1]
  · rw [wI_nk (by omega), wI_nc (by omega), wI_nc (by omega), wI_nc (by omega)]; exact h2
  · rw [wI_nk (by omega), wI_nc (by omega), wI_nc (by omega), wI_nc (by omega)]; exact h3
  · show _ = nI (up S.1 n f p) ∧ _ = nI (up S.2.1 n w p) ∧ _ = nI (S.2.2.1 p)
    by_cases z : p = n
    · rw [z, up_s, up_s, ho.2.2.2 n (Nat.le_refl _) hn]
      exact ⟨by rw [wI_nc (by omega), wI_nc (by omega), wI_nc (by omega), wI_s1], by rw [wI_nc (by omega), wI_nc (by omega), wI_s1], by rw [wI_nc (by omega), wI_s1]; rfl⟩
    · rw [up_n z, up_n z]
      have hp' : p < n := by omega
      exact ⟨by rw [wI_nc (by omega), wI_nc (by omega), wI_nc (by omega), wI_nk z]; exact (h4 p hp').1, by rw [wI_nc (by omega), wI_nc (by omega), wI_nk z, wI_nc (by omega)]; exact (h4 p hp').2.1, by rw [wI_nc (by omega), wI_nk z, wI_nc (by omega), wI_nc (by omega)]; exact (h4 p hp').2.2⟩
theorem m_add {f w : Nat} (hO : rOS s 0 n S) (hn : n < 4) : rOS (wI (wI (wI s 43 0 n (nI f)) 43 0 (4 + n) (nI w)) 13 0 6 (nI (n + 1))) 0 (n + 1) (adS S n f w) := by
  obtain ⟨h1, h2, h3, h4⟩ := hO
  refine ⟨wI_s1 _ _ _ _ _, fun p hp => ?_, fun p hp => ?_, ?_⟩
  · show _ = nI (up S.1 n f p) ∧ _ = nI (up S.2.1 n w p)
    by_cases z : p = n
    · rw [z, up_s, up_s]
      exact ⟨by rw [wI_nc (by omega), wI_nk (by omega), wI_s1], by rw [wI_nc (by omega), wI_s1]⟩
    · rw [up_n z, up_n z]
      have hp' : p < n := by omega
      exact ⟨by rw [wI_nc (by omega), wI_nk (by omega), wI_nk z]; exact (h2 p hp').1, by rw [wI_nc (by omega), wI_nk (by omega), wI_nk (by omega)]; exact (h2 p hp').2⟩
  · exact ⟨by rw [wI_nc (by omega), wI_nk (by omega), wI_nk (by omega)]; exact (h3 p hp).1, by rw [wI_nc (by omega), wI_nk (by omega), wI_nk (by omega)]; exact (h3 p hp).2⟩
  · rw [wI_nc (by omega), wI_nk (by omega), wI_nk (by omega)]; exact h4
def psS (R C : Nat) (kd sg : Nat → Nat) (E n : Nat) (S : Sn) : Nat → Sn
  | 0 => S
  | m + 1 => adS (psS R C kd sg E n S m) (n + m) (lnV R C kd sg E m).1 (lnV R C kd sg E m).2
theorem psS_ok {m : Nat} (hR : 1 ≤ R) (hC : 1 ≤ C) (ho : oOkS R C kd n S) (hg : lnG R C kd sg E m) (hnm : n + m ≤ 4) : ∀ j, j ≤ m → oOkS R C kd (n + j) (psS R C kd sg E n S j) := by
  intro j
  induction j with
  | zero => intro _; exact ho
  | succ j ih =>
    intro hj
    obtain ⟨f, w, hl⟩ := hg j (by omega)
    obtain ⟨_, _, r, c, _, _, _, _, a1, a2, a3⟩ := lnX_in hR hC hl
    show oOkS R C kd (n + j + 1) (adS (psS R C kd sg E n S j) (n + j) (lnV R C kd sg E j).1 (lnV R C kd sg E j).2)
    rw [lnV_s hl]
    exact oOk_add (ih (by omega)) (by omega) a1 a2 a3
theorem c_digitAt {v : Nat} (h : cT s T sg) (ht : tOk T sg) (hp : p < T) (hv : sg p = 48 + v) : ev (d + 1) f_Text_digitAt [vR 1 0, vI (nI p)] s = some (some (vI (nI v)), s) := by
  have := ht.1
  rw [Text_digitAt_eq, if_neg (nI_pos (by omega)), h.1, if_pos (of_eq_true (lt_t hp (by omega))), in_t (show p < 80 by omega) (by omega), if_pos rfl, n_cl (by omega), h.2 p hp, hv, nl_48, n_sub (by omega), Nat.add_sub_cancel_left]
theorem c_padd {m : Nat} (hG : cG s R C kd) (hO : cOS s 0 n S) (ho : oOkS R C kd n S) (hT : cT s T sg) (ht : tOk T sg) (hET : E ≤ T) (hg : lnG R C kd sg E m) (hnm : n + m ≤ 4) : ∃ t, Main_prams_L1 (d + 1) (nI m) 0 s = Main_prams_L1 (d + 1) (nI m) (nI m) t ∧ cOS t 0 (n + m) (psS R C kd sg E n S m) ∧ fr (fun c i _ => (c = 3 ∨ c = 17 ∨ c = 18 ∨ c = 19) ∧ i = 0) s t := by
  have hR := hG.1.1
  have hC := hG.1.2.2.1
  obtain ⟨t, k1, k2, k3⟩ := chainE m (fun j (t : xS) => Main_prams_L1 (d + 1) (nI m) (nI j) t) (fun j t => cOS t 0 (n + j) (psS R C kd sg E n S j) ∧ fr (fun c i _ => (c = 3 ∨ c = 17 ∨ c = 18 ∨ c = 19) ∧ i = 0) s t) (by
    rintro j t hj ⟨h1, h2⟩
    obtain ⟨f, w, hl⟩ := hg j hj
    obtain ⟨_, b0, r, c, b1, b2, b3, b4, b5, b6, b7⟩ := lnX_in (by omega) (by omega) hl
    have hT' := cT_fr hT h2 (by omega) (by omega)
    have hG' := cG_fr hG h2 (by omega) (by omega) (by omega)
    obtain ⟨a, a1, a2, a3⟩ := c_add (d := d) (f := f) (w := w) h1 (psS_ok (by omega) (by omega) ho hg hnm j (by omega)) (by omega)
    have m4 : (4 : Int32) * nI j = nI (4 * j) := by rw [nl_4, pk_mul]
    have m41 : nI (4 * j) + 1 = nI (4 * j + 1) := nI_1 _
    have m42 : nI (4 * j) + 2 = nI (4 * j + 2) := by rw [nl_2, nI_add]
    refine ⟨a, ?_, ?_, fr_t h2 a3⟩
    · show Main_prams_L1 (d + 1) (nI m) (nI j) t = _
      rw [Main_prams_L1_eq, if_pos (of_eq_true (lt_t hj (by omega))), m4, c_digitAt hT' ht (by omega) b1, bI_s, m41, c_digitAt hT' ht (by omega) b2, bI_s, g_at hG', bI_s, m42, c_digitAt hT' ht (by omega) b3, bI_s, ← b4, a1, bV_s, nI_1]
    · show cOS a 0 (n + j + 1) (adS (psS R C kd sg E n S j) (n + j) (lnV R C kd sg E j).1 (lnV R C kd sg E j).2)
      rw [lnV_s hl]; exact a2) m 0 s (by omega) ⟨hO, fr_r _ _⟩
  exact ⟨t, k1, k2, k3⟩
theorem m_padd {m : Nat} (hO : rOS s 0 n S) (h17 : s.1 13 0 17 = nI m) (h46 : ln46 R C kd sg E m s) (hnm : n + m ≤ 4) : ∃ t, Ref_prams_L2 d 0 s = Ref_prams_L2 d (nI m) t ∧ rOS t 0 (n + m) (psS R C kd sg E n S m) ∧ fr (fun c i k => (c = 43 ∧ i = 0) ∨ (c = 13 ∧ k = 6)) s t := by
  obtain ⟨t, k1, k2, k3⟩ := chainE m (fun j (t : xS) => Ref_prams_L2 d (nI j) t) (fun j t => rOS t 0 (n + j) (psS R C kd sg E n S j) ∧ fr (fun c i k => (c = 43 ∧ i = 0) ∨ (c = 13 ∧ k = 6)) s t) (by
    rintro j t hj ⟨h1, h2⟩
    have m2 : (2 : Int32) * nI j = nI (2 * j) := by rw [nl_2, pk_mul]
    have m4 : (4 : Int32) + nI (n + j) = nI (4 + (n + j)) := by rw [nl_4, nI_add]
    refine ⟨wI (wI (wI t 43 0 (n + j) (nI (lnV R C kd sg E j).1)) 43 0 (4 + (n + j)) (nI (lnV R C kd sg E j).2)) 13 0 6 (nI (n + j + 1)), ?_, m_add h1 (by omega), fr_wI (fr_wI (fr_wI h2 (by omega)) (by omega)) (by omega)⟩
    show Ref_prams_L2 d (nI j) t = _
    rw [Ref_prams_L2_eq, (h2 13 0 17 (by omega)).1, h17, if_pos (of_eq_true (lt_t hj (by omega))), m2, in_t (show 2 * j < 8 by omega) (by omega), if_pos rfl, h1.1, in_t (show n + j < 17 by omega) (by omega), if_pos rfl, nI_1, in_t (show 2 * j + 1 < 8 by omega) (by omega), if_pos rfl, m4, in_t (show 4 + (n + j) < 17 by omega) (by omega), if_pos rfl, n_cl (by omega), n_cl (by omega), n_cl (by omega), n_cl (by omega), nI_1, nI_1, (h2 46 0 (2 * j) (by omega)).1, (h2 46 0 (2 * j + 1) (by omega)).1, (h46 j hj).1, (h46 j hj).2]) m 0 s (by omega) ⟨hO, fr_r _ _⟩
  exact ⟨t, k1, k2, k3⟩
end PRAMM

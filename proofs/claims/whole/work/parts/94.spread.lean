/-! forms, most: the places spread out, by both. -/
section SPREAD
variable {d R C n p x w N src f i : Nat} {kd : Nat → Nat} {S : Sn} {L : List Nat} {s t : xS} {nx : Nat → Nat → Option Nat}
abbrev qS : Type := List Nat × (Nat → Option (Nat × Nat × Nat))
def qw (nx : Nat → Nat → Option Nat) (f w : Nat) (st : qS) : qS := match nx f w with
  | none => st
  | some g => match st.2 g with
    | some _ => st
    | none => (st.1 ++ [g], up st.2 g (some (((st.2 f).getD (0, 0, 0)).1 + 1, f, w)))
def qws (nx : Nat → Nat → Option Nat) (f : Nat) : Nat → qS → qS
  | 0, st => st
  | k + 1, st => qw nx f k (qws nx f k st)
def qf (nx : Nat → Nat → Option Nat) : Nat → Nat → qS → qS
  | 0, _, st => st
  | m + 1, i, st => if i < st.1.length then qf nx m (i + 1) (qws nx (st.1.getD i 0) 4 st) else st
def qInv (N src : Nat) (st : qS) : Prop := st.1.Nodup ∧ (∀ g, g ∈ st.1 → g < N) ∧ (∀ g, st.2 g ≠ none ↔ g ∈ st.1) ∧ (0 < st.1.length ∧ st.1.getD 0 0 = src ∧ st.2 src = some (0, 0, 0)) ∧ (∀ i, i < st.1.length → ∃ k f w, st.2 (st.1.getD i 0) = some (k, f, w) ∧ k ≤ i) ∧ (∀ g k f w, st.2 g = some (k + 1, f, w) → w < 4 ∧ ∃ f' w', st.2 f = some (k, f', w')) ∧ (∀ g f w, st.2 g = some (0, f, w) → g = src)
theorem qw_inv {st : qS} (hnx : ∀ f w g, f < N → w < 4 → nx f w = some g → g < N) (h : qInv N src st) (hf : f ∈ st.1) (hw : w < 4) : qInv N src (qw nx f w st) ∧ f ∈ (qw nx f w st).1 ∧ st.1.length ≤ (qw nx f w st).1.length ∧ ∀ i, i < st.1.length → (qw nx f w st).1.getD i 0 = st.1.getD i 0 := by
  unfold qw
  cases hn : nx f w with
  | none => exact ⟨h, hf, Nat.le_refl _, fun _ _ => rfl⟩
  | some g =>
    dsimp only
    cases hg : st.2 g with
    | some _ => exact ⟨h, hf, Nat.le_refl _, fun _ _ => rfl⟩
    | none =>
      obtain ⟨h1, h2, h3, ⟨h4a, h4b, h4c⟩, h5, h6, h7⟩ := h
      have hgn : g ∉ st.1 := fun z => (h3 g).mpr z hg
      have hgN := hnx f w g (h2 f hf) hw hn
      have hfs : st.2 f ≠ none := (h3 f).mpr hf
      have hfg : ∀ {y}, y ∈ st.1 → y ≠ g := fun {y} hy z => hgn (z ▸ hy)
      obtain ⟨kf, ff, wf, hf2⟩ : ∃ kf ff wf, st.2 f = some (kf, ff, wf) := by
        cases e : st.2 f with
        | none => exact absurd e hfs
        | some y => exact ⟨y.1, y.2.1, y.2.2, rfl⟩
      have hgd : ((st.2 f).getD (0, 0, 0)).1 = kf := by rw [hf2]; rfl
      rw [hgd]
      have hlen : (st.1 ++ [g]).length = st.1.length + 1 := by rw [List.length_append]; rfl
      -- f's place in the row
      obtain ⟨jf, hjf, hjf2⟩ : ∃ j, j < st.1.length ∧ st.1.getD j 0 = f := by
        obtain ⟨j, hj, e⟩ := List.getElem_of_mem hf
        exact ⟨j, hj, by rw [List.getD_eq_getElem?_getD, List.getElem?_eq_getElem hj, e]; rfl⟩
      have hkf : kf ≤ jf := by
        obtain ⟨k, f', w', e1, e2⟩ := h5 jf hjf
        rw [hjf2, hf2] at e1
        have := Option.some.inj e1
        have : kf = k := (Prod.mk.inj this).1
        omega
      refine ⟨⟨?_, ?_, ?_, ⟨?_, ?_, ?_⟩, ?_, ?_, ?_⟩, ?_, ?_, ?_⟩
      · rw [List.nodup_append]
        refine ⟨h1, (by simp : [g].Nodup), fun a ha b hb z => ?_⟩
        rw [List.mem_singleton] at hb
        exact hgn (by rw [← hb, ← z]; exact ha)
      · intro y hy
        rw [List.mem_append, List.mem_singleton] at hy
        rcases hy with hy | rfl
        · exact h2 y hy
        · exact hgN
      · intro y
        show up st.2 g (some (kf + 1, f, w)) y ≠ none ↔ y ∈ st.1 ++ [g]
        rw [List.mem_append, List.mem_singleton]
        by_cases z : y = g
        · rw [z, up_s]; exact ⟨fun _ => Or.inr rfl, fun _ q => by cases q⟩
        · rw [up_n z]
          exact ⟨fun q => Or.inl ((h3 y).mp q), fun q => (h3 y).mpr (q.resolve_right z)⟩
      · show 0 < (st.1 ++ [g]).length
        rw [hlen]; omega
      · show (st.1 ++ [g]).getD 0 0 = src
        rw [gD_l h4a]; exact h4b
      · show up st.2 g (some (kf + 1, f, w)) src = some (0, 0, 0)
        rw [up_n (fun z => by rw [z, hg] at h4c; cases h4c)]; exact h4c
      · intro j hj
        have hj : j < (st.1 ++ [g]).length := hj
        rw [hlen] at hj
        show ∃ k f' w', up st.2 g (some (kf + 1, f, w)) ((st.1 ++ [g]).getD j 0) = some (k, f', w') ∧ k ≤ j
        by_cases z : j < st.1.length
        · rw [gD_l z, up_n (hfg (getD_mem z))]; exact h5 j z
        · rw [show j = st.1.length + 0 by omega, gD_r, show [g].getD 0 0 = g from rfl, up_s]
          exact ⟨_, _, _, rfl, by omega⟩
      · intro y k f' w' hy
        have hy : up st.2 g (some (kf + 1, f, w)) y = some (k + 1, f', w') := hy
        show w' < 4 ∧ ∃ f'' w'', up st.2 g (some (kf + 1, f, w)) f' = some (k, f'', w'')
        by_cases z : y = g
        · rw [z, up_s] at hy
          have hy := Option.some.inj hy
          have y1 : kf + 1 = k + 1 := (Prod.mk.inj hy).1
          have y2 : f = f' := (Prod.mk.inj (Prod.mk.inj hy).2).1
          have y3 : w = w' := (Prod.mk.inj (Prod.mk.inj hy).2).2
          rw [← y2, ← y3, up_n (hfg hf), hf2, show kf = k by omega]
          exact ⟨hw, _, _, rfl⟩
        · rw [up_n z] at hy
          obtain ⟨a, f'', w'', b⟩ := h6 y k f' w' hy
          refine ⟨a, f'', w'', ?_⟩
          rw [up_n (hfg ((h3 f').mp (by rw [b]; intro q; cases q)))]; exact b
      · intro y f' w' hy
        have hy : up st.2 g (some (kf + 1, f, w)) y = some (0, f', w') := hy
        by_cases z : y = g
        · rw [z, up_s] at hy
          have hy := Option.some.inj hy
          have y1 : kf + 1 = 0 := (Prod.mk.inj hy).1
          omega
        · rw [up_n z] at hy; exact h7 y f' w' hy
      · exact List.mem_append.mpr (Or.inl hf)
      · show st.1.length ≤ (st.1 ++ [g]).length
        rw [hlen]; omega
      · exact fun j hj => gD_l hj
theorem qws_inv {st : qS} (hnx : ∀ f w g, f < N → w < 4 → nx f w = some g → g < N) (h : qInv N src st) (hf : f ∈ st.1) : ∀ k, k ≤ 4 → qInv N src (qws nx f k st) ∧ f ∈ (qws nx f k st).1 ∧ st.1.length ≤ (qws nx f k st).1.length ∧ ∀ i, i < st.1.length → (qws nx f k st).1.getD i 0 = st.1.getD i 0 := by
  intro k
  induction k with
  | zero => exact fun _ => ⟨h, hf, Nat.le_refl _, fun _ _ => rfl⟩
  | succ k ih =>
    intro hk
    obtain ⟨a1, a2, a3, a4⟩ := ih (by omega)
    obtain ⟨b1, b2, b3, b4⟩ := qw_inv hnx a1 a2 (show k < 4 by omega)
    exact ⟨b1, b2, Nat.le_trans a3 b3, fun i hi => (b4 i (by omega)).trans (a4 i hi)⟩
theorem qf_inv (hnx : ∀ f w g, f < N → w < 4 → nx f w = some g → g < N) : ∀ m i (st : qS), qInv N src st → qInv N src (qf nx m i st) := by
  intro m
  induction m with
  | zero => exact fun i st h => h
  | succ m ih =>
    intro i st h
    unfold qf
    by_cases z : i < st.1.length
    · rw [if_pos z]
      exact ih _ _ (qws_inv hnx h (getD_mem z) 4 (by omega)).1
    · rw [if_neg z]; exact h
def q0 (src : Nat) : qS := ([src], fun g => if g = src then some (0, 0, 0) else none)
theorem q0_inv (h : src < N) : qInv N src (q0 src) := by
  refine ⟨(by simp : [src].Nodup), fun g hg => ?_, fun g => ?_, ⟨Nat.zero_lt_one, rfl, if_pos rfl⟩, fun i hi => ?_, fun g k f w hg => ?_, fun g f w hg => ?_⟩
  · rw [show (q0 src).1 = [src] from rfl, List.mem_singleton] at hg
    omega
  · show (if g = src then some (0, 0, 0) else none) ≠ none ↔ g ∈ [src]
    rw [List.mem_singleton]
    by_cases z : g = src
    · rw [if_pos z]; exact ⟨fun _ => z, fun _ q => by cases q⟩
    · rw [if_neg z]; exact ⟨fun q => absurd rfl q, fun q => absurd q z⟩
  · have hi : i < 1 := hi
    rw [show i = 0 by omega]
    exact ⟨0, 0, 0, if_pos rfl, Nat.le_refl _⟩
  · have hg : (if g = src then some (0, 0, 0) else none) = some (k + 1, f, w) := hg
    by_cases z : g = src
    · rw [if_pos z] at hg
      have := (Prod.mk.inj (Option.some.inj hg)).1
      omega
    · rw [if_neg z] at hg; cases hg
  · have hg : (if g = src then some (0, 0, 0) else none) = some (0, f, w) := hg
    by_cases z : g = src
    · exact z
    · rw [if_neg z] at hg; cases hg
theorem qI_len {st : qS} (h : qInv N src st) : st.1.length ≤ N := nodup_len h.1 h.2.1
/-- where a place was come from, as the class keeps it -/
def orI (o : Option (Nat × Nat × Nat)) : Int32 := match o with
  | none => -1
  | some (0, _, _) => -2
  | some (_ + 1, f, w) => nI (4 * f + w)
def stI (o : Option (Nat × Nat × Nat)) : Int32 := match o with
  | none => -1
  | some (k, _, _) => nI k
def cQ (s : xS) (st : qS) : Prop := s.1 9 0 7 = nI st.1.length ∧ (∀ i, i < st.1.length → s.1 36 0 i = nI (st.1.getD i 0)) ∧ ∀ g, g < 2304 → s.1 35 0 g = orI (st.2 g)
def rQ (s : xS) (st : qS) : Prop := s.1 13 0 45 = nI st.1.length ∧ (∀ i, i < st.1.length → s.1 58 0 i = nI (st.1.getD i 0)) ∧ (∀ g, g < 2304 → s.1 59 0 g = stI (st.2 g)) ∧ ∀ g k f w, g < 2304 → st.2 g = some (k + 1, f, w) → s.1 60 0 g = nI f ∧ s.1 61 0 g = nI w
theorem cQ_fr {st : qS} {r : Nat → Nat → Nat → Prop} (h : cQ s st) (f : fr r s t) (h1 : ¬ r 9 0 7) (h2 : ∀ k, ¬ r 36 0 k) (h3 : ∀ k, ¬ r 35 0 k) : cQ t st :=
  ⟨by rw [(f _ _ _ h1).1]; exact h.1, fun i hi => by rw [(f _ _ _ (h2 _)).1]; exact h.2.1 i hi, fun g hg => by rw [(f _ _ _ (h3 _)).1]; exact h.2.2 g hg⟩
theorem rQ_fr {st : qS} {r : Nat → Nat → Nat → Prop} (h : rQ s st) (f : fr r s t) (h1 : ¬ r 13 0 45) (h2 : ∀ k, ¬ r 58 0 k) (h3 : ∀ k, ¬ r 59 0 k) (h4 : ∀ k, ¬ r 60 0 k) (h5 : ∀ k, ¬ r 61 0 k) : rQ t st :=
  ⟨by rw [(f _ _ _ h1).1]; exact h.1, fun i hi => by rw [(f _ _ _ (h2 _)).1]; exact h.2.1 i hi, fun g hg => by rw [(f _ _ _ (h3 _)).1]; exact h.2.2.1 g hg, fun g k f' w hg e => by rw [(f _ _ _ (h4 _)).1, (f _ _ _ (h5 _)).1]; exact h.2.2.2 g k f' w hg e⟩
def pSp (c i k : Nat) : Prop := pPu c i k ∨ c = 35 ∨ c = 36 ∨ (c = 9 ∧ k = 7)
def pSr (c i k : Nat) : Prop := pF c i k ∨ c = 58 ∨ c = 59 ∨ c = 60 ∨ c = 61 ∨ (c = 13 ∧ k = 45)
theorem orI_n {o : Option (Nat × Nat × Nat)} (h : ∀ k f w, o = some (k, f, w) → 4 * f + w < 2147483648) : orI o = -1 ↔ o = none := by
  cases o with
  | none => exact ⟨fun _ => rfl, fun _ => rfl⟩
  | some y =>
    obtain ⟨k, f, w⟩ := y
    refine ⟨fun z => ?_, fun z => by cases z⟩
    cases k with
    | zero => exact absurd z (by show ¬ (-2 : Int32) = -1; decide)
    | succ k => exact absurd z (m1_nn (h (k + 1) f w rfl))
theorem stI_n {o : Option (Nat × Nat × Nat)} (h : ∀ k f w, o = some (k, f, w) → k < 2147483648) : stI o < 0 ↔ o = none := by
  cases o with
  | none => exact ⟨fun _ => rfl, fun _ => by show (-1 : Int32) < 0; decide⟩
  | some y =>
    obtain ⟨k, f, w⟩ := y
    exact ⟨fun z => absurd z (nI_pos (h k f w rfl)), fun z => by cases z⟩
theorem q_bd {st : qS} (h : qInv N src st) (hN : N ≤ 2304) {g k f w : Nat} (hg : st.2 g = some (k, f, w)) : k < 2304 ∧ 4 * f + w < 9220 := by
  obtain ⟨h1, h2, h3, h4, h5, h6, h7⟩ := h
  have hm : g ∈ st.1 := (h3 g).mp (by rw [hg]; intro z; cases z)
  obtain ⟨j, hj, e⟩ := List.getElem_of_mem hm
  have hjd : st.1.getD j 0 = g := by rw [List.getD_eq_getElem?_getD, List.getElem?_eq_getElem hj, e]; rfl
  obtain ⟨k', f', w', e1, e2⟩ := h5 j hj
  rw [hjd, hg] at e1
  have e1 := Option.some.inj e1
  have hk : k = k' := (Prod.mk.inj e1).1
  have hl := nodup_len h1 h2
  refine ⟨by omega, ?_⟩
  cases k with
  | zero =>
    have hz := h7 g f w hg
    rw [hz, h4.2.2] at hg
    have hg := Option.some.inj hg
    have y2 : 0 = f := (Prod.mk.inj (Prod.mk.inj hg).2).1
    have y3 : 0 = w := (Prod.mk.inj (Prod.mk.inj hg).2).2
    omega
  | succ k =>
    obtain ⟨a, f'', w'', b⟩ := h6 g k f w hg
    have := h2 f ((h3 f).mp (by rw [b]; intro z; cases z))
    omega
end SPREAD

/-! The ROW, what is scratch, questions. -/
section ROWS
def cRow (s : xS) (l : List Int64) : Prop := s.1 10 0 1 = nI l.length ∧ l.length ≤ 16 ∧ ∀ i, i < l.length → s.2 38 0 i = l.getD i 0
def rRow (s : xS) (l : List Int64) : Prop := s.1 13 0 1 = nI l.length ∧ l.length ≤ 16 ∧ ∀ i, i < l.length → s.2 41 0 i = l.getD i 0
theorem cRow_fr {p : Nat → Nat → Nat → Prop} {s t : xS} {l : List Int64} (h : cRow s l) (g : fr p s t) (h1 : ¬ p 10 0 1) (h2 : ∀ k, ¬ p 38 0 k) : cRow t l :=
  ⟨by rw [(g _ _ _ h1).1]; exact h.1, h.2.1, fun i hi => by rw [(g _ _ _ (h2 _)).2]; exact h.2.2 i hi⟩
theorem rRow_fr {p : Nat → Nat → Nat → Prop} {s t : xS} {l : List Int64} (h : rRow s l) (g : fr p s t) (h1 : ¬ p 13 0 1) (h2 : ∀ k, ¬ p 41 0 k) : rRow t l :=
  ⟨by rw [(g _ _ _ h1).1]; exact h.1, h.2.1, fun i hi => by rw [(g _ _ _ (h2 _)).2]; exact h.2.2 i hi⟩
def pN (c _i _k : Nat) : Prop := c = 10 ∨ c = 38
def pT (c _i k : Nat) : Prop := c = 41 ∨ (c = 13 ∧ k = 1)
/-- of the class: scratch and the ROW -/
def pCQ (c i k : Nat) : Prop := c = 10 ∨ c = 38 ∨ (c = 1 ∧ 2 ≤ k) ∨ ((c = 3 ∨ c = 17 ∨ c = 18 ∨ c = 19 ∨ c = 24) ∧ i = 1) ∨ (c = 4 ∧ 6 ≤ k) ∨ (c = 5 ∧ (i = 1 ∨ 3 ≤ k)) ∨ c = 25 ∨ (6 ≤ c ∧ c ≤ 9) ∨ (26 ≤ c ∧ c ≤ 37)
/-- of the reference -/
def pRQ (c i k : Nat) : Prop := (c = 13 ∧ (k = 0 ∨ k = 1 ∨ k = 12 ∨ k = 13 ∨ k = 14 ∨ k = 17 ∨ k = 21 ∨ k = 24 ∨ k = 25 ∨ k = 28 ∨ k = 29 ∨ k = 33 ∨ k = 39 ∨ k = 40 ∨ k = 45 ∨ k = 47 ∨ k = 50 ∨ k = 60)) ∨ c = 41 ∨ (c = 43 ∧ i = 1) ∨ c = 45 ∨ c = 46 ∨ (c = 47 ∧ 1 ≤ i) ∨ c = 48 ∨ c = 49 ∨ (51 ≤ c ∧ c ≤ 64) ∨ c = 70
theorem pE_CQ {c i k : Nat} (h : pE c i k) : pCQ c i k := by unfold pE at h; unfold pCQ; omega
theorem pN_CQ {c i k : Nat} (h : pN c i k) : pCQ c i k := by unfold pN at h; unfold pCQ; omega
theorem pF_RQ {c i k : Nat} (h : pF c i k) : pRQ c i k := by unfold pF at h; unfold pRQ; omega
theorem pT_RQ {c i k : Nat} (h : pT c i k) : pRQ c i k := by unfold pT at h; unfold pRQ; omega
variable {d : Nat} {s : xS} {l : List Int64} {x y : Int64}
theorem getD_app1 {l : List Int64} {x : Int64} {i : Nat} (h : i < l.length) : (l ++ [x]).getD i 0 = l.getD i 0 := by
  rw [List.getD_eq_getElem?_getD, List.getD_eq_getElem?_getD, List.getElem?_append_left h]
theorem getD_app2 {l : List Int64} {x : Int64} : (l ++ [x]).getD l.length 0 = x := by
  rw [List.getD_eq_getElem?_getD, List.getElem?_append_right (Nat.le_refl _), Nat.sub_self]; rfl
theorem n_clear : ∃ u, ev (d + 1) f_Numbers_clear [vR 10 0] s = some (none, u) ∧ cRow u [] ∧ fr pN s u :=
  ⟨_, Numbers_clear_eq d s, ⟨by rw [wI_s1]; rfl, by simp, fun i hi => by simp at hi⟩, fr_wI (fr_r _ _) (Or.inl rfl)⟩
theorem n_add1 (h : cRow s l) (hl : l.length < 16) : ∃ u, ev (d + 1) f_Numbers_add [vR 10 0, vL x] s = some (none, u) ∧ cRow u (l ++ [x]) ∧ fr pN s u := by
  refine ⟨_, by rw [Numbers_add_eq, h.1, n_ofNat, if_pos (of_eq_true (lt_t hl (by omega))), in_t hl (by omega), if_pos rfl, n_cl (by omega), nI_1], ⟨?_, ?_, ?_⟩, fr_wI (fr_wL (fr_r _ _) (Or.inr rfl)) (Or.inl rfl)⟩
  · rw [wI_s1, List.length_append]; rfl
  · rw [List.length_append]; simp; omega
  · intro i hi
    rw [List.length_append] at hi
    have hi' : i < l.length + 1 := hi
    rw [wI_s2, wL_get]
    by_cases e : i = l.length
    · subst e; rw [if_pos ⟨rfl, rfl, rfl⟩, getD_app2]
    · rw [if_neg (fun q => e q.2.1), getD_app1 (by omega)]; exact h.2.2 i (by omega)
theorem n_addFirst (h : cRow s l) : ∃ u, ev (d + 2) f_Numbers_addFirst [vR 10 0, vL x] s = some (none, u) ∧ cRow u (if l = [] then [x] else l) ∧ fr pN s u := by
  rw [Numbers_addFirst_eq, h.1, nl_0]
  by_cases e : l = []
  · subst e
    obtain ⟨u, e1, e2, e3⟩ := n_add1 (d := d) (x := x) h (by simp)
    rw [if_pos (by rfl), e1, bV_s, if_pos rfl]
    exact ⟨u, rfl, e2, e3⟩
  · have : l.length ≠ 0 := fun q => e (List.length_eq_zero_iff.mp q)
    have h2 := h.2.1
    rw [if_neg (of_eq_false (eq_f this (by omega) (by omega))), if_neg e]
    exact ⟨s, rfl, h, fr_r _ _⟩
theorem n_tellOne : ∃ u, ev (d + 2) f_Numbers_tellOne [vR 10 0, vL x] s = some (none, u) ∧ cRow u [x] ∧ fr pN s u := by
  obtain ⟨u, e1, e2, e3⟩ := n_clear (d := d) (s := s)
  obtain ⟨v, g1, g2, g3⟩ := n_add1 (d := d) (x := x) e2 (by simp)
  rw [Numbers_tellOne_eq, e1, bV_s, g1, bV_s]
  exact ⟨v, rfl, g2, fr_t e3 g3⟩
theorem n_tellTwo : ∃ u, ev (d + 3) f_Numbers_tellTwo [vR 10 0, vL x, vL y] s = some (none, u) ∧ cRow u [x, y] ∧ fr pN s u := by
  obtain ⟨u, e1, e2, e3⟩ := n_tellOne (d := d) (s := s) (x := x)
  obtain ⟨v, g1, g2, g3⟩ := n_add1 (d := d + 1) (x := y) e2 (by simp)
  rw [Numbers_tellTwo_eq, e1, bV_s, g1, bV_s]
  exact ⟨v, rfl, g2, fr_t e3 g3⟩
theorem m_enters (h : rRow s l) (hl : l.length < 16) : ∃ u, ev (d + 1) f_Ref_enters [vR 13 0, vL x] s = some (none, u) ∧ rRow u (l ++ [x]) ∧ fr pT s u := by
  refine ⟨_, by rw [Ref_enters_eq, h.1, in_t (show l.length < 24 by omega) (by omega), if_pos rfl, n_cl (by omega), nI_1], ⟨?_, ?_, ?_⟩, fr_wI (fr_wL (fr_r _ _) (Or.inl rfl)) (Or.inr ⟨rfl, rfl⟩)⟩
  · rw [wI_s1, List.length_append]; rfl
  · rw [List.length_append]; simp; omega
  · intro i hi
    rw [List.length_append] at hi
    have hi' : i < l.length + 1 := hi
    rw [wI_s2, wL_get]
    by_cases e : i = l.length
    · subst e; rw [if_pos ⟨rfl, rfl, rfl⟩, getD_app2]
    · rw [if_neg (fun q => e q.2.1), getD_app1 (by omega)]; exact h.2.2 i (by omega)
theorem m_told0 : rRow (wI s 13 0 1 0) [] ∧ fr pT s (wI s 13 0 1 0) := ⟨⟨by rw [wI_s1]; rfl, by simp, fun i hi => by simp at hi⟩, fr_wI (fr_r _ _) (Or.inr ⟨rfl, rfl⟩)⟩
/-- a question's answer and ROW -/
def QC (s : xS) (r : Option xO) (a : Int32) (l : List Int64) : Prop := ∃ u, r = some (some (vI a), u) ∧ cRow u l ∧ fr pCQ s u
def QR (s : xS) (r : Option xO) (a : Int32) (l : List Int64) : Prop := ∃ u, r = some (some (vI a), u) ∧ rRow u l ∧ fr pRQ s u
/-- two numbers entered -/
theorem m_two : ∃ u, (bV (ev (d + 1) f_Ref_enters [vR 13 0, vL x] (wI s 13 0 1 0)) fun s1 => ev (d + 1) f_Ref_enters [vR 13 0, vL y] s1) = some (none, u) ∧ rRow u [x, y] ∧ fr pT s u := by
  obtain ⟨h, f0⟩ := m_told0 (s := s)
  obtain ⟨u, e1, e2, e3⟩ := m_enters (d := d) (x := x) h (by simp)
  obtain ⟨v, g1, g2, g3⟩ := m_enters (d := d) (x := y) e2 (by simp)
  rw [e1, bV_s, g1]
  exact ⟨v, rfl, g2, fr_t (fr_t f0 e3) g3⟩
end ROWS

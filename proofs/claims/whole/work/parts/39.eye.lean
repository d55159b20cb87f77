/-! Rules reckoned, what can be formed from a stand: the class's side. -/
section EYE
def sgn (a : Nat) : Nat := match a with
  | 0 => 60 | 1 => 62 | 2 => 61 | 3 => 43 | 4 => 45 | 5 => 42 | _ => 47
def ccd (c : Nat) : Nat := if c < 2000 then c else if c = 3000 then 2256 else 2000 + sgn (c - 2000)
def wrk (a : Nat) (x y : Int32) : Int32 := match a with
  | 0 => ib (decide (x < y)) | 1 => ib (decide (y < x)) | 2 => ib (decide (x = y)) | 3 => x + y | 4 => x - y | 5 => x * y | _ => if y = 0 then 0 else x / y
def evC (th : Nat → Int32) (st : List Int32) (c : Nat) : List Int32 :=
  if c < 1000 then nI c :: st
  else if c < 2000 then th (c - 1000) :: st
  else if c = 3000 then (match st with
    | x :: r => (-x) :: r
    | [] => [])
  else match st with
    | y :: x :: r => wrk (c - 2000) x y :: r
    | z => z
def cdOk (c : Nat) : Prop := c < 1000 ∨ (1000 ≤ c ∧ c < 1007) ∨ (2000 ≤ c ∧ c < 2007) ∨ c = 3000
def dep (k c : Nat) : Nat := if c < 2000 then k + 1 else if c = 3000 then k else k - 1
def nee (c : Nat) : Nat := if c < 2000 then 0 else if c = 3000 then 1 else 2
def wfL : List Nat → Nat → Prop
  | [], k => k = 1
  | c :: r, k => cdOk c ∧ nee c ≤ k ∧ dep k c ≤ 40 ∧ wfL r (dep k c)
def evL (th : Nat → Int32) (st : List Int32) (L : List Nat) : List Int32 := L.foldl (evC th) st
def rvl (th : Nat → Int32) (L : List Nat) : Int32 := (evL th [] L).headD 0
def stk (a : Nat → Int32) : List Int32 → Prop
  | [] => True
  | x :: r => a r.length = x ∧ stk a r
theorem stk_k {a b : Nat → Int32} : ∀ {st : List Int32}, stk a st → (∀ j, j < st.length → b j = a j) → stk b st
  | [], _, _ => trivial
  | x :: r, h, e => ⟨by rw [e r.length (by simp)]; exact h.1, stk_k h.2 (fun j hj => e j (by simp; omega))⟩
theorem drop_c {α : Type} {L : List α} {z c : α} {r : List α} {k : Nat} (e : L.drop k = c :: r) : k < L.length ∧ L.getD k z = c ∧ L.drop (k + 1) = r := by
  have h : k < L.length := by
    rcases Nat.lt_or_ge k L.length with h | h
    · exact h
    · rw [List.drop_eq_nil_of_le h] at e; cases e
  have e2 := List.drop_eq_getElem_cons h
  rw [e] at e2
  injection e2 with e3 e4
  refine ⟨h, ?_, e4.symm⟩
  rw [List.getD_eq_getElem?_getD, List.getElem?_eq_getElem h, e3]; rfl
def cR (s : xS) (i : Nat) (L : List Nat) : Prop := s.1 5 i 2 = nI L.length ∧ L.length ≤ 40 ∧ ∀ j, j < L.length → s.1 24 i j = nI (ccd (L.getD j 0))
theorem cR_fr {p : Nat → Nat → Nat → Prop} {s t : xS} {i : Nat} {L : List Nat} (h : cR s i L) (g : fr p s t) (h5 : ¬ p 5 i 2) (h24 : ∀ k, ¬ p 24 i k) : cR t i L :=
  ⟨by rw [(g _ _ _ h5).1]; exact h.1, h.2.1, fun j hj => by rw [(g _ _ _ (h24 _)).1]; exact h.2.2 j hj⟩
def pK (c _i k : Nat) : Prop := c = 25 ∨ (c = 5 ∧ k = 3)
def pE (c _i k : Nat) : Prop := c = 26 ∨ c = 25 ∨ (c = 5 ∧ k = 3)
variable {d i t : Nat} {s : xS} {x y : Int32} {L : List Nat} {th : Nat → Int32}
theorem r_hold (h : s.1 5 i 3 = nI t) (ht : t < 40) : ev (d + 1) f_Rule_hold [vR 5 i, vI x] s = some (none, wI (wI s 25 i t x) 5 i 3 (nI (t + 1))) := by
  rw [Rule_hold_eq, h]
  simp (disch := omega) only [nl_40, lt_t, in_t, n_cl, nI_1, ↓reduceIte]
theorem r_release (h : s.1 5 i 3 = nI (t + 1)) (ht : t < 40) : ev (d + 1) f_Rule_release [vR 5 i] s = some (some (vI (s.1 25 i t)), wI s 5 i 3 (nI t)) := by
  rw [Rule_release_eq, h, wI_s1]
  simp (disch := omega) only [nl_0, nl_1, eq_f, n_sub, Nat.add_sub_cancel, in_t, n_cl, ↓reduceIte]
theorem r_join {a : Nat} (ha : a < 7) : ev (d + 1) f_Rule_join [vI (nI (sgn a)), vI x, vI y] s = some (some (vI (wrk a x y)), s) := by
  rw [Rule_join_eq]
  match a, ha with
  | 0, _ => simp only [show (nI (sgn 0) = 42) = False from eq_false (by decide), show (nI (sgn 0) = 43) = False from eq_false (by decide), show (nI (sgn 0) = 45) = False from eq_false (by decide), show (nI (sgn 0) = 60) = True from eq_true (by decide), ↓reduceIte, wrk]; by_cases h : x < y <;> simp [h, ib]
  | 1, _ => simp only [show (nI (sgn 1) = 42) = False from eq_false (by decide), show (nI (sgn 1) = 43) = False from eq_false (by decide), show (nI (sgn 1) = 45) = False from eq_false (by decide), show (nI (sgn 1) = 60) = False from eq_false (by decide), show (nI (sgn 1) = 61) = False from eq_false (by decide), show (nI (sgn 1) = 62) = True from eq_true (by decide), ↓reduceIte, wrk]; by_cases h : y < x <;> simp [h, ib]
  | 2, _ => simp only [show (nI (sgn 2) = 42) = False from eq_false (by decide), show (nI (sgn 2) = 43) = False from eq_false (by decide), show (nI (sgn 2) = 45) = False from eq_false (by decide), show (nI (sgn 2) = 60) = False from eq_false (by decide), show (nI (sgn 2) = 61) = True from eq_true (by decide), ↓reduceIte, wrk]; by_cases h : x = y <;> simp [h, ib]
  | 3, _ => simp only [show (nI (sgn 3) = 42) = False from eq_false (by decide), show (nI (sgn 3) = 43) = True from eq_true (by decide), ↓reduceIte, wrk]
  | 4, _ => simp only [show (nI (sgn 4) = 42) = False from eq_false (by decide), show (nI (sgn 4) = 43) = False from eq_false (by decide), show (nI (sgn 4) = 45) = True from eq_true (by decide), ↓reduceIte, wrk]
  | 5, _ => simp only [show (nI (sgn 5) = 42) = True from eq_true (by decide), ↓reduceIte, wrk]
  | 6, _ => simp only [show (nI (sgn 6) = 42) = False from eq_false (by decide), show (nI (sgn 6) = 43) = False from eq_false (by decide), show (nI (sgn 6) = 45) = False from eq_false (by decide), show (nI (sgn 6) = 60) = False from eq_false (by decide), show (nI (sgn 6) = 61) = False from eq_false (by decide), show (nI (sgn 6) = 62) = False from eq_false (by decide), ↓reduceIte, wrk]; by_cases h : y = 0 <;> simp [h]
theorem sgn_lt (a : Nat) : 42 ≤ sgn a ∧ sgn a < 63 := by
  unfold sgn; split <;> decide
theorem r_loop (hw : L.length ≤ 40) : ∀ (rest : List Nat) (k : Nat) (s0 s : xS) (st : List Int32), L.drop k = rest → k ≤ L.length → wfL rest st.length → st.length ≤ 40 → cR s i L → (∀ j, j < 7 → s.1 26 0 j = th j) → s.1 5 i 3 = nI st.length → stk (s.1 25 i) st → fr pK s0 s →
    ∃ u, Rule_reckon_L1 (d + 1) i (nI k) s = some (some (vI ((evL th st rest).headD 0)), u) ∧ fr pK s0 u := by
  intro rest
  induction rest with
  | nil =>
    intro k s0 s st e hkL hwf hst hc _ h3 hs hf
    have hk : L.length ≤ k := by
      rcases Nat.lt_or_ge k L.length with q | q
      · rw [List.drop_eq_getElem_cons q] at e; cases e
      · exact q
    have hwf : st.length = 1 := hwf
    match st, hwf, hs with
    | [z], _, hs =>
      refine ⟨wI s 5 i 3 (nI 0), ?_, fr_wI hf (Or.inr ⟨rfl, rfl⟩)⟩
      rw [Rule_reckon_L1_eq, hc.1, if_neg (of_eq_false (lt_f hk (by omega))), r_release (t := 0) h3 (by omega), bI_s]
      have : s.1 25 i 0 = z := hs.1
      rw [this]; rfl
  | cons c r ih =>
    intro k s0 s st e hkL hwf hst hc hth h3 hs hf
    obtain ⟨hk, hc0, e'⟩ := drop_c (z := 0) e
    obtain ⟨hok, hn, hd, hw'⟩ := hwf
    have hcode : s.1 24 i k = nI (ccd c) := by rw [hc.2.2 k hk, hc0]
    rw [Rule_reckon_L1_eq, hc.1, if_pos (of_eq_true (lt_t hk (by omega))), in_t (show k < 40 by omega) (by omega), if_pos rfl, n_cl (by omega), hcode]
    have key : ∀ (s' : xS) (st' : List Int32), evC th st c = st' → st'.length = dep st.length c → s'.1 5 i 3 = nI st'.length → stk (s'.1 25 i) st' → fr pK s s' → ∃ u, Rule_reckon_L1 (d + 1) i (nI k + 1) s' = some (some (vI ((evL th st (c :: r)).headD 0)), u) ∧ fr pK s0 u := by
      intro s' st' h1 h2 h3' h4 h5
      obtain ⟨u, e1, e2⟩ := ih (k + 1) s0 s' st' e' hk (by rw [h2]; exact hw') (by rw [h2]; exact hd) (cR_fr hc h5 (by unfold pK; omega) (by intro k; unfold pK; omega)) (fun j hj => by rw [(h5 26 0 j (by unfold pK; omega)).1]; exact hth j hj) h3' h4 (fr_t hf h5)
      refine ⟨u, ?_, e2⟩
      rw [nI_1, e1]
      show _ = some (some (vI ((evL th (evC th st c) r).headD 0)), u)
      rw [h1]
    have hpush : ∀ z : Int32, st.length < 40 → (let s' := wI (wI s 25 i st.length z) 5 i 3 (nI (st.length + 1)); s'.1 5 i 3 = nI (z :: st).length ∧ stk (s'.1 25 i) (z :: st) ∧ fr pK s s') := by
      intro z hz
      refine ⟨by rw [wI_s1]; rfl, ⟨by rw [wI_nc (by omega), wI_s1], stk_k hs (fun j hj => by rw [wI_nc (by omega), wI_nk (by omega)])⟩, fr_wI (fr_wI (fr_r _ _) (Or.inl rfl)) (Or.inr ⟨rfl, rfl⟩)⟩
    rcases hok with h | ⟨h, h'⟩ | ⟨h, h'⟩ | h
    · have e1 : ccd c = c := by unfold ccd; rw [if_pos (by omega)]
      have e2 : dep st.length c = st.length + 1 := by unfold dep; rw [if_pos (by omega)]
      have hz : st.length < 40 := by omega
      rw [e1]
      simp (disch := omega) only [show (1000 : Int32) = nI 1000 from rfl, lt_t, ↓reduceIte]
      rw [r_hold h3 hz, bV_s]
      obtain ⟨p1, p2, p3⟩ := hpush (nI c) hz
      exact key _ _ (by unfold evC; rw [if_pos h]) (by rw [e2]; rfl) p1 p2 p3
    · have e1 : ccd c = c := by unfold ccd; rw [if_pos (by omega)]
      have e2 : dep st.length c = st.length + 1 := by unfold dep; rw [if_pos (by omega)]
      have hz : st.length < 40 := by omega
      rw [e1]
      simp (disch := omega) only [show (1000 : Int32) = nI 1000 from rfl, show (2000 : Int32) = nI 2000 from rfl, n_ofNat, n_sub, in_t, n_cl, lt_t, lt_f, ↓reduceIte]
      rw [r_hold h3 hz, bV_s, hth _ (by omega)]
      obtain ⟨p1, p2, p3⟩ := hpush (th (c - 1000)) hz
      exact key _ _ (by unfold evC; rw [if_neg (by omega), if_pos (by omega)]) (by rw [e2]; rfl) p1 p2 p3
    · have g := sgn_lt (c - 2000)
      have e1 : ccd c = 2000 + sgn (c - 2000) := by unfold ccd; rw [if_neg (by omega), if_neg (by omega)]
      have e2 : dep st.length c = st.length - 1 := by unfold dep; rw [if_neg (by omega), if_neg (by omega)]
      have e3 : nee c = 2 := by unfold nee; rw [if_neg (by omega), if_neg (by omega)]
      rw [e1]
      simp (disch := omega) only [show (1000 : Int32) = nI 1000 from rfl, show (2000 : Int32) = nI 2000 from rfl, show (2256 : Int32) = nI 2256 from rfl, eq_f, n_sub, lt_t, lt_f, ↓reduceIte, Nat.add_sub_cancel_left]
      rw [e3] at hn
      match st, hn, hs, h3, hst, e2, key with
      | b :: a :: q, _, hs, h3, hst, e2, key =>
        have hl : q.length + 1 < 40 := by simp only [List.length_cons] at hst; omega
        have h3' : s.1 5 i 3 = nI ((q.length + 1) + 1) := h3
        rw [r_release h3' hl, bI_s, r_release (t := q.length) (wI_s1 _ _ _ _ _) (by omega), bI_s, wI_nc (by omega), r_join (by omega), bI_s, r_hold (wI_s1 _ _ _ _ _) (by omega), bV_s]
        have hb : s.1 25 i (q.length + 1) = b := hs.1
        have ha : s.1 25 i q.length = a := hs.2.1
        rw [ha, hb]
        refine key _ (wrk (c - 2000) a b :: q) (by unfold evC; rw [if_neg (by omega), if_neg (by omega), if_neg (by omega)]) (by rw [e2]; rfl) (by rw [wI_s1]; rfl) ⟨by rw [wI_nc (by omega), wI_s1], stk_k hs.2.2 (fun j hj => ?_)⟩ ?_
        · rw [wI_nc (by omega), wI_nk (by omega), wI_nc (by omega), wI_nc (by omega)]
        · exact fr_wI (fr_wI (fr_wI (fr_wI (fr_r _ _) (Or.inr ⟨rfl, rfl⟩)) (Or.inr ⟨rfl, rfl⟩)) (Or.inl rfl)) (Or.inr ⟨rfl, rfl⟩)
    · subst h
      have e1 : ccd 3000 = 2256 := by decide
      have e2 : dep st.length 3000 = st.length := by unfold dep; rw [if_neg (by omega), if_pos rfl]
      have e3 : nee 3000 = 1 := by decide
      rw [e1]
      simp (disch := omega) only [show (1000 : Int32) = nI 1000 from rfl, show (2000 : Int32) = nI 2000 from rfl, show (2256 : Int32) = nI 2256 from rfl, eq_t, lt_f, ↓reduceIte]
      rw [e3] at hn
      match st, hn, hs, h3, hst, e2, key with
      | a :: q, _, hs, h3, hst, e2, key =>
        have hl : q.length < 40 := by simp only [List.length_cons] at hst; omega
        have h3' : s.1 5 i 3 = nI (q.length + 1) := h3
        have ha : s.1 25 i q.length = a := hs.1
        rw [r_release h3' hl, bI_s, r_hold (wI_s1 _ _ _ _ _) hl, bV_s, ha]
        refine key _ ((-a) :: q) (by unfold evC; rw [if_neg (by omega), if_neg (by omega), if_pos rfl]) (by rw [e2]; rfl) (by rw [wI_s1]; rfl) ⟨by rw [wI_nc (by omega), wI_s1], stk_k hs.2 (fun j hj => ?_)⟩ ?_
        · rw [wI_nc (by omega), wI_nk (by omega), wI_nc (by omega)]
        · exact fr_wI (fr_wI (fr_wI (fr_r _ _) (Or.inr ⟨rfl, rfl⟩)) (Or.inl rfl)) (Or.inr ⟨rfl, rfl⟩)
theorem r_reckon (hc : cR s i L) (hw : wfL L 0) (hth : ∀ j, j < 7 → s.1 26 0 j = th j) : ∃ u, ev (d + 2) f_Rule_reckon [vR 5 i, vR 26 0] s = some (some (vI (rvl th L)), u) ∧ fr pK s u := by
  rw [Rule_reckon_eq]
  exact r_loop hc.2.1 L 0 s _ [] rfl (Nat.zero_le _) hw (Nat.zero_le _) (cR_fr hc (fr_wI (p := pK) (fr_r _ s) (Or.inr ⟨rfl, rfl⟩)) (by unfold pK; omega) (by intro k; unfold pK; omega)) (fun j hj => by rw [wI_nc (by omega)]; exact hth j hj) (wI_s1 _ _ _ _ _) trivial (fr_wI (fr_r _ s) (Or.inr ⟨rfl, rfl⟩))
end EYE

/-! rule: a rule's text, by the law. -/
section RULEM
variable {d : Nat} {E p q b k r : Nat} {sg : Nat → Nat} {s t a : xS} {o : Option (List Nat)} {cs ds : List Nat}
theorem gD_l {l r : List Nat} {j : Nat} (h : j < l.length) : (l ++ r).getD j 0 = l.getD j 0 := by
  rw [List.getD_eq_getElem?_getD, List.getD_eq_getElem?_getD, List.getElem?_append_left h]
theorem gD_r {l r : List Nat} {j : Nat} : (l ++ r).getD (l.length + j) 0 = r.getD j 0 := by
  rw [List.getD_eq_getElem?_getD, List.getD_eq_getElem?_getD, List.getElem?_append_right (by omega), Nat.add_sub_cancel_left]
/-- a number of at most m digits -/
def nbL (sg : Nat → Nat) (E : Nat) : Nat → Nat → Nat → Nat × Nat
  | 0, p, a => (p, a)
  | m + 1, p, a => match dgt sg E p 0 9 with
    | none => (p, a)
    | some v => nbL sg E m (p + 1) (10 * a + v)
theorem nbL_b : ∀ (m p a : Nat), p ≤ E → p ≤ (nbL sg E m p a).1 ∧ (nbL sg E m p a).1 ≤ E ∧ (nbL sg E m p a).2 < 10 ^ m * (a + 1) := by
  intro m
  induction m with
  | zero => intro p a h; exact ⟨Nat.le_refl _, h, show a < 1 * (a + 1) by omega⟩
  | succ m ih =>
    intro p a h
    unfold nbL
    cases hd : dgt sg E p 0 9 with
    | none =>
      refine ⟨Nat.le_refl _, h, ?_⟩
      have h1 : 1 ≤ 10 ^ (m + 1) := Nat.pow_pos (by omega)
      have h2 := Nat.mul_le_mul_right (a + 1) h1
      show a < 10 ^ (m + 1) * (a + 1)
      omega
    | some v =>
      have hv := dgt_v hd
      obtain ⟨i1, i2, i3⟩ := ih (p + 1) (10 * a + v) (by omega)
      refine ⟨by show p ≤ (nbL sg E m (p + 1) (10 * a + v)).1; omega, i2, ?_⟩
      show (nbL sg E m (p + 1) (10 * a + v)).2 < 10 ^ (m + 1) * (a + 1)
      have h2 : 10 ^ m * (10 * a + v + 1) ≤ 10 ^ m * (10 * (a + 1)) := Nat.mul_le_mul_left _ (by omega)
      have h3 : 10 ^ (m + 1) * (a + 1) = 10 ^ m * (10 * (a + 1)) := by rw [Nat.pow_succ, Nat.mul_assoc]
      omega
theorem dgt_s {v : Nat} (h : dgt sg E p 0 9 = some v) : sg p = 48 + v ∧ p < E ∧ v ≤ 9 := by
  unfold dgt at h
  by_cases z : p < E ∧ 48 + 0 ≤ sg p ∧ sg p ≤ 48 + 9
  · rw [if_pos z] at h
    have := Option.some.inj h
    omega
  · rw [if_neg z] at h; cases h
theorem m_numL : ∀ (m j p a : Nat) (s : xS), j + m = 3 → rX s sg E p → ∃ t, Ref_number_L1 (d + 2) 3 (nI a) (nI j) s = some (some (vI (nI (nbL sg E m p a).2)), t) ∧ rX t sg E (nbL sg E m p a).1 ∧ fr (fun c _ k => c = 13 ∧ k = 12) s t := by
  intro m
  induction m with
  | zero =>
    intro j p a s hj h
    refine ⟨s, ?_, h, fr_r _ _⟩
    rw [Ref_number_L1_eq, show j = 3 by omega, if_neg (by decide)]; rfl
  | succ m ih =>
    intro j p a s hj h
    rw [Ref_number_L1_eq, if_pos (show nI j < 3 from of_eq_true (lt_t (b := 3) (by omega) (by omega))), m_isDigit h, bI_s]
    unfold nbL
    cases hd : dgt sg E p 0 9 with
    | none => exact ⟨s, by rw [if_pos (by rfl)], h, fr_r _ _⟩
    | some v =>
      obtain ⟨v1, v2, v3⟩ := dgt_s hd
      have h80 := h.2.2.2.1
      have f1 : fr (fun c _ k => c = 13 ∧ k = 12) s (wI s 13 0 12 (nI (p + 1))) := fr_wI (fr_r _ _) ⟨rfl, rfl⟩
      obtain ⟨t, t1, t2, t3⟩ := ih (j + 1) (p + 1) (10 * a + v) (wI s 13 0 12 (nI (p + 1))) (by omega) (rX_st h v2)
      refine ⟨t, ?_, t2, fr_t f1 t3⟩
      rw [if_neg (by intro z; cases z), h.1, in_t (show p < 80 by omega) (by omega), if_pos rfl, n_cl (by omega), h.2.2.1 p v2, v1, nl_10, pk_mul, nI_add, nl_48, n_sub (by omega), nI_1, nI_1, show 10 * a + (48 + v) - 48 = 10 * a + v by omega, t1]
theorem m_number3 {v : Nat} (h : rX s sg E p) (hd : dgt sg E p 0 9 = some v) : ∃ t, ev (d + 3) f_Ref_number [vR 13 0, vI 3] s = some (some (vI (nI (nbL sg E 3 p 0).2)), t) ∧ rX t sg E (nbL sg E 3 p 0).1 ∧ fr (fun c _ k => c = 13 ∧ k = 12) s t := by
  obtain ⟨t, t1, t2, t3⟩ := m_numL (d := d) 3 0 p 0 s (by omega) h
  refine ⟨t, ?_, t2, t3⟩
  rw [Ref_number_eq, m_isDigit h, bI_s, hd, if_neg (by intro z; cases z)]
  exact t1
theorem m_codes {x : Int32} (h : s.1 13 0 21 = nI k) (hk : k < 80) : ev (d + 1) f_Ref_codes [vR 13 0, vI x] s = some (none, wI (wI s 47 1 k x) 13 0 21 (nI (k + 1))) := by
  rw [Ref_codes_eq, h, in_t hk (by omega), if_pos rfl, n_cl (by omega), nI_1]
def pRu (k0 : Nat) (c i k : Nat) : Prop := (c = 47 ∧ i = 1 ∧ k0 ≤ k) ∨ (c = 13 ∧ (k = 12 ∨ k = 14 ∨ k = 21))
def LO (sg : Nat → Nat) (E : Nat) (s t : xS) (k b p q : Nat) (o : Option (List Nat)) : Prop := rX t sg E q ∧ (∃ k', t.1 13 0 21 = nI k' ∧ (k ≤ k' ∧ k' ≤ k + (q - p)) ∧ ∀ cs, o = some cs → k' = k + cs.length ∧ ∀ j, j < cs.length → t.1 47 1 (k + j) = nI (cs.getD j 0)) ∧ (o ≠ none → t.1 13 0 14 = nI b) ∧ fr (pRu k) s t
def LT (sg : Nat → Nat) (E p b q : Nat) (o : Option (List Nat)) : Prop := ∀ (D k : Nat) (s : xS), (E - p) + 5 * (4 - b) + 10 ≤ D → rX s sg E p → s.1 13 0 14 = nI b → s.1 13 0 21 = nI k → k ≤ p → ∃ t, ev D f_Ref_readsThing [vR 13 0] s = some (some (vI (ib o.isSome)), t) ∧ LO sg E s t k b p q o
def LR (sg : Nat → Nat) (E r p b q : Nat) (o : Option (List Nat)) : Prop := ∀ (D k : Nat) (s : xS), (E - p) + 5 * (4 - b) + 10 + (4 - r) ≤ D → rX s sg E p → s.1 13 0 14 = nI b → s.1 13 0 21 = nI k → k ≤ p → ∃ t, ev D f_Ref_readsRank [vR 13 0, vI (nI r)] s = some (some (vI (ib o.isSome)), t) ∧ LO sg E s t k b p q o
def LL (sg : Nat → Nat) (E r p b q : Nat) (o : Option (List Nat)) : Prop := ∀ (D k : Nat) (s : xS), (E - p) + 5 * (4 - b) + 10 + (3 - r) ≤ D → rX s sg E p → s.1 13 0 14 = nI b → s.1 13 0 21 = nI k → k ≤ p → ∃ t, Ref_readsRank_L1 D (nI r) 1 s = some (some (vI (ib o.isSome)), t) ∧ LO sg E s t k b p q o
theorem LO_tr {o : Option (List Nat)} {q1 : Nat} (hp : p ≤ q1) (hq : q1 ≤ q) (h1 : LO sg E s a k b p q1 (some cs)) (h2 : LO sg E a t (k + cs.length) b q1 q o) : LO sg E s t k b p q (o.map (cs ++ ·)) := by
  obtain ⟨_, ⟨k1, e1, e2, e3⟩, _, e5⟩ := h1
  obtain ⟨g0, ⟨k2, g1, g2, g3⟩, g4, g5⟩ := h2
  obtain ⟨z1, z2⟩ := e3 cs rfl
  refine ⟨g0, ⟨k2, g1, by omega, fun es hes => ?_⟩, fun z => g4 (fun y => z (by rw [y]; rfl)), fr_t e5 (fr_m g5 (fun c i k h => by unfold pRu at h ⊢; omega))⟩
  cases o with
  | none => cases hes
  | some ds =>
    have hes : some (cs ++ ds) = some es := hes
    rw [← Option.some.inj hes]
    obtain ⟨w1, w2⟩ := g3 ds rfl
    refine ⟨by rw [List.length_append]; omega, fun j hj => ?_⟩
    rw [List.length_append] at hj
    by_cases y : j < cs.length
    · rw [(g5 47 1 (k + j) (by unfold pRu; omega)).1, z2 j y, gD_l y]
    · obtain ⟨i, rfl⟩ : ∃ i, j = cs.length + i := ⟨j - cs.length, by omega⟩
      rw [gD_r, ← w2 i (by omega), Nat.add_assoc]
theorem LO_code {c : Nat} (h : LO sg E s a k b p q (some cs)) (hq : cs.length + 1 ≤ q - p) (ht : t = wI (wI a 47 1 (k + cs.length) (nI c)) 13 0 21 (nI (k + cs.length + 1))) : LO sg E s t k b p q (some (cs ++ [c])) := by
  obtain ⟨e0, ⟨k1, e1, e2, e3⟩, e4, e5⟩ := h
  obtain ⟨z1, z2⟩ := e3 cs rfl
  have f1 : fr (pRu k) a t := by
    rw [ht]
    exact fr_wI (fr_wI (fr_r _ _) (by unfold pRu; omega)) (by unfold pRu; omega)
  have f2 : fr (fun c i k => c = 47 ∨ (c = 13 ∧ k = 21)) a t := by
    rw [ht]
    exact fr_wI (fr_wI (fr_r _ _) (by omega)) (by omega)
  refine ⟨rX_fr e0 f2 (by omega) (by omega) (by omega), ⟨k + cs.length + 1, by rw [ht, wI_s1], by omega, fun es hes => ?_⟩, fun _ => by rw [(f2 13 0 14 (by omega)).1]; exact e4 (by intro z; cases z), fr_t e5 f1⟩
  rw [← Option.some.inj hes]
  refine ⟨by rw [List.length_append]; rfl, fun j hj => ?_⟩
  rw [List.length_append] at hj
  have hj : j < cs.length + 1 := hj
  rw [ht, wI_nc (by omega)]
  by_cases y : j < cs.length
  · rw [wI_nk (by omega), z2 j y, gD_l y]
  · rw [show j = cs.length + 0 by omega, gD_r, Nat.add_zero, wI_s1]; rfl
theorem x_sub {p' : Nat} (hp : p ≤ p') (h : LO sg E s t k b p' q o) : LO sg E s t k b p q o := by
  obtain ⟨e0, ⟨k1, e1, e2, e3⟩, e4, e5⟩ := h
  exact ⟨e0, ⟨k1, e1, by omega, e3⟩, e4, e5⟩
theorem x_fr (f : fr (pRu k) s a) (h : LO sg E a t k b p q o) : LO sg E s t k b p q o := by
  obtain ⟨e0, e1, e4, e5⟩ := h
  exact ⟨e0, e1, e4, fr_t f e5⟩
theorem f12 (f : fr (fun c _ k => c = 13 ∧ k = 12) s a) : fr (pRu k) s a := fr_m f (fun c i k h => by unfold pRu; omega)
theorem law_neg (hE : E ≤ 40) (hp : p < E) (h45 : sg p = 45) (hq : p + 1 ≤ q) (hqE : q ≤ E) (h : LT sg E (p + 1) b q o) (ho : ∀ cs, o = some cs → cs.length ≤ q - (p + 1)) : LT sg E p b q (o.map (· ++ [3000])) := by
  intro D k s hD hX hb hk hkp
  obtain ⟨D', rfl⟩ : ∃ D', D = D' + 3 := ⟨D - 3, by omega⟩
  obtain ⟨a, t1, t2, t3⟩ := m_takes (d := D') (x := 45) (by omega) hX
  rw [decide_eq_true ⟨hp, h45⟩] at t1
  rw [if_pos ⟨hp, h45⟩] at t2
  have t1' : ev (D' + 2) f_Ref_takes [vR 13 0, vI 45] s = some (some (vI (ib true)), a) := t1
  obtain ⟨c, e1, e2⟩ := h (D' + 2) k a (by omega) t2 (by rw [(t3 13 0 14 (by omega)).1]; exact hb) (by rw [(t3 13 0 21 (by omega)).1]; exact hk) (by omega)
  have e2 := x_fr (f12 t3) e2
  obtain ⟨g0, ⟨k1, g1, g2, g3⟩, g4, g5⟩ := e2
  refine ⟨wI (wI c 47 1 k1 3000) 13 0 21 (nI (k1 + 1)), ?_, ?_⟩
  · rw [Ref_readsThing_eq, t1', bI_s, if_neg (by decide), e1, bI_s, m_codes g1 (by omega), bV_s, nb_ib, Option.isSome_map]
  · cases o with
    | none =>
      have f2 : fr (fun c i k => c = 47 ∨ (c = 13 ∧ k = 21)) c (wI (wI c 47 1 k1 3000) 13 0 21 (nI (k1 + 1))) := fr_wI (fr_wI (fr_r _ _) (by omega)) (by omega)
      exact ⟨rX_fr g0 f2 (by omega) (by omega) (by omega), ⟨k1 + 1, wI_s1 _ _ _ _ _, by omega, fun cs z => (by cases z)⟩, fun z => absurd rfl z, fr_wI (fr_wI g5 (by unfold pRu; omega)) (by unfold pRu; omega)⟩
    | some cs =>
      obtain ⟨z1, z2⟩ := g3 cs rfl
      have hl := ho cs rfl
      exact LO_code (c := 3000) (x_sub (show p ≤ p + 1 by omega) ⟨g0, ⟨k1, g1, g2, g3⟩, g4, g5⟩) (by omega) (by rw [z1]; rfl)
/-- the thing is none of '-' -/
theorem m_th0 (D : Nat) (hX : rX s sg E p) (h45 : ¬ (p < E ∧ sg p = 45)) : ∃ a, fr (fun c _ k => c = 13 ∧ k = 12) s a ∧ rX a sg E p ∧ ev (D + 3) f_Ref_readsThing [vR 13 0] s = if ib (dgt sg E p 0 9).isSome = 0 then (bI (ev (D + 2) f_Ref_takesOf [vR 13 0, vR 900 1] a) fun r6 s5 => if (r6 : Int32) < 0 then (if (s5.1 13 0 14 : Int32) = 4 then some (some (vI (x_nb 0)), s5) else bI (ev (D + 2) f_Ref_takes [vR 13 0, vI 40] s5) fun r8 s7 => if (r8 : Int32) = 0 then some (some (vI (x_nb 0)), s7) else bI (ev (D + 2) f_Ref_readsRank [vR 13 0, vI 0] (wI s7 13 0 14 ((s7.1 13 0 14) + 1))) fun r10 s9 => if (r10 : Int32) = 0 then some (some (vI (x_nb 0)), s9) else bI (ev (D + 2) f_Ref_takes [vR 13 0, vI 41] s9) fun r12 s11 => if (r12 : Int32) = 0 then some (some (vI (x_nb 0)), s11) else some (some (vI (x_nb 1)), wI s11 13 0 14 ((s11.1 13 0 14) - 1))) else bV (ev (D + 2) f_Ref_codes [vR 13 0, vI (1000 + r6)] s5) fun s13 => some (some (vI (x_nb 1)), s13)) else bI (ev (D + 2) f_Ref_number [vR 13 0, vI 3] a) fun r15 s14 => bV (ev (D + 2) f_Ref_codes [vR 13 0, vI r15] s14) fun s16 => some (some (vI (x_nb 1)), s16) := by
  obtain ⟨a, t1, t2, t3⟩ := m_takes (d := D) (x := 45) (by omega) hX
  rw [decide_eq_false h45] at t1
  rw [if_neg h45] at t2
  have t1' : ev (D + 2) f_Ref_takes [vR 13 0, vI 45] s = some (some (vI (ib false)), a) := t1
  refine ⟨a, t3, t2, ?_⟩
  rw [Ref_readsThing_eq, t1', bI_s, if_pos (by rfl), m_isDigit t2, bI_s]
theorem LO_0 (hX : rX t sg E q) (hpq : p ≤ q) (f : fr (fun c _ k => c = 13 ∧ k = 12) s t) (h14 : s.1 13 0 14 = nI b) (h21 : s.1 13 0 21 = nI k) : LO sg E s t k b p q (some []) :=
  ⟨hX, ⟨k, by rw [(f 13 0 21 (by omega)).1]; exact h21, by omega, fun cs z => by
    rw [← Option.some.inj z]
    exact ⟨rfl, fun j hj => absurd hj (Nat.not_lt_zero j)⟩⟩, fun _ => by rw [(f 13 0 14 (by omega)).1]; exact h14, f12 f⟩
theorem LO_n (hX : rX t sg E q) (hpq : p ≤ q) (f : fr (fun c _ k => c = 13 ∧ k = 12) s t) (h21 : s.1 13 0 21 = nI k) : LO sg E s t k b p q none :=
  ⟨hX, ⟨k, by rw [(f 13 0 21 (by omega)).1]; exact h21, by omega, fun cs z => (by cases z)⟩, fun z => absurd rfl z, f12 f⟩
theorem law_num {v : Nat} (hE : E ≤ 40) (hd : dgt sg E p 0 9 = some v) (hq : p < (nbL sg E 3 p 0).1) : LT sg E p b (nbL sg E 3 p 0).1 (some [(nbL sg E 3 p 0).2]) := by
  intro D k s hD hX hb hk hkp
  obtain ⟨D', rfl⟩ : ∃ D', D = D' + 4 := ⟨D - 4, by omega⟩
  have hv := dgt_s hd
  obtain ⟨a, f1, x1, e1⟩ := m_th0 (D' + 1) hX (fun z => by omega)
  obtain ⟨c, n1, n2, n3⟩ := m_number3 (d := D') x1 hd
  have fc := fr_t f1 n3
  have c21 : c.1 13 0 21 = nI k := by rw [(fc 13 0 21 (by omega)).1]; exact hk
  refine ⟨wI (wI c 47 1 k (nI (nbL sg E 3 p 0).2)) 13 0 21 (nI (k + 1)), ?_, ?_⟩
  · rw [e1, hd, if_neg (by intro z; cases z), n1, bI_s, m_codes c21 (by omega), bV_s, nb_1]; rfl
  · exact LO_code (cs := []) (LO_0 n2 (by omega) fc hb hk) (show 0 + 1 ≤ _ by omega) rfl
theorem law_let {i : Nat} (hE : E ≤ 40) (hd : dgt sg E p 0 9 = none) (hf : fxS sg E p 1 = some i) : LT sg E p b (p + 1) (some [1000 + i]) := by
  intro D k s hD hX hb hk hkp
  obtain ⟨D', rfl⟩ : ∃ D', D = D' + 10 := ⟨D - 10, by omega⟩
  obtain ⟨hp, hi, hc⟩ := fx_sg hf
  have hi : i < 7 := hi
  have h45 : ¬ (p < E ∧ sg p = 45) := fun z => by
    rw [z.2] at hc
    rcases (by omega : i = 0 ∨ i = 1 ∨ i = 2 ∨ i = 3 ∨ i = 4 ∨ i = 5 ∨ i = 6) with rfl | rfl | rfl | rfl | rfl | rfl | rfl <;> exact absurd hc (by decide)
  obtain ⟨a, f1, x1, e1⟩ := m_th0 (D' + 7) hX h45
  have t1 := m_takesOf (d := D') (j := 1) (by omega) x1
  rw [hf, oI_s, if_neg (by intro z; cases z)] at t1
  have fc : fr (fun c _ k => c = 13 ∧ k = 12) s (wI a 13 0 12 (nI (p + 1))) := fr_wI f1 ⟨rfl, rfl⟩
  have x2 := rX_st x1 hp
  obtain ⟨c, ec⟩ : ∃ c, wI a 13 0 12 (nI (p + 1)) = c := ⟨_, rfl⟩
  rw [ec] at t1 fc x2
  have c21 : c.1 13 0 21 = nI k := by rw [(fc 13 0 21 (by omega)).1]; exact hk
  refine ⟨wI (wI c 47 1 k (nI (1000 + i))) 13 0 21 (nI (k + 1)), ?_, ?_⟩
  · rw [e1, hd, if_pos (by rfl), t1, bI_s, if_neg (nI_pos (by omega)), show (1000 : Int32) = nI 1000 from rfl, nI_add, m_codes c21 (by omega), bV_s, nb_1]; rfl
  · exact LO_code (cs := []) (LO_0 x2 (by omega) fc hb hk) (show 0 + 1 ≤ _ by omega) rfl
theorem law_bad (h45 : ¬ (p < E ∧ sg p = 45)) (hd : dgt sg E p 0 9 = none) (hf : fxS sg E p 1 = none) (hb4 : b ≤ 4) (h40 : b = 4 ∨ ¬ (p < E ∧ sg p = 40)) : LT sg E p b p none := by
  intro D k s hD hX hb hk hkp
  obtain ⟨D', rfl⟩ : ∃ D', D = D' + 10 := ⟨D - 10, by omega⟩
  obtain ⟨a, f1, x1, e1⟩ := m_th0 (D' + 7) hX h45
  have t1 := m_takesOf (d := D') (j := 1) (by omega) x1
  rw [hf, oI_n, if_pos rfl] at t1
  have a14 : a.1 13 0 14 = nI b := by rw [(f1 13 0 14 (by omega)).1]; exact hb
  by_cases z : b = 4
  · refine ⟨a, ?_, LO_n x1 (Nat.le_refl _) f1 hk⟩
    rw [e1, hd, if_pos (by rfl), t1, bI_s, if_pos (by decide), a14, if_pos (show nI b = 4 by rw [z]; rfl), nb_0]; rfl
  · have h40' : ¬ (p < E ∧ sg p = 40) := h40.resolve_left z
    obtain ⟨c, t2, t3, t4⟩ := m_takes (d := D' + 7) (x := 40) (by omega) x1
    rw [decide_eq_false h40'] at t2
    rw [if_neg h40'] at t3
    have t2' : ev (D' + 7 + 2) f_Ref_takes [vR 13 0, vI 40] a = some (some (vI (ib false)), c) := t2
    refine ⟨c, ?_, LO_n t3 (Nat.le_refl _) (fr_t f1 t4) hk⟩
    rw [e1, hd, if_pos (by rfl), t1, bI_s, if_pos (by decide), a14, if_neg (show ¬ nI b = 4 from of_eq_false (eq_f (b := 4) z (by omega) (by omega))), t2', bI_s, if_pos (by rfl), nb_0]; rfl
theorem law_par (hE : E ≤ 40) (hp : p < E) (h40 : sg p = 40) (hb4 : b < 4) (hq : p + 1 ≤ q) (h : LR sg E 0 (p + 1) (b + 1) q o) : LT sg E p b (if o ≠ none ∧ q < E ∧ sg q = 41 then q + 1 else q) (if q < E ∧ sg q = 41 then o else none) := by
  intro D k s hD hX hb hk hkp
  obtain ⟨D', rfl⟩ : ∃ D', D = D' + 10 := ⟨D - 10, by omega⟩
  have hd : dgt sg E p 0 9 = none := if_neg (fun z => by omega)
  have hf : fxS sg E p 1 = none := by
    cases hx : fxS sg E p 1 with
    | none => rfl
    | some i =>
      obtain ⟨_, hi, hc⟩ := fx_sg hx
      have hi : i < 7 := hi
      rw [h40] at hc
      exfalso
      rcases (by omega : i = 0 ∨ i = 1 ∨ i = 2 ∨ i = 3 ∨ i = 4 ∨ i = 5 ∨ i = 6) with rfl | rfl | rfl | rfl | rfl | rfl | rfl <;> exact absurd hc (by decide)
  obtain ⟨a, f1, x1, e1⟩ := m_th0 (D' + 7) hX (fun z => by omega)
  have t1 := m_takesOf (d := D') (j := 1) (by omega) x1
  rw [hf, oI_n, if_pos rfl] at t1
  have a14 : a.1 13 0 14 = nI b := by rw [(f1 13 0 14 (by omega)).1]; exact hb
  obtain ⟨c, t2, t3, t4⟩ := m_takes (d := D' + 7) (x := 40) (by omega) x1
  rw [decide_eq_true ⟨hp, h40⟩] at t2
  rw [if_pos ⟨hp, h40⟩] at t3
  have t2' : ev (D' + 7 + 2) f_Ref_takes [vR 13 0, vI 40] a = some (some (vI (ib true)), c) := t2
  have fc := fr_t f1 t4
  have c14 : c.1 13 0 14 = nI b := by rw [(fc 13 0 14 (by omega)).1]; exact hb
  obtain ⟨g, eg⟩ : ∃ g, wI c 13 0 14 (nI (b + 1)) = g := ⟨_, rfl⟩
  have fg : fr (fun c _ k => c = 13 ∧ k = 14) c g := by rw [← eg]; exact fr_wI (fr_r _ _) ⟨rfl, rfl⟩
  have g14 : g.1 13 0 14 = nI (b + 1) := by rw [← eg, wI_s1]
  have g21 : g.1 13 0 21 = nI k := by rw [(fg 13 0 21 (by omega)).1, (fc 13 0 21 (by omega)).1]; exact hk
  obtain ⟨u, r1, r2⟩ := h (D' + 7 + 2) k g (by omega) (rX_fr t3 fg (by omega) (by omega) (by omega)) g14 g21 (by omega)
  have r1' : ev (D' + 7 + 2) f_Ref_readsRank [vR 13 0, vI 0] g = some (some (vI (ib o.isSome)), u) := r1
  have fsg : fr (pRu k) s g := fr_t (f12 fc) (fr_m fg (fun c i k h => by unfold pRu; omega))
  have e0 : ev (D' + 7 + 3) f_Ref_readsThing [vR 13 0] s = if ib o.isSome = 0 then some (some (vI (x_nb 0)), u) else bI (ev (D' + 7 + 2) f_Ref_takes [vR 13 0, vI 41] u) fun r12 s11 => if (r12 : Int32) = 0 then some (some (vI (x_nb 0)), s11) else some (some (vI (x_nb 1)), wI s11 13 0 14 ((s11.1 13 0 14) - 1)) := by
    rw [e1, hd, if_pos (by rfl), t1, bI_s, if_pos (by decide), a14, if_neg (show ¬ nI b = 4 from of_eq_false (eq_f (b := 4) (by omega) (by omega) (by omega))), t2', bI_s, if_neg (by decide), c14, nI_1, eg, r1', bI_s]
  cases o with
  | none =>
    rw [show (if q < E ∧ sg q = 41 then (none : Option (List Nat)) else none) = none by split <;> rfl, if_neg (fun z => z.1 rfl)]
    refine ⟨u, ?_, x_fr fsg (x_sub (show p ≤ p + 1 by omega) ⟨r2.1, r2.2.1, fun z => absurd rfl z, r2.2.2.2⟩)⟩
    rw [e0, if_pos (by rfl), nb_0]; rfl
  | some cs =>
    obtain ⟨w, w1, w2, w3⟩ := m_takes (d := D' + 7) (x := 41) (by omega) r2.1
    have w1' : ev (D' + 7 + 2) f_Ref_takes [vR 13 0, vI 41] u = some (some (vI (ib (decide (q < E ∧ sg q = 41)))), w) := w1
    have hu := x_fr fsg (x_sub (show p ≤ p + 1 by omega) r2)
    obtain ⟨h0, ⟨k1, h1, h2, h3⟩, h4, h5⟩ := r2
    have u14 := h4 (by intro z; cases z)
    have w14 : w.1 13 0 14 = nI (b + 1) := by rw [(w3 13 0 14 (by omega)).1]; exact u14
    by_cases z : q < E ∧ sg q = 41
    · rw [if_pos z, if_pos ⟨(by intro y; cases y), z⟩]
      rw [decide_eq_true z] at w1'
      rw [if_pos z] at w2
      have fz : fr (fun c _ k => c = 13 ∧ (k = 12 ∨ k = 14)) u (wI w 13 0 14 (nI b)) := fr_wI (fr_m w3 (by omega)) (by omega)
      refine ⟨wI w 13 0 14 (nI b), ?_, rX_fr (r := fun c _ k => c = 13 ∧ k = 14) w2 (fr_wI (fr_r _ _) ⟨rfl, rfl⟩) (by omega) (by omega) (by omega), ⟨k1, by rw [(fz 13 0 21 (by omega)).1]; exact h1, by omega, fun cs' y => ?_⟩, fun _ => wI_s1 _ _ _ _ _, fr_t fsg (fr_t h5 (fr_m fz (fun c i k h => by unfold pRu; omega)))⟩
      · rw [e0, if_neg (by intro y; cases y), w1', bI_s, if_neg (by decide), w14, n_sub1, nb_1]; rfl
      · obtain ⟨y1, y2⟩ := h3 cs' y
        exact ⟨y1, fun j hj => by rw [(fz 47 1 (k + j) (by omega)).1]; exact y2 j hj⟩
    · rw [if_neg z, if_neg (fun y => z y.2)]
      rw [decide_eq_false z] at w1'
      rw [if_neg z] at w2
      refine ⟨w, ?_, w2, ⟨k1, by rw [(w3 13 0 21 (by omega)).1]; exact h1, by omega, fun cs' y => (by cases y)⟩, fun y => absurd rfl y, fr_t fsg (fr_t h5 (f12 w3))⟩
      rw [e0, if_neg (by intro y; cases y), w1', bI_s, if_pos (by rfl), nb_0]; rfl
theorem law_rk3 (h : LT sg E p b q o) : LR sg E 3 p b q o := by
  intro D k s hD hX hb hk hkp
  obtain ⟨D', rfl⟩ : ∃ D', D = D' + 1 := ⟨D - 1, by omega⟩
  obtain ⟨t, e1, e2⟩ := h D' k s (by omega) hX hb hk hkp
  refine ⟨t, ?_, e2⟩
  rw [Ref_readsRank_eq, if_pos (by rfl), e1, bI_s, nb_ib]
theorem law_rk {q1 : Nat} {o1 : Option (List Nat)} (hr : r < 3) (hp : p ≤ q1) (hq : q1 ≤ q) (h1 : LR sg E (r + 1) p b q1 o1) (h2 : ∀ cs, o1 = some cs → cs.length ≤ q1 - p ∧ LL sg E r q1 b q o) (h3 : o1 = none → q = q1 ∧ o = none) : LR sg E r p b q (match o1 with | none => none | some cs => o.map (cs ++ ·)) := by
  intro D k s hD hX hb hk hkp
  obtain ⟨D', rfl⟩ : ∃ D', D = D' + 1 := ⟨D - 1, by omega⟩
  obtain ⟨t, e1, e2⟩ := h1 D' k s (by omega) hX hb hk hkp
  have hr3 : ¬ nI r = 3 := of_eq_false (eq_f (b := 3) (by omega) (by omega) (by omega))
  cases o1 with
  | none =>
    obtain ⟨rfl, rfl⟩ := h3 rfl
    refine ⟨t, ?_, e2⟩
    rw [Ref_readsRank_eq, if_neg hr3, nI_1, e1, bI_s, if_pos (by rfl), nb_0]; rfl
  | some cs =>
    obtain ⟨h4, h5⟩ := h2 cs rfl
    obtain ⟨g0, ⟨k1, g1, g2, g3⟩, g4, g5⟩ := e2
    obtain ⟨z1, z2⟩ := g3 cs rfl
    obtain ⟨u, v1, v2⟩ := h5 D' (k + cs.length) t (by omega) g0 (g4 (by intro z; cases z)) (by rw [g1, z1]) (by omega)
    refine ⟨u, ?_, LO_tr hp hq ⟨g0, ⟨k1, g1, g2, g3⟩, g4, g5⟩ v2⟩
    rw [Ref_readsRank_eq, if_neg hr3, nI_1, e1, bI_s, if_neg (by intro z; cases z), v1]
    show _ = some (some (vI (ib (o.map (cs ++ ·)).isSome)), u)
    rw [Option.isSome_map]
def offR (r : Nat) : Nat := if r = 0 then 0 else if r = 1 then 3 else 5
theorem m_lp0 (hr : r < 3) (D : Nat) (s : xS) : Ref_readsRank_L1 D (nI r) 1 s = bI (ev D f_Ref_takesOf [vR 13 0, vR 900 (2 + r)] s) fun r6 s5 => if (r6 : Int32) < 0 then some (some (vI (x_nb 1)), s5) else bI (ev D f_Ref_readsRank [vR 13 0, vI (nI (r + 1))] s5) fun r8 s7 => if (r8 : Int32) = 0 then some (some (vI (x_nb 0)), s7) else bV (ev D f_Ref_codes [vR 13 0, vI (2000 + r6 + nI (offR r))] s7) fun s9 => if 0 < r then Ref_readsRank_L1 D (nI r) 1 s9 else Ref_readsRank_L1 D (nI r) 0 s9 := by
  rw [Ref_readsRank_L1_eq, if_neg (by decide)]
  rcases (by omega : r = 0 ∨ r = 1 ∨ r = 2) with rfl | rfl | rfl
  · rw [if_pos (by rfl), Ref_readsRank_J2_eq]
    simp only [Ref_readsRank_J3_eq]
    rfl
  · rw [if_neg (by decide), if_pos (by rfl), Ref_readsRank_J2_eq]
    simp only [Ref_readsRank_J3_eq]
    rfl
  · rw [if_neg (by decide), if_neg (by decide), Ref_readsRank_J2_eq]
    simp only [Ref_readsRank_J3_eq]
    rfl
theorem law_lpend (hr : r < 3) (hf : fxS sg E p (2 + r) = none) : LL sg E r p b p (some []) := by
  intro D k s hD hX hb hk hkp
  obtain ⟨D', rfl⟩ : ∃ D', D = D' + 9 := ⟨D - 9, by omega⟩
  have t1 := m_takesOf (d := D') (j := 2 + r) (by omega) hX
  rw [hf, oI_n, if_pos rfl] at t1
  refine ⟨s, ?_, LO_0 hX (Nat.le_refl _) (fr_r _ _) hb hk⟩
  rw [m_lp0 hr, t1, bI_s, if_pos (by decide), nb_1]; rfl
theorem fx_o {i : Nat} (hr : r < 3) (hf : fxS sg E p (2 + r) = some i) : p < E ∧ i < 3 := by
  obtain ⟨hp, hi, _⟩ := fx_sg hf
  refine ⟨hp, ?_⟩
  rcases (by omega : r = 0 ∨ r = 1 ∨ r = 2) with rfl | rfl | rfl
  · exact hi
  · have hi : i < 2 := hi
    omega
  · have hi : i < 2 := hi
    omega
theorem law_lp {i q1 : Nat} {o1 : Option (List Nat)} (hE : E ≤ 40) (hr : r < 3) (hf : fxS sg E p (2 + r) = some i) (hp : p + 1 ≤ q1) (hq1 : q1 ≤ E) (hq : q1 ≤ q) (h1 : LR sg E (r + 1) (p + 1) b q1 o1) (h2 : ∀ cs, o1 = some cs → cs.length ≤ q1 - (p + 1) ∧ (0 < r → LL sg E r q1 b q o) ∧ (r = 0 → q = q1 ∧ o = some [])) (h3 : o1 = none → q = q1 ∧ o = none) : LL sg E r p b q (match o1 with | none => none | some cs => o.map (cs ++ [2000 + i + offR r] ++ ·)) := by
  intro D k s hD hX hb hk hkp
  obtain ⟨D', rfl⟩ : ∃ D', D = D' + 9 := ⟨D - 9, by omega⟩
  obtain ⟨hpE, hi⟩ := fx_o hr hf
  have t1 := m_takesOf (d := D') (j := 2 + r) (by omega) hX
  rw [hf, oI_s, if_neg (by intro z; cases z)] at t1
  have x1 := rX_st hX hpE
  obtain ⟨a, ea⟩ : ∃ a, wI s 13 0 12 (nI (p + 1)) = a := ⟨_, rfl⟩
  have fa : fr (fun c _ k => c = 13 ∧ k = 12) s a := by rw [← ea]; exact fr_wI (fr_r _ _) ⟨rfl, rfl⟩
  rw [ea] at t1 x1
  obtain ⟨u, e1, e2⟩ := h1 (D' + 9) k a (by omega) x1 (by rw [(fa 13 0 14 (by omega)).1]; exact hb) (by rw [(fa 13 0 21 (by omega)).1]; exact hk) (by omega)
  have e2 := x_fr (f12 fa) (x_sub (show p ≤ p + 1 by omega) e2)
  cases o1 with
  | none =>
    obtain ⟨rfl, rfl⟩ := h3 rfl
    refine ⟨u, ?_, e2⟩
    rw [m_lp0 hr, t1, bI_s, if_neg (nI_pos (by omega)), e1, bI_s, if_pos (by rfl), nb_0]; rfl
  | some cs =>
    obtain ⟨h4, h5, h6⟩ := h2 cs rfl
    obtain ⟨k1, g1, g2, g3⟩ := e2.2.1
    obtain ⟨z1, z2⟩ := g3 cs rfl
    obtain ⟨w, ew⟩ : ∃ w, wI (wI u 47 1 (k + cs.length) (nI (2000 + i + offR r))) 13 0 21 (nI (k + cs.length + 1)) = w := ⟨_, rfl⟩
    have hw := LO_code (c := 2000 + i + offR r) e2 (by omega) ew.symm
    have hl : (cs ++ [2000 + i + offR r]).length = cs.length + 1 := by rw [List.length_append]; rfl
    have g1' : u.1 13 0 21 = nI (k + cs.length) := by rw [g1, z1]
    have e0 : Ref_readsRank_L1 (D' + 9) (nI r) 1 s = if 0 < r then Ref_readsRank_L1 (D' + 9) (nI r) 1 w else Ref_readsRank_L1 (D' + 9) (nI r) 0 w := by
      rw [m_lp0 hr, t1, bI_s, if_neg (nI_pos (by omega)), e1, bI_s, if_neg (by intro z; cases z), show (2000 : Int32) = nI 2000 from rfl, nI_add, nI_add, m_codes g1' (by omega), bV_s, ew]
    by_cases z : 0 < r
    · obtain ⟨y0, ⟨k2, y1, y2, y3⟩, y4, y5⟩ := id hw
      obtain ⟨v1, v2⟩ := y3 _ rfl
      obtain ⟨t, m1, m2⟩ := h5 z (D' + 9) (k + (cs ++ [2000 + i + offR r]).length) w (by omega) y0 (y4 (by intro z; cases z)) (by rw [y1, v1]) (by rw [hl]; omega)
      refine ⟨t, ?_, LO_tr (by omega) hq hw m2⟩
      rw [e0, if_pos z, m1]
      show _ = some (some (vI (ib (o.map (cs ++ [2000 + i + offR r] ++ ·)).isSome)), t)
      rw [Option.isSome_map]
    · obtain ⟨rfl, rfl⟩ := h6 (by omega)
      refine ⟨w, ?_, ?_⟩
      · rw [e0, if_neg z, Ref_readsRank_L1_eq, if_pos (by rfl), nb_1]; rfl
      · show LO sg E s w k b p q (some (cs ++ [2000 + i + offR r] ++ []))
        rw [List.append_nil]; exact hw
end RULEM

/-! stands: the class gathers and chooses. -/
section STANDS
variable {d R C n p M : Nat} {kd : Nat → Nat} {S : Sn} {L : List Nat} {s t : xS} {A : Nat → Nat} {G : sL}
def lsA (A : Nat → Nat) : Nat → Nat → sL
  | _, 0 => []
  | i, e + 1 => (i, A i) :: lsA A (i + 1) e
def gaA (A : Nat → Nat) : Nat → sL
  | 0 => []
  | j + 1 => bif A j == 0 || (gaA A j).any (fun x => x.2 == A j) then gaA A j else gaA A j ++ [(j, A j)]
theorem ga_m : ∀ j x, x ∈ gaA A j → x.1 < j ∧ x.2 = A x.1 ∧ x.2 ≠ 0 := by
  intro j
  induction j with
  | zero => intro x h; cases h
  | succ j ih =>
    intro x h
    unfold gaA at h
    cases e : (A j == 0 || (gaA A j).any (fun x => x.2 == A j)) with
    | true =>
      rw [e] at h
      obtain ⟨a, b, c⟩ := ih x h
      exact ⟨by omega, b, c⟩
    | false =>
      rw [e] at h
      have h : x ∈ gaA A j ++ [(j, A j)] := h
      rw [List.mem_append, List.mem_singleton] at h
      rw [Bool.or_eq_false_iff] at e
      rcases h with h | rfl
      · obtain ⟨a, b, c⟩ := ih x h
        exact ⟨by omega, b, c⟩
      · refine ⟨Nat.lt_succ_self j, rfl, fun z => ?_⟩
        have z : A j = 0 := z
        have := e.1
        rw [z] at this
        cases this
theorem ga_nd : ∀ j, ((gaA A j).map (·.2)).Nodup := by
  intro j
  induction j with
  | zero => exact List.nodup_nil
  | succ j ih =>
    unfold gaA
    cases e : (A j == 0 || (gaA A j).any (fun x => x.2 == A j)) with
    | true => exact ih
    | false =>
      show ((gaA A j ++ [(j, A j)]).map (·.2)).Nodup
      rw [Bool.or_eq_false_iff] at e
      rw [List.map_append, List.nodup_append]
      refine ⟨ih, by simp, fun a ha b hb z => ?_⟩
      have hb : b ∈ [A j] := hb
      rw [List.mem_singleton] at hb
      rw [List.mem_map] at ha
      obtain ⟨y, hy, hy2⟩ := ha
      have : (gaA A j).any (fun x => x.2 == A j) = true := List.any_eq_true.mpr ⟨y, hy, by rw [hy2, z, hb]; exact beq_self_eq_true _⟩
      rw [e.2] at this
      cases this
theorem ga_len (hA : ∀ i, A i < 64) (j : Nat) : (gaA A j).length ≤ 63 := by
  have h : (0 :: (gaA A j).map (·.2)).Nodup := by
    rw [List.nodup_cons]
    refine ⟨fun z => ?_, ga_nd j⟩
    rw [List.mem_map] at z
    obtain ⟨y, hy, hy2⟩ := z
    exact (ga_m j y hy).2.2 hy2
  have := nodup_len (N := 64) h (fun x hx => by
    rw [List.mem_cons, List.mem_map] at hx
    rcases hx with rfl | ⟨y, hy, rfl⟩
    · omega
    · show y.2 < 64
      rw [(ga_m j y hy).2.1]; exact hA _)
  rw [List.length_cons, List.length_map] at this
  omega
theorem an_z {m : Nat} (hm : m < 64) : an m 0 = m := by
  have hc : ((List.range 64).all fun a => decide (an a 0 = a)) = true := by decide
  exact of_decide_eq_true (all_r hc hm)
theorem ga_fL {m r : Nat} (hm : m < 64) (hr : r < 1000000) : ∀ e j, fL (gaA A j ++ lsA A j e) m r = fL (gaA A (j + e)) m r := by
  intro e
  induction e with
  | zero => intro j; show fL (gaA A j ++ []) m r = _; rw [List.append_nil]; rfl
  | succ e ih =>
    intro j
    have hst : ∀ l, fL (gaA A j ++ (j, A j) :: l) m r = fL (gaA A (j + 1) ++ l) m r := fun l => by
      have eg : gaA A (j + 1) = bif A j == 0 || (gaA A j).any (fun x => x.2 == A j) then gaA A j else gaA A j ++ [(j, A j)] := rfl
      rw [eg]
      cases e1 : A j == 0 with
      | true =>
        have hz : A j = 0 := eq_of_beq e1
        rw [Bool.true_or, cond_true]
        exact dj_rm (x := (j, A j)) _ m r (by show an m (A j) = m; rw [hz, an_z hm])
      | false =>
        rw [Bool.false_or]
        cases e2 : (gaA A j).any (fun x => x.2 == A j) with
        | false => rw [cond_false, List.append_assoc]; rfl
        | true =>
          rw [cond_true]
          obtain ⟨y, hy, hy2⟩ := List.any_eq_true.mp e2
          obtain ⟨l0, l1, el⟩ := List.append_of_mem hy
          rw [el, List.append_assoc, List.append_assoc]
          exact same_rm (x := (j, A j)) (y := y) (eq_of_beq hy2).symm l0 m r hr
    show fL (gaA A j ++ (j, A j) :: lsA A (j + 1) e) m r = _
    rw [hst, ih (j + 1), show j + 1 + e = j + (e + 1) by omega]
theorem orN_abs {i : Nat} : ∀ {j : Nat}, i < j → orN A j ||| A i = orN A j := by
  intro j
  induction j with
  | zero => intro h; omega
  | succ j ih =>
    intro h
    show orN A j ||| A j ||| A i = orN A j ||| A j
    by_cases z : i = j
    · rw [z, Nat.or_assoc, Nat.or_self]
    · rw [Nat.or_assoc, Nat.or_comm (A j), ← Nat.or_assoc, ih (by omega)]
def cGa (s : xS) (G : sL) : Prop := s.1 6 0 5 = nI G.length ∧ ∀ i, i < G.length → s.1 27 0 i = nI (G.getD i (0, 0)).1 ∧ s.1 28 0 i = nI (G.getD i (0, 0)).2
theorem cGa_fr {r : Nat → Nat → Nat → Prop} (h : cGa s G) (f : fr r s t) (h1 : ¬ r 6 0 5) (h2 : ∀ k, ¬ r 27 0 k) (h3 : ∀ k, ¬ r 28 0 k) : cGa t G :=
  ⟨by rw [(f _ _ _ h1).1]; exact h.1, fun i hi => by rw [(f _ _ _ (h2 _)).1, (f _ _ _ (h3 _)).1]; exact h.2 i hi⟩
theorem gP_l {l r : sL} {j : Nat} (h : j < l.length) : (l ++ r).getD j (0, 0) = l.getD j (0, 0) := by
  rw [List.getD_eq_getElem?_getD, List.getD_eq_getElem?_getD, List.getElem?_append_left h]
theorem gP_r {l : sL} {x : Nat × Nat} : (l ++ [x]).getD l.length (0, 0) = x := by
  rw [List.getD_eq_getElem?_getD, List.getElem?_append_right (Nat.le_refl _), Nat.sub_self]; rfl
theorem gP_m {l : sL} {i : Nat} (h : i < l.length) : l.getD i (0, 0) ∈ l := by
  rw [List.getD_eq_getElem?_getD, List.getElem?_eq_getElem h]
  exact List.getElem_mem h
theorem c_isG {v : Nat} (hG : cGa s G) (hl : G.length ≤ 63) (hs : ∀ x, x ∈ G → x.2 < 64) (hv : v < 64) : ev (d + 1) f_Eye_isGathered [vR 6 0, vI (nI v)] s = some (some (vI (ib (G.any (fun x => x.2 == v)))), s) := by
  rw [Eye_isGathered_eq]
  refine chainQ (σ := Unit) G.length (fun i _ => Eye_isGathered_L1 d (nI v) (nI i) s) (fun i _ => ∀ k, k < i → (G.getD k (0, 0)).2 ≠ v) (fun r => r = some (some (vI (ib (G.any (fun x => x.2 == v)))), s)) ?_ ?_ G.length 0 () (by omega) (fun k hk => absurd hk (Nat.not_lt_zero k))
  · intro _ hr
    have hf : G.any (fun x => x.2 == v) = false := by
      cases e : G.any (fun x => x.2 == v) with
      | false => rfl
      | true =>
        obtain ⟨y, hy, hy2⟩ := List.any_eq_true.mp e
        obtain ⟨k, hk, ek⟩ := List.getElem_of_mem hy
        have : G.getD k (0, 0) = y := by rw [List.getD_eq_getElem?_getD, List.getElem?_eq_getElem hk, ek]; rfl
        exact absurd (eq_of_beq hy2) (by rw [← this]; exact hr k hk)
    show Eye_isGathered_L1 d (nI v) (nI G.length) s = _
    rw [Eye_isGathered_L1_eq, hG.1, if_neg (of_eq_false (lt_f (Nat.le_refl _) (by omega))), hf, nb_0]
  · intro i _ hi hr
    have hx := hs _ (gP_m hi)
    show Eye_isGathered_L1 d (nI v) (nI i) s = _ ∨ ∃ b : Unit, Eye_isGathered_L1 d (nI v) (nI i) s = Eye_isGathered_L1 d (nI v) (nI (i + 1)) s ∧ _
    rw [Eye_isGathered_L1_eq, hG.1, if_pos (of_eq_true (lt_t hi (by omega))), in_t (show i < 64 by omega) (by omega), if_pos rfl, n_cl (by omega), (hG.2 i hi).2]
    by_cases z : (G.getD i (0, 0)).2 = v
    · left
      have : G.any (fun x => x.2 == v) = true := List.any_eq_true.mpr ⟨_, gP_m hi, by rw [z]; exact beq_self_eq_true v⟩
      rw [if_pos (of_eq_true (eq_t z)), this, nb_1]
    · right
      rw [if_neg (of_eq_false (eq_f z (by omega) (by omega))), nI_1]
      refine ⟨(), rfl, fun k hk => ?_⟩
      by_cases y : k = i
      · rw [y]; exact z
      · exact hr k (by omega)
def pGa (c i k : Nat) : Prop := pE c i k ∨ c = 27 ∨ c = 28 ∨ (c = 6 ∧ k = 5)
theorem pGa_m {c i k : Nat} (h : pGa c i k) : c = 26 ∨ c = 25 ∨ (c = 5 ∧ k = 3) ∨ c = 27 ∨ c = 28 ∨ (c = 6 ∧ k = 5) := by unfold pGa pE at h; omega
theorem c_gather (hG : cG s R C kd) (hO : cOS s 0 n S) (ho : oOkS R C kd n S) (hR : cR s 0 (ruL L)) (hL : wfL (ruL L) 0) (hp : p < n) : ∃ t, ev (d + 6) f_Eye_gatherStands [vR 6 0, vR 5 0, vR 3 0, vI (nI p)] s = some (some (vI (nI (orN (fun j => if j < 4 * (R * C) then sdV R C kd n S L p j else 0) (4 * (R * C))))), t) ∧ cGa t (gaA (fun j => if j < 4 * (R * C) then sdV R C kd n S L p j else 0) (4 * (R * C))) ∧ fr pGa s t := by
  have b36 := gOk_36 hG.1
  have hgo := hG.1
  obtain ⟨A, hA⟩ : ∃ A : Nat → Nat, (fun j => if j < 4 * (R * C) then sdV R C kd n S L p j else 0) = A := ⟨_, rfl⟩
  have hAj : ∀ j, j < 4 * (R * C) → A j = sdV R C kd n S L p j := fun j hj => by rw [← hA]; exact if_pos hj
  have hA64 : ∀ j, A j < 64 := fun j => by
    rw [← hA]
    show (if j < 4 * (R * C) then sdV R C kd n S L p j else 0) < 64
    by_cases z : j < 4 * (R * C)
    · rw [if_pos z]; exact sdV_lt hgo z
    · rw [if_neg z]; omega
  rw [hA]
  have m4 : (4 : Int32) * nI (R * C) = nI (4 * (R * C)) := by rw [nl_4, pk_mul]
  have ho64 : ∀ j, orN A j < 64 := fun j => orN_lt (b := 6) (fun k _ => hA64 k)
  obtain ⟨t, k1, k2, k3⟩ := chainE (4 * (R * C)) (fun j (t : xS) => Eye_gatherStands_L1 (d + 5) 0 0 (nI p) (nI (orN A j)) (nI j) t) (fun j t => cGa t (gaA A j) ∧ fr pGa s t) (by
    rintro j t hj ⟨h0, h1⟩
    have h1' : fr (fun c i k => c = 26 ∨ c = 25 ∨ (c = 5 ∧ k = 3) ∨ c = 27 ∨ c = 28 ∨ (c = 6 ∧ k = 5)) s t := fr_m h1 (fun _ _ _ => pGa_m)
    have hGt := cG_fr hG h1' (by omega) (by omega) (by omega)
    have hw := g_isWall (d := d + 3) hGt (show j / 4 < R * C by omega)
    have hlen := ga_len hA64 j
    have hsets : ∀ x, x ∈ gaA A j → x.2 < 64 := fun x hx => by rw [(ga_m j x hx).2.1]; exact hA64 _
    have hsm : orN A (j + 1) = orN A j ||| A j := rfl
    have hga : gaA A (j + 1) = bif A j == 0 || (gaA A j).any (fun x => x.2 == A j) then gaA A j else gaA A j ++ [(j, A j)] := rfl
    have hJ : ∀ v, cGa v (gaA A j) → fr pGa s v → ∃ b, Eye_gatherStands_J2 (d + 5) 0 0 (nI p) (nI (orN A j)) (nI j) (nI (A j)) v = Eye_gatherStands_L1 (d + 5) 0 0 (nI p) (nI (orN A (j + 1))) (nI (j + 1)) b ∧ cGa b (gaA A (j + 1)) ∧ fr pGa s b := fun v hv fv => by
      rw [Eye_gatherStands_J2_eq, hsm, hga]
      by_cases z0 : A j = 0
      · rw [z0, if_pos (by rfl), show ((0 : Nat) == 0) = true from rfl, Bool.true_or, cond_true, Nat.or_zero, nI_1]
        exact ⟨v, rfl, hv, fv⟩
      · have hne : (A j == 0) = false := by
          cases e : A j == 0 with
          | false => rfl
          | true => exact absurd (eq_of_beq e) z0
        have hA := hA64 j
        rw [if_neg (show ¬ nI (A j) = 0 from of_eq_false (eq_f (b := 0) z0 (by omega) (by omega))), hv.1, if_pos (show nI (gaA A j).length < 64 from of_eq_true (lt_t (b := 64) (by omega) (by omega))), c_isG hv hlen hsets (hA64 j), bI_s, hne, Bool.false_or]
        cases e : (gaA A j).any (fun x => x.2 == A j) with
        | true =>
          obtain ⟨y, hy, hy2⟩ := List.any_eq_true.mp e
          have hy2 := eq_of_beq hy2
          obtain ⟨y1, y2, _⟩ := ga_m j y hy
          have hab := orN_abs (A := A) y1
          rw [← y2, hy2] at hab
          rw [if_neg (by decide), cond_true, hab, nI_1]
          exact ⟨v, rfl, hv, fv⟩
        | false =>
          have hor := or_n (ho64 j) (hA64 j)
          rw [if_pos (by rfl), cond_false, hv.1, in_t (show (gaA A j).length < 64 by omega) (by omega), if_pos rfl, if_pos rfl, n_cl (by omega), hor.1, nI_1, nI_1]
          refine ⟨_, rfl, ⟨?_, fun i hi => ?_⟩, fr_wI (fr_wI (fr_wI fv (by simp [pGa])) (by simp [pGa])) (by simp [pGa])⟩
          · rw [wI_s1, List.length_append]; rfl
          · rw [List.length_append] at hi
            have hi : i < (gaA A j).length + 1 := hi
            by_cases w : i < (gaA A j).length
            · rw [gP_l w]
              exact ⟨by rw [wI_nc (by omega), wI_nc (by omega), wI_nk (by omega)]; exact (hv.2 i w).1, by rw [wI_nc (by omega), wI_nk (by omega), wI_nc (by omega)]; exact (hv.2 i w).2⟩
            · rw [show i = (gaA A j).length by omega, gP_r]
              exact ⟨by rw [wI_nc (by omega), wI_nc (by omega), wI_s1], by rw [wI_nc (by omega), wI_s1]⟩
    show ∃ b, Eye_gatherStands_L1 (d + 5) 0 0 (nI p) (nI (orN A j)) (nI j) t = Eye_gatherStands_L1 (d + 5) 0 0 (nI p) (nI (orN A (j + 1))) (nI (j + 1)) b ∧ _
    rw [Eye_gatherStands_L1_eq, hGt.2.2.2.1, m4, if_pos (of_eq_true (lt_t hj (by omega))), if_neg (by decide), n_d4 (by omega), hw, bI_s]
    by_cases z : kd (j / 4) = 1
    · have h00 : A j = 0 := by rw [hAj j hj]; exact if_pos z
      have hJt := hJ t h0 h1
      rw [h00] at hJt
      rw [decide_eq_true z, if_neg (by decide)]; exact hJt
    · have hd0 : A j = wfm R C kd n S.1 S.2.2.1 S.2.2.2.2 (ruL L) p (j / 4) (j % 4) := by rw [hAj j hj]; exact if_neg z
      obtain ⟨v, e1, e2⟩ := e_would (d := d + 1) hGt (cO_fr hO h1' (by omega) (by omega) (by omega) (by omega)) ho (cR_fr hR h1' (by omega) (by omega)) hL (show j / 4 < R * C by omega) (show j % 4 < 4 by omega) hp
      rw [show 4 * (j / 4) + j % 4 = j by omega] at e1
      have e1' : ev (d + 5) f_Eye_wouldForm [vR 6 0, vR 5 0, vR 3 0, vI (nI p), vI (nI j)] t = some (some (vI (nI (A j))), v) := by rw [hd0]; exact e1
      rw [decide_eq_false z, if_pos (by decide), e1', bI_s]
      exact hJ v (cGa_fr h0 e2 (by simp [pE]) (by intro k; simp [pE]) (by intro k; simp [pE])) (fr_t h1 (fr_m e2 (fun _ _ _ => Or.inl)))) (4 * (R * C)) 0 (wI s 6 0 5 0) (by omega) ⟨⟨by rw [wI_s1]; rfl, fun i hi => absurd hi (Nat.not_lt_zero i)⟩, fr_wI (fr_r _ _) (by simp [pGa])⟩
  have k1' : Eye_gatherStands_L1 (d + 5) 0 0 (nI p) 0 0 (wI s 6 0 5 0) = Eye_gatherStands_L1 (d + 5) 0 0 (nI p) (nI (orN A (4 * (R * C)))) (nI (4 * (R * C))) t := k1
  have k3' : fr (fun c i k => c = 26 ∨ c = 25 ∨ (c = 5 ∧ k = 3) ∨ c = 27 ∨ c = 28 ∨ (c = 6 ∧ k = 5)) s t := fr_m k3 (fun _ _ _ => pGa_m)
  refine ⟨t, ?_, k2, k3⟩
  rw [Eye_gatherStands_eq, k1', Eye_gatherStands_L1_eq, (k3' 2 0 4 (by omega)).1, hG.2.2.2.1, m4, if_neg (of_eq_false (lt_f (Nat.le_refl _) (by omega)))]
theorem c_chosen (hl : G.length ≤ 63) (hs : ∀ x, x ∈ G → x.2 < 64) : ∀ (l : sL) (i m r e : Nat) (s : xS), G.drop i = l → i ≤ G.length → m < 64 → m ≠ 0 → 1 ≤ r → e + r ≤ 6 → cGa s G → ∃ t, Eye_isChosen_L1 (d + r) (nI m) (nI e) (nI (e + r)) (nI i) s = some (some (vI (ib (fL l m r).isSome)), t) ∧ (∀ k, k < e → t.1 29 0 k = s.1 29 0 k) ∧ (∀ ps, fL l m r = some ps → ∀ k, k < ps.length → t.1 29 0 (e + k) = nI (ps.getD k 0)) ∧ fr (fun c _ _ => c = 29) s t := by
  intro l
  induction l with
  | nil =>
    intro i m r e s hd hi hm hm0 hr he hG
    have hi2 : G.length ≤ i := List.drop_eq_nil_iff.mp hd
    have hf : fL [] m r = none := if_neg hm0
    refine ⟨s, ?_, fun _ _ => rfl, fun ps z => (by rw [hf] at z; cases z), fr_r _ _⟩
    rw [Eye_isChosen_L1_eq, hG.1, if_neg (of_eq_false (lt_f hi2 (by omega))), hf, nb_0]; rfl
  | cons x l ih =>
    intro i m r e s hd hi hm hm0 hr he hG
    obtain ⟨h1, h2, h3⟩ := drop_c (z := ((0, 0) : Nat × Nat)) hd
    have hxm : x ∈ G := by rw [← h2]; exact gP_m h1
    have hx := hs x hxm
    obtain ⟨g1, g2⟩ := hG.2 i h1
    rw [h2] at g1 g2
    have eL : fL (x :: l) m r = if an m x.2 = m then fL l m r else match fL l (an m x.2) (r - 1) with | some c => some (x.1 :: c) | none => fL l m r := by
      show (if m = 0 then some [] else if r = 0 then none else if an m x.2 = m then fL l m r else match fL l (an m x.2) (r - 1) with | some c => some (x.1 :: c) | none => fL l m r) = _
      rw [if_neg hm0, if_neg (by omega)]
    have hpa := (pcan hm hx).2
    rw [Eye_isChosen_L1_eq, hG.1, if_pos (of_eq_true (lt_t h1 (by omega))), in_t (show i < 64 by omega) (by omega), if_pos rfl, n_cl (by omega), g2, eL]
    by_cases z : an m x.2 = m
    · rw [if_pos (hpa.mpr z), if_pos z, nI_1]
      exact ih (i + 1) m r e s h3 (by omega) hm hm0 hr he hG
    · have hm' := an_lt (b := x.2) hm
      obtain ⟨a, ea⟩ : ∃ a, wI s 29 0 e (nI x.1) = a := ⟨_, rfl⟩
      have fa : fr (fun c _ _ => c = 29) s a := by rw [← ea]; exact fr_wI (fr_r _ _) rfl
      have hGa : cGa a G := cGa_fr hG fa (by omega) (by omega) (by omega)
      have ae : a.1 29 0 e = nI x.1 := by rw [← ea, wI_s1]
      have alt : ∀ k, k < e → a.1 29 0 k = s.1 29 0 k := fun k hk => by rw [← ea, wI_nk (by omega)]
      -- the call below
      have hcall : ∃ b, ev (d + r) f_Eye_isChosen [vR 6 0, vI (nI (an m x.2)), vI (nI (i + 1)), vI (nI (e + 1)), vI (nI (e + r))] a = some (some (vI (ib (fL l (an m x.2) (r - 1)).isSome)), b) ∧ (∀ k, k < e + 1 → b.1 29 0 k = a.1 29 0 k) ∧ (∀ ps, fL l (an m x.2) (r - 1) = some ps → ∀ k, k < ps.length → b.1 29 0 (e + 1 + k) = nI (ps.getD k 0)) ∧ fr (fun c _ _ => c = 29) a b := by
        obtain ⟨r', rfl⟩ : ∃ r', r = r' + 1 := ⟨r - 1, by omega⟩
        rw [Nat.add_sub_cancel]
        by_cases w : an m x.2 = 0
        · rw [w, fL_0]
          refine ⟨a, ?_, fun _ _ => rfl, fun ps z => (by rw [← Option.some.inj z]; exact fun k hk => absurd hk (Nat.not_lt_zero k)), fr_r _ _⟩
          rw [show d + (r' + 1) = d + r' + 1 from rfl, Eye_isChosen_eq, if_pos (by rfl), nb_1]; rfl
        · have hw0 : ¬ nI (an m x.2) = 0 := of_eq_false (eq_f (b := 0) w (by omega) (by omega))
          by_cases hr1 : r' = 0
          · have hf : fL l (an m x.2) r' = none := (fL_iff l _ _ (by omega)).mpr (by have := tb_pos l _ w; omega)
            rw [hf]
            refine ⟨a, ?_, fun _ _ => rfl, fun ps z => (by cases z), fr_r _ _⟩
            rw [show d + (r' + 1) = d + r' + 1 from rfl, Eye_isChosen_eq, if_neg hw0, if_neg (of_eq_false (lt_f (by omega) (by omega))), nb_0]; rfl
          · obtain ⟨b, b1, b2, b3, b4⟩ := ih (i + 1) (an m x.2) r' (e + 1) a h3 (by omega) hm' w (by omega) (by omega) hGa
            refine ⟨b, ?_, b2, b3, b4⟩
            rw [show d + (r' + 1) = d + r' + 1 from rfl, Eye_isChosen_eq, if_neg hw0, if_pos (of_eq_true (lt_t (by omega) (by omega))), if_pos (show nI (e + 1) < 6 from of_eq_true (lt_t (b := 6) (by omega) (by omega))), show e + (r' + 1) = e + 1 + r' by omega, b1]
      obtain ⟨b, b1, b2, b3, b4⟩ := hcall
      rw [if_neg (fun w => z (hpa.mp w)), if_neg z, if_pos rfl, in_t (show e < 6 by omega) (by omega), if_pos rfl, if_pos rfl, n_cl (by omega), g1, n_an hm hx, nI_1, nI_1, ea, b1, bI_s]
      cases hf : fL l (an m x.2) (r - 1) with
      | some c =>
        rw [hf] at b3
        rw [if_neg (by intro w; cases w), nb_1]
        refine ⟨b, rfl, fun k hk => by rw [b2 k (by omega), alt k hk], fun ps w => ?_, fr_t fa b4⟩
        rw [← Option.some.inj w]
        intro k hk
        cases k with
        | zero =>
          show b.1 29 0 (e + 0) = nI x.1
          rw [Nat.add_zero, b2 e (by omega)]; exact ae
        | succ k =>
          have hk : k < c.length := Nat.lt_of_succ_lt_succ hk
          have := b3 c rfl k hk
          rw [show e + (k + 1) = e + 1 + k by omega]
          exact this
      | none =>
        rw [if_pos (by rfl)]
        obtain ⟨t, t1, t2, t3, t4⟩ := ih (i + 1) m r e b h3 (by omega) hm hm0 hr he (cGa_fr hGa b4 (by omega) (by omega) (by omega))
        exact ⟨t, t1, fun k hk => by rw [t2 k hk, b2 k (by omega), alt k hk], t3, fr_t fa (fr_t b4 t4)⟩
theorem c_top {m r : Nat} (hl : G.length ≤ 63) (hs : ∀ x, x ∈ G → x.2 < 64) (hm : m < 64) (hr : r ≤ 6) (hG : cGa s G) : ∃ t, ev (d + 7) f_Eye_isChosen [vR 6 0, vI (nI m), vI 0, vI 0, vI (nI r)] s = some (some (vI (ib (fL G m r).isSome)), t) ∧ (∀ ps, fL G m r = some ps → ∀ k, k < ps.length → t.1 29 0 k = nI (ps.getD k 0)) ∧ fr (fun c _ _ => c = 29) s t := by
  by_cases w : m = 0
  · rw [w, fL_0]
    refine ⟨s, ?_, fun ps z => (by rw [← Option.some.inj z]; exact fun k hk => absurd hk (Nat.not_lt_zero k)), fr_r _ _⟩
    rw [Eye_isChosen_eq, if_pos (by rfl), nb_1]; rfl
  · have hw0 : ¬ nI m = 0 := of_eq_false (eq_f (b := 0) w (by omega) (by omega))
    by_cases hr1 : r = 0
    · have hf : fL G m r = none := (fL_iff G _ _ (by omega)).mpr (by have := tb_pos G _ w; omega)
      rw [hf]
      refine ⟨s, ?_, fun ps z => (by cases z), fr_r _ _⟩
      rw [Eye_isChosen_eq, if_neg hw0, hr1, if_neg (by decide), nb_0]; rfl
    · obtain ⟨t, t1, t2, t3, t4⟩ := c_chosen (d := d + 6 - r) hl hs G 0 m r 0 s rfl (Nat.zero_le _) hm w (by omega) (by omega) hG
      rw [show d + 6 - r + r = d + 6 by omega, Nat.zero_add] at t1
      have t1' : Eye_isChosen_L1 (d + 6) (nI m) 0 (nI r) 0 s = some (some (vI (ib (fL G m r).isSome)), t) := t1
      refine ⟨t, ?_, fun ps z k hk => ?_, t4⟩
      · rw [Eye_isChosen_eq, if_neg hw0, if_pos (show (0 : Int32) < nI r from of_eq_true (lt_t (a := 0) (by omega) (by omega))), if_pos (by decide), t1']
      · have := t3 ps z k hk
        rw [Nat.zero_add] at this; exact this
theorem c_choose {m k0 : Nat} {ps : List Nat} (hl : G.length ≤ 63) (hs : ∀ x, x ∈ G → x.2 < 64) (hm : m < 64) (hk : k0 ≤ 6) (hG : cGa s G) (hlt : ∀ r, r < k0 → fL G m r = none) (hps : fL G m k0 = some ps) : ∃ t, ev (d + 8) f_Eye_chooseStands [vR 6 0, vI (nI m)] s = some (some (vI (nI k0)), t) ∧ (∀ k, k < ps.length → t.1 29 0 k = nI (ps.getD k 0)) ∧ fr (fun c _ _ => c = 29) s t := by
  obtain ⟨a, k1, k2, k3⟩ := chainE k0 (fun r (t : xS) => Eye_chooseStands_L1 (d + 7) (nI m) (nI r) t) (fun r t => cGa t G ∧ fr (fun c _ _ => c = 29) s t) (by
    rintro r t hr ⟨h1, h2⟩
    obtain ⟨b, b1, b2, b3⟩ := c_top (d := d) hl hs hm (show r ≤ 6 by omega) h1
    rw [hlt r hr] at b1
    refine ⟨b, ?_, cGa_fr h1 b3 (by omega) (by omega) (by omega), fr_t h2 b3⟩
    show Eye_chooseStands_L1 (d + 7) (nI m) (nI r) t = _
    rw [Eye_chooseStands_L1_eq, if_neg (show ¬ (6 : Int32) < nI r from of_eq_false (lt_f (a := 6) (by omega) (by omega))), b1, bI_s, if_pos (by rfl), nI_1]) k0 0 s (by omega) ⟨hG, fr_r _ _⟩
  have k1' : Eye_chooseStands_L1 (d + 7) (nI m) 0 s = Eye_chooseStands_L1 (d + 7) (nI m) (nI k0) a := k1
  obtain ⟨b, b1, b2, b3⟩ := c_top (d := d) hl hs hm hk k2
  rw [hps] at b1
  refine ⟨b, ?_, b2 ps hps, fr_t k3 b3⟩
  rw [Eye_chooseStands_eq, k1', Eye_chooseStands_L1_eq, if_neg (show ¬ (6 : Int32) < nI k0 from of_eq_false (lt_f (a := 6) (by omega) (by omega))), b1, bI_s, if_neg (by intro w; cases w)]
end STANDS

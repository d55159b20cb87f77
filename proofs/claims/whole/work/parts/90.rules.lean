/-! rule: the class reads as the law does. -/
section RULEF
variable {d T E p q b mk y k r : Nat} {sg : Nat → Nat} {s t : xS} {out st st0 π cs : List Nat} {o : Option (List Nat)}
theorem yBad_t (e : Rule_reads_L1 (d + 6) 1 (nI y) s = Rule_reads_L1 (d + 6) 1 (nI k) t) (f : fr pRc s t) (h : yBad d t k q) : yBad d s y q := by
  obtain ⟨u, h1, h2, h3⟩ := h
  exact ⟨u, by rw [e, h1], h2, fr_t f h3⟩
theorem stp3 : stp sg E 3 q b mk := ⟨fun z => by omega, fun z => by omega, fun z => by omega⟩
theorem cls_neg (hp : p < E) (h45 : sg p = 45) (h : CR d T sg E 3 (p + 1) b q o) : CR d T sg E 3 p b q (o.map (· ++ [3000])) := by
  intro s y mk out st hy hyp _ _
  obtain ⟨t, e1, e2, e3⟩ := y_neg (d := d + 3) hy hp hyp h45
  have hi := h t (y + 1) mk out (3000 :: st) e2 (by omega) (fun z => by omega) (fun z => by omega)
  cases o with
  | none => exact yBad_t e1 e3 hi
  | some cs =>
    obtain ⟨u, y', mk', out1, π, g1, g2, g3, g4, g5, g6, g7, g8⟩ := hi
    refine ⟨u, y', mk', out1, π ++ [3000], by rw [e1, g1], by rw [List.append_assoc]; exact g2, g3, fun x hx => ?_, by rw [← List.append_assoc, g5, List.append_assoc], g6, g7, fr_t e3 g8⟩
    rw [List.mem_append] at hx
    rcases hx with hx | hx
    · exact g4 x hx
    · rw [List.mem_singleton] at hx
      rw [hx]; decide
theorem cls_num {v : Nat} (hd : dgt sg E p 0 9 = some v) : CR d T sg E 3 p b (nbL sg E 3 p 0).1 (some [(nbL sg E 3 p 0).2]) := by
  intro s y mk out st hy hyp _ _
  have hv := dgt_s hd
  have hpos := nb_pos (Nat.le_of_lt hv.2.1) hd
  obtain ⟨t, e1, e2, e3⟩ := y_num (d := d) hy hv.2.1 hyp hd
  exact ⟨t, y + 1, mk, _, [], e1, e2, by omega, fun x hx => (by cases hx), List.append_nil _, fun _ _ => rfl, stp3, e3⟩
theorem cls_let {i : Nat} (hd : dgt sg E p 0 9 = none) (hf : fxS sg E p 1 = some i) : CR d T sg E 3 p b (p + 1) (some [1000 + i]) := by
  intro s y mk out st hy hyp _ _
  obtain ⟨hp, _, _⟩ := fx_sg hf
  obtain ⟨t, e1, e2, e3⟩ := y_let (d := d) hy hp hyp hd hf
  exact ⟨t, y + 1, mk, _, [], e1, e2, by omega, fun x hx => (by cases hx), List.append_nil _, fun _ _ => rfl, stp3, e3⟩
theorem cls_bad (hpE : p ≤ E) (h45 : ¬ (p < E ∧ sg p = 45)) (hd : dgt sg E p 0 9 = none) (hf : fxS sg E p 1 = none) (h40 : b = 4 ∨ ¬ (p < E ∧ sg p = 40)) : CR d T sg E 3 p b p none := by
  intro s y mk out st hy hyp _ _
  by_cases z : p < E
  · refine ⟨s, y_badT (d := d) hy z hyp (fun w => h45 ⟨z, w⟩) hd hf ?_, hy.1.2.2.1, fr_r _ _⟩
    rcases h40 with w | w
    · exact Or.inl w
    · exact Or.inr (fun v => w ⟨z, v⟩)
  · exact y_endT (d := d + 3) hy (by omega) hyp
theorem cls_par (hp : p < E) (h40 : sg p = 40) (hb4 : b < 4) (hqE : q ≤ E) (h : CR d T sg E 0 (p + 1) (b + 1) q o) : CR d T sg E 3 p b (if o ≠ none ∧ q < E ∧ sg q = 41 then q + 1 else q) (if q < E ∧ sg q = 41 then o else none) := by
  intro s y mk out st hy hyp _ _
  obtain ⟨t, e1, e2, e3⟩ := y_open (d := d + 2) hy hp hyp h40 hb4
  have hbit : (setb mk (b + 1) false).testBit (b + 1) = false := by rw [setb_tb (by omega), if_pos rfl]
  have hi := h t (y + 1) _ out (0 :: st) e2 (by omega) (fun _ => Or.inr ⟨0, st, rfl, by decide⟩) (fun _ => hbit)
  cases o with
  | none =>
    rw [show (if q < E ∧ sg q = 41 then (none : Option (List Nat)) else none) = none by split <;> rfl, if_neg (fun z => z.1 rfl)]
    exact yBad_t e1 e3 hi
  | some cs =>
    obtain ⟨u, y', mk', out1, π, g1, g2, g3, g4, g5, g6, g7, g8⟩ := hi
    by_cases z : q < E ∧ sg q = 41
    · rw [if_pos z, if_pos ⟨(by intro w; cases w), z⟩]
      obtain ⟨v, v1, v2, v3⟩ := y_close (d := d + 1) g2 z.1 g3 z.2 g4
      refine ⟨v, y' + 1, mk', out1 ++ π, [], by rw [e1, g1, v1], v2, by omega, fun x hx => (by cases hx), by rw [List.append_nil, g5], fun j hj => ?_, stp3, fr_t e3 (fr_t g8 v3)⟩
      rw [g6 j (Or.inl (by omega)), setb_tb (by omega), if_neg (by omega)]
    · rw [if_neg z, if_neg (fun w => z w.2)]
      refine yBad_t e1 e3 (yBad_t g1 g8 ?_)
      by_cases w : q < E
      · exact ⟨u, y_badS (d := d + 2) g2 w g3 (fun v => absurd ⟨w, v⟩ z) g7, g2.1.2.2.1, fr_r _ _⟩
      · exact y_endS (d := d + 3) g2 (by omega) g3 (by omega)
theorem cls_rk {q1 : Nat} {o1 : Option (List Nat)} (hr : r < 3) (h1 : CR d T sg E (r + 1) p b q1 o1) (h2 : ∀ cs, o1 = some cs → CL d T sg E r q1 b q o) (h3 : o1 = none → q = q1 ∧ o = none) : CR d T sg E r p b q (match o1 with | none => none | some cs => o.map (cs ++ ·)) := by
  intro s y mk out st hy hyp hst hbit
  have hi := h1 s y mk out st hy hyp (fun _ => by
    rcases hst hr with w | ⟨x, l, w1, w2⟩
    · exact Or.inl w
    · exact Or.inr ⟨x, l, w1, by omega⟩) (fun z => by omega)
  cases o1 with
  | none =>
    obtain ⟨rfl, rfl⟩ := h3 rfl
    exact hi
  | some cs =>
    obtain ⟨u, y', mk', out1, π, g1, g2, g3, g4, g5, g6, g7, g8⟩ := hi
    have hj := h2 cs rfl u y' mk' out1 π st g2 g3 (fun x hx => by have := g4 x hx; omega) (hst hr) (fun z => by rw [g6 b (Or.inr ⟨rfl, by omega⟩)]; exact hbit z) g7
    cases o with
    | none => exact yBad_t g1 g8 hj
    | some ds =>
      obtain ⟨w, y2, mk2, out2, π2, w1, w2, w3, w4, w5, w6, w7, w8⟩ := hj
      refine ⟨w, y2, mk2, out2, π2, by rw [g1, w1], w2, w3, w4, ?_, fun j hj => ?_, w7, fr_t g8 w8⟩
      · rw [w5, g5, List.append_assoc]
      · rw [w6 j hj, g6 j (by omega)]
theorem cls_lpend (hr : r < 3) (hf : fxS sg E p (2 + r) = none) : CL d T sg E r p b p (some []) := by
  intro s y mk out π st hy hyp hπ hst hbit hs
  refine ⟨s, y, mk, out, π, rfl, hy, hyp, hπ, by rw [List.append_nil], fun _ _ => rfl, ⟨fun z => ?_, fun z => ?_, fun z => ?_⟩, fr_r _ _⟩
  · by_cases w : r = 2
    · rw [w] at hf; exact hf
    · exact hs.1 (by omega)
  · by_cases w : r = 1
    · rw [w] at hf; exact hf
    · exact hs.2.1 (by omega)
  · rw [z] at hf; exact Or.inl hf
theorem cls_lp {i q1 : Nat} {o1 : Option (List Nat)} (hr : r < 3) (hb : b ≤ 4) (hf : fxS sg E p (2 + r) = some i) (h1 : CR d T sg E (r + 1) (p + 1) b q1 o1) (h2 : ∀ cs, o1 = some cs → (0 < r → CL d T sg E r q1 b q o) ∧ (r = 0 → q = q1 ∧ o = some [])) (h3 : o1 = none → q = q1 ∧ o = none) : CL d T sg E r p b q (match o1 with | none => none | some cs => o.map (cs ++ [2000 + i + offR r] ++ ·)) := by
  intro s y mk out π st hy hyp hπ hst hbit hs
  obtain ⟨_, _, hso, _, _, _, _, _⟩ := op_c hr hf
  obtain ⟨t, e1, e2, e3⟩ := y_op (d := d + 2) hr hf hy hyp hπ hst hbit
  have hi := h1 t (y + 1) _ (out ++ π) ((2000 + i + offR r) :: st) e2 (by omega) (fun _ => Or.inr ⟨_, st, rfl, by omega⟩) (fun z => by omega)
  cases o1 with
  | none =>
    obtain ⟨rfl, rfl⟩ := h3 rfl
    exact yBad_t e1 e3 hi
  | some cs =>
    obtain ⟨u, y', mk', out1, π1, g1, g2, g3, g4, g5, g6, g7, g8⟩ := hi
    obtain ⟨h4, h5⟩ := h2 cs rfl
    have hx : ∀ x, x ∈ π1 ++ [2000 + i + offR r] → r + 1 ≤ sgO x := fun x hx => by
      rw [List.mem_append] at hx
      rcases hx with hx | hx
      · have := g4 x hx; omega
      · rw [List.mem_singleton] at hx
        rw [hx]; omega
    have g2' : yS u T sg E q1 out1 ((π1 ++ [2000 + i + offR r]) ++ st) b mk' false := by rw [List.append_assoc]; exact g2
    by_cases z : 0 < r
    · have hj := h4 z u y' mk' out1 (π1 ++ [2000 + i + offR r]) st g2' g3 hx hst (fun w => by omega) g7
      cases o with
      | none => exact yBad_t e1 e3 (yBad_t g1 g8 hj)
      | some ds =>
        obtain ⟨w, y2, mk2, out2, π2, w1, w2, w3, w4, w5, w6, w7, w8⟩ := hj
        refine ⟨w, y2, mk2, out2, π2, by rw [e1, g1, w1], w2, w3, w4, ?_, fun j hj => ?_, w7, fr_t e3 (fr_t g8 w8)⟩
        · rw [w5, ← List.append_assoc, g5]
          simp only [List.append_assoc]
        · rw [w6 j hj, g6 j (by omega), if_neg (by omega)]
    · obtain ⟨rfl, rfl⟩ := h5 (by omega)
      have hr0 : r = 0 := by omega
      refine ⟨u, y', mk', out1, π1 ++ [2000 + i + offR r], by rw [e1, g1], g2', g3, hx, ?_, fun j hj => ?_, ⟨fun _ => g7.1 (by omega), fun _ => g7.2.1 (by omega), fun _ => Or.inr ?_⟩, fr_t e3 g8⟩
      · rw [← List.append_assoc, g5]
        simp only [List.append_assoc, List.append_nil]
      · rw [g6 j (by omega), if_pos hr0, setb_tb (by omega), if_neg (by omega)]
      · rw [g6 b (Or.inr ⟨rfl, by omega⟩), if_pos hr0, setb_tb (by omega), if_pos rfl]
def wfG (cs : List Nat) : Prop := ∀ r k, k + cs.length ≤ 40 → wfL r (k + 1) → wfL (cs ++ r) k
def wfH (ds : List Nat) : Prop := ∀ r k, 1 ≤ k → k + ds.length ≤ 40 → wfL r k → wfL (ds ++ r) k
theorem wfG_1 {c : Nat} (h : c < 1000 ∨ (1000 ≤ c ∧ c < 1007)) : wfG [c] := fun r k hk hr => by
  have hk : k + 1 ≤ 40 := hk
  have h1 : nee c = 0 := if_pos (by omega)
  have h2 : dep k c = k + 1 := if_pos (by omega)
  refine ⟨by unfold cdOk; omega, by omega, by omega, ?_⟩
  rw [h2]; exact hr
theorem wfG_n (h : wfG cs) (hc : 1 ≤ cs.length) : wfG (cs ++ [3000]) := fun r k hk hr => by
  rw [List.length_append] at hk
  have hk : k + (cs.length + 1) ≤ 40 := hk
  rw [List.append_assoc]
  refine h _ k (by omega) ⟨Or.inr (Or.inr (Or.inr rfl)), ?_, ?_, hr⟩
  · show 1 ≤ k + 1
    omega
  · show k + 1 ≤ 40
    omega
theorem wfG_a {ds : List Nat} (h : wfG cs) (g : wfH ds) (hc : 1 ≤ cs.length) : wfG (cs ++ ds) := fun r k hk hr => by
  rw [List.length_append] at hk
  rw [List.append_assoc]
  exact h _ k (by omega) (g r (k + 1) (by omega) (by omega) hr)
theorem wfH_0 : wfH [] := fun _ _ _ _ hr => hr
theorem wfH_a {ds : List Nat} {x : Nat} (h : wfG cs) (g : wfH ds) (h1 : 2000 ≤ x) (h2 : x < 2007) : wfH (cs ++ [x] ++ ds) := fun r k hk1 hk hr => by
  rw [List.length_append, List.length_append] at hk
  have hk : k + (cs.length + 1 + ds.length) ≤ 40 := hk
  rw [List.append_assoc, List.append_assoc]
  have e1 : nee x = 2 := by
    show (if x < 2000 then 0 else if x = 3000 then 1 else 2) = 2
    rw [if_neg (by omega), if_neg (by omega)]
  have e2 : dep (k + 1) x = k := by
    show (if x < 2000 then k + 1 + 1 else if x = 3000 then k + 1 else k + 1 - 1) = k
    rw [if_neg (by omega), if_neg (by omega)]; omega
  refine h _ k (by omega) ⟨by unfold cdOk; omega, by omega, by omega, ?_⟩
  rw [e2]
  exact g r k hk1 (by omega) hr
def PT (E p q : Nat) (o : Option (List Nat)) : Prop := p ≤ q ∧ q ≤ E ∧ ∀ cs, o = some cs → p < q ∧ 1 ≤ cs.length ∧ cs.length ≤ q - p ∧ wfG cs
def PL (E p q : Nat) (o : Option (List Nat)) : Prop := p ≤ q ∧ q ≤ E ∧ ∀ ds, o = some ds → ds.length ≤ q - p ∧ wfH ds
def AT (d T : Nat) (sg : Nat → Nat) (E p b q : Nat) (o : Option (List Nat)) : Prop := PT E p q o ∧ LT sg E p b q o ∧ CR d T sg E 3 p b q o
def AR (d T : Nat) (sg : Nat → Nat) (E r p b q : Nat) (o : Option (List Nat)) : Prop := PT E p q o ∧ LR sg E r p b q o ∧ CR d T sg E r p b q o
def AL (d T : Nat) (sg : Nat → Nat) (E r p b q : Nat) (o : Option (List Nat)) : Prop := PL E p q o ∧ LL sg E r p b q o ∧ CL d T sg E r p b q o
/-- every text is read alike -/
theorem all_A (hE : E ≤ 40) : ∀ (e p b : Nat), E - p ≤ e → p ≤ E → b ≤ 4 → (∃ q o, AT d T sg E p b q o) ∧ (∀ r, r ≤ 3 → ∃ q o, AR d T sg E r p b q o) ∧ (∀ r, r < 3 → ∃ q o, AL d T sg E r p b q o) := by
  intro e
  induction e using Nat.strongRecOn with
  | _ e ih =>
    intro p b he hpE hb
    have hL : ∀ r, r < 3 → ∃ q o, AL d T sg E r p b q o := fun r hr => by
      cases hf : fxS sg E p (2 + r) with
      | none => exact ⟨p, some [], ⟨Nat.le_refl _, hpE, fun ds z => by rw [← Option.some.inj z]; exact ⟨Nat.zero_le _, wfH_0⟩⟩, law_lpend hr hf, cls_lpend hr hf⟩
      | some i =>
        obtain ⟨hp, _, _, _, _, _, hx1, hx2⟩ := op_c hr hf
        obtain ⟨q1, o1, P1, L1, C1⟩ := (ih (E - (p + 1)) (by omega) (p + 1) b (by omega) (by omega) hb).2.1 (r + 1) (by omega)
        obtain ⟨P1a, P1b, P1c⟩ := P1
        cases o1 with
        | none =>
          exact ⟨q1, none, ⟨by omega, P1b, fun ds z => (by cases z)⟩, law_lp (o := none) hE hr hf (by omega) P1b (Nat.le_refl _) L1 (fun cs z => (by cases z)) (fun _ => ⟨rfl, rfl⟩), cls_lp (o := none) hr hb hf C1 (fun cs z => (by cases z)) (fun _ => ⟨rfl, rfl⟩)⟩
        | some cs =>
          obtain ⟨c1, c2, c3, c4⟩ := P1c cs rfl
          by_cases z : 0 < r
          · obtain ⟨q, o, ⟨Pa, Pb, Pc⟩, L2, C2⟩ := (ih (E - q1) (by omega) q1 b (by omega) P1b hb).2.2 r hr
            refine ⟨q, o.map (cs ++ [2000 + i + offR r] ++ ·), ⟨by omega, Pb, fun es hes => ?_⟩, law_lp (o1 := some cs) (o := o) hE hr hf (by omega) P1b Pa L1 (fun cs' w => ?_) (fun w => (by cases w)), cls_lp (o1 := some cs) (o := o) hr hb hf C1 (fun cs' w => ⟨fun _ => C2, fun w => by omega⟩) (fun w => (by cases w))⟩
            · cases o with
              | none => cases hes
              | some ds =>
                obtain ⟨d1, d2⟩ := Pc ds rfl
                have hes : some (cs ++ [2000 + i + offR r] ++ ds) = some es := hes
                rw [← Option.some.inj hes]
                refine ⟨?_, wfH_a c4 d2 hx2 hx1⟩
                rw [List.length_append, List.length_append]
                show cs.length + 1 + ds.length ≤ q - p
                omega
            · rw [← Option.some.inj w]
              exact ⟨by omega, fun _ => L2, fun w => by omega⟩
          · have hz : r = 0 := by omega
            refine ⟨q1, some (cs ++ [2000 + i + offR r] ++ []), ⟨by omega, P1b, fun es hes => ?_⟩, law_lp (o1 := some cs) (o := some []) hE hr hf (by omega) P1b (Nat.le_refl _) L1 (fun cs' w => ?_) (fun w => (by cases w)), cls_lp (o1 := some cs) (o := some []) hr hb hf C1 (fun cs' w => ⟨fun w => by omega, fun _ => ⟨rfl, rfl⟩⟩) (fun w => (by cases w))⟩
            · rw [← Option.some.inj hes]
              refine ⟨?_, wfH_a c4 wfH_0 hx2 hx1⟩
              rw [List.append_nil, List.length_append]
              show cs.length + 1 ≤ q1 - p
              omega
            · rw [← Option.some.inj w]
              exact ⟨by omega, fun w => by omega, fun _ => ⟨rfl, rfl⟩⟩
    have hT : ∃ q o, AT d T sg E p b q o := by
      by_cases h45 : p < E ∧ sg p = 45
      · obtain ⟨q, o, ⟨Pa, Pb, Pc⟩, L1, C1⟩ := (ih (E - (p + 1)) (by omega) (p + 1) b (by omega) (by omega) hb).1
        refine ⟨q, o.map (· ++ [3000]), ⟨by omega, Pb, fun es hes => ?_⟩, law_neg hE h45.1 h45.2 Pa Pb L1 (fun cs z => (Pc cs z).2.2.1), cls_neg h45.1 h45.2 C1⟩
        cases o with
        | none => cases hes
        | some cs =>
          obtain ⟨c1, c2, c3, c4⟩ := Pc cs rfl
          have hes : some (cs ++ [3000]) = some es := hes
          rw [← Option.some.inj hes]
          have hl : (cs ++ [3000]).length = cs.length + 1 := by rw [List.length_append]; rfl
          exact ⟨by omega, by omega, by omega, wfG_n c4 c2⟩
      · cases hd : dgt sg E p 0 9 with
        | some v =>
          have hv := dgt_s hd
          have hpos := nb_pos hpE hd
          have hbb := nbL_b (sg := sg) (E := E) 3 p 0 hpE
          have hv3 : (nbL sg E 3 p 0).2 < 1000 := hbb.2.2
          refine ⟨(nbL sg E 3 p 0).1, some [(nbL sg E 3 p 0).2], ⟨hbb.1, hbb.2.1, fun es hes => ?_⟩, law_num hE hd hpos, cls_num hd⟩
          rw [← Option.some.inj hes]
          exact ⟨hpos, Nat.le_refl _, show 1 ≤ _ by omega, wfG_1 (Or.inl hv3)⟩
        | none =>
          cases hf : fxS sg E p 1 with
          | some i =>
            obtain ⟨hp, hi, _⟩ := fx_sg hf
            have hi : i < 7 := hi
            refine ⟨p + 1, some [1000 + i], ⟨by omega, hp, fun es hes => ?_⟩, law_let hE hd hf, cls_let hd hf⟩
            rw [← Option.some.inj hes]
            exact ⟨by omega, Nat.le_refl _, show 1 ≤ _ by omega, wfG_1 (Or.inr (by omega))⟩
          | none =>
            by_cases h40 : p < E ∧ sg p = 40 ∧ b < 4
            · obtain ⟨q, o, ⟨Pa, Pb, Pc⟩, L1, C1⟩ := (ih (E - (p + 1)) (by omega) (p + 1) (b + 1) (by omega) (by omega) (by omega)).2.1 0 (by omega)
              refine ⟨_, _, ⟨?_, ?_, fun es hes => ?_⟩, law_par hE h40.1 h40.2.1 h40.2.2 Pa L1, cls_par h40.1 h40.2.1 h40.2.2 Pb C1⟩
              · split <;> omega
              · split <;> omega
              · by_cases z : q < E ∧ sg q = 41
                · rw [if_pos z] at hes
                  obtain ⟨c1, c2, c3, c4⟩ := Pc es hes
                  rw [if_pos ⟨(by rw [hes]; intro w; cases w), z⟩]
                  exact ⟨by omega, c2, by omega, c4⟩
                · rw [if_neg z] at hes; cases hes
            · have h40' : b = 4 ∨ ¬ (p < E ∧ sg p = 40) := by
                by_cases z : b = 4
                · exact Or.inl z
                · exact Or.inr (fun w => h40 ⟨w.1, w.2, by omega⟩)
              exact ⟨p, none, ⟨Nat.le_refl _, hpE, fun es hes => (by cases hes)⟩, law_bad h45 hd hf hb h40', cls_bad hpE h45 hd hf h40'⟩
    refine ⟨hT, ?_, hL⟩
    have h3 : ∃ q o, AR d T sg E 3 p b q o := by
      obtain ⟨q, o, P1, L1, C1⟩ := hT
      exact ⟨q, o, P1, law_rk3 L1, C1⟩
    have hs : ∀ r, r < 3 → (∃ q o, AR d T sg E (r + 1) p b q o) → ∃ q o, AR d T sg E r p b q o := by
      rintro r hr ⟨q1, o1, ⟨Pa, Pb, Pc⟩, L1, C1⟩
      cases o1 with
      | none => exact ⟨q1, none, ⟨Pa, Pb, fun es hes => (by cases hes)⟩, law_rk (o1 := none) (o := none) hr Pa (Nat.le_refl _) L1 (fun cs z => (by cases z)) (fun _ => ⟨rfl, rfl⟩), cls_rk (o1 := none) (o := none) hr C1 (fun cs z => (by cases z)) (fun _ => ⟨rfl, rfl⟩)⟩
      | some cs =>
        obtain ⟨c1, c2, c3, c4⟩ := Pc cs rfl
        obtain ⟨q, o, ⟨Qa, Qb, Qc⟩, L2, C2⟩ := (ih (E - q1) (by omega) q1 b (by omega) Pb hb).2.2 r hr
        refine ⟨q, o.map (cs ++ ·), ⟨by omega, Qb, fun es hes => ?_⟩, law_rk (o1 := some cs) (o := o) hr Pa Qa L1 (fun cs' w => ?_) (fun w => (by cases w)), cls_rk (o1 := some cs) (o := o) hr C1 (fun cs' w => C2) (fun w => (by cases w))⟩
        · cases o with
          | none => cases hes
          | some ds =>
            obtain ⟨d1, d2⟩ := Qc ds rfl
            have hes : some (cs ++ ds) = some es := hes
            rw [← Option.some.inj hes]
            have hl : (cs ++ ds).length = cs.length + ds.length := List.length_append
            exact ⟨by omega, by omega, by omega, wfG_a c4 d2 c2⟩
        · rw [← Option.some.inj w]
          exact ⟨c3, L2⟩
    have h2 := hs 2 (by omega) h3
    have h1 := hs 1 (by omega) h2
    have h0 := hs 0 (by omega) h1
    intro r hr
    rcases (by omega : r = 0 ∨ r = 1 ∨ r = 2 ∨ r = 3) with rfl | rfl | rfl | rfl
    · exact h0
    · exact h1
    · exact h2
    · exact h3
end RULEF

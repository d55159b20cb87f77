/-! stands: covering by few; the search of the class and the table of the law find the same. -/
section COVER
abbrev sL : Type := List (Nat × Nat)
/-- the first choice of at most r, rising -/
def fL : sL → Nat → Nat → Option (List Nat)
  | [], m, _ => if m = 0 then some [] else none
  | x :: l, m, r => if m = 0 then some [] else if r = 0 then none else if an m x.2 = m then fL l m r else match fL l (an m x.2) (r - 1) with
    | some c => some (x.1 :: c)
    | none => fL l m r
/-- the law's table -/
def tbL : sL → Nat → Nat
  | [], m => if m = 0 then 0 else 1000000
  | x :: l, m => min (tbL l m) (tbL l (an m x.2) + 1)
/-- .. and what is read from it -/
def grL : sL → Nat → List Nat
  | [], _ => []
  | x :: l, m => if m = 0 then [] else if tbL l (an m x.2) + 1 = tbL (x :: l) m then x.1 :: grL l (an m x.2) else grL l m
theorem an_0 (b : Nat) : an 0 b = 0 := Nat.zero_and _
theorem an_comm (m x y : Nat) : an (an m x) y = an (an m y) x := by
  show m &&& (x ^^^ 63) &&& (y ^^^ 63) = m &&& (y ^^^ 63) &&& (x ^^^ 63)
  rw [Nat.and_assoc, Nat.and_comm (x ^^^ 63), ← Nat.and_assoc]
theorem an_id (m x : Nat) : an (an m x) x = an m x := by
  show m &&& (x ^^^ 63) &&& (x ^^^ 63) = m &&& (x ^^^ 63)
  rw [Nat.and_assoc, Nat.and_self]
theorem tb_0 : ∀ l : sL, tbL l 0 = 0
  | [] => rfl
  | x :: l => by
    show min (tbL l 0) (tbL l (an 0 x.2) + 1) = 0
    rw [tb_0 l]; exact Nat.zero_min _
theorem tb_pos : ∀ (l : sL) (m : Nat), m ≠ 0 → 1 ≤ tbL l m
  | [], m, h => by
    show 1 ≤ if m = 0 then 0 else 1000000
    rw [if_neg h]; omega
  | x :: l, m, h => by
    have := tb_pos l m h
    show 1 ≤ min (tbL l m) (tbL l (an m x.2) + 1)
    omega
theorem tb_le : ∀ (l : sL) (m : Nat), tbL l m ≤ 1000000
  | [], m => by
    show (if m = 0 then 0 else 1000000) ≤ 1000000
    by_cases h : m = 0
    · rw [if_pos h]; omega
    · rw [if_neg h]; exact Nat.le_refl _
  | x :: l, m => by
    have := tb_le l m
    show min (tbL l m) (tbL l (an m x.2) + 1) ≤ 1000000
    omega
theorem fL_0 (l : sL) (r : Nat) : fL l 0 r = some [] := by
  cases l with
  | nil => rfl
  | cons x l => exact if_pos rfl
theorem fL_iff : ∀ (l : sL) (m r : Nat), r < 1000000 → (fL l m r = none ↔ r < tbL l m) := by
  intro l
  induction l with
  | nil =>
    intro m r hr
    show (if m = 0 then some [] else none) = none ↔ r < if m = 0 then 0 else 1000000
    by_cases h : m = 0
    · rw [if_pos h, if_pos h]; exact ⟨fun z => (by cases z), fun z => absurd z (Nat.not_lt_zero r)⟩
    · rw [if_neg h, if_neg h]; exact ⟨fun _ => hr, fun _ => rfl⟩
  | cons x l ih =>
    intro m r hr
    by_cases h : m = 0
    · rw [h, fL_0, tb_0]; exact ⟨fun z => (by cases z), fun z => absurd z (Nat.not_lt_zero r)⟩
    · have hp := tb_pos (x :: l) m h
      have e : fL (x :: l) m r = if r = 0 then none else if an m x.2 = m then fL l m r else match fL l (an m x.2) (r - 1) with | some c => some (x.1 :: c) | none => fL l m r := if_neg h
      have et : tbL (x :: l) m = min (tbL l m) (tbL l (an m x.2) + 1) := rfl
      rw [e]
      by_cases h0 : r = 0
      · rw [if_pos h0]; exact ⟨fun _ => by omega, fun _ => rfl⟩
      · rw [if_neg h0, et]
        by_cases hd : an m x.2 = m
        · rw [if_pos hd, hd, ih m r hr]
          omega
        · rw [if_neg hd]
          have i1 := ih (an m x.2) (r - 1) (by omega)
          have i2 := ih m r hr
          cases hf : fL l (an m x.2) (r - 1) with
          | some c =>
            have : ¬ r - 1 < tbL l (an m x.2) := fun z => by rw [i1.mpr z] at hf; cases hf
            exact ⟨fun z => (by cases z), fun z => by omega⟩
          | none =>
            have := i1.mp hf
            show fL l m r = none ↔ _
            rw [i2]
            omega
theorem fL_gr : ∀ (l : sL) (m : Nat), tbL l m < 1000000 → fL l m (tbL l m) = some (grL l m) ∧ (grL l m).length = tbL l m := by
  intro l
  induction l with
  | nil =>
    intro m h
    by_cases z : m = 0
    · rw [z]; exact ⟨rfl, rfl⟩
    · exfalso
      have : (if m = 0 then 0 else 1000000) < 1000000 := h
      rw [if_neg z] at this
      omega
  | cons x l ih =>
    intro m h
    by_cases z : m = 0
    · rw [z, fL_0, tb_0]
      have : grL (x :: l) 0 = [] := if_pos rfl
      rw [this]; exact ⟨rfl, rfl⟩
    · have hp := tb_pos (x :: l) m z
      have et : tbL (x :: l) m = min (tbL l m) (tbL l (an m x.2) + 1) := rfl
      have e : ∀ r, fL (x :: l) m r = if r = 0 then none else if an m x.2 = m then fL l m r else match fL l (an m x.2) (r - 1) with | some c => some (x.1 :: c) | none => fL l m r := fun r => if_neg z
      have eg : grL (x :: l) m = if tbL l (an m x.2) + 1 = tbL (x :: l) m then x.1 :: grL l (an m x.2) else grL l m := if_neg z
      rw [e, eg, if_neg (show ¬ tbL (x :: l) m = 0 by omega)]
      by_cases hd : an m x.2 = m
      · have h1 : tbL (x :: l) m = tbL l m := by rw [et, hd]; omega
        rw [if_pos hd, hd, h1, if_neg (by omega)]
        exact ih m (by omega)
      · rw [if_neg hd]
        by_cases ht : tbL l (an m x.2) + 1 = tbL (x :: l) m
        · obtain ⟨i1, i2⟩ := ih (an m x.2) (by omega)
          rw [if_pos ht, show tbL (x :: l) m - 1 = tbL l (an m x.2) by omega, i1]
          exact ⟨rfl, by show (grL l (an m x.2)).length + 1 = _; omega⟩
        · have h1 : tbL (x :: l) m = tbL l m := by omega
          have hn : fL l (an m x.2) (tbL (x :: l) m - 1) = none := (fL_iff l _ _ (by omega)).mpr (by omega)
          rw [if_neg ht, hn, h1]
          exact ih m (by omega)
/-- a stand that shows nothing of what is wanted may go -/
theorem dj_rm {x : Nat × Nat} {l2 : sL} : ∀ (l1 : sL) (m r : Nat), an m x.2 = m → fL (l1 ++ x :: l2) m r = fL (l1 ++ l2) m r := by
  intro l1
  induction l1 with
  | nil =>
    intro m r h
    by_cases z : m = 0
    · rw [z, fL_0, fL_0]
    · have e : fL (x :: l2) m r = if r = 0 then none else if an m x.2 = m then fL l2 m r else match fL l2 (an m x.2) (r - 1) with | some c => some (x.1 :: c) | none => fL l2 m r := if_neg z
      show fL (x :: l2) m r = fL l2 m r
      rw [e, if_pos h]
      by_cases h0 : r = 0
      · rw [if_pos h0, h0, (fL_iff l2 m 0 (by omega)).mpr (by have := tb_pos l2 m z; omega)]
      · rw [if_neg h0]
  | cons y l1 ih =>
    intro m r h
    show fL (y :: (l1 ++ x :: l2)) m r = fL (y :: (l1 ++ l2)) m r
    have h2 : an (an m y.2) x.2 = an m y.2 := by rw [an_comm, h]
    unfold fL
    rw [ih m r h, ih (an m y.2) (r - 1) h2]
/-- .. and one that shows what another did that was tried in vain -/
theorem dup_rm {x : Nat × Nat} {l2 : sL} : ∀ (l1 : sL) (m r : Nat), r < 1000000 → r ≤ tbL (l1 ++ l2) (an m x.2) → fL (l1 ++ x :: l2) m r = fL (l1 ++ l2) m r := by
  intro l1
  induction l1 with
  | nil =>
    intro m r hr h
    by_cases z : m = 0
    · rw [z, fL_0, fL_0]
    · have e : fL (x :: l2) m r = if r = 0 then none else if an m x.2 = m then fL l2 m r else match fL l2 (an m x.2) (r - 1) with | some c => some (x.1 :: c) | none => fL l2 m r := if_neg z
      show fL (x :: l2) m r = fL l2 m r
      rw [e]
      by_cases h0 : r = 0
      · rw [if_pos h0, h0, (fL_iff l2 m 0 (by omega)).mpr (by have := tb_pos l2 m z; omega)]
      · rw [if_neg h0]
        by_cases hd : an m x.2 = m
        · rw [if_pos hd]
        · have h : r ≤ tbL l2 (an m x.2) := h
          rw [if_neg hd, (fL_iff l2 (an m x.2) (r - 1) (by omega)).mpr (by omega)]
  | cons y l1 ih =>
    intro m r hr h
    have h : r ≤ min (tbL (l1 ++ l2) (an m x.2)) (tbL (l1 ++ l2) (an (an m x.2) y.2) + 1) := h
    show fL (y :: (l1 ++ x :: l2)) m r = fL (y :: (l1 ++ l2)) m r
    unfold fL
    rw [ih m r hr (by omega), ih (an m y.2) (r - 1) (by omega) (by rw [an_comm]; omega)]
theorem same_rm {x y : Nat × Nat} {l1 l2 : sL} (hxy : x.2 = y.2) : ∀ (l0 : sL) (m r : Nat), r < 1000000 → fL (l0 ++ y :: (l1 ++ x :: l2)) m r = fL (l0 ++ y :: (l1 ++ l2)) m r := by
  intro l0
  induction l0 with
  | nil =>
    intro m r hr
    show fL (y :: (l1 ++ x :: l2)) m r = fL (y :: (l1 ++ l2)) m r
    by_cases z : m = 0
    · rw [z, fL_0, fL_0]
    · have e : ∀ l, fL (y :: l) m r = if r = 0 then none else if an m y.2 = m then fL l m r else match fL l (an m y.2) (r - 1) with | some c => some (y.1 :: c) | none => fL l m r := fun l => if_neg z
      rw [e, e]
      by_cases h0 : r = 0
      · rw [if_pos h0, if_pos h0]
      · rw [if_neg h0, if_neg h0]
        by_cases hd : an m y.2 = m
        · rw [if_pos hd, if_pos hd, dj_rm l1 m r (by rw [hxy]; exact hd)]
        · rw [if_neg hd, if_neg hd, dj_rm l1 (an m y.2) (r - 1) (by rw [hxy, an_id])]
          cases hf : fL (l1 ++ l2) (an m y.2) (r - 1) with
          | some c => rfl
          | none =>
            have := (fL_iff _ _ _ (by omega)).mp hf
            exact dup_rm l1 m r hr (by rw [hxy]; omega)
  | cons z l0 ih =>
    intro m r hr
    show fL (z :: (l0 ++ y :: (l1 ++ x :: l2))) m r = fL (z :: (l0 ++ y :: (l1 ++ l2))) m r
    unfold fL
    rw [ih m r hr, ih (an m z.2) (r - 1) (by omega)]
/-- how many are enough -/
theorem pcan_chk : ((List.range 64).all fun a => (List.range 64).all fun b => (decide (an a b = a) || decide (pc (an a b) + 1 ≤ pc a)) && decide (an a (b ||| 0) = an a b) && (decide (nI b &&& nI a = 0) == decide (an a b = a))) = true := by decide +kernel
theorem pcan {a b : Nat} (ha : a < 64) (hb : b < 64) : (an a b = a ∨ pc (an a b) + 1 ≤ pc a) ∧ (nI b &&& nI a = 0 ↔ an a b = a) := by
  have h := all_r (all_r pcan_chk ha) hb
  rw [Bool.and_eq_true, Bool.and_eq_true, Bool.or_eq_true, decide_eq_true_eq, decide_eq_true_eq, beq_iff_eq] at h
  exact ⟨h.1.1, decide_eq_decide.mp h.2⟩
def orL : sL → Nat
  | [] => 0
  | x :: l => x.2 ||| orL l
theorem tb_few : ∀ (l : sL) (m : Nat), m < 64 → (∀ x, x ∈ l → x.2 < 64) → an m (orL l) = 0 → tbL l m ≤ pc m := by
  intro l
  induction l with
  | nil =>
    intro m hm _ h
    have hz : m = 0 := by
      have hc : ((List.range 64).all fun a => decide (an a 0 = a)) = true := by decide
      have := of_decide_eq_true (all_r hc hm)
      rw [← this]; exact h
    rw [hz, tb_0]; exact Nat.zero_le _
  | cons x l ih =>
    intro m hm hx h
    have hx2 := hx x (by simp)
    have hor : an (an m x.2) (orL l) = 0 := by
      have h : m &&& ((x.2 ||| orL l) ^^^ 63) = 0 := h
      refine Nat.eq_of_testBit_eq (fun i => ?_)
      have hi := congrArg (fun z => z.testBit i) h
      have hi : (m &&& ((x.2 ||| orL l) ^^^ 63)).testBit i = (0 : Nat).testBit i := hi
      rw [Nat.testBit_and, Nat.testBit_xor, Nat.testBit_or, Nat.zero_testBit] at hi
      show (m &&& (x.2 ^^^ 63) &&& (orL l ^^^ 63)).testBit i = (0 : Nat).testBit i
      rw [Nat.testBit_and, Nat.testBit_and, Nat.testBit_xor, Nat.testBit_xor, Nat.zero_testBit]
      revert hi
      by_cases h6 : i < 6
      · have h63 : (63 : Nat).testBit i = true := all_r tb63_chk h6
        rw [h63]
        cases m.testBit i <;> cases x.2.testBit i <;> cases (orL l).testBit i <;> simp
      · have hmi : m.testBit i = false := Nat.testBit_lt_two_pow (Nat.lt_of_lt_of_le (show m < 2 ^ 6 from hm) (Nat.pow_le_pow_right (by omega) (show 6 ≤ i by omega)))
        rw [hmi]; simp
    have et : tbL (x :: l) m = min (tbL l m) (tbL l (an m x.2) + 1) := rfl
    have h1 := ih (an m x.2) (an_lt hm) (fun z hz => hx z (List.mem_cons_of_mem _ hz)) hor
    rcases (pcan hm hx2).1 with w | w
    · rw [w] at h1
      rw [et]; omega
    · rw [et]; omega
end COVER

/-! Numbers, for the pure part. -/
section NUM
theorem bI_s (x : Int32) (s : xS) (k : Int32 → xS → Option xO) : bI (some (some (vI x), s)) k = k x s := rfl
theorem bL_s (x : Int64) (s : xS) (k : Int64 → xS → Option xO) : bL (some (some (vL x), s)) k = k x s := rfl
theorem bV_s (s : xS) (k : xS → Option xO) : bV (some (none, s)) k = k s := rfl
def ib (b : Bool) : Int32 := bif b then 1 else 0
theorem ib_0 {b : Bool} : ib b = 0 ↔ b = false := by cases b <;> decide
theorem ib_1 {b : Bool} : ib b = 1 ↔ b = true := by cases b <;> decide
theorem nb_ib (b : Bool) : x_nb (ib b) = ib b := by cases b <;> decide
theorem nb_0 : x_nb 0 = ib false := by decide
theorem nb_1 : x_nb 1 = ib true := by decide
theorem n_lt {a b : Nat} (ha : a < 2147483648) (hb : b < 2147483648) : (nI a < nI b) ↔ a < b := nI_ltI ha hb
theorem n_le {a b : Nat} (ha : a < 2147483648) (hb : b < 2147483648) : (nI a ≤ nI b) ↔ a ≤ b := nI_leI ha hb
theorem n_eq {a b : Nat} (ha : a < 2147483648) (hb : b < 2147483648) : (nI a = nI b) ↔ a = b := nI_eq ha hb
theorem n_in {k n : Nat} (h : k < 2147483648) : x_in (nI k) n = decide (k < n) := by
  unfold x_in
  rw [nI_clamp h]
  have z : ¬ nI k < 0 := nI_pos h
  by_cases hk : k < n
  · rw [decide_eq_true hk, decide_eq_true]; intro q; rcases q with q | q
    · exact z q
    · omega
  · rw [decide_eq_false hk, decide_eq_false]; intro q; exact q (Or.inr (by omega))
theorem n_cl {k : Nat} (h : k < 2147483648) : (nI k).toNatClampNeg = k := nI_clamp h
theorem n_sub {a b : Nat} (h : b ≤ a) : nI a - nI b = nI (a - b) := pk_sub h
theorem n_div {a d : Nat} (ha : a < 2147483648) (h0 : 0 < d) (hd : d < 2147483648) : nI a / nI d = nI (a / d) := pk_div ha h0 hd
theorem n_rem {a d : Nat} (ha : a < 2147483648) (h0 : 0 < d) (hd : d < 2147483648) : jrem (nI a) (nI d) = nI (a % d) := pk_rem ha h0 hd
theorem n_ofNat (n : Nat) : Int32.ofNat n = nI n := rfl
theorem wI_get (s : xS) (c i k : Nat) (x : Int32) (c' i' k' : Nat) : (wI s c i k x).1 c' i' k' = if c' = c ∧ k' = k ∧ i' = i then x else s.1 c' i' k' := rfl
theorem wL_get (s : xS) (c i k : Nat) (x : Int64) (c' i' k' : Nat) : (wL s c i k x).2 c' i' k' = if c' = c ∧ k' = k ∧ i' = i then x else s.2 c' i' k' := rfl
/-- a number is below 0, or one of the plain ones -/
theorem n_of (x : Int32) : x < 0 ∨ ∃ k : Nat, k < 2147483648 ∧ x = nI k := by
  by_cases h : x < 0
  · exact Or.inl h
  · exact Or.inr (nI_of h)
theorem n_neg_in {x : Int32} {n : Nat} (h : x < 0) : x_in x n = false := by
  unfold x_in; rw [decide_eq_false]; intro q; exact q (Or.inl h)
theorem n_in_iff {x : Int32} {n : Nat} (hn : n < 2147483648) : x_in x n = true ↔ ∃ k, k < n ∧ x = nI k := by
  rcases n_of x with h | ⟨k, hk, rfl⟩
  · rw [n_neg_in h]
    constructor
    · intro q; cases q
    · intro ⟨k, h1, h2⟩; rw [h2] at h; exact absurd h (nI_pos (by omega))
  · rw [n_in hk]
    constructor
    · intro q; exact ⟨k, of_decide_eq_true q, rfl⟩
    · intro ⟨j, h1, h2⟩
      have := (n_eq hk (by omega)).mp h2
      exact decide_eq_true (by omega)
/-- within: not below 0, and below n -/
theorem n_in2 (x : Int32) {n : Nat} (hn : n < 2147483648) : x_in x n = (!decide (x < 0) && decide (x < nI n)) := by
  rcases n_of x with h | ⟨k, hk, rfl⟩
  · rw [n_neg_in h, decide_eq_true h]; rfl
  · rw [n_in hk, decide_eq_false (nI_pos hk)]
    by_cases hkn : k < n
    · rw [decide_eq_true hkn, decide_eq_true ((n_lt hk hn).mpr hkn)]; rfl
    · rw [decide_eq_false hkn, decide_eq_false (fun q => hkn ((n_lt hk hn).mp q))]; rfl
end NUM

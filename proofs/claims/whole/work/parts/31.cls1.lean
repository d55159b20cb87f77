/-! Closed forms of the smallest methods of the class. -/
section CLS1
theorem max_s (d : Nat) (x y : Int32) (s : xS) : ev (d + 1) f_Math_max [vI x, vI y] s = some (some (vI (if x < y then y else x)), s) := by
  rw [Math_max_eq]; split <;> rfl
theorem min_s (d : Nat) (x y : Int32) (s : xS) : ev (d + 1) f_Math_min [vI x, vI y] s = some (some (vI (if y < x then y else x)), s) := by
  rw [Math_min_eq]; split <;> rfl
theorem out_has {d i n : Nat} {x : Int32} {s : xS} (hn : s.1 3 i 3 = nI n) (h4 : n ≤ 4) : ev (d + 1) f_Outing_has [vR 3 i, vI x] s = some (some (vI (ib (x_in x n))), s) := by
  rw [Outing_has_eq, hn, n_in2 x (by omega), nb_0, nb_1]
  by_cases h : x < 0
  · simp [h]
  · by_cases h2 : x < nI n <;> simp [h, h2]
theorem out_fieldOf {d i n : Nat} {x : Int32} {s : xS} (hn : s.1 3 i 3 = nI n) (h4 : n ≤ 4) : ev (d + 2) f_Outing_fieldOf [vR 3 i, vI x] s = some (some (vI (bif x_in x n then s.1 17 i x.toNatClampNeg else -1)), s) := by
  rw [Outing_fieldOf_eq, out_has hn h4, bI_s]
  cases hx : x_in x n with
  | false => rfl
  | true =>
    obtain ⟨k, hk, rfl⟩ := (n_in_iff (by omega)).mp hx
    simp [ib, n_in (show k < 2147483648 by omega), show k < 4 by omega]
end CLS1

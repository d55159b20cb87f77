/-! Rows filled. -/
section FILL2
def x_fillF (s : xS) (c k n : Nat) (x : Int32) : xS := (fun c' i' k' => if c' = c ∧ i' = 0 ∧ k ≤ k' ∧ k' < n then x else s.1 c' i' k', s.2)
theorem fill_gen {c N n : Nat} {x : Int32} (hn : n ≤ N) (hN : N < 2147483648) (L : Int32 → xS → Option xO) (hL : ∀ y s, L y s = if y < nI n then (if x_in y N then L (y + 1) (wI s c 0 y.toNatClampNeg x) else none) else some (none, s)) :
    ∀ (m k : Nat) (s : xS), k + m = n → L (nI k) s = some (none, x_fillF s c k n x) := by
  intro m
  induction m with
  | zero =>
    intro k s hk
    rw [hL, if_neg (by rw [n_lt (by omega) (by omega)]; omega)]
    congr 2
    unfold x_fillF
    refine Prod.ext (funext fun c' => funext fun i' => funext fun k' => ?_) rfl
    dsimp only
    rw [if_neg (by omega)]
  | succ m ih =>
    intro k s hk
    rw [hL, if_pos ((n_lt (by omega) (by omega)).mpr (by omega)), n_in (by omega), if_pos (decide_eq_true (by omega)), n_cl (by omega), nI_1, ih (k + 1) _ (by omega)]
    congr 2
    unfold x_fillF wI
    refine Prod.ext (funext fun c' => funext fun i' => funext fun k' => ?_) rfl
    dsimp only
    by_cases h1 : c' = c ∧ i' = 0
    · by_cases h2 : k' = k
      · rw [if_neg (by omega), if_pos ⟨h1.1, h2, h1.2⟩, if_pos ⟨h1.1, h1.2, by omega, by omega⟩]
      · by_cases h3 : k ≤ k' ∧ k' < n
        · rw [if_pos ⟨h1.1, h1.2, by omega, by omega⟩, if_pos ⟨h1.1, h1.2, by omega, by omega⟩]
        · rw [if_neg (by omega), if_neg (fun q => h2 q.2.1), if_neg (fun q => h3 q.2.2)]
    · rw [if_neg (fun q => h1 ⟨q.1, q.2.1⟩), if_neg (fun q => h1 ⟨q.1, q.2.2⟩), if_neg (fun q => h1 ⟨q.1, q.2.1⟩)]
theorem fill_30 (d : Nat) (x : Int32) (s : xS) : ev (d + 1) f_Arrays_fill [vR 30 0, vI x] s = some (none, x_fillF s 30 0 36 x) := by
  rw [Arrays_fill30_eq]
  exact fill_gen (N := 36) (n := 36) (Nat.le_refl _) (by decide) (fun y s => Arrays_fill30_L1 d x y (nI 36) s) (fun y s => Arrays_fill30_L1_eq d x y (nI 36) s) 36 0 s rfl
theorem fill_32 (d : Nat) (x : Int32) (s : xS) : ev (d + 1) f_Arrays_fill [vR 32 0, vI x] s = some (none, x_fillF s 32 0 36 x) := by
  rw [Arrays_fill32_eq]
  exact fill_gen (N := 36) (n := 36) (Nat.le_refl _) (by decide) (fun y s => Arrays_fill32_L1 d x y (nI 36) s) (fun y s => Arrays_fill32_L1_eq d x y (nI 36) s) 36 0 s rfl
theorem fill_33 (d : Nat) (x : Int32) (s : xS) : ev (d + 1) f_Arrays_fill [vR 33 0, vI x] s = some (none, x_fillF s 33 0 36 x) := by
  rw [Arrays_fill33_eq]
  exact fill_gen (N := 36) (n := 36) (Nat.le_refl _) (by decide) (fun y s => Arrays_fill33_L1 d x y (nI 36) s) (fun y s => Arrays_fill33_L1_eq d x y (nI 36) s) 36 0 s rfl
theorem fill_34 (d : Nat) (x : Int32) (s : xS) : ev (d + 1) f_Arrays_fill [vR 34 0, vI x] s = some (none, x_fillF s 34 0 36 x) := by
  rw [Arrays_fill34_eq]
  exact fill_gen (N := 36) (n := 36) (Nat.le_refl _) (by decide) (fun y s => Arrays_fill34_L1 d x y (nI 36) s) (fun y s => Arrays_fill34_L1_eq d x y (nI 36) s) 36 0 s rfl
theorem fill_35 (d : Nat) (x : Int32) (s : xS) : ev (d + 1) f_Arrays_fill [vR 35 0, vI x] s = some (none, x_fillF s 35 0 2304 x) := by
  rw [Arrays_fill35_eq]
  exact fill_gen (N := 2304) (n := 2304) (Nat.le_refl _) (by decide) (fun y s => Arrays_fill35_L1 d x y (nI 2304) s) (fun y s => Arrays_fill35_L1_eq d x y (nI 2304) s) 2304 0 s rfl
theorem fill_37 (d : Nat) (x : Int32) (s : xS) : ev (d + 1) f_Arrays_fill [vR 37 0, vI x] s = some (none, x_fillF s 37 0 1008 x) := by
  rw [Arrays_fill37_eq]
  exact fill_gen (N := 1008) (n := 1008) (Nat.le_refl _) (by decide) (fun y s => Arrays_fill37_L1 d x y (nI 1008) s) (fun y s => Arrays_fill37_L1_eq d x y (nI 1008) s) 1008 0 s rfl
end FILL2

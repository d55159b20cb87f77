/-! Long.bitCount of numbers of 35 bits; bits by a property. -/
section LBC
def sw1 (M x : Nat) : Nat := x - ((x / 2) &&& M)
def sw2 (M x : Nat) : Nat := (x &&& M) + ((x / 4) &&& M)
theorem tb_by {x y i : Nat} (hy : y < 256) : (256 * x + y).testBit i = if i < 8 then y.testBit i else x.testBit (i - 8) := by
  have := Nat.testBit_two_pow_mul_add x (i := 8) (b := y) hy i
  exact this
theorem and_by {x y M m : Nat} (hy : y < 256) (hm : m < 256) : (256 * x + y) &&& (256 * M + m) = 256 * (x &&& M) + (y &&& m) := by
  have h : y &&& m < 256 := Nat.lt_of_le_of_lt Nat.and_le_left hy
  apply Nat.eq_of_testBit_eq
  intro i
  rw [Nat.testBit_and, tb_by hy, tb_by hm, tb_by h]
  by_cases q : i < 8
  · rw [if_pos q, if_pos q, if_pos q, Nat.testBit_and]
  · rw [if_neg q, if_neg q, if_neg q, Nat.testBit_and]
theorem shr_by {x y M m k : Nat} (hy : y < 256) (hm : m < 2 ^ (8 - k)) (hk : k ≤ 8) : ((256 * x + y) / 2 ^ k) &&& (256 * M + m) = 256 * ((x / 2 ^ k) &&& M) + ((y / 2 ^ k) &&& m) := by
  have hm' : m < 256 := Nat.lt_of_lt_of_le hm (by have := Nat.pow_le_pow_right (n := 2) (by omega) (show 8 - k ≤ 8 by omega); omega)
  have h : (y / 2 ^ k) &&& m < 256 := Nat.lt_of_le_of_lt Nat.and_le_right hm'
  apply Nat.eq_of_testBit_eq
  intro i
  rw [Nat.testBit_and, Nat.testBit_div_two_pow, tb_by hy, tb_by hm', tb_by h]
  by_cases q : i < 8
  · rw [if_pos q, if_pos q, Nat.testBit_and, Nat.testBit_div_two_pow]
    by_cases r : i + k < 8
    · rw [if_pos r]
    · have : m.testBit i = false := Nat.testBit_lt_two_pow (Nat.lt_of_lt_of_le hm (Nat.pow_le_pow_right (by omega) (by omega)))
      rw [this, Bool.and_false, Bool.and_false]
  · rw [if_neg q, if_neg q, if_neg (show ¬ i + k < 8 by omega), Nat.testBit_and, Nat.testBit_div_two_pow]
    rw [show i + k - 8 = i - 8 + k by omega]
theorem sw1_by {x y M : Nat} (hy : y < 256) : sw1 (256 * M + 85) (256 * x + y) = 256 * sw1 M x + sw1 85 y := by
  unfold sw1
  have e := shr_by (x := x) (y := y) (M := M) (m := 85) (k := 1) hy (by decide) (by omega)
  rw [Nat.pow_one] at e
  rw [e]
  have h1 : (x / 2) &&& M ≤ x := Nat.le_trans Nat.and_le_left (Nat.div_le_self _ _)
  have h2 : (y / 2) &&& 85 ≤ y := Nat.le_trans Nat.and_le_left (Nat.div_le_self _ _)
  omega
theorem sw1_lt {y M : Nat} (hy : y < 256) : sw1 M y < 256 := Nat.lt_of_le_of_lt (Nat.sub_le _ _) hy
theorem sw2_by {x y M : Nat} (hy : y < 256) : sw2 (256 * M + 51) (256 * x + y) = 256 * sw2 M x + sw2 51 y := by
  unfold sw2
  have e := shr_by (x := x) (y := y) (M := M) (m := 51) (k := 2) hy (by decide) (by omega)
  rw [show (2 : Nat) ^ 2 = 4 from rfl] at e
  rw [e, and_by hy (by decide)]
  omega
/-- one byte -/
theorem by_chk : ((List.range 256).all fun l => decide (sw2 51 (sw1 85 l) % 16 ≤ 4 ∧ sw2 51 (sw1 85 l) / 16 ≤ 4 ∧ sw2 51 (sw1 85 l) % 16 + sw2 51 (sw1 85 l) / 16 = cnt l.testBit 8)) = true := by decide +kernel
theorem top_chk : ((List.range 8).all fun l => decide (sw2 858993459 (sw1 1431655765 l) = sw2 51 (sw1 85 l) ∧ cnt l.testBit 8 = cnt l.testBit 3)) = true := by decide +kernel
theorem cnt_split (p : Nat → Bool) (m : Nat) : ∀ n, cnt p (m + n) = cnt p m + cnt (fun i => p (m + i)) n
  | 0 => rfl
  | n + 1 => by
    show cnt p (m + n) + (bif p (m + n) then 1 else 0) = cnt p m + (cnt (fun i => p (m + i)) n + (bif p (m + n) then 1 else 0))
    rw [cnt_split p m n, Nat.add_assoc]
theorem cnt_by {x y n : Nat} (hy : y < 256) : cnt (256 * x + y).testBit (8 + n) = cnt y.testBit 8 + cnt x.testBit n := by
  rw [cnt_split]
  congr 1
  · exact cnt_cong (fun k hk => by rw [tb_by hy, if_pos hk])
  · exact cnt_cong (fun k hk => by rw [tb_by hy, if_neg (by omega), show 8 + k - 8 = k by omega])
def bc1 (x : Int64) : Int64 := x - (jlushr x 1 &&& 6148914691236517205)
def bc2 (x : Int64) : Int64 := (x &&& 3689348814741910323) + (jlushr x 2 &&& 3689348814741910323)
def bc3 (x : Int64) : Int64 := (x + jlushr x 4) &&& 1085102592571150095
def bc4 (x : Int64) : Int64 := x + jlushr x 8
def bc5 (x : Int64) : Int64 := x + jlushr x 16
def bc6 (x : Int64) : Int64 := x + jlushr x 32
theorem jl_shr {a k : Nat} (ha : a < 18446744073709551616) (hk : k < 64) : jlushr (lN a) (nI k) = lN (a / 2 ^ k) := wb_shr (by omega) hk
theorem lN_andL (a b : Nat) : lN a &&& lN b = lN (a &&& b) := fb_andL a b
theorem and15 (x : Nat) : x &&& 15 = x % 16 := Nat.and_two_pow_sub_one_eq_mod x 4
theorem nib {c x : Nat} (h1 : c % 16 ≤ 4) (h2 : c / 16 ≤ 4) : (c + c / 16 + 16 * x) % 16 = c % 16 + c / 16 := by omega
theorem m128 {X y : Nat} (h : y ≤ 40) : (256 * X + y) % 2 ^ 7 = y := by omega
theorem bc_long {d a : Nat} {s : xS} (ha : a < 34359738368) : ev (d + 1) f_Long_bitCount [vL (lN a)] s = some (some (vI (nI (cnt a.testBit 35))), s) := by
  rw [Long_bitCount_eq]
  show some (some (vI ((bc6 (bc5 (bc4 (bc3 (bc2 (bc1 (lN a))))))).toInt32 &&& 127)), s) = _
  -- five bytes
  obtain ⟨a0, h0, x1, e0⟩ : ∃ a0, a0 < 256 ∧ ∃ x1, a = 256 * x1 + a0 := ⟨a % 256, by omega, a / 256, by omega⟩
  obtain ⟨a1, h1, x2, e1⟩ : ∃ a0, a0 < 256 ∧ ∃ y, x1 = 256 * y + a0 := ⟨x1 % 256, by omega, x1 / 256, by omega⟩
  obtain ⟨a2, h2, x3, e2⟩ : ∃ a0, a0 < 256 ∧ ∃ y, x2 = 256 * y + a0 := ⟨x2 % 256, by omega, x2 / 256, by omega⟩
  obtain ⟨a3, h3, a4, e3⟩ : ∃ a0, a0 < 256 ∧ ∃ y, x3 = 256 * y + a0 := ⟨x3 % 256, by omega, x3 / 256, by omega⟩
  have h4 : a4 < 8 := by omega
  have s1 : sw1 6148914691236517205 a = 256 * (256 * (256 * (256 * sw1 1431655765 a4 + sw1 85 a3) + sw1 85 a2) + sw1 85 a1) + sw1 85 a0 := by
    rw [e0, show 6148914691236517205 = 256 * 24019198012642645 + 85 from rfl, sw1_by h0, e1, show 24019198012642645 = 256 * 93824992236885 + 85 from rfl, sw1_by h1, e2, show 93824992236885 = 256 * 366503875925 + 85 from rfl, sw1_by h2, e3, show 366503875925 = 256 * 1431655765 + 85 from rfl, sw1_by h3]
  have s2 : sw2 3689348814741910323 (sw1 6148914691236517205 a) = 256 * (256 * (256 * (256 * sw2 858993459 (sw1 1431655765 a4) + sw2 51 (sw1 85 a3)) + sw2 51 (sw1 85 a2)) + sw2 51 (sw1 85 a1)) + sw2 51 (sw1 85 a0) := by
    rw [s1, show 3689348814741910323 = 256 * 14411518807585587 + 51 from rfl, sw2_by (sw1_lt h0), show 14411518807585587 = 256 * 56294995342131 + 51 from rfl, sw2_by (sw1_lt h1), show 56294995342131 = 256 * 219902325555 + 51 from rfl, sw2_by (sw1_lt h2), show 219902325555 = 256 * 858993459 + 51 from rfl, sw2_by (sw1_lt h3)]
  have t4 := of_decide_eq_true (all_r top_chk h4)
  have b0 := of_decide_eq_true (all_r by_chk h0)
  have b1 := of_decide_eq_true (all_r by_chk h1)
  have b2 := of_decide_eq_true (all_r by_chk h2)
  have b3 := of_decide_eq_true (all_r by_chk h3)
  have b4 := of_decide_eq_true (all_r by_chk (show a4 < 256 by omega))
  have ec : cnt a.testBit 35 = cnt a0.testBit 8 + (cnt a1.testBit 8 + (cnt a2.testBit 8 + (cnt a3.testBit 8 + cnt a4.testBit 3))) := by
    rw [e0, show 35 = 8 + 27 from rfl, cnt_by h0, e1, show 27 = 8 + 19 from rfl, cnt_by h1, e2, show 19 = 8 + 11 from rfl, cnt_by h2, e3, show 11 = 8 + 3 from rfl, cnt_by h3]
  rw [t4.1] at s2
  rw [ec, ← t4.2]
  generalize sw2 51 (sw1 85 a0) = c0 at *
  generalize sw2 51 (sw1 85 a1) = c1 at *
  generalize sw2 51 (sw1 85 a2) = c2 at *
  generalize sw2 51 (sw1 85 a3) = c3 at *
  generalize sw2 51 (sw1 85 a4) = c4 at *
  have L1 : sw1 6148914691236517205 a ≤ a := Nat.sub_le _ _
  have r1 : bc1 (lN a) = lN (sw1 6148914691236517205 a) := by
    unfold bc1 sw1
    rw [show (1 : Int32) = nI 1 from rfl, jl_shr (by omega) (by omega), show (6148914691236517205 : Int64) = lN 6148914691236517205 from rfl, lN_andL, Nat.pow_one, lN_sub (Nat.le_trans Nat.and_le_left (Nat.div_le_self _ _))]
  have r2 : bc2 (bc1 (lN a)) = lN (sw2 3689348814741910323 (sw1 6148914691236517205 a)) := by
    rw [r1]
    unfold bc2 sw2
    rw [show (2 : Int32) = nI 2 from rfl, jl_shr (by omega) (by omega), show (3689348814741910323 : Int64) = lN 3689348814741910323 from rfl, lN_andL, lN_andL, lN_add]
  rw [r2, s2]
  have r3 : bc3 (lN (256 * (256 * (256 * (256 * c4 + c3) + c2) + c1) + c0)) = lN (256 * (256 * (256 * (256 * (c4 % 16 + c4 / 16) + (c3 % 16 + c3 / 16)) + (c2 % 16 + c2 / 16)) + (c1 % 16 + c1 / 16)) + (c0 % 16 + c0 / 16)) := by
    unfold bc3
    rw [show (4 : Int32) = nI 4 from rfl, jl_shr (by omega) (by omega), lN_add, show (1085102592571150095 : Int64) = lN 1085102592571150095 from rfl, lN_andL]
    congr 1
    have e : 256 * (256 * (256 * (256 * c4 + c3) + c2) + c1) + c0 + (256 * (256 * (256 * (256 * c4 + c3) + c2) + c1) + c0) / 2 ^ 4 = 256 * (256 * (256 * (256 * (c4 + c4 / 16) + (c3 + c3 / 16 + 16 * (c4 % 16))) + (c2 + c2 / 16 + 16 * (c3 % 16))) + (c1 + c1 / 16 + 16 * (c2 % 16))) + (c0 + c0 / 16 + 16 * (c1 % 16)) := by omega
    rw [e, show 1085102592571150095 = 256 * 4238682002231055 + 15 from rfl, and_by (by omega) (by decide), show 4238682002231055 = 256 * 16557351571215 + 15 from rfl, and_by (by omega) (by decide), show 16557351571215 = 256 * 64677154575 + 15 from rfl, and_by (by omega) (by decide), show 64677154575 = 256 * 252645135 + 15 from rfl, and_by (by omega) (by decide), and15, and15, and15, and15]
    have e4 : (c4 + c4 / 16) &&& 252645135 = c4 % 16 + c4 / 16 := by
      have q : (c4 + c4 / 16) &&& 252645135 = (256 * 0 + (c4 + c4 / 16)) &&& (256 * 986895 + 15) := by rw [Nat.mul_zero, Nat.zero_add]
      rw [q, and_by (by omega) (by decide), Nat.zero_and, and15]; omega
    rw [e4, nib b0.1 b0.2.1, nib b1.1 b1.2.1, nib b2.1 b2.2.1, nib b3.1 b3.2.1]
  rw [r3]
  have k0 : c0 % 16 + c0 / 16 ≤ 8 := by omega
  have k1 : c1 % 16 + c1 / 16 ≤ 8 := by omega
  have k2 : c2 % 16 + c2 / 16 ≤ 8 := by omega
  have k3 : c3 % 16 + c3 / 16 ≤ 8 := by omega
  have k4 : c4 % 16 + c4 / 16 ≤ 8 := by omega
  rw [← b0.2.2, ← b1.2.2, ← b2.2.2, ← b3.2.2, ← b4.2.2]
  generalize c0 % 16 + c0 / 16 = d0 at *
  generalize c1 % 16 + c1 / 16 = d1 at *
  generalize c2 % 16 + c2 / 16 = d2 at *
  generalize c3 % 16 + c3 / 16 = d3 at *
  generalize c4 % 16 + c4 / 16 = d4 at *
  have r4 : bc4 (lN (256 * (256 * (256 * (256 * d4 + d3) + d2) + d1) + d0)) = lN (256 * (256 * (256 * (256 * d4 + (d3 + d4)) + (d2 + d3)) + (d1 + d2)) + (d0 + d1)) := by
    unfold bc4
    rw [show (8 : Int32) = nI 8 from rfl, jl_shr (by omega) (by omega), lN_add]
    congr 1; omega
  have r5 : bc5 (lN (256 * (256 * (256 * (256 * d4 + (d3 + d4)) + (d2 + d3)) + (d1 + d2)) + (d0 + d1))) = lN (256 * (256 * (256 * (256 * d4 + (d3 + d4)) + (d2 + d3 + d4)) + (d1 + d2 + d3 + d4)) + (d0 + d1 + d2 + d3)) := by
    unfold bc5
    rw [show (16 : Int32) = nI 16 from rfl, jl_shr (by omega) (by omega), lN_add]
    congr 1; omega
  have r6 : bc6 (lN (256 * (256 * (256 * (256 * d4 + (d3 + d4)) + (d2 + d3 + d4)) + (d1 + d2 + d3 + d4)) + (d0 + d1 + d2 + d3))) = lN (256 * (256 * (256 * (256 * d4 + (d3 + d4)) + (d2 + d3 + d4)) + (d1 + d2 + d3 + d4)) + (d0 + d1 + d2 + d3 + d4)) := by
    unfold bc6
    rw [show (32 : Int32) = nI 32 from rfl, jl_shr (by omega) (by omega), lN_add]
    congr 1; omega
  rw [r4, r5, r6, lN_i]
  have e127 : nI (256 * (256 * (256 * (256 * d4 + (d3 + d4)) + (d2 + d3 + d4)) + (d1 + d2 + d3 + d4)) + (d0 + d1 + d2 + d3 + d4)) &&& 127 = nI ((256 * (256 * (256 * (256 * d4 + (d3 + d4)) + (d2 + d3 + d4)) + (d1 + d2 + d3 + d4)) + (d0 + d1 + d2 + d3 + d4)) % 2 ^ 7) := by
    have := fa_mask (256 * (256 * (256 * (256 * d4 + (d3 + d4)) + (d2 + d3 + d4)) + (d1 + d2 + d3 + d4)) + (d0 + d1 + d2 + d3 + d4)) 7
    exact this
  rw [e127, m128 (by omega), show d0 + d1 + d2 + d3 + d4 = d0 + (d1 + (d2 + (d3 + d4))) by omega]
/-- bits by a property -/
def bitsN (p : Nat → Bool) (n : Nat) : Nat := orN (fun k => bif p k then 2 ^ k else 0) n
theorem bitsN_tb (p : Nat → Bool) (k : Nat) : ∀ n, (bitsN p n).testBit k = (decide (k < n) && p k) := by
  intro n
  induction n with
  | zero => show (0 : Nat).testBit k = _; rw [Nat.zero_testBit, decide_eq_false (by omega)]; rfl
  | succ n ih =>
    show (bitsN p n ||| (bif p n then 2 ^ n else 0)).testBit k = _
    rw [tb_or, ih]
    by_cases e : n = k
    · subst e
      rw [decide_eq_false (by omega), decide_eq_true (by omega), Bool.false_and, Bool.false_or, Bool.true_and]
      cases p n with
      | true => rw [cond_true, tb_p2, decide_eq_true rfl]
      | false => rw [cond_false, Nat.zero_testBit]
    · have : (bif p n then 2 ^ n else 0 : Nat).testBit k = false := by
        cases p n with
        | true => rw [cond_true, tb_p2, decide_eq_false e]
        | false => rw [cond_false, Nat.zero_testBit]
      rw [this, Bool.or_false]
      by_cases q : k < n
      · rw [decide_eq_true q, decide_eq_true (by omega)]
      · rw [decide_eq_false q, decide_eq_false (by omega)]
theorem bitsN_lt (p : Nat → Bool) : ∀ n, bitsN p n < 2 ^ n := by
  intro n
  induction n with
  | zero => show (0 : Nat) < 1; omega
  | succ n ih =>
    show bitsN p n ||| (bif p n then 2 ^ n else 0) < _
    refine Nat.or_lt_two_pow (Nat.lt_of_lt_of_le ih (Nat.pow_le_pow_right (by omega) (by omega))) ?_
    cases p n with
    | true => exact Nat.pow_lt_pow_right (by omega) (by omega)
    | false => exact Nat.two_pow_pos _
end LBC

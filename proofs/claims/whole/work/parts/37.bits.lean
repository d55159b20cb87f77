/-! Bits: shifts, one bit, how many, all but. -/
section BITS2
theorem j_shr {a j : Nat} (ha : a < 2147483648) (hj : j < 32) : jshr (nI a) (nI j) = nI (a / 2 ^ j) := pk_shrN ha _ j (s_l j hj)
theorem j_shl {a j : Nat} (h : a * 2 ^ j < 4294967296) (hj : j < 32) : jshl (nI a) (nI j) = nI (a * 2 ^ j) := pk_shlN _ j (s_l j hj) h
theorem p2_31 {j : Nat} (hj : j < 31) : 2 ^ j < 2147483648 := Nat.pow_lt_pow_right (a := 2) (by omega) (show j < 31 by omega)
theorem j_1shl {j : Nat} (hj : j < 31) : jshl 1 (nI j) = nI (2 ^ j) := by
  have h := p2_31 hj
  have e : jshl (nI 1) (nI j) = nI (1 * 2 ^ j) := j_shl (by omega) (by omega)
  rw [Nat.one_mul] at e; exact e
theorem n_and1 {a : Nat} (ha : a < 2147483648) : nI a &&& 1 = nI (a % 2) := pk_andN (by omega) 1 (by decide)
theorem n_and3 {a : Nat} (ha : a < 2147483648) : nI a &&& 3 = nI (a % 4) := pk_andN (by omega) 2 (by decide)
theorem n_and63 {a : Nat} (ha : a < 2147483648) : nI a &&& 63 = nI (a % 64) := pk_andN (by omega) 6 (by decide)
theorem div_lt31 {a j : Nat} (ha : a < 2147483648) : a / 2 ^ j < 2147483648 := Nat.lt_of_le_of_lt (Nat.div_le_self a _) ha
theorem tb_dm (a j : Nat) : a.testBit j = decide (a / 2 ^ j % 2 = 1) := Nat.testBit_eq_decide_div_mod_eq
theorem j_bit {a j : Nat} (ha : a < 2147483648) (hj : j < 32) : jshr (nI a) (nI j) &&& 1 = nI (bif a.testBit j then 1 else 0) := by
  rw [j_shr ha hj, n_and1 (div_lt31 ha), tb_dm]
  have := Nat.mod_two_eq_zero_or_one (a / 2 ^ j)
  rcases this with h | h <;> rw [h] <;> rfl
theorem j_bit1 {a j : Nat} (ha : a < 2147483648) (hj : j < 32) : (jshr (nI a) (nI j) &&& 1 = 1) ↔ a.testBit j = true := by
  rw [j_bit ha hj]; cases a.testBit j <;> decide
theorem j_bit0 {a j : Nat} (ha : a < 2147483648) (hj : j < 32) : (jshr (nI a) (nI j) &&& 1 = 0) ↔ a.testBit j = false := by
  rw [j_bit ha hj]; cases a.testBit j <;> decide
/-- bits of six -/
def pc (a : Nat) : Nat := cnt a.testBit 6
theorem pc_le (a : Nat) : pc a ≤ 6 := cnt_le _ 6
def bc_I (x1 : Int32) : Int32 := ((((((((x1 - ((jushr x1 1) &&& 1431655765)) &&& 858993459) + ((jushr (x1 - ((jushr x1 1) &&& 1431655765)) 2) &&& 858993459)) + (jushr (((x1 - ((jushr x1 1) &&& 1431655765)) &&& 858993459) + ((jushr (x1 - ((jushr x1 1) &&& 1431655765)) 2) &&& 858993459)) 4)) &&& 252645135) + (jushr (((((x1 - ((jushr x1 1) &&& 1431655765)) &&& 858993459) + ((jushr (x1 - ((jushr x1 1) &&& 1431655765)) 2) &&& 858993459)) + (jushr (((x1 - ((jushr x1 1) &&& 1431655765)) &&& 858993459) + ((jushr (x1 - ((jushr x1 1) &&& 1431655765)) 2) &&& 858993459)) 4)) &&& 252645135) 8)) + (jushr ((((((x1 - ((jushr x1 1) &&& 1431655765)) &&& 858993459) + ((jushr (x1 - ((jushr x1 1) &&& 1431655765)) 2) &&& 858993459)) + (jushr (((x1 - ((jushr x1 1) &&& 1431655765)) &&& 858993459) + ((jushr (x1 - ((jushr x1 1) &&& 1431655765)) 2) &&& 858993459)) 4)) &&& 252645135) + (jushr (((((x1 - ((jushr x1 1) &&& 1431655765)) &&& 858993459) + ((jushr (x1 - ((jushr x1 1) &&& 1431655765)) 2) &&& 858993459)) + (jushr (((x1 - ((jushr x1 1) &&& 1431655765)) &&& 858993459) + ((jushr (x1 - ((jushr x1 1) &&& 1431655765)) 2) &&& 858993459)) 4)) &&& 252645135) 8)) 16)) &&& 63)
theorem bc_chk : ((List.range 64).all fun a => decide (bc_I (nI a) = nI (pc a))) = true := by decide +kernel
theorem bc_s {d a : Nat} {s : xS} (ha : a < 64) : ev (d + 1) f_Integer_bitCount [vI (nI a)] s = some (some (vI (nI (pc a))), s) := by
  rw [Integer_bitCount_eq]
  show some (some (vI (bc_I (nI a))), s) = _
  rw [of_decide_eq_true (all_r bc_chk ha)]
def an (a b : Nat) : Nat := a &&& (b ^^^ 63)
theorem an_chk : ((List.range 64).all fun a => (List.range 64).all fun b => decide (nI a &&& (nI b ^^^ (-1)) = nI (an a b))) = true := by decide +kernel
theorem n_an {a b : Nat} (ha : a < 64) (hb : b < 64) : nI a &&& (nI b ^^^ (-1)) = nI (an a b) := of_decide_eq_true (all_r (all_r an_chk ha) hb)
theorem an_lt {a b : Nat} (ha : a < 64) : an a b < 64 := Nat.lt_of_le_of_lt Nat.and_le_left ha
theorem or_lt64 {a b : Nat} (ha : a < 64) (hb : b < 64) : a ||| b < 64 := Nat.or_lt_two_pow (n := 6) ha hb
theorem or_lt16 {a b : Nat} (ha : a < 16) (hb : b < 16) : a ||| b < 16 := Nat.or_lt_two_pow (n := 4) ha hb
theorem tb63_chk : ((List.range 6).all fun j => (63 : Nat).testBit j) = true := by decide
theorem an_tb {a b j : Nat} (hj : j < 6) : (an a b).testBit j = (a.testBit j && !b.testBit j) := by
  unfold an
  rw [Nat.testBit_and, Nat.testBit_xor, all_r tb63_chk hj, Bool.xor_true]
/-- a place changed -/
def up {α : Type} (F : Nat → α) (p : Nat) (v : α) : Nat → α := fun q => if q = p then v else F q
theorem up_s {α : Type} (F : Nat → α) (p : Nat) (v : α) : up F p v p = v := if_pos rfl
theorem up_n {α : Type} {F : Nat → α} {p q : Nat} {v : α} (h : q ≠ p) : up F p v q = F q := if_neg h
end BITS2

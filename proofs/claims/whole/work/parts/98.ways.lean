/-! ways: by the class, code by code; by the law, branch by branch. -/
section WAYS
variable {d R C n p x w : Nat} {kd : Nat → Nat} {S : Sn} {L : List Nat} {s t : xS} {nx : Nat → Nat → Option Nat}
def folC (nx : Nat → Nat → Option Nat) : Nat → Nat → Nat → Option Nat
  | 0, x, _ => some x
  | j + 1, x, c => match nx x (c / 4 ^ j % 4) with
    | none => none
    | some y => folC nx j y c
def waP (nx : Nat → Nat → Option Nat) (y j x c : Nat) : Bool := match folC nx j x c with
  | none => false
  | some z => decide (z % 64 = y)
theorem dig_lo {j m w c : Nat} (hc : c < 4 ^ (j + m + 1)) : (w * 4 ^ (j + m + 1) + c) / 4 ^ j % 4 = c / 4 ^ j % 4 := by
  have e : w * 4 ^ (j + m + 1) = 4 ^ j * (w * 4 ^ m * 4) := by
    rw [show j + m + 1 = j + (m + 1) by omega, Nat.pow_add, Nat.pow_succ]
    rw [Nat.mul_left_comm, Nat.mul_assoc]
  rw [e, Nat.mul_add_div (Nat.pow_pos (by omega)), Nat.mul_comm (w * 4 ^ m) 4, Nat.mul_add_mod]
theorem dig_hi {j w c : Nat} (hw : w < 4) (hc : c < 4 ^ j) : (w * 4 ^ j + c) / 4 ^ j % 4 = w := by
  have hp : 0 < 4 ^ j := Nat.pow_pos (by omega)
  rw [Nat.mul_comm w, Nat.mul_add_div hp, Nat.div_eq_of_lt hc, Nat.add_zero, Nat.mod_eq_of_lt hw]
theorem folC_lo {w : Nat} : ∀ (j : Nat) (m x c : Nat), c < 4 ^ (j + m) → folC nx j x (w * 4 ^ (j + m) + c) = folC nx j x c := by
  intro j
  induction j with
  | zero => intros; rfl
  | succ j ih =>
    intro m x c hc
    have e1 : (w * 4 ^ (j + 1 + m) + c) / 4 ^ j % 4 = c / 4 ^ j % 4 := by
      rw [show j + 1 + m = j + m + 1 by omega] at hc ⊢
      exact dig_lo hc
    show (match nx x ((w * 4 ^ (j + 1 + m) + c) / 4 ^ j % 4) with | none => none | some y => folC nx j y (w * 4 ^ (j + 1 + m) + c)) = (match nx x (c / 4 ^ j % 4) with | none => none | some y => folC nx j y c)
    rw [e1]
    cases nx x (c / 4 ^ j % 4) with
    | none => rfl
    | some y =>
      show folC nx j y (w * 4 ^ (j + 1 + m) + c) = folC nx j y c
      rw [show j + 1 + m = j + (m + 1) by omega]
      exact ih (m + 1) y c (by rw [show j + (m + 1) = j + 1 + m by omega]; exact hc)
theorem waP_b {y j x c w : Nat} (hw : w < 4) (hc : c < 4 ^ j) : waP nx y (j + 1) x (w * 4 ^ j + c) = match nx x w with
    | none => false
    | some z => waP nx y j z c := by
  unfold waP
  have e : folC nx (j + 1) x (w * 4 ^ j + c) = match nx x w with | none => none | some z => folC nx j z c := by
    show (match nx x ((w * 4 ^ j + c) / 4 ^ j % 4) with | none => none | some y => folC nx j y (w * 4 ^ j + c)) = _
    rw [dig_hi hw hc]
    cases nx x w with
    | none => rfl
    | some z =>
      show folC nx j z (w * 4 ^ j + c) = folC nx j z c
      exact folC_lo j 0 z c hc
  rw [e]
  cases nx x w <;> rfl
theorem fst_split {P : Nat → Bool} (a : Nat) : ∀ b, fst P (a + b) = match fst P a with | some c => some c | none => (fst (fun i => P (a + i)) b).map (a + ·)
  | 0 => by
    rw [Nat.add_zero]
    cases fst P a <;> rfl
  | b + 1 => by
    show (match fst P (a + b) with | some k => some k | none => bif P (a + b) then some (a + b) else none) = _
    rw [fst_split a b]
    cases fst P a with
    | some c => rfl
    | none =>
      show (match (fst (fun i => P (a + i)) b).map (a + ·) with | some k => some k | none => bif P (a + b) then some (a + b) else none) = (match fst (fun i => P (a + i)) b with | some k => some k | none => bif P (a + b) then some b else none).map (a + ·)
      cases fst (fun i => P (a + i)) b with
      | some k => rfl
      | none =>
        show (bif P (a + b) then some (a + b) else none) = (bif P (a + b) then some b else none).map (a + ·)
        cases P (a + b) <;> rfl
theorem fst_cong {P Q : Nat → Bool} : ∀ {n : Nat}, (∀ k, k < n → P k = Q k) → fst P n = fst Q n
  | 0, _ => rfl
  | n + 1, h => by
    show (match fst P n with | some k => some k | none => bif P n then some n else none) = (match fst Q n with | some k => some k | none => bif Q n then some n else none)
    rw [fst_cong (fun k hk => h k (by omega)), h n (by omega)]
theorem fst_0 {P : Nat → Bool} : ∀ {n : Nat}, (∀ k, k < n → P k = false) → fst P n = none ∧ cnt P n = 0
  | 0, _ => ⟨rfl, rfl⟩
  | n + 1, h => by
    obtain ⟨a, b⟩ := fst_0 (n := n) (fun k hk => h k (by omega))
    have c := h n (by omega)
    refine ⟨?_, ?_⟩
    · show (match fst P n with | some k => some k | none => bif P n then some n else none) = none
      rw [a, c]; rfl
    · show cnt P n + (bif P n then 1 else 0) = 0
      rw [b, c]; rfl
/-- the digits of a code, j of them -/
def dgL (c : Nat) : Nat → List Int64
  | 0 => []
  | j + 1 => lN (c / 4 ^ j % 4) :: dgL c j
theorem dgL_len (c : Nat) : ∀ j, (dgL c j).length = j
  | 0 => rfl
  | j + 1 => by
    show (dgL c j).length + 1 = j + 1
    rw [dgL_len c j]
theorem dgL_lo {w : Nat} : ∀ (j m c : Nat), c < 4 ^ (j + m) → dgL (w * 4 ^ (j + m) + c) j = dgL c j := by
  intro j
  induction j with
  | zero => intros; rfl
  | succ j ih =>
    intro m c hc
    have e1 : (w * 4 ^ (j + 1 + m) + c) / 4 ^ j % 4 = c / 4 ^ j % 4 := by
      rw [show j + 1 + m = j + m + 1 by omega] at hc ⊢
      exact dig_lo hc
    show lN ((w * 4 ^ (j + 1 + m) + c) / 4 ^ j % 4) :: dgL (w * 4 ^ (j + 1 + m) + c) j = lN (c / 4 ^ j % 4) :: dgL c j
    rw [e1]
    have := ih (m + 1) c (by rw [show j + (m + 1) = j + 1 + m by omega]; exact hc)
    rw [show j + (m + 1) = j + 1 + m by omega] at this
    rw [this]
theorem dgL_hi {j w c : Nat} (hw : w < 4) (hc : c < 4 ^ j) : dgL (w * 4 ^ j + c) (j + 1) = lN w :: dgL c j := by
  show lN ((w * 4 ^ j + c) / 4 ^ j % 4) :: dgL (w * 4 ^ j + c) j = _
  rw [dig_hi hw hc]
  have := dgL_lo (w := w) j 0 c hc
  rw [Nat.add_zero] at this
  rw [this]
theorem c_wic {c k i : Nat} (hc : c < 4 ^ k) (hk : k ≤ 5) (hi : i < k) : ev (d + 1) f_Search_wayInCode [vI (nI c), vI (nI k), vI (nI i)] s = some (some (vI (nI (c / 4 ^ (k - 1 - i) % 4))), s) := by
  have h4 : 4 ^ k ≤ 4 ^ 5 := Nat.pow_le_pow_right (by omega) hk
  have h4' : (4 : Nat) ^ 5 = 1024 := by decide
  have e1 : (2 : Int32) * ((nI k - 1) - nI i) = nI (2 * (k - 1 - i)) := by rw [show (1 : Int32) = nI 1 from rfl, n_sub (by omega), n_sub (by omega), nl_2, pk_mul]
  have e2 : (2 : Nat) ^ (2 * (k - 1 - i)) = 4 ^ (k - 1 - i) := by rw [Nat.pow_mul]
  rw [Search_wayInCode_eq, e1, j_shr (by omega) (by omega), e2, n_and3 (Nat.lt_of_le_of_lt (Nat.div_le_self _ _) (by omega))]
theorem c_follow {c k x0 : Nat} (hG : cG s R C kd) (hO : cOS s 0 n S) (ho : oOkS R C kd n S) (hR : cR s 0 (ruL L)) (hL : wfL (ruL L) 0) (hp : p < n) (h9 : s.1 9 0 9 = nI p) (h8 : s.1 9 0 8 = nI x0) (hm : cPm s R C kd n S L p) (hx : x0 < 64 * (R * C)) (hk : k ≤ 5) (hc : c < 4 ^ k) : ∃ t, ev (d + 5) f_Search_follow [vR 9 0, vI (nI c), vI (nI k)] s = some (some (vI (oI (folC (nxP R C kd n S L p) k x0 c))), t) ∧ cPm t R C kd n S L p ∧ fr pPu s t := by
  have b36 := gOk_36 hG.1
  have hgo := hG.1
  have hst : ∀ j i x t, i + j = k → x < 64 * (R * C) → cPm t R C kd n S L p → fr pPu s t → ∃ v, Search_follow_L1 (d + 4) (nI c) (nI k) (nI x) (nI i) t = some (some (vI (oI (folC (nxP R C kd n S L p) j x c))), v) ∧ cPm v R C kd n S L p ∧ fr pPu s v := by
    intro j
    induction j with
    | zero =>
      intro i x t hi hxl hmt ft
      refine ⟨t, ?_, hmt, ft⟩
      rw [Search_follow_L1_eq, show i = k by omega, if_neg (of_eq_false (lt_f (Nat.le_refl _) (by omega)))]
      show _ = some (some (vI (oI (some x))), t)
      rw [oI_s]
    | succ j ih =>
      intro i x t hi hxl hmt ft
      have ft' : fr (fun c _ k => c = 26 ∨ c = 25 ∨ (c = 5 ∧ k = 3) ∨ c = 37) s t := fr_m ft (fun c i k h => by unfold pPu pE at h; omega)
      have hw4 : c / 4 ^ j % 4 < 4 := Nat.mod_lt _ (by omega)
      obtain ⟨v, v1, v2, v3⟩ := c_pushed (d := d) (cG_fr hG ft' (by omega) (by omega) (by omega)) (cO_fr hO ft' (by omega) (by omega) (by omega) (by omega)) ho (cR_fr hR ft' (by omega) (by omega)) hL hp (by rw [(ft' 9 0 9 (by omega)).1]; exact h9) hmt hxl hw4
      have fv := fr_t ft v3
      have e0 : Search_follow_L1 (d + 4) (nI c) (nI k) (nI x) (nI i) t = Search_follow_L1 (d + 4) (nI c) (nI k) (oI (nxP R C kd n S L p x (c / 4 ^ j % 4))) (nI (i + 1)) v := by
        rw [Search_follow_L1_eq, if_pos (of_eq_true (lt_t (by omega) (by omega))), if_neg (m1_nn (by omega)), c_wic hc hk (by omega), show k - 1 - i = j by omega, bI_s, v1, bI_s, nI_1]
      rw [e0]
      show ∃ v', _ = some (some (vI (oI (match nxP R C kd n S L p x (c / 4 ^ j % 4) with | none => none | some y => folC (nxP R C kd n S L p) j y c))), v') ∧ _
      cases hn : nxP R C kd n S L p x (c / 4 ^ j % 4) with
      | none =>
        refine ⟨v, ?_, v2, fv⟩
        rw [oI_n, Search_follow_L1_eq]
        by_cases z : i + 1 < k
        · rw [if_pos (of_eq_true (lt_t z (by omega))), if_pos rfl]
        · rw [if_neg (of_eq_false (lt_f (by omega) (by omega)))]
      | some y =>
        rw [oI_s]
        exact ih (i + 1) y v (by omega) (nxP_lt hgo hxl hw4 hn) v2 fv
  obtain ⟨t, t1, t2, t3⟩ := hst k 0 x0 s (by omega) hx hm (fr_r _ _)
  refine ⟨t, ?_, t2, t3⟩
  rw [Search_follow_eq, h8]; exact t1
theorem folC_lt (hG : gOk R C kd) : ∀ (j x c z : Nat), x < 64 * (R * C) → folC (nxP R C kd n S L p) j x c = some z → z < 64 * (R * C) := by
  intro j
  induction j with
  | zero => intro x c z hx h; rw [← Option.some.inj h]; exact hx
  | succ j ih =>
    intro x c z hx h
    have h : (match nxP R C kd n S L p x (c / 4 ^ j % 4) with | none => none | some y => folC (nxP R C kd n S L p) j y c) = some z := h
    cases hn : nxP R C kd n S L p x (c / 4 ^ j % 4) with
    | none => rw [hn] at h; cases h
    | some y =>
      rw [hn] at h
      exact ih y c z (nxP_lt hG hx (Nat.mod_lt _ (by omega)) hn) h
/-- the class counts -/
theorem c_wl {k x0 y : Nat} (hG : cG s R C kd) (hO : cOS s 0 n S) (ho : oOkS R C kd n S) (hR : cR s 0 (ruL L)) (hL : wfL (ruL L) 0) (hp : p < n) (h9 : s.1 9 0 9 = nI p) (h8 : s.1 9 0 8 = nI x0) (hm : cPm s R C kd n S L p) (hx : x0 < 64 * (R * C)) (hk : k ≤ 5) (hy : y < 64) : ∃ t, Main_ways_L1 (d + 5) (nI y) (nI k) 0 (-1) 0 s = (bV (ev (d + 5) f_Numbers_clear [vR 10 0] t) fun s10 => Main_ways_L2 (d + 5) (nI k) (nI (cnt (waP (nxP R C kd n S L p) y k x0) (4 ^ k))) (match fst (waP (nxP R C kd n S L p) y k x0) (4 ^ k) with | some c => nI c | none => -1) 0 s10) ∧ fr pPu s t := by
  have b36 := gOk_36 hG.1
  have hgo := hG.1
  have h4 : 4 ^ k ≤ 4 ^ 5 := Nat.pow_le_pow_right (by omega) hk
  have h4' : (4 : Nat) ^ 5 = 1024 := by decide
  have hsh : jshl 1 ((2 : Int32) * nI k) = nI (4 ^ k) := by
    rw [nl_2, pk_mul, j_1shl (by omega), Nat.pow_mul]
  obtain ⟨P, hP⟩ : ∃ P, waP (nxP R C kd n S L p) y k x0 = P := ⟨_, rfl⟩
  rw [hP]
  obtain ⟨t, k1, k2, k3⟩ := chainE (4 ^ k) (fun c (t : xS) => Main_ways_L1 (d + 5) (nI y) (nI k) (nI (cnt P c)) (match fst P c with | some c => nI c | none => -1) (nI c) t) (fun c t => cPm t R C kd n S L p ∧ fr pPu s t) (by
    rintro c t hc ⟨h1, h2⟩
    have h2' : fr (fun c _ k => c = 26 ∨ c = 25 ∨ (c = 5 ∧ k = 3) ∨ c = 37) s t := fr_m h2 (fun c i k h => by unfold pPu pE at h; omega)
    obtain ⟨v, v1, v2, v3⟩ := c_follow (d := d) (cG_fr hG h2' (by omega) (by omega) (by omega)) (cO_fr hO h2' (by omega) (by omega) (by omega) (by omega)) ho (cR_fr hR h2' (by omega) (by omega)) hL hp (by rw [(h2' 9 0 9 (by omega)).1]; exact h9) (by rw [(h2' 9 0 8 (by omega)).1]; exact h8) h1 hx hk hc
    refine ⟨v, ?_, v2, fr_t h2 v3⟩
    show Main_ways_L1 (d + 5) (nI y) (nI k) (nI (cnt P c)) (match fst P c with | some c => nI c | none => -1) (nI c) t = Main_ways_L1 (d + 5) (nI y) (nI k) (nI (cnt P c + (bif P c then 1 else 0))) (match (match fst P c with | some k => some k | none => bif P c then some c else none) with | some c => nI c | none => -1) (nI (c + 1)) v
    rw [Main_ways_L1_eq, hsh, if_pos (of_eq_true (lt_t hc (by omega))), v1, bI_s]
    have hPc : P c = match folC (nxP R C kd n S L p) k x0 c with | none => false | some z => decide (z % 64 = y) := by rw [← hP]; rfl
    have hcz : fst P c = none ↔ cnt P c = 0 := ⟨fun z => (fst_0 (fst_none z)).2, fun z => (fst_0 (cnt_zero z)).1⟩
    cases hf : folC (nxP R C kd n S L p) k x0 c with
    | none =>
      rw [hf] at hPc
      have hPc : P c = false := hPc
      rw [oI_n, if_pos rfl, hPc, nI_1]
      cases fst P c <;> rfl
    | some z =>
      rw [hf] at hPc
      have hPc : P c = decide (z % 64 = y) := hPc
      have hz := folC_lt hgo k x0 c z hx hf
      rw [oI_s, if_neg (m1_nn (by omega)), Search_viewsIn_eq, n_and63 (by omega), bI_s]
      by_cases w : z % 64 = y
      · rw [decide_eq_true w] at hPc
        rw [if_pos (of_eq_true (eq_t w)), hPc, nI_1, nI_1]
        have hcl := cnt_le P c
        cases hfs : fst P c with
        | none =>
          rw [hcz.mp hfs, if_pos (by rfl)]; rfl
        | some c0 =>
          have hn0 : ¬ cnt P c = 0 := fun q => by rw [hcz.mpr q] at hfs; cases hfs
          rw [if_neg (show ¬ nI (cnt P c) = 0 from of_eq_false (eq_f (b := 0) hn0 (by omega) (by omega)))]; rfl
      · rw [decide_eq_false w] at hPc
        rw [if_neg (of_eq_false (eq_f w (by omega) (by omega))), hPc, nI_1]
        cases fst P c <;> rfl) (4 ^ k) 0 s (by omega) ⟨hm, fr_r _ _⟩
  have k1' : Main_ways_L1 (d + 5) (nI y) (nI k) 0 (-1) 0 s = Main_ways_L1 (d + 5) (nI y) (nI k) (nI (cnt P (4 ^ k))) (match fst P (4 ^ k) with | some c => nI c | none => -1) (nI (4 ^ k)) t := k1
  refine ⟨t, ?_, k3⟩
  rw [k1', Main_ways_L1_eq, hsh, if_neg (of_eq_false (lt_f (Nat.le_refl _) (by omega)))]
end WAYS

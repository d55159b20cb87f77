/-! strays: the fraction, the law's side. -/
section STRAY2
variable {d k : Nat} {R C n T u q nh : Nat} {kd : Nat → Nat} {S S' : Sn} {L : List Nat} {l l' : List Int64} {sg : Nat → Nat} {U : Nat → Sn} {K : Nat → Option Sn} {sq : Nat → Nat × Nat × Nat} {hq : Nat → Nat × Nat} {s t : xS} {v : Nat → Nat}
theorem cop2 {a : Nat} (h : a % 2 = 1) (j : Nat) : Nat.gcd a (2 ^ j) = 1 := by
  have h1 : Nat.Coprime a 2 := by
    show Nat.gcd a 2 = 1
    rw [Nat.gcd_comm, Nat.gcd_rec, h]; decide
  exact Nat.Coprime.pow_right j h1
theorem t_half : ∀ (j a c : Nat), a ≤ 65536 → j ≤ 16 → c + j < 64 → 0 < a → Main_tellFraction_L1 d (lN a) (lN (2 ^ j)) (nI c) s = Main_tellFraction_J2 d (lN (a / Nat.gcd a (2 ^ j))) (lN (2 ^ j / Nat.gcd a (2 ^ j))) s
  | 0, a, c, h1, h2, h3, h4 => by
    rw [Main_tellFraction_L1_eq, nl_64, if_pos (of_eq_true (lt_t (by omega) (by omega))), if_neg (fun z => by have := (l_cmp1 (a := 2 ^ 0) (by decide)).mp z; omega), Nat.pow_zero, Nat.gcd_one_right, Nat.div_one, Nat.div_one]
  | j + 1, a, c, h1, h2, h3, h4 => by
    have hp : 2 ^ (j + 1) ≤ 65536 := Nat.pow_le_pow_right (n := 2) (by omega) (show j + 1 ≤ 16 by omega)
    have hq : 2 ^ (j + 1) = 2 * 2 ^ j := Nat.pow_succ'
    have hr : 0 < 2 ^ j := Nat.two_pow_pos j
    rw [Main_tellFraction_L1_eq, nl_64, if_pos (of_eq_true (lt_t (by omega) (by omega))), if_pos ((l_cmp1 (by omega)).mpr (by omega)), if_neg (by decide), show (2 : Int64) = lN 2 from rfl, l_rem (by omega) (by decide)]
    by_cases e : a % 2 = 0
    · rw [if_pos ((l_cmp0 (by omega)).mpr e), if_neg (by decide), if_neg (by decide), l_div (by omega) (by decide), l_div (by omega) (by decide), nI_1, hq, Nat.mul_div_cancel_left _ (by omega)]
      obtain ⟨a', rfl⟩ : ∃ a', a = 2 * a' := ⟨a / 2, by omega⟩
      rw [Nat.mul_div_cancel_left _ (by omega), t_half j a' (c + 1) (by omega) (by omega) (by omega) (by omega), Nat.gcd_mul_left, Nat.mul_div_mul_left _ _ (by omega), Nat.mul_div_mul_left _ _ (by omega)]
    · rw [if_neg (fun z => e ((l_cmp0 (by omega)).mp z)), cop2 (by omega), Nat.div_one, Nat.div_one]
theorem c_tell {a j : Nat} (ha : a ≤ 65536) (hj : j ≤ 16) : ∃ t, ev (d + 5) f_Main_tellFraction [vR 0 0, vL (lN a), vL (lN (2 ^ j))] s = some (none, t) ∧ cRow t [lN (a / Nat.gcd a (2 ^ j)), lN (2 ^ j / Nat.gcd a (2 ^ j))] ∧ fr pN s t := by
  obtain ⟨t, e1, e2, e3⟩ := n_tellTwo (d := d + 1) (s := s) (x := lN (a / Nat.gcd a (2 ^ j))) (y := lN (2 ^ j / Nat.gcd a (2 ^ j)))
  refine ⟨t, ?_, e2, e3⟩
  rw [Main_tellFraction_eq]
  by_cases z : a = 0
  · subst z
    have hr : 0 < 2 ^ j := Nat.two_pow_pos j
    rw [Nat.gcd_zero_left, Nat.zero_div, Nat.div_self hr] at e1
    rw [if_pos ((l_cmp0 (by omega)).mpr rfl), Main_tellFraction_L1_eq, if_pos (by decide), if_neg (by decide), Main_tellFraction_J2_eq]
    have e1' : ev (d + 4) f_Numbers_tellTwo [vR 10 0, vL (lN 0), vL 1] s = some (none, t) := e1
    rw [e1', bV_s]
  · have hh := t_half (d := d + 4) (s := s) j a 0 ha hj (by omega) (by omega)
    have hh' : Main_tellFraction_L1 (d + 4) (lN a) (lN (2 ^ j)) 0 s = _ := hh
    rw [if_neg (fun y => z ((l_cmp0 (by omega)).mp y)), hh', Main_tellFraction_J2_eq, e1, bV_s]
theorem gcd_st (a b : Nat) : Nat.gcd a b = Nat.gcd b (a % b) := by
  rw [Nat.gcd_comm, Nat.gcd_rec b a, Nat.gcd_comm (a % b) b]
theorem m_common : ∀ (m a b e : Nat), b < 2 ^ m → a < 4611686018427387904 → b < 4611686018427387904 → ev (e + 2 * m + 1) f_Ref_common [vL (lN a), vL (lN b)] s = some (some (vL (lN (Nat.gcd a b))), s)
  | 0, a, b, e, h1, h2, h3 => by
    have z : b = 0 := by omega
    subst z
    rw [Ref_common_eq, if_pos ((l_cmp0 (by omega)).mpr rfl), Nat.gcd_zero_right]
  | m + 1, a, b, e, h1, h2, h3 => by
    have hd : e + 2 * (m + 1) + 1 = e + 2 * m + 1 + 1 + 1 := by omega
    rw [hd, Ref_common_eq]
    by_cases z : b = 0
    · subst z
      rw [if_pos ((l_cmp0 (by omega)).mpr rfl), Nat.gcd_zero_right]
    · have hlt := Nat.mod_lt a (show b > 0 by omega)
      rw [if_neg (fun y => z ((l_cmp0 h3).mp y)), if_neg (show ¬ lN b = 0 from fun y => z ((l_eq (b := 0) h3 (by decide)).mp y)), l_rem h2 h3, Ref_common_eq, gcd_st a b]
      by_cases z2 : a % b = 0
      · rw [if_pos ((l_cmp0 (by omega)).mpr z2), bL_s, z2, Nat.gcd_zero_right]
      · have hl2 := Nat.mod_lt b (show a % b > 0 by omega)
        have hp : 2 ^ (m + 1) = 2 * 2 ^ m := Nat.pow_succ'
        have hsm : b % (a % b) < 2 ^ m := by
          by_cases y : a % b ≤ 2 ^ m
          · omega
          · rw [Nat.mod_eq_sub_mod (by omega), Nat.mod_eq_of_lt (by omega)]; omega
        rw [if_neg (fun y => z2 ((l_cmp0 (by omega)).mp y)), if_neg (show ¬ lN (a % b) = 0 from fun y => z2 ((l_eq (b := 0) (by omega) (by decide)).mp y)), l_rem h3 (by omega), m_common m (a % b) (b % (a % b)) e hsm (by omega) (by omega), bL_s, bL_s, gcd_st b (a % b)]
theorem m_once {y2 y3 y5 : Int32} {y4 : Int64} (hG : rG s R C kd) (h : ∀ g, g < 36 → s.2 63 0 g = lN (v g)) : ∃ t, Ref_strays_L4 (d + 4) y2 y3 y4 y5 0 s = Ref_strays_L3 (d + 4) y2 y3 y4 (y5 + 1) t ∧ (∀ g, g < 36 → t.2 63 0 g = lN (stO R C kd v g)) ∧ fr (fun c _ _ => c = 63 ∨ c = 64) s t := by
  have h36 := gOk_36 hG.1
  have hg := hG.1
  obtain ⟨t0, a1, a2, a3⟩ := chainE 36 (fun j (t : xS) => Ref_strays_L4 (d + 4) y2 y3 y4 y5 (nI j) t) (fun j t => (∀ g, g < j → t.2 64 0 g = lN 0) ∧ fr (fun c _ _ => c = 64) s t) (by
    rintro j t hj ⟨h1, h2⟩
    refine ⟨wL t 64 0 j 0, ?_, fun g hg' => ?_, fr_wL h2 rfl⟩
    · show Ref_strays_L4 (d + 4) y2 y3 y4 y5 (nI j) t = _
      rw [Ref_strays_L4_eq, nl_36, if_pos (of_eq_true (lt_t hj (by omega))), in_t hj (by omega), if_pos rfl, n_cl (by omega), nI_1]
    · rw [wL_get]
      by_cases e : g = j
      · rw [if_pos ⟨rfl, e, rfl⟩]; rfl
      · rw [if_neg (fun z => e z.2.1)]; exact h1 g (by omega)) 36 0 s (by omega) ⟨fun g hg' => absurd hg' (Nat.not_lt_zero g), fr_r _ _⟩
  obtain ⟨t1, b1, b2, b3⟩ := chainE (R * C) (fun f (t : xS) => Ref_strays_L5 (d + 4) y2 y3 y4 y5 (nI f) t) (fun f t => (∀ g, g < 36 → t.2 64 0 g = lN (stF R C kd v f g)) ∧ fr (fun c _ _ => c = 64) s t) (by
    rintro f t hf ⟨h1, h2⟩
    have hGt : rG t R C kd := rG_fr hG h2 (by omega) (by omega) (by omega)
    obtain ⟨b, e1, e2, e3⟩ := chainE 4 (fun w (t : xS) => Ref_strays_L6 (d + 4) y2 y3 y4 y5 (nI f) (nI w) t) (fun w t => (∀ g, g < 36 → t.2 64 0 g = lN (stW R C kd v f w (stF R C kd v f) g)) ∧ fr (fun c _ _ => c = 64) s t) (by
      rintro w b hw ⟨g1, g2⟩
      have hGb : rG b R C kd := rG_fr hG g2 (by omega) (by omega) (by omega)
      have hlt := gto_lt hg hf hw
      have hj : Ref_strays_J7 (d + 4) y2 y3 y4 y5 (nI f) (nI w) (nI (gto R C kd f w)) b = Ref_strays_L6 (d + 4) y2 y3 y4 y5 (nI f) (nI (w + 1)) (wL b 64 0 (gto R C kd f w) (lN (stW R C kd v f w (stF R C kd v f) (gto R C kd f w) + v f))) := by
        rw [Ref_strays_J7_eq, in_t (show gto R C kd f w < 36 by omega) (by omega), if_pos rfl, in_t (show f < 36 by omega) (by omega), if_pos rfl, if_pos rfl, n_cl (by omega), n_cl (by omega), g1 _ (by omega), (g2 63 0 f (by omega)).2, h f (by omega), l_add, nI_1]
      refine ⟨wL b 64 0 (gto R C kd f w) (lN (stW R C kd v f w (stF R C kd v f) (gto R C kd f w) + v f)), ?_, fun g hg' => ?_, fr_wL g2 rfl⟩
      · show Ref_strays_L6 (d + 4) y2 y3 y4 y5 (nI f) (nI w) b = _
        rw [Ref_strays_L6_eq, nl_4, if_pos (of_eq_true (lt_t hw (by omega))), m_beside hGb hf hw, bI_s, m_openB hGb hf hw, bI_s, ← hj]
        unfold gto
        cases hx : nxt R C kd f w with
        | none => rw [if_pos (show ib (none : Option Nat).isSome = 0 by decide)]; rfl
        | some g => rw [if_neg (show ¬ ib (some g).isSome = 0 from show ¬ ib true = 0 by decide), nxt_bes hx, oI_s]; rfl
      · show _ = lN (up (stW R C kd v f w (stF R C kd v f)) (gto R C kd f w) (stW R C kd v f w (stF R C kd v f) (gto R C kd f w) + v f) g)
        rw [wL_get]
        by_cases e : g = gto R C kd f w
        · rw [if_pos ⟨rfl, e, rfl⟩, e, up_s]
        · rw [if_neg (fun z => e z.2.1), up_n e]; exact g1 g hg') 4 0 t (by omega) ⟨h1, h2⟩
    refine ⟨b, ?_, e2, e3⟩
    have e1' : Ref_strays_L6 (d + 4) y2 y3 y4 y5 (nI f) 0 t = Ref_strays_L6 (d + 4) y2 y3 y4 y5 (nI f) (nI 4) b := e1
    show Ref_strays_L5 (d + 4) y2 y3 y4 y5 (nI f) t = Ref_strays_L5 (d + 4) y2 y3 y4 y5 (nI (f + 1)) b
    rw [Ref_strays_L5_eq, m_fields hGt, bI_s, if_pos (of_eq_true (lt_t hf (by omega))), e1', Ref_strays_L6_eq, nl_4, if_neg (of_eq_false (lt_f (Nat.le_refl _) (by omega))), nI_1]) (R * C) 0 t0 (by omega) ⟨a2, a3⟩
  have hG1 : rG t1 R C kd := rG_fr hG b3 (by omega) (by omega) (by omega)
  obtain ⟨t2, c1, c2, c3⟩ := chainE 36 (fun j (t : xS) => Ref_strays_L8 (d + 4) y2 y3 y4 y5 (nI j) t) (fun j t => (∀ g, g < j → t.2 63 0 g = lN (stO R C kd v g)) ∧ fr (fun c _ _ => c = 63) t1 t) (by
    rintro j t hj ⟨h1, h2⟩
    refine ⟨wL t 63 0 j (lN (stO R C kd v j)), ?_, fun g hg' => ?_, fr_wL h2 rfl⟩
    · show Ref_strays_L8 (d + 4) y2 y3 y4 y5 (nI j) t = _
      rw [Ref_strays_L8_eq, nl_36, if_pos (of_eq_true (lt_t hj (by omega))), in_t hj (by omega), if_pos rfl, if_pos rfl, n_cl (by omega), nI_1, (h2 64 0 j (by omega)).2, b2 j hj]
      rfl
    · rw [wL_get]
      by_cases e : g = j
      · rw [if_pos ⟨rfl, e, rfl⟩, e]
      · rw [if_neg (fun z => e z.2.1)]; exact h1 g (by omega)) 36 0 t1 (by omega) ⟨fun g hg' => absurd hg' (Nat.not_lt_zero g), fr_r _ _⟩
  refine ⟨t2, ?_, c2, fr_t (fr_m b3 (by omega)) (fr_m c3 (by omega))⟩
  have a1' : Ref_strays_L4 (d + 4) y2 y3 y4 y5 0 s = Ref_strays_L4 (d + 4) y2 y3 y4 y5 (nI 36) t0 := a1
  have b1' : Ref_strays_L5 (d + 4) y2 y3 y4 y5 0 t0 = Ref_strays_L5 (d + 4) y2 y3 y4 y5 (nI (R * C)) t1 := b1
  have c1' : Ref_strays_L8 (d + 4) y2 y3 y4 y5 0 t1 = Ref_strays_L8 (d + 4) y2 y3 y4 y5 (nI 36) t2 := c1
  rw [a1', Ref_strays_L4_eq, nl_36, if_neg (of_eq_false (lt_f (Nat.le_refl _) (by omega))), b1', Ref_strays_L5_eq, m_fields hG1, bI_s, if_neg (of_eq_false (lt_f (Nat.le_refl _) (by omega))), c1', Ref_strays_L8_eq, nl_36, if_neg (of_eq_false (lt_f (Nat.le_refl _) (by omega)))]
theorem m_strays {F W V : Nat → Nat} {lo : Nat} {M : Int32} (hG : rG s R C kd) (hO : rO s 0 n F W V lo M) (hn : n ≤ 4) {p g m : Nat} (hp : p < n) (hF : F p < R * C) (hg : g < R * C) (hm : m ≤ 8) : ∃ t, Ref_strays_L1 (d + 50) (nI p) (nI m) (nI g) 0 s = some (some (vI 0), t) ∧ rRow t [lN (stK R C kd (F p) m g / Nat.gcd (stK R C kd (F p) m g) (2 ^ (2 * m))), lN (2 ^ (2 * m) / Nat.gcd (stK R C kd (F p) m g) (2 ^ (2 * m)))] ∧ fr (fun c _ k => c = 63 ∨ c = 64 ∨ c = 41 ∨ (c = 13 ∧ k = 1)) s t := by
  have h36 := gOk_36 hG.1
  obtain ⟨t0, a1, a2, a3⟩ := chainE 36 (fun j (t : xS) => Ref_strays_L1 (d + 50) (nI p) (nI m) (nI g) (nI j) t) (fun j t => (∀ g, g < j → t.2 63 0 g = lN (b1 (decide (g = F p)))) ∧ fr (fun c _ _ => c = 63) s t) (by
    rintro j t hj ⟨h1, h2⟩
    refine ⟨wL t 63 0 j (lN (b1 (decide (j = F p)))), ?_, fun g hg' => ?_, fr_wL h2 rfl⟩
    · show Ref_strays_L1 (d + 50) (nI p) (nI m) (nI g) (nI j) t = Ref_strays_L1 (d + 50) (nI p) (nI m) (nI g) (nI (j + 1)) _
      have hJ : ∀ b : Bool, Ref_strays_J2 (d + 50) (nI p) (nI m) (nI g) (nI j) (ib b) (nI j) t = Ref_strays_L1 (d + 50) (nI p) (nI m) (nI g) (nI (j + 1)) (wL t 63 0 j (lN (b1 b))) := fun b => by
        rw [Ref_strays_J2_eq, m_flag, bI_s, in_t hj (by omega), if_pos rfl, n_cl (by omega), nI_1, b1_ib, nI_l (by cases b <;> decide)]
      rw [Ref_strays_L1_eq, nl_36, if_pos (of_eq_true (lt_t hj (by omega))), in_t (show p < 17 by omega) (by omega), if_pos rfl, n_cl (by omega), (h2 43 0 p (by omega)).1, (hO.2.1 p hp).1]
      by_cases e : j = F p
      · rw [if_pos (of_eq_true (eq_t e)), decide_eq_true e]; exact hJ true
      · rw [if_neg (of_eq_false (eq_f e (by omega) (by omega))), decide_eq_false e]; exact hJ false
    · rw [wL_get]
      by_cases e : g = j
      · rw [if_pos ⟨rfl, e, rfl⟩, e]
      · rw [if_neg (fun z => e z.2.1)]; exact h1 g (by omega)) 36 0 s (by omega) ⟨fun g hg' => absurd hg' (Nat.not_lt_zero g), fr_r _ _⟩
  obtain ⟨t1, b1, b2, b3⟩ := chainE m (fun j (t : xS) => Ref_strays_L3 (d + 50) (nI m) (nI g) (lN (4 ^ j)) (nI j) t) (fun j t => (∀ g, g < 36 → t.2 63 0 g = lN (stK R C kd (F p) j g)) ∧ fr (fun c _ _ => c = 63 ∨ c = 64) s t) (by
    rintro j t hj ⟨h1, h2⟩
    obtain ⟨b, e1, e2, e3⟩ := m_once (d := d + 46) (y2 := nI m) (y3 := nI g) (y4 := lN (4 ^ (j + 1))) (y5 := nI j) (rG_fr hG h2 (by omega) (by omega) (by omega)) h1
    refine ⟨b, ?_, e2, fr_t h2 e3⟩
    show Ref_strays_L3 (d + 50) (nI m) (nI g) (lN (4 ^ j)) (nI j) t = _
    rw [Ref_strays_L3_eq, if_pos (of_eq_true (lt_t hj (by omega))), show (4 : Int64) = lN 4 from rfl, l_mul, ← Nat.pow_succ, e1, nI_1]) m 0 t0 (by omega) ⟨a2, fr_m a3 (by omega)⟩
  have a1' : Ref_strays_L1 (d + 50) (nI p) (nI m) (nI g) 0 s = Ref_strays_L1 (d + 50) (nI p) (nI m) (nI g) (nI 36) t0 := a1
  have b1' : Ref_strays_L3 (d + 50) (nI m) (nI g) 1 0 t0 = Ref_strays_L3 (d + 50) (nI m) (nI g) (lN (4 ^ m)) (nI m) t1 := b1
  have hb : stK R C kd (F p) m g ≤ 65536 := Nat.le_trans (Nat.le_trans (smN_get (show g < 36 by omega)) (stK_sm hG.1 m)) (Nat.le_trans (Nat.pow_le_pow_right (n := 4) (by omega) hm) (by decide))
  have h4 : 4 ^ m = 2 ^ (2 * m) := by rw [Nat.pow_mul]
  have hq : 2 ^ (2 * m) ≤ 65536 := Nat.le_trans (Nat.pow_le_pow_right (n := 2) (by omega) (show 2 * m ≤ 16 by omega)) (by decide)
  generalize hA : stK R C kd (F p) m g = A at hb
  have hv : t1.2 63 0 g = lN A := by rw [b2 g (by omega), hA]
  have hr : 0 < 2 ^ (2 * m) := Nat.two_pow_pos _
  have hc := m_common (s := t1) 17 A (2 ^ (2 * m)) (d + 15) (by omega) (by omega) (by omega)
  have hg1 : 0 < Nat.gcd A (2 ^ (2 * m)) := Nat.gcd_pos_of_pos_right _ hr
  have hg2 : Nat.gcd A (2 ^ (2 * m)) ≤ 2 ^ (2 * m) := Nat.gcd_le_right _ hr
  generalize hB : Nat.gcd A (2 ^ (2 * m)) = G at hc hg1 hg2
  obtain ⟨v1, v2, g1, g2, g3, g4, g5⟩ := m_ent2 (d + 49) t1 (lN (A / G)) (lN (2 ^ (2 * m) / G))
  refine ⟨v2, ?_, g4, fr_t (fr_m b3 (by omega)) (fr_m g5 (fun c i k h => by unfold pT at h; omega))⟩
  have hnz : ¬ lN G = 0 := fun z => by have := (l_eq (b := 0) (by omega) (by decide)).mp z; omega
  rw [a1', Ref_strays_L1_eq, nl_36, if_neg (of_eq_false (lt_f (Nat.le_refl _) (by omega))), show (0 : Int32) = 0 from rfl, b1', Ref_strays_L3_eq, if_neg (of_eq_false (lt_f (Nat.le_refl _) (by omega))), in_t (show g < 36 by omega) (by omega), if_pos rfl, n_cl (by omega), hv, h4, hc, bL_s, if_pos rfl, if_neg hnz, hv, l_div (by omega) (by omega), g1, bV_s, if_neg hnz, l_div (by omega) (by omega), g3, bV_s]
theorem s_strays (ha : AOk ((R, C, kd), (n, S), (L, l), (T, sg), (u, U), K, (q, sq), nh, hq)) (x y z : Int32) : GsS d f_Main_strays f_Ref_strays [vI x, vI y, vI z] ((R, C, kd), (n, S), (L, l), (T, sg), (u, U), K, (q, sq), nh, hq) k := by
  have ho : oOkS R C kd n S := ha.2.1
  have hn : n ≤ 4 := ho.1
  have h36 : R * C ≤ 36 := gOk_36 ha.1
  refine GsS_q ha ?_
  by_cases hx : x_in x n = true ∧ x_in y 9 = true ∧ x_in z (R * C) = true
  · obtain ⟨h1, h2, h3⟩ := hx
    have h1' := h1
    have h2' := h2
    have h3' := h3
    obtain ⟨p, hp, rfl⟩ := (n_in_iff (by omega)).mp h1
    obtain ⟨m, hm, rfl⟩ := (n_in_iff (by omega)).mp h2
    obtain ⟨g, hg, rfl⟩ := (n_in_iff (by omega)).mp h3
    have hF : S.1 p < R * C := (ho.2.2.1 p hp).1
    have hb : stK R C kd (S.1 p) m g ≤ 65536 := Nat.le_trans (Nat.le_trans (smN_get (show g < 36 by omega)) (stK_sm ha.1 m)) (Nat.le_trans (Nat.pow_le_pow_right (n := 4) (by omega) (show m ≤ 8 by omega)) (by decide))
    refine ⟨0, [lN (stK R C kd (S.1 p) m g / Nat.gcd (stK R C kd (S.1 p) m g) (2 ^ (2 * m))), lN (2 ^ (2 * m) / Nat.gcd (stK R C kd (S.1 p) m g) (2 ^ (2 * m)))], fun s hs _ _ => ?_, fun s hs _ _ => ?_⟩
    · obtain ⟨hG, hO, _, _⟩ := hs
      obtain ⟨t, e1, e2⟩ := c_strays (d := d + 87) (m := m) hG hF hg (by omega)
      obtain ⟨w, g1, g2, g3⟩ := c_tell (d := d + 94) (s := t) (a := stK R C kd (S.1 p) m g) (j := 2 * m) hb (by omega)
      refine ⟨w, ?_, g2, fr_t (fr_m e2 (fun c i k h => by rcases h with rfl | rfl <;> simp [pCQ])) (fr_m g3 (fun _ _ _ => pN_CQ))⟩
      rw [Main_strays_eq, o_has hO hn, h1', bI_s, if_neg (by decide), if_neg (nI_pos (by omega)), nl_8, if_neg (of_eq_false (lt_f (by omega) (by omega))), g_has hG, h3', bI_s, if_neg (by decide), o_fieldOf hO hn hp, bI_s, e1, bI_s, nI_l (by omega), nl_2, pk_mul, jl_1shl (by omega), g1, bV_s]
    · have hs0 := RQ_0 hs
      obtain ⟨t, e1, e2, e3⟩ := m_strays (d := d + 49) hs0.1 hs0.2.1 hn hp hF hg (show m ≤ 8 by omega)
      refine ⟨t, ?_, e2, fr_t (fr_m fr_0 (fun _ _ _ => p0_RQ)) (fr_m e3 (fun c i k h => by rcases h with rfl | rfl | rfl | ⟨rfl, rfl⟩ <;> simp [pRQ]))⟩
      rw [Ref_strays_eq, m_isPram hs0.2.1 hn, h1', bI_s, if_neg (by decide), m_in0 (n := 9) _ (by decide), h2', bI_s, if_neg (by decide), m_isField hs0.1, h3', bI_s, if_neg (by decide), e1]
  · refine ⟨-1, l, fun s hs _ _ => ?_, fun s hs _ _ => ?_⟩
    · obtain ⟨hG, hO, _, hr⟩ := hs
      refine ⟨s, ?_, hr, fr_r _ _⟩
      rw [Main_strays_eq, o_has hO hn, bI_s]
      cases h1 : x_in x n with
      | false => rw [if_pos (by decide)]
      | true =>
        rw [if_neg (by decide)]
        by_cases z1 : y < 0
        · rw [if_pos z1]
        rw [if_neg z1]
        obtain ⟨m, hm, rfl⟩ := nI_of z1
        by_cases z2 : 8 < m
        · rw [nl_8, if_pos (of_eq_true (lt_t z2 (by omega)))]
        rw [nl_8, if_neg (of_eq_false (lt_f (by omega) (by omega))), g_has hG, bI_s]
        cases h3 : x_in z (R * C) with
        | false => rw [if_pos (by decide)]
        | true => exact absurd ⟨h1, in_t (by omega) hm, h3⟩ hx
    · have hs0 := RQ_0 hs
      refine ⟨wI s 13 0 0 0, ?_, hs0.2.2.2.1, fr_m fr_0 (fun _ _ _ => p0_RQ)⟩
      rw [Ref_strays_eq, m_isPram hs0.2.1 hn, bI_s]
      cases h1 : x_in x n with
      | false => rw [if_pos (by decide)]
      | true =>
        rw [if_neg (by decide), m_in0 (n := 9) _ (by decide), bI_s]
        cases h2 : x_in y 9 with
        | false => rw [if_pos (by decide)]
        | true =>
          rw [if_neg (by decide), m_isField hs0.1, bI_s]
          cases h3 : x_in z (R * C) with
          | false => rw [if_pos (by decide)]
          | true => exact absurd ⟨h1, h2, h3⟩ hx
end STRAY2

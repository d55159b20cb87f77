/-! strays. -/
section STRAY
variable {d k : Nat} {R C n T u q nh : Nat} {kd : Nat → Nat} {S S' : Sn} {L : List Nat} {l l' : List Int64} {s t : xS} {F W V : Nat → Nat} {lo : Nat} {M : Int32} {v a : Nat → Nat}
theorem l_mul (a b : Nat) : lN a * lN b = lN (a * b) := (Int64.ofNat_mul a b).symm
theorem l_add (a b : Nat) : lN a + lN b = lN (a + b) := (Int64.ofNat_add a b).symm
theorem l_div {a b : Nat} (ha : a < 4611686018427387904) (hb : b < 4611686018427387904) : lN a / lN b = lN (a / b) := by
  have h := Nat.div_le_self a b
  rw [fa_eq64, Int64.toInt_div, pf_lI (by omega), pf_lI (by omega), pf_lI (by omega), ← Int.ofNat_tdiv]
  generalize a / b = c at h ⊢
  exact Int.bmod_eq_of_le (by omega) (by omega)
theorem l_rem {a b : Nat} (ha : a < 4611686018427387904) (hb : b < 4611686018427387904) : jlrem (lN a) (lN b) = lN (a % b) := by
  unfold jlrem
  have h := Nat.div_add_mod a b
  have h2 : a / b * b ≤ a := Nat.div_mul_le_self a b
  rw [l_div ha hb, l_mul, ← show lN (a - a / b * b) = lN a - lN (a / b * b) from Int64.ofNat_sub _ _ h2]
  congr 1
  rw [Nat.mul_comm] at h
  omega
theorem l_eq {a b : Nat} (ha : a < 4611686018427387904) (hb : b < 4611686018427387904) : lN a = lN b ↔ a = b := fb_lN_inj (by omega) (by omega)
theorem l_cmp0 {a : Nat} (ha : a < 4611686018427387904) : (lg_cmp (lN a) 0 = 0) ↔ a = 0 := by
  rw [lg_cmp_eq]
  exact l_eq (b := 0) ha (by decide)
theorem l_cmp1 {a : Nat} (ha : a < 4611686018427387904) : ((0 : Int32) < lg_cmp (lN a) 1) ↔ 1 < a := by
  rw [lg_cmp_gt, fa_lt64, pf_lI (by omega), show (1 : Int64).toInt = 1 by decide]
  omega
def gto (R C : Nat) (kd : Nat → Nat) (f w : Nat) : Nat := (nxt R C kd f w).getD f
theorem gto_lt (hG : gOk R C kd) {f w : Nat} (hf : f < R * C) (hw : w < 4) : gto R C kd f w < R * C := by
  unfold gto
  cases h : nxt R C kd f w with
  | none => exact hf
  | some g => exact (nxt_lt hG hf hw h).1
def stW (R C : Nat) (kd v : Nat → Nat) (f : Nat) : Nat → (Nat → Nat) → Nat → Nat
  | 0, a => a
  | w + 1, a => up (stW R C kd v f w a) (gto R C kd f w) (stW R C kd v f w a (gto R C kd f w) + v f)
def stF (R C : Nat) (kd v : Nat → Nat) : Nat → Nat → Nat
  | 0 => fun _ => 0
  | f + 1 => stW R C kd v f 4 (stF R C kd v f)
def stO (R C : Nat) (kd v : Nat → Nat) : Nat → Nat := stF R C kd v (R * C)
def stK (R C : Nat) (kd : Nat → Nat) (f : Nat) : Nat → Nat → Nat
  | 0 => fun g => b1 (decide (g = f))
  | k + 1 => stO R C kd (stK R C kd f k)
theorem smN_up {g x : Nat} : ∀ {n : Nat}, g < n → smN (up a g (a g + x)) n = smN a n + x
  | n + 1, h => by
    show smN (up a g (a g + x)) n + up a g (a g + x) n = smN a n + a n + x
    by_cases e : n = g
    · rw [e, up_s, smN_cong (g := a) (fun k hk => up_n (by omega))]; omega
    · rw [up_n e, smN_up (by omega)]; omega
theorem smN_get : ∀ {n : Nat} {f : Nat}, f < n → v f ≤ smN v n
  | n + 1, f, h => by
    show v f ≤ smN v n + v n
    by_cases e : f = n
    · rw [e]; omega
    · have := smN_get (n := n) (f := f) (by omega); omega
theorem smN_mono {m : Nat} : ∀ {n : Nat}, m ≤ n → smN v m ≤ smN v n
  | 0, h => by rw [Nat.le_zero.mp h]; exact Nat.le_refl _
  | n + 1, h => by
    by_cases e : m = n + 1
    · rw [e]; exact Nat.le_refl _
    · exact Nat.le_trans (smN_mono (by omega)) (Nat.le_add_right _ _)
theorem stW_sm (hG : gOk R C kd) {f : Nat} (hf : f < R * C) : ∀ w, w ≤ 4 → smN (stW R C kd v f w a) 36 = smN a 36 + w * v f
  | 0, _ => by rw [Nat.zero_mul]; rfl
  | w + 1, h => by
    have h36 := gOk_36 hG
    have := gto_lt hG hf (show w < 4 by omega)
    show smN (up (stW R C kd v f w a) _ _) 36 = _
    rw [smN_up (by omega), stW_sm hG hf w (by omega), Nat.succ_mul]; omega
theorem stF_sm (hG : gOk R C kd) : ∀ f, f ≤ R * C → smN (stF R C kd v f) 36 = 4 * smN v f
  | 0, _ => by
    have : ∀ n, smN (fun _ => 0) n = 0 := fun n => by
      induction n with
      | zero => rfl
      | succ n ih => exact ih
    exact this 36
  | f + 1, h => by
    show smN (stW R C kd v f 4 (stF R C kd v f)) 36 = 4 * (smN v f + v f)
    rw [stW_sm hG (by omega) 4 (by omega), stF_sm hG f (by omega)]; omega
theorem stK_sm (hG : gOk R C kd) {f : Nat} : ∀ k, smN (stK R C kd f k) 36 ≤ 4 ^ k
  | 0 => by
    have h1 : ∀ n, smN (fun g => b1 (decide (g = f))) n = b1 (decide (f < n)) := fun n => by
      induction n with
      | zero => rfl
      | succ n ih =>
        show smN _ n + b1 (decide (n = f)) = _
        rw [ih]
        by_cases e : f < n
        · rw [decide_eq_true e, decide_eq_false (by omega), decide_eq_true (by omega)]; rfl
        · by_cases g : n = f
          · rw [decide_eq_false e, decide_eq_true g, decide_eq_true (by omega)]; rfl
          · rw [decide_eq_false e, decide_eq_false g, decide_eq_false (by omega)]; rfl
    show smN (fun g => b1 (decide (g = f))) 36 ≤ 1
    rw [h1]
    cases decide (f < 36) <;> decide
  | k + 1 => by
    have h36 := gOk_36 hG
    show smN (stF R C kd (stK R C kd f k) (R * C)) 36 ≤ 4 ^ (k + 1)
    rw [stF_sm hG _ (Nat.le_refl _), Nat.pow_succ]
    have := stK_sm hG (f := f) k
    have := smN_mono (v := stK R C kd f k) h36
    omega
theorem c_once (hG : cG s R C kd) (h : ∀ g, g < 36 → s.1 33 0 g = nI (v g)) : ∃ t, ev (d + 10) f_Paths_strayOnce [vR 8 0] s = some (none, t) ∧ (∀ g, g < 36 → t.1 33 0 g = nI (stO R C kd v g)) ∧ fr (fun c _ _ => c = 33 ∨ c = 34) s t := by
  have h36 := gOk_36 hG.1
  have hg := hG.1
  have f0 : fr (fun c _ _ => c = 34) s (x_fillF s 34 0 36 0) := fr_fill (fr_r _ _) (fun _ => rfl)
  obtain ⟨t, k1, k2, k3⟩ := chainE (R * C) (fun f (t : xS) => Paths_strayOnce_L1 (d + 9) (nI f) t) (fun f t => (∀ g, g < 36 → t.1 34 0 g = nI (stF R C kd v f g)) ∧ fr (fun c _ _ => c = 34) s t) (by
    rintro f t hf ⟨h1, h2⟩
    have hGt : cG t R C kd := cG_fr hG h2 (by omega) (by omega) (by omega)
    obtain ⟨b, e1, e2, e3⟩ := chainE 4 (fun w (t : xS) => Paths_strayOnce_L2 (d + 9) (nI f) (nI w) t) (fun w t => (∀ g, g < 36 → t.1 34 0 g = nI (stW R C kd v f w (stF R C kd v f) g)) ∧ fr (fun c _ _ => c = 34) s t) (by
      rintro w b hw ⟨g1, g2⟩
      have hGb : cG b R C kd := cG_fr hG g2 (by omega) (by omega) (by omega)
      have hlt := gto_lt hg hf hw
      have hj : Paths_strayOnce_J3 (d + 9) (nI f) (nI w) (nI (gto R C kd f w)) b = Paths_strayOnce_L2 (d + 9) (nI f) (nI (w + 1)) (wI b 34 0 (gto R C kd f w) (nI (stW R C kd v f w (stF R C kd v f) (gto R C kd f w) + v f))) := by
        rw [Paths_strayOnce_J3_eq, in_t (show gto R C kd f w < 36 by omega) (by omega), if_pos rfl, in_t (show f < 36 by omega) (by omega), if_pos rfl, if_pos rfl, n_cl (by omega), n_cl (by omega), g1 _ (by omega), (g2 33 0 f (by omega)).1, h f (by omega), nI_add, nI_1]
      refine ⟨wI b 34 0 (gto R C kd f w) (nI (stW R C kd v f w (stF R C kd v f) (gto R C kd f w) + v f)), ?_, fun g hg' => ?_, fr_wI g2 rfl⟩
      · show Paths_strayOnce_L2 (d + 9) (nI f) (nI w) b = _
        rw [Paths_strayOnce_L2_eq, nl_4, if_pos (of_eq_true (lt_t hw (by omega))), g_next hGb hf hw, bI_s, ← hj]
        unfold gto
        cases hx : nxt R C kd f w with
        | none => rw [oI_n, if_pos rfl]; rfl
        | some g =>
          have := nxt_lt hg hf hw hx
          rw [oI_s, if_neg (m1_nn (by omega))]; rfl
      · show _ = nI (up (stW R C kd v f w (stF R C kd v f)) (gto R C kd f w) (stW R C kd v f w (stF R C kd v f) (gto R C kd f w) + v f) g)
        by_cases e : g = gto R C kd f w
        · rw [e, wI_s1, up_s]
        · rw [wI_nk e, up_n e]; exact g1 g hg') 4 0 t (by omega) ⟨h1, h2⟩
    refine ⟨b, ?_, e2, e3⟩
    have e1' : Paths_strayOnce_L2 (d + 9) (nI f) 0 t = Paths_strayOnce_L2 (d + 9) (nI f) (nI 4) b := e1
    show Paths_strayOnce_L1 (d + 9) (nI f) t = Paths_strayOnce_L1 (d + 9) (nI (f + 1)) b
    rw [Paths_strayOnce_L1_eq, hGt.2.2.2.1, if_pos (of_eq_true (lt_t hf (by omega))), e1', Paths_strayOnce_L2_eq, nl_4, if_neg (of_eq_false (lt_f (Nat.le_refl _) (by omega))), nI_1]) (R * C) 0 (x_fillF s 34 0 36 0) (by omega) ⟨fun g hg' => if_pos ⟨rfl, rfl, by omega, hg'⟩, f0⟩
  have hGt : cG t R C kd := cG_fr hG k3 (by omega) (by omega) (by omega)
  have k1' : Paths_strayOnce_L1 (d + 9) 0 (x_fillF s 34 0 36 0) = Paths_strayOnce_L1 (d + 9) (nI (R * C)) t := k1
  refine ⟨x_cpI t 34 0 0 33 0 0 36, ?_, fun g hg' => ?_, fun c i k hc => ?_⟩
  · rw [Paths_strayOnce_eq, fill_34, bV_s, k1', Paths_strayOnce_L1_eq, hGt.2.2.2.1, if_neg (of_eq_false (lt_f (Nat.le_refl _) (by omega))), cp_34, bV_s]
  · rw [cpI_i (by omega), Nat.zero_add, Nat.sub_zero]; exact k2 g hg'
  · rw [cpI_n (by omega), cpI_2]; exact k3 c i k (by omega)
theorem c_strays (hG : cG s R C kd) {f g m : Nat} (hf : f < R * C) (hg : g < R * C) (hm : m ≤ 8) : ∃ t, ev (d + 12) f_Paths_countStrays [vR 8 0, vI (nI f), vI (nI m), vI (nI g)] s = some (some (vI (nI (stK R C kd f m g))), t) ∧ fr (fun c _ _ => c = 33 ∨ c = 34) s t := by
  have h36 := gOk_36 hG.1
  have f0 : fr (fun c _ _ => c = 33 ∨ c = 34) s (wI (x_fillF s 33 0 36 0) 33 0 f 1) := fr_wI (fr_fill (fr_r _ _) (fun _ => Or.inl rfl)) (Or.inl rfl)
  obtain ⟨t, k1, k2, k3⟩ := chainE m (fun j (t : xS) => Paths_countStrays_L1 (d + 11) (nI m) (nI g) (nI j) t) (fun j t => (∀ g, g < 36 → t.1 33 0 g = nI (stK R C kd f j g)) ∧ fr (fun c _ _ => c = 33 ∨ c = 34) s t) (by
    rintro j t hj ⟨h1, h2⟩
    obtain ⟨b, e1, e2, e3⟩ := c_once (d := d + 1) (cG_fr hG h2 (by omega) (by omega) (by omega)) h1
    refine ⟨b, ?_, e2, fr_t h2 e3⟩
    show Paths_countStrays_L1 (d + 11) (nI m) (nI g) (nI j) t = _
    rw [Paths_countStrays_L1_eq, if_pos (of_eq_true (lt_t hj (by omega))), e1, bV_s, nI_1]) m 0 _ (by omega) ⟨fun x hx => by
      show _ = nI (b1 (decide (x = f)))
      by_cases e : x = f
      · rw [e, wI_s1, decide_eq_true rfl]; rfl
      · rw [wI_nk e, decide_eq_false e]; exact if_pos ⟨rfl, rfl, by omega, hx⟩, f0⟩
  have k1' : Paths_countStrays_L1 (d + 11) (nI m) (nI g) 0 (wI (x_fillF s 33 0 36 0) 33 0 f 1) = Paths_countStrays_L1 (d + 11) (nI m) (nI g) (nI m) t := k1
  refine ⟨t, ?_, k3⟩
  rw [Paths_countStrays_eq, g_has hG, in_t hf (by omega), bI_s, if_neg (by decide), g_has hG, in_t hg (by omega), bI_s, if_neg (by decide), fill_33, bV_s, in_t (show f < 36 by omega) (by omega), if_pos rfl, n_cl (by omega), k1', Paths_countStrays_L1_eq, if_neg (of_eq_false (lt_f (Nat.le_refl _) (by omega))), in_t (show g < 36 by omega) (by omega), if_pos rfl, n_cl (by omega), k2 g (by omega)]
end STRAY

/-! forms, most, ways: a place (a field, what is formed) and what a push makes of it. -/
section PLACE
variable {d R C n p x w : Nat} {kd : Nat → Nat} {S : Sn} {L : List Nat} {s t : xS}
def nxP (R C : Nat) (kd : Nat → Nat) (n : Nat) (S : Sn) (L : List Nat) (p x w : Nat) : Option Nat := match nxt R C kd (x / 64) w with
  | none => none
  | some g => some (64 * g + ((x % 64) ||| cfm R C kd (ruL L) (pc (x % 64)) w (oth S.1 p g n) p (jrem S.2.2.2.2 7) g))
theorem or_chk : ((List.range 64).all fun a => (List.range 64).all fun b => decide (nI a ||| nI b = nI (a ||| b)) && decide (a ||| an b a = a ||| b)) = true := by decide +kernel
theorem or_n {a b : Nat} (ha : a < 64) (hb : b < 64) : nI a ||| nI b = nI (a ||| b) ∧ a ||| an b a = a ||| b := by
  have h := all_r (all_r or_chk ha) hb
  rw [Bool.and_eq_true, decide_eq_true_eq, decide_eq_true_eq] at h
  exact h
theorem or_64 {a b : Nat} (ha : a < 64) (hb : b < 64) : a ||| b < 64 := Nat.or_lt_two_pow (n := 6) ha hb
theorem nxP_lt {y : Nat} (hG : gOk R C kd) (hx : x < 64 * (R * C)) (hw : w < 4) (h : nxP R C kd n S L p x w = some y) : y < 64 * (R * C) := by
  unfold nxP at h
  cases hn : nxt R C kd (x / 64) w with
  | none => rw [hn] at h; cases h
  | some g =>
    rw [hn] at h
    have hg := (nxt_lt hG (show x / 64 < R * C by omega) hw hn).1
    have h := Option.some.inj h
    have := or_64 (show x % 64 < 64 by omega) (cfm_lt (L := ruL L) (v := pc (x % 64)) (k := oth S.1 p g n) (p := p) (M := jrem S.2.2.2.2 7) hG hg hw)
    omega
def cPm (s : xS) (R C : Nat) (kd : Nat → Nat) (n : Nat) (S : Sn) (L : List Nat) (p : Nat) : Prop := ∀ g w c, g < R * C → w < 4 → c ≤ 6 → s.1 37 0 ((4 * g + w) * 7 + c) = -1 ∨ s.1 37 0 ((4 * g + w) * 7 + c) = nI (cfm R C kd (ruL L) c w (oth S.1 p g n) p (jrem S.2.2.2.2 7) g)
theorem cPm_fr {r : Nat → Nat → Nat → Prop} (h : cPm s R C kd n S L p) (f : fr r s t) (h1 : ∀ k, ¬ r 37 0 k) : cPm t R C kd n S L p := fun g w c hg hw hc => by rw [(f _ _ _ (h1 _)).1]; exact h g w c hg hw hc
def pPu (c i k : Nat) : Prop := pE c i k ∨ c = 37
theorem n_d64 {x : Nat} (hx : x < 2304) : nI x / 64 = nI (x / 64) := n_div (d := 64) (by omega) (by omega) (by omega)
theorem n_r64 {x : Nat} (hx : x < 2304) : jrem (nI x) 64 = nI (x % 64) := n_rem (d := 64) (by omega) (by omega) (by omega)
theorem c_pushed (hG : cG s R C kd) (hO : cOS s 0 n S) (ho : oOkS R C kd n S) (hR : cR s 0 (ruL L)) (hL : wfL (ruL L) 0) (hp : p < n) (h9 : s.1 9 0 9 = nI p) (hm : cPm s R C kd n S L p) (hx : x < 64 * (R * C)) (hw : w < 4) : ∃ t, ev (d + 4) f_Search_pushed [vR 9 0, vI (nI x), vI (nI w)] s = some (some (vI (oI (nxP R C kd n S L p x w))), t) ∧ cPm t R C kd n S L p ∧ fr pPu s t := by
  have b36 := gOk_36 hG.1
  have hn4 := ho.1
  have hx2 : x < 2304 := by omega
  have hnx := g_next (d := d + 2) hG (show x / 64 < R * C by omega) hw
  unfold nxP
  rw [Search_pushed_eq, if_neg (by decide), n_d64 hx2, hnx, bI_s]
  cases hn : nxt R C kd (x / 64) w with
  | none => exact ⟨s, by rw [oI_n, if_pos rfl], hm, fr_r _ _⟩
  | some g =>
    have hg := (nxt_lt hG.1 (show x / 64 < R * C by omega) hw hn).1
    have hpc : pc (x % 64) ≤ 6 := pc_le _
    obtain ⟨c, hc⟩ : ∃ c, pc (x % 64) = c := ⟨_, rfl⟩
    rw [hc] at hpc
    obtain ⟨a, ea⟩ : ∃ a, cfm R C kd (ruL L) c w (oth S.1 p g n) p (jrem S.2.2.2.2 7) g = a := ⟨_, rfl⟩
    have ha : a < 64 := by rw [← ea]; exact cfm_lt hG.1 hg hw
    have hor := or_n (show x % 64 < 64 by omega) ha
    have h4w : (4 : Int32) * nI g + nI w = nI (4 * g + w) := by rw [nl_4, pk_mul, nI_add]
    have h7 : nI (4 * g + w) * 7 + nI c = nI ((4 * g + w) * 7 + c) := by rw [nl_7, pk_mul, nI_add]
    have hi : (4 * g + w) * 7 + c < 1008 := by omega
    have hJ : ∀ t : xS, t.1 37 0 ((4 * g + w) * 7 + c) = nI a → Search_pushed_J1 (d + 3) (nI g) (nI (x % 64)) (nI ((4 * g + w) * 7 + c)) t = some (some (vI (oI (some (64 * g + ((x % 64) ||| a))))), t) := fun t h => by
      rw [Search_pushed_J1_eq, in_t hi (by omega), if_pos rfl, n_cl (by omega), h, hor.1, show (64 : Int32) = nI 64 from rfl, pk_mul, nI_add, oI_s, Nat.mul_comm g 64]
    rw [oI_s, if_neg (m1_nn (by omega)), Search_viewsIn_eq, n_and63 (by omega), bI_s, bc_s (show x % 64 < 64 by omega), hc, bI_s, h4w, h7, in_t hi (by omega), if_pos rfl, n_cl (by omega)]
    have hsv : ∀ t : xS, t.1 37 0 ((4 * g + w) * 7 + c) = nI a → Search_pushed_J1 (d + 3) (nI g) (nI (x % 64)) (nI ((4 * g + w) * 7 + c)) t = some (some (vI (oI (match some g with | none => none | some g => some (64 * g + ((x % 64) ||| cfm R C kd (ruL L) c w (oth S.1 p g n) p (jrem S.2.2.2.2 7) g))))), t) := fun t h => by
      show _ = some (some (vI (oI (some (64 * g + ((x % 64) ||| cfm R C kd (ruL L) c w (oth S.1 p g n) p (jrem S.2.2.2.2 7) g))))), t)
      rw [ea]; exact hJ t h
    by_cases z : s.1 37 0 ((4 * g + w) * 7 + c) = -1
    · obtain ⟨v, e1, e2⟩ := e_canForm (d := d) (v := c) hG hO ho hR hL hg hw (show p < 4 by omega) hpc
      rw [ea] at e1
      rw [if_pos z, h9, e1, bI_s, if_pos rfl, hsv _ (wI_s1 _ _ _ _ _)]
      refine ⟨_, rfl, fun g' w' c' hg' hw' hc' => ?_, fr_wI (fr_m e2 (fun _ _ _ => Or.inl)) (Or.inr rfl)⟩
      by_cases y : (4 * g' + w') * 7 + c' = (4 * g + w) * 7 + c
      · have y1 : g' = g := by omega
        have y2 : w' = w := by omega
        have y3 : c' = c := by omega
        rw [y1, y2, y3, wI_s1, ea]; exact Or.inr rfl
      · rw [wI_nk y, (e2 37 0 _ (by simp [pE])).1]; exact hm g' w' c' hg' hw' hc'
    · have h37 : s.1 37 0 ((4 * g + w) * 7 + c) = nI a := by
        rcases hm g w c hg hw hpc with y | y
        · exact absurd y z
        · rw [y, ea]
      rw [if_neg z, hsv _ h37]
      exact ⟨s, rfl, hm, fr_r _ _⟩
theorem m_placeBy (hG : rG s R C kd) (hO : rOS s 0 n S) (ho : oOkS R C kd n S) (hR : rR s L) (hL : wfL (ruL L) 0) (hp : p < n) (hx : x < 64 * (R * C)) (hw : w < 4) : ∃ t, ev (d + 5) f_Ref_placeBy [vR 13 0, vI (nI p), vI (nI x), vI (nI w)] s = some (some (vI (oI (nxP R C kd n S L p x w))), t) ∧ fr pF s t := by
  have b36 := gOk_36 hG.1
  have hn4 := ho.1
  have hx2 : x < 2304 := by omega
  have hb := m_beside (d := d + 2) hG (show x / 64 < R * C by omega) hw
  unfold nxP
  rw [Ref_placeBy_eq, if_neg (by decide), n_d64 hx2, hb, bI_s, if_neg (by decide)]
  cases hbs : bes R C (x / 64) w with
  | none =>
    have hn : nxt R C kd (x / 64) w = none := by unfold nxt; rw [hbs]
    have ho := m_isOpen_n (d := d + 1) hG
    rw [hn, oI_n, ho, bI_s, if_pos (by rfl)]
    exact ⟨s, rfl, fr_r _ _⟩
  | some g =>
    have hg := bes_lt hG.1.1 hG.1.2.1 hG.1.2.2.1 hG.1.2.2.2.1 (show x / 64 < R * C by omega) hw hbs
    have hop := m_isOpen (d := d + 1) hG hg
    rw [oI_s, hop, bI_s]
    by_cases z : kd g = 1
    · have hn : nxt R C kd (x / 64) w = none := by unfold nxt; rw [hbs]; simp [z]
      rw [hn, decide_eq_true z, if_pos (by rfl)]
      exact ⟨s, rfl, fr_r _ _⟩
    · have hn : nxt R C kd (x / 64) w = some g := by unfold nxt; rw [hbs]; simp [z]
      have hv : x % 64 < 64 := by omega
      obtain ⟨v, e1, _, _, e2⟩ := m_formed (d := d) (p := p) (vw := x % 64) hG hO ho hR hL hg hw (by omega) hv
      rw [fmr_cfm hG.1 hg hw hv] at e1
      obtain ⟨a, ea⟩ : ∃ a, cfm R C kd (ruL L) (pc (x % 64)) w (oth S.1 p g n) p (jrem S.2.2.2.2 7) g = a := ⟨_, rfl⟩
      have ha : a < 64 := by rw [← ea]; exact cfm_lt hG.1 hg hw
      rw [ea] at e1
      have hor := or_n hv ha
      have hor2 := or_n hv (an_lt (b := x % 64) ha)
      rw [hn, decide_eq_false z, if_neg (by decide), n_r64 hx2, e1, bI_s]
      refine ⟨v, ?_, e2⟩
      show some (some (vI (64 * nI g + (nI (x % 64) ||| nI (an a (x % 64))))), v) = some (some (vI (oI (some (64 * g + ((x % 64) ||| cfm R C kd (ruL L) (pc (x % 64)) w (oth S.1 p g n) p (jrem S.2.2.2.2 7) g))))), v)
      rw [ea, hor2.1, hor.2, show (64 : Int32) = nI 64 from rfl, pk_mul, nI_add, oI_s]
end PLACE

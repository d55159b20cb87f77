/-! Laying out which field lies beside which. -/
section LINK
variable {d : Nat} {R C r c : Nat} {kd : Nat → Nat} {s t : xS}
def cG0 (s : xS) (R C : Nat) (kd : Nat → Nat) : Prop := gOk R C kd ∧ s.1 2 0 2 = nI R ∧ s.1 2 0 3 = nI C ∧ s.1 2 0 4 = nI (R * C) ∧ ∀ f, f < R * C → s.1 15 0 f = nI (kd f)
theorem cG0_fr {p : Nat → Nat → Nat → Prop} (h : cG0 s R C kd) (g : fr p s t) (h2 : ∀ k, ¬ p 2 0 k) (h15 : ∀ k, ¬ p 15 0 k) : cG0 t R C kd :=
  ⟨h.1, by rw [(g _ _ _ (h2 _)).1]; exact h.2.1, by rw [(g _ _ _ (h2 _)).1]; exact h.2.2.1, by rw [(g _ _ _ (h2 _)).1]; exact h.2.2.2.1, fun f hf => by rw [(g _ _ _ (h15 _)).1]; exact h.2.2.2.2 f hf⟩
theorem rc_lt (hr : r < R) (hc : c < C) : r * C + c < R * C := by
  have h1 : (r + 1) * C ≤ R * C := Nat.mul_le_mul_right C hr
  rw [Nat.succ_mul] at h1; omega
theorem g0_wall (h : cG0 s R C kd) {f : Nat} (hf : f < R * C) : ev (d + 2) f_Garden_isWall [vR 2 0, vI (nI f)] s = some (some (vI (ib (decide (kd f = 1)))), s) := by
  have b := gOk_kd h.1 hf
  have b36 := gOk_36 h.1
  have hk : ev (d + 1) f_Garden_kindOf [vR 2 0, vI (nI f)] s = some (some (vI (nI (kd f))), s) := by
    rw [Garden_kindOf_eq, h.2.2.2.1, if_neg (nI_pos (by omega)), if_pos (of_eq_true (lt_t hf (by omega))), in_t (show f < 36 by omega) (by omega), if_pos rfl, n_cl (by omega), h.2.2.2.2 f hf]
  rw [Garden_isWall_eq, hk, bI_s, nb_0, nb_1]
  by_cases e : kd f = 1
  · rw [if_pos (show nI (kd f) = 1 by rw [e]; rfl), decide_eq_true e]
  · rw [if_neg (show ¬ nI (kd f) = 1 from of_eq_false (eq_f (b := 1) e (by omega) (by omega))), decide_eq_false e]
def opN (kd : Nat → Nat) (g : Nat) : Option Nat := if kd g = 1 then none else some g
theorem g0_open (h : cG0 s R C kd) (hr : r < R) (hc : c < C) : ev (d + 3) f_Garden_openAt [vR 2 0, vI (nI r), vI (nI c)] s = some (some (vI (oI (opN kd (r * C + c)))), s) := by
  have b1 := h.1.2.1
  have b2 := h.1.2.2.2.1
  have hf := rc_lt hr hc
  have hat : ∀ e, ev (e + 1) f_Garden_at [vR 2 0, vI (nI r), vI (nI c)] s = some (some (vI (nI (r * C + c))), s) := fun e => by
    rw [Garden_at_eq, h.2.2.1, pk_mul, nI_add]
  rw [Garden_openAt_eq, if_neg (nI_pos (by omega)), h.2.1, if_pos (of_eq_true (lt_t hr (by omega))), if_neg (nI_pos (by omega)), h.2.2.1, if_pos (of_eq_true (lt_t hc (by omega))), hat, bI_s, g0_wall h hf, bI_s]
  unfold opN
  by_cases e : kd (r * C + c) = 1
  · rw [decide_eq_true e, if_neg (by decide), if_pos e, oI_n]
  · rw [decide_eq_false e, if_pos (by decide), hat, bI_s, if_neg e, oI_s]
theorem g0_no1 {x : Int32} : ev (d + 3) f_Garden_openAt [vR 2 0, vI (-1), vI x] s = some (some (vI (-1)), s) := by
  rw [Garden_openAt_eq, if_pos (by decide)]
theorem g0_no2 (h : cG0 s R C kd) {x : Int32} : ev (d + 3) f_Garden_openAt [vR 2 0, vI (nI R), vI x] s = some (some (vI (-1)), s) := by
  have b1 := h.1.2.1
  rw [Garden_openAt_eq, if_neg (nI_pos (by omega)), h.2.1, if_neg (of_eq_false (lt_f (Nat.le_refl _) (by omega)))]
theorem g0_no3 (h : cG0 s R C kd) (hr : r < R) : ev (d + 3) f_Garden_openAt [vR 2 0, vI (nI r), vI (-1)] s = some (some (vI (-1)), s) := by
  have b1 := h.1.2.1
  rw [Garden_openAt_eq, if_neg (nI_pos (by omega)), h.2.1, if_pos (of_eq_true (lt_t hr (by omega))), if_pos (by decide)]
theorem g0_no4 (h : cG0 s R C kd) (hr : r < R) : ev (d + 3) f_Garden_openAt [vR 2 0, vI (nI r), vI (nI C)] s = some (some (vI (-1)), s) := by
  have b1 := h.1.2.1
  have b2 := h.1.2.2.2.1
  rw [Garden_openAt_eq, if_neg (nI_pos (by omega)), h.2.1, if_pos (of_eq_true (lt_t hr (by omega))), if_neg (nI_pos (by omega)), h.2.2.1, if_neg (of_eq_false (lt_f (Nat.le_refl _) (by omega)))]
theorem rc_div (hc : c < C) : (r * C + c) / C = r := by
  rw [Nat.mul_comm, Nat.mul_add_div (by omega), Nat.div_eq_of_lt hc, Nat.add_zero]
theorem rc_mod (hc : c < C) : (r * C + c) % C = c := by
  rw [Nat.mul_comm, Nat.mul_add_mod, Nat.mod_eq_of_lt hc]
theorem n_sub1 {a : Nat} : nI (a + 1) - 1 = nI a := by
  rw [show (1 : Int32) = nI 1 from rfl, n_sub (by omega), Nat.add_sub_cancel]
theorem g0_w0 (h : cG0 s R C kd) (hr : r < R) (hc : c < C) : ev (d + 3) f_Garden_openAt [vR 2 0, vI (nI r - 1), vI (nI c)] s = some (some (vI (oI (nxt R C kd (r * C + c) 0))), s) := by
  have e : nxt R C kd (r * C + c) 0 = match (if r = 0 then none else some (r * C + c - C)) with
      | none => none
      | some g => if kd g = 1 then none else some g := by
    unfold nxt bes
    rw [if_pos rfl, rc_div hc]
    rfl
  rw [e]
  cases r with
  | zero => rw [show nI 0 - 1 = -1 from by decide, g0_no1]; rfl
  | succ r =>
    rw [n_sub1, g0_open h (by omega) hc, if_neg (by omega), Nat.succ_mul, show r * C + C + c - C = r * C + c by omega]
    rfl
theorem g0_w1 (h : cG0 s R C kd) (hr : r < R) (hc : c < C) : ev (d + 3) f_Garden_openAt [vR 2 0, vI (nI r), vI (nI c + 1)] s = some (some (vI (oI (nxt R C kd (r * C + c) 1))), s) := by
  have e : nxt R C kd (r * C + c) 1 = match (if c + 1 = C then none else some (r * C + c + 1)) with
      | none => none
      | some g => if kd g = 1 then none else some g := by
    unfold nxt bes
    rw [if_neg (by omega), if_pos rfl, rc_mod hc]
    rfl
  rw [e, nI_1]
  by_cases z : c + 1 = C
  · rw [z, g0_no4 h hr, if_pos rfl]; rfl
  · rw [g0_open h hr (by omega), if_neg z]; rfl
theorem g0_w2 (h : cG0 s R C kd) (hr : r < R) (hc : c < C) : ev (d + 3) f_Garden_openAt [vR 2 0, vI (nI r + 1), vI (nI c)] s = some (some (vI (oI (nxt R C kd (r * C + c) 2))), s) := by
  have e : nxt R C kd (r * C + c) 2 = match (if r + 1 = R then none else some (r * C + c + C)) with
      | none => none
      | some g => if kd g = 1 then none else some g := by
    unfold nxt bes
    rw [if_neg (by omega), if_neg (by omega), if_pos rfl, rc_div hc]
    rfl
  rw [e, nI_1]
  by_cases z : r + 1 = R
  · rw [z, g0_no2 h, if_pos rfl]; rfl
  · rw [g0_open h (show r + 1 < R by omega) hc, if_neg z, Nat.succ_mul, show r * C + C + c = r * C + c + C by omega]; rfl
theorem g0_w3 (h : cG0 s R C kd) (hr : r < R) (hc : c < C) : ev (d + 3) f_Garden_openAt [vR 2 0, vI (nI r), vI (nI c - 1)] s = some (some (vI (oI (nxt R C kd (r * C + c) 3))), s) := by
  have e : nxt R C kd (r * C + c) 3 = match (if c = 0 then none else some (r * C + c - 1)) with
      | none => none
      | some g => if kd g = 1 then none else some g := by
    unfold nxt bes
    rw [if_neg (by omega), if_neg (by omega), if_neg (by omega), rc_mod hc]
    rfl
  rw [e]
  cases c with
  | zero => rw [show nI 0 - 1 = -1 from by decide, g0_no3 h hr]; rfl
  | succ c =>
    rw [n_sub1, g0_open h hr (by omega), if_neg (by omega), show r * C + (c + 1) - 1 = r * C + c by omega]
    rfl
theorem g_link (h : cG0 s R C kd) : ∃ t, ev (d + 5) f_Garden_link [vR 2 0] s = some (none, t) ∧ cG t R C kd ∧ fr (fun c _ _ => c = 16) s t := by
  have b36 := gOk_36 h.1
  have b1 := h.1.2.1
  have b2 := h.1.2.2.2.1
  obtain ⟨t, k1, k2, k3⟩ := chainE R (fun r (t : xS) => Garden_link_L1 (d + 4) (nI r) t) (fun r t => (∀ f, f < r * C → ∀ w, w < 4 → t.1 16 0 (4 * f + w) = oI (nxt R C kd f w)) ∧ fr (fun c _ _ => c = 16) s t) (by
    rintro r t hr ⟨g1, g2⟩
    have ht : cG0 t R C kd := cG0_fr h g2 (by omega) (by omega)
    obtain ⟨b, e1, e2, e3⟩ := chainE C (fun c (t : xS) => Garden_link_L2 (d + 4) (nI r) (nI c) t) (fun c t => (∀ f, f < r * C + c → ∀ w, w < 4 → t.1 16 0 (4 * f + w) = oI (nxt R C kd f w)) ∧ fr (fun c _ _ => c = 16) s t) (by
      rintro c a hc ⟨q1, q2⟩
      have ha : cG0 a R C kd := cG0_fr h q2 (by omega) (by omega)
      have hf := rc_lt hr hc
      obtain ⟨f, ef⟩ : ∃ f, r * C + c = f := ⟨_, rfl⟩
      have f1 : fr (fun c _ _ => c = 16) a (wI a 16 0 (4 * f) (oI (nxt R C kd f 0))) := fr_wI (fr_r _ _) rfl
      have f2 : fr (fun c _ _ => c = 16) a (wI (wI a 16 0 (4 * f) (oI (nxt R C kd f 0))) 16 0 (4 * f + 1) (oI (nxt R C kd f 1))) := fr_wI f1 rfl
      have f3 : fr (fun c _ _ => c = 16) a (wI (wI (wI a 16 0 (4 * f) (oI (nxt R C kd f 0))) 16 0 (4 * f + 1) (oI (nxt R C kd f 1))) 16 0 (4 * f + 2) (oI (nxt R C kd f 2))) := fr_wI f2 rfl
      have w0 := g0_w0 (d := d + 1) ha hr hc
      have w1 := g0_w1 (d := d + 1) (cG0_fr ha f1 (by omega) (by omega)) hr hc
      have w2 := g0_w2 (d := d + 1) (cG0_fr ha f2 (by omega) (by omega)) hr hc
      have w3 := g0_w3 (d := d + 1) (cG0_fr ha f3 (by omega) (by omega)) hr hc
      rw [ef] at w0 w1 w2 w3 hf
      refine ⟨wI (wI (wI (wI a 16 0 (4 * f) (oI (nxt R C kd f 0))) 16 0 (4 * f + 1) (oI (nxt R C kd f 1))) 16 0 (4 * f + 2) (oI (nxt R C kd f 2))) 16 0 (4 * f + 3) (oI (nxt R C kd f 3)), ?_, ?_, fr_t q2 (fr_wI f3 rfl)⟩
      · show Garden_link_L2 (d + 4) (nI r) (nI c) a = Garden_link_L2 (d + 4) (nI r) (nI (c + 1)) _
        have hat : ev (d + 4) f_Garden_at [vR 2 0, vI (nI r), vI (nI c)] a = some (some (vI (nI f)), a) := by
          rw [Garden_at_eq, ha.2.2.1, pk_mul, nI_add, ef]
        have m4 : (4 : Int32) * nI f = nI (4 * f) := by rw [nl_4, pk_mul]
        have m1 : nI (4 * f) + 1 = nI (4 * f + 1) := nI_1 _
        have m2 : nI (4 * f) + 2 = nI (4 * f + 2) := by rw [nl_2, nI_add]
        have m3 : nI (4 * f) + 3 = nI (4 * f + 3) := by rw [nl_3, nI_add]
        rw [Garden_link_L2_eq, ha.2.2.1, if_pos (of_eq_true (lt_t hc (by omega))), hat, bI_s, w0, bI_s, m4, m1, m2, m3, in_t (show 4 * f < 144 by omega) (by omega), if_pos rfl, n_cl (by omega), w1, bI_s, in_t (show 4 * f + 1 < 144 by omega) (by omega), if_pos rfl, n_cl (by omega), w2, bI_s, in_t (show 4 * f + 2 < 144 by omega) (by omega), if_pos rfl, n_cl (by omega), w3, bI_s, in_t (show 4 * f + 3 < 144 by omega) (by omega), if_pos rfl, n_cl (by omega), nI_1]
      · intro g hg w hw
        have hg : g < f + 1 := by rw [← ef]; omega
        by_cases e : g = f
        · rw [e]
          rcases (by omega : w = 0 ∨ w = 1 ∨ w = 2 ∨ w = 3) with rfl | rfl | rfl | rfl
          · rw [wI_nk (by omega), wI_nk (by omega), wI_nk (by omega)]; exact wI_s1 _ _ _ _ _
          · rw [wI_nk (by omega), wI_nk (by omega), wI_s1]
          · rw [wI_nk (by omega), wI_s1]
          · rw [wI_s1]
        · rw [wI_nk (by omega), wI_nk (by omega), wI_nk (by omega), wI_nk (by omega)]
          exact q1 g (by omega) w hw) C 0 t (by omega) ⟨fun f hf => g1 f (by omega), g2⟩
    refine ⟨b, ?_, fun f hf => e2 f (by rw [Nat.succ_mul] at hf; exact hf), e3⟩
    have hb : cG0 b R C kd := cG0_fr h e3 (by omega) (by omega)
    have e1' : Garden_link_L2 (d + 4) (nI r) 0 t = Garden_link_L2 (d + 4) (nI r) (nI C) b := e1
    show Garden_link_L1 (d + 4) (nI r) t = Garden_link_L1 (d + 4) (nI (r + 1)) b
    rw [Garden_link_L1_eq, ht.2.1, if_pos (of_eq_true (lt_t hr (by omega))), e1', Garden_link_L2_eq, hb.2.2.1, if_neg (of_eq_false (lt_f (Nat.le_refl _) (by omega))), nI_1]) R 0 s (by omega) ⟨fun f hf => absurd hf (by rw [Nat.zero_mul]; exact Nat.not_lt_zero f), fr_r _ _⟩
  have ht : cG0 t R C kd := cG0_fr h k3 (by omega) (by omega)
  have k1' : Garden_link_L1 (d + 4) 0 s = Garden_link_L1 (d + 4) (nI R) t := k1
  refine ⟨t, ?_, ⟨ht.1, ht.2.1, ht.2.2.1, ht.2.2.2.1, ht.2.2.2.2, k2⟩, k3⟩
  rw [Garden_link_eq, k1', Garden_link_L1_eq, ht.2.1, if_neg (of_eq_false (lt_f (Nat.le_refl _) (by omega)))]
end LINK

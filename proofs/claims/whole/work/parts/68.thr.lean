/-! field, pram, row: what they answer; where they refuse the law's flag is 1. -/
section THR
variable {d k : Nat} {R C n T u q nh : Nat} {kd : Nat → Nat} {S S' : Sn} {L : List Nat} {l l' : List Int64} {sg : Nat → Nat} {U : Nat → Sn} {K : Nat → Option Sn} {sq : Nat → Nat × Nat × Nat} {hq : Nat → Nat × Nat} {s t v : xS} {r x y : Int32}
/-- both answer v, or both refuse -/
def GsT (fm : Nat) (d : Nat) (as : List xV) (a : Ab) (k : Nat) (o : Option xV) (v0 : xV) : Prop := ∀ s, RI s a k → ∃ t, ev (d + 100) fm (vR 13 0 :: as) s = some (some (o.getD v0), t) ∧ RI t a (k + 1) ∧ fr pRef s t ∧ t.1 13 0 0 = (if o = none then 1 else 0)
theorem RI_t (hn : n ≤ 4) (hs : RI s ((R, C, kd), (n, S), (L, l), (T, sg), (u, U), K, (q, sq), nh, hq) k) : RI (wI (wI s 13 0 0 0) 13 0 0 1) ((R, C, kd), (n, S), (L, l), (T, sg), (u, U), K, (q, sq), nh, hq) (k + 1) ∧ fr pRef s (wI (wI s 13 0 0 0) 13 0 0 1) := by
  have f : fr p0 s (wI (wI s 13 0 0 0) 13 0 0 1) := fr_wI fr_0 ⟨rfl, rfl⟩
  exact ⟨RI_q hn hs (fr_m f (fun _ _ _ => p0_RQ)) (rRow_fr hs.2.2.2.1 f (by simp [p0]) (by intro k; simp [p0])), fr_m f (fun c i k h => Or.inl h.1)⟩
def fldX (R C : Nat) (kd : Nat → Nat) (x : Int32) : Option xV := bif x_in x (R * C) then some (vI (nI (kd x.toNatClampNeg))) else none
theorem c_field (hs : CI s ((R, C, kd), (n, S), (L, l), (T, sg), (u, U), K, (q, sq), nh, hq)) (x : Int32) : ev (d + 100) f_Main_field [vR 0 0, vI x] s = (fldX R C kd x).map (fun v => (some v, s)) := by
  have h36 := gOk_36 hs.1.1
  have hG : cG s R C kd := hs.1
  rw [Main_field_eq, g_has hG, bI_s]
  unfold fldX
  cases hx : x_in x (R * C) with
  | false => rw [if_pos (by decide)]; rfl
  | true =>
    obtain ⟨f, hf, rfl⟩ := (n_in_iff (by have h36 : R * C ≤ 36 := h36; omega)).mp hx
    have h36 : R * C ≤ 36 := h36
    rw [if_neg (by decide), g_kindOf hG hf, bI_s, n_cl (by omega)]; rfl
theorem t_field (ha : AOk ((R, C, kd), (n, S), (L, l), (T, sg), (u, U), K, (q, sq), nh, hq)) (x : Int32) : GsT f_Ref_field d [vI x] ((R, C, kd), (n, S), (L, l), (T, sg), (u, U), K, (q, sq), nh, hq) k (fldX R C kd x) (vI 0) := by
  intro s hs
  have hn : n ≤ 4 := ha.2.1.1
  have h36 : R * C ≤ 36 := gOk_36 ha.1
  have hG : rG (wI s 13 0 0 0) R C kd := rG_fr hs.1 fr_0 (by simp [p0]) (by simp [p0]) (by intro k; simp [p0])
  rw [Ref_field_eq, m_isField hG, bI_s]
  unfold fldX
  cases hx : x_in x (R * C) with
  | false =>
    rw [if_pos (by decide), Ref_refuse_eq, bI_s]
    exact ⟨_, rfl, (RI_t hn hs).1, (RI_t hn hs).2, wI_s1 _ _ _ _ _⟩
  | true =>
    obtain ⟨f, hf, rfl⟩ := (n_in_iff (by omega)).mp hx
    rw [if_neg (by decide), in_t (show f < 36 by omega) (by omega), if_pos rfl, n_cl (by omega), hG.2.2.2 f hf]
    exact ⟨_, rfl, (RI_0 hn hs).1, (RI_0 hn hs).2, wI_s1 _ _ _ _ _⟩
def prmV (R C : Nat) (kd : Nat → Nat) (S : Sn) (p m : Nat) : Int32 := match m with
  | 0 => nI (S.1 p)
  | 1 => nI (S.2.1 p)
  | 2 => nI (S.2.2.1 p)
  | 3 => nI (b1 (S.2.2.2.1.testBit p))
  | _ => oI (nxt R C kd (S.1 p) (S.2.1 p))
def prmX (R C : Nat) (kd : Nat → Nat) (n : Nat) (S : Sn) (x y : Int32) : Option xV := bif x_in x n && x_in y 5 then some (vI (prmV R C kd S x.toNatClampNeg y.toNatClampNeg)) else none
theorem c_pram (ha : AOk ((R, C, kd), (n, S), (L, l), (T, sg), (u, U), K, (q, sq), nh, hq)) (hs : CI s ((R, C, kd), (n, S), (L, l), (T, sg), (u, U), K, (q, sq), nh, hq)) (x y : Int32) : ev (d + 100) f_Main_pram [vR 0 0, vI x, vI y] s = (prmX R C kd n S x y).map (fun v => (some v, s)) := by
  have ho : oOkS R C kd n S := ha.2.1
  have hn : n ≤ 4 := ho.1
  have hG : cG s R C kd := hs.1
  have hO : cOS s 0 n S := hs.2.1
  rw [Main_pram_eq, o_has hO hn, bI_s]
  unfold prmX
  cases hx : x_in x n with
  | false => rw [if_pos (by decide)]; rfl
  | true =>
    rw [if_neg (by decide)]
    obtain ⟨p, hp, rfl⟩ := (n_in_iff (by omega)).mp hx
    obtain ⟨hF, _, hW, hV⟩ := ho.2.2.1 p hp
    by_cases z1 : y < 0
    · rw [if_pos z1, n_neg_in z1]; rfl
    rw [if_neg z1]
    obtain ⟨m, hm, rfl⟩ := nI_of z1
    by_cases z2 : 4 < m
    · rw [if_pos (show (4 : Int32) < nI m from of_eq_true (lt_t (a := 4) z2 hm)), in_f (by omega) hm]; rfl
    · rw [if_neg (show ¬ (4 : Int32) < nI m from of_eq_false (lt_f (a := 4) (by omega) (by omega))), in_t (show m < 5 by omega) (by omega), n_cl (by omega), n_cl (by omega)]
      rcases (by omega : m = 0 ∨ m = 1 ∨ m = 2 ∨ m = 3 ∨ m = 4) with rfl | rfl | rfl | rfl | rfl
      · rw [if_pos (by decide), o_fieldOf hO hn hp, bI_s]; rfl
      · rw [if_neg (by decide), if_pos (by decide), o_wayOf hO hn hp, bI_s]; rfl
      · rw [if_neg (by decide), if_neg (by decide), if_pos (by decide), o_viewsOf hO hn hp, bI_s]; rfl
      · rw [if_neg (by decide), if_neg (by decide), if_neg (by decide), if_pos (by decide), o_isLoose hO hn ho.2.1 hp, bI_s]
        show _ = some (some (vI (nI (b1 (S.2.2.2.1.testBit p)))), s)
        cases S.2.2.2.1.testBit p with
        | true => exact if_neg (by decide)
        | false => exact if_pos (by decide)
      · rw [if_neg (by decide), if_neg (by decide), if_neg (by decide), if_neg (by decide), o_fieldOf hO hn hp, bI_s, o_wayOf hO hn hp, bI_s, g_next hG hF hW, bI_s]; rfl
theorem t_pram (ha : AOk ((R, C, kd), (n, S), (L, l), (T, sg), (u, U), K, (q, sq), nh, hq)) (x y : Int32) : GsT f_Ref_pram d [vI x, vI y] ((R, C, kd), (n, S), (L, l), (T, sg), (u, U), K, (q, sq), nh, hq) k (prmX R C kd n S x y) (vI 0) := by
  intro s hs
  have ho : oOkS R C kd n S := ha.2.1
  have hn : n ≤ 4 := ho.1
  have h36 : R * C ≤ 36 := gOk_36 ha.1
  have hG : rG (wI s 13 0 0 0) R C kd := rG_fr hs.1 fr_0 (by simp [p0]) (by simp [p0]) (by intro k; simp [p0])
  have hO : rOS (wI s 13 0 0 0) 0 n S := rO_fr hs.2.1 fr_0 (by simp [p0]) (by intro k; simp [p0])
  rw [Ref_pram_eq, m_isPram hO hn, bI_s]
  unfold prmX
  cases hx : x_in x n with
  | false =>
    rw [if_pos (by decide), Ref_refuse_eq, bI_s]
    exact ⟨_, rfl, (RI_t hn hs).1, (RI_t hn hs).2, wI_s1 _ _ _ _ _⟩
  | true =>
    rw [if_neg (by decide), m_in0 (n := 5) _ (by decide), bI_s]
    cases hy : x_in y 5 with
    | false =>
      rw [if_pos (by decide), Ref_refuse_eq, bI_s]
      exact ⟨_, rfl, (RI_t hn hs).1, (RI_t hn hs).2, wI_s1 _ _ _ _ _⟩
    | true =>
      obtain ⟨p, hp, rfl⟩ := (n_in_iff (by omega)).mp hx
      obtain ⟨m, hm, rfl⟩ := (n_in_iff (by omega)).mp hy
      obtain ⟨hF, _, hW, hV⟩ := ho.2.2.1 p hp
      refine ⟨wI s 13 0 0 0, ?_, (RI_0 hn hs).1, (RI_0 hn hs).2, wI_s1 _ _ _ _ _⟩
      rw [if_neg (by decide), in_t (show p < 17 by omega) (by omega), if_pos rfl, nl_4, nI_add, in_t (show 4 + p < 17 by omega) (by omega), if_pos rfl, n_cl (by omega), n_cl (by omega), (hO.2.1 p hp).1, (hO.2.1 p hp).2, m_beside hG hF hW, bI_s, n_cl (by omega)]
      by_cases h4 : m < 4
      · rw [if_pos (of_eq_true (lt_t h4 (by omega))), pk_mul, nI_add, in_t (show m * 4 + p < 17 by omega) (by omega), if_pos rfl, n_cl (by omega)]
        rcases (by omega : m = 0 ∨ m = 1 ∨ m = 2 ∨ m = 3) with rfl | rfl | rfl | rfl
        · rw [show 0 * 4 + p = p by omega, (hO.2.1 p hp).1]; rfl
        · rw [show 1 * 4 + p = 4 + p by omega, (hO.2.1 p hp).2]; rfl
        · rw [show 2 * 4 + p = 8 + p by omega, (hO.2.2.1 p (by omega)).1]; rfl
        · rw [show 3 * 4 + p = 12 + p by omega, (hO.2.2.1 p (by omega)).2]; rfl
      · have e : m = 4 := by omega
        subst e
        rw [if_neg (of_eq_false (lt_f (Nat.le_refl _) (by omega))), m_openB hG hF hW, bI_s]
        show _ = some (some (vI (oI (nxt R C kd (S.1 p) (S.2.1 p)))), _)
        cases hx : nxt R C kd (S.1 p) (S.2.1 p) with
        | none => exact if_pos (by decide)
        | some g =>
          rw [nxt_bes hx]
          exact if_neg (show ¬ ib true = 0 by decide)
def rowX (l : List Int64) (x : Int32) : Option xV := bif x_in x l.length then some (vL (l.getD x.toNatClampNeg 0)) else none
theorem c_row (hs : CI s ((R, C, kd), (n, S), (L, l), (T, sg), (u, U), K, (q, sq), nh, hq)) (x : Int32) : ev (d + 100) f_Main_row [vR 0 0, vI x] s = (rowX l x).map (fun v => (some v, s)) := by
  obtain ⟨h1, h2, h3⟩ : cRow s l := hs.2.2.2.1
  have hh : ∀ e, ev (e + 1) f_Numbers_has [vR 10 0, vI x] s = some (some (vI (ib (x_in x l.length))), s) := fun e => by
    rw [Numbers_has_eq, h1, n_in2 x (by omega)]
    by_cases z : x < 0
    · rw [if_pos z, decide_eq_true z, nb_0]; rfl
    · rw [if_neg z, decide_eq_false z]
      by_cases g : x < nI l.length
      · rw [if_pos g, decide_eq_true g, nb_1]; rfl
      · rw [if_neg g, decide_eq_false g, nb_0]; rfl
  rw [Main_row_eq, hh, bI_s]
  unfold rowX
  cases hx : x_in x l.length with
  | false => rw [if_pos (by decide)]; rfl
  | true =>
    obtain ⟨i, hi, rfl⟩ := (n_in_iff (by omega)).mp hx
    rw [if_neg (by decide), Numbers_get_eq, hh, hx, bI_s, if_neg (by decide), in_t (show i < 16 by omega) (by omega), if_pos rfl, bL_s, n_cl (by omega), h3 i hi]; rfl
theorem t_row (ha : AOk ((R, C, kd), (n, S), (L, l), (T, sg), (u, U), K, (q, sq), nh, hq)) (x : Int32) : GsT f_Ref_row d [vI x] ((R, C, kd), (n, S), (L, l), (T, sg), (u, U), K, (q, sq), nh, hq) k (rowX l x) (vL 0) := by
  intro s hs
  have hn : n ≤ 4 := ha.2.1.1
  obtain ⟨h1, h2, h3⟩ : rRow s l := hs.2.2.2.1
  rw [Ref_row_eq, h1, m_in0 (n := l.length) _ (n_m1L (by omega)), bI_s]
  unfold rowX
  cases hx : x_in x l.length with
  | false =>
    rw [if_pos (by decide)]
    exact ⟨_, rfl, (RI_t hn hs).1, (RI_t hn hs).2, wI_s1 _ _ _ _ _⟩
  | true =>
    obtain ⟨i, hi, rfl⟩ := (n_in_iff (by omega)).mp hx
    refine ⟨wI s 13 0 0 0, ?_, (RI_0 hn hs).1, (RI_0 hn hs).2, wI_s1 _ _ _ _ _⟩
    rw [if_neg (by decide), in_t (show i < 24 by omega) (by omega), if_pos rfl, n_cl (by omega), wI_s2, h3 i hi]; rfl
end THR

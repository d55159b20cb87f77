/-! pond. -/
section POND
def nim (x y z : Nat) : Bool := decide ((x ^^^ y ^^^ z) % 4 = 0)
def gT (P : Nat → Bool) (sz : Nat) : Nat → Nat → Option Nat
  | 0, _ => none
  | m + 1, t => if sz < t then none else bif P t then some t else gT P sz m (t + 1)
def gm (lost : Nat → Nat → Nat → Bool) (a b c : Nat) : Option Nat := match gT (fun t => lost (a - t) b c) a 3 1 with
  | some t => some t
  | none => match gT (fun t => lost a (b - t) c) b 3 1 with
    | some t => some (4 + t)
    | none => match gT (fun t => lost a b (c - t)) c 3 1 with
      | some t => some (8 + t)
      | none => none
theorem gT_lt {P : Nat → Bool} {sz : Nat} : ∀ m t r, gT P sz m t = some r → t ≤ r ∧ r < t + m := by
  intro m
  induction m with
  | zero => intro t r h; cases h
  | succ m ih =>
    intro t r h
    unfold gT at h
    by_cases q : sz < t
    · rw [if_pos q] at h; cases h
    · rw [if_neg q] at h
      cases hp : P t with
      | true => rw [hp] at h; cases h; omega
      | false => rw [hp] at h; have := ih (t + 1) r h; omega
theorem gT_cong {P Q : Nat → Bool} {sz : Nat} : ∀ m t, (∀ j, t ≤ j → j ≤ sz → P j = Q j) → gT P sz m t = gT Q sz m t := by
  intro m
  induction m with
  | zero => intros; rfl
  | succ m ih =>
    intro t h
    unfold gT
    by_cases q : sz < t
    · rw [if_pos q, if_pos q]
    · rw [if_neg q, if_neg q, h t (Nat.le_refl _) (by omega), ih (t + 1) (fun j h1 h2 => h j (by omega) h2)]
theorem nim_chk : ((List.range 10).all fun a => (List.range 10).all fun b => (List.range 10).all fun c => decide ((gm nim a b c).isSome = !nim a b c)) = true := by decide +kernel
variable {d n lo R C : Nat} {F W V : Nat → Nat} {kd : Nat → Nat} {M : Int32} {s : xS} {L : List Nat} {l : List Int64} {x y z : Int32}
theorem xor16 {x y : Nat} (h1 : x < 16) (h2 : y < 16) : x ^^^ y < 16 := Nat.xor_lt_two_pow (n := 4) h1 h2
theorem c_lost {x y z : Nat} (hx : x < 16) (hy : y < 16) (hz : z < 16) : ev (d + 1) f_Main_isLost [vI (nI x), vI (nI y), vI (nI z)] s = some (some (vI (ib (nim x y z))), s) := by
  have h := xor16 (xor16 hx hy) hz
  rw [Main_isLost_eq, fb_xorI, fb_xorI, n_and3 (by omega), nb_0, nb_1, nl_0]
  unfold nim
  by_cases q : (x ^^^ y ^^^ z) % 4 = 0
  · rw [if_pos (of_eq_true (eq_t q)), decide_eq_true q]
  · rw [if_neg (of_eq_false (eq_f q (by omega) (by omega))), decide_eq_false q]
theorem c_heap {a b c h sz : Nat} (P : Nat → Bool) (hsz : sz < 10) (hh : h < 3) (u : xS)
    (hJ : ∀ t, 1 ≤ t → t ≤ sz → t ≤ 3 → Main_pond_L2 (d + 3) (nI a) (nI b) (nI c) (nI h) (nI sz) (nI t) u = bI (some (some (vI (ib (P t))), u)) fun r3 s2 => if r3 = 0 then Main_pond_L2 (d + 3) (nI a) (nI b) (nI c) (nI h) (nI sz) (nI (t + 1)) s2 else bV (ev (d + 3) f_Numbers_tellTwo [vR 10 0, vL (lN h), vL (lN t)] s2) fun s4 => some (some (vI 1), s4)) :
    ∀ m t, 1 ≤ t → t + m = 4 → Main_pond_L2 (d + 3) (nI a) (nI b) (nI c) (nI h) (nI sz) (nI t) u = match gT P sz m t with
      | some r => bV (ev (d + 3) f_Numbers_tellTwo [vR 10 0, vL (lN h), vL (lN r)] u) fun s4 => some (some (vI 1), s4)
      | none => Main_pond_L1 (d + 3) (nI a) (nI b) (nI c) (nI (h + 1)) u := by
  intro m
  induction m with
  | zero =>
    intro t h1 h2
    rw [Main_pond_L2_eq, nl_3, if_pos (of_eq_true (lt_t (by omega) (by omega))), nI_1]; rfl
  | succ m ih =>
    intro t h1 h2
    unfold gT
    by_cases q : sz < t
    · rw [if_pos q, Main_pond_L2_eq, nl_3, if_neg (of_eq_false (lt_f (by omega) (by omega))), if_pos (of_eq_true (lt_t q (by omega))), nI_1]
    · rw [if_neg q, hJ t h1 (by omega) (by omega), bI_s]
      cases hp : P t with
      | true => rw [if_neg (by decide)]; rfl
      | false => rw [if_pos (by decide)]; exact ih (t + 1) (by omega) (by omega)
theorem c_pond {a b c : Nat} (ha : a < 10) (hb : b < 10) (hc : c < 10) (u : xS) : Main_pond_L1 (d + 3) (nI a) (nI b) (nI c) (nI 0) u = match gm nim a b c with
      | some r => bV (ev (d + 3) f_Numbers_tellTwo [vR 10 0, vL (lN (r / 4)), vL (lN (r % 4))] u) fun s4 => some (some (vI 1), s4)
      | none => some (some (vI 0), u) := by
  have e3 : Main_pond_L1 (d + 3) (nI a) (nI b) (nI c) (nI 3) u = some (some (vI 0), u) := by
    rw [Main_pond_L1_eq, nl_3, if_neg (of_eq_false (lt_f (by omega) (by omega)))]
  have e2 : Main_pond_L1 (d + 3) (nI a) (nI b) (nI c) (nI 2) u = match gT (fun t => nim a b (c - t)) c 3 1 with
      | some r => bV (ev (d + 3) f_Numbers_tellTwo [vR 10 0, vL (lN 2), vL (lN r)] u) fun s4 => some (some (vI 1), s4)
      | none => Main_pond_L1 (d + 3) (nI a) (nI b) (nI c) (nI 3) u := by
    rw [Main_pond_L1_eq, if_pos (by decide), if_neg (by decide), if_neg (by decide)]
    refine c_heap (fun t => nim a b (c - t)) hc (by omega) u (fun t h1 h2 h3 => ?_) 3 1 (by omega) rfl
    rw [Main_pond_L2_eq, nl_3, if_neg (of_eq_false (lt_f (by omega) (by omega))), if_neg (of_eq_false (lt_f (by omega) (by omega))), if_neg (by decide), Main_pond_J3_eq, if_neg (by decide), Main_pond_J4_eq, if_pos (by decide), Main_pond_J5_eq, n_sub h2, c_lost (by omega) (by omega) (by omega), nI_1, nI_l (by omega), nI_l (by omega)]
  have e1 : Main_pond_L1 (d + 3) (nI a) (nI b) (nI c) (nI 1) u = match gT (fun t => nim a (b - t) c) b 3 1 with
      | some r => bV (ev (d + 3) f_Numbers_tellTwo [vR 10 0, vL (lN 1), vL (lN r)] u) fun s4 => some (some (vI 1), s4)
      | none => Main_pond_L1 (d + 3) (nI a) (nI b) (nI c) (nI 2) u := by
    rw [Main_pond_L1_eq, if_pos (by decide), if_neg (by decide), if_pos (by decide)]
    refine c_heap (fun t => nim a (b - t) c) hb (by omega) u (fun t h1 h2 h3 => ?_) 3 1 (by omega) rfl
    rw [Main_pond_L2_eq, nl_3, if_neg (of_eq_false (lt_f (by omega) (by omega))), if_neg (of_eq_false (lt_f (by omega) (by omega))), if_neg (by decide), Main_pond_J3_eq, if_pos (by decide), Main_pond_J4_eq, if_neg (by decide), Main_pond_J5_eq, n_sub h2, c_lost (by omega) (by omega) (by omega), nI_1, nI_l (by omega), nI_l (by omega)]
  have e0 : Main_pond_L1 (d + 3) (nI a) (nI b) (nI c) (nI 0) u = match gT (fun t => nim (a - t) b c) a 3 1 with
      | some r => bV (ev (d + 3) f_Numbers_tellTwo [vR 10 0, vL (lN 0), vL (lN r)] u) fun s4 => some (some (vI 1), s4)
      | none => Main_pond_L1 (d + 3) (nI a) (nI b) (nI c) (nI 1) u := by
    rw [Main_pond_L1_eq, if_pos (by decide), if_pos (by decide)]
    refine c_heap (fun t => nim (a - t) b c) ha (by omega) u (fun t h1 h2 h3 => ?_) 3 1 (by omega) rfl
    rw [Main_pond_L2_eq, nl_3, if_neg (of_eq_false (lt_f (by omega) (by omega))), if_neg (of_eq_false (lt_f (by omega) (by omega))), if_pos (by decide), Main_pond_J3_eq, if_neg (by decide), Main_pond_J4_eq, if_neg (by decide), Main_pond_J5_eq, n_sub h2, c_lost (by omega) (by omega) (by omega), nI_1, nI_l (by omega), nI_l (by omega)]
  rw [e0]
  unfold gm
  cases h0 : gT (fun t => nim (a - t) b c) a 3 1 with
  | some r => have := gT_lt _ _ _ h0; dsimp only; rw [show r / 4 = 0 by omega, show r % 4 = r by omega]
  | none =>
    dsimp only
    rw [e1]
    cases h1 : gT (fun t => nim a (b - t) c) b 3 1 with
    | some r => have := gT_lt _ _ _ h1; dsimp only; rw [show (4 + r) / 4 = 1 by omega, show (4 + r) % 4 = r by omega]
    | none =>
      dsimp only
      rw [e2]
      cases h2 : gT (fun t => nim a b (c - t)) c 3 1 with
      | some r => have := gT_lt _ _ _ h2; dsimp only; rw [show (8 + r) / 4 = 2 by omega, show (8 + r) % 4 = r by omega]
      | none => dsimp only; rw [e3]
/-- the reference's least move -/
theorem m_heap {a b c h sz wo : Nat} (P : Nat → Bool) (hsz : sz < 10) (hh : h < 3) (u : xS) (hw : ∀ t, t ≤ sz → wo * t ≤ 100 * a + 10 * b + c) (ha : a < 10) (hb : b < 10) (hc : c < 10)
    (hP : ∀ t, 1 ≤ t → t ≤ sz → t ≤ 3 → u.1 70 0 (100 * a + 10 * b + c - wo * t) = ib (!P t)) :
    ∀ m t, 1 ≤ t → t + m = 4 → Ref_goodMove_L3 d (nI a) (nI b) (nI c) (nI h) (nI sz) (nI wo) (nI t) u = match gT P sz m t with
      | some r => some (some (vI (nI (4 * h + r))), u)
      | none => Ref_goodMove_L1 d (nI a) (nI b) (nI c) (nI (h + 1)) u := by
  intro m
  induction m with
  | zero =>
    intro t h1 h2
    rw [Ref_goodMove_L3_eq, nl_4, if_neg (of_eq_false (lt_f (by omega) (by omega))), nI_1]; rfl
  | succ m ih =>
    intro t h1 h2
    unfold gT
    by_cases q : sz < t
    · rw [if_pos q, Ref_goodMove_L3_eq, nl_4, if_pos (of_eq_true (lt_t (by omega) (by omega))), if_pos (of_eq_true (lt_t q (by omega))), nI_1]
    · have hw' := hw t (by omega)
      rw [if_neg q, Ref_goodMove_L3_eq, nl_4, if_pos (of_eq_true (lt_t (by omega) (by omega))), if_neg (of_eq_false (lt_f (by omega) (by omega))), nl_100, nl_10, pk_mul, pk_mul, pk_mul, nI_add, nI_add, n_sub hw', in_t (show 100 * a + 10 * b + c - wo * t < 1000 by omega) (by omega), if_pos rfl, n_cl (by omega), hP t h1 (by omega) (by omega)]
      cases hp : P t with
      | true => rw [if_pos (by decide), pk_mul, nI_add]; rfl
      | false => rw [if_neg (by decide), nI_1]; exact ih (t + 1) (by omega) (by omega)
theorem m_good {a b c : Nat} (ha : a < 10) (hb : b < 10) (hc : c < 10) (u : xS) (h0 : ∀ t, 1 ≤ t → t ≤ a → t ≤ 3 → u.1 70 0 (100 * (a - t) + 10 * b + c) = ib (!nim (a - t) b c)) (h1 : ∀ t, 1 ≤ t → t ≤ b → t ≤ 3 → u.1 70 0 (100 * a + 10 * (b - t) + c) = ib (!nim a (b - t) c)) (h2 : ∀ t, 1 ≤ t → t ≤ c → t ≤ 3 → u.1 70 0 (100 * a + 10 * b + (c - t)) = ib (!nim a b (c - t))) :
    ev (d + 1) f_Ref_goodMove [vR 13 0, vI (nI a), vI (nI b), vI (nI c)] u = some (some (vI (oI (gm nim a b c))), u) := by
  have e3 : Ref_goodMove_L1 d (nI a) (nI b) (nI c) (nI 3) u = some (some (vI (-1)), u) := by
    rw [Ref_goodMove_L1_eq, nl_3, if_neg (of_eq_false (lt_f (by omega) (by omega)))]
  have e2 : Ref_goodMove_L1 d (nI a) (nI b) (nI c) (nI 2) u = match gT (fun t => nim a b (c - t)) c 3 1 with
      | some r => some (some (vI (nI (4 * 2 + r))), u)
      | none => Ref_goodMove_L1 d (nI a) (nI b) (nI c) (nI 3) u := by
    rw [Ref_goodMove_L1_eq, if_pos (by decide), if_neg (by decide), if_neg (by decide), Ref_goodMove_J2_eq, if_neg (by decide), if_neg (by decide)]
    exact m_heap (wo := 1) (fun t => nim a b (c - t)) hc (by omega) u (fun t ht => by omega) ha hb hc (fun t g1 g2 g3 => by rw [show 100 * a + 10 * b + c - 1 * t = 100 * a + 10 * b + (c - t) by omega]; exact h2 t g1 g2 g3) 3 1 (by omega) rfl
  have e1 : Ref_goodMove_L1 d (nI a) (nI b) (nI c) (nI 1) u = match gT (fun t => nim a (b - t) c) b 3 1 with
      | some r => some (some (vI (nI (4 * 1 + r))), u)
      | none => Ref_goodMove_L1 d (nI a) (nI b) (nI c) (nI 2) u := by
    rw [Ref_goodMove_L1_eq, if_pos (by decide), if_neg (by decide), if_pos (by decide), Ref_goodMove_J2_eq, if_neg (by decide), if_pos (by decide)]
    exact m_heap (wo := 10) (fun t => nim a (b - t) c) hb (by omega) u (fun t ht => by omega) ha hb hc (fun t g1 g2 g3 => by rw [show 100 * a + 10 * b + c - 10 * t = 100 * a + 10 * (b - t) + c by omega]; exact h1 t g1 g2 g3) 3 1 (by omega) rfl
  have e0 : Ref_goodMove_L1 d (nI a) (nI b) (nI c) (nI 0) u = match gT (fun t => nim (a - t) b c) a 3 1 with
      | some r => some (some (vI (nI (4 * 0 + r))), u)
      | none => Ref_goodMove_L1 d (nI a) (nI b) (nI c) (nI 1) u := by
    rw [Ref_goodMove_L1_eq, if_pos (by decide), if_pos (by decide), Ref_goodMove_J2_eq, if_pos (by decide)]
    exact m_heap (wo := 100) (fun t => nim (a - t) b c) ha (by omega) u (fun t ht => by omega) ha hb hc (fun t g1 g2 g3 => by rw [show 100 * a + 10 * b + c - 100 * t = 100 * (a - t) + 10 * b + c by omega]; exact h0 t g1 g2 g3) 3 1 (by omega) rfl
  rw [Ref_goodMove_eq]
  refine e0.trans ?_
  unfold gm
  cases k0 : gT (fun t => nim (a - t) b c) a 3 1 with
  | some r => dsimp only; rw [oI_s, Nat.mul_zero, Nat.zero_add]
  | none =>
    dsimp only
    rw [e1]
    cases k1 : gT (fun t => nim a (b - t) c) b 3 1 with
    | some r => dsimp only; rw [oI_s]
    | none =>
      dsimp only
      rw [e2]
      cases k2 : gT (fun t => nim a b (c - t)) c 3 1 with
      | some r => dsimp only; rw [oI_s]
      | none => dsimp only; rw [e3]; rfl
theorem gm_pos {a b c r : Nat} (h : gm nim a b c = some r) : 0 < r ∧ r < 12 := by
  unfold gm at h
  cases k0 : gT (fun t => nim (a - t) b c) a 3 1 with
  | some t => rw [k0] at h; have := gT_lt _ _ _ k0; cases h; omega
  | none =>
    rw [k0] at h
    cases k1 : gT (fun t => nim a (b - t) c) b 3 1 with
    | some t => rw [k1] at h; have := gT_lt _ _ _ k1; cases h; omega
    | none =>
      rw [k1] at h
      cases k2 : gT (fun t => nim a b (c - t)) c 3 1 with
      | some t => rw [k2] at h; have := gT_lt _ _ _ k2; cases h; omega
      | none => rw [k2] at h; cases h
def p70 (c _i _k : Nat) : Prop := c = 70
def wonT (b c i j k : Nat) (u : xS) : Prop := ∀ x y z, y ≤ b → z ≤ c → (x < i ∨ (x = i ∧ (y < j ∨ (y = j ∧ z < k)))) → u.1 70 0 (100 * x + 10 * y + z) = ib (!nim x y z)
theorem m_fill {a b c : Nat} (ha : a < 10) (hb : b < 10) (hc : c < 10) (s : xS) : ∃ u, Ref_pond_L1 (d + 1) (nI a) (nI b) (nI c) (nI 0) s = Ref_pond_L1 (d + 1) (nI a) (nI b) (nI c) (nI (a + 1)) u ∧ wonT b c (a + 1) 0 0 u ∧ fr p70 s u := by
  refine chainE (a + 1) (fun i (t : xS) => Ref_pond_L1 (d + 1) (nI a) (nI b) (nI c) (nI i) t) (fun i t => wonT b c i 0 0 t ∧ fr p70 s t) ?_ (a + 1) 0 s (by omega) ⟨fun x y z _ _ h => by omega, fr_r _ _⟩
  intro i t hi hr
  obtain ⟨t', e1, r1⟩ := chainE (b + 1) (fun j (t : xS) => Ref_pond_L2 (d + 1) (nI a) (nI b) (nI c) (nI i) (nI j) t) (fun j t => wonT b c i j 0 t ∧ fr p70 s t) (by
    intro j t hj hr
    obtain ⟨t', e1, r1⟩ := chainE (c + 1) (fun k (t : xS) => Ref_pond_L3 (d + 1) (nI a) (nI b) (nI c) (nI i) (nI j) (nI k) t) (fun k t => wonT b c i j k t ∧ fr p70 s t) (by
      rintro k t hk ⟨h1, h2⟩
      show ∃ t', Ref_pond_L3 (d + 1) (nI a) (nI b) (nI c) (nI i) (nI j) (nI k) t = _ ∧ _
      have gg := m_good (d := d) (show i < 10 by omega) (show j < 10 by omega) (show k < 10 by omega) t (fun t' g1 g2 g3 => h1 _ _ _ (by omega) (by omega) (by omega)) (fun t' g1 g2 g3 => h1 _ _ _ (by omega) (by omega) (by omega)) (fun t' g1 g2 g3 => h1 _ _ _ (by omega) (by omega) (by omega))
      have e := of_decide_eq_true (all_r (all_r (all_r nim_chk (show i < 10 by omega)) (show j < 10 by omega)) (show k < 10 by omega))
      rw [Ref_pond_L3_eq, if_neg (of_eq_false (lt_f (by omega) (by omega))), gg, bI_s, nb_1, nb_0, nl_100, nl_10, pk_mul, pk_mul, nI_add, nI_add, in_t (show 100 * i + 10 * j + k < 1000 by omega) (by omega), if_pos rfl, if_pos rfl, n_cl (by omega), nI_1]
      have key : ∀ bb : Bool, bb = !nim i j k → wonT b c i j (k + 1) (wI t 70 0 (100 * i + 10 * j + k) (ib bb)) ∧ fr p70 s (wI t 70 0 (100 * i + 10 * j + k) (ib bb)) := by
        intro bb hbb
        refine ⟨fun x y z hy hz h => ?_, fr_wI h2 rfl⟩
        by_cases q : x = i ∧ y = j ∧ z = k
        · obtain ⟨rfl, rfl, rfl⟩ := q; rw [wI_s1, hbb]
        · rw [wI_nk (by omega)]; exact h1 x y z hy hz (by omega)
      cases hg : gm nim i j k with
      | none =>
        rw [hg] at e
        rw [if_neg (show ¬ (0 : Int32) < oI none by decide)]
        exact ⟨_, rfl, key false e⟩
      | some r =>
        rw [hg] at e
        have := gm_pos hg
        rw [oI_s, if_pos (show (0 : Int32) < nI r from of_eq_true (lt_t (a := 0) (by omega) (by omega)))]
        exact ⟨_, rfl, key true e⟩) (c + 1) 0 t (by omega) hr
    refine ⟨t', ?_, fun x y z hy hz h => r1.1 x y z hy hz (by omega), r1.2⟩
    show Ref_pond_L2 (d + 1) (nI a) (nI b) (nI c) (nI i) (nI j) t = _
    rw [Ref_pond_L2_eq, if_neg (of_eq_false (lt_f (by omega) (by omega)))]
    refine e1.trans ?_
    show Ref_pond_L3 _ _ _ _ _ _ _ _ = _
    rw [Ref_pond_L3_eq, if_pos (of_eq_true (lt_t (by omega) (by omega))), nI_1]) (b + 1) 0 t (by omega) hr
  refine ⟨t', ?_, fun x y z hy hz h => r1.1 x y z hy hz (by omega), r1.2⟩
  show Ref_pond_L1 (d + 1) (nI a) (nI b) (nI c) (nI i) t = _
  rw [Ref_pond_L1_eq, if_neg (of_eq_false (lt_f (by omega) (by omega)))]
  refine e1.trans ?_
  show Ref_pond_L2 _ _ _ _ _ _ _ = _
  rw [Ref_pond_L2_eq, if_pos (of_eq_true (lt_t (by omega) (by omega))), nI_1]
theorem p70_RQ {c i k : Nat} (h : p70 c i k) : pRQ c i k := by unfold p70 at h; unfold pRQ; omega
theorem q_pond (x y z : Int32) : ∃ a r, (∀ s, CQ s R C kd n F W V lo M L l → QC s (ev (d + 9) f_Main_pond [vR 0 0, vI x, vI y, vI z] s) a r) ∧ (∀ s, RQ s R C kd n F W V lo M L l → QR s (ev (d + 9) f_Ref_pond [vR 13 0, vI x, vI y, vI z] s) a r) := by
  by_cases hc : x_in x 10 = true ∧ x_in y 10 = true ∧ x_in z 10 = true
  · obtain ⟨hx, hy, hz⟩ := hc
    obtain ⟨a, ha, rfl⟩ := (n_in_iff (by omega)).mp hx
    obtain ⟨b, hb, rfl⟩ := (n_in_iff (by omega)).mp hy
    obtain ⟨c, hc, rfl⟩ := (n_in_iff (by omega)).mp hz
    refine ⟨ib (gm nim a b c).isSome, (match gm nim a b c with
      | none => []
      | some r => [lN (r / 4), lN (r % 4)]), fun s h => ?_, fun s h => ?_⟩
    · obtain ⟨u, e1, e2, e3⟩ := n_clear (d := d + 7) (s := s)
      rw [Main_pond_eq, nl_9]
      rw [if_neg (show ¬ nI a < 0 from nI_pos (by omega)), if_neg (of_eq_false (lt_f (by omega) (by omega))), if_neg (show ¬ nI b < 0 from nI_pos (by omega)), if_neg (of_eq_false (lt_f (by omega) (by omega))), if_neg (show ¬ nI c < 0 from nI_pos (by omega)), if_neg (of_eq_false (lt_f (by omega) (by omega))), e1, bV_s]
      have e4 := c_pond (d := d + 5) ha hb hc u
      have e5 : Main_pond_L1 (d + 8) (nI a) (nI b) (nI c) 0 u = Main_pond_L1 (d + 5 + 3) (nI a) (nI b) (nI c) (nI 0) u := rfl
      rw [e5, e4]
      cases hg : gm nim a b c with
      | none => exact ⟨u, rfl, e2, fr_m e3 (fun _ _ _ => pN_CQ)⟩
      | some r =>
        dsimp only
        obtain ⟨w, g1, g2, g3⟩ := n_tellTwo (d := d + 5) (s := u) (x := lN (r / 4)) (y := lN (r % 4))
        rw [g1, bV_s]
        exact ⟨w, rfl, g2, fr_m (fr_t e3 g3) (fun _ _ _ => pN_CQ)⟩
    · obtain ⟨u, e1, e2, e3⟩ := m_fill (d := d + 7) ha hb hc (wI s 13 0 0 0)
      have e5 : Ref_pond_L1 (d + 8) (nI a) (nI b) (nI c) 0 (wI s 13 0 0 0) = Ref_pond_L1 (d + 7 + 1) (nI a) (nI b) (nI c) (nI 0) (wI s 13 0 0 0) := rfl
      rw [Ref_pond_eq, m_in0 (n := 10) _ (by decide), hx, bI_s, if_neg (by decide), m_in0 (n := 10) _ (by decide), hy, bI_s, if_neg (by decide), m_in0 (n := 10) _ (by decide), hz, bI_s, if_neg (by decide), e5, e1, Ref_pond_L1_eq, if_pos (of_eq_true (lt_t (by omega) (by omega))), m_good (d := d + 7) ha hb hc u (fun t' g1 g2 g3 => e2 _ _ _ (by omega) (by omega) (by omega)) (fun t' g1 g2 g3 => e2 _ _ _ (by omega) (by omega) (by omega)) (fun t' g1 g2 g3 => e2 _ _ _ (by omega) (by omega) (by omega)), bI_s]
      have f9 : fr pRQ s u := fr_t (fr_m fr_0 (fun _ _ _ => p0_RQ)) (fr_m e3 (fun _ _ _ => p70_RQ))
      cases hg : gm nim a b c with
      | none =>
        obtain ⟨i1, i2⟩ := m_told0 (s := u)
        rw [if_neg (show ¬ (0 : Int32) < oI none by decide), Ref_pond_J4_eq, if_neg (show ¬ (0 : Int32) < oI none by decide), m_flag0, bI_s]
        exact ⟨_, rfl, i1, fr_t f9 (fr_m i2 (fun _ _ _ => pT_RQ))⟩
      | some r =>
        have hr := gm_pos hg
        have hp : (0 : Int32) < nI r := of_eq_true (lt_t (a := 0) (by omega) (by omega))
        obtain ⟨v1, v2, g1, g2, g3, g4, g5⟩ := m_ent2 (d + 7) u (lN (r / 4)) (lN (r % 4))
        rw [oI_s, if_pos hp, if_neg (by decide), show nI r / 4 = nI (r / 4) from n_div (d := 4) (by omega) (by omega) (by omega), nI_l (by omega), g1, bV_s, if_neg (by decide), show jrem (nI r) 4 = nI (r % 4) from n_rem (d := 4) (by omega) (by omega) (by omega), nI_l (by omega), g3, bV_s, Ref_pond_J4_eq, if_pos hp, m_flag1, bI_s]
        exact ⟨v2, rfl, g4, fr_t f9 (fr_m g5 (fun _ _ _ => pT_RQ))⟩
  · refine ⟨-1, l, fun s h => ⟨s, ?_, h.2.2.2, fr_r _ _⟩, fun s h => ⟨wI s 13 0 0 0, ?_, (RQ_0 h).2.2.2.1, fr_m fr_0 (fun _ _ _ => p0_RQ)⟩⟩
    · have ab : ∀ x : Int32, x_in x 10 = true ↔ ¬ x < 0 ∧ ¬ nI 9 < x := by
        intro x
        rw [x_in_iff, fa_lt, fa_lt, nI_toInt (n := 9) (by omega), show (0 : Int32).toInt = 0 by decide]; omega
      rw [Main_pond_eq, nl_9]
      rw [ab, ab, ab] at hc
      by_cases q1 : x < 0
      · rw [if_pos q1]
      rw [if_neg q1]
      by_cases q2 : nI 9 < x
      · rw [if_pos q2]
      rw [if_neg q2]
      by_cases q3 : y < 0
      · rw [if_pos q3]
      rw [if_neg q3]
      by_cases q4 : nI 9 < y
      · rw [if_pos q4]
      rw [if_neg q4]
      by_cases q5 : z < 0
      · rw [if_pos q5]
      rw [if_neg q5]
      by_cases q6 : nI 9 < z
      · rw [if_pos q6]
      exact absurd ⟨⟨q1, q2⟩, ⟨q3, q4⟩, ⟨q5, q6⟩⟩ hc
    · rw [Ref_pond_eq, m_in0 (n := 10) _ (by decide), bI_s]
      cases hx : x_in x 10 with
      | false => rw [if_pos (by decide)]
      | true =>
        rw [if_neg (by decide), m_in0 (n := 10) _ (by decide), bI_s]
        cases hy : x_in y 10 with
        | false => rw [if_pos (by decide)]
        | true =>
          rw [if_neg (by decide), m_in0 (n := 10) _ (by decide), bI_s]
          cases hz : x_in z 10 with
          | false => rw [if_pos (by decide)]
          | true => exact absurd ⟨hx, hy, hz⟩ hc
end POND

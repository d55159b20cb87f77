/-! looks. -/
section LOOKS
theorem gridV {σ α : Type} {A : Nat} (b : Nat → Nat) (L1 : Nat → σ → α) (L2 : Nat → Nat → σ → α) (h1 : ∀ x a, x < A → L1 x a = L2 x 0 a) (h2 : ∀ x a, x < A → L2 x (b x) a = L1 (x + 1) a) (R : Nat → Nat → σ → Prop) (hR : ∀ x a, x < A → R x (b x) a → R (x + 1) 0 a)
    (step : ∀ x y a, x < A → y < b x → R x y a → ∃ a', L2 x y a = L2 x (y + 1) a' ∧ R x (y + 1) a') : ∀ a, R 0 0 a → ∃ a', L1 0 a = L1 A a' ∧ R A 0 a' := by
  intro a h
  refine chainE A L1 (fun x a => R x 0 a) ?_ A 0 a (by omega) h
  intro x a hx hr
  obtain ⟨c, e1, e2⟩ := chainE (b x) (fun y a => L2 x y a) (fun y a => R x y a) (fun y a hy hr => step x y a hx hy hr) (b x) 0 a (by omega) hr
  exact ⟨c, by rw [h1 x a hx, ← h2 x c hx]; exact e1, hR x c hx e2⟩
/-- the first least -/
def bst (g : Nat → Nat) : Nat → Option Nat
  | 0 => none
  | k + 1 => match bst g k with
    | none => some k
    | some j => if g k < g j then some k else some j
theorem bst_S (g : Nat → Nat) (k : Nat) : bst g (k + 1) = match bst g k with
    | none => some k
    | some j => if g k < g j then some k else some j := rfl
theorem bst_s (g : Nat → Nat) (k : Nat) : ∃ j, bst g (k + 1) = some j := by
  rw [bst_S]; cases bst g k with
  | none => exact ⟨k, rfl⟩
  | some j => by_cases q : g k < g j
              · exact ⟨k, if_pos q⟩
              · exact ⟨j, if_neg q⟩
theorem bst_lt (g : Nat → Nat) : ∀ k j, bst g k = some j → j < k := by
  intro k
  induction k with
  | zero => intro j h; cases h
  | succ k ih =>
    intro j h
    rw [bst_S] at h
    cases e : bst g k with
    | none => rw [e] at h; cases h; omega
    | some i =>
      rw [e] at h
      have := ih i e
      have h : (if g k < g i then some k else some i) = some j := h
      by_cases q : g k < g i
      · rw [if_pos q] at h; cases h; omega
      · rw [if_neg q] at h; cases h; omega
def bstI (z : Int32) (e : Nat → Nat) (o : Option Nat) : Int32 := match o with
  | none => z
  | some j => nI (e j)
theorem cnt_zero {p : Nat → Bool} : ∀ {n : Nat}, cnt p n = 0 → ∀ k, k < n → p k = false
  | 0, _, k, hk => by omega
  | n + 1, h, k, hk => by
    have h' : cnt p n + (bif p n then 1 else 0) = 0 := h
    by_cases e : k = n
    · subst e
      cases hp : p k with
      | false => rfl
      | true => rw [hp] at h'; simp at h'
    · exact cnt_zero (n := n) (by omega) k (by omega)
theorem bitsN_0 (p : Nat → Bool) (n : Nat) : bitsN p n = 0 ↔ cnt p n = 0 := by
  constructor
  · intro h
    have : cnt (bitsN p n).testBit n = cnt p n := cnt_cong (fun k hk => by rw [bitsN_tb, decide_eq_true hk, Bool.true_and])
    rw [← this, h]
    have z : ∀ m, cnt (Nat.testBit 0) m = 0 := by
      intro m
      induction m with
      | zero => rfl
      | succ m ih => show cnt (Nat.testBit 0) m + (bif (0 : Nat).testBit m then 1 else 0) = 0; rw [ih, Nat.zero_testBit]; rfl
    exact z n
  · intro h
    apply Nat.eq_of_testBit_eq
    intro i
    rw [bitsN_tb, Nat.zero_testBit]
    by_cases q : i < n
    · rw [cnt_zero h i q, Bool.and_false]
    · rw [decide_eq_false q, Bool.false_and]
theorem cnt_sub {p q : Nat → Bool} : ∀ n, cnt (fun k => p k && q k) n ≤ cnt p n
  | 0 => Nat.le_refl _
  | n + 1 => by
    have := cnt_sub (p := p) (q := q) n
    show cnt (fun k => p k && q k) n + (bif p n && q n then 1 else 0) ≤ cnt p n + (bif p n then 1 else 0)
    cases p n <;> cases q n <;> simp <;> omega
variable {d n lo R C q law : Nat} {F W V : Nat → Nat} {kd : Nat → Nat} {M : Int32} {s : xS} {L : List Nat} {l : List Int64} {sq : Nat → Nat × Nat × Nat} {x y z : Int32}
def lkY (q : Nat) (sq : Nat → Nat × Nat × Nat) (a v : Nat) : Nat := cnt (fun law => fit q sq law && fB law a v) 35
def lkG (q : Nat) (sq : Nat → Nat × Nat × Nat) (j : Nat) : Nat := max (lkY q sq (1 + j / 7) (j % 7)) (cnt (fit q sq) 35 - lkY q sq (1 + j / 7) (j % 7))
def lkE (j : Nat) : Nat := 10 * (1 + j / 7) + j % 7
theorem lkY_le (q : Nat) (sq : Nat → Nat × Nat × Nat) (a v : Nat) : lkY q sq a v ≤ cnt (fit q sq) 35 := cnt_sub 35
theorem lkG_le (q : Nat) (sq : Nat → Nat × Nat × Nat) (j : Nat) : lkG q sq j ≤ 35 := by
  have h1 := lkY_le q sq (1 + j / 7) (j % 7)
  have h2 := cnt_le (fit q sq) 35
  unfold lkG
  exact Nat.max_le.mpr ⟨by omega, by omega⟩
theorem c_left {a v : Nat} (ha : a < 10) (hv : v < 10) : ev (d + 2) f_Main_lawsLeftAtMost [vL (lN (bitsN (fit q sq) 35)), vI (nI (10 * a + v))] s = some (some (vI (nI (max (lkY q sq a v) (cnt (fit q sq) 35 - lkY q sq a v)))), s) := by
  have b35 := bits35 (fit q sq)
  have h1 := lkY_le q sq a v
  have h2 := cnt_le (fit q sq) 35
  rw [Main_lawsLeftAtMost_eq]
  refine (chain 35 (fun k => Main_lawsLeftAtMost_L1 (d + 1) (lN (bitsN (fit q sq) 35)) (nI (10 * a + v)) (nI (cnt (fun law => fit q sq law && fB law a v) k)) (nI k) s) ?_).trans ?_
  · intro k hk
    show Main_lawsLeftAtMost_L1 _ _ _ _ _ _ = Main_lawsLeftAtMost_L1 _ _ _ _ _ _
    rw [Main_lawsLeftAtMost_L1_eq, nl_35, if_pos (of_eq_true (lt_t hk (by omega)))]
    cases hf : fit q sq k with
    | false =>
      rw [if_neg (fun z => by have := (jl_bit (by omega) (by omega)).mp z; rw [bits35_tb hk, hf] at this; cases this), nI_1, cnt_f (show (fit q sq k && fB k a v) = false by rw [hf]; rfl)]
    | true =>
      rw [if_pos ((jl_bit (by omega) (by omega)).mpr (by rw [bits35_tb hk]; exact hf)), c_lawsA hk, bI_s, c_lawsB hk, bI_s, c_isFormed hk ha hv, bI_s, nI_1, nI_1]
      cases hb : fB k a v with
      | false => rw [if_pos (by decide), cnt_f (show (fit q sq k && fB k a v) = false by rw [hf, hb]; rfl)]
      | true => rw [if_neg (by decide), cnt_t (show (fit q sq k && fB k a v) = true by rw [hf, hb]; rfl)]
  · show Main_lawsLeftAtMost_L1 _ _ _ _ _ _ = _
    rw [Main_lawsLeftAtMost_L1_eq, nl_35, if_neg (of_eq_false (lt_f (by omega) (by omega))), bc_long b35, bI_s, bits35_cnt]
    show (bI (ev (d + 1) f_Math_max [vI (nI (lkY q sq a v)), vI (nI (cnt (fit q sq) 35) - nI (lkY q sq a v))] s) fun r10 s9 => some (some (vI r10), s9)) = _
    rw [n_sub h1, max_s, bI_s, n_max (by omega) (by omega)]
theorem q_looks (hq : sOk q sq) : ∃ a r, (∀ s, CQ s R C kd n F W V lo M L l → cS s q sq → QC s (ev (d + 9) f_Main_looks [vR 0 0] s) a r) ∧ (∀ s, RQ s R C kd n F W V lo M L l → rS s q sq → QR s (ev (d + 9) f_Ref_looks [vR 13 0] s) a r) := by
  have b35 := bits35 (fit q sq)
  have cl := cnt_le (fit q sq) 35
  have gl := lkG_le q sq
  -- the reference's innermost loop
  have m3 : ∀ (s : xS), rS s q sq → ∀ (be le : Int32) (a v : Nat), a < 10 → v < 10 → Ref_looks_L3 (d + 8) be le (nI a) (nI v) (nI 0) (nI 0) (nI 0) s = Ref_looks_L3 (d + 8) be le (nI a) (nI v) (nI (lkY q sq a v)) (nI (cnt (fit q sq) 35)) (nI 35) s := by
    intro s hS be le a v ha hv
    refine chain 35 (fun k => Ref_looks_L3 (d + 8) be le (nI a) (nI v) (nI (cnt (fun law => fit q sq law && fB law a v) k)) (nI (cnt (fit q sq) k)) (nI k) s) ?_
    intro k hk
    show Ref_looks_L3 _ _ _ _ _ _ _ _ _ = Ref_looks_L3 _ _ _ _ _ _ _ _ _
    rw [Ref_looks_L3_eq, nl_35, if_pos (of_eq_true (lt_t hk (by omega))), m_isLaw hS hq hk, bI_s, m_flag, bI_s, m_formedBy hk ha hv, bI_s, nI_1, n_addib, b1_ib, b1_ib, pk_mul, nI_add]
    have e1 : cnt (fun law => fit q sq law && fB law a v) (k + 1) = cnt (fun law => fit q sq law && fB law a v) k + b1 (fit q sq k) * b1 (fB k a v) := by
      show cnt (fun law => fit q sq law && fB law a v) k + (bif (fit q sq k && fB k a v) then 1 else 0) = _
      cases fit q sq k <;> cases fB k a v <;> rfl
    have e2 : cnt (fit q sq) (k + 1) = cnt (fit q sq) k + b1 (fit q sq k) := rfl
    rw [e1, e2]
  have fin3 : ∀ (s : xS), rS s q sq → ∀ (be le : Int32) (a v : Nat), a < 10 → v < 10 → Ref_looks_L3 (d + 8) be le (nI a) (nI v) (nI (lkY q sq a v)) (nI (cnt (fit q sq) 35)) (nI 35) s = Ref_looks_J4 (d + 8) le (nI a) (nI v) (nI (max (lkY q sq a v) (cnt (fit q sq) 35 - lkY q sq a v))) (if 0 < cnt (fit q sq) 35 ∧ nI (max (lkY q sq a v) (cnt (fit q sq) 35 - lkY q sq a v)) < le then nI (10 * a + v) else be) s := by
    intro s hS be le a v ha hv
    have h1 := lkY_le q sq a v
    rw [Ref_looks_L3_eq, nl_35, if_neg (of_eq_false (lt_f (by omega) (by omega))), n_sub h1, max_s, bI_s, n_max (by omega) (by omega), nl_0]
    by_cases hz : 0 < cnt (fit q sq) 35
    · rw [if_pos (of_eq_true (lt_t hz (by omega)))]
      by_cases hl : nI (max (lkY q sq a v) (cnt (fit q sq) 35 - lkY q sq a v)) < le
      · rw [if_pos hl, if_pos ⟨hz, hl⟩, nl_10, pk_mul, nI_add]
      · rw [if_neg hl, if_neg (fun z => hl z.2)]
    · rw [if_neg (of_eq_false (lt_f (by omega) (by omega))), if_neg (fun z => hz z.1)]
  by_cases hz : cnt (fit q sq) 35 = 0
  · refine ⟨-2, l, fun s h hS => ⟨s, ?_, h.2.2.2, fr_r _ _⟩, fun s h hS => ⟨wI s 13 0 0 0, ?_, (RQ_0 h).2.2.2.1, fr_m fr_0 (fun _ _ _ => p0_RQ)⟩⟩
    · rw [Main_looks_eq, c_fitting hS hq, bL_s, (bitsN_0 _ _).mpr hz, if_pos (by decide)]
    · have hS0 := rS_fr hS fr_0 (by unfold p0; omega) (by intro k; unfold p0; omega) (by intro k; unfold p0; omega) (by intro k; unfold p0; omega)
      obtain ⟨⟨be, le⟩, c2, c3⟩ := gridV (A := 5) (fun _ => 7) (fun a (p : Int32 × Int32) => Ref_looks_L1 (d + 8) p.1 p.2 (nI (1 + a)) (wI s 13 0 0 0)) (fun a b p => Ref_looks_L2 (d + 8) p.1 p.2 (nI (1 + a)) (nI b) (wI s 13 0 0 0))
        (fun a p ha => by
          show Ref_looks_L1 _ _ _ _ _ = _
          rw [Ref_looks_L1_eq, nl_5, if_neg (of_eq_false (lt_f (by omega) (by omega)))]; rfl)
        (fun a p ha => by
          show Ref_looks_L2 _ _ _ _ _ _ = _
          rw [Ref_looks_L2_eq, nl_6, if_pos (of_eq_true (lt_t (by omega) (by omega))), nI_1]; rfl)
        (fun _ _ p => p.1 = -2) (fun _ _ _ h => h)
        (by
          rintro a b ⟨be, le⟩ ha hb h1
          dsimp only at h1
          show ∃ a' : Int32 × Int32, Ref_looks_L2 (d + 8) be le (nI (1 + a)) (nI b) (wI s 13 0 0 0) = Ref_looks_L2 (d + 8) a'.1 a'.2 (nI (1 + a)) (nI (b + 1)) (wI s 13 0 0 0) ∧ a'.1 = -2
          rw [Ref_looks_L2_eq, nl_6, if_neg (of_eq_false (lt_f (by omega) (by omega)))]
          have e := m3 _ hS0 be le (1 + a) b (by omega) (by omega)
          have e' : Ref_looks_L3 (d + 8) be le (nI (1 + a)) (nI b) 0 0 0 (wI s 13 0 0 0) = Ref_looks_L3 (d + 8) be le (nI (1 + a)) (nI b) (nI 0) (nI 0) (nI 0) (wI s 13 0 0 0) := rfl
          rw [e', e, fin3 _ hS0 be le (1 + a) b (by omega) (by omega), if_neg (fun z => by omega), Ref_looks_J4_eq, min_s, bI_s, nI_1]
          exact ⟨(be, _), rfl, h1⟩) (-2, 1000000) rfl
      dsimp only at c2 c3
      rw [Ref_looks_eq]
      refine c2.trans ?_
      rw [Ref_looks_L1_eq, nl_5, if_pos (of_eq_true (lt_t (by omega) (by omega))), c3, if_neg (by decide)]
  · obtain ⟨jb, hjb⟩ := bst_s (lkG q sq) 34
    have hj := bst_lt _ _ _ hjb
    have hgj := gl jb
    have he : lkE jb < 100 := by unfold lkE; omega
    refine ⟨nI (lkE jb), [lN (lkG q sq jb)], fun s h hS => ?_, fun s h hS => ?_⟩
    · obtain ⟨⟨be, le⟩, c2, c3, c4⟩ := gridV (A := 5) (fun _ => 7) (fun a (p : Int32 × Int32) => Main_looks_L1 (d + 8) (lN (bitsN (fit q sq) 35)) p.1 p.2 (nI (1 + a)) s) (fun a b p => Main_looks_L2 (d + 8) (lN (bitsN (fit q sq) 35)) p.1 p.2 (nI (1 + a)) (nI b) s)
        (fun a p ha => by
          show Main_looks_L1 _ _ _ _ _ _ = _
          rw [Main_looks_L1_eq, nl_5, if_neg (of_eq_false (lt_f (by omega) (by omega)))]; rfl)
        (fun a p ha => by
          show Main_looks_L2 _ _ _ _ _ _ _ = _
          rw [Main_looks_L2_eq, nl_6, if_pos (of_eq_true (lt_t (by omega) (by omega))), nI_1]; rfl)
        (fun a b p => p.1 = bstI (-1) lkE (bst (lkG q sq) (7 * a + b)) ∧ p.2 = bstI (nI 0) (lkG q sq) (bst (lkG q sq) (7 * a + b))) (fun a p _ h => h)
        (by
          rintro a b ⟨be, le⟩ ha hb ⟨h1, h2⟩
          dsimp only at h1 h2
          have hi1 : 1 + (7 * a + b) / 7 = 1 + a := by omega
          have hi2 : (7 * a + b) % 7 = b := by omega
          have hE : lkE (7 * a + b) = 10 * (1 + a) + b := by unfold lkE; omega
          have hg := gl (7 * a + b)
          show ∃ a' : Int32 × Int32, Main_looks_L2 (d + 8) (lN (bitsN (fit q sq) 35)) be le (nI (1 + a)) (nI b) s = Main_looks_L2 (d + 8) (lN (bitsN (fit q sq) 35)) a'.1 a'.2 (nI (1 + a)) (nI (b + 1)) s ∧ _
          rw [Main_looks_L2_eq, nl_6, if_neg (of_eq_false (lt_f (by omega) (by omega))), nl_10, pk_mul, nI_add, c_left (by omega) (by omega), bI_s]
          have hG : max (lkY q sq (1 + a) b) (cnt (fit q sq) 35 - lkY q sq (1 + a) b) = lkG q sq (7 * a + b) := by unfold lkG; rw [hi1, hi2]
          rw [hG, Main_looks_J3_eq, nI_1, nl_10, pk_mul, nI_add, ← hE, h1, h2, show 7 * a + (b + 1) = 7 * a + b + 1 by omega, bst_S]
          cases hb : bst (lkG q sq) (7 * a + b) with
          | none =>
            rw [if_pos (show bstI (-1) lkE none = -1 from rfl)]
            exact ⟨(_, _), rfl, rfl, rfl⟩
          | some j =>
            have hjl := bst_lt _ _ _ hb
            have hgj := gl j
            have hej : lkE j < 100 := by unfold lkE; omega
            rw [if_neg (show ¬ bstI (-1) lkE (some j) = -1 from m1_nn (a := lkE j) (by omega))]
            dsimp only
            by_cases hlt : lkG q sq (7 * a + b) < lkG q sq j
            · rw [if_pos (show nI (lkG q sq (7 * a + b)) < bstI (nI 0) (lkG q sq) (some j) from of_eq_true (lt_t hlt (by omega))), if_pos hlt]
              exact ⟨(_, _), rfl, rfl, rfl⟩
            · rw [if_neg (show ¬ nI (lkG q sq (7 * a + b)) < bstI (nI 0) (lkG q sq) (some j) from of_eq_false (lt_f (by omega) (by omega))), if_neg hlt]
              exact ⟨(_, _), rfl, rfl, rfl⟩) (-1, 0) ⟨rfl, rfl⟩
      dsimp only at c2 c3 c4
      rw [show 7 * 5 + 0 = 34 + 1 from rfl, hjb] at c3 c4
      obtain ⟨v, e2, e3, e4⟩ := n_tellOne (d := d + 6) (s := s) (x := lN (lkG q sq jb))
      refine ⟨v, ?_, e3, fr_m e4 (fun _ _ _ => pN_CQ)⟩
      rw [Main_looks_eq, c_fitting hS hq, bL_s, if_neg (fun z => by
        have := (lg_cmp_eq _ _).mp z
        have : lN (bitsN (fit q sq) 35) = lN 0 := this
        rw [fb_lN_inj (by omega) (by omega), bitsN_0] at this
        exact hz this)]
      refine c2.trans ?_
      rw [Main_looks_L1_eq, nl_5, if_pos (of_eq_true (lt_t (by omega) (by omega))), c3, c4]
      show (bV (ev (d + 8) f_Numbers_tellOne [vR 10 0, vL (nI (lkG q sq jb)).toInt64] s) fun s3 => some (some (vI (nI (lkE jb))), s3)) = _
      rw [nI_l (by omega), e2, bV_s]
    · have hS0 := rS_fr hS fr_0 (by unfold p0; omega) (by intro k; unfold p0; omega) (by intro k; unfold p0; omega) (by intro k; unfold p0; omega)
      obtain ⟨⟨be, le⟩, c2, c3, c4⟩ := gridV (A := 5) (fun _ => 7) (fun a (p : Int32 × Int32) => Ref_looks_L1 (d + 8) p.1 p.2 (nI (1 + a)) (wI s 13 0 0 0)) (fun a b p => Ref_looks_L2 (d + 8) p.1 p.2 (nI (1 + a)) (nI b) (wI s 13 0 0 0))
        (fun a p ha => by
          show Ref_looks_L1 _ _ _ _ _ = _
          rw [Ref_looks_L1_eq, nl_5, if_neg (of_eq_false (lt_f (by omega) (by omega)))]; rfl)
        (fun a p ha => by
          show Ref_looks_L2 _ _ _ _ _ _ = _
          rw [Ref_looks_L2_eq, nl_6, if_pos (of_eq_true (lt_t (by omega) (by omega))), nI_1]; rfl)
        (fun a b p => p.1 = bstI (-2) lkE (bst (lkG q sq) (7 * a + b)) ∧ p.2 = bstI (nI 1000000) (lkG q sq) (bst (lkG q sq) (7 * a + b))) (fun a p _ h => h)
        (by
          rintro a b ⟨be, le⟩ ha hb ⟨h1, h2⟩
          dsimp only at h1 h2
          have hi1 : 1 + (7 * a + b) / 7 = 1 + a := by omega
          have hi2 : (7 * a + b) % 7 = b := by omega
          have hE : lkE (7 * a + b) = 10 * (1 + a) + b := by unfold lkE; omega
          have hg := gl (7 * a + b)
          have hG : max (lkY q sq (1 + a) b) (cnt (fit q sq) 35 - lkY q sq (1 + a) b) = lkG q sq (7 * a + b) := by unfold lkG; rw [hi1, hi2]
          show ∃ a' : Int32 × Int32, Ref_looks_L2 (d + 8) be le (nI (1 + a)) (nI b) (wI s 13 0 0 0) = Ref_looks_L2 (d + 8) a'.1 a'.2 (nI (1 + a)) (nI (b + 1)) (wI s 13 0 0 0) ∧ _
          rw [Ref_looks_L2_eq, nl_6, if_neg (of_eq_false (lt_f (by omega) (by omega)))]
          have e := m3 _ hS0 be le (1 + a) b (by omega) (by omega)
          have e' : Ref_looks_L3 (d + 8) be le (nI (1 + a)) (nI b) 0 0 0 (wI s 13 0 0 0) = Ref_looks_L3 (d + 8) be le (nI (1 + a)) (nI b) (nI 0) (nI 0) (nI 0) (wI s 13 0 0 0) := rfl
          rw [e', e, fin3 _ hS0 be le (1 + a) b (by omega) (by omega), hG, Ref_looks_J4_eq, min_s, bI_s, nI_1, ← hE, h1, h2, show 7 * a + (b + 1) = 7 * a + b + 1 by omega, bst_S]
          cases hb : bst (lkG q sq) (7 * a + b) with
          | none =>
            have c : nI (lkG q sq (7 * a + b)) < nI 1000000 := of_eq_true (lt_t (by omega) (by omega))
            refine ⟨(_, _), rfl, ?_, ?_⟩
            · show (if 0 < cnt (fit q sq) 35 ∧ nI (lkG q sq (7 * a + b)) < nI 1000000 then nI (lkE (7 * a + b)) else _) = nI (lkE (7 * a + b))
              rw [if_pos ⟨by omega, c⟩]
            · show (if nI (lkG q sq (7 * a + b)) < nI 1000000 then nI (lkG q sq (7 * a + b)) else _) = nI (lkG q sq (7 * a + b))
              rw [if_pos c]
          | some j =>
            have hgj := gl j
            dsimp only
            by_cases hlt : lkG q sq (7 * a + b) < lkG q sq j
            · have c : nI (lkG q sq (7 * a + b)) < nI (lkG q sq j) := of_eq_true (lt_t hlt (by omega))
              rw [if_pos hlt]
              refine ⟨(_, _), rfl, ?_, ?_⟩
              · show (if 0 < cnt (fit q sq) 35 ∧ nI (lkG q sq (7 * a + b)) < nI (lkG q sq j) then nI (lkE (7 * a + b)) else _) = nI (lkE (7 * a + b))
                rw [if_pos ⟨by omega, c⟩]
              · show (if nI (lkG q sq (7 * a + b)) < nI (lkG q sq j) then nI (lkG q sq (7 * a + b)) else _) = nI (lkG q sq (7 * a + b))
                rw [if_pos c]
            · have c : ¬ nI (lkG q sq (7 * a + b)) < nI (lkG q sq j) := of_eq_false (lt_f (by omega) (by omega))
              rw [if_neg hlt]
              refine ⟨(_, _), rfl, ?_, ?_⟩
              · show (if 0 < cnt (fit q sq) 35 ∧ nI (lkG q sq (7 * a + b)) < nI (lkG q sq j) then _ else nI (lkE j)) = nI (lkE j)
                rw [if_neg (fun z => c z.2)]
              · show (if nI (lkG q sq (7 * a + b)) < nI (lkG q sq j) then _ else nI (lkG q sq j)) = nI (lkG q sq j)
                rw [if_neg c]) (-2, 1000000) ⟨rfl, rfl⟩
      dsimp only at c2 c3 c4
      rw [show 7 * 5 + 0 = 34 + 1 from rfl, hjb] at c3 c4
      obtain ⟨v1, g1, g4, g5⟩ := m_ent1 (d + 7) (wI s 13 0 0 0) (lN (lkG q sq jb))
      refine ⟨v1, ?_, g4, fr_t (fr_m fr_0 (fun _ _ _ => p0_RQ)) (fr_m g5 (fun _ _ _ => pT_RQ))⟩
      rw [Ref_looks_eq]
      refine c2.trans ?_
      have hpos : (0 : Int32) < nI (lkE jb) := of_eq_true (lt_t (a := 0) (by unfold lkE; omega) (by omega))
      rw [Ref_looks_L1_eq, nl_5, if_pos (of_eq_true (lt_t (by omega) (by omega))), c3, c4]
      show (if (0 : Int32) < nI (lkE jb) then bV (ev (d + 8) f_Ref_enters [vR 13 0, vL (nI (lkG q sq jb)).toInt64] (wI (wI s 13 0 0 0) 13 0 1 0)) fun s1 => some (some (vI (nI (lkE jb))), s1) else some (some (vI (nI (lkE jb))), wI s 13 0 0 0)) = _
      rw [if_pos hpos, nI_l (by omega), g1, bV_s]
end LOOKS

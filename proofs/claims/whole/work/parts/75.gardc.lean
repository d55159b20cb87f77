/-! gardens: the class reads a plan. -/
section GARDC
variable {d : Nat} {T E p R C : Nat} {sg : Nat → Nat} {s t : xS}
theorem fst_some {q : Nat → Bool} : ∀ {n f : Nat}, fst q n = some f → f < n ∧ q f = true ∧ ∀ g, g < f → q g = false := by
  intro n
  induction n with
  | zero => intro f h; cases h
  | succ n ih =>
    intro f h
    have h' : (match fst q n with | some k => some k | none => bif q n then some n else none) = some f := h
    cases e : fst q n with
    | some k =>
      rw [e] at h'
      cases h'
      obtain ⟨a, b, c⟩ := ih e
      exact ⟨by omega, b, c⟩
    | none =>
      rw [e] at h'
      have hn : ∀ g, g < n → q g = false := by
        have aux : ∀ m, fst q m = none → ∀ g, g < m → q g = false := by
          intro m
          induction m with
          | zero => intro _ g hg; exact absurd hg (Nat.not_lt_zero g)
          | succ m ihm =>
            intro hm g hg
            have hm' : (match fst q m with | some k => some k | none => bif q m then some m else none) = none := hm
            cases e2 : fst q m with
            | some k => rw [e2] at hm'; cases hm'
            | none =>
              rw [e2] at hm'
              by_cases z : g = m
              · rw [z]
                cases e3 : q m with
                | false => rfl
                | true =>
                  have hm2 : (bif q m then some m else none) = none := hm'
                  rw [e3] at hm2; cases hm2
              · exact ihm e2 g (by omega)
        exact aux n e
      have h2 : (bif q n then some n else none) = some f := h'
      cases e3 : q n with
      | false => rw [e3] at h2; cases h2
      | true =>
        rw [e3] at h2
        cases h2
        exact ⟨by omega, e3, hn⟩
theorem fst_none {q : Nat → Bool} : ∀ {n : Nat}, fst q n = none → ∀ g, g < n → q g = false := by
  intro m
  induction m with
  | zero => intro _ g hg; exact absurd hg (Nat.not_lt_zero g)
  | succ m ihm =>
    intro hm g hg
    have hm' : (match fst q m with | some k => some k | none => bif q m then some m else none) = none := hm
    cases e2 : fst q m with
    | some k => rw [e2] at hm'; cases hm'
    | none =>
      rw [e2] at hm'
      by_cases z : g = m
      · rw [z]
        cases e3 : q m with
        | false => rfl
        | true =>
          have hm2 : (bif q m then some m else none) = none := hm'
          rw [e3] at hm2; cases hm2
      · exact ihm e2 g (by omega)
def gbad (sg : Nat → Nat) (T N : Nat) : Option Nat := fst (fun f => (kdH sg T (2 + f)).isNone) N
/-- the kinds that a plan tells -/
def kdT (sg : Nat → Nat) (f : Nat) : Nat := (kdS (sg (2 + f))).getD 0
theorem dgt_v {lo hi v : Nat} (h : dgt sg E p lo hi = some v) : p < E ∧ lo ≤ v ∧ v ≤ hi := by
  unfold dgt at h
  by_cases z : p < E ∧ 48 + lo ≤ sg p ∧ sg p ≤ 48 + hi
  · rw [if_pos z] at h
    cases h
    exact ⟨z.1, by omega, by omega⟩
  · rw [if_neg z] at h; cases h
theorem kdH_s (h : (kdH sg E p).isNone = false) : p < E ∧ kdH sg E p = some ((kdS (sg p)).getD 0) ∧ kdS (sg p) = some ((kdS (sg p)).getD 0) := by
  unfold kdH at h ⊢
  by_cases z : p < E
  · rw [if_pos z] at h ⊢
    cases e : kdS (sg p) with
    | none => rw [e] at h; cases h
    | some v => exact ⟨z, rfl, rfl⟩
  · rw [if_neg z] at h; cases h
theorem kdS_ok {c v : Nat} (h : kdS c = some v) : v < 2 ∨ (10 ≤ v ∧ v < 16) ∨ (20 ≤ v ∧ v < 24) := by
  unfold kdS at h
  by_cases a : c = 46
  · rw [if_pos a] at h; cases h; omega
  rw [if_neg a] at h
  by_cases b : c = 35
  · rw [if_pos b] at h; cases h; omega
  rw [if_neg b] at h
  by_cases e : 97 ≤ c ∧ c ≤ 102
  · rw [if_pos e] at h; cases h; omega
  rw [if_neg e] at h
  by_cases g : 48 ≤ c ∧ c ≤ 51
  · rw [if_pos g] at h; cases h; omega
  rw [if_neg g] at h; cases h
theorem c_openX (h : cT s T sg) (ht : tOk T sg) : ∃ t, ev (d + 2) f_Text_open [vR 1 0, vI 80] s = some (none, t) ∧ cX t T sg T 0 ∧ fr (fun c _ k => c = 1 ∧ 2 ≤ k) s t := by
  have h80 := ht.1
  have f1 : fr (fun c _ k => c = 1 ∧ 2 ≤ k) s (wI (wI s 1 0 3 0) 1 0 2 (nI T)) := fr_wI (fr_wI (fr_r _ _) (by omega)) (by omega)
  refine ⟨wI (wI s 1 0 3 0) 1 0 2 (nI T), ?_, ⟨cT_fr h f1 (by omega) (by omega), wI_s1 _ _ _ _ _, by rw [wI_nk (by omega), wI_s1]; rfl, ht, Nat.le_refl _, Nat.zero_le _⟩, f1⟩
  rw [Text_open_eq, h.1, min_s, bI_s, nl_80, if_neg (of_eq_false (lt_f h80 (by omega)))]
/-- the loop passes good signs -/
theorem c_pass1 (h : cX s T sg T 2) (hN : R * C ≤ 36) (k : Nat) (hk : k ≤ R * C) (hg : ∀ f, f < k → (kdH sg T (2 + f)).isNone = false) : ∃ t, Garden_reads_L1 (d + 1) (nI R) (nI C) 0 s = Garden_reads_L1 (d + 1) (nI R) (nI C) (nI k) t ∧ cX t T sg T (2 + k) ∧ fr (fun c _ k => c = 1 ∧ k = 3) s t := by
  obtain ⟨t, k1, k2, k3⟩ := chainE k (fun j (t : xS) => Garden_reads_L1 (d + 1) (nI R) (nI C) (nI j) t) (fun j t => cX t T sg T (2 + j) ∧ fr (fun c _ k => c = 1 ∧ k = 3) s t) (by
    rintro j t hj ⟨h1, h2⟩
    obtain ⟨a1, a2, a3⟩ := kdH_s (hg j hj)
    have hv := kdS_ok a3
    obtain ⟨s1, s2⟩ := c_stepX (d := d) h1 a1
    refine ⟨_, ?_, s2, fr_wI h2 ⟨rfl, rfl⟩⟩
    show Garden_reads_L1 (d + 1) (nI R) (nI C) (nI j) t = _
    rw [Garden_reads_L1_eq, pk_mul, if_pos (of_eq_true (lt_t (by omega) (by omega))), c_here h1, bI_s, c_kindX h1, bI_s, a2, oI_s, if_neg (m1_nn (by omega)), s1, bV_s, nI_1]) k 0 s (by omega) ⟨h, fr_r _ _⟩
  exact ⟨t, k1, k2, k3⟩
/-- .. and stops at a bad one -/
theorem c_bad (h : cX s T sg T 2) (hN : R * C ≤ 36) {f : Nat} (hb : gbad sg T (R * C) = some f) : ∃ t, Garden_reads_L1 (d + 1) (nI R) (nI C) 0 s = some (some (vI (ib false)), t) ∧ cX t T sg T (2 + f) ∧ fr (fun c _ k => c = 1 ∧ k = 3) s t := by
  obtain ⟨b1, b2, b3⟩ := fst_some hb
  obtain ⟨t, k1, k2, k3⟩ := c_pass1 (d := d) h hN f (by omega) b3
  have hn : kdH sg T (2 + f) = none := by
    cases e : kdH sg T (2 + f) with
    | none => rfl
    | some v =>
      have b2 : (kdH sg T (2 + f)).isNone = true := b2
      rw [e] at b2; cases b2
  refine ⟨t, ?_, k2, k3⟩
  rw [k1, Garden_reads_L1_eq, pk_mul, if_pos (of_eq_true (lt_t (by omega) (by omega))), c_here k2, bI_s, c_kindX k2, bI_s, hn, oI_n, if_pos rfl, nb_0]
theorem gOk_T (h1 : 2 ≤ R) (h2 : R ≤ 6) (h3 : 2 ≤ C) (h4 : C ≤ 6) (hb : gbad sg T (R * C) = none) : gOk R C (kdT sg) := by
  refine ⟨h1, h2, h3, h4, fun f hf => ?_⟩
  obtain ⟨a1, a2, a3⟩ := kdH_s (fst_none hb f hf)
  exact kdS_ok a3
theorem c_fill (h : cT s T sg) (ht : tOk T sg) (h1 : 2 ≤ R) (h2 : R ≤ 6) (h3 : 2 ≤ C) (h4 : C ≤ 6) (hb : gbad sg T (R * C) = none) (hT : 2 + R * C = T) : ∃ t, ev (d + 7) f_Garden_fill [vR 2 0, vR 1 0, vI (nI R), vI (nI C)] s = some (none, t) ∧ cG t R C (kdT sg) ∧ fr (fun c _ k => (c = 1 ∧ 2 ≤ k) ∨ c = 2 ∨ c = 15 ∨ c = 16) s t := by
  have hok := gOk_T h1 h2 h3 h4 hb
  have h36 := gOk_36 hok
  have f1 : fr (fun c _ _ => c = 2) s (wI (wI (wI s 2 0 2 (nI R)) 2 0 3 (nI C)) 2 0 4 (nI (R * C))) := fr_wI (fr_wI (fr_wI (fr_r _ _) rfl) rfl) rfl
  obtain ⟨a, o1, o2, o3⟩ := c_openX (d := d + 4) (cT_fr h f1 (by omega) (by omega)) ht
  obtain ⟨x1, x2⟩ := c_stepX (d := d + 5) o2 (by omega)
  obtain ⟨y1, y2⟩ := c_stepX (d := d + 5) x2 (by omega)
  have fb : fr (fun c _ k => c = 1 ∧ 2 ≤ k) (wI (wI (wI s 2 0 2 (nI R)) 2 0 3 (nI C)) 2 0 4 (nI (R * C))) (wI (wI a 1 0 3 (nI (0 + 1))) 1 0 3 (nI (0 + 1 + 1))) := fr_wI (fr_wI o3 (by omega)) (by omega)
  generalize hbb : wI (wI a 1 0 3 (nI (0 + 1))) 1 0 3 (nI (0 + 1 + 1)) = b at y1 y2 fb
  have e2 : b.1 2 0 2 = nI R := by rw [(fb 2 0 2 (by omega)).1, wI_nk (by omega), wI_nk (by omega), wI_s1]
  have e3 : b.1 2 0 3 = nI C := by rw [(fb 2 0 3 (by omega)).1, wI_nk (by omega), wI_s1]
  have e4 : b.1 2 0 4 = nI (R * C) := by rw [(fb 2 0 4 (by omega)).1, wI_s1]
  obtain ⟨t, k1, k2, k3, k4⟩ := chainE (R * C) (fun j (t : xS) => Garden_fill_L1 (d + 6) (nI j) t) (fun j t => cX t T sg T (2 + j) ∧ (∀ f, f < j → t.1 15 0 f = nI (kdT sg f)) ∧ fr (fun c _ k => (c = 1 ∧ k = 3) ∨ c = 15) b t) (by
    rintro j t hj ⟨g1, g2, g3⟩
    obtain ⟨a1, a2, a3⟩ := kdH_s (fst_none hb j hj)
    have f15 : fr (fun c _ _ => c = 15) t (wI t 15 0 j (nI (kdT sg j))) := fr_wI (fr_r _ _) rfl
    obtain ⟨s1, s2⟩ := c_stepX (d := d + 5) (cX_fr g1 f15 (by omega) (by omega)) a1
    refine ⟨_, ?_, s2, fun f hf => ?_, fr_wI (fr_t g3 (fr_m f15 (by omega))) (by omega)⟩
    · show Garden_fill_L1 (d + 6) (nI j) t = _
      have a2' : kdH sg T (2 + j) = some (kdT sg j) := a2
      rw [Garden_fill_L1_eq, (g3 2 0 4 (by omega)).1, e4, if_pos (of_eq_true (lt_t hj (by omega))), c_here g1, bI_s, c_kindX g1, bI_s, a2', oI_s, in_t (show j < 36 by omega) (by omega), if_pos rfl, n_cl (by omega), s1, bV_s, nI_1]
    · rw [wI_nc (by omega)]
      by_cases z : f = j
      · rw [z, wI_s1]
      · rw [wI_nk z]; exact g2 f (by omega)) (R * C) 0 b (by omega) ⟨y2, fun f hf => absurd hf (Nat.not_lt_zero f), fr_r _ _⟩
  have hG0 : cG0 t R C (kdT sg) := ⟨hok, by rw [(k4 2 0 2 (by omega)).1]; exact e2, by rw [(k4 2 0 3 (by omega)).1]; exact e3, by rw [(k4 2 0 4 (by omega)).1]; exact e4, k3⟩
  obtain ⟨w, w1, w2, w3⟩ := g_link (d := d + 1) hG0
  have k1' : Garden_fill_L1 (d + 6) 0 b = Garden_fill_L1 (d + 6) (nI (R * C)) t := k1
  refine ⟨w, ?_, w2, fr_t (fr_m f1 (by omega)) (fr_t (fr_m fb (by omega)) (fr_t (fr_m k4 (by omega)) (fr_m w3 (by omega))))⟩
  rw [Garden_fill_eq, pk_mul, o1, bV_s, x1, bV_s]
  rw [y1, bV_s, k1', Garden_fill_L1_eq, hG0.2.2.2.1, if_neg (of_eq_false (lt_f (Nat.le_refl _) (by omega))), w1, bV_s]
end GARDC

/-! stands: the law's table; both alike. -/
section STANDSB
variable {d k : Nat} {R C n T u q nh : Nat} {kd : Nat → Nat} {S S' : Sn} {L : List Nat} {l l' : List Int64} {sg : Nat → Nat} {U U' : Nat → Sn} {K : Nat → Option Sn} {sq : Nat → Nat × Nat × Nat} {hq : Nat → Nat × Nat} {s t : xS} {p M : Nat} {A : Nat → Nat}
theorem m_sor (hM : M ≤ 144) (hA : ∀ j, A j < 64) (h54 : ∀ j, j < M → s.1 54 0 j = nI (A j)) : Ref_stands_L1 d 0 (nI M) 0 s = Ref_stands_L2 d (nI (orN A M)) (nI M) 0 s := by
  have ho64 : ∀ j, orN A j < 64 := fun j => orN_lt (b := 6) (fun k _ => hA k)
  refine (chain M (fun j => Ref_stands_L1 d (nI (orN A j)) (nI M) (nI j) s) ?_).trans ?_
  · intro j hj
    show Ref_stands_L1 d (nI (orN A j)) (nI M) (nI j) s = Ref_stands_L1 d (nI (orN A j ||| A j)) (nI M) (nI (j + 1)) s
    rw [Ref_stands_L1_eq, if_pos (of_eq_true (lt_t hj (by omega))), in_t (show j < 144 by omega) (by omega), if_pos rfl, n_cl (by omega), h54 j hj, (or_n (ho64 j) (hA j)).1, nI_1]
  · show Ref_stands_L1 d (nI (orN A M)) (nI M) (nI M) s = _
    rw [Ref_stands_L1_eq, if_neg (of_eq_false (lt_f (Nat.le_refl _) (by omega)))]
/-- rows i .. M of the table stand -/
def rTb (s : xS) (A : Nat → Nat) (M i : Nat) : Prop := ∀ i' m, i ≤ i' → i' ≤ M → m < 64 → s.1 55 0 (64 * i' + m) = nI (tbL (lsA A i' (M - i')) m)
theorem m_stb {y : Int32} (hM : M ≤ 144) (hM1 : 1 ≤ M) (hA : ∀ j, A j < 64) (h54 : ∀ j, j < M → s.1 54 0 j = nI (A j)) : ∃ t, Ref_stands_L2 d y (nI M) 0 s = Ref_stands_L3 d y (nI M) (-1) t ∧ rTb t A M 0 ∧ fr (fun c _ _ => c = 55) s t := by
  have m64 : ∀ i m, (64 : Int32) * nI i + nI m = nI (64 * i + m) := fun i m => by rw [show (64 : Int32) = nI 64 from rfl, pk_mul, nI_add]
  obtain ⟨a, a1, a2, a3⟩ := chainE 64 (fun m (t : xS) => Ref_stands_L2 d y (nI M) (nI m) t) (fun m t => (∀ m', m' < m → t.1 55 0 (64 * M + m') = nI (tbL [] m')) ∧ fr (fun c _ _ => c = 55) s t) (by
    rintro m t hm ⟨h1, h2⟩
    refine ⟨wI t 55 0 (64 * M + m) (nI (tbL [] m)), ?_, fun m' hm' => ?_, fr_wI h2 rfl⟩
    · show Ref_stands_L2 d y (nI M) (nI m) t = _
      rw [Ref_stands_L2_eq, if_pos (show nI m < 64 from of_eq_true (lt_t (b := 64) hm (by omega))), m64, in_t (show 64 * M + m < 9280 by omega) (by omega), n_cl (by omega), nI_1]
      by_cases z : m = 0
      · rw [if_pos (show nI m = 0 by rw [z]; rfl), if_pos rfl, z]; rfl
      · have ht : tbL [] m = 1000000 := if_neg z
        rw [if_neg (show ¬ nI m = 0 from of_eq_false (eq_f (b := 0) z (by omega) (by omega))), if_pos rfl, ht]; rfl
    · by_cases z : m' = m
      · rw [z, wI_s1]
      · rw [wI_nk (by omega)]; exact h1 m' (by omega)) 64 0 s (by omega) ⟨fun m' hm' => absurd hm' (Nat.not_lt_zero m'), fr_r _ _⟩
  have a1' : Ref_stands_L2 d y (nI M) 0 s = Ref_stands_L2 d y (nI M) (nI 64) a := a1
  have ha : rTb a A M M := fun i' m h1 h2 hm => by
    rw [show i' = M by omega, Nat.sub_self]; exact a2 m hm
  obtain ⟨b, b1, b2, b3⟩ := chainE M (fun j (t : xS) => Ref_stands_L3 d y (nI M) (if j < M then nI (M - 1 - j) else -1) t) (fun j t => rTb t A M (M - j) ∧ fr (fun c _ _ => c = 55) s t) (by
    rintro j t hj ⟨h1, h2⟩
    obtain ⟨i, ei⟩ : ∃ i, M - 1 - j = i := ⟨_, rfl⟩
    have hi : i < M := by omega
    have ht54 : t.1 54 0 i = nI (A i) := by rw [(h2 54 0 i (by omega)).1]; exact h54 i hi
    have hls : lsA A i (M - i) = (i, A i) :: lsA A (i + 1) (M - (i + 1)) := by rw [show M - i = M - (i + 1) + 1 by omega]; rfl
    obtain ⟨v, v1, v2, v3⟩ := chainE 64 (fun m (v : xS) => Ref_stands_L4 d y (nI M) (nI i) (nI m) v) (fun m v => (∀ m', m' < m → v.1 55 0 (64 * i + m') = nI (tbL (lsA A i (M - i)) m')) ∧ fr (fun c _ k => c = 55 ∧ k < 64 * (i + 1)) t v) (by
      rintro m v hm ⟨g1, g2⟩
      have hv54 : v.1 54 0 i = nI (A i) := by rw [(g2 54 0 i (by omega)).1]; exact ht54
      have han := an_lt (b := A i) hm
      have e1 : v.1 55 0 (64 * (i + 1) + m) = nI (tbL (lsA A (i + 1) (M - (i + 1))) m) := by rw [(g2 55 0 _ (by omega)).1]; exact h1 (i + 1) m (by omega) (by omega) hm
      have e2 : v.1 55 0 (64 * (i + 1) + an m (A i)) = nI (tbL (lsA A (i + 1) (M - (i + 1))) (an m (A i))) := by rw [(g2 55 0 _ (by omega)).1]; exact h1 (i + 1) (an m (A i)) (by omega) (by omega) han
      have hb1 := tb_le (lsA A (i + 1) (M - (i + 1))) m
      have hb2 := tb_le (lsA A (i + 1) (M - (i + 1))) (an m (A i))
      refine ⟨wI v 55 0 (64 * i + m) (nI (tbL (lsA A i (M - i)) m)), ?_, fun m' hm' => ?_, fr_wI g2 (by omega)⟩
      · show Ref_stands_L4 d y (nI M) (nI i) (nI m) v = _
        rw [Ref_stands_L4_eq, if_pos (show nI m < 64 from of_eq_true (lt_t (b := 64) hm (by omega))), in_t (show i < 144 by omega) (by omega), if_pos rfl, n_cl (by omega), hv54, n_an hm (hA i), nI_1, m64, m64, in_t (show 64 * (i + 1) + an m (A i) < 9280 by omega) (by omega), if_pos rfl, in_t (show 64 * (i + 1) + m < 9280 by omega) (by omega), if_pos rfl, n_cl (by omega), n_cl (by omega), e1, e2, nI_1]
        have hmin : ∀ (d : Nat) (v : xS), bI (ev d f_Math_min [vI (nI (tbL (lsA A (i + 1) (M - (i + 1))) m)), vI (nI (tbL (lsA A (i + 1) (M - (i + 1))) (an m (A i)) + 1))] v) = bI (ev d f_Math_min [vI (nI (tbL (lsA A (i + 1) (M - (i + 1))) m)), vI (nI (tbL (lsA A (i + 1) (M - (i + 1))) (an m (A i)) + 1))] v) := fun _ _ => rfl
        sorry
      · by_cases z : m' = m
        · rw [z, wI_s1]
        · rw [wI_nk (by omega)]; exact g1 m' (by omega)) 64 0 t (by omega) ⟨fun m' hm' => absurd hm' (Nat.not_lt_zero m'), fr_r _ _⟩
    sorry) M 0 a (by omega) ⟨by rw [Nat.sub_zero]; exact ha, a3⟩
  sorry
end STANDSB

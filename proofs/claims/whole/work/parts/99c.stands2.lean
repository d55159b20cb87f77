/-! stands: the law's table; both alike. -/
section STANDSB
variable {d k : Nat} {R C n T u q nh : Nat} {kd : Nat → Nat} {S S' : Sn} {L : List Nat} {l l' : List Int64} {sg : Nat → Nat} {U U' : Nat → Sn} {K : Nat → Option Sn} {sq : Nat → Nat × Nat × Nat} {hq : Nat → Nat × Nat} {s t : xS} {p M : Nat} {A : Nat → Nat}
theorem m_sor (hM : M ≤ 144) (hA : ∀ j, A j < 64) (h54 : ∀ j, j < M → s.1 54 0 j = nI (A j)) : Ref_stands_L1 d 0 (nI M) 0 s = Ref_stands_L2 d (nI (orN A M)) (nI M) 0 s := by
  have ho64 : ∀ j, orN A j < 64 := fun j => orN_lt (b := 6) (fun k _ => hA k)
  refine (chain M (fun j => Ref_stands_L1 d (nI (orN A j)) (nI M) (nI j) s) ?_).trans ?_
  · intro j hj
    show Ref_stands_L1 d (nI (orN A j)) (nI M) (nI j) s = Ref_stands_L1 d (nI (orN A j ||| A j)) (nI M) (nI (j + 1)) s
    rw [Ref_stands_L1_eq, if_pos (of_eq_true (lt_t hj (by omega))), in_t (show j < 144 by omega) (by omega), if_pos rfl, n_cl (by omega), h54 j hj, (or_n (ho64 j) (hA j)).1, nI_1]
  · show Ref_stands_L1 d (nI (orN A M)) (nI M) (nI M) s = _
    rw [Ref_stands_L1_eq, if_neg (of_eq_false (lt_f (Nat.le_refl _) (by omega)))]
/-- rows i .. M of the table stand -/
def rTb (s : xS) (A : Nat → Nat) (M i : Nat) : Prop := ∀ i' m, i ≤ i' → i' ≤ M → m < 64 → s.1 55 0 (64 * i' + m) = nI (tbL (lsA A i' (M - i')) m)
theorem m_stb {y : Int32} (hM : M ≤ 144) (hM1 : 1 ≤ M) (hA : ∀ j, A j < 64) (h54 : ∀ j, j < M → s.1 54 0 j = nI (A j)) : ∃ t, Ref_stands_L2 (d + 1) y (nI M) 0 s = Ref_stands_L3 (d + 1) y (nI M) (-1) t ∧ rTb t A M 0 ∧ fr (fun c _ _ => c = 55) s t := by
  have m64 : ∀ i m, (64 : Int32) * nI i + nI m = nI (64 * i + m) := fun i m => by rw [show (64 : Int32) = nI 64 from rfl, pk_mul, nI_add]
  obtain ⟨a, a1, a2, a3⟩ := chainE 64 (fun m (t : xS) => Ref_stands_L2 (d + 1) y (nI M) (nI m) t) (fun m t => (∀ m', m' < m → t.1 55 0 (64 * M + m') = nI (tbL [] m')) ∧ fr (fun c _ _ => c = 55) s t) (by
    rintro m t hm ⟨h1, h2⟩
    refine ⟨wI t 55 0 (64 * M + m) (nI (tbL [] m)), ?_, fun m' hm' => ?_, fr_wI h2 rfl⟩
    · show Ref_stands_L2 (d + 1) y (nI M) (nI m) t = _
      rw [Ref_stands_L2_eq, if_pos (show nI m < 64 from of_eq_true (lt_t (b := 64) hm (by omega))), m64, in_t (show 64 * M + m < 9280 by omega) (by omega), n_cl (by omega), nI_1]
      by_cases z : m = 0
      · rw [if_pos (show nI m = 0 by rw [z]; rfl), if_pos rfl, z]; rfl
      · have ht : tbL [] m = 1000000 := if_neg z
        rw [if_neg (show ¬ nI m = 0 from of_eq_false (eq_f (b := 0) z (by omega) (by omega))), if_pos rfl, ht]; rfl
    · by_cases z : m' = m
      · rw [z, wI_s1]
      · rw [wI_nk (by omega)]; exact h1 m' (by omega)) 64 0 s (by omega) ⟨fun m' hm' => absurd hm' (Nat.not_lt_zero m'), fr_r _ _⟩
  have a1' : Ref_stands_L2 (d + 1) y (nI M) 0 s = Ref_stands_L2 (d + 1) y (nI M) (nI 64) a := a1
  have ha : rTb a A M M := fun i' m h1 h2 hm => by
    rw [show i' = M by omega, Nat.sub_self]; exact a2 m hm
  obtain ⟨b, b1, b2, b3⟩ := chainE M (fun j (t : xS) => Ref_stands_L3 (d + 1) y (nI M) (if j < M then nI (M - 1 - j) else -1) t) (fun j t => rTb t A M (M - j) ∧ fr (fun c _ _ => c = 55) s t) (by
    rintro j t hj ⟨h1, h2⟩
    obtain ⟨i, ei⟩ : ∃ i, M - 1 - j = i := ⟨_, rfl⟩
    have hi : i < M := by omega
    have ht54 : t.1 54 0 i = nI (A i) := by rw [(h2 54 0 i (by omega)).1]; exact h54 i hi
    have hls : lsA A i (M - i) = (i, A i) :: lsA A (i + 1) (M - (i + 1)) := by rw [show M - i = M - (i + 1) + 1 by omega]; rfl
    obtain ⟨v, v1, v2, v3⟩ := chainE 64 (fun m (v : xS) => Ref_stands_L4 (d + 1) y (nI M) (nI i) (nI m) v) (fun m v => (∀ m', m' < m → v.1 55 0 (64 * i + m') = nI (tbL (lsA A i (M - i)) m')) ∧ fr (fun c _ k => c = 55 ∧ k < 64 * (i + 1)) t v) (by
      rintro m v hm ⟨g1, g2⟩
      have hv54 : v.1 54 0 i = nI (A i) := by rw [(g2 54 0 i (by omega)).1]; exact ht54
      have han := an_lt (b := A i) hm
      have e1 : v.1 55 0 (64 * (i + 1) + m) = nI (tbL (lsA A (i + 1) (M - (i + 1))) m) := by rw [(g2 55 0 _ (by omega)).1]; exact h1 (i + 1) m (by omega) (by omega) hm
      have e2 : v.1 55 0 (64 * (i + 1) + an m (A i)) = nI (tbL (lsA A (i + 1) (M - (i + 1))) (an m (A i))) := by rw [(g2 55 0 _ (by omega)).1]; exact h1 (i + 1) (an m (A i)) (by omega) (by omega) han
      have hb1 := tb_le (lsA A (i + 1) (M - (i + 1))) m
      have hb2 := tb_le (lsA A (i + 1) (M - (i + 1))) (an m (A i))
      refine ⟨wI v 55 0 (64 * i + m) (nI (tbL (lsA A i (M - i)) m)), ?_, fun m' hm' => ?_, fr_wI g2 (by omega)⟩
      · show Ref_stands_L4 (d + 1) y (nI M) (nI i) (nI m) v = _
        rw [Ref_stands_L4_eq, if_pos (show nI m < 64 from of_eq_true (lt_t (b := 64) hm (by omega))), in_t (show i < 144 by omega) (by omega), if_pos rfl, n_cl (by omega), hv54, n_an hm (hA i), nI_1, m64, m64, in_t (show 64 * (i + 1) + an m (A i) < 9280 by omega) (by omega), if_pos rfl, in_t (show 64 * (i + 1) + m < 9280 by omega) (by omega), if_pos rfl, n_cl (by omega), n_cl (by omega), e1, e2, nI_1]
        rw [min_s, n_minN (by omega) (by omega), bI_s, m64, in_t (show 64 * i + m < 9280 by omega) (by omega), if_pos rfl, n_cl (by omega), nI_1, hls]; rfl
      · by_cases z : m' = m
        · rw [z, wI_s1]
        · rw [wI_nk (by omega)]; exact g1 m' (by omega)) 64 0 t (by omega) ⟨fun m' hm' => absurd hm' (Nat.not_lt_zero m'), fr_r _ _⟩
    have v1' : Ref_stands_L4 (d + 1) y (nI M) (nI i) 0 t = Ref_stands_L4 (d + 1) y (nI M) (nI i) (nI 64) v := v1
    refine ⟨v, ?_, fun i' m' q1 q2 q3 => ?_, fr_t h2 (fr_m v3 (by omega))⟩
    · show Ref_stands_L3 (d + 1) y (nI M) (if j < M then nI (M - 1 - j) else -1) t = Ref_stands_L3 (d + 1) y (nI M) (if j + 1 < M then nI (M - 1 - (j + 1)) else -1) v
      have hm1 : nI i + (-1) = if j + 1 < M then nI (M - 1 - (j + 1)) else -1 := by
        by_cases z : j + 1 < M
        · rw [if_pos z, show i = M - 1 - (j + 1) + 1 by omega, n_am1]
        · rw [if_neg z, show i = 0 by omega]; rfl
      rw [if_pos hj, ei, Ref_stands_L3_eq, if_neg (nI_pos (by omega)), v1', Ref_stands_L4_eq, if_neg (by decide), hm1]
    · by_cases z : i' = i
      · rw [z]; exact v2 m' q3
      · rw [(v3 55 0 _ (by omega)).1]; exact h1 i' m' (by omega) q2 q3) M 0 a (by omega) ⟨by rw [Nat.sub_zero]; exact ha, a3⟩
  have b1' : Ref_stands_L3 (d + 1) y (nI M) (if 0 < M then nI (M - 1 - 0) else -1) a = Ref_stands_L3 (d + 1) y (nI M) (if M < M then nI (M - 1 - M) else -1) b := b1
  rw [if_pos (by omega), if_neg (Nat.lt_irrefl M)] at b1'
  rw [Nat.sub_self] at b2
  refine ⟨b, ?_, b2, b3⟩
  rw [a1', Ref_stands_L2_eq, if_neg (by decide), show (1 : Int32) = nI 1 from rfl, n_sub (by omega)]
  exact b1'
theorem m_sgr {k0 : Nat} (hM : M ≤ 144) (hA : ∀ j, A j < 64) : ∀ (e i m : Nat) (r : List Int64) (s : xS), i + e = M → m < 64 → (∀ j, j < M → s.1 54 0 j = nI (A j)) → rTb s A M 0 → rRow s r → r.length + (grL (lsA A i e) m).length ≤ 15 → ∃ t, Ref_stands_L5 (d + 1) (nI M) (nI k0) (nI m) (nI i) s = some (some (vI (nI k0)), t) ∧ rRow t (r ++ (grL (lsA A i e) m).map (fun x => lN x)) ∧ fr pT s t := by
  have m64 : ∀ i m, (64 : Int32) * nI i + nI m = nI (64 * i + m) := fun i m => by rw [show (64 : Int32) = nI 64 from rfl, pk_mul, nI_add]
  intro e
  induction e with
  | zero =>
    intro i m r s hi hm h54 hT hr hl
    refine ⟨s, ?_, by show rRow s (r ++ []); rw [List.append_nil]; exact hr, fr_r _ _⟩
    rw [Ref_stands_L5_eq, if_neg (of_eq_false (lt_f (by omega) (by omega)))]
  | succ e ih =>
    intro i m r s hi hm h54 hT hr hl
    have hls : lsA A i (e + 1) = (i, A i) :: lsA A (i + 1) e := rfl
    rw [hls] at hl ⊢
    rw [Ref_stands_L5_eq, if_pos (of_eq_true (lt_t (by omega) (by omega)))]
    by_cases z : m = 0
    · have hg : grL ((i, A i) :: lsA A (i + 1) e) m = [] := if_pos z
      rw [if_pos (show nI m = 0 by rw [z]; rfl), hg]
      exact ⟨s, rfl, by show rRow s (r ++ []); rw [List.append_nil]; exact hr, fr_r _ _⟩
    · have hg : grL ((i, A i) :: lsA A (i + 1) e) m = if tbL (lsA A (i + 1) e) (an m (A i)) + 1 = tbL ((i, A i) :: lsA A (i + 1) e) m then i :: grL (lsA A (i + 1) e) (an m (A i)) else grL (lsA A (i + 1) e) m := if_neg z
      have han := an_lt (b := A i) hm
      have e1 : s.1 55 0 (64 * (i + 1) + an m (A i)) = nI (tbL (lsA A (i + 1) e) (an m (A i))) := by
        have := hT (i + 1) (an m (A i)) (Nat.zero_le _) (by omega) han
        rw [show M - (i + 1) = e by omega] at this; exact this
      have e2 : s.1 55 0 (64 * i + m) = nI (tbL ((i, A i) :: lsA A (i + 1) e) m) := by
        have := hT i m (Nat.zero_le _) (by omega) hm
        rw [show M - i = e + 1 by omega, hls] at this; exact this
      have hb1 := tb_le (lsA A (i + 1) e) (an m (A i))
      have hb2 := tb_le ((i, A i) :: lsA A (i + 1) e) m
      rw [if_neg (show ¬ nI m = 0 from of_eq_false (eq_f (b := 0) z (by omega) (by omega))), in_t (show i < 144 by omega) (by omega), if_pos rfl, n_cl (show i < 2147483648 by omega), h54 i (by omega), n_an hm (hA i), nI_1, m64, in_t (show 64 * (i + 1) + an m (A i) < 9280 by omega) (by omega), if_pos rfl, m64, in_t (show 64 * i + m < 9280 by omega) (by omega), if_pos rfl, n_cl (by omega), n_cl (by omega), e1, e2, nI_1]
      rw [hg] at hl ⊢
      by_cases w : tbL (lsA A (i + 1) e) (an m (A i)) + 1 = tbL ((i, A i) :: lsA A (i + 1) e) m
      · rw [if_pos w] at hl ⊢
        rw [if_pos (of_eq_true (eq_t w))]
        have hl : r.length + ((grL (lsA A (i + 1) e) (an m (A i))).length + 1) ≤ 15 := hl
        obtain ⟨a, a1, a2, a3⟩ := m_enters (d := d) (x := lN i) hr (by omega)
        have hlen : (r ++ [lN i]).length = r.length + 1 := by rw [List.length_append]; rfl
        obtain ⟨t, t1, t2, t3⟩ := ih (i + 1) (an m (A i)) (r ++ [lN i]) a (by omega) han (fun j hj => by rw [(a3 54 0 j (by simp [pT])).1]; exact h54 j hj) (fun i' m' q1 q2 q3 => by rw [(a3 55 0 _ (by simp [pT])).1]; exact hT i' m' q1 q2 q3) a2 (by omega)
        refine ⟨t, ?_, ?_, fr_t a3 t3⟩
        · rw [nI_l (by omega), a1, bV_s, t1]
        · rw [List.append_assoc] at t2; exact t2
      · rw [if_neg w] at hl ⊢
        rw [if_neg (of_eq_false (eq_f w (by omega) (by omega)))]
        exact ih (i + 1) m r s (by omega) hm h54 hT hr hl
theorem or_cov {M : Nat} (hA : ∀ j, A j < 64) : an (orN A M) (orL (lsA A 0 M)) = 0 := by
  have hol : ∀ e i, orL (lsA A i e) ||| orN A i = orN A (i + e) := by
    intro e
    induction e with
    | zero => intro i; show 0 ||| orN A i = orN A i; rw [Nat.zero_or]
    | succ e ih =>
      intro i
      show A i ||| orL (lsA A (i + 1) e) ||| orN A i = orN A (i + (e + 1))
      have := ih (i + 1)
      have this : orL (lsA A (i + 1) e) ||| (orN A i ||| A i) = orN A (i + 1 + e) := this
      rw [show i + (e + 1) = i + 1 + e by omega, ← this, Nat.or_assoc, Nat.or_comm (A i), Nat.or_assoc]
  have h := hol M 0
  have h : orL (lsA A 0 M) ||| 0 = orN A (0 + M) := h
  rw [Nat.or_zero, Nat.zero_add] at h
  rw [h]
  have h64 : orN A M < 64 := orN_lt (b := 6) (fun k _ => hA k)
  have hc : ((List.range 64).all fun a => decide (an a a = 0)) = true := by decide
  exact of_decide_eq_true (all_r hc h64)
theorem ls_m : ∀ (e i : Nat) (x : Nat × Nat), x ∈ lsA A i e → x.2 = A x.1 ∧ x.1 < i + e := by
  intro e
  induction e with
  | zero => intro i x h; cases h
  | succ e ih =>
    intro i x h
    have h : x ∈ (i, A i) :: lsA A (i + 1) e := h
    rw [List.mem_cons] at h
    rcases h with rfl | h
    · exact ⟨rfl, by show i < i + (e + 1); omega⟩
    · obtain ⟨a, b⟩ := ih (i + 1) x h
      exact ⟨a, by omega⟩
theorem gr_m : ∀ (l : sL) (m x : Nat), x ∈ grL l m → ∃ y, (x, y) ∈ l := by
  intro l
  induction l with
  | nil => intro m x h; cases h
  | cons z l ih =>
    intro m x h
    have h : x ∈ (if m = 0 then [] else if tbL l (an m z.2) + 1 = tbL (z :: l) m then z.1 :: grL l (an m z.2) else grL l m) := h
    by_cases a : m = 0
    · rw [if_pos a] at h; cases h
    · rw [if_neg a] at h
      by_cases b : tbL l (an m z.2) + 1 = tbL (z :: l) m
      · rw [if_pos b, List.mem_cons] at h
        rcases h with rfl | h
        · exact ⟨z.2, by simp⟩
        · obtain ⟨y, hy⟩ := ih _ x h
          exact ⟨y, List.mem_cons_of_mem _ hy⟩
      · rw [if_neg b] at h
        obtain ⟨y, hy⟩ := ih _ x h
        exact ⟨y, List.mem_cons_of_mem _ hy⟩
theorem pGa_CQ {c i k : Nat} (h : pGa c i k) : pCQ c i k := by
  have h := pGa_m h
  rcases h with rfl | rfl | ⟨rfl, rfl⟩ | rfl | rfl | ⟨rfl, rfl⟩ <;> simp [pCQ]
theorem s_stands (ha : AOk ((R, C, kd), (n, S), (L, l), (T, sg), (u, U), K, (q, sq), nh, hq)) (x : Int32) : GsS d f_Main_stands f_Ref_stands [vI x] ((R, C, kd), (n, S), (L, l), (T, sg), (u, U), K, (q, sq), nh, hq) k := by
  have ho := ha.2.1
  have hn : n ≤ 4 := ho.1
  have hL : wfL (ruL L) 0 := ha.2.2.1
  have hgo : gOk R C kd := ha.1
  have b36 : R * C ≤ 36 := gOk_36 hgo
  refine GsS_q ha ?_
  cases hx : x_in x n with
  | false =>
    refine ⟨-1, l, fun s h _ _ => ⟨s, ?_, h.2.2.2, fr_r _ _⟩, fun s h _ _ => ⟨wI s 13 0 0 0, ?_, (RQ_0 h).2.2.2.1, fr_m fr_0 (fun _ _ _ => p0_RQ)⟩⟩
    · rw [Main_stands_eq, o_has h.2.1 hn, bI_s, hx, if_pos (by decide)]
    · rw [Ref_stands_eq, m_isPram (RQ_0 h).2.1 hn, bI_s, hx, if_pos (by decide)]
  | true =>
    obtain ⟨p, hp, rfl⟩ := (n_in_iff (by omega)).mp hx
    obtain ⟨M, hM⟩ : ∃ M, 4 * (R * C) = M := ⟨_, rfl⟩
    obtain ⟨A, hA⟩ : ∃ A : Nat → Nat, (fun j => if j < 4 * (R * C) then sdV R C kd n S L p j else 0) = A := ⟨_, rfl⟩
    have hAj : ∀ j, j < M → A j = sdV R C kd n S L p j := fun j hj => by rw [← hA]; exact if_pos (by omega)
    have hA64 : ∀ j, A j < 64 := fun j => by
      rw [← hA]
      show (if j < 4 * (R * C) then sdV R C kd n S L p j else 0) < 64
      by_cases z : j < 4 * (R * C)
      · rw [if_pos z]; exact sdV_lt hgo z
      · rw [if_neg z]; omega
    have hRC : 1 ≤ R * C := Nat.mul_pos (by have := hgo.1; omega) (by have := hgo.2.2.1; omega)
    have hM144 : M ≤ 144 := by omega
    have hM1 : 1 ≤ M := by omega
    obtain ⟨al, hal⟩ : ∃ al, orN A M = al := ⟨_, rfl⟩
    have hal6 : al < 64 := by rw [← hal]; exact orN_lt (b := 6) (fun k _ => hA64 k)
    have hcov := or_cov (A := A) (M := M) hA64
    rw [hal] at hcov
    have htb := tb_few (lsA A 0 M) al hal6 (fun x hx => by rw [(ls_m M 0 x hx).1]; exact hA64 _) hcov
    have hpc := pc_le al
    obtain ⟨k0, hk0⟩ : ∃ k0, tbL (lsA A 0 M) al = k0 := ⟨_, rfl⟩
    rw [hk0] at htb
    have hk6 : k0 ≤ 6 := by omega
    obtain ⟨hfg, hgl⟩ := fL_gr (lsA A 0 M) al (by omega)
    rw [hk0] at hfg hgl
    obtain ⟨ps, hps⟩ : ∃ ps, grL (lsA A 0 M) al = ps := ⟨_, rfl⟩
    rw [hps] at hfg hgl
    have hga : ∀ r, r < 1000000 → fL (lsA A 0 M) al r = fL (gaA A M) al r := fun r hr => by
      have := ga_fL (A := A) hal6 hr M 0
      rw [Nat.zero_add] at this
      exact this
    have hlt : ∀ r, r < k0 → fL (gaA A M) al r = none := fun r hr => by
      rw [← hga r (by omega)]
      exact (fL_iff _ _ _ (by omega)).mpr (by omega)
    have hfk : fL (gaA A M) al k0 = some ps := by rw [← hga k0 (by omega)]; exact hfg
    have hpl : ∀ k, k < ps.length → ps.getD k 0 < 144 := fun k hk => by
      have hm : ps.getD k 0 ∈ ps := getD_mem hk
      rw [← hps] at hm
      obtain ⟨y, hy⟩ := gr_m _ _ _ hm
      have := (ls_m M 0 _ hy).2
      rw [hps] at this
      have : ps.getD k 0 < 0 + M := this
      omega
    have hsets : ∀ x, x ∈ gaA A M → x.2 < 64 := fun x hx => by rw [(ga_m M x hx).2.1]; exact hA64 _
    have m4 : (4 : Int32) * nI (R * C) = nI M := by rw [nl_4, pk_mul, hM]
    refine ⟨nI k0, lN al :: ps.map (fun x => lN x), fun s h _ _ => ?_, fun s h _ _ => ?_⟩
    · obtain ⟨a, a1, a2, a3⟩ := c_gather (d := d + 93) h.1 h.2.1 ho h.2.2.1 hL hp
      rw [hA, hM] at a1 a2
      rw [hal] at a1
      obtain ⟨b, b1, b2, b3⟩ := c_choose (d := d + 91) (ga_len hA64 M) hsets hal6 hk6 a2 hlt hfk
      obtain ⟨c, c1, c2, c3⟩ := n_tellOne (d := d + 97) (s := b) (x := lN al)
      obtain ⟨t, k1, ⟨r, k2, k3, k4⟩, k5⟩ := chainE k0 (fun i (t : xS) => Main_stands_L1 (d + 99) (nI k0) (nI i) t) (fun i t => (∃ r, cRow t r ∧ r ++ (ps.drop i).map (fun x => lN x) = lN al :: ps.map (fun x => lN x) ∧ r.length = 1 + i) ∧ fr pN b t) (by
        rintro i t hi ⟨⟨r, h1, h2, h3⟩, h4⟩
        have hip : i < ps.length := by omega
        have hlt := hpl i hip
        have h29 : t.1 29 0 i = nI (ps.getD i 0) := by rw [(h4 29 0 i (by simp [pN])).1]; exact b2 i hip
        obtain ⟨v, v1, v2, v3⟩ := n_add1 (d := d + 98) (x := lN (ps.getD i 0)) h1 (by omega)
        have hch : ev (d + 99) f_Eye_chosenStand [vR 6 0, vI (nI i)] t = some (some (vI (nI (ps.getD i 0))), t) := by
          rw [Eye_chosenStand_eq, if_neg (nI_pos (by omega)), if_pos (show nI i < 6 from of_eq_true (lt_t (b := 6) (by omega) (by omega))), in_t (show i < 6 by omega) (by omega), if_pos rfl, n_cl (by omega), h29]
        refine ⟨v, ?_, ⟨r ++ [lN (ps.getD i 0)], v2, ?_, by rw [List.length_append, h3]; rfl⟩, fr_t h4 v3⟩
        · show Main_stands_L1 (d + 99) (nI k0) (nI i) t = _
          rw [Main_stands_L1_eq, if_pos (of_eq_true (lt_t hi (by omega))), hch, bI_s, nI_l (by omega), v1, bV_s, nI_1]
        · have hdr : ps.drop i = ps.getD i 0 :: ps.drop (i + 1) := by
            rw [List.drop_eq_getElem_cons hip, List.getD_eq_getElem?_getD, List.getElem?_eq_getElem hip]; rfl
          rw [← h2, hdr, List.append_assoc]; rfl) k0 0 c (by omega) ⟨⟨[lN al], c2, rfl, rfl⟩, c3⟩
      have k1' : Main_stands_L1 (d + 99) (nI k0) 0 c = Main_stands_L1 (d + 99) (nI k0) (nI k0) t := k1
      have hdn : ps.drop k0 = [] := by rw [← hgl]; exact List.drop_length
      rw [hdn] at k3
      have k3 : r ++ [] = lN al :: ps.map (fun x => lN x) := k3
      rw [List.append_nil] at k3
      refine ⟨t, ?_, by rw [← k3]; exact k2, fr_t (fr_m a3 (fun _ _ _ => pGa_CQ)) (fr_t (fr_m b3 (fun c i k z => by rw [z]; simp [pCQ])) (fr_m k5 (fun _ _ _ => pN_CQ)))⟩
      rw [Main_stands_eq, o_has h.2.1 hn, hx, bI_s, if_neg (by decide), a1, bI_s, b1, bI_s, nI_l (by omega), c1, bV_s, k1', Main_stands_L1_eq, if_neg (of_eq_false (lt_f (Nat.le_refl _) (by omega)))]
    · have h0 := RQ_0 h
      obtain ⟨a, a1, a2, a3⟩ := m_stands (d := d + 93) h0.1 h0.2.1 ho h0.2.2.1 hL hp
      have a54 : ∀ j, j < M → a.1 54 0 j = nI (A j) := fun j hj => by rw [hAj j hj]; exact a2 j (by omega)
      have hGa : rG a R C kd := rG_fr h0.1 a3 (by simp [pSd, pF]) (by simp [pSd, pF]) (by intro k; simp [pSd, pF])
      obtain ⟨b, b1, b2, b3⟩ := m_stb (d := d + 98) (y := nI al) (s := a) hM144 hM1 hA64 a54
      have h55 : b.1 55 0 al = nI k0 := by
        have := b2 0 al (Nat.le_refl _) (Nat.zero_le _) hal6
        rw [Nat.mul_zero, Nat.zero_add, Nat.sub_zero, hk0] at this; exact this
      have hr0 : rRow (wI b 13 0 1 0) [] := ⟨by rw [wI_s1]; rfl, Nat.zero_le _, fun i hi => absurd hi (Nat.not_lt_zero i)⟩
      obtain ⟨c, c1, c2, c3⟩ := m_enters (d := d + 98) (x := lN al) hr0 (by decide)
      have fbc : fr pT b c := fr_t (fr_wI (fr_r _ _) (Or.inr ⟨rfl, rfl⟩)) c3
      obtain ⟨t, t1, t2, t3⟩ := m_sgr (d := d + 98) (k0 := k0) (A := A) hM144 hA64 M 0 al [lN al] c (by omega) hal6 (fun j hj => by rw [(fbc 54 0 j (by simp [pT])).1, (b3 54 0 j (by omega)).1]; exact a54 j hj) (fun i' m' q1 q2 q3 => by rw [(fbc 55 0 _ (by simp [pT])).1]; exact b2 i' m' q1 q2 q3) c2 (by rw [hps, hgl]; show 1 + k0 ≤ 15; omega)
      rw [hps] at t2
      have t1' : Ref_stands_L5 (d + 99) (nI M) (nI k0) (nI al) 0 c = some (some (vI (nI k0)), t) := t1
      refine ⟨t, ?_, t2, fr_t (fr_m fr_0 (fun _ _ _ => p0_RQ)) (fr_t (fr_m a3 (fun c i k z => by
        rcases z with z | rfl
        · exact pF_RQ z
        · simp [pRQ])) (fr_t (fr_m b3 (fun c i k z => by rw [z]; simp [pRQ])) (fr_t (fr_m fbc (fun _ _ _ => pT_RQ)) (fr_m t3 (fun _ _ _ => pT_RQ)))))⟩
      have hor := m_sor (d := d + 99) hM144 hA64 a54
      rw [hal] at hor
      rw [Ref_stands_eq, m_isPram h0.2.1 hn, hx, bI_s, if_neg (by decide), a1, bV_s, m_fields hGa, bI_s, m4, hor, b1, Ref_stands_L3_eq, if_pos (by decide), in_t (show al < 9280 by omega) (by omega), if_pos rfl, n_cl (by omega), h55, nI_l (by omega), c1, bV_s, t1']
end STANDSB

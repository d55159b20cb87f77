/-! ways: the law's branches; both alike. -/
section WAYSB
variable {d k : Nat} {R C n T u q nh : Nat} {kd : Nat → Nat} {S S' : Sn} {L : List Nat} {l l' : List Int64} {sg : Nat → Nat} {U U' : Nat → Sn} {K : Nat → Option Sn} {sq : Nat → Nat × Nat × Nat} {hq : Nat → Nat × Nat} {s t : xS} {p x y : Nat}
def preL (a : Nat → Nat) : Nat → List Int64
  | 0 => []
  | i + 1 => preL a i ++ [lN (a i)]
theorem preL_len (a : Nat → Nat) : ∀ i, (preL a i).length = i
  | 0 => rfl
  | i + 1 => by
    show (preL a i ++ [lN (a i)]).length = i + 1
    rw [List.length_append, preL_len a i]; rfl
theorem preL_up {a : Nat → Nat} {i v : Nat} : ∀ j, j ≤ i → preL (up a i v) j = preL a j
  | 0, _ => rfl
  | j + 1, h => by
    show preL (up a i v) j ++ [lN (up a i v j)] = preL a j ++ [lN (a j)]
    rw [preL_up j (by omega), up_n (by omega)]
def pWf (c i k : Nat) : Prop := pF c i k ∨ c = 62 ∨ c = 41 ∨ (c = 13 ∧ (k = 1 ∨ k = 47))
theorem pWf_m {c i k : Nat} (h : pWf c i k) : c = 48 ∨ c = 49 ∨ (c = 13 ∧ (k = 1 ∨ k = 24 ∨ k = 25 ∨ k = 47)) ∨ c = 41 ∨ c = 62 := by
  unfold pWf pF at h; omega
theorem pWf_RQ {c i k : Nat} (h : pWf c i k) : pRQ c i k := by
  have h := pWf_m h
  rcases h with rfl | rfl | ⟨rfl, rfl | rfl | rfl | rfl⟩ | rfl | rfl <;> simp [pRQ]
def roW (P : Nat → Bool) (m : Nat) (pre : List Int64) (j B : Nat) (r : List Int64) : List Int64 := if m = 0 then (match fst P B with | some c => pre ++ dgL c j | none => []) else r
theorem m_wf {k : Nat} (hG : rG s R C kd) (hO : rOS s 0 n S) (ho : oOkS R C kd n S) (hR : rR s L) (hL : wfL (ruL L) 0) (hp : p < n) (hk : k ≤ 5) (hy : y < 64) : ∀ (j i x m : Nat) (a : Nat → Nat) (r : List Int64) (t : xS), i + j = k → x < 64 * (R * C) → t.1 13 0 47 = nI m → m + 4 ^ j ≤ 100000 → (∀ l, l < i → t.1 62 0 l = nI (a l) ∧ a l < 4) → rRow t r → (m = 0 → r = []) → fr pWf s t → ∃ v, ev (d + j + 7) f_Ref_waysFrom [vR 13 0, vI (nI p), vI (nI x), vI (nI y), vI (nI i), vI (nI k)] t = some (none, v) ∧ v.1 13 0 47 = nI (m + cnt (waP (nxP R C kd n S L p) y j x) (4 ^ j)) ∧ (∀ l, l < i → v.1 62 0 l = nI (a l)) ∧ rRow v (roW (waP (nxP R C kd n S L p) y j x) m (preL a i) j (4 ^ j) r) ∧ fr pWf s v := by
  have b36 := gOk_36 hG.1
  have hgo := hG.1
  intro j
  induction j with
  | zero =>
    intro i x m a r t hi hx h47 hb ha hr hr0 hf
    have hik : i = k := by omega
    have hb : m + 1 ≤ 100000 := hb
    have hP0 : waP (nxP R C kd n S L p) y 0 x 0 = decide (x % 64 = y) := rfl
    have hc0 : cnt (waP (nxP R C kd n S L p) y 0 x) (4 ^ 0) = 0 + (bif decide (x % 64 = y) then 1 else 0) := rfl
    have hf0 : fst (waP (nxP R C kd n S L p) y 0 x) (4 ^ 0) = bif decide (x % 64 = y) then some 0 else none := rfl
    rw [Ref_waysFrom_eq, if_pos (of_eq_true (eq_t hik)), if_neg (by decide), n_r64 (by omega)]
    unfold roW
    rw [hc0, hf0]
    by_cases z : x % 64 = y
    · rw [if_pos (of_eq_true (eq_t z)), decide_eq_true z]
      by_cases hm : m = 0
      · have hr' : rRow t [] := by rw [← hr0 hm]; exact hr
        obtain ⟨v, k1, k2, k3⟩ := chainE k (fun l (t : xS) => Ref_waysFrom_L1 (d + 0 + 6) (nI k) (nI l) t) (fun l v => rRow v (preL a l) ∧ fr pT t v) (by
          rintro l v hl ⟨h1, h2⟩
          obtain ⟨ha1, ha2⟩ := ha l (by omega)
          obtain ⟨w, w1, w2, w3⟩ := m_enters (d := d + 5) (x := lN (a l)) h1 (by rw [preL_len]; omega)
          refine ⟨w, ?_, w2, fr_t h2 w3⟩
          show Ref_waysFrom_L1 (d + 0 + 6) (nI k) (nI l) v = _
          rw [Ref_waysFrom_L1_eq, if_pos (of_eq_true (lt_t hl (by omega))), (h2 13 0 47 (by simp [pT])).1, h47, hm, if_pos (by rfl), in_t (show l < 2304 by omega) (by omega), if_pos rfl, n_cl (by omega), (h2 62 0 l (by simp [pT])).1, ha1, nI_l (by omega), show d + 0 + 6 = d + 5 + 1 from rfl, w1, bV_s, nI_1]) k 0 t (by omega) ⟨hr', fr_r _ _⟩
        have k1' : Ref_waysFrom_L1 (d + 0 + 6) (nI k) 0 t = Ref_waysFrom_L1 (d + 0 + 6) (nI k) (nI k) v := k1
        have v47 : v.1 13 0 47 = nI 0 := by rw [(k3 13 0 47 (by simp [pT])).1, h47, hm]
        have f1 : fr (fun c _ k => c = 13 ∧ k = 47) v (wI v 13 0 47 (nI (0 + 1))) := fr_wI (fr_r _ _) ⟨rfl, rfl⟩
        refine ⟨wI v 13 0 47 (nI (0 + 1)), ?_, ?_, fun l hl => ?_, ?_, fr_wI (fr_t hf (fr_m k3 (fun c i k h => by unfold pT at h; unfold pWf; omega))) (by unfold pWf; omega)⟩
        · rw [k1', Ref_waysFrom_L1_eq, if_neg (of_eq_false (lt_f (Nat.le_refl _) (by omega))), Ref_waysFrom_J2_eq, v47, nI_1]
        · rw [wI_s1, hm]; rfl
        · rw [wI_nc (by omega), (k3 62 0 l (by simp [pT])).1]; exact (ha l hl).1
        · rw [if_pos hm]
          show rRow (wI v 13 0 47 (nI (0 + 1))) (preL a i ++ dgL 0 0)
          rw [hik, show dgL 0 0 = [] from rfl, List.append_nil]
          exact rRow_fr k2 f1 (by omega) (by omega)
      · have hn0 : ¬ nI m = 0 := of_eq_false (eq_f (b := 0) hm (by omega) (by omega))
        have f1 : fr (fun c _ k => c = 13 ∧ k = 47) t (wI t 13 0 47 (nI (m + 1))) := fr_wI (fr_r _ _) ⟨rfl, rfl⟩
        refine ⟨wI t 13 0 47 (nI (m + 1)), ?_, ?_, fun l hl => ?_, ?_, fr_wI hf (by unfold pWf; omega)⟩
        · have hJ : Ref_waysFrom_J2 (d + 0 + 6) t = some (none, wI t 13 0 47 (nI (m + 1))) := by rw [Ref_waysFrom_J2_eq, h47, nI_1]
          rw [Ref_waysFrom_L1_eq, h47, if_neg hn0, hJ]
          by_cases w : (0 : Int32) < nI k
          · rw [if_pos w]
          · rw [if_neg w]
        · rw [wI_s1]; rfl
        · rw [wI_nc (by omega)]; exact (ha l hl).1
        · rw [if_neg hm]; exact rRow_fr hr f1 (by omega) (by omega)
    · rw [if_neg (of_eq_false (eq_f z (by omega) (by omega))), decide_eq_false z]
      refine ⟨t, rfl, h47, fun l hl => (ha l hl).1, ?_, hf⟩
      by_cases hm : m = 0
      · rw [if_pos hm]
        show rRow t []
        rw [← hr0 hm]; exact hr
      · rw [if_neg hm]; exact hr
  | succ j ih =>
    intro i x m a r t hi hx h47 hb ha hr hr0 hf
    obtain ⟨P, hP⟩ : ∃ P, waP (nxP R C kd n S L p) y (j + 1) x = P := ⟨_, rfl⟩
    obtain ⟨B, hB⟩ : ∃ B, 4 ^ j = B := ⟨_, rfl⟩
    have hB4 : 4 ^ (j + 1) = 4 * B := by rw [Nat.pow_succ, hB, Nat.mul_comm]
    have hBpos : 0 < B := by rw [← hB]; exact Nat.pow_pos (by omega)
    rw [hB4] at hb
    rw [hP, hB4]
    have hcz : ∀ m, fst P m = none ↔ cnt P m = 0 := fun m => ⟨fun z => (fst_0 (fst_none z)).2, fun z => (fst_0 (cnt_zero z)).1⟩
    obtain ⟨v, k1, k2, k3, k4, k5⟩ := chainE 4 (fun w (t : xS) => Ref_waysFrom_L3 (d + (j + 1) + 6) (nI p) (nI x) (nI y) (nI i) (nI k) (nI w) t) (fun w v => v.1 13 0 47 = nI (m + cnt P (w * B)) ∧ (∀ l, l < i → v.1 62 0 l = nI (a l)) ∧ rRow v (roW P m (preL a i) (j + 1) (w * B) r) ∧ fr pWf s v) (by
      rintro w v hw ⟨h1, h2, h3, h4⟩
      have h4' : fr (fun c i k => c = 48 ∨ c = 49 ∨ (c = 13 ∧ (k = 1 ∨ k = 24 ∨ k = 25 ∨ k = 47)) ∨ c = 41 ∨ c = 62) s v := fr_m h4 (fun _ _ _ => pWf_m)
      obtain ⟨b, b1, b2⟩ := m_placeBy (d := d + j + 2) (rG_fr hG h4' (by omega) (by omega) (by omega)) (rO_fr hO h4' (by omega) (by omega)) ho (rR_fr hR h4' (by omega) (by omega)) hL hp hx hw
      have b1' : ev (d + (j + 1) + 6) f_Ref_placeBy [vR 13 0, vI (nI p), vI (nI x), vI (nI w)] v = some (some (vI (oI (nxP R C kd n S L p x w))), b) := by
        rw [show d + (j + 1) + 6 = d + j + 2 + 5 by omega]; exact b1
      have fb : fr pWf s b := fr_t h4 (fr_m b2 (fun _ _ _ => Or.inl))
      have hrb : rRow b (roW P m (preL a i) (j + 1) (w * B) r) := rRow_fr h3 b2 (by simp [pF]) (by intro k; simp [pF])
      have hsm : (w + 1) * B = w * B + B := Nat.succ_mul w B
      have hwB : w * B + B ≤ 4 * B := by rw [← hsm]; exact Nat.mul_le_mul_right B (by omega)
      have hcl := cnt_le P (w * B)
      have hcs := cnt_split P (w * B) B
      have hfs := fst_split (P := P) (w * B) B
      have hPb : ∀ c, c < B → P (w * B + c) = match nxP R C kd n S L p x w with | none => false | some z => waP (nxP R C kd n S L p) y j z c := fun c hc => by
        rw [← hP, ← hB]
        exact waP_b hw (by rw [hB]; exact hc)
      show ∃ b', Ref_waysFrom_L3 (d + (j + 1) + 6) (nI p) (nI x) (nI y) (nI i) (nI k) (nI w) v = Ref_waysFrom_L3 (d + (j + 1) + 6) (nI p) (nI x) (nI y) (nI i) (nI k) (nI (w + 1)) b' ∧ b'.1 13 0 47 = nI (m + cnt P ((w + 1) * B)) ∧ _ ∧ rRow b' (roW P m (preL a i) (j + 1) ((w + 1) * B) r) ∧ _
      rw [Ref_waysFrom_L3_eq, if_pos (show nI w < 4 from of_eq_true (lt_t (b := 4) hw (by omega))), b1', bI_s, hsm, hcs]
      cases hn : nxP R C kd n S L p x w with
      | none =>
        rw [hn] at hPb
        obtain ⟨z1, z2⟩ := fst_0 (P := fun c => P (w * B + c)) (n := B) hPb
        rw [z1] at hfs
        have hfs' : fst P (w * B + B) = fst P (w * B) := by rw [hfs]; cases fst P (w * B) <;> rfl
        refine ⟨b, ?_, ?_, fun l hl => ?_, ?_, fb⟩
        · rw [oI_n, if_pos (by decide), nI_1]
        · rw [z2, Nat.add_zero, (b2 13 0 47 (by simp [pF])).1]; exact h1
        · rw [(b2 62 0 l (by simp [pF])).1]; exact h2 l hl
        · unfold roW at hrb ⊢
          rw [hfs']; exact hrb
      | some z =>
        rw [hn] at hPb
        have hzl := nxP_lt hgo hx hw hn
        have hce : cnt (fun c => P (w * B + c)) B = cnt (waP (nxP R C kd n S L p) y j z) B := cnt_cong hPb
        have hfe : fst (fun c => P (w * B + c)) B = fst (waP (nxP R C kd n S L p) y j z) B := fst_cong hPb
        have f62 : fr (fun c _ k => c = 62 ∧ k = i) b (wI b 62 0 i (nI w)) := fr_wI (fr_r _ _) ⟨rfl, rfl⟩
        have hcl2 := cnt_le (waP (nxP R C kd n S L p) y j z) B
        obtain ⟨e, e1, e2, e3, e4, e5⟩ := ih (i + 1) z (m + cnt P (w * B)) (up a i w) (roW P m (preL a i) (j + 1) (w * B) r) (wI b 62 0 i (nI w)) (by omega) hzl (by rw [wI_nc (by omega), (b2 13 0 47 (by simp [pF])).1]; exact h1) (by rw [hB]; omega) (fun l hl => by
          by_cases q : l = i
          · rw [q, wI_s1, up_s]; exact ⟨rfl, hw⟩
          · rw [wI_nk q, up_n q, (b2 62 0 l (by simp [pF])).1]; exact ⟨h2 l (by omega), (ha l (by omega)).2⟩) (rRow_fr hrb f62 (by omega) (by omega)) (fun q => by
          have q1 : m = 0 := by omega
          have q2 : cnt P (w * B) = 0 := by omega
          unfold roW
          rw [if_pos q1, (hcz _).mpr q2]) (fr_wI fb (by unfold pWf; omega))
        rw [hB] at e2 e4
        have e1' : ev (d + (j + 1) + 6) f_Ref_waysFrom [vR 13 0, vI (nI p), vI (nI z), vI (nI y), vI (nI (i + 1)), vI (nI k)] (wI b 62 0 i (nI w)) = some (none, e) := by
          rw [show d + (j + 1) + 6 = d + j + 7 by omega]; exact e1
        refine ⟨e, ?_, ?_, fun l hl => ?_, ?_, e5⟩
        · rw [oI_s, if_neg (nI_pos (by omega)), in_t (show i < 2304 by omega) (by omega), if_pos rfl, n_cl (by omega), nI_1, e1', bV_s, nI_1]
        · rw [e2, hce, Nat.add_assoc]
        · rw [e3 l (by omega), up_n (by omega)]
        · have hgoal : roW (waP (nxP R C kd n S L p) y j z) (m + cnt P (w * B)) (preL (up a i w) (i + 1)) j B (roW P m (preL a i) (j + 1) (w * B) r) = roW P m (preL a i) (j + 1) (w * B + B) r := by
            unfold roW
            by_cases q : m = 0
            · rw [if_pos q, if_pos q, hfs, hfe]
              cases hq : fst P (w * B) with
              | some c0 =>
                have hne : ¬ m + cnt P (w * B) = 0 := fun g => by
                  have : cnt P (w * B) = 0 := by omega
                  rw [(hcz _).mpr this] at hq; cases hq
                rw [if_neg hne]
              | none =>
                have he : m + cnt P (w * B) = 0 := by rw [(hcz _).mp hq, q]
                rw [if_pos he]
                cases hq2 : fst (waP (nxP R C kd n S L p) y j z) B with
                | none => rfl
                | some c =>
                  have hcB := (fst_some hq2).1
                  show preL (up a i w) i ++ [lN (up a i w i)] ++ dgL c j = preL a i ++ dgL (w * B + c) (j + 1)
                  rw [preL_up i (Nat.le_refl _), up_s, ← hB, dgL_hi hw (by rw [hB]; exact hcB), List.append_assoc]; rfl
            · rw [if_neg q, if_neg q, if_neg (by omega)]
          rw [hgoal] at e4
          exact e4) 4 0 t (by omega) ⟨by rw [Nat.zero_mul]; exact h47, fun l hl => (ha l hl).1, by
        unfold roW
        rw [Nat.zero_mul]
        by_cases q : m = 0
        · rw [if_pos q]
          show rRow t []
          rw [← hr0 q]; exact hr
        · rw [if_neg q]; exact hr, hf⟩
    have k1' : Ref_waysFrom_L3 (d + (j + 1) + 6) (nI p) (nI x) (nI y) (nI i) (nI k) 0 t = Ref_waysFrom_L3 (d + (j + 1) + 6) (nI p) (nI x) (nI y) (nI i) (nI k) (nI 4) v := k1
    refine ⟨v, ?_, k2, k3, k4, k5⟩
    rw [Ref_waysFrom_eq, if_neg (of_eq_false (eq_f (show i ≠ k by omega) (by omega) (by omega))), k1', Ref_waysFrom_L3_eq, if_neg (by decide)]
theorem c_wr {k c m : Nat} (hk : k ≤ 5) (hc : c < 4 ^ k) (hr : cRow s []) (hm : 0 < m) (hm2 : m < 2147483648) : ∃ t, Main_ways_L2 (d + 1) (nI k) (nI m) (nI c) 0 s = some (some (vI (nI m)), t) ∧ cRow t (dgL c k) ∧ fr pN s t := by
  have hpm : (0 : Int32) < nI m := of_eq_true (lt_t (a := 0) hm hm2)
  obtain ⟨t, k1, ⟨r, k2, k3, k4⟩, k5⟩ := chainE k (fun i (t : xS) => Main_ways_L2 (d + 1) (nI k) (nI m) (nI c) (nI i) t) (fun i t => (∃ r, cRow t r ∧ r ++ dgL c (k - i) = dgL c k ∧ r.length = i) ∧ fr pN s t) (by
    rintro i t hi ⟨⟨r, h1, h2, h3⟩, h4⟩
    have hlt : c / 4 ^ (k - 1 - i) % 4 < 4 := Nat.mod_lt _ (by omega)
    obtain ⟨v, v1, v2, v3⟩ := n_add1 (d := d) (x := lN (c / 4 ^ (k - 1 - i) % 4)) h1 (by omega)
    refine ⟨v, ?_, ⟨r ++ [lN (c / 4 ^ (k - 1 - i) % 4)], v2, ?_, by rw [List.length_append, h3]; rfl⟩, fr_t h4 v3⟩
    · show Main_ways_L2 (d + 1) (nI k) (nI m) (nI c) (nI i) t = _
      rw [Main_ways_L2_eq, if_pos hpm, if_pos (of_eq_true (lt_t hi (by omega))), c_wic hc hk hi, bI_s, nI_l (by omega), v1, bV_s, nI_1]
    · rw [← h2, show k - i = k - 1 - i + 1 by omega, List.append_assoc, show k - (i + 1) = k - 1 - i by omega]; rfl) k 0 s (by omega) ⟨⟨[], hr, rfl, rfl⟩, fr_r _ _⟩
  have k1' : Main_ways_L2 (d + 1) (nI k) (nI m) (nI c) 0 s = Main_ways_L2 (d + 1) (nI k) (nI m) (nI c) (nI k) t := k1
  rw [Nat.sub_self] at k3
  have k3 : r ++ [] = dgL c k := k3
  rw [List.append_nil] at k3
  refine ⟨t, ?_, by rw [← k3]; exact k2, k5⟩
  rw [k1', Main_ways_L2_eq, if_pos hpm, if_neg (of_eq_false (lt_f (Nat.le_refl _) (by omega)))]
theorem s_ways (ha : AOk ((R, C, kd), (n, S), (L, l), (T, sg), (u, U), K, (q, sq), nh, hq)) (x y z : Int32) : GsS d f_Main_ways f_Ref_ways [vI x, vI y, vI z] ((R, C, kd), (n, S), (L, l), (T, sg), (u, U), K, (q, sq), nh, hq) k := by
  have ho := ha.2.1
  have hn : n ≤ 4 := ho.1
  have hL : wfL (ruL L) 0 := ha.2.2.1
  have hgo : gOk R C kd := ha.1
  have b36 : R * C ≤ 36 := gOk_36 hgo
  refine GsS_q ha ?_
  by_cases hc : x_in x n = true ∧ x_in y 64 = true ∧ x_in z 6 = true
  case neg =>
    refine ⟨-1, l, fun s h _ _ => ⟨s, ?_, h.2.2.2, fr_r _ _⟩, fun s h _ _ => ⟨wI s 13 0 0 0, ?_, (RQ_0 h).2.2.2.1, fr_m fr_0 (fun _ _ _ => p0_RQ)⟩⟩
    · rw [Main_ways_eq, o_has h.2.1 hn, bI_s]
      cases hx : x_in x n with
      | false => rw [if_pos (by decide)]
      | true =>
        rw [if_neg (by decide)]
        by_cases y0 : y < 0
        · rw [if_pos y0]
        · rw [if_neg y0]
          obtain ⟨m, hm, rfl⟩ := nI_of y0
          by_cases ym : m < 64
          · rw [if_neg (show ¬ (63 : Int32) < nI m from of_eq_false (lt_f (a := 63) (by omega) (by omega)))]
            by_cases z0 : z < 0
            · rw [if_pos z0]
            · rw [if_neg z0]
              obtain ⟨e, he, rfl⟩ := nI_of z0
              have hz : ¬ e < 6 := fun w => hc ⟨hx, by rw [n_in hm]; exact decide_eq_true ym, by rw [n_in he]; exact decide_eq_true w⟩
              rw [if_pos (show (5 : Int32) < nI e from of_eq_true (lt_t (a := 5) (by omega) he))]
          · rw [if_pos (show (63 : Int32) < nI m from of_eq_true (lt_t (a := 63) (by omega) hm))]
    · rw [Ref_ways_eq, m_isPram (RQ_0 h).2.1 hn, bI_s]
      cases hx : x_in x n with
      | false => rw [if_pos (by decide)]
      | true =>
        rw [if_neg (by decide), m_in0 (n := 64) _ (by decide), bI_s]
        cases hy : x_in y 64 with
        | false => rw [if_pos (by decide)]
        | true =>
          have hz : x_in z 6 = false := by
            cases e : x_in z 6 with
            | false => rfl
            | true => exact absurd ⟨hx, hy, e⟩ hc
          rw [if_neg (by decide), m_in0 (n := 6) _ (by decide), hz, bI_s, if_pos (by decide)]
  obtain ⟨hx, hy, hz⟩ := hc
  obtain ⟨p, hp, rfl⟩ := (n_in_iff (by omega)).mp hx
  obtain ⟨y, hy6, rfl⟩ := (n_in_iff (by omega)).mp hy
  obtain ⟨e, he6, rfl⟩ := (n_in_iff (by omega)).mp hz
  have m12 : (12 : Int32) + nI p = nI (12 + p) := by rw [show (12 : Int32) = nI 12 from rfl, nI_add]
  have m8 : (8 : Int32) + nI p = nI (8 + p) := by rw [nl_8, nI_add]
  have hcl : ∀ s, CQ s R C kd n S.1 S.2.1 S.2.2.1 S.2.2.2.1 S.2.2.2.2 L l → ev (d + 100) f_Main_ways [vR 0 0, vI (nI p), vI (nI y), vI (nI e)] s = if ib (S.2.2.2.1.testBit p) = 0 then (bV (ev (d + 99) f_Search_begin [vR 9 0, vI (nI p)] s) fun s5 => Main_ways_L1 (d + 99) (nI y) (nI e) 0 (-1) 0 s5) else some (some (vI (-3)), s) := fun s h => by
    rw [Main_ways_eq, o_has h.2.1 hn, hx, bI_s, if_neg (by decide), if_neg (nI_pos (by omega)), if_neg (show ¬ (63 : Int32) < nI y from of_eq_false (lt_f (a := 63) (by omega) (by omega))), if_neg (nI_pos (by omega)), if_neg (show ¬ (5 : Int32) < nI e from of_eq_false (lt_f (a := 5) (by omega) (by omega))), o_isLoose h.2.1 hn ho.2.1 hp, bI_s]
  have hml : ∀ s, RQ s R C kd n S.1 S.2.1 S.2.2.1 S.2.2.2.1 S.2.2.2.2 L l → ev (d + 100) f_Ref_ways [vR 13 0, vI (nI p), vI (nI y), vI (nI e)] s = if nI (b1 (S.2.2.2.1.testBit p)) = 1 then some (some (vI (-3)), wI s 13 0 0 0) else bV (ev (d + 99) f_Ref_waysFrom [vR 13 0, vI (nI p), vI (nI (64 * S.1 p + S.2.2.1 p)), vI (nI y), vI 0, vI (nI e)] (wI (wI (wI s 13 0 0 0) 13 0 1 0) 13 0 47 0)) fun s7 => some (some (vI (s7.1 13 0 47)), s7) := fun s h => by
    have hO := (RQ_0 h).2.1
    rw [Ref_ways_eq, m_isPram hO hn, hx, bI_s, if_neg (by decide), m_in0 (n := 64) _ (by decide), hy, bI_s, if_neg (by decide), m_in0 (n := 6) _ (by decide), hz, bI_s, if_neg (by decide), m12, in_t (show 12 + p < 17 by omega) (by omega), if_pos rfl, n_cl (by omega), (hO.2.2.1 p (by omega)).2, in_t (show p < 17 by omega) (by omega), if_pos rfl, m8, in_t (show 8 + p < 17 by omega) (by omega), if_pos rfl, n_cl (by omega), n_cl (by omega), (hO.2.1 p hp).1, (hO.2.2.1 p (by omega)).1, show (64 : Int32) = nI 64 from rfl, pk_mul, nI_add]
  cases hlo : S.2.2.2.1.testBit p with
  | true =>
    refine ⟨-3, l, fun s h _ _ => ⟨s, ?_, h.2.2.2, fr_r _ _⟩, fun s h _ _ => ⟨wI s 13 0 0 0, ?_, (RQ_0 h).2.2.2.1, fr_m fr_0 (fun _ _ _ => p0_RQ)⟩⟩
    · rw [hcl s h, hlo, if_neg (by decide)]
    · rw [hml s h, hlo, if_pos (by decide)]
  | false =>
    have hsrc := src_lt ho hp
    have hsrc : 64 * S.1 p + S.2.2.1 p < 64 * (R * C) := hsrc
    obtain ⟨x0, hx0⟩ : ∃ x0, 64 * S.1 p + S.2.2.1 p = x0 := ⟨_, rfl⟩
    obtain ⟨P, hP⟩ : ∃ P, waP (nxP R C kd n S L p) y e x0 = P := ⟨_, rfl⟩
    have h4 : 4 ^ e ≤ 4 ^ 5 := Nat.pow_le_pow_right (by omega) (by omega)
    have h4' : (4 : Nat) ^ 5 = 1024 := by decide
    have hcl4 := cnt_le P (4 ^ e)
    have hcz : fst P (4 ^ e) = none ↔ cnt P (4 ^ e) = 0 := ⟨fun z => (fst_0 (fst_none z)).2, fun z => (fst_0 (cnt_zero z)).1⟩
    rw [hx0] at hml hsrc
    refine ⟨nI (cnt P (4 ^ e)), (match fst P (4 ^ e) with | some c => dgL c e | none => []), fun s h _ _ => ?_, fun s h _ _ => ?_⟩
    · obtain ⟨a, a1, a2, a3, a4, a5⟩ := c_begin (d := d + 96) (L := L) h.1 h.2.1 ho hp
      rw [hx0] at a3
      obtain ⟨b, b1, b2⟩ := c_wl (d := d + 94) (k := e) (y := y) (cG_fr h.1 a5 (by omega) (by omega) (by omega)) (cO_fr h.2.1 a5 (by omega) (by omega) (by omega) (by omega)) ho (cR_fr h.2.2.1 a5 (by omega) (by omega)) hL hp a2 a3 a4 hsrc (by omega) hy6
      rw [hP] at b1
      obtain ⟨c, c1, c2, c3⟩ := n_clear (d := d + 98) (s := b)
      have fc : fr pCQ s c := fr_t (fr_m a5 (fun c i k z => by rcases z with rfl | ⟨rfl, _⟩ <;> simp [pCQ])) (fr_t (fr_m b2 (fun c i k z => pSp_CQ (Or.inl z))) (fr_m c3 (fun _ _ _ => pN_CQ)))
      have e0 : ev (d + 100) f_Main_ways [vR 0 0, vI (nI p), vI (nI y), vI (nI e)] s = Main_ways_L2 (d + 99) (nI e) (nI (cnt P (4 ^ e))) (match fst P (4 ^ e) with | some c => nI c | none => -1) 0 c := by
        rw [hcl s h, hlo, if_pos (by decide), a1, bV_s, b1, c1, bV_s]
        cases fst P (4 ^ e) <;> rfl
      cases hf : fst P (4 ^ e) with
      | none =>
        rw [hf] at e0
        have h0 := hcz.mp hf
        refine ⟨c, ?_, c2, fc⟩
        show ev (d + 100) f_Main_ways [vR 0 0, vI (nI p), vI (nI y), vI (nI e)] s = _
        rw [e0, h0, Main_ways_L2_eq, if_neg (by decide)]
      | some c0 =>
        rw [hf] at e0
        have hc0 := (fst_some hf).1
        have hpos : 0 < cnt P (4 ^ e) := Nat.pos_of_ne_zero (fun g => by rw [hcz.mpr g] at hf; cases hf)
        obtain ⟨t, t1, t2, t3⟩ := c_wr (d := d + 98) (k := e) (by omega) hc0 c2 hpos (by omega)
        refine ⟨t, ?_, t2, fr_t fc (fr_m t3 (fun _ _ _ => pN_CQ))⟩
        show ev (d + 100) f_Main_ways [vR 0 0, vI (nI p), vI (nI y), vI (nI e)] s = _
        rw [e0]; exact t1
    · have h0 := RQ_0 h
      obtain ⟨a, ea⟩ : ∃ a, wI (wI (wI s 13 0 0 0) 13 0 1 0) 13 0 47 0 = a := ⟨_, rfl⟩
      have fa : fr (fun c _ k => c = 13 ∧ (k = 1 ∨ k = 47)) (wI s 13 0 0 0) a := by rw [← ea]; exact fr_wI (fr_wI (fr_r _ _) (by omega)) (by omega)
      have fsa : fr pRQ s a := fr_t (fr_m fr_0 (fun _ _ _ => p0_RQ)) (fr_m fa (fun c i k z => by obtain ⟨rfl, rfl | rfl⟩ := z <;> simp [pRQ]))
      have hra : rRow a [] := ⟨by rw [← ea, wI_nk (by omega), wI_s1]; rfl, Nat.zero_le _, fun i hi => absurd hi (Nat.not_lt_zero i)⟩
      obtain ⟨v, v1, v2, v3, v4, v5⟩ := m_wf (d := d + 92 - e) (k := e) (s := a) (rG_fr h0.1 fa (by omega) (by omega) (by omega)) (rO_fr h0.2.1 fa (by omega) (by omega)) ho (rR_fr h0.2.2.1 fa (by omega) (by omega)) hL hp (by omega) hy6 e 0 x0 0 (fun _ => 0) [] a (by omega) hsrc (by rw [← ea, wI_s1]; rfl) (by omega) (fun l hl => absurd hl (Nat.not_lt_zero l)) hra (fun _ => rfl) (fr_r _ _)
      rw [show d + 92 - e + e + 7 = d + 99 by omega] at v1
      have v1' : ev (d + 99) f_Ref_waysFrom [vR 13 0, vI (nI p), vI (nI x0), vI (nI y), vI 0, vI (nI e)] a = some (none, v) := v1
      rw [hP, Nat.zero_add] at v2
      rw [hP] at v4
      refine ⟨v, ?_, v4, fr_t fsa (fr_m v5 (fun _ _ _ => pWf_RQ))⟩
      show ev (d + 100) f_Ref_ways [vR 13 0, vI (nI p), vI (nI y), vI (nI e)] s = _
      rw [hml s h, hlo, if_neg (by decide), ea, v1', bV_s, v2]
end WAYSB

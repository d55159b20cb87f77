/-! sheet; field, pram, row. -/
section SHEET
variable {d k : Nat} {R C n T u q nh : Nat} {kd : Nat → Nat} {S S' : Sn} {L : List Nat} {l l' : List Int64} {sg : Nat → Nat} {U : Nat → Sn} {K : Nat → Option Sn} {sq : Nat → Nat × Nat × Nat} {hq : Nat → Nat × Nat} {s t v : xS} {r x y : Int32}
def lo6 (x : Int32) : Nat := x.toBitVec.toNat % 64
theorem and63 (x : Int32) : x &&& 63 = nI (lo6 x) := by
  apply Int32.toBitVec_inj.mp
  apply BitVec.eq_of_toNat_eq
  rw [Int32.toBitVec_and, BitVec.toNat_and]
  show x.toBitVec.toNat &&& 63 = (BitVec.ofNat 32 (lo6 x)).toNat
  have hl : lo6 x < 2 ^ 32 := Nat.lt_of_lt_of_le (Nat.mod_lt _ (show 0 < 64 by decide)) (by decide)
  rw [BitVec.toNat_ofNat, Nat.mod_eq_of_lt hl]
  exact Nat.and_two_pow_sub_one_eq_mod x.toBitVec.toNat 6
theorem lo6_lt (x : Int32) : lo6 x < 64 := Nat.mod_lt _ (by decide)
theorem and63_8 (x : Int32) : x.toInt8.toInt32 &&& 63 = x &&& 63 := by
  apply Int32.toBitVec_inj.mp
  rw [Int32.toBitVec_and, Int32.toBitVec_and, Int8.toBitVec_toInt32, Int32.toBitVec_toInt8, show (63 : Int32).toBitVec = 63#32 from rfl]
  apply BitVec.eq_of_getLsbD_eq
  intro i hi
  rw [BitVec.getLsbD_and, BitVec.getLsbD_and]
  by_cases h : i < 6
  · congr 1
    rw [BitVec.getLsbD_signExtend, decide_eq_true (by omega), Bool.true_and, if_pos (by omega), BitVec.getLsbD_signExtend, decide_eq_true (by omega), Bool.true_and, if_pos (by omega)]
  · have : (63#32).getLsbD i = false := by
      rw [BitVec.getLsbD_ofNat, Nat.testBit_lt_two_pow (Nat.lt_of_lt_of_le (show 63 < 2 ^ 6 by decide) (Nat.pow_le_pow_right (by omega) (by omega))), Bool.and_false]
    rw [this, Bool.and_false, Bool.and_false]
theorem and63_16 (x : Int32) : x.toInt16.toInt32 &&& 63 = x &&& 63 := by
  apply Int32.toBitVec_inj.mp
  rw [Int32.toBitVec_and, Int32.toBitVec_and, Int16.toBitVec_toInt32, Int32.toBitVec_toInt16, show (63 : Int32).toBitVec = 63#32 from rfl]
  apply BitVec.eq_of_getLsbD_eq
  intro i hi
  rw [BitVec.getLsbD_and, BitVec.getLsbD_and]
  by_cases h : i < 6
  · congr 1
    rw [BitVec.getLsbD_signExtend, decide_eq_true (by omega), Bool.true_and, if_pos (by omega), BitVec.getLsbD_signExtend, decide_eq_true (by omega), Bool.true_and, if_pos (by omega)]
  · have : (63#32).getLsbD i = false := by
      rw [BitVec.getLsbD_ofNat, Nat.testBit_lt_two_pow (Nat.lt_of_lt_of_le (show 63 < 2 ^ 6 by decide) (Nat.pow_le_pow_right (by omega) (by omega))), Bool.and_false]
    rw [this, Bool.and_false, Bool.and_false]
/-- what a sheet lays for pram i -/
def shV (md : Bool) (x2 x3 x4 : Int32) (i : Nat) : Nat := bif md then 0 else if nI i < x2 then lo6 (x3 + nI i * x4) else 0
theorem shV_lt (md : Bool) (x2 x3 x4 : Int32) (i : Nat) : shV md x2 x3 x4 i < 64 := by
  unfold shV
  cases md with
  | true => exact Nat.zero_lt_succ _
  | false =>
    show (if nI i < x2 then lo6 (x3 + nI i * x4) else 0) < 64
    by_cases h : nI i < x2
    · rw [if_pos h]; exact lo6_lt _
    · rw [if_neg h]; decide
def sumI (f : Nat → Nat) : Nat → Int32
  | 0 => 0
  | k + 1 => sumI f k + nI (f k)
def shF (f : Nat → Nat) (i : Nat) (S : Sn) : Sn := (S.1, S.2.1, fun p => if p < i then f p else S.2.2.1 p, S.2.2.2)
theorem shF_0 (f : Nat → Nat) (S : Sn) : shF f 0 S = S := by
  unfold shF
  have : (fun p => if p < 0 then f p else S.2.2.1 p) = S.2.2.1 := funext (fun p => if_neg (Nat.not_lt_zero p))
  rw [this]
theorem shF_S (f : Nat → Nat) (i : Nat) (S : Sn) : up (shF f i S).2.2.1 i (f i) = (shF f (i + 1) S).2.2.1 := by
  funext p
  show (if p = i then f i else if p < i then f p else S.2.2.1 p) = if p < i + 1 then f p else S.2.2.1 p
  by_cases h : p = i
  · rw [if_pos h, if_pos (by omega), h]
  · rw [if_neg h]
    by_cases g : p < i
    · rw [if_pos g, if_pos (by omega)]
    · rw [if_neg g, if_neg (by omega)]
theorem shF_ok {f : Nat → Nat} (ho : oOkS R C kd n S) (hf : ∀ i, f i < 64) : oOkS R C kd n (shF f n S) := by
  obtain ⟨h1, h2, h3, h4⟩ := ho
  refine ⟨h1, h2, fun p hp => ?_, fun p hp hp4 => ?_⟩
  · obtain ⟨g1, g2, g3, g4⟩ := h3 p hp
    exact ⟨g1, g2, g3, by show (if p < n then f p else S.2.2.1 p) < 64; rw [if_pos hp]; exact hf p⟩
  · show (if p < n then f p else S.2.2.1 p) = 0
    rw [if_neg (by omega)]; exact h4 p hp hp4
theorem c_sheet (hO : cOS s 0 n S) (hn : n ≤ 4) (md : Bool) (x2 x3 x4 : Int32) : ∃ t, Main_sheet_L2 (d + 2) x2 x3 x4 (ib md) 0 0 s = some (some (vI (bif md then -3 else sumI (shV md x2 x3 x4) n)), t) ∧ cOS t 0 n (shF (shV md x2 x3 x4) n S) ∧ fr (fun c i _ => c = 19 ∧ i = 0) s t := by
  obtain ⟨t, k1, k2, k3⟩ := chainE n (fun i (t : xS) => Main_sheet_L2 (d + 2) x2 x3 x4 (ib md) (sumI (shV md x2 x3 x4) i) (nI i) t) (fun i t => cOS t 0 n (shF (shV md x2 x3 x4) i S) ∧ fr (fun c i _ => c = 19 ∧ i = 0) s t) (by
    rintro i t hi ⟨h1, h2⟩
    refine ⟨wI t 19 0 i (nI (shV md x2 x3 x4 i)), ?_, ?_, fr_wI h2 ⟨rfl, rfl⟩⟩
    · show Main_sheet_L2 (d + 2) x2 x3 x4 (ib md) (sumI (shV md x2 x3 x4) i) (nI i) t = Main_sheet_L2 (d + 2) x2 x3 x4 (ib md) (sumI (shV md x2 x3 x4) i + nI (shV md x2 x3 x4 i)) (nI (i + 1)) _
      have hj : ∀ m, Main_sheet_J3 (d + 2) x2 x3 x4 (ib md) (sumI (shV md x2 x3 x4) i) (nI i) (nI m) t = Main_sheet_L2 (d + 2) x2 x3 x4 (ib md) (sumI (shV md x2 x3 x4) i + nI m) (nI (i + 1)) (wI t 19 0 i (nI m)) := fun m => by
        rw [Main_sheet_J3_eq, o_setViews h1 hn hi, bV_s, nI_1]
      have h3 : t.1 3 0 3 = nI n := h1.1
      rw [Main_sheet_L2_eq, h3, if_pos (of_eq_true (lt_t hi (by omega))), and63, nl_0, hj, hj]
      unfold shV
      cases md with
      | true => exact if_neg (by decide)
      | false =>
        rw [if_pos (by decide)]
        by_cases h : nI i < x2
        · rw [if_pos h]
          show _ = Main_sheet_L2 _ _ _ _ _ (_ + nI (if nI i < x2 then lo6 (x3 + nI i * x4) else 0)) _ (wI t 19 0 i (nI (if nI i < x2 then lo6 (x3 + nI i * x4) else 0)))
          rw [if_pos h]
        · rw [if_neg h]
          show _ = Main_sheet_L2 _ _ _ _ _ (_ + nI (if nI i < x2 then lo6 (x3 + nI i * x4) else 0)) _ (wI t 19 0 i (nI (if nI i < x2 then lo6 (x3 + nI i * x4) else 0)))
          rw [if_neg h]
    · have z := cO_views (p := i) (v := shV md x2 x3 x4 i) h1
      rw [shF_S] at z
      exact z) n 0 s (by omega) ⟨by rw [shF_0]; exact hO, fr_r _ _⟩
  refine ⟨t, ?_, k2, k3⟩
  have h3 : t.1 3 0 3 = nI n := k2.1
  have k1' : Main_sheet_L2 (d + 2) x2 x3 x4 (ib md) 0 0 s = Main_sheet_L2 (d + 2) x2 x3 x4 (ib md) (sumI (shV md x2 x3 x4) n) (nI n) t := k1
  rw [k1', Main_sheet_L2_eq, h3, if_neg (of_eq_false (lt_f (Nat.le_refl _) (by omega)))]
  cases md with
  | true => exact if_neg (by decide)
  | false => exact if_pos (by decide)
theorem m_sheet (hO : rOS s 0 n S) (hn : n ≤ 4) {m : Nat} (hm : m < 4) (x2 x3 x4 : Int32) : ∃ t, Ref_sheet_L1 d (nI m) x2 x4 0 x3 0 s = some (some (vI (bif decide (m = 3) then -3 else sumI (shV (decide (m = 3)) x2 x3 x4) n)), t) ∧ rOS t 0 n (shF (shV (decide (m = 3)) x2 x3 x4) n S) ∧ fr (fun c i _ => c = 43 ∧ i = 0) s t := by
  obtain ⟨t, k1, k2, k3⟩ := chainE n (fun i (t : xS) => Ref_sheet_L1 d (nI m) x2 x4 (sumI (shV (decide (m = 3)) x2 x3 x4) i) (x3 + nI i * x4) (nI i) t) (fun i t => rOS t 0 n (shF (shV (decide (m = 3)) x2 x3 x4) i S) ∧ fr (fun c i _ => c = 43 ∧ i = 0) s t) (by
    rintro i t hi ⟨h1, h2⟩
    refine ⟨wI t 43 0 (8 + i) (nI (shV (decide (m = 3)) x2 x3 x4 i)), ?_, ?_, fr_wI h2 ⟨rfl, rfl⟩⟩
    · show Ref_sheet_L1 d (nI m) x2 x4 (sumI (shV (decide (m = 3)) x2 x3 x4) i) (x3 + nI i * x4) (nI i) t = Ref_sheet_L1 d (nI m) x2 x4 (sumI (shV (decide (m = 3)) x2 x3 x4) i + nI (shV (decide (m = 3)) x2 x3 x4 i)) (x3 + nI (i + 1) * x4) (nI (i + 1)) _
      have hx : x3 + nI i * x4 + x4 = x3 + nI (i + 1) * x4 := by
        rw [← nI_1, Int32.add_mul, Int32.one_mul, Int32.add_assoc]
      have hj : ∀ w, Ref_sheet_J3 d (nI m) x2 x4 (sumI (shV (decide (m = 3)) x2 x3 x4) i) (x3 + nI i * x4) (nI i) (nI w) (8 + nI i) t = Ref_sheet_L1 d (nI m) x2 x4 (sumI (shV (decide (m = 3)) x2 x3 x4) i + nI w) (x3 + nI (i + 1) * x4) (nI (i + 1)) (wI t 43 0 (8 + i) (nI w)) := fun w => by
        rw [Ref_sheet_J3_eq, nl_8, nI_add, in_t (show 8 + i < 17 by omega) (by omega), if_pos rfl, if_pos rfl, n_cl (by omega), wI_s1, hx, nI_1]
      have h3 : t.1 13 0 6 = nI n := h1.1
      have hj2 : ∀ w : Int32, w &&& 63 = (x3 + nI i * x4) &&& 63 → Ref_sheet_J2 d (nI m) x2 x4 (sumI (shV (decide (m = 3)) x2 x3 x4) i) (x3 + nI i * x4) (nI i) w t = Ref_sheet_L1 d (nI m) x2 x4 (sumI (shV (decide (m = 3)) x2 x3 x4) i + nI (shV (decide (m = 3)) x2 x3 x4 i)) (x3 + nI (i + 1) * x4) (nI (i + 1)) (wI t 43 0 (8 + i) (nI (shV (decide (m = 3)) x2 x3 x4 i))) := fun w hw => by
        rw [Ref_sheet_J2_eq, hw, and63, nl_0, hj, hj]
        by_cases h : m = 3
        · subst h
          exact if_pos (by decide)
        · rw [nl_3, if_neg (of_eq_false (eq_f h (by omega) (by omega)))]
          have e : shV (decide (m = 3)) x2 x3 x4 i = if nI i < x2 then lo6 (x3 + nI i * x4) else 0 := by rw [decide_eq_false h]; rfl
          by_cases g : nI i < x2
          · rw [if_pos g] at e ⊢
            rw [e]
          · rw [if_neg g] at e ⊢
            rw [e]
      rw [Ref_sheet_L1_eq, h3, if_pos (of_eq_true (lt_t hi (by omega))), hj2 _ (and63_8 _), hj2 _ (and63_16 _), hj2 _ rfl]
      by_cases a : nI m = 0
      · rw [if_pos a]
      · rw [if_neg a]
        by_cases b : nI m = 1
        · rw [if_pos b]
        · rw [if_neg b]
    · have z := rO_views (p := i) (v := shV (decide (m = 3)) x2 x3 x4 i) (show i < 4 by omega) hn h1
      rw [shF_S] at z
      exact z) n 0 s (by omega) ⟨by rw [shF_0]; exact hO, fr_r _ _⟩
  refine ⟨t, ?_, k2, k3⟩
  have h3 : t.1 13 0 6 = nI n := k2.1
  have e0 : x3 + nI 0 * x4 = x3 := by
    show x3 + 0 * x4 = x3
    rw [Int32.zero_mul, Int32.add_zero]
  have k1' : Ref_sheet_L1 d (nI m) x2 x4 0 (x3 + nI 0 * x4) 0 s = Ref_sheet_L1 d (nI m) x2 x4 (sumI (shV (decide (m = 3)) x2 x3 x4) n) (x3 + nI n * x4) (nI n) t := k1
  rw [e0] at k1'
  rw [k1', Ref_sheet_L1_eq, h3, if_neg (of_eq_false (lt_f (Nat.le_refl _) (by omega)))]
  by_cases h : m = 3
  · subst h
    exact if_pos (by decide)
  · rw [nl_3, if_neg (of_eq_false (eq_f h (by omega) (by omega))), decide_eq_false h]
    rfl
theorem s_sheet (ha : AOk ((R, C, kd), (n, S), (L, l), (T, sg), (u, U), K, (q, sq), nh, hq)) (x1 x2 x3 x4 : Int32) : GsS d f_Main_sheet f_Ref_sheet [vI x1, vI x2, vI x3, vI x4] ((R, C, kd), (n, S), (L, l), (T, sg), (u, U), K, (q, sq), nh, hq) k := by
  have ho : oOkS R C kd n S := ha.2.1
  have hn : n ≤ 4 := ho.1
  cases hx : x_in x1 4 with
  | false =>
    refine ⟨-1, _, ha, fun s hs => ?_, fun s hs => ?_⟩
    · refine ⟨s, ?_, hs, fr_r _ _⟩
      rw [Main_sheet_eq]
      by_cases z1 : x1 < 0
      · rw [if_pos z1]
      rw [if_neg z1]
      obtain ⟨a, ha', rfl⟩ := nI_of z1
      rw [n_in (by omega), decide_eq_false_iff_not] at hx
      rw [nl_3, if_pos (of_eq_true (lt_t (by omega) (by omega)))]
    · refine ⟨wI s 13 0 0 0, ?_, RI_0 hn hs⟩
      rw [Ref_sheet_eq, m_in0 (n := 4) _ (by decide), hx, bI_s, if_pos (by decide)]
  | true =>
    obtain ⟨m, hm, rfl⟩ := (n_in_iff (by omega)).mp hx
    by_cases h4 : 4 < x2
    · refine ⟨-1, _, ha, fun s hs => ?_, fun s hs => ?_⟩
      · refine ⟨s, ?_, hs, fr_r _ _⟩
        rw [Main_sheet_eq, if_neg (nI_pos (by omega)), nl_3, if_neg (of_eq_false (lt_f (by omega) (by omega))), if_pos h4]
      · refine ⟨wI s 13 0 0 0, ?_, RI_0 hn hs⟩
        rw [Ref_sheet_eq, m_in0 (n := 4) _ (by decide), hx, bI_s, if_neg (by decide), if_pos h4]
    · by_cases h2 : ¬ m = 3 ∧ x2 < 0
      · refine ⟨-2, _, ha, fun s hs => ?_, fun s hs => ?_⟩
        · refine ⟨s, ?_, hs, fr_r _ _⟩
          rw [Main_sheet_eq, if_neg (nI_pos (by omega)), if_neg (show ¬ (3 : Int32) < nI m from of_eq_false (lt_f (a := 3) (by omega) (by decide))), if_neg h4, if_neg (show ¬ nI m = 3 from of_eq_false (eq_f (b := 3) h2.1 (by omega) (by omega))), Main_sheet_J1_eq, if_pos rfl, if_pos h2.2]
        · refine ⟨wI s 13 0 0 0, ?_, RI_0 hn hs⟩
          rw [Ref_sheet_eq, m_in0 (n := 4) _ (by decide), hx, bI_s, if_neg (by decide), if_neg h4, if_neg (show ¬ nI m = 3 from of_eq_false (eq_f (b := 3) h2.1 (by omega) (by omega))), if_pos h2.2]
      · refine ⟨bif decide (m = 3) then -3 else sumI (shV (decide (m = 3)) x2 x3 x4) n, ((R, C, kd), (n, shF (shV (decide (m = 3)) x2 x3 x4) n S), (L, l), (T, sg), (u, U), K, (q, sq), nh, hq), ⟨ha.1, shF_ok ho (fun i => shV_lt _ _ _ _ i), ha.2.2.1, ha.2.2.2.1, ha.2.2.2.2.1, ha.2.2.2.2.2.1, ha.2.2.2.2.2.2.1, ha.2.2.2.2.2.2.2⟩, fun s hs => ?_, fun s hs => ?_⟩
        · obtain ⟨t, e1, e2, e3⟩ := c_sheet (d := d + 97) (md := decide (m = 3)) (x2 := x2) (x3 := x3) (x4 := x4) hs.2.1 hn
          have f9 : fr pBC s t := fr_m e3 (fun c i k h => by obtain ⟨rfl, _⟩ := h; simp [pBC])
          refine ⟨t, ?_, CI_gen hs f9 e2 (cRow_fr hs.2.2.2.1 e3 (by omega) (by omega)) (cU_fr hs.2.2.2.2.2.1 e3 (by omega) (by omega) (by omega)), fr_m f9 (fun _ _ _ => pBC_cls)⟩
          rw [Main_sheet_eq, if_neg (nI_pos (by omega)), if_neg (show ¬ (3 : Int32) < nI m from of_eq_false (lt_f (a := 3) (by omega) (by decide))), if_neg h4]
          by_cases h : m = 3
          · rw [decide_eq_true h] at e1
            rw [if_pos (show nI m = 3 by rw [h]; decide), Main_sheet_J1_eq, if_neg (by decide), decide_eq_true h]
            exact e1
          · rw [decide_eq_false h] at e1
            rw [if_neg (show ¬ nI m = 3 from of_eq_false (eq_f (b := 3) h (by omega) (by omega))), Main_sheet_J1_eq, if_pos rfl, if_neg (fun z => h2 ⟨h, z⟩), decide_eq_false h]
            exact e1
        · have hO0 : rOS (wI s 13 0 0 0) 0 n S := rO_fr hs.2.1 (fr_0 (s := s)) (by simp [p0]) (by intro k; simp [p0])
          obtain ⟨t, e1, e2, e3⟩ := m_sheet (d := d + 99) (x2 := x2) (x3 := x3) (x4 := x4) hO0 hn hm
          have f9 : fr pBR s t := fr_t (fr_wI (fr_r _ _) (by simp [pBR, pRQ])) (fr_m e3 (fun c i k h => by obtain ⟨rfl, _⟩ := h; simp [pBR]))
          have f8 : fr (fun c _ k => c = 43 ∨ (c = 13 ∧ k = 0)) s t := fr_t (fr_wI (fr_r _ _) (by omega)) (fr_m e3 (by omega))
          refine ⟨t, ?_, RI_gen hn hs f9 e2 (rRow_fr hs.2.2.2.1 f8 (by omega) (by omega)) (rU_fr hn hs.2.2.2.2.2.2.1 f8 (by omega) (by omega)), fr_m f9 (fun _ _ _ => pBR_ref)⟩
          rw [Ref_sheet_eq, m_in0 (n := 4) _ (by decide), hx, bI_s, if_neg (by decide), if_neg h4, e1]
          by_cases h : m = 3
          · rw [if_pos (show nI m = 3 by rw [h]; decide)]
          · rw [if_neg (show ¬ nI m = 3 from of_eq_false (eq_f (b := 3) h (by omega) (by omega))), if_neg (fun z => h2 ⟨h, z⟩)]
end SHEET

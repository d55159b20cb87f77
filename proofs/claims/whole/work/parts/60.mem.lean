/-! Outings packed and unpacked; what can be undone, what is kept: the class's side. -/
section MEM
variable {d i j n p w R C : Nat} {kd : Nat → Nat} {s : xS} {L : List Nat} {S : Sn} {x y : Int32}
theorem cpI_n {c i sp c2 i2 dp m c' i' k' : Nat} (h : c' ≠ c2) : (x_cpI s c i sp c2 i2 dp m).1 c' i' k' = s.1 c' i' k' := if_neg (fun z => h z.1)
theorem cpI_i {c i sp c2 i2 dp m k : Nat} (h : dp ≤ k ∧ k < dp + m) : (x_cpI s c i sp c2 i2 dp m).1 c2 i2 k = s.1 c i (sp + (k - dp)) := if_pos ⟨rfl, rfl, h⟩
theorem cpL_n {c i sp c2 i2 dp m c' i' k' : Nat} (h : c' ≠ c2) : (x_cpL s c i sp c2 i2 dp m).2 c' i' k' = s.2 c' i' k' := if_neg (fun z => h z.1)
theorem cpL_i {c i sp c2 i2 dp m k : Nat} (h : dp ≤ k ∧ k < dp + m) : (x_cpL s c i sp c2 i2 dp m).2 c2 i2 k = s.2 c i (sp + (k - dp)) := if_pos ⟨rfl, rfl, h⟩
theorem cpI_2 {c i sp c2 i2 dp m : Nat} : (x_cpI s c i sp c2 i2 dp m).2 = s.2 := rfl
theorem cpL_1 {c i sp c2 i2 dp m : Nat} : (x_cpL s c i sp c2 i2 dp m).1 = s.1 := rfl
theorem cp_20 : ev (d + 8) 1002 [vR 20 0, vI 1, vR 20 0, vI 0, vI 14] s = some (none, x_cpL s 20 0 1 20 0 0 14) :=
  x_bg_some.mpr ⟨by omega, by
    show (if (0 : Int32) ≤ 1 ∧ (0 : Int32) ≤ 0 ∧ (0 : Int32) ≤ 14 ∧ (1 : Int32).toNatClampNeg + (14 : Int32).toNatClampNeg ≤ 15 ∧ (0 : Int32).toNatClampNeg + (14 : Int32).toNatClampNeg ≤ 15 then some (none, x_cpL s 20 0 (1 : Int32).toNatClampNeg 20 0 (0 : Int32).toNatClampNeg (14 : Int32).toNatClampNeg) else none) = _
    rw [if_pos (by decide)]; rfl⟩
theorem cp_21 : ev (d + 8) 1002 [vR 21 0, vI 1, vR 21 0, vI 0, vI 14] s = some (none, x_cpI s 21 0 1 21 0 0 14) :=
  x_bg_some.mpr ⟨by omega, by
    show (if (0 : Int32) ≤ 1 ∧ (0 : Int32) ≤ 0 ∧ (0 : Int32) ≤ 14 ∧ (1 : Int32).toNatClampNeg + (14 : Int32).toNatClampNeg ≤ 15 ∧ (0 : Int32).toNatClampNeg + (14 : Int32).toNatClampNeg ≤ 15 then some (none, x_cpI s 21 0 (1 : Int32).toNatClampNeg 21 0 (0 : Int32).toNatClampNeg (14 : Int32).toNatClampNeg) else none) = _
    rw [if_pos (by decide)]; rfl⟩
theorem cp_34 : ev (d + 8) 1002 [vR 34 0, vI 0, vR 33 0, vI 0, vI 36] s = some (none, x_cpI s 34 0 0 33 0 0 36) :=
  x_bg_some.mpr ⟨by omega, by
    show (if (0 : Int32) ≤ 0 ∧ (0 : Int32) ≤ 0 ∧ (0 : Int32) ≤ 36 ∧ (0 : Int32).toNatClampNeg + (36 : Int32).toNatClampNeg ≤ 36 ∧ (0 : Int32).toNatClampNeg + (36 : Int32).toNatClampNeg ≤ 36 then some (none, x_cpI s 34 0 (0 : Int32).toNatClampNeg 33 0 (0 : Int32).toNatClampNeg (36 : Int32).toNatClampNeg) else none) = _
    rw [if_pos (by decide)]; rfl⟩
theorem cp_24 : ev (d + 8) 1002 [vR 24 1, vI 0, vR 24 0, vI 0, vI 40] s = some (none, x_cpI s 24 1 0 24 0 0 40) :=
  x_bg_some.mpr ⟨by omega, by
    show (if (0 : Int32) ≤ 0 ∧ (0 : Int32) ≤ 0 ∧ (0 : Int32) ≤ 40 ∧ (0 : Int32).toNatClampNeg + (40 : Int32).toNatClampNeg ≤ 40 ∧ (0 : Int32).toNatClampNeg + (40 : Int32).toNatClampNeg ≤ 40 then some (none, x_cpI s 24 1 (0 : Int32).toNatClampNeg 24 0 (0 : Int32).toNatClampNeg (40 : Int32).toNatClampNeg) else none) = _
    rw [if_pos (by decide)]; rfl⟩
def onP (S : Sn) (p : Nat) : Nat := S.1 p * 512 + S.2.1 p * 128 + S.2.2.1 p * 2 + b1 (S.2.2.2.1.testBit p)
def pkF (one : Nat → Nat) : Nat → Nat → Nat
  | _, 0 => 0
  | j, m + 1 => pkF one (j + 1) m * 32768 + one j
def pck (n : Nat) (S : Sn) : Nat := pkF (onP S) 0 n
theorem b1_le (b : Bool) : b1 b ≤ 1 := by cases b <;> decide
theorem onP_lt (hG : gOk R C kd) (ho : oOkS R C kd n S) (hp : p < n) : onP S p < 32768 := by
  have b36 := gOk_36 hG
  obtain ⟨h1, _, h2, h3⟩ := ho.2.2.1 p hp
  have := b1_le (S.2.2.2.1.testBit p)
  unfold onP; omega
theorem pkF_lt {one : Nat → Nat} : ∀ m j, (∀ p, j ≤ p → p < j + m → one p < 32768) → pkF one j m < 32768 ^ m
  | 0, j, _ => by show 0 < 1; omega
  | m + 1, j, h => by
    have a := pkF_lt (one := one) m (j + 1) (fun p h1 h2 => h p (by omega) (by omega))
    have b := h j (Nat.le_refl _) (by omega)
    show pkF one (j + 1) m * 32768 + one j < 32768 ^ m * 32768
    omega
theorem pow4 : ∀ m, m ≤ 4 → 32768 ^ m ≤ 1152921504606846976 := by
  intro m hm
  match m, hm with
  | 0, _ => decide
  | 1, _ => decide
  | 2, _ => decide
  | 3, _ => decide
  | 4, _ => decide
theorem one_chk : ((List.range 36).all fun f => (List.range 4).all fun w => (List.range 64).all fun v => (List.range 2).all fun b => decide (((f * 512 ||| w * 128) ||| v * 2) ||| b = f * 512 + w * 128 + v * 2 + b)) = true := by decide +kernel
theorem one_or {f w v b : Nat} (hf : f < 36) (hw : w < 4) (hv : v < 64) (hb : b < 2) : ((f * 512 ||| w * 128) ||| v * 2) ||| b = f * 512 + w * 128 + v * 2 + b := of_decide_eq_true (all_r (all_r (all_r (all_r one_chk hf) hw) hv) hb)
theorem o_packed (hG : gOk R C kd) (hO : cOS s i n S) (ho : oOkS R C kd n S) : ev (d + 3) f_Outing_packed [vR 3 i] s = some (some (vL (lN (pck n S))), s) := by
  have hn := ho.1
  have b36 := gOk_36 hG
  have l16 := lo_16 hn ho.2.1
  rw [Outing_packed_eq, hO.1]
  have key : ∀ k, k ≤ n → Outing_packed_L1 (d + 2) i (lN (pkF (onP S) k (n - k))) (nI k - 1) s = some (some (vL (lN (pck n S))), s) := by
    intro k
    induction k with
    | zero =>
      intro _
      rw [Outing_packed_L1_eq, if_pos (show nI 0 - 1 < 0 by decide)]; rfl
    | succ k ih =>
      intro hk
      have hkn : k < n := by omega
      obtain ⟨h1, _, h2, h3⟩ := ho.2.2.1 k hkn
      have hb := b1_le (S.2.2.2.1.testBit k)
      have hlt := pkF_lt (one := onP S) (n - (k + 1)) (k + 1) (fun p q1 q2 => onP_lt hG ho (by omega))
      have h4 := pow4 (n - (k + 1)) (by omega)
      have hpk : pkF (onP S) k (n - k) = pkF (onP S) (k + 1) (n - (k + 1)) * 32768 + onP S k := by
        rw [show n - k = (n - (k + 1)) + 1 by omega]; rfl
      have h3b : pkF (onP S) (k + 1) (n - (k + 1)) < 35184372088832 := by
        have : 32768 ^ (n - (k + 1)) ≤ 35184372088832 := by
          have q : n - (k + 1) ≤ 3 := by omega
          generalize n - (k + 1) = e at q ⊢
          match e, q with
          | 0, _ => decide
          | 1, _ => decide
          | 2, _ => decide
          | 3, _ => decide
        omega
      have ho1 := onP_lt hG ho hkn
      rw [show nI (k + 1) - 1 = nI k from nI_pred k, Outing_packed_L1_eq, if_neg (nI_pos (by omega)), o_fieldOf hO hn hkn, bI_s, o_wayOf hO hn hkn, bI_s, o_viewsOf hO hn hkn, bI_s, hO.2.1, j_bit (by omega) (by omega)]
      have e1 : jshl (nI (S.1 k)) 9 = nI (S.1 k * 512) := j_shl (j := 9) (by omega) (by omega)
      have e2 : jshl (nI (S.2.1 k)) 7 = nI (S.2.1 k * 128) := j_shl (j := 7) (by omega) (by omega)
      have e3 : jshl (nI (S.2.2.1 k)) 1 = nI (S.2.2.1 k * 2) := j_shl (j := 1) (by omega) (by omega)
      rw [e1, e2, e3, fa_or, fa_or, fa_or]
      have e4 : ((S.1 k * 512 ||| S.2.1 k * 128) ||| S.2.2.1 k * 2) ||| (bif S.2.2.2.1.testBit k then 1 else 0) = onP S k := one_or (by omega) h2 h3 (b := b1 (S.2.2.2.1.testBit k)) (by omega)
      have e5 : jlshl (lN (pkF (onP S) (k + 1) (n - (k + 1)))) 15 = lN (pkF (onP S) (k + 1) (n - (k + 1)) * 32768) := wb_shl _ (k := 15) (by omega)
      rw [e4, e5, nI_l (by omega), g_or (k := 15) (p := 32768) (by decide) ho1 (by omega), ← hpk]
      have e6 : nI k + (-1) = nI k - 1 := by rw [Int32.sub_eq_add_neg]
      rw [e6]
      exact ih (by omega)
  have := key n (Nat.le_refl _)
  rw [Nat.sub_self] at this
  exact this
/-- back again -/
def pU (i c j k : Nat) : Prop := ((c = 17 ∨ c = 18 ∨ c = 19) ∧ j = i) ∨ (c = 3 ∧ j = i ∧ (k = 4 ∨ k = 5))
theorem lo_chk : ((List.range 16).all fun lo => (List.range 4).all fun p => decide (setb (lo % 2 ^ p) p (lo.testBit p) = lo % 2 ^ (p + 1))) = true := by decide +kernel
theorem o_unpack {S : Sn} (hG : gOk R C kd) (hs : s.1 3 i 3 = nI n) (ho : oOkS R C kd n S) : ∃ u, ev (d + 3) f_Outing_unpack [vR 3 i, vL (lN (pck n S)), vI S.2.2.2.2] s = some (none, u) ∧ cOS u i n S ∧ fr (pU i) s u := by
  have hn := ho.1
  have b36 := gOk_36 hG
  have l16 := lo_16 hn ho.2.1
  rw [Outing_unpack_eq]
  have f0 : fr (pU i) s (wI (wI s 3 i 5 S.2.2.2.2) 3 i 4 0) := fr_wI (fr_wI (fr_r _ _) (by unfold pU; omega)) (by unfold pU; omega)
  obtain ⟨u, k1, k2, k3, k4, k5, k6⟩ := chainE n (fun p (t : xS) => Outing_unpack_L1 (d + 2) i (lN (pkF (onP S) p (n - p))) (nI p) t) (fun p t => t.1 3 i 3 = nI n ∧ t.1 3 i 4 = nI (S.2.2.2.1 % 2 ^ p) ∧ t.1 3 i 5 = S.2.2.2.2 ∧ (∀ q, q < p → t.1 17 i q = nI (S.1 q) ∧ t.1 18 i q = nI (S.2.1 q) ∧ t.1 19 i q = nI (S.2.2.1 q)) ∧ fr (pU i) s t) (by
    rintro p t hp ⟨h1, h2, h3, h4, h5⟩
    obtain ⟨g1, _, g2, g3⟩ := ho.2.2.1 p hp
    have hb := b1_le (S.2.2.2.1.testBit p)
    have ho1 := onP_lt hG ho hp
    have hon : onP S p = S.1 p * 512 + S.2.1 p * 128 + S.2.2.1 p * 2 + b1 (S.2.2.2.1.testBit p) := rfl
    have hpk : pkF (onP S) p (n - p) = pkF (onP S) (p + 1) (n - (p + 1)) * 32768 + onP S p := by
      rw [show n - p = (n - (p + 1)) + 1 by omega]; rfl
    have hlt := pkF_lt (one := onP S) (n - p) p (fun q q1 q2 => onP_lt hG ho (by omega))
    have h60 := pow4 (n - p) (by omega)
    have em : pkF (onP S) p (n - p) % 32768 = onP S p := by rw [hpk]; omega
    have ed : pkF (onP S) p (n - p) / 32768 = pkF (onP S) (p + 1) (n - (p + 1)) := by rw [hpk]; omega
    have e1 : (lN (pkF (onP S) p (n - p)) &&& 32767).toInt32 = nI (onP S p) := by
      have : lN (pkF (onP S) p (n - p)) &&& lN (32768 - 1) = lN (pkF (onP S) p (n - p) % 32768) := g_mask (s := 15) (by decide) (by omega) (by omega)
      have this : lN (pkF (onP S) p (n - p)) &&& 32767 = lN (pkF (onP S) p (n - p) % 32768) := this
      rw [this, em, lN_i]
    have hlm : S.2.2.2.1 % 2 ^ p < 16 := Nat.lt_of_le_of_lt (Nat.mod_le _ _) l16
    have hp2 := p2_16 (show p < 4 by omega)
    have hx : x_in (nI p) n = true := in_t hp (by omega)
    have s9 : jshr (nI (onP S p)) 9 = nI (S.1 p) := by
      have : jshr (nI (onP S p)) (nI 9) = nI (onP S p / 2 ^ 9) := j_shr (by omega) (by omega)
      rw [show onP S p / 2 ^ 9 = S.1 p by omega] at this; exact this
    have s7 : jshr (nI (onP S p)) 7 &&& 3 = nI (S.2.1 p) := by
      have : jshr (nI (onP S p)) (nI 7) = nI (onP S p / 2 ^ 7) := j_shr (by omega) (by omega)
      have this : jshr (nI (onP S p)) 7 = nI (onP S p / 2 ^ 7) := this
      rw [this, n_and3 (by omega), show onP S p / 2 ^ 7 % 4 = S.2.1 p by omega]
    have s1 : jshr (nI (onP S p)) 1 &&& 63 = nI (S.2.2.1 p) := by
      have : jshr (nI (onP S p)) (nI 1) = nI (onP S p / 2 ^ 1) := j_shr (by omega) (by omega)
      have this : jshr (nI (onP S p)) 1 = nI (onP S p / 2 ^ 1) := this
      rw [this, n_and63 (by omega), show onP S p / 2 ^ 1 % 64 = S.2.2.1 p by omega]
    have s0 : nI (onP S p) &&& 1 = nI (b1 (S.2.2.2.1.testBit p)) := by rw [n_and1 (by omega), show onP S p % 2 = b1 (S.2.2.2.1.testBit p) by omega]
    have sr : jlshr (lN (pkF (onP S) p (n - p))) 15 = lN (pkF (onP S) (p + 1) (n - (p + 1))) := by
      have : jlshr (lN (pkF (onP S) p (n - p))) (nI 15) = lN (pkF (onP S) p (n - p) / 2 ^ 15) := by
        unfold jlshr
        rw [wb_c 15 (by omega)]
        refine pf_shr ?_ (by omega)
        rw [wb_tb, wb_sm 15 (by omega), BitVec.toNat_ofNat]
      rw [show pkF (onP S) p (n - p) / 2 ^ 15 = pkF (onP S) (p + 1) (n - (p + 1)) by omega] at this; exact this
    show ∃ b, Outing_unpack_L1 (d + 2) i (lN (pkF (onP S) p (n - p))) (nI p) t = Outing_unpack_L1 (d + 2) i (lN (pkF (onP S) (p + 1) (n - (p + 1)))) (nI (p + 1)) b ∧ _
    rw [Outing_unpack_L1_eq, h1, if_pos (of_eq_true (lt_t hp (by omega))), e1, s9, s7, s1, s0, Outing_place_eq, out_has h1 hn, hx, bI_s, if_neg (by decide), in_t (show p < 4 by omega) (by omega), if_pos rfl, if_pos rfl, bV_s, n_cl (by omega), Outing_setViews_eq, out_has (by rw [wI_nc (by omega), wI_nc (by omega)]; exact h1) hn, hx, bI_s, if_neg (by decide), in_t (show p < 4 by omega) (by omega), if_pos rfl, bV_s, n_cl (by omega)]
    have j2 : ∀ (b : Bool) (t' : xS), t'.1 3 i 3 = nI n → t'.1 3 i 4 = nI (S.2.2.2.1 % 2 ^ p) → Outing_unpack_J2 (d + 2) i (lN (pkF (onP S) p (n - p))) (nI p) (ib b) (nI p) i t' = Outing_unpack_L1 (d + 2) i (lN (pkF (onP S) (p + 1) (n - (p + 1)))) (nI (p + 1)) (wI t' 3 i 4 (nI (setb (S.2.2.2.1 % 2 ^ p) p b))) := by
      intro b t' q1 q2
      rw [Outing_unpack_J2_eq, Outing_setLoose_eq, out_has q1 hn, hx, bI_s, if_neg (by decide), q2, j_1shl (by omega), sr, nI_1]
      cases b with
      | true => rw [if_neg (by decide), fa_or, bV_s]; rfl
      | false => rw [if_pos (by decide), n_an (by omega) (by omega), bV_s]; rfl
    have hlo := of_decide_eq_true (all_r (all_r lo_chk l16) (show p < 4 by omega))
    have fin : ∃ b, Outing_unpack_J2 (d + 2) i (lN (pkF (onP S) p (n - p))) (nI p) (ib (S.2.2.2.1.testBit p)) (nI p) i (wI (wI (wI t 17 i p (nI (S.1 p))) 18 i p (nI (S.2.1 p))) 19 i p (nI (S.2.2.1 p))) = Outing_unpack_L1 (d + 2) i (lN (pkF (onP S) (p + 1) (n - (p + 1)))) (nI (p + 1)) b ∧ b.1 3 i 3 = nI n ∧ b.1 3 i 4 = nI (S.2.2.2.1 % 2 ^ (p + 1)) ∧ b.1 3 i 5 = S.2.2.2.2 ∧ (∀ q, q < p + 1 → b.1 17 i q = nI (S.1 q) ∧ b.1 18 i q = nI (S.2.1 q) ∧ b.1 19 i q = nI (S.2.2.1 q)) ∧ fr (pU i) s b := by
      rw [j2 _ _ (by rw [wI_nc (by omega), wI_nc (by omega), wI_nc (by omega)]; exact h1) (by rw [wI_nc (by omega), wI_nc (by omega), wI_nc (by omega)]; exact h2)]
      refine ⟨_, rfl, ?_, ?_, ?_, fun q hq => ?_, fr_wI (fr_wI (fr_wI (fr_wI h5 (by unfold pU; omega)) (by unfold pU; omega)) (by unfold pU; omega)) (by unfold pU; omega)⟩
      · rw [wI_nk (by omega), wI_nc (by omega), wI_nc (by omega), wI_nc (by omega)]; exact h1
      · rw [wI_s1, hlo]
      · rw [wI_nk (by omega), wI_nc (by omega), wI_nc (by omega), wI_nc (by omega)]; exact h3
      · by_cases e : q = p
        · subst e
          refine ⟨?_, ?_, ?_⟩
          · rw [wI_nc (by omega), wI_nc (by omega), wI_nc (by omega), wI_s1]
          · rw [wI_nc (by omega), wI_nc (by omega), wI_s1]
          · rw [wI_nc (by omega), wI_s1]
        · obtain ⟨a1, a2, a3⟩ := h4 q (by omega)
          refine ⟨?_, ?_, ?_⟩
          · rw [wI_nc (by omega), wI_nc (by omega), wI_nc (by omega), wI_nk e]; exact a1
          · rw [wI_nc (by omega), wI_nc (by omega), wI_nk e, wI_nc (by omega)]; exact a2
          · rw [wI_nc (by omega), wI_nk e, wI_nc (by omega), wI_nc (by omega)]; exact a3
    cases hbit : S.2.2.2.1.testBit p with
    | true => rw [hbit] at fin; rw [if_pos (show nI (b1 true) = 1 from rfl)]; exact fin
    | false => rw [hbit] at fin; rw [if_neg (show ¬ nI (b1 false) = 1 by decide)]; exact fin) n 0 (wI (wI s 3 i 5 S.2.2.2.2) 3 i 4 0) (by omega) ⟨by rw [wI_nk (by omega), wI_nk (by omega)]; exact hs, by rw [wI_s1, Nat.pow_zero, Nat.mod_one]; rfl, by rw [wI_nk (by omega), wI_s1], fun q hq => by omega, f0⟩
  refine ⟨u, ?_, ⟨k2, ?_, k4, k5⟩, k6⟩
  · refine Eq.trans k1 ?_
    show Outing_unpack_L1 _ _ _ _ _ = _
    rw [Outing_unpack_L1_eq, k2, if_neg (of_eq_false (lt_f (Nat.le_refl _) (by omega)))]
  · rw [k3, Nat.mod_eq_of_lt ho.2.1]
/-- what can be undone -/
def cU (s : xS) (n u : Nat) (U : Nat → Sn) : Prop := s.1 4 0 4 = nI u ∧ u ≤ 15 ∧ ∀ i, i < u → s.2 20 0 i = lN (pck n (U i)) ∧ s.1 21 0 i = (U i).2.2.2.2
theorem cU_fr {p : Nat → Nat → Nat → Prop} {s t : xS} {n u : Nat} {U : Nat → Sn} (h : cU s n u U) (g : fr p s t) (h1 : ¬ p 4 0 4) (h2 : ∀ k, ¬ p 20 0 k) (h3 : ∀ k, ¬ p 21 0 k) : cU t n u U :=
  ⟨by rw [(g _ _ _ h1).1]; exact h.1, h.2.1, fun i hi => by rw [(g _ _ _ (h2 _)).2, (g _ _ _ (h3 _)).1]; exact h.2.2 i hi⟩
def addU (u : Nat) (U : Nat → Sn) (S : Sn) : Nat × (Nat → Sn) := if u = 15 then (15, fun i => if i = 14 then S else U (i + 1)) else (u + 1, up U u S)
def pM (c _i k : Nat) : Prop := c = 20 ∨ c = 21 ∨ (c = 4 ∧ (k = 4 ∨ k = 6 ∨ k = 7))
theorem c_mark (hG : gOk R C kd) (hO : cOS s i n S) (ho : oOkS R C kd n S) : ev (d + 4) f_Memory_mark [vR 4 0, vR 3 i] s = some (none, wI (wL s 4 0 6 (lN (pck n S))) 4 0 7 S.2.2.2.2) := by
  rw [Memory_mark_eq, o_packed hG hO ho, bL_s, hO.2.2.1]
theorem c_addJ {u : Nat} (h : s.1 4 0 4 = nI u) (hu : u < 15) : Memory_addMarked_J1 d s = some (none, wI (wI (wL s 20 0 u (s.2 4 0 6)) 21 0 u (s.1 4 0 7)) 4 0 4 (nI (u + 1))) := by
  rw [Memory_addMarked_J1_eq, h, in_t hu (by omega), if_pos rfl, if_pos rfl, n_cl (by omega), nI_1]
theorem c_addMarked {u : Nat} {U : Nat → Sn} (hU : cU s n u U) (h6 : s.2 4 0 6 = lN (pck n S)) (h7 : s.1 4 0 7 = S.2.2.2.2) : ∃ t, ev (d + 9) f_Memory_addMarked [vR 4 0] s = some (none, t) ∧ cU t n (addU u U S).1 (addU u U S).2 ∧ fr pM s t := by
  rw [Memory_addMarked_eq, hU.1, nl_15]
  unfold addU
  by_cases e : u = 15
  · subst e
    rw [if_pos rfl, cp_20, bV_s, cp_21, bV_s, if_pos rfl]
    have f1 : fr pM s (x_cpI (x_cpL s 20 0 1 20 0 0 14) 21 0 1 21 0 0 14) := by
      intro c i k hp
      refine ⟨?_, ?_⟩
      · rw [cpI_n (fun z => hp (by unfold pM; omega)), cpL_1]
      · rw [cpI_2, cpL_n (fun z => hp (by unfold pM; omega))]
    have e4 : (x_cpI (x_cpL s 20 0 1 20 0 0 14) 21 0 1 21 0 0 14).1 4 0 4 = nI 15 := by
      rw [cpI_n (by omega), cpL_1]; exact hU.1
    rw [e4, show nI 15 - 1 = nI 14 from nI_pred 14, c_addJ (u := 14) (wI_s1 _ _ _ _ _) (by omega)]
    refine ⟨_, rfl, ⟨by rw [wI_s1], by omega, fun i hi => ?_⟩, fr_wI (fr_wI (fr_wL (fr_wI f1 (by unfold pM; omega)) (by unfold pM; omega)) (by unfold pM; omega)) (by unfold pM; omega)⟩
    have hi : i < 15 := hi
    dsimp only
    by_cases ei : i = 14
    · subst ei
      rw [if_pos rfl, wI_s2, wI_s2, wL_s2, wI_nc (by omega), wI_s1, wI_s2, wI_nk (by omega)]
      refine ⟨?_, ?_⟩
      · rw [cpI_2, cpL_n (by omega)]; exact h6
      · rw [cpI_n (by omega), cpL_1]; exact h7
    · rw [if_neg ei, wI_s2, wI_s2, wL_get, if_neg (fun z => ei z.2.1), wI_nc (by omega), wI_nk ei, wL_s1, wI_s2, wI_nc (by omega)]
      have g := hU.2.2 (i + 1) (by omega)
      refine ⟨?_, ?_⟩
      · rw [cpI_2, cpL_i (by omega), show 1 + (i - 0) = i + 1 by omega]; exact g.1
      · rw [cpI_i (by omega), show 1 + (i - 0) = i + 1 by omega, cpL_1]; exact g.2
  · have hu := hU.2.1
    rw [if_neg (of_eq_false (eq_f e (by omega) (by omega))), c_addJ hU.1 (by omega), if_neg e, h6, h7]
    refine ⟨_, rfl, ⟨by rw [wI_s1], by omega, fun i hi => ?_⟩, fr_wI (fr_wI (fr_wL (fr_r _ _) (by unfold pM; omega)) (by unfold pM; omega)) (by unfold pM; omega)⟩
    have hi : i < u + 1 := hi
    dsimp only
    by_cases ei : i = u
    · subst ei; rw [up_s, wI_s2, wI_s2, wL_s2, wI_nc (by omega), wI_s1]; exact ⟨rfl, rfl⟩
    · rw [up_n ei, wI_s2, wI_s2, wL_get, if_neg (fun z => ei z.2.1), wI_nc (by omega), wI_nk ei, wL_s1]; exact hU.2.2 i (by omega)
theorem c_undo {u : Nat} {U : Nat → Sn} (hG : gOk R C kd) (hU : cU s n (u + 1) U) (hs : s.1 3 i 3 = nI n) (ho : oOkS R C kd n (U u)) : ∃ t, ev (d + 4) f_Memory_undoInto [vR 4 0, vR 3 i] s = some (some (vI (nI u)), t) ∧ cU t n u U ∧ cOS t i n (U u) ∧ fr (fun c j k => pU i c j k ∨ (c = 4 ∧ k = 4)) s t := by
  have hu := hU.2.1
  have g := hU.2.2 u (by omega)
  obtain ⟨t, e1, e2, e3⟩ := o_unpack (d := d) (i := i) (n := n) (s := wI s 4 0 4 (nI u)) hG (by rw [wI_nc (by omega)]; exact hs) ho
  have f4 : fr (fun c j k => pU i c j k ∨ (c = 4 ∧ k = 4)) s (wI s 4 0 4 (nI u)) := fr_wI (fr_r _ _) (Or.inr ⟨rfl, rfl⟩)
  have t4 : t.1 4 0 4 = nI u := by rw [(e3 4 0 4 (by unfold pU; omega)).1, wI_s1]
  refine ⟨t, ?_, ⟨t4, by omega, fun j hj => ?_⟩, e2, fr_t f4 (fr_m e3 (fun _ _ _ h => Or.inl h))⟩
  · rw [Memory_undoInto_eq, hU.1, nl_0, if_neg (of_eq_false (eq_f (by omega) (by omega) (by omega))), show nI (u + 1) - 1 = nI u from nI_pred u, in_t (show u < 15 by omega) (by omega), if_pos rfl, if_pos rfl, n_cl (by omega), g.1, g.2, e1, bV_s, t4]
  · rw [(e3 20 0 j (by unfold pU; omega)).2, (e3 21 0 j (by unfold pU; omega)).1, wI_s2, wI_nc (by omega)]; exact hU.2.2 j (by omega)
/-- what is kept -/
def cK (s : xS) (n : Nat) (K : Nat → Option Sn) : Prop := ∃ kb, s.1 4 0 5 = nI kb ∧ kb < 8 ∧ ∀ i, i < 3 → (kb.testBit i = (K i).isSome ∧ ∀ S, K i = some S → s.2 22 0 i = lN (pck n S) ∧ s.1 23 0 i = S.2.2.2.2)
theorem cK_fr {p : Nat → Nat → Nat → Prop} {s t : xS} {n : Nat} {K : Nat → Option Sn} (h : cK s n K) (g : fr p s t) (h1 : ¬ p 4 0 5) (h2 : ∀ k, ¬ p 22 0 k) (h3 : ∀ k, ¬ p 23 0 k) : cK t n K := by
  obtain ⟨kb, a, b, c⟩ := h
  exact ⟨kb, by rw [(g _ _ _ h1).1]; exact a, b, fun i hi => ⟨(c i hi).1, fun S hS => by rw [(g _ _ _ (h2 _)).2, (g _ _ _ (h3 _)).1]; exact (c i hi).2 S hS⟩⟩
theorem c_store {K : Nat → Option Sn} (hG : gOk R C kd) (hK : cK s n K) (hO : cOS s 0 n S) (ho : oOkS R C kd n S) {m : Nat} (hm : m < 3) : ∃ t, ev (d + 4) f_Memory_store [vR 4 0, vI (nI m), vR 3 0] s = some (some (vI (ib true)), t) ∧ cK t n (up K m (some S)) ∧ fr (fun c _ k => c = 22 ∨ c = 23 ∨ (c = 4 ∧ k = 5)) s t := by
  obtain ⟨kb, a, b, c⟩ := hK
  have hm2 : 2 ^ m < 8 := by
    match m, hm with
    | 0, _ => decide
    | 1, _ => decide
    | 2, _ => decide
  have hor : kb ||| 2 ^ m < 8 := Nat.or_lt_two_pow (n := 3) b hm2
  rw [Memory_store_eq, if_neg (nI_pos (by omega)), nl_3, if_pos (of_eq_true (lt_t hm (by omega))), o_packed hG hO ho, bL_s, in_t hm (by omega), if_pos rfl, if_pos rfl, n_cl (by omega), hO.2.2.1, a, j_1shl (by omega), fa_or, nb_1]
  refine ⟨_, rfl, ⟨kb ||| 2 ^ m, by rw [wI_s1], hor, fun i hi => ?_⟩, fr_wI (fr_wI (fr_wL (fr_r _ _) (by omega)) (by omega)) (by omega)⟩
  rw [tb_or, tb_p2]
  by_cases e : i = m
  · subst e
    rw [decide_eq_true rfl, Bool.or_true, up_s]
    refine ⟨rfl, fun S' hS => ?_⟩
    cases hS
    rw [wI_s2, wI_s2, wL_s2, wI_nc (by omega), wI_s1]; exact ⟨rfl, rfl⟩
  · rw [decide_eq_false (fun z => e z.symm), Bool.or_false, up_n e]
    refine ⟨(c i hi).1, fun S' hS => ?_⟩
    rw [wI_s2, wI_s2, wL_get, if_neg (fun z => e z.2.1), wI_nc (by omega), wI_nk e, wL_s1]
    exact (c i hi).2 S' hS
end MEM

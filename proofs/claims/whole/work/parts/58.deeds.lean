/-! What is done with prams: what it comes to, and the class's side. -/
section DEEDS
abbrev Sn : Type := (Nat → Nat) × (Nat → Nat) × (Nat → Nat) × Nat × Int32
def cOS (s : xS) (i n : Nat) (S : Sn) : Prop := cO s i n S.1 S.2.1 S.2.2.1 S.2.2.2.1 S.2.2.2.2
def rOS (s : xS) (j n : Nat) (S : Sn) : Prop := rO s j n S.1 S.2.1 S.2.2.1 S.2.2.2.1 S.2.2.2.2
def oOkS (R C : Nat) (kd : Nat → Nat) (n : Nat) (S : Sn) : Prop := oOk R C kd n S.1 S.2.1 S.2.2.1 S.2.2.2.1
variable {d i j n p w R C : Nat} {kd : Nat → Nat} {s : xS} {L : List Nat} {S : Sn} {x y : Int32}
def lookB (R C : Nat) (kd : Nat → Nat) (n : Nat) (L : List Nat) (S : Sn) (p : Nat) : Nat := wfm R C kd n S.1 S.2.2.1 S.2.2.2.2 (ruL L) p (S.1 p) (S.2.1 p)
def lookS (R C : Nat) (kd : Nat → Nat) (n : Nat) (L : List Nat) (S : Sn) (p : Nat) : Sn := (S.1, S.2.1, up S.2.2.1 p (S.2.2.1 p ||| lookB R C kd n L S p), S.2.2.2)
def goS (S : Sn) (p g w : Nat) : Sn := (up S.1 p g, up S.2.1 p w, S.2.2)
def loS (S : Sn) (p : Nat) (b : Bool) : Sn := (S.1, S.2.1, S.2.2.1, setb S.2.2.2.1 p b, S.2.2.2.2)
theorem lookB_lt (hG : gOk R C kd) (ho : oOkS R C kd n S) (hp : p < n) : lookB R C kd n L S p < 64 := wfm_lt hG (ho.2.2.1 p hp).1 (ho.2.2.1 p hp).2.2.1
theorem lookS_ok (hG : gOk R C kd) (ho : oOkS R C kd n S) (hp : p < n) : oOkS R C kd n (lookS R C kd n L S p) := by
  have hb := lookB_lt (L := L) hG ho hp
  refine ⟨ho.1, ho.2.1, fun q hq => ?_, fun q h1 h2 => ?_⟩
  · have h := ho.2.2.1 q hq
    refine ⟨h.1, h.2.1, h.2.2.1, ?_⟩
    show up S.2.2.1 p _ q < 64
    by_cases e : q = p
    · subst e; rw [up_s]; exact or_lt64 h.2.2.2 hb
    · rw [up_n e]; exact h.2.2.2
  · show up S.2.2.1 p _ q = 0
    rw [up_n (by omega)]; exact ho.2.2.2 q h1 h2
theorem goS_ok {g : Nat} (ho : oOkS R C kd n S) (hg : g < R * C ∧ kd g ≠ 1) (hw : w < 4) : oOkS R C kd n (goS S p g w) := by
  refine ⟨ho.1, ho.2.1, fun q hq => ?_, ho.2.2.2⟩
  have h := ho.2.2.1 q hq
  show up S.1 p g q < R * C ∧ kd (up S.1 p g q) ≠ 1 ∧ up S.2.1 p w q < 4 ∧ _
  by_cases e : q = p
  · subst e; rw [up_s, up_s]; exact ⟨hg.1, hg.2, hw, h.2.2.2⟩
  · rw [up_n e, up_n e]; exact h
theorem setb_tb {lo p q : Nat} {b : Bool} (hq : q < 6) : (setb lo p b).testBit q = if q = p then b else lo.testBit q := by
  unfold setb
  cases b with
  | true =>
    rw [cond_true, tb_or, tb_p2]
    by_cases e : q = p
    · rw [if_pos e, e, decide_eq_true rfl, Bool.or_true]
    · rw [if_neg e, decide_eq_false (fun z => e z.symm), Bool.or_false]
  | false =>
    rw [cond_false, an_tb hq, tb_p2]
    by_cases e : q = p
    · rw [if_pos e, e, decide_eq_true rfl]; simp
    · rw [if_neg e, decide_eq_false (fun z => e z.symm)]; simp
theorem setb_lt {lo p n : Nat} {b : Bool} (hl : lo < 2 ^ n) (hp : p < n) : setb lo p b < 2 ^ n := by
  unfold setb
  cases b with
  | true => exact Nat.or_lt_two_pow hl (Nat.pow_lt_pow_right (by omega) hp)
  | false => exact Nat.lt_of_le_of_lt Nat.and_le_left hl
theorem loS_ok {b : Bool} (ho : oOkS R C kd n S) (hp : p < n) : oOkS R C kd n (loS S p b) := ⟨ho.1, setb_lt ho.2.1 hp, ho.2.2.1, ho.2.2.2⟩
/-- pushes: the answer, what is then, how many views were formed -/
def pushR (R C : Nat) (kd : Nat → Nat) (n : Nat) (L : List Nat) (S : Sn) (p w : Nat) : Int32 × Sn × Nat :=
  bif S.2.2.2.1.testBit p then (-2, S, 0) else match nxt R C kd (S.1 p) w with
    | none => (-3, S, 0)
    | some g => (nI (lookB R C kd n L (goS S p g w) p), lookS R C kd n L (goS S p g w) p, pc (lookB R C kd n L (goS S p g w) p))
def pushX (R C : Nat) (kd : Nat → Nat) (n : Nat) (L : List Nat) (S : Sn) (x y : Int32) : Int32 × Sn × Nat := bif x_in x n && x_in y 4 then pushR R C kd n L S x.toNatClampNeg y.toNatClampNeg else (-1, S, 0)
def faceR (R C : Nat) (kd : Nat → Nat) (n : Nat) (L : List Nat) (S : Sn) (p w : Nat) : Int32 × Sn :=
  bif S.2.2.2.1.testBit p then (-2, S) else if S.2.1 p = w then (-3, S) else (nI (lookB R C kd n L (goS S p (S.1 p) w) p), lookS R C kd n L (goS S p (S.1 p) w) p)
def faceX (R C : Nat) (kd : Nat → Nat) (n : Nat) (L : List Nat) (S : Sn) (x y : Int32) : Int32 × Sn := bif x_in x n && x_in y 4 then faceR R C kd n L S x.toNatClampNeg y.toNatClampNeg else (-1, S)
def losX (n : Nat) (S : Sn) (b : Bool) (x : Int32) : Int32 × Sn := bif x_in x n then (bif S.2.2.2.1.testBit x.toNatClampNeg == b then (-2, S) else (nI (pc (setb S.2.2.2.1 x.toNatClampNeg b)), loS S x.toNatClampNeg b)) else (-1, S)
def frgX (n : Nat) (S : Sn) (x y : Int32) : Int32 × Sn := bif x_in x n && x_in y 6 then (bif (S.2.2.1 x.toNatClampNeg).testBit y.toNatClampNeg then (nI (an (S.2.2.1 x.toNatClampNeg) (2 ^ y.toNatClampNeg)), (S.1, S.2.1, up S.2.2.1 x.toNatClampNeg (an (S.2.2.1 x.toNatClampNeg) (2 ^ y.toNatClampNeg)), S.2.2.2)) else (-2, S)) else (-1, S)
def minP (R C : Nat) (kd : Nat → Nat) (n : Nat) (L : List Nat) (z : Sn × Nat × Nat) (p : Nat) : Sn × Nat × Nat :=
  bif z.1.2.2.2.1.testBit p then match rto R C kd (z.1.1 p) with
    | some g => (lookS R C kd n L (goS z.1 p g (kd (z.1.1 p) - 20)) p, z.2.1 + 1, z.2.2 + pc (lookB R C kd n L (goS z.1 p g (kd (z.1.1 p) - 20)) p))
    | none => (loS z.1 p false, z.2)
  else (loS z.1 p false, z.2)
def minN (R C : Nat) (kd : Nat → Nat) (n : Nat) (L : List Nat) : Nat → Sn × Nat × Nat → Sn × Nat × Nat
  | 0, z => z
  | k + 1, z => minP R C kd n L (minN R C kd n L k z) k
def minM (z : Sn × Nat × Nat) : Sn × Nat × Nat := ((z.1.1, z.1.2.1, z.1.2.2.1, z.1.2.2.2.1, z.1.2.2.2.2 + 1), z.2)
def pasN (R C : Nat) (kd : Nat → Nat) (n : Nat) (L : List Nat) : Nat → Sn × Nat × Nat → Sn × Nat × Nat
  | 0, z => z
  | k + 1, z => minM (minN R C kd n L n (pasN R C kd n L k z))
theorem minP_ok {z : Sn × Nat × Nat} (hG : gOk R C kd) (ho : oOkS R C kd n z.1) (hp : p < n) : oOkS R C kd n (minP R C kd n L z p).1 := by
  unfold minP
  cases z.1.2.2.2.1.testBit p with
  | false => exact loS_ok ho hp
  | true =>
    rw [cond_true]
    cases e : rto R C kd (z.1.1 p) with
    | none => exact loS_ok ho hp
    | some g =>
      have hF := (ho.2.2.1 p hp).1
      have hs : ∃ w, slo kd (z.1.1 p) = some w := by
        unfold rto at e
        cases e2 : slo kd (z.1.1 p) with
        | none => rw [e2] at e; cases e
        | some w => exact ⟨w, rfl⟩
      obtain ⟨w, hw⟩ := hs
      have hw4 := slo_lt hG hF hw
      have hwk : kd (z.1.1 p) - 20 = w := by
        unfold slo at hw; split at hw <;> cases hw; rfl
      exact lookS_ok hG (goS_ok ho (rto_lt hG hF e) (by omega)) hp
theorem minN_ok {z : Sn × Nat × Nat} (hG : gOk R C kd) (ho : oOkS R C kd n z.1) : ∀ k, k ≤ n → oOkS R C kd n (minN R C kd n L k z).1
  | 0, _ => ho
  | k + 1, hk => minP_ok hG (minN_ok hG ho k (by omega)) (by omega)
theorem pasN_ok {z : Sn × Nat × Nat} (hG : gOk R C kd) (ho : oOkS R C kd n z.1) : ∀ k, oOkS R C kd n (pasN R C kd n L k z).1
  | 0 => ho
  | k + 1 => minN_ok (z := pasN R C kd n L k z) hG (pasN_ok hG ho k) n (Nat.le_refl _)
theorem pushX_ok (hG : gOk R C kd) (ho : oOkS R C kd n S) : oOkS R C kd n (pushX R C kd n L S x y).2.1 := by
  unfold pushX
  cases hc : (x_in x n && x_in y 4) with
  | false => exact ho
  | true =>
    rw [Bool.and_eq_true] at hc
    have hn := ho.1
    obtain ⟨p, hp, rfl⟩ := (n_in_iff (by omega)).mp hc.1
    obtain ⟨w, hw, rfl⟩ := (n_in_iff (by omega)).mp hc.2
    rw [cond_true, n_cl (by omega), n_cl (by omega)]
    unfold pushR
    cases S.2.2.2.1.testBit p with
    | true => exact ho
    | false =>
      rw [cond_false]
      cases e : nxt R C kd (S.1 p) w with
      | none => exact ho
      | some g => exact lookS_ok hG (goS_ok ho (nxt_lt hG (ho.2.2.1 p hp).1 hw e) hw) hp
theorem faceX_ok (hG : gOk R C kd) (ho : oOkS R C kd n S) : oOkS R C kd n (faceX R C kd n L S x y).2 := by
  unfold faceX
  cases hc : (x_in x n && x_in y 4) with
  | false => exact ho
  | true =>
    rw [Bool.and_eq_true] at hc
    have hn := ho.1
    obtain ⟨p, hp, rfl⟩ := (n_in_iff (by omega)).mp hc.1
    obtain ⟨w, hw, rfl⟩ := (n_in_iff (by omega)).mp hc.2
    rw [cond_true, n_cl (by omega), n_cl (by omega)]
    unfold faceR
    cases S.2.2.2.1.testBit p with
    | true => exact ho
    | false =>
      rw [cond_false]
      by_cases e : S.2.1 p = w
      · rw [if_pos e]; exact ho
      · rw [if_neg e]
        have h := ho.2.2.1 p hp
        exact lookS_ok hG (goS_ok ho ⟨h.1, h.2.1⟩ hw) hp
theorem losX_ok {b : Bool} (ho : oOkS R C kd n S) : oOkS R C kd n (losX n S b x).2 := by
  unfold losX
  cases hc : x_in x n with
  | false => exact ho
  | true =>
    have hn := ho.1
    obtain ⟨p, hp, rfl⟩ := (n_in_iff (by omega)).mp hc
    rw [cond_true, n_cl (by omega)]
    cases (S.2.2.2.1.testBit p == b) with
    | true => exact ho
    | false => exact loS_ok ho hp
theorem frgX_ok (ho : oOkS R C kd n S) : oOkS R C kd n (frgX n S x y).2 := by
  unfold frgX
  cases hc : (x_in x n && x_in y 6) with
  | false => exact ho
  | true =>
    rw [Bool.and_eq_true] at hc
    have hn := ho.1
    obtain ⟨p, hp, rfl⟩ := (n_in_iff (by omega)).mp hc.1
    obtain ⟨w, hw, rfl⟩ := (n_in_iff (by omega)).mp hc.2
    rw [cond_true, n_cl (by omega), n_cl (by omega)]
    cases (S.2.2.1 p).testBit w with
    | false => exact ho
    | true =>
      refine ⟨ho.1, ho.2.1, fun q hq => ?_, fun q h1 h2 => ?_⟩
      · have h := ho.2.2.1 q hq
        refine ⟨h.1, h.2.1, h.2.2.1, ?_⟩
        show up S.2.2.1 p _ q < 64
        by_cases e : q = p
        · subst e; rw [up_s]; exact an_lt h.2.2.2
        · rw [up_n e]; exact h.2.2.2
      · show up S.2.2.1 p _ q = 0
        rw [up_n (by omega)]; exact ho.2.2.2 q h1 h2
/-- the class's -/
def pOc (i c j k : Nat) : Prop := pE c j k ∨ ((c = 17 ∨ c = 18 ∨ c = 19) ∧ j = i) ∨ (c = 3 ∧ j = i ∧ (k = 4 ∨ k = 5)) ∨ (c = 7 ∧ (k = 3 ∨ k = 4))
theorem pEl {i c j k : Nat} (h : pE c j k ∨ (c = 19 ∧ j = i)) : pOc i c j k := by unfold pE at h; unfold pOc pE; omega
theorem c_look (hG : cG s R C kd) (hO : cOS s i n S) (ho : oOkS R C kd n S) (hR : cR s 0 (ruL L)) (hL : wfL (ruL L) 0) (hp : p < n) : ∃ u, ev (d + 4) f_Deeds_look [vR 7 0, vR 3 i, vI (nI p)] s = some (some (vI (nI (lookB R C kd n L S p))), u) ∧ cOS u i n (lookS R C kd n L S p) ∧ fr (fun c j k => pE c j k ∨ (c = 19 ∧ j = i)) s u := by
  have hn := ho.1
  obtain ⟨hF, _, hW, hV⟩ := ho.2.2.1 p hp
  obtain ⟨u, e1, f1⟩ := e_canForm (d := d) hG hO ho hR hL hF hW (show p < 4 by omega) (pc_le (S.2.2.1 p))
  have hO1 : cOS u i n S := cO_fr hO f1 (by intro k; unfold pE; omega) (by intro k; unfold pE; omega) (by intro k; unfold pE; omega) (by intro k; unfold pE; omega)
  have hb := lookB_lt (L := L) hG.1 ho hp
  refine ⟨wI u 19 i p (nI (S.2.2.1 p ||| lookB R C kd n L S p)), ?_, cO_views hO1, fr_wI (fr_m f1 (fun _ _ _ => Or.inl)) (Or.inr ⟨rfl, rfl⟩)⟩
  rw [Deeds_look_eq, o_fieldOf hO hn hp, bI_s, o_wayOf hO hn hp, bI_s, o_viewsOf hO hn hp, bI_s, bc_s hV, bI_s, nl_4, pk_mul, nI_add, e1, bI_s, n_an (cfm_lt hG.1 hF hW) hV, fa_or]
  have e2 : an (cfm R C kd (ruL L) (pc (S.2.2.1 p)) (S.2.1 p) (oth S.1 p (S.1 p) n) p (jrem S.2.2.2.2 7) (S.1 p)) (S.2.2.1 p) = lookB R C kd n L S p := rfl
  rw [e2, o_setViews hO1 hn hp, bV_s]
theorem fr_cR {q : Nat → Nat → Nat → Prop} {t : xS} (hR : cR s 0 (ruL L)) (f : fr q s t) (h : ∀ c k, q c 0 k → c ≠ 24 ∧ (c = 5 → k ≠ 2)) : cR t 0 (ruL L) :=
  cR_fr hR f (fun z => (h 5 2 z).2 rfl rfl) (fun k z => (h 24 k z).1 rfl)
theorem c_shove (hG : cG s R C kd) (hO : cOS s i n S) (ho : oOkS R C kd n S) (hR : cR s 0 (ruL L)) (hL : wfL (ruL L) 0) (x y : Int32) : ∃ u, ev (d + 5) f_Deeds_shove [vR 7 0, vR 3 i, vI x, vI y] s = some (some (vI (pushX R C kd n L S x y).1), u) ∧ cOS u i n (pushX R C kd n L S x y).2.1 ∧ fr (pOc i) s u := by
  have hn := ho.1
  rw [Deeds_shove_eq, o_has hO hn, bI_s]
  unfold pushX
  cases hx : x_in x n with
  | false => rw [if_pos (by decide)]; exact ⟨s, rfl, hO, fr_r _ _⟩
  | true =>
    rw [if_neg (by decide), c_isWay, bI_s]
    cases hy : x_in y 4 with
    | false => rw [if_pos (by decide)]; exact ⟨s, rfl, hO, fr_r _ _⟩
    | true =>
      obtain ⟨p, hp, rfl⟩ := (n_in_iff (by omega)).mp hx
      obtain ⟨w, hw, rfl⟩ := (n_in_iff (by omega)).mp hy
      have b36 := gOk_36 hG.1
      obtain ⟨hF, _, hW, hV⟩ := ho.2.2.1 p hp
      rw [if_neg (by decide), o_isLoose hO hn ho.2.1 hp, bI_s, Bool.true_and, cond_true, n_cl (by omega), n_cl (by omega)]
      unfold pushR
      cases hl : S.2.2.2.1.testBit p with
      | true => rw [if_neg (by decide)]; exact ⟨s, rfl, hO, fr_r _ _⟩
      | false =>
        rw [if_pos (by decide), o_fieldOf hO hn hp, bI_s, g_next hG hF hw, bI_s, cond_false]
        cases hx2 : nxt R C kd (S.1 p) w with
        | none => rw [if_pos oI_n]; exact ⟨s, rfl, hO, fr_r _ _⟩
        | some g =>
          have hg := nxt_lt hG.1 hF hw hx2
          have f1 : fr (pOc i) s (wI (wI s 17 i p (nI g)) 18 i p (nI w)) := fr_wI (fr_wI (fr_r _ _) (by unfold pOc; omega)) (by unfold pOc; omega)
          have hO1 : cOS (wI (wI s 17 i p (nI g)) 18 i p (nI w)) i n (goS S p g w) := cO_place hO
          obtain ⟨u, e1, e2, e3⟩ := c_look (d := d) (cG_fr hG f1 (by intro k; unfold pOc pE; omega) (by intro k; unfold pOc pE; omega) (by intro k; unfold pOc pE; omega)) hO1 (goS_ok ho hg hw) (fr_cR hR f1 (fun c k h => by unfold pOc pE at h; omega)) hL hp
          rw [oI_s, if_neg (m1_nn (by omega)), o_place hO hn hp, bV_s, e1, bI_s]
          exact ⟨u, rfl, e2, fr_t f1 (fr_m e3 (fun _ _ _ h => pEl h))⟩
theorem c_turn (hG : cG s R C kd) (hO : cOS s i n S) (ho : oOkS R C kd n S) (hR : cR s 0 (ruL L)) (hL : wfL (ruL L) 0) (x y : Int32) : ∃ u, ev (d + 5) f_Deeds_turn [vR 7 0, vR 3 i, vI x, vI y] s = some (some (vI (faceX R C kd n L S x y).1), u) ∧ cOS u i n (faceX R C kd n L S x y).2 ∧ fr (pOc i) s u := by
  have hn := ho.1
  rw [Deeds_turn_eq, o_has hO hn, bI_s]
  unfold faceX
  cases hx : x_in x n with
  | false => rw [if_pos (by decide)]; exact ⟨s, rfl, hO, fr_r _ _⟩
  | true =>
    rw [if_neg (by decide), c_isWay, bI_s]
    cases hy : x_in y 4 with
    | false => rw [if_pos (by decide)]; exact ⟨s, rfl, hO, fr_r _ _⟩
    | true =>
      obtain ⟨p, hp, rfl⟩ := (n_in_iff (by omega)).mp hx
      obtain ⟨w, hw, rfl⟩ := (n_in_iff (by omega)).mp hy
      obtain ⟨hF, hk, hW, hV⟩ := ho.2.2.1 p hp
      rw [if_neg (by decide), o_isLoose hO hn ho.2.1 hp, bI_s, Bool.true_and, cond_true, n_cl (by omega), n_cl (by omega)]
      unfold faceR
      cases hl : S.2.2.2.1.testBit p with
      | true => rw [if_neg (by decide)]; exact ⟨s, rfl, hO, fr_r _ _⟩
      | false =>
        rw [if_pos (by decide), o_wayOf hO hn hp, bI_s, cond_false]
        by_cases e : S.2.1 p = w
        · rw [if_pos (of_eq_true (eq_t e)), if_pos e]; exact ⟨s, rfl, hO, fr_r _ _⟩
        · have f1 : fr (pOc i) s (wI (wI s 17 i p (nI (S.1 p))) 18 i p (nI w)) := fr_wI (fr_wI (fr_r _ _) (by unfold pOc; omega)) (by unfold pOc; omega)
          have hO1 : cOS (wI (wI s 17 i p (nI (S.1 p))) 18 i p (nI w)) i n (goS S p (S.1 p) w) := cO_place hO
          obtain ⟨u, e1, e2, e3⟩ := c_look (d := d) (cG_fr hG f1 (by intro k; unfold pOc pE; omega) (by intro k; unfold pOc pE; omega) (by intro k; unfold pOc pE; omega)) hO1 (goS_ok ho ⟨hF, hk⟩ hw) (fr_cR hR f1 (fun c k h => by unfold pOc pE at h; omega)) hL hp
          rw [if_neg (of_eq_false (eq_f e (by omega) (by omega))), if_neg e, o_fieldOf hO hn hp, bI_s, o_place hO hn hp, bV_s, e1, bI_s]
          exact ⟨u, rfl, e2, fr_t f1 (fr_m e3 (fun _ _ _ h => pEl h))⟩
theorem c_letGo (hO : cOS s i n S) (ho : oOkS R C kd n S) (x : Int32) : ∃ u, ev (d + 4) f_Deeds_letGo [vR 7 0, vR 3 i, vI x] s = some (some (vI (losX n S true x).1), u) ∧ cOS u i n (losX n S true x).2 ∧ fr (pOc i) s u := by
  have hn := ho.1
  rw [Deeds_letGo_eq, o_has hO hn, bI_s]
  unfold losX
  cases hx : x_in x n with
  | false => rw [if_pos (by decide)]; exact ⟨s, rfl, hO, fr_r _ _⟩
  | true =>
    obtain ⟨p, hp, rfl⟩ := (n_in_iff (by omega)).mp hx
    rw [if_neg (by decide), o_isLoose hO hn ho.2.1 hp, bI_s, cond_true, n_cl (by omega)]
    cases hl : S.2.2.2.1.testBit p with
    | true => rw [if_neg (by decide)]; exact ⟨s, rfl, hO, fr_r _ _⟩
    | false =>
      have hO1 : cOS (wI s 3 i 4 (nI (setb S.2.2.2.1 p true))) i n (loS S p true) := cO_lo hO
      have e1 : ev (d + 3) f_Outing_setLoose [vR 3 i, vI (nI p), vI 1] s = some (none, wI s 3 i 4 (nI (setb S.2.2.2.1 p true))) := o_setLoose hO hn ho.2.1 hp true
      rw [if_pos (by decide), e1, bV_s, o_countLoose hO1 hn (loS_ok (b := true) ho hp).2.1, bI_s]
      exact ⟨_, rfl, hO1, fr_wI (fr_r _ _) (by unfold pOc; omega)⟩
theorem c_grasp (hO : cOS s i n S) (ho : oOkS R C kd n S) (x : Int32) : ∃ u, ev (d + 4) f_Deeds_grasp [vR 7 0, vR 3 i, vI x] s = some (some (vI (losX n S false x).1), u) ∧ cOS u i n (losX n S false x).2 ∧ fr (pOc i) s u := by
  have hn := ho.1
  rw [Deeds_grasp_eq, o_has hO hn, bI_s]
  unfold losX
  cases hx : x_in x n with
  | false => rw [if_pos (by decide)]; exact ⟨s, rfl, hO, fr_r _ _⟩
  | true =>
    obtain ⟨p, hp, rfl⟩ := (n_in_iff (by omega)).mp hx
    rw [if_neg (by decide), o_isLoose hO hn ho.2.1 hp, bI_s, cond_true, n_cl (by omega)]
    cases hl : S.2.2.2.1.testBit p with
    | false => rw [if_pos (by decide)]; exact ⟨s, rfl, hO, fr_r _ _⟩
    | true =>
      have hO1 : cOS (wI s 3 i 4 (nI (setb S.2.2.2.1 p false))) i n (loS S p false) := cO_lo hO
      have e1 : ev (d + 3) f_Outing_setLoose [vR 3 i, vI (nI p), vI 0] s = some (none, wI s 3 i 4 (nI (setb S.2.2.2.1 p false))) := o_setLoose hO hn ho.2.1 hp false
      rw [if_neg (by decide), e1, bV_s, o_countLoose hO1 hn (loS_ok (b := false) ho hp).2.1, bI_s]
      exact ⟨_, rfl, hO1, fr_wI (fr_r _ _) (by unfold pOc; omega)⟩
theorem c_lose (hO : cOS s i n S) (ho : oOkS R C kd n S) (x y : Int32) : ∃ u, ev (d + 3) f_Deeds_lose [vR 7 0, vR 3 i, vI x, vI y] s = some (some (vI (frgX n S x y).1), u) ∧ cOS u i n (frgX n S x y).2 ∧ fr (pOc i) s u := by
  have hn := ho.1
  rw [Deeds_lose_eq, o_has hO hn, bI_s]
  unfold frgX
  cases hx : x_in x n with
  | false => rw [if_pos (by decide)]; exact ⟨s, rfl, hO, fr_r _ _⟩
  | true =>
    obtain ⟨p, hp, rfl⟩ := (n_in_iff (by omega)).mp hx
    have hV := (ho.2.2.1 p hp).2.2.2
    rw [if_neg (by decide)]
    cases hy : x_in y 6 with
    | false =>
      rw [n_in2 y (by omega)] at hy
      by_cases q : y < 0
      · rw [if_pos q]; exact ⟨s, rfl, hO, fr_r _ _⟩
      · rw [decide_eq_false q, Bool.not_false, Bool.true_and, decide_eq_false_iff_not] at hy
        rw [if_neg q, nl_6, if_neg hy]; exact ⟨s, rfl, hO, fr_r _ _⟩
    | true =>
      obtain ⟨w, hw, rfl⟩ := (n_in_iff (by omega)).mp hy
      have h2 := p2_64 hw
      rw [if_neg (nI_pos (by omega)), nl_6, if_pos (of_eq_true (lt_t hw (by omega))), o_viewsOf hO hn hp, bI_s, Bool.true_and, cond_true, n_cl (by omega), n_cl (by omega)]
      cases hb : (S.2.2.1 p).testBit w with
      | false => rw [if_pos ((j_bit0 (by omega) (by omega)).mpr hb)]; exact ⟨s, rfl, hO, fr_r _ _⟩
      | true =>
        have hO1 : cOS (wI s 19 i p (nI (an (S.2.2.1 p) (2 ^ w)))) i n (S.1, S.2.1, up S.2.2.1 p (an (S.2.2.1 p) (2 ^ w)), S.2.2.2) := cO_views hO
        rw [if_neg (fun z => by rw [(j_bit0 (by omega) (by omega)).mp z] at hb; cases hb), j_1shl (by omega), n_an hV h2, o_setViews hO hn hp, bV_s, o_viewsOf hO1 hn hp, bI_s]
        refine ⟨_, ?_, hO1, fr_wI (fr_r _ _) (by unfold pOc; omega)⟩
        show some (some (vI (nI (up S.2.2.1 p (an (S.2.2.1 p) (2 ^ w)) p))), _) = _
        rw [up_s]; rfl
theorem c_pass (hG : cG s R C kd) (hO : cOS s i n S) (ho : oOkS R C kd n S) (hR : cR s 0 (ruL L)) (hL : wfL (ruL L) 0) {m : Nat} (hm : m ≤ 60) : ∃ u, ev (d + 6) f_Deeds_pass [vR 7 0, vR 3 i, vI (nI m)] s = some (some (vI (nI (pc (pasN R C kd n L m (S, 0, 0)).1.2.2.2.1))), u) ∧ cOS u i n (pasN R C kd n L m (S, 0, 0)).1 ∧ fr (pOc i) s u ∧ u.1 7 0 3 = nI (pasN R C kd n L m (S, 0, 0)).2.1 ∧ u.1 7 0 4 = nI (pasN R C kd n L m (S, 0, 0)).2.2 := by
  have hn := ho.1
  have b36 := gOk_36 hG.1
  rw [Deeds_pass_eq, if_neg (nI_pos (by omega)), nl_60, if_neg (of_eq_false (lt_f (by omega) (by omega)))]
  have keep : ∀ {t : xS}, fr (pOc i) s t → cG t R C kd ∧ cR t 0 (ruL L) := fun f => ⟨cG_fr hG f (by intro k; unfold pOc pE; omega) (by intro k; unfold pOc pE; omega) (by intro k; unfold pOc pE; omega), fr_cR hR f (fun c k h => by unfold pOc pE at h; omega)⟩
  have f0 : fr (pOc i) s (wI (wI s 7 0 3 0) 7 0 4 0) := fr_wI (fr_wI (fr_r _ _) (by unfold pOc; omega)) (by unfold pOc; omega)
  have hO0 : cOS (wI (wI s 7 0 3 0) 7 0 4 0) i n S := cO_fr (p := fun c _ _ => c = 7) hO (fr_wI (fr_wI (fr_r _ _) rfl) rfl) (by omega) (by omega) (by omega) (by omega)
  obtain ⟨u, k1, k2, k3, k4, k5⟩ := chainE m (fun k (t : xS) => Deeds_pass_L1 (d + 5) i (nI m) (nI k) t) (fun k t => cOS t i n (pasN R C kd n L k (S, 0, 0)).1 ∧ fr (pOc i) s t ∧ t.1 7 0 3 = nI (pasN R C kd n L k (S, 0, 0)).2.1 ∧ t.1 7 0 4 = nI (pasN R C kd n L k (S, 0, 0)).2.2) (by
    rintro k t hk ⟨h1, h2, h3, h4⟩
    have hok := pasN_ok (L := L) (z := (S, 0, 0)) hG.1 ho k
    generalize hz : pasN R C kd n L k (S, 0, 0) = z at h1 h3 h4 hok
    have hz1 : pasN R C kd n L (k + 1) (S, 0, 0) = minM (minN R C kd n L n z) := by rw [← hz]; rfl
    show ∃ b, Deeds_pass_L1 (d + 5) i (nI m) (nI k) t = Deeds_pass_L1 (d + 5) i (nI m) (nI (k + 1)) b ∧ _
    rw [Deeds_pass_L1_eq, if_pos (of_eq_true (lt_t hk (by omega))), hz1]
    obtain ⟨v, q1, q2, q3, q4, q5⟩ := chainE n (fun p (t : xS) => Deeds_pass_L2 (d + 5) i (nI m) (nI k) (nI p) t) (fun p t => cOS t i n (minN R C kd n L p z).1 ∧ fr (pOc i) s t ∧ t.1 7 0 3 = nI (minN R C kd n L p z).2.1 ∧ t.1 7 0 4 = nI (minN R C kd n L p z).2.2) (by
      rintro p t' hp ⟨g1, g2, g3, g4⟩
      have hok2 := minN_ok (L := L) (z := z) hG.1 hok p (by omega)
      have hzz : minN R C kd n L (p + 1) z = minP R C kd n L (minN R C kd n L p z) p := rfl
      rw [hzz]
      generalize minN R C kd n L p z = y at g1 g3 g4 hok2 ⊢
      obtain ⟨hGt, hRt⟩ := keep g2
      obtain ⟨hF, hk1, hW, hV⟩ := hok2.2.2.1 p hp
      show ∃ b, Deeds_pass_L2 (d + 5) i (nI m) (nI k) (nI p) t' = Deeds_pass_L2 (d + 5) i (nI m) (nI k) (nI (p + 1)) b ∧ _
      have clr : ∃ b, Deeds_pass_J3 (d + 5) i (nI m) (nI k) (nI p) t' = Deeds_pass_L2 (d + 5) i (nI m) (nI k) (nI (p + 1)) b ∧ cOS b i n (loS y.1 p false) ∧ fr (pOc i) s b ∧ b.1 7 0 3 = nI y.2.1 ∧ b.1 7 0 4 = nI y.2.2 := by
        have e1 : ev (d + 5) f_Outing_setLoose [vR 3 i, vI (nI p), vI 0] t' = some (none, wI t' 3 i 4 (nI (setb y.1.2.2.2.1 p false))) := o_setLoose g1 hn hok2.2.1 hp false
        rw [Deeds_pass_J3_eq, e1, bV_s, nI_1]
        exact ⟨_, rfl, cO_lo g1, fr_wI g2 (by unfold pOc; omega), by rw [wI_nc (by omega)]; exact g3, by rw [wI_nc (by omega)]; exact g4⟩
      rw [Deeds_pass_L2_eq, g1.1, if_pos (of_eq_true (lt_t hp (by omega))), o_fieldOf g1 hn hp, bI_s, g_slopeOn hGt hF, bI_s, o_fieldOf g1 hn hp, bI_s, g_nexts hGt hF, bI_s, o_isLoose g1 hn hok2.2.1 hp, bI_s]
      unfold minP
      cases hl : y.1.2.2.2.1.testBit p with
      | false => rw [if_pos (by decide)]; exact clr
      | true =>
        rw [if_neg (by decide), cond_true]
        cases hr : rto R C kd (y.1.1 p) with
        | none => rw [if_pos oI_n]; exact clr
        | some g =>
          have hg := rto_lt hG.1 hF hr
          have hs : ∃ w, slo kd (y.1.1 p) = some w := by
            unfold rto at hr
            cases e2 : slo kd (y.1.1 p) with
            | none => rw [e2] at hr; cases hr
            | some w => exact ⟨w, rfl⟩
          obtain ⟨w, hw⟩ := hs
          have hw4 := slo_lt hG.1 hF hw
          have hwk : kd (y.1.1 p) - 20 = w := by
            unfold slo at hw; split at hw <;> cases hw; rfl
          have f1 : fr (pOc i) s (wI (wI (wI t' 17 i p (nI g)) 18 i p (nI w)) 7 0 3 (nI (y.2.1 + 1))) := fr_wI (fr_wI (fr_wI g2 (by unfold pOc; omega)) (by unfold pOc; omega)) (by unfold pOc; omega)
          have hO1 : cOS (wI (wI (wI t' 17 i p (nI g)) 18 i p (nI w)) 7 0 3 (nI (y.2.1 + 1))) i n (goS y.1 p g w) := cO_fr (p := fun c _ _ => c = 7) (cO_place g1) (fr_wI (fr_r _ _) rfl) (by omega) (by omega) (by omega) (by omega)
          obtain ⟨hG1, hR1⟩ := keep f1
          have hok3 := goS_ok (p := p) hok2 hg hw4
          obtain ⟨u, e1, e2, e3⟩ := c_look (d := d + 1) hG1 hO1 hok3 hR1 hL hp
          have hb := lookB_lt (L := L) hG.1 hok3 hp
          rw [oI_s, if_neg (m1_nn (by omega)), hw, oI_s, o_place g1 hn hp, bV_s, wI_nc (by omega), wI_nc (by omega), g3, nI_1, e1, bI_s, bc_s hb, bI_s, wI_nc (by omega), wI_nc (by omega), g4, nI_add, nI_1]
          dsimp only
          rw [hwk]
          refine ⟨_, rfl, cO_fr (p := fun c _ _ => c = 7) e2 (fr_wI (fr_r _ _) rfl) (by omega) (by omega) (by omega) (by omega), fr_wI (fr_t f1 (fr_m e3 (fun _ _ _ h => pEl h))) (by unfold pOc; omega), ?_, wI_s1 _ _ _ _ _⟩
          rw [wI_nk (by omega), (e3 7 0 3 (by unfold pE; omega)).1, wI_s1]) n 0 t (by omega) ⟨h1, h2, h3, h4⟩
    have q1' : Deeds_pass_L2 (d + 5) i (nI m) (nI k) 0 t = Deeds_pass_L2 (d + 5) i (nI m) (nI k) (nI n) v := q1
    rw [q1', Deeds_pass_L2_eq, q2.1, if_neg (of_eq_false (lt_f (Nat.le_refl _) (by omega))), nI_1]
    refine ⟨_, rfl, ?_, fr_wI q3 (by unfold pOc; omega), by rw [wI_nc (by omega)]; exact q4, by rw [wI_nc (by omega)]; exact q5⟩
    rw [q2.2.2.1]
    exact cO_min q2) m 0 (wI (wI s 7 0 3 0) 7 0 4 0) (by omega) ⟨hO0, f0, by rw [wI_nk (by omega), wI_s1]; rfl, by rw [wI_s1]; rfl⟩
  have hokm := pasN_ok (L := L) (z := (S, 0, 0)) hG.1 ho m
  refine ⟨u, ?_, k2, k3, k4, k5⟩
  refine Eq.trans k1 ?_
  show Deeds_pass_L1 _ _ _ _ _ = _
  rw [Deeds_pass_L1_eq, if_neg (of_eq_false (lt_f (Nat.le_refl _) (by omega))), o_countLoose k2 hn hokm.2.1, bI_s]
end DEEDS

/-! asks. -/
section ASKS2
def off (w : Nat) : Nat := match w with
  | 0 => 0 | 1 => 6 | 2 => 12 | 3 => 16 | 4 => 22 | _ => 24
def pwj (j : Nat) : Nat := if j < 6 then 0 else if j < 12 then 1 else if j < 16 then 2 else if j < 22 then 3 else 4
theorem off_chk : ((List.range 5).all fun w => (List.range 6).all fun v => decide (v ≤ hst w → pwj (off w + v) = w ∧ off w + v - off w = v)) = true := by decide
theorem off_s {w v : Nat} (hw : w < 5) (hv : v ≤ hst w) : pwj (off w + v) = w ∧ off w + v - off w = v := of_decide_eq_true (all_r (all_r off_chk hw) (show v < 6 by have := hst_le w; omega)) hv
theorem off_n {w : Nat} (hw : w < 5) : off w + (hst w + 1) = off (w + 1) := by
  match w, hw with
  | 0, _ => rfl
  | 1, _ => rfl
  | 2, _ => rfl
  | 3, _ => rfl
  | 4, _ => rfl
variable {d n lo R C h p w v : Nat} {F W V : Nat → Nat} {kd : Nat → Nat} {M : Int32} {s : xS} {L : List Nat} {l : List Int64} {hq : Nat → Nat × Nat} {x y z : Int32}
def asY (C : Nat) (F W V : Nat → Nat) (lo B n w v : Nat) : Nat := cnt (fun p => B.testBit p && isS C F W V lo p w v) n
def asM (C : Nat) (F W V : Nat → Nat) (lo B n w v : Nat) : Nat := max (asY C F W V lo B n w v) (pc B - asY C F W V lo B n w v)
def asG (C : Nat) (F W V : Nat → Nat) (lo B n j : Nat) : Nat := asM C F W V lo B n (pwj j) (j - off (pwj j))
def asE (j : Nat) : Nat := 10 * pwj j + (j - off (pwj j))
theorem cnt_mono {p : Nat → Bool} {m : Nat} : ∀ n, m ≤ n → cnt p m ≤ cnt p n
  | 0, h => by have : m = 0 := by omega
               subst this; exact Nat.le_refl _
  | n + 1, h => by
    by_cases e : m = n + 1
    · subst e; exact Nat.le_refl _
    · have := cnt_mono (p := p) (m := m) n (by omega)
      show cnt p m ≤ cnt p n + _
      omega
theorem asY_le (B : Nat) (hn : n ≤ 4) : asY C F W V lo B n w v ≤ pc B := Nat.le_trans (cnt_sub n) (cnt_mono 6 (by omega))
theorem asM_le (B : Nat) (hn : n ≤ 4) : asM C F W V lo B n w v ≤ 6 := by
  have h1 := asY_le (C := C) (F := F) (W := W) (V := V) (lo := lo) (w := w) (v := v) B hn
  have h2 := pc_le B
  unfold asM
  exact Nat.max_le.mpr ⟨by omega, by omega⟩
theorem asE_lt (j : Nat) (hj : j < 24) : asE j < 100 := by
  unfold asE pwj; split
  · show 10 * 0 + (j - 0) < 100; omega
  · split
    · show 10 * 1 + (j - 6) < 100; omega
    · split
      · show 10 * 2 + (j - 12) < 100; omega
      · split
        · show 10 * 3 + (j - 16) < 100; omega
        · show 10 * 4 + (j - 22) < 100; omega
theorem c_pleft {B : Nat} (hB : B < 16) (hG : cG s R C kd) (hO : cO s 0 n F W V lo M) (ho : oOk R C kd n F W V lo) (hw : w ≤ 4) (hv : v ≤ hst w) : ev (d + 4) f_Main_pramsLeftAtMost [vR 0 0, vI (nI B), vI (nI (10 * w + v))] s = some (some (vI (nI (asM C F W V lo B n w v))), s) := by
  have hn := ho.1
  have h1 := asY_le (C := C) (F := F) (W := W) (V := V) (lo := lo) (w := w) (v := v) B hn
  have h2 := pc_le B
  rw [Main_pramsLeftAtMost_eq]
  refine (chain n (fun p => Main_pramsLeftAtMost_L1 (d + 3) (nI B) (nI (10 * w + v)) (nI (cnt (fun p => B.testBit p && isS C F W V lo p w v) p)) (nI p) s) ?_).trans ?_
  · intro p hp
    show Main_pramsLeftAtMost_L1 _ _ _ _ _ _ = Main_pramsLeftAtMost_L1 _ _ _ _ _ _
    rw [Main_pramsLeftAtMost_L1_eq, hO.1, if_pos (of_eq_true (lt_t hp (by omega)))]
    cases hb : B.testBit p with
    | false => rw [if_neg (fun z => by rw [(j_bit1 (by omega) (by omega)).mp z] at hb; cases hb), nI_1, cnt_f (show (B.testBit p && isS C F W V lo p w v) = false by rw [hb]; rfl)]
    | true =>
      rw [if_pos ((j_bit1 (by omega) (by omega)).mpr hb), c_isSo hG hO ho hp hw hv, bI_s, nI_1, nI_1]
      cases hi : isS C F W V lo p w v with
      | false => rw [if_pos (by decide), cnt_f (show (B.testBit p && isS C F W V lo p w v) = false by rw [hb, hi]; rfl)]
      | true => rw [if_neg (by decide), cnt_t (show (B.testBit p && isS C F W V lo p w v) = true by rw [hb, hi]; rfl)]
  · show Main_pramsLeftAtMost_L1 _ _ _ _ _ _ = _
    rw [Main_pramsLeftAtMost_L1_eq, hO.1, if_neg (of_eq_false (lt_f (Nat.le_refl _) (by omega))), bc_s (by omega), bI_s]
    show (bI (ev (d + 3) f_Math_max [vI (nI (asY C F W V lo B n w v)), vI (nI (pc B) - nI (asY C F W V lo B n w v))] s) fun r6 s5 => some (some (vI r6), s5)) = _
    rw [n_sub h1, max_s, bI_s, n_max (by omega) (by omega)]; rfl
theorem cst_s {k : Nat} (hk : k < 5) : x_cst k = nI (hst k) := by
  match k, hk with
  | 0, _ => rfl
  | 1, _ => rfl
  | 2, _ => rfl
  | 3, _ => rfl
  | 4, _ => rfl
theorem m_highest {k : Nat} (hk : k < 5) : ev (d + 1) f_Ref_highest [vI (nI k)] s = some (some (vI (nI (hst k))), s) := by
  rw [Ref_highest_eq]
  match k, hk with
  | 0, _ => rw [if_neg (by decide), if_neg (by decide)]; rfl
  | 1, _ => rw [if_neg (by decide), if_neg (by decide)]; rfl
  | 2, _ => rw [if_pos (by decide)]; rfl
  | 3, _ => rw [if_neg (by decide), if_neg (by decide)]; rfl
  | 4, _ => rw [if_neg (by decide), if_pos (by decide)]; rfl
theorem q_asks (ho : oOk R C kd n F W V lo) (hk : hOk h hq) : ∃ a r, (∀ s, CQ s R C kd n F W V lo M L l → cH s h hq → QC s (ev (d + 9) f_Main_asks [vR 0 0] s) a r) ∧ (∀ s, RQ s R C kd n F W V lo M L l → rH s h hq → QR s (ev (d + 9) f_Ref_asks [vR 13 0] s) a r) := by
  have hn := ho.1
  have b16 := bits_16 (fitP C F W V lo h hq) ho.1
  generalize hB : bitsN (fitP C F W V lo h hq) n = B at b16
  have gl : ∀ j, asG C F W V lo B n j ≤ 6 := fun j => asM_le B hn
  have pl := pc_le B
  by_cases hz : B = 0
  · refine ⟨-2, l, fun s h hS => ⟨s, ?_, h.2.2.2, fr_r _ _⟩, fun s h hS => ⟨wI s 13 0 0 0, ?_, (RQ_0 h).2.2.2.1, fr_m fr_0 (fun _ _ _ => p0_RQ)⟩⟩
    · rw [Main_asks_eq, c_fitP h.1 h.2.1 ho hS hk, bI_s, hB, hz, if_pos (by rfl)]
    · have hS0 := rH_fr hS fr_0 (by unfold p0; omega) (by intro k; unfold p0; omega) (by intro k; unfold p0; omega)
      rw [Ref_asks_eq, m_fitP (RQ_0 h).1 (RQ_0 h).2.1 ho hS0 hk, bI_s, hB, hz, if_pos (by rfl)]
  · obtain ⟨jb, hjb⟩ := bst_s (asG C F W V lo B n) 23
    have hj := bst_lt _ _ _ hjb
    have hgj := gl jb
    have he := asE_lt jb (by omega)
    refine ⟨nI (asE jb), [lN (asG C F W V lo B n jb)], fun s h hS => ?_, fun s h hS => ?_⟩
    · obtain ⟨⟨be, le⟩, c2, c3, c4⟩ := gridV (A := 5) (fun w => hst w + 1) (fun a (p : Int32 × Int32) => Main_asks_L1 (d + 8) (nI B) p.1 p.2 (nI a) s) (fun a b p => Main_asks_L2 (d + 8) (nI B) p.1 p.2 (nI a) (nI b) s)
        (fun a p ha => by
          show Main_asks_L1 _ _ _ _ _ _ = _
          rw [Main_asks_L1_eq, n_ofNat, if_pos (of_eq_true (lt_t (by omega) (by omega)))]; rfl)
        (fun a p ha => by
          have := hst_le a
          show Main_asks_L2 _ _ _ _ _ _ _ = _
          rw [Main_asks_L2_eq, in_t (show a < 5 by omega) (by omega), if_pos rfl, n_cl (by omega), cst_s ha, if_pos (of_eq_true (lt_t (by omega) (by omega))), nI_1])
        (fun a b p => p.1 = bstI (-1) asE (bst (asG C F W V lo B n) (off a + b)) ∧ p.2 = bstI (nI 0) (asG C F W V lo B n) (bst (asG C F W V lo B n) (off a + b))) (fun a p ha h => by rw [Nat.add_zero, ← off_n ha]; exact h)
        (by
          rintro a b ⟨be, le⟩ ha hb ⟨h1, h2⟩
          dsimp only at h1 h2
          have h5 := hst_le a
          obtain ⟨hi1, hi2⟩ := off_s ha (show b ≤ hst a by omega)
          have hE : asE (off a + b) = 10 * a + b := by unfold asE; rw [hi1, hi2]
          have hGe : asM C F W V lo B n a b = asG C F W V lo B n (off a + b) := by unfold asG; rw [hi1, hi2]
          have hg := gl (off a + b)
          show ∃ a' : Int32 × Int32, Main_asks_L2 (d + 8) (nI B) be le (nI a) (nI b) s = Main_asks_L2 (d + 8) (nI B) a'.1 a'.2 (nI a) (nI (b + 1)) s ∧ _
          rw [Main_asks_L2_eq, in_t (show a < 5 by omega) (by omega), if_pos rfl, n_cl (by omega), cst_s ha, if_neg (of_eq_false (lt_f (by omega) (by omega))), nl_10, pk_mul, nI_add, c_pleft b16 h.1 h.2.1 ho (by omega) (by omega), bI_s, hGe, Main_asks_J3_eq, nI_1, nl_10, pk_mul, nI_add, ← hE, h1, h2, show off a + (b + 1) = off a + b + 1 by omega, bst_S]
          cases hb : bst (asG C F W V lo B n) (off a + b) with
          | none =>
            rw [if_pos (show bstI (-1) asE none = -1 from rfl)]
            exact ⟨(_, _), rfl, rfl, rfl⟩
          | some j =>
            have hjl := bst_lt _ _ _ hb
            have hoff : off a + b < 24 := by
              have := off_n ha
              have ho5 : off (a + 1) ≤ 24 := by
                match a, ha with
                | 0, _ => decide
                | 1, _ => decide
                | 2, _ => decide
                | 3, _ => decide
                | 4, _ => decide
              omega
            have hgj := gl j
            have hej := asE_lt j (by omega)
            rw [if_neg (show ¬ bstI (-1) asE (some j) = -1 from m1_nn (a := asE j) (by omega))]
            dsimp only
            by_cases hlt : asG C F W V lo B n (off a + b) < asG C F W V lo B n j
            · rw [if_pos (show nI (asG C F W V lo B n (off a + b)) < bstI (nI 0) (asG C F W V lo B n) (some j) from of_eq_true (lt_t hlt (by omega))), if_pos hlt]
              exact ⟨(_, _), rfl, rfl, rfl⟩
            · rw [if_neg (show ¬ nI (asG C F W V lo B n (off a + b)) < bstI (nI 0) (asG C F W V lo B n) (some j) from of_eq_false (lt_f (by omega) (by omega))), if_neg hlt]
              exact ⟨(_, _), rfl, rfl, rfl⟩) (-1, 0) ⟨rfl, rfl⟩
      dsimp only at c2 c3 c4
      rw [show off 5 + 0 = 23 + 1 from rfl, hjb] at c3 c4
      obtain ⟨v, e2, e3, e4⟩ := n_tellOne (d := d + 6) (s := s) (x := lN (asG C F W V lo B n jb))
      refine ⟨v, ?_, e3, fr_m e4 (fun _ _ _ => pN_CQ)⟩
      rw [Main_asks_eq, c_fitP h.1 h.2.1 ho hS hk, bI_s, hB, if_neg (show ¬ nI B = 0 from of_eq_false (eq_f (b := 0) hz (by omega) (by omega)))]
      refine c2.trans ?_
      rw [Main_asks_L1_eq, n_ofNat, if_neg (of_eq_false (lt_f (by omega) (by omega))), c3, c4]
      show (bV (ev (d + 8) f_Numbers_tellOne [vR 10 0, vL (nI (asG C F W V lo B n jb)).toInt64] s) fun s3 => some (some (vI (nI (asE jb))), s3)) = _
      rw [nI_l (by omega), e2, bV_s]
    · have hS0 := rH_fr hS fr_0 (by unfold p0; omega) (by intro k; unfold p0; omega) (by intro k; unfold p0; omega)
      obtain ⟨hG, hO, _⟩ := RQ_0 h
      have m3 : ∀ (be le : Int32) (a v : Nat), a ≤ 4 → v ≤ hst a → Ref_asks_L3 (d + 8) (nI B) be le (nI a) (nI v) 0 0 (wI s 13 0 0 0) = Ref_asks_J5 (d + 8) (nI B) le (nI a) (nI v) (nI (asM C F W V lo B n a v)) (if nI (asM C F W V lo B n a v) < le then nI (10 * a + v) else be) (wI s 13 0 0 0) := by
        intro be le a v ha hv
        have h1 := asY_le (C := C) (F := F) (W := W) (V := V) (lo := lo) (w := a) (v := v) B hn
        refine (chain n (fun p => Ref_asks_L3 (d + 8) (nI B) be le (nI a) (nI v) (nI (cnt (fun p => B.testBit p && isS C F W V lo p a v) p)) (nI p) (wI s 13 0 0 0)) ?_).trans ?_
        · intro p hp
          have j4 : ∀ c, Ref_asks_J4 (d + 8) (nI B) be le (nI a) (nI v) (nI p) (nI c) (wI s 13 0 0 0) = Ref_asks_L3 (d + 8) (nI B) be le (nI a) (nI v) (nI c) (nI (p + 1)) (wI s 13 0 0 0) := by
            intro c; rw [Ref_asks_J4_eq, m_flag0, bI_s, n_addib, nI_1]; rfl
          show Ref_asks_L3 _ _ _ _ _ _ _ _ _ = Ref_asks_L3 _ _ _ _ _ _ _ _ _
          rw [Ref_asks_L3_eq, hO.1, if_pos (of_eq_true (lt_t hp (by omega))), m_hasI (by omega) (by omega), bI_s]
          cases hb : B.testBit p with
          | false => rw [if_pos (by decide), j4, cnt_f (show (B.testBit p && isS C F W V lo p a v) = false by rw [hb]; rfl)]
          | true =>
            rw [if_neg (by decide), m_isSo hG hO ho hp ha hv, bI_s]
            cases hi : isS C F W V lo p a v with
            | false => rw [if_pos (by decide), j4, cnt_f (show (B.testBit p && isS C F W V lo p a v) = false by rw [hb, hi]; rfl)]
            | true => rw [if_neg (by decide), m_flag1, bI_s, n_addib, nI_1, cnt_t (show (B.testBit p && isS C F W V lo p a v) = true by rw [hb, hi]; rfl)]; rfl
        · show Ref_asks_L3 _ _ _ _ _ _ _ _ _ = _
          rw [Ref_asks_L3_eq, hO.1, if_neg (of_eq_false (lt_f (Nat.le_refl _) (by omega))), bc_s (by omega), bI_s]
          show (bI (ev (d + 8) f_Math_max [vI (nI (asY C F W V lo B n a v)), vI (nI (pc B) - nI (asY C F W V lo B n a v))] (wI s 13 0 0 0)) fun r15 s14 => _) = _
          rw [n_sub h1, max_s, bI_s, n_max (by omega) (by omega), nl_10, pk_mul, nI_add]
          show (if nI (asM C F W V lo B n a v) < le then _ else _) = _
          by_cases hl : nI (asM C F W V lo B n a v) < le
          · rw [if_pos hl, if_pos hl]; rfl
          · rw [if_neg hl, if_neg hl]; rfl
      obtain ⟨⟨be, le⟩, c2, c3, c4⟩ := gridV (A := 5) (fun w => hst w + 1) (fun a (p : Int32 × Int32) => Ref_asks_L1 (d + 8) (nI B) p.1 p.2 (nI a) (wI s 13 0 0 0)) (fun a b p => Ref_asks_L2 (d + 8) (nI B) p.1 p.2 (nI a) (nI b) (wI s 13 0 0 0))
        (fun a p ha => by
          show Ref_asks_L1 _ _ _ _ _ _ = _
          rw [Ref_asks_L1_eq, nl_5, if_pos (of_eq_true (lt_t (by omega) (by omega)))]; rfl)
        (fun a p ha => by
          have := hst_le a
          show Ref_asks_L2 _ _ _ _ _ _ _ = _
          rw [Ref_asks_L2_eq, m_highest ha, bI_s, if_pos (of_eq_true (lt_t (by omega) (by omega))), nI_1])
        (fun a b p => p.1 = bstI (-1) asE (bst (asG C F W V lo B n) (off a + b)) ∧ p.2 = bstI (nI 1000000) (asG C F W V lo B n) (bst (asG C F W V lo B n) (off a + b))) (fun a p ha h => by rw [Nat.add_zero, ← off_n ha]; exact h)
        (by
          rintro a b ⟨be, le⟩ ha hb ⟨h1, h2⟩
          dsimp only at h1 h2
          have h5 := hst_le a
          obtain ⟨hi1, hi2⟩ := off_s ha (show b ≤ hst a by omega)
          have hE : asE (off a + b) = 10 * a + b := by unfold asE; rw [hi1, hi2]
          have hGe : asM C F W V lo B n a b = asG C F W V lo B n (off a + b) := by unfold asG; rw [hi1, hi2]
          have hg := gl (off a + b)
          show ∃ a' : Int32 × Int32, Ref_asks_L2 (d + 8) (nI B) be le (nI a) (nI b) (wI s 13 0 0 0) = Ref_asks_L2 (d + 8) (nI B) a'.1 a'.2 (nI a) (nI (b + 1)) (wI s 13 0 0 0) ∧ _
          rw [Ref_asks_L2_eq, m_highest ha, bI_s, if_neg (of_eq_false (lt_f (by omega) (by omega))), m3 be le a b (by omega) (by omega), hGe, Ref_asks_J5_eq, min_s, bI_s, nI_1, ← hE, h1, h2, show off a + (b + 1) = off a + b + 1 by omega, bst_S]
          cases hb : bst (asG C F W V lo B n) (off a + b) with
          | none =>
            have c : nI (asG C F W V lo B n (off a + b)) < nI 1000000 := of_eq_true (lt_t (by omega) (by omega))
            refine ⟨(_, _), rfl, ?_, ?_⟩
            · show (if nI (asG C F W V lo B n (off a + b)) < nI 1000000 then nI (asE (off a + b)) else _) = nI (asE (off a + b))
              rw [if_pos c]
            · show (if nI (asG C F W V lo B n (off a + b)) < nI 1000000 then nI (asG C F W V lo B n (off a + b)) else _) = nI (asG C F W V lo B n (off a + b))
              rw [if_pos c]
          | some j =>
            have hgj := gl j
            dsimp only
            by_cases hlt : asG C F W V lo B n (off a + b) < asG C F W V lo B n j
            · have c : nI (asG C F W V lo B n (off a + b)) < nI (asG C F W V lo B n j) := of_eq_true (lt_t hlt (by omega))
              rw [if_pos hlt]
              refine ⟨(_, _), rfl, ?_, ?_⟩
              · show (if nI (asG C F W V lo B n (off a + b)) < nI (asG C F W V lo B n j) then nI (asE (off a + b)) else _) = nI (asE (off a + b))
                rw [if_pos c]
              · show (if nI (asG C F W V lo B n (off a + b)) < nI (asG C F W V lo B n j) then nI (asG C F W V lo B n (off a + b)) else _) = nI (asG C F W V lo B n (off a + b))
                rw [if_pos c]
            · have c : ¬ nI (asG C F W V lo B n (off a + b)) < nI (asG C F W V lo B n j) := of_eq_false (lt_f (by omega) (by omega))
              rw [if_neg hlt]
              refine ⟨(_, _), rfl, ?_, ?_⟩
              · show (if nI (asG C F W V lo B n (off a + b)) < nI (asG C F W V lo B n j) then _ else nI (asE j)) = nI (asE j)
                rw [if_neg c]
              · show (if nI (asG C F W V lo B n (off a + b)) < nI (asG C F W V lo B n j) then _ else nI (asG C F W V lo B n j)) = nI (asG C F W V lo B n j)
                rw [if_neg c]) (-1, 1000000) ⟨rfl, rfl⟩
      dsimp only at c2 c3 c4
      rw [show off 5 + 0 = 23 + 1 from rfl, hjb] at c3 c4
      obtain ⟨v1, g1, g4, g5⟩ := m_ent1 (d + 7) (wI s 13 0 0 0) (lN (asG C F W V lo B n jb))
      refine ⟨v1, ?_, g4, fr_t (fr_m fr_0 (fun _ _ _ => p0_RQ)) (fr_m g5 (fun _ _ _ => pT_RQ))⟩
      rw [Ref_asks_eq, m_fitP hG hO ho hS0 hk, bI_s, hB, if_neg (show ¬ nI B = 0 from of_eq_false (eq_f (b := 0) hz (by omega) (by omega)))]
      refine c2.trans ?_
      rw [Ref_asks_L1_eq, nl_5, if_neg (of_eq_false (lt_f (by omega) (by omega))), c3, c4]
      show (bV (ev (d + 8) f_Ref_enters [vR 13 0, vL (nI (asG C F W V lo B n jb)).toInt64] (wI (wI s 13 0 0 0) 13 0 1 0)) fun s1 => some (some (vI (nI (asE jb))), s1)) = _
      rw [nI_l (by omega), g1, bV_s]
end ASKS2

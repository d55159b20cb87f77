/-! sign, end. -/
section TEXT1
variable {d k : Nat} {R C n T u q nh : Nat} {kd : Nat → Nat} {S S' : Sn} {L : List Nat} {l l' : List Int64} {sg sg' : Nat → Nat} {U : Nat → Sn} {K : Nat → Option Sn} {sq : Nat → Nat × Nat × Nat} {hq : Nat → Nat × Nat} {s t : xS} {x y z : Int32} {T' : Nat}
theorem CI_text (h : CI s ((R, C, kd), (n, S), (L, l), (T, sg), (u, U), K, (q, sq), nh, hq)) (f : fr (fun c _ _ => c = 1 ∨ c = 14) s t) (h5 : cT t T' sg') : CI t ((R, C, kd), (n, S), (L, l), (T', sg'), (u, U), K, (q, sq), nh, hq) ∧ fr pCls s t := by
  obtain ⟨a1, a2, a3, a4, a5, a6, a7, a8, a9⟩ := h
  exact ⟨⟨cG_fr a1 f (by omega) (by omega) (by omega), cO_fr a2 f (by omega) (by omega) (by omega) (by omega), cR_fr a3 f (by omega) (by omega), cRow_fr a4 f (by omega) (by omega), h5, cU_fr a6 f (by omega) (by omega) (by omega), cK_fr a7 f (by omega) (by omega) (by omega), cS_fr a8 f (by omega) (by omega), cH_fr a9 f (by omega) (by omega)⟩, fr_m f (fun c i k h => by unfold pCls; omega)⟩
theorem RI_text (hn : n ≤ 4) (h : RI s ((R, C, kd), (n, S), (L, l), (T, sg), (u, U), K, (q, sq), nh, hq) k) (f : fr (fun c _ k => c = 44 ∨ (c = 13 ∧ (k = 0 ∨ k = 11))) s t) (h5 : rT t T' sg') : RI t ((R, C, kd), (n, S), (L, l), (T', sg'), (u, U), K, (q, sq), nh, hq) (k + 1) ∧ fr pRef s t := by
  obtain ⟨a1, a2, a3, a4, a5, a6, a7, ⟨ch, c1, c2⟩, a8, a9⟩ := h
  exact ⟨⟨rG_fr a1 f (by omega) (by omega) (by omega), rO_fr a2 f (by omega) (by omega), rR_fr a3 f (by omega) (by omega), rRow_fr a4 f (by omega) (by omega), by rw [(f 13 0 38 (by omega)).1]; exact a5, h5, rU_fr hn a7 f (by omega) (by omega), ⟨ch, by omega, rK_fr hn c2 f (by omega) (by omega) (by omega) (by omega)⟩, rS_fr a8 f (by omega) (by omega) (by omega) (by omega), rH_fr a9 f (by omega) (by omega) (by omega)⟩, fr_m f (fun c i k h => by unfold pRef; omega)⟩
theorem s_end (ha : AOk ((R, C, kd), (n, S), (L, l), (T, sg), (u, U), K, (q, sq), nh, hq)) (x : Int32) : GsS d f_Main_end f_Ref_end [vI x] ((R, C, kd), (n, S), (L, l), (T, sg), (u, U), K, (q, sq), nh, hq) k := by
  have hn : n ≤ 4 := ha.2.1.1
  have hT : tOk T sg := ha.2.2.2.1
  have h80 := hT.1
  have hz : ((nI T).toInt64).toInt = ((T + 1 : Nat) : Int) - 1 := by rw [Int32.toInt_toInt64, nI_toInt (by omega)]; omega
  cases hx : x_in x (T + 1) with
  | false =>
    refine ⟨ib false, _, ha, fun s hs => ?_, fun s hs => ?_⟩
    · have h1 : s.1 1 0 1 = nI T := hs.2.2.2.2.1.1
      refine ⟨s, ?_, hs, fr_r _ _⟩
      rw [Main_end_eq, Text_cut_eq, h1]
      by_cases z : x < 0
      · rw [if_pos z, bI_s, nb_0, nb_ib]
      · rw [if_neg z]
        obtain ⟨m, hm, rfl⟩ := nI_of z
        rw [n_in (by omega), decide_eq_false_iff_not] at hx
        rw [if_pos (of_eq_true (lt_t (by omega) (by omega))), bI_s, nb_0, nb_ib]
    · have h1 : s.1 13 0 11 = nI T := hs.2.2.2.2.2.1.1
      refine ⟨wI s 13 0 0 0, ?_, RI_0 hn hs⟩
      rw [Ref_end_eq, h1, m_in0 (n := T + 1) _ hz, hx, bI_s, if_pos (by decide), nb_0]
  | true =>
    have hx' := hx
    obtain ⟨m, hm, rfl⟩ := (n_in_iff (by omega)).mp hx
    refine ⟨ib true, ((R, C, kd), (n, S), (L, l), (m, sg), (u, U), K, (q, sq), nh, hq), ⟨ha.1, ha.2.1, ha.2.2.1, ⟨show m ≤ 80 by omega, fun k hk => hT.2 k (Nat.lt_of_lt_of_le hk (by show m ≤ T; omega))⟩, ha.2.2.2.2⟩, fun s hs => ?_, fun s hs => ?_⟩
    · obtain ⟨h1, h2⟩ : cT s T sg := hs.2.2.2.2.1
      refine ⟨wI s 1 0 1 (nI m), ?_, CI_text hs (fr_wI (fr_r _ _) (by omega)) ⟨wI_s1 _ _ _ _ _, fun k hk => by rw [wI_nc (by omega)]; exact h2 k (by omega)⟩⟩
      rw [Main_end_eq, Text_cut_eq, h1, if_neg (nI_pos (by omega)), if_neg (of_eq_false (lt_f (by omega) (by omega))), bI_s, nb_1, nb_ib]
    · obtain ⟨h1, h2⟩ : rT s T sg := hs.2.2.2.2.2.1
      refine ⟨wI (wI s 13 0 0 0) 13 0 11 (nI m), ?_, RI_text hn hs (fr_wI (fr_wI (fr_r _ _) (by omega)) (by omega)) ⟨wI_s1 _ _ _ _ _, fun k hk => by rw [wI_nc (by omega), wI_nc (by omega)]; exact h2 k (by omega)⟩⟩
      rw [Ref_end_eq, h1, m_in0 (n := T + 1) _ hz, hx', bI_s, if_neg (by decide), nb_1]
def lo8 (x : Int32) : Nat := x.toBitVec.toNat % 256
theorem and255 (x : Int32) : x &&& 255 = nI (lo8 x) := by
  apply Int32.toBitVec_inj.mp
  apply BitVec.eq_of_toNat_eq
  rw [Int32.toBitVec_and, BitVec.toNat_and]
  show x.toBitVec.toNat &&& 255 = (BitVec.ofNat 32 (lo8 x)).toNat
  have hl : lo8 x < 2 ^ 32 := Nat.lt_of_lt_of_le (Nat.mod_lt _ (show 0 < 256 by decide)) (by decide)
  rw [BitVec.toNat_ofNat, Nat.mod_eq_of_lt hl]
  exact Nat.and_two_pow_sub_one_eq_mod x.toBitVec.toNat 8
theorem sh255 (x : Int32) {m : Nat} (hm : m ≤ 24) : jshr x (nI m) &&& 255 = jushr x (nI m) &&& 255 := by
  apply Int32.toBitVec_inj.mp
  apply BitVec.eq_of_getLsbD_eq
  intro i hi
  rw [Int32.toBitVec_and, Int32.toBitVec_and, BitVec.getLsbD_and, BitVec.getLsbD_and]
  have h1 : (jshr x (nI m)).toBitVec.getLsbD i = if m + i < 32 then bt x (m + i) else bt x 31 := b_sshr m (by omega) x hi
  have h2 : (jushr x (nI m)).toBitVec.getLsbD i = bt x (m + i) := b_ushr m (by omega) x i
  have h3 : (255 : Int32).toBitVec.getLsbD i = decide (i < 8) := b_255 i
  rw [h1, h2, h3]
  by_cases h : i < 8
  · rw [if_pos (by omega)]
  · rw [decide_eq_false h, Bool.and_false, Bool.and_false]
/-- the four signs of an int -/
def byN (x : Int32) (j : Nat) : Nat := lo8 (jushr x (nI (24 - 8 * j)))
def sgN (T : Nat) (sg : Nat → Nat) (x : Int32) (j : Nat) : Nat → Nat := fun k => if T ≤ k ∧ k < T + j then byN x (k - T) else sg k
theorem yJ {j : Nat} (hj : j ≤ 3) : (24 : Int32) - nI (8 * j) = nI (24 - 8 * j) := by rw [nl_24, n_sub (by omega)]
theorem s_sign (ha : AOk ((R, C, kd), (n, S), (L, l), (T, sg), (u, U), K, (q, sq), nh, hq)) (x : Int32) : GsS d f_Main_sign f_Ref_sign [vI x] ((R, C, kd), (n, S), (L, l), (T, sg), (u, U), K, (q, sq), nh, hq) k := by
  have hn : n ≤ 4 := ha.2.1.1
  have hT : tOk T sg := ha.2.2.2.1
  have h80 := hT.1
  by_cases h76 : 76 < T
  · refine ⟨-1, _, ha, fun s hs => ?_, fun s hs => ?_⟩
    · have h1 : s.1 1 0 1 = nI T := hs.2.2.2.2.1.1
      refine ⟨s, ?_, hs, fr_r _ _⟩
      rw [Main_sign_eq, Text_append_eq, h1, nl_4, nI_add, nl_80, if_pos (of_eq_true (lt_t (by omega) (by omega))), bI_s, nb_0, if_pos (by decide)]
    · have h1 : s.1 13 0 11 = nI T := hs.2.2.2.2.2.1.1
      refine ⟨wI s 13 0 0 0, ?_, RI_0 hn hs⟩
      rw [Ref_sign_eq, h1, nl_76, if_pos (of_eq_true (lt_t h76 (by omega)))]
  · refine ⟨nI (T + 4), ((R, C, kd), (n, S), (L, l), (T + 4, sgN T sg x 4), (u, U), K, (q, sq), nh, hq), ⟨ha.1, ha.2.1, ha.2.2.1, ⟨show T + 4 ≤ 80 by omega, fun k hk => ?_⟩, ha.2.2.2.2⟩, fun s hs => ?_, fun s hs => ?_⟩
    · show (if T ≤ k ∧ k < T + 4 then byN x (k - T) else sg k) < 256
      have hk : k < T + 4 := hk
      by_cases h : T ≤ k ∧ k < T + 4
      · rw [if_pos h]; exact Nat.mod_lt _ (by decide)
      · rw [if_neg h]; exact hT.2 k (by omega)
    · obtain ⟨h1, h2⟩ : cT s T sg := hs.2.2.2.2.1
      obtain ⟨t, k1, k2, k3, k4⟩ := chainE 4 (fun j (t : xS) => Text_append_L1 (d + 98) x (24 - nI (8 * j)) t) (fun j t => t.1 1 0 1 = nI (T + j) ∧ (∀ k, k < T + j → t.1 14 0 k = nI (sgN T sg x j k)) ∧ fr (fun c _ _ => c = 1 ∨ c = 14) s t) (by
        rintro j t hj ⟨g1, g2, g3⟩
        refine ⟨wI (wI t 14 0 (T + j) (nI (byN x j))) 1 0 1 (nI (T + (j + 1))), ?_, wI_s1 _ _ _ _ _, fun k hk => ?_, fr_wI (fr_wI g3 (by omega)) (by omega)⟩
        · show Text_append_L1 (d + 98) x (24 - nI (8 * j)) t = _
          have e8 : (24 : Int32) - nI (8 * j) + (-8) = 24 - nI (8 * (j + 1)) := by
            rcases (by omega : j = 0 ∨ j = 1 ∨ j = 2 ∨ j = 3) with rfl | rfl | rfl | rfl <;> decide
          rw [Text_append_L1_eq, e8, yJ (by omega), if_neg (nI_pos (by omega)), g1, in_t (show T + j < 80 by omega) (by omega), if_pos rfl, n_cl (by omega), nI_1, and255]
          rfl
        · rw [wI_nc (by omega)]
          show _ = nI (if T ≤ k ∧ k < T + (j + 1) then byN x (k - T) else sg k)
          by_cases e : k = T + j
          · rw [e, wI_s1, if_pos (by omega), Nat.add_sub_cancel_left]
          · rw [wI_nk e, g2 k (by omega)]
            show nI (if T ≤ k ∧ k < T + j then byN x (k - T) else sg k) = _
            by_cases h : T ≤ k ∧ k < T + j
            · rw [if_pos h, if_pos (by omega)]
            · rw [if_neg h, if_neg (by omega)]) 4 0 s (by omega) ⟨h1, fun k hk => by
              rw [h2 k (by omega)]
              show _ = nI (if T ≤ k ∧ k < T + 0 then byN x (k - T) else sg k)
              rw [if_neg (by omega)], fr_r _ _⟩
      have k1' : Text_append_L1 (d + 98) x 24 s = Text_append_L1 (d + 98) x (24 - nI (8 * 4)) t := k1
      refine ⟨t, ?_, CI_text hs k4 ⟨k2, k3⟩⟩
      rw [Main_sign_eq, Text_append_eq, h1, nl_4, nI_add, nl_80, if_neg (of_eq_false (lt_f (by omega) (by omega))), k1', Text_append_L1_eq, if_pos (by decide), bI_s, nb_1, if_neg (by decide), k2]
    · obtain ⟨h1, h2⟩ : rT s T sg := hs.2.2.2.2.2.1
      obtain ⟨t, k1, k2, k3⟩ := chainE 4 (fun j (t : xS) => Ref_sign_L1 (d + 99) x (nI j) t) (fun j t => (∀ k, k < T + j → t.1 44 0 k = nI (sgN T sg x j k)) ∧ fr (fun c _ k => c = 44 ∨ (c = 13 ∧ k = 0)) s t) (by
        rintro j t hj ⟨g2, g3⟩
        refine ⟨wI t 44 0 (T + j) (nI (byN x j)), ?_, fun k hk => ?_, fr_wI g3 (by omega)⟩
        · show Ref_sign_L1 (d + 99) x (nI j) t = _
          have e8 : (24 : Int32) - 8 * nI j = nI (24 - 8 * j) := by rw [nl_8, pk_mul, yJ (by omega)]
          rw [Ref_sign_L1_eq, if_pos (show nI j < 4 from of_eq_true (lt_t (b := 4) hj (by omega))), (g3 13 0 11 (by omega)).1, h1, nI_add, in_t (show T + j < 80 by omega) (by omega), if_pos rfl, n_cl (by omega), nI_1, e8, sh255 x (by omega), and255]
          rfl
        · show _ = nI (if T ≤ k ∧ k < T + (j + 1) then byN x (k - T) else sg k)
          by_cases e : k = T + j
          · rw [e, wI_s1, if_pos (by omega), Nat.add_sub_cancel_left]
          · rw [wI_nk e, g2 k (by omega)]
            show nI (if T ≤ k ∧ k < T + j then byN x (k - T) else sg k) = _
            by_cases h : T ≤ k ∧ k < T + j
            · rw [if_pos h, if_pos (by omega)]
            · rw [if_neg h, if_neg (by omega)]) 4 0 (wI s 13 0 0 0) (by omega) ⟨fun k hk => by
              rw [wI_nc (by omega), h2 k (by omega)]
              show _ = nI (if T ≤ k ∧ k < T + 0 then byN x (k - T) else sg k)
              rw [if_neg (by omega)], fr_wI (fr_r _ _) (by omega)⟩
      have k1' : Ref_sign_L1 (d + 99) x 0 (wI s 13 0 0 0) = Ref_sign_L1 (d + 99) x (nI 4) t := k1
      refine ⟨wI t 13 0 11 (nI (T + 4)), ?_, RI_text hn hs (fr_wI (fr_m k3 (by omega)) (by omega)) ⟨wI_s1 _ _ _ _ _, fun k hk => by rw [wI_nc (by omega)]; exact k2 k hk⟩⟩
      rw [Ref_sign_eq, h1, nl_76, if_neg (of_eq_false (lt_f (by omega) (by omega))), k1', Ref_sign_L1_eq, if_neg (by decide), (k3 13 0 11 (by omega)).1, h1, nl_4, nI_add]
end TEXT1

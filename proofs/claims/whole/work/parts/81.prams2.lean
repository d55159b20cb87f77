/-! prams: both alike. -/
section PRAMT
variable {d k : Nat} {R C n T u q nh : Nat} {kd : Nat → Nat} {S : Sn} {L : List Nat} {l : List Int64} {sg : Nat → Nat} {U : Nat → Sn} {K : Nat → Option Sn} {sq : Nat → Nat × Nat × Nat} {hq : Nat → Nat × Nat} {s t : xS} {p E N : Nat}
theorem wI_same {c i k : Nat} : wI s c i k (s.1 c i k) = s := by
  refine Prod.ext (funext fun c' => funext fun i' => funext fun k' => ?_) rfl
  by_cases z : c' = c ∧ i' = i ∧ k' = k
  · obtain ⟨rfl, rfl, rfl⟩ := z
    exact wI_s1 _ _ _ _ _
  · exact (fr_wI (p := fun a b e => a = c ∧ b = i ∧ e = k) (fr_r _ s) ⟨rfl, rfl, rfl⟩ c' i' k' z).1
def pPr (c _i k : Nat) : Prop := (c = 13 ∧ (k = 0 ∨ k = 11 ∨ k = 12 ∨ k = 13 ∨ k = 14 ∨ k = 17)) ∨ c = 46
theorem RI_prF (hn : n ≤ 4) (h : RI s ((R, C, kd), (n, S), (L, l), (T, sg), (u, U), K, (q, sq), nh, hq) k) (f : fr pPr s t) (h11 : t.1 13 0 11 = 0) : RI t ((R, C, kd), (n, S), (L, l), (0, sg), (u, U), K, (q, sq), nh, hq) (k + 1) ∧ fr pRef s t := by
  obtain ⟨a1, a2, a3, a4, a5, a6, a7, ⟨ch, c1, c2⟩, a8, a9⟩ := h
  unfold pPr at f
  exact ⟨⟨rG_fr a1 f (by omega) (by omega) (by omega), rO_fr a2 f (by omega) (by omega), rR_fr a3 f (by omega) (by omega), rRow_fr a4 f (by omega) (by omega), by rw [(f 13 0 38 (by omega)).1]; exact a5, ⟨h11, fun k hk => absurd hk (Nat.not_lt_zero k)⟩, rU_fr hn a7 f (by omega) (by omega), ⟨ch, by omega, rK_fr hn c2 f (by omega) (by omega) (by omega) (by omega)⟩, rS_fr a8 f (by omega) (by omega) (by omega) (by omega), rH_fr a9 f (by omega) (by omega) (by omega)⟩, fr_m f (fun c i k h => by unfold pRef; omega)⟩
theorem s_prams (ha : AOk ((R, C, kd), (n, S), (L, l), (T, sg), (u, U), K, (q, sq), nh, hq)) : GsS d f_Main_prams f_Ref_prams [] ((R, C, kd), (n, S), (L, l), (T, sg), (u, U), K, (q, sq), nh, hq) k := by
  have hn : n ≤ 4 := ha.2.1.1
  have ht : tOk T sg := ha.2.2.2.1
  have hR : 2 ≤ R := ha.1.1
  have hC : 2 ≤ C := ha.1.2.2.1
  have h80 := ht.1
  have ht0 : tOk 0 sg := ⟨Nat.zero_le _, fun k hk => absurd hk (Nat.not_lt_zero k)⟩
  have haF : AOk ((R, C, kd), (n, S), (L, l), (0, sg), (u, U), K, (q, sq), nh, hq) := ⟨ha.1, ha.2.1, ha.2.2.1, ht0, ha.2.2.2.2⟩
  have fx : ∀ {a b : xS}, fr pTx a b → fr pPr a b := fun f => fr_m f (fun c i k h => by unfold pTx at h; unfold pPr; omega)
  have fl : ∀ {a b : xS}, fr pLn a b → fr pPr a b := fun f => fr_m f (fun c i k h => by unfold pLn at h; unfold pPr; omega)
  by_cases hT0 : T = 0
  · refine ⟨0, _, haF, fun s hs => ?_, fun s hs => ?_⟩
    · obtain ⟨a, o1, o2, o3⟩ := c_openN (d := d + 96) (N := 15) (by omega) hs.2.2.2.2.1 ht
      have o1' : ev (d + 98) f_Text_open [vR 1 0, vI 15] s = some (none, a) := o1
      have e0 : a.1 1 0 1 = 0 := by rw [o2.1.1, hT0]; rfl
      refine ⟨wI a 1 0 1 0, ?_, CI_fail hs o3⟩
      rw [Main_prams_eq, Main_countLines_eq, o1', bV_s, if_pos e0, bI_s, if_neg (by decide), Main_prams_L1_eq, if_neg (by decide), Text_close_eq, bI_s, if_neg (by decide)]
    · obtain ⟨a, o1, o2, o3, o4⟩ := m_beginsN (d := d + 97) (N := 15) (by omega) hs.2.2.2.2.2.1 ht
      have o1' : ev (d + 99) f_Ref_begins [vR 13 0, vI 15] (wI s 13 0 0 0) = some (some (vI (nI T)), a) := o1
      obtain ⟨b, eb⟩ : ∃ b, wI a 13 0 17 0 = b := ⟨_, rfl⟩
      have f1 : fr (fun c _ k => c = 13 ∧ k = 17) a b := by rw [← eb]; exact fr_wI (fr_r _ _) ⟨rfl, rfl⟩
      have hX := rX_fr o2 f1 (by omega) (by omega) (by omega)
      have b17 : b.1 13 0 17 = 0 := by rw [← eb, wI_s1]
      have hf := m_fault (d := d + 98) (b := true) hX rfl (by omega) h80
      rw [if_pos ⟨rfl, hT0.symm⟩] at hf
      have hf' : ev (d + 99) f_Ref_faultOf [vR 13 0, vI (nI T), vI 15, vI 1] b = some (some (vI 0), b) := hf
      have hz : ¬ (0 : Int32) < nI T := by rw [hT0]; decide
      refine ⟨b, ?_, RI_prF hn hs (fr_t (fx o4) (fr_m f1 (fun c i k h => by unfold pPr; omega))) (by rw [(f1 13 0 11 (by omega)).1]; exact o3)⟩
      have hv : b.1 13 0 7 + ib false = b.1 13 0 7 := by rw [show ib false = 0 from rfl, Int32.add_zero]
      rw [Ref_prams_eq, o1', bI_s, if_neg hz, eb, Ref_prams_L1_eq, if_pos rfl, hf', bI_s, if_neg (by decide), Ref_prams_L2_eq, b17, if_neg (by decide), if_neg (by decide), Ref_prams_J3_eq, b17, if_neg (by decide), wI_same, Ref_prams_J4_eq, m_flag0, bI_s, hv, wI_same, b17]
  · obtain ⟨E, hE⟩ : ∃ E, E = min T 15 := ⟨_, rfl⟩
    have hET : E ≤ T := by omega
    have hzT : ¬ nI T = 0 := of_eq_false (eq_f (b := 0) hT0 (by omega) (by omega))
    have hpT : (0 : Int32) < nI T := of_eq_true (lt_t (a := 0) (by omega) (by omega))
    have hc : ∀ s, CI s ((R, C, kd), (n, S), (L, l), (T, sg), (u, U), K, (q, sq), nh, hq) → ∃ t, ev (d + 99) f_Main_countLines [vR 0 0] s = some (some (vI (oI (plX R C kd sg T E (4 - n) 0).2)), t) ∧ cX t T sg E (plX R C kd sg T E (4 - n) 0).1 ∧ fr (fun c _ k => c = 1 ∧ 2 ≤ k) s t := fun s hs => by
      obtain ⟨a, o1, o2, o3⟩ := c_openN (d := d + 96) (N := 15) (by omega) hs.2.2.2.2.1 ht
      have o1' : ev (d + 98) f_Text_open [vR 1 0, vI 15] s = some (none, a) := o1
      rw [← hE] at o2
      obtain ⟨t, t1, t2, t3⟩ := c_lines (d := d + 93) (n := n) (4 - n) 0 a (by omega) (cG_fr hs.1 o3 (by omega) (by omega) (by omega)) o2
      have h33 : a.1 3 0 3 = nI n := by rw [(o3 3 0 3 (by omega)).1]; exact hs.2.1.1
      have t1' : Main_countLines_L1 (d + 98) 0 (nI n) a = some (some (vI (oI (plX R C kd sg T E (4 - n) 0).2)), t) := t1
      refine ⟨t, ?_, t2, fr_t o3 (fr_m t3 (by omega))⟩
      rw [Main_countLines_eq, o1', bV_s, o2.1.1, if_neg hzT, h33, t1']
    have hm : ∀ s, RI s ((R, C, kd), (n, S), (L, l), (T, sg), (u, U), K, (q, sq), nh, hq) k → ∃ a, ev (d + 100) f_Ref_prams [vR 13 0] s = Ref_prams_L1 (d + 99) (nI T) 1 1 a ∧ rX a sg E 0 ∧ a.1 13 0 17 = nI 0 ∧ a.1 13 0 11 = 0 ∧ fr pPr s a := fun s hs => by
      obtain ⟨a, o1, o2, o3, o4⟩ := m_beginsN (d := d + 97) (N := 15) (by omega) hs.2.2.2.2.2.1 ht
      have o1' : ev (d + 99) f_Ref_begins [vR 13 0, vI 15] (wI s 13 0 0 0) = some (some (vI (nI T)), a) := o1
      rw [← hE] at o2
      have f1 : fr (fun c _ k => c = 13 ∧ k = 17) a (wI a 13 0 17 0) := fr_wI (fr_r _ _) ⟨rfl, rfl⟩
      refine ⟨wI a 13 0 17 0, ?_, rX_fr o2 f1 (by omega) (by omega) (by omega), wI_s1 _ _ _ _ _, by rw [wI_nk (by omega)]; exact o3, fr_t (fx o4) (fr_m f1 (fun c i k h => by unfold pPr; omega))⟩
      rw [Ref_prams_eq, o1', bI_s, if_pos hpT]
    cases hp : (plX R C kd sg T E (4 - n) 0).2 with
    | none =>
      refine ⟨(-1) - nI (plX R C kd sg T E (4 - n) 0).1, _, haF, fun s hs => ?_, fun s hs => ?_⟩
      · obtain ⟨t, t1, t2, t3⟩ := hc s hs
        rw [hp] at t1
        refine ⟨wI t 1 0 1 0, ?_, CI_fail hs t3⟩
        rw [Main_prams_eq, t1, bI_s, oI_n, if_pos rfl, Text_close_eq, t2.2.2.1, bI_s]
      · obtain ⟨a, e1, e2, e3, e4, e5⟩ := hm s hs
        obtain ⟨t, t1, t2, t3⟩ := m_lines (d := d + 93) (n := n) (T := T) hE h80 (4 - n) 0 a (by omega) (rG_fr hs.1 e5 (by simp [pPr]) (by simp [pPr]) (by simp [pPr])) (by rw [(e5 13 0 6 (by simp [pPr])).1]; exact hs.2.1.1) e3 e2 (fun k hk => absurd hk (Nat.not_lt_zero k))
        rw [hp] at t3
        have t3 : Ref_prams_L1 (d + 99) (nI T) 1 1 a = some (some (vI ((-1) - nI (plX R C kd sg T E (4 - n) 0).1)), t) := t3
        refine ⟨t, by rw [e1, t3], RI_prF hn hs (fr_t e5 (fl t2)) (by rw [(t2 13 0 11 (by simp [pLn])).1]; exact e4)⟩
    | some m =>
      obtain ⟨hm1, hm2, hg⟩ := plX_s (n := n) (4 - n) 0 (by omega) (by omega) (by omega) (fun k hk => absurd hk (Nat.not_lt_zero k)) hp
      have hpm : (0 : Int32) < nI m := of_eq_true (lt_t (a := 0) (by omega) (by omega))
      have hO := psS_ok (R := R) (C := C) (by omega) (by omega) ha.2.1 hg hm2 m (Nat.le_refl _)
      refine ⟨nI m, ((R, C, kd), (n + m, psS R C kd sg E n S m), (L, l), (0, sg), (0, U), (fun _ => none), (q, sq), nh, hq), ⟨ha.1, hO, ha.2.2.1, ht0, fun i hi => absurd hi (Nat.not_lt_zero i), fun i S _ h => (by cases h), ha.2.2.2.2.2.2⟩, fun s hs => ?_, fun s hs => ?_⟩
      · obtain ⟨t, t1, t2, t3⟩ := hc s hs
        rw [hp, oI_s] at t1
        obtain ⟨w, w1, w2, w3⟩ := c_padd (d := d + 98) (cG_fr hs.1 t3 (by omega) (by omega) (by omega)) (cO_fr hs.2.1 t3 (by omega) (by omega) (by omega) (by omega)) ha.2.1 t2.1 ht hET hg hm2
        have ff : fr (fun c i k => c = 1 ∨ ((c = 3 ∨ c = 17 ∨ c = 18 ∨ c = 19) ∧ i = 0) ∨ (c = 4 ∧ (k = 4 ∨ k = 5))) s (wI (wI (wI w 1 0 1 0) 4 0 4 0) 4 0 5 0) := fr_wI (fr_wI (fr_wI (fr_t (fr_m t3 (by omega)) (fr_m w3 (by omega))) (by omega)) (by omega)) (by omega)
        obtain ⟨a1, a2, a3, a4, a5, a6, a7, a8, a9⟩ := hs
        have f3 : fr (fun c _ _ => c = 1 ∨ c = 4) w (wI (wI (wI w 1 0 1 0) 4 0 4 0) 4 0 5 0) := fr_wI (fr_wI (fr_wI (fr_r _ _) (by omega)) (by omega)) (by omega)
        refine ⟨wI (wI (wI w 1 0 1 0) 4 0 4 0) 4 0 5 0, ?_, ⟨cG_fr a1 ff (by omega) (by omega) (by omega), cO_fr w2 f3 (by omega) (by omega) (by omega) (by omega), cR_fr a3 ff (by omega) (by omega), cRow_fr a4 ff (by omega) (by omega), ⟨by rw [wI_nc (by omega), wI_nc (by omega), wI_s1]; rfl, fun k hk => absurd hk (Nat.not_lt_zero k)⟩, ⟨by rw [wI_nk (by omega), wI_s1]; rfl, Nat.zero_le _, fun i hi => absurd hi (Nat.not_lt_zero i)⟩, ⟨0, by rw [wI_s1]; rfl, by omega, fun i hi => ⟨Nat.zero_testBit i, fun S h => (by cases h)⟩⟩, cS_fr a8 ff (by omega) (by omega), cH_fr a9 ff (by omega) (by omega)⟩, fr_m ff (fun c i k h => by unfold pCls; omega)⟩
        rw [Main_prams_eq, t1, bI_s, if_neg (m1_nn (by omega)), w1, Main_prams_L1_eq, if_neg (of_eq_false (lt_f (Nat.le_refl _) (by omega))), Text_close_eq, bI_s, if_pos hpm, Memory_clear_eq, bV_s]
      · obtain ⟨a, e1, e2, e3, e4, e5⟩ := hm s hs
        obtain ⟨t, t1, t2, t3⟩ := m_lines (d := d + 93) (n := n) (T := T) hE h80 (4 - n) 0 a (by omega) (rG_fr hs.1 e5 (by simp [pPr]) (by simp [pPr]) (by simp [pPr])) (by rw [(e5 13 0 6 (by simp [pPr])).1]; exact hs.2.1.1) e3 e2 (fun k hk => absurd hk (Nat.not_lt_zero k))
        rw [hp] at t3
        have t3 : Ref_prams_L1 (d + 99) (nI T) 1 1 a = Ref_prams_L2 (d + 99) 0 t ∧ t.1 13 0 17 = nI m ∧ ln46 R C kd sg E m t := t3
        have ft := fr_t e5 (fl t2)
        obtain ⟨w, w1, w2, w3⟩ := m_padd (d := d + 99) (rO_fr hs.2.1 ft (by simp [pPr]) (by simp [pPr])) t3.2.1 t3.2.2 hm2
        have w17 : w.1 13 0 17 = nI m := by rw [(w3 13 0 17 (by omega)).1]; exact t3.2.1
        obtain ⟨a1, a2, a3, a4, a5, a6, a7, ⟨ch, c1, c2⟩, a8, a9⟩ := hs
        obtain ⟨z, ez⟩ : ∃ z, wI (wI w 13 0 26 0) 13 0 7 (nI (ch + 1)) = z := ⟨_, rfl⟩
        have f3 : fr (fun c _ k => c = 13 ∧ (k = 26 ∨ k = 7)) w z := by rw [← ez]; exact fr_wI (fr_wI (fr_r _ _) (by omega)) (by omega)
        have ff : fr (fun c i k => (c = 13 ∧ (k = 0 ∨ k = 11 ∨ k = 12 ∨ k = 13 ∨ k = 14 ∨ k = 17 ∨ k = 6 ∨ k = 26 ∨ k = 7)) ∨ c = 46 ∨ (c = 43 ∧ i = 0)) s z := fr_t (fr_t (fr_m ft (fun c i k h => by unfold pPr at h; omega)) (fr_m w3 (by omega))) (fr_m f3 (by omega))
        have h7 : w.1 13 0 7 = nI ch := by rw [(w3 13 0 7 (by omega)).1, (ft 13 0 7 (by simp [pPr])).1]; exact c2.1
        have z7 : z.1 13 0 7 = nI (ch + 1) := by rw [← ez, wI_s1]
        have z26 : z.1 13 0 26 = nI 0 := by rw [← ez, wI_nk (by omega), wI_s1]; rfl
        have z11 : z.1 13 0 11 = nI 0 := by rw [(f3 13 0 11 (by omega)).1, (w3 13 0 11 (by omega)).1, (t2 13 0 11 (by simp [pLn])).1, e4]; rfl
        refine ⟨z, ?_, ⟨rG_fr a1 ff (by omega) (by omega) (by omega), rO_fr w2 f3 (by omega) (by omega), rR_fr a3 ff (by omega) (by omega), rRow_fr a4 ff (by omega) (by omega), by rw [(ff 13 0 38 (by omega)).1]; exact a5, ⟨z11, fun k hk => absurd hk (Nat.not_lt_zero k)⟩, ⟨z26, Nat.zero_le _, fun i hi => absurd hi (Nat.not_lt_zero i)⟩, ⟨ch + 1, by omega, rK_new c2 z7 (fun i _ => (ff 71 0 i (by omega)).1) (fun i _ => (ff 72 0 i (by omega)).1)⟩, rS_fr a8 ff (by omega) (by omega) (by omega) (by omega), rH_fr a9 ff (by omega) (by omega) (by omega)⟩, fr_m ff (fun c i k h => by unfold pRef; omega)⟩
        rw [e1, t3.1, w1, Ref_prams_L2_eq, w17, if_neg (of_eq_false (lt_f (Nat.le_refl _) (by omega))), if_pos hpm, Ref_prams_J3_eq, w17, if_pos hpm, Ref_prams_J4_eq, m_flag1, bI_s, h7, wI_nk (by omega), w17, show ib true = 1 from rfl, nI_1, ez]
end PRAMT

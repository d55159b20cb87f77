/-! Every question as a step; saw, denies, heard, forget. -/
section NOTES1
variable {d k : Nat} {R C n T u q nh : Nat} {kd : Nat → Nat} {S S' : Sn} {L : List Nat} {l l' : List Int64} {sg : Nat → Nat} {U : Nat → Sn} {K : Nat → Option Sn} {sq sq' : Nat → Nat × Nat × Nat} {hq hq' : Nat → Nat × Nat} {s t v : xS} {r x y : Int32} {q' nh' : Nat}
theorem GsS_n {fc fm : Nat} {as : List xV} (ha : AOk ((R, C, kd), (n, S), (L, l), (T, sg), (u, U), K, (q, sq), nh, hq)) (hh : ∃ r l', (∀ s, CQ s R C kd n S.1 S.2.1 S.2.2.1 S.2.2.2.1 S.2.2.2.2 L l → QC s (ev (d + 91 + 9) fc (vR 0 0 :: as) s) r l') ∧ (∀ s, RQ s R C kd n S.1 S.2.1 S.2.2.1 S.2.2.2.1 S.2.2.2.2 L l → QR s (ev (d + 91 + 9) fm (vR 13 0 :: as) s) r l')) : GsS d fc fm as ((R, C, kd), (n, S), (L, l), (T, sg), (u, U), K, (q, sq), nh, hq) k := by
  obtain ⟨r, l', h1, h2⟩ := hh
  exact GsS_q ha ⟨r, l', fun s h _ _ => h1 s h, fun s h _ _ => h2 s h⟩
theorem s_sees (ha : AOk ((R, C, kd), (n, S), (L, l), (T, sg), (u, U), K, (q, sq), nh, hq)) (x : Int32) : GsS d f_Main_sees f_Ref_sees [vI x] ((R, C, kd), (n, S), (L, l), (T, sg), (u, U), K, (q, sq), nh, hq) k := GsS_n ha (q_sees ha.2.1 ha.2.2.1 x)
theorem s_would (ha : AOk ((R, C, kd), (n, S), (L, l), (T, sg), (u, U), K, (q, sq), nh, hq)) (x y z : Int32) : GsS d f_Main_would f_Ref_would [vI x, vI y, vI z] ((R, C, kd), (n, S), (L, l), (T, sg), (u, U), K, (q, sq), nh, hq) k := GsS_n ha (q_would ha.2.1 ha.2.2.1 x y z)
theorem s_stops (ha : AOk ((R, C, kd), (n, S), (L, l), (T, sg), (u, U), K, (q, sq), nh, hq)) (x : Int32) : GsS d f_Main_stops f_Ref_stops [vI x] ((R, C, kd), (n, S), (L, l), (T, sg), (u, U), K, (q, sq), nh, hq) k := GsS_n ha (q_stops ha.2.1 x)
theorem s_rounds (ha : AOk ((R, C, kd), (n, S), (L, l), (T, sg), (u, U), K, (q, sq), nh, hq)) : GsS d f_Main_rounds f_Ref_rounds [] ((R, C, kd), (n, S), (L, l), (T, sg), (u, U), K, (q, sq), nh, hq) k := GsS_n ha q_rounds
theorem s_basin (ha : AOk ((R, C, kd), (n, S), (L, l), (T, sg), (u, U), K, (q, sq), nh, hq)) (x : Int32) : GsS d f_Main_basin f_Ref_basin [vI x] ((R, C, kd), (n, S), (L, l), (T, sg), (u, U), K, (q, sq), nh, hq) k := GsS_n ha (q_basin x)
theorem s_shoulders (ha : AOk ((R, C, kd), (n, S), (L, l), (T, sg), (u, U), K, (q, sq), nh, hq)) (x : Int32) : GsS d f_Main_shoulders f_Ref_shoulders [vI x] ((R, C, kd), (n, S), (L, l), (T, sg), (u, U), K, (q, sq), nh, hq) k := GsS_n ha (q_shoulders x)
theorem s_pond (ha : AOk ((R, C, kd), (n, S), (L, l), (T, sg), (u, U), K, (q, sq), nh, hq)) (x y z : Int32) : GsS d f_Main_pond f_Ref_pond [vI x, vI y, vI z] ((R, C, kd), (n, S), (L, l), (T, sg), (u, U), K, (q, sq), nh, hq) k := GsS_n ha (q_pond x y z)
theorem s_way (ha : AOk ((R, C, kd), (n, S), (L, l), (T, sg), (u, U), K, (q, sq), nh, hq)) (x y : Int32) : GsS d f_Main_way f_Ref_way [vI x, vI y] ((R, C, kd), (n, S), (L, l), (T, sg), (u, U), K, (q, sq), nh, hq) k := GsS_n ha (q_way x y)
theorem s_reach (ha : AOk ((R, C, kd), (n, S), (L, l), (T, sg), (u, U), K, (q, sq), nh, hq)) (x : Int32) : GsS d f_Main_reach f_Ref_reach [vI x] ((R, C, kd), (n, S), (L, l), (T, sg), (u, U), K, (q, sq), nh, hq) k := GsS_n ha (q_reach x)
theorem s_nearest (ha : AOk ((R, C, kd), (n, S), (L, l), (T, sg), (u, U), K, (q, sq), nh, hq)) : GsS d f_Main_nearest f_Ref_nearest [] ((R, C, kd), (n, S), (L, l), (T, sg), (u, U), K, (q, sq), nh, hq) k := GsS_n ha (q_nearest ha.2.1)
theorem s_parts (ha : AOk ((R, C, kd), (n, S), (L, l), (T, sg), (u, U), K, (q, sq), nh, hq)) : GsS d f_Main_parts f_Ref_parts [] ((R, C, kd), (n, S), (L, l), (T, sg), (u, U), K, (q, sq), nh, hq) k := GsS_n ha q_parts
theorem s_gates (ha : AOk ((R, C, kd), (n, S), (L, l), (T, sg), (u, U), K, (q, sq), nh, hq)) : GsS d f_Main_gates f_Ref_gates [] ((R, C, kd), (n, S), (L, l), (T, sg), (u, U), K, (q, sq), nh, hq) k := GsS_n ha q_gates
theorem s_laws (ha : AOk ((R, C, kd), (n, S), (L, l), (T, sg), (u, U), K, (q, sq), nh, hq)) : GsS d f_Main_laws f_Ref_laws [] ((R, C, kd), (n, S), (L, l), (T, sg), (u, U), K, (q, sq), nh, hq) k := by
  obtain ⟨r, l', h1, h2⟩ := q_laws (d := d + 91) (R := R) (C := C) (kd := kd) (n := n) (F := S.1) (W := S.2.1) (V := S.2.2.1) (lo := S.2.2.2.1) (M := S.2.2.2.2) (L := L) (l := l) ha.2.2.2.2.2.2.1
  exact GsS_q ha ⟨r, l', fun s h g _ => h1 s h g, fun s h g _ => h2 s h g⟩
theorem s_looks (ha : AOk ((R, C, kd), (n, S), (L, l), (T, sg), (u, U), K, (q, sq), nh, hq)) : GsS d f_Main_looks f_Ref_looks [] ((R, C, kd), (n, S), (L, l), (T, sg), (u, U), K, (q, sq), nh, hq) k := by
  obtain ⟨r, l', h1, h2⟩ := q_looks (d := d + 91) (R := R) (C := C) (kd := kd) (n := n) (F := S.1) (W := S.2.1) (V := S.2.2.1) (lo := S.2.2.2.1) (M := S.2.2.2.2) (L := L) (l := l) ha.2.2.2.2.2.2.1
  exact GsS_q ha ⟨r, l', fun s h g _ => h1 s h g, fun s h g _ => h2 s h g⟩
theorem s_fits (ha : AOk ((R, C, kd), (n, S), (L, l), (T, sg), (u, U), K, (q, sq), nh, hq)) : GsS d f_Main_fits f_Ref_fits [] ((R, C, kd), (n, S), (L, l), (T, sg), (u, U), K, (q, sq), nh, hq) k := by
  obtain ⟨r, l', h1, h2⟩ := q_fits (d := d + 91) (L := L) (l := l) (M := S.2.2.2.2) ha.2.1 ha.2.2.2.2.2.2.2
  exact GsS_q ha ⟨r, l', fun s h _ g => h1 s h g, fun s h _ g => h2 s h g⟩
theorem s_asks (ha : AOk ((R, C, kd), (n, S), (L, l), (T, sg), (u, U), K, (q, sq), nh, hq)) : GsS d f_Main_asks f_Ref_asks [] ((R, C, kd), (n, S), (L, l), (T, sg), (u, U), K, (q, sq), nh, hq) k := by
  obtain ⟨r, l', h1, h2⟩ := q_asks (d := d + 91) (L := L) (l := l) (M := S.2.2.2.2) ha.2.1 ha.2.2.2.2.2.2.2
  exact GsS_q ha ⟨r, l', fun s h _ g => h1 s h g, fun s h _ g => h2 s h g⟩
theorem CI_note {p : Nat → Nat → Nat → Prop} (h : CI s ((R, C, kd), (n, S), (L, l), (T, sg), (u, U), K, (q, sq), nh, hq)) (f : fr p s t) (hp : ∀ c i k, p c i k → c = 11 ∨ c = 12 ∨ c = 39 ∨ c = 40) (h8 : cS t q' sq') (h9 : cH t nh' hq') : CI t ((R, C, kd), (n, S), (L, l), (T, sg), (u, U), K, (q', sq'), nh', hq') ∧ fr pCls s t := by
  obtain ⟨a1, a2, a3, a4, a5, a6, a7, a8, a9⟩ := h
  have g : fr (fun c _ _ => c = 11 ∨ c = 12 ∨ c = 39 ∨ c = 40) s t := fr_m f hp
  exact ⟨⟨cG_fr a1 g (by omega) (by omega) (by omega), cO_fr a2 g (by omega) (by omega) (by omega) (by omega), cR_fr a3 g (by omega) (by omega), cRow_fr a4 g (by omega) (by omega), cT_fr a5 g (by omega) (by omega), cU_fr a6 g (by omega) (by omega) (by omega), cK_fr a7 g (by omega) (by omega) (by omega), h8, h9⟩, fr_m g (fun c i k h => by unfold pCls; omega)⟩
def pNt (c _i k : Nat) : Prop := (c = 13 ∧ (k = 0 ∨ k = 51 ∨ k = 55)) ∨ c = 65 ∨ c = 66 ∨ c = 67 ∨ c = 68 ∨ c = 69
theorem RI_note (hn : n ≤ 4) (h : RI s ((R, C, kd), (n, S), (L, l), (T, sg), (u, U), K, (q, sq), nh, hq) k) (f : fr pNt s t) (h8 : rS t q' sq') (h9 : rH t nh' hq') : RI t ((R, C, kd), (n, S), (L, l), (T, sg), (u, U), K, (q', sq'), nh', hq') (k + 1) ∧ fr pRef s t := by
  obtain ⟨a1, a2, a3, a4, a5, a6, a7, ⟨ch, c1, c2⟩, a8, a9⟩ := h
  unfold pNt at f
  exact ⟨⟨rG_fr a1 f (by omega) (by omega) (by omega), rO_fr a2 f (by omega) (by omega), rR_fr a3 f (by omega) (by omega), rRow_fr a4 f (by omega) (by omega), by rw [(f 13 0 38 (by omega)).1]; exact a5, rT_fr a6 f (by omega) (by omega), rU_fr hn a7 f (by omega) (by omega), ⟨ch, by omega, rK_fr hn c2 f (by omega) (by omega) (by omega) (by omega)⟩, h8, h9⟩, fr_m f (fun c i k h => by unfold pRef; omega)⟩
/-- only the flag is cleared -/
theorem RI_0 (hn : n ≤ 4) (hs : RI s ((R, C, kd), (n, S), (L, l), (T, sg), (u, U), K, (q, sq), nh, hq) k) : RI (wI s 13 0 0 0) ((R, C, kd), (n, S), (L, l), (T, sg), (u, U), K, (q, sq), nh, hq) (k + 1) ∧ fr pRef s (wI s 13 0 0 0) := ⟨RI_q hn hs (fr_m fr_0 (fun _ _ _ => p0_RQ)) (rRow_fr hs.2.2.2.1 fr_0 (by simp [p0]) (by intro k; simp [p0])), fr_wI (fr_r _ _) (Or.inl rfl)⟩
theorem fr_n0 : fr pNt s (wI s 13 0 0 0) := fr_wI (fr_r _ _) (by simp [pNt])
theorem s_denies (ha : AOk ((R, C, kd), (n, S), (L, l), (T, sg), (u, U), K, (q, sq), nh, hq)) : GsS d f_Main_denies f_Ref_denies [] ((R, C, kd), (n, S), (L, l), (T, sg), (u, U), K, (q, sq), nh, hq) k := by
  have hn : n ≤ 4 := ha.2.1.1
  refine ⟨nI q, ((R, C, kd), (n, S), (L, l), (T, sg), (u, U), K, (0, sq), nh, hq), ⟨ha.1, ha.2.1, ha.2.2.1, ha.2.2.2.1, ha.2.2.2.2.1, ha.2.2.2.2.2.1, ⟨Nat.zero_le _, fun i hi => absurd hi (Nat.not_lt_zero i)⟩, ha.2.2.2.2.2.2.2⟩, fun s hs => ?_, fun s hs => ?_⟩
  · have h1 : s.1 11 0 1 = nI q := hs.2.2.2.2.2.2.2.1.1
    have f : fr (fun c _ _ => c = 11) s (wI s 11 0 1 0) := fr_wI (fr_r _ _) rfl
    refine ⟨wI s 11 0 1 0, ?_, CI_note hs f (by omega) ⟨wI_s1 _ _ _ _ _, fun i hi => absurd hi (Nat.not_lt_zero i)⟩ (cH_fr hs.2.2.2.2.2.2.2.2 f (by omega) (by omega))⟩
    rw [Main_denies_eq, Notes_clearS_eq, bI_s, h1]
  · have h1 : s.1 13 0 51 = nI q := hs.2.2.2.2.2.2.2.2.1.1
    have f : fr (fun c _ k => c = 13 ∧ (k = 0 ∨ k = 51)) s (wI (wI s 13 0 0 0) 13 0 51 0) := fr_wI (fr_wI (fr_r _ _) (by omega)) (by omega)
    refine ⟨wI (wI s 13 0 0 0) 13 0 51 0, ?_, RI_note hn hs (fr_m f (fun c i k h => by unfold pNt; omega)) ⟨wI_s1 _ _ _ _ _, fun i hi => absurd hi (Nat.not_lt_zero i)⟩ (rH_fr hs.2.2.2.2.2.2.2.2.2 f (by omega) (by omega) (by omega))⟩
    rw [Ref_denies_eq, h1]
theorem s_forget (ha : AOk ((R, C, kd), (n, S), (L, l), (T, sg), (u, U), K, (q, sq), nh, hq)) : GsS d f_Main_forget f_Ref_forget [] ((R, C, kd), (n, S), (L, l), (T, sg), (u, U), K, (q, sq), nh, hq) k := by
  have hn : n ≤ 4 := ha.2.1.1
  refine ⟨nI nh, ((R, C, kd), (n, S), (L, l), (T, sg), (u, U), K, (q, sq), 0, hq), ⟨ha.1, ha.2.1, ha.2.2.1, ha.2.2.2.1, ha.2.2.2.2.1, ha.2.2.2.2.2.1, ha.2.2.2.2.2.2.1, ⟨Nat.zero_le _, fun i hi => absurd hi (Nat.not_lt_zero i)⟩⟩, fun s hs => ?_, fun s hs => ?_⟩
  · have h1 : s.1 12 0 1 = nI nh := hs.2.2.2.2.2.2.2.2.1
    have f : fr (fun c _ _ => c = 12) s (wI s 12 0 1 0) := fr_wI (fr_r _ _) rfl
    refine ⟨wI s 12 0 1 0, ?_, CI_note hs f (by omega) (cS_fr hs.2.2.2.2.2.2.2.1 f (by omega) (by omega)) ⟨wI_s1 _ _ _ _ _, fun i hi => absurd hi (Nat.not_lt_zero i)⟩⟩
    rw [Main_forget_eq, Notes_clearT_eq, bI_s, h1]
  · have h1 : s.1 13 0 55 = nI nh := hs.2.2.2.2.2.2.2.2.2.1
    have f : fr (fun c _ k => c = 13 ∧ (k = 0 ∨ k = 55)) s (wI (wI s 13 0 0 0) 13 0 55 0) := fr_wI (fr_wI (fr_r _ _) (by omega)) (by omega)
    refine ⟨wI (wI s 13 0 0 0) 13 0 55 0, ?_, RI_note hn hs (fr_m f (fun c i k h => by unfold pNt; omega)) (rS_fr hs.2.2.2.2.2.2.2.2.1 f (by omega) (by omega) (by omega) (by omega)) ⟨wI_s1 _ _ _ _ _, fun i hi => absurd hi (Nat.not_lt_zero i)⟩⟩
    rw [Ref_forget_eq, h1]
theorem s_saw (ha : AOk ((R, C, kd), (n, S), (L, l), (T, sg), (u, U), K, (q, sq), nh, hq)) (x y z : Int32) : GsS d f_Main_saw f_Ref_saw [vI x, vI y, vI z] ((R, C, kd), (n, S), (L, l), (T, sg), (u, U), K, (q, sq), nh, hq) k := by
  have hn : n ≤ 4 := ha.2.1.1
  have hsk : sOk q sq := ha.2.2.2.2.2.2.1
  by_cases hx : (∃ a, 1 ≤ a ∧ a ≤ 5 ∧ x = nI a) ∧ (∃ b, b < 7 ∧ y = nI b) ∧ (∃ c, c < 2 ∧ z = nI c) ∧ q < 10
  · obtain ⟨⟨a, a1, a2, rfl⟩, ⟨b, hb, rfl⟩, ⟨c, hc, rfl⟩, hq10⟩ := hx
    have hr1 : (decide ((1 : Int64) ≤ (nI a).toInt64) && decide ((nI a).toInt64 ≤ 5)) = true := all_r (n := 6) (p := fun a => decide (a < 1) || (decide ((1 : Int64) ≤ (nI a).toInt64) && decide ((nI a).toInt64 ≤ 5))) (by decide +kernel) (k := a) (by omega) |> fun h => by
      have h : (decide (a < 1) || (decide ((1 : Int64) ≤ (nI a).toInt64) && decide ((nI a).toInt64 ≤ 5))) = true := h
      rw [decide_eq_false (by omega), Bool.false_or] at h
      exact h
    refine ⟨nI (q + 1), ((R, C, kd), (n, S), (L, l), (T, sg), (u, U), K, (q + 1, up sq q (a, b, c)), nh, hq), ⟨ha.1, ha.2.1, ha.2.2.1, ha.2.2.2.1, ha.2.2.2.2.1, ha.2.2.2.2.2.1, ⟨hq10, fun i hi => ?_⟩, ha.2.2.2.2.2.2.2⟩, fun s hs => ?_, fun s hs => ?_⟩
    · show 1 ≤ (up sq q (a, b, c) i).1 ∧ (up sq q (a, b, c) i).1 ≤ 5 ∧ (up sq q (a, b, c) i).2.1 ≤ 6 ∧ (up sq q (a, b, c) i).2.2 ≤ 1
      have hi : i < q + 1 := hi
      by_cases e : i = q
      · rw [e, up_s]; exact ⟨a1, a2, Nat.le_of_lt_succ hb, Nat.le_of_lt_succ hc⟩
      · rw [up_n e]; exact hsk.2 i (by omega)
    · obtain ⟨h1, h2⟩ : cS s q sq := hs.2.2.2.2.2.2.2.1
      have f : fr (fun c _ _ => c = 11 ∨ c = 39) s (wI (wI s 39 0 q (nI (100 * c + 10 * a + b))) 11 0 1 (nI (q + 1))) := fr_wI (fr_wI (fr_r _ _) (by omega)) (by omega)
      refine ⟨_, ?_, CI_note hs f (by omega) ⟨wI_s1 _ _ _ _ _, fun i hi => ?_⟩ (cH_fr hs.2.2.2.2.2.2.2.2 f (by omega) (by omega))⟩
      · rw [Main_saw_eq, if_neg (show ¬ nI a < 1 from of_eq_false (lt_f a1 (by omega))), nl_5, if_neg (of_eq_false (lt_f (by omega) (by omega))), if_neg (nI_pos (by omega)), nl_6, if_neg (of_eq_false (lt_f (by omega) (by omega))), if_neg (nI_pos (by omega)), if_neg (show ¬ (1 : Int32) < nI c from of_eq_false (lt_f (b := c) (a := 1) (show c ≤ 1 by omega) (show 1 < 2147483648 by decide))), nl_100, nl_10, pk_mul, pk_mul, nI_add, nI_add, Notes_addS_eq, h1, n_ofNat, if_pos (of_eq_true (lt_t hq10 (by omega))), in_t hq10 (by omega), if_pos rfl, bI_s, if_neg (by decide), n_cl (by omega), nI_1, wI_s1]
      · rw [wI_nc (by omega)]
        by_cases e : i = q
        · rw [e, wI_s1, up_s]
        · rw [wI_nk e, up_n e]; exact h2 i (by omega)
    · obtain ⟨h1, h2⟩ : rS s q sq := hs.2.2.2.2.2.2.2.2.1
      have f : fr (fun c _ k => (c = 13 ∧ (k = 0 ∨ k = 51)) ∨ c = 65 ∨ c = 66 ∨ c = 67) s (wI (wI (wI (wI (wI s 13 0 0 0) 65 0 q (nI a)) 66 0 q (nI b)) 67 0 q (nI c)) 13 0 51 (nI (q + 1))) := fr_wI (fr_wI (fr_wI (fr_wI (fr_wI (fr_r _ _) (by omega)) (by omega)) (by omega)) (by omega)) (by omega)
      refine ⟨_, ?_, RI_note hn hs (fr_m f (fun c i k h => by unfold pNt; omega)) ⟨wI_s1 _ _ _ _ _, fun i hi => ?_⟩ (rH_fr hs.2.2.2.2.2.2.2.2.2 f (by omega) (by omega) (by omega))⟩
      · rw [Ref_saw_eq, m_in, hr1, bI_s, if_neg (by decide), m_in0 (n := 7) _ (by decide), in_t hb (by omega), bI_s, if_neg (by decide), m_in0 (n := 2) _ (by decide), in_t hc (by omega), bI_s, if_neg (by decide), wI_nk (by omega), h1, nl_10, if_neg (of_eq_false (eq_f (by omega) (by omega) (by omega))), in_t hq10 (by omega), if_pos rfl, if_pos rfl, if_pos rfl, n_cl (by omega), nI_1]
      · by_cases e : i = q
        · rw [e, up_s]
          exact ⟨by rw [wI_nc (by omega), wI_nc (by omega), wI_nc (by omega), wI_s1], by rw [wI_nc (by omega), wI_nc (by omega), wI_s1], by rw [wI_nc (by omega), wI_s1]⟩
        · have hi : i < q + 1 := hi
          obtain ⟨k1, k2, k3⟩ := h2 i (by omega)
          rw [up_n e]
          exact ⟨by rw [wI_nc (by omega), wI_nc (by omega), wI_nc (by omega), wI_nk e, wI_nc (by omega), k1], by rw [wI_nc (by omega), wI_nc (by omega), wI_nk e, wI_nc (by omega), wI_nc (by omega), k2], by rw [wI_nc (by omega), wI_nk e, wI_nc (by omega), wI_nc (by omega), wI_nc (by omega), k3]⟩
  · refine ⟨-1, _, ha, fun s hs => ?_, fun s hs => ?_⟩
    · obtain ⟨h1, h2⟩ : cS s q sq := hs.2.2.2.2.2.2.2.1
      refine ⟨s, ?_, hs, fr_r _ _⟩
      rw [Main_saw_eq]
      by_cases z1 : x < 1
      · rw [if_pos z1]
      rw [if_neg z1]
      by_cases z2 : 5 < x
      · rw [if_pos z2]
      rw [if_neg z2]
      by_cases z3 : y < 0
      · rw [if_pos z3]
      rw [if_neg z3]
      by_cases z4 : 6 < y
      · rw [if_pos z4]
      rw [if_neg z4]
      by_cases z5 : z < 0
      · rw [if_pos z5]
      rw [if_neg z5]
      by_cases z6 : 1 < z
      · rw [if_pos z6]
      rw [if_neg z6]
      obtain ⟨a, ha', rfl⟩ := nI_of (x := x) (fun h => z1 (Int32.lt_trans h (by decide)))
      obtain ⟨b, hb, rfl⟩ := nI_of z3
      obtain ⟨c, hc, rfl⟩ := nI_of z5
      rw [nl_1, n_lt (by omega) (by omega)] at z1 z6
      rw [nl_5, n_lt (by omega) (by omega)] at z2
      rw [nl_6, n_lt (by omega) (by omega)] at z4
      have hq10 : ¬ q < 10 := fun h => hx ⟨⟨a, by omega, by omega, rfl⟩, ⟨b, by omega, rfl⟩, ⟨c, by omega, rfl⟩, h⟩
      have := hsk.1
      rw [Notes_addS_eq, h1, n_ofNat, if_neg (of_eq_false (lt_f (by omega) (by omega))), bI_s, if_pos (by decide)]
    · obtain ⟨h1, h2⟩ : rS s q sq := hs.2.2.2.2.2.2.2.2.1
      refine ⟨wI s 13 0 0 0, ?_, RI_0 hn hs⟩
      rw [Ref_saw_eq, m_in, bI_s]
      cases z1 : (decide ((1 : Int64) ≤ x.toInt64) && decide (x.toInt64 ≤ 5)) with
      | false => rw [if_pos (by decide)]
      | true =>
        rw [if_neg (by decide), m_in0 (n := 7) _ (by decide), bI_s]
        cases z2 : x_in y 7 with
        | false => rw [if_pos (by decide)]
        | true =>
          rw [if_neg (by decide), m_in0 (n := 2) _ (by decide), bI_s]
          cases z3 : x_in z 2 with
          | false => rw [if_pos (by decide)]
          | true =>
            rw [if_neg (by decide), wI_nk (by omega), h1]
            have hq10 : ¬ q < 10 := fun h => by
              obtain ⟨b, hb, rfl⟩ := (n_in_iff (by omega)).mp z2
              obtain ⟨c, hc, rfl⟩ := (n_in_iff (by omega)).mp z3
              refine hx ⟨?_, ⟨b, hb, rfl⟩, ⟨c, hc, rfl⟩, h⟩
              rw [Bool.and_eq_true, decide_eq_true_eq, decide_eq_true_eq, Int64.le_iff_toInt_le, Int64.le_iff_toInt_le, Int32.toInt_toInt64] at z1
              have e1 : (1 : Int64).toInt = 1 := by decide
              have e5 : (5 : Int64).toInt = 5 := by decide
              rw [e1, e5] at z1
              have hx6 : x_in x 6 = true := x_in_iff.mpr (by omega)
              obtain ⟨a, ha', rfl⟩ := (n_in_iff (by omega)).mp hx6
              refine ⟨a, ?_, by omega, rfl⟩
              rcases Nat.eq_zero_or_pos a with e | e
              · subst e
                have : (nI 0).toInt = 0 := by decide
                omega
              · exact e
            have := hsk.1
            have e : q = 10 := by omega
            subst e
            rw [if_pos (by decide)]
theorem hst_c : ((List.range 5).all fun a => decide (x_cst a = nI (hst a))) = true := by decide
theorem s_heard (ha : AOk ((R, C, kd), (n, S), (L, l), (T, sg), (u, U), K, (q, sq), nh, hq)) (x y : Int32) : GsS d f_Main_heard f_Ref_heard [vI x, vI y] ((R, C, kd), (n, S), (L, l), (T, sg), (u, U), K, (q, sq), nh, hq) k := by
  have hn : n ≤ 4 := ha.2.1.1
  have hhk : hOk nh hq := ha.2.2.2.2.2.2.2
  cases hx : x_in x 5 with
  | false =>
    refine ⟨-1, _, ha, fun s hs => ?_, fun s hs => ?_⟩
    · refine ⟨s, ?_, hs, fr_r _ _⟩
      rw [Main_heard_eq]
      by_cases z1 : x < 0
      · rw [if_pos z1]
      rw [if_neg z1]
      obtain ⟨a, ha', rfl⟩ := nI_of z1
      rw [n_in (by omega), decide_eq_false_iff_not] at hx
      rw [n_ofNat, if_neg (of_eq_false (lt_f (by omega) (by omega)))]
    · refine ⟨wI s 13 0 0 0, ?_, RI_0 hn hs⟩
      rw [Ref_heard_eq, m_in0 (n := 5) _ (by decide), hx, bI_s, if_pos (by decide)]
  | true =>
    obtain ⟨a, ha5, rfl⟩ := (n_in_iff (by omega)).mp hx
    have hc : x_cst a = nI (hst a) := of_decide_eq_true (all_r hst_c ha5)
    have hle := hst_le a
    have hin : ∀ _b : Nat, ((nI (hst a)).toInt64).toInt = ((hst a + 1 : Nat) : Int) - 1 := fun _ => by
      rw [Int32.toInt_toInt64, nI_toInt (by omega)]; omega
    by_cases hy : x_in y (hst a + 1) = true ∧ nh < 12
    · obtain ⟨hy, h12⟩ := hy
      have hy' := hy
      obtain ⟨b, hb, rfl⟩ := (n_in_iff (by omega)).mp hy
      refine ⟨nI (nh + 1), ((R, C, kd), (n, S), (L, l), (T, sg), (u, U), K, (q, sq), nh + 1, up hq nh (a, b)), ⟨ha.1, ha.2.1, ha.2.2.1, ha.2.2.2.1, ha.2.2.2.2.1, ha.2.2.2.2.2.1, ha.2.2.2.2.2.2.1, ⟨h12, fun i hi => ?_⟩⟩, fun s hs => ?_, fun s hs => ?_⟩
      · show (up hq nh (a, b) i).1 ≤ 4 ∧ (up hq nh (a, b) i).2 ≤ hst (up hq nh (a, b) i).1
        have hi : i < nh + 1 := hi
        by_cases e : i = nh
        · rw [e, up_s]; exact ⟨Nat.le_of_lt_succ ha5, Nat.le_of_lt_succ hb⟩
        · rw [up_n e]; exact hhk.2 i (by omega)
      · obtain ⟨h1, h2⟩ : cH s nh hq := hs.2.2.2.2.2.2.2.2
        have f : fr (fun c _ _ => c = 12 ∨ c = 40) s (wI (wI s 40 0 nh (nI (10 * a + b))) 12 0 1 (nI (nh + 1))) := fr_wI (fr_wI (fr_r _ _) (by omega)) (by omega)
        refine ⟨_, ?_, CI_note hs f (by omega) (cS_fr hs.2.2.2.2.2.2.2.1 f (by omega) (by omega)) ⟨wI_s1 _ _ _ _ _, fun i hi => ?_⟩⟩
        · rw [Main_heard_eq, if_neg (nI_pos (by omega)), n_ofNat, if_pos (of_eq_true (lt_t ha5 (by omega))), if_neg (nI_pos (by omega)), hx, if_pos rfl, n_cl (by omega), hc, if_neg (of_eq_false (lt_f (show b ≤ hst a by omega) (by omega))), nl_10, pk_mul, nI_add, Notes_addT_eq, h1, n_ofNat, if_pos (of_eq_true (lt_t h12 (by omega))), in_t h12 (by omega), if_pos rfl, bI_s, if_neg (by decide), n_cl (by omega), nI_1, wI_s1]
        · rw [wI_nc (by omega)]
          by_cases e : i = nh
          · rw [e, wI_s1, up_s]
          · rw [wI_nk e, up_n e]; exact h2 i (by omega)
      · obtain ⟨h1, h2⟩ : rH s nh hq := hs.2.2.2.2.2.2.2.2.2
        have f : fr (fun c _ k => (c = 13 ∧ (k = 0 ∨ k = 55)) ∨ c = 68 ∨ c = 69) s (wI (wI (wI (wI s 13 0 0 0) 68 0 nh (nI a)) 69 0 nh (nI b)) 13 0 55 (nI (nh + 1))) := fr_wI (fr_wI (fr_wI (fr_wI (fr_r _ _) (by omega)) (by omega)) (by omega)) (by omega)
        refine ⟨_, ?_, RI_note hn hs (fr_m f (fun c i k h => by unfold pNt; omega)) (rS_fr hs.2.2.2.2.2.2.2.2.1 f (by omega) (by omega) (by omega) (by omega)) ⟨wI_s1 _ _ _ _ _, fun i hi => ?_⟩⟩
        · rw [Ref_heard_eq, m_in0 (n := 5) _ (by decide), hx, bI_s, if_neg (by decide), m_highest ha5, bI_s, m_in0 (n := hst a + 1) _ (hin 0), hy', bI_s, if_neg (by decide), wI_nk (by omega), h1, nl_12, if_neg (of_eq_false (eq_f (by omega) (by omega) (by omega))), in_t h12 (by omega), if_pos rfl, if_pos rfl, n_cl (by omega), nI_1]
        · by_cases e : i = nh
          · rw [e, up_s]
            exact ⟨by rw [wI_nc (by omega), wI_nc (by omega), wI_s1], by rw [wI_nc (by omega), wI_s1]⟩
          · have hi : i < nh + 1 := hi
            obtain ⟨k1, k2⟩ := h2 i (by omega)
            rw [up_n e]
            exact ⟨by rw [wI_nc (by omega), wI_nc (by omega), wI_nk e, wI_nc (by omega), k1], by rw [wI_nc (by omega), wI_nk e, wI_nc (by omega), wI_nc (by omega), k2]⟩
    · refine ⟨-1, _, ha, fun s hs => ?_, fun s hs => ?_⟩
      · obtain ⟨h1, h2⟩ : cH s nh hq := hs.2.2.2.2.2.2.2.2
        refine ⟨s, ?_, hs, fr_r _ _⟩
        rw [Main_heard_eq, if_neg (nI_pos (by omega)), n_ofNat, if_pos (of_eq_true (lt_t ha5 (by omega)))]
        by_cases z1 : y < 0
        · rw [if_pos z1]
        rw [if_neg z1, hx, if_pos rfl, n_cl (by omega), hc]
        obtain ⟨b, hb, rfl⟩ := nI_of z1
        by_cases z2 : hst a < b
        · rw [if_pos (of_eq_true (lt_t z2 hb))]
        · have h12 : ¬ nh < 12 := fun h => hy ⟨in_t (by omega) (by omega), h⟩
          have := hhk.1
          rw [if_neg (of_eq_false (lt_f (by omega) (by omega))), Notes_addT_eq, h1, n_ofNat, if_neg (of_eq_false (lt_f (by omega) (by omega))), bI_s, if_pos (by decide)]
      · obtain ⟨h1, h2⟩ : rH s nh hq := hs.2.2.2.2.2.2.2.2.2
        refine ⟨wI s 13 0 0 0, ?_, RI_0 hn hs⟩
        rw [Ref_heard_eq, m_in0 (n := 5) _ (by decide), hx, bI_s, if_neg (by decide), m_highest ha5, bI_s, m_in0 (n := hst a + 1) _ (hin 0), bI_s]
        cases z2 : x_in y (hst a + 1) with
        | false => rw [if_pos (by decide)]
        | true =>
          have h12 : ¬ nh < 12 := fun h => hy ⟨z2, h⟩
          have := hhk.1
          have e : nh = 12 := by omega
          subst e
          rw [if_neg (by decide), wI_nk (by omega), h1, if_pos (by decide)]
end NOTES1

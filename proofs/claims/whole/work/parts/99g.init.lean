/-! The first state, by both sides. -/
section LINIT
variable {tG tR : xS}
/-- the first state, by both sides -/
def z_a0 : Ab := ((2, 2, fun _ => 0), (0, (fun _ => 0, fun _ => 0, fun _ => 0, 0, 0)), ([], []), (0, fun _ => 0), (0, fun _ => (fun _ => 0, fun _ => 0, fun _ => 0, 0, 0)), fun _ => none, (0, fun _ => (0, 0, 0)), 0, fun _ => (0, 0))
theorem z_g0 : cG0 k_g0 2 2 (fun _ => 0) := ⟨⟨by decide, by decide, by decide, by decide, fun f _ => Or.inl (by show (0 : Nat) < 2; decide)⟩, (show (2 : Int32) = nI 2 by decide), (show (2 : Int32) = nI 2 by decide), (show (4 : Int32) = nI 4 by decide), fun f _ => rfl⟩
theorem z_tG : ∃ tG, ev 6 f_Garden_link [vR 2 0] k_g0 = some (none, tG) ∧ cG tG 2 2 (fun _ => 0) := by
  obtain ⟨t, h1, h2, -⟩ := g_link (d := 1) z_g0
  exact ⟨t, h1, h2⟩
theorem z_tR : ∃ tR, ev 6 f_Rule_setUsual [vR 5 0] x_z = some (none, tR) ∧ cR tR 0 [4, 1000, 2004] := by
  have h := Rule_setUsual_eq 5 0 x_z
  rw [if_pos (by decide), if_pos (by decide), if_pos (by decide)] at h
  refine ⟨_, h, ?_, by decide, fun j hj => ?_⟩
  · rfl
  · have hj : j < 3 := hj
    rcases (by omega : j = 0 ∨ j = 1 ∨ j = 2) with rfl | rfl | rfl <;> decide
theorem z_a0_ok : AOk z_a0 := by
  refine ⟨⟨by decide, by decide, by decide, by decide, fun f _ => Or.inl (by show (0 : Nat) < 2; decide)⟩, ⟨by decide, by decide, fun p hp => absurd hp (Nat.not_lt_zero _), fun p _ _ => rfl⟩, ?_, ⟨by decide, fun k hk => absurd hk (Nat.not_lt_zero _)⟩, fun i hi => absurd hi (Nat.not_lt_zero _), fun i S _ h => absurd (show (none : Option Sn) = some S from h) (by simp), ⟨by decide, fun i hi => absurd hi (Nat.not_lt_zero _)⟩, ⟨by decide, fun i hi => absurd hi (Nat.not_lt_zero _)⟩⟩
  show wfL [4, 1000, 2004] 0
  simp [wfL, cdOk, nee, dep]
theorem z_0 {c i k : Nat} {t : xS} (h : z_h t tG tR) (hs : z_sp c = false) : t.1 c i k = nI 0 := (h.1 c i k hs).trans (show (0 : Int32) = nI 0 by decide)
theorem z_13 {k : Nat} {x : Int32} {t : xS} (h : z_h t tG tR) (hs : z_l13.getD k 0 = x) : t.1 13 0 k = x := (h.2.2.2.2.2.2.2.2 0 k).trans hs
theorem z_CI0 {t : xS} (h : z_h t tG tR) (h1 : cG tG 2 2 (fun _ => 0)) (h2 : cR tR 0 [4, 1000, 2004]) : CI t z_a0 := by
  refine ⟨?_, ⟨z_0 h rfl, z_0 h rfl, h.1 3 0 5 rfl, fun p hp => absurd hp (Nat.not_lt_zero _)⟩, ?_, ⟨z_0 h rfl, by decide, fun i hi => absurd hi (Nat.not_lt_zero _)⟩, ⟨z_0 h rfl, fun k hk => absurd hk (Nat.not_lt_zero _)⟩, ⟨z_0 h rfl, by decide, fun i hi => absurd hi (Nat.not_lt_zero _)⟩, ⟨0, z_0 h rfl, by decide, fun i hi => ⟨by simp [z_a0], fun S h => absurd (show (none : Option Sn) = some S from h) (by simp)⟩⟩, ⟨z_0 h rfl, fun i hi => absurd hi (Nat.not_lt_zero _)⟩, ⟨z_0 h rfl, fun i hi => absurd hi (Nat.not_lt_zero _)⟩⟩
  · obtain ⟨b1, b2, b3, b4, b5, b6⟩ := h1
    show cG t 2 2 (fun _ => 0)
    exact ⟨b1, by rw [h.2.2.1 0]; exact b2, by rw [h.2.2.1 0]; exact b3, by rw [h.2.2.1 0]; exact b4, fun f hf => by rw [h.2.2.2.1 0]; exact b5 f hf, fun f hf w hw => by rw [h.2.2.2.2.1 0]; exact b6 f hf w hw⟩
  · obtain ⟨b1, b2, b3⟩ := h2
    show cR t 0 [4, 1000, 2004]
    exact ⟨by rw [h.2.2.2.2.2.1 0]; exact b1, b2, fun j hj => by rw [h.2.2.2.2.2.2.1 0]; exact b3 j hj⟩
theorem z_RI0 {t : xS} (h : z_h t tG tR) : RI t z_a0 0 := by
  refine ⟨⟨z_a0_ok.1, z_13 h (by decide), z_13 h (by decide), fun f _ => z_0 h rfl⟩, ⟨z_13 h (by decide), fun p hp => absurd hp (Nat.not_lt_zero _), fun p _ => ⟨z_0 h rfl, ?_⟩, h.1 43 0 16 rfl⟩, ⟨z_13 h (by decide), by decide, fun j hj => absurd hj (Nat.not_lt_zero _)⟩, ⟨z_13 h (by decide), by decide, fun i hi => absurd hi (Nat.not_lt_zero _)⟩, z_13 h (by decide), ⟨z_13 h (by decide), fun k hk => absurd hk (Nat.not_lt_zero _)⟩, ⟨z_13 h (by decide), by decide, fun i hi => absurd hi (Nat.not_lt_zero _)⟩, ⟨0, Nat.le_refl _, z_13 h (by decide), fun i _ => by first | exact Or.inl (h.1 71 0 i rfl) | (simp only [z_a0]; exact Or.inl (h.1 71 0 i rfl)) | simp [z_a0, h.1 71 0 i rfl]⟩, ⟨z_13 h (by decide), fun i hi => absurd hi (Nat.not_lt_zero _)⟩, ⟨z_13 h (by decide), fun i hi => absurd hi (Nat.not_lt_zero _)⟩⟩
  show t.1 43 0 (12 + p) = nI (b1 ((0 : Nat).testBit p))
  rw [Nat.zero_testBit]; exact z_0 h rfl
theorem z_I0 (h1 : cG tG 2 2 (fun _ => 0)) (h2 : cR tR 0 [4, 1000, 2004]) : z_I (z_t0 tG tR) 0 := ⟨z_a0, z_a0_ok, z_CI0 z_h0 h1 h2, z_RI0 z_h0⟩
theorem whole_start {p : Program} {e : Env} {s : State} {m : MethodId} {below : List Frame} {meth : Method} {c : Code} (l : Launch) (hlt : l.stackTraces = false) {b L : Nat} {xs : Nat → Int32} (hL : L ≤ 2560) (C0 : lw_At p s m meth c b L xs) : W p l e room_1 s m #[Value.ref b] below meth c s.heap [] 0 0 (lw_Z below #[Value.ref b] s) (entryFrame m ([Value.ref b] : List Value).toArray 8) := by
  obtain ⟨tG, hG1, hG2⟩ := z_tG
  obtain ⟨tR, hR1, hR2⟩ := z_tR
  exact z_start l hlt hL C0 hG1 hR1 z_Jok (z_I0 hG2 hR2)
end LINIT

/-! The first world, and where its things lie. Printed by genS.py. -/
section LWORLD
variable {cA : Nat → ClassId} {tG tR : xS} {u : (Nat → Nat) × (Nat → Nat → Nat)} {v : Nat → Nat} {q0 q1 qo hh : Nat} {adS : Nat → Nat}
def z_tb (u : (Nat → Nat) × (Nat → Nat → Nat)) (v : Nat → Nat) (q0 q1 : Nat) : List (List Nat) := [[q0], [u.1 1], [u.1 2], [u.1 3, u.1 4], [u.1 5], [u.1 6, u.1 7], [u.1 8], [u.1 9], [u.1 10], [u.1 11], [u.1 12], [u.1 13], [u.1 14], [q1], [u.2 1 0], [u.2 2 0], [u.2 2 1], [u.2 3 0, u.2 4 0], [u.2 3 1, u.2 4 1], [u.2 3 2, u.2 4 2], [u.2 5 0], [u.2 5 1], [u.2 5 2], [u.2 5 3], [u.2 6 0, u.2 7 0], [u.2 6 1, u.2 7 1], [u.2 8 0], [u.2 8 1], [u.2 8 2], [u.2 8 3], [u.2 10 0], [u.2 10 1], [u.2 10 2], [u.2 10 3], [u.2 10 4], [u.2 11 0], [u.2 11 1], [u.2 11 2], [u.2 12 0], [u.2 13 0], [u.2 14 0], [v 0], [v 1], [v 2, v 3], [v 4], [v 5], [v 6], [v 7, v 8, v 32], [v 9], [v 10], [v 11], [v 12], [v 13], [v 14], [v 15], [v 16], [v 17], [v 18], [v 19], [v 20], [v 21], [v 22], [v 23], [v 24], [v 25], [v 26], [v 27], [v 28], [v 29], [v 30], [v 31], [v 33], [v 34], [v 35]]
def z_ad (u : (Nat → Nat) × (Nat → Nat → Nat)) (v : Nat → Nat) (q0 q1 hh : Nat) (adS : Nat → Nat) : Nat → Nat → Nat := fun c i => bif Nat.beq c 900 then adS i else ((z_tb u v q0 q1).getD c []).getD i hh
def z_l13 : List Int32 := [0, 0, 0, 2, 2, 0, 0, 0, 0, 0, 0, 0, 0, 0, 0, 0, 0, 0, 0, 0, 0, 0, 0, 0, 0, 0, 0, 0, 0, 0, 0, 0, 0, 0, 0, 0, 0, 0, -1]
/-- the first state -/
def z_t0 (tG tR : xS) : xS := (fun c _ => bif Nat.beq c 2 then tG.1 2 0 else bif Nat.beq c 15 then tG.1 15 0 else bif Nat.beq c 16 then tG.1 16 0 else bif Nat.beq c 5 then tR.1 5 0 else bif Nat.beq c 24 then tR.1 24 0 else bif Nat.beq c 25 then tR.1 25 0 else bif Nat.beq c 13 then fun k => z_l13.getD k 0 else fun _ => 0, fun _ _ _ => 0)
def z_sp (c : Nat) : Bool := Nat.beq c 2 || (Nat.beq c 15 || (Nat.beq c 16 || (Nat.beq c 5 || (Nat.beq c 24 || (Nat.beq c 25 || Nat.beq c 13)))))
def z_h (t tG tR : xS) : Prop := (∀ c i k, z_sp c = false → t.1 c i k = 0) ∧ (∀ c i k, t.2 c i k = 0) ∧ (∀ i, t.1 2 i = tG.1 2 0) ∧ (∀ i, t.1 15 i = tG.1 15 0) ∧ (∀ i, t.1 16 i = tG.1 16 0) ∧ (∀ i, t.1 5 i = tR.1 5 0) ∧ (∀ i, t.1 24 i = tR.1 24 0) ∧ (∀ i, t.1 25 i = tR.1 25 0) ∧ ∀ i k, t.1 13 i k = z_l13.getD k 0
theorem z_h0 : z_h (z_t0 tG tR) tG tR := by
  refine ⟨fun c i k h => ?_, fun _ _ _ => rfl, fun _ => rfl, fun _ => rfl, fun _ => rfl, fun _ => rfl, fun _ => rfl, fun _ => rfl, fun _ _ => rfl⟩
  unfold z_sp at h
  simp only [Bool.or_eq_false_iff] at h
  obtain ⟨h1, h2, h3, h4, h5, h6, h7⟩ := h
  simp only [z_t0, h1, h2, h3, h4, h5, h6, h7, cond_false]
def z_w0 (cA : Nat → ClassId) (tG tR : xS) (u : (Nat → Nat) × (Nat → Nat → Nat)) (v : Nat → Nat) (q0 q1 qo : Nat) : va_W := (([] ++ ((q0, .inr (11, k_F11 u)) :: k_G11 cA tG tR u)) ++ ((q1, .inr (12, k_F12 v)) :: k_G12 cA v)) ++ [(qo, k_Z cA 1 1)]
def z_w1 (cA : Nat → ClassId) (tG tR : xS) (u : (Nat → Nat) × (Nat → Nat → Nat)) (v : Nat → Nat) (q0 q1 qo : Nat) : va_W := [(q0, .inr (11, k_F11 u)), (u.1 1, .inr (10, k_F10 (u.2 1))), (u.2 1 0, k_Z cA 0 80), (u.1 2, .inr (2, k_F2 tG (u.2 2))), (u.2 2 0, .inl (cA 0, 36, .inl (tG.1 15 0))), (u.2 2 1, .inl (cA 0, 144, .inl (tG.1 16 0))), (u.1 3, .inr (6, k_F6 (u.2 3))), (u.2 3 0, k_Z cA 0 4), (u.2 3 1, k_Z cA 0 4), (u.2 3 2, k_Z cA 0 4), (u.1 4, .inr (6, k_F6 (u.2 4))), (u.2 4 0, k_Z cA 0 4), (u.2 4 1, k_Z cA 0 4), (u.2 4 2, k_Z cA 0 4), (u.1 5, .inr (3, k_F3 (u.2 5))), (u.2 5 0, k_Z cA 1 15), (u.2 5 1, k_Z cA 0 15), (u.2 5 2, k_Z cA 1 3), (u.2 5 3, k_Z cA 0 3), (u.1 6, .inr (8, k_F8 tR (u.2 6))), (u.2 6 0, .inl (cA 0, 40, .inl (tR.1 24 0))), (u.2 6 1, .inl (cA 0, 40, .inl (tR.1 25 0))), (u.1 7, .inr (8, k_F8 tR (u.2 7))), (u.2 7 0, .inl (cA 0, 40, .inl (tR.1 24 0))), (u.2 7 1, .inl (cA 0, 40, .inl (tR.1 25 0))), (u.1 8, .inr (1, k_F1 (u.1 2) (u.2 8))), (u.2 8 0, k_Z cA 0 7), (u.2 8 1, k_Z cA 0 64), (u.2 8 2, k_Z cA 0 64), (u.2 8 3, k_Z cA 0 6), (u.1 9, .inr (0, k_F0 (u.1 2) (u.1 8) (u.1 6) (u.2 9))), (u.1 10, .inr (7, k_F7 (u.1 2) (u.2 10))), (u.2 10 0, k_Z cA 0 36), (u.2 10 1, k_Z cA 0 36), (u.2 10 2, k_Z cA 0 36), (u.2 10 3, k_Z cA 0 36), (u.2 10 4, k_Z cA 0 36), (u.1 11, .inr (9, k_F9 (u.1 2) (u.1 8) (u.1 6) (u.1 3) (u.2 11))), (u.2 11 0, k_Z cA 0 2304), (u.2 11 1, k_Z cA 0 2304), (u.2 11 2, k_Z cA 0 1008), (u.1 12, .inr (5, k_F5 (u.2 12))), (u.2 12 0, k_Z cA 1 16), (u.1 13, .inr (4, k_F4 (u.2 13))), (u.2 13 0, k_Z cA 0 10), (u.1 14, .inr (4, k_F4 (u.2 14))), (u.2 14 0, k_Z cA 0 12), (q1, .inr (12, k_F12 v)), (v 0, k_Z cA 1 24), (v 1, k_Z cA 0 36), (v 2, k_Z cA 0 17), (v 3, k_Z cA 0 17), (v 4, k_Z cA 0 80), (v 5, k_Z cA 0 36), (v 6, k_Z cA 0 8), (v 7, k_Z cA 0 80), (v 8, k_Z cA 0 80), (v 9, k_Z cA 0 80), (v 10, k_Z cA 0 7), (v 11, k_Z cA 0 272), (v 12, k_Z cA 0 60), (v 13, k_Z cA 0 60), (v 14, k_Z cA 0 60), (v 15, k_Z cA 0 144), (v 16, k_Z cA 0 9280), (v 17, k_Z cA 0 36), (v 18, k_Z cA 0 36), (v 19, k_Z cA 0 2304), (v 20, k_Z cA 0 2304), (v 21, k_Z cA 0 2304), (v 22, k_Z cA 0 2304), (v 23, k_Z cA 0 2304), (v 24, k_Z cA 1 36), (v 25, k_Z cA 1 36), (v 26, k_Z cA 0 10), (v 27, k_Z cA 0 10), (v 28, k_Z cA 0 10), (v 29, k_Z cA 0 12), (v 30, k_Z cA 0 12), (v 31, k_Z cA 2 1000), (v 32, k_Z cA 0 80), (v 33, k_Z cA 2 3), (v 34, k_Z cA 0 3), (v 35, k_Z cA 0 51), (qo, k_Z cA 1 1)]
theorem z_w01 : z_w0 cA tG tR u v q0 q1 qo = z_w1 cA tG tR u v q0 q1 qo := by
  simp only [z_w0, z_w1, k_G11, k_G10, k_G2, k_G6, k_G3, k_G8, k_G1, k_G0, k_G7, k_G9, k_G5, k_G4, k_G12, List.nil_append, List.cons_append]
theorem z_row {t : xS} (h : z_h t tG tR) {ad : Nat → Nat → Nat} {c i j n : Nat} (hK : x_K c = some (Sum.inr (j, n))) (hsp : z_sp c = false) : x_cell x_K cA ad t c i = k_Z cA j n := by
  rw [x_cell_arr hK]; unfold k_Z
  have e : x_row j t c i = x_row j x_z 0 0 := by
    unfold x_row
    have e1 : t.1 c i = fun _ => 0 := funext (fun k => h.1 c i k hsp)
    have e2 : t.2 c i = fun _ => 0 := funext (fun k => h.2.1 c i k)
    rw [e1, e2]; rfl
  rw [e]
set_option maxHeartbeats 40000 in
theorem z_m0 {t : xS} (h : z_h t tG tR) : (z_w1 cA tG tR u v q0 q1 qo)[0]? = some (z_ad u v q0 q1 hh adS 0 0, x_cell x_K cA (z_ad u v q0 q1 hh adS) t 0 0) := by
  rw [x_cell_obj (K := x_K) (ci := 11) (fs := [(2, 1, 0), (2, 2, 0), (2, 3, 0), (2, 3, 1), (2, 4, 0), (2, 5, 0), (2, 5, 1), (2, 6, 0), (2, 7, 0), (2, 8, 0), (2, 9, 0), (2, 10, 0), (2, 11, 0), (2, 12, 0)]) rfl]
  show _ = some (_, Sum.inr (11, [Value.ref (z_ad u v q0 q1 hh adS 1 0), Value.ref (z_ad u v q0 q1 hh adS 2 0), Value.ref (z_ad u v q0 q1 hh adS 3 0), Value.ref (z_ad u v q0 q1 hh adS 3 1), Value.ref (z_ad u v q0 q1 hh adS 4 0), Value.ref (z_ad u v q0 q1 hh adS 5 0), Value.ref (z_ad u v q0 q1 hh adS 5 1), Value.ref (z_ad u v q0 q1 hh adS 6 0), Value.ref (z_ad u v q0 q1 hh adS 7 0), Value.ref (z_ad u v q0 q1 hh adS 8 0), Value.ref (z_ad u v q0 q1 hh adS 9 0), Value.ref (z_ad u v q0 q1 hh adS 10 0), Value.ref (z_ad u v q0 q1 hh adS 11 0), Value.ref (z_ad u v q0 q1 hh adS 12 0)]))
  rfl
set_option maxHeartbeats 40000 in
theorem z_m1 {t : xS} (h : z_h t tG tR) : (z_w1 cA tG tR u v q0 q1 qo)[1]? = some (z_ad u v q0 q1 hh adS 1 0, x_cell x_K cA (z_ad u v q0 q1 hh adS) t 1 0) := by
  rw [x_cell_obj (K := x_K) (ci := 10) (fs := [(2, 14, 0), (0, 0, 0), (0, 0, 0), (0, 0, 0)]) rfl]
  show _ = some (_, Sum.inr (10, [Value.ref (z_ad u v q0 q1 hh adS 14 0), Value.int (t.1 1 0 1), Value.int (t.1 1 0 2), Value.int (t.1 1 0 3)]))
  rw [h.1 1 0 1 rfl, h.1 1 0 2 rfl, h.1 1 0 3 rfl]
  rfl
set_option maxHeartbeats 40000 in
theorem z_m2 {t : xS} (h : z_h t tG tR) : (z_w1 cA tG tR u v q0 q1 qo)[3]? = some (z_ad u v q0 q1 hh adS 2 0, x_cell x_K cA (z_ad u v q0 q1 hh adS) t 2 0) := by
  rw [x_cell_obj (K := x_K) (ci := 2) (fs := [(2, 15, 0), (2, 16, 0), (0, 0, 0), (0, 0, 0), (0, 0, 0)]) rfl]
  show _ = some (_, Sum.inr (2, [Value.ref (z_ad u v q0 q1 hh adS 15 0), Value.ref (z_ad u v q0 q1 hh adS 16 0), Value.int (t.1 2 0 2), Value.int (t.1 2 0 3), Value.int (t.1 2 0 4)]))
  rw [h.2.2.1 0]
  rfl
set_option maxHeartbeats 40000 in
theorem z_m3 {t : xS} (h : z_h t tG tR) : (z_w1 cA tG tR u v q0 q1 qo)[6]? = some (z_ad u v q0 q1 hh adS 3 0, x_cell x_K cA (z_ad u v q0 q1 hh adS) t 3 0) := by
  rw [x_cell_obj (K := x_K) (ci := 6) (fs := [(3, 17, 0), (3, 18, 0), (3, 19, 0), (0, 0, 0), (0, 0, 0), (0, 0, 0)]) rfl]
  show _ = some (_, Sum.inr (6, [Value.ref (z_ad u v q0 q1 hh adS 17 0), Value.ref (z_ad u v q0 q1 hh adS 18 0), Value.ref (z_ad u v q0 q1 hh adS 19 0), Value.int (t.1 3 0 3), Value.int (t.1 3 0 4), Value.int (t.1 3 0 5)]))
  rw [h.1 3 0 3 rfl, h.1 3 0 4 rfl, h.1 3 0 5 rfl]
  rfl
set_option maxHeartbeats 40000 in
theorem z_m4 {t : xS} (h : z_h t tG tR) : (z_w1 cA tG tR u v q0 q1 qo)[10]? = some (z_ad u v q0 q1 hh adS 3 1, x_cell x_K cA (z_ad u v q0 q1 hh adS) t 3 1) := by
  rw [x_cell_obj (K := x_K) (ci := 6) (fs := [(3, 17, 0), (3, 18, 0), (3, 19, 0), (0, 0, 0), (0, 0, 0), (0, 0, 0)]) rfl]
  show _ = some (_, Sum.inr (6, [Value.ref (z_ad u v q0 q1 hh adS 17 1), Value.ref (z_ad u v q0 q1 hh adS 18 1), Value.ref (z_ad u v q0 q1 hh adS 19 1), Value.int (t.1 3 1 3), Value.int (t.1 3 1 4), Value.int (t.1 3 1 5)]))
  rw [h.1 3 1 3 rfl, h.1 3 1 4 rfl, h.1 3 1 5 rfl]
  rfl
set_option maxHeartbeats 40000 in
theorem z_m5 {t : xS} (h : z_h t tG tR) : (z_w1 cA tG tR u v q0 q1 qo)[14]? = some (z_ad u v q0 q1 hh adS 4 0, x_cell x_K cA (z_ad u v q0 q1 hh adS) t 4 0) := by
  rw [x_cell_obj (K := x_K) (ci := 3) (fs := [(2, 20, 0), (2, 21, 0), (2, 22, 0), (2, 23, 0), (0, 0, 0), (0, 0, 0), (1, 0, 0), (0, 0, 0)]) rfl]
  show _ = some (_, Sum.inr (3, [Value.ref (z_ad u v q0 q1 hh adS 20 0), Value.ref (z_ad u v q0 q1 hh adS 21 0), Value.ref (z_ad u v q0 q1 hh adS 22 0), Value.ref (z_ad u v q0 q1 hh adS 23 0), Value.int (t.1 4 0 4), Value.int (t.1 4 0 5), Value.long (t.2 4 0 6), Value.int (t.1 4 0 7)]))
  rw [h.1 4 0 4 rfl, h.1 4 0 5 rfl, h.2.1 4 0 6, h.1 4 0 7 rfl]
  rfl
set_option maxHeartbeats 40000 in
theorem z_m6 {t : xS} (h : z_h t tG tR) : (z_w1 cA tG tR u v q0 q1 qo)[19]? = some (z_ad u v q0 q1 hh adS 5 0, x_cell x_K cA (z_ad u v q0 q1 hh adS) t 5 0) := by
  rw [x_cell_obj (K := x_K) (ci := 8) (fs := [(3, 24, 0), (3, 25, 0), (0, 0, 0), (0, 0, 0), (0, 0, 0), (0, 0, 0), (4, 0, 0)]) rfl]
  show _ = some (_, Sum.inr (8, [Value.ref (z_ad u v q0 q1 hh adS 24 0), Value.ref (z_ad u v q0 q1 hh adS 25 0), Value.int (t.1 5 0 2), Value.int (t.1 5 0 3), Value.int (t.1 5 0 4), Value.int (t.1 5 0 5), Value.int (t.1 5 0 6)]))
  rw [h.2.2.2.2.2.1 0]
  rfl
set_option maxHeartbeats 40000 in
theorem z_m7 {t : xS} (h : z_h t tG tR) : (z_w1 cA tG tR u v q0 q1 qo)[22]? = some (z_ad u v q0 q1 hh adS 5 1, x_cell x_K cA (z_ad u v q0 q1 hh adS) t 5 1) := by
  rw [x_cell_obj (K := x_K) (ci := 8) (fs := [(3, 24, 0), (3, 25, 0), (0, 0, 0), (0, 0, 0), (0, 0, 0), (0, 0, 0), (4, 0, 0)]) rfl]
  show _ = some (_, Sum.inr (8, [Value.ref (z_ad u v q0 q1 hh adS 24 1), Value.ref (z_ad u v q0 q1 hh adS 25 1), Value.int (t.1 5 1 2), Value.int (t.1 5 1 3), Value.int (t.1 5 1 4), Value.int (t.1 5 1 5), Value.int (t.1 5 1 6)]))
  rw [h.2.2.2.2.2.1 1]
  rfl
set_option maxHeartbeats 40000 in
theorem z_m8 {t : xS} (h : z_h t tG tR) : (z_w1 cA tG tR u v q0 q1 qo)[25]? = some (z_ad u v q0 q1 hh adS 6 0, x_cell x_K cA (z_ad u v q0 q1 hh adS) t 6 0) := by
  rw [x_cell_obj (K := x_K) (ci := 1) (fs := [(2, 2, 0), (2, 26, 0), (2, 27, 0), (2, 28, 0), (2, 29, 0), (0, 0, 0)]) rfl]
  show _ = some (_, Sum.inr (1, [Value.ref (z_ad u v q0 q1 hh adS 2 0), Value.ref (z_ad u v q0 q1 hh adS 26 0), Value.ref (z_ad u v q0 q1 hh adS 27 0), Value.ref (z_ad u v q0 q1 hh adS 28 0), Value.ref (z_ad u v q0 q1 hh adS 29 0), Value.int (t.1 6 0 5)]))
  rw [h.1 6 0 5 rfl]
  rfl
set_option maxHeartbeats 40000 in
theorem z_m9 {t : xS} (h : z_h t tG tR) : (z_w1 cA tG tR u v q0 q1 qo)[30]? = some (z_ad u v q0 q1 hh adS 7 0, x_cell x_K cA (z_ad u v q0 q1 hh adS) t 7 0) := by
  rw [x_cell_obj (K := x_K) (ci := 0) (fs := [(2, 2, 0), (2, 6, 0), (2, 5, 0), (0, 0, 0), (0, 0, 0), (0, 0, 0)]) rfl]
  show _ = some (_, Sum.inr (0, [Value.ref (z_ad u v q0 q1 hh adS 2 0), Value.ref (z_ad u v q0 q1 hh adS 6 0), Value.ref (z_ad u v q0 q1 hh adS 5 0), Value.int (t.1 7 0 3), Value.int (t.1 7 0 4), Value.int (t.1 7 0 5)]))
  rw [h.1 7 0 3 rfl, h.1 7 0 4 rfl, h.1 7 0 5 rfl]
  rfl
set_option maxHeartbeats 40000 in
theorem z_m10 {t : xS} (h : z_h t tG tR) : (z_w1 cA tG tR u v q0 q1 qo)[31]? = some (z_ad u v q0 q1 hh adS 8 0, x_cell x_K cA (z_ad u v q0 q1 hh adS) t 8 0) := by
  rw [x_cell_obj (K := x_K) (ci := 7) (fs := [(2, 2, 0), (2, 30, 0), (2, 31, 0), (2, 32, 0), (2, 33, 0), (2, 34, 0), (0, 0, 0), (0, 0, 0)]) rfl]
  show _ = some (_, Sum.inr (7, [Value.ref (z_ad u v q0 q1 hh adS 2 0), Value.ref (z_ad u v q0 q1 hh adS 30 0), Value.ref (z_ad u v q0 q1 hh adS 31 0), Value.ref (z_ad u v q0 q1 hh adS 32 0), Value.ref (z_ad u v q0 q1 hh adS 33 0), Value.ref (z_ad u v q0 q1 hh adS 34 0), Value.int (t.1 8 0 6), Value.int (t.1 8 0 7)]))
  rw [h.1 8 0 6 rfl, h.1 8 0 7 rfl]
  rfl
set_option maxHeartbeats 40000 in
theorem z_m11 {t : xS} (h : z_h t tG tR) : (z_w1 cA tG tR u v q0 q1 qo)[37]? = some (z_ad u v q0 q1 hh adS 9 0, x_cell x_K cA (z_ad u v q0 q1 hh adS) t 9 0) := by
  rw [x_cell_obj (K := x_K) (ci := 9) (fs := [(2, 2, 0), (2, 6, 0), (2, 5, 0), (2, 3, 0), (2, 35, 0), (2, 36, 0), (2, 37, 0), (0, 0, 0), (0, 0, 0), (0, 0, 0)]) rfl]
  show _ = some (_, Sum.inr (9, [Value.ref (z_ad u v q0 q1 hh adS 2 0), Value.ref (z_ad u v q0 q1 hh adS 6 0), Value.ref (z_ad u v q0 q1 hh adS 5 0), Value.ref (z_ad u v q0 q1 hh adS 3 0), Value.ref (z_ad u v q0 q1 hh adS 35 0), Value.ref (z_ad u v q0 q1 hh adS 36 0), Value.ref (z_ad u v q0 q1 hh adS 37 0), Value.int (t.1 9 0 7), Value.int (t.1 9 0 8), Value.int (t.1 9 0 9)]))
  rw [h.1 9 0 7 rfl, h.1 9 0 8 rfl, h.1 9 0 9 rfl]
  rfl
set_option maxHeartbeats 40000 in
theorem z_m12 {t : xS} (h : z_h t tG tR) : (z_w1 cA tG tR u v q0 q1 qo)[41]? = some (z_ad u v q0 q1 hh adS 10 0, x_cell x_K cA (z_ad u v q0 q1 hh adS) t 10 0) := by
  rw [x_cell_obj (K := x_K) (ci := 5) (fs := [(2, 38, 0), (0, 0, 0)]) rfl]
  show _ = some (_, Sum.inr (5, [Value.ref (z_ad u v q0 q1 hh adS 38 0), Value.int (t.1 10 0 1)]))
  rw [h.1 10 0 1 rfl]
  rfl
set_option maxHeartbeats 40000 in
theorem z_m13 {t : xS} (h : z_h t tG tR) : (z_w1 cA tG tR u v q0 q1 qo)[43]? = some (z_ad u v q0 q1 hh adS 11 0, x_cell x_K cA (z_ad u v q0 q1 hh adS) t 11 0) := by
  rw [x_cell_obj (K := x_K) (ci := 4) (fs := [(2, 39, 0), (0, 0, 0)]) rfl]
  show _ = some (_, Sum.inr (4, [Value.ref (z_ad u v q0 q1 hh adS 39 0), Value.int (t.1 11 0 1)]))
  rw [h.1 11 0 1 rfl]
  rfl
set_option maxHeartbeats 40000 in
theorem z_m14 {t : xS} (h : z_h t tG tR) : (z_w1 cA tG tR u v q0 q1 qo)[45]? = some (z_ad u v q0 q1 hh adS 12 0, x_cell x_K cA (z_ad u v q0 q1 hh adS) t 12 0) := by
  rw [x_cell_obj (K := x_K) (ci := 4) (fs := [(2, 40, 0), (0, 0, 0)]) rfl]
  show _ = some (_, Sum.inr (4, [Value.ref (z_ad u v q0 q1 hh adS 40 0), Value.int (t.1 12 0 1)]))
  rw [h.1 12 0 1 rfl]
  rfl
set_option maxHeartbeats 40000 in
theorem z_m15 {t : xS} (h : z_h t tG tR) : (z_w1 cA tG tR u v q0 q1 qo)[47]? = some (z_ad u v q0 q1 hh adS 13 0, x_cell x_K cA (z_ad u v q0 q1 hh adS) t 13 0) := by
  rw [x_cell_obj (K := x_K) (ci := 12) (fs := [(0, 0, 0), (0, 0, 0), (2, 41, 0), (0, 0, 0), (0, 0, 0), (2, 42, 0), (0, 0, 0), (0, 0, 0), (2, 43, 0), (2, 43, 1), (2, 44, 0), (0, 0, 0), (0, 0, 0), (0, 0, 0), (0, 0, 0), (2, 45, 0), (2, 46, 0), (0, 0, 0), (2, 47, 0), (2, 47, 1), (0, 0, 0), (0, 0, 0), (2, 48, 0), (2, 49, 0), (0, 0, 0), (0, 0, 0), (0, 0, 0), (2, 50, 0), (0, 0, 0), (0, 0, 0), (2, 51, 0), (2, 52, 0), (2, 53, 0), (0, 0, 0), (2, 54, 0), (2, 55, 0), (2, 56, 0), (2, 57, 0), (0, 0, 0), (0, 0, 0), (0, 0, 0), (2, 58, 0), (2, 59, 0), (2, 60, 0), (2, 61, 0), (0, 0, 0), (2, 62, 0), (0, 0, 0), (2, 63, 0), (2, 64, 0), (0, 0, 0), (0, 0, 0), (2, 65, 0), (2, 66, 0), (2, 67, 0), (0, 0, 0), (2, 68, 0), (2, 69, 0), (2, 70, 0), (2, 47, 2), (0, 0, 0), (2, 71, 0), (2, 72, 0), (2, 73, 0)]) rfl]
  show _ = some (_, Sum.inr (12, [Value.int (t.1 13 0 0), Value.int (t.1 13 0 1), Value.ref (z_ad u v q0 q1 hh adS 41 0), Value.int (t.1 13 0 3), Value.int (t.1 13 0 4), Value.ref (z_ad u v q0 q1 hh adS 42 0), Value.int (t.1 13 0 6), Value.int (t.1 13 0 7), Value.ref (z_ad u v q0 q1 hh adS 43 0), Value.ref (z_ad u v q0 q1 hh adS 43 1), Value.ref (z_ad u v q0 q1 hh adS 44 0), Value.int (t.1 13 0 11), Value.int (t.1 13 0 12), Value.int (t.1 13 0 13), Value.int (t.1 13 0 14), Value.ref (z_ad u v q0 q1 hh adS 45 0), Value.ref (z_ad u v q0 q1 hh adS 46 0), Value.int (t.1 13 0 17), Value.ref (z_ad u v q0 q1 hh adS 47 0), Value.ref (z_ad u v q0 q1 hh adS 47 1), Value.int (t.1 13 0 20), Value.int (t.1 13 0 21), Value.ref (z_ad u v q0 q1 hh adS 48 0), Value.ref (z_ad u v q0 q1 hh adS 49 0), Value.int (t.1 13 0 24), Value.int (t.1 13 0 25), Value.int (t.1 13 0 26), Value.ref (z_ad u v q0 q1 hh adS 50 0), Value.int (t.1 13 0 28), Value.int (t.1 13 0 29), Value.ref (z_ad u v q0 q1 hh adS 51 0), Value.ref (z_ad u v q0 q1 hh adS 52 0), Value.ref (z_ad u v q0 q1 hh adS 53 0), Value.int (t.1 13 0 33), Value.ref (z_ad u v q0 q1 hh adS 54 0), Value.ref (z_ad u v q0 q1 hh adS 55 0), Value.ref (z_ad u v q0 q1 hh adS 56 0), Value.ref (z_ad u v q0 q1 hh adS 57 0), Value.int (t.1 13 0 38), Value.int (t.1 13 0 39), Value.int (t.1 13 0 40), Value.ref (z_ad u v q0 q1 hh adS 58 0), Value.ref (z_ad u v q0 q1 hh adS 59 0), Value.ref (z_ad u v q0 q1 hh adS 60 0), Value.ref (z_ad u v q0 q1 hh adS 61 0), Value.int (t.1 13 0 45), Value.ref (z_ad u v q0 q1 hh adS 62 0), Value.int (t.1 13 0 47), Value.ref (z_ad u v q0 q1 hh adS 63 0), Value.ref (z_ad u v q0 q1 hh adS 64 0), Value.int (t.1 13 0 50), Value.int (t.1 13 0 51), Value.ref (z_ad u v q0 q1 hh adS 65 0), Value.ref (z_ad u v q0 q1 hh adS 66 0), Value.ref (z_ad u v q0 q1 hh adS 67 0), Value.int (t.1 13 0 55), Value.ref (z_ad u v q0 q1 hh adS 68 0), Value.ref (z_ad u v q0 q1 hh adS 69 0), Value.ref (z_ad u v q0 q1 hh adS 70 0), Value.ref (z_ad u v q0 q1 hh adS 47 2), Value.int (t.1 13 0 60), Value.ref (z_ad u v q0 q1 hh adS 71 0), Value.ref (z_ad u v q0 q1 hh adS 72 0), Value.ref (z_ad u v q0 q1 hh adS 73 0)]))
  rw [h.2.2.2.2.2.2.2.2 0 0, show z_l13.getD 0 0 = 0 from by decide, h.2.2.2.2.2.2.2.2 0 1, show z_l13.getD 1 0 = 0 from by decide, h.2.2.2.2.2.2.2.2 0 3, show z_l13.getD 3 0 = 2 from by decide, h.2.2.2.2.2.2.2.2 0 4, show z_l13.getD 4 0 = 2 from by decide, h.2.2.2.2.2.2.2.2 0 6, show z_l13.getD 6 0 = 0 from by decide, h.2.2.2.2.2.2.2.2 0 7, show z_l13.getD 7 0 = 0 from by decide, h.2.2.2.2.2.2.2.2 0 11, show z_l13.getD 11 0 = 0 from by decide, h.2.2.2.2.2.2.2.2 0 12, show z_l13.getD 12 0 = 0 from by decide, h.2.2.2.2.2.2.2.2 0 13, show z_l13.getD 13 0 = 0 from by decide, h.2.2.2.2.2.2.2.2 0 14, show z_l13.getD 14 0 = 0 from by decide, h.2.2.2.2.2.2.2.2 0 17, show z_l13.getD 17 0 = 0 from by decide, h.2.2.2.2.2.2.2.2 0 20, show z_l13.getD 20 0 = 0 from by decide, h.2.2.2.2.2.2.2.2 0 21, show z_l13.getD 21 0 = 0 from by decide, h.2.2.2.2.2.2.2.2 0 24, show z_l13.getD 24 0 = 0 from by decide, h.2.2.2.2.2.2.2.2 0 25, show z_l13.getD 25 0 = 0 from by decide, h.2.2.2.2.2.2.2.2 0 26, show z_l13.getD 26 0 = 0 from by decide, h.2.2.2.2.2.2.2.2 0 28, show z_l13.getD 28 0 = 0 from by decide, h.2.2.2.2.2.2.2.2 0 29, show z_l13.getD 29 0 = 0 from by decide, h.2.2.2.2.2.2.2.2 0 33, show z_l13.getD 33 0 = 0 from by decide, h.2.2.2.2.2.2.2.2 0 38, show z_l13.getD 38 0 = -1 from by decide, h.2.2.2.2.2.2.2.2 0 39, show z_l13.getD 39 0 = 0 from by decide, h.2.2.2.2.2.2.2.2 0 40, show z_l13.getD 40 0 = 0 from by decide, h.2.2.2.2.2.2.2.2 0 45, show z_l13.getD 45 0 = 0 from by decide, h.2.2.2.2.2.2.2.2 0 47, show z_l13.getD 47 0 = 0 from by decide, h.2.2.2.2.2.2.2.2 0 50, show z_l13.getD 50 0 = 0 from by decide, h.2.2.2.2.2.2.2.2 0 51, show z_l13.getD 51 0 = 0 from by decide, h.2.2.2.2.2.2.2.2 0 55, show z_l13.getD 55 0 = 0 from by decide, h.2.2.2.2.2.2.2.2 0 60, show z_l13.getD 60 0 = 0 from by decide]
  rfl
set_option maxHeartbeats 40000 in
theorem z_m16 {t : xS} (h : z_h t tG tR) : (z_w1 cA tG tR u v q0 q1 qo)[2]? = some (z_ad u v q0 q1 hh adS 14 0, x_cell x_K cA (z_ad u v q0 q1 hh adS) t 14 0) := by
  rw [z_row h (j := 0) (n := 80) rfl rfl]; rfl
set_option maxHeartbeats 40000 in
theorem z_m17 {t : xS} (h : z_h t tG tR) : (z_w1 cA tG tR u v q0 q1 qo)[4]? = some (z_ad u v q0 q1 hh adS 15 0, x_cell x_K cA (z_ad u v q0 q1 hh adS) t 15 0) := by
  rw [x_cell_arr (K := x_K) (ty := 0) (n := 36) rfl]
  show _ = some (_, Sum.inl (cA 0, 36, Sum.inl (t.1 15 0)))
  rw [h.2.2.2.1 0]; rfl
set_option maxHeartbeats 40000 in
theorem z_m18 {t : xS} (h : z_h t tG tR) : (z_w1 cA tG tR u v q0 q1 qo)[5]? = some (z_ad u v q0 q1 hh adS 16 0, x_cell x_K cA (z_ad u v q0 q1 hh adS) t 16 0) := by
  rw [x_cell_arr (K := x_K) (ty := 0) (n := 144) rfl]
  show _ = some (_, Sum.inl (cA 0, 144, Sum.inl (t.1 16 0)))
  rw [h.2.2.2.2.1 0]; rfl
set_option maxHeartbeats 40000 in
theorem z_m19 {t : xS} (h : z_h t tG tR) : (z_w1 cA tG tR u v q0 q1 qo)[7]? = some (z_ad u v q0 q1 hh adS 17 0, x_cell x_K cA (z_ad u v q0 q1 hh adS) t 17 0) := by
  rw [z_row h (j := 0) (n := 4) rfl rfl]; rfl
set_option maxHeartbeats 40000 in
theorem z_m20 {t : xS} (h : z_h t tG tR) : (z_w1 cA tG tR u v q0 q1 qo)[11]? = some (z_ad u v q0 q1 hh adS 17 1, x_cell x_K cA (z_ad u v q0 q1 hh adS) t 17 1) := by
  rw [z_row h (j := 0) (n := 4) rfl rfl]; rfl
set_option maxHeartbeats 40000 in
theorem z_m21 {t : xS} (h : z_h t tG tR) : (z_w1 cA tG tR u v q0 q1 qo)[8]? = some (z_ad u v q0 q1 hh adS 18 0, x_cell x_K cA (z_ad u v q0 q1 hh adS) t 18 0) := by
  rw [z_row h (j := 0) (n := 4) rfl rfl]; rfl
set_option maxHeartbeats 40000 in
theorem z_m22 {t : xS} (h : z_h t tG tR) : (z_w1 cA tG tR u v q0 q1 qo)[12]? = some (z_ad u v q0 q1 hh adS 18 1, x_cell x_K cA (z_ad u v q0 q1 hh adS) t 18 1) := by
  rw [z_row h (j := 0) (n := 4) rfl rfl]; rfl
set_option maxHeartbeats 40000 in
theorem z_m23 {t : xS} (h : z_h t tG tR) : (z_w1 cA tG tR u v q0 q1 qo)[9]? = some (z_ad u v q0 q1 hh adS 19 0, x_cell x_K cA (z_ad u v q0 q1 hh adS) t 19 0) := by
  rw [z_row h (j := 0) (n := 4) rfl rfl]; rfl
set_option maxHeartbeats 40000 in
theorem z_m24 {t : xS} (h : z_h t tG tR) : (z_w1 cA tG tR u v q0 q1 qo)[13]? = some (z_ad u v q0 q1 hh adS 19 1, x_cell x_K cA (z_ad u v q0 q1 hh adS) t 19 1) := by
  rw [z_row h (j := 0) (n := 4) rfl rfl]; rfl
set_option maxHeartbeats 40000 in
theorem z_m25 {t : xS} (h : z_h t tG tR) : (z_w1 cA tG tR u v q0 q1 qo)[15]? = some (z_ad u v q0 q1 hh adS 20 0, x_cell x_K cA (z_ad u v q0 q1 hh adS) t 20 0) := by
  rw [z_row h (j := 1) (n := 15) rfl rfl]; rfl
set_option maxHeartbeats 40000 in
theorem z_m26 {t : xS} (h : z_h t tG tR) : (z_w1 cA tG tR u v q0 q1 qo)[16]? = some (z_ad u v q0 q1 hh adS 21 0, x_cell x_K cA (z_ad u v q0 q1 hh adS) t 21 0) := by
  rw [z_row h (j := 0) (n := 15) rfl rfl]; rfl
set_option maxHeartbeats 40000 in
theorem z_m27 {t : xS} (h : z_h t tG tR) : (z_w1 cA tG tR u v q0 q1 qo)[17]? = some (z_ad u v q0 q1 hh adS 22 0, x_cell x_K cA (z_ad u v q0 q1 hh adS) t 22 0) := by
  rw [z_row h (j := 1) (n := 3) rfl rfl]; rfl
set_option maxHeartbeats 40000 in
theorem z_m28 {t : xS} (h : z_h t tG tR) : (z_w1 cA tG tR u v q0 q1 qo)[18]? = some (z_ad u v q0 q1 hh adS 23 0, x_cell x_K cA (z_ad u v q0 q1 hh adS) t 23 0) := by
  rw [z_row h (j := 0) (n := 3) rfl rfl]; rfl
set_option maxHeartbeats 40000 in
theorem z_m29 {t : xS} (h : z_h t tG tR) : (z_w1 cA tG tR u v q0 q1 qo)[20]? = some (z_ad u v q0 q1 hh adS 24 0, x_cell x_K cA (z_ad u v q0 q1 hh adS) t 24 0) := by
  rw [x_cell_arr (K := x_K) (ty := 0) (n := 40) rfl]
  show _ = some (_, Sum.inl (cA 0, 40, Sum.inl (t.1 24 0)))
  rw [h.2.2.2.2.2.2.1 0]; rfl
set_option maxHeartbeats 40000 in
theorem z_m30 {t : xS} (h : z_h t tG tR) : (z_w1 cA tG tR u v q0 q1 qo)[23]? = some (z_ad u v q0 q1 hh adS 24 1, x_cell x_K cA (z_ad u v q0 q1 hh adS) t 24 1) := by
  rw [x_cell_arr (K := x_K) (ty := 0) (n := 40) rfl]
  show _ = some (_, Sum.inl (cA 0, 40, Sum.inl (t.1 24 1)))
  rw [h.2.2.2.2.2.2.1 1]; rfl
set_option maxHeartbeats 40000 in
theorem z_m31 {t : xS} (h : z_h t tG tR) : (z_w1 cA tG tR u v q0 q1 qo)[21]? = some (z_ad u v q0 q1 hh adS 25 0, x_cell x_K cA (z_ad u v q0 q1 hh adS) t 25 0) := by
  rw [x_cell_arr (K := x_K) (ty := 0) (n := 40) rfl]
  show _ = some (_, Sum.inl (cA 0, 40, Sum.inl (t.1 25 0)))
  rw [h.2.2.2.2.2.2.2.1 0]; rfl
set_option maxHeartbeats 40000 in
theorem z_m32 {t : xS} (h : z_h t tG tR) : (z_w1 cA tG tR u v q0 q1 qo)[24]? = some (z_ad u v q0 q1 hh adS 25 1, x_cell x_K cA (z_ad u v q0 q1 hh adS) t 25 1) := by
  rw [x_cell_arr (K := x_K) (ty := 0) (n := 40) rfl]
  show _ = some (_, Sum.inl (cA 0, 40, Sum.inl (t.1 25 1)))
  rw [h.2.2.2.2.2.2.2.1 1]; rfl
set_option maxHeartbeats 40000 in
theorem z_m33 {t : xS} (h : z_h t tG tR) : (z_w1 cA tG tR u v q0 q1 qo)[26]? = some (z_ad u v q0 q1 hh adS 26 0, x_cell x_K cA (z_ad u v q0 q1 hh adS) t 26 0) := by
  rw [z_row h (j := 0) (n := 7) rfl rfl]; rfl
set_option maxHeartbeats 40000 in
theorem z_m34 {t : xS} (h : z_h t tG tR) : (z_w1 cA tG tR u v q0 q1 qo)[27]? = some (z_ad u v q0 q1 hh adS 27 0, x_cell x_K cA (z_ad u v q0 q1 hh adS) t 27 0) := by
  rw [z_row h (j := 0) (n := 64) rfl rfl]; rfl
set_option maxHeartbeats 40000 in
theorem z_m35 {t : xS} (h : z_h t tG tR) : (z_w1 cA tG tR u v q0 q1 qo)[28]? = some (z_ad u v q0 q1 hh adS 28 0, x_cell x_K cA (z_ad u v q0 q1 hh adS) t 28 0) := by
  rw [z_row h (j := 0) (n := 64) rfl rfl]; rfl
set_option maxHeartbeats 40000 in
theorem z_m36 {t : xS} (h : z_h t tG tR) : (z_w1 cA tG tR u v q0 q1 qo)[29]? = some (z_ad u v q0 q1 hh adS 29 0, x_cell x_K cA (z_ad u v q0 q1 hh adS) t 29 0) := by
  rw [z_row h (j := 0) (n := 6) rfl rfl]; rfl
set_option maxHeartbeats 40000 in
theorem z_m37 {t : xS} (h : z_h t tG tR) : (z_w1 cA tG tR u v q0 q1 qo)[32]? = some (z_ad u v q0 q1 hh adS 30 0, x_cell x_K cA (z_ad u v q0 q1 hh adS) t 30 0) := by
  rw [z_row h (j := 0) (n := 36) rfl rfl]; rfl
set_option maxHeartbeats 40000 in
theorem z_m38 {t : xS} (h : z_h t tG tR) : (z_w1 cA tG tR u v q0 q1 qo)[33]? = some (z_ad u v q0 q1 hh adS 31 0, x_cell x_K cA (z_ad u v q0 q1 hh adS) t 31 0) := by
  rw [z_row h (j := 0) (n := 36) rfl rfl]; rfl
set_option maxHeartbeats 40000 in
theorem z_m39 {t : xS} (h : z_h t tG tR) : (z_w1 cA tG tR u v q0 q1 qo)[34]? = some (z_ad u v q0 q1 hh adS 32 0, x_cell x_K cA (z_ad u v q0 q1 hh adS) t 32 0) := by
  rw [z_row h (j := 0) (n := 36) rfl rfl]; rfl
set_option maxHeartbeats 40000 in
theorem z_m40 {t : xS} (h : z_h t tG tR) : (z_w1 cA tG tR u v q0 q1 qo)[35]? = some (z_ad u v q0 q1 hh adS 33 0, x_cell x_K cA (z_ad u v q0 q1 hh adS) t 33 0) := by
  rw [z_row h (j := 0) (n := 36) rfl rfl]; rfl
set_option maxHeartbeats 40000 in
theorem z_m41 {t : xS} (h : z_h t tG tR) : (z_w1 cA tG tR u v q0 q1 qo)[36]? = some (z_ad u v q0 q1 hh adS 34 0, x_cell x_K cA (z_ad u v q0 q1 hh adS) t 34 0) := by
  rw [z_row h (j := 0) (n := 36) rfl rfl]; rfl
set_option maxHeartbeats 40000 in
theorem z_m42 {t : xS} (h : z_h t tG tR) : (z_w1 cA tG tR u v q0 q1 qo)[38]? = some (z_ad u v q0 q1 hh adS 35 0, x_cell x_K cA (z_ad u v q0 q1 hh adS) t 35 0) := by
  rw [z_row h (j := 0) (n := 2304) rfl rfl]; rfl
set_option maxHeartbeats 40000 in
theorem z_m43 {t : xS} (h : z_h t tG tR) : (z_w1 cA tG tR u v q0 q1 qo)[39]? = some (z_ad u v q0 q1 hh adS 36 0, x_cell x_K cA (z_ad u v q0 q1 hh adS) t 36 0) := by
  rw [z_row h (j := 0) (n := 2304) rfl rfl]; rfl
set_option maxHeartbeats 40000 in
theorem z_m44 {t : xS} (h : z_h t tG tR) : (z_w1 cA tG tR u v q0 q1 qo)[40]? = some (z_ad u v q0 q1 hh adS 37 0, x_cell x_K cA (z_ad u v q0 q1 hh adS) t 37 0) := by
  rw [z_row h (j := 0) (n := 1008) rfl rfl]; rfl
set_option maxHeartbeats 40000 in
theorem z_m45 {t : xS} (h : z_h t tG tR) : (z_w1 cA tG tR u v q0 q1 qo)[42]? = some (z_ad u v q0 q1 hh adS 38 0, x_cell x_K cA (z_ad u v q0 q1 hh adS) t 38 0) := by
  rw [z_row h (j := 1) (n := 16) rfl rfl]; rfl
set_option maxHeartbeats 40000 in
theorem z_m46 {t : xS} (h : z_h t tG tR) : (z_w1 cA tG tR u v q0 q1 qo)[44]? = some (z_ad u v q0 q1 hh adS 39 0, x_cell x_K cA (z_ad u v q0 q1 hh adS) t 39 0) := by
  rw [z_row h (j := 0) (n := 10) rfl rfl]; rfl
set_option maxHeartbeats 40000 in
theorem z_m47 {t : xS} (h : z_h t tG tR) : (z_w1 cA tG tR u v q0 q1 qo)[46]? = some (z_ad u v q0 q1 hh adS 40 0, x_cell x_K cA (z_ad u v q0 q1 hh adS) t 40 0) := by
  rw [z_row h (j := 0) (n := 12) rfl rfl]; rfl
set_option maxHeartbeats 40000 in
theorem z_m48 {t : xS} (h : z_h t tG tR) : (z_w1 cA tG tR u v q0 q1 qo)[48]? = some (z_ad u v q0 q1 hh adS 41 0, x_cell x_K cA (z_ad u v q0 q1 hh adS) t 41 0) := by
  rw [z_row h (j := 1) (n := 24) rfl rfl]; rfl
set_option maxHeartbeats 40000 in
theorem z_m49 {t : xS} (h : z_h t tG tR) : (z_w1 cA tG tR u v q0 q1 qo)[49]? = some (z_ad u v q0 q1 hh adS 42 0, x_cell x_K cA (z_ad u v q0 q1 hh adS) t 42 0) := by
  rw [z_row h (j := 0) (n := 36) rfl rfl]; rfl
set_option maxHeartbeats 40000 in
theorem z_m50 {t : xS} (h : z_h t tG tR) : (z_w1 cA tG tR u v q0 q1 qo)[50]? = some (z_ad u v q0 q1 hh adS 43 0, x_cell x_K cA (z_ad u v q0 q1 hh adS) t 43 0) := by
  rw [z_row h (j := 0) (n := 17) rfl rfl]; rfl
set_option maxHeartbeats 40000 in
theorem z_m51 {t : xS} (h : z_h t tG tR) : (z_w1 cA tG tR u v q0 q1 qo)[51]? = some (z_ad u v q0 q1 hh adS 43 1, x_cell x_K cA (z_ad u v q0 q1 hh adS) t 43 1) := by
  rw [z_row h (j := 0) (n := 17) rfl rfl]; rfl
set_option maxHeartbeats 40000 in
theorem z_m52 {t : xS} (h : z_h t tG tR) : (z_w1 cA tG tR u v q0 q1 qo)[52]? = some (z_ad u v q0 q1 hh adS 44 0, x_cell x_K cA (z_ad u v q0 q1 hh adS) t 44 0) := by
  rw [z_row h (j := 0) (n := 80) rfl rfl]; rfl
set_option maxHeartbeats 40000 in
theorem z_m53 {t : xS} (h : z_h t tG tR) : (z_w1 cA tG tR u v q0 q1 qo)[53]? = some (z_ad u v q0 q1 hh adS 45 0, x_cell x_K cA (z_ad u v q0 q1 hh adS) t 45 0) := by
  rw [z_row h (j := 0) (n := 36) rfl rfl]; rfl
set_option maxHeartbeats 40000 in
theorem z_m54 {t : xS} (h : z_h t tG tR) : (z_w1 cA tG tR u v q0 q1 qo)[54]? = some (z_ad u v q0 q1 hh adS 46 0, x_cell x_K cA (z_ad u v q0 q1 hh adS) t 46 0) := by
  rw [z_row h (j := 0) (n := 8) rfl rfl]; rfl
set_option maxHeartbeats 40000 in
theorem z_m55 {t : xS} (h : z_h t tG tR) : (z_w1 cA tG tR u v q0 q1 qo)[55]? = some (z_ad u v q0 q1 hh adS 47 0, x_cell x_K cA (z_ad u v q0 q1 hh adS) t 47 0) := by
  rw [z_row h (j := 0) (n := 80) rfl rfl]; rfl
set_option maxHeartbeats 40000 in
theorem z_m56 {t : xS} (h : z_h t tG tR) : (z_w1 cA tG tR u v q0 q1 qo)[56]? = some (z_ad u v q0 q1 hh adS 47 1, x_cell x_K cA (z_ad u v q0 q1 hh adS) t 47 1) := by
  rw [z_row h (j := 0) (n := 80) rfl rfl]; rfl
set_option maxHeartbeats 40000 in
theorem z_m57 {t : xS} (h : z_h t tG tR) : (z_w1 cA tG tR u v q0 q1 qo)[80]? = some (z_ad u v q0 q1 hh adS 47 2, x_cell x_K cA (z_ad u v q0 q1 hh adS) t 47 2) := by
  rw [z_row h (j := 0) (n := 80) rfl rfl]; rfl
set_option maxHeartbeats 40000 in
theorem z_m58 {t : xS} (h : z_h t tG tR) : (z_w1 cA tG tR u v q0 q1 qo)[57]? = some (z_ad u v q0 q1 hh adS 48 0, x_cell x_K cA (z_ad u v q0 q1 hh adS) t 48 0) := by
  rw [z_row h (j := 0) (n := 80) rfl rfl]; rfl
set_option maxHeartbeats 40000 in
theorem z_m59 {t : xS} (h : z_h t tG tR) : (z_w1 cA tG tR u v q0 q1 qo)[58]? = some (z_ad u v q0 q1 hh adS 49 0, x_cell x_K cA (z_ad u v q0 q1 hh adS) t 49 0) := by
  rw [z_row h (j := 0) (n := 7) rfl rfl]; rfl
set_option maxHeartbeats 40000 in
theorem z_m60 {t : xS} (h : z_h t tG tR) : (z_w1 cA tG tR u v q0 q1 qo)[59]? = some (z_ad u v q0 q1 hh adS 50 0, x_cell x_K cA (z_ad u v q0 q1 hh adS) t 50 0) := by
  rw [z_row h (j := 0) (n := 272) rfl rfl]; rfl
set_option maxHeartbeats 40000 in
theorem z_m61 {t : xS} (h : z_h t tG tR) : (z_w1 cA tG tR u v q0 q1 qo)[60]? = some (z_ad u v q0 q1 hh adS 51 0, x_cell x_K cA (z_ad u v q0 q1 hh adS) t 51 0) := by
  rw [z_row h (j := 0) (n := 60) rfl rfl]; rfl
set_option maxHeartbeats 40000 in
theorem z_m62 {t : xS} (h : z_h t tG tR) : (z_w1 cA tG tR u v q0 q1 qo)[61]? = some (z_ad u v q0 q1 hh adS 52 0, x_cell x_K cA (z_ad u v q0 q1 hh adS) t 52 0) := by
  rw [z_row h (j := 0) (n := 60) rfl rfl]; rfl
set_option maxHeartbeats 40000 in
theorem z_m63 {t : xS} (h : z_h t tG tR) : (z_w1 cA tG tR u v q0 q1 qo)[62]? = some (z_ad u v q0 q1 hh adS 53 0, x_cell x_K cA (z_ad u v q0 q1 hh adS) t 53 0) := by
  rw [z_row h (j := 0) (n := 60) rfl rfl]; rfl
set_option maxHeartbeats 40000 in
theorem z_m64 {t : xS} (h : z_h t tG tR) : (z_w1 cA tG tR u v q0 q1 qo)[63]? = some (z_ad u v q0 q1 hh adS 54 0, x_cell x_K cA (z_ad u v q0 q1 hh adS) t 54 0) := by
  rw [z_row h (j := 0) (n := 144) rfl rfl]; rfl
set_option maxHeartbeats 40000 in
theorem z_m65 {t : xS} (h : z_h t tG tR) : (z_w1 cA tG tR u v q0 q1 qo)[64]? = some (z_ad u v q0 q1 hh adS 55 0, x_cell x_K cA (z_ad u v q0 q1 hh adS) t 55 0) := by
  rw [z_row h (j := 0) (n := 9280) rfl rfl]; rfl
set_option maxHeartbeats 40000 in
theorem z_m66 {t : xS} (h : z_h t tG tR) : (z_w1 cA tG tR u v q0 q1 qo)[65]? = some (z_ad u v q0 q1 hh adS 56 0, x_cell x_K cA (z_ad u v q0 q1 hh adS) t 56 0) := by
  rw [z_row h (j := 0) (n := 36) rfl rfl]; rfl
set_option maxHeartbeats 40000 in
theorem z_m67 {t : xS} (h : z_h t tG tR) : (z_w1 cA tG tR u v q0 q1 qo)[66]? = some (z_ad u v q0 q1 hh adS 57 0, x_cell x_K cA (z_ad u v q0 q1 hh adS) t 57 0) := by
  rw [z_row h (j := 0) (n := 36) rfl rfl]; rfl
set_option maxHeartbeats 40000 in
theorem z_m68 {t : xS} (h : z_h t tG tR) : (z_w1 cA tG tR u v q0 q1 qo)[67]? = some (z_ad u v q0 q1 hh adS 58 0, x_cell x_K cA (z_ad u v q0 q1 hh adS) t 58 0) := by
  rw [z_row h (j := 0) (n := 2304) rfl rfl]; rfl
set_option maxHeartbeats 40000 in
theorem z_m69 {t : xS} (h : z_h t tG tR) : (z_w1 cA tG tR u v q0 q1 qo)[68]? = some (z_ad u v q0 q1 hh adS 59 0, x_cell x_K cA (z_ad u v q0 q1 hh adS) t 59 0) := by
  rw [z_row h (j := 0) (n := 2304) rfl rfl]; rfl
set_option maxHeartbeats 40000 in
theorem z_m70 {t : xS} (h : z_h t tG tR) : (z_w1 cA tG tR u v q0 q1 qo)[69]? = some (z_ad u v q0 q1 hh adS 60 0, x_cell x_K cA (z_ad u v q0 q1 hh adS) t 60 0) := by
  rw [z_row h (j := 0) (n := 2304) rfl rfl]; rfl
set_option maxHeartbeats 40000 in
theorem z_m71 {t : xS} (h : z_h t tG tR) : (z_w1 cA tG tR u v q0 q1 qo)[70]? = some (z_ad u v q0 q1 hh adS 61 0, x_cell x_K cA (z_ad u v q0 q1 hh adS) t 61 0) := by
  rw [z_row h (j := 0) (n := 2304) rfl rfl]; rfl
set_option maxHeartbeats 40000 in
theorem z_m72 {t : xS} (h : z_h t tG tR) : (z_w1 cA tG tR u v q0 q1 qo)[71]? = some (z_ad u v q0 q1 hh adS 62 0, x_cell x_K cA (z_ad u v q0 q1 hh adS) t 62 0) := by
  rw [z_row h (j := 0) (n := 2304) rfl rfl]; rfl
set_option maxHeartbeats 40000 in
theorem z_m73 {t : xS} (h : z_h t tG tR) : (z_w1 cA tG tR u v q0 q1 qo)[72]? = some (z_ad u v q0 q1 hh adS 63 0, x_cell x_K cA (z_ad u v q0 q1 hh adS) t 63 0) := by
  rw [z_row h (j := 1) (n := 36) rfl rfl]; rfl
set_option maxHeartbeats 40000 in
theorem z_m74 {t : xS} (h : z_h t tG tR) : (z_w1 cA tG tR u v q0 q1 qo)[73]? = some (z_ad u v q0 q1 hh adS 64 0, x_cell x_K cA (z_ad u v q0 q1 hh adS) t 64 0) := by
  rw [z_row h (j := 1) (n := 36) rfl rfl]; rfl
set_option maxHeartbeats 40000 in
theorem z_m75 {t : xS} (h : z_h t tG tR) : (z_w1 cA tG tR u v q0 q1 qo)[74]? = some (z_ad u v q0 q1 hh adS 65 0, x_cell x_K cA (z_ad u v q0 q1 hh adS) t 65 0) := by
  rw [z_row h (j := 0) (n := 10) rfl rfl]; rfl
set_option maxHeartbeats 40000 in
theorem z_m76 {t : xS} (h : z_h t tG tR) : (z_w1 cA tG tR u v q0 q1 qo)[75]? = some (z_ad u v q0 q1 hh adS 66 0, x_cell x_K cA (z_ad u v q0 q1 hh adS) t 66 0) := by
  rw [z_row h (j := 0) (n := 10) rfl rfl]; rfl
set_option maxHeartbeats 40000 in
theorem z_m77 {t : xS} (h : z_h t tG tR) : (z_w1 cA tG tR u v q0 q1 qo)[76]? = some (z_ad u v q0 q1 hh adS 67 0, x_cell x_K cA (z_ad u v q0 q1 hh adS) t 67 0) := by
  rw [z_row h (j := 0) (n := 10) rfl rfl]; rfl
set_option maxHeartbeats 40000 in
theorem z_m78 {t : xS} (h : z_h t tG tR) : (z_w1 cA tG tR u v q0 q1 qo)[77]? = some (z_ad u v q0 q1 hh adS 68 0, x_cell x_K cA (z_ad u v q0 q1 hh adS) t 68 0) := by
  rw [z_row h (j := 0) (n := 12) rfl rfl]; rfl
set_option maxHeartbeats 40000 in
theorem z_m79 {t : xS} (h : z_h t tG tR) : (z_w1 cA tG tR u v q0 q1 qo)[78]? = some (z_ad u v q0 q1 hh adS 69 0, x_cell x_K cA (z_ad u v q0 q1 hh adS) t 69 0) := by
  rw [z_row h (j := 0) (n := 12) rfl rfl]; rfl
set_option maxHeartbeats 40000 in
theorem z_m80 {t : xS} (h : z_h t tG tR) : (z_w1 cA tG tR u v q0 q1 qo)[79]? = some (z_ad u v q0 q1 hh adS 70 0, x_cell x_K cA (z_ad u v q0 q1 hh adS) t 70 0) := by
  rw [z_row h (j := 2) (n := 1000) rfl rfl]; rfl
set_option maxHeartbeats 40000 in
theorem z_m81 {t : xS} (h : z_h t tG tR) : (z_w1 cA tG tR u v q0 q1 qo)[81]? = some (z_ad u v q0 q1 hh adS 71 0, x_cell x_K cA (z_ad u v q0 q1 hh adS) t 71 0) := by
  rw [z_row h (j := 2) (n := 3) rfl rfl]; rfl
set_option maxHeartbeats 40000 in
theorem z_m82 {t : xS} (h : z_h t tG tR) : (z_w1 cA tG tR u v q0 q1 qo)[82]? = some (z_ad u v q0 q1 hh adS 72 0, x_cell x_K cA (z_ad u v q0 q1 hh adS) t 72 0) := by
  rw [z_row h (j := 0) (n := 3) rfl rfl]; rfl
set_option maxHeartbeats 40000 in
theorem z_m83 {t : xS} (h : z_h t tG tR) : (z_w1 cA tG tR u v q0 q1 qo)[83]? = some (z_ad u v q0 q1 hh adS 73 0, x_cell x_K cA (z_ad u v q0 q1 hh adS) t 73 0) := by
  rw [z_row h (j := 0) (n := 51) rfl rfl]; rfl
def z_zL : List (Nat × Nat × Nat) := [(0, 0, 0), (1, 0, 1), (2, 0, 3), (3, 0, 6), (3, 1, 10), (4, 0, 14), (5, 0, 19), (5, 1, 22), (6, 0, 25), (7, 0, 30), (8, 0, 31), (9, 0, 37), (10, 0, 41), (11, 0, 43), (12, 0, 45), (13, 0, 47), (14, 0, 2), (15, 0, 4), (16, 0, 5), (17, 0, 7), (17, 1, 11), (18, 0, 8), (18, 1, 12), (19, 0, 9), (19, 1, 13), (20, 0, 15), (21, 0, 16), (22, 0, 17), (23, 0, 18), (24, 0, 20), (24, 1, 23), (25, 0, 21), (25, 1, 24), (26, 0, 26), (27, 0, 27), (28, 0, 28), (29, 0, 29), (30, 0, 32), (31, 0, 33), (32, 0, 34), (33, 0, 35), (34, 0, 36), (35, 0, 38), (36, 0, 39), (37, 0, 40), (38, 0, 42), (39, 0, 44), (40, 0, 46), (41, 0, 48), (42, 0, 49), (43, 0, 50), (43, 1, 51), (44, 0, 52), (45, 0, 53), (46, 0, 54), (47, 0, 55), (47, 1, 56), (47, 2, 80), (48, 0, 57), (49, 0, 58), (50, 0, 59), (51, 0, 60), (52, 0, 61), (53, 0, 62), (54, 0, 63), (55, 0, 64), (56, 0, 65), (57, 0, 66), (58, 0, 67), (59, 0, 68), (60, 0, 69), (61, 0, 70), (62, 0, 71), (63, 0, 72), (64, 0, 73), (65, 0, 74), (66, 0, 75), (67, 0, 76), (68, 0, 77), (69, 0, 78), (70, 0, 79), (71, 0, 81), (72, 0, 82), (73, 0, 83)]
theorem z_zL_cl : x_Cl = z_zL.map (fun z => (z.1, z.2.1)) := by decide +kernel
theorem z_zL_nd : (84 :: z_zL.map (fun z => z.2.2)).Nodup := by decide +kernel
theorem z_mo : (z_w1 cA tG tR u v q0 q1 qo)[84]? = some (y_O cA qo (fun _ => 0)) := rfl
theorem z_all {t : xS} (h : z_h t tG tR) : ∀ z ∈ z_zL, (z_w1 cA tG tR u v q0 q1 qo)[z.2.2]? = some (z_ad u v q0 q1 hh adS z.1 z.2.1, x_cell x_K cA (z_ad u v q0 q1 hh adS) t z.1 z.2.1) :=
  List.forall_mem_cons.mpr ⟨z_m0 h, List.forall_mem_cons.mpr ⟨z_m1 h, List.forall_mem_cons.mpr ⟨z_m2 h, List.forall_mem_cons.mpr ⟨z_m3 h, List.forall_mem_cons.mpr ⟨z_m4 h, List.forall_mem_cons.mpr ⟨z_m5 h, List.forall_mem_cons.mpr ⟨z_m6 h, List.forall_mem_cons.mpr ⟨z_m7 h, List.forall_mem_cons.mpr ⟨z_m8 h, List.forall_mem_cons.mpr ⟨z_m9 h, List.forall_mem_cons.mpr ⟨z_m10 h, List.forall_mem_cons.mpr ⟨z_m11 h, List.forall_mem_cons.mpr ⟨z_m12 h, List.forall_mem_cons.mpr ⟨z_m13 h, List.forall_mem_cons.mpr ⟨z_m14 h, List.forall_mem_cons.mpr ⟨z_m15 h, List.forall_mem_cons.mpr ⟨z_m16 h, List.forall_mem_cons.mpr ⟨z_m17 h, List.forall_mem_cons.mpr ⟨z_m18 h, List.forall_mem_cons.mpr ⟨z_m19 h, List.forall_mem_cons.mpr ⟨z_m20 h, List.forall_mem_cons.mpr ⟨z_m21 h, List.forall_mem_cons.mpr ⟨z_m22 h, List.forall_mem_cons.mpr ⟨z_m23 h, List.forall_mem_cons.mpr ⟨z_m24 h, List.forall_mem_cons.mpr ⟨z_m25 h, List.forall_mem_cons.mpr ⟨z_m26 h, List.forall_mem_cons.mpr ⟨z_m27 h, List.forall_mem_cons.mpr ⟨z_m28 h, List.forall_mem_cons.mpr ⟨z_m29 h, List.forall_mem_cons.mpr ⟨z_m30 h, List.forall_mem_cons.mpr ⟨z_m31 h, List.forall_mem_cons.mpr ⟨z_m32 h, List.forall_mem_cons.mpr ⟨z_m33 h, List.forall_mem_cons.mpr ⟨z_m34 h, List.forall_mem_cons.mpr ⟨z_m35 h, List.forall_mem_cons.mpr ⟨z_m36 h, List.forall_mem_cons.mpr ⟨z_m37 h, List.forall_mem_cons.mpr ⟨z_m38 h, List.forall_mem_cons.mpr ⟨z_m39 h, List.forall_mem_cons.mpr ⟨z_m40 h, List.forall_mem_cons.mpr ⟨z_m41 h, List.forall_mem_cons.mpr ⟨z_m42 h, List.forall_mem_cons.mpr ⟨z_m43 h, List.forall_mem_cons.mpr ⟨z_m44 h, List.forall_mem_cons.mpr ⟨z_m45 h, List.forall_mem_cons.mpr ⟨z_m46 h, List.forall_mem_cons.mpr ⟨z_m47 h, List.forall_mem_cons.mpr ⟨z_m48 h, List.forall_mem_cons.mpr ⟨z_m49 h, List.forall_mem_cons.mpr ⟨z_m50 h, List.forall_mem_cons.mpr ⟨z_m51 h, List.forall_mem_cons.mpr ⟨z_m52 h, List.forall_mem_cons.mpr ⟨z_m53 h, List.forall_mem_cons.mpr ⟨z_m54 h, List.forall_mem_cons.mpr ⟨z_m55 h, List.forall_mem_cons.mpr ⟨z_m56 h, List.forall_mem_cons.mpr ⟨z_m57 h, List.forall_mem_cons.mpr ⟨z_m58 h, List.forall_mem_cons.mpr ⟨z_m59 h, List.forall_mem_cons.mpr ⟨z_m60 h, List.forall_mem_cons.mpr ⟨z_m61 h, List.forall_mem_cons.mpr ⟨z_m62 h, List.forall_mem_cons.mpr ⟨z_m63 h, List.forall_mem_cons.mpr ⟨z_m64 h, List.forall_mem_cons.mpr ⟨z_m65 h, List.forall_mem_cons.mpr ⟨z_m66 h, List.forall_mem_cons.mpr ⟨z_m67 h, List.forall_mem_cons.mpr ⟨z_m68 h, List.forall_mem_cons.mpr ⟨z_m69 h, List.forall_mem_cons.mpr ⟨z_m70 h, List.forall_mem_cons.mpr ⟨z_m71 h, List.forall_mem_cons.mpr ⟨z_m72 h, List.forall_mem_cons.mpr ⟨z_m73 h, List.forall_mem_cons.mpr ⟨z_m74 h, List.forall_mem_cons.mpr ⟨z_m75 h, List.forall_mem_cons.mpr ⟨z_m76 h, List.forall_mem_cons.mpr ⟨z_m77 h, List.forall_mem_cons.mpr ⟨z_m78 h, List.forall_mem_cons.mpr ⟨z_m79 h, List.forall_mem_cons.mpr ⟨z_m80 h, List.forall_mem_cons.mpr ⟨z_m81 h, List.forall_mem_cons.mpr ⟨z_m82 h, List.forall_mem_cons.mpr ⟨z_m83 h, fun _ h => absurd h List.not_mem_nil⟩⟩⟩⟩⟩⟩⟩⟩⟩⟩⟩⟩⟩⟩⟩⟩⟩⟩⟩⟩⟩⟩⟩⟩⟩⟩⟩⟩⟩⟩⟩⟩⟩⟩⟩⟩⟩⟩⟩⟩⟩⟩⟩⟩⟩⟩⟩⟩⟩⟩⟩⟩⟩⟩⟩⟩⟩⟩⟩⟩⟩⟩⟩⟩⟩⟩⟩⟩⟩⟩⟩⟩⟩⟩⟩⟩⟩⟩⟩⟩⟩⟩⟩⟩
theorem z_pl (j : Nat) (q : Nat × va_E) (h : (y_w cA (z_ad u v q0 q1 hh adS) qo (fun _ => 0) (z_t0 tG tR))[j]? = some q) : ∃ k, (84 :: z_zL.map (fun z => z.2.2))[j]? = some k ∧ (z_w1 cA tG tR u v q0 q1 qo)[k]? = some q := by
  cases j with
  | zero =>
    have e : y_O cA qo (fun _ => 0) = q := Option.some.inj h
    exact ⟨84, rfl, by rw [← e]; exact z_mo⟩
  | succ j =>
    have h : (x_ws x_K cA (z_ad u v q0 q1 hh adS) (z_t0 tG tR) x_Cl)[j]? = some q := h
    unfold x_ws at h
    rw [z_zL_cl, List.map_map, List.getElem?_map] at h
    obtain ⟨z, hz, e⟩ := Option.map_eq_some_iff.mp h
    refine ⟨z.2.2, ?_, ?_⟩
    · rw [List.getElem?_cons_succ, List.getElem?_map, hz]; rfl
    · rw [← e]; exact z_all z_h0 z (List.mem_of_getElem? hz)
theorem z_w0_P {D : va_G} {H : Heap} (h : va_P D vwCl (z_w0 cA tG tR u v q0 q1 qo) H) : va_P D vwCl (y_w cA (z_ad u v q0 q1 hh adS) qo (fun _ => 0) (z_t0 tG tR)) H := by
  rw [z_w01] at h
  intro j q hq
  obtain ⟨k, -, h2⟩ := z_pl j q hq
  exact h k q h2
theorem z_w0_D {A : Nat → Prop} (h : va_D A (z_w0 cA tG tR u v q0 q1 qo)) (ov : Nat → Int64) (t : xS) : va_D A (y_w cA (z_ad u v q0 q1 hh adS) qo ov t) := by
  rw [z_w01] at h
  refine y_w_D (ov := fun _ => 0) (t := z_t0 tG tR) ⟨fun i j p q hi hj hpq => ?_, fun j q hq => ?_⟩
  · obtain ⟨k1, a1, b1⟩ := z_pl i p hi
    obtain ⟨k2, a2, b2⟩ := z_pl j q hj
    have e := h.1 k1 k2 p q b1 b2 hpq
    subst e
    exact (List.getElem?_inj (List.getElem?_eq_some_iff.mp a1).1 z_zL_nd).mp (a1.trans a2.symm)
  · obtain ⟨k, -, h2⟩ := z_pl j q hq
    exact h.2 k q h2
theorem z_Wd {A : Nat → Prop} {tys : List (ClassId × FieldType)} (htys : tys = [(cA 0, .int), (cA 1, .long), (cA 2, .boolean)]) (h : ∀ ov t, va_D A (y_w cA (z_ad u v q0 q1 hh adS) qo ov t)) : x_Wd cA (z_ad u v q0 q1 hh adS) x_Cl (y_A1 (z_ad u v q0 q1 hh adS)) tys hh adS := by
  refine ⟨fun j => rfl, fun j => rfl, htys, fun t => ⟨fun i j p q hi hj hpq => ?_, fun j q hq => ?_⟩, x_F0⟩
  · have := (h (fun _ => 0) t).1 (i + 1) (j + 1) p q hi hj hpq
    omega
  · unfold x_ws at hq
    rw [List.getElem?_map] at hq
    obtain ⟨z, hz, e⟩ := Option.map_eq_some_iff.mp hq
    rw [← e]
    exact ⟨z, List.mem_of_getElem? hz, rfl⟩
end LWORLD

/-! prams: one line of a plan of prams, by the class. -/
section LINE
variable {d : Nat} {T E p R C : Nat} {kd sg : Nat → Nat} {s t : xS}
/-- where the reading stands after a line, and what the line tells -/
def lnX (R C : Nat) (kd sg : Nat → Nat) (E p : Nat) : Nat × Option (Nat × Nat) := match dgt sg E p 0 (R - 1) with
  | none => (p, none)
  | some r => match dgt sg E (p + 1) 0 (C - 1) with
    | none => (p + 1, none)
    | some c => if kd (r * C + c) = 1 then (p + 1, none) else match dgt sg E (p + 2) 0 3 with
      | none => (p + 2, none)
      | some w => (p + 3, some (r * C + c, w))
theorem c_line (hG : cG s R C kd) (h : cX s T sg E p) : ∃ t, ev (d + 5) f_Main_readsLine [vR 0 0] s = some (some (vI (ib (lnX R C kd sg E p).2.isSome)), t) ∧ cX t T sg E (lnX R C kd sg E p).1 ∧ fr (fun c _ k => c = 1 ∧ k = 3) s t := by
  have b1 := hG.1.1
  have b2 := hG.1.2.1
  have b3 := hG.1.2.2.1
  have b4 := hG.1.2.2.2.1
  have hr1 : nI R - 1 = nI (R - 1) := by rw [show (1 : Int32) = nI 1 from rfl, n_sub (by omega)]
  have hc1 : nI C - 1 = nI (C - 1) := by rw [show (1 : Int32) = nI 1 from rfl, n_sub (by omega)]
  have t1 := c_takeX (d := d + 1) (lo := 0) (hi := R - 1) (by omega) (by omega) h
  unfold lnX
  cases hR : dgt sg E p 0 (R - 1) with
  | none =>
    rw [hR, oI_n, if_pos rfl] at t1
    have t1' : ev (d + 4) f_Text_takeDigit [vR 1 0, vI 0, vI (nI (R - 1))] s = some (some (vI (-1)), s) := t1
    refine ⟨s, ?_, h, fr_r _ _⟩
    rw [Main_readsLine_eq, hG.2.1, hr1, t1', bI_s, if_pos rfl, nb_0]; rfl
  | some r =>
    have hr := dgt_v hR
    rw [hR, oI_s, if_neg (by intro z; cases z)] at t1
    have t1' : ev (d + 4) f_Text_takeDigit [vR 1 0, vI 0, vI (nI (R - 1))] s = some (some (vI (nI r)), wI s 1 0 3 (nI (p + 1))) := t1
    have f1 : fr (fun c _ k => c = 1 ∧ k = 3) s (wI s 1 0 3 (nI (p + 1))) := fr_wI (fr_r _ _) ⟨rfl, rfl⟩
    have h1 := (c_stepX (d := 0) h hr.1).2
    have hG1 : cG (wI s 1 0 3 (nI (p + 1))) R C kd := cG_fr hG f1 (by omega) (by omega) (by omega)
    have t2 := c_digitX (d := d + 2) (lo := 0) (hi := C - 1) (by omega) (by omega) h1
    dsimp only
    cases hC : dgt sg E (p + 1) 0 (C - 1) with
    | none =>
      rw [hC, oI_n] at t2
      have t2' : ev (d + 4) f_Text_digitHere [vR 1 0, vI 0, vI (nI (C - 1))] (wI s 1 0 3 (nI (p + 1))) = some (some (vI (-1)), wI s 1 0 3 (nI (p + 1))) := t2
      refine ⟨wI s 1 0 3 (nI (p + 1)), ?_, h1, f1⟩
      rw [Main_readsLine_eq, hG.2.1, hr1, t1', bI_s, if_neg (m1_nn (by omega)), hG1.2.2.1, hc1, t2', bI_s, if_pos rfl, nb_0]; rfl
    | some c =>
      have hc := dgt_v hC
      rw [hC, oI_s] at t2
      have t2' : ev (d + 4) f_Text_digitHere [vR 1 0, vI 0, vI (nI (C - 1))] (wI s 1 0 3 (nI (p + 1))) = some (some (vI (nI c)), wI s 1 0 3 (nI (p + 1))) := t2
      have hf : r * C + c < R * C := rc_lt (by omega) (by omega)
      have h2s := c_stepX (d := d + 3) h1 hc.1
      dsimp only
      by_cases hk : kd (r * C + c) = 1
      · refine ⟨wI s 1 0 3 (nI (p + 1)), ?_, by rw [if_pos hk]; exact h1, f1⟩
        rw [Main_readsLine_eq, hG.2.1, hr1, t1', bI_s, if_neg (m1_nn (by omega)), hG1.2.2.1, hc1, t2', bI_s, if_neg (m1_nn (by omega)), g_at hG1, bI_s, g_isWall hG1 hf, decide_eq_true hk, bI_s, if_neg (by decide), nb_0, if_pos hk]; rfl
      · have t3 := c_takeX (d := d + 1) (lo := 0) (hi := 3) (by omega) (by omega) h2s.2
        have f2 : fr (fun c _ k => c = 1 ∧ k = 3) s (wI (wI s 1 0 3 (nI (p + 1))) 1 0 3 (nI (p + 1 + 1))) := fr_wI f1 ⟨rfl, rfl⟩
        rw [if_neg hk]
        cases hW : dgt sg E (p + 2) 0 3 with
        | none =>
          rw [show p + 1 + 1 = p + 2 from rfl, hW, oI_n, if_pos rfl] at t3
          have t3' : ev (d + 4) f_Text_takeDigit [vR 1 0, vI 0, vI 3] (wI (wI s 1 0 3 (nI (p + 1))) 1 0 3 (nI (p + 1 + 1))) = some (some (vI (-1)), wI (wI s 1 0 3 (nI (p + 1))) 1 0 3 (nI (p + 1 + 1))) := t3
          refine ⟨_, ?_, h2s.2, f2⟩
          rw [Main_readsLine_eq, hG.2.1, hr1, t1', bI_s, if_neg (m1_nn (by omega)), hG1.2.2.1, hc1, t2', bI_s, if_neg (m1_nn (by omega)), g_at hG1, bI_s, g_isWall hG1 hf, decide_eq_false hk, bI_s, if_pos (by decide), h2s.1, bV_s, t3', bI_s, if_pos rfl, nb_0]; rfl
        | some w =>
          have hw := dgt_v hW
          rw [show p + 1 + 1 = p + 2 from rfl, hW, oI_s, if_neg (by intro z; cases z)] at t3
          have t3' : ev (d + 4) f_Text_takeDigit [vR 1 0, vI 0, vI 3] (wI (wI s 1 0 3 (nI (p + 1))) 1 0 3 (nI (p + 1 + 1))) = some (some (vI (nI w)), wI (wI (wI s 1 0 3 (nI (p + 1))) 1 0 3 (nI (p + 1 + 1))) 1 0 3 (nI (p + 2 + 1))) := t3
          refine ⟨wI (wI (wI s 1 0 3 (nI (p + 1))) 1 0 3 (nI (p + 1 + 1))) 1 0 3 (nI (p + 2 + 1)), ?_, (c_stepX (d := 0) h2s.2 hw.1).2, fr_wI f2 ⟨rfl, rfl⟩⟩
          rw [Main_readsLine_eq, hG.2.1, hr1, t1', bI_s, if_neg (m1_nn (by omega)), hG1.2.2.1, hc1, t2', bI_s, if_neg (m1_nn (by omega)), g_at hG1, bI_s, g_isWall hG1 hf, decide_eq_false hk, bI_s, if_pos (by decide), h2s.1, bV_s, t3', bI_s, if_neg (m1_nn (by omega)), nb_1]; rfl
end LINE

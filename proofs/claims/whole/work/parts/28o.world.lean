/-! The first world, and where its things lie. Printed by genS.py. -/
section LWORLD
variable {cA : Nat → ClassId} {tG tR : xS} {u : (Nat → Nat) × (Nat → Nat → Nat)} {v : Nat → Nat} {q0 q1 qo hh : Nat} {adS : Nat → Nat}
def z_tb (u : (Nat → Nat) × (Nat → Nat → Nat)) (v : Nat → Nat) (q0 q1 : Nat) : List (List Nat) := [[q0], [u.1 1], [u.1 2], [u.1 3, u.1 4], [u.1 5], [u.1 6, u.1 7], [u.1 8], [u.1 9], [u.1 10], [u.1 11], [u.1 12], [u.1 13], [u.1 14], [q1], [u.2 1 0], [u.2 2 0], [u.2 2 1], [u.2 3 0, u.2 4 0], [u.2 3 1, u.2 4 1], [u.2 3 2, u.2 4 2], [u.2 5 0], [u.2 5 1], [u.2 5 2], [u.2 5 3], [u.2 6 0, u.2 7 0], [u.2 6 1, u.2 7 1], [u.2 8 0], [u.2 8 1], [u.2 8 2], [u.2 8 3], [u.2 10 0], [u.2 10 1], [u.2 10 2], [u.2 10 3], [u.2 10 4], [u.2 11 0], [u.2 11 1], [u.2 11 2], [u.2 12 0], [u.2 13 0], [u.2 14 0], [v 0], [v 1], [v 2, v 3], [v 4], [v 5], [v 6], [v 7, v 8, v 32], [v 9], [v 10], [v 11], [v 12], [v 13], [v 14], [v 15], [v 16], [v 17], [v 18], [v 19], [v 20], [v 21], [v 22], [v 23], [v 24], [v 25], [v 26], [v 27], [v 28], [v 29], [v 30], [v 31], [v 33], [v 34], [v 35]]
def z_ad (u : (Nat → Nat) × (Nat → Nat → Nat)) (v : Nat → Nat) (q0 q1 hh : Nat) (adS : Nat → Nat) : Nat → Nat → Nat := fun c i => bif Nat.beq c 900 then adS i else ((z_tb u v q0 q1).getD c []).getD i hh
/-- the first state -/
def z_t0 (tG tR : xS) : xS := (fun c _ => bif Nat.beq c 2 then tG.1 2 0 else bif Nat.beq c 15 then tG.1 15 0 else bif Nat.beq c 16 then tG.1 16 0 else bif Nat.beq c 5 then tR.1 5 0 else bif Nat.beq c 24 then tR.1 24 0 else bif Nat.beq c 25 then tR.1 25 0 else bif Nat.beq c 13 then fun k => [0, 0, 0, 2, 2, 0, 0, 0, 0, 0, 0, 0, 0, 0, 0, 0, 0, 0, 0, 0, 0, 0, 0, 0, 0, 0, 0, 0, 0, 0, 0, 0, 0, 0, 0, 0, 0, 0, -1].getD k 0 else fun _ => 0, fun _ _ _ => 0)
def z_w0 (cA : Nat → ClassId) (tG tR : xS) (u : (Nat → Nat) × (Nat → Nat → Nat)) (v : Nat → Nat) (q0 q1 qo : Nat) : va_W := (([] ++ ((q0, .inr (11, k_F11 u)) :: k_G11 cA tG tR u)) ++ ((q1, .inr (12, k_F12 v)) :: k_G12 cA v)) ++ [(qo, k_Z cA 1 1)]
theorem z_m0 : (z_w0 cA tG tR u v q0 q1 qo)[0]? = some (z_ad u v q0 q1 hh adS 0 0, x_cell x_K cA (z_ad u v q0 q1 hh adS) (z_t0 tG tR) 0 0) := rfl
theorem z_m1 : (z_w0 cA tG tR u v q0 q1 qo)[1]? = some (z_ad u v q0 q1 hh adS 1 0, x_cell x_K cA (z_ad u v q0 q1 hh adS) (z_t0 tG tR) 1 0) := rfl
theorem z_m2 : (z_w0 cA tG tR u v q0 q1 qo)[3]? = some (z_ad u v q0 q1 hh adS 2 0, x_cell x_K cA (z_ad u v q0 q1 hh adS) (z_t0 tG tR) 2 0) := rfl
theorem z_m3 : (z_w0 cA tG tR u v q0 q1 qo)[6]? = some (z_ad u v q0 q1 hh adS 3 0, x_cell x_K cA (z_ad u v q0 q1 hh adS) (z_t0 tG tR) 3 0) := rfl
theorem z_m4 : (z_w0 cA tG tR u v q0 q1 qo)[10]? = some (z_ad u v q0 q1 hh adS 3 1, x_cell x_K cA (z_ad u v q0 q1 hh adS) (z_t0 tG tR) 3 1) := rfl
theorem z_m5 : (z_w0 cA tG tR u v q0 q1 qo)[14]? = some (z_ad u v q0 q1 hh adS 4 0, x_cell x_K cA (z_ad u v q0 q1 hh adS) (z_t0 tG tR) 4 0) := rfl
theorem z_m6 : (z_w0 cA tG tR u v q0 q1 qo)[19]? = some (z_ad u v q0 q1 hh adS 5 0, x_cell x_K cA (z_ad u v q0 q1 hh adS) (z_t0 tG tR) 5 0) := rfl
theorem z_m7 : (z_w0 cA tG tR u v q0 q1 qo)[22]? = some (z_ad u v q0 q1 hh adS 5 1, x_cell x_K cA (z_ad u v q0 q1 hh adS) (z_t0 tG tR) 5 1) := rfl
theorem z_m8 : (z_w0 cA tG tR u v q0 q1 qo)[25]? = some (z_ad u v q0 q1 hh adS 6 0, x_cell x_K cA (z_ad u v q0 q1 hh adS) (z_t0 tG tR) 6 0) := rfl
theorem z_m9 : (z_w0 cA tG tR u v q0 q1 qo)[30]? = some (z_ad u v q0 q1 hh adS 7 0, x_cell x_K cA (z_ad u v q0 q1 hh adS) (z_t0 tG tR) 7 0) := rfl
theorem z_m10 : (z_w0 cA tG tR u v q0 q1 qo)[31]? = some (z_ad u v q0 q1 hh adS 8 0, x_cell x_K cA (z_ad u v q0 q1 hh adS) (z_t0 tG tR) 8 0) := rfl
theorem z_m11 : (z_w0 cA tG tR u v q0 q1 qo)[37]? = some (z_ad u v q0 q1 hh adS 9 0, x_cell x_K cA (z_ad u v q0 q1 hh adS) (z_t0 tG tR) 9 0) := rfl
theorem z_m12 : (z_w0 cA tG tR u v q0 q1 qo)[41]? = some (z_ad u v q0 q1 hh adS 10 0, x_cell x_K cA (z_ad u v q0 q1 hh adS) (z_t0 tG tR) 10 0) := rfl
theorem z_m13 : (z_w0 cA tG tR u v q0 q1 qo)[43]? = some (z_ad u v q0 q1 hh adS 11 0, x_cell x_K cA (z_ad u v q0 q1 hh adS) (z_t0 tG tR) 11 0) := rfl
theorem z_m14 : (z_w0 cA tG tR u v q0 q1 qo)[45]? = some (z_ad u v q0 q1 hh adS 12 0, x_cell x_K cA (z_ad u v q0 q1 hh adS) (z_t0 tG tR) 12 0) := rfl
theorem z_m15 : (z_w0 cA tG tR u v q0 q1 qo)[47]? = some (z_ad u v q0 q1 hh adS 13 0, x_cell x_K cA (z_ad u v q0 q1 hh adS) (z_t0 tG tR) 13 0) := rfl
theorem z_m16 : (z_w0 cA tG tR u v q0 q1 qo)[2]? = some (z_ad u v q0 q1 hh adS 14 0, x_cell x_K cA (z_ad u v q0 q1 hh adS) (z_t0 tG tR) 14 0) := rfl
theorem z_m17 : (z_w0 cA tG tR u v q0 q1 qo)[4]? = some (z_ad u v q0 q1 hh adS 15 0, x_cell x_K cA (z_ad u v q0 q1 hh adS) (z_t0 tG tR) 15 0) := rfl
theorem z_m18 : (z_w0 cA tG tR u v q0 q1 qo)[5]? = some (z_ad u v q0 q1 hh adS 16 0, x_cell x_K cA (z_ad u v q0 q1 hh adS) (z_t0 tG tR) 16 0) := rfl
theorem z_m19 : (z_w0 cA tG tR u v q0 q1 qo)[7]? = some (z_ad u v q0 q1 hh adS 17 0, x_cell x_K cA (z_ad u v q0 q1 hh adS) (z_t0 tG tR) 17 0) := rfl
theorem z_m20 : (z_w0 cA tG tR u v q0 q1 qo)[11]? = some (z_ad u v q0 q1 hh adS 17 1, x_cell x_K cA (z_ad u v q0 q1 hh adS) (z_t0 tG tR) 17 1) := rfl
theorem z_m21 : (z_w0 cA tG tR u v q0 q1 qo)[8]? = some (z_ad u v q0 q1 hh adS 18 0, x_cell x_K cA (z_ad u v q0 q1 hh adS) (z_t0 tG tR) 18 0) := rfl
theorem z_m22 : (z_w0 cA tG tR u v q0 q1 qo)[12]? = some (z_ad u v q0 q1 hh adS 18 1, x_cell x_K cA (z_ad u v q0 q1 hh adS) (z_t0 tG tR) 18 1) := rfl
theorem z_m23 : (z_w0 cA tG tR u v q0 q1 qo)[9]? = some (z_ad u v q0 q1 hh adS 19 0, x_cell x_K cA (z_ad u v q0 q1 hh adS) (z_t0 tG tR) 19 0) := rfl
theorem z_m24 : (z_w0 cA tG tR u v q0 q1 qo)[13]? = some (z_ad u v q0 q1 hh adS 19 1, x_cell x_K cA (z_ad u v q0 q1 hh adS) (z_t0 tG tR) 19 1) := rfl
theorem z_m25 : (z_w0 cA tG tR u v q0 q1 qo)[15]? = some (z_ad u v q0 q1 hh adS 20 0, x_cell x_K cA (z_ad u v q0 q1 hh adS) (z_t0 tG tR) 20 0) := rfl
theorem z_m26 : (z_w0 cA tG tR u v q0 q1 qo)[16]? = some (z_ad u v q0 q1 hh adS 21 0, x_cell x_K cA (z_ad u v q0 q1 hh adS) (z_t0 tG tR) 21 0) := rfl
theorem z_m27 : (z_w0 cA tG tR u v q0 q1 qo)[17]? = some (z_ad u v q0 q1 hh adS 22 0, x_cell x_K cA (z_ad u v q0 q1 hh adS) (z_t0 tG tR) 22 0) := rfl
theorem z_m28 : (z_w0 cA tG tR u v q0 q1 qo)[18]? = some (z_ad u v q0 q1 hh adS 23 0, x_cell x_K cA (z_ad u v q0 q1 hh adS) (z_t0 tG tR) 23 0) := rfl
theorem z_m29 : (z_w0 cA tG tR u v q0 q1 qo)[20]? = some (z_ad u v q0 q1 hh adS 24 0, x_cell x_K cA (z_ad u v q0 q1 hh adS) (z_t0 tG tR) 24 0) := rfl
theorem z_m30 : (z_w0 cA tG tR u v q0 q1 qo)[23]? = some (z_ad u v q0 q1 hh adS 24 1, x_cell x_K cA (z_ad u v q0 q1 hh adS) (z_t0 tG tR) 24 1) := rfl
theorem z_m31 : (z_w0 cA tG tR u v q0 q1 qo)[21]? = some (z_ad u v q0 q1 hh adS 25 0, x_cell x_K cA (z_ad u v q0 q1 hh adS) (z_t0 tG tR) 25 0) := rfl
theorem z_m32 : (z_w0 cA tG tR u v q0 q1 qo)[24]? = some (z_ad u v q0 q1 hh adS 25 1, x_cell x_K cA (z_ad u v q0 q1 hh adS) (z_t0 tG tR) 25 1) := rfl
theorem z_m33 : (z_w0 cA tG tR u v q0 q1 qo)[26]? = some (z_ad u v q0 q1 hh adS 26 0, x_cell x_K cA (z_ad u v q0 q1 hh adS) (z_t0 tG tR) 26 0) := rfl
theorem z_m34 : (z_w0 cA tG tR u v q0 q1 qo)[27]? = some (z_ad u v q0 q1 hh adS 27 0, x_cell x_K cA (z_ad u v q0 q1 hh adS) (z_t0 tG tR) 27 0) := rfl
theorem z_m35 : (z_w0 cA tG tR u v q0 q1 qo)[28]? = some (z_ad u v q0 q1 hh adS 28 0, x_cell x_K cA (z_ad u v q0 q1 hh adS) (z_t0 tG tR) 28 0) := rfl
theorem z_m36 : (z_w0 cA tG tR u v q0 q1 qo)[29]? = some (z_ad u v q0 q1 hh adS 29 0, x_cell x_K cA (z_ad u v q0 q1 hh adS) (z_t0 tG tR) 29 0) := rfl
theorem z_m37 : (z_w0 cA tG tR u v q0 q1 qo)[32]? = some (z_ad u v q0 q1 hh adS 30 0, x_cell x_K cA (z_ad u v q0 q1 hh adS) (z_t0 tG tR) 30 0) := rfl
theorem z_m38 : (z_w0 cA tG tR u v q0 q1 qo)[33]? = some (z_ad u v q0 q1 hh adS 31 0, x_cell x_K cA (z_ad u v q0 q1 hh adS) (z_t0 tG tR) 31 0) := rfl
theorem z_m39 : (z_w0 cA tG tR u v q0 q1 qo)[34]? = some (z_ad u v q0 q1 hh adS 32 0, x_cell x_K cA (z_ad u v q0 q1 hh adS) (z_t0 tG tR) 32 0) := rfl
theorem z_m40 : (z_w0 cA tG tR u v q0 q1 qo)[35]? = some (z_ad u v q0 q1 hh adS 33 0, x_cell x_K cA (z_ad u v q0 q1 hh adS) (z_t0 tG tR) 33 0) := rfl
theorem z_m41 : (z_w0 cA tG tR u v q0 q1 qo)[36]? = some (z_ad u v q0 q1 hh adS 34 0, x_cell x_K cA (z_ad u v q0 q1 hh adS) (z_t0 tG tR) 34 0) := rfl
theorem z_m42 : (z_w0 cA tG tR u v q0 q1 qo)[38]? = some (z_ad u v q0 q1 hh adS 35 0, x_cell x_K cA (z_ad u v q0 q1 hh adS) (z_t0 tG tR) 35 0) := rfl
theorem z_m43 : (z_w0 cA tG tR u v q0 q1 qo)[39]? = some (z_ad u v q0 q1 hh adS 36 0, x_cell x_K cA (z_ad u v q0 q1 hh adS) (z_t0 tG tR) 36 0) := rfl
theorem z_m44 : (z_w0 cA tG tR u v q0 q1 qo)[40]? = some (z_ad u v q0 q1 hh adS 37 0, x_cell x_K cA (z_ad u v q0 q1 hh adS) (z_t0 tG tR) 37 0) := rfl
theorem z_m45 : (z_w0 cA tG tR u v q0 q1 qo)[42]? = some (z_ad u v q0 q1 hh adS 38 0, x_cell x_K cA (z_ad u v q0 q1 hh adS) (z_t0 tG tR) 38 0) := rfl
theorem z_m46 : (z_w0 cA tG tR u v q0 q1 qo)[44]? = some (z_ad u v q0 q1 hh adS 39 0, x_cell x_K cA (z_ad u v q0 q1 hh adS) (z_t0 tG tR) 39 0) := rfl
theorem z_m47 : (z_w0 cA tG tR u v q0 q1 qo)[46]? = some (z_ad u v q0 q1 hh adS 40 0, x_cell x_K cA (z_ad u v q0 q1 hh adS) (z_t0 tG tR) 40 0) := rfl
theorem z_m48 : (z_w0 cA tG tR u v q0 q1 qo)[48]? = some (z_ad u v q0 q1 hh adS 41 0, x_cell x_K cA (z_ad u v q0 q1 hh adS) (z_t0 tG tR) 41 0) := rfl
theorem z_m49 : (z_w0 cA tG tR u v q0 q1 qo)[49]? = some (z_ad u v q0 q1 hh adS 42 0, x_cell x_K cA (z_ad u v q0 q1 hh adS) (z_t0 tG tR) 42 0) := rfl
theorem z_m50 : (z_w0 cA tG tR u v q0 q1 qo)[50]? = some (z_ad u v q0 q1 hh adS 43 0, x_cell x_K cA (z_ad u v q0 q1 hh adS) (z_t0 tG tR) 43 0) := rfl
theorem z_m51 : (z_w0 cA tG tR u v q0 q1 qo)[51]? = some (z_ad u v q0 q1 hh adS 43 1, x_cell x_K cA (z_ad u v q0 q1 hh adS) (z_t0 tG tR) 43 1) := rfl
theorem z_m52 : (z_w0 cA tG tR u v q0 q1 qo)[52]? = some (z_ad u v q0 q1 hh adS 44 0, x_cell x_K cA (z_ad u v q0 q1 hh adS) (z_t0 tG tR) 44 0) := rfl
theorem z_m53 : (z_w0 cA tG tR u v q0 q1 qo)[53]? = some (z_ad u v q0 q1 hh adS 45 0, x_cell x_K cA (z_ad u v q0 q1 hh adS) (z_t0 tG tR) 45 0) := rfl
theorem z_m54 : (z_w0 cA tG tR u v q0 q1 qo)[54]? = some (z_ad u v q0 q1 hh adS 46 0, x_cell x_K cA (z_ad u v q0 q1 hh adS) (z_t0 tG tR) 46 0) := rfl
theorem z_m55 : (z_w0 cA tG tR u v q0 q1 qo)[55]? = some (z_ad u v q0 q1 hh adS 47 0, x_cell x_K cA (z_ad u v q0 q1 hh adS) (z_t0 tG tR) 47 0) := rfl
theorem z_m56 : (z_w0 cA tG tR u v q0 q1 qo)[56]? = some (z_ad u v q0 q1 hh adS 47 1, x_cell x_K cA (z_ad u v q0 q1 hh adS) (z_t0 tG tR) 47 1) := rfl
theorem z_m57 : (z_w0 cA tG tR u v q0 q1 qo)[80]? = some (z_ad u v q0 q1 hh adS 47 2, x_cell x_K cA (z_ad u v q0 q1 hh adS) (z_t0 tG tR) 47 2) := rfl
theorem z_m58 : (z_w0 cA tG tR u v q0 q1 qo)[57]? = some (z_ad u v q0 q1 hh adS 48 0, x_cell x_K cA (z_ad u v q0 q1 hh adS) (z_t0 tG tR) 48 0) := rfl
theorem z_m59 : (z_w0 cA tG tR u v q0 q1 qo)[58]? = some (z_ad u v q0 q1 hh adS 49 0, x_cell x_K cA (z_ad u v q0 q1 hh adS) (z_t0 tG tR) 49 0) := rfl
theorem z_m60 : (z_w0 cA tG tR u v q0 q1 qo)[59]? = some (z_ad u v q0 q1 hh adS 50 0, x_cell x_K cA (z_ad u v q0 q1 hh adS) (z_t0 tG tR) 50 0) := rfl
theorem z_m61 : (z_w0 cA tG tR u v q0 q1 qo)[60]? = some (z_ad u v q0 q1 hh adS 51 0, x_cell x_K cA (z_ad u v q0 q1 hh adS) (z_t0 tG tR) 51 0) := rfl
theorem z_m62 : (z_w0 cA tG tR u v q0 q1 qo)[61]? = some (z_ad u v q0 q1 hh adS 52 0, x_cell x_K cA (z_ad u v q0 q1 hh adS) (z_t0 tG tR) 52 0) := rfl
theorem z_m63 : (z_w0 cA tG tR u v q0 q1 qo)[62]? = some (z_ad u v q0 q1 hh adS 53 0, x_cell x_K cA (z_ad u v q0 q1 hh adS) (z_t0 tG tR) 53 0) := rfl
theorem z_m64 : (z_w0 cA tG tR u v q0 q1 qo)[63]? = some (z_ad u v q0 q1 hh adS 54 0, x_cell x_K cA (z_ad u v q0 q1 hh adS) (z_t0 tG tR) 54 0) := rfl
theorem z_m65 : (z_w0 cA tG tR u v q0 q1 qo)[64]? = some (z_ad u v q0 q1 hh adS 55 0, x_cell x_K cA (z_ad u v q0 q1 hh adS) (z_t0 tG tR) 55 0) := rfl
theorem z_m66 : (z_w0 cA tG tR u v q0 q1 qo)[65]? = some (z_ad u v q0 q1 hh adS 56 0, x_cell x_K cA (z_ad u v q0 q1 hh adS) (z_t0 tG tR) 56 0) := rfl
theorem z_m67 : (z_w0 cA tG tR u v q0 q1 qo)[66]? = some (z_ad u v q0 q1 hh adS 57 0, x_cell x_K cA (z_ad u v q0 q1 hh adS) (z_t0 tG tR) 57 0) := rfl
theorem z_m68 : (z_w0 cA tG tR u v q0 q1 qo)[67]? = some (z_ad u v q0 q1 hh adS 58 0, x_cell x_K cA (z_ad u v q0 q1 hh adS) (z_t0 tG tR) 58 0) := rfl
theorem z_m69 : (z_w0 cA tG tR u v q0 q1 qo)[68]? = some (z_ad u v q0 q1 hh adS 59 0, x_cell x_K cA (z_ad u v q0 q1 hh adS) (z_t0 tG tR) 59 0) := rfl
theorem z_m70 : (z_w0 cA tG tR u v q0 q1 qo)[69]? = some (z_ad u v q0 q1 hh adS 60 0, x_cell x_K cA (z_ad u v q0 q1 hh adS) (z_t0 tG tR) 60 0) := rfl
theorem z_m71 : (z_w0 cA tG tR u v q0 q1 qo)[70]? = some (z_ad u v q0 q1 hh adS 61 0, x_cell x_K cA (z_ad u v q0 q1 hh adS) (z_t0 tG tR) 61 0) := rfl
theorem z_m72 : (z_w0 cA tG tR u v q0 q1 qo)[71]? = some (z_ad u v q0 q1 hh adS 62 0, x_cell x_K cA (z_ad u v q0 q1 hh adS) (z_t0 tG tR) 62 0) := rfl
theorem z_m73 : (z_w0 cA tG tR u v q0 q1 qo)[72]? = some (z_ad u v q0 q1 hh adS 63 0, x_cell x_K cA (z_ad u v q0 q1 hh adS) (z_t0 tG tR) 63 0) := rfl
theorem z_m74 : (z_w0 cA tG tR u v q0 q1 qo)[73]? = some (z_ad u v q0 q1 hh adS 64 0, x_cell x_K cA (z_ad u v q0 q1 hh adS) (z_t0 tG tR) 64 0) := rfl
theorem z_m75 : (z_w0 cA tG tR u v q0 q1 qo)[74]? = some (z_ad u v q0 q1 hh adS 65 0, x_cell x_K cA (z_ad u v q0 q1 hh adS) (z_t0 tG tR) 65 0) := rfl
theorem z_m76 : (z_w0 cA tG tR u v q0 q1 qo)[75]? = some (z_ad u v q0 q1 hh adS 66 0, x_cell x_K cA (z_ad u v q0 q1 hh adS) (z_t0 tG tR) 66 0) := rfl
theorem z_m77 : (z_w0 cA tG tR u v q0 q1 qo)[76]? = some (z_ad u v q0 q1 hh adS 67 0, x_cell x_K cA (z_ad u v q0 q1 hh adS) (z_t0 tG tR) 67 0) := rfl
theorem z_m78 : (z_w0 cA tG tR u v q0 q1 qo)[77]? = some (z_ad u v q0 q1 hh adS 68 0, x_cell x_K cA (z_ad u v q0 q1 hh adS) (z_t0 tG tR) 68 0) := rfl
theorem z_m79 : (z_w0 cA tG tR u v q0 q1 qo)[78]? = some (z_ad u v q0 q1 hh adS 69 0, x_cell x_K cA (z_ad u v q0 q1 hh adS) (z_t0 tG tR) 69 0) := rfl
theorem z_m80 : (z_w0 cA tG tR u v q0 q1 qo)[79]? = some (z_ad u v q0 q1 hh adS 70 0, x_cell x_K cA (z_ad u v q0 q1 hh adS) (z_t0 tG tR) 70 0) := rfl
theorem z_m81 : (z_w0 cA tG tR u v q0 q1 qo)[81]? = some (z_ad u v q0 q1 hh adS 71 0, x_cell x_K cA (z_ad u v q0 q1 hh adS) (z_t0 tG tR) 71 0) := rfl
theorem z_m82 : (z_w0 cA tG tR u v q0 q1 qo)[82]? = some (z_ad u v q0 q1 hh adS 72 0, x_cell x_K cA (z_ad u v q0 q1 hh adS) (z_t0 tG tR) 72 0) := rfl
theorem z_m83 : (z_w0 cA tG tR u v q0 q1 qo)[83]? = some (z_ad u v q0 q1 hh adS 73 0, x_cell x_K cA (z_ad u v q0 q1 hh adS) (z_t0 tG tR) 73 0) := rfl
def z_zL : List (Nat × Nat × Nat) := [(0, 0, 0), (1, 0, 1), (2, 0, 3), (3, 0, 6), (3, 1, 10), (4, 0, 14), (5, 0, 19), (5, 1, 22), (6, 0, 25), (7, 0, 30), (8, 0, 31), (9, 0, 37), (10, 0, 41), (11, 0, 43), (12, 0, 45), (13, 0, 47), (14, 0, 2), (15, 0, 4), (16, 0, 5), (17, 0, 7), (17, 1, 11), (18, 0, 8), (18, 1, 12), (19, 0, 9), (19, 1, 13), (20, 0, 15), (21, 0, 16), (22, 0, 17), (23, 0, 18), (24, 0, 20), (24, 1, 23), (25, 0, 21), (25, 1, 24), (26, 0, 26), (27, 0, 27), (28, 0, 28), (29, 0, 29), (30, 0, 32), (31, 0, 33), (32, 0, 34), (33, 0, 35), (34, 0, 36), (35, 0, 38), (36, 0, 39), (37, 0, 40), (38, 0, 42), (39, 0, 44), (40, 0, 46), (41, 0, 48), (42, 0, 49), (43, 0, 50), (43, 1, 51), (44, 0, 52), (45, 0, 53), (46, 0, 54), (47, 0, 55), (47, 1, 56), (47, 2, 80), (48, 0, 57), (49, 0, 58), (50, 0, 59), (51, 0, 60), (52, 0, 61), (53, 0, 62), (54, 0, 63), (55, 0, 64), (56, 0, 65), (57, 0, 66), (58, 0, 67), (59, 0, 68), (60, 0, 69), (61, 0, 70), (62, 0, 71), (63, 0, 72), (64, 0, 73), (65, 0, 74), (66, 0, 75), (67, 0, 76), (68, 0, 77), (69, 0, 78), (70, 0, 79), (71, 0, 81), (72, 0, 82), (73, 0, 83)]
theorem z_zL_cl : x_Cl = z_zL.map (fun z => (z.1, z.2.1)) := by decide +kernel
theorem z_zL_nd : (84 :: z_zL.map (fun z => z.2.2)).Nodup := by decide +kernel
theorem z_mo : (z_w0 cA tG tR u v q0 q1 qo)[84]? = some (y_O cA qo (fun _ => 0)) := rfl
theorem z_all : ∀ z ∈ z_zL, (z_w0 cA tG tR u v q0 q1 qo)[z.2.2]? = some (z_ad u v q0 q1 hh adS z.1 z.2.1, x_cell x_K cA (z_ad u v q0 q1 hh adS) (z_t0 tG tR) z.1 z.2.1) :=
  List.forall_mem_cons.mpr ⟨z_m0, List.forall_mem_cons.mpr ⟨z_m1, List.forall_mem_cons.mpr ⟨z_m2, List.forall_mem_cons.mpr ⟨z_m3, List.forall_mem_cons.mpr ⟨z_m4, List.forall_mem_cons.mpr ⟨z_m5, List.forall_mem_cons.mpr ⟨z_m6, List.forall_mem_cons.mpr ⟨z_m7, List.forall_mem_cons.mpr ⟨z_m8, List.forall_mem_cons.mpr ⟨z_m9, List.forall_mem_cons.mpr ⟨z_m10, List.forall_mem_cons.mpr ⟨z_m11, List.forall_mem_cons.mpr ⟨z_m12, List.forall_mem_cons.mpr ⟨z_m13, List.forall_mem_cons.mpr ⟨z_m14, List.forall_mem_cons.mpr ⟨z_m15, List.forall_mem_cons.mpr ⟨z_m16, List.forall_mem_cons.mpr ⟨z_m17, List.forall_mem_cons.mpr ⟨z_m18, List.forall_mem_cons.mpr ⟨z_m19, List.forall_mem_cons.mpr ⟨z_m20, List.forall_mem_cons.mpr ⟨z_m21, List.forall_mem_cons.mpr ⟨z_m22, List.forall_mem_cons.mpr ⟨z_m23, List.forall_mem_cons.mpr ⟨z_m24, List.forall_mem_cons.mpr ⟨z_m25, List.forall_mem_cons.mpr ⟨z_m26, List.forall_mem_cons.mpr ⟨z_m27, List.forall_mem_cons.mpr ⟨z_m28, List.forall_mem_cons.mpr ⟨z_m29, List.forall_mem_cons.mpr ⟨z_m30, List.forall_mem_cons.mpr ⟨z_m31, List.forall_mem_cons.mpr ⟨z_m32, List.forall_mem_cons.mpr ⟨z_m33, List.forall_mem_cons.mpr ⟨z_m34, List.forall_mem_cons.mpr ⟨z_m35, List.forall_mem_cons.mpr ⟨z_m36, List.forall_mem_cons.mpr ⟨z_m37, List.forall_mem_cons.mpr ⟨z_m38, List.forall_mem_cons.mpr ⟨z_m39, List.forall_mem_cons.mpr ⟨z_m40, List.forall_mem_cons.mpr ⟨z_m41, List.forall_mem_cons.mpr ⟨z_m42, List.forall_mem_cons.mpr ⟨z_m43, List.forall_mem_cons.mpr ⟨z_m44, List.forall_mem_cons.mpr ⟨z_m45, List.forall_mem_cons.mpr ⟨z_m46, List.forall_mem_cons.mpr ⟨z_m47, List.forall_mem_cons.mpr ⟨z_m48, List.forall_mem_cons.mpr ⟨z_m49, List.forall_mem_cons.mpr ⟨z_m50, List.forall_mem_cons.mpr ⟨z_m51, List.forall_mem_cons.mpr ⟨z_m52, List.forall_mem_cons.mpr ⟨z_m53, List.forall_mem_cons.mpr ⟨z_m54, List.forall_mem_cons.mpr ⟨z_m55, List.forall_mem_cons.mpr ⟨z_m56, List.forall_mem_cons.mpr ⟨z_m57, List.forall_mem_cons.mpr ⟨z_m58, List.forall_mem_cons.mpr ⟨z_m59, List.forall_mem_cons.mpr ⟨z_m60, List.forall_mem_cons.mpr ⟨z_m61, List.forall_mem_cons.mpr ⟨z_m62, List.forall_mem_cons.mpr ⟨z_m63, List.forall_mem_cons.mpr ⟨z_m64, List.forall_mem_cons.mpr ⟨z_m65, List.forall_mem_cons.mpr ⟨z_m66, List.forall_mem_cons.mpr ⟨z_m67, List.forall_mem_cons.mpr ⟨z_m68, List.forall_mem_cons.mpr ⟨z_m69, List.forall_mem_cons.mpr ⟨z_m70, List.forall_mem_cons.mpr ⟨z_m71, List.forall_mem_cons.mpr ⟨z_m72, List.forall_mem_cons.mpr ⟨z_m73, List.forall_mem_cons.mpr ⟨z_m74, List.forall_mem_cons.mpr ⟨z_m75, List.forall_mem_cons.mpr ⟨z_m76, List.forall_mem_cons.mpr ⟨z_m77, List.forall_mem_cons.mpr ⟨z_m78, List.forall_mem_cons.mpr ⟨z_m79, List.forall_mem_cons.mpr ⟨z_m80, List.forall_mem_cons.mpr ⟨z_m81, List.forall_mem_cons.mpr ⟨z_m82, List.forall_mem_cons.mpr ⟨z_m83, fun _ h => absurd h List.not_mem_nil⟩⟩⟩⟩⟩⟩⟩⟩⟩⟩⟩⟩⟩⟩⟩⟩⟩⟩⟩⟩⟩⟩⟩⟩⟩⟩⟩⟩⟩⟩⟩⟩⟩⟩⟩⟩⟩⟩⟩⟩⟩⟩⟩⟩⟩⟩⟩⟩⟩⟩⟩⟩⟩⟩⟩⟩⟩⟩⟩⟩⟩⟩⟩⟩⟩⟩⟩⟩⟩⟩⟩⟩⟩⟩⟩⟩⟩⟩⟩⟩⟩⟩⟩⟩
theorem z_pl (j : Nat) (q : Nat × va_E) (h : (y_w cA (z_ad u v q0 q1 hh adS) qo (fun _ => 0) (z_t0 tG tR))[j]? = some q) : ∃ k, (84 :: z_zL.map (fun z => z.2.2))[j]? = some k ∧ (z_w0 cA tG tR u v q0 q1 qo)[k]? = some q := by
  cases j with
  | zero =>
    have e : y_O cA qo (fun _ => 0) = q := Option.some.inj h
    exact ⟨84, rfl, by rw [← e]; exact z_mo⟩
  | succ j =>
    have h : (x_ws x_K cA (z_ad u v q0 q1 hh adS) (z_t0 tG tR) x_Cl)[j]? = some q := h
    unfold x_ws at h
    rw [z_zL_cl, List.map_map, List.getElem?_map] at h
    obtain ⟨z, hz, e⟩ := Option.map_eq_some_iff.mp h
    refine ⟨z.2.2, ?_, ?_⟩
    · rw [List.getElem?_cons_succ, List.getElem?_map, hz]; rfl
    · rw [← e]; exact z_all z (List.mem_of_getElem? hz)
theorem z_w0_P {D : va_G} {H : Heap} (h : va_P D vwCl (z_w0 cA tG tR u v q0 q1 qo) H) : va_P D vwCl (y_w cA (z_ad u v q0 q1 hh adS) qo (fun _ => 0) (z_t0 tG tR)) H := by
  intro j q hq
  obtain ⟨k, -, h2⟩ := z_pl j q hq
  exact h k q h2
theorem z_w0_D {A : Nat → Prop} (h : va_D A (z_w0 cA tG tR u v q0 q1 qo)) (ov : Nat → Int64) (t : xS) : va_D A (y_w cA (z_ad u v q0 q1 hh adS) qo ov t) := by
  refine y_w_D (ov := fun _ => 0) (t := z_t0 tG tR) ⟨fun i j p q hi hj hpq => ?_, fun j q hq => ?_⟩
  · obtain ⟨k1, a1, b1⟩ := z_pl i p hi
    obtain ⟨k2, a2, b2⟩ := z_pl j q hj
    have e := h.1 k1 k2 p q b1 b2 hpq
    subst e
    exact List.getElem?_inj (List.getElem?_eq_some_iff.mp a1).1 z_zL_nd (a1.trans a2.symm)
  · obtain ⟨k, -, h2⟩ := z_pl j q hq
    exact h.2 k q h2
theorem z_Wd {A : Nat → Prop} {tys : List (ClassId × FieldType)} (htys : tys = [(cA 0, .int), (cA 1, .long), (cA 2, .boolean)]) (h : ∀ ov t, va_D A (y_w cA (z_ad u v q0 q1 hh adS) qo ov t)) : x_Wd cA (z_ad u v q0 q1 hh adS) x_Cl (y_A1 (z_ad u v q0 q1 hh adS)) tys hh adS := by
  refine ⟨fun j => rfl, fun j => rfl, htys, fun t => ⟨fun i j p q hi hj hpq => ?_, fun j q hq => ?_⟩, x_F0⟩
  · have := (h (fun _ => 0) t).1 (i + 1) (j + 1) p q hi hj hpq
    omega
  · unfold x_ws at hq
    rw [List.getElem?_map] at hq
    obtain ⟨z, hz, e⟩ := Option.map_eq_some_iff.mp hq
    rw [← e]
    exact ⟨z, List.mem_of_getElem? hz, rfl⟩
end LWORLD

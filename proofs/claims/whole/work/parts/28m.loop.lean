/-! The law's loop. Printed by genA.py. -/
section LLOOP
variable {p : Program} {l : Launch} {e : Env} {s : State} {m : MethodId} {below : List Frame} {meth : Method} {c : Code} {H : Heap} {locs : List Loc} {cells slots : Nat} {Q : State → Prop} {D : va_G} {tys : List (ClassId × FieldType)} {cA : Nat → ClassId} {ad : Nat → Nat → Nat} {hh qo : Nat} {adS adV sa : Nat → Nat} {fm : Value} {b L i k : Nat} {xs : Nat → Int32} {ov : Nat → Int64} {t : xS} {ls : Array Slot} {I : xS → Nat → Prop}
/-- what the loop wants of an invariant -/
def z_J (I : xS → Nat → Prop) : Prop := ∀ t k, I t k → k < 2000000 → I t (k + 1) ∧ (∀ x : Int32, z_R I f_Main_sign f_Ref_sign [vI x] t k) ∧ (∀ x : Int32, z_R I f_Main_end f_Ref_end [vI x] t k) ∧ (z_R I f_Main_gardens f_Ref_gardens [] t k) ∧ (z_R I f_Main_prams f_Ref_prams [] t k) ∧ (z_R I f_Main_rule f_Ref_rule [] t k) ∧ (∀ x : Int32, z_RT vI I f_Main_field f_Ref_field [vI x] (ev 9 f_Garden_has [vR 2 0, vI x] t = some (some (vI 0), t)) t k) ∧ (∀ x y : Int32, z_RT vI I f_Main_pram f_Ref_pram [vI x, vI y] (∃ r0 : Int32, ev 9 f_Outing_has [vR 3 0, vI x] t = some (some (vI r0), t) ∧ (r0 = 0 ∨ y < 0 ∨ ¬ y ≤ 4)) t k) ∧ (∀ x y z w : Int32, z_R I f_Main_sheet f_Ref_sheet [vI x, vI y, vI z, vI w] t k) ∧ (∀ x y : Int32, z_R I f_Main_pushes f_Ref_pushes [vI x, vI y] t k) ∧ (∀ x y : Int32, z_R I f_Main_faces f_Ref_faces [vI x, vI y] t k) ∧ (∀ x : Int32, z_R I f_Main_looses f_Ref_looses [vI x] t k) ∧ (∀ x : Int32, z_R I f_Main_catches f_Ref_catches [vI x] t k) ∧ (∀ x : Int32, z_R I f_Main_minutes f_Ref_minutes [vI x] t k) ∧ (∀ x y : Int32, z_R I f_Main_forgets f_Ref_forgets [vI x, vI y] t k) ∧ (z_R I f_Main_walk f_Ref_walk [] t k) ∧ (z_R I f_Main_undo f_Ref_undo [] t k) ∧ (∀ x : Int32, z_R I f_Main_sees f_Ref_sees [vI x] t k) ∧ (∀ x y z : Int32, z_R I f_Main_would f_Ref_would [vI x, vI y, vI z] t k) ∧ (∀ x : Int32, z_R I f_Main_stands f_Ref_stands [vI x] t k) ∧ (∀ x y : Int32, z_R I f_Main_way f_Ref_way [vI x, vI y] t k) ∧ (∀ x : Int32, z_R I f_Main_reach f_Ref_reach [vI x] t k) ∧ (z_R I f_Main_parts f_Ref_parts [] t k) ∧ (z_R I f_Main_gates f_Ref_gates [] t k) ∧ (z_R I f_Main_nearest f_Ref_nearest [] t k) ∧ (∀ x y : Int32, z_R I f_Main_forms f_Ref_forms [vI x, vI y] t k) ∧ (∀ x : Int32, z_R I f_Main_most f_Ref_most [vI x] t k) ∧ (∀ x y z : Int32, z_R I f_Main_ways f_Ref_ways [vI x, vI y, vI z] t k) ∧ (∀ x y z : Int32, z_R I f_Main_strays f_Ref_strays [vI x, vI y, vI z] t k) ∧ (∀ x : Int32, z_R I f_Main_stops f_Ref_stops [vI x] t k) ∧ (z_R I f_Main_rounds f_Ref_rounds [] t k) ∧ (∀ x : Int32, z_R I f_Main_basin f_Ref_basin [vI x] t k) ∧ (∀ x y z : Int32, z_R I f_Main_saw f_Ref_saw [vI x, vI y, vI z] t k) ∧ (z_R I f_Main_denies f_Ref_denies [] t k) ∧ (z_R I f_Main_laws f_Ref_laws [] t k) ∧ (z_R I f_Main_looks f_Ref_looks [] t k) ∧ (∀ x y : Int32, z_R I f_Main_heard f_Ref_heard [vI x, vI y] t k) ∧ (z_R I f_Main_forget f_Ref_forget [] t k) ∧ (z_R I f_Main_fits f_Ref_fits [] t k) ∧ (z_R I f_Main_asks f_Ref_asks [] t k) ∧ (∀ x y z : Int32, z_R I f_Main_pond f_Ref_pond [vI x, vI y, vI z] t k) ∧ (z_R I f_Main_law f_Ref_law [] t k) ∧ (∀ x : Int32, z_R I f_Main_shoulders f_Ref_shoulders [vI x] t k) ∧ (∀ x y : Int32, z_R I f_Main_years f_Ref_years [vI x, vI y] t k) ∧ (∀ x : Int32, z_R I f_Main_keep f_Ref_keep [vI x] t k) ∧ (∀ x : Int32, z_R I f_Main_again f_Ref_again [vI x] t k) ∧ (∀ x : Int32, z_R I f_Main_count f_Ref_count [vI x] t k) ∧ (∀ x : Int32, z_RT vL I f_Main_row f_Ref_row [vI x] (ev 9 f_Numbers_has [vR 10 0, vI x] t = some (some (vI 0), t)) t k)
theorem z_d39 : decode code 39 = .ok (.tableswitch 1528 0 46 #[201, 226, 251, 264, 277, 290, 346, 414, 475, 512, 549, 574, 599, 624, 661, 674, 687, 712, 761, 786, 823, 848, 861, 874, 887, 924, 949, 998, 1047, 1072, 1085, 1110, 1159, 1172, 1185, 1198, 1235, 1248, 1261, 1274, 1323, 1336, 1361, 1398, 1423, 1448, 1473], 201) := by decide +kernel
theorem z_and63 (x : Int32) : x &&& 63 = nI (x.toBitVec.toNat % 64) := by
  apply Int32.toBitVec_inj.mp
  apply BitVec.eq_of_toNat_eq
  rw [Int32.toBitVec_and, BitVec.toNat_and]
  show x.toBitVec.toNat &&& 63 = (BitVec.ofNat 32 (x.toBitVec.toNat % 64)).toNat
  have hl : x.toBitVec.toNat % 64 < 2 ^ 32 := Nat.lt_of_lt_of_le (Nat.mod_lt _ (show 0 < 64 by decide)) (by decide)
  rw [BitVec.toNat_ofNat, Nat.mod_eq_of_lt hl]
  exact Nat.and_two_pow_sub_one_eq_mod x.toBitVec.toNat 6
theorem z_at {x : Int32} {v : Nat} (h : x &&& 63 = nI v) (hv : v < 64) : (x &&& 63).toInt = (v : Int) := by rw [h]; exact nI_toInt (by omega)
set_option maxHeartbeats 4000000 in
set_option maxRecDepth 100000 in
/-- the switch: some call, or none -/
theorem z_sw (C : z_C p l s m meth c b L xs D tys cA ad qo hh adS adV sa fm) (hL : L ≤ 2560) (hi : i + 5 ≤ L) (hk : k < 2000000) (hl : lv_has ls 8 (z_L b ad qo i)) (hP : va_P D vwCl (y_w cA ad qo ov t) H) (hS : va_S (z_A s) s.heap H locs) (hc : cells + 1 ≤ room_1.cells) (hs : slots + 6 ≤ room_1.slots) (hJ : z_J I) (hI : I t k)
    (kk : ∀ (ov' : Nat → Int64) (t2 : xS) (H1 : Heap) (locs1 : List Loc) (ls' : Array Slot), lv_has ls' 8 (z_L b ad qo i) → I t2 (k + 1) → va_P D vwCl (y_w cA ad qo ov' t2) H1 → va_S (z_A s) s.heap H1 locs1 → W p l e room_1 s m #[Value.ref b] below meth c H1 locs1 (cells + 1) (slots + 6) Q (F0 m 1567 ls' [])) :
    W p l e room_1 s m #[Value.ref b] below meth c H locs cells slots Q (F0 m 39 ls [.int (xs i &&& 63)]) := by
  have hx := C.1.1
  have hb := C.1.2.1
  have h63 : (xs i).toBitVec.toNat % 64 < 64 := Nat.mod_lt _ (by decide)
  have hv := z_at (z_and63 (xs i)) h63
  generalize (xs i).toBitVec.toNat % 64 = v at hv h63
  have hF := hJ t k hI hk
  generalize xs i &&& 63 = x at hv ⊢
  by_cases h47 : 47 ≤ v
  · refine lv_tableOut (tgt := 1567) hx hb z_d39 (Or.inr (by omega)) (by decide) ?_
    exact W.widen (k := cells + 1) (n := slots + 6) (by omega) (by omega) (kk ov t H locs ls hl hF.1 hP hS)
  rcases (by omega : v = 0 ∨ v = 1 ∨ v = 2 ∨ v = 3 ∨ v = 4 ∨ v = 5 ∨ v = 6 ∨ v = 7 ∨ v = 8 ∨ v = 9 ∨ v = 10 ∨ v = 11 ∨ v = 12 ∨ v = 13 ∨ v = 14 ∨ v = 15 ∨ v = 16 ∨ v = 17 ∨ v = 18 ∨ v = 19 ∨ v = 20 ∨ v = 21 ∨ v = 22 ∨ v = 23 ∨ v = 24 ∨ v = 25 ∨ v = 26 ∨ v = 27 ∨ v = 28 ∨ v = 29 ∨ v = 30 ∨ v = 31 ∨ v = 32 ∨ v = 33 ∨ v = 34 ∨ v = 35 ∨ v = 36 ∨ v = 37 ∨ v = 38 ∨ v = 39 ∨ v = 40 ∨ v = 41 ∨ v = 42 ∨ v = 43 ∨ v = 44 ∨ v = 45 ∨ v = 46) with rfl | rfl | rfl | rfl | rfl | rfl | rfl | rfl | rfl | rfl | rfl | rfl | rfl | rfl | rfl | rfl | rfl | rfl | rfl | rfl | rfl | rfl | rfl | rfl | rfl | rfl | rfl | rfl | rfl | rfl | rfl | rfl | rfl | rfl | rfl | rfl | rfl | rfl | rfl | rfl | rfl | rfl | rfl | rfl | rfl | rfl | rfl
  · exact lv_tableIn (off := 201) (tgt := 240) hx hb z_d39 (by omega) (by omega) (by rw [hv]; rfl) (by decide) (z_c0 C hL hi hl hP hS hc hs (hF.2.1 (xs (i + 1))) kk)
  · exact lv_tableIn (off := 226) (tgt := 265) hx hb z_d39 (by omega) (by omega) (by rw [hv]; rfl) (by decide) (z_c1 C hL hi hl hP hS hc hs (hF.2.2.1 (xs (i + 1))) kk)
  · exact lv_tableIn (off := 251) (tgt := 290) hx hb z_d39 (by omega) (by omega) (by rw [hv]; rfl) (by decide) (z_c2 C hL hi hl hP hS hc hs (hF.2.2.2.1) kk)
  · exact lv_tableIn (off := 264) (tgt := 303) hx hb z_d39 (by omega) (by omega) (by rw [hv]; rfl) (by decide) (z_c3 C hL hi hl hP hS hc hs (hF.2.2.2.2.1) kk)
  · exact lv_tableIn (off := 277) (tgt := 316) hx hb z_d39 (by omega) (by omega) (by rw [hv]; rfl) (by decide) (z_c4 C hL hi hl hP hS hc hs (hF.2.2.2.2.2.1) kk)
  · exact lv_tableIn (off := 290) (tgt := 329) hx hb z_d39 (by omega) (by omega) (by rw [hv]; rfl) (by decide) (z_c5 C hL hi hl hP hS hc hs (hF.2.2.2.2.2.2.1 (xs (i + 1))) kk)
  · exact lv_tableIn (off := 346) (tgt := 385) hx hb z_d39 (by omega) (by omega) (by rw [hv]; rfl) (by decide) (z_c6 C hL hi hl hP hS hc hs (hF.2.2.2.2.2.2.2.1 (xs (i + 1)) (xs (i + 2))) kk)
  · exact lv_tableIn (off := 414) (tgt := 453) hx hb z_d39 (by omega) (by omega) (by rw [hv]; rfl) (by decide) (z_c7 C hL hi hl hP hS hc hs (hF.2.2.2.2.2.2.2.2.1 (xs (i + 1)) (xs (i + 2)) (xs (i + 3)) (xs (i + 4))) kk)
  · exact lv_tableIn (off := 475) (tgt := 514) hx hb z_d39 (by omega) (by omega) (by rw [hv]; rfl) (by decide) (z_c8 C hL hi hl hP hS hc hs (hF.2.2.2.2.2.2.2.2.2.1 (xs (i + 1)) (xs (i + 2))) kk)
  · exact lv_tableIn (off := 512) (tgt := 551) hx hb z_d39 (by omega) (by omega) (by rw [hv]; rfl) (by decide) (z_c9 C hL hi hl hP hS hc hs (hF.2.2.2.2.2.2.2.2.2.2.1 (xs (i + 1)) (xs (i + 2))) kk)
  · exact lv_tableIn (off := 549) (tgt := 588) hx hb z_d39 (by omega) (by omega) (by rw [hv]; rfl) (by decide) (z_c10 C hL hi hl hP hS hc hs (hF.2.2.2.2.2.2.2.2.2.2.2.1 (xs (i + 1))) kk)
  · exact lv_tableIn (off := 574) (tgt := 613) hx hb z_d39 (by omega) (by omega) (by rw [hv]; rfl) (by decide) (z_c11 C hL hi hl hP hS hc hs (hF.2.2.2.2.2.2.2.2.2.2.2.2.1 (xs (i + 1))) kk)
  · exact lv_tableIn (off := 599) (tgt := 638) hx hb z_d39 (by omega) (by omega) (by rw [hv]; rfl) (by decide) (z_c12 C hL hi hl hP hS hc hs (hF.2.2.2.2.2.2.2.2.2.2.2.2.2.1 (xs (i + 1))) kk)
  · exact lv_tableIn (off := 624) (tgt := 663) hx hb z_d39 (by omega) (by omega) (by rw [hv]; rfl) (by decide) (z_c13 C hL hi hl hP hS hc hs (hF.2.2.2.2.2.2.2.2.2.2.2.2.2.2.1 (xs (i + 1)) (xs (i + 2))) kk)
  · exact lv_tableIn (off := 661) (tgt := 700) hx hb z_d39 (by omega) (by omega) (by rw [hv]; rfl) (by decide) (z_c14 C hL hi hl hP hS hc hs (hF.2.2.2.2.2.2.2.2.2.2.2.2.2.2.2.1) kk)
  · exact lv_tableIn (off := 674) (tgt := 713) hx hb z_d39 (by omega) (by omega) (by rw [hv]; rfl) (by decide) (z_c15 C hL hi hl hP hS hc hs (hF.2.2.2.2.2.2.2.2.2.2.2.2.2.2.2.2.1) kk)
  · exact lv_tableIn (off := 687) (tgt := 726) hx hb z_d39 (by omega) (by omega) (by rw [hv]; rfl) (by decide) (z_c16 C hL hi hl hP hS hc hs (hF.2.2.2.2.2.2.2.2.2.2.2.2.2.2.2.2.2.1 (xs (i + 1))) kk)
  · exact lv_tableIn (off := 712) (tgt := 751) hx hb z_d39 (by omega) (by omega) (by rw [hv]; rfl) (by decide) (z_c17 C hL hi hl hP hS hc hs (hF.2.2.2.2.2.2.2.2.2.2.2.2.2.2.2.2.2.2.1 (xs (i + 1)) (xs (i + 2)) (xs (i + 3))) kk)
  · exact lv_tableIn (off := 761) (tgt := 800) hx hb z_d39 (by omega) (by omega) (by rw [hv]; rfl) (by decide) (z_c18 C hL hi hl hP hS hc hs (hF.2.2.2.2.2.2.2.2.2.2.2.2.2.2.2.2.2.2.2.1 (xs (i + 1))) kk)
  · exact lv_tableIn (off := 786) (tgt := 825) hx hb z_d39 (by omega) (by omega) (by rw [hv]; rfl) (by decide) (z_c19 C hL hi hl hP hS hc hs (hF.2.2.2.2.2.2.2.2.2.2.2.2.2.2.2.2.2.2.2.2.1 (xs (i + 1)) (xs (i + 2))) kk)
  · exact lv_tableIn (off := 823) (tgt := 862) hx hb z_d39 (by omega) (by omega) (by rw [hv]; rfl) (by decide) (z_c20 C hL hi hl hP hS hc hs (hF.2.2.2.2.2.2.2.2.2.2.2.2.2.2.2.2.2.2.2.2.2.1 (xs (i + 1))) kk)
  · exact lv_tableIn (off := 848) (tgt := 887) hx hb z_d39 (by omega) (by omega) (by rw [hv]; rfl) (by decide) (z_c21 C hL hi hl hP hS hc hs (hF.2.2.2.2.2.2.2.2.2.2.2.2.2.2.2.2.2.2.2.2.2.2.1) kk)
  · exact lv_tableIn (off := 861) (tgt := 900) hx hb z_d39 (by omega) (by omega) (by rw [hv]; rfl) (by decide) (z_c22 C hL hi hl hP hS hc hs (hF.2.2.2.2.2.2.2.2.2.2.2.2.2.2.2.2.2.2.2.2.2.2.2.1) kk)
  · exact lv_tableIn (off := 874) (tgt := 913) hx hb z_d39 (by omega) (by omega) (by rw [hv]; rfl) (by decide) (z_c23 C hL hi hl hP hS hc hs (hF.2.2.2.2.2.2.2.2.2.2.2.2.2.2.2.2.2.2.2.2.2.2.2.2.1) kk)
  · exact lv_tableIn (off := 887) (tgt := 926) hx hb z_d39 (by omega) (by omega) (by rw [hv]; rfl) (by decide) (z_c24 C hL hi hl hP hS hc hs (hF.2.2.2.2.2.2.2.2.2.2.2.2.2.2.2.2.2.2.2.2.2.2.2.2.2.1 (xs (i + 1)) (xs (i + 2))) kk)
  · exact lv_tableIn (off := 924) (tgt := 963) hx hb z_d39 (by omega) (by omega) (by rw [hv]; rfl) (by decide) (z_c25 C hL hi hl hP hS hc hs (hF.2.2.2.2.2.2.2.2.2.2.2.2.2.2.2.2.2.2.2.2.2.2.2.2.2.2.1 (xs (i + 1))) kk)
  · exact lv_tableIn (off := 949) (tgt := 988) hx hb z_d39 (by omega) (by omega) (by rw [hv]; rfl) (by decide) (z_c26 C hL hi hl hP hS hc hs (hF.2.2.2.2.2.2.2.2.2.2.2.2.2.2.2.2.2.2.2.2.2.2.2.2.2.2.2.1 (xs (i + 1)) (xs (i + 2)) (xs (i + 3))) kk)
  · exact lv_tableIn (off := 998) (tgt := 1037) hx hb z_d39 (by omega) (by omega) (by rw [hv]; rfl) (by decide) (z_c27 C hL hi hl hP hS hc hs (hF.2.2.2.2.2.2.2.2.2.2.2.2.2.2.2.2.2.2.2.2.2.2.2.2.2.2.2.2.1 (xs (i + 1)) (xs (i + 2)) (xs (i + 3))) kk)
  · exact lv_tableIn (off := 1047) (tgt := 1086) hx hb z_d39 (by omega) (by omega) (by rw [hv]; rfl) (by decide) (z_c28 C hL hi hl hP hS hc hs (hF.2.2.2.2.2.2.2.2.2.2.2.2.2.2.2.2.2.2.2.2.2.2.2.2.2.2.2.2.2.1 (xs (i + 1))) kk)
  · exact lv_tableIn (off := 1072) (tgt := 1111) hx hb z_d39 (by omega) (by omega) (by rw [hv]; rfl) (by decide) (z_c29 C hL hi hl hP hS hc hs (hF.2.2.2.2.2.2.2.2.2.2.2.2.2.2.2.2.2.2.2.2.2.2.2.2.2.2.2.2.2.2.1) kk)
  · exact lv_tableIn (off := 1085) (tgt := 1124) hx hb z_d39 (by omega) (by omega) (by rw [hv]; rfl) (by decide) (z_c30 C hL hi hl hP hS hc hs (hF.2.2.2.2.2.2.2.2.2.2.2.2.2.2.2.2.2.2.2.2.2.2.2.2.2.2.2.2.2.2.2.1 (xs (i + 1))) kk)
  · exact lv_tableIn (off := 1110) (tgt := 1149) hx hb z_d39 (by omega) (by omega) (by rw [hv]; rfl) (by decide) (z_c31 C hL hi hl hP hS hc hs (hF.2.2.2.2.2.2.2.2.2.2.2.2.2.2.2.2.2.2.2.2.2.2.2.2.2.2.2.2.2.2.2.2.1 (xs (i + 1)) (xs (i + 2)) (xs (i + 3))) kk)
  · exact lv_tableIn (off := 1159) (tgt := 1198) hx hb z_d39 (by omega) (by omega) (by rw [hv]; rfl) (by decide) (z_c32 C hL hi hl hP hS hc hs (hF.2.2.2.2.2.2.2.2.2.2.2.2.2.2.2.2.2.2.2.2.2.2.2.2.2.2.2.2.2.2.2.2.2.1) kk)
  · exact lv_tableIn (off := 1172) (tgt := 1211) hx hb z_d39 (by omega) (by omega) (by rw [hv]; rfl) (by decide) (z_c33 C hL hi hl hP hS hc hs (hF.2.2.2.2.2.2.2.2.2.2.2.2.2.2.2.2.2.2.2.2.2.2.2.2.2.2.2.2.2.2.2.2.2.2.1) kk)
  · exact lv_tableIn (off := 1185) (tgt := 1224) hx hb z_d39 (by omega) (by omega) (by rw [hv]; rfl) (by decide) (z_c34 C hL hi hl hP hS hc hs (hF.2.2.2.2.2.2.2.2.2.2.2.2.2.2.2.2.2.2.2.2.2.2.2.2.2.2.2.2.2.2.2.2.2.2.2.1) kk)
  · exact lv_tableIn (off := 1198) (tgt := 1237) hx hb z_d39 (by omega) (by omega) (by rw [hv]; rfl) (by decide) (z_c35 C hL hi hl hP hS hc hs (hF.2.2.2.2.2.2.2.2.2.2.2.2.2.2.2.2.2.2.2.2.2.2.2.2.2.2.2.2.2.2.2.2.2.2.2.2.1 (xs (i + 1)) (xs (i + 2))) kk)
  · exact lv_tableIn (off := 1235) (tgt := 1274) hx hb z_d39 (by omega) (by omega) (by rw [hv]; rfl) (by decide) (z_c36 C hL hi hl hP hS hc hs (hF.2.2.2.2.2.2.2.2.2.2.2.2.2.2.2.2.2.2.2.2.2.2.2.2.2.2.2.2.2.2.2.2.2.2.2.2.2.1) kk)
  · exact lv_tableIn (off := 1248) (tgt := 1287) hx hb z_d39 (by omega) (by omega) (by rw [hv]; rfl) (by decide) (z_c37 C hL hi hl hP hS hc hs (hF.2.2.2.2.2.2.2.2.2.2.2.2.2.2.2.2.2.2.2.2.2.2.2.2.2.2.2.2.2.2.2.2.2.2.2.2.2.2.1) kk)
  · exact lv_tableIn (off := 1261) (tgt := 1300) hx hb z_d39 (by omega) (by omega) (by rw [hv]; rfl) (by decide) (z_c38 C hL hi hl hP hS hc hs (hF.2.2.2.2.2.2.2.2.2.2.2.2.2.2.2.2.2.2.2.2.2.2.2.2.2.2.2.2.2.2.2.2.2.2.2.2.2.2.2.1) kk)
  · exact lv_tableIn (off := 1274) (tgt := 1313) hx hb z_d39 (by omega) (by omega) (by rw [hv]; rfl) (by decide) (z_c39 C hL hi hl hP hS hc hs (hF.2.2.2.2.2.2.2.2.2.2.2.2.2.2.2.2.2.2.2.2.2.2.2.2.2.2.2.2.2.2.2.2.2.2.2.2.2.2.2.2.1 (xs (i + 1)) (xs (i + 2)) (xs (i + 3))) kk)
  · exact lv_tableIn (off := 1323) (tgt := 1362) hx hb z_d39 (by omega) (by omega) (by rw [hv]; rfl) (by decide) (z_c40 C hL hi hl hP hS hc hs (hF.2.2.2.2.2.2.2.2.2.2.2.2.2.2.2.2.2.2.2.2.2.2.2.2.2.2.2.2.2.2.2.2.2.2.2.2.2.2.2.2.2.1) kk)
  · exact lv_tableIn (off := 1336) (tgt := 1375) hx hb z_d39 (by omega) (by omega) (by rw [hv]; rfl) (by decide) (z_c41 C hL hi hl hP hS hc hs (hF.2.2.2.2.2.2.2.2.2.2.2.2.2.2.2.2.2.2.2.2.2.2.2.2.2.2.2.2.2.2.2.2.2.2.2.2.2.2.2.2.2.2.1 (xs (i + 1))) kk)
  · exact lv_tableIn (off := 1361) (tgt := 1400) hx hb z_d39 (by omega) (by omega) (by rw [hv]; rfl) (by decide) (z_c42 C hL hi hl hP hS hc hs (hF.2.2.2.2.2.2.2.2.2.2.2.2.2.2.2.2.2.2.2.2.2.2.2.2.2.2.2.2.2.2.2.2.2.2.2.2.2.2.2.2.2.2.2.1 (xs (i + 1)) (xs (i + 2))) kk)
  · exact lv_tableIn (off := 1398) (tgt := 1437) hx hb z_d39 (by omega) (by omega) (by rw [hv]; rfl) (by decide) (z_c43 C hL hi hl hP hS hc hs (hF.2.2.2.2.2.2.2.2.2.2.2.2.2.2.2.2.2.2.2.2.2.2.2.2.2.2.2.2.2.2.2.2.2.2.2.2.2.2.2.2.2.2.2.2.1 (xs (i + 1))) kk)
  · exact lv_tableIn (off := 1423) (tgt := 1462) hx hb z_d39 (by omega) (by omega) (by rw [hv]; rfl) (by decide) (z_c44 C hL hi hl hP hS hc hs (hF.2.2.2.2.2.2.2.2.2.2.2.2.2.2.2.2.2.2.2.2.2.2.2.2.2.2.2.2.2.2.2.2.2.2.2.2.2.2.2.2.2.2.2.2.2.1 (xs (i + 1))) kk)
  · exact lv_tableIn (off := 1448) (tgt := 1487) hx hb z_d39 (by omega) (by omega) (by rw [hv]; rfl) (by decide) (z_c45 C hL hi hl hP hS hc hs (hF.2.2.2.2.2.2.2.2.2.2.2.2.2.2.2.2.2.2.2.2.2.2.2.2.2.2.2.2.2.2.2.2.2.2.2.2.2.2.2.2.2.2.2.2.2.2.1 (xs (i + 1))) kk)
  · exact lv_tableIn (off := 1473) (tgt := 1512) hx hb z_d39 (by omega) (by omega) (by rw [hv]; rfl) (by decide) (z_c46 C hL hi hl hP hS hc hs (hF.2.2.2.2.2.2.2.2.2.2.2.2.2.2.2.2.2.2.2.2.2.2.2.2.2.2.2.2.2.2.2.2.2.2.2.2.2.2.2.2.2.2.2.2.2.2.2 (xs (i + 1))) kk)
theorem z_gt (hL : L ≤ 2560) (hi : i ≤ 2600) : (Int32.ofNat L - 5 < nI i) ↔ L < i + 5 := by
  have e1 : (nI i).toInt = (i : Int) := nI_toInt (by omega)
  have e2 : (Int32.ofNat L - 5).toInt = (L : Int) - 5 := by
    have h : (Int32.ofNat L).toInt = (L : Int) := nI_toInt (n := L) (by omega)
    rw [Int32.toInt_sub, h, show (5 : Int32).toInt = 5 from by decide]
    apply Int.bmod_eq_of_le <;> omega
  rw [Int32.lt_iff_toInt_lt, e1, e2]
  omega
set_option maxHeartbeats 4000000 in
set_option maxRecDepth 100000 in
theorem z_loop (C : z_C p l s m meth c b L xs D tys cA ad qo hh adS adV sa fm) (hL : L ≤ 2560) (hJ : z_J I) : ∀ (n k : Nat), k ≤ 513 → L + 5 ≤ 5 * (k + n) → ∀ (ov : Nat → Int64) (t : xS) (H : Heap) (locs : List Loc) (ls : Array Slot), I t k → va_P D vwCl (y_w cA ad qo ov t) H → va_S (z_A s) s.heap H locs → lv_has ls 8 (z_L b ad qo (5 * k)) → W p l e room_1 s m #[Value.ref b] below meth c H locs (100 + k) (40000 + 6 * k) (lw_Z below #[Value.ref b] s) (F0 m 23 ls []) := by
  have hx := C.1.1
  have hb := C.1.2.1
  have hX := C.2.2.1.1
  have hbl := C.2.2.1.2
  have hbA : ¬ z_A s b := Nat.not_le.mpr hbl
  intro n
  induction n with
  | zero => 
    intro k hk hn ov t H locs ls hI hP hS hl
    refine lv_iload hx hb (by decide +kernel) (lv_at hl 4 rfl) ?_
    refine lv_aload_n (k := 0) hx hb (by decide +kernel) rfl (lv_at hl 0 rfl) ?_
    refine va_slen hx hb hX hbl hbA hS (by decide +kernel) ?_
    refine lv_iconst (n := 5) (v := 5) hx hb (by decide +kernel) (by decide) ?_
    refine lv_isub hx hb (by decide +kernel) ?_
    refine lv_icmp_gt (off := 1544) (tgt := 1573) hx hb (by decide +kernel) (by decide) (fun _ => ?_) (fun h => absurd ((z_gt hL (by omega)).mpr (by omega)) h)
    refine lv_iconst (n := 1) (v := 1) hx hb (by decide +kernel) (by decide) ?_
    refine va_forget (fun q hq => hS.2.2 q hq) ?_
    refine W.widen (k := 601024) (n := 7293034) (by omega) (by omega) ?_
    exact lw_ret hx hb C.1.2.2.1 C.1.2.2.2.2 (by decide +kernel)
  | succ n ih =>
    intro k hk hn ov t H locs ls hI hP hS hl
    refine lv_iload hx hb (by decide +kernel) (lv_at hl 4 rfl) ?_
    refine lv_aload_n (k := 0) hx hb (by decide +kernel) rfl (lv_at hl 0 rfl) ?_
    refine va_slen hx hb hX hbl hbA hS (by decide +kernel) ?_
    refine lv_iconst (n := 5) (v := 5) hx hb (by decide +kernel) (by decide) ?_
    refine lv_isub hx hb (by decide +kernel) ?_
    refine lv_icmp_gt (off := 1544) (tgt := 1573) hx hb (by decide +kernel) (by decide) (fun _ => ?_) (fun h => ?_)
    · refine lv_iconst (n := 1) (v := 1) hx hb (by decide +kernel) (by decide) ?_
      refine va_forget (fun q hq => hS.2.2 q hq) ?_
      refine W.widen (k := 601024) (n := 7293034) (by omega) (by omega) ?_
      exact lw_ret hx hb C.1.2.2.1 C.1.2.2.2.2 (by decide +kernel)
    · have hi : 5 * k + 5 ≤ L := by
        rcases Nat.lt_or_ge L (5 * k + 5) with q | q
        · exact absurd ((z_gt hL (by omega)).mpr q) h
        · exact q
      refine lv_aload_n (k := 0) hx hb (by decide +kernel) rfl (lv_at hl 0 rfl) ?_
      refine lv_iload hx hb (by decide +kernel) (lv_at hl 4 rfl) ?_
      refine va_sld hx hb hX hbl hbA hS (vp_in_nI (n := 5 * k) (by omega) (by omega)) (by decide +kernel) ?_
      rw [nI_clamp (by omega)]
      refine lv_bipush (n := 63) (v := 63) hx hb (by decide +kernel) (by decide) ?_
      refine lv_iand hx hb (by decide +kernel) ?_
      refine z_sw C hL hi (by omega) hl hP hS (show 100 + k + 1 ≤ 601024 by omega) (show 40000 + 6 * k + 6 ≤ 7293034 by omega) hJ hI (fun ov t H locs ls hl hI hP hS => ?_)
      refine lv_iinc (n := 5) (v := nI (5 * (k + 1))) (lv' := [(4, .int (nI (5 * (k + 1)))), (0, .ref b), (1, .ref (ad 0 0)), (2, .ref (ad 13 0)), (3, .ref qo)]) hx hb (by decide +kernel) hl (k := 4) rfl (by rw [show Int32.ofInt 5 = nI 5 from by decide, nI_add]; rfl) (by decide) rfl (fun ls hl => ?_)
      refine lv_goto (off := -1547) (tgt := 23) hx hb (by decide +kernel) (by decide) ?_
      exact ih (k + 1) (by omega) (by omega) ov t H locs ls hI hP hS (lv_sub hl [1, 2, 3, 4, 0] rfl)
end LLOOP

/-! One call of both sides. Printed by genA.py. -/
section ALIKE
theorem CI_ref {s t : xS} {a : Ab} (h : CI s a) (f : fr pRef s t) : CI t a := by
  obtain ⟨a1, a2, a3, a4, a5, a6, a7, a8, a9⟩ := h
  exact ⟨cG_fr a1 f (by intro k; simp [pRef]) (by intro k; simp [pRef]) (by intro k; simp [pRef]), cO_fr a2 f (by intro k; simp [pRef]) (by intro k; simp [pRef]) (by intro k; simp [pRef]) (by intro k; simp [pRef]), cR_fr a3 f (by simp [pRef]) (by intro k; simp [pRef]), cRow_fr a4 f (by simp [pRef]) (by intro k; simp [pRef]), cT_fr a5 f (by simp [pRef]) (by intro k; simp [pRef]), cU_fr a6 f (by simp [pRef]) (by intro k; simp [pRef]) (by intro k; simp [pRef]), cK_fr a7 f (by simp [pRef]) (by intro k; simp [pRef]) (by intro k; simp [pRef]), cS_fr a8 f (by simp [pRef]) (by intro k; simp [pRef]), cH_fr a9 f (by simp [pRef]) (by intro k; simp [pRef])⟩
theorem RI_cls {s t : xS} {a : Ab} {k : Nat} (hn : a.2.1.1 ≤ 4) (h : RI s a k) (f : fr pCls s t) : RI t a k := by
  obtain ⟨a1, a2, a3, a4, a5, a6, a7, ⟨ch, c1, c2⟩, a8, a9⟩ := h
  exact ⟨rG_fr a1 f (by simp [pCls]) (by simp [pCls]) (by intro k; simp [pCls]), rO_fr a2 f (by simp [pCls]) (by intro k; simp [pCls]), rR_fr a3 f (by simp [pCls]) (by intro k; simp [pCls]), rRow_fr a4 f (by simp [pCls]) (by intro k; simp [pCls]), by rw [(f 13 0 38 (by simp [pCls])).1]; exact a5, rT_fr a6 f (by simp [pCls]) (by intro k; simp [pCls]), rU_fr hn a7 f (by simp [pCls]) (by intro k; simp [pCls]), ⟨ch, c1, rK_fr hn c2 f (by simp [pCls]) (by intro k; simp [pCls]) (by intro k; simp [pCls]) (by intro k; simp [pCls])⟩, rS_fr a8 f (by simp [pCls]) (by intro k; simp [pCls]) (by intro k; simp [pCls]) (by intro k; simp [pCls]), rH_fr a9 f (by simp [pCls]) (by intro k; simp [pCls]) (by intro k; simp [pCls])⟩
theorem RI_up {s : xS} {a : Ab} {k : Nat} (h : RI s a k) : RI s a (k + 1) := by
  obtain ⟨a1, a2, a3, a4, a5, a6, a7, ⟨ch, c1, c2⟩, a8, a9⟩ := h
  exact ⟨a1, a2, a3, a4, a5, a6, a7, ⟨ch, Nat.le_succ_of_le c1, c2⟩, a8, a9⟩
/-- both sides hold one state, after k calls -/
def z_I (t : xS) (k : Nat) : Prop := ∃ a, AOk a ∧ CI t a ∧ RI t a k
theorem z_I_up {t : xS} {k : Nat} (h : z_I t k) : z_I t (k + 1) := by
  obtain ⟨a, h1, h2, h3⟩ := h
  exact ⟨a, h1, h2, RI_up h3⟩
theorem z_of {fc fm k : Nat} {as : List xV} {a : Ab} {t : xS} (h1 : AOk a) (h2 : CI t a) (h3 : RI t a k) (h : GsS 0 fc fm as a k) : z_R z_I fc fm as t k := by
  obtain ⟨r, a', ho, hc, hm⟩ := h
  obtain ⟨t1, e1, c1, f1⟩ := hc t h2
  obtain ⟨t2, e2, c2, f2⟩ := hm t1 (RI_cls h1.2.1.1 h3 f1)
  exact ⟨r, t1, t2, e1, e2, a', ho, CI_ref c1 f2, c2⟩
theorem a_sign {t : xS} {k : Nat} (h : z_I t k) (x : Int32) : z_R z_I f_Main_sign f_Ref_sign [vI x] t k := by
  obtain ⟨⟨⟨R, C, kd⟩, ⟨n, S⟩, ⟨L, l⟩, ⟨T, sg⟩, ⟨u, U⟩, K, ⟨q, sq⟩, nh, hq⟩, hA, hC, hR⟩ := h
  exact z_of hA hC hR (s_sign hA x)
theorem a_end {t : xS} {k : Nat} (h : z_I t k) (x : Int32) : z_R z_I f_Main_end f_Ref_end [vI x] t k := by
  obtain ⟨⟨⟨R, C, kd⟩, ⟨n, S⟩, ⟨L, l⟩, ⟨T, sg⟩, ⟨u, U⟩, K, ⟨q, sq⟩, nh, hq⟩, hA, hC, hR⟩ := h
  exact z_of hA hC hR (s_end hA x)
theorem a_gardens {t : xS} {k : Nat} (h : z_I t k) : z_R z_I f_Main_gardens f_Ref_gardens [] t k := by
  obtain ⟨⟨⟨R, C, kd⟩, ⟨n, S⟩, ⟨L, l⟩, ⟨T, sg⟩, ⟨u, U⟩, K, ⟨q, sq⟩, nh, hq⟩, hA, hC, hR⟩ := h
  exact z_of hA hC hR (s_gardens hA)
theorem a_prams {t : xS} {k : Nat} (h : z_I t k) : z_R z_I f_Main_prams f_Ref_prams [] t k := by
  obtain ⟨⟨⟨R, C, kd⟩, ⟨n, S⟩, ⟨L, l⟩, ⟨T, sg⟩, ⟨u, U⟩, K, ⟨q, sq⟩, nh, hq⟩, hA, hC, hR⟩ := h
  exact z_of hA hC hR (s_prams hA)
theorem a_rule {t : xS} {k : Nat} (h : z_I t k) : z_R z_I f_Main_rule f_Ref_rule [] t k := by
  obtain ⟨⟨⟨R, C, kd⟩, ⟨n, S⟩, ⟨L, l⟩, ⟨T, sg⟩, ⟨u, U⟩, K, ⟨q, sq⟩, nh, hq⟩, hA, hC, hR⟩ := h
  exact z_of hA hC hR (s_rule hA)
theorem a_sheet {t : xS} {k : Nat} (h : z_I t k) (x y z w : Int32) : z_R z_I f_Main_sheet f_Ref_sheet [vI x, vI y, vI z, vI w] t k := by
  obtain ⟨⟨⟨R, C, kd⟩, ⟨n, S⟩, ⟨L, l⟩, ⟨T, sg⟩, ⟨u, U⟩, K, ⟨q, sq⟩, nh, hq⟩, hA, hC, hR⟩ := h
  exact z_of hA hC hR (s_sheet hA x y z w)
theorem a_pushes {t : xS} {k : Nat} (h : z_I t k) (x y : Int32) : z_R z_I f_Main_pushes f_Ref_pushes [vI x, vI y] t k := by
  obtain ⟨⟨⟨R, C, kd⟩, ⟨n, S⟩, ⟨L, l⟩, ⟨T, sg⟩, ⟨u, U⟩, K, ⟨q, sq⟩, nh, hq⟩, hA, hC, hR⟩ := h
  exact z_of hA hC hR (s_pushes hA hC.2.2.2.2.2.1.2.1 x y)
theorem a_faces {t : xS} {k : Nat} (h : z_I t k) (x y : Int32) : z_R z_I f_Main_faces f_Ref_faces [vI x, vI y] t k := by
  obtain ⟨⟨⟨R, C, kd⟩, ⟨n, S⟩, ⟨L, l⟩, ⟨T, sg⟩, ⟨u, U⟩, K, ⟨q, sq⟩, nh, hq⟩, hA, hC, hR⟩ := h
  exact z_of hA hC hR (s_faces hA hC.2.2.2.2.2.1.2.1 x y)
theorem a_looses {t : xS} {k : Nat} (h : z_I t k) (x : Int32) : z_R z_I f_Main_looses f_Ref_looses [vI x] t k := by
  obtain ⟨⟨⟨R, C, kd⟩, ⟨n, S⟩, ⟨L, l⟩, ⟨T, sg⟩, ⟨u, U⟩, K, ⟨q, sq⟩, nh, hq⟩, hA, hC, hR⟩ := h
  exact z_of hA hC hR (s_looses hA hC.2.2.2.2.2.1.2.1 x)
theorem a_catches {t : xS} {k : Nat} (h : z_I t k) (x : Int32) : z_R z_I f_Main_catches f_Ref_catches [vI x] t k := by
  obtain ⟨⟨⟨R, C, kd⟩, ⟨n, S⟩, ⟨L, l⟩, ⟨T, sg⟩, ⟨u, U⟩, K, ⟨q, sq⟩, nh, hq⟩, hA, hC, hR⟩ := h
  exact z_of hA hC hR (s_catches hA hC.2.2.2.2.2.1.2.1 x)
theorem a_minutes {t : xS} {k : Nat} (h : z_I t k) (x : Int32) : z_R z_I f_Main_minutes f_Ref_minutes [vI x] t k := by
  obtain ⟨⟨⟨R, C, kd⟩, ⟨n, S⟩, ⟨L, l⟩, ⟨T, sg⟩, ⟨u, U⟩, K, ⟨q, sq⟩, nh, hq⟩, hA, hC, hR⟩ := h
  exact z_of hA hC hR (s_minutes hA hC.2.2.2.2.2.1.2.1 x)
theorem a_forgets {t : xS} {k : Nat} (h : z_I t k) (x y : Int32) : z_R z_I f_Main_forgets f_Ref_forgets [vI x, vI y] t k := by
  obtain ⟨⟨⟨R, C, kd⟩, ⟨n, S⟩, ⟨L, l⟩, ⟨T, sg⟩, ⟨u, U⟩, K, ⟨q, sq⟩, nh, hq⟩, hA, hC, hR⟩ := h
  exact z_of hA hC hR (s_forgets hA hC.2.2.2.2.2.1.2.1 x y)
theorem a_walk {t : xS} {k : Nat} (h : z_I t k) : z_R z_I f_Main_walk f_Ref_walk [] t k := by
  obtain ⟨⟨⟨R, C, kd⟩, ⟨n, S⟩, ⟨L, l⟩, ⟨T, sg⟩, ⟨u, U⟩, K, ⟨q, sq⟩, nh, hq⟩, hA, hC, hR⟩ := h
  exact z_of hA hC hR (s_walk hA hC.2.2.2.2.2.1.2.1)
theorem a_undo {t : xS} {k : Nat} (h : z_I t k) : z_R z_I f_Main_undo f_Ref_undo [] t k := by
  obtain ⟨⟨⟨R, C, kd⟩, ⟨n, S⟩, ⟨L, l⟩, ⟨T, sg⟩, ⟨u, U⟩, K, ⟨q, sq⟩, nh, hq⟩, hA, hC, hR⟩ := h
  exact z_of hA hC hR (s_undo hA)
theorem a_sees {t : xS} {k : Nat} (h : z_I t k) (x : Int32) : z_R z_I f_Main_sees f_Ref_sees [vI x] t k := by
  obtain ⟨⟨⟨R, C, kd⟩, ⟨n, S⟩, ⟨L, l⟩, ⟨T, sg⟩, ⟨u, U⟩, K, ⟨q, sq⟩, nh, hq⟩, hA, hC, hR⟩ := h
  exact z_of hA hC hR (s_sees hA x)
theorem a_would {t : xS} {k : Nat} (h : z_I t k) (x y z : Int32) : z_R z_I f_Main_would f_Ref_would [vI x, vI y, vI z] t k := by
  obtain ⟨⟨⟨R, C, kd⟩, ⟨n, S⟩, ⟨L, l⟩, ⟨T, sg⟩, ⟨u, U⟩, K, ⟨q, sq⟩, nh, hq⟩, hA, hC, hR⟩ := h
  exact z_of hA hC hR (s_would hA x y z)
theorem a_stands {t : xS} {k : Nat} (h : z_I t k) (x : Int32) : z_R z_I f_Main_stands f_Ref_stands [vI x] t k := by
  obtain ⟨⟨⟨R, C, kd⟩, ⟨n, S⟩, ⟨L, l⟩, ⟨T, sg⟩, ⟨u, U⟩, K, ⟨q, sq⟩, nh, hq⟩, hA, hC, hR⟩ := h
  exact z_of hA hC hR (s_stands hA x)
theorem a_way {t : xS} {k : Nat} (h : z_I t k) (x y : Int32) : z_R z_I f_Main_way f_Ref_way [vI x, vI y] t k := by
  obtain ⟨⟨⟨R, C, kd⟩, ⟨n, S⟩, ⟨L, l⟩, ⟨T, sg⟩, ⟨u, U⟩, K, ⟨q, sq⟩, nh, hq⟩, hA, hC, hR⟩ := h
  exact z_of hA hC hR (s_way hA x y)
theorem a_reach {t : xS} {k : Nat} (h : z_I t k) (x : Int32) : z_R z_I f_Main_reach f_Ref_reach [vI x] t k := by
  obtain ⟨⟨⟨R, C, kd⟩, ⟨n, S⟩, ⟨L, l⟩, ⟨T, sg⟩, ⟨u, U⟩, K, ⟨q, sq⟩, nh, hq⟩, hA, hC, hR⟩ := h
  exact z_of hA hC hR (s_reach hA x)
theorem a_parts {t : xS} {k : Nat} (h : z_I t k) : z_R z_I f_Main_parts f_Ref_parts [] t k := by
  obtain ⟨⟨⟨R, C, kd⟩, ⟨n, S⟩, ⟨L, l⟩, ⟨T, sg⟩, ⟨u, U⟩, K, ⟨q, sq⟩, nh, hq⟩, hA, hC, hR⟩ := h
  exact z_of hA hC hR (s_parts hA)
theorem a_gates {t : xS} {k : Nat} (h : z_I t k) : z_R z_I f_Main_gates f_Ref_gates [] t k := by
  obtain ⟨⟨⟨R, C, kd⟩, ⟨n, S⟩, ⟨L, l⟩, ⟨T, sg⟩, ⟨u, U⟩, K, ⟨q, sq⟩, nh, hq⟩, hA, hC, hR⟩ := h
  exact z_of hA hC hR (s_gates hA)
theorem a_nearest {t : xS} {k : Nat} (h : z_I t k) : z_R z_I f_Main_nearest f_Ref_nearest [] t k := by
  obtain ⟨⟨⟨R, C, kd⟩, ⟨n, S⟩, ⟨L, l⟩, ⟨T, sg⟩, ⟨u, U⟩, K, ⟨q, sq⟩, nh, hq⟩, hA, hC, hR⟩ := h
  exact z_of hA hC hR (s_nearest hA)
theorem a_forms {t : xS} {k : Nat} (h : z_I t k) (x y : Int32) : z_R z_I f_Main_forms f_Ref_forms [vI x, vI y] t k := by
  obtain ⟨⟨⟨R, C, kd⟩, ⟨n, S⟩, ⟨L, l⟩, ⟨T, sg⟩, ⟨u, U⟩, K, ⟨q, sq⟩, nh, hq⟩, hA, hC, hR⟩ := h
  exact z_of hA hC hR (s_forms hA x y)
theorem a_most {t : xS} {k : Nat} (h : z_I t k) (x : Int32) : z_R z_I f_Main_most f_Ref_most [vI x] t k := by
  obtain ⟨⟨⟨R, C, kd⟩, ⟨n, S⟩, ⟨L, l⟩, ⟨T, sg⟩, ⟨u, U⟩, K, ⟨q, sq⟩, nh, hq⟩, hA, hC, hR⟩ := h
  exact z_of hA hC hR (s_most hA x)
theorem a_ways {t : xS} {k : Nat} (h : z_I t k) (x y z : Int32) : z_R z_I f_Main_ways f_Ref_ways [vI x, vI y, vI z] t k := by
  obtain ⟨⟨⟨R, C, kd⟩, ⟨n, S⟩, ⟨L, l⟩, ⟨T, sg⟩, ⟨u, U⟩, K, ⟨q, sq⟩, nh, hq⟩, hA, hC, hR⟩ := h
  exact z_of hA hC hR (s_ways hA x y z)
theorem a_strays {t : xS} {k : Nat} (h : z_I t k) (x y z : Int32) : z_R z_I f_Main_strays f_Ref_strays [vI x, vI y, vI z] t k := by
  obtain ⟨⟨⟨R, C, kd⟩, ⟨n, S⟩, ⟨L, l⟩, ⟨T, sg⟩, ⟨u, U⟩, K, ⟨q, sq⟩, nh, hq⟩, hA, hC, hR⟩ := h
  exact z_of hA hC hR (s_strays hA x y z)
theorem a_stops {t : xS} {k : Nat} (h : z_I t k) (x : Int32) : z_R z_I f_Main_stops f_Ref_stops [vI x] t k := by
  obtain ⟨⟨⟨R, C, kd⟩, ⟨n, S⟩, ⟨L, l⟩, ⟨T, sg⟩, ⟨u, U⟩, K, ⟨q, sq⟩, nh, hq⟩, hA, hC, hR⟩ := h
  exact z_of hA hC hR (s_stops hA x)
theorem a_rounds {t : xS} {k : Nat} (h : z_I t k) : z_R z_I f_Main_rounds f_Ref_rounds [] t k := by
  obtain ⟨⟨⟨R, C, kd⟩, ⟨n, S⟩, ⟨L, l⟩, ⟨T, sg⟩, ⟨u, U⟩, K, ⟨q, sq⟩, nh, hq⟩, hA, hC, hR⟩ := h
  exact z_of hA hC hR (s_rounds hA)
theorem a_basin {t : xS} {k : Nat} (h : z_I t k) (x : Int32) : z_R z_I f_Main_basin f_Ref_basin [vI x] t k := by
  obtain ⟨⟨⟨R, C, kd⟩, ⟨n, S⟩, ⟨L, l⟩, ⟨T, sg⟩, ⟨u, U⟩, K, ⟨q, sq⟩, nh, hq⟩, hA, hC, hR⟩ := h
  exact z_of hA hC hR (s_basin hA x)
theorem a_saw {t : xS} {k : Nat} (h : z_I t k) (x y z : Int32) : z_R z_I f_Main_saw f_Ref_saw [vI x, vI y, vI z] t k := by
  obtain ⟨⟨⟨R, C, kd⟩, ⟨n, S⟩, ⟨L, l⟩, ⟨T, sg⟩, ⟨u, U⟩, K, ⟨q, sq⟩, nh, hq⟩, hA, hC, hR⟩ := h
  exact z_of hA hC hR (s_saw hA x y z)
theorem a_denies {t : xS} {k : Nat} (h : z_I t k) : z_R z_I f_Main_denies f_Ref_denies [] t k := by
  obtain ⟨⟨⟨R, C, kd⟩, ⟨n, S⟩, ⟨L, l⟩, ⟨T, sg⟩, ⟨u, U⟩, K, ⟨q, sq⟩, nh, hq⟩, hA, hC, hR⟩ := h
  exact z_of hA hC hR (s_denies hA)
theorem a_laws {t : xS} {k : Nat} (h : z_I t k) : z_R z_I f_Main_laws f_Ref_laws [] t k := by
  obtain ⟨⟨⟨R, C, kd⟩, ⟨n, S⟩, ⟨L, l⟩, ⟨T, sg⟩, ⟨u, U⟩, K, ⟨q, sq⟩, nh, hq⟩, hA, hC, hR⟩ := h
  exact z_of hA hC hR (s_laws hA)
theorem a_looks {t : xS} {k : Nat} (h : z_I t k) : z_R z_I f_Main_looks f_Ref_looks [] t k := by
  obtain ⟨⟨⟨R, C, kd⟩, ⟨n, S⟩, ⟨L, l⟩, ⟨T, sg⟩, ⟨u, U⟩, K, ⟨q, sq⟩, nh, hq⟩, hA, hC, hR⟩ := h
  exact z_of hA hC hR (s_looks hA)
theorem a_heard {t : xS} {k : Nat} (h : z_I t k) (x y : Int32) : z_R z_I f_Main_heard f_Ref_heard [vI x, vI y] t k := by
  obtain ⟨⟨⟨R, C, kd⟩, ⟨n, S⟩, ⟨L, l⟩, ⟨T, sg⟩, ⟨u, U⟩, K, ⟨q, sq⟩, nh, hq⟩, hA, hC, hR⟩ := h
  exact z_of hA hC hR (s_heard hA x y)
theorem a_forget {t : xS} {k : Nat} (h : z_I t k) : z_R z_I f_Main_forget f_Ref_forget [] t k := by
  obtain ⟨⟨⟨R, C, kd⟩, ⟨n, S⟩, ⟨L, l⟩, ⟨T, sg⟩, ⟨u, U⟩, K, ⟨q, sq⟩, nh, hq⟩, hA, hC, hR⟩ := h
  exact z_of hA hC hR (s_forget hA)
theorem a_fits {t : xS} {k : Nat} (h : z_I t k) : z_R z_I f_Main_fits f_Ref_fits [] t k := by
  obtain ⟨⟨⟨R, C, kd⟩, ⟨n, S⟩, ⟨L, l⟩, ⟨T, sg⟩, ⟨u, U⟩, K, ⟨q, sq⟩, nh, hq⟩, hA, hC, hR⟩ := h
  exact z_of hA hC hR (s_fits hA)
theorem a_asks {t : xS} {k : Nat} (h : z_I t k) : z_R z_I f_Main_asks f_Ref_asks [] t k := by
  obtain ⟨⟨⟨R, C, kd⟩, ⟨n, S⟩, ⟨L, l⟩, ⟨T, sg⟩, ⟨u, U⟩, K, ⟨q, sq⟩, nh, hq⟩, hA, hC, hR⟩ := h
  exact z_of hA hC hR (s_asks hA)
theorem a_pond {t : xS} {k : Nat} (h : z_I t k) (x y z : Int32) : z_R z_I f_Main_pond f_Ref_pond [vI x, vI y, vI z] t k := by
  obtain ⟨⟨⟨R, C, kd⟩, ⟨n, S⟩, ⟨L, l⟩, ⟨T, sg⟩, ⟨u, U⟩, K, ⟨q, sq⟩, nh, hq⟩, hA, hC, hR⟩ := h
  exact z_of hA hC hR (s_pond hA x y z)
theorem a_law {t : xS} {k : Nat} (h : z_I t k) : z_R z_I f_Main_law f_Ref_law [] t k := by
  obtain ⟨⟨⟨R, C, kd⟩, ⟨n, S⟩, ⟨L, l⟩, ⟨T, sg⟩, ⟨u, U⟩, K, ⟨q, sq⟩, nh, hq⟩, hA, hC, hR⟩ := h
  exact z_of hA hC hR (s_law hA)
theorem a_shoulders {t : xS} {k : Nat} (h : z_I t k) (x : Int32) : z_R z_I f_Main_shoulders f_Ref_shoulders [vI x] t k := by
  obtain ⟨⟨⟨R, C, kd⟩, ⟨n, S⟩, ⟨L, l⟩, ⟨T, sg⟩, ⟨u, U⟩, K, ⟨q, sq⟩, nh, hq⟩, hA, hC, hR⟩ := h
  exact z_of hA hC hR (s_shoulders hA x)
theorem a_years {t : xS} {k : Nat} (h : z_I t k) (x y : Int32) : z_R z_I f_Main_years f_Ref_years [vI x, vI y] t k := by
  obtain ⟨⟨⟨R, C, kd⟩, ⟨n, S⟩, ⟨L, l⟩, ⟨T, sg⟩, ⟨u, U⟩, K, ⟨q, sq⟩, nh, hq⟩, hA, hC, hR⟩ := h
  exact z_of hA hC hR (s_years hA x y)
theorem a_keep {t : xS} {k : Nat} (h : z_I t k) (x : Int32) : z_R z_I f_Main_keep f_Ref_keep [vI x] t k := by
  obtain ⟨⟨⟨R, C, kd⟩, ⟨n, S⟩, ⟨L, l⟩, ⟨T, sg⟩, ⟨u, U⟩, K, ⟨q, sq⟩, nh, hq⟩, hA, hC, hR⟩ := h
  exact z_of hA hC hR (s_keep hA x)
theorem a_again {t : xS} {k : Nat} (h : z_I t k) (hk : k < 2000000) (x : Int32) : z_R z_I f_Main_again f_Ref_again [vI x] t k := by
  obtain ⟨⟨⟨R, C, kd⟩, ⟨n, S⟩, ⟨L, l⟩, ⟨T, sg⟩, ⟨u, U⟩, K, ⟨q, sq⟩, nh, hq⟩, hA, hC, hR⟩ := h
  exact z_of hA hC hR (s_again hA hk x)
theorem a_count {t : xS} {k : Nat} (h : z_I t k) (x : Int32) : z_R z_I f_Main_count f_Ref_count [vI x] t k := by
  obtain ⟨⟨⟨R, C, kd⟩, ⟨n, S⟩, ⟨L, l⟩, ⟨T, sg⟩, ⟨u, U⟩, K, ⟨q, sq⟩, nh, hq⟩, hA, hC, hR⟩ := h
  exact z_of hA hC hR (s_count hA x)
theorem a_thr {α : Type} (g : α → xV) {fc fq k : Nat} {as : List xV} {a : Ab} {t : xS} {o : Option xV} {v0 : xV} {bad : Prop} (h1 : AOk a) (h2 : CI t a) (h3 : RI t a k) (hc : ev (0 + 100) fc (vR 0 0 :: as) t = o.map (fun v => (some v, t))) (hm : GsT fq 0 as a k o v0) (hg : ∀ v, o = some v → ∃ r, v = g r) (hv : ∃ r, v0 = g r) (hb : o = none → bad) : z_RT g z_I fc fq as bad t k := by
  obtain ⟨t2, e2, r2, f2, g2⟩ := hm t h3
  cases o with
  | none =>
    obtain ⟨r, hr⟩ := hv
    refine Or.inr ⟨r, t2, hb rfl, ?_, ?_, a, h1, CI_ref h2 f2, r2⟩
    · rw [← hr]; exact e2
    · rw [g2, if_pos rfl]
  | some v =>
    obtain ⟨r, rfl⟩ := hg v rfl
    refine Or.inl ⟨r, t2, hc, e2, ?_, a, h1, CI_ref h2 f2, r2⟩
    rw [g2, if_neg (by simp)]
theorem a_field {t : xS} {k : Nat} (h : z_I t k) (x : Int32) : z_RT vI z_I f_Main_field f_Ref_field [vI x] (ev 9 f_Garden_has [vR 2 0, vI x] t = some (some (vI 0), t)) t k := by
  obtain ⟨⟨⟨R, C, kd⟩, ⟨n, S⟩, ⟨L, l⟩, ⟨T, sg⟩, ⟨u, U⟩, K, ⟨q, sq⟩, nh, hq⟩, hA, hC, hR⟩ := h
  refine a_thr vI hA hC hR (c_field hC x) (t_field hA x) (fun v hv => ?_) ⟨0, rfl⟩ (fun ho => ?_)
  · unfold fldX at hv
    cases e : x_in x (R * C) with
    | false => rw [e] at hv; cases hv
    | true => rw [e] at hv; exact ⟨_, (Option.some.inj hv).symm⟩
  · unfold fldX at ho
    have hG : cG t R C kd := hC.1
    have hh : ev (8 + 1) f_Garden_has [vR 2 0, vI x] t = some (some (vI (ib (x_in x (R * C)))), t) := g_has hG
    cases e : x_in x (R * C) with
    | false => rw [e] at hh; exact hh
    | true => rw [e] at ho; cases ho
theorem a_pram {t : xS} {k : Nat} (h : z_I t k) (x y : Int32) : z_RT vI z_I f_Main_pram f_Ref_pram [vI x, vI y] (∃ r0 : Int32, ev 9 f_Outing_has [vR 3 0, vI x] t = some (some (vI r0), t) ∧ (r0 = 0 ∨ y < 0 ∨ ¬ y ≤ 4)) t k := by
  obtain ⟨⟨⟨R, C, kd⟩, ⟨n, S⟩, ⟨L, l⟩, ⟨T, sg⟩, ⟨u, U⟩, K, ⟨q, sq⟩, nh, hq⟩, hA, hC, hR⟩ := h
  refine a_thr vI hA hC hR (c_pram hA hC x y) (t_pram hA x y) (fun v hv => ?_) ⟨0, rfl⟩ (fun ho => ?_)
  · unfold prmX at hv
    cases e : (x_in x n && x_in y 5) with
    | false => rw [e] at hv; cases hv
    | true => rw [e] at hv; exact ⟨_, (Option.some.inj hv).symm⟩
  · unfold prmX at ho
    have hn : n ≤ 4 := hA.2.1.1
    have hO : cOS t 0 n S := hC.2.1
    have hh : ev (8 + 1) f_Outing_has [vR 3 0, vI x] t = some (some (vI (ib (x_in x n))), t) := o_has hO hn
    refine ⟨_, hh, ?_⟩
    cases e1 : x_in x n with
    | false => exact Or.inl rfl
    | true =>
      right
      cases e2 : x_in y 5 with
      | true => rw [e1, e2] at ho; cases ho
      | false =>
        by_cases z1 : y < 0
        · exact Or.inl z1
        · right
          intro z2
          obtain ⟨j, hj, rfl⟩ := nI_of z1
          have h4 : j ≤ 4 := (nI_leI (b := 4) (by omega) (by omega)).mp z2
          rw [in_t (show j < 5 by omega) (by omega)] at e2
          cases e2
theorem a_row {t : xS} {k : Nat} (h : z_I t k) (x : Int32) : z_RT vL z_I f_Main_row f_Ref_row [vI x] (ev 9 f_Numbers_has [vR 10 0, vI x] t = some (some (vI 0), t)) t k := by
  obtain ⟨⟨⟨R, C, kd⟩, ⟨n, S⟩, ⟨L, l⟩, ⟨T, sg⟩, ⟨u, U⟩, K, ⟨q, sq⟩, nh, hq⟩, hA, hC, hR⟩ := h
  refine a_thr vL hA hC hR (c_row hC x) (t_row hA x) (fun v hv => ?_) ⟨0, rfl⟩ (fun ho => ?_)
  · unfold rowX at hv
    cases e : x_in x l.length with
    | false => rw [e] at hv; cases hv
    | true => rw [e] at hv; exact ⟨_, (Option.some.inj hv).symm⟩
  · unfold rowX at ho
    obtain ⟨h1, h2, h3⟩ : cRow t l := hC.2.2.2.1
    cases e : x_in x l.length with
    | true => rw [e] at ho; cases ho
    | false =>
      show ev (8 + 1) f_Numbers_has [vR 10 0, vI x] t = some (some (vI 0), t)
      have e : x_in x l.length = false := e
      rw [n_in2 x (by omega)] at e
      rw [Numbers_has_eq, h1]
      by_cases z : x < 0
      · rw [if_pos z, nb_0]; rfl
      · rw [if_neg z]
        by_cases g : x < nI l.length
        · rw [decide_eq_false z, decide_eq_true g] at e; cases e
        · rw [if_neg g, nb_0]; rfl
theorem z_Jok : z_J z_I := fun t k h hk => ⟨z_I_up h, a_sign h, a_end h, a_gardens h, a_prams h, a_rule h, a_field h, a_pram h, a_sheet h, a_pushes h, a_faces h, a_looses h, a_catches h, a_minutes h, a_forgets h, a_walk h, a_undo h, a_sees h, a_would h, a_stands h, a_way h, a_reach h, a_parts h, a_gates h, a_nearest h, a_forms h, a_most h, a_ways h, a_strays h, a_stops h, a_rounds h, a_basin h, a_saw h, a_denies h, a_laws h, a_looks h, a_heard h, a_forget h, a_fits h, a_asks h, a_pond h, a_law h, a_shoulders h, a_years h, a_keep h, a_again h hk, a_count h, a_row h⟩
end ALIKE

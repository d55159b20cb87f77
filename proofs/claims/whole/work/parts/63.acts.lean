/-! pushes, faces, looses, catches, minutes, forgets. -/
section ACTS
variable {d k : Nat} {R C n T u q nh : Nat} {kd : Nat → Nat} {S S' : Sn} {L : List Nat} {l l' : List Int64} {sg : Nat → Nat} {U : Nat → Sn} {K : Nat → Option Sn} {sq : Nat → Nat × Nat × Nat} {hq : Nat → Nat × Nat} {s v : xS} {r x y : Int32}
theorem fr_mark (s : xS) (x : Int64) (y : Int32) : fr pBC s (wI (wL s 4 0 6 x) 4 0 7 y) := fr_wI (fr_wL (fr_r _ _) (by simp [pBC, pCQ])) (by simp [pBC, pCQ])
theorem pOc_BC {c i k : Nat} (h : pOc 0 c i k) : pBC c i k := pAct_BC (Or.inl h)
theorem pM_BC {c i k : Nat} (h : pM c i k) : pBC c i k := pAct_BC (Or.inr h)
theorem pN_BC {c i k : Nat} (h : pN c i k) : pBC c i k := Or.inl (pN_CQ h)
theorem cls_rem (hs : CI s ((R, C, kd), (n, S), (L, l), (T, sg), (u, U), K, (q, sq), nh, hq)) (hO : cOS v 0 n S') (f : fr (pOc 0) (wI (wL s 4 0 6 (lN (pck n S))) 4 0 7 S.2.2.2.2) v) (r : Int32) :
    ∃ t, ev (d + 99) f_Main_remembered [vR 0 0, vI r] v = some (some (vI r), t) ∧ CI t ((R, C, kd), (n, S'), (L, l), (T, sg), undU r u U S, K, (q, sq), nh, hq) ∧ fr pBC s t ∧ fr pM v t := by
  have hm := CI_mark hs
  have hU := cU_fr hm.2.2.2.2.2.1 f (by simp [pOc, pE]) (by intro k; simp [pOc, pE]) (by intro k; simp [pOc, pE])
  have h6 : v.2 4 0 6 = lN (pck n S) := by rw [(f 4 0 6 (by simp [pOc, pE])).2, wI_s2, wL_s2]
  have h7 : v.1 4 0 7 = S.2.2.2.2 := by rw [(f 4 0 7 (by simp [pOc, pE])).1, wI_s1]
  obtain ⟨t, e1, e2, e3⟩ := c_remembered (d := d + 89) (x := r) hU h6 h7
  have f9 : fr pBC s t := fr_t (fr_mark _ _ _) (fr_t (fr_m f (fun _ _ _ => pOc_BC)) (fr_m e3 (fun _ _ _ => pM_BC)))
  have hO' : cOS t 0 n S' := cO_fr hO e3 (by intro k; simp [pM]) (by intro k; simp [pM]) (by intro k; simp [pM]) (by intro k; simp [pM])
  have hr : cRow t l := cRow_fr (cRow_fr hm.2.2.2.1 f (by simp [pOc, pE]) (by intro k; simp [pOc, pE])) e3 (by simp [pM]) (by intro k; simp [pM])
  exact ⟨t, e1, CI_gen hs f9 hO' hr e2, f9, e3⟩
theorem ref_puts (hn : n ≤ 4) (hs : RI s ((R, C, kd), (n, S), (L, l), (T, sg), (u, U), K, (q, sq), nh, hq) k) : ∃ t, ev (d + 99) f_Ref_putsBy [vR 13 0] (wI s 13 0 0 0) = some (none, t) ∧ rG t R C kd ∧ rOS t 0 n S ∧ rR t L ∧ rP t n u U S ∧ rRow t l ∧ fr pAcR s t := by
  have f0 : fr pAcR s (wI s 13 0 0 0) := fr_wI (fr_r _ _) (by simp [pAcR])
  have hU0 : rU (wI s 13 0 0 0) n u U := rU_fr hn hs.2.2.2.2.2.2.1 (fr_0 (s := s)) (by simp [p0]) (by intro k; simp [p0])
  have hO0 : rOS (wI s 13 0 0 0) 0 n S := rO_fr hs.2.1 (fr_0 (s := s)) (by simp [p0]) (by intro k; simp [p0])
  obtain ⟨t, e1, e2, e3⟩ := m_putsBy (d := d + 98) hn hU0 hO0
  have f1 : fr pAcR s t := fr_t f0 (fr_m e3 (fun c _ _ h => by subst h; simp [pAcR, pAd]))
  exact ⟨t, e1, rG_fr hs.1 f1 (by simp [pAcR, pAd, pOr, pF]) (by simp [pAcR, pAd, pOr, pF]) (by intro k; simp [pAcR, pAd, pOr, pF]), rO_fr hO0 e3 (by omega) (by omega), rR_fr hs.2.2.1 f1 (by simp [pAcR, pAd, pOr, pF]) (by intro k; simp [pAcR, pAd, pOr, pF]), e2, rRow_fr hs.2.2.2.1 f1 (by simp [pAcR, pAd, pOr, pF]) (by intro k; simp [pAcR, pAd, pOr, pF]), f1⟩
theorem ref_cnt (hn : n ≤ 4) (hs : RI s ((R, C, kd), (n, S), (L, l), (T, sg), (u, U), K, (q, sq), nh, hq) k) (hO : rOS v 0 n S') (hP : rP v n u U S) (hr : rRow v l') (f : fr pBR s v) (r : Int32) :
    ∃ t, ev (d + 99) f_Ref_counted [vR 13 0, vI r] v = some (some (vI r), t) ∧ RI t ((R, C, kd), (n, S'), (L, l'), (T, sg), undU r u U S, K, (q, sq), nh, hq) (k + 1) ∧ fr pBR s t := by
  obtain ⟨t, e1, e2, e3⟩ := m_counted (d := d + 97) (x := r) hn hP
  have f9 : fr pBR s t := fr_t f (fr_m e3 (fun c i k h => pAcR_BR (Or.inr (Or.inl h))))
  exact ⟨t, e1, RI_gen hn hs f9 (rO_fr hO e3 (by simp [pAd]) (by intro k; simp [pAd])) (rRow_fr hr e3 (by simp [pAd]) (by intro k; simp [pAd])) e2, f9⟩
theorem rP_or {t : xS} (hn : n ≤ 4) (h : rP s n u U S) (f : fr (pOr 0) s t) : rP t n u U S := rP_fr hn h f (by simp [pOr, pF]) (by intro k; simp [pOr, pF])
theorem rRow_or {t : xS} (h : rRow s l) (f : fr (pOr 0) s t) : rRow t l := rRow_fr h f (by simp [pOr, pF]) (by intro k; simp [pOr, pF])
theorem AOk_S (ha : AOk ((R, C, kd), (n, S), (L, l), (T, sg), (u, U), K, (q, sq), nh, hq)) (hu : u ≤ 15) (ho : oOkS R C kd n S') (r : Int32) : AOk ((R, C, kd), (n, S'), (L, l'), (T, sg), undU r u U S, K, (q, sq), nh, hq) :=
  ⟨ha.1, ho, ha.2.2.1, ha.2.2.2.1, undU_ok ha.2.2.2.2.1 ha.2.1 hu, ha.2.2.2.2.2.1, ha.2.2.2.2.2.2.1, ha.2.2.2.2.2.2.2⟩
theorem s_looses (ha : AOk ((R, C, kd), (n, S), (L, l), (T, sg), (u, U), K, (q, sq), nh, hq)) (hu : u ≤ 15) (x : Int32) : GsS d f_Main_looses f_Ref_looses [vI x] ((R, C, kd), (n, S), (L, l), (T, sg), (u, U), K, (q, sq), nh, hq) k := by
  have ho : oOkS R C kd n S := ha.2.1
  have hn : n ≤ 4 := ho.1
  refine ⟨(losX n S true x).1, _, AOk_S (l' := l) ha hu (losX_ok (x := x) (b := true) ho) (losX n S true x).1, fun s hs => ?_, fun s hs => ?_⟩
  · obtain ⟨v, e1, e2, e3⟩ := c_letGo (d := d + 95) (CI_mark hs).2.1 ho x
    obtain ⟨t, g1, g2, g3, _⟩ := cls_rem (d := d) hs e2 e3 (losX n S true x).1
    refine ⟨t, ?_, g2, fr_m g3 (fun _ _ _ => pBC_cls)⟩
    rw [Main_looses_eq, c_mark ha.1 hs.2.1 ho, bV_s, e1, bI_s, g1, bI_s]
  · obtain ⟨t1, p1, p2, p3, p4, p5, p6, p7⟩ := ref_puts (d := d) hn hs
    obtain ⟨v, e1, e2, e3, _⟩ := m_sets (d := d + 96) p3 ho true x
    have e1' : ev (d + 99) f_Ref_sets [vR 13 0, vR 43 0, vI x, vI 1] t1 = some (some (vI (losX n S true x).1), v) := e1
    obtain ⟨t, g1, g2, g3⟩ := ref_cnt (d := d) hn hs e2 (rP_or hn p5 e3) (rRow_or p6 e3) (fr_m (fr_t p7 (fr_m e3 (fun _ _ _ => Or.inl))) (fun _ _ _ => pAcR_BR)) (losX n S true x).1
    refine ⟨t, ?_, g2, fr_m g3 (fun _ _ _ => pBR_ref)⟩
    rw [Ref_looses_eq, p1, bV_s, e1', bI_s, g1, bI_s]
theorem s_catches (ha : AOk ((R, C, kd), (n, S), (L, l), (T, sg), (u, U), K, (q, sq), nh, hq)) (hu : u ≤ 15) (x : Int32) : GsS d f_Main_catches f_Ref_catches [vI x] ((R, C, kd), (n, S), (L, l), (T, sg), (u, U), K, (q, sq), nh, hq) k := by
  have ho : oOkS R C kd n S := ha.2.1
  have hn : n ≤ 4 := ho.1
  refine ⟨(losX n S false x).1, _, AOk_S (l' := l) ha hu (losX_ok (x := x) (b := false) ho) (losX n S false x).1, fun s hs => ?_, fun s hs => ?_⟩
  · obtain ⟨v, e1, e2, e3⟩ := c_grasp (d := d + 95) (CI_mark hs).2.1 ho x
    obtain ⟨t, g1, g2, g3, _⟩ := cls_rem (d := d) hs e2 e3 (losX n S false x).1
    refine ⟨t, ?_, g2, fr_m g3 (fun _ _ _ => pBC_cls)⟩
    rw [Main_catches_eq, c_mark ha.1 hs.2.1 ho, bV_s, e1, bI_s, g1, bI_s]
  · obtain ⟨t1, p1, p2, p3, p4, p5, p6, p7⟩ := ref_puts (d := d) hn hs
    obtain ⟨v, e1, e2, e3, _⟩ := m_sets (d := d + 96) p3 ho false x
    have e1' : ev (d + 99) f_Ref_sets [vR 13 0, vR 43 0, vI x, vI 0] t1 = some (some (vI (losX n S false x).1), v) := e1
    obtain ⟨t, g1, g2, g3⟩ := ref_cnt (d := d) hn hs e2 (rP_or hn p5 e3) (rRow_or p6 e3) (fr_m (fr_t p7 (fr_m e3 (fun _ _ _ => Or.inl))) (fun _ _ _ => pAcR_BR)) (losX n S false x).1
    refine ⟨t, ?_, g2, fr_m g3 (fun _ _ _ => pBR_ref)⟩
    rw [Ref_catches_eq, p1, bV_s, e1', bI_s, g1, bI_s]
theorem s_forgets (ha : AOk ((R, C, kd), (n, S), (L, l), (T, sg), (u, U), K, (q, sq), nh, hq)) (hu : u ≤ 15) (x y : Int32) : GsS d f_Main_forgets f_Ref_forgets [vI x, vI y] ((R, C, kd), (n, S), (L, l), (T, sg), (u, U), K, (q, sq), nh, hq) k := by
  have ho : oOkS R C kd n S := ha.2.1
  have hn : n ≤ 4 := ho.1
  refine ⟨(frgX n S x y).1, _, AOk_S (l' := l) ha hu (frgX_ok (x := x) (y := y) ho) (frgX n S x y).1, fun s hs => ?_, fun s hs => ?_⟩
  · obtain ⟨v, e1, e2, e3⟩ := c_lose (d := d + 96) (CI_mark hs).2.1 ho x y
    obtain ⟨t, g1, g2, g3, _⟩ := cls_rem (d := d) hs e2 e3 (frgX n S x y).1
    refine ⟨t, ?_, g2, fr_m g3 (fun _ _ _ => pBC_cls)⟩
    rw [Main_forgets_eq, c_mark ha.1 hs.2.1 ho, bV_s, e1, bI_s, g1, bI_s]
  · obtain ⟨t1, p1, p2, p3, p4, p5, p6, p7⟩ := ref_puts (d := d) hn hs
    obtain ⟨v, e1, e2, e3⟩ := m_forgets (d := d + 96) p3 ho x y
    obtain ⟨t, g1, g2, g3⟩ := ref_cnt (d := d) hn hs e2 (rP_or hn p5 e3) (rRow_or p6 e3) (fr_m (fr_t p7 (fr_m e3 (fun _ _ _ => Or.inl))) (fun _ _ _ => pAcR_BR)) (frgX n S x y).1
    refine ⟨t, ?_, g2, fr_m g3 (fun _ _ _ => pBR_ref)⟩
    rw [Ref_forgets_eq, p1, bV_s, e1, bI_s, g1, bI_s]
/-- a push or a turn, told -/
def tolR (r : Int32) (l : List Int64) (S' : Sn) (x : Int32) : List Int64 := if r < 0 then l else [lN (S'.1 x.toNatClampNeg), lN (pc (S'.2.2.1 x.toNatClampNeg))]
theorem cls_looked (hG : gOk R C kd) (hs : CI s ((R, C, kd), (n, S), (L, l), (T, sg), (u, U), K, (q, sq), nh, hq)) (hO : cOS v 0 n S') (ho : oOkS R C kd n S') (hx : ¬ r < 0 → x_in x n = true) (f : fr (pOc 0) (wI (wL s 4 0 6 (lN (pck n S))) 4 0 7 S.2.2.2.2) v) :
    ∃ t, ev (d + 99) f_Main_looked [vR 0 0, vI x, vI r] v = some (some (vI r), t) ∧ CI t ((R, C, kd), (n, S'), (L, tolR r l S' x), (T, sg), undU r u U S, K, (q, sq), nh, hq) ∧ fr pBC s t := by
  have hn : n ≤ 4 := ho.1
  have b36 := gOk_36 hG
  obtain ⟨t, g1, g2, g3, g4⟩ := cls_rem (d := d) hs hO f r
  rw [Main_remembered_eq] at g1
  rw [Main_looked_eq]
  unfold tolR
  by_cases z : r < 0
  · rw [if_pos z] at g1 ⊢
    rw [if_pos z]
    cases g1
    exact ⟨v, rfl, g2, g3⟩
  · rw [if_neg z] at g1 ⊢
    obtain ⟨p, hp, rfl⟩ := (n_in_iff (by omega)).mp (hx z)
    obtain ⟨hF, _, hW, hV⟩ := ho.2.2.1 p hp
    cases hm : ev (d + 98) f_Memory_addMarked [vR 4 0] v with
    | none => rw [hm] at g1; cases g1
    | some o =>
      obtain ⟨o1, o2⟩ := o
      cases o1 with
      | some w => rw [hm] at g1; cases g1
      | none =>
        rw [hm, bV_s] at g1
        cases g1
        have hO2 : cOS t 0 n S' := g2.2.1
        have lp := pc_le (S'.2.2.1 p)
        obtain ⟨w, q1, q2, q3⟩ := n_tellTwo (d := d + 95) (s := t) (x := lN (S'.1 p)) (y := lN (pc (S'.2.2.1 p)))
        rw [bV_s, o_fieldOf hO2 hn hp, bI_s, o_viewsOf hO2 hn hp, bI_s, bc_s hV, bI_s, nI_l (by omega), nI_l (by omega), q1, bV_s, if_neg z, n_cl (by omega)]
        exact ⟨w, rfl, CI_q g2 (fr_m q3 (fun _ _ _ => pN_CQ)) q2, fr_t g3 (fr_m q3 (fun _ _ _ => pN_BC))⟩
theorem ref_told (hG : gOk R C kd) (hs : RI s ((R, C, kd), (n, S), (L, l), (T, sg), (u, U), K, (q, sq), nh, hq) k) (hO : rOS v 0 n S') (ho : oOkS R C kd n S') (hx : ¬ r < 0 → x_in x n = true) (hP : rP v n u U S) (hr : rRow v l) (f : fr pBR s v) :
    ∃ t, ev (d + 99) f_Ref_toldOf [vR 13 0, vI x, vI r] v = some (some (vI r), t) ∧ RI t ((R, C, kd), (n, S'), (L, tolR r l S' x), (T, sg), undU r u U S, K, (q, sq), nh, hq) (k + 1) ∧ fr pBR s t := by
  have hn : n ≤ 4 := ho.1
  have b36 := gOk_36 hG
  rw [Ref_toldOf_eq]
  unfold tolR
  by_cases z : r < 0
  · obtain ⟨t, g1, g2, g3⟩ := ref_cnt (d := d) hn hs hO hP hr f r
    have g1' : ev (d + 98) f_Ref_counted [vR 13 0, vI r] v = some (some (vI r), t) := by
      obtain ⟨t', k1, k2, k3⟩ := m_counted (d := d + 96) (x := r) hn hP
      rw [Ref_counted_eq, if_pos z] at g1 ⊢
      exact g1
    rw [if_pos z, if_pos z, g1', bI_s]
    exact ⟨t, rfl, g2, g3⟩
  · rw [if_neg z, if_neg z]
    obtain ⟨p, hp, rfl⟩ := (n_in_iff (by omega)).mp (hx z)
    obtain ⟨hF, _, hW, hV⟩ := ho.2.2.1 p hp
    have lp := pc_le (S'.2.2.1 p)
    obtain ⟨v1, v2, g1, g2, g3, g4, g5⟩ := m_ent2 (d + 97) v (lN (S'.1 p)) (lN (pc (S'.2.2.1 p)))
    have hO1 : rOS v1 0 n S' := rO_fr hO g2 (by simp [pT]) (by intro k; simp [pT])
    have hO2 : rOS v2 0 n S' := rO_fr hO g5 (by simp [pT]) (by intro k; simp [pT])
    have hP2 : rP v2 n u U S := rP_fr hn hP g5 (by simp [pT]) (by intro k; simp [pT])
    obtain ⟨t, k1, k2, k3⟩ := m_counted (d := d + 96) (x := r) hn hP2
    have f9 : fr pBR s t := fr_t (fr_t f (fr_m g5 (fun _ _ _ h => Or.inl (pT_RQ h)))) (fr_m k3 (fun c i k h => pAcR_BR (Or.inr (Or.inl h))))
    refine ⟨t, ?_, RI_gen hn hs f9 (rO_fr hO2 k3 (by simp [pAd]) (by intro k; simp [pAd])) ?_ k2, f9⟩
    · rw [in_t (show p < 17 by omega) (by omega), if_pos rfl, n_cl (by omega), (hO.2.1 p hp).1, nI_l (by omega), g1, bV_s, nl_8, nI_add, in_t (show 8 + p < 17 by omega) (by omega), if_pos rfl, n_cl (by omega), (hO1.2.2.1 p (by omega)).1, bc_s hV, bI_s, nI_l (by omega), g3, bV_s, k1, bI_s]
    · rw [n_cl (by omega)]
      exact rRow_fr g4 k3 (by simp [pAd]) (by intro k; simp [pAd])
theorem push_in (h : ¬ (pushX R C kd n L S x y).1 < 0) : x_in x n = true := by
  unfold pushX at h
  cases hx : x_in x n with
  | true => rfl
  | false => rw [hx] at h; exact absurd (show (-1 : Int32) < 0 by decide) h
theorem face_in (h : ¬ (faceX R C kd n L S x y).1 < 0) : x_in x n = true := by
  unfold faceX at h
  cases hx : x_in x n with
  | true => rfl
  | false => rw [hx] at h; exact absurd (show (-1 : Int32) < 0 by decide) h
theorem s_pushes (ha : AOk ((R, C, kd), (n, S), (L, l), (T, sg), (u, U), K, (q, sq), nh, hq)) (hu : u ≤ 15) (x y : Int32) : GsS d f_Main_pushes f_Ref_pushes [vI x, vI y] ((R, C, kd), (n, S), (L, l), (T, sg), (u, U), K, (q, sq), nh, hq) k := by
  have ho : oOkS R C kd n S := ha.2.1
  have hn : n ≤ 4 := ho.1
  have ho' : oOkS R C kd n (pushX R C kd n L S x y).2.1 := pushX_ok ha.1 ho
  refine ⟨(pushX R C kd n L S x y).1, _, AOk_S (l' := tolR (pushX R C kd n L S x y).1 l (pushX R C kd n L S x y).2.1 x) ha hu ho' (pushX R C kd n L S x y).1, fun s hs => ?_, fun s hs => ?_⟩
  · have hm := CI_mark hs
    obtain ⟨v, e1, e2, e3⟩ := c_shove (d := d + 94) hm.1 hm.2.1 ho hm.2.2.1 ha.2.2.1 x y
    obtain ⟨t, g1, g2, g3⟩ := cls_looked (d := d) (x := x) (r := (pushX R C kd n L S x y).1) ha.1 hs e2 ho' push_in e3
    refine ⟨t, ?_, g2, fr_m g3 (fun _ _ _ => pBC_cls)⟩
    rw [Main_pushes_eq, c_mark ha.1 hs.2.1 ho, bV_s, e1, bI_s, g1, bI_s]
  · obtain ⟨t1, p1, p2, p3, p4, p5, p6, p7⟩ := ref_puts (d := d) hn hs
    obtain ⟨v, e1, e2, e3, _⟩ := m_push (d := d + 92) p2 p3 ho p4 ha.2.2.1 x y
    obtain ⟨t, g1, g2, g3⟩ := ref_told (d := d) (x := x) (r := (pushX R C kd n L S x y).1) ha.1 hs e2 ho' push_in (rP_or hn p5 e3) (rRow_or p6 e3) (fr_m (fr_t p7 (fr_m e3 (fun _ _ _ => Or.inl))) (fun _ _ _ => pAcR_BR))
    refine ⟨t, ?_, g2, fr_m g3 (fun _ _ _ => pBR_ref)⟩
    rw [Ref_pushes_eq, p1, bV_s, e1, bI_s, g1, bI_s]
theorem s_faces (ha : AOk ((R, C, kd), (n, S), (L, l), (T, sg), (u, U), K, (q, sq), nh, hq)) (hu : u ≤ 15) (x y : Int32) : GsS d f_Main_faces f_Ref_faces [vI x, vI y] ((R, C, kd), (n, S), (L, l), (T, sg), (u, U), K, (q, sq), nh, hq) k := by
  have ho : oOkS R C kd n S := ha.2.1
  have hn : n ≤ 4 := ho.1
  have ho' : oOkS R C kd n (faceX R C kd n L S x y).2 := faceX_ok ha.1 ho
  refine ⟨(faceX R C kd n L S x y).1, _, AOk_S (l' := tolR (faceX R C kd n L S x y).1 l (faceX R C kd n L S x y).2 x) ha hu ho' (faceX R C kd n L S x y).1, fun s hs => ?_, fun s hs => ?_⟩
  · have hm := CI_mark hs
    obtain ⟨v, e1, e2, e3⟩ := c_turn (d := d + 94) hm.1 hm.2.1 ho hm.2.2.1 ha.2.2.1 x y
    obtain ⟨t, g1, g2, g3⟩ := cls_looked (d := d) (x := x) (r := (faceX R C kd n L S x y).1) ha.1 hs e2 ho' face_in e3
    refine ⟨t, ?_, g2, fr_m g3 (fun _ _ _ => pBC_cls)⟩
    rw [Main_faces_eq, c_mark ha.1 hs.2.1 ho, bV_s, e1, bI_s, g1, bI_s]
  · obtain ⟨t1, p1, p2, p3, p4, p5, p6, p7⟩ := ref_puts (d := d) hn hs
    obtain ⟨v, e1, e2, e3⟩ := m_turn (d := d + 93) p2 p3 ho p4 ha.2.2.1 x y
    obtain ⟨t, g1, g2, g3⟩ := ref_told (d := d) (x := x) (r := (faceX R C kd n L S x y).1) ha.1 hs e2 ho' face_in (rP_or hn p5 e3) (rRow_or p6 e3) (fr_m (fr_t p7 (fr_m e3 (fun _ _ _ => Or.inl))) (fun _ _ _ => pAcR_BR))
    refine ⟨t, ?_, g2, fr_m g3 (fun _ _ _ => pBR_ref)⟩
    rw [Ref_faces_eq, p1, bV_s, e1, bI_s, g1, bI_s]
end ACTS

/-! What both hold, and what a call makes of it. -/
section STEP
def cT (s : xS) (T : Nat) (g : Nat → Nat) : Prop := s.1 1 0 1 = nI T ∧ ∀ k, k < T → s.1 14 0 k = nI (g k)
def rT (s : xS) (T : Nat) (g : Nat → Nat) : Prop := s.1 13 0 11 = nI T ∧ ∀ k, k < T → s.1 44 0 k = nI (g k)
def tOk (T : Nat) (g : Nat → Nat) : Prop := T ≤ 80 ∧ ∀ k, k < T → g k < 256
theorem cT_fr {p : Nat → Nat → Nat → Prop} {s t : xS} {T : Nat} {g : Nat → Nat} (h : cT s T g) (f : fr p s t) (h1 : ¬ p 1 0 1) (h2 : ∀ k, ¬ p 14 0 k) : cT t T g :=
  ⟨by rw [(f _ _ _ h1).1]; exact h.1, fun k hk => by rw [(f _ _ _ (h2 _)).1]; exact h.2 k hk⟩
theorem rT_fr {p : Nat → Nat → Nat → Prop} {s t : xS} {T : Nat} {g : Nat → Nat} (h : rT s T g) (f : fr p s t) (h1 : ¬ p 13 0 11) (h2 : ∀ k, ¬ p 44 0 k) : rT t T g :=
  ⟨by rw [(f _ _ _ h1).1]; exact h.1, fun k hk => by rw [(f _ _ _ (h2 _)).1]; exact h.2 k hk⟩
abbrev Ab : Type := (Nat × Nat × (Nat → Nat)) × (Nat × Sn) × (List Nat × List Int64) × (Nat × (Nat → Nat)) × (Nat × (Nat → Sn)) × (Nat → Option Sn) × (Nat × (Nat → Nat × Nat × Nat)) × (Nat × (Nat → Nat × Nat))
def AOk (a : Ab) : Prop := gOk a.1.1 a.1.2.1 a.1.2.2 ∧ oOkS a.1.1 a.1.2.1 a.1.2.2 a.2.1.1 a.2.1.2 ∧ wfL (ruL a.2.2.1.1) 0 ∧ tOk a.2.2.2.1.1 a.2.2.2.1.2 ∧ (∀ i, i < a.2.2.2.2.1.1 → oOkS a.1.1 a.1.2.1 a.1.2.2 a.2.1.1 (a.2.2.2.2.1.2 i)) ∧ (∀ i S, i < 3 → a.2.2.2.2.2.1 i = some S → oOkS a.1.1 a.1.2.1 a.1.2.2 a.2.1.1 S) ∧ sOk a.2.2.2.2.2.2.1.1 a.2.2.2.2.2.2.1.2 ∧ hOk a.2.2.2.2.2.2.2.1 a.2.2.2.2.2.2.2.2
def CI (s : xS) (a : Ab) : Prop := cG s a.1.1 a.1.2.1 a.1.2.2 ∧ cOS s 0 a.2.1.1 a.2.1.2 ∧ cR s 0 (ruL a.2.2.1.1) ∧ cRow s a.2.2.1.2 ∧ cT s a.2.2.2.1.1 a.2.2.2.1.2 ∧ cU s a.2.1.1 a.2.2.2.2.1.1 a.2.2.2.2.1.2 ∧ cK s a.2.1.1 a.2.2.2.2.2.1 ∧ cS s a.2.2.2.2.2.2.1.1 a.2.2.2.2.2.2.1.2 ∧ cH s a.2.2.2.2.2.2.2.1 a.2.2.2.2.2.2.2.2
def RI (s : xS) (a : Ab) (k : Nat) : Prop := rG s a.1.1 a.1.2.1 a.1.2.2 ∧ rOS s 0 a.2.1.1 a.2.1.2 ∧ rR s a.2.2.1.1 ∧ rRow s a.2.2.1.2 ∧ s.1 13 0 38 = -1 ∧ rT s a.2.2.2.1.1 a.2.2.2.1.2 ∧ rU s a.2.1.1 a.2.2.2.2.1.1 a.2.2.2.2.1.2 ∧ (∃ ch, ch ≤ k ∧ rK s a.2.1.1 ch a.2.2.2.2.2.1) ∧ rS s a.2.2.2.2.2.2.1.1 a.2.2.2.2.2.2.1.2 ∧ rH s a.2.2.2.2.2.2.2.1 a.2.2.2.2.2.2.2.2
def pCls (c _i _k : Nat) : Prop := c ≤ 12 ∨ (14 ≤ c ∧ c ≤ 40)
def pRef (c _i _k : Nat) : Prop := c = 13 ∨ 41 ≤ c
def pBC (c i k : Nat) : Prop := pCQ c i k ∨ c = 3 ∨ c = 17 ∨ c = 18 ∨ c = 19 ∨ c = 20 ∨ c = 21 ∨ (c = 4 ∧ k = 4)
def pBR (c i k : Nat) : Prop := pRQ c i k ∨ c = 43 ∨ c = 50 ∨ (c = 13 ∧ k = 26)
theorem pBC_cls {c i k : Nat} (h : pBC c i k) : pCls c i k := by unfold pBC pCQ at h; unfold pCls; omega
theorem pBR_ref {c i k : Nat} (h : pBR c i k) : pRef c i k := by unfold pBR pRQ at h; unfold pRef; omega
/-- a call: both answer alike, and hold what belongs to one state -/
def GsS (d : Nat) (fc fm : Nat) (as : List xV) (a : Ab) (k : Nat) : Prop := ∃ r a', AOk a' ∧ (∀ s, CI s a → ∃ t, ev (d + 100) fc (vR 0 0 :: as) s = some (some (vI r), t) ∧ CI t a' ∧ fr pCls s t) ∧ (∀ s, RI s a k → ∃ t, ev (d + 100) fm (vR 13 0 :: as) s = some (some (vI r), t) ∧ RI t a' (k + 1) ∧ fr pRef s t)
variable {d fc fm k : Nat} {as : List xV} {R C n T u q nh : Nat} {kd : Nat → Nat} {S S' : Sn} {L : List Nat} {l l' : List Int64} {sg : Nat → Nat} {U U' : Nat → Sn} {K : Nat → Option Sn} {sq : Nat → Nat × Nat × Nat} {hq : Nat → Nat × Nat} {s t : xS} {a : Ab} {u' : Nat}
theorem CI_gen (h : CI s ((R, C, kd), (n, S), (L, l), (T, sg), (u, U), K, (q, sq), nh, hq)) (f : fr pBC s t) (h1 : cOS t 0 n S') (h2 : cRow t l') (h3 : cU t n u' U') : CI t ((R, C, kd), (n, S'), (L, l'), (T, sg), (u', U'), K, (q, sq), nh, hq) := by
  obtain ⟨a1, a2, a3, a4, a5, a6, a7, a8, a9⟩ := h
  exact ⟨cG_fr a1 f (by intro k; simp [pBC, pCQ]) (by intro k; simp [pBC, pCQ]) (by intro k; simp [pBC, pCQ]), h1, cR_fr a3 f (by simp [pBC, pCQ]) (by intro k; simp [pBC, pCQ]), h2, cT_fr a5 f (by simp [pBC, pCQ]) (by intro k; simp [pBC, pCQ]), h3, cK_fr a7 f (by simp [pBC, pCQ]) (by intro k; simp [pBC, pCQ]) (by intro k; simp [pBC, pCQ]), cS_fr a8 f (by simp [pBC, pCQ]) (by intro k; simp [pBC, pCQ]), cH_fr a9 f (by simp [pBC, pCQ]) (by intro k; simp [pBC, pCQ])⟩
theorem RI_gen (hn : n ≤ 4) (h : RI s ((R, C, kd), (n, S), (L, l), (T, sg), (u, U), K, (q, sq), nh, hq) k) (f : fr pBR s t) (h1 : rOS t 0 n S') (h2 : rRow t l') (h3 : rU t n u' U') : RI t ((R, C, kd), (n, S'), (L, l'), (T, sg), (u', U'), K, (q, sq), nh, hq) (k + 1) := by
  obtain ⟨a1, a2, a3, a4, a5, a6, a7, ⟨ch, c1, c2⟩, a8, a9⟩ := h
  exact ⟨rG_fr a1 f (by simp [pBR, pRQ]) (by simp [pBR, pRQ]) (by intro k; simp [pBR, pRQ]), h1, rR_fr a3 f (by simp [pBR, pRQ]) (by intro k; simp [pBR, pRQ]), h2, by rw [(f 13 0 38 (by simp [pBR, pRQ])).1]; exact a5, rT_fr a6 f (by simp [pBR, pRQ]) (by intro k; simp [pBR, pRQ]), h3, ⟨ch, by omega, rK_fr hn c2 f (by simp [pBR, pRQ]) (by intro k; simp [pBR, pRQ]) (by intro k; simp [pBR, pRQ]) (by intro k; simp [pBR, pRQ])⟩, rS_fr a8 f (by simp [pBR, pRQ]) (by intro k; simp [pBR, pRQ]) (by intro k; simp [pBR, pRQ]) (by intro k; simp [pBR, pRQ]), rH_fr a9 f (by simp [pBR, pRQ]) (by intro k; simp [pBR, pRQ]) (by intro k; simp [pBR, pRQ])⟩
theorem CI_q (h : CI s ((R, C, kd), (n, S), (L, l), (T, sg), (u, U), K, (q, sq), nh, hq)) (f : fr pCQ s t) (h2 : cRow t l') : CI t ((R, C, kd), (n, S), (L, l'), (T, sg), (u, U), K, (q, sq), nh, hq) :=
  CI_gen h (fr_m f (fun _ _ _ => Or.inl)) (cO_fr h.2.1 f (by intro k; simp [pCQ]) (by intro k; simp [pCQ]) (by intro k; simp [pCQ]) (by intro k; simp [pCQ])) h2 (cU_fr h.2.2.2.2.2.1 f (by simp [pCQ]) (by intro k; simp [pCQ]) (by intro k; simp [pCQ]))
theorem RI_q (hn : n ≤ 4) (h : RI s ((R, C, kd), (n, S), (L, l), (T, sg), (u, U), K, (q, sq), nh, hq) k) (f : fr pRQ s t) (h2 : rRow t l') : RI t ((R, C, kd), (n, S), (L, l'), (T, sg), (u, U), K, (q, sq), nh, hq) (k + 1) :=
  RI_gen hn h (fr_m f (fun _ _ _ => Or.inl)) (rO_fr h.2.1 f (by simp [pRQ]) (by intro k; simp [pRQ])) h2 (rU_fr hn h.2.2.2.2.2.2.1 f (by simp [pRQ]) (by intro k; simp [pRQ]))
theorem CI_CQ (h : CI s ((R, C, kd), (n, S), (L, l), (T, sg), (u, U), K, (q, sq), nh, hq)) : CQ s R C kd n S.1 S.2.1 S.2.2.1 S.2.2.2.1 S.2.2.2.2 L l := ⟨h.1, h.2.1, h.2.2.1, h.2.2.2.1⟩
theorem RI_RQ (h : RI s ((R, C, kd), (n, S), (L, l), (T, sg), (u, U), K, (q, sq), nh, hq) k) : RQ s R C kd n S.1 S.2.1 S.2.2.1 S.2.2.2.1 S.2.2.2.2 L l := ⟨h.1, h.2.1, h.2.2.1, h.2.2.2.1, h.2.2.2.2.1⟩
/-- a question -/
theorem GsS_q (ha : AOk ((R, C, kd), (n, S), (L, l), (T, sg), (u, U), K, (q, sq), nh, hq)) {d : Nat}
    (hh : ∃ r l', (∀ s, CQ s R C kd n S.1 S.2.1 S.2.2.1 S.2.2.2.1 S.2.2.2.2 L l → cS s q sq → cH s nh hq → QC s (ev (d + 100) fc (vR 0 0 :: as) s) r l') ∧ (∀ s, RQ s R C kd n S.1 S.2.1 S.2.2.1 S.2.2.2.1 S.2.2.2.2 L l → rS s q sq → rH s nh hq → QR s (ev (d + 100) fm (vR 13 0 :: as) s) r l')) : GsS d fc fm as ((R, C, kd), (n, S), (L, l), (T, sg), (u, U), K, (q, sq), nh, hq) k := by
  obtain ⟨r, l', h1, h2⟩ := hh
  have hn : n ≤ 4 := ha.2.1.1
  refine ⟨r, ((R, C, kd), (n, S), (L, l'), (T, sg), (u, U), K, (q, sq), nh, hq), ha, fun s hs => ?_, fun s hs => ?_⟩
  · obtain ⟨t, e1, e2, e3⟩ := h1 s (CI_CQ hs) hs.2.2.2.2.2.2.2.1 hs.2.2.2.2.2.2.2.2
    exact ⟨t, e1, CI_q hs e3 e2, fr_m e3 (fun _ _ _ h => pBC_cls (Or.inl h))⟩
  · obtain ⟨t, e1, e2, e3⟩ := h2 s (RI_RQ hs) hs.2.2.2.2.2.2.2.2.1 hs.2.2.2.2.2.2.2.2.2
    exact ⟨t, e1, RI_q hn hs e3 e2, fr_m e3 (fun _ _ _ h => pBR_ref (Or.inl h))⟩
def pAct (c i k : Nat) : Prop := pOc 0 c i k ∨ pM c i k
theorem pAct_BC {c i k : Nat} (h : pAct c i k) : pBC c i k := by
  unfold pAct pOc pM pE at h
  rcases h with ((rfl | rfl | ⟨rfl, rfl⟩) | ⟨rfl | rfl | rfl, rfl⟩ | ⟨rfl, rfl, _⟩ | ⟨rfl, rfl | rfl⟩) | rfl | rfl | ⟨rfl, rfl | rfl | rfl⟩ <;> simp [pBC, pCQ]
def pAcR (c i k : Nat) : Prop := pOr 0 c i k ∨ pAd c i k ∨ (c = 13 ∧ k = 0)
theorem pAcR_BR {c i k : Nat} (h : pAcR c i k) : pBR c i k := by
  unfold pAcR pOr pAd pF at h
  rcases h with ((rfl | rfl | ⟨rfl, rfl | rfl⟩) | ⟨rfl, rfl⟩ | ⟨rfl, rfl | rfl⟩) | (rfl | ⟨rfl, rfl⟩) | ⟨rfl, rfl⟩ <;> simp [pBR, pRQ]
/-- marked: what the class does ahead of an act -/
theorem CI_mark {S : Sn} (h : CI s ((R, C, kd), (n, S), (L, l), (T, sg), (u, U), K, (q, sq), nh, hq)) : CI (wI (wL s 4 0 6 (lN (pck n S))) 4 0 7 S.2.2.2.2) ((R, C, kd), (n, S), (L, l), (T, sg), (u, U), K, (q, sq), nh, hq) :=
  CI_q h (fr_wI (fr_wL (fr_r _ _) (by simp [pCQ])) (by simp [pCQ])) (cRow_fr (p := fun c _ _ => c = 4) h.2.2.2.1 (fr_wI (fr_wL (fr_r _ _) rfl) rfl) (by omega) (by omega))
theorem undU_ok {x : Int32} (h1 : ∀ i, i < u → oOkS R C kd n (U i)) (h2 : oOkS R C kd n S) (hu : u ≤ 15) : ∀ i, i < (undU x u U S).1 → oOkS R C kd n ((undU x u U S).2 i) := by
  unfold undU
  by_cases z : x < 0
  · rw [if_pos z]; exact h1
  · rw [if_neg z]
    unfold addU
    by_cases e : u = 15
    · rw [if_pos e]
      intro i hi
      have hi : i < 15 := hi
      show oOkS R C kd n (if i = 14 then S else U (i + 1))
      by_cases ei : i = 14
      · rw [if_pos ei]; exact h2
      · rw [if_neg ei]; exact h1 _ (by omega)
    · rw [if_neg e]
      intro i hi
      have hi : i < u + 1 := hi
      show oOkS R C kd n (up U u S i)
      by_cases ei : i = u
      · rw [ei, up_s]; exact h2
      · rw [up_n ei]; exact h1 _ (by omega)
end STEP

/-! The whole run. -/
section SNDG
theorem x_step_find {K : Nat → Option xT} {M : xM} {pc : Nat} {ls : xLs} {st : List xV} {t : xS} {r : xR} (h : x_step K M (pc, ls, st, t) = some r) : ∃ q, x_find M.2.2.2 pc = some q := by
  cases hf : x_find M.2.2.2 pc with
  | none => unfold x_step at h; simp only [hf] at h; cases h
  | some q => exact ⟨q, rfl⟩
theorem x_sw_P {WC : xC → Prop} {x : Int32} {c : xC} {k : xC → Option xO} {out : xO} (hk : ∀ c, k c = some out → WC c) : ∀ {ts : List (Int32 × xC)}, x_sw x ts c k = some out → x_swP x ts c WC
  | [], h => hk _ h
  | q :: r, h => by
    unfold x_sw at h
    by_cases e : x = q.1
    · rw [if_pos e] at h
      exact ⟨fun _ => hk _ h, fun z => absurd e z⟩
    · rw [if_neg e] at h
      exact ⟨fun z => absurd z e, fun _ => x_sw_P hk h⟩
theorem x_ob_P {WC : xC → Prop} {o : Option xC} {k : xC → Option xO} {out : xO} (hk : ∀ c, k c = some out → WC c) (h : x_ob o k = some out) : x_obP o WC := by
  cases o with
  | none => cases h
  | some c => exact hk c h
theorem x_br_P {op : Nat} {x y : Int32} {n : Nat} {z : Int64} {A B : Option xO} {PA PB : Prop} {out : xO} (hA : A = some out → PA) (hB : B = some out → PB) (h : x_br op x y n z A B = some out) : x_brP op x y n z PA PB := by
  unfold x_br at h
  unfold x_brP
  split at h
  · by_cases e : x = y
    · rw [if_pos e] at h; exact ⟨fun _ => hA h, fun q => absurd e q⟩
    · rw [if_neg e] at h; exact ⟨fun q => absurd q e, fun _ => hB h⟩
  · by_cases e : x < y
    · rw [if_pos e] at h; exact ⟨fun _ => hA h, fun q => absurd e q⟩
    · rw [if_neg e] at h; exact ⟨fun q => absurd q e, fun _ => hB h⟩
  · by_cases e : x_in x n = true
    · rw [if_pos e] at h; exact ⟨fun _ => hA h, fun q => absurd e q⟩
    · rw [if_neg e] at h; exact ⟨fun q => absurd q e, fun _ => hB h⟩
  · next h0 h1 h2 =>
    have g : (z = 0 → PA) ∧ (¬ z = 0 → PB) := by
      by_cases e : z = 0
      · rw [if_pos e] at h; exact ⟨fun _ => hA h, fun q => absurd e q⟩
      · rw [if_neg e] at h; exact ⟨fun q => absurd q e, fun _ => hB h⟩
    split
    · exact absurd rfl h0
    · exact absurd rfl h1
    · exact absurd rfl h2
    · exact g
set_option maxHeartbeats 4000000 in
/-- a method's contract, out of its run -/
theorem x_met {l : Launch} {K : Nat → Option xT} {cA : Nat → ClassId} {ad : Nat → Nat → Nat} {Cl : List (Nat × Nat)} {D : va_G} {cl : List vw_C} {A : Nat → Prop} {tys : List (ClassId × FieldType)} {Ts : List Cond} {P : xP} {N : xN} {EX : State → Prop} {M : xM} {o : Nat} {y : MethodName} {cc : ByteArray} {ret : Option FieldType} {np : Nat} {stc : Bool} {d : Nat} {as : List xV} {t : xS} {out : xO}
    (hM : x_Mok Ts P N cl M o y cc ret np stc) (hl : (x_ent as).length ≤ M.1) (hv : x_vs K Cl as)
    (ih : ∀ {p : Program} {e : Env} {R : Room} {s : State} {m : MethodId} {args : Array Value} {below : List Frame} {meth : Method} {cd : Code}, p.tables.exec = Jvm.exec → cd.code = cc → cd.maxLocals = M.1 → s.vm.findClass (N.nm o) = some m.cls → (∀ w ∈ Ts, w.before args s = true) → meth.sig.returnType = ret → meth.locks = false → va_K D cl tys s → EX s → d ≤ R.frames → 41 * d ≤ R.locals →
      x_Wc p l e R s m args below meth cd (MQ below (x_Qc D cl K cA ad Cl A out) args s 0 0 A) K cA ad Cl D cl A M.1 (x_st0 M as t)) :
    Met l y (Cond.code y cc M.1 ret :: Ts) (x_rm d) (x_Pc D cl tys K cA ad Cl EX as t) (x_Qc D cl K cA ad Cl A out) 0 0 A := by
  refine va_MetF (cc := cc) (maxL := M.1) (ret := ret) hM.2.2.2.1 rfl ?_
  intro p e s m args below meth c s₁ B hml hp
  obtain ⟨rfl, hP, hK, hE⟩ := hp
  have hts := atoms_spec (ws := Cond.code y cc M.1 ret :: Ts) B.pre
  have hown : s.vm.findClass (N.nm o) = some m.cls := by rw [← hM.2.2.1]; exact findClass_of_methodNamed B.named
  rw [lg_entry_eq]
  refine ih B.exec B.bytes hml hown (fun w hw => hts w (List.mem_cons_of_mem _ hw)) B.returns B.notSynchronized hK hE (Nat.le_refl _) (Nat.le_refl _) _ _ _ (x_has_ent hl) ?_ ?_ hP va_S.rf
  · intro i v e
    exact hv v (x_ent_args (ad := ad) as 0 i v (x_pad_get e)).2
  · intro v hv; cases hv
set_option maxHeartbeats 4000000 in
set_option maxRecDepth 100000 in
theorem x_sound {l : Launch} {K : Nat → Option xT} {cA : Nat → ClassId} {ad : Nat → Nat → Nat} {Cl : List (Nat × Nat)} {D : va_G} {cl : List vw_C} {A : Nat → Prop} {tys : List (ClassId × FieldType)} {Ts Nw : List Cond} {P : xP} {N : xN} {EX : State → Prop}
    (htys : tys = [(cA 0, .int), (cA 1, .long), (cA 2, .boolean)]) (hD : ∀ t : xS, va_D A (x_ws K cA ad t Cl)) (F : x_Fx Ts Nw N K cl Cl) (G : x_Fm Ts Nw P N cl) (E0 : ∀ s, EX s → ∀ w ∈ Nw, va_Nw w s) (E1 : x_EXm EX A) (E2 : x_EXe l EX Ts K ad A N) (E3 : x_EXb l EX Ts P K cA ad Cl D cl tys A N) :
    ∀ (n d : Nat) {M : xM} {o : Nat} {y : MethodName} {cc : ByteArray} {ret : Option FieldType} {np : Nat} {stc : Bool}, x_Mok Ts P N cl M o y cc ret np stc → ∀ {cf : xC} {out : xO}, x_run K P n d M cf = some out →
    ∀ {p : Program} {e : Env} {R : Room} {s : State} {m : MethodId} {args : Array Value} {below : List Frame} {meth : Method} {cd : Code}, p.tables.exec = Jvm.exec → cd.code = cc → cd.maxLocals = M.1 → s.vm.findClass (N.nm o) = some m.cls → (∀ w ∈ Ts, w.before args s = true) → meth.sig.returnType = ret → meth.locks = false → va_K D cl tys s → EX s → d ≤ R.frames → 41 * d ≤ R.locals →
      x_Wc p l e R s m args below meth cd (MQ below (x_Qc D cl K cA ad Cl A out) args s 0 0 A) K cA ad Cl D cl A M.1 cf := by
  intro n
  induction n with
  | zero => intro d M o y cc ret np stc hM cf out h; cases h
  | succ n ih =>
    intro d M o y cc ret np stc hM cf out h p e R s m args below meth cd hx hb hml hown hts hr hlocks hK hE hR1 hR2
    obtain ⟨pc, ls, st, t⟩ := cf
    unfold x_run at h
    cases hst : x_step K M (pc, ls, st, t) with
    | none => rw [hst] at h; cases h
    | some r =>
      rw [hst] at h
      obtain ⟨⟨ins, nx, a, b, v, ts⟩, hf⟩ := x_step_find hst
      obtain ⟨hdg, hok⟩ := hM.2.2.2.2.2.2.2.2.1 _ (x_find_mem hf)
      have WC : ∀ c : xC, x_run K P n d M c = some out → x_Wc p l e R s m args below meth cd (MQ below (x_Qc D cl K cA ad Cl A out) args s 0 0 A) K cA ad Cl D cl A M.1 c := fun c hc => ih d hM hc hx hb hml hown hts hr hlocks hK hE hR1 hR2
      refine x_step_snd (CALL := fun _ _ _ _ => True) hx hb hml hown hts hr hlocks hK htys hD F (E0 s hE) hM.2.2.2.2.2.2.2.2.2 (E2 p e R s m args below meth cd _ o cc hE hx hb hown hts) hf hdg hok ?_ hst ?_
      · intro f as rk c hre hinfo
        subst hre
        obtain ⟨st', nn, rfl, rfl, hcat, rfl, hlen, rfl, hins⟩ := hinfo
        dsimp only at h
        cases d with
        | zero => cases h
        | succ d' =>
          obtain ⟨w, c', hcall, hpsh, hrest⟩ := x_bnd_some h
          have hrest := WC c' hrest
          obtain ⟨rfl, hwv⟩ := x_psh_val hpsh
          intro LS H locs h1 h2 h3 h4 h5
          have hvas : x_vs K Cl as := fun u hu => h3 u (List.mem_append_left _ (List.mem_reverse.mpr hu))
          have hvst : x_vs K Cl st' := fun u hu => h3 u (List.mem_append_right _ hu)
          have hkk : ∀ (H1 : Heap) (locs1 : List Loc), va_P D cl (x_ws K cA ad w.2 Cl) H1 → va_S A s.heap H1 locs1 → W p l e R s m args below meth cd H1 locs1 0 0 (MQ below (x_Qc D cl K cA ad Cl A out) args s 0 0 A) (F0 m nx LS ((w.1.map (x_val ad)).toList ++ st'.map (x_val ad))) := by
            intro H1 locs1 g1 g2
            have z := hrest LS H1 locs1 (x_has_kill h1 _) (x_vl_kill h2 _) (fun u hu => (List.mem_append.mp hu).elim (fun q => hwv u q K Cl) (hvst u)) g1 g2
            have e1 : (w.1.map (x_val ad)).toList ++ st'.map (x_val ad) = (w.1.toList ++ st').map (x_val ad) := by
              rw [List.map_append]; cases w.1 <;> rfl
            rw [e1]
            exact z
          have hsum : ((st'.map (x_val ad)).map fun v => v.category).sum ≤ 8 := by rw [x_cat_sum]; exact hcat
          have hstk : ((as.reverse ++ st').map (x_val ad)) = (as.map (x_val ad)).reverse ++ st'.map (x_val ad) := by rw [List.map_append, List.map_reverse]
          show W p l e R s m args below meth cd H locs 0 0 _ (F0 m pc LS ((as.reverse ++ st').map (x_val ad)))
          have hnx : nx = pc + 3 ∧ ((∃ i, ins = .invokestatic i ∧ N.lm o i = some f) ∨ ∃ i, ins = .invokevirtual i ∧ N.lm o i = some f) := by
            rcases hins with ⟨i, rfl⟩ | ⟨i, _, _, _, rfl, _, _⟩
            · simp only [x_ok, Bool.and_eq_true, decide_eq_true_eq] at hok
              exact ⟨hok.1.1, Or.inl ⟨i, rfl, hok.1.2⟩⟩
            · simp only [x_ok, Bool.and_eq_true, decide_eq_true_eq] at hok
              exact ⟨hok.1.1, Or.inr ⟨i, rfl, hok.1.2⟩⟩
          obtain ⟨hnx, hlm⟩ := hnx
          subst hnx
          rw [show pc + 3 - pc = 3 by omega] at hdg
          split at hcall
          · next g hPg =>
            obtain ⟨hd8, hg⟩ := x_bg_some.mp hcall
            rw [List.map_append]
            have hkd := List.all_eq_true.mp hM.2.2.2.2.2.1.1.2 _ (x_find_mem hf)
            rcases hlm with ⟨i, rfl, hlm⟩ | ⟨i, rfl, hlm⟩
            · simp only [x_kdB, Bool.and_eq_true, Bool.not_eq_true'] at hkd
              exact E3 p e R s m args below meth cd _ o cc hE hx hb hown hts hK f g as t w pc i hPg hlm hg hvas (Or.inl ⟨hdg, fun z => by rw [z] at hkd; exact absurd hkd.1 (by decide), fun z => by rw [z] at hkd; exact absurd hkd.2 (by decide)⟩) (by omega) (by omega) LS H locs _ (by rw [h1.1, hml]) hsum h4 h5 hkk
            · simp only [x_kdB, Bool.not_eq_true'] at hkd
              exact E3 p e R s m args below meth cd _ o cc hE hx hb hown hts hK f g as t w pc i hPg hlm hg hvas (Or.inr ⟨hdg, fun z => by rw [z] at hkd; exact absurd hkd (by decide)⟩) (by omega) (by omega) LS H locs _ (by rw [h1.1, hml]) hsum h4 h5 hkk
          · next M' hPM =>
            obtain ⟨hl, hg⟩ := x_gd_some.mp hcall
            obtain ⟨o', y', cc', ret', np', stc', hinf, hM'⟩ := G.2.1 f M' hPM
            have hMet := x_met (l := l) (D := D) (tys := tys) (A := A) (EX := EX) (cA := cA) (ad := ad) (K := K) (Cl := Cl) (d := d') hM' hl hvas (fun a1 a2 a3 a4 a5 a6 a7 a8 a9 a10 a11 => ih d' hM' hg a1 a2 a3 a4 a5 a6 a7 a8 a9 a10 a11)
            have hG : GoodIn Ts (Cond.code y' cc' M'.1 ret' :: Ts) := fun z hz => (List.mem_cons.mp hz).elim (fun q => by rw [q]; exact ⟨hM'.1, G.1 _ hM'.1⟩) (fun q => ⟨q, G.1 _ q⟩)
            have hbl : FrameBlind (x_Pc D cl tys K cA ad Cl EX as t) := fun a' U g' mk q => ⟨q.1, q.2.1, va_K.moved (u := U) (U := U.calling g' mk a') (Vm.Alike.refl U.vm) q.2.2.1, E1 U (U.calling g' mk a') q.2.2.2 (Or.inr rfl) (Nat.le_refl _) (fun _ _ _ => rfl)⟩
            have hroom : (x_rm d').frames + 1 ≤ R.frames ∧ 8 + (M'.1 + 11) + (x_rm d').locals ≤ R.locals := ⟨hR1, by have := hM'.2.2.2.2.2.1.1.1; show 8 + (M'.1 + 11) + 41 * d' ≤ R.locals; omega⟩
            have hini := hts _ hM'.2.1
            have hpre : ∀ U : State, U.heap = H → s.WarmedH U.vm → x_Pc D cl tys K cA ad Cl EX as t (as.map (x_val ad)).toArray U := fun U hU hW => ⟨rfl, by rw [hU]; exact h4, va_K.moved hW.alike hK, E1 s U hE (Or.inl hW) (by rw [hU]; exact h5.1) (fun q z1 z2 => by rw [hU]; exact h5.2.1 q z1 z2)⟩
            have hlink := G.2.2.2 o
            rw [hstk]
            rcases hlm with ⟨i, rfl, hlm⟩ | ⟨i, rfl, hlm⟩
            · simp only [x_ok, hinf, Bool.and_eq_true, decide_eq_true_eq] at hok
              obtain ⟨-, hstc, hnp⟩ := hok
              have hst := hts _ (hM'.2.2.2.2.2.2.1 hstc)
              rcases hlink i f _ _ _ _ _ _ hlm hinf with hlk | ⟨-, host, hlk⟩
              · have hcb := callB_of (R := R) (mc := 0) (ms := 0) np' hts hG rfl rfl rfl hini (hts _ hlk) hM'.2.2.2.2.1 hroom
                exact x_call (va_runS (As := as.map (x_val ad)) (rest := st'.map (x_val ad)) ⟨hx, hb, hml, hown, hts⟩ hMet ⟨hcb, hst⟩ ⟨hbl, hpre⟩ rfl (by rw [List.length_map, hlen]; exact hnp) h1.1 rfl (lv_room hsum) hdg ⟨Nat.zero_le _, Nat.zero_le _⟩) h5 hkk
              · have hcb := va_cnB (R := R) (mc := 0) (ms := 0) np' hts hG rfl rfl rfl (E0 s hE _ hlk) hini hM'.2.2.2.2.1 hroom
                exact x_call (va_runSN (As := as.map (x_val ad)) (rest := st'.map (x_val ad)) ⟨hx, hb, hml, hown, hts⟩ hMet ⟨hcb, hst, trivial⟩ ⟨hbl, hpre⟩ rfl (by rw [List.length_map, hlen]; exact hnp) h1.1 rfl (lv_room hsum) hdg ⟨Nat.zero_le _, Nat.zero_le _⟩) h5 hkk
            · simp only [x_ok, hinf, Bool.and_eq_true, decide_eq_true_eq, Bool.not_eq_true'] at hok
              obtain ⟨-, ⟨hob, hstc⟩, hnp⟩ := hok
              subst hob
              obtain ⟨hinm, hsel, T', n', hclo⟩ := hM'.2.2.2.2.2.2.2.1 hstc
              rcases hins with ⟨_, hno⟩ | ⟨_, c0, i0, as', _, rfl, hcls⟩
              · cases hno
              · rcases hcls with hcls | hcls
                · exact absurd hM'.2.2.2.2.2.1.2 (by omega)
                · obtain ⟨fs, hKc⟩ := x_cls_some hcls
                  obtain ⟨q0, hq0⟩ := x_mem_get (x_vv_obj (hvas _ List.mem_cons_self) hKc)
                  have he := x_ws_at (K := K) (cA := cA) (ad := ad) (s := t) hq0
                  rw [x_cell_obj hKc] at he
                  have hrecv := va_recv hK h4 hclo he
                  rcases hlink i f _ _ _ _ _ _ hlm hinf with hlk | ⟨hs2, _⟩
                  · have hcb := callB_of (R := R) (mc := 0) (ms := 0) np' hts hG rfl rfl rfl hini (hts _ hlk) hM'.2.2.2.2.1 hroom
                    have hlen' : (as'.map (x_val ad)).length = np' := by
                      rw [List.length_map]
                      have : as'.length + 1 = nn := hlen
                      omega
                    have e2 : ((vR c0 i0 :: as').map (x_val ad)).reverse ++ st'.map (x_val ad) = (as'.map (x_val ad)).reverse ++ (.ref (ad c0 i0) :: st'.map (x_val ad)) := by
                      simp [x_val]
                    rw [e2]
                    exact x_call (va_runV (As := as'.map (x_val ad)) (rest := st'.map (x_val ad)) ⟨hx, hb, hml, hown, hts⟩ hMet ⟨hcb, hts _ hinm, hts _ hsel⟩ ⟨hbl, hrecv, hpre⟩ rfl hlen' h1.1 rfl (lv_room hsum) hdg ⟨Nat.zero_le _, Nat.zero_le _⟩) h5 hkk
                  · rw [hs2] at hstc; cases hstc
      · match r, h with
        | Sum.inl c, h => exact WC c h
        | Sum.inr (Sum.inl o'), h => exact Option.some.inj h
        | Sum.inr (Sum.inr (Sum.inl (f, as, rk, c))), h =>
          dsimp only at h
          cases d with
          | zero => cases h
          | succ d' =>
            obtain ⟨w, c', _, hpsh, hrest⟩ := x_bnd_some h
            exact ⟨w, c', trivial, hpsh, WC c' hrest⟩
        | Sum.inr (Sum.inr (Sum.inr (Sum.inl (op, x, y, k, z, A', B')))), h => exact x_br_P (x_ob_P WC) (x_ob_P WC) h
        | Sum.inr (Sum.inr (Sum.inr (Sum.inr (x, tsl, c)))), h => exact x_sw_P WC h
end SNDG

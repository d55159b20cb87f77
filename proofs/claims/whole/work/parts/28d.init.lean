/-! A constructor's call. -/
section CINIT
variable {p : Program} {l : Launch} {e : Env} {R : Room} {s : State} {m : MethodId} {args : Array Value} {below : List Frame} {meth : Method} {c : Code} {H : Heap} {locs : List Loc} {cells slots : Nat} {Q : State → Prop} {D : va_G} {A A0 : Nat → Prop} {tys : List (ClassId × FieldType)} {cA : Nat → ClassId} {hh : Nat} {adS adV : Nat → Nat} {fm : Value} {cc : ByteArray} {pc : Nat} {ls : Array Slot} {rest : List Value}
set_option maxHeartbeats 4000000 in
theorem k_init (hx : p.tables.exec = Jvm.exec) (hb : c.code = cc) {nL : Nat} (hml : c.maxLocals = nL) {own : String} (hown : s.vm.findClass own = some m.cls) (hts : ∀ w ∈ x_Ts, w.before args s = true) (hK : va_K D vwCl tys s) (hX : x_EX A0 hh adS adV fm s) (hA0 : ∀ q, A q → A0 q) (hA : ∀ q, s.heap.size ≤ q → A q)
    {S : Type} {y : MethodName} {ccM : ByteArray} {maxL : Nat} {rm : Room} {mc ms ci : Nat} {fs As : List Value} {F : S → List Value} {G : S → va_W} (hM : k_Met l D tys A0 (x_EX A0 hh adS adV fm) y ccM maxL rm mc ms ci fs As F G) (hrm : rm.cells = mc ∧ rm.slots = ms) {n : Nat} (w1 : Cond.code y ccM maxL none ∈ x_Ts) (w2 : Cond.initialized y.cls ∈ x_Ts) (w3 : Cond.instanceMethod y ∈ x_Ts) (hyn : y.name = "<init>") (hyd : y.cls ≠ "java/lang/invoke/MethodHandle" ∧ y.cls ≠ "java/lang/invoke/VarHandle" ∧ (parseMethodDescriptor y.desc).map (fun d => d.parameters.length) = some n) {i : Nat} (hlk : Cond.methodLink own i y ∈ x_Ts ∨ ∃ host, Cond.methodLinkNest own i y host ∈ x_Nw)
    (hR : rm.frames + 1 ≤ R.frames ∧ 8 + (maxL + 11) + rm.locals ≤ R.locals) (hlen : As.length = n) (hcat : (rest.map fun v => v.category).sum ≤ 8) (hls : ls.size = nL) (hdg : decode cc pc = .ok (.invokespecial i, 3)) (hcs : cells + mc ≤ R.cells ∧ slots + ms ≤ R.slots) {ws : va_W} {q : Nat} (hP : va_P D vwCl (ws ++ [(q, .inr (ci, fs))]) H) (hD : va_D A (ws ++ [(q, .inr (ci, fs))])) (hS : va_S A s.heap H locs)
    (kk : ∀ (u : S) (H1 : Heap) (locs1 : List Loc), va_P D vwCl (ws ++ ((q, .inr (ci, F u)) :: G u)) H1 → va_D A (ws ++ ((q, .inr (ci, F u)) :: G u)) → va_S A s.heap H1 locs1 → W p l e R s m args below meth c H1 locs1 (cells + mc) (slots + ms) Q (F0 m (pc + 3) ls rest)) :
    W p l e R s m args below meth c H locs cells slots Q (F0 m pc ls (As.reverse ++ .ref q :: rest)) := by
  have hlast : (ws ++ [(q, (.inr (ci, fs) : va_E))])[ws.length]? = some (q, .inr (ci, fs)) := by simp
  have hAq : A q := hD.2 _ _ hlast
  have hsz : ∀ q', H.size ≤ q' → A q' := fun q' h => hA q' (Nat.le_trans hS.1 h)
  have hMet := hM q H.size (hA0 q hAq) (fun q' h => hA0 q' (hsz q' h))
  have hG : GoodIn x_Ts (Cond.code y ccM maxL none :: x_Ts) := fun z hz => (List.mem_cons.mp hz).elim (fun q => by rw [q]; exact ⟨w1, x_Fm_ok.1 _ w1⟩) (fun q => ⟨q, x_Fm_ok.1 _ q⟩)
  have hP1 : va_P D vwCl [(q, .inr (ci, fs))] H := hP.sub [ws.length] (by simp)
  have hpre : PreS s H (k_Pre D tys (x_EX A0 hh adS adV fm) q H.size ci fs As) (.ref q :: As) := ⟨fun a U g mk z => by
      obtain ⟨z0, z1, zP, zK, zX⟩ := z
      exact ⟨z0, z1, zP, va_K.moved (u := U) (U := U.calling g mk a) (Vm.Alike.refl U.vm) zK, x_EX_m U (U.calling g mk a) zX (Or.inr rfl) (Nat.le_refl _) (fun _ _ _ => rfl)⟩, fun U hU hW => ⟨rfl, by rw [hU], by rw [hU]; exact hP1, va_K.moved hW.alike hK, x_EX_m s U hX (Or.inl hW) (by rw [hU]; exact hS.1) (fun q z1 z2 => by rw [hU]; exact hS.2.1 q z1 (fun z => z2 (hA0 q z)))⟩⟩
  have hF : ∀ q', va_A [(q, (.inr (ci, fs) : va_E))] H.size q' → A q' := by
    intro q' h
    rcases h with ⟨k, e', h⟩ | h
    · rcases Nat.eq_zero_or_pos k with z | z
      · subst z
        have h1 : q = q' := congrArg Prod.fst (Option.some.inj h)
        rw [← h1]; exact hAq
      · rw [List.getElem?_eq_none (show [(q, (Sum.inr (ci, fs) : va_E))].length ≤ k from z)] at h; cases h
    · exact hsz q' h
  have hrun : va_Run p l e R s m args below meth c H locs cells slots mc ms (F0 m pc ls (As.reverse ++ .ref q :: rest)) rest (k_Qc D (va_A [(q, .inr (ci, fs))] H.size) q ci F G (Value.ref q :: As).toArray) (va_A [(q, .inr (ci, fs))] H.size) := by
    rcases hlk with hlk | ⟨host, hlk⟩
    · have hcb := callB_of (R := R) (mc := mc) (ms := ms) n hts hG rfl hrm.1 hrm.2 (hts _ w2) (hts _ hlk) hyd hR
      exact va_runI (As := As) (rest := rest) ⟨hx, hb, hml, hown, hts⟩ hMet ⟨hcb, hyn, hts _ w3⟩ hpre rfl hlen hls rfl (lv_room hcat) hdg hcs
    · have hcb := va_cnB (R := R) (mc := mc) (ms := ms) n hts hG rfl hrm.1 hrm.2 (x_EX_nw s hX _ hlk) (hts _ w2) hyd hR
      exact va_runIN (As := As) (rest := rest) ⟨hx, hb, hml, hown, hts⟩ hMet ⟨hcb, hyn, hts _ w3⟩ hpre rfl hlen hls rfl (lv_room hcat) hdg hcs
  refine va_callv (S := S) (post := fun _ => True) (B := fun u t => va_P D vwCl ((q, .inr (ci, F u)) :: G u) t.heap ∧ va_D (va_A [(q, .inr (ci, fs))] H.size) ((q, .inr (ci, F u)) :: G u)) hrun hS (fun q' _ h => hF q' h) hF (fun u t H1 locs1 ht hvm _ hB hz1 hk1 hS1 => ?_)
  obtain ⟨hB1, hB2⟩ := hB
  rw [ht] at hB1
  have apart : ∀ (k : Nat) (x : Nat × va_E), ws[k]? = some x → x.1 < H.size ∧ ¬ va_A [(q, (.inr (ci, fs) : va_E))] H.size x.1 := by
    intro k x hk
    have hkl : k < ws.length := (List.getElem?_eq_some_iff.mp hk).1
    have hk2 : (ws ++ [(q, (.inr (ci, fs) : va_E))])[k]? = some x := by rw [List.getElem?_append_left hkl]; exact hk
    have hlt := (hP k x hk2).lt
    refine ⟨hlt, fun h => ?_⟩
    rcases h with ⟨k2, e', h⟩ | h
    · rcases Nat.eq_zero_or_pos k2 with z | z
      · subst z
        have h1 : q = x.1 := congrArg Prod.fst (Option.some.inj h)
        have := hD.1 k ws.length x _ hk2 hlast h1.symm
        omega
      · rw [List.getElem?_eq_none (show [(q, (Sum.inr (ci, fs) : va_E))].length ≤ k2 from z)] at h; cases h
    · omega
  refine kk u H1 locs1 ?_ ?_ hS1
  · refine va_P.app (fun k x hk => ?_) hB1
    have hkl : k < ws.length := (List.getElem?_eq_some_iff.mp hk).1
    have hk2 : (ws ++ [(q, (.inr (ci, fs) : va_E))])[k]? = some x := by rw [List.getElem?_append_left hkl]; exact hk
    exact (hP k x hk2).kept (hk1 x.1 (apart k x hk).1 (apart k x hk).2)
  · refine va_D.app ⟨fun i j x y hi hj hxy => ?_, fun k x hk => ?_⟩ (hB2.weaken (fun k q _ h => hF q.1 h)) (fun i j x y hi hj hxy => ?_)
    · have h1 : i < ws.length := (List.getElem?_eq_some_iff.mp hi).1
      have h2 : j < ws.length := (List.getElem?_eq_some_iff.mp hj).1
      exact hD.1 i j x y (by rw [List.getElem?_append_left h1]; exact hi) (by rw [List.getElem?_append_left h2]; exact hj) hxy
    · have h1 : k < ws.length := (List.getElem?_eq_some_iff.mp hk).1
      exact hD.2 k x (by rw [List.getElem?_append_left h1]; exact hk)
    · exact (apart i x hi).2 (by rw [hxy]; exact hB2.2 j y hj)
end CINIT

/-! A method's contract, out of what it comes to. -/
section CON
variable {l : Launch} {cA : Nat → ClassId} {ad : Nat → Nat → Nat} {Cl : List (Nat × Nat)} {D : va_G} {A : Nat → Prop} {tys : List (ClassId × FieldType)} {hh : Nat} {adS adV : Nat → Nat} {fm : Value}
/-- a world of the cells Cl at the places ad, apart, in A -/
def x_Wd (cA : Nat → ClassId) (ad : Nat → Nat → Nat) (Cl : List (Nat × Nat)) (A : Nat → Prop) (tys : List (ClassId × FieldType)) (hh : Nat) (adS : Nat → Nat) : Prop := (∀ j, ad 900 j = adS j) ∧ (∀ j, ad 74 j = hh) ∧ tys = [(cA 0, .int), (cA 1, .long), (cA 2, .boolean)] ∧ (∀ t : xS, va_D A (x_ws x_K cA ad t Cl)) ∧ x_Fx x_Ts x_Nw x_N x_K vwCl Cl
set_option maxHeartbeats 4000000 in
theorem x_con (hw : x_Wd cA ad Cl A tys hh adS) {d f : Nat} {M : xM} {o : Nat} {y : MethodName} {cc : ByteArray} {ret : Option FieldType} {np : Nat} {stc : Bool} {as : List xV} {t : xS} {out : xO} (hP : x_Pr f = Sum.inr M) (hI : x_inf f = some (o, y, cc, ret, np, stc)) (hv : x_vs x_K Cl as) (h : ev d f as t = some out) :
    Met l y (Cond.code y cc M.1 ret :: x_Ts) (x_rm d) (x_Pc D vwCl tys x_K cA ad Cl (x_EX A hh adS adV fm) as t) (x_Qc D vwCl x_K cA ad Cl A out) 0 0 A := by
  obtain ⟨h1, h2, h3, h4, h5⟩ := hw
  obtain ⟨o', y', cc', ret', np', stc', hinf, hM⟩ := x_Fm_ok.2.1 f M hP
  have hinf : x_inf f = some (o', y', cc', ret', np', stc') := hinf
  rw [hI] at hinf
  have e := Option.some.inj hinf
  simp only [Prod.mk.injEq] at e
  obtain ⟨rfl, rfl, rfl, rfl, rfl, rfl⟩ := e
  have h : x_ev x_K x_Pr d f as t = some out := h
  unfold x_ev at h
  rw [hP] at h
  obtain ⟨hl, hout⟩ := x_gd_some.mp h
  obtain ⟨n, hn⟩ := x_out_some.mp hout
  exact x_met hM hl hv (fun a1 a2 a3 a4 a5 a6 a7 a8 a9 a10 a11 => x_sound h3 h4 h5 x_Fm_ok x_EX_nw x_EX_m (x_EX_e h1 h2) (x_EX_b h1 h3 h4 h5) n d hM hn a1 a2 a3 a4 a5 a6 a7 a8 a9 a10 a11)
end CON

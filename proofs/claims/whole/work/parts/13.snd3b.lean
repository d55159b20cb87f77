/-! Switches, calls, and the whole run. -/
section SNDE
theorem x_key {x : Int32} {k : Int} (h0 : 0 ≤ k) (h1 : k < 2147483648) : x = Int32.ofInt k ↔ x.toInt = k := by
  constructor
  · intro h
    rw [h, Int32.toInt_ofInt_of_le (by omega) (by omega)]
  · intro h
    rw [← h, Int32.ofInt_toInt]
theorem x_tsw_def {WC : xC → Prop} {M : xM} {x : Int32} {ls : xLs} {st : List xV} {t : xS} {c : xC} : ∀ {ts : List Nat} {k : Int}, 0 ≤ k → k + ts.length < 2147483648 → (x.toInt < k ∨ k + ts.length ≤ x.toInt) → x_swP x (x_tsw M k ts ls st t) c WC → WC c
  | [], _, _, _, _, h => h
  | y :: u, k, h0, h1, hx, h => by
    have hl : ((y :: u).length : Int) = u.length + 1 := by simp
    rw [hl] at h1 hx
    have hne : ¬ x = Int32.ofInt k := fun e => by
      have := (x_key h0 (by omega)).mp e
      omega
    exact x_tsw_def (ts := u) (k := k + 1) (by omega) (by omega) (by omega) (h.2 hne)
theorem x_tsw_hit {WC : xC → Prop} {M : xM} {x : Int32} {ls : xLs} {st : List xV} {t : xS} {c : xC} : ∀ {ts : List Nat} {k : Int} {j tt : Nat}, 0 ≤ k → k + ts.length < 2147483648 → x.toInt = k + j → ts[j]? = some tt → x_swP x (x_tsw M k ts ls st t) c WC → WC (x_mk M tt ls st t)
  | [], _, _, _, _, _, _, hj, _ => by simp at hj
  | y :: u, k, 0, tt, h0, h1, hx, hj, h => by
    have e : y = tt := by simpa using hj
    subst e
    exact h.1 ((x_key h0 (by simp at h1; omega)).mpr (by simpa using hx))
  | y :: u, k, j + 1, tt, h0, h1, hx, hj, h => by
    have hl : ((y :: u).length : Int) = u.length + 1 := by simp
    rw [hl] at h1
    have hne : ¬ x = Int32.ofInt k := fun e => by
      have := (x_key h0 (by omega)).mp e
      omega
    exact x_tsw_hit (ts := u) (k := k + 1) (j := j) (by omega) (by omega) (by rw [hx]; push_cast; omega) (by simpa using hj) (h.2 hne)
theorem x_swt_hit {WC : xC → Prop} {M : xM} {x : Int32} {ls : xLs} {st : List xV} {t : xS} {pc a : Nat} {df : Int} (hdf : (pc : Int) + df = (a : Int)) : ∀ {ps : List (Int × Int)} {ts : List Nat}, ps.map (fun z => (pc : Int) + z.2) = ts.map Int.ofNat → (∀ z ∈ ps, 0 ≤ z.1 ∧ z.1 < 1000) → x_swP x (x_swt M ps ts ls st t) (x_mk M a ls st t) WC →
    ∃ tt : Nat, (pc : Int) + Op.lookupswitch.offset ps df x.toInt = (tt : Int) ∧ WC (x_mk M tt ls st t)
  | [], _, _, _, h => ⟨a, hdf, by simpa [x_swt, x_swP] using h⟩
  | z :: r, [], e, _, _ => by simp at e
  | z :: r, y :: u, e, hz, h => by
    simp only [List.map_cons, List.cons.injEq] at e
    have h0 := hz z List.mem_cons_self
    have hk := x_key (x := x) h0.1 (by omega)
    rw [show z = (z.1, z.2) from rfl, Op.lookupswitch.offset_cons]
    by_cases hx : z.1 = x.toInt
    · rw [if_pos hx]
      exact ⟨y, by simpa using e.1, h.1 (hk.mpr hx.symm)⟩
    · rw [if_neg hx]
      exact x_swt_hit hdf e.2 (fun w hw => hz w (List.mem_cons_of_mem _ hw)) (h.2 (fun q => hx (hk.mp q).symm))
end SNDE

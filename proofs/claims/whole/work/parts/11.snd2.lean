/-! One step of the light machine, over the machine. -/
section SNDB
/-- a place that the world holds, or one outside that is only read -/
def x_vv (K : Nat → Option xT) (Cl : List (Nat × Nat)) (v : xV) : Prop := match v with
  | Sum.inr (Sum.inr (c, i)) => (c, i) ∈ Cl ∨ K c = none ∨ ∃ n, K c = some (Sum.inr (3, n))
  | _ => True
def x_vl (K : Nat → Option xT) (Cl : List (Nat × Nat)) (ls : xLs) : Prop := ∀ (i : Nat) (v : xV), ls[i]? = some (some v) → x_vv K Cl v
def x_vs (K : Nat → Option xT) (Cl : List (Nat × Nat)) (st : List xV) : Prop := ∀ v ∈ st, x_vv K Cl v
theorem x_vl_kill {K : Nat → Option xT} {Cl : List (Nat × Nat)} {ls : xLs} (h : x_vl K Cl ls) (ks : List Nat) : x_vl K Cl (x_kill ks ls) := fun i v e => h i v (x_kill_get ks ls e)
theorem x_vl_st1 {K : Nat → Option xT} {Cl : List (Nat × Nat)} {ls : xLs} {a : Nat} {v : xV} (h : x_vl K Cl ls) (hv : x_vv K Cl v) : x_vl K Cl (x_st1 ls a v) := by
  intro i u e
  rcases x_set_get e with ⟨_, e2⟩ | ⟨_, e2⟩
  · cases e2; exact hv
  · exact h i u (x_cl_get e2).1
theorem x_vl_st2 {K : Nat → Option xT} {Cl : List (Nat × Nat)} {ls : xLs} {a : Nat} {v : xV} (h : x_vl K Cl ls) (hv : x_vv K Cl v) : x_vl K Cl (x_st2 ls a v) := by
  intro i u e
  rcases x_set_get e with ⟨_, e2⟩ | ⟨_, e⟩
  · cases e2
  rcases x_set_get e with ⟨_, e2⟩ | ⟨_, e2⟩
  · cases e2; exact hv
  · exact h i u (x_cl_get e2).1
theorem x_vs_c {K : Nat → Option xT} {Cl : List (Nat × Nat)} {v : xV} {st : List xV} (hv : x_vv K Cl v) (h : x_vs K Cl st) : x_vs K Cl (v :: st) := fun u hu => (List.mem_cons.mp hu).elim (fun z => z ▸ hv) (h u)
theorem x_vs_t {K : Nat → Option xT} {Cl : List (Nat × Nat)} {v : xV} {st : List xV} (h : x_vs K Cl (v :: st)) : x_vs K Cl st := fun u hu => h u (List.mem_cons_of_mem _ hu)
theorem x_vs_h {K : Nat → Option xT} {Cl : List (Nat × Nat)} {v : xV} {st : List xV} (h : x_vs K Cl (v :: st)) : x_vv K Cl v := h v List.mem_cons_self
end SNDB

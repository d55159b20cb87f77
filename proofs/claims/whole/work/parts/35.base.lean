/-! Base of the pure part: literals, conditions decided by size, places that may be none, frames, loops. -/
section BASE
theorem nl_0 : (0 : Int32) = nI 0 := by decide
theorem nl_1 : (1 : Int32) = nI 1 := by decide
theorem nl_2 : (2 : Int32) = nI 2 := by decide
theorem nl_3 : (3 : Int32) = nI 3 := by decide
theorem nl_4 : (4 : Int32) = nI 4 := by decide
theorem nl_5 : (5 : Int32) = nI 5 := by decide
theorem nl_6 : (6 : Int32) = nI 6 := by decide
theorem nl_7 : (7 : Int32) = nI 7 := by decide
theorem nl_8 : (8 : Int32) = nI 8 := by decide
theorem nl_9 : (9 : Int32) = nI 9 := by decide
theorem nl_10 : (10 : Int32) = nI 10 := by decide
theorem nl_12 : (12 : Int32) = nI 12 := by decide
theorem nl_14 : (14 : Int32) = nI 14 := by decide
theorem nl_15 : (15 : Int32) = nI 15 := by decide
theorem nl_16 : (16 : Int32) = nI 16 := by decide
theorem nl_17 : (17 : Int32) = nI 17 := by decide
theorem nl_20 : (20 : Int32) = nI 20 := by decide
theorem nl_24 : (24 : Int32) = nI 24 := by decide
theorem nl_35 : (35 : Int32) = nI 35 := by decide
theorem nl_36 : (36 : Int32) = nI 36 := by decide
theorem nl_40 : (40 : Int32) = nI 40 := by decide
theorem nl_48 : (48 : Int32) = nI 48 := by decide
theorem nl_60 : (60 : Int32) = nI 60 := by decide
theorem nl_63 : (63 : Int32) = nI 63 := by decide
theorem nl_64 : (64 : Int32) = nI 64 := by decide
theorem nl_76 : (76 : Int32) = nI 76 := by decide
theorem nl_80 : (80 : Int32) = nI 80 := by decide
theorem nl_100 : (100 : Int32) = nI 100 := by decide
theorem nl_144 : (144 : Int32) = nI 144 := by decide
theorem nl_2304 : (2304 : Int32) = nI 2304 := by decide
theorem nl_M : (1000000 : Int32) = nI 1000000 := by decide
/-- conditions that are so, or not, by size -/
theorem lt_t {a b : Nat} (h : a < b) (hb : b < 2147483648) : (nI a < nI b) = True := eq_true ((n_lt (by omega) hb).mpr h)
theorem lt_f {a b : Nat} (h : b ≤ a) (ha : a < 2147483648) : (nI a < nI b) = False := eq_false (fun q => by have := (n_lt ha (by omega)).mp q; omega)
theorem le_t {a b : Nat} (h : a ≤ b) (hb : b < 2147483648) : (nI a ≤ nI b) = True := eq_true ((n_le (by omega) hb).mpr h)
theorem le_f {a b : Nat} (h : b < a) (ha : a < 2147483648) : (nI a ≤ nI b) = False := eq_false (fun q => by have := (n_le ha (by omega)).mp q; omega)
theorem eq_t {a b : Nat} (h : a = b) : (nI a = nI b) = True := eq_true (congrArg nI h)
theorem eq_f {a b : Nat} (h : a ≠ b) (ha : a < 2147483648) (hb : b < 2147483648) : (nI a = nI b) = False := eq_false (fun q => h ((n_eq ha hb).mp q))
theorem in_t {a n : Nat} (h : a < n) (ha : a < 2147483648) : x_in (nI a) n = true := by rw [n_in ha]; exact decide_eq_true h
theorem in_f {a n : Nat} (h : n ≤ a) (ha : a < 2147483648) : x_in (nI a) n = false := by rw [n_in ha]; exact decide_eq_false (by omega)
theorem m1_ne {a : Nat} (h : a < 2147483648) : (nI a = -1) = False := eq_false (fun q => by
  have e : (nI a).toInt = (-1 : Int32).toInt := by rw [q]
  rw [nI_toInt h] at e
  have : ((-1 : Int32)).toInt = -1 := by decide
  omega)
theorem m1_nn {a : Nat} (h : a < 2147483648) : ¬ nI a = -1 := of_eq_false (m1_ne h)
theorem m1_lt : ((-1 : Int32) < nI 0) = True := eq_true (by decide)
theorem m1_ltn {a : Nat} (h : a < 2147483648) : ((-1 : Int32) < nI a) = True := eq_true (by
  rw [fa_lt, nI_toInt h]
  have : ((-1 : Int32)).toInt = -1 := by decide
  omega)
theorem lt_m1 {a : Nat} (h : a < 2147483648) : (nI a < (-1 : Int32)) = False := eq_false (by
  rw [fa_lt, nI_toInt h]
  have : ((-1 : Int32)).toInt = -1 := by decide
  omega)
theorem m1_in {n : Nat} : x_in (-1) n = false := n_neg_in (by decide)
theorem m1_cl : (-1 : Int32).toNatClampNeg = 0 := by decide
theorem n_add0 (x : Int32) : x + nI 0 = x := by
  have : nI 0 = 0 := rfl
  rw [this]; exact Int32.add_zero x
theorem n_or0 (x : Int32) : x ||| nI 0 = x := by
  have : nI 0 = 0 := rfl
  rw [this]; exact Int32.or_zero
/-- a number, or -1 for none -/
def oI (o : Option Nat) : Int32 := match o with
  | none => -1
  | some k => nI k
theorem oI_n : oI none = -1 := by decide
theorem oI_s (k : Nat) : oI (some k) = nI k := by cases k <;> rfl
theorem oI_m1 {o : Option Nat} (h : ∀ k, o = some k → k < 2147483648) : (oI o = -1) ↔ o = none := by
  cases o with
  | none => exact ⟨fun _ => rfl, fun _ => rfl⟩
  | some k => rw [oI_s, m1_ne (h k rfl)]; exact ⟨False.elim, fun q => by cases q⟩
theorem oI_lt0 {o : Option Nat} (h : ∀ k, o = some k → k < 2147483648) : (oI o < 0) ↔ o = none := by
  cases o with
  | none => exact ⟨fun _ => rfl, fun _ => by decide⟩
  | some k => exact ⟨fun q => absurd q (nI_pos (h k rfl)), fun q => by cases q⟩
/-- frames: nothing but p has changed -/
def fr (p : Nat → Nat → Nat → Prop) (s t : xS) : Prop := ∀ c i k, ¬ p c i k → t.1 c i k = s.1 c i k ∧ t.2 c i k = s.2 c i k
theorem fr_r (p : Nat → Nat → Nat → Prop) (s : xS) : fr p s s := fun _ _ _ _ => ⟨rfl, rfl⟩
theorem fr_t {p : Nat → Nat → Nat → Prop} {s t u : xS} (h : fr p s t) (g : fr p t u) : fr p s u := fun c i k q => ⟨(g c i k q).1.trans (h c i k q).1, (g c i k q).2.trans (h c i k q).2⟩
theorem fr_m {p q : Nat → Nat → Nat → Prop} {s t : xS} (h : fr p s t) (hpq : ∀ c i k, p c i k → q c i k) : fr q s t := fun c i k n => h c i k (fun z => n (hpq c i k z))
theorem fr_wI {p : Nat → Nat → Nat → Prop} {s t : xS} {c i k : Nat} {x : Int32} (h : fr p s t) (hp : p c i k) : fr p s (wI t c i k x) := fun c' i' k' q => by
  refine ⟨?_, (h c' i' k' q).2⟩
  rw [wI_get, if_neg (fun e => q (by rw [e.1, e.2.1, e.2.2]; exact hp))]
  exact (h c' i' k' q).1
theorem fr_wL {p : Nat → Nat → Nat → Prop} {s t : xS} {c i k : Nat} {x : Int64} (h : fr p s t) (hp : p c i k) : fr p s (wL t c i k x) := fun c' i' k' q => by
  refine ⟨(h c' i' k' q).1, ?_⟩
  rw [wL_get, if_neg (fun e => q (by rw [e.1, e.2.1, e.2.2]; exact hp))]
  exact (h c' i' k' q).2
theorem fr_fill {p : Nat → Nat → Nat → Prop} {s t : xS} {c k n : Nat} {x : Int32} (h : fr p s t) (hp : ∀ j, p c 0 j) : fr p s (x_fillF t c k n x) := fun c' i' k' q => by
  refine ⟨?_, (h c' i' k' q).2⟩
  show (if _ then _ else _) = _
  rw [if_neg (fun e => q (by rw [e.1, e.2.1]; exact hp k'))]
  exact (h c' i' k' q).1
theorem wI_s1 (s : xS) (c i k : Nat) (x : Int32) : (wI s c i k x).1 c i k = x := by rw [wI_get, if_pos ⟨rfl, rfl, rfl⟩]
theorem wI_s2 (s : xS) (c i k : Nat) (x : Int32) : (wI s c i k x).2 = s.2 := rfl
theorem wL_s2 (s : xS) (c i k : Nat) (x : Int64) : (wL s c i k x).2 c i k = x := by rw [wL_get, if_pos ⟨rfl, rfl, rfl⟩]
theorem wL_s1 (s : xS) (c i k : Nat) (x : Int64) : (wL s c i k x).1 = s.1 := rfl
theorem wI_nc {s : xS} {c i k : Nat} {x : Int32} {c' i' k' : Nat} (h : c' ≠ c) : (wI s c i k x).1 c' i' k' = s.1 c' i' k' := by rw [wI_get, if_neg (fun e => h e.1)]
theorem wI_nk {s : xS} {c i k : Nat} {x : Int32} {c' i' k' : Nat} (h : k' ≠ k) : (wI s c i k x).1 c' i' k' = s.1 c' i' k' := by rw [wI_get, if_neg (fun e => h e.2.1)]
theorem wI_ni {s : xS} {c i k : Nat} {x : Int32} {c' i' k' : Nat} (h : i' ≠ i) : (wI s c i k x).1 c' i' k' = s.1 c' i' k' := by rw [wI_get, if_neg (fun e => h e.2.2)]
/-- loops: a chain of equal runs -/
theorem chain {α : Type} (n : Nat) (F : Nat → α) (h : ∀ k, k < n → F k = F (k + 1)) : F 0 = F n := by
  induction n with
  | zero => rfl
  | succ n ih => rw [ih (fun k hk => h k (by omega)), h n (by omega)]
theorem chainE {σ α : Type} (n : Nat) (L : Nat → σ → α) (R : Nat → σ → Prop) (h : ∀ k a, k < n → R k a → ∃ b, L k a = L (k + 1) b ∧ R (k + 1) b) : ∀ m k a, k + m = n → R k a → ∃ b, L k a = L n b ∧ R n b := by
  intro m
  induction m with
  | zero => intro k a e r; rw [Nat.add_zero] at e; exact ⟨a, by rw [e], by rw [← e]; exact r⟩
  | succ m ih =>
    intro k a e r
    obtain ⟨b, e1, r1⟩ := h k a (by omega) r
    obtain ⟨c, e2, r2⟩ := ih (k + 1) b (by omega) r1
    exact ⟨c, e1.trans e2, r2⟩
/-- .. or it ends on the way -/
theorem chainQ {σ α : Type} (n : Nat) (L : Nat → σ → α) (R : Nat → σ → Prop) (Q : α → Prop) (hx : ∀ a, R n a → Q (L n a)) (h : ∀ k a, k < n → R k a → Q (L k a) ∨ ∃ b, L k a = L (k + 1) b ∧ R (k + 1) b) : ∀ m k a, k + m = n → R k a → Q (L k a) := by
  intro m
  induction m with
  | zero => intro k a e r; rw [Nat.add_zero] at e; rw [e]; exact hx a (by rw [← e]; exact r)
  | succ m ih =>
    intro k a e r
    rcases h k a (by omega) r with q | ⟨b, e1, r1⟩
    · exact q
    · rw [e1]; exact ih (k + 1) b (by omega) r1
/-- how many, the sum, the bits, the first -/
def cnt (p : Nat → Bool) : Nat → Nat
  | 0 => 0
  | n + 1 => cnt p n + (bif p n then 1 else 0)
theorem cnt_le (p : Nat → Bool) : ∀ n, cnt p n ≤ n
  | 0 => Nat.le_refl 0
  | n + 1 => by have := cnt_le p n; unfold cnt; cases p n <;> simp <;> omega
theorem cnt_cong {p q : Nat → Bool} : ∀ {n : Nat}, (∀ k, k < n → p k = q k) → cnt p n = cnt q n
  | 0, _ => rfl
  | n + 1, h => by unfold cnt; rw [cnt_cong (fun k hk => h k (by omega)), h n (by omega)]
def smN (f : Nat → Nat) : Nat → Nat
  | 0 => 0
  | n + 1 => smN f n + f n
theorem smN_cong {f g : Nat → Nat} : ∀ {n : Nat}, (∀ k, k < n → f k = g k) → smN f n = smN g n
  | 0, _ => rfl
  | n + 1, h => by unfold smN; rw [smN_cong (fun k hk => h k (by omega)), h n (by omega)]
theorem smN_le {f : Nat → Nat} {m : Nat} : ∀ {n : Nat}, (∀ k, k < n → f k ≤ m) → smN f n ≤ n * m
  | 0, _ => by unfold smN; omega
  | n + 1, h => by
    unfold smN
    have a := smN_le (n := n) (fun k hk => h k (by omega))
    have b := h n (by omega)
    rw [Nat.succ_mul]; omega
def orN (f : Nat → Nat) : Nat → Nat
  | 0 => 0
  | n + 1 => orN f n ||| f n
theorem orN_cong {f g : Nat → Nat} : ∀ {n : Nat}, (∀ k, k < n → f k = g k) → orN f n = orN g n
  | 0, _ => rfl
  | n + 1, h => by unfold orN; rw [orN_cong (fun k hk => h k (by omega)), h n (by omega)]
theorem orN_lt {f : Nat → Nat} {b : Nat} : ∀ {n : Nat}, (∀ k, k < n → f k < 2 ^ b) → orN f n < 2 ^ b
  | 0, _ => by unfold orN; exact Nat.two_pow_pos b
  | n + 1, h => by unfold orN; exact Nat.or_lt_two_pow (orN_lt (fun k hk => h k (by omega))) (h n (by omega))
def fst (p : Nat → Bool) : Nat → Option Nat
  | 0 => none
  | n + 1 => match fst p n with
    | some k => some k
    | none => bif p n then some n else none
end BASE

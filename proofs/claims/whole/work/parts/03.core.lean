/-! A light machine over worlds of a fixed shape: values, states, one step, runs, what a run comes to. -/
/-- an int, a long, or a place: the number of its kind, and which one of that kind -/
abbrev xV : Type := Int32 ⊕ Int64 ⊕ (Nat × Nat)
/-- ints and longs by kind, which one, and field or index -/
abbrev xS : Type := (Nat → Nat → Nat → Int32) × (Nat → Nat → Nat → Int64)
abbrev vI (x : Int32) : xV := Sum.inl x
abbrev vL (x : Int64) : xV := Sum.inr (Sum.inl x)
abbrev vR (c i : Nat) : xV := Sum.inr (Sum.inr (c, i))
abbrev xLs : Type := List (Option xV)
/-- place in the code, locals, stack, state -/
abbrev xC : Type := Nat × xLs × List xV × xS
abbrev xO : Type := Option xV × xS
/-- a branch: 0 equal, 1 less, 2 within, 3 a long is 0; both ways on (none: the machine would throw) -/
abbrev xB : Type := Nat × Int32 × Int32 × Nat × Int64 × Option xC × Option xC
/-- a call: which, with what, how it answers (0 nothing, 1 an int, 2 a long), where it goes on -/
abbrev xK : Type := Nat × List xV × Nat × xC
abbrev xW : Type := Int32 × List (Int32 × xC) × xC
abbrev xR : Type := xC ⊕ xO ⊕ xK ⊕ xB ⊕ xW
/-- a row of code: place, instruction, the next place, two numbers and a value that its link was read to, places of a switch -/
abbrev xE : Type := Nat × Instr × Nat × Nat × Nat × xV × List Nat
/-- a method: locals, kind of answer (0 nothing, 1 int, 2 long, 3 boolean), locals that are dead where one comes in, rows -/
abbrev xM : Type := Nat × Nat × List (Nat × List Nat) × List xE
/-- a kind: an object's class and fields (0 int, 1 long, 2 a place, 3 a place of the same number, 4 boolean; which kind; which one), or a row (0 ints, 1 longs, 2 booleans) of a length -/
abbrev xT : Type := (Nat × List (Nat × Nat × Nat)) ⊕ (Nat × Nat)
def wI (s : xS) (c i k : Nat) (x : Int32) : xS := (fun c' i' k' => if c' = c ∧ k' = k ∧ i' = i then x else s.1 c' i' k', s.2)
def wL (s : xS) (c i k : Nat) (x : Int64) : xS := (s.1, fun c' i' k' => if c' = c ∧ k' = k ∧ i' = i then x else s.2 c' i' k')
def x_nb (x : Int32) : Int32 := x &&& 1
def x_find (tb : List xE) (pc : Nat) : Option (Instr × Nat × Nat × Nat × xV × List Nat) := match tb with
  | [] => none
  | q :: r => bif Nat.beq q.1 pc then some q.2 else x_find r pc
def x_dead (kl : List (Nat × List Nat)) (pc : Nat) : List Nat := match kl with
  | [] => []
  | q :: r => bif Nat.beq q.1 pc then q.2 else x_dead r pc
def x_kill (ks : List Nat) (ls : xLs) : xLs := match ks with
  | [] => ls
  | k :: r => x_kill r (ls.set k none)
def x_cl (i : Nat) (ls : xLs) : xLs := match i with
  | 0 => ls
  | j + 1 => match ls.getD j none with
    | some (Sum.inr (Sum.inl _)) => ls.set j none
    | _ => ls
def x_st1 (ls : xLs) (i : Nat) (v : xV) : xLs := (x_cl i ls).set i (some v)
def x_st2 (ls : xLs) (i : Nat) (v : xV) : xLs := ((x_cl i ls).set i (some v)).set (i + 1) none
def x_ent : List xV → xLs
  | [] => []
  | Sum.inr (Sum.inl x) :: r => some (vL x) :: none :: x_ent r
  | v :: r => some v :: x_ent r
def x_pad (n : Nat) (ls : xLs) : xLs := ls ++ List.replicate (n - ls.length) none
def x_to (pc : Nat) (off : Int) : Nat := ((pc : Int) + off).toNat
/-- the stack below a call must be small: the claim's room -/
def x_cat : List xV → Nat
  | [] => 0
  | Sum.inr (Sum.inl _) :: r => x_cat r + 2
  | _ :: r => x_cat r + 1
/-- n values off the stack, the last first -/
def x_take : Nat → List xV → List xV → Option (List xV × List xV)
  | 0, st, acc => some (acc, st)
  | n + 1, v :: st, acc => x_take n st (v :: acc)
  | _ + 1, [], _ => none
def jrem (x y : Int32) : Int32 := x - x / y * y
def jshl (x y : Int32) : Int32 := x <<< (y &&& 31)
def jshr (x y : Int32) : Int32 := x >>> (y &&& 31)
def jushr (x y : Int32) : Int32 := (x.toUInt32 >>> (y.toUInt32 &&& Int32.toUInt32 31)).toInt32
def jlrem (x y : Int64) : Int64 := x - x / y * y
def jlshl (x : Int64) (y : Int32) : Int64 := x <<< (y.toInt64 &&& 63)
def jlshr (x : Int64) (y : Int32) : Int64 := x >>> (y.toInt64 &&& 63)
def jlushr (x : Int64) (y : Int32) : Int64 := (x.toUInt64 >>> (y.toInt64.toUInt64 &&& Int64.toUInt64 63)).toInt64
def x_mk (M : xM) (pc : Nat) (ls : xLs) (st : List xV) (s : xS) : xC := (pc, x_kill (x_dead M.2.2.1 pc) ls, st, s)
def x_go (M : xM) (pc : Nat) (ls : xLs) (st : List xV) (s : xS) : Option xR := some (Sum.inl (x_mk M pc ls st s))
def x_fk (M : xM) (op : Nat) (x y : Int32) (a b : Nat) (ls : xLs) (st : List xV) (s : xS) : Option xR :=
  some (Sum.inr (Sum.inr (Sum.inr (Sum.inl (op, x, y, 0, 0, some (x_mk M a ls st s), some (x_mk M b ls st s))))))
/-- on only if x is not 0 -/
def x_nz (M : xM) (x : Int32) (pc : Nat) (ls : xLs) (st : List xV) (s : xS) : Option xR :=
  some (Sum.inr (Sum.inr (Sum.inr (Sum.inl (0, x, 0, 0, 0, none, some (x_mk M pc ls st s))))))
def x_nzL (M : xM) (z : Int64) (pc : Nat) (ls : xLs) (st : List xV) (s : xS) : Option xR :=
  some (Sum.inr (Sum.inr (Sum.inr (Sum.inl (3, 0, 0, 0, z, none, some (x_mk M pc ls st s))))))
/-- on only within n -/
def x_wi (M : xM) (x : Int32) (n : Nat) (pc : Nat) (ls : xLs) (st : List xV) (s : xS) : Option xR :=
  some (Sum.inr (Sum.inr (Sum.inr (Sum.inl (2, x, 0, n, 0, some (x_mk M pc ls st s), none)))))
def x_cmp (M : xM) (op : Jvm.ClassFile.Cond) (x y : Int32) (a b : Nat) (ls : xLs) (st : List xV) (s : xS) : Option xR := match op with
  | .eq => x_fk M 0 x y a b ls st s
  | .ne => x_fk M 0 x y b a ls st s
  | .lt => x_fk M 1 x y a b ls st s
  | .ge => x_fk M 1 x y b a ls st s
  | .gt => x_fk M 1 y x a b ls st s
  | .le => x_fk M 1 y x b a ls st s
/-- what the one row of constants holds -/
def x_cst (k : Nat) : Int32 := match k with
  | 0 => 5 | 1 => 5 | 2 => 3 | 3 => 5 | _ => 1
def x_swt (M : xM) (ps : List (Int × Int)) (ts : List Nat) (ls : xLs) (st : List xV) (s : xS) : List (Int32 × xC) := match ps, ts with
  | p :: r, t :: u => (Int32.ofInt p.1, x_mk M t ls st s) :: x_swt M r u ls st s
  | _, _ => []
/-- keys lo, lo + 1, .. -/
def x_tsw (M : xM) (k : Int) (ts : List Nat) (ls : xLs) (st : List xV) (s : xS) : List (Int32 × xC) := match ts with
  | [] => []
  | t :: u => (Int32.ofInt k, x_mk M t ls st s) :: x_tsw M (k + 1) u ls st s
def x_get (K : Nat → Option xT) (c i k : Nat) (s : xS) : Option xV := match K c with
  | some (Sum.inl (_, fs)) => match fs[k]? with
    | some (t, d, j) => match t with
      | 1 => some (vL (s.2 c i k))
      | 2 => some (vR d j)
      | 3 => some (vR d i)
      | _ => some (vI (s.1 c i k))
    | none => none
  | _ => none
def x_cls (K : Nat → Option xT) (c : Nat) : Option Nat := match K c with
  | some (Sum.inl (ci, _)) => some ci
  | _ => none
def x_fty (K : Nat → Option xT) (c k : Nat) : Option Nat := match K c with
  | some (Sum.inl (_, fs)) => match fs[k]? with
    | some (t, _, _) => some t
    | none => none
  | _ => none
def x_arr (K : Nat → Option xT) (c : Nat) : Option (Nat × Nat) := match K c with
  | some (Sum.inr q) => some q
  | _ => none
def x_step (K : Nat → Option xT) (M : xM) (cf : xC) : Option xR := match cf with
  | (pc, ls, st, s) => match x_find M.2.2.2 pc with
    | none => none
    | some (ins, nx, a, b, v, ts) => match ins with
      | .iconst _ | .bipush _ | .sipush _ | .ldc _ | .ldc_w _ | .lconst _ | .ldc2_w _ | .getstatic _ => x_go M nx ls (v :: st) s
      | .iload _ | .iload_n _ => match ls.getD a none with
        | some (Sum.inl x) => x_go M nx ls (vI x :: st) s
        | _ => none
      | .lload _ | .lload_n _ => match ls.getD a none with
        | some (Sum.inr (Sum.inl x)) => x_go M nx ls (vL x :: st) s
        | _ => none
      | .aload _ | .aload_n _ => match ls.getD a none with
        | some (Sum.inr (Sum.inr (c, i))) => x_go M nx ls (vR c i :: st) s
        | _ => none
      | .istore _ | .istore_n _ => match st with
        | Sum.inl x :: st => x_go M nx (x_st1 ls a (vI x)) st s
        | _ => none
      | .lstore _ | .lstore_n _ => match st with
        | Sum.inr (Sum.inl x) :: st => x_go M nx (x_st2 ls a (vL x)) st s
        | _ => none
      | .iinc _ _ => match ls.getD a none, v with
        | some (Sum.inl x), Sum.inl n => x_go M nx (x_st1 ls a (vI (x + n))) st s
        | _, _ => none
      | .iadd => match st with
        | Sum.inl y :: Sum.inl x :: st => x_go M nx ls (vI (x + y) :: st) s
        | _ => none
      | .isub => match st with
        | Sum.inl y :: Sum.inl x :: st => x_go M nx ls (vI (x - y) :: st) s
        | _ => none
      | .imul => match st with
        | Sum.inl y :: Sum.inl x :: st => x_go M nx ls (vI (x * y) :: st) s
        | _ => none
      | .iand => match st with
        | Sum.inl y :: Sum.inl x :: st => x_go M nx ls (vI (x &&& y) :: st) s
        | _ => none
      | .ior => match st with
        | Sum.inl y :: Sum.inl x :: st => x_go M nx ls (vI (x ||| y) :: st) s
        | _ => none
      | .ixor => match st with
        | Sum.inl y :: Sum.inl x :: st => x_go M nx ls (vI (x ^^^ y) :: st) s
        | _ => none
      | .ishl => match st with
        | Sum.inl y :: Sum.inl x :: st => x_go M nx ls (vI (jshl x y) :: st) s
        | _ => none
      | .ishr => match st with
        | Sum.inl y :: Sum.inl x :: st => x_go M nx ls (vI (jshr x y) :: st) s
        | _ => none
      | .iushr => match st with
        | Sum.inl y :: Sum.inl x :: st => x_go M nx ls (vI (jushr x y) :: st) s
        | _ => none
      | .ineg => match st with
        | Sum.inl x :: st => x_go M nx ls (vI (-x) :: st) s
        | _ => none
      | .idiv => match st with
        | Sum.inl y :: Sum.inl x :: st => x_nz M y nx ls (vI (x / y) :: st) s
        | _ => none
      | .irem => match st with
        | Sum.inl y :: Sum.inl x :: st => x_nz M y nx ls (vI (jrem x y) :: st) s
        | _ => none
      | .ladd => match st with
        | Sum.inr (Sum.inl y) :: Sum.inr (Sum.inl x) :: st => x_go M nx ls (vL (x + y) :: st) s
        | _ => none
      | .lsub => match st with
        | Sum.inr (Sum.inl y) :: Sum.inr (Sum.inl x) :: st => x_go M nx ls (vL (x - y) :: st) s
        | _ => none
      | .lmul => match st with
        | Sum.inr (Sum.inl y) :: Sum.inr (Sum.inl x) :: st => x_go M nx ls (vL (x * y) :: st) s
        | _ => none
      | .land => match st with
        | Sum.inr (Sum.inl y) :: Sum.inr (Sum.inl x) :: st => x_go M nx ls (vL (x &&& y) :: st) s
        | _ => none
      | .lor => match st with
        | Sum.inr (Sum.inl y) :: Sum.inr (Sum.inl x) :: st => x_go M nx ls (vL (x ||| y) :: st) s
        | _ => none
      | .lshl => match st with
        | Sum.inl y :: Sum.inr (Sum.inl x) :: st => x_go M nx ls (vL (jlshl x y) :: st) s
        | _ => none
      | .lshr => match st with
        | Sum.inl y :: Sum.inr (Sum.inl x) :: st => x_go M nx ls (vL (jlshr x y) :: st) s
        | _ => none
      | .lushr => match st with
        | Sum.inl y :: Sum.inr (Sum.inl x) :: st => x_go M nx ls (vL (jlushr x y) :: st) s
        | _ => none
      | .ldiv => match st with
        | Sum.inr (Sum.inl y) :: Sum.inr (Sum.inl x) :: st => x_nzL M y nx ls (vL (x / y) :: st) s
        | _ => none
      | .lrem => match st with
        | Sum.inr (Sum.inl y) :: Sum.inr (Sum.inl x) :: st => x_nzL M y nx ls (vL (jlrem x y) :: st) s
        | _ => none
      | .lcmp => match st with
        | Sum.inr (Sum.inl y) :: Sum.inr (Sum.inl x) :: st => x_go M nx ls (vI (lg_cmp x y) :: st) s
        | _ => none
      | .i2l => match st with
        | Sum.inl x :: st => x_go M nx ls (vL x.toInt64 :: st) s
        | _ => none
      | .l2i => match st with
        | Sum.inr (Sum.inl x) :: st => x_go M nx ls (vI x.toInt32 :: st) s
        | _ => none
      | .i2b => match st with
        | Sum.inl x :: st => x_go M nx ls (vI x.toInt8.toInt32 :: st) s
        | _ => none
      | .i2s => match st with
        | Sum.inl x :: st => x_go M nx ls (vI x.toInt16.toInt32 :: st) s
        | _ => none
      | .dup => match st with
        | Sum.inl x :: st => x_go M nx ls (vI x :: vI x :: st) s
        | Sum.inr (Sum.inr (c, i)) :: st => x_go M nx ls (vR c i :: vR c i :: st) s
        | _ => none
      | .dup2 => match st with
        | Sum.inl x :: Sum.inr (Sum.inr (c, i)) :: st => x_go M nx ls (vI x :: vR c i :: vI x :: vR c i :: st) s
        | _ => none
      | .pop => match st with
        | Sum.inl _ :: st => x_go M nx ls st s
        | _ => none
      | .goto _ => x_go M a ls st s
      | .if_icmp op _ => match st with
        | Sum.inl y :: Sum.inl x :: st => x_cmp M op x y a nx ls st s
        | _ => none
      | .ifCond op _ => match st with
        | Sum.inl x :: st => x_cmp M op x 0 a nx ls st s
        | _ => none
      | .tableswitch _ lo _ _ => match st with
        | Sum.inl x :: st => some (Sum.inr (Sum.inr (Sum.inr (Sum.inr (x, x_tsw M lo ts ls st s, x_mk M a ls st s)))))
        | _ => none
      | .lookupswitch _ ps => match st with
        | Sum.inl x :: st => some (Sum.inr (Sum.inr (Sum.inr (Sum.inr (x, x_swt M ps.toList ts ls st s, x_mk M a ls st s)))))
        | _ => none
      | .ireturn => match st with
        | [Sum.inl x] => match M.2.1 with
          | 1 => some (Sum.inr (Sum.inl (some (vI x), s)))
          | 3 => some (Sum.inr (Sum.inl (some (vI (x_nb x)), s)))
          | _ => none
        | _ => none
      | .lreturn => match st with
        | [Sum.inr (Sum.inl x)] => match M.2.1 with
          | 2 => some (Sum.inr (Sum.inl (some (vL x), s)))
          | _ => none
        | _ => none
      | .return_ => match st with
        | [] => match M.2.1 with
          | 0 => some (Sum.inr (Sum.inl (none, s)))
          | _ => none
        | _ => none
      | .getfield _ => match st with
        | Sum.inr (Sum.inr (c, i)) :: st => bif x_cls K c == some a then
            match x_get K c i b s with
            | some w => x_go M nx ls (w :: st) s
            | none => none
          else none
        | _ => none
      | .putfield _ => match st with
        | Sum.inl x :: Sum.inr (Sum.inr (c, i)) :: st => bif x_cls K c == some a then
            match x_fty K c b with
            | some 0 => x_go M nx ls st (wI s c i b x)
            | some 4 => bif x == 0 || x == 1 then x_go M nx ls st (wI s c i b x) else none
            | _ => none
          else none
        | Sum.inr (Sum.inl x) :: Sum.inr (Sum.inr (c, i)) :: st => bif x_cls K c == some a then
            match x_fty K c b with
            | some 1 => x_go M nx ls st (wL s c i b x)
            | _ => none
          else none
        | _ => none
      | .arraylength => match st with
        | Sum.inr (Sum.inr (c, _)) :: st => match x_arr K c with
          | some (_, n) => x_go M nx ls (vI (Int32.ofNat n) :: st) s
          | none => none
        | _ => none
      | .iaload => match st with
        | Sum.inl j :: Sum.inr (Sum.inr (c, i)) :: st => match x_arr K c with
          | some (0, n) => x_wi M j n nx ls (vI (s.1 c i j.toNatClampNeg) :: st) s
          | some (3, n) => x_wi M j n nx ls (vI (x_cst j.toNatClampNeg) :: st) s
          | _ => none
        | _ => none
      | .baload => match st with
        | Sum.inl j :: Sum.inr (Sum.inr (c, i)) :: st => match x_arr K c with
          | some (2, n) => x_wi M j n nx ls (vI (s.1 c i j.toNatClampNeg) :: st) s
          | _ => none
        | _ => none
      | .laload => match st with
        | Sum.inl j :: Sum.inr (Sum.inr (c, i)) :: st => match x_arr K c with
          | some (1, n) => x_wi M j n nx ls (vL (s.2 c i j.toNatClampNeg) :: st) s
          | _ => none
        | _ => none
      | .iastore => match st with
        | Sum.inl x :: Sum.inl j :: Sum.inr (Sum.inr (c, i)) :: st => match x_arr K c with
          | some (0, n) => x_wi M j n nx ls st (wI s c i j.toNatClampNeg x)
          | _ => none
        | _ => none
      | .bastore => match st with
        | Sum.inl x :: Sum.inl j :: Sum.inr (Sum.inr (c, i)) :: st => match x_arr K c with
          | some (2, n) => x_wi M j n nx ls st (wI s c i j.toNatClampNeg (x_nb x))
          | _ => none
        | _ => none
      | .lastore => match st with
        | Sum.inr (Sum.inl x) :: Sum.inl j :: Sum.inr (Sum.inr (c, i)) :: st => match x_arr K c with
          | some (1, n) => x_wi M j n nx ls st (wL s c i j.toNatClampNeg x)
          | _ => none
        | _ => none
      | .invokestatic _ => match v with
        | Sum.inr (Sum.inr (n, rk)) => match x_take n st [] with
          | some (as, st) => bif Nat.ble (x_cat st) 8 then some (Sum.inr (Sum.inr (Sum.inl (a, as, rk, x_mk M nx ls st s)))) else none
          | none => none
        | _ => none
      | .invokevirtual _ => match v with
        | Sum.inr (Sum.inr (n, rk)) => match x_take n st [] with
          | some (as, st) => match as with
            | Sum.inr (Sum.inr (c, _)) :: _ => bif Nat.ble (x_cat st) 8 && (Nat.beq b 999 || x_cls K c == some b) then some (Sum.inr (Sum.inr (Sum.inl (a, as, rk, x_mk M nx ls st s)))) else none
            | _ => none
          | none => none
        | _ => none
      | _ => none

def x_in (x : Int32) (n : Nat) : Bool := decide (¬ (x < 0 ∨ n ≤ x.toNatClampNeg))
def x_br {α : Type} (op : Nat) (x y : Int32) (n : Nat) (z : Int64) (A B : α) : α := match op with
  | 0 => if x = y then A else B
  | 1 => if x < y then A else B
  | 2 => if x_in x n then A else B
  | _ => if z = 0 then A else B
def x_sw (x : Int32) (ts : List (Int32 × xC)) (c : xC) (k : xC → Option xO) : Option xO := match ts with
  | [] => k c
  | q :: r => if x = q.1 then k q.2 else x_sw x r c k
def x_ob (o : Option xC) (k : xC → Option xO) : Option xO := match o with
  | some c => k c
  | none => none
def bI (r : Option xO) (k : Int32 → xS → Option xO) : Option xO := match r with
  | some (some (Sum.inl x), s) => k x s
  | _ => none
def bL (r : Option xO) (k : Int64 → xS → Option xO) : Option xO := match r with
  | some (some (Sum.inr (Sum.inl x)), s) => k x s
  | _ => none
def bV (r : Option xO) (k : xS → Option xO) : Option xO := match r with
  | some (none, s) => k s
  | _ => none
def x_bnd (rk : Nat) (r : Option xO) (c : xC) (k : xC → Option xO) : Option xO := match rk with
  | 0 => bV r (fun s => k (c.1, c.2.1, c.2.2.1, s))
  | 1 => bI r (fun x s => k (c.1, c.2.1, vI x :: c.2.2.1, s))
  | 2 => bL r (fun x s => k (c.1, c.2.1, vL x :: c.2.2.1, s))
  | _ => none
abbrev xP : Type := Nat → (List xV → xS → Option xO) ⊕ xM
def x_st0 (M : xM) (as : List xV) (s : xS) : xC := (0, x_pad M.1 (x_ent as), [], s)
/-- its locals hold what it is called with -/
def x_gd (M : xM) (as : List xV) (r : Option xO) : Option xO := bif Nat.ble (x_ent as).length M.1 then r else none
theorem x_gd_some {M : xM} {as : List xV} {r : Option xO} {o : xO} : x_gd M as r = some o ↔ (x_ent as).length ≤ M.1 ∧ r = some o := by
  unfold x_gd
  cases h : Nat.ble (x_ent as).length M.1 with
  | true => exact ⟨fun z => ⟨Nat.le_of_ble_eq_true h, z⟩, fun z => z.2⟩
  | false => exact ⟨fun z => by (cases z), fun z => absurd (Nat.ble_eq_true_of_le z.1) (by rw [h]; exact Bool.false_ne_true)⟩
/-- calls that no row of code stands for want room below them -/
def x_bg (d : Nat) (r : Option xO) : Option xO := bif Nat.ble 8 d then r else none
theorem x_bg_some {d : Nat} {r : Option xO} {o : xO} : x_bg d r = some o ↔ 8 ≤ d ∧ r = some o := by
  unfold x_bg
  cases h : Nat.ble 8 d with
  | true => exact ⟨fun z => ⟨Nat.le_of_ble_eq_true h, z⟩, fun z => z.2⟩
  | false => exact ⟨fun z => by (cases z), fun z => absurd (Nat.ble_eq_true_of_le z.1) (by rw [h]; exact Bool.false_ne_true)⟩
def x_run (K : Nat → Option xT) (P : xP) : Nat → Nat → xM → xC → Option xO
  | 0, _, _, _ => none
  | n + 1, d, M, cf => match x_step K M cf with
    | none => none
    | some (Sum.inl c) => x_run K P n d M c
    | some (Sum.inr (Sum.inl o)) => some o
    | some (Sum.inr (Sum.inr (Sum.inl (f, as, rk, c)))) => match d with
      | 0 => none
      | d' + 1 => x_bnd rk (match P f with
          | Sum.inl g => x_bg d' (g as c.2.2.2)
          | Sum.inr M' => x_gd M' as (x_run K P n d' M' (x_st0 M' as c.2.2.2))) c (x_run K P n (d' + 1) M)
    | some (Sum.inr (Sum.inr (Sum.inr (Sum.inl (op, x, y, k, z, A, B))))) => x_br op x y k z (x_ob A (x_run K P n d M)) (x_ob B (x_run K P n d M))
    | some (Sum.inr (Sum.inr (Sum.inr (Sum.inr (x, ts, c))))) => x_sw x ts c (x_run K P n d M)
theorem bI_mono {r r' : Option xO} {k k' : Int32 → xS → Option xO} {o : xO} (hr : ∀ q, r = some q → r' = some q) (hk : ∀ x s, k x s = some o → k' x s = some o) (h : bI r k = some o) : bI r' k' = some o := by
  unfold bI at h ⊢
  split at h
  · rw [hr _ rfl]; exact hk _ _ h
  · cases h
theorem bL_mono {r r' : Option xO} {k k' : Int64 → xS → Option xO} {o : xO} (hr : ∀ q, r = some q → r' = some q) (hk : ∀ x s, k x s = some o → k' x s = some o) (h : bL r k = some o) : bL r' k' = some o := by
  unfold bL at h ⊢
  split at h
  · rw [hr _ rfl]; exact hk _ _ h
  · cases h
theorem bV_mono {r r' : Option xO} {k k' : xS → Option xO} {o : xO} (hr : ∀ q, r = some q → r' = some q) (hk : ∀ s, k s = some o → k' s = some o) (h : bV r k = some o) : bV r' k' = some o := by
  unfold bV at h ⊢
  split at h
  · rw [hr _ rfl]; exact hk _ h
  · cases h
theorem x_bnd_mono {rk : Nat} {r r' : Option xO} {c : xC} {k k' : xC → Option xO} {o : xO} (hr : ∀ q, r = some q → r' = some q) (hk : ∀ c, k c = some o → k' c = some o) (h : x_bnd rk r c k = some o) : x_bnd rk r' c k' = some o := by
  unfold x_bnd at h ⊢
  split at h
  · exact bV_mono hr (fun _ => hk _) h
  · exact bI_mono hr (fun _ _ => hk _) h
  · exact bL_mono hr (fun _ _ => hk _) h
  · cases h
theorem x_br_mono {op : Nat} {x y : Int32} {n : Nat} {z : Int64} {A B A' B' : Option xO} {o : xO} (hA : A = some o → A' = some o) (hB : B = some o → B' = some o) (h : x_br op x y n z A B = some o) : x_br op x y n z A' B' = some o := by
  unfold x_br at h ⊢
  split at h <;> (split at h <;> (rename_i hc; first | (rw [if_pos hc]; exact hA h) | (rw [if_neg hc]; exact hB h)))
theorem x_ob_mono {A : Option xC} {k k' : xC → Option xO} {o : xO} (hk : ∀ c, k c = some o → k' c = some o) (h : x_ob A k = some o) : x_ob A k' = some o := by
  unfold x_ob at h ⊢
  split at h
  · exact hk _ h
  · cases h
theorem x_sw_mono {x : Int32} {c : xC} {k k' : xC → Option xO} {o : xO} (hk : ∀ c, k c = some o → k' c = some o) : ∀ {ts : List (Int32 × xC)}, x_sw x ts c k = some o → x_sw x ts c k' = some o
  | [], h => hk _ h
  | q :: r, h => by
    unfold x_sw at h ⊢
    split at h
    · next hc => rw [if_pos hc]; exact hk _ h
    · next hc => rw [if_neg hc]; exact x_sw_mono hk h
theorem x_run_mono {K : Nat → Option xT} {P : xP} : ∀ {n m d e : Nat} {M : xM} {c : xC} {o : xO}, n ≤ m → d ≤ e → x_run K P n d M c = some o → x_run K P m e M c = some o
  | 0, _, _, _, _, _, _, _, _, h => by cases h
  | n + 1, 0, _, _, _, _, _, hn, _, _ => by omega
  | n + 1, m + 1, d, e, M, c, o, hn, hd, h => by
    have hn' : n ≤ m := by omega
    unfold x_run at h ⊢
    split at h
    · cases h
    · exact x_run_mono hn' hd h
    · exact h
    · next f as rk c' hst =>
      split at h
      · cases h
      · next d' =>
        match e, hd with
        | e' + 1, hd =>
          refine x_bnd_mono (fun q hq => ?_) (fun c => x_run_mono hn' (by omega)) h
          split at hq
          · exact x_bg_some.mpr ⟨Nat.le_trans (x_bg_some.mp hq).1 (by omega), (x_bg_some.mp hq).2⟩
          · exact x_gd_some.mpr ⟨(x_gd_some.mp hq).1, x_run_mono hn' (by omega) (x_gd_some.mp hq).2⟩
    · exact x_br_mono (x_ob_mono (fun c => x_run_mono hn' hd)) (x_ob_mono (fun c => x_run_mono hn' hd)) h
    · exact x_sw_mono (fun c => x_run_mono hn' hd) h

noncomputable def x_lim (f : Nat → Option xO) : Option xO := @dite _ (∃ n o, f n = some o) (Classical.propDecidable _) (fun h => some (Classical.choose (Classical.choose_spec h))) (fun _ => none)
theorem x_lim_some {f : Nat → Option xO} (hm : ∀ n m o, n ≤ m → f n = some o → f m = some o) {o : xO} : x_lim f = some o ↔ ∃ n, f n = some o := by
  unfold x_lim
  by_cases h : ∃ n o, f n = some o
  · rw [dif_pos h]
    have hs := Classical.choose_spec (Classical.choose_spec h)
    constructor
    · intro e
      cases e
      exact ⟨_, hs⟩
    · intro ⟨n, hn⟩
      have a := hm _ (max n (Classical.choose h)) _ (Nat.le_max_left _ _) hn
      have b := hm _ (max n (Classical.choose h)) _ (Nat.le_max_right _ _) hs
      rw [← b, a]
  · rw [dif_neg h]
    constructor
    · intro e; cases e
    · intro ⟨n, hn⟩; exact absurd ⟨n, o, hn⟩ h
/-- what a run from a place in a method comes to, with d calls below it -/
noncomputable def x_out (K : Nat → Option xT) (P : xP) (d : Nat) (M : xM) (c : xC) : Option xO := x_lim (fun n => x_run K P n d M c)
theorem x_out_some {K : Nat → Option xT} {P : xP} {d : Nat} {M : xM} {c : xC} {o : xO} : x_out K P d M c = some o ↔ ∃ n, x_run K P n d M c = some o :=
  x_lim_some (fun _ _ _ h e => x_run_mono h (Nat.le_refl d) e)
theorem x_ext {a b : Option xO} (h1 : ∀ o, a = some o → b = some o) (h2 : ∀ o, b = some o → a = some o) : a = b := by
  cases a with
  | none => cases b with
    | none => rfl
    | some o => exact h2 o rfl
  | some o => exact (h1 o rfl).symm
/-- what a call comes to -/
noncomputable def x_ev (K : Nat → Option xT) (P : xP) (d : Nat) (f : Nat) (as : List xV) (s : xS) : Option xO := match P f with
  | Sum.inl g => x_bg d (g as s)
  | Sum.inr M => x_gd M as (x_out K P d M (x_st0 M as s))
theorem bI_ex {r : Nat → Option xO} {R : Option xO} {k : Nat → Int32 → xS → Option xO} {k' : Int32 → xS → Option xO} (hr : ∀ q, R = some q ↔ ∃ n, r n = some q) (hm : ∀ n m q, n ≤ m → r n = some q → r m = some q)
    (hk : ∀ x s q, k' x s = some q ↔ ∃ n, k n x s = some q) (hkm : ∀ x s n m q, n ≤ m → k n x s = some q → k m x s = some q) (o : xO) : bI R k' = some o ↔ ∃ n, bI (r n) (k n) = some o := by
  constructor
  · intro h
    unfold bI at h
    split at h
    · next x s =>
      obtain ⟨n, hn⟩ := (hr _).mp rfl
      obtain ⟨m, hm'⟩ := (hk _ _ _).mp h
      refine ⟨max n m, ?_⟩
      rw [hm _ _ _ (Nat.le_max_left n m) hn]
      exact hkm _ _ _ _ _ (Nat.le_max_right n m) hm'
    · cases h
  · intro ⟨n, h⟩
    unfold bI at h
    split at h
    · next x s e =>
      rw [(hr _).mpr ⟨n, e⟩]
      exact (hk _ _ _).mpr ⟨n, h⟩
    · cases h
theorem bL_ex {r : Nat → Option xO} {R : Option xO} {k : Nat → Int64 → xS → Option xO} {k' : Int64 → xS → Option xO} (hr : ∀ q, R = some q ↔ ∃ n, r n = some q) (hm : ∀ n m q, n ≤ m → r n = some q → r m = some q)
    (hk : ∀ x s q, k' x s = some q ↔ ∃ n, k n x s = some q) (hkm : ∀ x s n m q, n ≤ m → k n x s = some q → k m x s = some q) (o : xO) : bL R k' = some o ↔ ∃ n, bL (r n) (k n) = some o := by
  constructor
  · intro h
    unfold bL at h
    split at h
    · next x s =>
      obtain ⟨n, hn⟩ := (hr _).mp rfl
      obtain ⟨m, hm'⟩ := (hk _ _ _).mp h
      refine ⟨max n m, ?_⟩
      rw [hm _ _ _ (Nat.le_max_left n m) hn]
      exact hkm _ _ _ _ _ (Nat.le_max_right n m) hm'
    · cases h
  · intro ⟨n, h⟩
    unfold bL at h
    split at h
    · next x s e =>
      rw [(hr _).mpr ⟨n, e⟩]
      exact (hk _ _ _).mpr ⟨n, h⟩
    · cases h
theorem bV_ex {r : Nat → Option xO} {R : Option xO} {k : Nat → xS → Option xO} {k' : xS → Option xO} (hr : ∀ q, R = some q ↔ ∃ n, r n = some q) (hm : ∀ n m q, n ≤ m → r n = some q → r m = some q)
    (hk : ∀ s q, k' s = some q ↔ ∃ n, k n s = some q) (hkm : ∀ s n m q, n ≤ m → k n s = some q → k m s = some q) (o : xO) : bV R k' = some o ↔ ∃ n, bV (r n) (k n) = some o := by
  constructor
  · intro h
    unfold bV at h
    split at h
    · next s =>
      obtain ⟨n, hn⟩ := (hr _).mp rfl
      obtain ⟨m, hm'⟩ := (hk _ _).mp h
      refine ⟨max n m, ?_⟩
      rw [hm _ _ _ (Nat.le_max_left n m) hn]
      exact hkm _ _ _ _ (Nat.le_max_right n m) hm'
    · cases h
  · intro ⟨n, h⟩
    unfold bV at h
    split at h
    · next s e =>
      rw [(hr _).mpr ⟨n, e⟩]
      exact (hk _ _).mpr ⟨n, h⟩
    · cases h
theorem x_bnd_ex {rk : Nat} {c : xC} {r : Nat → Option xO} {R : Option xO} {k : Nat → xC → Option xO} {k' : xC → Option xO} (hr : ∀ q, R = some q ↔ ∃ n, r n = some q) (hm : ∀ n m q, n ≤ m → r n = some q → r m = some q)
    (hk : ∀ c q, k' c = some q ↔ ∃ n, k n c = some q) (hkm : ∀ c n m q, n ≤ m → k n c = some q → k m c = some q) (o : xO) : x_bnd rk R c k' = some o ↔ ∃ n, x_bnd rk (r n) c (k n) = some o := by
  match rk with
  | 0 => exact bV_ex hr hm (fun _ => hk _) (fun _ => hkm _) o
  | 1 => exact bI_ex hr hm (fun _ _ => hk _) (fun _ _ => hkm _) o
  | 2 => exact bL_ex hr hm (fun _ _ => hk _) (fun _ _ => hkm _) o
  | _ + 3 => simp [x_bnd]
theorem x_sw_ex {x : Int32} {c : xC} {k : Nat → xC → Option xO} {k' : xC → Option xO} (hk : ∀ c q, k' c = some q ↔ ∃ n, k n c = some q) (o : xO) : ∀ ts : List (Int32 × xC), x_sw x ts c k' = some o ↔ ∃ n, x_sw x ts c (k n) = some o
  | [] => hk c o
  | q :: r => by
    unfold x_sw
    by_cases h : x = q.1
    · simp only [if_pos h]; exact hk _ _
    · simp only [if_neg h]; exact x_sw_ex hk o r
theorem x_ob_ex {A : Option xC} {k : Nat → xC → Option xO} {k' : xC → Option xO} (hk : ∀ c q, k' c = some q ↔ ∃ n, k n c = some q) (o : xO) : x_ob A k' = some o ↔ ∃ n, x_ob A (k n) = some o := by
  cases A with
  | none => simp [x_ob]
  | some c => exact hk c o
theorem x_br_ex {op : Nat} {x y : Int32} {j : Nat} {z : Int64} {A B : Option xO} {A' B' : Nat → Option xO} {o : xO} (hA : A = some o ↔ ∃ n, A' n = some o) (hB : B = some o ↔ ∃ n, B' n = some o) : x_br op x y j z A B = some o ↔ ∃ n, x_br op x y j z (A' n) (B' n) = some o := by
  unfold x_br
  split
  · by_cases h : x = y
    · simp only [if_pos h]; exact hA
    · simp only [if_neg h]; exact hB
  · by_cases h : x < y
    · simp only [if_pos h]; exact hA
    · simp only [if_neg h]; exact hB
  · by_cases h : x_in x j = true
    · simp only [if_pos h]; exact hA
    · simp only [if_neg h]; exact hB
  · by_cases h : z = 0
    · simp only [if_pos h]; exact hA
    · simp only [if_neg h]; exact hB
section ADV
variable {K : Nat → Option xT} {P : xP} {d : Nat} {M : xM}
theorem x_run_ex {c : xC} {o : xO} : (∃ n, x_run K P n d M c = some o) ↔ ∃ n, x_run K P (n + 1) d M c = some o :=
  ⟨fun ⟨n, h⟩ => ⟨n, x_run_mono (Nat.le_succ n) (Nat.le_refl d) h⟩, fun ⟨n, h⟩ => ⟨n + 1, h⟩⟩
/-- one step of what a run comes to -/
noncomputable def x_one (K : Nat → Option xT) (P : xP) (d : Nat) (M : xM) (k : xC → Option xO) (c : xC) : Option xO := match x_step K M c with
    | none => none
    | some (Sum.inl c) => k c
    | some (Sum.inr (Sum.inl o)) => some o
    | some (Sum.inr (Sum.inr (Sum.inl (f, as, rk, c)))) => match d with
      | 0 => none
      | d' + 1 => x_bnd rk (x_ev K P d' f as c.2.2.2) c k
    | some (Sum.inr (Sum.inr (Sum.inr (Sum.inl (op, x, y, j, z, A, B))))) => x_br op x y j z (x_ob A k) (x_ob B k)
    | some (Sum.inr (Sum.inr (Sum.inr (Sum.inr (x, ts, c))))) => x_sw x ts c k
theorem x_one_out (c : xC) : x_one K P d M (x_out K P d M) c = x_out K P d M c := by
  have key : ∀ o, x_one K P d M (x_out K P d M) c = some o ↔ x_out K P d M c = some o := by
    intro o
    rw [x_out_some, x_run_ex]
    unfold x_one x_run
    split
    · simp
    · exact x_out_some
    · simp
    · next f as rk c' _ =>
      cases d with
      | zero => simp
      | succ d' =>
        have hr : ∀ q, x_ev K P d' f as c'.2.2.2 = some q ↔ ∃ n, (match P f with
          | Sum.inl g => x_bg d' (g as c'.2.2.2)
          | Sum.inr M' => x_gd M' as (x_run K P n d' M' (x_st0 M' as c'.2.2.2))) = some q := by
          intro q
          unfold x_ev
          split
          · simp
          · rw [x_gd_some, x_out_some]
            exact ⟨fun ⟨a, n, b⟩ => ⟨n, x_gd_some.mpr ⟨a, b⟩⟩, fun ⟨n, b⟩ => ⟨(x_gd_some.mp b).1, n, (x_gd_some.mp b).2⟩⟩
        have hm : ∀ n m q, n ≤ m → (match P f with
          | Sum.inl g => x_bg d' (g as c'.2.2.2)
          | Sum.inr M' => x_gd M' as (x_run K P n d' M' (x_st0 M' as c'.2.2.2))) = some q → (match P f with
          | Sum.inl g => x_bg d' (g as c'.2.2.2)
          | Sum.inr M' => x_gd M' as (x_run K P m d' M' (x_st0 M' as c'.2.2.2))) = some q := by
          intro n m q h1 h2
          split at h2
          · exact h2
          · exact x_gd_some.mpr ⟨(x_gd_some.mp h2).1, x_run_mono h1 (Nat.le_refl _) (x_gd_some.mp h2).2⟩
        exact x_bnd_ex hr hm (fun _ _ => x_out_some) (fun _ _ _ _ h e => x_run_mono h (Nat.le_refl _) e) o
    · exact x_br_ex (x_ob_ex (fun _ _ => x_out_some) o) (x_ob_ex (fun _ _ => x_out_some) o)
    · exact x_sw_ex (fun _ _ => x_out_some) o _
  exact x_ext (fun o h => (key o).mp h) (fun o h => (key o).mpr h)
/-- lists laid out, element by element, ahead of what comes of them -/
def x_frc {α β : Type} (l : List α) (k : List α → β) : β := match l with
  | [] => k []
  | a :: r => x_frc r (fun r' => k (a :: r'))
theorem x_frc_eq {α β : Type} : ∀ (l : List α) (k : List α → β), x_frc l k = k l
  | [], _ => rfl
  | a :: r, k => x_frc_eq r (fun r' => k (a :: r'))
def x_frC {β : Type} (c : xC) (k : xC → β) : β := match c with
  | (pc, ls, st, s) => x_frc ls (fun ls => x_frc st (fun st => k (pc, ls, st, s)))
theorem x_frC_eq {β : Type} (c : xC) (k : xC → β) : x_frC c k = k c := by
  obtain ⟨pc, ls, st, s⟩ := c
  show x_frc ls _ = _
  rw [x_frc_eq, x_frc_eq]
/-- n steps on, but to where one is to stop -/
noncomputable def x_adv (K : Nat → Option xT) (P : xP) (d : Nat) (M : xM) (cuts : List Nat) : Nat → xC → Option xO
  | 0, c => x_out K P d M c
  | n + 1, c => x_one K P d M (fun c => x_frC c (fun c => bif cuts.elem c.1 then x_out K P d M c else x_adv K P d M cuts n c)) c
theorem x_adv_out (cuts : List Nat) : ∀ (n : Nat) (c : xC), x_adv K P d M cuts n c = x_out K P d M c
  | 0, _ => rfl
  | n + 1, c => by
    have e : (fun c : xC => x_frC c (fun c => bif cuts.elem c.1 then x_out K P d M c else x_adv K P d M cuts n c)) = x_out K P d M := by
      funext c
      rw [x_frC_eq]
      cases cuts.elem c.1 with
      | true => rfl
      | false => exact x_adv_out cuts n c
    show x_one K P d M _ c = _
    rw [e]
    exact x_one_out c
end ADV

/-! What a row of code must say. -/
/-- classes, arrays, links: what the tables say, in the light machine's numbers.
nm: names of classes; inf: of a method its class, name, code, answer, parameters, static or not; lm: methods by link; fl: fields by link (class, field, not final); kI, kL: constants by link; kS: texts and the row of constants by link -/
abbrev xN : Type := (Nat → String) × (Nat → Option (Nat × MethodName × ByteArray × Option FieldType × Nat × Bool)) × (Nat → Nat → Option Nat) × (Nat → Nat → Option (Nat × Nat × Bool)) × (Nat → Nat → Option Int32) × (Nat → Nat → Option Int64) × (Nat → Nat → Option xV)
abbrev xN.nm (N : xN) := N.1
abbrev xN.inf (N : xN) := N.2.1
abbrev xN.lm (N : xN) := N.2.2.1
abbrev xN.fl (N : xN) := N.2.2.2.1
abbrev xN.kI (N : xN) := N.2.2.2.2.1
abbrev xN.kL (N : xN) := N.2.2.2.2.2.1
abbrev xN.kS (N : xN) := N.2.2.2.2.2.2
def x_len : Instr → Nat
  | .bipush _ | .ldc _ | .iload _ | .lload _ | .aload _ | .istore _ | .lstore _ | .astore _ | .newarray _ => 2
  | .sipush _ | .ldc_w _ | .ldc2_w _ | .iinc _ _ | .goto _ | .if_icmp _ _ | .ifCond _ _ | .getfield _ | .putfield _ | .getstatic _ | .invokevirtual _ | .invokestatic _ | .invokespecial _ | .new _ => 3
  | _ => 1
def x_rk (q : Nat) : Nat := match q with
  | 3 => 1
  | q => q
def x_isK (k : Nat) (v : xV) : Bool := match v with
  | Sum.inr (Sum.inr (c, _)) => Nat.beq c k
  | _ => false
theorem x_isK_ok {k : Nat} {v : xV} (h : x_isK k v = true) : ∃ i, v = vR k i := by
  match v, h with
  | Sum.inr (Sum.inr (c, i)), h => exact ⟨i, by rw [Nat.eq_of_beq_eq_true h]⟩
/-- a row of code says what its instruction says -/
def x_ok (P : xP) (N : xN) (o nL : Nat) (w : xE) : Bool := match w with
  | (pc, ins, nx, a, b, v, ts) => match ins with
    | .iconst n => decide (nx = pc + 1) && decide (v = vI (Int32.ofInt n))
    | .bipush n => decide (nx = pc + 2) && decide (v = vI (Int8.ofInt n).toInt32)
    | .sipush n => decide (nx = pc + 3) && decide (v = vI (Int16.ofInt n).toInt32)
    | .lconst n => decide (nx = pc + 1) && decide (v = vL (Int64.ofNat n))
    | .ldc i => decide (nx = pc + 2) && (match v with
      | Sum.inl x => decide (N.kI o i = some x)
      | v => decide (N.kS o i = some v) && x_isK 900 v)
    | .ldc_w i => decide (nx = pc + 3) && (match v with
      | Sum.inl x => decide (N.kI o i = some x)
      | v => decide (N.kS o i = some v) && x_isK 900 v)
    | .ldc2_w i => decide (nx = pc + 3) && (match v with
      | Sum.inr (Sum.inl x) => decide (N.kL o i = some x)
      | _ => false)
    | .getstatic i => decide (nx = pc + 3) && decide (N.kS o i = some v) && x_isK 74 v
    | .iload i | .lload i | .aload i => decide (nx = pc + 2) && decide (a = i)
    | .iload_n i | .lload_n i | .aload_n i => decide (nx = pc + 1) && decide (a = i.val)
    | .istore i => decide (nx = pc + 2) && decide (a = i) && decide (a < nL)
    | .istore_n i => decide (nx = pc + 1) && decide (a = i.val) && decide (a < nL)
    | .lstore i => decide (nx = pc + 2) && decide (a = i) && decide (a + 1 < nL)
    | .lstore_n i => decide (nx = pc + 1) && decide (a = i.val) && decide (a + 1 < nL)
    | .iinc i n => decide (nx = pc + 3) && decide (a = i) && decide (a < nL) && decide (v = vI (Int32.ofInt n))
    | .goto off => decide (nx = pc + 3) && decide ((pc : Int) + off = (a : Int))
    | .if_icmp _ off | .ifCond _ off => decide (nx = pc + 3) && decide ((pc : Int) + off = (a : Int))
    | .tableswitch df lo hi offs => decide (pc < nx) && decide ((pc : Int) + df = (a : Int)) && decide (offs.toList.map (fun z => (pc : Int) + z) = ts.map Int.ofNat) && decide (hi + 1 = lo + ts.length) && decide (0 ≤ lo) && decide (hi < 1000)
    | .lookupswitch df ps => decide (pc < nx) && decide ((pc : Int) + df = (a : Int)) && decide (ps.toList.map (fun z => (pc : Int) + z.2) = ts.map Int.ofNat) && ps.toList.all (fun z => decide (0 ≤ z.1) && decide (z.1 < 1000)) && (ps.toList.zip (ps.toList.drop 1)).all (fun (a, next) => a.1 < next.1)
    | .getfield i => decide (nx = pc + 3) && (match N.fl o i with
      | some (ci, k, _) => decide (ci = a) && decide (k = b)
      | none => false)
    | .putfield i => decide (nx = pc + 3) && (match N.fl o i with
      | some (ci, k, nf) => decide (ci = a) && decide (k = b) && nf
      | none => false)
    | .invokevirtual i => decide (nx = pc + 3) && decide (N.lm o i = some a) && (match N.inf a with
      | some (o', _, _, _, np, stc) => decide (o' = b) && !stc && (match v with
        | Sum.inr (Sum.inr (n, _)) => decide (n = np + 1)
        | _ => false)
      | none => decide (b = 999))
    | .invokestatic i => decide (nx = pc + 3) && decide (N.lm o i = some a) && (match N.inf a with
      | some (_, _, _, _, np, stc) => stc && (match v with
        | Sum.inr (Sum.inr (n, _)) => decide (n = np)
        | _ => false)
      | none => true)
    | _ => decide (nx = pc + 1)

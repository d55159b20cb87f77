/-! Printed by gen2.py: each method's rows say what its bytecode says. -/
def x_mkC (M : xM) (q : Nat × MethodName × ByteArray × Option FieldType × Nat × Bool) (p1 p2 p3 p4 : Nat) : Bool := match q with
  | (o, y, cc, ret, np, stc) => x_wd p1 (.code y cc M.1 ret) && x_wd p2 (.initialized y.cls) && decide (y.cls = x_nm o) && plainFor y && decide (y.cls ≠ "java/lang/invoke/MethodHandle") && decide (y.cls ≠ "java/lang/invoke/VarHandle") && decide ((parseMethodDescriptor y.desc).map (fun d => d.parameters.length) = some np) && decide (M.1 ≤ 22) && decide (o < 900) &&
    (bif stc then x_wd p3 (.static y) else x_wd p3 (.instanceMethod y) && x_wd p4 (.selects y.cls y y) && (match vwCl[o]? with
      | some (C, _, _) => decide (C = y.cls)
      | none => false)) && M.2.2.2.all (fun w => decide (decode cc w.1 = .ok (w.2.1, w.2.2.1 - w.1)) && x_ok x_Pr x_N o M.1 w) && (match M.2.1 with
      | 0 => decide (ret = none)
      | 1 => decide (ret = some .int)
      | 2 => decide (ret = some .long)
      | _ => decide (ret = some .boolean))

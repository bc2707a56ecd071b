/-! MJ: what is checked of the tables once -/
section MJCK
noncomputable def mjXB (nL : Nat) (own : String) (ini : Bool) (pc : Nat) (x : mjX) : Bool :=
  (decide (mjLen x.1 = 0) || decide (x.2.1 = mjLen x.1)) && mjPre x.1 pc x.2.2.2.1 nL && mjLk own ini x && mjLk2 own x
noncomputable def mjTB (k : Nat) : Bool := match mjM k with
  | some (y, nL, ret, own, hh, np, stt) => mjWalk (mjCd k) (mjCd k).data.toList 0 (mjTb k).flatten && (mjTb k).all (fun l => l.all (fun q => mjXB nL own (y.name == "<init>") q.1 q.2)) && decide (nL ≤ 21)
  | none => true
/-- a method's own words -/
noncomputable def mjCw (k : Nat) : Bool := match mjM k with
  | some (y, nL, ret, own, hh, np, stt) => (match mjW (mjWq k).1 with
    | some (.code y' c' n' r') => decide (hh = []) && decide (y' = y) && decide (n' = nL) && decide (r' = ret)
    | some (.codeWith y' c' n' r' h') => decide (hh ≠ []) && decide (h' = hh) && decide (y' = y) && decide (n' = nL) && decide (r' = ret)
    | _ => false)
  | none => true
noncomputable def mjMB (k : Nat) : Bool := match mjM k, mjWq k with
  | some (y, nL, ret, own, hh, np, stt), (p1, p2, p3, p4) =>
    mjCw k && (if stt then mjIs p2 (.static y) else mjIs p2 (.instanceMethod y)) && (stt || (y.name == "<init>") || mjIs p3 (.selects y.cls y y)) && mjIs p4 (.initialized y.cls) &&
      decide (y.cls = own) && decide (y.cls ≠ "java/lang/invoke/MethodHandle") && decide (y.cls ≠ "java/lang/invoke/VarHandle") && plainName y.cls &&
      (hh.length == (mjHd k).length) && (hh.zip (mjHd k)).all (fun q => decide (q.1.2.2.2 ≠ 0) && (match mjEp[q.2.1]? with | some (E, _) => mjIs q.2.2 (.classLink own q.1.2.2.2 E) | none => false))
  | none, _ => true
/-- a method's parameters -/
noncomputable def mjPB (k : Nat) : Bool := match mjM k with
  | some (y, nL, ret, own, hh, np, stt) => decide ((parseMethodDescriptor y.desc).map (fun d => d.parameters.length) = some np)
  | none => true
end MJCK

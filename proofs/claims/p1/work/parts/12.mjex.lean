/-! MJ: the tables, what is checked of them once; the run -/
section MJEX
noncomputable def mjM (k : Nat) : Option (MethodName × ByteArray × Nat × Option FieldType × String × List (Nat × Nat × Nat × Nat) × Nat × Bool) := match mjMs[k / 16]? with
  | some l => l[k % 16]?
  | none => none
noncomputable def mjTb (k : Nat) : List (List (Nat × mjX)) := match mjTabs[k / 16]? with
  | some l => match l[k % 16]? with
    | some t => t
    | none => []
  | none => []
noncomputable def mjHd (k : Nat) : List (Nat × Nat) := match mjHs[k / 16]? with
  | some l => match l[k % 16]? with
    | some t => t
    | none => []
  | none => []
noncomputable def mjWq (k : Nat) : Nat × Nat × Nat × Nat := match mjWp[k / 16]? with
  | some l => match l[k % 16]? with
    | some t => t
    | none => (0, 0, 0, 0)
  | none => (0, 0, 0, 0)
def mjFind : List (Nat × mjX) → Nat → Option mjX
  | [], _ => none
  | q :: r, pc => if q.1 == pc then some q.2 else mjFind r pc
theorem mjFind_mem {l : List (Nat × mjX)} {pc : Nat} {x : mjX} (h : mjFind l pc = some x) : (pc, x) ∈ l := by
  induction l with
  | nil => simp [mjFind] at h
  | cons q r ih =>
    simp only [mjFind] at h
    by_cases hq : q.1 = pc
    · rw [if_pos (by simp [hq])] at h
      cases h
      subst hq
      exact List.mem_cons_self
    · rw [if_neg (by simp [hq])] at h
      exact List.mem_cons_of_mem _ (ih h)
noncomputable def mjAtI (k pc : Nat) : Option mjX := match (mjTb k)[pc / 32]? with
  | some l => mjFind l pc
  | none => none
theorem mjAtI_mem {k pc : Nat} {x : mjX} (h : mjAtI k pc = some x) : ∃ l ∈ mjTb k, (pc, x) ∈ l := by
  unfold mjAtI at h
  split at h
  · rename_i l hl
    exact ⟨l, List.mem_of_getElem? hl, mjFind_mem h⟩
  · cases h
/-- static facts of calls and makings -/
noncomputable def mjLk2 (own : String) (x : mjX) : Bool := match x.1 with
  | .new i => if x.2.2.2.1 = 0 then (match vwCl[x.2.2.1]? with | some r => mjIs x.2.2.2.2 (.classLink own i r.1) | none => false)
    else (match mjEp[x.2.2.1]? with | some (E, pi) => mjIs x.2.2.2.2 (.classLink own i E) && mjIs pi (.initialized E) | none => false)
  | .newarray t => decide (x.2.2.1 < 4) && decide (newarray.typeOf t = mjAty (100 + x.2.2.1)) && mjIs x.2.2.2.2 (.arrayClass (mjAty (100 + x.2.2.1)))
  | .anewarray i => if x.2.2.1 = 4 then mjIs x.2.2.2.2 (.classLink own i RX4) else decide (x.2.2.1 = 5) && mjIs x.2.2.2.2 (.classLink own i RX7)
  | .multianewarray i n => decide (n = 2) && mjIs x.2.2.2.2 (.classLink own i ("[" ++ (FieldType.array .int).toString)) && mjIs (mjAp.getD 0 0) (.arrayClass .int)
  | .invokevirtual i => match mjM x.2.2.1 with | some (y, _, _, _, _, hh, _, stt) => !stt && decide (x.2.2.1 < mjLaw) && decide (hh = []) && !(y.name == "<init>") && mjIs x.2.2.2.2 (.methodLink own i y) | none => true
  | .invokestatic i => match mjM x.2.2.1 with
    | some (y, _, _, _, _, hh, _, stt) => stt && decide (x.2.2.1 < mjLaw) && (if x.2.2.2.1 = 7 then decide (hh = []) && decide (Cond.methodLinkNest own i y RX11 ∈ mjNw) else mjIs x.2.2.2.2 (.methodLink own i y))
    | none => true
  | .invokespecial i => if x.2.2.1 = 998 then mjIs x.2.2.2.2 (.methodLink own i objectInit) else match mjM x.2.2.1 with
    | some (y, _, _, ret, _, hh, _, stt) => !stt && decide (x.2.2.1 < mjLaw) && decide (hh = []) && (y.name == "<init>") && decide (ret = none) && (if x.2.2.2.1 = 3 then decide (Cond.methodLinkNest own i y RX11 ∈ mjNw) else mjIs x.2.2.2.2 (.methodLink own i y))
    | none => true
  | _ => true
/-- an instruction of a method's table -/
noncomputable def mjXB (code : ByteArray) (nL : Nat) (own : String) (ini : Bool) (pc : Nat) (x : mjX) : Bool :=
  (match decode code pc with | .ok (i, n) => decide (i = x.1) && decide (n = x.2.1) | .error _ => false) && (decide (mjLen x.1 = 0) || decide (x.2.1 = mjLen x.1)) && mjPre x.1 pc x.2.2.2.1 nL && mjLk own ini x && mjLk2 own x
noncomputable def mjTB (k : Nat) : Bool := match mjM k with
  | some (y, code, nL, ret, own, hh, np, stt) => (mjTb k).all (fun l => l.all (fun q => mjXB code nL own (y.name == "<init>") q.1 q.2)) && decide (nL ≤ 21)
  | none => true
/-- a method's own words -/
noncomputable def mjMB (k : Nat) : Bool := match mjM k, mjWq k with
  | some (y, code, nL, ret, own, hh, np, stt), (p1, p2, p3, p4) =>
    (if hh = [] then mjIs p1 (.code y code nL ret) else mjIs p1 (.codeWith y code nL ret hh)) && (if stt then mjIs p2 (.static y) else mjIs p2 (.instanceMethod y)) && (stt || (y.name == "<init>") || mjIs p3 (.selects y.cls y y)) && mjIs p4 (.initialized y.cls) &&
      decide (y.cls = own) && decide (y.cls ≠ "java/lang/invoke/MethodHandle") && decide (y.cls ≠ "java/lang/invoke/VarHandle") && plainName y.cls && decide ((parseMethodDescriptor y.desc).map (fun d => d.parameters.length) = some np) &&
      (hh.length == (mjHd k).length) && (hh.zip (mjHd k)).all (fun q => decide (q.1.2.2.2 ≠ 0) && (match mjEp[q.2.1]? with | some (E, _) => mjIs q.2.2 (.classLink own q.1.2.2.2 E) | none => false))
  | none, _ => true
end MJEX

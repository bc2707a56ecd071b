/-! MJ: the tables, what is checked of them once; the run -/
section MJEX
noncomputable def mjM (k : Nat) : Option (MethodName × Nat × Option FieldType × String × List (Nat × Nat × Nat × Nat) × Nat × Bool) := match mjMs[k / 16]? with
  | some l => l[k % 16]?
  | none => none
noncomputable def mjTb (k : Nat) : List (List (Nat × mjX)) := match mjTabs[k / 16]? with
  | some l => match l[k % 16]? with
    | some t => t
    | none => []
  | none => []
noncomputable def mjHd (k : Nat) : List (Nat × Nat) := match mjHs[k / 16]? with
  | some l => match l[k % 16]? with
    | some t => t
    | none => []
  | none => []
noncomputable def mjWq (k : Nat) : Nat × Nat × Nat × Nat := match mjWp[k / 16]? with
  | some l => match l[k % 16]? with
    | some t => t
    | none => (0, 0, 0, 0)
  | none => (0, 0, 0, 0)
/-- a method's code, out of its word -/
noncomputable def mjCd (k : Nat) : ByteArray := if k = mjLaw then code else match mjW (mjWq k).1 with
  | some (.code _ c _ _) => c
  | some (.codeWith _ c _ _ _) => c
  | _ => ByteArray.empty
def mjFind : List (Nat × mjX) → Nat → Option mjX
  | [], _ => none
  | q :: r, pc => if q.1 == pc then some q.2 else mjFind r pc
theorem mjFind_mem {l : List (Nat × mjX)} {pc : Nat} {x : mjX} (h : mjFind l pc = some x) : (pc, x) ∈ l := by
  induction l with
  | nil => simp [mjFind] at h
  | cons q r ih =>
    simp only [mjFind] at h
    by_cases hq : q.1 = pc
    · rw [if_pos (by simp [hq])] at h
      cases h
      subst hq
      exact List.mem_cons_self
    · rw [if_neg (by simp [hq])] at h
      exact List.mem_cons_of_mem _ (ih h)
noncomputable def mjAtI (k pc : Nat) : Option mjX := match (mjTb k)[pc / 32]? with
  | some l => mjFind l pc
  | none => none
theorem mjAtI_mem {k pc : Nat} {x : mjX} (h : mjAtI k pc = some x) : ∃ l ∈ mjTb k, (pc, x) ∈ l := by
  unfold mjAtI at h
  split at h
  · rename_i l hl
    exact ⟨l, List.mem_of_getElem? hl, mjFind_mem h⟩
  · cases h
/-- static facts of calls and makings -/
noncomputable def mjLk2 (own : String) (x : mjX) : Bool := match x.1 with
  | .new i => if x.2.2.2.1 = 0 then (match vwCl[x.2.2.1]? with | some r => mjIs x.2.2.2.2 (.classLink own i r.1) | none => false)
    else (match mjEp[x.2.2.1]? with | some (E, pi) => mjIs x.2.2.2.2 (.classLink own i E) && mjIs pi (.initialized E) | none => false)
  | .newarray t => decide (x.2.2.1 < 4) && decide (newarray.typeOf t = mjAty (100 + x.2.2.1)) && mjIs x.2.2.2.2 (.arrayClass (mjAty (100 + x.2.2.1)))
  | .anewarray i => if x.2.2.1 = 4 then mjIs x.2.2.2.2 (.classLink own i RX4) else decide (x.2.2.1 = 5) && mjIs x.2.2.2.2 (.classLink own i RX7)
  | .multianewarray i n => decide (n = 2) && mjIs x.2.2.2.2 (.classLink own i ("[" ++ (FieldType.array .int).toString)) && mjIs (mjAp.getD 0 0) (.arrayClass .int)
  | .invokevirtual i => match mjM x.2.2.1 with | some (y, _, _, _, hh, _, stt) => !stt && decide (x.2.2.1 < mjLaw) && decide (hh = []) && !(y.name == "<init>") && mjIs x.2.2.2.2 (.methodLink own i y) | none => true
  | .invokestatic i => if x.2.2.1 = 902 then mjIs x.2.2.2.2 (.methodLink own i Lib.Math.max.name) && mjIs (mjMp.getD 0 0) (.static Lib.Math.max.name) && mjIs (mjMp.getD 1 0) (.code Lib.Math.max.name Lib.Math.max.code 2 (some .int)) && mjIs (mjMp.getD 4 0) (.initialized "java/lang/Math")
    else if x.2.2.1 = 903 then mjIs x.2.2.2.2 (.methodLink own i Lib.Math.min.name) && mjIs (mjMp.getD 2 0) (.static Lib.Math.min.name) && mjIs (mjMp.getD 3 0) (.code Lib.Math.min.name Lib.Math.min.code 2 (some .int)) && mjIs (mjMp.getD 4 0) (.initialized "java/lang/Math")
    else match mjM x.2.2.1 with
    | some (y, _, _, _, hh, _, stt) => stt && decide (x.2.2.1 < mjLaw) && (if x.2.2.2.1 = 7 then decide (hh = []) && decide (Cond.methodLinkNest own i y RX11 ∈ mjNw) else mjIs x.2.2.2.2 (.methodLink own i y))
    | none => true
  | .invokespecial i => if x.2.2.1 = 998 then mjIs x.2.2.2.2 (.methodLink own i objectInit) else match mjM x.2.2.1 with
    | some (y, _, ret, _, hh, _, stt) => !stt && decide (x.2.2.1 < mjLaw) && decide (hh = []) && (y.name == "<init>") && decide (ret = none) && (if x.2.2.2.1 = 3 then decide (Cond.methodLinkNest own i y RX11 ∈ mjNw) else mjIs x.2.2.2.2 (.methodLink own i y))
    | none => true
  | _ => true
end MJEX

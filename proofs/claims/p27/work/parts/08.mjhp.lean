/-! MJ: reading and writing the heap -/
section MJHP
/-- reading, writing, constants -/
def mjHp (scr : Option (List Int32)) (x : mjX) (pc : Nat) (st : List Value) (hp : mjH) : Option (Nat × List Value × mjH) := match x.1 with
  | .getfield _ => match st with
    | .ref o :: r => match hp[o]? with
      | some (t, vs) => if t = x.2.2.1 then (match vs[x.2.2.2.1]? with | some v => some (pc + 3, v :: r, hp) | none => none) else none
      | none => none
    | _ => none
  | .putfield _ => match st with
    | v :: .ref o :: r => match hp[o]? with
      | some (t, vs) => if t = x.2.2.1 ∧ x.2.2.2.1 < vs.length ∧ mjOk (mjTy x.2.2.1 x.2.2.2.1) hp.length v = true then some (pc + 3, r, hp.set o (t, vs.set x.2.2.2.1 v)) else none
      | none => none
    | _ => none
  | .arraylength => match st with
    | .ref o :: r => if o = mjScr then (match scr with | some xs => some (pc + 1, .int (Int32.ofNat xs.length) :: r, hp) | none => none)
      else match hp[o]? with
        | some (t, vs) => if 100 ≤ t ∧ t < 107 then some (pc + 1, .int (Int32.ofNat vs.length) :: r, hp) else none
        | none => none
    | _ => none
  | .iaload => match st with
    | .int i :: .ref o :: r => if o = mjScr then (match scr with | some xs => if i < 0 ∨ xs.length ≤ i.toNatClampNeg then none else some (pc + 1, .int (xs.getD i.toNatClampNeg 0) :: r, hp) | none => none)
      else match hp[o]? with
        | some (t, vs) => if t = 100 ∧ ¬ i < 0 then (match vs[i.toNatClampNeg]? with | some v => some (pc + 1, v :: r, hp) | none => none) else none
        | none => none
    | _ => none
  | .laload => match st with
    | .int i :: .ref o :: r => match hp[o]? with
        | some (t, vs) => if t = 101 ∧ ¬ i < 0 then (match vs[i.toNatClampNeg]? with | some v => some (pc + 1, v :: r, hp) | none => none) else none
        | none => none
    | _ => none
  | .baload => match st with
    | .int i :: .ref o :: r => match hp[o]? with
        | some (t, vs) => if (t = 102 ∨ t = 103) ∧ ¬ i < 0 then (match vs[i.toNatClampNeg]? with | some v => some (pc + 1, v :: r, hp) | none => none) else none
        | none => none
    | _ => none
  | .aaload => match st with
    | .int i :: .ref o :: r => match hp[o]? with
        | some (t, vs) => if (t = 104 ∨ t = 105 ∨ t = 106) ∧ ¬ i < 0 then (match vs[i.toNatClampNeg]? with | some v => some (pc + 1, v :: r, hp) | none => none) else none
        | none => none
    | _ => none
  | .iastore => match st with
    | .int v :: .int i :: .ref o :: r => match hp[o]? with
        | some (t, vs) => if t = 100 ∧ ¬ i < 0 ∧ i.toNatClampNeg < vs.length then some (pc + 1, r, hp.set o (t, vs.set i.toNatClampNeg (.int v))) else none
        | none => none
    | _ => none
  | .lastore => match st with
    | .long v :: .int i :: .ref o :: r => match hp[o]? with
        | some (t, vs) => if t = 101 ∧ ¬ i < 0 ∧ i.toNatClampNeg < vs.length then some (pc + 1, r, hp.set o (t, vs.set i.toNatClampNeg (.long v))) else none
        | none => none
    | _ => none
  | .bastore => match st with
    | .int v :: .int i :: .ref o :: r => match hp[o]? with
        | some (t, vs) => if t = 102 ∧ ¬ i < 0 ∧ i.toNatClampNeg < vs.length then some (pc + 1, r, hp.set o (t, vs.set i.toNatClampNeg (.int v.toInt8.toInt32)))
          else if t = 103 ∧ ¬ i < 0 ∧ i.toNatClampNeg < vs.length then some (pc + 1, r, hp.set o (t, vs.set i.toNatClampNeg (.int (v &&& 1)))) else none
        | none => none
    | _ => none
  | .aastore => match st with
    | .ref v :: .int i :: .ref o :: r => match hp[o]?, hp[v]? with
        | some (t, vs), some (t2, _) => if ((t = 104 ∧ t2 = 2) ∨ (t = 105 ∧ t2 = 5)) ∧ ¬ i < 0 ∧ i.toNatClampNeg < vs.length then some (pc + 1, r, hp.set o (t, vs.set i.toNatClampNeg (.ref v))) else none
        | _, _ => none
    | _ => none
  | .ldc _ => some (pc + 2, (if x.2.2.2.1 = 0 then .int (Int32.ofNat x.2.2.1) else .ref (mjS0 + x.2.2.1)) :: st, hp)
  | .ldc_w _ => if x.2.2.2.1 = 0 then some (pc + 3, .int (Int32.ofNat x.2.2.1) :: st, hp) else none
  | .ldc2_w _ => some (pc + 3, .long (Int64.ofNat x.2.2.1) :: st, hp)
  | _ => none
/-- the texts: class, entry, text -/
noncomputable def mjStx (j : Nat) : Option (String × Nat × String) := match mjStr[j / 16]? with
  | some l => l[j % 16]?
  | none => none
/-- static facts of an instruction that names something -/
noncomputable def mjLk (own : String) (ini : Bool) (x : mjX) : Bool := match x.1 with
  | .getfield i => match vwCl[x.2.2.1]? with
    | some r => decide (x.2.2.2.1 < r.2.2) && mjIs x.2.2.2.2 (.fieldLink own i (r.2.1 x.2.2.2.1).1 (r.2.1 x.2.2.2.1).2.1 (r.2.1 x.2.2.2.1).2.2.1)
    | none => false
  | .putfield i => match vwCl[x.2.2.1]? with
    | some r => decide (x.2.2.2.1 < r.2.2) && mjIs x.2.2.2.2 (.fieldLink own i (r.2.1 x.2.2.2.1).1 (r.2.1 x.2.2.2.1).2.1 (r.2.1 x.2.2.2.1).2.2.1) &&
      (!(r.2.1 x.2.2.2.1).2.2.2 || (ini && decide ((r.2.1 x.2.2.2.1).1 = own)))
    | none => false
  | .ldc i => if x.2.2.2.1 = 0 then mjIs x.2.2.2.2 (.constant own i (Int32.ofNat x.2.2.1)) else match mjStx x.2.2.1 with | some (o, j, _) => decide (o = own ∧ j = i) | none => false
  | .ldc_w i => if x.2.2.2.1 = 0 then mjIs x.2.2.2.2 (.constant own i (Int32.ofNat x.2.2.1)) else match mjStx x.2.2.1 with | some (o, j, _) => decide (o = own ∧ j = i) | none => false
  | .ldc2_w i => mjIs x.2.2.2.2 (.constantLong own i (Int64.ofNat x.2.2.1))
  | _ => true
end MJHP

/-! MJ: a small machine over numbered cells, that does what the bytecode does -/
section MJDEF
/-- a value of the small machine, its cells at their addresses -/
def rl (ad : Nat → Nat) (v : Value) : Value := match v with
  | .ref i => .ref (ad i)
  | .int x => .int x
  | .long x => .long x
  | .float x => .float x
  | .double x => .double x
  | .null => .null
  | .retAddr x => .retAddr x
theorem rl_cat (ad : Nat → Nat) (v : Value) : (rl ad v).category = v.category := by cases v <;> rfl
abbrev rls (ad : Nat → Nat) (vs : List Value) : List Value := vs.map (rl ad)
abbrev rll (ad : Nat → Nat) (ls : mjL) : mjL := ls.map (fun q => (q.1, rl ad q.2))
def mjGet : mjL → Nat → Option Value
  | [], _ => none
  | q :: r, i => if q.1 == i then some q.2 else mjGet r i
theorem mjGet_mem {ls : mjL} {i : Nat} {v : Value} (h : mjGet ls i = some v) : (i, v) ∈ ls := by
  induction ls with
  | nil => simp [mjGet] at h
  | cons q r ih =>
    simp only [mjGet] at h
    by_cases hq : q.1 = i
    · rw [if_pos (by simp [hq])] at h
      cases h
      subst hq
      exact List.mem_cons_self
    · rw [if_neg (by simp [hq])] at h
      exact List.mem_cons_of_mem _ (ih h)
def mjSt (i : Nat) (v : Value) (ls : mjL) : mjL := (i, v) :: ls.filter (fun q => !(q.1 == i) && !(q.1 + 1 == i && q.2.category == 2))
def mjSt2 (i : Nat) (v : Value) (ls : mjL) : mjL := (i, v) :: ls.filter (fun q => !(q.1 == i) && (!(q.1 == i + 1) && !(q.1 + 1 == i && q.2.category == 2)))
theorem rll_filter (ad : Nat → Nat) (g : Nat → Nat → Bool) (ls : mjL) : rll ad (ls.filter (fun q => g q.1 q.2.category)) = (rll ad ls).filter (fun q => g q.1 q.2.category) := by
  induction ls with
  | nil => rfl
  | cons q r ih =>
    simp only [rll, List.map_cons, List.filter_cons] at ih ⊢
    rw [rl_cat]
    cases g q.1 q.2.category <;> simp [ih]
theorem rll_st (ad : Nat → Nat) (i : Nat) (v : Value) (ls : mjL) : rll ad (mjSt i v ls) = (i, rl ad v) :: (rll ad ls).filter (fun q => !(q.1 == i) && !(q.1 + 1 == i && q.2.category == 2)) := by
  show (i, rl ad v) :: rll ad _ = _
  rw [rll_filter ad (fun a b => !(a == i) && !(a + 1 == i && b == 2))]
theorem rll_st2 (ad : Nat → Nat) (i : Nat) (v : Value) (ls : mjL) : rll ad (mjSt2 i v ls) = (i, rl ad v) :: (rll ad ls).filter (fun q => !(q.1 == i) && (!(q.1 == i + 1) && !(q.1 + 1 == i && q.2.category == 2))) := by
  show (i, rl ad v) :: rll ad _ = _
  rw [rll_filter ad (fun a b => !(a == i) && (!(a == i + 1) && !(a + 1 == i && b == 2)))]
theorem rll_get {ad : Nat → Nat} {ls : mjL} {i nL : Nat} {v : Value} {arr : Array Slot} (hl : lv_has arr nL (rll ad ls)) (h : mjGet ls i = some v) : arr[i]? = some (.val (rl ad v)) :=
  hl.2.2 (i, rl ad v) (List.mem_map.mpr ⟨(i, v), mjGet_mem h, rfl⟩)
/-- a condition on two ints -/
def mjC (c : Jvm.ClassFile.Cond) (x y : Int32) : Bool := match c with
  | .eq => decide (x = y)
  | .ne => decide (¬ x = y)
  | .lt => decide (x < y)
  | .ge => decide (y ≤ x)
  | .gt => decide (y < x)
  | .le => decide (x ≤ y)
/-- places: the script's array, the first text -/
abbrev mjScr : Nat := 3000000
def mjS0 : Nat := 1000000
def mjSc (n : Nat) (v : Value) : Bool := match v with
  | .ref i => decide (i < n) || decide (mjS0 ≤ i)
  | _ => true
def mjTy (ci : Nat) : Nat → FieldType := match ci with
  | 0 => tyX0 | 1 => tyX1 | 2 => tyX4 | 3 => tyX5 | 4 => tyX6 | 5 => tyX7 | 6 => tyX8 | 7 => tyX9 | 8 => tyX11 | _ => tyX12
/-- a field of this type takes this value -/
def mjOk (ty : FieldType) (n : Nat) (v : Value) : Bool := match ty with
  | .int => match v with | .int _ => true | _ => false
  | .long => match v with | .long _ => true | _ => false
  | .boolean => match v with | .int x => x == 0 || x == 1 | _ => false
  | .object _ => match v with | .null => true | .ref i => mjSc n (.ref i) | _ => false
  | .array _ => match v with | .null => true | .ref i => mjSc n (.ref i) | _ => false
  | _ => false
abbrev mjT : Type := Nat × mjL × List Value × mjH
/-- locals and stack alone -/
def mjAlu (i : Instr) (pc b : Nat) (ls : mjL) (st : List Value) : Option (Nat × mjL × List Value) := match i with
  | .iconst k => some (pc + 1, ls, .int (Int32.ofInt k) :: st)
  | .bipush k => some (pc + 2, ls, .int (Int8.ofInt k).toInt32 :: st)
  | .sipush k => some (pc + 3, ls, .int (Int16.ofInt k).toInt32 :: st)
  | .lconst k => some (pc + 1, ls, .long (Int64.ofNat (k : Nat)) :: st)
  | .iload_n k => match mjGet ls (k : Nat) with | some (.int x) => some (pc + 1, ls, .int x :: st) | _ => none
  | .iload k => match mjGet ls k with | some (.int x) => some (pc + 2, ls, .int x :: st) | _ => none
  | .lload_n k => match mjGet ls (k : Nat) with | some (.long x) => some (pc + 1, ls, .long x :: st) | _ => none
  | .lload k => match mjGet ls k with | some (.long x) => some (pc + 2, ls, .long x :: st) | _ => none
  | .aload_n k => match mjGet ls (k : Nat) with | some (.ref x) => some (pc + 1, ls, .ref x :: st) | _ => none
  | .aload k => match mjGet ls k with | some (.ref x) => some (pc + 2, ls, .ref x :: st) | _ => none
  | .istore_n k => match st with | .int x :: r => some (pc + 1, mjSt (k : Nat) (.int x) ls, r) | _ => none
  | .istore k => match st with | .int x :: r => some (pc + 2, mjSt k (.int x) ls, r) | _ => none
  | .lstore_n k => match st with | .long x :: r => some (pc + 1, mjSt2 (k : Nat) (.long x) ls, r) | _ => none
  | .lstore k => match st with | .long x :: r => some (pc + 2, mjSt2 k (.long x) ls, r) | _ => none
  | .astore_n k => match st with | .ref x :: r => some (pc + 1, mjSt (k : Nat) (.ref x) ls, r) | _ => none
  | .astore k => match st with | .ref x :: r => some (pc + 2, mjSt k (.ref x) ls, r) | _ => none
  | .iinc k n => match mjGet ls k with | some (.int x) => some (pc + 3, mjSt k (.int (x + Int32.ofInt n)) ls, st) | _ => none
  | .iadd => match st with | .int y :: .int x :: r => some (pc + 1, ls, .int (x + y) :: r) | _ => none
  | .isub => match st with | .int y :: .int x :: r => some (pc + 1, ls, .int (x - y) :: r) | _ => none
  | .imul => match st with | .int y :: .int x :: r => some (pc + 1, ls, .int (x * y) :: r) | _ => none
  | .iand => match st with | .int y :: .int x :: r => some (pc + 1, ls, .int (x &&& y) :: r) | _ => none
  | .ior => match st with | .int y :: .int x :: r => some (pc + 1, ls, .int (x ||| y) :: r) | _ => none
  | .ixor => match st with | .int y :: .int x :: r => some (pc + 1, ls, .int (x ^^^ y) :: r) | _ => none
  | .irem => match st with | .int y :: .int x :: r => if y = 0 then none else some (pc + 1, ls, .int (x - x / y * y) :: r) | _ => none
  | .ishl => match st with | .int y :: .int x :: r => some (pc + 1, ls, .int (x <<< (y &&& 31)) :: r) | _ => none
  | .ishr => match st with | .int y :: .int x :: r => some (pc + 1, ls, .int (x >>> (y &&& 31)) :: r) | _ => none
  | .iushr => match st with | .int y :: .int x :: r => some (pc + 1, ls, .int (x.toUInt32 >>> (y.toUInt32 &&& Int32.toUInt32 31)).toInt32 :: r) | _ => none
  | .ladd => match st with | .long y :: .long x :: r => some (pc + 1, ls, .long (x + y) :: r) | _ => none
  | .lsub => match st with | .long y :: .long x :: r => some (pc + 1, ls, .long (x - y) :: r) | _ => none
  | .lmul => match st with | .long y :: .long x :: r => some (pc + 1, ls, .long (x * y) :: r) | _ => none
  | .land => match st with | .long y :: .long x :: r => some (pc + 1, ls, .long (x &&& y) :: r) | _ => none
  | .lor => match st with | .long y :: .long x :: r => some (pc + 1, ls, .long (x ||| y) :: r) | _ => none
  | .lxor => match st with | .long y :: .long x :: r => some (pc + 1, ls, .long (x ^^^ y) :: r) | _ => none
  | .lshl => match st with | .int y :: .long x :: r => some (pc + 1, ls, .long (x <<< (y.toInt64 &&& 63)) :: r) | _ => none
  | .lshr => match st with | .int y :: .long x :: r => some (pc + 1, ls, .long (x >>> (y.toInt64 &&& 63)) :: r) | _ => none
  | .lushr => match st with | .int y :: .long x :: r => some (pc + 1, ls, .long (x.toUInt64 >>> (y.toInt64.toUInt64 &&& Int64.toUInt64 63)).toInt64 :: r) | _ => none
  | .lcmp => match st with | .long y :: .long x :: r => some (pc + 1, ls, .int (lg_cmp x y) :: r) | _ => none
  | .i2l => match st with | .int x :: r => some (pc + 1, ls, .long x.toInt64 :: r) | _ => none
  | .l2i => match st with | .long x :: r => some (pc + 1, ls, .int x.toInt32 :: r) | _ => none
  | .i2b => match st with | .int x :: r => some (pc + 1, ls, .int x.toInt8.toInt32 :: r) | _ => none
  | .dup => match st with | v :: r => if v.category = 1 then some (pc + 1, ls, v :: v :: r) else none | _ => none
  | .pop => match st with | v :: r => if v.category = 1 then some (pc + 1, ls, r) else none | _ => none
  | .dup2 => match st with | v :: w :: r => if v.category = 1 ∧ w.category = 1 then some (pc + 1, ls, v :: w :: v :: w :: r) else none | _ => none
  | .ifCond k _ => match st with | .int x :: r => some (if mjC k x 0 then b else pc + 3, ls, r) | _ => none
  | .if_icmp k _ => match st with | .int y :: .int x :: r => some (if mjC k x y then b else pc + 3, ls, r) | _ => none
  | .goto _ => some (b, ls, st)
  | .tableswitch dflt lo hi offs => match st with
    | .int x :: r => if x.toInt < lo ∨ hi < x.toInt then (if ((pc : Int) + dflt).toNat = (pc : Int) + dflt then some (((pc : Int) + dflt).toNat, ls, r) else none)
      else match offs[(x.toInt - lo).toNat]? with
        | some o => if ((pc : Int) + o).toNat = (pc : Int) + o then some (((pc : Int) + o).toNat, ls, r) else none
        | none => none
    | _ => none
  | .lookupswitch dflt ps => match st with
    | .int x :: r => let o := Op.lookupswitch.offset ps.toList dflt x.toInt
      if (ps.toList.zip (ps.toList.drop 1)).all (fun (a, next) => a.1 < next.1) = true ∧ ((pc : Int) + o).toNat = (pc : Int) + o then some (((pc : Int) + o).toNat, ls, r) else none
    | _ => none
  | _ => none
/-- how long it must be -/
def mjLen (i : Instr) : Nat := match i with
  | .bipush _ | .iload _ | .lload _ | .aload _ | .istore _ | .lstore _ | .astore _ | .ldc _ | .newarray _ => 2
  | .sipush _ | .iinc _ _ | .ifCond _ _ | .if_icmp _ _ | .goto _ | .getfield _ | .putfield _ | .ldc_w _ | .ldc2_w _ | .invokevirtual _ | .invokestatic _ | .invokespecial _ | .new _ | .anewarray _ => 3
  | .multianewarray _ _ => 4
  | .tableswitch _ _ _ _ | .lookupswitch _ _ => 0
  | _ => 1
end MJDEF

/-! the small machine does not mind which of the two JARs is which: cells 3 to 10 and 11 to 18 change places -/
noncomputable section MJSW
def swC (i : Nat) : Nat := if i < 3 then i else if i < 11 then i + 8 else if i < 19 then i - 8 else i
theorem swC_spec (i : Nat) : (i < 3 ∧ swC i = i) ∨ (3 ≤ i ∧ i < 11 ∧ swC i = i + 8) ∨ (11 ≤ i ∧ i < 19 ∧ swC i = i - 8) ∨ (19 ≤ i ∧ swC i = i) := by
  unfold swC
  by_cases h1 : i < 3
  · exact Or.inl ⟨h1, if_pos h1⟩
  · rw [if_neg h1]
    by_cases h2 : i < 11
    · exact Or.inr (Or.inl ⟨by omega, h2, if_pos h2⟩)
    · rw [if_neg h2]
      by_cases h3 : i < 19
      · exact Or.inr (Or.inr (Or.inl ⟨by omega, h3, if_pos h3⟩))
      · exact Or.inr (Or.inr (Or.inr ⟨by omega, if_neg h3⟩))
theorem swC_sw (i : Nat) : swC (swC i) = i := by
  have h1 := swC_spec i
  have h2 := swC_spec (swC i)
  omega
theorem swC_hi {i : Nat} (h : 19 ≤ i) : swC i = i := by
  have h1 := swC_spec i
  omega
theorem swC_lt {i n : Nat} (h : 19 ≤ n) : swC i < n ↔ i < n := by
  have h1 := swC_spec i
  omega
theorem swC_ge {i n : Nat} (h : 19 ≤ n) : n ≤ swC i ↔ n ≤ i := by
  have h1 := swC_spec i
  omega
theorem swC_eq {i n : Nat} (h : 19 ≤ n) : swC i = n ↔ i = n := by
  have h1 := swC_spec i
  omega
theorem swV_sw (v : Value) : rl swC (rl swC v) = v := by
  cases v with
  | ref i => show Value.ref (swC (swC i)) = .ref i; rw [swC_sw]
  | _ => rfl
theorem rlsC (v : Value) (r : List Value) : rls swC (v :: r) = rl swC v :: rls swC r := rfl
theorem rlR (i : Nat) : rl swC (.ref i) = .ref (swC i) := rfl
theorem rlI (i : Int32) : rl swC (.int i) = .int i := rfl
theorem rlL (i : Int64) : rl swC (.long i) = .long i := rfl
theorem rls_sw (vs : List Value) : rls swC (rls swC vs) = vs := by
  show (vs.map (rl swC)).map (rl swC) = vs
  rw [List.map_map, show (rl swC ∘ rl swC) = id from funext swV_sw, List.map_id]
theorem rll_sw (ls : mjL) : rll swC (rll swC ls) = ls := by
  show (ls.map (fun q => (q.1, rl swC q.2))).map (fun q => (q.1, rl swC q.2)) = ls
  rw [List.map_map, show ((fun q : Nat × Value => (q.1, rl swC q.2)) ∘ fun q => (q.1, rl swC q.2)) = id from funext fun q => by show (q.1, rl swC (rl swC q.2)) = q; rw [swV_sw], List.map_id]
def swE (e : mjE) : mjE := (e.1, rls swC e.2)
theorem swE_sw (e : mjE) : swE (swE e) = e := by
  show (e.1, rls swC (rls swC e.2)) = e
  rw [rls_sw]
def swH (hp : mjH) : mjH := if 19 ≤ hp.length then (List.range hp.length).map (fun i => match hp[swC i]? with | some e => swE e | none => (0, [])) else hp
theorem swH_len {hp : mjH} : (swH hp).length = hp.length := by
  unfold swH
  split
  · rw [List.length_map, List.length_range]
  · rfl
theorem swH_get {hp : mjH} (h : 19 ≤ hp.length) (i : Nat) : (swH hp)[i]? = (hp[swC i]?).map swE := by
  unfold swH
  rw [if_pos h, List.getElem?_map]
  by_cases hi : i < hp.length
  · obtain ⟨e, he⟩ : ∃ e, hp[swC i]? = some e := ⟨_, List.getElem?_eq_getElem ((swC_lt h).mpr hi)⟩
    rw [List.getElem?_range hi]
    show some (match hp[swC i]? with | some e => swE e | none => (0, [])) = (hp[swC i]?).map swE
    rw [he]
    rfl
  · rw [List.getElem?_eq_none (by rw [List.length_range]; omega), List.getElem?_eq_none (by have := (swC_lt h (i := i)); omega)]
    rfl
theorem swH_get2 {hp : mjH} (h : 19 ≤ hp.length) (i : Nat) : (swH hp)[swC i]? = (hp[i]?).map swE := by rw [swH_get h, swC_sw]
theorem swH_sw (hp : mjH) : swH (swH hp) = hp := by
  by_cases h : 19 ≤ hp.length
  case neg =>
    have e : swH hp = hp := if_neg h
    rw [e, e]
  refine List.ext_getElem? fun i => ?_
  rw [swH_get (by rw [swH_len]; exact h), swH_get2 h]
  cases hp[i]? with
  | none => rfl
  | some e => show some (swE (swE e)) = some e; rw [swE_sw]
theorem swH_set {hp : mjH} {o : Nat} {e : mjE} (h : 19 ≤ hp.length) (ho : o < hp.length) : swH (hp.set o e) = (swH hp).set (swC o) (swE e) := by
  refine List.ext_getElem? fun i => ?_
  rw [swH_get (by rw [List.length_set]; exact h)]
  by_cases hi : i = swC o
  · subst hi
    rw [swC_sw, List.getElem?_set_self ho, List.getElem?_set_self (by rw [swH_len]; exact (swC_lt h).mpr ho)]
    rfl
  · rw [List.getElem?_set_ne (fun e => hi (by rw [e, swC_sw])), List.getElem?_set_ne (fun e => hi e.symm), swH_get h]
theorem swH_app {hp es : mjH} (h : 19 ≤ hp.length) (he : ∀ e ∈ es, swE e = e) : swH (hp ++ es) = swH hp ++ es := by
  refine List.ext_getElem? fun i => ?_
  rw [swH_get (by rw [List.length_append]; omega)]
  by_cases hi : i < hp.length
  · rw [List.getElem?_append_left ((swC_lt h).mpr hi), List.getElem?_append_left (by rw [swH_len]; exact hi), swH_get h]
  · rw [swC_hi (by omega), List.getElem?_append_right (by omega), List.getElem?_append_right (by rw [swH_len]; omega), swH_len]
    cases hq : es[i - hp.length]? with
    | none => rfl
    | some e => show some (swE e) = some e; rw [he e (List.mem_of_getElem? hq)]
/-- what comes of it -/
def swOv (r : Option Value ⊕ Nat) : Option Value ⊕ Nat := match r with | .inl v => .inl (v.map (rl swC)) | .inr E => .inr E
def swO (o : mjO) : mjO := (swOv o.1, swH o.2.1, o.2.2.1, o.2.2.2)
def swR (rec : mjRec) : Prop := ∀ (scr : Option (List Int32)) (d k pc : Nat) (ls : mjL) (st : List Value) (hp : mjH) (o : mjO), 19 ≤ hp.length → rec scr d k pc ls st hp = some o → rec scr d k pc (rll swC ls) (rls swC st) (swH hp) = some (swO o)
theorem mjAdd_sw {c s : Nat} {r r' : Option mjO} {o : mjO} (h : mjAdd c s r = some o) (hr : ∀ o1, r = some o1 → r' = some (swO o1)) : mjAdd c s r' = some (swO o) := by
  cases r with
  | none => cases h
  | some o1 =>
    rw [hr o1 rfl]
    obtain ⟨a, b, c1, s1⟩ := o1
    cases h
    rfl
theorem mjSc_sw {n : Nat} (h : 19 ≤ n) (v : Value) : mjSc n (rl swC v) = mjSc n v := by
  cases v with
  | ref i =>
    show (decide (swC i < n) || decide (mjS0 ≤ swC i)) = (decide (i < n) || decide (mjS0 ≤ i))
    rw [decide_eq_decide.mpr (swC_lt h), decide_eq_decide.mpr (swC_ge (show 19 ≤ mjS0 by decide))]
  | _ => rfl
theorem all_sw {n : Nat} (h : 19 ≤ n) : ∀ (st : List Value), (rls swC st).all (mjSc n) = st.all (mjSc n)
  | [] => rfl
  | v :: r => by
    show (mjSc n (rl swC v) && (rls swC r).all (mjSc n)) = (mjSc n v && r.all (mjSc n))
    rw [mjSc_sw h, all_sw h r]
theorem allL_sw {n : Nat} (h : 19 ≤ n) : ∀ (ls : mjL), (rll swC ls).all (fun q => mjSc n q.2) = ls.all (fun q => mjSc n q.2)
  | [] => rfl
  | v :: r => by
    show (mjSc n (rl swC v.2) && (rll swC r).all (fun q => mjSc n q.2)) = (mjSc n v.2 && r.all (fun q => mjSc n q.2))
    rw [mjSc_sw h, allL_sw h r]
theorem mjSca_sw {n m : Nat} (h : 19 ≤ n) (ls : mjL) (st : List Value) : mjSca n m (rll swC ls) (rls swC st) = mjSca n m ls st := by
  unfold mjSca
  rw [all_sw h, allL_sw h]
theorem cat_sw (r : List Value) : ((rls swC r).map fun v => v.category) = r.map fun v => v.category := by
  show (r.map (rl swC)).map _ = _
  rw [List.map_map]
  exact List.map_congr_left (fun v _ => rl_cat swC v)
theorem sl_sw : ∀ (as : List Value), (lg_sl (rls swC as)).length = (lg_sl as).length
  | [] => rfl
  | v :: r => by
    have ih := sl_sw r
    unfold lg_sl at ih ⊢
    rw [show rls swC (v :: r) = rl swC v :: rls swC r from rfl, List.flatMap_cons, List.flatMap_cons, List.length_append, List.length_append, ih, rl_cat]
    by_cases h : v.category = 2
    · rw [if_pos h, if_pos h]
      rfl
    · rw [if_neg h, if_neg h]
      rfl
theorem lvArgs_sw : ∀ (as : List Value) (i : Nat), lv_args i (rls swC as) = rll swC (lv_args i as)
  | [], _ => rfl
  | v :: r, i => by
    show (i, rl swC v) :: lv_args (if (rl swC v).category = 2 then i + 2 else i + 1) (rls swC r) = (i, rl swC v) :: rll swC (lv_args (if v.category = 2 then i + 2 else i + 1) r)
    rw [rl_cat, lvArgs_sw r]
theorem mjArgs_sw (n : Nat) (st : List Value) : mjArgs n (rls swC st) = (mjArgs n st).map (fun q => (rls swC q.1, rls swC q.2)) := by
  unfold mjArgs
  rw [show (rls swC st).length = st.length from List.length_map ..]
  split
  · show some (((st.map (rl swC)).take n).reverse, (st.map (rl swC)).drop n) = some (((st.take n).reverse).map (rl swC), (st.drop n).map (rl swC))
    rw [List.map_reverse, List.map_take, List.map_drop]
  · rfl
theorem mjGet_sw : ∀ (ls : mjL) (i : Nat), mjGet (rll swC ls) i = (mjGet ls i).map (rl swC)
  | [], _ => rfl
  | q :: r, i => by
    show (if q.1 == i then some (rl swC q.2) else mjGet (rll swC r) i) = (if q.1 == i then some q.2 else mjGet r i).map (rl swC)
    by_cases h : (q.1 == i) = true
    · rw [if_pos h, if_pos h]
      rfl
    · rw [if_neg h, if_neg h, mjGet_sw r]
theorem mjSt_sw (i : Nat) (v : Value) (ls : mjL) : rll swC (mjSt i v ls) = mjSt i (rl swC v) (rll swC ls) := rll_st swC i v ls
theorem mjSt2_sw (i : Nat) (v : Value) (ls : mjL) : rll swC (mjSt2 i v ls) = mjSt2 i (rl swC v) (rll swC ls) := rll_st2 swC i v ls
theorem mjDel_sw (j : Nat) (ls : mjL) : rll swC (mjDel j ls) = mjDel j (rll swC ls) := rll_filter swC (fun a b => !(a == j) && !(a + 1 == j && b == 2)) ls
abbrev swT : Nat × mjL × List Value → Nat × mjL × List Value := fun q => (q.1, rll swC q.2.1, rls swC q.2.2)
theorem mjAlu_sw (i : Instr) (pc b : Nat) (ls : mjL) (st : List Value) : mjAlu i pc b (rll swC ls) (rls swC st) = (mjAlu i pc b ls st).map swT := by
  cases i
  case iload_n k =>
    simp only [mjAlu, mjGet_sw]
    cases mjGet ls _ with
    | none => rfl
    | some v => cases v <;> rfl
  case iload k =>
    simp only [mjAlu, mjGet_sw]
    cases mjGet ls _ with
    | none => rfl
    | some v => cases v <;> rfl
  case lload_n k =>
    simp only [mjAlu, mjGet_sw]
    cases mjGet ls _ with
    | none => rfl
    | some v => cases v <;> rfl
  case lload k =>
    simp only [mjAlu, mjGet_sw]
    cases mjGet ls _ with
    | none => rfl
    | some v => cases v <;> rfl
  case aload_n k =>
    simp only [mjAlu, mjGet_sw]
    cases mjGet ls _ with
    | none => rfl
    | some v => cases v <;> rfl
  case aload k =>
    simp only [mjAlu, mjGet_sw]
    cases mjGet ls _ with
    | none => rfl
    | some v => cases v <;> rfl
  case istore_n k =>
    cases st with
    | nil => rfl
    | cons v r =>
      cases v
      case int x => exact congrArg (fun z : mjL => (some (pc + 1, z, rls swC r) : Option (Nat × mjL × List Value))) (mjSt_sw _ (Value.int x) ls).symm
      all_goals rfl
  case istore k =>
    cases st with
    | nil => rfl
    | cons v r =>
      cases v
      case int x => exact congrArg (fun z : mjL => (some (pc + 2, z, rls swC r) : Option (Nat × mjL × List Value))) (mjSt_sw _ (Value.int x) ls).symm
      all_goals rfl
  case lstore_n k =>
    cases st with
    | nil => rfl
    | cons v r =>
      cases v
      case long x => exact congrArg (fun z : mjL => (some (pc + 1, z, rls swC r) : Option (Nat × mjL × List Value))) (mjSt2_sw _ (Value.long x) ls).symm
      all_goals rfl
  case lstore k =>
    cases st with
    | nil => rfl
    | cons v r =>
      cases v
      case long x => exact congrArg (fun z : mjL => (some (pc + 2, z, rls swC r) : Option (Nat × mjL × List Value))) (mjSt2_sw _ (Value.long x) ls).symm
      all_goals rfl
  case astore_n k =>
    cases st with
    | nil => rfl
    | cons v r =>
      cases v
      case ref x => exact congrArg (fun z : mjL => (some (pc + 1, z, rls swC r) : Option (Nat × mjL × List Value))) (mjSt_sw _ (Value.ref x) ls).symm
      all_goals rfl
  case astore k =>
    cases st with
    | nil => rfl
    | cons v r =>
      cases v
      case ref x => exact congrArg (fun z : mjL => (some (pc + 2, z, rls swC r) : Option (Nat × mjL × List Value))) (mjSt_sw _ (Value.ref x) ls).symm
      all_goals rfl
  case iinc k n =>
    simp only [mjAlu, mjGet_sw]
    cases mjGet ls k with
    | none => rfl
    | some v =>
      cases v
      case int x => exact congrArg (fun z : mjL => (some (pc + 3, z, rls swC st) : Option (Nat × mjL × List Value))) (mjSt_sw _ (Value.int (x + Int32.ofInt n)) ls).symm
      all_goals rfl
  case iadd =>
    rcases st with _ | ⟨v, _ | ⟨u, r⟩⟩
    · rfl
    · cases v <;> rfl
    · cases v <;> cases u <;> rfl
  case isub =>
    rcases st with _ | ⟨v, _ | ⟨u, r⟩⟩
    · rfl
    · cases v <;> rfl
    · cases v <;> cases u <;> rfl
  case imul =>
    rcases st with _ | ⟨v, _ | ⟨u, r⟩⟩
    · rfl
    · cases v <;> rfl
    · cases v <;> cases u <;> rfl
  case iand =>
    rcases st with _ | ⟨v, _ | ⟨u, r⟩⟩
    · rfl
    · cases v <;> rfl
    · cases v <;> cases u <;> rfl
  case ior =>
    rcases st with _ | ⟨v, _ | ⟨u, r⟩⟩
    · rfl
    · cases v <;> rfl
    · cases v <;> cases u <;> rfl
  case ixor =>
    rcases st with _ | ⟨v, _ | ⟨u, r⟩⟩
    · rfl
    · cases v <;> rfl
    · cases v <;> cases u <;> rfl
  case ishl =>
    rcases st with _ | ⟨v, _ | ⟨u, r⟩⟩
    · rfl
    · cases v <;> rfl
    · cases v <;> cases u <;> rfl
  case ishr =>
    rcases st with _ | ⟨v, _ | ⟨u, r⟩⟩
    · rfl
    · cases v <;> rfl
    · cases v <;> cases u <;> rfl
  case iushr =>
    rcases st with _ | ⟨v, _ | ⟨u, r⟩⟩
    · rfl
    · cases v <;> rfl
    · cases v <;> cases u <;> rfl
  case ladd =>
    rcases st with _ | ⟨v, _ | ⟨u, r⟩⟩
    · rfl
    · cases v <;> rfl
    · cases v <;> cases u <;> rfl
  case lsub =>
    rcases st with _ | ⟨v, _ | ⟨u, r⟩⟩
    · rfl
    · cases v <;> rfl
    · cases v <;> cases u <;> rfl
  case lmul =>
    rcases st with _ | ⟨v, _ | ⟨u, r⟩⟩
    · rfl
    · cases v <;> rfl
    · cases v <;> cases u <;> rfl
  case land =>
    rcases st with _ | ⟨v, _ | ⟨u, r⟩⟩
    · rfl
    · cases v <;> rfl
    · cases v <;> cases u <;> rfl
  case lor =>
    rcases st with _ | ⟨v, _ | ⟨u, r⟩⟩
    · rfl
    · cases v <;> rfl
    · cases v <;> cases u <;> rfl
  case lxor =>
    rcases st with _ | ⟨v, _ | ⟨u, r⟩⟩
    · rfl
    · cases v <;> rfl
    · cases v <;> cases u <;> rfl
  case lshl =>
    rcases st with _ | ⟨v, _ | ⟨u, r⟩⟩
    · rfl
    · cases v <;> rfl
    · cases v <;> cases u <;> rfl
  case lshr =>
    rcases st with _ | ⟨v, _ | ⟨u, r⟩⟩
    · rfl
    · cases v <;> rfl
    · cases v <;> cases u <;> rfl
  case lushr =>
    rcases st with _ | ⟨v, _ | ⟨u, r⟩⟩
    · rfl
    · cases v <;> rfl
    · cases v <;> cases u <;> rfl
  case lcmp =>
    rcases st with _ | ⟨v, _ | ⟨u, r⟩⟩
    · rfl
    · cases v <;> rfl
    · cases v <;> cases u <;> rfl
  case irem =>
    rcases st with _ | ⟨v, _ | ⟨u, r⟩⟩
    · rfl
    · cases v <;> rfl
    · cases v <;> cases u <;> first | rfl | (rename_i y x; show (if y = 0 then none else some (pc + 1, rll swC ls, .int (x - x / y * y) :: rls swC r)) = (if y = 0 then none else some (pc + 1, ls, .int (x - x / y * y) :: r)).map swT; split <;> rfl)
  case i2l =>
    cases st with
    | nil => rfl
    | cons v r => cases v <;> rfl
  case l2i =>
    cases st with
    | nil => rfl
    | cons v r => cases v <;> rfl
  case i2b =>
    cases st with
    | nil => rfl
    | cons v r => cases v <;> rfl
  case dup =>
    cases st with
    | nil => rfl
    | cons v r =>
      show (if (rl swC v).category = 1 then some (pc + 1, rll swC ls, rl swC v :: rl swC v :: rls swC r) else none) = (if v.category = 1 then some (pc + 1, ls, v :: v :: r) else none).map swT
      rw [rl_cat]
      split <;> rfl
  case pop =>
    cases st with
    | nil => rfl
    | cons v r =>
      show (if (rl swC v).category = 1 then some (pc + 1, rll swC ls, rls swC r) else none) = (if v.category = 1 then some (pc + 1, ls, r) else none).map swT
      rw [rl_cat]
      split <;> rfl
  case dup2 =>
    rcases st with _ | ⟨v, _ | ⟨u, r⟩⟩
    · rfl
    · rfl
    · show (if (rl swC v).category = 1 ∧ (rl swC u).category = 1 then some (pc + 1, rll swC ls, rl swC v :: rl swC u :: rl swC v :: rl swC u :: rls swC r) else none) = (if v.category = 1 ∧ u.category = 1 then some (pc + 1, ls, v :: u :: v :: u :: r) else none).map swT
      rw [rl_cat, rl_cat]
      split <;> rfl
  case ifCond k t =>
    cases st with
    | nil => rfl
    | cons v r => cases v <;> rfl
  case if_icmp k t =>
    rcases st with _ | ⟨v, _ | ⟨u, r⟩⟩
    · rfl
    · cases v <;> rfl
    · cases v <;> cases u <;> rfl
  case tableswitch dflt lo hi offs =>
    cases st with
    | nil => rfl
    | cons v r =>
      cases v
      case int x =>
        simp only [mjAlu, List.map_cons, rl]
        split
        · split <;> rfl
        · split
          · split <;> rfl
          · rfl
      all_goals rfl
  case lookupswitch dflt ps =>
    cases st with
    | nil => rfl
    | cons v r =>
      cases v
      case int x =>
        simp only [mjAlu, List.map_cons, rl]
        split <;> rfl
      all_goals rfl
  all_goals rfl
theorem swE_arr {e : mjE} {v : Value} {j : Nat} (h : e.2[j]? = some v) : (swE e).2[j]? = some (rl swC v) := by
  show (e.2.map (rl swC))[j]? = _
  rw [List.getElem?_map, h]
  rfl
theorem mjOk_sw {n : Nat} (h : 19 ≤ n) (ty : FieldType) (v : Value) : mjOk ty n (rl swC v) = mjOk ty n v := by
  cases v with
  | ref i => cases ty <;> first | rfl | exact mjSc_sw h (.ref i)
  | _ => cases ty <;> rfl
abbrev swTh : Nat × List Value × mjH → Nat × List Value × mjH := fun q => (q.1, rls swC q.2.1, swH q.2.2)
theorem set_sw (vs : List Value) (j : Nat) (v : Value) : rls swC (vs.set j v) = (rls swC vs).set j (rl swC v) := List.map_set ..
theorem mjHp_sw {scr : Option (List Int32)} {x : mjX} {pc : Nat} {st : List Value} {hp : mjH} {q : Nat × List Value × mjH} (h19 : 19 ≤ hp.length) (h : mjHp scr x pc st hp = some q) : mjHp scr x pc (rls swC st) (swH hp) = some (swTh q) := by
  obtain ⟨xi, xl, xa, xb, xc⟩ := x
  have hl := swH_len (hp := hp)
  unfold mjHp at h ⊢
  try dsimp only at h ⊢
  split at h
  · -- getfield
    rcases st with _ | ⟨v, r⟩
    · cases h
    cases v
    case ref o =>
      try dsimp only at h
      dsimp only [rlsC, rlR, rlI, rlL]
      rw [swH_get2 h19]
      cases ho : hp[o]? with
      | none => rw [ho] at h; cases h
      | some e =>
        rw [ho] at h
        try dsimp only [Option.map_some, swE] at h ⊢
        split at h
        · rename_i et
          rw [if_pos et]
          split at h
          · rename_i u hu
            cases h
            rw [List.getElem?_map, hu]
            rfl
          · cases h
        · cases h
    all_goals cases h
  · -- putfield
    rcases st with _ | ⟨v, _ | ⟨u, r⟩⟩
    · cases h
    · cases v <;> cases h
    · cases u
      case ref o =>
        try dsimp only at h
        dsimp only [rlsC, rlR, rlI, rlL]
        rw [swH_get2 h19]
        cases ho : hp[o]? with
        | none => rw [ho] at h; cases h
        | some e =>
          rw [ho] at h
          try dsimp only [Option.map_some, swE] at h ⊢
          split at h
          · rename_i et
            cases h
            rw [List.length_map, hl, mjOk_sw h19, if_pos et]
            show _ = some (_, rls swC r, swH (List.set hp o _))
            rw [swH_set h19 (List.getElem?_eq_some_iff.mp ho).1]
            show some (_, _, _) = some (_, _, _)
            rw [show swE (e.1, e.2.set xb v) = (e.1, (rls swC e.2).set xb (rl swC v)) from by unfold swE; rw [set_sw]]
          · cases h
      all_goals cases h
  · -- arraylength
    rcases st with _ | ⟨v, r⟩
    · cases h
    cases v
    case ref o =>
      try dsimp only at h
      dsimp only [rlsC, rlR, rlI, rlL]
      by_cases hs : o = mjScr
      · rw [if_pos hs] at h
        rw [if_pos ((swC_eq (by decide)).mpr hs)]
        cases scr with
        | none => cases h
        | some xs => cases h; rfl
      · rw [if_neg hs] at h
        rw [if_neg (fun e => hs ((swC_eq (by decide)).mp e)), swH_get2 h19]
        cases ho : hp[o]? with
        | none => rw [ho] at h; cases h
        | some e =>
          rw [ho] at h
          try dsimp only [Option.map_some, swE] at h ⊢
          split at h
          · rename_i et
            cases h
            rw [if_pos et, List.length_map]
            rfl
          · cases h
    all_goals cases h
  · -- iaload
    rcases st with _ | ⟨v, _ | ⟨u, r⟩⟩
    · cases h
    · cases v <;> cases h
    · cases v
      case int i =>
        cases u
        case ref o =>
          try dsimp only at h
          dsimp only [rlsC, rlR, rlI, rlL]
          by_cases hs : o = mjScr
          · rw [if_pos hs] at h
            rw [if_pos ((swC_eq (by decide)).mpr hs)]
            cases scr with
            | none => cases h
            | some xs =>
              try dsimp only at h ⊢
              split at h
              · cases h
              · rename_i e0
                cases h
                rw [if_neg e0]
                rfl
          · rw [if_neg hs] at h
            rw [if_neg (fun e => hs ((swC_eq (by decide)).mp e)), swH_get2 h19]
            cases ho : hp[o]? with
            | none => rw [ho] at h; cases h
            | some e =>
              rw [ho] at h
              try dsimp only [Option.map_some, swE] at h ⊢
              split at h
              · rename_i et
                rw [if_pos et]
                split at h
                · rename_i u hu
                  cases h
                  rw [List.getElem?_map, hu]
                  rfl
                · cases h
              · cases h
        all_goals cases h
      all_goals cases h
  · -- laload
    rcases st with _ | ⟨v, _ | ⟨u, r⟩⟩
    · cases h
    · cases v <;> cases h
    · cases v
      case int i =>
        cases u
        case ref o =>
          try dsimp only at h
          dsimp only [rlsC, rlR, rlI, rlL]
          rw [swH_get2 h19]
          cases ho : hp[o]? with
          | none => rw [ho] at h; cases h
          | some e =>
            rw [ho] at h
            try dsimp only [Option.map_some, swE] at h ⊢
            split at h
            · rename_i et
              rw [if_pos et]
              split at h
              · rename_i u hu
                cases h
                rw [List.getElem?_map, hu]
                rfl
              · cases h
            · cases h
        all_goals cases h
      all_goals cases h
  · -- baload
    rcases st with _ | ⟨v, _ | ⟨u, r⟩⟩
    · cases h
    · cases v <;> cases h
    · cases v
      case int i =>
        cases u
        case ref o =>
          try dsimp only at h
          dsimp only [rlsC, rlR, rlI, rlL]
          rw [swH_get2 h19]
          cases ho : hp[o]? with
          | none => rw [ho] at h; cases h
          | some e =>
            rw [ho] at h
            try dsimp only [Option.map_some, swE] at h ⊢
            split at h
            · rename_i et
              rw [if_pos et]
              split at h
              · rename_i u hu
                cases h
                rw [List.getElem?_map, hu]
                rfl
              · cases h
            · cases h
        all_goals cases h
      all_goals cases h
  · -- aaload
    rcases st with _ | ⟨v, _ | ⟨u, r⟩⟩
    · cases h
    · cases v <;> cases h
    · cases v
      case int i =>
        cases u
        case ref o =>
          try dsimp only at h
          dsimp only [rlsC, rlR, rlI, rlL]
          rw [swH_get2 h19]
          cases ho : hp[o]? with
          | none => rw [ho] at h; cases h
          | some e =>
            rw [ho] at h
            try dsimp only [Option.map_some, swE] at h ⊢
            split at h
            · rename_i et
              rw [if_pos et]
              split at h
              · rename_i u hu
                cases h
                rw [List.getElem?_map, hu]
                rfl
              · cases h
            · cases h
        all_goals cases h
      all_goals cases h
  · -- iastore
    rcases st with _ | ⟨v, _ | ⟨u, _ | ⟨t, r⟩⟩⟩
    · cases h
    · cases v <;> cases h
    · cases v <;> cases u <;> cases h
    · cases v
      case int z =>
        cases u
        case int i =>
          cases t
          case ref o =>
            try dsimp only at h
            dsimp only [rlsC, rlR, rlI, rlL]
            rw [swH_get2 h19]
            cases ho : hp[o]? with
            | none => rw [ho] at h; cases h
            | some e =>
              rw [ho] at h
              try dsimp only [Option.map_some, swE] at h ⊢
              split at h
              · rename_i et
                cases h
                rw [List.length_map, if_pos et]
                show _ = some (_, rls swC r, swH (List.set hp o _))
                rw [swH_set h19 (List.getElem?_eq_some_iff.mp ho).1]
                show some (_, _, _) = some (_, _, _)
                unfold swE
                try dsimp only
                rw [set_sw]
                rfl
              · cases h
          all_goals cases h
        all_goals cases h
      all_goals cases h
  · -- lastore
    rcases st with _ | ⟨v, _ | ⟨u, _ | ⟨t, r⟩⟩⟩
    · cases h
    · cases v <;> cases h
    · cases v <;> cases u <;> cases h
    · cases v
      case long z =>
        cases u
        case int i =>
          cases t
          case ref o =>
            try dsimp only at h
            dsimp only [rlsC, rlR, rlI, rlL]
            rw [swH_get2 h19]
            cases ho : hp[o]? with
            | none => rw [ho] at h; cases h
            | some e =>
              rw [ho] at h
              try dsimp only [Option.map_some, swE] at h ⊢
              split at h
              · rename_i et
                cases h
                rw [List.length_map, if_pos et]
                show _ = some (_, rls swC r, swH (List.set hp o _))
                rw [swH_set h19 (List.getElem?_eq_some_iff.mp ho).1]
                show some (_, _, _) = some (_, _, _)
                unfold swE
                try dsimp only
                rw [set_sw]
                rfl
              · cases h
          all_goals cases h
        all_goals cases h
      all_goals cases h
  · -- bastore
    rcases st with _ | ⟨v, _ | ⟨u, _ | ⟨t, r⟩⟩⟩
    · cases h
    · cases v <;> cases h
    · cases v <;> cases u <;> cases h
    · cases v
      case int z =>
        cases u
        case int i =>
          cases t
          case ref o =>
            try dsimp only at h
            dsimp only [rlsC, rlR, rlI, rlL]
            rw [swH_get2 h19]
            cases ho : hp[o]? with
            | none => rw [ho] at h; cases h
            | some e =>
              rw [ho] at h
              try dsimp only [Option.map_some, swE] at h ⊢
              rw [List.length_map]
              split at h
              · rename_i et
                cases h
                rw [if_pos et]
                show _ = some (_, rls swC r, swH (List.set hp o _))
                rw [swH_set h19 (List.getElem?_eq_some_iff.mp ho).1]
                show some (_, _, _) = some (_, _, _)
                unfold swE
                try dsimp only
                rw [set_sw]
                rfl
              · rename_i et
                rw [if_neg et]
                split at h
                · rename_i et2
                  cases h
                  rw [if_pos et2]
                  show _ = some (_, rls swC r, swH (List.set hp o _))
                  rw [swH_set h19 (List.getElem?_eq_some_iff.mp ho).1]
                  show some (_, _, _) = some (_, _, _)
                  unfold swE
                  try dsimp only
                  rw [set_sw]
                  rfl
                · cases h
          all_goals cases h
        all_goals cases h
      all_goals cases h
  · -- aastore
    rcases st with _ | ⟨v, _ | ⟨u, _ | ⟨t, r⟩⟩⟩
    · cases h
    · cases v <;> cases h
    · cases v <;> cases u <;> cases h
    · cases v
      case ref z =>
        cases u
        case int i =>
          cases t
          case ref o =>
            try dsimp only at h
            dsimp only [rlsC, rlR, rlI, rlL]
            rw [swH_get2 h19, swH_get2 h19]
            cases ho : hp[o]? with
            | none => rw [ho] at h; cases h
            | some e =>
              cases hz : hp[z]? with
              | none => rw [ho, hz] at h; cases h
              | some e2 =>
                rw [ho, hz] at h
                try dsimp only [Option.map_some, swE] at h ⊢
                rw [List.length_map]
                split at h
                · rename_i et
                  cases h
                  rw [if_pos et]
                  show _ = some (_, rls swC r, swH (List.set hp o _))
                  rw [swH_set h19 (List.getElem?_eq_some_iff.mp ho).1]
                  show some (_, _, _) = some (_, _, _)
                  unfold swE
                  try dsimp only
                  rw [set_sw]
                  rfl
                · cases h
          all_goals cases h
        all_goals cases h
      all_goals cases h
  · -- ldc
    cases h
    show some (pc + 2, (if xb = 0 then Value.int (Int32.ofNat xa) else .ref (mjS0 + xa)) :: rls swC st, swH hp) = some (pc + 2, rl swC (if xb = 0 then Value.int (Int32.ofNat xa) else .ref (mjS0 + xa)) :: rls swC st, swH hp)
    split
    · rfl
    · rw [show rl swC (.ref (mjS0 + xa)) = .ref (mjS0 + xa) from congrArg Value.ref (swC_hi (by have : mjS0 = 1000000 := rfl; omega))]
  · -- ldc_w
    split at h
    · rename_i e0
      cases h
      rw [if_pos e0]
      rfl
    · cases h
  · cases h
    rfl
  · cases h
/-- reading and writing keep the heap's length -/
theorem mjHp_len {scr : Option (List Int32)} {x : mjX} {pc : Nat} {st : List Value} {hp : mjH} {q : Nat × List Value × mjH} (h : mjHp scr x pc st hp = some q) : q.2.2.length = hp.length := by
  unfold mjHp at h
  split at h <;> (repeat (first | (focus (cases h; done)) | (focus (cases h; rfl)) | (focus (cases h; exact List.length_set ..)) | split at h))
theorem mjRecv_sw {i : Instr} {own : String} {as : List Value} {hp : mjH} (h19 : 19 ≤ hp.length) : mjRecv i own (rls swC as) (swH hp) = mjRecv i own as hp := by
  cases i
  case invokevirtual k =>
    rcases as with _ | ⟨v, r⟩
    · rfl
    cases v
    case ref o =>
      show (match (swH hp)[swC o]? with | some (t, _) => (match vwCl[t]? with | some r => decide (r.1 = own) | none => false) | none => false) = (match hp[o]? with | some (t, _) => (match vwCl[t]? with | some r => decide (r.1 = own) | none => false) | none => false)
      rw [swH_get2 h19]
      cases hp[o]? with
      | none => rfl
      | some e => rfl
    all_goals rfl
  case invokespecial k =>
    rcases as with _ | ⟨v, r⟩
    · rfl
    · cases v <;> rfl
  all_goals rfl
theorem mjTxo_sw (o : Nat) : mjTxo (swC o) = mjTxo o := by
  by_cases h : mjS0 ≤ o
  · rw [swC_hi (by have : mjS0 = 1000000 := rfl; omega)]
  · unfold mjTxo
    rw [if_neg h, if_neg (fun e => h ((swC_ge (by decide)).mp e))]
theorem mjBack_sw {rec : mjRec} (hrec : swR rec) {scr : Option (List Int32)} {d k pc : Nat} {hh : List (Nat × Nat × Nat × Nat)} {ls : mjL} {rest : List Value} {r o : mjO} (h19 : 19 ≤ r.2.1.length) (h : mjBack rec scr d k pc hh ls rest r = some o) : mjBack rec scr d k pc hh (rll swC ls) (rls swC rest) (swO r) = some (swO o) := by
  obtain ⟨r1, hp2, c, s⟩ := r
  cases r1 with
  | inl v =>
    refine mjAdd_sw (r := rec scr d k (pc + 3) ls (v.toList ++ rest) hp2) h fun o1 ho1 => ?_
    have := hrec _ _ _ _ _ _ _ _ h19 ho1
    rw [show rls swC (v.toList ++ rest) = (v.map (rl swC)).toList ++ rls swC rest from by show (v.toList ++ rest).map (rl swC) = _; rw [List.map_append]; cases v <;> rfl] at this
    exact this
  | inr E =>
    have h : (match mjCatch (hh.zip (mjHd k)) pc E with
      | none => some (.inr E, hp2, c, s)
      | some hpc => match mjAtI k hpc with
        | some (.astore_n j, _) => mjAdd c s (rec scr d k (hpc + 1) (mjDel (j : Nat) ls) [] hp2)
        | some (.astore j, _) => mjAdd c s (rec scr d k (hpc + 2) (mjDel j ls) [] hp2)
        | _ => none) = some o := h
    show (match mjCatch (hh.zip (mjHd k)) pc E with
      | none => some (.inr E, swH hp2, c, s)
      | some hpc => match mjAtI k hpc with
        | some (.astore_n j, _) => mjAdd c s (rec scr d k (hpc + 1) (mjDel (j : Nat) (rll swC ls)) [] (swH hp2))
        | some (.astore j, _) => mjAdd c s (rec scr d k (hpc + 2) (mjDel j (rll swC ls)) [] (swH hp2))
        | _ => none) = some (swO o)
    split at h
    · cases h
      rfl
    · split at h
      · refine mjAdd_sw h fun o1 ho1 => ?_
        have := hrec _ _ _ _ _ _ _ _ h19 ho1
        rw [mjDel_sw] at this
        exact this
      · refine mjAdd_sw h fun o1 ho1 => ?_
        have := hrec _ _ _ _ _ _ _ _ h19 ho1
        rw [mjDel_sw] at this
        exact this
      · cases h
theorem mjCall_sw {rec : mjRec} (hrec : swR rec) {scr : Option (List Int32)} {d k pc : Nat} {x : mjX} {hh : List (Nat × Nat × Nat × Nat)} {ls : mjL} {st : List Value} {hp : mjH} {o : mjO} (h19 : 19 ≤ hp.length) (h : mjCall rec scr d k pc x hh ls st hp = some o) : mjCall rec scr d k pc x hh (rll swC ls) (rls swC st) (swH hp) = some (swO o) := by
  unfold mjCall at h ⊢
  split at h
  · cases h
  · rename_i y2 nL2 ret2 own2 hh2 np2 stt2 hm
    rw [mjArgs_sw]
    split at h
    · cases h
    · rename_i as rest ha
      rw [ha]
      try dsimp only [Option.map_some]
      split at h
      · cases h
      · rename_i d'
        split at h
        · rename_i hc
          rw [cat_sw, mjRecv_sw h19, sl_sw, swH_len, mjSca_sw h19, if_pos hc, lvArgs_sw]
          split at h
          · cases h
          · rename_i r hr
            have h2 := hrec _ _ _ _ _ _ _ _ h19 hr
            rw [show rls swC [] = [] from rfl] at h2
            rw [h2]
            try dsimp only
            split at h
            · rename_i hle
              rw [if_pos (show hp.length ≤ (swO r).2.1.length from by show hp.length ≤ (swH r.2.1).length; rw [swH_len]; exact hle)]
              exact mjBack_sw hrec (Nat.le_trans h19 hle) h
            · cases h
        · cases h
theorem mjText_sw {rec : mjRec} (hrec : swR rec) {scr : Option (List Int32)} {d k pc : Nat} {x : mjX} {ls : mjL} {st : List Value} {hp : mjH} {o : mjO} (h19 : 19 ≤ hp.length) (h : mjText rec scr d k pc x ls st hp = some o) : mjText rec scr d k pc x (rll swC ls) (rls swC st) (swH hp) = some (swO o) := by
  unfold mjText at h ⊢
  split at h
  · rename_i e0
    rw [if_pos e0]
    rcases st with _ | ⟨v, r⟩
    · cases h
    cases v
    case ref q =>
      try dsimp only at h
      dsimp only [rlsC, rlR, rlI, rlL]
      rw [mjTxo_sw]
      split at h
      · rename_i bs hb
        try rw [hb]
        try dsimp only
        split at h
        · rename_i hc
          rw [cat_sw, if_pos hc]
          exact hrec _ _ _ _ _ _ _ _ h19 h
        · cases h
      · cases h
    all_goals cases h
  · rename_i e0
    rw [if_neg e0]
    rcases st with _ | ⟨v, _ | ⟨u, r⟩⟩
    · cases h
    · cases v <;> cases h
    · cases v
      case int i =>
        cases u
        case ref q =>
          try dsimp only at h
          dsimp only [rlsC, rlR, rlI, rlL]
          rw [mjTxo_sw]
          split at h
          · rename_i bs hb
            try rw [hb]
            try dsimp only
            split at h
            · rename_i hc
              rw [cat_sw, if_pos hc]
              split at h
              · rename_i c hq
                try rw [hq]
                exact hrec _ _ _ _ _ _ _ _ h19 h
              · cases h
            · cases h
          · cases h
        all_goals cases h
      all_goals cases h
theorem mjRv_sw (i : Instr) (ret : Option FieldType) (st : List Value) : mjRv i ret (rls swC st) = (mjRv i ret st).map (fun v => v.map (rl swC)) := by
  cases i
  case ireturn =>
    rcases st with _ | ⟨v, _ | ⟨u, r⟩⟩
    · rfl
    · cases v
      case int z =>
        show (match ret with | some ty => if narrow ty (Value.int z) = Value.int z then some (some (Value.int z)) else none | none => none) = (match ret with | some ty => if narrow ty (Value.int z) = Value.int z then some (some (Value.int z)) else none | none => none).map (fun v : Option Value => v.map (rl swC))
        cases ret with
        | none => rfl
        | some ty => dsimp only; split <;> rfl
      all_goals rfl
    · cases v <;> rfl
  case lreturn =>
    rcases st with _ | ⟨v, _ | ⟨u, r⟩⟩
    · rfl
    · cases v
      case long z =>
        show (if ret = some .long then some (some (Value.long z)) else none) = (if ret = some .long then some (some (Value.long z)) else none).map (fun v => v.map (rl swC))
        split <;> rfl
      all_goals rfl
    · cases v <;> rfl
  case areturn =>
    rcases st with _ | ⟨v, _ | ⟨u, r⟩⟩
    · rfl
    · cases v
      case ref z =>
        cases ret with
        | none => rfl
        | some ty => cases ty <;> rfl
      all_goals rfl
    · cases v <;> rfl
  case return_ =>
    rcases st with _ | ⟨v, r⟩
    · show (if ret = none then some none else none) = (if ret = none then some none else none).map (fun v : Option Value => v.map (rl swC))
      split <;> rfl
    · rfl
  all_goals rfl
theorem dflt_sw (ty : FieldType) : rl swC (defaultValue ty) = defaultValue ty := by cases ty <;> rfl
theorem fresh_sw (ci N : Nat) : swE (mjFresh ci N) = mjFresh ci N := by
  unfold swE mjFresh
  try dsimp only
  rw [show rls swC ((List.range N).map (fun j => defaultValue (mjTy ci j))) = (List.range N).map (fun j => defaultValue (mjTy ci j)) from by show ((List.range N).map _).map (rl swC) = _; rw [List.map_map]; exact List.map_congr_left (fun j _ => dflt_sw _)]
theorem zero_sw (t n : Nat) : swE (mjZero t n) = mjZero t n := by
  unfold swE mjZero
  try dsimp only
  rw [show rls swC (List.replicate n (defaultValue (mjAty t))) = List.replicate n (defaultValue (mjAty t)) from by show (List.replicate n _).map (rl swC) = _; rw [List.map_replicate, dflt_sw]]
theorem multi_sw {n : Nat} (h : 19 ≤ n) (N M : Nat) : ∀ e ∈ mjMulti n N M, swE e = e := by
  intro e he
  unfold mjMulti at he
  rcases List.mem_cons.mp he with rfl | he
  · unfold swE
    try dsimp only
    rw [show rls swC ((List.range N).map (fun j => Value.ref (n + 1 + j))) = (List.range N).map (fun j => Value.ref (n + 1 + j)) from by show ((List.range N).map _).map (rl swC) = _; rw [List.map_map]; exact List.map_congr_left (fun j _ => congrArg Value.ref (swC_hi (by omega)))]
  · rw [List.eq_of_mem_replicate he]
    exact zero_sw _ _
theorem mjStep_sw {rec : mjRec} (hrec : swR rec) : swR (mjStep rec) := by
  intro scr d k pc ls st hp o h19 h
  have hl := swH_len (hp := hp)
  unfold mjStep at h ⊢
  split at h
  · cases h
  rename_i x hx
  split at h
  · cases h
  rename_i y nL ret own hh np stt hm
  have rv : ∀ i : Instr, (match mjRv i ret st with | some v => some ((.inl v, hp, 0, 0) : mjO) | none => none) = some o → (match mjRv i ret (rls swC st) with | some v => some ((.inl v, swH hp, 0, 0) : mjO) | none => none) = some (swO o) := by
    intro i hi
    rw [mjRv_sw]
    cases hv : mjRv i ret st with
    | none => rw [hv] at hi; cases hi
    | some v => rw [hv] at hi; cases hi; rfl
  have dfl : (match mjAlu x.1 pc x.2.2.2.1 ls st with
      | some (pc', ls', st') => rec scr d k pc' ls' st' hp
      | none => match mjHp scr x pc st hp with
        | some (pc', st', hp') => rec scr d k pc' ls st' hp'
        | none => none) = some o → (match mjAlu x.1 pc x.2.2.2.1 (rll swC ls) (rls swC st) with
      | some (pc', ls', st') => rec scr d k pc' ls' st' (swH hp)
      | none => match mjHp scr x pc (rls swC st) (swH hp) with
        | some (pc', st', hp') => rec scr d k pc' (rll swC ls) st' hp'
        | none => none) = some (swO o) := by
    intro h
    rw [mjAlu_sw]
    cases ha : mjAlu x.1 pc x.2.2.2.1 ls st with
    | some q =>
      rw [ha] at h
      exact hrec _ _ _ _ _ _ _ _ h19 h
    | none =>
      rw [ha] at h
      try dsimp only [Option.map_none] at h ⊢
      cases hb : mjHp scr x pc st hp with
      | none => rw [hb] at h; cases h
      | some q =>
        rw [hb] at h
        rw [mjHp_sw h19 hb]
        exact hrec _ _ _ _ _ _ _ _ (by rw [mjHp_len hb]; exact h19) h
  cases hi : x.1
  all_goals (rw [hi] at h)
  all_goals first
    | exact rv _ h
    | (rw [hi] at dfl; exact dfl h)
    | skip
  case new kk =>
    try dsimp only at h ⊢
    split at h
    · rename_i e0
      rw [if_pos e0]
      split at h
      · rename_i r hr
        try rw [hr]
        try dsimp only
        split at h
        · rename_i hs
          rw [hl, mjSca_sw h19, if_pos hs]
          refine mjAdd_sw h fun o1 ho1 => ?_
          have := hrec _ _ _ _ _ _ _ _ (by rw [List.length_append]; omega) ho1
          rw [swH_app h19 (fun e he => by cases List.mem_singleton.mp he; exact fresh_sw _ _), show rls swC (.ref hp.length :: st) = .ref hp.length :: rls swC st from congrArg (fun z => Value.ref z :: rls swC st) (swC_hi h19)] at this
          exact this
        · cases h
      · cases h
    · rename_i e0
      rw [if_neg e0]
      split at h
      · rename_i e1
        cases h
        rw [cat_sw, if_pos e1]
        rfl
      · cases h
  case newarray kk =>
    try dsimp only at h ⊢
    rcases st with _ | ⟨v, r⟩
    · cases h
    cases v
    case int n =>
      try dsimp only at h
      dsimp only [rlsC, rlR, rlI, rlL]
      split at h
      · rename_i hs
        rw [hl, mjSca_sw h19, if_pos hs]
        refine mjAdd_sw h fun o1 ho1 => ?_
        have := hrec _ _ _ _ _ _ _ _ (by rw [List.length_append]; omega) ho1
        rw [swH_app h19 (fun e he => by cases List.mem_singleton.mp he; exact zero_sw _ _), show rls swC (.ref hp.length :: r) = .ref hp.length :: rls swC r from congrArg (fun z => Value.ref z :: rls swC r) (swC_hi h19)] at this
        exact this
      · cases h
    all_goals cases h
  case anewarray kk =>
    try dsimp only at h ⊢
    rcases st with _ | ⟨v, r⟩
    · cases h
    cases v
    case int n =>
      try dsimp only at h
      dsimp only [rlsC, rlR, rlI, rlL]
      split at h
      · rename_i hs
        rw [hl, mjSca_sw h19, if_pos hs]
        refine mjAdd_sw h fun o1 ho1 => ?_
        have := hrec _ _ _ _ _ _ _ _ (by rw [List.length_append]; omega) ho1
        rw [swH_app h19 (fun e he => by cases List.mem_singleton.mp he; exact zero_sw _ _), show rls swC (.ref hp.length :: r) = .ref hp.length :: rls swC r from congrArg (fun z => Value.ref z :: rls swC r) (swC_hi h19)] at this
        exact this
      · cases h
    all_goals cases h
  case multianewarray kk jj =>
    try dsimp only at h ⊢
    rcases st with _ | ⟨v, _ | ⟨u, r⟩⟩
    · cases h
    · cases v <;> cases h
    · cases v
      case int m =>
        cases u
        case int n =>
          try dsimp only at h
          dsimp only [rlsC, rlR, rlI, rlL]
          split at h
          · rename_i hs
            rw [hl, mjSca_sw h19, if_pos hs]
            refine mjAdd_sw h fun o1 ho1 => ?_
            have := hrec _ _ _ _ _ _ _ _ (by rw [List.length_append]; omega) ho1
            rw [swH_app h19 (multi_sw h19 _ _), show rls swC (.ref hp.length :: r) = .ref hp.length :: rls swC r from congrArg (fun z => Value.ref z :: rls swC r) (swC_hi h19)] at this
            exact this
          · cases h
        all_goals cases h
      all_goals cases h
  case invokespecial kk =>
    try dsimp only at h ⊢
    split at h
    · rename_i e0
      rw [if_pos e0]
      rcases st with _ | ⟨v, r⟩
      · cases h
      cases v
      case ref q =>
        try dsimp only at h
        dsimp only [rlsC, rlR, rlI, rlL]
        split at h
        · rename_i hc
          rw [cat_sw, if_pos hc]
          exact hrec _ _ _ _ _ _ _ _ h19 h
        · cases h
      all_goals cases h
    · rename_i e0
      rw [if_neg e0]
      exact mjCall_sw hrec h19 h
  case invokevirtual kk =>
    try dsimp only at h ⊢
    split at h
    · rename_i e0
      rw [if_pos e0]
      exact mjText_sw hrec h19 h
    · rename_i e0
      rw [if_neg e0]
      exact mjCall_sw hrec h19 h
  case invokestatic kk =>
    try dsimp only at h ⊢
    have two : ∀ g : Int32 → Int32 → Int32, (match (generalizing := false) st with
        | .int y :: .int x :: r => if (r.map fun v => v.category).sum ≤ 8 then rec scr d k (pc + 3) ls (.int (g x y) :: r) hp else none
        | _ => none) = some o → (match (generalizing := false) rls swC st with
        | .int y :: .int x :: r => if (r.map fun v => v.category).sum ≤ 8 then rec scr d k (pc + 3) (rll swC ls) (.int (g x y) :: r) (swH hp) else none
        | _ => none) = some (swO o) := by
      intro g hg
      rcases st with _ | ⟨v, _ | ⟨u, r⟩⟩
      · cases hg
      · cases v <;> cases hg
      · cases v
        case int a =>
          cases u
          case int b =>
            try dsimp only at hg
            dsimp only [rlsC, rlR, rlI, rlL]
            split at hg
            · rename_i hc
              rw [cat_sw, if_pos hc]
              exact hrec _ _ _ _ _ _ _ _ h19 hg
            · cases hg
          all_goals cases hg
        all_goals cases hg
    split at h
    · rename_i e0
      rw [if_pos e0]
      exact two (fun x y => if x < y then y else x) h
    · rename_i e0
      rw [if_neg e0]
      split at h
      · rename_i e1
        rw [if_pos e1]
        exact two (fun x y => if y < x then y else x) h
      · rename_i e1
        rw [if_neg e1]
        exact mjCall_sw hrec h19 h
theorem mjEx_sw : ∀ f : Nat, swR (mjEx f)
  | 0 => fun _ _ _ _ _ _ _ _ _ h => by cases h
  | f + 1 => mjStep_sw (mjEx_sw f)
theorem swO_sw (o : mjO) : swO (swO o) = o := by
  obtain ⟨r, h, c, s⟩ := o
  show (swOv (swOv r), swH (swH h), c, s) = (r, h, c, s)
  rw [swH_sw]
  have e : swOv (swOv r) = r := by
    cases r with
    | inr E => rfl
    | inl v =>
      cases v with
      | none => rfl
      | some v => show (Sum.inl (some (rl swC (rl swC v))) : Option Value ⊕ Nat) = .inl (some v); rw [swV_sw]
  rw [e]
/-- the same run with the two JARs changed -/
theorem mjRn_cc {Z : mjO → Prop} {scr : Option (List Int32)} {d k pc C S : Nat} {cl : mjL} {cs : List Value} {H : mjH} (h19 : 19 ≤ H.length) (h : mjRn Z scr [] d k pc cl cs H C S) : mjRn (fun o => Z (swO o)) scr [] d k pc (rll swC cl) (rls swC cs) (swH H) C S := by
  obtain ⟨f, o, a1, a2⟩ := h
  refine ⟨f, swO o, mjEx_sw f _ _ _ _ _ _ _ _ h19 a1, ?_⟩
  have a2 : Z (o.1, o.2.1, C + o.2.2.1, S + o.2.2.2) := a2
  show Z (swOv (swOv o.1), swH (swH o.2.1), C + o.2.2.1, S + o.2.2.2)
  have e := swO_sw o
  have e1 : swOv (swOv o.1) = o.1 := congrArg (fun o : mjO => o.1) e
  rw [swH_sw, e1]
  exact a2
end MJSW

/-! MJ: making objects and arrays -/
section MJNEW
/-- the addresses behind a making: new cells lie one behind the other -/
def mjNx (n z : Nat) (ad : Nat → Nat) : Nat → Nat := fun i => if n ≤ i ∧ i < mjS0 then z + (i - n) else ad i
def mjAg (n : Nat) (ad ad' : Nat → Nat) : Prop := ∀ i : Nat, i < n ∨ mjS0 ≤ i → ad' i = ad i
theorem mjAg.rf {n : Nat} {ad : Nat → Nat} : mjAg n ad ad := fun _ _ => rfl
theorem mjAg.trans {n n' : Nat} {ad ad1 ad2 : Nat → Nat} (h : mjAg n ad ad1) (h2 : mjAg n' ad1 ad2) (hn : n ≤ n') : mjAg n ad ad2 := fun i hi => (h2 i (hi.imp (fun q => Nat.lt_of_lt_of_le q hn) id)).trans (h i hi)
theorem mjNx_ag {n z : Nat} {ad : Nat → Nat} : mjAg n ad (mjNx n z ad) := fun i hi => by
  unfold mjNx
  rw [if_neg]
  rintro ⟨a, b⟩
  rcases hi with h | h <;> omega
theorem rl_ag {n : Nat} {ad ad' : Nat → Nat} (h : mjAg n ad ad') {v : Value} (hv : mjSc n v = true) : rl ad' v = rl ad v := by
  cases v with
  | ref i =>
    simp only [mjSc, Bool.or_eq_true, decide_eq_true_eq] at hv
    show Value.ref (ad' i) = Value.ref (ad i)
    rw [h i hv]
  | _ => rfl
theorem rls_ag {n : Nat} {ad ad' : Nat → Nat} (h : mjAg n ad ad') {st : List Value} (hv : st.all (mjSc n) = true) : rls ad' st = rls ad st :=
  List.map_congr_left (fun v hm => rl_ag h (List.all_eq_true.mp hv v hm))
theorem rll_ag {n : Nat} {ad ad' : Nat → Nat} (h : mjAg n ad ad') {ls : mjL} (hv : ls.all (fun q => mjSc n q.2) = true) : rll ad' ls = rll ad ls :=
  List.map_congr_left (fun q hm => by rw [rl_ag h (List.all_eq_true.mp hv q hm)])
theorem mjSc_mono {n n' : Nat} (h : n ≤ n') {v : Value} (hv : mjSc n v = true) : mjSc n' v = true := by
  cases v with
  | ref i =>
    simp only [mjSc, Bool.or_eq_true, decide_eq_true_eq] at hv ⊢
    rcases hv with h1 | h1
    · exact Or.inl (Nat.lt_of_lt_of_le h1 h)
    · exact Or.inr h1
  | _ => rfl
theorem rl_getD {n : Nat} {ad ad' : Nat → Nat} (h : mjAg n ad ad') {vs : List Value} (hv : ∀ v ∈ vs, mjSc n v = true) (k : Nat) : rl ad' (vs.getD k .null) = rl ad (vs.getD k .null) := by
  rw [List.getD_eq_getElem?_getD]
  cases hk : vs[k]? with
  | none => rfl
  | some v => exact rl_ag h (hv v (List.mem_of_getElem? hk))
theorem mjAt.ag {D : va_G} {dT : Nat → ClassId} {ad ad' : Nat → Nat} {n i : Nat} {e : mjE} {H : Heap} (h : mjAt D dT ad i e H) (hg : mjAg n ad ad') (hi : i < n) (hv : ∀ v ∈ e.2, mjSc n v = true) : mjAt D dT ad' i e H := by
  have e1 : (fun k => rl ad' (e.2.getD k .null)) = (fun k => rl ad (e.2.getD k .null)) := funext (fun k => rl_getD hg hv k)
  refine ⟨fun h1 => ?_, fun h1 => ?_⟩
  · obtain ⟨r, a, b, c⟩ := h.1 h1
    refine ⟨r, a, b, ?_⟩
    rw [e1, hg i (Or.inl hi)]
    exact c
  · rw [e1, hg i (Or.inl hi)]
    exact h.2 h1
theorem mjR.push {D : va_G} {dT : Nat → ClassId} {ad : Nat → Nat} {A : Nat → Prop} {hp es : mjH} {H H1 : Heap} (h : mjR D dT ad A hp H) (hA : ∀ q, H.size ≤ q → A q) (hold : ∀ q : Nat, q < H.size → H1[q]? = H[q]?) (hlen : hp.length + es.length < mjS0)
    (hn : ∀ (j : Nat) (e : mjE), es[j]? = some e → mjAt D dT (mjNx hp.length H.size ad) (hp.length + j) e H1) (hsc : ∀ e ∈ es, ∀ v ∈ e.2, mjSc (hp.length + es.length) v = true) :
    mjR D dT (mjNx hp.length H.size ad) A (hp ++ es) H1 := by
  obtain ⟨h1, h2, h3, h4, h5⟩ := h
  have hlt : ∀ i : Nat, i < hp.length → ad i < H.size := by
    intro i hi
    obtain ⟨e, he⟩ : ∃ e, hp[i]? = some e := ⟨hp[i], List.getElem?_eq_getElem hi⟩
    rcases Nat.lt_or_ge e.1 100 with hq | hq
    · obtain ⟨r, -, -, cell, q1, -⟩ := (h1 i e he).1 hq
      exact (Array.getElem?_eq_some_iff.mp q1).1
    · exact (Array.getElem?_eq_some_iff.mp ((h1 i e he).2 hq)).1
  have a1 : ∀ i : Nat, i < hp.length → mjNx hp.length H.size ad i = ad i := fun i hi => mjNx_ag i (Or.inl hi)
  have a2 : ∀ i : Nat, hp.length ≤ i → i < hp.length + es.length → mjNx hp.length H.size ad i = H.size + (i - hp.length) := fun i hi h => by
    unfold mjNx
    rw [if_pos ⟨hi, by omega⟩]
  have key : ∀ (i : Nat) (x : mjE), (hp ++ es)[i]? = some x → (i < hp.length ∧ hp[i]? = some x) ∨ (hp.length ≤ i ∧ es[i - hp.length]? = some x) := by
    intro i x hx
    by_cases hi : i < hp.length
    · rw [List.getElem?_append_left hi] at hx
      exact Or.inl ⟨hi, hx⟩
    · rw [List.getElem?_append_right (by omega)] at hx
      exact Or.inr ⟨by omega, hx⟩
  refine ⟨fun i x hx => ?_, fun i j hi hj hij => ?_, fun i hi => ?_, fun i x v hx hv => ?_, by rw [List.length_append]; exact hlen⟩
  · rcases key i x hx with ⟨hi, hx⟩ | ⟨hi, hx⟩
    · exact ((h1 i x hx).kept (hold _ (hlt i hi))).ag mjNx_ag hi (fun v hv => h4 i x v hx hv)
    · have := hn _ x hx
      rw [show hp.length + (i - hp.length) = i by omega] at this
      exact this
  · rw [List.length_append] at hi hj
    by_cases hi' : i < hp.length <;> by_cases hj' : j < hp.length
    · rw [a1 i hi', a1 j hj'] at hij
      exact h2 i j hi' hj' hij
    · rw [a1 i hi', a2 j (by omega) hj] at hij
      have := hlt i hi'
      omega
    · rw [a2 i (by omega) hi, a1 j hj'] at hij
      have := hlt j hj'
      omega
    · rw [a2 i (by omega) hi, a2 j (by omega) hj] at hij
      omega
  · rw [List.length_append] at hi
    by_cases hi' : i < hp.length
    · rw [a1 i hi']
      exact h3 i hi'
    · rw [a2 i (by omega) hi]
      exact hA _ (by omega)
  · rw [List.length_append]
    rcases key i x hx with ⟨hi, hx⟩ | ⟨hi, hx⟩
    · exact mjSc_mono (by omega) (h4 i x v hx hv)
    · exact hsc x (List.mem_of_getElem? hx) v hv
/-- the new cells: of class ci; an array of n places -/
def mjFresh (ci N : Nat) : mjE := (ci, (List.range N).map (fun j => defaultValue (mjTy ci j)))
def mjZero (t n : Nat) : mjE := (t, List.replicate n (defaultValue (mjAty t)))
theorem mj_dv (ty : FieldType) (n : Nat) (ad : Nat → Nat) : mjSc n (defaultValue ty) = true ∧ rl ad (defaultValue ty) = defaultValue ty := by
  cases ty <;> exact ⟨rfl, rfl⟩
variable {p : Program} {l : Launch} {e : Env} {R : Room} {s : State} {m : MethodId} {args : Array Value} {below : List Frame} {meth : Method} {c : Code} {cells slots : Nat} {Q : State → Prop} {cc : ByteArray} {H : Heap} {locs : List Loc} {arr : Array Slot} {ad : Nat → Nat} {pc a b w : Nat} {st : List Value}
variable {D : va_G} {dT : Nat → ClassId} {A : Nat → Prop} {hp : mjH} {own : String}
theorem mn_new {i : Nat} {r : vw_C} (hexec : p.tables.exec = Jvm.exec) (hb : c.code = cc) (hown : s.vm.findClass own = some m.cls) (hts : ∀ w ∈ mjGl, w.before args s = true) (hK : va_K D vwCl (mjTys dT) s) (hd : decode cc pc = .ok (.new i, 3))
    (hr : vwCl[a]? = some r) (hlk : mjIs w (.classLink own i r.1) = true) (hcells : cells + 1 ≤ R.cells) (hslots : slots + r.2.2 ≤ R.slots) (hR : mjR D dT ad A hp H) (hS : va_S A s.heap H locs) (hA : ∀ q, s.heap.size ≤ q → A q) (hlen : hp.length + 1 < mjS0) (hsc : st.all (mjSc hp.length) = true)
    (k : ∀ H' : Heap, mjR D dT (mjNx hp.length H.size ad) A (hp ++ [mjFresh a r.2.2]) H' → va_S A s.heap H' locs → W p l e R s m args below meth c H' locs (cells + 1) (slots + r.2.2) Q (F0 m (pc + 3) arr (rls (mjNx hp.length H.size ad) (.ref hp.length :: st)))) : W p l e R s m args below meth c H locs cells slots Q (F0 m pc arr (rls ad st)) := by
  obtain ⟨h10, hin, hty, hnm, hins, hini⟩ := mj_cls hr
  have hKn := hK.1 a _ hr
  refine W.newcK hexec hb hown (hts _ (mjIs_in hlk)) (hts _ hins) (hts _ hini) rfl hd hcells hslots hKn.2.1 rfl fun H1 kC hkC e1 z1 o1 => ?_
  have e0 : mjNx hp.length H.size ad hp.length = H.size := by
    unfold mjNx
    rw [if_pos ⟨Nat.le_refl _, by omega⟩]
    omega
  have hR1 : mjR D dT (mjNx hp.length H.size ad) A (hp ++ [mjFresh a r.2.2]) H1 := by
    refine hR.push (fun q hq => hA q (Nat.le_trans hS.1 hq)) o1 (by simpa using hlen) (fun j x hx => ?_) (fun x hx v hv => ?_)
    · have hj : j < 1 := (List.getElem?_eq_some_iff.mp hx).1
      rw [show j = 0 by omega] at hx ⊢
      cases hx
      refine ⟨fun _ => ⟨r, hr, by simp [mjFresh], ?_⟩, fun h => absurd h (by show ¬ 100 ≤ a; omega)⟩
      show t_OB (mjNx hp.length H.size ad hp.length) _ _ _ _ _
      rw [e0]
      refine (u_born (mjTy a) hts hin hKn hkC e1 hty).to (fun j hj => ?_)
      rw [show (mjFresh a r.2.2).2.getD j .null = defaultValue (mjTy a j) by simp [mjFresh, hj]]
      exact ((mj_dv _ 0 _).2).symm
    · rw [List.mem_singleton.mp hx] at hv
      obtain ⟨j, -, rfl⟩ := List.mem_map.mp hv
      exact (mj_dv _ _ ad).1
  have k1 := k H1 hR1 ⟨Nat.le_trans hS.1 (by omega), fun x h1 h2 => (o1 x (Nat.lt_of_lt_of_le h1 hS.1)).trans (hS.2.1 x h1 h2), hS.2.2⟩
  have e2 : rls (mjNx hp.length H.size ad) (.ref hp.length :: st) = .ref H.size :: rls ad st := by
    show Value.ref (mjNx hp.length H.size ad hp.length) :: rls (mjNx hp.length H.size ad) st = _
    rw [e0, rls_ag mjNx_ag hsc]
  rw [e2] at k1
  exact k1
/-- an array of numbers -/
theorem mn_newarray {at' : ArrayType} {n : Int32} (hexec : p.tables.exec = Jvm.exec) (hb : c.code = cc) (hts : ∀ w ∈ mjGl, w.before args s = true) (hK : va_K D vwCl (mjTys dT) s) (hd : decode cc pc = .ok (.newarray at', 2))
    (ha : a < 4) (hty : newarray.typeOf at' = mjAty (100 + a)) (hlk : mjIs w (.arrayClass (mjAty (100 + a))) = true) (hn : ¬ n < 0) (hbig : n.toNatClampNeg ≤ 100000) (hcells : cells + 1 ≤ R.cells) (hslots : slots + n.toNatClampNeg ≤ R.slots) (hR : mjR D dT ad A hp H) (hS : va_S A s.heap H locs) (hA : ∀ q, s.heap.size ≤ q → A q) (hlen : hp.length + 1 < mjS0) (hsc : st.all (mjSc hp.length) = true)
    (k : ∀ H' : Heap, mjR D dT (mjNx hp.length H.size ad) A (hp ++ [mjZero (100 + a) n.toNatClampNeg]) H' → va_S A s.heap H' locs → W p l e R s m args below meth c H' locs (cells + 1) (slots + n.toNatClampNeg) Q (F0 m (pc + 2) arr (rls (mjNx hp.length H.size ad) (.ref hp.length :: st)))) : W p l e R s m args below meth c H locs cells slots Q (F0 m pc arr (rls ad (.int n :: st))) := by
  have hcb : n.toNatClampNeg * componentBytes (newarray.typeOf at') ≤ 536870912 := by
    have h8 : componentBytes (newarray.typeOf at') ≤ 8 := by cases at' <;> decide
    exact Nat.le_trans (Nat.mul_le_mul hbig h8) (by decide)
  refine va_newaK hexec hb (by rw [hty]; exact hts _ (mjIs_in hlk)) rfl hd rfl hn rfl hcb hcells hslots rfl fun H1 cA e1 z1 o1 hAr hNm => ?_
  have hRA := (mj_ty hK (t := 100 + a) (by omega) (by omega)).2
  have hcA : dT (100 + a) = cA := by
    have h9 : s.vm.findClass ("[" ++ (mjAty (100 + a)).toString) = some (dT (100 + a)) := by
      match a, ha, hRA with
      | 0, _, h => exact h
      | 1, _, h => exact h
      | 2, _, h => exact h
      | 3, _, h => exact h
    rw [hty, h9] at hNm
    exact Option.some.inj hNm
  have e0 : mjNx hp.length H.size ad hp.length = H.size := by
    unfold mjNx
    rw [if_pos ⟨Nat.le_refl _, by omega⟩]
    omega
  have hR1 : mjR D dT (mjNx hp.length H.size ad) A (hp ++ [mjZero (100 + a) n.toNatClampNeg]) H1 := by
    refine hR.push (fun q hq => hA q (Nat.le_trans hS.1 hq)) o1 (by simpa using hlen) (fun j x hx => ?_) (fun x hx v hv => ?_)
    · have hj : j < 1 := (List.getElem?_eq_some_iff.mp hx).1
      rw [show j = 0 by omega] at hx ⊢
      cases hx
      refine ⟨fun h => absurd h (by show ¬ 100 + a < 100; omega), fun _ => ?_⟩
      show H1[mjNx hp.length H.size ad hp.length]? = _
      rw [e0, e1, hty]
      show some _ = some (arrV (dT (100 + a)) (List.replicate n.toNatClampNeg (defaultValue (mjAty (100 + a)))).length _)
      rw [hcA, List.length_replicate]
      refine congrArg some ?_
      unfold arrV
      congr 2
      funext j
      dsimp only
      rw [show (mjZero (100 + a) n.toNatClampNeg).2.getD j.val .null = defaultValue (mjAty (100 + a)) by simp [mjZero, List.getD_eq_getElem?_getD, List.getElem?_replicate, j.isLt]]
      exact ((mj_dv _ 0 _).2).symm
    · rw [List.mem_singleton.mp hx] at hv
      rw [(List.mem_replicate.mp hv).2]
      exact (mj_dv _ _ ad).1
  have k1 := k H1 hR1 ⟨Nat.le_trans hS.1 (by omega), fun x h1 h2 => (o1 x (Nat.lt_of_lt_of_le h1 hS.1)).trans (hS.2.1 x h1 h2), hS.2.2⟩
  have e2 : rls (mjNx hp.length H.size ad) (.ref hp.length :: st) = .ref H.size :: rls ad st := by
    show Value.ref (mjNx hp.length H.size ad hp.length) :: rls (mjNx hp.length H.size ad) st = _
    rw [e0, rls_ag mjNx_ag hsc]
  rw [e2] at k1
  exact k1
/-- an array of objects -/
theorem mn_anew {i : Nat} {n : Int32} {C : String} (hexec : p.tables.exec = Jvm.exec) (hb : c.code = cc) (hown : s.vm.findClass own = some m.cls) (hts : ∀ w ∈ mjGl, w.before args s = true) (hK : va_K D vwCl (mjTys dT) s) (hd : decode cc pc = .ok (.anewarray i, 3))
    (ha : 100 ≤ a ∧ a < 107) (hty : mjAty a = .object C) (hlk : mjIs w (.classLink own i C) = true) (hov : (Cond.arrayOver (.object C)).before args s = true) (hn : ¬ n < 0) (hbig : n.toNatClampNeg ≤ 100000) (hcells : cells + 1 ≤ R.cells) (hslots : slots + n.toNatClampNeg ≤ R.slots) (hR : mjR D dT ad A hp H) (hS : va_S A s.heap H locs) (hA : ∀ q, s.heap.size ≤ q → A q) (hlen : hp.length + 1 < mjS0) (hsc : st.all (mjSc hp.length) = true)
    (k : ∀ H' : Heap, mjR D dT (mjNx hp.length H.size ad) A (hp ++ [mjZero a n.toNatClampNeg]) H' → va_S A s.heap H' locs → W p l e R s m args below meth c H' locs (cells + 1) (slots + n.toNatClampNeg) Q (F0 m (pc + 3) arr (rls (mjNx hp.length H.size ad) (.ref hp.length :: st)))) : W p l e R s m args below meth c H locs cells slots Q (F0 m pc arr (rls ad (.int n :: st))) := by
  refine W.anew hexec hb hown (hts _ (mjIs_in hlk)) hov rfl hd rfl hn (by omega) hcells hslots fun cA kA comp f1 f2 f3 f4 => ?_
  generalize hH1 : H.push ({ cls := cA, slots := Array.replicate n.toNatClampNeg .null, vm := .none } : Cell) = H1
  have z1 : H1.size = H.size + 1 := by rw [← hH1, Array.size_push]
  have e1 : H1[H.size]? = some (arrV cA n.toNatClampNeg (fun _ => .null)) := by rw [← hH1, Array.getElem?_push_size, ← arrV_new]
  have o1 : ∀ q : Nat, q < H.size → H1[q]? = H[q]? := fun q hq => by rw [← hH1, Array.getElem?_push, if_neg (Nat.ne_of_lt hq)]
  have hRA := (mj_ty hK ha.1 ha.2).2
  have hcA : dT a = cA := by
    rw [hty] at hRA
    obtain ⟨_, _, -, -, -, h9⟩ := hRA
    exact Option.some.inj (h9.symm.trans f1)
  have e0 : mjNx hp.length H.size ad hp.length = H.size := by
    unfold mjNx
    rw [if_pos ⟨Nat.le_refl _, by omega⟩]
    omega
  have hR1 : mjR D dT (mjNx hp.length H.size ad) A (hp ++ [mjZero a n.toNatClampNeg]) H1 := by
    refine hR.push (fun q hq => hA q (Nat.le_trans hS.1 hq)) o1 (by simpa using hlen) (fun j x hx => ?_) (fun x hx v hv => ?_)
    · have hj : j < 1 := (List.getElem?_eq_some_iff.mp hx).1
      rw [show j = 0 by omega] at hx ⊢
      cases hx
      refine ⟨fun h => absurd h (by show ¬ a < 100; omega), fun _ => ?_⟩
      show H1[mjNx hp.length H.size ad hp.length]? = _
      rw [e0, e1]
      show some _ = some (arrV (dT a) (List.replicate n.toNatClampNeg (defaultValue (mjAty a))).length _)
      rw [hcA, List.length_replicate]
      refine congrArg some ?_
      unfold arrV
      congr 2
      funext j
      dsimp only
      rw [show (mjZero a n.toNatClampNeg).2.getD j.val .null = defaultValue (mjAty a) by simp [mjZero, List.getD_eq_getElem?_getD, List.getElem?_replicate, j.isLt], hty]
      rfl
    · rw [List.mem_singleton.mp hx] at hv
      rw [(List.mem_replicate.mp hv).2]
      exact (mj_dv _ _ ad).1
  have k1 := k H1 hR1 ⟨Nat.le_trans hS.1 (by omega), fun x h1 h2 => (o1 x (Nat.lt_of_lt_of_le h1 hS.1)).trans (hS.2.1 x h1 h2), hS.2.2⟩
  have e2 : rls (mjNx hp.length H.size ad) (.ref hp.length :: st) = .ref H.size :: rls ad st := by
    show Value.ref (mjNx hp.length H.size ad hp.length) :: rls (mjNx hp.length H.size ad) st = _
    rw [e0, rls_ag mjNx_ag hsc]
  rw [e2] at k1
  exact k1
/-- an array of N arrays of M ints -/
def mjMulti (n N M : Nat) : mjH := (106, (List.range N).map (fun j => Value.ref (n + 1 + j))) :: List.replicate N (mjZero 100 M)
theorem mn_multi {i : Nat} {n k' : Int32} (hexec : p.tables.exec = Jvm.exec) (hb : c.code = cc) (hown : s.vm.findClass own = some m.cls) (hts : ∀ w ∈ mjGl, w.before args s = true) (hK : va_K D vwCl (mjTys dT) s) (hd : decode cc pc = .ok (.multianewarray i 2, 4))
    (hlk : mjIs w (.classLink own i ("[" ++ (FieldType.array .int).toString)) = true) (hov : (Cond.arrayOver (.array .int)).before args s = true) (harr : (Cond.arrayClass .int).before args s = true) (hn : ¬ n < 0) (hbig : n.toNatClampNeg ≤ 100000) (hk : ¬ k' < 0) (hbig2 : k'.toNatClampNeg ≤ 100000) (hcells : cells + (1 + n.toNatClampNeg) ≤ R.cells) (hslots : slots + (n.toNatClampNeg + n.toNatClampNeg * k'.toNatClampNeg) ≤ R.slots) (hR : mjR D dT ad A hp H) (hS : va_S A s.heap H locs) (hA : ∀ q, s.heap.size ≤ q → A q) (hlen : hp.length + (1 + n.toNatClampNeg) < mjS0) (hsc : st.all (mjSc hp.length) = true)
    (k : ∀ H' : Heap, mjR D dT (mjNx hp.length H.size ad) A (hp ++ mjMulti hp.length n.toNatClampNeg k'.toNatClampNeg) H' → va_S A s.heap H' locs → W p l e R s m args below meth c H' locs (cells + (1 + n.toNatClampNeg)) (slots + (n.toNatClampNeg + n.toNatClampNeg * k'.toNatClampNeg)) Q (F0 m (pc + 4) arr (rls (mjNx hp.length H.size ad) (.ref hp.length :: st)))) : W p l e R s m args below meth c H locs cells slots Q (F0 m pc arr (rls ad (.int k' :: .int n :: st))) := by
  intro T hT Xs
  have hcy : s.vm.findClass (FieldType.array .int).toString = some (dT 100) := (mj_ty hK (t := 100) (by decide) (by decide)).2
  obtain ⟨vm₁, cA, comp, -, fA, fC, hO, -, X', step⟩ := Xs.multianewarray2F hexec hown (hts _ (mjIs_in hlk)) hov harr (g := F0 m pc arr (.int k' :: .int n :: rls ad st)) rfl (by rw [hb]; exact hd) rfl hn hk (by omega) (by show _ * 4 ≤ _; omega) (by omega) rfl rfl hcells hslots
  have ec : some (dT 100) = some comp := hcy.symm.trans fC
  cases ec
  generalize hF : Jvm.Free.Multi.fill (T.setVm vm₁) cA (dT 100) n.toNatClampNeg k'.toNatClampNeg (defaultValue .int) n.toNatClampNeg = F at X' step
  have hTh : (T.setVm vm₁).heap = H := hT
  obtain ⟨f1, f2, -, -⟩ := Jvm.Free.Multi.fill_facts (T.setVm vm₁) cA (dT 100) n.toNatClampNeg k'.toNatClampNeg (defaultValue .int) n.toNatClampNeg
  rw [hF, hTh] at f1 f2
  have hold : ∀ x : Nat, x < H.size → F.heap[x]? = H[x]? := fun x hx => by
    have := Jvm.Free.Multi.fill_old (T.setVm vm₁) cA (dT 100) n.toNatClampNeg k'.toNatClampNeg (defaultValue .int) (a := x) (by rw [hTh]; exact hx) n.toNatClampNeg
    rw [hF, hTh] at this
    exact this
  have hrow : ∀ j : Nat, j < n.toNatClampNeg → F.heap[H.size + 1 + j]? = some (arrV (dT 100) k'.toNatClampNeg (fun _ => defaultValue .int)) := fun j hj => by
    have := Jvm.Free.Multi.fill_inner (T.setVm vm₁) cA (dT 100) n.toNatClampNeg k'.toNatClampNeg (defaultValue .int) n.toNatClampNeg j hj
    rw [hF, hTh] at this
    rw [this]
    show some ({ cls := dT 100, slots := Array.replicate k'.toNatClampNeg (defaultValue .int), vm := .none } : Cell) = _
    rw [arrV_new]
  rw [vr_outer cA n.toNatClampNeg H.size n.toNatClampNeg] at f2
  have hcA : dT 106 = cA := by
    have h9 : s.vm.findClass ("[" ++ (FieldType.array .int).toString) = some (dT 106) := (mj_ty hK (t := 106) (by decide) (by decide)).2
    exact Option.some.inj (h9.symm.trans fA)
  have a2 : ∀ i : Nat, hp.length ≤ i → i < hp.length + (1 + n.toNatClampNeg) → mjNx hp.length H.size ad i = H.size + (i - hp.length) := fun i hi h => by
    unfold mjNx
    rw [if_pos ⟨hi, by omega⟩]
  have hlm : (mjMulti hp.length n.toNatClampNeg k'.toNatClampNeg).length = 1 + n.toNatClampNeg := by
    simp [mjMulti]; omega
  have hR1 : mjR D dT (mjNx hp.length H.size ad) A (hp ++ mjMulti hp.length n.toNatClampNeg k'.toNatClampNeg) F.heap := by
    refine hR.push (fun q hq => hA q (Nat.le_trans hS.1 hq)) hold (by rw [hlm]; exact hlen) (fun j x hx => ?_) (fun x hx v hv => ?_)
    · cases j with
      | zero =>
        cases hx
        refine ⟨fun h => absurd h (by show ¬ 106 < 100; omega), fun _ => ?_⟩
        rw [a2 _ (by omega) (by omega)]
        show F.heap[H.size + (hp.length + 0 - hp.length)]? = _
        rw [show H.size + (hp.length + 0 - hp.length) = H.size by omega, f2]
        show _ = some (arrV (dT 106) ((List.range n.toNatClampNeg).map (fun j => Value.ref (hp.length + 1 + j))).length _)
        rw [hcA, List.length_map, List.length_range]
        refine congrArg some ?_
        unfold arrV
        congr 2
        funext j
        dsimp only
        rw [show ((List.range n.toNatClampNeg).map (fun j => Value.ref (hp.length + 1 + j))).getD j.val .null = .ref (hp.length + 1 + j.val) by simp [List.getD_eq_getElem?_getD, j.isLt]]
        rw [if_pos j.isLt]
        show Value.ref _ = Value.ref (mjNx _ _ _ _)
        rw [a2 _ (by omega) (by have := j.isLt; omega)]
        rw [show H.size + (hp.length + 1 + j.val - hp.length) = H.size + 1 + j.val by omega]
      | succ j =>
        have hj : j < n.toNatClampNeg := by
          have := (List.getElem?_eq_some_iff.mp hx).1
          rw [hlm] at this
          omega
        have hx' : (List.replicate n.toNatClampNeg (mjZero 100 k'.toNatClampNeg))[j]? = some x := hx
        rw [List.getElem?_replicate, if_pos hj] at hx'
        cases hx'
        refine ⟨fun h => absurd h (by show ¬ 100 < 100; omega), fun _ => ?_⟩
        rw [a2 _ (by omega) (by omega)]
        rw [show H.size + (hp.length + (j + 1) - hp.length) = H.size + 1 + j by omega, hrow j hj]
        show some _ = some (arrV (dT 100) (List.replicate k'.toNatClampNeg (defaultValue (mjAty 100))).length _)
        rw [List.length_replicate]
        refine congrArg some ?_
        unfold arrV
        congr 2
        funext j
        dsimp only
        rw [show (mjZero 100 k'.toNatClampNeg).2.getD j.val .null = defaultValue (mjAty 100) by simp [mjZero, List.getD_eq_getElem?_getD, List.getElem?_replicate, j.isLt]]
        rfl
    · rw [hlm]
      rcases List.mem_cons.mp hx with rfl | hx
      · obtain ⟨j, hj, rfl⟩ := List.mem_map.mp hv
        have := List.mem_range.mp hj
        show (decide (hp.length + 1 + j < hp.length + (1 + n.toNatClampNeg)) || decide (mjS0 ≤ hp.length + 1 + j)) = true
        rw [decide_eq_true (show hp.length + 1 + j < hp.length + (1 + n.toNatClampNeg) by omega)]
        rfl
      · rw [(List.mem_replicate.mp hx).2] at hv
        rw [(List.mem_replicate.mp hv).2]
        rfl
  have k1 := k F.heap hR1 ⟨by rw [f1]; have := hS.1; omega, fun x h1 h2 => (hold x (Nat.lt_of_lt_of_le h1 hS.1)).trans (hS.2.1 x h1 h2), hS.2.2⟩
  have e2 : rls (mjNx hp.length H.size ad) (.ref hp.length :: st) = .ref H.size :: rls ad st := by
    show Value.ref (mjNx hp.length H.size ad hp.length) :: rls (mjNx hp.length H.size ad) st = _
    rw [rls_ag mjNx_ag hsc, a2 _ (by omega) (by omega), Nat.sub_self, Nat.add_zero]
  rw [e2] at k1
  rw [show cells + (1 + n.toNatClampNeg) = cells + 1 + n.toNatClampNeg by omega, show slots + (n.toNatClampNeg + n.toNatClampNeg * k'.toNatClampNeg) = slots + n.toNatClampNeg + n.toNatClampNeg * k'.toNatClampNeg by omega] at k1
  obtain ⟨t, a1, b1⟩ := k1 F rfl X'
  refine ⟨t, step t ?_, b1⟩
  have e : T.heap.size = H.size := by rw [hT]
  rw [e]
  exact a1
end MJNEW

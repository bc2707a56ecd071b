/-! MJ: what a method's world carries beside its cells -/
section MJKX
noncomputable def mjEn (a : Nat) : Option String := (mjEp[a]?).map (fun q => q.1)
abbrev mjNm : List String := ["java/lang/RuntimeException", "java/lang/Exception"]
/-- words of the throws, and of the catches, that aren't good ones -/
noncomputable def mjXw : List Cond := (mjTh.flatMap (fun q => (vx_atS q.2.2.1 q.2.2.2.1 q.2.2.2.2 mjNm).filter (fun w => !goodWord w))) ++ mjEp.map (fun q => Cond.castable q.1 q.1)
set_option maxRecDepth 100000 in
theorem mjXw_k : mjXw.all (fun w => w.onTables && w.keepsFace) = true := by decide +kernel
set_option maxRecDepth 100000 in
theorem mjXw_in : mjXw.all (fun w => decide (w ∈ tables_1)) = true := by decide +kernel
set_option maxRecDepth 100000 in
theorem mjNw_in : mjNw.all (fun w => decide (w ∈ tables_1)) = true := by decide +kernel
set_option maxRecDepth 100000 in
theorem mjAt_in : mjTh.all (fun q => ((vx_atS q.2.2.1 q.2.2.2.1 q.2.2.2.2 mjNm).filter goodWord).all (fun w => decide (w ∈ tables_1))) = true := by decide +kernel
set_option maxRecDepth 100000 in
theorem mjAt_ot : mjTh.all (fun q => (vx_atS q.2.2.1 q.2.2.2.1 q.2.2.2.2 mjNm).all vx_ot) = true := by decide +kernel
theorem va_AOA.moved {ty : FieldType} {u U : State} (hvm : u.vm.Alike U.vm) (h : va_AOA ty u) : va_AOA ty U := Jvm.Stand.arrayOver_alikeB hvm h
/-- the class's own texts: their letters -/
def mjTx (ad : Nat → Nat) (A : Nat → Prop) (U : State) (H : Heap) : Prop := ∀ (o : Nat) (bs : List Nat), mjTxo o = some bs → ∃ t, jtT (ad o) t bs A U H
theorem mjTxo_le {o : Nat} {bs : List Nat} (h : mjTxo o = some bs) : mjS0 ≤ o := by
  unfold mjTxo at h
  split at h
  · assumption
  · cases h
def mjKX (D : va_G) (dT : Nat → ClassId) (ad : Nat → Nat) (A : Nat → Prop) (U : State) : Prop :=
  va_K D vwCl (mjTys dT) U ∧ mjSt_ok ad U ∧ (∀ w ∈ mjXw, va_Nw w U) ∧ (∀ w ∈ mjNw, va_Nw w U) ∧ (∀ (a b : Nat) (E F : String), mjEn a = some E → mjEn b = some F → a ≠ b → va_Nc E F U) ∧ (va_AO RX4 U ∧ va_AO RX7 U ∧ va_AOA .int U) ∧
  vx_Zq Bundle.tN "UNASSIGNED_STACK" Bundle.steD A U U.heap ∧ vx_Zq Bundle.tN "SUPPRESSED_SENTINEL" Bundle.listD A U U.heap ∧ mjTx ad A U U.heap
theorem mjNw_form : ∀ w ∈ mjNw, ∃ (a : String) (i : Nat) (x : MethodName) (h : String), w = .methodLinkNest a i x h := by
  intro w hw
  simp only [mjNw, List.mem_cons, List.not_mem_nil, or_false] at hw
  rcases hw with h | h | h | h | h | h <;> exact ⟨_, _, _, _, h⟩
theorem va_Nw.warmX {w : Cond} {s U : State} (h1 : w.onTables = true) (h2 : w.keepsFace = true) (hW : s.WarmedH U.vm) (hZ : va_Nw w s) : va_Nw w U :=
  va_tabs h1 (rfl : (s.setVm U.vm).vm = U.vm) (Cond.before_shiftedFace (args := #[]) (State.Shifted.of_warmed hW) w h2 hZ)
theorem mjKX.to {D : va_G} {dT : Nat → ClassId} {ad : Nat → Nat} {A A' : Nat → Prop} {s U : State} {H : Heap} {locs : List Loc} (h : mjKX D dT ad A s) (hW : s.WarmedH U.vm) (hH : U.heap = H) (hS : va_S A s.heap H locs) (hAA : ∀ q, A' q → A q) : mjKX D dT ad A' U := by
  obtain ⟨h1, h2, h3, h4, h5, ⟨h6, h7, h8⟩, h9, h10, h11⟩ := h
  refine ⟨va_K.moved hW.alike h1, fun j o i tx hj => vk_R.warm hW (h2 j o i tx hj), fun w hw => ?_, fun w hw => ?_, fun a b E F ha hb hne => va_Nc.moved hW.alike (h5 a b E F ha hb hne), ⟨va_AO.moved hW.alike h6, va_AO.moved hW.alike h7, va_AOA.moved hW.alike h8⟩, ?_, ?_, fun o bs ho => ?_⟩
  · have := List.all_eq_true.mp mjXw_k w hw
    simp only [Bool.and_eq_true] at this
    exact va_Nw.warmX this.1 this.2 hW (h3 w hw)
  · obtain ⟨a, i, x, hs, rfl⟩ := mjNw_form w hw
    exact va_Nw.warmM hW (h4 _ hw)
  · rw [hH]
    exact (vx_Zq.kept (vx_Zq.moved hW.alike h9) hS.2.1).narrow hAA
  · rw [hH]
    exact (vx_Zq.kept (vx_Zq.moved hW.alike h10) hS.2.1).narrow hAA
  · obtain ⟨t, ht⟩ := h11 o bs ho
    exact ⟨t, ht.to hW hH hS hAA⟩
theorem mjKX.calling {D : va_G} {dT : Nat → ClassId} {ad : Nat → Nat} {A : Nat → Prop} {U : State} (h : mjKX D dT ad A U) (g : JFrame) (mk : MethodId) (a : Array Value) : mjKX D dT ad A (U.calling g mk a) := by
  obtain ⟨h1, h2, h3, h4, h5, ⟨h6, h7, h8⟩, h9, h10, h11⟩ := h
  have hal : U.vm.Alike (U.calling g mk a).vm := Vm.Alike.refl U.vm
  refine ⟨va_K.moved hal h1, fun j o i tx hj => vk_R.same (u := U) (U := U.calling g mk a) rfl (h2 j o i tx hj), fun w hw => ?_, fun w hw => ?_, fun a b E F ha hb hne => va_Nc.moved hal (h5 a b E F ha hb hne), ⟨va_AO.moved hal h6, va_AO.moved hal h7, va_AOA.moved hal h8⟩, vx_Zq.moved hal h9, vx_Zq.moved hal h10, fun o bs ho => (h11 o bs ho).imp fun t ht => jtT.moved (u := U) (U := U.calling g mk a) hal ht⟩
  · have := List.all_eq_true.mp mjXw_k w hw
    simp only [Bool.and_eq_true] at this
    exact va_Nw.same (u := U) (U := U.calling g mk a) this.1 rfl (h3 w hw)
  · obtain ⟨a1, i, x, hs, rfl⟩ := mjNw_form w hw
    exact va_Nw.same (u := U) (U := U.calling g mk a) rfl rfl (h4 _ hw)
theorem mjKX.ag {D : va_G} {dT : Nat → ClassId} {ad ad' : Nat → Nat} {A : Nat → Prop} {U : State} {n : Nat} (h : mjKX D dT ad A U) (hg : mjAg n ad ad') : mjKX D dT ad' A U := by
  obtain ⟨h1, h2, h3, h4, h5, h6, h9, h10, h11⟩ := h
  exact ⟨h1, fun j o i tx hj => by rw [hg _ (Or.inr (Nat.le_add_right _ _))]; exact h2 j o i tx hj, h3, h4, h5, h6, h9, h10, fun o bs ho => by rw [hg _ (Or.inr (mjTxo_le ho))]; exact h11 o bs ho⟩
theorem mjSX.ag {scr : Option (List Int32)} {ad ad' : Nat → Nat} {A : Nat → Prop} {s : State} {n : Nat} (h : mjSX scr ad A s) (hg : mjAg n ad ad') : mjSX scr ad' A s := by
  intro xs hx
  rw [hg mjScr (Or.inr (by decide))]
  exact h xs hx
theorem mjSX.none {ad : Nat → Nat} {A : Nat → Prop} {s : State} : mjSX none ad A s := fun _ h => by cases h
/-- which cells a method may change -/
def mjAf (ad : Nat → Nat) (n sz : Nat) : Nat → Prop := fun q => (∃ i, i < n ∧ q = ad i) ∨ sz ≤ q
def mjPc (D : va_G) (dT : Nat → ClassId) (ad : Nat → Nat) (hp : mjH) (sz : Nat) (as : List Value) : Array Value → State → Prop :=
  va_Pc (rls ad as) (fun U => U.heap.size = sz ∧ mjR D dT ad (mjAf ad hp.length sz) hp U.heap ∧ mjKX D dT ad (mjAf ad hp.length sz) U)
def mjQc (D : va_G) (dT : Nat → ClassId) (ad : Nat → Nat) (n sz : Nat) (o : Option Value ⊕ Nat) (hp' : mjH) : Array Value → State → Outcome → State → Prop := fun _ st oc t =>
  ∃ (v : Option Value) (ad' : Nat → Nat), o = .inl v ∧ mjAg n ad ad' ∧ oc = .returned (v.map (rl ad')) ∧ mjR D dT ad' (mjAf ad n sz) hp' t.heap ∧ va_F (mjAf ad n sz) st t
noncomputable def mjXc (D : va_G) (dT : Nat → ClassId) (ad : Nat → Nat) (n sz : Nat) (o : Option Value ⊕ Nat) (hp' : mjH) : String → State → State → Prop := fun E st t =>
  ∃ (x : Nat) (ad' : Nat → Nat), o = .inr x ∧ mjEn x = some E ∧ mjAg n ad ad' ∧ mjR D dT ad' (mjAf ad n sz) hp' t.heap ∧ va_F (mjAf ad n sz) st t
theorem mjR.A {D : va_G} {dT : Nat → ClassId} {ad : Nat → Nat} {A B : Nat → Prop} {hp : mjH} {H : Heap} (h : mjR D dT ad A hp H) (hB : ∀ i, i < hp.length → B (ad i)) : mjR D dT ad B hp H := ⟨h.1, h.2.1, hB, h.2.2.2⟩
theorem mjPc.blind {D : va_G} {dT : Nat → ClassId} {ad : Nat → Nat} {hp : mjH} {sz : Nat} {as : List Value} : FrameBlind (mjPc D dT ad hp sz as) := by
  rintro a U g mk ⟨h1, h2, h3, h4⟩
  exact ⟨h1, h2, h3, h4.calling g mk a⟩
theorem lv_args_map (ad : Nat → Nat) : ∀ (vs : List Value) (i : Nat), lv_args i (rls ad vs) = rll ad (lv_args i vs)
  | [], _ => rfl
  | v :: vs, i => by
    show (i, rl ad v) :: lv_args (if (rl ad v).category = 2 then i + 2 else i + 1) (rls ad vs) = (i, rl ad v) :: rll ad (lv_args (if v.category = 2 then i + 2 else i + 1) vs)
    rw [rl_cat, lv_args_map ad vs]
theorem lg_sl_map (ad : Nat → Nat) : ∀ vs : List Value, (lg_sl (rls ad vs)).length = (lg_sl vs).length
  | [] => rfl
  | v :: vs => by
    have ih := lg_sl_map ad vs
    simp only [lg_sl, rls, List.map_cons, List.flatMap_cons, List.length_append] at ih ⊢
    rw [ih, rl_cat]
    split <;> rfl
theorem cat_map (ad : Nat → Nat) (vs : List Value) : ((rls ad vs).map fun v => v.category).sum = (vs.map fun v => v.category).sum := by
  rw [List.map_map]
  congr 1
  exact List.map_congr_left (fun v _ => rl_cat ad v)
/-- a frame of method k, of which d more may stand over it -/
def mjCx (k d : Nat) (y : MethodName) (nL : Nat) (ret : Option FieldType) (own : String) (hh : List (Nat × Nat × Nat × Nat)) (p : Program) (R : Room) (s : State) (m : MethodId) (args : Array Value) (meth : Method) (c : Code) (mc ms : Nat) (A : Nat → Prop) : Prop :=
  p.tables.exec = Jvm.exec ∧ c.code = mjCd k ∧ meth.sig.returnType = ret ∧ meth.locks = false ∧ c.maxLocals = nL ∧ s.vm.findClass own = some m.cls ∧ (y.name = "<init>" → meth.name = "<init>") ∧ (∀ w ∈ mjGl, w.before args s = true) ∧
  c.exceptionTable.toList = tableOf hh ∧ (d + 8 ≤ R.frames ∧ 40 * d + 160 ≤ R.locals) ∧ mc ≤ R.cells ∧ ms ≤ R.slots ∧ (∀ q, s.heap.size ≤ q → A q)
/-- what stands behind the run: it returns; something flies through; something is thrown here -/
def mjK3 (l : Launch) (D : va_G) (dT : Nat → ClassId) (k nL : Nat) (ret : Option FieldType) (own : String) (hh : List (Nat × Nat × Nat × Nat)) (p : Program) (e : Env) (R : Room) (s : State) (m : MethodId) (args : Array Value) (below : List Frame) (meth : Method) (c : Code) (Q : State → Prop) (mc ms : Nat) (A : Nat → Prop)
    (o : Option Value ⊕ Nat) (hp' : mjH) (n : Nat) (ad : Nat → Nat) : Prop :=
  (∀ (v : Option Value) (i : Instr) (st' : List Value) (pc' : Nat) (ad' : Nat → Nat) (H' : Heap) (locs' : List Loc) (arr' : Array Slot), o = .inl v → decode (mjCd k) pc' = .ok (i, 1) → mjRv i ret st' = some v → mjAg n ad ad' → mjR D dT ad' A hp' H' → va_S A s.heap H' locs' →
      W p l e R s m args below meth c H' locs' mc ms Q (F0 m pc' arr' (rls ad' st'))) ∧
  (∀ (x : Nat) (E : String) (ce : Cell) (q : Nat) (pc' : Nat) (ad' : Nat → Nat) (H' : Heap) (locs' : List Loc) (arr' : Array Slot) (rest : List Value), o = .inr x → mjEn x = some E → H'[q]? = some ce → ce.vm = .none → s.vm.findClass E = some ce.cls →
      (∀ z ∈ c.exceptionTable.toList, covers z pc' = false ∨ (z.catchType ≠ 0 ∧ ∃ nm : String, (Cond.classLink own z.catchType nm).before args s = true ∧ va_Nc E nm s)) → mjAg n ad ad' → mjR D dT ad' A hp' H' → va_S A s.heap H' locs' →
      vx_W p l e R s m args below meth c H' locs' mc ms Q (F0 m pc' arr' rest) q) ∧
  (∀ (x : mjX) (i : Nat) (st' : List Value) (pc' : Nat) (ad' : Nat → Nat) (H' : Heap) (locs' : List Loc) (arr' : Array Slot) (cells' slots' : Nat), mjAtI k pc' = some x → x.1 = .new i → ¬ x.2.2.2.1 = 0 → o = .inr x.2.2.1 → mjThr k pc' hh x.2.2.1 = true → (st'.map fun v => v.category).sum ≤ 8 → cells' + 1 = mc → slots' + 6 = ms → arr'.size = nL → mjAg n ad ad' → mjR D dT ad' A hp' H' → va_S A s.heap H' locs' →
      W p l e R s m args below meth c H' locs' cells' slots' Q (F0 m pc' arr' (rls ad' st')))
theorem mjK3.ag {l : Launch} {D : va_G} {dT : Nat → ClassId} {k nL : Nat} {ret : Option FieldType} {own : String} {hh : List (Nat × Nat × Nat × Nat)} {p : Program} {e : Env} {R : Room} {s : State} {m : MethodId} {args : Array Value} {below : List Frame} {meth : Method} {c : Code} {Q : State → Prop} {mc ms : Nat} {A : Nat → Prop}
    {o : Option Value ⊕ Nat} {hp' : mjH} {n n' : Nat} {ad ad' : Nat → Nat} (h : mjK3 l D dT k nL ret own hh p e R s m args below meth c Q mc ms A o hp' n ad) (hg : mjAg n ad ad') (hn : n ≤ n') : mjK3 l D dT k nL ret own hh p e R s m args below meth c Q mc ms A o hp' n' ad' := by
  obtain ⟨h1, h2, h3⟩ := h
  refine ⟨?_, ?_, ?_⟩
  · intro v i st' pc' ad2 H' locs' arr' a1 a2 a3 a4 a5 a6
    exact h1 v i st' pc' ad2 H' locs' arr' a1 a2 a3 (hg.trans a4 hn) a5 a6
  · intro x E ce q pc' ad2 H' locs' arr' rest a1 a2 a3 a4 a5 a6 a7 a8 a9
    exact h2 x E ce q pc' ad2 H' locs' arr' rest a1 a2 a3 a4 a5 a6 (hg.trans a7 hn) a8 a9
  · intro x i st' pc' ad2 H' locs' arr' cells' slots' a0 a1 a2 a3 a4 a5 a6 a7 a8 a9 a10 a11
    exact h3 x i st' pc' ad2 H' locs' arr' cells' slots' a0 a1 a2 a3 a4 a5 a6 a7 a8 (hg.trans a9 hn) a10 a11
/-- what a run says of the bytecode -/
def mjGo (l : Launch) (D : va_G) (dT : Nat → ClassId) (rec : mjRec) : Prop :=
  ∀ (scr : Option (List Int32)) (d k pc : Nat) (ls : mjL) (st : List Value) (hp : mjH) (o : Option Value ⊕ Nat) (hp' : mjH) (dc ds : Nat), rec scr d k pc ls st hp = some (o, hp', dc, ds) →
  ∀ (y : MethodName) (nL : Nat) (ret : Option FieldType) (own : String) (hh : List (Nat × Nat × Nat × Nat)) (np : Nat) (stt : Bool), mjM k = some (y, nL, ret, own, hh, np, stt) → k ≤ mjLaw →
  ∀ (p : Program) (e : Env) (R : Room) (s : State) (m : MethodId) (args : Array Value) (below : List Frame) (meth : Method) (c : Code) (Q : State → Prop) (mc ms : Nat) (A : Nat → Prop), mjCx k d y nL ret own hh p R s m args meth c mc ms A →
  ∀ (ad : Nat → Nat) (cells slots : Nat) (H : Heap) (locs : List Loc) (arr : Array Slot), cells + dc = mc → slots + ds = ms → mjR D dT ad A hp H → va_S A s.heap H locs → mjKX D dT ad A s → mjSX scr ad A s → lv_has arr nL (rll ad ls) →
    mjK3 l D dT k nL ret own hh p e R s m args below meth c Q mc ms A o hp' hp.length ad →
    W p l e R s m args below meth c H locs cells slots Q (F0 m pc arr (rls ad st))
end MJKX

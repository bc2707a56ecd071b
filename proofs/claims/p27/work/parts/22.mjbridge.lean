def R_law : String := "LotBeliefsLaw"
def lw_P (b : Addr) (xs : List Int32) (args : Array Value) (s : State) : Prop := args = #[.ref b] ∧ s.IntsAt b xs ∧ xs.length ≤ 3072 ∧ (Jvm.Cond.and given_1 narrow_1).before args s = true
def lw_Q (_ : Array Value) (s : State) (o : Outcome) (t : State) : Prop := o = .returned (some (.int 1)) ∧ Framed s o t [] 601024 7293034
def lw_Z (below : List Frame) (a : Array Value) (s : State) : State → Prop := fun t => ∃ o, t.status = .running ∧ Ended t below o ∧ lw_Q a s o t
/-- the law's own end, with 1 on the stack, nothing written that was there before, its room as the claim has it -/
theorem lw_ret {p : Program} {l : Launch} {e : Env} {s : State} {m : MethodId} {below : List Frame} {meth : Method} {c : Code} {b : Nat} (hx : p.tables.exec = Jvm.exec) (hb : c.code = code) (hr : meth.sig.returnType = ret) (hlocks : meth.locks = false) {pc : Nat} {H : Heap} {ls : Array Slot} (hdg : decode code pc = .ok (.ireturn, 1)) : W p l e room_1 s m #[Value.ref b] below meth c H [] 601024 7293034 (lw_Z below #[Value.ref b] s) (F0 m pc ls [.int 1]) := by
  intro T hT X
  obtain ⟨fs, hret, hrun, hended, hW, hframe⟩ := X.leave (v := some (.int 1)) (hlocks := hlocks) (fun h => by rw [hr] at h; cases h)
  have hmeth' : T.vm.method? m = some meth := X.method'
  refine ⟨T.setFrames fs, ?_, .returned (some (.int 1)), hrun, hended, rfl, ⟨_, rfl⟩, hW, hframe⟩
  jvm_step X.here [X.here.top, hx, hb, hdg, hmeth', hr, ret, narrow_b1]
  (try refine ⟨rfl, ?_⟩); (try refine ⟨rfl, ?_⟩)
  first | (intro acts; rw [hret _ acts rfl rfl rfl]) | rw [hret _ _ rfl rfl rfl]
  exact Steps.refl _
/-- what holds at the law's entry: the machine, the code, the tables' words (any of lw_tbl by 'hts w (by decide +kernel)'), the script of L ints xs at the cell b, what the Statement gives of the start (any of its parts by flat_of_before) -/
def lw_At (p : Program) (s : State) (m : MethodId) (meth : Method) (c : Code) (b L : Nat) (xs : Nat → Int32) : Prop :=
  p.tables.exec = Jvm.exec ∧ c.code = code ∧ meth.sig.returnType = ret ∧ c.maxLocals = 8 ∧ s.vm.findClass R_law = some m.cls ∧ (∀ w ∈ lw_tbl, w.before #[Value.ref b] s = true) ∧ va_X b L xs s s.heap ∧ b < s.heap.size ∧ meth.locks = false ∧ (Jvm.Cond.and given_1 narrow_1).before #[Value.ref b] s = true ∧ c.exceptionTable.toList = []
/-! MJ: from the run to the law's end -/
theorem mj_bridge {p : Program} {e : Env} {s : State} {m : MethodId} {below : List Frame} {meth : Method} {c : Code} (l : Launch) (hflags : l.flags = flags0) {b L : Nat} {xs : Nat → Int32} (C0 : lw_At p s m meth c b L xs)
    (hrun : ∃ (f : Nat) (hp' : mjH) (dc ds : Nat), mjEx f (some ((List.range L).map xs)) 2040 mjLaw 0 [(0, .ref mjScr)] [] [] = some (.inl (some (.int 1)), hp', dc, ds) ∧ dc ≤ 601024 ∧ ds ≤ 7293034) :
    W p l e room_1 s m #[Value.ref b] below meth c s.heap [] 0 0 (lw_Z below #[Value.ref b] s) (entryFrame m ([Value.ref b] : List Value).toArray 8) := by
  obtain ⟨hx, hcode, hret, hml, hown, hts, hX, hbl, hlk, hgv, htab⟩ := C0
  obtain ⟨D, dT, ad, had, hKX⟩ := mj_start hts hgv
  obtain ⟨f, hp', dc, ds, hrun, hdc, hds⟩ := hrun
  have hfl : l.stackTraces = false := by
    unfold Launch.stackTraces
    rw [hflags]
    decide
  have hM : mjM mjLaw = some (x, 8, ret, R_law, [], 1, true) := rfl
  have hcd : mjCd mjLaw = code := if_pos rfl
  have hC : mjCx mjLaw 2040 x 8 ret R_law [] p room_1 s m #[Value.ref b] meth c dc ds (fun q => s.heap.size ≤ q) :=
    ⟨hx, hcode.trans hcd.symm, hret, hlk, hml, hown, fun h => absurd h (by decide), fun w hw => hts w (List.mem_filter.mp hw).1, htab, ⟨by decide, by decide⟩, hdc, hds, fun q hq => hq⟩
  have hR : mjR D dT ad (fun q => s.heap.size ≤ q) [] s.heap := ⟨fun i e h => by simp at h, fun i j hi => absurd hi (Nat.not_lt_zero _), fun i hi => absurd hi (Nat.not_lt_zero _), fun i e v h => by simp at h, by decide⟩
  have hSX : mjSX (some ((List.range L).map xs)) ad (fun q => s.heap.size ≤ q) s := by
    intro ys hy
    cases hy
    rw [had]
    refine ⟨?_, hbl, Nat.not_le.mpr hbl⟩
    obtain ⟨scr, h1, h2, h3, h4, h5⟩ := hX
    refine ⟨scr, h1, h2, h3, by rw [h4]; simp, fun j hj => ?_⟩
    have hj' : j < L := by simpa using hj
    rw [h5 j hj']
    simp [List.getD_eq_getElem?_getD, hj']
  have hl := lv_entry [Value.ref b] (n := 8) (Nat.le_of_ble_eq_true rfl)
  have e1 : lv_args 0 [Value.ref b] = rll ad [(0, .ref mjScr)] := by
    show [(0, Value.ref b)] = [(0, Value.ref (ad mjScr))]
    rw [had]
  rw [e1] at hl
  rw [lg_entry_eq]
  refine mj_go hfl f (some ((List.range L).map xs)) 2040 mjLaw 0 [(0, .ref mjScr)] [] [] _ hp' dc ds hrun x 8 ret R_law [] 1 true hM (Nat.le_refl _) p e room_1 s m _ below meth c _ dc ds _ hC ad 0 0 s.heap [] _ (Nat.zero_add _) (Nat.zero_add _) hR va_S.rf hKX hSX hl ⟨?_, ?_, ?_⟩
  · intro v i st' pc' ad' H' locs' arr' ho hd hv hg hR' hS'
    cases ho
    rw [hcd] at hd
    cases i <;> simp only [mjRv] at hv
    case ireturn =>
      split at hv
      · split at hv
        · split at hv
          · cases hv
            refine va_forget hS'.2.2 (W.widen hdc hds ?_)
            exact lw_ret hx hcode hret hlk hd
          · cases hv
        · cases hv
      · cases hv
    case lreturn =>
      split at hv
      · split at hv <;> cases hv
      · cases hv
    case areturn =>
      split at hv
      · split at hv <;> cases hv
      · cases hv
    case return_ =>
      split at hv
      · split at hv <;> cases hv
      · cases hv
    all_goals cases hv
  · intro x1 E ce q pc' ad' H' locs' arr' rest ho
    cases ho
  · intro x1 i st' pc' ad' H' locs' arr' c1 s1 h1 h2 h3 ho
    cases ho

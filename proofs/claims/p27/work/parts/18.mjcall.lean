/-! MJ: calls, catches, the whole run -/
section MJCALL
variable {l : Launch} {D : va_G} {dT : Nat → ClassId} {rec : mjRec} {scr : Option (List Int32)} {d k pc : Nat} {ls : mjL} {st : List Value} {hp hp' : mjH} {o : Option Value ⊕ Nat} {dc ds : Nat} {y : MethodName} {nL : Nat} {ret : Option FieldType} {own : String} {hh : List (Nat × Nat × Nat × Nat)} {np : Nat} {stt : Bool} {as : List Value}
variable {p : Program} {e : Env} {R : Room} {s : State} {m : MethodId} {args : Array Value} {below : List Frame} {meth : Method} {c : Code} {Q : State → Prop} {mc ms : Nat} {A : Nat → Prop} {ad : Nat → Nat} {cells slots : Nat} {H : Heap} {locs : List Loc} {arr : Array Slot} {x : mjX}
theorem mj_met (hfl : l.stackTraces = false) (IH : mjGo l D dT rec) (hM : mjM k = some (y, nL, ret, own, hh, np, stt)) (hk : k < mjLaw) (hrun : rec none d k 0 (lv_args 0 as) [] hp = some (o, hp', dc, ds)) (hfit : (lg_sl as).length ≤ nL) (ad : Nat → Nat) (sz : Nat) :
    vx_Met l y (mjWs k) (mjRm d dc ds) (mjPc D dT ad hp sz as) (mjQc D dT ad hp.length sz o hp') (mjXc D dT ad hp.length sz o hp') dc ds (mjAf ad hp.length sz) := by
  obtain ⟨-, -, -, -, hcl, -, hplain, -, -⟩ := mj_mb hM hk
  have hws : mjWs k = (if hh = [] then Cond.code y (mjCd k) nL ret else Cond.codeWith y (mjCd k) nL ret hh) :: mjGl := by unfold mjWs; rw [hM]
  have body : ∀ (p : Program) (e : Env) (s : State) (m : MethodId) (args : Array Value) (below : List Frame) (meth : Method) (c : Code) (s₁ : State), BodyLoose p l y (headSpec (mjWs k) (mjRm d dc ds)) (mjCd k) nL ret e s m args below meth c s₁ → c.maxLocals = nL → c.exceptionTable.toList = tableOf hh → mjPc D dT ad hp sz as args s →
      W p l e (headSpec (mjWs k) (mjRm d dc ds)).room s m args below meth c s.heap [] 0 0 (vx_MQ below (mjQc D dT ad hp.length sz o hp') (mjXc D dT ad hp.length sz o hp') args s dc ds (mjAf ad hp.length sz)) (entryFrame m args nL) := by
    intro p e s m args below meth c s₁ B hml htab hv
    obtain ⟨rfl, hsz, hR, hKX⟩ := hv
    have hts0 := atoms_spec (ws := mjWs k) B.pre
    have hts : ∀ w ∈ mjGl, w.before (rls ad as).toArray s = true := fun w hw => hts0 w (by rw [hws]; exact List.mem_cons_of_mem _ hw)
    have hown : s.vm.findClass own = some m.cls := hcl ▸ findClass_of_methodNamed B.named
    have hin : meth.name = y.name := (name_of_methodNamed B.named B.method).1
    have hC : mjCx k d y nL ret own hh p (mjRm d dc ds) s m (rls ad as).toArray meth c dc ds (mjAf ad hp.length sz) :=
      ⟨B.exec, B.bytes, B.returns, B.notSynchronized, hml, hown, fun h => hin.trans h, hts, htab, ⟨Nat.le_refl _, Nat.le_refl _⟩, Nat.le_refl _, Nat.le_refl _, fun q hq => Or.inr (by rw [← hsz]; exact hq)⟩
    have hl := lv_entry (rls ad as) (n := nL) (by rw [lg_sl_map]; exact hfit)
    rw [lv_args_map] at hl
    rw [lg_entry_eq]
    exact IH none d k 0 (lv_args 0 as) [] hp o hp' dc ds hrun y nL ret own hh np stt hM (Nat.le_of_lt hk) p e (mjRm d dc ds) s m _ below meth c _ dc ds _ hC ad 0 0 s.heap [] _ (Nat.zero_add _) (Nat.zero_add _) hR va_S.rf hKX mjSX.none hl (mj_k3 hfl hM hk hsz hC hKX)
  by_cases h0 : hh = []
  · rw [if_pos h0] at hws
    refine vx_ofW (cc := mjCd k) (maxL := nL) (ret := ret) hplain hws (fun p e s m args below meth c s₁ B hml htab hv => body p e s m args below meth c s₁ B hml ?_ hv)
    rw [h0]
    cases hq : c.exceptionTable.toList with
    | nil => rfl
    | cons z r => exact (htab z (by rw [hq]; exact List.mem_cons_self)).elim
  · rw [if_neg h0] at hws
    refine vx_ofWH (cc := mjCd k) (maxL := nL) (ret := ret) hplain hws (fun p e s m args below meth c s₁ B hml hv => body p e s m args below meth c s₁ B hml ?_ hv)
    exact vx_table (x := y) B (atoms_spec (ws := mjWs k) B.pre _ (by rw [hws]; exact List.mem_cons_self))
theorem mj_callK {Qc : State → Outcome → State → Prop} {XC : String → State → State → Prop} {free : Addr → Prop} {mc2 ms2 : Nat} {rest st0 : List Value} (hr : vx_Run p l e R s m args below meth c H locs cells slots mc2 ms2 (F0 m pc arr st0) rest Qc XC free) (hS : va_S A s.heap H locs) (hfree : ∀ q, free q → A q)
    (hF : ∀ (st₀ : State) (v : Option Value) (t : State), Qc st₀ (.returned v) t → va_F free st₀ t) (hFX : ∀ (E : String) (st₀ t : State), XC E st₀ t → va_F free st₀ t)
    (kk : ∀ (v : Option Value) (st₀ t : State) (H1 : Heap) (locs1 : List Loc), t.heap = H1 → Qc st₀ (.returned v) t → va_S A s.heap H1 locs1 → W p l e R s m args below meth c H1 locs1 (cells + mc2) (slots + ms2) Q (F0 m (pc + 3) arr (v.toList ++ rest)))
    (kx : ∀ (E : String) (st₀ t : State) (H1 : Heap) (locs1 : List Loc) (q : Nat) (ce : Cell), t.heap = H1 → XC E st₀ t → va_S A s.heap H1 locs1 → H1[q]? = some ce → ce.vm = .none → s.vm.findClass E = some ce.cls → vx_W p l e R s m args below meth c H1 locs1 (cells + mc2) (slots + ms2) Q (F0 m pc arr rest) q) :
    W p l e R s m args below meth c H locs cells slots Q (F0 m pc arr st0) := by
  intro T hT X
  rcases hr T hT X with ⟨v, st₀, t, T', L, h0, X', hL, e1, e2, hq, st⟩ | ⟨q, st₀, t, T', L, E, ce, h0, X', hL, e1, e2, hx, hce, hcv, hcl, st⟩
  · obtain ⟨-, -, k3⟩ := vx_keep h0 e1 hS (fun q _ h => hfree q h) hfree hL (hF st₀ v t hq)
    obtain ⟨t2, a1, b1⟩ := kk v st₀ t T'.heap (locs ++ L) e1.symm hq k3 T' rfl X'
    exact ⟨t2, st t2 a1, b1⟩
  · obtain ⟨-, -, k3⟩ := vx_keep h0 e1 hS (fun q _ h => hfree q h) hfree hL (hFX E st₀ t hx)
    obtain ⟨t2, a1, b1⟩ := kx E st₀ t T'.heap (locs ++ L) q ce e1.symm hx k3 (by rw [e1]; exact hce) hcv hcl T' rfl X'
    exact ⟨t2, st.trans a1, b1⟩
theorem mjCatch_some {q : List ((Nat × Nat × Nat × Nat) × (Nat × Nat))} {E h : Nat} (hc : mjCatch q pc E = some h) : ∃ pre z suf, q = pre ++ z :: suf ∧ (z.1.1 ≤ pc ∧ pc < z.1.2.1 ∧ z.2.1 = E) ∧ z.1.2.2.1 = h ∧ ∀ w ∈ pre, ¬ (w.1.1 ≤ pc ∧ pc < w.1.2.1 ∧ w.2.1 = E) := by
  induction q with
  | nil => cases hc
  | cons z r ih =>
    simp only [mjCatch] at hc
    split at hc
    · rename_i hz
      cases hc
      exact ⟨[], z, r, rfl, hz, rfl, fun _ h => by cases h⟩
    · rename_i hz
      obtain ⟨pre, z2, suf, rfl, h1, h2, h3⟩ := ih hc
      refine ⟨z :: pre, z2, suf, rfl, h1, h2, fun w hw => ?_⟩
      rcases List.mem_cons.mp hw with rfl | hw
      · exact hz
      · exact h3 w hw
theorem mjCatch_none {q : List ((Nat × Nat × Nat × Nat) × (Nat × Nat))} {E : Nat} (hc : mjCatch q pc E = none) : ∀ w ∈ q, ¬ (w.1.1 ≤ pc ∧ pc < w.1.2.1 ∧ w.2.1 = E) := by
  induction q with
  | nil => intro w hw; cases hw
  | cons z r ih =>
    simp only [mjCatch] at hc
    split at hc
    · cases hc
    · rename_i hz
      intro w hw
      rcases List.mem_cons.mp hw with rfl | hw
      · exact hz
      · exact ih hc w hw
theorem mj_covers (q : Nat × Nat × Nat × Nat) (pc : Nat) : covers ⟨q.1, q.2.1, q.2.2.1, q.2.2.2⟩ pc = true ↔ (q.1 ≤ pc ∧ pc < q.2.1) := by
  simp [covers]
theorem mj_law_hh (hM : mjM mjLaw = some (y, nL, ret, own, hh, np, stt)) : hh = [] := by
  have h : (mjM mjLaw).map (fun q => q.2.2.2.2.1) = some [] := by decide +kernel
  rw [hM] at h
  exact Option.some.inj h
theorem mj_del {arr' : Array Slot} {q j : Nat} {ad : Nat → Nat} (h : lv_has arr' nL ((j, Value.ref q) :: (rll ad ls).filter (fun q => !(q.1 == j) && !(q.1 + 1 == j && q.2.category == 2)))) : lv_has arr' nL (rll ad (mjDel j ls)) := by
  refine ⟨h.1, h.2.1, fun z hz => h.2.2 z (List.mem_cons_of_mem _ ?_)⟩
  have e := rll_filter ad (fun a b => !(a == j) && !(a + 1 == j && b == 2)) ls
  rw [← e]
  exact hz
theorem mj_castable {E : String} {n : Nat} (hKX : mjKX D dT ad A s) (h : mjEn n = some E) : (Cond.castable E E).before args s = true := by
  unfold mjEn at h
  obtain ⟨q, hq, rfl⟩ := Option.map_eq_some_iff.mp h
  exact va_Nw.use rfl (hKX.2.2.1 _ (List.mem_append_right _ (List.mem_map.mpr ⟨q, List.mem_of_getElem? hq, rfl⟩)))
/-- behind a call -/
theorem mj_back {o2 : Option Value ⊕ Nat} {hp2 : mjH} {c2 s2 : Nat} {rest : List Value} {a : Array Value} (IH : mjGo l D dT rec) (hM : mjM k = some (y, nL, ret, own, hh, np, stt)) (hk : k ≤ mjLaw)
    (hr : vx_Run p l e R s m args below meth c H locs cells slots c2 s2 (F0 m pc arr (rls ad st)) (rls ad rest) (mjQc D dT ad hp.length H.size o2 hp2 a) (mjXc D dT ad hp.length H.size o2 hp2) (mjAf ad hp.length H.size))
    (hlen : hp.length ≤ hp2.length) (hsc : mjSca hp.length 0 ls rest = true) (hrun : mjBack rec scr d k pc hh ls rest (o2, hp2, c2, s2) = some (o, hp', dc, ds))
    (hC : mjCx k d y nL ret own hh p R s m args meth c mc ms A) (hc : cells + dc = mc) (hs : slots + ds = ms) (hR : mjR D dT ad A hp H) (hS : va_S A s.heap H locs) (hKX : mjKX D dT ad A s) (hSX : mjSX scr ad A s) (hl : lv_has arr nL (rll ad ls))
    (hK3 : mjK3 l D dT k nL ret own hh p e R s m args below meth c Q mc ms A o hp' hp.length ad) : W p l e R s m args below meth c H locs cells slots Q (F0 m pc arr (rls ad st)) := by
  have hC' := hC
  obtain ⟨hexec, hb, hret, hlocks, hml, hown, hini, hts, htab, -, hmc, hms, hA⟩ := hC'
  obtain ⟨-, s2', s3'⟩ := mj_sca hsc
  have hfree : ∀ q, mjAf ad hp.length H.size q → A q := by
    rintro q (⟨i, hi, rfl⟩ | h)
    · exact hR.2.2.1 i hi
    · exact hA q (Nat.le_trans hS.1 h)
  refine mj_callK hr hS hfree (fun _ _ _ h => h.choose_spec.choose_spec.2.2.2.2) (fun _ _ _ h => h.choose_spec.choose_spec.2.2.2.2) ?_ ?_
  · rintro v st₀ t H1 locs1 ht ⟨v', ad', rfl, hg, hoc, hR', -⟩ hS1
    cases hoc
    simp only [mjBack] at hrun
    obtain ⟨c1, z1, hrun2, rfl, rfl⟩ := mj_add hrun
    rw [ht] at hR'
    have hR2 := hR'.A (fun i hi => hfree _ (hR'.2.2.1 i hi))
    have e1 : (v'.map (rl ad')).toList ++ rls ad rest = rls ad' (v'.toList ++ rest) := by
      show _ = List.map (rl ad') (v'.toList ++ rest)
      rw [List.map_append]
      congr 1
      · cases v' <;> rfl
      · exact (rls_ag hg s3').symm
    rw [e1]
    exact IH scr d k (pc + 3) ls _ hp2 o hp' c1 z1 hrun2 y nL ret own hh np stt hM hk p e R s m args below meth c Q mc ms A hC ad' _ _ H1 locs1 arr (by omega) (by omega) hR2 hS1 (hKX.ag hg) (hSX.ag hg) (by rw [rll_ag hg s2']; exact hl) (hK3.ag hg hlen)
  · rintro E st₀ t H1 locs1 q ce ht ⟨x0, ad', rfl, hE, hg, hR', -⟩ hS1 hce hcv hcl
    simp only [mjBack] at hrun
    rw [ht] at hR'
    have hR2 := hR'.A (fun i hi => hfree _ (hR'.2.2.1 i hi))
    have htabs : hh.length = (mjHd k).length ∧ ∀ q ∈ hh.zip (mjHd k), q.1.2.2.2 ≠ 0 ∧ ∃ E, mjEn q.2.1 = some E ∧ Cond.classLink own q.1.2.2.2 E ∈ mjGl := by
      rcases Nat.lt_or_ge k mjLaw with h | h
      · obtain ⟨-, -, -, -, -, -, -, h8, h9⟩ := mj_mb hM h
        exact ⟨h8, h9⟩
      · have hkl := Nat.le_antisymm hk h
        subst hkl
        have := mj_law_hh hM
        subst this
        exact ⟨by decide +kernel, fun q hq => by simp at hq⟩
    split at hrun
    · rename_i hcat
      simp only [Option.some.injEq, Prod.mk.injEq] at hrun
      obtain ⟨ho, rfl, rfl, rfl⟩ := hrun
      subst ho
      have hpass : ∀ z ∈ c.exceptionTable.toList, covers z pc = false ∨ (z.catchType ≠ 0 ∧ ∃ nm : String, (Cond.classLink own z.catchType nm).before args s = true ∧ va_Nc E nm s) := by
        intro z hz
        rw [htab] at hz
        obtain ⟨w, hw, rfl⟩ := List.mem_map.mp hz
        obtain ⟨j, hj⟩ := List.getElem?_of_mem hw
        have hjl := (List.getElem?_eq_some_iff.mp hj).1
        obtain ⟨g, hg2⟩ : ∃ g, (mjHd k)[j]? = some g := ⟨(mjHd k)[j]'(by omega), List.getElem?_eq_getElem (by omega)⟩
        have hzip : (w, g) ∈ hh.zip (mjHd k) := by
          refine List.mem_of_getElem? (i := j) ?_
          rw [List.getElem?_zip_eq_some]
          exact ⟨hj, hg2⟩
        obtain ⟨a1, F, hF, hlk⟩ := htabs.2 _ hzip
        by_cases hcv2 : covers ⟨w.1, w.2.1, w.2.2.1, w.2.2.2⟩ pc = true
        · have hnc := mjCatch_none hcat _ hzip
          have h12 := (mj_covers w pc).mp hcv2
          exact Or.inr ⟨a1, F, hts _ hlk, hKX.2.2.2.2.1 _ _ _ _ hE hF (fun q => hnc ⟨h12.1, h12.2, q.symm⟩)⟩
        · exact Or.inl (by simpa using hcv2)
      rw [hc, hs]
      exact hK3.2.1 x0 E ce q pc ad' H1 locs1 arr _ rfl hE hce hcv hcl hpass hg hR2 hS1
    · rename_i hpc hcat
      obtain ⟨pre, z, suf, hsplit, hz, rfl, hpre⟩ := mjCatch_some hcat
      have hhs : hh = pre.map Prod.fst ++ z.1 :: suf.map Prod.fst := by
        have : (hh.zip (mjHd k)).map Prod.fst = hh := List.map_fst_zip (Nat.le_of_eq htabs.1)
        rw [← this, hsplit, List.map_append, List.map_cons]
      have hsp : c.exceptionTable.toList = (pre.map Prod.fst).map (fun q => (⟨q.1, q.2.1, q.2.2.1, q.2.2.2⟩ : ExceptionTableEntry)) ++ (⟨z.1.1, z.1.2.1, z.1.2.2.1, z.1.2.2.2⟩ : ExceptionTableEntry) :: (suf.map Prod.fst).map (fun q => (⟨q.1, q.2.1, q.2.2.1, q.2.2.2⟩ : ExceptionTableEntry)) := by
        rw [htab]
        unfold tableOf
        conv => lhs; rw [hhs]
        rw [List.map_append, List.map_cons]
      obtain ⟨a1, F, hF, hlk⟩ := htabs.2 z (by rw [hsplit]; exact List.mem_append_right _ List.mem_cons_self)
      have hFE : F = E := by
        rw [hz.2.2] at hF
        exact Option.some.inj (hF.symm.trans hE)
      subst hFE
      have main : ∀ (j len : Nat) (i : Instr), decode (mjCd k) z.1.2.2.1 = .ok (i, len) → (∀ (arr2 : Array Slot), W p l e R s m args below meth c H1 locs1 (cells + c2) (slots + s2) Q (F0 m z.1.2.2.1 arr [.ref q])) → vx_W p l e R s m args below meth c H1 locs1 (cells + c2) (slots + s2) Q (F0 m pc arr (rls ad rest)) q := by
        intro j len i _ hk2
        refine vx_catch hown _ _ _ hsp (fun z2 hz2 => ?_) ((mj_covers z.1 pc).mpr ⟨hz.1, hz.2.1⟩) a1 (hts _ hlk) (mj_castable hKX hE) hce hcv hcl (hk2 arr)
        obtain ⟨w, hw, rfl⟩ := List.mem_map.mp hz2
        obtain ⟨w2, hw2, rfl⟩ := List.mem_map.mp hw
        obtain ⟨b1, F2, hF2, hlk2⟩ := htabs.2 w2 (by rw [hsplit]; exact List.mem_append_left _ hw2)
        by_cases hcv2 : covers ⟨w2.1.1, w2.1.2.1, w2.1.2.2.1, w2.1.2.2.2⟩ pc = true
        · have h12 := (mj_covers w2.1 pc).mp hcv2
          exact Or.inr ⟨b1, F2, hts _ hlk2, hKX.2.2.2.2.1 _ _ _ _ hE hF2 (fun q => hpre w2 hw2 ⟨h12.1, h12.2, q.symm⟩)⟩
        · exact Or.inl (by simpa using hcv2)
      split at hrun
      · rename_i j xr hat
        obtain ⟨c1, z1, hrun2, rfl, rfl⟩ := mj_add hrun
        obtain ⟨d1, l1, p1, -, -, -⟩ := mj_row hat hM hk
        dsimp only at d1 l1 p1
        rw [l1.resolve_left (by simp [mjLen])] at d1
        refine main 0 _ _ d1 (fun _ => ?_)
        refine lv_astore_n hexec hb d1 rfl hl (of_decide_eq_true p1) rfl (fun arr' h' => ?_)
        have h2 := mj_del h'
        have e2 : rll ad' (mjDel (j : Nat) ls) = rll ad (mjDel (j : Nat) ls) := rll_ag hg (List.all_eq_true.mpr (fun q hq => List.all_eq_true.mp s2' q (List.mem_filter.mp hq).1))
        exact IH scr d k (z.1.2.2.1 + 1) (mjDel (j : Nat) ls) [] hp2 o hp' c1 z1 hrun2 y nL ret own hh np stt hM hk p e R s m args below meth c Q mc ms A hC ad' _ _ H1 locs1 arr' (by omega) (by omega) hR2 hS1 (hKX.ag hg) (hSX.ag hg) (by rw [e2]; exact h2) (hK3.ag hg hlen)
      · rename_i j xr hat
        obtain ⟨c1, z1, hrun2, rfl, rfl⟩ := mj_add hrun
        obtain ⟨d1, l1, p1, -, -, -⟩ := mj_row hat hM hk
        dsimp only at d1 l1 p1
        rw [l1.resolve_left (by simp [mjLen])] at d1
        refine main 0 _ _ d1 (fun _ => ?_)
        refine lv_astore hexec hb d1 hl (of_decide_eq_true p1) rfl (fun arr' h' => ?_)
        have h2 := mj_del h'
        have e2 : rll ad' (mjDel j ls) = rll ad (mjDel j ls) := rll_ag hg (List.all_eq_true.mpr (fun q hq => List.all_eq_true.mp s2' q (List.mem_filter.mp hq).1))
        exact IH scr d k (z.1.2.2.1 + 2) (mjDel j ls) [] hp2 o hp' c1 z1 hrun2 y nL ret own hh np stt hM hk p e R s m args below meth c Q mc ms A hC ad' _ _ H1 locs1 arr' (by omega) (by omega) hR2 hS1 (hKX.ag hg) (hSX.ag hg) (by rw [e2]; exact h2) (hK3.ag hg hlen)
      · cases hrun
end MJCALL

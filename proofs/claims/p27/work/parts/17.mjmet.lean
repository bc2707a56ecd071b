/-! MJ: a run as a contract -/
section MJMET
/-- a method's own words -/
noncomputable def mjWs (k : Nat) : List Cond := match mjM k with
  | some (y, nL, ret, own, hh, np, stt) => (if hh = [] then Cond.code y (mjCd k) nL ret else Cond.codeWith y (mjCd k) nL ret hh) :: mjGl
  | none => []
def mjRm (d dc ds : Nat) : Room := { frames := d + 8, cells := dc, slots := ds, locals := 40 * d + 160 }
variable {l : Launch} {D : va_G} {dT : Nat → ClassId} {rec : mjRec} {d k : Nat} {hp hp' : mjH} {o : Option Value ⊕ Nat} {dc ds : Nat} {y : MethodName} {nL : Nat} {ret : Option FieldType} {own : String} {hh : List (Nat × Nat × Nat × Nat)} {np : Nat} {stt : Bool} {as : List Value}
theorem mj_mb (hM : mjM k = some (y, nL, ret, own, hh, np, stt)) (hk : k < mjLaw) : mjCw k = true ∧ (if stt then Cond.static y else Cond.instanceMethod y) ∈ mjGl ∧ (stt = true ∨ y.name = "<init>" ∨ Cond.selects y.cls y y ∈ mjGl) ∧ Cond.initialized y.cls ∈ mjGl ∧ y.cls = own ∧ (y.cls ≠ "java/lang/invoke/MethodHandle" ∧ y.cls ≠ "java/lang/invoke/VarHandle") ∧ plainName y.cls = true ∧
    hh.length = (mjHd k).length ∧ (∀ q ∈ hh.zip (mjHd k), q.1.2.2.2 ≠ 0 ∧ ∃ E, mjEn q.2.1 = some E ∧ Cond.classLink own q.1.2.2.2 E ∈ mjGl) := by
  have h := mjMB_ok hk
  unfold mjMB at h
  rw [hM] at h
  simp only [Bool.and_eq_true, Bool.or_eq_true, decide_eq_true_eq, beq_iff_eq, List.all_eq_true] at h
  obtain ⟨⟨⟨⟨⟨⟨⟨⟨⟨h1, h2⟩, h3⟩, h4⟩, h5⟩, h6⟩, h7⟩, h8⟩, h9⟩, h10⟩ := h
  refine ⟨h1, ?_, ?_, mjIs_in h4, h5, ⟨h6, h7⟩, h8, h9, fun q hq => ?_⟩
  · cases stt with
    | true => exact mjIs_in h2
    | false => exact mjIs_in h2
  · rcases h3 with (h3 | h3) | h3
    · exact Or.inl h3
    · exact Or.inr (Or.inl h3)
    · exact Or.inr (Or.inr (mjIs_in h3))
  · obtain ⟨a1, a2⟩ := h10 q hq
    refine ⟨a1, ?_⟩
    split at a2
    · rename_i E pi hE
      exact ⟨E, by unfold mjEn; rw [hE]; rfl, mjIs_in a2⟩
    · cases a2
theorem mj_code (hM : mjM k = some (y, nL, ret, own, hh, np, stt)) (hk : k < mjLaw) : (if hh = [] then Cond.code y (mjCd k) nL ret else Cond.codeWith y (mjCd k) nL ret hh) ∈ mjGl := by
  have h := (mj_mb hM hk).1
  unfold mjCw at h
  rw [hM] at h
  dsimp only at h
  have hne : ¬ k = mjLaw := Nat.ne_of_lt hk
  have key : ∀ w : Cond, mjW (mjWq k).1 = some w → goodWord w = true → w ∈ mjGl := by
    intro w hw hg
    refine mjIs_in (c := (mjWq k).1) ?_
    unfold mjIs
    rw [hw, hg]
    simp
  split at h
  · rename_i y' c' n' r' hw
    simp only [Bool.and_eq_true, decide_eq_true_eq] at h
    obtain ⟨⟨⟨rfl, rfl⟩, rfl⟩, rfl⟩ := h
    have hc : mjCd k = c' := by
      unfold mjCd
      rw [if_neg hne, hw]
    rw [if_pos rfl, hc]
    exact key _ hw rfl
  · rename_i y' c' n' r' h' hw
    simp only [Bool.and_eq_true, decide_eq_true_eq] at h
    obtain ⟨⟨⟨⟨hn, rfl⟩, rfl⟩, rfl⟩, rfl⟩ := h
    have hc : mjCd k = c' := by
      unfold mjCd
      rw [if_neg hne, hw]
    rw [if_neg hn, hc]
    exact key _ hw rfl
  · cases h
/-- the end of a method by its run: the three continuations of a body -/
theorem mj_k3 {p : Program} {e : Env} {R : Room} {s : State} {m : MethodId} {args : Array Value} {below : List Frame} {meth : Method} {c : Code} {sz : Nat} {ad : Nat → Nat} (hfl : l.stackTraces = false) (hM : mjM k = some (y, nL, ret, own, hh, np, stt)) (hk : k < mjLaw) (hsz : s.heap.size = sz)
    (hC : mjCx k d y nL ret own hh p R s m args meth c dc ds (mjAf ad hp.length sz)) (hKX : mjKX D dT ad (mjAf ad hp.length sz) s) :
    mjK3 l D dT k nL ret own hh p e R s m args below meth c (vx_MQ below (mjQc D dT ad hp.length sz o hp') (mjXc D dT ad hp.length sz o hp') args s dc ds (mjAf ad hp.length sz)) dc ds (mjAf ad hp.length sz) o hp' hp.length ad := by
  obtain ⟨hexec, hb, hret, hlocks, hml, hown, hini, hts, htab, hroom, hmc, hms, hA⟩ := hC
  refine ⟨?_, ?_, ?_⟩
  · intro v i st' pc' ad' H' locs' arr' ho hd hv hg hR hS
    have hq : ∀ t : State, t.heap = H' → s.WarmedH t.vm → mjQc D dT ad hp.length sz o hp' args s (.returned (v.map (rl ad'))) t := fun t ht _ => ⟨v, ad', ho, hg, rfl, by rw [ht]; exact hR, hS.F ht⟩
    cases i <;> simp only [mjRv] at hv
    case ireturn =>
      split at hv
      · split at hv
        · split at hv
          · rename_i ty hn
            cases hv
            exact vx_ret (W.zret hexec hb hret hn hq hS.2.2 hd hlocks)
          · cases hv
        · cases hv
      · cases hv
    case lreturn =>
      split at hv
      · split at hv
        · rename_i hr
          cases hv
          exact vx_ret (W.lret hexec hb (hret.trans hr) hq hS.2.2 hd hlocks)
        · cases hv
      · cases hv
    case areturn =>
      split at hv
      · split at hv
        · cases hv
          exact vx_ret (W.aret hexec hb hret (Or.inl ⟨_, rfl⟩) (Or.inr ⟨_, rfl⟩) hq hS.2.2 hd hlocks)
        · cases hv
      · cases hv
    case return_ =>
      split at hv
      · split at hv
        · rename_i hr
          cases hv
          exact vx_ret (W.vret hexec hb (hret.trans hr) hq hS.2.2 hd hlocks)
        · cases hv
      · cases hv
    all_goals cases hv
  · intro x E ce q pc' ad' H' locs' arr' rest ho hE hq hce hcl hpass hg hR hS
    exact vx_outP hown hlocks hpass hq hce hcl (fun t ht _ => ⟨x, ad', ho, hE, hg, by rw [ht]; exact hR, hS.F ht⟩) hS.2.2 (Nat.le_refl _) (Nat.le_refl _)
  · intro x i st' pc' ad' H' locs' arr' cells' slots' hat hi hb0 ho hthr hcat hc hs hsize hg hR hS
    obtain ⟨d0, l0, -, -, hlk2, hnL⟩ := mj_row hat hM (Nat.le_of_lt hk)
    rw [hi] at d0 l0
    rw [l0.resolve_left (by simp [mjLen])] at d0
    unfold mjThr at hthr
    split at hthr
    · rename_i kk pcc ow ic E xd is nl sj b4 c4 ic2 x7 x10 E2 pE yy nl2 rr own2 hh2 np2 stt2 e1 e2 e3 e4 e5 e6 e7
      rw [hM] at e7
      simp only [Option.some.injEq, Prod.mk.injEq] at e7
      simp only [Bool.and_eq_true, decide_eq_true_eq] at hthr
      obtain ⟨⟨⟨⟨hh0, how⟩, hic⟩, hEE⟩, hst⟩ := hthr
      have hoo : ow = own := how.trans e7.2.2.2.1.symm
      split at hst
      · rename_i o5 j5 tx5 hj5
        obtain ⟨ho5, hj5'⟩ := of_decide_eq_true hst
        have hstr := hKX.2.1 sj _ _ _ hj5
        rw [ho5, hj5', ← e7.2.2.2.1] at hstr
        obtain ⟨d3, l3, -⟩ := mj_row e2 hM (Nat.le_of_lt hk)
        obtain ⟨d4, l4, -⟩ := mj_row e3 hM (Nat.le_of_lt hk)
        obtain ⟨d7, l7, -⟩ := mj_row e4 hM (Nat.le_of_lt hk)
        obtain ⟨d10, l10, -⟩ := mj_row e5 hM (Nat.le_of_lt hk)
        dsimp only at d3 d4 d7 d10 l3 l4 l7 l10
        rw [l3.resolve_left (by simp [mjLen])] at d3
        rw [l4.resolve_left (by simp [mjLen])] at d4
        rw [l7.resolve_left (by simp [mjLen])] at d7
        rw [l10.resolve_left (by simp [mjLen])] at d10
        unfold mjLk2 at hlk2
        rw [hi] at hlk2
        simp only [hb0, if_false, e6, Bool.and_eq_true] at hlk2
        have hmem := List.mem_of_find?_eq_some e1
        rw [hoo, ← hic, ← hEE] at hmem
        have g1 := List.all_eq_true.mp mjAt_in _ hmem
        have g2 := List.all_eq_true.mp mjAt_ot _ hmem
        simp only [List.all_eq_true, decide_eq_true_eq] at g1
        have hgl : ∀ w ∈ (vx_atS own ic2 E2 mjNm), w.before args s = true := by
          intro w hw
          by_cases hgd : goodWord w = true
          · exact hts w (List.mem_filter.mpr ⟨List.mem_append_right _ (g1 w (List.mem_filter.mpr ⟨hw, hgd⟩)), hgd⟩)
          · have hx := hKX.2.2.1 w (List.mem_append_left _ (List.mem_flatMap.mpr ⟨_, hmem, List.mem_filter.mpr ⟨hw, by simp [hgd]⟩⟩))
            have hon := List.all_eq_true.mp mjXw_k w (List.mem_append_left _ (List.mem_flatMap.mpr ⟨_, hmem, List.mem_filter.mpr ⟨hw, by simp [hgd]⟩⟩))
            simp only [Bool.and_eq_true] at hon
            exact va_Nw.use hon.1 hx
        have hfit : Bundle.fit E2 = true ∧ (∀ n ∈ mjNm, Bundle.fit n = true) := by
          have : mjTh.all (fun q => Bundle.fit q.2.2.2.2) = true := by decide +kernel
          exact ⟨List.all_eq_true.mp this _ hmem, by decide +kernel⟩
        have htab0 : c.exceptionTable.toList = [] := by rw [htab, hh0]; rfl
        have hE : mjEn x.2.2.1 = some E2 := by unfold mjEn; rw [e6]; rfl
        refine vx_throwSW (names := mjNm) hexec hb hfl hown hfit.1 hfit.2 (hts _ (mjIs_in hlk2.1)) (hts _ (mjIs_in hlk2.2)) hstr hgl ?_ hKX.2.2.2.2.2.2.1 hKX.2.2.2.2.2.2.2.1 hS (hsize.trans hml.symm) d0 d3 d4 d7 d10 (by rw [htab0]; intro z hz; cases hz)
          (by show 2 + 3 < R.frames; omega) ?_ (by omega) (by omega) hlocks (fun t _ hz hkeep => ⟨_, ad', ho, hE, hg, hR.kept (fun i hi => hkeep _ ?_), ?_⟩) hS.2.2 (by omega) (by omega)
        · intro w hw
          rcases List.mem_cons.mp hw with rfl | hw
          · unfold vx_ot; rw [mjIs_good hlk2.1]; simp
          · rcases List.mem_cons.mp hw with rfl | hw
            · unfold vx_ot; rw [mjIs_good hlk2.2]; simp
            · exact List.all_eq_true.mp g2 w hw
        · rw [cat_map]
          show _ + (13 * (2 + 1) + 43) ≤ _
          omega
        · obtain ⟨e9, he9⟩ : ∃ e9, hp'[i]? = some e9 := ⟨hp'[i], List.getElem?_eq_getElem hi⟩
          rcases Nat.lt_or_ge e9.1 100 with hq | hq
          · obtain ⟨r, -, -, cell, q1, -⟩ := (hR.1 i e9 he9).1 hq
            exact (Array.getElem?_eq_some_iff.mp q1).1
          · exact (Array.getElem?_eq_some_iff.mp ((hR.1 i e9 he9).2 hq)).1
        · exact ⟨Nat.le_trans hS.1 hz, fun q h1 h2 => (hkeep q (Nat.lt_of_lt_of_le h1 hS.1)).trans (hS.2.1 q h1 h2)⟩
      · cases hst
    · cases hthr
end MJMET

/-! MJ: the whole run -/
section MJGO
variable {l : Launch} {D : va_G} {dT : Nat → ClassId} {rec : mjRec} {scr : Option (List Int32)} {d k pc : Nat} {ls : mjL} {st : List Value} {hp hp' : mjH} {o : Option Value ⊕ Nat} {dc ds : Nat} {y : MethodName} {nL : Nat} {ret : Option FieldType} {own : String} {hh : List (Nat × Nat × Nat × Nat)} {np : Nat} {stt : Bool} {as : List Value}
variable {p : Program} {e : Env} {R : Room} {s : State} {m : MethodId} {args : Array Value} {below : List Frame} {meth : Method} {c : Code} {Q : State → Prop} {mc ms : Nat} {A : Nat → Prop} {ad : Nat → Nat} {cells slots : Nat} {H : Heap} {locs : List Loc} {arr : Array Slot} {x : mjX}
theorem mjArgs_some {n : Nat} {rest : List Value} (h : mjArgs n st = some (as, rest)) : st = as.reverse ++ rest ∧ as.length = n := by
  unfold mjArgs at h
  split at h
  · rename_i hn
    cases h
    exact ⟨by rw [List.reverse_reverse, List.take_append_drop], by rw [List.length_reverse, List.length_take]; omega⟩
  · cases h
theorem rls_rev (ad : Nat → Nat) (a b : List Value) : rls ad (a.reverse ++ b) = (rls ad a).reverse ++ rls ad b := by
  show List.map _ _ = _
  rw [List.map_append, List.map_reverse]
theorem mj_call (hfl : l.stackTraces = false) (IH : mjGo l D dT rec) (hx : mjAtI k pc = some x) (hcall : (∃ i, x.1 = .invokevirtual i) ∨ (∃ i, x.1 = .invokestatic i ∧ x.2.2.1 ≠ 902 ∧ x.2.2.1 ≠ 903) ∨ (∃ i, x.1 = .invokespecial i ∧ x.2.2.1 ≠ 998)) (hM : mjM k = some (y, nL, ret, own, hh, np, stt)) (hk : k ≤ mjLaw)
    (hrun : mjCall rec scr d k pc x hh ls st hp = some (o, hp', dc, ds))
    (hC : mjCx k d y nL ret own hh p R s m args meth c mc ms A) (hc : cells + dc = mc) (hs : slots + ds = ms) (hR : mjR D dT ad A hp H) (hS : va_S A s.heap H locs) (hKX : mjKX D dT ad A s) (hSX : mjSX scr ad A s) (hl : lv_has arr nL (rll ad ls))
    (hK3 : mjK3 l D dT k nL ret own hh p e R s m args below meth c Q mc ms A o hp' hp.length ad) : W p l e R s m args below meth c H locs cells slots Q (F0 m pc arr (rls ad st)) := by
  obtain ⟨hd, hlen, hpre, hlk, hlk2, hnL⟩ := mj_row hx hM hk
  have hC' := hC
  obtain ⟨hexec, hb, hret, hlocks, hml, hown, hini, hts, htab, hroom, hmc, hms, hA⟩ := hC'
  unfold mjCall at hrun
  cases hM2 : mjM x.2.2.1 with
  | none => rw [hM2] at hrun; cases hrun
  | some q2 =>
    obtain ⟨y2, nL2, ret2, own2, hh2, np2, stt2⟩ := q2
    rw [hM2] at hrun
    dsimp only at hrun
    split at hrun
    · cases hrun
    · rename_i as rest hargs
      obtain ⟨rfl, has⟩ := mjArgs_some hargs
      split at hrun
      · cases hrun
      · rename_i d'
        split at hrun
        · rename_i hcond
          obtain ⟨hcat, hrecv, hfit, hsc⟩ := hcond
          split at hrun
          · cases hrun
          · rename_i r hrec
            obtain ⟨o2, hp2, c2, s2⟩ := r
            split at hrun
            · rename_i hlen2
              have ha : x.2.2.1 < mjLaw := by
                unfold mjLk2 at hlk2
                rcases hcall with ⟨i, hi⟩ | ⟨i, hi, n1, n2⟩ | ⟨i, hi, n1⟩
                · rw [hi] at hlk2
                  simp only [hM2, Bool.and_eq_true, decide_eq_true_eq] at hlk2
                  exact hlk2.1.1.1.2
                · rw [hi] at hlk2
                  simp only [n1, n2, if_false, hM2, Bool.and_eq_true, decide_eq_true_eq] at hlk2
                  exact hlk2.1.2
                · rw [hi] at hlk2
                  simp only [n1, if_false, hM2, Bool.and_eq_true, decide_eq_true_eq] at hlk2
                  exact hlk2.1.1.1.1.2
              obtain ⟨-, hkind, hsel, hinit, hcl, hne, hplain, -, -⟩ := mj_mb hM2 ha
              have hnp := mjPB_ok ha
              unfold mjPB at hnp
              rw [hM2] at hnp
              have hnp := of_decide_eq_true hnp
              have hn2 : nL2 ≤ 21 := by
                have h := mj_tb (Nat.le_of_lt ha)
                unfold mjTB at h
                rw [hM2] at h
                simp only [Bool.and_eq_true, decide_eq_true_eq] at h
                exact h.2
              have hMet := mj_met hfl IH hM2 ha hrec hfit ad H.size
              have hcost : c2 ≤ dc ∧ s2 ≤ ds := by
                cases o2 with
                | inl v =>
                  simp only [mjBack] at hrun
                  obtain ⟨c1, z1, -, rfl, rfl⟩ := mj_add hrun
                  exact ⟨Nat.le_add_right _ _, Nat.le_add_right _ _⟩
                | inr E =>
                  simp only [mjBack] at hrun
                  split at hrun
                  · simp only [Option.some.injEq, Prod.mk.injEq] at hrun
                    obtain ⟨-, -, rfl, rfl⟩ := hrun
                    exact ⟨Nat.le_refl _, Nat.le_refl _⟩
                  · split at hrun
                    · obtain ⟨c1, z1, -, rfl, rfl⟩ := mj_add hrun
                      exact ⟨Nat.le_add_right _ _, Nat.le_add_right _ _⟩
                    · obtain ⟨c1, z1, -, rfl, rfl⟩ := mj_add hrun
                      exact ⟨Nat.le_add_right _ _, Nat.le_add_right _ _⟩
                    · cases hrun
              have hws : mjWs x.2.2.1 = (if hh2 = [] then Cond.code y2 (mjCd x.2.2.1) nL2 ret2 else Cond.codeWith y2 (mjCd x.2.2.1) nL2 ret2 hh2) :: mjGl := by unfold mjWs; rw [hM2]
              have hcm := mj_code hM2 ha
              have hwarm : ∀ w ∈ mjWs x.2.2.1, ∀ (a' : Array Value) (U : State), s.WarmedH U.vm → w.before a' U = true := by
                intro w hw a' U hW
                have hwg : w ∈ mjGl := by
                  rw [hws] at hw
                  rcases List.mem_cons.mp hw with rfl | h
                  · exact hcm
                  · exact h
                exact word_at hW (good_of_word (mjGl_good hwg)) (hts w hwg)
              have hlenp : ∀ sig, parseMethodDescriptor y2.desc = some sig → np2 = sig.parameters.length := by
                intro sig h
                rw [h] at hnp
                exact (Option.some.inj hnp).symm
              have hsize : arr.size = nL := hl.1
              have hcat2 : 2 * (F0 m pc arr (rls ad (as.reverse ++ rest))).monitorRoom + ((rls ad rest).map fun v => v.category).sum ≤ 8 := lv_room (by rw [cat_map]; exact hcat)
              have hff : cells + c2 ≤ R.cells ∧ slots + s2 ≤ R.slots := ⟨by omega, by omega⟩
              have hroomF : (mjRm d' c2 s2).frames + 1 ≤ R.frames := by show d' + 8 + 1 ≤ _; omega
              have hroomL : 8 + (nL2 + 11) + (mjRm d' c2 s2).locals ≤ R.locals := by show 8 + (nL2 + 11) + (40 * d' + 160) ≤ _; omega
              have hAf : ∀ q, mjAf ad hp.length H.size q → A q := by
                rintro q (⟨i, hi, rfl⟩ | h)
                · exact hR.2.2.1 i hi
                · exact hA q (Nat.le_trans hS.1 h)
              have hpre2 : ∀ U : State, U.heap = H → s.WarmedH U.vm → mjPc D dT ad hp H.size as (rls ad as).toArray U := by
                intro U hU hW
                exact ⟨rfl, by rw [hU], by rw [hU]; exact hR.A (fun i hi => Or.inl ⟨i, hi, rfl⟩), hKX.to hW hU hS hAf⟩
              have fix : CallFix p m c (mjCd k) nL s args mjGl own := ⟨hexec, hb, hml, hown, hts⟩
              have fin : vx_Run p l e R s m args below meth c H locs cells slots c2 s2 (F0 m pc arr (rls ad (as.reverse ++ rest))) (rls ad rest) (mjQc D dT ad hp.length H.size o2 hp2 (rls ad as).toArray) (mjXc D dT ad hp.length H.size o2 hp2) (mjAf ad hp.length H.size) → W p l e R s m args below meth c H locs cells slots Q (F0 m pc arr (rls ad (as.reverse ++ rest))) :=
                fun hr => mj_back IH hM hk hr hlen2 hsc hrun hC hc hs hR hS hKX hSX hl hK3
              refine fin ?_
              unfold mjLk2 at hlk2
              rcases hcall with ⟨i, hi⟩ | ⟨i, hi, n1, n2⟩ | ⟨i, hi, n1⟩
              · -- invokevirtual
                rw [hi] at hlk2 hd hlen hrecv
                rw [hlen.resolve_left (by simp [mjLen])] at hd
                simp only [hM2, Bool.and_eq_true, decide_eq_true_eq, Bool.not_eq_true', beq_eq_false_iff_ne] at hlk2
                obtain ⟨⟨⟨⟨rfl, -⟩, rfl⟩, hni⟩, hlnk⟩ := hlk2
                simp only [mjRecv] at hrecv
                split at hrecv
                · rename_i ob asr
                  split at hrecv
                  · rename_i t us hob
                    split at hrecv
                    · rename_i rr hrr
                      have hrn := of_decide_eq_true hrecv
                      obtain ⟨r', q0, -, cell, q1, q2, q3, -⟩ := (hR.1 ob _ hob).1 (Nat.lt_trans (mj_cls hrr).1 (by omega))
                      have hr : r' = rr := Option.some.inj (q0.symm.trans hrr)
                      subst hr
                      have hcls := (hKX.1.1 t _ hrr).2
                      have has2 : asr.length = np2 := by simpa using has
                      exact vx_runV (As := rls ad asr) (b := ad ob) (C := y2.cls) (n := np2) fix hMet
                        ⟨⟨rfl, rfl, hroomF, hroomL, hwarm, by rw [hws]; exact List.mem_cons_self, hts _ hcm, hts _ hinit, hne, hlenp, hts _ (mjIs_in hlnk)⟩, hts _ hkind, hts _ ((hsel.resolve_left (by simp)).resolve_left hni)⟩
                        ⟨mjPc.blind, ⟨cell, q1, by rw [q3]; rfl, by rw [q2, hcl, ← hrn]; exact hcls.1⟩, hpre2⟩ rfl (by rw [List.length_map]; exact has2) hsize (by rw [rls_rev]; simp [rls, rl]) hcat2 hd hff
                    · cases hrecv
                  · cases hrecv
                · cases hrecv
              · -- invokestatic
                rw [hi] at hlk2 hd hlen
                rw [hlen.resolve_left (by simp [mjLen])] at hd
                simp only [n1, n2, if_false, hM2, Bool.and_eq_true, decide_eq_true_eq] at hlk2
                obtain ⟨⟨rfl, -⟩, hlk3⟩ := hlk2
                by_cases h7 : x.2.2.2.1 = 7
                · rw [if_pos h7] at hlk3
                  simp only [Bool.and_eq_true, decide_eq_true_eq] at hlk3
                  obtain ⟨rfl, hnest⟩ := hlk3
                  exact vx_runSN (As := rls ad as) (host := RX11) (n := np2) fix hMet
                    ⟨⟨⟨rfl, rfl, hroomF, hroomL, hwarm, by rw [hws]; exact List.mem_cons_self⟩, hts _ hcm, hts _ hinit, hne, hlenp, va_Nw.use rfl (hKX.2.2.2.1 _ hnest)⟩, hts _ hkind, trivial⟩
                    ⟨mjPc.blind, hpre2⟩ rfl (by rw [List.length_map]; exact has) hsize (rls_rev ad as rest) hcat2 hd hff
                · rw [if_neg h7] at hlk3
                  by_cases h0 : hh2 = []
                  · subst h0
                    exact vx_runS (As := rls ad as) (n := np2) fix hMet
                      ⟨⟨rfl, rfl, hroomF, hroomL, hwarm, by rw [hws]; exact List.mem_cons_self, hts _ hcm, hts _ hinit, hne, hlenp, hts _ (mjIs_in hlk3)⟩, hts _ hkind⟩
                      ⟨mjPc.blind, hpre2⟩ rfl (by rw [List.length_map]; exact has) hsize (rls_rev ad as rest) hcat2 hd hff
                  · rw [if_neg h0] at hcm hws
                    exact vx_runSX (As := rls ad as) (n := np2) (hh := hh2) fix hMet
                      ⟨⟨rfl, rfl, hroomF, hroomL, hwarm, by rw [hws]; exact List.mem_cons_self⟩, hts _ hcm, hts _ hinit, hne, hlenp, hts _ (mjIs_in hlk3), hts _ hkind⟩
                      ⟨mjPc.blind, hpre2⟩ rfl (by rw [List.length_map]; exact has) hsize (rls_rev ad as rest) hcat2 hd hff
              · -- invokespecial
                rw [hi] at hlk2 hd hlen hrecv
                rw [hlen.resolve_left (by simp [mjLen])] at hd
                simp only [n1, if_false, hM2, Bool.and_eq_true, decide_eq_true_eq, Bool.not_eq_true', beq_iff_eq] at hlk2
                obtain ⟨⟨⟨⟨⟨rfl, -⟩, rfl⟩, hni⟩, rfl⟩, hlk3⟩ := hlk2
                simp only [mjRecv] at hrecv
                split at hrecv
                · rename_i ob asr
                  have has2 : asr.length = np2 := by simpa using has
                  by_cases h3 : x.2.2.2.1 = 3
                  · rw [if_pos h3] at hlk3
                    exact vx_runIN (As := rls ad asr) (b := ad ob) (host := RX11) (n := np2) fix hMet
                      ⟨⟨⟨rfl, rfl, hroomF, hroomL, hwarm, by rw [hws]; exact List.mem_cons_self⟩, hts _ hcm, hts _ hinit, hne, hlenp, va_Nw.use rfl (hKX.2.2.2.1 _ (of_decide_eq_true hlk3))⟩, hni, hts _ hkind⟩
                      ⟨mjPc.blind, hpre2⟩ rfl (by rw [List.length_map]; exact has2) hsize (by rw [rls_rev]; simp [rls, rl]) hcat2 hd hff
                  · rw [if_neg h3] at hlk3
                    exact vx_runI (As := rls ad asr) (b := ad ob) (n := np2) fix hMet
                      ⟨⟨rfl, rfl, hroomF, hroomL, hwarm, by rw [hws]; exact List.mem_cons_self, hts _ hcm, hts _ hinit, hne, hlenp, hts _ (mjIs_in hlk3)⟩, hni, hts _ hkind⟩
                      ⟨mjPc.blind, hpre2⟩ rfl (by rw [List.length_map]; exact has2) hsize (by rw [rls_rev]; simp [rls, rl]) hcat2 hd hff
                · cases hrecv
            · cases hrun
        · cases hrun
end MJGO

/-! FR: one step, by kinds -/
section FR2
/-- what takes numbers and leaves a number: how many, of which kind, how long the code is -/
def frAr (i : Instr) : Option (Nat × Bool × Nat) := match i with
  | .iconst _ => some (0, false, 1)
  | .bipush _ => some (0, false, 2)
  | .sipush _ => some (0, false, 3)
  | .lconst _ => some (0, true, 1)
  | .iload_n _ => some (0, false, 1)
  | .iload _ => some (0, false, 2)
  | .lload_n _ => some (0, true, 1)
  | .lload _ => some (0, true, 2)
  | .iadd => some (2, false, 1)
  | .isub => some (2, false, 1)
  | .imul => some (2, false, 1)
  | .iand => some (2, false, 1)
  | .ior => some (2, false, 1)
  | .ixor => some (2, false, 1)
  | .irem => some (2, false, 1)
  | .ishl => some (2, false, 1)
  | .ishr => some (2, false, 1)
  | .iushr => some (2, false, 1)
  | .ladd => some (2, true, 1)
  | .lsub => some (2, true, 1)
  | .lmul => some (2, true, 1)
  | .land => some (2, true, 1)
  | .lor => some (2, true, 1)
  | .lxor => some (2, true, 1)
  | .lshl => some (2, true, 1)
  | .lshr => some (2, true, 1)
  | .lushr => some (2, true, 1)
  | .lcmp => some (2, false, 1)
  | .i2l => some (1, true, 1)
  | .l2i => some (1, false, 1)
  | .i2b => some (1, false, 1)
  | _ => none
theorem frAr_ok {i : Instr} {pc b n len p : Nat} {c : Bool} {L L' : mjL} {S S' : List Value} (h : frAr i = some (n, c, len)) (e : mjAlu i pc b L S = some (p, L', S')) : p = pc + len ∧ L' = L ∧ ∃ v, frR (.inr c) v ∧ S' = v :: S.drop n ∧ n ≤ S.length := by
  unfold frAr at h
  split at h
  all_goals try (cases h; done)
  all_goals cases h
  all_goals unfold mjAlu at e
  all_goals dsimp only at e
  all_goals first
    | (cases e; exact ⟨rfl, rfl, _, ⟨_, rfl⟩, rfl, Nat.zero_le _⟩)
    | (split at e <;> first | (cases e; exact ⟨rfl, rfl, _, ⟨_, rfl⟩, rfl, by simp⟩) | (cases e; done) | (split at e <;> first | (cases e; exact ⟨rfl, rfl, _, ⟨_, rfl⟩, rfl, by simp⟩) | (cases e; done)))
theorem frSR_drop : ∀ {n : Nat} {st : List frV} {S : List Value}, frSR st S → frSR (st.drop n) (S.drop n)
  | 0, _, _, h => h
  | _ + 1, [], [], h => h
  | n + 1, a :: as, v :: vs, h => frSR_drop (n := n) h.2
  | _ + 1, [], _ :: _, h => h.elim
  | _ + 1, _ :: _, [], h => h.elim
/-- targets of a switch -/
def frTs (pc : Nat) (dflt : Int) (offs : Array Int) (s : frS) : List (Nat × frS) := (((pc : Int) + dflt).toNat, s) :: offs.toList.map (fun o => (((pc : Int) + o).toNat, s))
def frLs (pc : Nat) (dflt : Int) (ps : List (Int × Int)) (s : frS) : List (Nat × frS) := (((pc : Int) + dflt).toNat, s) :: ps.map (fun o => (((pc : Int) + o.2).toNat, s))
theorem frOff (dflt k : Int) : ∀ (l : List (Int × Int)), Op.lookupswitch.offset l dflt k = dflt ∨ ∃ q, q ∈ l ∧ Op.lookupswitch.offset l dflt k = q.2
  | [] => Or.inl rfl
  | (a, o) :: r => by
    have e : Op.lookupswitch.offset ((a, o) :: r) dflt k = if a = k then o else Op.lookupswitch.offset r dflt k := rfl
    rw [e]
    by_cases g : a = k
    · rw [if_pos g]
      exact Or.inr ⟨_, List.mem_cons_self, rfl⟩
    · rw [if_neg g]
      rcases frOff dflt k r with h | ⟨q, q1, q2⟩
      · exact Or.inl h
      · exact Or.inr ⟨q, List.mem_cons_of_mem _ q1, q2⟩
/-- steps that leave the heap alone -/
def frTr1 (x : mjX) (pc : Nat) (s : frS) : Option (List (Nat × frS)) := match x.1 with
  | .aload_n k => (match frGt s.1 k with | some (.inl rs) => some [(pc + 1, (s.1, .inl rs :: s.2))] | _ => none)
  | .aload k => (match frGt s.1 k with | some (.inl rs) => some [(pc + 2, (s.1, .inl rs :: s.2))] | _ => none)
  | .istore_n k => some [(pc + 1, (frSt false k (.inr false) s.1, s.2.drop 1))]
  | .istore k => some [(pc + 2, (frSt false k (.inr false) s.1, s.2.drop 1))]
  | .lstore_n k => some [(pc + 1, (frSt true k (.inr true) s.1, s.2.drop 1))]
  | .lstore k => some [(pc + 2, (frSt true k (.inr true) s.1, s.2.drop 1))]
  | .astore_n k => (match s.2 with | a :: r => some [(pc + 1, (frSt false k a s.1, r))] | [] => none)
  | .astore k => (match s.2 with | a :: r => some [(pc + 2, (frSt false k a s.1, r))] | [] => none)
  | .iinc k _ => some [(pc + 3, (frSt false k (.inr false) s.1, s.2))]
  | .dup => (match s.2 with | a :: r => some [(pc + 1, (s.1, a :: a :: r))] | [] => none)
  | .pop => some [(pc + 1, (s.1, s.2.drop 1))]
  | .dup2 => (match s.2 with | a :: b :: r => some [(pc + 1, (s.1, a :: b :: a :: b :: r))] | _ => none)
  | .ifCond _ _ => some [(x.2.2.2.1, (s.1, s.2.drop 1)), (pc + 3, (s.1, s.2.drop 1))]
  | .if_icmp _ _ => some [(x.2.2.2.1, (s.1, s.2.drop 2)), (pc + 3, (s.1, s.2.drop 2))]
  | .goto _ => some [(x.2.2.2.1, s)]
  | .tableswitch dflt _ _ offs => some (frTs pc dflt offs (s.1, s.2.drop 1))
  | .lookupswitch dflt ps => some (frLs pc dflt ps.toList (s.1, s.2.drop 1))
  | i => (match frAr i with | some (n, c, len) => some [(pc + len, (s.1, .inr c :: s.2.drop n))] | none => none)
theorem frTr1_ok {x : mjX} {pc p : Nat} {s : frS} {l : List (Nat × frS)} {L L' : mjL} {S S' : List Value} (h : frTr1 x pc s = some l) (hL : frLR s.1 L) (hS : frSR s.2 S) (e : mjAlu x.1 pc x.2.2.2.1 L S = some (p, L', S')) : ∃ t, t ∈ l ∧ t.1 = p ∧ frLR t.2.1 L' ∧ frSR t.2.2 S' := by
  have ld : ∀ {k : Nat} {rs : List Nat}, frGt s.1 k = some (.inl rs) → ∃ n, n ∈ rs ∧ mjGet L k = some (.ref n) := by
    intro k rs hk
    obtain ⟨v, v1, n, n1, n2⟩ := hL _ (frGt_mem hk)
    exact ⟨n, n1, by rw [v1, n2]⟩
  unfold frTr1 at h
  split at h
  all_goals rename_i hx
  all_goals try rw [hx] at e
  · split at h
    · rename_i rs hk
      cases h
      obtain ⟨n, n1, n2⟩ := ld hk
      unfold mjAlu at e
      dsimp only at e
      rw [n2] at e
      cases e
      exact ⟨_, List.mem_singleton.mpr rfl, rfl, hL, ⟨n, n1, rfl⟩, hS⟩
    · cases h
  · split at h
    · rename_i rs hk
      cases h
      obtain ⟨n, n1, n2⟩ := ld hk
      unfold mjAlu at e
      dsimp only at e
      rw [n2] at e
      cases e
      exact ⟨_, List.mem_singleton.mpr rfl, rfl, hL, ⟨n, n1, rfl⟩, hS⟩
    · cases h
  · cases h
    unfold mjAlu at e
    dsimp only at e
    split at e
    · cases e
      exact ⟨_, List.mem_singleton.mpr rfl, rfl, frSt_ok hL ⟨_, rfl⟩, frSR_drop (n := 1) hS⟩
    · cases e
  · cases h
    unfold mjAlu at e
    dsimp only at e
    split at e
    · cases e
      exact ⟨_, List.mem_singleton.mpr rfl, rfl, frSt_ok hL ⟨_, rfl⟩, frSR_drop (n := 1) hS⟩
    · cases e
  · cases h
    unfold mjAlu at e
    dsimp only at e
    split at e
    · cases e
      exact ⟨_, List.mem_singleton.mpr rfl, rfl, frSt2_ok hL ⟨_, rfl⟩, frSR_drop (n := 1) hS⟩
    · cases e
  · cases h
    unfold mjAlu at e
    dsimp only at e
    split at e
    · cases e
      exact ⟨_, List.mem_singleton.mpr rfl, rfl, frSt2_ok hL ⟨_, rfl⟩, frSR_drop (n := 1) hS⟩
    · cases e
  · split at h
    · rename_i a r hs
      cases h
      rw [hs] at hS
      obtain ⟨v, S1, rfl, h1, h2⟩ := frSR_c hS
      unfold mjAlu at e
      dsimp only at e
      split at e
      · rename_i q
        cases q
        cases e
        exact ⟨_, List.mem_singleton.mpr rfl, rfl, frSt_ok hL h1, h2⟩
      · cases e
    · cases h
  · split at h
    · rename_i a r hs
      cases h
      rw [hs] at hS
      obtain ⟨v, S1, rfl, h1, h2⟩ := frSR_c hS
      unfold mjAlu at e
      dsimp only at e
      split at e
      · rename_i q
        cases q
        cases e
        exact ⟨_, List.mem_singleton.mpr rfl, rfl, frSt_ok hL h1, h2⟩
      · cases e
    · cases h
  · cases h
    unfold mjAlu at e
    dsimp only at e
    split at e
    · cases e
      exact ⟨_, List.mem_singleton.mpr rfl, rfl, frSt_ok hL ⟨_, rfl⟩, hS⟩
    · cases e
  · split at h
    · rename_i a r hs
      cases h
      rw [hs] at hS
      obtain ⟨v, S1, rfl, h1, h2⟩ := frSR_c hS
      unfold mjAlu at e
      dsimp only at e
      split at e
      · cases e
        exact ⟨_, List.mem_singleton.mpr rfl, rfl, hL, h1, h1, h2⟩
      · cases e
    · cases h
  · cases h
    unfold mjAlu at e
    dsimp only at e
    split at e
    · split at e
      · cases e
        exact ⟨_, List.mem_singleton.mpr rfl, rfl, hL, frSR_drop (n := 1) hS⟩
      · cases e
    · cases e
  · split at h
    · rename_i a b r hs
      cases h
      rw [hs] at hS
      obtain ⟨v, S1, rfl, h1, h2⟩ := frSR_c hS
      obtain ⟨w, S2, rfl, h3, h4⟩ := frSR_c h2
      unfold mjAlu at e
      dsimp only at e
      split at e
      · cases e
        exact ⟨_, List.mem_singleton.mpr rfl, rfl, hL, h1, h3, h1, h3, h4⟩
      · cases e
    · cases h
  · cases h
    unfold mjAlu at e
    dsimp only at e
    split at e
    · have e := Option.some.inj e
      have e1 := congrArg Prod.fst e
      have e2 := congrArg Prod.snd e
      cases e2
      dsimp only at e1
      split at e1
      · exact ⟨_, List.mem_cons_self, e1, hL, frSR_drop (n := 1) hS⟩
      · exact ⟨_, List.mem_cons_of_mem _ List.mem_cons_self, e1, hL, frSR_drop (n := 1) hS⟩
    · cases e
  · cases h
    unfold mjAlu at e
    dsimp only at e
    split at e
    · have e := Option.some.inj e
      have e1 := congrArg Prod.fst e
      have e2 := congrArg Prod.snd e
      cases e2
      dsimp only at e1
      split at e1
      · exact ⟨_, List.mem_cons_self, e1, hL, frSR_drop (n := 2) hS⟩
      · exact ⟨_, List.mem_cons_of_mem _ List.mem_cons_self, e1, hL, frSR_drop (n := 2) hS⟩
    · cases e
  · cases h
    unfold mjAlu at e
    dsimp only at e
    cases e
    exact ⟨_, List.mem_singleton.mpr rfl, rfl, hL, hS⟩
  · cases h
    unfold mjAlu at e
    dsimp only at e
    split at e
    · split at e
      · split at e
        · cases e
          exact ⟨_, List.mem_cons_self, rfl, hL, frSR_drop (n := 1) hS⟩
        · cases e
      · split at e
        · rename_i o ho
          split at e
          · cases e
            refine ⟨_, List.mem_cons_of_mem _ (List.mem_map.mpr ⟨o, ?_, rfl⟩), rfl, hL, frSR_drop (n := 1) hS⟩
            rw [← Array.getElem?_toList] at ho
            exact List.mem_of_getElem? ho
          · cases e
        · cases e
    · cases e
  · rename_i dflt ps
    cases h
    unfold mjAlu at e
    dsimp only at e
    split at e
    · rename_i y r
      split at e
      · cases e
        rcases frOff dflt y.toInt ps.toList with g | ⟨q, q1, q2⟩
        · rw [g]
          exact ⟨_, List.mem_cons_self, rfl, hL, frSR_drop (n := 1) hS⟩
        · rw [q2]
          exact ⟨_, List.mem_cons_of_mem _ (List.mem_map.mpr ⟨q, q1, rfl⟩), rfl, hL, frSR_drop (n := 1) hS⟩
      · cases e
    · cases e
  · split at h
    · rename_i n c len ha
      cases h
      obtain ⟨e1, e2, v, e3, e4, -⟩ := frAr_ok ha e
      rw [e2, e4]
      exact ⟨_, List.mem_singleton.mpr rfl, e1.symm, hL, e3, frSR_drop hS⟩
    · cases h
/-- steps that read or write the heap -/
noncomputable def frTr2 (W : frW) (x : mjX) (pc : Nat) (s : frS) : Option (Nat × frS) := match x.1 with
  | .getfield _ => (match s.2 with | .inl rs :: r => (match frLd rs (some x.2.2.2.1) with | some a => some (pc + 3, (s.1, a :: r)) | none => none) | _ => none)
  | .putfield _ => (match s.2 with | a :: .inl rs :: r => (match rs.all (fun o => frWr W o (some x.2.2.2.1) a) with | true => some (pc + 3, (s.1, r)) | false => none) | _ => none)
  | .arraylength => some (pc + 1, (s.1, .inr false :: s.2.drop 1))
  | .iaload => (match s.2 with | _ :: .inl rs :: r => (match rs.all (fun o => Nat.beq o mjScr) with
    | true => some (pc + 1, (s.1, .inr false :: r))
    | false => (match frLd rs none with | some a => some (pc + 1, (s.1, a :: r)) | none => none)) | _ => none)
  | .laload => (match s.2 with | _ :: .inl rs :: r => (match frLd rs none with | some a => some (pc + 1, (s.1, a :: r)) | none => none) | _ => none)
  | .baload => (match s.2 with | _ :: .inl rs :: r => (match frLd rs none with | some a => some (pc + 1, (s.1, a :: r)) | none => none) | _ => none)
  | .aaload => (match s.2 with | _ :: .inl rs :: r => (match frLd rs none with | some a => some (pc + 1, (s.1, a :: r)) | none => none) | _ => none)
  | .iastore => (match s.2 with | _ :: _ :: .inl rs :: r => (match rs.all (fun o => frWr W o none (.inr false)) with | true => some (pc + 1, (s.1, r)) | false => none) | _ => none)
  | .lastore => (match s.2 with | _ :: _ :: .inl rs :: r => (match rs.all (fun o => frWr W o none (.inr true)) with | true => some (pc + 1, (s.1, r)) | false => none) | _ => none)
  | .bastore => (match s.2 with | _ :: _ :: .inl rs :: r => (match rs.all (fun o => frWr W o none (.inr false)) with | true => some (pc + 1, (s.1, r)) | false => none) | _ => none)
  | .aastore => (match s.2 with | a :: _ :: .inl rs :: r => (match rs.all (fun o => frWr W o none a) with | true => some (pc + 1, (s.1, r)) | false => none) | _ => none)
  | .ldc _ => some (pc + 2, (s.1, (if x.2.2.2.1 = 0 then .inr false else .inl [mjS0 + x.2.2.1]) :: s.2))
  | .ldc_w _ => some (pc + 3, (s.1, .inr false :: s.2))
  | .ldc2_w _ => some (pc + 3, (s.1, .inr true :: s.2))
  | _ => none
theorem frLd_lt {rs : List Nat} {j : Option Nat} {a : frV} {o : Nat} (h : frLd rs j = some a) (ho : o ∈ rs) : o < 579 := by
  unfold frLd at h
  split at h
  · rename_i l hl
    obtain ⟨as, e⟩ := frRdL_ex hl ho
    unfold frRd at e
    split at e
    · split at e
      · rename_i hb
        exact bltOk hb
      · cases e
    · cases e
  · cases h
theorem frTr2_ok {W : frW} {sc : Option (List Int32)} {x : mjX} {pc p : Nat} {s : frS} {t : Nat × frS} {H H1 : mjH} {S S' : List Value} (h : frTr2 W x pc s = some t) (hT : HT H) (hS : frSR s.2 S) (e : mjHp sc x pc S H = some (p, S', H1)) : t.1 = p ∧ t.2.1 = s.1 ∧ frSR t.2.2 S' ∧ HT H1 ∧ frFr W H H1 := by
  have lt : ∀ {o : Nat} {z : mjE}, H[o]? = some z → o < 579 := fun ho => by
    have := (List.getElem?_eq_some_iff.mp ho).1
    have h579 := hT.1
    omega
  unfold frTr2 at h
  unfold mjHp at e
  split at h
  all_goals rename_i hx
  all_goals try rw [hx] at e
  all_goals try dsimp only at e
  · split at h
    · rename_i rs r hs
      split at h
      · rename_i a ha
        cases h
        rw [hs] at hS
        obtain ⟨v, S1, rfl, ⟨n, n1, rfl⟩, h2⟩ := frSR_c hS
        dsimp only at e
        split at e
        · rename_i t0 vs hn
          split at e
          · split at e
            · rename_i v hv
              cases e
              exact ⟨rfl, rfl, ⟨frLd_ok hT hn hv (Or.inr rfl) n1 ha, h2⟩, hT, frFr.rf⟩
            · cases e
          · cases e
        · cases e
      · cases h
    · cases h
  · split at h
    · rename_i a rs r hs
      split at h
      · rename_i ha
        cases h
        rw [hs] at hS
        obtain ⟨v, S1, rfl, h1, h2⟩ := frSR_c hS
        obtain ⟨w, S2, rfl, ⟨n, n1, rfl⟩, h4⟩ := frSR_c h2
        dsimp only at e
        split at e
        · rename_i t0 vs hn
          split at e
          · rename_i hc
            cases e
            obtain ⟨k1, k2⟩ := frWr_ok hT hn hc.2.1 (Or.inr rfl) h1 (List.all_eq_true.mp ha n n1) (lt hn)
            exact ⟨rfl, rfl, h4, k1, k2⟩
          · cases e
        · cases e
      · cases h
    · cases h
  · cases h
    split at e
    · split at e
      · split at e
        · cases e
          exact ⟨rfl, rfl, ⟨⟨_, rfl⟩, frSR_drop (n := 1) hS⟩, hT, frFr.rf⟩
        · cases e
      · split at e
        · split at e
          · cases e
            exact ⟨rfl, rfl, ⟨⟨_, rfl⟩, frSR_drop (n := 1) hS⟩, hT, frFr.rf⟩
          · cases e
        · cases e
    · cases e
  · split at h
    · rename_i b rs r hs
      rw [hs] at hS
      obtain ⟨i, S1, rfl, h1, h2⟩ := frSR_c hS
      obtain ⟨w, S2, rfl, ⟨n, n1, rfl⟩, h4⟩ := frSR_c h2
      split at e
      · rename_i i2 o2 r2 q
        cases q
        split at h
        · rename_i ha
          cases h
          split at e
          · split at e
            · split at e
              · cases e
              · cases e
                exact ⟨rfl, rfl, ⟨⟨_, rfl⟩, h4⟩, hT, frFr.rf⟩
            · cases e
          · rename_i hne
            exact absurd (Nat.eq_of_beq_eq_true (List.all_eq_true.mp ha n n1)) hne
        · split at h
          · rename_i a ha
            cases h
            split at e
            · rename_i he
              have := frLd_lt ha n1
              rw [he] at this
              exact absurd this (by decide)
            · split at e
              · rename_i t0 vs hn
                split at e
                · split at e
                  · rename_i v hv
                    cases e
                    exact ⟨rfl, rfl, ⟨frLd_ok hT hn hv (Or.inl rfl) n1 ha, h4⟩, hT, frFr.rf⟩
                  · cases e
                · cases e
              · cases e
          · cases h
      · cases e
    · cases h
  · split at h
    · rename_i b rs r hs
      split at h
      · rename_i a ha
        cases h
        rw [hs] at hS
        obtain ⟨i, S1, rfl, h1, h2⟩ := frSR_c hS
        obtain ⟨w, S2, rfl, ⟨n, n1, rfl⟩, h4⟩ := frSR_c h2
        split at e
        · rename_i i2 o2 r2 q
          cases q
          split at e
          · rename_i t0 vs hn
            split at e
            · split at e
              · rename_i v hv
                cases e
                exact ⟨rfl, rfl, ⟨frLd_ok hT hn hv (Or.inl rfl) n1 ha, h4⟩, hT, frFr.rf⟩
              · cases e
            · cases e
          · cases e
        · cases e
      · cases h
    · cases h
  · split at h
    · rename_i b rs r hs
      split at h
      · rename_i a ha
        cases h
        rw [hs] at hS
        obtain ⟨i, S1, rfl, h1, h2⟩ := frSR_c hS
        obtain ⟨w, S2, rfl, ⟨n, n1, rfl⟩, h4⟩ := frSR_c h2
        split at e
        · rename_i i2 o2 r2 q
          cases q
          split at e
          · rename_i t0 vs hn
            split at e
            · split at e
              · rename_i v hv
                cases e
                exact ⟨rfl, rfl, ⟨frLd_ok hT hn hv (Or.inl rfl) n1 ha, h4⟩, hT, frFr.rf⟩
              · cases e
            · cases e
          · cases e
        · cases e
      · cases h
    · cases h
  · split at h
    · rename_i b rs r hs
      split at h
      · rename_i a ha
        cases h
        rw [hs] at hS
        obtain ⟨i, S1, rfl, h1, h2⟩ := frSR_c hS
        obtain ⟨w, S2, rfl, ⟨n, n1, rfl⟩, h4⟩ := frSR_c h2
        split at e
        · rename_i i2 o2 r2 q
          cases q
          split at e
          · rename_i t0 vs hn
            split at e
            · split at e
              · rename_i v hv
                cases e
                exact ⟨rfl, rfl, ⟨frLd_ok hT hn hv (Or.inl rfl) n1 ha, h4⟩, hT, frFr.rf⟩
              · cases e
            · cases e
          · cases e
        · cases e
      · cases h
    · cases h
  · split at h
    · rename_i b c rs r hs
      split at h
      · rename_i ha
        cases h
        rw [hs] at hS
        obtain ⟨v, S1, rfl, h1, h2⟩ := frSR_c hS
        obtain ⟨i, S2, rfl, h3, h4⟩ := frSR_c h2
        obtain ⟨w, S3, rfl, ⟨n, n1, rfl⟩, h6⟩ := frSR_c h4
        split at e
        · rename_i v2 i2 o2 r2 q
          cases q
          split at e
          · rename_i t0 vs hn
            split at e
            · rename_i hc
              cases e
              obtain ⟨k1, k2⟩ := frWr_ok (a := .inr false) hT hn hc.2.2 (Or.inl rfl) ⟨_, rfl⟩ (List.all_eq_true.mp ha n n1) (lt hn)
              exact ⟨rfl, rfl, h6, k1, k2⟩
            · cases e
          · cases e
        · cases e
      · cases h
    · cases h
  · split at h
    · rename_i b c rs r hs
      split at h
      · rename_i ha
        cases h
        rw [hs] at hS
        obtain ⟨v, S1, rfl, h1, h2⟩ := frSR_c hS
        obtain ⟨i, S2, rfl, h3, h4⟩ := frSR_c h2
        obtain ⟨w, S3, rfl, ⟨n, n1, rfl⟩, h6⟩ := frSR_c h4
        split at e
        · rename_i v2 i2 o2 r2 q
          cases q
          split at e
          · rename_i t0 vs hn
            split at e
            · rename_i hc
              cases e
              obtain ⟨k1, k2⟩ := frWr_ok (a := .inr true) hT hn hc.2.2 (Or.inl rfl) ⟨_, rfl⟩ (List.all_eq_true.mp ha n n1) (lt hn)
              exact ⟨rfl, rfl, h6, k1, k2⟩
            · cases e
          · cases e
        · cases e
      · cases h
    · cases h
  · split at h
    · rename_i b c rs r hs
      split at h
      · rename_i ha
        cases h
        rw [hs] at hS
        obtain ⟨v, S1, rfl, h1, h2⟩ := frSR_c hS
        obtain ⟨i, S2, rfl, h3, h4⟩ := frSR_c h2
        obtain ⟨w, S3, rfl, ⟨n, n1, rfl⟩, h6⟩ := frSR_c h4
        split at e
        · rename_i v2 i2 o2 r2 q
          cases q
          split at e
          · rename_i t0 vs hn
            split at e
            · rename_i hc
              cases e
              obtain ⟨k1, k2⟩ := frWr_ok (a := .inr false) hT hn hc.2.2 (Or.inl rfl) ⟨_, rfl⟩ (List.all_eq_true.mp ha n n1) (lt hn)
              exact ⟨rfl, rfl, h6, k1, k2⟩
            · split at e
              · rename_i hc
                cases e
                obtain ⟨k1, k2⟩ := frWr_ok (a := .inr false) hT hn hc.2.2 (Or.inl rfl) ⟨_, rfl⟩ (List.all_eq_true.mp ha n n1) (lt hn)
                exact ⟨rfl, rfl, h6, k1, k2⟩
              · cases e
          · cases e
        · cases e
      · cases h
    · cases h
  · split at h
    · rename_i a c rs r hs
      split at h
      · rename_i ha
        cases h
        rw [hs] at hS
        obtain ⟨v, S1, rfl, h1, h2⟩ := frSR_c hS
        obtain ⟨i, S2, rfl, h3, h4⟩ := frSR_c h2
        obtain ⟨w, S3, rfl, ⟨n, n1, rfl⟩, h6⟩ := frSR_c h4
        split at e
        · rename_i v2 i2 o2 r2 q
          cases q
          split at e
          · rename_i t0 vs t1 vs1 hn hn2
            split at e
            · rename_i hc
              cases e
              obtain ⟨k1, k2⟩ := frWr_ok hT hn hc.2.2 (Or.inl rfl) h1 (List.all_eq_true.mp ha n n1) (lt hn)
              exact ⟨rfl, rfl, h6, k1, k2⟩
            · cases e
          · cases e
        · cases e
      · cases h
    · cases h
  · cases h
    cases e
    refine ⟨rfl, rfl, ⟨?_, hS⟩, hT, frFr.rf⟩
    by_cases g : x.2.2.2.1 = 0
    · rw [if_pos g, if_pos g]
      exact ⟨_, rfl⟩
    · rw [if_neg g, if_neg g]
      exact ⟨_, List.mem_singleton.mpr rfl, rfl⟩
  · cases h
    split at e
    · cases e
      exact ⟨rfl, rfl, ⟨⟨_, rfl⟩, hS⟩, hT, frFr.rf⟩
    · cases e
  · cases h
    cases e
    exact ⟨rfl, rfl, ⟨⟨_, rfl⟩, hS⟩, hT, frFr.rf⟩
  · cases h
theorem frTr2_no {W : frW} {x : mjX} {pc b : Nat} {s : frS} {t : Nat × frS} {L : mjL} {S : List Value} (h : frTr2 W x pc s = some t) : mjAlu x.1 pc b L S = none ∧ isPl x.1 = true := by
  unfold frTr2 at h
  split at h
  all_goals first
    | (rename_i hx; rw [hx]; exact ⟨rfl, rfl⟩)
    | cases h
theorem frTr1_no {x : mjX} {pc : Nat} {s : frS} {l : List (Nat × frS)} {S : List Value} {sc : Option (List Int32)} {H : mjH} (h : frTr1 x pc s = some l) : mjHp sc x pc S H = none ∧ isPl x.1 = true := by
  unfold frTr1 at h
  unfold mjHp
  split at h
  all_goals first
    | (rename_i hx; rw [hx]; exact ⟨rfl, rfl⟩)
    | skip
  split at h
  · rename_i n c len ha
    unfold frAr at ha
    split at ha
    all_goals first
      | (rename_i hx; rw [hx]; exact ⟨rfl, rfl⟩)
      | cases ha
  · cases h
end FR2

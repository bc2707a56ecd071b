/-! FR: whole methods: what they may write, and what they leave -/
section FR3
/-- method, what it is given, what it may write, what it gives back, states by places, calls by places, where to stop -/
abbrev frMt : Type := Nat × List (Nat × frV) × frW × Option frV × List (Nat × frS) × List (Nat × Nat) × List Nat
def frEn : List (Nat × frS) → Nat → Option frS
  | [], _ => none
  | q :: r, i => match Nat.beq q.1 i with
    | true => some q.2
    | false => frEn r i
theorem frEn_mem {i : Nat} {a : frS} : ∀ {l : List (Nat × frS)}, frEn l i = some a → (i, a) ∈ l
  | [], h => by cases h
  | q :: r, h => by
    unfold frEn at h
    split at h
    · rename_i e
      cases h
      rw [← Nat.eq_of_beq_eq_true e]
      exact List.mem_cons_self
    · exact List.mem_cons_of_mem _ (frEn_mem h)
def frCl : List (Nat × Nat) → Nat → Option Nat
  | [], _ => none
  | q :: r, i => match Nat.beq q.1 i with
    | true => some q.2
    | false => frCl r i
def frSu (tab : List (Nat × frS)) (t : Nat × frS) : Bool := match frEn tab t.1 with
  | some u => frSLe t.2 u
  | none => false
/-- a call's arguments as locals -/
def frAg : Nat → List frV → List (Nat × frV)
  | _, [] => []
  | i, a :: r => (i, a) :: frAg (match frLong a with | true => i + 2 | false => i + 1) r
theorem frSR_len : ∀ {st : List frV} {S : List Value}, frSR st S → st.length = S.length
  | [], [], _ => rfl
  | _ :: as, _ :: vs, h => congrArg Nat.succ (frSR_len h.2)
  | [], _ :: _, h => h.elim
  | _ :: _, [], h => h.elim
theorem frSR_app : ∀ {st su : List frV} {S T : List Value}, frSR st S → frSR su T → frSR (st ++ su) (S ++ T)
  | [], _, [], _, _, h => h
  | _ :: _, _, _ :: _, _, h1, h => ⟨h1.1, frSR_app h1.2 h⟩
  | [], _, _ :: _, _, h1, _ => h1.elim
  | _ :: _, _, [], _, h1, _ => h1.elim
theorem frSR_take : ∀ {n : Nat} {st : List frV} {S : List Value}, frSR st S → frSR (st.take n) (S.take n)
  | 0, _, _, _ => trivial
  | _ + 1, [], [], h => h
  | n + 1, a :: as, v :: vs, h => ⟨h.1, frSR_take (n := n) h.2⟩
  | _ + 1, [], _ :: _, h => h.elim
  | _ + 1, _ :: _, [], h => h.elim
theorem frSR_rev : ∀ {st : List frV} {S : List Value}, frSR st S → frSR st.reverse S.reverse
  | [], [], h => h
  | a :: as, v :: vs, h => by
    rw [List.reverse_cons, List.reverse_cons]
    exact frSR_app (frSR_rev h.2) ⟨h.1, trivial⟩
  | [], _ :: _, h => h.elim
  | _ :: _, [], h => h.elim
theorem frLong_c : ∀ {a : frV} {v : Value}, frR a v → (frLong a = true ↔ v.category = 2)
  | .inl _, v, ⟨n, _, h⟩ => by
    rw [h]
    exact Iff.intro (fun g => absurd (show (false : Bool) = true from g) (by decide)) (fun g => absurd (show (1 : Nat) = 2 from g) (by decide))
  | .inr false, v, ⟨n, h⟩ => by
    rw [h]
    exact Iff.intro (fun g => absurd (show (false : Bool) = true from g) (by decide)) (fun g => absurd (show (1 : Nat) = 2 from g) (by decide))
  | .inr true, v, ⟨n, h⟩ => by
    rw [h]
    exact ⟨fun _ => rfl, fun _ => rfl⟩
theorem frAg_lo : ∀ {i : Nat} {st : List frV} {q : Nat × frV}, q ∈ frAg i st → i ≤ q.1
  | _, [], _, h => by cases h
  | i, a :: r, q, h => by
    rcases List.mem_cons.mp h with g | g
    · rw [g]
      exact Nat.le_refl _
    · have := frAg_lo g
      revert this
      split <;> omega
theorem frAg_ok : ∀ {i : Nat} {st : List frV} {S : List Value}, frSR st S → frLR (frAg i st) (lv_args i S)
  | _, [], [], _ => fun q hq => by cases hq
  | i, a :: r, v :: vs, h => by
    intro q hq
    have e : lv_args i (v :: vs) = (i, v) :: lv_args (if v.category = 2 then i + 2 else i + 1) vs := rfl
    have e2 : (match frLong a with | true => i + 2 | false => i + 1) = (if v.category = 2 then i + 2 else i + 1) := by
      have hc := frLong_c h.1
      cases g : frLong a with
      | true => rw [if_pos (hc.mp g)]
      | false =>
        rw [if_neg (fun z => by rw [hc.mpr z] at g; cases g)]
    rw [e]
    rcases List.mem_cons.mp hq with g | g
    · rw [g]
      exact ⟨v, by unfold mjGet; rw [if_pos (beq_self_eq_true i)], h.1⟩
    · have hlo := frAg_lo g
      rw [e2] at g
      obtain ⟨u, u1, u2⟩ := frAg_ok h.2 q g
      refine ⟨u, ?_, u2⟩
      have : i < q.1 := by
        revert hlo
        split <;> omega
      unfold mjGet
      rw [if_neg (by simp; omega)]
      exact u1
  | _, [], _ :: _, h => h.elim
  | _, _ :: _, [], h => h.elim
def frDel (j : Nat) (ls : List (Nat × frV)) : List (Nat × frV) := ls.filter (fun q => !Nat.beq q.1 j && !(Nat.beq (q.1 + 1) j && frLong q.2))
theorem frDel_ok {ls : List (Nat × frV)} {L : mjL} {j : Nat} (h : frLR ls L) : frLR (frDel j ls) (mjDel j L) := by
  intro q hq
  obtain ⟨h1, h2⟩ := List.mem_filter.mp hq
  simp only [Bool.and_eq_true, Bool.not_eq_true'] at h2
  obtain ⟨h3, h4⟩ := h2
  obtain ⟨u, u1, u2⟩ := h q h1
  refine ⟨u, gt_fi ?_ u1, u2⟩
  dsimp only
  have e1 : (q.1 == j) = false := beq_eq_false_iff_ne.mpr (Nat.ne_of_beq_eq_false h3)
  have e2 : (q.1 + 1 == j && u.category == 2) = false := by
    by_cases g : q.1 + 1 = j
    · rw [g] at h4
      rw [show Nat.beq j j = true from Nat.beq_refl j, Bool.true_and] at h4
      have := frLong_ok h4 u2
      have : u.category ≠ 2 := of_decide_eq_false this
      rw [beq_eq_false_iff_ne.mpr this, Bool.and_false]
    · rw [beq_eq_false_iff_ne.mpr g, Bool.false_and]
  rw [e1, e2]
  rfl
/-- handlers -/
noncomputable def frHd (k : Nat) (su : Nat × frS → Bool) (ls : List (Nat × frV)) (hh : List (Nat × Nat × Nat × Nat)) : Bool := hh.all (fun q => match mjAtI k q.2.2.1 with
  | some (.astore_n j, _) => su (q.2.2.1 + 1, (frDel j ls, []))
  | some (.astore j, _) => su (q.2.2.1 + 2, (frDel j ls, []))
  | _ => false)
noncomputable def frNp (a : Nat) : Option Nat := match mjM a with
  | some (_, _, _, _, _, np, stt) => some (if stt then np else np + 1)
  | none => none
noncomputable def frHh (k : Nat) : List (Nat × Nat × Nat × Nat) := match mjM k with
  | some (_, _, _, _, hh, _, _) => hh
  | none => []
noncomputable def frCa (CTS : List frMt) (M : frMt) (su : Nat × frS → Bool) (x : mjX) (pc : Nat) (s : frS) : Bool := match frCl M.2.2.2.2.2.1 pc with
  | none => false
  | some i => match CTS[i]? with
    | none => false
    | some C => (Nat.beq C.1 x.2.2.1 && frSub C.2.2.1 M.2.2.1) && ((match C.2.2.2.2.2.2 with | [] => true | _ => false) && match frNp C.1 with
      | none => false
      | some g => (frSu C.2.2.2.2.1 (0, (frAg 0 (s.2.take g).reverse, [])) && su (pc + 3, (s.1, C.2.2.2.1.toList ++ s.2.drop g))) && frHd M.1 su s.1 (frHh M.1))
noncomputable def frCk (CTS : List frMt) (M : frMt) (su : Nat × frS → Bool) (pc : Nat) (s : frS) : Bool := match mjAtI M.1 pc with
  | none => false
  | some x => match x.1 with
    | .ireturn => (match s.2, M.2.2.2.1 with | [a], some b => frLe a b | _, _ => false)
    | .lreturn => (match s.2, M.2.2.2.1 with | [a], some b => frLe a b | _, _ => false)
    | .areturn => (match s.2, M.2.2.2.1 with | [a], some b => frLe a b | _, _ => false)
    | .return_ => (match M.2.2.2.1 with | none => true | some _ => false)
    | .new _ => !Nat.beq x.2.2.2.1 0
    | .invokespecial _ => (match Nat.beq x.2.2.1 998 with
      | true => su (pc + 3, (s.1, s.2.drop 1))
      | false => frCa CTS M su x pc s)
    | .invokevirtual _ => (match Nat.beq x.2.2.1 900 with
      | true => su (pc + 3, (s.1, .inr false :: s.2.drop 1))
      | false => (match Nat.beq x.2.2.1 901 with
        | true => su (pc + 3, (s.1, .inr false :: s.2.drop 2))
        | false => frCa CTS M su x pc s))
    | .invokestatic _ => (match Nat.beq x.2.2.1 902 || Nat.beq x.2.2.1 903 with
      | true => su (pc + 3, (s.1, .inr false :: s.2.drop 2))
      | false => frCa CTS M su x pc s)
    | _ => (match frTr1 x pc s with
      | some l => l.all su
      | none => (match frTr2 M.2.2.1 x pc s with
        | some t => su t
        | none => false))
/-- on from here, to the places of the table -/
noncomputable def frWk (CTS : List frMt) (M : frMt) : Nat → Nat × frS → Bool
  | 0, t => frSu M.2.2.2.2.1 t
  | n + 1, t => match frEn M.2.2.2.2.1 t.1 with
    | some u => frSLe t.2 u
    | none => frCk CTS M (frWk CTS M n) t.1 t.2
def frSt0 (M : frMt) (pc : Nat) : Bool := M.2.2.2.2.2.2.any (fun q => Nat.beq q pc)
noncomputable def frOk1 (CTS : List frMt) (M : frMt) : Bool := M.2.2.2.2.1.all (fun q => frSt0 M q.1 || frCk CTS M (frWk CTS M 400) q.1 q.2)
noncomputable def frAll (CTS : List frMt) : Bool := CTS.all (frOk1 CTS)
/-- what holds of how it ends -/
def frEd (M : frMt) (H : mjH) (r : Option Value ⊕ Nat) (H' : mjH) : Prop := HT H' ∧ frFr M.2.2.1 H H' ∧ ∀ cv, r = .inl cv → match cv, M.2.2.2.1 with
  | some v, some a => frR a v
  | none, none => True
  | _, _ => False
/-- it ends, or comes to a stop -/
def frRs (M : frMt) (m : Nat) (sc : Option (List Int32)) (H : mjH) (r : Option Value ⊕ Nat) (H' : mjH) : Prop := frEd M H r H' ∨ ∃ (p m' : Nat) (s : frS) (L : mjL) (S : List Value) (H2 : mjH), frSt0 M p = true ∧ frEn M.2.2.2.2.1 p = some s ∧ m' ≤ m ∧ frLR s.1 L ∧ frSR s.2 S ∧ HT H2 ∧ frFr M.2.2.1 H H2 ∧ Pn sc m' M.1 p L S H2 r H'
theorem frRs.up {M : frMt} {m m' : Nat} {sc : Option (List Int32)} {H H1 : mjH} {r : Option Value ⊕ Nat} {H' : mjH} (h : frRs M m' sc H1 r H') (hF : frFr M.2.2.1 H H1) (hm : m' ≤ m) : frRs M m sc H r H' := by
  rcases h with ⟨h1, h2, h3⟩ | ⟨p, m2, s, L, S, H2, a1, a2, a3, a4, a5, a6, a7, a8⟩
  · exact Or.inl ⟨h1, hF.tr h2, h3⟩
  · exact Or.inr ⟨p, m2, s, L, S, H2, a1, a2, Nat.le_trans a3 hm, a4, a5, a6, hF.tr a7, a8⟩
theorem mjRv_ok {i : Instr} {ret : Option FieldType} {S : List Value} {v : Option Value} (hi : i = .ireturn ∨ i = .lreturn ∨ i = .areturn) (h : mjRv i ret S = some v) : ∃ w, S = [w] ∧ v = some w := by
  rcases hi with rfl | rfl | rfl
  all_goals
    unfold mjRv at h
    dsimp only at h
    split at h
    · split at h
      all_goals first
        | (split at h <;> first | (cases h; exact ⟨_, rfl, rfl⟩) | (cases h; done))
        | (cases h; exact ⟨_, rfl, rfl⟩)
        | (cases h; done)
    · cases h
theorem mjCatch_in {k pc E hpc : Nat} {hh : List (Nat × Nat × Nat × Nat)} : ∀ {l : List ((Nat × Nat × Nat × Nat) × (Nat × Nat))}, (∀ q, q ∈ l → q.1 ∈ hh) → mjCatch l pc E = some hpc → ∃ q, q ∈ hh ∧ q.2.2.1 = hpc
  | [], _, h => by cases h
  | q :: r, hl, h => by
    unfold mjCatch at h
    split at h
    · cases h
      exact ⟨q.1, hl q List.mem_cons_self, rfl⟩
    · exact mjCatch_in (k := k) (fun q hq => hl q (List.mem_cons_of_mem _ hq)) h
end FR3

/-! AJ: one step -/
section AJSTEP
abbrev aFr : Type := Nat × Nat × Nat × Nat × aL × List aV
abbrev aSt : Type := List aFr × Nat × Nat × Nat × aL × List aV × aH × Nat × Nat
abbrev aEnd : Type := Option aV × aH × Nat × Nat
abbrev aRs : Type := Option (aSt ⊕ aEnd)
abbrev aKt : Type := List aFr → Nat → aL → List aV → aH → Nat → Nat → aRs
def aFc {α : Type} (n : Nat) (f : Nat → α) : α := match n with
  | 0 => f 0
  | m + 1 => f (m + 1)
theorem aFc_eq {α : Type} (n : Nat) (f : Nat → α) : aFc n f = f n := by cases n <;> rfl
def aFR (a : aFr) (c : cFr) : Prop := (a.1 = c.1 ∧ a.2.1 = c.2.1 ∧ a.2.2.1 = c.2.2.1 ∧ a.2.2.2.1 = c.2.2.2.1) ∧ aLR a.2.2.2.2.1 c.2.2.2.2.1 ∧ aSR a.2.2.2.2.2 c.2.2.2.2.2
def aGR : List aFr → List cFr → Prop
  | [], [] => True
  | a :: as, c :: cs => aFR a c ∧ aGR as cs
  | _, _ => False
def aPop (v : Option aV) (F : List aFr) (hp : aH) (C S : Nat) : aRs := match F with
  | [] => some (.inr (v, hp, C, S))
  | (d, k, pc, n, ls, rest) :: F' => if n ≤ hp.1 then some (.inl (F', d, k, pc + 3, ls, v.toList ++ rest, hp, C, S)) else none
noncomputable def aThrow : List aFr → Nat → aH → Nat → Nat → aRs
  | [], _, _, _, _ => none
  | (d, k, pc, n, ls, rest) :: F', E, hp, C, S => if n ≤ hp.1 then (match mjCatch ((mjHh k).zip (mjHd k)) pc E with
      | none => aThrow F' E hp C S
      | some hpc => match mjAtI k hpc with
        | some (.astore_n j, _) => some (.inl (F', d, k, hpc + 1, aDel (j : Nat) ls, [], hp, C, S))
        | some (.astore j, _) => some (.inl (F', d, k, hpc + 2, aDel j ls, [], hp, C, S))
        | _ => none) else none
def aNar (ty : FieldType) (a : aV) : Bool := match a with
  | .inl (.int v) => decide (narrow ty (.int v) = .int v)
  | .inr (false, _, _) => match ty with | .int => true | _ => false
  | _ => false
def aFrs (ci N : Nat) : aC := (ci, N, aChN (N / 32 + 1) ((List.range N).map (fun j => .inl (defaultValue (mjTy ci j)))))
def aZr (t n : Nat) : aC := (t, n, aRep n (.inl (defaultValue (mjAty t))))
def aOut (h N : Nat) : aC := (106, N, aChN (N / 32 + 1) ((List.range N).map (fun j => .inl (.ref (h + 1 + j)))))
noncomputable def aRecv (i : Instr) (own : String) (as : List aV) (hp : aH) : Bool := match i with
  | .invokevirtual _ => match as with
    | .inl (.ref o) :: _ => match aHget hp o with
      | some c => match vwCl[c.1]? with
        | some r => decide (r.1 = own)
        | none => false
      | none => false
    | _ => false
  | .invokespecial _ => match as with
    | .inl (.ref _) :: _ => true
    | _ => false
  | _ => true
noncomputable def aCall (k pc : Nat) (i : Instr) (a : Nat) : Option aKt := match mjM a with
  | none => none
  | some (y2, nL2, ret2, own2, hh2, np2, stt2) => if a = mjLaw then none else some (fun F d ls st hp C S =>
      if (if stt2 then np2 else np2 + 1) ≤ st.length then (match d with
        | 0 => none
        | d' + 1 => if ((st.drop (if stt2 then np2 else np2 + 1)).map aCat).sum ≤ 8 ∧ aRecv i own2 (st.take (if stt2 then np2 else np2 + 1)).reverse hp = true ∧ ((st.take (if stt2 then np2 else np2 + 1)).reverse.map aCat).sum ≤ nL2 ∧ aScA hp.1 0 ls (st.drop (if stt2 then np2 else np2 + 1)) = true then
            some (.inl ((d' + 1, k, pc, hp.1, ls, st.drop (if stt2 then np2 else np2 + 1)) :: F, d', a, 0, aArgs 0 (st.take (if stt2 then np2 else np2 + 1)).reverse, [], hp, C, S)) else none)
      else none)
def aNew1 (k p : Nat) (c : aC) (N : Nat) : aKt := fun F d ls st hp C S => if aScA hp.1 1 ls st = true then (match aPush2 hp.2 hp.1 c with
  | some l' => some (.inl (F, d, k, p, ls, .inl (.ref hp.1) :: st, (hp.1 + 1, l'), C + 1, S + N))
  | none => none) else none
def aNewA (k p t : Nat) : aKt := fun F d ls st hp C S => match st with
  | .inl (.int n) :: r => if ¬ n < 0 ∧ n.toNatClampNeg ≤ 100000 then aNew1 k p (aZr (100 + t) n.toNatClampNeg) n.toNatClampNeg F d ls r hp C S else none
  | _ => none
def aNewM (k p : Nat) : aKt := fun F d ls st hp C S => match st with
  | .inl (.int m) :: .inl (.int n) :: r => if (¬ n < 0 ∧ n.toNatClampNeg ≤ 100000) ∧ (¬ m < 0 ∧ m.toNatClampNeg ≤ 100000) ∧ aScA hp.1 (1 + n.toNatClampNeg) ls r = true then
      (match aPush2 hp.2 hp.1 (aOut hp.1 n.toNatClampNeg) with
      | some l1 => match aPushN n.toNatClampNeg l1 (hp.1 + 1) (aZr 100 m.toNatClampNeg) with
        | some l2 => some (.inl (F, d, k, p, ls, .inl (.ref hp.1) :: r, (hp.1 + 1 + n.toNatClampNeg, l2), C + (1 + n.toNatClampNeg), S + (n.toNatClampNeg + n.toNatClampNeg * m.toNatClampNeg)))
        | none => none
      | none => none) else none
  | _ => none
def aMath (k p : Nat) (f : Int32 → Int32 → Int32) : aKt := fun F d ls st hp C S => match st with
  | y :: x :: r => if (r.map aCat).sum ≤ 8 then (match aB32 f y x with | some v => some (.inl (F, d, k, p, ls, v :: r, hp, C, S)) | none => none) else none
  | _ => none
noncomputable def aStepI (scr : Option (List aV)) (k pc : Nat) (x : mjX) : Option aKt := match mjM k with
  | none => none
  | some (y, nL, ret, own, hh, np, stt) => match x.1 with
    | .ireturn => match ret with
      | some ty => some (fun F d ls st hp C S => match st with | [a] => if aNar ty a = true then aPop (some a) F hp C S else none | _ => none)
      | none => none
    | .lreturn => if ret = some .long then some (fun F d ls st hp C S => match st with | [a] => if aK a = 1 then aPop (some a) F hp C S else none | _ => none) else none
    | .areturn => match ret with
      | some (.object _) => some (fun F d ls st hp C S => match st with | [a] => if aK a = 2 then aPop (some a) F hp C S else none | _ => none)
      | _ => none
    | .return_ => if ret = none then some (fun F d ls st hp C S => match st with | [] => aPop none F hp C S | _ => none) else none
    | .new _ => if x.2.2.2.1 = 0 then (match vwCl[x.2.2.1]? with | some r => some (aNew1 k (pc + 3) (aFrs x.2.2.1 r.2.2) r.2.2) | none => none)
      else if mjThr k pc hh x.2.2.1 = true then some (fun F d ls st hp C S => if (st.map aCat).sum ≤ 8 then aThrow F x.2.2.1 hp (C + 1) (S + 6) else none) else none
    | .newarray _ => some (aNewA k (pc + 2) x.2.2.1)
    | .anewarray _ => some (aNewA k (pc + 3) x.2.2.1)
    | .multianewarray _ _ => some (aNewM k (pc + 4))
    | .invokespecial i => if x.2.2.1 = 998 then some (fun F d ls st hp C S => match st with
        | v :: r => if aK v = 2 ∧ (r.map aCat).sum ≤ 8 then some (.inl (F, d, k, pc + 3, ls, r, hp, C, S)) else none
        | _ => none) else aCall k pc (.invokespecial i) x.2.2.1
    | .invokevirtual i => if x.2.2.1 = 900 ∨ x.2.2.1 = 901 then none else aCall k pc (.invokevirtual i) x.2.2.1
    | .invokestatic i => if x.2.2.1 = 902 then some (aMath k (pc + 3) (fun x y => if x < y then y else x)) else if x.2.2.1 = 903 then some (aMath k (pc + 3) (fun x y => if y < x then y else x)) else aCall k pc (.invokestatic i) x.2.2.1
    | _ => match aAlu x.1 pc x.2.2.2.1 with
      | some G => some (fun F d ls st hp C S => match G ls st with | some (pc', ls', st') => some (.inl (F, d, k, pc', ls', st', hp, C, S)) | none => none)
      | none => match aHp scr x pc with
        | some G => some (fun F d ls st hp C S => match G st hp with | some (pc', st', hp') => some (.inl (F, d, k, pc', ls, st', hp', C, S)) | none => none)
        | none => none
noncomputable def aStepAt (scr : Option (List aV)) (k pc : Nat) : Option aKt := match mjAtI k pc with
  | some x => aStepI (mjSco scr k) k pc x
  | none => none
theorem aFrs_r (ci N : Nat) : aCR (aFrs ci N) (mjFresh ci N) := by
  refine ⟨rfl, by simp [aFrs, mjFresh], fun j v hj => ?_⟩
  have hl : j < N := by simpa [mjFresh] using (List.getElem?_eq_some_iff.mp hj).1
  refine ⟨.inl v, ?_, rfl⟩
  show aGet2 (aChN (N / 32 + 1) _) j = _
  rw [aChN_get _ _ _ (by omega)]
  simp only [mjFresh, List.getElem?_map, List.getElem?_range hl, Option.map_some, Option.some.injEq] at hj ⊢
  rw [hj]
theorem aZr_r (t n : Nat) : aCR (aZr t n) (mjZero t n) := by
  refine ⟨rfl, by simp [aZr, mjZero], fun j v hj => ?_⟩
  have hl : j < n := by simpa [mjZero] using (List.getElem?_eq_some_iff.mp hj).1
  refine ⟨_, aRep_get hl, ?_⟩
  simp only [mjZero, List.getElem?_replicate, if_pos hl, Option.some.injEq] at hj
  exact hj.symm
theorem aOut_r (h N : Nat) : aCR (aOut h N) (106, (List.range N).map (fun j => Value.ref (h + 1 + j))) := by
  refine ⟨rfl, by simp [aOut], fun j v hj => ?_⟩
  have hl : j < N := by simpa using (List.getElem?_eq_some_iff.mp hj).1
  refine ⟨.inl v, ?_, rfl⟩
  show aGet2 (aChN (N / 32 + 1) _) j = _
  rw [aChN_get _ _ _ (by omega)]
  simp only [List.getElem?_map, List.getElem?_range hl, Option.map_some, Option.some.injEq] at hj ⊢
  rw [hj]
theorem aNar_ok {ty : FieldType} {a : aV} {v : Value} (h : aNar ty a = true) (hv : aVR a v) : ∃ x : Int32, v = .int x ∧ narrow ty (.int x) = .int x := by
  unfold aNar at h
  split at h
  · rename_i x
    exact ⟨x, hv, of_decide_eq_true h⟩
  · obtain ⟨x, rfl, -⟩ := hv
    split at h
    · exact ⟨x, rfl, rfl⟩
    · cases h
  · cases h
variable {scrA : Option (List aV)} {scr : Option (List Int32)} {k pc d C S : Nat} {F : List aFr} {cF : List cFr} {ls : aL} {st : List aV} {hp : aH} {cl : mjL} {cs : List Value} {H : mjH} {r : aSt ⊕ aEnd} {Z : mjO → Prop}
/-- what a step must give -/
def aOR : Option aV → Option Value → Prop
  | none, none => True
  | some a, some w => aVR a w
  | _, _ => False
def aGood (Z : mjO → Prop) (scr : Option (List Int32)) (P : Prop) (r : aSt ⊕ aEnd) : Prop := match r with
  | .inr (v, hp', C', S') => ∃ (cv : Option Value) (H' : mjH), aOR v cv ∧ aHR hp' H' ∧ (Z (.inl cv, H', C', S') → P)
  | .inl (F', d', k', pc', ls', st', hp', C', S') => ∃ (cF' : List cFr) (cl' : mjL) (cs' : List Value) (H' : mjH), aGR F' cF' ∧ aLR ls' cl' ∧ aSR st' cs' ∧ aHR hp' H' ∧ (mjRn Z scr cF' d' k' pc' cl' cs' H' C' S' → P)
theorem aGood.imp {P Q : Prop} (h : aGood Z scr P r) (hpq : P → Q) : aGood Z scr Q r := by
  unfold aGood at h ⊢
  split at h
  · obtain ⟨a, b, e1, e2, e3⟩ := h
    exact ⟨a, b, e1, e2, fun z => hpq (e3 z)⟩
  · obtain ⟨a, b, c, d, e1, e2, e3, e4, e5⟩ := h
    exact ⟨a, b, c, d, e1, e2, e3, e4, fun z => hpq (e5 z)⟩
theorem aPop_ok {v : Option aV} {cv : Option Value} (h : aPop v F hp C S = some r) (hv : aOR v cv) (hF : aGR F cF) (hh : aHR hp H) : aGood Z scr (mjFin Z scr cF C S (.inl cv, H, 0, 0)) r := by
  cases F with
  | nil =>
    cases cF with
    | cons _ _ => exact hF.elim
    | nil =>
      cases h
      exact ⟨cv, H, hv, hh, id⟩
  | cons q F' =>
    obtain ⟨d0, k0, pc0, n0, ls0, rest0⟩ := q
    cases cF with
    | nil => exact hF.elim
    | cons c cF' =>
      obtain ⟨d1, k1, pc1, n1, ls1, rest1⟩ := c
      obtain ⟨⟨⟨e1, e2, e3, e4⟩, e5, e6⟩, e7⟩ := hF
      dsimp only at e1 e2 e3 e4 e5 e6
      subst e1 e2 e3 e4
      have h' : (if n0 ≤ hp.1 then some (Sum.inl (F', d0, k0, pc0 + 3, ls0, v.toList ++ rest0, hp, C, S)) else none) = some r := h
      by_cases hn : n0 ≤ hp.1
      · rw [if_pos hn] at h'
        cases h'
        refine ⟨cF', ls1, cv.toList ++ rest1, H, e7, e5, aSR_app ?_ e6, hh, fun z => mjFin.ret (by rw [← hh.1]; exact hn) z⟩
        cases v <;> cases cv
        · exact trivial
        · exact hv.elim
        · exact hv.elim
        · exact ⟨hv, trivial⟩
      · rw [if_neg hn] at h'
        cases h'
theorem aThrow_ok {E c s : Nat} : ∀ {F : List aFr} {cF : List cFr}, aThrow F E hp (C + c) (S + s) = some r → aGR F cF → aHR hp H → aGood Z scr (mjFin Z scr cF C S (.inr E, H, c, s)) r
  | [], _, h, _, _ => by cases h
  | (d0, k0, pc0, n0, ls0, rest0) :: F', cF, h, hF, hh => by
    cases cF with
    | nil => exact hF.elim
    | cons q cF' =>
      obtain ⟨d1, k1, pc1, n1, ls1, rest1⟩ := q
      obtain ⟨⟨⟨e1, e2, e3, e4⟩, e5, e6⟩, e7⟩ := hF
      dsimp only at e1 e2 e3 e4 e5 e6
      subst e1 e2 e3 e4
      unfold aThrow at h
      split at h
      · rename_i hn
        rw [hh.1] at hn
        split at h
        · rename_i hc
          exact (aThrow_ok h e7 hh).imp (fun z => mjFin.pass hn hc z)
        · rename_i hpc hc
          split at h
          · rename_i j z hj
            cases h
            exact ⟨cF', _, [], H, e7, aLR_del e5, trivial, hh, fun z0 => mjFin.catch hn hc (Or.inl ⟨j, z, hj, rfl, rfl⟩) z0⟩
          · rename_i j z hj
            cases h
            exact ⟨cF', _, [], H, e7, aLR_del e5, trivial, hh, fun z0 => mjFin.catch hn hc (Or.inr ⟨z, hj, rfl⟩) z0⟩
          · cases h
      · cases h
end AJSTEP

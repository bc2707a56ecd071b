/-! AJ: many steps -/
section AJGO
noncomputable def aApp (g : Option aKt) (F : List aFr) (d : Nat) (ls : aL) (st : List aV) (hp : aH) (C S : Nat) : aRs := match g with
  | none => none
  | some g => g F d ls st hp C S
noncomputable def aOneK (scrA : Option (List aV)) (F : List aFr) (d k pc : Nat) (ls : aL) (st : List aV) (hp : aH) (C S : Nat) : aRs := aFc k fun k => aFc pc fun pc => aApp (aStepAt scrA k pc) F d ls st hp C S
noncomputable def aOne (scrA : Option (List aV)) (s : aSt) : aRs := match s with
  | (F, d, k, pc, ls, st, hp, C, S) => aOneK scrA F d k pc ls st hp C S
noncomputable def aGo (scrA : Option (List aV)) (n : Nat) : aSt → Bool := Nat.rec (fun _ => false) (fun _ ih s => match aOne scrA s with
  | some (.inr (some (.inl (.int z)), _, C, S)) => decide (z = 1 ∧ C ≤ 601024 ∧ S ≤ 7293034)
  | some (.inl s') => ih s'
  | _ => false) n
/-- to the end, with what it ends with -/
noncomputable def aFin (scrA : Option (List aV)) (n : Nat) : aSt → Option aEnd := Nat.rec (fun _ => none) (fun _ ih s => match aOne scrA s with
  | some (.inr e) => some e
  | some (.inl s') => ih s'
  | none => none) n
/-- the answer 1 within the room -/
def mjZ1 (o : mjO) : Prop := o.1 = .inl (some (.int 1)) ∧ o.2.2.1 ≤ 601024 ∧ o.2.2.2 ≤ 7293034
noncomputable def aSeg (scrA : Option (List aV)) (n : Nat) : aSt → Option aSt := Nat.rec (fun s => some s) (fun _ ih s => match aOne scrA s with
  | some (.inl s') => ih s'
  | _ => none) n
def aRel (s : aSt) (cF : List cFr) (cl : mjL) (cs : List Value) (H : mjH) : Prop := aGR s.1 cF ∧ aLR s.2.2.2.2.1 cl ∧ aSR s.2.2.2.2.2.1 cs ∧ aHR s.2.2.2.2.2.2.1 H
def mjRs (Z : mjO → Prop) (scr : Option (List Int32)) (s : aSt) (cF : List cFr) (cl : mjL) (cs : List Value) (H : mjH) : Prop := mjRn Z scr cF s.2.1 s.2.2.1 s.2.2.2.1 cl cs H s.2.2.2.2.2.2.2.1 s.2.2.2.2.2.2.2.2
variable {scrA : Option (List aV)} {scr : Option (List Int32)} {Z : mjO → Prop}
theorem aOne_ok {s : aSt} {r : aSt ⊕ aEnd} {cF : List cFr} {cl : mjL} {cs : List Value} {H : mjH} (h : aOne scrA s = some r) (hR : aRel s cF cl cs H) (hX : aXR scrA scr) : aGood Z scr (mjRs Z scr s cF cl cs H) r := by
  obtain ⟨F, d, k, pc, ls, st, hp, C, S⟩ := s
  unfold aOne at h
  dsimp only at h
  unfold aOneK aApp at h
  rw [aFc_eq, aFc_eq] at h
  split at h
  · cases h
  · rename_i g hg
    exact aStepAt_ok hg h hR.1 hR.2.1 hR.2.2.1 hR.2.2.2 hX
theorem aGo_ok (hX : aXR scrA scr) : ∀ (n : Nat) {s : aSt} {cF : List cFr} {cl : mjL} {cs : List Value} {H : mjH}, aGo scrA n s = true → aRel s cF cl cs H → mjRs mjZ1 scr s cF cl cs H
  | 0, s, cF, cl, cs, H, h, hR => by cases h
  | n + 1, s, cF, cl, cs, H, h, hR => by
    have h' : (match aOne scrA s with
      | some (.inr (some (.inl (.int z)), _, C, S)) => decide (z = 1 ∧ C ≤ 601024 ∧ S ≤ 7293034)
      | some (.inl s') => aGo scrA n s'
      | _ => false) = true := h
    split at h'
    · rename_i z hp' C S e
      obtain ⟨cv, H', e1, e2, e3⟩ := aOne_ok (Z := mjZ1) e hR hX
      cases cv with
      | none => exact e1.elim
      | some w =>
        cases (show w = .int z from e1)
        have hz := of_decide_eq_true h'
        exact e3 ⟨by rw [hz.1], hz.2.1, hz.2.2⟩
    · rename_i s' e
      obtain ⟨cF', cl', cs', H', e1, e2, e3, e4, e5⟩ := aOne_ok (Z := mjZ1) e hR hX
      exact e5 (aGo_ok hX n (s := s') h' ⟨e1, e2, e3, e4⟩)
    · cases h'
theorem aFin_ok (hX : aXR scrA scr) : ∀ (n : Nat) {s : aSt} {e : aEnd} {cF : List cFr} {cl : mjL} {cs : List Value} {H : mjH}, aFin scrA n s = some e → aRel s cF cl cs H → ∃ (cv : Option Value) (H' : mjH), aOR e.1 cv ∧ aHR e.2.1 H' ∧ (Z (.inl cv, H', e.2.2.1, e.2.2.2) → mjRs Z scr s cF cl cs H)
  | 0, s, e, cF, cl, cs, H, h, hR => by cases h
  | n + 1, s, e, cF, cl, cs, H, h, hR => by
    have h' : (match aOne scrA s with
      | some (.inr e) => some e
      | some (.inl s') => aFin scrA n s'
      | none => none) = some e := h
    split at h'
    · rename_i e9 h9
      cases h'
      obtain ⟨v, hp', C, S⟩ := e
      obtain ⟨cv, H', e1, e2, e3⟩ := aOne_ok (Z := Z) h9 hR hX
      exact ⟨cv, H', e1, e2, e3⟩
    · rename_i s' h9
      obtain ⟨cF', cl', cs', H', e1, e2, e3, e4, e5⟩ := aOne_ok (Z := Z) h9 hR hX
      obtain ⟨cv, H2, e6, e7, e8⟩ := aFin_ok hX n (s := s') h' ⟨e1, e2, e3, e4⟩
      exact ⟨cv, H2, e6, e7, fun z => e5 (e8 z)⟩
    · cases h'
theorem aSeg_ok (hX : aXR scrA scr) : ∀ (n : Nat) {s s' : aSt} {cF : List cFr} {cl : mjL} {cs : List Value} {H : mjH}, aSeg scrA n s = some s' → aRel s cF cl cs H → ∃ (cF' : List cFr) (cl' : mjL) (cs' : List Value) (H' : mjH), aRel s' cF' cl' cs' H' ∧ (mjRs Z scr s' cF' cl' cs' H' → mjRs Z scr s cF cl cs H)
  | 0, s, s', cF, cl, cs, H, h, hR => by cases h; exact ⟨cF, cl, cs, H, hR, id⟩
  | n + 1, s, s', cF, cl, cs, H, h, hR => by
    have h' : (match aOne scrA s with
      | some (.inl s1) => aSeg scrA n s1
      | _ => none) = some s' := h
    split at h'
    · rename_i s1 e
      obtain ⟨cF1, cl1, cs1, H1, e1, e2, e3, e4, e5⟩ := aOne_ok (Z := Z) e hR hX
      obtain ⟨cF', cl', cs', H', e6, e7⟩ := aSeg_ok hX n (s := s1) h' ⟨e1, e2, e3, e4⟩
      exact ⟨cF', cl', cs', H', e6, fun z => e5 (e7 z)⟩
    · cases h'
def aS0 : aSt := ([], 2040, mjLaw, 0, [(0, .inl (.ref mjScr))], [], (0, []), 0, 0)
end AJGO

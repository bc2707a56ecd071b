/-! AJ: a call once and for all -/
section AJSUB
def aLeV (a b : aV) : Bool := match b with
  | .inl w => match a with
    | .inl v => decide (v = w)
    | _ => false
  | .inr (false, lo, hi) => Nat.beq (aK a) 0 && decide (lo ≤ (aRg a).1 ∧ (aRg a).2 ≤ hi)
  | .inr (true, lo, hi) => Nat.beq (aK a) 1 && decide (lo ≤ (aRg a).1 ∧ (aRg a).2 ≤ hi)
theorem aLeV_ok {a b : aV} {v : Value} (h : aLeV a b = true) (hv : aVR a v) : aVR b v := by
  match b, h with
  | .inl w, h =>
    match a, h, hv with
    | .inl u, h, hv => exact (show v = w from (show v = u from hv).trans (of_decide_eq_true (p := u = w) h))
  | .inr (false, lo, hi), h =>
    unfold aLeV at h
    simp only [Bool.and_eq_true, decide_eq_true_eq] at h
    obtain ⟨x, rfl⟩ := aK0 hv (Nat.eq_of_beq_eq_true h.1)
    have := aRg0 hv
    exact ⟨x, rfl, by omega, by omega⟩
  | .inr (true, lo, hi), h =>
    unfold aLeV at h
    simp only [Bool.and_eq_true, decide_eq_true_eq] at h
    obtain ⟨x, rfl⟩ := aK1 hv (Nat.eq_of_beq_eq_true h.1)
    have := aRg1 hv
    exact ⟨x, rfl, by omega, by omega⟩
def aLeL {α : Type} (le : α → α → Bool) : List α → List α → Bool
  | [], [] => true
  | a :: as, b :: bs => le a b && aLeL le as bs
  | _, _ => false
theorem aLeL_get {α : Type} {le : α → α → Bool} : ∀ {as bs : List α} {i : Nat} {a : α}, aLeL le as bs = true → as[i]? = some a → ∃ b, bs[i]? = some b ∧ le a b = true
  | [], bs, i, a, _, h => by cases h
  | a0 :: as, [], i, a, h, _ => by cases h
  | a0 :: as, b0 :: bs, 0, a, h, h2 => by
    unfold aLeL at h
    rw [Bool.and_eq_true] at h
    cases h2
    exact ⟨b0, rfl, h.1⟩
  | a0 :: as, b0 :: bs, i + 1, a, h, h2 => by
    unfold aLeL at h
    rw [Bool.and_eq_true] at h
    exact aLeL_get (as := as) (bs := bs) (i := i) h.2 h2
theorem aLe2_get {α : Type} {le : α → α → Bool} {as bs : List (List α)} {i : Nat} {a : α} (h : aLeL (aLeL le) as bs = true) (hg : aGet2 as i = some a) : ∃ b, aGet2 bs i = some b ∧ le a b = true := by
  rw [aGet2_def] at hg ⊢
  split at hg
  · rename_i c hc
    obtain ⟨c', h1, h2⟩ := aLeL_get h hc
    rw [h1]
    exact aLeL_get h2 hg
  · cases hg
def aLeC (c c' : aC) : Bool := Nat.beq c.1 c'.1 && (Nat.beq c.2.1 c'.2.1 && aLeL (aLeL aLeV) c.2.2 c'.2.2)
def aLeH (h h' : aH) : Bool := Nat.beq h.1 h'.1 && aLeL (aLeL aLeC) h.2 h'.2
theorem aLeC_ok {c c' : aC} {e : mjE} (h : aLeC c c' = true) (hc : aCR c e) : aCR c' e := by
  unfold aLeC at h
  rw [Bool.and_eq_true, Bool.and_eq_true] at h
  obtain ⟨h1, h2, h3⟩ := h
  have h1 := Nat.eq_of_beq_eq_true h1
  have h2 := Nat.eq_of_beq_eq_true h2
  refine ⟨by rw [← h1]; exact hc.1, by rw [← h2]; exact hc.2.1, fun j v hj => ?_⟩
  obtain ⟨a, h4, h5⟩ := hc.2.2 j v hj
  obtain ⟨b, h6, h7⟩ := aLe2_get h3 h4
  exact ⟨b, h6, aLeV_ok h7 h5⟩
theorem aLeH_ok {h h' : aH} {H : mjH} (hl : aLeH h h' = true) (hh : aHR h H) : aHR h' H := by
  unfold aLeH at hl
  rw [Bool.and_eq_true] at hl
  have h1 := Nat.eq_of_beq_eq_true hl.1
  refine ⟨by rw [← h1]; exact hh.1, fun i e he => ?_⟩
  obtain ⟨c, h2, h3⟩ := hh.2 i e he
  obtain ⟨c', h4, h5⟩ := aLe2_get hl.2 h2
  exact ⟨c', h4, aLeC_ok h5 h3⟩
def aLeA (p q : Nat × aV) : Bool := Nat.beq p.1 q.1 && aLeV p.2 q.2
theorem aLeA_ok : ∀ {as bs : aL} {vs : mjL}, aLeL aLeA as bs = true → aLR as vs → aLR bs vs
  | [], [], vs, _, h => h
  | [], b :: bs, vs, h, _ => by cases h
  | a :: as, [], vs, h, _ => by cases h
  | a :: as, b :: bs, [], _, h => h.elim
  | a :: as, b :: bs, v :: vs, h, hl => by
    unfold aLeL aLeA at h
    rw [Bool.and_eq_true, Bool.and_eq_true] at h
    obtain ⟨⟨h1, h2⟩, h3⟩ := h
    exact ⟨⟨(Nat.eq_of_beq_eq_true h1).symm.trans hl.1.1, aLeV_ok h2 hl.1.2⟩, aLeA_ok (as := as) (bs := bs) h3 hl.2⟩
/-- a call: method, frames left, arguments, heap, steps -/
abbrev aCl : Type := Nat × Nat × aL × aH × Nat
noncomputable def aSum (q : aCl) : Option aEnd := aFin none q.2.2.2.2 ([], q.2.1, q.1, 0, q.2.2.1, [], q.2.2.2.1, 0, 0)
def aFit (a d : Nat) (args : aL) (hp : aH) (q : aCl) : Bool := Nat.beq q.1 a && (Nat.beq q.2.1 d && (aLeL aLeA args q.2.2.1 && aLeH hp q.2.2.2.1))
noncomputable def aSubs (qs : List aCl) (s : aSt) : Option aSt := match s with
  | ((d', k', pc', n', ls', rest) :: F', d, a, 0, args, [], hp, C, S) => match qs.find? (aFit a d args hp) with
    | some q => match aSum q with
      | some (v, hp2, c, s) => if n' ≤ hp2.1 then some (F', d', k', pc' + 3, ls', v.toList ++ rest, hp2, C + c, S + s) else none
      | none => none
    | none => none
  | _ => none
noncomputable def aSegS (qs : List aCl) (scrA : Option (List aV)) (n : Nat) : aSt → Option aSt := Nat.rec (fun s => some s) (fun _ ih s => match aSubs qs s with
  | some s' => ih s'
  | none => match aOne scrA s with
    | some (.inl s') => ih s'
    | _ => none) n
noncomputable def aGoS (qs : List aCl) (scrA : Option (List aV)) (n : Nat) : aSt → Bool := Nat.rec (fun _ => false) (fun _ ih s => match aSubs qs s with
  | some s' => ih s'
  | none => match aOne scrA s with
    | some (.inr (some (.inl (.int z)), _, C, S)) => decide (z = 1 ∧ C ≤ 601024 ∧ S ≤ 7293034)
    | some (.inl s') => ih s'
    | _ => false) n
variable {scrA : Option (List aV)} {scr : Option (List Int32)} {Z : mjO → Prop} {qs : List aCl}
theorem aSubs_ok {s s' : aSt} {cF : List cFr} {cl : mjL} {cs : List Value} {H : mjH} (h : aSubs qs s = some s') (hR : aRel s cF cl cs H) : ∃ (cF' : List cFr) (cl' : mjL) (cs' : List Value) (H' : mjH), aRel s' cF' cl' cs' H' ∧ (mjRs Z scr s' cF' cl' cs' H' → mjRs Z scr s cF cl cs H) := by
  unfold aSubs at h
  split at h
  · rename_i d' k' pc' n' ls' rest F' d a args hp C S
    split at h
    · rename_i q hq
      have hfit := List.find?_some hq
      unfold aFit at hfit
      rw [Bool.and_eq_true, Bool.and_eq_true, Bool.and_eq_true] at hfit
      obtain ⟨f1, f2, f3, f4⟩ := hfit
      have f1 := Nat.eq_of_beq_eq_true f1
      have f2 := Nat.eq_of_beq_eq_true f2
      split at h
      · rename_i v hp2 c s9 he
        split at h
        · rename_i hn
          cases h
          obtain ⟨g1, g2, g3, g4⟩ := hR
          cases aSR_n g3
          cases cF with
          | nil => exact g1.elim
          | cons cq cF' =>
            obtain ⟨d1, k1, pc1, n1, ls1, rest1⟩ := cq
            obtain ⟨⟨⟨e1, e2, e3, e4⟩, e5, e6⟩, e7⟩ := g1
            dsimp only at e1 e2 e3 e4 e5 e6
            subst e1 e2 e3 e4
            obtain ⟨cv, H', r1, r2, r3⟩ := aFin_ok (scrA := none) (scr := scr) (Z := fun o => mjFin Z scr ((d', k', pc', n', ls1, rest1) :: cF') C S o) trivial q.2.2.2.2 he (cF := []) (cl := cl) (cs := []) (H := H) ⟨trivial, aLeA_ok f3 g2, trivial, aLeH_ok f4 g4⟩
            refine ⟨cF', ls1, cv.toList ++ rest1, H', ⟨e7, e5, aSR_app ?_ e6, r2⟩, fun z => ?_⟩
            · cases v <;> cases cv
              · exact trivial
              · exact r1.elim
              · exact r1.elim
              · exact ⟨r1, trivial⟩
            · have hz := r3 (mjFin.retC (by rw [← r2.1]; exact hn) z)
              obtain ⟨f, o, o1, o2⟩ := hz
              refine ⟨f, o, ?_, ?_⟩
              · rw [← f1, ← f2]
                exact o1
              · have o3 : mjFin Z scr ((d', k', pc', n', ls1, rest1) :: cF') C S (o.1, o.2.1, 0 + o.2.2.1, 0 + o.2.2.2) := o2
                rw [Nat.zero_add, Nat.zero_add] at o3
                exact o3
        · cases h
      · cases h
    · cases h
  · cases h
theorem aSegS_ok (hX : aXR scrA scr) : ∀ (n : Nat) {s s' : aSt} {cF : List cFr} {cl : mjL} {cs : List Value} {H : mjH}, aSegS qs scrA n s = some s' → aRel s cF cl cs H → ∃ (cF' : List cFr) (cl' : mjL) (cs' : List Value) (H' : mjH), aRel s' cF' cl' cs' H' ∧ (mjRs Z scr s' cF' cl' cs' H' → mjRs Z scr s cF cl cs H)
  | 0, s, s', cF, cl, cs, H, h, hR => by cases h; exact ⟨cF, cl, cs, H, hR, id⟩
  | n + 1, s, s', cF, cl, cs, H, h, hR => by
    have h' : (match aSubs qs s with
      | some s1 => aSegS qs scrA n s1
      | none => match aOne scrA s with
        | some (.inl s1) => aSegS qs scrA n s1
        | _ => none) = some s' := h
    split at h'
    · rename_i s1 e
      obtain ⟨cF1, cl1, cs1, H1, e1, e2⟩ := aSubs_ok (Z := Z) (scr := scr) e hR
      obtain ⟨cF', cl', cs', H', e6, e7⟩ := aSegS_ok hX n (s := s1) h' e1
      exact ⟨cF', cl', cs', H', e6, fun z => e2 (e7 z)⟩
    · split at h'
      · rename_i s1 e
        obtain ⟨cF1, cl1, cs1, H1, e1, e2, e3, e4, e5⟩ := aOne_ok (Z := Z) e hR hX
        obtain ⟨cF', cl', cs', H', e6, e7⟩ := aSegS_ok hX n (s := s1) h' ⟨e1, e2, e3, e4⟩
        exact ⟨cF', cl', cs', H', e6, fun z => e5 (e7 z)⟩
      · cases h'
theorem aGoS_ok (hX : aXR scrA scr) : ∀ (n : Nat) {s : aSt} {cF : List cFr} {cl : mjL} {cs : List Value} {H : mjH}, aGoS qs scrA n s = true → aRel s cF cl cs H → mjRs mjZ1 scr s cF cl cs H
  | 0, s, cF, cl, cs, H, h, hR => by cases h
  | n + 1, s, cF, cl, cs, H, h, hR => by
    have h' : (match aSubs qs s with
      | some s1 => aGoS qs scrA n s1
      | none => match aOne scrA s with
        | some (.inr (some (.inl (.int z)), _, C, S)) => decide (z = 1 ∧ C ≤ 601024 ∧ S ≤ 7293034)
        | some (.inl s') => aGoS qs scrA n s'
        | _ => false) = true := h
    split at h'
    · rename_i s1 e
      obtain ⟨cF1, cl1, cs1, H1, e1, e2⟩ := aSubs_ok (Z := mjZ1) (scr := scr) e hR
      exact e2 (aGoS_ok hX n (s := s1) h' e1)
    · split at h'
      · rename_i z hp' C S e
        obtain ⟨cv, H', e1, e2, e3⟩ := aOne_ok (Z := mjZ1) e hR hX
        cases cv with
        | none => exact e1.elim
        | some w =>
          cases (show w = .int z from e1)
          have hz := of_decide_eq_true h'
          exact e3 ⟨by rw [hz.1], hz.2.1, hz.2.2⟩
      · rename_i s' e
        obtain ⟨cF', cl', cs', H', e1, e2, e3, e4, e5⟩ := aOne_ok (Z := mjZ1) e hR hX
        exact e5 (aGoS_ok hX n (s := s') h' ⟨e1, e2, e3, e4⟩)
      · cases h'
end AJSUB

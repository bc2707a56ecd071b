/-! FR: what a run may write, by program: kinds alone, no ranges -/
section FR
abbrev frV : Type := List Nat ⊕ Bool
def frR : frV → Value → Prop
  | .inl rs, v => ∃ n ∈ rs, v = .ref n
  | .inr false, v => ∃ x : Int32, v = .int x
  | .inr true, v => ∃ x : Int64, v = .long x
def frP : sxP → frV
  | .inl rs => .inl rs
  | .inr (b, _) => .inr b
theorem frP_ok : ∀ {p : sxP} {v : Value}, exP p v ↔ frR (frP p) v
  | .inl _, _ => Iff.rfl
  | .inr (false, _), _ => Iff.rfl
  | .inr (true, _), _ => Iff.rfl
def frMem (rs : List Nat) (n : Nat) : Bool := rs.any (fun q => Nat.beq q n)
theorem frMem_ok {rs : List Nat} {n : Nat} (h : frMem rs n = true) : n ∈ rs := by
  obtain ⟨q, h1, h2⟩ := List.any_eq_true.mp h
  rw [← Nat.eq_of_beq_eq_true h2]
  exact h1
def frLe : frV → frV → Bool
  | .inl rs, .inl ss => rs.all (frMem ss)
  | .inr b, .inr c => bEq b c
  | _, _ => false
theorem frLe_ok : ∀ {a b : frV} {v : Value}, frLe a b = true → frR a v → frR b v
  | .inl rs, .inl ss, v, h, ⟨n, h1, h2⟩ => ⟨n, frMem_ok (List.all_eq_true.mp h n h1), h2⟩
  | .inr b, .inr c, v, h, h1 => by
    rw [← bEq_ok h]
    exact h1
  | .inl _, .inr _, _, h, _ => by cases h
  | .inr _, .inl _, _, h, _ => by cases h
abbrev frS : Type := List (Nat × frV) × List frV
def frLR (ls : List (Nat × frV)) (L : mjL) : Prop := ∀ q, q ∈ ls → ∃ v, mjGet L q.1 = some v ∧ frR q.2 v
def frSR : List frV → List Value → Prop
  | [], [] => True
  | a :: as, v :: vs => frR a v ∧ frSR as vs
  | _, _ => False
theorem frSR_c {a : frV} {as : List frV} : ∀ {S : List Value}, frSR (a :: as) S → ∃ v S', S = v :: S' ∧ frR a v ∧ frSR as S'
  | [], h => h.elim
  | v :: S', h => ⟨v, S', rfl, h.1, h.2⟩
theorem frSR_n : ∀ {S : List Value}, frSR [] S → S = []
  | [], _ => rfl
  | _ :: _, h => h.elim
def frGt : List (Nat × frV) → Nat → Option frV
  | [], _ => none
  | q :: r, i => match Nat.beq q.1 i with
    | true => some q.2
    | false => frGt r i
theorem frGt_mem {i : Nat} {a : frV} : ∀ {ls : List (Nat × frV)}, frGt ls i = some a → (i, a) ∈ ls
  | [], h => by cases h
  | q :: r, h => by
    unfold frGt at h
    split at h
    · rename_i e
      cases h
      rw [← Nat.eq_of_beq_eq_true e]
      exact List.mem_cons_self
    · exact List.mem_cons_of_mem _ (frGt_mem h)
def frLong : frV → Bool
  | .inr b => b
  | .inl _ => false
theorem frLong_ok : ∀ {a : frV} {v : Value}, frLong a = false → frR a v → decide (v.category = 2) = false
  | .inl _, v, _, ⟨n, _, h⟩ => by
    rw [h]
    rfl
  | .inr false, v, _, ⟨n, h⟩ => by
    rw [h]
    rfl
  | .inr true, _, h, _ => by cases h
def frSt (two : Bool) (i : Nat) (a : frV) (ls : List (Nat × frV)) : List (Nat × frV) := (i, a) :: ls.filter (fun q => (!Nat.beq q.1 i && !(two && Nat.beq q.1 (i + 1))) && !(Nat.beq (q.1 + 1) i && frLong q.2))
theorem frSt_ok {ls : List (Nat × frV)} {L : mjL} {i : Nat} {a : frV} {v : Value} (h : frLR ls L) (ha : frR a v) : frLR (frSt false i a ls) (mjSt i v L) := by
  intro q hq
  rcases List.mem_cons.mp hq with e | hq
  · rw [e]
    exact ⟨v, gt_eq, ha⟩
  · obtain ⟨h1, h2⟩ := List.mem_filter.mp hq
    simp only [Bool.and_eq_true, Bool.not_eq_true', Bool.false_and] at h2
    obtain ⟨⟨h3, -⟩, h4⟩ := h2
    obtain ⟨u, u1, u2⟩ := h q h1
    have h3 := Nat.ne_of_beq_eq_false h3
    refine ⟨u, gt_ne u1 h3 ?_, u2⟩
    by_cases g : q.1 + 1 = i
    · rw [g] at h4
      rw [show Nat.beq i i = true from Nat.beq_refl i, Bool.true_and] at h4
      rw [frLong_ok h4 u2, Bool.and_false]
    · rw [decide_eq_false g, Bool.false_and]
theorem frSt2_ok {ls : List (Nat × frV)} {L : mjL} {i : Nat} {a : frV} {v : Value} (h : frLR ls L) (ha : frR a v) : frLR (frSt true i a ls) (mjSt2 i v L) := by
  intro q hq
  rcases List.mem_cons.mp hq with e | hq
  · rw [e]
    exact ⟨v, gt_eq2, ha⟩
  · obtain ⟨h1, h2⟩ := List.mem_filter.mp hq
    simp only [Bool.and_eq_true, Bool.not_eq_true', Bool.true_and] at h2
    obtain ⟨⟨h3, h5⟩, h4⟩ := h2
    obtain ⟨u, u1, u2⟩ := h q h1
    have h3 := Nat.ne_of_beq_eq_false h3
    have h5 := Nat.ne_of_beq_eq_false h5
    refine ⟨u, gt_ne2 u1 h3 h5 ?_, u2⟩
    by_cases g : q.1 + 1 = i
    · rw [g] at h4
      rw [show Nat.beq i i = true from Nat.beq_refl i, Bool.true_and] at h4
      rw [frLong_ok h4 u2, Bool.and_false]
    · rw [decide_eq_false g, Bool.false_and]
def frSLe (s t : frS) : Bool := (t.1.all (fun q => match frGt s.1 q.1 with | some a => frLe a q.2 | none => false)) && (Nat.beq s.2.length t.2.length && (s.2.zip t.2).all (fun q => frLe q.1 q.2))
theorem frSR_le : ∀ {s t : List frV} {S : List Value}, s.length = t.length → (∀ q, q ∈ s.zip t → frLe q.1 q.2 = true) → frSR s S → frSR t S
  | [], [], _, _, _, h => h
  | a :: as, b :: bs, S, hl, hz, h => by
    obtain ⟨v, S', rfl, h1, h2⟩ := frSR_c h
    exact ⟨frLe_ok (hz (a, b) List.mem_cons_self) h1, frSR_le (Nat.succ.inj hl) (fun q hq => hz q (List.mem_cons_of_mem _ hq)) h2⟩
  | [], _ :: _, _, hl, _, _ => by cases hl
  | _ :: _, [], _, hl, _, _ => by cases hl
theorem frSLe_ok {s t : frS} {L : mjL} {S : List Value} (h : frSLe s t = true) (h1 : frLR s.1 L) (h2 : frSR s.2 S) : frLR t.1 L ∧ frSR t.2 S := by
  unfold frSLe at h
  simp only [Bool.and_eq_true] at h
  obtain ⟨h3, h4, h5⟩ := h
  refine ⟨fun q hq => ?_, frSR_le (Nat.eq_of_beq_eq_true h4) (fun q hq => List.all_eq_true.mp h5 q hq) h2⟩
  have h6 := List.all_eq_true.mp h3 q hq
  split at h6
  · rename_i a ha
    obtain ⟨v, v1, v2⟩ := h1 _ (frGt_mem ha)
    exact ⟨v, v1, frLe_ok h6 v2⟩
  · cases h6
/-- what stands at a place; at any place -/
noncomputable def frRd (o : Nat) (j : Option Nat) : Option (List frV) := match aGet2 sxKw.1 o with
  | some c => (match Nat.blt o 579 with
    | true => (match j with
      | some j => (match aNth c.2.2.2 j with | some p => some [frP p] | none => (match c.2.2.1 with | some p => some [frP p] | none => none))
      | none => (match c.2.2.1 with
        | some p => some [frP p]
        | none => (match Nat.beq c.2.2.2.length c.2.1 with | true => some (c.2.2.2.map frP) | false => none)))
    | false => none)
  | none => none
theorem frRd_ok {H : mjH} {o t : Nat} {vs : List Value} {v : Value} {j : Nat} {jo : Option Nat} {as : List frV} (hT : HT H) (ho : H[o]? = some (t, vs)) (hv : vs[j]? = some v) (hj : jo = none ∨ jo = some j) (h : frRd o jo = some as) : ∃ a, a ∈ as ∧ frR a v := by
  unfold frRd at h
  split at h
  · rename_i c hc
    split at h
    · rename_i hb
      obtain ⟨e, e1, ⟨e2, e3⟩, e4⟩ := hT.2 o c hc (bltOk hb)
      cases ho.symm.trans e1
      dsimp only at e2 e3 e4
      obtain ⟨k1, k2⟩ := e4 j v hv
      rcases hj with rfl | rfl
      · dsimp only at h
        split at h
        · rename_i p hp
          cases h
          exact ⟨_, List.mem_singleton.mpr rfl, frP_ok.mp (k1 p hp)⟩
        · split at h
          · rename_i hl
            cases h
            have hl := Nat.eq_of_beq_eq_true hl
            have hjl : j < c.2.2.2.length := by
              have := (List.getElem?_eq_some_iff.mp hv).1
              omega
            refine ⟨frP c.2.2.2[j], List.mem_map.mpr ⟨_, List.getElem_mem hjl, rfl⟩, frP_ok.mp (k2 _ ?_)⟩
            rw [aNth_eq]
            exact List.getElem?_eq_getElem hjl
          · cases h
      · dsimp only at h
        split at h
        · rename_i p hp
          cases h
          exact ⟨_, List.mem_singleton.mpr rfl, frP_ok.mp (k2 p hp)⟩
        · split at h
          · rename_i p hp
            cases h
            exact ⟨_, List.mem_singleton.mpr rfl, frP_ok.mp (k1 p hp)⟩
          · cases h
    · cases h
  · cases h
/-- joined -/
def frJ2 : frV → frV → Option frV
  | .inl rs, .inl ss => some (.inl (rs ++ ss))
  | .inr b, .inr c => (match bEq b c with | true => some (.inr b) | false => none)
  | _, _ => none
theorem frJ2_ok {v : Value} : ∀ {a b c : frV}, frJ2 a b = some c → frR a v ∨ frR b v → frR c v
  | .inl rs, .inl ss, c, h, h1 => by
    cases h
    rcases h1 with ⟨n, n1, n2⟩ | ⟨n, n1, n2⟩
    · exact ⟨n, List.mem_append_left _ n1, n2⟩
    · exact ⟨n, List.mem_append_right _ n1, n2⟩
  | .inr b, .inr c0, c, h, h1 => by
    unfold frJ2 at h
    dsimp only at h
    split at h
    · rename_i q
      cases h
      rcases h1 with g | g
      · exact g
      · rw [bEq_ok q]
        exact g
    · cases h
  | .inl _, .inr _, _, h, _ => by cases h
  | .inr _, .inl _, _, h, _ => by cases h
def frJn : List frV → Option frV
  | [] => none
  | a :: r => match r with
    | [] => some a
    | _ :: _ => match frJn r with
      | some b => frJ2 a b
      | none => none
theorem frJn_c {a b : frV} {r : List frV} : frJn (a :: b :: r) = (match frJn (b :: r) with | some c => frJ2 a c | none => none) := rfl
theorem frJn_ok {v : Value} {a : frV} : ∀ {l : List frV} {b : frV}, frJn l = some b → a ∈ l → frR a v → frR b v
  | [], _, h, _, _ => by cases h
  | [x], b, h, ha, hv => by
    cases h
    rw [← List.mem_singleton.mp ha]
    exact hv
  | x :: y :: r, b, h, ha, hv => by
    rw [frJn_c] at h
    cases e : frJn (y :: r) with
    | none =>
      rw [e] at h
      cases h
    | some z =>
      rw [e] at h
      rcases List.mem_cons.mp ha with g | g
      · rw [g] at hv
        exact frJ2_ok h (Or.inl hv)
      · exact frJ2_ok h (Or.inr (frJn_ok e g hv))
noncomputable def frRdL (j : Option Nat) : List Nat → Option (List frV)
  | [] => some []
  | o :: r => match frRd o j, frRdL j r with
    | some a, some b => some (a ++ b)
    | _, _ => none
theorem frRdL_ok {j : Option Nat} {o : Nat} {a : frV} : ∀ {rs : List Nat} {as bs : List frV}, frRdL j rs = some bs → o ∈ rs → frRd o j = some as → a ∈ as → a ∈ bs
  | [], _, _, _, h, _, _ => by cases h
  | x :: r, as, bs, h, ho, h1, h2 => by
    unfold frRdL at h
    split at h
    · rename_i a0 b0 e1 e2
      cases h
      rcases List.mem_cons.mp ho with g | g
      · rw [g] at h1
        cases h1.symm.trans e1
        exact List.mem_append_left _ h2
      · exact List.mem_append_right _ (frRdL_ok e2 g h1 h2)
    · cases h
theorem frRdL_ex {j : Option Nat} {o : Nat} : ∀ {rs : List Nat} {bs : List frV}, frRdL j rs = some bs → o ∈ rs → ∃ as, frRd o j = some as
  | [], _, _, h => by cases h
  | x :: r, bs, h, ho => by
    unfold frRdL at h
    split at h
    · rename_i a0 b0 e1 e2
      rcases List.mem_cons.mp ho with g | g
      · rw [g]
        exact ⟨_, e1⟩
      · exact frRdL_ex e2 g
    · cases h
/-- what is read from one of these cells -/
noncomputable def frLd (rs : List Nat) (j : Option Nat) : Option frV := match frRdL j rs with
  | some l => frJn l
  | none => none
theorem frLd_ok {H : mjH} {o t : Nat} {vs : List Value} {v : Value} {j : Nat} {jo : Option Nat} {rs : List Nat} {a : frV} (hT : HT H) (ho : H[o]? = some (t, vs)) (hv : vs[j]? = some v) (hj : jo = none ∨ jo = some j) (hm : o ∈ rs) (h : frLd rs jo = some a) : frR a v := by
  unfold frLd at h
  split at h
  · rename_i l hl
    obtain ⟨as, e⟩ := frRdL_ex hl hm
    obtain ⟨b, b1, b2⟩ := frRd_ok hT ho hv hj e
    exact frJn_ok h (frRdL_ok hl hm e b1) b2
  · cases h
/-- what may be written: cells from, to; places from, to -/
abbrev frW : Type := List (Nat × Nat × Nat × Nat)
def frIn (W : frW) (a b : Nat) : Bool := W.any (fun q => (Nat.ble q.1 a && Nat.ble a q.2.1) && (Nat.ble q.2.2.1 b && Nat.ble b q.2.2.2))
def frFr (W : frW) (H H' : mjH) : Prop := ∀ a b, frIn W a b = false → sxEl H' a b = sxEl H a b
theorem frFr.rf {W : frW} {H : mjH} : frFr W H H := fun _ _ _ => rfl
theorem frFr.tr {W : frW} {H H1 H2 : mjH} (h1 : frFr W H H1) (h2 : frFr W H1 H2) : frFr W H H2 := fun a b h => (h2 a b h).trans (h1 a b h)
def frSub (V W : frW) : Bool := V.all (fun q => W.any (fun w => (Nat.ble w.1 q.1 && Nat.ble q.2.1 w.2.1) && (Nat.ble w.2.2.1 q.2.2.1 && Nat.ble q.2.2.2 w.2.2.2)))
theorem frSub_ok {V W : frW} {a b : Nat} (h : frSub V W = true) (hi : frIn V a b = true) : frIn W a b = true := by
  obtain ⟨q, q1, q2⟩ := List.any_eq_true.mp hi
  obtain ⟨w, w1, w2⟩ := List.any_eq_true.mp (List.all_eq_true.mp h q q1)
  simp only [Bool.and_eq_true] at q2 w2
  refine List.any_eq_true.mpr ⟨w, w1, ?_⟩
  simp only [Bool.and_eq_true]
  have e := fun {x y : Nat} (h : Nat.ble x y = true) => Nat.le_of_ble_eq_true h
  exact ⟨⟨Nat.ble_eq_true_of_le (Nat.le_trans (e w2.1.1) (e q2.1.1)), Nat.ble_eq_true_of_le (Nat.le_trans (e q2.1.2) (e w2.1.2))⟩, Nat.ble_eq_true_of_le (Nat.le_trans (e w2.2.1) (e q2.2.1)), Nat.ble_eq_true_of_le (Nat.le_trans (e q2.2.2) (e w2.2.2))⟩
theorem frFr.sub {V W : frW} {H H' : mjH} (hs : frSub V W = true) (h : frFr V H H') : frFr W H H' := fun a b hi => h a b (by
  cases e : frIn V a b with
  | false => rfl
  | true =>
    rw [frSub_ok hs e] at hi
    cases hi)
/-- a cell may be written at this place, or at any, with such a value -/
noncomputable def frWr (W : frW) (o : Nat) (j : Option Nat) (a : frV) : Bool := match aGet2 sxKw.1 o with
  | some c => (match c.2.2.1 with | some p => frLe a (frP p) | none => true) && (match j with
    | some j => (match aNth c.2.2.2 j with | some p => frLe a (frP p) | none => true) && frIn W o j
    | none => c.2.2.2.all (fun p => frLe a (frP p)) && W.any (fun q => (Nat.ble q.1 o && Nat.ble o q.2.1) && (Nat.beq q.2.2.1 0 && Nat.ble c.2.1 q.2.2.2)))
  | none => false
theorem frWr_ok {W : frW} {H : mjH} {o t j : Nat} {vs : List Value} {v : Value} {jo : Option Nat} {a : frV} (hT : HT H) (ho : H[o]? = some (t, vs)) (hl : j < vs.length) (hj : jo = none ∨ jo = some j) (ha : frR a v) (h : frWr W o jo a = true) (ho2 : o < 579) : HT (H.set o (t, vs.set j v)) ∧ frFr W H (H.set o (t, vs.set j v)) := by
  have hp : H.set o (t, vs.set j v) = pV H o j v := by
    unfold pV
    rw [ho]
  rw [hp]
  unfold frWr at h
  split at h
  · rename_i c hc
    rw [Bool.and_eq_true] at h
    obtain ⟨h1, h2⟩ := h
    obtain ⟨e, e1, ⟨e2, e3⟩, e4⟩ := hT.2 o c hc ho2
    cases ho.symm.trans e1
    dsimp only at e2 e3 e4
    have k1 : ∀ p, c.2.2.1 = some p → exP p v := fun p hp => by
      rw [hp] at h1
      exact frP_ok.mpr (frLe_ok h1 ha)
    have k2 : (∀ p, aNth c.2.2.2 j = some p → exP p v) ∧ frIn W o j = true := by
      rcases hj with rfl | rfl
      · dsimp only at h2
        rw [Bool.and_eq_true] at h2
        refine ⟨fun p hp => frP_ok.mpr (frLe_ok (List.all_eq_true.mp h2.1 p (aNth_mem hp)) ha), ?_⟩
        obtain ⟨q, q1, q2⟩ := List.any_eq_true.mp h2.2
        simp only [Bool.and_eq_true] at q2
        refine List.any_eq_true.mpr ⟨q, q1, ?_⟩
        simp only [Bool.and_eq_true]
        refine ⟨q2.1, Nat.ble_eq_true_of_le (by rw [Nat.eq_of_beq_eq_true q2.2.1]; exact Nat.zero_le _), Nat.ble_eq_true_of_le ?_⟩
        have := Nat.le_of_ble_eq_true q2.2.2
        omega
      · dsimp only at h2
        rw [Bool.and_eq_true] at h2
        refine ⟨fun p hp => ?_, h2.2⟩
        rw [hp] at h2
        exact frP_ok.mpr (frLe_ok h2.1 ha)
    refine ⟨hT.put hc k1 k2.1, fun a0 b0 hi => ?_⟩
    refine sxEl_ne (fun g => ?_)
    rw [g.1, g.2, k2.2] at hi
    cases hi
  · cases h
end FR

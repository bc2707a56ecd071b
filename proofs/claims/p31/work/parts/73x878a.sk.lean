/-! PC: what is bad stays bad -/
section PCSK
variable {m : Nat} {L : mjL} {H H' H0 H1 : mjH} {r : Option Value ⊕ Nat}
def cKp (_ : frMt) (H H' : mjH) : Prop := cBad H → cBad H'
def rKp (_ : frMt) (H H' : mjH) : Prop := rBad H → rBad H'
theorem px_bstepL (hT : HT H) (hL : LG L [(0, .ref 1)]) (hb : cBad H) (h : Pn none m 83 0 L [] H r H') : cBad H' := by
  have hb2 := x_st0 hT hL h
  rw [hb.1] at hb2
  rcases hb2 with ⟨g, -⟩ | ⟨-, e1, e2⟩
  · exact absurd rfl g
  · rw [e2]
    exact hb
theorem px_bfailL {y : Int32} (hT : HT H) (hL : LG L [(0, .ref 1), (1, .int y)]) (hb : cBad H) (h : Pn none m 89 0 L [] H r H') : cBad H' := by
  have hb2 := x_fail hT hL h
  rw [hb.1] at hb2
  rcases hb2 with ⟨-, e1, e2⟩ | ⟨g, -⟩
  · rw [e2]
    exact hb
  · exact absurd rfl g
theorem py_bwrongL {y p : Int32} (hT : HT H) (hL : LG L [(0, .ref 78), (1, .int y), (2, .int p)]) (hb : rBad H) (h : Pn none m 202 0 L [] H r H') : rBad H' := by
  have hb2 := y_wr hT hL h
  rcases hb2 with ⟨g, e1, e2⟩ | ⟨g, e1, e2⟩
  · rw [e2]
    exact hb
  · exact absurd (Classical.not_not.mp g) hb
theorem zAll : ∀ M, M ∈ zMs → frOk1 zMs M = true := List.all_eq_true.mp zoAll
/-- a method of these leaves all in its kind -/
theorem zHT {M : frMt} {s : frS} (hM : M ∈ zMs) (h0 : M.2.2.2.2.2.2 = []) (hs : frSu M.2.2.2.2.1 (0, s) = true) (hL : frLR s.1 L) (hst : s.2 = []) (hT : HT H) (h : Pn none m M.1 0 L [] H r H') : frEd M H r H' := by
  rcases frMain zAll m M hM 0 0 s hs none L [] H r H' hL (by rw [hst]; trivial) hT h with ih | ⟨p, _, _, _, _, _, a1, _⟩
  · exact ih
  · unfold frSt0 at a1
    rw [h0] at a1
    cases a1
theorem cSpE {C : frMt} (h : C ∈ cMs) (hs : cSp C = true) : C = cM19 ∨ C = cM17 := by
  have h1 : C ∈ cMs.filter cSp := List.mem_filter.mpr ⟨h, hs⟩
  rw [cSpL] at h1
  simp only [List.mem_cons, List.not_mem_nil, or_false] at h1
  first
    | exact h1
    | exact h1.symm
theorem rSpE {C : frMt} (h : C ∈ rMs) (hs : rSp C = true) : C = rM8 := by
  have h1 : C ∈ rMs.filter rSp := List.mem_filter.mpr ⟨h, hs⟩
  rw [rSpL] at h1
  exact List.mem_singleton.mp h1
theorem cNo : ∀ M, M ∈ cMs → cSp M = false → frIn M.2.2.1 1 3 = false ∧ frIn M.2.2.1 1 8 = false := by
  have h : cMs.all (fun M => cSp M || (!frIn M.2.2.1 1 3 && !frIn M.2.2.1 1 8)) = true := by decide +kernel
  intro M hM hs
  have h1 := List.all_eq_true.mp h M hM
  rw [hs, Bool.false_or, Bool.and_eq_true, Bool.not_eq_true', Bool.not_eq_true'] at h1
  exact h1
theorem rNo : ∀ M, M ∈ rMs → rSp M = false → frIn M.2.2.1 78 5 = false := by
  have h : rMs.all (fun M => rSp M || !frIn M.2.2.1 78 5) = true := by decide +kernel
  intro M hM hs
  have h1 := List.all_eq_true.mp h M hM
  rw [hs, Bool.false_or, Bool.not_eq_true'] at h1
  exact h1
theorem frIntE {v : Value} (h : frR (.inr false) v) : ∃ y, v = .int y := h
theorem cMain0 : ∀ (m : Nat) (M : frMt), M ∈ cMs → cSp M = false → ∀ (n pc : Nat) (s : frS), frWk cMs M n (pc, s) = true → ∀ (sc : Option (List Int32)) (L : mjL) (S : List Value) (H : mjH) (r : Option Value ⊕ Nat) (H' : mjH), frLR s.1 L → frSR s.2 S → HT H → Pn sc m M.1 pc L S H r H' → gRs cKp M m sc H r H' :=
  gMain (Rl := cKp) (sp := cSp) (CTS := cMs) (fun _ _ => id) (fun _ _ _ _ k1 k2 z => k2 (k1 z)) (fun M hM hs H H1 _ hF z => by
      obtain ⟨n1, n2⟩ := cNo M hM hs
      exact ⟨(gI_cgE (hF 1 3 n1)).trans z.1, by rw [gI_cgE (hF 1 8 n2)]; exact z.2⟩) (fun _ _ _ _ _ _ _ k => k)
    (fun C hC hsC m s0 L0 H r0 H0 k1 k2 k3 k4 => by
      rcases cSpE hC hsC with e | e
      · rw [e] at k1 k4 ⊢
        have ed := zHT (M := zM0) zIn0 rfl (s := s0) k1 k2 (by
          have := k1
          unfold frSu at this
          split at this
          · rename_i u hu
            have hu2 : some (([(0, .inl [1])], []) : frS) = some u := hu
            cases hu2
            unfold frSLe at this
            simp only [Bool.and_eq_true] at this
            have := Nat.eq_of_beq_eq_true this.2.1
            exact List.eq_nil_of_length_eq_zero this
          · cases this) k3 k4
        refine ⟨ed.1, fun z => ?_, ed.2.2⟩
        have k5 := k1
        unfold frSu at k5
        split at k5
        · rename_i u hu
          have hu2 : some (([(0, .inl [1])], []) : frS) = some u := hu
          cases hu2
          have k6 : frLR [(0, .inl [1])] L0 := by
            unfold frSLe at k5
            simp only [Bool.and_eq_true] at k5
            intro q hq
            have h6 := List.all_eq_true.mp k5.1 q hq
            split at h6
            · rename_i a ha
              obtain ⟨v, v1, v2⟩ := k2 _ (frGt_mem ha)
              exact ⟨v, v1, frLe_ok h6 v2⟩
            · cases h6
          obtain ⟨v, v1, n, n1, n2⟩ := k6 _ List.mem_cons_self
          have e1 := List.mem_singleton.mp n1
          subst e1
          subst n2
          exact px_bstepL k3 ⟨v1, trivial⟩ z k4
        · cases k5
      · rw [e] at k1 k4 ⊢
        have k6 : frLR [(0, .inl [1]), (1, .inr false)] L0 ∧ s0.2 = [] := by
          have k5 := k1
          unfold frSu at k5
          split at k5
          · rename_i u hu
            have hu2 : some (([(0, .inl [1]), (1, .inr false)], []) : frS) = some u := hu
            cases hu2
            unfold frSLe at k5
            simp only [Bool.and_eq_true] at k5
            refine ⟨fun q hq => ?_, List.eq_nil_of_length_eq_zero (Nat.eq_of_beq_eq_true k5.2.1)⟩
            have h6 := List.all_eq_true.mp k5.1 q hq
            split at h6
            · rename_i a ha
              obtain ⟨v, v1, v2⟩ := k2 _ (frGt_mem ha)
              exact ⟨v, v1, frLe_ok h6 v2⟩
            · cases h6
          · cases k5
        have ed := zHT (M := zM1) zIn1 rfl (s := s0) k1 k2 k6.2 k3 k4
        refine ⟨ed.1, fun z => ?_, ed.2.2⟩
        obtain ⟨v, v1, n, n1, n2⟩ := k6.1 _ List.mem_cons_self
        obtain ⟨w, w1, y, w2⟩ := k6.1 (1, .inr false) (List.mem_cons_of_mem _ List.mem_cons_self)
        have e1 := List.mem_singleton.mp n1
        subst e1
        subst n2
        subst w2
        exact px_bfailL k3 ⟨v1, w1, trivial⟩ z k4)
    (fun M hM hs => by
      have h1 := List.all_eq_true.mp coAll M hM
      rw [hs, Bool.false_or] at h1
      exact h1)
theorem cKeep {M : frMt} {s : frS} (hM : M ∈ cMs) (hs0 : cSp M = false) (h0 : M.2.2.2.2.2.2 = []) (hs : frSu M.2.2.2.2.1 (0, s) = true) (hL : frLR s.1 L) (hst : s.2 = []) (hT : HT H) (hb : cBad H) (h : Pn none m M.1 0 L [] H r H') : HT H' ∧ cBad H' := by
  rcases cMain0 m M hM hs0 0 0 s hs none L [] H r H' hL (by rw [hst]; trivial) hT h with ih | ⟨p, _, _, _, _, _, a1, _⟩
  · exact ⟨ih.1, ih.2.1 hb⟩
  · unfold frSt0 at a1
    rw [h0] at a1
    cases a1
theorem rMain0 : ∀ (m : Nat) (M : frMt), M ∈ rMs → rSp M = false → ∀ (n pc : Nat) (s : frS), frWk rMs M n (pc, s) = true → ∀ (sc : Option (List Int32)) (L : mjL) (S : List Value) (H : mjH) (r : Option Value ⊕ Nat) (H' : mjH), frLR s.1 L → frSR s.2 S → HT H → Pn sc m M.1 pc L S H r H' → gRs rKp M m sc H r H' :=
  gMain (Rl := rKp) (sp := rSp) (CTS := rMs) (fun _ _ => id) (fun _ _ _ _ k1 k2 z => k2 (k1 z)) (fun M hM hs H H1 _ hF z => by
      unfold rBad
      rw [gI_cgE (hF 78 5 (rNo M hM hs))]
      exact z) (fun _ _ _ _ _ _ _ k => k)
    (fun C hC hsC m s0 L0 H r0 H0 k1 k2 k3 k4 => by
      have e := rSpE hC hsC
      rw [e] at k1 k4 ⊢
      have k6 : frLR [(0, .inl [78]), (1, .inr false), (2, .inr false)] L0 ∧ s0.2 = [] := by
        have k5 := k1
        unfold frSu at k5
        split at k5
        · rename_i u hu
          have hu2 : some (([(0, .inl [78]), (1, .inr false), (2, .inr false)], []) : frS) = some u := hu
          cases hu2
          unfold frSLe at k5
          simp only [Bool.and_eq_true] at k5
          refine ⟨fun q hq => ?_, List.eq_nil_of_length_eq_zero (Nat.eq_of_beq_eq_true k5.2.1)⟩
          have h6 := List.all_eq_true.mp k5.1 q hq
          split at h6
          · rename_i a ha
            obtain ⟨v, v1, v2⟩ := k2 _ (frGt_mem ha)
            exact ⟨v, v1, frLe_ok h6 v2⟩
          · cases h6
        · cases k5
      have ed := zHT (M := zM2) zIn2 rfl (s := s0) k1 k2 k6.2 k3 k4
      refine ⟨ed.1, fun z => ?_, ed.2.2⟩
      obtain ⟨v, v1, n, n1, n2⟩ := k6.1 _ List.mem_cons_self
      obtain ⟨w, w1, y, w2⟩ := k6.1 (1, .inr false) (List.mem_cons_of_mem _ List.mem_cons_self)
      obtain ⟨x, x1, y2, x2⟩ := k6.1 (2, .inr false) (List.mem_cons_of_mem _ (List.mem_cons_of_mem _ List.mem_cons_self))
      have e1 := List.mem_singleton.mp n1
      subst e1
      subst n2
      subst w2
      subst x2
      exact py_bwrongL k3 ⟨v1, w1, x1, trivial⟩ z k4)
    (fun M hM hs => by
      have h1 := List.all_eq_true.mp roAll M hM
      rw [hs, Bool.false_or] at h1
      exact h1)
theorem rKeep {M : frMt} {s : frS} (hM : M ∈ rMs) (hs0 : rSp M = false) (h0 : M.2.2.2.2.2.2 = []) (hs : frSu M.2.2.2.2.1 (0, s) = true) (hL : frLR s.1 L) (hst : s.2 = []) (hT : HT H) (hb : rBad H) (h : Pn none m M.1 0 L [] H r H') : HT H' ∧ rBad H' := by
  rcases rMain0 m M hM hs0 0 0 s hs none L [] H r H' hL (by rw [hst]; trivial) hT h with ih | ⟨p, _, _, _, _, _, a1, _⟩
  · exact ⟨ih.1, ih.2.1 hb⟩
  · unfold frSt0 at a1
    rw [h0] at a1
    cases a1
/-- sentences -/
theorem cK_any {J : Nat} (hJ : J = 3 ∨ J = 11) (hT : HT H) (hb : cBad H) (h : Pn none m 41 0 [(0, .ref 1), (1, .ref J)] [] H r H') : HT H' ∧ cBad H' :=
  cKeep (M := cM5) (s := ([(0, .inl [1]), (1, .inl [3, 11])], [])) cIn5 (by decide +kernel) rfl (by decide +kernel) (fun q hq => by
    simp only [List.mem_cons, List.not_mem_nil, or_false] at hq
    rcases hq with rfl | rfl
    · exact ⟨_, rfl, 1, List.mem_singleton.mpr rfl, rfl⟩
    · exact ⟨_, rfl, J, by simpa using hJ, rfl⟩) rfl hT hb h
theorem rK_any (hT : HT H) (hb : rBad H) (h : Pn none m 217 0 [(0, .ref 78)] [] H r H') : HT H' ∧ rBad H' :=
  rKeep (M := rM1) (s := ([(0, .inl [78])], [])) rIn1 (by decide +kernel) rfl (by decide +kernel) (fun q hq => by
    cases List.mem_singleton.mp hq
    exact ⟨_, rfl, 78, List.mem_singleton.mpr rfl, rfl⟩) rfl hT hb h
end PCSK

/-! AJ: from the constructors to the literal state -/
section AJS1R
theorem aLeLV_ok : ∀ {as bs : List aV} {vs : List Value}, aLeL aLeV as bs = true → aSR as vs → aSR bs vs
  | [], [], vs, _, h => h
  | [], b :: bs, vs, h, _ => by cases h
  | a :: as, [], vs, h, _ => by cases h
  | a :: as, b :: bs, [], _, h => h.elim
  | a :: as, b :: bs, v :: vs, h, hl => by
    unfold aLeL at h
    rw [Bool.and_eq_true] at h
    exact ⟨aLeV_ok h.1 hl.1, aLeLV_ok (as := as) (bs := bs) h.2 hl.2⟩
theorem aLeS_ok {s t : aSt} {Z : mjO → Prop} {scr : Option (List Int32)} {cF : List cFr} {cl : mjL} {cs : List Value} {H : mjH} (h : aLeS s t = true) (ht : t.1 = []) (hR : aRel s cF cl cs H) : aRel t cF cl cs H ∧ (mjRs Z scr t cF cl cs H → mjRs Z scr s cF cl cs H) := by
  obtain ⟨F, d, k, pc, ls, st, hp, C, S⟩ := s
  obtain ⟨F', d', k', pc', ls', st', hp', C', S'⟩ := t
  unfold aLeS at h
  dsimp only at h ht
  simp only [Bool.and_eq_true] at h
  obtain ⟨h1, h2, h3, h4, h5, h6, h7, h8, h9⟩ := h
  have h2 : d = d' := Nat.eq_of_beq_eq_true h2
  have h3 : k = k' := Nat.eq_of_beq_eq_true h3
  have h4 : pc = pc' := Nat.eq_of_beq_eq_true h4
  have h7 : C = C' := Nat.eq_of_beq_eq_true h7
  have h8 : S = S' := Nat.eq_of_beq_eq_true h8
  subst h2 h3 h4 h7 h8 ht
  have h1 : F = [] := List.isEmpty_iff.mp h1
  subst h1
  exact ⟨⟨hR.1, aLeA_ok h5 hR.2.1, aLeLV_ok h6 hR.2.2.1, aLeH_ok h9 hR.2.2.2⟩, id⟩
end AJS1R

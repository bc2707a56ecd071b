/-! PC: methods that throw nothing -/
section PCNT
variable {KS : List Nat}
noncomputable def ntI (KS : List Nat) (x : mjX) : Bool := match x.1 with
  | .new _ => Nat.beq x.2.2.2.1 0
  | .invokespecial _ => Nat.beq x.2.2.1 998 || KS.any (fun k => Nat.beq k x.2.2.1)
  | .invokevirtual _ => (Nat.beq x.2.2.1 900 || Nat.beq x.2.2.1 901) || KS.any (fun k => Nat.beq k x.2.2.1)
  | .invokestatic _ => (Nat.beq x.2.2.1 902 || Nat.beq x.2.2.1 903) || KS.any (fun k => Nat.beq k x.2.2.1)
  | _ => true
noncomputable def ntOk (KS : List Nat) (k : Nat) : Bool := (mjTb k).all (fun l => l.all (fun q => ntI KS q.2))
theorem ntMain (hall : ∀ k, k ∈ KS → ntOk KS k = true) : ∀ (f : Nat) (sc : Option (List Int32)) (d k pc : Nat) (L : mjL) (S : List Value) (H : mjH) (o : mjO), k ∈ KS → mjEx f sc d k pc L S H = some o → ∃ v, o.1 = .inl v
  | 0, _, _, _, _, _, _, _, _, _, h => by cases h
  | f + 1, sc, d, k, pc, L, S, H, o, hk, h => by
    have ih := ntMain hall f
    have add : ∀ {a b : Nat} {e : Option mjO}, mjAdd a b e = some o → (∀ o', e = some o' → ∃ v, o'.1 = .inl v) → ∃ v, o.1 = .inl v := by
      intro a b e h he
      cases e with
      | none => cases h
      | some q =>
        obtain ⟨v, hv⟩ := he q rfl
        obtain ⟨q1, q2, q3, q4⟩ := q
        cases h
        exact ⟨v, hv⟩
    have call : ∀ {x : mjX} {hh : List (Nat × Nat × Nat × Nat)}, KS.any (fun k => Nat.beq k x.2.2.1) = true → mjCall (mjEx f) sc d k pc x hh L S H = some o → ∃ v, o.1 = .inl v := by
      intro x hh ha h
      obtain ⟨a, a1, a2⟩ := List.any_eq_true.mp ha
      have a2 := Nat.eq_of_beq_eq_true a2
      have hg : ∃ g, frNp x.2.2.1 = some g := by
        cases hM : mjM x.2.2.1 with
        | none =>
          unfold mjCall at h
          rw [hM] at h
          cases h
        | some y =>
          obtain ⟨y1, y2, y3, y4, y5, y6, y7⟩ := y
          exact ⟨if y7 = true then y6 else y6 + 1, by unfold frNp; rw [hM]⟩
      obtain ⟨g, hg⟩ := hg
      obtain ⟨o1, o2, o3, o4⟩ := o
      obtain ⟨d', c2, s2, r2, H2, q, k'⟩ := frCall_go hg h
      obtain ⟨v, hv⟩ := ih none d' x.2.2.1 0 _ _ _ _ (by rw [← a2]; exact a1) q
      have hv : r2 = .inl v := hv
      rcases k' with ⟨w, e, d3, c3, s3, e3⟩ | ⟨E, e, -⟩
      · exact ih sc d3 k (pc + 3) _ _ _ _ hk e3
      · rw [e] at hv
        cases hv
    have text : ∀ {x : mjX}, mjText (mjEx f) sc d k pc x L S H = some o → ∃ v, o.1 = .inl v := by
      intro x h
      unfold mjText at h
      repeat' split at h
      all_goals first
        | exact ih _ _ _ _ _ _ _ _ hk h
        | cases h
    have h : mjStep (mjEx f) sc d k pc L S H = some o := h
    unfold mjStep at h
    split at h
    · cases h
    rename_i x hx
    split at h
    · cases h
    have hi : ntI KS x = true := by
      obtain ⟨l, l1, l2⟩ := mjAtI_mem hx
      exact List.all_eq_true.mp (List.all_eq_true.mp (hall k hk) l l1) (pc, x) l2
    clear hx
    obtain ⟨i, n, a, b, w⟩ := x
    dsimp only at h
    split at h
    · split at h
      · cases h
        exact ⟨_, rfl⟩
      · cases h
    · split at h
      · cases h
        exact ⟨_, rfl⟩
      · cases h
    · split at h
      · cases h
        exact ⟨_, rfl⟩
      · cases h
    · split at h
      · cases h
        exact ⟨_, rfl⟩
      · cases h
    · have hb : Nat.beq b 0 = true := hi
      rw [if_pos (Nat.eq_of_beq_eq_true hb)] at h
      split at h
      · split at h
        · exact add h (fun o' e' => ih _ _ _ _ _ _ _ _ hk e')
        · cases h
      · cases h
    · split at h
      · split at h
        · exact add h (fun o' e' => ih _ _ _ _ _ _ _ _ hk e')
        · cases h
      · cases h
    · split at h
      · split at h
        · exact add h (fun o' e' => ih _ _ _ _ _ _ _ _ hk e')
        · cases h
      · cases h
    · split at h
      · split at h
        · exact add h (fun o' e' => ih _ _ _ _ _ _ _ _ hk e')
        · cases h
      · cases h
    · have hb : (Nat.beq a 998 || KS.any (fun k => Nat.beq k a)) = true := hi
      rw [Bool.or_eq_true] at hb
      split at h
      · split at h
        · split at h
          · exact ih _ _ _ _ _ _ _ _ hk h
          · cases h
        · cases h
      · rename_i e
        exact call (hb.resolve_left (fun z => e (Nat.eq_of_beq_eq_true z))) h
    · have hb : ((Nat.beq a 900 || Nat.beq a 901) || KS.any (fun k => Nat.beq k a)) = true := hi
      rw [Bool.or_eq_true, Bool.or_eq_true] at hb
      split at h
      · exact text h
      · rename_i e
        exact call (hb.resolve_left (fun z => z.elim (fun z => e (Or.inl (Nat.eq_of_beq_eq_true z))) (fun z => e (Or.inr (Nat.eq_of_beq_eq_true z))))) h
    · have hb : ((Nat.beq a 902 || Nat.beq a 903) || KS.any (fun k => Nat.beq k a)) = true := hi
      rw [Bool.or_eq_true, Bool.or_eq_true] at hb
      split at h
      · split at h
        · split at h
          · exact ih _ _ _ _ _ _ _ _ hk h
          · cases h
        · cases h
      · rename_i e1
        split at h
        · split at h
          · split at h
            · exact ih _ _ _ _ _ _ _ _ hk h
            · cases h
          · cases h
        · rename_i e2
          exact call (hb.resolve_left (fun z => z.elim (fun z => e1 (Nat.eq_of_beq_eq_true z)) (fun z => e2 (Nat.eq_of_beq_eq_true z)))) h
    · split at h
      · exact ih _ _ _ _ _ _ _ _ hk h
      · split at h
        · exact ih _ _ _ _ _ _ _ _ hk h
        · cases h
theorem ntPn {sc : Option (List Int32)} {m k pc : Nat} {L : mjL} {S : List Value} {H H' : mjH} {r : Option Value ⊕ Nat} (hall : ∀ k, k ∈ KS → ntOk KS k = true) (hk : k ∈ KS) (h : Pn sc m k pc L S H r H') : ∃ v, r = .inl v := by
  obtain ⟨f, d, c, s, -, h⟩ := h
  exact ntMain hall f _ _ _ _ _ _ _ _ hk h
end PCNT

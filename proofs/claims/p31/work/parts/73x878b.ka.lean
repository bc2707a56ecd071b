/-! PC: what is bad stays bad, from any place; atoms -/
section PCKA
variable {m : Nat} {L : mjL} {S : List Value} {H H' H0 H1 : mjH} {r : Option Value ⊕ Nat}
theorem cKeepAt {M : frMt} {s : frS} {pc : Nat} (hM : M ∈ cMs) (hs0 : cSp M = false) (h0 : M.2.2.2.2.2.2 = []) (hw : frWk cMs M 400 (pc, s) = true) (hL : frLR s.1 L) (hS : frSR s.2 S) (hT : HT H) (hb : cBad H) (h : Pn none m M.1 pc L S H r H') : gEd cKp M H r H' ∧ cBad H' := by
  rcases cMain0 m M hM hs0 400 pc s hw none L S H r H' hL hS hT h with ih | ⟨p, _, _, _, _, _, a1, _⟩
  · exact ⟨ih, ih.2.1 hb⟩
  · unfold frSt0 at a1
    rw [h0] at a1
    cases a1
theorem rKeepAt {M : frMt} {s : frS} {pc : Nat} (hM : M ∈ rMs) (hs0 : rSp M = false) (h0 : M.2.2.2.2.2.2 = []) (hw : frWk rMs M 400 (pc, s) = true) (hL : frLR s.1 L) (hS : frSR s.2 S) (hT : HT H) (hb : rBad H) (h : Pn none m M.1 pc L S H r H') : gEd rKp M H r H' ∧ rBad H' := by
  rcases rMain0 m M hM hs0 400 pc s hw none L S H r H' hL hS hT h with ih | ⟨p, _, _, _, _, _, a1, _⟩
  · exact ⟨ih, ih.2.1 hb⟩
  · unfold frSt0 at a1
    rw [h0] at a1
    cases a1
/-- locals that are numbers or cells, one by one -/
theorem frLR_c {q : Nat × frV} {ls : List (Nat × frV)} {v : Value} (h1 : mjGet L q.1 = some v) (h2 : frR q.2 v) (h : frLR ls L) : frLR (q :: ls) L := fun x hx => by
  rcases List.mem_cons.mp hx with e | e
  · rw [e]
    exact ⟨v, h1, h2⟩
  · exact h x e
theorem frLR_n : frLR [] L := fun _ hx => absurd hx List.not_mem_nil
/-- it gives a long back, or throws -/
def lgO (r : Option Value ⊕ Nat) : Prop := (∃ v, r = .inl (some (.long v))) ∨ ∃ E, r = .inr E
theorem lgO_of {Rl : frMt → mjH → mjH → Prop} {M : frMt} (ed : gEd Rl M H r H') (hr : M.2.2.2.1 = some (.inr true)) : lgO r := by
  obtain ⟨-, -, h⟩ := ed
  cases r with
  | inr E => exact Or.inr ⟨E, rfl⟩
  | inl cv =>
    have h := h cv rfl
    rw [hr] at h
    cases cv with
    | none => exact h.elim
    | some w =>
      obtain ⟨v, hv⟩ := h
      rw [hv]
      exact Or.inl ⟨v, rfl⟩
/-- an atom's worlds, counted up -/
def atF (k : Int) : Nat → Int64
  | 0 => Int64.ofNat 0
  | c + 1 => atF k c ||| ((((Int32.ofInt (c : Int) >>> (Int32.ofInt k &&& 31)) &&& Int32.ofInt 1).toInt64) <<< ((Int32.ofInt (c : Int)).toInt64 &&& 63))
def alF (A : Int) : Int64 := if A = 6 then Int64.ofNat 18446744073709551615 else (Int64.ofNat 1 <<< ((Int32.ofInt 1 <<< (Int32.ofInt A &&& 31)).toInt64 &&& 63)) - Int64.ofNat 1
def amF (k : Int) : Int64 := if k = 0 then Int64.ofNat 12297829382473034410 else if k = 1 then Int64.ofNat 14757395258967641292 else if k = 2 then Int64.ofNat 17361641481138401520 else if k = 3 then Int64.ofNat 18374966859414961920 else if k = 4 then Int64.ofNat 18446462603027742720 else Int64.ofNat 18446744069414584320
theorem at_eq : ∀ (A : Nat), A < 7 → ∀ (k : Nat), k < A → atF (k : Int) (2 ^ A) = amF (k : Int) &&& alF (A : Int) := by decide +kernel
theorem py_all {A : Int} (hA : 1 ≤ A ∧ A ≤ 6) (hT : HT H) (h : Pn none m 215 0 [(0, .int (Int32.ofInt A))] [] H r H') : r = .inl (some (.long (alF A))) ∧ H' = H := by
  have hb := w_all hT ⟨rfl, trivial⟩ h
  rw [zz_eq] at hb
  unfold alF
  rcases hb with ⟨g, e⟩ | ⟨g, e⟩
  · rw [if_neg g]
    exact e
  · rw [if_pos (Classical.not_not.mp g)]
    exact e
theorem py_atL {k : Int} {A : Nat} (hA : A ≤ 6) (hT : HT H) : ∀ (m c : Nat) (L : mjL), c ≤ 2 ^ A → LG L [(0, .int (Int32.ofInt k)), (1, .int (Int32.ofInt (A : Int))), (2, .long (atF k c)), (4, .int (Int32.ofInt (c : Int)))] → Pn none m 216 5 L [] H r H' → r = .inl (some (.long (atF k (2 ^ A)))) ∧ H' = H
  | 0, _, _, _, _, h => Pn0 h
  | m + 1, c, L, hc, hL, h => by
    have hb := w_atL hT hL h
    have e2 : (Int32.ofInt 1 <<< (Int32.ofInt (A : Int) &&& 31)) = Int32.ofInt ((2 ^ A : Nat) : Int) := by
      have : ∀ (A : Nat), A < 7 → (Int32.ofInt 1 <<< (Int32.ofInt (A : Int) &&& 31)) = Int32.ofInt ((2 ^ A : Nat) : Int) := by decide +kernel
      exact this A (by omega)
    have h64 : 2 ^ A ≤ 64 := by
      have : ∀ (A : Nat), A < 7 → 2 ^ A ≤ 64 := by decide +kernel
      exact this A (by omega)
    rw [e2, zz_le] at hb
    rcases hb with ⟨g, e⟩ | ⟨g, L', hL', h'⟩
    · rw [show 2 ^ A = c by omega]
      exact e
    · have hs : Int32.ofInt (c : Int) + Int32.ofInt 1 = Int32.ofInt ((c + 1 : Nat) : Int) := zz_add _ _
      rw [hs] at hL'
      exact py_atL hA hT m (c + 1) L' (by omega) hL' h'
theorem py_atom {k A : Nat} (hA : A ≤ 6) (hk : k < A) (hT : HT H) (h : Pn none m 216 0 [(0, .int (Int32.ofInt (k : Int))), (1, .int (Int32.ofInt (A : Int)))] [] H r H') : r = .inl (some (.long (amF (k : Int) &&& alF (A : Int)))) ∧ H' = H := by
  obtain ⟨L', hL, h'⟩ := w_at0 hT ⟨rfl, rfl, trivial⟩ h
  rw [← at_eq A (by omega) k hk]
  exact py_atL hA hT m 0 L' (Nat.zero_le _) hL h'
theorem px_atom {k : Nat} (hk : k < 6) (hT : HT H) (h : Pn none m 24 0 [(0, .int (Int32.ofInt (k : Int)))] [] H r H') : r = .inl (some (.long (amF (k : Int)))) ∧ H' = H := by
  have hb := s_am hT ⟨rfl, trivial⟩ h
  rw [zz_ti] at hb
  unfold amF
  rcases hb with ⟨g, e⟩ | ⟨g, e⟩ | ⟨g, e⟩ | ⟨g, e⟩ | ⟨g, e⟩ | ⟨g, e⟩
  · rw [if_neg (by omega), if_neg (by omega), if_neg (by omega), if_neg (by omega), if_neg (by omega)]
    exact e
  · rw [if_pos g]
    exact e
  · rw [if_neg (by omega), if_pos g]
    exact e
  · rw [if_neg (by omega), if_neg (by omega), if_pos g]
    exact e
  · rw [if_neg (by omega), if_neg (by omega), if_neg (by omega), if_pos g]
    exact e
  · rw [if_neg (by omega), if_neg (by omega), if_neg (by omega), if_neg (by omega), if_pos g]
    exact e
end PCKA

/-! PC: the TONGUE in step: how two that read end -/
section PCTO
variable {m : Nat} {L : mjL} {S : List Value} {H H' H2 : mjH} {r r2 : Option Value ⊕ Nat} {tx : Nat → Nat} {n s o Q : Nat}
def vO (r : Option Value ⊕ Nat) : Prop := r = .inl none ∨ ∃ E, r = .inr E
theorem vO_of {Rl : frMt → mjH → mjH → Prop} {M : frMt} (ed : gEd Rl M H r H') (hr : M.2.2.2.1 = none) : vO r := by
  obtain ⟨-, -, h⟩ := ed
  cases r with
  | inr E => exact Or.inr ⟨E, rfl⟩
  | inl cv =>
    have h := h cv rfl
    rw [hr] at h
    cases cv with
    | none => exact Or.inl rfl
    | some w => exact h.elim
theorem cEnd {M : frMt} {pc : Nat} {ls : List (Nat × frV)} {sS : List frV} (hM : M ∈ cMs) (hs0 : cSp M = false) (h0 : M.2.2.2.2.2.2 = []) (hret : M.2.2.2.1 = none) (hw : frWk cMs M 400 (pc, (ls, sS)) = true) (hL : frLR ls L) (hT : HT H2) (hb : cBad H2) (h : Pn none m M.1 pc L S H2 r H') (hS : frSR sS S) : HT H' ∧ cBad H' ∧ vO r := by
  obtain ⟨ed, eb⟩ := cKeepAt (s := (ls, sS)) hM hs0 h0 hw hL hS hT hb h
  exact ⟨ed.1, eb, vO_of ed hret⟩
theorem rEnd {M : frMt} {pc : Nat} {ls : List (Nat × frV)} {sS : List frV} (hM : M ∈ rMs) (hs0 : rSp M = false) (h0 : M.2.2.2.2.2.2 = []) (hret : M.2.2.2.1 = none) (hw : frWk rMs M 400 (pc, (ls, sS)) = true) (hL : frLR ls L) (hT : HT H2) (hb : rBad H2) (h : Pn none m M.1 pc L S H2 r H') (hS : frSR sS S) : HT H' ∧ rBad H' ∧ vO r := by
  obtain ⟨ed, eb⟩ := rKeepAt (s := (ls, sS)) hM hs0 h0 hw hL hS hT hb h
  exact ⟨ed.1, eb, vO_of ed hret⟩
theorem cBd {M : frMt} {pc : Nat} {ls : List (Nat × frV)} {sS : List frV} (hM : M ∈ cMs) (hs0 : cSp M = false) (h0 : M.2.2.2.2.2.2 = []) (hret : M.2.2.2.1 = none) (hw : frWk cMs M 400 (pc, (ls, sS)) = true) (hL : frLR ls L) (hb : HT H2 ∧ cBad H2 ∧ vO r2) (k : Kt m M.1 pc L S r2 H2 r H') (hS : frSR sS S) : HT H' ∧ cBad H' ∧ vO r := by
  obtain ⟨b1, b2, b3⟩ := hb
  rcases k with ⟨u, e, k⟩ | ⟨E, e, k1, k2⟩
  · rcases b3 with b3 | ⟨E, b3⟩
    · rw [b3] at e
      cases e
      exact cEnd hM hs0 h0 hret hw hL b1 b2 k hS
    · rw [b3] at e
      cases e
  · rw [k2]
    exact ⟨b1, b2, Or.inr ⟨E, k1⟩⟩
theorem rBd {M : frMt} {pc : Nat} {ls : List (Nat × frV)} {sS : List frV} (hM : M ∈ rMs) (hs0 : rSp M = false) (h0 : M.2.2.2.2.2.2 = []) (hret : M.2.2.2.1 = none) (hw : frWk rMs M 400 (pc, (ls, sS)) = true) (hL : frLR ls L) (hb : HT H2 ∧ rBad H2 ∧ vO r2) (k : Kt m M.1 pc L S r2 H2 r H') (hS : frSR sS S) : HT H' ∧ rBad H' ∧ vO r := by
  obtain ⟨b1, b2, b3⟩ := hb
  rcases k with ⟨u, e, k⟩ | ⟨E, e, k1, k2⟩
  · rcases b3 with b3 | ⟨E, b3⟩
    · rw [b3] at e
      cases e
      exact rEnd hM hs0 h0 hret hw hL b1 b2 k hS
    · rw [b3] at e
      cases e
  · rw [k2]
    exact ⟨b1, b2, Or.inr ⟨E, k1⟩⟩
theorem one1 : ∃ n, n ∈ [1] ∧ (.ref 1 : Value) = .ref n := ⟨1, List.mem_singleton.mpr rfl, rfl⟩
theorem one78 : ∃ n, n ∈ [78] ∧ (.ref 78 : Value) = .ref n := ⟨78, List.mem_singleton.mpr rfl, rfl⟩
theorem oneQ (hQ : Q = 19 ∨ Q = 23) : ∃ n, n ∈ [19, 23] ∧ (.ref Q : Value) = .ref n := ⟨Q, by simpa using hQ, rfl⟩
theorem gQ (hQ : Q = 19 ∨ Q = 23) (h : LG L [(0, .ref 1), (1, .ref Q)]) : frLR [(0, .inl [1]), (1, .inl [19, 23])] L := frLR_c h.1 one1 (frLR_c h.2.1 (oneQ hQ) frLR_n)
theorem gQi {i : Int32} (hQ : Q = 19 ∨ Q = 23) (h : LG L [(0, .ref 1), (1, .ref Q), (2, .int i)]) : frLR [(0, .inl [1]), (1, .inl [19, 23]), (2, .inr false)] L := frLR_c h.1 one1 (frLR_c h.2.1 (oneQ hQ) (frLR_c h.2.2.1 ⟨_, rfl⟩ frLR_n))
theorem gQii {i j : Int32} (hQ : Q = 19 ∨ Q = 23) (h : LG L [(0, .ref 1), (1, .ref Q), (2, .int i), (3, .int j)]) : frLR [(0, .inl [1]), (1, .inl [19, 23]), (2, .inr false), (3, .inr false)] L := frLR_c h.1 one1 (frLR_c h.2.1 (oneQ hQ) (frLR_c h.2.2.1 ⟨_, rfl⟩ (frLR_c h.2.2.2.1 ⟨_, rfl⟩ frLR_n)))
theorem g1Q (hQ : Q = 19 ∨ Q = 23) (h : LG L [(1, .ref Q)]) : frLR [(1, .inl [19, 23])] L := frLR_c h.1 (oneQ hQ) frLR_n
theorem g1Qi {i : Int32} (hQ : Q = 19 ∨ Q = 23) (h : LG L [(1, .ref Q), (2, .int i)]) : frLR [(1, .inl [19, 23]), (2, .inr false)] L := frLR_c h.1 (oneQ hQ) (frLR_c h.2.1 ⟨_, rfl⟩ frLR_n)
theorem gTk (h : LG L [(0, .ref 1)]) : frLR [(0, .inl [1])] L := frLR_c h.1 one1 frLR_n
theorem gN (_ : LG L []) : frLR [] L := frLR_n
theorem m0 (h : LG L [(0, .ref 78)]) : frLR [(0, .inl [78])] L := frLR_c h.1 one78 frLR_n
theorem m1 {i : Int32} (h : LG L [(0, .ref 78), (1, .int i)]) : frLR [(0, .inl [78]), (1, .inr false)] L := frLR_c h.1 one78 (frLR_c h.2.1 ⟨_, rfl⟩ frLR_n)
/-- both bad, or both good with as much more -/
def tO (Q : Nat) (P : List (Int × Int) → Prop) (cs : List Int) (rs : List (Int × Int)) (tx : Nat → Nat) (n s o : Nat) (rc : Option Value ⊕ Nat) (Hc' : mjH) (rr : Option Value ⊕ Nat) (Hr' : mjH) : Prop := ((HT Hc' ∧ cBad Hc' ∧ vO rc) ∧ (HT Hr' ∧ rBad Hr' ∧ vO rr)) ∨ ∃ (s' : Nat) (seg : List (Int × Int)), (seg.length + s ≤ s' ∧ s < s') ∧ rc = .inl none ∧ rr = .inl none ∧ cG Hc' Q (cs ++ seg.map tgE) tx n s' o ∧ rG Hr' (rs ++ seg) tx n s' o ∧ P seg
def tP (k g : Nat) (P : List (Int × Int) → Prop) (Q : Nat) (tx : Nat → Nat) (n o : Nat) : Prop := ∀ (m mr s : Nat) (cs : List Int) (rs : List (Int × Int)) (Hc Hr : mjH) (rc : Option Value ⊕ Nat) (Hc' : mjH) (rr : Option Value ⊕ Nat) (Hr' : mjH), cG Hc Q cs tx n s o → rG Hr rs tx n s o → Pn none m k 0 [(0, .ref 1), (1, .ref Q)] [] Hc rc Hc' → Pn none mr g 0 [(0, .ref 78)] [] Hr rr Hr' → tO Q P cs rs tx n s o rc Hc' rr Hr'
def pX (D : Nat) (seg : List (Int × Int)) : Prop := ∃ d, tgX D seg d
def pY (D : Nat) (seg : List (Int × Int)) : Prop := ∃ d, tgY D seg d
theorem pX_le {D D' : Nat} {seg : List (Int × Int)} (h : pX D seg) (hD : D ≤ D') : pX D' seg := by
  obtain ⟨d, h⟩ := h
  exact ⟨d, h.le hD⟩
theorem pY_le {D D' : Nat} {seg : List (Int × Int)} (h : pY D seg) (hD : D ≤ D') : pY D' seg := by
  obtain ⟨d, h⟩ := h
  exact ⟨d, h.1.le hD, h.2⟩
end PCTO

/-! PC: the class's own texts -/
section PCSTR
variable {sc : Option (List Int32)} {m k pc : Nat} {L : mjL} {S : List Value} {H H' : mjH} {r : Option Value ⊕ Nat} {n b w o : Nat} {bs : List Nat} {i : Int32}
theorem pnT900 {q : Nat} (ho : mjTxo o = some bs) (h : Pn sc m k pc L (.ref o :: S) H r H') (hx : mjAtI k pc = some (.invokevirtual q, n, 900, b, w)) : Pn sc m k (pc + 3) L (.int (Int32.ofNat bs.length) :: S) H r H' := by
  obtain ⟨f, d, c, s, hf, h⟩ := pn_go h.su
  unfold mjStep at h
  rw [hx] at h
  dsimp only at h
  split at h
  · cases h
  · rw [if_pos (Or.inl rfl)] at h
    unfold mjText at h
    rw [if_pos rfl] at h
    dsimp only at h
    rw [ho] at h
    dsimp only at h
    split at h
    · exact ⟨f, d, c, s, hf, h⟩
    · cases h
theorem pnT901 {q : Nat} (ho : mjTxo o = some bs) (h : Pn sc m k pc L (.int i :: .ref o :: S) H r H') (hx : mjAtI k pc = some (.invokevirtual q, n, 901, b, w)) : ∃ c, (¬ i < 0 ∧ bs[i.toNatClampNeg]? = some c) ∧ Pn sc m k (pc + 3) L (.int (Int32.ofNat c) :: S) H r H' := by
  obtain ⟨f, d, c, s, hf, h⟩ := pn_go h.su
  unfold mjStep at h
  rw [hx] at h
  dsimp only at h
  split at h
  · cases h
  · rw [if_pos (Or.inr rfl)] at h
    unfold mjText at h
    rw [if_neg (show ¬ (901 : Nat) = 900 by decide)] at h
    dsimp only at h
    rw [ho] at h
    dsimp only at h
    split at h
    · rename_i hc
      split at h
      · rename_i c0 hc0
        exact ⟨c0, ⟨hc.1, hc0⟩, f, d, c, s, hf, h⟩
      · cases h
    · cases h
theorem pnLdR {q a : Nat} (h : Pn sc m k pc L S H r H') (hx : mjAtI k pc = some (.ldc q, n, a, b, w)) (hb : b ≠ 0) : Pn sc m k (pc + 2) L (.ref (mjS0 + a) :: S) H r H' := by
  obtain ⟨f, d, c, s, hf, h⟩ := pn_pl hx rfl h.su
  have e : mjHp sc (Instr.ldc q, n, a, b, w) pc S H = some (pc + 2, (if b = 0 then .int (Int32.ofNat a) else .ref (mjS0 + a)) :: S, H) := rfl
  have e2 : mjAlu (Instr.ldc q) pc b L S = none := rfl
  dsimp only at h
  rw [e2, e, if_neg hb] at h
  exact ⟨f, d, c, s, hf, h⟩
theorem pnRem {y z : Int32} {a : Nat} (hz : z ≠ 0) (h : Pn sc m k pc L (.int z :: .int y :: S) H r H') (hx : mjAtI k pc = some (.irem, n, a, b, w)) : Pn sc m k (pc + 1) L (.int (y - y / z * z) :: S) H r H' :=
  pnA h hx (show mjAlu .irem pc b L (.int z :: .int y :: S) = some (pc + 1, L, .int (y - y / z * z) :: S) by
    unfold mjAlu
    dsimp only
    rw [if_neg hz]) rfl
/-- a byte's row -/
theorem pnBb {z y : Int32} {c N a : Nat} (hT : HT H) (hk : kA c 102 N false = true) (h : Pn sc m k pc L (.int z :: .int y :: .ref c :: S) H r H') (hx : mjAtI k pc = some (.bastore, n, a, b, w)) : (¬ y < 0 ∧ y.toNatClampNeg < N) ∧ Pn sc m k (pc + 1) L S (pV H c y.toNatClampNeg (.int z.toInt8.toInt32)) r H' := by
  obtain ⟨p2, s2, h2, e, g⟩ := pnHp h hx rfl rfl
  obtain ⟨vs, e1, e2, e3⟩ := hT.arrI hk
  unfold mjHp at e
  dsimp only at e
  rw [e1] at e
  dsimp only at e
  split at e
  · rename_i hc
    cases e
    rw [show pV H c y.toNatClampNeg (.int z.toInt8.toInt32) = H.set c (102, vs.set y.toNatClampNeg (.int z.toInt8.toInt32)) by unfold pV; rw [e1]]
    exact ⟨⟨hc.2.1, by rw [← e2]; exact hc.2.2⟩, g⟩
  · rename_i hc
    rw [if_neg (fun q => absurd q.1 (by decide))] at e
    cases e
/-- the script -/
theorem pnSl {xs : List Int32} {a : Nat} (h : Pn (some xs) m k pc L (.ref 3000000 :: S) H r H') (hx : mjAtI k pc = some (.arraylength, n, a, b, w)) : Pn (some xs) m k (pc + 1) L (.int (Int32.ofNat xs.length) :: S) H r H' := by
  obtain ⟨f, d, c, s, hf, h⟩ := pn_pl hx rfl h.su
  exact ⟨f, d, c, s, hf, h⟩
theorem pnSa {xs : List Int32} {a : Nat} (h : Pn (some xs) m k pc L (.int i :: .ref 3000000 :: S) H r H') (hx : mjAtI k pc = some (.iaload, n, a, b, w)) : ∃ y, (¬ i < 0 ∧ xs[i.toNatClampNeg]? = some y) ∧ Pn (some xs) m k (pc + 1) L (.int y :: S) H r H' := by
  obtain ⟨f, d, c, s, hf, h⟩ := pn_pl hx rfl h.su
  have e : mjHp (some xs) (Instr.iaload, n, a, b, w) pc (.int i :: .ref 3000000 :: S) H = if i < 0 ∨ xs.length ≤ i.toNatClampNeg then none else some (pc + 1, .int (xs.getD i.toNatClampNeg 0) :: S, H) := rfl
  have e2 : mjAlu Instr.iaload pc b L (.int i :: .ref 3000000 :: S) = none := rfl
  dsimp only at h
  rw [e2, e] at h
  by_cases g : i < 0 ∨ xs.length ≤ i.toNatClampNeg
  · rw [if_pos g] at h
    cases h
  · rw [if_neg g] at h
    have g1 : ¬ i < 0 := fun z => g (Or.inl z)
    have g2 : i.toNatClampNeg < xs.length := Nat.lt_of_not_le (fun z => g (Or.inr z))
    refine ⟨xs[i.toNatClampNeg], ⟨g1, List.getElem?_eq_getElem g2⟩, f, d, c, s, hf, ?_⟩
    have e3 : xs.getD i.toNatClampNeg 0 = xs[i.toNatClampNeg] := by
      rw [List.getD_eq_getElem?_getD, List.getElem?_eq_getElem g2]
      rfl
    rw [← e3]
    exact h
end PCSTR

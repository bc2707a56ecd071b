/-! PC: what a run comes to is one -/
section PNDET
variable {sc : Option (List Int32)} {m k pc : Nat} {L : mjL} {S : List Value} {H H' : mjH} {r : Option Value ⊕ Nat}
/-- more depth does no harm -/
theorem st_d0 {r1 : mjRec} {x : mjX} {hh : List (Nat × Nat × Nat × Nat)} {o : mjO} (h : mjCall r1 sc 0 k pc x hh L S H = some o) : False := by
  unfold mjCall at h
  split at h
  · cases h
  · split at h
    · cases h
    · cases h
theorem st_sh (r1 : mjRec) : mjLe (mjStep (fun sc d => r1 sc (d + 1))) (fun sc d => mjStep r1 sc (d + 1)) := by
  intro sc d k pc L S H o h
  cases d with
  | succ d => exact h
  | zero =>
    show mjStep r1 sc 1 k pc L S H = some o
    unfold mjStep at h ⊢
    cases hx : mjAtI k pc with
    | none =>
      rw [hx] at h
      exact h
    | some x =>
      rw [hx] at h
      dsimp only at h ⊢
      cases hM : mjM k with
      | none =>
        rw [hM] at h
        exact h
      | some y =>
        rw [hM] at h
        obtain ⟨y1, nL, ret, own, hh, np, stt⟩ := y
        obtain ⟨i, n, a, b, w⟩ := x
        dsimp only at h ⊢
        cases i <;> first
          | exact h
          | (dsimp only at h ⊢
             split at h
             · rename_i g
               rw [if_pos g]
               exact h
             · exact (st_d0 h).elim)
          | (dsimp only at h ⊢
             split at h
             · rename_i g
               rw [if_pos g]
               exact h
             · rename_i g
               rw [if_neg g]
               split at h
               · rename_i g2
                 rw [if_pos g2]
                 exact h
               · exact (st_d0 h).elim)
theorem ex_d : ∀ f : Nat, mjLe (mjEx f) (fun sc d => mjEx f sc (d + 1))
  | 0 => fun _ _ _ _ _ _ _ _ h => by cases h
  | f + 1 => fun sc d k pc L S H o h => st_sh (mjEx f) sc d k pc L S H o (mjStep_mono (ex_d f) sc d k pc L S H o h)
theorem ex_dle {f d : Nat} {o : mjO} : ∀ {e : Nat}, mjEx f sc d k pc L S H = some o → mjEx f sc (d + e) k pc L S H = some o
  | 0, h => h
  | e + 1, h => ex_d f sc (d + e) k pc L S H o (ex_dle h)
/-- what a run comes to is one -/
theorem Pn_det {m2 : Nat} {H2 : mjH} {r2 : Option Value ⊕ Nat} (h : Pn sc m k pc L S H r H') (h2 : Pn sc m2 k pc L S H r2 H2) : r2 = r ∧ H2 = H' := by
  obtain ⟨f, d, c, s, -, h⟩ := h
  obtain ⟨f2, d2, c2, s2, -, h2⟩ := h2
  have e1 := mjEx_mono (Nat.le_max_left f f2) sc _ k pc L S H _ (ex_dle (e := d2) h)
  have e2 := mjEx_mono (Nat.le_max_right f f2) sc _ k pc L S H _ (ex_dle (e := d) h2)
  rw [Nat.add_comm d2 d, e1] at e2
  cases e2
  exact ⟨rfl, rfl⟩
end PNDET

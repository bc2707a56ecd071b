/-! PC: calls that may be caught, what is thrown -/
section PCEX
variable {sc : Option (List Int32)} {m k pc : Nat} {L : mjL} {S : List Value} {H H' : mjH} {r : Option Value ⊕ Nat} {n a b w : Nat}
noncomputable def kHh (k : Nat) : List (Nat × Nat × Nat × Nat) := match mjM k with
  | some (_, _, _, _, hh, _, _) => hh
  | none => []
noncomputable def kCl2 (i : Instr) (a : Nat) : Bool := match i with
  | .invokevirtual _ => !(Nat.beq a 900 || Nat.beq a 901)
  | .invokestatic _ => !(Nat.beq a 902 || Nat.beq a 903)
  | .invokespecial _ => !Nat.beq a 998
  | _ => false
/-- how it goes on behind what was thrown at a place -/
def kEx (sc : Option (List Int32)) (m k pc : Nat) (L : mjL) (E : Nat) (H2 : mjH) (r : Option Value ⊕ Nat) (H' : mjH) : Prop := match mjCatch ((kHh k).zip (mjHd k)) pc E with
  | none => r = .inr E ∧ H' = H2
  | some hpc => (∃ j y, mjAtI k hpc = some (.astore_n j, y) ∧ Pn sc m k (hpc + 1) (mjDel (j : Nat) L) [] H2 r H') ∨ ∃ j y, mjAtI k hpc = some (.astore j, y) ∧ Pn sc m k (hpc + 2) (mjDel j L) [] H2 r H'
theorem pnCH {x : Instr} {as rest : List Value} {g : Nat} (h : Pn sc m k pc L S H r H') (hx : mjAtI k pc = some (x, n, a, b, w)) (hk : kCl2 x a = true) (hg : kArg a = g) (ha : mjArgs g S = some (as, rest)) : ∃ r2 H2, Pn none m a 0 (lv_args 0 as) [] H r2 H2 ∧ ((∃ v, r2 = .inl v ∧ Pn sc m k (pc + 3) L (v.toList ++ rest) H2 r H') ∨ (∃ E, r2 = .inr E ∧ kEx sc m k pc L E H2 r H')) := by
  obtain ⟨f, d, c, s, hf, h⟩ := pn_go h.su
  unfold mjStep at h
  rw [hx] at h
  dsimp only at h
  split at h
  · cases h
  rename_i y1 nL ret own hh np stt hM
  have hhe : kHh k = hh := by
    unfold kHh
    rw [hM]
  have h2 : mjCall (mjEx f) sc d k pc (x, n, a, b, w) hh L S H = some (r, H', c, s) := by
    cases x
    case invokespecial q =>
      dsimp only at h hk
      split at h
      · rename_i e
        subst e
        exact (Bool.false_ne_true (show false = true from hk)).elim
      · exact h
    case invokestatic q =>
      dsimp only at h hk
      split at h
      · rename_i e
        subst e
        exact (Bool.false_ne_true (show false = true from hk)).elim
      · split at h
        · rename_i e
          subst e
          exact (Bool.false_ne_true (show false = true from hk)).elim
        · exact h
    case invokevirtual q =>
      dsimp only at h hk
      split at h
      · rename_i e
        exfalso
        rcases e with e | e <;> (subst e; exact (Bool.false_ne_true (show false = true from hk)).elim)
      · exact h
    all_goals cases hk
  clear h
  unfold mjCall at h2
  split at h2
  · cases h2
  rename_i y2 nL2 ret2 own2 hh2 np2 stt2 hM2
  have hM2 : mjM a = some (y2, nL2, ret2, own2, hh2, np2, stt2) := hM2
  have eg : kArg a = if stt2 then np2 else np2 + 1 := by
    unfold kArg
    rw [hM2]
  rw [← eg, hg, ha] at h2
  dsimp only at h2
  cases d with
  | zero => cases h2
  | succ d =>
    dsimp only at h2
    split at h2
    · split at h2
      · cases h2
      · rename_i r2 hr2
        split at h2
        · obtain ⟨r1, h1, c1, s1⟩ := r2
          refine ⟨r1, h1, ⟨f, d, c1, s1, hf, hr2⟩, ?_⟩
          cases r1 with
          | inl v =>
            refine Or.inl ⟨v, rfl, ?_⟩
            obtain ⟨c2, s2, e2, -, -⟩ := mj_add h2
            exact ⟨f, d + 1, c2, s2, hf, e2⟩
          | inr E =>
            refine Or.inr ⟨E, rfl, ?_⟩
            unfold mjBack at h2
            unfold kEx
            rw [hhe]
            dsimp only at h2 ⊢
            split at h2
            · rename_i e
              rw [e]
              cases h2
              exact ⟨rfl, rfl⟩
            · rename_i hpc e
              rw [e]
              dsimp only
              split at h2
              · rename_i j y hy
                obtain ⟨c2, s2, e2, -, -⟩ := mj_add h2
                exact Or.inl ⟨j, y, hy, f, d + 1, c2, s2, hf, e2⟩
              · rename_i j y hy
                obtain ⟨c2, s2, e2, -, -⟩ := mj_add h2
                exact Or.inr ⟨j, y, hy, f, d + 1, c2, s2, hf, e2⟩
              · cases h2
        · cases h2
    · cases h2
theorem pnNw {q : Nat} (h : Pn sc m k pc L S H r H') (hx : mjAtI k pc = some (.new q, n, a, b, w)) (hb : b ≠ 0) : r = .inr a ∧ H' = H := by
  obtain ⟨f, d, c, s, hf, h⟩ := pn_go h.su
  unfold mjStep at h
  rw [hx] at h
  dsimp only at h
  split at h
  · cases h
  · rw [if_neg hb] at h
    split at h
    · cases h
      exact ⟨rfl, rfl⟩
    · cases h
end PCEX

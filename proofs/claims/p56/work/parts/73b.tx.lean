section T3
/-- so many bytes as one number -/
def txS (g : Nat → Nat) : Nat → Nat
  | 0 => 0
  | n + 1 => txS g n + g n * 256 ^ n
theorem txS_lt {g : Nat → Nat} (hg : ∀ k, g k < 256) : ∀ n, txS g n < 256 ^ n
  | 0 => Nat.one_pos
  | n + 1 => by
    have h1 := txS_lt hg n
    have h2 : g n ≤ 255 := Nat.le_of_lt_succ (hg n)
    have h3 : g n * 256 ^ n ≤ 255 * 256 ^ n := Nat.mul_le_mul_right _ h2
    show txS g n + g n * 256 ^ n < 256 ^ (n + 1)
    rw [Nat.pow_succ]
    omega
theorem txS_at {g : Nat → Nat} (hg : ∀ k, g k < 256) {k : Nat} : ∀ n, k < n → txS g n / 256 ^ k % 256 = g k
  | 0, h => by omega
  | n + 1, h => by
    show (txS g n + g n * 256 ^ n) / 256 ^ k % 256 = g k
    have hpos : 0 < 256 ^ k := Nat.pow_pos (by decide)
    by_cases e : k = n
    · subst e
      rw [Nat.add_mul_div_right _ _ hpos, Nat.div_eq_of_lt (txS_lt hg k), Nat.zero_add, Nat.mod_eq_of_lt (hg k)]
    · have hk : k < n := by omega
      have hd : g n * 256 ^ n = g n * 256 ^ (n - k - 1) * 256 * 256 ^ k := by
        rw [Nat.mul_assoc, Nat.mul_assoc, ← Nat.pow_succ', ← Nat.pow_add]
        congr 2
        omega
      rw [hd, Nat.add_mul_div_right _ _ hpos, Nat.add_mul_mod_self_right]
      exact txS_at hg n hk
/-- a text of these bytes -/
theorem txMk {n : Nat} {g : Nat → Nat} (hn : n ≤ 600) (hg : ∀ k, g k < 256) : ∃ T, tLn T = n ∧ ∀ k : Nat, k < n → tBy T k = g k := by
  refine ⟨n + 1024 * txS g n, ?_, fun k hk => ?_⟩
  · unfold tLn
    rw [Nat.add_mul_mod_self_left, Nat.mod_eq_of_lt (by omega)]
    exact Nat.min_eq_left hn
  · have hl : tLn (n + 1024 * txS g n) = n := by
      unfold tLn
      rw [Nat.add_mul_mod_self_left, Nat.mod_eq_of_lt (by omega)]
      exact Nat.min_eq_left hn
    unfold tBy
    rw [hl, if_pos ⟨by omega, by omega⟩]
    unfold tTx
    rw [Int.toNat_natCast, Nat.add_mul_div_left _ _ (show 0 < 1024 by decide), Nat.div_eq_of_lt (show n < 1024 by omega), Nat.zero_add, txS_at hg n hk]
/-- cut to its first bytes -/
theorem txCut {T n : Nat} (hn : n ≤ tLn T) : ∃ T', tLn T' = n ∧ ∀ k : Nat, k < n → tBy T' k = tBy T k := by
  have h600 := tLn_le T
  obtain ⟨T', h1, h2⟩ := txMk (n := n) (g := fun k => tTx T k) (by omega) (fun k => Nat.mod_lt _ (by decide))
  refine ⟨T', h1, fun k hk => ?_⟩
  rw [h2 k hk]
  unfold tBy
  rw [if_pos ⟨by omega, by omega⟩, Int.toNat_natCast]
theorem ghP5_cut {T T' : Nat} {H : mjH} (hn : tLn T' ≤ tLn T) (hb : ∀ k : Nat, k < tLn T' → tBy T' k = tBy T k) (h : ghP5 T H) : ghP5 T' H := fun k hk => by
  obtain ⟨x, h1, h2, h3⟩ := h k (by omega)
  exact ⟨x, h1, h2, by rw [hb k hk]; exact h3⟩
theorem ghP6_cut {T T' : Nat} {H : mjH} (hn : tLn T' ≤ tLn T) (hb : ∀ k : Nat, k < tLn T' → tBy T' k = tBy T k) (h : ghP6 T H) : ghP6 T' H := fun k hk => by
  obtain ⟨x, h1, h2, h3⟩ := h k (by omega)
  exact ⟨x, h1, h2, by rw [hb k hk]; exact h3⟩
/-- places from 5 on alone speak of the text and of V -/
theorem rdVwT {T T' : Nat} {V V' : rdVt} {scr : Option (List Int32)} {H : mjH} {i j : Nat} (h : ¬(i = 579 ∧ 5 ≤ j)) : sxVw (ghL T V) scr 579 H i j = sxVw (ghL T' V') scr 579 H i j := by
  unfold sxVw
  split
  · rfl
  · split
    · rename_i e
      match j, h with
      | 0, _ => rfl
      | 1, _ => rfl
      | 2, _ => rfl
      | 3, _ => rfl
      | 4, _ => rfl
      | n + 5, h => exact absurd ⟨e, by omega⟩ h
    · rfl
end T3

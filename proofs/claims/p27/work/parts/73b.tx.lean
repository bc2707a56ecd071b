section T3
/-- so many bytes as one number -/
def txS (g : Nat → Nat) : Nat → Nat
  | 0 => 0
  | n + 1 => txS g n + g n * 256 ^ n
theorem txS_lt {g : Nat → Nat} (hg : ∀ k, g k < 256) : ∀ n, txS g n < 256 ^ n
  | 0 => Nat.one_pos
  | n + 1 => by
    have h1 := txS_lt hg n
    have h2 : g n ≤ 255 := Nat.le_of_lt_succ (hg n)
    have h3 : g n * 256 ^ n ≤ 255 * 256 ^ n := Nat.mul_le_mul_right _ h2
    show txS g n + g n * 256 ^ n < 256 ^ (n + 1)
    rw [Nat.pow_succ]
    omega
theorem txS_at {g : Nat → Nat} (hg : ∀ k, g k < 256) {k : Nat} : ∀ n, k < n → txS g n / 256 ^ k % 256 = g k
  | 0, h => by omega
  | n + 1, h => by
    show (txS g n + g n * 256 ^ n) / 256 ^ k % 256 = g k
    have hpos : 0 < 256 ^ k := Nat.pow_pos (by decide)
    by_cases e : k = n
    · subst e
      rw [Nat.add_mul_div_right _ _ hpos, Nat.div_eq_of_lt (txS_lt hg k), Nat.zero_add, Nat.mod_eq_of_lt (hg k)]
    · have hk : k < n := by omega
      have hd : g n * 256 ^ n = g n * 256 ^ (n - k - 1) * 256 * 256 ^ k := by
        rw [Nat.mul_assoc, Nat.mul_assoc, ← Nat.pow_succ', ← Nat.pow_add]
        congr 2
        omega
      rw [hd, Nat.add_mul_div_right _ _ hpos, Nat.add_mul_mod_self_right]
      exact txS_at hg n hk
/-- a text of these bytes -/
theorem txMk {n : Nat} {g : Nat → Nat} (hn : n ≤ 600) (hg : ∀ k, g k < 256) : ∃ T, tLn T = n ∧ ∀ k : Nat, k < n → tBy T k = g k := by
  refine ⟨n + 1024 * txS g n, ?_, fun k hk => ?_⟩
  · unfold tLn
    rw [Nat.add_mul_mod_self_left, Nat.mod_eq_of_lt (by omega)]
    exact Nat.min_eq_left hn
  · have hl : tLn (n + 1024 * txS g n) = n := by
      unfold tLn
      rw [Nat.add_mul_mod_self_left, Nat.mod_eq_of_lt (by omega)]
      exact Nat.min_eq_left hn
    unfold tBy
    rw [hl, if_pos ⟨by omega, by omega⟩]
    unfold tTx
    rw [Int.toNat_natCast, Nat.add_mul_div_left _ _ (show 0 < 1024 by decide), Nat.div_eq_of_lt (show n < 1024 by omega), Nat.zero_add, txS_at hg n hk]
/-- cut to its first bytes -/
theorem txCut {T n : Nat} (hn : n ≤ tLn T) : ∃ T', tLn T' = n ∧ ∀ k : Nat, k < n → tBy T' k = tBy T k := by
  have h600 := tLn_le T
  obtain ⟨T', h1, h2⟩ := txMk (n := n) (g := fun k => tTx T k) (by omega) (fun k => Nat.mod_lt _ (by decide))
  refine ⟨T', h1, fun k hk => ?_⟩
  rw [h2 k hk]
  unfold tBy
  rw [if_pos ⟨by omega, by omega⟩, Int.toNat_natCast]
theorem ghP5_cut {T T' : Nat} {H : mjH} (hn : tLn T' ≤ tLn T) (hb : ∀ k : Nat, k < tLn T' → tBy T' k = tBy T k) (h : ghP5 T H) : ghP5 T' H := fun k hk => by
  obtain ⟨x, h1, h2, h3⟩ := h k (by omega)
  exact ⟨x, h1, h2, by rw [hb k hk]; exact h3⟩
theorem ghP6_cut {T T' : Nat} {H : mjH} (hn : tLn T' ≤ tLn T) (hb : ∀ k : Nat, k < tLn T' → tBy T' k = tBy T k) (h : ghP6 T H) : ghP6 T' H := fun k hk => by
  obtain ⟨x, h1, h2, h3⟩ := h k (by omega)
  exact ⟨x, h1, h2, by rw [hb k hk]; exact h3⟩
/-- places from 5 on alone speak of the text and of V -/
theorem rdVwT {T T' : Nat} {V V' : rdVt} {scr : Option (List Int32)} {H : mjH} {i j : Nat} (h : ¬(i = 579 ∧ 5 ≤ j)) (h2 : ¬ i = 579 + 1) : sxVw (ghL T V) scr 579 H i j = sxVw (ghL T' V') scr 579 H i j := by
  unfold sxVw
  split
  · rfl
  · split
    · rename_i e
      match j, h with
      | 0, _ => rfl
      | 1, _ => rfl
      | 2, _ => rfl
      | 3, _ => rfl
      | 4, _ => rfl
      | n + 5, h => exact absurd ⟨e, by omega⟩ h
    · simp only [if_neg h2]
/-- so many great digits as one number -/
def txG (M : Nat) (g : Nat → Nat) : Nat → Nat
  | 0 => 0
  | n + 1 => txG M g n + g n * M ^ n
theorem txG_lt {M : Nat} {g : Nat → Nat} (hg : ∀ k, g k < M) : ∀ n, txG M g n < M ^ n
  | 0 => Nat.one_pos
  | n + 1 => by
    have h1 := txG_lt hg n
    have h4 : (g n + 1) * M ^ n ≤ M * M ^ n := Nat.mul_le_mul_right _ (hg n)
    rw [Nat.add_mul, Nat.one_mul] at h4
    show txG M g n + g n * M ^ n < M ^ (n + 1)
    rw [Nat.pow_succ, Nat.mul_comm (M ^ n) M]
    omega
theorem txG_at {M : Nat} (hM : 0 < M) {g : Nat → Nat} (hg : ∀ k, g k < M) {k : Nat} : ∀ n, k < n → txG M g n / M ^ k % M = g k
  | 0, h => by omega
  | n + 1, h => by
    show (txG M g n + g n * M ^ n) / M ^ k % M = g k
    have hpos : 0 < M ^ k := Nat.pow_pos hM
    by_cases e : k = n
    · subst e
      rw [Nat.add_mul_div_right _ _ hpos, Nat.div_eq_of_lt (txG_lt hg k), Nat.zero_add, Nat.mod_eq_of_lt (hg k)]
    · have hk : k < n := by omega
      have hd : g n * M ^ n = g n * M ^ (n - k - 1) * M * M ^ k := by
        rw [Nat.mul_assoc, Nat.mul_assoc, ← Nat.pow_succ', ← Nat.pow_add]
        congr 2
        omega
      rw [hd, Nat.add_mul_div_right _ _ hpos, Nat.add_mul_mod_self_right]
      exact txG_at hM hg n hk
theorem tPw_pos (n : Nat) : 0 < tPw n := Nat.mul_pos (by decide) (Nat.pow_pos (by decide))
theorem tPw_dvd {k n : Nat} (h : k ≤ n) : tPw k ∣ tPw n := Nat.mul_dvd_mul_left _ (Nat.pow_dvd_pow _ h)
/-- the text of the one, the rows of the other -/
def txJn (a u : Nat) : Nat := a % tPw 600 + tPw 600 * u
theorem txJn_mod (a u : Nat) : txJn a u % tPw 600 = a % tPw 600 := by
  unfold txJn
  rw [Nat.add_mul_mod_self_left, Nat.mod_mod]
theorem txJn_div (a u : Nat) : txJn a u / tPw 600 = u := by
  unfold txJn
  rw [Nat.add_mul_div_left _ _ (tPw_pos _), Nat.div_eq_of_lt (Nat.mod_lt _ (tPw_pos _)), Nat.zero_add]
theorem tLn_mod {a b : Nat} (h : a % tPw 600 = b % tPw 600) : tLn a = tLn b := by
  have key : ∀ T, T % 1024 = T % tPw 600 % 1024 := fun T => (Nat.mod_mod_of_dvd T (Nat.dvd_mul_right 1024 (256 ^ 600))).symm
  unfold tLn
  rw [key a, key b, h]
theorem tTx_mod {a b k : Nat} (h : a % tPw 600 = b % tPw 600) (hk : k < 600) : tTx a k = tTx b k := by
  have key : ∀ T, tTx T k = T % tPw 600 % tPw (k + 1) / tPw k := by
    intro T
    rw [Nat.mod_mod_of_dvd _ (tPw_dvd hk)]
    have e : tPw (k + 1) = tPw k * 256 := by
      unfold tPw
      rw [Nat.pow_succ, Nat.mul_assoc]
    rw [e, Nat.mod_mul_right_div_self]
    unfold tTx
    rw [Nat.div_div_eq_div_mul]
    rfl
  rw [key, key, h]
theorem tBy_mod {a b : Nat} (h : a % tPw 600 = b % tPw 600) (p : Int) : tBy a p = tBy b p := by
  unfold tBy
  rw [tLn_mod h]
  split
  · rename_i q
    have := tLn_le b
    rw [tTx_mod h (by omega)]
  · rfl
/-- cut to its first bytes; the rows stay -/
theorem txCutU {T n : Nat} (hn : n ≤ tLn T) : ∃ T', tLn T' = n ∧ (∀ k : Nat, k < n → tBy T' k = tBy T k) ∧ T / tPw 600 = T' / tPw 600 := by
  obtain ⟨T0, h1, h2⟩ := txCut hn
  have hm := txJn_mod T0 (T / tPw 600)
  exact ⟨txJn T0 (T / tPw 600), (tLn_mod hm).trans h1, fun k hk => (tBy_mod hm k).trans (h2 k hk), (txJn_div _ _).symm⟩
theorem txMkU (T : Nat) {n : Nat} {g : Nat → Nat} (hn : n ≤ 600) (hg : ∀ k, g k < 256) : ∃ T', tLn T' = n ∧ (∀ k : Nat, k < n → tBy T' k = g k) ∧ T / tPw 600 = T' / tPw 600 := by
  obtain ⟨T0, h1, h2⟩ := txMk hn hg
  have hm := txJn_mod T0 (T / tPw 600)
  exact ⟨txJn T0 (T / tPw 600), (tLn_mod hm).trans h1, fun k hk => (tBy_mod hm k).trans (h2 k hk), (txJn_div _ _).symm⟩
/-- with rows of these numbers -/
theorem txU (T : Nat) (f : Nat → Int64) : ∃ T', T' % tPw 600 = T % tPw 600 ∧ ∀ j, j < 68 → tUl T' j = (f j).toInt := by
  have hg : ∀ k, (f k).toBitVec.toNat < 18446744073709551616 := fun k => (f k).toBitVec.isLt
  refine ⟨txJn T (txG 18446744073709551616 (fun k => (f k).toBitVec.toNat) 68), txJn_mod _ _, fun j hj => ?_⟩
  unfold tUl tUn
  rw [txJn_div, txG_at (by decide) hg 68 hj]
  have e : Int64.ofNat (f j).toBitVec.toNat = f j := by
    apply Int64.toBitVec_inj.mp
    show BitVec.ofNat 64 (f j).toBitVec.toNat = _
    simp
  rw [e]
theorem semU {T T' op : Nat} {a b : Int} (h : T / tPw 600 = T' / tPw 600) (ho : 56 ≤ op ∧ op ≤ 59) : sxSem T op a b = sxSem T' op a b := by
  have key : ∀ j, tUl T j = tUl T' j := fun j => by
    unfold tUl tUn
    rw [h]
  have h2 : op = 56 ∨ op = 57 ∨ op = 58 ∨ op = 59 := by omega
  rcases h2 with rfl | rfl | rfl | rfl
  · exact key _
  · exact key _
  · exact key _
  · show tCl 0 63 _ = tCl 0 63 _
    rw [key]
theorem rwOp {r : rwR} (h : r ∈ rwTab) : 56 ≤ r.2.2.2.1 ∧ r.2.2.2.1 ≤ 59 := by
  have key : rwTab.all (fun r => decide (56 ≤ r.2.2.2.1 ∧ r.2.2.2.1 ≤ 59)) = true := by decide +kernel
  exact of_decide_eq_true (List.all_eq_true.mp key r h)
theorem rwP_U {T T' : Nat} {r : rwR} {H : mjH} (h : T / tPw 600 = T' / tPw 600) (hr : r ∈ rwTab) : rwP T r H ↔ rwP T' r H := by
  unfold rwP
  exact ⟨fun q k k1 k2 => by rw [← semU h (rwOp hr)]; exact q k k1 k2, fun q k k1 k2 => by rw [semU h (rwOp hr)]; exact q k k1 k2⟩
theorem ghL_U {T T' : Nat} {V V' : rdVt} {H : mjH} {g : Nat} (h : T / tPw 600 = T' / tPw 600) (h1 : 20 ≤ g) (h2 : g < 47) : ghL T V H g = ghL T' V' H g := by
  obtain ⟨n, rfl⟩ : ∃ n, g = n + 7 := ⟨g - 7, by omega⟩
  show ghX T V H n = ghX T' V' H n
  have e1 : Nat.blt n 13 = false := by
    cases e : Nat.blt n 13 with
    | false => rfl
    | true => have := bltOk e; omega
  have e2 : ghT T V n = ghT T' V' n := by
    unfold ghT
    rw [if_neg (by omega), if_neg (by omega), if_neg (by omega), if_neg (by omega), if_neg (by omega), if_neg (by omega), if_neg (by omega), if_neg (by omega), if_neg (by omega), if_neg (by omega)]
  have e3 : ghR T H (n + 7) = ghR T' H (n + 7) := by
    unfold ghR
    split
    · rename_i r hr
      rw [rwB_congr (rwP_U h (rwGet_mem hr).1)]
    · rfl
  have e4 : tWk T = tWk T' := by
    unfold tWk tUl tUn
    rw [h]
  have e5 : cmX T V H n = cmX T' V' H n := by
    unfold cmX
    cases e : Nat.beq n 994 with
    | true =>
      have := Nat.eq_of_beq_eq_true e
      omega
    | false => exact e2
  unfold ghX ocX
  rw [e1, e2, e3, e4, e5]
theorem ghX_lt {T : Nat} {V : rdVt} {H : mjH} {n : Nat} (h : n < 13) : ghX T V H n = ghT T V n := by
  unfold ghX
  rw [show Nat.blt n 13 = true from Nat.ble_eq.mpr (show n + 1 ≤ 13 by omega)]
end T3

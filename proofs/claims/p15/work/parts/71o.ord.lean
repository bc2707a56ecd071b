/-! an ORDER told as digits: what the tables of both readers say is the same -/
noncomputable section OORD
/-- bits of a number that stand below a place -/
def oCn (m : Nat) : Nat → Nat
  | 0 => 0
  | b + 1 => oCn m b + (m.testBit b).toNat
theorem oCn_le (m : Nat) : ∀ n, oCn m n ≤ n
  | 0 => Nat.le_refl _
  | b + 1 => by
    have ih := oCn_le m b
    unfold oCn
    cases m.testBit b with
    | false => show oCn m b + 0 ≤ b + 1; omega
    | true => show oCn m b + 1 ≤ b + 1; omega
theorem oCn_full (m : Nat) : ∀ n, (oCn m n = n ↔ ∀ b, b < n → m.testBit b = true)
  | 0 => ⟨fun _ b hb => absurd hb (Nat.not_lt_zero b), fun _ => rfl⟩
  | n + 1 => by
    have ih := oCn_full m n
    have hle := oCn_le m n
    unfold oCn
    cases e : m.testBit n with
    | false =>
      constructor
      · intro h
        have h : oCn m n + 0 = n + 1 := h
        omega
      · intro h
        rw [h n (by omega)] at e
        cases e
    | true =>
      constructor
      · intro h b hb
        have h : oCn m n + 1 = n + 1 := h
        by_cases hbn : b = n
        · rw [hbn]; exact e
        · exact ih.mp (by omega) b (by omega)
      · intro h
        have := ih.mpr fun b hb => h b (by omega)
        show oCn m n + 1 = n + 1
        omega
theorem oCn_or (m d : Nat) : ∀ n, oCn (m ||| 2 ^ d) n = oCn m n + (if d < n ∧ m.testBit d = false then 1 else 0)
  | 0 => by rw [if_neg (by omega)]; rfl
  | n + 1 => by
    have ih := oCn_or m d n
    have hb : (m ||| 2 ^ d).testBit n = (m.testBit n || decide (d = n)) := by rw [Nat.testBit_or, Nat.testBit_two_pow]
    show oCn (m ||| 2 ^ d) n + ((m ||| 2 ^ d).testBit n).toNat = oCn m n + (m.testBit n).toNat + _
    rw [ih, hb]
    by_cases hdn : d = n
    · subst hdn
      rw [if_neg (by omega), decide_eq_true rfl, Bool.or_true]
      cases e : m.testBit d with
      | false =>
        rw [if_pos ⟨by omega, rfl⟩]
        show oCn m d + 0 + 1 = oCn m d + 0 + 1
        rfl
      | true =>
        rw [if_neg (fun h => by cases h.2)]
        show oCn m d + 0 + 1 = oCn m d + 1 + 0
        rfl
    · rw [decide_eq_false hdn, Bool.or_false]
      by_cases hc : d < n ∧ m.testBit d = false
      · rw [if_pos hc, if_pos ⟨by omega, hc.2⟩]
        omega
      · rw [if_neg hc, if_neg (fun h => hc ⟨by omega, h.2⟩)]
        omega
/-- the bits of those numbers among the first ones that lie below n -/
def oRn (f : Nat → Nat) (n : Nat) : Nat → Nat
  | 0 => 0
  | j + 1 => if f j < n then oRn f n j ||| 2 ^ f j else oRn f n j
theorem oRn_lt (f : Nat → Nat) (n : Nat) : ∀ j, oRn f n j < 2 ^ n
  | 0 => Nat.two_pow_pos n
  | j + 1 => by
    have ih := oRn_lt f n j
    unfold oRn
    split
    · rename_i h
      exact Nat.or_lt_two_pow ih (Nat.pow_lt_pow_right (by decide) h)
    · exact ih
theorem oRn_bit (f : Nat → Nat) (n b : Nat) : ∀ j, ((oRn f n j).testBit b = true ↔ ∃ k, k < j ∧ f k < n ∧ f k = b)
  | 0 => ⟨fun h => (by rw [show oRn f n 0 = 0 from rfl, Nat.zero_testBit] at h; cases h), fun ⟨k, hk, _⟩ => absurd hk (Nat.not_lt_zero k)⟩
  | j + 1 => by
    have ih := oRn_bit f n b j
    unfold oRn
    split
    · rename_i h
      rw [Nat.testBit_or, Nat.testBit_two_pow, Bool.or_eq_true, decide_eq_true_eq, ih]
      constructor
      · rintro (⟨k, h1, h2⟩ | h1)
        · exact ⟨k, by omega, h2⟩
        · exact ⟨j, by omega, h, h1⟩
      · rintro ⟨k, h1, h2, h3⟩
        by_cases hk : k = j
        · subst hk; exact Or.inr h3
        · exact Or.inl ⟨k, by omega, h2, h3⟩
    · rename_i h
      rw [ih]
      constructor
      · rintro ⟨k, h1, h2⟩
        exact ⟨k, by omega, h2⟩
      · rintro ⟨k, h1, h2, h3⟩
        by_cases hk : k = j
        · subst hk; exact absurd h2 h
        · exact ⟨k, by omega, h2, h3⟩
/-- each of the first ones is below n, and is another one -/
def oG (f : Nat → Nat) (n j : Nat) : Prop := (∀ k, k < j → f k < n) ∧ ∀ k, k < j → ∀ l, l < k → f l ≠ f k
theorem oG_s (f : Nat → Nat) (n j : Nat) : oG f n (j + 1) ↔ oG f n j ∧ f j < n ∧ ∀ l, l < j → f l ≠ f j := by
  constructor
  · rintro ⟨h1, h2⟩
    exact ⟨⟨fun k hk => h1 k (by omega), fun k hk l hl => h2 k (by omega) l hl⟩, h1 j (by omega), fun l hl => h2 j (by omega) l hl⟩
  · rintro ⟨⟨h1, h2⟩, h3, h4⟩
    refine ⟨fun k hk => ?_, fun k hk l hl => ?_⟩
    · by_cases e : k = j
      · subst e; exact h3
      · exact h1 k (by omega)
    · by_cases e : k = j
      · subst e; exact h4 l hl
      · exact h2 k (by omega) l hl
theorem oRn_cn (f : Nat → Nat) (n : Nat) : ∀ j, oCn (oRn f n j) n ≤ j ∧ (oCn (oRn f n j) n = j ↔ oG f n j)
  | 0 => by
    have e : ∀ n, oCn 0 n = 0 := fun n => by
      induction n with
      | zero => rfl
      | succ b ih => show oCn 0 b + ((0 : Nat).testBit b).toNat = 0; rw [ih, Nat.zero_testBit]; rfl
    refine ⟨by show oCn 0 n ≤ 0; rw [e]; exact Nat.le_refl _, fun _ => ⟨fun k hk => absurd hk (Nat.not_lt_zero k), fun k hk => absurd hk (Nat.not_lt_zero k)⟩, fun _ => e n⟩
  | j + 1 => by
    obtain ⟨h1, h2⟩ := oRn_cn f n j
    rw [oG_s]
    unfold oRn
    split
    · rename_i h
      rw [oCn_or]
      by_cases hb : (oRn f n j).testBit (f j) = false
      · rw [if_pos ⟨h, hb⟩]
        have key : oG f n j → ∀ l, l < j → f l ≠ f j := fun hg l hl e => by
          have := (oRn_bit f n (f j) j).mpr ⟨l, hl, hg.1 l hl, e⟩
          rw [hb] at this
          cases this
        refine ⟨by omega, fun q => ?_, fun q => ?_⟩
        · have hg := h2.mp (by omega)
          exact ⟨hg, h, key hg⟩
        · have := h2.mpr q.1
          omega
      · rw [if_neg (fun q => hb q.2)]
        have hb : (oRn f n j).testBit (f j) = true := by
          cases e : (oRn f n j).testBit (f j) with
          | false => exact absurd e hb
          | true => rfl
        obtain ⟨k, k1, k2, k3⟩ := (oRn_bit f n (f j) j).mp hb
        refine ⟨by omega, fun q => by omega, fun q => absurd k3 (q.2.2 k k1)⟩
    · rename_i h
      refine ⟨by omega, fun q => by omega, fun q => absurd q.2.1 h⟩
theorem oRn_all (f : Nat → Nat) (n : Nat) : oRn f n n = 2 ^ n - 1 ↔ oG f n n := by
  rw [← (oRn_cn f n n).2, oCn_full]
  constructor
  · intro h b hb
    rw [h, Nat.testBit_two_pow_sub_one, decide_eq_true hb]
  · intro h
    refine Nat.eq_of_testBit_eq fun i => ?_
    rw [Nat.testBit_two_pow_sub_one]
    by_cases hi : i < n
    · rw [h i hi, decide_eq_true hi]
    · rw [decide_eq_false hi]
      exact Nat.testBit_lt_two_pow (Nat.lt_of_lt_of_le (oRn_lt f n n) (Nat.pow_le_pow_right (by decide) (by omega)))
theorem oG_rev {f g : Nat → Nat} {n : Nat} (he : ∀ k, k < n → g k = f (n - 1 - k)) (h : oG f n n) : oG g n n := by
  refine ⟨fun k hk => ?_, fun k hk l hl => ?_⟩
  · rw [he k hk]
    exact h.1 _ (by omega)
  · rw [he k hk, he l (by omega)]
    exact fun e => h.2 (n - 1 - l) (by omega) (n - 1 - k) (by omega) e.symm
/-! the machine's bits -/
theorem oOr_eq {r d : Nat} (hr : r < 4096) (hd : d < 12) : oOr (r : Int) (d : Int) = ((r ||| 2 ^ d : Nat) : Int) := by
  have e0 : oS1 (d : Int) = ((2 ^ d : Nat) : Int) := tSh_of (k := d) (by omega)
  have hp : 2 ^ d < 2 ^ 12 := Nat.pow_lt_pow_right (by decide) hd
  have hor : r ||| 2 ^ d < 2 ^ 12 := Nat.or_lt_two_pow hr hp
  have e12 : (2 : Nat) ^ 12 = 4096 := rfl
  unfold oOr
  rw [e0]
  have e1 : (Int32.ofInt (r : Int) ||| Int32.ofInt ((2 ^ d : Nat) : Int)).toBitVec.toNat = r ||| 2 ^ d := by
    show ((BitVec.ofInt 32 (r : Int)) ||| (BitVec.ofInt 32 ((2 ^ d : Nat) : Int))).toNat = _
    rw [BitVec.toNat_or, BitVec.toNat_ofInt, BitVec.toNat_ofInt]
    have e32 : ((2 ^ 32 : Nat) : Int) = 4294967296 := rfl
    have a1 : ((r : Int) % ((2 ^ 32 : Nat) : Int)).toNat = r := by omega
    have a2 : (((2 ^ d : Nat) : Int) % ((2 ^ 32 : Nat) : Int)).toNat = 2 ^ d := by
      generalize 2 ^ d = w at hp ⊢
      omega
    rw [a1, a2]
  show (Int32.ofInt (r : Int) ||| Int32.ofInt ((2 ^ d : Nat) : Int)).toBitVec.toInt = _
  rw [BitVec.toInt_eq_toNat_cond, e1]
  have e32 : (2 : Nat) ^ 32 = 4294967296 := rfl
  rw [if_pos (by omega)]
theorem oIx : (List.range 12).all (fun d => decide ((BitVec.smod ((Int32.ofInt (d : Int)).toBitVec &&& 31#32) 32#32).toNat = d)) = true := by decide +kernel
theorem oTe_eq {r d : Nat} (hr : r < 4096) (hd : d < 12) : oTe (r : Int) (d : Int) = ((r.testBit d).toNat : Int) := by
  have hj := of_decide_eq_true (List.all_eq_true.mp oIx d (List.mem_range.mpr hd))
  have e32 : ((2 ^ 32 : Nat) : Int) = 4294967296 := rfl
  have e1 : (Int32.ofInt (r : Int)).toBitVec.toNat = r := by
    show (BitVec.ofInt 32 (r : Int)).toNat = r
    rw [BitVec.toNat_ofInt]
    omega
  have hm : (Int32.ofInt (r : Int)).toBitVec.msb = false := by
    rw [BitVec.msb_eq_decide, e1]
    exact decide_eq_false (by show ¬ 2 ^ 31 ≤ r; omega)
  have e2 : (Int32.ofInt (r : Int) >>> (Int32.ofInt (d : Int) &&& 31)).toBitVec = (Int32.ofInt (r : Int)).toBitVec >>> d := by
    have : (Int32.ofInt (r : Int) >>> (Int32.ofInt (d : Int) &&& 31)).toBitVec = (Int32.ofInt (r : Int)).toBitVec.sshiftRight (BitVec.smod ((Int32.ofInt (d : Int)).toBitVec &&& 31#32) 32#32).toNat := rfl
    rw [this, hj, BitVec.sshiftRight_eq_of_msb_false hm]
  unfold oTe
  rw [Int32.ofInt_toInt]
  have e3 : (Int32.ofInt (r : Int) >>> (Int32.ofInt (d : Int) &&& 31) &&& Int32.ofInt 1).toBitVec.toNat = r / 2 ^ d % 2 := by
    show ((Int32.ofInt (r : Int) >>> (Int32.ofInt (d : Int) &&& 31)).toBitVec &&& 1#32).toNat = _
    rw [e2, BitVec.toNat_and, BitVec.toNat_ushiftRight, e1, Nat.shiftRight_eq_div_pow, show (1#32).toNat = 1 from rfl, Nat.and_one_is_mod]
  have hlt : r / 2 ^ d % 2 < 2 := Nat.mod_lt _ (by decide)
  show (Int32.ofInt (r : Int) >>> (Int32.ofInt (d : Int) &&& 31) &&& Int32.ofInt 1).toBitVec.toInt = _
  rw [BitVec.toInt_eq_toNat_cond, e3, Nat.testBit_eq_decide_div_mod_eq]
  have e32 : (2 : Nat) ^ 32 = 4294967296 := rfl
  rw [if_pos (by omega)]
  by_cases hq : r / 2 ^ d % 2 = 1
  · rw [hq]; rfl
  · rw [decide_eq_false hq, show r / 2 ^ d % 2 = 0 by omega]; rfl
/-! the tables -/
theorem oDg_rg (s : Int) (j : Nat) : 0 ≤ oDg s j ∧ oDg s j < 16 := by
  unfold oDg
  omega
/-- digits, the last one first -/
def oF (s : Int) (j : Nat) : Nat := (oDg s j).toNat
theorem oF_eq (s : Int) (j : Nat) : oDg s j = ((oF s j : Nat) : Int) := by
  have := (oDg_rg s j).1
  unfold oF
  omega
theorem p12 {n : Nat} (hn : n ≤ 12) : 2 ^ n ≤ 4096 := Nat.pow_le_pow_right (n := 2) (i := n) (j := 12) (by decide) hn
theorem oRb_eq (s : Int) {n : Nat} (hn : n ≤ 12) : ∀ j, oRb s n j = ((oRn (oF s) n j : Nat) : Int)
  | 0 => rfl
  | j + 1 => by
    have ih := oRb_eq s hn j
    have hl := oRn_lt (oF s) n j
    have hp := p12 hn
    unfold oRb oRn
    rw [oF_eq]
    by_cases h : oF s j < n
    · rw [if_pos h, if_pos (by omega), ih, oOr_eq (by omega) (by omega)]
    · rw [if_neg h, if_neg (by omega), ih]
theorem oLs_eq (s : Int) {n : Nat} (hn : n ≤ 12) : ∀ i, i ≤ n → ((0 ≤ oLs s n i ↔ oG (fun j => oF s (n - 1 - j)) n i) ∧ (0 ≤ oLs s n i → oLs s n i = ((oRn (fun j => oF s (n - 1 - j)) n i : Nat) : Int)))
  | 0, _ => ⟨⟨fun _ => ⟨fun k hk => absurd hk (Nat.not_lt_zero k), fun k hk => absurd hk (Nat.not_lt_zero k)⟩, fun _ => Int.le_refl _⟩, fun _ => rfl⟩
  | i + 1, hi => by
    obtain ⟨h1, h2⟩ := oLs_eq s hn i (by omega)
    have hl := oRn_lt (fun j => oF s (n - 1 - j)) n i
    have hp := p12 hn
    rw [oG_s]
    by_cases c0 : 0 ≤ oLs s n i
    · have e := h2 c0
      have hg := h1.mp c0
      by_cases c1 : oF s (n - 1 - i) < n
      · have ht := oTe_eq (r := oRn (fun j => oF s (n - 1 - j)) n i) (d := oF s (n - 1 - i)) (by omega) (by omega)
        have hb := oRn_bit (fun j => oF s (n - 1 - j)) n (oF s (n - 1 - i)) i
        cases c2 : (oRn (fun j => oF s (n - 1 - j)) n i).testBit (oF s (n - 1 - i)) with
        | false =>
          rw [c2] at ht hb
          have ev : oLs s n (i + 1) = ((oRn (fun j => oF s (n - 1 - j)) n (i + 1) : Nat) : Int) := by
            unfold oLs
            rw [oF_eq, e, if_pos ⟨by omega, by omega, by rw [ht]; rfl⟩, oOr_eq (by omega) (by omega)]
            show _ = ((if oF s (n - 1 - i) < n then oRn (fun j => oF s (n - 1 - j)) n i ||| 2 ^ oF s (n - 1 - i) else oRn (fun j => oF s (n - 1 - j)) n i : Nat) : Int)
            rw [if_pos c1]
          have hn0 : ∀ l, l < i → oF s (n - 1 - l) ≠ oF s (n - 1 - i) := fun l hl e => by
            have := hb.mpr ⟨l, hl, hg.1 l hl, e⟩
            cases this
          exact ⟨⟨fun _ => ⟨hg, c1, hn0⟩, fun _ => by rw [ev]; omega⟩, fun _ => ev⟩
        | true =>
          rw [c2] at ht hb
          have ev : oLs s n (i + 1) = -1 := by
            unfold oLs
            rw [oF_eq, e, if_neg]
            intro q
            have := q.2.2
            rw [ht] at this
            exact absurd this (by decide)
          obtain ⟨k, k1, k2, k3⟩ := hb.mp rfl
          exact ⟨⟨fun q => by omega, fun q => absurd k3 (q.2.2 k k1)⟩, fun q => by omega⟩
      · have ev : oLs s n (i + 1) = -1 := by
          unfold oLs
          rw [oF_eq, if_neg]
          intro q
          have := q.2.1
          omega
        exact ⟨⟨fun q => by omega, fun q => absurd q.2.1 c1⟩, fun q => by omega⟩
    · have ev : oLs s n (i + 1) = -1 := by
        unfold oLs
        rw [if_neg fun q => c0 q.1]
      exact ⟨⟨fun q => by omega, fun q => absurd (h1.mpr q.1) c0⟩, fun q => by omega⟩
theorem oLs_mono (s : Int) {n : Nat} : ∀ m i, 0 ≤ oLs s n (i + m) → 0 ≤ oLs s n i
  | 0, _, h => h
  | m + 1, i, h => by
    refine oLs_mono s m i ?_
    have h : 0 ≤ oLs s n (i + m + 1) := h
    unfold oLs at h
    split at h
    · rename_i q
      exact q.1
    · omega
theorem oOk_01 (s : Int) (n : Nat) : oOk s n = 0 ∨ oOk s n = 1 := by
  unfold oOk
  split
  · exact Or.inr rfl
  · exact Or.inl rfl
theorem oOk_1 {s : Int} {n : Nat} (h : oOk s n = 1) : (0 ≤ s ∧ s / ((16 ^ n : Nat) : Int) = 0) ∧ 0 ≤ oLs s n n := by
  unfold oOk at h
  split at h
  · rename_i q; exact q
  · cases h
theorem oOk_of {s : Int} {n : Nat} (h0 : 0 ≤ s) (h1 : s / ((16 ^ n : Nat) : Int) = 0) (h2 : 0 ≤ oLs s n n) : oOk s n = 1 := if_pos ⟨⟨h0, h1⟩, h2⟩
theorem oOk_0 {s : Int} {n : Nat} (h : ¬ oOk s n = 1) : oOk s n = 0 := (oOk_01 s n).resolve_right h
/-- the last digits first, or the first ones first: the same -/
theorem oOk_R {s : Int} {n : Nat} (hn : n ≤ 12) : 0 ≤ oLs s n n ↔ oRb s n n = ((2 ^ n - 1 : Nat) : Int) := by
  have h1 := (oLs_eq s hn n (Nat.le_refl n)).1
  have h2 := oRn_all (oF s) n
  rw [oRb_eq s hn, h1]
  constructor
  · intro h
    rw [h2.mpr (oG_rev (f := fun j => oF s (n - 1 - j)) (fun k hk => by show oF s k = oF s (n - 1 - (n - 1 - k)); rw [show n - 1 - (n - 1 - k) = k by omega]) h)]
  · intro h
    exact oG_rev (fun k hk => rfl) (h2.mp (by omega))
/-! the machine's digits -/
theorem o16 {n : Nat} (hn : n ≤ 12) : 0 < 16 ^ n ∧ 16 ^ n ≤ 281474976710656 := ⟨Nat.pow_pos (by decide), Nat.pow_le_pow_right (n := 16) (i := n) (j := 12) (by decide) hn⟩
theorem o2 (n : Nat) : 2 ^ (4 * n) = 16 ^ n := by rw [Nat.pow_mul]
theorem oJx : (List.range 13).all (fun n => decide ((((Int32.ofInt ((4 * n : Nat) : Int)).toInt64.toUInt64 &&& Int64.toUInt64 63).toNat) = 4 * n)) = true := by decide +kernel
variable {T : Nat}
theorem o18 (s : Int) {n : Nat} (hn : n ≤ 12) : uL (sxSem T 18 s ((4 * n : Nat) : Int)) = uL s / 16 ^ n := by
  have hj := of_decide_eq_true (List.all_eq_true.mp oJx n (List.mem_range.mpr (by omega)))
  have := u18 (T := T) (a := s) (k := ((4 * n : Nat) : Int)) _ rfl (by rw [hj]; omega)
  rw [hj, o2] at this
  exact this
theorem oSm {x : Int64} (h : uL x.toInt = 0) : x.toInt = 0 := by
  have h1 := i64_rg x
  unfold uL at h
  omega
theorem o18_p {s : Int} (hs : -9223372036854775808 ≤ s ∧ s ≤ 9223372036854775807) {p : Nat} (p0 : 0 < p) (p1 : p ≤ 281474976710656) : uL s / p = 0 ↔ (0 ≤ s ∧ s / (p : Int) = 0) := by
  constructor
  · intro h
    have hlt : uL s < p := by
      rcases Nat.lt_or_ge (uL s) p with q | q
      · exact q
      · have := Nat.div_pos q p0
        omega
    unfold uL at hlt
    have h0 : 0 ≤ s := by omega
    exact ⟨h0, Int.ediv_eq_zero_of_lt h0 (by omega)⟩
  · rintro ⟨h0, h2⟩
    obtain ⟨a, rfl⟩ := Int.eq_ofNat_of_zero_le h0
    have h2 : ((a / p : Nat) : Int) = 0 := by rw [Int.natCast_ediv]; exact h2
    have hlt : a < p := by
      rcases Nat.lt_or_ge a p with q | q
      · exact q
      · have := Nat.div_pos q p0
        omega
    exact Nat.div_eq_of_lt (by unfold uL; omega)
theorem o18_0 {s : Int} (hs : -9223372036854775808 ≤ s ∧ s ≤ 9223372036854775807) {n : Nat} (hn : n ≤ 12) : sxSem T 18 s ((4 * n : Nat) : Int) = 0 ↔ (0 ≤ s ∧ s / ((16 ^ n : Nat) : Int) = 0) := by
  have h1 := o18 (T := T) s hn
  obtain ⟨p0, p1⟩ := o16 hn
  rw [← o18_p hs p0 p1, ← h1]
  constructor
  · intro h
    rw [h]
    rfl
  · intro h
    exact oSm (x := ((Int64.ofInt s).toUInt64 >>> ((Int32.ofInt ((4 * n : Nat) : Int)).toInt64.toUInt64 &&& Int64.toUInt64 63)).toInt64) h
/-- a digit, by the bits of the whole number -/
theorem oDu (s : Int) {j : Nat} (hj : j ≤ 12) : ((uL s / 16 ^ j % 16 : Nat) : Int) = oDg s j := by
  unfold uL oDg
  have key : j = 0 ∨ j = 1 ∨ j = 2 ∨ j = 3 ∨ j = 4 ∨ j = 5 ∨ j = 6 ∨ j = 7 ∨ j = 8 ∨ j = 9 ∨ j = 10 ∨ j = 11 ∨ j = 12 := by omega
  rcases key with rfl | rfl | rfl | rfl | rfl | rfl | rfl | rfl | rfl | rfl | rfl | rfl | rfl
  · show (((s % 18446744073709551616).toNat / 1 % 16 : Nat) : Int) = s / ((1 : Nat) : Int) % 16
    omega
  · show (((s % 18446744073709551616).toNat / 16 % 16 : Nat) : Int) = s / ((16 : Nat) : Int) % 16
    omega
  · show (((s % 18446744073709551616).toNat / 256 % 16 : Nat) : Int) = s / ((256 : Nat) : Int) % 16
    omega
  · show (((s % 18446744073709551616).toNat / 4096 % 16 : Nat) : Int) = s / ((4096 : Nat) : Int) % 16
    omega
  · show (((s % 18446744073709551616).toNat / 65536 % 16 : Nat) : Int) = s / ((65536 : Nat) : Int) % 16
    omega
  · show (((s % 18446744073709551616).toNat / 1048576 % 16 : Nat) : Int) = s / ((1048576 : Nat) : Int) % 16
    omega
  · show (((s % 18446744073709551616).toNat / 16777216 % 16 : Nat) : Int) = s / ((16777216 : Nat) : Int) % 16
    omega
  · show (((s % 18446744073709551616).toNat / 268435456 % 16 : Nat) : Int) = s / ((268435456 : Nat) : Int) % 16
    omega
  · show (((s % 18446744073709551616).toNat / 4294967296 % 16 : Nat) : Int) = s / ((4294967296 : Nat) : Int) % 16
    omega
  · show (((s % 18446744073709551616).toNat / 68719476736 % 16 : Nat) : Int) = s / ((68719476736 : Nat) : Int) % 16
    omega
  · show (((s % 18446744073709551616).toNat / 1099511627776 % 16 : Nat) : Int) = s / ((1099511627776 : Nat) : Int) % 16
    omega
  · show (((s % 18446744073709551616).toNat / 17592186044416 % 16 : Nat) : Int) = s / ((17592186044416 : Nat) : Int) % 16
    omega
  · show (((s % 18446744073709551616).toNat / 281474976710656 % 16 : Nat) : Int) = s / ((281474976710656 : Nat) : Int) % 16
    omega
theorem bv15 {w : Nat} (x : BitVec w) (y : BitVec w) (hy : y.toNat = 15) : (x &&& y).toNat = x.toNat % 16 := by
  rw [BitVec.toNat_and, hy, show (15 : Nat) = 2 ^ 4 - 1 from rfl, Nat.and_two_pow_sub_one_eq_mod]
/-- the class's digit -/
theorem oDL (s : Int) {k : Nat} (hk : k ≤ 12) : sxSem T 2 (sxSem T 20 (sxSem T 18 s ((4 * k : Nat) : Int)) 0) 15 = oDg s k := by
  rw [← oDu s hk, ← o18 (T := T) s hk]
  show (Int32.ofInt ((Int64.ofInt (sxSem T 18 s ((4 * k : Nat) : Int))).toInt32).toInt &&& Int32.ofInt 15).toInt = _
  rw [Int32.ofInt_toInt]
  generalize sxSem T 18 s ((4 * k : Nat) : Int) = z
  have e1 : ((Int64.ofInt z).toInt32 &&& Int32.ofInt 15).toBitVec.toNat = uL z % 16 := by
    show ((Int64.ofInt z).toInt32.toBitVec &&& 15#32).toNat = _
    rw [bv15 _ _ rfl]
    have : (Int64.ofInt z).toInt32.toBitVec.toNat = uL z % 4294967296 := by
      show ((BitVec.ofInt 64 z).signExtend 32).toNat = _
      rw [BitVec.signExtend_eq_setWidth_of_le _ (by decide), BitVec.toNat_setWidth, BitVec.toNat_ofInt]
      rfl
    rw [this]
    omega
  show ((Int64.ofInt z).toInt32 &&& Int32.ofInt 15).toBitVec.toInt = _
  rw [BitVec.toInt_eq_toNat_cond, e1]
  have e32 : (2 : Nat) ^ 32 = 4294967296 := rfl
  rw [if_pos (by omega)]
/-- the reference's digit -/
theorem oDR (l : Int) : sxSem T 20 (sxSem T 12 l 15) 0 = l % 16 := by
  have h1 : uL (sxSem T 12 l 15) = uL l % 16 := by
    rw [u12, show uL 15 = 2 ^ 4 - 1 from rfl, Nat.and_two_pow_sub_one_eq_mod]
  have h2 : sxSem T 12 l 15 = l % 16 := by
    have h3 := i64_rg (Int64.ofInt l &&& Int64.ofInt 15)
    have h4 : sxSem T 12 l 15 = (Int64.ofInt l &&& Int64.ofInt 15).toInt := rfl
    rw [← h4] at h3
    unfold uL at h1
    omega
  rw [h2]
  have key : (List.range 16).all (fun n => decide (((Int64.ofInt (n : Int)).toInt32).toInt = (n : Int))) = true := by decide +kernel
  have := of_decide_eq_true (List.all_eq_true.mp key (l % 16).toNat (List.mem_range.mpr (by omega)))
  rw [show (((l % 16).toNat : Nat) : Int) = l % 16 by omega] at this
  exact this
theorem o17 {l : Int} (hl : -9223372036854775808 ≤ l ∧ l ≤ 9223372036854775807) : sxSem T 17 l 4 = l / 16 := by
  have e1 : (BitVec.smod ((Int32.ofInt 4).toInt64 &&& 63).toBitVec 64#64).toNat = 4 := by decide
  have h1 : (Int64.ofInt l >>> ((Int32.ofInt 4).toInt64 &&& 63)).toBitVec = (Int64.ofInt l).toBitVec.sshiftRight 4 := by
    rw [← e1]
    rfl
  show (Int64.ofInt l >>> ((Int32.ofInt 4).toInt64 &&& 63)).toBitVec.toInt = _
  rw [h1, BitVec.toInt_sshiftRight, Int.shiftRight_eq_div_pow]
  have h2 : (Int64.ofInt l).toBitVec.toInt = l := by
    show (BitVec.ofInt 64 l).toInt = l
    rw [BitVec.toInt_ofInt]
    exact Int.bmod_eq_of_le (by omega) (by omega)
  rw [h2]
  rfl
end OORD

/-! how many bits: counted one by one, and by lanes as the JDK does -/
section POP
def pN : Nat → Nat → Nat
  | 0, _ => 0
  | k + 1, x => x % 2 + pN k (x / 2)
/-- a byte, again and again -/
def pMk (m : Nat) : Nat → Nat
  | 0 => 0
  | n + 1 => m + 256 * pMk m n
theorem pMk_mod {m : Nat} (hm : m < 256) (n : Nat) : pMk m (n + 1) % 256 = m := by
  show (m + 256 * pMk m n) % 256 = m
  omega
theorem pMk_div {m : Nat} (hm : m < 256) (n : Nat) : pMk m (n + 1) / 256 = pMk m n := by
  show (m + 256 * pMk m n) / 256 = pMk m n
  omega
/-- and, byte by byte -/
theorem pAnd (x m n : Nat) (hm : m < 256) : x &&& pMk m (n + 1) = (x % 256 &&& m) + 256 * (x / 256 &&& pMk m n) := by
  have h1 : (x &&& pMk m (n + 1)) % 256 = x % 256 &&& m := by
    have := Nat.and_mod_two_pow (a := x) (b := pMk m (n + 1)) (n := 8)
    rw [show (2 : Nat) ^ 8 = 256 from rfl, pMk_mod hm] at this
    exact this
  have h2 : (x &&& pMk m (n + 1)) / 256 = x / 256 &&& pMk m n := by
    have := Nat.and_div_two_pow (a := x) (b := pMk m (n + 1)) (n := 8)
    rw [show (2 : Nat) ^ 8 = 256 from rfl, pMk_div hm] at this
    exact this
  omega
def pG1 (n x : Nat) : Nat := x - (x / 2 &&& pMk 85 n)
def pG2 (n x : Nat) : Nat := (x &&& pMk 51 n) + (x / 4 &&& pMk 51 n)
def pG3 (n x : Nat) : Nat := (x + x / 16) &&& pMk 15 n
def pF1 (d : Nat) : Nat := d - (d / 2 &&& 85)
def pF2 (d : Nat) : Nat := (d &&& 51) + (d / 4 &&& 51)
theorem pT1 : ∀ d, d < 256 → ∀ b, b < 2 → (d / 2 + 128 * b &&& 85) = (d / 2 &&& 85) := by decide +kernel
theorem pT2 : ∀ d, d < 256 → ∀ b, b < 4 → (d / 4 + 64 * b &&& 51) = (d / 4 &&& 51) := by decide +kernel
theorem pT3 : ∀ d, d < 256 → ∀ b, b < 5 → (pF2 (pF1 d) + pF2 (pF1 d) / 16 + 16 * b) % 256 &&& 15 = pN 8 d := by decide +kernel
theorem pT4 : ∀ d, d < 256 → pF2 (pF1 d) % 16 < 5 ∧ pF2 (pF1 d) / 16 < 5 := by decide +kernel
theorem pG1_s (n x : Nat) : pG1 (n + 1) x = pF1 (x % 256) + 256 * pG1 n (x / 256) := by
  unfold pG1 pF1
  rw [pAnd _ _ _ (by decide)]
  have e1 : x / 2 % 256 = x % 256 / 2 + 128 * (x / 256 % 2) := by omega
  have e2 : x / 2 / 256 = x / 256 / 2 := by omega
  rw [e1, e2, pT1 _ (Nat.mod_lt _ (by decide)) _ (Nat.mod_lt _ (by decide))]
  have h1 : (x % 256 / 2 &&& 85) ≤ x % 256 / 2 := Nat.and_le_left
  have h2 : (x / 256 / 2 &&& pMk 85 n) ≤ x / 256 / 2 := Nat.and_le_left
  generalize (x % 256 / 2 &&& 85) = u at h1 ⊢
  generalize (x / 256 / 2 &&& pMk 85 n) = w at h2 ⊢
  omega
theorem pG2_s (n x : Nat) : pG2 (n + 1) x = pF2 (x % 256) + 256 * pG2 n (x / 256) := by
  unfold pG2 pF2
  rw [pAnd _ _ _ (by decide), pAnd _ _ _ (by decide)]
  have e1 : x / 4 % 256 = x % 256 / 4 + 64 * (x / 256 % 4) := by omega
  have e2 : x / 4 / 256 = x / 256 / 4 := by omega
  rw [e1, e2, pT2 _ (Nat.mod_lt _ (by decide)) _ (Nat.mod_lt _ (by decide))]
  omega
theorem pF1_lt : ∀ d, d < 256 → pF1 d < 256 := fun d h => by
  unfold pF1
  omega
theorem pF2_lt : ∀ d, d < 256 → pF2 (pF1 d) < 80 := by decide +kernel
/-- the counts of bytes, byte by byte -/
def pP : Nat → Nat → Nat
  | 0, _ => 0
  | n + 1, x => pN 8 (x % 256) + 256 * pP n (x / 256)
theorem pLan : ∀ (n x : Nat), pG3 n (pG2 n (pG1 n x)) = pP n x ∧ (0 < n → pG2 n (pG1 n x) % 16 < 5) ∧ (n = 0 → pG2 n (pG1 n x) = 0)
  | 0, x => ⟨by show (_ &&& 0) = 0; exact Nat.and_zero _, fun h => absurd h (by decide), fun _ => by
      show (pG1 0 x &&& 0) + (pG1 0 x / 4 &&& 0) = 0
      rw [Nat.and_zero, Nat.and_zero]⟩
  | n + 1, x => by
    obtain ⟨h1, h2, h3⟩ := pLan n (x / 256)
    have hd : x % 256 < 256 := Nat.mod_lt _ (by decide)
    have e1 := pG1_s n x
    have e2 := pG2_s n (pG1 (n + 1) x)
    have k1 := pF1_lt _ hd
    have m1 : pG1 (n + 1) x % 256 = pF1 (x % 256) := by omega
    have m2 : pG1 (n + 1) x / 256 = pG1 n (x / 256) := by omega
    rw [m1, m2] at e2
    have k2 := pF2_lt _ hd
    have k3 := pT4 _ hd
    have k4 : pG2 n (pG1 n (x / 256)) % 16 < 5 := by
      cases n with
      | zero => rw [h3 rfl]; decide
      | succ n => exact h2 (by omega)
    refine ⟨?_, fun _ => by omega, fun h => by omega⟩
    have k5 := pT3 _ hd _ k4
    show pG3 (n + 1) _ = pN 8 (x % 256) + 256 * pP n (x / 256)
    rw [← h1]
    unfold pG3
    rw [pAnd _ _ _ (by decide)]
    generalize pF2 (pF1 (x % 256)) = f at e2 k2 k3 k5
    generalize pG2 n (pG1 n (x / 256)) = w at e2 k4 k5 ⊢
    have a1 : (pG2 (n + 1) (pG1 (n + 1) x) + pG2 (n + 1) (pG1 (n + 1) x) / 16) % 256 = (f + f / 16 + 16 * (w % 16)) % 256 := by omega
    have a2 : (pG2 (n + 1) (pG1 (n + 1) x) + pG2 (n + 1) (pG1 (n + 1) x) / 16) / 256 = w + w / 16 := by omega
    rw [a1, a2, k5]
theorem pN8 (x : Nat) : pN 8 x = pN 8 (x % 256) := by
  simp only [pN]
  omega
theorem pN_add : ∀ (j k x : Nat), pN (j + k) x = pN j x + pN k (x / 2 ^ j)
  | 0, k, x => by simp only [Nat.zero_add, pN, Nat.pow_zero, Nat.div_one]
  | j + 1, k, x => by
    rw [show j + 1 + k = (j + k) + 1 by omega]
    show x % 2 + pN (j + k) (x / 2) = x % 2 + pN j (x / 2) + pN k (x / 2 ^ (j + 1))
    rw [pN_add j k (x / 2), Nat.div_div_eq_div_mul, Nat.pow_succ']
    omega
theorem pN8_le (x : Nat) : pN 8 x ≤ 8 := by
  simp only [pN]
  omega
theorem pD8 (r s : Nat) (h : r < 256) : (r + 256 * s) / 256 = s := by omega
theorem pD16 (r s : Nat) (h : r < 65536) : (r + 65536 * s) / 65536 = s := by omega
theorem pD32 (r s : Nat) (h : r < 4294967296) : (r + 4294967296 * s) / 4294967296 = s := by omega
/-- as the JDK reckons -/
def pJ (x : Nat) : Nat := (fun a => (fun b => (fun c => c % 128) (b + b / 4294967296)) ((fun a => a + a / 65536) (a + a / 256))) (pG3 8 (pG2 8 (pG1 8 x)))
theorem pJ_eq {x : Nat} (hx : x < 18446744073709551616) : pJ x = pN 64 x := by
  have e : pN 64 x = pN 8 (x % 256) + (pN 8 (x / 256 % 256) + (pN 8 (x / 65536 % 256) + (pN 8 (x / 16777216 % 256) + (pN 8 (x / 4294967296 % 256) + (pN 8 (x / 1099511627776 % 256) + (pN 8 (x / 281474976710656 % 256) + pN 8 (x / 72057594037927936 % 256))))))) := by
    rw [show (64 : Nat) = 8 + 56 from rfl, pN_add 8 56, pN8, show (56 : Nat) = 8 + 48 from rfl, pN_add 8 48, pN8 (x / 2 ^ 8), show (48 : Nat) = 8 + 40 from rfl, pN_add 8 40, pN8 (x / 2 ^ 8 / 2 ^ 8), show (40 : Nat) = 8 + 32 from rfl, pN_add 8 32, pN8 (x / 2 ^ 8 / 2 ^ 8 / 2 ^ 8), show (32 : Nat) = 8 + 24 from rfl, pN_add 8 24, pN8 (x / 2 ^ 8 / 2 ^ 8 / 2 ^ 8 / 2 ^ 8), show (24 : Nat) = 8 + 16 from rfl, pN_add 8 16, pN8 (x / 2 ^ 8 / 2 ^ 8 / 2 ^ 8 / 2 ^ 8 / 2 ^ 8), show (16 : Nat) = 8 + 8 from rfl, pN_add 8 8, pN8 (x / 2 ^ 8 / 2 ^ 8 / 2 ^ 8 / 2 ^ 8 / 2 ^ 8 / 2 ^ 8), pN8 (x / 2 ^ 8 / 2 ^ 8 / 2 ^ 8 / 2 ^ 8 / 2 ^ 8 / 2 ^ 8 / 2 ^ 8)]
    simp only [Nat.div_div_eq_div_mul]
  rw [e]
  unfold pJ
  rw [(pLan 8 x).1]
  simp only [pP, Nat.div_div_eq_div_mul, Nat.mul_zero, Nat.add_zero]
  have b0 := pN8_le (x % 256)
  have b1 := pN8_le (x / 256 % 256)
  have b2 := pN8_le (x / 65536 % 256)
  have b3 := pN8_le (x / 16777216 % 256)
  have b4 := pN8_le (x / 4294967296 % 256)
  have b5 := pN8_le (x / 1099511627776 % 256)
  have b6 := pN8_le (x / 281474976710656 % 256)
  have b7 := pN8_le (x / 72057594037927936 % 256)
  simp only [show (256 : Nat) * 256 = 65536 from rfl, show (65536 : Nat) * 256 = 16777216 from rfl, show (16777216 : Nat) * 256 = 4294967296 from rfl, show (4294967296 : Nat) * 256 = 1099511627776 from rfl, show (1099511627776 : Nat) * 256 = 281474976710656 from rfl, show (281474976710656 : Nat) * 256 = 72057594037927936 from rfl]
  generalize pN 8 (x % 256) = q0 at b0 ⊢
  generalize pN 8 (x / 256 % 256) = q1 at b1 ⊢
  generalize pN 8 (x / 65536 % 256) = q2 at b2 ⊢
  generalize pN 8 (x / 16777216 % 256) = q3 at b3 ⊢
  generalize pN 8 (x / 4294967296 % 256) = q4 at b4 ⊢
  generalize pN 8 (x / 1099511627776 % 256) = q5 at b5 ⊢
  generalize pN 8 (x / 281474976710656 % 256) = q6 at b6 ⊢
  generalize pN 8 (x / 72057594037927936 % 256) = q7 at b7 ⊢
  rw [pD8 _ _ (show q0 < 256 by omega)]
  rw [show q0 + 256 * (q1 + 256 * (q2 + 256 * (q3 + 256 * (q4 + 256 * (q5 + 256 * (q6 + 256 * q7)))))) + (q1 + 256 * (q2 + 256 * (q3 + 256 * (q4 + 256 * (q5 + 256 * (q6 + 256 * q7)))))) = (q0 + q1 + 256 * (q1 + q2)) + 65536 * ((q2 + q3) + 256 * (q3 + q4) + 65536 * (q4 + q5) + 16777216 * (q5 + q6) + 4294967296 * (q6 + q7) + 1099511627776 * q7) by omega, pD16 _ _ (show q0 + q1 + 256 * (q1 + q2) < 65536 by omega)]
  rw [show q0 + q1 + 256 * (q1 + q2) + 65536 * ((q2 + q3) + 256 * (q3 + q4) + 65536 * (q4 + q5) + 16777216 * (q5 + q6) + 4294967296 * (q6 + q7) + 1099511627776 * q7) + ((q2 + q3) + 256 * (q3 + q4) + 65536 * (q4 + q5) + 16777216 * (q5 + q6) + 4294967296 * (q6 + q7) + 1099511627776 * q7) = (q0 + q1 + q2 + q3 + 256 * (q1 + q2 + q3 + q4) + 65536 * (q2 + q3 + q4 + q5) + 16777216 * (q3 + q4 + q5 + q6)) + 4294967296 * ((q4 + q5 + q6 + q7) + 256 * (q5 + q6 + q7) + 65536 * (q6 + q7) + 16777216 * q7) by omega, pD32 _ _ (show q0 + q1 + q2 + q3 + 256 * (q1 + q2 + q3 + q4) + 65536 * (q2 + q3 + q4 + q5) + 16777216 * (q3 + q4 + q5 + q6) < 4294967296 by omega)]
  rw [show q0 + q1 + q2 + q3 + 256 * (q1 + q2 + q3 + q4) + 65536 * (q2 + q3 + q4 + q5) + 16777216 * (q3 + q4 + q5 + q6) + 4294967296 * ((q4 + q5 + q6 + q7) + 256 * (q5 + q6 + q7) + 65536 * (q6 + q7) + 16777216 * q7) + ((q4 + q5 + q6 + q7) + 256 * (q5 + q6 + q7) + 65536 * (q6 + q7) + 16777216 * q7) = (q0 + (q1 + (q2 + (q3 + (q4 + (q5 + (q6 + q7))))))) + 128 * (2 * ((q1 + q2 + q3 + q4 + q5 + q6 + q7) + 256 * (q2 + q3 + q4 + q5 + q6 + q7) + 65536 * (q3 + q4 + q5 + q6 + q7) + 16777216 * (q4 + q5 + q6 + q7) + 4294967296 * (q5 + q6 + q7) + 1099511627776 * (q6 + q7) + 281474976710656 * q7)) by omega, Nat.add_mul_mod_self_left]
  exact Nat.mod_eq_of_lt (by omega)
/-- the same for 32 bits -/
def pJ32 (x : Nat) : Nat := (fun a => (fun b => b % 64) ((fun a => a + a / 65536) (a + a / 256))) (pG3 4 (pG2 4 (pG1 4 x)))
theorem pJ32_eq {x : Nat} (hx : x < 4294967296) : pJ32 x = pN 32 x := by
  have e : pN 32 x = pN 8 (x % 256) + (pN 8 (x / 256 % 256) + (pN 8 (x / 65536 % 256) + pN 8 (x / 16777216 % 256))) := by
    rw [show (32 : Nat) = 8 + 24 from rfl, pN_add 8 24, pN8, show (24 : Nat) = 8 + 16 from rfl, pN_add 8 16, pN8 (x / 2 ^ 8), show (16 : Nat) = 8 + 8 from rfl, pN_add 8 8, pN8 (x / 2 ^ 8 / 2 ^ 8), pN8 (x / 2 ^ 8 / 2 ^ 8 / 2 ^ 8)]
    simp only [Nat.div_div_eq_div_mul]
  rw [e]
  unfold pJ32
  rw [(pLan 4 x).1]
  simp only [pP, Nat.div_div_eq_div_mul, Nat.mul_zero, Nat.add_zero]
  have b0 := pN8_le (x % 256)
  have b1 := pN8_le (x / 256 % 256)
  have b2 := pN8_le (x / 65536 % 256)
  have b3 := pN8_le (x / 16777216 % 256)
  simp only [show (256 : Nat) * 256 = 65536 from rfl, show (65536 : Nat) * 256 = 16777216 from rfl]
  generalize pN 8 (x % 256) = q0 at b0 ⊢
  generalize pN 8 (x / 256 % 256) = q1 at b1 ⊢
  generalize pN 8 (x / 65536 % 256) = q2 at b2 ⊢
  generalize pN 8 (x / 16777216 % 256) = q3 at b3 ⊢
  rw [pD8 _ _ (show q0 < 256 by omega)]
  rw [show q0 + 256 * (q1 + 256 * (q2 + 256 * q3)) + (q1 + 256 * (q2 + 256 * q3)) = (q0 + q1 + 256 * (q1 + q2)) + 65536 * (q2 + q3 + 256 * q3) by omega, pD16 _ _ (show q0 + q1 + 256 * (q1 + q2) < 65536 by omega)]
  rw [show q0 + q1 + 256 * (q1 + q2) + 65536 * (q2 + q3 + 256 * q3) + (q2 + q3 + 256 * q3) = (q0 + (q1 + (q2 + q3))) + 64 * (4 * ((q1 + q2 + q3) + 256 * (q2 + q3) + 65536 * q3)) by omega, Nat.add_mul_mod_self_left]
  exact Nat.mod_eq_of_lt (by omega)
theorem pN_le : ∀ (k x : Nat), pN k x ≤ k
  | 0, _ => Nat.le_refl _
  | k + 1, x => by
    have := pN_le k (x / 2)
    show x % 2 + pN k (x / 2) ≤ k + 1
    omega
/-- a bit more -/
theorem pN_suc : ∀ (k x : Nat), pN (k + 1) x = pN k x + x / 2 ^ k % 2
  | 0, x => by simp only [pN, Nat.pow_zero, Nat.div_one]; omega
  | k + 1, x => by
    show x % 2 + pN (k + 1) (x / 2) = x % 2 + pN k (x / 2) + x / 2 ^ (k + 1) % 2
    rw [pN_suc k (x / 2), Nat.div_div_eq_div_mul, Nat.pow_succ']
    omega
end POP

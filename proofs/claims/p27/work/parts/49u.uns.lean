/-! numbers without a sign, and what operations make of them -/
section UNS
def uL (a : Int) : Nat := (a % 18446744073709551616).toNat
def uI (a : Int) : Nat := (a % 4294967296).toNat
theorem uL_lt (a : Int) : uL a < 18446744073709551616 := by
  unfold uL
  omega
theorem uI_lt (a : Int) : uI a < 4294967296 := by
  unfold uI
  omega
theorem uL_b (a : Int) : (Int64.ofInt a).toBitVec.toNat = uL a := by
  show (BitVec.ofInt 64 a).toNat = uL a
  rw [BitVec.toNat_ofInt]
  rfl
theorem uI_b (a : Int) : (Int32.ofInt a).toBitVec.toNat = uI a := by
  show (BitVec.ofInt 32 a).toNat = uI a
  rw [BitVec.toNat_ofInt]
  rfl
theorem uL_t (x : Int64) : uL x.toInt = x.toBitVec.toNat := by rw [← uL_b, Int64.ofInt_toInt]
theorem uI_t (x : Int32) : uI x.toInt = x.toBitVec.toNat := by rw [← uI_b, Int32.ofInt_toInt]
variable {T : Nat} {a b : Int}
theorem u12 : uL (sxSem T 12 a b) = uL a &&& uL b := by
  show uL (Int64.ofInt a &&& Int64.ofInt b).toInt = _
  rw [uL_t, ← uL_b a, ← uL_b b]
  exact BitVec.toNat_and _ _
theorem u9 : uL (sxSem T 9 a b) = (uL a + uL b) % 18446744073709551616 := by
  show uL (Int64.ofInt a + Int64.ofInt b).toInt = _
  rw [uL_t, ← uL_b a, ← uL_b b]
  exact BitVec.toNat_add _ _
theorem u10 : uL (sxSem T 10 a b) = (18446744073709551616 - uL b + uL a) % 18446744073709551616 := by
  show uL (Int64.ofInt a - Int64.ofInt b).toInt = _
  rw [uL_t, ← uL_b a, ← uL_b b]
  exact BitVec.toNat_sub _ _
theorem u18s (x : Int64) (k : UInt64) (hk : k.toNat < 64) : uL ((x.toUInt64 >>> k).toInt64.toInt) = x.toBitVec.toNat / 2 ^ k.toNat := by
  rw [uL_t]
  show (x.toUInt64 >>> k).toNat = x.toUInt64.toNat / 2 ^ k.toNat
  rw [UInt64.toNat_shiftRight, Nat.mod_eq_of_lt hk, Nat.shiftRight_eq_div_pow]
theorem u18 {k : Int} (j : UInt64) (hj : (Int32.ofInt k).toInt64.toUInt64 &&& Int64.toUInt64 63 = j) (hk : j.toNat < 64) : uL (sxSem T 18 a k) = uL a / 2 ^ j.toNat := by
  show uL (((Int64.ofInt a).toUInt64 >>> ((Int32.ofInt k).toInt64.toUInt64 &&& Int64.toUInt64 63)).toInt64.toInt) = _
  rw [hj, u18s _ _ hk, uL_b]
theorem u2 : uI (sxSem T 2 a b) = uI a &&& uI b := by
  show uI (Int32.ofInt a &&& Int32.ofInt b).toInt = _
  rw [uI_t, ← uI_b a, ← uI_b b]
  exact BitVec.toNat_and _ _
theorem u5 : uI (sxSem T 5 a b) = (uI a + uI b) % 4294967296 := by
  show uI (Int32.ofInt a + Int32.ofInt b).toInt = _
  rw [uI_t, ← uI_b a, ← uI_b b]
  exact BitVec.toNat_add _ _
theorem u15 : uI (sxSem T 15 a b) = (4294967296 - uI b + uI a) % 4294967296 := by
  show uI (Int32.ofInt a - Int32.ofInt b).toInt = _
  rw [uI_t, ← uI_b a, ← uI_b b]
  exact BitVec.toNat_sub _ _
theorem u8s (x : Int32) (k : UInt32) (hk : k.toNat < 32) : uI ((x.toUInt32 >>> k).toInt32.toInt) = x.toBitVec.toNat / 2 ^ k.toNat := by
  rw [uI_t]
  show (x.toUInt32 >>> k).toNat = x.toUInt32.toNat / 2 ^ k.toNat
  rw [UInt32.toNat_shiftRight, Nat.mod_eq_of_lt hk, Nat.shiftRight_eq_div_pow]
theorem u8 {k : Int} (j : UInt32) (hj : (Int32.ofInt k).toUInt32 &&& Int32.toUInt32 31 = j) (hk : j.toNat < 32) : uI (sxSem T 8 a k) = uI a / 2 ^ j.toNat := by
  show uI (((Int32.ofInt a).toUInt32 >>> ((Int32.ofInt k).toUInt32 &&& Int32.toUInt32 31)).toInt32.toInt) = _
  rw [hj, u8s _ _ hk, uI_b]
theorem u20 : uI (sxSem T 20 a b) = uL a % 4294967296 := by
  show uI ((Int64.ofInt a).toInt32.toInt) = _
  rw [uI_t, ← uL_b a]
  show ((Int64.ofInt a).toBitVec.signExtend 32).toNat = _
  rw [BitVec.signExtend_eq_setWidth_of_le _ (by decide), BitVec.toNat_setWidth]
/-- small ones -/
theorem uI_sm {x : Int32} {n : Nat} (h : uI x.toInt = n) (hn : n < 2147483648) : x.toInt = n := by
  have h1 := Int32.le_toInt x
  have h2 := Int32.toInt_lt x
  have h1 : -2147483648 ≤ x.toInt := by simpa using h1
  have h2 : x.toInt < 2147483648 := by simpa using h2
  unfold uI at h
  omega
/-- the JDK's count of bits, of 64 -/
theorem sw64 (x : Int) (k1 k2 k4 k8 k16 k32 m5 m3 mf : Int) (h1 : k1 = 1) (h2 : k2 = 2) (h4 : k4 = 4) (h8 : k8 = 8) (h16 : k16 = 16) (h32 : k32 = 32) (h5 : m5 = 6148914691236517205) (h3 : m3 = 3689348814741910323) (hf : mf = 1085102592571150095) :
    (fun a1 => (fun a2 => (fun a3 => (fun a4 => (fun a5 => (fun a6 => sxSem T 2 (sxSem T 20 a6 0) 127) (sxSem T 9 a5 (sxSem T 18 a5 k32))) (sxSem T 9 a4 (sxSem T 18 a4 k16))) (sxSem T 9 a3 (sxSem T 18 a3 k8))) (sxSem T 12 (sxSem T 9 a2 (sxSem T 18 a2 k4)) mf)) (sxSem T 9 (sxSem T 12 a1 m3) (sxSem T 12 (sxSem T 18 a1 k2) m3))) (sxSem T 10 x (sxSem T 12 (sxSem T 18 x k1) m5)) = pN 64 (uL x) := by
  subst h1 h2 h4 h8 h16 h32 h5 h3 hf
  rw [← pJ_eq (uL_lt x)]
  have s1 : ∀ a : Int, uL (sxSem T 18 a 1) = uL a / 2 := fun a => u18 1 (by decide) (by decide)
  have s2 : ∀ a : Int, uL (sxSem T 18 a 2) = uL a / 4 := fun a => u18 2 (by decide) (by decide)
  have s4 : ∀ a : Int, uL (sxSem T 18 a 4) = uL a / 16 := fun a => u18 4 (by decide) (by decide)
  have s8 : ∀ a : Int, uL (sxSem T 18 a 8) = uL a / 256 := fun a => u18 8 (by decide) (by decide)
  have s16 : ∀ a : Int, uL (sxSem T 18 a 16) = uL a / 65536 := fun a => u18 16 (by decide) (by decide)
  have s32 : ∀ a : Int, uL (sxSem T 18 a 32) = uL a / 4294967296 := fun a => u18 32 (by decide) (by decide)
  have q1 : uL (sxSem T 10 x (sxSem T 12 (sxSem T 18 x 1) 6148914691236517205)) = pG1 8 (uL x) := by
    rw [u10, u12, s1, show uL 6148914691236517205 = pMk 85 8 by decide]
    have hx := uL_lt x
    have : uL x / 2 &&& pMk 85 8 ≤ uL x / 2 := Nat.and_le_left
    unfold pG1
    omega
  generalize sxSem T 10 x (sxSem T 12 (sxSem T 18 x 1) 6148914691236517205) = a1 at q1 ⊢
  dsimp only
  have q2 : uL (sxSem T 9 (sxSem T 12 a1 3689348814741910323) (sxSem T 12 (sxSem T 18 a1 2) 3689348814741910323)) = pG2 8 (pG1 8 (uL x)) := by
    rw [u9, u12, u12, s2, show uL 3689348814741910323 = pMk 51 8 by decide, q1]
    have g1 : pG1 8 (uL x) &&& pMk 51 8 ≤ pMk 51 8 := Nat.and_le_right
    have g2 : pG1 8 (uL x) / 4 &&& pMk 51 8 ≤ pMk 51 8 := Nat.and_le_right
    have g3 : pMk 51 8 = 3689348814741910323 := by decide
    unfold pG2
    omega
  generalize sxSem T 9 (sxSem T 12 a1 3689348814741910323) (sxSem T 12 (sxSem T 18 a1 2) 3689348814741910323) = a2 at q2 ⊢
  have w2 : pG2 8 (pG1 8 (uL x)) ≤ 7378697629483820646 := by
    have g1 : pG1 8 (uL x) &&& pMk 51 8 ≤ pMk 51 8 := Nat.and_le_right
    have g2 : pG1 8 (uL x) / 4 &&& pMk 51 8 ≤ pMk 51 8 := Nat.and_le_right
    have g3 : pMk 51 8 = 3689348814741910323 := by decide
    unfold pG2
    omega
  have q3 : uL (sxSem T 12 (sxSem T 9 a2 (sxSem T 18 a2 4)) 1085102592571150095) = pG3 8 (pG2 8 (pG1 8 (uL x))) := by
    rw [u12, u9, s4, show uL 1085102592571150095 = pMk 15 8 by decide, q2, Nat.mod_eq_of_lt (by omega)]
    rfl
  generalize sxSem T 12 (sxSem T 9 a2 (sxSem T 18 a2 4)) 1085102592571150095 = a3 at q3 ⊢
  have w3 : pG3 8 (pG2 8 (pG1 8 (uL x))) ≤ 1085102592571150095 := by
    have g1 : pG3 8 (pG2 8 (pG1 8 (uL x))) ≤ pMk 15 8 := Nat.and_le_right
    have g3 : pMk 15 8 = 1085102592571150095 := by decide
    omega
  generalize hv : pG3 8 (pG2 8 (pG1 8 (uL x))) = v at q3 w3
  have q4 : uL (sxSem T 9 a3 (sxSem T 18 a3 8)) = v + v / 256 := by rw [u9, s8, q3, Nat.mod_eq_of_lt (by omega)]
  generalize sxSem T 9 a3 (sxSem T 18 a3 8) = a4 at q4 ⊢
  have q5 : uL (sxSem T 9 a4 (sxSem T 18 a4 16)) = (v + v / 256) + (v + v / 256) / 65536 := by rw [u9, s16, q4, Nat.mod_eq_of_lt (by omega)]
  generalize sxSem T 9 a4 (sxSem T 18 a4 16) = a5 at q5 ⊢
  have q6 : uL (sxSem T 9 a5 (sxSem T 18 a5 32)) = ((v + v / 256) + (v + v / 256) / 65536) + ((v + v / 256) + (v + v / 256) / 65536) / 4294967296 := by rw [u9, s32, q5, Nat.mod_eq_of_lt (by omega)]
  generalize sxSem T 9 a5 (sxSem T 18 a5 32) = a6 at q6 ⊢
  have q7 : uI (sxSem T 2 (sxSem T 20 a6 0) 127) = pJ (uL x) := by
    rw [u2, u20, show uI 127 = 2 ^ 7 - 1 by decide, Nat.and_two_pow_sub_one_eq_mod, q6]
    unfold pJ
    rw [hv]
    dsimp only
    omega
  refine uI_sm (x := Int32.ofInt (sxSem T 20 a6 0) &&& Int32.ofInt 127) q7 ?_
  have : pJ (uL x) < 128 := Nat.mod_lt _ (by decide)
  omega
/-- .. of 32 -/
theorem sw32 (x : Int) (k1 k2 k4 k8 k16 m5 m3 mf : Int) (h1 : k1 = 1) (h2 : k2 = 2) (h4 : k4 = 4) (h8 : k8 = 8) (h16 : k16 = 16) (h5 : m5 = 1431655765) (h3 : m3 = 858993459) (hf : mf = 252645135) :
    (fun a1 => (fun a2 => (fun a3 => (fun a4 => (fun a5 => sxSem T 2 a5 63) (sxSem T 5 a4 (sxSem T 8 a4 k16))) (sxSem T 5 a3 (sxSem T 8 a3 k8))) (sxSem T 2 (sxSem T 5 a2 (sxSem T 8 a2 k4)) mf)) (sxSem T 5 (sxSem T 2 a1 m3) (sxSem T 2 (sxSem T 8 a1 k2) m3))) (sxSem T 15 x (sxSem T 2 (sxSem T 8 x k1) m5)) = pN 32 (uI x) := by
  subst h1 h2 h4 h8 h16 h5 h3 hf
  rw [← pJ32_eq (uI_lt x)]
  have s1 : ∀ a : Int, uI (sxSem T 8 a 1) = uI a / 2 := fun a => u8 1 (by decide) (by decide)
  have s2 : ∀ a : Int, uI (sxSem T 8 a 2) = uI a / 4 := fun a => u8 2 (by decide) (by decide)
  have s4 : ∀ a : Int, uI (sxSem T 8 a 4) = uI a / 16 := fun a => u8 4 (by decide) (by decide)
  have s8 : ∀ a : Int, uI (sxSem T 8 a 8) = uI a / 256 := fun a => u8 8 (by decide) (by decide)
  have s16 : ∀ a : Int, uI (sxSem T 8 a 16) = uI a / 65536 := fun a => u8 16 (by decide) (by decide)
  have q1 : uI (sxSem T 15 x (sxSem T 2 (sxSem T 8 x 1) 1431655765)) = pG1 4 (uI x) := by
    rw [u15, u2, s1, show uI 1431655765 = pMk 85 4 by decide]
    have hx := uI_lt x
    have : uI x / 2 &&& pMk 85 4 ≤ uI x / 2 := Nat.and_le_left
    unfold pG1
    omega
  generalize sxSem T 15 x (sxSem T 2 (sxSem T 8 x 1) 1431655765) = a1 at q1 ⊢
  dsimp only
  have g3 : pMk 51 4 = 858993459 := by decide
  have g4 : pMk 15 4 = 252645135 := by decide
  have g1 : pG1 4 (uI x) &&& pMk 51 4 ≤ pMk 51 4 := Nat.and_le_right
  have g2 : pG1 4 (uI x) / 4 &&& pMk 51 4 ≤ pMk 51 4 := Nat.and_le_right
  have q2 : uI (sxSem T 5 (sxSem T 2 a1 858993459) (sxSem T 2 (sxSem T 8 a1 2) 858993459)) = pG2 4 (pG1 4 (uI x)) := by
    rw [u5, u2, u2, s2, show uI 858993459 = pMk 51 4 by decide, q1]
    unfold pG2
    omega
  generalize sxSem T 5 (sxSem T 2 a1 858993459) (sxSem T 2 (sxSem T 8 a1 2) 858993459) = a2 at q2 ⊢
  have w2 : pG2 4 (pG1 4 (uI x)) ≤ 1717986918 := by
    unfold pG2
    omega
  have q3 : uI (sxSem T 2 (sxSem T 5 a2 (sxSem T 8 a2 4)) 252645135) = pG3 4 (pG2 4 (pG1 4 (uI x))) := by
    rw [u2, u5, s4, show uI 252645135 = pMk 15 4 by decide, q2, Nat.mod_eq_of_lt (by omega)]
    rfl
  generalize sxSem T 2 (sxSem T 5 a2 (sxSem T 8 a2 4)) 252645135 = a3 at q3 ⊢
  have w3 : pG3 4 (pG2 4 (pG1 4 (uI x))) ≤ 252645135 := by
    have g1 : pG3 4 (pG2 4 (pG1 4 (uI x))) ≤ pMk 15 4 := Nat.and_le_right
    omega
  generalize hv : pG3 4 (pG2 4 (pG1 4 (uI x))) = v at q3 w3
  have q4 : uI (sxSem T 5 a3 (sxSem T 8 a3 8)) = v + v / 256 := by rw [u5, s8, q3, Nat.mod_eq_of_lt (by omega)]
  generalize sxSem T 5 a3 (sxSem T 8 a3 8) = a4 at q4 ⊢
  have q5 : uI (sxSem T 5 a4 (sxSem T 8 a4 16)) = (v + v / 256) + (v + v / 256) / 65536 := by rw [u5, s16, q4, Nat.mod_eq_of_lt (by omega)]
  generalize sxSem T 5 a4 (sxSem T 8 a4 16) = a5 at q5 ⊢
  have q7 : uI (sxSem T 2 a5 63) = pJ32 (uI x) := by
    rw [u2, show uI 63 = 2 ^ 6 - 1 by decide, Nat.and_two_pow_sub_one_eq_mod, q5]
    unfold pJ32
    rw [hv]
  refine uI_sm (x := Int32.ofInt a5 &&& Int32.ofInt 63) q7 ?_
  have : pJ32 (uI x) < 64 := Nat.mod_lt _ (by decide)
  omega
end UNS

/-! SX: what an operation may give, out of what is known of its operands -/
noncomputable section SXALU
abbrev sxM32 : Int := 2147483648
abbrev sxM64 : Int := 9223372036854775808
/-- z is r if there is room for it -/
def sxSp (m r z : Int) : Prop := (-m ≤ r → r < m → z = r) ∧ -m ≤ z ∧ z < m
theorem sxT32 (x : Int32) : -sxM32 ≤ x.toInt ∧ x.toInt < sxM32 := by
  have h1 := Int32.le_toInt x
  have h2 := Int32.toInt_lt x
  exact ⟨by simpa using h1, by simpa using h2⟩
theorem sxT64 (x : Int64) : -sxM64 ≤ x.toInt ∧ x.toInt < sxM64 := by
  have h1 := Int64.le_toInt x
  have h2 := Int64.toInt_lt x
  exact ⟨by simpa using h1, by simpa using h2⟩
theorem bm32 {r : Int} (h1 : -sxM32 ≤ r) (h2 : r < sxM32) : r.bmod (2 ^ 32) = r := Int.bmod_eq_of_le (by simp only [sxM32] at *; omega) (by simp only [sxM32] at *; omega)
theorem bm64 {r : Int} (h1 : -sxM64 ≤ r) (h2 : r < sxM64) : r.bmod (2 ^ 64) = r := Int.bmod_eq_of_le (by simp only [sxM64] at *; omega) (by simp only [sxM64] at *; omega)
theorem sp_add32 (a b : Int32) : sxSp sxM32 (a.toInt + b.toInt) (a + b).toInt := ⟨fun h1 h2 => by rw [Int32.toInt_add, bm32 h1 h2], sxT32 _⟩
theorem sp_sub32 (a b : Int32) : sxSp sxM32 (a.toInt - b.toInt) (a - b).toInt := ⟨fun h1 h2 => by rw [Int32.toInt_sub, bm32 h1 h2], sxT32 _⟩
theorem sp_mul32 (a b : Int32) : sxSp sxM32 (a.toInt * b.toInt) (a * b).toInt := ⟨fun h1 h2 => by rw [Int32.toInt_mul, bm32 h1 h2], sxT32 _⟩
theorem sp_add64 (a b : Int64) : sxSp sxM64 (a.toInt + b.toInt) (a + b).toInt := ⟨fun h1 h2 => by rw [Int64.toInt_add, bm64 h1 h2], sxT64 _⟩
theorem sp_sub64 (a b : Int64) : sxSp sxM64 (a.toInt - b.toInt) (a - b).toInt := ⟨fun h1 h2 => by rw [Int64.toInt_sub, bm64 h1 h2], sxT64 _⟩
theorem sp_mul64 (a b : Int64) : sxSp sxM64 (a.toInt * b.toInt) (a * b).toInt := ⟨fun h1 h2 => by rw [Int64.toInt_mul, bm64 h1 h2], sxT64 _⟩
theorem nn32 {a : Int32} (h : 0 ≤ a.toInt) : (a.toBitVec.toNat : Int) = a.toInt ∧ a.toBitVec.toNat < 2147483648 := by
  have h1 : a.toInt = a.toBitVec.toInt := rfl
  have h2 := BitVec.toInt_eq_toNat_cond a.toBitVec
  have h3 := a.toBitVec.isLt
  rw [← h1] at h2
  split at h2 <;> omega
theorem nn64 {a : Int64} (h : 0 ≤ a.toInt) : (a.toBitVec.toNat : Int) = a.toInt ∧ a.toBitVec.toNat < 9223372036854775808 := by
  have h1 : a.toInt = a.toBitVec.toInt := rfl
  have h2 := BitVec.toInt_eq_toNat_cond a.toBitVec
  have h3 := a.toBitVec.isLt
  rw [← h1] at h2
  split at h2 <;> omega
theorem of32 {v : BitVec 32} (h : v.toNat < 2147483648) : v.toInt = (v.toNat : Int) := by
  rw [BitVec.toInt_eq_toNat_cond, if_pos (by omega)]
theorem of64 {v : BitVec 64} (h : v.toNat < 9223372036854775808) : v.toInt = (v.toNat : Int) := by
  rw [BitVec.toInt_eq_toNat_cond, if_pos (by omega)]
/-- and: 0 ≤ .. ≤ any operand that isn't negative -/
def sxSpN (m X Y z : Int) : Prop := ((0 ≤ Y → 0 ≤ z ∧ z ≤ Y) ∧ (0 ≤ X → 0 ≤ z ∧ z ≤ X)) ∧ -m ≤ z ∧ z < m
theorem sp_and32 (a b : Int32) : sxSpN sxM32 a.toInt b.toInt (a &&& b).toInt := by
  have e : (a &&& b).toInt = (a.toBitVec &&& b.toBitVec).toInt := rfl
  refine ⟨⟨fun h => ?_, fun h => ?_⟩, sxT32 _⟩
  · obtain ⟨h1, h2⟩ := nn32 h
    have h3 : (a.toBitVec &&& b.toBitVec).toNat ≤ b.toBitVec.toNat := Nat.and_le_right
    rw [e, of32 (by omega)]
    omega
  · obtain ⟨h1, h2⟩ := nn32 h
    have h3 : (a.toBitVec &&& b.toBitVec).toNat ≤ a.toBitVec.toNat := Nat.and_le_left
    rw [e, of32 (by omega)]
    omega
theorem sp_and64 (a b : Int64) : sxSpN sxM64 a.toInt b.toInt (a &&& b).toInt := by
  have e : (a &&& b).toInt = (a.toBitVec &&& b.toBitVec).toInt := rfl
  refine ⟨⟨fun h => ?_, fun h => ?_⟩, sxT64 _⟩
  · obtain ⟨h1, h2⟩ := nn64 h
    have h3 : (a.toBitVec &&& b.toBitVec).toNat ≤ b.toBitVec.toNat := Nat.and_le_right
    rw [e, of64 (by omega)]
    omega
  · obtain ⟨h1, h2⟩ := nn64 h
    have h3 : (a.toBitVec &&& b.toBitVec).toNat ≤ a.toBitVec.toNat := Nat.and_le_left
    rw [e, of64 (by omega)]
    omega
/-- or, exclusive or: below every power of two that is above both -/
def sxSpO (m X Y z : Int) : Prop := (0 ≤ X → 0 ≤ Y → 0 ≤ z ∧ ∀ k : Nat, X < (2 ^ k : Nat) → Y < (2 ^ k : Nat) → z < (2 ^ k : Nat)) ∧ -m ≤ z ∧ z < m
theorem sp_or32 (a b : Int32) : sxSpO sxM32 a.toInt b.toInt (a ||| b).toInt := by
  have e : (a ||| b).toInt = (a.toBitVec ||| b.toBitVec).toInt := rfl
  refine ⟨fun h1 h2 => ?_, sxT32 _⟩
  obtain ⟨h3, h4⟩ := nn32 h1
  obtain ⟨h5, h6⟩ := nn32 h2
  have key : ∀ k : Nat, a.toBitVec.toNat < 2 ^ k → b.toBitVec.toNat < 2 ^ k → (a.toBitVec ||| b.toBitVec).toNat < 2 ^ k := fun k u v => Nat.or_lt_two_pow u v
  have h7 := key 31 (by simpa using h4) (by simpa using h6)
  rw [e, of32 (by simpa using h7)]
  refine ⟨Int.natCast_nonneg _, fun k hx hy => ?_⟩
  have := key k (by omega) (by omega)
  omega
theorem sp_or64 (a b : Int64) : sxSpO sxM64 a.toInt b.toInt (a ||| b).toInt := by
  have e : (a ||| b).toInt = (a.toBitVec ||| b.toBitVec).toInt := rfl
  refine ⟨fun h1 h2 => ?_, sxT64 _⟩
  obtain ⟨h3, h4⟩ := nn64 h1
  obtain ⟨h5, h6⟩ := nn64 h2
  have key : ∀ k : Nat, a.toBitVec.toNat < 2 ^ k → b.toBitVec.toNat < 2 ^ k → (a.toBitVec ||| b.toBitVec).toNat < 2 ^ k := fun k u v => Nat.or_lt_two_pow u v
  have h7 := key 63 (by simpa using h4) (by simpa using h6)
  rw [e, of64 (by simpa using h7)]
  refine ⟨Int.natCast_nonneg _, fun k hx hy => ?_⟩
  have := key k (by omega) (by omega)
  omega
theorem sp_xor32 (a b : Int32) : sxSpO sxM32 a.toInt b.toInt (a ^^^ b).toInt := by
  have e : (a ^^^ b).toInt = (a.toBitVec ^^^ b.toBitVec).toInt := rfl
  refine ⟨fun h1 h2 => ?_, sxT32 _⟩
  obtain ⟨h3, h4⟩ := nn32 h1
  obtain ⟨h5, h6⟩ := nn32 h2
  have key : ∀ k : Nat, a.toBitVec.toNat < 2 ^ k → b.toBitVec.toNat < 2 ^ k → (a.toBitVec ^^^ b.toBitVec).toNat < 2 ^ k := fun k u v => Nat.xor_lt_two_pow u v
  have h7 := key 31 (by simpa using h4) (by simpa using h6)
  rw [e, of32 (by simpa using h7)]
  refine ⟨Int.natCast_nonneg _, fun k hx hy => ?_⟩
  have := key k (by omega) (by omega)
  omega
theorem sp_xor64 (a b : Int64) : sxSpO sxM64 a.toInt b.toInt (a ^^^ b).toInt := by
  have e : (a ^^^ b).toInt = (a.toBitVec ^^^ b.toBitVec).toInt := rfl
  refine ⟨fun h1 h2 => ?_, sxT64 _⟩
  obtain ⟨h3, h4⟩ := nn64 h1
  obtain ⟨h5, h6⟩ := nn64 h2
  have key : ∀ k : Nat, a.toBitVec.toNat < 2 ^ k → b.toBitVec.toNat < 2 ^ k → (a.toBitVec ^^^ b.toBitVec).toNat < 2 ^ k := fun k u v => Nat.xor_lt_two_pow u v
  have h7 := key 63 (by simpa using h4) (by simpa using h6)
  rw [e, of64 (by simpa using h7)]
  refine ⟨Int.natCast_nonneg _, fun k hx hy => ?_⟩
  have := key k (by omega) (by omega)
  omega
/-- shifts to the left -/
def sxSpL (m w X Y z : Int) : Prop := (0 ≤ X → 0 ≤ Y → Y < w → X * (2 ^ Y.toNat : Nat) < m → z = X * (2 ^ Y.toNat : Nat)) ∧ -m ≤ z ∧ z < m
theorem sm32 : ∀ k : Nat, k < 32 → BitVec.smod (BitVec.ofNat 32 k &&& 31#32) 32#32 = BitVec.ofNat 32 k := by decide +kernel
theorem sm64 : ∀ k : Nat, k < 64 → BitVec.smod ((BitVec.ofNat 32 k).signExtend 64 &&& 63#64) 64#64 = BitVec.ofNat 64 k := by decide +kernel
theorem bv32 {b : Int32} (h : 0 ≤ b.toInt) : b.toBitVec = BitVec.ofNat 32 b.toInt.toNat := by
  have := (nn32 h).1
  rw [show b.toInt.toNat = b.toBitVec.toNat by omega, BitVec.ofNat_toNat, BitVec.setWidth_eq]
theorem sp_shl32 (a b : Int32) : sxSpL sxM32 32 a.toInt b.toInt (a <<< (b &&& 31)).toInt := by
  refine ⟨fun h1 h2 h3 h4 => ?_, sxT32 _⟩
  have e : (a <<< (b &&& 31)).toInt = (a.toBitVec <<< (BitVec.smod (b.toBitVec &&& 31#32) 32#32)).toInt := rfl
  rw [e, bv32 h2, sm32 _ (by omega), BitVec.shiftLeft_eq', BitVec.toNat_ofNat, Nat.mod_eq_of_lt (by omega), BitVec.toInt_shiftLeft]
  obtain ⟨h5, h6⟩ := nn32 h1
  rw [← h5] at h4 ⊢
  have e2 : ((a.toBitVec.toNat <<< b.toInt.toNat : Nat) : Int) = (a.toBitVec.toNat : Int) * (2 ^ b.toInt.toNat : Nat) := by
    rw [Nat.shiftLeft_eq]
    exact Int.natCast_mul _ _
  rw [e2]
  exact bm32 (Int.le_trans (by decide) (Int.mul_nonneg (Int.natCast_nonneg _) (Int.natCast_nonneg _))) h4
theorem sp_shl64 (a : Int64) (b : Int32) : sxSpL sxM64 64 a.toInt b.toInt (a <<< (b.toInt64 &&& 63)).toInt := by
  refine ⟨fun h1 h2 h3 h4 => ?_, sxT64 _⟩
  have e : (a <<< (b.toInt64 &&& 63)).toInt = (a.toBitVec <<< (BitVec.smod (b.toBitVec.signExtend 64 &&& 63#64) 64#64)).toInt := rfl
  rw [e, bv32 h2, sm64 _ (by omega), BitVec.shiftLeft_eq', BitVec.toNat_ofNat, Nat.mod_eq_of_lt (by omega), BitVec.toInt_shiftLeft]
  obtain ⟨h5, h6⟩ := nn64 h1
  rw [← h5] at h4 ⊢
  have e2 : ((a.toBitVec.toNat <<< b.toInt.toNat : Nat) : Int) = (a.toBitVec.toNat : Int) * (2 ^ b.toInt.toNat : Nat) := by
    rw [Nat.shiftLeft_eq]
    exact Int.natCast_mul _ _
  rw [e2]
  exact bm64 (Int.le_trans (by decide) (Int.mul_nonneg (Int.natCast_nonneg _) (Int.natCast_nonneg _))) h4
/-- shifts to the right -/
def sxSpR (m w X Y z : Int) : Prop := (0 ≤ X → (0 ≤ z ∧ z ≤ X) ∧ (0 ≤ Y → Y < w → z = X / (2 ^ Y.toNat : Nat))) ∧ -m ≤ z ∧ z < m
theorem shr_le {X : Int} (n : Nat) (h : 0 ≤ X) : 0 ≤ X >>> n ∧ X >>> n ≤ X := by
  rw [Int.shiftRight_eq_div_pow]
  exact ⟨Int.ediv_nonneg h (Int.natCast_nonneg _), Int.ediv_le_self _ h⟩
theorem sp_shr32 (a b : Int32) : sxSpR sxM32 32 a.toInt b.toInt (a >>> (b &&& 31)).toInt := by
  have e : (a >>> (b &&& 31)).toInt = (a.toBitVec.sshiftRight (BitVec.smod (b.toBitVec &&& 31#32) 32#32).toNat).toInt := rfl
  refine ⟨fun h1 => ⟨?_, fun h2 h3 => ?_⟩, sxT32 _⟩
  · rw [e, BitVec.toInt_sshiftRight]
    exact shr_le _ h1
  · rw [e, bv32 h2, sm32 _ (by omega), BitVec.toNat_ofNat, Nat.mod_eq_of_lt (by omega), BitVec.toInt_sshiftRight, Int.shiftRight_eq_div_pow]
    rfl
theorem sp_shr64 (a : Int64) (b : Int32) : sxSpR sxM64 64 a.toInt b.toInt (a >>> (b.toInt64 &&& 63)).toInt := by
  have e : (a >>> (b.toInt64 &&& 63)).toInt = (a.toBitVec.sshiftRight (BitVec.smod (b.toBitVec.signExtend 64 &&& 63#64) 64#64).toNat).toInt := rfl
  refine ⟨fun h1 => ⟨?_, fun h2 h3 => ?_⟩, sxT64 _⟩
  · rw [e, BitVec.toInt_sshiftRight]
    exact shr_le _ h1
  · rw [e, bv32 h2, sm64 _ (by omega), BitVec.toNat_ofNat, Nat.mod_eq_of_lt (by omega), BitVec.toInt_sshiftRight, Int.shiftRight_eq_div_pow]
    rfl
theorem um32 : ∀ k : Nat, k < 32 → (BitVec.ofNat 32 k &&& 31#32) % 32#32 = BitVec.ofNat 32 k := by decide +kernel
theorem um64 : ∀ k : Nat, k < 64 → ((BitVec.ofNat 32 k).signExtend 64 &&& 63#64) % 64#64 = BitVec.ofNat 64 k := by decide +kernel
theorem ushr_nn32 {v : BitVec 32} (n : Nat) (h : v.toNat < 2147483648) : (v >>> n).toInt = (v.toNat / 2 ^ n : Nat) := by
  have h1 : (v >>> n).toNat = v.toNat / 2 ^ n := by rw [BitVec.toNat_ushiftRight, Nat.shiftRight_eq_div_pow]
  have h2 : v.toNat / 2 ^ n ≤ v.toNat := Nat.div_le_self _ _
  rw [of32 (by omega), h1]
theorem ushr_nn64 {v : BitVec 64} (n : Nat) (h : v.toNat < 9223372036854775808) : (v >>> n).toInt = (v.toNat / 2 ^ n : Nat) := by
  have h1 : (v >>> n).toNat = v.toNat / 2 ^ n := by rw [BitVec.toNat_ushiftRight, Nat.shiftRight_eq_div_pow]
  have h2 : v.toNat / 2 ^ n ≤ v.toNat := Nat.div_le_self _ _
  rw [of64 (by omega), h1]
theorem sp_ushr32 (a b : Int32) : sxSpR sxM32 32 a.toInt b.toInt (a.toUInt32 >>> (b.toUInt32 &&& Int32.toUInt32 31)).toInt32.toInt := by
  have e : (a.toUInt32 >>> (b.toUInt32 &&& Int32.toUInt32 31)).toInt32.toInt = (a.toBitVec >>> ((b.toBitVec &&& 31#32) % 32#32).toNat).toInt := rfl
  refine ⟨fun h1 => ?_, sxT32 _⟩
  obtain ⟨h5, h6⟩ := nn32 h1
  rw [e, ushr_nn32 _ h6]
  refine ⟨⟨Int.natCast_nonneg _, ?_⟩, fun h2 h3 => ?_⟩
  · have : a.toBitVec.toNat / 2 ^ ((b.toBitVec &&& 31#32) % 32#32).toNat ≤ a.toBitVec.toNat := Nat.div_le_self _ _
    omega
  · rw [bv32 h2, um32 _ (by omega), BitVec.toNat_ofNat, Nat.mod_eq_of_lt (by omega), ← h5]
    exact Int.natCast_ediv _ _
theorem sp_ushr64 (a : Int64) (b : Int32) : sxSpR sxM64 64 a.toInt b.toInt (a.toUInt64 >>> (b.toInt64.toUInt64 &&& Int64.toUInt64 63)).toInt64.toInt := by
  have e : (a.toUInt64 >>> (b.toInt64.toUInt64 &&& Int64.toUInt64 63)).toInt64.toInt = (a.toBitVec >>> ((b.toBitVec.signExtend 64 &&& 63#64) % 64#64).toNat).toInt := rfl
  refine ⟨fun h1 => ?_, sxT64 _⟩
  obtain ⟨h5, h6⟩ := nn64 h1
  rw [e, ushr_nn64 _ h6]
  refine ⟨⟨Int.natCast_nonneg _, ?_⟩, fun h2 h3 => ?_⟩
  · have : a.toBitVec.toNat / 2 ^ ((b.toBitVec.signExtend 64 &&& 63#64) % 64#64).toNat ≤ a.toBitVec.toNat := Nat.div_le_self _ _
    omega
  · rw [bv32 h2, um64 _ (by omega), BitVec.toNat_ofNat, Nat.mod_eq_of_lt (by omega), ← h5]
    exact Int.natCast_ediv _ _
/-- what is left of a division -/
def sxSpM (X Y z : Int) : Prop := 0 < Y → (-Y < z ∧ z < Y) ∧ (0 ≤ X → (0 ≤ z ∧ z ≤ X) ∧ z = X % Y)
theorem sp_rem32 (a b : Int32) : sxSpM a.toInt b.toInt (a - a / b * b).toInt := by
  intro h
  have hb : b ≠ -1 := fun q => by rw [q] at h; revert h; decide
  have e1 : (a / b).toInt = a.toInt.tdiv b.toInt := Int32.toInt_div_of_ne_right a b hb
  have h3 := Int.tmod_add_tdiv_mul a.toInt b.toInt
  have h4 : (a.toInt.tmod b.toInt).natAbs < b.toInt.natAbs := by
    rw [Int.natAbs_tmod]
    exact Nat.mod_lt _ (by omega)
  have ha := sxT32 a
  have hb2 := sxT32 b
  have hz : a.toInt - a.toInt.tdiv b.toInt * b.toInt = a.toInt.tmod b.toInt := by omega
  have h6 : (a - a / b * b).toInt = a.toInt.tmod b.toInt := by
    rw [Int32.toInt_sub, Int32.toInt_mul, e1, Int.sub_bmod_bmod, hz]
    exact bm32 (by omega) (by omega)
  rw [h6]
  refine ⟨by omega, fun hx => ?_⟩
  have h7 : 0 ≤ a.toInt.tmod b.toInt := Int.tmod_nonneg _ hx
  refine ⟨⟨h7, ?_⟩, Int.tmod_eq_emod_of_nonneg hx⟩
  have h8 : 0 ≤ a.toInt.tdiv b.toInt := Int.tdiv_nonneg hx (by omega)
  have h9 : 0 ≤ a.toInt.tdiv b.toInt * b.toInt := Int.mul_nonneg h8 (by omega)
  omega
end SXALU

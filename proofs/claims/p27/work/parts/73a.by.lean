section T1
theorem byBv {b : BitVec 32} {s : Nat} (hs : s ≤ 24) : (b >>> s).setWidth 8 = (b.sshiftRight s).setWidth 8 := by
  apply BitVec.eq_of_getLsbD_eq
  intro i hi
  rw [BitVec.getLsbD_setWidth, BitVec.getLsbD_setWidth, BitVec.getLsbD_ushiftRight, BitVec.getLsbD_sshiftRight]
  have h1 : ¬ (32 ≤ i) := by omega
  have h2 : s + i < 32 := by omega
  simp [h1, h2, hi]
theorem byI8 (t : Int32) : t.toInt8.toInt32.toInt = (t.toBitVec.setWidth 8).toInt := by
  rw [Int8.toInt_toInt32]
  show (t.toBitVec.signExtend 8).toInt = _
  rw [BitVec.signExtend_eq_setWidth_of_le _ (by decide)]
theorem byAnd (u : Int32) : (u &&& Int32.ofInt 255).toInt = ((u.toBitVec.setWidth 8).toNat : Int) := by
  have h1 : (u &&& Int32.ofInt 255).toBitVec = u.toBitVec &&& 255#32 := rfl
  have h2 : (u.toBitVec &&& 255#32).toNat = u.toBitVec.toNat % 2 ^ 8 := by
    rw [BitVec.toNat_and]
    exact Nat.and_two_pow_sub_one_eq_mod _ 8
  have h3 : (u.toBitVec.setWidth 8).toNat = u.toBitVec.toNat % 2 ^ 8 := BitVec.toNat_setWidth _ _
  show (u &&& Int32.ofInt 255).toBitVec.toInt = _
  rw [h1, BitVec.toInt_eq_toNat_of_lt (by rw [h2]; omega), h2, h3]
theorem byTie {x : Int32} {s : Nat} {t u : Int32} (hs : s ≤ 24) (ht : t.toBitVec = x.toBitVec >>> s) (hu : u.toBitVec = x.toBitVec.sshiftRight s) :
    (0 ≤ (u &&& Int32.ofInt 255).toInt ∧ (u &&& Int32.ofInt 255).toInt ≤ 255) ∧ (u &&& Int32.ofInt 255).toInt = if t.toInt8.toInt32.toInt < 0 then t.toInt8.toInt32.toInt + 256 else t.toInt8.toInt32.toInt := by
  rw [byI8, byAnd, ht, hu, byBv hs]
  generalize (x.toBitVec.sshiftRight s).setWidth 8 = c
  have h1 := c.isLt
  have h2 := BitVec.toInt_eq_toNat_cond c
  refine ⟨⟨by omega, by omega⟩, ?_⟩
  split at h2 <;> split <;> omega
end T1
section T2
theorem bySh {x : Int32} {s : Int} (hs : s = 0 ∨ s = 8 ∨ s = 16 ∨ s = 24) : ∃ k : Nat, k ≤ 24 ∧ ((x.toUInt32) >>> ((Int32.ofInt s).toUInt32 &&& Int32.toUInt32 31)).toInt32.toBitVec = x.toBitVec >>> k ∧ (x >>> (Int32.ofInt s &&& 31)).toBitVec = x.toBitVec.sshiftRight k := by
  rcases hs with rfl | rfl | rfl | rfl
  · exact ⟨0, by decide, rfl, rfl⟩
  · exact ⟨8, by decide, rfl, rfl⟩
  · exact ⟨16, by decide, rfl, rfl⟩
  · exact ⟨24, by decide, rfl, rfl⟩
/-- a byte of a number, as the class keeps it and as the reference does -/
theorem bySem {T : Nat} {n s t u v w : Int} (hs : s = 0 ∨ s = 8 ∨ s = 16 ∨ s = 24) (h1 : sxSem T 8 n s = t) (h2 : sxSem T 19 t 0 = v) (h3 : sxSem T 7 n s = u) (h4 : sxSem T 2 u 255 = w) : ((0 ≤ w ∧ w ≤ 255) ∧ -128 ≤ v ∧ v ≤ 127) ∧ w = if v < 0 then v + 256 else v := by
  obtain ⟨k, k1, k2, k3⟩ := bySh (x := Int32.ofInt n) hs
  have h1 : ((Int32.ofInt n).toUInt32 >>> ((Int32.ofInt s).toUInt32 &&& Int32.toUInt32 31)).toInt32.toInt = t := h1
  have h2 : ((Int32.ofInt t).toInt8.toInt32).toInt = v := h2
  have h3 : (Int32.ofInt n >>> (Int32.ofInt s &&& 31)).toInt = u := h3
  have h4 : (Int32.ofInt u &&& Int32.ofInt 255).toInt = w := h4
  rw [← h1, Int32.ofInt_toInt] at h2
  rw [← h3, Int32.ofInt_toInt] at h4
  have key := byTie k1 k2 k3
  rw [h2, h4] at key
  have r : -128 ≤ v ∧ v ≤ 127 := by
    rw [← h2, byI8]
    generalize BitVec.setWidth 8 _ = c
    have h1 := c.isLt
    have h2 := BitVec.toInt_eq_toNat_cond c
    split at h2 <;> omega
  exact ⟨⟨key.1, r⟩, key.2⟩
end T2

/-! sets of SLIPS: what the tables say of a set, and of one with a SLIP more -/
noncomputable section SETS
theorem cmIx : (List.range 12).all (fun d => decide ((BitVec.smod ((Int32.ofInt (d : Int)).toBitVec &&& 31#32) 32#32).toNat = d)) = true := by decide +kernel
theorem cmI_nat {r d : Nat} (hr : r < 4096) (hd : d < 12) : cmI (r : Int) d = ((r.testBit d).toNat : Int) := by
  have hj := of_decide_eq_true (List.all_eq_true.mp cmIx d (List.mem_range.mpr hd))
  have e32 : ((2 ^ 32 : Nat) : Int) = 4294967296 := rfl
  have e1 : (Int32.ofInt (r : Int)).toBitVec.toNat = r := by
    show (BitVec.ofInt 32 (r : Int)).toNat = r
    rw [BitVec.toNat_ofInt]
    omega
  have hm : (Int32.ofInt (r : Int)).toBitVec.msb = false := by
    rw [BitVec.msb_eq_decide, e1]
    exact decide_eq_false (by show ¬ 2 ^ 31 ≤ r; omega)
  have e2 : (Int32.ofInt (r : Int) >>> (Int32.ofInt (d : Int) &&& 31)).toBitVec = (Int32.ofInt (r : Int)).toBitVec >>> d := by
    have : (Int32.ofInt (r : Int) >>> (Int32.ofInt (d : Int) &&& 31)).toBitVec = (Int32.ofInt (r : Int)).toBitVec.sshiftRight (BitVec.smod ((Int32.ofInt (d : Int)).toBitVec &&& 31#32) 32#32).toNat := rfl
    rw [this, hj, BitVec.sshiftRight_eq_of_msb_false hm]
  unfold cmI
  rw [Int32.ofInt_toInt]
  have e3 : (Int32.ofInt (r : Int) >>> (Int32.ofInt (d : Int) &&& 31) &&& Int32.ofInt 1).toBitVec.toNat = r / 2 ^ d % 2 := by
    show ((Int32.ofInt (r : Int) >>> (Int32.ofInt (d : Int) &&& 31)).toBitVec &&& 1#32).toNat = _
    rw [e2, BitVec.toNat_and, BitVec.toNat_ushiftRight, e1, Nat.shiftRight_eq_div_pow, show (1#32).toNat = 1 from rfl, Nat.and_one_is_mod]
  have hlt : r / 2 ^ d % 2 < 2 := Nat.mod_lt _ (by decide)
  show (Int32.ofInt (r : Int) >>> (Int32.ofInt (d : Int) &&& 31) &&& Int32.ofInt 1).toBitVec.toInt = _
  rw [BitVec.toInt_eq_toNat_cond, e3, Nat.testBit_eq_decide_div_mod_eq]
  have e32 : (2 : Nat) ^ 32 = 4294967296 := rfl
  rw [if_pos (by omega)]
  by_cases hq : r / 2 ^ d % 2 = 1
  · rw [hq]; rfl
  · rw [decide_eq_false hq, show r / 2 ^ d % 2 = 0 by omega]; rfl
theorem cmS_nat {r d : Nat} (hr : r < 4096) (hd : d < 12) : cmS (r : Int) d = ((r ||| 2 ^ d : Nat) : Int) := by
  have e0 : tSh d = ((2 ^ d : Nat) : Int) := tSh_of (k := d) (by omega)
  have hp : 2 ^ d < 2 ^ 12 := Nat.pow_lt_pow_right (by decide) hd
  have e12 : (2 : Nat) ^ 12 = 4096 := rfl
  have hor : r ||| 2 ^ d < 2 ^ 12 := Nat.or_lt_two_pow (by omega) hp
  unfold cmS
  rw [e0]
  have e1 : (Int32.ofInt (r : Int) ||| Int32.ofInt ((2 ^ d : Nat) : Int)).toBitVec.toNat = r ||| 2 ^ d := by
    show ((BitVec.ofInt 32 (r : Int)) ||| (BitVec.ofInt 32 ((2 ^ d : Nat) : Int))).toNat = _
    rw [BitVec.toNat_or, BitVec.toNat_ofInt, BitVec.toNat_ofInt]
    have e32 : ((2 ^ 32 : Nat) : Int) = 4294967296 := rfl
    have a1 : ((r : Int) % ((2 ^ 32 : Nat) : Int)).toNat = r := by omega
    have a2 : (((2 ^ d : Nat) : Int) % ((2 ^ 32 : Nat) : Int)).toNat = 2 ^ d := by
      generalize 2 ^ d = w at hp ⊢
      omega
    rw [a1, a2]
  show (Int32.ofInt (r : Int) ||| Int32.ofInt ((2 ^ d : Nat) : Int)).toBitVec.toInt = _
  rw [BitVec.toInt_eq_toNat_cond, e1]
  have e32 : (2 : Nat) ^ 32 = 4294967296 := rfl
  rw [if_pos (by omega)]
theorem cmS_in {r k : Nat} (hr : r < 4096) (hk : k < 12) : cmS (r : Int) k = (r : Int) ↔ cmI (r : Int) k = 1 := by
  rw [cmS_nat hr hk, cmI_nat hr hk]
  constructor
  · intro h
    have h : r ||| 2 ^ k = r := Int.ofNat_inj.mp h
    have h2 : (r ||| 2 ^ k).testBit k = true := by rw [Nat.testBit_or, Nat.testBit_two_pow, decide_eq_true rfl, Bool.or_true]
    rw [h] at h2
    rw [h2]
    rfl
  · intro h
    have h : r.testBit k = true := by
      cases e : r.testBit k with
      | true => rfl
      | false =>
        rw [e] at h
        exact absurd h (by decide)
    have h2 : r ||| 2 ^ k = r := Nat.eq_of_testBit_eq (fun i => by
      rw [Nat.testBit_or, Nat.testBit_two_pow]
      by_cases e : k = i
      · subst e
        rw [h, Bool.true_or]
      · rw [decide_eq_false e, Bool.or_false])
    rw [h2]
theorem cmS_up {r k : Nat} (hr : r < 4096) (hk : k < 12) (h : cmI (r : Int) k = 0) : (r : Int) < cmS (r : Int) k := by
  have h1 : ¬ cmS (r : Int) k = (r : Int) := fun e => by
    rw [(cmS_in hr hk).mp e] at h
    exact absurd h (by decide)
  rw [cmS_nat hr hk] at h1 ⊢
  have h2 : r ≤ r ||| 2 ^ k := Nat.left_le_or
  omega
variable {T : Nat}
theorem tCM_s {a : Int} {k : Nat} : tCM T a (k + 1) = if cmI a k = 1 then (Int64.ofInt (tCM T a k) &&& Int64.ofInt (tUl T k)).toInt else tCM T a k := rfl
theorem tCM_congr {a b : Int} : ∀ k, (∀ j, j < k → cmI a j = cmI b j) → tCM T a k = tCM T b k
  | 0, _ => rfl
  | k + 1, h => by rw [tCM_s, tCM_s, tCM_congr k (fun j hj => h j (by omega)), h k (by omega)]
theorem tCM_hi {a : Int} {m : Nat} : ∀ d, (∀ j, m ≤ j → j < m + d → ¬ cmI a j = 1) → tCM T a (m + d) = tCM T a m
  | 0, _ => rfl
  | d + 1, h => by
    rw [show m + (d + 1) = m + d + 1 from rfl, tCM_s, if_neg (h (m + d) (by omega) (by omega))]
    exact tCM_hi d (fun j h1 h2 => h j h1 (by omega))
/-- a set of SLIPS below k: all its members lie below k -/
theorem tCM_lt {n k : Nat} (hk : k ≤ 12) (hn : n < 2 ^ k) : tCM T (n : Int) 12 = tCM T (n : Int) k := by
  have hp : 2 ^ k ≤ 2 ^ 12 := Nat.pow_le_pow_right (by decide) hk
  have e12 : (2 : Nat) ^ 12 = 4096 := rfl
  have h := tCM_hi (T := T) (a := (n : Int)) (m := k) (12 - k) (fun j h1 h2 q => by
    rw [cmI_nat (by omega) (by omega), Nat.testBit_lt_two_pow (Nat.lt_of_lt_of_le hn (Nat.pow_le_pow_right (by decide) h1))] at q
    exact absurd q (by decide))
  rw [show k + (12 - k) = 12 by omega] at h
  exact h
theorem tCM_add {n k : Nat} (hk : k < 12) (hn : n < 2 ^ k) : tCM T ((n + 2 ^ k : Nat) : Int) 12 = (Int64.ofInt (tCM T (n : Int) 12) &&& Int64.ofInt (tUl T k)).toInt := by
  have hp : 2 ^ (k + 1) ≤ 2 ^ 12 := Nat.pow_le_pow_right (by decide) hk
  have e12 : (2 : Nat) ^ 12 = 4096 := rfl
  have e2 : 2 ^ (k + 1) = 2 * 2 ^ k := by rw [Nat.pow_succ]; omega
  have ev : n + 2 ^ k = 2 ^ k + n := Nat.add_comm _ _
  have hb : ∀ j, j < 12 → cmI ((n + 2 ^ k : Nat) : Int) j = (((n + 2 ^ k).testBit j).toNat : Int) := fun j hj => cmI_nat (by omega) hj
  have hb0 : ∀ j, j < 12 → cmI (n : Int) j = ((n.testBit j).toNat : Int) := fun j hj => cmI_nat (by omega) hj
  have c1 : cmI ((n + 2 ^ k : Nat) : Int) k = 1 := by
    rw [hb k hk, ev, Nat.testBit_two_pow_add_eq, Nat.testBit_lt_two_pow hn]
    rfl
  have c2 : tCM T ((n + 2 ^ k : Nat) : Int) k = tCM T (n : Int) k := tCM_congr k (fun j hj => by
    rw [hb j (by omega), hb0 j (by omega), ev, Nat.testBit_two_pow_add_gt hj])
  rw [tCM_lt (k := k + 1) (by omega) (by omega), tCM_s, if_pos c1, c2, tCM_lt (n := n) (k := k) (by omega) hn]
theorem tWo_s {a : Int} {k : Nat} : tWo T a (k + 1) = if cmI a k = 1 ∨ tCM T (cmS a k) 12 = 0 then tWo T a k else 0 := rfl
theorem tWo_0 {a : Int} (h : tCM T a 12 = 0) : ∀ k, tWo T a k = 0
  | 0 => if_pos h
  | k + 1 => by
    rw [tWo_s]
    split
    · exact tWo_0 h k
    · rfl
theorem tWo_dn {a : Int} {k : Nat} (h : tWo T a k = 0) : ∀ d, tWo T a (k + d) = 0
  | 0 => h
  | d + 1 => by
    rw [show k + (d + 1) = k + d + 1 from rfl, tWo_s]
    split
    · exact tWo_dn h d
    · rfl
theorem tFC_s {s : Nat} : tFC T (s + 1) = if tCM T (s : Int) 12 = 0 then tFC T s else tFC T s + 1 := rfl
theorem tGR_s {s : Nat} : tGR T (s + 1) = if tCM T (s : Int) 12 = 0 then tGR T s else if tGR T s = -1 ∨ tPc (tGR T s) < tPc (s : Int) then (s : Int) else tGR T s := rfl
theorem tCR_s {s : Nat} : tCR T (s + 1) = if tCM T (s : Int) 12 = 0 then (if tCR T s = -1 ∨ tPc (s : Int) < tPc (tCR T s) then (s : Int) else tCR T s) else tCR T s := rfl
theorem tWC_s {n s : Nat} : tWC T n (s + 1) = if tWo T (s : Int) n = 1 then tWC T n s + 1 else tWC T n s := rfl
theorem tWA_s {n s : Nat} {i : Int} : tWA T n i (s + 1) = if tWo T (s : Int) n = 1 ∧ tWC T n s = i then (s : Int) else tWA T n i s := rfl
theorem tWC_mo {n s : Nat} : ∀ d, tWC T n s ≤ tWC T n (s + d)
  | 0 => Int.le_refl _
  | d + 1 => by
    have ih := tWC_mo (n := n) (s := s) d
    rw [show s + (d + 1) = s + d + 1 from rfl, tWC_s]
    split <;> omega
theorem tWA_no {n : Nat} {i : Int} : ∀ m, tWC T n m ≤ i ∨ i < 0 → tWA T n i m = -1
  | 0, _ => rfl
  | m + 1, h => by
    have h0 := (tWC_rg T n m).1
    rw [tWA_s]
    rw [tWC_s] at h
    split at h
    · rw [if_neg (fun q => by have := q.2; omega)]
      exact tWA_no m (by omega)
    · rename_i e
      rw [if_neg (fun q => by exact e q.1)]
      exact tWA_no m h
theorem tWA_of {n s : Nat} {i : Int} (h1 : tWo T (s : Int) n = 1) (h2 : tWC T n s = i) : ∀ d, tWA T n i (s + 1 + d) = (s : Int)
  | 0 => by
    rw [Nat.add_zero, tWA_s]
    exact if_pos ⟨h1, h2⟩
  | d + 1 => by
    have hm := tWC_mo (T := T) (n := n) (s := s + 1) d
    rw [tWC_s, if_pos h1] at hm
    rw [show s + 1 + (d + 1) = s + 1 + d + 1 from rfl, tWA_s, if_neg (fun q => by have := q.2; omega)]
    exact tWA_of h1 h2 d
theorem tSe_0 {n : Nat} : tSe T 0 n = tFC T (2 ^ n) := by
  unfold tSe
  exact if_pos rfl
theorem tSe_1 {n : Nat} : tSe T 1 n = tGR T (2 ^ n) := by
  unfold tSe
  rw [if_neg (by decide), if_pos rfl]
theorem tSe_2 {n : Nat} : tSe T 2 n = tWC T n (2 ^ n) := by
  unfold tSe
  rw [if_neg (by decide), if_neg (by decide), if_pos rfl]
theorem tSe_3 {n : Nat} : tSe T 3 n = tCR T (2 ^ n) := by
  unfold tSe
  rw [if_neg (by decide), if_neg (by decide), if_neg (by decide)]
/-- bits counted, of small numbers -/
theorem pN_0 : ∀ m, pN m 0 = 0
  | 0 => rfl
  | m + 1 => by
    have e := pN_0 m
    show 0 % 2 + pN m (0 / 2) = 0
    rw [show (0 : Nat) / 2 = 0 from rfl]
    omega
theorem pN_up : ∀ (k m n : Nat), n < 2 ^ k → pN (k + m) n = pN k n
  | 0, m, n, h => by
    have e : n = 0 := by
      have : (2 : Nat) ^ 0 = 1 := rfl
      omega
    subst e
    rw [pN_0, pN_0]
  | k + 1, m, n, h => by
    have e2 : 2 ^ (k + 1) = 2 * 2 ^ k := by rw [Nat.pow_succ]; omega
    have ih := pN_up k m (n / 2) (by omega)
    rw [show k + 1 + m = k + m + 1 by omega]
    show n % 2 + pN (k + m) (n / 2) = n % 2 + pN k (n / 2)
    rw [ih]
theorem tPc_of {x : Int} (h0 : 0 ≤ x) (h1 : x ≤ 4095) : sxSem T 55 x 0 = (tPc x : Int) ∧ sxSem T 54 x 0 = (tPc x : Int) ∧ tPc x ≤ 12 := by
  have hn : x.toNat < 2 ^ 12 := by
    have : (2 : Nat) ^ 12 = 4096 := rfl
    omega
  have e1 : (x % 4294967296).toNat = x.toNat := by omega
  have e2 : (x % 18446744073709551616).toNat = x.toNat := by omega
  have a1 : pN 32 x.toNat = pN 12 x.toNat := pN_up 12 20 x.toNat hn
  have a2 : pN 64 x.toNat = pN 12 x.toNat := pN_up 12 52 x.toNat hn
  have ep : tPc x = pN 12 x.toNat := by
    unfold tPc
    rw [e1, a1]
  refine ⟨rfl, ?_, ?_⟩
  · show ((pN 64 (x % 18446744073709551616).toNat : Nat) : Int) = _
    rw [e2, a2, ep]
  · rw [ep]
    exact pN_le 12 x.toNat
end SETS

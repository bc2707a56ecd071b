/-! SX: what an operation gives; the text that is read, and what stands in it -/
noncomputable section SXSEM
/-- lists gone through -/
def sxAll {α : Type} (l : List α) (p : α → Bool) : Bool := @List.rec α (fun _ => Bool) true (fun a _ ih => @Bool.rec (fun _ => Bool) false ih (p a)) l
theorem sxAll_mp {α : Type} {l : List α} {p : α → Bool} (h : sxAll l p = true) : ∀ x, x ∈ l → p x = true := by
  induction l with
  | nil => intro x hx; cases hx
  | cons a r ih =>
    have h : @Bool.rec (fun _ => Bool) false (sxAll r p) (p a) = true := h
    cases ha : p a with
    | false => rw [ha] at h; cases h
    | true =>
      rw [ha] at h
      intro x hx
      rcases List.mem_cons.mp hx with e | hx
      · rw [e]; exact ha
      · exact ih h x hx
def sxHas {α : Type} (l : List α) (p : α → Bool) : Bool := @List.rec α (fun _ => Bool) false (fun a _ ih => @Bool.rec (fun _ => Bool) ih true (p a)) l
def sxMap {α β : Type} (f : α → β) (l : List α) : List β := @List.rec α (fun _ => List β) [] (fun a _ ih => f a :: ih) l
theorem sxMap_mem {α β : Type} {f : α → β} {l : List α} {a : α} (h : a ∈ l) : f a ∈ sxMap f l := by
  induction l with
  | nil => cases h
  | cons b r ih =>
    show f a ∈ f b :: sxMap f r
    rcases List.mem_cons.mp h with e | h
    · rw [e]; exact List.mem_cons_self
    · exact List.mem_cons_of_mem _ (ih h)
/-- a number laid out, then on -/
def bFc {α : Type} (n : Nat) (f : Nat → α) : α := @Nat.rec (fun _ => α) (f Nat.zero) (fun m _ => f (Nat.succ m)) n
theorem bFc_eq {α : Type} (n : Nat) (f : Nat → α) : bFc n f = f n := by cases n <;> rfl
/-- a text as one number: how long it is, its bytes -/
def tLn (T : Nat) : Nat := Nat.min (T % 1024) 600
def tTx (T : Nat) (k : Nat) : Nat := T / 1024 / 256 ^ k % 256
/-- the byte at a place; behind the end, and ahead of it: none -/
def tBy (T : Nat) (p : Int) : Int := if 0 ≤ p ∧ p < tLn T then (tTx T p.toNat : Int) else -1
/-- how far such bytes go -/
def tRun (f : Int → Bool) : Nat → Int → Int
  | 0, p => p
  | n + 1, p => if f p then tRun f n (p + 1) else p
def tBk (T : Nat) (p : Int) : Bool := decide (tBy T p = 32)
def tLt (T : Nat) (p : Int) : Bool := decide (97 ≤ tBy T p) && decide (tBy T p ≤ 122)
def tDg (T : Nat) (p : Int) : Bool := decide (48 ≤ tBy T p) && decide (tBy T p ≤ 57)
/-- in its place -/
def tIn (p : Int) (z : Int) : Int := if 0 ≤ p ∧ p ≤ 600 then z else 0
def tSk (T : Nat) (p : Int) : Int := tIn p (tRun (tBk T) 601 p)
def tWe (T : Nat) (p : Int) : Int := tIn p (tRun (tLt T) 601 p)
def tNe (T : Nat) (p : Int) : Int := tIn p (tRun (tDg T) 601 p)
/-- so many digits from here on, as a number that is capped -/
def tVl (T : Nat) (c : Int) (p : Int) : Nat → Int
  | 0 => 0
  | k + 1 => if 10 * tVl T c p k + (tBy T (p + k) - 48) ≤ c then 10 * tVl T c p k + (tBy T (p + k) - 48) else c
/-- so many letters from here on, by 27s -/
def tCo (T : Nat) (p : Int) : Nat → Int
  | 0 => 0
  | k + 1 => 27 * tCo T p k + (tBy T (p + k) - 96)
def tCl (lo hi z : Int) : Int := if z < lo then lo else if hi < z then hi else z
def tNv (T : Nat) (c : Int) (p : Int) : Int := tCl 0 c (tVl T c p (tNe T p - p).toNat)
def tCw (T : Nat) (p : Int) : Int := if 6 < tWe T p - p then -1 else tCl 0 387420488 (tCo T p (tWe T p - p).toNat)
/-- all worlds of so many atoms; those in which an atom is so -/
def tAll (a : Int) : Int := if 6 ≤ a then -1 else Int.ofNat (2 ^ (2 ^ a.toNat)) - 1
def tAtm (k : Int) : Int := if k = 0 then -6148914691236517206 else if k = 1 then -3689348814741910324 else if k = 2 then -1085102592571150096 else if k = 3 then -71777214294589696 else if k = 4 then -281470681808896 else -4294967296
theorem tAll_rg (a : Int) : -9223372036854775808 ≤ tAll a ∧ tAll a ≤ 9223372036854775807 := by
  unfold tAll
  split
  · omega
  · have h : a.toNat ≤ 5 := by omega
    have h1 : 2 ^ a.toNat ≤ 2 ^ 5 := Nat.pow_le_pow_right (by decide) h
    have h2 : 2 ^ (2 ^ a.toNat) ≤ 2 ^ 32 := Nat.pow_le_pow_right (by decide) h1
    have h3 : 0 < 2 ^ (2 ^ a.toNat) := Nat.pow_pos (by decide)
    generalize 2 ^ (2 ^ a.toNat) = w at h2 h3
    have h2 : w ≤ 4294967296 := h2
    simp only [Int.ofNat_eq_natCast]
    omega
theorem tAtm_rg (k : Int) : -9223372036854775808 ≤ tAtm k ∧ tAtm k ≤ 9223372036854775807 := by
  unfold tAtm
  repeat' split
  all_goals omega
theorem i64_rg (x : Int64) : -9223372036854775808 ≤ x.toInt ∧ x.toInt ≤ 9223372036854775807 := by
  have h1 := Int64.le_toInt x
  have h2 := Int64.toInt_lt x
  have h1 : -9223372036854775808 ≤ x.toInt := by simpa using h1
  have h2 : x.toInt < 9223372036854775808 := by simpa using h2
  omega
/-- behind the text: rows of numbers -/
def tPw (n : Nat) : Nat := 1024 * 256 ^ n
def tUn (T : Nat) (j : Nat) : Nat := T / tPw 600 / 18446744073709551616 ^ j % 18446744073709551616
def tUl (T : Nat) (j : Nat) : Int := (Int64.ofNat (tUn T j)).toInt
/-- the text's week; what is LEFT in it behind so many SEEINGS, by the text's rows -/
def tWk (T : Nat) : Int := tCl 0 51 (tUl T 63)
def tLF (T : Nat) (a : Int) : Nat → Int
  | 0 => tAll a
  | k + 1 => if tCl 0 63 (tUl T (51 + k)) ≤ tWk T then (Int64.ofInt (tLF T a k) &&& Int64.ofInt (tUl T (34 + k))).toInt else tLF T a k
theorem tLF_rg {T : Nat} (a : Int) : ∀ k, -9223372036854775808 ≤ tLF T a k ∧ tLF T a k ≤ 9223372036854775807
  | 0 => tAll_rg a
  | k + 1 => by
    unfold tLF
    split
    · exact i64_rg _
    · exact tLF_rg a k
/-- one bit -/
def tBit (m v : Int) : Nat := (m % 18446744073709551616).toNat / 2 ^ v.toNat % 2
def tSh (k : Nat) : Int := (Int32.ofInt 1 <<< (Int32.ofInt (k : Int) &&& 31)).toInt
/-- SLIPS so in a WORLD, of the first ones: as bits, as a count -/
def tBi (T : Nat) (v : Int) : Nat → Int
  | 0 => 0
  | k + 1 => if tBit (tUl T k) v = 1 then (Int32.ofInt (tBi T v k) ||| Int32.ofInt (tSh k)).toInt else tBi T v k
def tCn (T : Nat) (v : Int) : Nat → Int
  | 0 => 0
  | k + 1 => tCn T v k + tBit (tUl T k) v
/-- SLIPS that follow, of the first ones -/
def tFo (T : Nat) (x : Int) : Nat → Int
  | 0 => 0
  | k + 1 => if (Int64.ofInt x &&& Int64.ofInt (Int64.ofInt (tUl T k) ^^^ Int64.ofInt (-1)).toInt).toInt = 0 then (Int32.ofInt (tFo T x k) ||| Int32.ofInt (tSh k)).toInt else tFo T x k
theorem tSh_eq : (List.range 31).all (fun k => decide (tSh k = ((2 ^ k : Nat) : Int))) = true := by decide +kernel
theorem tSh_of {k : Nat} (hk : k < 31) : tSh k = ((2 ^ k : Nat) : Int) := of_decide_eq_true (List.all_eq_true.mp tSh_eq k (List.mem_range.mpr hk))
/-- bits below k, and one more -/
theorem tOr {x : Int} {k : Nat} (hk : k < 31) (h0 : 0 ≤ x) (h1 : x < ((2 ^ k : Nat) : Int)) : (Int32.ofInt x ||| Int32.ofInt (tSh k)).toInt = x + ((2 ^ k : Nat) : Int) := by
  rw [tSh_of hk]
  have hp : 2 ^ k ≤ 2 ^ 30 := Nat.pow_le_pow_right (by decide) (by omega)
  have hp0 : 0 < 2 ^ k := Nat.two_pow_pos k
  have e30 : (2 : Nat) ^ 30 = 1073741824 := rfl
  obtain ⟨n, rfl⟩ : ∃ n : Nat, x = (n : Int) := ⟨x.toNat, by omega⟩
  have hn : n < 2 ^ k := by omega
  have ev : (n ||| 2 ^ k) = n + 2 ^ k := by
    have := Nat.two_pow_add_eq_or_of_lt hn 1
    rw [Nat.mul_one] at this
    rw [Nat.or_comm, ← this]
    omega
  have e1 : (Int32.ofInt (n : Int) ||| Int32.ofInt ((2 ^ k : Nat) : Int)).toBitVec.toNat = n + 2 ^ k := by
    show ((BitVec.ofInt 32 (n : Int)) ||| (BitVec.ofInt 32 ((2 ^ k : Nat) : Int))).toNat = _
    rw [BitVec.toNat_or, BitVec.toNat_ofInt, BitVec.toNat_ofInt]
    have a1 : ((n : Int) % ((2 ^ 32 : Nat) : Int)).toNat = n := by
      have : ((2 ^ 32 : Nat) : Int) = 4294967296 := rfl
      omega
    have a2 : (((2 ^ k : Nat) : Int) % ((2 ^ 32 : Nat) : Int)).toNat = 2 ^ k := by
      have : ((2 ^ 32 : Nat) : Int) = 4294967296 := rfl
      omega
    rw [a1, a2, ev]
  show (Int32.ofInt (n : Int) ||| Int32.ofInt ((2 ^ k : Nat) : Int)).toBitVec.toInt = _
  rw [BitVec.toInt_eq_toNat_cond, e1]
  have e32 : (2 : Nat) ^ 32 = 4294967296 := rfl
  rw [if_pos (by omega)]
  omega
theorem tBit_lt (m v : Int) : tBit m v < 2 := Nat.mod_lt _ (by decide)
theorem tBi_rg (T : Nat) (v : Int) : ∀ k, k ≤ 31 → 0 ≤ tBi T v k ∧ tBi T v k < ((2 ^ k : Nat) : Int)
  | 0, _ => ⟨Int.le_refl _, by show (0 : Int) < ((2 ^ 0 : Nat) : Int); decide⟩
  | k + 1, h => by
    have ih := tBi_rg T v k (by omega)
    have hp : 2 ^ (k + 1) = 2 * 2 ^ k := by rw [Nat.pow_succ]; omega
    unfold tBi
    split
    · rw [tOr (by omega) ih.1 ih.2]
      omega
    · omega
theorem tCn_rg (T : Nat) (v : Int) : ∀ k, 0 ≤ tCn T v k ∧ tCn T v k ≤ (k : Int)
  | 0 => ⟨Int.le_refl _, Int.le_refl _⟩
  | k + 1 => by
    have ih := tCn_rg T v k
    have := tBit_lt (tUl T k) v
    unfold tCn
    omega
theorem tFo_rg (T : Nat) (x : Int) : ∀ k, -2147483648 ≤ tFo T x k ∧ tFo T x k ≤ 2147483647
  | 0 => ⟨by show (-2147483648 : Int) ≤ 0; decide, by show (0 : Int) ≤ 2147483647; decide⟩
  | k + 1 => by
    unfold tFo
    split
    · have h1 := Int32.le_toInt (Int32.ofInt (tFo T x k) ||| Int32.ofInt (tSh k))
      have h2 := Int32.toInt_lt (Int32.ofInt (tFo T x k) ||| Int32.ofInt (tSh k))
      omega
    · exact tFo_rg T x k
/-- the bits counted -/
theorem pN_32_0 : pN 32 0 = 0 := by decide +kernel
theorem tBi_cn (T : Nat) (v : Int) : ∀ k, k ≤ 31 → ((pN 32 (tBi T v k).toNat : Nat) : Int) = tCn T v k
  | 0, _ => by
    show ((pN 32 0 : Nat) : Int) = 0
    rw [pN_32_0]
    rfl
  | k + 1, h => by
    have ih := tBi_cn T v k (by omega)
    have rg := tBi_rg T v k (by omega)
    have lt := tBit_lt (tUl T k) v
    unfold tBi tCn
    split
    · rename_i e
      rw [tOr (by omega) rg.1 rg.2, e, ← ih]
      have key : ∀ (j n : Nat), n < 2 ^ j → ∀ m, pN (j + 1 + m) (n + 2 ^ j) = pN (j + 1 + m) n + 1 := by
        intro j
        induction j with
        | zero =>
          intro n hn m
          have : n = 0 := by omega
          subst this
          rw [show 0 + 1 + m = m + 1 by omega]
          show (0 + 1) % 2 + pN m ((0 + 1) / 2) = 0 % 2 + pN m (0 / 2) + 1
          rw [show (0 + 1) / 2 = 0 from rfl]
          try rw [show (0 : Nat) / 2 = 0 from rfl]
          omega
        | succ j ih =>
          intro n hn m
          have hp : 2 ^ (j + 1) = 2 * 2 ^ j := by rw [Nat.pow_succ]; omega
          have := ih (n / 2) (by omega) m
          rw [show j + 1 + 1 + m = (j + 1 + m) + 1 by omega]
          show (n + 2 ^ (j + 1)) % 2 + pN (j + 1 + m) ((n + 2 ^ (j + 1)) / 2) = n % 2 + pN (j + 1 + m) (n / 2) + 1
          rw [show (n + 2 ^ (j + 1)) / 2 = n / 2 + 2 ^ j by omega, this]
          omega
      have k1 := key k (tBi T v k).toNat (by omega) (31 - k)
      rw [show k + 1 + (31 - k) = 32 by omega] at k1
      rw [show (tBi T v k + ((2 ^ k : Nat) : Int)).toNat = (tBi T v k).toNat + 2 ^ k by omega, k1]
      omega
    · rename_i e
      rw [← ih]
      omega
/-- sets of SLIPS: is one in it? -/
def cmI (a : Int) (k : Nat) : Int := (Int32.ofInt (Int32.ofInt a >>> (Int32.ofInt (k : Int) &&& 31)).toInt &&& Int32.ofInt 1).toInt
/-- with one more -/
def cmS (a : Int) (k : Nat) : Int := (Int32.ofInt a ||| Int32.ofInt (tSh k)).toInt
/-- WORLDS that are LEFT and have those of its members below k -/
def tCM (T : Nat) (a : Int) : Nat → Int
  | 0 => tUl T 64
  | k + 1 => if cmI a k = 1 then (Int64.ofInt (tCM T a k) &&& Int64.ofInt (tUl T k)).toInt else tCM T a k
/-- 1: it FITS, and none of the first SLIPS can be added -/
def tWo (T : Nat) (a : Int) : Nat → Int
  | 0 => if tCM T a 12 = 0 then 0 else 1
  | k + 1 => if cmI a k = 1 ∨ tCM T (cmS a k) 12 = 0 then tWo T a k else 0
/-- bits counted -/
def tPc (s : Int) : Nat := pN 32 (s % 4294967296).toNat
/-- of the sets below one: how many FIT, the GREATEST, the CORE, how many are WHOLE; the i-th WHOLE one -/
def tFC (T : Nat) : Nat → Int
  | 0 => 0
  | s + 1 => if tCM T (s : Int) 12 = 0 then tFC T s else tFC T s + 1
def tGR (T : Nat) : Nat → Int
  | 0 => -1
  | s + 1 => if tCM T (s : Int) 12 = 0 then tGR T s else if tGR T s = -1 ∨ tPc (tGR T s) < tPc (s : Int) then (s : Int) else tGR T s
def tCR (T : Nat) : Nat → Int
  | 0 => -1
  | s + 1 => if tCM T (s : Int) 12 = 0 then (if tCR T s = -1 ∨ tPc (s : Int) < tPc (tCR T s) then (s : Int) else tCR T s) else tCR T s
def tWC (T n : Nat) : Nat → Int
  | 0 => 0
  | s + 1 => if tWo T (s : Int) n = 1 then tWC T n s + 1 else tWC T n s
def tWA (T n : Nat) (i : Int) : Nat → Int
  | 0 => -1
  | s + 1 => if tWo T (s : Int) n = 1 ∧ tWC T n s = i then (s : Int) else tWA T n i s
def tSe (T : Nat) (w : Int) (n : Nat) : Int := if w = 0 then tFC T (2 ^ n) else if w = 1 then tGR T (2 ^ n) else if w = 2 then tWC T n (2 ^ n) else tCR T (2 ^ n)
theorem tCM_rg (T : Nat) (a : Int) : ∀ k, -9223372036854775808 ≤ tCM T a k ∧ tCM T a k ≤ 9223372036854775807
  | 0 => i64_rg _
  | k + 1 => by
    unfold tCM
    split
    · exact i64_rg _
    · exact tCM_rg T a k
theorem tWo_01 (T : Nat) (a : Int) : ∀ k, tWo T a k = 0 ∨ tWo T a k = 1
  | 0 => by
    unfold tWo
    split
    · exact Or.inl rfl
    · exact Or.inr rfl
  | k + 1 => by
    unfold tWo
    split
    · exact tWo_01 T a k
    · exact Or.inl rfl
theorem tFC_rg (T : Nat) : ∀ s : Nat, 0 ≤ tFC T s ∧ tFC T s ≤ (s : Int)
  | 0 => ⟨Int.le_refl _, Int.le_refl _⟩
  | s + 1 => by
    have ih := tFC_rg T s
    unfold tFC
    split <;> omega
theorem tGR_rg (T : Nat) : ∀ s : Nat, -1 ≤ tGR T s ∧ tGR T s < (s : Int)
  | 0 => ⟨Int.le_refl _, by show (-1 : Int) < 0; decide⟩
  | s + 1 => by
    have ih := tGR_rg T s
    unfold tGR
    split
    · omega
    · split <;> omega
theorem tCR_rg (T : Nat) : ∀ s : Nat, -1 ≤ tCR T s ∧ tCR T s < (s : Int)
  | 0 => ⟨Int.le_refl _, by show (-1 : Int) < 0; decide⟩
  | s + 1 => by
    have ih := tCR_rg T s
    unfold tCR
    split
    · split <;> omega
    · omega
theorem tWC_rg (T n : Nat) : ∀ s : Nat, 0 ≤ tWC T n s ∧ tWC T n s ≤ (s : Int)
  | 0 => ⟨Int.le_refl _, Int.le_refl _⟩
  | s + 1 => by
    have ih := tWC_rg T n s
    unfold tWC
    split <;> omega
theorem tWA_rg (T n : Nat) (i : Int) : ∀ s : Nat, -1 ≤ tWA T n i s ∧ tWA T n i s < (s : Int)
  | 0 => ⟨Int.le_refl _, by show (-1 : Int) < 0; decide⟩
  | s + 1 => by
    have ih := tWA_rg T n i s
    unfold tWA
    split <;> omega
theorem tP12 (b : Nat) : 2 ^ Nat.min b 12 ≤ 4096 := Nat.pow_le_pow_right (n := 2) (i := Nat.min b 12) (j := 12) (by decide) (Nat.min_le_right _ _)
theorem tSe_rg (T : Nat) (w : Int) (b : Nat) : -1 ≤ tSe T w (Nat.min b 12) ∧ tSe T w (Nat.min b 12) ≤ 4096 := by
  have hp := tP12 b
  have h1 := tFC_rg T (2 ^ Nat.min b 12)
  have h2 := tGR_rg T (2 ^ Nat.min b 12)
  have h3 := tWC_rg T (Nat.min b 12) (2 ^ Nat.min b 12)
  have h4 := tCR_rg T (2 ^ Nat.min b 12)
  unfold tSe
  split
  · omega
  · split
    · omega
    · split <;> omega
def sxSem (T : Nat) (op : Nat) (a b : Int) : Int := match op with
  | 1 => (Int32.ofInt a * Int32.ofInt b).toInt
  | 2 => (Int32.ofInt a &&& Int32.ofInt b).toInt
  | 3 => (Int32.ofInt a ||| Int32.ofInt b).toInt
  | 4 => (Int32.ofInt a ^^^ Int32.ofInt b).toInt
  | 6 => (Int32.ofInt a <<< (Int32.ofInt b &&& 31)).toInt
  | 7 => (Int32.ofInt a >>> (Int32.ofInt b &&& 31)).toInt
  | 8 => ((Int32.ofInt a).toUInt32 >>> ((Int32.ofInt b).toUInt32 &&& Int32.toUInt32 31)).toInt32.toInt
  | 11 => (Int64.ofInt a * Int64.ofInt b).toInt
  | 12 => (Int64.ofInt a &&& Int64.ofInt b).toInt
  | 13 => (Int64.ofInt a ||| Int64.ofInt b).toInt
  | 14 => (Int64.ofInt a ^^^ Int64.ofInt b).toInt
  | 16 => (Int64.ofInt a <<< ((Int32.ofInt b).toInt64 &&& 63)).toInt
  | 17 => (Int64.ofInt a >>> ((Int32.ofInt b).toInt64 &&& 63)).toInt
  | 18 => ((Int64.ofInt a).toUInt64 >>> ((Int32.ofInt b).toInt64.toUInt64 &&& Int64.toUInt64 63)).toInt64.toInt
  | 19 => ((Int32.ofInt a).toInt8.toInt32).toInt
  | 21 => if a = b then 0 else 1
  | 40 => tLn T
  | 41 => tBy T a
  | 42 => tSk T a
  | 43 => tWe T a
  | 44 => tNe T a
  | 45 => tVl T 1000000 a (b - a).toNat
  | 46 => tNv T 1000000 a
  | 47 => tVl T 100000 a (b - a).toNat
  | 48 => tNv T 100000 a
  | 49 => tCo T a b.toNat
  | 50 => tCw T a
  | 23 => ((a % 18446744073709551616).toNat / 2 ^ b.toNat % 2 : Nat)
  | 24 => if a = b then 1 else 0
  | 25 => if a = 1 ∧ b = 1 then 1 else 0
  | 56 => tUl T a.toNat
  | 57 => tUl T (17 + a.toNat)
  | 58 => tUl T (34 + a.toNat)
  | 59 => tCl 0 63 (tUl T (51 + a.toNat))
  | 61 => tLF T a b.toNat
  | 62 => tWk T
  | 63 => tBi T a (Nat.min b.toNat 31)
  | 64 => tCn T a (Nat.min b.toNat 31)
  | 65 => tFo T a b.toNat
  | 66 => tCM T a 12
  | 67 => tCM T a b.toNat
  | 68 => tUl T 64
  | 69 => tWo T a b.toNat
  | 70 => tWo T a b.toNat
  | 71 => tFC T a.toNat
  | 72 => tGR T a.toNat
  | 73 => tCR T a.toNat
  | 74 => tWC T b.toNat a.toNat
  | 79 => tWA T (Nat.min b.toNat 12) a (2 ^ Nat.min b.toNat 12)
  | 86 => tSe T a (Nat.min b.toNat 12)
  | 51 => tAll a
  | 52 => tAtm a
  | 53 => (Int64.ofInt (tAtm a) &&& Int64.ofInt (tAll b)).toInt
  | 5 => (Int32.ofInt a + Int32.ofInt b).toInt
  | 15 => (Int32.ofInt a - Int32.ofInt b).toInt
  | 9 => (Int64.ofInt a + Int64.ofInt b).toInt
  | 10 => (Int64.ofInt a - Int64.ofInt b).toInt
  | 20 => ((Int64.ofInt a).toInt32).toInt
  | 54 => (pN 64 (a % 18446744073709551616).toNat : Nat)
  | 55 => (pN 32 (a % 4294967296).toNat : Nat)
  | 60 => (pN (Nat.min b.toNat 64) (a % 18446744073709551616).toNat : Nat)
  | _ => 0
/-- where what a table gives lies -/
def sxTbR : Nat → Option (Int × Int)
  | 40 => some (0, 600)
  | 41 => some (-1, 255)
  | 42 => some (0, 600)
  | 43 => some (0, 600)
  | 44 => some (0, 600)
  | 46 => some (0, 1000000)
  | 48 => some (0, 100000)
  | 50 => some (-1, 387420488)
  | 51 => some (-9223372036854775808, 9223372036854775807)
  | 52 => some (-9223372036854775808, 9223372036854775807)
  | 53 => some (-9223372036854775808, 9223372036854775807)
  | 54 => some (0, 64)
  | 55 => some (0, 32)
  | 24 => some (0, 1)
  | 25 => some (0, 1)
  | 56 => some (-9223372036854775808, 9223372036854775807)
  | 57 => some (-9223372036854775808, 9223372036854775807)
  | 58 => some (-9223372036854775808, 9223372036854775807)
  | 59 => some (0, 63)
  | 61 => some (-9223372036854775808, 9223372036854775807)
  | 62 => some (0, 51)
  | 63 => some (0, 2147483647)
  | 64 => some (0, 31)
  | 65 => some (-2147483648, 2147483647)
  | 66 => some (-9223372036854775808, 9223372036854775807)
  | 67 => some (-9223372036854775808, 9223372036854775807)
  | 68 => some (-9223372036854775808, 9223372036854775807)
  | 69 => some (0, 1)
  | 70 => some (0, 1)
  | 79 => some (-1, 4095)
  | 86 => some (-1, 4096)
  | _ => none
theorem tLn_le (T : Nat) : tLn T ≤ 600 := Nat.min_le_right _ _
theorem tBy_rg (T : Nat) (p : Int) : -1 ≤ tBy T p ∧ tBy T p ≤ 255 := by
  unfold tBy
  split
  · have : tTx T p.toNat < 256 := Nat.mod_lt _ (by decide)
    omega
  · omega
theorem tBy_out {T : Nat} {p : Int} (h : (tLn T : Int) ≤ p) : tBy T p = -1 := by
  unfold tBy
  rw [if_neg (by omega)]
theorem tRun_ge {f : Int → Bool} : ∀ {n : Nat} {p : Int}, p ≤ tRun f n p
  | 0, p => Int.le_refl _
  | n + 1, p => by
    unfold tRun
    split
    · have := tRun_ge (f := f) (n := n) (p := p + 1)
      omega
    · exact Int.le_refl _
/-- such bytes stand in the text alone -/
def tOwn (T : Nat) (f : Int → Bool) : Prop := ∀ p, f p = true → p < tLn T
theorem tOwn_bk (T : Nat) : tOwn T (tBk T) := fun p h => by
  have h := of_decide_eq_true h
  rcases Int.lt_or_le p (tLn T) with q | q
  · exact q
  · rw [tBy_out q] at h
    omega
theorem tOwn_lt (T : Nat) : tOwn T (tLt T) := fun p h => by
  simp only [tLt, Bool.and_eq_true, decide_eq_true_eq] at h
  rcases Int.lt_or_le p (tLn T) with q | q
  · exact q
  · rw [tBy_out q] at h
    omega
theorem tOwn_dg (T : Nat) : tOwn T (tDg T) := fun p h => by
  simp only [tDg, Bool.and_eq_true, decide_eq_true_eq] at h
  rcases Int.lt_or_le p (tLn T) with q | q
  · exact q
  · rw [tBy_out q] at h
    omega
theorem tRun_le {T : Nat} {f : Int → Bool} (ho : tOwn T f) : ∀ {n : Nat} {p : Int}, p ≤ tLn T → tRun f n p ≤ tLn T
  | 0, p, h => h
  | n + 1, p, h => by
    unfold tRun
    split
    · rename_i hf
      have := ho p hf
      exact tRun_le ho (by omega)
    · exact h
theorem tRun_fuel {T : Nat} {f : Int → Bool} (ho : tOwn T f) : ∀ {n : Nat} {p : Int}, (tLn T : Int) - p < n → tRun f (n + 1) p = tRun f n p
  | 0, p, h => by
    unfold tRun
    split
    · rename_i hf
      have := ho p hf
      omega
    · rfl
  | n + 1, p, h => by
    show (if f p = true then tRun f (n + 1) (p + 1) else p) = (if f p = true then tRun f n (p + 1) else p)
    split
    · exact tRun_fuel ho (by omega)
    · rfl
/-- a step of the run -/
theorem tRun_st {T : Nat} {f : Int → Bool} (ho : tOwn T f) {p : Int} (h0 : 0 ≤ p) (hf : f p = true) : tRun f 601 p = tRun f 601 (p + 1) := by
  have h1 := tLn_le T
  have h2 := ho p hf
  have h3 : tRun f 601 p = tRun f 600 (p + 1) := by
    rw [tRun, if_pos hf]
  rw [h3]
  exact (tRun_fuel ho (by omega)).symm
theorem tRun_no {f : Int → Bool} {n : Nat} {p : Int} (hf : f p = false) : tRun f (n + 1) p = p := by
  rw [tRun, if_neg (by rw [hf]; decide)]
theorem tRun_end {T : Nat} {f : Int → Bool} (ho : tOwn T f) : ∀ {n : Nat} {p : Int}, (tLn T : Int) - p < n → f (tRun f n p) = false
  | 0, p, h => by
    unfold tRun
    cases hf : f p with
    | false => rfl
    | true => have := ho p hf; omega
  | n + 1, p, h => by
    rw [tRun]
    split
    · exact tRun_end ho (by omega)
    · rename_i hf
      simpa using hf
theorem tIn_rg {p z : Int} (h : 0 ≤ p → p ≤ 600 → 0 ≤ z ∧ z ≤ 600) : 0 ≤ tIn p z ∧ tIn p z ≤ 600 := by
  unfold tIn
  split
  · rename_i q
    exact h q.1 q.2
  · omega
theorem tRun_rg {T : Nat} {f : Int → Bool} (ho : tOwn T f) {p : Int} (h0 : 0 ≤ p) (h1 : p ≤ 600) : 0 ≤ tRun f 601 p ∧ tRun f 601 p ≤ 600 := by
  have h2 := tRun_ge (f := f) (n := 601) (p := p)
  have h3 := tLn_le T
  refine ⟨by omega, ?_⟩
  rcases Int.lt_or_le (tLn T) p with q | q
  case inr => have := tRun_le ho (n := 601) q; omega
  · have hf : f p = false := by
      cases hf : f p with
      | false => rfl
      | true => have := ho p hf; omega
    rw [tRun_no hf]
    exact h1
theorem tCl_rg {lo hi z : Int} (h : lo ≤ hi) : lo ≤ tCl lo hi z ∧ tCl lo hi z ≤ hi := by
  unfold tCl
  split
  · omega
  · split <;> omega
theorem sxTbR_ok {T op : Nat} {r : Int × Int} (a b : Int) (h : sxTbR op = some r) : r.1 ≤ sxSem T op a b ∧ sxSem T op a b ≤ r.2 := by
  unfold sxTbR at h
  split at h <;> cases h <;> simp only [sxSem]
  · have := tLn_le T
    omega
  · exact tBy_rg T a
  · exact tIn_rg fun h1 h2 => tRun_rg (tOwn_bk T) h1 h2
  · exact tIn_rg fun h1 h2 => tRun_rg (tOwn_lt T) h1 h2
  · exact tIn_rg fun h1 h2 => tRun_rg (tOwn_dg T) h1 h2
  · exact tCl_rg (by decide)
  · exact tCl_rg (by decide)
  · unfold tCw
    split
    · omega
    · have := tCl_rg (lo := 0) (hi := 387420488) (z := tCo T a (tWe T a - a).toNat) (by decide)
      omega
  · exact tAll_rg a
  · exact tAtm_rg a
  · exact i64_rg _
  · have := pN_le 64 (a % 18446744073709551616).toNat
    omega
  · have := pN_le 32 (a % 4294967296).toNat
    omega
  · split <;> omega
  · split <;> omega
  · exact i64_rg _
  · exact i64_rg _
  · exact i64_rg _
  · exact tCl_rg (by decide)
  · exact tLF_rg a b.toNat
  · exact tCl_rg (z := tUl T 63) (by decide)
  · have h1 := tBi_rg T a (Nat.min b.toNat 31) (Nat.min_le_right _ _)
    have h2 : 2 ^ Nat.min b.toNat 31 ≤ 2 ^ 31 := Nat.pow_le_pow_right (by decide) (Nat.min_le_right _ _)
    have h3 : (2 : Nat) ^ 31 = 2147483648 := rfl
    omega
  · have h1 := tCn_rg T a (Nat.min b.toNat 31)
    have h2 : Nat.min b.toNat 31 ≤ 31 := Nat.min_le_right _ _
    omega
  · exact tFo_rg T a b.toNat
  · exact tCM_rg T a 12
  · exact tCM_rg T a b.toNat
  · exact i64_rg _
  · have := tWo_01 T a b.toNat
    omega
  · have := tWo_01 T a b.toNat
    omega
  · have h1 := tWA_rg T (Nat.min b.toNat 12) a (2 ^ Nat.min b.toNat 12)
    have h2 := tP12 b.toNat
    omega
  · exact tSe_rg T a b.toNat
end SXSEM

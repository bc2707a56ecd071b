/-! PC: numbers and bits -/
section PCNUM
theorem zz_ti {z : Int} (h1 : -2147483648 ≤ z := by omega) (h2 : z < 2147483648 := by omega) : (Int32.ofInt z).toInt = z := i32_of h1 h2
theorem zz_cl {z : Int} (h1 : 0 ≤ z := by omega) (h2 : z < 2147483648 := by omega) : (Int32.ofInt z).toNatClampNeg = z.toNat := by
  show (Int32.ofInt z).toInt.toNat = _
  rw [i32_of (by omega) h2]
theorem zz_cn {n : Nat} (h : n < 2147483648 := by omega) : (Int32.ofInt (n : Int)).toNatClampNeg = n := by
  rw [zz_cl]
  rfl
theorem zz_lt {a b : Int} (h1 : -2147483648 ≤ a := by omega) (h2 : a < 2147483648 := by omega) (h3 : -2147483648 ≤ b := by omega) (h4 : b < 2147483648 := by omega) : Int32.ofInt a < Int32.ofInt b ↔ a < b := by
  rw [Int32.lt_iff_toInt_lt, i32_of h1 h2, i32_of h3 h4]
theorem zz_le {a b : Int} (h1 : -2147483648 ≤ a := by omega) (h2 : a < 2147483648 := by omega) (h3 : -2147483648 ≤ b := by omega) (h4 : b < 2147483648 := by omega) : Int32.ofInt a ≤ Int32.ofInt b ↔ a ≤ b := by
  rw [Int32.le_iff_toInt_le, i32_of h1 h2, i32_of h3 h4]
theorem zz_eq {a b : Int} (h1 : -2147483648 ≤ a := by omega) (h2 : a < 2147483648 := by omega) (h3 : -2147483648 ≤ b := by omega) (h4 : b < 2147483648 := by omega) : Int32.ofInt a = Int32.ofInt b ↔ a = b := by
  constructor
  · intro h
    have e := congrArg Int32.toInt h
    rw [i32_of h1 h2, i32_of h3 h4] at e
    exact e
  · intro h
    rw [h]
theorem zz_add (a b : Int) : Int32.ofInt a + Int32.ofInt b = Int32.ofInt (a + b) := (Int32.ofInt_add a b).symm
theorem zz_sub (a b : Int) : Int32.ofInt a - Int32.ofInt b = Int32.ofInt (a - b) := (Int32.ofInt_sub a b).symm
theorem zz_mul (a b : Int) : Int32.ofInt a * Int32.ofInt b = Int32.ofInt (a * b) := (Int32.ofInt_mul a b).symm
theorem zz_0 : (0 : Int32) = Int32.ofInt 0 := by decide
theorem zz_nn {a : Int} (h : ¬ Int32.ofInt a < 0) (h1 : -2147483648 ≤ a := by omega) (h2 : a < 2147483648 := by omega) : 0 ≤ a := by
  rw [zz_0, zz_lt] at h
  omega
theorem zz_of (x : Int32) : x = Int32.ofInt x.toInt := (Int32.ofInt_toInt x).symm
theorem zz_nI {n : Nat} : Int32.ofInt (n : Int) = nI n := Int32.ofInt_eq_ofNat
theorem bz_one {n i : Nat} (hn : n < 32) (hi : i < 32) : bt (Int32.ofInt 1 <<< (Int32.ofInt (n : Int) &&& 31)) i = decide (i = n) := by
  rw [zz_nI, b_shl n hn _ hi]
  by_cases h : i = n
  · subst h
    rw [Nat.sub_self, decide_eq_true rfl, decide_eq_true (Nat.le_refl i)]
    decide
  · rw [decide_eq_false h]
    by_cases h2 : n ≤ i
    · rw [decide_eq_true h2]
      have : 1 ≤ i - n := by omega
      have h3 : i - n < 32 := by omega
      revert this h3
      generalize i - n = k
      intro h4 h3
      revert h4
      revert k
      decide +kernel
    · rw [decide_eq_false h2]
      rfl
theorem bz_tst {x : Int32} {n : Nat} (hn : n < 32) : ((x >>> (Int32.ofInt (n : Int) &&& 31)) &&& Int32.ofInt 1) = Int32.ofInt 0 ↔ bt x n = false := by
  have h1 : ∀ i, i < 32 → bt ((x >>> (Int32.ofInt (n : Int) &&& 31)) &&& Int32.ofInt 1) i = (decide (i = 0) && bt x n) := by
    intro i hi
    rw [b_and, zz_nI, b_sshr n hn _ hi]
    have e : bt (Int32.ofInt 1) i = decide (i = 0) := by
      revert hi
      revert i
      decide +kernel
    rw [e]
    by_cases h0 : i = 0
    · subst h0
      rw [if_pos (by omega), decide_eq_true rfl, Bool.and_true, Bool.true_and, Nat.add_zero]
    · rw [decide_eq_false h0, Bool.and_false, Bool.false_and]
  constructor
  · intro h
    have h2 := h1 0 (by omega)
    rw [h] at h2
    rw [show bt (Int32.ofInt 0) 0 = false by decide] at h2
    simpa using h2.symm
  · intro h
    refine b_ext (fun i hi => ?_)
    rw [h1 i hi, h, Bool.and_false]
    exact (b_0 i).symm
theorem bz_bit {x : Int32} {n : Nat} (hn : n < 32) : ((x >>> (Int32.ofInt (n : Int) &&& 31)) &&& Int32.ofInt 1) = Int32.ofInt (if bt x n = true then 1 else 0) := by
  have h1 : ∀ i, i < 32 → bt ((x >>> (Int32.ofInt (n : Int) &&& 31)) &&& Int32.ofInt 1) i = (decide (i = 0) && bt x n) := by
    intro i hi
    rw [b_and, zz_nI, b_sshr n hn _ hi]
    have e : bt (Int32.ofInt 1) i = decide (i = 0) := by
      revert hi
      revert i
      decide +kernel
    rw [e]
    by_cases h0 : i = 0
    · subst h0
      rw [if_pos (by omega), decide_eq_true rfl, Bool.and_true, Bool.true_and, Nat.add_zero]
    · rw [decide_eq_false h0, Bool.and_false, Bool.false_and]
  refine b_ext (fun i hi => ?_)
  rw [h1 i hi]
  cases bt x n with
  | true =>
    rw [if_pos rfl, Bool.and_true]
    revert hi
    revert i
    decide +kernel
  | false =>
    rw [if_neg (by decide), Bool.and_false]
    exact (b_0 i).symm
theorem bz_not {x : Int32} {i : Nat} (hi : i < 32) : bt (x ^^^ Int32.ofInt (-1)) i = !bt x i := by
  rw [b_xor, show bt (Int32.ofInt (-1)) i = true from b_m1 i hi, Bool.xor_true]
theorem bz_set {x : Int32} {n i : Nat} (hn : n < 32) (hi : i < 32) : bt (x ||| (Int32.ofInt 1 <<< (Int32.ofInt (n : Int) &&& 31))) i = (bt x i || decide (i = n)) := by
  rw [b_or, bz_one hn hi]
theorem bz_clr {x : Int32} {n i : Nat} (hn : n < 32) (hi : i < 32) : bt (x &&& ((Int32.ofInt 1 <<< (Int32.ofInt (n : Int) &&& 31)) ^^^ Int32.ofInt (-1))) i = (bt x i && !decide (i = n)) := by
  rw [b_and, bz_not hi, bz_one hn hi]
theorem bz_and0 {x y : Int32} : (x &&& y) = Int32.ofInt 0 ↔ ∀ i, i < 32 → bt x i = true → bt y i = true → False := by
  constructor
  · intro h i hi h1 h2
    have e : bt (x &&& y) i = true := by rw [b_and, h1, h2]; rfl
    rw [h] at e
    rw [show bt (Int32.ofInt 0) i = false from b_0 i] at e
    cases e
  · intro h
    refine b_ext (fun i hi => ?_)
    rw [b_and, show bt (Int32.ofInt 0) i = false from b_0 i]
    cases h1 : bt x i with
    | false => rfl
    | true =>
      cases h2 : bt y i with
      | false => rfl
      | true => exact (h i hi h1 h2).elim
theorem bz_0 {i : Nat} : bt (Int32.ofInt 0) i = false := b_0 i
/-- longs -/
theorem lz_cmp {x y : Int64} : lg_cmp x y = Int32.ofInt 0 ↔ x = y := by
  constructor
  · intro h
    rcases Int.lt_trichotomy x.toInt y.toInt with g | g | g
    · rw [sxLgLt g] at h
      exact absurd h (by decide)
    · exact Int64.toInt_inj.mp g
    · rw [sxLgGt g] at h
      exact absurd h (by decide)
  · intro h
    rw [sxLgEq (congrArg Int64.toInt h)]
    decide
end PCNUM
